-- StrokeOutliner$Stroke.forget()V
def F_X10_forget  : (Int32) :=
  0
abbrev wd_X10_forget (cI : ClassId) (a0 : Nat → Nat) (a1 : Nat → Nat) (a2 : Nat → Nat) (a3 : Nat → Nat) (v0_3 : Int32) (v0_4 : Int32) (v0_5 : Int32) (v0_6 : Int32) (v0_7 : Int32) : va_W := [(a0 0, .inr (9, [.ref (a3 0), .ref (a2 0), .ref (a1 0), .int v0_3, .int v0_4, .int v0_5, .int v0_6, .int v0_7]))]
abbrev wz_X10_forget : List Cond := .code yX10_forget cX10_forget 1 none :: wALL
abbrev rm_X10_forget : Room := { frames := 0, cells := 0, slots := 0, locals := 0 }
abbrev Q_X10_forget (dC : Nat → ClassId) (dI : Nat → Nat → Nat) (cI : ClassId) (a0 : Nat → Nat) (a1 : Nat → Nat) (a2 : Nat → Nat) (a3 : Nat → Nat) (v0_4 : Int32) (v0_5 : Int32) (v0_6 : Int32) (v0_7 : Int32) (u : (Int32)) (A : Nat → Prop) : Array Value → State → Outcome → State → Prop := va_Qv (fun (_ : Unit) => True) (fun _ => q_at dC dI cI A (wd_X10_forget cI a0 a1 a2 a3 u v0_4 v0_5 v0_6 v0_7)) A
set_option maxHeartbeats 4000000 in
set_option maxRecDepth 100000 in
theorem c_X10_forget (l : Launch) (dC : Nat → ClassId) (dI : Nat → Nat → Nat) (cI : ClassId) (sz : Nat) (a0 : Nat → Nat) (a1 : Nat → Nat) (a2 : Nat → Nat) (a3 : Nat → Nat) (v0_3 : Int32) (v0_4 : Int32) (v0_5 : Int32) (v0_6 : Int32) (v0_7 : Int32) (u : (Int32)) (hF : F_X10_forget = u) : Met l yX10_forget wz_X10_forget rm_X10_forget (va_Pc [.ref (a0 0)] (q_pre dC dI cI (wd_X10_forget cI a0 a1 a2 a3 v0_3 v0_4 v0_5 v0_6 v0_7) sz)) (Q_X10_forget dC dI cI a0 a1 a2 a3 v0_4 v0_5 v0_6 v0_7 u (va_A (wd_X10_forget cI a0 a1 a2 a3 v0_3 v0_4 v0_5 v0_6 v0_7) sz)) 0 0 (va_A (wd_X10_forget cI a0 a1 a2 a3 v0_3 v0_4 v0_5 v0_6 v0_7) sz) := by
  refine Met.ofW (cc := cX10_forget) (maxL := 1) (ret := none) (by decide) rfl ?_
  intro p e s m args below meth c s₁ B hml hv
  obtain ⟨rfl, hsz, hP, hK, hD0⟩ := hv
  have hx := B.exec
  have hb := B.bytes
  have hr := B.returns
  have hts := atoms_spec (ws := wz_X10_forget) B.pre
  have hta := wz_tl hts
  have hown : s.vm.findClass RX10 = some m.cls := findClass_of_methodNamed B.named
  have hlocks := B.notSynchronized
  subst hsz
  have hD := hD0.self (sz := s.heap.size)
  generalize hAe : va_A (wd_X10_forget cI a0 a1 a2 a3 v0_3 v0_4 v0_5 v0_6 v0_7) s.heap.size = A at hD ⊢
  have hA : ∀ q : Nat, s.heap.size ≤ q → A q := fun q h => by rw [← hAe]; exact Or.inr h
  have hS : va_S A s.heap s.heap [] := va_S.rf
  have hP : va_P (dC, dI) vwCl (wd_X10_forget cI a0 a1 a2 a3 v0_3 v0_4 v0_5 v0_6 v0_7) s.heap := hP
  have hl := lv_entry ([.ref (a0 0)]) (n := 1) (Nat.le_of_ble_eq_true rfl)
  rw [lg_entry_eq]
  generalize (lg_sl ([.ref (a0 0)]) ++ List.replicate (1 - (lg_sl ([.ref (a0 0)])).length) Slot.unset).toArray = ls at hl ⊢
  have hl : lv_has ls 1 [(0, .ref (a0 0))] := hl
  obtain ⟨H, hHe⟩ : ∃ H, H = s.heap := ⟨_, rfl⟩
  have hS : va_S A s.heap H [] := by rw [hHe]; exact hS
  have hP : va_P (dC, dI) vwCl (wd_X10_forget cI a0 a1 a2 a3 v0_3 v0_4 v0_5 v0_6 v0_7) H := by rw [hHe]; exact hP
  rw [← hHe]
  unfold F_X10_forget at hF
  refine lv_aload_n hx hb dX10_forget_0 rfl (lv_at hl 0 rfl) ?_
  refine lv_iconst (v := 0) hx hb dX10_forget_1 (by decide) ?_
  refine va_put (D := (dC, dI)) (ci := 9) (v := .int 0) (ty := .int) (C := RX10) (T := TX10) (N := 8) hx hb hta uw_X10 tyX10 tyX10_ok nmX10 hown hK hP hD hS 0 rfl rfl 3 (by decide) (hta _ mA147) (fun _ h9 => h9) rfl (by decide +kernel) rfl rfl (Nat.le_of_ble_eq_true rfl) dX10_forget_2 (fun H locs hP hD hS => ?_)
  have hP : va_P (dC, dI) vwCl (wd_X10_forget cI a0 a1 a2 a3 0 v0_4 v0_5 v0_6 v0_7) H := hP
  have hD : va_D A (wd_X10_forget cI a0 a1 a2 a3 0 v0_4 v0_5 v0_6 v0_7) := hD
  subst hF
  exact W.vret hx hb hr (fun t ht hW => ⟨⟨(), rfl, trivial, by rw [ht]; exact hP, va_K.moved hW.alike hK, hD⟩, hS.F ht⟩) hS.2.2 dX10_forget_5

-- StrokeOutliner$Stroke.measured(LStrokeOutliner$Drawing;)LStrokeOutliner$Segments;
def F_X10_measured_j21 (v0_3 : Int32) (v3_10 : Int32) (v3_0 : Nat → Int32) (v3_1 : Nat → Int32) (v3_2 : Nat → Int32) (v3_3 : Nat → Int32) (v3_4 : Nat → Int32) (v3_5 : Nat → Int32) (v3_6 : Nat → Int32) (v3_7 : Nat → Int32) (v3_8 : Nat → Int32) (v3_9 : Nat → Int32) : Option (Int32 × Int32 × (Nat → Int32) × (Nat → Int32) × (Nat → Int32) × (Nat → Int32) × (Nat → Int32) × (Nat → Int32) × (Nat → Int32) × (Nat → Int32) × (Nat → Int32) × (Nat → Int32)) :=
  some (v0_3, v3_10, v3_0, v3_1, v3_2, v3_3, v3_4, v3_5, v3_6, v3_7, v3_8, v3_9)
def F_X10_measured (n : Nat) (v0_3 : Int32) (v3_10 : Int32) (v3_0 : Nat → Int32) (v3_1 : Nat → Int32) (v3_2 : Nat → Int32) (v3_3 : Nat → Int32) (v3_4 : Nat → Int32) (v3_5 : Nat → Int32) (v3_6 : Nat → Int32) (v3_7 : Nat → Int32) (v3_8 : Nat → Int32) (v3_9 : Nat → Int32) (v4_0 : Nat → Int32) : Option (Int32 × Int32 × (Nat → Int32) × (Nat → Int32) × (Nat → Int32) × (Nat → Int32) × (Nat → Int32) × (Nat → Int32) × (Nat → Int32) × (Nat → Int32) × (Nat → Int32) × (Nat → Int32)) :=
  if 1 ≤ v0_3 then F_X10_measured_j21 v0_3 v3_10 v3_0 v3_1 v3_2 v3_3 v3_4 v3_5 v3_6 v3_7 v3_8 v3_9 else obd (F_X9_measure n v3_0 v3_1 v3_2 v3_3 v3_4 v3_5 v3_6 v3_7 v3_8 v3_9 v4_0) (fun u_2 => F_X10_measured_j21 1 u_2.1 u_2.2.1 u_2.2.2.1 u_2.2.2.2.1 u_2.2.2.2.2.1 u_2.2.2.2.2.2.1 u_2.2.2.2.2.2.2.1 u_2.2.2.2.2.2.2.2.1 u_2.2.2.2.2.2.2.2.2.1 u_2.2.2.2.2.2.2.2.2.2.1 u_2.2.2.2.2.2.2.2.2.2.2)
abbrev wd_X10_measured (cI : ClassId) (a0 : Nat → Nat) (a1 : Nat → Nat) (a2 : Nat → Nat) (a3 : Nat → Nat) (a4 : Nat → Nat) (v0_3 : Int32) (v0_4 : Int32) (v0_5 : Int32) (v0_6 : Int32) (v0_7 : Int32) (v3_10 : Int32) (v3_0 : Nat → Int32) (v3_1 : Nat → Int32) (v3_2 : Nat → Int32) (v3_3 : Nat → Int32) (v3_4 : Nat → Int32) (v3_5 : Nat → Int32) (v3_6 : Nat → Int32) (v3_7 : Nat → Int32) (v3_8 : Nat → Int32) (v3_9 : Nat → Int32) (v4_0 : Nat → Int32) : va_W := [(a0 0, .inr (9, [.ref (a3 0), .ref (a2 0), .ref (a1 0), .int v0_3, .int v0_4, .int v0_5, .int v0_6, .int v0_7])), (a3 0, .inr (8, [.ref (a3 1), .ref (a3 2), .ref (a3 3), .ref (a3 4), .ref (a3 5), .ref (a3 6), .ref (a3 7), .ref (a3 8), .ref (a3 9), .ref (a3 10), .int v3_10])), (a3 1, .inl (cI, 5, .inl v3_0)), (a3 2, .inl (cI, 32, .inl v3_1)), (a3 3, .inl (cI, 32, .inl v3_2)), (a3 4, .inl (cI, 32, .inl v3_3)), (a3 5, .inl (cI, 32, .inl v3_4)), (a3 6, .inl (cI, 32, .inl v3_5)), (a3 7, .inl (cI, 32, .inl v3_6)), (a3 8, .inl (cI, 32, .inl v3_7)), (a3 9, .inl (cI, 32, .inl v3_8)), (a3 10, .inl (cI, 32, .inl v3_9)), (a4 0, .inr (1, [.ref (a4 1)])), (a4 1, .inl (cI, 86, .inl v4_0))]
abbrev wz_X10_measured : List Cond := .code yX10_measured cX10_measured 2 (some (.object "StrokeOutliner$Segments")) :: wALL
abbrev rm_X10_measured : Room := { frames := 3, cells := 0, slots := 0, locals := 87 }
abbrev Q_X10_measured (dC : Nat → ClassId) (dI : Nat → Nat → Nat) (cI : ClassId) (a0 : Nat → Nat) (a1 : Nat → Nat) (a2 : Nat → Nat) (a3 : Nat → Nat) (a4 : Nat → Nat) (v0_4 : Int32) (v0_5 : Int32) (v0_6 : Int32) (v0_7 : Int32) (v4_0 : Nat → Int32) (u : (Int32 × Int32 × (Nat → Int32) × (Nat → Int32) × (Nat → Int32) × (Nat → Int32) × (Nat → Int32) × (Nat → Int32) × (Nat → Int32) × (Nat → Int32) × (Nat → Int32) × (Nat → Int32))) (A : Nat → Prop) : Array Value → State → Outcome → State → Prop := va_Qr (fun (_ : Unit) => True) (fun _ ra t => ra = a3 0 ∧ q_at dC dI cI A (wd_X10_measured cI a0 a1 a2 a3 a4 u.1 v0_4 v0_5 v0_6 v0_7 u.2.1 u.2.2.1 u.2.2.2.1 u.2.2.2.2.1 u.2.2.2.2.2.1 u.2.2.2.2.2.2.1 u.2.2.2.2.2.2.2.1 u.2.2.2.2.2.2.2.2.1 u.2.2.2.2.2.2.2.2.2.1 u.2.2.2.2.2.2.2.2.2.2.1 u.2.2.2.2.2.2.2.2.2.2.2 v4_0) t) A
set_option maxHeartbeats 4000000 in
set_option maxRecDepth 100000 in
theorem c_X10_measured (l : Launch) (dC : Nat → ClassId) (dI : Nat → Nat → Nat) (cI : ClassId) (sz : Nat) (a0 : Nat → Nat) (a1 : Nat → Nat) (a2 : Nat → Nat) (a3 : Nat → Nat) (a4 : Nat → Nat) (v0_3 : Int32) (v0_4 : Int32) (v0_5 : Int32) (v0_6 : Int32) (v0_7 : Int32) (v3_10 : Int32) (v3_0 : Nat → Int32) (v3_1 : Nat → Int32) (v3_2 : Nat → Int32) (v3_3 : Nat → Int32) (v3_4 : Nat → Int32) (v3_5 : Nat → Int32) (v3_6 : Nat → Int32) (v3_7 : Nat → Int32) (v3_8 : Nat → Int32) (v3_9 : Nat → Int32) (v4_0 : Nat → Int32) (n : Nat) (u : (Int32 × Int32 × (Nat → Int32) × (Nat → Int32) × (Nat → Int32) × (Nat → Int32) × (Nat → Int32) × (Nat → Int32) × (Nat → Int32) × (Nat → Int32) × (Nat → Int32) × (Nat → Int32))) (hF : F_X10_measured n v0_3 v3_10 v3_0 v3_1 v3_2 v3_3 v3_4 v3_5 v3_6 v3_7 v3_8 v3_9 v4_0 = some u) : Met l yX10_measured wz_X10_measured rm_X10_measured (va_Pc [.ref (a0 0), .ref (a4 0)] (q_pre dC dI cI (wd_X10_measured cI a0 a1 a2 a3 a4 v0_3 v0_4 v0_5 v0_6 v0_7 v3_10 v3_0 v3_1 v3_2 v3_3 v3_4 v3_5 v3_6 v3_7 v3_8 v3_9 v4_0) sz)) (Q_X10_measured dC dI cI a0 a1 a2 a3 a4 v0_4 v0_5 v0_6 v0_7 v4_0 u (va_A (wd_X10_measured cI a0 a1 a2 a3 a4 v0_3 v0_4 v0_5 v0_6 v0_7 v3_10 v3_0 v3_1 v3_2 v3_3 v3_4 v3_5 v3_6 v3_7 v3_8 v3_9 v4_0) sz)) 0 0 (va_A (wd_X10_measured cI a0 a1 a2 a3 a4 v0_3 v0_4 v0_5 v0_6 v0_7 v3_10 v3_0 v3_1 v3_2 v3_3 v3_4 v3_5 v3_6 v3_7 v3_8 v3_9 v4_0) sz) := by
  refine Met.ofW (cc := cX10_measured) (maxL := 2) (ret := (some (.object "StrokeOutliner$Segments"))) (by decide) rfl ?_
  intro p e s m args below meth c s₁ B hml hv
  obtain ⟨rfl, hsz, hP, hK, hD0⟩ := hv
  have hx := B.exec
  have hb := B.bytes
  have hr := B.returns
  have hts := atoms_spec (ws := wz_X10_measured) B.pre
  have hta := wz_tl hts
  have hown : s.vm.findClass RX10 = some m.cls := findClass_of_methodNamed B.named
  have hlocks := B.notSynchronized
  subst hsz
  have hD := hD0.self (sz := s.heap.size)
  generalize hAe : va_A (wd_X10_measured cI a0 a1 a2 a3 a4 v0_3 v0_4 v0_5 v0_6 v0_7 v3_10 v3_0 v3_1 v3_2 v3_3 v3_4 v3_5 v3_6 v3_7 v3_8 v3_9 v4_0) s.heap.size = A at hD ⊢
  have hA : ∀ q : Nat, s.heap.size ≤ q → A q := fun q h => by rw [← hAe]; exact Or.inr h
  have hS : va_S A s.heap s.heap [] := va_S.rf
  have hP : va_P (dC, dI) vwCl (wd_X10_measured cI a0 a1 a2 a3 a4 v0_3 v0_4 v0_5 v0_6 v0_7 v3_10 v3_0 v3_1 v3_2 v3_3 v3_4 v3_5 v3_6 v3_7 v3_8 v3_9 v4_0) s.heap := hP
  have hl := lv_entry ([.ref (a0 0), .ref (a4 0)]) (n := 2) (Nat.le_of_ble_eq_true rfl)
  rw [lg_entry_eq]
  generalize (lg_sl ([.ref (a0 0), .ref (a4 0)]) ++ List.replicate (2 - (lg_sl ([.ref (a0 0), .ref (a4 0)])).length) Slot.unset).toArray = ls at hl ⊢
  have hl : lv_has ls 2 [(0, .ref (a0 0)), (1, .ref (a4 0))] := hl
  obtain ⟨H, hHe⟩ : ∃ H, H = s.heap := ⟨_, rfl⟩
  have hS : va_S A s.heap H [] := by rw [hHe]; exact hS
  have hP : va_P (dC, dI) vwCl (wd_X10_measured cI a0 a1 a2 a3 a4 v0_3 v0_4 v0_5 v0_6 v0_7 v3_10 v3_0 v3_1 v3_2 v3_3 v3_4 v3_5 v3_6 v3_7 v3_8 v3_9 v4_0) H := by rw [hHe]; exact hP
  rw [← hHe]
  unfold F_X10_measured at hF
  have j21 : ∀ (v0_3 : Int32) (v3_10 : Int32) (v3_0 : Nat → Int32) (v3_1 : Nat → Int32) (v3_2 : Nat → Int32) (v3_3 : Nat → Int32) (v3_4 : Nat → Int32) (v3_5 : Nat → Int32) (v3_6 : Nat → Int32) (v3_7 : Nat → Int32) (v3_8 : Nat → Int32) (v3_9 : Nat → Int32), F_X10_measured_j21 v0_3 v3_10 v3_0 v3_1 v3_2 v3_3 v3_4 v3_5 v3_6 v3_7 v3_8 v3_9 = some u → ∀ (H : Heap) (locs : List Loc) (ls : Array Slot), va_P (dC, dI) vwCl (wd_X10_measured cI a0 a1 a2 a3 a4 v0_3 v0_4 v0_5 v0_6 v0_7 v3_10 v3_0 v3_1 v3_2 v3_3 v3_4 v3_5 v3_6 v3_7 v3_8 v3_9 v4_0) H → va_D A (wd_X10_measured cI a0 a1 a2 a3 a4 v0_3 v0_4 v0_5 v0_6 v0_7 v3_10 v3_0 v3_1 v3_2 v3_3 v3_4 v3_5 v3_6 v3_7 v3_8 v3_9 v4_0) → va_S A s.heap H locs → lv_has ls 2 [(0, .ref (a0 0))] → W p l e (headSpec wz_X10_measured rm_X10_measured).room s m [.ref (a0 0), .ref (a4 0)].toArray below meth c H locs 0 0 (MQ below (Q_X10_measured dC dI cI a0 a1 a2 a3 a4 v0_4 v0_5 v0_6 v0_7 v4_0 u A) [.ref (a0 0), .ref (a4 0)].toArray s 0 0 A) (F0 m 21 ls []) := by
    intro v0_3 v3_10 v3_0 v3_1 v3_2 v3_3 v3_4 v3_5 v3_6 v3_7 v3_8 v3_9 hF H locs ls hP hD hS hl
    unfold F_X10_measured_j21 at hF
    refine lv_aload_n hx hb dX10_measured_21 rfl (lv_at hl 0 rfl) ?_
    refine va_get (D := (dC, dI)) (ci := 9) (v := .ref (a3 0)) (C := RX10) (T := TX10) (N := 8) hx hb hta uw_X10 hown hK hP 0 rfl rfl 0 (by decide) (hta _ mA53) (fun _ h9 => h9) rfl dX10_measured_22 ?_
    obtain rfl := Option.some.inj hF
    exact W.aret (v := .ref (a3 0)) hx hb hr (Or.inl ⟨_, rfl⟩) (Or.inr ⟨_, rfl⟩) (fun t ht hW => ⟨⟨(), (a3 0), rfl, trivial, rfl, by rw [ht]; exact hP, va_K.moved hW.alike hK, hD⟩, hS.F ht⟩) hS.2.2 dX10_measured_25
  refine lv_aload_n hx hb dX10_measured_0 rfl (lv_at hl 0 rfl) ?_
  refine va_get (D := (dC, dI)) (ci := 9) (v := .int v0_3) (C := RX10) (T := TX10) (N := 8) hx hb hta uw_X10 hown hK hP 0 rfl rfl 3 (by decide) (hta _ mA147) (fun _ h9 => h9) rfl dX10_measured_1 ?_
  refine lv_iconst (v := 1) hx hb dX10_measured_4 (by decide) ?_
  refine lv_icmp_ge (tgt := 21) hx hb dX10_measured_5 (by decide) (fun c_1 => ?_) (fun c_1 => ?_)
  · have hF := it_t hF c_1
    exact j21 v0_3 v3_10 v3_0 v3_1 v3_2 v3_3 v3_4 v3_5 v3_6 v3_7 v3_8 v3_9 hF _ _ _ hP hD hS (lv_sub hl [0] rfl)
  · have hF := it_f hF c_1
    refine lv_aload_n hx hb dX10_measured_8 rfl (lv_at hl 0 rfl) ?_
    refine va_get (D := (dC, dI)) (ci := 9) (v := .ref (a3 0)) (C := RX10) (T := TX10) (N := 8) hx hb hta uw_X10 hown hK hP 0 rfl rfl 0 (by decide) (hta _ mA53) (fun _ h9 => h9) rfl dX10_measured_9 ?_
    refine lv_aload_n hx hb dX10_measured_12 rfl (lv_at hl 1 rfl) ?_
    obtain ⟨u_2, hu_2, hF⟩ := obd_some hF
    have hPc := hP.sub (ws' := (wd_X9_measure cI a3 a4 v3_10 v3_0 v3_1 v3_2 v3_3 v3_4 v3_5 v3_6 v3_7 v3_8 v3_9 v4_0)) [1, 2, 3, 4, 5, 6, 7, 8, 9, 10, 11, 12, 13] rfl
    have hDc := hD.sub (ws' := (wd_X9_measure cI a3 a4 v3_10 v3_0 v3_1 v3_2 v3_3 v3_4 v3_5 v3_6 v3_7 v3_8 v3_9 v4_0)) [1, 2, 3, 4, 5, 6, 7, 8, 9, 10, 11, 12, 13] rfl rfl
    refine q_callv (wc := (wd_X9_measure cI a3 a4 v3_10 v3_0 v3_1 v3_2 v3_3 v3_4 v3_5 v3_6 v3_7 v3_8 v3_9 v4_0)) (w1 := (wd_X9_measure cI a3 a4 u_2.1 u_2.2.1 u_2.2.2.1 u_2.2.2.2.1 u_2.2.2.2.2.1 u_2.2.2.2.2.2.1 u_2.2.2.2.2.2.2.1 u_2.2.2.2.2.2.2.2.1 u_2.2.2.2.2.2.2.2.2.1 u_2.2.2.2.2.2.2.2.2.2.1 u_2.2.2.2.2.2.2.2.2.2.2 v4_0)) (ws' := (wd_X10_measured cI a0 a1 a2 a3 a4 v0_3 v0_4 v0_5 v0_6 v0_7 u_2.1 u_2.2.1 u_2.2.2.1 u_2.2.2.2.1 u_2.2.2.2.2.1 u_2.2.2.2.2.2.1 u_2.2.2.2.2.2.2.1 u_2.2.2.2.2.2.2.2.1 u_2.2.2.2.2.2.2.2.2.1 u_2.2.2.2.2.2.2.2.2.2.1 u_2.2.2.2.2.2.2.2.2.2.2 v4_0)) hP hD hS hA [1, 2, 3, 4, 5, 6, 7, 8, 9, 10, 11, 12, 13] [0] [0, 1, 2, 3, 4, 5, 6, 7, 8, 9, 10, 11, 12, 13] rfl rfl rfl (by decide) rfl rfl (va_runV (As := [.ref (a4 0)]) (rest := []) ⟨hx, hb, hml, hown, hta⟩ (c_X9_measure l dC dI cI H.size a3 a4 v3_10 v3_0 v3_1 v3_2 v3_3 v3_4 v3_5 v3_6 v3_7 v3_8 v3_9 v4_0 n u_2 hu_2) (cwV 1 hta (ga_V mA196 mA197 mA198 mA52 mA199) rfl rfl rfl (by decide +kernel) ⟨Nat.le_of_ble_eq_true rfl, Nat.le_of_ble_eq_true rfl⟩) ⟨q_fb, va_recv hK hP (ci := 8) (q0 := 1) rfl rfl, q_ps hPc hK hDc⟩ rfl rfl hl.1 rfl (lv_room (Nat.le_of_ble_eq_true rfl)) dX10_measured_13 ⟨Nat.zero_le _, Nat.zero_le _⟩) (fun H locs hP hD hS => ?_)
    refine lv_aload_n hx hb dX10_measured_16 rfl (lv_at hl 0 rfl) ?_
    refine lv_iconst (v := 1) hx hb dX10_measured_17 (by decide) ?_
    refine va_put (D := (dC, dI)) (ci := 9) (v := .int 1) (ty := .int) (C := RX10) (T := TX10) (N := 8) hx hb hta uw_X10 tyX10 tyX10_ok nmX10 hown hK hP hD hS 0 rfl rfl 3 (by decide) (hta _ mA147) (fun _ h9 => h9) rfl (by decide +kernel) rfl rfl (Nat.le_of_ble_eq_true rfl) dX10_measured_18 (fun H locs hP hD hS => ?_)
    have hP : va_P (dC, dI) vwCl (wd_X10_measured cI a0 a1 a2 a3 a4 1 v0_4 v0_5 v0_6 v0_7 u_2.1 u_2.2.1 u_2.2.2.1 u_2.2.2.2.1 u_2.2.2.2.2.1 u_2.2.2.2.2.2.1 u_2.2.2.2.2.2.2.1 u_2.2.2.2.2.2.2.2.1 u_2.2.2.2.2.2.2.2.2.1 u_2.2.2.2.2.2.2.2.2.2.1 u_2.2.2.2.2.2.2.2.2.2.2 v4_0) H := hP
    have hD : va_D A (wd_X10_measured cI a0 a1 a2 a3 a4 1 v0_4 v0_5 v0_6 v0_7 u_2.1 u_2.2.1 u_2.2.2.1 u_2.2.2.2.1 u_2.2.2.2.2.1 u_2.2.2.2.2.2.1 u_2.2.2.2.2.2.2.1 u_2.2.2.2.2.2.2.2.1 u_2.2.2.2.2.2.2.2.2.1 u_2.2.2.2.2.2.2.2.2.2.1 u_2.2.2.2.2.2.2.2.2.2.2 v4_0) := hD
    exact j21 1 u_2.1 u_2.2.1 u_2.2.2.1 u_2.2.2.2.1 u_2.2.2.2.2.1 u_2.2.2.2.2.2.1 u_2.2.2.2.2.2.2.1 u_2.2.2.2.2.2.2.2.1 u_2.2.2.2.2.2.2.2.2.1 u_2.2.2.2.2.2.2.2.2.2.1 u_2.2.2.2.2.2.2.2.2.2.2 hF _ _ _ hP hD hS (lv_sub hl [0] rfl)

-- StrokeOutliner$Stroke.walked(LStrokeOutliner$Drawing;)LStrokeOutliner$Runs;
def F_X10_walked_j26 (v0_3 : Int32) (v2_10 : Int32) (v2_11 : Int32) (v2_1 : Nat → Int32) (v2_2 : Nat → Int32) (v2_3 : Nat → Int32) (v2_4 : Nat → Int32) (v2_5 : Nat → Int32) (v2_6 : Nat → Int32) (v2_7 : Nat → Int32) (v2_8 : Nat → Int32) (v2_9 : Nat → Int32) (v3_1 : Int32) (v3_2 : Int32) (v3_3 : Int32) (v3_4 : Int32) (v3_0 : Nat → Int32) (v4_10 : Int32) (v4_0 : Nat → Int32) (v4_1 : Nat → Int32) (v4_2 : Nat → Int32) (v4_3 : Nat → Int32) (v4_4 : Nat → Int32) (v4_5 : Nat → Int32) (v4_6 : Nat → Int32) (v4_7 : Nat → Int32) (v4_8 : Nat → Int32) (v4_9 : Nat → Int32) : Option (Int32 × Int32 × Int32 × (Nat → Int32) × (Nat → Int32) × (Nat → Int32) × (Nat → Int32) × (Nat → Int32) × (Nat → Int32) × (Nat → Int32) × (Nat → Int32) × (Nat → Int32) × Int32 × Int32 × Int32 × Int32 × (Nat → Int32) × Int32 × (Nat → Int32) × (Nat → Int32) × (Nat → Int32) × (Nat → Int32) × (Nat → Int32) × (Nat → Int32) × (Nat → Int32) × (Nat → Int32) × (Nat → Int32) × (Nat → Int32)) :=
  some (v0_3, v2_10, v2_11, v2_1, v2_2, v2_3, v2_4, v2_5, v2_6, v2_7, v2_8, v2_9, v3_1, v3_2, v3_3, v3_4, v3_0, v4_10, v4_0, v4_1, v4_2, v4_3, v4_4, v4_5, v4_6, v4_7, v4_8, v4_9)
def F_X10_walked (n : Nat) (v0_3 : Int32) (v2_10 : Int32) (v2_11 : Int32) (v2_1 : Nat → Int32) (v2_2 : Nat → Int32) (v2_3 : Nat → Int32) (v2_4 : Nat → Int32) (v2_5 : Nat → Int32) (v2_6 : Nat → Int32) (v2_7 : Nat → Int32) (v2_8 : Nat → Int32) (v2_9 : Nat → Int32) (v3_1 : Int32) (v3_2 : Int32) (v3_3 : Int32) (v3_4 : Int32) (v3_0 : Nat → Int32) (v4_10 : Int32) (v4_0 : Nat → Int32) (v4_1 : Nat → Int32) (v4_2 : Nat → Int32) (v4_3 : Nat → Int32) (v4_4 : Nat → Int32) (v4_5 : Nat → Int32) (v4_6 : Nat → Int32) (v4_7 : Nat → Int32) (v4_8 : Nat → Int32) (v4_9 : Nat → Int32) (v5_0 : Nat → Int32) : Option (Int32 × Int32 × Int32 × (Nat → Int32) × (Nat → Int32) × (Nat → Int32) × (Nat → Int32) × (Nat → Int32) × (Nat → Int32) × (Nat → Int32) × (Nat → Int32) × (Nat → Int32) × Int32 × Int32 × Int32 × Int32 × (Nat → Int32) × Int32 × (Nat → Int32) × (Nat → Int32) × (Nat → Int32) × (Nat → Int32) × (Nat → Int32) × (Nat → Int32) × (Nat → Int32) × (Nat → Int32) × (Nat → Int32) × (Nat → Int32)) :=
  if 2 ≤ v0_3 then F_X10_walked_j26 v0_3 v2_10 v2_11 v2_1 v2_2 v2_3 v2_4 v2_5 v2_6 v2_7 v2_8 v2_9 v3_1 v3_2 v3_3 v3_4 v3_0 v4_10 v4_0 v4_1 v4_2 v4_3 v4_4 v4_5 v4_6 v4_7 v4_8 v4_9 else obd (F_X10_measured n v0_3 v4_10 v4_0 v4_1 v4_2 v4_3 v4_4 v4_5 v4_6 v4_7 v4_8 v4_9 v5_0) (fun u_2 => obd (F_X8_walk n v2_1 v2_2 v2_3 v2_4 v2_5 v2_6 v2_7 v2_8 v2_9 v3_3 v3_4 v3_0 v5_0 u_2.2.2.1 u_2.2.2.2.2.2.2.2.1) (fun u_3 => F_X10_walked_j26 2 u_3.1 u_3.2.1 u_3.2.2.1 u_3.2.2.2.1 u_3.2.2.2.2.1 u_3.2.2.2.2.2.1 u_3.2.2.2.2.2.2.1 u_3.2.2.2.2.2.2.2.1 u_3.2.2.2.2.2.2.2.2.1 u_3.2.2.2.2.2.2.2.2.2.1 u_3.2.2.2.2.2.2.2.2.2.2.1 u_3.2.2.2.2.2.2.2.2.2.2.2.1 u_3.2.2.2.2.2.2.2.2.2.2.2.2.1 u_3.2.2.2.2.2.2.2.2.2.2.2.2.2.1 u_3.2.2.2.2.2.2.2.2.2.2.2.2.2.2.1 u_3.2.2.2.2.2.2.2.2.2.2.2.2.2.2.2 u_2.2.1 u_2.2.2.1 u_2.2.2.2.1 u_2.2.2.2.2.1 u_2.2.2.2.2.2.1 u_2.2.2.2.2.2.2.1 u_2.2.2.2.2.2.2.2.1 u_2.2.2.2.2.2.2.2.2.1 u_2.2.2.2.2.2.2.2.2.2.1 u_2.2.2.2.2.2.2.2.2.2.2.1 u_2.2.2.2.2.2.2.2.2.2.2.2))
abbrev wd_X10_walked (cI : ClassId) (a0 : Nat → Nat) (a1 : Nat → Nat) (a2 : Nat → Nat) (a3 : Nat → Nat) (a4 : Nat → Nat) (a5 : Nat → Nat) (v0_3 : Int32) (v0_4 : Int32) (v0_5 : Int32) (v0_6 : Int32) (v0_7 : Int32) (v2_10 : Int32) (v2_11 : Int32) (v2_1 : Nat → Int32) (v2_2 : Nat → Int32) (v2_3 : Nat → Int32) (v2_4 : Nat → Int32) (v2_5 : Nat → Int32) (v2_6 : Nat → Int32) (v2_7 : Nat → Int32) (v2_8 : Nat → Int32) (v2_9 : Nat → Int32) (v3_1 : Int32) (v3_2 : Int32) (v3_3 : Int32) (v3_4 : Int32) (v3_0 : Nat → Int32) (v4_10 : Int32) (v4_0 : Nat → Int32) (v4_1 : Nat → Int32) (v4_2 : Nat → Int32) (v4_3 : Nat → Int32) (v4_4 : Nat → Int32) (v4_5 : Nat → Int32) (v4_6 : Nat → Int32) (v4_7 : Nat → Int32) (v4_8 : Nat → Int32) (v4_9 : Nat → Int32) (v5_0 : Nat → Int32) : va_W := [(a0 0, .inr (9, [.ref (a4 0), .ref (a2 0), .ref (a1 0), .int v0_3, .int v0_4, .int v0_5, .int v0_6, .int v0_7])), (a2 0, .inr (7, [.ref (a3 0), .ref (a2 2), .ref (a2 3), .ref (a2 4), .ref (a2 5), .ref (a2 6), .ref (a2 7), .ref (a2 8), .ref (a2 9), .ref (a2 10), .int v2_10, .int v2_11])), (a2 2, .inl (cI, 5, .inl v2_1)), (a2 3, .inl (cI, 928, .inl v2_2)), (a2 4, .inl (cI, 928, .inl v2_3)), (a2 5, .inl (cI, 928, .inl v2_4)), (a2 6, .inl (cI, 928, .inl v2_5)), (a2 7, .inl (cI, 928, .inl v2_6)), (a2 8, .inl (cI, 1024, .inl v2_7)), (a2 9, .inl (cI, 1024, .inl v2_8)), (a2 10, .inl (cI, 1024, .inl v2_9)), (a3 0, .inr (0, [.ref (a3 1), .int v3_1, .int v3_2, .int v3_3, .int v3_4])), (a3 1, .inl (cI, 6, .inl v3_0)), (a4 0, .inr (8, [.ref (a4 1), .ref (a4 2), .ref (a4 3), .ref (a4 4), .ref (a4 5), .ref (a4 6), .ref (a4 7), .ref (a4 8), .ref (a4 9), .ref (a4 10), .int v4_10])), (a4 1, .inl (cI, 5, .inl v4_0)), (a4 2, .inl (cI, 32, .inl v4_1)), (a4 3, .inl (cI, 32, .inl v4_2)), (a4 4, .inl (cI, 32, .inl v4_3)), (a4 5, .inl (cI, 32, .inl v4_4)), (a4 6, .inl (cI, 32, .inl v4_5)), (a4 7, .inl (cI, 32, .inl v4_6)), (a4 8, .inl (cI, 32, .inl v4_7)), (a4 9, .inl (cI, 32, .inl v4_8)), (a4 10, .inl (cI, 32, .inl v4_9)), (a5 0, .inr (1, [.ref (a5 1)])), (a5 1, .inl (cI, 86, .inl v5_0))]
abbrev wz_X10_walked : List Cond := .code yX10_walked cX10_walked 2 (some (.object "StrokeOutliner$Runs")) :: wALL
abbrev rm_X10_walked : Room := { frames := 4, cells := 0, slots := 0, locals := 108 }
abbrev Q_X10_walked (dC : Nat → ClassId) (dI : Nat → Nat → Nat) (cI : ClassId) (a0 : Nat → Nat) (a1 : Nat → Nat) (a2 : Nat → Nat) (a3 : Nat → Nat) (a4 : Nat → Nat) (a5 : Nat → Nat) (v0_4 : Int32) (v0_5 : Int32) (v0_6 : Int32) (v0_7 : Int32) (v5_0 : Nat → Int32) (u : (Int32 × Int32 × Int32 × (Nat → Int32) × (Nat → Int32) × (Nat → Int32) × (Nat → Int32) × (Nat → Int32) × (Nat → Int32) × (Nat → Int32) × (Nat → Int32) × (Nat → Int32) × Int32 × Int32 × Int32 × Int32 × (Nat → Int32) × Int32 × (Nat → Int32) × (Nat → Int32) × (Nat → Int32) × (Nat → Int32) × (Nat → Int32) × (Nat → Int32) × (Nat → Int32) × (Nat → Int32) × (Nat → Int32) × (Nat → Int32))) (A : Nat → Prop) : Array Value → State → Outcome → State → Prop := va_Qr (fun (_ : Unit) => True) (fun _ ra t => ra = a2 0 ∧ q_at dC dI cI A (wd_X10_walked cI a0 a1 a2 a3 a4 a5 u.1 v0_4 v0_5 v0_6 v0_7 u.2.1 u.2.2.1 u.2.2.2.1 u.2.2.2.2.1 u.2.2.2.2.2.1 u.2.2.2.2.2.2.1 u.2.2.2.2.2.2.2.1 u.2.2.2.2.2.2.2.2.1 u.2.2.2.2.2.2.2.2.2.1 u.2.2.2.2.2.2.2.2.2.2.1 u.2.2.2.2.2.2.2.2.2.2.2.1 u.2.2.2.2.2.2.2.2.2.2.2.2.1 u.2.2.2.2.2.2.2.2.2.2.2.2.2.1 u.2.2.2.2.2.2.2.2.2.2.2.2.2.2.1 u.2.2.2.2.2.2.2.2.2.2.2.2.2.2.2.1 u.2.2.2.2.2.2.2.2.2.2.2.2.2.2.2.2.1 u.2.2.2.2.2.2.2.2.2.2.2.2.2.2.2.2.2.1 u.2.2.2.2.2.2.2.2.2.2.2.2.2.2.2.2.2.2.1 u.2.2.2.2.2.2.2.2.2.2.2.2.2.2.2.2.2.2.2.1 u.2.2.2.2.2.2.2.2.2.2.2.2.2.2.2.2.2.2.2.2.1 u.2.2.2.2.2.2.2.2.2.2.2.2.2.2.2.2.2.2.2.2.2.1 u.2.2.2.2.2.2.2.2.2.2.2.2.2.2.2.2.2.2.2.2.2.2.1 u.2.2.2.2.2.2.2.2.2.2.2.2.2.2.2.2.2.2.2.2.2.2.2.1 u.2.2.2.2.2.2.2.2.2.2.2.2.2.2.2.2.2.2.2.2.2.2.2.2.1 u.2.2.2.2.2.2.2.2.2.2.2.2.2.2.2.2.2.2.2.2.2.2.2.2.2.1 u.2.2.2.2.2.2.2.2.2.2.2.2.2.2.2.2.2.2.2.2.2.2.2.2.2.2.1 u.2.2.2.2.2.2.2.2.2.2.2.2.2.2.2.2.2.2.2.2.2.2.2.2.2.2.2 v5_0) t) A
set_option maxHeartbeats 4000000 in
set_option maxRecDepth 100000 in
theorem c_X10_walked (l : Launch) (dC : Nat → ClassId) (dI : Nat → Nat → Nat) (cI : ClassId) (sz : Nat) (a0 : Nat → Nat) (a1 : Nat → Nat) (a2 : Nat → Nat) (a3 : Nat → Nat) (a4 : Nat → Nat) (a5 : Nat → Nat) (v0_3 : Int32) (v0_4 : Int32) (v0_5 : Int32) (v0_6 : Int32) (v0_7 : Int32) (v2_10 : Int32) (v2_11 : Int32) (v2_1 : Nat → Int32) (v2_2 : Nat → Int32) (v2_3 : Nat → Int32) (v2_4 : Nat → Int32) (v2_5 : Nat → Int32) (v2_6 : Nat → Int32) (v2_7 : Nat → Int32) (v2_8 : Nat → Int32) (v2_9 : Nat → Int32) (v3_1 : Int32) (v3_2 : Int32) (v3_3 : Int32) (v3_4 : Int32) (v3_0 : Nat → Int32) (v4_10 : Int32) (v4_0 : Nat → Int32) (v4_1 : Nat → Int32) (v4_2 : Nat → Int32) (v4_3 : Nat → Int32) (v4_4 : Nat → Int32) (v4_5 : Nat → Int32) (v4_6 : Nat → Int32) (v4_7 : Nat → Int32) (v4_8 : Nat → Int32) (v4_9 : Nat → Int32) (v5_0 : Nat → Int32) (n : Nat) (u : (Int32 × Int32 × Int32 × (Nat → Int32) × (Nat → Int32) × (Nat → Int32) × (Nat → Int32) × (Nat → Int32) × (Nat → Int32) × (Nat → Int32) × (Nat → Int32) × (Nat → Int32) × Int32 × Int32 × Int32 × Int32 × (Nat → Int32) × Int32 × (Nat → Int32) × (Nat → Int32) × (Nat → Int32) × (Nat → Int32) × (Nat → Int32) × (Nat → Int32) × (Nat → Int32) × (Nat → Int32) × (Nat → Int32) × (Nat → Int32))) (hF : F_X10_walked n v0_3 v2_10 v2_11 v2_1 v2_2 v2_3 v2_4 v2_5 v2_6 v2_7 v2_8 v2_9 v3_1 v3_2 v3_3 v3_4 v3_0 v4_10 v4_0 v4_1 v4_2 v4_3 v4_4 v4_5 v4_6 v4_7 v4_8 v4_9 v5_0 = some u) : Met l yX10_walked wz_X10_walked rm_X10_walked (va_Pc [.ref (a0 0), .ref (a5 0)] (q_pre dC dI cI (wd_X10_walked cI a0 a1 a2 a3 a4 a5 v0_3 v0_4 v0_5 v0_6 v0_7 v2_10 v2_11 v2_1 v2_2 v2_3 v2_4 v2_5 v2_6 v2_7 v2_8 v2_9 v3_1 v3_2 v3_3 v3_4 v3_0 v4_10 v4_0 v4_1 v4_2 v4_3 v4_4 v4_5 v4_6 v4_7 v4_8 v4_9 v5_0) sz)) (Q_X10_walked dC dI cI a0 a1 a2 a3 a4 a5 v0_4 v0_5 v0_6 v0_7 v5_0 u (va_A (wd_X10_walked cI a0 a1 a2 a3 a4 a5 v0_3 v0_4 v0_5 v0_6 v0_7 v2_10 v2_11 v2_1 v2_2 v2_3 v2_4 v2_5 v2_6 v2_7 v2_8 v2_9 v3_1 v3_2 v3_3 v3_4 v3_0 v4_10 v4_0 v4_1 v4_2 v4_3 v4_4 v4_5 v4_6 v4_7 v4_8 v4_9 v5_0) sz)) 0 0 (va_A (wd_X10_walked cI a0 a1 a2 a3 a4 a5 v0_3 v0_4 v0_5 v0_6 v0_7 v2_10 v2_11 v2_1 v2_2 v2_3 v2_4 v2_5 v2_6 v2_7 v2_8 v2_9 v3_1 v3_2 v3_3 v3_4 v3_0 v4_10 v4_0 v4_1 v4_2 v4_3 v4_4 v4_5 v4_6 v4_7 v4_8 v4_9 v5_0) sz) := by
  refine Met.ofW (cc := cX10_walked) (maxL := 2) (ret := (some (.object "StrokeOutliner$Runs"))) (by decide) rfl ?_
  intro p e s m args below meth c s₁ B hml hv
  obtain ⟨rfl, hsz, hP, hK, hD0⟩ := hv
  have hx := B.exec
  have hb := B.bytes
  have hr := B.returns
  have hts := atoms_spec (ws := wz_X10_walked) B.pre
  have hta := wz_tl hts
  have hown : s.vm.findClass RX10 = some m.cls := findClass_of_methodNamed B.named
  have hlocks := B.notSynchronized
  subst hsz
  have hD := hD0.self (sz := s.heap.size)
  generalize hAe : va_A (wd_X10_walked cI a0 a1 a2 a3 a4 a5 v0_3 v0_4 v0_5 v0_6 v0_7 v2_10 v2_11 v2_1 v2_2 v2_3 v2_4 v2_5 v2_6 v2_7 v2_8 v2_9 v3_1 v3_2 v3_3 v3_4 v3_0 v4_10 v4_0 v4_1 v4_2 v4_3 v4_4 v4_5 v4_6 v4_7 v4_8 v4_9 v5_0) s.heap.size = A at hD ⊢
  have hA : ∀ q : Nat, s.heap.size ≤ q → A q := fun q h => by rw [← hAe]; exact Or.inr h
  have hS : va_S A s.heap s.heap [] := va_S.rf
  have hP : va_P (dC, dI) vwCl (wd_X10_walked cI a0 a1 a2 a3 a4 a5 v0_3 v0_4 v0_5 v0_6 v0_7 v2_10 v2_11 v2_1 v2_2 v2_3 v2_4 v2_5 v2_6 v2_7 v2_8 v2_9 v3_1 v3_2 v3_3 v3_4 v3_0 v4_10 v4_0 v4_1 v4_2 v4_3 v4_4 v4_5 v4_6 v4_7 v4_8 v4_9 v5_0) s.heap := hP
  have hl := lv_entry ([.ref (a0 0), .ref (a5 0)]) (n := 2) (Nat.le_of_ble_eq_true rfl)
  rw [lg_entry_eq]
  generalize (lg_sl ([.ref (a0 0), .ref (a5 0)]) ++ List.replicate (2 - (lg_sl ([.ref (a0 0), .ref (a5 0)])).length) Slot.unset).toArray = ls at hl ⊢
  have hl : lv_has ls 2 [(0, .ref (a0 0)), (1, .ref (a5 0))] := hl
  obtain ⟨H, hHe⟩ : ∃ H, H = s.heap := ⟨_, rfl⟩
  have hS : va_S A s.heap H [] := by rw [hHe]; exact hS
  have hP : va_P (dC, dI) vwCl (wd_X10_walked cI a0 a1 a2 a3 a4 a5 v0_3 v0_4 v0_5 v0_6 v0_7 v2_10 v2_11 v2_1 v2_2 v2_3 v2_4 v2_5 v2_6 v2_7 v2_8 v2_9 v3_1 v3_2 v3_3 v3_4 v3_0 v4_10 v4_0 v4_1 v4_2 v4_3 v4_4 v4_5 v4_6 v4_7 v4_8 v4_9 v5_0) H := by rw [hHe]; exact hP
  rw [← hHe]
  unfold F_X10_walked at hF
  have j26 : ∀ (v0_3 : Int32) (v2_10 : Int32) (v2_11 : Int32) (v2_1 : Nat → Int32) (v2_2 : Nat → Int32) (v2_3 : Nat → Int32) (v2_4 : Nat → Int32) (v2_5 : Nat → Int32) (v2_6 : Nat → Int32) (v2_7 : Nat → Int32) (v2_8 : Nat → Int32) (v2_9 : Nat → Int32) (v3_1 : Int32) (v3_2 : Int32) (v3_3 : Int32) (v3_4 : Int32) (v3_0 : Nat → Int32) (v4_10 : Int32) (v4_0 : Nat → Int32) (v4_1 : Nat → Int32) (v4_2 : Nat → Int32) (v4_3 : Nat → Int32) (v4_4 : Nat → Int32) (v4_5 : Nat → Int32) (v4_6 : Nat → Int32) (v4_7 : Nat → Int32) (v4_8 : Nat → Int32) (v4_9 : Nat → Int32), F_X10_walked_j26 v0_3 v2_10 v2_11 v2_1 v2_2 v2_3 v2_4 v2_5 v2_6 v2_7 v2_8 v2_9 v3_1 v3_2 v3_3 v3_4 v3_0 v4_10 v4_0 v4_1 v4_2 v4_3 v4_4 v4_5 v4_6 v4_7 v4_8 v4_9 = some u → ∀ (H : Heap) (locs : List Loc) (ls : Array Slot), va_P (dC, dI) vwCl (wd_X10_walked cI a0 a1 a2 a3 a4 a5 v0_3 v0_4 v0_5 v0_6 v0_7 v2_10 v2_11 v2_1 v2_2 v2_3 v2_4 v2_5 v2_6 v2_7 v2_8 v2_9 v3_1 v3_2 v3_3 v3_4 v3_0 v4_10 v4_0 v4_1 v4_2 v4_3 v4_4 v4_5 v4_6 v4_7 v4_8 v4_9 v5_0) H → va_D A (wd_X10_walked cI a0 a1 a2 a3 a4 a5 v0_3 v0_4 v0_5 v0_6 v0_7 v2_10 v2_11 v2_1 v2_2 v2_3 v2_4 v2_5 v2_6 v2_7 v2_8 v2_9 v3_1 v3_2 v3_3 v3_4 v3_0 v4_10 v4_0 v4_1 v4_2 v4_3 v4_4 v4_5 v4_6 v4_7 v4_8 v4_9 v5_0) → va_S A s.heap H locs → lv_has ls 2 [(0, .ref (a0 0))] → W p l e (headSpec wz_X10_walked rm_X10_walked).room s m [.ref (a0 0), .ref (a5 0)].toArray below meth c H locs 0 0 (MQ below (Q_X10_walked dC dI cI a0 a1 a2 a3 a4 a5 v0_4 v0_5 v0_6 v0_7 v5_0 u A) [.ref (a0 0), .ref (a5 0)].toArray s 0 0 A) (F0 m 26 ls []) := by
    intro v0_3 v2_10 v2_11 v2_1 v2_2 v2_3 v2_4 v2_5 v2_6 v2_7 v2_8 v2_9 v3_1 v3_2 v3_3 v3_4 v3_0 v4_10 v4_0 v4_1 v4_2 v4_3 v4_4 v4_5 v4_6 v4_7 v4_8 v4_9 hF H locs ls hP hD hS hl
    unfold F_X10_walked_j26 at hF
    refine lv_aload_n hx hb dX10_walked_26 rfl (lv_at hl 0 rfl) ?_
    refine va_get (D := (dC, dI)) (ci := 9) (v := .ref (a2 0)) (C := RX10) (T := TX10) (N := 8) hx hb hta uw_X10 hown hK hP 0 rfl rfl 1 (by decide) (hta _ mA57) (fun _ h9 => h9) rfl dX10_walked_27 ?_
    obtain rfl := Option.some.inj hF
    exact W.aret (v := .ref (a2 0)) hx hb hr (Or.inl ⟨_, rfl⟩) (Or.inr ⟨_, rfl⟩) (fun t ht hW => ⟨⟨(), (a2 0), rfl, trivial, rfl, by rw [ht]; exact hP, va_K.moved hW.alike hK, hD⟩, hS.F ht⟩) hS.2.2 dX10_walked_30
  refine lv_aload_n hx hb dX10_walked_0 rfl (lv_at hl 0 rfl) ?_
  refine va_get (D := (dC, dI)) (ci := 9) (v := .int v0_3) (C := RX10) (T := TX10) (N := 8) hx hb hta uw_X10 hown hK hP 0 rfl rfl 3 (by decide) (hta _ mA147) (fun _ h9 => h9) rfl dX10_walked_1 ?_
  refine lv_iconst (v := 2) hx hb dX10_walked_4 (by decide) ?_
  refine lv_icmp_ge (tgt := 26) hx hb dX10_walked_5 (by decide) (fun c_1 => ?_) (fun c_1 => ?_)
  · have hF := it_t hF c_1
    exact j26 v0_3 v2_10 v2_11 v2_1 v2_2 v2_3 v2_4 v2_5 v2_6 v2_7 v2_8 v2_9 v3_1 v3_2 v3_3 v3_4 v3_0 v4_10 v4_0 v4_1 v4_2 v4_3 v4_4 v4_5 v4_6 v4_7 v4_8 v4_9 hF _ _ _ hP hD hS (lv_sub hl [0] rfl)
  · have hF := it_f hF c_1
    refine lv_aload_n hx hb dX10_walked_8 rfl (lv_at hl 0 rfl) ?_
    refine va_get (D := (dC, dI)) (ci := 9) (v := .ref (a2 0)) (C := RX10) (T := TX10) (N := 8) hx hb hta uw_X10 hown hK hP 0 rfl rfl 1 (by decide) (hta _ mA57) (fun _ h9 => h9) rfl dX10_walked_9 ?_
    refine lv_aload_n hx hb dX10_walked_12 rfl (lv_at hl 1 rfl) ?_
    refine lv_aload_n hx hb dX10_walked_13 rfl (lv_at hl 0 rfl) ?_
    refine lv_aload_n hx hb dX10_walked_14 rfl (lv_at hl 1 rfl) ?_
    obtain ⟨u_2, hu_2, hF⟩ := obd_some hF
    have hPc := hP.sub (ws' := (wd_X10_measured cI a0 a1 a2 a4 a5 v0_3 v0_4 v0_5 v0_6 v0_7 v4_10 v4_0 v4_1 v4_2 v4_3 v4_4 v4_5 v4_6 v4_7 v4_8 v4_9 v5_0)) [0, 13, 14, 15, 16, 17, 18, 19, 20, 21, 22, 23, 24, 25] rfl
    have hDc := hD.sub (ws' := (wd_X10_measured cI a0 a1 a2 a4 a5 v0_3 v0_4 v0_5 v0_6 v0_7 v4_10 v4_0 v4_1 v4_2 v4_3 v4_4 v4_5 v4_6 v4_7 v4_8 v4_9 v5_0)) [0, 13, 14, 15, 16, 17, 18, 19, 20, 21, 22, 23, 24, 25] rfl rfl
    refine q_callr (wc := (wd_X10_measured cI a0 a1 a2 a4 a5 v0_3 v0_4 v0_5 v0_6 v0_7 v4_10 v4_0 v4_1 v4_2 v4_3 v4_4 v4_5 v4_6 v4_7 v4_8 v4_9 v5_0)) (w1 := (wd_X10_measured cI a0 a1 a2 a4 a5 u_2.1 v0_4 v0_5 v0_6 v0_7 u_2.2.1 u_2.2.2.1 u_2.2.2.2.1 u_2.2.2.2.2.1 u_2.2.2.2.2.2.1 u_2.2.2.2.2.2.2.1 u_2.2.2.2.2.2.2.2.1 u_2.2.2.2.2.2.2.2.2.1 u_2.2.2.2.2.2.2.2.2.2.1 u_2.2.2.2.2.2.2.2.2.2.2.1 u_2.2.2.2.2.2.2.2.2.2.2.2 v5_0)) (ws' := (wd_X10_walked cI a0 a1 a2 a3 a4 a5 u_2.1 v0_4 v0_5 v0_6 v0_7 v2_10 v2_11 v2_1 v2_2 v2_3 v2_4 v2_5 v2_6 v2_7 v2_8 v2_9 v3_1 v3_2 v3_3 v3_4 v3_0 u_2.2.1 u_2.2.2.1 u_2.2.2.2.1 u_2.2.2.2.2.1 u_2.2.2.2.2.2.1 u_2.2.2.2.2.2.2.1 u_2.2.2.2.2.2.2.2.1 u_2.2.2.2.2.2.2.2.2.1 u_2.2.2.2.2.2.2.2.2.2.1 u_2.2.2.2.2.2.2.2.2.2.2.1 u_2.2.2.2.2.2.2.2.2.2.2.2 v5_0)) hP hD hS hA [0, 13, 14, 15, 16, 17, 18, 19, 20, 21, 22, 23, 24, 25] [1, 2, 3, 4, 5, 6, 7, 8, 9, 10, 11, 12] [12, 0, 1, 2, 3, 4, 5, 6, 7, 8, 9, 10, 11, 13, 14, 15, 16, 17, 18, 19, 20, 21, 22, 23, 24, 25] rfl rfl rfl (by decide) rfl rfl (va_runV (As := [.ref (a5 0)]) (rest := [.ref (a5 0), .ref (a2 0)]) ⟨hx, hb, hml, hown, hta⟩ (c_X10_measured l dC dI cI H.size a0 a1 a2 a4 a5 v0_3 v0_4 v0_5 v0_6 v0_7 v4_10 v4_0 v4_1 v4_2 v4_3 v4_4 v4_5 v4_6 v4_7 v4_8 v4_9 v5_0 n u_2 hu_2) (cwV 1 hta (ga_V mA353 mA193 mA194 mA23 mA195) rfl rfl rfl (by decide +kernel) ⟨Nat.le_of_ble_eq_true rfl, Nat.le_of_ble_eq_true rfl⟩) ⟨q_fb, va_recv hK hP (ci := 9) (q0 := 0) rfl rfl, q_ps hPc hK hDc⟩ rfl rfl hl.1 rfl (lv_room (Nat.le_of_ble_eq_true rfl)) dX10_walked_15 ⟨Nat.zero_le _, Nat.zero_le _⟩) (fun H locs hP hD hS => ?_)
    obtain ⟨u_3, hu_3, hF⟩ := obd_some hF
    have hPc := hP.sub (ws' := (wd_X8_walk cI a2 a3 a5 a4 v2_10 v2_11 v2_1 v2_2 v2_3 v2_4 v2_5 v2_6 v2_7 v2_8 v2_9 v3_1 v3_2 v3_3 v3_4 v3_0 v5_0 u_2.2.1 u_2.2.2.1 u_2.2.2.2.2.2.2.2.1)) [1, 2, 3, 4, 5, 6, 7, 8, 9, 10, 11, 12, 24, 25, 13, 14, 19] rfl
    have hDc := hD.sub (ws' := (wd_X8_walk cI a2 a3 a5 a4 v2_10 v2_11 v2_1 v2_2 v2_3 v2_4 v2_5 v2_6 v2_7 v2_8 v2_9 v3_1 v3_2 v3_3 v3_4 v3_0 v5_0 u_2.2.1 u_2.2.2.1 u_2.2.2.2.2.2.2.2.1)) [1, 2, 3, 4, 5, 6, 7, 8, 9, 10, 11, 12, 24, 25, 13, 14, 19] rfl rfl
    refine q_callv (wc := (wd_X8_walk cI a2 a3 a5 a4 v2_10 v2_11 v2_1 v2_2 v2_3 v2_4 v2_5 v2_6 v2_7 v2_8 v2_9 v3_1 v3_2 v3_3 v3_4 v3_0 v5_0 u_2.2.1 u_2.2.2.1 u_2.2.2.2.2.2.2.2.1)) (w1 := (wd_X8_walk cI a2 a3 a5 a4 u_3.1 u_3.2.1 u_3.2.2.1 u_3.2.2.2.1 u_3.2.2.2.2.1 u_3.2.2.2.2.2.1 u_3.2.2.2.2.2.2.1 u_3.2.2.2.2.2.2.2.1 u_3.2.2.2.2.2.2.2.2.1 u_3.2.2.2.2.2.2.2.2.2.1 u_3.2.2.2.2.2.2.2.2.2.2.1 u_3.2.2.2.2.2.2.2.2.2.2.2.1 u_3.2.2.2.2.2.2.2.2.2.2.2.2.1 u_3.2.2.2.2.2.2.2.2.2.2.2.2.2.1 u_3.2.2.2.2.2.2.2.2.2.2.2.2.2.2.1 u_3.2.2.2.2.2.2.2.2.2.2.2.2.2.2.2 v5_0 u_2.2.1 u_2.2.2.1 u_2.2.2.2.2.2.2.2.1)) (ws' := (wd_X10_walked cI a0 a1 a2 a3 a4 a5 u_2.1 v0_4 v0_5 v0_6 v0_7 u_3.1 u_3.2.1 u_3.2.2.1 u_3.2.2.2.1 u_3.2.2.2.2.1 u_3.2.2.2.2.2.1 u_3.2.2.2.2.2.2.1 u_3.2.2.2.2.2.2.2.1 u_3.2.2.2.2.2.2.2.2.1 u_3.2.2.2.2.2.2.2.2.2.1 u_3.2.2.2.2.2.2.2.2.2.2.1 u_3.2.2.2.2.2.2.2.2.2.2.2.1 u_3.2.2.2.2.2.2.2.2.2.2.2.2.1 u_3.2.2.2.2.2.2.2.2.2.2.2.2.2.1 u_3.2.2.2.2.2.2.2.2.2.2.2.2.2.2.1 u_3.2.2.2.2.2.2.2.2.2.2.2.2.2.2.2 u_2.2.1 u_2.2.2.1 u_2.2.2.2.1 u_2.2.2.2.2.1 u_2.2.2.2.2.2.1 u_2.2.2.2.2.2.2.1 u_2.2.2.2.2.2.2.2.1 u_2.2.2.2.2.2.2.2.2.1 u_2.2.2.2.2.2.2.2.2.2.1 u_2.2.2.2.2.2.2.2.2.2.2.1 u_2.2.2.2.2.2.2.2.2.2.2.2 v5_0)) hP hD hS hA [1, 2, 3, 4, 5, 6, 7, 8, 9, 10, 11, 12, 24, 25, 13, 14, 19] [0, 15, 16, 17, 18, 20, 21, 22, 23] [0, 9, 10, 11, 12, 13, 14, 15, 16, 17, 18, 19, 20, 23, 24, 1, 2, 3, 4, 25, 5, 6, 7, 8, 21, 22] rfl rfl rfl (by decide) rfl rfl (va_runV (As := [.ref (a5 0), .ref (a4 0)]) (rest := []) ⟨hx, hb, hml, hown, hta⟩ (c_X8_walk l dC dI cI H.size a2 a3 a5 a4 v2_10 v2_11 v2_1 v2_2 v2_3 v2_4 v2_5 v2_6 v2_7 v2_8 v2_9 v3_1 v3_2 v3_3 v3_4 v3_0 v5_0 u_2.2.1 u_2.2.2.1 u_2.2.2.2.2.2.2.2.1 n u_3 hu_3) (cwV 2 hta (ga_V mA354 mA355 mA356 mA56 mA357) rfl rfl rfl (by decide +kernel) ⟨Nat.le_of_ble_eq_true rfl, Nat.le_of_ble_eq_true rfl⟩) ⟨q_fb, va_recv hK hP (ci := 7) (q0 := 1) rfl rfl, q_ps hPc hK hDc⟩ rfl rfl hl.1 rfl (lv_room (Nat.le_of_ble_eq_true rfl)) dX10_walked_18 ⟨Nat.zero_le _, Nat.zero_le _⟩) (fun H locs hP hD hS => ?_)
    refine lv_aload_n hx hb dX10_walked_21 rfl (lv_at hl 0 rfl) ?_
    refine lv_iconst (v := 2) hx hb dX10_walked_22 (by decide) ?_
    refine va_put (D := (dC, dI)) (ci := 9) (v := .int 2) (ty := .int) (C := RX10) (T := TX10) (N := 8) hx hb hta uw_X10 tyX10 tyX10_ok nmX10 hown hK hP hD hS 0 rfl rfl 3 (by decide) (hta _ mA147) (fun _ h9 => h9) rfl (by decide +kernel) rfl rfl (Nat.le_of_ble_eq_true rfl) dX10_walked_23 (fun H locs hP hD hS => ?_)
    have hP : va_P (dC, dI) vwCl (wd_X10_walked cI a0 a1 a2 a3 a4 a5 2 v0_4 v0_5 v0_6 v0_7 u_3.1 u_3.2.1 u_3.2.2.1 u_3.2.2.2.1 u_3.2.2.2.2.1 u_3.2.2.2.2.2.1 u_3.2.2.2.2.2.2.1 u_3.2.2.2.2.2.2.2.1 u_3.2.2.2.2.2.2.2.2.1 u_3.2.2.2.2.2.2.2.2.2.1 u_3.2.2.2.2.2.2.2.2.2.2.1 u_3.2.2.2.2.2.2.2.2.2.2.2.1 u_3.2.2.2.2.2.2.2.2.2.2.2.2.1 u_3.2.2.2.2.2.2.2.2.2.2.2.2.2.1 u_3.2.2.2.2.2.2.2.2.2.2.2.2.2.2.1 u_3.2.2.2.2.2.2.2.2.2.2.2.2.2.2.2 u_2.2.1 u_2.2.2.1 u_2.2.2.2.1 u_2.2.2.2.2.1 u_2.2.2.2.2.2.1 u_2.2.2.2.2.2.2.1 u_2.2.2.2.2.2.2.2.1 u_2.2.2.2.2.2.2.2.2.1 u_2.2.2.2.2.2.2.2.2.2.1 u_2.2.2.2.2.2.2.2.2.2.2.1 u_2.2.2.2.2.2.2.2.2.2.2.2 v5_0) H := hP
    have hD : va_D A (wd_X10_walked cI a0 a1 a2 a3 a4 a5 2 v0_4 v0_5 v0_6 v0_7 u_3.1 u_3.2.1 u_3.2.2.1 u_3.2.2.2.1 u_3.2.2.2.2.1 u_3.2.2.2.2.2.1 u_3.2.2.2.2.2.2.1 u_3.2.2.2.2.2.2.2.1 u_3.2.2.2.2.2.2.2.2.1 u_3.2.2.2.2.2.2.2.2.2.1 u_3.2.2.2.2.2.2.2.2.2.2.1 u_3.2.2.2.2.2.2.2.2.2.2.2.1 u_3.2.2.2.2.2.2.2.2.2.2.2.2.1 u_3.2.2.2.2.2.2.2.2.2.2.2.2.2.1 u_3.2.2.2.2.2.2.2.2.2.2.2.2.2.2.1 u_3.2.2.2.2.2.2.2.2.2.2.2.2.2.2.2 u_2.2.1 u_2.2.2.1 u_2.2.2.2.1 u_2.2.2.2.2.1 u_2.2.2.2.2.2.1 u_2.2.2.2.2.2.2.1 u_2.2.2.2.2.2.2.2.1 u_2.2.2.2.2.2.2.2.2.1 u_2.2.2.2.2.2.2.2.2.2.1 u_2.2.2.2.2.2.2.2.2.2.2.1 u_2.2.2.2.2.2.2.2.2.2.2.2 v5_0) := hD
    exact j26 2 u_3.1 u_3.2.1 u_3.2.2.1 u_3.2.2.2.1 u_3.2.2.2.2.1 u_3.2.2.2.2.2.1 u_3.2.2.2.2.2.2.1 u_3.2.2.2.2.2.2.2.1 u_3.2.2.2.2.2.2.2.2.1 u_3.2.2.2.2.2.2.2.2.2.1 u_3.2.2.2.2.2.2.2.2.2.2.1 u_3.2.2.2.2.2.2.2.2.2.2.2.1 u_3.2.2.2.2.2.2.2.2.2.2.2.2.1 u_3.2.2.2.2.2.2.2.2.2.2.2.2.2.1 u_3.2.2.2.2.2.2.2.2.2.2.2.2.2.2.1 u_3.2.2.2.2.2.2.2.2.2.2.2.2.2.2.2 u_2.2.1 u_2.2.2.1 u_2.2.2.2.1 u_2.2.2.2.2.1 u_2.2.2.2.2.2.1 u_2.2.2.2.2.2.2.1 u_2.2.2.2.2.2.2.2.1 u_2.2.2.2.2.2.2.2.2.1 u_2.2.2.2.2.2.2.2.2.2.1 u_2.2.2.2.2.2.2.2.2.2.2.1 u_2.2.2.2.2.2.2.2.2.2.2.2 hF _ _ _ hP hD hS (lv_sub hl [0] rfl)

-- StrokeOutliner$Stroke.addDisc(II)V
def F_X10_addDisc (v1_3 : Int32) (v1_4 : Int32) (v1_0 : Nat → Int32) (v1_1 : Nat → Int32) (v1_2 : Nat → Int32) (p1 : Int32) (p2 : Int32) : Option (Int32 × Int32 × (Nat → Int32) × (Nat → Int32) × (Nat → Int32)) :=
  obd (F_X7_start v1_3 v1_4 v1_0 3) (fun u_1 => obd (F_X7_addCorner u_1.1 u_1.2.1 v1_1 v1_2 p1 p2) (fun u_2 => some (u_1.1, u_2.1, u_1.2.2, u_2.2.1, u_2.2.2)))
abbrev wd_X10_addDisc (cI : ClassId) (a0 : Nat → Nat) (a1 : Nat → Nat) (a2 : Nat → Nat) (a3 : Nat → Nat) (v0_3 : Int32) (v0_4 : Int32) (v0_5 : Int32) (v0_6 : Int32) (v0_7 : Int32) (v1_3 : Int32) (v1_4 : Int32) (v1_5 : Int32) (v1_0 : Nat → Int32) (v1_1 : Nat → Int32) (v1_2 : Nat → Int32) : va_W := [(a0 0, .inr (9, [.ref (a3 0), .ref (a2 0), .ref (a1 0), .int v0_3, .int v0_4, .int v0_5, .int v0_6, .int v0_7])), (a1 0, .inr (6, [.ref (a1 1), .ref (a1 2), .ref (a1 3), .int v1_3, .int v1_4, .int v1_5])), (a1 1, .inl (cI, 2800, .inl v1_0)), (a1 2, .inl (cI, 11200, .inl v1_1)), (a1 3, .inl (cI, 11200, .inl v1_2))]
abbrev wz_X10_addDisc : List Cond := .code yX10_addDisc cX10_addDisc 3 none :: wALL
abbrev rm_X10_addDisc : Room := { frames := 1, cells := 0, slots := 0, locals := 23 }
abbrev Q_X10_addDisc (dC : Nat → ClassId) (dI : Nat → Nat → Nat) (cI : ClassId) (a0 : Nat → Nat) (a1 : Nat → Nat) (a2 : Nat → Nat) (a3 : Nat → Nat) (v0_3 : Int32) (v0_4 : Int32) (v0_5 : Int32) (v0_6 : Int32) (v0_7 : Int32) (v1_5 : Int32) (u : (Int32 × Int32 × (Nat → Int32) × (Nat → Int32) × (Nat → Int32))) (A : Nat → Prop) : Array Value → State → Outcome → State → Prop := va_Qv (fun (_ : Unit) => True) (fun _ => q_at dC dI cI A (wd_X10_addDisc cI a0 a1 a2 a3 v0_3 v0_4 v0_5 v0_6 v0_7 u.1 u.2.1 v1_5 u.2.2.1 u.2.2.2.1 u.2.2.2.2)) A
set_option maxHeartbeats 4000000 in
set_option maxRecDepth 100000 in
theorem c_X10_addDisc (l : Launch) (dC : Nat → ClassId) (dI : Nat → Nat → Nat) (cI : ClassId) (sz : Nat) (a0 : Nat → Nat) (a1 : Nat → Nat) (a2 : Nat → Nat) (a3 : Nat → Nat) (v0_3 : Int32) (v0_4 : Int32) (v0_5 : Int32) (v0_6 : Int32) (v0_7 : Int32) (v1_3 : Int32) (v1_4 : Int32) (v1_5 : Int32) (v1_0 : Nat → Int32) (v1_1 : Nat → Int32) (v1_2 : Nat → Int32) (p1 : Int32) (p2 : Int32) (u : (Int32 × Int32 × (Nat → Int32) × (Nat → Int32) × (Nat → Int32))) (hF : F_X10_addDisc v1_3 v1_4 v1_0 v1_1 v1_2 p1 p2 = some u) : Met l yX10_addDisc wz_X10_addDisc rm_X10_addDisc (va_Pc [.ref (a0 0), .int p1, .int p2] (q_pre dC dI cI (wd_X10_addDisc cI a0 a1 a2 a3 v0_3 v0_4 v0_5 v0_6 v0_7 v1_3 v1_4 v1_5 v1_0 v1_1 v1_2) sz)) (Q_X10_addDisc dC dI cI a0 a1 a2 a3 v0_3 v0_4 v0_5 v0_6 v0_7 v1_5 u (va_A (wd_X10_addDisc cI a0 a1 a2 a3 v0_3 v0_4 v0_5 v0_6 v0_7 v1_3 v1_4 v1_5 v1_0 v1_1 v1_2) sz)) 0 0 (va_A (wd_X10_addDisc cI a0 a1 a2 a3 v0_3 v0_4 v0_5 v0_6 v0_7 v1_3 v1_4 v1_5 v1_0 v1_1 v1_2) sz) := by
  refine Met.ofW (cc := cX10_addDisc) (maxL := 3) (ret := none) (by decide) rfl ?_
  intro p e s m args below meth c s₁ B hml hv
  obtain ⟨rfl, hsz, hP, hK, hD0⟩ := hv
  have hx := B.exec
  have hb := B.bytes
  have hr := B.returns
  have hts := atoms_spec (ws := wz_X10_addDisc) B.pre
  have hta := wz_tl hts
  have hown : s.vm.findClass RX10 = some m.cls := findClass_of_methodNamed B.named
  have hlocks := B.notSynchronized
  subst hsz
  have hD := hD0.self (sz := s.heap.size)
  generalize hAe : va_A (wd_X10_addDisc cI a0 a1 a2 a3 v0_3 v0_4 v0_5 v0_6 v0_7 v1_3 v1_4 v1_5 v1_0 v1_1 v1_2) s.heap.size = A at hD ⊢
  have hA : ∀ q : Nat, s.heap.size ≤ q → A q := fun q h => by rw [← hAe]; exact Or.inr h
  have hS : va_S A s.heap s.heap [] := va_S.rf
  have hP : va_P (dC, dI) vwCl (wd_X10_addDisc cI a0 a1 a2 a3 v0_3 v0_4 v0_5 v0_6 v0_7 v1_3 v1_4 v1_5 v1_0 v1_1 v1_2) s.heap := hP
  have hl := lv_entry ([.ref (a0 0), .int p1, .int p2]) (n := 3) (Nat.le_of_ble_eq_true rfl)
  rw [lg_entry_eq]
  generalize (lg_sl ([.ref (a0 0), .int p1, .int p2]) ++ List.replicate (3 - (lg_sl ([.ref (a0 0), .int p1, .int p2])).length) Slot.unset).toArray = ls at hl ⊢
  have hl : lv_has ls 3 [(0, .ref (a0 0)), (1, .int p1), (2, .int p2)] := hl
  obtain ⟨H, hHe⟩ : ∃ H, H = s.heap := ⟨_, rfl⟩
  have hS : va_S A s.heap H [] := by rw [hHe]; exact hS
  have hP : va_P (dC, dI) vwCl (wd_X10_addDisc cI a0 a1 a2 a3 v0_3 v0_4 v0_5 v0_6 v0_7 v1_3 v1_4 v1_5 v1_0 v1_1 v1_2) H := by rw [hHe]; exact hP
  rw [← hHe]
  unfold F_X10_addDisc at hF
  refine lv_aload_n hx hb dX10_addDisc_0 rfl (lv_at hl 0 rfl) ?_
  refine va_get (D := (dC, dI)) (ci := 9) (v := .ref (a1 0)) (C := RX10) (T := TX10) (N := 8) hx hb hta uw_X10 hown hK hP 0 rfl rfl 2 (by decide) (hta _ mA61) (fun _ h9 => h9) rfl dX10_addDisc_1 ?_
  refine lv_iconst (v := 3) hx hb dX10_addDisc_4 (by decide) ?_
  obtain ⟨u_1, hu_1, hF⟩ := obd_some hF
  have hPc := hP.sub (ws' := (wd_X7_start cI a1 v1_3 v1_4 v1_5 v1_0)) [1, 2] rfl
  have hDc := hD.sub (ws' := (wd_X7_start cI a1 v1_3 v1_4 v1_5 v1_0)) [1, 2] rfl rfl
  refine q_callv (wc := (wd_X7_start cI a1 v1_3 v1_4 v1_5 v1_0)) (w1 := (wd_X7_start cI a1 u_1.1 u_1.2.1 v1_5 u_1.2.2)) (ws' := (wd_X10_addDisc cI a0 a1 a2 a3 v0_3 v0_4 v0_5 v0_6 v0_7 u_1.1 u_1.2.1 v1_5 u_1.2.2 v1_1 v1_2)) hP hD hS hA [1, 2] [0, 3, 4] [0, 3, 4, 1, 2] rfl rfl rfl (by decide) rfl rfl (va_runV (As := [.int 3]) (rest := []) ⟨hx, hb, hml, hown, hta⟩ (c_X7_start l dC dI cI H.size a1 v1_3 v1_4 v1_5 v1_0 3 u_1 hu_1) (cwV 1 hta (ga_V mA489 mA490 mA491 mA60 mA492) rfl rfl rfl (by decide +kernel) ⟨Nat.le_of_ble_eq_true rfl, Nat.le_of_ble_eq_true rfl⟩) ⟨q_fb, va_recv hK hP (ci := 6) (q0 := 1) rfl rfl, q_ps hPc hK hDc⟩ rfl rfl hl.1 rfl (lv_room (Nat.le_of_ble_eq_true rfl)) dX10_addDisc_5 ⟨Nat.zero_le _, Nat.zero_le _⟩) (fun H locs hP hD hS => ?_)
  refine lv_aload_n hx hb dX10_addDisc_8 rfl (lv_at hl 0 rfl) ?_
  refine va_get (D := (dC, dI)) (ci := 9) (v := .ref (a1 0)) (C := RX10) (T := TX10) (N := 8) hx hb hta uw_X10 hown hK hP 0 rfl rfl 2 (by decide) (hta _ mA61) (fun _ h9 => h9) rfl dX10_addDisc_9 ?_
  refine lv_iload_n hx hb dX10_addDisc_12 rfl (lv_at hl 1 rfl) ?_
  refine lv_iload_n hx hb dX10_addDisc_13 rfl (lv_at hl 2 rfl) ?_
  obtain ⟨u_2, hu_2, hF⟩ := obd_some hF
  have hPc := hP.sub (ws' := (wd_X7_addCorner cI a1 u_1.1 u_1.2.1 v1_5 v1_1 v1_2)) [1, 3, 4] rfl
  have hDc := hD.sub (ws' := (wd_X7_addCorner cI a1 u_1.1 u_1.2.1 v1_5 v1_1 v1_2)) [1, 3, 4] rfl rfl
  refine q_callv (wc := (wd_X7_addCorner cI a1 u_1.1 u_1.2.1 v1_5 v1_1 v1_2)) (w1 := (wd_X7_addCorner cI a1 u_1.1 u_2.1 v1_5 u_2.2.1 u_2.2.2)) (ws' := (wd_X10_addDisc cI a0 a1 a2 a3 v0_3 v0_4 v0_5 v0_6 v0_7 u_1.1 u_2.1 v1_5 u_1.2.2 u_2.2.1 u_2.2.2)) hP hD hS hA [1, 3, 4] [0, 2] [0, 2, 1, 3, 4] rfl rfl rfl (by decide) rfl rfl (va_runV (As := [.int p1, .int p2]) (rest := []) ⟨hx, hb, hml, hown, hta⟩ (c_X7_addCorner l dC dI cI H.size a1 u_1.1 u_1.2.1 v1_5 v1_1 v1_2 p1 p2 u_2 hu_2) (cwV 2 hta (ga_V mA494 mA495 mA496 mA60 mA497) rfl rfl rfl (by decide +kernel) ⟨Nat.le_of_ble_eq_true rfl, Nat.le_of_ble_eq_true rfl⟩) ⟨q_fb, va_recv hK hP (ci := 6) (q0 := 1) rfl rfl, q_ps hPc hK hDc⟩ rfl rfl hl.1 rfl (lv_room (Nat.le_of_ble_eq_true rfl)) dX10_addDisc_14 ⟨Nat.zero_le _, Nat.zero_le _⟩) (fun H locs hP hD hS => ?_)
  obtain rfl := Option.some.inj hF
  exact W.vret hx hb hr (fun t ht hW => ⟨⟨(), rfl, trivial, by rw [ht]; exact hP, va_K.moved hW.alike hK, hD⟩, hS.F ht⟩) hS.2.2 dX10_addDisc_17

-- StrokeOutliner$Stroke.addDot(II)V
def F_X10_addDot (v0_4 : Int32) (v0_7 : Int32) (v1_3 : Int32) (v1_4 : Int32) (v1_0 : Nat → Int32) (v1_1 : Nat → Int32) (v1_2 : Nat → Int32) (p1 : Int32) (p2 : Int32) : Option (Int32 × Int32 × (Nat → Int32) × (Nat → Int32) × (Nat → Int32)) :=
  if v0_7 = 1 then obd (F_X10_addDisc v1_3 v1_4 v1_0 v1_1 v1_2 p1 p2) (fun u_8 => some (u_8.1, u_8.2.1, u_8.2.2.1, u_8.2.2.2.1, u_8.2.2.2.2)) else if v0_7 = 2 then obd (F_X7_start v1_3 v1_4 v1_0 4) (fun u_3 => obd (F_X7_addCorner u_3.1 u_3.2.1 v1_1 v1_2 (p1 - v0_4) (p2 - v0_4)) (fun u_4 => obd (F_X7_addCorner u_3.1 u_4.1 u_4.2.1 u_4.2.2 (p1 + v0_4) (p2 - v0_4)) (fun u_5 => obd (F_X7_addCorner u_3.1 u_5.1 u_5.2.1 u_5.2.2 (p1 + v0_4) (p2 + v0_4)) (fun u_6 => obd (F_X7_addCorner u_3.1 u_6.1 u_6.2.1 u_6.2.2 (p1 - v0_4) (p2 + v0_4)) (fun u_7 => some (u_3.1, u_7.1, u_3.2.2, u_7.2.1, u_7.2.2)))))) else some (v1_3, v1_4, v1_0, v1_1, v1_2)
abbrev wd_X10_addDot (cI : ClassId) (a0 : Nat → Nat) (a1 : Nat → Nat) (a2 : Nat → Nat) (a3 : Nat → Nat) (v0_3 : Int32) (v0_4 : Int32) (v0_5 : Int32) (v0_6 : Int32) (v0_7 : Int32) (v1_3 : Int32) (v1_4 : Int32) (v1_5 : Int32) (v1_0 : Nat → Int32) (v1_1 : Nat → Int32) (v1_2 : Nat → Int32) : va_W := [(a0 0, .inr (9, [.ref (a3 0), .ref (a2 0), .ref (a1 0), .int v0_3, .int v0_4, .int v0_5, .int v0_6, .int v0_7])), (a1 0, .inr (6, [.ref (a1 1), .ref (a1 2), .ref (a1 3), .int v1_3, .int v1_4, .int v1_5])), (a1 1, .inl (cI, 2800, .inl v1_0)), (a1 2, .inl (cI, 11200, .inl v1_1)), (a1 3, .inl (cI, 11200, .inl v1_2))]
abbrev wz_X10_addDot : List Cond := .code yX10_addDot cX10_addDot 3 none :: wALL
abbrev rm_X10_addDot : Room := { frames := 2, cells := 0, slots := 0, locals := 45 }
abbrev Q_X10_addDot (dC : Nat → ClassId) (dI : Nat → Nat → Nat) (cI : ClassId) (a0 : Nat → Nat) (a1 : Nat → Nat) (a2 : Nat → Nat) (a3 : Nat → Nat) (v0_3 : Int32) (v0_4 : Int32) (v0_5 : Int32) (v0_6 : Int32) (v0_7 : Int32) (v1_5 : Int32) (u : (Int32 × Int32 × (Nat → Int32) × (Nat → Int32) × (Nat → Int32))) (A : Nat → Prop) : Array Value → State → Outcome → State → Prop := va_Qv (fun (_ : Unit) => True) (fun _ => q_at dC dI cI A (wd_X10_addDot cI a0 a1 a2 a3 v0_3 v0_4 v0_5 v0_6 v0_7 u.1 u.2.1 v1_5 u.2.2.1 u.2.2.2.1 u.2.2.2.2)) A
set_option maxHeartbeats 4000000 in
set_option maxRecDepth 100000 in
theorem c_X10_addDot (l : Launch) (dC : Nat → ClassId) (dI : Nat → Nat → Nat) (cI : ClassId) (sz : Nat) (a0 : Nat → Nat) (a1 : Nat → Nat) (a2 : Nat → Nat) (a3 : Nat → Nat) (v0_3 : Int32) (v0_4 : Int32) (v0_5 : Int32) (v0_6 : Int32) (v0_7 : Int32) (v1_3 : Int32) (v1_4 : Int32) (v1_5 : Int32) (v1_0 : Nat → Int32) (v1_1 : Nat → Int32) (v1_2 : Nat → Int32) (p1 : Int32) (p2 : Int32) (u : (Int32 × Int32 × (Nat → Int32) × (Nat → Int32) × (Nat → Int32))) (hF : F_X10_addDot v0_4 v0_7 v1_3 v1_4 v1_0 v1_1 v1_2 p1 p2 = some u) : Met l yX10_addDot wz_X10_addDot rm_X10_addDot (va_Pc [.ref (a0 0), .int p1, .int p2] (q_pre dC dI cI (wd_X10_addDot cI a0 a1 a2 a3 v0_3 v0_4 v0_5 v0_6 v0_7 v1_3 v1_4 v1_5 v1_0 v1_1 v1_2) sz)) (Q_X10_addDot dC dI cI a0 a1 a2 a3 v0_3 v0_4 v0_5 v0_6 v0_7 v1_5 u (va_A (wd_X10_addDot cI a0 a1 a2 a3 v0_3 v0_4 v0_5 v0_6 v0_7 v1_3 v1_4 v1_5 v1_0 v1_1 v1_2) sz)) 0 0 (va_A (wd_X10_addDot cI a0 a1 a2 a3 v0_3 v0_4 v0_5 v0_6 v0_7 v1_3 v1_4 v1_5 v1_0 v1_1 v1_2) sz) := by
  refine Met.ofW (cc := cX10_addDot) (maxL := 3) (ret := none) (by decide) rfl ?_
  intro p e s m args below meth c s₁ B hml hv
  obtain ⟨rfl, hsz, hP, hK, hD0⟩ := hv
  have hx := B.exec
  have hb := B.bytes
  have hr := B.returns
  have hts := atoms_spec (ws := wz_X10_addDot) B.pre
  have hta := wz_tl hts
  have hown : s.vm.findClass RX10 = some m.cls := findClass_of_methodNamed B.named
  have hlocks := B.notSynchronized
  subst hsz
  have hD := hD0.self (sz := s.heap.size)
  generalize hAe : va_A (wd_X10_addDot cI a0 a1 a2 a3 v0_3 v0_4 v0_5 v0_6 v0_7 v1_3 v1_4 v1_5 v1_0 v1_1 v1_2) s.heap.size = A at hD ⊢
  have hA : ∀ q : Nat, s.heap.size ≤ q → A q := fun q h => by rw [← hAe]; exact Or.inr h
  have hS : va_S A s.heap s.heap [] := va_S.rf
  have hP : va_P (dC, dI) vwCl (wd_X10_addDot cI a0 a1 a2 a3 v0_3 v0_4 v0_5 v0_6 v0_7 v1_3 v1_4 v1_5 v1_0 v1_1 v1_2) s.heap := hP
  have hl := lv_entry ([.ref (a0 0), .int p1, .int p2]) (n := 3) (Nat.le_of_ble_eq_true rfl)
  rw [lg_entry_eq]
  generalize (lg_sl ([.ref (a0 0), .int p1, .int p2]) ++ List.replicate (3 - (lg_sl ([.ref (a0 0), .int p1, .int p2])).length) Slot.unset).toArray = ls at hl ⊢
  have hl : lv_has ls 3 [(0, .ref (a0 0)), (1, .int p1), (2, .int p2)] := hl
  obtain ⟨H, hHe⟩ : ∃ H, H = s.heap := ⟨_, rfl⟩
  have hS : va_S A s.heap H [] := by rw [hHe]; exact hS
  have hP : va_P (dC, dI) vwCl (wd_X10_addDot cI a0 a1 a2 a3 v0_3 v0_4 v0_5 v0_6 v0_7 v1_3 v1_4 v1_5 v1_0 v1_1 v1_2) H := by rw [hHe]; exact hP
  rw [← hHe]
  unfold F_X10_addDot at hF
  refine lv_aload_n hx hb dX10_addDot_0 rfl (lv_at hl 0 rfl) ?_
  refine va_get (D := (dC, dI)) (ci := 9) (v := .int v0_7) (C := RX10) (T := TX10) (N := 8) hx hb hta uw_X10 hown hK hP 0 rfl rfl 7 (by decide) (hta _ mA468) (fun _ h9 => h9) rfl dX10_addDot_1 ?_
  refine lv_iconst (v := 1) hx hb dX10_addDot_4 (by decide) ?_
  refine lv_icmp_ne (tgt := 17) hx hb dX10_addDot_5 (by decide) (fun c_1 => ?_) (fun c_1 => ?_)
  · have hF := it_f hF c_1
    refine lv_aload_n hx hb dX10_addDot_17 rfl (lv_at hl 0 rfl) ?_
    refine va_get (D := (dC, dI)) (ci := 9) (v := .int v0_7) (C := RX10) (T := TX10) (N := 8) hx hb hta uw_X10 hown hK hP 0 rfl rfl 7 (by decide) (hta _ mA468) (fun _ h9 => h9) rfl dX10_addDot_18 ?_
    refine lv_iconst (v := 2) hx hb dX10_addDot_21 (by decide) ?_
    refine lv_icmp_ne (tgt := 109) hx hb dX10_addDot_22 (by decide) (fun c_2 => ?_) (fun c_2 => ?_)
    · have hF := it_f hF c_2
      obtain rfl := Option.some.inj hF
      exact W.vret hx hb hr (fun t ht hW => ⟨⟨(), rfl, trivial, by rw [ht]; exact hP, va_K.moved hW.alike hK, hD⟩, hS.F ht⟩) hS.2.2 dX10_addDot_109
    · have hF := it_t hF c_2
      refine lv_aload_n hx hb dX10_addDot_25 rfl (lv_at hl 0 rfl) ?_
      refine va_get (D := (dC, dI)) (ci := 9) (v := .ref (a1 0)) (C := RX10) (T := TX10) (N := 8) hx hb hta uw_X10 hown hK hP 0 rfl rfl 2 (by decide) (hta _ mA61) (fun _ h9 => h9) rfl dX10_addDot_26 ?_
      refine lv_iconst (v := 4) hx hb dX10_addDot_29 (by decide) ?_
      obtain ⟨u_3, hu_3, hF⟩ := obd_some hF
      have hPc := hP.sub (ws' := (wd_X7_start cI a1 v1_3 v1_4 v1_5 v1_0)) [1, 2] rfl
      have hDc := hD.sub (ws' := (wd_X7_start cI a1 v1_3 v1_4 v1_5 v1_0)) [1, 2] rfl rfl
      refine q_callv (wc := (wd_X7_start cI a1 v1_3 v1_4 v1_5 v1_0)) (w1 := (wd_X7_start cI a1 u_3.1 u_3.2.1 v1_5 u_3.2.2)) (ws' := (wd_X10_addDot cI a0 a1 a2 a3 v0_3 v0_4 v0_5 v0_6 v0_7 u_3.1 u_3.2.1 v1_5 u_3.2.2 v1_1 v1_2)) hP hD hS hA [1, 2] [0, 3, 4] [0, 3, 4, 1, 2] rfl rfl rfl (by decide) rfl rfl (va_runV (As := [.int 4]) (rest := []) ⟨hx, hb, hml, hown, hta⟩ (c_X7_start l dC dI cI H.size a1 v1_3 v1_4 v1_5 v1_0 4 u_3 hu_3) (cwV 1 hta (ga_V mA489 mA490 mA491 mA60 mA492) rfl rfl rfl (by decide +kernel) ⟨Nat.le_of_ble_eq_true rfl, Nat.le_of_ble_eq_true rfl⟩) ⟨q_fb, va_recv hK hP (ci := 6) (q0 := 1) rfl rfl, q_ps hPc hK hDc⟩ rfl rfl hl.1 rfl (lv_room (Nat.le_of_ble_eq_true rfl)) dX10_addDot_30 ⟨Nat.zero_le _, Nat.zero_le _⟩) (fun H locs hP hD hS => ?_)
      refine lv_aload_n hx hb dX10_addDot_33 rfl (lv_at hl 0 rfl) ?_
      refine va_get (D := (dC, dI)) (ci := 9) (v := .ref (a1 0)) (C := RX10) (T := TX10) (N := 8) hx hb hta uw_X10 hown hK hP 0 rfl rfl 2 (by decide) (hta _ mA61) (fun _ h9 => h9) rfl dX10_addDot_34 ?_
      refine lv_iload_n hx hb dX10_addDot_37 rfl (lv_at hl 1 rfl) ?_
      refine lv_aload_n hx hb dX10_addDot_38 rfl (lv_at hl 0 rfl) ?_
      refine va_get (D := (dC, dI)) (ci := 9) (v := .int v0_4) (C := RX10) (T := TX10) (N := 8) hx hb hta uw_X10 hown hK hP 0 rfl rfl 4 (by decide) (hta _ mA465) (fun _ h9 => h9) rfl dX10_addDot_39 ?_
      refine lv_isub hx hb dX10_addDot_42 ?_
      refine lv_iload_n hx hb dX10_addDot_43 rfl (lv_at hl 2 rfl) ?_
      refine lv_aload_n hx hb dX10_addDot_44 rfl (lv_at hl 0 rfl) ?_
      refine va_get (D := (dC, dI)) (ci := 9) (v := .int v0_4) (C := RX10) (T := TX10) (N := 8) hx hb hta uw_X10 hown hK hP 0 rfl rfl 4 (by decide) (hta _ mA465) (fun _ h9 => h9) rfl dX10_addDot_45 ?_
      refine lv_isub hx hb dX10_addDot_48 ?_
      obtain ⟨u_4, hu_4, hF⟩ := obd_some hF
      have hPc := hP.sub (ws' := (wd_X7_addCorner cI a1 u_3.1 u_3.2.1 v1_5 v1_1 v1_2)) [1, 3, 4] rfl
      have hDc := hD.sub (ws' := (wd_X7_addCorner cI a1 u_3.1 u_3.2.1 v1_5 v1_1 v1_2)) [1, 3, 4] rfl rfl
      refine q_callv (wc := (wd_X7_addCorner cI a1 u_3.1 u_3.2.1 v1_5 v1_1 v1_2)) (w1 := (wd_X7_addCorner cI a1 u_3.1 u_4.1 v1_5 u_4.2.1 u_4.2.2)) (ws' := (wd_X10_addDot cI a0 a1 a2 a3 v0_3 v0_4 v0_5 v0_6 v0_7 u_3.1 u_4.1 v1_5 u_3.2.2 u_4.2.1 u_4.2.2)) hP hD hS hA [1, 3, 4] [0, 2] [0, 2, 1, 3, 4] rfl rfl rfl (by decide) rfl rfl (va_runV (As := [.int (p1 - v0_4), .int (p2 - v0_4)]) (rest := []) ⟨hx, hb, hml, hown, hta⟩ (c_X7_addCorner l dC dI cI H.size a1 u_3.1 u_3.2.1 v1_5 v1_1 v1_2 (p1 - v0_4) (p2 - v0_4) u_4 hu_4) (cwV 2 hta (ga_V mA494 mA495 mA496 mA60 mA497) rfl rfl rfl (by decide +kernel) ⟨Nat.le_of_ble_eq_true rfl, Nat.le_of_ble_eq_true rfl⟩) ⟨q_fb, va_recv hK hP (ci := 6) (q0 := 1) rfl rfl, q_ps hPc hK hDc⟩ rfl rfl hl.1 rfl (lv_room (Nat.le_of_ble_eq_true rfl)) dX10_addDot_49 ⟨Nat.zero_le _, Nat.zero_le _⟩) (fun H locs hP hD hS => ?_)
      refine lv_aload_n hx hb dX10_addDot_52 rfl (lv_at hl 0 rfl) ?_
      refine va_get (D := (dC, dI)) (ci := 9) (v := .ref (a1 0)) (C := RX10) (T := TX10) (N := 8) hx hb hta uw_X10 hown hK hP 0 rfl rfl 2 (by decide) (hta _ mA61) (fun _ h9 => h9) rfl dX10_addDot_53 ?_
      refine lv_iload_n hx hb dX10_addDot_56 rfl (lv_at hl 1 rfl) ?_
      refine lv_aload_n hx hb dX10_addDot_57 rfl (lv_at hl 0 rfl) ?_
      refine va_get (D := (dC, dI)) (ci := 9) (v := .int v0_4) (C := RX10) (T := TX10) (N := 8) hx hb hta uw_X10 hown hK hP 0 rfl rfl 4 (by decide) (hta _ mA465) (fun _ h9 => h9) rfl dX10_addDot_58 ?_
      refine lv_iadd hx hb dX10_addDot_61 ?_
      refine lv_iload_n hx hb dX10_addDot_62 rfl (lv_at hl 2 rfl) ?_
      refine lv_aload_n hx hb dX10_addDot_63 rfl (lv_at hl 0 rfl) ?_
      refine va_get (D := (dC, dI)) (ci := 9) (v := .int v0_4) (C := RX10) (T := TX10) (N := 8) hx hb hta uw_X10 hown hK hP 0 rfl rfl 4 (by decide) (hta _ mA465) (fun _ h9 => h9) rfl dX10_addDot_64 ?_
      refine lv_isub hx hb dX10_addDot_67 ?_
      obtain ⟨u_5, hu_5, hF⟩ := obd_some hF
      have hPc := hP.sub (ws' := (wd_X7_addCorner cI a1 u_3.1 u_4.1 v1_5 u_4.2.1 u_4.2.2)) [1, 3, 4] rfl
      have hDc := hD.sub (ws' := (wd_X7_addCorner cI a1 u_3.1 u_4.1 v1_5 u_4.2.1 u_4.2.2)) [1, 3, 4] rfl rfl
      refine q_callv (wc := (wd_X7_addCorner cI a1 u_3.1 u_4.1 v1_5 u_4.2.1 u_4.2.2)) (w1 := (wd_X7_addCorner cI a1 u_3.1 u_5.1 v1_5 u_5.2.1 u_5.2.2)) (ws' := (wd_X10_addDot cI a0 a1 a2 a3 v0_3 v0_4 v0_5 v0_6 v0_7 u_3.1 u_5.1 v1_5 u_3.2.2 u_5.2.1 u_5.2.2)) hP hD hS hA [1, 3, 4] [0, 2] [0, 2, 1, 3, 4] rfl rfl rfl (by decide) rfl rfl (va_runV (As := [.int (p1 + v0_4), .int (p2 - v0_4)]) (rest := []) ⟨hx, hb, hml, hown, hta⟩ (c_X7_addCorner l dC dI cI H.size a1 u_3.1 u_4.1 v1_5 u_4.2.1 u_4.2.2 (p1 + v0_4) (p2 - v0_4) u_5 hu_5) (cwV 2 hta (ga_V mA494 mA495 mA496 mA60 mA497) rfl rfl rfl (by decide +kernel) ⟨Nat.le_of_ble_eq_true rfl, Nat.le_of_ble_eq_true rfl⟩) ⟨q_fb, va_recv hK hP (ci := 6) (q0 := 1) rfl rfl, q_ps hPc hK hDc⟩ rfl rfl hl.1 rfl (lv_room (Nat.le_of_ble_eq_true rfl)) dX10_addDot_68 ⟨Nat.zero_le _, Nat.zero_le _⟩) (fun H locs hP hD hS => ?_)
      refine lv_aload_n hx hb dX10_addDot_71 rfl (lv_at hl 0 rfl) ?_
      refine va_get (D := (dC, dI)) (ci := 9) (v := .ref (a1 0)) (C := RX10) (T := TX10) (N := 8) hx hb hta uw_X10 hown hK hP 0 rfl rfl 2 (by decide) (hta _ mA61) (fun _ h9 => h9) rfl dX10_addDot_72 ?_
      refine lv_iload_n hx hb dX10_addDot_75 rfl (lv_at hl 1 rfl) ?_
      refine lv_aload_n hx hb dX10_addDot_76 rfl (lv_at hl 0 rfl) ?_
      refine va_get (D := (dC, dI)) (ci := 9) (v := .int v0_4) (C := RX10) (T := TX10) (N := 8) hx hb hta uw_X10 hown hK hP 0 rfl rfl 4 (by decide) (hta _ mA465) (fun _ h9 => h9) rfl dX10_addDot_77 ?_
      refine lv_iadd hx hb dX10_addDot_80 ?_
      refine lv_iload_n hx hb dX10_addDot_81 rfl (lv_at hl 2 rfl) ?_
      refine lv_aload_n hx hb dX10_addDot_82 rfl (lv_at hl 0 rfl) ?_
      refine va_get (D := (dC, dI)) (ci := 9) (v := .int v0_4) (C := RX10) (T := TX10) (N := 8) hx hb hta uw_X10 hown hK hP 0 rfl rfl 4 (by decide) (hta _ mA465) (fun _ h9 => h9) rfl dX10_addDot_83 ?_
      refine lv_iadd hx hb dX10_addDot_86 ?_
      obtain ⟨u_6, hu_6, hF⟩ := obd_some hF
      have hPc := hP.sub (ws' := (wd_X7_addCorner cI a1 u_3.1 u_5.1 v1_5 u_5.2.1 u_5.2.2)) [1, 3, 4] rfl
      have hDc := hD.sub (ws' := (wd_X7_addCorner cI a1 u_3.1 u_5.1 v1_5 u_5.2.1 u_5.2.2)) [1, 3, 4] rfl rfl
      refine q_callv (wc := (wd_X7_addCorner cI a1 u_3.1 u_5.1 v1_5 u_5.2.1 u_5.2.2)) (w1 := (wd_X7_addCorner cI a1 u_3.1 u_6.1 v1_5 u_6.2.1 u_6.2.2)) (ws' := (wd_X10_addDot cI a0 a1 a2 a3 v0_3 v0_4 v0_5 v0_6 v0_7 u_3.1 u_6.1 v1_5 u_3.2.2 u_6.2.1 u_6.2.2)) hP hD hS hA [1, 3, 4] [0, 2] [0, 2, 1, 3, 4] rfl rfl rfl (by decide) rfl rfl (va_runV (As := [.int (p1 + v0_4), .int (p2 + v0_4)]) (rest := []) ⟨hx, hb, hml, hown, hta⟩ (c_X7_addCorner l dC dI cI H.size a1 u_3.1 u_5.1 v1_5 u_5.2.1 u_5.2.2 (p1 + v0_4) (p2 + v0_4) u_6 hu_6) (cwV 2 hta (ga_V mA494 mA495 mA496 mA60 mA497) rfl rfl rfl (by decide +kernel) ⟨Nat.le_of_ble_eq_true rfl, Nat.le_of_ble_eq_true rfl⟩) ⟨q_fb, va_recv hK hP (ci := 6) (q0 := 1) rfl rfl, q_ps hPc hK hDc⟩ rfl rfl hl.1 rfl (lv_room (Nat.le_of_ble_eq_true rfl)) dX10_addDot_87 ⟨Nat.zero_le _, Nat.zero_le _⟩) (fun H locs hP hD hS => ?_)
      refine lv_aload_n hx hb dX10_addDot_90 rfl (lv_at hl 0 rfl) ?_
      refine va_get (D := (dC, dI)) (ci := 9) (v := .ref (a1 0)) (C := RX10) (T := TX10) (N := 8) hx hb hta uw_X10 hown hK hP 0 rfl rfl 2 (by decide) (hta _ mA61) (fun _ h9 => h9) rfl dX10_addDot_91 ?_
      refine lv_iload_n hx hb dX10_addDot_94 rfl (lv_at hl 1 rfl) ?_
      refine lv_aload_n hx hb dX10_addDot_95 rfl (lv_at hl 0 rfl) ?_
      refine va_get (D := (dC, dI)) (ci := 9) (v := .int v0_4) (C := RX10) (T := TX10) (N := 8) hx hb hta uw_X10 hown hK hP 0 rfl rfl 4 (by decide) (hta _ mA465) (fun _ h9 => h9) rfl dX10_addDot_96 ?_
      refine lv_isub hx hb dX10_addDot_99 ?_
      refine lv_iload_n hx hb dX10_addDot_100 rfl (lv_at hl 2 rfl) ?_
      refine lv_aload_n hx hb dX10_addDot_101 rfl (lv_at hl 0 rfl) ?_
      refine va_get (D := (dC, dI)) (ci := 9) (v := .int v0_4) (C := RX10) (T := TX10) (N := 8) hx hb hta uw_X10 hown hK hP 0 rfl rfl 4 (by decide) (hta _ mA465) (fun _ h9 => h9) rfl dX10_addDot_102 ?_
      refine lv_iadd hx hb dX10_addDot_105 ?_
      obtain ⟨u_7, hu_7, hF⟩ := obd_some hF
      have hPc := hP.sub (ws' := (wd_X7_addCorner cI a1 u_3.1 u_6.1 v1_5 u_6.2.1 u_6.2.2)) [1, 3, 4] rfl
      have hDc := hD.sub (ws' := (wd_X7_addCorner cI a1 u_3.1 u_6.1 v1_5 u_6.2.1 u_6.2.2)) [1, 3, 4] rfl rfl
      refine q_callv (wc := (wd_X7_addCorner cI a1 u_3.1 u_6.1 v1_5 u_6.2.1 u_6.2.2)) (w1 := (wd_X7_addCorner cI a1 u_3.1 u_7.1 v1_5 u_7.2.1 u_7.2.2)) (ws' := (wd_X10_addDot cI a0 a1 a2 a3 v0_3 v0_4 v0_5 v0_6 v0_7 u_3.1 u_7.1 v1_5 u_3.2.2 u_7.2.1 u_7.2.2)) hP hD hS hA [1, 3, 4] [0, 2] [0, 2, 1, 3, 4] rfl rfl rfl (by decide) rfl rfl (va_runV (As := [.int (p1 - v0_4), .int (p2 + v0_4)]) (rest := []) ⟨hx, hb, hml, hown, hta⟩ (c_X7_addCorner l dC dI cI H.size a1 u_3.1 u_6.1 v1_5 u_6.2.1 u_6.2.2 (p1 - v0_4) (p2 + v0_4) u_7 hu_7) (cwV 2 hta (ga_V mA494 mA495 mA496 mA60 mA497) rfl rfl rfl (by decide +kernel) ⟨Nat.le_of_ble_eq_true rfl, Nat.le_of_ble_eq_true rfl⟩) ⟨q_fb, va_recv hK hP (ci := 6) (q0 := 1) rfl rfl, q_ps hPc hK hDc⟩ rfl rfl hl.1 rfl (lv_room (Nat.le_of_ble_eq_true rfl)) dX10_addDot_106 ⟨Nat.zero_le _, Nat.zero_le _⟩) (fun H locs hP hD hS => ?_)
      obtain rfl := Option.some.inj hF
      exact W.vret hx hb hr (fun t ht hW => ⟨⟨(), rfl, trivial, by rw [ht]; exact hP, va_K.moved hW.alike hK, hD⟩, hS.F ht⟩) hS.2.2 dX10_addDot_109
  · have hF := it_t hF c_1
    refine lv_aload_n hx hb dX10_addDot_8 rfl (lv_at hl 0 rfl) ?_
    refine lv_iload_n hx hb dX10_addDot_9 rfl (lv_at hl 1 rfl) ?_
    refine lv_iload_n hx hb dX10_addDot_10 rfl (lv_at hl 2 rfl) ?_
    obtain ⟨u_8, hu_8, hF⟩ := obd_some hF
    have hPc := hP.sub (ws' := (wd_X10_addDisc cI a0 a1 a2 a3 v0_3 v0_4 v0_5 v0_6 v0_7 v1_3 v1_4 v1_5 v1_0 v1_1 v1_2)) [0, 1, 2, 3, 4] rfl
    have hDc := hD.sub (ws' := (wd_X10_addDisc cI a0 a1 a2 a3 v0_3 v0_4 v0_5 v0_6 v0_7 v1_3 v1_4 v1_5 v1_0 v1_1 v1_2)) [0, 1, 2, 3, 4] rfl rfl
    refine q_callv (wc := (wd_X10_addDisc cI a0 a1 a2 a3 v0_3 v0_4 v0_5 v0_6 v0_7 v1_3 v1_4 v1_5 v1_0 v1_1 v1_2)) (w1 := (wd_X10_addDisc cI a0 a1 a2 a3 v0_3 v0_4 v0_5 v0_6 v0_7 u_8.1 u_8.2.1 v1_5 u_8.2.2.1 u_8.2.2.2.1 u_8.2.2.2.2)) (ws' := (wd_X10_addDot cI a0 a1 a2 a3 v0_3 v0_4 v0_5 v0_6 v0_7 u_8.1 u_8.2.1 v1_5 u_8.2.2.1 u_8.2.2.2.1 u_8.2.2.2.2)) hP hD hS hA [0, 1, 2, 3, 4] [] [0, 1, 2, 3, 4] rfl rfl rfl (by decide) rfl rfl (va_runV (As := [.int p1, .int p2]) (rest := []) ⟨hx, hb, hml, hown, hta⟩ (c_X10_addDisc l dC dI cI H.size a0 a1 a2 a3 v0_3 v0_4 v0_5 v0_6 v0_7 v1_3 v1_4 v1_5 v1_0 v1_1 v1_2 p1 p2 u_8 hu_8) (cwV 2 hta (ga_V mA485 mA486 mA487 mA23 mA488) rfl rfl rfl (by decide +kernel) ⟨Nat.le_of_ble_eq_true rfl, Nat.le_of_ble_eq_true rfl⟩) ⟨q_fb, va_recv hK hP (ci := 9) (q0 := 0) rfl rfl, q_ps hPc hK hDc⟩ rfl rfl hl.1 rfl (lv_room (Nat.le_of_ble_eq_true rfl)) dX10_addDot_11 ⟨Nat.zero_le _, Nat.zero_le _⟩) (fun H locs hP hD hS => ?_)
    refine lv_goto (tgt := 109) hx hb dX10_addDot_14 (by decide) ?_
    obtain rfl := Option.some.inj hF
    exact W.vret hx hb hr (fun t ht hW => ⟨⟨(), rfl, trivial, by rw [ht]; exact hP, va_K.moved hW.alike hK, hD⟩, hS.F ht⟩) hS.2.2 dX10_addDot_109

-- StrokeOutliner$Stroke.addStrip(I)V
def F_X10_addStrip (v1_3 : Int32) (v1_4 : Int32) (v1_0 : Nat → Int32) (v1_1 : Nat → Int32) (v1_2 : Nat → Int32) (v2_7 : Nat → Int32) (v2_8 : Nat → Int32) (v2_9 : Nat → Int32) (v4_1 : Nat → Int32) (v4_2 : Nat → Int32) (v4_3 : Nat → Int32) (v4_4 : Nat → Int32) (v4_5 : Nat → Int32) (v4_6 : Nat → Int32) (v4_7 : Nat → Int32) (p1 : Int32) : Option (Int32 × Int32 × (Nat → Int32) × (Nat → Int32) × (Nat → Int32)) :=
  obd (F_X8_segmentOf v2_7 p1) (fun u_1 => obd (F_X8_fromOf v2_8 p1) (fun u_2 => obd (F_X9_xAt v4_1 v4_3 v4_5 u_1 u_2) (fun u_3 => obd (F_X8_fromOf v2_8 p1) (fun u_4 => obd (F_X9_yAt v4_2 v4_4 v4_5 u_1 u_4) (fun u_5 => obd (F_X8_toOf v2_9 p1) (fun u_6 => obd (F_X9_xAt v4_1 v4_3 v4_5 u_1 u_6) (fun u_7 => obd (F_X8_toOf v2_9 p1) (fun u_8 => obd (F_X9_yAt v4_2 v4_4 v4_5 u_1 u_8) (fun u_9 => obd (F_X9_normalX v4_6 u_1) (fun u_10 => obd (F_X9_normalY v4_7 u_1) (fun u_11 => obd (F_X7_start v1_3 v1_4 v1_0 0) (fun u_12 => obd (F_X7_addCorner u_12.1 u_12.2.1 v1_1 v1_2 (u_3 + u_10) (u_5 + u_11)) (fun u_13 => obd (F_X7_addCorner u_12.1 u_13.1 u_13.2.1 u_13.2.2 (u_7 + u_10) (u_9 + u_11)) (fun u_14 => obd (F_X7_addCorner u_12.1 u_14.1 u_14.2.1 u_14.2.2 (u_7 - u_10) (u_9 - u_11)) (fun u_15 => obd (F_X7_addCorner u_12.1 u_15.1 u_15.2.1 u_15.2.2 (u_3 - u_10) (u_5 - u_11)) (fun u_16 => some (u_12.1, u_16.1, u_12.2.2, u_16.2.1, u_16.2.2)))))))))))))))))
abbrev wd_X10_addStrip (cI : ClassId) (a0 : Nat → Nat) (a1 : Nat → Nat) (a2 : Nat → Nat) (a3 : Nat → Nat) (a4 : Nat → Nat) (v0_3 : Int32) (v0_4 : Int32) (v0_5 : Int32) (v0_6 : Int32) (v0_7 : Int32) (v1_3 : Int32) (v1_4 : Int32) (v1_5 : Int32) (v1_0 : Nat → Int32) (v1_1 : Nat → Int32) (v1_2 : Nat → Int32) (v2_10 : Int32) (v2_11 : Int32) (v2_7 : Nat → Int32) (v2_8 : Nat → Int32) (v2_9 : Nat → Int32) (v4_10 : Int32) (v4_1 : Nat → Int32) (v4_2 : Nat → Int32) (v4_3 : Nat → Int32) (v4_4 : Nat → Int32) (v4_5 : Nat → Int32) (v4_6 : Nat → Int32) (v4_7 : Nat → Int32) : va_W := [(a0 0, .inr (9, [.ref (a4 0), .ref (a2 0), .ref (a1 0), .int v0_3, .int v0_4, .int v0_5, .int v0_6, .int v0_7])), (a1 0, .inr (6, [.ref (a1 1), .ref (a1 2), .ref (a1 3), .int v1_3, .int v1_4, .int v1_5])), (a1 1, .inl (cI, 2800, .inl v1_0)), (a1 2, .inl (cI, 11200, .inl v1_1)), (a1 3, .inl (cI, 11200, .inl v1_2)), (a2 0, .inr (7, [.ref (a3 0), .ref (a2 2), .ref (a2 3), .ref (a2 4), .ref (a2 5), .ref (a2 6), .ref (a2 7), .ref (a2 8), .ref (a2 9), .ref (a2 10), .int v2_10, .int v2_11])), (a2 8, .inl (cI, 1024, .inl v2_7)), (a2 9, .inl (cI, 1024, .inl v2_8)), (a2 10, .inl (cI, 1024, .inl v2_9)), (a4 0, .inr (8, [.ref (a4 1), .ref (a4 2), .ref (a4 3), .ref (a4 4), .ref (a4 5), .ref (a4 6), .ref (a4 7), .ref (a4 8), .ref (a4 9), .ref (a4 10), .int v4_10])), (a4 2, .inl (cI, 32, .inl v4_1)), (a4 3, .inl (cI, 32, .inl v4_2)), (a4 4, .inl (cI, 32, .inl v4_3)), (a4 5, .inl (cI, 32, .inl v4_4)), (a4 6, .inl (cI, 32, .inl v4_5)), (a4 7, .inl (cI, 32, .inl v4_6)), (a4 8, .inl (cI, 32, .inl v4_7))]
abbrev wz_X10_addStrip : List Cond := .code yX10_addStrip cX10_addStrip 9 none :: wALL
abbrev rm_X10_addStrip : Room := { frames := 2, cells := 0, slots := 0, locals := 53 }
abbrev Q_X10_addStrip (dC : Nat → ClassId) (dI : Nat → Nat → Nat) (cI : ClassId) (a0 : Nat → Nat) (a1 : Nat → Nat) (a2 : Nat → Nat) (a3 : Nat → Nat) (a4 : Nat → Nat) (v0_3 : Int32) (v0_4 : Int32) (v0_5 : Int32) (v0_6 : Int32) (v0_7 : Int32) (v1_5 : Int32) (v2_10 : Int32) (v2_11 : Int32) (v2_7 : Nat → Int32) (v2_8 : Nat → Int32) (v2_9 : Nat → Int32) (v4_10 : Int32) (v4_1 : Nat → Int32) (v4_2 : Nat → Int32) (v4_3 : Nat → Int32) (v4_4 : Nat → Int32) (v4_5 : Nat → Int32) (v4_6 : Nat → Int32) (v4_7 : Nat → Int32) (u : (Int32 × Int32 × (Nat → Int32) × (Nat → Int32) × (Nat → Int32))) (A : Nat → Prop) : Array Value → State → Outcome → State → Prop := va_Qv (fun (_ : Unit) => True) (fun _ => q_at dC dI cI A (wd_X10_addStrip cI a0 a1 a2 a3 a4 v0_3 v0_4 v0_5 v0_6 v0_7 u.1 u.2.1 v1_5 u.2.2.1 u.2.2.2.1 u.2.2.2.2 v2_10 v2_11 v2_7 v2_8 v2_9 v4_10 v4_1 v4_2 v4_3 v4_4 v4_5 v4_6 v4_7)) A
set_option maxHeartbeats 4000000 in
set_option maxRecDepth 100000 in
theorem c_X10_addStrip (l : Launch) (dC : Nat → ClassId) (dI : Nat → Nat → Nat) (cI : ClassId) (sz : Nat) (a0 : Nat → Nat) (a1 : Nat → Nat) (a2 : Nat → Nat) (a3 : Nat → Nat) (a4 : Nat → Nat) (v0_3 : Int32) (v0_4 : Int32) (v0_5 : Int32) (v0_6 : Int32) (v0_7 : Int32) (v1_3 : Int32) (v1_4 : Int32) (v1_5 : Int32) (v1_0 : Nat → Int32) (v1_1 : Nat → Int32) (v1_2 : Nat → Int32) (v2_10 : Int32) (v2_11 : Int32) (v2_7 : Nat → Int32) (v2_8 : Nat → Int32) (v2_9 : Nat → Int32) (v4_10 : Int32) (v4_1 : Nat → Int32) (v4_2 : Nat → Int32) (v4_3 : Nat → Int32) (v4_4 : Nat → Int32) (v4_5 : Nat → Int32) (v4_6 : Nat → Int32) (v4_7 : Nat → Int32) (p1 : Int32) (u : (Int32 × Int32 × (Nat → Int32) × (Nat → Int32) × (Nat → Int32))) (hF : F_X10_addStrip v1_3 v1_4 v1_0 v1_1 v1_2 v2_7 v2_8 v2_9 v4_1 v4_2 v4_3 v4_4 v4_5 v4_6 v4_7 p1 = some u) : Met l yX10_addStrip wz_X10_addStrip rm_X10_addStrip (va_Pc [.ref (a0 0), .int p1] (q_pre dC dI cI (wd_X10_addStrip cI a0 a1 a2 a3 a4 v0_3 v0_4 v0_5 v0_6 v0_7 v1_3 v1_4 v1_5 v1_0 v1_1 v1_2 v2_10 v2_11 v2_7 v2_8 v2_9 v4_10 v4_1 v4_2 v4_3 v4_4 v4_5 v4_6 v4_7) sz)) (Q_X10_addStrip dC dI cI a0 a1 a2 a3 a4 v0_3 v0_4 v0_5 v0_6 v0_7 v1_5 v2_10 v2_11 v2_7 v2_8 v2_9 v4_10 v4_1 v4_2 v4_3 v4_4 v4_5 v4_6 v4_7 u (va_A (wd_X10_addStrip cI a0 a1 a2 a3 a4 v0_3 v0_4 v0_5 v0_6 v0_7 v1_3 v1_4 v1_5 v1_0 v1_1 v1_2 v2_10 v2_11 v2_7 v2_8 v2_9 v4_10 v4_1 v4_2 v4_3 v4_4 v4_5 v4_6 v4_7) sz)) 0 0 (va_A (wd_X10_addStrip cI a0 a1 a2 a3 a4 v0_3 v0_4 v0_5 v0_6 v0_7 v1_3 v1_4 v1_5 v1_0 v1_1 v1_2 v2_10 v2_11 v2_7 v2_8 v2_9 v4_10 v4_1 v4_2 v4_3 v4_4 v4_5 v4_6 v4_7) sz) := by
  refine Met.ofW (cc := cX10_addStrip) (maxL := 9) (ret := none) (by decide) rfl ?_
  intro p e s m args below meth c s₁ B hml hv
  obtain ⟨rfl, hsz, hP, hK, hD0⟩ := hv
  have hx := B.exec
  have hb := B.bytes
  have hr := B.returns
  have hts := atoms_spec (ws := wz_X10_addStrip) B.pre
  have hta := wz_tl hts
  have hown : s.vm.findClass RX10 = some m.cls := findClass_of_methodNamed B.named
  have hlocks := B.notSynchronized
  subst hsz
  have hD := hD0.self (sz := s.heap.size)
  generalize hAe : va_A (wd_X10_addStrip cI a0 a1 a2 a3 a4 v0_3 v0_4 v0_5 v0_6 v0_7 v1_3 v1_4 v1_5 v1_0 v1_1 v1_2 v2_10 v2_11 v2_7 v2_8 v2_9 v4_10 v4_1 v4_2 v4_3 v4_4 v4_5 v4_6 v4_7) s.heap.size = A at hD ⊢
  have hA : ∀ q : Nat, s.heap.size ≤ q → A q := fun q h => by rw [← hAe]; exact Or.inr h
  have hS : va_S A s.heap s.heap [] := va_S.rf
  have hP : va_P (dC, dI) vwCl (wd_X10_addStrip cI a0 a1 a2 a3 a4 v0_3 v0_4 v0_5 v0_6 v0_7 v1_3 v1_4 v1_5 v1_0 v1_1 v1_2 v2_10 v2_11 v2_7 v2_8 v2_9 v4_10 v4_1 v4_2 v4_3 v4_4 v4_5 v4_6 v4_7) s.heap := hP
  have hl := lv_entry ([.ref (a0 0), .int p1]) (n := 9) (Nat.le_of_ble_eq_true rfl)
  rw [lg_entry_eq]
  generalize (lg_sl ([.ref (a0 0), .int p1]) ++ List.replicate (9 - (lg_sl ([.ref (a0 0), .int p1])).length) Slot.unset).toArray = ls at hl ⊢
  have hl : lv_has ls 9 [(0, .ref (a0 0)), (1, .int p1)] := hl
  obtain ⟨H, hHe⟩ : ∃ H, H = s.heap := ⟨_, rfl⟩
  have hS : va_S A s.heap H [] := by rw [hHe]; exact hS
  have hP : va_P (dC, dI) vwCl (wd_X10_addStrip cI a0 a1 a2 a3 a4 v0_3 v0_4 v0_5 v0_6 v0_7 v1_3 v1_4 v1_5 v1_0 v1_1 v1_2 v2_10 v2_11 v2_7 v2_8 v2_9 v4_10 v4_1 v4_2 v4_3 v4_4 v4_5 v4_6 v4_7) H := by rw [hHe]; exact hP
  rw [← hHe]
  unfold F_X10_addStrip at hF
  refine lv_aload_n hx hb dX10_addStrip_0 rfl (lv_at hl 0 rfl) ?_
  refine va_get (D := (dC, dI)) (ci := 9) (v := .ref (a2 0)) (C := RX10) (T := TX10) (N := 8) hx hb hta uw_X10 hown hK hP 0 rfl rfl 1 (by decide) (hta _ mA57) (fun _ h9 => h9) rfl dX10_addStrip_1 ?_
  refine lv_iload_n hx hb dX10_addStrip_4 rfl (lv_at hl 1 rfl) ?_
  obtain ⟨u_1, hu_1, hF⟩ := obd_some hF
  have hPc := hP.sub (ws' := (wd_X8_segmentOf cI a2 a3 v2_10 v2_11 v2_7)) [5, 6] rfl
  have hDc := hD.sub (ws' := (wd_X8_segmentOf cI a2 a3 v2_10 v2_11 v2_7)) [5, 6] rfl rfl
  refine q_calli (wc := (wd_X8_segmentOf cI a2 a3 v2_10 v2_11 v2_7)) (w1 := (wd_X8_segmentOf cI a2 a3 v2_10 v2_11 v2_7)) (ws' := (wd_X10_addStrip cI a0 a1 a2 a3 a4 v0_3 v0_4 v0_5 v0_6 v0_7 v1_3 v1_4 v1_5 v1_0 v1_1 v1_2 v2_10 v2_11 v2_7 v2_8 v2_9 v4_10 v4_1 v4_2 v4_3 v4_4 v4_5 v4_6 v4_7)) hP hD hS hA [5, 6] [0, 1, 2, 3, 4, 7, 8, 9, 10, 11, 12, 13, 14, 15, 16] [0, 1, 2, 3, 4, 15, 16, 5, 6, 7, 8, 9, 10, 11, 12, 13, 14] rfl rfl rfl (by decide) rfl rfl (va_runV (As := [.int p1]) (rest := []) ⟨hx, hb, hml, hown, hta⟩ (c_X8_segmentOf l dC dI cI H.size a2 a3 v2_10 v2_11 v2_7 p1 u_1 hu_1) (cwV 1 hta (ga_V mA517 mA421 mA422 mA56 mA423) rfl rfl rfl (by decide +kernel) ⟨Nat.le_of_ble_eq_true rfl, Nat.le_of_ble_eq_true rfl⟩) ⟨q_fb, va_recv hK hP (ci := 7) (q0 := 5) rfl rfl, q_ps hPc hK hDc⟩ rfl rfl hl.1 rfl (lv_room (Nat.le_of_ble_eq_true rfl)) dX10_addStrip_5 ⟨Nat.zero_le _, Nat.zero_le _⟩) (fun H locs hP hD hS => ?_)
  refine lv_istore_n (lv' := [(2, .int u_1), (0, .ref (a0 0)), (1, .int p1)]) hx hb dX10_addStrip_8 rfl hl (by decide) rfl (fun ls hl => ?_)
  refine lv_aload_n hx hb dX10_addStrip_9 rfl (lv_at hl 1 rfl) ?_
  refine va_get (D := (dC, dI)) (ci := 9) (v := .ref (a4 0)) (C := RX10) (T := TX10) (N := 8) hx hb hta uw_X10 hown hK hP 0 rfl rfl 0 (by decide) (hta _ mA53) (fun _ h9 => h9) rfl dX10_addStrip_10 ?_
  refine lv_iload_n hx hb dX10_addStrip_13 rfl (lv_at hl 0 rfl) ?_
  refine lv_aload_n hx hb dX10_addStrip_14 rfl (lv_at hl 1 rfl) ?_
  refine va_get (D := (dC, dI)) (ci := 9) (v := .ref (a2 0)) (C := RX10) (T := TX10) (N := 8) hx hb hta uw_X10 hown hK hP 0 rfl rfl 1 (by decide) (hta _ mA57) (fun _ h9 => h9) rfl dX10_addStrip_15 ?_
  refine lv_iload_n hx hb dX10_addStrip_18 rfl (lv_at hl 2 rfl) ?_
  obtain ⟨u_2, hu_2, hF⟩ := obd_some hF
  have hPc := hP.sub (ws' := (wd_X8_fromOf cI a2 a3 v2_10 v2_11 v2_8)) [5, 7] rfl
  have hDc := hD.sub (ws' := (wd_X8_fromOf cI a2 a3 v2_10 v2_11 v2_8)) [5, 7] rfl rfl
  refine q_calli (wc := (wd_X8_fromOf cI a2 a3 v2_10 v2_11 v2_8)) (w1 := (wd_X8_fromOf cI a2 a3 v2_10 v2_11 v2_8)) (ws' := (wd_X10_addStrip cI a0 a1 a2 a3 a4 v0_3 v0_4 v0_5 v0_6 v0_7 v1_3 v1_4 v1_5 v1_0 v1_1 v1_2 v2_10 v2_11 v2_7 v2_8 v2_9 v4_10 v4_1 v4_2 v4_3 v4_4 v4_5 v4_6 v4_7)) hP hD hS hA [5, 7] [0, 1, 2, 3, 4, 6, 8, 9, 10, 11, 12, 13, 14, 15, 16] [0, 1, 2, 3, 4, 15, 5, 16, 6, 7, 8, 9, 10, 11, 12, 13, 14] rfl rfl rfl (by decide) rfl rfl (va_runV (As := [.int p1]) (rest := [.int u_1, .ref (a4 0)]) ⟨hx, hb, hml, hown, hta⟩ (c_X8_fromOf l dC dI cI H.size a2 a3 v2_10 v2_11 v2_8 p1 u_2 hu_2) (cwV 1 hta (ga_V mA518 mA425 mA426 mA56 mA427) rfl rfl rfl (by decide +kernel) ⟨Nat.le_of_ble_eq_true rfl, Nat.le_of_ble_eq_true rfl⟩) ⟨q_fb, va_recv hK hP (ci := 7) (q0 := 5) rfl rfl, q_ps hPc hK hDc⟩ rfl rfl hl.1 rfl (lv_room (Nat.le_of_ble_eq_true rfl)) dX10_addStrip_19 ⟨Nat.zero_le _, Nat.zero_le _⟩) (fun H locs hP hD hS => ?_)
  obtain ⟨u_3, hu_3, hF⟩ := obd_some hF
  have hPc := hP.sub (ws' := (wd_X9_xAt cI a4 v4_10 v4_1 v4_3 v4_5)) [9, 10, 12, 14] rfl
  have hDc := hD.sub (ws' := (wd_X9_xAt cI a4 v4_10 v4_1 v4_3 v4_5)) [9, 10, 12, 14] rfl rfl
  refine q_calli (wc := (wd_X9_xAt cI a4 v4_10 v4_1 v4_3 v4_5)) (w1 := (wd_X9_xAt cI a4 v4_10 v4_1 v4_3 v4_5)) (ws' := (wd_X10_addStrip cI a0 a1 a2 a3 a4 v0_3 v0_4 v0_5 v0_6 v0_7 v1_3 v1_4 v1_5 v1_0 v1_1 v1_2 v2_10 v2_11 v2_7 v2_8 v2_9 v4_10 v4_1 v4_2 v4_3 v4_4 v4_5 v4_6 v4_7)) hP hD hS hA [9, 10, 12, 14] [0, 1, 2, 3, 4, 5, 6, 7, 8, 11, 13, 15, 16] [0, 1, 2, 3, 4, 5, 6, 7, 8, 13, 14, 9, 15, 10, 16, 11, 12] rfl rfl rfl (by decide) rfl rfl (va_runV (As := [.int u_1, .int u_2]) (rest := []) ⟨hx, hb, hml, hown, hta⟩ (c_X9_xAt l dC dI cI H.size a4 v4_10 v4_1 v4_3 v4_5 u_1 u_2 u_3 hu_3) (cwV 2 hta (ga_V mA519 mA340 mA341 mA52 mA342) rfl rfl rfl (by decide +kernel) ⟨Nat.le_of_ble_eq_true rfl, Nat.le_of_ble_eq_true rfl⟩) ⟨q_fb, va_recv hK hP (ci := 8) (q0 := 9) rfl rfl, q_ps hPc hK hDc⟩ rfl rfl hl.1 rfl (lv_room (Nat.le_of_ble_eq_true rfl)) dX10_addStrip_22 ⟨Nat.zero_le _, Nat.zero_le _⟩) (fun H locs hP hD hS => ?_)
  refine lv_istore_n (lv' := [(3, .int u_3), (2, .int u_1), (0, .ref (a0 0)), (1, .int p1)]) hx hb dX10_addStrip_25 rfl hl (by decide) rfl (fun ls hl => ?_)
  refine lv_aload_n hx hb dX10_addStrip_26 rfl (lv_at hl 2 rfl) ?_
  refine va_get (D := (dC, dI)) (ci := 9) (v := .ref (a4 0)) (C := RX10) (T := TX10) (N := 8) hx hb hta uw_X10 hown hK hP 0 rfl rfl 0 (by decide) (hta _ mA53) (fun _ h9 => h9) rfl dX10_addStrip_27 ?_
  refine lv_iload_n hx hb dX10_addStrip_30 rfl (lv_at hl 1 rfl) ?_
  refine lv_aload_n hx hb dX10_addStrip_31 rfl (lv_at hl 2 rfl) ?_
  refine va_get (D := (dC, dI)) (ci := 9) (v := .ref (a2 0)) (C := RX10) (T := TX10) (N := 8) hx hb hta uw_X10 hown hK hP 0 rfl rfl 1 (by decide) (hta _ mA57) (fun _ h9 => h9) rfl dX10_addStrip_32 ?_
  refine lv_iload_n hx hb dX10_addStrip_35 rfl (lv_at hl 3 rfl) ?_
  obtain ⟨u_4, hu_4, hF⟩ := obd_some hF
  have hPc := hP.sub (ws' := (wd_X8_fromOf cI a2 a3 v2_10 v2_11 v2_8)) [5, 7] rfl
  have hDc := hD.sub (ws' := (wd_X8_fromOf cI a2 a3 v2_10 v2_11 v2_8)) [5, 7] rfl rfl
  refine q_calli (wc := (wd_X8_fromOf cI a2 a3 v2_10 v2_11 v2_8)) (w1 := (wd_X8_fromOf cI a2 a3 v2_10 v2_11 v2_8)) (ws' := (wd_X10_addStrip cI a0 a1 a2 a3 a4 v0_3 v0_4 v0_5 v0_6 v0_7 v1_3 v1_4 v1_5 v1_0 v1_1 v1_2 v2_10 v2_11 v2_7 v2_8 v2_9 v4_10 v4_1 v4_2 v4_3 v4_4 v4_5 v4_6 v4_7)) hP hD hS hA [5, 7] [0, 1, 2, 3, 4, 6, 8, 9, 10, 11, 12, 13, 14, 15, 16] [0, 1, 2, 3, 4, 15, 5, 16, 6, 7, 8, 9, 10, 11, 12, 13, 14] rfl rfl rfl (by decide) rfl rfl (va_runV (As := [.int p1]) (rest := [.int u_1, .ref (a4 0)]) ⟨hx, hb, hml, hown, hta⟩ (c_X8_fromOf l dC dI cI H.size a2 a3 v2_10 v2_11 v2_8 p1 u_4 hu_4) (cwV 1 hta (ga_V mA518 mA425 mA426 mA56 mA427) rfl rfl rfl (by decide +kernel) ⟨Nat.le_of_ble_eq_true rfl, Nat.le_of_ble_eq_true rfl⟩) ⟨q_fb, va_recv hK hP (ci := 7) (q0 := 5) rfl rfl, q_ps hPc hK hDc⟩ rfl rfl hl.1 rfl (lv_room (Nat.le_of_ble_eq_true rfl)) dX10_addStrip_36 ⟨Nat.zero_le _, Nat.zero_le _⟩) (fun H locs hP hD hS => ?_)
  obtain ⟨u_5, hu_5, hF⟩ := obd_some hF
  have hPc := hP.sub (ws' := (wd_X9_yAt cI a4 v4_10 v4_2 v4_4 v4_5)) [9, 11, 13, 14] rfl
  have hDc := hD.sub (ws' := (wd_X9_yAt cI a4 v4_10 v4_2 v4_4 v4_5)) [9, 11, 13, 14] rfl rfl
  refine q_calli (wc := (wd_X9_yAt cI a4 v4_10 v4_2 v4_4 v4_5)) (w1 := (wd_X9_yAt cI a4 v4_10 v4_2 v4_4 v4_5)) (ws' := (wd_X10_addStrip cI a0 a1 a2 a3 a4 v0_3 v0_4 v0_5 v0_6 v0_7 v1_3 v1_4 v1_5 v1_0 v1_1 v1_2 v2_10 v2_11 v2_7 v2_8 v2_9 v4_10 v4_1 v4_2 v4_3 v4_4 v4_5 v4_6 v4_7)) hP hD hS hA [9, 11, 13, 14] [0, 1, 2, 3, 4, 5, 6, 7, 8, 10, 12, 15, 16] [0, 1, 2, 3, 4, 5, 6, 7, 8, 13, 9, 14, 10, 15, 16, 11, 12] rfl rfl rfl (by decide) rfl rfl (va_runV (As := [.int u_1, .int u_4]) (rest := []) ⟨hx, hb, hml, hown, hta⟩ (c_X9_yAt l dC dI cI H.size a4 v4_10 v4_2 v4_4 v4_5 u_1 u_4 u_5 hu_5) (cwV 2 hta (ga_V mA520 mA335 mA336 mA52 mA337) rfl rfl rfl (by decide +kernel) ⟨Nat.le_of_ble_eq_true rfl, Nat.le_of_ble_eq_true rfl⟩) ⟨q_fb, va_recv hK hP (ci := 8) (q0 := 9) rfl rfl, q_ps hPc hK hDc⟩ rfl rfl hl.1 rfl (lv_room (Nat.le_of_ble_eq_true rfl)) dX10_addStrip_39 ⟨Nat.zero_le _, Nat.zero_le _⟩) (fun H locs hP hD hS => ?_)
  refine lv_istore (lv' := [(4, .int u_5), (3, .int u_3), (2, .int u_1), (0, .ref (a0 0)), (1, .int p1)]) hx hb dX10_addStrip_42 hl (by decide) rfl (fun ls hl => ?_)
  refine lv_aload_n hx hb dX10_addStrip_44 rfl (lv_at hl 3 rfl) ?_
  refine va_get (D := (dC, dI)) (ci := 9) (v := .ref (a4 0)) (C := RX10) (T := TX10) (N := 8) hx hb hta uw_X10 hown hK hP 0 rfl rfl 0 (by decide) (hta _ mA53) (fun _ h9 => h9) rfl dX10_addStrip_45 ?_
  refine lv_iload_n hx hb dX10_addStrip_48 rfl (lv_at hl 2 rfl) ?_
  refine lv_aload_n hx hb dX10_addStrip_49 rfl (lv_at hl 3 rfl) ?_
  refine va_get (D := (dC, dI)) (ci := 9) (v := .ref (a2 0)) (C := RX10) (T := TX10) (N := 8) hx hb hta uw_X10 hown hK hP 0 rfl rfl 1 (by decide) (hta _ mA57) (fun _ h9 => h9) rfl dX10_addStrip_50 ?_
  refine lv_iload_n hx hb dX10_addStrip_53 rfl (lv_at hl 4 rfl) ?_
  obtain ⟨u_6, hu_6, hF⟩ := obd_some hF
  have hPc := hP.sub (ws' := (wd_X8_toOf cI a2 a3 v2_10 v2_11 v2_9)) [5, 8] rfl
  have hDc := hD.sub (ws' := (wd_X8_toOf cI a2 a3 v2_10 v2_11 v2_9)) [5, 8] rfl rfl
  refine q_calli (wc := (wd_X8_toOf cI a2 a3 v2_10 v2_11 v2_9)) (w1 := (wd_X8_toOf cI a2 a3 v2_10 v2_11 v2_9)) (ws' := (wd_X10_addStrip cI a0 a1 a2 a3 a4 v0_3 v0_4 v0_5 v0_6 v0_7 v1_3 v1_4 v1_5 v1_0 v1_1 v1_2 v2_10 v2_11 v2_7 v2_8 v2_9 v4_10 v4_1 v4_2 v4_3 v4_4 v4_5 v4_6 v4_7)) hP hD hS hA [5, 8] [0, 1, 2, 3, 4, 6, 7, 9, 10, 11, 12, 13, 14, 15, 16] [0, 1, 2, 3, 4, 15, 5, 6, 16, 7, 8, 9, 10, 11, 12, 13, 14] rfl rfl rfl (by decide) rfl rfl (va_runV (As := [.int p1]) (rest := [.int u_1, .ref (a4 0)]) ⟨hx, hb, hml, hown, hta⟩ (c_X8_toOf l dC dI cI H.size a2 a3 v2_10 v2_11 v2_9 p1 u_6 hu_6) (cwV 1 hta (ga_V mA521 mA429 mA430 mA56 mA431) rfl rfl rfl (by decide +kernel) ⟨Nat.le_of_ble_eq_true rfl, Nat.le_of_ble_eq_true rfl⟩) ⟨q_fb, va_recv hK hP (ci := 7) (q0 := 5) rfl rfl, q_ps hPc hK hDc⟩ rfl rfl hl.1 rfl (lv_room (Nat.le_of_ble_eq_true rfl)) dX10_addStrip_54 ⟨Nat.zero_le _, Nat.zero_le _⟩) (fun H locs hP hD hS => ?_)
  obtain ⟨u_7, hu_7, hF⟩ := obd_some hF
  have hPc := hP.sub (ws' := (wd_X9_xAt cI a4 v4_10 v4_1 v4_3 v4_5)) [9, 10, 12, 14] rfl
  have hDc := hD.sub (ws' := (wd_X9_xAt cI a4 v4_10 v4_1 v4_3 v4_5)) [9, 10, 12, 14] rfl rfl
  refine q_calli (wc := (wd_X9_xAt cI a4 v4_10 v4_1 v4_3 v4_5)) (w1 := (wd_X9_xAt cI a4 v4_10 v4_1 v4_3 v4_5)) (ws' := (wd_X10_addStrip cI a0 a1 a2 a3 a4 v0_3 v0_4 v0_5 v0_6 v0_7 v1_3 v1_4 v1_5 v1_0 v1_1 v1_2 v2_10 v2_11 v2_7 v2_8 v2_9 v4_10 v4_1 v4_2 v4_3 v4_4 v4_5 v4_6 v4_7)) hP hD hS hA [9, 10, 12, 14] [0, 1, 2, 3, 4, 5, 6, 7, 8, 11, 13, 15, 16] [0, 1, 2, 3, 4, 5, 6, 7, 8, 13, 14, 9, 15, 10, 16, 11, 12] rfl rfl rfl (by decide) rfl rfl (va_runV (As := [.int u_1, .int u_6]) (rest := []) ⟨hx, hb, hml, hown, hta⟩ (c_X9_xAt l dC dI cI H.size a4 v4_10 v4_1 v4_3 v4_5 u_1 u_6 u_7 hu_7) (cwV 2 hta (ga_V mA519 mA340 mA341 mA52 mA342) rfl rfl rfl (by decide +kernel) ⟨Nat.le_of_ble_eq_true rfl, Nat.le_of_ble_eq_true rfl⟩) ⟨q_fb, va_recv hK hP (ci := 8) (q0 := 9) rfl rfl, q_ps hPc hK hDc⟩ rfl rfl hl.1 rfl (lv_room (Nat.le_of_ble_eq_true rfl)) dX10_addStrip_57 ⟨Nat.zero_le _, Nat.zero_le _⟩) (fun H locs hP hD hS => ?_)
  refine lv_istore (lv' := [(5, .int u_7), (4, .int u_5), (3, .int u_3), (2, .int u_1), (0, .ref (a0 0)), (1, .int p1)]) hx hb dX10_addStrip_60 hl (by decide) rfl (fun ls hl => ?_)
  refine lv_aload_n hx hb dX10_addStrip_62 rfl (lv_at hl 4 rfl) ?_
  refine va_get (D := (dC, dI)) (ci := 9) (v := .ref (a4 0)) (C := RX10) (T := TX10) (N := 8) hx hb hta uw_X10 hown hK hP 0 rfl rfl 0 (by decide) (hta _ mA53) (fun _ h9 => h9) rfl dX10_addStrip_63 ?_
  refine lv_iload_n hx hb dX10_addStrip_66 rfl (lv_at hl 3 rfl) ?_
  refine lv_aload_n hx hb dX10_addStrip_67 rfl (lv_at hl 4 rfl) ?_
  refine va_get (D := (dC, dI)) (ci := 9) (v := .ref (a2 0)) (C := RX10) (T := TX10) (N := 8) hx hb hta uw_X10 hown hK hP 0 rfl rfl 1 (by decide) (hta _ mA57) (fun _ h9 => h9) rfl dX10_addStrip_68 ?_
  refine lv_iload_n hx hb dX10_addStrip_71 rfl (lv_at hl 5 rfl) ?_
  obtain ⟨u_8, hu_8, hF⟩ := obd_some hF
  have hPc := hP.sub (ws' := (wd_X8_toOf cI a2 a3 v2_10 v2_11 v2_9)) [5, 8] rfl
  have hDc := hD.sub (ws' := (wd_X8_toOf cI a2 a3 v2_10 v2_11 v2_9)) [5, 8] rfl rfl
  refine q_calli (wc := (wd_X8_toOf cI a2 a3 v2_10 v2_11 v2_9)) (w1 := (wd_X8_toOf cI a2 a3 v2_10 v2_11 v2_9)) (ws' := (wd_X10_addStrip cI a0 a1 a2 a3 a4 v0_3 v0_4 v0_5 v0_6 v0_7 v1_3 v1_4 v1_5 v1_0 v1_1 v1_2 v2_10 v2_11 v2_7 v2_8 v2_9 v4_10 v4_1 v4_2 v4_3 v4_4 v4_5 v4_6 v4_7)) hP hD hS hA [5, 8] [0, 1, 2, 3, 4, 6, 7, 9, 10, 11, 12, 13, 14, 15, 16] [0, 1, 2, 3, 4, 15, 5, 6, 16, 7, 8, 9, 10, 11, 12, 13, 14] rfl rfl rfl (by decide) rfl rfl (va_runV (As := [.int p1]) (rest := [.int u_1, .ref (a4 0)]) ⟨hx, hb, hml, hown, hta⟩ (c_X8_toOf l dC dI cI H.size a2 a3 v2_10 v2_11 v2_9 p1 u_8 hu_8) (cwV 1 hta (ga_V mA521 mA429 mA430 mA56 mA431) rfl rfl rfl (by decide +kernel) ⟨Nat.le_of_ble_eq_true rfl, Nat.le_of_ble_eq_true rfl⟩) ⟨q_fb, va_recv hK hP (ci := 7) (q0 := 5) rfl rfl, q_ps hPc hK hDc⟩ rfl rfl hl.1 rfl (lv_room (Nat.le_of_ble_eq_true rfl)) dX10_addStrip_72 ⟨Nat.zero_le _, Nat.zero_le _⟩) (fun H locs hP hD hS => ?_)
  obtain ⟨u_9, hu_9, hF⟩ := obd_some hF
  have hPc := hP.sub (ws' := (wd_X9_yAt cI a4 v4_10 v4_2 v4_4 v4_5)) [9, 11, 13, 14] rfl
  have hDc := hD.sub (ws' := (wd_X9_yAt cI a4 v4_10 v4_2 v4_4 v4_5)) [9, 11, 13, 14] rfl rfl
  refine q_calli (wc := (wd_X9_yAt cI a4 v4_10 v4_2 v4_4 v4_5)) (w1 := (wd_X9_yAt cI a4 v4_10 v4_2 v4_4 v4_5)) (ws' := (wd_X10_addStrip cI a0 a1 a2 a3 a4 v0_3 v0_4 v0_5 v0_6 v0_7 v1_3 v1_4 v1_5 v1_0 v1_1 v1_2 v2_10 v2_11 v2_7 v2_8 v2_9 v4_10 v4_1 v4_2 v4_3 v4_4 v4_5 v4_6 v4_7)) hP hD hS hA [9, 11, 13, 14] [0, 1, 2, 3, 4, 5, 6, 7, 8, 10, 12, 15, 16] [0, 1, 2, 3, 4, 5, 6, 7, 8, 13, 9, 14, 10, 15, 16, 11, 12] rfl rfl rfl (by decide) rfl rfl (va_runV (As := [.int u_1, .int u_8]) (rest := []) ⟨hx, hb, hml, hown, hta⟩ (c_X9_yAt l dC dI cI H.size a4 v4_10 v4_2 v4_4 v4_5 u_1 u_8 u_9 hu_9) (cwV 2 hta (ga_V mA520 mA335 mA336 mA52 mA337) rfl rfl rfl (by decide +kernel) ⟨Nat.le_of_ble_eq_true rfl, Nat.le_of_ble_eq_true rfl⟩) ⟨q_fb, va_recv hK hP (ci := 8) (q0 := 9) rfl rfl, q_ps hPc hK hDc⟩ rfl rfl hl.1 rfl (lv_room (Nat.le_of_ble_eq_true rfl)) dX10_addStrip_75 ⟨Nat.zero_le _, Nat.zero_le _⟩) (fun H locs hP hD hS => ?_)
  refine lv_istore (lv' := [(6, .int u_9), (5, .int u_7), (4, .int u_5), (3, .int u_3), (2, .int u_1), (0, .ref (a0 0)), (1, .int p1)]) hx hb dX10_addStrip_78 hl (by decide) rfl (fun ls hl => ?_)
  refine lv_aload_n hx hb dX10_addStrip_80 rfl (lv_at hl 5 rfl) ?_
  refine va_get (D := (dC, dI)) (ci := 9) (v := .ref (a4 0)) (C := RX10) (T := TX10) (N := 8) hx hb hta uw_X10 hown hK hP 0 rfl rfl 0 (by decide) (hta _ mA53) (fun _ h9 => h9) rfl dX10_addStrip_81 ?_
  refine lv_iload_n hx hb dX10_addStrip_84 rfl (lv_at hl 4 rfl) ?_
  obtain ⟨u_10, hu_10, hF⟩ := obd_some hF
  have hPc := hP.sub (ws' := (wd_X9_normalX cI a4 v4_10 v4_6)) [9, 15] rfl
  have hDc := hD.sub (ws' := (wd_X9_normalX cI a4 v4_10 v4_6)) [9, 15] rfl rfl
  refine q_calli (wc := (wd_X9_normalX cI a4 v4_10 v4_6)) (w1 := (wd_X9_normalX cI a4 v4_10 v4_6)) (ws' := (wd_X10_addStrip cI a0 a1 a2 a3 a4 v0_3 v0_4 v0_5 v0_6 v0_7 v1_3 v1_4 v1_5 v1_0 v1_1 v1_2 v2_10 v2_11 v2_7 v2_8 v2_9 v4_10 v4_1 v4_2 v4_3 v4_4 v4_5 v4_6 v4_7)) hP hD hS hA [9, 15] [0, 1, 2, 3, 4, 5, 6, 7, 8, 10, 11, 12, 13, 14, 16] [0, 1, 2, 3, 4, 5, 6, 7, 8, 15, 9, 10, 11, 12, 13, 16, 14] rfl rfl rfl (by decide) rfl rfl (va_runV (As := [.int u_1]) (rest := []) ⟨hx, hb, hml, hown, hta⟩ (c_X9_normalX l dC dI cI H.size a4 v4_10 v4_6 u_1 u_10 hu_10) (cwV 1 hta (ga_V mA522 mA523 mA524 mA52 mA525) rfl rfl rfl (by decide +kernel) ⟨Nat.le_of_ble_eq_true rfl, Nat.le_of_ble_eq_true rfl⟩) ⟨q_fb, va_recv hK hP (ci := 8) (q0 := 9) rfl rfl, q_ps hPc hK hDc⟩ rfl rfl hl.1 rfl (lv_room (Nat.le_of_ble_eq_true rfl)) dX10_addStrip_85 ⟨Nat.zero_le _, Nat.zero_le _⟩) (fun H locs hP hD hS => ?_)
  refine lv_istore (lv' := [(7, .int u_10), (6, .int u_9), (5, .int u_7), (4, .int u_5), (3, .int u_3), (2, .int u_1), (0, .ref (a0 0)), (1, .int p1)]) hx hb dX10_addStrip_88 hl (by decide) rfl (fun ls hl => ?_)
  refine lv_aload_n hx hb dX10_addStrip_90 rfl (lv_at hl 6 rfl) ?_
  refine va_get (D := (dC, dI)) (ci := 9) (v := .ref (a4 0)) (C := RX10) (T := TX10) (N := 8) hx hb hta uw_X10 hown hK hP 0 rfl rfl 0 (by decide) (hta _ mA53) (fun _ h9 => h9) rfl dX10_addStrip_91 ?_
  refine lv_iload_n hx hb dX10_addStrip_94 rfl (lv_at hl 5 rfl) ?_
  obtain ⟨u_11, hu_11, hF⟩ := obd_some hF
  have hPc := hP.sub (ws' := (wd_X9_normalY cI a4 v4_10 v4_7)) [9, 16] rfl
  have hDc := hD.sub (ws' := (wd_X9_normalY cI a4 v4_10 v4_7)) [9, 16] rfl rfl
  refine q_calli (wc := (wd_X9_normalY cI a4 v4_10 v4_7)) (w1 := (wd_X9_normalY cI a4 v4_10 v4_7)) (ws' := (wd_X10_addStrip cI a0 a1 a2 a3 a4 v0_3 v0_4 v0_5 v0_6 v0_7 v1_3 v1_4 v1_5 v1_0 v1_1 v1_2 v2_10 v2_11 v2_7 v2_8 v2_9 v4_10 v4_1 v4_2 v4_3 v4_4 v4_5 v4_6 v4_7)) hP hD hS hA [9, 16] [0, 1, 2, 3, 4, 5, 6, 7, 8, 10, 11, 12, 13, 14, 15] [0, 1, 2, 3, 4, 5, 6, 7, 8, 15, 9, 10, 11, 12, 13, 14, 16] rfl rfl rfl (by decide) rfl rfl (va_runV (As := [.int u_1]) (rest := []) ⟨hx, hb, hml, hown, hta⟩ (c_X9_normalY l dC dI cI H.size a4 v4_10 v4_7 u_1 u_11 hu_11) (cwV 1 hta (ga_V mA526 mA527 mA528 mA52 mA529) rfl rfl rfl (by decide +kernel) ⟨Nat.le_of_ble_eq_true rfl, Nat.le_of_ble_eq_true rfl⟩) ⟨q_fb, va_recv hK hP (ci := 8) (q0 := 9) rfl rfl, q_ps hPc hK hDc⟩ rfl rfl hl.1 rfl (lv_room (Nat.le_of_ble_eq_true rfl)) dX10_addStrip_95 ⟨Nat.zero_le _, Nat.zero_le _⟩) (fun H locs hP hD hS => ?_)
  refine lv_istore (lv' := [(8, .int u_11), (7, .int u_10), (6, .int u_9), (5, .int u_7), (4, .int u_5), (3, .int u_3), (2, .int u_1), (0, .ref (a0 0)), (1, .int p1)]) hx hb dX10_addStrip_98 hl (by decide) rfl (fun ls hl => ?_)
  refine lv_aload_n hx hb dX10_addStrip_100 rfl (lv_at hl 7 rfl) ?_
  refine va_get (D := (dC, dI)) (ci := 9) (v := .ref (a1 0)) (C := RX10) (T := TX10) (N := 8) hx hb hta uw_X10 hown hK hP 0 rfl rfl 2 (by decide) (hta _ mA61) (fun _ h9 => h9) rfl dX10_addStrip_101 ?_
  refine lv_iconst (v := 0) hx hb dX10_addStrip_104 (by decide) ?_
  obtain ⟨u_12, hu_12, hF⟩ := obd_some hF
  have hPc := hP.sub (ws' := (wd_X7_start cI a1 v1_3 v1_4 v1_5 v1_0)) [1, 2] rfl
  have hDc := hD.sub (ws' := (wd_X7_start cI a1 v1_3 v1_4 v1_5 v1_0)) [1, 2] rfl rfl
  refine q_callv (wc := (wd_X7_start cI a1 v1_3 v1_4 v1_5 v1_0)) (w1 := (wd_X7_start cI a1 u_12.1 u_12.2.1 v1_5 u_12.2.2)) (ws' := (wd_X10_addStrip cI a0 a1 a2 a3 a4 v0_3 v0_4 v0_5 v0_6 v0_7 u_12.1 u_12.2.1 v1_5 u_12.2.2 v1_1 v1_2 v2_10 v2_11 v2_7 v2_8 v2_9 v4_10 v4_1 v4_2 v4_3 v4_4 v4_5 v4_6 v4_7)) hP hD hS hA [1, 2] [0, 3, 4, 5, 6, 7, 8, 9, 10, 11, 12, 13, 14, 15, 16] [0, 15, 16, 1, 2, 3, 4, 5, 6, 7, 8, 9, 10, 11, 12, 13, 14] rfl rfl rfl (by decide) rfl rfl (va_runV (As := [.int 0]) (rest := []) ⟨hx, hb, hml, hown, hta⟩ (c_X7_start l dC dI cI H.size a1 v1_3 v1_4 v1_5 v1_0 0 u_12 hu_12) (cwV 1 hta (ga_V mA489 mA490 mA491 mA60 mA492) rfl rfl rfl (by decide +kernel) ⟨Nat.le_of_ble_eq_true rfl, Nat.le_of_ble_eq_true rfl⟩) ⟨q_fb, va_recv hK hP (ci := 6) (q0 := 1) rfl rfl, q_ps hPc hK hDc⟩ rfl rfl hl.1 rfl (lv_room (Nat.le_of_ble_eq_true rfl)) dX10_addStrip_105 ⟨Nat.zero_le _, Nat.zero_le _⟩) (fun H locs hP hD hS => ?_)
  refine lv_aload_n hx hb dX10_addStrip_108 rfl (lv_at hl 7 rfl) ?_
  refine va_get (D := (dC, dI)) (ci := 9) (v := .ref (a1 0)) (C := RX10) (T := TX10) (N := 8) hx hb hta uw_X10 hown hK hP 0 rfl rfl 2 (by decide) (hta _ mA61) (fun _ h9 => h9) rfl dX10_addStrip_109 ?_
  refine lv_iload_n hx hb dX10_addStrip_112 rfl (lv_at hl 5 rfl) ?_
  refine lv_iload hx hb dX10_addStrip_113 (lv_at hl 1 rfl) ?_
  refine lv_iadd hx hb dX10_addStrip_115 ?_
  refine lv_iload hx hb dX10_addStrip_116 (lv_at hl 4 rfl) ?_
  refine lv_iload hx hb dX10_addStrip_118 (lv_at hl 0 rfl) ?_
  refine lv_iadd hx hb dX10_addStrip_120 ?_
  obtain ⟨u_13, hu_13, hF⟩ := obd_some hF
  have hPc := hP.sub (ws' := (wd_X7_addCorner cI a1 u_12.1 u_12.2.1 v1_5 v1_1 v1_2)) [1, 3, 4] rfl
  have hDc := hD.sub (ws' := (wd_X7_addCorner cI a1 u_12.1 u_12.2.1 v1_5 v1_1 v1_2)) [1, 3, 4] rfl rfl
  refine q_callv (wc := (wd_X7_addCorner cI a1 u_12.1 u_12.2.1 v1_5 v1_1 v1_2)) (w1 := (wd_X7_addCorner cI a1 u_12.1 u_13.1 v1_5 u_13.2.1 u_13.2.2)) (ws' := (wd_X10_addStrip cI a0 a1 a2 a3 a4 v0_3 v0_4 v0_5 v0_6 v0_7 u_12.1 u_13.1 v1_5 u_12.2.2 u_13.2.1 u_13.2.2 v2_10 v2_11 v2_7 v2_8 v2_9 v4_10 v4_1 v4_2 v4_3 v4_4 v4_5 v4_6 v4_7)) hP hD hS hA [1, 3, 4] [0, 2, 5, 6, 7, 8, 9, 10, 11, 12, 13, 14, 15, 16] [0, 14, 1, 15, 16, 2, 3, 4, 5, 6, 7, 8, 9, 10, 11, 12, 13] rfl rfl rfl (by decide) rfl rfl (va_runV (As := [.int (u_3 + u_10), .int (u_5 + u_11)]) (rest := []) ⟨hx, hb, hml, hown, hta⟩ (c_X7_addCorner l dC dI cI H.size a1 u_12.1 u_12.2.1 v1_5 v1_1 v1_2 (u_3 + u_10) (u_5 + u_11) u_13 hu_13) (cwV 2 hta (ga_V mA494 mA495 mA496 mA60 mA497) rfl rfl rfl (by decide +kernel) ⟨Nat.le_of_ble_eq_true rfl, Nat.le_of_ble_eq_true rfl⟩) ⟨q_fb, va_recv hK hP (ci := 6) (q0 := 1) rfl rfl, q_ps hPc hK hDc⟩ rfl rfl hl.1 rfl (lv_room (Nat.le_of_ble_eq_true rfl)) dX10_addStrip_121 ⟨Nat.zero_le _, Nat.zero_le _⟩) (fun H locs hP hD hS => ?_)
  refine lv_aload_n hx hb dX10_addStrip_124 rfl (lv_at hl 7 rfl) ?_
  refine va_get (D := (dC, dI)) (ci := 9) (v := .ref (a1 0)) (C := RX10) (T := TX10) (N := 8) hx hb hta uw_X10 hown hK hP 0 rfl rfl 2 (by decide) (hta _ mA61) (fun _ h9 => h9) rfl dX10_addStrip_125 ?_
  refine lv_iload hx hb dX10_addStrip_128 (lv_at hl 3 rfl) ?_
  refine lv_iload hx hb dX10_addStrip_130 (lv_at hl 1 rfl) ?_
  refine lv_iadd hx hb dX10_addStrip_132 ?_
  refine lv_iload hx hb dX10_addStrip_133 (lv_at hl 2 rfl) ?_
  refine lv_iload hx hb dX10_addStrip_135 (lv_at hl 0 rfl) ?_
  refine lv_iadd hx hb dX10_addStrip_137 ?_
  obtain ⟨u_14, hu_14, hF⟩ := obd_some hF
  have hPc := hP.sub (ws' := (wd_X7_addCorner cI a1 u_12.1 u_13.1 v1_5 u_13.2.1 u_13.2.2)) [1, 3, 4] rfl
  have hDc := hD.sub (ws' := (wd_X7_addCorner cI a1 u_12.1 u_13.1 v1_5 u_13.2.1 u_13.2.2)) [1, 3, 4] rfl rfl
  refine q_callv (wc := (wd_X7_addCorner cI a1 u_12.1 u_13.1 v1_5 u_13.2.1 u_13.2.2)) (w1 := (wd_X7_addCorner cI a1 u_12.1 u_14.1 v1_5 u_14.2.1 u_14.2.2)) (ws' := (wd_X10_addStrip cI a0 a1 a2 a3 a4 v0_3 v0_4 v0_5 v0_6 v0_7 u_12.1 u_14.1 v1_5 u_12.2.2 u_14.2.1 u_14.2.2 v2_10 v2_11 v2_7 v2_8 v2_9 v4_10 v4_1 v4_2 v4_3 v4_4 v4_5 v4_6 v4_7)) hP hD hS hA [1, 3, 4] [0, 2, 5, 6, 7, 8, 9, 10, 11, 12, 13, 14, 15, 16] [0, 14, 1, 15, 16, 2, 3, 4, 5, 6, 7, 8, 9, 10, 11, 12, 13] rfl rfl rfl (by decide) rfl rfl (va_runV (As := [.int (u_7 + u_10), .int (u_9 + u_11)]) (rest := []) ⟨hx, hb, hml, hown, hta⟩ (c_X7_addCorner l dC dI cI H.size a1 u_12.1 u_13.1 v1_5 u_13.2.1 u_13.2.2 (u_7 + u_10) (u_9 + u_11) u_14 hu_14) (cwV 2 hta (ga_V mA494 mA495 mA496 mA60 mA497) rfl rfl rfl (by decide +kernel) ⟨Nat.le_of_ble_eq_true rfl, Nat.le_of_ble_eq_true rfl⟩) ⟨q_fb, va_recv hK hP (ci := 6) (q0 := 1) rfl rfl, q_ps hPc hK hDc⟩ rfl rfl hl.1 rfl (lv_room (Nat.le_of_ble_eq_true rfl)) dX10_addStrip_138 ⟨Nat.zero_le _, Nat.zero_le _⟩) (fun H locs hP hD hS => ?_)
  refine lv_aload_n hx hb dX10_addStrip_141 rfl (lv_at hl 7 rfl) ?_
  refine va_get (D := (dC, dI)) (ci := 9) (v := .ref (a1 0)) (C := RX10) (T := TX10) (N := 8) hx hb hta uw_X10 hown hK hP 0 rfl rfl 2 (by decide) (hta _ mA61) (fun _ h9 => h9) rfl dX10_addStrip_142 ?_
  refine lv_iload hx hb dX10_addStrip_145 (lv_at hl 3 rfl) ?_
  refine lv_iload hx hb dX10_addStrip_147 (lv_at hl 1 rfl) ?_
  refine lv_isub hx hb dX10_addStrip_149 ?_
  refine lv_iload hx hb dX10_addStrip_150 (lv_at hl 2 rfl) ?_
  refine lv_iload hx hb dX10_addStrip_152 (lv_at hl 0 rfl) ?_
  refine lv_isub hx hb dX10_addStrip_154 ?_
  obtain ⟨u_15, hu_15, hF⟩ := obd_some hF
  have hPc := hP.sub (ws' := (wd_X7_addCorner cI a1 u_12.1 u_14.1 v1_5 u_14.2.1 u_14.2.2)) [1, 3, 4] rfl
  have hDc := hD.sub (ws' := (wd_X7_addCorner cI a1 u_12.1 u_14.1 v1_5 u_14.2.1 u_14.2.2)) [1, 3, 4] rfl rfl
  refine q_callv (wc := (wd_X7_addCorner cI a1 u_12.1 u_14.1 v1_5 u_14.2.1 u_14.2.2)) (w1 := (wd_X7_addCorner cI a1 u_12.1 u_15.1 v1_5 u_15.2.1 u_15.2.2)) (ws' := (wd_X10_addStrip cI a0 a1 a2 a3 a4 v0_3 v0_4 v0_5 v0_6 v0_7 u_12.1 u_15.1 v1_5 u_12.2.2 u_15.2.1 u_15.2.2 v2_10 v2_11 v2_7 v2_8 v2_9 v4_10 v4_1 v4_2 v4_3 v4_4 v4_5 v4_6 v4_7)) hP hD hS hA [1, 3, 4] [0, 2, 5, 6, 7, 8, 9, 10, 11, 12, 13, 14, 15, 16] [0, 14, 1, 15, 16, 2, 3, 4, 5, 6, 7, 8, 9, 10, 11, 12, 13] rfl rfl rfl (by decide) rfl rfl (va_runV (As := [.int (u_7 - u_10), .int (u_9 - u_11)]) (rest := []) ⟨hx, hb, hml, hown, hta⟩ (c_X7_addCorner l dC dI cI H.size a1 u_12.1 u_14.1 v1_5 u_14.2.1 u_14.2.2 (u_7 - u_10) (u_9 - u_11) u_15 hu_15) (cwV 2 hta (ga_V mA494 mA495 mA496 mA60 mA497) rfl rfl rfl (by decide +kernel) ⟨Nat.le_of_ble_eq_true rfl, Nat.le_of_ble_eq_true rfl⟩) ⟨q_fb, va_recv hK hP (ci := 6) (q0 := 1) rfl rfl, q_ps hPc hK hDc⟩ rfl rfl hl.1 rfl (lv_room (Nat.le_of_ble_eq_true rfl)) dX10_addStrip_155 ⟨Nat.zero_le _, Nat.zero_le _⟩) (fun H locs hP hD hS => ?_)
  refine lv_aload_n hx hb dX10_addStrip_158 rfl (lv_at hl 7 rfl) ?_
  refine va_get (D := (dC, dI)) (ci := 9) (v := .ref (a1 0)) (C := RX10) (T := TX10) (N := 8) hx hb hta uw_X10 hown hK hP 0 rfl rfl 2 (by decide) (hta _ mA61) (fun _ h9 => h9) rfl dX10_addStrip_159 ?_
  refine lv_iload_n hx hb dX10_addStrip_162 rfl (lv_at hl 5 rfl) ?_
  refine lv_iload hx hb dX10_addStrip_163 (lv_at hl 1 rfl) ?_
  refine lv_isub hx hb dX10_addStrip_165 ?_
  refine lv_iload hx hb dX10_addStrip_166 (lv_at hl 4 rfl) ?_
  refine lv_iload hx hb dX10_addStrip_168 (lv_at hl 0 rfl) ?_
  refine lv_isub hx hb dX10_addStrip_170 ?_
  obtain ⟨u_16, hu_16, hF⟩ := obd_some hF
  have hPc := hP.sub (ws' := (wd_X7_addCorner cI a1 u_12.1 u_15.1 v1_5 u_15.2.1 u_15.2.2)) [1, 3, 4] rfl
  have hDc := hD.sub (ws' := (wd_X7_addCorner cI a1 u_12.1 u_15.1 v1_5 u_15.2.1 u_15.2.2)) [1, 3, 4] rfl rfl
  refine q_callv (wc := (wd_X7_addCorner cI a1 u_12.1 u_15.1 v1_5 u_15.2.1 u_15.2.2)) (w1 := (wd_X7_addCorner cI a1 u_12.1 u_16.1 v1_5 u_16.2.1 u_16.2.2)) (ws' := (wd_X10_addStrip cI a0 a1 a2 a3 a4 v0_3 v0_4 v0_5 v0_6 v0_7 u_12.1 u_16.1 v1_5 u_12.2.2 u_16.2.1 u_16.2.2 v2_10 v2_11 v2_7 v2_8 v2_9 v4_10 v4_1 v4_2 v4_3 v4_4 v4_5 v4_6 v4_7)) hP hD hS hA [1, 3, 4] [0, 2, 5, 6, 7, 8, 9, 10, 11, 12, 13, 14, 15, 16] [0, 14, 1, 15, 16, 2, 3, 4, 5, 6, 7, 8, 9, 10, 11, 12, 13] rfl rfl rfl (by decide) rfl rfl (va_runV (As := [.int (u_3 - u_10), .int (u_5 - u_11)]) (rest := []) ⟨hx, hb, hml, hown, hta⟩ (c_X7_addCorner l dC dI cI H.size a1 u_12.1 u_15.1 v1_5 u_15.2.1 u_15.2.2 (u_3 - u_10) (u_5 - u_11) u_16 hu_16) (cwV 2 hta (ga_V mA494 mA495 mA496 mA60 mA497) rfl rfl rfl (by decide +kernel) ⟨Nat.le_of_ble_eq_true rfl, Nat.le_of_ble_eq_true rfl⟩) ⟨q_fb, va_recv hK hP (ci := 6) (q0 := 1) rfl rfl, q_ps hPc hK hDc⟩ rfl rfl hl.1 rfl (lv_room (Nat.le_of_ble_eq_true rfl)) dX10_addStrip_171 ⟨Nat.zero_le _, Nat.zero_le _⟩) (fun H locs hP hD hS => ?_)
  obtain rfl := Option.some.inj hF
  exact W.vret hx hb hr (fun t ht hW => ⟨⟨(), rfl, trivial, by rw [ht]; exact hP, va_K.moved hW.alike hK, hD⟩, hS.F ht⟩) hS.2.2 dX10_addStrip_174

-- StrokeOutliner$Stroke.isInLimit(JJ)Z
def F_X10_isInLimit_j56 (x3 : Int64) (x5 : Int64) (x7 : Int64) (t0 : Int32) (t1 : Int32) : (Int32) :=
  if t0 = t1 then if (lg_cmp x5 0) < 0 then 0 else 1 else lt (x5 * x5) (fun y_2 => lt ((x7 * x7) * x3) (fun y_3 => if 0 ≤ (lg_cmp x5 0) then if (lg_cmp y_2 y_3) < 0 then 0 else 1 else if (lg_cmp y_3 y_2) < 0 then 0 else 1))
def F_X10_isInLimit_j44 (x3 : Int64) (x5 : Int64) (x7 : Int64) (t0 : Int32) : (Int32) :=
  if 0 ≤ (lg_cmp x7 0) then F_X10_isInLimit_j56 x3 x5 x7 t0 0 else F_X10_isInLimit_j56 x3 x5 x7 t0 1
def F_X10_isInLimit (v0_6 : Int32) (p1 : Int64) (p3 : Int64) : (Int32) :=
  lt ((v0_6.toInt64 * v0_6.toInt64) * p1) (fun y_9 => lt ((v0_6.toInt64 * v0_6.toInt64) - 2) (fun y_10 => if 0 ≤ (lg_cmp y_9 0) then F_X10_isInLimit_j44 p3 y_9 y_10 0 else F_X10_isInLimit_j44 p3 y_9 y_10 1))
abbrev wd_X10_isInLimit (cI : ClassId) (a0 : Nat → Nat) (a1 : Nat → Nat) (a2 : Nat → Nat) (a3 : Nat → Nat) (v0_3 : Int32) (v0_4 : Int32) (v0_5 : Int32) (v0_6 : Int32) (v0_7 : Int32) : va_W := [(a0 0, .inr (9, [.ref (a3 0), .ref (a2 0), .ref (a1 0), .int v0_3, .int v0_4, .int v0_5, .int v0_6, .int v0_7]))]
abbrev wz_X10_isInLimit : List Cond := .code yX10_isInLimit cX10_isInLimit 13 (some .boolean) :: wALL
abbrev rm_X10_isInLimit : Room := { frames := 0, cells := 0, slots := 0, locals := 0 }
abbrev Q_X10_isInLimit (dC : Nat → ClassId) (dI : Nat → Nat → Nat) (cI : ClassId) (a0 : Nat → Nat) (a1 : Nat → Nat) (a2 : Nat → Nat) (a3 : Nat → Nat) (v0_3 : Int32) (v0_4 : Int32) (v0_5 : Int32) (v0_6 : Int32) (v0_7 : Int32) (u : (Int32)) (A : Nat → Prop) : Array Value → State → Outcome → State → Prop := va_Qi (fun (r : Int32) (_ : Unit) => r = u ∧ (u = 0 ∨ u = 1)) (fun _ => q_at dC dI cI A (wd_X10_isInLimit cI a0 a1 a2 a3 v0_3 v0_4 v0_5 v0_6 v0_7)) A
set_option maxHeartbeats 4000000 in
set_option maxRecDepth 100000 in
theorem c_X10_isInLimit (l : Launch) (dC : Nat → ClassId) (dI : Nat → Nat → Nat) (cI : ClassId) (sz : Nat) (a0 : Nat → Nat) (a1 : Nat → Nat) (a2 : Nat → Nat) (a3 : Nat → Nat) (v0_3 : Int32) (v0_4 : Int32) (v0_5 : Int32) (v0_6 : Int32) (v0_7 : Int32) (p1 : Int64) (p3 : Int64) (u : (Int32)) (hF : F_X10_isInLimit v0_6 p1 p3 = u) : Met l yX10_isInLimit wz_X10_isInLimit rm_X10_isInLimit (va_Pc [.ref (a0 0), .long p1, .long p3] (q_pre dC dI cI (wd_X10_isInLimit cI a0 a1 a2 a3 v0_3 v0_4 v0_5 v0_6 v0_7) sz)) (Q_X10_isInLimit dC dI cI a0 a1 a2 a3 v0_3 v0_4 v0_5 v0_6 v0_7 u (va_A (wd_X10_isInLimit cI a0 a1 a2 a3 v0_3 v0_4 v0_5 v0_6 v0_7) sz)) 0 0 (va_A (wd_X10_isInLimit cI a0 a1 a2 a3 v0_3 v0_4 v0_5 v0_6 v0_7) sz) := by
  refine Met.ofW (cc := cX10_isInLimit) (maxL := 13) (ret := (some .boolean)) (by decide) rfl ?_
  intro p e s m args below meth c s₁ B hml hv
  obtain ⟨rfl, hsz, hP, hK, hD0⟩ := hv
  have hx := B.exec
  have hb := B.bytes
  have hr := B.returns
  have hts := atoms_spec (ws := wz_X10_isInLimit) B.pre
  have hta := wz_tl hts
  have hown : s.vm.findClass RX10 = some m.cls := findClass_of_methodNamed B.named
  have hlocks := B.notSynchronized
  subst hsz
  have hD := hD0.self (sz := s.heap.size)
  generalize hAe : va_A (wd_X10_isInLimit cI a0 a1 a2 a3 v0_3 v0_4 v0_5 v0_6 v0_7) s.heap.size = A at hD ⊢
  have hA : ∀ q : Nat, s.heap.size ≤ q → A q := fun q h => by rw [← hAe]; exact Or.inr h
  have hS : va_S A s.heap s.heap [] := va_S.rf
  have hP : va_P (dC, dI) vwCl (wd_X10_isInLimit cI a0 a1 a2 a3 v0_3 v0_4 v0_5 v0_6 v0_7) s.heap := hP
  have hl := lv_entry ([.ref (a0 0), .long p1, .long p3]) (n := 13) (Nat.le_of_ble_eq_true rfl)
  rw [lg_entry_eq]
  generalize (lg_sl ([.ref (a0 0), .long p1, .long p3]) ++ List.replicate (13 - (lg_sl ([.ref (a0 0), .long p1, .long p3])).length) Slot.unset).toArray = ls at hl ⊢
  have hl : lv_has ls 13 [(0, .ref (a0 0)), (1, .long p1), (3, .long p3)] := hl
  obtain ⟨H, hHe⟩ : ∃ H, H = s.heap := ⟨_, rfl⟩
  have hS : va_S A s.heap H [] := by rw [hHe]; exact hS
  have hP : va_P (dC, dI) vwCl (wd_X10_isInLimit cI a0 a1 a2 a3 v0_3 v0_4 v0_5 v0_6 v0_7) H := by rw [hHe]; exact hP
  rw [← hHe]
  unfold F_X10_isInLimit at hF
  have j56 : ∀ (x3 : Int64) (x5 : Int64) (x7 : Int64) (t0 : Int32) (t1 : Int32), F_X10_isInLimit_j56 x3 x5 x7 t0 t1 = u → ∀ (H : Heap) (locs : List Loc) (ls : Array Slot), va_P (dC, dI) vwCl (wd_X10_isInLimit cI a0 a1 a2 a3 v0_3 v0_4 v0_5 v0_6 v0_7) H → va_D A (wd_X10_isInLimit cI a0 a1 a2 a3 v0_3 v0_4 v0_5 v0_6 v0_7) → va_S A s.heap H locs → lv_has ls 13 [(3, .long x3), (5, .long x5), (7, .long x7)] → W p l e (headSpec wz_X10_isInLimit rm_X10_isInLimit).room s m [.ref (a0 0), .long p1, .long p3].toArray below meth c H locs 0 0 (MQ below (Q_X10_isInLimit dC dI cI a0 a1 a2 a3 v0_3 v0_4 v0_5 v0_6 v0_7 u A) [.ref (a0 0), .long p1, .long p3].toArray s 0 0 A) (F0 m 56 ls [.int t1, .int t0]) := by
    intro x3 x5 x7 t0 t1 hF H locs ls hP hD hS hl
    unfold F_X10_isInLimit_j56 at hF
    refine lv_icmp_ne (tgt := 72) hx hb dX10_isInLimit_56 (by decide) (fun c_1 => ?_) (fun c_1 => ?_)
    · have hF := it_f hF c_1
      refine lv_lload hx hb dX10_isInLimit_72 (lv_at hl 1 rfl) ?_
      refine lv_lload hx hb dX10_isInLimit_74 (lv_at hl 1 rfl) ?_
      refine lv_lmul hx hb dX10_isInLimit_76 ?_
      obtain ⟨y_2, ey_2, hF⟩ := lt_some hF
      refine lv_eql ey_2 ?_
      refine lv_lstore (lv' := [(9, .long y_2), (3, .long x3), (5, .long x5), (7, .long x7)]) hx hb dX10_isInLimit_77 hl (by decide) rfl (fun ls hl => ?_)
      refine lv_lload hx hb dX10_isInLimit_79 (lv_at hl 3 rfl) ?_
      refine lv_lload hx hb dX10_isInLimit_81 (lv_at hl 3 rfl) ?_
      refine lv_lmul hx hb dX10_isInLimit_83 ?_
      refine lv_lload_n hx hb dX10_isInLimit_84 rfl (lv_at hl 1 rfl) ?_
      refine lv_lmul hx hb dX10_isInLimit_85 ?_
      obtain ⟨y_3, ey_3, hF⟩ := lt_some hF
      refine lv_eql ey_3 ?_
      refine lv_lstore (lv' := [(11, .long y_3), (9, .long y_2), (3, .long x3), (5, .long x5), (7, .long x7)]) hx hb dX10_isInLimit_86 hl (by decide) rfl (fun ls hl => ?_)
      refine lv_lload hx hb dX10_isInLimit_88 (lv_at hl 3 rfl) ?_
      refine lv_lconst (v := 0) hx hb dX10_isInLimit_90 (by decide) ?_
      refine W.lcmp hx hb dX10_isInLimit_91 ?_
      refine lv_if_ge (tgt := 111) hx hb dX10_isInLimit_92 (by decide) (fun c_4 => ?_) (fun c_4 => ?_)
      · have hF := it_t hF c_4
        refine lv_lload hx hb dX10_isInLimit_111 (lv_at hl 1 rfl) ?_
        refine lv_lload hx hb dX10_isInLimit_113 (lv_at hl 0 rfl) ?_
        refine W.lcmp hx hb dX10_isInLimit_115 ?_
        refine lv_if_lt (tgt := 123) hx hb dX10_isInLimit_116 (by decide) (fun c_5 => ?_) (fun c_5 => ?_)
        · have hF := it_t hF c_5
          refine lv_iconst (v := 0) hx hb dX10_isInLimit_123 (by decide) ?_
          subst hF
          exact W.zret (v := 0) (ty := .boolean) hx hb hr (z_nar (Or.inl rfl)) (fun t ht hW => ⟨⟨0, (), rfl, ⟨rfl, (Or.inl rfl)⟩, by rw [ht]; exact hP, va_K.moved hW.alike hK, hD⟩, hS.F ht⟩) hS.2.2 dX10_isInLimit_124
        · have hF := it_f hF c_5
          refine lv_iconst (v := 1) hx hb dX10_isInLimit_119 (by decide) ?_
          refine lv_goto (tgt := 124) hx hb dX10_isInLimit_120 (by decide) ?_
          subst hF
          exact W.zret (v := 1) (ty := .boolean) hx hb hr (z_nar (Or.inr rfl)) (fun t ht hW => ⟨⟨1, (), rfl, ⟨rfl, (Or.inr rfl)⟩, by rw [ht]; exact hP, va_K.moved hW.alike hK, hD⟩, hS.F ht⟩) hS.2.2 dX10_isInLimit_124
      · have hF := it_f hF c_4
        refine lv_lload hx hb dX10_isInLimit_95 (lv_at hl 0 rfl) ?_
        refine lv_lload hx hb dX10_isInLimit_97 (lv_at hl 1 rfl) ?_
        refine W.lcmp hx hb dX10_isInLimit_99 ?_
        refine lv_if_lt (tgt := 107) hx hb dX10_isInLimit_100 (by decide) (fun c_6 => ?_) (fun c_6 => ?_)
        · have hF := it_t hF c_6
          refine lv_iconst (v := 0) hx hb dX10_isInLimit_107 (by decide) ?_
          refine lv_goto (tgt := 124) hx hb dX10_isInLimit_108 (by decide) ?_
          subst hF
          exact W.zret (v := 0) (ty := .boolean) hx hb hr (z_nar (Or.inl rfl)) (fun t ht hW => ⟨⟨0, (), rfl, ⟨rfl, (Or.inl rfl)⟩, by rw [ht]; exact hP, va_K.moved hW.alike hK, hD⟩, hS.F ht⟩) hS.2.2 dX10_isInLimit_124
        · have hF := it_f hF c_6
          refine lv_iconst (v := 1) hx hb dX10_isInLimit_103 (by decide) ?_
          refine lv_goto (tgt := 124) hx hb dX10_isInLimit_104 (by decide) ?_
          subst hF
          exact W.zret (v := 1) (ty := .boolean) hx hb hr (z_nar (Or.inr rfl)) (fun t ht hW => ⟨⟨1, (), rfl, ⟨rfl, (Or.inr rfl)⟩, by rw [ht]; exact hP, va_K.moved hW.alike hK, hD⟩, hS.F ht⟩) hS.2.2 dX10_isInLimit_124
    · have hF := it_t hF c_1
      refine lv_lload hx hb dX10_isInLimit_59 (lv_at hl 1 rfl) ?_
      refine lv_lconst (v := 0) hx hb dX10_isInLimit_61 (by decide) ?_
      refine W.lcmp hx hb dX10_isInLimit_62 ?_
      refine lv_if_lt (tgt := 70) hx hb dX10_isInLimit_63 (by decide) (fun c_7 => ?_) (fun c_7 => ?_)
      · have hF := it_t hF c_7
        refine lv_iconst (v := 0) hx hb dX10_isInLimit_70 (by decide) ?_
        subst hF
        exact W.zret (v := 0) (ty := .boolean) hx hb hr (z_nar (Or.inl rfl)) (fun t ht hW => ⟨⟨0, (), rfl, ⟨rfl, (Or.inl rfl)⟩, by rw [ht]; exact hP, va_K.moved hW.alike hK, hD⟩, hS.F ht⟩) hS.2.2 dX10_isInLimit_71
      · have hF := it_f hF c_7
        refine lv_iconst (v := 1) hx hb dX10_isInLimit_66 (by decide) ?_
        refine lv_goto (tgt := 71) hx hb dX10_isInLimit_67 (by decide) ?_
        subst hF
        exact W.zret (v := 1) (ty := .boolean) hx hb hr (z_nar (Or.inr rfl)) (fun t ht hW => ⟨⟨1, (), rfl, ⟨rfl, (Or.inr rfl)⟩, by rw [ht]; exact hP, va_K.moved hW.alike hK, hD⟩, hS.F ht⟩) hS.2.2 dX10_isInLimit_71
  have j44 : ∀ (x3 : Int64) (x5 : Int64) (x7 : Int64) (t0 : Int32), F_X10_isInLimit_j44 x3 x5 x7 t0 = u → ∀ (H : Heap) (locs : List Loc) (ls : Array Slot), va_P (dC, dI) vwCl (wd_X10_isInLimit cI a0 a1 a2 a3 v0_3 v0_4 v0_5 v0_6 v0_7) H → va_D A (wd_X10_isInLimit cI a0 a1 a2 a3 v0_3 v0_4 v0_5 v0_6 v0_7) → va_S A s.heap H locs → lv_has ls 13 [(3, .long x3), (5, .long x5), (7, .long x7)] → W p l e (headSpec wz_X10_isInLimit rm_X10_isInLimit).room s m [.ref (a0 0), .long p1, .long p3].toArray below meth c H locs 0 0 (MQ below (Q_X10_isInLimit dC dI cI a0 a1 a2 a3 v0_3 v0_4 v0_5 v0_6 v0_7 u A) [.ref (a0 0), .long p1, .long p3].toArray s 0 0 A) (F0 m 44 ls [.int t0]) := by
    intro x3 x5 x7 t0 hF H locs ls hP hD hS hl
    unfold F_X10_isInLimit_j44 at hF
    refine lv_lload hx hb dX10_isInLimit_44 (lv_at hl 2 rfl) ?_
    refine lv_lconst (v := 0) hx hb dX10_isInLimit_46 (by decide) ?_
    refine W.lcmp hx hb dX10_isInLimit_47 ?_
    refine lv_if_ge (tgt := 55) hx hb dX10_isInLimit_48 (by decide) (fun c_8 => ?_) (fun c_8 => ?_)
    · have hF := it_t hF c_8
      refine lv_iconst (v := 0) hx hb dX10_isInLimit_55 (by decide) ?_
      exact j56 x3 x5 x7 t0 0 hF _ _ _ hP hD hS (lv_sub hl [0, 1, 2] rfl)
    · have hF := it_f hF c_8
      refine lv_iconst (v := 1) hx hb dX10_isInLimit_51 (by decide) ?_
      refine lv_goto (tgt := 56) hx hb dX10_isInLimit_52 (by decide) ?_
      exact j56 x3 x5 x7 t0 1 hF _ _ _ hP hD hS (lv_sub hl [0, 1, 2] rfl)
  refine lv_aload_n hx hb dX10_isInLimit_0 rfl (lv_at hl 0 rfl) ?_
  refine va_get (D := (dC, dI)) (ci := 9) (v := .int v0_6) (C := RX10) (T := TX10) (N := 8) hx hb hta uw_X10 hown hK hP 0 rfl rfl 6 (by decide) (hta _ mA467) (fun _ h9 => h9) rfl dX10_isInLimit_1 ?_
  refine lv_i2l hx hb dX10_isInLimit_4 rfl ?_
  refine lv_aload_n hx hb dX10_isInLimit_5 rfl (lv_at hl 0 rfl) ?_
  refine va_get (D := (dC, dI)) (ci := 9) (v := .int v0_6) (C := RX10) (T := TX10) (N := 8) hx hb hta uw_X10 hown hK hP 0 rfl rfl 6 (by decide) (hta _ mA467) (fun _ h9 => h9) rfl dX10_isInLimit_6 ?_
  refine lv_i2l hx hb dX10_isInLimit_9 rfl ?_
  refine lv_lmul hx hb dX10_isInLimit_10 ?_
  refine lv_lload_n hx hb dX10_isInLimit_11 rfl (lv_at hl 1 rfl) ?_
  refine lv_lmul hx hb dX10_isInLimit_12 ?_
  obtain ⟨y_9, ey_9, hF⟩ := lt_some hF
  refine lv_eql ey_9 ?_
  refine lv_lstore (lv' := [(5, .long y_9), (0, .ref (a0 0)), (1, .long p1), (3, .long p3)]) hx hb dX10_isInLimit_13 hl (by decide) rfl (fun ls hl => ?_)
  refine lv_aload_n hx hb dX10_isInLimit_15 rfl (lv_at hl 1 rfl) ?_
  refine va_get (D := (dC, dI)) (ci := 9) (v := .int v0_6) (C := RX10) (T := TX10) (N := 8) hx hb hta uw_X10 hown hK hP 0 rfl rfl 6 (by decide) (hta _ mA467) (fun _ h9 => h9) rfl dX10_isInLimit_16 ?_
  refine lv_i2l hx hb dX10_isInLimit_19 rfl ?_
  refine lv_aload_n hx hb dX10_isInLimit_20 rfl (lv_at hl 1 rfl) ?_
  refine va_get (D := (dC, dI)) (ci := 9) (v := .int v0_6) (C := RX10) (T := TX10) (N := 8) hx hb hta uw_X10 hown hK hP 0 rfl rfl 6 (by decide) (hta _ mA467) (fun _ h9 => h9) rfl dX10_isInLimit_21 ?_
  refine lv_i2l hx hb dX10_isInLimit_24 rfl ?_
  refine lv_lmul hx hb dX10_isInLimit_25 ?_
  refine lv_ldc2 (v := 2) hx hb hown (hta _ mA546) dX10_isInLimit_26 ?_
  refine lv_lsub hx hb dX10_isInLimit_29 ?_
  obtain ⟨y_10, ey_10, hF⟩ := lt_some hF
  refine lv_eql ey_10 ?_
  refine lv_lstore (lv' := [(7, .long y_10), (5, .long y_9), (0, .ref (a0 0)), (1, .long p1), (3, .long p3)]) hx hb dX10_isInLimit_30 hl (by decide) rfl (fun ls hl => ?_)
  refine lv_lload hx hb dX10_isInLimit_32 (lv_at hl 1 rfl) ?_
  refine lv_lconst (v := 0) hx hb dX10_isInLimit_34 (by decide) ?_
  refine W.lcmp hx hb dX10_isInLimit_35 ?_
  refine lv_if_ge (tgt := 43) hx hb dX10_isInLimit_36 (by decide) (fun c_11 => ?_) (fun c_11 => ?_)
  · have hF := it_t hF c_11
    refine lv_iconst (v := 0) hx hb dX10_isInLimit_43 (by decide) ?_
    exact j44 p3 y_9 y_10 0 hF _ _ _ hP hD hS (lv_sub hl [4, 1, 0] rfl)
  · have hF := it_f hF c_11
    refine lv_iconst (v := 1) hx hb dX10_isInLimit_39 (by decide) ?_
    refine lv_goto (tgt := 44) hx hb dX10_isInLimit_40 (by decide) ?_
    exact j44 p3 y_9 y_10 1 hF _ _ _ hP hD hS (lv_sub hl [4, 1, 0] rfl)

-- StrokeOutliner$Stroke.addTip(IIIJJ)V
def F_X10_addTip (v0_4 : Int32) (v1_3 : Int32) (v1_4 : Int32) (v1_1 : Nat → Int32) (v1_2 : Nat → Int32) (p1 : Int32) (p2 : Int32) (p3 : Int32) (p4 : Int64) (p6 : Int64) : Option (Int32 × (Nat → Int32) × (Nat → Int32)) :=
  lt ((p4 * p4) + (p6 * p6)) (fun y_1 => lt ((2 * v0_4.toInt64) * v0_4.toInt64) (fun y_2 => obd (F_X4_round (y_2 * p4) y_1) (fun u_3 => lt (p3 * u_3) (fun y_4 => obd (F_X4_round (y_2 * p6) y_1) (fun u_5 => lt (p3 * u_5) (fun y_6 => obd (F_X7_addCorner v1_3 v1_4 v1_1 v1_2 (p1 + y_4) (p2 + y_6)) (fun u_7 => some (u_7.1, u_7.2.1, u_7.2.2))))))))
abbrev wd_X10_addTip (cI : ClassId) (a0 : Nat → Nat) (a1 : Nat → Nat) (a2 : Nat → Nat) (a3 : Nat → Nat) (v0_3 : Int32) (v0_4 : Int32) (v0_5 : Int32) (v0_6 : Int32) (v0_7 : Int32) (v1_3 : Int32) (v1_4 : Int32) (v1_5 : Int32) (v1_1 : Nat → Int32) (v1_2 : Nat → Int32) : va_W := [(a0 0, .inr (9, [.ref (a3 0), .ref (a2 0), .ref (a1 0), .int v0_3, .int v0_4, .int v0_5, .int v0_6, .int v0_7])), (a1 0, .inr (6, [.ref (a1 1), .ref (a1 2), .ref (a1 3), .int v1_3, .int v1_4, .int v1_5])), (a1 2, .inl (cI, 11200, .inl v1_1)), (a1 3, .inl (cI, 11200, .inl v1_2))]
abbrev wz_X10_addTip : List Cond := .code yX10_addTip cX10_addTip 14 none :: wALL
abbrev rm_X10_addTip : Room := { frames := 1, cells := 0, slots := 0, locals := 29 }
abbrev Q_X10_addTip (dC : Nat → ClassId) (dI : Nat → Nat → Nat) (cI : ClassId) (a0 : Nat → Nat) (a1 : Nat → Nat) (a2 : Nat → Nat) (a3 : Nat → Nat) (v0_3 : Int32) (v0_4 : Int32) (v0_5 : Int32) (v0_6 : Int32) (v0_7 : Int32) (v1_3 : Int32) (v1_5 : Int32) (u : (Int32 × (Nat → Int32) × (Nat → Int32))) (A : Nat → Prop) : Array Value → State → Outcome → State → Prop := va_Qv (fun (_ : Unit) => True) (fun _ => q_at dC dI cI A (wd_X10_addTip cI a0 a1 a2 a3 v0_3 v0_4 v0_5 v0_6 v0_7 v1_3 u.1 v1_5 u.2.1 u.2.2)) A
set_option maxHeartbeats 4000000 in
set_option maxRecDepth 100000 in
theorem c_X10_addTip (l : Launch) (dC : Nat → ClassId) (dI : Nat → Nat → Nat) (cI : ClassId) (sz : Nat) (a0 : Nat → Nat) (a1 : Nat → Nat) (a2 : Nat → Nat) (a3 : Nat → Nat) (v0_3 : Int32) (v0_4 : Int32) (v0_5 : Int32) (v0_6 : Int32) (v0_7 : Int32) (v1_3 : Int32) (v1_4 : Int32) (v1_5 : Int32) (v1_1 : Nat → Int32) (v1_2 : Nat → Int32) (p1 : Int32) (p2 : Int32) (p3 : Int32) (p4 : Int64) (p6 : Int64) (u : (Int32 × (Nat → Int32) × (Nat → Int32))) (hF : F_X10_addTip v0_4 v1_3 v1_4 v1_1 v1_2 p1 p2 p3 p4 p6 = some u) : Met l yX10_addTip wz_X10_addTip rm_X10_addTip (va_Pc [.ref (a0 0), .int p1, .int p2, .int p3, .long p4, .long p6] (q_pre dC dI cI (wd_X10_addTip cI a0 a1 a2 a3 v0_3 v0_4 v0_5 v0_6 v0_7 v1_3 v1_4 v1_5 v1_1 v1_2) sz)) (Q_X10_addTip dC dI cI a0 a1 a2 a3 v0_3 v0_4 v0_5 v0_6 v0_7 v1_3 v1_5 u (va_A (wd_X10_addTip cI a0 a1 a2 a3 v0_3 v0_4 v0_5 v0_6 v0_7 v1_3 v1_4 v1_5 v1_1 v1_2) sz)) 0 0 (va_A (wd_X10_addTip cI a0 a1 a2 a3 v0_3 v0_4 v0_5 v0_6 v0_7 v1_3 v1_4 v1_5 v1_1 v1_2) sz) := by
  refine Met.ofW (cc := cX10_addTip) (maxL := 14) (ret := none) (by decide) rfl ?_
  intro p e s m args below meth c s₁ B hml hv
  obtain ⟨rfl, hsz, hP, hK, hD0⟩ := hv
  have hx := B.exec
  have hb := B.bytes
  have hr := B.returns
  have hts := atoms_spec (ws := wz_X10_addTip) B.pre
  have hta := wz_tl hts
  have hown : s.vm.findClass RX10 = some m.cls := findClass_of_methodNamed B.named
  have hlocks := B.notSynchronized
  subst hsz
  have hD := hD0.self (sz := s.heap.size)
  generalize hAe : va_A (wd_X10_addTip cI a0 a1 a2 a3 v0_3 v0_4 v0_5 v0_6 v0_7 v1_3 v1_4 v1_5 v1_1 v1_2) s.heap.size = A at hD ⊢
  have hA : ∀ q : Nat, s.heap.size ≤ q → A q := fun q h => by rw [← hAe]; exact Or.inr h
  have hS : va_S A s.heap s.heap [] := va_S.rf
  have hP : va_P (dC, dI) vwCl (wd_X10_addTip cI a0 a1 a2 a3 v0_3 v0_4 v0_5 v0_6 v0_7 v1_3 v1_4 v1_5 v1_1 v1_2) s.heap := hP
  have hl := lv_entry ([.ref (a0 0), .int p1, .int p2, .int p3, .long p4, .long p6]) (n := 14) (Nat.le_of_ble_eq_true rfl)
  rw [lg_entry_eq]
  generalize (lg_sl ([.ref (a0 0), .int p1, .int p2, .int p3, .long p4, .long p6]) ++ List.replicate (14 - (lg_sl ([.ref (a0 0), .int p1, .int p2, .int p3, .long p4, .long p6])).length) Slot.unset).toArray = ls at hl ⊢
  have hl : lv_has ls 14 [(0, .ref (a0 0)), (1, .int p1), (2, .int p2), (3, .int p3), (4, .long p4), (6, .long p6)] := hl
  obtain ⟨H, hHe⟩ : ∃ H, H = s.heap := ⟨_, rfl⟩
  have hS : va_S A s.heap H [] := by rw [hHe]; exact hS
  have hP : va_P (dC, dI) vwCl (wd_X10_addTip cI a0 a1 a2 a3 v0_3 v0_4 v0_5 v0_6 v0_7 v1_3 v1_4 v1_5 v1_1 v1_2) H := by rw [hHe]; exact hP
  rw [← hHe]
  unfold F_X10_addTip at hF
  refine lv_lload hx hb dX10_addTip_0 (lv_at hl 4 rfl) ?_
  refine lv_lload hx hb dX10_addTip_2 (lv_at hl 4 rfl) ?_
  refine lv_lmul hx hb dX10_addTip_4 ?_
  refine lv_lload hx hb dX10_addTip_5 (lv_at hl 5 rfl) ?_
  refine lv_lload hx hb dX10_addTip_7 (lv_at hl 5 rfl) ?_
  refine lv_lmul hx hb dX10_addTip_9 ?_
  refine lv_ladd hx hb dX10_addTip_10 ?_
  obtain ⟨y_1, ey_1, hF⟩ := lt_some hF
  refine lv_eql ey_1 ?_
  refine lv_lstore (lv' := [(8, .long y_1), (0, .ref (a0 0)), (1, .int p1), (2, .int p2), (3, .int p3), (4, .long p4), (6, .long p6)]) hx hb dX10_addTip_11 hl (by decide) rfl (fun ls hl => ?_)
  refine lv_ldc2 (v := 2) hx hb hown (hta _ mA546) dX10_addTip_13 ?_
  refine lv_aload_n hx hb dX10_addTip_16 rfl (lv_at hl 1 rfl) ?_
  refine va_get (D := (dC, dI)) (ci := 9) (v := .int v0_4) (C := RX10) (T := TX10) (N := 8) hx hb hta uw_X10 hown hK hP 0 rfl rfl 4 (by decide) (hta _ mA465) (fun _ h9 => h9) rfl dX10_addTip_17 ?_
  refine lv_i2l hx hb dX10_addTip_20 rfl ?_
  refine lv_lmul hx hb dX10_addTip_21 ?_
  refine lv_aload_n hx hb dX10_addTip_22 rfl (lv_at hl 1 rfl) ?_
  refine va_get (D := (dC, dI)) (ci := 9) (v := .int v0_4) (C := RX10) (T := TX10) (N := 8) hx hb hta uw_X10 hown hK hP 0 rfl rfl 4 (by decide) (hta _ mA465) (fun _ h9 => h9) rfl dX10_addTip_23 ?_
  refine lv_i2l hx hb dX10_addTip_26 rfl ?_
  refine lv_lmul hx hb dX10_addTip_27 ?_
  obtain ⟨y_2, ey_2, hF⟩ := lt_some hF
  refine lv_eql ey_2 ?_
  refine lv_lstore (lv' := [(10, .long y_2), (8, .long y_1), (0, .ref (a0 0)), (1, .int p1), (2, .int p2), (3, .int p3), (4, .long p4), (6, .long p6)]) hx hb dX10_addTip_28 hl (by decide) rfl (fun ls hl => ?_)
  refine lv_iload_n hx hb dX10_addTip_30 rfl (lv_at hl 5 rfl) ?_
  refine lv_lload hx hb dX10_addTip_31 (lv_at hl 0 rfl) ?_
  refine lv_lload hx hb dX10_addTip_33 (lv_at hl 6 rfl) ?_
  refine lv_lmul hx hb dX10_addTip_35 ?_
  refine lv_lload hx hb dX10_addTip_36 (lv_at hl 1 rfl) ?_
  obtain ⟨u_3, hu_3, hF⟩ := obd_some hF
  have hPc := hP.sub (ws' := ([] : va_W)) [] rfl
  have hDc := hD.sub (ws' := ([] : va_W)) [] rfl rfl
  refine q_calli (wc := ([] : va_W)) (w1 := ([] : va_W)) (ws' := (wd_X10_addTip cI a0 a1 a2 a3 v0_3 v0_4 v0_5 v0_6 v0_7 v1_3 v1_4 v1_5 v1_1 v1_2)) hP hD hS hA [] [0, 1, 2, 3] [0, 1, 2, 3] rfl rfl rfl (by decide) rfl rfl (va_runS (As := [.long (y_2 * p4), .long y_1]) (rest := [.int p3]) ⟨hx, hb, hml, hown, hta⟩ (c_X4_round l dC dI cI H.size (y_2 * p4) y_1 u_3 hu_3) (va_cwS 2 hta (ga_S mA551 mA225 mA221 mA226) rfl rfl rfl (by decide +kernel) ⟨Nat.le_of_ble_eq_true rfl, Nat.le_of_ble_eq_true rfl⟩) ⟨q_fb, q_ps hPc hK hDc⟩ rfl rfl hl.1 rfl (lv_room (Nat.le_of_ble_eq_true rfl)) dX10_addTip_38 ⟨Nat.zero_le _, Nat.zero_le _⟩) (fun H locs hP hD hS => ?_)
  refine lv_imul hx hb dX10_addTip_41 ?_
  obtain ⟨y_4, ey_4, hF⟩ := lt_some hF
  refine lv_eqi ey_4 ?_
  refine lv_istore (lv' := [(12, .int y_4), (10, .long y_2), (8, .long y_1), (0, .ref (a0 0)), (1, .int p1), (2, .int p2), (3, .int p3), (4, .long p4), (6, .long p6)]) hx hb dX10_addTip_42 hl (by decide) rfl (fun ls hl => ?_)
  refine lv_iload_n hx hb dX10_addTip_44 rfl (lv_at hl 6 rfl) ?_
  refine lv_lload hx hb dX10_addTip_45 (lv_at hl 1 rfl) ?_
  refine lv_lload hx hb dX10_addTip_47 (lv_at hl 8 rfl) ?_
  refine lv_lmul hx hb dX10_addTip_49 ?_
  refine lv_lload hx hb dX10_addTip_50 (lv_at hl 2 rfl) ?_
  obtain ⟨u_5, hu_5, hF⟩ := obd_some hF
  have hPc := hP.sub (ws' := ([] : va_W)) [] rfl
  have hDc := hD.sub (ws' := ([] : va_W)) [] rfl rfl
  refine q_calli (wc := ([] : va_W)) (w1 := ([] : va_W)) (ws' := (wd_X10_addTip cI a0 a1 a2 a3 v0_3 v0_4 v0_5 v0_6 v0_7 v1_3 v1_4 v1_5 v1_1 v1_2)) hP hD hS hA [] [0, 1, 2, 3] [0, 1, 2, 3] rfl rfl rfl (by decide) rfl rfl (va_runS (As := [.long (y_2 * p6), .long y_1]) (rest := [.int p3]) ⟨hx, hb, hml, hown, hta⟩ (c_X4_round l dC dI cI H.size (y_2 * p6) y_1 u_5 hu_5) (va_cwS 2 hta (ga_S mA551 mA225 mA221 mA226) rfl rfl rfl (by decide +kernel) ⟨Nat.le_of_ble_eq_true rfl, Nat.le_of_ble_eq_true rfl⟩) ⟨q_fb, q_ps hPc hK hDc⟩ rfl rfl hl.1 rfl (lv_room (Nat.le_of_ble_eq_true rfl)) dX10_addTip_52 ⟨Nat.zero_le _, Nat.zero_le _⟩) (fun H locs hP hD hS => ?_)
  refine lv_imul hx hb dX10_addTip_55 ?_
  obtain ⟨y_6, ey_6, hF⟩ := lt_some hF
  refine lv_eqi ey_6 ?_
  refine lv_istore (lv' := [(13, .int y_6), (12, .int y_4), (10, .long y_2), (8, .long y_1), (0, .ref (a0 0)), (1, .int p1), (2, .int p2), (3, .int p3), (4, .long p4), (6, .long p6)]) hx hb dX10_addTip_56 hl (by decide) rfl (fun ls hl => ?_)
  refine lv_aload_n hx hb dX10_addTip_58 rfl (lv_at hl 4 rfl) ?_
  refine va_get (D := (dC, dI)) (ci := 9) (v := .ref (a1 0)) (C := RX10) (T := TX10) (N := 8) hx hb hta uw_X10 hown hK hP 0 rfl rfl 2 (by decide) (hta _ mA61) (fun _ h9 => h9) rfl dX10_addTip_59 ?_
  refine lv_iload_n hx hb dX10_addTip_62 rfl (lv_at hl 5 rfl) ?_
  refine lv_iload hx hb dX10_addTip_63 (lv_at hl 1 rfl) ?_
  refine lv_iadd hx hb dX10_addTip_65 ?_
  refine lv_iload_n hx hb dX10_addTip_66 rfl (lv_at hl 6 rfl) ?_
  refine lv_iload hx hb dX10_addTip_67 (lv_at hl 0 rfl) ?_
  refine lv_iadd hx hb dX10_addTip_69 ?_
  obtain ⟨u_7, hu_7, hF⟩ := obd_some hF
  have hPc := hP.sub (ws' := (wd_X7_addCorner cI a1 v1_3 v1_4 v1_5 v1_1 v1_2)) [1, 2, 3] rfl
  have hDc := hD.sub (ws' := (wd_X7_addCorner cI a1 v1_3 v1_4 v1_5 v1_1 v1_2)) [1, 2, 3] rfl rfl
  refine q_callv (wc := (wd_X7_addCorner cI a1 v1_3 v1_4 v1_5 v1_1 v1_2)) (w1 := (wd_X7_addCorner cI a1 v1_3 u_7.1 v1_5 u_7.2.1 u_7.2.2)) (ws' := (wd_X10_addTip cI a0 a1 a2 a3 v0_3 v0_4 v0_5 v0_6 v0_7 v1_3 u_7.1 v1_5 u_7.2.1 u_7.2.2)) hP hD hS hA [1, 2, 3] [0] [0, 1, 2, 3] rfl rfl rfl (by decide) rfl rfl (va_runV (As := [.int (p1 + y_4), .int (p2 + y_6)]) (rest := []) ⟨hx, hb, hml, hown, hta⟩ (c_X7_addCorner l dC dI cI H.size a1 v1_3 v1_4 v1_5 v1_1 v1_2 (p1 + y_4) (p2 + y_6) u_7 hu_7) (cwV 2 hta (ga_V mA494 mA495 mA496 mA60 mA497) rfl rfl rfl (by decide +kernel) ⟨Nat.le_of_ble_eq_true rfl, Nat.le_of_ble_eq_true rfl⟩) ⟨q_fb, va_recv hK hP (ci := 6) (q0 := 1) rfl rfl, q_ps hPc hK hDc⟩ rfl rfl hl.1 rfl (lv_room (Nat.le_of_ble_eq_true rfl)) dX10_addTip_70 ⟨Nat.zero_le _, Nat.zero_le _⟩) (fun H locs hP hD hS => ?_)
  obtain rfl := Option.some.inj hF
  exact W.vret hx hb hr (fun t ht hW => ⟨⟨(), rfl, trivial, by rw [ht]; exact hP, va_K.moved hW.alike hK, hD⟩, hS.F ht⟩) hS.2.2 dX10_addTip_73

-- StrokeOutliner$Stroke.addJoin(II)V
def F_X10_addJoin_j310 (v1_3 : Int32) (v1_4 : Int32) (v1_0 : Nat → Int32) (v1_1 : Nat → Int32) (v1_2 : Nat → Int32) (x9 : Int32) (x10 : Int32) (x11 : Int32) (x14 : Int32) (x15 : Int32) : Option (Int32 × Int32 × (Nat → Int32) × (Nat → Int32) × (Nat → Int32)) :=
  obd (F_X7_addCorner v1_3 v1_4 v1_1 v1_2 (x9 + (x11 * x14)) (x10 + (x11 * x15))) (fun u_1 => some (v1_3, u_1.1, v1_0, u_1.2.1, u_1.2.2))
def F_X10_addJoin_j246 (v0_4 : Int32) (v1_3 : Int32) (v1_4 : Int32) (v1_0 : Nat → Int32) (v1_1 : Nat → Int32) (v1_2 : Nat → Int32) (x9 : Int32) (x10 : Int32) (x11 : Int32) (x12 : Int32) (x13 : Int32) (x14 : Int32) (x15 : Int32) (x16 : Int32) (t1 : Int32) : Option (Int32 × Int32 × (Nat → Int32) × (Nat → Int32) × (Nat → Int32)) :=
  obd (F_X7_start v1_3 v1_4 v1_0 t1) (fun u_2 => obd (F_X7_addCorner u_2.1 u_2.2.1 v1_1 v1_2 x9 x10) (fun u_3 => obd (F_X7_addCorner u_2.1 u_3.1 u_3.2.1 u_3.2.2 (x9 + (x11 * x12)) (x10 + (x11 * x13))) (fun u_4 => if x16 = 0 then F_X10_addJoin_j310 u_2.1 u_4.1 u_2.2.2 u_4.2.1 u_4.2.2 x9 x10 x11 x14 x15 else obd (F_X10_addTip v0_4 u_2.1 u_4.1 u_4.2.1 u_4.2.2 x9 x10 x11 ((x12 + x14).toInt64) ((x13 + x15).toInt64)) (fun u_6 => F_X10_addJoin_j310 u_2.1 u_6.1 u_2.2.2 u_6.2.1 u_6.2.2 x9 x10 x11 x14 x15))))
def F_X10_addJoin_j230 (v0_4 : Int32) (v1_3 : Int32) (v1_4 : Int32) (v1_0 : Nat → Int32) (v1_1 : Nat → Int32) (v1_2 : Nat → Int32) (x9 : Int32) (x10 : Int32) (x11 : Int32) (x12 : Int32) (x13 : Int32) (x14 : Int32) (x15 : Int32) (t0 : Int32) : Option (Int32 × Int32 × (Nat → Int32) × (Nat → Int32) × (Nat → Int32)) :=
  if t0 = 0 then F_X10_addJoin_j246 v0_4 v1_3 v1_4 v1_0 v1_1 v1_2 x9 x10 x11 x12 x13 x14 x15 t0 2 else F_X10_addJoin_j246 v0_4 v1_3 v1_4 v1_0 v1_1 v1_2 x9 x10 x11 x12 x13 x14 x15 t0 1
def F_X10_addJoin_j229 (v0_4 : Int32) (v1_3 : Int32) (v1_4 : Int32) (v1_0 : Nat → Int32) (v1_1 : Nat → Int32) (v1_2 : Nat → Int32) (x9 : Int32) (x10 : Int32) (x11 : Int32) (x12 : Int32) (x13 : Int32) (x14 : Int32) (x15 : Int32) : Option (Int32 × Int32 × (Nat → Int32) × (Nat → Int32) × (Nat → Int32)) :=
  F_X10_addJoin_j230 v0_4 v1_3 v1_4 v1_0 v1_1 v1_2 x9 x10 x11 x12 x13 x14 x15 0
def F_X10_addJoin_j144 (v0_4 : Int32) (v0_5 : Int32) (v0_6 : Int32) (v1_3 : Int32) (v1_4 : Int32) (v1_0 : Nat → Int32) (v1_1 : Nat → Int32) (v1_2 : Nat → Int32) (v4_3 : Nat → Int32) (v4_4 : Nat → Int32) (v4_6 : Nat → Int32) (v4_7 : Nat → Int32) (x3 : Int32) (x4 : Int32) (x7 : Int64) (x9 : Int32) (x10 : Int32) (t0 : Int32) : Option (Int32 × Int32 × (Nat → Int32) × (Nat → Int32) × (Nat → Int32)) :=
  obd (F_X9_normalX v4_6 x3) (fun u_8 => obd (F_X9_normalY v4_7 x3) (fun u_9 => obd (F_X9_normalX v4_6 x4) (fun u_10 => obd (F_X9_normalY v4_7 x4) (fun u_11 => if v0_5 = 0 then obd (F_X9_dot v4_3 v4_4 x3 x3) (fun u_13 => obd (F_X9_dot v4_3 v4_4 x4 x4) (fun u_14 => lt (F_X10_isInLimit v0_6 x7 (u_13 * u_14)) (fun u_15 => if u_15 = 0 then F_X10_addJoin_j229 v0_4 v1_3 v1_4 v1_0 v1_1 v1_2 x9 x10 t0 u_8 u_9 u_10 u_11 else F_X10_addJoin_j230 v0_4 v1_3 v1_4 v1_0 v1_1 v1_2 x9 x10 t0 u_8 u_9 u_10 u_11 1))) else F_X10_addJoin_j229 v0_4 v1_3 v1_4 v1_0 v1_1 v1_2 x9 x10 t0 u_8 u_9 u_10 u_11))))
def F_X10_addJoin_j116 (v0_4 : Int32) (v0_5 : Int32) (v0_6 : Int32) (v1_3 : Int32) (v1_4 : Int32) (v1_0 : Nat → Int32) (v1_1 : Nat → Int32) (v1_2 : Nat → Int32) (v4_3 : Nat → Int32) (v4_4 : Nat → Int32) (v4_6 : Nat → Int32) (v4_7 : Nat → Int32) (x3 : Int32) (x4 : Int32) (x5 : Int64) (x7 : Int64) (x9 : Int32) (x10 : Int32) : Option (Int32 × Int32 × (Nat → Int32) × (Nat → Int32) × (Nat → Int32)) :=
  if v0_5 = 1 then some (v1_3, v1_4, v1_0, v1_1, v1_2) else if (lg_cmp x5 0) = 0 then some (v1_3, v1_4, v1_0, v1_1, v1_2) else if (lg_cmp x5 0) ≤ 0 then F_X10_addJoin_j144 v0_4 v0_5 v0_6 v1_3 v1_4 v1_0 v1_1 v1_2 v4_3 v4_4 v4_6 v4_7 x3 x4 x7 x9 x10 1 else F_X10_addJoin_j144 v0_4 v0_5 v0_6 v1_3 v1_4 v1_0 v1_1 v1_2 v4_3 v4_4 v4_6 v4_7 x3 x4 x7 x9 x10 (-1)
def F_X10_addJoin_j64 (v0_4 : Int32) (v0_5 : Int32) (v0_6 : Int32) (v1_3 : Int32) (v1_4 : Int32) (v1_0 : Nat → Int32) (v1_1 : Nat → Int32) (v1_2 : Nat → Int32) (v2_9 : Nat → Int32) (v4_1 : Nat → Int32) (v4_2 : Nat → Int32) (v4_3 : Nat → Int32) (v4_4 : Nat → Int32) (v4_5 : Nat → Int32) (v4_6 : Nat → Int32) (v4_7 : Nat → Int32) (x1 : Int32) (x3 : Int32) (x4 : Int32) (x5 : Int64) (x7 : Int64) : Option (Int32 × Int32 × (Nat → Int32) × (Nat → Int32) × (Nat → Int32)) :=
  obd (F_X8_toOf v2_9 x1) (fun u_20 => obd (F_X9_xAt v4_1 v4_3 v4_5 x3 u_20) (fun u_21 => obd (F_X8_toOf v2_9 x1) (fun u_22 => obd (F_X9_yAt v4_2 v4_4 v4_5 x3 u_22) (fun u_23 => if v0_5 = 1 then obd (F_X10_addDisc v1_3 v1_4 v1_0 v1_1 v1_2 u_21 u_23) (fun u_25 => F_X10_addJoin_j116 v0_4 v0_5 v0_6 u_25.1 u_25.2.1 u_25.2.2.1 u_25.2.2.2.1 u_25.2.2.2.2 v4_3 v4_4 v4_6 v4_7 x3 x4 x5 x7 u_21 u_23) else F_X10_addJoin_j116 v0_4 v0_5 v0_6 v1_3 v1_4 v1_0 v1_1 v1_2 v4_3 v4_4 v4_6 v4_7 x3 x4 x5 x7 u_21 u_23))))
def F_X10_addJoin (v0_4 : Int32) (v0_5 : Int32) (v0_6 : Int32) (v1_3 : Int32) (v1_4 : Int32) (v1_0 : Nat → Int32) (v1_1 : Nat → Int32) (v1_2 : Nat → Int32) (v2_7 : Nat → Int32) (v2_9 : Nat → Int32) (v4_1 : Nat → Int32) (v4_2 : Nat → Int32) (v4_3 : Nat → Int32) (v4_4 : Nat → Int32) (v4_5 : Nat → Int32) (v4_6 : Nat → Int32) (v4_7 : Nat → Int32) (p1 : Int32) (p2 : Int32) : Option (Int32 × Int32 × (Nat → Int32) × (Nat → Int32) × (Nat → Int32)) :=
  obd (F_X8_segmentOf v2_7 p1) (fun u_26 => obd (F_X8_segmentOf v2_7 p2) (fun u_27 => obd (F_X9_cross v4_3 v4_4 u_26 u_27) (fun u_28 => obd (F_X9_dot v4_3 v4_4 u_26 u_27) (fun u_29 => if u_26 = u_27 then some (v1_3, v1_4, v1_0, v1_1, v1_2) else if (lg_cmp u_28 0) = 0 then if (lg_cmp u_29 0) ≤ 0 then F_X10_addJoin_j64 v0_4 v0_5 v0_6 v1_3 v1_4 v1_0 v1_1 v1_2 v2_9 v4_1 v4_2 v4_3 v4_4 v4_5 v4_6 v4_7 p1 u_26 u_27 u_28 u_29 else some (v1_3, v1_4, v1_0, v1_1, v1_2) else F_X10_addJoin_j64 v0_4 v0_5 v0_6 v1_3 v1_4 v1_0 v1_1 v1_2 v2_9 v4_1 v4_2 v4_3 v4_4 v4_5 v4_6 v4_7 p1 u_26 u_27 u_28 u_29))))
abbrev wd_X10_addJoin (cI : ClassId) (a0 : Nat → Nat) (a1 : Nat → Nat) (a2 : Nat → Nat) (a3 : Nat → Nat) (a4 : Nat → Nat) (v0_3 : Int32) (v0_4 : Int32) (v0_5 : Int32) (v0_6 : Int32) (v0_7 : Int32) (v1_3 : Int32) (v1_4 : Int32) (v1_5 : Int32) (v1_0 : Nat → Int32) (v1_1 : Nat → Int32) (v1_2 : Nat → Int32) (v2_10 : Int32) (v2_11 : Int32) (v2_7 : Nat → Int32) (v2_9 : Nat → Int32) (v4_10 : Int32) (v4_1 : Nat → Int32) (v4_2 : Nat → Int32) (v4_3 : Nat → Int32) (v4_4 : Nat → Int32) (v4_5 : Nat → Int32) (v4_6 : Nat → Int32) (v4_7 : Nat → Int32) : va_W := [(a0 0, .inr (9, [.ref (a4 0), .ref (a2 0), .ref (a1 0), .int v0_3, .int v0_4, .int v0_5, .int v0_6, .int v0_7])), (a1 0, .inr (6, [.ref (a1 1), .ref (a1 2), .ref (a1 3), .int v1_3, .int v1_4, .int v1_5])), (a1 1, .inl (cI, 2800, .inl v1_0)), (a1 2, .inl (cI, 11200, .inl v1_1)), (a1 3, .inl (cI, 11200, .inl v1_2)), (a2 0, .inr (7, [.ref (a3 0), .ref (a2 2), .ref (a2 3), .ref (a2 4), .ref (a2 5), .ref (a2 6), .ref (a2 7), .ref (a2 8), .ref (a2 9), .ref (a2 10), .int v2_10, .int v2_11])), (a2 8, .inl (cI, 1024, .inl v2_7)), (a2 10, .inl (cI, 1024, .inl v2_9)), (a4 0, .inr (8, [.ref (a4 1), .ref (a4 2), .ref (a4 3), .ref (a4 4), .ref (a4 5), .ref (a4 6), .ref (a4 7), .ref (a4 8), .ref (a4 9), .ref (a4 10), .int v4_10])), (a4 2, .inl (cI, 32, .inl v4_1)), (a4 3, .inl (cI, 32, .inl v4_2)), (a4 4, .inl (cI, 32, .inl v4_3)), (a4 5, .inl (cI, 32, .inl v4_4)), (a4 6, .inl (cI, 32, .inl v4_5)), (a4 7, .inl (cI, 32, .inl v4_6)), (a4 8, .inl (cI, 32, .inl v4_7))]
abbrev wz_X10_addJoin : List Cond := .code yX10_addJoin cX10_addJoin 17 none :: wALL
abbrev rm_X10_addJoin : Room := { frames := 2, cells := 0, slots := 0, locals := 62 }
abbrev Q_X10_addJoin (dC : Nat → ClassId) (dI : Nat → Nat → Nat) (cI : ClassId) (a0 : Nat → Nat) (a1 : Nat → Nat) (a2 : Nat → Nat) (a3 : Nat → Nat) (a4 : Nat → Nat) (v0_3 : Int32) (v0_4 : Int32) (v0_5 : Int32) (v0_6 : Int32) (v0_7 : Int32) (v1_5 : Int32) (v2_10 : Int32) (v2_11 : Int32) (v2_7 : Nat → Int32) (v2_9 : Nat → Int32) (v4_10 : Int32) (v4_1 : Nat → Int32) (v4_2 : Nat → Int32) (v4_3 : Nat → Int32) (v4_4 : Nat → Int32) (v4_5 : Nat → Int32) (v4_6 : Nat → Int32) (v4_7 : Nat → Int32) (u : (Int32 × Int32 × (Nat → Int32) × (Nat → Int32) × (Nat → Int32))) (A : Nat → Prop) : Array Value → State → Outcome → State → Prop := va_Qv (fun (_ : Unit) => True) (fun _ => q_at dC dI cI A (wd_X10_addJoin cI a0 a1 a2 a3 a4 v0_3 v0_4 v0_5 v0_6 v0_7 u.1 u.2.1 v1_5 u.2.2.1 u.2.2.2.1 u.2.2.2.2 v2_10 v2_11 v2_7 v2_9 v4_10 v4_1 v4_2 v4_3 v4_4 v4_5 v4_6 v4_7)) A
set_option maxHeartbeats 4000000 in
set_option maxRecDepth 100000 in
theorem c_X10_addJoin (l : Launch) (dC : Nat → ClassId) (dI : Nat → Nat → Nat) (cI : ClassId) (sz : Nat) (a0 : Nat → Nat) (a1 : Nat → Nat) (a2 : Nat → Nat) (a3 : Nat → Nat) (a4 : Nat → Nat) (v0_3 : Int32) (v0_4 : Int32) (v0_5 : Int32) (v0_6 : Int32) (v0_7 : Int32) (v1_3 : Int32) (v1_4 : Int32) (v1_5 : Int32) (v1_0 : Nat → Int32) (v1_1 : Nat → Int32) (v1_2 : Nat → Int32) (v2_10 : Int32) (v2_11 : Int32) (v2_7 : Nat → Int32) (v2_9 : Nat → Int32) (v4_10 : Int32) (v4_1 : Nat → Int32) (v4_2 : Nat → Int32) (v4_3 : Nat → Int32) (v4_4 : Nat → Int32) (v4_5 : Nat → Int32) (v4_6 : Nat → Int32) (v4_7 : Nat → Int32) (p1 : Int32) (p2 : Int32) (u : (Int32 × Int32 × (Nat → Int32) × (Nat → Int32) × (Nat → Int32))) (hF : F_X10_addJoin v0_4 v0_5 v0_6 v1_3 v1_4 v1_0 v1_1 v1_2 v2_7 v2_9 v4_1 v4_2 v4_3 v4_4 v4_5 v4_6 v4_7 p1 p2 = some u) : Met l yX10_addJoin wz_X10_addJoin rm_X10_addJoin (va_Pc [.ref (a0 0), .int p1, .int p2] (q_pre dC dI cI (wd_X10_addJoin cI a0 a1 a2 a3 a4 v0_3 v0_4 v0_5 v0_6 v0_7 v1_3 v1_4 v1_5 v1_0 v1_1 v1_2 v2_10 v2_11 v2_7 v2_9 v4_10 v4_1 v4_2 v4_3 v4_4 v4_5 v4_6 v4_7) sz)) (Q_X10_addJoin dC dI cI a0 a1 a2 a3 a4 v0_3 v0_4 v0_5 v0_6 v0_7 v1_5 v2_10 v2_11 v2_7 v2_9 v4_10 v4_1 v4_2 v4_3 v4_4 v4_5 v4_6 v4_7 u (va_A (wd_X10_addJoin cI a0 a1 a2 a3 a4 v0_3 v0_4 v0_5 v0_6 v0_7 v1_3 v1_4 v1_5 v1_0 v1_1 v1_2 v2_10 v2_11 v2_7 v2_9 v4_10 v4_1 v4_2 v4_3 v4_4 v4_5 v4_6 v4_7) sz)) 0 0 (va_A (wd_X10_addJoin cI a0 a1 a2 a3 a4 v0_3 v0_4 v0_5 v0_6 v0_7 v1_3 v1_4 v1_5 v1_0 v1_1 v1_2 v2_10 v2_11 v2_7 v2_9 v4_10 v4_1 v4_2 v4_3 v4_4 v4_5 v4_6 v4_7) sz) := by
  refine Met.ofW (cc := cX10_addJoin) (maxL := 17) (ret := none) (by decide) rfl ?_
  intro p e s m args below meth c s₁ B hml hv
  obtain ⟨rfl, hsz, hP, hK, hD0⟩ := hv
  have hx := B.exec
  have hb := B.bytes
  have hr := B.returns
  have hts := atoms_spec (ws := wz_X10_addJoin) B.pre
  have hta := wz_tl hts
  have hown : s.vm.findClass RX10 = some m.cls := findClass_of_methodNamed B.named
  have hlocks := B.notSynchronized
  subst hsz
  have hD := hD0.self (sz := s.heap.size)
  generalize hAe : va_A (wd_X10_addJoin cI a0 a1 a2 a3 a4 v0_3 v0_4 v0_5 v0_6 v0_7 v1_3 v1_4 v1_5 v1_0 v1_1 v1_2 v2_10 v2_11 v2_7 v2_9 v4_10 v4_1 v4_2 v4_3 v4_4 v4_5 v4_6 v4_7) s.heap.size = A at hD ⊢
  have hA : ∀ q : Nat, s.heap.size ≤ q → A q := fun q h => by rw [← hAe]; exact Or.inr h
  have hS : va_S A s.heap s.heap [] := va_S.rf
  have hP : va_P (dC, dI) vwCl (wd_X10_addJoin cI a0 a1 a2 a3 a4 v0_3 v0_4 v0_5 v0_6 v0_7 v1_3 v1_4 v1_5 v1_0 v1_1 v1_2 v2_10 v2_11 v2_7 v2_9 v4_10 v4_1 v4_2 v4_3 v4_4 v4_5 v4_6 v4_7) s.heap := hP
  have hl := lv_entry ([.ref (a0 0), .int p1, .int p2]) (n := 17) (Nat.le_of_ble_eq_true rfl)
  rw [lg_entry_eq]
  generalize (lg_sl ([.ref (a0 0), .int p1, .int p2]) ++ List.replicate (17 - (lg_sl ([.ref (a0 0), .int p1, .int p2])).length) Slot.unset).toArray = ls at hl ⊢
  have hl : lv_has ls 17 [(0, .ref (a0 0)), (1, .int p1), (2, .int p2)] := hl
  obtain ⟨H, hHe⟩ : ∃ H, H = s.heap := ⟨_, rfl⟩
  have hS : va_S A s.heap H [] := by rw [hHe]; exact hS
  have hP : va_P (dC, dI) vwCl (wd_X10_addJoin cI a0 a1 a2 a3 a4 v0_3 v0_4 v0_5 v0_6 v0_7 v1_3 v1_4 v1_5 v1_0 v1_1 v1_2 v2_10 v2_11 v2_7 v2_9 v4_10 v4_1 v4_2 v4_3 v4_4 v4_5 v4_6 v4_7) H := by rw [hHe]; exact hP
  rw [← hHe]
  unfold F_X10_addJoin at hF
  have j310 : ∀ (v1_3 : Int32) (v1_4 : Int32) (v1_0 : Nat → Int32) (v1_1 : Nat → Int32) (v1_2 : Nat → Int32) (x9 : Int32) (x10 : Int32) (x11 : Int32) (x14 : Int32) (x15 : Int32), F_X10_addJoin_j310 v1_3 v1_4 v1_0 v1_1 v1_2 x9 x10 x11 x14 x15 = some u → ∀ (H : Heap) (locs : List Loc) (ls : Array Slot), va_P (dC, dI) vwCl (wd_X10_addJoin cI a0 a1 a2 a3 a4 v0_3 v0_4 v0_5 v0_6 v0_7 v1_3 v1_4 v1_5 v1_0 v1_1 v1_2 v2_10 v2_11 v2_7 v2_9 v4_10 v4_1 v4_2 v4_3 v4_4 v4_5 v4_6 v4_7) H → va_D A (wd_X10_addJoin cI a0 a1 a2 a3 a4 v0_3 v0_4 v0_5 v0_6 v0_7 v1_3 v1_4 v1_5 v1_0 v1_1 v1_2 v2_10 v2_11 v2_7 v2_9 v4_10 v4_1 v4_2 v4_3 v4_4 v4_5 v4_6 v4_7) → va_S A s.heap H locs → lv_has ls 17 [(0, .ref (a0 0)), (9, .int x9), (10, .int x10), (11, .int x11), (14, .int x14), (15, .int x15)] → W p l e (headSpec wz_X10_addJoin rm_X10_addJoin).room s m [.ref (a0 0), .int p1, .int p2].toArray below meth c H locs 0 0 (MQ below (Q_X10_addJoin dC dI cI a0 a1 a2 a3 a4 v0_3 v0_4 v0_5 v0_6 v0_7 v1_5 v2_10 v2_11 v2_7 v2_9 v4_10 v4_1 v4_2 v4_3 v4_4 v4_5 v4_6 v4_7 u A) [.ref (a0 0), .int p1, .int p2].toArray s 0 0 A) (F0 m 310 ls []) := by
    intro v1_3 v1_4 v1_0 v1_1 v1_2 x9 x10 x11 x14 x15 hF H locs ls hP hD hS hl
    unfold F_X10_addJoin_j310 at hF
    refine lv_aload_n hx hb dX10_addJoin_310 rfl (lv_at hl 0 rfl) ?_
    refine va_get (D := (dC, dI)) (ci := 9) (v := .ref (a1 0)) (C := RX10) (T := TX10) (N := 8) hx hb hta uw_X10 hown hK hP 0 rfl rfl 2 (by decide) (hta _ mA61) (fun _ h9 => h9) rfl dX10_addJoin_311 ?_
    refine lv_iload hx hb dX10_addJoin_314 (lv_at hl 1 rfl) ?_
    refine lv_iload hx hb dX10_addJoin_316 (lv_at hl 3 rfl) ?_
    refine lv_iload hx hb dX10_addJoin_318 (lv_at hl 4 rfl) ?_
    refine lv_imul hx hb dX10_addJoin_320 ?_
    refine lv_iadd hx hb dX10_addJoin_321 ?_
    refine lv_iload hx hb dX10_addJoin_322 (lv_at hl 2 rfl) ?_
    refine lv_iload hx hb dX10_addJoin_324 (lv_at hl 3 rfl) ?_
    refine lv_iload hx hb dX10_addJoin_326 (lv_at hl 5 rfl) ?_
    refine lv_imul hx hb dX10_addJoin_328 ?_
    refine lv_iadd hx hb dX10_addJoin_329 ?_
    obtain ⟨u_1, hu_1, hF⟩ := obd_some hF
    have hPc := hP.sub (ws' := (wd_X7_addCorner cI a1 v1_3 v1_4 v1_5 v1_1 v1_2)) [1, 3, 4] rfl
    have hDc := hD.sub (ws' := (wd_X7_addCorner cI a1 v1_3 v1_4 v1_5 v1_1 v1_2)) [1, 3, 4] rfl rfl
    refine q_callv (wc := (wd_X7_addCorner cI a1 v1_3 v1_4 v1_5 v1_1 v1_2)) (w1 := (wd_X7_addCorner cI a1 v1_3 u_1.1 v1_5 u_1.2.1 u_1.2.2)) (ws' := (wd_X10_addJoin cI a0 a1 a2 a3 a4 v0_3 v0_4 v0_5 v0_6 v0_7 v1_3 u_1.1 v1_5 v1_0 u_1.2.1 u_1.2.2 v2_10 v2_11 v2_7 v2_9 v4_10 v4_1 v4_2 v4_3 v4_4 v4_5 v4_6 v4_7)) hP hD hS hA [1, 3, 4] [0, 2, 5, 6, 7, 8, 9, 10, 11, 12, 13, 14, 15] [0, 13, 1, 14, 15, 2, 3, 4, 5, 6, 7, 8, 9, 10, 11, 12] rfl rfl rfl (by decide) rfl rfl (va_runV (As := [.int (x9 + (x11 * x14)), .int (x10 + (x11 * x15))]) (rest := []) ⟨hx, hb, hml, hown, hta⟩ (c_X7_addCorner l dC dI cI H.size a1 v1_3 v1_4 v1_5 v1_1 v1_2 (x9 + (x11 * x14)) (x10 + (x11 * x15)) u_1 hu_1) (cwV 2 hta (ga_V mA494 mA495 mA496 mA60 mA497) rfl rfl rfl (by decide +kernel) ⟨Nat.le_of_ble_eq_true rfl, Nat.le_of_ble_eq_true rfl⟩) ⟨q_fb, va_recv hK hP (ci := 6) (q0 := 1) rfl rfl, q_ps hPc hK hDc⟩ rfl rfl hl.1 rfl (lv_room (Nat.le_of_ble_eq_true rfl)) dX10_addJoin_330 ⟨Nat.zero_le _, Nat.zero_le _⟩) (fun H locs hP hD hS => ?_)
    obtain rfl := Option.some.inj hF
    exact W.vret hx hb hr (fun t ht hW => ⟨⟨(), rfl, trivial, by rw [ht]; exact hP, va_K.moved hW.alike hK, hD⟩, hS.F ht⟩) hS.2.2 dX10_addJoin_333
  have j246 : ∀ (v1_3 : Int32) (v1_4 : Int32) (v1_0 : Nat → Int32) (v1_1 : Nat → Int32) (v1_2 : Nat → Int32) (x9 : Int32) (x10 : Int32) (x11 : Int32) (x12 : Int32) (x13 : Int32) (x14 : Int32) (x15 : Int32) (x16 : Int32) (t1 : Int32), F_X10_addJoin_j246 v0_4 v1_3 v1_4 v1_0 v1_1 v1_2 x9 x10 x11 x12 x13 x14 x15 x16 t1 = some u → ∀ (H : Heap) (locs : List Loc) (ls : Array Slot), va_P (dC, dI) vwCl (wd_X10_addJoin cI a0 a1 a2 a3 a4 v0_3 v0_4 v0_5 v0_6 v0_7 v1_3 v1_4 v1_5 v1_0 v1_1 v1_2 v2_10 v2_11 v2_7 v2_9 v4_10 v4_1 v4_2 v4_3 v4_4 v4_5 v4_6 v4_7) H → va_D A (wd_X10_addJoin cI a0 a1 a2 a3 a4 v0_3 v0_4 v0_5 v0_6 v0_7 v1_3 v1_4 v1_5 v1_0 v1_1 v1_2 v2_10 v2_11 v2_7 v2_9 v4_10 v4_1 v4_2 v4_3 v4_4 v4_5 v4_6 v4_7) → va_S A s.heap H locs → lv_has ls 17 [(0, .ref (a0 0)), (9, .int x9), (10, .int x10), (11, .int x11), (12, .int x12), (13, .int x13), (14, .int x14), (15, .int x15), (16, .int x16)] → W p l e (headSpec wz_X10_addJoin rm_X10_addJoin).room s m [.ref (a0 0), .int p1, .int p2].toArray below meth c H locs 0 0 (MQ below (Q_X10_addJoin dC dI cI a0 a1 a2 a3 a4 v0_3 v0_4 v0_5 v0_6 v0_7 v1_5 v2_10 v2_11 v2_7 v2_9 v4_10 v4_1 v4_2 v4_3 v4_4 v4_5 v4_6 v4_7 u A) [.ref (a0 0), .int p1, .int p2].toArray s 0 0 A) (F0 m 246 ls [.int t1, .ref (a1 0)]) := by
    intro v1_3 v1_4 v1_0 v1_1 v1_2 x9 x10 x11 x12 x13 x14 x15 x16 t1 hF H locs ls hP hD hS hl
    unfold F_X10_addJoin_j246 at hF
    obtain ⟨u_2, hu_2, hF⟩ := obd_some hF
    have hPc := hP.sub (ws' := (wd_X7_start cI a1 v1_3 v1_4 v1_5 v1_0)) [1, 2] rfl
    have hDc := hD.sub (ws' := (wd_X7_start cI a1 v1_3 v1_4 v1_5 v1_0)) [1, 2] rfl rfl
    refine q_callv (wc := (wd_X7_start cI a1 v1_3 v1_4 v1_5 v1_0)) (w1 := (wd_X7_start cI a1 u_2.1 u_2.2.1 v1_5 u_2.2.2)) (ws' := (wd_X10_addJoin cI a0 a1 a2 a3 a4 v0_3 v0_4 v0_5 v0_6 v0_7 u_2.1 u_2.2.1 v1_5 u_2.2.2 v1_1 v1_2 v2_10 v2_11 v2_7 v2_9 v4_10 v4_1 v4_2 v4_3 v4_4 v4_5 v4_6 v4_7)) hP hD hS hA [1, 2] [0, 3, 4, 5, 6, 7, 8, 9, 10, 11, 12, 13, 14, 15] [0, 14, 15, 1, 2, 3, 4, 5, 6, 7, 8, 9, 10, 11, 12, 13] rfl rfl rfl (by decide) rfl rfl (va_runV (As := [.int t1]) (rest := []) ⟨hx, hb, hml, hown, hta⟩ (c_X7_start l dC dI cI H.size a1 v1_3 v1_4 v1_5 v1_0 t1 u_2 hu_2) (cwV 1 hta (ga_V mA489 mA490 mA491 mA60 mA492) rfl rfl rfl (by decide +kernel) ⟨Nat.le_of_ble_eq_true rfl, Nat.le_of_ble_eq_true rfl⟩) ⟨q_fb, va_recv hK hP (ci := 6) (q0 := 1) rfl rfl, q_ps hPc hK hDc⟩ rfl rfl hl.1 rfl (lv_room (Nat.le_of_ble_eq_true rfl)) dX10_addJoin_246 ⟨Nat.zero_le _, Nat.zero_le _⟩) (fun H locs hP hD hS => ?_)
    refine lv_aload_n hx hb dX10_addJoin_249 rfl (lv_at hl 0 rfl) ?_
    refine va_get (D := (dC, dI)) (ci := 9) (v := .ref (a1 0)) (C := RX10) (T := TX10) (N := 8) hx hb hta uw_X10 hown hK hP 0 rfl rfl 2 (by decide) (hta _ mA61) (fun _ h9 => h9) rfl dX10_addJoin_250 ?_
    refine lv_iload hx hb dX10_addJoin_253 (lv_at hl 1 rfl) ?_
    refine lv_iload hx hb dX10_addJoin_255 (lv_at hl 2 rfl) ?_
    obtain ⟨u_3, hu_3, hF⟩ := obd_some hF
    have hPc := hP.sub (ws' := (wd_X7_addCorner cI a1 u_2.1 u_2.2.1 v1_5 v1_1 v1_2)) [1, 3, 4] rfl
    have hDc := hD.sub (ws' := (wd_X7_addCorner cI a1 u_2.1 u_2.2.1 v1_5 v1_1 v1_2)) [1, 3, 4] rfl rfl
    refine q_callv (wc := (wd_X7_addCorner cI a1 u_2.1 u_2.2.1 v1_5 v1_1 v1_2)) (w1 := (wd_X7_addCorner cI a1 u_2.1 u_3.1 v1_5 u_3.2.1 u_3.2.2)) (ws' := (wd_X10_addJoin cI a0 a1 a2 a3 a4 v0_3 v0_4 v0_5 v0_6 v0_7 u_2.1 u_3.1 v1_5 u_2.2.2 u_3.2.1 u_3.2.2 v2_10 v2_11 v2_7 v2_9 v4_10 v4_1 v4_2 v4_3 v4_4 v4_5 v4_6 v4_7)) hP hD hS hA [1, 3, 4] [0, 2, 5, 6, 7, 8, 9, 10, 11, 12, 13, 14, 15] [0, 13, 1, 14, 15, 2, 3, 4, 5, 6, 7, 8, 9, 10, 11, 12] rfl rfl rfl (by decide) rfl rfl (va_runV (As := [.int x9, .int x10]) (rest := []) ⟨hx, hb, hml, hown, hta⟩ (c_X7_addCorner l dC dI cI H.size a1 u_2.1 u_2.2.1 v1_5 v1_1 v1_2 x9 x10 u_3 hu_3) (cwV 2 hta (ga_V mA494 mA495 mA496 mA60 mA497) rfl rfl rfl (by decide +kernel) ⟨Nat.le_of_ble_eq_true rfl, Nat.le_of_ble_eq_true rfl⟩) ⟨q_fb, va_recv hK hP (ci := 6) (q0 := 1) rfl rfl, q_ps hPc hK hDc⟩ rfl rfl hl.1 rfl (lv_room (Nat.le_of_ble_eq_true rfl)) dX10_addJoin_257 ⟨Nat.zero_le _, Nat.zero_le _⟩) (fun H locs hP hD hS => ?_)
    refine lv_aload_n hx hb dX10_addJoin_260 rfl (lv_at hl 0 rfl) ?_
    refine va_get (D := (dC, dI)) (ci := 9) (v := .ref (a1 0)) (C := RX10) (T := TX10) (N := 8) hx hb hta uw_X10 hown hK hP 0 rfl rfl 2 (by decide) (hta _ mA61) (fun _ h9 => h9) rfl dX10_addJoin_261 ?_
    refine lv_iload hx hb dX10_addJoin_264 (lv_at hl 1 rfl) ?_
    refine lv_iload hx hb dX10_addJoin_266 (lv_at hl 3 rfl) ?_
    refine lv_iload hx hb dX10_addJoin_268 (lv_at hl 4 rfl) ?_
    refine lv_imul hx hb dX10_addJoin_270 ?_
    refine lv_iadd hx hb dX10_addJoin_271 ?_
    refine lv_iload hx hb dX10_addJoin_272 (lv_at hl 2 rfl) ?_
    refine lv_iload hx hb dX10_addJoin_274 (lv_at hl 3 rfl) ?_
    refine lv_iload hx hb dX10_addJoin_276 (lv_at hl 5 rfl) ?_
    refine lv_imul hx hb dX10_addJoin_278 ?_
    refine lv_iadd hx hb dX10_addJoin_279 ?_
    obtain ⟨u_4, hu_4, hF⟩ := obd_some hF
    have hPc := hP.sub (ws' := (wd_X7_addCorner cI a1 u_2.1 u_3.1 v1_5 u_3.2.1 u_3.2.2)) [1, 3, 4] rfl
    have hDc := hD.sub (ws' := (wd_X7_addCorner cI a1 u_2.1 u_3.1 v1_5 u_3.2.1 u_3.2.2)) [1, 3, 4] rfl rfl
    refine q_callv (wc := (wd_X7_addCorner cI a1 u_2.1 u_3.1 v1_5 u_3.2.1 u_3.2.2)) (w1 := (wd_X7_addCorner cI a1 u_2.1 u_4.1 v1_5 u_4.2.1 u_4.2.2)) (ws' := (wd_X10_addJoin cI a0 a1 a2 a3 a4 v0_3 v0_4 v0_5 v0_6 v0_7 u_2.1 u_4.1 v1_5 u_2.2.2 u_4.2.1 u_4.2.2 v2_10 v2_11 v2_7 v2_9 v4_10 v4_1 v4_2 v4_3 v4_4 v4_5 v4_6 v4_7)) hP hD hS hA [1, 3, 4] [0, 2, 5, 6, 7, 8, 9, 10, 11, 12, 13, 14, 15] [0, 13, 1, 14, 15, 2, 3, 4, 5, 6, 7, 8, 9, 10, 11, 12] rfl rfl rfl (by decide) rfl rfl (va_runV (As := [.int (x9 + (x11 * x12)), .int (x10 + (x11 * x13))]) (rest := []) ⟨hx, hb, hml, hown, hta⟩ (c_X7_addCorner l dC dI cI H.size a1 u_2.1 u_3.1 v1_5 u_3.2.1 u_3.2.2 (x9 + (x11 * x12)) (x10 + (x11 * x13)) u_4 hu_4) (cwV 2 hta (ga_V mA494 mA495 mA496 mA60 mA497) rfl rfl rfl (by decide +kernel) ⟨Nat.le_of_ble_eq_true rfl, Nat.le_of_ble_eq_true rfl⟩) ⟨q_fb, va_recv hK hP (ci := 6) (q0 := 1) rfl rfl, q_ps hPc hK hDc⟩ rfl rfl hl.1 rfl (lv_room (Nat.le_of_ble_eq_true rfl)) dX10_addJoin_280 ⟨Nat.zero_le _, Nat.zero_le _⟩) (fun H locs hP hD hS => ?_)
    refine lv_iload hx hb dX10_addJoin_283 (lv_at hl 8 rfl) ?_
    refine lv_if_eq (tgt := 310) hx hb dX10_addJoin_285 (by decide) (fun c_5 => ?_) (fun c_5 => ?_)
    · have hF := it_t hF c_5
      exact j310 u_2.1 u_4.1 u_2.2.2 u_4.2.1 u_4.2.2 x9 x10 x11 x14 x15 hF _ _ _ hP hD hS (lv_sub hl [0, 1, 2, 3, 6, 7] rfl)
    · have hF := it_f hF c_5
      refine lv_aload_n hx hb dX10_addJoin_288 rfl (lv_at hl 0 rfl) ?_
      refine lv_iload hx hb dX10_addJoin_289 (lv_at hl 1 rfl) ?_
      refine lv_iload hx hb dX10_addJoin_291 (lv_at hl 2 rfl) ?_
      refine lv_iload hx hb dX10_addJoin_293 (lv_at hl 3 rfl) ?_
      refine lv_iload hx hb dX10_addJoin_295 (lv_at hl 4 rfl) ?_
      refine lv_iload hx hb dX10_addJoin_297 (lv_at hl 6 rfl) ?_
      refine lv_iadd hx hb dX10_addJoin_299 ?_
      refine lv_i2l hx hb dX10_addJoin_300 rfl ?_
      refine lv_iload hx hb dX10_addJoin_301 (lv_at hl 5 rfl) ?_
      refine lv_iload hx hb dX10_addJoin_303 (lv_at hl 7 rfl) ?_
      refine lv_iadd hx hb dX10_addJoin_305 ?_
      refine lv_i2l hx hb dX10_addJoin_306 rfl ?_
      obtain ⟨u_6, hu_6, hF⟩ := obd_some hF
      have hPc := hP.sub (ws' := (wd_X10_addTip cI a0 a1 a2 a4 v0_3 v0_4 v0_5 v0_6 v0_7 u_2.1 u_4.1 v1_5 u_4.2.1 u_4.2.2)) [0, 1, 3, 4] rfl
      have hDc := hD.sub (ws' := (wd_X10_addTip cI a0 a1 a2 a4 v0_3 v0_4 v0_5 v0_6 v0_7 u_2.1 u_4.1 v1_5 u_4.2.1 u_4.2.2)) [0, 1, 3, 4] rfl rfl
      refine q_callv (wc := (wd_X10_addTip cI a0 a1 a2 a4 v0_3 v0_4 v0_5 v0_6 v0_7 u_2.1 u_4.1 v1_5 u_4.2.1 u_4.2.2)) (w1 := (wd_X10_addTip cI a0 a1 a2 a4 v0_3 v0_4 v0_5 v0_6 v0_7 u_2.1 u_6.1 v1_5 u_6.2.1 u_6.2.2)) (ws' := (wd_X10_addJoin cI a0 a1 a2 a3 a4 v0_3 v0_4 v0_5 v0_6 v0_7 u_2.1 u_6.1 v1_5 u_2.2.2 u_6.2.1 u_6.2.2 v2_10 v2_11 v2_7 v2_9 v4_10 v4_1 v4_2 v4_3 v4_4 v4_5 v4_6 v4_7)) hP hD hS hA [0, 1, 3, 4] [2, 5, 6, 7, 8, 9, 10, 11, 12, 13, 14, 15] [12, 13, 0, 14, 15, 1, 2, 3, 4, 5, 6, 7, 8, 9, 10, 11] rfl rfl rfl (by decide) rfl rfl (va_runV (As := [.int x9, .int x10, .int x11, .long ((x12 + x14).toInt64), .long ((x13 + x15).toInt64)]) (rest := []) ⟨hx, hb, hml, hown, hta⟩ (c_X10_addTip l dC dI cI H.size a0 a1 a2 a4 v0_3 v0_4 v0_5 v0_6 v0_7 u_2.1 u_4.1 v1_5 u_4.2.1 u_4.2.2 x9 x10 x11 ((x12 + x14).toInt64) ((x13 + x15).toInt64) u_6 hu_6) (cwV 5 hta (ga_V mA547 mA548 mA549 mA23 mA550) rfl rfl rfl (by decide +kernel) ⟨Nat.le_of_ble_eq_true rfl, Nat.le_of_ble_eq_true rfl⟩) ⟨q_fb, va_recv hK hP (ci := 9) (q0 := 0) rfl rfl, q_ps hPc hK hDc⟩ rfl rfl hl.1 rfl (lv_room (Nat.le_of_ble_eq_true rfl)) dX10_addJoin_307 ⟨Nat.zero_le _, Nat.zero_le _⟩) (fun H locs hP hD hS => ?_)
      exact j310 u_2.1 u_6.1 u_2.2.2 u_6.2.1 u_6.2.2 x9 x10 x11 x14 x15 hF _ _ _ hP hD hS (lv_sub hl [0, 1, 2, 3, 6, 7] rfl)
  have j230 : ∀ (v1_3 : Int32) (v1_4 : Int32) (v1_0 : Nat → Int32) (v1_1 : Nat → Int32) (v1_2 : Nat → Int32) (x9 : Int32) (x10 : Int32) (x11 : Int32) (x12 : Int32) (x13 : Int32) (x14 : Int32) (x15 : Int32) (t0 : Int32), F_X10_addJoin_j230 v0_4 v1_3 v1_4 v1_0 v1_1 v1_2 x9 x10 x11 x12 x13 x14 x15 t0 = some u → ∀ (H : Heap) (locs : List Loc) (ls : Array Slot), va_P (dC, dI) vwCl (wd_X10_addJoin cI a0 a1 a2 a3 a4 v0_3 v0_4 v0_5 v0_6 v0_7 v1_3 v1_4 v1_5 v1_0 v1_1 v1_2 v2_10 v2_11 v2_7 v2_9 v4_10 v4_1 v4_2 v4_3 v4_4 v4_5 v4_6 v4_7) H → va_D A (wd_X10_addJoin cI a0 a1 a2 a3 a4 v0_3 v0_4 v0_5 v0_6 v0_7 v1_3 v1_4 v1_5 v1_0 v1_1 v1_2 v2_10 v2_11 v2_7 v2_9 v4_10 v4_1 v4_2 v4_3 v4_4 v4_5 v4_6 v4_7) → va_S A s.heap H locs → lv_has ls 17 [(0, .ref (a0 0)), (9, .int x9), (10, .int x10), (11, .int x11), (12, .int x12), (13, .int x13), (14, .int x14), (15, .int x15)] → W p l e (headSpec wz_X10_addJoin rm_X10_addJoin).room s m [.ref (a0 0), .int p1, .int p2].toArray below meth c H locs 0 0 (MQ below (Q_X10_addJoin dC dI cI a0 a1 a2 a3 a4 v0_3 v0_4 v0_5 v0_6 v0_7 v1_5 v2_10 v2_11 v2_7 v2_9 v4_10 v4_1 v4_2 v4_3 v4_4 v4_5 v4_6 v4_7 u A) [.ref (a0 0), .int p1, .int p2].toArray s 0 0 A) (F0 m 230 ls [.int t0]) := by
    intro v1_3 v1_4 v1_0 v1_1 v1_2 x9 x10 x11 x12 x13 x14 x15 t0 hF H locs ls hP hD hS hl
    unfold F_X10_addJoin_j230 at hF
    refine lv_istore (lv' := [(16, .int t0), (0, .ref (a0 0)), (9, .int x9), (10, .int x10), (11, .int x11), (12, .int x12), (13, .int x13), (14, .int x14), (15, .int x15)]) hx hb dX10_addJoin_230 hl (by decide) rfl (fun ls hl => ?_)
    refine lv_aload_n hx hb dX10_addJoin_232 rfl (lv_at hl 1 rfl) ?_
    refine va_get (D := (dC, dI)) (ci := 9) (v := .ref (a1 0)) (C := RX10) (T := TX10) (N := 8) hx hb hta uw_X10 hown hK hP 0 rfl rfl 2 (by decide) (hta _ mA61) (fun _ h9 => h9) rfl dX10_addJoin_233 ?_
    refine lv_iload hx hb dX10_addJoin_236 (lv_at hl 0 rfl) ?_
    refine lv_if_eq (tgt := 245) hx hb dX10_addJoin_238 (by decide) (fun c_7 => ?_) (fun c_7 => ?_)
    · have hF := it_t hF c_7
      refine lv_iconst (v := 2) hx hb dX10_addJoin_245 (by decide) ?_
      exact j246 v1_3 v1_4 v1_0 v1_1 v1_2 x9 x10 x11 x12 x13 x14 x15 t0 2 hF _ _ _ hP hD hS (lv_sub hl [1, 2, 3, 4, 5, 6, 7, 8, 0] rfl)
    · have hF := it_f hF c_7
      refine lv_iconst (v := 1) hx hb dX10_addJoin_241 (by decide) ?_
      refine lv_goto (tgt := 246) hx hb dX10_addJoin_242 (by decide) ?_
      exact j246 v1_3 v1_4 v1_0 v1_1 v1_2 x9 x10 x11 x12 x13 x14 x15 t0 1 hF _ _ _ hP hD hS (lv_sub hl [1, 2, 3, 4, 5, 6, 7, 8, 0] rfl)
  have j229 : ∀ (v1_3 : Int32) (v1_4 : Int32) (v1_0 : Nat → Int32) (v1_1 : Nat → Int32) (v1_2 : Nat → Int32) (x9 : Int32) (x10 : Int32) (x11 : Int32) (x12 : Int32) (x13 : Int32) (x14 : Int32) (x15 : Int32), F_X10_addJoin_j229 v0_4 v1_3 v1_4 v1_0 v1_1 v1_2 x9 x10 x11 x12 x13 x14 x15 = some u → ∀ (H : Heap) (locs : List Loc) (ls : Array Slot), va_P (dC, dI) vwCl (wd_X10_addJoin cI a0 a1 a2 a3 a4 v0_3 v0_4 v0_5 v0_6 v0_7 v1_3 v1_4 v1_5 v1_0 v1_1 v1_2 v2_10 v2_11 v2_7 v2_9 v4_10 v4_1 v4_2 v4_3 v4_4 v4_5 v4_6 v4_7) H → va_D A (wd_X10_addJoin cI a0 a1 a2 a3 a4 v0_3 v0_4 v0_5 v0_6 v0_7 v1_3 v1_4 v1_5 v1_0 v1_1 v1_2 v2_10 v2_11 v2_7 v2_9 v4_10 v4_1 v4_2 v4_3 v4_4 v4_5 v4_6 v4_7) → va_S A s.heap H locs → lv_has ls 17 [(0, .ref (a0 0)), (9, .int x9), (10, .int x10), (11, .int x11), (12, .int x12), (13, .int x13), (14, .int x14), (15, .int x15)] → W p l e (headSpec wz_X10_addJoin rm_X10_addJoin).room s m [.ref (a0 0), .int p1, .int p2].toArray below meth c H locs 0 0 (MQ below (Q_X10_addJoin dC dI cI a0 a1 a2 a3 a4 v0_3 v0_4 v0_5 v0_6 v0_7 v1_5 v2_10 v2_11 v2_7 v2_9 v4_10 v4_1 v4_2 v4_3 v4_4 v4_5 v4_6 v4_7 u A) [.ref (a0 0), .int p1, .int p2].toArray s 0 0 A) (F0 m 229 ls []) := by
    intro v1_3 v1_4 v1_0 v1_1 v1_2 x9 x10 x11 x12 x13 x14 x15 hF H locs ls hP hD hS hl
    unfold F_X10_addJoin_j229 at hF
    refine lv_iconst (v := 0) hx hb dX10_addJoin_229 (by decide) ?_
    exact j230 v1_3 v1_4 v1_0 v1_1 v1_2 x9 x10 x11 x12 x13 x14 x15 0 hF _ _ _ hP hD hS (lv_sub hl [0, 1, 2, 3, 4, 5, 6, 7] rfl)
  have j144 : ∀ (v1_3 : Int32) (v1_4 : Int32) (v1_0 : Nat → Int32) (v1_1 : Nat → Int32) (v1_2 : Nat → Int32) (x3 : Int32) (x4 : Int32) (x7 : Int64) (x9 : Int32) (x10 : Int32) (t0 : Int32), F_X10_addJoin_j144 v0_4 v0_5 v0_6 v1_3 v1_4 v1_0 v1_1 v1_2 v4_3 v4_4 v4_6 v4_7 x3 x4 x7 x9 x10 t0 = some u → ∀ (H : Heap) (locs : List Loc) (ls : Array Slot), va_P (dC, dI) vwCl (wd_X10_addJoin cI a0 a1 a2 a3 a4 v0_3 v0_4 v0_5 v0_6 v0_7 v1_3 v1_4 v1_5 v1_0 v1_1 v1_2 v2_10 v2_11 v2_7 v2_9 v4_10 v4_1 v4_2 v4_3 v4_4 v4_5 v4_6 v4_7) H → va_D A (wd_X10_addJoin cI a0 a1 a2 a3 a4 v0_3 v0_4 v0_5 v0_6 v0_7 v1_3 v1_4 v1_5 v1_0 v1_1 v1_2 v2_10 v2_11 v2_7 v2_9 v4_10 v4_1 v4_2 v4_3 v4_4 v4_5 v4_6 v4_7) → va_S A s.heap H locs → lv_has ls 17 [(0, .ref (a0 0)), (3, .int x3), (4, .int x4), (7, .long x7), (9, .int x9), (10, .int x10)] → W p l e (headSpec wz_X10_addJoin rm_X10_addJoin).room s m [.ref (a0 0), .int p1, .int p2].toArray below meth c H locs 0 0 (MQ below (Q_X10_addJoin dC dI cI a0 a1 a2 a3 a4 v0_3 v0_4 v0_5 v0_6 v0_7 v1_5 v2_10 v2_11 v2_7 v2_9 v4_10 v4_1 v4_2 v4_3 v4_4 v4_5 v4_6 v4_7 u A) [.ref (a0 0), .int p1, .int p2].toArray s 0 0 A) (F0 m 144 ls [.int t0]) := by
    intro v1_3 v1_4 v1_0 v1_1 v1_2 x3 x4 x7 x9 x10 t0 hF H locs ls hP hD hS hl
    unfold F_X10_addJoin_j144 at hF
    refine lv_istore (lv' := [(11, .int t0), (0, .ref (a0 0)), (3, .int x3), (4, .int x4), (7, .long x7), (9, .int x9), (10, .int x10)]) hx hb dX10_addJoin_144 hl (by decide) rfl (fun ls hl => ?_)
    refine lv_aload_n hx hb dX10_addJoin_146 rfl (lv_at hl 1 rfl) ?_
    refine va_get (D := (dC, dI)) (ci := 9) (v := .ref (a4 0)) (C := RX10) (T := TX10) (N := 8) hx hb hta uw_X10 hown hK hP 0 rfl rfl 0 (by decide) (hta _ mA53) (fun _ h9 => h9) rfl dX10_addJoin_147 ?_
    refine lv_iload_n hx hb dX10_addJoin_150 rfl (lv_at hl 2 rfl) ?_
    obtain ⟨u_8, hu_8, hF⟩ := obd_some hF
    have hPc := hP.sub (ws' := (wd_X9_normalX cI a4 v4_10 v4_6)) [8, 14] rfl
    have hDc := hD.sub (ws' := (wd_X9_normalX cI a4 v4_10 v4_6)) [8, 14] rfl rfl
    refine q_calli (wc := (wd_X9_normalX cI a4 v4_10 v4_6)) (w1 := (wd_X9_normalX cI a4 v4_10 v4_6)) (ws' := (wd_X10_addJoin cI a0 a1 a2 a3 a4 v0_3 v0_4 v0_5 v0_6 v0_7 v1_3 v1_4 v1_5 v1_0 v1_1 v1_2 v2_10 v2_11 v2_7 v2_9 v4_10 v4_1 v4_2 v4_3 v4_4 v4_5 v4_6 v4_7)) hP hD hS hA [8, 14] [0, 1, 2, 3, 4, 5, 6, 7, 9, 10, 11, 12, 13, 15] [0, 1, 2, 3, 4, 5, 6, 7, 14, 8, 9, 10, 11, 12, 15, 13] rfl rfl rfl (by decide) rfl rfl (va_runV (As := [.int x3]) (rest := []) ⟨hx, hb, hml, hown, hta⟩ (c_X9_normalX l dC dI cI H.size a4 v4_10 v4_6 x3 u_8 hu_8) (cwV 1 hta (ga_V mA522 mA523 mA524 mA52 mA525) rfl rfl rfl (by decide +kernel) ⟨Nat.le_of_ble_eq_true rfl, Nat.le_of_ble_eq_true rfl⟩) ⟨q_fb, va_recv hK hP (ci := 8) (q0 := 8) rfl rfl, q_ps hPc hK hDc⟩ rfl rfl hl.1 rfl (lv_room (Nat.le_of_ble_eq_true rfl)) dX10_addJoin_151 ⟨Nat.zero_le _, Nat.zero_le _⟩) (fun H locs hP hD hS => ?_)
    refine lv_istore (lv' := [(12, .int u_8), (11, .int t0), (0, .ref (a0 0)), (3, .int x3), (4, .int x4), (7, .long x7), (9, .int x9), (10, .int x10)]) hx hb dX10_addJoin_154 hl (by decide) rfl (fun ls hl => ?_)
    refine lv_aload_n hx hb dX10_addJoin_156 rfl (lv_at hl 2 rfl) ?_
    refine va_get (D := (dC, dI)) (ci := 9) (v := .ref (a4 0)) (C := RX10) (T := TX10) (N := 8) hx hb hta uw_X10 hown hK hP 0 rfl rfl 0 (by decide) (hta _ mA53) (fun _ h9 => h9) rfl dX10_addJoin_157 ?_
    refine lv_iload_n hx hb dX10_addJoin_160 rfl (lv_at hl 3 rfl) ?_
    obtain ⟨u_9, hu_9, hF⟩ := obd_some hF
    have hPc := hP.sub (ws' := (wd_X9_normalY cI a4 v4_10 v4_7)) [8, 15] rfl
    have hDc := hD.sub (ws' := (wd_X9_normalY cI a4 v4_10 v4_7)) [8, 15] rfl rfl
    refine q_calli (wc := (wd_X9_normalY cI a4 v4_10 v4_7)) (w1 := (wd_X9_normalY cI a4 v4_10 v4_7)) (ws' := (wd_X10_addJoin cI a0 a1 a2 a3 a4 v0_3 v0_4 v0_5 v0_6 v0_7 v1_3 v1_4 v1_5 v1_0 v1_1 v1_2 v2_10 v2_11 v2_7 v2_9 v4_10 v4_1 v4_2 v4_3 v4_4 v4_5 v4_6 v4_7)) hP hD hS hA [8, 15] [0, 1, 2, 3, 4, 5, 6, 7, 9, 10, 11, 12, 13, 14] [0, 1, 2, 3, 4, 5, 6, 7, 14, 8, 9, 10, 11, 12, 13, 15] rfl rfl rfl (by decide) rfl rfl (va_runV (As := [.int x3]) (rest := []) ⟨hx, hb, hml, hown, hta⟩ (c_X9_normalY l dC dI cI H.size a4 v4_10 v4_7 x3 u_9 hu_9) (cwV 1 hta (ga_V mA526 mA527 mA528 mA52 mA529) rfl rfl rfl (by decide +kernel) ⟨Nat.le_of_ble_eq_true rfl, Nat.le_of_ble_eq_true rfl⟩) ⟨q_fb, va_recv hK hP (ci := 8) (q0 := 8) rfl rfl, q_ps hPc hK hDc⟩ rfl rfl hl.1 rfl (lv_room (Nat.le_of_ble_eq_true rfl)) dX10_addJoin_161 ⟨Nat.zero_le _, Nat.zero_le _⟩) (fun H locs hP hD hS => ?_)
    refine lv_istore (lv' := [(13, .int u_9), (12, .int u_8), (11, .int t0), (0, .ref (a0 0)), (3, .int x3), (4, .int x4), (7, .long x7), (9, .int x9), (10, .int x10)]) hx hb dX10_addJoin_164 hl (by decide) rfl (fun ls hl => ?_)
    refine lv_aload_n hx hb dX10_addJoin_166 rfl (lv_at hl 3 rfl) ?_
    refine va_get (D := (dC, dI)) (ci := 9) (v := .ref (a4 0)) (C := RX10) (T := TX10) (N := 8) hx hb hta uw_X10 hown hK hP 0 rfl rfl 0 (by decide) (hta _ mA53) (fun _ h9 => h9) rfl dX10_addJoin_167 ?_
    refine lv_iload hx hb dX10_addJoin_170 (lv_at hl 5 rfl) ?_
    obtain ⟨u_10, hu_10, hF⟩ := obd_some hF
    have hPc := hP.sub (ws' := (wd_X9_normalX cI a4 v4_10 v4_6)) [8, 14] rfl
    have hDc := hD.sub (ws' := (wd_X9_normalX cI a4 v4_10 v4_6)) [8, 14] rfl rfl
    refine q_calli (wc := (wd_X9_normalX cI a4 v4_10 v4_6)) (w1 := (wd_X9_normalX cI a4 v4_10 v4_6)) (ws' := (wd_X10_addJoin cI a0 a1 a2 a3 a4 v0_3 v0_4 v0_5 v0_6 v0_7 v1_3 v1_4 v1_5 v1_0 v1_1 v1_2 v2_10 v2_11 v2_7 v2_9 v4_10 v4_1 v4_2 v4_3 v4_4 v4_5 v4_6 v4_7)) hP hD hS hA [8, 14] [0, 1, 2, 3, 4, 5, 6, 7, 9, 10, 11, 12, 13, 15] [0, 1, 2, 3, 4, 5, 6, 7, 14, 8, 9, 10, 11, 12, 15, 13] rfl rfl rfl (by decide) rfl rfl (va_runV (As := [.int x4]) (rest := []) ⟨hx, hb, hml, hown, hta⟩ (c_X9_normalX l dC dI cI H.size a4 v4_10 v4_6 x4 u_10 hu_10) (cwV 1 hta (ga_V mA522 mA523 mA524 mA52 mA525) rfl rfl rfl (by decide +kernel) ⟨Nat.le_of_ble_eq_true rfl, Nat.le_of_ble_eq_true rfl⟩) ⟨q_fb, va_recv hK hP (ci := 8) (q0 := 8) rfl rfl, q_ps hPc hK hDc⟩ rfl rfl hl.1 rfl (lv_room (Nat.le_of_ble_eq_true rfl)) dX10_addJoin_172 ⟨Nat.zero_le _, Nat.zero_le _⟩) (fun H locs hP hD hS => ?_)
    refine lv_istore (lv' := [(14, .int u_10), (13, .int u_9), (12, .int u_8), (11, .int t0), (0, .ref (a0 0)), (3, .int x3), (4, .int x4), (7, .long x7), (9, .int x9), (10, .int x10)]) hx hb dX10_addJoin_175 hl (by decide) rfl (fun ls hl => ?_)
    refine lv_aload_n hx hb dX10_addJoin_177 rfl (lv_at hl 4 rfl) ?_
    refine va_get (D := (dC, dI)) (ci := 9) (v := .ref (a4 0)) (C := RX10) (T := TX10) (N := 8) hx hb hta uw_X10 hown hK hP 0 rfl rfl 0 (by decide) (hta _ mA53) (fun _ h9 => h9) rfl dX10_addJoin_178 ?_
    refine lv_iload hx hb dX10_addJoin_181 (lv_at hl 6 rfl) ?_
    obtain ⟨u_11, hu_11, hF⟩ := obd_some hF
    have hPc := hP.sub (ws' := (wd_X9_normalY cI a4 v4_10 v4_7)) [8, 15] rfl
    have hDc := hD.sub (ws' := (wd_X9_normalY cI a4 v4_10 v4_7)) [8, 15] rfl rfl
    refine q_calli (wc := (wd_X9_normalY cI a4 v4_10 v4_7)) (w1 := (wd_X9_normalY cI a4 v4_10 v4_7)) (ws' := (wd_X10_addJoin cI a0 a1 a2 a3 a4 v0_3 v0_4 v0_5 v0_6 v0_7 v1_3 v1_4 v1_5 v1_0 v1_1 v1_2 v2_10 v2_11 v2_7 v2_9 v4_10 v4_1 v4_2 v4_3 v4_4 v4_5 v4_6 v4_7)) hP hD hS hA [8, 15] [0, 1, 2, 3, 4, 5, 6, 7, 9, 10, 11, 12, 13, 14] [0, 1, 2, 3, 4, 5, 6, 7, 14, 8, 9, 10, 11, 12, 13, 15] rfl rfl rfl (by decide) rfl rfl (va_runV (As := [.int x4]) (rest := []) ⟨hx, hb, hml, hown, hta⟩ (c_X9_normalY l dC dI cI H.size a4 v4_10 v4_7 x4 u_11 hu_11) (cwV 1 hta (ga_V mA526 mA527 mA528 mA52 mA529) rfl rfl rfl (by decide +kernel) ⟨Nat.le_of_ble_eq_true rfl, Nat.le_of_ble_eq_true rfl⟩) ⟨q_fb, va_recv hK hP (ci := 8) (q0 := 8) rfl rfl, q_ps hPc hK hDc⟩ rfl rfl hl.1 rfl (lv_room (Nat.le_of_ble_eq_true rfl)) dX10_addJoin_183 ⟨Nat.zero_le _, Nat.zero_le _⟩) (fun H locs hP hD hS => ?_)
    refine lv_istore (lv' := [(15, .int u_11), (14, .int u_10), (13, .int u_9), (12, .int u_8), (11, .int t0), (0, .ref (a0 0)), (3, .int x3), (4, .int x4), (7, .long x7), (9, .int x9), (10, .int x10)]) hx hb dX10_addJoin_186 hl (by decide) rfl (fun ls hl => ?_)
    refine lv_aload_n hx hb dX10_addJoin_188 rfl (lv_at hl 5 rfl) ?_
    refine va_get (D := (dC, dI)) (ci := 9) (v := .int v0_5) (C := RX10) (T := TX10) (N := 8) hx hb hta uw_X10 hown hK hP 0 rfl rfl 5 (by decide) (hta _ mA466) (fun _ h9 => h9) rfl dX10_addJoin_189 ?_
    refine lv_if_ne (tgt := 229) hx hb dX10_addJoin_192 (by decide) (fun c_12 => ?_) (fun c_12 => ?_)
    · have hF := it_f hF c_12
      exact j229 v1_3 v1_4 v1_0 v1_1 v1_2 x9 x10 t0 u_8 u_9 u_10 u_11 hF _ _ _ hP hD hS (lv_sub hl [5, 9, 10, 4, 3, 2, 1, 0] rfl)
    · have hF := it_t hF c_12
      refine lv_aload_n hx hb dX10_addJoin_195 rfl (lv_at hl 5 rfl) ?_
      refine lv_lload hx hb dX10_addJoin_196 (lv_at hl 8 rfl) ?_
      refine lv_aload_n hx hb dX10_addJoin_198 rfl (lv_at hl 5 rfl) ?_
      refine va_get (D := (dC, dI)) (ci := 9) (v := .ref (a4 0)) (C := RX10) (T := TX10) (N := 8) hx hb hta uw_X10 hown hK hP 0 rfl rfl 0 (by decide) (hta _ mA53) (fun _ h9 => h9) rfl dX10_addJoin_199 ?_
      refine lv_iload_n hx hb dX10_addJoin_202 rfl (lv_at hl 6 rfl) ?_
      refine lv_iload_n hx hb dX10_addJoin_203 rfl (lv_at hl 6 rfl) ?_
      obtain ⟨u_13, hu_13, hF⟩ := obd_some hF
      have hPc := hP.sub (ws' := (wd_X9_dot cI a4 v4_10 v4_3 v4_4)) [8, 11, 12] rfl
      have hDc := hD.sub (ws' := (wd_X9_dot cI a4 v4_10 v4_3 v4_4)) [8, 11, 12] rfl rfl
      refine q_calll (wc := (wd_X9_dot cI a4 v4_10 v4_3 v4_4)) (w1 := (wd_X9_dot cI a4 v4_10 v4_3 v4_4)) (ws' := (wd_X10_addJoin cI a0 a1 a2 a3 a4 v0_3 v0_4 v0_5 v0_6 v0_7 v1_3 v1_4 v1_5 v1_0 v1_1 v1_2 v2_10 v2_11 v2_7 v2_9 v4_10 v4_1 v4_2 v4_3 v4_4 v4_5 v4_6 v4_7)) hP hD hS hA [8, 11, 12] [0, 1, 2, 3, 4, 5, 6, 7, 9, 10, 13, 14, 15] [0, 1, 2, 3, 4, 5, 6, 7, 13, 8, 9, 14, 15, 10, 11, 12] rfl rfl rfl (by decide) rfl rfl (va_runV (As := [.int x3, .int x3]) (rest := [.long x7, .ref (a0 0)]) ⟨hx, hb, hml, hown, hta⟩ (c_X9_dot l dC dI cI H.size a4 v4_10 v4_3 v4_4 x3 x3 u_13 hu_13) (cwV 2 hta (ga_V mA538 mA539 mA540 mA52 mA541) rfl rfl rfl (by decide +kernel) ⟨Nat.le_of_ble_eq_true rfl, Nat.le_of_ble_eq_true rfl⟩) ⟨q_fb, va_recv hK hP (ci := 8) (q0 := 8) rfl rfl, q_ps hPc hK hDc⟩ rfl rfl hl.1 rfl (lv_room (Nat.le_of_ble_eq_true rfl)) dX10_addJoin_204 ⟨Nat.zero_le _, Nat.zero_le _⟩) (fun H locs hP hD hS => ?_)
      refine lv_aload_n hx hb dX10_addJoin_207 rfl (lv_at hl 5 rfl) ?_
      refine va_get (D := (dC, dI)) (ci := 9) (v := .ref (a4 0)) (C := RX10) (T := TX10) (N := 8) hx hb hta uw_X10 hown hK hP 0 rfl rfl 0 (by decide) (hta _ mA53) (fun _ h9 => h9) rfl dX10_addJoin_208 ?_
      refine lv_iload hx hb dX10_addJoin_211 (lv_at hl 7 rfl) ?_
      refine lv_iload hx hb dX10_addJoin_213 (lv_at hl 7 rfl) ?_
      obtain ⟨u_14, hu_14, hF⟩ := obd_some hF
      have hPc := hP.sub (ws' := (wd_X9_dot cI a4 v4_10 v4_3 v4_4)) [8, 11, 12] rfl
      have hDc := hD.sub (ws' := (wd_X9_dot cI a4 v4_10 v4_3 v4_4)) [8, 11, 12] rfl rfl
      refine q_calll (wc := (wd_X9_dot cI a4 v4_10 v4_3 v4_4)) (w1 := (wd_X9_dot cI a4 v4_10 v4_3 v4_4)) (ws' := (wd_X10_addJoin cI a0 a1 a2 a3 a4 v0_3 v0_4 v0_5 v0_6 v0_7 v1_3 v1_4 v1_5 v1_0 v1_1 v1_2 v2_10 v2_11 v2_7 v2_9 v4_10 v4_1 v4_2 v4_3 v4_4 v4_5 v4_6 v4_7)) hP hD hS hA [8, 11, 12] [0, 1, 2, 3, 4, 5, 6, 7, 9, 10, 13, 14, 15] [0, 1, 2, 3, 4, 5, 6, 7, 13, 8, 9, 14, 15, 10, 11, 12] rfl rfl rfl (by decide) rfl rfl (va_runV (As := [.int x4, .int x4]) (rest := [.long u_13, .long x7, .ref (a0 0)]) ⟨hx, hb, hml, hown, hta⟩ (c_X9_dot l dC dI cI H.size a4 v4_10 v4_3 v4_4 x4 x4 u_14 hu_14) (cwV 2 hta (ga_V mA538 mA539 mA540 mA52 mA541) rfl rfl rfl (by decide +kernel) ⟨Nat.le_of_ble_eq_true rfl, Nat.le_of_ble_eq_true rfl⟩) ⟨q_fb, va_recv hK hP (ci := 8) (q0 := 8) rfl rfl, q_ps hPc hK hDc⟩ rfl rfl hl.1 rfl (lv_room (Nat.le_of_ble_eq_true rfl)) dX10_addJoin_215 ⟨Nat.zero_le _, Nat.zero_le _⟩) (fun H locs hP hD hS => ?_)
      refine lv_lmul hx hb dX10_addJoin_218 ?_
      obtain ⟨u_15, hu_15, hF⟩ := lt_some hF
      have hPc := hP.sub (ws' := (wd_X10_isInLimit cI a0 a1 a2 a4 v0_3 v0_4 v0_5 v0_6 v0_7)) [0] rfl
      have hDc := hD.sub (ws' := (wd_X10_isInLimit cI a0 a1 a2 a4 v0_3 v0_4 v0_5 v0_6 v0_7)) [0] rfl rfl
      refine q_callz (wc := (wd_X10_isInLimit cI a0 a1 a2 a4 v0_3 v0_4 v0_5 v0_6 v0_7)) (w1 := (wd_X10_isInLimit cI a0 a1 a2 a4 v0_3 v0_4 v0_5 v0_6 v0_7)) (ws' := (wd_X10_addJoin cI a0 a1 a2 a3 a4 v0_3 v0_4 v0_5 v0_6 v0_7 v1_3 v1_4 v1_5 v1_0 v1_1 v1_2 v2_10 v2_11 v2_7 v2_9 v4_10 v4_1 v4_2 v4_3 v4_4 v4_5 v4_6 v4_7)) hP hD hS hA [0] [1, 2, 3, 4, 5, 6, 7, 8, 9, 10, 11, 12, 13, 14, 15] [15, 0, 1, 2, 3, 4, 5, 6, 7, 8, 9, 10, 11, 12, 13, 14] rfl rfl rfl (by decide) rfl rfl (va_runV (As := [.long x7, .long (u_13 * u_14)]) (rest := []) ⟨hx, hb, hml, hown, hta⟩ (c_X10_isInLimit l dC dI cI H.size a0 a1 a2 a4 v0_3 v0_4 v0_5 v0_6 v0_7 x7 (u_13 * u_14) u_15 hu_15.symm) (cwV 2 hta (ga_V mA542 mA543 mA544 mA23 mA545) rfl rfl rfl (by decide +kernel) ⟨Nat.le_of_ble_eq_true rfl, Nat.le_of_ble_eq_true rfl⟩) ⟨q_fb, va_recv hK hP (ci := 9) (q0 := 0) rfl rfl, q_ps hPc hK hDc⟩ rfl rfl hl.1 rfl (lv_room (Nat.le_of_ble_eq_true rfl)) dX10_addJoin_219 ⟨Nat.zero_le _, Nat.zero_le _⟩) (fun hzu_15 H locs hP hD hS => ?_)
      refine lv_if_eq (tgt := 229) hx hb dX10_addJoin_222 (by decide) (fun c_16 => ?_) (fun c_16 => ?_)
      · have hF := it_t hF c_16
        exact j229 v1_3 v1_4 v1_0 v1_1 v1_2 x9 x10 t0 u_8 u_9 u_10 u_11 hF _ _ _ hP hD hS (lv_sub hl [5, 9, 10, 4, 3, 2, 1, 0] rfl)
      · have hF := it_f hF c_16
        refine lv_iconst (v := 1) hx hb dX10_addJoin_225 (by decide) ?_
        refine lv_goto (tgt := 230) hx hb dX10_addJoin_226 (by decide) ?_
        exact j230 v1_3 v1_4 v1_0 v1_1 v1_2 x9 x10 t0 u_8 u_9 u_10 u_11 1 hF _ _ _ hP hD hS (lv_sub hl [5, 9, 10, 4, 3, 2, 1, 0] rfl)
  have j116 : ∀ (v1_3 : Int32) (v1_4 : Int32) (v1_0 : Nat → Int32) (v1_1 : Nat → Int32) (v1_2 : Nat → Int32) (x3 : Int32) (x4 : Int32) (x5 : Int64) (x7 : Int64) (x9 : Int32) (x10 : Int32), F_X10_addJoin_j116 v0_4 v0_5 v0_6 v1_3 v1_4 v1_0 v1_1 v1_2 v4_3 v4_4 v4_6 v4_7 x3 x4 x5 x7 x9 x10 = some u → ∀ (H : Heap) (locs : List Loc) (ls : Array Slot), va_P (dC, dI) vwCl (wd_X10_addJoin cI a0 a1 a2 a3 a4 v0_3 v0_4 v0_5 v0_6 v0_7 v1_3 v1_4 v1_5 v1_0 v1_1 v1_2 v2_10 v2_11 v2_7 v2_9 v4_10 v4_1 v4_2 v4_3 v4_4 v4_5 v4_6 v4_7) H → va_D A (wd_X10_addJoin cI a0 a1 a2 a3 a4 v0_3 v0_4 v0_5 v0_6 v0_7 v1_3 v1_4 v1_5 v1_0 v1_1 v1_2 v2_10 v2_11 v2_7 v2_9 v4_10 v4_1 v4_2 v4_3 v4_4 v4_5 v4_6 v4_7) → va_S A s.heap H locs → lv_has ls 17 [(0, .ref (a0 0)), (3, .int x3), (4, .int x4), (5, .long x5), (7, .long x7), (9, .int x9), (10, .int x10)] → W p l e (headSpec wz_X10_addJoin rm_X10_addJoin).room s m [.ref (a0 0), .int p1, .int p2].toArray below meth c H locs 0 0 (MQ below (Q_X10_addJoin dC dI cI a0 a1 a2 a3 a4 v0_3 v0_4 v0_5 v0_6 v0_7 v1_5 v2_10 v2_11 v2_7 v2_9 v4_10 v4_1 v4_2 v4_3 v4_4 v4_5 v4_6 v4_7 u A) [.ref (a0 0), .int p1, .int p2].toArray s 0 0 A) (F0 m 116 ls []) := by
    intro v1_3 v1_4 v1_0 v1_1 v1_2 x3 x4 x5 x7 x9 x10 hF H locs ls hP hD hS hl
    unfold F_X10_addJoin_j116 at hF
    refine lv_aload_n hx hb dX10_addJoin_116 rfl (lv_at hl 0 rfl) ?_
    refine va_get (D := (dC, dI)) (ci := 9) (v := .int v0_5) (C := RX10) (T := TX10) (N := 8) hx hb hta uw_X10 hown hK hP 0 rfl rfl 5 (by decide) (hta _ mA466) (fun _ h9 => h9) rfl dX10_addJoin_117 ?_
    refine lv_iconst (v := 1) hx hb dX10_addJoin_120 (by decide) ?_
    refine lv_icmp_eq (tgt := 131) hx hb dX10_addJoin_121 (by decide) (fun c_17 => ?_) (fun c_17 => ?_)
    · have hF := it_t hF c_17
      obtain rfl := Option.some.inj hF
      exact W.vret hx hb hr (fun t ht hW => ⟨⟨(), rfl, trivial, by rw [ht]; exact hP, va_K.moved hW.alike hK, hD⟩, hS.F ht⟩) hS.2.2 dX10_addJoin_131
    · have hF := it_f hF c_17
      refine lv_lload hx hb dX10_addJoin_124 (lv_at hl 3 rfl) ?_
      refine lv_lconst (v := 0) hx hb dX10_addJoin_126 (by decide) ?_
      refine W.lcmp hx hb dX10_addJoin_127 ?_
      refine lv_if_ne (tgt := 132) hx hb dX10_addJoin_128 (by decide) (fun c_18 => ?_) (fun c_18 => ?_)
      · have hF := it_f hF c_18
        refine lv_lload hx hb dX10_addJoin_132 (lv_at hl 3 rfl) ?_
        refine lv_lconst (v := 0) hx hb dX10_addJoin_134 (by decide) ?_
        refine W.lcmp hx hb dX10_addJoin_135 ?_
        refine lv_if_le (tgt := 143) hx hb dX10_addJoin_136 (by decide) (fun c_19 => ?_) (fun c_19 => ?_)
        · have hF := it_t hF c_19
          refine lv_iconst (v := 1) hx hb dX10_addJoin_143 (by decide) ?_
          exact j144 v1_3 v1_4 v1_0 v1_1 v1_2 x3 x4 x7 x9 x10 1 hF _ _ _ hP hD hS (lv_sub hl [0, 1, 2, 4, 5, 6] rfl)
        · have hF := it_f hF c_19
          refine lv_iconst (v := (-1)) hx hb dX10_addJoin_139 (by decide) ?_
          refine lv_goto (tgt := 144) hx hb dX10_addJoin_140 (by decide) ?_
          exact j144 v1_3 v1_4 v1_0 v1_1 v1_2 x3 x4 x7 x9 x10 (-1) hF _ _ _ hP hD hS (lv_sub hl [0, 1, 2, 4, 5, 6] rfl)
      · have hF := it_t hF c_18
        obtain rfl := Option.some.inj hF
        exact W.vret hx hb hr (fun t ht hW => ⟨⟨(), rfl, trivial, by rw [ht]; exact hP, va_K.moved hW.alike hK, hD⟩, hS.F ht⟩) hS.2.2 dX10_addJoin_131
  have j64 : ∀ (v1_3 : Int32) (v1_4 : Int32) (v1_0 : Nat → Int32) (v1_1 : Nat → Int32) (v1_2 : Nat → Int32) (x1 : Int32) (x3 : Int32) (x4 : Int32) (x5 : Int64) (x7 : Int64), F_X10_addJoin_j64 v0_4 v0_5 v0_6 v1_3 v1_4 v1_0 v1_1 v1_2 v2_9 v4_1 v4_2 v4_3 v4_4 v4_5 v4_6 v4_7 x1 x3 x4 x5 x7 = some u → ∀ (H : Heap) (locs : List Loc) (ls : Array Slot), va_P (dC, dI) vwCl (wd_X10_addJoin cI a0 a1 a2 a3 a4 v0_3 v0_4 v0_5 v0_6 v0_7 v1_3 v1_4 v1_5 v1_0 v1_1 v1_2 v2_10 v2_11 v2_7 v2_9 v4_10 v4_1 v4_2 v4_3 v4_4 v4_5 v4_6 v4_7) H → va_D A (wd_X10_addJoin cI a0 a1 a2 a3 a4 v0_3 v0_4 v0_5 v0_6 v0_7 v1_3 v1_4 v1_5 v1_0 v1_1 v1_2 v2_10 v2_11 v2_7 v2_9 v4_10 v4_1 v4_2 v4_3 v4_4 v4_5 v4_6 v4_7) → va_S A s.heap H locs → lv_has ls 17 [(0, .ref (a0 0)), (1, .int x1), (3, .int x3), (4, .int x4), (5, .long x5), (7, .long x7)] → W p l e (headSpec wz_X10_addJoin rm_X10_addJoin).room s m [.ref (a0 0), .int p1, .int p2].toArray below meth c H locs 0 0 (MQ below (Q_X10_addJoin dC dI cI a0 a1 a2 a3 a4 v0_3 v0_4 v0_5 v0_6 v0_7 v1_5 v2_10 v2_11 v2_7 v2_9 v4_10 v4_1 v4_2 v4_3 v4_4 v4_5 v4_6 v4_7 u A) [.ref (a0 0), .int p1, .int p2].toArray s 0 0 A) (F0 m 64 ls []) := by
    intro v1_3 v1_4 v1_0 v1_1 v1_2 x1 x3 x4 x5 x7 hF H locs ls hP hD hS hl
    unfold F_X10_addJoin_j64 at hF
    refine lv_aload_n hx hb dX10_addJoin_64 rfl (lv_at hl 0 rfl) ?_
    refine va_get (D := (dC, dI)) (ci := 9) (v := .ref (a4 0)) (C := RX10) (T := TX10) (N := 8) hx hb hta uw_X10 hown hK hP 0 rfl rfl 0 (by decide) (hta _ mA53) (fun _ h9 => h9) rfl dX10_addJoin_65 ?_
    refine lv_iload_n hx hb dX10_addJoin_68 rfl (lv_at hl 2 rfl) ?_
    refine lv_aload_n hx hb dX10_addJoin_69 rfl (lv_at hl 0 rfl) ?_
    refine va_get (D := (dC, dI)) (ci := 9) (v := .ref (a2 0)) (C := RX10) (T := TX10) (N := 8) hx hb hta uw_X10 hown hK hP 0 rfl rfl 1 (by decide) (hta _ mA57) (fun _ h9 => h9) rfl dX10_addJoin_70 ?_
    refine lv_iload_n hx hb dX10_addJoin_73 rfl (lv_at hl 1 rfl) ?_
    obtain ⟨u_20, hu_20, hF⟩ := obd_some hF
    have hPc := hP.sub (ws' := (wd_X8_toOf cI a2 a3 v2_10 v2_11 v2_9)) [5, 7] rfl
    have hDc := hD.sub (ws' := (wd_X8_toOf cI a2 a3 v2_10 v2_11 v2_9)) [5, 7] rfl rfl
    refine q_calli (wc := (wd_X8_toOf cI a2 a3 v2_10 v2_11 v2_9)) (w1 := (wd_X8_toOf cI a2 a3 v2_10 v2_11 v2_9)) (ws' := (wd_X10_addJoin cI a0 a1 a2 a3 a4 v0_3 v0_4 v0_5 v0_6 v0_7 v1_3 v1_4 v1_5 v1_0 v1_1 v1_2 v2_10 v2_11 v2_7 v2_9 v4_10 v4_1 v4_2 v4_3 v4_4 v4_5 v4_6 v4_7)) hP hD hS hA [5, 7] [0, 1, 2, 3, 4, 6, 8, 9, 10, 11, 12, 13, 14, 15] [0, 1, 2, 3, 4, 14, 5, 15, 6, 7, 8, 9, 10, 11, 12, 13] rfl rfl rfl (by decide) rfl rfl (va_runV (As := [.int x1]) (rest := [.int x3, .ref (a4 0)]) ⟨hx, hb, hml, hown, hta⟩ (c_X8_toOf l dC dI cI H.size a2 a3 v2_10 v2_11 v2_9 x1 u_20 hu_20) (cwV 1 hta (ga_V mA521 mA429 mA430 mA56 mA431) rfl rfl rfl (by decide +kernel) ⟨Nat.le_of_ble_eq_true rfl, Nat.le_of_ble_eq_true rfl⟩) ⟨q_fb, va_recv hK hP (ci := 7) (q0 := 5) rfl rfl, q_ps hPc hK hDc⟩ rfl rfl hl.1 rfl (lv_room (Nat.le_of_ble_eq_true rfl)) dX10_addJoin_74 ⟨Nat.zero_le _, Nat.zero_le _⟩) (fun H locs hP hD hS => ?_)
    obtain ⟨u_21, hu_21, hF⟩ := obd_some hF
    have hPc := hP.sub (ws' := (wd_X9_xAt cI a4 v4_10 v4_1 v4_3 v4_5)) [8, 9, 11, 13] rfl
    have hDc := hD.sub (ws' := (wd_X9_xAt cI a4 v4_10 v4_1 v4_3 v4_5)) [8, 9, 11, 13] rfl rfl
    refine q_calli (wc := (wd_X9_xAt cI a4 v4_10 v4_1 v4_3 v4_5)) (w1 := (wd_X9_xAt cI a4 v4_10 v4_1 v4_3 v4_5)) (ws' := (wd_X10_addJoin cI a0 a1 a2 a3 a4 v0_3 v0_4 v0_5 v0_6 v0_7 v1_3 v1_4 v1_5 v1_0 v1_1 v1_2 v2_10 v2_11 v2_7 v2_9 v4_10 v4_1 v4_2 v4_3 v4_4 v4_5 v4_6 v4_7)) hP hD hS hA [8, 9, 11, 13] [0, 1, 2, 3, 4, 5, 6, 7, 10, 12, 14, 15] [0, 1, 2, 3, 4, 5, 6, 7, 12, 13, 8, 14, 9, 15, 10, 11] rfl rfl rfl (by decide) rfl rfl (va_runV (As := [.int x3, .int u_20]) (rest := []) ⟨hx, hb, hml, hown, hta⟩ (c_X9_xAt l dC dI cI H.size a4 v4_10 v4_1 v4_3 v4_5 x3 u_20 u_21 hu_21) (cwV 2 hta (ga_V mA519 mA340 mA341 mA52 mA342) rfl rfl rfl (by decide +kernel) ⟨Nat.le_of_ble_eq_true rfl, Nat.le_of_ble_eq_true rfl⟩) ⟨q_fb, va_recv hK hP (ci := 8) (q0 := 8) rfl rfl, q_ps hPc hK hDc⟩ rfl rfl hl.1 rfl (lv_room (Nat.le_of_ble_eq_true rfl)) dX10_addJoin_77 ⟨Nat.zero_le _, Nat.zero_le _⟩) (fun H locs hP hD hS => ?_)
    refine lv_istore (lv' := [(9, .int u_21), (0, .ref (a0 0)), (1, .int x1), (3, .int x3), (4, .int x4), (5, .long x5), (7, .long x7)]) hx hb dX10_addJoin_80 hl (by decide) rfl (fun ls hl => ?_)
    refine lv_aload_n hx hb dX10_addJoin_82 rfl (lv_at hl 1 rfl) ?_
    refine va_get (D := (dC, dI)) (ci := 9) (v := .ref (a4 0)) (C := RX10) (T := TX10) (N := 8) hx hb hta uw_X10 hown hK hP 0 rfl rfl 0 (by decide) (hta _ mA53) (fun _ h9 => h9) rfl dX10_addJoin_83 ?_
    refine lv_iload_n hx hb dX10_addJoin_86 rfl (lv_at hl 3 rfl) ?_
    refine lv_aload_n hx hb dX10_addJoin_87 rfl (lv_at hl 1 rfl) ?_
    refine va_get (D := (dC, dI)) (ci := 9) (v := .ref (a2 0)) (C := RX10) (T := TX10) (N := 8) hx hb hta uw_X10 hown hK hP 0 rfl rfl 1 (by decide) (hta _ mA57) (fun _ h9 => h9) rfl dX10_addJoin_88 ?_
    refine lv_iload_n hx hb dX10_addJoin_91 rfl (lv_at hl 2 rfl) ?_
    obtain ⟨u_22, hu_22, hF⟩ := obd_some hF
    have hPc := hP.sub (ws' := (wd_X8_toOf cI a2 a3 v2_10 v2_11 v2_9)) [5, 7] rfl
    have hDc := hD.sub (ws' := (wd_X8_toOf cI a2 a3 v2_10 v2_11 v2_9)) [5, 7] rfl rfl
    refine q_calli (wc := (wd_X8_toOf cI a2 a3 v2_10 v2_11 v2_9)) (w1 := (wd_X8_toOf cI a2 a3 v2_10 v2_11 v2_9)) (ws' := (wd_X10_addJoin cI a0 a1 a2 a3 a4 v0_3 v0_4 v0_5 v0_6 v0_7 v1_3 v1_4 v1_5 v1_0 v1_1 v1_2 v2_10 v2_11 v2_7 v2_9 v4_10 v4_1 v4_2 v4_3 v4_4 v4_5 v4_6 v4_7)) hP hD hS hA [5, 7] [0, 1, 2, 3, 4, 6, 8, 9, 10, 11, 12, 13, 14, 15] [0, 1, 2, 3, 4, 14, 5, 15, 6, 7, 8, 9, 10, 11, 12, 13] rfl rfl rfl (by decide) rfl rfl (va_runV (As := [.int x1]) (rest := [.int x3, .ref (a4 0)]) ⟨hx, hb, hml, hown, hta⟩ (c_X8_toOf l dC dI cI H.size a2 a3 v2_10 v2_11 v2_9 x1 u_22 hu_22) (cwV 1 hta (ga_V mA521 mA429 mA430 mA56 mA431) rfl rfl rfl (by decide +kernel) ⟨Nat.le_of_ble_eq_true rfl, Nat.le_of_ble_eq_true rfl⟩) ⟨q_fb, va_recv hK hP (ci := 7) (q0 := 5) rfl rfl, q_ps hPc hK hDc⟩ rfl rfl hl.1 rfl (lv_room (Nat.le_of_ble_eq_true rfl)) dX10_addJoin_92 ⟨Nat.zero_le _, Nat.zero_le _⟩) (fun H locs hP hD hS => ?_)
    obtain ⟨u_23, hu_23, hF⟩ := obd_some hF
    have hPc := hP.sub (ws' := (wd_X9_yAt cI a4 v4_10 v4_2 v4_4 v4_5)) [8, 10, 12, 13] rfl
    have hDc := hD.sub (ws' := (wd_X9_yAt cI a4 v4_10 v4_2 v4_4 v4_5)) [8, 10, 12, 13] rfl rfl
    refine q_calli (wc := (wd_X9_yAt cI a4 v4_10 v4_2 v4_4 v4_5)) (w1 := (wd_X9_yAt cI a4 v4_10 v4_2 v4_4 v4_5)) (ws' := (wd_X10_addJoin cI a0 a1 a2 a3 a4 v0_3 v0_4 v0_5 v0_6 v0_7 v1_3 v1_4 v1_5 v1_0 v1_1 v1_2 v2_10 v2_11 v2_7 v2_9 v4_10 v4_1 v4_2 v4_3 v4_4 v4_5 v4_6 v4_7)) hP hD hS hA [8, 10, 12, 13] [0, 1, 2, 3, 4, 5, 6, 7, 9, 11, 14, 15] [0, 1, 2, 3, 4, 5, 6, 7, 12, 8, 13, 9, 14, 15, 10, 11] rfl rfl rfl (by decide) rfl rfl (va_runV (As := [.int x3, .int u_22]) (rest := []) ⟨hx, hb, hml, hown, hta⟩ (c_X9_yAt l dC dI cI H.size a4 v4_10 v4_2 v4_4 v4_5 x3 u_22 u_23 hu_23) (cwV 2 hta (ga_V mA520 mA335 mA336 mA52 mA337) rfl rfl rfl (by decide +kernel) ⟨Nat.le_of_ble_eq_true rfl, Nat.le_of_ble_eq_true rfl⟩) ⟨q_fb, va_recv hK hP (ci := 8) (q0 := 8) rfl rfl, q_ps hPc hK hDc⟩ rfl rfl hl.1 rfl (lv_room (Nat.le_of_ble_eq_true rfl)) dX10_addJoin_95 ⟨Nat.zero_le _, Nat.zero_le _⟩) (fun H locs hP hD hS => ?_)
    refine lv_istore (lv' := [(10, .int u_23), (9, .int u_21), (0, .ref (a0 0)), (1, .int x1), (3, .int x3), (4, .int x4), (5, .long x5), (7, .long x7)]) hx hb dX10_addJoin_98 hl (by decide) rfl (fun ls hl => ?_)
    refine lv_aload_n hx hb dX10_addJoin_100 rfl (lv_at hl 2 rfl) ?_
    refine va_get (D := (dC, dI)) (ci := 9) (v := .int v0_5) (C := RX10) (T := TX10) (N := 8) hx hb hta uw_X10 hown hK hP 0 rfl rfl 5 (by decide) (hta _ mA466) (fun _ h9 => h9) rfl dX10_addJoin_101 ?_
    refine lv_iconst (v := 1) hx hb dX10_addJoin_104 (by decide) ?_
    refine lv_icmp_ne (tgt := 116) hx hb dX10_addJoin_105 (by decide) (fun c_24 => ?_) (fun c_24 => ?_)
    · have hF := it_f hF c_24
      exact j116 v1_3 v1_4 v1_0 v1_1 v1_2 x3 x4 x5 x7 u_21 u_23 hF _ _ _ hP hD hS (lv_sub hl [2, 4, 5, 6, 7, 1, 0] rfl)
    · have hF := it_t hF c_24
      refine lv_aload_n hx hb dX10_addJoin_108 rfl (lv_at hl 2 rfl) ?_
      refine lv_iload hx hb dX10_addJoin_109 (lv_at hl 1 rfl) ?_
      refine lv_iload hx hb dX10_addJoin_111 (lv_at hl 0 rfl) ?_
      obtain ⟨u_25, hu_25, hF⟩ := obd_some hF
      have hPc := hP.sub (ws' := (wd_X10_addDisc cI a0 a1 a2 a4 v0_3 v0_4 v0_5 v0_6 v0_7 v1_3 v1_4 v1_5 v1_0 v1_1 v1_2)) [0, 1, 2, 3, 4] rfl
      have hDc := hD.sub (ws' := (wd_X10_addDisc cI a0 a1 a2 a4 v0_3 v0_4 v0_5 v0_6 v0_7 v1_3 v1_4 v1_5 v1_0 v1_1 v1_2)) [0, 1, 2, 3, 4] rfl rfl
      refine q_callv (wc := (wd_X10_addDisc cI a0 a1 a2 a4 v0_3 v0_4 v0_5 v0_6 v0_7 v1_3 v1_4 v1_5 v1_0 v1_1 v1_2)) (w1 := (wd_X10_addDisc cI a0 a1 a2 a4 v0_3 v0_4 v0_5 v0_6 v0_7 u_25.1 u_25.2.1 v1_5 u_25.2.2.1 u_25.2.2.2.1 u_25.2.2.2.2)) (ws' := (wd_X10_addJoin cI a0 a1 a2 a3 a4 v0_3 v0_4 v0_5 v0_6 v0_7 u_25.1 u_25.2.1 v1_5 u_25.2.2.1 u_25.2.2.2.1 u_25.2.2.2.2 v2_10 v2_11 v2_7 v2_9 v4_10 v4_1 v4_2 v4_3 v4_4 v4_5 v4_6 v4_7)) hP hD hS hA [0, 1, 2, 3, 4] [5, 6, 7, 8, 9, 10, 11, 12, 13, 14, 15] [11, 12, 13, 14, 15, 0, 1, 2, 3, 4, 5, 6, 7, 8, 9, 10] rfl rfl rfl (by decide) rfl rfl (va_runV (As := [.int u_21, .int u_23]) (rest := []) ⟨hx, hb, hml, hown, hta⟩ (c_X10_addDisc l dC dI cI H.size a0 a1 a2 a4 v0_3 v0_4 v0_5 v0_6 v0_7 v1_3 v1_4 v1_5 v1_0 v1_1 v1_2 u_21 u_23 u_25 hu_25) (cwV 2 hta (ga_V mA485 mA486 mA487 mA23 mA488) rfl rfl rfl (by decide +kernel) ⟨Nat.le_of_ble_eq_true rfl, Nat.le_of_ble_eq_true rfl⟩) ⟨q_fb, va_recv hK hP (ci := 9) (q0 := 0) rfl rfl, q_ps hPc hK hDc⟩ rfl rfl hl.1 rfl (lv_room (Nat.le_of_ble_eq_true rfl)) dX10_addJoin_113 ⟨Nat.zero_le _, Nat.zero_le _⟩) (fun H locs hP hD hS => ?_)
      exact j116 u_25.1 u_25.2.1 u_25.2.2.1 u_25.2.2.2.1 u_25.2.2.2.2 x3 x4 x5 x7 u_21 u_23 hF _ _ _ hP hD hS (lv_sub hl [2, 4, 5, 6, 7, 1, 0] rfl)
  refine lv_aload_n hx hb dX10_addJoin_0 rfl (lv_at hl 0 rfl) ?_
  refine va_get (D := (dC, dI)) (ci := 9) (v := .ref (a2 0)) (C := RX10) (T := TX10) (N := 8) hx hb hta uw_X10 hown hK hP 0 rfl rfl 1 (by decide) (hta _ mA57) (fun _ h9 => h9) rfl dX10_addJoin_1 ?_
  refine lv_iload_n hx hb dX10_addJoin_4 rfl (lv_at hl 1 rfl) ?_
  obtain ⟨u_26, hu_26, hF⟩ := obd_some hF
  have hPc := hP.sub (ws' := (wd_X8_segmentOf cI a2 a3 v2_10 v2_11 v2_7)) [5, 6] rfl
  have hDc := hD.sub (ws' := (wd_X8_segmentOf cI a2 a3 v2_10 v2_11 v2_7)) [5, 6] rfl rfl
  refine q_calli (wc := (wd_X8_segmentOf cI a2 a3 v2_10 v2_11 v2_7)) (w1 := (wd_X8_segmentOf cI a2 a3 v2_10 v2_11 v2_7)) (ws' := (wd_X10_addJoin cI a0 a1 a2 a3 a4 v0_3 v0_4 v0_5 v0_6 v0_7 v1_3 v1_4 v1_5 v1_0 v1_1 v1_2 v2_10 v2_11 v2_7 v2_9 v4_10 v4_1 v4_2 v4_3 v4_4 v4_5 v4_6 v4_7)) hP hD hS hA [5, 6] [0, 1, 2, 3, 4, 7, 8, 9, 10, 11, 12, 13, 14, 15] [0, 1, 2, 3, 4, 14, 15, 5, 6, 7, 8, 9, 10, 11, 12, 13] rfl rfl rfl (by decide) rfl rfl (va_runV (As := [.int p1]) (rest := []) ⟨hx, hb, hml, hown, hta⟩ (c_X8_segmentOf l dC dI cI H.size a2 a3 v2_10 v2_11 v2_7 p1 u_26 hu_26) (cwV 1 hta (ga_V mA517 mA421 mA422 mA56 mA423) rfl rfl rfl (by decide +kernel) ⟨Nat.le_of_ble_eq_true rfl, Nat.le_of_ble_eq_true rfl⟩) ⟨q_fb, va_recv hK hP (ci := 7) (q0 := 5) rfl rfl, q_ps hPc hK hDc⟩ rfl rfl hl.1 rfl (lv_room (Nat.le_of_ble_eq_true rfl)) dX10_addJoin_5 ⟨Nat.zero_le _, Nat.zero_le _⟩) (fun H locs hP hD hS => ?_)
  refine lv_istore_n (lv' := [(3, .int u_26), (0, .ref (a0 0)), (1, .int p1), (2, .int p2)]) hx hb dX10_addJoin_8 rfl hl (by decide) rfl (fun ls hl => ?_)
  refine lv_aload_n hx hb dX10_addJoin_9 rfl (lv_at hl 1 rfl) ?_
  refine va_get (D := (dC, dI)) (ci := 9) (v := .ref (a2 0)) (C := RX10) (T := TX10) (N := 8) hx hb hta uw_X10 hown hK hP 0 rfl rfl 1 (by decide) (hta _ mA57) (fun _ h9 => h9) rfl dX10_addJoin_10 ?_
  refine lv_iload_n hx hb dX10_addJoin_13 rfl (lv_at hl 3 rfl) ?_
  obtain ⟨u_27, hu_27, hF⟩ := obd_some hF
  have hPc := hP.sub (ws' := (wd_X8_segmentOf cI a2 a3 v2_10 v2_11 v2_7)) [5, 6] rfl
  have hDc := hD.sub (ws' := (wd_X8_segmentOf cI a2 a3 v2_10 v2_11 v2_7)) [5, 6] rfl rfl
  refine q_calli (wc := (wd_X8_segmentOf cI a2 a3 v2_10 v2_11 v2_7)) (w1 := (wd_X8_segmentOf cI a2 a3 v2_10 v2_11 v2_7)) (ws' := (wd_X10_addJoin cI a0 a1 a2 a3 a4 v0_3 v0_4 v0_5 v0_6 v0_7 v1_3 v1_4 v1_5 v1_0 v1_1 v1_2 v2_10 v2_11 v2_7 v2_9 v4_10 v4_1 v4_2 v4_3 v4_4 v4_5 v4_6 v4_7)) hP hD hS hA [5, 6] [0, 1, 2, 3, 4, 7, 8, 9, 10, 11, 12, 13, 14, 15] [0, 1, 2, 3, 4, 14, 15, 5, 6, 7, 8, 9, 10, 11, 12, 13] rfl rfl rfl (by decide) rfl rfl (va_runV (As := [.int p2]) (rest := []) ⟨hx, hb, hml, hown, hta⟩ (c_X8_segmentOf l dC dI cI H.size a2 a3 v2_10 v2_11 v2_7 p2 u_27 hu_27) (cwV 1 hta (ga_V mA517 mA421 mA422 mA56 mA423) rfl rfl rfl (by decide +kernel) ⟨Nat.le_of_ble_eq_true rfl, Nat.le_of_ble_eq_true rfl⟩) ⟨q_fb, va_recv hK hP (ci := 7) (q0 := 5) rfl rfl, q_ps hPc hK hDc⟩ rfl rfl hl.1 rfl (lv_room (Nat.le_of_ble_eq_true rfl)) dX10_addJoin_14 ⟨Nat.zero_le _, Nat.zero_le _⟩) (fun H locs hP hD hS => ?_)
  refine lv_istore (lv' := [(4, .int u_27), (3, .int u_26), (0, .ref (a0 0)), (1, .int p1), (2, .int p2)]) hx hb dX10_addJoin_17 hl (by decide) rfl (fun ls hl => ?_)
  refine lv_aload_n hx hb dX10_addJoin_19 rfl (lv_at hl 2 rfl) ?_
  refine va_get (D := (dC, dI)) (ci := 9) (v := .ref (a4 0)) (C := RX10) (T := TX10) (N := 8) hx hb hta uw_X10 hown hK hP 0 rfl rfl 0 (by decide) (hta _ mA53) (fun _ h9 => h9) rfl dX10_addJoin_20 ?_
  refine lv_iload_n hx hb dX10_addJoin_23 rfl (lv_at hl 1 rfl) ?_
  refine lv_iload hx hb dX10_addJoin_24 (lv_at hl 0 rfl) ?_
  obtain ⟨u_28, hu_28, hF⟩ := obd_some hF
  have hPc := hP.sub (ws' := (wd_X9_cross cI a4 v4_10 v4_3 v4_4)) [8, 11, 12] rfl
  have hDc := hD.sub (ws' := (wd_X9_cross cI a4 v4_10 v4_3 v4_4)) [8, 11, 12] rfl rfl
  refine q_calll (wc := (wd_X9_cross cI a4 v4_10 v4_3 v4_4)) (w1 := (wd_X9_cross cI a4 v4_10 v4_3 v4_4)) (ws' := (wd_X10_addJoin cI a0 a1 a2 a3 a4 v0_3 v0_4 v0_5 v0_6 v0_7 v1_3 v1_4 v1_5 v1_0 v1_1 v1_2 v2_10 v2_11 v2_7 v2_9 v4_10 v4_1 v4_2 v4_3 v4_4 v4_5 v4_6 v4_7)) hP hD hS hA [8, 11, 12] [0, 1, 2, 3, 4, 5, 6, 7, 9, 10, 13, 14, 15] [0, 1, 2, 3, 4, 5, 6, 7, 13, 8, 9, 14, 15, 10, 11, 12] rfl rfl rfl (by decide) rfl rfl (va_runV (As := [.int u_26, .int u_27]) (rest := []) ⟨hx, hb, hml, hown, hta⟩ (c_X9_cross l dC dI cI H.size a4 v4_10 v4_3 v4_4 u_26 u_27 u_28 hu_28) (cwV 2 hta (ga_V mA534 mA535 mA536 mA52 mA537) rfl rfl rfl (by decide +kernel) ⟨Nat.le_of_ble_eq_true rfl, Nat.le_of_ble_eq_true rfl⟩) ⟨q_fb, va_recv hK hP (ci := 8) (q0 := 8) rfl rfl, q_ps hPc hK hDc⟩ rfl rfl hl.1 rfl (lv_room (Nat.le_of_ble_eq_true rfl)) dX10_addJoin_26 ⟨Nat.zero_le _, Nat.zero_le _⟩) (fun H locs hP hD hS => ?_)
  refine lv_lstore (lv' := [(5, .long u_28), (4, .int u_27), (3, .int u_26), (0, .ref (a0 0)), (1, .int p1), (2, .int p2)]) hx hb dX10_addJoin_29 hl (by decide) rfl (fun ls hl => ?_)
  refine lv_aload_n hx hb dX10_addJoin_31 rfl (lv_at hl 3 rfl) ?_
  refine va_get (D := (dC, dI)) (ci := 9) (v := .ref (a4 0)) (C := RX10) (T := TX10) (N := 8) hx hb hta uw_X10 hown hK hP 0 rfl rfl 0 (by decide) (hta _ mA53) (fun _ h9 => h9) rfl dX10_addJoin_32 ?_
  refine lv_iload_n hx hb dX10_addJoin_35 rfl (lv_at hl 2 rfl) ?_
  refine lv_iload hx hb dX10_addJoin_36 (lv_at hl 1 rfl) ?_
  obtain ⟨u_29, hu_29, hF⟩ := obd_some hF
  have hPc := hP.sub (ws' := (wd_X9_dot cI a4 v4_10 v4_3 v4_4)) [8, 11, 12] rfl
  have hDc := hD.sub (ws' := (wd_X9_dot cI a4 v4_10 v4_3 v4_4)) [8, 11, 12] rfl rfl
  refine q_calll (wc := (wd_X9_dot cI a4 v4_10 v4_3 v4_4)) (w1 := (wd_X9_dot cI a4 v4_10 v4_3 v4_4)) (ws' := (wd_X10_addJoin cI a0 a1 a2 a3 a4 v0_3 v0_4 v0_5 v0_6 v0_7 v1_3 v1_4 v1_5 v1_0 v1_1 v1_2 v2_10 v2_11 v2_7 v2_9 v4_10 v4_1 v4_2 v4_3 v4_4 v4_5 v4_6 v4_7)) hP hD hS hA [8, 11, 12] [0, 1, 2, 3, 4, 5, 6, 7, 9, 10, 13, 14, 15] [0, 1, 2, 3, 4, 5, 6, 7, 13, 8, 9, 14, 15, 10, 11, 12] rfl rfl rfl (by decide) rfl rfl (va_runV (As := [.int u_26, .int u_27]) (rest := []) ⟨hx, hb, hml, hown, hta⟩ (c_X9_dot l dC dI cI H.size a4 v4_10 v4_3 v4_4 u_26 u_27 u_29 hu_29) (cwV 2 hta (ga_V mA538 mA539 mA540 mA52 mA541) rfl rfl rfl (by decide +kernel) ⟨Nat.le_of_ble_eq_true rfl, Nat.le_of_ble_eq_true rfl⟩) ⟨q_fb, va_recv hK hP (ci := 8) (q0 := 8) rfl rfl, q_ps hPc hK hDc⟩ rfl rfl hl.1 rfl (lv_room (Nat.le_of_ble_eq_true rfl)) dX10_addJoin_38 ⟨Nat.zero_le _, Nat.zero_le _⟩) (fun H locs hP hD hS => ?_)
  refine lv_lstore (lv' := [(7, .long u_29), (5, .long u_28), (4, .int u_27), (3, .int u_26), (0, .ref (a0 0)), (1, .int p1), (2, .int p2)]) hx hb dX10_addJoin_41 hl (by decide) rfl (fun ls hl => ?_)
  refine lv_iload_n hx hb dX10_addJoin_43 rfl (lv_at hl 3 rfl) ?_
  refine lv_iload hx hb dX10_addJoin_44 (lv_at hl 2 rfl) ?_
  refine lv_icmp_eq (tgt := 63) hx hb dX10_addJoin_46 (by decide) (fun c_30 => ?_) (fun c_30 => ?_)
  · have hF := it_t hF c_30
    obtain rfl := Option.some.inj hF
    exact W.vret hx hb hr (fun t ht hW => ⟨⟨(), rfl, trivial, by rw [ht]; exact hP, va_K.moved hW.alike hK, hD⟩, hS.F ht⟩) hS.2.2 dX10_addJoin_63
  · have hF := it_f hF c_30
    refine lv_lload hx hb dX10_addJoin_49 (lv_at hl 1 rfl) ?_
    refine lv_lconst (v := 0) hx hb dX10_addJoin_51 (by decide) ?_
    refine W.lcmp hx hb dX10_addJoin_52 ?_
    refine lv_if_ne (tgt := 64) hx hb dX10_addJoin_53 (by decide) (fun c_31 => ?_) (fun c_31 => ?_)
    · have hF := it_f hF c_31
      exact j64 v1_3 v1_4 v1_0 v1_1 v1_2 p1 u_26 u_27 u_28 u_29 hF _ _ _ hP hD hS (lv_sub hl [4, 5, 3, 2, 1, 0] rfl)
    · have hF := it_t hF c_31
      refine lv_lload hx hb dX10_addJoin_56 (lv_at hl 0 rfl) ?_
      refine lv_lconst (v := 0) hx hb dX10_addJoin_58 (by decide) ?_
      refine W.lcmp hx hb dX10_addJoin_59 ?_
      refine lv_if_le (tgt := 64) hx hb dX10_addJoin_60 (by decide) (fun c_32 => ?_) (fun c_32 => ?_)
      · have hF := it_t hF c_32
        exact j64 v1_3 v1_4 v1_0 v1_1 v1_2 p1 u_26 u_27 u_28 u_29 hF _ _ _ hP hD hS (lv_sub hl [4, 5, 3, 2, 1, 0] rfl)
      · have hF := it_f hF c_32
        obtain rfl := Option.some.inj hF
        exact W.vret hx hb hr (fun t ht hW => ⟨⟨(), rfl, trivial, by rw [ht]; exact hP, va_K.moved hW.alike hK, hD⟩, hS.F ht⟩) hS.2.2 dX10_addJoin_63

-- StrokeOutliner$Stroke.addCap(III)V
def F_X10_addCap (v0_7 : Int32) (v1_3 : Int32) (v1_4 : Int32) (v1_0 : Nat → Int32) (v1_1 : Nat → Int32) (v1_2 : Nat → Int32) (v3_1 : Nat → Int32) (v3_2 : Nat → Int32) (v3_3 : Nat → Int32) (v3_4 : Nat → Int32) (v3_5 : Nat → Int32) (v3_6 : Nat → Int32) (v3_7 : Nat → Int32) (v3_8 : Nat → Int32) (v3_9 : Nat → Int32) (p1 : Int32) (p2 : Int32) (p3 : Int32) : Option (Int32 × Int32 × (Nat → Int32) × (Nat → Int32) × (Nat → Int32)) :=
  obd (F_X9_xAt v3_1 v3_3 v3_5 p1 p2) (fun u_1 => obd (F_X9_yAt v3_2 v3_4 v3_5 p1 p2) (fun u_2 => if v0_7 = 1 then obd (F_X10_addDisc v1_3 v1_4 v1_0 v1_1 v1_2 u_1 u_2) (fun u_16 => some (u_16.1, u_16.2.1, u_16.2.2.1, u_16.2.2.2.1, u_16.2.2.2.2)) else if v0_7 = 2 then obd (F_X9_normalX v3_6 p1) (fun u_5 => obd (F_X9_normalY v3_7 p1) (fun u_6 => obd (F_X9_alongX v3_8 p1) (fun u_7 => lt (p3 * u_7) (fun y_8 => obd (F_X9_alongY v3_9 p1) (fun u_9 => lt (p3 * u_9) (fun y_10 => obd (F_X7_start v1_3 v1_4 v1_0 4) (fun u_11 => obd (F_X7_addCorner u_11.1 u_11.2.1 v1_1 v1_2 (u_1 + u_5) (u_2 + u_6)) (fun u_12 => obd (F_X7_addCorner u_11.1 u_12.1 u_12.2.1 u_12.2.2 ((u_1 + u_5) + y_8) ((u_2 + u_6) + y_10)) (fun u_13 => obd (F_X7_addCorner u_11.1 u_13.1 u_13.2.1 u_13.2.2 ((u_1 - u_5) + y_8) ((u_2 - u_6) + y_10)) (fun u_14 => obd (F_X7_addCorner u_11.1 u_14.1 u_14.2.1 u_14.2.2 (u_1 - u_5) (u_2 - u_6)) (fun u_15 => some (u_11.1, u_15.1, u_11.2.2, u_15.2.1, u_15.2.2)))))))))))) else some (v1_3, v1_4, v1_0, v1_1, v1_2)))
abbrev wd_X10_addCap (cI : ClassId) (a0 : Nat → Nat) (a1 : Nat → Nat) (a2 : Nat → Nat) (a3 : Nat → Nat) (v0_3 : Int32) (v0_4 : Int32) (v0_5 : Int32) (v0_6 : Int32) (v0_7 : Int32) (v1_3 : Int32) (v1_4 : Int32) (v1_5 : Int32) (v1_0 : Nat → Int32) (v1_1 : Nat → Int32) (v1_2 : Nat → Int32) (v3_10 : Int32) (v3_1 : Nat → Int32) (v3_2 : Nat → Int32) (v3_3 : Nat → Int32) (v3_4 : Nat → Int32) (v3_5 : Nat → Int32) (v3_6 : Nat → Int32) (v3_7 : Nat → Int32) (v3_8 : Nat → Int32) (v3_9 : Nat → Int32) : va_W := [(a0 0, .inr (9, [.ref (a3 0), .ref (a2 0), .ref (a1 0), .int v0_3, .int v0_4, .int v0_5, .int v0_6, .int v0_7])), (a1 0, .inr (6, [.ref (a1 1), .ref (a1 2), .ref (a1 3), .int v1_3, .int v1_4, .int v1_5])), (a1 1, .inl (cI, 2800, .inl v1_0)), (a1 2, .inl (cI, 11200, .inl v1_1)), (a1 3, .inl (cI, 11200, .inl v1_2)), (a3 0, .inr (8, [.ref (a3 1), .ref (a3 2), .ref (a3 3), .ref (a3 4), .ref (a3 5), .ref (a3 6), .ref (a3 7), .ref (a3 8), .ref (a3 9), .ref (a3 10), .int v3_10])), (a3 2, .inl (cI, 32, .inl v3_1)), (a3 3, .inl (cI, 32, .inl v3_2)), (a3 4, .inl (cI, 32, .inl v3_3)), (a3 5, .inl (cI, 32, .inl v3_4)), (a3 6, .inl (cI, 32, .inl v3_5)), (a3 7, .inl (cI, 32, .inl v3_6)), (a3 8, .inl (cI, 32, .inl v3_7)), (a3 9, .inl (cI, 32, .inl v3_8)), (a3 10, .inl (cI, 32, .inl v3_9))]
abbrev wz_X10_addCap : List Cond := .code yX10_addCap cX10_addCap 10 none :: wALL
abbrev rm_X10_addCap : Room := { frames := 2, cells := 0, slots := 0, locals := 53 }
abbrev Q_X10_addCap (dC : Nat → ClassId) (dI : Nat → Nat → Nat) (cI : ClassId) (a0 : Nat → Nat) (a1 : Nat → Nat) (a2 : Nat → Nat) (a3 : Nat → Nat) (v0_3 : Int32) (v0_4 : Int32) (v0_5 : Int32) (v0_6 : Int32) (v0_7 : Int32) (v1_5 : Int32) (v3_10 : Int32) (v3_1 : Nat → Int32) (v3_2 : Nat → Int32) (v3_3 : Nat → Int32) (v3_4 : Nat → Int32) (v3_5 : Nat → Int32) (v3_6 : Nat → Int32) (v3_7 : Nat → Int32) (v3_8 : Nat → Int32) (v3_9 : Nat → Int32) (u : (Int32 × Int32 × (Nat → Int32) × (Nat → Int32) × (Nat → Int32))) (A : Nat → Prop) : Array Value → State → Outcome → State → Prop := va_Qv (fun (_ : Unit) => True) (fun _ => q_at dC dI cI A (wd_X10_addCap cI a0 a1 a2 a3 v0_3 v0_4 v0_5 v0_6 v0_7 u.1 u.2.1 v1_5 u.2.2.1 u.2.2.2.1 u.2.2.2.2 v3_10 v3_1 v3_2 v3_3 v3_4 v3_5 v3_6 v3_7 v3_8 v3_9)) A
set_option maxHeartbeats 4000000 in
set_option maxRecDepth 100000 in
theorem c_X10_addCap (l : Launch) (dC : Nat → ClassId) (dI : Nat → Nat → Nat) (cI : ClassId) (sz : Nat) (a0 : Nat → Nat) (a1 : Nat → Nat) (a2 : Nat → Nat) (a3 : Nat → Nat) (v0_3 : Int32) (v0_4 : Int32) (v0_5 : Int32) (v0_6 : Int32) (v0_7 : Int32) (v1_3 : Int32) (v1_4 : Int32) (v1_5 : Int32) (v1_0 : Nat → Int32) (v1_1 : Nat → Int32) (v1_2 : Nat → Int32) (v3_10 : Int32) (v3_1 : Nat → Int32) (v3_2 : Nat → Int32) (v3_3 : Nat → Int32) (v3_4 : Nat → Int32) (v3_5 : Nat → Int32) (v3_6 : Nat → Int32) (v3_7 : Nat → Int32) (v3_8 : Nat → Int32) (v3_9 : Nat → Int32) (p1 : Int32) (p2 : Int32) (p3 : Int32) (u : (Int32 × Int32 × (Nat → Int32) × (Nat → Int32) × (Nat → Int32))) (hF : F_X10_addCap v0_7 v1_3 v1_4 v1_0 v1_1 v1_2 v3_1 v3_2 v3_3 v3_4 v3_5 v3_6 v3_7 v3_8 v3_9 p1 p2 p3 = some u) : Met l yX10_addCap wz_X10_addCap rm_X10_addCap (va_Pc [.ref (a0 0), .int p1, .int p2, .int p3] (q_pre dC dI cI (wd_X10_addCap cI a0 a1 a2 a3 v0_3 v0_4 v0_5 v0_6 v0_7 v1_3 v1_4 v1_5 v1_0 v1_1 v1_2 v3_10 v3_1 v3_2 v3_3 v3_4 v3_5 v3_6 v3_7 v3_8 v3_9) sz)) (Q_X10_addCap dC dI cI a0 a1 a2 a3 v0_3 v0_4 v0_5 v0_6 v0_7 v1_5 v3_10 v3_1 v3_2 v3_3 v3_4 v3_5 v3_6 v3_7 v3_8 v3_9 u (va_A (wd_X10_addCap cI a0 a1 a2 a3 v0_3 v0_4 v0_5 v0_6 v0_7 v1_3 v1_4 v1_5 v1_0 v1_1 v1_2 v3_10 v3_1 v3_2 v3_3 v3_4 v3_5 v3_6 v3_7 v3_8 v3_9) sz)) 0 0 (va_A (wd_X10_addCap cI a0 a1 a2 a3 v0_3 v0_4 v0_5 v0_6 v0_7 v1_3 v1_4 v1_5 v1_0 v1_1 v1_2 v3_10 v3_1 v3_2 v3_3 v3_4 v3_5 v3_6 v3_7 v3_8 v3_9) sz) := by
  refine Met.ofW (cc := cX10_addCap) (maxL := 10) (ret := none) (by decide) rfl ?_
  intro p e s m args below meth c s₁ B hml hv
  obtain ⟨rfl, hsz, hP, hK, hD0⟩ := hv
  have hx := B.exec
  have hb := B.bytes
  have hr := B.returns
  have hts := atoms_spec (ws := wz_X10_addCap) B.pre
  have hta := wz_tl hts
  have hown : s.vm.findClass RX10 = some m.cls := findClass_of_methodNamed B.named
  have hlocks := B.notSynchronized
  subst hsz
  have hD := hD0.self (sz := s.heap.size)
  generalize hAe : va_A (wd_X10_addCap cI a0 a1 a2 a3 v0_3 v0_4 v0_5 v0_6 v0_7 v1_3 v1_4 v1_5 v1_0 v1_1 v1_2 v3_10 v3_1 v3_2 v3_3 v3_4 v3_5 v3_6 v3_7 v3_8 v3_9) s.heap.size = A at hD ⊢
  have hA : ∀ q : Nat, s.heap.size ≤ q → A q := fun q h => by rw [← hAe]; exact Or.inr h
  have hS : va_S A s.heap s.heap [] := va_S.rf
  have hP : va_P (dC, dI) vwCl (wd_X10_addCap cI a0 a1 a2 a3 v0_3 v0_4 v0_5 v0_6 v0_7 v1_3 v1_4 v1_5 v1_0 v1_1 v1_2 v3_10 v3_1 v3_2 v3_3 v3_4 v3_5 v3_6 v3_7 v3_8 v3_9) s.heap := hP
  have hl := lv_entry ([.ref (a0 0), .int p1, .int p2, .int p3]) (n := 10) (Nat.le_of_ble_eq_true rfl)
  rw [lg_entry_eq]
  generalize (lg_sl ([.ref (a0 0), .int p1, .int p2, .int p3]) ++ List.replicate (10 - (lg_sl ([.ref (a0 0), .int p1, .int p2, .int p3])).length) Slot.unset).toArray = ls at hl ⊢
  have hl : lv_has ls 10 [(0, .ref (a0 0)), (1, .int p1), (2, .int p2), (3, .int p3)] := hl
  obtain ⟨H, hHe⟩ : ∃ H, H = s.heap := ⟨_, rfl⟩
  have hS : va_S A s.heap H [] := by rw [hHe]; exact hS
  have hP : va_P (dC, dI) vwCl (wd_X10_addCap cI a0 a1 a2 a3 v0_3 v0_4 v0_5 v0_6 v0_7 v1_3 v1_4 v1_5 v1_0 v1_1 v1_2 v3_10 v3_1 v3_2 v3_3 v3_4 v3_5 v3_6 v3_7 v3_8 v3_9) H := by rw [hHe]; exact hP
  rw [← hHe]
  unfold F_X10_addCap at hF
  refine lv_aload_n hx hb dX10_addCap_0 rfl (lv_at hl 0 rfl) ?_
  refine va_get (D := (dC, dI)) (ci := 9) (v := .ref (a3 0)) (C := RX10) (T := TX10) (N := 8) hx hb hta uw_X10 hown hK hP 0 rfl rfl 0 (by decide) (hta _ mA53) (fun _ h9 => h9) rfl dX10_addCap_1 ?_
  refine lv_iload_n hx hb dX10_addCap_4 rfl (lv_at hl 1 rfl) ?_
  refine lv_iload_n hx hb dX10_addCap_5 rfl (lv_at hl 2 rfl) ?_
  obtain ⟨u_1, hu_1, hF⟩ := obd_some hF
  have hPc := hP.sub (ws' := (wd_X9_xAt cI a3 v3_10 v3_1 v3_3 v3_5)) [5, 6, 8, 10] rfl
  have hDc := hD.sub (ws' := (wd_X9_xAt cI a3 v3_10 v3_1 v3_3 v3_5)) [5, 6, 8, 10] rfl rfl
  refine q_calli (wc := (wd_X9_xAt cI a3 v3_10 v3_1 v3_3 v3_5)) (w1 := (wd_X9_xAt cI a3 v3_10 v3_1 v3_3 v3_5)) (ws' := (wd_X10_addCap cI a0 a1 a2 a3 v0_3 v0_4 v0_5 v0_6 v0_7 v1_3 v1_4 v1_5 v1_0 v1_1 v1_2 v3_10 v3_1 v3_2 v3_3 v3_4 v3_5 v3_6 v3_7 v3_8 v3_9)) hP hD hS hA [5, 6, 8, 10] [0, 1, 2, 3, 4, 7, 9, 11, 12, 13, 14] [0, 1, 2, 3, 4, 11, 12, 5, 13, 6, 14, 7, 8, 9, 10] rfl rfl rfl (by decide) rfl rfl (va_runV (As := [.int p1, .int p2]) (rest := []) ⟨hx, hb, hml, hown, hta⟩ (c_X9_xAt l dC dI cI H.size a3 v3_10 v3_1 v3_3 v3_5 p1 p2 u_1 hu_1) (cwV 2 hta (ga_V mA519 mA340 mA341 mA52 mA342) rfl rfl rfl (by decide +kernel) ⟨Nat.le_of_ble_eq_true rfl, Nat.le_of_ble_eq_true rfl⟩) ⟨q_fb, va_recv hK hP (ci := 8) (q0 := 5) rfl rfl, q_ps hPc hK hDc⟩ rfl rfl hl.1 rfl (lv_room (Nat.le_of_ble_eq_true rfl)) dX10_addCap_6 ⟨Nat.zero_le _, Nat.zero_le _⟩) (fun H locs hP hD hS => ?_)
  refine lv_istore (lv' := [(4, .int u_1), (0, .ref (a0 0)), (1, .int p1), (2, .int p2), (3, .int p3)]) hx hb dX10_addCap_9 hl (by decide) rfl (fun ls hl => ?_)
  refine lv_aload_n hx hb dX10_addCap_11 rfl (lv_at hl 1 rfl) ?_
  refine va_get (D := (dC, dI)) (ci := 9) (v := .ref (a3 0)) (C := RX10) (T := TX10) (N := 8) hx hb hta uw_X10 hown hK hP 0 rfl rfl 0 (by decide) (hta _ mA53) (fun _ h9 => h9) rfl dX10_addCap_12 ?_
  refine lv_iload_n hx hb dX10_addCap_15 rfl (lv_at hl 2 rfl) ?_
  refine lv_iload_n hx hb dX10_addCap_16 rfl (lv_at hl 3 rfl) ?_
  obtain ⟨u_2, hu_2, hF⟩ := obd_some hF
  have hPc := hP.sub (ws' := (wd_X9_yAt cI a3 v3_10 v3_2 v3_4 v3_5)) [5, 7, 9, 10] rfl
  have hDc := hD.sub (ws' := (wd_X9_yAt cI a3 v3_10 v3_2 v3_4 v3_5)) [5, 7, 9, 10] rfl rfl
  refine q_calli (wc := (wd_X9_yAt cI a3 v3_10 v3_2 v3_4 v3_5)) (w1 := (wd_X9_yAt cI a3 v3_10 v3_2 v3_4 v3_5)) (ws' := (wd_X10_addCap cI a0 a1 a2 a3 v0_3 v0_4 v0_5 v0_6 v0_7 v1_3 v1_4 v1_5 v1_0 v1_1 v1_2 v3_10 v3_1 v3_2 v3_3 v3_4 v3_5 v3_6 v3_7 v3_8 v3_9)) hP hD hS hA [5, 7, 9, 10] [0, 1, 2, 3, 4, 6, 8, 11, 12, 13, 14] [0, 1, 2, 3, 4, 11, 5, 12, 6, 13, 14, 7, 8, 9, 10] rfl rfl rfl (by decide) rfl rfl (va_runV (As := [.int p1, .int p2]) (rest := []) ⟨hx, hb, hml, hown, hta⟩ (c_X9_yAt l dC dI cI H.size a3 v3_10 v3_2 v3_4 v3_5 p1 p2 u_2 hu_2) (cwV 2 hta (ga_V mA520 mA335 mA336 mA52 mA337) rfl rfl rfl (by decide +kernel) ⟨Nat.le_of_ble_eq_true rfl, Nat.le_of_ble_eq_true rfl⟩) ⟨q_fb, va_recv hK hP (ci := 8) (q0 := 5) rfl rfl, q_ps hPc hK hDc⟩ rfl rfl hl.1 rfl (lv_room (Nat.le_of_ble_eq_true rfl)) dX10_addCap_17 ⟨Nat.zero_le _, Nat.zero_le _⟩) (fun H locs hP hD hS => ?_)
  refine lv_istore (lv' := [(5, .int u_2), (4, .int u_1), (0, .ref (a0 0)), (1, .int p1), (2, .int p2), (3, .int p3)]) hx hb dX10_addCap_20 hl (by decide) rfl (fun ls hl => ?_)
  refine lv_aload_n hx hb dX10_addCap_22 rfl (lv_at hl 2 rfl) ?_
  refine va_get (D := (dC, dI)) (ci := 9) (v := .int v0_7) (C := RX10) (T := TX10) (N := 8) hx hb hta uw_X10 hown hK hP 0 rfl rfl 7 (by decide) (hta _ mA468) (fun _ h9 => h9) rfl dX10_addCap_23 ?_
  refine lv_iconst (v := 1) hx hb dX10_addCap_26 (by decide) ?_
  refine lv_icmp_ne (tgt := 41) hx hb dX10_addCap_27 (by decide) (fun c_3 => ?_) (fun c_3 => ?_)
  · have hF := it_f hF c_3
    refine lv_aload_n hx hb dX10_addCap_41 rfl (lv_at hl 2 rfl) ?_
    refine va_get (D := (dC, dI)) (ci := 9) (v := .int v0_7) (C := RX10) (T := TX10) (N := 8) hx hb hta uw_X10 hown hK hP 0 rfl rfl 7 (by decide) (hta _ mA468) (fun _ h9 => h9) rfl dX10_addCap_42 ?_
    refine lv_iconst (v := 2) hx hb dX10_addCap_45 (by decide) ?_
    refine lv_icmp_ne (tgt := 181) hx hb dX10_addCap_46 (by decide) (fun c_4 => ?_) (fun c_4 => ?_)
    · have hF := it_f hF c_4
      obtain rfl := Option.some.inj hF
      exact W.vret hx hb hr (fun t ht hW => ⟨⟨(), rfl, trivial, by rw [ht]; exact hP, va_K.moved hW.alike hK, hD⟩, hS.F ht⟩) hS.2.2 dX10_addCap_181
    · have hF := it_t hF c_4
      refine lv_aload_n hx hb dX10_addCap_49 rfl (lv_at hl 2 rfl) ?_
      refine va_get (D := (dC, dI)) (ci := 9) (v := .ref (a3 0)) (C := RX10) (T := TX10) (N := 8) hx hb hta uw_X10 hown hK hP 0 rfl rfl 0 (by decide) (hta _ mA53) (fun _ h9 => h9) rfl dX10_addCap_50 ?_
      refine lv_iload_n hx hb dX10_addCap_53 rfl (lv_at hl 3 rfl) ?_
      obtain ⟨u_5, hu_5, hF⟩ := obd_some hF
      have hPc := hP.sub (ws' := (wd_X9_normalX cI a3 v3_10 v3_6)) [5, 11] rfl
      have hDc := hD.sub (ws' := (wd_X9_normalX cI a3 v3_10 v3_6)) [5, 11] rfl rfl
      refine q_calli (wc := (wd_X9_normalX cI a3 v3_10 v3_6)) (w1 := (wd_X9_normalX cI a3 v3_10 v3_6)) (ws' := (wd_X10_addCap cI a0 a1 a2 a3 v0_3 v0_4 v0_5 v0_6 v0_7 v1_3 v1_4 v1_5 v1_0 v1_1 v1_2 v3_10 v3_1 v3_2 v3_3 v3_4 v3_5 v3_6 v3_7 v3_8 v3_9)) hP hD hS hA [5, 11] [0, 1, 2, 3, 4, 6, 7, 8, 9, 10, 12, 13, 14] [0, 1, 2, 3, 4, 13, 5, 6, 7, 8, 9, 14, 10, 11, 12] rfl rfl rfl (by decide) rfl rfl (va_runV (As := [.int p1]) (rest := []) ⟨hx, hb, hml, hown, hta⟩ (c_X9_normalX l dC dI cI H.size a3 v3_10 v3_6 p1 u_5 hu_5) (cwV 1 hta (ga_V mA522 mA523 mA524 mA52 mA525) rfl rfl rfl (by decide +kernel) ⟨Nat.le_of_ble_eq_true rfl, Nat.le_of_ble_eq_true rfl⟩) ⟨q_fb, va_recv hK hP (ci := 8) (q0 := 5) rfl rfl, q_ps hPc hK hDc⟩ rfl rfl hl.1 rfl (lv_room (Nat.le_of_ble_eq_true rfl)) dX10_addCap_54 ⟨Nat.zero_le _, Nat.zero_le _⟩) (fun H locs hP hD hS => ?_)
      refine lv_istore (lv' := [(6, .int u_5), (5, .int u_2), (4, .int u_1), (0, .ref (a0 0)), (1, .int p1), (2, .int p2), (3, .int p3)]) hx hb dX10_addCap_57 hl (by decide) rfl (fun ls hl => ?_)
      refine lv_aload_n hx hb dX10_addCap_59 rfl (lv_at hl 3 rfl) ?_
      refine va_get (D := (dC, dI)) (ci := 9) (v := .ref (a3 0)) (C := RX10) (T := TX10) (N := 8) hx hb hta uw_X10 hown hK hP 0 rfl rfl 0 (by decide) (hta _ mA53) (fun _ h9 => h9) rfl dX10_addCap_60 ?_
      refine lv_iload_n hx hb dX10_addCap_63 rfl (lv_at hl 4 rfl) ?_
      obtain ⟨u_6, hu_6, hF⟩ := obd_some hF
      have hPc := hP.sub (ws' := (wd_X9_normalY cI a3 v3_10 v3_7)) [5, 12] rfl
      have hDc := hD.sub (ws' := (wd_X9_normalY cI a3 v3_10 v3_7)) [5, 12] rfl rfl
      refine q_calli (wc := (wd_X9_normalY cI a3 v3_10 v3_7)) (w1 := (wd_X9_normalY cI a3 v3_10 v3_7)) (ws' := (wd_X10_addCap cI a0 a1 a2 a3 v0_3 v0_4 v0_5 v0_6 v0_7 v1_3 v1_4 v1_5 v1_0 v1_1 v1_2 v3_10 v3_1 v3_2 v3_3 v3_4 v3_5 v3_6 v3_7 v3_8 v3_9)) hP hD hS hA [5, 12] [0, 1, 2, 3, 4, 6, 7, 8, 9, 10, 11, 13, 14] [0, 1, 2, 3, 4, 13, 5, 6, 7, 8, 9, 10, 14, 11, 12] rfl rfl rfl (by decide) rfl rfl (va_runV (As := [.int p1]) (rest := []) ⟨hx, hb, hml, hown, hta⟩ (c_X9_normalY l dC dI cI H.size a3 v3_10 v3_7 p1 u_6 hu_6) (cwV 1 hta (ga_V mA526 mA527 mA528 mA52 mA529) rfl rfl rfl (by decide +kernel) ⟨Nat.le_of_ble_eq_true rfl, Nat.le_of_ble_eq_true rfl⟩) ⟨q_fb, va_recv hK hP (ci := 8) (q0 := 5) rfl rfl, q_ps hPc hK hDc⟩ rfl rfl hl.1 rfl (lv_room (Nat.le_of_ble_eq_true rfl)) dX10_addCap_64 ⟨Nat.zero_le _, Nat.zero_le _⟩) (fun H locs hP hD hS => ?_)
      refine lv_istore (lv' := [(7, .int u_6), (6, .int u_5), (5, .int u_2), (4, .int u_1), (0, .ref (a0 0)), (1, .int p1), (2, .int p2), (3, .int p3)]) hx hb dX10_addCap_67 hl (by decide) rfl (fun ls hl => ?_)
      refine lv_iload_n hx hb dX10_addCap_69 rfl (lv_at hl 7 rfl) ?_
      refine lv_aload_n hx hb dX10_addCap_70 rfl (lv_at hl 4 rfl) ?_
      refine va_get (D := (dC, dI)) (ci := 9) (v := .ref (a3 0)) (C := RX10) (T := TX10) (N := 8) hx hb hta uw_X10 hown hK hP 0 rfl rfl 0 (by decide) (hta _ mA53) (fun _ h9 => h9) rfl dX10_addCap_71 ?_
      refine lv_iload_n hx hb dX10_addCap_74 rfl (lv_at hl 5 rfl) ?_
      obtain ⟨u_7, hu_7, hF⟩ := obd_some hF
      have hPc := hP.sub (ws' := (wd_X9_alongX cI a3 v3_10 v3_8)) [5, 13] rfl
      have hDc := hD.sub (ws' := (wd_X9_alongX cI a3 v3_10 v3_8)) [5, 13] rfl rfl
      refine q_calli (wc := (wd_X9_alongX cI a3 v3_10 v3_8)) (w1 := (wd_X9_alongX cI a3 v3_10 v3_8)) (ws' := (wd_X10_addCap cI a0 a1 a2 a3 v0_3 v0_4 v0_5 v0_6 v0_7 v1_3 v1_4 v1_5 v1_0 v1_1 v1_2 v3_10 v3_1 v3_2 v3_3 v3_4 v3_5 v3_6 v3_7 v3_8 v3_9)) hP hD hS hA [5, 13] [0, 1, 2, 3, 4, 6, 7, 8, 9, 10, 11, 12, 14] [0, 1, 2, 3, 4, 13, 5, 6, 7, 8, 9, 10, 11, 14, 12] rfl rfl rfl (by decide) rfl rfl (va_runV (As := [.int p1]) (rest := [.int p3]) ⟨hx, hb, hml, hown, hta⟩ (c_X9_alongX l dC dI cI H.size a3 v3_10 v3_8 p1 u_7 hu_7) (cwV 1 hta (ga_V mA556 mA557 mA558 mA52 mA559) rfl rfl rfl (by decide +kernel) ⟨Nat.le_of_ble_eq_true rfl, Nat.le_of_ble_eq_true rfl⟩) ⟨q_fb, va_recv hK hP (ci := 8) (q0 := 5) rfl rfl, q_ps hPc hK hDc⟩ rfl rfl hl.1 rfl (lv_room (Nat.le_of_ble_eq_true rfl)) dX10_addCap_75 ⟨Nat.zero_le _, Nat.zero_le _⟩) (fun H locs hP hD hS => ?_)
      refine lv_imul hx hb dX10_addCap_78 ?_
      obtain ⟨y_8, ey_8, hF⟩ := lt_some hF
      refine lv_eqi ey_8 ?_
      refine lv_istore (lv' := [(8, .int y_8), (7, .int u_6), (6, .int u_5), (5, .int u_2), (4, .int u_1), (0, .ref (a0 0)), (1, .int p1), (2, .int p2), (3, .int p3)]) hx hb dX10_addCap_79 hl (by decide) rfl (fun ls hl => ?_)
      refine lv_iload_n hx hb dX10_addCap_81 rfl (lv_at hl 8 rfl) ?_
      refine lv_aload_n hx hb dX10_addCap_82 rfl (lv_at hl 5 rfl) ?_
      refine va_get (D := (dC, dI)) (ci := 9) (v := .ref (a3 0)) (C := RX10) (T := TX10) (N := 8) hx hb hta uw_X10 hown hK hP 0 rfl rfl 0 (by decide) (hta _ mA53) (fun _ h9 => h9) rfl dX10_addCap_83 ?_
      refine lv_iload_n hx hb dX10_addCap_86 rfl (lv_at hl 6 rfl) ?_
      obtain ⟨u_9, hu_9, hF⟩ := obd_some hF
      have hPc := hP.sub (ws' := (wd_X9_alongY cI a3 v3_10 v3_9)) [5, 14] rfl
      have hDc := hD.sub (ws' := (wd_X9_alongY cI a3 v3_10 v3_9)) [5, 14] rfl rfl
      refine q_calli (wc := (wd_X9_alongY cI a3 v3_10 v3_9)) (w1 := (wd_X9_alongY cI a3 v3_10 v3_9)) (ws' := (wd_X10_addCap cI a0 a1 a2 a3 v0_3 v0_4 v0_5 v0_6 v0_7 v1_3 v1_4 v1_5 v1_0 v1_1 v1_2 v3_10 v3_1 v3_2 v3_3 v3_4 v3_5 v3_6 v3_7 v3_8 v3_9)) hP hD hS hA [5, 14] [0, 1, 2, 3, 4, 6, 7, 8, 9, 10, 11, 12, 13] [0, 1, 2, 3, 4, 13, 5, 6, 7, 8, 9, 10, 11, 12, 14] rfl rfl rfl (by decide) rfl rfl (va_runV (As := [.int p1]) (rest := [.int p3]) ⟨hx, hb, hml, hown, hta⟩ (c_X9_alongY l dC dI cI H.size a3 v3_10 v3_9 p1 u_9 hu_9) (cwV 1 hta (ga_V mA560 mA561 mA562 mA52 mA563) rfl rfl rfl (by decide +kernel) ⟨Nat.le_of_ble_eq_true rfl, Nat.le_of_ble_eq_true rfl⟩) ⟨q_fb, va_recv hK hP (ci := 8) (q0 := 5) rfl rfl, q_ps hPc hK hDc⟩ rfl rfl hl.1 rfl (lv_room (Nat.le_of_ble_eq_true rfl)) dX10_addCap_87 ⟨Nat.zero_le _, Nat.zero_le _⟩) (fun H locs hP hD hS => ?_)
      refine lv_imul hx hb dX10_addCap_90 ?_
      obtain ⟨y_10, ey_10, hF⟩ := lt_some hF
      refine lv_eqi ey_10 ?_
      refine lv_istore (lv' := [(9, .int y_10), (8, .int y_8), (7, .int u_6), (6, .int u_5), (5, .int u_2), (4, .int u_1), (0, .ref (a0 0)), (1, .int p1), (2, .int p2), (3, .int p3)]) hx hb dX10_addCap_91 hl (by decide) rfl (fun ls hl => ?_)
      refine lv_aload_n hx hb dX10_addCap_93 rfl (lv_at hl 6 rfl) ?_
      refine va_get (D := (dC, dI)) (ci := 9) (v := .ref (a1 0)) (C := RX10) (T := TX10) (N := 8) hx hb hta uw_X10 hown hK hP 0 rfl rfl 2 (by decide) (hta _ mA61) (fun _ h9 => h9) rfl dX10_addCap_94 ?_
      refine lv_iconst (v := 4) hx hb dX10_addCap_97 (by decide) ?_
      obtain ⟨u_11, hu_11, hF⟩ := obd_some hF
      have hPc := hP.sub (ws' := (wd_X7_start cI a1 v1_3 v1_4 v1_5 v1_0)) [1, 2] rfl
      have hDc := hD.sub (ws' := (wd_X7_start cI a1 v1_3 v1_4 v1_5 v1_0)) [1, 2] rfl rfl
      refine q_callv (wc := (wd_X7_start cI a1 v1_3 v1_4 v1_5 v1_0)) (w1 := (wd_X7_start cI a1 u_11.1 u_11.2.1 v1_5 u_11.2.2)) (ws' := (wd_X10_addCap cI a0 a1 a2 a3 v0_3 v0_4 v0_5 v0_6 v0_7 u_11.1 u_11.2.1 v1_5 u_11.2.2 v1_1 v1_2 v3_10 v3_1 v3_2 v3_3 v3_4 v3_5 v3_6 v3_7 v3_8 v3_9)) hP hD hS hA [1, 2] [0, 3, 4, 5, 6, 7, 8, 9, 10, 11, 12, 13, 14] [0, 13, 14, 1, 2, 3, 4, 5, 6, 7, 8, 9, 10, 11, 12] rfl rfl rfl (by decide) rfl rfl (va_runV (As := [.int 4]) (rest := []) ⟨hx, hb, hml, hown, hta⟩ (c_X7_start l dC dI cI H.size a1 v1_3 v1_4 v1_5 v1_0 4 u_11 hu_11) (cwV 1 hta (ga_V mA489 mA490 mA491 mA60 mA492) rfl rfl rfl (by decide +kernel) ⟨Nat.le_of_ble_eq_true rfl, Nat.le_of_ble_eq_true rfl⟩) ⟨q_fb, va_recv hK hP (ci := 6) (q0 := 1) rfl rfl, q_ps hPc hK hDc⟩ rfl rfl hl.1 rfl (lv_room (Nat.le_of_ble_eq_true rfl)) dX10_addCap_98 ⟨Nat.zero_le _, Nat.zero_le _⟩) (fun H locs hP hD hS => ?_)
      refine lv_aload_n hx hb dX10_addCap_101 rfl (lv_at hl 6 rfl) ?_
      refine va_get (D := (dC, dI)) (ci := 9) (v := .ref (a1 0)) (C := RX10) (T := TX10) (N := 8) hx hb hta uw_X10 hown hK hP 0 rfl rfl 2 (by decide) (hta _ mA61) (fun _ h9 => h9) rfl dX10_addCap_102 ?_
      refine lv_iload hx hb dX10_addCap_105 (lv_at hl 5 rfl) ?_
      refine lv_iload hx hb dX10_addCap_107 (lv_at hl 3 rfl) ?_
      refine lv_iadd hx hb dX10_addCap_109 ?_
      refine lv_iload hx hb dX10_addCap_110 (lv_at hl 4 rfl) ?_
      refine lv_iload hx hb dX10_addCap_112 (lv_at hl 2 rfl) ?_
      refine lv_iadd hx hb dX10_addCap_114 ?_
      obtain ⟨u_12, hu_12, hF⟩ := obd_some hF
      have hPc := hP.sub (ws' := (wd_X7_addCorner cI a1 u_11.1 u_11.2.1 v1_5 v1_1 v1_2)) [1, 3, 4] rfl
      have hDc := hD.sub (ws' := (wd_X7_addCorner cI a1 u_11.1 u_11.2.1 v1_5 v1_1 v1_2)) [1, 3, 4] rfl rfl
      refine q_callv (wc := (wd_X7_addCorner cI a1 u_11.1 u_11.2.1 v1_5 v1_1 v1_2)) (w1 := (wd_X7_addCorner cI a1 u_11.1 u_12.1 v1_5 u_12.2.1 u_12.2.2)) (ws' := (wd_X10_addCap cI a0 a1 a2 a3 v0_3 v0_4 v0_5 v0_6 v0_7 u_11.1 u_12.1 v1_5 u_11.2.2 u_12.2.1 u_12.2.2 v3_10 v3_1 v3_2 v3_3 v3_4 v3_5 v3_6 v3_7 v3_8 v3_9)) hP hD hS hA [1, 3, 4] [0, 2, 5, 6, 7, 8, 9, 10, 11, 12, 13, 14] [0, 12, 1, 13, 14, 2, 3, 4, 5, 6, 7, 8, 9, 10, 11] rfl rfl rfl (by decide) rfl rfl (va_runV (As := [.int (u_1 + u_5), .int (u_2 + u_6)]) (rest := []) ⟨hx, hb, hml, hown, hta⟩ (c_X7_addCorner l dC dI cI H.size a1 u_11.1 u_11.2.1 v1_5 v1_1 v1_2 (u_1 + u_5) (u_2 + u_6) u_12 hu_12) (cwV 2 hta (ga_V mA494 mA495 mA496 mA60 mA497) rfl rfl rfl (by decide +kernel) ⟨Nat.le_of_ble_eq_true rfl, Nat.le_of_ble_eq_true rfl⟩) ⟨q_fb, va_recv hK hP (ci := 6) (q0 := 1) rfl rfl, q_ps hPc hK hDc⟩ rfl rfl hl.1 rfl (lv_room (Nat.le_of_ble_eq_true rfl)) dX10_addCap_115 ⟨Nat.zero_le _, Nat.zero_le _⟩) (fun H locs hP hD hS => ?_)
      refine lv_aload_n hx hb dX10_addCap_118 rfl (lv_at hl 6 rfl) ?_
      refine va_get (D := (dC, dI)) (ci := 9) (v := .ref (a1 0)) (C := RX10) (T := TX10) (N := 8) hx hb hta uw_X10 hown hK hP 0 rfl rfl 2 (by decide) (hta _ mA61) (fun _ h9 => h9) rfl dX10_addCap_119 ?_
      refine lv_iload hx hb dX10_addCap_122 (lv_at hl 5 rfl) ?_
      refine lv_iload hx hb dX10_addCap_124 (lv_at hl 3 rfl) ?_
      refine lv_iadd hx hb dX10_addCap_126 ?_
      refine lv_iload hx hb dX10_addCap_127 (lv_at hl 1 rfl) ?_
      refine lv_iadd hx hb dX10_addCap_129 ?_
      refine lv_iload hx hb dX10_addCap_130 (lv_at hl 4 rfl) ?_
      refine lv_iload hx hb dX10_addCap_132 (lv_at hl 2 rfl) ?_
      refine lv_iadd hx hb dX10_addCap_134 ?_
      refine lv_iload hx hb dX10_addCap_135 (lv_at hl 0 rfl) ?_
      refine lv_iadd hx hb dX10_addCap_137 ?_
      obtain ⟨u_13, hu_13, hF⟩ := obd_some hF
      have hPc := hP.sub (ws' := (wd_X7_addCorner cI a1 u_11.1 u_12.1 v1_5 u_12.2.1 u_12.2.2)) [1, 3, 4] rfl
      have hDc := hD.sub (ws' := (wd_X7_addCorner cI a1 u_11.1 u_12.1 v1_5 u_12.2.1 u_12.2.2)) [1, 3, 4] rfl rfl
      refine q_callv (wc := (wd_X7_addCorner cI a1 u_11.1 u_12.1 v1_5 u_12.2.1 u_12.2.2)) (w1 := (wd_X7_addCorner cI a1 u_11.1 u_13.1 v1_5 u_13.2.1 u_13.2.2)) (ws' := (wd_X10_addCap cI a0 a1 a2 a3 v0_3 v0_4 v0_5 v0_6 v0_7 u_11.1 u_13.1 v1_5 u_11.2.2 u_13.2.1 u_13.2.2 v3_10 v3_1 v3_2 v3_3 v3_4 v3_5 v3_6 v3_7 v3_8 v3_9)) hP hD hS hA [1, 3, 4] [0, 2, 5, 6, 7, 8, 9, 10, 11, 12, 13, 14] [0, 12, 1, 13, 14, 2, 3, 4, 5, 6, 7, 8, 9, 10, 11] rfl rfl rfl (by decide) rfl rfl (va_runV (As := [.int ((u_1 + u_5) + y_8), .int ((u_2 + u_6) + y_10)]) (rest := []) ⟨hx, hb, hml, hown, hta⟩ (c_X7_addCorner l dC dI cI H.size a1 u_11.1 u_12.1 v1_5 u_12.2.1 u_12.2.2 ((u_1 + u_5) + y_8) ((u_2 + u_6) + y_10) u_13 hu_13) (cwV 2 hta (ga_V mA494 mA495 mA496 mA60 mA497) rfl rfl rfl (by decide +kernel) ⟨Nat.le_of_ble_eq_true rfl, Nat.le_of_ble_eq_true rfl⟩) ⟨q_fb, va_recv hK hP (ci := 6) (q0 := 1) rfl rfl, q_ps hPc hK hDc⟩ rfl rfl hl.1 rfl (lv_room (Nat.le_of_ble_eq_true rfl)) dX10_addCap_138 ⟨Nat.zero_le _, Nat.zero_le _⟩) (fun H locs hP hD hS => ?_)
      refine lv_aload_n hx hb dX10_addCap_141 rfl (lv_at hl 6 rfl) ?_
      refine va_get (D := (dC, dI)) (ci := 9) (v := .ref (a1 0)) (C := RX10) (T := TX10) (N := 8) hx hb hta uw_X10 hown hK hP 0 rfl rfl 2 (by decide) (hta _ mA61) (fun _ h9 => h9) rfl dX10_addCap_142 ?_
      refine lv_iload hx hb dX10_addCap_145 (lv_at hl 5 rfl) ?_
      refine lv_iload hx hb dX10_addCap_147 (lv_at hl 3 rfl) ?_
      refine lv_isub hx hb dX10_addCap_149 ?_
      refine lv_iload hx hb dX10_addCap_150 (lv_at hl 1 rfl) ?_
      refine lv_iadd hx hb dX10_addCap_152 ?_
      refine lv_iload hx hb dX10_addCap_153 (lv_at hl 4 rfl) ?_
      refine lv_iload hx hb dX10_addCap_155 (lv_at hl 2 rfl) ?_
      refine lv_isub hx hb dX10_addCap_157 ?_
      refine lv_iload hx hb dX10_addCap_158 (lv_at hl 0 rfl) ?_
      refine lv_iadd hx hb dX10_addCap_160 ?_
      obtain ⟨u_14, hu_14, hF⟩ := obd_some hF
      have hPc := hP.sub (ws' := (wd_X7_addCorner cI a1 u_11.1 u_13.1 v1_5 u_13.2.1 u_13.2.2)) [1, 3, 4] rfl
      have hDc := hD.sub (ws' := (wd_X7_addCorner cI a1 u_11.1 u_13.1 v1_5 u_13.2.1 u_13.2.2)) [1, 3, 4] rfl rfl
      refine q_callv (wc := (wd_X7_addCorner cI a1 u_11.1 u_13.1 v1_5 u_13.2.1 u_13.2.2)) (w1 := (wd_X7_addCorner cI a1 u_11.1 u_14.1 v1_5 u_14.2.1 u_14.2.2)) (ws' := (wd_X10_addCap cI a0 a1 a2 a3 v0_3 v0_4 v0_5 v0_6 v0_7 u_11.1 u_14.1 v1_5 u_11.2.2 u_14.2.1 u_14.2.2 v3_10 v3_1 v3_2 v3_3 v3_4 v3_5 v3_6 v3_7 v3_8 v3_9)) hP hD hS hA [1, 3, 4] [0, 2, 5, 6, 7, 8, 9, 10, 11, 12, 13, 14] [0, 12, 1, 13, 14, 2, 3, 4, 5, 6, 7, 8, 9, 10, 11] rfl rfl rfl (by decide) rfl rfl (va_runV (As := [.int ((u_1 - u_5) + y_8), .int ((u_2 - u_6) + y_10)]) (rest := []) ⟨hx, hb, hml, hown, hta⟩ (c_X7_addCorner l dC dI cI H.size a1 u_11.1 u_13.1 v1_5 u_13.2.1 u_13.2.2 ((u_1 - u_5) + y_8) ((u_2 - u_6) + y_10) u_14 hu_14) (cwV 2 hta (ga_V mA494 mA495 mA496 mA60 mA497) rfl rfl rfl (by decide +kernel) ⟨Nat.le_of_ble_eq_true rfl, Nat.le_of_ble_eq_true rfl⟩) ⟨q_fb, va_recv hK hP (ci := 6) (q0 := 1) rfl rfl, q_ps hPc hK hDc⟩ rfl rfl hl.1 rfl (lv_room (Nat.le_of_ble_eq_true rfl)) dX10_addCap_161 ⟨Nat.zero_le _, Nat.zero_le _⟩) (fun H locs hP hD hS => ?_)
      refine lv_aload_n hx hb dX10_addCap_164 rfl (lv_at hl 6 rfl) ?_
      refine va_get (D := (dC, dI)) (ci := 9) (v := .ref (a1 0)) (C := RX10) (T := TX10) (N := 8) hx hb hta uw_X10 hown hK hP 0 rfl rfl 2 (by decide) (hta _ mA61) (fun _ h9 => h9) rfl dX10_addCap_165 ?_
      refine lv_iload hx hb dX10_addCap_168 (lv_at hl 5 rfl) ?_
      refine lv_iload hx hb dX10_addCap_170 (lv_at hl 3 rfl) ?_
      refine lv_isub hx hb dX10_addCap_172 ?_
      refine lv_iload hx hb dX10_addCap_173 (lv_at hl 4 rfl) ?_
      refine lv_iload hx hb dX10_addCap_175 (lv_at hl 2 rfl) ?_
      refine lv_isub hx hb dX10_addCap_177 ?_
      obtain ⟨u_15, hu_15, hF⟩ := obd_some hF
      have hPc := hP.sub (ws' := (wd_X7_addCorner cI a1 u_11.1 u_14.1 v1_5 u_14.2.1 u_14.2.2)) [1, 3, 4] rfl
      have hDc := hD.sub (ws' := (wd_X7_addCorner cI a1 u_11.1 u_14.1 v1_5 u_14.2.1 u_14.2.2)) [1, 3, 4] rfl rfl
      refine q_callv (wc := (wd_X7_addCorner cI a1 u_11.1 u_14.1 v1_5 u_14.2.1 u_14.2.2)) (w1 := (wd_X7_addCorner cI a1 u_11.1 u_15.1 v1_5 u_15.2.1 u_15.2.2)) (ws' := (wd_X10_addCap cI a0 a1 a2 a3 v0_3 v0_4 v0_5 v0_6 v0_7 u_11.1 u_15.1 v1_5 u_11.2.2 u_15.2.1 u_15.2.2 v3_10 v3_1 v3_2 v3_3 v3_4 v3_5 v3_6 v3_7 v3_8 v3_9)) hP hD hS hA [1, 3, 4] [0, 2, 5, 6, 7, 8, 9, 10, 11, 12, 13, 14] [0, 12, 1, 13, 14, 2, 3, 4, 5, 6, 7, 8, 9, 10, 11] rfl rfl rfl (by decide) rfl rfl (va_runV (As := [.int (u_1 - u_5), .int (u_2 - u_6)]) (rest := []) ⟨hx, hb, hml, hown, hta⟩ (c_X7_addCorner l dC dI cI H.size a1 u_11.1 u_14.1 v1_5 u_14.2.1 u_14.2.2 (u_1 - u_5) (u_2 - u_6) u_15 hu_15) (cwV 2 hta (ga_V mA494 mA495 mA496 mA60 mA497) rfl rfl rfl (by decide +kernel) ⟨Nat.le_of_ble_eq_true rfl, Nat.le_of_ble_eq_true rfl⟩) ⟨q_fb, va_recv hK hP (ci := 6) (q0 := 1) rfl rfl, q_ps hPc hK hDc⟩ rfl rfl hl.1 rfl (lv_room (Nat.le_of_ble_eq_true rfl)) dX10_addCap_178 ⟨Nat.zero_le _, Nat.zero_le _⟩) (fun H locs hP hD hS => ?_)
      obtain rfl := Option.some.inj hF
      exact W.vret hx hb hr (fun t ht hW => ⟨⟨(), rfl, trivial, by rw [ht]; exact hP, va_K.moved hW.alike hK, hD⟩, hS.F ht⟩) hS.2.2 dX10_addCap_181
  · have hF := it_t hF c_3
    refine lv_aload_n hx hb dX10_addCap_30 rfl (lv_at hl 2 rfl) ?_
    refine lv_iload hx hb dX10_addCap_31 (lv_at hl 1 rfl) ?_
    refine lv_iload hx hb dX10_addCap_33 (lv_at hl 0 rfl) ?_
    obtain ⟨u_16, hu_16, hF⟩ := obd_some hF
    have hPc := hP.sub (ws' := (wd_X10_addDisc cI a0 a1 a2 a3 v0_3 v0_4 v0_5 v0_6 v0_7 v1_3 v1_4 v1_5 v1_0 v1_1 v1_2)) [0, 1, 2, 3, 4] rfl
    have hDc := hD.sub (ws' := (wd_X10_addDisc cI a0 a1 a2 a3 v0_3 v0_4 v0_5 v0_6 v0_7 v1_3 v1_4 v1_5 v1_0 v1_1 v1_2)) [0, 1, 2, 3, 4] rfl rfl
    refine q_callv (wc := (wd_X10_addDisc cI a0 a1 a2 a3 v0_3 v0_4 v0_5 v0_6 v0_7 v1_3 v1_4 v1_5 v1_0 v1_1 v1_2)) (w1 := (wd_X10_addDisc cI a0 a1 a2 a3 v0_3 v0_4 v0_5 v0_6 v0_7 u_16.1 u_16.2.1 v1_5 u_16.2.2.1 u_16.2.2.2.1 u_16.2.2.2.2)) (ws' := (wd_X10_addCap cI a0 a1 a2 a3 v0_3 v0_4 v0_5 v0_6 v0_7 u_16.1 u_16.2.1 v1_5 u_16.2.2.1 u_16.2.2.2.1 u_16.2.2.2.2 v3_10 v3_1 v3_2 v3_3 v3_4 v3_5 v3_6 v3_7 v3_8 v3_9)) hP hD hS hA [0, 1, 2, 3, 4] [5, 6, 7, 8, 9, 10, 11, 12, 13, 14] [10, 11, 12, 13, 14, 0, 1, 2, 3, 4, 5, 6, 7, 8, 9] rfl rfl rfl (by decide) rfl rfl (va_runV (As := [.int u_1, .int u_2]) (rest := []) ⟨hx, hb, hml, hown, hta⟩ (c_X10_addDisc l dC dI cI H.size a0 a1 a2 a3 v0_3 v0_4 v0_5 v0_6 v0_7 v1_3 v1_4 v1_5 v1_0 v1_1 v1_2 u_1 u_2 u_16 hu_16) (cwV 2 hta (ga_V mA485 mA486 mA487 mA23 mA488) rfl rfl rfl (by decide +kernel) ⟨Nat.le_of_ble_eq_true rfl, Nat.le_of_ble_eq_true rfl⟩) ⟨q_fb, va_recv hK hP (ci := 9) (q0 := 0) rfl rfl, q_ps hPc hK hDc⟩ rfl rfl hl.1 rfl (lv_room (Nat.le_of_ble_eq_true rfl)) dX10_addCap_35 ⟨Nat.zero_le _, Nat.zero_le _⟩) (fun H locs hP hD hS => ?_)
    refine lv_goto (tgt := 181) hx hb dX10_addCap_38 (by decide) ?_
    obtain rfl := Option.some.inj hF
    exact W.vret hx hb hr (fun t ht hW => ⟨⟨(), rfl, trivial, by rw [ht]; exact hP, va_K.moved hW.alike hK, hD⟩, hS.F ht⟩) hS.2.2 dX10_addCap_181

-- StrokeOutliner$Stroke.outlineRun(I)V
def F_X10_outlineRun_j84 (v0_7 : Int32) (v1_3 : Int32) (v1_4 : Int32) (v1_0 : Nat → Int32) (v1_1 : Nat → Int32) (v1_2 : Nat → Int32) (v2_7 : Nat → Int32) (v2_8 : Nat → Int32) (v2_9 : Nat → Int32) (v4_1 : Nat → Int32) (v4_2 : Nat → Int32) (v4_3 : Nat → Int32) (v4_4 : Nat → Int32) (v4_5 : Nat → Int32) (v4_6 : Nat → Int32) (v4_7 : Nat → Int32) (v4_8 : Nat → Int32) (v4_9 : Nat → Int32) (x2 : Int32) (x3 : Int32) (x4 : Int32) : Option (Int32 × Int32 × (Nat → Int32) × (Nat → Int32) × (Nat → Int32)) :=
  if x4 = 0 then if x3 ≤ x2 then some (v1_3, v1_4, v1_0, v1_1, v1_2) else obd (F_X8_segmentOf v2_7 x2) (fun u_3 => obd (F_X8_fromOf v2_8 x2) (fun u_4 => obd (F_X10_addCap v0_7 v1_3 v1_4 v1_0 v1_1 v1_2 v4_1 v4_2 v4_3 v4_4 v4_5 v4_6 v4_7 v4_8 v4_9 u_3 u_4 (-1)) (fun u_5 => obd (F_X8_segmentOf v2_7 (x3 - 1)) (fun u_6 => obd (F_X8_toOf v2_9 (x3 - 1)) (fun u_7 => obd (F_X10_addCap v0_7 u_5.1 u_5.2.1 u_5.2.2.1 u_5.2.2.2.1 u_5.2.2.2.2 v4_1 v4_2 v4_3 v4_4 v4_5 v4_6 v4_7 v4_8 v4_9 u_6 u_7 1) (fun u_8 => some (u_8.1, u_8.2.1, u_8.2.2.1, u_8.2.2.2.1, u_8.2.2.2.2))))))) else some (v1_3, v1_4, v1_0, v1_1, v1_2)
def F_X10_outlineRun_j78 (v1_3 : Int32) (v1_4 : Int32) (v1_0 : Nat → Int32) (v1_1 : Nat → Int32) (v1_2 : Nat → Int32) (x5 : Int32) : Option (Sum (Int32 × Int32 × Int32 × (Nat → Int32) × (Nat → Int32) × (Nat → Int32)) (Int32 × Int32 × (Nat → Int32) × (Nat → Int32) × (Nat → Int32))) :=
  lt (x5 + 1) (fun y_9 => some (.inl (y_9, v1_3, v1_4, v1_0, v1_1, v1_2)))
def F_X10_outlineRun_b33 (v0_4 : Int32) (v0_5 : Int32) (v0_6 : Int32) (v2_7 : Nat → Int32) (v2_8 : Nat → Int32) (v2_9 : Nat → Int32) (v4_1 : Nat → Int32) (v4_2 : Nat → Int32) (v4_3 : Nat → Int32) (v4_4 : Nat → Int32) (v4_5 : Nat → Int32) (v4_6 : Nat → Int32) (v4_7 : Nat → Int32) (x2 : Int32) (x3 : Int32) (x4 : Int32) (s33 : Int32 × Int32 × Int32 × (Nat → Int32) × (Nat → Int32) × (Nat → Int32)) : Option (Sum (Int32 × Int32 × Int32 × (Nat → Int32) × (Nat → Int32) × (Nat → Int32)) (Int32 × Int32 × (Nat → Int32) × (Nat → Int32) × (Nat → Int32))) :=
  if x3 ≤ s33.1 then some (.inr (s33.2.1, s33.2.2.1, s33.2.2.2.1, s33.2.2.2.2.1, s33.2.2.2.2.2)) else obd (F_X10_addStrip s33.2.1 s33.2.2.1 s33.2.2.2.1 s33.2.2.2.2.1 s33.2.2.2.2.2 v2_7 v2_8 v2_9 v4_1 v4_2 v4_3 v4_4 v4_5 v4_6 v4_7 s33.1) (fun u_11 => if x3 ≤ (s33.1 + 1) then if x4 = 0 then F_X10_outlineRun_j78 u_11.1 u_11.2.1 u_11.2.2.1 u_11.2.2.2.1 u_11.2.2.2.2 s33.1 else obd (F_X10_addJoin v0_4 v0_5 v0_6 u_11.1 u_11.2.1 u_11.2.2.1 u_11.2.2.2.1 u_11.2.2.2.2 v2_7 v2_9 v4_1 v4_2 v4_3 v4_4 v4_5 v4_6 v4_7 s33.1 x2) (fun u_14 => F_X10_outlineRun_j78 u_14.1 u_14.2.1 u_14.2.2.1 u_14.2.2.2.1 u_14.2.2.2.2 s33.1) else obd (F_X10_addJoin v0_4 v0_5 v0_6 u_11.1 u_11.2.1 u_11.2.2.1 u_11.2.2.2.1 u_11.2.2.2.2 v2_7 v2_9 v4_1 v4_2 v4_3 v4_4 v4_5 v4_6 v4_7 s33.1 (s33.1 + 1)) (fun u_15 => F_X10_outlineRun_j78 u_15.1 u_15.2.1 u_15.2.2.1 u_15.2.2.2.1 u_15.2.2.2.2 s33.1))
def F_X10_outlineRun_j33 (n : Nat) (v0_4 : Int32) (v0_5 : Int32) (v0_6 : Int32) (v0_7 : Int32) (v1_3 : Int32) (v1_4 : Int32) (v1_0 : Nat → Int32) (v1_1 : Nat → Int32) (v1_2 : Nat → Int32) (v2_7 : Nat → Int32) (v2_8 : Nat → Int32) (v2_9 : Nat → Int32) (v4_1 : Nat → Int32) (v4_2 : Nat → Int32) (v4_3 : Nat → Int32) (v4_4 : Nat → Int32) (v4_5 : Nat → Int32) (v4_6 : Nat → Int32) (v4_7 : Nat → Int32) (v4_8 : Nat → Int32) (v4_9 : Nat → Int32) (x2 : Int32) (x3 : Int32) (x4 : Int32) (x5 : Int32) : Option (Int32 × Int32 × (Nat → Int32) × (Nat → Int32) × (Nat → Int32)) :=
  obd (lpq (F_X10_outlineRun_b33 v0_4 v0_5 v0_6 v2_7 v2_8 v2_9 v4_1 v4_2 v4_3 v4_4 v4_5 v4_6 v4_7 x2 x3 x4) n (x5, v1_3, v1_4, v1_0, v1_1, v1_2)) (fun x_33 => F_X10_outlineRun_j84 v0_7 x_33.1 x_33.2.1 x_33.2.2.1 x_33.2.2.2.1 x_33.2.2.2.2 v2_7 v2_8 v2_9 v4_1 v4_2 v4_3 v4_4 v4_5 v4_6 v4_7 v4_8 v4_9 x2 x3 x4)
def F_X10_outlineRun (n : Nat) (v0_4 : Int32) (v0_5 : Int32) (v0_6 : Int32) (v0_7 : Int32) (v1_3 : Int32) (v1_4 : Int32) (v1_0 : Nat → Int32) (v1_1 : Nat → Int32) (v1_2 : Nat → Int32) (v2_4 : Nat → Int32) (v2_5 : Nat → Int32) (v2_6 : Nat → Int32) (v2_7 : Nat → Int32) (v2_8 : Nat → Int32) (v2_9 : Nat → Int32) (v4_1 : Nat → Int32) (v4_2 : Nat → Int32) (v4_3 : Nat → Int32) (v4_4 : Nat → Int32) (v4_5 : Nat → Int32) (v4_6 : Nat → Int32) (v4_7 : Nat → Int32) (v4_8 : Nat → Int32) (v4_9 : Nat → Int32) (p1 : Int32) : Option (Int32 × Int32 × (Nat → Int32) × (Nat → Int32) × (Nat → Int32)) :=
  obd (F_X8_firstSpanOf v2_5 p1) (fun u_16 => obd (F_X8_spansOf v2_6 p1) (fun u_17 => lt (u_16 + u_17) (fun y_18 => obd (F_X8_isRing v2_4 p1) (fun u_19 => F_X10_outlineRun_j33 n v0_4 v0_5 v0_6 v0_7 v1_3 v1_4 v1_0 v1_1 v1_2 v2_7 v2_8 v2_9 v4_1 v4_2 v4_3 v4_4 v4_5 v4_6 v4_7 v4_8 v4_9 u_16 y_18 u_19 u_16))))
abbrev wd_X10_outlineRun (cI : ClassId) (a0 : Nat → Nat) (a1 : Nat → Nat) (a2 : Nat → Nat) (a3 : Nat → Nat) (a4 : Nat → Nat) (v0_3 : Int32) (v0_4 : Int32) (v0_5 : Int32) (v0_6 : Int32) (v0_7 : Int32) (v1_3 : Int32) (v1_4 : Int32) (v1_5 : Int32) (v1_0 : Nat → Int32) (v1_1 : Nat → Int32) (v1_2 : Nat → Int32) (v2_10 : Int32) (v2_11 : Int32) (v2_4 : Nat → Int32) (v2_5 : Nat → Int32) (v2_6 : Nat → Int32) (v2_7 : Nat → Int32) (v2_8 : Nat → Int32) (v2_9 : Nat → Int32) (v4_10 : Int32) (v4_1 : Nat → Int32) (v4_2 : Nat → Int32) (v4_3 : Nat → Int32) (v4_4 : Nat → Int32) (v4_5 : Nat → Int32) (v4_6 : Nat → Int32) (v4_7 : Nat → Int32) (v4_8 : Nat → Int32) (v4_9 : Nat → Int32) : va_W := [(a0 0, .inr (9, [.ref (a4 0), .ref (a2 0), .ref (a1 0), .int v0_3, .int v0_4, .int v0_5, .int v0_6, .int v0_7])), (a1 0, .inr (6, [.ref (a1 1), .ref (a1 2), .ref (a1 3), .int v1_3, .int v1_4, .int v1_5])), (a1 1, .inl (cI, 2800, .inl v1_0)), (a1 2, .inl (cI, 11200, .inl v1_1)), (a1 3, .inl (cI, 11200, .inl v1_2)), (a2 0, .inr (7, [.ref (a3 0), .ref (a2 2), .ref (a2 3), .ref (a2 4), .ref (a2 5), .ref (a2 6), .ref (a2 7), .ref (a2 8), .ref (a2 9), .ref (a2 10), .int v2_10, .int v2_11])), (a2 5, .inl (cI, 928, .inl v2_4)), (a2 6, .inl (cI, 928, .inl v2_5)), (a2 7, .inl (cI, 928, .inl v2_6)), (a2 8, .inl (cI, 1024, .inl v2_7)), (a2 9, .inl (cI, 1024, .inl v2_8)), (a2 10, .inl (cI, 1024, .inl v2_9)), (a4 0, .inr (8, [.ref (a4 1), .ref (a4 2), .ref (a4 3), .ref (a4 4), .ref (a4 5), .ref (a4 6), .ref (a4 7), .ref (a4 8), .ref (a4 9), .ref (a4 10), .int v4_10])), (a4 2, .inl (cI, 32, .inl v4_1)), (a4 3, .inl (cI, 32, .inl v4_2)), (a4 4, .inl (cI, 32, .inl v4_3)), (a4 5, .inl (cI, 32, .inl v4_4)), (a4 6, .inl (cI, 32, .inl v4_5)), (a4 7, .inl (cI, 32, .inl v4_6)), (a4 8, .inl (cI, 32, .inl v4_7)), (a4 9, .inl (cI, 32, .inl v4_8)), (a4 10, .inl (cI, 32, .inl v4_9))]
abbrev wz_X10_outlineRun : List Cond := .code yX10_outlineRun cX10_outlineRun 6 none :: wALL
abbrev rm_X10_outlineRun : Room := { frames := 3, cells := 0, slots := 0, locals := 98 }
abbrev Q_X10_outlineRun (dC : Nat → ClassId) (dI : Nat → Nat → Nat) (cI : ClassId) (a0 : Nat → Nat) (a1 : Nat → Nat) (a2 : Nat → Nat) (a3 : Nat → Nat) (a4 : Nat → Nat) (v0_3 : Int32) (v0_4 : Int32) (v0_5 : Int32) (v0_6 : Int32) (v0_7 : Int32) (v1_5 : Int32) (v2_10 : Int32) (v2_11 : Int32) (v2_4 : Nat → Int32) (v2_5 : Nat → Int32) (v2_6 : Nat → Int32) (v2_7 : Nat → Int32) (v2_8 : Nat → Int32) (v2_9 : Nat → Int32) (v4_10 : Int32) (v4_1 : Nat → Int32) (v4_2 : Nat → Int32) (v4_3 : Nat → Int32) (v4_4 : Nat → Int32) (v4_5 : Nat → Int32) (v4_6 : Nat → Int32) (v4_7 : Nat → Int32) (v4_8 : Nat → Int32) (v4_9 : Nat → Int32) (u : (Int32 × Int32 × (Nat → Int32) × (Nat → Int32) × (Nat → Int32))) (A : Nat → Prop) : Array Value → State → Outcome → State → Prop := va_Qv (fun (_ : Unit) => True) (fun _ => q_at dC dI cI A (wd_X10_outlineRun cI a0 a1 a2 a3 a4 v0_3 v0_4 v0_5 v0_6 v0_7 u.1 u.2.1 v1_5 u.2.2.1 u.2.2.2.1 u.2.2.2.2 v2_10 v2_11 v2_4 v2_5 v2_6 v2_7 v2_8 v2_9 v4_10 v4_1 v4_2 v4_3 v4_4 v4_5 v4_6 v4_7 v4_8 v4_9)) A
set_option maxHeartbeats 4000000 in
set_option maxRecDepth 100000 in
theorem c_X10_outlineRun (l : Launch) (dC : Nat → ClassId) (dI : Nat → Nat → Nat) (cI : ClassId) (sz : Nat) (a0 : Nat → Nat) (a1 : Nat → Nat) (a2 : Nat → Nat) (a3 : Nat → Nat) (a4 : Nat → Nat) (v0_3 : Int32) (v0_4 : Int32) (v0_5 : Int32) (v0_6 : Int32) (v0_7 : Int32) (v1_3 : Int32) (v1_4 : Int32) (v1_5 : Int32) (v1_0 : Nat → Int32) (v1_1 : Nat → Int32) (v1_2 : Nat → Int32) (v2_10 : Int32) (v2_11 : Int32) (v2_4 : Nat → Int32) (v2_5 : Nat → Int32) (v2_6 : Nat → Int32) (v2_7 : Nat → Int32) (v2_8 : Nat → Int32) (v2_9 : Nat → Int32) (v4_10 : Int32) (v4_1 : Nat → Int32) (v4_2 : Nat → Int32) (v4_3 : Nat → Int32) (v4_4 : Nat → Int32) (v4_5 : Nat → Int32) (v4_6 : Nat → Int32) (v4_7 : Nat → Int32) (v4_8 : Nat → Int32) (v4_9 : Nat → Int32) (p1 : Int32) (n : Nat) (u : (Int32 × Int32 × (Nat → Int32) × (Nat → Int32) × (Nat → Int32))) (hF : F_X10_outlineRun n v0_4 v0_5 v0_6 v0_7 v1_3 v1_4 v1_0 v1_1 v1_2 v2_4 v2_5 v2_6 v2_7 v2_8 v2_9 v4_1 v4_2 v4_3 v4_4 v4_5 v4_6 v4_7 v4_8 v4_9 p1 = some u) : Met l yX10_outlineRun wz_X10_outlineRun rm_X10_outlineRun (va_Pc [.ref (a0 0), .int p1] (q_pre dC dI cI (wd_X10_outlineRun cI a0 a1 a2 a3 a4 v0_3 v0_4 v0_5 v0_6 v0_7 v1_3 v1_4 v1_5 v1_0 v1_1 v1_2 v2_10 v2_11 v2_4 v2_5 v2_6 v2_7 v2_8 v2_9 v4_10 v4_1 v4_2 v4_3 v4_4 v4_5 v4_6 v4_7 v4_8 v4_9) sz)) (Q_X10_outlineRun dC dI cI a0 a1 a2 a3 a4 v0_3 v0_4 v0_5 v0_6 v0_7 v1_5 v2_10 v2_11 v2_4 v2_5 v2_6 v2_7 v2_8 v2_9 v4_10 v4_1 v4_2 v4_3 v4_4 v4_5 v4_6 v4_7 v4_8 v4_9 u (va_A (wd_X10_outlineRun cI a0 a1 a2 a3 a4 v0_3 v0_4 v0_5 v0_6 v0_7 v1_3 v1_4 v1_5 v1_0 v1_1 v1_2 v2_10 v2_11 v2_4 v2_5 v2_6 v2_7 v2_8 v2_9 v4_10 v4_1 v4_2 v4_3 v4_4 v4_5 v4_6 v4_7 v4_8 v4_9) sz)) 0 0 (va_A (wd_X10_outlineRun cI a0 a1 a2 a3 a4 v0_3 v0_4 v0_5 v0_6 v0_7 v1_3 v1_4 v1_5 v1_0 v1_1 v1_2 v2_10 v2_11 v2_4 v2_5 v2_6 v2_7 v2_8 v2_9 v4_10 v4_1 v4_2 v4_3 v4_4 v4_5 v4_6 v4_7 v4_8 v4_9) sz) := by
  refine Met.ofW (cc := cX10_outlineRun) (maxL := 6) (ret := none) (by decide) rfl ?_
  intro p e s m args below meth c s₁ B hml hv
  obtain ⟨rfl, hsz, hP, hK, hD0⟩ := hv
  have hx := B.exec
  have hb := B.bytes
  have hr := B.returns
  have hts := atoms_spec (ws := wz_X10_outlineRun) B.pre
  have hta := wz_tl hts
  have hown : s.vm.findClass RX10 = some m.cls := findClass_of_methodNamed B.named
  have hlocks := B.notSynchronized
  subst hsz
  have hD := hD0.self (sz := s.heap.size)
  generalize hAe : va_A (wd_X10_outlineRun cI a0 a1 a2 a3 a4 v0_3 v0_4 v0_5 v0_6 v0_7 v1_3 v1_4 v1_5 v1_0 v1_1 v1_2 v2_10 v2_11 v2_4 v2_5 v2_6 v2_7 v2_8 v2_9 v4_10 v4_1 v4_2 v4_3 v4_4 v4_5 v4_6 v4_7 v4_8 v4_9) s.heap.size = A at hD ⊢
  have hA : ∀ q : Nat, s.heap.size ≤ q → A q := fun q h => by rw [← hAe]; exact Or.inr h
  have hS : va_S A s.heap s.heap [] := va_S.rf
  have hP : va_P (dC, dI) vwCl (wd_X10_outlineRun cI a0 a1 a2 a3 a4 v0_3 v0_4 v0_5 v0_6 v0_7 v1_3 v1_4 v1_5 v1_0 v1_1 v1_2 v2_10 v2_11 v2_4 v2_5 v2_6 v2_7 v2_8 v2_9 v4_10 v4_1 v4_2 v4_3 v4_4 v4_5 v4_6 v4_7 v4_8 v4_9) s.heap := hP
  have hl := lv_entry ([.ref (a0 0), .int p1]) (n := 6) (Nat.le_of_ble_eq_true rfl)
  rw [lg_entry_eq]
  generalize (lg_sl ([.ref (a0 0), .int p1]) ++ List.replicate (6 - (lg_sl ([.ref (a0 0), .int p1])).length) Slot.unset).toArray = ls at hl ⊢
  have hl : lv_has ls 6 [(0, .ref (a0 0)), (1, .int p1)] := hl
  obtain ⟨H, hHe⟩ : ∃ H, H = s.heap := ⟨_, rfl⟩
  have hS : va_S A s.heap H [] := by rw [hHe]; exact hS
  have hP : va_P (dC, dI) vwCl (wd_X10_outlineRun cI a0 a1 a2 a3 a4 v0_3 v0_4 v0_5 v0_6 v0_7 v1_3 v1_4 v1_5 v1_0 v1_1 v1_2 v2_10 v2_11 v2_4 v2_5 v2_6 v2_7 v2_8 v2_9 v4_10 v4_1 v4_2 v4_3 v4_4 v4_5 v4_6 v4_7 v4_8 v4_9) H := by rw [hHe]; exact hP
  rw [← hHe]
  unfold F_X10_outlineRun at hF
  have j84 : ∀ (v1_3 : Int32) (v1_4 : Int32) (v1_0 : Nat → Int32) (v1_1 : Nat → Int32) (v1_2 : Nat → Int32) (x2 : Int32) (x3 : Int32) (x4 : Int32), F_X10_outlineRun_j84 v0_7 v1_3 v1_4 v1_0 v1_1 v1_2 v2_7 v2_8 v2_9 v4_1 v4_2 v4_3 v4_4 v4_5 v4_6 v4_7 v4_8 v4_9 x2 x3 x4 = some u → ∀ (H : Heap) (locs : List Loc) (ls : Array Slot), va_P (dC, dI) vwCl (wd_X10_outlineRun cI a0 a1 a2 a3 a4 v0_3 v0_4 v0_5 v0_6 v0_7 v1_3 v1_4 v1_5 v1_0 v1_1 v1_2 v2_10 v2_11 v2_4 v2_5 v2_6 v2_7 v2_8 v2_9 v4_10 v4_1 v4_2 v4_3 v4_4 v4_5 v4_6 v4_7 v4_8 v4_9) H → va_D A (wd_X10_outlineRun cI a0 a1 a2 a3 a4 v0_3 v0_4 v0_5 v0_6 v0_7 v1_3 v1_4 v1_5 v1_0 v1_1 v1_2 v2_10 v2_11 v2_4 v2_5 v2_6 v2_7 v2_8 v2_9 v4_10 v4_1 v4_2 v4_3 v4_4 v4_5 v4_6 v4_7 v4_8 v4_9) → va_S A s.heap H locs → lv_has ls 6 [(0, .ref (a0 0)), (2, .int x2), (3, .int x3), (4, .int x4)] → W p l e (headSpec wz_X10_outlineRun rm_X10_outlineRun).room s m [.ref (a0 0), .int p1].toArray below meth c H locs 0 0 (MQ below (Q_X10_outlineRun dC dI cI a0 a1 a2 a3 a4 v0_3 v0_4 v0_5 v0_6 v0_7 v1_5 v2_10 v2_11 v2_4 v2_5 v2_6 v2_7 v2_8 v2_9 v4_10 v4_1 v4_2 v4_3 v4_4 v4_5 v4_6 v4_7 v4_8 v4_9 u A) [.ref (a0 0), .int p1].toArray s 0 0 A) (F0 m 84 ls []) := by
    intro v1_3 v1_4 v1_0 v1_1 v1_2 x2 x3 x4 hF H locs ls hP hD hS hl
    unfold F_X10_outlineRun_j84 at hF
    refine lv_iload hx hb dX10_outlineRun_84 (lv_at hl 3 rfl) ?_
    refine lv_if_ne (tgt := 140) hx hb dX10_outlineRun_86 (by decide) (fun c_1 => ?_) (fun c_1 => ?_)
    · have hF := it_f hF c_1
      obtain rfl := Option.some.inj hF
      exact W.vret hx hb hr (fun t ht hW => ⟨⟨(), rfl, trivial, by rw [ht]; exact hP, va_K.moved hW.alike hK, hD⟩, hS.F ht⟩) hS.2.2 dX10_outlineRun_140
    · have hF := it_t hF c_1
      refine lv_iload_n hx hb dX10_outlineRun_89 rfl (lv_at hl 1 rfl) ?_
      refine lv_iload_n hx hb dX10_outlineRun_90 rfl (lv_at hl 2 rfl) ?_
      refine lv_icmp_ge (tgt := 140) hx hb dX10_outlineRun_91 (by decide) (fun c_2 => ?_) (fun c_2 => ?_)
      · have hF := it_t hF c_2
        obtain rfl := Option.some.inj hF
        exact W.vret hx hb hr (fun t ht hW => ⟨⟨(), rfl, trivial, by rw [ht]; exact hP, va_K.moved hW.alike hK, hD⟩, hS.F ht⟩) hS.2.2 dX10_outlineRun_140
      · have hF := it_f hF c_2
        refine lv_aload_n hx hb dX10_outlineRun_94 rfl (lv_at hl 0 rfl) ?_
        refine lv_aload_n hx hb dX10_outlineRun_95 rfl (lv_at hl 0 rfl) ?_
        refine va_get (D := (dC, dI)) (ci := 9) (v := .ref (a2 0)) (C := RX10) (T := TX10) (N := 8) hx hb hta uw_X10 hown hK hP 0 rfl rfl 1 (by decide) (hta _ mA57) (fun _ h9 => h9) rfl dX10_outlineRun_96 ?_
        refine lv_iload_n hx hb dX10_outlineRun_99 rfl (lv_at hl 1 rfl) ?_
        obtain ⟨u_3, hu_3, hF⟩ := obd_some hF
        have hPc := hP.sub (ws' := (wd_X8_segmentOf cI a2 a3 v2_10 v2_11 v2_7)) [5, 9] rfl
        have hDc := hD.sub (ws' := (wd_X8_segmentOf cI a2 a3 v2_10 v2_11 v2_7)) [5, 9] rfl rfl
        refine q_calli (wc := (wd_X8_segmentOf cI a2 a3 v2_10 v2_11 v2_7)) (w1 := (wd_X8_segmentOf cI a2 a3 v2_10 v2_11 v2_7)) (ws' := (wd_X10_outlineRun cI a0 a1 a2 a3 a4 v0_3 v0_4 v0_5 v0_6 v0_7 v1_3 v1_4 v1_5 v1_0 v1_1 v1_2 v2_10 v2_11 v2_4 v2_5 v2_6 v2_7 v2_8 v2_9 v4_10 v4_1 v4_2 v4_3 v4_4 v4_5 v4_6 v4_7 v4_8 v4_9)) hP hD hS hA [5, 9] [0, 1, 2, 3, 4, 6, 7, 8, 10, 11, 12, 13, 14, 15, 16, 17, 18, 19, 20, 21] [0, 1, 2, 3, 4, 20, 5, 6, 7, 21, 8, 9, 10, 11, 12, 13, 14, 15, 16, 17, 18, 19] rfl rfl rfl (by decide) rfl rfl (va_runV (As := [.int x2]) (rest := [.ref (a0 0)]) ⟨hx, hb, hml, hown, hta⟩ (c_X8_segmentOf l dC dI cI H.size a2 a3 v2_10 v2_11 v2_7 x2 u_3 hu_3) (cwV 1 hta (ga_V mA517 mA421 mA422 mA56 mA423) rfl rfl rfl (by decide +kernel) ⟨Nat.le_of_ble_eq_true rfl, Nat.le_of_ble_eq_true rfl⟩) ⟨q_fb, va_recv hK hP (ci := 7) (q0 := 5) rfl rfl, q_ps hPc hK hDc⟩ rfl rfl hl.1 rfl (lv_room (Nat.le_of_ble_eq_true rfl)) dX10_outlineRun_100 ⟨Nat.zero_le _, Nat.zero_le _⟩) (fun H locs hP hD hS => ?_)
        refine lv_aload_n hx hb dX10_outlineRun_103 rfl (lv_at hl 0 rfl) ?_
        refine va_get (D := (dC, dI)) (ci := 9) (v := .ref (a2 0)) (C := RX10) (T := TX10) (N := 8) hx hb hta uw_X10 hown hK hP 0 rfl rfl 1 (by decide) (hta _ mA57) (fun _ h9 => h9) rfl dX10_outlineRun_104 ?_
        refine lv_iload_n hx hb dX10_outlineRun_107 rfl (lv_at hl 1 rfl) ?_
        obtain ⟨u_4, hu_4, hF⟩ := obd_some hF
        have hPc := hP.sub (ws' := (wd_X8_fromOf cI a2 a3 v2_10 v2_11 v2_8)) [5, 10] rfl
        have hDc := hD.sub (ws' := (wd_X8_fromOf cI a2 a3 v2_10 v2_11 v2_8)) [5, 10] rfl rfl
        refine q_calli (wc := (wd_X8_fromOf cI a2 a3 v2_10 v2_11 v2_8)) (w1 := (wd_X8_fromOf cI a2 a3 v2_10 v2_11 v2_8)) (ws' := (wd_X10_outlineRun cI a0 a1 a2 a3 a4 v0_3 v0_4 v0_5 v0_6 v0_7 v1_3 v1_4 v1_5 v1_0 v1_1 v1_2 v2_10 v2_11 v2_4 v2_5 v2_6 v2_7 v2_8 v2_9 v4_10 v4_1 v4_2 v4_3 v4_4 v4_5 v4_6 v4_7 v4_8 v4_9)) hP hD hS hA [5, 10] [0, 1, 2, 3, 4, 6, 7, 8, 9, 11, 12, 13, 14, 15, 16, 17, 18, 19, 20, 21] [0, 1, 2, 3, 4, 20, 5, 6, 7, 8, 21, 9, 10, 11, 12, 13, 14, 15, 16, 17, 18, 19] rfl rfl rfl (by decide) rfl rfl (va_runV (As := [.int x2]) (rest := [.int u_3, .ref (a0 0)]) ⟨hx, hb, hml, hown, hta⟩ (c_X8_fromOf l dC dI cI H.size a2 a3 v2_10 v2_11 v2_8 x2 u_4 hu_4) (cwV 1 hta (ga_V mA518 mA425 mA426 mA56 mA427) rfl rfl rfl (by decide +kernel) ⟨Nat.le_of_ble_eq_true rfl, Nat.le_of_ble_eq_true rfl⟩) ⟨q_fb, va_recv hK hP (ci := 7) (q0 := 5) rfl rfl, q_ps hPc hK hDc⟩ rfl rfl hl.1 rfl (lv_room (Nat.le_of_ble_eq_true rfl)) dX10_outlineRun_108 ⟨Nat.zero_le _, Nat.zero_le _⟩) (fun H locs hP hD hS => ?_)
        refine lv_iconst (v := (-1)) hx hb dX10_outlineRun_111 (by decide) ?_
        obtain ⟨u_5, hu_5, hF⟩ := obd_some hF
        have hPc := hP.sub (ws' := (wd_X10_addCap cI a0 a1 a2 a4 v0_3 v0_4 v0_5 v0_6 v0_7 v1_3 v1_4 v1_5 v1_0 v1_1 v1_2 v4_10 v4_1 v4_2 v4_3 v4_4 v4_5 v4_6 v4_7 v4_8 v4_9)) [0, 1, 2, 3, 4, 12, 13, 14, 15, 16, 17, 18, 19, 20, 21] rfl
        have hDc := hD.sub (ws' := (wd_X10_addCap cI a0 a1 a2 a4 v0_3 v0_4 v0_5 v0_6 v0_7 v1_3 v1_4 v1_5 v1_0 v1_1 v1_2 v4_10 v4_1 v4_2 v4_3 v4_4 v4_5 v4_6 v4_7 v4_8 v4_9)) [0, 1, 2, 3, 4, 12, 13, 14, 15, 16, 17, 18, 19, 20, 21] rfl rfl
        refine q_callv (wc := (wd_X10_addCap cI a0 a1 a2 a4 v0_3 v0_4 v0_5 v0_6 v0_7 v1_3 v1_4 v1_5 v1_0 v1_1 v1_2 v4_10 v4_1 v4_2 v4_3 v4_4 v4_5 v4_6 v4_7 v4_8 v4_9)) (w1 := (wd_X10_addCap cI a0 a1 a2 a4 v0_3 v0_4 v0_5 v0_6 v0_7 u_5.1 u_5.2.1 v1_5 u_5.2.2.1 u_5.2.2.2.1 u_5.2.2.2.2 v4_10 v4_1 v4_2 v4_3 v4_4 v4_5 v4_6 v4_7 v4_8 v4_9)) (ws' := (wd_X10_outlineRun cI a0 a1 a2 a3 a4 v0_3 v0_4 v0_5 v0_6 v0_7 u_5.1 u_5.2.1 v1_5 u_5.2.2.1 u_5.2.2.2.1 u_5.2.2.2.2 v2_10 v2_11 v2_4 v2_5 v2_6 v2_7 v2_8 v2_9 v4_10 v4_1 v4_2 v4_3 v4_4 v4_5 v4_6 v4_7 v4_8 v4_9)) hP hD hS hA [0, 1, 2, 3, 4, 12, 13, 14, 15, 16, 17, 18, 19, 20, 21] [5, 6, 7, 8, 9, 10, 11] [7, 8, 9, 10, 11, 0, 1, 2, 3, 4, 5, 6, 12, 13, 14, 15, 16, 17, 18, 19, 20, 21] rfl rfl rfl (by decide) rfl rfl (va_runV (As := [.int u_3, .int u_4, .int (-1)]) (rest := []) ⟨hx, hb, hml, hown, hta⟩ (c_X10_addCap l dC dI cI H.size a0 a1 a2 a4 v0_3 v0_4 v0_5 v0_6 v0_7 v1_3 v1_4 v1_5 v1_0 v1_1 v1_2 v4_10 v4_1 v4_2 v4_3 v4_4 v4_5 v4_6 v4_7 v4_8 v4_9 u_3 u_4 (-1) u_5 hu_5) (cwV 3 hta (ga_V mA552 mA553 mA554 mA23 mA555) rfl rfl rfl (by decide +kernel) ⟨Nat.le_of_ble_eq_true rfl, Nat.le_of_ble_eq_true rfl⟩) ⟨q_fb, va_recv hK hP (ci := 9) (q0 := 0) rfl rfl, q_ps hPc hK hDc⟩ rfl rfl hl.1 rfl (lv_room (Nat.le_of_ble_eq_true rfl)) dX10_outlineRun_112 ⟨Nat.zero_le _, Nat.zero_le _⟩) (fun H locs hP hD hS => ?_)
        refine lv_aload_n hx hb dX10_outlineRun_115 rfl (lv_at hl 0 rfl) ?_
        refine lv_aload_n hx hb dX10_outlineRun_116 rfl (lv_at hl 0 rfl) ?_
        refine va_get (D := (dC, dI)) (ci := 9) (v := .ref (a2 0)) (C := RX10) (T := TX10) (N := 8) hx hb hta uw_X10 hown hK hP 0 rfl rfl 1 (by decide) (hta _ mA57) (fun _ h9 => h9) rfl dX10_outlineRun_117 ?_
        refine lv_iload_n hx hb dX10_outlineRun_120 rfl (lv_at hl 2 rfl) ?_
        refine lv_iconst (v := 1) hx hb dX10_outlineRun_121 (by decide) ?_
        refine lv_isub hx hb dX10_outlineRun_122 ?_
        obtain ⟨u_6, hu_6, hF⟩ := obd_some hF
        have hPc := hP.sub (ws' := (wd_X8_segmentOf cI a2 a3 v2_10 v2_11 v2_7)) [5, 9] rfl
        have hDc := hD.sub (ws' := (wd_X8_segmentOf cI a2 a3 v2_10 v2_11 v2_7)) [5, 9] rfl rfl
        refine q_calli (wc := (wd_X8_segmentOf cI a2 a3 v2_10 v2_11 v2_7)) (w1 := (wd_X8_segmentOf cI a2 a3 v2_10 v2_11 v2_7)) (ws' := (wd_X10_outlineRun cI a0 a1 a2 a3 a4 v0_3 v0_4 v0_5 v0_6 v0_7 u_5.1 u_5.2.1 v1_5 u_5.2.2.1 u_5.2.2.2.1 u_5.2.2.2.2 v2_10 v2_11 v2_4 v2_5 v2_6 v2_7 v2_8 v2_9 v4_10 v4_1 v4_2 v4_3 v4_4 v4_5 v4_6 v4_7 v4_8 v4_9)) hP hD hS hA [5, 9] [0, 1, 2, 3, 4, 6, 7, 8, 10, 11, 12, 13, 14, 15, 16, 17, 18, 19, 20, 21] [0, 1, 2, 3, 4, 20, 5, 6, 7, 21, 8, 9, 10, 11, 12, 13, 14, 15, 16, 17, 18, 19] rfl rfl rfl (by decide) rfl rfl (va_runV (As := [.int (x3 - 1)]) (rest := [.ref (a0 0)]) ⟨hx, hb, hml, hown, hta⟩ (c_X8_segmentOf l dC dI cI H.size a2 a3 v2_10 v2_11 v2_7 (x3 - 1) u_6 hu_6) (cwV 1 hta (ga_V mA517 mA421 mA422 mA56 mA423) rfl rfl rfl (by decide +kernel) ⟨Nat.le_of_ble_eq_true rfl, Nat.le_of_ble_eq_true rfl⟩) ⟨q_fb, va_recv hK hP (ci := 7) (q0 := 5) rfl rfl, q_ps hPc hK hDc⟩ rfl rfl hl.1 rfl (lv_room (Nat.le_of_ble_eq_true rfl)) dX10_outlineRun_123 ⟨Nat.zero_le _, Nat.zero_le _⟩) (fun H locs hP hD hS => ?_)
        refine lv_aload_n hx hb dX10_outlineRun_126 rfl (lv_at hl 0 rfl) ?_
        refine va_get (D := (dC, dI)) (ci := 9) (v := .ref (a2 0)) (C := RX10) (T := TX10) (N := 8) hx hb hta uw_X10 hown hK hP 0 rfl rfl 1 (by decide) (hta _ mA57) (fun _ h9 => h9) rfl dX10_outlineRun_127 ?_
        refine lv_iload_n hx hb dX10_outlineRun_130 rfl (lv_at hl 2 rfl) ?_
        refine lv_iconst (v := 1) hx hb dX10_outlineRun_131 (by decide) ?_
        refine lv_isub hx hb dX10_outlineRun_132 ?_
        obtain ⟨u_7, hu_7, hF⟩ := obd_some hF
        have hPc := hP.sub (ws' := (wd_X8_toOf cI a2 a3 v2_10 v2_11 v2_9)) [5, 11] rfl
        have hDc := hD.sub (ws' := (wd_X8_toOf cI a2 a3 v2_10 v2_11 v2_9)) [5, 11] rfl rfl
        refine q_calli (wc := (wd_X8_toOf cI a2 a3 v2_10 v2_11 v2_9)) (w1 := (wd_X8_toOf cI a2 a3 v2_10 v2_11 v2_9)) (ws' := (wd_X10_outlineRun cI a0 a1 a2 a3 a4 v0_3 v0_4 v0_5 v0_6 v0_7 u_5.1 u_5.2.1 v1_5 u_5.2.2.1 u_5.2.2.2.1 u_5.2.2.2.2 v2_10 v2_11 v2_4 v2_5 v2_6 v2_7 v2_8 v2_9 v4_10 v4_1 v4_2 v4_3 v4_4 v4_5 v4_6 v4_7 v4_8 v4_9)) hP hD hS hA [5, 11] [0, 1, 2, 3, 4, 6, 7, 8, 9, 10, 12, 13, 14, 15, 16, 17, 18, 19, 20, 21] [0, 1, 2, 3, 4, 20, 5, 6, 7, 8, 9, 21, 10, 11, 12, 13, 14, 15, 16, 17, 18, 19] rfl rfl rfl (by decide) rfl rfl (va_runV (As := [.int (x3 - 1)]) (rest := [.int u_6, .ref (a0 0)]) ⟨hx, hb, hml, hown, hta⟩ (c_X8_toOf l dC dI cI H.size a2 a3 v2_10 v2_11 v2_9 (x3 - 1) u_7 hu_7) (cwV 1 hta (ga_V mA521 mA429 mA430 mA56 mA431) rfl rfl rfl (by decide +kernel) ⟨Nat.le_of_ble_eq_true rfl, Nat.le_of_ble_eq_true rfl⟩) ⟨q_fb, va_recv hK hP (ci := 7) (q0 := 5) rfl rfl, q_ps hPc hK hDc⟩ rfl rfl hl.1 rfl (lv_room (Nat.le_of_ble_eq_true rfl)) dX10_outlineRun_133 ⟨Nat.zero_le _, Nat.zero_le _⟩) (fun H locs hP hD hS => ?_)
        refine lv_iconst (v := 1) hx hb dX10_outlineRun_136 (by decide) ?_
        obtain ⟨u_8, hu_8, hF⟩ := obd_some hF
        have hPc := hP.sub (ws' := (wd_X10_addCap cI a0 a1 a2 a4 v0_3 v0_4 v0_5 v0_6 v0_7 u_5.1 u_5.2.1 v1_5 u_5.2.2.1 u_5.2.2.2.1 u_5.2.2.2.2 v4_10 v4_1 v4_2 v4_3 v4_4 v4_5 v4_6 v4_7 v4_8 v4_9)) [0, 1, 2, 3, 4, 12, 13, 14, 15, 16, 17, 18, 19, 20, 21] rfl
        have hDc := hD.sub (ws' := (wd_X10_addCap cI a0 a1 a2 a4 v0_3 v0_4 v0_5 v0_6 v0_7 u_5.1 u_5.2.1 v1_5 u_5.2.2.1 u_5.2.2.2.1 u_5.2.2.2.2 v4_10 v4_1 v4_2 v4_3 v4_4 v4_5 v4_6 v4_7 v4_8 v4_9)) [0, 1, 2, 3, 4, 12, 13, 14, 15, 16, 17, 18, 19, 20, 21] rfl rfl
        refine q_callv (wc := (wd_X10_addCap cI a0 a1 a2 a4 v0_3 v0_4 v0_5 v0_6 v0_7 u_5.1 u_5.2.1 v1_5 u_5.2.2.1 u_5.2.2.2.1 u_5.2.2.2.2 v4_10 v4_1 v4_2 v4_3 v4_4 v4_5 v4_6 v4_7 v4_8 v4_9)) (w1 := (wd_X10_addCap cI a0 a1 a2 a4 v0_3 v0_4 v0_5 v0_6 v0_7 u_8.1 u_8.2.1 v1_5 u_8.2.2.1 u_8.2.2.2.1 u_8.2.2.2.2 v4_10 v4_1 v4_2 v4_3 v4_4 v4_5 v4_6 v4_7 v4_8 v4_9)) (ws' := (wd_X10_outlineRun cI a0 a1 a2 a3 a4 v0_3 v0_4 v0_5 v0_6 v0_7 u_8.1 u_8.2.1 v1_5 u_8.2.2.1 u_8.2.2.2.1 u_8.2.2.2.2 v2_10 v2_11 v2_4 v2_5 v2_6 v2_7 v2_8 v2_9 v4_10 v4_1 v4_2 v4_3 v4_4 v4_5 v4_6 v4_7 v4_8 v4_9)) hP hD hS hA [0, 1, 2, 3, 4, 12, 13, 14, 15, 16, 17, 18, 19, 20, 21] [5, 6, 7, 8, 9, 10, 11] [7, 8, 9, 10, 11, 0, 1, 2, 3, 4, 5, 6, 12, 13, 14, 15, 16, 17, 18, 19, 20, 21] rfl rfl rfl (by decide) rfl rfl (va_runV (As := [.int u_6, .int u_7, .int 1]) (rest := []) ⟨hx, hb, hml, hown, hta⟩ (c_X10_addCap l dC dI cI H.size a0 a1 a2 a4 v0_3 v0_4 v0_5 v0_6 v0_7 u_5.1 u_5.2.1 v1_5 u_5.2.2.1 u_5.2.2.2.1 u_5.2.2.2.2 v4_10 v4_1 v4_2 v4_3 v4_4 v4_5 v4_6 v4_7 v4_8 v4_9 u_6 u_7 1 u_8 hu_8) (cwV 3 hta (ga_V mA552 mA553 mA554 mA23 mA555) rfl rfl rfl (by decide +kernel) ⟨Nat.le_of_ble_eq_true rfl, Nat.le_of_ble_eq_true rfl⟩) ⟨q_fb, va_recv hK hP (ci := 9) (q0 := 0) rfl rfl, q_ps hPc hK hDc⟩ rfl rfl hl.1 rfl (lv_room (Nat.le_of_ble_eq_true rfl)) dX10_outlineRun_137 ⟨Nat.zero_le _, Nat.zero_le _⟩) (fun H locs hP hD hS => ?_)
        obtain rfl := Option.some.inj hF
        exact W.vret hx hb hr (fun t ht hW => ⟨⟨(), rfl, trivial, by rw [ht]; exact hP, va_K.moved hW.alike hK, hD⟩, hS.F ht⟩) hS.2.2 dX10_outlineRun_140
  have j33 : ∀ (v1_3 : Int32) (v1_4 : Int32) (v1_0 : Nat → Int32) (v1_1 : Nat → Int32) (v1_2 : Nat → Int32) (x2 : Int32) (x3 : Int32) (x4 : Int32) (x5 : Int32), F_X10_outlineRun_j33 n v0_4 v0_5 v0_6 v0_7 v1_3 v1_4 v1_0 v1_1 v1_2 v2_7 v2_8 v2_9 v4_1 v4_2 v4_3 v4_4 v4_5 v4_6 v4_7 v4_8 v4_9 x2 x3 x4 x5 = some u → ∀ (H : Heap) (locs : List Loc) (ls : Array Slot), va_P (dC, dI) vwCl (wd_X10_outlineRun cI a0 a1 a2 a3 a4 v0_3 v0_4 v0_5 v0_6 v0_7 v1_3 v1_4 v1_5 v1_0 v1_1 v1_2 v2_10 v2_11 v2_4 v2_5 v2_6 v2_7 v2_8 v2_9 v4_10 v4_1 v4_2 v4_3 v4_4 v4_5 v4_6 v4_7 v4_8 v4_9) H → va_D A (wd_X10_outlineRun cI a0 a1 a2 a3 a4 v0_3 v0_4 v0_5 v0_6 v0_7 v1_3 v1_4 v1_5 v1_0 v1_1 v1_2 v2_10 v2_11 v2_4 v2_5 v2_6 v2_7 v2_8 v2_9 v4_10 v4_1 v4_2 v4_3 v4_4 v4_5 v4_6 v4_7 v4_8 v4_9) → va_S A s.heap H locs → lv_has ls 6 [(0, .ref (a0 0)), (2, .int x2), (3, .int x3), (4, .int x4), (5, .int x5)] → W p l e (headSpec wz_X10_outlineRun rm_X10_outlineRun).room s m [.ref (a0 0), .int p1].toArray below meth c H locs 0 0 (MQ below (Q_X10_outlineRun dC dI cI a0 a1 a2 a3 a4 v0_3 v0_4 v0_5 v0_6 v0_7 v1_5 v2_10 v2_11 v2_4 v2_5 v2_6 v2_7 v2_8 v2_9 v4_10 v4_1 v4_2 v4_3 v4_4 v4_5 v4_6 v4_7 v4_8 v4_9 u A) [.ref (a0 0), .int p1].toArray s 0 0 A) (F0 m 33 ls []) := by
    intro v1_3 v1_4 v1_0 v1_1 v1_2 x2 x3 x4 x5 hF H locs ls hP hD hS hl
    unfold F_X10_outlineRun_j33 at hF
    obtain ⟨x_33, hL_33, hE_33⟩ := obd_some hF
    have kl_33 : ∀ (k : Nat) (s33 : Int32 × Int32 × Int32 × (Nat → Int32) × (Nat → Int32) × (Nat → Int32)), lpq (F_X10_outlineRun_b33 v0_4 v0_5 v0_6 v2_7 v2_8 v2_9 v4_1 v4_2 v4_3 v4_4 v4_5 v4_6 v4_7 x2 x3 x4) k s33 = some x_33 → ∀ (H : Heap) (locs : List Loc) (ls : Array Slot), va_P (dC, dI) vwCl (wd_X10_outlineRun cI a0 a1 a2 a3 a4 v0_3 v0_4 v0_5 v0_6 v0_7 s33.2.1 s33.2.2.1 v1_5 s33.2.2.2.1 s33.2.2.2.2.1 s33.2.2.2.2.2 v2_10 v2_11 v2_4 v2_5 v2_6 v2_7 v2_8 v2_9 v4_10 v4_1 v4_2 v4_3 v4_4 v4_5 v4_6 v4_7 v4_8 v4_9) H → va_D A (wd_X10_outlineRun cI a0 a1 a2 a3 a4 v0_3 v0_4 v0_5 v0_6 v0_7 s33.2.1 s33.2.2.1 v1_5 s33.2.2.2.1 s33.2.2.2.2.1 s33.2.2.2.2.2 v2_10 v2_11 v2_4 v2_5 v2_6 v2_7 v2_8 v2_9 v4_10 v4_1 v4_2 v4_3 v4_4 v4_5 v4_6 v4_7 v4_8 v4_9) → va_S A s.heap H locs → lv_has ls 6 [(0, .ref (a0 0)), (2, .int x2), (3, .int x3), (4, .int x4), (5, .int s33.1)] → W p l e (headSpec wz_X10_outlineRun rm_X10_outlineRun).room s m [.ref (a0 0), .int p1].toArray below meth c H locs 0 0 (MQ below (Q_X10_outlineRun dC dI cI a0 a1 a2 a3 a4 v0_3 v0_4 v0_5 v0_6 v0_7 v1_5 v2_10 v2_11 v2_4 v2_5 v2_6 v2_7 v2_8 v2_9 v4_10 v4_1 v4_2 v4_3 v4_4 v4_5 v4_6 v4_7 v4_8 v4_9 u A) [.ref (a0 0), .int p1].toArray s 0 0 A) (F0 m 33 ls []) := by
      intro k
      induction k with
      | zero => intro s33 h; exact absurd h lpq_zero
      | succ k ih_33 =>
        intro s33 h H locs ls hP hD hS hl
        obtain ⟨o_33, hF, hO_33⟩ := lpq_succ h
        unfold F_X10_outlineRun_b33 at hF
        have j78 : ∀ (v1_3 : Int32) (v1_4 : Int32) (v1_0 : Nat → Int32) (v1_1 : Nat → Int32) (v1_2 : Nat → Int32) (x5 : Int32), F_X10_outlineRun_j78 v1_3 v1_4 v1_0 v1_1 v1_2 x5 = some o_33 → ∀ (H : Heap) (locs : List Loc) (ls : Array Slot), va_P (dC, dI) vwCl (wd_X10_outlineRun cI a0 a1 a2 a3 a4 v0_3 v0_4 v0_5 v0_6 v0_7 v1_3 v1_4 v1_5 v1_0 v1_1 v1_2 v2_10 v2_11 v2_4 v2_5 v2_6 v2_7 v2_8 v2_9 v4_10 v4_1 v4_2 v4_3 v4_4 v4_5 v4_6 v4_7 v4_8 v4_9) H → va_D A (wd_X10_outlineRun cI a0 a1 a2 a3 a4 v0_3 v0_4 v0_5 v0_6 v0_7 v1_3 v1_4 v1_5 v1_0 v1_1 v1_2 v2_10 v2_11 v2_4 v2_5 v2_6 v2_7 v2_8 v2_9 v4_10 v4_1 v4_2 v4_3 v4_4 v4_5 v4_6 v4_7 v4_8 v4_9) → va_S A s.heap H locs → lv_has ls 6 [(0, .ref (a0 0)), (2, .int x2), (3, .int x3), (4, .int x4), (5, .int x5)] → W p l e (headSpec wz_X10_outlineRun rm_X10_outlineRun).room s m [.ref (a0 0), .int p1].toArray below meth c H locs 0 0 (MQ below (Q_X10_outlineRun dC dI cI a0 a1 a2 a3 a4 v0_3 v0_4 v0_5 v0_6 v0_7 v1_5 v2_10 v2_11 v2_4 v2_5 v2_6 v2_7 v2_8 v2_9 v4_10 v4_1 v4_2 v4_3 v4_4 v4_5 v4_6 v4_7 v4_8 v4_9 u A) [.ref (a0 0), .int p1].toArray s 0 0 A) (F0 m 78 ls []) := by
          intro v1_3 v1_4 v1_0 v1_1 v1_2 x5 hF H locs ls hP hD hS hl
          unfold F_X10_outlineRun_j78 at hF
          obtain ⟨y_9, ey_9, hF⟩ := lt_some hF
          refine lv_iinc (v := y_9) (lv' := [(5, .int y_9), (0, .ref (a0 0)), (2, .int x2), (3, .int x3), (4, .int x4)]) hx hb dX10_outlineRun_78 hl (k := 4) rfl (by rw [ey_9]; rfl) (by decide) rfl (fun ls hl => ?_)
          refine lv_goto (tgt := 33) hx hb dX10_outlineRun_81 (by decide) ?_
          obtain rfl := Option.some.inj hF
          exact ih_33 _ hO_33 _ _ _ hP hD hS (lv_sub hl [1, 2, 3, 4, 0] rfl)
        refine lv_iload hx hb dX10_outlineRun_33 (lv_at hl 4 rfl) ?_
        refine lv_iload_n hx hb dX10_outlineRun_35 rfl (lv_at hl 2 rfl) ?_
        refine lv_icmp_ge (tgt := 84) hx hb dX10_outlineRun_36 (by decide) (fun c_10 => ?_) (fun c_10 => ?_)
        · have hF := it_t hF c_10
          obtain rfl := Option.some.inj hF
          obtain rfl := lpq_x hO_33
          have hF := hE_33
          exact j84 s33.2.1 s33.2.2.1 s33.2.2.2.1 s33.2.2.2.2.1 s33.2.2.2.2.2 x2 x3 x4 hF _ _ _ hP hD hS (lv_sub hl [0, 1, 2, 3] rfl)
        · have hF := it_f hF c_10
          refine lv_aload_n hx hb dX10_outlineRun_39 rfl (lv_at hl 0 rfl) ?_
          refine lv_iload hx hb dX10_outlineRun_40 (lv_at hl 4 rfl) ?_
          obtain ⟨u_11, hu_11, hF⟩ := obd_some hF
          have hPc := hP.sub (ws' := (wd_X10_addStrip cI a0 a1 a2 a3 a4 v0_3 v0_4 v0_5 v0_6 v0_7 s33.2.1 s33.2.2.1 v1_5 s33.2.2.2.1 s33.2.2.2.2.1 s33.2.2.2.2.2 v2_10 v2_11 v2_7 v2_8 v2_9 v4_10 v4_1 v4_2 v4_3 v4_4 v4_5 v4_6 v4_7)) [0, 1, 2, 3, 4, 5, 9, 10, 11, 12, 13, 14, 15, 16, 17, 18, 19] rfl
          have hDc := hD.sub (ws' := (wd_X10_addStrip cI a0 a1 a2 a3 a4 v0_3 v0_4 v0_5 v0_6 v0_7 s33.2.1 s33.2.2.1 v1_5 s33.2.2.2.1 s33.2.2.2.2.1 s33.2.2.2.2.2 v2_10 v2_11 v2_7 v2_8 v2_9 v4_10 v4_1 v4_2 v4_3 v4_4 v4_5 v4_6 v4_7)) [0, 1, 2, 3, 4, 5, 9, 10, 11, 12, 13, 14, 15, 16, 17, 18, 19] rfl rfl
          refine q_callv (wc := (wd_X10_addStrip cI a0 a1 a2 a3 a4 v0_3 v0_4 v0_5 v0_6 v0_7 s33.2.1 s33.2.2.1 v1_5 s33.2.2.2.1 s33.2.2.2.2.1 s33.2.2.2.2.2 v2_10 v2_11 v2_7 v2_8 v2_9 v4_10 v4_1 v4_2 v4_3 v4_4 v4_5 v4_6 v4_7)) (w1 := (wd_X10_addStrip cI a0 a1 a2 a3 a4 v0_3 v0_4 v0_5 v0_6 v0_7 u_11.1 u_11.2.1 v1_5 u_11.2.2.1 u_11.2.2.2.1 u_11.2.2.2.2 v2_10 v2_11 v2_7 v2_8 v2_9 v4_10 v4_1 v4_2 v4_3 v4_4 v4_5 v4_6 v4_7)) (ws' := (wd_X10_outlineRun cI a0 a1 a2 a3 a4 v0_3 v0_4 v0_5 v0_6 v0_7 u_11.1 u_11.2.1 v1_5 u_11.2.2.1 u_11.2.2.2.1 u_11.2.2.2.2 v2_10 v2_11 v2_4 v2_5 v2_6 v2_7 v2_8 v2_9 v4_10 v4_1 v4_2 v4_3 v4_4 v4_5 v4_6 v4_7 v4_8 v4_9)) hP hD hS hA [0, 1, 2, 3, 4, 5, 9, 10, 11, 12, 13, 14, 15, 16, 17, 18, 19] [6, 7, 8, 20, 21] [5, 6, 7, 8, 9, 10, 0, 1, 2, 11, 12, 13, 14, 15, 16, 17, 18, 19, 20, 21, 3, 4] rfl rfl rfl (by decide) rfl rfl (va_runV (As := [.int s33.1]) (rest := []) ⟨hx, hb, hml, hown, hta⟩ (c_X10_addStrip l dC dI cI H.size a0 a1 a2 a3 a4 v0_3 v0_4 v0_5 v0_6 v0_7 s33.2.1 s33.2.2.1 v1_5 s33.2.2.2.1 s33.2.2.2.2.1 s33.2.2.2.2.2 v2_10 v2_11 v2_7 v2_8 v2_9 v4_10 v4_1 v4_2 v4_3 v4_4 v4_5 v4_6 v4_7 s33.1 u_11 hu_11) (cwV 1 hta (ga_V mA513 mA514 mA515 mA23 mA516) rfl rfl rfl (by decide +kernel) ⟨Nat.le_of_ble_eq_true rfl, Nat.le_of_ble_eq_true rfl⟩) ⟨q_fb, va_recv hK hP (ci := 9) (q0 := 0) rfl rfl, q_ps hPc hK hDc⟩ rfl rfl hl.1 rfl (lv_room (Nat.le_of_ble_eq_true rfl)) dX10_outlineRun_42 ⟨Nat.zero_le _, Nat.zero_le _⟩) (fun H locs hP hD hS => ?_)
          refine lv_iload hx hb dX10_outlineRun_45 (lv_at hl 4 rfl) ?_
          refine lv_iconst (v := 1) hx hb dX10_outlineRun_47 (by decide) ?_
          refine lv_iadd hx hb dX10_outlineRun_48 ?_
          refine lv_iload_n hx hb dX10_outlineRun_49 rfl (lv_at hl 2 rfl) ?_
          refine lv_icmp_ge (tgt := 66) hx hb dX10_outlineRun_50 (by decide) (fun c_12 => ?_) (fun c_12 => ?_)
          · have hF := it_t hF c_12
            refine lv_iload hx hb dX10_outlineRun_66 (lv_at hl 3 rfl) ?_
            refine lv_if_eq (tgt := 78) hx hb dX10_outlineRun_68 (by decide) (fun c_13 => ?_) (fun c_13 => ?_)
            · have hF := it_t hF c_13
              exact j78 u_11.1 u_11.2.1 u_11.2.2.1 u_11.2.2.2.1 u_11.2.2.2.2 s33.1 hF _ _ _ hP hD hS (lv_sub hl [0, 1, 2, 3, 4] rfl)
            · have hF := it_f hF c_13
              refine lv_aload_n hx hb dX10_outlineRun_71 rfl (lv_at hl 0 rfl) ?_
              refine lv_iload hx hb dX10_outlineRun_72 (lv_at hl 4 rfl) ?_
              refine lv_iload_n hx hb dX10_outlineRun_74 rfl (lv_at hl 1 rfl) ?_
              obtain ⟨u_14, hu_14, hF⟩ := obd_some hF
              have hPc := hP.sub (ws' := (wd_X10_addJoin cI a0 a1 a2 a3 a4 v0_3 v0_4 v0_5 v0_6 v0_7 u_11.1 u_11.2.1 v1_5 u_11.2.2.1 u_11.2.2.2.1 u_11.2.2.2.2 v2_10 v2_11 v2_7 v2_9 v4_10 v4_1 v4_2 v4_3 v4_4 v4_5 v4_6 v4_7)) [0, 1, 2, 3, 4, 5, 9, 11, 12, 13, 14, 15, 16, 17, 18, 19] rfl
              have hDc := hD.sub (ws' := (wd_X10_addJoin cI a0 a1 a2 a3 a4 v0_3 v0_4 v0_5 v0_6 v0_7 u_11.1 u_11.2.1 v1_5 u_11.2.2.1 u_11.2.2.2.1 u_11.2.2.2.2 v2_10 v2_11 v2_7 v2_9 v4_10 v4_1 v4_2 v4_3 v4_4 v4_5 v4_6 v4_7)) [0, 1, 2, 3, 4, 5, 9, 11, 12, 13, 14, 15, 16, 17, 18, 19] rfl rfl
              refine q_callv (wc := (wd_X10_addJoin cI a0 a1 a2 a3 a4 v0_3 v0_4 v0_5 v0_6 v0_7 u_11.1 u_11.2.1 v1_5 u_11.2.2.1 u_11.2.2.2.1 u_11.2.2.2.2 v2_10 v2_11 v2_7 v2_9 v4_10 v4_1 v4_2 v4_3 v4_4 v4_5 v4_6 v4_7)) (w1 := (wd_X10_addJoin cI a0 a1 a2 a3 a4 v0_3 v0_4 v0_5 v0_6 v0_7 u_14.1 u_14.2.1 v1_5 u_14.2.2.1 u_14.2.2.2.1 u_14.2.2.2.2 v2_10 v2_11 v2_7 v2_9 v4_10 v4_1 v4_2 v4_3 v4_4 v4_5 v4_6 v4_7)) (ws' := (wd_X10_outlineRun cI a0 a1 a2 a3 a4 v0_3 v0_4 v0_5 v0_6 v0_7 u_14.1 u_14.2.1 v1_5 u_14.2.2.1 u_14.2.2.2.1 u_14.2.2.2.2 v2_10 v2_11 v2_4 v2_5 v2_6 v2_7 v2_8 v2_9 v4_10 v4_1 v4_2 v4_3 v4_4 v4_5 v4_6 v4_7 v4_8 v4_9)) hP hD hS hA [0, 1, 2, 3, 4, 5, 9, 11, 12, 13, 14, 15, 16, 17, 18, 19] [6, 7, 8, 10, 20, 21] [6, 7, 8, 9, 10, 11, 0, 1, 2, 12, 3, 13, 14, 15, 16, 17, 18, 19, 20, 21, 4, 5] rfl rfl rfl (by decide) rfl rfl (va_runV (As := [.int s33.1, .int x2]) (rest := []) ⟨hx, hb, hml, hown, hta⟩ (c_X10_addJoin l dC dI cI H.size a0 a1 a2 a3 a4 v0_3 v0_4 v0_5 v0_6 v0_7 u_11.1 u_11.2.1 v1_5 u_11.2.2.1 u_11.2.2.2.1 u_11.2.2.2.2 v2_10 v2_11 v2_7 v2_9 v4_10 v4_1 v4_2 v4_3 v4_4 v4_5 v4_6 v4_7 s33.1 x2 u_14 hu_14) (cwV 2 hta (ga_V mA530 mA531 mA532 mA23 mA533) rfl rfl rfl (by decide +kernel) ⟨Nat.le_of_ble_eq_true rfl, Nat.le_of_ble_eq_true rfl⟩) ⟨q_fb, va_recv hK hP (ci := 9) (q0 := 0) rfl rfl, q_ps hPc hK hDc⟩ rfl rfl hl.1 rfl (lv_room (Nat.le_of_ble_eq_true rfl)) dX10_outlineRun_75 ⟨Nat.zero_le _, Nat.zero_le _⟩) (fun H locs hP hD hS => ?_)
              exact j78 u_14.1 u_14.2.1 u_14.2.2.1 u_14.2.2.2.1 u_14.2.2.2.2 s33.1 hF _ _ _ hP hD hS (lv_sub hl [0, 1, 2, 3, 4] rfl)
          · have hF := it_f hF c_12
            refine lv_aload_n hx hb dX10_outlineRun_53 rfl (lv_at hl 0 rfl) ?_
            refine lv_iload hx hb dX10_outlineRun_54 (lv_at hl 4 rfl) ?_
            refine lv_iload hx hb dX10_outlineRun_56 (lv_at hl 4 rfl) ?_
            refine lv_iconst (v := 1) hx hb dX10_outlineRun_58 (by decide) ?_
            refine lv_iadd hx hb dX10_outlineRun_59 ?_
            obtain ⟨u_15, hu_15, hF⟩ := obd_some hF
            have hPc := hP.sub (ws' := (wd_X10_addJoin cI a0 a1 a2 a3 a4 v0_3 v0_4 v0_5 v0_6 v0_7 u_11.1 u_11.2.1 v1_5 u_11.2.2.1 u_11.2.2.2.1 u_11.2.2.2.2 v2_10 v2_11 v2_7 v2_9 v4_10 v4_1 v4_2 v4_3 v4_4 v4_5 v4_6 v4_7)) [0, 1, 2, 3, 4, 5, 9, 11, 12, 13, 14, 15, 16, 17, 18, 19] rfl
            have hDc := hD.sub (ws' := (wd_X10_addJoin cI a0 a1 a2 a3 a4 v0_3 v0_4 v0_5 v0_6 v0_7 u_11.1 u_11.2.1 v1_5 u_11.2.2.1 u_11.2.2.2.1 u_11.2.2.2.2 v2_10 v2_11 v2_7 v2_9 v4_10 v4_1 v4_2 v4_3 v4_4 v4_5 v4_6 v4_7)) [0, 1, 2, 3, 4, 5, 9, 11, 12, 13, 14, 15, 16, 17, 18, 19] rfl rfl
            refine q_callv (wc := (wd_X10_addJoin cI a0 a1 a2 a3 a4 v0_3 v0_4 v0_5 v0_6 v0_7 u_11.1 u_11.2.1 v1_5 u_11.2.2.1 u_11.2.2.2.1 u_11.2.2.2.2 v2_10 v2_11 v2_7 v2_9 v4_10 v4_1 v4_2 v4_3 v4_4 v4_5 v4_6 v4_7)) (w1 := (wd_X10_addJoin cI a0 a1 a2 a3 a4 v0_3 v0_4 v0_5 v0_6 v0_7 u_15.1 u_15.2.1 v1_5 u_15.2.2.1 u_15.2.2.2.1 u_15.2.2.2.2 v2_10 v2_11 v2_7 v2_9 v4_10 v4_1 v4_2 v4_3 v4_4 v4_5 v4_6 v4_7)) (ws' := (wd_X10_outlineRun cI a0 a1 a2 a3 a4 v0_3 v0_4 v0_5 v0_6 v0_7 u_15.1 u_15.2.1 v1_5 u_15.2.2.1 u_15.2.2.2.1 u_15.2.2.2.2 v2_10 v2_11 v2_4 v2_5 v2_6 v2_7 v2_8 v2_9 v4_10 v4_1 v4_2 v4_3 v4_4 v4_5 v4_6 v4_7 v4_8 v4_9)) hP hD hS hA [0, 1, 2, 3, 4, 5, 9, 11, 12, 13, 14, 15, 16, 17, 18, 19] [6, 7, 8, 10, 20, 21] [6, 7, 8, 9, 10, 11, 0, 1, 2, 12, 3, 13, 14, 15, 16, 17, 18, 19, 20, 21, 4, 5] rfl rfl rfl (by decide) rfl rfl (va_runV (As := [.int s33.1, .int (s33.1 + 1)]) (rest := []) ⟨hx, hb, hml, hown, hta⟩ (c_X10_addJoin l dC dI cI H.size a0 a1 a2 a3 a4 v0_3 v0_4 v0_5 v0_6 v0_7 u_11.1 u_11.2.1 v1_5 u_11.2.2.1 u_11.2.2.2.1 u_11.2.2.2.2 v2_10 v2_11 v2_7 v2_9 v4_10 v4_1 v4_2 v4_3 v4_4 v4_5 v4_6 v4_7 s33.1 (s33.1 + 1) u_15 hu_15) (cwV 2 hta (ga_V mA530 mA531 mA532 mA23 mA533) rfl rfl rfl (by decide +kernel) ⟨Nat.le_of_ble_eq_true rfl, Nat.le_of_ble_eq_true rfl⟩) ⟨q_fb, va_recv hK hP (ci := 9) (q0 := 0) rfl rfl, q_ps hPc hK hDc⟩ rfl rfl hl.1 rfl (lv_room (Nat.le_of_ble_eq_true rfl)) dX10_outlineRun_60 ⟨Nat.zero_le _, Nat.zero_le _⟩) (fun H locs hP hD hS => ?_)
            refine lv_goto (tgt := 78) hx hb dX10_outlineRun_63 (by decide) ?_
            exact j78 u_15.1 u_15.2.1 u_15.2.2.1 u_15.2.2.2.1 u_15.2.2.2.2 s33.1 hF _ _ _ hP hD hS (lv_sub hl [0, 1, 2, 3, 4] rfl)
    exact kl_33 n _ hL_33 _ _ _ hP hD hS hl
  refine lv_aload_n hx hb dX10_outlineRun_0 rfl (lv_at hl 0 rfl) ?_
  refine va_get (D := (dC, dI)) (ci := 9) (v := .ref (a2 0)) (C := RX10) (T := TX10) (N := 8) hx hb hta uw_X10 hown hK hP 0 rfl rfl 1 (by decide) (hta _ mA57) (fun _ h9 => h9) rfl dX10_outlineRun_1 ?_
  refine lv_iload_n hx hb dX10_outlineRun_4 rfl (lv_at hl 1 rfl) ?_
  obtain ⟨u_16, hu_16, hF⟩ := obd_some hF
  have hPc := hP.sub (ws' := (wd_X8_firstSpanOf cI a2 a3 v2_10 v2_11 v2_5)) [5, 7] rfl
  have hDc := hD.sub (ws' := (wd_X8_firstSpanOf cI a2 a3 v2_10 v2_11 v2_5)) [5, 7] rfl rfl
  refine q_calli (wc := (wd_X8_firstSpanOf cI a2 a3 v2_10 v2_11 v2_5)) (w1 := (wd_X8_firstSpanOf cI a2 a3 v2_10 v2_11 v2_5)) (ws' := (wd_X10_outlineRun cI a0 a1 a2 a3 a4 v0_3 v0_4 v0_5 v0_6 v0_7 v1_3 v1_4 v1_5 v1_0 v1_1 v1_2 v2_10 v2_11 v2_4 v2_5 v2_6 v2_7 v2_8 v2_9 v4_10 v4_1 v4_2 v4_3 v4_4 v4_5 v4_6 v4_7 v4_8 v4_9)) hP hD hS hA [5, 7] [0, 1, 2, 3, 4, 6, 8, 9, 10, 11, 12, 13, 14, 15, 16, 17, 18, 19, 20, 21] [0, 1, 2, 3, 4, 20, 5, 21, 6, 7, 8, 9, 10, 11, 12, 13, 14, 15, 16, 17, 18, 19] rfl rfl rfl (by decide) rfl rfl (va_runV (As := [.int p1]) (rest := []) ⟨hx, hb, hml, hown, hta⟩ (c_X8_firstSpanOf l dC dI cI H.size a2 a3 v2_10 v2_11 v2_5 p1 u_16 hu_16) (cwV 1 hta (ga_V mA504 mA505 mA506 mA56 mA507) rfl rfl rfl (by decide +kernel) ⟨Nat.le_of_ble_eq_true rfl, Nat.le_of_ble_eq_true rfl⟩) ⟨q_fb, va_recv hK hP (ci := 7) (q0 := 5) rfl rfl, q_ps hPc hK hDc⟩ rfl rfl hl.1 rfl (lv_room (Nat.le_of_ble_eq_true rfl)) dX10_outlineRun_5 ⟨Nat.zero_le _, Nat.zero_le _⟩) (fun H locs hP hD hS => ?_)
  refine lv_istore_n (lv' := [(2, .int u_16), (0, .ref (a0 0)), (1, .int p1)]) hx hb dX10_outlineRun_8 rfl hl (by decide) rfl (fun ls hl => ?_)
  refine lv_iload_n hx hb dX10_outlineRun_9 rfl (lv_at hl 0 rfl) ?_
  refine lv_aload_n hx hb dX10_outlineRun_10 rfl (lv_at hl 1 rfl) ?_
  refine va_get (D := (dC, dI)) (ci := 9) (v := .ref (a2 0)) (C := RX10) (T := TX10) (N := 8) hx hb hta uw_X10 hown hK hP 0 rfl rfl 1 (by decide) (hta _ mA57) (fun _ h9 => h9) rfl dX10_outlineRun_11 ?_
  refine lv_iload_n hx hb dX10_outlineRun_14 rfl (lv_at hl 2 rfl) ?_
  obtain ⟨u_17, hu_17, hF⟩ := obd_some hF
  have hPc := hP.sub (ws' := (wd_X8_spansOf cI a2 a3 v2_10 v2_11 v2_6)) [5, 8] rfl
  have hDc := hD.sub (ws' := (wd_X8_spansOf cI a2 a3 v2_10 v2_11 v2_6)) [5, 8] rfl rfl
  refine q_calli (wc := (wd_X8_spansOf cI a2 a3 v2_10 v2_11 v2_6)) (w1 := (wd_X8_spansOf cI a2 a3 v2_10 v2_11 v2_6)) (ws' := (wd_X10_outlineRun cI a0 a1 a2 a3 a4 v0_3 v0_4 v0_5 v0_6 v0_7 v1_3 v1_4 v1_5 v1_0 v1_1 v1_2 v2_10 v2_11 v2_4 v2_5 v2_6 v2_7 v2_8 v2_9 v4_10 v4_1 v4_2 v4_3 v4_4 v4_5 v4_6 v4_7 v4_8 v4_9)) hP hD hS hA [5, 8] [0, 1, 2, 3, 4, 6, 7, 9, 10, 11, 12, 13, 14, 15, 16, 17, 18, 19, 20, 21] [0, 1, 2, 3, 4, 20, 5, 6, 21, 7, 8, 9, 10, 11, 12, 13, 14, 15, 16, 17, 18, 19] rfl rfl rfl (by decide) rfl rfl (va_runV (As := [.int p1]) (rest := [.int u_16]) ⟨hx, hb, hml, hown, hta⟩ (c_X8_spansOf l dC dI cI H.size a2 a3 v2_10 v2_11 v2_6 p1 u_17 hu_17) (cwV 1 hta (ga_V mA508 mA443 mA444 mA56 mA445) rfl rfl rfl (by decide +kernel) ⟨Nat.le_of_ble_eq_true rfl, Nat.le_of_ble_eq_true rfl⟩) ⟨q_fb, va_recv hK hP (ci := 7) (q0 := 5) rfl rfl, q_ps hPc hK hDc⟩ rfl rfl hl.1 rfl (lv_room (Nat.le_of_ble_eq_true rfl)) dX10_outlineRun_15 ⟨Nat.zero_le _, Nat.zero_le _⟩) (fun H locs hP hD hS => ?_)
  refine lv_iadd hx hb dX10_outlineRun_18 ?_
  obtain ⟨y_18, ey_18, hF⟩ := lt_some hF
  refine lv_eqi ey_18 ?_
  refine lv_istore_n (lv' := [(3, .int y_18), (2, .int u_16), (0, .ref (a0 0)), (1, .int p1)]) hx hb dX10_outlineRun_19 rfl hl (by decide) rfl (fun ls hl => ?_)
  refine lv_aload_n hx hb dX10_outlineRun_20 rfl (lv_at hl 2 rfl) ?_
  refine va_get (D := (dC, dI)) (ci := 9) (v := .ref (a2 0)) (C := RX10) (T := TX10) (N := 8) hx hb hta uw_X10 hown hK hP 0 rfl rfl 1 (by decide) (hta _ mA57) (fun _ h9 => h9) rfl dX10_outlineRun_21 ?_
  refine lv_iload_n hx hb dX10_outlineRun_24 rfl (lv_at hl 3 rfl) ?_
  obtain ⟨u_19, hu_19, hF⟩ := obd_some hF
  have hPc := hP.sub (ws' := (wd_X8_isRing cI a2 a3 v2_10 v2_11 v2_4)) [5, 6] rfl
  have hDc := hD.sub (ws' := (wd_X8_isRing cI a2 a3 v2_10 v2_11 v2_4)) [5, 6] rfl rfl
  refine q_callz (wc := (wd_X8_isRing cI a2 a3 v2_10 v2_11 v2_4)) (w1 := (wd_X8_isRing cI a2 a3 v2_10 v2_11 v2_4)) (ws' := (wd_X10_outlineRun cI a0 a1 a2 a3 a4 v0_3 v0_4 v0_5 v0_6 v0_7 v1_3 v1_4 v1_5 v1_0 v1_1 v1_2 v2_10 v2_11 v2_4 v2_5 v2_6 v2_7 v2_8 v2_9 v4_10 v4_1 v4_2 v4_3 v4_4 v4_5 v4_6 v4_7 v4_8 v4_9)) hP hD hS hA [5, 6] [0, 1, 2, 3, 4, 7, 8, 9, 10, 11, 12, 13, 14, 15, 16, 17, 18, 19, 20, 21] [0, 1, 2, 3, 4, 20, 21, 5, 6, 7, 8, 9, 10, 11, 12, 13, 14, 15, 16, 17, 18, 19] rfl rfl rfl (by decide) rfl rfl (va_runV (As := [.int p1]) (rest := []) ⟨hx, hb, hml, hown, hta⟩ (c_X8_isRing l dC dI cI H.size a2 a3 v2_10 v2_11 v2_4 p1 u_19 hu_19) (cwV 1 hta (ga_V mA509 mA510 mA511 mA56 mA512) rfl rfl rfl (by decide +kernel) ⟨Nat.le_of_ble_eq_true rfl, Nat.le_of_ble_eq_true rfl⟩) ⟨q_fb, va_recv hK hP (ci := 7) (q0 := 5) rfl rfl, q_ps hPc hK hDc⟩ rfl rfl hl.1 rfl (lv_room (Nat.le_of_ble_eq_true rfl)) dX10_outlineRun_25 ⟨Nat.zero_le _, Nat.zero_le _⟩) (fun hzu_19 H locs hP hD hS => ?_)
  refine lv_istore (lv' := [(4, .int u_19), (3, .int y_18), (2, .int u_16), (0, .ref (a0 0)), (1, .int p1)]) hx hb dX10_outlineRun_28 hl (by decide) rfl (fun ls hl => ?_)
  refine lv_iload_n hx hb dX10_outlineRun_30 rfl (lv_at hl 2 rfl) ?_
  refine lv_istore (lv' := [(5, .int u_16), (4, .int u_19), (3, .int y_18), (2, .int u_16), (0, .ref (a0 0)), (1, .int p1)]) hx hb dX10_outlineRun_31 hl (by decide) rfl (fun ls hl => ?_)
  exact j33 v1_3 v1_4 v1_0 v1_1 v1_2 u_16 y_18 u_19 u_16 hF _ _ _ hP hD hS (lv_sub hl [4, 3, 2, 1, 0] rfl)

-- StrokeOutliner$Stroke.outline(LStrokeOutliner$Drawing;)V
def F_X10_outline_j135 (v1_3 : Int32) (v1_4 : Int32) (v1_0 : Nat → Int32) (v1_1 : Nat → Int32) (v1_2 : Nat → Int32) (x2 : Int32) : Option (Sum (Int32 × Int32 × Int32 × (Nat → Int32) × (Nat → Int32) × (Nat → Int32)) (Int32 × Int32 × (Nat → Int32) × (Nat → Int32) × (Nat → Int32))) :=
  lt (x2 + 1) (fun y_1 => some (.inl (y_1, v1_3, v1_4, v1_0, v1_1, v1_2)))
def F_X10_outline_b117 (n : Nat) (v0_4 : Int32) (v0_5 : Int32) (v0_6 : Int32) (v0_7 : Int32) (v2_4 : Nat → Int32) (v2_5 : Nat → Int32) (v2_6 : Nat → Int32) (v2_7 : Nat → Int32) (v2_8 : Nat → Int32) (v2_9 : Nat → Int32) (v4_1 : Nat → Int32) (v4_2 : Nat → Int32) (v4_3 : Nat → Int32) (v4_4 : Nat → Int32) (v4_5 : Nat → Int32) (v4_6 : Nat → Int32) (v4_7 : Nat → Int32) (v4_8 : Nat → Int32) (v4_9 : Nat → Int32) (x3 : Int32) (s117 : Int32 × Int32 × Int32 × (Nat → Int32) × (Nat → Int32) × (Nat → Int32)) : Option (Sum (Int32 × Int32 × Int32 × (Nat → Int32) × (Nat → Int32) × (Nat → Int32)) (Int32 × Int32 × (Nat → Int32) × (Nat → Int32) × (Nat → Int32))) :=
  if x3 ≤ s117.1 then some (.inr (s117.2.1, s117.2.2.1, s117.2.2.2.1, s117.2.2.2.2.1, s117.2.2.2.2.2)) else obd (F_X10_outlineRun n v0_4 v0_5 v0_6 v0_7 s117.2.1 s117.2.2.1 s117.2.2.2.1 s117.2.2.2.2.1 s117.2.2.2.2.2 v2_4 v2_5 v2_6 v2_7 v2_8 v2_9 v4_1 v4_2 v4_3 v4_4 v4_5 v4_6 v4_7 v4_8 v4_9 s117.1) (fun u_3 => lt (s117.1 + 1) (fun y_4 => some (.inl (y_4, u_3.1, u_3.2.1, u_3.2.2.1, u_3.2.2.2.1, u_3.2.2.2.2))))
def F_X10_outline_j117 (n : Nat) (v0_4 : Int32) (v0_5 : Int32) (v0_6 : Int32) (v0_7 : Int32) (v1_3 : Int32) (v1_4 : Int32) (v1_0 : Nat → Int32) (v1_1 : Nat → Int32) (v1_2 : Nat → Int32) (v2_4 : Nat → Int32) (v2_5 : Nat → Int32) (v2_6 : Nat → Int32) (v2_7 : Nat → Int32) (v2_8 : Nat → Int32) (v2_9 : Nat → Int32) (v4_1 : Nat → Int32) (v4_2 : Nat → Int32) (v4_3 : Nat → Int32) (v4_4 : Nat → Int32) (v4_5 : Nat → Int32) (v4_6 : Nat → Int32) (v4_7 : Nat → Int32) (v4_8 : Nat → Int32) (v4_9 : Nat → Int32) (x2 : Int32) (x3 : Int32) (x4 : Int32) : Option (Sum (Int32 × Int32 × Int32 × (Nat → Int32) × (Nat → Int32) × (Nat → Int32)) (Int32 × Int32 × (Nat → Int32) × (Nat → Int32) × (Nat → Int32))) :=
  obd (lpq (F_X10_outline_b117 n v0_4 v0_5 v0_6 v0_7 v2_4 v2_5 v2_6 v2_7 v2_8 v2_9 v4_1 v4_2 v4_3 v4_4 v4_5 v4_6 v4_7 v4_8 v4_9 x3) n (x4, v1_3, v1_4, v1_0, v1_1, v1_2)) (fun x_117 => F_X10_outline_j135 x_117.1 x_117.2.1 x_117.2.2.1 x_117.2.2.2.1 x_117.2.2.2.2 x2)
def F_X10_outline_j89 (n : Nat) (v0_4 : Int32) (v0_5 : Int32) (v0_6 : Int32) (v0_7 : Int32) (v1_3 : Int32) (v1_4 : Int32) (v1_0 : Nat → Int32) (v1_1 : Nat → Int32) (v1_2 : Nat → Int32) (v2_1 : Nat → Int32) (v2_4 : Nat → Int32) (v2_5 : Nat → Int32) (v2_6 : Nat → Int32) (v2_7 : Nat → Int32) (v2_8 : Nat → Int32) (v2_9 : Nat → Int32) (v4_1 : Nat → Int32) (v4_2 : Nat → Int32) (v4_3 : Nat → Int32) (v4_4 : Nat → Int32) (v4_5 : Nat → Int32) (v4_6 : Nat → Int32) (v4_7 : Nat → Int32) (v4_8 : Nat → Int32) (v4_9 : Nat → Int32) (x2 : Int32) : Option (Sum (Int32 × Int32 × Int32 × (Nat → Int32) × (Nat → Int32) × (Nat → Int32)) (Int32 × Int32 × (Nat → Int32) × (Nat → Int32) × (Nat → Int32))) :=
  obd (F_X8_firstOf v2_1 x2) (fun u_5 => obd (F_X8_countOf v2_1 x2) (fun u_6 => lt (u_5 + u_6) (fun y_7 => obd (F_X8_firstOf v2_1 x2) (fun u_8 => F_X10_outline_j117 n v0_4 v0_5 v0_6 v0_7 v1_3 v1_4 v1_0 v1_1 v1_2 v2_4 v2_5 v2_6 v2_7 v2_8 v2_9 v4_1 v4_2 v4_3 v4_4 v4_5 v4_6 v4_7 v4_8 v4_9 x2 y_7 u_8))))
def F_X10_outline_b48 (n : Nat) (v0_4 : Int32) (v0_5 : Int32) (v0_6 : Int32) (v0_7 : Int32) (v2_1 : Nat → Int32) (v2_4 : Nat → Int32) (v2_5 : Nat → Int32) (v2_6 : Nat → Int32) (v2_7 : Nat → Int32) (v2_8 : Nat → Int32) (v2_9 : Nat → Int32) (v4_0 : Nat → Int32) (v4_1 : Nat → Int32) (v4_2 : Nat → Int32) (v4_3 : Nat → Int32) (v4_4 : Nat → Int32) (v4_5 : Nat → Int32) (v4_6 : Nat → Int32) (v4_7 : Nat → Int32) (v4_8 : Nat → Int32) (v4_9 : Nat → Int32) (v5_0 : Nat → Int32) (s48 : Int32 × Int32 × Int32 × (Nat → Int32) × (Nat → Int32) × (Nat → Int32)) : Option (Sum (Int32 × Int32 × Int32 × (Nat → Int32) × (Nat → Int32) × (Nat → Int32)) (Int32 × Int32 × (Nat → Int32) × (Nat → Int32) × (Nat → Int32))) :=
  obd (F_X1_subpathCount v5_0) (fun u_9 => if u_9 ≤ s48.1 then some (.inr (s48.2.1, s48.2.2.1, s48.2.2.2.1, s48.2.2.2.2.1, s48.2.2.2.2.2)) else obd (F_X9_countOf v4_0 s48.1) (fun u_11 => if u_11 = 0 then obd (F_X1_xOf v5_0 s48.1 0) (fun u_13 => obd (F_X1_yOf v5_0 s48.1 0) (fun u_14 => obd (F_X10_addDot v0_4 v0_7 s48.2.1 s48.2.2.1 s48.2.2.2.1 s48.2.2.2.2.1 s48.2.2.2.2.2 (64 * u_13) (64 * u_14)) (fun u_15 => F_X10_outline_j89 n v0_4 v0_5 v0_6 v0_7 u_15.1 u_15.2.1 u_15.2.2.1 u_15.2.2.2.1 u_15.2.2.2.2 v2_1 v2_4 v2_5 v2_6 v2_7 v2_8 v2_9 v4_1 v4_2 v4_3 v4_4 v4_5 v4_6 v4_7 v4_8 v4_9 s48.1))) else F_X10_outline_j89 n v0_4 v0_5 v0_6 v0_7 s48.2.1 s48.2.2.1 s48.2.2.2.1 s48.2.2.2.2.1 s48.2.2.2.2.2 v2_1 v2_4 v2_5 v2_6 v2_7 v2_8 v2_9 v4_1 v4_2 v4_3 v4_4 v4_5 v4_6 v4_7 v4_8 v4_9 s48.1))
def F_X10_outline_j48 (n : Nat) (v0_4 : Int32) (v0_5 : Int32) (v0_6 : Int32) (v0_7 : Int32) (v1_3 : Int32) (v1_4 : Int32) (v1_5 : Int32) (v1_0 : Nat → Int32) (v1_1 : Nat → Int32) (v1_2 : Nat → Int32) (v2_1 : Nat → Int32) (v2_4 : Nat → Int32) (v2_5 : Nat → Int32) (v2_6 : Nat → Int32) (v2_7 : Nat → Int32) (v2_8 : Nat → Int32) (v2_9 : Nat → Int32) (v4_0 : Nat → Int32) (v4_1 : Nat → Int32) (v4_2 : Nat → Int32) (v4_3 : Nat → Int32) (v4_4 : Nat → Int32) (v4_5 : Nat → Int32) (v4_6 : Nat → Int32) (v4_7 : Nat → Int32) (v4_8 : Nat → Int32) (v4_9 : Nat → Int32) (v5_0 : Nat → Int32) (x2 : Int32) : Option (Int32 × Int32 × Int32 × Int32 × Int32 × Int32 × Int32 × (Nat → Int32) × (Nat → Int32) × (Nat → Int32)) :=
  obd (lpq (F_X10_outline_b48 n v0_4 v0_5 v0_6 v0_7 v2_1 v2_4 v2_5 v2_6 v2_7 v2_8 v2_9 v4_0 v4_1 v4_2 v4_3 v4_4 v4_5 v4_6 v4_7 v4_8 v4_9 v5_0) n (x2, v1_3, v1_4, v1_0, v1_1, v1_2)) (fun x_48 => some (v0_4, v0_5, v0_6, v0_7, x_48.1, x_48.2.1, v1_5, x_48.2.2.1, x_48.2.2.2.1, x_48.2.2.2.2))
def F_X10_outline (n : Nat) (v1_4 : Int32) (v1_0 : Nat → Int32) (v1_1 : Nat → Int32) (v1_2 : Nat → Int32) (v2_1 : Nat → Int32) (v2_4 : Nat → Int32) (v2_5 : Nat → Int32) (v2_6 : Nat → Int32) (v2_7 : Nat → Int32) (v2_8 : Nat → Int32) (v2_9 : Nat → Int32) (v4_0 : Nat → Int32) (v4_1 : Nat → Int32) (v4_2 : Nat → Int32) (v4_3 : Nat → Int32) (v4_4 : Nat → Int32) (v4_5 : Nat → Int32) (v4_6 : Nat → Int32) (v4_7 : Nat → Int32) (v4_8 : Nat → Int32) (v4_9 : Nat → Int32) (v5_0 : Nat → Int32) : Option (Int32 × Int32 × Int32 × Int32 × Int32 × Int32 × Int32 × (Nat → Int32) × (Nat → Int32) × (Nat → Int32)) :=
  obd (F_X1_halfWidth v5_0) (fun u_16 => obd (F_X1_cell v5_0 1) (fun u_17 => obd (F_X1_cell v5_0 2) (fun u_18 => obd (F_X1_cell v5_0 3) (fun u_19 => lt (F_X7_clear u_16) (fun u_20 => F_X10_outline_j48 n u_16 u_17 u_18 u_19 u_20.1 v1_4 u_20.2 v1_0 v1_1 v1_2 v2_1 v2_4 v2_5 v2_6 v2_7 v2_8 v2_9 v4_0 v4_1 v4_2 v4_3 v4_4 v4_5 v4_6 v4_7 v4_8 v4_9 v5_0 0)))))
abbrev wd_X10_outline (cI : ClassId) (a0 : Nat → Nat) (a1 : Nat → Nat) (a2 : Nat → Nat) (a3 : Nat → Nat) (a4 : Nat → Nat) (a5 : Nat → Nat) (v0_3 : Int32) (v0_4 : Int32) (v0_5 : Int32) (v0_6 : Int32) (v0_7 : Int32) (v1_3 : Int32) (v1_4 : Int32) (v1_5 : Int32) (v1_0 : Nat → Int32) (v1_1 : Nat → Int32) (v1_2 : Nat → Int32) (v2_10 : Int32) (v2_11 : Int32) (v2_1 : Nat → Int32) (v2_4 : Nat → Int32) (v2_5 : Nat → Int32) (v2_6 : Nat → Int32) (v2_7 : Nat → Int32) (v2_8 : Nat → Int32) (v2_9 : Nat → Int32) (v4_10 : Int32) (v4_0 : Nat → Int32) (v4_1 : Nat → Int32) (v4_2 : Nat → Int32) (v4_3 : Nat → Int32) (v4_4 : Nat → Int32) (v4_5 : Nat → Int32) (v4_6 : Nat → Int32) (v4_7 : Nat → Int32) (v4_8 : Nat → Int32) (v4_9 : Nat → Int32) (v5_0 : Nat → Int32) : va_W := [(a0 0, .inr (9, [.ref (a4 0), .ref (a2 0), .ref (a1 0), .int v0_3, .int v0_4, .int v0_5, .int v0_6, .int v0_7])), (a1 0, .inr (6, [.ref (a1 1), .ref (a1 2), .ref (a1 3), .int v1_3, .int v1_4, .int v1_5])), (a1 1, .inl (cI, 2800, .inl v1_0)), (a1 2, .inl (cI, 11200, .inl v1_1)), (a1 3, .inl (cI, 11200, .inl v1_2)), (a2 0, .inr (7, [.ref (a3 0), .ref (a2 2), .ref (a2 3), .ref (a2 4), .ref (a2 5), .ref (a2 6), .ref (a2 7), .ref (a2 8), .ref (a2 9), .ref (a2 10), .int v2_10, .int v2_11])), (a2 2, .inl (cI, 5, .inl v2_1)), (a2 5, .inl (cI, 928, .inl v2_4)), (a2 6, .inl (cI, 928, .inl v2_5)), (a2 7, .inl (cI, 928, .inl v2_6)), (a2 8, .inl (cI, 1024, .inl v2_7)), (a2 9, .inl (cI, 1024, .inl v2_8)), (a2 10, .inl (cI, 1024, .inl v2_9)), (a4 0, .inr (8, [.ref (a4 1), .ref (a4 2), .ref (a4 3), .ref (a4 4), .ref (a4 5), .ref (a4 6), .ref (a4 7), .ref (a4 8), .ref (a4 9), .ref (a4 10), .int v4_10])), (a4 1, .inl (cI, 5, .inl v4_0)), (a4 2, .inl (cI, 32, .inl v4_1)), (a4 3, .inl (cI, 32, .inl v4_2)), (a4 4, .inl (cI, 32, .inl v4_3)), (a4 5, .inl (cI, 32, .inl v4_4)), (a4 6, .inl (cI, 32, .inl v4_5)), (a4 7, .inl (cI, 32, .inl v4_6)), (a4 8, .inl (cI, 32, .inl v4_7)), (a4 9, .inl (cI, 32, .inl v4_8)), (a4 10, .inl (cI, 32, .inl v4_9)), (a5 0, .inr (1, [.ref (a5 1)])), (a5 1, .inl (cI, 86, .inl v5_0))]
abbrev wz_X10_outline : List Cond := .code yX10_outline cX10_outline 5 none :: wALL
abbrev rm_X10_outline : Room := { frames := 4, cells := 0, slots := 0, locals := 123 }
abbrev Q_X10_outline (dC : Nat → ClassId) (dI : Nat → Nat → Nat) (cI : ClassId) (a0 : Nat → Nat) (a1 : Nat → Nat) (a2 : Nat → Nat) (a3 : Nat → Nat) (a4 : Nat → Nat) (a5 : Nat → Nat) (v0_3 : Int32) (v2_10 : Int32) (v2_11 : Int32) (v2_1 : Nat → Int32) (v2_4 : Nat → Int32) (v2_5 : Nat → Int32) (v2_6 : Nat → Int32) (v2_7 : Nat → Int32) (v2_8 : Nat → Int32) (v2_9 : Nat → Int32) (v4_10 : Int32) (v4_0 : Nat → Int32) (v4_1 : Nat → Int32) (v4_2 : Nat → Int32) (v4_3 : Nat → Int32) (v4_4 : Nat → Int32) (v4_5 : Nat → Int32) (v4_6 : Nat → Int32) (v4_7 : Nat → Int32) (v4_8 : Nat → Int32) (v4_9 : Nat → Int32) (v5_0 : Nat → Int32) (u : (Int32 × Int32 × Int32 × Int32 × Int32 × Int32 × Int32 × (Nat → Int32) × (Nat → Int32) × (Nat → Int32))) (A : Nat → Prop) : Array Value → State → Outcome → State → Prop := va_Qv (fun (_ : Unit) => True) (fun _ => q_at dC dI cI A (wd_X10_outline cI a0 a1 a2 a3 a4 a5 v0_3 u.1 u.2.1 u.2.2.1 u.2.2.2.1 u.2.2.2.2.1 u.2.2.2.2.2.1 u.2.2.2.2.2.2.1 u.2.2.2.2.2.2.2.1 u.2.2.2.2.2.2.2.2.1 u.2.2.2.2.2.2.2.2.2 v2_10 v2_11 v2_1 v2_4 v2_5 v2_6 v2_7 v2_8 v2_9 v4_10 v4_0 v4_1 v4_2 v4_3 v4_4 v4_5 v4_6 v4_7 v4_8 v4_9 v5_0)) A
set_option maxHeartbeats 4000000 in
set_option maxRecDepth 100000 in
theorem c_X10_outline (l : Launch) (dC : Nat → ClassId) (dI : Nat → Nat → Nat) (cI : ClassId) (sz : Nat) (a0 : Nat → Nat) (a1 : Nat → Nat) (a2 : Nat → Nat) (a3 : Nat → Nat) (a4 : Nat → Nat) (a5 : Nat → Nat) (v0_3 : Int32) (v0_4 : Int32) (v0_5 : Int32) (v0_6 : Int32) (v0_7 : Int32) (v1_3 : Int32) (v1_4 : Int32) (v1_5 : Int32) (v1_0 : Nat → Int32) (v1_1 : Nat → Int32) (v1_2 : Nat → Int32) (v2_10 : Int32) (v2_11 : Int32) (v2_1 : Nat → Int32) (v2_4 : Nat → Int32) (v2_5 : Nat → Int32) (v2_6 : Nat → Int32) (v2_7 : Nat → Int32) (v2_8 : Nat → Int32) (v2_9 : Nat → Int32) (v4_10 : Int32) (v4_0 : Nat → Int32) (v4_1 : Nat → Int32) (v4_2 : Nat → Int32) (v4_3 : Nat → Int32) (v4_4 : Nat → Int32) (v4_5 : Nat → Int32) (v4_6 : Nat → Int32) (v4_7 : Nat → Int32) (v4_8 : Nat → Int32) (v4_9 : Nat → Int32) (v5_0 : Nat → Int32) (n : Nat) (u : (Int32 × Int32 × Int32 × Int32 × Int32 × Int32 × Int32 × (Nat → Int32) × (Nat → Int32) × (Nat → Int32))) (hF : F_X10_outline n v1_4 v1_0 v1_1 v1_2 v2_1 v2_4 v2_5 v2_6 v2_7 v2_8 v2_9 v4_0 v4_1 v4_2 v4_3 v4_4 v4_5 v4_6 v4_7 v4_8 v4_9 v5_0 = some u) : Met l yX10_outline wz_X10_outline rm_X10_outline (va_Pc [.ref (a0 0), .ref (a5 0)] (q_pre dC dI cI (wd_X10_outline cI a0 a1 a2 a3 a4 a5 v0_3 v0_4 v0_5 v0_6 v0_7 v1_3 v1_4 v1_5 v1_0 v1_1 v1_2 v2_10 v2_11 v2_1 v2_4 v2_5 v2_6 v2_7 v2_8 v2_9 v4_10 v4_0 v4_1 v4_2 v4_3 v4_4 v4_5 v4_6 v4_7 v4_8 v4_9 v5_0) sz)) (Q_X10_outline dC dI cI a0 a1 a2 a3 a4 a5 v0_3 v2_10 v2_11 v2_1 v2_4 v2_5 v2_6 v2_7 v2_8 v2_9 v4_10 v4_0 v4_1 v4_2 v4_3 v4_4 v4_5 v4_6 v4_7 v4_8 v4_9 v5_0 u (va_A (wd_X10_outline cI a0 a1 a2 a3 a4 a5 v0_3 v0_4 v0_5 v0_6 v0_7 v1_3 v1_4 v1_5 v1_0 v1_1 v1_2 v2_10 v2_11 v2_1 v2_4 v2_5 v2_6 v2_7 v2_8 v2_9 v4_10 v4_0 v4_1 v4_2 v4_3 v4_4 v4_5 v4_6 v4_7 v4_8 v4_9 v5_0) sz)) 0 0 (va_A (wd_X10_outline cI a0 a1 a2 a3 a4 a5 v0_3 v0_4 v0_5 v0_6 v0_7 v1_3 v1_4 v1_5 v1_0 v1_1 v1_2 v2_10 v2_11 v2_1 v2_4 v2_5 v2_6 v2_7 v2_8 v2_9 v4_10 v4_0 v4_1 v4_2 v4_3 v4_4 v4_5 v4_6 v4_7 v4_8 v4_9 v5_0) sz) := by
  refine Met.ofW (cc := cX10_outline) (maxL := 5) (ret := none) (by decide) rfl ?_
  intro p e s m args below meth c s₁ B hml hv
  obtain ⟨rfl, hsz, hP, hK, hD0⟩ := hv
  have hx := B.exec
  have hb := B.bytes
  have hr := B.returns
  have hts := atoms_spec (ws := wz_X10_outline) B.pre
  have hta := wz_tl hts
  have hown : s.vm.findClass RX10 = some m.cls := findClass_of_methodNamed B.named
  have hlocks := B.notSynchronized
  subst hsz
  have hD := hD0.self (sz := s.heap.size)
  generalize hAe : va_A (wd_X10_outline cI a0 a1 a2 a3 a4 a5 v0_3 v0_4 v0_5 v0_6 v0_7 v1_3 v1_4 v1_5 v1_0 v1_1 v1_2 v2_10 v2_11 v2_1 v2_4 v2_5 v2_6 v2_7 v2_8 v2_9 v4_10 v4_0 v4_1 v4_2 v4_3 v4_4 v4_5 v4_6 v4_7 v4_8 v4_9 v5_0) s.heap.size = A at hD ⊢
  have hA : ∀ q : Nat, s.heap.size ≤ q → A q := fun q h => by rw [← hAe]; exact Or.inr h
  have hS : va_S A s.heap s.heap [] := va_S.rf
  have hP : va_P (dC, dI) vwCl (wd_X10_outline cI a0 a1 a2 a3 a4 a5 v0_3 v0_4 v0_5 v0_6 v0_7 v1_3 v1_4 v1_5 v1_0 v1_1 v1_2 v2_10 v2_11 v2_1 v2_4 v2_5 v2_6 v2_7 v2_8 v2_9 v4_10 v4_0 v4_1 v4_2 v4_3 v4_4 v4_5 v4_6 v4_7 v4_8 v4_9 v5_0) s.heap := hP
  have hl := lv_entry ([.ref (a0 0), .ref (a5 0)]) (n := 5) (Nat.le_of_ble_eq_true rfl)
  rw [lg_entry_eq]
  generalize (lg_sl ([.ref (a0 0), .ref (a5 0)]) ++ List.replicate (5 - (lg_sl ([.ref (a0 0), .ref (a5 0)])).length) Slot.unset).toArray = ls at hl ⊢
  have hl : lv_has ls 5 [(0, .ref (a0 0)), (1, .ref (a5 0))] := hl
  obtain ⟨H, hHe⟩ : ∃ H, H = s.heap := ⟨_, rfl⟩
  have hS : va_S A s.heap H [] := by rw [hHe]; exact hS
  have hP : va_P (dC, dI) vwCl (wd_X10_outline cI a0 a1 a2 a3 a4 a5 v0_3 v0_4 v0_5 v0_6 v0_7 v1_3 v1_4 v1_5 v1_0 v1_1 v1_2 v2_10 v2_11 v2_1 v2_4 v2_5 v2_6 v2_7 v2_8 v2_9 v4_10 v4_0 v4_1 v4_2 v4_3 v4_4 v4_5 v4_6 v4_7 v4_8 v4_9 v5_0) H := by rw [hHe]; exact hP
  rw [← hHe]
  unfold F_X10_outline at hF
  have j48 : ∀ (v0_4 : Int32) (v0_5 : Int32) (v0_6 : Int32) (v0_7 : Int32) (v1_3 : Int32) (v1_4 : Int32) (v1_5 : Int32) (v1_0 : Nat → Int32) (v1_1 : Nat → Int32) (v1_2 : Nat → Int32) (x2 : Int32), F_X10_outline_j48 n v0_4 v0_5 v0_6 v0_7 v1_3 v1_4 v1_5 v1_0 v1_1 v1_2 v2_1 v2_4 v2_5 v2_6 v2_7 v2_8 v2_9 v4_0 v4_1 v4_2 v4_3 v4_4 v4_5 v4_6 v4_7 v4_8 v4_9 v5_0 x2 = some u → ∀ (H : Heap) (locs : List Loc) (ls : Array Slot), va_P (dC, dI) vwCl (wd_X10_outline cI a0 a1 a2 a3 a4 a5 v0_3 v0_4 v0_5 v0_6 v0_7 v1_3 v1_4 v1_5 v1_0 v1_1 v1_2 v2_10 v2_11 v2_1 v2_4 v2_5 v2_6 v2_7 v2_8 v2_9 v4_10 v4_0 v4_1 v4_2 v4_3 v4_4 v4_5 v4_6 v4_7 v4_8 v4_9 v5_0) H → va_D A (wd_X10_outline cI a0 a1 a2 a3 a4 a5 v0_3 v0_4 v0_5 v0_6 v0_7 v1_3 v1_4 v1_5 v1_0 v1_1 v1_2 v2_10 v2_11 v2_1 v2_4 v2_5 v2_6 v2_7 v2_8 v2_9 v4_10 v4_0 v4_1 v4_2 v4_3 v4_4 v4_5 v4_6 v4_7 v4_8 v4_9 v5_0) → va_S A s.heap H locs → lv_has ls 5 [(0, .ref (a0 0)), (1, .ref (a5 0)), (2, .int x2)] → W p l e (headSpec wz_X10_outline rm_X10_outline).room s m [.ref (a0 0), .ref (a5 0)].toArray below meth c H locs 0 0 (MQ below (Q_X10_outline dC dI cI a0 a1 a2 a3 a4 a5 v0_3 v2_10 v2_11 v2_1 v2_4 v2_5 v2_6 v2_7 v2_8 v2_9 v4_10 v4_0 v4_1 v4_2 v4_3 v4_4 v4_5 v4_6 v4_7 v4_8 v4_9 v5_0 u A) [.ref (a0 0), .ref (a5 0)].toArray s 0 0 A) (F0 m 48 ls []) := by
    intro v0_4 v0_5 v0_6 v0_7 v1_3 v1_4 v1_5 v1_0 v1_1 v1_2 x2 hF H locs ls hP hD hS hl
    unfold F_X10_outline_j48 at hF
    obtain ⟨x_48, hL_48, hE_48⟩ := obd_some hF
    have kl_48 : ∀ (k : Nat) (s48 : Int32 × Int32 × Int32 × (Nat → Int32) × (Nat → Int32) × (Nat → Int32)), lpq (F_X10_outline_b48 n v0_4 v0_5 v0_6 v0_7 v2_1 v2_4 v2_5 v2_6 v2_7 v2_8 v2_9 v4_0 v4_1 v4_2 v4_3 v4_4 v4_5 v4_6 v4_7 v4_8 v4_9 v5_0) k s48 = some x_48 → ∀ (H : Heap) (locs : List Loc) (ls : Array Slot), va_P (dC, dI) vwCl (wd_X10_outline cI a0 a1 a2 a3 a4 a5 v0_3 v0_4 v0_5 v0_6 v0_7 s48.2.1 s48.2.2.1 v1_5 s48.2.2.2.1 s48.2.2.2.2.1 s48.2.2.2.2.2 v2_10 v2_11 v2_1 v2_4 v2_5 v2_6 v2_7 v2_8 v2_9 v4_10 v4_0 v4_1 v4_2 v4_3 v4_4 v4_5 v4_6 v4_7 v4_8 v4_9 v5_0) H → va_D A (wd_X10_outline cI a0 a1 a2 a3 a4 a5 v0_3 v0_4 v0_5 v0_6 v0_7 s48.2.1 s48.2.2.1 v1_5 s48.2.2.2.1 s48.2.2.2.2.1 s48.2.2.2.2.2 v2_10 v2_11 v2_1 v2_4 v2_5 v2_6 v2_7 v2_8 v2_9 v4_10 v4_0 v4_1 v4_2 v4_3 v4_4 v4_5 v4_6 v4_7 v4_8 v4_9 v5_0) → va_S A s.heap H locs → lv_has ls 5 [(0, .ref (a0 0)), (1, .ref (a5 0)), (2, .int s48.1)] → W p l e (headSpec wz_X10_outline rm_X10_outline).room s m [.ref (a0 0), .ref (a5 0)].toArray below meth c H locs 0 0 (MQ below (Q_X10_outline dC dI cI a0 a1 a2 a3 a4 a5 v0_3 v2_10 v2_11 v2_1 v2_4 v2_5 v2_6 v2_7 v2_8 v2_9 v4_10 v4_0 v4_1 v4_2 v4_3 v4_4 v4_5 v4_6 v4_7 v4_8 v4_9 v5_0 u A) [.ref (a0 0), .ref (a5 0)].toArray s 0 0 A) (F0 m 48 ls []) := by
      intro k
      induction k with
      | zero => intro s48 h; exact absurd h lpq_zero
      | succ k ih_48 =>
        intro s48 h H locs ls hP hD hS hl
        obtain ⟨o_48, hF, hO_48⟩ := lpq_succ h
        unfold F_X10_outline_b48 at hF
        have j135 : ∀ (v1_3 : Int32) (v1_4 : Int32) (v1_0 : Nat → Int32) (v1_1 : Nat → Int32) (v1_2 : Nat → Int32) (x2 : Int32), F_X10_outline_j135 v1_3 v1_4 v1_0 v1_1 v1_2 x2 = some o_48 → ∀ (H : Heap) (locs : List Loc) (ls : Array Slot), va_P (dC, dI) vwCl (wd_X10_outline cI a0 a1 a2 a3 a4 a5 v0_3 v0_4 v0_5 v0_6 v0_7 v1_3 v1_4 v1_5 v1_0 v1_1 v1_2 v2_10 v2_11 v2_1 v2_4 v2_5 v2_6 v2_7 v2_8 v2_9 v4_10 v4_0 v4_1 v4_2 v4_3 v4_4 v4_5 v4_6 v4_7 v4_8 v4_9 v5_0) H → va_D A (wd_X10_outline cI a0 a1 a2 a3 a4 a5 v0_3 v0_4 v0_5 v0_6 v0_7 v1_3 v1_4 v1_5 v1_0 v1_1 v1_2 v2_10 v2_11 v2_1 v2_4 v2_5 v2_6 v2_7 v2_8 v2_9 v4_10 v4_0 v4_1 v4_2 v4_3 v4_4 v4_5 v4_6 v4_7 v4_8 v4_9 v5_0) → va_S A s.heap H locs → lv_has ls 5 [(0, .ref (a0 0)), (1, .ref (a5 0)), (2, .int x2)] → W p l e (headSpec wz_X10_outline rm_X10_outline).room s m [.ref (a0 0), .ref (a5 0)].toArray below meth c H locs 0 0 (MQ below (Q_X10_outline dC dI cI a0 a1 a2 a3 a4 a5 v0_3 v2_10 v2_11 v2_1 v2_4 v2_5 v2_6 v2_7 v2_8 v2_9 v4_10 v4_0 v4_1 v4_2 v4_3 v4_4 v4_5 v4_6 v4_7 v4_8 v4_9 v5_0 u A) [.ref (a0 0), .ref (a5 0)].toArray s 0 0 A) (F0 m 135 ls []) := by
          intro v1_3 v1_4 v1_0 v1_1 v1_2 x2 hF H locs ls hP hD hS hl
          unfold F_X10_outline_j135 at hF
          obtain ⟨y_1, ey_1, hF⟩ := lt_some hF
          refine lv_iinc (v := y_1) (lv' := [(2, .int y_1), (0, .ref (a0 0)), (1, .ref (a5 0))]) hx hb dX10_outline_135 hl (k := 2) rfl (by rw [ey_1]; rfl) (by decide) rfl (fun ls hl => ?_)
          refine lv_goto (tgt := 48) hx hb dX10_outline_138 (by decide) ?_
          obtain rfl := Option.some.inj hF
          exact ih_48 _ hO_48 _ _ _ hP hD hS (lv_sub hl [1, 2, 0] rfl)
        have j117 : ∀ (v1_3 : Int32) (v1_4 : Int32) (v1_0 : Nat → Int32) (v1_1 : Nat → Int32) (v1_2 : Nat → Int32) (x2 : Int32) (x3 : Int32) (x4 : Int32), F_X10_outline_j117 n v0_4 v0_5 v0_6 v0_7 v1_3 v1_4 v1_0 v1_1 v1_2 v2_4 v2_5 v2_6 v2_7 v2_8 v2_9 v4_1 v4_2 v4_3 v4_4 v4_5 v4_6 v4_7 v4_8 v4_9 x2 x3 x4 = some o_48 → ∀ (H : Heap) (locs : List Loc) (ls : Array Slot), va_P (dC, dI) vwCl (wd_X10_outline cI a0 a1 a2 a3 a4 a5 v0_3 v0_4 v0_5 v0_6 v0_7 v1_3 v1_4 v1_5 v1_0 v1_1 v1_2 v2_10 v2_11 v2_1 v2_4 v2_5 v2_6 v2_7 v2_8 v2_9 v4_10 v4_0 v4_1 v4_2 v4_3 v4_4 v4_5 v4_6 v4_7 v4_8 v4_9 v5_0) H → va_D A (wd_X10_outline cI a0 a1 a2 a3 a4 a5 v0_3 v0_4 v0_5 v0_6 v0_7 v1_3 v1_4 v1_5 v1_0 v1_1 v1_2 v2_10 v2_11 v2_1 v2_4 v2_5 v2_6 v2_7 v2_8 v2_9 v4_10 v4_0 v4_1 v4_2 v4_3 v4_4 v4_5 v4_6 v4_7 v4_8 v4_9 v5_0) → va_S A s.heap H locs → lv_has ls 5 [(0, .ref (a0 0)), (1, .ref (a5 0)), (2, .int x2), (3, .int x3), (4, .int x4)] → W p l e (headSpec wz_X10_outline rm_X10_outline).room s m [.ref (a0 0), .ref (a5 0)].toArray below meth c H locs 0 0 (MQ below (Q_X10_outline dC dI cI a0 a1 a2 a3 a4 a5 v0_3 v2_10 v2_11 v2_1 v2_4 v2_5 v2_6 v2_7 v2_8 v2_9 v4_10 v4_0 v4_1 v4_2 v4_3 v4_4 v4_5 v4_6 v4_7 v4_8 v4_9 v5_0 u A) [.ref (a0 0), .ref (a5 0)].toArray s 0 0 A) (F0 m 117 ls []) := by
          intro v1_3 v1_4 v1_0 v1_1 v1_2 x2 x3 x4 hF H locs ls hP hD hS hl
          unfold F_X10_outline_j117 at hF
          obtain ⟨x_117, hL_117, hE_117⟩ := obd_some hF
          have kl_117 : ∀ (k : Nat) (s117 : Int32 × Int32 × Int32 × (Nat → Int32) × (Nat → Int32) × (Nat → Int32)), lpq (F_X10_outline_b117 n v0_4 v0_5 v0_6 v0_7 v2_4 v2_5 v2_6 v2_7 v2_8 v2_9 v4_1 v4_2 v4_3 v4_4 v4_5 v4_6 v4_7 v4_8 v4_9 x3) k s117 = some x_117 → ∀ (H : Heap) (locs : List Loc) (ls : Array Slot), va_P (dC, dI) vwCl (wd_X10_outline cI a0 a1 a2 a3 a4 a5 v0_3 v0_4 v0_5 v0_6 v0_7 s117.2.1 s117.2.2.1 v1_5 s117.2.2.2.1 s117.2.2.2.2.1 s117.2.2.2.2.2 v2_10 v2_11 v2_1 v2_4 v2_5 v2_6 v2_7 v2_8 v2_9 v4_10 v4_0 v4_1 v4_2 v4_3 v4_4 v4_5 v4_6 v4_7 v4_8 v4_9 v5_0) H → va_D A (wd_X10_outline cI a0 a1 a2 a3 a4 a5 v0_3 v0_4 v0_5 v0_6 v0_7 s117.2.1 s117.2.2.1 v1_5 s117.2.2.2.1 s117.2.2.2.2.1 s117.2.2.2.2.2 v2_10 v2_11 v2_1 v2_4 v2_5 v2_6 v2_7 v2_8 v2_9 v4_10 v4_0 v4_1 v4_2 v4_3 v4_4 v4_5 v4_6 v4_7 v4_8 v4_9 v5_0) → va_S A s.heap H locs → lv_has ls 5 [(0, .ref (a0 0)), (1, .ref (a5 0)), (2, .int x2), (3, .int x3), (4, .int s117.1)] → W p l e (headSpec wz_X10_outline rm_X10_outline).room s m [.ref (a0 0), .ref (a5 0)].toArray below meth c H locs 0 0 (MQ below (Q_X10_outline dC dI cI a0 a1 a2 a3 a4 a5 v0_3 v2_10 v2_11 v2_1 v2_4 v2_5 v2_6 v2_7 v2_8 v2_9 v4_10 v4_0 v4_1 v4_2 v4_3 v4_4 v4_5 v4_6 v4_7 v4_8 v4_9 v5_0 u A) [.ref (a0 0), .ref (a5 0)].toArray s 0 0 A) (F0 m 117 ls []) := by
            intro k
            induction k with
            | zero => intro s117 h; exact absurd h lpq_zero
            | succ k ih_117 =>
              intro s117 h H locs ls hP hD hS hl
              obtain ⟨o_117, hF, hO_117⟩ := lpq_succ h
              unfold F_X10_outline_b117 at hF
              refine lv_iload hx hb dX10_outline_117 (lv_at hl 4 rfl) ?_
              refine lv_iload_n hx hb dX10_outline_119 rfl (lv_at hl 3 rfl) ?_
              refine lv_icmp_ge (tgt := 135) hx hb dX10_outline_120 (by decide) (fun c_2 => ?_) (fun c_2 => ?_)
              · have hF := it_t hF c_2
                obtain rfl := Option.some.inj hF
                obtain rfl := lpq_x hO_117
                have hF := hE_117
                exact j135 s117.2.1 s117.2.2.1 s117.2.2.2.1 s117.2.2.2.2.1 s117.2.2.2.2.2 x2 hF _ _ _ hP hD hS (lv_sub hl [0, 1, 2] rfl)
              · have hF := it_f hF c_2
                refine lv_aload_n hx hb dX10_outline_123 rfl (lv_at hl 0 rfl) ?_
                refine lv_iload hx hb dX10_outline_124 (lv_at hl 4 rfl) ?_
                obtain ⟨u_3, hu_3, hF⟩ := obd_some hF
                have hPc := hP.sub (ws' := (wd_X10_outlineRun cI a0 a1 a2 a3 a4 v0_3 v0_4 v0_5 v0_6 v0_7 s117.2.1 s117.2.2.1 v1_5 s117.2.2.2.1 s117.2.2.2.2.1 s117.2.2.2.2.2 v2_10 v2_11 v2_4 v2_5 v2_6 v2_7 v2_8 v2_9 v4_10 v4_1 v4_2 v4_3 v4_4 v4_5 v4_6 v4_7 v4_8 v4_9)) [0, 1, 2, 3, 4, 5, 7, 8, 9, 10, 11, 12, 13, 15, 16, 17, 18, 19, 20, 21, 22, 23] rfl
                have hDc := hD.sub (ws' := (wd_X10_outlineRun cI a0 a1 a2 a3 a4 v0_3 v0_4 v0_5 v0_6 v0_7 s117.2.1 s117.2.2.1 v1_5 s117.2.2.2.1 s117.2.2.2.2.1 s117.2.2.2.2.2 v2_10 v2_11 v2_4 v2_5 v2_6 v2_7 v2_8 v2_9 v4_10 v4_1 v4_2 v4_3 v4_4 v4_5 v4_6 v4_7 v4_8 v4_9)) [0, 1, 2, 3, 4, 5, 7, 8, 9, 10, 11, 12, 13, 15, 16, 17, 18, 19, 20, 21, 22, 23] rfl rfl
                refine q_callv (wc := (wd_X10_outlineRun cI a0 a1 a2 a3 a4 v0_3 v0_4 v0_5 v0_6 v0_7 s117.2.1 s117.2.2.1 v1_5 s117.2.2.2.1 s117.2.2.2.2.1 s117.2.2.2.2.2 v2_10 v2_11 v2_4 v2_5 v2_6 v2_7 v2_8 v2_9 v4_10 v4_1 v4_2 v4_3 v4_4 v4_5 v4_6 v4_7 v4_8 v4_9)) (w1 := (wd_X10_outlineRun cI a0 a1 a2 a3 a4 v0_3 v0_4 v0_5 v0_6 v0_7 u_3.1 u_3.2.1 v1_5 u_3.2.2.1 u_3.2.2.2.1 u_3.2.2.2.2 v2_10 v2_11 v2_4 v2_5 v2_6 v2_7 v2_8 v2_9 v4_10 v4_1 v4_2 v4_3 v4_4 v4_5 v4_6 v4_7 v4_8 v4_9)) (ws' := (wd_X10_outline cI a0 a1 a2 a3 a4 a5 v0_3 v0_4 v0_5 v0_6 v0_7 u_3.1 u_3.2.1 v1_5 u_3.2.2.1 u_3.2.2.2.1 u_3.2.2.2.2 v2_10 v2_11 v2_1 v2_4 v2_5 v2_6 v2_7 v2_8 v2_9 v4_10 v4_0 v4_1 v4_2 v4_3 v4_4 v4_5 v4_6 v4_7 v4_8 v4_9 v5_0)) hP hD hS hA [0, 1, 2, 3, 4, 5, 7, 8, 9, 10, 11, 12, 13, 15, 16, 17, 18, 19, 20, 21, 22, 23] [6, 14, 24, 25] [4, 5, 6, 7, 8, 9, 0, 10, 11, 12, 13, 14, 15, 16, 1, 17, 18, 19, 20, 21, 22, 23, 24, 25, 2, 3] rfl rfl rfl (by decide) rfl rfl (va_runV (As := [.int s117.1]) (rest := []) ⟨hx, hb, hml, hown, hta⟩ (c_X10_outlineRun l dC dI cI H.size a0 a1 a2 a3 a4 v0_3 v0_4 v0_5 v0_6 v0_7 s117.2.1 s117.2.2.1 v1_5 s117.2.2.2.1 s117.2.2.2.2.1 s117.2.2.2.2.2 v2_10 v2_11 v2_4 v2_5 v2_6 v2_7 v2_8 v2_9 v4_10 v4_1 v4_2 v4_3 v4_4 v4_5 v4_6 v4_7 v4_8 v4_9 s117.1 n u_3 hu_3) (cwV 1 hta (ga_V mA500 mA501 mA502 mA23 mA503) rfl rfl rfl (by decide +kernel) ⟨Nat.le_of_ble_eq_true rfl, Nat.le_of_ble_eq_true rfl⟩) ⟨q_fb, va_recv hK hP (ci := 9) (q0 := 0) rfl rfl, q_ps hPc hK hDc⟩ rfl rfl hl.1 rfl (lv_room (Nat.le_of_ble_eq_true rfl)) dX10_outline_126 ⟨Nat.zero_le _, Nat.zero_le _⟩) (fun H locs hP hD hS => ?_)
                obtain ⟨y_4, ey_4, hF⟩ := lt_some hF
                refine lv_iinc (v := y_4) (lv' := [(4, .int y_4), (0, .ref (a0 0)), (1, .ref (a5 0)), (2, .int x2), (3, .int x3)]) hx hb dX10_outline_129 hl (k := 4) rfl (by rw [ey_4]; rfl) (by decide) rfl (fun ls hl => ?_)
                refine lv_goto (tgt := 117) hx hb dX10_outline_132 (by decide) ?_
                obtain rfl := Option.some.inj hF
                exact ih_117 _ hO_117 _ _ _ hP hD hS (lv_sub hl [1, 2, 3, 4, 0] rfl)
          exact kl_117 n _ hL_117 _ _ _ hP hD hS hl
        have j89 : ∀ (v1_3 : Int32) (v1_4 : Int32) (v1_0 : Nat → Int32) (v1_1 : Nat → Int32) (v1_2 : Nat → Int32) (x2 : Int32), F_X10_outline_j89 n v0_4 v0_5 v0_6 v0_7 v1_3 v1_4 v1_0 v1_1 v1_2 v2_1 v2_4 v2_5 v2_6 v2_7 v2_8 v2_9 v4_1 v4_2 v4_3 v4_4 v4_5 v4_6 v4_7 v4_8 v4_9 x2 = some o_48 → ∀ (H : Heap) (locs : List Loc) (ls : Array Slot), va_P (dC, dI) vwCl (wd_X10_outline cI a0 a1 a2 a3 a4 a5 v0_3 v0_4 v0_5 v0_6 v0_7 v1_3 v1_4 v1_5 v1_0 v1_1 v1_2 v2_10 v2_11 v2_1 v2_4 v2_5 v2_6 v2_7 v2_8 v2_9 v4_10 v4_0 v4_1 v4_2 v4_3 v4_4 v4_5 v4_6 v4_7 v4_8 v4_9 v5_0) H → va_D A (wd_X10_outline cI a0 a1 a2 a3 a4 a5 v0_3 v0_4 v0_5 v0_6 v0_7 v1_3 v1_4 v1_5 v1_0 v1_1 v1_2 v2_10 v2_11 v2_1 v2_4 v2_5 v2_6 v2_7 v2_8 v2_9 v4_10 v4_0 v4_1 v4_2 v4_3 v4_4 v4_5 v4_6 v4_7 v4_8 v4_9 v5_0) → va_S A s.heap H locs → lv_has ls 5 [(0, .ref (a0 0)), (1, .ref (a5 0)), (2, .int x2)] → W p l e (headSpec wz_X10_outline rm_X10_outline).room s m [.ref (a0 0), .ref (a5 0)].toArray below meth c H locs 0 0 (MQ below (Q_X10_outline dC dI cI a0 a1 a2 a3 a4 a5 v0_3 v2_10 v2_11 v2_1 v2_4 v2_5 v2_6 v2_7 v2_8 v2_9 v4_10 v4_0 v4_1 v4_2 v4_3 v4_4 v4_5 v4_6 v4_7 v4_8 v4_9 v5_0 u A) [.ref (a0 0), .ref (a5 0)].toArray s 0 0 A) (F0 m 89 ls []) := by
          intro v1_3 v1_4 v1_0 v1_1 v1_2 x2 hF H locs ls hP hD hS hl
          unfold F_X10_outline_j89 at hF
          refine lv_aload_n hx hb dX10_outline_89 rfl (lv_at hl 0 rfl) ?_
          refine va_get (D := (dC, dI)) (ci := 9) (v := .ref (a2 0)) (C := RX10) (T := TX10) (N := 8) hx hb hta uw_X10 hown hK hP 0 rfl rfl 1 (by decide) (hta _ mA57) (fun _ h9 => h9) rfl dX10_outline_90 ?_
          refine lv_iload_n hx hb dX10_outline_93 rfl (lv_at hl 2 rfl) ?_
          obtain ⟨u_5, hu_5, hF⟩ := obd_some hF
          have hPc := hP.sub (ws' := (wd_X8_firstOf cI a2 a3 v2_10 v2_11 v2_1)) [5, 6] rfl
          have hDc := hD.sub (ws' := (wd_X8_firstOf cI a2 a3 v2_10 v2_11 v2_1)) [5, 6] rfl rfl
          refine q_calli (wc := (wd_X8_firstOf cI a2 a3 v2_10 v2_11 v2_1)) (w1 := (wd_X8_firstOf cI a2 a3 v2_10 v2_11 v2_1)) (ws' := (wd_X10_outline cI a0 a1 a2 a3 a4 a5 v0_3 v0_4 v0_5 v0_6 v0_7 v1_3 v1_4 v1_5 v1_0 v1_1 v1_2 v2_10 v2_11 v2_1 v2_4 v2_5 v2_6 v2_7 v2_8 v2_9 v4_10 v4_0 v4_1 v4_2 v4_3 v4_4 v4_5 v4_6 v4_7 v4_8 v4_9 v5_0)) hP hD hS hA [5, 6] [0, 1, 2, 3, 4, 7, 8, 9, 10, 11, 12, 13, 14, 15, 16, 17, 18, 19, 20, 21, 22, 23, 24, 25] [0, 1, 2, 3, 4, 24, 25, 5, 6, 7, 8, 9, 10, 11, 12, 13, 14, 15, 16, 17, 18, 19, 20, 21, 22, 23] rfl rfl rfl (by decide) rfl rfl (va_runV (As := [.int x2]) (rest := []) ⟨hx, hb, hml, hown, hta⟩ (c_X8_firstOf l dC dI cI H.size a2 a3 v2_10 v2_11 v2_1 x2 u_5 hu_5) (cwV 1 hta (ga_V mA498 mA416 mA417 mA56 mA418) rfl rfl rfl (by decide +kernel) ⟨Nat.le_of_ble_eq_true rfl, Nat.le_of_ble_eq_true rfl⟩) ⟨q_fb, va_recv hK hP (ci := 7) (q0 := 5) rfl rfl, q_ps hPc hK hDc⟩ rfl rfl hl.1 rfl (lv_room (Nat.le_of_ble_eq_true rfl)) dX10_outline_94 ⟨Nat.zero_le _, Nat.zero_le _⟩) (fun H locs hP hD hS => ?_)
          refine lv_aload_n hx hb dX10_outline_97 rfl (lv_at hl 0 rfl) ?_
          refine va_get (D := (dC, dI)) (ci := 9) (v := .ref (a2 0)) (C := RX10) (T := TX10) (N := 8) hx hb hta uw_X10 hown hK hP 0 rfl rfl 1 (by decide) (hta _ mA57) (fun _ h9 => h9) rfl dX10_outline_98 ?_
          refine lv_iload_n hx hb dX10_outline_101 rfl (lv_at hl 2 rfl) ?_
          obtain ⟨u_6, hu_6, hF⟩ := obd_some hF
          have hPc := hP.sub (ws' := (wd_X8_countOf cI a2 a3 v2_10 v2_11 v2_1)) [5, 6] rfl
          have hDc := hD.sub (ws' := (wd_X8_countOf cI a2 a3 v2_10 v2_11 v2_1)) [5, 6] rfl rfl
          refine q_calli (wc := (wd_X8_countOf cI a2 a3 v2_10 v2_11 v2_1)) (w1 := (wd_X8_countOf cI a2 a3 v2_10 v2_11 v2_1)) (ws' := (wd_X10_outline cI a0 a1 a2 a3 a4 a5 v0_3 v0_4 v0_5 v0_6 v0_7 v1_3 v1_4 v1_5 v1_0 v1_1 v1_2 v2_10 v2_11 v2_1 v2_4 v2_5 v2_6 v2_7 v2_8 v2_9 v4_10 v4_0 v4_1 v4_2 v4_3 v4_4 v4_5 v4_6 v4_7 v4_8 v4_9 v5_0)) hP hD hS hA [5, 6] [0, 1, 2, 3, 4, 7, 8, 9, 10, 11, 12, 13, 14, 15, 16, 17, 18, 19, 20, 21, 22, 23, 24, 25] [0, 1, 2, 3, 4, 24, 25, 5, 6, 7, 8, 9, 10, 11, 12, 13, 14, 15, 16, 17, 18, 19, 20, 21, 22, 23] rfl rfl rfl (by decide) rfl rfl (va_runV (As := [.int x2]) (rest := [.int u_5]) ⟨hx, hb, hml, hown, hta⟩ (c_X8_countOf l dC dI cI H.size a2 a3 v2_10 v2_11 v2_1 x2 u_6 hu_6) (cwV 1 hta (ga_V mA499 mA433 mA434 mA56 mA435) rfl rfl rfl (by decide +kernel) ⟨Nat.le_of_ble_eq_true rfl, Nat.le_of_ble_eq_true rfl⟩) ⟨q_fb, va_recv hK hP (ci := 7) (q0 := 5) rfl rfl, q_ps hPc hK hDc⟩ rfl rfl hl.1 rfl (lv_room (Nat.le_of_ble_eq_true rfl)) dX10_outline_102 ⟨Nat.zero_le _, Nat.zero_le _⟩) (fun H locs hP hD hS => ?_)
          refine lv_iadd hx hb dX10_outline_105 ?_
          obtain ⟨y_7, ey_7, hF⟩ := lt_some hF
          refine lv_eqi ey_7 ?_
          refine lv_istore_n (lv' := [(3, .int y_7), (0, .ref (a0 0)), (1, .ref (a5 0)), (2, .int x2)]) hx hb dX10_outline_106 rfl hl (by decide) rfl (fun ls hl => ?_)
          refine lv_aload_n hx hb dX10_outline_107 rfl (lv_at hl 1 rfl) ?_
          refine va_get (D := (dC, dI)) (ci := 9) (v := .ref (a2 0)) (C := RX10) (T := TX10) (N := 8) hx hb hta uw_X10 hown hK hP 0 rfl rfl 1 (by decide) (hta _ mA57) (fun _ h9 => h9) rfl dX10_outline_108 ?_
          refine lv_iload_n hx hb dX10_outline_111 rfl (lv_at hl 3 rfl) ?_
          obtain ⟨u_8, hu_8, hF⟩ := obd_some hF
          have hPc := hP.sub (ws' := (wd_X8_firstOf cI a2 a3 v2_10 v2_11 v2_1)) [5, 6] rfl
          have hDc := hD.sub (ws' := (wd_X8_firstOf cI a2 a3 v2_10 v2_11 v2_1)) [5, 6] rfl rfl
          refine q_calli (wc := (wd_X8_firstOf cI a2 a3 v2_10 v2_11 v2_1)) (w1 := (wd_X8_firstOf cI a2 a3 v2_10 v2_11 v2_1)) (ws' := (wd_X10_outline cI a0 a1 a2 a3 a4 a5 v0_3 v0_4 v0_5 v0_6 v0_7 v1_3 v1_4 v1_5 v1_0 v1_1 v1_2 v2_10 v2_11 v2_1 v2_4 v2_5 v2_6 v2_7 v2_8 v2_9 v4_10 v4_0 v4_1 v4_2 v4_3 v4_4 v4_5 v4_6 v4_7 v4_8 v4_9 v5_0)) hP hD hS hA [5, 6] [0, 1, 2, 3, 4, 7, 8, 9, 10, 11, 12, 13, 14, 15, 16, 17, 18, 19, 20, 21, 22, 23, 24, 25] [0, 1, 2, 3, 4, 24, 25, 5, 6, 7, 8, 9, 10, 11, 12, 13, 14, 15, 16, 17, 18, 19, 20, 21, 22, 23] rfl rfl rfl (by decide) rfl rfl (va_runV (As := [.int x2]) (rest := []) ⟨hx, hb, hml, hown, hta⟩ (c_X8_firstOf l dC dI cI H.size a2 a3 v2_10 v2_11 v2_1 x2 u_8 hu_8) (cwV 1 hta (ga_V mA498 mA416 mA417 mA56 mA418) rfl rfl rfl (by decide +kernel) ⟨Nat.le_of_ble_eq_true rfl, Nat.le_of_ble_eq_true rfl⟩) ⟨q_fb, va_recv hK hP (ci := 7) (q0 := 5) rfl rfl, q_ps hPc hK hDc⟩ rfl rfl hl.1 rfl (lv_room (Nat.le_of_ble_eq_true rfl)) dX10_outline_112 ⟨Nat.zero_le _, Nat.zero_le _⟩) (fun H locs hP hD hS => ?_)
          refine lv_istore (lv' := [(4, .int u_8), (3, .int y_7), (0, .ref (a0 0)), (1, .ref (a5 0)), (2, .int x2)]) hx hb dX10_outline_115 hl (by decide) rfl (fun ls hl => ?_)
          exact j117 v1_3 v1_4 v1_0 v1_1 v1_2 x2 y_7 u_8 hF _ _ _ hP hD hS (lv_sub hl [2, 3, 4, 1, 0] rfl)
        refine lv_iload_n hx hb dX10_outline_48 rfl (lv_at hl 2 rfl) ?_
        refine lv_aload_n hx hb dX10_outline_49 rfl (lv_at hl 1 rfl) ?_
        obtain ⟨u_9, hu_9, hF⟩ := obd_some hF
        have hPc := hP.sub (ws' := (wd_X1_subpathCount cI a5 v5_0)) [24, 25] rfl
        have hDc := hD.sub (ws' := (wd_X1_subpathCount cI a5 v5_0)) [24, 25] rfl rfl
        refine q_calli (wc := (wd_X1_subpathCount cI a5 v5_0)) (w1 := (wd_X1_subpathCount cI a5 v5_0)) (ws' := (wd_X10_outline cI a0 a1 a2 a3 a4 a5 v0_3 v0_4 v0_5 v0_6 v0_7 s48.2.1 s48.2.2.1 v1_5 s48.2.2.2.1 s48.2.2.2.2.1 s48.2.2.2.2.2 v2_10 v2_11 v2_1 v2_4 v2_5 v2_6 v2_7 v2_8 v2_9 v4_10 v4_0 v4_1 v4_2 v4_3 v4_4 v4_5 v4_6 v4_7 v4_8 v4_9 v5_0)) hP hD hS hA [24, 25] [0, 1, 2, 3, 4, 5, 6, 7, 8, 9, 10, 11, 12, 13, 14, 15, 16, 17, 18, 19, 20, 21, 22, 23] [0, 1, 2, 3, 4, 5, 6, 7, 8, 9, 10, 11, 12, 13, 14, 15, 16, 17, 18, 19, 20, 21, 22, 23, 24, 25] rfl rfl rfl (by decide) rfl rfl (va_runV (As := []) (rest := [.int s48.1]) ⟨hx, hb, hml, hown, hta⟩ (c_X1_subpathCount l dC dI cI H.size a5 v5_0 u_9 hu_9) (cwV 0 hta (ga_V mA477 mA113 mA114 mA6 mA115) rfl rfl rfl (by decide +kernel) ⟨Nat.le_of_ble_eq_true rfl, Nat.le_of_ble_eq_true rfl⟩) ⟨q_fb, va_recv hK hP (ci := 1) (q0 := 24) rfl rfl, q_ps hPc hK hDc⟩ rfl rfl hl.1 rfl (lv_room (Nat.le_of_ble_eq_true rfl)) dX10_outline_50 ⟨Nat.zero_le _, Nat.zero_le _⟩) (fun H locs hP hD hS => ?_)
        refine lv_icmp_ge (tgt := 141) hx hb dX10_outline_53 (by decide) (fun c_10 => ?_) (fun c_10 => ?_)
        · have hF := it_t hF c_10
          obtain rfl := Option.some.inj hF
          obtain rfl := lpq_x hO_48
          have hF := hE_48
          obtain rfl := Option.some.inj hF
          exact W.vret hx hb hr (fun t ht hW => ⟨⟨(), rfl, trivial, by rw [ht]; exact hP, va_K.moved hW.alike hK, hD⟩, hS.F ht⟩) hS.2.2 dX10_outline_141
        · have hF := it_f hF c_10
          refine lv_aload_n hx hb dX10_outline_56 rfl (lv_at hl 0 rfl) ?_
          refine va_get (D := (dC, dI)) (ci := 9) (v := .ref (a4 0)) (C := RX10) (T := TX10) (N := 8) hx hb hta uw_X10 hown hK hP 0 rfl rfl 0 (by decide) (hta _ mA53) (fun _ h9 => h9) rfl dX10_outline_57 ?_
          refine lv_iload_n hx hb dX10_outline_60 rfl (lv_at hl 2 rfl) ?_
          obtain ⟨u_11, hu_11, hF⟩ := obd_some hF
          have hPc := hP.sub (ws' := (wd_X9_countOf cI a4 v4_10 v4_0)) [13, 14] rfl
          have hDc := hD.sub (ws' := (wd_X9_countOf cI a4 v4_10 v4_0)) [13, 14] rfl rfl
          refine q_calli (wc := (wd_X9_countOf cI a4 v4_10 v4_0)) (w1 := (wd_X9_countOf cI a4 v4_10 v4_0)) (ws' := (wd_X10_outline cI a0 a1 a2 a3 a4 a5 v0_3 v0_4 v0_5 v0_6 v0_7 s48.2.1 s48.2.2.1 v1_5 s48.2.2.2.1 s48.2.2.2.2.1 s48.2.2.2.2.2 v2_10 v2_11 v2_1 v2_4 v2_5 v2_6 v2_7 v2_8 v2_9 v4_10 v4_0 v4_1 v4_2 v4_3 v4_4 v4_5 v4_6 v4_7 v4_8 v4_9 v5_0)) hP hD hS hA [13, 14] [0, 1, 2, 3, 4, 5, 6, 7, 8, 9, 10, 11, 12, 15, 16, 17, 18, 19, 20, 21, 22, 23, 24, 25] [0, 1, 2, 3, 4, 5, 6, 7, 8, 9, 10, 11, 12, 24, 25, 13, 14, 15, 16, 17, 18, 19, 20, 21, 22, 23] rfl rfl rfl (by decide) rfl rfl (va_runV (As := [.int s48.1]) (rest := []) ⟨hx, hb, hml, hown, hta⟩ (c_X9_countOf l dC dI cI H.size a4 v4_10 v4_0 s48.1 u_11 hu_11) (cwV 1 hta (ga_V mA478 mA229 mA230 mA52 mA231) rfl rfl rfl (by decide +kernel) ⟨Nat.le_of_ble_eq_true rfl, Nat.le_of_ble_eq_true rfl⟩) ⟨q_fb, va_recv hK hP (ci := 8) (q0 := 13) rfl rfl, q_ps hPc hK hDc⟩ rfl rfl hl.1 rfl (lv_room (Nat.le_of_ble_eq_true rfl)) dX10_outline_61 ⟨Nat.zero_le _, Nat.zero_le _⟩) (fun H locs hP hD hS => ?_)
          refine lv_if_ne (tgt := 89) hx hb dX10_outline_64 (by decide) (fun c_12 => ?_) (fun c_12 => ?_)
          · have hF := it_f hF c_12
            exact j89 s48.2.1 s48.2.2.1 s48.2.2.2.1 s48.2.2.2.2.1 s48.2.2.2.2.2 s48.1 hF _ _ _ hP hD hS (lv_sub hl [0, 1, 2] rfl)
          · have hF := it_t hF c_12
            refine lv_aload_n hx hb dX10_outline_67 rfl (lv_at hl 0 rfl) ?_
            refine lv_bipush (v := 64) hx hb dX10_outline_68 (by decide) ?_
            refine lv_aload_n hx hb dX10_outline_70 rfl (lv_at hl 1 rfl) ?_
            refine lv_iload_n hx hb dX10_outline_71 rfl (lv_at hl 2 rfl) ?_
            refine lv_iconst (v := 0) hx hb dX10_outline_72 (by decide) ?_
            obtain ⟨u_13, hu_13, hF⟩ := obd_some hF
            have hPc := hP.sub (ws' := (wd_X1_xOf cI a5 v5_0)) [24, 25] rfl
            have hDc := hD.sub (ws' := (wd_X1_xOf cI a5 v5_0)) [24, 25] rfl rfl
            refine q_calli (wc := (wd_X1_xOf cI a5 v5_0)) (w1 := (wd_X1_xOf cI a5 v5_0)) (ws' := (wd_X10_outline cI a0 a1 a2 a3 a4 a5 v0_3 v0_4 v0_5 v0_6 v0_7 s48.2.1 s48.2.2.1 v1_5 s48.2.2.2.1 s48.2.2.2.2.1 s48.2.2.2.2.2 v2_10 v2_11 v2_1 v2_4 v2_5 v2_6 v2_7 v2_8 v2_9 v4_10 v4_0 v4_1 v4_2 v4_3 v4_4 v4_5 v4_6 v4_7 v4_8 v4_9 v5_0)) hP hD hS hA [24, 25] [0, 1, 2, 3, 4, 5, 6, 7, 8, 9, 10, 11, 12, 13, 14, 15, 16, 17, 18, 19, 20, 21, 22, 23] [0, 1, 2, 3, 4, 5, 6, 7, 8, 9, 10, 11, 12, 13, 14, 15, 16, 17, 18, 19, 20, 21, 22, 23, 24, 25] rfl rfl rfl (by decide) rfl rfl (va_runV (As := [.int s48.1, .int 0]) (rest := [.int 64, .ref (a0 0)]) ⟨hx, hb, hml, hown, hta⟩ (c_X1_xOf l dC dI cI H.size a5 v5_0 s48.1 0 u_13 hu_13) (cwV 2 hta (ga_V mA479 mA208 mA209 mA6 mA210) rfl rfl rfl (by decide +kernel) ⟨Nat.le_of_ble_eq_true rfl, Nat.le_of_ble_eq_true rfl⟩) ⟨q_fb, va_recv hK hP (ci := 1) (q0 := 24) rfl rfl, q_ps hPc hK hDc⟩ rfl rfl hl.1 rfl (lv_room (Nat.le_of_ble_eq_true rfl)) dX10_outline_73 ⟨Nat.zero_le _, Nat.zero_le _⟩) (fun H locs hP hD hS => ?_)
            refine lv_imul hx hb dX10_outline_76 ?_
            refine lv_bipush (v := 64) hx hb dX10_outline_77 (by decide) ?_
            refine lv_aload_n hx hb dX10_outline_79 rfl (lv_at hl 1 rfl) ?_
            refine lv_iload_n hx hb dX10_outline_80 rfl (lv_at hl 2 rfl) ?_
            refine lv_iconst (v := 0) hx hb dX10_outline_81 (by decide) ?_
            obtain ⟨u_14, hu_14, hF⟩ := obd_some hF
            have hPc := hP.sub (ws' := (wd_X1_yOf cI a5 v5_0)) [24, 25] rfl
            have hDc := hD.sub (ws' := (wd_X1_yOf cI a5 v5_0)) [24, 25] rfl rfl
            refine q_calli (wc := (wd_X1_yOf cI a5 v5_0)) (w1 := (wd_X1_yOf cI a5 v5_0)) (ws' := (wd_X10_outline cI a0 a1 a2 a3 a4 a5 v0_3 v0_4 v0_5 v0_6 v0_7 s48.2.1 s48.2.2.1 v1_5 s48.2.2.2.1 s48.2.2.2.2.1 s48.2.2.2.2.2 v2_10 v2_11 v2_1 v2_4 v2_5 v2_6 v2_7 v2_8 v2_9 v4_10 v4_0 v4_1 v4_2 v4_3 v4_4 v4_5 v4_6 v4_7 v4_8 v4_9 v5_0)) hP hD hS hA [24, 25] [0, 1, 2, 3, 4, 5, 6, 7, 8, 9, 10, 11, 12, 13, 14, 15, 16, 17, 18, 19, 20, 21, 22, 23] [0, 1, 2, 3, 4, 5, 6, 7, 8, 9, 10, 11, 12, 13, 14, 15, 16, 17, 18, 19, 20, 21, 22, 23, 24, 25] rfl rfl rfl (by decide) rfl rfl (va_runV (As := [.int s48.1, .int 0]) (rest := [.int 64, .int (64 * u_13), .ref (a0 0)]) ⟨hx, hb, hml, hown, hta⟩ (c_X1_yOf l dC dI cI H.size a5 v5_0 s48.1 0 u_14 hu_14) (cwV 2 hta (ga_V mA480 mA212 mA213 mA6 mA214) rfl rfl rfl (by decide +kernel) ⟨Nat.le_of_ble_eq_true rfl, Nat.le_of_ble_eq_true rfl⟩) ⟨q_fb, va_recv hK hP (ci := 1) (q0 := 24) rfl rfl, q_ps hPc hK hDc⟩ rfl rfl hl.1 rfl (lv_room (Nat.le_of_ble_eq_true rfl)) dX10_outline_82 ⟨Nat.zero_le _, Nat.zero_le _⟩) (fun H locs hP hD hS => ?_)
            refine lv_imul hx hb dX10_outline_85 ?_
            obtain ⟨u_15, hu_15, hF⟩ := obd_some hF
            have hPc := hP.sub (ws' := (wd_X10_addDot cI a0 a1 a2 a4 v0_3 v0_4 v0_5 v0_6 v0_7 s48.2.1 s48.2.2.1 v1_5 s48.2.2.2.1 s48.2.2.2.2.1 s48.2.2.2.2.2)) [0, 1, 2, 3, 4] rfl
            have hDc := hD.sub (ws' := (wd_X10_addDot cI a0 a1 a2 a4 v0_3 v0_4 v0_5 v0_6 v0_7 s48.2.1 s48.2.2.1 v1_5 s48.2.2.2.1 s48.2.2.2.2.1 s48.2.2.2.2.2)) [0, 1, 2, 3, 4] rfl rfl
            refine q_callv (wc := (wd_X10_addDot cI a0 a1 a2 a4 v0_3 v0_4 v0_5 v0_6 v0_7 s48.2.1 s48.2.2.1 v1_5 s48.2.2.2.1 s48.2.2.2.2.1 s48.2.2.2.2.2)) (w1 := (wd_X10_addDot cI a0 a1 a2 a4 v0_3 v0_4 v0_5 v0_6 v0_7 u_15.1 u_15.2.1 v1_5 u_15.2.2.1 u_15.2.2.2.1 u_15.2.2.2.2)) (ws' := (wd_X10_outline cI a0 a1 a2 a3 a4 a5 v0_3 v0_4 v0_5 v0_6 v0_7 u_15.1 u_15.2.1 v1_5 u_15.2.2.1 u_15.2.2.2.1 u_15.2.2.2.2 v2_10 v2_11 v2_1 v2_4 v2_5 v2_6 v2_7 v2_8 v2_9 v4_10 v4_0 v4_1 v4_2 v4_3 v4_4 v4_5 v4_6 v4_7 v4_8 v4_9 v5_0)) hP hD hS hA [0, 1, 2, 3, 4] [5, 6, 7, 8, 9, 10, 11, 12, 13, 14, 15, 16, 17, 18, 19, 20, 21, 22, 23, 24, 25] [21, 22, 23, 24, 25, 0, 1, 2, 3, 4, 5, 6, 7, 8, 9, 10, 11, 12, 13, 14, 15, 16, 17, 18, 19, 20] rfl rfl rfl (by decide) rfl rfl (va_runV (As := [.int (64 * u_13), .int (64 * u_14)]) (rest := []) ⟨hx, hb, hml, hown, hta⟩ (c_X10_addDot l dC dI cI H.size a0 a1 a2 a4 v0_3 v0_4 v0_5 v0_6 v0_7 s48.2.1 s48.2.2.1 v1_5 s48.2.2.2.1 s48.2.2.2.2.1 s48.2.2.2.2.2 (64 * u_13) (64 * u_14) u_15 hu_15) (cwV 2 hta (ga_V mA481 mA482 mA483 mA23 mA484) rfl rfl rfl (by decide +kernel) ⟨Nat.le_of_ble_eq_true rfl, Nat.le_of_ble_eq_true rfl⟩) ⟨q_fb, va_recv hK hP (ci := 9) (q0 := 0) rfl rfl, q_ps hPc hK hDc⟩ rfl rfl hl.1 rfl (lv_room (Nat.le_of_ble_eq_true rfl)) dX10_outline_86 ⟨Nat.zero_le _, Nat.zero_le _⟩) (fun H locs hP hD hS => ?_)
            exact j89 u_15.1 u_15.2.1 u_15.2.2.1 u_15.2.2.2.1 u_15.2.2.2.2 s48.1 hF _ _ _ hP hD hS (lv_sub hl [0, 1, 2] rfl)
    exact kl_48 n _ hL_48 _ _ _ hP hD hS hl
  refine lv_aload_n hx hb dX10_outline_0 rfl (lv_at hl 0 rfl) ?_
  refine lv_aload_n hx hb dX10_outline_1 rfl (lv_at hl 1 rfl) ?_
  obtain ⟨u_16, hu_16, hF⟩ := obd_some hF
  have hPc := hP.sub (ws' := (wd_X1_halfWidth cI a5 v5_0)) [24, 25] rfl
  have hDc := hD.sub (ws' := (wd_X1_halfWidth cI a5 v5_0)) [24, 25] rfl rfl
  refine q_calli (wc := (wd_X1_halfWidth cI a5 v5_0)) (w1 := (wd_X1_halfWidth cI a5 v5_0)) (ws' := (wd_X10_outline cI a0 a1 a2 a3 a4 a5 v0_3 v0_4 v0_5 v0_6 v0_7 v1_3 v1_4 v1_5 v1_0 v1_1 v1_2 v2_10 v2_11 v2_1 v2_4 v2_5 v2_6 v2_7 v2_8 v2_9 v4_10 v4_0 v4_1 v4_2 v4_3 v4_4 v4_5 v4_6 v4_7 v4_8 v4_9 v5_0)) hP hD hS hA [24, 25] [0, 1, 2, 3, 4, 5, 6, 7, 8, 9, 10, 11, 12, 13, 14, 15, 16, 17, 18, 19, 20, 21, 22, 23] [0, 1, 2, 3, 4, 5, 6, 7, 8, 9, 10, 11, 12, 13, 14, 15, 16, 17, 18, 19, 20, 21, 22, 23, 24, 25] rfl rfl rfl (by decide) rfl rfl (va_runV (As := []) (rest := [.ref (a0 0)]) ⟨hx, hb, hml, hown, hta⟩ (c_X1_halfWidth l dC dI cI H.size a5 v5_0 u_16 hu_16) (cwV 0 hta (ga_V mA469 mA202 mA203 mA6 mA204) rfl rfl rfl (by decide +kernel) ⟨Nat.le_of_ble_eq_true rfl, Nat.le_of_ble_eq_true rfl⟩) ⟨q_fb, va_recv hK hP (ci := 1) (q0 := 24) rfl rfl, q_ps hPc hK hDc⟩ rfl rfl hl.1 rfl (lv_room (Nat.le_of_ble_eq_true rfl)) dX10_outline_2 ⟨Nat.zero_le _, Nat.zero_le _⟩) (fun H locs hP hD hS => ?_)
  refine va_put (D := (dC, dI)) (ci := 9) (v := .int u_16) (ty := .int) (C := RX10) (T := TX10) (N := 8) hx hb hta uw_X10 tyX10 tyX10_ok nmX10 hown hK hP hD hS 0 rfl rfl 4 (by decide) (hta _ mA465) (fun _ h9 => h9) rfl (by decide +kernel) rfl rfl (Nat.le_of_ble_eq_true rfl) dX10_outline_5 (fun H locs hP hD hS => ?_)
  have hP : va_P (dC, dI) vwCl (wd_X10_outline cI a0 a1 a2 a3 a4 a5 v0_3 u_16 v0_5 v0_6 v0_7 v1_3 v1_4 v1_5 v1_0 v1_1 v1_2 v2_10 v2_11 v2_1 v2_4 v2_5 v2_6 v2_7 v2_8 v2_9 v4_10 v4_0 v4_1 v4_2 v4_3 v4_4 v4_5 v4_6 v4_7 v4_8 v4_9 v5_0) H := hP
  have hD : va_D A (wd_X10_outline cI a0 a1 a2 a3 a4 a5 v0_3 u_16 v0_5 v0_6 v0_7 v1_3 v1_4 v1_5 v1_0 v1_1 v1_2 v2_10 v2_11 v2_1 v2_4 v2_5 v2_6 v2_7 v2_8 v2_9 v4_10 v4_0 v4_1 v4_2 v4_3 v4_4 v4_5 v4_6 v4_7 v4_8 v4_9 v5_0) := hD
  refine lv_aload_n hx hb dX10_outline_8 rfl (lv_at hl 0 rfl) ?_
  refine lv_aload_n hx hb dX10_outline_9 rfl (lv_at hl 1 rfl) ?_
  refine lv_iconst (v := 1) hx hb dX10_outline_10 (by decide) ?_
  obtain ⟨u_17, hu_17, hF⟩ := obd_some hF
  have hPc := hP.sub (ws' := (wd_X1_cell cI a5 v5_0)) [24, 25] rfl
  have hDc := hD.sub (ws' := (wd_X1_cell cI a5 v5_0)) [24, 25] rfl rfl
  refine q_calli (wc := (wd_X1_cell cI a5 v5_0)) (w1 := (wd_X1_cell cI a5 v5_0)) (ws' := (wd_X10_outline cI a0 a1 a2 a3 a4 a5 v0_3 u_16 v0_5 v0_6 v0_7 v1_3 v1_4 v1_5 v1_0 v1_1 v1_2 v2_10 v2_11 v2_1 v2_4 v2_5 v2_6 v2_7 v2_8 v2_9 v4_10 v4_0 v4_1 v4_2 v4_3 v4_4 v4_5 v4_6 v4_7 v4_8 v4_9 v5_0)) hP hD hS hA [24, 25] [0, 1, 2, 3, 4, 5, 6, 7, 8, 9, 10, 11, 12, 13, 14, 15, 16, 17, 18, 19, 20, 21, 22, 23] [0, 1, 2, 3, 4, 5, 6, 7, 8, 9, 10, 11, 12, 13, 14, 15, 16, 17, 18, 19, 20, 21, 22, 23, 24, 25] rfl rfl rfl (by decide) rfl rfl (va_runV (As := [.int 1]) (rest := [.ref (a0 0)]) ⟨hx, hb, hml, hown, hta⟩ (c_X1_cell l dC dI cI H.size a5 v5_0 1 u_17 hu_17) (cwV 1 hta (ga_V mA470 mA117 mA118 mA6 mA119) rfl rfl rfl (by decide +kernel) ⟨Nat.le_of_ble_eq_true rfl, Nat.le_of_ble_eq_true rfl⟩) ⟨q_fb, va_recv hK hP (ci := 1) (q0 := 24) rfl rfl, q_ps hPc hK hDc⟩ rfl rfl hl.1 rfl (lv_room (Nat.le_of_ble_eq_true rfl)) dX10_outline_11 ⟨Nat.zero_le _, Nat.zero_le _⟩) (fun H locs hP hD hS => ?_)
  refine va_put (D := (dC, dI)) (ci := 9) (v := .int u_17) (ty := .int) (C := RX10) (T := TX10) (N := 8) hx hb hta uw_X10 tyX10 tyX10_ok nmX10 hown hK hP hD hS 0 rfl rfl 5 (by decide) (hta _ mA466) (fun _ h9 => h9) rfl (by decide +kernel) rfl rfl (Nat.le_of_ble_eq_true rfl) dX10_outline_14 (fun H locs hP hD hS => ?_)
  have hP : va_P (dC, dI) vwCl (wd_X10_outline cI a0 a1 a2 a3 a4 a5 v0_3 u_16 u_17 v0_6 v0_7 v1_3 v1_4 v1_5 v1_0 v1_1 v1_2 v2_10 v2_11 v2_1 v2_4 v2_5 v2_6 v2_7 v2_8 v2_9 v4_10 v4_0 v4_1 v4_2 v4_3 v4_4 v4_5 v4_6 v4_7 v4_8 v4_9 v5_0) H := hP
  have hD : va_D A (wd_X10_outline cI a0 a1 a2 a3 a4 a5 v0_3 u_16 u_17 v0_6 v0_7 v1_3 v1_4 v1_5 v1_0 v1_1 v1_2 v2_10 v2_11 v2_1 v2_4 v2_5 v2_6 v2_7 v2_8 v2_9 v4_10 v4_0 v4_1 v4_2 v4_3 v4_4 v4_5 v4_6 v4_7 v4_8 v4_9 v5_0) := hD
  refine lv_aload_n hx hb dX10_outline_17 rfl (lv_at hl 0 rfl) ?_
  refine lv_aload_n hx hb dX10_outline_18 rfl (lv_at hl 1 rfl) ?_
  refine lv_iconst (v := 2) hx hb dX10_outline_19 (by decide) ?_
  obtain ⟨u_18, hu_18, hF⟩ := obd_some hF
  have hPc := hP.sub (ws' := (wd_X1_cell cI a5 v5_0)) [24, 25] rfl
  have hDc := hD.sub (ws' := (wd_X1_cell cI a5 v5_0)) [24, 25] rfl rfl
  refine q_calli (wc := (wd_X1_cell cI a5 v5_0)) (w1 := (wd_X1_cell cI a5 v5_0)) (ws' := (wd_X10_outline cI a0 a1 a2 a3 a4 a5 v0_3 u_16 u_17 v0_6 v0_7 v1_3 v1_4 v1_5 v1_0 v1_1 v1_2 v2_10 v2_11 v2_1 v2_4 v2_5 v2_6 v2_7 v2_8 v2_9 v4_10 v4_0 v4_1 v4_2 v4_3 v4_4 v4_5 v4_6 v4_7 v4_8 v4_9 v5_0)) hP hD hS hA [24, 25] [0, 1, 2, 3, 4, 5, 6, 7, 8, 9, 10, 11, 12, 13, 14, 15, 16, 17, 18, 19, 20, 21, 22, 23] [0, 1, 2, 3, 4, 5, 6, 7, 8, 9, 10, 11, 12, 13, 14, 15, 16, 17, 18, 19, 20, 21, 22, 23, 24, 25] rfl rfl rfl (by decide) rfl rfl (va_runV (As := [.int 2]) (rest := [.ref (a0 0)]) ⟨hx, hb, hml, hown, hta⟩ (c_X1_cell l dC dI cI H.size a5 v5_0 2 u_18 hu_18) (cwV 1 hta (ga_V mA470 mA117 mA118 mA6 mA119) rfl rfl rfl (by decide +kernel) ⟨Nat.le_of_ble_eq_true rfl, Nat.le_of_ble_eq_true rfl⟩) ⟨q_fb, va_recv hK hP (ci := 1) (q0 := 24) rfl rfl, q_ps hPc hK hDc⟩ rfl rfl hl.1 rfl (lv_room (Nat.le_of_ble_eq_true rfl)) dX10_outline_20 ⟨Nat.zero_le _, Nat.zero_le _⟩) (fun H locs hP hD hS => ?_)
  refine va_put (D := (dC, dI)) (ci := 9) (v := .int u_18) (ty := .int) (C := RX10) (T := TX10) (N := 8) hx hb hta uw_X10 tyX10 tyX10_ok nmX10 hown hK hP hD hS 0 rfl rfl 6 (by decide) (hta _ mA467) (fun _ h9 => h9) rfl (by decide +kernel) rfl rfl (Nat.le_of_ble_eq_true rfl) dX10_outline_23 (fun H locs hP hD hS => ?_)
  have hP : va_P (dC, dI) vwCl (wd_X10_outline cI a0 a1 a2 a3 a4 a5 v0_3 u_16 u_17 u_18 v0_7 v1_3 v1_4 v1_5 v1_0 v1_1 v1_2 v2_10 v2_11 v2_1 v2_4 v2_5 v2_6 v2_7 v2_8 v2_9 v4_10 v4_0 v4_1 v4_2 v4_3 v4_4 v4_5 v4_6 v4_7 v4_8 v4_9 v5_0) H := hP
  have hD : va_D A (wd_X10_outline cI a0 a1 a2 a3 a4 a5 v0_3 u_16 u_17 u_18 v0_7 v1_3 v1_4 v1_5 v1_0 v1_1 v1_2 v2_10 v2_11 v2_1 v2_4 v2_5 v2_6 v2_7 v2_8 v2_9 v4_10 v4_0 v4_1 v4_2 v4_3 v4_4 v4_5 v4_6 v4_7 v4_8 v4_9 v5_0) := hD
  refine lv_aload_n hx hb dX10_outline_26 rfl (lv_at hl 0 rfl) ?_
  refine lv_aload_n hx hb dX10_outline_27 rfl (lv_at hl 1 rfl) ?_
  refine lv_iconst (v := 3) hx hb dX10_outline_28 (by decide) ?_
  obtain ⟨u_19, hu_19, hF⟩ := obd_some hF
  have hPc := hP.sub (ws' := (wd_X1_cell cI a5 v5_0)) [24, 25] rfl
  have hDc := hD.sub (ws' := (wd_X1_cell cI a5 v5_0)) [24, 25] rfl rfl
  refine q_calli (wc := (wd_X1_cell cI a5 v5_0)) (w1 := (wd_X1_cell cI a5 v5_0)) (ws' := (wd_X10_outline cI a0 a1 a2 a3 a4 a5 v0_3 u_16 u_17 u_18 v0_7 v1_3 v1_4 v1_5 v1_0 v1_1 v1_2 v2_10 v2_11 v2_1 v2_4 v2_5 v2_6 v2_7 v2_8 v2_9 v4_10 v4_0 v4_1 v4_2 v4_3 v4_4 v4_5 v4_6 v4_7 v4_8 v4_9 v5_0)) hP hD hS hA [24, 25] [0, 1, 2, 3, 4, 5, 6, 7, 8, 9, 10, 11, 12, 13, 14, 15, 16, 17, 18, 19, 20, 21, 22, 23] [0, 1, 2, 3, 4, 5, 6, 7, 8, 9, 10, 11, 12, 13, 14, 15, 16, 17, 18, 19, 20, 21, 22, 23, 24, 25] rfl rfl rfl (by decide) rfl rfl (va_runV (As := [.int 3]) (rest := [.ref (a0 0)]) ⟨hx, hb, hml, hown, hta⟩ (c_X1_cell l dC dI cI H.size a5 v5_0 3 u_19 hu_19) (cwV 1 hta (ga_V mA470 mA117 mA118 mA6 mA119) rfl rfl rfl (by decide +kernel) ⟨Nat.le_of_ble_eq_true rfl, Nat.le_of_ble_eq_true rfl⟩) ⟨q_fb, va_recv hK hP (ci := 1) (q0 := 24) rfl rfl, q_ps hPc hK hDc⟩ rfl rfl hl.1 rfl (lv_room (Nat.le_of_ble_eq_true rfl)) dX10_outline_29 ⟨Nat.zero_le _, Nat.zero_le _⟩) (fun H locs hP hD hS => ?_)
  refine va_put (D := (dC, dI)) (ci := 9) (v := .int u_19) (ty := .int) (C := RX10) (T := TX10) (N := 8) hx hb hta uw_X10 tyX10 tyX10_ok nmX10 hown hK hP hD hS 0 rfl rfl 7 (by decide) (hta _ mA468) (fun _ h9 => h9) rfl (by decide +kernel) rfl rfl (Nat.le_of_ble_eq_true rfl) dX10_outline_32 (fun H locs hP hD hS => ?_)
  have hP : va_P (dC, dI) vwCl (wd_X10_outline cI a0 a1 a2 a3 a4 a5 v0_3 u_16 u_17 u_18 u_19 v1_3 v1_4 v1_5 v1_0 v1_1 v1_2 v2_10 v2_11 v2_1 v2_4 v2_5 v2_6 v2_7 v2_8 v2_9 v4_10 v4_0 v4_1 v4_2 v4_3 v4_4 v4_5 v4_6 v4_7 v4_8 v4_9 v5_0) H := hP
  have hD : va_D A (wd_X10_outline cI a0 a1 a2 a3 a4 a5 v0_3 u_16 u_17 u_18 u_19 v1_3 v1_4 v1_5 v1_0 v1_1 v1_2 v2_10 v2_11 v2_1 v2_4 v2_5 v2_6 v2_7 v2_8 v2_9 v4_10 v4_0 v4_1 v4_2 v4_3 v4_4 v4_5 v4_6 v4_7 v4_8 v4_9 v5_0) := hD
  refine lv_aload_n hx hb dX10_outline_35 rfl (lv_at hl 0 rfl) ?_
  refine va_get (D := (dC, dI)) (ci := 9) (v := .ref (a1 0)) (C := RX10) (T := TX10) (N := 8) hx hb hta uw_X10 hown hK hP 0 rfl rfl 2 (by decide) (hta _ mA61) (fun _ h9 => h9) rfl dX10_outline_36 ?_
  refine lv_aload_n hx hb dX10_outline_39 rfl (lv_at hl 0 rfl) ?_
  refine va_get (D := (dC, dI)) (ci := 9) (v := .int u_16) (C := RX10) (T := TX10) (N := 8) hx hb hta uw_X10 hown hK hP 0 rfl rfl 4 (by decide) (hta _ mA465) (fun _ h9 => h9) rfl dX10_outline_40 ?_
  obtain ⟨u_20, hu_20, hF⟩ := lt_some hF
  have hPc := hP.sub (ws' := (wd_X7_clear cI a1 v1_3 v1_4 v1_5)) [1] rfl
  have hDc := hD.sub (ws' := (wd_X7_clear cI a1 v1_3 v1_4 v1_5)) [1] rfl rfl
  refine q_callv (wc := (wd_X7_clear cI a1 v1_3 v1_4 v1_5)) (w1 := (wd_X7_clear cI a1 u_20.1 v1_4 u_20.2)) (ws' := (wd_X10_outline cI a0 a1 a2 a3 a4 a5 v0_3 u_16 u_17 u_18 u_19 u_20.1 v1_4 u_20.2 v1_0 v1_1 v1_2 v2_10 v2_11 v2_1 v2_4 v2_5 v2_6 v2_7 v2_8 v2_9 v4_10 v4_0 v4_1 v4_2 v4_3 v4_4 v4_5 v4_6 v4_7 v4_8 v4_9 v5_0)) hP hD hS hA [1] [0, 2, 3, 4, 5, 6, 7, 8, 9, 10, 11, 12, 13, 14, 15, 16, 17, 18, 19, 20, 21, 22, 23, 24, 25] [0, 25, 1, 2, 3, 4, 5, 6, 7, 8, 9, 10, 11, 12, 13, 14, 15, 16, 17, 18, 19, 20, 21, 22, 23, 24] rfl rfl rfl (by decide) rfl rfl (va_runV (As := [.int u_16]) (rest := []) ⟨hx, hb, hml, hown, hta⟩ (c_X7_clear l dC dI cI H.size a1 v1_3 v1_4 v1_5 u_16 u_20 hu_20.symm) (cwV 1 hta (ga_V mA471 mA472 mA473 mA60 mA474) rfl rfl rfl (by decide +kernel) ⟨Nat.le_of_ble_eq_true rfl, Nat.le_of_ble_eq_true rfl⟩) ⟨q_fb, va_recv hK hP (ci := 6) (q0 := 1) rfl rfl, q_ps hPc hK hDc⟩ rfl rfl hl.1 rfl (lv_room (Nat.le_of_ble_eq_true rfl)) dX10_outline_43 ⟨Nat.zero_le _, Nat.zero_le _⟩) (fun H locs hP hD hS => ?_)
  refine lv_iconst (v := 0) hx hb dX10_outline_46 (by decide) ?_
  refine lv_istore_n (lv' := [(2, .int 0), (0, .ref (a0 0)), (1, .ref (a5 0))]) hx hb dX10_outline_47 rfl hl (by decide) rfl (fun ls hl => ?_)
  exact j48 u_16 u_17 u_18 u_19 u_20.1 v1_4 u_20.2 v1_0 v1_1 v1_2 0 hF _ _ _ hP hD hS (lv_sub hl [1, 2, 0] rfl)

-- StrokeOutliner$Stroke.outlined(LStrokeOutliner$Drawing;)LStrokeOutliner$Pieces;
def F_X10_outlined_j24 (v0_3 : Int32) (v0_4 : Int32) (v0_5 : Int32) (v0_6 : Int32) (v0_7 : Int32) (v1_3 : Int32) (v1_4 : Int32) (v1_5 : Int32) (v1_0 : Nat → Int32) (v1_1 : Nat → Int32) (v1_2 : Nat → Int32) (v2_10 : Int32) (v2_11 : Int32) (v2_1 : Nat → Int32) (v2_2 : Nat → Int32) (v2_3 : Nat → Int32) (v2_4 : Nat → Int32) (v2_5 : Nat → Int32) (v2_6 : Nat → Int32) (v2_7 : Nat → Int32) (v2_8 : Nat → Int32) (v2_9 : Nat → Int32) (v3_1 : Int32) (v3_2 : Int32) (v3_3 : Int32) (v3_4 : Int32) (v3_0 : Nat → Int32) (v4_10 : Int32) (v4_0 : Nat → Int32) (v4_1 : Nat → Int32) (v4_2 : Nat → Int32) (v4_3 : Nat → Int32) (v4_4 : Nat → Int32) (v4_5 : Nat → Int32) (v4_6 : Nat → Int32) (v4_7 : Nat → Int32) (v4_8 : Nat → Int32) (v4_9 : Nat → Int32) : Option (Int32 × Int32 × Int32 × Int32 × Int32 × Int32 × Int32 × Int32 × (Nat → Int32) × (Nat → Int32) × (Nat → Int32) × Int32 × Int32 × (Nat → Int32) × (Nat → Int32) × (Nat → Int32) × (Nat → Int32) × (Nat → Int32) × (Nat → Int32) × (Nat → Int32) × (Nat → Int32) × (Nat → Int32) × Int32 × Int32 × Int32 × Int32 × (Nat → Int32) × Int32 × (Nat → Int32) × (Nat → Int32) × (Nat → Int32) × (Nat → Int32) × (Nat → Int32) × (Nat → Int32) × (Nat → Int32) × (Nat → Int32) × (Nat → Int32) × (Nat → Int32)) :=
  some (v0_3, v0_4, v0_5, v0_6, v0_7, v1_3, v1_4, v1_5, v1_0, v1_1, v1_2, v2_10, v2_11, v2_1, v2_2, v2_3, v2_4, v2_5, v2_6, v2_7, v2_8, v2_9, v3_1, v3_2, v3_3, v3_4, v3_0, v4_10, v4_0, v4_1, v4_2, v4_3, v4_4, v4_5, v4_6, v4_7, v4_8, v4_9)
def F_X10_outlined (n : Nat) (v0_3 : Int32) (v0_4 : Int32) (v0_5 : Int32) (v0_6 : Int32) (v0_7 : Int32) (v1_3 : Int32) (v1_4 : Int32) (v1_5 : Int32) (v1_0 : Nat → Int32) (v1_1 : Nat → Int32) (v1_2 : Nat → Int32) (v2_10 : Int32) (v2_11 : Int32) (v2_1 : Nat → Int32) (v2_2 : Nat → Int32) (v2_3 : Nat → Int32) (v2_4 : Nat → Int32) (v2_5 : Nat → Int32) (v2_6 : Nat → Int32) (v2_7 : Nat → Int32) (v2_8 : Nat → Int32) (v2_9 : Nat → Int32) (v3_1 : Int32) (v3_2 : Int32) (v3_3 : Int32) (v3_4 : Int32) (v3_0 : Nat → Int32) (v4_10 : Int32) (v4_0 : Nat → Int32) (v4_1 : Nat → Int32) (v4_2 : Nat → Int32) (v4_3 : Nat → Int32) (v4_4 : Nat → Int32) (v4_5 : Nat → Int32) (v4_6 : Nat → Int32) (v4_7 : Nat → Int32) (v4_8 : Nat → Int32) (v4_9 : Nat → Int32) (v5_0 : Nat → Int32) : Option (Int32 × Int32 × Int32 × Int32 × Int32 × Int32 × Int32 × Int32 × (Nat → Int32) × (Nat → Int32) × (Nat → Int32) × Int32 × Int32 × (Nat → Int32) × (Nat → Int32) × (Nat → Int32) × (Nat → Int32) × (Nat → Int32) × (Nat → Int32) × (Nat → Int32) × (Nat → Int32) × (Nat → Int32) × Int32 × Int32 × Int32 × Int32 × (Nat → Int32) × Int32 × (Nat → Int32) × (Nat → Int32) × (Nat → Int32) × (Nat → Int32) × (Nat → Int32) × (Nat → Int32) × (Nat → Int32) × (Nat → Int32) × (Nat → Int32) × (Nat → Int32)) :=
  if 3 ≤ v0_3 then F_X10_outlined_j24 v0_3 v0_4 v0_5 v0_6 v0_7 v1_3 v1_4 v1_5 v1_0 v1_1 v1_2 v2_10 v2_11 v2_1 v2_2 v2_3 v2_4 v2_5 v2_6 v2_7 v2_8 v2_9 v3_1 v3_2 v3_3 v3_4 v3_0 v4_10 v4_0 v4_1 v4_2 v4_3 v4_4 v4_5 v4_6 v4_7 v4_8 v4_9 else obd (F_X10_walked n v0_3 v2_10 v2_11 v2_1 v2_2 v2_3 v2_4 v2_5 v2_6 v2_7 v2_8 v2_9 v3_1 v3_2 v3_3 v3_4 v3_0 v4_10 v4_0 v4_1 v4_2 v4_3 v4_4 v4_5 v4_6 v4_7 v4_8 v4_9 v5_0) (fun u_2 => obd (F_X10_outline n v1_4 v1_0 v1_1 v1_2 u_2.2.2.2.1 u_2.2.2.2.2.2.2.1 u_2.2.2.2.2.2.2.2.1 u_2.2.2.2.2.2.2.2.2.1 u_2.2.2.2.2.2.2.2.2.2.1 u_2.2.2.2.2.2.2.2.2.2.2.1 u_2.2.2.2.2.2.2.2.2.2.2.2.1 u_2.2.2.2.2.2.2.2.2.2.2.2.2.2.2.2.2.2.2.1 u_2.2.2.2.2.2.2.2.2.2.2.2.2.2.2.2.2.2.2.2.1 u_2.2.2.2.2.2.2.2.2.2.2.2.2.2.2.2.2.2.2.2.2.1 u_2.2.2.2.2.2.2.2.2.2.2.2.2.2.2.2.2.2.2.2.2.2.1 u_2.2.2.2.2.2.2.2.2.2.2.2.2.2.2.2.2.2.2.2.2.2.2.1 u_2.2.2.2.2.2.2.2.2.2.2.2.2.2.2.2.2.2.2.2.2.2.2.2.1 u_2.2.2.2.2.2.2.2.2.2.2.2.2.2.2.2.2.2.2.2.2.2.2.2.2.1 u_2.2.2.2.2.2.2.2.2.2.2.2.2.2.2.2.2.2.2.2.2.2.2.2.2.2.1 u_2.2.2.2.2.2.2.2.2.2.2.2.2.2.2.2.2.2.2.2.2.2.2.2.2.2.2.1 u_2.2.2.2.2.2.2.2.2.2.2.2.2.2.2.2.2.2.2.2.2.2.2.2.2.2.2.2 v5_0) (fun u_3 => F_X10_outlined_j24 3 u_3.1 u_3.2.1 u_3.2.2.1 u_3.2.2.2.1 u_3.2.2.2.2.1 u_3.2.2.2.2.2.1 u_3.2.2.2.2.2.2.1 u_3.2.2.2.2.2.2.2.1 u_3.2.2.2.2.2.2.2.2.1 u_3.2.2.2.2.2.2.2.2.2 u_2.2.1 u_2.2.2.1 u_2.2.2.2.1 u_2.2.2.2.2.1 u_2.2.2.2.2.2.1 u_2.2.2.2.2.2.2.1 u_2.2.2.2.2.2.2.2.1 u_2.2.2.2.2.2.2.2.2.1 u_2.2.2.2.2.2.2.2.2.2.1 u_2.2.2.2.2.2.2.2.2.2.2.1 u_2.2.2.2.2.2.2.2.2.2.2.2.1 u_2.2.2.2.2.2.2.2.2.2.2.2.2.1 u_2.2.2.2.2.2.2.2.2.2.2.2.2.2.1 u_2.2.2.2.2.2.2.2.2.2.2.2.2.2.2.1 u_2.2.2.2.2.2.2.2.2.2.2.2.2.2.2.2.1 u_2.2.2.2.2.2.2.2.2.2.2.2.2.2.2.2.2.1 u_2.2.2.2.2.2.2.2.2.2.2.2.2.2.2.2.2.2.1 u_2.2.2.2.2.2.2.2.2.2.2.2.2.2.2.2.2.2.2.1 u_2.2.2.2.2.2.2.2.2.2.2.2.2.2.2.2.2.2.2.2.1 u_2.2.2.2.2.2.2.2.2.2.2.2.2.2.2.2.2.2.2.2.2.1 u_2.2.2.2.2.2.2.2.2.2.2.2.2.2.2.2.2.2.2.2.2.2.1 u_2.2.2.2.2.2.2.2.2.2.2.2.2.2.2.2.2.2.2.2.2.2.2.1 u_2.2.2.2.2.2.2.2.2.2.2.2.2.2.2.2.2.2.2.2.2.2.2.2.1 u_2.2.2.2.2.2.2.2.2.2.2.2.2.2.2.2.2.2.2.2.2.2.2.2.2.1 u_2.2.2.2.2.2.2.2.2.2.2.2.2.2.2.2.2.2.2.2.2.2.2.2.2.2.1 u_2.2.2.2.2.2.2.2.2.2.2.2.2.2.2.2.2.2.2.2.2.2.2.2.2.2.2.1 u_2.2.2.2.2.2.2.2.2.2.2.2.2.2.2.2.2.2.2.2.2.2.2.2.2.2.2.2))
abbrev wd_X10_outlined (cI : ClassId) (a0 : Nat → Nat) (a1 : Nat → Nat) (a2 : Nat → Nat) (a3 : Nat → Nat) (a4 : Nat → Nat) (a5 : Nat → Nat) (v0_3 : Int32) (v0_4 : Int32) (v0_5 : Int32) (v0_6 : Int32) (v0_7 : Int32) (v1_3 : Int32) (v1_4 : Int32) (v1_5 : Int32) (v1_0 : Nat → Int32) (v1_1 : Nat → Int32) (v1_2 : Nat → Int32) (v2_10 : Int32) (v2_11 : Int32) (v2_1 : Nat → Int32) (v2_2 : Nat → Int32) (v2_3 : Nat → Int32) (v2_4 : Nat → Int32) (v2_5 : Nat → Int32) (v2_6 : Nat → Int32) (v2_7 : Nat → Int32) (v2_8 : Nat → Int32) (v2_9 : Nat → Int32) (v3_1 : Int32) (v3_2 : Int32) (v3_3 : Int32) (v3_4 : Int32) (v3_0 : Nat → Int32) (v4_10 : Int32) (v4_0 : Nat → Int32) (v4_1 : Nat → Int32) (v4_2 : Nat → Int32) (v4_3 : Nat → Int32) (v4_4 : Nat → Int32) (v4_5 : Nat → Int32) (v4_6 : Nat → Int32) (v4_7 : Nat → Int32) (v4_8 : Nat → Int32) (v4_9 : Nat → Int32) (v5_0 : Nat → Int32) : va_W := [(a0 0, .inr (9, [.ref (a4 0), .ref (a2 0), .ref (a1 0), .int v0_3, .int v0_4, .int v0_5, .int v0_6, .int v0_7])), (a1 0, .inr (6, [.ref (a1 1), .ref (a1 2), .ref (a1 3), .int v1_3, .int v1_4, .int v1_5])), (a1 1, .inl (cI, 2800, .inl v1_0)), (a1 2, .inl (cI, 11200, .inl v1_1)), (a1 3, .inl (cI, 11200, .inl v1_2)), (a2 0, .inr (7, [.ref (a3 0), .ref (a2 2), .ref (a2 3), .ref (a2 4), .ref (a2 5), .ref (a2 6), .ref (a2 7), .ref (a2 8), .ref (a2 9), .ref (a2 10), .int v2_10, .int v2_11])), (a2 2, .inl (cI, 5, .inl v2_1)), (a2 3, .inl (cI, 928, .inl v2_2)), (a2 4, .inl (cI, 928, .inl v2_3)), (a2 5, .inl (cI, 928, .inl v2_4)), (a2 6, .inl (cI, 928, .inl v2_5)), (a2 7, .inl (cI, 928, .inl v2_6)), (a2 8, .inl (cI, 1024, .inl v2_7)), (a2 9, .inl (cI, 1024, .inl v2_8)), (a2 10, .inl (cI, 1024, .inl v2_9)), (a3 0, .inr (0, [.ref (a3 1), .int v3_1, .int v3_2, .int v3_3, .int v3_4])), (a3 1, .inl (cI, 6, .inl v3_0)), (a4 0, .inr (8, [.ref (a4 1), .ref (a4 2), .ref (a4 3), .ref (a4 4), .ref (a4 5), .ref (a4 6), .ref (a4 7), .ref (a4 8), .ref (a4 9), .ref (a4 10), .int v4_10])), (a4 1, .inl (cI, 5, .inl v4_0)), (a4 2, .inl (cI, 32, .inl v4_1)), (a4 3, .inl (cI, 32, .inl v4_2)), (a4 4, .inl (cI, 32, .inl v4_3)), (a4 5, .inl (cI, 32, .inl v4_4)), (a4 6, .inl (cI, 32, .inl v4_5)), (a4 7, .inl (cI, 32, .inl v4_6)), (a4 8, .inl (cI, 32, .inl v4_7)), (a4 9, .inl (cI, 32, .inl v4_8)), (a4 10, .inl (cI, 32, .inl v4_9)), (a5 0, .inr (1, [.ref (a5 1)])), (a5 1, .inl (cI, 86, .inl v5_0))]
abbrev wz_X10_outlined : List Cond := .code yX10_outlined cX10_outlined 2 (some (.object "StrokeOutliner$Pieces")) :: wALL
abbrev rm_X10_outlined : Room := { frames := 5, cells := 0, slots := 0, locals := 147 }
abbrev Q_X10_outlined (dC : Nat → ClassId) (dI : Nat → Nat → Nat) (cI : ClassId) (a0 : Nat → Nat) (a1 : Nat → Nat) (a2 : Nat → Nat) (a3 : Nat → Nat) (a4 : Nat → Nat) (a5 : Nat → Nat) (v5_0 : Nat → Int32) (u : (Int32 × Int32 × Int32 × Int32 × Int32 × Int32 × Int32 × Int32 × (Nat → Int32) × (Nat → Int32) × (Nat → Int32) × Int32 × Int32 × (Nat → Int32) × (Nat → Int32) × (Nat → Int32) × (Nat → Int32) × (Nat → Int32) × (Nat → Int32) × (Nat → Int32) × (Nat → Int32) × (Nat → Int32) × Int32 × Int32 × Int32 × Int32 × (Nat → Int32) × Int32 × (Nat → Int32) × (Nat → Int32) × (Nat → Int32) × (Nat → Int32) × (Nat → Int32) × (Nat → Int32) × (Nat → Int32) × (Nat → Int32) × (Nat → Int32) × (Nat → Int32))) (A : Nat → Prop) : Array Value → State → Outcome → State → Prop := va_Qr (fun (_ : Unit) => True) (fun _ ra t => ra = a1 0 ∧ q_at dC dI cI A (wd_X10_outlined cI a0 a1 a2 a3 a4 a5 u.1 u.2.1 u.2.2.1 u.2.2.2.1 u.2.2.2.2.1 u.2.2.2.2.2.1 u.2.2.2.2.2.2.1 u.2.2.2.2.2.2.2.1 u.2.2.2.2.2.2.2.2.1 u.2.2.2.2.2.2.2.2.2.1 u.2.2.2.2.2.2.2.2.2.2.1 u.2.2.2.2.2.2.2.2.2.2.2.1 u.2.2.2.2.2.2.2.2.2.2.2.2.1 u.2.2.2.2.2.2.2.2.2.2.2.2.2.1 u.2.2.2.2.2.2.2.2.2.2.2.2.2.2.1 u.2.2.2.2.2.2.2.2.2.2.2.2.2.2.2.1 u.2.2.2.2.2.2.2.2.2.2.2.2.2.2.2.2.1 u.2.2.2.2.2.2.2.2.2.2.2.2.2.2.2.2.2.1 u.2.2.2.2.2.2.2.2.2.2.2.2.2.2.2.2.2.2.1 u.2.2.2.2.2.2.2.2.2.2.2.2.2.2.2.2.2.2.2.1 u.2.2.2.2.2.2.2.2.2.2.2.2.2.2.2.2.2.2.2.2.1 u.2.2.2.2.2.2.2.2.2.2.2.2.2.2.2.2.2.2.2.2.2.1 u.2.2.2.2.2.2.2.2.2.2.2.2.2.2.2.2.2.2.2.2.2.2.1 u.2.2.2.2.2.2.2.2.2.2.2.2.2.2.2.2.2.2.2.2.2.2.2.1 u.2.2.2.2.2.2.2.2.2.2.2.2.2.2.2.2.2.2.2.2.2.2.2.2.1 u.2.2.2.2.2.2.2.2.2.2.2.2.2.2.2.2.2.2.2.2.2.2.2.2.2.1 u.2.2.2.2.2.2.2.2.2.2.2.2.2.2.2.2.2.2.2.2.2.2.2.2.2.2.1 u.2.2.2.2.2.2.2.2.2.2.2.2.2.2.2.2.2.2.2.2.2.2.2.2.2.2.2.1 u.2.2.2.2.2.2.2.2.2.2.2.2.2.2.2.2.2.2.2.2.2.2.2.2.2.2.2.2.1 u.2.2.2.2.2.2.2.2.2.2.2.2.2.2.2.2.2.2.2.2.2.2.2.2.2.2.2.2.2.1 u.2.2.2.2.2.2.2.2.2.2.2.2.2.2.2.2.2.2.2.2.2.2.2.2.2.2.2.2.2.2.1 u.2.2.2.2.2.2.2.2.2.2.2.2.2.2.2.2.2.2.2.2.2.2.2.2.2.2.2.2.2.2.2.1 u.2.2.2.2.2.2.2.2.2.2.2.2.2.2.2.2.2.2.2.2.2.2.2.2.2.2.2.2.2.2.2.2.1 u.2.2.2.2.2.2.2.2.2.2.2.2.2.2.2.2.2.2.2.2.2.2.2.2.2.2.2.2.2.2.2.2.2.1 u.2.2.2.2.2.2.2.2.2.2.2.2.2.2.2.2.2.2.2.2.2.2.2.2.2.2.2.2.2.2.2.2.2.2.1 u.2.2.2.2.2.2.2.2.2.2.2.2.2.2.2.2.2.2.2.2.2.2.2.2.2.2.2.2.2.2.2.2.2.2.2.1 u.2.2.2.2.2.2.2.2.2.2.2.2.2.2.2.2.2.2.2.2.2.2.2.2.2.2.2.2.2.2.2.2.2.2.2.2.1 u.2.2.2.2.2.2.2.2.2.2.2.2.2.2.2.2.2.2.2.2.2.2.2.2.2.2.2.2.2.2.2.2.2.2.2.2.2 v5_0) t) A
set_option maxHeartbeats 4000000 in
set_option maxRecDepth 100000 in
theorem c_X10_outlined (l : Launch) (dC : Nat → ClassId) (dI : Nat → Nat → Nat) (cI : ClassId) (sz : Nat) (a0 : Nat → Nat) (a1 : Nat → Nat) (a2 : Nat → Nat) (a3 : Nat → Nat) (a4 : Nat → Nat) (a5 : Nat → Nat) (v0_3 : Int32) (v0_4 : Int32) (v0_5 : Int32) (v0_6 : Int32) (v0_7 : Int32) (v1_3 : Int32) (v1_4 : Int32) (v1_5 : Int32) (v1_0 : Nat → Int32) (v1_1 : Nat → Int32) (v1_2 : Nat → Int32) (v2_10 : Int32) (v2_11 : Int32) (v2_1 : Nat → Int32) (v2_2 : Nat → Int32) (v2_3 : Nat → Int32) (v2_4 : Nat → Int32) (v2_5 : Nat → Int32) (v2_6 : Nat → Int32) (v2_7 : Nat → Int32) (v2_8 : Nat → Int32) (v2_9 : Nat → Int32) (v3_1 : Int32) (v3_2 : Int32) (v3_3 : Int32) (v3_4 : Int32) (v3_0 : Nat → Int32) (v4_10 : Int32) (v4_0 : Nat → Int32) (v4_1 : Nat → Int32) (v4_2 : Nat → Int32) (v4_3 : Nat → Int32) (v4_4 : Nat → Int32) (v4_5 : Nat → Int32) (v4_6 : Nat → Int32) (v4_7 : Nat → Int32) (v4_8 : Nat → Int32) (v4_9 : Nat → Int32) (v5_0 : Nat → Int32) (n : Nat) (u : (Int32 × Int32 × Int32 × Int32 × Int32 × Int32 × Int32 × Int32 × (Nat → Int32) × (Nat → Int32) × (Nat → Int32) × Int32 × Int32 × (Nat → Int32) × (Nat → Int32) × (Nat → Int32) × (Nat → Int32) × (Nat → Int32) × (Nat → Int32) × (Nat → Int32) × (Nat → Int32) × (Nat → Int32) × Int32 × Int32 × Int32 × Int32 × (Nat → Int32) × Int32 × (Nat → Int32) × (Nat → Int32) × (Nat → Int32) × (Nat → Int32) × (Nat → Int32) × (Nat → Int32) × (Nat → Int32) × (Nat → Int32) × (Nat → Int32) × (Nat → Int32))) (hF : F_X10_outlined n v0_3 v0_4 v0_5 v0_6 v0_7 v1_3 v1_4 v1_5 v1_0 v1_1 v1_2 v2_10 v2_11 v2_1 v2_2 v2_3 v2_4 v2_5 v2_6 v2_7 v2_8 v2_9 v3_1 v3_2 v3_3 v3_4 v3_0 v4_10 v4_0 v4_1 v4_2 v4_3 v4_4 v4_5 v4_6 v4_7 v4_8 v4_9 v5_0 = some u) : Met l yX10_outlined wz_X10_outlined rm_X10_outlined (va_Pc [.ref (a0 0), .ref (a5 0)] (q_pre dC dI cI (wd_X10_outlined cI a0 a1 a2 a3 a4 a5 v0_3 v0_4 v0_5 v0_6 v0_7 v1_3 v1_4 v1_5 v1_0 v1_1 v1_2 v2_10 v2_11 v2_1 v2_2 v2_3 v2_4 v2_5 v2_6 v2_7 v2_8 v2_9 v3_1 v3_2 v3_3 v3_4 v3_0 v4_10 v4_0 v4_1 v4_2 v4_3 v4_4 v4_5 v4_6 v4_7 v4_8 v4_9 v5_0) sz)) (Q_X10_outlined dC dI cI a0 a1 a2 a3 a4 a5 v5_0 u (va_A (wd_X10_outlined cI a0 a1 a2 a3 a4 a5 v0_3 v0_4 v0_5 v0_6 v0_7 v1_3 v1_4 v1_5 v1_0 v1_1 v1_2 v2_10 v2_11 v2_1 v2_2 v2_3 v2_4 v2_5 v2_6 v2_7 v2_8 v2_9 v3_1 v3_2 v3_3 v3_4 v3_0 v4_10 v4_0 v4_1 v4_2 v4_3 v4_4 v4_5 v4_6 v4_7 v4_8 v4_9 v5_0) sz)) 0 0 (va_A (wd_X10_outlined cI a0 a1 a2 a3 a4 a5 v0_3 v0_4 v0_5 v0_6 v0_7 v1_3 v1_4 v1_5 v1_0 v1_1 v1_2 v2_10 v2_11 v2_1 v2_2 v2_3 v2_4 v2_5 v2_6 v2_7 v2_8 v2_9 v3_1 v3_2 v3_3 v3_4 v3_0 v4_10 v4_0 v4_1 v4_2 v4_3 v4_4 v4_5 v4_6 v4_7 v4_8 v4_9 v5_0) sz) := by
  refine Met.ofW (cc := cX10_outlined) (maxL := 2) (ret := (some (.object "StrokeOutliner$Pieces"))) (by decide) rfl ?_
  intro p e s m args below meth c s₁ B hml hv
  obtain ⟨rfl, hsz, hP, hK, hD0⟩ := hv
  have hx := B.exec
  have hb := B.bytes
  have hr := B.returns
  have hts := atoms_spec (ws := wz_X10_outlined) B.pre
  have hta := wz_tl hts
  have hown : s.vm.findClass RX10 = some m.cls := findClass_of_methodNamed B.named
  have hlocks := B.notSynchronized
  subst hsz
  have hD := hD0.self (sz := s.heap.size)
  generalize hAe : va_A (wd_X10_outlined cI a0 a1 a2 a3 a4 a5 v0_3 v0_4 v0_5 v0_6 v0_7 v1_3 v1_4 v1_5 v1_0 v1_1 v1_2 v2_10 v2_11 v2_1 v2_2 v2_3 v2_4 v2_5 v2_6 v2_7 v2_8 v2_9 v3_1 v3_2 v3_3 v3_4 v3_0 v4_10 v4_0 v4_1 v4_2 v4_3 v4_4 v4_5 v4_6 v4_7 v4_8 v4_9 v5_0) s.heap.size = A at hD ⊢
  have hA : ∀ q : Nat, s.heap.size ≤ q → A q := fun q h => by rw [← hAe]; exact Or.inr h
  have hS : va_S A s.heap s.heap [] := va_S.rf
  have hP : va_P (dC, dI) vwCl (wd_X10_outlined cI a0 a1 a2 a3 a4 a5 v0_3 v0_4 v0_5 v0_6 v0_7 v1_3 v1_4 v1_5 v1_0 v1_1 v1_2 v2_10 v2_11 v2_1 v2_2 v2_3 v2_4 v2_5 v2_6 v2_7 v2_8 v2_9 v3_1 v3_2 v3_3 v3_4 v3_0 v4_10 v4_0 v4_1 v4_2 v4_3 v4_4 v4_5 v4_6 v4_7 v4_8 v4_9 v5_0) s.heap := hP
  have hl := lv_entry ([.ref (a0 0), .ref (a5 0)]) (n := 2) (Nat.le_of_ble_eq_true rfl)
  rw [lg_entry_eq]
  generalize (lg_sl ([.ref (a0 0), .ref (a5 0)]) ++ List.replicate (2 - (lg_sl ([.ref (a0 0), .ref (a5 0)])).length) Slot.unset).toArray = ls at hl ⊢
  have hl : lv_has ls 2 [(0, .ref (a0 0)), (1, .ref (a5 0))] := hl
  obtain ⟨H, hHe⟩ : ∃ H, H = s.heap := ⟨_, rfl⟩
  have hS : va_S A s.heap H [] := by rw [hHe]; exact hS
  have hP : va_P (dC, dI) vwCl (wd_X10_outlined cI a0 a1 a2 a3 a4 a5 v0_3 v0_4 v0_5 v0_6 v0_7 v1_3 v1_4 v1_5 v1_0 v1_1 v1_2 v2_10 v2_11 v2_1 v2_2 v2_3 v2_4 v2_5 v2_6 v2_7 v2_8 v2_9 v3_1 v3_2 v3_3 v3_4 v3_0 v4_10 v4_0 v4_1 v4_2 v4_3 v4_4 v4_5 v4_6 v4_7 v4_8 v4_9 v5_0) H := by rw [hHe]; exact hP
  rw [← hHe]
  unfold F_X10_outlined at hF
  have j24 : ∀ (v0_3 : Int32) (v0_4 : Int32) (v0_5 : Int32) (v0_6 : Int32) (v0_7 : Int32) (v1_3 : Int32) (v1_4 : Int32) (v1_5 : Int32) (v1_0 : Nat → Int32) (v1_1 : Nat → Int32) (v1_2 : Nat → Int32) (v2_10 : Int32) (v2_11 : Int32) (v2_1 : Nat → Int32) (v2_2 : Nat → Int32) (v2_3 : Nat → Int32) (v2_4 : Nat → Int32) (v2_5 : Nat → Int32) (v2_6 : Nat → Int32) (v2_7 : Nat → Int32) (v2_8 : Nat → Int32) (v2_9 : Nat → Int32) (v3_1 : Int32) (v3_2 : Int32) (v3_3 : Int32) (v3_4 : Int32) (v3_0 : Nat → Int32) (v4_10 : Int32) (v4_0 : Nat → Int32) (v4_1 : Nat → Int32) (v4_2 : Nat → Int32) (v4_3 : Nat → Int32) (v4_4 : Nat → Int32) (v4_5 : Nat → Int32) (v4_6 : Nat → Int32) (v4_7 : Nat → Int32) (v4_8 : Nat → Int32) (v4_9 : Nat → Int32), F_X10_outlined_j24 v0_3 v0_4 v0_5 v0_6 v0_7 v1_3 v1_4 v1_5 v1_0 v1_1 v1_2 v2_10 v2_11 v2_1 v2_2 v2_3 v2_4 v2_5 v2_6 v2_7 v2_8 v2_9 v3_1 v3_2 v3_3 v3_4 v3_0 v4_10 v4_0 v4_1 v4_2 v4_3 v4_4 v4_5 v4_6 v4_7 v4_8 v4_9 = some u → ∀ (H : Heap) (locs : List Loc) (ls : Array Slot), va_P (dC, dI) vwCl (wd_X10_outlined cI a0 a1 a2 a3 a4 a5 v0_3 v0_4 v0_5 v0_6 v0_7 v1_3 v1_4 v1_5 v1_0 v1_1 v1_2 v2_10 v2_11 v2_1 v2_2 v2_3 v2_4 v2_5 v2_6 v2_7 v2_8 v2_9 v3_1 v3_2 v3_3 v3_4 v3_0 v4_10 v4_0 v4_1 v4_2 v4_3 v4_4 v4_5 v4_6 v4_7 v4_8 v4_9 v5_0) H → va_D A (wd_X10_outlined cI a0 a1 a2 a3 a4 a5 v0_3 v0_4 v0_5 v0_6 v0_7 v1_3 v1_4 v1_5 v1_0 v1_1 v1_2 v2_10 v2_11 v2_1 v2_2 v2_3 v2_4 v2_5 v2_6 v2_7 v2_8 v2_9 v3_1 v3_2 v3_3 v3_4 v3_0 v4_10 v4_0 v4_1 v4_2 v4_3 v4_4 v4_5 v4_6 v4_7 v4_8 v4_9 v5_0) → va_S A s.heap H locs → lv_has ls 2 [(0, .ref (a0 0))] → W p l e (headSpec wz_X10_outlined rm_X10_outlined).room s m [.ref (a0 0), .ref (a5 0)].toArray below meth c H locs 0 0 (MQ below (Q_X10_outlined dC dI cI a0 a1 a2 a3 a4 a5 v5_0 u A) [.ref (a0 0), .ref (a5 0)].toArray s 0 0 A) (F0 m 24 ls []) := by
    intro v0_3 v0_4 v0_5 v0_6 v0_7 v1_3 v1_4 v1_5 v1_0 v1_1 v1_2 v2_10 v2_11 v2_1 v2_2 v2_3 v2_4 v2_5 v2_6 v2_7 v2_8 v2_9 v3_1 v3_2 v3_3 v3_4 v3_0 v4_10 v4_0 v4_1 v4_2 v4_3 v4_4 v4_5 v4_6 v4_7 v4_8 v4_9 hF H locs ls hP hD hS hl
    unfold F_X10_outlined_j24 at hF
    refine lv_aload_n hx hb dX10_outlined_24 rfl (lv_at hl 0 rfl) ?_
    refine va_get (D := (dC, dI)) (ci := 9) (v := .ref (a1 0)) (C := RX10) (T := TX10) (N := 8) hx hb hta uw_X10 hown hK hP 0 rfl rfl 2 (by decide) (hta _ mA61) (fun _ h9 => h9) rfl dX10_outlined_25 ?_
    obtain rfl := Option.some.inj hF
    exact W.aret (v := .ref (a1 0)) hx hb hr (Or.inl ⟨_, rfl⟩) (Or.inr ⟨_, rfl⟩) (fun t ht hW => ⟨⟨(), (a1 0), rfl, trivial, rfl, by rw [ht]; exact hP, va_K.moved hW.alike hK, hD⟩, hS.F ht⟩) hS.2.2 dX10_outlined_28
  refine lv_aload_n hx hb dX10_outlined_0 rfl (lv_at hl 0 rfl) ?_
  refine va_get (D := (dC, dI)) (ci := 9) (v := .int v0_3) (C := RX10) (T := TX10) (N := 8) hx hb hta uw_X10 hown hK hP 0 rfl rfl 3 (by decide) (hta _ mA147) (fun _ h9 => h9) rfl dX10_outlined_1 ?_
  refine lv_iconst (v := 3) hx hb dX10_outlined_4 (by decide) ?_
  refine lv_icmp_ge (tgt := 24) hx hb dX10_outlined_5 (by decide) (fun c_1 => ?_) (fun c_1 => ?_)
  · have hF := it_t hF c_1
    exact j24 v0_3 v0_4 v0_5 v0_6 v0_7 v1_3 v1_4 v1_5 v1_0 v1_1 v1_2 v2_10 v2_11 v2_1 v2_2 v2_3 v2_4 v2_5 v2_6 v2_7 v2_8 v2_9 v3_1 v3_2 v3_3 v3_4 v3_0 v4_10 v4_0 v4_1 v4_2 v4_3 v4_4 v4_5 v4_6 v4_7 v4_8 v4_9 hF _ _ _ hP hD hS (lv_sub hl [0] rfl)
  · have hF := it_f hF c_1
    refine lv_aload_n hx hb dX10_outlined_8 rfl (lv_at hl 0 rfl) ?_
    refine lv_aload_n hx hb dX10_outlined_9 rfl (lv_at hl 1 rfl) ?_
    obtain ⟨u_2, hu_2, hF⟩ := obd_some hF
    have hPc := hP.sub (ws' := (wd_X10_walked cI a0 a1 a2 a3 a4 a5 v0_3 v0_4 v0_5 v0_6 v0_7 v2_10 v2_11 v2_1 v2_2 v2_3 v2_4 v2_5 v2_6 v2_7 v2_8 v2_9 v3_1 v3_2 v3_3 v3_4 v3_0 v4_10 v4_0 v4_1 v4_2 v4_3 v4_4 v4_5 v4_6 v4_7 v4_8 v4_9 v5_0)) [0, 5, 6, 7, 8, 9, 10, 11, 12, 13, 14, 15, 16, 17, 18, 19, 20, 21, 22, 23, 24, 25, 26, 27, 28, 29] rfl
    have hDc := hD.sub (ws' := (wd_X10_walked cI a0 a1 a2 a3 a4 a5 v0_3 v0_4 v0_5 v0_6 v0_7 v2_10 v2_11 v2_1 v2_2 v2_3 v2_4 v2_5 v2_6 v2_7 v2_8 v2_9 v3_1 v3_2 v3_3 v3_4 v3_0 v4_10 v4_0 v4_1 v4_2 v4_3 v4_4 v4_5 v4_6 v4_7 v4_8 v4_9 v5_0)) [0, 5, 6, 7, 8, 9, 10, 11, 12, 13, 14, 15, 16, 17, 18, 19, 20, 21, 22, 23, 24, 25, 26, 27, 28, 29] rfl rfl
    refine q_callr (wc := (wd_X10_walked cI a0 a1 a2 a3 a4 a5 v0_3 v0_4 v0_5 v0_6 v0_7 v2_10 v2_11 v2_1 v2_2 v2_3 v2_4 v2_5 v2_6 v2_7 v2_8 v2_9 v3_1 v3_2 v3_3 v3_4 v3_0 v4_10 v4_0 v4_1 v4_2 v4_3 v4_4 v4_5 v4_6 v4_7 v4_8 v4_9 v5_0)) (w1 := (wd_X10_walked cI a0 a1 a2 a3 a4 a5 u_2.1 v0_4 v0_5 v0_6 v0_7 u_2.2.1 u_2.2.2.1 u_2.2.2.2.1 u_2.2.2.2.2.1 u_2.2.2.2.2.2.1 u_2.2.2.2.2.2.2.1 u_2.2.2.2.2.2.2.2.1 u_2.2.2.2.2.2.2.2.2.1 u_2.2.2.2.2.2.2.2.2.2.1 u_2.2.2.2.2.2.2.2.2.2.2.1 u_2.2.2.2.2.2.2.2.2.2.2.2.1 u_2.2.2.2.2.2.2.2.2.2.2.2.2.1 u_2.2.2.2.2.2.2.2.2.2.2.2.2.2.1 u_2.2.2.2.2.2.2.2.2.2.2.2.2.2.2.1 u_2.2.2.2.2.2.2.2.2.2.2.2.2.2.2.2.1 u_2.2.2.2.2.2.2.2.2.2.2.2.2.2.2.2.2.1 u_2.2.2.2.2.2.2.2.2.2.2.2.2.2.2.2.2.2.1 u_2.2.2.2.2.2.2.2.2.2.2.2.2.2.2.2.2.2.2.1 u_2.2.2.2.2.2.2.2.2.2.2.2.2.2.2.2.2.2.2.2.1 u_2.2.2.2.2.2.2.2.2.2.2.2.2.2.2.2.2.2.2.2.2.1 u_2.2.2.2.2.2.2.2.2.2.2.2.2.2.2.2.2.2.2.2.2.2.1 u_2.2.2.2.2.2.2.2.2.2.2.2.2.2.2.2.2.2.2.2.2.2.2.1 u_2.2.2.2.2.2.2.2.2.2.2.2.2.2.2.2.2.2.2.2.2.2.2.2.1 u_2.2.2.2.2.2.2.2.2.2.2.2.2.2.2.2.2.2.2.2.2.2.2.2.2.1 u_2.2.2.2.2.2.2.2.2.2.2.2.2.2.2.2.2.2.2.2.2.2.2.2.2.2.1 u_2.2.2.2.2.2.2.2.2.2.2.2.2.2.2.2.2.2.2.2.2.2.2.2.2.2.2.1 u_2.2.2.2.2.2.2.2.2.2.2.2.2.2.2.2.2.2.2.2.2.2.2.2.2.2.2.2 v5_0)) (ws' := (wd_X10_outlined cI a0 a1 a2 a3 a4 a5 u_2.1 v0_4 v0_5 v0_6 v0_7 v1_3 v1_4 v1_5 v1_0 v1_1 v1_2 u_2.2.1 u_2.2.2.1 u_2.2.2.2.1 u_2.2.2.2.2.1 u_2.2.2.2.2.2.1 u_2.2.2.2.2.2.2.1 u_2.2.2.2.2.2.2.2.1 u_2.2.2.2.2.2.2.2.2.1 u_2.2.2.2.2.2.2.2.2.2.1 u_2.2.2.2.2.2.2.2.2.2.2.1 u_2.2.2.2.2.2.2.2.2.2.2.2.1 u_2.2.2.2.2.2.2.2.2.2.2.2.2.1 u_2.2.2.2.2.2.2.2.2.2.2.2.2.2.1 u_2.2.2.2.2.2.2.2.2.2.2.2.2.2.2.1 u_2.2.2.2.2.2.2.2.2.2.2.2.2.2.2.2.1 u_2.2.2.2.2.2.2.2.2.2.2.2.2.2.2.2.2.1 u_2.2.2.2.2.2.2.2.2.2.2.2.2.2.2.2.2.2.1 u_2.2.2.2.2.2.2.2.2.2.2.2.2.2.2.2.2.2.2.1 u_2.2.2.2.2.2.2.2.2.2.2.2.2.2.2.2.2.2.2.2.1 u_2.2.2.2.2.2.2.2.2.2.2.2.2.2.2.2.2.2.2.2.2.1 u_2.2.2.2.2.2.2.2.2.2.2.2.2.2.2.2.2.2.2.2.2.2.1 u_2.2.2.2.2.2.2.2.2.2.2.2.2.2.2.2.2.2.2.2.2.2.2.1 u_2.2.2.2.2.2.2.2.2.2.2.2.2.2.2.2.2.2.2.2.2.2.2.2.1 u_2.2.2.2.2.2.2.2.2.2.2.2.2.2.2.2.2.2.2.2.2.2.2.2.2.1 u_2.2.2.2.2.2.2.2.2.2.2.2.2.2.2.2.2.2.2.2.2.2.2.2.2.2.1 u_2.2.2.2.2.2.2.2.2.2.2.2.2.2.2.2.2.2.2.2.2.2.2.2.2.2.2.1 u_2.2.2.2.2.2.2.2.2.2.2.2.2.2.2.2.2.2.2.2.2.2.2.2.2.2.2.2 v5_0)) hP hD hS hA [0, 5, 6, 7, 8, 9, 10, 11, 12, 13, 14, 15, 16, 17, 18, 19, 20, 21, 22, 23, 24, 25, 26, 27, 28, 29] [1, 2, 3, 4] [4, 0, 1, 2, 3, 5, 6, 7, 8, 9, 10, 11, 12, 13, 14, 15, 16, 17, 18, 19, 20, 21, 22, 23, 24, 25, 26, 27, 28, 29] rfl rfl rfl (by decide) rfl rfl (va_runV (As := [.ref (a5 0)]) (rest := []) ⟨hx, hb, hml, hown, hta⟩ (c_X10_walked l dC dI cI H.size a0 a1 a2 a3 a4 a5 v0_3 v0_4 v0_5 v0_6 v0_7 v2_10 v2_11 v2_1 v2_2 v2_3 v2_4 v2_5 v2_6 v2_7 v2_8 v2_9 v3_1 v3_2 v3_3 v3_4 v3_0 v4_10 v4_0 v4_1 v4_2 v4_3 v4_4 v4_5 v4_6 v4_7 v4_8 v4_9 v5_0 n u_2 hu_2) (cwV 1 hta (ga_V mA460 mA350 mA351 mA23 mA352) rfl rfl rfl (by decide +kernel) ⟨Nat.le_of_ble_eq_true rfl, Nat.le_of_ble_eq_true rfl⟩) ⟨q_fb, va_recv hK hP (ci := 9) (q0 := 0) rfl rfl, q_ps hPc hK hDc⟩ rfl rfl hl.1 rfl (lv_room (Nat.le_of_ble_eq_true rfl)) dX10_outlined_10 ⟨Nat.zero_le _, Nat.zero_le _⟩) (fun H locs hP hD hS => ?_)
    refine lv_pop hx hb dX10_outlined_13 rfl ?_
    refine lv_aload_n hx hb dX10_outlined_14 rfl (lv_at hl 0 rfl) ?_
    refine lv_aload_n hx hb dX10_outlined_15 rfl (lv_at hl 1 rfl) ?_
    obtain ⟨u_3, hu_3, hF⟩ := obd_some hF
    have hPc := hP.sub (ws' := (wd_X10_outline cI a0 a1 a2 a3 a4 a5 u_2.1 v0_4 v0_5 v0_6 v0_7 v1_3 v1_4 v1_5 v1_0 v1_1 v1_2 u_2.2.1 u_2.2.2.1 u_2.2.2.2.1 u_2.2.2.2.2.2.2.1 u_2.2.2.2.2.2.2.2.1 u_2.2.2.2.2.2.2.2.2.1 u_2.2.2.2.2.2.2.2.2.2.1 u_2.2.2.2.2.2.2.2.2.2.2.1 u_2.2.2.2.2.2.2.2.2.2.2.2.1 u_2.2.2.2.2.2.2.2.2.2.2.2.2.2.2.2.2.2.1 u_2.2.2.2.2.2.2.2.2.2.2.2.2.2.2.2.2.2.2.1 u_2.2.2.2.2.2.2.2.2.2.2.2.2.2.2.2.2.2.2.2.1 u_2.2.2.2.2.2.2.2.2.2.2.2.2.2.2.2.2.2.2.2.2.1 u_2.2.2.2.2.2.2.2.2.2.2.2.2.2.2.2.2.2.2.2.2.2.1 u_2.2.2.2.2.2.2.2.2.2.2.2.2.2.2.2.2.2.2.2.2.2.2.1 u_2.2.2.2.2.2.2.2.2.2.2.2.2.2.2.2.2.2.2.2.2.2.2.2.1 u_2.2.2.2.2.2.2.2.2.2.2.2.2.2.2.2.2.2.2.2.2.2.2.2.2.1 u_2.2.2.2.2.2.2.2.2.2.2.2.2.2.2.2.2.2.2.2.2.2.2.2.2.2.1 u_2.2.2.2.2.2.2.2.2.2.2.2.2.2.2.2.2.2.2.2.2.2.2.2.2.2.2.1 u_2.2.2.2.2.2.2.2.2.2.2.2.2.2.2.2.2.2.2.2.2.2.2.2.2.2.2.2 v5_0)) [0, 1, 2, 3, 4, 5, 6, 9, 10, 11, 12, 13, 14, 17, 18, 19, 20, 21, 22, 23, 24, 25, 26, 27, 28, 29] rfl
    have hDc := hD.sub (ws' := (wd_X10_outline cI a0 a1 a2 a3 a4 a5 u_2.1 v0_4 v0_5 v0_6 v0_7 v1_3 v1_4 v1_5 v1_0 v1_1 v1_2 u_2.2.1 u_2.2.2.1 u_2.2.2.2.1 u_2.2.2.2.2.2.2.1 u_2.2.2.2.2.2.2.2.1 u_2.2.2.2.2.2.2.2.2.1 u_2.2.2.2.2.2.2.2.2.2.1 u_2.2.2.2.2.2.2.2.2.2.2.1 u_2.2.2.2.2.2.2.2.2.2.2.2.1 u_2.2.2.2.2.2.2.2.2.2.2.2.2.2.2.2.2.2.1 u_2.2.2.2.2.2.2.2.2.2.2.2.2.2.2.2.2.2.2.1 u_2.2.2.2.2.2.2.2.2.2.2.2.2.2.2.2.2.2.2.2.1 u_2.2.2.2.2.2.2.2.2.2.2.2.2.2.2.2.2.2.2.2.2.1 u_2.2.2.2.2.2.2.2.2.2.2.2.2.2.2.2.2.2.2.2.2.2.1 u_2.2.2.2.2.2.2.2.2.2.2.2.2.2.2.2.2.2.2.2.2.2.2.1 u_2.2.2.2.2.2.2.2.2.2.2.2.2.2.2.2.2.2.2.2.2.2.2.2.1 u_2.2.2.2.2.2.2.2.2.2.2.2.2.2.2.2.2.2.2.2.2.2.2.2.2.1 u_2.2.2.2.2.2.2.2.2.2.2.2.2.2.2.2.2.2.2.2.2.2.2.2.2.2.1 u_2.2.2.2.2.2.2.2.2.2.2.2.2.2.2.2.2.2.2.2.2.2.2.2.2.2.2.1 u_2.2.2.2.2.2.2.2.2.2.2.2.2.2.2.2.2.2.2.2.2.2.2.2.2.2.2.2 v5_0)) [0, 1, 2, 3, 4, 5, 6, 9, 10, 11, 12, 13, 14, 17, 18, 19, 20, 21, 22, 23, 24, 25, 26, 27, 28, 29] rfl rfl
    refine q_callv (wc := (wd_X10_outline cI a0 a1 a2 a3 a4 a5 u_2.1 v0_4 v0_5 v0_6 v0_7 v1_3 v1_4 v1_5 v1_0 v1_1 v1_2 u_2.2.1 u_2.2.2.1 u_2.2.2.2.1 u_2.2.2.2.2.2.2.1 u_2.2.2.2.2.2.2.2.1 u_2.2.2.2.2.2.2.2.2.1 u_2.2.2.2.2.2.2.2.2.2.1 u_2.2.2.2.2.2.2.2.2.2.2.1 u_2.2.2.2.2.2.2.2.2.2.2.2.1 u_2.2.2.2.2.2.2.2.2.2.2.2.2.2.2.2.2.2.1 u_2.2.2.2.2.2.2.2.2.2.2.2.2.2.2.2.2.2.2.1 u_2.2.2.2.2.2.2.2.2.2.2.2.2.2.2.2.2.2.2.2.1 u_2.2.2.2.2.2.2.2.2.2.2.2.2.2.2.2.2.2.2.2.2.1 u_2.2.2.2.2.2.2.2.2.2.2.2.2.2.2.2.2.2.2.2.2.2.1 u_2.2.2.2.2.2.2.2.2.2.2.2.2.2.2.2.2.2.2.2.2.2.2.1 u_2.2.2.2.2.2.2.2.2.2.2.2.2.2.2.2.2.2.2.2.2.2.2.2.1 u_2.2.2.2.2.2.2.2.2.2.2.2.2.2.2.2.2.2.2.2.2.2.2.2.2.1 u_2.2.2.2.2.2.2.2.2.2.2.2.2.2.2.2.2.2.2.2.2.2.2.2.2.2.1 u_2.2.2.2.2.2.2.2.2.2.2.2.2.2.2.2.2.2.2.2.2.2.2.2.2.2.2.1 u_2.2.2.2.2.2.2.2.2.2.2.2.2.2.2.2.2.2.2.2.2.2.2.2.2.2.2.2 v5_0)) (w1 := (wd_X10_outline cI a0 a1 a2 a3 a4 a5 u_2.1 u_3.1 u_3.2.1 u_3.2.2.1 u_3.2.2.2.1 u_3.2.2.2.2.1 u_3.2.2.2.2.2.1 u_3.2.2.2.2.2.2.1 u_3.2.2.2.2.2.2.2.1 u_3.2.2.2.2.2.2.2.2.1 u_3.2.2.2.2.2.2.2.2.2 u_2.2.1 u_2.2.2.1 u_2.2.2.2.1 u_2.2.2.2.2.2.2.1 u_2.2.2.2.2.2.2.2.1 u_2.2.2.2.2.2.2.2.2.1 u_2.2.2.2.2.2.2.2.2.2.1 u_2.2.2.2.2.2.2.2.2.2.2.1 u_2.2.2.2.2.2.2.2.2.2.2.2.1 u_2.2.2.2.2.2.2.2.2.2.2.2.2.2.2.2.2.2.1 u_2.2.2.2.2.2.2.2.2.2.2.2.2.2.2.2.2.2.2.1 u_2.2.2.2.2.2.2.2.2.2.2.2.2.2.2.2.2.2.2.2.1 u_2.2.2.2.2.2.2.2.2.2.2.2.2.2.2.2.2.2.2.2.2.1 u_2.2.2.2.2.2.2.2.2.2.2.2.2.2.2.2.2.2.2.2.2.2.1 u_2.2.2.2.2.2.2.2.2.2.2.2.2.2.2.2.2.2.2.2.2.2.2.1 u_2.2.2.2.2.2.2.2.2.2.2.2.2.2.2.2.2.2.2.2.2.2.2.2.1 u_2.2.2.2.2.2.2.2.2.2.2.2.2.2.2.2.2.2.2.2.2.2.2.2.2.1 u_2.2.2.2.2.2.2.2.2.2.2.2.2.2.2.2.2.2.2.2.2.2.2.2.2.2.1 u_2.2.2.2.2.2.2.2.2.2.2.2.2.2.2.2.2.2.2.2.2.2.2.2.2.2.2.1 u_2.2.2.2.2.2.2.2.2.2.2.2.2.2.2.2.2.2.2.2.2.2.2.2.2.2.2.2 v5_0)) (ws' := (wd_X10_outlined cI a0 a1 a2 a3 a4 a5 u_2.1 u_3.1 u_3.2.1 u_3.2.2.1 u_3.2.2.2.1 u_3.2.2.2.2.1 u_3.2.2.2.2.2.1 u_3.2.2.2.2.2.2.1 u_3.2.2.2.2.2.2.2.1 u_3.2.2.2.2.2.2.2.2.1 u_3.2.2.2.2.2.2.2.2.2 u_2.2.1 u_2.2.2.1 u_2.2.2.2.1 u_2.2.2.2.2.1 u_2.2.2.2.2.2.1 u_2.2.2.2.2.2.2.1 u_2.2.2.2.2.2.2.2.1 u_2.2.2.2.2.2.2.2.2.1 u_2.2.2.2.2.2.2.2.2.2.1 u_2.2.2.2.2.2.2.2.2.2.2.1 u_2.2.2.2.2.2.2.2.2.2.2.2.1 u_2.2.2.2.2.2.2.2.2.2.2.2.2.1 u_2.2.2.2.2.2.2.2.2.2.2.2.2.2.1 u_2.2.2.2.2.2.2.2.2.2.2.2.2.2.2.1 u_2.2.2.2.2.2.2.2.2.2.2.2.2.2.2.2.1 u_2.2.2.2.2.2.2.2.2.2.2.2.2.2.2.2.2.1 u_2.2.2.2.2.2.2.2.2.2.2.2.2.2.2.2.2.2.1 u_2.2.2.2.2.2.2.2.2.2.2.2.2.2.2.2.2.2.2.1 u_2.2.2.2.2.2.2.2.2.2.2.2.2.2.2.2.2.2.2.2.1 u_2.2.2.2.2.2.2.2.2.2.2.2.2.2.2.2.2.2.2.2.2.1 u_2.2.2.2.2.2.2.2.2.2.2.2.2.2.2.2.2.2.2.2.2.2.1 u_2.2.2.2.2.2.2.2.2.2.2.2.2.2.2.2.2.2.2.2.2.2.2.1 u_2.2.2.2.2.2.2.2.2.2.2.2.2.2.2.2.2.2.2.2.2.2.2.2.1 u_2.2.2.2.2.2.2.2.2.2.2.2.2.2.2.2.2.2.2.2.2.2.2.2.2.1 u_2.2.2.2.2.2.2.2.2.2.2.2.2.2.2.2.2.2.2.2.2.2.2.2.2.2.1 u_2.2.2.2.2.2.2.2.2.2.2.2.2.2.2.2.2.2.2.2.2.2.2.2.2.2.2.1 u_2.2.2.2.2.2.2.2.2.2.2.2.2.2.2.2.2.2.2.2.2.2.2.2.2.2.2.2 v5_0)) hP hD hS hA [0, 1, 2, 3, 4, 5, 6, 9, 10, 11, 12, 13, 14, 17, 18, 19, 20, 21, 22, 23, 24, 25, 26, 27, 28, 29] [7, 8, 15, 16] [4, 5, 6, 7, 8, 9, 10, 0, 1, 11, 12, 13, 14, 15, 16, 2, 3, 17, 18, 19, 20, 21, 22, 23, 24, 25, 26, 27, 28, 29] rfl rfl rfl (by decide) rfl rfl (va_runV (As := [.ref (a5 0)]) (rest := []) ⟨hx, hb, hml, hown, hta⟩ (c_X10_outline l dC dI cI H.size a0 a1 a2 a3 a4 a5 u_2.1 v0_4 v0_5 v0_6 v0_7 v1_3 v1_4 v1_5 v1_0 v1_1 v1_2 u_2.2.1 u_2.2.2.1 u_2.2.2.2.1 u_2.2.2.2.2.2.2.1 u_2.2.2.2.2.2.2.2.1 u_2.2.2.2.2.2.2.2.2.1 u_2.2.2.2.2.2.2.2.2.2.1 u_2.2.2.2.2.2.2.2.2.2.2.1 u_2.2.2.2.2.2.2.2.2.2.2.2.1 u_2.2.2.2.2.2.2.2.2.2.2.2.2.2.2.2.2.2.1 u_2.2.2.2.2.2.2.2.2.2.2.2.2.2.2.2.2.2.2.1 u_2.2.2.2.2.2.2.2.2.2.2.2.2.2.2.2.2.2.2.2.1 u_2.2.2.2.2.2.2.2.2.2.2.2.2.2.2.2.2.2.2.2.2.1 u_2.2.2.2.2.2.2.2.2.2.2.2.2.2.2.2.2.2.2.2.2.2.1 u_2.2.2.2.2.2.2.2.2.2.2.2.2.2.2.2.2.2.2.2.2.2.2.1 u_2.2.2.2.2.2.2.2.2.2.2.2.2.2.2.2.2.2.2.2.2.2.2.2.1 u_2.2.2.2.2.2.2.2.2.2.2.2.2.2.2.2.2.2.2.2.2.2.2.2.2.1 u_2.2.2.2.2.2.2.2.2.2.2.2.2.2.2.2.2.2.2.2.2.2.2.2.2.2.1 u_2.2.2.2.2.2.2.2.2.2.2.2.2.2.2.2.2.2.2.2.2.2.2.2.2.2.2.1 u_2.2.2.2.2.2.2.2.2.2.2.2.2.2.2.2.2.2.2.2.2.2.2.2.2.2.2.2 v5_0 n u_3 hu_3) (cwV 1 hta (ga_V mA461 mA462 mA463 mA23 mA464) rfl rfl rfl (by decide +kernel) ⟨Nat.le_of_ble_eq_true rfl, Nat.le_of_ble_eq_true rfl⟩) ⟨q_fb, va_recv hK hP (ci := 9) (q0 := 0) rfl rfl, q_ps hPc hK hDc⟩ rfl rfl hl.1 rfl (lv_room (Nat.le_of_ble_eq_true rfl)) dX10_outlined_16 ⟨Nat.zero_le _, Nat.zero_le _⟩) (fun H locs hP hD hS => ?_)
    refine lv_aload_n hx hb dX10_outlined_19 rfl (lv_at hl 0 rfl) ?_
    refine lv_iconst (v := 3) hx hb dX10_outlined_20 (by decide) ?_
    refine va_put (D := (dC, dI)) (ci := 9) (v := .int 3) (ty := .int) (C := RX10) (T := TX10) (N := 8) hx hb hta uw_X10 tyX10 tyX10_ok nmX10 hown hK hP hD hS 0 rfl rfl 3 (by decide) (hta _ mA147) (fun _ h9 => h9) rfl (by decide +kernel) rfl rfl (Nat.le_of_ble_eq_true rfl) dX10_outlined_21 (fun H locs hP hD hS => ?_)
    have hP : va_P (dC, dI) vwCl (wd_X10_outlined cI a0 a1 a2 a3 a4 a5 3 u_3.1 u_3.2.1 u_3.2.2.1 u_3.2.2.2.1 u_3.2.2.2.2.1 u_3.2.2.2.2.2.1 u_3.2.2.2.2.2.2.1 u_3.2.2.2.2.2.2.2.1 u_3.2.2.2.2.2.2.2.2.1 u_3.2.2.2.2.2.2.2.2.2 u_2.2.1 u_2.2.2.1 u_2.2.2.2.1 u_2.2.2.2.2.1 u_2.2.2.2.2.2.1 u_2.2.2.2.2.2.2.1 u_2.2.2.2.2.2.2.2.1 u_2.2.2.2.2.2.2.2.2.1 u_2.2.2.2.2.2.2.2.2.2.1 u_2.2.2.2.2.2.2.2.2.2.2.1 u_2.2.2.2.2.2.2.2.2.2.2.2.1 u_2.2.2.2.2.2.2.2.2.2.2.2.2.1 u_2.2.2.2.2.2.2.2.2.2.2.2.2.2.1 u_2.2.2.2.2.2.2.2.2.2.2.2.2.2.2.1 u_2.2.2.2.2.2.2.2.2.2.2.2.2.2.2.2.1 u_2.2.2.2.2.2.2.2.2.2.2.2.2.2.2.2.2.1 u_2.2.2.2.2.2.2.2.2.2.2.2.2.2.2.2.2.2.1 u_2.2.2.2.2.2.2.2.2.2.2.2.2.2.2.2.2.2.2.1 u_2.2.2.2.2.2.2.2.2.2.2.2.2.2.2.2.2.2.2.2.1 u_2.2.2.2.2.2.2.2.2.2.2.2.2.2.2.2.2.2.2.2.2.1 u_2.2.2.2.2.2.2.2.2.2.2.2.2.2.2.2.2.2.2.2.2.2.1 u_2.2.2.2.2.2.2.2.2.2.2.2.2.2.2.2.2.2.2.2.2.2.2.1 u_2.2.2.2.2.2.2.2.2.2.2.2.2.2.2.2.2.2.2.2.2.2.2.2.1 u_2.2.2.2.2.2.2.2.2.2.2.2.2.2.2.2.2.2.2.2.2.2.2.2.2.1 u_2.2.2.2.2.2.2.2.2.2.2.2.2.2.2.2.2.2.2.2.2.2.2.2.2.2.1 u_2.2.2.2.2.2.2.2.2.2.2.2.2.2.2.2.2.2.2.2.2.2.2.2.2.2.2.1 u_2.2.2.2.2.2.2.2.2.2.2.2.2.2.2.2.2.2.2.2.2.2.2.2.2.2.2.2 v5_0) H := hP
    have hD : va_D A (wd_X10_outlined cI a0 a1 a2 a3 a4 a5 3 u_3.1 u_3.2.1 u_3.2.2.1 u_3.2.2.2.1 u_3.2.2.2.2.1 u_3.2.2.2.2.2.1 u_3.2.2.2.2.2.2.1 u_3.2.2.2.2.2.2.2.1 u_3.2.2.2.2.2.2.2.2.1 u_3.2.2.2.2.2.2.2.2.2 u_2.2.1 u_2.2.2.1 u_2.2.2.2.1 u_2.2.2.2.2.1 u_2.2.2.2.2.2.1 u_2.2.2.2.2.2.2.1 u_2.2.2.2.2.2.2.2.1 u_2.2.2.2.2.2.2.2.2.1 u_2.2.2.2.2.2.2.2.2.2.1 u_2.2.2.2.2.2.2.2.2.2.2.1 u_2.2.2.2.2.2.2.2.2.2.2.2.1 u_2.2.2.2.2.2.2.2.2.2.2.2.2.1 u_2.2.2.2.2.2.2.2.2.2.2.2.2.2.1 u_2.2.2.2.2.2.2.2.2.2.2.2.2.2.2.1 u_2.2.2.2.2.2.2.2.2.2.2.2.2.2.2.2.1 u_2.2.2.2.2.2.2.2.2.2.2.2.2.2.2.2.2.1 u_2.2.2.2.2.2.2.2.2.2.2.2.2.2.2.2.2.2.1 u_2.2.2.2.2.2.2.2.2.2.2.2.2.2.2.2.2.2.2.1 u_2.2.2.2.2.2.2.2.2.2.2.2.2.2.2.2.2.2.2.2.1 u_2.2.2.2.2.2.2.2.2.2.2.2.2.2.2.2.2.2.2.2.2.1 u_2.2.2.2.2.2.2.2.2.2.2.2.2.2.2.2.2.2.2.2.2.2.1 u_2.2.2.2.2.2.2.2.2.2.2.2.2.2.2.2.2.2.2.2.2.2.2.1 u_2.2.2.2.2.2.2.2.2.2.2.2.2.2.2.2.2.2.2.2.2.2.2.2.1 u_2.2.2.2.2.2.2.2.2.2.2.2.2.2.2.2.2.2.2.2.2.2.2.2.2.1 u_2.2.2.2.2.2.2.2.2.2.2.2.2.2.2.2.2.2.2.2.2.2.2.2.2.2.1 u_2.2.2.2.2.2.2.2.2.2.2.2.2.2.2.2.2.2.2.2.2.2.2.2.2.2.2.1 u_2.2.2.2.2.2.2.2.2.2.2.2.2.2.2.2.2.2.2.2.2.2.2.2.2.2.2.2 v5_0) := hD
    exact j24 3 u_3.1 u_3.2.1 u_3.2.2.1 u_3.2.2.2.1 u_3.2.2.2.2.1 u_3.2.2.2.2.2.1 u_3.2.2.2.2.2.2.1 u_3.2.2.2.2.2.2.2.1 u_3.2.2.2.2.2.2.2.2.1 u_3.2.2.2.2.2.2.2.2.2 u_2.2.1 u_2.2.2.1 u_2.2.2.2.1 u_2.2.2.2.2.1 u_2.2.2.2.2.2.1 u_2.2.2.2.2.2.2.1 u_2.2.2.2.2.2.2.2.1 u_2.2.2.2.2.2.2.2.2.1 u_2.2.2.2.2.2.2.2.2.2.1 u_2.2.2.2.2.2.2.2.2.2.2.1 u_2.2.2.2.2.2.2.2.2.2.2.2.1 u_2.2.2.2.2.2.2.2.2.2.2.2.2.1 u_2.2.2.2.2.2.2.2.2.2.2.2.2.2.1 u_2.2.2.2.2.2.2.2.2.2.2.2.2.2.2.1 u_2.2.2.2.2.2.2.2.2.2.2.2.2.2.2.2.1 u_2.2.2.2.2.2.2.2.2.2.2.2.2.2.2.2.2.1 u_2.2.2.2.2.2.2.2.2.2.2.2.2.2.2.2.2.2.1 u_2.2.2.2.2.2.2.2.2.2.2.2.2.2.2.2.2.2.2.1 u_2.2.2.2.2.2.2.2.2.2.2.2.2.2.2.2.2.2.2.2.1 u_2.2.2.2.2.2.2.2.2.2.2.2.2.2.2.2.2.2.2.2.2.1 u_2.2.2.2.2.2.2.2.2.2.2.2.2.2.2.2.2.2.2.2.2.2.1 u_2.2.2.2.2.2.2.2.2.2.2.2.2.2.2.2.2.2.2.2.2.2.2.1 u_2.2.2.2.2.2.2.2.2.2.2.2.2.2.2.2.2.2.2.2.2.2.2.2.1 u_2.2.2.2.2.2.2.2.2.2.2.2.2.2.2.2.2.2.2.2.2.2.2.2.2.1 u_2.2.2.2.2.2.2.2.2.2.2.2.2.2.2.2.2.2.2.2.2.2.2.2.2.2.1 u_2.2.2.2.2.2.2.2.2.2.2.2.2.2.2.2.2.2.2.2.2.2.2.2.2.2.2.1 u_2.2.2.2.2.2.2.2.2.2.2.2.2.2.2.2.2.2.2.2.2.2.2.2.2.2.2.2 hF _ _ _ hP hD hS (lv_sub hl [0] rfl)
