-- StrokeOutliner$Stroke.forget()V
def F_X10_forget  : (Int32) :=
  0
abbrev wd_X10_forget (cI : ClassId) (a0 : Nat → Nat) (a1 : Nat → Nat) (a2 : Nat → Nat) (a3 : Nat → Nat) (v0_3 : Int32) (v0_4 : Int32) (v0_5 : Int32) (v0_6 : Int32) (v0_7 : Int32) : va_W := [(a0 0, .inr (9, [.ref (a3 0), .ref (a2 0), .ref (a1 0), .int v0_3, .int v0_4, .int v0_5, .int v0_6, .int v0_7]))]
abbrev wz_X10_forget : List Cond := .code yX10_forget cX10_forget 1 none :: wALL
abbrev rm_X10_forget : Room := { frames := 0, cells := 0, slots := 0, locals := 0 }
abbrev Q_X10_forget (dC : Nat → ClassId) (dI : Nat → Nat → Nat) (cI : ClassId) (a0 : Nat → Nat) (a1 : Nat → Nat) (a2 : Nat → Nat) (a3 : Nat → Nat) (v0_4 : Int32) (v0_5 : Int32) (v0_6 : Int32) (v0_7 : Int32) (u : (Int32)) (A : Nat → Prop) : Array Value → State → Outcome → State → Prop := va_Qv (fun (_ : Unit) => True) (fun _ => q_at dC dI cI A (wd_X10_forget cI a0 a1 a2 a3 u v0_4 v0_5 v0_6 v0_7)) A
set_option maxHeartbeats 4000000 in
set_option maxRecDepth 100000 in
theorem c_X10_forget (l : Launch) (dC : Nat → ClassId) (dI : Nat → Nat → Nat) (cI : ClassId) (sz : Nat) (a0 : Nat → Nat) (a1 : Nat → Nat) (a2 : Nat → Nat) (a3 : Nat → Nat) (v0_3 : Int32) (v0_4 : Int32) (v0_5 : Int32) (v0_6 : Int32) (v0_7 : Int32) (u : (Int32)) (hF : F_X10_forget = u) : Met l yX10_forget wz_X10_forget rm_X10_forget (va_Pc [.ref (a0 0)] (q_pre dC dI cI (wd_X10_forget cI a0 a1 a2 a3 v0_3 v0_4 v0_5 v0_6 v0_7) sz)) (Q_X10_forget dC dI cI a0 a1 a2 a3 v0_4 v0_5 v0_6 v0_7 u (va_A (wd_X10_forget cI a0 a1 a2 a3 v0_3 v0_4 v0_5 v0_6 v0_7) sz)) 0 0 (va_A (wd_X10_forget cI a0 a1 a2 a3 v0_3 v0_4 v0_5 v0_6 v0_7) sz) := by
  refine Met.ofW (cc := cX10_forget) (maxL := 1) (ret := none) (by decide) rfl ?_
  intro p e s m args below meth c s₁ B hml hv
  obtain ⟨rfl, hsz, hP, hK, hD0⟩ := hv
  have hx := B.exec
  have hb := B.bytes
  have hr := B.returns
  have hts := atoms_spec (ws := wz_X10_forget) B.pre
  have hta := wz_tl hts
  have hown : s.vm.findClass RX10 = some m.cls := findClass_of_methodNamed B.named
  have hlocks := B.notSynchronized
  subst hsz
  have hD := hD0.self (sz := s.heap.size)
  generalize hAe : va_A (wd_X10_forget cI a0 a1 a2 a3 v0_3 v0_4 v0_5 v0_6 v0_7) s.heap.size = A at hD ⊢
  have hA : ∀ q : Nat, s.heap.size ≤ q → A q := fun q h => by rw [← hAe]; exact Or.inr h
  have hS : va_S A s.heap s.heap [] := va_S.rf
  have hP : va_P (dC, dI) vwCl (wd_X10_forget cI a0 a1 a2 a3 v0_3 v0_4 v0_5 v0_6 v0_7) s.heap := hP
  have hl := lv_entry ([.ref (a0 0)]) (n := 1) (Nat.le_of_ble_eq_true rfl)
  rw [lg_entry_eq]
  generalize (lg_sl ([.ref (a0 0)]) ++ List.replicate (1 - (lg_sl ([.ref (a0 0)])).length) Slot.unset).toArray = ls at hl ⊢
  have hl : lv_has ls 1 [(0, .ref (a0 0))] := hl
  obtain ⟨H, hHe⟩ : ∃ H, H = s.heap := ⟨_, rfl⟩
  have hS : va_S A s.heap H [] := by rw [hHe]; exact hS
  have hP : va_P (dC, dI) vwCl (wd_X10_forget cI a0 a1 a2 a3 v0_3 v0_4 v0_5 v0_6 v0_7) H := by rw [hHe]; exact hP
  rw [← hHe]
  unfold F_X10_forget at hF
  refine lv_aload_n hx hb dX10_forget_0 rfl (lv_at hl 0 rfl) ?_
  refine lv_iconst (v := 0) hx hb dX10_forget_1 (by decide) ?_
  refine va_put (D := (dC, dI)) (ci := 9) (v := .int 0) (ty := .int) (C := RX10) (T := TX10) (N := 8) hx hb hta uw_X10 tyX10 tyX10_ok nmX10 hown hK hP hD hS 0 rfl rfl 3 (by decide) (hta _ mA147) (fun _ h9 => h9) rfl (by decide +kernel) rfl rfl (Nat.le_of_ble_eq_true rfl) dX10_forget_2 (fun H locs hP hD hS => ?_)
  have hP : va_P (dC, dI) vwCl (wd_X10_forget cI a0 a1 a2 a3 0 v0_4 v0_5 v0_6 v0_7) H := hP
  have hD : va_D A (wd_X10_forget cI a0 a1 a2 a3 0 v0_4 v0_5 v0_6 v0_7) := hD
  subst hF
  exact W.vret hx hb hr (fun t ht hW => ⟨⟨(), rfl, trivial, by rw [ht]; exact hP, va_K.moved hW.alike hK, hD⟩, hS.F ht⟩) hS.2.2 dX10_forget_5

-- StrokeOutliner$Stroke.measured(LStrokeOutliner$Drawing;)LStrokeOutliner$Segments;
def F_X10_measured_j21 (v0_3 : Int32) (v3_10 : Int32) (v3_0 : Nat → Int32) (v3_1 : Nat → Int32) (v3_2 : Nat → Int32) (v3_3 : Nat → Int32) (v3_4 : Nat → Int32) (v3_5 : Nat → Int32) (v3_6 : Nat → Int32) (v3_7 : Nat → Int32) (v3_8 : Nat → Int32) (v3_9 : Nat → Int32) : Option (Int32 × Int32 × (Nat → Int32) × (Nat → Int32) × (Nat → Int32) × (Nat → Int32) × (Nat → Int32) × (Nat → Int32) × (Nat → Int32) × (Nat → Int32) × (Nat → Int32) × (Nat → Int32)) :=
  some (v0_3, v3_10, v3_0, v3_1, v3_2, v3_3, v3_4, v3_5, v3_6, v3_7, v3_8, v3_9)
def F_X10_measured (n : Nat) (v0_3 : Int32) (v3_10 : Int32) (v3_0 : Nat → Int32) (v3_1 : Nat → Int32) (v3_2 : Nat → Int32) (v3_3 : Nat → Int32) (v3_4 : Nat → Int32) (v3_5 : Nat → Int32) (v3_6 : Nat → Int32) (v3_7 : Nat → Int32) (v3_8 : Nat → Int32) (v3_9 : Nat → Int32) (v4_0 : Nat → Int32) : Option (Int32 × Int32 × (Nat → Int32) × (Nat → Int32) × (Nat → Int32) × (Nat → Int32) × (Nat → Int32) × (Nat → Int32) × (Nat → Int32) × (Nat → Int32) × (Nat → Int32) × (Nat → Int32)) :=
  if 1 ≤ v0_3 then F_X10_measured_j21 v0_3 v3_10 v3_0 v3_1 v3_2 v3_3 v3_4 v3_5 v3_6 v3_7 v3_8 v3_9 else obd (F_X9_measure n v3_0 v3_1 v3_2 v3_3 v3_4 v3_5 v3_6 v3_7 v3_8 v3_9 v4_0) (fun u_2 => F_X10_measured_j21 1 u_2.1 u_2.2.1 u_2.2.2.1 u_2.2.2.2.1 u_2.2.2.2.2.1 u_2.2.2.2.2.2.1 u_2.2.2.2.2.2.2.1 u_2.2.2.2.2.2.2.2.1 u_2.2.2.2.2.2.2.2.2.1 u_2.2.2.2.2.2.2.2.2.2.1 u_2.2.2.2.2.2.2.2.2.2.2)
abbrev wd_X10_measured (cI : ClassId) (a0 : Nat → Nat) (a1 : Nat → Nat) (a2 : Nat → Nat) (a3 : Nat → Nat) (a4 : Nat → Nat) (v0_3 : Int32) (v0_4 : Int32) (v0_5 : Int32) (v0_6 : Int32) (v0_7 : Int32) (v3_10 : Int32) (v3_0 : Nat → Int32) (v3_1 : Nat → Int32) (v3_2 : Nat → Int32) (v3_3 : Nat → Int32) (v3_4 : Nat → Int32) (v3_5 : Nat → Int32) (v3_6 : Nat → Int32) (v3_7 : Nat → Int32) (v3_8 : Nat → Int32) (v3_9 : Nat → Int32) (v4_0 : Nat → Int32) : va_W := [(a0 0, .inr (9, [.ref (a3 0), .ref (a2 0), .ref (a1 0), .int v0_3, .int v0_4, .int v0_5, .int v0_6, .int v0_7])), (a3 0, .inr (8, [.ref (a3 1), .ref (a3 2), .ref (a3 3), .ref (a3 4), .ref (a3 5), .ref (a3 6), .ref (a3 7), .ref (a3 8), .ref (a3 9), .ref (a3 10), .int v3_10])), (a3 1, .inl (cI, 5, .inl v3_0)), (a3 2, .inl (cI, 32, .inl v3_1)), (a3 3, .inl (cI, 32, .inl v3_2)), (a3 4, .inl (cI, 32, .inl v3_3)), (a3 5, .inl (cI, 32, .inl v3_4)), (a3 6, .inl (cI, 32, .inl v3_5)), (a3 7, .inl (cI, 32, .inl v3_6)), (a3 8, .inl (cI, 32, .inl v3_7)), (a3 9, .inl (cI, 32, .inl v3_8)), (a3 10, .inl (cI, 32, .inl v3_9)), (a4 0, .inr (1, [.ref (a4 1)])), (a4 1, .inl (cI, 86, .inl v4_0))]
abbrev wz_X10_measured : List Cond := .code yX10_measured cX10_measured 2 (some (.object "StrokeOutliner$Segments")) :: wALL
abbrev rm_X10_measured : Room := { frames := 3, cells := 0, slots := 0, locals := 87 }
abbrev Q_X10_measured (dC : Nat → ClassId) (dI : Nat → Nat → Nat) (cI : ClassId) (a0 : Nat → Nat) (a1 : Nat → Nat) (a2 : Nat → Nat) (a3 : Nat → Nat) (a4 : Nat → Nat) (v0_4 : Int32) (v0_5 : Int32) (v0_6 : Int32) (v0_7 : Int32) (v4_0 : Nat → Int32) (u : (Int32 × Int32 × (Nat → Int32) × (Nat → Int32) × (Nat → Int32) × (Nat → Int32) × (Nat → Int32) × (Nat → Int32) × (Nat → Int32) × (Nat → Int32) × (Nat → Int32) × (Nat → Int32))) (A : Nat → Prop) : Array Value → State → Outcome → State → Prop := va_Qr (fun (_ : Unit) => True) (fun _ ra t => ra = a3 0 ∧ q_at dC dI cI A (wd_X10_measured cI a0 a1 a2 a3 a4 u.1 v0_4 v0_5 v0_6 v0_7 u.2.1 u.2.2.1 u.2.2.2.1 u.2.2.2.2.1 u.2.2.2.2.2.1 u.2.2.2.2.2.2.1 u.2.2.2.2.2.2.2.1 u.2.2.2.2.2.2.2.2.1 u.2.2.2.2.2.2.2.2.2.1 u.2.2.2.2.2.2.2.2.2.2.1 u.2.2.2.2.2.2.2.2.2.2.2 v4_0) t) A
set_option maxHeartbeats 4000000 in
set_option maxRecDepth 100000 in
theorem c_X10_measured (l : Launch) (dC : Nat → ClassId) (dI : Nat → Nat → Nat) (cI : ClassId) (sz : Nat) (a0 : Nat → Nat) (a1 : Nat → Nat) (a2 : Nat → Nat) (a3 : Nat → Nat) (a4 : Nat → Nat) (v0_3 : Int32) (v0_4 : Int32) (v0_5 : Int32) (v0_6 : Int32) (v0_7 : Int32) (v3_10 : Int32) (v3_0 : Nat → Int32) (v3_1 : Nat → Int32) (v3_2 : Nat → Int32) (v3_3 : Nat → Int32) (v3_4 : Nat → Int32) (v3_5 : Nat → Int32) (v3_6 : Nat → Int32) (v3_7 : Nat → Int32) (v3_8 : Nat → Int32) (v3_9 : Nat → Int32) (v4_0 : Nat → Int32) (n : Nat) (u : (Int32 × Int32 × (Nat → Int32) × (Nat → Int32) × (Nat → Int32) × (Nat → Int32) × (Nat → Int32) × (Nat → Int32) × (Nat → Int32) × (Nat → Int32) × (Nat → Int32) × (Nat → Int32))) (hF : F_X10_measured n v0_3 v3_10 v3_0 v3_1 v3_2 v3_3 v3_4 v3_5 v3_6 v3_7 v3_8 v3_9 v4_0 = some u) : Met l yX10_measured wz_X10_measured rm_X10_measured (va_Pc [.ref (a0 0), .ref (a4 0)] (q_pre dC dI cI (wd_X10_measured cI a0 a1 a2 a3 a4 v0_3 v0_4 v0_5 v0_6 v0_7 v3_10 v3_0 v3_1 v3_2 v3_3 v3_4 v3_5 v3_6 v3_7 v3_8 v3_9 v4_0) sz)) (Q_X10_measured dC dI cI a0 a1 a2 a3 a4 v0_4 v0_5 v0_6 v0_7 v4_0 u (va_A (wd_X10_measured cI a0 a1 a2 a3 a4 v0_3 v0_4 v0_5 v0_6 v0_7 v3_10 v3_0 v3_1 v3_2 v3_3 v3_4 v3_5 v3_6 v3_7 v3_8 v3_9 v4_0) sz)) 0 0 (va_A (wd_X10_measured cI a0 a1 a2 a3 a4 v0_3 v0_4 v0_5 v0_6 v0_7 v3_10 v3_0 v3_1 v3_2 v3_3 v3_4 v3_5 v3_6 v3_7 v3_8 v3_9 v4_0) sz) := by
  refine Met.ofW (cc := cX10_measured) (maxL := 2) (ret := (some (.object "StrokeOutliner$Segments"))) (by decide) rfl ?_
  intro p e s m args below meth c s₁ B hml hv
  obtain ⟨rfl, hsz, hP, hK, hD0⟩ := hv
  have hx := B.exec
  have hb := B.bytes
  have hr := B.returns
  have hts := atoms_spec (ws := wz_X10_measured) B.pre
  have hta := wz_tl hts
  have hown : s.vm.findClass RX10 = some m.cls := findClass_of_methodNamed B.named
  have hlocks := B.notSynchronized
  subst hsz
  have hD := hD0.self (sz := s.heap.size)
  generalize hAe : va_A (wd_X10_measured cI a0 a1 a2 a3 a4 v0_3 v0_4 v0_5 v0_6 v0_7 v3_10 v3_0 v3_1 v3_2 v3_3 v3_4 v3_5 v3_6 v3_7 v3_8 v3_9 v4_0) s.heap.size = A at hD ⊢
  have hA : ∀ q : Nat, s.heap.size ≤ q → A q := fun q h => by rw [← hAe]; exact Or.inr h
  have hS : va_S A s.heap s.heap [] := va_S.rf
  have hP : va_P (dC, dI) vwCl (wd_X10_measured cI a0 a1 a2 a3 a4 v0_3 v0_4 v0_5 v0_6 v0_7 v3_10 v3_0 v3_1 v3_2 v3_3 v3_4 v3_5 v3_6 v3_7 v3_8 v3_9 v4_0) s.heap := hP
  have hl := lv_entry ([.ref (a0 0), .ref (a4 0)]) (n := 2) (Nat.le_of_ble_eq_true rfl)
  rw [lg_entry_eq]
  generalize (lg_sl ([.ref (a0 0), .ref (a4 0)]) ++ List.replicate (2 - (lg_sl ([.ref (a0 0), .ref (a4 0)])).length) Slot.unset).toArray = ls at hl ⊢
  have hl : lv_has ls 2 [(0, .ref (a0 0)), (1, .ref (a4 0))] := hl
  obtain ⟨H, hHe⟩ : ∃ H, H = s.heap := ⟨_, rfl⟩
  have hS : va_S A s.heap H [] := by rw [hHe]; exact hS
  have hP : va_P (dC, dI) vwCl (wd_X10_measured cI a0 a1 a2 a3 a4 v0_3 v0_4 v0_5 v0_6 v0_7 v3_10 v3_0 v3_1 v3_2 v3_3 v3_4 v3_5 v3_6 v3_7 v3_8 v3_9 v4_0) H := by rw [hHe]; exact hP
  rw [← hHe]
  unfold F_X10_measured at hF
  have j21 : ∀ (v0_3 : Int32) (v3_10 : Int32) (v3_0 : Nat → Int32) (v3_1 : Nat → Int32) (v3_2 : Nat → Int32) (v3_3 : Nat → Int32) (v3_4 : Nat → Int32) (v3_5 : Nat → Int32) (v3_6 : Nat → Int32) (v3_7 : Nat → Int32) (v3_8 : Nat → Int32) (v3_9 : Nat → Int32), F_X10_measured_j21 v0_3 v3_10 v3_0 v3_1 v3_2 v3_3 v3_4 v3_5 v3_6 v3_7 v3_8 v3_9 = some u → ∀ (H : Heap) (locs : List Loc) (ls : Array Slot), va_P (dC, dI) vwCl (wd_X10_measured cI a0 a1 a2 a3 a4 v0_3 v0_4 v0_5 v0_6 v0_7 v3_10 v3_0 v3_1 v3_2 v3_3 v3_4 v3_5 v3_6 v3_7 v3_8 v3_9 v4_0) H → va_D A (wd_X10_measured cI a0 a1 a2 a3 a4 v0_3 v0_4 v0_5 v0_6 v0_7 v3_10 v3_0 v3_1 v3_2 v3_3 v3_4 v3_5 v3_6 v3_7 v3_8 v3_9 v4_0) → va_S A s.heap H locs → lv_has ls 2 [(0, .ref (a0 0))] → W p l e (headSpec wz_X10_measured rm_X10_measured).room s m [.ref (a0 0), .ref (a4 0)].toArray below meth c H locs 0 0 (MQ below (Q_X10_measured dC dI cI a0 a1 a2 a3 a4 v0_4 v0_5 v0_6 v0_7 v4_0 u A) [.ref (a0 0), .ref (a4 0)].toArray s 0 0 A) (F0 m 21 ls []) := by
    intro v0_3 v3_10 v3_0 v3_1 v3_2 v3_3 v3_4 v3_5 v3_6 v3_7 v3_8 v3_9 hF H locs ls hP hD hS hl
    unfold F_X10_measured_j21 at hF
    refine lv_aload_n hx hb dX10_measured_21 rfl (lv_at hl 0 rfl) ?_
    refine va_get (D := (dC, dI)) (ci := 9) (v := .ref (a3 0)) (C := RX10) (T := TX10) (N := 8) hx hb hta uw_X10 hown hK hP 0 rfl rfl 0 (by decide) (hta _ mA53) (fun _ h9 => h9) rfl dX10_measured_22 ?_
    obtain rfl := Option.some.inj hF
    exact W.aret (v := .ref (a3 0)) hx hb hr (Or.inl ⟨_, rfl⟩) (Or.inr ⟨_, rfl⟩) (fun t ht hW => ⟨⟨(), (a3 0), rfl, trivial, rfl, by rw [ht]; exact hP, va_K.moved hW.alike hK, hD⟩, hS.F ht⟩) hS.2.2 dX10_measured_25
  refine lv_aload_n hx hb dX10_measured_0 rfl (lv_at hl 0 rfl) ?_
  refine va_get (D := (dC, dI)) (ci := 9) (v := .int v0_3) (C := RX10) (T := TX10) (N := 8) hx hb hta uw_X10 hown hK hP 0 rfl rfl 3 (by decide) (hta _ mA147) (fun _ h9 => h9) rfl dX10_measured_1 ?_
  refine lv_iconst (v := 1) hx hb dX10_measured_4 (by decide) ?_
  refine lv_icmp_ge (tgt := 21) hx hb dX10_measured_5 (by decide) (fun c_1 => ?_) (fun c_1 => ?_)
  · have hF := it_t hF c_1
    exact j21 v0_3 v3_10 v3_0 v3_1 v3_2 v3_3 v3_4 v3_5 v3_6 v3_7 v3_8 v3_9 hF _ _ _ hP hD hS (lv_sub hl [0] rfl)
  · have hF := it_f hF c_1
    refine lv_aload_n hx hb dX10_measured_8 rfl (lv_at hl 0 rfl) ?_
    refine va_get (D := (dC, dI)) (ci := 9) (v := .ref (a3 0)) (C := RX10) (T := TX10) (N := 8) hx hb hta uw_X10 hown hK hP 0 rfl rfl 0 (by decide) (hta _ mA53) (fun _ h9 => h9) rfl dX10_measured_9 ?_
    refine lv_aload_n hx hb dX10_measured_12 rfl (lv_at hl 1 rfl) ?_
    obtain ⟨u_2, hu_2, hF⟩ := obd_some hF
    have hPc := hP.sub (ws' := (wd_X9_measure cI a3 a4 v3_10 v3_0 v3_1 v3_2 v3_3 v3_4 v3_5 v3_6 v3_7 v3_8 v3_9 v4_0)) [1, 2, 3, 4, 5, 6, 7, 8, 9, 10, 11, 12, 13] rfl
    have hDc := hD.sub (ws' := (wd_X9_measure cI a3 a4 v3_10 v3_0 v3_1 v3_2 v3_3 v3_4 v3_5 v3_6 v3_7 v3_8 v3_9 v4_0)) [1, 2, 3, 4, 5, 6, 7, 8, 9, 10, 11, 12, 13] rfl rfl
    refine q_callv (wc := (wd_X9_measure cI a3 a4 v3_10 v3_0 v3_1 v3_2 v3_3 v3_4 v3_5 v3_6 v3_7 v3_8 v3_9 v4_0)) (w1 := (wd_X9_measure cI a3 a4 u_2.1 u_2.2.1 u_2.2.2.1 u_2.2.2.2.1 u_2.2.2.2.2.1 u_2.2.2.2.2.2.1 u_2.2.2.2.2.2.2.1 u_2.2.2.2.2.2.2.2.1 u_2.2.2.2.2.2.2.2.2.1 u_2.2.2.2.2.2.2.2.2.2.1 u_2.2.2.2.2.2.2.2.2.2.2 v4_0)) (ws' := (wd_X10_measured cI a0 a1 a2 a3 a4 v0_3 v0_4 v0_5 v0_6 v0_7 u_2.1 u_2.2.1 u_2.2.2.1 u_2.2.2.2.1 u_2.2.2.2.2.1 u_2.2.2.2.2.2.1 u_2.2.2.2.2.2.2.1 u_2.2.2.2.2.2.2.2.1 u_2.2.2.2.2.2.2.2.2.1 u_2.2.2.2.2.2.2.2.2.2.1 u_2.2.2.2.2.2.2.2.2.2.2 v4_0)) hP hD hS hA [1, 2, 3, 4, 5, 6, 7, 8, 9, 10, 11, 12, 13] [0] [0, 1, 2, 3, 4, 5, 6, 7, 8, 9, 10, 11, 12, 13] rfl rfl rfl (by decide) rfl rfl (va_runV (As := [.ref (a4 0)]) (rest := []) ⟨hx, hb, hml, hown, hta⟩ (c_X9_measure l dC dI cI H.size a3 a4 v3_10 v3_0 v3_1 v3_2 v3_3 v3_4 v3_5 v3_6 v3_7 v3_8 v3_9 v4_0 n u_2 hu_2) (cwV 1 hta (ga_V mA196 mA197 mA198 mA52 mA199) rfl rfl rfl (by decide +kernel) ⟨Nat.le_of_ble_eq_true rfl, Nat.le_of_ble_eq_true rfl⟩) ⟨q_fb, va_recv hK hP (ci := 8) (q0 := 1) rfl rfl, q_ps hPc hK hDc⟩ rfl rfl hl.1 rfl (lv_room (Nat.le_of_ble_eq_true rfl)) dX10_measured_13 ⟨Nat.zero_le _, Nat.zero_le _⟩) (fun H locs hP hD hS => ?_)
    refine lv_aload_n hx hb dX10_measured_16 rfl (lv_at hl 0 rfl) ?_
    refine lv_iconst (v := 1) hx hb dX10_measured_17 (by decide) ?_
    refine va_put (D := (dC, dI)) (ci := 9) (v := .int 1) (ty := .int) (C := RX10) (T := TX10) (N := 8) hx hb hta uw_X10 tyX10 tyX10_ok nmX10 hown hK hP hD hS 0 rfl rfl 3 (by decide) (hta _ mA147) (fun _ h9 => h9) rfl (by decide +kernel) rfl rfl (Nat.le_of_ble_eq_true rfl) dX10_measured_18 (fun H locs hP hD hS => ?_)
    have hP : va_P (dC, dI) vwCl (wd_X10_measured cI a0 a1 a2 a3 a4 1 v0_4 v0_5 v0_6 v0_7 u_2.1 u_2.2.1 u_2.2.2.1 u_2.2.2.2.1 u_2.2.2.2.2.1 u_2.2.2.2.2.2.1 u_2.2.2.2.2.2.2.1 u_2.2.2.2.2.2.2.2.1 u_2.2.2.2.2.2.2.2.2.1 u_2.2.2.2.2.2.2.2.2.2.1 u_2.2.2.2.2.2.2.2.2.2.2 v4_0) H := hP
    have hD : va_D A (wd_X10_measured cI a0 a1 a2 a3 a4 1 v0_4 v0_5 v0_6 v0_7 u_2.1 u_2.2.1 u_2.2.2.1 u_2.2.2.2.1 u_2.2.2.2.2.1 u_2.2.2.2.2.2.1 u_2.2.2.2.2.2.2.1 u_2.2.2.2.2.2.2.2.1 u_2.2.2.2.2.2.2.2.2.1 u_2.2.2.2.2.2.2.2.2.2.1 u_2.2.2.2.2.2.2.2.2.2.2 v4_0) := hD
    exact j21 1 u_2.1 u_2.2.1 u_2.2.2.1 u_2.2.2.2.1 u_2.2.2.2.2.1 u_2.2.2.2.2.2.1 u_2.2.2.2.2.2.2.1 u_2.2.2.2.2.2.2.2.1 u_2.2.2.2.2.2.2.2.2.1 u_2.2.2.2.2.2.2.2.2.2.1 u_2.2.2.2.2.2.2.2.2.2.2 hF _ _ _ hP hD hS (lv_sub hl [0] rfl)

-- StrokeOutliner$Stroke.walked(LStrokeOutliner$Drawing;)LStrokeOutliner$Runs;
def F_X10_walked_j26 (v0_3 : Int32) (v2_10 : Int32) (v2_11 : Int32) (v2_1 : Nat → Int32) (v2_2 : Nat → Int32) (v2_3 : Nat → Int32) (v2_4 : Nat → Int32) (v2_5 : Nat → Int32) (v2_6 : Nat → Int32) (v2_7 : Nat → Int32) (v2_8 : Nat → Int32) (v2_9 : Nat → Int32) (v3_1 : Int32) (v3_2 : Int32) (v3_3 : Int32) (v3_4 : Int32) (v3_0 : Nat → Int32) (v4_10 : Int32) (v4_0 : Nat → Int32) (v4_1 : Nat → Int32) (v4_2 : Nat → Int32) (v4_3 : Nat → Int32) (v4_4 : Nat → Int32) (v4_5 : Nat → Int32) (v4_6 : Nat → Int32) (v4_7 : Nat → Int32) (v4_8 : Nat → Int32) (v4_9 : Nat → Int32) : Option (Int32 × Int32 × Int32 × (Nat → Int32) × (Nat → Int32) × (Nat → Int32) × (Nat → Int32) × (Nat → Int32) × (Nat → Int32) × (Nat → Int32) × (Nat → Int32) × (Nat → Int32) × Int32 × Int32 × Int32 × Int32 × (Nat → Int32) × Int32 × (Nat → Int32) × (Nat → Int32) × (Nat → Int32) × (Nat → Int32) × (Nat → Int32) × (Nat → Int32) × (Nat → Int32) × (Nat → Int32) × (Nat → Int32) × (Nat → Int32)) :=
  some (v0_3, v2_10, v2_11, v2_1, v2_2, v2_3, v2_4, v2_5, v2_6, v2_7, v2_8, v2_9, v3_1, v3_2, v3_3, v3_4, v3_0, v4_10, v4_0, v4_1, v4_2, v4_3, v4_4, v4_5, v4_6, v4_7, v4_8, v4_9)
def F_X10_walked (n : Nat) (v0_3 : Int32) (v2_10 : Int32) (v2_11 : Int32) (v2_1 : Nat → Int32) (v2_2 : Nat → Int32) (v2_3 : Nat → Int32) (v2_4 : Nat → Int32) (v2_5 : Nat → Int32) (v2_6 : Nat → Int32) (v2_7 : Nat → Int32) (v2_8 : Nat → Int32) (v2_9 : Nat → Int32) (v3_1 : Int32) (v3_2 : Int32) (v3_3 : Int32) (v3_4 : Int32) (v3_0 : Nat → Int32) (v4_10 : Int32) (v4_0 : Nat → Int32) (v4_1 : Nat → Int32) (v4_2 : Nat → Int32) (v4_3 : Nat → Int32) (v4_4 : Nat → Int32) (v4_5 : Nat → Int32) (v4_6 : Nat → Int32) (v4_7 : Nat → Int32) (v4_8 : Nat → Int32) (v4_9 : Nat → Int32) (v5_0 : Nat → Int32) : Option (Int32 × Int32 × Int32 × (Nat → Int32) × (Nat → Int32) × (Nat → Int32) × (Nat → Int32) × (Nat → Int32) × (Nat → Int32) × (Nat → Int32) × (Nat → Int32) × (Nat → Int32) × Int32 × Int32 × Int32 × Int32 × (Nat → Int32) × Int32 × (Nat → Int32) × (Nat → Int32) × (Nat → Int32) × (Nat → Int32) × (Nat → Int32) × (Nat → Int32) × (Nat → Int32) × (Nat → Int32) × (Nat → Int32) × (Nat → Int32)) :=
  if 2 ≤ v0_3 then F_X10_walked_j26 v0_3 v2_10 v2_11 v2_1 v2_2 v2_3 v2_4 v2_5 v2_6 v2_7 v2_8 v2_9 v3_1 v3_2 v3_3 v3_4 v3_0 v4_10 v4_0 v4_1 v4_2 v4_3 v4_4 v4_5 v4_6 v4_7 v4_8 v4_9 else obd (F_X10_measured n v0_3 v4_10 v4_0 v4_1 v4_2 v4_3 v4_4 v4_5 v4_6 v4_7 v4_8 v4_9 v5_0) (fun u_2 => obd (F_X8_walk n v2_1 v2_2 v2_3 v2_4 v2_5 v2_6 v2_7 v2_8 v2_9 v3_3 v3_4 v3_0 v5_0 u_2.2.2.1 u_2.2.2.2.2.2.2.2.1) (fun u_3 => F_X10_walked_j26 2 u_3.1 u_3.2.1 u_3.2.2.1 u_3.2.2.2.1 u_3.2.2.2.2.1 u_3.2.2.2.2.2.1 u_3.2.2.2.2.2.2.1 u_3.2.2.2.2.2.2.2.1 u_3.2.2.2.2.2.2.2.2.1 u_3.2.2.2.2.2.2.2.2.2.1 u_3.2.2.2.2.2.2.2.2.2.2.1 u_3.2.2.2.2.2.2.2.2.2.2.2.1 u_3.2.2.2.2.2.2.2.2.2.2.2.2.1 u_3.2.2.2.2.2.2.2.2.2.2.2.2.2.1 u_3.2.2.2.2.2.2.2.2.2.2.2.2.2.2.1 u_3.2.2.2.2.2.2.2.2.2.2.2.2.2.2.2 u_2.2.1 u_2.2.2.1 u_2.2.2.2.1 u_2.2.2.2.2.1 u_2.2.2.2.2.2.1 u_2.2.2.2.2.2.2.1 u_2.2.2.2.2.2.2.2.1 u_2.2.2.2.2.2.2.2.2.1 u_2.2.2.2.2.2.2.2.2.2.1 u_2.2.2.2.2.2.2.2.2.2.2.1 u_2.2.2.2.2.2.2.2.2.2.2.2))
abbrev wd_X10_walked (cI : ClassId) (a0 : Nat → Nat) (a1 : Nat → Nat) (a2 : Nat → Nat) (a3 : Nat → Nat) (a4 : Nat → Nat) (a5 : Nat → Nat) (v0_3 : Int32) (v0_4 : Int32) (v0_5 : Int32) (v0_6 : Int32) (v0_7 : Int32) (v2_10 : Int32) (v2_11 : Int32) (v2_1 : Nat → Int32) (v2_2 : Nat → Int32) (v2_3 : Nat → Int32) (v2_4 : Nat → Int32) (v2_5 : Nat → Int32) (v2_6 : Nat → Int32) (v2_7 : Nat → Int32) (v2_8 : Nat → Int32) (v2_9 : Nat → Int32) (v3_1 : Int32) (v3_2 : Int32) (v3_3 : Int32) (v3_4 : Int32) (v3_0 : Nat → Int32) (v4_10 : Int32) (v4_0 : Nat → Int32) (v4_1 : Nat → Int32) (v4_2 : Nat → Int32) (v4_3 : Nat → Int32) (v4_4 : Nat → Int32) (v4_5 : Nat → Int32) (v4_6 : Nat → Int32) (v4_7 : Nat → Int32) (v4_8 : Nat → Int32) (v4_9 : Nat → Int32) (v5_0 : Nat → Int32) : va_W := [(a0 0, .inr (9, [.ref (a4 0), .ref (a2 0), .ref (a1 0), .int v0_3, .int v0_4, .int v0_5, .int v0_6, .int v0_7])), (a2 0, .inr (7, [.ref (a3 0), .ref (a2 2), .ref (a2 3), .ref (a2 4), .ref (a2 5), .ref (a2 6), .ref (a2 7), .ref (a2 8), .ref (a2 9), .ref (a2 10), .int v2_10, .int v2_11])), (a2 2, .inl (cI, 5, .inl v2_1)), (a2 3, .inl (cI, 928, .inl v2_2)), (a2 4, .inl (cI, 928, .inl v2_3)), (a2 5, .inl (cI, 928, .inl v2_4)), (a2 6, .inl (cI, 928, .inl v2_5)), (a2 7, .inl (cI, 928, .inl v2_6)), (a2 8, .inl (cI, 1024, .inl v2_7)), (a2 9, .inl (cI, 1024, .inl v2_8)), (a2 10, .inl (cI, 1024, .inl v2_9)), (a3 0, .inr (0, [.ref (a3 1), .int v3_1, .int v3_2, .int v3_3, .int v3_4])), (a3 1, .inl (cI, 6, .inl v3_0)), (a4 0, .inr (8, [.ref (a4 1), .ref (a4 2), .ref (a4 3), .ref (a4 4), .ref (a4 5), .ref (a4 6), .ref (a4 7), .ref (a4 8), .ref (a4 9), .ref (a4 10), .int v4_10])), (a4 1, .inl (cI, 5, .inl v4_0)), (a4 2, .inl (cI, 32, .inl v4_1)), (a4 3, .inl (cI, 32, .inl v4_2)), (a4 4, .inl (cI, 32, .inl v4_3)), (a4 5, .inl (cI, 32, .inl v4_4)), (a4 6, .inl (cI, 32, .inl v4_5)), (a4 7, .inl (cI, 32, .inl v4_6)), (a4 8, .inl (cI, 32, .inl v4_7)), (a4 9, .inl (cI, 32, .inl v4_8)), (a4 10, .inl (cI, 32, .inl v4_9)), (a5 0, .inr (1, [.ref (a5 1)])), (a5 1, .inl (cI, 86, .inl v5_0))]
abbrev wz_X10_walked : List Cond := .code yX10_walked cX10_walked 2 (some (.object "StrokeOutliner$Runs")) :: wALL
abbrev rm_X10_walked : Room := { frames := 4, cells := 0, slots := 0, locals := 108 }
abbrev Q_X10_walked (dC : Nat → ClassId) (dI : Nat → Nat → Nat) (cI : ClassId) (a0 : Nat → Nat) (a1 : Nat → Nat) (a2 : Nat → Nat) (a3 : Nat → Nat) (a4 : Nat → Nat) (a5 : Nat → Nat) (v0_4 : Int32) (v0_5 : Int32) (v0_6 : Int32) (v0_7 : Int32) (v5_0 : Nat → Int32) (u : (Int32 × Int32 × Int32 × (Nat → Int32) × (Nat → Int32) × (Nat → Int32) × (Nat → Int32) × (Nat → Int32) × (Nat → Int32) × (Nat → Int32) × (Nat → Int32) × (Nat → Int32) × Int32 × Int32 × Int32 × Int32 × (Nat → Int32) × Int32 × (Nat → Int32) × (Nat → Int32) × (Nat → Int32) × (Nat → Int32) × (Nat → Int32) × (Nat → Int32) × (Nat → Int32) × (Nat → Int32) × (Nat → Int32) × (Nat → Int32))) (A : Nat → Prop) : Array Value → State → Outcome → State → Prop := va_Qr (fun (_ : Unit) => True) (fun _ ra t => ra = a2 0 ∧ q_at dC dI cI A (wd_X10_walked cI a0 a1 a2 a3 a4 a5 u.1 v0_4 v0_5 v0_6 v0_7 u.2.1 u.2.2.1 u.2.2.2.1 u.2.2.2.2.1 u.2.2.2.2.2.1 u.2.2.2.2.2.2.1 u.2.2.2.2.2.2.2.1 u.2.2.2.2.2.2.2.2.1 u.2.2.2.2.2.2.2.2.2.1 u.2.2.2.2.2.2.2.2.2.2.1 u.2.2.2.2.2.2.2.2.2.2.2.1 u.2.2.2.2.2.2.2.2.2.2.2.2.1 u.2.2.2.2.2.2.2.2.2.2.2.2.2.1 u.2.2.2.2.2.2.2.2.2.2.2.2.2.2.1 u.2.2.2.2.2.2.2.2.2.2.2.2.2.2.2.1 u.2.2.2.2.2.2.2.2.2.2.2.2.2.2.2.2.1 u.2.2.2.2.2.2.2.2.2.2.2.2.2.2.2.2.2.1 u.2.2.2.2.2.2.2.2.2.2.2.2.2.2.2.2.2.2.1 u.2.2.2.2.2.2.2.2.2.2.2.2.2.2.2.2.2.2.2.1 u.2.2.2.2.2.2.2.2.2.2.2.2.2.2.2.2.2.2.2.2.1 u.2.2.2.2.2.2.2.2.2.2.2.2.2.2.2.2.2.2.2.2.2.1 u.2.2.2.2.2.2.2.2.2.2.2.2.2.2.2.2.2.2.2.2.2.2.1 u.2.2.2.2.2.2.2.2.2.2.2.2.2.2.2.2.2.2.2.2.2.2.2.1 u.2.2.2.2.2.2.2.2.2.2.2.2.2.2.2.2.2.2.2.2.2.2.2.2.1 u.2.2.2.2.2.2.2.2.2.2.2.2.2.2.2.2.2.2.2.2.2.2.2.2.2.1 u.2.2.2.2.2.2.2.2.2.2.2.2.2.2.2.2.2.2.2.2.2.2.2.2.2.2.1 u.2.2.2.2.2.2.2.2.2.2.2.2.2.2.2.2.2.2.2.2.2.2.2.2.2.2.2 v5_0) t) A
set_option maxHeartbeats 4000000 in
set_option maxRecDepth 100000 in
theorem c_X10_walked (l : Launch) (dC : Nat → ClassId) (dI : Nat → Nat → Nat) (cI : ClassId) (sz : Nat) (a0 : Nat → Nat) (a1 : Nat → Nat) (a2 : Nat → Nat) (a3 : Nat → Nat) (a4 : Nat → Nat) (a5 : Nat → Nat) (v0_3 : Int32) (v0_4 : Int32) (v0_5 : Int32) (v0_6 : Int32) (v0_7 : Int32) (v2_10 : Int32) (v2_11 : Int32) (v2_1 : Nat → Int32) (v2_2 : Nat → Int32) (v2_3 : Nat → Int32) (v2_4 : Nat → Int32) (v2_5 : Nat → Int32) (v2_6 : Nat → Int32) (v2_7 : Nat → Int32) (v2_8 : Nat → Int32) (v2_9 : Nat → Int32) (v3_1 : Int32) (v3_2 : Int32) (v3_3 : Int32) (v3_4 : Int32) (v3_0 : Nat → Int32) (v4_10 : Int32) (v4_0 : Nat → Int32) (v4_1 : Nat → Int32) (v4_2 : Nat → Int32) (v4_3 : Nat → Int32) (v4_4 : Nat → Int32) (v4_5 : Nat → Int32) (v4_6 : Nat → Int32) (v4_7 : Nat → Int32) (v4_8 : Nat → Int32) (v4_9 : Nat → Int32) (v5_0 : Nat → Int32) (n : Nat) (u : (Int32 × Int32 × Int32 × (Nat → Int32) × (Nat → Int32) × (Nat → Int32) × (Nat → Int32) × (Nat → Int32) × (Nat → Int32) × (Nat → Int32) × (Nat → Int32) × (Nat → Int32) × Int32 × Int32 × Int32 × Int32 × (Nat → Int32) × Int32 × (Nat → Int32) × (Nat → Int32) × (Nat → Int32) × (Nat → Int32) × (Nat → Int32) × (Nat → Int32) × (Nat → Int32) × (Nat → Int32) × (Nat → Int32) × (Nat → Int32))) (hF : F_X10_walked n v0_3 v2_10 v2_11 v2_1 v2_2 v2_3 v2_4 v2_5 v2_6 v2_7 v2_8 v2_9 v3_1 v3_2 v3_3 v3_4 v3_0 v4_10 v4_0 v4_1 v4_2 v4_3 v4_4 v4_5 v4_6 v4_7 v4_8 v4_9 v5_0 = some u) : Met l yX10_walked wz_X10_walked rm_X10_walked (va_Pc [.ref (a0 0), .ref (a5 0)] (q_pre dC dI cI (wd_X10_walked cI a0 a1 a2 a3 a4 a5 v0_3 v0_4 v0_5 v0_6 v0_7 v2_10 v2_11 v2_1 v2_2 v2_3 v2_4 v2_5 v2_6 v2_7 v2_8 v2_9 v3_1 v3_2 v3_3 v3_4 v3_0 v4_10 v4_0 v4_1 v4_2 v4_3 v4_4 v4_5 v4_6 v4_7 v4_8 v4_9 v5_0) sz)) (Q_X10_walked dC dI cI a0 a1 a2 a3 a4 a5 v0_4 v0_5 v0_6 v0_7 v5_0 u (va_A (wd_X10_walked cI a0 a1 a2 a3 a4 a5 v0_3 v0_4 v0_5 v0_6 v0_7 v2_10 v2_11 v2_1 v2_2 v2_3 v2_4 v2_5 v2_6 v2_7 v2_8 v2_9 v3_1 v3_2 v3_3 v3_4 v3_0 v4_10 v4_0 v4_1 v4_2 v4_3 v4_4 v4_5 v4_6 v4_7 v4_8 v4_9 v5_0) sz)) 0 0 (va_A (wd_X10_walked cI a0 a1 a2 a3 a4 a5 v0_3 v0_4 v0_5 v0_6 v0_7 v2_10 v2_11 v2_1 v2_2 v2_3 v2_4 v2_5 v2_6 v2_7 v2_8 v2_9 v3_1 v3_2 v3_3 v3_4 v3_0 v4_10 v4_0 v4_1 v4_2 v4_3 v4_4 v4_5 v4_6 v4_7 v4_8 v4_9 v5_0) sz) := by
  refine Met.ofW (cc := cX10_walked) (maxL := 2) (ret := (some (.object "StrokeOutliner$Runs"))) (by decide) rfl ?_
  intro p e s m args below meth c s₁ B hml hv
  obtain ⟨rfl, hsz, hP, hK, hD0⟩ := hv
  have hx := B.exec
  have hb := B.bytes
  have hr := B.returns
  have hts := atoms_spec (ws := wz_X10_walked) B.pre
  have hta := wz_tl hts
  have hown : s.vm.findClass RX10 = some m.cls := findClass_of_methodNamed B.named
  have hlocks := B.notSynchronized
  subst hsz
  have hD := hD0.self (sz := s.heap.size)
  generalize hAe : va_A (wd_X10_walked cI a0 a1 a2 a3 a4 a5 v0_3 v0_4 v0_5 v0_6 v0_7 v2_10 v2_11 v2_1 v2_2 v2_3 v2_4 v2_5 v2_6 v2_7 v2_8 v2_9 v3_1 v3_2 v3_3 v3_4 v3_0 v4_10 v4_0 v4_1 v4_2 v4_3 v4_4 v4_5 v4_6 v4_7 v4_8 v4_9 v5_0) s.heap.size = A at hD ⊢
  have hA : ∀ q : Nat, s.heap.size ≤ q → A q := fun q h => by rw [← hAe]; exact Or.inr h
  have hS : va_S A s.heap s.heap [] := va_S.rf
  have hP : va_P (dC, dI) vwCl (wd_X10_walked cI a0 a1 a2 a3 a4 a5 v0_3 v0_4 v0_5 v0_6 v0_7 v2_10 v2_11 v2_1 v2_2 v2_3 v2_4 v2_5 v2_6 v2_7 v2_8 v2_9 v3_1 v3_2 v3_3 v3_4 v3_0 v4_10 v4_0 v4_1 v4_2 v4_3 v4_4 v4_5 v4_6 v4_7 v4_8 v4_9 v5_0) s.heap := hP
  have hl := lv_entry ([.ref (a0 0), .ref (a5 0)]) (n := 2) (Nat.le_of_ble_eq_true rfl)
  rw [lg_entry_eq]
  generalize (lg_sl ([.ref (a0 0), .ref (a5 0)]) ++ List.replicate (2 - (lg_sl ([.ref (a0 0), .ref (a5 0)])).length) Slot.unset).toArray = ls at hl ⊢
  have hl : lv_has ls 2 [(0, .ref (a0 0)), (1, .ref (a5 0))] := hl
  obtain ⟨H, hHe⟩ : ∃ H, H = s.heap := ⟨_, rfl⟩
  have hS : va_S A s.heap H [] := by rw [hHe]; exact hS
  have hP : va_P (dC, dI) vwCl (wd_X10_walked cI a0 a1 a2 a3 a4 a5 v0_3 v0_4 v0_5 v0_6 v0_7 v2_10 v2_11 v2_1 v2_2 v2_3 v2_4 v2_5 v2_6 v2_7 v2_8 v2_9 v3_1 v3_2 v3_3 v3_4 v3_0 v4_10 v4_0 v4_1 v4_2 v4_3 v4_4 v4_5 v4_6 v4_7 v4_8 v4_9 v5_0) H := by rw [hHe]; exact hP
  rw [← hHe]
  unfold F_X10_walked at hF
  have j26 : ∀ (v0_3 : Int32) (v2_10 : Int32) (v2_11 : Int32) (v2_1 : Nat → Int32) (v2_2 : Nat → Int32) (v2_3 : Nat → Int32) (v2_4 : Nat → Int32) (v2_5 : Nat → Int32) (v2_6 : Nat → Int32) (v2_7 : Nat → Int32) (v2_8 : Nat → Int32) (v2_9 : Nat → Int32) (v3_1 : Int32) (v3_2 : Int32) (v3_3 : Int32) (v3_4 : Int32) (v3_0 : Nat → Int32) (v4_10 : Int32) (v4_0 : Nat → Int32) (v4_1 : Nat → Int32) (v4_2 : Nat → Int32) (v4_3 : Nat → Int32) (v4_4 : Nat → Int32) (v4_5 : Nat → Int32) (v4_6 : Nat → Int32) (v4_7 : Nat → Int32) (v4_8 : Nat → Int32) (v4_9 : Nat → Int32), F_X10_walked_j26 v0_3 v2_10 v2_11 v2_1 v2_2 v2_3 v2_4 v2_5 v2_6 v2_7 v2_8 v2_9 v3_1 v3_2 v3_3 v3_4 v3_0 v4_10 v4_0 v4_1 v4_2 v4_3 v4_4 v4_5 v4_6 v4_7 v4_8 v4_9 = some u → ∀ (H : Heap) (locs : List Loc) (ls : Array Slot), va_P (dC, dI) vwCl (wd_X10_walked cI a0 a1 a2 a3 a4 a5 v0_3 v0_4 v0_5 v0_6 v0_7 v2_10 v2_11 v2_1 v2_2 v2_3 v2_4 v2_5 v2_6 v2_7 v2_8 v2_9 v3_1 v3_2 v3_3 v3_4 v3_0 v4_10 v4_0 v4_1 v4_2 v4_3 v4_4 v4_5 v4_6 v4_7 v4_8 v4_9 v5_0) H → va_D A (wd_X10_walked cI a0 a1 a2 a3 a4 a5 v0_3 v0_4 v0_5 v0_6 v0_7 v2_10 v2_11 v2_1 v2_2 v2_3 v2_4 v2_5 v2_6 v2_7 v2_8 v2_9 v3_1 v3_2 v3_3 v3_4 v3_0 v4_10 v4_0 v4_1 v4_2 v4_3 v4_4 v4_5 v4_6 v4_7 v4_8 v4_9 v5_0) → va_S A s.heap H locs → lv_has ls 2 [(0, .ref (a0 0))] → W p l e (headSpec wz_X10_walked rm_X10_walked).room s m [.ref (a0 0), .ref (a5 0)].toArray below meth c H locs 0 0 (MQ below (Q_X10_walked dC dI cI a0 a1 a2 a3 a4 a5 v0_4 v0_5 v0_6 v0_7 v5_0 u A) [.ref (a0 0), .ref (a5 0)].toArray s 0 0 A) (F0 m 26 ls []) := by
    intro v0_3 v2_10 v2_11 v2_1 v2_2 v2_3 v2_4 v2_5 v2_6 v2_7 v2_8 v2_9 v3_1 v3_2 v3_3 v3_4 v3_0 v4_10 v4_0 v4_1 v4_2 v4_3 v4_4 v4_5 v4_6 v4_7 v4_8 v4_9 hF H locs ls hP hD hS hl
    unfold F_X10_walked_j26 at hF
    refine lv_aload_n hx hb dX10_walked_26 rfl (lv_at hl 0 rfl) ?_
    refine va_get (D := (dC, dI)) (ci := 9) (v := .ref (a2 0)) (C := RX10) (T := TX10) (N := 8) hx hb hta uw_X10 hown hK hP 0 rfl rfl 1 (by decide) (hta _ mA57) (fun _ h9 => h9) rfl dX10_walked_27 ?_
    obtain rfl := Option.some.inj hF
    exact W.aret (v := .ref (a2 0)) hx hb hr (Or.inl ⟨_, rfl⟩) (Or.inr ⟨_, rfl⟩) (fun t ht hW => ⟨⟨(), (a2 0), rfl, trivial, rfl, by rw [ht]; exact hP, va_K.moved hW.alike hK, hD⟩, hS.F ht⟩) hS.2.2 dX10_walked_30
  refine lv_aload_n hx hb dX10_walked_0 rfl (lv_at hl 0 rfl) ?_
  refine va_get (D := (dC, dI)) (ci := 9) (v := .int v0_3) (C := RX10) (T := TX10) (N := 8) hx hb hta uw_X10 hown hK hP 0 rfl rfl 3 (by decide) (hta _ mA147) (fun _ h9 => h9) rfl dX10_walked_1 ?_
  refine lv_iconst (v := 2) hx hb dX10_walked_4 (by decide) ?_
  refine lv_icmp_ge (tgt := 26) hx hb dX10_walked_5 (by decide) (fun c_1 => ?_) (fun c_1 => ?_)
  · have hF := it_t hF c_1
    exact j26 v0_3 v2_10 v2_11 v2_1 v2_2 v2_3 v2_4 v2_5 v2_6 v2_7 v2_8 v2_9 v3_1 v3_2 v3_3 v3_4 v3_0 v4_10 v4_0 v4_1 v4_2 v4_3 v4_4 v4_5 v4_6 v4_7 v4_8 v4_9 hF _ _ _ hP hD hS (lv_sub hl [0] rfl)
  · have hF := it_f hF c_1
    refine lv_aload_n hx hb dX10_walked_8 rfl (lv_at hl 0 rfl) ?_
    refine va_get (D := (dC, dI)) (ci := 9) (v := .ref (a2 0)) (C := RX10) (T := TX10) (N := 8) hx hb hta uw_X10 hown hK hP 0 rfl rfl 1 (by decide) (hta _ mA57) (fun _ h9 => h9) rfl dX10_walked_9 ?_
    refine lv_aload_n hx hb dX10_walked_12 rfl (lv_at hl 1 rfl) ?_
    refine lv_aload_n hx hb dX10_walked_13 rfl (lv_at hl 0 rfl) ?_
    refine lv_aload_n hx hb dX10_walked_14 rfl (lv_at hl 1 rfl) ?_
    obtain ⟨u_2, hu_2, hF⟩ := obd_some hF
    have hPc := hP.sub (ws' := (wd_X10_measured cI a0 a1 a2 a4 a5 v0_3 v0_4 v0_5 v0_6 v0_7 v4_10 v4_0 v4_1 v4_2 v4_3 v4_4 v4_5 v4_6 v4_7 v4_8 v4_9 v5_0)) [0, 13, 14, 15, 16, 17, 18, 19, 20, 21, 22, 23, 24, 25] rfl
    have hDc := hD.sub (ws' := (wd_X10_measured cI a0 a1 a2 a4 a5 v0_3 v0_4 v0_5 v0_6 v0_7 v4_10 v4_0 v4_1 v4_2 v4_3 v4_4 v4_5 v4_6 v4_7 v4_8 v4_9 v5_0)) [0, 13, 14, 15, 16, 17, 18, 19, 20, 21, 22, 23, 24, 25] rfl rfl
    refine q_callr (wc := (wd_X10_measured cI a0 a1 a2 a4 a5 v0_3 v0_4 v0_5 v0_6 v0_7 v4_10 v4_0 v4_1 v4_2 v4_3 v4_4 v4_5 v4_6 v4_7 v4_8 v4_9 v5_0)) (w1 := (wd_X10_measured cI a0 a1 a2 a4 a5 u_2.1 v0_4 v0_5 v0_6 v0_7 u_2.2.1 u_2.2.2.1 u_2.2.2.2.1 u_2.2.2.2.2.1 u_2.2.2.2.2.2.1 u_2.2.2.2.2.2.2.1 u_2.2.2.2.2.2.2.2.1 u_2.2.2.2.2.2.2.2.2.1 u_2.2.2.2.2.2.2.2.2.2.1 u_2.2.2.2.2.2.2.2.2.2.2.1 u_2.2.2.2.2.2.2.2.2.2.2.2 v5_0)) (ws' := (wd_X10_walked cI a0 a1 a2 a3 a4 a5 u_2.1 v0_4 v0_5 v0_6 v0_7 v2_10 v2_11 v2_1 v2_2 v2_3 v2_4 v2_5 v2_6 v2_7 v2_8 v2_9 v3_1 v3_2 v3_3 v3_4 v3_0 u_2.2.1 u_2.2.2.1 u_2.2.2.2.1 u_2.2.2.2.2.1 u_2.2.2.2.2.2.1 u_2.2.2.2.2.2.2.1 u_2.2.2.2.2.2.2.2.1 u_2.2.2.2.2.2.2.2.2.1 u_2.2.2.2.2.2.2.2.2.2.1 u_2.2.2.2.2.2.2.2.2.2.2.1 u_2.2.2.2.2.2.2.2.2.2.2.2 v5_0)) hP hD hS hA [0, 13, 14, 15, 16, 17, 18, 19, 20, 21, 22, 23, 24, 25] [1, 2, 3, 4, 5, 6, 7, 8, 9, 10, 11, 12] [12, 0, 1, 2, 3, 4, 5, 6, 7, 8, 9, 10, 11, 13, 14, 15, 16, 17, 18, 19, 20, 21, 22, 23, 24, 25] rfl rfl rfl (by decide) rfl rfl (va_runV (As := [.ref (a5 0)]) (rest := [.ref (a5 0), .ref (a2 0)]) ⟨hx, hb, hml, hown, hta⟩ (c_X10_measured l dC dI cI H.size a0 a1 a2 a4 a5 v0_3 v0_4 v0_5 v0_6 v0_7 v4_10 v4_0 v4_1 v4_2 v4_3 v4_4 v4_5 v4_6 v4_7 v4_8 v4_9 v5_0 n u_2 hu_2) (cwV 1 hta (ga_V mA353 mA193 mA194 mA23 mA195) rfl rfl rfl (by decide +kernel) ⟨Nat.le_of_ble_eq_true rfl, Nat.le_of_ble_eq_true rfl⟩) ⟨q_fb, va_recv hK hP (ci := 9) (q0 := 0) rfl rfl, q_ps hPc hK hDc⟩ rfl rfl hl.1 rfl (lv_room (Nat.le_of_ble_eq_true rfl)) dX10_walked_15 ⟨Nat.zero_le _, Nat.zero_le _⟩) (fun H locs hP hD hS => ?_)
    obtain ⟨u_3, hu_3, hF⟩ := obd_some hF
    have hPc := hP.sub (ws' := (wd_X8_walk cI a2 a3 a5 a4 v2_10 v2_11 v2_1 v2_2 v2_3 v2_4 v2_5 v2_6 v2_7 v2_8 v2_9 v3_1 v3_2 v3_3 v3_4 v3_0 v5_0 u_2.2.1 u_2.2.2.1 u_2.2.2.2.2.2.2.2.1)) [1, 2, 3, 4, 5, 6, 7, 8, 9, 10, 11, 12, 24, 25, 13, 14, 19] rfl
    have hDc := hD.sub (ws' := (wd_X8_walk cI a2 a3 a5 a4 v2_10 v2_11 v2_1 v2_2 v2_3 v2_4 v2_5 v2_6 v2_7 v2_8 v2_9 v3_1 v3_2 v3_3 v3_4 v3_0 v5_0 u_2.2.1 u_2.2.2.1 u_2.2.2.2.2.2.2.2.1)) [1, 2, 3, 4, 5, 6, 7, 8, 9, 10, 11, 12, 24, 25, 13, 14, 19] rfl rfl
    refine q_callv (wc := (wd_X8_walk cI a2 a3 a5 a4 v2_10 v2_11 v2_1 v2_2 v2_3 v2_4 v2_5 v2_6 v2_7 v2_8 v2_9 v3_1 v3_2 v3_3 v3_4 v3_0 v5_0 u_2.2.1 u_2.2.2.1 u_2.2.2.2.2.2.2.2.1)) (w1 := (wd_X8_walk cI a2 a3 a5 a4 u_3.1 u_3.2.1 u_3.2.2.1 u_3.2.2.2.1 u_3.2.2.2.2.1 u_3.2.2.2.2.2.1 u_3.2.2.2.2.2.2.1 u_3.2.2.2.2.2.2.2.1 u_3.2.2.2.2.2.2.2.2.1 u_3.2.2.2.2.2.2.2.2.2.1 u_3.2.2.2.2.2.2.2.2.2.2.1 u_3.2.2.2.2.2.2.2.2.2.2.2.1 u_3.2.2.2.2.2.2.2.2.2.2.2.2.1 u_3.2.2.2.2.2.2.2.2.2.2.2.2.2.1 u_3.2.2.2.2.2.2.2.2.2.2.2.2.2.2.1 u_3.2.2.2.2.2.2.2.2.2.2.2.2.2.2.2 v5_0 u_2.2.1 u_2.2.2.1 u_2.2.2.2.2.2.2.2.1)) (ws' := (wd_X10_walked cI a0 a1 a2 a3 a4 a5 u_2.1 v0_4 v0_5 v0_6 v0_7 u_3.1 u_3.2.1 u_3.2.2.1 u_3.2.2.2.1 u_3.2.2.2.2.1 u_3.2.2.2.2.2.1 u_3.2.2.2.2.2.2.1 u_3.2.2.2.2.2.2.2.1 u_3.2.2.2.2.2.2.2.2.1 u_3.2.2.2.2.2.2.2.2.2.1 u_3.2.2.2.2.2.2.2.2.2.2.1 u_3.2.2.2.2.2.2.2.2.2.2.2.1 u_3.2.2.2.2.2.2.2.2.2.2.2.2.1 u_3.2.2.2.2.2.2.2.2.2.2.2.2.2.1 u_3.2.2.2.2.2.2.2.2.2.2.2.2.2.2.1 u_3.2.2.2.2.2.2.2.2.2.2.2.2.2.2.2 u_2.2.1 u_2.2.2.1 u_2.2.2.2.1 u_2.2.2.2.2.1 u_2.2.2.2.2.2.1 u_2.2.2.2.2.2.2.1 u_2.2.2.2.2.2.2.2.1 u_2.2.2.2.2.2.2.2.2.1 u_2.2.2.2.2.2.2.2.2.2.1 u_2.2.2.2.2.2.2.2.2.2.2.1 u_2.2.2.2.2.2.2.2.2.2.2.2 v5_0)) hP hD hS hA [1, 2, 3, 4, 5, 6, 7, 8, 9, 10, 11, 12, 24, 25, 13, 14, 19] [0, 15, 16, 17, 18, 20, 21, 22, 23] [0, 9, 10, 11, 12, 13, 14, 15, 16, 17, 18, 19, 20, 23, 24, 1, 2, 3, 4, 25, 5, 6, 7, 8, 21, 22] rfl rfl rfl (by decide) rfl rfl (va_runV (As := [.ref (a5 0), .ref (a4 0)]) (rest := []) ⟨hx, hb, hml, hown, hta⟩ (c_X8_walk l dC dI cI H.size a2 a3 a5 a4 v2_10 v2_11 v2_1 v2_2 v2_3 v2_4 v2_5 v2_6 v2_7 v2_8 v2_9 v3_1 v3_2 v3_3 v3_4 v3_0 v5_0 u_2.2.1 u_2.2.2.1 u_2.2.2.2.2.2.2.2.1 n u_3 hu_3) (cwV 2 hta (ga_V mA354 mA355 mA356 mA56 mA357) rfl rfl rfl (by decide +kernel) ⟨Nat.le_of_ble_eq_true rfl, Nat.le_of_ble_eq_true rfl⟩) ⟨q_fb, va_recv hK hP (ci := 7) (q0 := 1) rfl rfl, q_ps hPc hK hDc⟩ rfl rfl hl.1 rfl (lv_room (Nat.le_of_ble_eq_true rfl)) dX10_walked_18 ⟨Nat.zero_le _, Nat.zero_le _⟩) (fun H locs hP hD hS => ?_)
    refine lv_aload_n hx hb dX10_walked_21 rfl (lv_at hl 0 rfl) ?_
    refine lv_iconst (v := 2) hx hb dX10_walked_22 (by decide) ?_
    refine va_put (D := (dC, dI)) (ci := 9) (v := .int 2) (ty := .int) (C := RX10) (T := TX10) (N := 8) hx hb hta uw_X10 tyX10 tyX10_ok nmX10 hown hK hP hD hS 0 rfl rfl 3 (by decide) (hta _ mA147) (fun _ h9 => h9) rfl (by decide +kernel) rfl rfl (Nat.le_of_ble_eq_true rfl) dX10_walked_23 (fun H locs hP hD hS => ?_)
    have hP : va_P (dC, dI) vwCl (wd_X10_walked cI a0 a1 a2 a3 a4 a5 2 v0_4 v0_5 v0_6 v0_7 u_3.1 u_3.2.1 u_3.2.2.1 u_3.2.2.2.1 u_3.2.2.2.2.1 u_3.2.2.2.2.2.1 u_3.2.2.2.2.2.2.1 u_3.2.2.2.2.2.2.2.1 u_3.2.2.2.2.2.2.2.2.1 u_3.2.2.2.2.2.2.2.2.2.1 u_3.2.2.2.2.2.2.2.2.2.2.1 u_3.2.2.2.2.2.2.2.2.2.2.2.1 u_3.2.2.2.2.2.2.2.2.2.2.2.2.1 u_3.2.2.2.2.2.2.2.2.2.2.2.2.2.1 u_3.2.2.2.2.2.2.2.2.2.2.2.2.2.2.1 u_3.2.2.2.2.2.2.2.2.2.2.2.2.2.2.2 u_2.2.1 u_2.2.2.1 u_2.2.2.2.1 u_2.2.2.2.2.1 u_2.2.2.2.2.2.1 u_2.2.2.2.2.2.2.1 u_2.2.2.2.2.2.2.2.1 u_2.2.2.2.2.2.2.2.2.1 u_2.2.2.2.2.2.2.2.2.2.1 u_2.2.2.2.2.2.2.2.2.2.2.1 u_2.2.2.2.2.2.2.2.2.2.2.2 v5_0) H := hP
    have hD : va_D A (wd_X10_walked cI a0 a1 a2 a3 a4 a5 2 v0_4 v0_5 v0_6 v0_7 u_3.1 u_3.2.1 u_3.2.2.1 u_3.2.2.2.1 u_3.2.2.2.2.1 u_3.2.2.2.2.2.1 u_3.2.2.2.2.2.2.1 u_3.2.2.2.2.2.2.2.1 u_3.2.2.2.2.2.2.2.2.1 u_3.2.2.2.2.2.2.2.2.2.1 u_3.2.2.2.2.2.2.2.2.2.2.1 u_3.2.2.2.2.2.2.2.2.2.2.2.1 u_3.2.2.2.2.2.2.2.2.2.2.2.2.1 u_3.2.2.2.2.2.2.2.2.2.2.2.2.2.1 u_3.2.2.2.2.2.2.2.2.2.2.2.2.2.2.1 u_3.2.2.2.2.2.2.2.2.2.2.2.2.2.2.2 u_2.2.1 u_2.2.2.1 u_2.2.2.2.1 u_2.2.2.2.2.1 u_2.2.2.2.2.2.1 u_2.2.2.2.2.2.2.1 u_2.2.2.2.2.2.2.2.1 u_2.2.2.2.2.2.2.2.2.1 u_2.2.2.2.2.2.2.2.2.2.1 u_2.2.2.2.2.2.2.2.2.2.2.1 u_2.2.2.2.2.2.2.2.2.2.2.2 v5_0) := hD
    exact j26 2 u_3.1 u_3.2.1 u_3.2.2.1 u_3.2.2.2.1 u_3.2.2.2.2.1 u_3.2.2.2.2.2.1 u_3.2.2.2.2.2.2.1 u_3.2.2.2.2.2.2.2.1 u_3.2.2.2.2.2.2.2.2.1 u_3.2.2.2.2.2.2.2.2.2.1 u_3.2.2.2.2.2.2.2.2.2.2.1 u_3.2.2.2.2.2.2.2.2.2.2.2.1 u_3.2.2.2.2.2.2.2.2.2.2.2.2.1 u_3.2.2.2.2.2.2.2.2.2.2.2.2.2.1 u_3.2.2.2.2.2.2.2.2.2.2.2.2.2.2.1 u_3.2.2.2.2.2.2.2.2.2.2.2.2.2.2.2 u_2.2.1 u_2.2.2.1 u_2.2.2.2.1 u_2.2.2.2.2.1 u_2.2.2.2.2.2.1 u_2.2.2.2.2.2.2.1 u_2.2.2.2.2.2.2.2.1 u_2.2.2.2.2.2.2.2.2.1 u_2.2.2.2.2.2.2.2.2.2.1 u_2.2.2.2.2.2.2.2.2.2.2.1 u_2.2.2.2.2.2.2.2.2.2.2.2 hF _ _ _ hP hD hS (lv_sub hl [0] rfl)

-- StrokeOutliner$Stroke.addDisc(II)V
def F_X10_addDisc (v1_3 : Int32) (v1_4 : Int32) (v1_0 : Nat → Int32) (v1_1 : Nat → Int32) (v1_2 : Nat → Int32) (p1 : Int32) (p2 : Int32) : Option (Int32 × Int32 × (Nat → Int32) × (Nat → Int32) × (Nat → Int32)) :=
  obd (F_X7_start v1_3 v1_4 v1_0 3) (fun u_1 => obd (F_X7_addCorner u_1.1 u_1.2.1 v1_1 v1_2 p1 p2) (fun u_2 => some (u_1.1, u_2.1, u_1.2.2, u_2.2.1, u_2.2.2)))
abbrev wd_X10_addDisc (cI : ClassId) (a0 : Nat → Nat) (a1 : Nat → Nat) (a2 : Nat → Nat) (a3 : Nat → Nat) (v0_3 : Int32) (v0_4 : Int32) (v0_5 : Int32) (v0_6 : Int32) (v0_7 : Int32) (v1_3 : Int32) (v1_4 : Int32) (v1_5 : Int32) (v1_0 : Nat → Int32) (v1_1 : Nat → Int32) (v1_2 : Nat → Int32) : va_W := [(a0 0, .inr (9, [.ref (a3 0), .ref (a2 0), .ref (a1 0), .int v0_3, .int v0_4, .int v0_5, .int v0_6, .int v0_7])), (a1 0, .inr (6, [.ref (a1 1), .ref (a1 2), .ref (a1 3), .int v1_3, .int v1_4, .int v1_5])), (a1 1, .inl (cI, 2800, .inl v1_0)), (a1 2, .inl (cI, 11200, .inl v1_1)), (a1 3, .inl (cI, 11200, .inl v1_2))]
abbrev wz_X10_addDisc : List Cond := .code yX10_addDisc cX10_addDisc 3 none :: wALL
abbrev rm_X10_addDisc : Room := { frames := 1, cells := 0, slots := 0, locals := 23 }
abbrev Q_X10_addDisc (dC : Nat → ClassId) (dI : Nat → Nat → Nat) (cI : ClassId) (a0 : Nat → Nat) (a1 : Nat → Nat) (a2 : Nat → Nat) (a3 : Nat → Nat) (v0_3 : Int32) (v0_4 : Int32) (v0_5 : Int32) (v0_6 : Int32) (v0_7 : Int32) (v1_5 : Int32) (u : (Int32 × Int32 × (Nat → Int32) × (Nat → Int32) × (Nat → Int32))) (A : Nat → Prop) : Array Value → State → Outcome → State → Prop := va_Qv (fun (_ : Unit) => True) (fun _ => q_at dC dI cI A (wd_X10_addDisc cI a0 a1 a2 a3 v0_3 v0_4 v0_5 v0_6 v0_7 u.1 u.2.1 v1_5 u.2.2.1 u.2.2.2.1 u.2.2.2.2)) A
set_option maxHeartbeats 4000000 in
set_option maxRecDepth 100000 in
theorem c_X10_addDisc (l : Launch) (dC : Nat → ClassId) (dI : Nat → Nat → Nat) (cI : ClassId) (sz : Nat) (a0 : Nat → Nat) (a1 : Nat → Nat) (a2 : Nat → Nat) (a3 : Nat → Nat) (v0_3 : Int32) (v0_4 : Int32) (v0_5 : Int32) (v0_6 : Int32) (v0_7 : Int32) (v1_3 : Int32) (v1_4 : Int32) (v1_5 : Int32) (v1_0 : Nat → Int32) (v1_1 : Nat → Int32) (v1_2 : Nat → Int32) (p1 : Int32) (p2 : Int32) (u : (Int32 × Int32 × (Nat → Int32) × (Nat → Int32) × (Nat → Int32))) (hF : F_X10_addDisc v1_3 v1_4 v1_0 v1_1 v1_2 p1 p2 = some u) : Met l yX10_addDisc wz_X10_addDisc rm_X10_addDisc (va_Pc [.ref (a0 0), .int p1, .int p2] (q_pre dC dI cI (wd_X10_addDisc cI a0 a1 a2 a3 v0_3 v0_4 v0_5 v0_6 v0_7 v1_3 v1_4 v1_5 v1_0 v1_1 v1_2) sz)) (Q_X10_addDisc dC dI cI a0 a1 a2 a3 v0_3 v0_4 v0_5 v0_6 v0_7 v1_5 u (va_A (wd_X10_addDisc cI a0 a1 a2 a3 v0_3 v0_4 v0_5 v0_6 v0_7 v1_3 v1_4 v1_5 v1_0 v1_1 v1_2) sz)) 0 0 (va_A (wd_X10_addDisc cI a0 a1 a2 a3 v0_3 v0_4 v0_5 v0_6 v0_7 v1_3 v1_4 v1_5 v1_0 v1_1 v1_2) sz) := by
  refine Met.ofW (cc := cX10_addDisc) (maxL := 3) (ret := none) (by decide) rfl ?_
  intro p e s m args below meth c s₁ B hml hv
  obtain ⟨rfl, hsz, hP, hK, hD0⟩ := hv
  have hx := B.exec
  have hb := B.bytes
  have hr := B.returns
  have hts := atoms_spec (ws := wz_X10_addDisc) B.pre
  have hta := wz_tl hts
  have hown : s.vm.findClass RX10 = some m.cls := findClass_of_methodNamed B.named
  have hlocks := B.notSynchronized
  subst hsz
  have hD := hD0.self (sz := s.heap.size)
  generalize hAe : va_A (wd_X10_addDisc cI a0 a1 a2 a3 v0_3 v0_4 v0_5 v0_6 v0_7 v1_3 v1_4 v1_5 v1_0 v1_1 v1_2) s.heap.size = A at hD ⊢
  have hA : ∀ q : Nat, s.heap.size ≤ q → A q := fun q h => by rw [← hAe]; exact Or.inr h
  have hS : va_S A s.heap s.heap [] := va_S.rf
  have hP : va_P (dC, dI) vwCl (wd_X10_addDisc cI a0 a1 a2 a3 v0_3 v0_4 v0_5 v0_6 v0_7 v1_3 v1_4 v1_5 v1_0 v1_1 v1_2) s.heap := hP
  have hl := lv_entry ([.ref (a0 0), .int p1, .int p2]) (n := 3) (Nat.le_of_ble_eq_true rfl)
  rw [lg_entry_eq]
  generalize (lg_sl ([.ref (a0 0), .int p1, .int p2]) ++ List.replicate (3 - (lg_sl ([.ref (a0 0), .int p1, .int p2])).length) Slot.unset).toArray = ls at hl ⊢
  have hl : lv_has ls 3 [(0, .ref (a0 0)), (1, .int p1), (2, .int p2)] := hl
  obtain ⟨H, hHe⟩ : ∃ H, H = s.heap := ⟨_, rfl⟩
  have hS : va_S A s.heap H [] := by rw [hHe]; exact hS
  have hP : va_P (dC, dI) vwCl (wd_X10_addDisc cI a0 a1 a2 a3 v0_3 v0_4 v0_5 v0_6 v0_7 v1_3 v1_4 v1_5 v1_0 v1_1 v1_2) H := by rw [hHe]; exact hP
  rw [← hHe]
  unfold F_X10_addDisc at hF
  refine lv_aload_n hx hb dX10_addDisc_0 rfl (lv_at hl 0 rfl) ?_
  refine va_get (D := (dC, dI)) (ci := 9) (v := .ref (a1 0)) (C := RX10) (T := TX10) (N := 8) hx hb hta uw_X10 hown hK hP 0 rfl rfl 2 (by decide) (hta _ mA61) (fun _ h9 => h9) rfl dX10_addDisc_1 ?_
  refine lv_iconst (v := 3) hx hb dX10_addDisc_4 (by decide) ?_
  obtain ⟨u_1, hu_1, hF⟩ := obd_some hF
  have hPc := hP.sub (ws' := (wd_X7_start cI a1 v1_3 v1_4 v1_5 v1_0)) [1, 2] rfl
  have hDc := hD.sub (ws' := (wd_X7_start cI a1 v1_3 v1_4 v1_5 v1_0)) [1, 2] rfl rfl
  refine q_callv (wc := (wd_X7_start cI a1 v1_3 v1_4 v1_5 v1_0)) (w1 := (wd_X7_start cI a1 u_1.1 u_1.2.1 v1_5 u_1.2.2)) (ws' := (wd_X10_addDisc cI a0 a1 a2 a3 v0_3 v0_4 v0_5 v0_6 v0_7 u_1.1 u_1.2.1 v1_5 u_1.2.2 v1_1 v1_2)) hP hD hS hA [1, 2] [0, 3, 4] [0, 3, 4, 1, 2] rfl rfl rfl (by decide) rfl rfl (va_runV (As := [.int 3]) (rest := []) ⟨hx, hb, hml, hown, hta⟩ (c_X7_start l dC dI cI H.size a1 v1_3 v1_4 v1_5 v1_0 3 u_1 hu_1) (cwV 1 hta (ga_V mA489 mA490 mA491 mA60 mA492) rfl rfl rfl (by decide +kernel) ⟨Nat.le_of_ble_eq_true rfl, Nat.le_of_ble_eq_true rfl⟩) ⟨q_fb, va_recv hK hP (ci := 6) (q0 := 1) rfl rfl, q_ps hPc hK hDc⟩ rfl rfl hl.1 rfl (lv_room (Nat.le_of_ble_eq_true rfl)) dX10_addDisc_5 ⟨Nat.zero_le _, Nat.zero_le _⟩) (fun H locs hP hD hS => ?_)
  refine lv_aload_n hx hb dX10_addDisc_8 rfl (lv_at hl 0 rfl) ?_
  refine va_get (D := (dC, dI)) (ci := 9) (v := .ref (a1 0)) (C := RX10) (T := TX10) (N := 8) hx hb hta uw_X10 hown hK hP 0 rfl rfl 2 (by decide) (hta _ mA61) (fun _ h9 => h9) rfl dX10_addDisc_9 ?_
  refine lv_iload_n hx hb dX10_addDisc_12 rfl (lv_at hl 1 rfl) ?_
  refine lv_iload_n hx hb dX10_addDisc_13 rfl (lv_at hl 2 rfl) ?_
  obtain ⟨u_2, hu_2, hF⟩ := obd_some hF
  have hPc := hP.sub (ws' := (wd_X7_addCorner cI a1 u_1.1 u_1.2.1 v1_5 v1_1 v1_2)) [1, 3, 4] rfl
  have hDc := hD.sub (ws' := (wd_X7_addCorner cI a1 u_1.1 u_1.2.1 v1_5 v1_1 v1_2)) [1, 3, 4] rfl rfl
  refine q_callv (wc := (wd_X7_addCorner cI a1 u_1.1 u_1.2.1 v1_5 v1_1 v1_2)) (w1 := (wd_X7_addCorner cI a1 u_1.1 u_2.1 v1_5 u_2.2.1 u_2.2.2)) (ws' := (wd_X10_addDisc cI a0 a1 a2 a3 v0_3 v0_4 v0_5 v0_6 v0_7 u_1.1 u_2.1 v1_5 u_1.2.2 u_2.2.1 u_2.2.2)) hP hD hS hA [1, 3, 4] [0, 2] [0, 2, 1, 3, 4] rfl rfl rfl (by decide) rfl rfl (va_runV (As := [.int p1, .int p2]) (rest := []) ⟨hx, hb, hml, hown, hta⟩ (c_X7_addCorner l dC dI cI H.size a1 u_1.1 u_1.2.1 v1_5 v1_1 v1_2 p1 p2 u_2 hu_2) (cwV 2 hta (ga_V mA494 mA495 mA496 mA60 mA497) rfl rfl rfl (by decide +kernel) ⟨Nat.le_of_ble_eq_true rfl, Nat.le_of_ble_eq_true rfl⟩) ⟨q_fb, va_recv hK hP (ci := 6) (q0 := 1) rfl rfl, q_ps hPc hK hDc⟩ rfl rfl hl.1 rfl (lv_room (Nat.le_of_ble_eq_true rfl)) dX10_addDisc_14 ⟨Nat.zero_le _, Nat.zero_le _⟩) (fun H locs hP hD hS => ?_)
  obtain rfl := Option.some.inj hF
  exact W.vret hx hb hr (fun t ht hW => ⟨⟨(), rfl, trivial, by rw [ht]; exact hP, va_K.moved hW.alike hK, hD⟩, hS.F ht⟩) hS.2.2 dX10_addDisc_17

-- StrokeOutliner$Stroke.addDot(II)V
def F_X10_addDot (v0_4 : Int32) (v0_7 : Int32) (v1_3 : Int32) (v1_4 : Int32) (v1_0 : Nat → Int32) (v1_1 : Nat → Int32) (v1_2 : Nat → Int32) (p1 : Int32) (p2 : Int32) : Option (Int32 × Int32 × (Nat → Int32) × (Nat → Int32) × (Nat → Int32)) :=
  if v0_7 = 1 then obd (F_X10_addDisc v1_3 v1_4 v1_0 v1_1 v1_2 p1 p2) (fun u_8 => some (u_8.1, u_8.2.1, u_8.2.2.1, u_8.2.2.2.1, u_8.2.2.2.2)) else if v0_7 = 2 then obd (F_X7_start v1_3 v1_4 v1_0 4) (fun u_3 => obd (F_X7_addCorner u_3.1 u_3.2.1 v1_1 v1_2 (p1 - v0_4) (p2 - v0_4)) (fun u_4 => obd (F_X7_addCorner u_3.1 u_4.1 u_4.2.1 u_4.2.2 (p1 + v0_4) (p2 - v0_4)) (fun u_5 => obd (F_X7_addCorner u_3.1 u_5.1 u_5.2.1 u_5.2.2 (p1 + v0_4) (p2 + v0_4)) (fun u_6 => obd (F_X7_addCorner u_3.1 u_6.1 u_6.2.1 u_6.2.2 (p1 - v0_4) (p2 + v0_4)) (fun u_7 => some (u_3.1, u_7.1, u_3.2.2, u_7.2.1, u_7.2.2)))))) else some (v1_3, v1_4, v1_0, v1_1, v1_2)
abbrev wd_X10_addDot (cI : ClassId) (a0 : Nat → Nat) (a1 : Nat → Nat) (a2 : Nat → Nat) (a3 : Nat → Nat) (v0_3 : Int32) (v0_4 : Int32) (v0_5 : Int32) (v0_6 : Int32) (v0_7 : Int32) (v1_3 : Int32) (v1_4 : Int32) (v1_5 : Int32) (v1_0 : Nat → Int32) (v1_1 : Nat → Int32) (v1_2 : Nat → Int32) : va_W := [(a0 0, .inr (9, [.ref (a3 0), .ref (a2 0), .ref (a1 0), .int v0_3, .int v0_4, .int v0_5, .int v0_6, .int v0_7])), (a1 0, .inr (6, [.ref (a1 1), .ref (a1 2), .ref (a1 3), .int v1_3, .int v1_4, .int v1_5])), (a1 1, .inl (cI, 2800, .inl v1_0)), (a1 2, .inl (cI, 11200, .inl v1_1)), (a1 3, .inl (cI, 11200, .inl v1_2))]
abbrev wz_X10_addDot : List Cond := .code yX10_addDot cX10_addDot 3 none :: wALL
abbrev rm_X10_addDot : Room := { frames := 2, cells := 0, slots := 0, locals := 45 }
abbrev Q_X10_addDot (dC : Nat → ClassId) (dI : Nat → Nat → Nat) (cI : ClassId) (a0 : Nat → Nat) (a1 : Nat → Nat) (a2 : Nat → Nat) (a3 : Nat → Nat) (v0_3 : Int32) (v0_4 : Int32) (v0_5 : Int32) (v0_6 : Int32) (v0_7 : Int32) (v1_5 : Int32) (u : (Int32 × Int32 × (Nat → Int32) × (Nat → Int32) × (Nat → Int32))) (A : Nat → Prop) : Array Value → State → Outcome → State → Prop := va_Qv (fun (_ : Unit) => True) (fun _ => q_at dC dI cI A (wd_X10_addDot cI a0 a1 a2 a3 v0_3 v0_4 v0_5 v0_6 v0_7 u.1 u.2.1 v1_5 u.2.2.1 u.2.2.2.1 u.2.2.2.2)) A
set_option maxHeartbeats 4000000 in
set_option maxRecDepth 100000 in
theorem c_X10_addDot (l : Launch) (dC : Nat → ClassId) (dI : Nat → Nat → Nat) (cI : ClassId) (sz : Nat) (a0 : Nat → Nat) (a1 : Nat → Nat) (a2 : Nat → Nat) (a3 : Nat → Nat) (v0_3 : Int32) (v0_4 : Int32) (v0_5 : Int32) (v0_6 : Int32) (v0_7 : Int32) (v1_3 : Int32) (v1_4 : Int32) (v1_5 : Int32) (v1_0 : Nat → Int32) (v1_1 : Nat → Int32) (v1_2 : Nat → Int32) (p1 : Int32) (p2 : Int32) (u : (Int32 × Int32 × (Nat → Int32) × (Nat → Int32) × (Nat → Int32))) (hF : F_X10_addDot v0_4 v0_7 v1_3 v1_4 v1_0 v1_1 v1_2 p1 p2 = some u) : Met l yX10_addDot wz_X10_addDot rm_X10_addDot (va_Pc [.ref (a0 0), .int p1, .int p2] (q_pre dC dI cI (wd_X10_addDot cI a0 a1 a2 a3 v0_3 v0_4 v0_5 v0_6 v0_7 v1_3 v1_4 v1_5 v1_0 v1_1 v1_2) sz)) (Q_X10_addDot dC dI cI a0 a1 a2 a3 v0_3 v0_4 v0_5 v0_6 v0_7 v1_5 u (va_A (wd_X10_addDot cI a0 a1 a2 a3 v0_3 v0_4 v0_5 v0_6 v0_7 v1_3 v1_4 v1_5 v1_0 v1_1 v1_2) sz)) 0 0 (va_A (wd_X10_addDot cI a0 a1 a2 a3 v0_3 v0_4 v0_5 v0_6 v0_7 v1_3 v1_4 v1_5 v1_0 v1_1 v1_2) sz) := by
  refine Met.ofW (cc := cX10_addDot) (maxL := 3) (ret := none) (by decide) rfl ?_
  intro p e s m args below meth c s₁ B hml hv
  obtain ⟨rfl, hsz, hP, hK, hD0⟩ := hv
  have hx := B.exec
  have hb := B.bytes
  have hr := B.returns
  have hts := atoms_spec (ws := wz_X10_addDot) B.pre
  have hta := wz_tl hts
  have hown : s.vm.findClass RX10 = some m.cls := findClass_of_methodNamed B.named
  have hlocks := B.notSynchronized
  subst hsz
  have hD := hD0.self (sz := s.heap.size)
  generalize hAe : va_A (wd_X10_addDot cI a0 a1 a2 a3 v0_3 v0_4 v0_5 v0_6 v0_7 v1_3 v1_4 v1_5 v1_0 v1_1 v1_2) s.heap.size = A at hD ⊢
  have hA : ∀ q : Nat, s.heap.size ≤ q → A q := fun q h => by rw [← hAe]; exact Or.inr h
  have hS : va_S A s.heap s.heap [] := va_S.rf
  have hP : va_P (dC, dI) vwCl (wd_X10_addDot cI a0 a1 a2 a3 v0_3 v0_4 v0_5 v0_6 v0_7 v1_3 v1_4 v1_5 v1_0 v1_1 v1_2) s.heap := hP
  have hl := lv_entry ([.ref (a0 0), .int p1, .int p2]) (n := 3) (Nat.le_of_ble_eq_true rfl)
  rw [lg_entry_eq]
  generalize (lg_sl ([.ref (a0 0), .int p1, .int p2]) ++ List.replicate (3 - (lg_sl ([.ref (a0 0), .int p1, .int p2])).length) Slot.unset).toArray = ls at hl ⊢
  have hl : lv_has ls 3 [(0, .ref (a0 0)), (1, .int p1), (2, .int p2)] := hl
  obtain ⟨H, hHe⟩ : ∃ H, H = s.heap := ⟨_, rfl⟩
  have hS : va_S A s.heap H [] := by rw [hHe]; exact hS
  have hP : va_P (dC, dI) vwCl (wd_X10_addDot cI a0 a1 a2 a3 v0_3 v0_4 v0_5 v0_6 v0_7 v1_3 v1_4 v1_5 v1_0 v1_1 v1_2) H := by rw [hHe]; exact hP
  rw [← hHe]
  unfold F_X10_addDot at hF
  refine lv_aload_n hx hb dX10_addDot_0 rfl (lv_at hl 0 rfl) ?_
  refine va_get (D := (dC, dI)) (ci := 9) (v := .int v0_7) (C := RX10) (T := TX10) (N := 8) hx hb hta uw_X10 hown hK hP 0 rfl rfl 7 (by decide) (hta _ mA468) (fun _ h9 => h9) rfl dX10_addDot_1 ?_
  refine lv_iconst (v := 1) hx hb dX10_addDot_4 (by decide) ?_
  refine lv_icmp_ne (tgt := 17) hx hb dX10_addDot_5 (by decide) (fun c_1 => ?_) (fun c_1 => ?_)
  · have hF := it_f hF c_1
    refine lv_aload_n hx hb dX10_addDot_17 rfl (lv_at hl 0 rfl) ?_
    refine va_get (D := (dC, dI)) (ci := 9) (v := .int v0_7) (C := RX10) (T := TX10) (N := 8) hx hb hta uw_X10 hown hK hP 0 rfl rfl 7 (by decide) (hta _ mA468) (fun _ h9 => h9) rfl dX10_addDot_18 ?_
    refine lv_iconst (v := 2) hx hb dX10_addDot_21 (by decide) ?_
    refine lv_icmp_ne (tgt := 109) hx hb dX10_addDot_22 (by decide) (fun c_2 => ?_) (fun c_2 => ?_)
    · have hF := it_f hF c_2
      obtain rfl := Option.some.inj hF
      exact W.vret hx hb hr (fun t ht hW => ⟨⟨(), rfl, trivial, by rw [ht]; exact hP, va_K.moved hW.alike hK, hD⟩, hS.F ht⟩) hS.2.2 dX10_addDot_109
    · have hF := it_t hF c_2
      refine lv_aload_n hx hb dX10_addDot_25 rfl (lv_at hl 0 rfl) ?_
      refine va_get (D := (dC, dI)) (ci := 9) (v := .ref (a1 0)) (C := RX10) (T := TX10) (N := 8) hx hb hta uw_X10 hown hK hP 0 rfl rfl 2 (by decide) (hta _ mA61) (fun _ h9 => h9) rfl dX10_addDot_26 ?_
      refine lv_iconst (v := 4) hx hb dX10_addDot_29 (by decide) ?_
      obtain ⟨u_3, hu_3, hF⟩ := obd_some hF
      have hPc := hP.sub (ws' := (wd_X7_start cI a1 v1_3 v1_4 v1_5 v1_0)) [1, 2] rfl
      have hDc := hD.sub (ws' := (wd_X7_start cI a1 v1_3 v1_4 v1_5 v1_0)) [1, 2] rfl rfl
      refine q_callv (wc := (wd_X7_start cI a1 v1_3 v1_4 v1_5 v1_0)) (w1 := (wd_X7_start cI a1 u_3.1 u_3.2.1 v1_5 u_3.2.2)) (ws' := (wd_X10_addDot cI a0 a1 a2 a3 v0_3 v0_4 v0_5 v0_6 v0_7 u_3.1 u_3.2.1 v1_5 u_3.2.2 v1_1 v1_2)) hP hD hS hA [1, 2] [0, 3, 4] [0, 3, 4, 1, 2] rfl rfl rfl (by decide) rfl rfl (va_runV (As := [.int 4]) (rest := []) ⟨hx, hb, hml, hown, hta⟩ (c_X7_start l dC dI cI H.size a1 v1_3 v1_4 v1_5 v1_0 4 u_3 hu_3) (cwV 1 hta (ga_V mA489 mA490 mA491 mA60 mA492) rfl rfl rfl (by decide +kernel) ⟨Nat.le_of_ble_eq_true rfl, Nat.le_of_ble_eq_true rfl⟩) ⟨q_fb, va_recv hK hP (ci := 6) (q0 := 1) rfl rfl, q_ps hPc hK hDc⟩ rfl rfl hl.1 rfl (lv_room (Nat.le_of_ble_eq_true rfl)) dX10_addDot_30 ⟨Nat.zero_le _, Nat.zero_le _⟩) (fun H locs hP hD hS => ?_)
      refine lv_aload_n hx hb dX10_addDot_33 rfl (lv_at hl 0 rfl) ?_
      refine va_get (D := (dC, dI)) (ci := 9) (v := .ref (a1 0)) (C := RX10) (T := TX10) (N := 8) hx hb hta uw_X10 hown hK hP 0 rfl rfl 2 (by decide) (hta _ mA61) (fun _ h9 => h9) rfl dX10_addDot_34 ?_
      refine lv_iload_n hx hb dX10_addDot_37 rfl (lv_at hl 1 rfl) ?_
      refine lv_aload_n hx hb dX10_addDot_38 rfl (lv_at hl 0 rfl) ?_
      refine va_get (D := (dC, dI)) (ci := 9) (v := .int v0_4) (C := RX10) (T := TX10) (N := 8) hx hb hta uw_X10 hown hK hP 0 rfl rfl 4 (by decide) (hta _ mA465) (fun _ h9 => h9) rfl dX10_addDot_39 ?_
      refine lv_isub hx hb dX10_addDot_42 ?_
      refine lv_iload_n hx hb dX10_addDot_43 rfl (lv_at hl 2 rfl) ?_
      refine lv_aload_n hx hb dX10_addDot_44 rfl (lv_at hl 0 rfl) ?_
      refine va_get (D := (dC, dI)) (ci := 9) (v := .int v0_4) (C := RX10) (T := TX10) (N := 8) hx hb hta uw_X10 hown hK hP 0 rfl rfl 4 (by decide) (hta _ mA465) (fun _ h9 => h9) rfl dX10_addDot_45 ?_
      refine lv_isub hx hb dX10_addDot_48 ?_
      obtain ⟨u_4, hu_4, hF⟩ := obd_some hF
      have hPc := hP.sub (ws' := (wd_X7_addCorner cI a1 u_3.1 u_3.2.1 v1_5 v1_1 v1_2)) [1, 3, 4] rfl
      have hDc := hD.sub (ws' := (wd_X7_addCorner cI a1 u_3.1 u_3.2.1 v1_5 v1_1 v1_2)) [1, 3, 4] rfl rfl
      refine q_callv (wc := (wd_X7_addCorner cI a1 u_3.1 u_3.2.1 v1_5 v1_1 v1_2)) (w1 := (wd_X7_addCorner cI a1 u_3.1 u_4.1 v1_5 u_4.2.1 u_4.2.2)) (ws' := (wd_X10_addDot cI a0 a1 a2 a3 v0_3 v0_4 v0_5 v0_6 v0_7 u_3.1 u_4.1 v1_5 u_3.2.2 u_4.2.1 u_4.2.2)) hP hD hS hA [1, 3, 4] [0, 2] [0, 2, 1, 3, 4] rfl rfl rfl (by decide) rfl rfl (va_runV (As := [.int (p1 - v0_4), .int (p2 - v0_4)]) (rest := []) ⟨hx, hb, hml, hown, hta⟩ (c_X7_addCorner l dC dI cI H.size a1 u_3.1 u_3.2.1 v1_5 v1_1 v1_2 (p1 - v0_4) (p2 - v0_4) u_4 hu_4) (cwV 2 hta (ga_V mA494 mA495 mA496 mA60 mA497) rfl rfl rfl (by decide +kernel) ⟨Nat.le_of_ble_eq_true rfl, Nat.le_of_ble_eq_true rfl⟩) ⟨q_fb, va_recv hK hP (ci := 6) (q0 := 1) rfl rfl, q_ps hPc hK hDc⟩ rfl rfl hl.1 rfl (lv_room (Nat.le_of_ble_eq_true rfl)) dX10_addDot_49 ⟨Nat.zero_le _, Nat.zero_le _⟩) (fun H locs hP hD hS => ?_)
      refine lv_aload_n hx hb dX10_addDot_52 rfl (lv_at hl 0 rfl) ?_
      refine va_get (D := (dC, dI)) (ci := 9) (v := .ref (a1 0)) (C := RX10) (T := TX10) (N := 8) hx hb hta uw_X10 hown hK hP 0 rfl rfl 2 (by decide) (hta _ mA61) (fun _ h9 => h9) rfl dX10_addDot_53 ?_
      refine lv_iload_n hx hb dX10_addDot_56 rfl (lv_at hl 1 rfl) ?_
      refine lv_aload_n hx hb dX10_addDot_57 rfl (lv_at hl 0 rfl) ?_
      refine va_get (D := (dC, dI)) (ci := 9) (v := .int v0_4) (C := RX10) (T := TX10) (N := 8) hx hb hta uw_X10 hown hK hP 0 rfl rfl 4 (by decide) (hta _ mA465) (fun _ h9 => h9) rfl dX10_addDot_58 ?_
      refine lv_iadd hx hb dX10_addDot_61 ?_
      refine lv_iload_n hx hb dX10_addDot_62 rfl (lv_at hl 2 rfl) ?_
      refine lv_aload_n hx hb dX10_addDot_63 rfl (lv_at hl 0 rfl) ?_
      refine va_get (D := (dC, dI)) (ci := 9) (v := .int v0_4) (C := RX10) (T := TX10) (N := 8) hx hb hta uw_X10 hown hK hP 0 rfl rfl 4 (by decide) (hta _ mA465) (fun _ h9 => h9) rfl dX10_addDot_64 ?_
      refine lv_isub hx hb dX10_addDot_67 ?_
      obtain ⟨u_5, hu_5, hF⟩ := obd_some hF
      have hPc := hP.sub (ws' := (wd_X7_addCorner cI a1 u_3.1 u_4.1 v1_5 u_4.2.1 u_4.2.2)) [1, 3, 4] rfl
      have hDc := hD.sub (ws' := (wd_X7_addCorner cI a1 u_3.1 u_4.1 v1_5 u_4.2.1 u_4.2.2)) [1, 3, 4] rfl rfl
      refine q_callv (wc := (wd_X7_addCorner cI a1 u_3.1 u_4.1 v1_5 u_4.2.1 u_4.2.2)) (w1 := (wd_X7_addCorner cI a1 u_3.1 u_5.1 v1_5 u_5.2.1 u_5.2.2)) (ws' := (wd_X10_addDot cI a0 a1 a2 a3 v0_3 v0_4 v0_5 v0_6 v0_7 u_3.1 u_5.1 v1_5 u_3.2.2 u_5.2.1 u_5.2.2)) hP hD hS hA [1, 3, 4] [0, 2] [0, 2, 1, 3, 4] rfl rfl rfl (by decide) rfl rfl (va_runV (As := [.int (p1 + v0_4), .int (p2 - v0_4)]) (rest := []) ⟨hx, hb, hml, hown, hta⟩ (c_X7_addCorner l dC dI cI H.size a1 u_3.1 u_4.1 v1_5 u_4.2.1 u_4.2.2 (p1 + v0_4) (p2 - v0_4) u_5 hu_5) (cwV 2 hta (ga_V mA494 mA495 mA496 mA60 mA497) rfl rfl rfl (by decide +kernel) ⟨Nat.le_of_ble_eq_true rfl, Nat.le_of_ble_eq_true rfl⟩) ⟨q_fb, va_recv hK hP (ci := 6) (q0 := 1) rfl rfl, q_ps hPc hK hDc⟩ rfl rfl hl.1 rfl (lv_room (Nat.le_of_ble_eq_true rfl)) dX10_addDot_68 ⟨Nat.zero_le _, Nat.zero_le _⟩) (fun H locs hP hD hS => ?_)
      refine lv_aload_n hx hb dX10_addDot_71 rfl (lv_at hl 0 rfl) ?_
      refine va_get (D := (dC, dI)) (ci := 9) (v := .ref (a1 0)) (C := RX10) (T := TX10) (N := 8) hx hb hta uw_X10 hown hK hP 0 rfl rfl 2 (by decide) (hta _ mA61) (fun _ h9 => h9) rfl dX10_addDot_72 ?_
      refine lv_iload_n hx hb dX10_addDot_75 rfl (lv_at hl 1 rfl) ?_
      refine lv_aload_n hx hb dX10_addDot_76 rfl (lv_at hl 0 rfl) ?_
      refine va_get (D := (dC, dI)) (ci := 9) (v := .int v0_4) (C := RX10) (T := TX10) (N := 8) hx hb hta uw_X10 hown hK hP 0 rfl rfl 4 (by decide) (hta _ mA465) (fun _ h9 => h9) rfl dX10_addDot_77 ?_
      refine lv_iadd hx hb dX10_addDot_80 ?_
      refine lv_iload_n hx hb dX10_addDot_81 rfl (lv_at hl 2 rfl) ?_
      refine lv_aload_n hx hb dX10_addDot_82 rfl (lv_at hl 0 rfl) ?_
      refine va_get (D := (dC, dI)) (ci := 9) (v := .int v0_4) (C := RX10) (T := TX10) (N := 8) hx hb hta uw_X10 hown hK hP 0 rfl rfl 4 (by decide) (hta _ mA465) (fun _ h9 => h9) rfl dX10_addDot_83 ?_
      refine lv_iadd hx hb dX10_addDot_86 ?_
      obtain ⟨u_6, hu_6, hF⟩ := obd_some hF
      have hPc := hP.sub (ws' := (wd_X7_addCorner cI a1 u_3.1 u_5.1 v1_5 u_5.2.1 u_5.2.2)) [1, 3, 4] rfl
      have hDc := hD.sub (ws' := (wd_X7_addCorner cI a1 u_3.1 u_5.1 v1_5 u_5.2.1 u_5.2.2)) [1, 3, 4] rfl rfl
      refine q_callv (wc := (wd_X7_addCorner cI a1 u_3.1 u_5.1 v1_5 u_5.2.1 u_5.2.2)) (w1 := (wd_X7_addCorner cI a1 u_3.1 u_6.1 v1_5 u_6.2.1 u_6.2.2)) (ws' := (wd_X10_addDot cI a0 a1 a2 a3 v0_3 v0_4 v0_5 v0_6 v0_7 u_3.1 u_6.1 v1_5 u_3.2.2 u_6.2.1 u_6.2.2)) hP hD hS hA [1, 3, 4] [0, 2] [0, 2, 1, 3, 4] rfl rfl rfl (by decide) rfl rfl (va_runV (As := [.int (p1 + v0_4), .int (p2 + v0_4)]) (rest := []) ⟨hx, hb, hml, hown, hta⟩ (c_X7_addCorner l dC dI cI H.size a1 u_3.1 u_5.1 v1_5 u_5.2.1 u_5.2.2 (p1 + v0_4) (p2 + v0_4) u_6 hu_6) (cwV 2 hta (ga_V mA494 mA495 mA496 mA60 mA497) rfl rfl rfl (by decide +kernel) ⟨Nat.le_of_ble_eq_true rfl, Nat.le_of_ble_eq_true rfl⟩) ⟨q_fb, va_recv hK hP (ci := 6) (q0 := 1) rfl rfl, q_ps hPc hK hDc⟩ rfl rfl hl.1 rfl (lv_room (Nat.le_of_ble_eq_true rfl)) dX10_addDot_87 ⟨Nat.zero_le _, Nat.zero_le _⟩) (fun H locs hP hD hS => ?_)
      refine lv_aload_n hx hb dX10_addDot_90 rfl (lv_at hl 0 rfl) ?_
      refine va_get (D := (dC, dI)) (ci := 9) (v := .ref (a1 0)) (C := RX10) (T := TX10) (N := 8) hx hb hta uw_X10 hown hK hP 0 rfl rfl 2 (by decide) (hta _ mA61) (fun _ h9 => h9) rfl dX10_addDot_91 ?_
      refine lv_iload_n hx hb dX10_addDot_94 rfl (lv_at hl 1 rfl) ?_
      refine lv_aload_n hx hb dX10_addDot_95 rfl (lv_at hl 0 rfl) ?_
      refine va_get (D := (dC, dI)) (ci := 9) (v := .int v0_4) (C := RX10) (T := TX10) (N := 8) hx hb hta uw_X10 hown hK hP 0 rfl rfl 4 (by decide) (hta _ mA465) (fun _ h9 => h9) rfl dX10_addDot_96 ?_
      refine lv_isub hx hb dX10_addDot_99 ?_
      refine lv_iload_n hx hb dX10_addDot_100 rfl (lv_at hl 2 rfl) ?_
      refine lv_aload_n hx hb dX10_addDot_101 rfl (lv_at hl 0 rfl) ?_
      refine va_get (D := (dC, dI)) (ci := 9) (v := .int v0_4) (C := RX10) (T := TX10) (N := 8) hx hb hta uw_X10 hown hK hP 0 rfl rfl 4 (by decide) (hta _ mA465) (fun _ h9 => h9) rfl dX10_addDot_102 ?_
      refine lv_iadd hx hb dX10_addDot_105 ?_
      obtain ⟨u_7, hu_7, hF⟩ := obd_some hF
      have hPc := hP.sub (ws' := (wd_X7_addCorner cI a1 u_3.1 u_6.1 v1_5 u_6.2.1 u_6.2.2)) [1, 3, 4] rfl
      have hDc := hD.sub (ws' := (wd_X7_addCorner cI a1 u_3.1 u_6.1 v1_5 u_6.2.1 u_6.2.2)) [1, 3, 4] rfl rfl
      refine q_callv (wc := (wd_X7_addCorner cI a1 u_3.1 u_6.1 v1_5 u_6.2.1 u_6.2.2)) (w1 := (wd_X7_addCorner cI a1 u_3.1 u_7.1 v1_5 u_7.2.1 u_7.2.2)) (ws' := (wd_X10_addDot cI a0 a1 a2 a3 v0_3 v0_4 v0_5 v0_6 v0_7 u_3.1 u_7.1 v1_5 u_3.2.2 u_7.2.1 u_7.2.2)) hP hD hS hA [1, 3, 4] [0, 2] [0, 2, 1, 3, 4] rfl rfl rfl (by decide) rfl rfl (va_runV (As := [.int (p1 - v0_4), .int (p2 + v0_4)]) (rest := []) ⟨hx, hb, hml, hown, hta⟩ (c_X7_addCorner l dC dI cI H.size a1 u_3.1 u_6.1 v1_5 u_6.2.1 u_6.2.2 (p1 - v0_4) (p2 + v0_4) u_7 hu_7) (cwV 2 hta (ga_V mA494 mA495 mA496 mA60 mA497) rfl rfl rfl (by decide +kernel) ⟨Nat.le_of_ble_eq_true rfl, Nat.le_of_ble_eq_true rfl⟩) ⟨q_fb, va_recv hK hP (ci := 6) (q0 := 1) rfl rfl, q_ps hPc hK hDc⟩ rfl rfl hl.1 rfl (lv_room (Nat.le_of_ble_eq_true rfl)) dX10_addDot_106 ⟨Nat.zero_le _, Nat.zero_le _⟩) (fun H locs hP hD hS => ?_)
      obtain rfl := Option.some.inj hF
      exact W.vret hx hb hr (fun t ht hW => ⟨⟨(), rfl, trivial, by rw [ht]; exact hP, va_K.moved hW.alike hK, hD⟩, hS.F ht⟩) hS.2.2 dX10_addDot_109
  · have hF := it_t hF c_1
    refine lv_aload_n hx hb dX10_addDot_8 rfl (lv_at hl 0 rfl) ?_
    refine lv_iload_n hx hb dX10_addDot_9 rfl (lv_at hl 1 rfl) ?_
    refine lv_iload_n hx hb dX10_addDot_10 rfl (lv_at hl 2 rfl) ?_
    obtain ⟨u_8, hu_8, hF⟩ := obd_some hF
    have hPc := hP.sub (ws' := (wd_X10_addDisc cI a0 a1 a2 a3 v0_3 v0_4 v0_5 v0_6 v0_7 v1_3 v1_4 v1_5 v1_0 v1_1 v1_2)) [0, 1, 2, 3, 4] rfl
    have hDc := hD.sub (ws' := (wd_X10_addDisc cI a0 a1 a2 a3 v0_3 v0_4 v0_5 v0_6 v0_7 v1_3 v1_4 v1_5 v1_0 v1_1 v1_2)) [0, 1, 2, 3, 4] rfl rfl
    refine q_callv (wc := (wd_X10_addDisc cI a0 a1 a2 a3 v0_3 v0_4 v0_5 v0_6 v0_7 v1_3 v1_4 v1_5 v1_0 v1_1 v1_2)) (w1 := (wd_X10_addDisc cI a0 a1 a2 a3 v0_3 v0_4 v0_5 v0_6 v0_7 u_8.1 u_8.2.1 v1_5 u_8.2.2.1 u_8.2.2.2.1 u_8.2.2.2.2)) (ws' := (wd_X10_addDot cI a0 a1 a2 a3 v0_3 v0_4 v0_5 v0_6 v0_7 u_8.1 u_8.2.1 v1_5 u_8.2.2.1 u_8.2.2.2.1 u_8.2.2.2.2)) hP hD hS hA [0, 1, 2, 3, 4] [] [0, 1, 2, 3, 4] rfl rfl rfl (by decide) rfl rfl (va_runV (As := [.int p1, .int p2]) (rest := []) ⟨hx, hb, hml, hown, hta⟩ (c_X10_addDisc l dC dI cI H.size a0 a1 a2 a3 v0_3 v0_4 v0_5 v0_6 v0_7 v1_3 v1_4 v1_5 v1_0 v1_1 v1_2 p1 p2 u_8 hu_8) (cwV 2 hta (ga_V mA485 mA486 mA487 mA23 mA488) rfl rfl rfl (by decide +kernel) ⟨Nat.le_of_ble_eq_true rfl, Nat.le_of_ble_eq_true rfl⟩) ⟨q_fb, va_recv hK hP (ci := 9) (q0 := 0) rfl rfl, q_ps hPc hK hDc⟩ rfl rfl hl.1 rfl (lv_room (Nat.le_of_ble_eq_true rfl)) dX10_addDot_11 ⟨Nat.zero_le _, Nat.zero_le _⟩) (fun H locs hP hD hS => ?_)
    refine lv_goto (tgt := 109) hx hb dX10_addDot_14 (by decide) ?_
    obtain rfl := Option.some.inj hF
    exact W.vret hx hb hr (fun t ht hW => ⟨⟨(), rfl, trivial, by rw [ht]; exact hP, va_K.moved hW.alike hK, hD⟩, hS.F ht⟩) hS.2.2 dX10_addDot_109
