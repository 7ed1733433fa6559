-- StrokeOutliner.close()I
def F_X11_close_j28 (n : Nat) (v2_0 : Nat → Int32) (v4_1 : Int32) (v4_0 : Nat → Int32) (v5_3 : Int32) (v8_10 : Int32) (v8_0 : Nat → Int32) (v8_1 : Nat → Int32) (v8_2 : Nat → Int32) (v8_3 : Nat → Int32) (v8_4 : Nat → Int32) (v8_5 : Nat → Int32) (v8_6 : Nat → Int32) (v8_7 : Nat → Int32) (v8_8 : Nat → Int32) (v8_9 : Nat → Int32) (x1 : Int32) (t0 : Int32) : Option (Sum (Int32 × (Nat → Int32) × Int32 × (Nat → Int32) × Int32 × Int32 × (Nat → Int32) × (Nat → Int32) × (Nat → Int32) × (Nat → Int32) × (Nat → Int32) × (Nat → Int32) × (Nat → Int32) × (Nat → Int32) × (Nat → Int32) × (Nat → Int32)) (Nat × (Nat → Int32) × Int32 × (Nat → Int32) × Int32 × Int32 × (Nat → Int32) × (Nat → Int32) × (Nat → Int32) × (Nat → Int32) × (Nat → Int32) × (Nat → Int32) × (Nat → Int32) × (Nat → Int32) × (Nat → Int32) × (Nat → Int32))) :=
  obx (F_X11_checkState t0) (fun x_2 => some (.inr (x_2, v2_0, v4_1, v4_0, v5_3, v8_10, v8_0, v8_1, v8_2, v8_3, v8_4, v8_5, v8_6, v8_7, v8_8, v8_9))) (fun u_1 => obd (F_X11_saveState v2_0 v4_1 v4_0) (fun u_3 => obd (F_X1_closeLast v2_0) (fun u_4 => obd (F_X10_measured n u_3.2.2 v8_10 v8_0 v8_1 v8_2 v8_3 v8_4 v8_5 v8_6 v8_7 v8_8 v8_9 u_4) (fun u_5 => obd (F_X9_countOf u_5.2.2.1 x1) (fun u_6 => some (.inl (u_6, u_4, u_3.1, u_3.2.1, u_5.1, u_5.2.1, u_5.2.2.1, u_5.2.2.2.1, u_5.2.2.2.2.1, u_5.2.2.2.2.2.1, u_5.2.2.2.2.2.2.1, u_5.2.2.2.2.2.2.2.1, u_5.2.2.2.2.2.2.2.2.1, u_5.2.2.2.2.2.2.2.2.2.1, u_5.2.2.2.2.2.2.2.2.2.2.1, u_5.2.2.2.2.2.2.2.2.2.2.2)))))))
def F_X11_close_j27 (n : Nat) (v2_0 : Nat → Int32) (v4_1 : Int32) (v4_0 : Nat → Int32) (v5_3 : Int32) (v8_10 : Int32) (v8_0 : Nat → Int32) (v8_1 : Nat → Int32) (v8_2 : Nat → Int32) (v8_3 : Nat → Int32) (v8_4 : Nat → Int32) (v8_5 : Nat → Int32) (v8_6 : Nat → Int32) (v8_7 : Nat → Int32) (v8_8 : Nat → Int32) (v8_9 : Nat → Int32) (x1 : Int32) : Option (Sum (Int32 × (Nat → Int32) × Int32 × (Nat → Int32) × Int32 × Int32 × (Nat → Int32) × (Nat → Int32) × (Nat → Int32) × (Nat → Int32) × (Nat → Int32) × (Nat → Int32) × (Nat → Int32) × (Nat → Int32) × (Nat → Int32) × (Nat → Int32)) (Nat × (Nat → Int32) × Int32 × (Nat → Int32) × Int32 × Int32 × (Nat → Int32) × (Nat → Int32) × (Nat → Int32) × (Nat → Int32) × (Nat → Int32) × (Nat → Int32) × (Nat → Int32) × (Nat → Int32) × (Nat → Int32) × (Nat → Int32))) :=
  F_X11_close_j28 n v2_0 v4_1 v4_0 v5_3 v8_10 v8_0 v8_1 v8_2 v8_3 v8_4 v8_5 v8_6 v8_7 v8_8 v8_9 x1 0
def F_X11_close (n : Nat) (v2_0 : Nat → Int32) (v4_1 : Int32) (v4_0 : Nat → Int32) (v5_3 : Int32) (v8_10 : Int32) (v8_0 : Nat → Int32) (v8_1 : Nat → Int32) (v8_2 : Nat → Int32) (v8_3 : Nat → Int32) (v8_4 : Nat → Int32) (v8_5 : Nat → Int32) (v8_6 : Nat → Int32) (v8_7 : Nat → Int32) (v8_8 : Nat → Int32) (v8_9 : Nat → Int32) : Option (Sum (Int32 × (Nat → Int32) × Int32 × (Nat → Int32) × Int32 × Int32 × (Nat → Int32) × (Nat → Int32) × (Nat → Int32) × (Nat → Int32) × (Nat → Int32) × (Nat → Int32) × (Nat → Int32) × (Nat → Int32) × (Nat → Int32) × (Nat → Int32)) (Nat × (Nat → Int32) × Int32 × (Nat → Int32) × Int32 × Int32 × (Nat → Int32) × (Nat → Int32) × (Nat → Int32) × (Nat → Int32) × (Nat → Int32) × (Nat → Int32) × (Nat → Int32) × (Nat → Int32) × (Nat → Int32) × (Nat → Int32))) :=
  obd (F_X1_lastSubpath v2_0) (fun u_7 => if u_7 < 0 then F_X11_close_j27 n v2_0 v4_1 v4_0 v5_3 v8_10 v8_0 v8_1 v8_2 v8_3 v8_4 v8_5 v8_6 v8_7 v8_8 v8_9 u_7 else obd (F_X1_isClosed v2_0 u_7) (fun u_9 => if u_9 = 0 then F_X11_close_j28 n v2_0 v4_1 v4_0 v5_3 v8_10 v8_0 v8_1 v8_2 v8_3 v8_4 v8_5 v8_6 v8_7 v8_8 v8_9 u_7 1 else F_X11_close_j27 n v2_0 v4_1 v4_0 v5_3 v8_10 v8_0 v8_1 v8_2 v8_3 v8_4 v8_5 v8_6 v8_7 v8_8 v8_9 u_7))
abbrev wd_X11_close (cI : ClassId) (a0 : Nat → Nat) (a1 : Nat → Nat) (a2 : Nat → Nat) (a3 : Nat → Nat) (a4 : Nat → Nat) (a5 : Nat → Nat) (a6 : Nat → Nat) (a7 : Nat → Nat) (a8 : Nat → Nat) (a9 : Nat → Nat) (a10 : Nat → Nat) (v2_0 : Nat → Int32) (v4_1 : Int32) (v4_0 : Nat → Int32) (v5_3 : Int32) (v5_4 : Int32) (v5_5 : Int32) (v5_6 : Int32) (v5_7 : Int32) (v8_10 : Int32) (v8_0 : Nat → Int32) (v8_1 : Nat → Int32) (v8_2 : Nat → Int32) (v8_3 : Nat → Int32) (v8_4 : Nat → Int32) (v8_5 : Nat → Int32) (v8_6 : Nat → Int32) (v8_7 : Nat → Int32) (v8_8 : Nat → Int32) (v8_9 : Nat → Int32) : va_W := [(a0 0, .inr (10, [.ref (a2 0), .ref (a1 0), .ref (a4 0), .ref (a9 0), .ref (a10 0), .ref (a5 0), .ref (a3 0)])), (a2 0, .inr (1, [.ref (a2 1)])), (a2 1, .inl (cI, 86, .inl v2_0)), (a4 0, .inr (3, [.ref (a4 1), .int v4_1])), (a4 1, .inl (cI, 344, .inl v4_0)), (a5 0, .inr (9, [.ref (a8 0), .ref (a7 0), .ref (a6 0), .int v5_3, .int v5_4, .int v5_5, .int v5_6, .int v5_7])), (a8 0, .inr (8, [.ref (a8 1), .ref (a8 2), .ref (a8 3), .ref (a8 4), .ref (a8 5), .ref (a8 6), .ref (a8 7), .ref (a8 8), .ref (a8 9), .ref (a8 10), .int v8_10])), (a8 1, .inl (cI, 5, .inl v8_0)), (a8 2, .inl (cI, 32, .inl v8_1)), (a8 3, .inl (cI, 32, .inl v8_2)), (a8 4, .inl (cI, 32, .inl v8_3)), (a8 5, .inl (cI, 32, .inl v8_4)), (a8 6, .inl (cI, 32, .inl v8_5)), (a8 7, .inl (cI, 32, .inl v8_6)), (a8 8, .inl (cI, 32, .inl v8_7)), (a8 9, .inl (cI, 32, .inl v8_8)), (a8 10, .inl (cI, 32, .inl v8_9))]
abbrev wz_X11_close : List Cond := .code yX11_close cX11_close 2 (some .int) :: wALL
abbrev rm_X11_close : Room := { frames := 4, cells := 0, slots := 0, locals := 108 }
abbrev Q_X11_close (dC : Nat → ClassId) (dI : Nat → Nat → Nat) (cI : ClassId) (a0 : Nat → Nat) (a1 : Nat → Nat) (a2 : Nat → Nat) (a3 : Nat → Nat) (a4 : Nat → Nat) (a5 : Nat → Nat) (a6 : Nat → Nat) (a7 : Nat → Nat) (a8 : Nat → Nat) (a9 : Nat → Nat) (a10 : Nat → Nat) (v5_4 : Int32) (v5_5 : Int32) (v5_6 : Int32) (v5_7 : Int32) (u : (Int32 × (Nat → Int32) × Int32 × (Nat → Int32) × Int32 × Int32 × (Nat → Int32) × (Nat → Int32) × (Nat → Int32) × (Nat → Int32) × (Nat → Int32) × (Nat → Int32) × (Nat → Int32) × (Nat → Int32) × (Nat → Int32) × (Nat → Int32))) (A : Nat → Prop) : Array Value → State → Outcome → State → Prop := va_Qi (fun (r : Int32) (_ : Unit) => r = u.1) (fun _ => q_at dC dI cI A (wd_X11_close cI a0 a1 a2 a3 a4 a5 a6 a7 a8 a9 a10 u.2.1 u.2.2.1 u.2.2.2.1 u.2.2.2.2.1 v5_4 v5_5 v5_6 v5_7 u.2.2.2.2.2.1 u.2.2.2.2.2.2.1 u.2.2.2.2.2.2.2.1 u.2.2.2.2.2.2.2.2.1 u.2.2.2.2.2.2.2.2.2.1 u.2.2.2.2.2.2.2.2.2.2.1 u.2.2.2.2.2.2.2.2.2.2.2.1 u.2.2.2.2.2.2.2.2.2.2.2.2.1 u.2.2.2.2.2.2.2.2.2.2.2.2.2.1 u.2.2.2.2.2.2.2.2.2.2.2.2.2.2.1 u.2.2.2.2.2.2.2.2.2.2.2.2.2.2.2)) A
set_option maxHeartbeats 4000000 in
set_option maxRecDepth 100000 in
theorem c_X11_close (l : Launch) (dC : Nat → ClassId) (dI : Nat → Nat → Nat) (cI : ClassId) (sz : Nat) (a0 : Nat → Nat) (a1 : Nat → Nat) (a2 : Nat → Nat) (a3 : Nat → Nat) (a4 : Nat → Nat) (a5 : Nat → Nat) (a6 : Nat → Nat) (a7 : Nat → Nat) (a8 : Nat → Nat) (a9 : Nat → Nat) (a10 : Nat → Nat) (v2_0 : Nat → Int32) (v4_1 : Int32) (v4_0 : Nat → Int32) (v5_3 : Int32) (v5_4 : Int32) (v5_5 : Int32) (v5_6 : Int32) (v5_7 : Int32) (v8_10 : Int32) (v8_0 : Nat → Int32) (v8_1 : Nat → Int32) (v8_2 : Nat → Int32) (v8_3 : Nat → Int32) (v8_4 : Nat → Int32) (v8_5 : Nat → Int32) (v8_6 : Nat → Int32) (v8_7 : Nat → Int32) (v8_8 : Nat → Int32) (v8_9 : Nat → Int32) (n : Nat) (u : (Int32 × (Nat → Int32) × Int32 × (Nat → Int32) × Int32 × Int32 × (Nat → Int32) × (Nat → Int32) × (Nat → Int32) × (Nat → Int32) × (Nat → Int32) × (Nat → Int32) × (Nat → Int32) × (Nat → Int32) × (Nat → Int32) × (Nat → Int32))) (hF : F_X11_close n v2_0 v4_1 v4_0 v5_3 v8_10 v8_0 v8_1 v8_2 v8_3 v8_4 v8_5 v8_6 v8_7 v8_8 v8_9 = some (.inl u)) : Met l yX11_close wz_X11_close rm_X11_close (va_Pc [.ref (a0 0)] (q_pre dC dI cI (wd_X11_close cI a0 a1 a2 a3 a4 a5 a6 a7 a8 a9 a10 v2_0 v4_1 v4_0 v5_3 v5_4 v5_5 v5_6 v5_7 v8_10 v8_0 v8_1 v8_2 v8_3 v8_4 v8_5 v8_6 v8_7 v8_8 v8_9) sz)) (Q_X11_close dC dI cI a0 a1 a2 a3 a4 a5 a6 a7 a8 a9 a10 v5_4 v5_5 v5_6 v5_7 u (va_A (wd_X11_close cI a0 a1 a2 a3 a4 a5 a6 a7 a8 a9 a10 v2_0 v4_1 v4_0 v5_3 v5_4 v5_5 v5_6 v5_7 v8_10 v8_0 v8_1 v8_2 v8_3 v8_4 v8_5 v8_6 v8_7 v8_8 v8_9) sz)) 0 0 (va_A (wd_X11_close cI a0 a1 a2 a3 a4 a5 a6 a7 a8 a9 a10 v2_0 v4_1 v4_0 v5_3 v5_4 v5_5 v5_6 v5_7 v8_10 v8_0 v8_1 v8_2 v8_3 v8_4 v8_5 v8_6 v8_7 v8_8 v8_9) sz) := by
  refine Met.ofW (cc := cX11_close) (maxL := 2) (ret := (some .int)) (by decide) rfl ?_
  intro p e s m args below meth c s₁ B hml hv
  obtain ⟨rfl, hsz, hP, hK, hD0⟩ := hv
  have hx := B.exec
  have hb := B.bytes
  have hr := B.returns
  have hts := atoms_spec (ws := wz_X11_close) B.pre
  have hta := wz_tl hts
  have hown : s.vm.findClass RX11 = some m.cls := findClass_of_methodNamed B.named
  have hlocks := B.notSynchronized
  subst hsz
  have hD := hD0.self (sz := s.heap.size)
  generalize hAe : va_A (wd_X11_close cI a0 a1 a2 a3 a4 a5 a6 a7 a8 a9 a10 v2_0 v4_1 v4_0 v5_3 v5_4 v5_5 v5_6 v5_7 v8_10 v8_0 v8_1 v8_2 v8_3 v8_4 v8_5 v8_6 v8_7 v8_8 v8_9) s.heap.size = A at hD ⊢
  have hA : ∀ q : Nat, s.heap.size ≤ q → A q := fun q h => by rw [← hAe]; exact Or.inr h
  have hS : va_S A s.heap s.heap [] := va_S.rf
  have hP : va_P (dC, dI) vwCl (wd_X11_close cI a0 a1 a2 a3 a4 a5 a6 a7 a8 a9 a10 v2_0 v4_1 v4_0 v5_3 v5_4 v5_5 v5_6 v5_7 v8_10 v8_0 v8_1 v8_2 v8_3 v8_4 v8_5 v8_6 v8_7 v8_8 v8_9) s.heap := hP
  have hl := lv_entry ([.ref (a0 0)]) (n := 2) (Nat.le_of_ble_eq_true rfl)
  rw [lg_entry_eq]
  generalize (lg_sl ([.ref (a0 0)]) ++ List.replicate (2 - (lg_sl ([.ref (a0 0)])).length) Slot.unset).toArray = ls at hl ⊢
  have hl : lv_has ls 2 [(0, .ref (a0 0))] := hl
  obtain ⟨H, hHe⟩ : ∃ H, H = s.heap := ⟨_, rfl⟩
  have hS : va_S A s.heap H [] := by rw [hHe]; exact hS
  have hP : va_P (dC, dI) vwCl (wd_X11_close cI a0 a1 a2 a3 a4 a5 a6 a7 a8 a9 a10 v2_0 v4_1 v4_0 v5_3 v5_4 v5_5 v5_6 v5_7 v8_10 v8_0 v8_1 v8_2 v8_3 v8_4 v8_5 v8_6 v8_7 v8_8 v8_9) H := by rw [hHe]; exact hP
  rw [← hHe]
  unfold F_X11_close at hF
  have j28 : ∀ (v2_0 : Nat → Int32) (v4_1 : Int32) (v4_0 : Nat → Int32) (v5_3 : Int32) (v8_10 : Int32) (v8_0 : Nat → Int32) (v8_1 : Nat → Int32) (v8_2 : Nat → Int32) (v8_3 : Nat → Int32) (v8_4 : Nat → Int32) (v8_5 : Nat → Int32) (v8_6 : Nat → Int32) (v8_7 : Nat → Int32) (v8_8 : Nat → Int32) (v8_9 : Nat → Int32) (x1 : Int32) (t0 : Int32), F_X11_close_j28 n v2_0 v4_1 v4_0 v5_3 v8_10 v8_0 v8_1 v8_2 v8_3 v8_4 v8_5 v8_6 v8_7 v8_8 v8_9 x1 t0 = some (.inl u) → ∀ (H : Heap) (locs : List Loc) (ls : Array Slot), va_P (dC, dI) vwCl (wd_X11_close cI a0 a1 a2 a3 a4 a5 a6 a7 a8 a9 a10 v2_0 v4_1 v4_0 v5_3 v5_4 v5_5 v5_6 v5_7 v8_10 v8_0 v8_1 v8_2 v8_3 v8_4 v8_5 v8_6 v8_7 v8_8 v8_9) H → va_D A (wd_X11_close cI a0 a1 a2 a3 a4 a5 a6 a7 a8 a9 a10 v2_0 v4_1 v4_0 v5_3 v5_4 v5_5 v5_6 v5_7 v8_10 v8_0 v8_1 v8_2 v8_3 v8_4 v8_5 v8_6 v8_7 v8_8 v8_9) → va_S A s.heap H locs → lv_has ls 2 [(0, .ref (a0 0)), (1, .int x1)] → W p l e (headSpec wz_X11_close rm_X11_close).room s m [.ref (a0 0)].toArray below meth c H locs 0 0 (MQ below (Q_X11_close dC dI cI a0 a1 a2 a3 a4 a5 a6 a7 a8 a9 a10 v5_4 v5_5 v5_6 v5_7 u A) [.ref (a0 0)].toArray s 0 0 A) (F0 m 28 ls [.int t0]) := by
    intro v2_0 v4_1 v4_0 v5_3 v8_10 v8_0 v8_1 v8_2 v8_3 v8_4 v8_5 v8_6 v8_7 v8_8 v8_9 x1 t0 hF H locs ls hP hD hS hl
    unfold F_X11_close_j28 at hF
    refine obx_elim hF (fun x_2 hx_2 hF => ?_) (fun u_1 hu_1 hF => ?_)
    · exact absurd hF no_rl
    have hPc := hP.sub (ws' := ([] : va_W)) [] rfl
    have hDc := hD.sub (ws' := ([] : va_W)) [] rfl rfl
    refine q_callv (wc := ([] : va_W)) (w1 := ([] : va_W)) (ws' := (wd_X11_close cI a0 a1 a2 a3 a4 a5 a6 a7 a8 a9 a10 v2_0 v4_1 v4_0 v5_3 v5_4 v5_5 v5_6 v5_7 v8_10 v8_0 v8_1 v8_2 v8_3 v8_4 v8_5 v8_6 v8_7 v8_8 v8_9)) hP hD hS hA [] [0, 1, 2, 3, 4, 5, 6, 7, 8, 9, 10, 11, 12, 13, 14, 15, 16] [0, 1, 2, 3, 4, 5, 6, 7, 8, 9, 10, 11, 12, 13, 14, 15, 16] rfl rfl rfl (by decide) rfl rfl (va_runS (As := [.int t0]) (rest := []) ⟨hx, hb, hml, hown, hta⟩ (c_X11_checkState l dC dI cI H.size t0 u_1 hu_1) (va_cwS 1 hta (ga_S mA120 mA121 mA108 mA122) rfl rfl rfl (by decide +kernel) ⟨Nat.le_of_ble_eq_true rfl, Nat.le_of_ble_eq_true rfl⟩) ⟨q_fb, q_ps hPc hK hDc⟩ rfl rfl hl.1 rfl (lv_room (Nat.le_of_ble_eq_true rfl)) dX11_close_28 ⟨Nat.zero_le _, Nat.zero_le _⟩) (fun H locs hP hD hS => ?_)
    refine lv_aload_n hx hb dX11_close_31 rfl (lv_at hl 0 rfl) ?_
    obtain ⟨u_3, hu_3, hF⟩ := obd_some hF
    have hPc := hP.sub (ws' := (wd_X11_saveState cI a0 a1 a2 a3 a4 a5 a6 a7 a8 a9 a10 v2_0 v4_1 v4_0 v5_3 v5_4 v5_5 v5_6 v5_7)) [0, 1, 2, 3, 4, 5] rfl
    have hDc := hD.sub (ws' := (wd_X11_saveState cI a0 a1 a2 a3 a4 a5 a6 a7 a8 a9 a10 v2_0 v4_1 v4_0 v5_3 v5_4 v5_5 v5_6 v5_7)) [0, 1, 2, 3, 4, 5] rfl rfl
    refine q_callv (wc := (wd_X11_saveState cI a0 a1 a2 a3 a4 a5 a6 a7 a8 a9 a10 v2_0 v4_1 v4_0 v5_3 v5_4 v5_5 v5_6 v5_7)) (w1 := (wd_X11_saveState cI a0 a1 a2 a3 a4 a5 a6 a7 a8 a9 a10 v2_0 u_3.1 u_3.2.1 u_3.2.2 v5_4 v5_5 v5_6 v5_7)) (ws' := (wd_X11_close cI a0 a1 a2 a3 a4 a5 a6 a7 a8 a9 a10 v2_0 u_3.1 u_3.2.1 u_3.2.2 v5_4 v5_5 v5_6 v5_7 v8_10 v8_0 v8_1 v8_2 v8_3 v8_4 v8_5 v8_6 v8_7 v8_8 v8_9)) hP hD hS hA [0, 1, 2, 3, 4, 5] [6, 7, 8, 9, 10, 11, 12, 13, 14, 15, 16] [11, 12, 13, 14, 15, 16, 0, 1, 2, 3, 4, 5, 6, 7, 8, 9, 10] rfl rfl rfl (by decide) rfl rfl (va_runV (As := []) (rest := []) ⟨hx, hb, hml, hown, hta⟩ (c_X11_saveState l dC dI cI H.size a0 a1 a2 a3 a4 a5 a6 a7 a8 a9 a10 v2_0 v4_1 v4_0 v5_3 v5_4 v5_5 v5_6 v5_7 u_3 hu_3) (cwV 0 hta (ga_V mA125 mA126 mA127 mA108 mA128) rfl rfl rfl (by decide +kernel) ⟨Nat.le_of_ble_eq_true rfl, Nat.le_of_ble_eq_true rfl⟩) ⟨q_fb, va_recv hK hP (ci := 10) (q0 := 0) rfl rfl, q_ps hPc hK hDc⟩ rfl rfl hl.1 rfl (lv_room (Nat.le_of_ble_eq_true rfl)) dX11_close_32 ⟨Nat.zero_le _, Nat.zero_le _⟩) (fun H locs hP hD hS => ?_)
    refine lv_aload_n hx hb dX11_close_35 rfl (lv_at hl 0 rfl) ?_
    refine va_get (D := (dC, dI)) (ci := 10) (v := .ref (a2 0)) (C := RX11) (T := TX11) (N := 7) hx hb hta uw_X11 hown hK hP 0 rfl rfl 0 (by decide) (hta _ mA7) (fun _ h9 => h9) rfl dX11_close_36 ?_
    obtain ⟨u_4, hu_4, hF⟩ := obd_some hF
    have hPc := hP.sub (ws' := (wd_X1_closeLast cI a2 v2_0)) [1, 2] rfl
    have hDc := hD.sub (ws' := (wd_X1_closeLast cI a2 v2_0)) [1, 2] rfl rfl
    refine q_callv (wc := (wd_X1_closeLast cI a2 v2_0)) (w1 := (wd_X1_closeLast cI a2 u_4)) (ws' := (wd_X11_close cI a0 a1 a2 a3 a4 a5 a6 a7 a8 a9 a10 u_4 u_3.1 u_3.2.1 u_3.2.2 v5_4 v5_5 v5_6 v5_7 v8_10 v8_0 v8_1 v8_2 v8_3 v8_4 v8_5 v8_6 v8_7 v8_8 v8_9)) hP hD hS hA [1, 2] [0, 3, 4, 5, 6, 7, 8, 9, 10, 11, 12, 13, 14, 15, 16] [0, 15, 16, 1, 2, 3, 4, 5, 6, 7, 8, 9, 10, 11, 12, 13, 14] rfl rfl rfl (by decide) rfl rfl (va_runV (As := []) (rest := []) ⟨hx, hb, hml, hown, hta⟩ (c_X1_closeLast l dC dI cI H.size a2 v2_0 u_4 hu_4) (cwV 0 hta (ga_V mA188 mA189 mA190 mA6 mA191) rfl rfl rfl (by decide +kernel) ⟨Nat.le_of_ble_eq_true rfl, Nat.le_of_ble_eq_true rfl⟩) ⟨q_fb, va_recv hK hP (ci := 1) (q0 := 1) rfl rfl, q_ps hPc hK hDc⟩ rfl rfl hl.1 rfl (lv_room (Nat.le_of_ble_eq_true rfl)) dX11_close_39 ⟨Nat.zero_le _, Nat.zero_le _⟩) (fun H locs hP hD hS => ?_)
    refine lv_aload_n hx hb dX11_close_42 rfl (lv_at hl 0 rfl) ?_
    refine va_get (D := (dC, dI)) (ci := 10) (v := .ref (a5 0)) (C := RX11) (T := TX11) (N := 7) hx hb hta uw_X11 hown hK hP 0 rfl rfl 5 (by decide) (hta _ mA24) (fun _ h9 => h9) rfl dX11_close_43 ?_
    refine lv_aload_n hx hb dX11_close_46 rfl (lv_at hl 0 rfl) ?_
    refine va_get (D := (dC, dI)) (ci := 10) (v := .ref (a2 0)) (C := RX11) (T := TX11) (N := 7) hx hb hta uw_X11 hown hK hP 0 rfl rfl 0 (by decide) (hta _ mA7) (fun _ h9 => h9) rfl dX11_close_47 ?_
    obtain ⟨u_5, hu_5, hF⟩ := obd_some hF
    have hPc := hP.sub (ws' := (wd_X10_measured cI a5 a6 a7 a8 a2 u_3.2.2 v5_4 v5_5 v5_6 v5_7 v8_10 v8_0 v8_1 v8_2 v8_3 v8_4 v8_5 v8_6 v8_7 v8_8 v8_9 u_4)) [5, 6, 7, 8, 9, 10, 11, 12, 13, 14, 15, 16, 1, 2] rfl
    have hDc := hD.sub (ws' := (wd_X10_measured cI a5 a6 a7 a8 a2 u_3.2.2 v5_4 v5_5 v5_6 v5_7 v8_10 v8_0 v8_1 v8_2 v8_3 v8_4 v8_5 v8_6 v8_7 v8_8 v8_9 u_4)) [5, 6, 7, 8, 9, 10, 11, 12, 13, 14, 15, 16, 1, 2] rfl rfl
    refine q_callr (wc := (wd_X10_measured cI a5 a6 a7 a8 a2 u_3.2.2 v5_4 v5_5 v5_6 v5_7 v8_10 v8_0 v8_1 v8_2 v8_3 v8_4 v8_5 v8_6 v8_7 v8_8 v8_9 u_4)) (w1 := (wd_X10_measured cI a5 a6 a7 a8 a2 u_5.1 v5_4 v5_5 v5_6 v5_7 u_5.2.1 u_5.2.2.1 u_5.2.2.2.1 u_5.2.2.2.2.1 u_5.2.2.2.2.2.1 u_5.2.2.2.2.2.2.1 u_5.2.2.2.2.2.2.2.1 u_5.2.2.2.2.2.2.2.2.1 u_5.2.2.2.2.2.2.2.2.2.1 u_5.2.2.2.2.2.2.2.2.2.2.1 u_5.2.2.2.2.2.2.2.2.2.2.2 u_4)) (ws' := (wd_X11_close cI a0 a1 a2 a3 a4 a5 a6 a7 a8 a9 a10 u_4 u_3.1 u_3.2.1 u_5.1 v5_4 v5_5 v5_6 v5_7 u_5.2.1 u_5.2.2.1 u_5.2.2.2.1 u_5.2.2.2.2.1 u_5.2.2.2.2.2.1 u_5.2.2.2.2.2.2.1 u_5.2.2.2.2.2.2.2.1 u_5.2.2.2.2.2.2.2.2.1 u_5.2.2.2.2.2.2.2.2.2.1 u_5.2.2.2.2.2.2.2.2.2.2.1 u_5.2.2.2.2.2.2.2.2.2.2.2)) hP hD hS hA [5, 6, 7, 8, 9, 10, 11, 12, 13, 14, 15, 16, 1, 2] [0, 3, 4] [0, 15, 16, 1, 2, 3, 4, 5, 6, 7, 8, 9, 10, 11, 12, 13, 14] rfl rfl rfl (by decide) rfl rfl (va_runV (As := [.ref (a2 0)]) (rest := []) ⟨hx, hb, hml, hown, hta⟩ (c_X10_measured l dC dI cI H.size a5 a6 a7 a8 a2 u_3.2.2 v5_4 v5_5 v5_6 v5_7 v8_10 v8_0 v8_1 v8_2 v8_3 v8_4 v8_5 v8_6 v8_7 v8_8 v8_9 u_4 n u_5 hu_5) (cwV 1 hta (ga_V mA192 mA193 mA194 mA23 mA195) rfl rfl rfl (by decide +kernel) ⟨Nat.le_of_ble_eq_true rfl, Nat.le_of_ble_eq_true rfl⟩) ⟨q_fb, va_recv hK hP (ci := 9) (q0 := 5) rfl rfl, q_ps hPc hK hDc⟩ rfl rfl hl.1 rfl (lv_room (Nat.le_of_ble_eq_true rfl)) dX11_close_50 ⟨Nat.zero_le _, Nat.zero_le _⟩) (fun H locs hP hD hS => ?_)
    refine lv_iload_n hx hb dX11_close_53 rfl (lv_at hl 1 rfl) ?_
    obtain ⟨u_6, hu_6, hF⟩ := obd_some hF
    have hPc := hP.sub (ws' := (wd_X9_countOf cI a8 u_5.2.1 u_5.2.2.1)) [6, 7] rfl
    have hDc := hD.sub (ws' := (wd_X9_countOf cI a8 u_5.2.1 u_5.2.2.1)) [6, 7] rfl rfl
    refine q_calli (wc := (wd_X9_countOf cI a8 u_5.2.1 u_5.2.2.1)) (w1 := (wd_X9_countOf cI a8 u_5.2.1 u_5.2.2.1)) (ws' := (wd_X11_close cI a0 a1 a2 a3 a4 a5 a6 a7 a8 a9 a10 u_4 u_3.1 u_3.2.1 u_5.1 v5_4 v5_5 v5_6 v5_7 u_5.2.1 u_5.2.2.1 u_5.2.2.2.1 u_5.2.2.2.2.1 u_5.2.2.2.2.2.1 u_5.2.2.2.2.2.2.1 u_5.2.2.2.2.2.2.2.1 u_5.2.2.2.2.2.2.2.2.1 u_5.2.2.2.2.2.2.2.2.2.1 u_5.2.2.2.2.2.2.2.2.2.2.1 u_5.2.2.2.2.2.2.2.2.2.2.2)) hP hD hS hA [6, 7] [0, 1, 2, 3, 4, 5, 8, 9, 10, 11, 12, 13, 14, 15, 16] [0, 1, 2, 3, 4, 5, 15, 16, 6, 7, 8, 9, 10, 11, 12, 13, 14] rfl rfl rfl (by decide) rfl rfl (va_runV (As := [.int x1]) (rest := []) ⟨hx, hb, hml, hown, hta⟩ (c_X9_countOf l dC dI cI H.size a8 u_5.2.1 u_5.2.2.1 x1 u_6 hu_6) (cwV 1 hta (ga_V mA228 mA229 mA230 mA52 mA231) rfl rfl rfl (by decide +kernel) ⟨Nat.le_of_ble_eq_true rfl, Nat.le_of_ble_eq_true rfl⟩) ⟨q_fb, va_recv hK hP (ci := 8) (q0 := 6) rfl rfl, q_ps hPc hK hDc⟩ rfl rfl hl.1 rfl (lv_room (Nat.le_of_ble_eq_true rfl)) dX11_close_54 ⟨Nat.zero_le _, Nat.zero_le _⟩) (fun H locs hP hD hS => ?_)
    obtain rfl := Sum.inl.inj (Option.some.inj hF)
    exact W.iret (v := u_6) hx hb hr (fun t ht hW => ⟨⟨u_6, (), rfl, rfl, by rw [ht]; exact hP, va_K.moved hW.alike hK, hD⟩, hS.F ht⟩) hS.2.2 dX11_close_57
  have j27 : ∀ (v2_0 : Nat → Int32) (v4_1 : Int32) (v4_0 : Nat → Int32) (v5_3 : Int32) (v8_10 : Int32) (v8_0 : Nat → Int32) (v8_1 : Nat → Int32) (v8_2 : Nat → Int32) (v8_3 : Nat → Int32) (v8_4 : Nat → Int32) (v8_5 : Nat → Int32) (v8_6 : Nat → Int32) (v8_7 : Nat → Int32) (v8_8 : Nat → Int32) (v8_9 : Nat → Int32) (x1 : Int32), F_X11_close_j27 n v2_0 v4_1 v4_0 v5_3 v8_10 v8_0 v8_1 v8_2 v8_3 v8_4 v8_5 v8_6 v8_7 v8_8 v8_9 x1 = some (.inl u) → ∀ (H : Heap) (locs : List Loc) (ls : Array Slot), va_P (dC, dI) vwCl (wd_X11_close cI a0 a1 a2 a3 a4 a5 a6 a7 a8 a9 a10 v2_0 v4_1 v4_0 v5_3 v5_4 v5_5 v5_6 v5_7 v8_10 v8_0 v8_1 v8_2 v8_3 v8_4 v8_5 v8_6 v8_7 v8_8 v8_9) H → va_D A (wd_X11_close cI a0 a1 a2 a3 a4 a5 a6 a7 a8 a9 a10 v2_0 v4_1 v4_0 v5_3 v5_4 v5_5 v5_6 v5_7 v8_10 v8_0 v8_1 v8_2 v8_3 v8_4 v8_5 v8_6 v8_7 v8_8 v8_9) → va_S A s.heap H locs → lv_has ls 2 [(0, .ref (a0 0)), (1, .int x1)] → W p l e (headSpec wz_X11_close rm_X11_close).room s m [.ref (a0 0)].toArray below meth c H locs 0 0 (MQ below (Q_X11_close dC dI cI a0 a1 a2 a3 a4 a5 a6 a7 a8 a9 a10 v5_4 v5_5 v5_6 v5_7 u A) [.ref (a0 0)].toArray s 0 0 A) (F0 m 27 ls []) := by
    intro v2_0 v4_1 v4_0 v5_3 v8_10 v8_0 v8_1 v8_2 v8_3 v8_4 v8_5 v8_6 v8_7 v8_8 v8_9 x1 hF H locs ls hP hD hS hl
    unfold F_X11_close_j27 at hF
    refine lv_iconst (v := 0) hx hb dX11_close_27 (by decide) ?_
    exact j28 v2_0 v4_1 v4_0 v5_3 v8_10 v8_0 v8_1 v8_2 v8_3 v8_4 v8_5 v8_6 v8_7 v8_8 v8_9 x1 0 hF _ _ _ hP hD hS (lv_sub hl [0, 1] rfl)
  refine lv_aload_n hx hb dX11_close_0 rfl (lv_at hl 0 rfl) ?_
  refine va_get (D := (dC, dI)) (ci := 10) (v := .ref (a2 0)) (C := RX11) (T := TX11) (N := 7) hx hb hta uw_X11 hown hK hP 0 rfl rfl 0 (by decide) (hta _ mA7) (fun _ h9 => h9) rfl dX11_close_1 ?_
  obtain ⟨u_7, hu_7, hF⟩ := obd_some hF
  have hPc := hP.sub (ws' := (wd_X1_lastSubpath cI a2 v2_0)) [1, 2] rfl
  have hDc := hD.sub (ws' := (wd_X1_lastSubpath cI a2 v2_0)) [1, 2] rfl rfl
  refine q_calli (wc := (wd_X1_lastSubpath cI a2 v2_0)) (w1 := (wd_X1_lastSubpath cI a2 v2_0)) (ws' := (wd_X11_close cI a0 a1 a2 a3 a4 a5 a6 a7 a8 a9 a10 v2_0 v4_1 v4_0 v5_3 v5_4 v5_5 v5_6 v5_7 v8_10 v8_0 v8_1 v8_2 v8_3 v8_4 v8_5 v8_6 v8_7 v8_8 v8_9)) hP hD hS hA [1, 2] [0, 3, 4, 5, 6, 7, 8, 9, 10, 11, 12, 13, 14, 15, 16] [0, 15, 16, 1, 2, 3, 4, 5, 6, 7, 8, 9, 10, 11, 12, 13, 14] rfl rfl rfl (by decide) rfl rfl (va_runV (As := []) (rest := []) ⟨hx, hb, hml, hown, hta⟩ (c_X1_lastSubpath l dC dI cI H.size a2 v2_0 u_7 hu_7) (cwV 0 hta (ga_V mA179 mA165 mA166 mA6 mA167) rfl rfl rfl (by decide +kernel) ⟨Nat.le_of_ble_eq_true rfl, Nat.le_of_ble_eq_true rfl⟩) ⟨q_fb, va_recv hK hP (ci := 1) (q0 := 1) rfl rfl, q_ps hPc hK hDc⟩ rfl rfl hl.1 rfl (lv_room (Nat.le_of_ble_eq_true rfl)) dX11_close_4 ⟨Nat.zero_le _, Nat.zero_le _⟩) (fun H locs hP hD hS => ?_)
  refine lv_istore_n (lv' := [(1, .int u_7), (0, .ref (a0 0))]) hx hb dX11_close_7 rfl hl (by decide) rfl (fun ls hl => ?_)
  refine lv_iload_n hx hb dX11_close_8 rfl (lv_at hl 0 rfl) ?_
  refine lv_if_lt (tgt := 27) hx hb dX11_close_9 (by decide) (fun c_8 => ?_) (fun c_8 => ?_)
  · have hF := it_t hF c_8
    exact j27 v2_0 v4_1 v4_0 v5_3 v8_10 v8_0 v8_1 v8_2 v8_3 v8_4 v8_5 v8_6 v8_7 v8_8 v8_9 u_7 hF _ _ _ hP hD hS (lv_sub hl [1, 0] rfl)
  · have hF := it_f hF c_8
    refine lv_aload_n hx hb dX11_close_12 rfl (lv_at hl 1 rfl) ?_
    refine va_get (D := (dC, dI)) (ci := 10) (v := .ref (a2 0)) (C := RX11) (T := TX11) (N := 7) hx hb hta uw_X11 hown hK hP 0 rfl rfl 0 (by decide) (hta _ mA7) (fun _ h9 => h9) rfl dX11_close_13 ?_
    refine lv_iload_n hx hb dX11_close_16 rfl (lv_at hl 0 rfl) ?_
    obtain ⟨u_9, hu_9, hF⟩ := obd_some hF
    have hPc := hP.sub (ws' := (wd_X1_isClosed cI a2 v2_0)) [1, 2] rfl
    have hDc := hD.sub (ws' := (wd_X1_isClosed cI a2 v2_0)) [1, 2] rfl rfl
    refine q_callz (wc := (wd_X1_isClosed cI a2 v2_0)) (w1 := (wd_X1_isClosed cI a2 v2_0)) (ws' := (wd_X11_close cI a0 a1 a2 a3 a4 a5 a6 a7 a8 a9 a10 v2_0 v4_1 v4_0 v5_3 v5_4 v5_5 v5_6 v5_7 v8_10 v8_0 v8_1 v8_2 v8_3 v8_4 v8_5 v8_6 v8_7 v8_8 v8_9)) hP hD hS hA [1, 2] [0, 3, 4, 5, 6, 7, 8, 9, 10, 11, 12, 13, 14, 15, 16] [0, 15, 16, 1, 2, 3, 4, 5, 6, 7, 8, 9, 10, 11, 12, 13, 14] rfl rfl rfl (by decide) rfl rfl (va_runV (As := [.int u_7]) (rest := []) ⟨hx, hb, hml, hown, hta⟩ (c_X1_isClosed l dC dI cI H.size a2 v2_0 u_7 u_9 hu_9) (cwV 1 hta (ga_V mA181 mA182 mA183 mA6 mA184) rfl rfl rfl (by decide +kernel) ⟨Nat.le_of_ble_eq_true rfl, Nat.le_of_ble_eq_true rfl⟩) ⟨q_fb, va_recv hK hP (ci := 1) (q0 := 1) rfl rfl, q_ps hPc hK hDc⟩ rfl rfl hl.1 rfl (lv_room (Nat.le_of_ble_eq_true rfl)) dX11_close_17 ⟨Nat.zero_le _, Nat.zero_le _⟩) (fun hzu_9 H locs hP hD hS => ?_)
    refine lv_if_ne (tgt := 27) hx hb dX11_close_20 (by decide) (fun c_10 => ?_) (fun c_10 => ?_)
    · have hF := it_f hF c_10
      exact j27 v2_0 v4_1 v4_0 v5_3 v8_10 v8_0 v8_1 v8_2 v8_3 v8_4 v8_5 v8_6 v8_7 v8_8 v8_9 u_7 hF _ _ _ hP hD hS (lv_sub hl [1, 0] rfl)
    · have hF := it_t hF c_10
      refine lv_iconst (v := 1) hx hb dX11_close_23 (by decide) ?_
      refine lv_goto (tgt := 28) hx hb dX11_close_24 (by decide) ?_
      exact j28 v2_0 v4_1 v4_0 v5_3 v8_10 v8_0 v8_1 v8_2 v8_3 v8_4 v8_5 v8_6 v8_7 v8_8 v8_9 u_7 1 hF _ _ _ hP hD hS (lv_sub hl [1, 0] rfl)
abbrev rmx_X11_close : Room := { frames := 7, cells := 1, slots := 6, locals := 108 }
abbrev XC_X11_close (dC : Nat → ClassId) (dI : Nat → Nat → Nat) (cI : ClassId) (a0 : Nat → Nat) (a1 : Nat → Nat) (a2 : Nat → Nat) (a3 : Nat → Nat) (a4 : Nat → Nat) (a5 : Nat → Nat) (a6 : Nat → Nat) (a7 : Nat → Nat) (a8 : Nat → Nat) (a9 : Nat → Nat) (a10 : Nat → Nat) (v5_4 : Int32) (v5_5 : Int32) (v5_6 : Int32) (v5_7 : Int32) (x : (Nat × (Nat → Int32) × Int32 × (Nat → Int32) × Int32 × Int32 × (Nat → Int32) × (Nat → Int32) × (Nat → Int32) × (Nat → Int32) × (Nat → Int32) × (Nat → Int32) × (Nat → Int32) × (Nat → Int32) × (Nat → Int32) × (Nat → Int32))) (A : Nat → Prop) : String → State → State → Prop := vx_X (fun (_ : Unit) => True) (fun E _ t => E = exN x.1 ∧ q_at dC dI cI A (wd_X11_close cI a0 a1 a2 a3 a4 a5 a6 a7 a8 a9 a10 x.2.1 x.2.2.1 x.2.2.2.1 x.2.2.2.2.1 v5_4 v5_5 v5_6 v5_7 x.2.2.2.2.2.1 x.2.2.2.2.2.2.1 x.2.2.2.2.2.2.2.1 x.2.2.2.2.2.2.2.2.1 x.2.2.2.2.2.2.2.2.2.1 x.2.2.2.2.2.2.2.2.2.2.1 x.2.2.2.2.2.2.2.2.2.2.2.1 x.2.2.2.2.2.2.2.2.2.2.2.2.1 x.2.2.2.2.2.2.2.2.2.2.2.2.2.1 x.2.2.2.2.2.2.2.2.2.2.2.2.2.2.1 x.2.2.2.2.2.2.2.2.2.2.2.2.2.2.2) t) A
set_option maxHeartbeats 4000000 in
set_option maxRecDepth 100000 in
theorem c_X11_close_x (l : Launch) (hlt : l.stackTraces = false) (S : Nat → Nat) (dC : Nat → ClassId) (dI : Nat → Nat → Nat) (cI : ClassId) (sz : Nat) (a0 : Nat → Nat) (a1 : Nat → Nat) (a2 : Nat → Nat) (a3 : Nat → Nat) (a4 : Nat → Nat) (a5 : Nat → Nat) (a6 : Nat → Nat) (a7 : Nat → Nat) (a8 : Nat → Nat) (a9 : Nat → Nat) (a10 : Nat → Nat) (v2_0 : Nat → Int32) (v4_1 : Int32) (v4_0 : Nat → Int32) (v5_3 : Int32) (v5_4 : Int32) (v5_5 : Int32) (v5_6 : Int32) (v5_7 : Int32) (v8_10 : Int32) (v8_0 : Nat → Int32) (v8_1 : Nat → Int32) (v8_2 : Nat → Int32) (v8_3 : Nat → Int32) (v8_4 : Nat → Int32) (v8_5 : Nat → Int32) (v8_6 : Nat → Int32) (v8_7 : Nat → Int32) (v8_8 : Nat → Int32) (v8_9 : Nat → Int32) (n : Nat) (x : (Nat × (Nat → Int32) × Int32 × (Nat → Int32) × Int32 × Int32 × (Nat → Int32) × (Nat → Int32) × (Nat → Int32) × (Nat → Int32) × (Nat → Int32) × (Nat → Int32) × (Nat → Int32) × (Nat → Int32) × (Nat → Int32) × (Nat → Int32))) (hF : F_X11_close n v2_0 v4_1 v4_0 v5_3 v8_10 v8_0 v8_1 v8_2 v8_3 v8_4 v8_5 v8_6 v8_7 v8_8 v8_9 = some (.inr x)) : vx_Met l yX11_close wz_X11_close rmx_X11_close (va_Pc [.ref (a0 0)] (qx_pre S dC dI cI (wd_X11_close cI a0 a1 a2 a3 a4 a5 a6 a7 a8 a9 a10 v2_0 v4_1 v4_0 v5_3 v5_4 v5_5 v5_6 v5_7 v8_10 v8_0 v8_1 v8_2 v8_3 v8_4 v8_5 v8_6 v8_7 v8_8 v8_9) sz)) (va_Qv (fun (_ : Unit) => False) (fun _ _ => True) (va_A (wd_X11_close cI a0 a1 a2 a3 a4 a5 a6 a7 a8 a9 a10 v2_0 v4_1 v4_0 v5_3 v5_4 v5_5 v5_6 v5_7 v8_10 v8_0 v8_1 v8_2 v8_3 v8_4 v8_5 v8_6 v8_7 v8_8 v8_9) sz)) (XC_X11_close dC dI cI a0 a1 a2 a3 a4 a5 a6 a7 a8 a9 a10 v5_4 v5_5 v5_6 v5_7 x (va_A (wd_X11_close cI a0 a1 a2 a3 a4 a5 a6 a7 a8 a9 a10 v2_0 v4_1 v4_0 v5_3 v5_4 v5_5 v5_6 v5_7 v8_10 v8_0 v8_1 v8_2 v8_3 v8_4 v8_5 v8_6 v8_7 v8_8 v8_9) sz)) 1 6 (va_A (wd_X11_close cI a0 a1 a2 a3 a4 a5 a6 a7 a8 a9 a10 v2_0 v4_1 v4_0 v5_3 v5_4 v5_5 v5_6 v5_7 v8_10 v8_0 v8_1 v8_2 v8_3 v8_4 v8_5 v8_6 v8_7 v8_8 v8_9) sz) := by
  refine vx_ofW (cc := cX11_close) (maxL := 2) (ret := (some .int)) (by decide) rfl ?_
  intro p e s m args below meth c s₁ B hml hxt hv
  obtain ⟨rfl, ⟨hsz, hP, hK, hD0⟩, hE⟩ := hv
  have hx := B.exec
  have hb := B.bytes
  have hr := B.returns
  have hts := atoms_spec (ws := wz_X11_close) B.pre
  have hta := wz_tl hts
  have hown : s.vm.findClass RX11 = some m.cls := findClass_of_methodNamed B.named
  have hlocks := B.notSynchronized
  subst hsz
  have hD := hD0.self (sz := s.heap.size)
  generalize hAe : va_A (wd_X11_close cI a0 a1 a2 a3 a4 a5 a6 a7 a8 a9 a10 v2_0 v4_1 v4_0 v5_3 v5_4 v5_5 v5_6 v5_7 v8_10 v8_0 v8_1 v8_2 v8_3 v8_4 v8_5 v8_6 v8_7 v8_8 v8_9) s.heap.size = A at hD hE ⊢
  have hA : ∀ q : Nat, s.heap.size ≤ q → A q := fun q h => by rw [← hAe]; exact Or.inr h
  have hS : va_S A s.heap s.heap [] := va_S.rf
  have hP : va_P (dC, dI) vwCl (wd_X11_close cI a0 a1 a2 a3 a4 a5 a6 a7 a8 a9 a10 v2_0 v4_1 v4_0 v5_3 v5_4 v5_5 v5_6 v5_7 v8_10 v8_0 v8_1 v8_2 v8_3 v8_4 v8_5 v8_6 v8_7 v8_8 v8_9) s.heap := hP
  have hl := lv_entry ([.ref (a0 0)]) (n := 2) (Nat.le_of_ble_eq_true rfl)
  rw [lg_entry_eq]
  generalize (lg_sl ([.ref (a0 0)]) ++ List.replicate (2 - (lg_sl ([.ref (a0 0)])).length) Slot.unset).toArray = ls at hl ⊢
  have hl : lv_has ls 2 [(0, .ref (a0 0))] := hl
  obtain ⟨H, hHe⟩ : ∃ H, H = s.heap := ⟨_, rfl⟩
  have hS : va_S A s.heap H [] := by rw [hHe]; exact hS
  have hP : va_P (dC, dI) vwCl (wd_X11_close cI a0 a1 a2 a3 a4 a5 a6 a7 a8 a9 a10 v2_0 v4_1 v4_0 v5_3 v5_4 v5_5 v5_6 v5_7 v8_10 v8_0 v8_1 v8_2 v8_3 v8_4 v8_5 v8_6 v8_7 v8_8 v8_9) H := by rw [hHe]; exact hP
  rw [← hHe]
  unfold F_X11_close at hF
  have j28 : ∀ (v2_0 : Nat → Int32) (v4_1 : Int32) (v4_0 : Nat → Int32) (v5_3 : Int32) (v8_10 : Int32) (v8_0 : Nat → Int32) (v8_1 : Nat → Int32) (v8_2 : Nat → Int32) (v8_3 : Nat → Int32) (v8_4 : Nat → Int32) (v8_5 : Nat → Int32) (v8_6 : Nat → Int32) (v8_7 : Nat → Int32) (v8_8 : Nat → Int32) (v8_9 : Nat → Int32) (x1 : Int32) (t0 : Int32), F_X11_close_j28 n v2_0 v4_1 v4_0 v5_3 v8_10 v8_0 v8_1 v8_2 v8_3 v8_4 v8_5 v8_6 v8_7 v8_8 v8_9 x1 t0 = some (.inr x) → ∀ (H : Heap) (locs : List Loc) (ls : Array Slot), va_P (dC, dI) vwCl (wd_X11_close cI a0 a1 a2 a3 a4 a5 a6 a7 a8 a9 a10 v2_0 v4_1 v4_0 v5_3 v5_4 v5_5 v5_6 v5_7 v8_10 v8_0 v8_1 v8_2 v8_3 v8_4 v8_5 v8_6 v8_7 v8_8 v8_9) H → va_D A (wd_X11_close cI a0 a1 a2 a3 a4 a5 a6 a7 a8 a9 a10 v2_0 v4_1 v4_0 v5_3 v5_4 v5_5 v5_6 v5_7 v8_10 v8_0 v8_1 v8_2 v8_3 v8_4 v8_5 v8_6 v8_7 v8_8 v8_9) → va_S A s.heap H locs → lv_has ls 2 [(0, .ref (a0 0)), (1, .int x1)] → W p l e (headSpec wz_X11_close rmx_X11_close).room s m [.ref (a0 0)].toArray below meth c H locs 0 0 (vx_MQ below (va_Qv (fun (_ : Unit) => False) (fun _ _ => True) A) (XC_X11_close dC dI cI a0 a1 a2 a3 a4 a5 a6 a7 a8 a9 a10 v5_4 v5_5 v5_6 v5_7 x A) [.ref (a0 0)].toArray s 1 6 A) (F0 m 28 ls [.int t0]) := by
    intro v2_0 v4_1 v4_0 v5_3 v8_10 v8_0 v8_1 v8_2 v8_3 v8_4 v8_5 v8_6 v8_7 v8_8 v8_9 x1 t0 hF H locs ls hP hD hS hl
    unfold F_X11_close_j28 at hF
    refine obx_elim hF (fun x_2 hx_2 hF => ?_) (fun u_1 hu_1 hF => ?_)
    · obtain rfl := Sum.inr.inj (Option.some.inj hF)
      have hPc := hP.sub (ws' := ([] : va_W)) [] rfl
      have hDc := hD.sub (ws' := ([] : va_W)) [] rfl rfl
      refine qx_thr (kd := x_2) hP hD hK hS hA hxt hlocks (vx_runS (As := [.int t0]) (rest := []) ⟨hx, hb, hml, hown, hta⟩ (c_X11_checkState_x l hlt S dC dI cI H.size t0 x_2 hx_2) (va_cwS 1 hta (ga_S mA120 mA121 mA108 mA122) rfl rfl rfl (by decide +kernel) ⟨Nat.le_of_ble_eq_true rfl, Nat.le_of_ble_eq_true rfl⟩) ⟨qx_fb, qx_ps hPc hK hDc hE hS (va_free (wc := ([] : va_W)) hD hS hA [] rfl)⟩ rfl rfl hl.1 rfl (lv_room (Nat.le_of_ble_eq_true rfl)) dX11_close_28 ⟨Nat.le_of_ble_eq_true rfl, Nat.le_of_ble_eq_true rfl⟩) (fun t hP hK hF9 => ⟨(), trivial, ⟨rfl, hP, hK, hD⟩, hF9⟩) (Nat.le_of_ble_eq_true rfl) (Nat.le_of_ble_eq_true rfl)
    have hPc := hP.sub (ws' := ([] : va_W)) [] rfl
    have hDc := hD.sub (ws' := ([] : va_W)) [] rfl rfl
    refine q_callv (wc := ([] : va_W)) (w1 := ([] : va_W)) (ws' := (wd_X11_close cI a0 a1 a2 a3 a4 a5 a6 a7 a8 a9 a10 v2_0 v4_1 v4_0 v5_3 v5_4 v5_5 v5_6 v5_7 v8_10 v8_0 v8_1 v8_2 v8_3 v8_4 v8_5 v8_6 v8_7 v8_8 v8_9)) hP hD hS hA [] [0, 1, 2, 3, 4, 5, 6, 7, 8, 9, 10, 11, 12, 13, 14, 15, 16] [0, 1, 2, 3, 4, 5, 6, 7, 8, 9, 10, 11, 12, 13, 14, 15, 16] rfl rfl rfl (by decide) rfl rfl (va_runS (As := [.int t0]) (rest := []) ⟨hx, hb, hml, hown, hta⟩ (c_X11_checkState l dC dI cI H.size t0 u_1 hu_1) (va_cwS 1 hta (ga_S mA120 mA121 mA108 mA122) rfl rfl rfl (by decide +kernel) ⟨Nat.le_of_ble_eq_true rfl, Nat.le_of_ble_eq_true rfl⟩) ⟨q_fb, q_ps hPc hK hDc⟩ rfl rfl hl.1 rfl (lv_room (Nat.le_of_ble_eq_true rfl)) dX11_close_28 ⟨Nat.zero_le _, Nat.zero_le _⟩) (fun H locs hP hD hS => ?_)
    refine lv_aload_n hx hb dX11_close_31 rfl (lv_at hl 0 rfl) ?_
    obtain ⟨u_3, hu_3, hF⟩ := obd_some hF
    have hPc := hP.sub (ws' := (wd_X11_saveState cI a0 a1 a2 a3 a4 a5 a6 a7 a8 a9 a10 v2_0 v4_1 v4_0 v5_3 v5_4 v5_5 v5_6 v5_7)) [0, 1, 2, 3, 4, 5] rfl
    have hDc := hD.sub (ws' := (wd_X11_saveState cI a0 a1 a2 a3 a4 a5 a6 a7 a8 a9 a10 v2_0 v4_1 v4_0 v5_3 v5_4 v5_5 v5_6 v5_7)) [0, 1, 2, 3, 4, 5] rfl rfl
    refine q_callv (wc := (wd_X11_saveState cI a0 a1 a2 a3 a4 a5 a6 a7 a8 a9 a10 v2_0 v4_1 v4_0 v5_3 v5_4 v5_5 v5_6 v5_7)) (w1 := (wd_X11_saveState cI a0 a1 a2 a3 a4 a5 a6 a7 a8 a9 a10 v2_0 u_3.1 u_3.2.1 u_3.2.2 v5_4 v5_5 v5_6 v5_7)) (ws' := (wd_X11_close cI a0 a1 a2 a3 a4 a5 a6 a7 a8 a9 a10 v2_0 u_3.1 u_3.2.1 u_3.2.2 v5_4 v5_5 v5_6 v5_7 v8_10 v8_0 v8_1 v8_2 v8_3 v8_4 v8_5 v8_6 v8_7 v8_8 v8_9)) hP hD hS hA [0, 1, 2, 3, 4, 5] [6, 7, 8, 9, 10, 11, 12, 13, 14, 15, 16] [11, 12, 13, 14, 15, 16, 0, 1, 2, 3, 4, 5, 6, 7, 8, 9, 10] rfl rfl rfl (by decide) rfl rfl (va_runV (As := []) (rest := []) ⟨hx, hb, hml, hown, hta⟩ (c_X11_saveState l dC dI cI H.size a0 a1 a2 a3 a4 a5 a6 a7 a8 a9 a10 v2_0 v4_1 v4_0 v5_3 v5_4 v5_5 v5_6 v5_7 u_3 hu_3) (cwV 0 hta (ga_V mA125 mA126 mA127 mA108 mA128) rfl rfl rfl (by decide +kernel) ⟨Nat.le_of_ble_eq_true rfl, Nat.le_of_ble_eq_true rfl⟩) ⟨q_fb, va_recv hK hP (ci := 10) (q0 := 0) rfl rfl, q_ps hPc hK hDc⟩ rfl rfl hl.1 rfl (lv_room (Nat.le_of_ble_eq_true rfl)) dX11_close_32 ⟨Nat.zero_le _, Nat.zero_le _⟩) (fun H locs hP hD hS => ?_)
    refine lv_aload_n hx hb dX11_close_35 rfl (lv_at hl 0 rfl) ?_
    refine va_get (D := (dC, dI)) (ci := 10) (v := .ref (a2 0)) (C := RX11) (T := TX11) (N := 7) hx hb hta uw_X11 hown hK hP 0 rfl rfl 0 (by decide) (hta _ mA7) (fun _ h9 => h9) rfl dX11_close_36 ?_
    obtain ⟨u_4, hu_4, hF⟩ := obd_some hF
    have hPc := hP.sub (ws' := (wd_X1_closeLast cI a2 v2_0)) [1, 2] rfl
    have hDc := hD.sub (ws' := (wd_X1_closeLast cI a2 v2_0)) [1, 2] rfl rfl
    refine q_callv (wc := (wd_X1_closeLast cI a2 v2_0)) (w1 := (wd_X1_closeLast cI a2 u_4)) (ws' := (wd_X11_close cI a0 a1 a2 a3 a4 a5 a6 a7 a8 a9 a10 u_4 u_3.1 u_3.2.1 u_3.2.2 v5_4 v5_5 v5_6 v5_7 v8_10 v8_0 v8_1 v8_2 v8_3 v8_4 v8_5 v8_6 v8_7 v8_8 v8_9)) hP hD hS hA [1, 2] [0, 3, 4, 5, 6, 7, 8, 9, 10, 11, 12, 13, 14, 15, 16] [0, 15, 16, 1, 2, 3, 4, 5, 6, 7, 8, 9, 10, 11, 12, 13, 14] rfl rfl rfl (by decide) rfl rfl (va_runV (As := []) (rest := []) ⟨hx, hb, hml, hown, hta⟩ (c_X1_closeLast l dC dI cI H.size a2 v2_0 u_4 hu_4) (cwV 0 hta (ga_V mA188 mA189 mA190 mA6 mA191) rfl rfl rfl (by decide +kernel) ⟨Nat.le_of_ble_eq_true rfl, Nat.le_of_ble_eq_true rfl⟩) ⟨q_fb, va_recv hK hP (ci := 1) (q0 := 1) rfl rfl, q_ps hPc hK hDc⟩ rfl rfl hl.1 rfl (lv_room (Nat.le_of_ble_eq_true rfl)) dX11_close_39 ⟨Nat.zero_le _, Nat.zero_le _⟩) (fun H locs hP hD hS => ?_)
    refine lv_aload_n hx hb dX11_close_42 rfl (lv_at hl 0 rfl) ?_
    refine va_get (D := (dC, dI)) (ci := 10) (v := .ref (a5 0)) (C := RX11) (T := TX11) (N := 7) hx hb hta uw_X11 hown hK hP 0 rfl rfl 5 (by decide) (hta _ mA24) (fun _ h9 => h9) rfl dX11_close_43 ?_
    refine lv_aload_n hx hb dX11_close_46 rfl (lv_at hl 0 rfl) ?_
    refine va_get (D := (dC, dI)) (ci := 10) (v := .ref (a2 0)) (C := RX11) (T := TX11) (N := 7) hx hb hta uw_X11 hown hK hP 0 rfl rfl 0 (by decide) (hta _ mA7) (fun _ h9 => h9) rfl dX11_close_47 ?_
    obtain ⟨u_5, hu_5, hF⟩ := obd_some hF
    have hPc := hP.sub (ws' := (wd_X10_measured cI a5 a6 a7 a8 a2 u_3.2.2 v5_4 v5_5 v5_6 v5_7 v8_10 v8_0 v8_1 v8_2 v8_3 v8_4 v8_5 v8_6 v8_7 v8_8 v8_9 u_4)) [5, 6, 7, 8, 9, 10, 11, 12, 13, 14, 15, 16, 1, 2] rfl
    have hDc := hD.sub (ws' := (wd_X10_measured cI a5 a6 a7 a8 a2 u_3.2.2 v5_4 v5_5 v5_6 v5_7 v8_10 v8_0 v8_1 v8_2 v8_3 v8_4 v8_5 v8_6 v8_7 v8_8 v8_9 u_4)) [5, 6, 7, 8, 9, 10, 11, 12, 13, 14, 15, 16, 1, 2] rfl rfl
    refine q_callr (wc := (wd_X10_measured cI a5 a6 a7 a8 a2 u_3.2.2 v5_4 v5_5 v5_6 v5_7 v8_10 v8_0 v8_1 v8_2 v8_3 v8_4 v8_5 v8_6 v8_7 v8_8 v8_9 u_4)) (w1 := (wd_X10_measured cI a5 a6 a7 a8 a2 u_5.1 v5_4 v5_5 v5_6 v5_7 u_5.2.1 u_5.2.2.1 u_5.2.2.2.1 u_5.2.2.2.2.1 u_5.2.2.2.2.2.1 u_5.2.2.2.2.2.2.1 u_5.2.2.2.2.2.2.2.1 u_5.2.2.2.2.2.2.2.2.1 u_5.2.2.2.2.2.2.2.2.2.1 u_5.2.2.2.2.2.2.2.2.2.2.1 u_5.2.2.2.2.2.2.2.2.2.2.2 u_4)) (ws' := (wd_X11_close cI a0 a1 a2 a3 a4 a5 a6 a7 a8 a9 a10 u_4 u_3.1 u_3.2.1 u_5.1 v5_4 v5_5 v5_6 v5_7 u_5.2.1 u_5.2.2.1 u_5.2.2.2.1 u_5.2.2.2.2.1 u_5.2.2.2.2.2.1 u_5.2.2.2.2.2.2.1 u_5.2.2.2.2.2.2.2.1 u_5.2.2.2.2.2.2.2.2.1 u_5.2.2.2.2.2.2.2.2.2.1 u_5.2.2.2.2.2.2.2.2.2.2.1 u_5.2.2.2.2.2.2.2.2.2.2.2)) hP hD hS hA [5, 6, 7, 8, 9, 10, 11, 12, 13, 14, 15, 16, 1, 2] [0, 3, 4] [0, 15, 16, 1, 2, 3, 4, 5, 6, 7, 8, 9, 10, 11, 12, 13, 14] rfl rfl rfl (by decide) rfl rfl (va_runV (As := [.ref (a2 0)]) (rest := []) ⟨hx, hb, hml, hown, hta⟩ (c_X10_measured l dC dI cI H.size a5 a6 a7 a8 a2 u_3.2.2 v5_4 v5_5 v5_6 v5_7 v8_10 v8_0 v8_1 v8_2 v8_3 v8_4 v8_5 v8_6 v8_7 v8_8 v8_9 u_4 n u_5 hu_5) (cwV 1 hta (ga_V mA192 mA193 mA194 mA23 mA195) rfl rfl rfl (by decide +kernel) ⟨Nat.le_of_ble_eq_true rfl, Nat.le_of_ble_eq_true rfl⟩) ⟨q_fb, va_recv hK hP (ci := 9) (q0 := 5) rfl rfl, q_ps hPc hK hDc⟩ rfl rfl hl.1 rfl (lv_room (Nat.le_of_ble_eq_true rfl)) dX11_close_50 ⟨Nat.zero_le _, Nat.zero_le _⟩) (fun H locs hP hD hS => ?_)
    refine lv_iload_n hx hb dX11_close_53 rfl (lv_at hl 1 rfl) ?_
    obtain ⟨u_6, hu_6, hF⟩ := obd_some hF
    have hPc := hP.sub (ws' := (wd_X9_countOf cI a8 u_5.2.1 u_5.2.2.1)) [6, 7] rfl
    have hDc := hD.sub (ws' := (wd_X9_countOf cI a8 u_5.2.1 u_5.2.2.1)) [6, 7] rfl rfl
    refine q_calli (wc := (wd_X9_countOf cI a8 u_5.2.1 u_5.2.2.1)) (w1 := (wd_X9_countOf cI a8 u_5.2.1 u_5.2.2.1)) (ws' := (wd_X11_close cI a0 a1 a2 a3 a4 a5 a6 a7 a8 a9 a10 u_4 u_3.1 u_3.2.1 u_5.1 v5_4 v5_5 v5_6 v5_7 u_5.2.1 u_5.2.2.1 u_5.2.2.2.1 u_5.2.2.2.2.1 u_5.2.2.2.2.2.1 u_5.2.2.2.2.2.2.1 u_5.2.2.2.2.2.2.2.1 u_5.2.2.2.2.2.2.2.2.1 u_5.2.2.2.2.2.2.2.2.2.1 u_5.2.2.2.2.2.2.2.2.2.2.1 u_5.2.2.2.2.2.2.2.2.2.2.2)) hP hD hS hA [6, 7] [0, 1, 2, 3, 4, 5, 8, 9, 10, 11, 12, 13, 14, 15, 16] [0, 1, 2, 3, 4, 5, 15, 16, 6, 7, 8, 9, 10, 11, 12, 13, 14] rfl rfl rfl (by decide) rfl rfl (va_runV (As := [.int x1]) (rest := []) ⟨hx, hb, hml, hown, hta⟩ (c_X9_countOf l dC dI cI H.size a8 u_5.2.1 u_5.2.2.1 x1 u_6 hu_6) (cwV 1 hta (ga_V mA228 mA229 mA230 mA52 mA231) rfl rfl rfl (by decide +kernel) ⟨Nat.le_of_ble_eq_true rfl, Nat.le_of_ble_eq_true rfl⟩) ⟨q_fb, va_recv hK hP (ci := 8) (q0 := 6) rfl rfl, q_ps hPc hK hDc⟩ rfl rfl hl.1 rfl (lv_room (Nat.le_of_ble_eq_true rfl)) dX11_close_54 ⟨Nat.zero_le _, Nat.zero_le _⟩) (fun H locs hP hD hS => ?_)
    exact absurd hF no_lr
  have j27 : ∀ (v2_0 : Nat → Int32) (v4_1 : Int32) (v4_0 : Nat → Int32) (v5_3 : Int32) (v8_10 : Int32) (v8_0 : Nat → Int32) (v8_1 : Nat → Int32) (v8_2 : Nat → Int32) (v8_3 : Nat → Int32) (v8_4 : Nat → Int32) (v8_5 : Nat → Int32) (v8_6 : Nat → Int32) (v8_7 : Nat → Int32) (v8_8 : Nat → Int32) (v8_9 : Nat → Int32) (x1 : Int32), F_X11_close_j27 n v2_0 v4_1 v4_0 v5_3 v8_10 v8_0 v8_1 v8_2 v8_3 v8_4 v8_5 v8_6 v8_7 v8_8 v8_9 x1 = some (.inr x) → ∀ (H : Heap) (locs : List Loc) (ls : Array Slot), va_P (dC, dI) vwCl (wd_X11_close cI a0 a1 a2 a3 a4 a5 a6 a7 a8 a9 a10 v2_0 v4_1 v4_0 v5_3 v5_4 v5_5 v5_6 v5_7 v8_10 v8_0 v8_1 v8_2 v8_3 v8_4 v8_5 v8_6 v8_7 v8_8 v8_9) H → va_D A (wd_X11_close cI a0 a1 a2 a3 a4 a5 a6 a7 a8 a9 a10 v2_0 v4_1 v4_0 v5_3 v5_4 v5_5 v5_6 v5_7 v8_10 v8_0 v8_1 v8_2 v8_3 v8_4 v8_5 v8_6 v8_7 v8_8 v8_9) → va_S A s.heap H locs → lv_has ls 2 [(0, .ref (a0 0)), (1, .int x1)] → W p l e (headSpec wz_X11_close rmx_X11_close).room s m [.ref (a0 0)].toArray below meth c H locs 0 0 (vx_MQ below (va_Qv (fun (_ : Unit) => False) (fun _ _ => True) A) (XC_X11_close dC dI cI a0 a1 a2 a3 a4 a5 a6 a7 a8 a9 a10 v5_4 v5_5 v5_6 v5_7 x A) [.ref (a0 0)].toArray s 1 6 A) (F0 m 27 ls []) := by
    intro v2_0 v4_1 v4_0 v5_3 v8_10 v8_0 v8_1 v8_2 v8_3 v8_4 v8_5 v8_6 v8_7 v8_8 v8_9 x1 hF H locs ls hP hD hS hl
    unfold F_X11_close_j27 at hF
    refine lv_iconst (v := 0) hx hb dX11_close_27 (by decide) ?_
    exact j28 v2_0 v4_1 v4_0 v5_3 v8_10 v8_0 v8_1 v8_2 v8_3 v8_4 v8_5 v8_6 v8_7 v8_8 v8_9 x1 0 hF _ _ _ hP hD hS (lv_sub hl [0, 1] rfl)
  refine lv_aload_n hx hb dX11_close_0 rfl (lv_at hl 0 rfl) ?_
  refine va_get (D := (dC, dI)) (ci := 10) (v := .ref (a2 0)) (C := RX11) (T := TX11) (N := 7) hx hb hta uw_X11 hown hK hP 0 rfl rfl 0 (by decide) (hta _ mA7) (fun _ h9 => h9) rfl dX11_close_1 ?_
  obtain ⟨u_7, hu_7, hF⟩ := obd_some hF
  have hPc := hP.sub (ws' := (wd_X1_lastSubpath cI a2 v2_0)) [1, 2] rfl
  have hDc := hD.sub (ws' := (wd_X1_lastSubpath cI a2 v2_0)) [1, 2] rfl rfl
  refine q_calli (wc := (wd_X1_lastSubpath cI a2 v2_0)) (w1 := (wd_X1_lastSubpath cI a2 v2_0)) (ws' := (wd_X11_close cI a0 a1 a2 a3 a4 a5 a6 a7 a8 a9 a10 v2_0 v4_1 v4_0 v5_3 v5_4 v5_5 v5_6 v5_7 v8_10 v8_0 v8_1 v8_2 v8_3 v8_4 v8_5 v8_6 v8_7 v8_8 v8_9)) hP hD hS hA [1, 2] [0, 3, 4, 5, 6, 7, 8, 9, 10, 11, 12, 13, 14, 15, 16] [0, 15, 16, 1, 2, 3, 4, 5, 6, 7, 8, 9, 10, 11, 12, 13, 14] rfl rfl rfl (by decide) rfl rfl (va_runV (As := []) (rest := []) ⟨hx, hb, hml, hown, hta⟩ (c_X1_lastSubpath l dC dI cI H.size a2 v2_0 u_7 hu_7) (cwV 0 hta (ga_V mA179 mA165 mA166 mA6 mA167) rfl rfl rfl (by decide +kernel) ⟨Nat.le_of_ble_eq_true rfl, Nat.le_of_ble_eq_true rfl⟩) ⟨q_fb, va_recv hK hP (ci := 1) (q0 := 1) rfl rfl, q_ps hPc hK hDc⟩ rfl rfl hl.1 rfl (lv_room (Nat.le_of_ble_eq_true rfl)) dX11_close_4 ⟨Nat.zero_le _, Nat.zero_le _⟩) (fun H locs hP hD hS => ?_)
  refine lv_istore_n (lv' := [(1, .int u_7), (0, .ref (a0 0))]) hx hb dX11_close_7 rfl hl (by decide) rfl (fun ls hl => ?_)
  refine lv_iload_n hx hb dX11_close_8 rfl (lv_at hl 0 rfl) ?_
  refine lv_if_lt (tgt := 27) hx hb dX11_close_9 (by decide) (fun c_8 => ?_) (fun c_8 => ?_)
  · have hF := it_t hF c_8
    exact j27 v2_0 v4_1 v4_0 v5_3 v8_10 v8_0 v8_1 v8_2 v8_3 v8_4 v8_5 v8_6 v8_7 v8_8 v8_9 u_7 hF _ _ _ hP hD hS (lv_sub hl [1, 0] rfl)
  · have hF := it_f hF c_8
    refine lv_aload_n hx hb dX11_close_12 rfl (lv_at hl 1 rfl) ?_
    refine va_get (D := (dC, dI)) (ci := 10) (v := .ref (a2 0)) (C := RX11) (T := TX11) (N := 7) hx hb hta uw_X11 hown hK hP 0 rfl rfl 0 (by decide) (hta _ mA7) (fun _ h9 => h9) rfl dX11_close_13 ?_
    refine lv_iload_n hx hb dX11_close_16 rfl (lv_at hl 0 rfl) ?_
    obtain ⟨u_9, hu_9, hF⟩ := obd_some hF
    have hPc := hP.sub (ws' := (wd_X1_isClosed cI a2 v2_0)) [1, 2] rfl
    have hDc := hD.sub (ws' := (wd_X1_isClosed cI a2 v2_0)) [1, 2] rfl rfl
    refine q_callz (wc := (wd_X1_isClosed cI a2 v2_0)) (w1 := (wd_X1_isClosed cI a2 v2_0)) (ws' := (wd_X11_close cI a0 a1 a2 a3 a4 a5 a6 a7 a8 a9 a10 v2_0 v4_1 v4_0 v5_3 v5_4 v5_5 v5_6 v5_7 v8_10 v8_0 v8_1 v8_2 v8_3 v8_4 v8_5 v8_6 v8_7 v8_8 v8_9)) hP hD hS hA [1, 2] [0, 3, 4, 5, 6, 7, 8, 9, 10, 11, 12, 13, 14, 15, 16] [0, 15, 16, 1, 2, 3, 4, 5, 6, 7, 8, 9, 10, 11, 12, 13, 14] rfl rfl rfl (by decide) rfl rfl (va_runV (As := [.int u_7]) (rest := []) ⟨hx, hb, hml, hown, hta⟩ (c_X1_isClosed l dC dI cI H.size a2 v2_0 u_7 u_9 hu_9) (cwV 1 hta (ga_V mA181 mA182 mA183 mA6 mA184) rfl rfl rfl (by decide +kernel) ⟨Nat.le_of_ble_eq_true rfl, Nat.le_of_ble_eq_true rfl⟩) ⟨q_fb, va_recv hK hP (ci := 1) (q0 := 1) rfl rfl, q_ps hPc hK hDc⟩ rfl rfl hl.1 rfl (lv_room (Nat.le_of_ble_eq_true rfl)) dX11_close_17 ⟨Nat.zero_le _, Nat.zero_le _⟩) (fun hzu_9 H locs hP hD hS => ?_)
    refine lv_if_ne (tgt := 27) hx hb dX11_close_20 (by decide) (fun c_10 => ?_) (fun c_10 => ?_)
    · have hF := it_f hF c_10
      exact j27 v2_0 v4_1 v4_0 v5_3 v8_10 v8_0 v8_1 v8_2 v8_3 v8_4 v8_5 v8_6 v8_7 v8_8 v8_9 u_7 hF _ _ _ hP hD hS (lv_sub hl [1, 0] rfl)
    · have hF := it_t hF c_10
      refine lv_iconst (v := 1) hx hb dX11_close_23 (by decide) ?_
      refine lv_goto (tgt := 28) hx hb dX11_close_24 (by decide) ?_
      exact j28 v2_0 v4_1 v4_0 v5_3 v8_10 v8_0 v8_1 v8_2 v8_3 v8_4 v8_5 v8_6 v8_7 v8_8 v8_9 u_7 1 hF _ _ _ hP hD hS (lv_sub hl [1, 0] rfl)

-- StrokeOutliner.checkIndex(II)V
def F_X11_checkIndex_j9  : Option (Sum (Unit) (Nat)) :=
  some (.inr 3)
def F_X11_checkIndex (p0 : Int32) (p1 : Int32) : Option (Sum (Unit) (Nat)) :=
  if p0 < 0 then F_X11_checkIndex_j9 else if p0 < p1 then some (.inl ()) else F_X11_checkIndex_j9
abbrev wz_X11_checkIndex : List Cond := .code yX11_checkIndex cX11_checkIndex 2 none :: wALL
abbrev rm_X11_checkIndex : Room := { frames := 0, cells := 0, slots := 0, locals := 0 }
abbrev Q_X11_checkIndex (dC : Nat → ClassId) (dI : Nat → Nat → Nat) (cI : ClassId) (u : (Unit)) (A : Nat → Prop) : Array Value → State → Outcome → State → Prop := va_Qv (fun (_ : Unit) => True) (fun _ => q_at dC dI cI A ([] : va_W)) A
set_option maxHeartbeats 4000000 in
set_option maxRecDepth 100000 in
theorem c_X11_checkIndex (l : Launch) (dC : Nat → ClassId) (dI : Nat → Nat → Nat) (cI : ClassId) (sz : Nat) (p0 : Int32) (p1 : Int32) (u : (Unit)) (hF : F_X11_checkIndex p0 p1 = some (.inl u)) : Met l yX11_checkIndex wz_X11_checkIndex rm_X11_checkIndex (va_Pc [.int p0, .int p1] (q_pre dC dI cI ([] : va_W) sz)) (Q_X11_checkIndex dC dI cI u (va_A ([] : va_W) sz)) 0 0 (va_A ([] : va_W) sz) := by
  refine Met.ofW (cc := cX11_checkIndex) (maxL := 2) (ret := none) (by decide) rfl ?_
  intro p e s m args below meth c s₁ B hml hv
  obtain ⟨rfl, hsz, hP, hK, hD0⟩ := hv
  have hx := B.exec
  have hb := B.bytes
  have hr := B.returns
  have hts := atoms_spec (ws := wz_X11_checkIndex) B.pre
  have hta := wz_tl hts
  have hown : s.vm.findClass RX11 = some m.cls := findClass_of_methodNamed B.named
  have hlocks := B.notSynchronized
  subst hsz
  have hD := hD0.self (sz := s.heap.size)
  generalize hAe : va_A ([] : va_W) s.heap.size = A at hD ⊢
  have hA : ∀ q : Nat, s.heap.size ≤ q → A q := fun q h => by rw [← hAe]; exact Or.inr h
  have hS : va_S A s.heap s.heap [] := va_S.rf
  have hP : va_P (dC, dI) vwCl ([] : va_W) s.heap := hP
  have hl := lv_entry ([.int p0, .int p1]) (n := 2) (Nat.le_of_ble_eq_true rfl)
  rw [lg_entry_eq]
  generalize (lg_sl ([.int p0, .int p1]) ++ List.replicate (2 - (lg_sl ([.int p0, .int p1])).length) Slot.unset).toArray = ls at hl ⊢
  have hl : lv_has ls 2 [(0, .int p0), (1, .int p1)] := hl
  obtain ⟨H, hHe⟩ : ∃ H, H = s.heap := ⟨_, rfl⟩
  have hS : va_S A s.heap H [] := by rw [hHe]; exact hS
  have hP : va_P (dC, dI) vwCl ([] : va_W) H := by rw [hHe]; exact hP
  rw [← hHe]
  unfold F_X11_checkIndex at hF
  have j9 : ∀ (_ : Unit), F_X11_checkIndex_j9 = some (.inl u) → ∀ (H : Heap) (locs : List Loc) (ls : Array Slot), va_P (dC, dI) vwCl ([] : va_W) H → va_D A ([] : va_W) → va_S A s.heap H locs → lv_has ls 2 [] → W p l e (headSpec wz_X11_checkIndex rm_X11_checkIndex).room s m [.int p0, .int p1].toArray below meth c H locs 0 0 (MQ below (Q_X11_checkIndex dC dI cI u A) [.int p0, .int p1].toArray s 0 0 A) (F0 m 9 ls []) := by
    intro _ hF H locs ls hP hD hS hl
    unfold F_X11_checkIndex_j9 at hF
    exact absurd hF no_rl
  refine lv_iload_n hx hb dX11_checkIndex_0 rfl (lv_at hl 0 rfl) ?_
  refine lv_if_lt (tgt := 9) hx hb dX11_checkIndex_1 (by decide) (fun c_1 => ?_) (fun c_1 => ?_)
  · have hF := it_t hF c_1
    exact j9 () hF _ _ _ hP hD hS (lv_sub hl [] rfl)
  · have hF := it_f hF c_1
    refine lv_iload_n hx hb dX11_checkIndex_4 rfl (lv_at hl 0 rfl) ?_
    refine lv_iload_n hx hb dX11_checkIndex_5 rfl (lv_at hl 1 rfl) ?_
    refine lv_icmp_lt (tgt := 20) hx hb dX11_checkIndex_6 (by decide) (fun c_2 => ?_) (fun c_2 => ?_)
    · have hF := it_t hF c_2
      obtain rfl := Sum.inl.inj (Option.some.inj hF)
      exact W.vret hx hb hr (fun t ht hW => ⟨⟨(), rfl, trivial, by rw [ht]; exact hP, va_K.moved hW.alike hK, hD⟩, hS.F ht⟩) hS.2.2 dX11_checkIndex_20
    · have hF := it_f hF c_2
      exact j9 () hF _ _ _ hP hD hS (lv_sub hl [] rfl)
abbrev rmx_X11_checkIndex : Room := { frames := 6, cells := 1, slots := 6, locals := 82 }
abbrev XC_X11_checkIndex (dC : Nat → ClassId) (dI : Nat → Nat → Nat) (cI : ClassId) (x : (Nat)) (A : Nat → Prop) : String → State → State → Prop := vx_X (fun (_ : Unit) => True) (fun E _ t => E = exN x ∧ q_at dC dI cI A ([] : va_W) t) A
set_option maxHeartbeats 4000000 in
set_option maxRecDepth 100000 in
theorem c_X11_checkIndex_x (l : Launch) (hlt : l.stackTraces = false) (S : Nat → Nat) (dC : Nat → ClassId) (dI : Nat → Nat → Nat) (cI : ClassId) (sz : Nat) (p0 : Int32) (p1 : Int32) (x : (Nat)) (hF : F_X11_checkIndex p0 p1 = some (.inr x)) : vx_Met l yX11_checkIndex wz_X11_checkIndex rmx_X11_checkIndex (va_Pc [.int p0, .int p1] (qx_pre S dC dI cI ([] : va_W) sz)) (va_Qv (fun (_ : Unit) => False) (fun _ _ => True) (va_A ([] : va_W) sz)) (XC_X11_checkIndex dC dI cI x (va_A ([] : va_W) sz)) 1 6 (va_A ([] : va_W) sz) := by
  refine vx_ofW (cc := cX11_checkIndex) (maxL := 2) (ret := none) (by decide) rfl ?_
  intro p e s m args below meth c s₁ B hml hxt hv
  obtain ⟨rfl, ⟨hsz, hP, hK, hD0⟩, hE⟩ := hv
  have hx := B.exec
  have hb := B.bytes
  have hr := B.returns
  have hts := atoms_spec (ws := wz_X11_checkIndex) B.pre
  have hta := wz_tl hts
  have hown : s.vm.findClass RX11 = some m.cls := findClass_of_methodNamed B.named
  have hlocks := B.notSynchronized
  subst hsz
  have hD := hD0.self (sz := s.heap.size)
  generalize hAe : va_A ([] : va_W) s.heap.size = A at hD hE ⊢
  have hA : ∀ q : Nat, s.heap.size ≤ q → A q := fun q h => by rw [← hAe]; exact Or.inr h
  have hS : va_S A s.heap s.heap [] := va_S.rf
  have hP : va_P (dC, dI) vwCl ([] : va_W) s.heap := hP
  have hl := lv_entry ([.int p0, .int p1]) (n := 2) (Nat.le_of_ble_eq_true rfl)
  rw [lg_entry_eq]
  generalize (lg_sl ([.int p0, .int p1]) ++ List.replicate (2 - (lg_sl ([.int p0, .int p1])).length) Slot.unset).toArray = ls at hl ⊢
  have hl : lv_has ls 2 [(0, .int p0), (1, .int p1)] := hl
  obtain ⟨H, hHe⟩ : ∃ H, H = s.heap := ⟨_, rfl⟩
  have hS : va_S A s.heap H [] := by rw [hHe]; exact hS
  have hP : va_P (dC, dI) vwCl ([] : va_W) H := by rw [hHe]; exact hP
  rw [← hHe]
  unfold F_X11_checkIndex at hF
  have j9 : ∀ (_ : Unit), F_X11_checkIndex_j9 = some (.inr x) → ∀ (H : Heap) (locs : List Loc) (ls : Array Slot), va_P (dC, dI) vwCl ([] : va_W) H → va_D A ([] : va_W) → va_S A s.heap H locs → lv_has ls 2 [] → W p l e (headSpec wz_X11_checkIndex rmx_X11_checkIndex).room s m [.int p0, .int p1].toArray below meth c H locs 0 0 (vx_MQ below (va_Qv (fun (_ : Unit) => False) (fun _ _ => True) A) (XC_X11_checkIndex dC dI cI x A) [.int p0, .int p1].toArray s 1 6 A) (F0 m 9 ls []) := by
    intro _ hF H locs ls hP hD hS hl
    unfold F_X11_checkIndex_j9 at hF
    obtain rfl := Sum.inr.inj (Option.some.inj hF)
    exact vx_throwSW (A := A) (sa := S 2) hx hb hlt hown qx_fIO qx_fN (hta _ mA247) (hta _ mA248) hE.2.2.1.2.2.1 (qx_hIO hE.2.2.2 hta) qx_gIO hE.1 hE.2.1 hS (hl.1.trans hml.symm) dX11_checkIndex_9 dX11_checkIndex_12 dX11_checkIndex_13 dX11_checkIndex_16 dX11_checkIndex_19 (fun z hz => (hxt z hz).elim) (Nat.le_of_ble_eq_true rfl) (Nat.le_of_ble_eq_true rfl) (Nat.le_of_ble_eq_true rfl) (Nat.le_of_ble_eq_true rfl) hlocks (fun t hal hsz hkp => ⟨(), trivial, ⟨rfl, qx_kept hP hkp, va_K.moved hal hK, hD⟩, qx_F hS hsz hkp⟩) hS.2.2 (Nat.le_of_ble_eq_true rfl) (Nat.le_of_ble_eq_true rfl)
  refine lv_iload_n hx hb dX11_checkIndex_0 rfl (lv_at hl 0 rfl) ?_
  refine lv_if_lt (tgt := 9) hx hb dX11_checkIndex_1 (by decide) (fun c_1 => ?_) (fun c_1 => ?_)
  · have hF := it_t hF c_1
    exact j9 () hF _ _ _ hP hD hS (lv_sub hl [] rfl)
  · have hF := it_f hF c_1
    refine lv_iload_n hx hb dX11_checkIndex_4 rfl (lv_at hl 0 rfl) ?_
    refine lv_iload_n hx hb dX11_checkIndex_5 rfl (lv_at hl 1 rfl) ?_
    refine lv_icmp_lt (tgt := 20) hx hb dX11_checkIndex_6 (by decide) (fun c_2 => ?_) (fun c_2 => ?_)
    · have hF := it_t hF c_2
      exact absurd hF no_lr
    · have hF := it_f hF c_2
      exact j9 () hF _ _ _ hP hD hS (lv_sub hl [] rfl)
