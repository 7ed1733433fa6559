-- StrokeOutliner$Numbers.root(J)I
def F_X4_root_j36 (x2 : Int32) : Option (Int32) :=
  some x2
def F_X4_root_j29 (x2 : Int32) (x3 : Int32) : Option (Sum (Int32 × Int32) (Int32)) :=
  lt (x3 >>> (1 &&& 31)) (fun y_1 => some (.inl (x2, y_1)))
def F_X4_root_b5 (x0 : Int64) (s5 : Int32 × Int32) : Option (Sum (Int32 × Int32) (Int32)) :=
  if s5.2 ≤ 0 then some (.inr s5.1) else lt ((s5.1 + s5.2).toInt64) (fun y_3 => if 0 < (lg_cmp (y_3 * y_3) x0) then F_X4_root_j29 s5.1 s5.2 else lt (s5.1 + s5.2) (fun y_5 => F_X4_root_j29 y_5 s5.2))
def F_X4_root_j5 (n : Nat) (x0 : Int64) (x2 : Int32) (x3 : Int32) : Option (Int32) :=
  obd (lpq (F_X4_root_b5 x0) n (x2, x3)) (fun x_5 => F_X4_root_j36 x_5)
def F_X4_root (n : Nat) (p0 : Int64) : Option (Int32) :=
  F_X4_root_j5 n p0 0 32768
abbrev wz_X4_root : List Cond := .code yX4_root cX4_root 6 (some .int) :: wALL
abbrev rm_X4_root : Room := { frames := 0, cells := 0, slots := 0, locals := 0 }
abbrev Q_X4_root (dC : Nat → ClassId) (dI : Nat → Nat → Nat) (cI : ClassId) (u : (Int32)) (A : Nat → Prop) : Array Value → State → Outcome → State → Prop := va_Qi (fun (r : Int32) (_ : Unit) => r = u) (fun _ => q_at dC dI cI A ([] : va_W)) A
set_option maxHeartbeats 4000000 in
set_option maxRecDepth 100000 in
theorem c_X4_root (l : Launch) (dC : Nat → ClassId) (dI : Nat → Nat → Nat) (cI : ClassId) (sz : Nat) (p0 : Int64) (n : Nat) (u : (Int32)) (hF : F_X4_root n p0 = some u) : Met l yX4_root wz_X4_root rm_X4_root (va_Pc [.long p0] (q_pre dC dI cI ([] : va_W) sz)) (Q_X4_root dC dI cI u (va_A ([] : va_W) sz)) 0 0 (va_A ([] : va_W) sz) := by
  refine Met.ofW (cc := cX4_root) (maxL := 6) (ret := (some .int)) (by decide) rfl ?_
  intro p e s m args below meth c s₁ B hml hv
  obtain ⟨rfl, hsz, hP, hK, hD0⟩ := hv
  have hx := B.exec
  have hb := B.bytes
  have hr := B.returns
  have hts := atoms_spec (ws := wz_X4_root) B.pre
  have hta := wz_tl hts
  have hown : s.vm.findClass RX4 = some m.cls := findClass_of_methodNamed B.named
  have hlocks := B.notSynchronized
  subst hsz
  have hD := hD0.self (sz := s.heap.size)
  generalize hAe : va_A ([] : va_W) s.heap.size = A at hD ⊢
  have hA : ∀ q : Nat, s.heap.size ≤ q → A q := fun q h => by rw [← hAe]; exact Or.inr h
  have hS : va_S A s.heap s.heap [] := va_S.rf
  have hP : va_P (dC, dI) vwCl ([] : va_W) s.heap := hP
  have hl := lv_entry ([.long p0]) (n := 6) (Nat.le_of_ble_eq_true rfl)
  rw [lg_entry_eq]
  generalize (lg_sl ([.long p0]) ++ List.replicate (6 - (lg_sl ([.long p0])).length) Slot.unset).toArray = ls at hl ⊢
  have hl : lv_has ls 6 [(0, .long p0)] := hl
  obtain ⟨H, hHe⟩ : ∃ H, H = s.heap := ⟨_, rfl⟩
  have hS : va_S A s.heap H [] := by rw [hHe]; exact hS
  have hP : va_P (dC, dI) vwCl ([] : va_W) H := by rw [hHe]; exact hP
  rw [← hHe]
  unfold F_X4_root at hF
  have j36 : ∀ (x2 : Int32), F_X4_root_j36 x2 = some u → ∀ (H : Heap) (locs : List Loc) (ls : Array Slot), va_P (dC, dI) vwCl ([] : va_W) H → va_D A ([] : va_W) → va_S A s.heap H locs → lv_has ls 6 [(2, .int x2)] → W p l e (headSpec wz_X4_root rm_X4_root).room s m [.long p0].toArray below meth c H locs 0 0 (MQ below (Q_X4_root dC dI cI u A) [.long p0].toArray s 0 0 A) (F0 m 36 ls []) := by
    intro x2 hF H locs ls hP hD hS hl
    unfold F_X4_root_j36 at hF
    refine lv_iload_n hx hb dX4_root_36 rfl (lv_at hl 0 rfl) ?_
    obtain rfl := Option.some.inj hF
    exact W.iret (v := x2) hx hb hr (fun t ht hW => ⟨⟨x2, (), rfl, rfl, by rw [ht]; exact hP, va_K.moved hW.alike hK, hD⟩, hS.F ht⟩) hS.2.2 dX4_root_37
  have j5 : ∀ (x0 : Int64) (x2 : Int32) (x3 : Int32), F_X4_root_j5 n x0 x2 x3 = some u → ∀ (H : Heap) (locs : List Loc) (ls : Array Slot), va_P (dC, dI) vwCl ([] : va_W) H → va_D A ([] : va_W) → va_S A s.heap H locs → lv_has ls 6 [(0, .long x0), (2, .int x2), (3, .int x3)] → W p l e (headSpec wz_X4_root rm_X4_root).room s m [.long p0].toArray below meth c H locs 0 0 (MQ below (Q_X4_root dC dI cI u A) [.long p0].toArray s 0 0 A) (F0 m 5 ls []) := by
    intro x0 x2 x3 hF H locs ls hP hD hS hl
    unfold F_X4_root_j5 at hF
    obtain ⟨x_5, hL_5, hE_5⟩ := obd_some hF
    have kl_5 : ∀ (k : Nat) (s5 : Int32 × Int32), lpq (F_X4_root_b5 x0) k s5 = some x_5 → ∀ (H : Heap) (locs : List Loc) (ls : Array Slot), va_P (dC, dI) vwCl ([] : va_W) H → va_D A ([] : va_W) → va_S A s.heap H locs → lv_has ls 6 [(0, .long x0), (2, .int s5.1), (3, .int s5.2)] → W p l e (headSpec wz_X4_root rm_X4_root).room s m [.long p0].toArray below meth c H locs 0 0 (MQ below (Q_X4_root dC dI cI u A) [.long p0].toArray s 0 0 A) (F0 m 5 ls []) := by
      intro k
      induction k with
      | zero => intro s5 h; exact absurd h lpq_zero
      | succ k ih_5 =>
        intro s5 h H locs ls hP hD hS hl
        obtain ⟨o_5, hF, hO_5⟩ := lpq_succ h
        unfold F_X4_root_b5 at hF
        have j29 : ∀ (x2 : Int32) (x3 : Int32), F_X4_root_j29 x2 x3 = some o_5 → ∀ (H : Heap) (locs : List Loc) (ls : Array Slot), va_P (dC, dI) vwCl ([] : va_W) H → va_D A ([] : va_W) → va_S A s.heap H locs → lv_has ls 6 [(0, .long x0), (2, .int x2), (3, .int x3)] → W p l e (headSpec wz_X4_root rm_X4_root).room s m [.long p0].toArray below meth c H locs 0 0 (MQ below (Q_X4_root dC dI cI u A) [.long p0].toArray s 0 0 A) (F0 m 29 ls []) := by
          intro x2 x3 hF H locs ls hP hD hS hl
          unfold F_X4_root_j29 at hF
          refine lv_iload_n hx hb dX4_root_29 rfl (lv_at hl 2 rfl) ?_
          refine lv_iconst (v := 1) hx hb dX4_root_30 (by decide) ?_
          refine lv_ishr hx hb dX4_root_31 ?_
          obtain ⟨y_1, ey_1, hF⟩ := lt_some hF
          refine lv_eqi ey_1 ?_
          refine lv_istore_n (lv' := [(3, .int y_1), (0, .long x0), (2, .int x2)]) hx hb dX4_root_32 rfl hl (by decide) rfl (fun ls hl => ?_)
          refine lv_goto (tgt := 5) hx hb dX4_root_33 (by decide) ?_
          obtain rfl := Option.some.inj hF
          exact ih_5 _ hO_5 _ _ _ hP hD hS (lv_sub hl [1, 2, 0] rfl)
        refine lv_iload_n hx hb dX4_root_5 rfl (lv_at hl 2 rfl) ?_
        refine lv_if_le (tgt := 36) hx hb dX4_root_6 (by decide) (fun c_2 => ?_) (fun c_2 => ?_)
        · have hF := it_t hF c_2
          obtain rfl := Option.some.inj hF
          obtain rfl := lpq_x hO_5
          have hF := hE_5
          exact j36 s5.1 hF _ _ _ hP hD hS (lv_sub hl [1] rfl)
        · have hF := it_f hF c_2
          refine lv_iload_n hx hb dX4_root_9 rfl (lv_at hl 1 rfl) ?_
          refine lv_iload_n hx hb dX4_root_10 rfl (lv_at hl 2 rfl) ?_
          refine lv_iadd hx hb dX4_root_11 ?_
          refine lv_i2l hx hb dX4_root_12 rfl ?_
          obtain ⟨y_3, ey_3, hF⟩ := lt_some hF
          refine lv_eql ey_3 ?_
          refine lv_lstore (lv' := [(4, .long y_3), (0, .long x0), (2, .int s5.1), (3, .int s5.2)]) hx hb dX4_root_13 hl (by decide) rfl (fun ls hl => ?_)
          refine lv_lload hx hb dX4_root_15 (lv_at hl 0 rfl) ?_
          refine lv_lload hx hb dX4_root_17 (lv_at hl 0 rfl) ?_
          refine lv_lmul hx hb dX4_root_19 ?_
          refine lv_lload_n hx hb dX4_root_20 rfl (lv_at hl 1 rfl) ?_
          refine W.lcmp hx hb dX4_root_21 ?_
          refine lv_if_gt (tgt := 29) hx hb dX4_root_22 (by decide) (fun c_4 => ?_) (fun c_4 => ?_)
          · have hF := it_t hF c_4
            exact j29 s5.1 s5.2 hF _ _ _ hP hD hS (lv_sub hl [1, 2, 3] rfl)
          · have hF := it_f hF c_4
            refine lv_iload_n hx hb dX4_root_25 rfl (lv_at hl 2 rfl) ?_
            refine lv_iload_n hx hb dX4_root_26 rfl (lv_at hl 3 rfl) ?_
            refine lv_iadd hx hb dX4_root_27 ?_
            obtain ⟨y_5, ey_5, hF⟩ := lt_some hF
            refine lv_eqi ey_5 ?_
            refine lv_istore_n (lv' := [(2, .int y_5), (4, .long y_3), (0, .long x0), (3, .int s5.2)]) hx hb dX4_root_28 rfl hl (by decide) rfl (fun ls hl => ?_)
            exact j29 y_5 s5.2 hF _ _ _ hP hD hS (lv_sub hl [2, 0, 3] rfl)
    exact kl_5 n _ hL_5 _ _ _ hP hD hS hl
  refine lv_iconst (v := 0) hx hb dX4_root_0 (by decide) ?_
  refine lv_istore_n (lv' := [(2, .int 0), (0, .long p0)]) hx hb dX4_root_1 rfl hl (by decide) rfl (fun ls hl => ?_)
  refine lv_ldc (v := 32768) hx hb hown (hta _ mA223) dX4_root_2 ?_
  refine lv_istore_n (lv' := [(3, .int 32768), (2, .int 0), (0, .long p0)]) hx hb dX4_root_4 rfl hl (by decide) rfl (fun ls hl => ?_)
  exact j5 p0 0 32768 hF _ _ _ hP hD hS (lv_sub hl [2, 1, 0] rfl)

-- StrokeOutliner$Numbers.round(JJ)I
def F_X4_round_j51 (t0 : Int64) : Option (Int32) :=
  some t0.toInt32
def F_X4_round (p0 : Int64) (p2 : Int64) : Option (Int32) :=
  lt (2 * p2) (fun y_1 => if 0 < (lg_cmp y_1 0) then lt ((2 * p0) + p2) (fun y_3 => gd (decide (¬ (y_1 : Int64) = 0)) (lt (y_3 / y_1) (fun y_5 => gd (decide (¬ (y_1 : Int64) = 0)) (if 0 ≤ (lg_cmp (y_3 - y_3 / y_1 * y_1) 0) then F_X4_round_j51 y_5 else F_X4_round_j51 (y_5 - 1))))) else some 0)
abbrev wz_X4_round : List Cond := .code yX4_round cX4_round 10 (some .int) :: wALL
abbrev rm_X4_round : Room := { frames := 0, cells := 0, slots := 0, locals := 0 }
abbrev Q_X4_round (dC : Nat → ClassId) (dI : Nat → Nat → Nat) (cI : ClassId) (u : (Int32)) (A : Nat → Prop) : Array Value → State → Outcome → State → Prop := va_Qi (fun (r : Int32) (_ : Unit) => r = u) (fun _ => q_at dC dI cI A ([] : va_W)) A
set_option maxHeartbeats 4000000 in
set_option maxRecDepth 100000 in
theorem c_X4_round (l : Launch) (dC : Nat → ClassId) (dI : Nat → Nat → Nat) (cI : ClassId) (sz : Nat) (p0 : Int64) (p2 : Int64) (u : (Int32)) (hF : F_X4_round p0 p2 = some u) : Met l yX4_round wz_X4_round rm_X4_round (va_Pc [.long p0, .long p2] (q_pre dC dI cI ([] : va_W) sz)) (Q_X4_round dC dI cI u (va_A ([] : va_W) sz)) 0 0 (va_A ([] : va_W) sz) := by
  refine Met.ofW (cc := cX4_round) (maxL := 10) (ret := (some .int)) (by decide) rfl ?_
  intro p e s m args below meth c s₁ B hml hv
  obtain ⟨rfl, hsz, hP, hK, hD0⟩ := hv
  have hx := B.exec
  have hb := B.bytes
  have hr := B.returns
  have hts := atoms_spec (ws := wz_X4_round) B.pre
  have hta := wz_tl hts
  have hown : s.vm.findClass RX4 = some m.cls := findClass_of_methodNamed B.named
  have hlocks := B.notSynchronized
  subst hsz
  have hD := hD0.self (sz := s.heap.size)
  generalize hAe : va_A ([] : va_W) s.heap.size = A at hD ⊢
  have hA : ∀ q : Nat, s.heap.size ≤ q → A q := fun q h => by rw [← hAe]; exact Or.inr h
  have hS : va_S A s.heap s.heap [] := va_S.rf
  have hP : va_P (dC, dI) vwCl ([] : va_W) s.heap := hP
  have hl := lv_entry ([.long p0, .long p2]) (n := 10) (Nat.le_of_ble_eq_true rfl)
  rw [lg_entry_eq]
  generalize (lg_sl ([.long p0, .long p2]) ++ List.replicate (10 - (lg_sl ([.long p0, .long p2])).length) Slot.unset).toArray = ls at hl ⊢
  have hl : lv_has ls 10 [(0, .long p0), (2, .long p2)] := hl
  obtain ⟨H, hHe⟩ : ∃ H, H = s.heap := ⟨_, rfl⟩
  have hS : va_S A s.heap H [] := by rw [hHe]; exact hS
  have hP : va_P (dC, dI) vwCl ([] : va_W) H := by rw [hHe]; exact hP
  rw [← hHe]
  unfold F_X4_round at hF
  have j51 : ∀ (t0 : Int64), F_X4_round_j51 t0 = some u → ∀ (H : Heap) (locs : List Loc) (ls : Array Slot), va_P (dC, dI) vwCl ([] : va_W) H → va_D A ([] : va_W) → va_S A s.heap H locs → lv_has ls 10 [] → W p l e (headSpec wz_X4_round rm_X4_round).room s m [.long p0, .long p2].toArray below meth c H locs 0 0 (MQ below (Q_X4_round dC dI cI u A) [.long p0, .long p2].toArray s 0 0 A) (F0 m 51 ls [.long t0]) := by
    intro t0 hF H locs ls hP hD hS hl
    unfold F_X4_round_j51 at hF
    refine lv_l2i hx hb dX4_round_51 rfl ?_
    obtain rfl := Option.some.inj hF
    exact W.iret (v := t0.toInt32) hx hb hr (fun t ht hW => ⟨⟨t0.toInt32, (), rfl, rfl, by rw [ht]; exact hP, va_K.moved hW.alike hK, hD⟩, hS.F ht⟩) hS.2.2 dX4_round_52
  refine lv_ldc2 (v := 2) hx hb hown (hta _ mA227) dX4_round_0 ?_
  refine lv_lload_n hx hb dX4_round_3 rfl (lv_at hl 1 rfl) ?_
  refine lv_lmul hx hb dX4_round_4 ?_
  obtain ⟨y_1, ey_1, hF⟩ := lt_some hF
  refine lv_eql ey_1 ?_
  refine lv_lstore (lv' := [(4, .long y_1), (0, .long p0), (2, .long p2)]) hx hb dX4_round_5 hl (by decide) rfl (fun ls hl => ?_)
  refine lv_lload hx hb dX4_round_7 (lv_at hl 0 rfl) ?_
  refine lv_lconst (v := 0) hx hb dX4_round_9 (by decide) ?_
  refine W.lcmp hx hb dX4_round_10 ?_
  refine lv_if_gt (tgt := 16) hx hb dX4_round_11 (by decide) (fun c_2 => ?_) (fun c_2 => ?_)
  · have hF := it_t hF c_2
    refine lv_ldc2 (v := 2) hx hb hown (hta _ mA227) dX4_round_16 ?_
    refine lv_lload_n hx hb dX4_round_19 rfl (lv_at hl 1 rfl) ?_
    refine lv_lmul hx hb dX4_round_20 ?_
    refine lv_lload_n hx hb dX4_round_21 rfl (lv_at hl 2 rfl) ?_
    refine lv_ladd hx hb dX4_round_22 ?_
    obtain ⟨y_3, ey_3, hF⟩ := lt_some hF
    refine lv_eql ey_3 ?_
    refine lv_lstore (lv' := [(6, .long y_3), (4, .long y_1), (0, .long p0), (2, .long p2)]) hx hb dX4_round_23 hl (by decide) rfl (fun ls hl => ?_)
    refine lv_lload hx hb dX4_round_25 (lv_at hl 0 rfl) ?_
    refine lv_lload hx hb dX4_round_27 (lv_at hl 1 rfl) ?_
    obtain ⟨g_4, hF⟩ := gd_some hF
    refine lv_ldiv hx hb dX4_round_29 g_4 ?_
    obtain ⟨y_5, ey_5, hF⟩ := lt_some hF
    refine lv_eql ey_5 ?_
    refine lv_lstore (lv' := [(8, .long y_5), (6, .long y_3), (4, .long y_1), (0, .long p0), (2, .long p2)]) hx hb dX4_round_30 hl (by decide) rfl (fun ls hl => ?_)
    refine lv_lload hx hb dX4_round_32 (lv_at hl 1 rfl) ?_
    refine lv_lload hx hb dX4_round_34 (lv_at hl 2 rfl) ?_
    obtain ⟨g_6, hF⟩ := gd_some hF
    refine lv_lrem hx hb dX4_round_36 g_6 ?_
    refine lv_lconst (v := 0) hx hb dX4_round_37 (by decide) ?_
    refine W.lcmp hx hb dX4_round_38 ?_
    refine lv_if_ge (tgt := 49) hx hb dX4_round_39 (by decide) (fun c_7 => ?_) (fun c_7 => ?_)
    · have hF := it_t hF c_7
      refine lv_lload hx hb dX4_round_49 (lv_at hl 0 rfl) ?_
      exact j51 y_5 hF _ _ _ hP hD hS (lv_sub hl [] rfl)
    · have hF := it_f hF c_7
      refine lv_lload hx hb dX4_round_42 (lv_at hl 0 rfl) ?_
      refine lv_lconst (v := 1) hx hb dX4_round_44 (by decide) ?_
      refine lv_lsub hx hb dX4_round_45 ?_
      refine lv_goto (tgt := 51) hx hb dX4_round_46 (by decide) ?_
      exact j51 (y_5 - 1) hF _ _ _ hP hD hS (lv_sub hl [] rfl)
  · have hF := it_f hF c_2
    refine lv_iconst (v := 0) hx hb dX4_round_14 (by decide) ?_
    obtain rfl := Option.some.inj hF
    exact W.iret (v := 0) hx hb hr (fun t ht hW => ⟨⟨0, (), rfl, rfl, by rw [ht]; exact hP, va_K.moved hW.alike hK, hD⟩, hS.F ht⟩) hS.2.2 dX4_round_15

-- StrokeOutliner$Numbers.at([II)I
def F_X4_at_j16  : Option (Int32) :=
  some 0
def F_X4_at (n0 : Nat) (w0 : Nat → Int32) (p1 : Int32) : Option (Int32) :=
  if p1 < 0 then F_X4_at_j16 else if (Int32.ofNat n0) ≤ p1 then F_X4_at_j16 else gd (decide (vpi p1 n0)) (some (w0 p1.toNatClampNeg))
abbrev wd_X4_at (cI : ClassId) (b0 n0 : Nat) (w0 : Nat → Int32) : va_W := [(b0, .inl (cI, n0, .inl w0))]
abbrev wz_X4_at : List Cond := .code yX4_at cX4_at 2 (some .int) :: wALL
abbrev rm_X4_at : Room := { frames := 0, cells := 0, slots := 0, locals := 0 }
abbrev Q_X4_at (dC : Nat → ClassId) (dI : Nat → Nat → Nat) (cI : ClassId) (b0 n0 : Nat) (w0 : Nat → Int32) (u : (Int32)) (A : Nat → Prop) : Array Value → State → Outcome → State → Prop := va_Qi (fun (r : Int32) (_ : Unit) => r = u) (fun _ => q_at dC dI cI A (wd_X4_at cI b0 n0 w0)) A
set_option maxHeartbeats 4000000 in
set_option maxRecDepth 100000 in
theorem c_X4_at (l : Launch) (dC : Nat → ClassId) (dI : Nat → Nat → Nat) (cI : ClassId) (sz : Nat) (b0 n0 : Nat) (w0 : Nat → Int32) (p1 : Int32) (u : (Int32)) (hF : F_X4_at n0 w0 p1 = some u) : Met l yX4_at wz_X4_at rm_X4_at (va_Pc [.ref b0, .int p1] (q_pre dC dI cI (wd_X4_at cI b0 n0 w0) sz)) (Q_X4_at dC dI cI b0 n0 w0 u (va_A (wd_X4_at cI b0 n0 w0) sz)) 0 0 (va_A (wd_X4_at cI b0 n0 w0) sz) := by
  refine Met.ofW (cc := cX4_at) (maxL := 2) (ret := (some .int)) (by decide) rfl ?_
  intro p e s m args below meth c s₁ B hml hv
  obtain ⟨rfl, hsz, hP, hK, hD0⟩ := hv
  have hx := B.exec
  have hb := B.bytes
  have hr := B.returns
  have hts := atoms_spec (ws := wz_X4_at) B.pre
  have hta := wz_tl hts
  have hown : s.vm.findClass RX4 = some m.cls := findClass_of_methodNamed B.named
  have hlocks := B.notSynchronized
  subst hsz
  have hD := hD0.self (sz := s.heap.size)
  generalize hAe : va_A (wd_X4_at cI b0 n0 w0) s.heap.size = A at hD ⊢
  have hA : ∀ q : Nat, s.heap.size ≤ q → A q := fun q h => by rw [← hAe]; exact Or.inr h
  have hS : va_S A s.heap s.heap [] := va_S.rf
  have hP : va_P (dC, dI) vwCl (wd_X4_at cI b0 n0 w0) s.heap := hP
  have hl := lv_entry ([.ref b0, .int p1]) (n := 2) (Nat.le_of_ble_eq_true rfl)
  rw [lg_entry_eq]
  generalize (lg_sl ([.ref b0, .int p1]) ++ List.replicate (2 - (lg_sl ([.ref b0, .int p1])).length) Slot.unset).toArray = ls at hl ⊢
  have hl : lv_has ls 2 [(0, .ref b0), (1, .int p1)] := hl
  obtain ⟨H, hHe⟩ : ∃ H, H = s.heap := ⟨_, rfl⟩
  have hS : va_S A s.heap H [] := by rw [hHe]; exact hS
  have hP : va_P (dC, dI) vwCl (wd_X4_at cI b0 n0 w0) H := by rw [hHe]; exact hP
  rw [← hHe]
  unfold F_X4_at at hF
  have j16 : ∀ (_ : Unit), F_X4_at_j16 = some u → ∀ (H : Heap) (locs : List Loc) (ls : Array Slot), va_P (dC, dI) vwCl (wd_X4_at cI b0 n0 w0) H → va_D A (wd_X4_at cI b0 n0 w0) → va_S A s.heap H locs → lv_has ls 2 [] → W p l e (headSpec wz_X4_at rm_X4_at).room s m [.ref b0, .int p1].toArray below meth c H locs 0 0 (MQ below (Q_X4_at dC dI cI b0 n0 w0 u A) [.ref b0, .int p1].toArray s 0 0 A) (F0 m 16 ls []) := by
    intro _ hF H locs ls hP hD hS hl
    unfold F_X4_at_j16 at hF
    refine lv_iconst (v := 0) hx hb dX4_at_16 (by decide) ?_
    obtain rfl := Option.some.inj hF
    exact W.iret (v := 0) hx hb hr (fun t ht hW => ⟨⟨0, (), rfl, rfl, by rw [ht]; exact hP, va_K.moved hW.alike hK, hD⟩, hS.F ht⟩) hS.2.2 dX4_at_17
  refine lv_iload_n hx hb dX4_at_0 rfl (lv_at hl 1 rfl) ?_
  refine lv_if_lt (tgt := 16) hx hb dX4_at_1 (by decide) (fun c_1 => ?_) (fun c_1 => ?_)
  · have hF := it_t hF c_1
    exact j16 () hF _ _ _ hP hD hS (lv_sub hl [] rfl)
  · have hF := it_f hF c_1
    refine lv_iload_n hx hb dX4_at_4 rfl (lv_at hl 1 rfl) ?_
    refine lv_aload_n hx hb dX4_at_5 rfl (lv_at hl 0 rfl) ?_
    refine va_alen (v := (Int32.ofNat n0)) hx hb hK hP 0 0 rfl rfl rfl dX4_at_6 ?_
    refine lv_icmp_ge (tgt := 16) hx hb dX4_at_7 (by decide) (fun c_2 => ?_) (fun c_2 => ?_)
    · have hF := it_t hF c_2
      exact j16 () hF _ _ _ hP hD hS (lv_sub hl [] rfl)
    · have hF := it_f hF c_2
      refine lv_aload_n hx hb dX4_at_10 rfl (lv_at hl 0 rfl) ?_
      refine lv_iload_n hx hb dX4_at_11 rfl (lv_at hl 1 rfl) ?_
      obtain ⟨g_3, hF⟩ := gd_some hF
      refine va_iald hx hb hK hP 0 0 rfl rfl (vpi_in g_3) dX4_at_12 ?_
      refine lv_goto (tgt := 17) hx hb dX4_at_13 (by decide) ?_
      obtain rfl := Option.some.inj hF
      exact W.iret (v := (w0 p1.toNatClampNeg)) hx hb hr (fun t ht hW => ⟨⟨(w0 p1.toNatClampNeg), (), rfl, rfl, by rw [ht]; exact hP, va_K.moved hW.alike hK, hD⟩, hS.F ht⟩) hS.2.2 dX4_at_17

-- java/lang/Math.floorDiv(II)I
def F_J9_floorDiv_7cf53_j21 (x2 : Int32) : Option (Int32) :=
  some x2
def F_J9_floorDiv_7cf53 (p0 : Int32) (p1 : Int32) : Option (Int32) :=
  gd (decide (¬ (p1 : Int32) = 0)) (lt (p0 / p1) (fun y_2 => if 0 ≤ (p0 ^^^ p1) then F_J9_floorDiv_7cf53_j21 y_2 else if (y_2 * p1) = p0 then F_J9_floorDiv_7cf53_j21 y_2 else some (y_2 - 1)))
abbrev wz_J9_floorDiv_7cf53 : List Cond := .code yJ9_floorDiv_7cf53 cJ9_floorDiv_7cf53 3 (some .int) :: wALL
abbrev rm_J9_floorDiv_7cf53 : Room := { frames := 0, cells := 0, slots := 0, locals := 0 }
abbrev Q_J9_floorDiv_7cf53 (dC : Nat → ClassId) (dI : Nat → Nat → Nat) (cI : ClassId) (u : (Int32)) (A : Nat → Prop) : Array Value → State → Outcome → State → Prop := va_Qi (fun (r : Int32) (_ : Unit) => r = u) (fun _ => q_at dC dI cI A ([] : va_W)) A
set_option maxHeartbeats 4000000 in
set_option maxRecDepth 100000 in
theorem c_J9_floorDiv_7cf53 (l : Launch) (dC : Nat → ClassId) (dI : Nat → Nat → Nat) (cI : ClassId) (sz : Nat) (p0 : Int32) (p1 : Int32) (u : (Int32)) (hF : F_J9_floorDiv_7cf53 p0 p1 = some u) : Met l yJ9_floorDiv_7cf53 wz_J9_floorDiv_7cf53 rm_J9_floorDiv_7cf53 (va_Pc [.int p0, .int p1] (q_pre dC dI cI ([] : va_W) sz)) (Q_J9_floorDiv_7cf53 dC dI cI u (va_A ([] : va_W) sz)) 0 0 (va_A ([] : va_W) sz) := by
  refine q_ofWF (cc := cJ9_floorDiv_7cf53) (maxL := 3) (ret := (some .int)) (by decide +kernel) rfl ?_
  intro p e s m args below meth c s₁ B hml hv
  obtain ⟨rfl, hsz, hP, hK, hD0⟩ := hv
  have hx := B.exec
  have hb := B.bytes
  have hr := B.returns
  have hts := atoms_spec (ws := wz_J9_floorDiv_7cf53) B.pre
  have hta := wz_tl hts
  have hown : s.vm.findClass RJ9 = some m.cls := findClass_of_methodNamed B.named
  have hlocks := B.notSynchronized
  subst hsz
  have hD := hD0.self (sz := s.heap.size)
  generalize hAe : va_A ([] : va_W) s.heap.size = A at hD ⊢
  have hA : ∀ q : Nat, s.heap.size ≤ q → A q := fun q h => by rw [← hAe]; exact Or.inr h
  have hS : va_S A s.heap s.heap [] := va_S.rf
  have hP : va_P (dC, dI) vwCl ([] : va_W) s.heap := hP
  have hl := lv_entry ([.int p0, .int p1]) (n := 3) (Nat.le_of_ble_eq_true rfl)
  rw [lg_entry_eq]
  generalize (lg_sl ([.int p0, .int p1]) ++ List.replicate (3 - (lg_sl ([.int p0, .int p1])).length) Slot.unset).toArray = ls at hl ⊢
  have hl : lv_has ls 3 [(0, .int p0), (1, .int p1)] := hl
  obtain ⟨H, hHe⟩ : ∃ H, H = s.heap := ⟨_, rfl⟩
  have hS : va_S A s.heap H [] := by rw [hHe]; exact hS
  have hP : va_P (dC, dI) vwCl ([] : va_W) H := by rw [hHe]; exact hP
  rw [← hHe]
  unfold F_J9_floorDiv_7cf53 at hF
  have j21 : ∀ (x2 : Int32), F_J9_floorDiv_7cf53_j21 x2 = some u → ∀ (H : Heap) (locs : List Loc) (ls : Array Slot), va_P (dC, dI) vwCl ([] : va_W) H → va_D A ([] : va_W) → va_S A s.heap H locs → lv_has ls 3 [(2, .int x2)] → W p l e (headSpec wz_J9_floorDiv_7cf53 rm_J9_floorDiv_7cf53).room s m [.int p0, .int p1].toArray below meth c H locs 0 0 (MQ below (Q_J9_floorDiv_7cf53 dC dI cI u A) [.int p0, .int p1].toArray s 0 0 A) (F0 m 21 ls []) := by
    intro x2 hF H locs ls hP hD hS hl
    unfold F_J9_floorDiv_7cf53_j21 at hF
    refine lv_iload_n hx hb dJ9_floorDiv_7cf53_21 rfl (lv_at hl 0 rfl) ?_
    obtain rfl := Option.some.inj hF
    exact W.iret (v := x2) hx hb hr (fun t ht hW => ⟨⟨x2, (), rfl, rfl, by rw [ht]; exact hP, va_K.moved hW.alike hK, hD⟩, hS.F ht⟩) hS.2.2 dJ9_floorDiv_7cf53_22
  refine lv_iload_n hx hb dJ9_floorDiv_7cf53_0 rfl (lv_at hl 0 rfl) ?_
  refine lv_iload_n hx hb dJ9_floorDiv_7cf53_1 rfl (lv_at hl 1 rfl) ?_
  obtain ⟨g_1, hF⟩ := gd_some hF
  refine lv_idiv hx hb dJ9_floorDiv_7cf53_2 g_1 ?_
  obtain ⟨y_2, ey_2, hF⟩ := lt_some hF
  refine lv_eqi ey_2 ?_
  refine lv_istore_n (lv' := [(2, .int y_2), (0, .int p0), (1, .int p1)]) hx hb dJ9_floorDiv_7cf53_3 rfl hl (by decide) rfl (fun ls hl => ?_)
  refine lv_iload_n hx hb dJ9_floorDiv_7cf53_4 rfl (lv_at hl 1 rfl) ?_
  refine lv_iload_n hx hb dJ9_floorDiv_7cf53_5 rfl (lv_at hl 2 rfl) ?_
  refine lv_ixor hx hb dJ9_floorDiv_7cf53_6 ?_
  refine lv_if_ge (tgt := 21) hx hb dJ9_floorDiv_7cf53_7 (by decide) (fun c_3 => ?_) (fun c_3 => ?_)
  · have hF := it_t hF c_3
    exact j21 y_2 hF _ _ _ hP hD hS (lv_sub hl [0] rfl)
  · have hF := it_f hF c_3
    refine lv_iload_n hx hb dJ9_floorDiv_7cf53_10 rfl (lv_at hl 0 rfl) ?_
    refine lv_iload_n hx hb dJ9_floorDiv_7cf53_11 rfl (lv_at hl 2 rfl) ?_
    refine lv_imul hx hb dJ9_floorDiv_7cf53_12 ?_
    refine lv_iload_n hx hb dJ9_floorDiv_7cf53_13 rfl (lv_at hl 1 rfl) ?_
    refine lv_icmp_eq (tgt := 21) hx hb dJ9_floorDiv_7cf53_14 (by decide) (fun c_4 => ?_) (fun c_4 => ?_)
    · have hF := it_t hF c_4
      exact j21 y_2 hF _ _ _ hP hD hS (lv_sub hl [0] rfl)
    · have hF := it_f hF c_4
      refine lv_iload_n hx hb dJ9_floorDiv_7cf53_17 rfl (lv_at hl 0 rfl) ?_
      refine lv_iconst (v := 1) hx hb dJ9_floorDiv_7cf53_18 (by decide) ?_
      refine lv_isub hx hb dJ9_floorDiv_7cf53_19 ?_
      obtain rfl := Option.some.inj hF
      exact W.iret (v := (y_2 - 1)) hx hb hr (fun t ht hW => ⟨⟨(y_2 - 1), (), rfl, rfl, by rw [ht]; exact hP, va_K.moved hW.alike hK, hD⟩, hS.F ht⟩) hS.2.2 dJ9_floorDiv_7cf53_20

-- java/lang/Integer.bitCount(I)I
def F_J6_bitCount_0f7a4 (p0 : Int32) : (Int32) :=
  lt (p0 - ((p0.toUInt32 >>> ((1 : Int32).toUInt32 &&& Int32.toUInt32 31)).toInt32 &&& 1431655765)) (fun y_1 => lt ((y_1 &&& 858993459) + ((y_1.toUInt32 >>> ((2 : Int32).toUInt32 &&& Int32.toUInt32 31)).toInt32 &&& 858993459)) (fun y_2 => lt ((y_2 + (y_2.toUInt32 >>> ((4 : Int32).toUInt32 &&& Int32.toUInt32 31)).toInt32) &&& 252645135) (fun y_3 => lt (y_3 + (y_3.toUInt32 >>> ((8 : Int32).toUInt32 &&& Int32.toUInt32 31)).toInt32) (fun y_4 => lt (y_4 + (y_4.toUInt32 >>> ((16 : Int32).toUInt32 &&& Int32.toUInt32 31)).toInt32) (fun y_5 => (y_5 &&& 63))))))
abbrev wz_J6_bitCount_0f7a4 : List Cond := .code yJ6_bitCount_0f7a4 cJ6_bitCount_0f7a4 1 (some .int) :: wALL
abbrev rm_J6_bitCount_0f7a4 : Room := { frames := 0, cells := 0, slots := 0, locals := 0 }
abbrev Q_J6_bitCount_0f7a4 (dC : Nat → ClassId) (dI : Nat → Nat → Nat) (cI : ClassId) (u : (Int32)) (A : Nat → Prop) : Array Value → State → Outcome → State → Prop := va_Qi (fun (r : Int32) (_ : Unit) => r = u) (fun _ => q_at dC dI cI A ([] : va_W)) A
set_option maxHeartbeats 4000000 in
set_option maxRecDepth 100000 in
theorem c_J6_bitCount_0f7a4 (l : Launch) (dC : Nat → ClassId) (dI : Nat → Nat → Nat) (cI : ClassId) (sz : Nat) (p0 : Int32) (u : (Int32)) (hF : F_J6_bitCount_0f7a4 p0 = u) : Met l yJ6_bitCount_0f7a4 wz_J6_bitCount_0f7a4 rm_J6_bitCount_0f7a4 (va_Pc [.int p0] (q_pre dC dI cI ([] : va_W) sz)) (Q_J6_bitCount_0f7a4 dC dI cI u (va_A ([] : va_W) sz)) 0 0 (va_A ([] : va_W) sz) := by
  refine Met.ofW (cc := cJ6_bitCount_0f7a4) (maxL := 1) (ret := (some .int)) (by decide) rfl ?_
  intro p e s m args below meth c s₁ B hml hv
  obtain ⟨rfl, hsz, hP, hK, hD0⟩ := hv
  have hx := B.exec
  have hb := B.bytes
  have hr := B.returns
  have hts := atoms_spec (ws := wz_J6_bitCount_0f7a4) B.pre
  have hta := wz_tl hts
  have hown : s.vm.findClass RJ6 = some m.cls := findClass_of_methodNamed B.named
  have hlocks := B.notSynchronized
  subst hsz
  have hD := hD0.self (sz := s.heap.size)
  generalize hAe : va_A ([] : va_W) s.heap.size = A at hD ⊢
  have hA : ∀ q : Nat, s.heap.size ≤ q → A q := fun q h => by rw [← hAe]; exact Or.inr h
  have hS : va_S A s.heap s.heap [] := va_S.rf
  have hP : va_P (dC, dI) vwCl ([] : va_W) s.heap := hP
  have hl := lv_entry ([.int p0]) (n := 1) (Nat.le_of_ble_eq_true rfl)
  rw [lg_entry_eq]
  generalize (lg_sl ([.int p0]) ++ List.replicate (1 - (lg_sl ([.int p0])).length) Slot.unset).toArray = ls at hl ⊢
  have hl : lv_has ls 1 [(0, .int p0)] := hl
  obtain ⟨H, hHe⟩ : ∃ H, H = s.heap := ⟨_, rfl⟩
  have hS : va_S A s.heap H [] := by rw [hHe]; exact hS
  have hP : va_P (dC, dI) vwCl ([] : va_W) H := by rw [hHe]; exact hP
  rw [← hHe]
  unfold F_J6_bitCount_0f7a4 at hF
  refine lv_iload_n hx hb dJ6_bitCount_0f7a4_0 rfl (lv_at hl 0 rfl) ?_
  refine lv_iload_n hx hb dJ6_bitCount_0f7a4_1 rfl (lv_at hl 0 rfl) ?_
  refine lv_iconst (v := 1) hx hb dJ6_bitCount_0f7a4_2 (by decide) ?_
  refine lv_iushr hx hb dJ6_bitCount_0f7a4_3 rfl ?_
  refine lv_ldcw (v := 1431655765) hx hb hown (hta _ mA658) dJ6_bitCount_0f7a4_4 ?_
  refine lv_iand hx hb dJ6_bitCount_0f7a4_7 ?_
  refine lv_isub hx hb dJ6_bitCount_0f7a4_8 ?_
  obtain ⟨y_1, ey_1, hF⟩ := lt_some hF
  refine lv_eqi ey_1 ?_
  refine lv_istore_n (lv' := [(0, .int y_1)]) hx hb dJ6_bitCount_0f7a4_9 rfl hl (by decide) rfl (fun ls hl => ?_)
  refine lv_iload_n hx hb dJ6_bitCount_0f7a4_10 rfl (lv_at hl 0 rfl) ?_
  refine lv_ldcw (v := 858993459) hx hb hown (hta _ mA659) dJ6_bitCount_0f7a4_11 ?_
  refine lv_iand hx hb dJ6_bitCount_0f7a4_14 ?_
  refine lv_iload_n hx hb dJ6_bitCount_0f7a4_15 rfl (lv_at hl 0 rfl) ?_
  refine lv_iconst (v := 2) hx hb dJ6_bitCount_0f7a4_16 (by decide) ?_
  refine lv_iushr hx hb dJ6_bitCount_0f7a4_17 rfl ?_
  refine lv_ldcw (v := 858993459) hx hb hown (hta _ mA659) dJ6_bitCount_0f7a4_18 ?_
  refine lv_iand hx hb dJ6_bitCount_0f7a4_21 ?_
  refine lv_iadd hx hb dJ6_bitCount_0f7a4_22 ?_
  obtain ⟨y_2, ey_2, hF⟩ := lt_some hF
  refine lv_eqi ey_2 ?_
  refine lv_istore_n (lv' := [(0, .int y_2)]) hx hb dJ6_bitCount_0f7a4_23 rfl hl (by decide) rfl (fun ls hl => ?_)
  refine lv_iload_n hx hb dJ6_bitCount_0f7a4_24 rfl (lv_at hl 0 rfl) ?_
  refine lv_iload_n hx hb dJ6_bitCount_0f7a4_25 rfl (lv_at hl 0 rfl) ?_
  refine lv_iconst (v := 4) hx hb dJ6_bitCount_0f7a4_26 (by decide) ?_
  refine lv_iushr hx hb dJ6_bitCount_0f7a4_27 rfl ?_
  refine lv_iadd hx hb dJ6_bitCount_0f7a4_28 ?_
  refine lv_ldcw (v := 252645135) hx hb hown (hta _ mA660) dJ6_bitCount_0f7a4_29 ?_
  refine lv_iand hx hb dJ6_bitCount_0f7a4_32 ?_
  obtain ⟨y_3, ey_3, hF⟩ := lt_some hF
  refine lv_eqi ey_3 ?_
  refine lv_istore_n (lv' := [(0, .int y_3)]) hx hb dJ6_bitCount_0f7a4_33 rfl hl (by decide) rfl (fun ls hl => ?_)
  refine lv_iload_n hx hb dJ6_bitCount_0f7a4_34 rfl (lv_at hl 0 rfl) ?_
  refine lv_iload_n hx hb dJ6_bitCount_0f7a4_35 rfl (lv_at hl 0 rfl) ?_
  refine lv_bipush (v := 8) hx hb dJ6_bitCount_0f7a4_36 (by decide) ?_
  refine lv_iushr hx hb dJ6_bitCount_0f7a4_38 rfl ?_
  refine lv_iadd hx hb dJ6_bitCount_0f7a4_39 ?_
  obtain ⟨y_4, ey_4, hF⟩ := lt_some hF
  refine lv_eqi ey_4 ?_
  refine lv_istore_n (lv' := [(0, .int y_4)]) hx hb dJ6_bitCount_0f7a4_40 rfl hl (by decide) rfl (fun ls hl => ?_)
  refine lv_iload_n hx hb dJ6_bitCount_0f7a4_41 rfl (lv_at hl 0 rfl) ?_
  refine lv_iload_n hx hb dJ6_bitCount_0f7a4_42 rfl (lv_at hl 0 rfl) ?_
  refine lv_bipush (v := 16) hx hb dJ6_bitCount_0f7a4_43 (by decide) ?_
  refine lv_iushr hx hb dJ6_bitCount_0f7a4_45 rfl ?_
  refine lv_iadd hx hb dJ6_bitCount_0f7a4_46 ?_
  obtain ⟨y_5, ey_5, hF⟩ := lt_some hF
  refine lv_eqi ey_5 ?_
  refine lv_istore_n (lv' := [(0, .int y_5)]) hx hb dJ6_bitCount_0f7a4_47 rfl hl (by decide) rfl (fun ls hl => ?_)
  refine lv_iload_n hx hb dJ6_bitCount_0f7a4_48 rfl (lv_at hl 0 rfl) ?_
  refine lv_bipush (v := 63) hx hb dJ6_bitCount_0f7a4_49 (by decide) ?_
  refine lv_iand hx hb dJ6_bitCount_0f7a4_51 ?_
  subst hF
  exact W.iret (v := (y_5 &&& 63)) hx hb hr (fun t ht hW => ⟨⟨(y_5 &&& 63), (), rfl, rfl, by rw [ht]; exact hP, va_K.moved hW.alike hK, hD⟩, hS.F ht⟩) hS.2.2 dJ6_bitCount_0f7a4_52
