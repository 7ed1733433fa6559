-- StrokeOutlinerModel.nearest(II)I
def F_X12_nearest_j125 (v0_3 : Int32) (x3 : Int32) : Option (Int32 × Int32) :=
  some (x3, v0_3)
def F_X12_nearest_j119 (x3 : Int32) (x4 : Int32) : Option (Sum (Int32 × Int32) (Int32)) :=
  lt (x4 + 1) (fun y_1 => some (.inl (x3, y_1)))
def F_X12_nearest_j112 (x5 : Int32) (t0 : Int32) : Option (Sum (Int32 × Int32) (Int32)) :=
  lt (x5 + 1) (fun y_2 => some (.inl (t0, y_2)))
def F_X12_nearest_j97 (x5 : Int32) (x6 : Int32) (x7 : Int32) : Option (Sum (Int32 × Int32) (Int32)) :=
  F_X12_nearest_j112 x5 ((x6 * x6) + (x7 * x7))
def F_X12_nearest_b42 (v0_0 : Nat → Int32) (x1 : Int32) (x2 : Int32) (x4 : Int32) (s42 : Int32 × Int32) : Option (Sum (Int32 × Int32) (Int32)) :=
  obd (F_X12_points v0_0 x4) (fun u_3 => if u_3 ≤ s42.2 then some (.inr s42.1) else obd (F_X12_x v0_0 x4 s42.2) (fun u_5 => lt (u_5 - x1) (fun y_6 => obd (F_X12_y v0_0 x4 s42.2) (fun u_7 => lt (u_7 - x2) (fun y_8 => if s42.1 = (-1) then F_X12_nearest_j97 s42.2 y_6 y_8 else if s42.1 ≤ ((y_6 * y_6) + (y_8 * y_8)) then F_X12_nearest_j112 s42.2 s42.1 else F_X12_nearest_j97 s42.2 y_6 y_8)))))
def F_X12_nearest_j42 (n : Nat) (v0_0 : Nat → Int32) (x1 : Int32) (x2 : Int32) (x3 : Int32) (x4 : Int32) (x5 : Int32) : Option (Sum (Int32 × Int32) (Int32)) :=
  obd (lpq (F_X12_nearest_b42 v0_0 x1 x2 x4) n (x3, x5)) (fun x_42 => F_X12_nearest_j119 x_42 x4)
def F_X12_nearest_b27 (n : Nat) (v0_0 : Nat → Int32) (x1 : Int32) (x2 : Int32) (s27 : Int32 × Int32) : Option (Sum (Int32 × Int32) (Int32)) :=
  gd (decide (vpi 13 86)) (if (v0_0 (13 : Int32).toNatClampNeg) ≤ s27.2 then some (.inr s27.1) else F_X12_nearest_j42 n v0_0 x1 x2 s27.1 s27.2 0)
def F_X12_nearest_j27 (n : Nat) (v0_3 : Int32) (v0_0 : Nat → Int32) (x1 : Int32) (x2 : Int32) (x3 : Int32) (x4 : Int32) : Option (Int32 × Int32) :=
  obd (lpq (F_X12_nearest_b27 n v0_0 x1 x2) n (x3, x4)) (fun x_27 => F_X12_nearest_j125 v0_3 x_27)
def F_X12_nearest_j14 (n : Nat) (v0_0 : Nat → Int32) (x1 : Int32) (x2 : Int32) (t1 : Int32) : Option (Int32 × Int32) :=
  lt (F_X12_refused t1) (fun u_13 => if u_13.1 = 0 then F_X12_nearest_j27 n u_13.2 v0_0 x1 x2 (-1) 0 else some (0, u_13.2))
def F_X12_nearest (n : Nat) (v0_0 : Nat → Int32) (p1 : Int32) (p2 : Int32) : Option (Int32 × Int32) :=
  lt (F_X12_isPlace p1 p2) (fun u_15 => if u_15 = 0 then F_X12_nearest_j14 n v0_0 p1 p2 1 else F_X12_nearest_j14 n v0_0 p1 p2 0)
abbrev wd_X12_nearest (cI : ClassId) (a0 : Nat → Nat) (v0_2 : Int32) (v0_3 : Int32) (v0_5 : Int32) (v0_12 : Int32) (v0_13 : Int32) (v0_16 : Int32) (v0_17 : Int32) (v0_21 : Int32) (v0_23 : Int32) (v0_24 : Int32) (v0_25 : Int32) (v0_26 : Int32) (v0_29 : Int32) (v0_30 : Int64) (v0_0 : Nat → Int32) : va_W := [(a0 0, .inr (11, [.ref (a0 1), .ref (a0 2), .int v0_2, .int v0_3, .ref (a0 5), .int v0_5, .ref (a0 7), .ref (a0 8), .ref (a0 9), .ref (a0 10), .ref (a0 11), .ref (a0 12), .int v0_12, .int v0_13, .ref (a0 15), .ref (a0 16), .int v0_16, .int v0_17, .ref (a0 19), .ref (a0 20), .ref (a0 21), .int v0_21, .ref (a0 23), .int v0_23, .int v0_24, .int v0_25, .int v0_26, .ref (a0 28), .ref (a0 29), .int v0_29, .long v0_30])), (a0 1, .inl (cI, 86, .inl v0_0))]
abbrev wz_X12_nearest : List Cond := .code yX12_nearest cX12_nearest 8 (some .int) :: wALL
abbrev rm_X12_nearest : Room := { frames := 2, cells := 0, slots := 0, locals := 43 }
abbrev Q_X12_nearest (dC : Nat → ClassId) (dI : Nat → Nat → Nat) (cI : ClassId) (a0 : Nat → Nat) (v0_2 : Int32) (v0_5 : Int32) (v0_12 : Int32) (v0_13 : Int32) (v0_16 : Int32) (v0_17 : Int32) (v0_21 : Int32) (v0_23 : Int32) (v0_24 : Int32) (v0_25 : Int32) (v0_26 : Int32) (v0_29 : Int32) (v0_30 : Int64) (v0_0 : Nat → Int32) (u : (Int32 × Int32)) (A : Nat → Prop) : Array Value → State → Outcome → State → Prop := va_Qi (fun (r : Int32) (_ : Unit) => r = u.1) (fun _ => q_at dC dI cI A (wd_X12_nearest cI a0 v0_2 u.2 v0_5 v0_12 v0_13 v0_16 v0_17 v0_21 v0_23 v0_24 v0_25 v0_26 v0_29 v0_30 v0_0)) A
set_option maxHeartbeats 4000000 in
set_option maxRecDepth 100000 in
theorem c_X12_nearest (l : Launch) (dC : Nat → ClassId) (dI : Nat → Nat → Nat) (cI : ClassId) (sz : Nat) (a0 : Nat → Nat) (v0_2 : Int32) (v0_3 : Int32) (v0_5 : Int32) (v0_12 : Int32) (v0_13 : Int32) (v0_16 : Int32) (v0_17 : Int32) (v0_21 : Int32) (v0_23 : Int32) (v0_24 : Int32) (v0_25 : Int32) (v0_26 : Int32) (v0_29 : Int32) (v0_30 : Int64) (v0_0 : Nat → Int32) (p1 : Int32) (p2 : Int32) (n : Nat) (u : (Int32 × Int32)) (hF : F_X12_nearest n v0_0 p1 p2 = some u) : Met l yX12_nearest wz_X12_nearest rm_X12_nearest (va_Pc [.ref (a0 0), .int p1, .int p2] (q_pre dC dI cI (wd_X12_nearest cI a0 v0_2 v0_3 v0_5 v0_12 v0_13 v0_16 v0_17 v0_21 v0_23 v0_24 v0_25 v0_26 v0_29 v0_30 v0_0) sz)) (Q_X12_nearest dC dI cI a0 v0_2 v0_5 v0_12 v0_13 v0_16 v0_17 v0_21 v0_23 v0_24 v0_25 v0_26 v0_29 v0_30 v0_0 u (va_A (wd_X12_nearest cI a0 v0_2 v0_3 v0_5 v0_12 v0_13 v0_16 v0_17 v0_21 v0_23 v0_24 v0_25 v0_26 v0_29 v0_30 v0_0) sz)) 0 0 (va_A (wd_X12_nearest cI a0 v0_2 v0_3 v0_5 v0_12 v0_13 v0_16 v0_17 v0_21 v0_23 v0_24 v0_25 v0_26 v0_29 v0_30 v0_0) sz) := by
  refine Met.ofW (cc := cX12_nearest) (maxL := 8) (ret := (some .int)) (by decide) rfl ?_
  intro p e s m args below meth c s₁ B hml hv
  obtain ⟨rfl, hsz, hP, hK, hD0⟩ := hv
  have hx := B.exec
  have hb := B.bytes
  have hr := B.returns
  have hts := atoms_spec (ws := wz_X12_nearest) B.pre
  have hta := wz_tl hts
  have hown : s.vm.findClass RX12 = some m.cls := findClass_of_methodNamed B.named
  have hlocks := B.notSynchronized
  subst hsz
  have hD := hD0.self (sz := s.heap.size)
  generalize hAe : va_A (wd_X12_nearest cI a0 v0_2 v0_3 v0_5 v0_12 v0_13 v0_16 v0_17 v0_21 v0_23 v0_24 v0_25 v0_26 v0_29 v0_30 v0_0) s.heap.size = A at hD ⊢
  have hA : ∀ q : Nat, s.heap.size ≤ q → A q := fun q h => by rw [← hAe]; exact Or.inr h
  have hS : va_S A s.heap s.heap [] := va_S.rf
  have hP : va_P (dC, dI) vwCl (wd_X12_nearest cI a0 v0_2 v0_3 v0_5 v0_12 v0_13 v0_16 v0_17 v0_21 v0_23 v0_24 v0_25 v0_26 v0_29 v0_30 v0_0) s.heap := hP
  have hl := lv_entry ([.ref (a0 0), .int p1, .int p2]) (n := 8) (Nat.le_of_ble_eq_true rfl)
  rw [lg_entry_eq]
  generalize (lg_sl ([.ref (a0 0), .int p1, .int p2]) ++ List.replicate (8 - (lg_sl ([.ref (a0 0), .int p1, .int p2])).length) Slot.unset).toArray = ls at hl ⊢
  have hl : lv_has ls 8 [(0, .ref (a0 0)), (1, .int p1), (2, .int p2)] := hl
  obtain ⟨H, hHe⟩ : ∃ H, H = s.heap := ⟨_, rfl⟩
  have hS : va_S A s.heap H [] := by rw [hHe]; exact hS
  have hP : va_P (dC, dI) vwCl (wd_X12_nearest cI a0 v0_2 v0_3 v0_5 v0_12 v0_13 v0_16 v0_17 v0_21 v0_23 v0_24 v0_25 v0_26 v0_29 v0_30 v0_0) H := by rw [hHe]; exact hP
  rw [← hHe]
  unfold F_X12_nearest at hF
  have j125 : ∀ (v0_3 : Int32) (x3 : Int32), F_X12_nearest_j125 v0_3 x3 = some u → ∀ (H : Heap) (locs : List Loc) (ls : Array Slot), va_P (dC, dI) vwCl (wd_X12_nearest cI a0 v0_2 v0_3 v0_5 v0_12 v0_13 v0_16 v0_17 v0_21 v0_23 v0_24 v0_25 v0_26 v0_29 v0_30 v0_0) H → va_D A (wd_X12_nearest cI a0 v0_2 v0_3 v0_5 v0_12 v0_13 v0_16 v0_17 v0_21 v0_23 v0_24 v0_25 v0_26 v0_29 v0_30 v0_0) → va_S A s.heap H locs → lv_has ls 8 [(3, .int x3)] → W p l e (headSpec wz_X12_nearest rm_X12_nearest).room s m [.ref (a0 0), .int p1, .int p2].toArray below meth c H locs 0 0 (MQ below (Q_X12_nearest dC dI cI a0 v0_2 v0_5 v0_12 v0_13 v0_16 v0_17 v0_21 v0_23 v0_24 v0_25 v0_26 v0_29 v0_30 v0_0 u A) [.ref (a0 0), .int p1, .int p2].toArray s 0 0 A) (F0 m 125 ls []) := by
    intro v0_3 x3 hF H locs ls hP hD hS hl
    unfold F_X12_nearest_j125 at hF
    refine lv_iload_n hx hb dX12_nearest_125 rfl (lv_at hl 0 rfl) ?_
    obtain rfl := Option.some.inj hF
    exact W.iret (v := x3) hx hb hr (fun t ht hW => ⟨⟨x3, (), rfl, rfl, by rw [ht]; exact hP, va_K.moved hW.alike hK, hD⟩, hS.F ht⟩) hS.2.2 dX12_nearest_126
  have j27 : ∀ (v0_3 : Int32) (x1 : Int32) (x2 : Int32) (x3 : Int32) (x4 : Int32), F_X12_nearest_j27 n v0_3 v0_0 x1 x2 x3 x4 = some u → ∀ (H : Heap) (locs : List Loc) (ls : Array Slot), va_P (dC, dI) vwCl (wd_X12_nearest cI a0 v0_2 v0_3 v0_5 v0_12 v0_13 v0_16 v0_17 v0_21 v0_23 v0_24 v0_25 v0_26 v0_29 v0_30 v0_0) H → va_D A (wd_X12_nearest cI a0 v0_2 v0_3 v0_5 v0_12 v0_13 v0_16 v0_17 v0_21 v0_23 v0_24 v0_25 v0_26 v0_29 v0_30 v0_0) → va_S A s.heap H locs → lv_has ls 8 [(0, .ref (a0 0)), (1, .int x1), (2, .int x2), (3, .int x3), (4, .int x4)] → W p l e (headSpec wz_X12_nearest rm_X12_nearest).room s m [.ref (a0 0), .int p1, .int p2].toArray below meth c H locs 0 0 (MQ below (Q_X12_nearest dC dI cI a0 v0_2 v0_5 v0_12 v0_13 v0_16 v0_17 v0_21 v0_23 v0_24 v0_25 v0_26 v0_29 v0_30 v0_0 u A) [.ref (a0 0), .int p1, .int p2].toArray s 0 0 A) (F0 m 27 ls []) := by
    intro v0_3 x1 x2 x3 x4 hF H locs ls hP hD hS hl
    unfold F_X12_nearest_j27 at hF
    obtain ⟨x_27, hL_27, hE_27⟩ := obd_some hF
    have kl_27 : ∀ (k : Nat) (s27 : Int32 × Int32), lpq (F_X12_nearest_b27 n v0_0 x1 x2) k s27 = some x_27 → ∀ (H : Heap) (locs : List Loc) (ls : Array Slot), va_P (dC, dI) vwCl (wd_X12_nearest cI a0 v0_2 v0_3 v0_5 v0_12 v0_13 v0_16 v0_17 v0_21 v0_23 v0_24 v0_25 v0_26 v0_29 v0_30 v0_0) H → va_D A (wd_X12_nearest cI a0 v0_2 v0_3 v0_5 v0_12 v0_13 v0_16 v0_17 v0_21 v0_23 v0_24 v0_25 v0_26 v0_29 v0_30 v0_0) → va_S A s.heap H locs → lv_has ls 8 [(0, .ref (a0 0)), (1, .int x1), (2, .int x2), (3, .int s27.1), (4, .int s27.2)] → W p l e (headSpec wz_X12_nearest rm_X12_nearest).room s m [.ref (a0 0), .int p1, .int p2].toArray below meth c H locs 0 0 (MQ below (Q_X12_nearest dC dI cI a0 v0_2 v0_5 v0_12 v0_13 v0_16 v0_17 v0_21 v0_23 v0_24 v0_25 v0_26 v0_29 v0_30 v0_0 u A) [.ref (a0 0), .int p1, .int p2].toArray s 0 0 A) (F0 m 27 ls []) := by
      intro k
      induction k with
      | zero => intro s27 h; exact absurd h lpq_zero
      | succ k ih_27 =>
        intro s27 h H locs ls hP hD hS hl
        obtain ⟨o_27, hF, hO_27⟩ := lpq_succ h
        unfold F_X12_nearest_b27 at hF
        have j119 : ∀ (x3 : Int32) (x4 : Int32), F_X12_nearest_j119 x3 x4 = some o_27 → ∀ (H : Heap) (locs : List Loc) (ls : Array Slot), va_P (dC, dI) vwCl (wd_X12_nearest cI a0 v0_2 v0_3 v0_5 v0_12 v0_13 v0_16 v0_17 v0_21 v0_23 v0_24 v0_25 v0_26 v0_29 v0_30 v0_0) H → va_D A (wd_X12_nearest cI a0 v0_2 v0_3 v0_5 v0_12 v0_13 v0_16 v0_17 v0_21 v0_23 v0_24 v0_25 v0_26 v0_29 v0_30 v0_0) → va_S A s.heap H locs → lv_has ls 8 [(0, .ref (a0 0)), (1, .int x1), (2, .int x2), (3, .int x3), (4, .int x4)] → W p l e (headSpec wz_X12_nearest rm_X12_nearest).room s m [.ref (a0 0), .int p1, .int p2].toArray below meth c H locs 0 0 (MQ below (Q_X12_nearest dC dI cI a0 v0_2 v0_5 v0_12 v0_13 v0_16 v0_17 v0_21 v0_23 v0_24 v0_25 v0_26 v0_29 v0_30 v0_0 u A) [.ref (a0 0), .int p1, .int p2].toArray s 0 0 A) (F0 m 119 ls []) := by
          intro x3 x4 hF H locs ls hP hD hS hl
          unfold F_X12_nearest_j119 at hF
          obtain ⟨y_1, ey_1, hF⟩ := lt_some hF
          refine lv_iinc (v := y_1) (lv' := [(4, .int y_1), (0, .ref (a0 0)), (1, .int x1), (2, .int x2), (3, .int x3)]) hx hb dX12_nearest_119 hl (k := 4) rfl (by rw [ey_1]; rfl) (by decide) rfl (fun ls hl => ?_)
          refine lv_goto (tgt := 27) hx hb dX12_nearest_122 (by decide) ?_
          obtain rfl := Option.some.inj hF
          exact ih_27 _ hO_27 _ _ _ hP hD hS (lv_sub hl [1, 2, 3, 4, 0] rfl)
        have j42 : ∀ (x3 : Int32) (x4 : Int32) (x5 : Int32), F_X12_nearest_j42 n v0_0 x1 x2 x3 x4 x5 = some o_27 → ∀ (H : Heap) (locs : List Loc) (ls : Array Slot), va_P (dC, dI) vwCl (wd_X12_nearest cI a0 v0_2 v0_3 v0_5 v0_12 v0_13 v0_16 v0_17 v0_21 v0_23 v0_24 v0_25 v0_26 v0_29 v0_30 v0_0) H → va_D A (wd_X12_nearest cI a0 v0_2 v0_3 v0_5 v0_12 v0_13 v0_16 v0_17 v0_21 v0_23 v0_24 v0_25 v0_26 v0_29 v0_30 v0_0) → va_S A s.heap H locs → lv_has ls 8 [(0, .ref (a0 0)), (1, .int x1), (2, .int x2), (3, .int x3), (4, .int x4), (5, .int x5)] → W p l e (headSpec wz_X12_nearest rm_X12_nearest).room s m [.ref (a0 0), .int p1, .int p2].toArray below meth c H locs 0 0 (MQ below (Q_X12_nearest dC dI cI a0 v0_2 v0_5 v0_12 v0_13 v0_16 v0_17 v0_21 v0_23 v0_24 v0_25 v0_26 v0_29 v0_30 v0_0 u A) [.ref (a0 0), .int p1, .int p2].toArray s 0 0 A) (F0 m 42 ls []) := by
          intro x3 x4 x5 hF H locs ls hP hD hS hl
          unfold F_X12_nearest_j42 at hF
          obtain ⟨x_42, hL_42, hE_42⟩ := obd_some hF
          have kl_42 : ∀ (k : Nat) (s42 : Int32 × Int32), lpq (F_X12_nearest_b42 v0_0 x1 x2 x4) k s42 = some x_42 → ∀ (H : Heap) (locs : List Loc) (ls : Array Slot), va_P (dC, dI) vwCl (wd_X12_nearest cI a0 v0_2 v0_3 v0_5 v0_12 v0_13 v0_16 v0_17 v0_21 v0_23 v0_24 v0_25 v0_26 v0_29 v0_30 v0_0) H → va_D A (wd_X12_nearest cI a0 v0_2 v0_3 v0_5 v0_12 v0_13 v0_16 v0_17 v0_21 v0_23 v0_24 v0_25 v0_26 v0_29 v0_30 v0_0) → va_S A s.heap H locs → lv_has ls 8 [(0, .ref (a0 0)), (1, .int x1), (2, .int x2), (3, .int s42.1), (4, .int x4), (5, .int s42.2)] → W p l e (headSpec wz_X12_nearest rm_X12_nearest).room s m [.ref (a0 0), .int p1, .int p2].toArray below meth c H locs 0 0 (MQ below (Q_X12_nearest dC dI cI a0 v0_2 v0_5 v0_12 v0_13 v0_16 v0_17 v0_21 v0_23 v0_24 v0_25 v0_26 v0_29 v0_30 v0_0 u A) [.ref (a0 0), .int p1, .int p2].toArray s 0 0 A) (F0 m 42 ls []) := by
            intro k
            induction k with
            | zero => intro s42 h; exact absurd h lpq_zero
            | succ k ih_42 =>
              intro s42 h H locs ls hP hD hS hl
              obtain ⟨o_42, hF, hO_42⟩ := lpq_succ h
              unfold F_X12_nearest_b42 at hF
              have j112 : ∀ (x5 : Int32) (t0 : Int32), F_X12_nearest_j112 x5 t0 = some o_42 → ∀ (H : Heap) (locs : List Loc) (ls : Array Slot), va_P (dC, dI) vwCl (wd_X12_nearest cI a0 v0_2 v0_3 v0_5 v0_12 v0_13 v0_16 v0_17 v0_21 v0_23 v0_24 v0_25 v0_26 v0_29 v0_30 v0_0) H → va_D A (wd_X12_nearest cI a0 v0_2 v0_3 v0_5 v0_12 v0_13 v0_16 v0_17 v0_21 v0_23 v0_24 v0_25 v0_26 v0_29 v0_30 v0_0) → va_S A s.heap H locs → lv_has ls 8 [(0, .ref (a0 0)), (1, .int x1), (2, .int x2), (4, .int x4), (5, .int x5)] → W p l e (headSpec wz_X12_nearest rm_X12_nearest).room s m [.ref (a0 0), .int p1, .int p2].toArray below meth c H locs 0 0 (MQ below (Q_X12_nearest dC dI cI a0 v0_2 v0_5 v0_12 v0_13 v0_16 v0_17 v0_21 v0_23 v0_24 v0_25 v0_26 v0_29 v0_30 v0_0 u A) [.ref (a0 0), .int p1, .int p2].toArray s 0 0 A) (F0 m 112 ls [.int t0]) := by
                intro x5 t0 hF H locs ls hP hD hS hl
                unfold F_X12_nearest_j112 at hF
                refine lv_istore_n (lv' := [(3, .int t0), (0, .ref (a0 0)), (1, .int x1), (2, .int x2), (4, .int x4), (5, .int x5)]) hx hb dX12_nearest_112 rfl hl (by decide) rfl (fun ls hl => ?_)
                obtain ⟨y_2, ey_2, hF⟩ := lt_some hF
                refine lv_iinc (v := y_2) (lv' := [(5, .int y_2), (3, .int t0), (0, .ref (a0 0)), (1, .int x1), (2, .int x2), (4, .int x4)]) hx hb dX12_nearest_113 hl (k := 5) rfl (by rw [ey_2]; rfl) (by decide) rfl (fun ls hl => ?_)
                refine lv_goto (tgt := 42) hx hb dX12_nearest_116 (by decide) ?_
                obtain rfl := Option.some.inj hF
                exact ih_42 _ hO_42 _ _ _ hP hD hS (lv_sub hl [2, 3, 4, 1, 5, 0] rfl)
              have j97 : ∀ (x5 : Int32) (x6 : Int32) (x7 : Int32), F_X12_nearest_j97 x5 x6 x7 = some o_42 → ∀ (H : Heap) (locs : List Loc) (ls : Array Slot), va_P (dC, dI) vwCl (wd_X12_nearest cI a0 v0_2 v0_3 v0_5 v0_12 v0_13 v0_16 v0_17 v0_21 v0_23 v0_24 v0_25 v0_26 v0_29 v0_30 v0_0) H → va_D A (wd_X12_nearest cI a0 v0_2 v0_3 v0_5 v0_12 v0_13 v0_16 v0_17 v0_21 v0_23 v0_24 v0_25 v0_26 v0_29 v0_30 v0_0) → va_S A s.heap H locs → lv_has ls 8 [(0, .ref (a0 0)), (1, .int x1), (2, .int x2), (4, .int x4), (5, .int x5), (6, .int x6), (7, .int x7)] → W p l e (headSpec wz_X12_nearest rm_X12_nearest).room s m [.ref (a0 0), .int p1, .int p2].toArray below meth c H locs 0 0 (MQ below (Q_X12_nearest dC dI cI a0 v0_2 v0_5 v0_12 v0_13 v0_16 v0_17 v0_21 v0_23 v0_24 v0_25 v0_26 v0_29 v0_30 v0_0 u A) [.ref (a0 0), .int p1, .int p2].toArray s 0 0 A) (F0 m 97 ls []) := by
                intro x5 x6 x7 hF H locs ls hP hD hS hl
                unfold F_X12_nearest_j97 at hF
                refine lv_iload hx hb dX12_nearest_97 (lv_at hl 5 rfl) ?_
                refine lv_iload hx hb dX12_nearest_99 (lv_at hl 5 rfl) ?_
                refine lv_imul hx hb dX12_nearest_101 ?_
                refine lv_iload hx hb dX12_nearest_102 (lv_at hl 6 rfl) ?_
                refine lv_iload hx hb dX12_nearest_104 (lv_at hl 6 rfl) ?_
                refine lv_imul hx hb dX12_nearest_106 ?_
                refine lv_iadd hx hb dX12_nearest_107 ?_
                refine lv_goto (tgt := 112) hx hb dX12_nearest_108 (by decide) ?_
                exact j112 x5 ((x6 * x6) + (x7 * x7)) hF _ _ _ hP hD hS (lv_sub hl [0, 1, 2, 3, 4] rfl)
              refine lv_iload hx hb dX12_nearest_42 (lv_at hl 5 rfl) ?_
              refine lv_aload_n hx hb dX12_nearest_44 rfl (lv_at hl 0 rfl) ?_
              refine lv_iload hx hb dX12_nearest_45 (lv_at hl 4 rfl) ?_
              obtain ⟨u_3, hu_3, hF⟩ := obd_some hF
              have hPc := hP.sub (ws' := (wd_X12_points cI a0 v0_2 v0_3 v0_5 v0_12 v0_13 v0_16 v0_17 v0_21 v0_23 v0_24 v0_25 v0_26 v0_29 v0_30 v0_0)) [0, 1] rfl
              have hDc := hD.sub (ws' := (wd_X12_points cI a0 v0_2 v0_3 v0_5 v0_12 v0_13 v0_16 v0_17 v0_21 v0_23 v0_24 v0_25 v0_26 v0_29 v0_30 v0_0)) [0, 1] rfl rfl
              refine q_calli (wc := (wd_X12_points cI a0 v0_2 v0_3 v0_5 v0_12 v0_13 v0_16 v0_17 v0_21 v0_23 v0_24 v0_25 v0_26 v0_29 v0_30 v0_0)) (w1 := (wd_X12_points cI a0 v0_2 v0_3 v0_5 v0_12 v0_13 v0_16 v0_17 v0_21 v0_23 v0_24 v0_25 v0_26 v0_29 v0_30 v0_0)) (ws' := (wd_X12_nearest cI a0 v0_2 v0_3 v0_5 v0_12 v0_13 v0_16 v0_17 v0_21 v0_23 v0_24 v0_25 v0_26 v0_29 v0_30 v0_0)) hP hD hS hA [0, 1] [] [0, 1] rfl rfl rfl (by decide) rfl rfl (va_runV (As := [.int x4]) (rest := [.int s42.2]) ⟨hx, hb, hml, hown, hta⟩ (c_X12_points l dC dI cI H.size a0 v0_2 v0_3 v0_5 v0_12 v0_13 v0_16 v0_17 v0_21 v0_23 v0_24 v0_25 v0_26 v0_29 v0_30 v0_0 x4 u_3 hu_3) (cwV 1 hta (ga_V mA839 mA840 mA841 mA814 mA827) rfl rfl rfl (by decide +kernel) ⟨Nat.le_of_ble_eq_true rfl, Nat.le_of_ble_eq_true rfl⟩) ⟨q_fb, va_recv hK hP (ci := 11) (q0 := 0) rfl rfl, q_ps hPc hK hDc⟩ rfl rfl hl.1 rfl (lv_room (Nat.le_of_ble_eq_true rfl)) dX12_nearest_47 ⟨Nat.zero_le _, Nat.zero_le _⟩) (fun H locs hP hD hS => ?_)
              refine lv_icmp_ge (tgt := 119) hx hb dX12_nearest_50 (by decide) (fun c_4 => ?_) (fun c_4 => ?_)
              · have hF := it_t hF c_4
                obtain rfl := Option.some.inj hF
                obtain rfl := lpq_x hO_42
                have hF := hE_42
                exact j119 s42.1 x4 hF _ _ _ hP hD hS (lv_sub hl [0, 1, 2, 3, 4] rfl)
              · have hF := it_f hF c_4
                refine lv_aload_n hx hb dX12_nearest_53 rfl (lv_at hl 0 rfl) ?_
                refine lv_iload hx hb dX12_nearest_54 (lv_at hl 4 rfl) ?_
                refine lv_iload hx hb dX12_nearest_56 (lv_at hl 5 rfl) ?_
                obtain ⟨u_5, hu_5, hF⟩ := obd_some hF
                have hPc := hP.sub (ws' := (wd_X12_x cI a0 v0_2 v0_3 v0_5 v0_12 v0_13 v0_16 v0_17 v0_21 v0_23 v0_24 v0_25 v0_26 v0_29 v0_30 v0_0)) [0, 1] rfl
                have hDc := hD.sub (ws' := (wd_X12_x cI a0 v0_2 v0_3 v0_5 v0_12 v0_13 v0_16 v0_17 v0_21 v0_23 v0_24 v0_25 v0_26 v0_29 v0_30 v0_0)) [0, 1] rfl rfl
                refine q_calli (wc := (wd_X12_x cI a0 v0_2 v0_3 v0_5 v0_12 v0_13 v0_16 v0_17 v0_21 v0_23 v0_24 v0_25 v0_26 v0_29 v0_30 v0_0)) (w1 := (wd_X12_x cI a0 v0_2 v0_3 v0_5 v0_12 v0_13 v0_16 v0_17 v0_21 v0_23 v0_24 v0_25 v0_26 v0_29 v0_30 v0_0)) (ws' := (wd_X12_nearest cI a0 v0_2 v0_3 v0_5 v0_12 v0_13 v0_16 v0_17 v0_21 v0_23 v0_24 v0_25 v0_26 v0_29 v0_30 v0_0)) hP hD hS hA [0, 1] [] [0, 1] rfl rfl rfl (by decide) rfl rfl (va_runV (As := [.int x4, .int s42.2]) (rest := []) ⟨hx, hb, hml, hown, hta⟩ (c_X12_x l dC dI cI H.size a0 v0_2 v0_3 v0_5 v0_12 v0_13 v0_16 v0_17 v0_21 v0_23 v0_24 v0_25 v0_26 v0_29 v0_30 v0_0 x4 s42.2 u_5 hu_5) (cwV 2 hta (ga_V mA870 mA871 mA872 mA814 mA831) rfl rfl rfl (by decide +kernel) ⟨Nat.le_of_ble_eq_true rfl, Nat.le_of_ble_eq_true rfl⟩) ⟨q_fb, va_recv hK hP (ci := 11) (q0 := 0) rfl rfl, q_ps hPc hK hDc⟩ rfl rfl hl.1 rfl (lv_room (Nat.le_of_ble_eq_true rfl)) dX12_nearest_58 ⟨Nat.zero_le _, Nat.zero_le _⟩) (fun H locs hP hD hS => ?_)
                refine lv_iload_n hx hb dX12_nearest_61 rfl (lv_at hl 1 rfl) ?_
                refine lv_isub hx hb dX12_nearest_62 ?_
                obtain ⟨y_6, ey_6, hF⟩ := lt_some hF
                refine lv_eqi ey_6 ?_
                refine lv_istore (lv' := [(6, .int y_6), (0, .ref (a0 0)), (1, .int x1), (2, .int x2), (3, .int s42.1), (4, .int x4), (5, .int s42.2)]) hx hb dX12_nearest_63 hl (by decide) rfl (fun ls hl => ?_)
                refine lv_aload_n hx hb dX12_nearest_65 rfl (lv_at hl 1 rfl) ?_
                refine lv_iload hx hb dX12_nearest_66 (lv_at hl 5 rfl) ?_
                refine lv_iload hx hb dX12_nearest_68 (lv_at hl 6 rfl) ?_
                obtain ⟨u_7, hu_7, hF⟩ := obd_some hF
                have hPc := hP.sub (ws' := (wd_X12_y cI a0 v0_2 v0_3 v0_5 v0_12 v0_13 v0_16 v0_17 v0_21 v0_23 v0_24 v0_25 v0_26 v0_29 v0_30 v0_0)) [0, 1] rfl
                have hDc := hD.sub (ws' := (wd_X12_y cI a0 v0_2 v0_3 v0_5 v0_12 v0_13 v0_16 v0_17 v0_21 v0_23 v0_24 v0_25 v0_26 v0_29 v0_30 v0_0)) [0, 1] rfl rfl
                refine q_calli (wc := (wd_X12_y cI a0 v0_2 v0_3 v0_5 v0_12 v0_13 v0_16 v0_17 v0_21 v0_23 v0_24 v0_25 v0_26 v0_29 v0_30 v0_0)) (w1 := (wd_X12_y cI a0 v0_2 v0_3 v0_5 v0_12 v0_13 v0_16 v0_17 v0_21 v0_23 v0_24 v0_25 v0_26 v0_29 v0_30 v0_0)) (ws' := (wd_X12_nearest cI a0 v0_2 v0_3 v0_5 v0_12 v0_13 v0_16 v0_17 v0_21 v0_23 v0_24 v0_25 v0_26 v0_29 v0_30 v0_0)) hP hD hS hA [0, 1] [] [0, 1] rfl rfl rfl (by decide) rfl rfl (va_runV (As := [.int x4, .int s42.2]) (rest := []) ⟨hx, hb, hml, hown, hta⟩ (c_X12_y l dC dI cI H.size a0 v0_2 v0_3 v0_5 v0_12 v0_13 v0_16 v0_17 v0_21 v0_23 v0_24 v0_25 v0_26 v0_29 v0_30 v0_0 x4 s42.2 u_7 hu_7) (cwV 2 hta (ga_V mA873 mA874 mA875 mA814 mA832) rfl rfl rfl (by decide +kernel) ⟨Nat.le_of_ble_eq_true rfl, Nat.le_of_ble_eq_true rfl⟩) ⟨q_fb, va_recv hK hP (ci := 11) (q0 := 0) rfl rfl, q_ps hPc hK hDc⟩ rfl rfl hl.1 rfl (lv_room (Nat.le_of_ble_eq_true rfl)) dX12_nearest_70 ⟨Nat.zero_le _, Nat.zero_le _⟩) (fun H locs hP hD hS => ?_)
                refine lv_iload_n hx hb dX12_nearest_73 rfl (lv_at hl 3 rfl) ?_
                refine lv_isub hx hb dX12_nearest_74 ?_
                obtain ⟨y_8, ey_8, hF⟩ := lt_some hF
                refine lv_eqi ey_8 ?_
                refine lv_istore (lv' := [(7, .int y_8), (6, .int y_6), (0, .ref (a0 0)), (1, .int x1), (2, .int x2), (3, .int s42.1), (4, .int x4), (5, .int s42.2)]) hx hb dX12_nearest_75 hl (by decide) rfl (fun ls hl => ?_)
                refine lv_iload_n hx hb dX12_nearest_77 rfl (lv_at hl 5 rfl) ?_
                refine lv_iconst (v := (-1)) hx hb dX12_nearest_78 (by decide) ?_
                refine lv_icmp_eq (tgt := 97) hx hb dX12_nearest_79 (by decide) (fun c_9 => ?_) (fun c_9 => ?_)
                · have hF := it_t hF c_9
                  exact j97 s42.2 y_6 y_8 hF _ _ _ hP hD hS (lv_sub hl [2, 3, 4, 6, 7, 1, 0] rfl)
                · have hF := it_f hF c_9
                  refine lv_iload hx hb dX12_nearest_82 (lv_at hl 1 rfl) ?_
                  refine lv_iload hx hb dX12_nearest_84 (lv_at hl 1 rfl) ?_
                  refine lv_imul hx hb dX12_nearest_86 ?_
                  refine lv_iload hx hb dX12_nearest_87 (lv_at hl 0 rfl) ?_
                  refine lv_iload hx hb dX12_nearest_89 (lv_at hl 0 rfl) ?_
                  refine lv_imul hx hb dX12_nearest_91 ?_
                  refine lv_iadd hx hb dX12_nearest_92 ?_
                  refine lv_iload_n hx hb dX12_nearest_93 rfl (lv_at hl 5 rfl) ?_
                  refine lv_icmp_ge (tgt := 111) hx hb dX12_nearest_94 (by decide) (fun c_10 => ?_) (fun c_10 => ?_)
                  · have hF := it_t hF c_10
                    refine lv_iload_n hx hb dX12_nearest_111 rfl (lv_at hl 5 rfl) ?_
                    exact j112 s42.2 s42.1 hF _ _ _ hP hD hS (lv_sub hl [2, 3, 4, 6, 7] rfl)
                  · have hF := it_f hF c_10
                    exact j97 s42.2 y_6 y_8 hF _ _ _ hP hD hS (lv_sub hl [2, 3, 4, 6, 7, 1, 0] rfl)
          exact kl_42 n _ hL_42 _ _ _ hP hD hS hl
        refine lv_iload hx hb dX12_nearest_27 (lv_at hl 4 rfl) ?_
        refine lv_aload_n hx hb dX12_nearest_29 rfl (lv_at hl 0 rfl) ?_
        refine va_get (D := (dC, dI)) (ci := 11) (v := .ref (a0 1)) (C := RX12) (T := TX12) (N := 31) hx hb hta uw_X12 hown hK hP 0 rfl rfl 0 (by decide) (hta _ mA790) (fun _ h9 => h9) rfl dX12_nearest_30 ?_
        refine lv_bipush (v := 13) hx hb dX12_nearest_33 (by decide) ?_
        obtain ⟨g_11, hF⟩ := gd_some hF
        refine va_iald hx hb hK hP 1 0 rfl rfl (vpi_in g_11) dX12_nearest_35 ?_
        refine lv_icmp_ge (tgt := 125) hx hb dX12_nearest_36 (by decide) (fun c_12 => ?_) (fun c_12 => ?_)
        · have hF := it_t hF c_12
          obtain rfl := Option.some.inj hF
          obtain rfl := lpq_x hO_27
          have hF := hE_27
          exact j125 v0_3 s27.1 hF _ _ _ hP hD hS (lv_sub hl [3] rfl)
        · have hF := it_f hF c_12
          refine lv_iconst (v := 0) hx hb dX12_nearest_39 (by decide) ?_
          refine lv_istore (lv' := [(5, .int 0), (0, .ref (a0 0)), (1, .int x1), (2, .int x2), (3, .int s27.1), (4, .int s27.2)]) hx hb dX12_nearest_40 hl (by decide) rfl (fun ls hl => ?_)
          exact j42 s27.1 s27.2 0 hF _ _ _ hP hD hS (lv_sub hl [1, 2, 3, 4, 5, 0] rfl)
    exact kl_27 n _ hL_27 _ _ _ hP hD hS hl
  have j14 : ∀ (v0_3 : Int32) (x1 : Int32) (x2 : Int32) (t1 : Int32), F_X12_nearest_j14 n v0_0 x1 x2 t1 = some u → ∀ (H : Heap) (locs : List Loc) (ls : Array Slot), va_P (dC, dI) vwCl (wd_X12_nearest cI a0 v0_2 v0_3 v0_5 v0_12 v0_13 v0_16 v0_17 v0_21 v0_23 v0_24 v0_25 v0_26 v0_29 v0_30 v0_0) H → va_D A (wd_X12_nearest cI a0 v0_2 v0_3 v0_5 v0_12 v0_13 v0_16 v0_17 v0_21 v0_23 v0_24 v0_25 v0_26 v0_29 v0_30 v0_0) → va_S A s.heap H locs → lv_has ls 8 [(0, .ref (a0 0)), (1, .int x1), (2, .int x2)] → W p l e (headSpec wz_X12_nearest rm_X12_nearest).room s m [.ref (a0 0), .int p1, .int p2].toArray below meth c H locs 0 0 (MQ below (Q_X12_nearest dC dI cI a0 v0_2 v0_5 v0_12 v0_13 v0_16 v0_17 v0_21 v0_23 v0_24 v0_25 v0_26 v0_29 v0_30 v0_0 u A) [.ref (a0 0), .int p1, .int p2].toArray s 0 0 A) (F0 m 14 ls [.int t1, .ref (a0 0)]) := by
    intro v0_3 x1 x2 t1 hF H locs ls hP hD hS hl
    unfold F_X12_nearest_j14 at hF
    obtain ⟨u_13, hu_13, hF⟩ := lt_some hF
    have hPc := hP.sub (ws' := (wd_X12_refused cI a0 v0_2 v0_3 v0_5 v0_12 v0_13 v0_16 v0_17 v0_21 v0_23 v0_24 v0_25 v0_26 v0_29 v0_30)) [0] rfl
    have hDc := hD.sub (ws' := (wd_X12_refused cI a0 v0_2 v0_3 v0_5 v0_12 v0_13 v0_16 v0_17 v0_21 v0_23 v0_24 v0_25 v0_26 v0_29 v0_30)) [0] rfl rfl
    refine q_callz (wc := (wd_X12_refused cI a0 v0_2 v0_3 v0_5 v0_12 v0_13 v0_16 v0_17 v0_21 v0_23 v0_24 v0_25 v0_26 v0_29 v0_30)) (w1 := (wd_X12_refused cI a0 v0_2 u_13.2 v0_5 v0_12 v0_13 v0_16 v0_17 v0_21 v0_23 v0_24 v0_25 v0_26 v0_29 v0_30)) (ws' := (wd_X12_nearest cI a0 v0_2 u_13.2 v0_5 v0_12 v0_13 v0_16 v0_17 v0_21 v0_23 v0_24 v0_25 v0_26 v0_29 v0_30 v0_0)) hP hD hS hA [0] [1] [1, 0] rfl rfl rfl (by decide) rfl rfl (va_runV (As := [.int t1]) (rest := []) ⟨hx, hb, hml, hown, hta⟩ (c_X12_refused l dC dI cI H.size a0 v0_2 v0_3 v0_5 v0_12 v0_13 v0_16 v0_17 v0_21 v0_23 v0_24 v0_25 v0_26 v0_29 v0_30 t1 u_13 hu_13.symm) (cwV 1 hta (ga_V mA822 mA823 mA824 mA814 mA809) rfl rfl rfl (by decide +kernel) ⟨Nat.le_of_ble_eq_true rfl, Nat.le_of_ble_eq_true rfl⟩) ⟨q_fb, va_recv hK hP (ci := 11) (q0 := 0) rfl rfl, q_ps hPc hK hDc⟩ rfl rfl hl.1 rfl (lv_room (Nat.le_of_ble_eq_true rfl)) dX12_nearest_14 ⟨Nat.zero_le _, Nat.zero_le _⟩) (fun hzu_13 H locs hP hD hS => ?_)
    refine lv_if_eq (tgt := 22) hx hb dX12_nearest_17 (by decide) (fun c_14 => ?_) (fun c_14 => ?_)
    · have hF := it_t hF c_14
      refine lv_iconst (v := (-1)) hx hb dX12_nearest_22 (by decide) ?_
      refine lv_istore_n (lv' := [(3, .int (-1)), (0, .ref (a0 0)), (1, .int x1), (2, .int x2)]) hx hb dX12_nearest_23 rfl hl (by decide) rfl (fun ls hl => ?_)
      refine lv_iconst (v := 0) hx hb dX12_nearest_24 (by decide) ?_
      refine lv_istore (lv' := [(4, .int 0), (3, .int (-1)), (0, .ref (a0 0)), (1, .int x1), (2, .int x2)]) hx hb dX12_nearest_25 hl (by decide) rfl (fun ls hl => ?_)
      exact j27 u_13.2 x1 x2 (-1) 0 hF _ _ _ hP hD hS (lv_sub hl [2, 3, 4, 1, 0] rfl)
    · have hF := it_f hF c_14
      refine lv_iconst (v := 0) hx hb dX12_nearest_20 (by decide) ?_
      obtain rfl := Option.some.inj hF
      exact W.iret (v := 0) hx hb hr (fun t ht hW => ⟨⟨0, (), rfl, rfl, by rw [ht]; exact hP, va_K.moved hW.alike hK, hD⟩, hS.F ht⟩) hS.2.2 dX12_nearest_21
  refine lv_aload_n hx hb dX12_nearest_0 rfl (lv_at hl 0 rfl) ?_
  refine lv_iload_n hx hb dX12_nearest_1 rfl (lv_at hl 1 rfl) ?_
  refine lv_iload_n hx hb dX12_nearest_2 rfl (lv_at hl 2 rfl) ?_
  obtain ⟨u_15, hu_15, hF⟩ := lt_some hF
  have hPc := hP.sub (ws' := ([] : va_W)) [] rfl
  have hDc := hD.sub (ws' := ([] : va_W)) [] rfl rfl
  refine q_callz (wc := ([] : va_W)) (w1 := ([] : va_W)) (ws' := (wd_X12_nearest cI a0 v0_2 v0_3 v0_5 v0_12 v0_13 v0_16 v0_17 v0_21 v0_23 v0_24 v0_25 v0_26 v0_29 v0_30 v0_0)) hP hD hS hA [] [0, 1] [0, 1] rfl rfl rfl (by decide) rfl rfl (va_runS (As := [.int p1, .int p2]) (rest := [.ref (a0 0)]) ⟨hx, hb, hml, hown, hta⟩ (c_X12_isPlace l dC dI cI H.size p1 p2 u_15 hu_15.symm) (va_cwS 2 hta (ga_S mA843 mA844 mA814 mA811) rfl rfl rfl (by decide +kernel) ⟨Nat.le_of_ble_eq_true rfl, Nat.le_of_ble_eq_true rfl⟩) ⟨q_fb, q_ps hPc hK hDc⟩ rfl rfl hl.1 rfl (lv_room (Nat.le_of_ble_eq_true rfl)) dX12_nearest_3 ⟨Nat.zero_le _, Nat.zero_le _⟩) (fun hzu_15 H locs hP hD hS => ?_)
  refine lv_if_eq (tgt := 13) hx hb dX12_nearest_6 (by decide) (fun c_16 => ?_) (fun c_16 => ?_)
  · have hF := it_t hF c_16
    refine lv_iconst (v := 1) hx hb dX12_nearest_13 (by decide) ?_
    exact j14 v0_3 p1 p2 1 hF _ _ _ hP hD hS (lv_sub hl [0, 1, 2] rfl)
  · have hF := it_f hF c_16
    refine lv_iconst (v := 0) hx hb dX12_nearest_9 (by decide) ?_
    refine lv_goto (tgt := 14) hx hb dX12_nearest_10 (by decide) ?_
    exact j14 v0_3 p1 p2 0 hF _ _ _ hP hD hS (lv_sub hl [0, 1, 2] rfl)

-- StrokeOutlinerModel.append(I)I
def F_X12_append_j30 (v0_5 : Int32) (v0_4 : Nat → Int32) (x1 : Int32) (t1 : Int32) : Option (Int32 × Int32 × Int32 × (Nat → Int32)) :=
  lt (F_X12_refused t1) (fun u_1 => if u_1.1 = 0 then gd (decide (vpi v0_5 150)) (lt (upd v0_4 v0_5.toNatClampNeg x1) (fun y_4 => lt (v0_5 + 1) (fun y_5 => some (y_5, u_1.2, y_5, y_4)))) else some (0, u_1.2, v0_5, v0_4))
def F_X12_append (v0_5 : Int32) (v0_4 : Nat → Int32) (p1 : Int32) : Option (Int32 × Int32 × Int32 × (Nat → Int32)) :=
  lt (F_X12_within p1 0 127) (fun u_6 => if u_6 = 0 then F_X12_append_j30 v0_5 v0_4 p1 1 else if v0_5 = 150 then F_X12_append_j30 v0_5 v0_4 p1 2 else F_X12_append_j30 v0_5 v0_4 p1 0)
abbrev wd_X12_append (cI : ClassId) (a0 : Nat → Nat) (v0_2 : Int32) (v0_3 : Int32) (v0_5 : Int32) (v0_12 : Int32) (v0_13 : Int32) (v0_16 : Int32) (v0_17 : Int32) (v0_21 : Int32) (v0_23 : Int32) (v0_24 : Int32) (v0_25 : Int32) (v0_26 : Int32) (v0_29 : Int32) (v0_30 : Int64) (v0_4 : Nat → Int32) : va_W := [(a0 0, .inr (11, [.ref (a0 1), .ref (a0 2), .int v0_2, .int v0_3, .ref (a0 5), .int v0_5, .ref (a0 7), .ref (a0 8), .ref (a0 9), .ref (a0 10), .ref (a0 11), .ref (a0 12), .int v0_12, .int v0_13, .ref (a0 15), .ref (a0 16), .int v0_16, .int v0_17, .ref (a0 19), .ref (a0 20), .ref (a0 21), .int v0_21, .ref (a0 23), .int v0_23, .int v0_24, .int v0_25, .int v0_26, .ref (a0 28), .ref (a0 29), .int v0_29, .long v0_30])), (a0 5, .inl (cI, 150, .inl v0_4))]
abbrev wz_X12_append : List Cond := .code yX12_append cX12_append 2 (some .int) :: wALL
abbrev rm_X12_append : Room := { frames := 1, cells := 0, slots := 0, locals := 22 }
abbrev Q_X12_append (dC : Nat → ClassId) (dI : Nat → Nat → Nat) (cI : ClassId) (a0 : Nat → Nat) (v0_2 : Int32) (v0_12 : Int32) (v0_13 : Int32) (v0_16 : Int32) (v0_17 : Int32) (v0_21 : Int32) (v0_23 : Int32) (v0_24 : Int32) (v0_25 : Int32) (v0_26 : Int32) (v0_29 : Int32) (v0_30 : Int64) (u : (Int32 × Int32 × Int32 × (Nat → Int32))) (A : Nat → Prop) : Array Value → State → Outcome → State → Prop := va_Qi (fun (r : Int32) (_ : Unit) => r = u.1) (fun _ => q_at dC dI cI A (wd_X12_append cI a0 v0_2 u.2.1 u.2.2.1 v0_12 v0_13 v0_16 v0_17 v0_21 v0_23 v0_24 v0_25 v0_26 v0_29 v0_30 u.2.2.2)) A
set_option maxHeartbeats 4000000 in
set_option maxRecDepth 100000 in
theorem c_X12_append (l : Launch) (dC : Nat → ClassId) (dI : Nat → Nat → Nat) (cI : ClassId) (sz : Nat) (a0 : Nat → Nat) (v0_2 : Int32) (v0_3 : Int32) (v0_5 : Int32) (v0_12 : Int32) (v0_13 : Int32) (v0_16 : Int32) (v0_17 : Int32) (v0_21 : Int32) (v0_23 : Int32) (v0_24 : Int32) (v0_25 : Int32) (v0_26 : Int32) (v0_29 : Int32) (v0_30 : Int64) (v0_4 : Nat → Int32) (p1 : Int32) (u : (Int32 × Int32 × Int32 × (Nat → Int32))) (hF : F_X12_append v0_5 v0_4 p1 = some u) : Met l yX12_append wz_X12_append rm_X12_append (va_Pc [.ref (a0 0), .int p1] (q_pre dC dI cI (wd_X12_append cI a0 v0_2 v0_3 v0_5 v0_12 v0_13 v0_16 v0_17 v0_21 v0_23 v0_24 v0_25 v0_26 v0_29 v0_30 v0_4) sz)) (Q_X12_append dC dI cI a0 v0_2 v0_12 v0_13 v0_16 v0_17 v0_21 v0_23 v0_24 v0_25 v0_26 v0_29 v0_30 u (va_A (wd_X12_append cI a0 v0_2 v0_3 v0_5 v0_12 v0_13 v0_16 v0_17 v0_21 v0_23 v0_24 v0_25 v0_26 v0_29 v0_30 v0_4) sz)) 0 0 (va_A (wd_X12_append cI a0 v0_2 v0_3 v0_5 v0_12 v0_13 v0_16 v0_17 v0_21 v0_23 v0_24 v0_25 v0_26 v0_29 v0_30 v0_4) sz) := by
  refine Met.ofW (cc := cX12_append) (maxL := 2) (ret := (some .int)) (by decide) rfl ?_
  intro p e s m args below meth c s₁ B hml hv
  obtain ⟨rfl, hsz, hP, hK, hD0⟩ := hv
  have hx := B.exec
  have hb := B.bytes
  have hr := B.returns
  have hts := atoms_spec (ws := wz_X12_append) B.pre
  have hta := wz_tl hts
  have hown : s.vm.findClass RX12 = some m.cls := findClass_of_methodNamed B.named
  have hlocks := B.notSynchronized
  subst hsz
  have hD := hD0.self (sz := s.heap.size)
  generalize hAe : va_A (wd_X12_append cI a0 v0_2 v0_3 v0_5 v0_12 v0_13 v0_16 v0_17 v0_21 v0_23 v0_24 v0_25 v0_26 v0_29 v0_30 v0_4) s.heap.size = A at hD ⊢
  have hA : ∀ q : Nat, s.heap.size ≤ q → A q := fun q h => by rw [← hAe]; exact Or.inr h
  have hS : va_S A s.heap s.heap [] := va_S.rf
  have hP : va_P (dC, dI) vwCl (wd_X12_append cI a0 v0_2 v0_3 v0_5 v0_12 v0_13 v0_16 v0_17 v0_21 v0_23 v0_24 v0_25 v0_26 v0_29 v0_30 v0_4) s.heap := hP
  have hl := lv_entry ([.ref (a0 0), .int p1]) (n := 2) (Nat.le_of_ble_eq_true rfl)
  rw [lg_entry_eq]
  generalize (lg_sl ([.ref (a0 0), .int p1]) ++ List.replicate (2 - (lg_sl ([.ref (a0 0), .int p1])).length) Slot.unset).toArray = ls at hl ⊢
  have hl : lv_has ls 2 [(0, .ref (a0 0)), (1, .int p1)] := hl
  obtain ⟨H, hHe⟩ : ∃ H, H = s.heap := ⟨_, rfl⟩
  have hS : va_S A s.heap H [] := by rw [hHe]; exact hS
  have hP : va_P (dC, dI) vwCl (wd_X12_append cI a0 v0_2 v0_3 v0_5 v0_12 v0_13 v0_16 v0_17 v0_21 v0_23 v0_24 v0_25 v0_26 v0_29 v0_30 v0_4) H := by rw [hHe]; exact hP
  rw [← hHe]
  unfold F_X12_append at hF
  have j30 : ∀ (v0_3 : Int32) (v0_5 : Int32) (v0_4 : Nat → Int32) (x1 : Int32) (t1 : Int32), F_X12_append_j30 v0_5 v0_4 x1 t1 = some u → ∀ (H : Heap) (locs : List Loc) (ls : Array Slot), va_P (dC, dI) vwCl (wd_X12_append cI a0 v0_2 v0_3 v0_5 v0_12 v0_13 v0_16 v0_17 v0_21 v0_23 v0_24 v0_25 v0_26 v0_29 v0_30 v0_4) H → va_D A (wd_X12_append cI a0 v0_2 v0_3 v0_5 v0_12 v0_13 v0_16 v0_17 v0_21 v0_23 v0_24 v0_25 v0_26 v0_29 v0_30 v0_4) → va_S A s.heap H locs → lv_has ls 2 [(0, .ref (a0 0)), (1, .int x1)] → W p l e (headSpec wz_X12_append rm_X12_append).room s m [.ref (a0 0), .int p1].toArray below meth c H locs 0 0 (MQ below (Q_X12_append dC dI cI a0 v0_2 v0_12 v0_13 v0_16 v0_17 v0_21 v0_23 v0_24 v0_25 v0_26 v0_29 v0_30 u A) [.ref (a0 0), .int p1].toArray s 0 0 A) (F0 m 30 ls [.int t1, .ref (a0 0)]) := by
    intro v0_3 v0_5 v0_4 x1 t1 hF H locs ls hP hD hS hl
    unfold F_X12_append_j30 at hF
    obtain ⟨u_1, hu_1, hF⟩ := lt_some hF
    have hPc := hP.sub (ws' := (wd_X12_refused cI a0 v0_2 v0_3 v0_5 v0_12 v0_13 v0_16 v0_17 v0_21 v0_23 v0_24 v0_25 v0_26 v0_29 v0_30)) [0] rfl
    have hDc := hD.sub (ws' := (wd_X12_refused cI a0 v0_2 v0_3 v0_5 v0_12 v0_13 v0_16 v0_17 v0_21 v0_23 v0_24 v0_25 v0_26 v0_29 v0_30)) [0] rfl rfl
    refine q_callz (wc := (wd_X12_refused cI a0 v0_2 v0_3 v0_5 v0_12 v0_13 v0_16 v0_17 v0_21 v0_23 v0_24 v0_25 v0_26 v0_29 v0_30)) (w1 := (wd_X12_refused cI a0 v0_2 u_1.2 v0_5 v0_12 v0_13 v0_16 v0_17 v0_21 v0_23 v0_24 v0_25 v0_26 v0_29 v0_30)) (ws' := (wd_X12_append cI a0 v0_2 u_1.2 v0_5 v0_12 v0_13 v0_16 v0_17 v0_21 v0_23 v0_24 v0_25 v0_26 v0_29 v0_30 v0_4)) hP hD hS hA [0] [1] [1, 0] rfl rfl rfl (by decide) rfl rfl (va_runV (As := [.int t1]) (rest := []) ⟨hx, hb, hml, hown, hta⟩ (c_X12_refused l dC dI cI H.size a0 v0_2 v0_3 v0_5 v0_12 v0_13 v0_16 v0_17 v0_21 v0_23 v0_24 v0_25 v0_26 v0_29 v0_30 t1 u_1 hu_1.symm) (cwV 1 hta (ga_V mA822 mA823 mA824 mA814 mA809) rfl rfl rfl (by decide +kernel) ⟨Nat.le_of_ble_eq_true rfl, Nat.le_of_ble_eq_true rfl⟩) ⟨q_fb, va_recv hK hP (ci := 11) (q0 := 0) rfl rfl, q_ps hPc hK hDc⟩ rfl rfl hl.1 rfl (lv_room (Nat.le_of_ble_eq_true rfl)) dX12_append_30 ⟨Nat.zero_le _, Nat.zero_le _⟩) (fun hzu_1 H locs hP hD hS => ?_)
    refine lv_if_eq (tgt := 38) hx hb dX12_append_33 (by decide) (fun c_2 => ?_) (fun c_2 => ?_)
    · have hF := it_t hF c_2
      refine lv_aload_n hx hb dX12_append_38 rfl (lv_at hl 0 rfl) ?_
      refine va_get (D := (dC, dI)) (ci := 11) (v := .ref (a0 5)) (C := RX12) (T := TX12) (N := 31) hx hb hta uw_X12 hown hK hP 0 rfl rfl 4 (by decide) (hta _ mA792) (fun _ h9 => h9) rfl dX12_append_39 ?_
      refine lv_aload_n hx hb dX12_append_42 rfl (lv_at hl 0 rfl) ?_
      refine va_get (D := (dC, dI)) (ci := 11) (v := .int v0_5) (C := RX12) (T := TX12) (N := 31) hx hb hta uw_X12 hown hK hP 0 rfl rfl 5 (by decide) (hta _ mA1062) (fun _ h9 => h9) rfl dX12_append_43 ?_
      refine lv_iload_n hx hb dX12_append_46 rfl (lv_at hl 1 rfl) ?_
      obtain ⟨g_3, hF⟩ := gd_some hF
      refine va_iast hx hb hK hP hD hS 1 0 rfl rfl (vpi_in g_3) dX12_append_47 (fun H locs hP hD hS => ?_)
      obtain ⟨y_4, ey_4, hF⟩ := lt_some hF
      have hP : va_P (dC, dI) vwCl (wd_X12_append cI a0 v0_2 u_1.2 v0_5 v0_12 v0_13 v0_16 v0_17 v0_21 v0_23 v0_24 v0_25 v0_26 v0_29 v0_30 y_4) H := by rw [ey_4]; exact hP
      have hD : va_D A (wd_X12_append cI a0 v0_2 u_1.2 v0_5 v0_12 v0_13 v0_16 v0_17 v0_21 v0_23 v0_24 v0_25 v0_26 v0_29 v0_30 y_4) := by rw [ey_4]; exact hD
      refine lv_aload_n hx hb dX12_append_48 rfl (lv_at hl 0 rfl) ?_
      refine lv_dup hx hb dX12_append_49 rfl ?_
      refine va_get (D := (dC, dI)) (ci := 11) (v := .int v0_5) (C := RX12) (T := TX12) (N := 31) hx hb hta uw_X12 hown hK hP 0 rfl rfl 5 (by decide) (hta _ mA1062) (fun _ h9 => h9) rfl dX12_append_50 ?_
      refine lv_iconst (v := 1) hx hb dX12_append_53 (by decide) ?_
      refine lv_iadd hx hb dX12_append_54 ?_
      obtain ⟨y_5, ey_5, hF⟩ := lt_some hF
      refine lv_eqi ey_5 ?_
      refine va_put (D := (dC, dI)) (ci := 11) (v := .int y_5) (ty := .int) (C := RX12) (T := TX12) (N := 31) hx hb hta uw_X12 tyX12 tyX12_ok nmX12 hown hK hP hD hS 0 rfl rfl 5 (by decide) (hta _ mA1062) (fun _ h9 => h9) rfl (by decide +kernel) rfl rfl (Nat.le_of_ble_eq_true rfl) dX12_append_55 (fun H locs hP hD hS => ?_)
      have hP : va_P (dC, dI) vwCl (wd_X12_append cI a0 v0_2 u_1.2 y_5 v0_12 v0_13 v0_16 v0_17 v0_21 v0_23 v0_24 v0_25 v0_26 v0_29 v0_30 y_4) H := hP
      have hD : va_D A (wd_X12_append cI a0 v0_2 u_1.2 y_5 v0_12 v0_13 v0_16 v0_17 v0_21 v0_23 v0_24 v0_25 v0_26 v0_29 v0_30 y_4) := hD
      refine lv_aload_n hx hb dX12_append_58 rfl (lv_at hl 0 rfl) ?_
      refine va_get (D := (dC, dI)) (ci := 11) (v := .int y_5) (C := RX12) (T := TX12) (N := 31) hx hb hta uw_X12 hown hK hP 0 rfl rfl 5 (by decide) (hta _ mA1062) (fun _ h9 => h9) rfl dX12_append_59 ?_
      obtain rfl := Option.some.inj hF
      exact W.iret (v := y_5) hx hb hr (fun t ht hW => ⟨⟨y_5, (), rfl, rfl, by rw [ht]; exact hP, va_K.moved hW.alike hK, hD⟩, hS.F ht⟩) hS.2.2 dX12_append_62
    · have hF := it_f hF c_2
      refine lv_iconst (v := 0) hx hb dX12_append_36 (by decide) ?_
      obtain rfl := Option.some.inj hF
      exact W.iret (v := 0) hx hb hr (fun t ht hW => ⟨⟨0, (), rfl, rfl, by rw [ht]; exact hP, va_K.moved hW.alike hK, hD⟩, hS.F ht⟩) hS.2.2 dX12_append_37
  refine lv_aload_n hx hb dX12_append_0 rfl (lv_at hl 0 rfl) ?_
  refine lv_iload_n hx hb dX12_append_1 rfl (lv_at hl 1 rfl) ?_
  refine lv_iconst (v := 0) hx hb dX12_append_2 (by decide) ?_
  refine lv_bipush (v := 127) hx hb dX12_append_3 (by decide) ?_
  obtain ⟨u_6, hu_6, hF⟩ := lt_some hF
  have hPc := hP.sub (ws' := ([] : va_W)) [] rfl
  have hDc := hD.sub (ws' := ([] : va_W)) [] rfl rfl
  refine q_callz (wc := ([] : va_W)) (w1 := ([] : va_W)) (ws' := (wd_X12_append cI a0 v0_2 v0_3 v0_5 v0_12 v0_13 v0_16 v0_17 v0_21 v0_23 v0_24 v0_25 v0_26 v0_29 v0_30 v0_4)) hP hD hS hA [] [0, 1] [0, 1] rfl rfl rfl (by decide) rfl rfl (va_runS (As := [.int p1, .int 0, .int 127]) (rest := [.ref (a0 0)]) ⟨hx, hb, hml, hown, hta⟩ (c_X12_within l dC dI cI H.size p1 0 127 u_6 hu_6.symm) (va_cwS 3 hta (ga_S mA812 mA813 mA814 mA810) rfl rfl rfl (by decide +kernel) ⟨Nat.le_of_ble_eq_true rfl, Nat.le_of_ble_eq_true rfl⟩) ⟨q_fb, q_ps hPc hK hDc⟩ rfl rfl hl.1 rfl (lv_room (Nat.le_of_ble_eq_true rfl)) dX12_append_5 ⟨Nat.zero_le _, Nat.zero_le _⟩) (fun hzu_6 H locs hP hD hS => ?_)
  refine lv_if_ne (tgt := 15) hx hb dX12_append_8 (by decide) (fun c_7 => ?_) (fun c_7 => ?_)
  · have hF := it_f hF c_7
    refine lv_aload_n hx hb dX12_append_15 rfl (lv_at hl 0 rfl) ?_
    refine va_get (D := (dC, dI)) (ci := 11) (v := .int v0_5) (C := RX12) (T := TX12) (N := 31) hx hb hta uw_X12 hown hK hP 0 rfl rfl 5 (by decide) (hta _ mA1062) (fun _ h9 => h9) rfl dX12_append_16 ?_
    refine lv_sipush (v := 150) hx hb dX12_append_19 (by decide) ?_
    refine lv_icmp_ne (tgt := 29) hx hb dX12_append_22 (by decide) (fun c_8 => ?_) (fun c_8 => ?_)
    · have hF := it_f hF c_8
      refine lv_iconst (v := 0) hx hb dX12_append_29 (by decide) ?_
      exact j30 v0_3 v0_5 v0_4 p1 0 hF _ _ _ hP hD hS (lv_sub hl [0, 1] rfl)
    · have hF := it_t hF c_8
      refine lv_iconst (v := 2) hx hb dX12_append_25 (by decide) ?_
      refine lv_goto (tgt := 30) hx hb dX12_append_26 (by decide) ?_
      exact j30 v0_3 v0_5 v0_4 p1 2 hF _ _ _ hP hD hS (lv_sub hl [0, 1] rfl)
  · have hF := it_t hF c_7
    refine lv_iconst (v := 1) hx hb dX12_append_11 (by decide) ?_
    refine lv_goto (tgt := 30) hx hb dX12_append_12 (by decide) ?_
    exact j30 v0_3 v0_5 v0_4 p1 1 hF _ _ _ hP hD hS (lv_sub hl [0, 1] rfl)

-- StrokeOutlinerModel.clearText()I
def F_X12_clearText (v0_5 : Int32) : (Int32 × Int32 × Int32) :=
  (v0_5, 0, 0)
abbrev wd_X12_clearText (cI : ClassId) (a0 : Nat → Nat) (v0_2 : Int32) (v0_3 : Int32) (v0_5 : Int32) (v0_12 : Int32) (v0_13 : Int32) (v0_16 : Int32) (v0_17 : Int32) (v0_21 : Int32) (v0_23 : Int32) (v0_24 : Int32) (v0_25 : Int32) (v0_26 : Int32) (v0_29 : Int32) (v0_30 : Int64) : va_W := [(a0 0, .inr (11, [.ref (a0 1), .ref (a0 2), .int v0_2, .int v0_3, .ref (a0 5), .int v0_5, .ref (a0 7), .ref (a0 8), .ref (a0 9), .ref (a0 10), .ref (a0 11), .ref (a0 12), .int v0_12, .int v0_13, .ref (a0 15), .ref (a0 16), .int v0_16, .int v0_17, .ref (a0 19), .ref (a0 20), .ref (a0 21), .int v0_21, .ref (a0 23), .int v0_23, .int v0_24, .int v0_25, .int v0_26, .ref (a0 28), .ref (a0 29), .int v0_29, .long v0_30]))]
abbrev wz_X12_clearText : List Cond := .code yX12_clearText cX12_clearText 2 (some .int) :: wALL
abbrev rm_X12_clearText : Room := { frames := 0, cells := 0, slots := 0, locals := 0 }
abbrev Q_X12_clearText (dC : Nat → ClassId) (dI : Nat → Nat → Nat) (cI : ClassId) (a0 : Nat → Nat) (v0_2 : Int32) (v0_12 : Int32) (v0_13 : Int32) (v0_16 : Int32) (v0_17 : Int32) (v0_21 : Int32) (v0_23 : Int32) (v0_24 : Int32) (v0_25 : Int32) (v0_26 : Int32) (v0_29 : Int32) (v0_30 : Int64) (u : (Int32 × Int32 × Int32)) (A : Nat → Prop) : Array Value → State → Outcome → State → Prop := va_Qi (fun (r : Int32) (_ : Unit) => r = u.1) (fun _ => q_at dC dI cI A (wd_X12_clearText cI a0 v0_2 u.2.1 u.2.2 v0_12 v0_13 v0_16 v0_17 v0_21 v0_23 v0_24 v0_25 v0_26 v0_29 v0_30)) A
set_option maxHeartbeats 4000000 in
set_option maxRecDepth 100000 in
theorem c_X12_clearText (l : Launch) (dC : Nat → ClassId) (dI : Nat → Nat → Nat) (cI : ClassId) (sz : Nat) (a0 : Nat → Nat) (v0_2 : Int32) (v0_3 : Int32) (v0_5 : Int32) (v0_12 : Int32) (v0_13 : Int32) (v0_16 : Int32) (v0_17 : Int32) (v0_21 : Int32) (v0_23 : Int32) (v0_24 : Int32) (v0_25 : Int32) (v0_26 : Int32) (v0_29 : Int32) (v0_30 : Int64) (u : (Int32 × Int32 × Int32)) (hF : F_X12_clearText v0_5 = u) : Met l yX12_clearText wz_X12_clearText rm_X12_clearText (va_Pc [.ref (a0 0)] (q_pre dC dI cI (wd_X12_clearText cI a0 v0_2 v0_3 v0_5 v0_12 v0_13 v0_16 v0_17 v0_21 v0_23 v0_24 v0_25 v0_26 v0_29 v0_30) sz)) (Q_X12_clearText dC dI cI a0 v0_2 v0_12 v0_13 v0_16 v0_17 v0_21 v0_23 v0_24 v0_25 v0_26 v0_29 v0_30 u (va_A (wd_X12_clearText cI a0 v0_2 v0_3 v0_5 v0_12 v0_13 v0_16 v0_17 v0_21 v0_23 v0_24 v0_25 v0_26 v0_29 v0_30) sz)) 0 0 (va_A (wd_X12_clearText cI a0 v0_2 v0_3 v0_5 v0_12 v0_13 v0_16 v0_17 v0_21 v0_23 v0_24 v0_25 v0_26 v0_29 v0_30) sz) := by
  refine Met.ofW (cc := cX12_clearText) (maxL := 2) (ret := (some .int)) (by decide) rfl ?_
  intro p e s m args below meth c s₁ B hml hv
  obtain ⟨rfl, hsz, hP, hK, hD0⟩ := hv
  have hx := B.exec
  have hb := B.bytes
  have hr := B.returns
  have hts := atoms_spec (ws := wz_X12_clearText) B.pre
  have hta := wz_tl hts
  have hown : s.vm.findClass RX12 = some m.cls := findClass_of_methodNamed B.named
  have hlocks := B.notSynchronized
  subst hsz
  have hD := hD0.self (sz := s.heap.size)
  generalize hAe : va_A (wd_X12_clearText cI a0 v0_2 v0_3 v0_5 v0_12 v0_13 v0_16 v0_17 v0_21 v0_23 v0_24 v0_25 v0_26 v0_29 v0_30) s.heap.size = A at hD ⊢
  have hA : ∀ q : Nat, s.heap.size ≤ q → A q := fun q h => by rw [← hAe]; exact Or.inr h
  have hS : va_S A s.heap s.heap [] := va_S.rf
  have hP : va_P (dC, dI) vwCl (wd_X12_clearText cI a0 v0_2 v0_3 v0_5 v0_12 v0_13 v0_16 v0_17 v0_21 v0_23 v0_24 v0_25 v0_26 v0_29 v0_30) s.heap := hP
  have hl := lv_entry ([.ref (a0 0)]) (n := 2) (Nat.le_of_ble_eq_true rfl)
  rw [lg_entry_eq]
  generalize (lg_sl ([.ref (a0 0)]) ++ List.replicate (2 - (lg_sl ([.ref (a0 0)])).length) Slot.unset).toArray = ls at hl ⊢
  have hl : lv_has ls 2 [(0, .ref (a0 0))] := hl
  obtain ⟨H, hHe⟩ : ∃ H, H = s.heap := ⟨_, rfl⟩
  have hS : va_S A s.heap H [] := by rw [hHe]; exact hS
  have hP : va_P (dC, dI) vwCl (wd_X12_clearText cI a0 v0_2 v0_3 v0_5 v0_12 v0_13 v0_16 v0_17 v0_21 v0_23 v0_24 v0_25 v0_26 v0_29 v0_30) H := by rw [hHe]; exact hP
  rw [← hHe]
  unfold F_X12_clearText at hF
  refine lv_aload_n hx hb dX12_clearText_0 rfl (lv_at hl 0 rfl) ?_
  refine lv_iconst (v := 0) hx hb dX12_clearText_1 (by decide) ?_
  refine va_put (D := (dC, dI)) (ci := 11) (v := .int 0) (ty := .int) (C := RX12) (T := TX12) (N := 31) hx hb hta uw_X12 tyX12 tyX12_ok nmX12 hown hK hP hD hS 0 rfl rfl 3 (by decide) (hta _ mA808) (fun _ h9 => h9) rfl (by decide +kernel) rfl rfl (Nat.le_of_ble_eq_true rfl) dX12_clearText_2 (fun H locs hP hD hS => ?_)
  have hP : va_P (dC, dI) vwCl (wd_X12_clearText cI a0 v0_2 0 v0_5 v0_12 v0_13 v0_16 v0_17 v0_21 v0_23 v0_24 v0_25 v0_26 v0_29 v0_30) H := hP
  have hD : va_D A (wd_X12_clearText cI a0 v0_2 0 v0_5 v0_12 v0_13 v0_16 v0_17 v0_21 v0_23 v0_24 v0_25 v0_26 v0_29 v0_30) := hD
  refine lv_aload_n hx hb dX12_clearText_5 rfl (lv_at hl 0 rfl) ?_
  refine va_get (D := (dC, dI)) (ci := 11) (v := .int v0_5) (C := RX12) (T := TX12) (N := 31) hx hb hta uw_X12 hown hK hP 0 rfl rfl 5 (by decide) (hta _ mA1062) (fun _ h9 => h9) rfl dX12_clearText_6 ?_
  refine lv_istore_n (lv' := [(1, .int v0_5), (0, .ref (a0 0))]) hx hb dX12_clearText_9 rfl hl (by decide) rfl (fun ls hl => ?_)
  refine lv_aload_n hx hb dX12_clearText_10 rfl (lv_at hl 1 rfl) ?_
  refine lv_iconst (v := 0) hx hb dX12_clearText_11 (by decide) ?_
  refine va_put (D := (dC, dI)) (ci := 11) (v := .int 0) (ty := .int) (C := RX12) (T := TX12) (N := 31) hx hb hta uw_X12 tyX12 tyX12_ok nmX12 hown hK hP hD hS 0 rfl rfl 5 (by decide) (hta _ mA1062) (fun _ h9 => h9) rfl (by decide +kernel) rfl rfl (Nat.le_of_ble_eq_true rfl) dX12_clearText_12 (fun H locs hP hD hS => ?_)
  have hP : va_P (dC, dI) vwCl (wd_X12_clearText cI a0 v0_2 0 0 v0_12 v0_13 v0_16 v0_17 v0_21 v0_23 v0_24 v0_25 v0_26 v0_29 v0_30) H := hP
  have hD : va_D A (wd_X12_clearText cI a0 v0_2 0 0 v0_12 v0_13 v0_16 v0_17 v0_21 v0_23 v0_24 v0_25 v0_26 v0_29 v0_30) := hD
  refine lv_iload_n hx hb dX12_clearText_15 rfl (lv_at hl 0 rfl) ?_
  subst hF
  exact W.iret (v := v0_5) hx hb hr (fun t ht hW => ⟨⟨v0_5, (), rfl, rfl, by rw [ht]; exact hP, va_K.moved hW.alike hK, hD⟩, hS.F ht⟩) hS.2.2 dX12_clearText_16

-- StrokeOutlinerModel.isAt(II)Z
def F_X12_isAt_j32  : Option (Int32) :=
  some 0
def F_X12_isAt (v0_5 : Int32) (v0_24 : Int32) (v0_4 : Nat → Int32) (p1 : Int32) (p2 : Int32) : Option (Int32) :=
  if v0_5 ≤ v0_24 then F_X12_isAt_j32 else gd (decide (vpi v0_24 150)) (lt (F_X12_within (v0_4 v0_24.toNatClampNeg) p1 p2) (fun u_3 => if u_3 = 0 then F_X12_isAt_j32 else some 1))
abbrev wd_X12_isAt (cI : ClassId) (a0 : Nat → Nat) (v0_2 : Int32) (v0_3 : Int32) (v0_5 : Int32) (v0_12 : Int32) (v0_13 : Int32) (v0_16 : Int32) (v0_17 : Int32) (v0_21 : Int32) (v0_23 : Int32) (v0_24 : Int32) (v0_25 : Int32) (v0_26 : Int32) (v0_29 : Int32) (v0_30 : Int64) (v0_4 : Nat → Int32) : va_W := [(a0 0, .inr (11, [.ref (a0 1), .ref (a0 2), .int v0_2, .int v0_3, .ref (a0 5), .int v0_5, .ref (a0 7), .ref (a0 8), .ref (a0 9), .ref (a0 10), .ref (a0 11), .ref (a0 12), .int v0_12, .int v0_13, .ref (a0 15), .ref (a0 16), .int v0_16, .int v0_17, .ref (a0 19), .ref (a0 20), .ref (a0 21), .int v0_21, .ref (a0 23), .int v0_23, .int v0_24, .int v0_25, .int v0_26, .ref (a0 28), .ref (a0 29), .int v0_29, .long v0_30])), (a0 5, .inl (cI, 150, .inl v0_4))]
abbrev wz_X12_isAt : List Cond := .code yX12_isAt cX12_isAt 3 (some .boolean) :: wALL
abbrev rm_X12_isAt : Room := { frames := 1, cells := 0, slots := 0, locals := 22 }
abbrev Q_X12_isAt (dC : Nat → ClassId) (dI : Nat → Nat → Nat) (cI : ClassId) (a0 : Nat → Nat) (v0_2 : Int32) (v0_3 : Int32) (v0_5 : Int32) (v0_12 : Int32) (v0_13 : Int32) (v0_16 : Int32) (v0_17 : Int32) (v0_21 : Int32) (v0_23 : Int32) (v0_24 : Int32) (v0_25 : Int32) (v0_26 : Int32) (v0_29 : Int32) (v0_30 : Int64) (v0_4 : Nat → Int32) (u : (Int32)) (A : Nat → Prop) : Array Value → State → Outcome → State → Prop := va_Qi (fun (r : Int32) (_ : Unit) => r = u ∧ (u = 0 ∨ u = 1)) (fun _ => q_at dC dI cI A (wd_X12_isAt cI a0 v0_2 v0_3 v0_5 v0_12 v0_13 v0_16 v0_17 v0_21 v0_23 v0_24 v0_25 v0_26 v0_29 v0_30 v0_4)) A
set_option maxHeartbeats 4000000 in
set_option maxRecDepth 100000 in
theorem c_X12_isAt (l : Launch) (dC : Nat → ClassId) (dI : Nat → Nat → Nat) (cI : ClassId) (sz : Nat) (a0 : Nat → Nat) (v0_2 : Int32) (v0_3 : Int32) (v0_5 : Int32) (v0_12 : Int32) (v0_13 : Int32) (v0_16 : Int32) (v0_17 : Int32) (v0_21 : Int32) (v0_23 : Int32) (v0_24 : Int32) (v0_25 : Int32) (v0_26 : Int32) (v0_29 : Int32) (v0_30 : Int64) (v0_4 : Nat → Int32) (p1 : Int32) (p2 : Int32) (u : (Int32)) (hF : F_X12_isAt v0_5 v0_24 v0_4 p1 p2 = some u) : Met l yX12_isAt wz_X12_isAt rm_X12_isAt (va_Pc [.ref (a0 0), .int p1, .int p2] (q_pre dC dI cI (wd_X12_isAt cI a0 v0_2 v0_3 v0_5 v0_12 v0_13 v0_16 v0_17 v0_21 v0_23 v0_24 v0_25 v0_26 v0_29 v0_30 v0_4) sz)) (Q_X12_isAt dC dI cI a0 v0_2 v0_3 v0_5 v0_12 v0_13 v0_16 v0_17 v0_21 v0_23 v0_24 v0_25 v0_26 v0_29 v0_30 v0_4 u (va_A (wd_X12_isAt cI a0 v0_2 v0_3 v0_5 v0_12 v0_13 v0_16 v0_17 v0_21 v0_23 v0_24 v0_25 v0_26 v0_29 v0_30 v0_4) sz)) 0 0 (va_A (wd_X12_isAt cI a0 v0_2 v0_3 v0_5 v0_12 v0_13 v0_16 v0_17 v0_21 v0_23 v0_24 v0_25 v0_26 v0_29 v0_30 v0_4) sz) := by
  refine Met.ofW (cc := cX12_isAt) (maxL := 3) (ret := (some .boolean)) (by decide) rfl ?_
  intro p e s m args below meth c s₁ B hml hv
  obtain ⟨rfl, hsz, hP, hK, hD0⟩ := hv
  have hx := B.exec
  have hb := B.bytes
  have hr := B.returns
  have hts := atoms_spec (ws := wz_X12_isAt) B.pre
  have hta := wz_tl hts
  have hown : s.vm.findClass RX12 = some m.cls := findClass_of_methodNamed B.named
  have hlocks := B.notSynchronized
  subst hsz
  have hD := hD0.self (sz := s.heap.size)
  generalize hAe : va_A (wd_X12_isAt cI a0 v0_2 v0_3 v0_5 v0_12 v0_13 v0_16 v0_17 v0_21 v0_23 v0_24 v0_25 v0_26 v0_29 v0_30 v0_4) s.heap.size = A at hD ⊢
  have hA : ∀ q : Nat, s.heap.size ≤ q → A q := fun q h => by rw [← hAe]; exact Or.inr h
  have hS : va_S A s.heap s.heap [] := va_S.rf
  have hP : va_P (dC, dI) vwCl (wd_X12_isAt cI a0 v0_2 v0_3 v0_5 v0_12 v0_13 v0_16 v0_17 v0_21 v0_23 v0_24 v0_25 v0_26 v0_29 v0_30 v0_4) s.heap := hP
  have hl := lv_entry ([.ref (a0 0), .int p1, .int p2]) (n := 3) (Nat.le_of_ble_eq_true rfl)
  rw [lg_entry_eq]
  generalize (lg_sl ([.ref (a0 0), .int p1, .int p2]) ++ List.replicate (3 - (lg_sl ([.ref (a0 0), .int p1, .int p2])).length) Slot.unset).toArray = ls at hl ⊢
  have hl : lv_has ls 3 [(0, .ref (a0 0)), (1, .int p1), (2, .int p2)] := hl
  obtain ⟨H, hHe⟩ : ∃ H, H = s.heap := ⟨_, rfl⟩
  have hS : va_S A s.heap H [] := by rw [hHe]; exact hS
  have hP : va_P (dC, dI) vwCl (wd_X12_isAt cI a0 v0_2 v0_3 v0_5 v0_12 v0_13 v0_16 v0_17 v0_21 v0_23 v0_24 v0_25 v0_26 v0_29 v0_30 v0_4) H := by rw [hHe]; exact hP
  rw [← hHe]
  unfold F_X12_isAt at hF
  have j32 : ∀ (_ : Unit), F_X12_isAt_j32 = some u → ∀ (H : Heap) (locs : List Loc) (ls : Array Slot), va_P (dC, dI) vwCl (wd_X12_isAt cI a0 v0_2 v0_3 v0_5 v0_12 v0_13 v0_16 v0_17 v0_21 v0_23 v0_24 v0_25 v0_26 v0_29 v0_30 v0_4) H → va_D A (wd_X12_isAt cI a0 v0_2 v0_3 v0_5 v0_12 v0_13 v0_16 v0_17 v0_21 v0_23 v0_24 v0_25 v0_26 v0_29 v0_30 v0_4) → va_S A s.heap H locs → lv_has ls 3 [] → W p l e (headSpec wz_X12_isAt rm_X12_isAt).room s m [.ref (a0 0), .int p1, .int p2].toArray below meth c H locs 0 0 (MQ below (Q_X12_isAt dC dI cI a0 v0_2 v0_3 v0_5 v0_12 v0_13 v0_16 v0_17 v0_21 v0_23 v0_24 v0_25 v0_26 v0_29 v0_30 v0_4 u A) [.ref (a0 0), .int p1, .int p2].toArray s 0 0 A) (F0 m 32 ls []) := by
    intro _ hF H locs ls hP hD hS hl
    unfold F_X12_isAt_j32 at hF
    refine lv_iconst (v := 0) hx hb dX12_isAt_32 (by decide) ?_
    obtain rfl := Option.some.inj hF
    exact W.zret (v := 0) (ty := .boolean) hx hb hr (z_nar (Or.inl rfl)) (fun t ht hW => ⟨⟨0, (), rfl, ⟨rfl, (Or.inl rfl)⟩, by rw [ht]; exact hP, va_K.moved hW.alike hK, hD⟩, hS.F ht⟩) hS.2.2 dX12_isAt_33
  refine lv_aload_n hx hb dX12_isAt_0 rfl (lv_at hl 0 rfl) ?_
  refine va_get (D := (dC, dI)) (ci := 11) (v := .int v0_24) (C := RX12) (T := TX12) (N := 31) hx hb hta uw_X12 hown hK hP 0 rfl rfl 24 (by decide) (hta _ mA1065) (fun _ h9 => h9) rfl dX12_isAt_1 ?_
  refine lv_aload_n hx hb dX12_isAt_4 rfl (lv_at hl 0 rfl) ?_
  refine va_get (D := (dC, dI)) (ci := 11) (v := .int v0_5) (C := RX12) (T := TX12) (N := 31) hx hb hta uw_X12 hown hK hP 0 rfl rfl 5 (by decide) (hta _ mA1062) (fun _ h9 => h9) rfl dX12_isAt_5 ?_
  refine lv_icmp_ge (tgt := 32) hx hb dX12_isAt_8 (by decide) (fun c_1 => ?_) (fun c_1 => ?_)
  · have hF := it_t hF c_1
    exact j32 () hF _ _ _ hP hD hS (lv_sub hl [] rfl)
  · have hF := it_f hF c_1
    refine lv_aload_n hx hb dX12_isAt_11 rfl (lv_at hl 0 rfl) ?_
    refine va_get (D := (dC, dI)) (ci := 11) (v := .ref (a0 5)) (C := RX12) (T := TX12) (N := 31) hx hb hta uw_X12 hown hK hP 0 rfl rfl 4 (by decide) (hta _ mA792) (fun _ h9 => h9) rfl dX12_isAt_12 ?_
    refine lv_aload_n hx hb dX12_isAt_15 rfl (lv_at hl 0 rfl) ?_
    refine va_get (D := (dC, dI)) (ci := 11) (v := .int v0_24) (C := RX12) (T := TX12) (N := 31) hx hb hta uw_X12 hown hK hP 0 rfl rfl 24 (by decide) (hta _ mA1065) (fun _ h9 => h9) rfl dX12_isAt_16 ?_
    obtain ⟨g_2, hF⟩ := gd_some hF
    refine va_iald hx hb hK hP 1 0 rfl rfl (vpi_in g_2) dX12_isAt_19 ?_
    refine lv_iload_n hx hb dX12_isAt_20 rfl (lv_at hl 1 rfl) ?_
    refine lv_iload_n hx hb dX12_isAt_21 rfl (lv_at hl 2 rfl) ?_
    obtain ⟨u_3, hu_3, hF⟩ := lt_some hF
    have hPc := hP.sub (ws' := ([] : va_W)) [] rfl
    have hDc := hD.sub (ws' := ([] : va_W)) [] rfl rfl
    refine q_callz (wc := ([] : va_W)) (w1 := ([] : va_W)) (ws' := (wd_X12_isAt cI a0 v0_2 v0_3 v0_5 v0_12 v0_13 v0_16 v0_17 v0_21 v0_23 v0_24 v0_25 v0_26 v0_29 v0_30 v0_4)) hP hD hS hA [] [0, 1] [0, 1] rfl rfl rfl (by decide) rfl rfl (va_runS (As := [.int (v0_4 v0_24.toNatClampNeg), .int p1, .int p2]) (rest := []) ⟨hx, hb, hml, hown, hta⟩ (c_X12_within l dC dI cI H.size (v0_4 v0_24.toNatClampNeg) p1 p2 u_3 hu_3.symm) (va_cwS 3 hta (ga_S mA812 mA813 mA814 mA810) rfl rfl rfl (by decide +kernel) ⟨Nat.le_of_ble_eq_true rfl, Nat.le_of_ble_eq_true rfl⟩) ⟨q_fb, q_ps hPc hK hDc⟩ rfl rfl hl.1 rfl (lv_room (Nat.le_of_ble_eq_true rfl)) dX12_isAt_22 ⟨Nat.zero_le _, Nat.zero_le _⟩) (fun hzu_3 H locs hP hD hS => ?_)
    refine lv_if_eq (tgt := 32) hx hb dX12_isAt_25 (by decide) (fun c_4 => ?_) (fun c_4 => ?_)
    · have hF := it_t hF c_4
      exact j32 () hF _ _ _ hP hD hS (lv_sub hl [] rfl)
    · have hF := it_f hF c_4
      refine lv_iconst (v := 1) hx hb dX12_isAt_28 (by decide) ?_
      refine lv_goto (tgt := 33) hx hb dX12_isAt_29 (by decide) ?_
      obtain rfl := Option.some.inj hF
      exact W.zret (v := 1) (ty := .boolean) hx hb hr (z_nar (Or.inr rfl)) (fun t ht hW => ⟨⟨1, (), rfl, ⟨rfl, (Or.inr rfl)⟩, by rw [ht]; exact hP, va_K.moved hW.alike hK, hD⟩, hS.F ht⟩) hS.2.2 dX12_isAt_33

-- StrokeOutlinerModel.passes(I)Z
def F_X12_passes_j21 (x2 : Int32) (t1 : Int32) (t2 : Int32) : Option (Int32 × Int32) :=
  lt (t1 + t2) (fun y_1 => gd (decide (x2 = 0 ∨ x2 = 1)) (some (x2, y_1)))
def F_X12_passes (v0_5 : Int32) (v0_24 : Int32) (v0_4 : Nat → Int32) (p1 : Int32) : Option (Int32 × Int32) :=
  obd (F_X12_isAt v0_5 v0_24 v0_4 p1 p1) (fun u_3 => if u_3 = 0 then F_X12_passes_j21 u_3 v0_24 0 else F_X12_passes_j21 u_3 v0_24 1)
abbrev wd_X12_passes (cI : ClassId) (a0 : Nat → Nat) (v0_2 : Int32) (v0_3 : Int32) (v0_5 : Int32) (v0_12 : Int32) (v0_13 : Int32) (v0_16 : Int32) (v0_17 : Int32) (v0_21 : Int32) (v0_23 : Int32) (v0_24 : Int32) (v0_25 : Int32) (v0_26 : Int32) (v0_29 : Int32) (v0_30 : Int64) (v0_4 : Nat → Int32) : va_W := [(a0 0, .inr (11, [.ref (a0 1), .ref (a0 2), .int v0_2, .int v0_3, .ref (a0 5), .int v0_5, .ref (a0 7), .ref (a0 8), .ref (a0 9), .ref (a0 10), .ref (a0 11), .ref (a0 12), .int v0_12, .int v0_13, .ref (a0 15), .ref (a0 16), .int v0_16, .int v0_17, .ref (a0 19), .ref (a0 20), .ref (a0 21), .int v0_21, .ref (a0 23), .int v0_23, .int v0_24, .int v0_25, .int v0_26, .ref (a0 28), .ref (a0 29), .int v0_29, .long v0_30])), (a0 5, .inl (cI, 150, .inl v0_4))]
abbrev wz_X12_passes : List Cond := .code yX12_passes cX12_passes 3 (some .boolean) :: wALL
abbrev rm_X12_passes : Room := { frames := 2, cells := 0, slots := 0, locals := 44 }
abbrev Q_X12_passes (dC : Nat → ClassId) (dI : Nat → Nat → Nat) (cI : ClassId) (a0 : Nat → Nat) (v0_2 : Int32) (v0_3 : Int32) (v0_5 : Int32) (v0_12 : Int32) (v0_13 : Int32) (v0_16 : Int32) (v0_17 : Int32) (v0_21 : Int32) (v0_23 : Int32) (v0_25 : Int32) (v0_26 : Int32) (v0_29 : Int32) (v0_30 : Int64) (v0_4 : Nat → Int32) (u : (Int32 × Int32)) (A : Nat → Prop) : Array Value → State → Outcome → State → Prop := va_Qi (fun (r : Int32) (_ : Unit) => r = u.1 ∧ (u.1 = 0 ∨ u.1 = 1)) (fun _ => q_at dC dI cI A (wd_X12_passes cI a0 v0_2 v0_3 v0_5 v0_12 v0_13 v0_16 v0_17 v0_21 v0_23 u.2 v0_25 v0_26 v0_29 v0_30 v0_4)) A
set_option maxHeartbeats 4000000 in
set_option maxRecDepth 100000 in
theorem c_X12_passes (l : Launch) (dC : Nat → ClassId) (dI : Nat → Nat → Nat) (cI : ClassId) (sz : Nat) (a0 : Nat → Nat) (v0_2 : Int32) (v0_3 : Int32) (v0_5 : Int32) (v0_12 : Int32) (v0_13 : Int32) (v0_16 : Int32) (v0_17 : Int32) (v0_21 : Int32) (v0_23 : Int32) (v0_24 : Int32) (v0_25 : Int32) (v0_26 : Int32) (v0_29 : Int32) (v0_30 : Int64) (v0_4 : Nat → Int32) (p1 : Int32) (u : (Int32 × Int32)) (hF : F_X12_passes v0_5 v0_24 v0_4 p1 = some u) : Met l yX12_passes wz_X12_passes rm_X12_passes (va_Pc [.ref (a0 0), .int p1] (q_pre dC dI cI (wd_X12_passes cI a0 v0_2 v0_3 v0_5 v0_12 v0_13 v0_16 v0_17 v0_21 v0_23 v0_24 v0_25 v0_26 v0_29 v0_30 v0_4) sz)) (Q_X12_passes dC dI cI a0 v0_2 v0_3 v0_5 v0_12 v0_13 v0_16 v0_17 v0_21 v0_23 v0_25 v0_26 v0_29 v0_30 v0_4 u (va_A (wd_X12_passes cI a0 v0_2 v0_3 v0_5 v0_12 v0_13 v0_16 v0_17 v0_21 v0_23 v0_24 v0_25 v0_26 v0_29 v0_30 v0_4) sz)) 0 0 (va_A (wd_X12_passes cI a0 v0_2 v0_3 v0_5 v0_12 v0_13 v0_16 v0_17 v0_21 v0_23 v0_24 v0_25 v0_26 v0_29 v0_30 v0_4) sz) := by
  refine Met.ofW (cc := cX12_passes) (maxL := 3) (ret := (some .boolean)) (by decide) rfl ?_
  intro p e s m args below meth c s₁ B hml hv
  obtain ⟨rfl, hsz, hP, hK, hD0⟩ := hv
  have hx := B.exec
  have hb := B.bytes
  have hr := B.returns
  have hts := atoms_spec (ws := wz_X12_passes) B.pre
  have hta := wz_tl hts
  have hown : s.vm.findClass RX12 = some m.cls := findClass_of_methodNamed B.named
  have hlocks := B.notSynchronized
  subst hsz
  have hD := hD0.self (sz := s.heap.size)
  generalize hAe : va_A (wd_X12_passes cI a0 v0_2 v0_3 v0_5 v0_12 v0_13 v0_16 v0_17 v0_21 v0_23 v0_24 v0_25 v0_26 v0_29 v0_30 v0_4) s.heap.size = A at hD ⊢
  have hA : ∀ q : Nat, s.heap.size ≤ q → A q := fun q h => by rw [← hAe]; exact Or.inr h
  have hS : va_S A s.heap s.heap [] := va_S.rf
  have hP : va_P (dC, dI) vwCl (wd_X12_passes cI a0 v0_2 v0_3 v0_5 v0_12 v0_13 v0_16 v0_17 v0_21 v0_23 v0_24 v0_25 v0_26 v0_29 v0_30 v0_4) s.heap := hP
  have hl := lv_entry ([.ref (a0 0), .int p1]) (n := 3) (Nat.le_of_ble_eq_true rfl)
  rw [lg_entry_eq]
  generalize (lg_sl ([.ref (a0 0), .int p1]) ++ List.replicate (3 - (lg_sl ([.ref (a0 0), .int p1])).length) Slot.unset).toArray = ls at hl ⊢
  have hl : lv_has ls 3 [(0, .ref (a0 0)), (1, .int p1)] := hl
  obtain ⟨H, hHe⟩ : ∃ H, H = s.heap := ⟨_, rfl⟩
  have hS : va_S A s.heap H [] := by rw [hHe]; exact hS
  have hP : va_P (dC, dI) vwCl (wd_X12_passes cI a0 v0_2 v0_3 v0_5 v0_12 v0_13 v0_16 v0_17 v0_21 v0_23 v0_24 v0_25 v0_26 v0_29 v0_30 v0_4) H := by rw [hHe]; exact hP
  rw [← hHe]
  unfold F_X12_passes at hF
  have j21 : ∀ (v0_24 : Int32) (x2 : Int32) (t1 : Int32) (t2 : Int32), F_X12_passes_j21 x2 t1 t2 = some u → ∀ (H : Heap) (locs : List Loc) (ls : Array Slot), va_P (dC, dI) vwCl (wd_X12_passes cI a0 v0_2 v0_3 v0_5 v0_12 v0_13 v0_16 v0_17 v0_21 v0_23 v0_24 v0_25 v0_26 v0_29 v0_30 v0_4) H → va_D A (wd_X12_passes cI a0 v0_2 v0_3 v0_5 v0_12 v0_13 v0_16 v0_17 v0_21 v0_23 v0_24 v0_25 v0_26 v0_29 v0_30 v0_4) → va_S A s.heap H locs → lv_has ls 3 [(2, .int x2)] → W p l e (headSpec wz_X12_passes rm_X12_passes).room s m [.ref (a0 0), .int p1].toArray below meth c H locs 0 0 (MQ below (Q_X12_passes dC dI cI a0 v0_2 v0_3 v0_5 v0_12 v0_13 v0_16 v0_17 v0_21 v0_23 v0_25 v0_26 v0_29 v0_30 v0_4 u A) [.ref (a0 0), .int p1].toArray s 0 0 A) (F0 m 21 ls [.int t2, .int t1, .ref (a0 0)]) := by
    intro v0_24 x2 t1 t2 hF H locs ls hP hD hS hl
    unfold F_X12_passes_j21 at hF
    refine lv_iadd hx hb dX12_passes_21 ?_
    obtain ⟨y_1, ey_1, hF⟩ := lt_some hF
    refine lv_eqi ey_1 ?_
    refine va_put (D := (dC, dI)) (ci := 11) (v := .int y_1) (ty := .int) (C := RX12) (T := TX12) (N := 31) hx hb hta uw_X12 tyX12 tyX12_ok nmX12 hown hK hP hD hS 0 rfl rfl 24 (by decide) (hta _ mA1065) (fun _ h9 => h9) rfl (by decide +kernel) rfl rfl (Nat.le_of_ble_eq_true rfl) dX12_passes_22 (fun H locs hP hD hS => ?_)
    have hP : va_P (dC, dI) vwCl (wd_X12_passes cI a0 v0_2 v0_3 v0_5 v0_12 v0_13 v0_16 v0_17 v0_21 v0_23 y_1 v0_25 v0_26 v0_29 v0_30 v0_4) H := hP
    have hD : va_D A (wd_X12_passes cI a0 v0_2 v0_3 v0_5 v0_12 v0_13 v0_16 v0_17 v0_21 v0_23 y_1 v0_25 v0_26 v0_29 v0_30 v0_4) := hD
    refine lv_iload_n hx hb dX12_passes_25 rfl (lv_at hl 0 rfl) ?_
    obtain ⟨g_2, hF⟩ := gd_some hF
    obtain rfl := Option.some.inj hF
    exact W.zret (v := x2) (ty := .boolean) hx hb hr (z_nar g_2) (fun t ht hW => ⟨⟨x2, (), rfl, ⟨rfl, g_2⟩, by rw [ht]; exact hP, va_K.moved hW.alike hK, hD⟩, hS.F ht⟩) hS.2.2 dX12_passes_26
  refine lv_aload_n hx hb dX12_passes_0 rfl (lv_at hl 0 rfl) ?_
  refine lv_iload_n hx hb dX12_passes_1 rfl (lv_at hl 1 rfl) ?_
  refine lv_iload_n hx hb dX12_passes_2 rfl (lv_at hl 1 rfl) ?_
  obtain ⟨u_3, hu_3, hF⟩ := obd_some hF
  have hPc := hP.sub (ws' := (wd_X12_isAt cI a0 v0_2 v0_3 v0_5 v0_12 v0_13 v0_16 v0_17 v0_21 v0_23 v0_24 v0_25 v0_26 v0_29 v0_30 v0_4)) [0, 1] rfl
  have hDc := hD.sub (ws' := (wd_X12_isAt cI a0 v0_2 v0_3 v0_5 v0_12 v0_13 v0_16 v0_17 v0_21 v0_23 v0_24 v0_25 v0_26 v0_29 v0_30 v0_4)) [0, 1] rfl rfl
  refine q_callz (wc := (wd_X12_isAt cI a0 v0_2 v0_3 v0_5 v0_12 v0_13 v0_16 v0_17 v0_21 v0_23 v0_24 v0_25 v0_26 v0_29 v0_30 v0_4)) (w1 := (wd_X12_isAt cI a0 v0_2 v0_3 v0_5 v0_12 v0_13 v0_16 v0_17 v0_21 v0_23 v0_24 v0_25 v0_26 v0_29 v0_30 v0_4)) (ws' := (wd_X12_passes cI a0 v0_2 v0_3 v0_5 v0_12 v0_13 v0_16 v0_17 v0_21 v0_23 v0_24 v0_25 v0_26 v0_29 v0_30 v0_4)) hP hD hS hA [0, 1] [] [0, 1] rfl rfl rfl (by decide) rfl rfl (va_runV (As := [.int p1, .int p1]) (rest := []) ⟨hx, hb, hml, hown, hta⟩ (c_X12_isAt l dC dI cI H.size a0 v0_2 v0_3 v0_5 v0_12 v0_13 v0_16 v0_17 v0_21 v0_23 v0_24 v0_25 v0_26 v0_29 v0_30 v0_4 p1 p1 u_3 hu_3) (cwV 2 hta (ga_V mA1067 mA1068 mA1069 mA814 mA1064) rfl rfl rfl (by decide +kernel) ⟨Nat.le_of_ble_eq_true rfl, Nat.le_of_ble_eq_true rfl⟩) ⟨q_fb, va_recv hK hP (ci := 11) (q0 := 0) rfl rfl, q_ps hPc hK hDc⟩ rfl rfl hl.1 rfl (lv_room (Nat.le_of_ble_eq_true rfl)) dX12_passes_3 ⟨Nat.zero_le _, Nat.zero_le _⟩) (fun hzu_3 H locs hP hD hS => ?_)
  refine lv_istore_n (lv' := [(2, .int u_3), (0, .ref (a0 0)), (1, .int p1)]) hx hb dX12_passes_6 rfl hl (by decide) rfl (fun ls hl => ?_)
  refine lv_aload_n hx hb dX12_passes_7 rfl (lv_at hl 1 rfl) ?_
  refine lv_dup hx hb dX12_passes_8 rfl ?_
  refine va_get (D := (dC, dI)) (ci := 11) (v := .int v0_24) (C := RX12) (T := TX12) (N := 31) hx hb hta uw_X12 hown hK hP 0 rfl rfl 24 (by decide) (hta _ mA1065) (fun _ h9 => h9) rfl dX12_passes_9 ?_
  refine lv_iload_n hx hb dX12_passes_12 rfl (lv_at hl 0 rfl) ?_
  refine lv_if_eq (tgt := 20) hx hb dX12_passes_13 (by decide) (fun c_4 => ?_) (fun c_4 => ?_)
  · have hF := it_t hF c_4
    refine lv_iconst (v := 0) hx hb dX12_passes_20 (by decide) ?_
    exact j21 v0_24 u_3 v0_24 0 hF _ _ _ hP hD hS (lv_sub hl [0] rfl)
  · have hF := it_f hF c_4
    refine lv_iconst (v := 1) hx hb dX12_passes_16 (by decide) ?_
    refine lv_goto (tgt := 21) hx hb dX12_passes_17 (by decide) ?_
    exact j21 v0_24 u_3 v0_24 1 hF _ _ _ hP hD hS (lv_sub hl [0] rfl)

-- StrokeOutlinerModel.reads()Z
def F_X12_reads_j110 (v0_24 : Int32) (v0_25 : Int32) : Option (Int32 × Int32 × Int32) :=
  some (0, v0_24, v0_25)
def F_X12_reads_j139 (v0_25 : Int32) (x4 : Int32) (t1 : Int32) : Option (Int32 × Int32 × Int32) :=
  gd (decide (x4 = 0 ∨ x4 = 1)) (some (x4, t1, v0_25))
def F_X12_reads_j92 (v0_5 : Int32) (v0_24 : Int32) (v0_4 : Nat → Int32) (x1 : Int32) (x3 : Int32) (t1 : Int32) : Option (Int32 × Int32 × Int32) :=
  if x3 = 0 then F_X12_reads_j110 v0_24 t1 else obd (F_X12_isAt v0_5 v0_24 v0_4 48 57) (fun u_3 => if u_3 = 0 then lt (F_X12_within t1 (-100) 100) (fun u_5 => if u_5 = 0 then F_X12_reads_j139 t1 u_5 x1 else F_X12_reads_j139 t1 u_5 v0_24) else F_X12_reads_j110 v0_24 t1)
def F_X12_reads_j75 (v0_5 : Int32) (v0_24 : Int32) (v0_25 : Int32) (v0_4 : Nat → Int32) (x1 : Int32) (x2 : Int32) (x3 : Int32) : Option (Int32 × Int32 × Int32) :=
  if x2 = 0 then F_X12_reads_j92 v0_5 v0_24 v0_4 x1 x3 v0_25 else F_X12_reads_j92 v0_5 v0_24 v0_4 x1 x3 (-v0_25)
def F_X12_reads_b19 (v0_5 : Int32) (v0_4 : Nat → Int32) (s19 : Int32 × Int32 × Int32) : Option (Sum (Int32 × Int32 × Int32) (Int32 × Int32 × Int32)) :=
  if 3 ≤ s19.1 then some (.inr (s19.1, s19.2.1, s19.2.2)) else obd (F_X12_isAt v0_5 s19.2.1 v0_4 48 57) (fun u_9 => if u_9 = 0 then some (.inr (s19.1, s19.2.1, s19.2.2)) else gd (decide (vpi s19.2.1 150)) (lt (((10 * s19.2.2) + (v0_4 s19.2.1.toNatClampNeg)) - 48) (fun y_12 => lt (s19.2.1 + 1) (fun y_13 => lt (s19.1 + 1) (fun y_14 => some (.inl (y_14, y_13, y_12)))))))
def F_X12_reads_j19 (n : Nat) (v0_5 : Int32) (v0_24 : Int32) (v0_25 : Int32) (v0_4 : Nat → Int32) (x1 : Int32) (x2 : Int32) (x3 : Int32) : Option (Int32 × Int32 × Int32) :=
  obd (lpq (F_X12_reads_b19 v0_5 v0_4) n (x3, v0_24, v0_25)) (fun x_19 => F_X12_reads_j75 v0_5 x_19.2.1 x_19.2.2 v0_4 x1 x2 x_19.1)
def F_X12_reads (n : Nat) (v0_5 : Int32) (v0_24 : Int32) (v0_4 : Nat → Int32) : Option (Int32 × Int32 × Int32) :=
  obd (F_X12_passes v0_5 v0_24 v0_4 45) (fun u_15 => F_X12_reads_j19 n v0_5 u_15.2 0 v0_4 v0_24 u_15.1 0)
abbrev wd_X12_reads (cI : ClassId) (a0 : Nat → Nat) (v0_2 : Int32) (v0_3 : Int32) (v0_5 : Int32) (v0_12 : Int32) (v0_13 : Int32) (v0_16 : Int32) (v0_17 : Int32) (v0_21 : Int32) (v0_23 : Int32) (v0_24 : Int32) (v0_25 : Int32) (v0_26 : Int32) (v0_29 : Int32) (v0_30 : Int64) (v0_4 : Nat → Int32) : va_W := [(a0 0, .inr (11, [.ref (a0 1), .ref (a0 2), .int v0_2, .int v0_3, .ref (a0 5), .int v0_5, .ref (a0 7), .ref (a0 8), .ref (a0 9), .ref (a0 10), .ref (a0 11), .ref (a0 12), .int v0_12, .int v0_13, .ref (a0 15), .ref (a0 16), .int v0_16, .int v0_17, .ref (a0 19), .ref (a0 20), .ref (a0 21), .int v0_21, .ref (a0 23), .int v0_23, .int v0_24, .int v0_25, .int v0_26, .ref (a0 28), .ref (a0 29), .int v0_29, .long v0_30])), (a0 5, .inl (cI, 150, .inl v0_4))]
abbrev wz_X12_reads : List Cond := .code yX12_reads cX12_reads 5 (some .boolean) :: wALL
abbrev rm_X12_reads : Room := { frames := 3, cells := 0, slots := 0, locals := 66 }
abbrev Q_X12_reads (dC : Nat → ClassId) (dI : Nat → Nat → Nat) (cI : ClassId) (a0 : Nat → Nat) (v0_2 : Int32) (v0_3 : Int32) (v0_5 : Int32) (v0_12 : Int32) (v0_13 : Int32) (v0_16 : Int32) (v0_17 : Int32) (v0_21 : Int32) (v0_23 : Int32) (v0_26 : Int32) (v0_29 : Int32) (v0_30 : Int64) (v0_4 : Nat → Int32) (u : (Int32 × Int32 × Int32)) (A : Nat → Prop) : Array Value → State → Outcome → State → Prop := va_Qi (fun (r : Int32) (_ : Unit) => r = u.1 ∧ (u.1 = 0 ∨ u.1 = 1)) (fun _ => q_at dC dI cI A (wd_X12_reads cI a0 v0_2 v0_3 v0_5 v0_12 v0_13 v0_16 v0_17 v0_21 v0_23 u.2.1 u.2.2 v0_26 v0_29 v0_30 v0_4)) A
set_option maxHeartbeats 4000000 in
set_option maxRecDepth 100000 in
theorem c_X12_reads (l : Launch) (dC : Nat → ClassId) (dI : Nat → Nat → Nat) (cI : ClassId) (sz : Nat) (a0 : Nat → Nat) (v0_2 : Int32) (v0_3 : Int32) (v0_5 : Int32) (v0_12 : Int32) (v0_13 : Int32) (v0_16 : Int32) (v0_17 : Int32) (v0_21 : Int32) (v0_23 : Int32) (v0_24 : Int32) (v0_25 : Int32) (v0_26 : Int32) (v0_29 : Int32) (v0_30 : Int64) (v0_4 : Nat → Int32) (n : Nat) (u : (Int32 × Int32 × Int32)) (hF : F_X12_reads n v0_5 v0_24 v0_4 = some u) : Met l yX12_reads wz_X12_reads rm_X12_reads (va_Pc [.ref (a0 0)] (q_pre dC dI cI (wd_X12_reads cI a0 v0_2 v0_3 v0_5 v0_12 v0_13 v0_16 v0_17 v0_21 v0_23 v0_24 v0_25 v0_26 v0_29 v0_30 v0_4) sz)) (Q_X12_reads dC dI cI a0 v0_2 v0_3 v0_5 v0_12 v0_13 v0_16 v0_17 v0_21 v0_23 v0_26 v0_29 v0_30 v0_4 u (va_A (wd_X12_reads cI a0 v0_2 v0_3 v0_5 v0_12 v0_13 v0_16 v0_17 v0_21 v0_23 v0_24 v0_25 v0_26 v0_29 v0_30 v0_4) sz)) 0 0 (va_A (wd_X12_reads cI a0 v0_2 v0_3 v0_5 v0_12 v0_13 v0_16 v0_17 v0_21 v0_23 v0_24 v0_25 v0_26 v0_29 v0_30 v0_4) sz) := by
  refine Met.ofW (cc := cX12_reads) (maxL := 5) (ret := (some .boolean)) (by decide) rfl ?_
  intro p e s m args below meth c s₁ B hml hv
  obtain ⟨rfl, hsz, hP, hK, hD0⟩ := hv
  have hx := B.exec
  have hb := B.bytes
  have hr := B.returns
  have hts := atoms_spec (ws := wz_X12_reads) B.pre
  have hta := wz_tl hts
  have hown : s.vm.findClass RX12 = some m.cls := findClass_of_methodNamed B.named
  have hlocks := B.notSynchronized
  subst hsz
  have hD := hD0.self (sz := s.heap.size)
  generalize hAe : va_A (wd_X12_reads cI a0 v0_2 v0_3 v0_5 v0_12 v0_13 v0_16 v0_17 v0_21 v0_23 v0_24 v0_25 v0_26 v0_29 v0_30 v0_4) s.heap.size = A at hD ⊢
  have hA : ∀ q : Nat, s.heap.size ≤ q → A q := fun q h => by rw [← hAe]; exact Or.inr h
  have hS : va_S A s.heap s.heap [] := va_S.rf
  have hP : va_P (dC, dI) vwCl (wd_X12_reads cI a0 v0_2 v0_3 v0_5 v0_12 v0_13 v0_16 v0_17 v0_21 v0_23 v0_24 v0_25 v0_26 v0_29 v0_30 v0_4) s.heap := hP
  have hl := lv_entry ([.ref (a0 0)]) (n := 5) (Nat.le_of_ble_eq_true rfl)
  rw [lg_entry_eq]
  generalize (lg_sl ([.ref (a0 0)]) ++ List.replicate (5 - (lg_sl ([.ref (a0 0)])).length) Slot.unset).toArray = ls at hl ⊢
  have hl : lv_has ls 5 [(0, .ref (a0 0))] := hl
  obtain ⟨H, hHe⟩ : ∃ H, H = s.heap := ⟨_, rfl⟩
  have hS : va_S A s.heap H [] := by rw [hHe]; exact hS
  have hP : va_P (dC, dI) vwCl (wd_X12_reads cI a0 v0_2 v0_3 v0_5 v0_12 v0_13 v0_16 v0_17 v0_21 v0_23 v0_24 v0_25 v0_26 v0_29 v0_30 v0_4) H := by rw [hHe]; exact hP
  rw [← hHe]
  unfold F_X12_reads at hF
  have j110 : ∀ (v0_24 : Int32) (v0_25 : Int32), F_X12_reads_j110 v0_24 v0_25 = some u → ∀ (H : Heap) (locs : List Loc) (ls : Array Slot), va_P (dC, dI) vwCl (wd_X12_reads cI a0 v0_2 v0_3 v0_5 v0_12 v0_13 v0_16 v0_17 v0_21 v0_23 v0_24 v0_25 v0_26 v0_29 v0_30 v0_4) H → va_D A (wd_X12_reads cI a0 v0_2 v0_3 v0_5 v0_12 v0_13 v0_16 v0_17 v0_21 v0_23 v0_24 v0_25 v0_26 v0_29 v0_30 v0_4) → va_S A s.heap H locs → lv_has ls 5 [] → W p l e (headSpec wz_X12_reads rm_X12_reads).room s m [.ref (a0 0)].toArray below meth c H locs 0 0 (MQ below (Q_X12_reads dC dI cI a0 v0_2 v0_3 v0_5 v0_12 v0_13 v0_16 v0_17 v0_21 v0_23 v0_26 v0_29 v0_30 v0_4 u A) [.ref (a0 0)].toArray s 0 0 A) (F0 m 110 ls []) := by
    intro v0_24 v0_25 hF H locs ls hP hD hS hl
    unfold F_X12_reads_j110 at hF
    refine lv_iconst (v := 0) hx hb dX12_reads_110 (by decide) ?_
    obtain rfl := Option.some.inj hF
    exact W.zret (v := 0) (ty := .boolean) hx hb hr (z_nar (Or.inl rfl)) (fun t ht hW => ⟨⟨0, (), rfl, ⟨rfl, (Or.inl rfl)⟩, by rw [ht]; exact hP, va_K.moved hW.alike hK, hD⟩, hS.F ht⟩) hS.2.2 dX12_reads_111
  have j139 : ∀ (v0_24 : Int32) (v0_25 : Int32) (x4 : Int32) (t1 : Int32), F_X12_reads_j139 v0_25 x4 t1 = some u → ∀ (H : Heap) (locs : List Loc) (ls : Array Slot), va_P (dC, dI) vwCl (wd_X12_reads cI a0 v0_2 v0_3 v0_5 v0_12 v0_13 v0_16 v0_17 v0_21 v0_23 v0_24 v0_25 v0_26 v0_29 v0_30 v0_4) H → va_D A (wd_X12_reads cI a0 v0_2 v0_3 v0_5 v0_12 v0_13 v0_16 v0_17 v0_21 v0_23 v0_24 v0_25 v0_26 v0_29 v0_30 v0_4) → va_S A s.heap H locs → lv_has ls 5 [(4, .int x4)] → W p l e (headSpec wz_X12_reads rm_X12_reads).room s m [.ref (a0 0)].toArray below meth c H locs 0 0 (MQ below (Q_X12_reads dC dI cI a0 v0_2 v0_3 v0_5 v0_12 v0_13 v0_16 v0_17 v0_21 v0_23 v0_26 v0_29 v0_30 v0_4 u A) [.ref (a0 0)].toArray s 0 0 A) (F0 m 139 ls [.int t1, .ref (a0 0)]) := by
    intro v0_24 v0_25 x4 t1 hF H locs ls hP hD hS hl
    unfold F_X12_reads_j139 at hF
    refine va_put (D := (dC, dI)) (ci := 11) (v := .int t1) (ty := .int) (C := RX12) (T := TX12) (N := 31) hx hb hta uw_X12 tyX12 tyX12_ok nmX12 hown hK hP hD hS 0 rfl rfl 24 (by decide) (hta _ mA1065) (fun _ h9 => h9) rfl (by decide +kernel) rfl rfl (Nat.le_of_ble_eq_true rfl) dX12_reads_139 (fun H locs hP hD hS => ?_)
    have hP : va_P (dC, dI) vwCl (wd_X12_reads cI a0 v0_2 v0_3 v0_5 v0_12 v0_13 v0_16 v0_17 v0_21 v0_23 t1 v0_25 v0_26 v0_29 v0_30 v0_4) H := hP
    have hD : va_D A (wd_X12_reads cI a0 v0_2 v0_3 v0_5 v0_12 v0_13 v0_16 v0_17 v0_21 v0_23 t1 v0_25 v0_26 v0_29 v0_30 v0_4) := hD
    refine lv_iload hx hb dX12_reads_142 (lv_at hl 0 rfl) ?_
    obtain ⟨g_1, hF⟩ := gd_some hF
    obtain rfl := Option.some.inj hF
    exact W.zret (v := x4) (ty := .boolean) hx hb hr (z_nar g_1) (fun t ht hW => ⟨⟨x4, (), rfl, ⟨rfl, g_1⟩, by rw [ht]; exact hP, va_K.moved hW.alike hK, hD⟩, hS.F ht⟩) hS.2.2 dX12_reads_144
  have j92 : ∀ (v0_24 : Int32) (v0_25 : Int32) (x1 : Int32) (x3 : Int32) (t1 : Int32), F_X12_reads_j92 v0_5 v0_24 v0_4 x1 x3 t1 = some u → ∀ (H : Heap) (locs : List Loc) (ls : Array Slot), va_P (dC, dI) vwCl (wd_X12_reads cI a0 v0_2 v0_3 v0_5 v0_12 v0_13 v0_16 v0_17 v0_21 v0_23 v0_24 v0_25 v0_26 v0_29 v0_30 v0_4) H → va_D A (wd_X12_reads cI a0 v0_2 v0_3 v0_5 v0_12 v0_13 v0_16 v0_17 v0_21 v0_23 v0_24 v0_25 v0_26 v0_29 v0_30 v0_4) → va_S A s.heap H locs → lv_has ls 5 [(0, .ref (a0 0)), (1, .int x1), (3, .int x3)] → W p l e (headSpec wz_X12_reads rm_X12_reads).room s m [.ref (a0 0)].toArray below meth c H locs 0 0 (MQ below (Q_X12_reads dC dI cI a0 v0_2 v0_3 v0_5 v0_12 v0_13 v0_16 v0_17 v0_21 v0_23 v0_26 v0_29 v0_30 v0_4 u A) [.ref (a0 0)].toArray s 0 0 A) (F0 m 92 ls [.int t1, .ref (a0 0)]) := by
    intro v0_24 v0_25 x1 x3 t1 hF H locs ls hP hD hS hl
    unfold F_X12_reads_j92 at hF
    refine va_put (D := (dC, dI)) (ci := 11) (v := .int t1) (ty := .int) (C := RX12) (T := TX12) (N := 31) hx hb hta uw_X12 tyX12 tyX12_ok nmX12 hown hK hP hD hS 0 rfl rfl 25 (by decide) (hta _ mA1071) (fun _ h9 => h9) rfl (by decide +kernel) rfl rfl (Nat.le_of_ble_eq_true rfl) dX12_reads_92 (fun H locs hP hD hS => ?_)
    have hP : va_P (dC, dI) vwCl (wd_X12_reads cI a0 v0_2 v0_3 v0_5 v0_12 v0_13 v0_16 v0_17 v0_21 v0_23 v0_24 t1 v0_26 v0_29 v0_30 v0_4) H := hP
    have hD : va_D A (wd_X12_reads cI a0 v0_2 v0_3 v0_5 v0_12 v0_13 v0_16 v0_17 v0_21 v0_23 v0_24 t1 v0_26 v0_29 v0_30 v0_4) := hD
    refine lv_iload_n hx hb dX12_reads_95 rfl (lv_at hl 2 rfl) ?_
    refine lv_if_eq (tgt := 110) hx hb dX12_reads_96 (by decide) (fun c_2 => ?_) (fun c_2 => ?_)
    · have hF := it_t hF c_2
      exact j110 v0_24 t1 hF _ _ _ hP hD hS (lv_sub hl [] rfl)
    · have hF := it_f hF c_2
      refine lv_aload_n hx hb dX12_reads_99 rfl (lv_at hl 0 rfl) ?_
      refine lv_bipush (v := 48) hx hb dX12_reads_100 (by decide) ?_
      refine lv_bipush (v := 57) hx hb dX12_reads_102 (by decide) ?_
      obtain ⟨u_3, hu_3, hF⟩ := obd_some hF
      have hPc := hP.sub (ws' := (wd_X12_isAt cI a0 v0_2 v0_3 v0_5 v0_12 v0_13 v0_16 v0_17 v0_21 v0_23 v0_24 t1 v0_26 v0_29 v0_30 v0_4)) [0, 1] rfl
      have hDc := hD.sub (ws' := (wd_X12_isAt cI a0 v0_2 v0_3 v0_5 v0_12 v0_13 v0_16 v0_17 v0_21 v0_23 v0_24 t1 v0_26 v0_29 v0_30 v0_4)) [0, 1] rfl rfl
      refine q_callz (wc := (wd_X12_isAt cI a0 v0_2 v0_3 v0_5 v0_12 v0_13 v0_16 v0_17 v0_21 v0_23 v0_24 t1 v0_26 v0_29 v0_30 v0_4)) (w1 := (wd_X12_isAt cI a0 v0_2 v0_3 v0_5 v0_12 v0_13 v0_16 v0_17 v0_21 v0_23 v0_24 t1 v0_26 v0_29 v0_30 v0_4)) (ws' := (wd_X12_reads cI a0 v0_2 v0_3 v0_5 v0_12 v0_13 v0_16 v0_17 v0_21 v0_23 v0_24 t1 v0_26 v0_29 v0_30 v0_4)) hP hD hS hA [0, 1] [] [0, 1] rfl rfl rfl (by decide) rfl rfl (va_runV (As := [.int 48, .int 57]) (rest := []) ⟨hx, hb, hml, hown, hta⟩ (c_X12_isAt l dC dI cI H.size a0 v0_2 v0_3 v0_5 v0_12 v0_13 v0_16 v0_17 v0_21 v0_23 v0_24 t1 v0_26 v0_29 v0_30 v0_4 48 57 u_3 hu_3) (cwV 2 hta (ga_V mA1067 mA1068 mA1069 mA814 mA1064) rfl rfl rfl (by decide +kernel) ⟨Nat.le_of_ble_eq_true rfl, Nat.le_of_ble_eq_true rfl⟩) ⟨q_fb, va_recv hK hP (ci := 11) (q0 := 0) rfl rfl, q_ps hPc hK hDc⟩ rfl rfl hl.1 rfl (lv_room (Nat.le_of_ble_eq_true rfl)) dX12_reads_104 ⟨Nat.zero_le _, Nat.zero_le _⟩) (fun hzu_3 H locs hP hD hS => ?_)
      refine lv_if_eq (tgt := 112) hx hb dX12_reads_107 (by decide) (fun c_4 => ?_) (fun c_4 => ?_)
      · have hF := it_t hF c_4
        refine lv_aload_n hx hb dX12_reads_112 rfl (lv_at hl 0 rfl) ?_
        refine va_get (D := (dC, dI)) (ci := 11) (v := .int t1) (C := RX12) (T := TX12) (N := 31) hx hb hta uw_X12 hown hK hP 0 rfl rfl 25 (by decide) (hta _ mA1071) (fun _ h9 => h9) rfl dX12_reads_113 ?_
        refine lv_bipush (v := (-100)) hx hb dX12_reads_116 (by decide) ?_
        refine lv_bipush (v := 100) hx hb dX12_reads_118 (by decide) ?_
        obtain ⟨u_5, hu_5, hF⟩ := lt_some hF
        have hPc := hP.sub (ws' := ([] : va_W)) [] rfl
        have hDc := hD.sub (ws' := ([] : va_W)) [] rfl rfl
        refine q_callz (wc := ([] : va_W)) (w1 := ([] : va_W)) (ws' := (wd_X12_reads cI a0 v0_2 v0_3 v0_5 v0_12 v0_13 v0_16 v0_17 v0_21 v0_23 v0_24 t1 v0_26 v0_29 v0_30 v0_4)) hP hD hS hA [] [0, 1] [0, 1] rfl rfl rfl (by decide) rfl rfl (va_runS (As := [.int t1, .int (-100), .int 100]) (rest := []) ⟨hx, hb, hml, hown, hta⟩ (c_X12_within l dC dI cI H.size t1 (-100) 100 u_5 hu_5.symm) (va_cwS 3 hta (ga_S mA812 mA813 mA814 mA810) rfl rfl rfl (by decide +kernel) ⟨Nat.le_of_ble_eq_true rfl, Nat.le_of_ble_eq_true rfl⟩) ⟨q_fb, q_ps hPc hK hDc⟩ rfl rfl hl.1 rfl (lv_room (Nat.le_of_ble_eq_true rfl)) dX12_reads_120 ⟨Nat.zero_le _, Nat.zero_le _⟩) (fun hzu_5 H locs hP hD hS => ?_)
        refine lv_istore (lv' := [(4, .int u_5), (0, .ref (a0 0)), (1, .int x1), (3, .int x3)]) hx hb dX12_reads_123 hl (by decide) rfl (fun ls hl => ?_)
        refine lv_aload_n hx hb dX12_reads_125 rfl (lv_at hl 1 rfl) ?_
        refine lv_iload hx hb dX12_reads_126 (lv_at hl 0 rfl) ?_
        refine lv_if_eq (tgt := 138) hx hb dX12_reads_128 (by decide) (fun c_6 => ?_) (fun c_6 => ?_)
        · have hF := it_t hF c_6
          refine lv_iload_n hx hb dX12_reads_138 rfl (lv_at hl 2 rfl) ?_
          exact j139 v0_24 t1 u_5 x1 hF _ _ _ hP hD hS (lv_sub hl [0] rfl)
        · have hF := it_f hF c_6
          refine lv_aload_n hx hb dX12_reads_131 rfl (lv_at hl 1 rfl) ?_
          refine va_get (D := (dC, dI)) (ci := 11) (v := .int v0_24) (C := RX12) (T := TX12) (N := 31) hx hb hta uw_X12 hown hK hP 0 rfl rfl 24 (by decide) (hta _ mA1065) (fun _ h9 => h9) rfl dX12_reads_132 ?_
          refine lv_goto (tgt := 139) hx hb dX12_reads_135 (by decide) ?_
          exact j139 v0_24 t1 u_5 v0_24 hF _ _ _ hP hD hS (lv_sub hl [0] rfl)
      · have hF := it_f hF c_4
        exact j110 v0_24 t1 hF _ _ _ hP hD hS (lv_sub hl [] rfl)
  have j75 : ∀ (v0_24 : Int32) (v0_25 : Int32) (x1 : Int32) (x2 : Int32) (x3 : Int32), F_X12_reads_j75 v0_5 v0_24 v0_25 v0_4 x1 x2 x3 = some u → ∀ (H : Heap) (locs : List Loc) (ls : Array Slot), va_P (dC, dI) vwCl (wd_X12_reads cI a0 v0_2 v0_3 v0_5 v0_12 v0_13 v0_16 v0_17 v0_21 v0_23 v0_24 v0_25 v0_26 v0_29 v0_30 v0_4) H → va_D A (wd_X12_reads cI a0 v0_2 v0_3 v0_5 v0_12 v0_13 v0_16 v0_17 v0_21 v0_23 v0_24 v0_25 v0_26 v0_29 v0_30 v0_4) → va_S A s.heap H locs → lv_has ls 5 [(0, .ref (a0 0)), (1, .int x1), (2, .int x2), (3, .int x3)] → W p l e (headSpec wz_X12_reads rm_X12_reads).room s m [.ref (a0 0)].toArray below meth c H locs 0 0 (MQ below (Q_X12_reads dC dI cI a0 v0_2 v0_3 v0_5 v0_12 v0_13 v0_16 v0_17 v0_21 v0_23 v0_26 v0_29 v0_30 v0_4 u A) [.ref (a0 0)].toArray s 0 0 A) (F0 m 75 ls []) := by
    intro v0_24 v0_25 x1 x2 x3 hF H locs ls hP hD hS hl
    unfold F_X12_reads_j75 at hF
    refine lv_aload_n hx hb dX12_reads_75 rfl (lv_at hl 0 rfl) ?_
    refine lv_iload_n hx hb dX12_reads_76 rfl (lv_at hl 2 rfl) ?_
    refine lv_if_eq (tgt := 88) hx hb dX12_reads_77 (by decide) (fun c_7 => ?_) (fun c_7 => ?_)
    · have hF := it_t hF c_7
      refine lv_aload_n hx hb dX12_reads_88 rfl (lv_at hl 0 rfl) ?_
      refine va_get (D := (dC, dI)) (ci := 11) (v := .int v0_25) (C := RX12) (T := TX12) (N := 31) hx hb hta uw_X12 hown hK hP 0 rfl rfl 25 (by decide) (hta _ mA1071) (fun _ h9 => h9) rfl dX12_reads_89 ?_
      exact j92 v0_24 v0_25 x1 x3 v0_25 hF _ _ _ hP hD hS (lv_sub hl [0, 1, 3] rfl)
    · have hF := it_f hF c_7
      refine lv_aload_n hx hb dX12_reads_80 rfl (lv_at hl 0 rfl) ?_
      refine va_get (D := (dC, dI)) (ci := 11) (v := .int v0_25) (C := RX12) (T := TX12) (N := 31) hx hb hta uw_X12 hown hK hP 0 rfl rfl 25 (by decide) (hta _ mA1071) (fun _ h9 => h9) rfl dX12_reads_81 ?_
      refine lv_ineg hx hb dX12_reads_84 ?_
      refine lv_goto (tgt := 92) hx hb dX12_reads_85 (by decide) ?_
      exact j92 v0_24 v0_25 x1 x3 (-v0_25) hF _ _ _ hP hD hS (lv_sub hl [0, 1, 3] rfl)
  have j19 : ∀ (v0_24 : Int32) (v0_25 : Int32) (x1 : Int32) (x2 : Int32) (x3 : Int32), F_X12_reads_j19 n v0_5 v0_24 v0_25 v0_4 x1 x2 x3 = some u → ∀ (H : Heap) (locs : List Loc) (ls : Array Slot), va_P (dC, dI) vwCl (wd_X12_reads cI a0 v0_2 v0_3 v0_5 v0_12 v0_13 v0_16 v0_17 v0_21 v0_23 v0_24 v0_25 v0_26 v0_29 v0_30 v0_4) H → va_D A (wd_X12_reads cI a0 v0_2 v0_3 v0_5 v0_12 v0_13 v0_16 v0_17 v0_21 v0_23 v0_24 v0_25 v0_26 v0_29 v0_30 v0_4) → va_S A s.heap H locs → lv_has ls 5 [(0, .ref (a0 0)), (1, .int x1), (2, .int x2), (3, .int x3)] → W p l e (headSpec wz_X12_reads rm_X12_reads).room s m [.ref (a0 0)].toArray below meth c H locs 0 0 (MQ below (Q_X12_reads dC dI cI a0 v0_2 v0_3 v0_5 v0_12 v0_13 v0_16 v0_17 v0_21 v0_23 v0_26 v0_29 v0_30 v0_4 u A) [.ref (a0 0)].toArray s 0 0 A) (F0 m 19 ls []) := by
    intro v0_24 v0_25 x1 x2 x3 hF H locs ls hP hD hS hl
    unfold F_X12_reads_j19 at hF
    obtain ⟨x_19, hL_19, hE_19⟩ := obd_some hF
    have kl_19 : ∀ (k : Nat) (s19 : Int32 × Int32 × Int32), lpq (F_X12_reads_b19 v0_5 v0_4) k s19 = some x_19 → ∀ (H : Heap) (locs : List Loc) (ls : Array Slot), va_P (dC, dI) vwCl (wd_X12_reads cI a0 v0_2 v0_3 v0_5 v0_12 v0_13 v0_16 v0_17 v0_21 v0_23 s19.2.1 s19.2.2 v0_26 v0_29 v0_30 v0_4) H → va_D A (wd_X12_reads cI a0 v0_2 v0_3 v0_5 v0_12 v0_13 v0_16 v0_17 v0_21 v0_23 s19.2.1 s19.2.2 v0_26 v0_29 v0_30 v0_4) → va_S A s.heap H locs → lv_has ls 5 [(0, .ref (a0 0)), (1, .int x1), (2, .int x2), (3, .int s19.1)] → W p l e (headSpec wz_X12_reads rm_X12_reads).room s m [.ref (a0 0)].toArray below meth c H locs 0 0 (MQ below (Q_X12_reads dC dI cI a0 v0_2 v0_3 v0_5 v0_12 v0_13 v0_16 v0_17 v0_21 v0_23 v0_26 v0_29 v0_30 v0_4 u A) [.ref (a0 0)].toArray s 0 0 A) (F0 m 19 ls []) := by
      intro k
      induction k with
      | zero => intro s19 h; exact absurd h lpq_zero
      | succ k ih_19 =>
        intro s19 h H locs ls hP hD hS hl
        obtain ⟨o_19, hF, hO_19⟩ := lpq_succ h
        unfold F_X12_reads_b19 at hF
        refine lv_iload_n hx hb dX12_reads_19 rfl (lv_at hl 3 rfl) ?_
        refine lv_iconst (v := 3) hx hb dX12_reads_20 (by decide) ?_
        refine lv_icmp_ge (tgt := 75) hx hb dX12_reads_21 (by decide) (fun c_8 => ?_) (fun c_8 => ?_)
        · have hF := it_t hF c_8
          obtain rfl := Option.some.inj hF
          obtain rfl := lpq_x hO_19
          have hF := hE_19
          exact j75 s19.2.1 s19.2.2 x1 x2 s19.1 hF _ _ _ hP hD hS (lv_sub hl [0, 1, 2, 3] rfl)
        · have hF := it_f hF c_8
          refine lv_aload_n hx hb dX12_reads_24 rfl (lv_at hl 0 rfl) ?_
          refine lv_bipush (v := 48) hx hb dX12_reads_25 (by decide) ?_
          refine lv_bipush (v := 57) hx hb dX12_reads_27 (by decide) ?_
          obtain ⟨u_9, hu_9, hF⟩ := obd_some hF
          have hPc := hP.sub (ws' := (wd_X12_isAt cI a0 v0_2 v0_3 v0_5 v0_12 v0_13 v0_16 v0_17 v0_21 v0_23 s19.2.1 s19.2.2 v0_26 v0_29 v0_30 v0_4)) [0, 1] rfl
          have hDc := hD.sub (ws' := (wd_X12_isAt cI a0 v0_2 v0_3 v0_5 v0_12 v0_13 v0_16 v0_17 v0_21 v0_23 s19.2.1 s19.2.2 v0_26 v0_29 v0_30 v0_4)) [0, 1] rfl rfl
          refine q_callz (wc := (wd_X12_isAt cI a0 v0_2 v0_3 v0_5 v0_12 v0_13 v0_16 v0_17 v0_21 v0_23 s19.2.1 s19.2.2 v0_26 v0_29 v0_30 v0_4)) (w1 := (wd_X12_isAt cI a0 v0_2 v0_3 v0_5 v0_12 v0_13 v0_16 v0_17 v0_21 v0_23 s19.2.1 s19.2.2 v0_26 v0_29 v0_30 v0_4)) (ws' := (wd_X12_reads cI a0 v0_2 v0_3 v0_5 v0_12 v0_13 v0_16 v0_17 v0_21 v0_23 s19.2.1 s19.2.2 v0_26 v0_29 v0_30 v0_4)) hP hD hS hA [0, 1] [] [0, 1] rfl rfl rfl (by decide) rfl rfl (va_runV (As := [.int 48, .int 57]) (rest := []) ⟨hx, hb, hml, hown, hta⟩ (c_X12_isAt l dC dI cI H.size a0 v0_2 v0_3 v0_5 v0_12 v0_13 v0_16 v0_17 v0_21 v0_23 s19.2.1 s19.2.2 v0_26 v0_29 v0_30 v0_4 48 57 u_9 hu_9) (cwV 2 hta (ga_V mA1067 mA1068 mA1069 mA814 mA1064) rfl rfl rfl (by decide +kernel) ⟨Nat.le_of_ble_eq_true rfl, Nat.le_of_ble_eq_true rfl⟩) ⟨q_fb, va_recv hK hP (ci := 11) (q0 := 0) rfl rfl, q_ps hPc hK hDc⟩ rfl rfl hl.1 rfl (lv_room (Nat.le_of_ble_eq_true rfl)) dX12_reads_29 ⟨Nat.zero_le _, Nat.zero_le _⟩) (fun hzu_9 H locs hP hD hS => ?_)
          refine lv_if_eq (tgt := 75) hx hb dX12_reads_32 (by decide) (fun c_10 => ?_) (fun c_10 => ?_)
          · have hF := it_t hF c_10
            obtain rfl := Option.some.inj hF
            obtain rfl := lpq_x hO_19
            have hF := hE_19
            exact j75 s19.2.1 s19.2.2 x1 x2 s19.1 hF _ _ _ hP hD hS (lv_sub hl [0, 1, 2, 3] rfl)
          · have hF := it_f hF c_10
            refine lv_aload_n hx hb dX12_reads_35 rfl (lv_at hl 0 rfl) ?_
            refine lv_bipush (v := 10) hx hb dX12_reads_36 (by decide) ?_
            refine lv_aload_n hx hb dX12_reads_38 rfl (lv_at hl 0 rfl) ?_
            refine va_get (D := (dC, dI)) (ci := 11) (v := .int s19.2.2) (C := RX12) (T := TX12) (N := 31) hx hb hta uw_X12 hown hK hP 0 rfl rfl 25 (by decide) (hta _ mA1071) (fun _ h9 => h9) rfl dX12_reads_39 ?_
            refine lv_imul hx hb dX12_reads_42 ?_
            refine lv_aload_n hx hb dX12_reads_43 rfl (lv_at hl 0 rfl) ?_
            refine va_get (D := (dC, dI)) (ci := 11) (v := .ref (a0 5)) (C := RX12) (T := TX12) (N := 31) hx hb hta uw_X12 hown hK hP 0 rfl rfl 4 (by decide) (hta _ mA792) (fun _ h9 => h9) rfl dX12_reads_44 ?_
            refine lv_aload_n hx hb dX12_reads_47 rfl (lv_at hl 0 rfl) ?_
            refine va_get (D := (dC, dI)) (ci := 11) (v := .int s19.2.1) (C := RX12) (T := TX12) (N := 31) hx hb hta uw_X12 hown hK hP 0 rfl rfl 24 (by decide) (hta _ mA1065) (fun _ h9 => h9) rfl dX12_reads_48 ?_
            obtain ⟨g_11, hF⟩ := gd_some hF
            refine va_iald hx hb hK hP 1 0 rfl rfl (vpi_in g_11) dX12_reads_51 ?_
            refine lv_iadd hx hb dX12_reads_52 ?_
            refine lv_bipush (v := 48) hx hb dX12_reads_53 (by decide) ?_
            refine lv_isub hx hb dX12_reads_55 ?_
            obtain ⟨y_12, ey_12, hF⟩ := lt_some hF
            refine lv_eqi ey_12 ?_
            refine va_put (D := (dC, dI)) (ci := 11) (v := .int y_12) (ty := .int) (C := RX12) (T := TX12) (N := 31) hx hb hta uw_X12 tyX12 tyX12_ok nmX12 hown hK hP hD hS 0 rfl rfl 25 (by decide) (hta _ mA1071) (fun _ h9 => h9) rfl (by decide +kernel) rfl rfl (Nat.le_of_ble_eq_true rfl) dX12_reads_56 (fun H locs hP hD hS => ?_)
            have hP : va_P (dC, dI) vwCl (wd_X12_reads cI a0 v0_2 v0_3 v0_5 v0_12 v0_13 v0_16 v0_17 v0_21 v0_23 s19.2.1 y_12 v0_26 v0_29 v0_30 v0_4) H := hP
            have hD : va_D A (wd_X12_reads cI a0 v0_2 v0_3 v0_5 v0_12 v0_13 v0_16 v0_17 v0_21 v0_23 s19.2.1 y_12 v0_26 v0_29 v0_30 v0_4) := hD
            refine lv_aload_n hx hb dX12_reads_59 rfl (lv_at hl 0 rfl) ?_
            refine lv_dup hx hb dX12_reads_60 rfl ?_
            refine va_get (D := (dC, dI)) (ci := 11) (v := .int s19.2.1) (C := RX12) (T := TX12) (N := 31) hx hb hta uw_X12 hown hK hP 0 rfl rfl 24 (by decide) (hta _ mA1065) (fun _ h9 => h9) rfl dX12_reads_61 ?_
            refine lv_iconst (v := 1) hx hb dX12_reads_64 (by decide) ?_
            refine lv_iadd hx hb dX12_reads_65 ?_
            obtain ⟨y_13, ey_13, hF⟩ := lt_some hF
            refine lv_eqi ey_13 ?_
            refine va_put (D := (dC, dI)) (ci := 11) (v := .int y_13) (ty := .int) (C := RX12) (T := TX12) (N := 31) hx hb hta uw_X12 tyX12 tyX12_ok nmX12 hown hK hP hD hS 0 rfl rfl 24 (by decide) (hta _ mA1065) (fun _ h9 => h9) rfl (by decide +kernel) rfl rfl (Nat.le_of_ble_eq_true rfl) dX12_reads_66 (fun H locs hP hD hS => ?_)
            have hP : va_P (dC, dI) vwCl (wd_X12_reads cI a0 v0_2 v0_3 v0_5 v0_12 v0_13 v0_16 v0_17 v0_21 v0_23 y_13 y_12 v0_26 v0_29 v0_30 v0_4) H := hP
            have hD : va_D A (wd_X12_reads cI a0 v0_2 v0_3 v0_5 v0_12 v0_13 v0_16 v0_17 v0_21 v0_23 y_13 y_12 v0_26 v0_29 v0_30 v0_4) := hD
            obtain ⟨y_14, ey_14, hF⟩ := lt_some hF
            refine lv_iinc (v := y_14) (lv' := [(3, .int y_14), (0, .ref (a0 0)), (1, .int x1), (2, .int x2)]) hx hb dX12_reads_69 hl (k := 3) rfl (by rw [ey_14]; rfl) (by decide) rfl (fun ls hl => ?_)
            refine lv_goto (tgt := 19) hx hb dX12_reads_72 (by decide) ?_
            obtain rfl := Option.some.inj hF
            exact ih_19 _ hO_19 _ _ _ hP hD hS (lv_sub hl [1, 2, 3, 0] rfl)
    exact kl_19 n _ hL_19 _ _ _ hP hD hS hl
  refine lv_aload_n hx hb dX12_reads_0 rfl (lv_at hl 0 rfl) ?_
  refine va_get (D := (dC, dI)) (ci := 11) (v := .int v0_24) (C := RX12) (T := TX12) (N := 31) hx hb hta uw_X12 hown hK hP 0 rfl rfl 24 (by decide) (hta _ mA1065) (fun _ h9 => h9) rfl dX12_reads_1 ?_
  refine lv_istore_n (lv' := [(1, .int v0_24), (0, .ref (a0 0))]) hx hb dX12_reads_4 rfl hl (by decide) rfl (fun ls hl => ?_)
  refine lv_aload_n hx hb dX12_reads_5 rfl (lv_at hl 1 rfl) ?_
  refine lv_bipush (v := 45) hx hb dX12_reads_6 (by decide) ?_
  obtain ⟨u_15, hu_15, hF⟩ := obd_some hF
  have hPc := hP.sub (ws' := (wd_X12_passes cI a0 v0_2 v0_3 v0_5 v0_12 v0_13 v0_16 v0_17 v0_21 v0_23 v0_24 v0_25 v0_26 v0_29 v0_30 v0_4)) [0, 1] rfl
  have hDc := hD.sub (ws' := (wd_X12_passes cI a0 v0_2 v0_3 v0_5 v0_12 v0_13 v0_16 v0_17 v0_21 v0_23 v0_24 v0_25 v0_26 v0_29 v0_30 v0_4)) [0, 1] rfl rfl
  refine q_callz (wc := (wd_X12_passes cI a0 v0_2 v0_3 v0_5 v0_12 v0_13 v0_16 v0_17 v0_21 v0_23 v0_24 v0_25 v0_26 v0_29 v0_30 v0_4)) (w1 := (wd_X12_passes cI a0 v0_2 v0_3 v0_5 v0_12 v0_13 v0_16 v0_17 v0_21 v0_23 u_15.2 v0_25 v0_26 v0_29 v0_30 v0_4)) (ws' := (wd_X12_reads cI a0 v0_2 v0_3 v0_5 v0_12 v0_13 v0_16 v0_17 v0_21 v0_23 u_15.2 v0_25 v0_26 v0_29 v0_30 v0_4)) hP hD hS hA [0, 1] [] [0, 1] rfl rfl rfl (by decide) rfl rfl (va_runV (As := [.int 45]) (rest := []) ⟨hx, hb, hml, hown, hta⟩ (c_X12_passes l dC dI cI H.size a0 v0_2 v0_3 v0_5 v0_12 v0_13 v0_16 v0_17 v0_21 v0_23 v0_24 v0_25 v0_26 v0_29 v0_30 v0_4 45 u_15 hu_15) (cwV 1 hta (ga_V mA1072 mA1073 mA1074 mA814 mA1066) rfl rfl rfl (by decide +kernel) ⟨Nat.le_of_ble_eq_true rfl, Nat.le_of_ble_eq_true rfl⟩) ⟨q_fb, va_recv hK hP (ci := 11) (q0 := 0) rfl rfl, q_ps hPc hK hDc⟩ rfl rfl hl.1 rfl (lv_room (Nat.le_of_ble_eq_true rfl)) dX12_reads_8 ⟨Nat.zero_le _, Nat.zero_le _⟩) (fun hzu_15 H locs hP hD hS => ?_)
  refine lv_istore_n (lv' := [(2, .int u_15.1), (1, .int v0_24), (0, .ref (a0 0))]) hx hb dX12_reads_11 rfl hl (by decide) rfl (fun ls hl => ?_)
  refine lv_iconst (v := 0) hx hb dX12_reads_12 (by decide) ?_
  refine lv_istore_n (lv' := [(3, .int 0), (2, .int u_15.1), (1, .int v0_24), (0, .ref (a0 0))]) hx hb dX12_reads_13 rfl hl (by decide) rfl (fun ls hl => ?_)
  refine lv_aload_n hx hb dX12_reads_14 rfl (lv_at hl 3 rfl) ?_
  refine lv_iconst (v := 0) hx hb dX12_reads_15 (by decide) ?_
  refine va_put (D := (dC, dI)) (ci := 11) (v := .int 0) (ty := .int) (C := RX12) (T := TX12) (N := 31) hx hb hta uw_X12 tyX12 tyX12_ok nmX12 hown hK hP hD hS 0 rfl rfl 25 (by decide) (hta _ mA1071) (fun _ h9 => h9) rfl (by decide +kernel) rfl rfl (Nat.le_of_ble_eq_true rfl) dX12_reads_16 (fun H locs hP hD hS => ?_)
  have hP : va_P (dC, dI) vwCl (wd_X12_reads cI a0 v0_2 v0_3 v0_5 v0_12 v0_13 v0_16 v0_17 v0_21 v0_23 u_15.2 0 v0_26 v0_29 v0_30 v0_4) H := hP
  have hD : va_D A (wd_X12_reads cI a0 v0_2 v0_3 v0_5 v0_12 v0_13 v0_16 v0_17 v0_21 v0_23 u_15.2 0 v0_26 v0_29 v0_30 v0_4) := hD
  exact j19 u_15.2 0 v0_24 u_15.1 0 hF _ _ _ hP hD hS (lv_sub hl [3, 2, 1, 0] rfl)

-- StrokeOutlinerModel.readsPoint()Z
def F_X12_readsPoint_j37 (v0_24 : Int32) (v0_25 : Int32) (v0_26 : Int32) : Option (Int32 × Int32 × Int32 × Int32) :=
  some (0, v0_24, v0_25, v0_26)
def F_X12_readsPoint (n : Nat) (v0_5 : Int32) (v0_24 : Int32) (v0_26 : Int32) (v0_4 : Nat → Int32) : Option (Int32 × Int32 × Int32 × Int32) :=
  obd (F_X12_reads n v0_5 v0_24 v0_4) (fun u_1 => if u_1.1 = 0 then some (0, u_1.2.1, u_1.2.2, v0_26) else obd (F_X12_passes v0_5 u_1.2.1 v0_4 44) (fun u_3 => if u_3.1 = 0 then F_X12_readsPoint_j37 u_3.2 u_1.2.2 u_1.2.2 else obd (F_X12_reads n v0_5 u_3.2 v0_4) (fun u_5 => if u_5.1 = 0 then F_X12_readsPoint_j37 u_5.2.1 u_5.2.2 u_1.2.2 else some (1, u_5.2.1, u_5.2.2, u_1.2.2))))
abbrev wd_X12_readsPoint (cI : ClassId) (a0 : Nat → Nat) (v0_2 : Int32) (v0_3 : Int32) (v0_5 : Int32) (v0_12 : Int32) (v0_13 : Int32) (v0_16 : Int32) (v0_17 : Int32) (v0_21 : Int32) (v0_23 : Int32) (v0_24 : Int32) (v0_25 : Int32) (v0_26 : Int32) (v0_29 : Int32) (v0_30 : Int64) (v0_4 : Nat → Int32) : va_W := [(a0 0, .inr (11, [.ref (a0 1), .ref (a0 2), .int v0_2, .int v0_3, .ref (a0 5), .int v0_5, .ref (a0 7), .ref (a0 8), .ref (a0 9), .ref (a0 10), .ref (a0 11), .ref (a0 12), .int v0_12, .int v0_13, .ref (a0 15), .ref (a0 16), .int v0_16, .int v0_17, .ref (a0 19), .ref (a0 20), .ref (a0 21), .int v0_21, .ref (a0 23), .int v0_23, .int v0_24, .int v0_25, .int v0_26, .ref (a0 28), .ref (a0 29), .int v0_29, .long v0_30])), (a0 5, .inl (cI, 150, .inl v0_4))]
abbrev wz_X12_readsPoint : List Cond := .code yX12_readsPoint cX12_readsPoint 1 (some .boolean) :: wALL
abbrev rm_X12_readsPoint : Room := { frames := 4, cells := 0, slots := 0, locals := 90 }
abbrev Q_X12_readsPoint (dC : Nat → ClassId) (dI : Nat → Nat → Nat) (cI : ClassId) (a0 : Nat → Nat) (v0_2 : Int32) (v0_3 : Int32) (v0_5 : Int32) (v0_12 : Int32) (v0_13 : Int32) (v0_16 : Int32) (v0_17 : Int32) (v0_21 : Int32) (v0_23 : Int32) (v0_29 : Int32) (v0_30 : Int64) (v0_4 : Nat → Int32) (u : (Int32 × Int32 × Int32 × Int32)) (A : Nat → Prop) : Array Value → State → Outcome → State → Prop := va_Qi (fun (r : Int32) (_ : Unit) => r = u.1 ∧ (u.1 = 0 ∨ u.1 = 1)) (fun _ => q_at dC dI cI A (wd_X12_readsPoint cI a0 v0_2 v0_3 v0_5 v0_12 v0_13 v0_16 v0_17 v0_21 v0_23 u.2.1 u.2.2.1 u.2.2.2 v0_29 v0_30 v0_4)) A
set_option maxHeartbeats 4000000 in
set_option maxRecDepth 100000 in
theorem c_X12_readsPoint (l : Launch) (dC : Nat → ClassId) (dI : Nat → Nat → Nat) (cI : ClassId) (sz : Nat) (a0 : Nat → Nat) (v0_2 : Int32) (v0_3 : Int32) (v0_5 : Int32) (v0_12 : Int32) (v0_13 : Int32) (v0_16 : Int32) (v0_17 : Int32) (v0_21 : Int32) (v0_23 : Int32) (v0_24 : Int32) (v0_25 : Int32) (v0_26 : Int32) (v0_29 : Int32) (v0_30 : Int64) (v0_4 : Nat → Int32) (n : Nat) (u : (Int32 × Int32 × Int32 × Int32)) (hF : F_X12_readsPoint n v0_5 v0_24 v0_26 v0_4 = some u) : Met l yX12_readsPoint wz_X12_readsPoint rm_X12_readsPoint (va_Pc [.ref (a0 0)] (q_pre dC dI cI (wd_X12_readsPoint cI a0 v0_2 v0_3 v0_5 v0_12 v0_13 v0_16 v0_17 v0_21 v0_23 v0_24 v0_25 v0_26 v0_29 v0_30 v0_4) sz)) (Q_X12_readsPoint dC dI cI a0 v0_2 v0_3 v0_5 v0_12 v0_13 v0_16 v0_17 v0_21 v0_23 v0_29 v0_30 v0_4 u (va_A (wd_X12_readsPoint cI a0 v0_2 v0_3 v0_5 v0_12 v0_13 v0_16 v0_17 v0_21 v0_23 v0_24 v0_25 v0_26 v0_29 v0_30 v0_4) sz)) 0 0 (va_A (wd_X12_readsPoint cI a0 v0_2 v0_3 v0_5 v0_12 v0_13 v0_16 v0_17 v0_21 v0_23 v0_24 v0_25 v0_26 v0_29 v0_30 v0_4) sz) := by
  refine Met.ofW (cc := cX12_readsPoint) (maxL := 1) (ret := (some .boolean)) (by decide) rfl ?_
  intro p e s m args below meth c s₁ B hml hv
  obtain ⟨rfl, hsz, hP, hK, hD0⟩ := hv
  have hx := B.exec
  have hb := B.bytes
  have hr := B.returns
  have hts := atoms_spec (ws := wz_X12_readsPoint) B.pre
  have hta := wz_tl hts
  have hown : s.vm.findClass RX12 = some m.cls := findClass_of_methodNamed B.named
  have hlocks := B.notSynchronized
  subst hsz
  have hD := hD0.self (sz := s.heap.size)
  generalize hAe : va_A (wd_X12_readsPoint cI a0 v0_2 v0_3 v0_5 v0_12 v0_13 v0_16 v0_17 v0_21 v0_23 v0_24 v0_25 v0_26 v0_29 v0_30 v0_4) s.heap.size = A at hD ⊢
  have hA : ∀ q : Nat, s.heap.size ≤ q → A q := fun q h => by rw [← hAe]; exact Or.inr h
  have hS : va_S A s.heap s.heap [] := va_S.rf
  have hP : va_P (dC, dI) vwCl (wd_X12_readsPoint cI a0 v0_2 v0_3 v0_5 v0_12 v0_13 v0_16 v0_17 v0_21 v0_23 v0_24 v0_25 v0_26 v0_29 v0_30 v0_4) s.heap := hP
  have hl := lv_entry ([.ref (a0 0)]) (n := 1) (Nat.le_of_ble_eq_true rfl)
  rw [lg_entry_eq]
  generalize (lg_sl ([.ref (a0 0)]) ++ List.replicate (1 - (lg_sl ([.ref (a0 0)])).length) Slot.unset).toArray = ls at hl ⊢
  have hl : lv_has ls 1 [(0, .ref (a0 0))] := hl
  obtain ⟨H, hHe⟩ : ∃ H, H = s.heap := ⟨_, rfl⟩
  have hS : va_S A s.heap H [] := by rw [hHe]; exact hS
  have hP : va_P (dC, dI) vwCl (wd_X12_readsPoint cI a0 v0_2 v0_3 v0_5 v0_12 v0_13 v0_16 v0_17 v0_21 v0_23 v0_24 v0_25 v0_26 v0_29 v0_30 v0_4) H := by rw [hHe]; exact hP
  rw [← hHe]
  unfold F_X12_readsPoint at hF
  have j37 : ∀ (v0_24 : Int32) (v0_25 : Int32) (v0_26 : Int32), F_X12_readsPoint_j37 v0_24 v0_25 v0_26 = some u → ∀ (H : Heap) (locs : List Loc) (ls : Array Slot), va_P (dC, dI) vwCl (wd_X12_readsPoint cI a0 v0_2 v0_3 v0_5 v0_12 v0_13 v0_16 v0_17 v0_21 v0_23 v0_24 v0_25 v0_26 v0_29 v0_30 v0_4) H → va_D A (wd_X12_readsPoint cI a0 v0_2 v0_3 v0_5 v0_12 v0_13 v0_16 v0_17 v0_21 v0_23 v0_24 v0_25 v0_26 v0_29 v0_30 v0_4) → va_S A s.heap H locs → lv_has ls 1 [] → W p l e (headSpec wz_X12_readsPoint rm_X12_readsPoint).room s m [.ref (a0 0)].toArray below meth c H locs 0 0 (MQ below (Q_X12_readsPoint dC dI cI a0 v0_2 v0_3 v0_5 v0_12 v0_13 v0_16 v0_17 v0_21 v0_23 v0_29 v0_30 v0_4 u A) [.ref (a0 0)].toArray s 0 0 A) (F0 m 37 ls []) := by
    intro v0_24 v0_25 v0_26 hF H locs ls hP hD hS hl
    unfold F_X12_readsPoint_j37 at hF
    refine lv_iconst (v := 0) hx hb dX12_readsPoint_37 (by decide) ?_
    obtain rfl := Option.some.inj hF
    exact W.zret (v := 0) (ty := .boolean) hx hb hr (z_nar (Or.inl rfl)) (fun t ht hW => ⟨⟨0, (), rfl, ⟨rfl, (Or.inl rfl)⟩, by rw [ht]; exact hP, va_K.moved hW.alike hK, hD⟩, hS.F ht⟩) hS.2.2 dX12_readsPoint_38
  refine lv_aload_n hx hb dX12_readsPoint_0 rfl (lv_at hl 0 rfl) ?_
  obtain ⟨u_1, hu_1, hF⟩ := obd_some hF
  have hPc := hP.sub (ws' := (wd_X12_reads cI a0 v0_2 v0_3 v0_5 v0_12 v0_13 v0_16 v0_17 v0_21 v0_23 v0_24 v0_25 v0_26 v0_29 v0_30 v0_4)) [0, 1] rfl
  have hDc := hD.sub (ws' := (wd_X12_reads cI a0 v0_2 v0_3 v0_5 v0_12 v0_13 v0_16 v0_17 v0_21 v0_23 v0_24 v0_25 v0_26 v0_29 v0_30 v0_4)) [0, 1] rfl rfl
  refine q_callz (wc := (wd_X12_reads cI a0 v0_2 v0_3 v0_5 v0_12 v0_13 v0_16 v0_17 v0_21 v0_23 v0_24 v0_25 v0_26 v0_29 v0_30 v0_4)) (w1 := (wd_X12_reads cI a0 v0_2 v0_3 v0_5 v0_12 v0_13 v0_16 v0_17 v0_21 v0_23 u_1.2.1 u_1.2.2 v0_26 v0_29 v0_30 v0_4)) (ws' := (wd_X12_readsPoint cI a0 v0_2 v0_3 v0_5 v0_12 v0_13 v0_16 v0_17 v0_21 v0_23 u_1.2.1 u_1.2.2 v0_26 v0_29 v0_30 v0_4)) hP hD hS hA [0, 1] [] [0, 1] rfl rfl rfl (by decide) rfl rfl (va_runV (As := []) (rest := []) ⟨hx, hb, hml, hown, hta⟩ (c_X12_reads l dC dI cI H.size a0 v0_2 v0_3 v0_5 v0_12 v0_13 v0_16 v0_17 v0_21 v0_23 v0_24 v0_25 v0_26 v0_29 v0_30 v0_4 n u_1 hu_1) (cwV 0 hta (ga_V mA1077 mA1078 mA1079 mA814 mA1070) rfl rfl rfl (by decide +kernel) ⟨Nat.le_of_ble_eq_true rfl, Nat.le_of_ble_eq_true rfl⟩) ⟨q_fb, va_recv hK hP (ci := 11) (q0 := 0) rfl rfl, q_ps hPc hK hDc⟩ rfl rfl hl.1 rfl (lv_room (Nat.le_of_ble_eq_true rfl)) dX12_readsPoint_1 ⟨Nat.zero_le _, Nat.zero_le _⟩) (fun hzu_1 H locs hP hD hS => ?_)
  refine lv_if_ne (tgt := 9) hx hb dX12_readsPoint_4 (by decide) (fun c_2 => ?_) (fun c_2 => ?_)
  · have hF := it_f hF c_2
    refine lv_aload_n hx hb dX12_readsPoint_9 rfl (lv_at hl 0 rfl) ?_
    refine lv_aload_n hx hb dX12_readsPoint_10 rfl (lv_at hl 0 rfl) ?_
    refine va_get (D := (dC, dI)) (ci := 11) (v := .int u_1.2.2) (C := RX12) (T := TX12) (N := 31) hx hb hta uw_X12 hown hK hP 0 rfl rfl 25 (by decide) (hta _ mA1071) (fun _ h9 => h9) rfl dX12_readsPoint_11 ?_
    refine va_put (D := (dC, dI)) (ci := 11) (v := .int u_1.2.2) (ty := .int) (C := RX12) (T := TX12) (N := 31) hx hb hta uw_X12 tyX12 tyX12_ok nmX12 hown hK hP hD hS 0 rfl rfl 26 (by decide) (hta _ mA1076) (fun _ h9 => h9) rfl (by decide +kernel) rfl rfl (Nat.le_of_ble_eq_true rfl) dX12_readsPoint_14 (fun H locs hP hD hS => ?_)
    have hP : va_P (dC, dI) vwCl (wd_X12_readsPoint cI a0 v0_2 v0_3 v0_5 v0_12 v0_13 v0_16 v0_17 v0_21 v0_23 u_1.2.1 u_1.2.2 u_1.2.2 v0_29 v0_30 v0_4) H := hP
    have hD : va_D A (wd_X12_readsPoint cI a0 v0_2 v0_3 v0_5 v0_12 v0_13 v0_16 v0_17 v0_21 v0_23 u_1.2.1 u_1.2.2 u_1.2.2 v0_29 v0_30 v0_4) := hD
    refine lv_aload_n hx hb dX12_readsPoint_17 rfl (lv_at hl 0 rfl) ?_
    refine lv_bipush (v := 44) hx hb dX12_readsPoint_18 (by decide) ?_
    obtain ⟨u_3, hu_3, hF⟩ := obd_some hF
    have hPc := hP.sub (ws' := (wd_X12_passes cI a0 v0_2 v0_3 v0_5 v0_12 v0_13 v0_16 v0_17 v0_21 v0_23 u_1.2.1 u_1.2.2 u_1.2.2 v0_29 v0_30 v0_4)) [0, 1] rfl
    have hDc := hD.sub (ws' := (wd_X12_passes cI a0 v0_2 v0_3 v0_5 v0_12 v0_13 v0_16 v0_17 v0_21 v0_23 u_1.2.1 u_1.2.2 u_1.2.2 v0_29 v0_30 v0_4)) [0, 1] rfl rfl
    refine q_callz (wc := (wd_X12_passes cI a0 v0_2 v0_3 v0_5 v0_12 v0_13 v0_16 v0_17 v0_21 v0_23 u_1.2.1 u_1.2.2 u_1.2.2 v0_29 v0_30 v0_4)) (w1 := (wd_X12_passes cI a0 v0_2 v0_3 v0_5 v0_12 v0_13 v0_16 v0_17 v0_21 v0_23 u_3.2 u_1.2.2 u_1.2.2 v0_29 v0_30 v0_4)) (ws' := (wd_X12_readsPoint cI a0 v0_2 v0_3 v0_5 v0_12 v0_13 v0_16 v0_17 v0_21 v0_23 u_3.2 u_1.2.2 u_1.2.2 v0_29 v0_30 v0_4)) hP hD hS hA [0, 1] [] [0, 1] rfl rfl rfl (by decide) rfl rfl (va_runV (As := [.int 44]) (rest := []) ⟨hx, hb, hml, hown, hta⟩ (c_X12_passes l dC dI cI H.size a0 v0_2 v0_3 v0_5 v0_12 v0_13 v0_16 v0_17 v0_21 v0_23 u_1.2.1 u_1.2.2 u_1.2.2 v0_29 v0_30 v0_4 44 u_3 hu_3) (cwV 1 hta (ga_V mA1072 mA1073 mA1074 mA814 mA1066) rfl rfl rfl (by decide +kernel) ⟨Nat.le_of_ble_eq_true rfl, Nat.le_of_ble_eq_true rfl⟩) ⟨q_fb, va_recv hK hP (ci := 11) (q0 := 0) rfl rfl, q_ps hPc hK hDc⟩ rfl rfl hl.1 rfl (lv_room (Nat.le_of_ble_eq_true rfl)) dX12_readsPoint_20 ⟨Nat.zero_le _, Nat.zero_le _⟩) (fun hzu_3 H locs hP hD hS => ?_)
    refine lv_if_eq (tgt := 37) hx hb dX12_readsPoint_23 (by decide) (fun c_4 => ?_) (fun c_4 => ?_)
    · have hF := it_t hF c_4
      exact j37 u_3.2 u_1.2.2 u_1.2.2 hF _ _ _ hP hD hS (lv_sub hl [] rfl)
    · have hF := it_f hF c_4
      refine lv_aload_n hx hb dX12_readsPoint_26 rfl (lv_at hl 0 rfl) ?_
      obtain ⟨u_5, hu_5, hF⟩ := obd_some hF
      have hPc := hP.sub (ws' := (wd_X12_reads cI a0 v0_2 v0_3 v0_5 v0_12 v0_13 v0_16 v0_17 v0_21 v0_23 u_3.2 u_1.2.2 u_1.2.2 v0_29 v0_30 v0_4)) [0, 1] rfl
      have hDc := hD.sub (ws' := (wd_X12_reads cI a0 v0_2 v0_3 v0_5 v0_12 v0_13 v0_16 v0_17 v0_21 v0_23 u_3.2 u_1.2.2 u_1.2.2 v0_29 v0_30 v0_4)) [0, 1] rfl rfl
      refine q_callz (wc := (wd_X12_reads cI a0 v0_2 v0_3 v0_5 v0_12 v0_13 v0_16 v0_17 v0_21 v0_23 u_3.2 u_1.2.2 u_1.2.2 v0_29 v0_30 v0_4)) (w1 := (wd_X12_reads cI a0 v0_2 v0_3 v0_5 v0_12 v0_13 v0_16 v0_17 v0_21 v0_23 u_5.2.1 u_5.2.2 u_1.2.2 v0_29 v0_30 v0_4)) (ws' := (wd_X12_readsPoint cI a0 v0_2 v0_3 v0_5 v0_12 v0_13 v0_16 v0_17 v0_21 v0_23 u_5.2.1 u_5.2.2 u_1.2.2 v0_29 v0_30 v0_4)) hP hD hS hA [0, 1] [] [0, 1] rfl rfl rfl (by decide) rfl rfl (va_runV (As := []) (rest := []) ⟨hx, hb, hml, hown, hta⟩ (c_X12_reads l dC dI cI H.size a0 v0_2 v0_3 v0_5 v0_12 v0_13 v0_16 v0_17 v0_21 v0_23 u_3.2 u_1.2.2 u_1.2.2 v0_29 v0_30 v0_4 n u_5 hu_5) (cwV 0 hta (ga_V mA1077 mA1078 mA1079 mA814 mA1070) rfl rfl rfl (by decide +kernel) ⟨Nat.le_of_ble_eq_true rfl, Nat.le_of_ble_eq_true rfl⟩) ⟨q_fb, va_recv hK hP (ci := 11) (q0 := 0) rfl rfl, q_ps hPc hK hDc⟩ rfl rfl hl.1 rfl (lv_room (Nat.le_of_ble_eq_true rfl)) dX12_readsPoint_27 ⟨Nat.zero_le _, Nat.zero_le _⟩) (fun hzu_5 H locs hP hD hS => ?_)
      refine lv_if_eq (tgt := 37) hx hb dX12_readsPoint_30 (by decide) (fun c_6 => ?_) (fun c_6 => ?_)
      · have hF := it_t hF c_6
        exact j37 u_5.2.1 u_5.2.2 u_1.2.2 hF _ _ _ hP hD hS (lv_sub hl [] rfl)
      · have hF := it_f hF c_6
        refine lv_iconst (v := 1) hx hb dX12_readsPoint_33 (by decide) ?_
        refine lv_goto (tgt := 38) hx hb dX12_readsPoint_34 (by decide) ?_
        obtain rfl := Option.some.inj hF
        exact W.zret (v := 1) (ty := .boolean) hx hb hr (z_nar (Or.inr rfl)) (fun t ht hW => ⟨⟨1, (), rfl, ⟨rfl, (Or.inr rfl)⟩, by rw [ht]; exact hP, va_K.moved hW.alike hK, hD⟩, hS.F ht⟩) hS.2.2 dX12_readsPoint_38
  · have hF := it_t hF c_2
    refine lv_iconst (v := 0) hx hb dX12_readsPoint_7 (by decide) ?_
    obtain rfl := Option.some.inj hF
    exact W.zret (v := 0) (ty := .boolean) hx hb hr (z_nar (Or.inl rfl)) (fun t ht hW => ⟨⟨0, (), rfl, ⟨rfl, (Or.inl rfl)⟩, by rw [ht]; exact hP, va_K.moved hW.alike hK, hD⟩, hS.F ht⟩) hS.2.2 dX12_readsPoint_8

-- StrokeOutlinerModel.readsPath()Z
def F_X12_readsPath_j152 (v0_24 : Int32) (v0_25 : Int32) (v0_26 : Int32) (v0_0 : Nat → Int32) : Option (Int32 × Int32 × Int32 × Int32 × (Nat → Int32)) :=
  some (1, v0_24, v0_25, v0_26, v0_0)
def F_X12_readsPath_j51 (v0_24 : Int32) (v0_25 : Int32) (v0_26 : Int32) (v0_0 : Nat → Int32) : Option (Int32 × Int32 × Int32 × Int32 × (Nat → Int32)) :=
  some (0, v0_24, v0_25, v0_26, v0_0)
def F_X12_readsPath_j148 (v0_24 : Int32) (v0_25 : Int32) (v0_26 : Int32) (v0_0 : Nat → Int32) (t1 : Int32) (t2 : Int32) : Option (Sum (Int32 × Int32 × Int32 × (Nat → Int32)) (Sum (Int32 × Int32 × Int32 × (Nat → Int32)) (Sum (Int32 × Int32 × Int32 × (Nat → Int32)) (Int32 × Int32 × Int32 × (Nat → Int32))))) :=
  gd (decide (vpi t1 86)) (lt (upd v0_0 t1.toNatClampNeg t2) (fun y_2 => some (.inl (v0_24, v0_25, v0_26, y_2))))
def F_X12_readsPath_j116 (v0_5 : Int32) (v0_24 : Int32) (v0_25 : Int32) (v0_26 : Int32) (v0_0 : Nat → Int32) (v0_4 : Nat → Int32) : Option (Sum (Int32 × Int32 × Int32 × (Nat → Int32)) (Sum (Int32 × Int32 × Int32 × (Nat → Int32)) (Sum (Int32 × Int32 × Int32 × (Nat → Int32)) (Int32 × Int32 × Int32 × (Nat → Int32))))) :=
  gd (decide (vpi 13 86)) (lt (F_X12_at ((v0_0 (13 : Int32).toNatClampNeg) - 1)) (fun u_4 => obd (F_X12_passes v0_5 v0_24 v0_4 90) (fun u_5 => if u_5.1 = 0 then F_X12_readsPath_j148 u_5.2 v0_25 v0_26 v0_0 (u_4 + 1) 0 else F_X12_readsPath_j148 u_5.2 v0_25 v0_26 v0_0 (u_4 + 1) 1)))
def F_X12_readsPath_j99 (v0_24 : Int32) (v0_25 : Int32) (v0_26 : Int32) (v0_0 : Nat → Int32) : Option (Int32 × Int32 × Int32 × Int32 × (Nat → Int32)) :=
  some (0, v0_24, v0_25, v0_26, v0_0)
def F_X12_readsPath_b65 (n : Nat) (v0_5 : Int32) (v0_4 : Nat → Int32) (s65 : Int32 × Int32 × Int32 × (Nat → Int32)) : Option (Sum (Int32 × Int32 × Int32 × (Nat → Int32)) (Sum (Int32 × Int32 × Int32 × (Nat → Int32)) (Int32 × Int32 × Int32 × (Nat → Int32)))) :=
  gd (decide (vpi 13 86)) (obd (F_X12_points s65.2.2.2 ((s65.2.2.2 (13 : Int32).toNatClampNeg) - 1)) (fun u_8 => if 8 ≤ u_8 then some (.inr (.inr (s65.1, s65.2.1, s65.2.2.1, s65.2.2.2))) else obd (F_X12_passes v0_5 s65.1 v0_4 76) (fun u_10 => if u_10.1 = 0 then some (.inr (.inr (u_10.2, s65.2.1, s65.2.2.1, s65.2.2.2))) else obd (F_X12_readsPoint n v0_5 u_10.2 s65.2.2.1 v0_4) (fun u_12 => if u_12.1 = 0 then some (.inr (.inl (u_12.2.1, u_12.2.2.1, u_12.2.2.2, s65.2.2.2))) else obd (F_X12_follows s65.2.2.2 u_12.2.2.2 u_12.2.2.1) (fun u_14 => some (.inl (u_12.2.1, u_12.2.2.1, u_12.2.2.2, u_14)))))))
def F_X12_readsPath_j65 (n : Nat) (v0_5 : Int32) (v0_24 : Int32) (v0_25 : Int32) (v0_26 : Int32) (v0_0 : Nat → Int32) (v0_4 : Nat → Int32) : Option (Sum (Int32 × Int32 × Int32 × (Nat → Int32)) (Sum (Int32 × Int32 × Int32 × (Nat → Int32)) (Sum (Int32 × Int32 × Int32 × (Nat → Int32)) (Int32 × Int32 × Int32 × (Nat → Int32))))) :=
  obd (lpq (F_X12_readsPath_b65 n v0_5 v0_4) n (v0_24, v0_25, v0_26, v0_0)) (fun x_65 => Sum.elim (fun x_65 => some (.inr (.inr (.inl (x_65.1, x_65.2.1, x_65.2.2.1, x_65.2.2.2))))) (fun x_65 => F_X12_readsPath_j116 v0_5 x_65.1 x_65.2.1 x_65.2.2.1 x_65.2.2.2 v0_4) x_65)
def F_X12_readsPath_b13 (n : Nat) (v0_5 : Int32) (v0_4 : Nat → Int32) (s13 : Int32 × Int32 × Int32 × (Nat → Int32)) : Option (Sum (Int32 × Int32 × Int32 × (Nat → Int32)) (Sum (Int32 × Int32 × Int32 × (Nat → Int32)) (Sum (Int32 × Int32 × Int32 × (Nat → Int32)) (Int32 × Int32 × Int32 × (Nat → Int32))))) :=
  if v0_5 ≤ s13.1 then some (.inr (.inr (.inr (s13.1, s13.2.1, s13.2.2.1, s13.2.2.2)))) else gd (decide (vpi 13 86)) (if (s13.2.2.2 (13 : Int32).toNatClampNeg) = 4 then some (.inr (.inl (s13.1, s13.2.1, s13.2.2.1, s13.2.2.2))) else obd (F_X12_passes v0_5 s13.1 v0_4 77) (fun u_18 => if u_18.1 = 0 then some (.inr (.inl (u_18.2, s13.2.1, s13.2.2.1, s13.2.2.2))) else obd (F_X12_readsPoint n v0_5 u_18.2 s13.2.2.1 v0_4) (fun u_20 => if u_20.1 = 0 then some (.inr (.inl (u_20.2.1, u_20.2.2.1, u_20.2.2.2, s13.2.2.2))) else obd (F_X12_begins s13.2.2.2 u_20.2.2.2 u_20.2.2.1) (fun u_22 => F_X12_readsPath_j65 n v0_5 u_20.2.1 u_20.2.2.1 u_20.2.2.2 u_22 v0_4))))
def F_X12_readsPath_j13 (n : Nat) (v0_5 : Int32) (v0_24 : Int32) (v0_25 : Int32) (v0_26 : Int32) (v0_0 : Nat → Int32) (v0_4 : Nat → Int32) : Option (Int32 × Int32 × Int32 × Int32 × (Nat → Int32)) :=
  obd (lpq (F_X12_readsPath_b13 n v0_5 v0_4) n (v0_24, v0_25, v0_26, v0_0)) (fun x_13 => Sum.elim (fun x_13 => F_X12_readsPath_j51 x_13.1 x_13.2.1 x_13.2.2.1 x_13.2.2.2) (fun x_13 => Sum.elim (fun x_13 => F_X12_readsPath_j99 x_13.1 x_13.2.1 x_13.2.2.1 x_13.2.2.2) (fun x_13 => F_X12_readsPath_j152 x_13.1 x_13.2.1 x_13.2.2.1 x_13.2.2.2) x_13) x_13)
def F_X12_readsPath (n : Nat) (v0_5 : Int32) (v0_25 : Int32) (v0_26 : Int32) (v0_0 : Nat → Int32) (v0_4 : Nat → Int32) : Option (Int32 × Int32 × Int32 × Int32 × (Nat → Int32)) :=
  gd (decide (vpi 13 86)) (lt (upd v0_0 (13 : Int32).toNatClampNeg 0) (fun y_24 => F_X12_readsPath_j13 n v0_5 0 v0_25 v0_26 y_24 v0_4))
abbrev wd_X12_readsPath (cI : ClassId) (a0 : Nat → Nat) (v0_2 : Int32) (v0_3 : Int32) (v0_5 : Int32) (v0_12 : Int32) (v0_13 : Int32) (v0_16 : Int32) (v0_17 : Int32) (v0_21 : Int32) (v0_23 : Int32) (v0_24 : Int32) (v0_25 : Int32) (v0_26 : Int32) (v0_29 : Int32) (v0_30 : Int64) (v0_0 : Nat → Int32) (v0_4 : Nat → Int32) : va_W := [(a0 0, .inr (11, [.ref (a0 1), .ref (a0 2), .int v0_2, .int v0_3, .ref (a0 5), .int v0_5, .ref (a0 7), .ref (a0 8), .ref (a0 9), .ref (a0 10), .ref (a0 11), .ref (a0 12), .int v0_12, .int v0_13, .ref (a0 15), .ref (a0 16), .int v0_16, .int v0_17, .ref (a0 19), .ref (a0 20), .ref (a0 21), .int v0_21, .ref (a0 23), .int v0_23, .int v0_24, .int v0_25, .int v0_26, .ref (a0 28), .ref (a0 29), .int v0_29, .long v0_30])), (a0 1, .inl (cI, 86, .inl v0_0)), (a0 5, .inl (cI, 150, .inl v0_4))]
abbrev wz_X12_readsPath : List Cond := .code yX12_readsPath cX12_readsPath 1 (some .boolean) :: wALL
abbrev rm_X12_readsPath : Room := { frames := 5, cells := 0, slots := 0, locals := 110 }
abbrev Q_X12_readsPath (dC : Nat → ClassId) (dI : Nat → Nat → Nat) (cI : ClassId) (a0 : Nat → Nat) (v0_2 : Int32) (v0_3 : Int32) (v0_5 : Int32) (v0_12 : Int32) (v0_13 : Int32) (v0_16 : Int32) (v0_17 : Int32) (v0_21 : Int32) (v0_23 : Int32) (v0_29 : Int32) (v0_30 : Int64) (v0_4 : Nat → Int32) (u : (Int32 × Int32 × Int32 × Int32 × (Nat → Int32))) (A : Nat → Prop) : Array Value → State → Outcome → State → Prop := va_Qi (fun (r : Int32) (_ : Unit) => r = u.1 ∧ (u.1 = 0 ∨ u.1 = 1)) (fun _ => q_at dC dI cI A (wd_X12_readsPath cI a0 v0_2 v0_3 v0_5 v0_12 v0_13 v0_16 v0_17 v0_21 v0_23 u.2.1 u.2.2.1 u.2.2.2.1 v0_29 v0_30 u.2.2.2.2 v0_4)) A
set_option maxHeartbeats 4000000 in
set_option maxRecDepth 100000 in
theorem c_X12_readsPath (l : Launch) (dC : Nat → ClassId) (dI : Nat → Nat → Nat) (cI : ClassId) (sz : Nat) (a0 : Nat → Nat) (v0_2 : Int32) (v0_3 : Int32) (v0_5 : Int32) (v0_12 : Int32) (v0_13 : Int32) (v0_16 : Int32) (v0_17 : Int32) (v0_21 : Int32) (v0_23 : Int32) (v0_24 : Int32) (v0_25 : Int32) (v0_26 : Int32) (v0_29 : Int32) (v0_30 : Int64) (v0_0 : Nat → Int32) (v0_4 : Nat → Int32) (n : Nat) (u : (Int32 × Int32 × Int32 × Int32 × (Nat → Int32))) (hF : F_X12_readsPath n v0_5 v0_25 v0_26 v0_0 v0_4 = some u) : Met l yX12_readsPath wz_X12_readsPath rm_X12_readsPath (va_Pc [.ref (a0 0)] (q_pre dC dI cI (wd_X12_readsPath cI a0 v0_2 v0_3 v0_5 v0_12 v0_13 v0_16 v0_17 v0_21 v0_23 v0_24 v0_25 v0_26 v0_29 v0_30 v0_0 v0_4) sz)) (Q_X12_readsPath dC dI cI a0 v0_2 v0_3 v0_5 v0_12 v0_13 v0_16 v0_17 v0_21 v0_23 v0_29 v0_30 v0_4 u (va_A (wd_X12_readsPath cI a0 v0_2 v0_3 v0_5 v0_12 v0_13 v0_16 v0_17 v0_21 v0_23 v0_24 v0_25 v0_26 v0_29 v0_30 v0_0 v0_4) sz)) 0 0 (va_A (wd_X12_readsPath cI a0 v0_2 v0_3 v0_5 v0_12 v0_13 v0_16 v0_17 v0_21 v0_23 v0_24 v0_25 v0_26 v0_29 v0_30 v0_0 v0_4) sz) := by
  refine Met.ofW (cc := cX12_readsPath) (maxL := 1) (ret := (some .boolean)) (by decide) rfl ?_
  intro p e s m args below meth c s₁ B hml hv
  obtain ⟨rfl, hsz, hP, hK, hD0⟩ := hv
  have hx := B.exec
  have hb := B.bytes
  have hr := B.returns
  have hts := atoms_spec (ws := wz_X12_readsPath) B.pre
  have hta := wz_tl hts
  have hown : s.vm.findClass RX12 = some m.cls := findClass_of_methodNamed B.named
  have hlocks := B.notSynchronized
  subst hsz
  have hD := hD0.self (sz := s.heap.size)
  generalize hAe : va_A (wd_X12_readsPath cI a0 v0_2 v0_3 v0_5 v0_12 v0_13 v0_16 v0_17 v0_21 v0_23 v0_24 v0_25 v0_26 v0_29 v0_30 v0_0 v0_4) s.heap.size = A at hD ⊢
  have hA : ∀ q : Nat, s.heap.size ≤ q → A q := fun q h => by rw [← hAe]; exact Or.inr h
  have hS : va_S A s.heap s.heap [] := va_S.rf
  have hP : va_P (dC, dI) vwCl (wd_X12_readsPath cI a0 v0_2 v0_3 v0_5 v0_12 v0_13 v0_16 v0_17 v0_21 v0_23 v0_24 v0_25 v0_26 v0_29 v0_30 v0_0 v0_4) s.heap := hP
  have hl := lv_entry ([.ref (a0 0)]) (n := 1) (Nat.le_of_ble_eq_true rfl)
  rw [lg_entry_eq]
  generalize (lg_sl ([.ref (a0 0)]) ++ List.replicate (1 - (lg_sl ([.ref (a0 0)])).length) Slot.unset).toArray = ls at hl ⊢
  have hl : lv_has ls 1 [(0, .ref (a0 0))] := hl
  obtain ⟨H, hHe⟩ : ∃ H, H = s.heap := ⟨_, rfl⟩
  have hS : va_S A s.heap H [] := by rw [hHe]; exact hS
  have hP : va_P (dC, dI) vwCl (wd_X12_readsPath cI a0 v0_2 v0_3 v0_5 v0_12 v0_13 v0_16 v0_17 v0_21 v0_23 v0_24 v0_25 v0_26 v0_29 v0_30 v0_0 v0_4) H := by rw [hHe]; exact hP
  rw [← hHe]
  unfold F_X12_readsPath at hF
  have j152 : ∀ (v0_24 : Int32) (v0_25 : Int32) (v0_26 : Int32) (v0_0 : Nat → Int32), F_X12_readsPath_j152 v0_24 v0_25 v0_26 v0_0 = some u → ∀ (H : Heap) (locs : List Loc) (ls : Array Slot), va_P (dC, dI) vwCl (wd_X12_readsPath cI a0 v0_2 v0_3 v0_5 v0_12 v0_13 v0_16 v0_17 v0_21 v0_23 v0_24 v0_25 v0_26 v0_29 v0_30 v0_0 v0_4) H → va_D A (wd_X12_readsPath cI a0 v0_2 v0_3 v0_5 v0_12 v0_13 v0_16 v0_17 v0_21 v0_23 v0_24 v0_25 v0_26 v0_29 v0_30 v0_0 v0_4) → va_S A s.heap H locs → lv_has ls 1 [] → W p l e (headSpec wz_X12_readsPath rm_X12_readsPath).room s m [.ref (a0 0)].toArray below meth c H locs 0 0 (MQ below (Q_X12_readsPath dC dI cI a0 v0_2 v0_3 v0_5 v0_12 v0_13 v0_16 v0_17 v0_21 v0_23 v0_29 v0_30 v0_4 u A) [.ref (a0 0)].toArray s 0 0 A) (F0 m 152 ls []) := by
    intro v0_24 v0_25 v0_26 v0_0 hF H locs ls hP hD hS hl
    unfold F_X12_readsPath_j152 at hF
    refine lv_iconst (v := 1) hx hb dX12_readsPath_152 (by decide) ?_
    obtain rfl := Option.some.inj hF
    exact W.zret (v := 1) (ty := .boolean) hx hb hr (z_nar (Or.inr rfl)) (fun t ht hW => ⟨⟨1, (), rfl, ⟨rfl, (Or.inr rfl)⟩, by rw [ht]; exact hP, va_K.moved hW.alike hK, hD⟩, hS.F ht⟩) hS.2.2 dX12_readsPath_153
  have j51 : ∀ (v0_24 : Int32) (v0_25 : Int32) (v0_26 : Int32) (v0_0 : Nat → Int32), F_X12_readsPath_j51 v0_24 v0_25 v0_26 v0_0 = some u → ∀ (H : Heap) (locs : List Loc) (ls : Array Slot), va_P (dC, dI) vwCl (wd_X12_readsPath cI a0 v0_2 v0_3 v0_5 v0_12 v0_13 v0_16 v0_17 v0_21 v0_23 v0_24 v0_25 v0_26 v0_29 v0_30 v0_0 v0_4) H → va_D A (wd_X12_readsPath cI a0 v0_2 v0_3 v0_5 v0_12 v0_13 v0_16 v0_17 v0_21 v0_23 v0_24 v0_25 v0_26 v0_29 v0_30 v0_0 v0_4) → va_S A s.heap H locs → lv_has ls 1 [] → W p l e (headSpec wz_X12_readsPath rm_X12_readsPath).room s m [.ref (a0 0)].toArray below meth c H locs 0 0 (MQ below (Q_X12_readsPath dC dI cI a0 v0_2 v0_3 v0_5 v0_12 v0_13 v0_16 v0_17 v0_21 v0_23 v0_29 v0_30 v0_4 u A) [.ref (a0 0)].toArray s 0 0 A) (F0 m 51 ls []) := by
    intro v0_24 v0_25 v0_26 v0_0 hF H locs ls hP hD hS hl
    unfold F_X12_readsPath_j51 at hF
    refine lv_iconst (v := 0) hx hb dX12_readsPath_51 (by decide) ?_
    obtain rfl := Option.some.inj hF
    exact W.zret (v := 0) (ty := .boolean) hx hb hr (z_nar (Or.inl rfl)) (fun t ht hW => ⟨⟨0, (), rfl, ⟨rfl, (Or.inl rfl)⟩, by rw [ht]; exact hP, va_K.moved hW.alike hK, hD⟩, hS.F ht⟩) hS.2.2 dX12_readsPath_52
  have j99 : ∀ (v0_24 : Int32) (v0_25 : Int32) (v0_26 : Int32) (v0_0 : Nat → Int32), F_X12_readsPath_j99 v0_24 v0_25 v0_26 v0_0 = some u → ∀ (H : Heap) (locs : List Loc) (ls : Array Slot), va_P (dC, dI) vwCl (wd_X12_readsPath cI a0 v0_2 v0_3 v0_5 v0_12 v0_13 v0_16 v0_17 v0_21 v0_23 v0_24 v0_25 v0_26 v0_29 v0_30 v0_0 v0_4) H → va_D A (wd_X12_readsPath cI a0 v0_2 v0_3 v0_5 v0_12 v0_13 v0_16 v0_17 v0_21 v0_23 v0_24 v0_25 v0_26 v0_29 v0_30 v0_0 v0_4) → va_S A s.heap H locs → lv_has ls 1 [] → W p l e (headSpec wz_X12_readsPath rm_X12_readsPath).room s m [.ref (a0 0)].toArray below meth c H locs 0 0 (MQ below (Q_X12_readsPath dC dI cI a0 v0_2 v0_3 v0_5 v0_12 v0_13 v0_16 v0_17 v0_21 v0_23 v0_29 v0_30 v0_4 u A) [.ref (a0 0)].toArray s 0 0 A) (F0 m 99 ls []) := by
    intro v0_24 v0_25 v0_26 v0_0 hF H locs ls hP hD hS hl
    unfold F_X12_readsPath_j99 at hF
    refine lv_iconst (v := 0) hx hb dX12_readsPath_99 (by decide) ?_
    obtain rfl := Option.some.inj hF
    exact W.zret (v := 0) (ty := .boolean) hx hb hr (z_nar (Or.inl rfl)) (fun t ht hW => ⟨⟨0, (), rfl, ⟨rfl, (Or.inl rfl)⟩, by rw [ht]; exact hP, va_K.moved hW.alike hK, hD⟩, hS.F ht⟩) hS.2.2 dX12_readsPath_100
  have j13 : ∀ (v0_24 : Int32) (v0_25 : Int32) (v0_26 : Int32) (v0_0 : Nat → Int32), F_X12_readsPath_j13 n v0_5 v0_24 v0_25 v0_26 v0_0 v0_4 = some u → ∀ (H : Heap) (locs : List Loc) (ls : Array Slot), va_P (dC, dI) vwCl (wd_X12_readsPath cI a0 v0_2 v0_3 v0_5 v0_12 v0_13 v0_16 v0_17 v0_21 v0_23 v0_24 v0_25 v0_26 v0_29 v0_30 v0_0 v0_4) H → va_D A (wd_X12_readsPath cI a0 v0_2 v0_3 v0_5 v0_12 v0_13 v0_16 v0_17 v0_21 v0_23 v0_24 v0_25 v0_26 v0_29 v0_30 v0_0 v0_4) → va_S A s.heap H locs → lv_has ls 1 [(0, .ref (a0 0))] → W p l e (headSpec wz_X12_readsPath rm_X12_readsPath).room s m [.ref (a0 0)].toArray below meth c H locs 0 0 (MQ below (Q_X12_readsPath dC dI cI a0 v0_2 v0_3 v0_5 v0_12 v0_13 v0_16 v0_17 v0_21 v0_23 v0_29 v0_30 v0_4 u A) [.ref (a0 0)].toArray s 0 0 A) (F0 m 13 ls []) := by
    intro v0_24 v0_25 v0_26 v0_0 hF H locs ls hP hD hS hl
    unfold F_X12_readsPath_j13 at hF
    obtain ⟨x_13, hL_13, hE_13⟩ := obd_some hF
    have kl_13 : ∀ (k : Nat) (s13 : Int32 × Int32 × Int32 × (Nat → Int32)), lpq (F_X12_readsPath_b13 n v0_5 v0_4) k s13 = some x_13 → ∀ (H : Heap) (locs : List Loc) (ls : Array Slot), va_P (dC, dI) vwCl (wd_X12_readsPath cI a0 v0_2 v0_3 v0_5 v0_12 v0_13 v0_16 v0_17 v0_21 v0_23 s13.1 s13.2.1 s13.2.2.1 v0_29 v0_30 s13.2.2.2 v0_4) H → va_D A (wd_X12_readsPath cI a0 v0_2 v0_3 v0_5 v0_12 v0_13 v0_16 v0_17 v0_21 v0_23 s13.1 s13.2.1 s13.2.2.1 v0_29 v0_30 s13.2.2.2 v0_4) → va_S A s.heap H locs → lv_has ls 1 [(0, .ref (a0 0))] → W p l e (headSpec wz_X12_readsPath rm_X12_readsPath).room s m [.ref (a0 0)].toArray below meth c H locs 0 0 (MQ below (Q_X12_readsPath dC dI cI a0 v0_2 v0_3 v0_5 v0_12 v0_13 v0_16 v0_17 v0_21 v0_23 v0_29 v0_30 v0_4 u A) [.ref (a0 0)].toArray s 0 0 A) (F0 m 13 ls []) := by
      intro k
      induction k with
      | zero => intro s13 h; exact absurd h lpq_zero
      | succ k ih_13 =>
        intro s13 h H locs ls hP hD hS hl
        obtain ⟨o_13, hF, hO_13⟩ := lpq_succ h
        unfold F_X12_readsPath_b13 at hF
        have j148 : ∀ (v0_24 : Int32) (v0_25 : Int32) (v0_26 : Int32) (v0_0 : Nat → Int32) (t1 : Int32) (t2 : Int32), F_X12_readsPath_j148 v0_24 v0_25 v0_26 v0_0 t1 t2 = some o_13 → ∀ (H : Heap) (locs : List Loc) (ls : Array Slot), va_P (dC, dI) vwCl (wd_X12_readsPath cI a0 v0_2 v0_3 v0_5 v0_12 v0_13 v0_16 v0_17 v0_21 v0_23 v0_24 v0_25 v0_26 v0_29 v0_30 v0_0 v0_4) H → va_D A (wd_X12_readsPath cI a0 v0_2 v0_3 v0_5 v0_12 v0_13 v0_16 v0_17 v0_21 v0_23 v0_24 v0_25 v0_26 v0_29 v0_30 v0_0 v0_4) → va_S A s.heap H locs → lv_has ls 1 [(0, .ref (a0 0))] → W p l e (headSpec wz_X12_readsPath rm_X12_readsPath).room s m [.ref (a0 0)].toArray below meth c H locs 0 0 (MQ below (Q_X12_readsPath dC dI cI a0 v0_2 v0_3 v0_5 v0_12 v0_13 v0_16 v0_17 v0_21 v0_23 v0_29 v0_30 v0_4 u A) [.ref (a0 0)].toArray s 0 0 A) (F0 m 148 ls [.int t2, .int t1, .ref (a0 1)]) := by
          intro v0_24 v0_25 v0_26 v0_0 t1 t2 hF H locs ls hP hD hS hl
          unfold F_X12_readsPath_j148 at hF
          obtain ⟨g_1, hF⟩ := gd_some hF
          refine va_iast hx hb hK hP hD hS 1 0 rfl rfl (vpi_in g_1) dX12_readsPath_148 (fun H locs hP hD hS => ?_)
          obtain ⟨y_2, ey_2, hF⟩ := lt_some hF
          have hP : va_P (dC, dI) vwCl (wd_X12_readsPath cI a0 v0_2 v0_3 v0_5 v0_12 v0_13 v0_16 v0_17 v0_21 v0_23 v0_24 v0_25 v0_26 v0_29 v0_30 y_2 v0_4) H := by rw [ey_2]; exact hP
          have hD : va_D A (wd_X12_readsPath cI a0 v0_2 v0_3 v0_5 v0_12 v0_13 v0_16 v0_17 v0_21 v0_23 v0_24 v0_25 v0_26 v0_29 v0_30 y_2 v0_4) := by rw [ey_2]; exact hD
          refine lv_goto (tgt := 13) hx hb dX12_readsPath_149 (by decide) ?_
          obtain rfl := Option.some.inj hF
          exact ih_13 _ hO_13 _ _ _ hP hD hS (lv_sub hl [0] rfl)
        have j116 : ∀ (v0_24 : Int32) (v0_25 : Int32) (v0_26 : Int32) (v0_0 : Nat → Int32), F_X12_readsPath_j116 v0_5 v0_24 v0_25 v0_26 v0_0 v0_4 = some o_13 → ∀ (H : Heap) (locs : List Loc) (ls : Array Slot), va_P (dC, dI) vwCl (wd_X12_readsPath cI a0 v0_2 v0_3 v0_5 v0_12 v0_13 v0_16 v0_17 v0_21 v0_23 v0_24 v0_25 v0_26 v0_29 v0_30 v0_0 v0_4) H → va_D A (wd_X12_readsPath cI a0 v0_2 v0_3 v0_5 v0_12 v0_13 v0_16 v0_17 v0_21 v0_23 v0_24 v0_25 v0_26 v0_29 v0_30 v0_0 v0_4) → va_S A s.heap H locs → lv_has ls 1 [(0, .ref (a0 0))] → W p l e (headSpec wz_X12_readsPath rm_X12_readsPath).room s m [.ref (a0 0)].toArray below meth c H locs 0 0 (MQ below (Q_X12_readsPath dC dI cI a0 v0_2 v0_3 v0_5 v0_12 v0_13 v0_16 v0_17 v0_21 v0_23 v0_29 v0_30 v0_4 u A) [.ref (a0 0)].toArray s 0 0 A) (F0 m 116 ls []) := by
          intro v0_24 v0_25 v0_26 v0_0 hF H locs ls hP hD hS hl
          unfold F_X12_readsPath_j116 at hF
          refine lv_aload_n hx hb dX12_readsPath_116 rfl (lv_at hl 0 rfl) ?_
          refine va_get (D := (dC, dI)) (ci := 11) (v := .ref (a0 1)) (C := RX12) (T := TX12) (N := 31) hx hb hta uw_X12 hown hK hP 0 rfl rfl 0 (by decide) (hta _ mA790) (fun _ h9 => h9) rfl dX12_readsPath_117 ?_
          refine lv_aload_n hx hb dX12_readsPath_120 rfl (lv_at hl 0 rfl) ?_
          refine va_get (D := (dC, dI)) (ci := 11) (v := .ref (a0 1)) (C := RX12) (T := TX12) (N := 31) hx hb hta uw_X12 hown hK hP 0 rfl rfl 0 (by decide) (hta _ mA790) (fun _ h9 => h9) rfl dX12_readsPath_121 ?_
          refine lv_bipush (v := 13) hx hb dX12_readsPath_124 (by decide) ?_
          obtain ⟨g_3, hF⟩ := gd_some hF
          refine va_iald hx hb hK hP 1 0 rfl rfl (vpi_in g_3) dX12_readsPath_126 ?_
          refine lv_iconst (v := 1) hx hb dX12_readsPath_127 (by decide) ?_
          refine lv_isub hx hb dX12_readsPath_128 ?_
          obtain ⟨u_4, hu_4, hF⟩ := lt_some hF
          have hPc := hP.sub (ws' := ([] : va_W)) [] rfl
          have hDc := hD.sub (ws' := ([] : va_W)) [] rfl rfl
          refine q_calli (wc := ([] : va_W)) (w1 := ([] : va_W)) (ws' := (wd_X12_readsPath cI a0 v0_2 v0_3 v0_5 v0_12 v0_13 v0_16 v0_17 v0_21 v0_23 v0_24 v0_25 v0_26 v0_29 v0_30 v0_0 v0_4)) hP hD hS hA [] [0, 1, 2] [0, 1, 2] rfl rfl rfl (by decide) rfl rfl (va_runS (As := [.int ((v0_0 (13 : Int32).toNatClampNeg) - 1)]) (rest := [.ref (a0 1)]) ⟨hx, hb, hml, hown, hta⟩ (c_X12_at l dC dI cI H.size ((v0_0 (13 : Int32).toNatClampNeg) - 1) u_4 hu_4.symm) (va_cwS 1 hta (ga_S mA828 mA829 mA814 mA825) rfl rfl rfl (by decide +kernel) ⟨Nat.le_of_ble_eq_true rfl, Nat.le_of_ble_eq_true rfl⟩) ⟨q_fb, q_ps hPc hK hDc⟩ rfl rfl hl.1 rfl (lv_room (Nat.le_of_ble_eq_true rfl)) dX12_readsPath_129 ⟨Nat.zero_le _, Nat.zero_le _⟩) (fun H locs hP hD hS => ?_)
          refine lv_iconst (v := 1) hx hb dX12_readsPath_132 (by decide) ?_
          refine lv_iadd hx hb dX12_readsPath_133 ?_
          refine lv_aload_n hx hb dX12_readsPath_134 rfl (lv_at hl 0 rfl) ?_
          refine lv_bipush (v := 90) hx hb dX12_readsPath_135 (by decide) ?_
          obtain ⟨u_5, hu_5, hF⟩ := obd_some hF
          have hPc := hP.sub (ws' := (wd_X12_passes cI a0 v0_2 v0_3 v0_5 v0_12 v0_13 v0_16 v0_17 v0_21 v0_23 v0_24 v0_25 v0_26 v0_29 v0_30 v0_4)) [0, 2] rfl
          have hDc := hD.sub (ws' := (wd_X12_passes cI a0 v0_2 v0_3 v0_5 v0_12 v0_13 v0_16 v0_17 v0_21 v0_23 v0_24 v0_25 v0_26 v0_29 v0_30 v0_4)) [0, 2] rfl rfl
          refine q_callz (wc := (wd_X12_passes cI a0 v0_2 v0_3 v0_5 v0_12 v0_13 v0_16 v0_17 v0_21 v0_23 v0_24 v0_25 v0_26 v0_29 v0_30 v0_4)) (w1 := (wd_X12_passes cI a0 v0_2 v0_3 v0_5 v0_12 v0_13 v0_16 v0_17 v0_21 v0_23 u_5.2 v0_25 v0_26 v0_29 v0_30 v0_4)) (ws' := (wd_X12_readsPath cI a0 v0_2 v0_3 v0_5 v0_12 v0_13 v0_16 v0_17 v0_21 v0_23 u_5.2 v0_25 v0_26 v0_29 v0_30 v0_0 v0_4)) hP hD hS hA [0, 2] [1] [1, 0, 2] rfl rfl rfl (by decide) rfl rfl (va_runV (As := [.int 90]) (rest := [.int (u_4 + 1), .ref (a0 1)]) ⟨hx, hb, hml, hown, hta⟩ (c_X12_passes l dC dI cI H.size a0 v0_2 v0_3 v0_5 v0_12 v0_13 v0_16 v0_17 v0_21 v0_23 v0_24 v0_25 v0_26 v0_29 v0_30 v0_4 90 u_5 hu_5) (cwV 1 hta (ga_V mA1072 mA1073 mA1074 mA814 mA1066) rfl rfl rfl (by decide +kernel) ⟨Nat.le_of_ble_eq_true rfl, Nat.le_of_ble_eq_true rfl⟩) ⟨q_fb, va_recv hK hP (ci := 11) (q0 := 0) rfl rfl, q_ps hPc hK hDc⟩ rfl rfl hl.1 rfl (lv_room (Nat.le_of_ble_eq_true rfl)) dX12_readsPath_137 ⟨Nat.zero_le _, Nat.zero_le _⟩) (fun hzu_5 H locs hP hD hS => ?_)
          refine lv_if_eq (tgt := 147) hx hb dX12_readsPath_140 (by decide) (fun c_6 => ?_) (fun c_6 => ?_)
          · have hF := it_t hF c_6
            refine lv_iconst (v := 0) hx hb dX12_readsPath_147 (by decide) ?_
            exact j148 u_5.2 v0_25 v0_26 v0_0 (u_4 + 1) 0 hF _ _ _ hP hD hS (lv_sub hl [0] rfl)
          · have hF := it_f hF c_6
            refine lv_iconst (v := 1) hx hb dX12_readsPath_143 (by decide) ?_
            refine lv_goto (tgt := 148) hx hb dX12_readsPath_144 (by decide) ?_
            exact j148 u_5.2 v0_25 v0_26 v0_0 (u_4 + 1) 1 hF _ _ _ hP hD hS (lv_sub hl [0] rfl)
        have j65 : ∀ (v0_24 : Int32) (v0_25 : Int32) (v0_26 : Int32) (v0_0 : Nat → Int32), F_X12_readsPath_j65 n v0_5 v0_24 v0_25 v0_26 v0_0 v0_4 = some o_13 → ∀ (H : Heap) (locs : List Loc) (ls : Array Slot), va_P (dC, dI) vwCl (wd_X12_readsPath cI a0 v0_2 v0_3 v0_5 v0_12 v0_13 v0_16 v0_17 v0_21 v0_23 v0_24 v0_25 v0_26 v0_29 v0_30 v0_0 v0_4) H → va_D A (wd_X12_readsPath cI a0 v0_2 v0_3 v0_5 v0_12 v0_13 v0_16 v0_17 v0_21 v0_23 v0_24 v0_25 v0_26 v0_29 v0_30 v0_0 v0_4) → va_S A s.heap H locs → lv_has ls 1 [(0, .ref (a0 0))] → W p l e (headSpec wz_X12_readsPath rm_X12_readsPath).room s m [.ref (a0 0)].toArray below meth c H locs 0 0 (MQ below (Q_X12_readsPath dC dI cI a0 v0_2 v0_3 v0_5 v0_12 v0_13 v0_16 v0_17 v0_21 v0_23 v0_29 v0_30 v0_4 u A) [.ref (a0 0)].toArray s 0 0 A) (F0 m 65 ls []) := by
          intro v0_24 v0_25 v0_26 v0_0 hF H locs ls hP hD hS hl
          unfold F_X12_readsPath_j65 at hF
          obtain ⟨x_65, hL_65, hE_65⟩ := obd_some hF
          have kl_65 : ∀ (k : Nat) (s65 : Int32 × Int32 × Int32 × (Nat → Int32)), lpq (F_X12_readsPath_b65 n v0_5 v0_4) k s65 = some x_65 → ∀ (H : Heap) (locs : List Loc) (ls : Array Slot), va_P (dC, dI) vwCl (wd_X12_readsPath cI a0 v0_2 v0_3 v0_5 v0_12 v0_13 v0_16 v0_17 v0_21 v0_23 s65.1 s65.2.1 s65.2.2.1 v0_29 v0_30 s65.2.2.2 v0_4) H → va_D A (wd_X12_readsPath cI a0 v0_2 v0_3 v0_5 v0_12 v0_13 v0_16 v0_17 v0_21 v0_23 s65.1 s65.2.1 s65.2.2.1 v0_29 v0_30 s65.2.2.2 v0_4) → va_S A s.heap H locs → lv_has ls 1 [(0, .ref (a0 0))] → W p l e (headSpec wz_X12_readsPath rm_X12_readsPath).room s m [.ref (a0 0)].toArray below meth c H locs 0 0 (MQ below (Q_X12_readsPath dC dI cI a0 v0_2 v0_3 v0_5 v0_12 v0_13 v0_16 v0_17 v0_21 v0_23 v0_29 v0_30 v0_4 u A) [.ref (a0 0)].toArray s 0 0 A) (F0 m 65 ls []) := by
            intro k
            induction k with
            | zero => intro s65 h; exact absurd h lpq_zero
            | succ k ih_65 =>
              intro s65 h H locs ls hP hD hS hl
              obtain ⟨o_65, hF, hO_65⟩ := lpq_succ h
              unfold F_X12_readsPath_b65 at hF
              refine lv_aload_n hx hb dX12_readsPath_65 rfl (lv_at hl 0 rfl) ?_
              refine lv_aload_n hx hb dX12_readsPath_66 rfl (lv_at hl 0 rfl) ?_
              refine va_get (D := (dC, dI)) (ci := 11) (v := .ref (a0 1)) (C := RX12) (T := TX12) (N := 31) hx hb hta uw_X12 hown hK hP 0 rfl rfl 0 (by decide) (hta _ mA790) (fun _ h9 => h9) rfl dX12_readsPath_67 ?_
              refine lv_bipush (v := 13) hx hb dX12_readsPath_70 (by decide) ?_
              obtain ⟨g_7, hF⟩ := gd_some hF
              refine va_iald hx hb hK hP 1 0 rfl rfl (vpi_in g_7) dX12_readsPath_72 ?_
              refine lv_iconst (v := 1) hx hb dX12_readsPath_73 (by decide) ?_
              refine lv_isub hx hb dX12_readsPath_74 ?_
              obtain ⟨u_8, hu_8, hF⟩ := obd_some hF
              have hPc := hP.sub (ws' := (wd_X12_points cI a0 v0_2 v0_3 v0_5 v0_12 v0_13 v0_16 v0_17 v0_21 v0_23 s65.1 s65.2.1 s65.2.2.1 v0_29 v0_30 s65.2.2.2)) [0, 1] rfl
              have hDc := hD.sub (ws' := (wd_X12_points cI a0 v0_2 v0_3 v0_5 v0_12 v0_13 v0_16 v0_17 v0_21 v0_23 s65.1 s65.2.1 s65.2.2.1 v0_29 v0_30 s65.2.2.2)) [0, 1] rfl rfl
              refine q_calli (wc := (wd_X12_points cI a0 v0_2 v0_3 v0_5 v0_12 v0_13 v0_16 v0_17 v0_21 v0_23 s65.1 s65.2.1 s65.2.2.1 v0_29 v0_30 s65.2.2.2)) (w1 := (wd_X12_points cI a0 v0_2 v0_3 v0_5 v0_12 v0_13 v0_16 v0_17 v0_21 v0_23 s65.1 s65.2.1 s65.2.2.1 v0_29 v0_30 s65.2.2.2)) (ws' := (wd_X12_readsPath cI a0 v0_2 v0_3 v0_5 v0_12 v0_13 v0_16 v0_17 v0_21 v0_23 s65.1 s65.2.1 s65.2.2.1 v0_29 v0_30 s65.2.2.2 v0_4)) hP hD hS hA [0, 1] [2] [1, 2, 0] rfl rfl rfl (by decide) rfl rfl (va_runV (As := [.int ((s65.2.2.2 (13 : Int32).toNatClampNeg) - 1)]) (rest := []) ⟨hx, hb, hml, hown, hta⟩ (c_X12_points l dC dI cI H.size a0 v0_2 v0_3 v0_5 v0_12 v0_13 v0_16 v0_17 v0_21 v0_23 s65.1 s65.2.1 s65.2.2.1 v0_29 v0_30 s65.2.2.2 ((s65.2.2.2 (13 : Int32).toNatClampNeg) - 1) u_8 hu_8) (cwV 1 hta (ga_V mA839 mA840 mA841 mA814 mA827) rfl rfl rfl (by decide +kernel) ⟨Nat.le_of_ble_eq_true rfl, Nat.le_of_ble_eq_true rfl⟩) ⟨q_fb, va_recv hK hP (ci := 11) (q0 := 0) rfl rfl, q_ps hPc hK hDc⟩ rfl rfl hl.1 rfl (lv_room (Nat.le_of_ble_eq_true rfl)) dX12_readsPath_75 ⟨Nat.zero_le _, Nat.zero_le _⟩) (fun H locs hP hD hS => ?_)
              refine lv_bipush (v := 8) hx hb dX12_readsPath_78 (by decide) ?_
              refine lv_icmp_ge (tgt := 116) hx hb dX12_readsPath_80 (by decide) (fun c_9 => ?_) (fun c_9 => ?_)
              · have hF := it_t hF c_9
                obtain rfl := Option.some.inj hF
                obtain rfl := lpq_x hO_65
                have hF := hE_65
                have hF := el_r hF
                exact j116 s65.1 s65.2.1 s65.2.2.1 s65.2.2.2 hF _ _ _ hP hD hS (lv_sub hl [0] rfl)
              · have hF := it_f hF c_9
                refine lv_aload_n hx hb dX12_readsPath_83 rfl (lv_at hl 0 rfl) ?_
                refine lv_bipush (v := 76) hx hb dX12_readsPath_84 (by decide) ?_
                obtain ⟨u_10, hu_10, hF⟩ := obd_some hF
                have hPc := hP.sub (ws' := (wd_X12_passes cI a0 v0_2 v0_3 v0_5 v0_12 v0_13 v0_16 v0_17 v0_21 v0_23 s65.1 s65.2.1 s65.2.2.1 v0_29 v0_30 v0_4)) [0, 2] rfl
                have hDc := hD.sub (ws' := (wd_X12_passes cI a0 v0_2 v0_3 v0_5 v0_12 v0_13 v0_16 v0_17 v0_21 v0_23 s65.1 s65.2.1 s65.2.2.1 v0_29 v0_30 v0_4)) [0, 2] rfl rfl
                refine q_callz (wc := (wd_X12_passes cI a0 v0_2 v0_3 v0_5 v0_12 v0_13 v0_16 v0_17 v0_21 v0_23 s65.1 s65.2.1 s65.2.2.1 v0_29 v0_30 v0_4)) (w1 := (wd_X12_passes cI a0 v0_2 v0_3 v0_5 v0_12 v0_13 v0_16 v0_17 v0_21 v0_23 u_10.2 s65.2.1 s65.2.2.1 v0_29 v0_30 v0_4)) (ws' := (wd_X12_readsPath cI a0 v0_2 v0_3 v0_5 v0_12 v0_13 v0_16 v0_17 v0_21 v0_23 u_10.2 s65.2.1 s65.2.2.1 v0_29 v0_30 s65.2.2.2 v0_4)) hP hD hS hA [0, 2] [1] [1, 0, 2] rfl rfl rfl (by decide) rfl rfl (va_runV (As := [.int 76]) (rest := []) ⟨hx, hb, hml, hown, hta⟩ (c_X12_passes l dC dI cI H.size a0 v0_2 v0_3 v0_5 v0_12 v0_13 v0_16 v0_17 v0_21 v0_23 s65.1 s65.2.1 s65.2.2.1 v0_29 v0_30 v0_4 76 u_10 hu_10) (cwV 1 hta (ga_V mA1072 mA1073 mA1074 mA814 mA1066) rfl rfl rfl (by decide +kernel) ⟨Nat.le_of_ble_eq_true rfl, Nat.le_of_ble_eq_true rfl⟩) ⟨q_fb, va_recv hK hP (ci := 11) (q0 := 0) rfl rfl, q_ps hPc hK hDc⟩ rfl rfl hl.1 rfl (lv_room (Nat.le_of_ble_eq_true rfl)) dX12_readsPath_86 ⟨Nat.zero_le _, Nat.zero_le _⟩) (fun hzu_10 H locs hP hD hS => ?_)
                refine lv_if_eq (tgt := 116) hx hb dX12_readsPath_89 (by decide) (fun c_11 => ?_) (fun c_11 => ?_)
                · have hF := it_t hF c_11
                  obtain rfl := Option.some.inj hF
                  obtain rfl := lpq_x hO_65
                  have hF := hE_65
                  have hF := el_r hF
                  exact j116 u_10.2 s65.2.1 s65.2.2.1 s65.2.2.2 hF _ _ _ hP hD hS (lv_sub hl [0] rfl)
                · have hF := it_f hF c_11
                  refine lv_aload_n hx hb dX12_readsPath_92 rfl (lv_at hl 0 rfl) ?_
                  obtain ⟨u_12, hu_12, hF⟩ := obd_some hF
                  have hPc := hP.sub (ws' := (wd_X12_readsPoint cI a0 v0_2 v0_3 v0_5 v0_12 v0_13 v0_16 v0_17 v0_21 v0_23 u_10.2 s65.2.1 s65.2.2.1 v0_29 v0_30 v0_4)) [0, 2] rfl
                  have hDc := hD.sub (ws' := (wd_X12_readsPoint cI a0 v0_2 v0_3 v0_5 v0_12 v0_13 v0_16 v0_17 v0_21 v0_23 u_10.2 s65.2.1 s65.2.2.1 v0_29 v0_30 v0_4)) [0, 2] rfl rfl
                  refine q_callz (wc := (wd_X12_readsPoint cI a0 v0_2 v0_3 v0_5 v0_12 v0_13 v0_16 v0_17 v0_21 v0_23 u_10.2 s65.2.1 s65.2.2.1 v0_29 v0_30 v0_4)) (w1 := (wd_X12_readsPoint cI a0 v0_2 v0_3 v0_5 v0_12 v0_13 v0_16 v0_17 v0_21 v0_23 u_12.2.1 u_12.2.2.1 u_12.2.2.2 v0_29 v0_30 v0_4)) (ws' := (wd_X12_readsPath cI a0 v0_2 v0_3 v0_5 v0_12 v0_13 v0_16 v0_17 v0_21 v0_23 u_12.2.1 u_12.2.2.1 u_12.2.2.2 v0_29 v0_30 s65.2.2.2 v0_4)) hP hD hS hA [0, 2] [1] [1, 0, 2] rfl rfl rfl (by decide) rfl rfl (va_runV (As := []) (rest := []) ⟨hx, hb, hml, hown, hta⟩ (c_X12_readsPoint l dC dI cI H.size a0 v0_2 v0_3 v0_5 v0_12 v0_13 v0_16 v0_17 v0_21 v0_23 u_10.2 s65.2.1 s65.2.2.1 v0_29 v0_30 v0_4 n u_12 hu_12) (cwV 0 hta (ga_V mA1081 mA1082 mA1083 mA814 mA1075) rfl rfl rfl (by decide +kernel) ⟨Nat.le_of_ble_eq_true rfl, Nat.le_of_ble_eq_true rfl⟩) ⟨q_fb, va_recv hK hP (ci := 11) (q0 := 0) rfl rfl, q_ps hPc hK hDc⟩ rfl rfl hl.1 rfl (lv_room (Nat.le_of_ble_eq_true rfl)) dX12_readsPath_93 ⟨Nat.zero_le _, Nat.zero_le _⟩) (fun hzu_12 H locs hP hD hS => ?_)
                  refine lv_if_ne (tgt := 101) hx hb dX12_readsPath_96 (by decide) (fun c_13 => ?_) (fun c_13 => ?_)
                  · have hF := it_f hF c_13
                    refine lv_aload_n hx hb dX12_readsPath_101 rfl (lv_at hl 0 rfl) ?_
                    refine lv_aload_n hx hb dX12_readsPath_102 rfl (lv_at hl 0 rfl) ?_
                    refine va_get (D := (dC, dI)) (ci := 11) (v := .int u_12.2.2.2) (C := RX12) (T := TX12) (N := 31) hx hb hta uw_X12 hown hK hP 0 rfl rfl 26 (by decide) (hta _ mA1076) (fun _ h9 => h9) rfl dX12_readsPath_103 ?_
                    refine lv_aload_n hx hb dX12_readsPath_106 rfl (lv_at hl 0 rfl) ?_
                    refine va_get (D := (dC, dI)) (ci := 11) (v := .int u_12.2.2.1) (C := RX12) (T := TX12) (N := 31) hx hb hta uw_X12 hown hK hP 0 rfl rfl 25 (by decide) (hta _ mA1071) (fun _ h9 => h9) rfl dX12_readsPath_107 ?_
                    obtain ⟨u_14, hu_14, hF⟩ := obd_some hF
                    have hPc := hP.sub (ws' := (wd_X12_follows cI a0 v0_2 v0_3 v0_5 v0_12 v0_13 v0_16 v0_17 v0_21 v0_23 u_12.2.1 u_12.2.2.1 u_12.2.2.2 v0_29 v0_30 s65.2.2.2)) [0, 1] rfl
                    have hDc := hD.sub (ws' := (wd_X12_follows cI a0 v0_2 v0_3 v0_5 v0_12 v0_13 v0_16 v0_17 v0_21 v0_23 u_12.2.1 u_12.2.2.1 u_12.2.2.2 v0_29 v0_30 s65.2.2.2)) [0, 1] rfl rfl
                    refine q_callv (wc := (wd_X12_follows cI a0 v0_2 v0_3 v0_5 v0_12 v0_13 v0_16 v0_17 v0_21 v0_23 u_12.2.1 u_12.2.2.1 u_12.2.2.2 v0_29 v0_30 s65.2.2.2)) (w1 := (wd_X12_follows cI a0 v0_2 v0_3 v0_5 v0_12 v0_13 v0_16 v0_17 v0_21 v0_23 u_12.2.1 u_12.2.2.1 u_12.2.2.2 v0_29 v0_30 u_14)) (ws' := (wd_X12_readsPath cI a0 v0_2 v0_3 v0_5 v0_12 v0_13 v0_16 v0_17 v0_21 v0_23 u_12.2.1 u_12.2.2.1 u_12.2.2.2 v0_29 v0_30 u_14 v0_4)) hP hD hS hA [0, 1] [2] [1, 2, 0] rfl rfl rfl (by decide) rfl rfl (va_runV (As := [.int u_12.2.2.2, .int u_12.2.2.1]) (rest := []) ⟨hx, hb, hml, hown, hta⟩ (c_X12_follows l dC dI cI H.size a0 v0_2 v0_3 v0_5 v0_12 v0_13 v0_16 v0_17 v0_21 v0_23 u_12.2.1 u_12.2.2.1 u_12.2.2.2 v0_29 v0_30 s65.2.2.2 u_12.2.2.2 u_12.2.2.1 u_14 hu_14) (cwV 2 hta (ga_V mA859 mA860 mA861 mA814 mA838) rfl rfl rfl (by decide +kernel) ⟨Nat.le_of_ble_eq_true rfl, Nat.le_of_ble_eq_true rfl⟩) ⟨q_fb, va_recv hK hP (ci := 11) (q0 := 0) rfl rfl, q_ps hPc hK hDc⟩ rfl rfl hl.1 rfl (lv_room (Nat.le_of_ble_eq_true rfl)) dX12_readsPath_110 ⟨Nat.zero_le _, Nat.zero_le _⟩) (fun H locs hP hD hS => ?_)
                    refine lv_goto (tgt := 65) hx hb dX12_readsPath_113 (by decide) ?_
                    obtain rfl := Option.some.inj hF
                    exact ih_65 _ hO_65 _ _ _ hP hD hS (lv_sub hl [0] rfl)
                  · have hF := it_t hF c_13
                    obtain rfl := Option.some.inj hF
                    obtain rfl := lpq_x hO_65
                    have hF := hE_65
                    have hF := el_l hF
                    obtain rfl := Option.some.inj hF
                    obtain rfl := lpq_x hO_13
                    have hF := hE_13
                    have hF := el_r hF
                    have hF := el_l hF
                    exact j99 u_12.2.1 u_12.2.2.1 u_12.2.2.2 s65.2.2.2 hF _ _ _ hP hD hS (lv_sub hl [] rfl)
          exact kl_65 n _ hL_65 _ _ _ hP hD hS hl
        refine lv_aload_n hx hb dX12_readsPath_13 rfl (lv_at hl 0 rfl) ?_
        refine va_get (D := (dC, dI)) (ci := 11) (v := .int s13.1) (C := RX12) (T := TX12) (N := 31) hx hb hta uw_X12 hown hK hP 0 rfl rfl 24 (by decide) (hta _ mA1065) (fun _ h9 => h9) rfl dX12_readsPath_14 ?_
        refine lv_aload_n hx hb dX12_readsPath_17 rfl (lv_at hl 0 rfl) ?_
        refine va_get (D := (dC, dI)) (ci := 11) (v := .int v0_5) (C := RX12) (T := TX12) (N := 31) hx hb hta uw_X12 hown hK hP 0 rfl rfl 5 (by decide) (hta _ mA1062) (fun _ h9 => h9) rfl dX12_readsPath_18 ?_
        refine lv_icmp_ge (tgt := 152) hx hb dX12_readsPath_21 (by decide) (fun c_15 => ?_) (fun c_15 => ?_)
        · have hF := it_t hF c_15
          obtain rfl := Option.some.inj hF
          obtain rfl := lpq_x hO_13
          have hF := hE_13
          have hF := el_r hF
          have hF := el_r hF
          exact j152 s13.1 s13.2.1 s13.2.2.1 s13.2.2.2 hF _ _ _ hP hD hS (lv_sub hl [] rfl)
        · have hF := it_f hF c_15
          refine lv_aload_n hx hb dX12_readsPath_24 rfl (lv_at hl 0 rfl) ?_
          refine va_get (D := (dC, dI)) (ci := 11) (v := .ref (a0 1)) (C := RX12) (T := TX12) (N := 31) hx hb hta uw_X12 hown hK hP 0 rfl rfl 0 (by decide) (hta _ mA790) (fun _ h9 => h9) rfl dX12_readsPath_25 ?_
          refine lv_bipush (v := 13) hx hb dX12_readsPath_28 (by decide) ?_
          obtain ⟨g_16, hF⟩ := gd_some hF
          refine va_iald hx hb hK hP 1 0 rfl rfl (vpi_in g_16) dX12_readsPath_30 ?_
          refine lv_iconst (v := 4) hx hb dX12_readsPath_31 (by decide) ?_
          refine lv_icmp_eq (tgt := 51) hx hb dX12_readsPath_32 (by decide) (fun c_17 => ?_) (fun c_17 => ?_)
          · have hF := it_t hF c_17
            obtain rfl := Option.some.inj hF
            obtain rfl := lpq_x hO_13
            have hF := hE_13
            have hF := el_l hF
            exact j51 s13.1 s13.2.1 s13.2.2.1 s13.2.2.2 hF _ _ _ hP hD hS (lv_sub hl [] rfl)
          · have hF := it_f hF c_17
            refine lv_aload_n hx hb dX12_readsPath_35 rfl (lv_at hl 0 rfl) ?_
            refine lv_bipush (v := 77) hx hb dX12_readsPath_36 (by decide) ?_
            obtain ⟨u_18, hu_18, hF⟩ := obd_some hF
            have hPc := hP.sub (ws' := (wd_X12_passes cI a0 v0_2 v0_3 v0_5 v0_12 v0_13 v0_16 v0_17 v0_21 v0_23 s13.1 s13.2.1 s13.2.2.1 v0_29 v0_30 v0_4)) [0, 2] rfl
            have hDc := hD.sub (ws' := (wd_X12_passes cI a0 v0_2 v0_3 v0_5 v0_12 v0_13 v0_16 v0_17 v0_21 v0_23 s13.1 s13.2.1 s13.2.2.1 v0_29 v0_30 v0_4)) [0, 2] rfl rfl
            refine q_callz (wc := (wd_X12_passes cI a0 v0_2 v0_3 v0_5 v0_12 v0_13 v0_16 v0_17 v0_21 v0_23 s13.1 s13.2.1 s13.2.2.1 v0_29 v0_30 v0_4)) (w1 := (wd_X12_passes cI a0 v0_2 v0_3 v0_5 v0_12 v0_13 v0_16 v0_17 v0_21 v0_23 u_18.2 s13.2.1 s13.2.2.1 v0_29 v0_30 v0_4)) (ws' := (wd_X12_readsPath cI a0 v0_2 v0_3 v0_5 v0_12 v0_13 v0_16 v0_17 v0_21 v0_23 u_18.2 s13.2.1 s13.2.2.1 v0_29 v0_30 s13.2.2.2 v0_4)) hP hD hS hA [0, 2] [1] [1, 0, 2] rfl rfl rfl (by decide) rfl rfl (va_runV (As := [.int 77]) (rest := []) ⟨hx, hb, hml, hown, hta⟩ (c_X12_passes l dC dI cI H.size a0 v0_2 v0_3 v0_5 v0_12 v0_13 v0_16 v0_17 v0_21 v0_23 s13.1 s13.2.1 s13.2.2.1 v0_29 v0_30 v0_4 77 u_18 hu_18) (cwV 1 hta (ga_V mA1072 mA1073 mA1074 mA814 mA1066) rfl rfl rfl (by decide +kernel) ⟨Nat.le_of_ble_eq_true rfl, Nat.le_of_ble_eq_true rfl⟩) ⟨q_fb, va_recv hK hP (ci := 11) (q0 := 0) rfl rfl, q_ps hPc hK hDc⟩ rfl rfl hl.1 rfl (lv_room (Nat.le_of_ble_eq_true rfl)) dX12_readsPath_38 ⟨Nat.zero_le _, Nat.zero_le _⟩) (fun hzu_18 H locs hP hD hS => ?_)
            refine lv_if_eq (tgt := 51) hx hb dX12_readsPath_41 (by decide) (fun c_19 => ?_) (fun c_19 => ?_)
            · have hF := it_t hF c_19
              obtain rfl := Option.some.inj hF
              obtain rfl := lpq_x hO_13
              have hF := hE_13
              have hF := el_l hF
              exact j51 u_18.2 s13.2.1 s13.2.2.1 s13.2.2.2 hF _ _ _ hP hD hS (lv_sub hl [] rfl)
            · have hF := it_f hF c_19
              refine lv_aload_n hx hb dX12_readsPath_44 rfl (lv_at hl 0 rfl) ?_
              obtain ⟨u_20, hu_20, hF⟩ := obd_some hF
              have hPc := hP.sub (ws' := (wd_X12_readsPoint cI a0 v0_2 v0_3 v0_5 v0_12 v0_13 v0_16 v0_17 v0_21 v0_23 u_18.2 s13.2.1 s13.2.2.1 v0_29 v0_30 v0_4)) [0, 2] rfl
              have hDc := hD.sub (ws' := (wd_X12_readsPoint cI a0 v0_2 v0_3 v0_5 v0_12 v0_13 v0_16 v0_17 v0_21 v0_23 u_18.2 s13.2.1 s13.2.2.1 v0_29 v0_30 v0_4)) [0, 2] rfl rfl
              refine q_callz (wc := (wd_X12_readsPoint cI a0 v0_2 v0_3 v0_5 v0_12 v0_13 v0_16 v0_17 v0_21 v0_23 u_18.2 s13.2.1 s13.2.2.1 v0_29 v0_30 v0_4)) (w1 := (wd_X12_readsPoint cI a0 v0_2 v0_3 v0_5 v0_12 v0_13 v0_16 v0_17 v0_21 v0_23 u_20.2.1 u_20.2.2.1 u_20.2.2.2 v0_29 v0_30 v0_4)) (ws' := (wd_X12_readsPath cI a0 v0_2 v0_3 v0_5 v0_12 v0_13 v0_16 v0_17 v0_21 v0_23 u_20.2.1 u_20.2.2.1 u_20.2.2.2 v0_29 v0_30 s13.2.2.2 v0_4)) hP hD hS hA [0, 2] [1] [1, 0, 2] rfl rfl rfl (by decide) rfl rfl (va_runV (As := []) (rest := []) ⟨hx, hb, hml, hown, hta⟩ (c_X12_readsPoint l dC dI cI H.size a0 v0_2 v0_3 v0_5 v0_12 v0_13 v0_16 v0_17 v0_21 v0_23 u_18.2 s13.2.1 s13.2.2.1 v0_29 v0_30 v0_4 n u_20 hu_20) (cwV 0 hta (ga_V mA1081 mA1082 mA1083 mA814 mA1075) rfl rfl rfl (by decide +kernel) ⟨Nat.le_of_ble_eq_true rfl, Nat.le_of_ble_eq_true rfl⟩) ⟨q_fb, va_recv hK hP (ci := 11) (q0 := 0) rfl rfl, q_ps hPc hK hDc⟩ rfl rfl hl.1 rfl (lv_room (Nat.le_of_ble_eq_true rfl)) dX12_readsPath_45 ⟨Nat.zero_le _, Nat.zero_le _⟩) (fun hzu_20 H locs hP hD hS => ?_)
              refine lv_if_ne (tgt := 53) hx hb dX12_readsPath_48 (by decide) (fun c_21 => ?_) (fun c_21 => ?_)
              · have hF := it_f hF c_21
                refine lv_aload_n hx hb dX12_readsPath_53 rfl (lv_at hl 0 rfl) ?_
                refine lv_aload_n hx hb dX12_readsPath_54 rfl (lv_at hl 0 rfl) ?_
                refine va_get (D := (dC, dI)) (ci := 11) (v := .int u_20.2.2.2) (C := RX12) (T := TX12) (N := 31) hx hb hta uw_X12 hown hK hP 0 rfl rfl 26 (by decide) (hta _ mA1076) (fun _ h9 => h9) rfl dX12_readsPath_55 ?_
                refine lv_aload_n hx hb dX12_readsPath_58 rfl (lv_at hl 0 rfl) ?_
                refine va_get (D := (dC, dI)) (ci := 11) (v := .int u_20.2.2.1) (C := RX12) (T := TX12) (N := 31) hx hb hta uw_X12 hown hK hP 0 rfl rfl 25 (by decide) (hta _ mA1071) (fun _ h9 => h9) rfl dX12_readsPath_59 ?_
                obtain ⟨u_22, hu_22, hF⟩ := obd_some hF
                have hPc := hP.sub (ws' := (wd_X12_begins cI a0 v0_2 v0_3 v0_5 v0_12 v0_13 v0_16 v0_17 v0_21 v0_23 u_20.2.1 u_20.2.2.1 u_20.2.2.2 v0_29 v0_30 s13.2.2.2)) [0, 1] rfl
                have hDc := hD.sub (ws' := (wd_X12_begins cI a0 v0_2 v0_3 v0_5 v0_12 v0_13 v0_16 v0_17 v0_21 v0_23 u_20.2.1 u_20.2.2.1 u_20.2.2.2 v0_29 v0_30 s13.2.2.2)) [0, 1] rfl rfl
                refine q_callv (wc := (wd_X12_begins cI a0 v0_2 v0_3 v0_5 v0_12 v0_13 v0_16 v0_17 v0_21 v0_23 u_20.2.1 u_20.2.2.1 u_20.2.2.2 v0_29 v0_30 s13.2.2.2)) (w1 := (wd_X12_begins cI a0 v0_2 v0_3 v0_5 v0_12 v0_13 v0_16 v0_17 v0_21 v0_23 u_20.2.1 u_20.2.2.1 u_20.2.2.2 v0_29 v0_30 u_22)) (ws' := (wd_X12_readsPath cI a0 v0_2 v0_3 v0_5 v0_12 v0_13 v0_16 v0_17 v0_21 v0_23 u_20.2.1 u_20.2.2.1 u_20.2.2.2 v0_29 v0_30 u_22 v0_4)) hP hD hS hA [0, 1] [2] [1, 2, 0] rfl rfl rfl (by decide) rfl rfl (va_runV (As := [.int u_20.2.2.2, .int u_20.2.2.1]) (rest := []) ⟨hx, hb, hml, hown, hta⟩ (c_X12_begins l dC dI cI H.size a0 v0_2 v0_3 v0_5 v0_12 v0_13 v0_16 v0_17 v0_21 v0_23 u_20.2.1 u_20.2.2.1 u_20.2.2.2 v0_29 v0_30 s13.2.2.2 u_20.2.2.2 u_20.2.2.1 u_22 hu_22) (cwV 2 hta (ga_V mA848 mA849 mA850 mA814 mA834) rfl rfl rfl (by decide +kernel) ⟨Nat.le_of_ble_eq_true rfl, Nat.le_of_ble_eq_true rfl⟩) ⟨q_fb, va_recv hK hP (ci := 11) (q0 := 0) rfl rfl, q_ps hPc hK hDc⟩ rfl rfl hl.1 rfl (lv_room (Nat.le_of_ble_eq_true rfl)) dX12_readsPath_62 ⟨Nat.zero_le _, Nat.zero_le _⟩) (fun H locs hP hD hS => ?_)
                exact j65 u_20.2.1 u_20.2.2.1 u_20.2.2.2 u_22 hF _ _ _ hP hD hS (lv_sub hl [0] rfl)
              · have hF := it_t hF c_21
                obtain rfl := Option.some.inj hF
                obtain rfl := lpq_x hO_13
                have hF := hE_13
                have hF := el_l hF
                exact j51 u_20.2.1 u_20.2.2.1 u_20.2.2.2 s13.2.2.2 hF _ _ _ hP hD hS (lv_sub hl [] rfl)
    exact kl_13 n _ hL_13 _ _ _ hP hD hS hl
  refine lv_aload_n hx hb dX12_readsPath_0 rfl (lv_at hl 0 rfl) ?_
  refine lv_iconst (v := 0) hx hb dX12_readsPath_1 (by decide) ?_
  refine va_put (D := (dC, dI)) (ci := 11) (v := .int 0) (ty := .int) (C := RX12) (T := TX12) (N := 31) hx hb hta uw_X12 tyX12 tyX12_ok nmX12 hown hK hP hD hS 0 rfl rfl 24 (by decide) (hta _ mA1065) (fun _ h9 => h9) rfl (by decide +kernel) rfl rfl (Nat.le_of_ble_eq_true rfl) dX12_readsPath_2 (fun H locs hP hD hS => ?_)
  have hP : va_P (dC, dI) vwCl (wd_X12_readsPath cI a0 v0_2 v0_3 v0_5 v0_12 v0_13 v0_16 v0_17 v0_21 v0_23 0 v0_25 v0_26 v0_29 v0_30 v0_0 v0_4) H := hP
  have hD : va_D A (wd_X12_readsPath cI a0 v0_2 v0_3 v0_5 v0_12 v0_13 v0_16 v0_17 v0_21 v0_23 0 v0_25 v0_26 v0_29 v0_30 v0_0 v0_4) := hD
  refine lv_aload_n hx hb dX12_readsPath_5 rfl (lv_at hl 0 rfl) ?_
  refine va_get (D := (dC, dI)) (ci := 11) (v := .ref (a0 1)) (C := RX12) (T := TX12) (N := 31) hx hb hta uw_X12 hown hK hP 0 rfl rfl 0 (by decide) (hta _ mA790) (fun _ h9 => h9) rfl dX12_readsPath_6 ?_
  refine lv_bipush (v := 13) hx hb dX12_readsPath_9 (by decide) ?_
  refine lv_iconst (v := 0) hx hb dX12_readsPath_11 (by decide) ?_
  obtain ⟨g_23, hF⟩ := gd_some hF
  refine va_iast hx hb hK hP hD hS 1 0 rfl rfl (vpi_in g_23) dX12_readsPath_12 (fun H locs hP hD hS => ?_)
  obtain ⟨y_24, ey_24, hF⟩ := lt_some hF
  have hP : va_P (dC, dI) vwCl (wd_X12_readsPath cI a0 v0_2 v0_3 v0_5 v0_12 v0_13 v0_16 v0_17 v0_21 v0_23 0 v0_25 v0_26 v0_29 v0_30 y_24 v0_4) H := by rw [ey_24]; exact hP
  have hD : va_D A (wd_X12_readsPath cI a0 v0_2 v0_3 v0_5 v0_12 v0_13 v0_16 v0_17 v0_21 v0_23 0 v0_25 v0_26 v0_29 v0_30 y_24 v0_4) := by rw [ey_24]; exact hD
  exact j13 0 v0_25 v0_26 y_24 hF _ _ _ hP hD hS (lv_sub hl [0] rfl)

-- StrokeOutlinerModel.parse()I
def F_X12_parse_j118 (v0_2 : Int32) (v0_3 : Int32) (v0_24 : Int32) (v0_25 : Int32) (v0_26 : Int32) (v0_0 : Nat → Int32) (v0_1 : Nat → Int32) (v0_27 : Nat → Int32) : Option (Int32 × Int32 × Int32 × Int32 × Int32 × Int32 × (Nat → Int32) × (Nat → Int32) × (Nat → Int32)) :=
  gd (decide (vpi 13 86)) (some ((v0_0 (13 : Int32).toNatClampNeg), v0_2, v0_3, v0_24, v0_25, v0_26, v0_0, v0_1, v0_27))
def F_X12_parse_b94 (v0_27 : Nat → Int32) (s94 : Int32 × (Nat → Int32)) : Option (Sum (Int32 × (Nat → Int32)) ((Nat → Int32))) :=
  if 86 ≤ s94.1 then some (.inr s94.2) else gd (decide (vpi s94.1 86)) (lt (v0_27 s94.1.toNatClampNeg) (fun y_4 => gd (decide (vpi s94.1 86)) (lt (upd s94.2 s94.1.toNatClampNeg y_4) (fun y_6 => lt (s94.1 + 1) (fun y_7 => some (.inl (y_7, y_6)))))))
def F_X12_parse_j94 (n : Nat) (v0_2 : Int32) (v0_3 : Int32) (v0_24 : Int32) (v0_25 : Int32) (v0_26 : Int32) (v0_0 : Nat → Int32) (v0_1 : Nat → Int32) (v0_27 : Nat → Int32) (x2 : Int32) : Option (Int32 × Int32 × Int32 × Int32 × Int32 × Int32 × (Nat → Int32) × (Nat → Int32) × (Nat → Int32)) :=
  obd (lpq (F_X12_parse_b94 v0_27) n (x2, v0_0)) (fun x_94 => F_X12_parse_j118 v0_2 v0_3 v0_24 v0_25 v0_26 x_94 v0_1 v0_27)
def F_X12_parse_j76 (n : Nat) (v0_2 : Int32) (v0_3 : Int32) (v0_24 : Int32) (v0_25 : Int32) (v0_26 : Int32) (v0_0 : Nat → Int32) (v0_1 : Nat → Int32) (v0_27 : Nat → Int32) (x1 : Int32) : Option (Int32 × Int32 × Int32 × Int32 × Int32 × Int32 × (Nat → Int32) × (Nat → Int32) × (Nat → Int32)) :=
  if x1 = 0 then some (((-10) - v0_24), v0_2, v0_3, v0_24, v0_25, v0_26, v0_0, v0_1, v0_27) else obd (F_X12_saves n v0_2 v0_0 v0_1) (fun u_9 => F_X12_parse_j94 n u_9.1 v0_3 v0_24 v0_25 v0_26 v0_0 u_9.2 v0_27 0)
def F_X12_parse_b38 (s38 : Int32 × (Nat → Int32) × (Nat → Int32)) : Option (Sum (Int32 × (Nat → Int32) × (Nat → Int32)) ((Nat → Int32) × (Nat → Int32))) :=
  if 86 ≤ s38.1 then some (.inr (s38.2.1, s38.2.2)) else gd (decide (vpi s38.1 86)) (lt (s38.2.1 s38.1.toNatClampNeg) (fun y_12 => gd (decide (vpi s38.1 86)) (lt (s38.2.2 s38.1.toNatClampNeg) (fun y_14 => gd (decide (vpi s38.1 86)) (lt (upd s38.2.1 s38.1.toNatClampNeg y_14) (fun y_16 => gd (decide (vpi s38.1 86)) (lt (upd s38.2.2 s38.1.toNatClampNeg y_12) (fun y_18 => lt (s38.1 + 1) (fun y_19 => some (.inl (y_19, y_16, y_18)))))))))))
def F_X12_parse_j38 (n : Nat) (v0_2 : Int32) (v0_3 : Int32) (v0_24 : Int32) (v0_25 : Int32) (v0_26 : Int32) (v0_0 : Nat → Int32) (v0_1 : Nat → Int32) (v0_27 : Nat → Int32) (x1 : Int32) (x2 : Int32) : Option (Int32 × Int32 × Int32 × Int32 × Int32 × Int32 × (Nat → Int32) × (Nat → Int32) × (Nat → Int32)) :=
  obd (lpq F_X12_parse_b38 n (x2, v0_0, v0_27)) (fun x_38 => F_X12_parse_j76 n v0_2 v0_3 v0_24 v0_25 v0_26 x_38.1 v0_1 x_38.2 x1)
def F_X12_parse_j31 (n : Nat) (v0_2 : Int32) (v0_3 : Int32) (v0_5 : Int32) (v0_25 : Int32) (v0_26 : Int32) (v0_0 : Nat → Int32) (v0_1 : Nat → Int32) (v0_4 : Nat → Int32) (v0_27 : Nat → Int32) : Option (Int32 × Int32 × Int32 × Int32 × Int32 × Int32 × (Nat → Int32) × (Nat → Int32) × (Nat → Int32)) :=
  obd (F_X12_readsPath n v0_5 v0_25 v0_26 v0_0 v0_4) (fun u_20 => F_X12_parse_j38 n v0_2 v0_3 u_20.2.1 u_20.2.2.1 u_20.2.2.2.1 u_20.2.2.2.2 v0_1 v0_27 u_20.1 0)
def F_X12_parse_b7 (v0_0 : Nat → Int32) (s7 : Int32 × (Nat → Int32)) : Option (Sum (Int32 × (Nat → Int32)) ((Nat → Int32))) :=
  if 86 ≤ s7.1 then some (.inr s7.2) else gd (decide (vpi s7.1 86)) (lt (v0_0 s7.1.toNatClampNeg) (fun y_23 => gd (decide (vpi s7.1 86)) (lt (upd s7.2 s7.1.toNatClampNeg y_23) (fun y_25 => lt (s7.1 + 1) (fun y_26 => some (.inl (y_26, y_25)))))))
def F_X12_parse_j7 (n : Nat) (v0_2 : Int32) (v0_3 : Int32) (v0_5 : Int32) (v0_25 : Int32) (v0_26 : Int32) (v0_0 : Nat → Int32) (v0_1 : Nat → Int32) (v0_4 : Nat → Int32) (v0_27 : Nat → Int32) (x1 : Int32) : Option (Int32 × Int32 × Int32 × Int32 × Int32 × Int32 × (Nat → Int32) × (Nat → Int32) × (Nat → Int32)) :=
  obd (lpq (F_X12_parse_b7 v0_0) n (x1, v0_27)) (fun x_7 => F_X12_parse_j31 n v0_2 v0_3 v0_5 v0_25 v0_26 v0_0 v0_1 v0_4 x_7)
def F_X12_parse (n : Nat) (v0_2 : Int32) (v0_5 : Int32) (v0_25 : Int32) (v0_26 : Int32) (v0_0 : Nat → Int32) (v0_1 : Nat → Int32) (v0_4 : Nat → Int32) (v0_27 : Nat → Int32) : Option (Int32 × Int32 × Int32 × Int32 × Int32 × Int32 × (Nat → Int32) × (Nat → Int32) × (Nat → Int32)) :=
  F_X12_parse_j7 n v0_2 0 v0_5 v0_25 v0_26 v0_0 v0_1 v0_4 v0_27 0
abbrev wd_X12_parse (cI : ClassId) (a0 : Nat → Nat) (v0_2 : Int32) (v0_3 : Int32) (v0_5 : Int32) (v0_12 : Int32) (v0_13 : Int32) (v0_16 : Int32) (v0_17 : Int32) (v0_21 : Int32) (v0_23 : Int32) (v0_24 : Int32) (v0_25 : Int32) (v0_26 : Int32) (v0_29 : Int32) (v0_30 : Int64) (v0_0 : Nat → Int32) (v0_1 : Nat → Int32) (v0_4 : Nat → Int32) (v0_27 : Nat → Int32) : va_W := [(a0 0, .inr (11, [.ref (a0 1), .ref (a0 2), .int v0_2, .int v0_3, .ref (a0 5), .int v0_5, .ref (a0 7), .ref (a0 8), .ref (a0 9), .ref (a0 10), .ref (a0 11), .ref (a0 12), .int v0_12, .int v0_13, .ref (a0 15), .ref (a0 16), .int v0_16, .int v0_17, .ref (a0 19), .ref (a0 20), .ref (a0 21), .int v0_21, .ref (a0 23), .int v0_23, .int v0_24, .int v0_25, .int v0_26, .ref (a0 28), .ref (a0 29), .int v0_29, .long v0_30])), (a0 1, .inl (cI, 86, .inl v0_0)), (a0 2, .inl (cI, 344, .inl v0_1)), (a0 5, .inl (cI, 150, .inl v0_4)), (a0 28, .inl (cI, 86, .inl v0_27))]
abbrev wz_X12_parse : List Cond := .code yX12_parse cX12_parse 4 (some .int) :: wALL
abbrev rm_X12_parse : Room := { frames := 6, cells := 0, slots := 0, locals := 130 }
abbrev Q_X12_parse (dC : Nat → ClassId) (dI : Nat → Nat → Nat) (cI : ClassId) (a0 : Nat → Nat) (v0_5 : Int32) (v0_12 : Int32) (v0_13 : Int32) (v0_16 : Int32) (v0_17 : Int32) (v0_21 : Int32) (v0_23 : Int32) (v0_29 : Int32) (v0_30 : Int64) (v0_4 : Nat → Int32) (u : (Int32 × Int32 × Int32 × Int32 × Int32 × Int32 × (Nat → Int32) × (Nat → Int32) × (Nat → Int32))) (A : Nat → Prop) : Array Value → State → Outcome → State → Prop := va_Qi (fun (r : Int32) (_ : Unit) => r = u.1) (fun _ => q_at dC dI cI A (wd_X12_parse cI a0 u.2.1 u.2.2.1 v0_5 v0_12 v0_13 v0_16 v0_17 v0_21 v0_23 u.2.2.2.1 u.2.2.2.2.1 u.2.2.2.2.2.1 v0_29 v0_30 u.2.2.2.2.2.2.1 u.2.2.2.2.2.2.2.1 v0_4 u.2.2.2.2.2.2.2.2)) A
set_option maxHeartbeats 4000000 in
set_option maxRecDepth 100000 in
theorem c_X12_parse (l : Launch) (dC : Nat → ClassId) (dI : Nat → Nat → Nat) (cI : ClassId) (sz : Nat) (a0 : Nat → Nat) (v0_2 : Int32) (v0_3 : Int32) (v0_5 : Int32) (v0_12 : Int32) (v0_13 : Int32) (v0_16 : Int32) (v0_17 : Int32) (v0_21 : Int32) (v0_23 : Int32) (v0_24 : Int32) (v0_25 : Int32) (v0_26 : Int32) (v0_29 : Int32) (v0_30 : Int64) (v0_0 : Nat → Int32) (v0_1 : Nat → Int32) (v0_4 : Nat → Int32) (v0_27 : Nat → Int32) (n : Nat) (u : (Int32 × Int32 × Int32 × Int32 × Int32 × Int32 × (Nat → Int32) × (Nat → Int32) × (Nat → Int32))) (hF : F_X12_parse n v0_2 v0_5 v0_25 v0_26 v0_0 v0_1 v0_4 v0_27 = some u) : Met l yX12_parse wz_X12_parse rm_X12_parse (va_Pc [.ref (a0 0)] (q_pre dC dI cI (wd_X12_parse cI a0 v0_2 v0_3 v0_5 v0_12 v0_13 v0_16 v0_17 v0_21 v0_23 v0_24 v0_25 v0_26 v0_29 v0_30 v0_0 v0_1 v0_4 v0_27) sz)) (Q_X12_parse dC dI cI a0 v0_5 v0_12 v0_13 v0_16 v0_17 v0_21 v0_23 v0_29 v0_30 v0_4 u (va_A (wd_X12_parse cI a0 v0_2 v0_3 v0_5 v0_12 v0_13 v0_16 v0_17 v0_21 v0_23 v0_24 v0_25 v0_26 v0_29 v0_30 v0_0 v0_1 v0_4 v0_27) sz)) 0 0 (va_A (wd_X12_parse cI a0 v0_2 v0_3 v0_5 v0_12 v0_13 v0_16 v0_17 v0_21 v0_23 v0_24 v0_25 v0_26 v0_29 v0_30 v0_0 v0_1 v0_4 v0_27) sz) := by
  refine Met.ofW (cc := cX12_parse) (maxL := 4) (ret := (some .int)) (by decide) rfl ?_
  intro p e s m args below meth c s₁ B hml hv
  obtain ⟨rfl, hsz, hP, hK, hD0⟩ := hv
  have hx := B.exec
  have hb := B.bytes
  have hr := B.returns
  have hts := atoms_spec (ws := wz_X12_parse) B.pre
  have hta := wz_tl hts
  have hown : s.vm.findClass RX12 = some m.cls := findClass_of_methodNamed B.named
  have hlocks := B.notSynchronized
  subst hsz
  have hD := hD0.self (sz := s.heap.size)
  generalize hAe : va_A (wd_X12_parse cI a0 v0_2 v0_3 v0_5 v0_12 v0_13 v0_16 v0_17 v0_21 v0_23 v0_24 v0_25 v0_26 v0_29 v0_30 v0_0 v0_1 v0_4 v0_27) s.heap.size = A at hD ⊢
  have hA : ∀ q : Nat, s.heap.size ≤ q → A q := fun q h => by rw [← hAe]; exact Or.inr h
  have hS : va_S A s.heap s.heap [] := va_S.rf
  have hP : va_P (dC, dI) vwCl (wd_X12_parse cI a0 v0_2 v0_3 v0_5 v0_12 v0_13 v0_16 v0_17 v0_21 v0_23 v0_24 v0_25 v0_26 v0_29 v0_30 v0_0 v0_1 v0_4 v0_27) s.heap := hP
  have hl := lv_entry ([.ref (a0 0)]) (n := 4) (Nat.le_of_ble_eq_true rfl)
  rw [lg_entry_eq]
  generalize (lg_sl ([.ref (a0 0)]) ++ List.replicate (4 - (lg_sl ([.ref (a0 0)])).length) Slot.unset).toArray = ls at hl ⊢
  have hl : lv_has ls 4 [(0, .ref (a0 0))] := hl
  obtain ⟨H, hHe⟩ : ∃ H, H = s.heap := ⟨_, rfl⟩
  have hS : va_S A s.heap H [] := by rw [hHe]; exact hS
  have hP : va_P (dC, dI) vwCl (wd_X12_parse cI a0 v0_2 v0_3 v0_5 v0_12 v0_13 v0_16 v0_17 v0_21 v0_23 v0_24 v0_25 v0_26 v0_29 v0_30 v0_0 v0_1 v0_4 v0_27) H := by rw [hHe]; exact hP
  rw [← hHe]
  unfold F_X12_parse at hF
  have j118 : ∀ (v0_2 : Int32) (v0_3 : Int32) (v0_24 : Int32) (v0_25 : Int32) (v0_26 : Int32) (v0_0 : Nat → Int32) (v0_1 : Nat → Int32) (v0_27 : Nat → Int32), F_X12_parse_j118 v0_2 v0_3 v0_24 v0_25 v0_26 v0_0 v0_1 v0_27 = some u → ∀ (H : Heap) (locs : List Loc) (ls : Array Slot), va_P (dC, dI) vwCl (wd_X12_parse cI a0 v0_2 v0_3 v0_5 v0_12 v0_13 v0_16 v0_17 v0_21 v0_23 v0_24 v0_25 v0_26 v0_29 v0_30 v0_0 v0_1 v0_4 v0_27) H → va_D A (wd_X12_parse cI a0 v0_2 v0_3 v0_5 v0_12 v0_13 v0_16 v0_17 v0_21 v0_23 v0_24 v0_25 v0_26 v0_29 v0_30 v0_0 v0_1 v0_4 v0_27) → va_S A s.heap H locs → lv_has ls 4 [(0, .ref (a0 0))] → W p l e (headSpec wz_X12_parse rm_X12_parse).room s m [.ref (a0 0)].toArray below meth c H locs 0 0 (MQ below (Q_X12_parse dC dI cI a0 v0_5 v0_12 v0_13 v0_16 v0_17 v0_21 v0_23 v0_29 v0_30 v0_4 u A) [.ref (a0 0)].toArray s 0 0 A) (F0 m 118 ls []) := by
    intro v0_2 v0_3 v0_24 v0_25 v0_26 v0_0 v0_1 v0_27 hF H locs ls hP hD hS hl
    unfold F_X12_parse_j118 at hF
    refine lv_aload_n hx hb dX12_parse_118 rfl (lv_at hl 0 rfl) ?_
    refine va_get (D := (dC, dI)) (ci := 11) (v := .ref (a0 1)) (C := RX12) (T := TX12) (N := 31) hx hb hta uw_X12 hown hK hP 0 rfl rfl 0 (by decide) (hta _ mA790) (fun _ h9 => h9) rfl dX12_parse_119 ?_
    refine lv_bipush (v := 13) hx hb dX12_parse_122 (by decide) ?_
    obtain ⟨g_1, hF⟩ := gd_some hF
    refine va_iald hx hb hK hP 1 0 rfl rfl (vpi_in g_1) dX12_parse_124 ?_
    obtain rfl := Option.some.inj hF
    exact W.iret (v := (v0_0 (13 : Int32).toNatClampNeg)) hx hb hr (fun t ht hW => ⟨⟨(v0_0 (13 : Int32).toNatClampNeg), (), rfl, rfl, by rw [ht]; exact hP, va_K.moved hW.alike hK, hD⟩, hS.F ht⟩) hS.2.2 dX12_parse_125
  have j94 : ∀ (v0_2 : Int32) (v0_3 : Int32) (v0_24 : Int32) (v0_25 : Int32) (v0_26 : Int32) (v0_0 : Nat → Int32) (v0_1 : Nat → Int32) (v0_27 : Nat → Int32) (x2 : Int32), F_X12_parse_j94 n v0_2 v0_3 v0_24 v0_25 v0_26 v0_0 v0_1 v0_27 x2 = some u → ∀ (H : Heap) (locs : List Loc) (ls : Array Slot), va_P (dC, dI) vwCl (wd_X12_parse cI a0 v0_2 v0_3 v0_5 v0_12 v0_13 v0_16 v0_17 v0_21 v0_23 v0_24 v0_25 v0_26 v0_29 v0_30 v0_0 v0_1 v0_4 v0_27) H → va_D A (wd_X12_parse cI a0 v0_2 v0_3 v0_5 v0_12 v0_13 v0_16 v0_17 v0_21 v0_23 v0_24 v0_25 v0_26 v0_29 v0_30 v0_0 v0_1 v0_4 v0_27) → va_S A s.heap H locs → lv_has ls 4 [(0, .ref (a0 0)), (2, .int x2)] → W p l e (headSpec wz_X12_parse rm_X12_parse).room s m [.ref (a0 0)].toArray below meth c H locs 0 0 (MQ below (Q_X12_parse dC dI cI a0 v0_5 v0_12 v0_13 v0_16 v0_17 v0_21 v0_23 v0_29 v0_30 v0_4 u A) [.ref (a0 0)].toArray s 0 0 A) (F0 m 94 ls []) := by
    intro v0_2 v0_3 v0_24 v0_25 v0_26 v0_0 v0_1 v0_27 x2 hF H locs ls hP hD hS hl
    unfold F_X12_parse_j94 at hF
    obtain ⟨x_94, hL_94, hE_94⟩ := obd_some hF
    have kl_94 : ∀ (k : Nat) (s94 : Int32 × (Nat → Int32)), lpq (F_X12_parse_b94 v0_27) k s94 = some x_94 → ∀ (H : Heap) (locs : List Loc) (ls : Array Slot), va_P (dC, dI) vwCl (wd_X12_parse cI a0 v0_2 v0_3 v0_5 v0_12 v0_13 v0_16 v0_17 v0_21 v0_23 v0_24 v0_25 v0_26 v0_29 v0_30 s94.2 v0_1 v0_4 v0_27) H → va_D A (wd_X12_parse cI a0 v0_2 v0_3 v0_5 v0_12 v0_13 v0_16 v0_17 v0_21 v0_23 v0_24 v0_25 v0_26 v0_29 v0_30 s94.2 v0_1 v0_4 v0_27) → va_S A s.heap H locs → lv_has ls 4 [(0, .ref (a0 0)), (2, .int s94.1)] → W p l e (headSpec wz_X12_parse rm_X12_parse).room s m [.ref (a0 0)].toArray below meth c H locs 0 0 (MQ below (Q_X12_parse dC dI cI a0 v0_5 v0_12 v0_13 v0_16 v0_17 v0_21 v0_23 v0_29 v0_30 v0_4 u A) [.ref (a0 0)].toArray s 0 0 A) (F0 m 94 ls []) := by
      intro k
      induction k with
      | zero => intro s94 h; exact absurd h lpq_zero
      | succ k ih_94 =>
        intro s94 h H locs ls hP hD hS hl
        obtain ⟨o_94, hF, hO_94⟩ := lpq_succ h
        unfold F_X12_parse_b94 at hF
        refine lv_iload_n hx hb dX12_parse_94 rfl (lv_at hl 1 rfl) ?_
        refine lv_bipush (v := 86) hx hb dX12_parse_95 (by decide) ?_
        refine lv_icmp_ge (tgt := 118) hx hb dX12_parse_97 (by decide) (fun c_2 => ?_) (fun c_2 => ?_)
        · have hF := it_t hF c_2
          obtain rfl := Option.some.inj hF
          obtain rfl := lpq_x hO_94
          have hF := hE_94
          exact j118 v0_2 v0_3 v0_24 v0_25 v0_26 s94.2 v0_1 v0_27 hF _ _ _ hP hD hS (lv_sub hl [0] rfl)
        · have hF := it_f hF c_2
          refine lv_aload_n hx hb dX12_parse_100 rfl (lv_at hl 0 rfl) ?_
          refine va_get (D := (dC, dI)) (ci := 11) (v := .ref (a0 1)) (C := RX12) (T := TX12) (N := 31) hx hb hta uw_X12 hown hK hP 0 rfl rfl 0 (by decide) (hta _ mA790) (fun _ h9 => h9) rfl dX12_parse_101 ?_
          refine lv_iload_n hx hb dX12_parse_104 rfl (lv_at hl 1 rfl) ?_
          refine lv_aload_n hx hb dX12_parse_105 rfl (lv_at hl 0 rfl) ?_
          refine va_get (D := (dC, dI)) (ci := 11) (v := .ref (a0 28)) (C := RX12) (T := TX12) (N := 31) hx hb hta uw_X12 hown hK hP 0 rfl rfl 27 (by decide) (hta _ mA805) (fun _ h9 => h9) rfl dX12_parse_106 ?_
          refine lv_iload_n hx hb dX12_parse_109 rfl (lv_at hl 1 rfl) ?_
          obtain ⟨g_3, hF⟩ := gd_some hF
          refine va_iald hx hb hK hP 4 0 rfl rfl (vpi_in g_3) dX12_parse_110 ?_
          obtain ⟨y_4, ey_4, hF⟩ := lt_some hF
          refine lv_eqi ey_4 ?_
          obtain ⟨g_5, hF⟩ := gd_some hF
          refine va_iast hx hb hK hP hD hS 1 0 rfl rfl (vpi_in g_5) dX12_parse_111 (fun H locs hP hD hS => ?_)
          obtain ⟨y_6, ey_6, hF⟩ := lt_some hF
          have hP : va_P (dC, dI) vwCl (wd_X12_parse cI a0 v0_2 v0_3 v0_5 v0_12 v0_13 v0_16 v0_17 v0_21 v0_23 v0_24 v0_25 v0_26 v0_29 v0_30 y_6 v0_1 v0_4 v0_27) H := by rw [ey_6]; exact hP
          have hD : va_D A (wd_X12_parse cI a0 v0_2 v0_3 v0_5 v0_12 v0_13 v0_16 v0_17 v0_21 v0_23 v0_24 v0_25 v0_26 v0_29 v0_30 y_6 v0_1 v0_4 v0_27) := by rw [ey_6]; exact hD
          obtain ⟨y_7, ey_7, hF⟩ := lt_some hF
          refine lv_iinc (v := y_7) (lv' := [(2, .int y_7), (0, .ref (a0 0))]) hx hb dX12_parse_112 hl (k := 1) rfl (by rw [ey_7]; rfl) (by decide) rfl (fun ls hl => ?_)
          refine lv_goto (tgt := 94) hx hb dX12_parse_115 (by decide) ?_
          obtain rfl := Option.some.inj hF
          exact ih_94 _ hO_94 _ _ _ hP hD hS (lv_sub hl [1, 0] rfl)
    exact kl_94 n _ hL_94 _ _ _ hP hD hS hl
  have j76 : ∀ (v0_2 : Int32) (v0_3 : Int32) (v0_24 : Int32) (v0_25 : Int32) (v0_26 : Int32) (v0_0 : Nat → Int32) (v0_1 : Nat → Int32) (v0_27 : Nat → Int32) (x1 : Int32), F_X12_parse_j76 n v0_2 v0_3 v0_24 v0_25 v0_26 v0_0 v0_1 v0_27 x1 = some u → ∀ (H : Heap) (locs : List Loc) (ls : Array Slot), va_P (dC, dI) vwCl (wd_X12_parse cI a0 v0_2 v0_3 v0_5 v0_12 v0_13 v0_16 v0_17 v0_21 v0_23 v0_24 v0_25 v0_26 v0_29 v0_30 v0_0 v0_1 v0_4 v0_27) H → va_D A (wd_X12_parse cI a0 v0_2 v0_3 v0_5 v0_12 v0_13 v0_16 v0_17 v0_21 v0_23 v0_24 v0_25 v0_26 v0_29 v0_30 v0_0 v0_1 v0_4 v0_27) → va_S A s.heap H locs → lv_has ls 4 [(0, .ref (a0 0)), (1, .int x1)] → W p l e (headSpec wz_X12_parse rm_X12_parse).room s m [.ref (a0 0)].toArray below meth c H locs 0 0 (MQ below (Q_X12_parse dC dI cI a0 v0_5 v0_12 v0_13 v0_16 v0_17 v0_21 v0_23 v0_29 v0_30 v0_4 u A) [.ref (a0 0)].toArray s 0 0 A) (F0 m 76 ls []) := by
    intro v0_2 v0_3 v0_24 v0_25 v0_26 v0_0 v0_1 v0_27 x1 hF H locs ls hP hD hS hl
    unfold F_X12_parse_j76 at hF
    refine lv_iload_n hx hb dX12_parse_76 rfl (lv_at hl 1 rfl) ?_
    refine lv_if_ne (tgt := 88) hx hb dX12_parse_77 (by decide) (fun c_8 => ?_) (fun c_8 => ?_)
    · have hF := it_f hF c_8
      refine lv_aload_n hx hb dX12_parse_88 rfl (lv_at hl 0 rfl) ?_
      obtain ⟨u_9, hu_9, hF⟩ := obd_some hF
      have hPc := hP.sub (ws' := (wd_X12_saves cI a0 v0_2 v0_3 v0_5 v0_12 v0_13 v0_16 v0_17 v0_21 v0_23 v0_24 v0_25 v0_26 v0_29 v0_30 v0_0 v0_1)) [0, 1, 2] rfl
      have hDc := hD.sub (ws' := (wd_X12_saves cI a0 v0_2 v0_3 v0_5 v0_12 v0_13 v0_16 v0_17 v0_21 v0_23 v0_24 v0_25 v0_26 v0_29 v0_30 v0_0 v0_1)) [0, 1, 2] rfl rfl
      refine q_callv (wc := (wd_X12_saves cI a0 v0_2 v0_3 v0_5 v0_12 v0_13 v0_16 v0_17 v0_21 v0_23 v0_24 v0_25 v0_26 v0_29 v0_30 v0_0 v0_1)) (w1 := (wd_X12_saves cI a0 u_9.1 v0_3 v0_5 v0_12 v0_13 v0_16 v0_17 v0_21 v0_23 v0_24 v0_25 v0_26 v0_29 v0_30 v0_0 u_9.2)) (ws' := (wd_X12_parse cI a0 u_9.1 v0_3 v0_5 v0_12 v0_13 v0_16 v0_17 v0_21 v0_23 v0_24 v0_25 v0_26 v0_29 v0_30 v0_0 u_9.2 v0_4 v0_27)) hP hD hS hA [0, 1, 2] [3, 4] [2, 3, 4, 0, 1] rfl rfl rfl (by decide) rfl rfl (va_runV (As := []) (rest := []) ⟨hx, hb, hml, hown, hta⟩ (c_X12_saves l dC dI cI H.size a0 v0_2 v0_3 v0_5 v0_12 v0_13 v0_16 v0_17 v0_21 v0_23 v0_24 v0_25 v0_26 v0_29 v0_30 v0_0 v0_1 n u_9 hu_9) (cwV 0 hta (ga_V mA845 mA846 mA847 mA814 mA819) rfl rfl rfl (by decide +kernel) ⟨Nat.le_of_ble_eq_true rfl, Nat.le_of_ble_eq_true rfl⟩) ⟨q_fb, va_recv hK hP (ci := 11) (q0 := 0) rfl rfl, q_ps hPc hK hDc⟩ rfl rfl hl.1 rfl (lv_room (Nat.le_of_ble_eq_true rfl)) dX12_parse_89 ⟨Nat.zero_le _, Nat.zero_le _⟩) (fun H locs hP hD hS => ?_)
      refine lv_iconst (v := 0) hx hb dX12_parse_92 (by decide) ?_
      refine lv_istore_n (lv' := [(2, .int 0), (0, .ref (a0 0)), (1, .int x1)]) hx hb dX12_parse_93 rfl hl (by decide) rfl (fun ls hl => ?_)
      exact j94 u_9.1 v0_3 v0_24 v0_25 v0_26 v0_0 u_9.2 v0_27 0 hF _ _ _ hP hD hS (lv_sub hl [1, 0] rfl)
    · have hF := it_t hF c_8
      refine lv_bipush (v := (-10)) hx hb dX12_parse_80 (by decide) ?_
      refine lv_aload_n hx hb dX12_parse_82 rfl (lv_at hl 0 rfl) ?_
      refine va_get (D := (dC, dI)) (ci := 11) (v := .int v0_24) (C := RX12) (T := TX12) (N := 31) hx hb hta uw_X12 hown hK hP 0 rfl rfl 24 (by decide) (hta _ mA1065) (fun _ h9 => h9) rfl dX12_parse_83 ?_
      refine lv_isub hx hb dX12_parse_86 ?_
      obtain rfl := Option.some.inj hF
      exact W.iret (v := ((-10) - v0_24)) hx hb hr (fun t ht hW => ⟨⟨((-10) - v0_24), (), rfl, rfl, by rw [ht]; exact hP, va_K.moved hW.alike hK, hD⟩, hS.F ht⟩) hS.2.2 dX12_parse_87
  have j38 : ∀ (v0_2 : Int32) (v0_3 : Int32) (v0_24 : Int32) (v0_25 : Int32) (v0_26 : Int32) (v0_0 : Nat → Int32) (v0_1 : Nat → Int32) (v0_27 : Nat → Int32) (x1 : Int32) (x2 : Int32), F_X12_parse_j38 n v0_2 v0_3 v0_24 v0_25 v0_26 v0_0 v0_1 v0_27 x1 x2 = some u → ∀ (H : Heap) (locs : List Loc) (ls : Array Slot), va_P (dC, dI) vwCl (wd_X12_parse cI a0 v0_2 v0_3 v0_5 v0_12 v0_13 v0_16 v0_17 v0_21 v0_23 v0_24 v0_25 v0_26 v0_29 v0_30 v0_0 v0_1 v0_4 v0_27) H → va_D A (wd_X12_parse cI a0 v0_2 v0_3 v0_5 v0_12 v0_13 v0_16 v0_17 v0_21 v0_23 v0_24 v0_25 v0_26 v0_29 v0_30 v0_0 v0_1 v0_4 v0_27) → va_S A s.heap H locs → lv_has ls 4 [(0, .ref (a0 0)), (1, .int x1), (2, .int x2)] → W p l e (headSpec wz_X12_parse rm_X12_parse).room s m [.ref (a0 0)].toArray below meth c H locs 0 0 (MQ below (Q_X12_parse dC dI cI a0 v0_5 v0_12 v0_13 v0_16 v0_17 v0_21 v0_23 v0_29 v0_30 v0_4 u A) [.ref (a0 0)].toArray s 0 0 A) (F0 m 38 ls []) := by
    intro v0_2 v0_3 v0_24 v0_25 v0_26 v0_0 v0_1 v0_27 x1 x2 hF H locs ls hP hD hS hl
    unfold F_X12_parse_j38 at hF
    obtain ⟨x_38, hL_38, hE_38⟩ := obd_some hF
    have kl_38 : ∀ (k : Nat) (s38 : Int32 × (Nat → Int32) × (Nat → Int32)), lpq F_X12_parse_b38 k s38 = some x_38 → ∀ (H : Heap) (locs : List Loc) (ls : Array Slot), va_P (dC, dI) vwCl (wd_X12_parse cI a0 v0_2 v0_3 v0_5 v0_12 v0_13 v0_16 v0_17 v0_21 v0_23 v0_24 v0_25 v0_26 v0_29 v0_30 s38.2.1 v0_1 v0_4 s38.2.2) H → va_D A (wd_X12_parse cI a0 v0_2 v0_3 v0_5 v0_12 v0_13 v0_16 v0_17 v0_21 v0_23 v0_24 v0_25 v0_26 v0_29 v0_30 s38.2.1 v0_1 v0_4 s38.2.2) → va_S A s.heap H locs → lv_has ls 4 [(0, .ref (a0 0)), (1, .int x1), (2, .int s38.1)] → W p l e (headSpec wz_X12_parse rm_X12_parse).room s m [.ref (a0 0)].toArray below meth c H locs 0 0 (MQ below (Q_X12_parse dC dI cI a0 v0_5 v0_12 v0_13 v0_16 v0_17 v0_21 v0_23 v0_29 v0_30 v0_4 u A) [.ref (a0 0)].toArray s 0 0 A) (F0 m 38 ls []) := by
      intro k
      induction k with
      | zero => intro s38 h; exact absurd h lpq_zero
      | succ k ih_38 =>
        intro s38 h H locs ls hP hD hS hl
        obtain ⟨o_38, hF, hO_38⟩ := lpq_succ h
        unfold F_X12_parse_b38 at hF
        refine lv_iload_n hx hb dX12_parse_38 rfl (lv_at hl 2 rfl) ?_
        refine lv_bipush (v := 86) hx hb dX12_parse_39 (by decide) ?_
        refine lv_icmp_ge (tgt := 76) hx hb dX12_parse_41 (by decide) (fun c_10 => ?_) (fun c_10 => ?_)
        · have hF := it_t hF c_10
          obtain rfl := Option.some.inj hF
          obtain rfl := lpq_x hO_38
          have hF := hE_38
          exact j76 v0_2 v0_3 v0_24 v0_25 v0_26 s38.2.1 v0_1 s38.2.2 x1 hF _ _ _ hP hD hS (lv_sub hl [0, 1] rfl)
        · have hF := it_f hF c_10
          refine lv_aload_n hx hb dX12_parse_44 rfl (lv_at hl 0 rfl) ?_
          refine va_get (D := (dC, dI)) (ci := 11) (v := .ref (a0 1)) (C := RX12) (T := TX12) (N := 31) hx hb hta uw_X12 hown hK hP 0 rfl rfl 0 (by decide) (hta _ mA790) (fun _ h9 => h9) rfl dX12_parse_45 ?_
          refine lv_iload_n hx hb dX12_parse_48 rfl (lv_at hl 2 rfl) ?_
          obtain ⟨g_11, hF⟩ := gd_some hF
          refine va_iald hx hb hK hP 1 0 rfl rfl (vpi_in g_11) dX12_parse_49 ?_
          obtain ⟨y_12, ey_12, hF⟩ := lt_some hF
          refine lv_eqi ey_12 ?_
          refine lv_istore_n (lv' := [(3, .int y_12), (0, .ref (a0 0)), (1, .int x1), (2, .int s38.1)]) hx hb dX12_parse_50 rfl hl (by decide) rfl (fun ls hl => ?_)
          refine lv_aload_n hx hb dX12_parse_51 rfl (lv_at hl 1 rfl) ?_
          refine va_get (D := (dC, dI)) (ci := 11) (v := .ref (a0 1)) (C := RX12) (T := TX12) (N := 31) hx hb hta uw_X12 hown hK hP 0 rfl rfl 0 (by decide) (hta _ mA790) (fun _ h9 => h9) rfl dX12_parse_52 ?_
          refine lv_iload_n hx hb dX12_parse_55 rfl (lv_at hl 3 rfl) ?_
          refine lv_aload_n hx hb dX12_parse_56 rfl (lv_at hl 1 rfl) ?_
          refine va_get (D := (dC, dI)) (ci := 11) (v := .ref (a0 28)) (C := RX12) (T := TX12) (N := 31) hx hb hta uw_X12 hown hK hP 0 rfl rfl 27 (by decide) (hta _ mA805) (fun _ h9 => h9) rfl dX12_parse_57 ?_
          refine lv_iload_n hx hb dX12_parse_60 rfl (lv_at hl 3 rfl) ?_
          obtain ⟨g_13, hF⟩ := gd_some hF
          refine va_iald hx hb hK hP 4 0 rfl rfl (vpi_in g_13) dX12_parse_61 ?_
          obtain ⟨y_14, ey_14, hF⟩ := lt_some hF
          refine lv_eqi ey_14 ?_
          obtain ⟨g_15, hF⟩ := gd_some hF
          refine va_iast hx hb hK hP hD hS 1 0 rfl rfl (vpi_in g_15) dX12_parse_62 (fun H locs hP hD hS => ?_)
          obtain ⟨y_16, ey_16, hF⟩ := lt_some hF
          have hP : va_P (dC, dI) vwCl (wd_X12_parse cI a0 v0_2 v0_3 v0_5 v0_12 v0_13 v0_16 v0_17 v0_21 v0_23 v0_24 v0_25 v0_26 v0_29 v0_30 y_16 v0_1 v0_4 s38.2.2) H := by rw [ey_16]; exact hP
          have hD : va_D A (wd_X12_parse cI a0 v0_2 v0_3 v0_5 v0_12 v0_13 v0_16 v0_17 v0_21 v0_23 v0_24 v0_25 v0_26 v0_29 v0_30 y_16 v0_1 v0_4 s38.2.2) := by rw [ey_16]; exact hD
          refine lv_aload_n hx hb dX12_parse_63 rfl (lv_at hl 1 rfl) ?_
          refine va_get (D := (dC, dI)) (ci := 11) (v := .ref (a0 28)) (C := RX12) (T := TX12) (N := 31) hx hb hta uw_X12 hown hK hP 0 rfl rfl 27 (by decide) (hta _ mA805) (fun _ h9 => h9) rfl dX12_parse_64 ?_
          refine lv_iload_n hx hb dX12_parse_67 rfl (lv_at hl 3 rfl) ?_
          refine lv_iload_n hx hb dX12_parse_68 rfl (lv_at hl 0 rfl) ?_
          obtain ⟨g_17, hF⟩ := gd_some hF
          refine va_iast hx hb hK hP hD hS 4 0 rfl rfl (vpi_in g_17) dX12_parse_69 (fun H locs hP hD hS => ?_)
          obtain ⟨y_18, ey_18, hF⟩ := lt_some hF
          have hP : va_P (dC, dI) vwCl (wd_X12_parse cI a0 v0_2 v0_3 v0_5 v0_12 v0_13 v0_16 v0_17 v0_21 v0_23 v0_24 v0_25 v0_26 v0_29 v0_30 y_16 v0_1 v0_4 y_18) H := by rw [ey_18]; exact hP
          have hD : va_D A (wd_X12_parse cI a0 v0_2 v0_3 v0_5 v0_12 v0_13 v0_16 v0_17 v0_21 v0_23 v0_24 v0_25 v0_26 v0_29 v0_30 y_16 v0_1 v0_4 y_18) := by rw [ey_18]; exact hD
          obtain ⟨y_19, ey_19, hF⟩ := lt_some hF
          refine lv_iinc (v := y_19) (lv' := [(2, .int y_19), (3, .int y_12), (0, .ref (a0 0)), (1, .int x1)]) hx hb dX12_parse_70 hl (k := 3) rfl (by rw [ey_19]; rfl) (by decide) rfl (fun ls hl => ?_)
          refine lv_goto (tgt := 38) hx hb dX12_parse_73 (by decide) ?_
          obtain rfl := Option.some.inj hF
          exact ih_38 _ hO_38 _ _ _ hP hD hS (lv_sub hl [2, 3, 0] rfl)
    exact kl_38 n _ hL_38 _ _ _ hP hD hS hl
  have j31 : ∀ (v0_2 : Int32) (v0_3 : Int32) (v0_24 : Int32) (v0_25 : Int32) (v0_26 : Int32) (v0_0 : Nat → Int32) (v0_1 : Nat → Int32) (v0_27 : Nat → Int32), F_X12_parse_j31 n v0_2 v0_3 v0_5 v0_25 v0_26 v0_0 v0_1 v0_4 v0_27 = some u → ∀ (H : Heap) (locs : List Loc) (ls : Array Slot), va_P (dC, dI) vwCl (wd_X12_parse cI a0 v0_2 v0_3 v0_5 v0_12 v0_13 v0_16 v0_17 v0_21 v0_23 v0_24 v0_25 v0_26 v0_29 v0_30 v0_0 v0_1 v0_4 v0_27) H → va_D A (wd_X12_parse cI a0 v0_2 v0_3 v0_5 v0_12 v0_13 v0_16 v0_17 v0_21 v0_23 v0_24 v0_25 v0_26 v0_29 v0_30 v0_0 v0_1 v0_4 v0_27) → va_S A s.heap H locs → lv_has ls 4 [(0, .ref (a0 0))] → W p l e (headSpec wz_X12_parse rm_X12_parse).room s m [.ref (a0 0)].toArray below meth c H locs 0 0 (MQ below (Q_X12_parse dC dI cI a0 v0_5 v0_12 v0_13 v0_16 v0_17 v0_21 v0_23 v0_29 v0_30 v0_4 u A) [.ref (a0 0)].toArray s 0 0 A) (F0 m 31 ls []) := by
    intro v0_2 v0_3 v0_24 v0_25 v0_26 v0_0 v0_1 v0_27 hF H locs ls hP hD hS hl
    unfold F_X12_parse_j31 at hF
    refine lv_aload_n hx hb dX12_parse_31 rfl (lv_at hl 0 rfl) ?_
    obtain ⟨u_20, hu_20, hF⟩ := obd_some hF
    have hPc := hP.sub (ws' := (wd_X12_readsPath cI a0 v0_2 v0_3 v0_5 v0_12 v0_13 v0_16 v0_17 v0_21 v0_23 v0_24 v0_25 v0_26 v0_29 v0_30 v0_0 v0_4)) [0, 1, 3] rfl
    have hDc := hD.sub (ws' := (wd_X12_readsPath cI a0 v0_2 v0_3 v0_5 v0_12 v0_13 v0_16 v0_17 v0_21 v0_23 v0_24 v0_25 v0_26 v0_29 v0_30 v0_0 v0_4)) [0, 1, 3] rfl rfl
    refine q_callz (wc := (wd_X12_readsPath cI a0 v0_2 v0_3 v0_5 v0_12 v0_13 v0_16 v0_17 v0_21 v0_23 v0_24 v0_25 v0_26 v0_29 v0_30 v0_0 v0_4)) (w1 := (wd_X12_readsPath cI a0 v0_2 v0_3 v0_5 v0_12 v0_13 v0_16 v0_17 v0_21 v0_23 u_20.2.1 u_20.2.2.1 u_20.2.2.2.1 v0_29 v0_30 u_20.2.2.2.2 v0_4)) (ws' := (wd_X12_parse cI a0 v0_2 v0_3 v0_5 v0_12 v0_13 v0_16 v0_17 v0_21 v0_23 u_20.2.1 u_20.2.2.1 u_20.2.2.2.1 v0_29 v0_30 u_20.2.2.2.2 v0_1 v0_4 v0_27)) hP hD hS hA [0, 1, 3] [2, 4] [2, 3, 0, 4, 1] rfl rfl rfl (by decide) rfl rfl (va_runV (As := []) (rest := []) ⟨hx, hb, hml, hown, hta⟩ (c_X12_readsPath l dC dI cI H.size a0 v0_2 v0_3 v0_5 v0_12 v0_13 v0_16 v0_17 v0_21 v0_23 v0_24 v0_25 v0_26 v0_29 v0_30 v0_0 v0_4 n u_20 hu_20) (cwV 0 hta (ga_V mA1085 mA1086 mA1087 mA814 mA1080) rfl rfl rfl (by decide +kernel) ⟨Nat.le_of_ble_eq_true rfl, Nat.le_of_ble_eq_true rfl⟩) ⟨q_fb, va_recv hK hP (ci := 11) (q0 := 0) rfl rfl, q_ps hPc hK hDc⟩ rfl rfl hl.1 rfl (lv_room (Nat.le_of_ble_eq_true rfl)) dX12_parse_32 ⟨Nat.zero_le _, Nat.zero_le _⟩) (fun hzu_20 H locs hP hD hS => ?_)
    refine lv_istore_n (lv' := [(1, .int u_20.1), (0, .ref (a0 0))]) hx hb dX12_parse_35 rfl hl (by decide) rfl (fun ls hl => ?_)
    refine lv_iconst (v := 0) hx hb dX12_parse_36 (by decide) ?_
    refine lv_istore_n (lv' := [(2, .int 0), (1, .int u_20.1), (0, .ref (a0 0))]) hx hb dX12_parse_37 rfl hl (by decide) rfl (fun ls hl => ?_)
    exact j38 v0_2 v0_3 u_20.2.1 u_20.2.2.1 u_20.2.2.2.1 u_20.2.2.2.2 v0_1 v0_27 u_20.1 0 hF _ _ _ hP hD hS (lv_sub hl [2, 1, 0] rfl)
  have j7 : ∀ (v0_2 : Int32) (v0_3 : Int32) (v0_24 : Int32) (v0_25 : Int32) (v0_26 : Int32) (v0_0 : Nat → Int32) (v0_1 : Nat → Int32) (v0_27 : Nat → Int32) (x1 : Int32), F_X12_parse_j7 n v0_2 v0_3 v0_5 v0_25 v0_26 v0_0 v0_1 v0_4 v0_27 x1 = some u → ∀ (H : Heap) (locs : List Loc) (ls : Array Slot), va_P (dC, dI) vwCl (wd_X12_parse cI a0 v0_2 v0_3 v0_5 v0_12 v0_13 v0_16 v0_17 v0_21 v0_23 v0_24 v0_25 v0_26 v0_29 v0_30 v0_0 v0_1 v0_4 v0_27) H → va_D A (wd_X12_parse cI a0 v0_2 v0_3 v0_5 v0_12 v0_13 v0_16 v0_17 v0_21 v0_23 v0_24 v0_25 v0_26 v0_29 v0_30 v0_0 v0_1 v0_4 v0_27) → va_S A s.heap H locs → lv_has ls 4 [(0, .ref (a0 0)), (1, .int x1)] → W p l e (headSpec wz_X12_parse rm_X12_parse).room s m [.ref (a0 0)].toArray below meth c H locs 0 0 (MQ below (Q_X12_parse dC dI cI a0 v0_5 v0_12 v0_13 v0_16 v0_17 v0_21 v0_23 v0_29 v0_30 v0_4 u A) [.ref (a0 0)].toArray s 0 0 A) (F0 m 7 ls []) := by
    intro v0_2 v0_3 v0_24 v0_25 v0_26 v0_0 v0_1 v0_27 x1 hF H locs ls hP hD hS hl
    unfold F_X12_parse_j7 at hF
    obtain ⟨x_7, hL_7, hE_7⟩ := obd_some hF
    have kl_7 : ∀ (k : Nat) (s7 : Int32 × (Nat → Int32)), lpq (F_X12_parse_b7 v0_0) k s7 = some x_7 → ∀ (H : Heap) (locs : List Loc) (ls : Array Slot), va_P (dC, dI) vwCl (wd_X12_parse cI a0 v0_2 v0_3 v0_5 v0_12 v0_13 v0_16 v0_17 v0_21 v0_23 v0_24 v0_25 v0_26 v0_29 v0_30 v0_0 v0_1 v0_4 s7.2) H → va_D A (wd_X12_parse cI a0 v0_2 v0_3 v0_5 v0_12 v0_13 v0_16 v0_17 v0_21 v0_23 v0_24 v0_25 v0_26 v0_29 v0_30 v0_0 v0_1 v0_4 s7.2) → va_S A s.heap H locs → lv_has ls 4 [(0, .ref (a0 0)), (1, .int s7.1)] → W p l e (headSpec wz_X12_parse rm_X12_parse).room s m [.ref (a0 0)].toArray below meth c H locs 0 0 (MQ below (Q_X12_parse dC dI cI a0 v0_5 v0_12 v0_13 v0_16 v0_17 v0_21 v0_23 v0_29 v0_30 v0_4 u A) [.ref (a0 0)].toArray s 0 0 A) (F0 m 7 ls []) := by
      intro k
      induction k with
      | zero => intro s7 h; exact absurd h lpq_zero
      | succ k ih_7 =>
        intro s7 h H locs ls hP hD hS hl
        obtain ⟨o_7, hF, hO_7⟩ := lpq_succ h
        unfold F_X12_parse_b7 at hF
        refine lv_iload_n hx hb dX12_parse_7 rfl (lv_at hl 1 rfl) ?_
        refine lv_bipush (v := 86) hx hb dX12_parse_8 (by decide) ?_
        refine lv_icmp_ge (tgt := 31) hx hb dX12_parse_10 (by decide) (fun c_21 => ?_) (fun c_21 => ?_)
        · have hF := it_t hF c_21
          obtain rfl := Option.some.inj hF
          obtain rfl := lpq_x hO_7
          have hF := hE_7
          exact j31 v0_2 v0_3 v0_24 v0_25 v0_26 v0_0 v0_1 s7.2 hF _ _ _ hP hD hS (lv_sub hl [0] rfl)
        · have hF := it_f hF c_21
          refine lv_aload_n hx hb dX12_parse_13 rfl (lv_at hl 0 rfl) ?_
          refine va_get (D := (dC, dI)) (ci := 11) (v := .ref (a0 28)) (C := RX12) (T := TX12) (N := 31) hx hb hta uw_X12 hown hK hP 0 rfl rfl 27 (by decide) (hta _ mA805) (fun _ h9 => h9) rfl dX12_parse_14 ?_
          refine lv_iload_n hx hb dX12_parse_17 rfl (lv_at hl 1 rfl) ?_
          refine lv_aload_n hx hb dX12_parse_18 rfl (lv_at hl 0 rfl) ?_
          refine va_get (D := (dC, dI)) (ci := 11) (v := .ref (a0 1)) (C := RX12) (T := TX12) (N := 31) hx hb hta uw_X12 hown hK hP 0 rfl rfl 0 (by decide) (hta _ mA790) (fun _ h9 => h9) rfl dX12_parse_19 ?_
          refine lv_iload_n hx hb dX12_parse_22 rfl (lv_at hl 1 rfl) ?_
          obtain ⟨g_22, hF⟩ := gd_some hF
          refine va_iald hx hb hK hP 1 0 rfl rfl (vpi_in g_22) dX12_parse_23 ?_
          obtain ⟨y_23, ey_23, hF⟩ := lt_some hF
          refine lv_eqi ey_23 ?_
          obtain ⟨g_24, hF⟩ := gd_some hF
          refine va_iast hx hb hK hP hD hS 4 0 rfl rfl (vpi_in g_24) dX12_parse_24 (fun H locs hP hD hS => ?_)
          obtain ⟨y_25, ey_25, hF⟩ := lt_some hF
          have hP : va_P (dC, dI) vwCl (wd_X12_parse cI a0 v0_2 v0_3 v0_5 v0_12 v0_13 v0_16 v0_17 v0_21 v0_23 v0_24 v0_25 v0_26 v0_29 v0_30 v0_0 v0_1 v0_4 y_25) H := by rw [ey_25]; exact hP
          have hD : va_D A (wd_X12_parse cI a0 v0_2 v0_3 v0_5 v0_12 v0_13 v0_16 v0_17 v0_21 v0_23 v0_24 v0_25 v0_26 v0_29 v0_30 v0_0 v0_1 v0_4 y_25) := by rw [ey_25]; exact hD
          obtain ⟨y_26, ey_26, hF⟩ := lt_some hF
          refine lv_iinc (v := y_26) (lv' := [(1, .int y_26), (0, .ref (a0 0))]) hx hb dX12_parse_25 hl (k := 1) rfl (by rw [ey_26]; rfl) (by decide) rfl (fun ls hl => ?_)
          refine lv_goto (tgt := 7) hx hb dX12_parse_28 (by decide) ?_
          obtain rfl := Option.some.inj hF
          exact ih_7 _ hO_7 _ _ _ hP hD hS (lv_sub hl [1, 0] rfl)
    exact kl_7 n _ hL_7 _ _ _ hP hD hS hl
  refine lv_aload_n hx hb dX12_parse_0 rfl (lv_at hl 0 rfl) ?_
  refine lv_iconst (v := 0) hx hb dX12_parse_1 (by decide) ?_
  refine va_put (D := (dC, dI)) (ci := 11) (v := .int 0) (ty := .int) (C := RX12) (T := TX12) (N := 31) hx hb hta uw_X12 tyX12 tyX12_ok nmX12 hown hK hP hD hS 0 rfl rfl 3 (by decide) (hta _ mA808) (fun _ h9 => h9) rfl (by decide +kernel) rfl rfl (Nat.le_of_ble_eq_true rfl) dX12_parse_2 (fun H locs hP hD hS => ?_)
  have hP : va_P (dC, dI) vwCl (wd_X12_parse cI a0 v0_2 0 v0_5 v0_12 v0_13 v0_16 v0_17 v0_21 v0_23 v0_24 v0_25 v0_26 v0_29 v0_30 v0_0 v0_1 v0_4 v0_27) H := hP
  have hD : va_D A (wd_X12_parse cI a0 v0_2 0 v0_5 v0_12 v0_13 v0_16 v0_17 v0_21 v0_23 v0_24 v0_25 v0_26 v0_29 v0_30 v0_0 v0_1 v0_4 v0_27) := hD
  refine lv_iconst (v := 0) hx hb dX12_parse_5 (by decide) ?_
  refine lv_istore_n (lv' := [(1, .int 0), (0, .ref (a0 0))]) hx hb dX12_parse_6 rfl hl (by decide) rfl (fun ls hl => ?_)
  exact j7 v0_2 0 v0_24 v0_25 v0_26 v0_0 v0_1 v0_27 0 hF _ _ _ hP hD hS (lv_sub hl [1, 0] rfl)

-- StrokeOutlinerModel.writes(I)V
def F_X12_writes (v0_29 : Int32) (v0_28 : Nat → Int32) (p1 : Int32) : Option (Int32 × (Nat → Int32)) :=
  gd (decide (vpi v0_29 400)) (lt (upd v0_28 v0_29.toNatClampNeg p1) (fun y_2 => lt (v0_29 + 1) (fun y_3 => some (y_3, y_2))))
abbrev wd_X12_writes (cI : ClassId) (a0 : Nat → Nat) (v0_2 : Int32) (v0_3 : Int32) (v0_5 : Int32) (v0_12 : Int32) (v0_13 : Int32) (v0_16 : Int32) (v0_17 : Int32) (v0_21 : Int32) (v0_23 : Int32) (v0_24 : Int32) (v0_25 : Int32) (v0_26 : Int32) (v0_29 : Int32) (v0_30 : Int64) (v0_28 : Nat → Int32) : va_W := [(a0 0, .inr (11, [.ref (a0 1), .ref (a0 2), .int v0_2, .int v0_3, .ref (a0 5), .int v0_5, .ref (a0 7), .ref (a0 8), .ref (a0 9), .ref (a0 10), .ref (a0 11), .ref (a0 12), .int v0_12, .int v0_13, .ref (a0 15), .ref (a0 16), .int v0_16, .int v0_17, .ref (a0 19), .ref (a0 20), .ref (a0 21), .int v0_21, .ref (a0 23), .int v0_23, .int v0_24, .int v0_25, .int v0_26, .ref (a0 28), .ref (a0 29), .int v0_29, .long v0_30])), (a0 29, .inl (cI, 400, .inl v0_28))]
abbrev wz_X12_writes : List Cond := .code yX12_writes cX12_writes 2 none :: wALL
abbrev rm_X12_writes : Room := { frames := 0, cells := 0, slots := 0, locals := 0 }
abbrev Q_X12_writes (dC : Nat → ClassId) (dI : Nat → Nat → Nat) (cI : ClassId) (a0 : Nat → Nat) (v0_2 : Int32) (v0_3 : Int32) (v0_5 : Int32) (v0_12 : Int32) (v0_13 : Int32) (v0_16 : Int32) (v0_17 : Int32) (v0_21 : Int32) (v0_23 : Int32) (v0_24 : Int32) (v0_25 : Int32) (v0_26 : Int32) (v0_30 : Int64) (u : (Int32 × (Nat → Int32))) (A : Nat → Prop) : Array Value → State → Outcome → State → Prop := va_Qv (fun (_ : Unit) => True) (fun _ => q_at dC dI cI A (wd_X12_writes cI a0 v0_2 v0_3 v0_5 v0_12 v0_13 v0_16 v0_17 v0_21 v0_23 v0_24 v0_25 v0_26 u.1 v0_30 u.2)) A
set_option maxHeartbeats 4000000 in
set_option maxRecDepth 100000 in
theorem c_X12_writes (l : Launch) (dC : Nat → ClassId) (dI : Nat → Nat → Nat) (cI : ClassId) (sz : Nat) (a0 : Nat → Nat) (v0_2 : Int32) (v0_3 : Int32) (v0_5 : Int32) (v0_12 : Int32) (v0_13 : Int32) (v0_16 : Int32) (v0_17 : Int32) (v0_21 : Int32) (v0_23 : Int32) (v0_24 : Int32) (v0_25 : Int32) (v0_26 : Int32) (v0_29 : Int32) (v0_30 : Int64) (v0_28 : Nat → Int32) (p1 : Int32) (u : (Int32 × (Nat → Int32))) (hF : F_X12_writes v0_29 v0_28 p1 = some u) : Met l yX12_writes wz_X12_writes rm_X12_writes (va_Pc [.ref (a0 0), .int p1] (q_pre dC dI cI (wd_X12_writes cI a0 v0_2 v0_3 v0_5 v0_12 v0_13 v0_16 v0_17 v0_21 v0_23 v0_24 v0_25 v0_26 v0_29 v0_30 v0_28) sz)) (Q_X12_writes dC dI cI a0 v0_2 v0_3 v0_5 v0_12 v0_13 v0_16 v0_17 v0_21 v0_23 v0_24 v0_25 v0_26 v0_30 u (va_A (wd_X12_writes cI a0 v0_2 v0_3 v0_5 v0_12 v0_13 v0_16 v0_17 v0_21 v0_23 v0_24 v0_25 v0_26 v0_29 v0_30 v0_28) sz)) 0 0 (va_A (wd_X12_writes cI a0 v0_2 v0_3 v0_5 v0_12 v0_13 v0_16 v0_17 v0_21 v0_23 v0_24 v0_25 v0_26 v0_29 v0_30 v0_28) sz) := by
  refine Met.ofW (cc := cX12_writes) (maxL := 2) (ret := none) (by decide) rfl ?_
  intro p e s m args below meth c s₁ B hml hv
  obtain ⟨rfl, hsz, hP, hK, hD0⟩ := hv
  have hx := B.exec
  have hb := B.bytes
  have hr := B.returns
  have hts := atoms_spec (ws := wz_X12_writes) B.pre
  have hta := wz_tl hts
  have hown : s.vm.findClass RX12 = some m.cls := findClass_of_methodNamed B.named
  have hlocks := B.notSynchronized
  subst hsz
  have hD := hD0.self (sz := s.heap.size)
  generalize hAe : va_A (wd_X12_writes cI a0 v0_2 v0_3 v0_5 v0_12 v0_13 v0_16 v0_17 v0_21 v0_23 v0_24 v0_25 v0_26 v0_29 v0_30 v0_28) s.heap.size = A at hD ⊢
  have hA : ∀ q : Nat, s.heap.size ≤ q → A q := fun q h => by rw [← hAe]; exact Or.inr h
  have hS : va_S A s.heap s.heap [] := va_S.rf
  have hP : va_P (dC, dI) vwCl (wd_X12_writes cI a0 v0_2 v0_3 v0_5 v0_12 v0_13 v0_16 v0_17 v0_21 v0_23 v0_24 v0_25 v0_26 v0_29 v0_30 v0_28) s.heap := hP
  have hl := lv_entry ([.ref (a0 0), .int p1]) (n := 2) (Nat.le_of_ble_eq_true rfl)
  rw [lg_entry_eq]
  generalize (lg_sl ([.ref (a0 0), .int p1]) ++ List.replicate (2 - (lg_sl ([.ref (a0 0), .int p1])).length) Slot.unset).toArray = ls at hl ⊢
  have hl : lv_has ls 2 [(0, .ref (a0 0)), (1, .int p1)] := hl
  obtain ⟨H, hHe⟩ : ∃ H, H = s.heap := ⟨_, rfl⟩
  have hS : va_S A s.heap H [] := by rw [hHe]; exact hS
  have hP : va_P (dC, dI) vwCl (wd_X12_writes cI a0 v0_2 v0_3 v0_5 v0_12 v0_13 v0_16 v0_17 v0_21 v0_23 v0_24 v0_25 v0_26 v0_29 v0_30 v0_28) H := by rw [hHe]; exact hP
  rw [← hHe]
  unfold F_X12_writes at hF
  refine lv_aload_n hx hb dX12_writes_0 rfl (lv_at hl 0 rfl) ?_
  refine va_get (D := (dC, dI)) (ci := 11) (v := .ref (a0 29)) (C := RX12) (T := TX12) (N := 31) hx hb hta uw_X12 hown hK hP 0 rfl rfl 28 (by decide) (hta _ mA806) (fun _ h9 => h9) rfl dX12_writes_1 ?_
  refine lv_aload_n hx hb dX12_writes_4 rfl (lv_at hl 0 rfl) ?_
  refine va_get (D := (dC, dI)) (ci := 11) (v := .int v0_29) (C := RX12) (T := TX12) (N := 31) hx hb hta uw_X12 hown hK hP 0 rfl rfl 29 (by decide) (hta _ mA1089) (fun _ h9 => h9) rfl dX12_writes_5 ?_
  refine lv_iload_n hx hb dX12_writes_8 rfl (lv_at hl 1 rfl) ?_
  obtain ⟨g_1, hF⟩ := gd_some hF
  refine va_iast hx hb hK hP hD hS 1 0 rfl rfl (vpi_in g_1) dX12_writes_9 (fun H locs hP hD hS => ?_)
  obtain ⟨y_2, ey_2, hF⟩ := lt_some hF
  have hP : va_P (dC, dI) vwCl (wd_X12_writes cI a0 v0_2 v0_3 v0_5 v0_12 v0_13 v0_16 v0_17 v0_21 v0_23 v0_24 v0_25 v0_26 v0_29 v0_30 y_2) H := by rw [ey_2]; exact hP
  have hD : va_D A (wd_X12_writes cI a0 v0_2 v0_3 v0_5 v0_12 v0_13 v0_16 v0_17 v0_21 v0_23 v0_24 v0_25 v0_26 v0_29 v0_30 y_2) := by rw [ey_2]; exact hD
  refine lv_aload_n hx hb dX12_writes_10 rfl (lv_at hl 0 rfl) ?_
  refine lv_dup hx hb dX12_writes_11 rfl ?_
  refine va_get (D := (dC, dI)) (ci := 11) (v := .int v0_29) (C := RX12) (T := TX12) (N := 31) hx hb hta uw_X12 hown hK hP 0 rfl rfl 29 (by decide) (hta _ mA1089) (fun _ h9 => h9) rfl dX12_writes_12 ?_
  refine lv_iconst (v := 1) hx hb dX12_writes_15 (by decide) ?_
  refine lv_iadd hx hb dX12_writes_16 ?_
  obtain ⟨y_3, ey_3, hF⟩ := lt_some hF
  refine lv_eqi ey_3 ?_
  refine va_put (D := (dC, dI)) (ci := 11) (v := .int y_3) (ty := .int) (C := RX12) (T := TX12) (N := 31) hx hb hta uw_X12 tyX12 tyX12_ok nmX12 hown hK hP hD hS 0 rfl rfl 29 (by decide) (hta _ mA1089) (fun _ h9 => h9) rfl (by decide +kernel) rfl rfl (Nat.le_of_ble_eq_true rfl) dX12_writes_17 (fun H locs hP hD hS => ?_)
  have hP : va_P (dC, dI) vwCl (wd_X12_writes cI a0 v0_2 v0_3 v0_5 v0_12 v0_13 v0_16 v0_17 v0_21 v0_23 v0_24 v0_25 v0_26 y_3 v0_30 y_2) H := hP
  have hD : va_D A (wd_X12_writes cI a0 v0_2 v0_3 v0_5 v0_12 v0_13 v0_16 v0_17 v0_21 v0_23 v0_24 v0_25 v0_26 y_3 v0_30 y_2) := hD
  obtain rfl := Option.some.inj hF
  exact W.vret hx hb hr (fun t ht hW => ⟨⟨(), rfl, trivial, by rw [ht]; exact hP, va_K.moved hW.alike hK, hD⟩, hS.F ht⟩) hS.2.2 dX12_writes_20

-- StrokeOutlinerModel.writesNumber(I)V
def F_X12_writesNumber_j51 (v0_29 : Int32) (v0_28 : Nat → Int32) (x3 : Int32) : Option (Sum (Int32 × Int32 × (Nat → Int32)) (Int32 × (Nat → Int32))) :=
  lt (x3 / 10) (fun y_1 => some (.inl (y_1, v0_29, v0_28)))
def F_X12_writesNumber_j38 (v0_29 : Int32) (v0_28 : Nat → Int32) (x2 : Int32) (x3 : Int32) : Option (Sum (Int32 × Int32 × (Nat → Int32)) (Int32 × (Nat → Int32))) :=
  gd (decide (¬ (x3 : Int32) = 0)) (lt (x2 / x3) (fun y_3 => obd (F_X12_writes v0_29 v0_28 (48 + (y_3 - y_3 / 10 * 10))) (fun u_4 => F_X12_writesNumber_j51 u_4.1 u_4.2 x3)))
def F_X12_writesNumber_b24 (x2 : Int32) (s24 : Int32 × Int32 × (Nat → Int32)) : Option (Sum (Int32 × Int32 × (Nat → Int32)) (Int32 × (Nat → Int32))) :=
  if s24.1 ≤ 0 then some (.inr (s24.2.1, s24.2.2)) else if s24.1 ≤ x2 then F_X12_writesNumber_j38 s24.2.1 s24.2.2 x2 s24.1 else if s24.1 = 1 then F_X12_writesNumber_j38 s24.2.1 s24.2.2 x2 s24.1 else F_X12_writesNumber_j51 s24.2.1 s24.2.2 s24.1
def F_X12_writesNumber_j24 (n : Nat) (v0_29 : Int32) (v0_28 : Nat → Int32) (x2 : Int32) (x3 : Int32) : Option (Int32 × (Nat → Int32)) :=
  obd (lpq (F_X12_writesNumber_b24 x2) n (x3, v0_29, v0_28)) (fun x_24 => some (x_24.1, x_24.2))
def F_X12_writesNumber_j21 (n : Nat) (v0_29 : Int32) (v0_28 : Nat → Int32) (x2 : Int32) : Option (Int32 × (Nat → Int32)) :=
  F_X12_writesNumber_j24 n v0_29 v0_28 x2 100
def F_X12_writesNumber_j10 (n : Nat) (v0_29 : Int32) (v0_28 : Nat → Int32) (x1 : Int32) (t0 : Int32) : Option (Int32 × (Nat → Int32)) :=
  if 0 ≤ x1 then F_X12_writesNumber_j21 n v0_29 v0_28 t0 else obd (F_X12_writes v0_29 v0_28 45) (fun u_9 => F_X12_writesNumber_j21 n u_9.1 u_9.2 t0)
def F_X12_writesNumber (n : Nat) (v0_29 : Int32) (v0_28 : Nat → Int32) (p1 : Int32) : Option (Int32 × (Nat → Int32)) :=
  if 0 ≤ p1 then F_X12_writesNumber_j10 n v0_29 v0_28 p1 p1 else F_X12_writesNumber_j10 n v0_29 v0_28 p1 (-p1)
abbrev wd_X12_writesNumber (cI : ClassId) (a0 : Nat → Nat) (v0_2 : Int32) (v0_3 : Int32) (v0_5 : Int32) (v0_12 : Int32) (v0_13 : Int32) (v0_16 : Int32) (v0_17 : Int32) (v0_21 : Int32) (v0_23 : Int32) (v0_24 : Int32) (v0_25 : Int32) (v0_26 : Int32) (v0_29 : Int32) (v0_30 : Int64) (v0_28 : Nat → Int32) : va_W := [(a0 0, .inr (11, [.ref (a0 1), .ref (a0 2), .int v0_2, .int v0_3, .ref (a0 5), .int v0_5, .ref (a0 7), .ref (a0 8), .ref (a0 9), .ref (a0 10), .ref (a0 11), .ref (a0 12), .int v0_12, .int v0_13, .ref (a0 15), .ref (a0 16), .int v0_16, .int v0_17, .ref (a0 19), .ref (a0 20), .ref (a0 21), .int v0_21, .ref (a0 23), .int v0_23, .int v0_24, .int v0_25, .int v0_26, .ref (a0 28), .ref (a0 29), .int v0_29, .long v0_30])), (a0 29, .inl (cI, 400, .inl v0_28))]
abbrev wz_X12_writesNumber : List Cond := .code yX12_writesNumber cX12_writesNumber 4 none :: wALL
abbrev rm_X12_writesNumber : Room := { frames := 1, cells := 0, slots := 0, locals := 21 }
abbrev Q_X12_writesNumber (dC : Nat → ClassId) (dI : Nat → Nat → Nat) (cI : ClassId) (a0 : Nat → Nat) (v0_2 : Int32) (v0_3 : Int32) (v0_5 : Int32) (v0_12 : Int32) (v0_13 : Int32) (v0_16 : Int32) (v0_17 : Int32) (v0_21 : Int32) (v0_23 : Int32) (v0_24 : Int32) (v0_25 : Int32) (v0_26 : Int32) (v0_30 : Int64) (u : (Int32 × (Nat → Int32))) (A : Nat → Prop) : Array Value → State → Outcome → State → Prop := va_Qv (fun (_ : Unit) => True) (fun _ => q_at dC dI cI A (wd_X12_writesNumber cI a0 v0_2 v0_3 v0_5 v0_12 v0_13 v0_16 v0_17 v0_21 v0_23 v0_24 v0_25 v0_26 u.1 v0_30 u.2)) A
set_option maxHeartbeats 4000000 in
set_option maxRecDepth 100000 in
theorem c_X12_writesNumber (l : Launch) (dC : Nat → ClassId) (dI : Nat → Nat → Nat) (cI : ClassId) (sz : Nat) (a0 : Nat → Nat) (v0_2 : Int32) (v0_3 : Int32) (v0_5 : Int32) (v0_12 : Int32) (v0_13 : Int32) (v0_16 : Int32) (v0_17 : Int32) (v0_21 : Int32) (v0_23 : Int32) (v0_24 : Int32) (v0_25 : Int32) (v0_26 : Int32) (v0_29 : Int32) (v0_30 : Int64) (v0_28 : Nat → Int32) (p1 : Int32) (n : Nat) (u : (Int32 × (Nat → Int32))) (hF : F_X12_writesNumber n v0_29 v0_28 p1 = some u) : Met l yX12_writesNumber wz_X12_writesNumber rm_X12_writesNumber (va_Pc [.ref (a0 0), .int p1] (q_pre dC dI cI (wd_X12_writesNumber cI a0 v0_2 v0_3 v0_5 v0_12 v0_13 v0_16 v0_17 v0_21 v0_23 v0_24 v0_25 v0_26 v0_29 v0_30 v0_28) sz)) (Q_X12_writesNumber dC dI cI a0 v0_2 v0_3 v0_5 v0_12 v0_13 v0_16 v0_17 v0_21 v0_23 v0_24 v0_25 v0_26 v0_30 u (va_A (wd_X12_writesNumber cI a0 v0_2 v0_3 v0_5 v0_12 v0_13 v0_16 v0_17 v0_21 v0_23 v0_24 v0_25 v0_26 v0_29 v0_30 v0_28) sz)) 0 0 (va_A (wd_X12_writesNumber cI a0 v0_2 v0_3 v0_5 v0_12 v0_13 v0_16 v0_17 v0_21 v0_23 v0_24 v0_25 v0_26 v0_29 v0_30 v0_28) sz) := by
  refine Met.ofW (cc := cX12_writesNumber) (maxL := 4) (ret := none) (by decide) rfl ?_
  intro p e s m args below meth c s₁ B hml hv
  obtain ⟨rfl, hsz, hP, hK, hD0⟩ := hv
  have hx := B.exec
  have hb := B.bytes
  have hr := B.returns
  have hts := atoms_spec (ws := wz_X12_writesNumber) B.pre
  have hta := wz_tl hts
  have hown : s.vm.findClass RX12 = some m.cls := findClass_of_methodNamed B.named
  have hlocks := B.notSynchronized
  subst hsz
  have hD := hD0.self (sz := s.heap.size)
  generalize hAe : va_A (wd_X12_writesNumber cI a0 v0_2 v0_3 v0_5 v0_12 v0_13 v0_16 v0_17 v0_21 v0_23 v0_24 v0_25 v0_26 v0_29 v0_30 v0_28) s.heap.size = A at hD ⊢
  have hA : ∀ q : Nat, s.heap.size ≤ q → A q := fun q h => by rw [← hAe]; exact Or.inr h
  have hS : va_S A s.heap s.heap [] := va_S.rf
  have hP : va_P (dC, dI) vwCl (wd_X12_writesNumber cI a0 v0_2 v0_3 v0_5 v0_12 v0_13 v0_16 v0_17 v0_21 v0_23 v0_24 v0_25 v0_26 v0_29 v0_30 v0_28) s.heap := hP
  have hl := lv_entry ([.ref (a0 0), .int p1]) (n := 4) (Nat.le_of_ble_eq_true rfl)
  rw [lg_entry_eq]
  generalize (lg_sl ([.ref (a0 0), .int p1]) ++ List.replicate (4 - (lg_sl ([.ref (a0 0), .int p1])).length) Slot.unset).toArray = ls at hl ⊢
  have hl : lv_has ls 4 [(0, .ref (a0 0)), (1, .int p1)] := hl
  obtain ⟨H, hHe⟩ : ∃ H, H = s.heap := ⟨_, rfl⟩
  have hS : va_S A s.heap H [] := by rw [hHe]; exact hS
  have hP : va_P (dC, dI) vwCl (wd_X12_writesNumber cI a0 v0_2 v0_3 v0_5 v0_12 v0_13 v0_16 v0_17 v0_21 v0_23 v0_24 v0_25 v0_26 v0_29 v0_30 v0_28) H := by rw [hHe]; exact hP
  rw [← hHe]
  unfold F_X12_writesNumber at hF
  have j24 : ∀ (v0_29 : Int32) (v0_28 : Nat → Int32) (x2 : Int32) (x3 : Int32), F_X12_writesNumber_j24 n v0_29 v0_28 x2 x3 = some u → ∀ (H : Heap) (locs : List Loc) (ls : Array Slot), va_P (dC, dI) vwCl (wd_X12_writesNumber cI a0 v0_2 v0_3 v0_5 v0_12 v0_13 v0_16 v0_17 v0_21 v0_23 v0_24 v0_25 v0_26 v0_29 v0_30 v0_28) H → va_D A (wd_X12_writesNumber cI a0 v0_2 v0_3 v0_5 v0_12 v0_13 v0_16 v0_17 v0_21 v0_23 v0_24 v0_25 v0_26 v0_29 v0_30 v0_28) → va_S A s.heap H locs → lv_has ls 4 [(0, .ref (a0 0)), (2, .int x2), (3, .int x3)] → W p l e (headSpec wz_X12_writesNumber rm_X12_writesNumber).room s m [.ref (a0 0), .int p1].toArray below meth c H locs 0 0 (MQ below (Q_X12_writesNumber dC dI cI a0 v0_2 v0_3 v0_5 v0_12 v0_13 v0_16 v0_17 v0_21 v0_23 v0_24 v0_25 v0_26 v0_30 u A) [.ref (a0 0), .int p1].toArray s 0 0 A) (F0 m 24 ls []) := by
    intro v0_29 v0_28 x2 x3 hF H locs ls hP hD hS hl
    unfold F_X12_writesNumber_j24 at hF
    obtain ⟨x_24, hL_24, hE_24⟩ := obd_some hF
    have kl_24 : ∀ (k : Nat) (s24 : Int32 × Int32 × (Nat → Int32)), lpq (F_X12_writesNumber_b24 x2) k s24 = some x_24 → ∀ (H : Heap) (locs : List Loc) (ls : Array Slot), va_P (dC, dI) vwCl (wd_X12_writesNumber cI a0 v0_2 v0_3 v0_5 v0_12 v0_13 v0_16 v0_17 v0_21 v0_23 v0_24 v0_25 v0_26 s24.2.1 v0_30 s24.2.2) H → va_D A (wd_X12_writesNumber cI a0 v0_2 v0_3 v0_5 v0_12 v0_13 v0_16 v0_17 v0_21 v0_23 v0_24 v0_25 v0_26 s24.2.1 v0_30 s24.2.2) → va_S A s.heap H locs → lv_has ls 4 [(0, .ref (a0 0)), (2, .int x2), (3, .int s24.1)] → W p l e (headSpec wz_X12_writesNumber rm_X12_writesNumber).room s m [.ref (a0 0), .int p1].toArray below meth c H locs 0 0 (MQ below (Q_X12_writesNumber dC dI cI a0 v0_2 v0_3 v0_5 v0_12 v0_13 v0_16 v0_17 v0_21 v0_23 v0_24 v0_25 v0_26 v0_30 u A) [.ref (a0 0), .int p1].toArray s 0 0 A) (F0 m 24 ls []) := by
      intro k
      induction k with
      | zero => intro s24 h; exact absurd h lpq_zero
      | succ k ih_24 =>
        intro s24 h H locs ls hP hD hS hl
        obtain ⟨o_24, hF, hO_24⟩ := lpq_succ h
        unfold F_X12_writesNumber_b24 at hF
        have j51 : ∀ (v0_29 : Int32) (v0_28 : Nat → Int32) (x3 : Int32), F_X12_writesNumber_j51 v0_29 v0_28 x3 = some o_24 → ∀ (H : Heap) (locs : List Loc) (ls : Array Slot), va_P (dC, dI) vwCl (wd_X12_writesNumber cI a0 v0_2 v0_3 v0_5 v0_12 v0_13 v0_16 v0_17 v0_21 v0_23 v0_24 v0_25 v0_26 v0_29 v0_30 v0_28) H → va_D A (wd_X12_writesNumber cI a0 v0_2 v0_3 v0_5 v0_12 v0_13 v0_16 v0_17 v0_21 v0_23 v0_24 v0_25 v0_26 v0_29 v0_30 v0_28) → va_S A s.heap H locs → lv_has ls 4 [(0, .ref (a0 0)), (2, .int x2), (3, .int x3)] → W p l e (headSpec wz_X12_writesNumber rm_X12_writesNumber).room s m [.ref (a0 0), .int p1].toArray below meth c H locs 0 0 (MQ below (Q_X12_writesNumber dC dI cI a0 v0_2 v0_3 v0_5 v0_12 v0_13 v0_16 v0_17 v0_21 v0_23 v0_24 v0_25 v0_26 v0_30 u A) [.ref (a0 0), .int p1].toArray s 0 0 A) (F0 m 51 ls []) := by
          intro v0_29 v0_28 x3 hF H locs ls hP hD hS hl
          unfold F_X12_writesNumber_j51 at hF
          refine lv_iload_n hx hb dX12_writesNumber_51 rfl (lv_at hl 2 rfl) ?_
          refine lv_bipush (v := 10) hx hb dX12_writesNumber_52 (by decide) ?_
          refine lv_idiv hx hb dX12_writesNumber_54 (by decide) ?_
          obtain ⟨y_1, ey_1, hF⟩ := lt_some hF
          refine lv_eqi ey_1 ?_
          refine lv_istore_n (lv' := [(3, .int y_1), (0, .ref (a0 0)), (2, .int x2)]) hx hb dX12_writesNumber_55 rfl hl (by decide) rfl (fun ls hl => ?_)
          refine lv_goto (tgt := 24) hx hb dX12_writesNumber_56 (by decide) ?_
          obtain rfl := Option.some.inj hF
          exact ih_24 _ hO_24 _ _ _ hP hD hS (lv_sub hl [1, 2, 0] rfl)
        have j38 : ∀ (v0_29 : Int32) (v0_28 : Nat → Int32) (x3 : Int32), F_X12_writesNumber_j38 v0_29 v0_28 x2 x3 = some o_24 → ∀ (H : Heap) (locs : List Loc) (ls : Array Slot), va_P (dC, dI) vwCl (wd_X12_writesNumber cI a0 v0_2 v0_3 v0_5 v0_12 v0_13 v0_16 v0_17 v0_21 v0_23 v0_24 v0_25 v0_26 v0_29 v0_30 v0_28) H → va_D A (wd_X12_writesNumber cI a0 v0_2 v0_3 v0_5 v0_12 v0_13 v0_16 v0_17 v0_21 v0_23 v0_24 v0_25 v0_26 v0_29 v0_30 v0_28) → va_S A s.heap H locs → lv_has ls 4 [(0, .ref (a0 0)), (2, .int x2), (3, .int x3)] → W p l e (headSpec wz_X12_writesNumber rm_X12_writesNumber).room s m [.ref (a0 0), .int p1].toArray below meth c H locs 0 0 (MQ below (Q_X12_writesNumber dC dI cI a0 v0_2 v0_3 v0_5 v0_12 v0_13 v0_16 v0_17 v0_21 v0_23 v0_24 v0_25 v0_26 v0_30 u A) [.ref (a0 0), .int p1].toArray s 0 0 A) (F0 m 38 ls []) := by
          intro v0_29 v0_28 x3 hF H locs ls hP hD hS hl
          unfold F_X12_writesNumber_j38 at hF
          refine lv_aload_n hx hb dX12_writesNumber_38 rfl (lv_at hl 0 rfl) ?_
          refine lv_bipush (v := 48) hx hb dX12_writesNumber_39 (by decide) ?_
          refine lv_iload_n hx hb dX12_writesNumber_41 rfl (lv_at hl 1 rfl) ?_
          refine lv_iload_n hx hb dX12_writesNumber_42 rfl (lv_at hl 2 rfl) ?_
          obtain ⟨g_2, hF⟩ := gd_some hF
          refine lv_idiv hx hb dX12_writesNumber_43 g_2 ?_
          refine lv_bipush (v := 10) hx hb dX12_writesNumber_44 (by decide) ?_
          obtain ⟨y_3, ey_3, hF⟩ := lt_some hF
          refine lv_eq2i ey_3 ?_
          refine lv_irem hx hb dX12_writesNumber_46 (by decide) ?_
          refine lv_iadd hx hb dX12_writesNumber_47 ?_
          obtain ⟨u_4, hu_4, hF⟩ := obd_some hF
          have hPc := hP.sub (ws' := (wd_X12_writes cI a0 v0_2 v0_3 v0_5 v0_12 v0_13 v0_16 v0_17 v0_21 v0_23 v0_24 v0_25 v0_26 v0_29 v0_30 v0_28)) [0, 1] rfl
          have hDc := hD.sub (ws' := (wd_X12_writes cI a0 v0_2 v0_3 v0_5 v0_12 v0_13 v0_16 v0_17 v0_21 v0_23 v0_24 v0_25 v0_26 v0_29 v0_30 v0_28)) [0, 1] rfl rfl
          refine q_callv (wc := (wd_X12_writes cI a0 v0_2 v0_3 v0_5 v0_12 v0_13 v0_16 v0_17 v0_21 v0_23 v0_24 v0_25 v0_26 v0_29 v0_30 v0_28)) (w1 := (wd_X12_writes cI a0 v0_2 v0_3 v0_5 v0_12 v0_13 v0_16 v0_17 v0_21 v0_23 v0_24 v0_25 v0_26 u_4.1 v0_30 u_4.2)) (ws' := (wd_X12_writesNumber cI a0 v0_2 v0_3 v0_5 v0_12 v0_13 v0_16 v0_17 v0_21 v0_23 v0_24 v0_25 v0_26 u_4.1 v0_30 u_4.2)) hP hD hS hA [0, 1] [] [0, 1] rfl rfl rfl (by decide) rfl rfl (va_runV (As := [.int (48 + (y_3 - y_3 / 10 * 10))]) (rest := []) ⟨hx, hb, hml, hown, hta⟩ (c_X12_writes l dC dI cI H.size a0 v0_2 v0_3 v0_5 v0_12 v0_13 v0_16 v0_17 v0_21 v0_23 v0_24 v0_25 v0_26 v0_29 v0_30 v0_28 (48 + (y_3 - y_3 / 10 * 10)) u_4 hu_4) (cwV 1 hta (ga_V mA1091 mA1092 mA1093 mA814 mA1088) rfl rfl rfl (by decide +kernel) ⟨Nat.le_of_ble_eq_true rfl, Nat.le_of_ble_eq_true rfl⟩) ⟨q_fb, va_recv hK hP (ci := 11) (q0 := 0) rfl rfl, q_ps hPc hK hDc⟩ rfl rfl hl.1 rfl (lv_room (Nat.le_of_ble_eq_true rfl)) dX12_writesNumber_48 ⟨Nat.zero_le _, Nat.zero_le _⟩) (fun H locs hP hD hS => ?_)
          exact j51 u_4.1 u_4.2 x3 hF _ _ _ hP hD hS (lv_sub hl [0, 1, 2] rfl)
        refine lv_iload_n hx hb dX12_writesNumber_24 rfl (lv_at hl 2 rfl) ?_
        refine lv_if_le (tgt := 59) hx hb dX12_writesNumber_25 (by decide) (fun c_5 => ?_) (fun c_5 => ?_)
        · have hF := it_t hF c_5
          obtain rfl := Option.some.inj hF
          obtain rfl := lpq_x hO_24
          have hF := hE_24
          obtain rfl := Option.some.inj hF
          exact W.vret hx hb hr (fun t ht hW => ⟨⟨(), rfl, trivial, by rw [ht]; exact hP, va_K.moved hW.alike hK, hD⟩, hS.F ht⟩) hS.2.2 dX12_writesNumber_59
        · have hF := it_f hF c_5
          refine lv_iload_n hx hb dX12_writesNumber_28 rfl (lv_at hl 1 rfl) ?_
          refine lv_iload_n hx hb dX12_writesNumber_29 rfl (lv_at hl 2 rfl) ?_
          refine lv_icmp_ge (tgt := 38) hx hb dX12_writesNumber_30 (by decide) (fun c_6 => ?_) (fun c_6 => ?_)
          · have hF := it_t hF c_6
            exact j38 s24.2.1 s24.2.2 s24.1 hF _ _ _ hP hD hS (lv_sub hl [0, 1, 2] rfl)
          · have hF := it_f hF c_6
            refine lv_iload_n hx hb dX12_writesNumber_33 rfl (lv_at hl 2 rfl) ?_
            refine lv_iconst (v := 1) hx hb dX12_writesNumber_34 (by decide) ?_
            refine lv_icmp_ne (tgt := 51) hx hb dX12_writesNumber_35 (by decide) (fun c_7 => ?_) (fun c_7 => ?_)
            · have hF := it_f hF c_7
              exact j51 s24.2.1 s24.2.2 s24.1 hF _ _ _ hP hD hS (lv_sub hl [0, 1, 2] rfl)
            · have hF := it_t hF c_7
              exact j38 s24.2.1 s24.2.2 s24.1 hF _ _ _ hP hD hS (lv_sub hl [0, 1, 2] rfl)
    exact kl_24 n _ hL_24 _ _ _ hP hD hS hl
  have j21 : ∀ (v0_29 : Int32) (v0_28 : Nat → Int32) (x2 : Int32), F_X12_writesNumber_j21 n v0_29 v0_28 x2 = some u → ∀ (H : Heap) (locs : List Loc) (ls : Array Slot), va_P (dC, dI) vwCl (wd_X12_writesNumber cI a0 v0_2 v0_3 v0_5 v0_12 v0_13 v0_16 v0_17 v0_21 v0_23 v0_24 v0_25 v0_26 v0_29 v0_30 v0_28) H → va_D A (wd_X12_writesNumber cI a0 v0_2 v0_3 v0_5 v0_12 v0_13 v0_16 v0_17 v0_21 v0_23 v0_24 v0_25 v0_26 v0_29 v0_30 v0_28) → va_S A s.heap H locs → lv_has ls 4 [(0, .ref (a0 0)), (2, .int x2)] → W p l e (headSpec wz_X12_writesNumber rm_X12_writesNumber).room s m [.ref (a0 0), .int p1].toArray below meth c H locs 0 0 (MQ below (Q_X12_writesNumber dC dI cI a0 v0_2 v0_3 v0_5 v0_12 v0_13 v0_16 v0_17 v0_21 v0_23 v0_24 v0_25 v0_26 v0_30 u A) [.ref (a0 0), .int p1].toArray s 0 0 A) (F0 m 21 ls []) := by
    intro v0_29 v0_28 x2 hF H locs ls hP hD hS hl
    unfold F_X12_writesNumber_j21 at hF
    refine lv_bipush (v := 100) hx hb dX12_writesNumber_21 (by decide) ?_
    refine lv_istore_n (lv' := [(3, .int 100), (0, .ref (a0 0)), (2, .int x2)]) hx hb dX12_writesNumber_23 rfl hl (by decide) rfl (fun ls hl => ?_)
    exact j24 v0_29 v0_28 x2 100 hF _ _ _ hP hD hS (lv_sub hl [1, 2, 0] rfl)
  have j10 : ∀ (v0_29 : Int32) (v0_28 : Nat → Int32) (x1 : Int32) (t0 : Int32), F_X12_writesNumber_j10 n v0_29 v0_28 x1 t0 = some u → ∀ (H : Heap) (locs : List Loc) (ls : Array Slot), va_P (dC, dI) vwCl (wd_X12_writesNumber cI a0 v0_2 v0_3 v0_5 v0_12 v0_13 v0_16 v0_17 v0_21 v0_23 v0_24 v0_25 v0_26 v0_29 v0_30 v0_28) H → va_D A (wd_X12_writesNumber cI a0 v0_2 v0_3 v0_5 v0_12 v0_13 v0_16 v0_17 v0_21 v0_23 v0_24 v0_25 v0_26 v0_29 v0_30 v0_28) → va_S A s.heap H locs → lv_has ls 4 [(0, .ref (a0 0)), (1, .int x1)] → W p l e (headSpec wz_X12_writesNumber rm_X12_writesNumber).room s m [.ref (a0 0), .int p1].toArray below meth c H locs 0 0 (MQ below (Q_X12_writesNumber dC dI cI a0 v0_2 v0_3 v0_5 v0_12 v0_13 v0_16 v0_17 v0_21 v0_23 v0_24 v0_25 v0_26 v0_30 u A) [.ref (a0 0), .int p1].toArray s 0 0 A) (F0 m 10 ls [.int t0]) := by
    intro v0_29 v0_28 x1 t0 hF H locs ls hP hD hS hl
    unfold F_X12_writesNumber_j10 at hF
    refine lv_istore_n (lv' := [(2, .int t0), (0, .ref (a0 0)), (1, .int x1)]) hx hb dX12_writesNumber_10 rfl hl (by decide) rfl (fun ls hl => ?_)
    refine lv_iload_n hx hb dX12_writesNumber_11 rfl (lv_at hl 2 rfl) ?_
    refine lv_if_ge (tgt := 21) hx hb dX12_writesNumber_12 (by decide) (fun c_8 => ?_) (fun c_8 => ?_)
    · have hF := it_t hF c_8
      exact j21 v0_29 v0_28 t0 hF _ _ _ hP hD hS (lv_sub hl [1, 0] rfl)
    · have hF := it_f hF c_8
      refine lv_aload_n hx hb dX12_writesNumber_15 rfl (lv_at hl 1 rfl) ?_
      refine lv_bipush (v := 45) hx hb dX12_writesNumber_16 (by decide) ?_
      obtain ⟨u_9, hu_9, hF⟩ := obd_some hF
      have hPc := hP.sub (ws' := (wd_X12_writes cI a0 v0_2 v0_3 v0_5 v0_12 v0_13 v0_16 v0_17 v0_21 v0_23 v0_24 v0_25 v0_26 v0_29 v0_30 v0_28)) [0, 1] rfl
      have hDc := hD.sub (ws' := (wd_X12_writes cI a0 v0_2 v0_3 v0_5 v0_12 v0_13 v0_16 v0_17 v0_21 v0_23 v0_24 v0_25 v0_26 v0_29 v0_30 v0_28)) [0, 1] rfl rfl
      refine q_callv (wc := (wd_X12_writes cI a0 v0_2 v0_3 v0_5 v0_12 v0_13 v0_16 v0_17 v0_21 v0_23 v0_24 v0_25 v0_26 v0_29 v0_30 v0_28)) (w1 := (wd_X12_writes cI a0 v0_2 v0_3 v0_5 v0_12 v0_13 v0_16 v0_17 v0_21 v0_23 v0_24 v0_25 v0_26 u_9.1 v0_30 u_9.2)) (ws' := (wd_X12_writesNumber cI a0 v0_2 v0_3 v0_5 v0_12 v0_13 v0_16 v0_17 v0_21 v0_23 v0_24 v0_25 v0_26 u_9.1 v0_30 u_9.2)) hP hD hS hA [0, 1] [] [0, 1] rfl rfl rfl (by decide) rfl rfl (va_runV (As := [.int 45]) (rest := []) ⟨hx, hb, hml, hown, hta⟩ (c_X12_writes l dC dI cI H.size a0 v0_2 v0_3 v0_5 v0_12 v0_13 v0_16 v0_17 v0_21 v0_23 v0_24 v0_25 v0_26 v0_29 v0_30 v0_28 45 u_9 hu_9) (cwV 1 hta (ga_V mA1091 mA1092 mA1093 mA814 mA1088) rfl rfl rfl (by decide +kernel) ⟨Nat.le_of_ble_eq_true rfl, Nat.le_of_ble_eq_true rfl⟩) ⟨q_fb, va_recv hK hP (ci := 11) (q0 := 0) rfl rfl, q_ps hPc hK hDc⟩ rfl rfl hl.1 rfl (lv_room (Nat.le_of_ble_eq_true rfl)) dX12_writesNumber_18 ⟨Nat.zero_le _, Nat.zero_le _⟩) (fun H locs hP hD hS => ?_)
      exact j21 u_9.1 u_9.2 t0 hF _ _ _ hP hD hS (lv_sub hl [1, 0] rfl)
  refine lv_iload_n hx hb dX12_writesNumber_0 rfl (lv_at hl 1 rfl) ?_
  refine lv_if_ge (tgt := 9) hx hb dX12_writesNumber_1 (by decide) (fun c_10 => ?_) (fun c_10 => ?_)
  · have hF := it_t hF c_10
    refine lv_iload_n hx hb dX12_writesNumber_9 rfl (lv_at hl 1 rfl) ?_
    exact j10 v0_29 v0_28 p1 p1 hF _ _ _ hP hD hS (lv_sub hl [0, 1] rfl)
  · have hF := it_f hF c_10
    refine lv_iload_n hx hb dX12_writesNumber_4 rfl (lv_at hl 1 rfl) ?_
    refine lv_ineg hx hb dX12_writesNumber_5 ?_
    refine lv_goto (tgt := 10) hx hb dX12_writesNumber_6 (by decide) ?_
    exact j10 v0_29 v0_28 p1 (-p1) hF _ _ _ hP hD hS (lv_sub hl [0, 1] rfl)

-- StrokeOutlinerModel.written(I)I
def F_X12_written_j114 (v0_3 : Int32) (v0_29 : Int32) (v0_28 : Nat → Int32) (x1 : Int32) : Option (Int32 × Int32 × Int32 × (Nat → Int32)) :=
  if v0_29 ≤ x1 then some ((-1), v0_3, v0_29, v0_28) else gd (decide (vpi x1 400)) (some ((v0_28 x1.toNatClampNeg), v0_3, v0_29, v0_28))
def F_X12_written_j108 (v0_29 : Int32) (v0_28 : Nat → Int32) (x2 : Int32) : Option (Sum (Int32 × Int32 × (Nat → Int32)) (Int32 × (Nat → Int32))) :=
  lt (x2 + 1) (fun y_3 => some (.inl (y_3, v0_29, v0_28)))
def F_X12_written_j94 (v0_29 : Int32) (v0_0 : Nat → Int32) (v0_28 : Nat → Int32) (x2 : Int32) : Option (Sum (Int32 × Int32 × (Nat → Int32)) (Int32 × (Nat → Int32))) :=
  obd (F_X12_isClosed v0_0 x2) (fun u_4 => if u_4 = 0 then F_X12_written_j108 v0_29 v0_28 x2 else obd (F_X12_writes v0_29 v0_28 90) (fun u_6 => F_X12_written_j108 u_6.1 u_6.2 x2))
def F_X12_written_j59 (n : Nat) (v0_29 : Int32) (v0_0 : Nat → Int32) (v0_28 : Nat → Int32) (x2 : Int32) (x3 : Int32) (t1 : Int32) : Option (Sum (Int32 × Int32 × (Nat → Int32)) (Int32 × (Nat → Int32))) :=
  obd (F_X12_writes v0_29 v0_28 t1) (fun u_7 => obd (F_X12_x v0_0 x2 x3) (fun u_8 => obd (F_X12_writesNumber n u_7.1 u_7.2 u_8) (fun u_9 => obd (F_X12_writes u_9.1 u_9.2 44) (fun u_10 => obd (F_X12_y v0_0 x2 x3) (fun u_11 => obd (F_X12_writesNumber n u_10.1 u_10.2 u_11) (fun u_12 => lt (x3 + 1) (fun y_13 => some (.inl (y_13, u_12.1, u_12.2)))))))))
def F_X12_written_b38 (n : Nat) (v0_0 : Nat → Int32) (x2 : Int32) (s38 : Int32 × Int32 × (Nat → Int32)) : Option (Sum (Int32 × Int32 × (Nat → Int32)) (Int32 × (Nat → Int32))) :=
  obd (F_X12_points v0_0 x2) (fun u_14 => if u_14 ≤ s38.1 then some (.inr (s38.2.1, s38.2.2)) else if s38.1 = 0 then F_X12_written_j59 n s38.2.1 v0_0 s38.2.2 x2 s38.1 77 else F_X12_written_j59 n s38.2.1 v0_0 s38.2.2 x2 s38.1 76)
def F_X12_written_j38 (n : Nat) (v0_29 : Int32) (v0_0 : Nat → Int32) (v0_28 : Nat → Int32) (x2 : Int32) (x3 : Int32) : Option (Sum (Int32 × Int32 × (Nat → Int32)) (Int32 × (Nat → Int32))) :=
  obd (lpq (F_X12_written_b38 n v0_0 x2) n (x3, v0_29, v0_28)) (fun x_38 => F_X12_written_j94 x_38.1 v0_0 x_38.2 x2)
def F_X12_written_b25 (n : Nat) (v0_0 : Nat → Int32) (s25 : Int32 × Int32 × (Nat → Int32)) : Option (Sum (Int32 × Int32 × (Nat → Int32)) (Int32 × (Nat → Int32))) :=
  gd (decide (vpi 13 86)) (if (v0_0 (13 : Int32).toNatClampNeg) ≤ s25.1 then some (.inr (s25.2.1, s25.2.2)) else F_X12_written_j38 n s25.2.1 v0_0 s25.2.2 s25.1 0)
def F_X12_written_j25 (n : Nat) (v0_3 : Int32) (v0_29 : Int32) (v0_0 : Nat → Int32) (v0_28 : Nat → Int32) (x1 : Int32) (x2 : Int32) : Option (Int32 × Int32 × Int32 × (Nat → Int32)) :=
  obd (lpq (F_X12_written_b25 n v0_0) n (x2, v0_29, v0_28)) (fun x_25 => F_X12_written_j114 v0_3 x_25.1 x_25.2 x1)
def F_X12_written_j10 (n : Nat) (v0_29 : Int32) (v0_0 : Nat → Int32) (v0_28 : Nat → Int32) (x1 : Int32) (t1 : Int32) : Option (Int32 × Int32 × Int32 × (Nat → Int32)) :=
  lt (F_X12_refused t1) (fun u_19 => if u_19.1 = 0 then F_X12_written_j25 n u_19.2 0 v0_0 v0_28 x1 0 else some (0, u_19.2, v0_29, v0_28))
def F_X12_written (n : Nat) (v0_29 : Int32) (v0_0 : Nat → Int32) (v0_28 : Nat → Int32) (p1 : Int32) : Option (Int32 × Int32 × Int32 × (Nat → Int32)) :=
  if 0 ≤ p1 then F_X12_written_j10 n v0_29 v0_0 v0_28 p1 0 else F_X12_written_j10 n v0_29 v0_0 v0_28 p1 1
abbrev wd_X12_written (cI : ClassId) (a0 : Nat → Nat) (v0_2 : Int32) (v0_3 : Int32) (v0_5 : Int32) (v0_12 : Int32) (v0_13 : Int32) (v0_16 : Int32) (v0_17 : Int32) (v0_21 : Int32) (v0_23 : Int32) (v0_24 : Int32) (v0_25 : Int32) (v0_26 : Int32) (v0_29 : Int32) (v0_30 : Int64) (v0_0 : Nat → Int32) (v0_28 : Nat → Int32) : va_W := [(a0 0, .inr (11, [.ref (a0 1), .ref (a0 2), .int v0_2, .int v0_3, .ref (a0 5), .int v0_5, .ref (a0 7), .ref (a0 8), .ref (a0 9), .ref (a0 10), .ref (a0 11), .ref (a0 12), .int v0_12, .int v0_13, .ref (a0 15), .ref (a0 16), .int v0_16, .int v0_17, .ref (a0 19), .ref (a0 20), .ref (a0 21), .int v0_21, .ref (a0 23), .int v0_23, .int v0_24, .int v0_25, .int v0_26, .ref (a0 28), .ref (a0 29), .int v0_29, .long v0_30])), (a0 1, .inl (cI, 86, .inl v0_0)), (a0 29, .inl (cI, 400, .inl v0_28))]
abbrev wz_X12_written : List Cond := .code yX12_written cX12_written 4 (some .int) :: wALL
abbrev rm_X12_written : Room := { frames := 2, cells := 0, slots := 0, locals := 44 }
abbrev Q_X12_written (dC : Nat → ClassId) (dI : Nat → Nat → Nat) (cI : ClassId) (a0 : Nat → Nat) (v0_2 : Int32) (v0_5 : Int32) (v0_12 : Int32) (v0_13 : Int32) (v0_16 : Int32) (v0_17 : Int32) (v0_21 : Int32) (v0_23 : Int32) (v0_24 : Int32) (v0_25 : Int32) (v0_26 : Int32) (v0_30 : Int64) (v0_0 : Nat → Int32) (u : (Int32 × Int32 × Int32 × (Nat → Int32))) (A : Nat → Prop) : Array Value → State → Outcome → State → Prop := va_Qi (fun (r : Int32) (_ : Unit) => r = u.1) (fun _ => q_at dC dI cI A (wd_X12_written cI a0 v0_2 u.2.1 v0_5 v0_12 v0_13 v0_16 v0_17 v0_21 v0_23 v0_24 v0_25 v0_26 u.2.2.1 v0_30 v0_0 u.2.2.2)) A
set_option maxHeartbeats 4000000 in
set_option maxRecDepth 100000 in
theorem c_X12_written (l : Launch) (dC : Nat → ClassId) (dI : Nat → Nat → Nat) (cI : ClassId) (sz : Nat) (a0 : Nat → Nat) (v0_2 : Int32) (v0_3 : Int32) (v0_5 : Int32) (v0_12 : Int32) (v0_13 : Int32) (v0_16 : Int32) (v0_17 : Int32) (v0_21 : Int32) (v0_23 : Int32) (v0_24 : Int32) (v0_25 : Int32) (v0_26 : Int32) (v0_29 : Int32) (v0_30 : Int64) (v0_0 : Nat → Int32) (v0_28 : Nat → Int32) (p1 : Int32) (n : Nat) (u : (Int32 × Int32 × Int32 × (Nat → Int32))) (hF : F_X12_written n v0_29 v0_0 v0_28 p1 = some u) : Met l yX12_written wz_X12_written rm_X12_written (va_Pc [.ref (a0 0), .int p1] (q_pre dC dI cI (wd_X12_written cI a0 v0_2 v0_3 v0_5 v0_12 v0_13 v0_16 v0_17 v0_21 v0_23 v0_24 v0_25 v0_26 v0_29 v0_30 v0_0 v0_28) sz)) (Q_X12_written dC dI cI a0 v0_2 v0_5 v0_12 v0_13 v0_16 v0_17 v0_21 v0_23 v0_24 v0_25 v0_26 v0_30 v0_0 u (va_A (wd_X12_written cI a0 v0_2 v0_3 v0_5 v0_12 v0_13 v0_16 v0_17 v0_21 v0_23 v0_24 v0_25 v0_26 v0_29 v0_30 v0_0 v0_28) sz)) 0 0 (va_A (wd_X12_written cI a0 v0_2 v0_3 v0_5 v0_12 v0_13 v0_16 v0_17 v0_21 v0_23 v0_24 v0_25 v0_26 v0_29 v0_30 v0_0 v0_28) sz) := by
  refine Met.ofW (cc := cX12_written) (maxL := 4) (ret := (some .int)) (by decide) rfl ?_
  intro p e s m args below meth c s₁ B hml hv
  obtain ⟨rfl, hsz, hP, hK, hD0⟩ := hv
  have hx := B.exec
  have hb := B.bytes
  have hr := B.returns
  have hts := atoms_spec (ws := wz_X12_written) B.pre
  have hta := wz_tl hts
  have hown : s.vm.findClass RX12 = some m.cls := findClass_of_methodNamed B.named
  have hlocks := B.notSynchronized
  subst hsz
  have hD := hD0.self (sz := s.heap.size)
  generalize hAe : va_A (wd_X12_written cI a0 v0_2 v0_3 v0_5 v0_12 v0_13 v0_16 v0_17 v0_21 v0_23 v0_24 v0_25 v0_26 v0_29 v0_30 v0_0 v0_28) s.heap.size = A at hD ⊢
  have hA : ∀ q : Nat, s.heap.size ≤ q → A q := fun q h => by rw [← hAe]; exact Or.inr h
  have hS : va_S A s.heap s.heap [] := va_S.rf
  have hP : va_P (dC, dI) vwCl (wd_X12_written cI a0 v0_2 v0_3 v0_5 v0_12 v0_13 v0_16 v0_17 v0_21 v0_23 v0_24 v0_25 v0_26 v0_29 v0_30 v0_0 v0_28) s.heap := hP
  have hl := lv_entry ([.ref (a0 0), .int p1]) (n := 4) (Nat.le_of_ble_eq_true rfl)
  rw [lg_entry_eq]
  generalize (lg_sl ([.ref (a0 0), .int p1]) ++ List.replicate (4 - (lg_sl ([.ref (a0 0), .int p1])).length) Slot.unset).toArray = ls at hl ⊢
  have hl : lv_has ls 4 [(0, .ref (a0 0)), (1, .int p1)] := hl
  obtain ⟨H, hHe⟩ : ∃ H, H = s.heap := ⟨_, rfl⟩
  have hS : va_S A s.heap H [] := by rw [hHe]; exact hS
  have hP : va_P (dC, dI) vwCl (wd_X12_written cI a0 v0_2 v0_3 v0_5 v0_12 v0_13 v0_16 v0_17 v0_21 v0_23 v0_24 v0_25 v0_26 v0_29 v0_30 v0_0 v0_28) H := by rw [hHe]; exact hP
  rw [← hHe]
  unfold F_X12_written at hF
  have j114 : ∀ (v0_3 : Int32) (v0_29 : Int32) (v0_28 : Nat → Int32) (x1 : Int32), F_X12_written_j114 v0_3 v0_29 v0_28 x1 = some u → ∀ (H : Heap) (locs : List Loc) (ls : Array Slot), va_P (dC, dI) vwCl (wd_X12_written cI a0 v0_2 v0_3 v0_5 v0_12 v0_13 v0_16 v0_17 v0_21 v0_23 v0_24 v0_25 v0_26 v0_29 v0_30 v0_0 v0_28) H → va_D A (wd_X12_written cI a0 v0_2 v0_3 v0_5 v0_12 v0_13 v0_16 v0_17 v0_21 v0_23 v0_24 v0_25 v0_26 v0_29 v0_30 v0_0 v0_28) → va_S A s.heap H locs → lv_has ls 4 [(0, .ref (a0 0)), (1, .int x1)] → W p l e (headSpec wz_X12_written rm_X12_written).room s m [.ref (a0 0), .int p1].toArray below meth c H locs 0 0 (MQ below (Q_X12_written dC dI cI a0 v0_2 v0_5 v0_12 v0_13 v0_16 v0_17 v0_21 v0_23 v0_24 v0_25 v0_26 v0_30 v0_0 u A) [.ref (a0 0), .int p1].toArray s 0 0 A) (F0 m 114 ls []) := by
    intro v0_3 v0_29 v0_28 x1 hF H locs ls hP hD hS hl
    unfold F_X12_written_j114 at hF
    refine lv_iload_n hx hb dX12_written_114 rfl (lv_at hl 1 rfl) ?_
    refine lv_aload_n hx hb dX12_written_115 rfl (lv_at hl 0 rfl) ?_
    refine va_get (D := (dC, dI)) (ci := 11) (v := .int v0_29) (C := RX12) (T := TX12) (N := 31) hx hb hta uw_X12 hown hK hP 0 rfl rfl 29 (by decide) (hta _ mA1089) (fun _ h9 => h9) rfl dX12_written_116 ?_
    refine lv_icmp_ge (tgt := 131) hx hb dX12_written_119 (by decide) (fun c_1 => ?_) (fun c_1 => ?_)
    · have hF := it_t hF c_1
      refine lv_iconst (v := (-1)) hx hb dX12_written_131 (by decide) ?_
      obtain rfl := Option.some.inj hF
      exact W.iret (v := (-1)) hx hb hr (fun t ht hW => ⟨⟨(-1), (), rfl, rfl, by rw [ht]; exact hP, va_K.moved hW.alike hK, hD⟩, hS.F ht⟩) hS.2.2 dX12_written_132
    · have hF := it_f hF c_1
      refine lv_aload_n hx hb dX12_written_122 rfl (lv_at hl 0 rfl) ?_
      refine va_get (D := (dC, dI)) (ci := 11) (v := .ref (a0 29)) (C := RX12) (T := TX12) (N := 31) hx hb hta uw_X12 hown hK hP 0 rfl rfl 28 (by decide) (hta _ mA806) (fun _ h9 => h9) rfl dX12_written_123 ?_
      refine lv_iload_n hx hb dX12_written_126 rfl (lv_at hl 1 rfl) ?_
      obtain ⟨g_2, hF⟩ := gd_some hF
      refine va_iald hx hb hK hP 2 0 rfl rfl (vpi_in g_2) dX12_written_127 ?_
      refine lv_goto (tgt := 132) hx hb dX12_written_128 (by decide) ?_
      obtain rfl := Option.some.inj hF
      exact W.iret (v := (v0_28 x1.toNatClampNeg)) hx hb hr (fun t ht hW => ⟨⟨(v0_28 x1.toNatClampNeg), (), rfl, rfl, by rw [ht]; exact hP, va_K.moved hW.alike hK, hD⟩, hS.F ht⟩) hS.2.2 dX12_written_132
  have j25 : ∀ (v0_3 : Int32) (v0_29 : Int32) (v0_28 : Nat → Int32) (x1 : Int32) (x2 : Int32), F_X12_written_j25 n v0_3 v0_29 v0_0 v0_28 x1 x2 = some u → ∀ (H : Heap) (locs : List Loc) (ls : Array Slot), va_P (dC, dI) vwCl (wd_X12_written cI a0 v0_2 v0_3 v0_5 v0_12 v0_13 v0_16 v0_17 v0_21 v0_23 v0_24 v0_25 v0_26 v0_29 v0_30 v0_0 v0_28) H → va_D A (wd_X12_written cI a0 v0_2 v0_3 v0_5 v0_12 v0_13 v0_16 v0_17 v0_21 v0_23 v0_24 v0_25 v0_26 v0_29 v0_30 v0_0 v0_28) → va_S A s.heap H locs → lv_has ls 4 [(0, .ref (a0 0)), (1, .int x1), (2, .int x2)] → W p l e (headSpec wz_X12_written rm_X12_written).room s m [.ref (a0 0), .int p1].toArray below meth c H locs 0 0 (MQ below (Q_X12_written dC dI cI a0 v0_2 v0_5 v0_12 v0_13 v0_16 v0_17 v0_21 v0_23 v0_24 v0_25 v0_26 v0_30 v0_0 u A) [.ref (a0 0), .int p1].toArray s 0 0 A) (F0 m 25 ls []) := by
    intro v0_3 v0_29 v0_28 x1 x2 hF H locs ls hP hD hS hl
    unfold F_X12_written_j25 at hF
    obtain ⟨x_25, hL_25, hE_25⟩ := obd_some hF
    have kl_25 : ∀ (k : Nat) (s25 : Int32 × Int32 × (Nat → Int32)), lpq (F_X12_written_b25 n v0_0) k s25 = some x_25 → ∀ (H : Heap) (locs : List Loc) (ls : Array Slot), va_P (dC, dI) vwCl (wd_X12_written cI a0 v0_2 v0_3 v0_5 v0_12 v0_13 v0_16 v0_17 v0_21 v0_23 v0_24 v0_25 v0_26 s25.2.1 v0_30 v0_0 s25.2.2) H → va_D A (wd_X12_written cI a0 v0_2 v0_3 v0_5 v0_12 v0_13 v0_16 v0_17 v0_21 v0_23 v0_24 v0_25 v0_26 s25.2.1 v0_30 v0_0 s25.2.2) → va_S A s.heap H locs → lv_has ls 4 [(0, .ref (a0 0)), (1, .int x1), (2, .int s25.1)] → W p l e (headSpec wz_X12_written rm_X12_written).room s m [.ref (a0 0), .int p1].toArray below meth c H locs 0 0 (MQ below (Q_X12_written dC dI cI a0 v0_2 v0_5 v0_12 v0_13 v0_16 v0_17 v0_21 v0_23 v0_24 v0_25 v0_26 v0_30 v0_0 u A) [.ref (a0 0), .int p1].toArray s 0 0 A) (F0 m 25 ls []) := by
      intro k
      induction k with
      | zero => intro s25 h; exact absurd h lpq_zero
      | succ k ih_25 =>
        intro s25 h H locs ls hP hD hS hl
        obtain ⟨o_25, hF, hO_25⟩ := lpq_succ h
        unfold F_X12_written_b25 at hF
        have j108 : ∀ (v0_29 : Int32) (v0_28 : Nat → Int32) (x2 : Int32), F_X12_written_j108 v0_29 v0_28 x2 = some o_25 → ∀ (H : Heap) (locs : List Loc) (ls : Array Slot), va_P (dC, dI) vwCl (wd_X12_written cI a0 v0_2 v0_3 v0_5 v0_12 v0_13 v0_16 v0_17 v0_21 v0_23 v0_24 v0_25 v0_26 v0_29 v0_30 v0_0 v0_28) H → va_D A (wd_X12_written cI a0 v0_2 v0_3 v0_5 v0_12 v0_13 v0_16 v0_17 v0_21 v0_23 v0_24 v0_25 v0_26 v0_29 v0_30 v0_0 v0_28) → va_S A s.heap H locs → lv_has ls 4 [(0, .ref (a0 0)), (1, .int x1), (2, .int x2)] → W p l e (headSpec wz_X12_written rm_X12_written).room s m [.ref (a0 0), .int p1].toArray below meth c H locs 0 0 (MQ below (Q_X12_written dC dI cI a0 v0_2 v0_5 v0_12 v0_13 v0_16 v0_17 v0_21 v0_23 v0_24 v0_25 v0_26 v0_30 v0_0 u A) [.ref (a0 0), .int p1].toArray s 0 0 A) (F0 m 108 ls []) := by
          intro v0_29 v0_28 x2 hF H locs ls hP hD hS hl
          unfold F_X12_written_j108 at hF
          obtain ⟨y_3, ey_3, hF⟩ := lt_some hF
          refine lv_iinc (v := y_3) (lv' := [(2, .int y_3), (0, .ref (a0 0)), (1, .int x1)]) hx hb dX12_written_108 hl (k := 2) rfl (by rw [ey_3]; rfl) (by decide) rfl (fun ls hl => ?_)
          refine lv_goto (tgt := 25) hx hb dX12_written_111 (by decide) ?_
          obtain rfl := Option.some.inj hF
          exact ih_25 _ hO_25 _ _ _ hP hD hS (lv_sub hl [1, 2, 0] rfl)
        have j94 : ∀ (v0_29 : Int32) (v0_28 : Nat → Int32) (x2 : Int32), F_X12_written_j94 v0_29 v0_0 v0_28 x2 = some o_25 → ∀ (H : Heap) (locs : List Loc) (ls : Array Slot), va_P (dC, dI) vwCl (wd_X12_written cI a0 v0_2 v0_3 v0_5 v0_12 v0_13 v0_16 v0_17 v0_21 v0_23 v0_24 v0_25 v0_26 v0_29 v0_30 v0_0 v0_28) H → va_D A (wd_X12_written cI a0 v0_2 v0_3 v0_5 v0_12 v0_13 v0_16 v0_17 v0_21 v0_23 v0_24 v0_25 v0_26 v0_29 v0_30 v0_0 v0_28) → va_S A s.heap H locs → lv_has ls 4 [(0, .ref (a0 0)), (1, .int x1), (2, .int x2)] → W p l e (headSpec wz_X12_written rm_X12_written).room s m [.ref (a0 0), .int p1].toArray below meth c H locs 0 0 (MQ below (Q_X12_written dC dI cI a0 v0_2 v0_5 v0_12 v0_13 v0_16 v0_17 v0_21 v0_23 v0_24 v0_25 v0_26 v0_30 v0_0 u A) [.ref (a0 0), .int p1].toArray s 0 0 A) (F0 m 94 ls []) := by
          intro v0_29 v0_28 x2 hF H locs ls hP hD hS hl
          unfold F_X12_written_j94 at hF
          refine lv_aload_n hx hb dX12_written_94 rfl (lv_at hl 0 rfl) ?_
          refine lv_iload_n hx hb dX12_written_95 rfl (lv_at hl 2 rfl) ?_
          obtain ⟨u_4, hu_4, hF⟩ := obd_some hF
          have hPc := hP.sub (ws' := (wd_X12_isClosed cI a0 v0_2 v0_3 v0_5 v0_12 v0_13 v0_16 v0_17 v0_21 v0_23 v0_24 v0_25 v0_26 v0_29 v0_30 v0_0)) [0, 1] rfl
          have hDc := hD.sub (ws' := (wd_X12_isClosed cI a0 v0_2 v0_3 v0_5 v0_12 v0_13 v0_16 v0_17 v0_21 v0_23 v0_24 v0_25 v0_26 v0_29 v0_30 v0_0)) [0, 1] rfl rfl
          refine q_callz (wc := (wd_X12_isClosed cI a0 v0_2 v0_3 v0_5 v0_12 v0_13 v0_16 v0_17 v0_21 v0_23 v0_24 v0_25 v0_26 v0_29 v0_30 v0_0)) (w1 := (wd_X12_isClosed cI a0 v0_2 v0_3 v0_5 v0_12 v0_13 v0_16 v0_17 v0_21 v0_23 v0_24 v0_25 v0_26 v0_29 v0_30 v0_0)) (ws' := (wd_X12_written cI a0 v0_2 v0_3 v0_5 v0_12 v0_13 v0_16 v0_17 v0_21 v0_23 v0_24 v0_25 v0_26 v0_29 v0_30 v0_0 v0_28)) hP hD hS hA [0, 1] [2] [1, 2, 0] rfl rfl rfl (by decide) rfl rfl (va_runV (As := [.int x2]) (rest := []) ⟨hx, hb, hml, hown, hta⟩ (c_X12_isClosed l dC dI cI H.size a0 v0_2 v0_3 v0_5 v0_12 v0_13 v0_16 v0_17 v0_21 v0_23 v0_24 v0_25 v0_26 v0_29 v0_30 v0_0 x2 u_4 hu_4) (cwV 1 hta (ga_V mA852 mA853 mA854 mA814 mA830) rfl rfl rfl (by decide +kernel) ⟨Nat.le_of_ble_eq_true rfl, Nat.le_of_ble_eq_true rfl⟩) ⟨q_fb, va_recv hK hP (ci := 11) (q0 := 0) rfl rfl, q_ps hPc hK hDc⟩ rfl rfl hl.1 rfl (lv_room (Nat.le_of_ble_eq_true rfl)) dX12_written_96 ⟨Nat.zero_le _, Nat.zero_le _⟩) (fun hzu_4 H locs hP hD hS => ?_)
          refine lv_if_eq (tgt := 108) hx hb dX12_written_99 (by decide) (fun c_5 => ?_) (fun c_5 => ?_)
          · have hF := it_t hF c_5
            exact j108 v0_29 v0_28 x2 hF _ _ _ hP hD hS (lv_sub hl [0, 1, 2] rfl)
          · have hF := it_f hF c_5
            refine lv_aload_n hx hb dX12_written_102 rfl (lv_at hl 0 rfl) ?_
            refine lv_bipush (v := 90) hx hb dX12_written_103 (by decide) ?_
            obtain ⟨u_6, hu_6, hF⟩ := obd_some hF
            have hPc := hP.sub (ws' := (wd_X12_writes cI a0 v0_2 v0_3 v0_5 v0_12 v0_13 v0_16 v0_17 v0_21 v0_23 v0_24 v0_25 v0_26 v0_29 v0_30 v0_28)) [0, 2] rfl
            have hDc := hD.sub (ws' := (wd_X12_writes cI a0 v0_2 v0_3 v0_5 v0_12 v0_13 v0_16 v0_17 v0_21 v0_23 v0_24 v0_25 v0_26 v0_29 v0_30 v0_28)) [0, 2] rfl rfl
            refine q_callv (wc := (wd_X12_writes cI a0 v0_2 v0_3 v0_5 v0_12 v0_13 v0_16 v0_17 v0_21 v0_23 v0_24 v0_25 v0_26 v0_29 v0_30 v0_28)) (w1 := (wd_X12_writes cI a0 v0_2 v0_3 v0_5 v0_12 v0_13 v0_16 v0_17 v0_21 v0_23 v0_24 v0_25 v0_26 u_6.1 v0_30 u_6.2)) (ws' := (wd_X12_written cI a0 v0_2 v0_3 v0_5 v0_12 v0_13 v0_16 v0_17 v0_21 v0_23 v0_24 v0_25 v0_26 u_6.1 v0_30 v0_0 u_6.2)) hP hD hS hA [0, 2] [1] [1, 0, 2] rfl rfl rfl (by decide) rfl rfl (va_runV (As := [.int 90]) (rest := []) ⟨hx, hb, hml, hown, hta⟩ (c_X12_writes l dC dI cI H.size a0 v0_2 v0_3 v0_5 v0_12 v0_13 v0_16 v0_17 v0_21 v0_23 v0_24 v0_25 v0_26 v0_29 v0_30 v0_28 90 u_6 hu_6) (cwV 1 hta (ga_V mA1091 mA1092 mA1093 mA814 mA1088) rfl rfl rfl (by decide +kernel) ⟨Nat.le_of_ble_eq_true rfl, Nat.le_of_ble_eq_true rfl⟩) ⟨q_fb, va_recv hK hP (ci := 11) (q0 := 0) rfl rfl, q_ps hPc hK hDc⟩ rfl rfl hl.1 rfl (lv_room (Nat.le_of_ble_eq_true rfl)) dX12_written_105 ⟨Nat.zero_le _, Nat.zero_le _⟩) (fun H locs hP hD hS => ?_)
            exact j108 u_6.1 u_6.2 x2 hF _ _ _ hP hD hS (lv_sub hl [0, 1, 2] rfl)
        have j38 : ∀ (v0_29 : Int32) (v0_28 : Nat → Int32) (x2 : Int32) (x3 : Int32), F_X12_written_j38 n v0_29 v0_0 v0_28 x2 x3 = some o_25 → ∀ (H : Heap) (locs : List Loc) (ls : Array Slot), va_P (dC, dI) vwCl (wd_X12_written cI a0 v0_2 v0_3 v0_5 v0_12 v0_13 v0_16 v0_17 v0_21 v0_23 v0_24 v0_25 v0_26 v0_29 v0_30 v0_0 v0_28) H → va_D A (wd_X12_written cI a0 v0_2 v0_3 v0_5 v0_12 v0_13 v0_16 v0_17 v0_21 v0_23 v0_24 v0_25 v0_26 v0_29 v0_30 v0_0 v0_28) → va_S A s.heap H locs → lv_has ls 4 [(0, .ref (a0 0)), (1, .int x1), (2, .int x2), (3, .int x3)] → W p l e (headSpec wz_X12_written rm_X12_written).room s m [.ref (a0 0), .int p1].toArray below meth c H locs 0 0 (MQ below (Q_X12_written dC dI cI a0 v0_2 v0_5 v0_12 v0_13 v0_16 v0_17 v0_21 v0_23 v0_24 v0_25 v0_26 v0_30 v0_0 u A) [.ref (a0 0), .int p1].toArray s 0 0 A) (F0 m 38 ls []) := by
          intro v0_29 v0_28 x2 x3 hF H locs ls hP hD hS hl
          unfold F_X12_written_j38 at hF
          obtain ⟨x_38, hL_38, hE_38⟩ := obd_some hF
          have kl_38 : ∀ (k : Nat) (s38 : Int32 × Int32 × (Nat → Int32)), lpq (F_X12_written_b38 n v0_0 x2) k s38 = some x_38 → ∀ (H : Heap) (locs : List Loc) (ls : Array Slot), va_P (dC, dI) vwCl (wd_X12_written cI a0 v0_2 v0_3 v0_5 v0_12 v0_13 v0_16 v0_17 v0_21 v0_23 v0_24 v0_25 v0_26 s38.2.1 v0_30 v0_0 s38.2.2) H → va_D A (wd_X12_written cI a0 v0_2 v0_3 v0_5 v0_12 v0_13 v0_16 v0_17 v0_21 v0_23 v0_24 v0_25 v0_26 s38.2.1 v0_30 v0_0 s38.2.2) → va_S A s.heap H locs → lv_has ls 4 [(0, .ref (a0 0)), (1, .int x1), (2, .int x2), (3, .int s38.1)] → W p l e (headSpec wz_X12_written rm_X12_written).room s m [.ref (a0 0), .int p1].toArray below meth c H locs 0 0 (MQ below (Q_X12_written dC dI cI a0 v0_2 v0_5 v0_12 v0_13 v0_16 v0_17 v0_21 v0_23 v0_24 v0_25 v0_26 v0_30 v0_0 u A) [.ref (a0 0), .int p1].toArray s 0 0 A) (F0 m 38 ls []) := by
            intro k
            induction k with
            | zero => intro s38 h; exact absurd h lpq_zero
            | succ k ih_38 =>
              intro s38 h H locs ls hP hD hS hl
              obtain ⟨o_38, hF, hO_38⟩ := lpq_succ h
              unfold F_X12_written_b38 at hF
              have j59 : ∀ (v0_29 : Int32) (v0_28 : Nat → Int32) (x3 : Int32) (t1 : Int32), F_X12_written_j59 n v0_29 v0_0 v0_28 x2 x3 t1 = some o_38 → ∀ (H : Heap) (locs : List Loc) (ls : Array Slot), va_P (dC, dI) vwCl (wd_X12_written cI a0 v0_2 v0_3 v0_5 v0_12 v0_13 v0_16 v0_17 v0_21 v0_23 v0_24 v0_25 v0_26 v0_29 v0_30 v0_0 v0_28) H → va_D A (wd_X12_written cI a0 v0_2 v0_3 v0_5 v0_12 v0_13 v0_16 v0_17 v0_21 v0_23 v0_24 v0_25 v0_26 v0_29 v0_30 v0_0 v0_28) → va_S A s.heap H locs → lv_has ls 4 [(0, .ref (a0 0)), (1, .int x1), (2, .int x2), (3, .int x3)] → W p l e (headSpec wz_X12_written rm_X12_written).room s m [.ref (a0 0), .int p1].toArray below meth c H locs 0 0 (MQ below (Q_X12_written dC dI cI a0 v0_2 v0_5 v0_12 v0_13 v0_16 v0_17 v0_21 v0_23 v0_24 v0_25 v0_26 v0_30 v0_0 u A) [.ref (a0 0), .int p1].toArray s 0 0 A) (F0 m 59 ls [.int t1, .ref (a0 0)]) := by
                intro v0_29 v0_28 x3 t1 hF H locs ls hP hD hS hl
                unfold F_X12_written_j59 at hF
                obtain ⟨u_7, hu_7, hF⟩ := obd_some hF
                have hPc := hP.sub (ws' := (wd_X12_writes cI a0 v0_2 v0_3 v0_5 v0_12 v0_13 v0_16 v0_17 v0_21 v0_23 v0_24 v0_25 v0_26 v0_29 v0_30 v0_28)) [0, 2] rfl
                have hDc := hD.sub (ws' := (wd_X12_writes cI a0 v0_2 v0_3 v0_5 v0_12 v0_13 v0_16 v0_17 v0_21 v0_23 v0_24 v0_25 v0_26 v0_29 v0_30 v0_28)) [0, 2] rfl rfl
                refine q_callv (wc := (wd_X12_writes cI a0 v0_2 v0_3 v0_5 v0_12 v0_13 v0_16 v0_17 v0_21 v0_23 v0_24 v0_25 v0_26 v0_29 v0_30 v0_28)) (w1 := (wd_X12_writes cI a0 v0_2 v0_3 v0_5 v0_12 v0_13 v0_16 v0_17 v0_21 v0_23 v0_24 v0_25 v0_26 u_7.1 v0_30 u_7.2)) (ws' := (wd_X12_written cI a0 v0_2 v0_3 v0_5 v0_12 v0_13 v0_16 v0_17 v0_21 v0_23 v0_24 v0_25 v0_26 u_7.1 v0_30 v0_0 u_7.2)) hP hD hS hA [0, 2] [1] [1, 0, 2] rfl rfl rfl (by decide) rfl rfl (va_runV (As := [.int t1]) (rest := []) ⟨hx, hb, hml, hown, hta⟩ (c_X12_writes l dC dI cI H.size a0 v0_2 v0_3 v0_5 v0_12 v0_13 v0_16 v0_17 v0_21 v0_23 v0_24 v0_25 v0_26 v0_29 v0_30 v0_28 t1 u_7 hu_7) (cwV 1 hta (ga_V mA1091 mA1092 mA1093 mA814 mA1088) rfl rfl rfl (by decide +kernel) ⟨Nat.le_of_ble_eq_true rfl, Nat.le_of_ble_eq_true rfl⟩) ⟨q_fb, va_recv hK hP (ci := 11) (q0 := 0) rfl rfl, q_ps hPc hK hDc⟩ rfl rfl hl.1 rfl (lv_room (Nat.le_of_ble_eq_true rfl)) dX12_written_59 ⟨Nat.zero_le _, Nat.zero_le _⟩) (fun H locs hP hD hS => ?_)
                refine lv_aload_n hx hb dX12_written_62 rfl (lv_at hl 0 rfl) ?_
                refine lv_aload_n hx hb dX12_written_63 rfl (lv_at hl 0 rfl) ?_
                refine lv_iload_n hx hb dX12_written_64 rfl (lv_at hl 2 rfl) ?_
                refine lv_iload_n hx hb dX12_written_65 rfl (lv_at hl 3 rfl) ?_
                obtain ⟨u_8, hu_8, hF⟩ := obd_some hF
                have hPc := hP.sub (ws' := (wd_X12_x cI a0 v0_2 v0_3 v0_5 v0_12 v0_13 v0_16 v0_17 v0_21 v0_23 v0_24 v0_25 v0_26 u_7.1 v0_30 v0_0)) [0, 1] rfl
                have hDc := hD.sub (ws' := (wd_X12_x cI a0 v0_2 v0_3 v0_5 v0_12 v0_13 v0_16 v0_17 v0_21 v0_23 v0_24 v0_25 v0_26 u_7.1 v0_30 v0_0)) [0, 1] rfl rfl
                refine q_calli (wc := (wd_X12_x cI a0 v0_2 v0_3 v0_5 v0_12 v0_13 v0_16 v0_17 v0_21 v0_23 v0_24 v0_25 v0_26 u_7.1 v0_30 v0_0)) (w1 := (wd_X12_x cI a0 v0_2 v0_3 v0_5 v0_12 v0_13 v0_16 v0_17 v0_21 v0_23 v0_24 v0_25 v0_26 u_7.1 v0_30 v0_0)) (ws' := (wd_X12_written cI a0 v0_2 v0_3 v0_5 v0_12 v0_13 v0_16 v0_17 v0_21 v0_23 v0_24 v0_25 v0_26 u_7.1 v0_30 v0_0 u_7.2)) hP hD hS hA [0, 1] [2] [1, 2, 0] rfl rfl rfl (by decide) rfl rfl (va_runV (As := [.int x2, .int x3]) (rest := [.ref (a0 0)]) ⟨hx, hb, hml, hown, hta⟩ (c_X12_x l dC dI cI H.size a0 v0_2 v0_3 v0_5 v0_12 v0_13 v0_16 v0_17 v0_21 v0_23 v0_24 v0_25 v0_26 u_7.1 v0_30 v0_0 x2 x3 u_8 hu_8) (cwV 2 hta (ga_V mA870 mA871 mA872 mA814 mA831) rfl rfl rfl (by decide +kernel) ⟨Nat.le_of_ble_eq_true rfl, Nat.le_of_ble_eq_true rfl⟩) ⟨q_fb, va_recv hK hP (ci := 11) (q0 := 0) rfl rfl, q_ps hPc hK hDc⟩ rfl rfl hl.1 rfl (lv_room (Nat.le_of_ble_eq_true rfl)) dX12_written_66 ⟨Nat.zero_le _, Nat.zero_le _⟩) (fun H locs hP hD hS => ?_)
                obtain ⟨u_9, hu_9, hF⟩ := obd_some hF
                have hPc := hP.sub (ws' := (wd_X12_writesNumber cI a0 v0_2 v0_3 v0_5 v0_12 v0_13 v0_16 v0_17 v0_21 v0_23 v0_24 v0_25 v0_26 u_7.1 v0_30 u_7.2)) [0, 2] rfl
                have hDc := hD.sub (ws' := (wd_X12_writesNumber cI a0 v0_2 v0_3 v0_5 v0_12 v0_13 v0_16 v0_17 v0_21 v0_23 v0_24 v0_25 v0_26 u_7.1 v0_30 u_7.2)) [0, 2] rfl rfl
                refine q_callv (wc := (wd_X12_writesNumber cI a0 v0_2 v0_3 v0_5 v0_12 v0_13 v0_16 v0_17 v0_21 v0_23 v0_24 v0_25 v0_26 u_7.1 v0_30 u_7.2)) (w1 := (wd_X12_writesNumber cI a0 v0_2 v0_3 v0_5 v0_12 v0_13 v0_16 v0_17 v0_21 v0_23 v0_24 v0_25 v0_26 u_9.1 v0_30 u_9.2)) (ws' := (wd_X12_written cI a0 v0_2 v0_3 v0_5 v0_12 v0_13 v0_16 v0_17 v0_21 v0_23 v0_24 v0_25 v0_26 u_9.1 v0_30 v0_0 u_9.2)) hP hD hS hA [0, 2] [1] [1, 0, 2] rfl rfl rfl (by decide) rfl rfl (va_runV (As := [.int u_8]) (rest := []) ⟨hx, hb, hml, hown, hta⟩ (c_X12_writesNumber l dC dI cI H.size a0 v0_2 v0_3 v0_5 v0_12 v0_13 v0_16 v0_17 v0_21 v0_23 v0_24 v0_25 v0_26 u_7.1 v0_30 u_7.2 u_8 n u_9 hu_9) (cwV 1 hta (ga_V mA1095 mA1096 mA1097 mA814 mA1090) rfl rfl rfl (by decide +kernel) ⟨Nat.le_of_ble_eq_true rfl, Nat.le_of_ble_eq_true rfl⟩) ⟨q_fb, va_recv hK hP (ci := 11) (q0 := 0) rfl rfl, q_ps hPc hK hDc⟩ rfl rfl hl.1 rfl (lv_room (Nat.le_of_ble_eq_true rfl)) dX12_written_69 ⟨Nat.zero_le _, Nat.zero_le _⟩) (fun H locs hP hD hS => ?_)
                refine lv_aload_n hx hb dX12_written_72 rfl (lv_at hl 0 rfl) ?_
                refine lv_bipush (v := 44) hx hb dX12_written_73 (by decide) ?_
                obtain ⟨u_10, hu_10, hF⟩ := obd_some hF
                have hPc := hP.sub (ws' := (wd_X12_writes cI a0 v0_2 v0_3 v0_5 v0_12 v0_13 v0_16 v0_17 v0_21 v0_23 v0_24 v0_25 v0_26 u_9.1 v0_30 u_9.2)) [0, 2] rfl
                have hDc := hD.sub (ws' := (wd_X12_writes cI a0 v0_2 v0_3 v0_5 v0_12 v0_13 v0_16 v0_17 v0_21 v0_23 v0_24 v0_25 v0_26 u_9.1 v0_30 u_9.2)) [0, 2] rfl rfl
                refine q_callv (wc := (wd_X12_writes cI a0 v0_2 v0_3 v0_5 v0_12 v0_13 v0_16 v0_17 v0_21 v0_23 v0_24 v0_25 v0_26 u_9.1 v0_30 u_9.2)) (w1 := (wd_X12_writes cI a0 v0_2 v0_3 v0_5 v0_12 v0_13 v0_16 v0_17 v0_21 v0_23 v0_24 v0_25 v0_26 u_10.1 v0_30 u_10.2)) (ws' := (wd_X12_written cI a0 v0_2 v0_3 v0_5 v0_12 v0_13 v0_16 v0_17 v0_21 v0_23 v0_24 v0_25 v0_26 u_10.1 v0_30 v0_0 u_10.2)) hP hD hS hA [0, 2] [1] [1, 0, 2] rfl rfl rfl (by decide) rfl rfl (va_runV (As := [.int 44]) (rest := []) ⟨hx, hb, hml, hown, hta⟩ (c_X12_writes l dC dI cI H.size a0 v0_2 v0_3 v0_5 v0_12 v0_13 v0_16 v0_17 v0_21 v0_23 v0_24 v0_25 v0_26 u_9.1 v0_30 u_9.2 44 u_10 hu_10) (cwV 1 hta (ga_V mA1091 mA1092 mA1093 mA814 mA1088) rfl rfl rfl (by decide +kernel) ⟨Nat.le_of_ble_eq_true rfl, Nat.le_of_ble_eq_true rfl⟩) ⟨q_fb, va_recv hK hP (ci := 11) (q0 := 0) rfl rfl, q_ps hPc hK hDc⟩ rfl rfl hl.1 rfl (lv_room (Nat.le_of_ble_eq_true rfl)) dX12_written_75 ⟨Nat.zero_le _, Nat.zero_le _⟩) (fun H locs hP hD hS => ?_)
                refine lv_aload_n hx hb dX12_written_78 rfl (lv_at hl 0 rfl) ?_
                refine lv_aload_n hx hb dX12_written_79 rfl (lv_at hl 0 rfl) ?_
                refine lv_iload_n hx hb dX12_written_80 rfl (lv_at hl 2 rfl) ?_
                refine lv_iload_n hx hb dX12_written_81 rfl (lv_at hl 3 rfl) ?_
                obtain ⟨u_11, hu_11, hF⟩ := obd_some hF
                have hPc := hP.sub (ws' := (wd_X12_y cI a0 v0_2 v0_3 v0_5 v0_12 v0_13 v0_16 v0_17 v0_21 v0_23 v0_24 v0_25 v0_26 u_10.1 v0_30 v0_0)) [0, 1] rfl
                have hDc := hD.sub (ws' := (wd_X12_y cI a0 v0_2 v0_3 v0_5 v0_12 v0_13 v0_16 v0_17 v0_21 v0_23 v0_24 v0_25 v0_26 u_10.1 v0_30 v0_0)) [0, 1] rfl rfl
                refine q_calli (wc := (wd_X12_y cI a0 v0_2 v0_3 v0_5 v0_12 v0_13 v0_16 v0_17 v0_21 v0_23 v0_24 v0_25 v0_26 u_10.1 v0_30 v0_0)) (w1 := (wd_X12_y cI a0 v0_2 v0_3 v0_5 v0_12 v0_13 v0_16 v0_17 v0_21 v0_23 v0_24 v0_25 v0_26 u_10.1 v0_30 v0_0)) (ws' := (wd_X12_written cI a0 v0_2 v0_3 v0_5 v0_12 v0_13 v0_16 v0_17 v0_21 v0_23 v0_24 v0_25 v0_26 u_10.1 v0_30 v0_0 u_10.2)) hP hD hS hA [0, 1] [2] [1, 2, 0] rfl rfl rfl (by decide) rfl rfl (va_runV (As := [.int x2, .int x3]) (rest := [.ref (a0 0)]) ⟨hx, hb, hml, hown, hta⟩ (c_X12_y l dC dI cI H.size a0 v0_2 v0_3 v0_5 v0_12 v0_13 v0_16 v0_17 v0_21 v0_23 v0_24 v0_25 v0_26 u_10.1 v0_30 v0_0 x2 x3 u_11 hu_11) (cwV 2 hta (ga_V mA873 mA874 mA875 mA814 mA832) rfl rfl rfl (by decide +kernel) ⟨Nat.le_of_ble_eq_true rfl, Nat.le_of_ble_eq_true rfl⟩) ⟨q_fb, va_recv hK hP (ci := 11) (q0 := 0) rfl rfl, q_ps hPc hK hDc⟩ rfl rfl hl.1 rfl (lv_room (Nat.le_of_ble_eq_true rfl)) dX12_written_82 ⟨Nat.zero_le _, Nat.zero_le _⟩) (fun H locs hP hD hS => ?_)
                obtain ⟨u_12, hu_12, hF⟩ := obd_some hF
                have hPc := hP.sub (ws' := (wd_X12_writesNumber cI a0 v0_2 v0_3 v0_5 v0_12 v0_13 v0_16 v0_17 v0_21 v0_23 v0_24 v0_25 v0_26 u_10.1 v0_30 u_10.2)) [0, 2] rfl
                have hDc := hD.sub (ws' := (wd_X12_writesNumber cI a0 v0_2 v0_3 v0_5 v0_12 v0_13 v0_16 v0_17 v0_21 v0_23 v0_24 v0_25 v0_26 u_10.1 v0_30 u_10.2)) [0, 2] rfl rfl
                refine q_callv (wc := (wd_X12_writesNumber cI a0 v0_2 v0_3 v0_5 v0_12 v0_13 v0_16 v0_17 v0_21 v0_23 v0_24 v0_25 v0_26 u_10.1 v0_30 u_10.2)) (w1 := (wd_X12_writesNumber cI a0 v0_2 v0_3 v0_5 v0_12 v0_13 v0_16 v0_17 v0_21 v0_23 v0_24 v0_25 v0_26 u_12.1 v0_30 u_12.2)) (ws' := (wd_X12_written cI a0 v0_2 v0_3 v0_5 v0_12 v0_13 v0_16 v0_17 v0_21 v0_23 v0_24 v0_25 v0_26 u_12.1 v0_30 v0_0 u_12.2)) hP hD hS hA [0, 2] [1] [1, 0, 2] rfl rfl rfl (by decide) rfl rfl (va_runV (As := [.int u_11]) (rest := []) ⟨hx, hb, hml, hown, hta⟩ (c_X12_writesNumber l dC dI cI H.size a0 v0_2 v0_3 v0_5 v0_12 v0_13 v0_16 v0_17 v0_21 v0_23 v0_24 v0_25 v0_26 u_10.1 v0_30 u_10.2 u_11 n u_12 hu_12) (cwV 1 hta (ga_V mA1095 mA1096 mA1097 mA814 mA1090) rfl rfl rfl (by decide +kernel) ⟨Nat.le_of_ble_eq_true rfl, Nat.le_of_ble_eq_true rfl⟩) ⟨q_fb, va_recv hK hP (ci := 11) (q0 := 0) rfl rfl, q_ps hPc hK hDc⟩ rfl rfl hl.1 rfl (lv_room (Nat.le_of_ble_eq_true rfl)) dX12_written_85 ⟨Nat.zero_le _, Nat.zero_le _⟩) (fun H locs hP hD hS => ?_)
                obtain ⟨y_13, ey_13, hF⟩ := lt_some hF
                refine lv_iinc (v := y_13) (lv' := [(3, .int y_13), (0, .ref (a0 0)), (1, .int x1), (2, .int x2)]) hx hb dX12_written_88 hl (k := 3) rfl (by rw [ey_13]; rfl) (by decide) rfl (fun ls hl => ?_)
                refine lv_goto (tgt := 38) hx hb dX12_written_91 (by decide) ?_
                obtain rfl := Option.some.inj hF
                exact ih_38 _ hO_38 _ _ _ hP hD hS (lv_sub hl [1, 2, 3, 0] rfl)
              refine lv_iload_n hx hb dX12_written_38 rfl (lv_at hl 3 rfl) ?_
              refine lv_aload_n hx hb dX12_written_39 rfl (lv_at hl 0 rfl) ?_
              refine lv_iload_n hx hb dX12_written_40 rfl (lv_at hl 2 rfl) ?_
              obtain ⟨u_14, hu_14, hF⟩ := obd_some hF
              have hPc := hP.sub (ws' := (wd_X12_points cI a0 v0_2 v0_3 v0_5 v0_12 v0_13 v0_16 v0_17 v0_21 v0_23 v0_24 v0_25 v0_26 s38.2.1 v0_30 v0_0)) [0, 1] rfl
              have hDc := hD.sub (ws' := (wd_X12_points cI a0 v0_2 v0_3 v0_5 v0_12 v0_13 v0_16 v0_17 v0_21 v0_23 v0_24 v0_25 v0_26 s38.2.1 v0_30 v0_0)) [0, 1] rfl rfl
              refine q_calli (wc := (wd_X12_points cI a0 v0_2 v0_3 v0_5 v0_12 v0_13 v0_16 v0_17 v0_21 v0_23 v0_24 v0_25 v0_26 s38.2.1 v0_30 v0_0)) (w1 := (wd_X12_points cI a0 v0_2 v0_3 v0_5 v0_12 v0_13 v0_16 v0_17 v0_21 v0_23 v0_24 v0_25 v0_26 s38.2.1 v0_30 v0_0)) (ws' := (wd_X12_written cI a0 v0_2 v0_3 v0_5 v0_12 v0_13 v0_16 v0_17 v0_21 v0_23 v0_24 v0_25 v0_26 s38.2.1 v0_30 v0_0 s38.2.2)) hP hD hS hA [0, 1] [2] [1, 2, 0] rfl rfl rfl (by decide) rfl rfl (va_runV (As := [.int x2]) (rest := [.int s38.1]) ⟨hx, hb, hml, hown, hta⟩ (c_X12_points l dC dI cI H.size a0 v0_2 v0_3 v0_5 v0_12 v0_13 v0_16 v0_17 v0_21 v0_23 v0_24 v0_25 v0_26 s38.2.1 v0_30 v0_0 x2 u_14 hu_14) (cwV 1 hta (ga_V mA839 mA840 mA841 mA814 mA827) rfl rfl rfl (by decide +kernel) ⟨Nat.le_of_ble_eq_true rfl, Nat.le_of_ble_eq_true rfl⟩) ⟨q_fb, va_recv hK hP (ci := 11) (q0 := 0) rfl rfl, q_ps hPc hK hDc⟩ rfl rfl hl.1 rfl (lv_room (Nat.le_of_ble_eq_true rfl)) dX12_written_41 ⟨Nat.zero_le _, Nat.zero_le _⟩) (fun H locs hP hD hS => ?_)
              refine lv_icmp_ge (tgt := 94) hx hb dX12_written_44 (by decide) (fun c_15 => ?_) (fun c_15 => ?_)
              · have hF := it_t hF c_15
                obtain rfl := Option.some.inj hF
                obtain rfl := lpq_x hO_38
                have hF := hE_38
                exact j94 s38.2.1 s38.2.2 x2 hF _ _ _ hP hD hS (lv_sub hl [0, 1, 2] rfl)
              · have hF := it_f hF c_15
                refine lv_aload_n hx hb dX12_written_47 rfl (lv_at hl 0 rfl) ?_
                refine lv_iload_n hx hb dX12_written_48 rfl (lv_at hl 3 rfl) ?_
                refine lv_if_ne (tgt := 57) hx hb dX12_written_49 (by decide) (fun c_16 => ?_) (fun c_16 => ?_)
                · have hF := it_f hF c_16
                  refine lv_bipush (v := 76) hx hb dX12_written_57 (by decide) ?_
                  exact j59 s38.2.1 s38.2.2 s38.1 76 hF _ _ _ hP hD hS (lv_sub hl [0, 1, 2, 3] rfl)
                · have hF := it_t hF c_16
                  refine lv_bipush (v := 77) hx hb dX12_written_52 (by decide) ?_
                  refine lv_goto (tgt := 59) hx hb dX12_written_54 (by decide) ?_
                  exact j59 s38.2.1 s38.2.2 s38.1 77 hF _ _ _ hP hD hS (lv_sub hl [0, 1, 2, 3] rfl)
          exact kl_38 n _ hL_38 _ _ _ hP hD hS hl
        refine lv_iload_n hx hb dX12_written_25 rfl (lv_at hl 2 rfl) ?_
        refine lv_aload_n hx hb dX12_written_26 rfl (lv_at hl 0 rfl) ?_
        refine va_get (D := (dC, dI)) (ci := 11) (v := .ref (a0 1)) (C := RX12) (T := TX12) (N := 31) hx hb hta uw_X12 hown hK hP 0 rfl rfl 0 (by decide) (hta _ mA790) (fun _ h9 => h9) rfl dX12_written_27 ?_
        refine lv_bipush (v := 13) hx hb dX12_written_30 (by decide) ?_
        obtain ⟨g_17, hF⟩ := gd_some hF
        refine va_iald hx hb hK hP 1 0 rfl rfl (vpi_in g_17) dX12_written_32 ?_
        refine lv_icmp_ge (tgt := 114) hx hb dX12_written_33 (by decide) (fun c_18 => ?_) (fun c_18 => ?_)
        · have hF := it_t hF c_18
          obtain rfl := Option.some.inj hF
          obtain rfl := lpq_x hO_25
          have hF := hE_25
          exact j114 v0_3 s25.2.1 s25.2.2 x1 hF _ _ _ hP hD hS (lv_sub hl [0, 1] rfl)
        · have hF := it_f hF c_18
          refine lv_iconst (v := 0) hx hb dX12_written_36 (by decide) ?_
          refine lv_istore_n (lv' := [(3, .int 0), (0, .ref (a0 0)), (1, .int x1), (2, .int s25.1)]) hx hb dX12_written_37 rfl hl (by decide) rfl (fun ls hl => ?_)
          exact j38 s25.2.1 s25.2.2 s25.1 0 hF _ _ _ hP hD hS (lv_sub hl [1, 2, 3, 0] rfl)
    exact kl_25 n _ hL_25 _ _ _ hP hD hS hl
  have j10 : ∀ (v0_3 : Int32) (v0_29 : Int32) (v0_28 : Nat → Int32) (x1 : Int32) (t1 : Int32), F_X12_written_j10 n v0_29 v0_0 v0_28 x1 t1 = some u → ∀ (H : Heap) (locs : List Loc) (ls : Array Slot), va_P (dC, dI) vwCl (wd_X12_written cI a0 v0_2 v0_3 v0_5 v0_12 v0_13 v0_16 v0_17 v0_21 v0_23 v0_24 v0_25 v0_26 v0_29 v0_30 v0_0 v0_28) H → va_D A (wd_X12_written cI a0 v0_2 v0_3 v0_5 v0_12 v0_13 v0_16 v0_17 v0_21 v0_23 v0_24 v0_25 v0_26 v0_29 v0_30 v0_0 v0_28) → va_S A s.heap H locs → lv_has ls 4 [(0, .ref (a0 0)), (1, .int x1)] → W p l e (headSpec wz_X12_written rm_X12_written).room s m [.ref (a0 0), .int p1].toArray below meth c H locs 0 0 (MQ below (Q_X12_written dC dI cI a0 v0_2 v0_5 v0_12 v0_13 v0_16 v0_17 v0_21 v0_23 v0_24 v0_25 v0_26 v0_30 v0_0 u A) [.ref (a0 0), .int p1].toArray s 0 0 A) (F0 m 10 ls [.int t1, .ref (a0 0)]) := by
    intro v0_3 v0_29 v0_28 x1 t1 hF H locs ls hP hD hS hl
    unfold F_X12_written_j10 at hF
    obtain ⟨u_19, hu_19, hF⟩ := lt_some hF
    have hPc := hP.sub (ws' := (wd_X12_refused cI a0 v0_2 v0_3 v0_5 v0_12 v0_13 v0_16 v0_17 v0_21 v0_23 v0_24 v0_25 v0_26 v0_29 v0_30)) [0] rfl
    have hDc := hD.sub (ws' := (wd_X12_refused cI a0 v0_2 v0_3 v0_5 v0_12 v0_13 v0_16 v0_17 v0_21 v0_23 v0_24 v0_25 v0_26 v0_29 v0_30)) [0] rfl rfl
    refine q_callz (wc := (wd_X12_refused cI a0 v0_2 v0_3 v0_5 v0_12 v0_13 v0_16 v0_17 v0_21 v0_23 v0_24 v0_25 v0_26 v0_29 v0_30)) (w1 := (wd_X12_refused cI a0 v0_2 u_19.2 v0_5 v0_12 v0_13 v0_16 v0_17 v0_21 v0_23 v0_24 v0_25 v0_26 v0_29 v0_30)) (ws' := (wd_X12_written cI a0 v0_2 u_19.2 v0_5 v0_12 v0_13 v0_16 v0_17 v0_21 v0_23 v0_24 v0_25 v0_26 v0_29 v0_30 v0_0 v0_28)) hP hD hS hA [0] [1, 2] [2, 0, 1] rfl rfl rfl (by decide) rfl rfl (va_runV (As := [.int t1]) (rest := []) ⟨hx, hb, hml, hown, hta⟩ (c_X12_refused l dC dI cI H.size a0 v0_2 v0_3 v0_5 v0_12 v0_13 v0_16 v0_17 v0_21 v0_23 v0_24 v0_25 v0_26 v0_29 v0_30 t1 u_19 hu_19.symm) (cwV 1 hta (ga_V mA822 mA823 mA824 mA814 mA809) rfl rfl rfl (by decide +kernel) ⟨Nat.le_of_ble_eq_true rfl, Nat.le_of_ble_eq_true rfl⟩) ⟨q_fb, va_recv hK hP (ci := 11) (q0 := 0) rfl rfl, q_ps hPc hK hDc⟩ rfl rfl hl.1 rfl (lv_room (Nat.le_of_ble_eq_true rfl)) dX12_written_10 ⟨Nat.zero_le _, Nat.zero_le _⟩) (fun hzu_19 H locs hP hD hS => ?_)
    refine lv_if_eq (tgt := 18) hx hb dX12_written_13 (by decide) (fun c_20 => ?_) (fun c_20 => ?_)
    · have hF := it_t hF c_20
      refine lv_aload_n hx hb dX12_written_18 rfl (lv_at hl 0 rfl) ?_
      refine lv_iconst (v := 0) hx hb dX12_written_19 (by decide) ?_
      refine va_put (D := (dC, dI)) (ci := 11) (v := .int 0) (ty := .int) (C := RX12) (T := TX12) (N := 31) hx hb hta uw_X12 tyX12 tyX12_ok nmX12 hown hK hP hD hS 0 rfl rfl 29 (by decide) (hta _ mA1089) (fun _ h9 => h9) rfl (by decide +kernel) rfl rfl (Nat.le_of_ble_eq_true rfl) dX12_written_20 (fun H locs hP hD hS => ?_)
      have hP : va_P (dC, dI) vwCl (wd_X12_written cI a0 v0_2 u_19.2 v0_5 v0_12 v0_13 v0_16 v0_17 v0_21 v0_23 v0_24 v0_25 v0_26 0 v0_30 v0_0 v0_28) H := hP
      have hD : va_D A (wd_X12_written cI a0 v0_2 u_19.2 v0_5 v0_12 v0_13 v0_16 v0_17 v0_21 v0_23 v0_24 v0_25 v0_26 0 v0_30 v0_0 v0_28) := hD
      refine lv_iconst (v := 0) hx hb dX12_written_23 (by decide) ?_
      refine lv_istore_n (lv' := [(2, .int 0), (0, .ref (a0 0)), (1, .int x1)]) hx hb dX12_written_24 rfl hl (by decide) rfl (fun ls hl => ?_)
      exact j25 u_19.2 0 v0_28 x1 0 hF _ _ _ hP hD hS (lv_sub hl [1, 2, 0] rfl)
    · have hF := it_f hF c_20
      refine lv_iconst (v := 0) hx hb dX12_written_16 (by decide) ?_
      obtain rfl := Option.some.inj hF
      exact W.iret (v := 0) hx hb hr (fun t ht hW => ⟨⟨0, (), rfl, rfl, by rw [ht]; exact hP, va_K.moved hW.alike hK, hD⟩, hS.F ht⟩) hS.2.2 dX12_written_17
  refine lv_aload_n hx hb dX12_written_0 rfl (lv_at hl 0 rfl) ?_
  refine lv_iload_n hx hb dX12_written_1 rfl (lv_at hl 1 rfl) ?_
  refine lv_if_ge (tgt := 9) hx hb dX12_written_2 (by decide) (fun c_21 => ?_) (fun c_21 => ?_)
  · have hF := it_t hF c_21
    refine lv_iconst (v := 0) hx hb dX12_written_9 (by decide) ?_
    exact j10 v0_3 v0_29 v0_28 p1 0 hF _ _ _ hP hD hS (lv_sub hl [0, 1] rfl)
  · have hF := it_f hF c_21
    refine lv_iconst (v := 1) hx hb dX12_written_5 (by decide) ?_
    refine lv_goto (tgt := 10) hx hb dX12_written_6 (by decide) ?_
    exact j10 v0_3 v0_29 v0_28 p1 1 hF _ _ _ hP hD hS (lv_sub hl [0, 1] rfl)

-- StrokeOutlinerModel.mix(I)V
def F_X12_mix (v0_30 : Int64) (p1 : Int32) : (Int64) :=
  lt ((31 * v0_30) + p1.toInt64) (fun y_1 => y_1)
abbrev wd_X12_mix (cI : ClassId) (a0 : Nat → Nat) (v0_2 : Int32) (v0_3 : Int32) (v0_5 : Int32) (v0_12 : Int32) (v0_13 : Int32) (v0_16 : Int32) (v0_17 : Int32) (v0_21 : Int32) (v0_23 : Int32) (v0_24 : Int32) (v0_25 : Int32) (v0_26 : Int32) (v0_29 : Int32) (v0_30 : Int64) : va_W := [(a0 0, .inr (11, [.ref (a0 1), .ref (a0 2), .int v0_2, .int v0_3, .ref (a0 5), .int v0_5, .ref (a0 7), .ref (a0 8), .ref (a0 9), .ref (a0 10), .ref (a0 11), .ref (a0 12), .int v0_12, .int v0_13, .ref (a0 15), .ref (a0 16), .int v0_16, .int v0_17, .ref (a0 19), .ref (a0 20), .ref (a0 21), .int v0_21, .ref (a0 23), .int v0_23, .int v0_24, .int v0_25, .int v0_26, .ref (a0 28), .ref (a0 29), .int v0_29, .long v0_30]))]
abbrev wz_X12_mix : List Cond := .code yX12_mix cX12_mix 2 none :: wALL
abbrev rm_X12_mix : Room := { frames := 0, cells := 0, slots := 0, locals := 0 }
abbrev Q_X12_mix (dC : Nat → ClassId) (dI : Nat → Nat → Nat) (cI : ClassId) (a0 : Nat → Nat) (v0_2 : Int32) (v0_3 : Int32) (v0_5 : Int32) (v0_12 : Int32) (v0_13 : Int32) (v0_16 : Int32) (v0_17 : Int32) (v0_21 : Int32) (v0_23 : Int32) (v0_24 : Int32) (v0_25 : Int32) (v0_26 : Int32) (v0_29 : Int32) (u : (Int64)) (A : Nat → Prop) : Array Value → State → Outcome → State → Prop := va_Qv (fun (_ : Unit) => True) (fun _ => q_at dC dI cI A (wd_X12_mix cI a0 v0_2 v0_3 v0_5 v0_12 v0_13 v0_16 v0_17 v0_21 v0_23 v0_24 v0_25 v0_26 v0_29 u)) A
set_option maxHeartbeats 4000000 in
set_option maxRecDepth 100000 in
theorem c_X12_mix (l : Launch) (dC : Nat → ClassId) (dI : Nat → Nat → Nat) (cI : ClassId) (sz : Nat) (a0 : Nat → Nat) (v0_2 : Int32) (v0_3 : Int32) (v0_5 : Int32) (v0_12 : Int32) (v0_13 : Int32) (v0_16 : Int32) (v0_17 : Int32) (v0_21 : Int32) (v0_23 : Int32) (v0_24 : Int32) (v0_25 : Int32) (v0_26 : Int32) (v0_29 : Int32) (v0_30 : Int64) (p1 : Int32) (u : (Int64)) (hF : F_X12_mix v0_30 p1 = u) : Met l yX12_mix wz_X12_mix rm_X12_mix (va_Pc [.ref (a0 0), .int p1] (q_pre dC dI cI (wd_X12_mix cI a0 v0_2 v0_3 v0_5 v0_12 v0_13 v0_16 v0_17 v0_21 v0_23 v0_24 v0_25 v0_26 v0_29 v0_30) sz)) (Q_X12_mix dC dI cI a0 v0_2 v0_3 v0_5 v0_12 v0_13 v0_16 v0_17 v0_21 v0_23 v0_24 v0_25 v0_26 v0_29 u (va_A (wd_X12_mix cI a0 v0_2 v0_3 v0_5 v0_12 v0_13 v0_16 v0_17 v0_21 v0_23 v0_24 v0_25 v0_26 v0_29 v0_30) sz)) 0 0 (va_A (wd_X12_mix cI a0 v0_2 v0_3 v0_5 v0_12 v0_13 v0_16 v0_17 v0_21 v0_23 v0_24 v0_25 v0_26 v0_29 v0_30) sz) := by
  refine Met.ofW (cc := cX12_mix) (maxL := 2) (ret := none) (by decide) rfl ?_
  intro p e s m args below meth c s₁ B hml hv
  obtain ⟨rfl, hsz, hP, hK, hD0⟩ := hv
  have hx := B.exec
  have hb := B.bytes
  have hr := B.returns
  have hts := atoms_spec (ws := wz_X12_mix) B.pre
  have hta := wz_tl hts
  have hown : s.vm.findClass RX12 = some m.cls := findClass_of_methodNamed B.named
  have hlocks := B.notSynchronized
  subst hsz
  have hD := hD0.self (sz := s.heap.size)
  generalize hAe : va_A (wd_X12_mix cI a0 v0_2 v0_3 v0_5 v0_12 v0_13 v0_16 v0_17 v0_21 v0_23 v0_24 v0_25 v0_26 v0_29 v0_30) s.heap.size = A at hD ⊢
  have hA : ∀ q : Nat, s.heap.size ≤ q → A q := fun q h => by rw [← hAe]; exact Or.inr h
  have hS : va_S A s.heap s.heap [] := va_S.rf
  have hP : va_P (dC, dI) vwCl (wd_X12_mix cI a0 v0_2 v0_3 v0_5 v0_12 v0_13 v0_16 v0_17 v0_21 v0_23 v0_24 v0_25 v0_26 v0_29 v0_30) s.heap := hP
  have hl := lv_entry ([.ref (a0 0), .int p1]) (n := 2) (Nat.le_of_ble_eq_true rfl)
  rw [lg_entry_eq]
  generalize (lg_sl ([.ref (a0 0), .int p1]) ++ List.replicate (2 - (lg_sl ([.ref (a0 0), .int p1])).length) Slot.unset).toArray = ls at hl ⊢
  have hl : lv_has ls 2 [(0, .ref (a0 0)), (1, .int p1)] := hl
  obtain ⟨H, hHe⟩ : ∃ H, H = s.heap := ⟨_, rfl⟩
  have hS : va_S A s.heap H [] := by rw [hHe]; exact hS
  have hP : va_P (dC, dI) vwCl (wd_X12_mix cI a0 v0_2 v0_3 v0_5 v0_12 v0_13 v0_16 v0_17 v0_21 v0_23 v0_24 v0_25 v0_26 v0_29 v0_30) H := by rw [hHe]; exact hP
  rw [← hHe]
  unfold F_X12_mix at hF
  refine lv_aload_n hx hb dX12_mix_0 rfl (lv_at hl 0 rfl) ?_
  refine lv_ldc2 (v := 31) hx hb hown (hta _ mA1099) dX12_mix_1 ?_
  refine lv_aload_n hx hb dX12_mix_4 rfl (lv_at hl 0 rfl) ?_
  refine va_get (D := (dC, dI)) (ci := 11) (v := .long v0_30) (C := RX12) (T := TX12) (N := 31) hx hb hta uw_X12 hown hK hP 0 rfl rfl 30 (by decide) (hta _ mA1100) (fun _ h9 => h9) rfl dX12_mix_5 ?_
  refine lv_lmul hx hb dX12_mix_8 ?_
  refine lv_iload_n hx hb dX12_mix_9 rfl (lv_at hl 1 rfl) ?_
  refine lv_i2l hx hb dX12_mix_10 rfl ?_
  refine lv_ladd hx hb dX12_mix_11 ?_
  obtain ⟨y_1, ey_1, hF⟩ := lt_some hF
  refine lv_eql ey_1 ?_
  refine va_put (D := (dC, dI)) (ci := 11) (v := .long y_1) (ty := .long) (C := RX12) (T := TX12) (N := 31) hx hb hta uw_X12 tyX12 tyX12_ok nmX12 hown hK hP hD hS 0 rfl rfl 30 (by decide) (hta _ mA1100) (fun _ h9 => h9) rfl (by decide +kernel) rfl rfl (Nat.le_of_ble_eq_true rfl) dX12_mix_12 (fun H locs hP hD hS => ?_)
  have hP : va_P (dC, dI) vwCl (wd_X12_mix cI a0 v0_2 v0_3 v0_5 v0_12 v0_13 v0_16 v0_17 v0_21 v0_23 v0_24 v0_25 v0_26 v0_29 y_1) H := hP
  have hD : va_D A (wd_X12_mix cI a0 v0_2 v0_3 v0_5 v0_12 v0_13 v0_16 v0_17 v0_21 v0_23 v0_24 v0_25 v0_26 v0_29 y_1) := hD
  subst hF
  exact W.vret hx hb hr (fun t ht hW => ⟨⟨(), rfl, trivial, by rw [ht]; exact hP, va_K.moved hW.alike hK, hD⟩, hS.F ht⟩) hS.2.2 dX12_mix_15

-- StrokeOutlinerModel.mixAll(II)V
def F_X12_mixAll_b2 (v0_0 : Nat → Int32) (x1 : Int32) (x2 : Int32) (s2 : Int32 × Int64) : Option (Sum (Int32 × Int64) (Int64)) :=
  if (x1 + x2) ≤ s2.1 then some (.inr s2.2) else gd (decide (vpi s2.1 86)) (lt (F_X12_mix s2.2 (v0_0 s2.1.toNatClampNeg)) (fun u_3 => lt (s2.1 + 1) (fun y_4 => some (.inl (y_4, u_3)))))
def F_X12_mixAll_j2 (n : Nat) (v0_30 : Int64) (v0_0 : Nat → Int32) (x1 : Int32) (x2 : Int32) (x3 : Int32) : Option (Int64) :=
  obd (lpq (F_X12_mixAll_b2 v0_0 x1 x2) n (x3, v0_30)) (fun x_2 => some x_2)
def F_X12_mixAll (n : Nat) (v0_30 : Int64) (v0_0 : Nat → Int32) (p1 : Int32) (p2 : Int32) : Option (Int64) :=
  F_X12_mixAll_j2 n v0_30 v0_0 p1 p2 p1
abbrev wd_X12_mixAll (cI : ClassId) (a0 : Nat → Nat) (v0_2 : Int32) (v0_3 : Int32) (v0_5 : Int32) (v0_12 : Int32) (v0_13 : Int32) (v0_16 : Int32) (v0_17 : Int32) (v0_21 : Int32) (v0_23 : Int32) (v0_24 : Int32) (v0_25 : Int32) (v0_26 : Int32) (v0_29 : Int32) (v0_30 : Int64) (v0_0 : Nat → Int32) : va_W := [(a0 0, .inr (11, [.ref (a0 1), .ref (a0 2), .int v0_2, .int v0_3, .ref (a0 5), .int v0_5, .ref (a0 7), .ref (a0 8), .ref (a0 9), .ref (a0 10), .ref (a0 11), .ref (a0 12), .int v0_12, .int v0_13, .ref (a0 15), .ref (a0 16), .int v0_16, .int v0_17, .ref (a0 19), .ref (a0 20), .ref (a0 21), .int v0_21, .ref (a0 23), .int v0_23, .int v0_24, .int v0_25, .int v0_26, .ref (a0 28), .ref (a0 29), .int v0_29, .long v0_30])), (a0 1, .inl (cI, 86, .inl v0_0))]
abbrev wz_X12_mixAll : List Cond := .code yX12_mixAll cX12_mixAll 4 none :: wALL
abbrev rm_X12_mixAll : Room := { frames := 1, cells := 0, slots := 0, locals := 21 }
abbrev Q_X12_mixAll (dC : Nat → ClassId) (dI : Nat → Nat → Nat) (cI : ClassId) (a0 : Nat → Nat) (v0_2 : Int32) (v0_3 : Int32) (v0_5 : Int32) (v0_12 : Int32) (v0_13 : Int32) (v0_16 : Int32) (v0_17 : Int32) (v0_21 : Int32) (v0_23 : Int32) (v0_24 : Int32) (v0_25 : Int32) (v0_26 : Int32) (v0_29 : Int32) (v0_0 : Nat → Int32) (u : (Int64)) (A : Nat → Prop) : Array Value → State → Outcome → State → Prop := va_Qv (fun (_ : Unit) => True) (fun _ => q_at dC dI cI A (wd_X12_mixAll cI a0 v0_2 v0_3 v0_5 v0_12 v0_13 v0_16 v0_17 v0_21 v0_23 v0_24 v0_25 v0_26 v0_29 u v0_0)) A
set_option maxHeartbeats 4000000 in
set_option maxRecDepth 100000 in
theorem c_X12_mixAll (l : Launch) (dC : Nat → ClassId) (dI : Nat → Nat → Nat) (cI : ClassId) (sz : Nat) (a0 : Nat → Nat) (v0_2 : Int32) (v0_3 : Int32) (v0_5 : Int32) (v0_12 : Int32) (v0_13 : Int32) (v0_16 : Int32) (v0_17 : Int32) (v0_21 : Int32) (v0_23 : Int32) (v0_24 : Int32) (v0_25 : Int32) (v0_26 : Int32) (v0_29 : Int32) (v0_30 : Int64) (v0_0 : Nat → Int32) (p1 : Int32) (p2 : Int32) (n : Nat) (u : (Int64)) (hF : F_X12_mixAll n v0_30 v0_0 p1 p2 = some u) : Met l yX12_mixAll wz_X12_mixAll rm_X12_mixAll (va_Pc [.ref (a0 0), .int p1, .int p2] (q_pre dC dI cI (wd_X12_mixAll cI a0 v0_2 v0_3 v0_5 v0_12 v0_13 v0_16 v0_17 v0_21 v0_23 v0_24 v0_25 v0_26 v0_29 v0_30 v0_0) sz)) (Q_X12_mixAll dC dI cI a0 v0_2 v0_3 v0_5 v0_12 v0_13 v0_16 v0_17 v0_21 v0_23 v0_24 v0_25 v0_26 v0_29 v0_0 u (va_A (wd_X12_mixAll cI a0 v0_2 v0_3 v0_5 v0_12 v0_13 v0_16 v0_17 v0_21 v0_23 v0_24 v0_25 v0_26 v0_29 v0_30 v0_0) sz)) 0 0 (va_A (wd_X12_mixAll cI a0 v0_2 v0_3 v0_5 v0_12 v0_13 v0_16 v0_17 v0_21 v0_23 v0_24 v0_25 v0_26 v0_29 v0_30 v0_0) sz) := by
  refine Met.ofW (cc := cX12_mixAll) (maxL := 4) (ret := none) (by decide) rfl ?_
  intro p e s m args below meth c s₁ B hml hv
  obtain ⟨rfl, hsz, hP, hK, hD0⟩ := hv
  have hx := B.exec
  have hb := B.bytes
  have hr := B.returns
  have hts := atoms_spec (ws := wz_X12_mixAll) B.pre
  have hta := wz_tl hts
  have hown : s.vm.findClass RX12 = some m.cls := findClass_of_methodNamed B.named
  have hlocks := B.notSynchronized
  subst hsz
  have hD := hD0.self (sz := s.heap.size)
  generalize hAe : va_A (wd_X12_mixAll cI a0 v0_2 v0_3 v0_5 v0_12 v0_13 v0_16 v0_17 v0_21 v0_23 v0_24 v0_25 v0_26 v0_29 v0_30 v0_0) s.heap.size = A at hD ⊢
  have hA : ∀ q : Nat, s.heap.size ≤ q → A q := fun q h => by rw [← hAe]; exact Or.inr h
  have hS : va_S A s.heap s.heap [] := va_S.rf
  have hP : va_P (dC, dI) vwCl (wd_X12_mixAll cI a0 v0_2 v0_3 v0_5 v0_12 v0_13 v0_16 v0_17 v0_21 v0_23 v0_24 v0_25 v0_26 v0_29 v0_30 v0_0) s.heap := hP
  have hl := lv_entry ([.ref (a0 0), .int p1, .int p2]) (n := 4) (Nat.le_of_ble_eq_true rfl)
  rw [lg_entry_eq]
  generalize (lg_sl ([.ref (a0 0), .int p1, .int p2]) ++ List.replicate (4 - (lg_sl ([.ref (a0 0), .int p1, .int p2])).length) Slot.unset).toArray = ls at hl ⊢
  have hl : lv_has ls 4 [(0, .ref (a0 0)), (1, .int p1), (2, .int p2)] := hl
  obtain ⟨H, hHe⟩ : ∃ H, H = s.heap := ⟨_, rfl⟩
  have hS : va_S A s.heap H [] := by rw [hHe]; exact hS
  have hP : va_P (dC, dI) vwCl (wd_X12_mixAll cI a0 v0_2 v0_3 v0_5 v0_12 v0_13 v0_16 v0_17 v0_21 v0_23 v0_24 v0_25 v0_26 v0_29 v0_30 v0_0) H := by rw [hHe]; exact hP
  rw [← hHe]
  unfold F_X12_mixAll at hF
  have j2 : ∀ (v0_30 : Int64) (x1 : Int32) (x2 : Int32) (x3 : Int32), F_X12_mixAll_j2 n v0_30 v0_0 x1 x2 x3 = some u → ∀ (H : Heap) (locs : List Loc) (ls : Array Slot), va_P (dC, dI) vwCl (wd_X12_mixAll cI a0 v0_2 v0_3 v0_5 v0_12 v0_13 v0_16 v0_17 v0_21 v0_23 v0_24 v0_25 v0_26 v0_29 v0_30 v0_0) H → va_D A (wd_X12_mixAll cI a0 v0_2 v0_3 v0_5 v0_12 v0_13 v0_16 v0_17 v0_21 v0_23 v0_24 v0_25 v0_26 v0_29 v0_30 v0_0) → va_S A s.heap H locs → lv_has ls 4 [(0, .ref (a0 0)), (1, .int x1), (2, .int x2), (3, .int x3)] → W p l e (headSpec wz_X12_mixAll rm_X12_mixAll).room s m [.ref (a0 0), .int p1, .int p2].toArray below meth c H locs 0 0 (MQ below (Q_X12_mixAll dC dI cI a0 v0_2 v0_3 v0_5 v0_12 v0_13 v0_16 v0_17 v0_21 v0_23 v0_24 v0_25 v0_26 v0_29 v0_0 u A) [.ref (a0 0), .int p1, .int p2].toArray s 0 0 A) (F0 m 2 ls []) := by
    intro v0_30 x1 x2 x3 hF H locs ls hP hD hS hl
    unfold F_X12_mixAll_j2 at hF
    obtain ⟨x_2, hL_2, hE_2⟩ := obd_some hF
    have kl_2 : ∀ (k : Nat) (s2 : Int32 × Int64), lpq (F_X12_mixAll_b2 v0_0 x1 x2) k s2 = some x_2 → ∀ (H : Heap) (locs : List Loc) (ls : Array Slot), va_P (dC, dI) vwCl (wd_X12_mixAll cI a0 v0_2 v0_3 v0_5 v0_12 v0_13 v0_16 v0_17 v0_21 v0_23 v0_24 v0_25 v0_26 v0_29 s2.2 v0_0) H → va_D A (wd_X12_mixAll cI a0 v0_2 v0_3 v0_5 v0_12 v0_13 v0_16 v0_17 v0_21 v0_23 v0_24 v0_25 v0_26 v0_29 s2.2 v0_0) → va_S A s.heap H locs → lv_has ls 4 [(0, .ref (a0 0)), (1, .int x1), (2, .int x2), (3, .int s2.1)] → W p l e (headSpec wz_X12_mixAll rm_X12_mixAll).room s m [.ref (a0 0), .int p1, .int p2].toArray below meth c H locs 0 0 (MQ below (Q_X12_mixAll dC dI cI a0 v0_2 v0_3 v0_5 v0_12 v0_13 v0_16 v0_17 v0_21 v0_23 v0_24 v0_25 v0_26 v0_29 v0_0 u A) [.ref (a0 0), .int p1, .int p2].toArray s 0 0 A) (F0 m 2 ls []) := by
      intro k
      induction k with
      | zero => intro s2 h; exact absurd h lpq_zero
      | succ k ih_2 =>
        intro s2 h H locs ls hP hD hS hl
        obtain ⟨o_2, hF, hO_2⟩ := lpq_succ h
        unfold F_X12_mixAll_b2 at hF
        refine lv_iload_n hx hb dX12_mixAll_2 rfl (lv_at hl 3 rfl) ?_
        refine lv_iload_n hx hb dX12_mixAll_3 rfl (lv_at hl 1 rfl) ?_
        refine lv_iload_n hx hb dX12_mixAll_4 rfl (lv_at hl 2 rfl) ?_
        refine lv_iadd hx hb dX12_mixAll_5 ?_
        refine lv_icmp_ge (tgt := 25) hx hb dX12_mixAll_6 (by decide) (fun c_1 => ?_) (fun c_1 => ?_)
        · have hF := it_t hF c_1
          obtain rfl := Option.some.inj hF
          obtain rfl := lpq_x hO_2
          have hF := hE_2
          obtain rfl := Option.some.inj hF
          exact W.vret hx hb hr (fun t ht hW => ⟨⟨(), rfl, trivial, by rw [ht]; exact hP, va_K.moved hW.alike hK, hD⟩, hS.F ht⟩) hS.2.2 dX12_mixAll_25
        · have hF := it_f hF c_1
          refine lv_aload_n hx hb dX12_mixAll_9 rfl (lv_at hl 0 rfl) ?_
          refine lv_aload_n hx hb dX12_mixAll_10 rfl (lv_at hl 0 rfl) ?_
          refine va_get (D := (dC, dI)) (ci := 11) (v := .ref (a0 1)) (C := RX12) (T := TX12) (N := 31) hx hb hta uw_X12 hown hK hP 0 rfl rfl 0 (by decide) (hta _ mA790) (fun _ h9 => h9) rfl dX12_mixAll_11 ?_
          refine lv_iload_n hx hb dX12_mixAll_14 rfl (lv_at hl 3 rfl) ?_
          obtain ⟨g_2, hF⟩ := gd_some hF
          refine va_iald hx hb hK hP 1 0 rfl rfl (vpi_in g_2) dX12_mixAll_15 ?_
          obtain ⟨u_3, hu_3, hF⟩ := lt_some hF
          have hPc := hP.sub (ws' := (wd_X12_mix cI a0 v0_2 v0_3 v0_5 v0_12 v0_13 v0_16 v0_17 v0_21 v0_23 v0_24 v0_25 v0_26 v0_29 s2.2)) [0] rfl
          have hDc := hD.sub (ws' := (wd_X12_mix cI a0 v0_2 v0_3 v0_5 v0_12 v0_13 v0_16 v0_17 v0_21 v0_23 v0_24 v0_25 v0_26 v0_29 s2.2)) [0] rfl rfl
          refine q_callv (wc := (wd_X12_mix cI a0 v0_2 v0_3 v0_5 v0_12 v0_13 v0_16 v0_17 v0_21 v0_23 v0_24 v0_25 v0_26 v0_29 s2.2)) (w1 := (wd_X12_mix cI a0 v0_2 v0_3 v0_5 v0_12 v0_13 v0_16 v0_17 v0_21 v0_23 v0_24 v0_25 v0_26 v0_29 u_3)) (ws' := (wd_X12_mixAll cI a0 v0_2 v0_3 v0_5 v0_12 v0_13 v0_16 v0_17 v0_21 v0_23 v0_24 v0_25 v0_26 v0_29 u_3 v0_0)) hP hD hS hA [0] [1] [1, 0] rfl rfl rfl (by decide) rfl rfl (va_runV (As := [.int (v0_0 s2.1.toNatClampNeg)]) (rest := []) ⟨hx, hb, hml, hown, hta⟩ (c_X12_mix l dC dI cI H.size a0 v0_2 v0_3 v0_5 v0_12 v0_13 v0_16 v0_17 v0_21 v0_23 v0_24 v0_25 v0_26 v0_29 s2.2 (v0_0 s2.1.toNatClampNeg) u_3 hu_3.symm) (cwV 1 hta (ga_V mA1102 mA1103 mA1104 mA814 mA1098) rfl rfl rfl (by decide +kernel) ⟨Nat.le_of_ble_eq_true rfl, Nat.le_of_ble_eq_true rfl⟩) ⟨q_fb, va_recv hK hP (ci := 11) (q0 := 0) rfl rfl, q_ps hPc hK hDc⟩ rfl rfl hl.1 rfl (lv_room (Nat.le_of_ble_eq_true rfl)) dX12_mixAll_16 ⟨Nat.zero_le _, Nat.zero_le _⟩) (fun H locs hP hD hS => ?_)
          obtain ⟨y_4, ey_4, hF⟩ := lt_some hF
          refine lv_iinc (v := y_4) (lv' := [(3, .int y_4), (0, .ref (a0 0)), (1, .int x1), (2, .int x2)]) hx hb dX12_mixAll_19 hl (k := 3) rfl (by rw [ey_4]; rfl) (by decide) rfl (fun ls hl => ?_)
          refine lv_goto (tgt := 2) hx hb dX12_mixAll_22 (by decide) ?_
          obtain rfl := Option.some.inj hF
          exact ih_2 _ hO_2 _ _ _ hP hD hS (lv_sub hl [1, 2, 3, 0] rfl)
    exact kl_2 n _ hL_2 _ _ _ hP hD hS hl
  refine lv_iload_n hx hb dX12_mixAll_0 rfl (lv_at hl 1 rfl) ?_
  refine lv_istore_n (lv' := [(3, .int p1), (0, .ref (a0 0)), (1, .int p1), (2, .int p2)]) hx hb dX12_mixAll_1 rfl hl (by decide) rfl (fun ls hl => ?_)
  exact j2 v0_30 p1 p2 p1 hF _ _ _ hP hD hS (lv_sub hl [1, 2, 3, 0] rfl)

-- StrokeOutlinerModel.mixSubpath(I)V
def F_X12_mixSubpath_j86 (v0_21 : Int32) (v0_30 : Int64) (v0_18 : Nat → Int32) (v0_19 : Nat → Int32) (v0_20 : Nat → Int32) (x2 : Int32) : Option (Sum (Int32 × Int32 × Int64 × (Nat → Int32) × (Nat → Int32) × (Nat → Int32)) (Int32 × Int64 × (Nat → Int32) × (Nat → Int32) × (Nat → Int32))) :=
  lt (x2 + 1) (fun y_1 => some (.inl (y_1, v0_21, v0_30, v0_18, v0_19, v0_20)))
def F_X12_mixSubpath_b65 (n : Nat) (v0_12 : Int32) (v0_13 : Int32) (v0_17 : Int32) (v0_10 : Nat → Int32) (v0_11 : Nat → Int32) (v0_14 : Nat → Int32) (v0_15 : Nat → Int32) (x2 : Int32) (s65 : Int32 × Int32 × Int64 × (Nat → Int32) × (Nat → Int32) × (Nat → Int32)) : Option (Sum (Int32 × Int32 × Int64 × (Nat → Int32) × (Nat → Int32) × (Nat → Int32)) (Int32 × Int64 × (Nat → Int32) × (Nat → Int32) × (Nat → Int32))) :=
  if 4 ≤ s65.1 then some (.inr (s65.2.1, s65.2.2.1, s65.2.2.2.1, s65.2.2.2.2.1, s65.2.2.2.2.2)) else obd (F_X12_tellRun n v0_12 v0_13 v0_17 s65.2.1 v0_10 v0_11 v0_14 v0_15 s65.2.2.2.1 s65.2.2.2.2.1 s65.2.2.2.2.2 x2 s65.1) (fun u_3 => lt (F_X12_mix s65.2.2.1 u_3.1) (fun u_4 => lt (s65.1 + 1) (fun y_5 => some (.inl (y_5, u_3.2.1, u_4, u_3.2.2.1, u_3.2.2.2.1, u_3.2.2.2.2)))))
def F_X12_mixSubpath_j65 (n : Nat) (v0_12 : Int32) (v0_13 : Int32) (v0_17 : Int32) (v0_21 : Int32) (v0_30 : Int64) (v0_10 : Nat → Int32) (v0_11 : Nat → Int32) (v0_14 : Nat → Int32) (v0_15 : Nat → Int32) (v0_18 : Nat → Int32) (v0_19 : Nat → Int32) (v0_20 : Nat → Int32) (x2 : Int32) (x3 : Int32) : Option (Sum (Int32 × Int32 × Int64 × (Nat → Int32) × (Nat → Int32) × (Nat → Int32)) (Int32 × Int64 × (Nat → Int32) × (Nat → Int32) × (Nat → Int32))) :=
  obd (lpq (F_X12_mixSubpath_b65 n v0_12 v0_13 v0_17 v0_10 v0_11 v0_14 v0_15 x2) n (x3, v0_21, v0_30, v0_18, v0_19, v0_20)) (fun x_65 => F_X12_mixSubpath_j86 x_65.1 x_65.2.1 x_65.2.2.1 x_65.2.2.2.1 x_65.2.2.2.2 x2)
def F_X12_mixSubpath_b55 (n : Nat) (v0_12 : Int32) (v0_13 : Int32) (v0_16 : Int32) (v0_17 : Int32) (v0_10 : Nat → Int32) (v0_11 : Nat → Int32) (v0_14 : Nat → Int32) (v0_15 : Nat → Int32) (s55 : Int32 × Int32 × Int64 × (Nat → Int32) × (Nat → Int32) × (Nat → Int32)) : Option (Sum (Int32 × Int32 × Int64 × (Nat → Int32) × (Nat → Int32) × (Nat → Int32)) (Int32 × Int64 × (Nat → Int32) × (Nat → Int32) × (Nat → Int32))) :=
  if v0_16 ≤ s55.1 then some (.inr (s55.2.1, s55.2.2.1, s55.2.2.2.1, s55.2.2.2.2.1, s55.2.2.2.2.2)) else F_X12_mixSubpath_j65 n v0_12 v0_13 v0_17 s55.2.1 s55.2.2.1 v0_10 v0_11 v0_14 v0_15 s55.2.2.2.1 s55.2.2.2.2.1 s55.2.2.2.2.2 s55.1 0
def F_X12_mixSubpath_j55 (n : Nat) (v0_12 : Int32) (v0_13 : Int32) (v0_16 : Int32) (v0_17 : Int32) (v0_21 : Int32) (v0_30 : Int64) (v0_6 : Nat → Int32) (v0_7 : Nat → Int32) (v0_8 : Nat → Int32) (v0_9 : Nat → Int32) (v0_10 : Nat → Int32) (v0_11 : Nat → Int32) (v0_14 : Nat → Int32) (v0_15 : Nat → Int32) (v0_18 : Nat → Int32) (v0_19 : Nat → Int32) (v0_20 : Nat → Int32) (x2 : Int32) : Option (Int32 × Int32 × Int32 × Int32 × Int32 × Int64 × (Nat → Int32) × (Nat → Int32) × (Nat → Int32) × (Nat → Int32) × (Nat → Int32) × (Nat → Int32) × (Nat → Int32) × (Nat → Int32) × (Nat → Int32) × (Nat → Int32) × (Nat → Int32)) :=
  obd (lpq (F_X12_mixSubpath_b55 n v0_12 v0_13 v0_16 v0_17 v0_10 v0_11 v0_14 v0_15) n (x2, v0_21, v0_30, v0_18, v0_19, v0_20)) (fun x_55 => some (v0_12, v0_13, v0_16, v0_17, x_55.1, x_55.2.1, v0_6, v0_7, v0_8, v0_9, v0_10, v0_11, v0_14, v0_15, x_55.2.2.1, x_55.2.2.2.1, x_55.2.2.2.2))
def F_X12_mixSubpath_j23 (n : Nat) (v0_12 : Int32) (v0_13 : Int32) (v0_21 : Int32) (v0_30 : Int64) (v0_0 : Nat → Int32) (v0_6 : Nat → Int32) (v0_7 : Nat → Int32) (v0_8 : Nat → Int32) (v0_9 : Nat → Int32) (v0_10 : Nat → Int32) (v0_11 : Nat → Int32) (v0_14 : Nat → Int32) (v0_15 : Nat → Int32) (v0_18 : Nat → Int32) (v0_19 : Nat → Int32) (v0_20 : Nat → Int32) (x1 : Int32) : Option (Int32 × Int32 × Int32 × Int32 × Int32 × Int64 × (Nat → Int32) × (Nat → Int32) × (Nat → Int32) × (Nat → Int32) × (Nat → Int32) × (Nat → Int32) × (Nat → Int32) × (Nat → Int32) × (Nat → Int32) × (Nat → Int32) × (Nat → Int32)) :=
  lt (F_X12_at x1) (fun u_7 => obd (F_X12_points v0_0 x1) (fun u_8 => obd (F_X12_mixAll n v0_30 v0_0 (u_7 + 2) (2 * u_8)) (fun u_9 => obd (F_X12_laysRuns n v0_12 v0_13 v0_0 v0_6 v0_7 v0_8 v0_9 v0_10 v0_11 v0_14 v0_15 x1) (fun u_10 => lt (F_X12_mix u_9 u_10.2.2.1) (fun u_11 => F_X12_mixSubpath_j55 n u_10.1 u_10.2.1 u_10.2.2.1 u_10.2.2.2.1 v0_21 u_11 u_10.2.2.2.2.1 u_10.2.2.2.2.2.1 u_10.2.2.2.2.2.2.1 u_10.2.2.2.2.2.2.2.1 u_10.2.2.2.2.2.2.2.2.1 u_10.2.2.2.2.2.2.2.2.2.1 u_10.2.2.2.2.2.2.2.2.2.2.1 u_10.2.2.2.2.2.2.2.2.2.2.2 v0_18 v0_19 v0_20 0)))))
def F_X12_mixSubpath_b2 (n : Nat) (v0_0 : Nat → Int32) (x1 : Int32) (s2 : Int32 × Int32 × Int32 × Int64 × (Nat → Int32) × (Nat → Int32) × (Nat → Int32) × (Nat → Int32) × (Nat → Int32) × (Nat → Int32)) : Option (Sum (Int32 × Int32 × Int32 × Int64 × (Nat → Int32) × (Nat → Int32) × (Nat → Int32) × (Nat → Int32) × (Nat → Int32) × (Nat → Int32)) (Int32 × Int32 × Int64 × (Nat → Int32) × (Nat → Int32) × (Nat → Int32) × (Nat → Int32) × (Nat → Int32) × (Nat → Int32))) :=
  if 4 ≤ s2.1 then some (.inr (s2.2.1, s2.2.2.1, s2.2.2.2.1, s2.2.2.2.2.1, s2.2.2.2.2.2.1, s2.2.2.2.2.2.2.1, s2.2.2.2.2.2.2.2.1, s2.2.2.2.2.2.2.2.2.1, s2.2.2.2.2.2.2.2.2.2)) else obd (F_X12_tellSubpath n v0_0 s2.2.2.2.2.1 s2.2.2.2.2.2.1 s2.2.2.2.2.2.2.1 s2.2.2.2.2.2.2.2.1 s2.2.2.2.2.2.2.2.2.1 s2.2.2.2.2.2.2.2.2.2 x1 s2.1) (fun u_13 => lt (F_X12_mix s2.2.2.2.1 u_13.1) (fun u_14 => lt (s2.1 + 1) (fun y_15 => some (.inl (y_15, u_13.2.1, u_13.2.2.1, u_14, u_13.2.2.2.1, u_13.2.2.2.2.1, u_13.2.2.2.2.2.1, u_13.2.2.2.2.2.2.1, u_13.2.2.2.2.2.2.2.1, u_13.2.2.2.2.2.2.2.2)))))
def F_X12_mixSubpath_j2 (n : Nat) (v0_12 : Int32) (v0_13 : Int32) (v0_21 : Int32) (v0_30 : Int64) (v0_0 : Nat → Int32) (v0_6 : Nat → Int32) (v0_7 : Nat → Int32) (v0_8 : Nat → Int32) (v0_9 : Nat → Int32) (v0_10 : Nat → Int32) (v0_11 : Nat → Int32) (v0_14 : Nat → Int32) (v0_15 : Nat → Int32) (v0_18 : Nat → Int32) (v0_19 : Nat → Int32) (v0_20 : Nat → Int32) (x1 : Int32) (x2 : Int32) : Option (Int32 × Int32 × Int32 × Int32 × Int32 × Int64 × (Nat → Int32) × (Nat → Int32) × (Nat → Int32) × (Nat → Int32) × (Nat → Int32) × (Nat → Int32) × (Nat → Int32) × (Nat → Int32) × (Nat → Int32) × (Nat → Int32) × (Nat → Int32)) :=
  obd (lpq (F_X12_mixSubpath_b2 n v0_0 x1) n (x2, v0_12, v0_13, v0_30, v0_6, v0_7, v0_8, v0_9, v0_10, v0_11)) (fun x_2 => F_X12_mixSubpath_j23 n x_2.1 x_2.2.1 v0_21 x_2.2.2.1 v0_0 x_2.2.2.2.1 x_2.2.2.2.2.1 x_2.2.2.2.2.2.1 x_2.2.2.2.2.2.2.1 x_2.2.2.2.2.2.2.2.1 x_2.2.2.2.2.2.2.2.2 v0_14 v0_15 v0_18 v0_19 v0_20 x1)
def F_X12_mixSubpath (n : Nat) (v0_12 : Int32) (v0_13 : Int32) (v0_21 : Int32) (v0_30 : Int64) (v0_0 : Nat → Int32) (v0_6 : Nat → Int32) (v0_7 : Nat → Int32) (v0_8 : Nat → Int32) (v0_9 : Nat → Int32) (v0_10 : Nat → Int32) (v0_11 : Nat → Int32) (v0_14 : Nat → Int32) (v0_15 : Nat → Int32) (v0_18 : Nat → Int32) (v0_19 : Nat → Int32) (v0_20 : Nat → Int32) (p1 : Int32) : Option (Int32 × Int32 × Int32 × Int32 × Int32 × Int64 × (Nat → Int32) × (Nat → Int32) × (Nat → Int32) × (Nat → Int32) × (Nat → Int32) × (Nat → Int32) × (Nat → Int32) × (Nat → Int32) × (Nat → Int32) × (Nat → Int32) × (Nat → Int32)) :=
  F_X12_mixSubpath_j2 n v0_12 v0_13 v0_21 v0_30 v0_0 v0_6 v0_7 v0_8 v0_9 v0_10 v0_11 v0_14 v0_15 v0_18 v0_19 v0_20 p1 0
abbrev wd_X12_mixSubpath (cI : ClassId) (a0 : Nat → Nat) (v0_2 : Int32) (v0_3 : Int32) (v0_5 : Int32) (v0_12 : Int32) (v0_13 : Int32) (v0_16 : Int32) (v0_17 : Int32) (v0_21 : Int32) (v0_23 : Int32) (v0_24 : Int32) (v0_25 : Int32) (v0_26 : Int32) (v0_29 : Int32) (v0_30 : Int64) (v0_0 : Nat → Int32) (v0_6 : Nat → Int32) (v0_7 : Nat → Int32) (v0_8 : Nat → Int32) (v0_9 : Nat → Int32) (v0_10 : Nat → Int32) (v0_11 : Nat → Int32) (v0_14 : Nat → Int32) (v0_15 : Nat → Int32) (v0_18 : Nat → Int32) (v0_19 : Nat → Int32) (v0_20 : Nat → Int32) : va_W := [(a0 0, .inr (11, [.ref (a0 1), .ref (a0 2), .int v0_2, .int v0_3, .ref (a0 5), .int v0_5, .ref (a0 7), .ref (a0 8), .ref (a0 9), .ref (a0 10), .ref (a0 11), .ref (a0 12), .int v0_12, .int v0_13, .ref (a0 15), .ref (a0 16), .int v0_16, .int v0_17, .ref (a0 19), .ref (a0 20), .ref (a0 21), .int v0_21, .ref (a0 23), .int v0_23, .int v0_24, .int v0_25, .int v0_26, .ref (a0 28), .ref (a0 29), .int v0_29, .long v0_30])), (a0 1, .inl (cI, 86, .inl v0_0)), (a0 7, .inl (cI, 8, .inl v0_6)), (a0 8, .inl (cI, 8, .inl v0_7)), (a0 9, .inl (cI, 8, .inl v0_8)), (a0 10, .inl (cI, 8, .inl v0_9)), (a0 11, .inl (cI, 8, .inl v0_10)), (a0 12, .inl (cI, 8, .inl v0_11)), (a0 15, .inl (cI, 240, .inl v0_14)), (a0 16, .inl (cI, 240, .inl v0_15)), (a0 19, .inl (cI, 20, .inl v0_18)), (a0 20, .inl (cI, 20, .inl v0_19)), (a0 21, .inl (cI, 20, .inl v0_20))]
abbrev wz_X12_mixSubpath : List Cond := .code yX12_mixSubpath cX12_mixSubpath 4 none :: wALL
abbrev rm_X12_mixSubpath : Room := { frames := 5, cells := 0, slots := 0, locals := 116 }
abbrev Q_X12_mixSubpath (dC : Nat → ClassId) (dI : Nat → Nat → Nat) (cI : ClassId) (a0 : Nat → Nat) (v0_2 : Int32) (v0_3 : Int32) (v0_5 : Int32) (v0_23 : Int32) (v0_24 : Int32) (v0_25 : Int32) (v0_26 : Int32) (v0_29 : Int32) (v0_0 : Nat → Int32) (u : (Int32 × Int32 × Int32 × Int32 × Int32 × Int64 × (Nat → Int32) × (Nat → Int32) × (Nat → Int32) × (Nat → Int32) × (Nat → Int32) × (Nat → Int32) × (Nat → Int32) × (Nat → Int32) × (Nat → Int32) × (Nat → Int32) × (Nat → Int32))) (A : Nat → Prop) : Array Value → State → Outcome → State → Prop := va_Qv (fun (_ : Unit) => True) (fun _ => q_at dC dI cI A (wd_X12_mixSubpath cI a0 v0_2 v0_3 v0_5 u.1 u.2.1 u.2.2.1 u.2.2.2.1 u.2.2.2.2.1 v0_23 v0_24 v0_25 v0_26 v0_29 u.2.2.2.2.2.1 v0_0 u.2.2.2.2.2.2.1 u.2.2.2.2.2.2.2.1 u.2.2.2.2.2.2.2.2.1 u.2.2.2.2.2.2.2.2.2.1 u.2.2.2.2.2.2.2.2.2.2.1 u.2.2.2.2.2.2.2.2.2.2.2.1 u.2.2.2.2.2.2.2.2.2.2.2.2.1 u.2.2.2.2.2.2.2.2.2.2.2.2.2.1 u.2.2.2.2.2.2.2.2.2.2.2.2.2.2.1 u.2.2.2.2.2.2.2.2.2.2.2.2.2.2.2.1 u.2.2.2.2.2.2.2.2.2.2.2.2.2.2.2.2)) A
set_option maxHeartbeats 4000000 in
set_option maxRecDepth 100000 in
theorem c_X12_mixSubpath (l : Launch) (dC : Nat → ClassId) (dI : Nat → Nat → Nat) (cI : ClassId) (sz : Nat) (a0 : Nat → Nat) (v0_2 : Int32) (v0_3 : Int32) (v0_5 : Int32) (v0_12 : Int32) (v0_13 : Int32) (v0_16 : Int32) (v0_17 : Int32) (v0_21 : Int32) (v0_23 : Int32) (v0_24 : Int32) (v0_25 : Int32) (v0_26 : Int32) (v0_29 : Int32) (v0_30 : Int64) (v0_0 : Nat → Int32) (v0_6 : Nat → Int32) (v0_7 : Nat → Int32) (v0_8 : Nat → Int32) (v0_9 : Nat → Int32) (v0_10 : Nat → Int32) (v0_11 : Nat → Int32) (v0_14 : Nat → Int32) (v0_15 : Nat → Int32) (v0_18 : Nat → Int32) (v0_19 : Nat → Int32) (v0_20 : Nat → Int32) (p1 : Int32) (n : Nat) (u : (Int32 × Int32 × Int32 × Int32 × Int32 × Int64 × (Nat → Int32) × (Nat → Int32) × (Nat → Int32) × (Nat → Int32) × (Nat → Int32) × (Nat → Int32) × (Nat → Int32) × (Nat → Int32) × (Nat → Int32) × (Nat → Int32) × (Nat → Int32))) (hF : F_X12_mixSubpath n v0_12 v0_13 v0_21 v0_30 v0_0 v0_6 v0_7 v0_8 v0_9 v0_10 v0_11 v0_14 v0_15 v0_18 v0_19 v0_20 p1 = some u) : Met l yX12_mixSubpath wz_X12_mixSubpath rm_X12_mixSubpath (va_Pc [.ref (a0 0), .int p1] (q_pre dC dI cI (wd_X12_mixSubpath cI a0 v0_2 v0_3 v0_5 v0_12 v0_13 v0_16 v0_17 v0_21 v0_23 v0_24 v0_25 v0_26 v0_29 v0_30 v0_0 v0_6 v0_7 v0_8 v0_9 v0_10 v0_11 v0_14 v0_15 v0_18 v0_19 v0_20) sz)) (Q_X12_mixSubpath dC dI cI a0 v0_2 v0_3 v0_5 v0_23 v0_24 v0_25 v0_26 v0_29 v0_0 u (va_A (wd_X12_mixSubpath cI a0 v0_2 v0_3 v0_5 v0_12 v0_13 v0_16 v0_17 v0_21 v0_23 v0_24 v0_25 v0_26 v0_29 v0_30 v0_0 v0_6 v0_7 v0_8 v0_9 v0_10 v0_11 v0_14 v0_15 v0_18 v0_19 v0_20) sz)) 0 0 (va_A (wd_X12_mixSubpath cI a0 v0_2 v0_3 v0_5 v0_12 v0_13 v0_16 v0_17 v0_21 v0_23 v0_24 v0_25 v0_26 v0_29 v0_30 v0_0 v0_6 v0_7 v0_8 v0_9 v0_10 v0_11 v0_14 v0_15 v0_18 v0_19 v0_20) sz) := by
  refine Met.ofW (cc := cX12_mixSubpath) (maxL := 4) (ret := none) (by decide) rfl ?_
  intro p e s m args below meth c s₁ B hml hv
  obtain ⟨rfl, hsz, hP, hK, hD0⟩ := hv
  have hx := B.exec
  have hb := B.bytes
  have hr := B.returns
  have hts := atoms_spec (ws := wz_X12_mixSubpath) B.pre
  have hta := wz_tl hts
  have hown : s.vm.findClass RX12 = some m.cls := findClass_of_methodNamed B.named
  have hlocks := B.notSynchronized
  subst hsz
  have hD := hD0.self (sz := s.heap.size)
  generalize hAe : va_A (wd_X12_mixSubpath cI a0 v0_2 v0_3 v0_5 v0_12 v0_13 v0_16 v0_17 v0_21 v0_23 v0_24 v0_25 v0_26 v0_29 v0_30 v0_0 v0_6 v0_7 v0_8 v0_9 v0_10 v0_11 v0_14 v0_15 v0_18 v0_19 v0_20) s.heap.size = A at hD ⊢
  have hA : ∀ q : Nat, s.heap.size ≤ q → A q := fun q h => by rw [← hAe]; exact Or.inr h
  have hS : va_S A s.heap s.heap [] := va_S.rf
  have hP : va_P (dC, dI) vwCl (wd_X12_mixSubpath cI a0 v0_2 v0_3 v0_5 v0_12 v0_13 v0_16 v0_17 v0_21 v0_23 v0_24 v0_25 v0_26 v0_29 v0_30 v0_0 v0_6 v0_7 v0_8 v0_9 v0_10 v0_11 v0_14 v0_15 v0_18 v0_19 v0_20) s.heap := hP
  have hl := lv_entry ([.ref (a0 0), .int p1]) (n := 4) (Nat.le_of_ble_eq_true rfl)
  rw [lg_entry_eq]
  generalize (lg_sl ([.ref (a0 0), .int p1]) ++ List.replicate (4 - (lg_sl ([.ref (a0 0), .int p1])).length) Slot.unset).toArray = ls at hl ⊢
  have hl : lv_has ls 4 [(0, .ref (a0 0)), (1, .int p1)] := hl
  obtain ⟨H, hHe⟩ : ∃ H, H = s.heap := ⟨_, rfl⟩
  have hS : va_S A s.heap H [] := by rw [hHe]; exact hS
  have hP : va_P (dC, dI) vwCl (wd_X12_mixSubpath cI a0 v0_2 v0_3 v0_5 v0_12 v0_13 v0_16 v0_17 v0_21 v0_23 v0_24 v0_25 v0_26 v0_29 v0_30 v0_0 v0_6 v0_7 v0_8 v0_9 v0_10 v0_11 v0_14 v0_15 v0_18 v0_19 v0_20) H := by rw [hHe]; exact hP
  rw [← hHe]
  unfold F_X12_mixSubpath at hF
  have j55 : ∀ (v0_12 : Int32) (v0_13 : Int32) (v0_16 : Int32) (v0_17 : Int32) (v0_21 : Int32) (v0_30 : Int64) (v0_6 : Nat → Int32) (v0_7 : Nat → Int32) (v0_8 : Nat → Int32) (v0_9 : Nat → Int32) (v0_10 : Nat → Int32) (v0_11 : Nat → Int32) (v0_14 : Nat → Int32) (v0_15 : Nat → Int32) (v0_18 : Nat → Int32) (v0_19 : Nat → Int32) (v0_20 : Nat → Int32) (x2 : Int32), F_X12_mixSubpath_j55 n v0_12 v0_13 v0_16 v0_17 v0_21 v0_30 v0_6 v0_7 v0_8 v0_9 v0_10 v0_11 v0_14 v0_15 v0_18 v0_19 v0_20 x2 = some u → ∀ (H : Heap) (locs : List Loc) (ls : Array Slot), va_P (dC, dI) vwCl (wd_X12_mixSubpath cI a0 v0_2 v0_3 v0_5 v0_12 v0_13 v0_16 v0_17 v0_21 v0_23 v0_24 v0_25 v0_26 v0_29 v0_30 v0_0 v0_6 v0_7 v0_8 v0_9 v0_10 v0_11 v0_14 v0_15 v0_18 v0_19 v0_20) H → va_D A (wd_X12_mixSubpath cI a0 v0_2 v0_3 v0_5 v0_12 v0_13 v0_16 v0_17 v0_21 v0_23 v0_24 v0_25 v0_26 v0_29 v0_30 v0_0 v0_6 v0_7 v0_8 v0_9 v0_10 v0_11 v0_14 v0_15 v0_18 v0_19 v0_20) → va_S A s.heap H locs → lv_has ls 4 [(0, .ref (a0 0)), (2, .int x2)] → W p l e (headSpec wz_X12_mixSubpath rm_X12_mixSubpath).room s m [.ref (a0 0), .int p1].toArray below meth c H locs 0 0 (MQ below (Q_X12_mixSubpath dC dI cI a0 v0_2 v0_3 v0_5 v0_23 v0_24 v0_25 v0_26 v0_29 v0_0 u A) [.ref (a0 0), .int p1].toArray s 0 0 A) (F0 m 55 ls []) := by
    intro v0_12 v0_13 v0_16 v0_17 v0_21 v0_30 v0_6 v0_7 v0_8 v0_9 v0_10 v0_11 v0_14 v0_15 v0_18 v0_19 v0_20 x2 hF H locs ls hP hD hS hl
    unfold F_X12_mixSubpath_j55 at hF
    obtain ⟨x_55, hL_55, hE_55⟩ := obd_some hF
    have kl_55 : ∀ (k : Nat) (s55 : Int32 × Int32 × Int64 × (Nat → Int32) × (Nat → Int32) × (Nat → Int32)), lpq (F_X12_mixSubpath_b55 n v0_12 v0_13 v0_16 v0_17 v0_10 v0_11 v0_14 v0_15) k s55 = some x_55 → ∀ (H : Heap) (locs : List Loc) (ls : Array Slot), va_P (dC, dI) vwCl (wd_X12_mixSubpath cI a0 v0_2 v0_3 v0_5 v0_12 v0_13 v0_16 v0_17 s55.2.1 v0_23 v0_24 v0_25 v0_26 v0_29 s55.2.2.1 v0_0 v0_6 v0_7 v0_8 v0_9 v0_10 v0_11 v0_14 v0_15 s55.2.2.2.1 s55.2.2.2.2.1 s55.2.2.2.2.2) H → va_D A (wd_X12_mixSubpath cI a0 v0_2 v0_3 v0_5 v0_12 v0_13 v0_16 v0_17 s55.2.1 v0_23 v0_24 v0_25 v0_26 v0_29 s55.2.2.1 v0_0 v0_6 v0_7 v0_8 v0_9 v0_10 v0_11 v0_14 v0_15 s55.2.2.2.1 s55.2.2.2.2.1 s55.2.2.2.2.2) → va_S A s.heap H locs → lv_has ls 4 [(0, .ref (a0 0)), (2, .int s55.1)] → W p l e (headSpec wz_X12_mixSubpath rm_X12_mixSubpath).room s m [.ref (a0 0), .int p1].toArray below meth c H locs 0 0 (MQ below (Q_X12_mixSubpath dC dI cI a0 v0_2 v0_3 v0_5 v0_23 v0_24 v0_25 v0_26 v0_29 v0_0 u A) [.ref (a0 0), .int p1].toArray s 0 0 A) (F0 m 55 ls []) := by
      intro k
      induction k with
      | zero => intro s55 h; exact absurd h lpq_zero
      | succ k ih_55 =>
        intro s55 h H locs ls hP hD hS hl
        obtain ⟨o_55, hF, hO_55⟩ := lpq_succ h
        unfold F_X12_mixSubpath_b55 at hF
        have j86 : ∀ (v0_21 : Int32) (v0_30 : Int64) (v0_18 : Nat → Int32) (v0_19 : Nat → Int32) (v0_20 : Nat → Int32) (x2 : Int32), F_X12_mixSubpath_j86 v0_21 v0_30 v0_18 v0_19 v0_20 x2 = some o_55 → ∀ (H : Heap) (locs : List Loc) (ls : Array Slot), va_P (dC, dI) vwCl (wd_X12_mixSubpath cI a0 v0_2 v0_3 v0_5 v0_12 v0_13 v0_16 v0_17 v0_21 v0_23 v0_24 v0_25 v0_26 v0_29 v0_30 v0_0 v0_6 v0_7 v0_8 v0_9 v0_10 v0_11 v0_14 v0_15 v0_18 v0_19 v0_20) H → va_D A (wd_X12_mixSubpath cI a0 v0_2 v0_3 v0_5 v0_12 v0_13 v0_16 v0_17 v0_21 v0_23 v0_24 v0_25 v0_26 v0_29 v0_30 v0_0 v0_6 v0_7 v0_8 v0_9 v0_10 v0_11 v0_14 v0_15 v0_18 v0_19 v0_20) → va_S A s.heap H locs → lv_has ls 4 [(0, .ref (a0 0)), (2, .int x2)] → W p l e (headSpec wz_X12_mixSubpath rm_X12_mixSubpath).room s m [.ref (a0 0), .int p1].toArray below meth c H locs 0 0 (MQ below (Q_X12_mixSubpath dC dI cI a0 v0_2 v0_3 v0_5 v0_23 v0_24 v0_25 v0_26 v0_29 v0_0 u A) [.ref (a0 0), .int p1].toArray s 0 0 A) (F0 m 86 ls []) := by
          intro v0_21 v0_30 v0_18 v0_19 v0_20 x2 hF H locs ls hP hD hS hl
          unfold F_X12_mixSubpath_j86 at hF
          obtain ⟨y_1, ey_1, hF⟩ := lt_some hF
          refine lv_iinc (v := y_1) (lv' := [(2, .int y_1), (0, .ref (a0 0))]) hx hb dX12_mixSubpath_86 hl (k := 1) rfl (by rw [ey_1]; rfl) (by decide) rfl (fun ls hl => ?_)
          refine lv_goto (tgt := 55) hx hb dX12_mixSubpath_89 (by decide) ?_
          obtain rfl := Option.some.inj hF
          exact ih_55 _ hO_55 _ _ _ hP hD hS (lv_sub hl [1, 0] rfl)
        have j65 : ∀ (v0_21 : Int32) (v0_30 : Int64) (v0_18 : Nat → Int32) (v0_19 : Nat → Int32) (v0_20 : Nat → Int32) (x2 : Int32) (x3 : Int32), F_X12_mixSubpath_j65 n v0_12 v0_13 v0_17 v0_21 v0_30 v0_10 v0_11 v0_14 v0_15 v0_18 v0_19 v0_20 x2 x3 = some o_55 → ∀ (H : Heap) (locs : List Loc) (ls : Array Slot), va_P (dC, dI) vwCl (wd_X12_mixSubpath cI a0 v0_2 v0_3 v0_5 v0_12 v0_13 v0_16 v0_17 v0_21 v0_23 v0_24 v0_25 v0_26 v0_29 v0_30 v0_0 v0_6 v0_7 v0_8 v0_9 v0_10 v0_11 v0_14 v0_15 v0_18 v0_19 v0_20) H → va_D A (wd_X12_mixSubpath cI a0 v0_2 v0_3 v0_5 v0_12 v0_13 v0_16 v0_17 v0_21 v0_23 v0_24 v0_25 v0_26 v0_29 v0_30 v0_0 v0_6 v0_7 v0_8 v0_9 v0_10 v0_11 v0_14 v0_15 v0_18 v0_19 v0_20) → va_S A s.heap H locs → lv_has ls 4 [(0, .ref (a0 0)), (2, .int x2), (3, .int x3)] → W p l e (headSpec wz_X12_mixSubpath rm_X12_mixSubpath).room s m [.ref (a0 0), .int p1].toArray below meth c H locs 0 0 (MQ below (Q_X12_mixSubpath dC dI cI a0 v0_2 v0_3 v0_5 v0_23 v0_24 v0_25 v0_26 v0_29 v0_0 u A) [.ref (a0 0), .int p1].toArray s 0 0 A) (F0 m 65 ls []) := by
          intro v0_21 v0_30 v0_18 v0_19 v0_20 x2 x3 hF H locs ls hP hD hS hl
          unfold F_X12_mixSubpath_j65 at hF
          obtain ⟨x_65, hL_65, hE_65⟩ := obd_some hF
          have kl_65 : ∀ (k : Nat) (s65 : Int32 × Int32 × Int64 × (Nat → Int32) × (Nat → Int32) × (Nat → Int32)), lpq (F_X12_mixSubpath_b65 n v0_12 v0_13 v0_17 v0_10 v0_11 v0_14 v0_15 x2) k s65 = some x_65 → ∀ (H : Heap) (locs : List Loc) (ls : Array Slot), va_P (dC, dI) vwCl (wd_X12_mixSubpath cI a0 v0_2 v0_3 v0_5 v0_12 v0_13 v0_16 v0_17 s65.2.1 v0_23 v0_24 v0_25 v0_26 v0_29 s65.2.2.1 v0_0 v0_6 v0_7 v0_8 v0_9 v0_10 v0_11 v0_14 v0_15 s65.2.2.2.1 s65.2.2.2.2.1 s65.2.2.2.2.2) H → va_D A (wd_X12_mixSubpath cI a0 v0_2 v0_3 v0_5 v0_12 v0_13 v0_16 v0_17 s65.2.1 v0_23 v0_24 v0_25 v0_26 v0_29 s65.2.2.1 v0_0 v0_6 v0_7 v0_8 v0_9 v0_10 v0_11 v0_14 v0_15 s65.2.2.2.1 s65.2.2.2.2.1 s65.2.2.2.2.2) → va_S A s.heap H locs → lv_has ls 4 [(0, .ref (a0 0)), (2, .int x2), (3, .int s65.1)] → W p l e (headSpec wz_X12_mixSubpath rm_X12_mixSubpath).room s m [.ref (a0 0), .int p1].toArray below meth c H locs 0 0 (MQ below (Q_X12_mixSubpath dC dI cI a0 v0_2 v0_3 v0_5 v0_23 v0_24 v0_25 v0_26 v0_29 v0_0 u A) [.ref (a0 0), .int p1].toArray s 0 0 A) (F0 m 65 ls []) := by
            intro k
            induction k with
            | zero => intro s65 h; exact absurd h lpq_zero
            | succ k ih_65 =>
              intro s65 h H locs ls hP hD hS hl
              obtain ⟨o_65, hF, hO_65⟩ := lpq_succ h
              unfold F_X12_mixSubpath_b65 at hF
              refine lv_iload_n hx hb dX12_mixSubpath_65 rfl (lv_at hl 2 rfl) ?_
              refine lv_iconst (v := 4) hx hb dX12_mixSubpath_66 (by decide) ?_
              refine lv_icmp_ge (tgt := 86) hx hb dX12_mixSubpath_67 (by decide) (fun c_2 => ?_) (fun c_2 => ?_)
              · have hF := it_t hF c_2
                obtain rfl := Option.some.inj hF
                obtain rfl := lpq_x hO_65
                have hF := hE_65
                exact j86 s65.2.1 s65.2.2.1 s65.2.2.2.1 s65.2.2.2.2.1 s65.2.2.2.2.2 x2 hF _ _ _ hP hD hS (lv_sub hl [0, 1] rfl)
              · have hF := it_f hF c_2
                refine lv_aload_n hx hb dX12_mixSubpath_70 rfl (lv_at hl 0 rfl) ?_
                refine lv_aload_n hx hb dX12_mixSubpath_71 rfl (lv_at hl 0 rfl) ?_
                refine lv_iload_n hx hb dX12_mixSubpath_72 rfl (lv_at hl 1 rfl) ?_
                refine lv_iload_n hx hb dX12_mixSubpath_73 rfl (lv_at hl 2 rfl) ?_
                obtain ⟨u_3, hu_3, hF⟩ := obd_some hF
                have hPc := hP.sub (ws' := (wd_X12_tellRun cI a0 v0_2 v0_3 v0_5 v0_12 v0_13 v0_16 v0_17 s65.2.1 v0_23 v0_24 v0_25 v0_26 v0_29 s65.2.2.1 v0_10 v0_11 v0_14 v0_15 s65.2.2.2.1 s65.2.2.2.2.1 s65.2.2.2.2.2)) [0, 6, 7, 8, 9, 10, 11, 12] rfl
                have hDc := hD.sub (ws' := (wd_X12_tellRun cI a0 v0_2 v0_3 v0_5 v0_12 v0_13 v0_16 v0_17 s65.2.1 v0_23 v0_24 v0_25 v0_26 v0_29 s65.2.2.1 v0_10 v0_11 v0_14 v0_15 s65.2.2.2.1 s65.2.2.2.2.1 s65.2.2.2.2.2)) [0, 6, 7, 8, 9, 10, 11, 12] rfl rfl
                refine q_calli (wc := (wd_X12_tellRun cI a0 v0_2 v0_3 v0_5 v0_12 v0_13 v0_16 v0_17 s65.2.1 v0_23 v0_24 v0_25 v0_26 v0_29 s65.2.2.1 v0_10 v0_11 v0_14 v0_15 s65.2.2.2.1 s65.2.2.2.2.1 s65.2.2.2.2.2)) (w1 := (wd_X12_tellRun cI a0 v0_2 v0_3 v0_5 v0_12 v0_13 v0_16 v0_17 u_3.2.1 v0_23 v0_24 v0_25 v0_26 v0_29 s65.2.2.1 v0_10 v0_11 v0_14 v0_15 u_3.2.2.1 u_3.2.2.2.1 u_3.2.2.2.2)) (ws' := (wd_X12_mixSubpath cI a0 v0_2 v0_3 v0_5 v0_12 v0_13 v0_16 v0_17 u_3.2.1 v0_23 v0_24 v0_25 v0_26 v0_29 s65.2.2.1 v0_0 v0_6 v0_7 v0_8 v0_9 v0_10 v0_11 v0_14 v0_15 u_3.2.2.1 u_3.2.2.2.1 u_3.2.2.2.2)) hP hD hS hA [0, 6, 7, 8, 9, 10, 11, 12] [1, 2, 3, 4, 5] [5, 0, 1, 2, 3, 4, 6, 7, 8, 9, 10, 11, 12] rfl rfl rfl (by decide) rfl rfl (va_runV (As := [.int x2, .int s65.1]) (rest := [.ref (a0 0)]) ⟨hx, hb, hml, hown, hta⟩ (c_X12_tellRun l dC dI cI H.size a0 v0_2 v0_3 v0_5 v0_12 v0_13 v0_16 v0_17 s65.2.1 v0_23 v0_24 v0_25 v0_26 v0_29 s65.2.2.1 v0_10 v0_11 v0_14 v0_15 s65.2.2.2.1 s65.2.2.2.2.1 s65.2.2.2.2.2 x2 s65.1 n u_3 hu_3) (cwV 2 hta (ga_V mA947 mA948 mA949 mA814 mA942) rfl rfl rfl (by decide +kernel) ⟨Nat.le_of_ble_eq_true rfl, Nat.le_of_ble_eq_true rfl⟩) ⟨q_fb, va_recv hK hP (ci := 11) (q0 := 0) rfl rfl, q_ps hPc hK hDc⟩ rfl rfl hl.1 rfl (lv_room (Nat.le_of_ble_eq_true rfl)) dX12_mixSubpath_74 ⟨Nat.zero_le _, Nat.zero_le _⟩) (fun H locs hP hD hS => ?_)
                obtain ⟨u_4, hu_4, hF⟩ := lt_some hF
                have hPc := hP.sub (ws' := (wd_X12_mix cI a0 v0_2 v0_3 v0_5 v0_12 v0_13 v0_16 v0_17 u_3.2.1 v0_23 v0_24 v0_25 v0_26 v0_29 s65.2.2.1)) [0] rfl
                have hDc := hD.sub (ws' := (wd_X12_mix cI a0 v0_2 v0_3 v0_5 v0_12 v0_13 v0_16 v0_17 u_3.2.1 v0_23 v0_24 v0_25 v0_26 v0_29 s65.2.2.1)) [0] rfl rfl
                refine q_callv (wc := (wd_X12_mix cI a0 v0_2 v0_3 v0_5 v0_12 v0_13 v0_16 v0_17 u_3.2.1 v0_23 v0_24 v0_25 v0_26 v0_29 s65.2.2.1)) (w1 := (wd_X12_mix cI a0 v0_2 v0_3 v0_5 v0_12 v0_13 v0_16 v0_17 u_3.2.1 v0_23 v0_24 v0_25 v0_26 v0_29 u_4)) (ws' := (wd_X12_mixSubpath cI a0 v0_2 v0_3 v0_5 v0_12 v0_13 v0_16 v0_17 u_3.2.1 v0_23 v0_24 v0_25 v0_26 v0_29 u_4 v0_0 v0_6 v0_7 v0_8 v0_9 v0_10 v0_11 v0_14 v0_15 u_3.2.2.1 u_3.2.2.2.1 u_3.2.2.2.2)) hP hD hS hA [0] [1, 2, 3, 4, 5, 6, 7, 8, 9, 10, 11, 12] [12, 0, 1, 2, 3, 4, 5, 6, 7, 8, 9, 10, 11] rfl rfl rfl (by decide) rfl rfl (va_runV (As := [.int u_3.1]) (rest := []) ⟨hx, hb, hml, hown, hta⟩ (c_X12_mix l dC dI cI H.size a0 v0_2 v0_3 v0_5 v0_12 v0_13 v0_16 v0_17 u_3.2.1 v0_23 v0_24 v0_25 v0_26 v0_29 s65.2.2.1 u_3.1 u_4 hu_4.symm) (cwV 1 hta (ga_V mA1102 mA1103 mA1104 mA814 mA1098) rfl rfl rfl (by decide +kernel) ⟨Nat.le_of_ble_eq_true rfl, Nat.le_of_ble_eq_true rfl⟩) ⟨q_fb, va_recv hK hP (ci := 11) (q0 := 0) rfl rfl, q_ps hPc hK hDc⟩ rfl rfl hl.1 rfl (lv_room (Nat.le_of_ble_eq_true rfl)) dX12_mixSubpath_77 ⟨Nat.zero_le _, Nat.zero_le _⟩) (fun H locs hP hD hS => ?_)
                obtain ⟨y_5, ey_5, hF⟩ := lt_some hF
                refine lv_iinc (v := y_5) (lv' := [(3, .int y_5), (0, .ref (a0 0)), (2, .int x2)]) hx hb dX12_mixSubpath_80 hl (k := 2) rfl (by rw [ey_5]; rfl) (by decide) rfl (fun ls hl => ?_)
                refine lv_goto (tgt := 65) hx hb dX12_mixSubpath_83 (by decide) ?_
                obtain rfl := Option.some.inj hF
                exact ih_65 _ hO_65 _ _ _ hP hD hS (lv_sub hl [1, 2, 0] rfl)
          exact kl_65 n _ hL_65 _ _ _ hP hD hS hl
        refine lv_iload_n hx hb dX12_mixSubpath_55 rfl (lv_at hl 1 rfl) ?_
        refine lv_aload_n hx hb dX12_mixSubpath_56 rfl (lv_at hl 0 rfl) ?_
        refine va_get (D := (dC, dI)) (ci := 11) (v := .int v0_16) (C := RX12) (T := TX12) (N := 31) hx hb hta uw_X12 hown hK hP 0 rfl rfl 16 (by decide) (hta _ mA924) (fun _ h9 => h9) rfl dX12_mixSubpath_57 ?_
        refine lv_icmp_ge (tgt := 92) hx hb dX12_mixSubpath_60 (by decide) (fun c_6 => ?_) (fun c_6 => ?_)
        · have hF := it_t hF c_6
          obtain rfl := Option.some.inj hF
          obtain rfl := lpq_x hO_55
          have hF := hE_55
          obtain rfl := Option.some.inj hF
          exact W.vret hx hb hr (fun t ht hW => ⟨⟨(), rfl, trivial, by rw [ht]; exact hP, va_K.moved hW.alike hK, hD⟩, hS.F ht⟩) hS.2.2 dX12_mixSubpath_92
        · have hF := it_f hF c_6
          refine lv_iconst (v := 0) hx hb dX12_mixSubpath_63 (by decide) ?_
          refine lv_istore_n (lv' := [(3, .int 0), (0, .ref (a0 0)), (2, .int s55.1)]) hx hb dX12_mixSubpath_64 rfl hl (by decide) rfl (fun ls hl => ?_)
          exact j65 s55.2.1 s55.2.2.1 s55.2.2.2.1 s55.2.2.2.2.1 s55.2.2.2.2.2 s55.1 0 hF _ _ _ hP hD hS (lv_sub hl [1, 2, 0] rfl)
    exact kl_55 n _ hL_55 _ _ _ hP hD hS hl
  have j23 : ∀ (v0_12 : Int32) (v0_13 : Int32) (v0_16 : Int32) (v0_17 : Int32) (v0_21 : Int32) (v0_30 : Int64) (v0_6 : Nat → Int32) (v0_7 : Nat → Int32) (v0_8 : Nat → Int32) (v0_9 : Nat → Int32) (v0_10 : Nat → Int32) (v0_11 : Nat → Int32) (v0_14 : Nat → Int32) (v0_15 : Nat → Int32) (v0_18 : Nat → Int32) (v0_19 : Nat → Int32) (v0_20 : Nat → Int32) (x1 : Int32), F_X12_mixSubpath_j23 n v0_12 v0_13 v0_21 v0_30 v0_0 v0_6 v0_7 v0_8 v0_9 v0_10 v0_11 v0_14 v0_15 v0_18 v0_19 v0_20 x1 = some u → ∀ (H : Heap) (locs : List Loc) (ls : Array Slot), va_P (dC, dI) vwCl (wd_X12_mixSubpath cI a0 v0_2 v0_3 v0_5 v0_12 v0_13 v0_16 v0_17 v0_21 v0_23 v0_24 v0_25 v0_26 v0_29 v0_30 v0_0 v0_6 v0_7 v0_8 v0_9 v0_10 v0_11 v0_14 v0_15 v0_18 v0_19 v0_20) H → va_D A (wd_X12_mixSubpath cI a0 v0_2 v0_3 v0_5 v0_12 v0_13 v0_16 v0_17 v0_21 v0_23 v0_24 v0_25 v0_26 v0_29 v0_30 v0_0 v0_6 v0_7 v0_8 v0_9 v0_10 v0_11 v0_14 v0_15 v0_18 v0_19 v0_20) → va_S A s.heap H locs → lv_has ls 4 [(0, .ref (a0 0)), (1, .int x1)] → W p l e (headSpec wz_X12_mixSubpath rm_X12_mixSubpath).room s m [.ref (a0 0), .int p1].toArray below meth c H locs 0 0 (MQ below (Q_X12_mixSubpath dC dI cI a0 v0_2 v0_3 v0_5 v0_23 v0_24 v0_25 v0_26 v0_29 v0_0 u A) [.ref (a0 0), .int p1].toArray s 0 0 A) (F0 m 23 ls []) := by
    intro v0_12 v0_13 v0_16 v0_17 v0_21 v0_30 v0_6 v0_7 v0_8 v0_9 v0_10 v0_11 v0_14 v0_15 v0_18 v0_19 v0_20 x1 hF H locs ls hP hD hS hl
    unfold F_X12_mixSubpath_j23 at hF
    refine lv_aload_n hx hb dX12_mixSubpath_23 rfl (lv_at hl 0 rfl) ?_
    refine lv_iload_n hx hb dX12_mixSubpath_24 rfl (lv_at hl 1 rfl) ?_
    obtain ⟨u_7, hu_7, hF⟩ := lt_some hF
    have hPc := hP.sub (ws' := ([] : va_W)) [] rfl
    have hDc := hD.sub (ws' := ([] : va_W)) [] rfl rfl
    refine q_calli (wc := ([] : va_W)) (w1 := ([] : va_W)) (ws' := (wd_X12_mixSubpath cI a0 v0_2 v0_3 v0_5 v0_12 v0_13 v0_16 v0_17 v0_21 v0_23 v0_24 v0_25 v0_26 v0_29 v0_30 v0_0 v0_6 v0_7 v0_8 v0_9 v0_10 v0_11 v0_14 v0_15 v0_18 v0_19 v0_20)) hP hD hS hA [] [0, 1, 2, 3, 4, 5, 6, 7, 8, 9, 10, 11, 12] [0, 1, 2, 3, 4, 5, 6, 7, 8, 9, 10, 11, 12] rfl rfl rfl (by decide) rfl rfl (va_runS (As := [.int x1]) (rest := [.ref (a0 0)]) ⟨hx, hb, hml, hown, hta⟩ (c_X12_at l dC dI cI H.size x1 u_7 hu_7.symm) (va_cwS 1 hta (ga_S mA828 mA829 mA814 mA825) rfl rfl rfl (by decide +kernel) ⟨Nat.le_of_ble_eq_true rfl, Nat.le_of_ble_eq_true rfl⟩) ⟨q_fb, q_ps hPc hK hDc⟩ rfl rfl hl.1 rfl (lv_room (Nat.le_of_ble_eq_true rfl)) dX12_mixSubpath_25 ⟨Nat.zero_le _, Nat.zero_le _⟩) (fun H locs hP hD hS => ?_)
    refine lv_iconst (v := 2) hx hb dX12_mixSubpath_28 (by decide) ?_
    refine lv_iadd hx hb dX12_mixSubpath_29 ?_
    refine lv_iconst (v := 2) hx hb dX12_mixSubpath_30 (by decide) ?_
    refine lv_aload_n hx hb dX12_mixSubpath_31 rfl (lv_at hl 0 rfl) ?_
    refine lv_iload_n hx hb dX12_mixSubpath_32 rfl (lv_at hl 1 rfl) ?_
    obtain ⟨u_8, hu_8, hF⟩ := obd_some hF
    have hPc := hP.sub (ws' := (wd_X12_points cI a0 v0_2 v0_3 v0_5 v0_12 v0_13 v0_16 v0_17 v0_21 v0_23 v0_24 v0_25 v0_26 v0_29 v0_30 v0_0)) [0, 1] rfl
    have hDc := hD.sub (ws' := (wd_X12_points cI a0 v0_2 v0_3 v0_5 v0_12 v0_13 v0_16 v0_17 v0_21 v0_23 v0_24 v0_25 v0_26 v0_29 v0_30 v0_0)) [0, 1] rfl rfl
    refine q_calli (wc := (wd_X12_points cI a0 v0_2 v0_3 v0_5 v0_12 v0_13 v0_16 v0_17 v0_21 v0_23 v0_24 v0_25 v0_26 v0_29 v0_30 v0_0)) (w1 := (wd_X12_points cI a0 v0_2 v0_3 v0_5 v0_12 v0_13 v0_16 v0_17 v0_21 v0_23 v0_24 v0_25 v0_26 v0_29 v0_30 v0_0)) (ws' := (wd_X12_mixSubpath cI a0 v0_2 v0_3 v0_5 v0_12 v0_13 v0_16 v0_17 v0_21 v0_23 v0_24 v0_25 v0_26 v0_29 v0_30 v0_0 v0_6 v0_7 v0_8 v0_9 v0_10 v0_11 v0_14 v0_15 v0_18 v0_19 v0_20)) hP hD hS hA [0, 1] [2, 3, 4, 5, 6, 7, 8, 9, 10, 11, 12] [11, 12, 0, 1, 2, 3, 4, 5, 6, 7, 8, 9, 10] rfl rfl rfl (by decide) rfl rfl (va_runV (As := [.int x1]) (rest := [.int 2, .int (u_7 + 2), .ref (a0 0)]) ⟨hx, hb, hml, hown, hta⟩ (c_X12_points l dC dI cI H.size a0 v0_2 v0_3 v0_5 v0_12 v0_13 v0_16 v0_17 v0_21 v0_23 v0_24 v0_25 v0_26 v0_29 v0_30 v0_0 x1 u_8 hu_8) (cwV 1 hta (ga_V mA839 mA840 mA841 mA814 mA827) rfl rfl rfl (by decide +kernel) ⟨Nat.le_of_ble_eq_true rfl, Nat.le_of_ble_eq_true rfl⟩) ⟨q_fb, va_recv hK hP (ci := 11) (q0 := 0) rfl rfl, q_ps hPc hK hDc⟩ rfl rfl hl.1 rfl (lv_room (Nat.le_of_ble_eq_true rfl)) dX12_mixSubpath_33 ⟨Nat.zero_le _, Nat.zero_le _⟩) (fun H locs hP hD hS => ?_)
    refine lv_imul hx hb dX12_mixSubpath_36 ?_
    obtain ⟨u_9, hu_9, hF⟩ := obd_some hF
    have hPc := hP.sub (ws' := (wd_X12_mixAll cI a0 v0_2 v0_3 v0_5 v0_12 v0_13 v0_16 v0_17 v0_21 v0_23 v0_24 v0_25 v0_26 v0_29 v0_30 v0_0)) [0, 1] rfl
    have hDc := hD.sub (ws' := (wd_X12_mixAll cI a0 v0_2 v0_3 v0_5 v0_12 v0_13 v0_16 v0_17 v0_21 v0_23 v0_24 v0_25 v0_26 v0_29 v0_30 v0_0)) [0, 1] rfl rfl
    refine q_callv (wc := (wd_X12_mixAll cI a0 v0_2 v0_3 v0_5 v0_12 v0_13 v0_16 v0_17 v0_21 v0_23 v0_24 v0_25 v0_26 v0_29 v0_30 v0_0)) (w1 := (wd_X12_mixAll cI a0 v0_2 v0_3 v0_5 v0_12 v0_13 v0_16 v0_17 v0_21 v0_23 v0_24 v0_25 v0_26 v0_29 u_9 v0_0)) (ws' := (wd_X12_mixSubpath cI a0 v0_2 v0_3 v0_5 v0_12 v0_13 v0_16 v0_17 v0_21 v0_23 v0_24 v0_25 v0_26 v0_29 u_9 v0_0 v0_6 v0_7 v0_8 v0_9 v0_10 v0_11 v0_14 v0_15 v0_18 v0_19 v0_20)) hP hD hS hA [0, 1] [2, 3, 4, 5, 6, 7, 8, 9, 10, 11, 12] [11, 12, 0, 1, 2, 3, 4, 5, 6, 7, 8, 9, 10] rfl rfl rfl (by decide) rfl rfl (va_runV (As := [.int (u_7 + 2), .int (2 * u_8)]) (rest := []) ⟨hx, hb, hml, hown, hta⟩ (c_X12_mixAll l dC dI cI H.size a0 v0_2 v0_3 v0_5 v0_12 v0_13 v0_16 v0_17 v0_21 v0_23 v0_24 v0_25 v0_26 v0_29 v0_30 v0_0 (u_7 + 2) (2 * u_8) n u_9 hu_9) (cwV 2 hta (ga_V mA1106 mA1107 mA1108 mA814 mA1101) rfl rfl rfl (by decide +kernel) ⟨Nat.le_of_ble_eq_true rfl, Nat.le_of_ble_eq_true rfl⟩) ⟨q_fb, va_recv hK hP (ci := 11) (q0 := 0) rfl rfl, q_ps hPc hK hDc⟩ rfl rfl hl.1 rfl (lv_room (Nat.le_of_ble_eq_true rfl)) dX12_mixSubpath_37 ⟨Nat.zero_le _, Nat.zero_le _⟩) (fun H locs hP hD hS => ?_)
    refine lv_aload_n hx hb dX12_mixSubpath_40 rfl (lv_at hl 0 rfl) ?_
    refine lv_iload_n hx hb dX12_mixSubpath_41 rfl (lv_at hl 1 rfl) ?_
    obtain ⟨u_10, hu_10, hF⟩ := obd_some hF
    have hPc := hP.sub (ws' := (wd_X12_laysRuns cI a0 v0_2 v0_3 v0_5 v0_12 v0_13 v0_16 v0_17 v0_21 v0_23 v0_24 v0_25 v0_26 v0_29 u_9 v0_0 v0_6 v0_7 v0_8 v0_9 v0_10 v0_11 v0_14 v0_15)) [0, 1, 2, 3, 4, 5, 6, 7, 8, 9] rfl
    have hDc := hD.sub (ws' := (wd_X12_laysRuns cI a0 v0_2 v0_3 v0_5 v0_12 v0_13 v0_16 v0_17 v0_21 v0_23 v0_24 v0_25 v0_26 v0_29 u_9 v0_0 v0_6 v0_7 v0_8 v0_9 v0_10 v0_11 v0_14 v0_15)) [0, 1, 2, 3, 4, 5, 6, 7, 8, 9] rfl rfl
    refine q_callv (wc := (wd_X12_laysRuns cI a0 v0_2 v0_3 v0_5 v0_12 v0_13 v0_16 v0_17 v0_21 v0_23 v0_24 v0_25 v0_26 v0_29 u_9 v0_0 v0_6 v0_7 v0_8 v0_9 v0_10 v0_11 v0_14 v0_15)) (w1 := (wd_X12_laysRuns cI a0 v0_2 v0_3 v0_5 u_10.1 u_10.2.1 u_10.2.2.1 u_10.2.2.2.1 v0_21 v0_23 v0_24 v0_25 v0_26 v0_29 u_9 v0_0 u_10.2.2.2.2.1 u_10.2.2.2.2.2.1 u_10.2.2.2.2.2.2.1 u_10.2.2.2.2.2.2.2.1 u_10.2.2.2.2.2.2.2.2.1 u_10.2.2.2.2.2.2.2.2.2.1 u_10.2.2.2.2.2.2.2.2.2.2.1 u_10.2.2.2.2.2.2.2.2.2.2.2)) (ws' := (wd_X12_mixSubpath cI a0 v0_2 v0_3 v0_5 u_10.1 u_10.2.1 u_10.2.2.1 u_10.2.2.2.1 v0_21 v0_23 v0_24 v0_25 v0_26 v0_29 u_9 v0_0 u_10.2.2.2.2.1 u_10.2.2.2.2.2.1 u_10.2.2.2.2.2.2.1 u_10.2.2.2.2.2.2.2.1 u_10.2.2.2.2.2.2.2.2.1 u_10.2.2.2.2.2.2.2.2.2.1 u_10.2.2.2.2.2.2.2.2.2.2.1 u_10.2.2.2.2.2.2.2.2.2.2.2 v0_18 v0_19 v0_20)) hP hD hS hA [0, 1, 2, 3, 4, 5, 6, 7, 8, 9] [10, 11, 12] [3, 4, 5, 6, 7, 8, 9, 10, 11, 12, 0, 1, 2] rfl rfl rfl (by decide) rfl rfl (va_runV (As := [.int x1]) (rest := []) ⟨hx, hb, hml, hown, hta⟩ (c_X12_laysRuns l dC dI cI H.size a0 v0_2 v0_3 v0_5 v0_12 v0_13 v0_16 v0_17 v0_21 v0_23 v0_24 v0_25 v0_26 v0_29 u_9 v0_0 v0_6 v0_7 v0_8 v0_9 v0_10 v0_11 v0_14 v0_15 x1 n u_10 hu_10) (cwV 1 hta (ga_V mA939 mA940 mA941 mA814 mA923) rfl rfl rfl (by decide +kernel) ⟨Nat.le_of_ble_eq_true rfl, Nat.le_of_ble_eq_true rfl⟩) ⟨q_fb, va_recv hK hP (ci := 11) (q0 := 0) rfl rfl, q_ps hPc hK hDc⟩ rfl rfl hl.1 rfl (lv_room (Nat.le_of_ble_eq_true rfl)) dX12_mixSubpath_42 ⟨Nat.zero_le _, Nat.zero_le _⟩) (fun H locs hP hD hS => ?_)
    refine lv_aload_n hx hb dX12_mixSubpath_45 rfl (lv_at hl 0 rfl) ?_
    refine lv_aload_n hx hb dX12_mixSubpath_46 rfl (lv_at hl 0 rfl) ?_
    refine va_get (D := (dC, dI)) (ci := 11) (v := .int u_10.2.2.1) (C := RX12) (T := TX12) (N := 31) hx hb hta uw_X12 hown hK hP 0 rfl rfl 16 (by decide) (hta _ mA924) (fun _ h9 => h9) rfl dX12_mixSubpath_47 ?_
    obtain ⟨u_11, hu_11, hF⟩ := lt_some hF
    have hPc := hP.sub (ws' := (wd_X12_mix cI a0 v0_2 v0_3 v0_5 u_10.1 u_10.2.1 u_10.2.2.1 u_10.2.2.2.1 v0_21 v0_23 v0_24 v0_25 v0_26 v0_29 u_9)) [0] rfl
    have hDc := hD.sub (ws' := (wd_X12_mix cI a0 v0_2 v0_3 v0_5 u_10.1 u_10.2.1 u_10.2.2.1 u_10.2.2.2.1 v0_21 v0_23 v0_24 v0_25 v0_26 v0_29 u_9)) [0] rfl rfl
    refine q_callv (wc := (wd_X12_mix cI a0 v0_2 v0_3 v0_5 u_10.1 u_10.2.1 u_10.2.2.1 u_10.2.2.2.1 v0_21 v0_23 v0_24 v0_25 v0_26 v0_29 u_9)) (w1 := (wd_X12_mix cI a0 v0_2 v0_3 v0_5 u_10.1 u_10.2.1 u_10.2.2.1 u_10.2.2.2.1 v0_21 v0_23 v0_24 v0_25 v0_26 v0_29 u_11)) (ws' := (wd_X12_mixSubpath cI a0 v0_2 v0_3 v0_5 u_10.1 u_10.2.1 u_10.2.2.1 u_10.2.2.2.1 v0_21 v0_23 v0_24 v0_25 v0_26 v0_29 u_11 v0_0 u_10.2.2.2.2.1 u_10.2.2.2.2.2.1 u_10.2.2.2.2.2.2.1 u_10.2.2.2.2.2.2.2.1 u_10.2.2.2.2.2.2.2.2.1 u_10.2.2.2.2.2.2.2.2.2.1 u_10.2.2.2.2.2.2.2.2.2.2.1 u_10.2.2.2.2.2.2.2.2.2.2.2 v0_18 v0_19 v0_20)) hP hD hS hA [0] [1, 2, 3, 4, 5, 6, 7, 8, 9, 10, 11, 12] [12, 0, 1, 2, 3, 4, 5, 6, 7, 8, 9, 10, 11] rfl rfl rfl (by decide) rfl rfl (va_runV (As := [.int u_10.2.2.1]) (rest := []) ⟨hx, hb, hml, hown, hta⟩ (c_X12_mix l dC dI cI H.size a0 v0_2 v0_3 v0_5 u_10.1 u_10.2.1 u_10.2.2.1 u_10.2.2.2.1 v0_21 v0_23 v0_24 v0_25 v0_26 v0_29 u_9 u_10.2.2.1 u_11 hu_11.symm) (cwV 1 hta (ga_V mA1102 mA1103 mA1104 mA814 mA1098) rfl rfl rfl (by decide +kernel) ⟨Nat.le_of_ble_eq_true rfl, Nat.le_of_ble_eq_true rfl⟩) ⟨q_fb, va_recv hK hP (ci := 11) (q0 := 0) rfl rfl, q_ps hPc hK hDc⟩ rfl rfl hl.1 rfl (lv_room (Nat.le_of_ble_eq_true rfl)) dX12_mixSubpath_50 ⟨Nat.zero_le _, Nat.zero_le _⟩) (fun H locs hP hD hS => ?_)
    refine lv_iconst (v := 0) hx hb dX12_mixSubpath_53 (by decide) ?_
    refine lv_istore_n (lv' := [(2, .int 0), (0, .ref (a0 0)), (1, .int x1)]) hx hb dX12_mixSubpath_54 rfl hl (by decide) rfl (fun ls hl => ?_)
    exact j55 u_10.1 u_10.2.1 u_10.2.2.1 u_10.2.2.2.1 v0_21 u_11 u_10.2.2.2.2.1 u_10.2.2.2.2.2.1 u_10.2.2.2.2.2.2.1 u_10.2.2.2.2.2.2.2.1 u_10.2.2.2.2.2.2.2.2.1 u_10.2.2.2.2.2.2.2.2.2.1 u_10.2.2.2.2.2.2.2.2.2.2.1 u_10.2.2.2.2.2.2.2.2.2.2.2 v0_18 v0_19 v0_20 0 hF _ _ _ hP hD hS (lv_sub hl [1, 0] rfl)
  have j2 : ∀ (v0_12 : Int32) (v0_13 : Int32) (v0_16 : Int32) (v0_17 : Int32) (v0_21 : Int32) (v0_30 : Int64) (v0_6 : Nat → Int32) (v0_7 : Nat → Int32) (v0_8 : Nat → Int32) (v0_9 : Nat → Int32) (v0_10 : Nat → Int32) (v0_11 : Nat → Int32) (v0_14 : Nat → Int32) (v0_15 : Nat → Int32) (v0_18 : Nat → Int32) (v0_19 : Nat → Int32) (v0_20 : Nat → Int32) (x1 : Int32) (x2 : Int32), F_X12_mixSubpath_j2 n v0_12 v0_13 v0_21 v0_30 v0_0 v0_6 v0_7 v0_8 v0_9 v0_10 v0_11 v0_14 v0_15 v0_18 v0_19 v0_20 x1 x2 = some u → ∀ (H : Heap) (locs : List Loc) (ls : Array Slot), va_P (dC, dI) vwCl (wd_X12_mixSubpath cI a0 v0_2 v0_3 v0_5 v0_12 v0_13 v0_16 v0_17 v0_21 v0_23 v0_24 v0_25 v0_26 v0_29 v0_30 v0_0 v0_6 v0_7 v0_8 v0_9 v0_10 v0_11 v0_14 v0_15 v0_18 v0_19 v0_20) H → va_D A (wd_X12_mixSubpath cI a0 v0_2 v0_3 v0_5 v0_12 v0_13 v0_16 v0_17 v0_21 v0_23 v0_24 v0_25 v0_26 v0_29 v0_30 v0_0 v0_6 v0_7 v0_8 v0_9 v0_10 v0_11 v0_14 v0_15 v0_18 v0_19 v0_20) → va_S A s.heap H locs → lv_has ls 4 [(0, .ref (a0 0)), (1, .int x1), (2, .int x2)] → W p l e (headSpec wz_X12_mixSubpath rm_X12_mixSubpath).room s m [.ref (a0 0), .int p1].toArray below meth c H locs 0 0 (MQ below (Q_X12_mixSubpath dC dI cI a0 v0_2 v0_3 v0_5 v0_23 v0_24 v0_25 v0_26 v0_29 v0_0 u A) [.ref (a0 0), .int p1].toArray s 0 0 A) (F0 m 2 ls []) := by
    intro v0_12 v0_13 v0_16 v0_17 v0_21 v0_30 v0_6 v0_7 v0_8 v0_9 v0_10 v0_11 v0_14 v0_15 v0_18 v0_19 v0_20 x1 x2 hF H locs ls hP hD hS hl
    unfold F_X12_mixSubpath_j2 at hF
    obtain ⟨x_2, hL_2, hE_2⟩ := obd_some hF
    have kl_2 : ∀ (k : Nat) (s2 : Int32 × Int32 × Int32 × Int64 × (Nat → Int32) × (Nat → Int32) × (Nat → Int32) × (Nat → Int32) × (Nat → Int32) × (Nat → Int32)), lpq (F_X12_mixSubpath_b2 n v0_0 x1) k s2 = some x_2 → ∀ (H : Heap) (locs : List Loc) (ls : Array Slot), va_P (dC, dI) vwCl (wd_X12_mixSubpath cI a0 v0_2 v0_3 v0_5 s2.2.1 s2.2.2.1 v0_16 v0_17 v0_21 v0_23 v0_24 v0_25 v0_26 v0_29 s2.2.2.2.1 v0_0 s2.2.2.2.2.1 s2.2.2.2.2.2.1 s2.2.2.2.2.2.2.1 s2.2.2.2.2.2.2.2.1 s2.2.2.2.2.2.2.2.2.1 s2.2.2.2.2.2.2.2.2.2 v0_14 v0_15 v0_18 v0_19 v0_20) H → va_D A (wd_X12_mixSubpath cI a0 v0_2 v0_3 v0_5 s2.2.1 s2.2.2.1 v0_16 v0_17 v0_21 v0_23 v0_24 v0_25 v0_26 v0_29 s2.2.2.2.1 v0_0 s2.2.2.2.2.1 s2.2.2.2.2.2.1 s2.2.2.2.2.2.2.1 s2.2.2.2.2.2.2.2.1 s2.2.2.2.2.2.2.2.2.1 s2.2.2.2.2.2.2.2.2.2 v0_14 v0_15 v0_18 v0_19 v0_20) → va_S A s.heap H locs → lv_has ls 4 [(0, .ref (a0 0)), (1, .int x1), (2, .int s2.1)] → W p l e (headSpec wz_X12_mixSubpath rm_X12_mixSubpath).room s m [.ref (a0 0), .int p1].toArray below meth c H locs 0 0 (MQ below (Q_X12_mixSubpath dC dI cI a0 v0_2 v0_3 v0_5 v0_23 v0_24 v0_25 v0_26 v0_29 v0_0 u A) [.ref (a0 0), .int p1].toArray s 0 0 A) (F0 m 2 ls []) := by
      intro k
      induction k with
      | zero => intro s2 h; exact absurd h lpq_zero
      | succ k ih_2 =>
        intro s2 h H locs ls hP hD hS hl
        obtain ⟨o_2, hF, hO_2⟩ := lpq_succ h
        unfold F_X12_mixSubpath_b2 at hF
        refine lv_iload_n hx hb dX12_mixSubpath_2 rfl (lv_at hl 2 rfl) ?_
        refine lv_iconst (v := 4) hx hb dX12_mixSubpath_3 (by decide) ?_
        refine lv_icmp_ge (tgt := 23) hx hb dX12_mixSubpath_4 (by decide) (fun c_12 => ?_) (fun c_12 => ?_)
        · have hF := it_t hF c_12
          obtain rfl := Option.some.inj hF
          obtain rfl := lpq_x hO_2
          have hF := hE_2
          exact j23 s2.2.1 s2.2.2.1 v0_16 v0_17 v0_21 s2.2.2.2.1 s2.2.2.2.2.1 s2.2.2.2.2.2.1 s2.2.2.2.2.2.2.1 s2.2.2.2.2.2.2.2.1 s2.2.2.2.2.2.2.2.2.1 s2.2.2.2.2.2.2.2.2.2 v0_14 v0_15 v0_18 v0_19 v0_20 x1 hF _ _ _ hP hD hS (lv_sub hl [0, 1] rfl)
        · have hF := it_f hF c_12
          refine lv_aload_n hx hb dX12_mixSubpath_7 rfl (lv_at hl 0 rfl) ?_
          refine lv_aload_n hx hb dX12_mixSubpath_8 rfl (lv_at hl 0 rfl) ?_
          refine lv_iload_n hx hb dX12_mixSubpath_9 rfl (lv_at hl 1 rfl) ?_
          refine lv_iload_n hx hb dX12_mixSubpath_10 rfl (lv_at hl 2 rfl) ?_
          obtain ⟨u_13, hu_13, hF⟩ := obd_some hF
          have hPc := hP.sub (ws' := (wd_X12_tellSubpath cI a0 v0_2 v0_3 v0_5 s2.2.1 s2.2.2.1 v0_16 v0_17 v0_21 v0_23 v0_24 v0_25 v0_26 v0_29 s2.2.2.2.1 v0_0 s2.2.2.2.2.1 s2.2.2.2.2.2.1 s2.2.2.2.2.2.2.1 s2.2.2.2.2.2.2.2.1 s2.2.2.2.2.2.2.2.2.1 s2.2.2.2.2.2.2.2.2.2)) [0, 1, 2, 3, 4, 5, 6, 7] rfl
          have hDc := hD.sub (ws' := (wd_X12_tellSubpath cI a0 v0_2 v0_3 v0_5 s2.2.1 s2.2.2.1 v0_16 v0_17 v0_21 v0_23 v0_24 v0_25 v0_26 v0_29 s2.2.2.2.1 v0_0 s2.2.2.2.2.1 s2.2.2.2.2.2.1 s2.2.2.2.2.2.2.1 s2.2.2.2.2.2.2.2.1 s2.2.2.2.2.2.2.2.2.1 s2.2.2.2.2.2.2.2.2.2)) [0, 1, 2, 3, 4, 5, 6, 7] rfl rfl
          refine q_calli (wc := (wd_X12_tellSubpath cI a0 v0_2 v0_3 v0_5 s2.2.1 s2.2.2.1 v0_16 v0_17 v0_21 v0_23 v0_24 v0_25 v0_26 v0_29 s2.2.2.2.1 v0_0 s2.2.2.2.2.1 s2.2.2.2.2.2.1 s2.2.2.2.2.2.2.1 s2.2.2.2.2.2.2.2.1 s2.2.2.2.2.2.2.2.2.1 s2.2.2.2.2.2.2.2.2.2)) (w1 := (wd_X12_tellSubpath cI a0 v0_2 v0_3 v0_5 u_13.2.1 u_13.2.2.1 v0_16 v0_17 v0_21 v0_23 v0_24 v0_25 v0_26 v0_29 s2.2.2.2.1 v0_0 u_13.2.2.2.1 u_13.2.2.2.2.1 u_13.2.2.2.2.2.1 u_13.2.2.2.2.2.2.1 u_13.2.2.2.2.2.2.2.1 u_13.2.2.2.2.2.2.2.2)) (ws' := (wd_X12_mixSubpath cI a0 v0_2 v0_3 v0_5 u_13.2.1 u_13.2.2.1 v0_16 v0_17 v0_21 v0_23 v0_24 v0_25 v0_26 v0_29 s2.2.2.2.1 v0_0 u_13.2.2.2.1 u_13.2.2.2.2.1 u_13.2.2.2.2.2.1 u_13.2.2.2.2.2.2.1 u_13.2.2.2.2.2.2.2.1 u_13.2.2.2.2.2.2.2.2 v0_14 v0_15 v0_18 v0_19 v0_20)) hP hD hS hA [0, 1, 2, 3, 4, 5, 6, 7] [8, 9, 10, 11, 12] [5, 6, 7, 8, 9, 10, 11, 12, 0, 1, 2, 3, 4] rfl rfl rfl (by decide) rfl rfl (va_runV (As := [.int x1, .int s2.1]) (rest := [.ref (a0 0)]) ⟨hx, hb, hml, hown, hta⟩ (c_X12_tellSubpath l dC dI cI H.size a0 v0_2 v0_3 v0_5 s2.2.1 s2.2.2.1 v0_16 v0_17 v0_21 v0_23 v0_24 v0_25 v0_26 v0_29 s2.2.2.2.1 v0_0 s2.2.2.2.2.1 s2.2.2.2.2.2.1 s2.2.2.2.2.2.2.1 s2.2.2.2.2.2.2.2.1 s2.2.2.2.2.2.2.2.2.1 s2.2.2.2.2.2.2.2.2.2 x1 s2.1 n u_13 hu_13) (cwV 2 hta (ga_V mA907 mA908 mA909 mA814 mA905) rfl rfl rfl (by decide +kernel) ⟨Nat.le_of_ble_eq_true rfl, Nat.le_of_ble_eq_true rfl⟩) ⟨q_fb, va_recv hK hP (ci := 11) (q0 := 0) rfl rfl, q_ps hPc hK hDc⟩ rfl rfl hl.1 rfl (lv_room (Nat.le_of_ble_eq_true rfl)) dX12_mixSubpath_11 ⟨Nat.zero_le _, Nat.zero_le _⟩) (fun H locs hP hD hS => ?_)
          obtain ⟨u_14, hu_14, hF⟩ := lt_some hF
          have hPc := hP.sub (ws' := (wd_X12_mix cI a0 v0_2 v0_3 v0_5 u_13.2.1 u_13.2.2.1 v0_16 v0_17 v0_21 v0_23 v0_24 v0_25 v0_26 v0_29 s2.2.2.2.1)) [0] rfl
          have hDc := hD.sub (ws' := (wd_X12_mix cI a0 v0_2 v0_3 v0_5 u_13.2.1 u_13.2.2.1 v0_16 v0_17 v0_21 v0_23 v0_24 v0_25 v0_26 v0_29 s2.2.2.2.1)) [0] rfl rfl
          refine q_callv (wc := (wd_X12_mix cI a0 v0_2 v0_3 v0_5 u_13.2.1 u_13.2.2.1 v0_16 v0_17 v0_21 v0_23 v0_24 v0_25 v0_26 v0_29 s2.2.2.2.1)) (w1 := (wd_X12_mix cI a0 v0_2 v0_3 v0_5 u_13.2.1 u_13.2.2.1 v0_16 v0_17 v0_21 v0_23 v0_24 v0_25 v0_26 v0_29 u_14)) (ws' := (wd_X12_mixSubpath cI a0 v0_2 v0_3 v0_5 u_13.2.1 u_13.2.2.1 v0_16 v0_17 v0_21 v0_23 v0_24 v0_25 v0_26 v0_29 u_14 v0_0 u_13.2.2.2.1 u_13.2.2.2.2.1 u_13.2.2.2.2.2.1 u_13.2.2.2.2.2.2.1 u_13.2.2.2.2.2.2.2.1 u_13.2.2.2.2.2.2.2.2 v0_14 v0_15 v0_18 v0_19 v0_20)) hP hD hS hA [0] [1, 2, 3, 4, 5, 6, 7, 8, 9, 10, 11, 12] [12, 0, 1, 2, 3, 4, 5, 6, 7, 8, 9, 10, 11] rfl rfl rfl (by decide) rfl rfl (va_runV (As := [.int u_13.1]) (rest := []) ⟨hx, hb, hml, hown, hta⟩ (c_X12_mix l dC dI cI H.size a0 v0_2 v0_3 v0_5 u_13.2.1 u_13.2.2.1 v0_16 v0_17 v0_21 v0_23 v0_24 v0_25 v0_26 v0_29 s2.2.2.2.1 u_13.1 u_14 hu_14.symm) (cwV 1 hta (ga_V mA1102 mA1103 mA1104 mA814 mA1098) rfl rfl rfl (by decide +kernel) ⟨Nat.le_of_ble_eq_true rfl, Nat.le_of_ble_eq_true rfl⟩) ⟨q_fb, va_recv hK hP (ci := 11) (q0 := 0) rfl rfl, q_ps hPc hK hDc⟩ rfl rfl hl.1 rfl (lv_room (Nat.le_of_ble_eq_true rfl)) dX12_mixSubpath_14 ⟨Nat.zero_le _, Nat.zero_le _⟩) (fun H locs hP hD hS => ?_)
          obtain ⟨y_15, ey_15, hF⟩ := lt_some hF
          refine lv_iinc (v := y_15) (lv' := [(2, .int y_15), (0, .ref (a0 0)), (1, .int x1)]) hx hb dX12_mixSubpath_17 hl (k := 2) rfl (by rw [ey_15]; rfl) (by decide) rfl (fun ls hl => ?_)
          refine lv_goto (tgt := 2) hx hb dX12_mixSubpath_20 (by decide) ?_
          obtain rfl := Option.some.inj hF
          exact ih_2 _ hO_2 _ _ _ hP hD hS (lv_sub hl [1, 2, 0] rfl)
    exact kl_2 n _ hL_2 _ _ _ hP hD hS hl
  refine lv_iconst (v := 0) hx hb dX12_mixSubpath_0 (by decide) ?_
  refine lv_istore_n (lv' := [(2, .int 0), (0, .ref (a0 0)), (1, .int p1)]) hx hb dX12_mixSubpath_1 rfl hl (by decide) rfl (fun ls hl => ?_)
  exact j2 v0_12 v0_13 v0_16 v0_17 v0_21 v0_30 v0_6 v0_7 v0_8 v0_9 v0_10 v0_11 v0_14 v0_15 v0_18 v0_19 v0_20 p1 0 hF _ _ _ hP hD hS (lv_sub hl [1, 2, 0] rfl)

-- StrokeOutlinerModel.digest()J
def F_X12_digest_j144 (v0_2 : Int32) (v0_3 : Int32) (v0_12 : Int32) (v0_13 : Int32) (v0_16 : Int32) (v0_17 : Int32) (v0_21 : Int32) (v0_23 : Int32) (v0_30 : Int64) (v0_6 : Nat → Int32) (v0_7 : Nat → Int32) (v0_8 : Nat → Int32) (v0_9 : Nat → Int32) (v0_10 : Nat → Int32) (v0_11 : Nat → Int32) (v0_14 : Nat → Int32) (v0_15 : Nat → Int32) (v0_18 : Nat → Int32) (v0_19 : Nat → Int32) (v0_20 : Nat → Int32) (v0_22 : Nat → Int32) : Option (Int64 × Int32 × Int32 × Int32 × Int32 × Int32 × Int32 × Int32 × Int64 × (Nat → Int32) × (Nat → Int32) × (Nat → Int32) × (Nat → Int32) × (Nat → Int32) × (Nat → Int32) × (Nat → Int32) × (Nat → Int32) × (Nat → Int32) × (Nat → Int32) × (Nat → Int32) × (Nat → Int32)) :=
  lt (F_X12_mix v0_30 v0_2) (fun u_1 => some (u_1, v0_3, v0_12, v0_13, v0_16, v0_17, v0_21, v0_23, u_1, v0_6, v0_7, v0_8, v0_9, v0_10, v0_11, v0_14, v0_15, v0_18, v0_19, v0_20, v0_22))
def F_X12_digest_j138 (v0_30 : Int64) (x1 : Int32) : Option (Sum (Int32 × Int64) (Int64)) :=
  lt (x1 + 1) (fun y_2 => some (.inl (y_2, v0_30)))
def F_X12_digest_b103 (v0_22 : Nat → Int32) (x1 : Int32) (s103 : Int32 × Int64) : Option (Sum (Int32 × Int64) (Int64)) :=
  obd (F_X12_cornersOf v0_22 x1) (fun u_3 => if u_3 ≤ s103.1 then some (.inr s103.2) else obd (F_X12_cornerX v0_22 x1 s103.1) (fun u_5 => lt (F_X12_mix s103.2 u_5) (fun u_6 => obd (F_X12_cornerY v0_22 x1 s103.1) (fun u_7 => lt (F_X12_mix u_6 u_7) (fun u_8 => lt (s103.1 + 1) (fun y_9 => some (.inl (y_9, u_8))))))))
def F_X12_digest_j103 (n : Nat) (v0_30 : Int64) (v0_22 : Nat → Int32) (x1 : Int32) (x2 : Int32) : Option (Sum (Int32 × Int64) (Int64)) :=
  obd (lpq (F_X12_digest_b103 v0_22 x1) n (x2, v0_30)) (fun x_103 => F_X12_digest_j138 x_103 x1)
def F_X12_digest_b84 (n : Nat) (v0_23 : Int32) (v0_22 : Nat → Int32) (s84 : Int32 × Int64) : Option (Sum (Int32 × Int64) (Int64)) :=
  if v0_23 ≤ s84.1 then some (.inr s84.2) else obd (F_X12_kindOf v0_22 s84.1) (fun u_11 => lt (F_X12_mix s84.2 u_11) (fun u_12 => F_X12_digest_j103 n u_12 v0_22 s84.1 0))
def F_X12_digest_j84 (n : Nat) (v0_2 : Int32) (v0_3 : Int32) (v0_12 : Int32) (v0_13 : Int32) (v0_16 : Int32) (v0_17 : Int32) (v0_21 : Int32) (v0_23 : Int32) (v0_30 : Int64) (v0_6 : Nat → Int32) (v0_7 : Nat → Int32) (v0_8 : Nat → Int32) (v0_9 : Nat → Int32) (v0_10 : Nat → Int32) (v0_11 : Nat → Int32) (v0_14 : Nat → Int32) (v0_15 : Nat → Int32) (v0_18 : Nat → Int32) (v0_19 : Nat → Int32) (v0_20 : Nat → Int32) (v0_22 : Nat → Int32) (x1 : Int32) : Option (Int64 × Int32 × Int32 × Int32 × Int32 × Int32 × Int32 × Int32 × Int64 × (Nat → Int32) × (Nat → Int32) × (Nat → Int32) × (Nat → Int32) × (Nat → Int32) × (Nat → Int32) × (Nat → Int32) × (Nat → Int32) × (Nat → Int32) × (Nat → Int32) × (Nat → Int32) × (Nat → Int32)) :=
  obd (lpq (F_X12_digest_b84 n v0_23 v0_22) n (x1, v0_30)) (fun x_84 => F_X12_digest_j144 v0_2 v0_3 v0_12 v0_13 v0_16 v0_17 v0_21 v0_23 x_84 v0_6 v0_7 v0_8 v0_9 v0_10 v0_11 v0_14 v0_15 v0_18 v0_19 v0_20 v0_22)
def F_X12_digest_j70 (n : Nat) (v0_2 : Int32) (v0_3 : Int32) (v0_12 : Int32) (v0_13 : Int32) (v0_16 : Int32) (v0_17 : Int32) (v0_21 : Int32) (v0_30 : Int64) (v0_0 : Nat → Int32) (v0_6 : Nat → Int32) (v0_7 : Nat → Int32) (v0_8 : Nat → Int32) (v0_9 : Nat → Int32) (v0_10 : Nat → Int32) (v0_11 : Nat → Int32) (v0_14 : Nat → Int32) (v0_15 : Nat → Int32) (v0_18 : Nat → Int32) (v0_19 : Nat → Int32) (v0_20 : Nat → Int32) (v0_22 : Nat → Int32) : Option (Int64 × Int32 × Int32 × Int32 × Int32 × Int32 × Int32 × Int32 × Int64 × (Nat → Int32) × (Nat → Int32) × (Nat → Int32) × (Nat → Int32) × (Nat → Int32) × (Nat → Int32) × (Nat → Int32) × (Nat → Int32) × (Nat → Int32) × (Nat → Int32) × (Nat → Int32) × (Nat → Int32)) :=
  obd (F_X12_laysPieces n v0_12 v0_13 v0_16 v0_17 v0_21 v0_0 v0_6 v0_7 v0_8 v0_9 v0_10 v0_11 v0_14 v0_15 v0_18 v0_19 v0_20 v0_22) (fun u_13 => lt (F_X12_mix v0_30 u_13.2.2.2.2.2.1) (fun u_14 => F_X12_digest_j84 n v0_2 v0_3 u_13.1 u_13.2.1 u_13.2.2.1 u_13.2.2.2.1 u_13.2.2.2.2.1 u_13.2.2.2.2.2.1 u_14 u_13.2.2.2.2.2.2.1 u_13.2.2.2.2.2.2.2.1 u_13.2.2.2.2.2.2.2.2.1 u_13.2.2.2.2.2.2.2.2.2.1 u_13.2.2.2.2.2.2.2.2.2.2.1 u_13.2.2.2.2.2.2.2.2.2.2.2.1 u_13.2.2.2.2.2.2.2.2.2.2.2.2.1 u_13.2.2.2.2.2.2.2.2.2.2.2.2.2.1 u_13.2.2.2.2.2.2.2.2.2.2.2.2.2.2.1 u_13.2.2.2.2.2.2.2.2.2.2.2.2.2.2.2.1 u_13.2.2.2.2.2.2.2.2.2.2.2.2.2.2.2.2.1 u_13.2.2.2.2.2.2.2.2.2.2.2.2.2.2.2.2.2 0))
def F_X12_digest_b48 (n : Nat) (v0_0 : Nat → Int32) (s48 : Int32 × Int32 × Int32 × Int32 × Int32 × Int32 × Int64 × (Nat → Int32) × (Nat → Int32) × (Nat → Int32) × (Nat → Int32) × (Nat → Int32) × (Nat → Int32) × (Nat → Int32) × (Nat → Int32) × (Nat → Int32) × (Nat → Int32) × (Nat → Int32)) : Option (Sum (Int32 × Int32 × Int32 × Int32 × Int32 × Int32 × Int64 × (Nat → Int32) × (Nat → Int32) × (Nat → Int32) × (Nat → Int32) × (Nat → Int32) × (Nat → Int32) × (Nat → Int32) × (Nat → Int32) × (Nat → Int32) × (Nat → Int32) × (Nat → Int32)) (Int32 × Int32 × Int32 × Int32 × Int32 × Int64 × (Nat → Int32) × (Nat → Int32) × (Nat → Int32) × (Nat → Int32) × (Nat → Int32) × (Nat → Int32) × (Nat → Int32) × (Nat → Int32) × (Nat → Int32) × (Nat → Int32) × (Nat → Int32))) :=
  gd (decide (vpi 13 86)) (if (v0_0 (13 : Int32).toNatClampNeg) ≤ s48.1 then some (.inr (s48.2.1, s48.2.2.1, s48.2.2.2.1, s48.2.2.2.2.1, s48.2.2.2.2.2.1, s48.2.2.2.2.2.2.1, s48.2.2.2.2.2.2.2.1, s48.2.2.2.2.2.2.2.2.1, s48.2.2.2.2.2.2.2.2.2.1, s48.2.2.2.2.2.2.2.2.2.2.1, s48.2.2.2.2.2.2.2.2.2.2.2.1, s48.2.2.2.2.2.2.2.2.2.2.2.2.1, s48.2.2.2.2.2.2.2.2.2.2.2.2.2.1, s48.2.2.2.2.2.2.2.2.2.2.2.2.2.2.1, s48.2.2.2.2.2.2.2.2.2.2.2.2.2.2.2.1, s48.2.2.2.2.2.2.2.2.2.2.2.2.2.2.2.2.1, s48.2.2.2.2.2.2.2.2.2.2.2.2.2.2.2.2.2)) else obd (F_X12_mixSubpath n s48.2.1 s48.2.2.1 s48.2.2.2.2.2.1 s48.2.2.2.2.2.2.1 v0_0 s48.2.2.2.2.2.2.2.1 s48.2.2.2.2.2.2.2.2.1 s48.2.2.2.2.2.2.2.2.2.1 s48.2.2.2.2.2.2.2.2.2.2.1 s48.2.2.2.2.2.2.2.2.2.2.2.1 s48.2.2.2.2.2.2.2.2.2.2.2.2.1 s48.2.2.2.2.2.2.2.2.2.2.2.2.2.1 s48.2.2.2.2.2.2.2.2.2.2.2.2.2.2.1 s48.2.2.2.2.2.2.2.2.2.2.2.2.2.2.2.1 s48.2.2.2.2.2.2.2.2.2.2.2.2.2.2.2.2.1 s48.2.2.2.2.2.2.2.2.2.2.2.2.2.2.2.2.2 s48.1) (fun u_17 => lt (s48.1 + 1) (fun y_18 => some (.inl (y_18, u_17.1, u_17.2.1, u_17.2.2.1, u_17.2.2.2.1, u_17.2.2.2.2.1, u_17.2.2.2.2.2.1, u_17.2.2.2.2.2.2.1, u_17.2.2.2.2.2.2.2.1, u_17.2.2.2.2.2.2.2.2.1, u_17.2.2.2.2.2.2.2.2.2.1, u_17.2.2.2.2.2.2.2.2.2.2.1, u_17.2.2.2.2.2.2.2.2.2.2.2.1, u_17.2.2.2.2.2.2.2.2.2.2.2.2.1, u_17.2.2.2.2.2.2.2.2.2.2.2.2.2.1, u_17.2.2.2.2.2.2.2.2.2.2.2.2.2.2.1, u_17.2.2.2.2.2.2.2.2.2.2.2.2.2.2.2.1, u_17.2.2.2.2.2.2.2.2.2.2.2.2.2.2.2.2)))))
def F_X12_digest_j48 (n : Nat) (v0_2 : Int32) (v0_3 : Int32) (v0_12 : Int32) (v0_13 : Int32) (v0_16 : Int32) (v0_17 : Int32) (v0_21 : Int32) (v0_30 : Int64) (v0_0 : Nat → Int32) (v0_6 : Nat → Int32) (v0_7 : Nat → Int32) (v0_8 : Nat → Int32) (v0_9 : Nat → Int32) (v0_10 : Nat → Int32) (v0_11 : Nat → Int32) (v0_14 : Nat → Int32) (v0_15 : Nat → Int32) (v0_18 : Nat → Int32) (v0_19 : Nat → Int32) (v0_20 : Nat → Int32) (v0_22 : Nat → Int32) (x1 : Int32) : Option (Int64 × Int32 × Int32 × Int32 × Int32 × Int32 × Int32 × Int32 × Int64 × (Nat → Int32) × (Nat → Int32) × (Nat → Int32) × (Nat → Int32) × (Nat → Int32) × (Nat → Int32) × (Nat → Int32) × (Nat → Int32) × (Nat → Int32) × (Nat → Int32) × (Nat → Int32) × (Nat → Int32)) :=
  obd (lpq (F_X12_digest_b48 n v0_0) n (x1, v0_12, v0_13, v0_16, v0_17, v0_21, v0_30, v0_6, v0_7, v0_8, v0_9, v0_10, v0_11, v0_14, v0_15, v0_18, v0_19, v0_20)) (fun x_48 => F_X12_digest_j70 n v0_2 v0_3 x_48.1 x_48.2.1 x_48.2.2.1 x_48.2.2.2.1 x_48.2.2.2.2.1 x_48.2.2.2.2.2.1 v0_0 x_48.2.2.2.2.2.2.1 x_48.2.2.2.2.2.2.2.1 x_48.2.2.2.2.2.2.2.2.1 x_48.2.2.2.2.2.2.2.2.2.1 x_48.2.2.2.2.2.2.2.2.2.2.1 x_48.2.2.2.2.2.2.2.2.2.2.2.1 x_48.2.2.2.2.2.2.2.2.2.2.2.2.1 x_48.2.2.2.2.2.2.2.2.2.2.2.2.2.1 x_48.2.2.2.2.2.2.2.2.2.2.2.2.2.2.1 x_48.2.2.2.2.2.2.2.2.2.2.2.2.2.2.2.1 x_48.2.2.2.2.2.2.2.2.2.2.2.2.2.2.2.2 v0_22)
def F_X12_digest (n : Nat) (v0_2 : Int32) (v0_5 : Int32) (v0_12 : Int32) (v0_13 : Int32) (v0_16 : Int32) (v0_17 : Int32) (v0_21 : Int32) (v0_0 : Nat → Int32) (v0_6 : Nat → Int32) (v0_7 : Nat → Int32) (v0_8 : Nat → Int32) (v0_9 : Nat → Int32) (v0_10 : Nat → Int32) (v0_11 : Nat → Int32) (v0_14 : Nat → Int32) (v0_15 : Nat → Int32) (v0_18 : Nat → Int32) (v0_19 : Nat → Int32) (v0_20 : Nat → Int32) (v0_22 : Nat → Int32) : Option (Int64 × Int32 × Int32 × Int32 × Int32 × Int32 × Int32 × Int32 × Int64 × (Nat → Int32) × (Nat → Int32) × (Nat → Int32) × (Nat → Int32) × (Nat → Int32) × (Nat → Int32) × (Nat → Int32) × (Nat → Int32) × (Nat → Int32) × (Nat → Int32) × (Nat → Int32) × (Nat → Int32)) :=
  lt (F_X12_mix 2903 v0_5) (fun u_19 => gd (decide (vpi 6 86)) (obd (F_X12_mixAll n u_19 v0_0 0 (7 + (v0_0 (6 : Int32).toNatClampNeg))) (fun u_21 => gd (decide (vpi 13 86)) (lt (F_X12_mix u_21 (v0_0 (13 : Int32).toNatClampNeg)) (fun u_23 => F_X12_digest_j48 n v0_2 0 v0_12 v0_13 v0_16 v0_17 v0_21 u_23 v0_0 v0_6 v0_7 v0_8 v0_9 v0_10 v0_11 v0_14 v0_15 v0_18 v0_19 v0_20 v0_22 0)))))
abbrev wd_X12_digest (cI : ClassId) (a0 : Nat → Nat) (v0_2 : Int32) (v0_3 : Int32) (v0_5 : Int32) (v0_12 : Int32) (v0_13 : Int32) (v0_16 : Int32) (v0_17 : Int32) (v0_21 : Int32) (v0_23 : Int32) (v0_24 : Int32) (v0_25 : Int32) (v0_26 : Int32) (v0_29 : Int32) (v0_30 : Int64) (v0_0 : Nat → Int32) (v0_6 : Nat → Int32) (v0_7 : Nat → Int32) (v0_8 : Nat → Int32) (v0_9 : Nat → Int32) (v0_10 : Nat → Int32) (v0_11 : Nat → Int32) (v0_14 : Nat → Int32) (v0_15 : Nat → Int32) (v0_18 : Nat → Int32) (v0_19 : Nat → Int32) (v0_20 : Nat → Int32) (v0_22 : Nat → Int32) : va_W := [(a0 0, .inr (11, [.ref (a0 1), .ref (a0 2), .int v0_2, .int v0_3, .ref (a0 5), .int v0_5, .ref (a0 7), .ref (a0 8), .ref (a0 9), .ref (a0 10), .ref (a0 11), .ref (a0 12), .int v0_12, .int v0_13, .ref (a0 15), .ref (a0 16), .int v0_16, .int v0_17, .ref (a0 19), .ref (a0 20), .ref (a0 21), .int v0_21, .ref (a0 23), .int v0_23, .int v0_24, .int v0_25, .int v0_26, .ref (a0 28), .ref (a0 29), .int v0_29, .long v0_30])), (a0 1, .inl (cI, 86, .inl v0_0)), (a0 7, .inl (cI, 8, .inl v0_6)), (a0 8, .inl (cI, 8, .inl v0_7)), (a0 9, .inl (cI, 8, .inl v0_8)), (a0 10, .inl (cI, 8, .inl v0_9)), (a0 11, .inl (cI, 8, .inl v0_10)), (a0 12, .inl (cI, 8, .inl v0_11)), (a0 15, .inl (cI, 240, .inl v0_14)), (a0 16, .inl (cI, 240, .inl v0_15)), (a0 19, .inl (cI, 20, .inl v0_18)), (a0 20, .inl (cI, 20, .inl v0_19)), (a0 21, .inl (cI, 20, .inl v0_20)), (a0 23, .inl (cI, 27000, .inl v0_22))]
abbrev wz_X12_digest : List Cond := .code yX12_digest cX12_digest 3 (some .long) :: wALL
abbrev rm_X12_digest : Room := { frames := 6, cells := 0, slots := 0, locals := 139 }
abbrev Q_X12_digest (dC : Nat → ClassId) (dI : Nat → Nat → Nat) (cI : ClassId) (a0 : Nat → Nat) (v0_2 : Int32) (v0_5 : Int32) (v0_24 : Int32) (v0_25 : Int32) (v0_26 : Int32) (v0_29 : Int32) (v0_0 : Nat → Int32) (u : (Int64 × Int32 × Int32 × Int32 × Int32 × Int32 × Int32 × Int32 × Int64 × (Nat → Int32) × (Nat → Int32) × (Nat → Int32) × (Nat → Int32) × (Nat → Int32) × (Nat → Int32) × (Nat → Int32) × (Nat → Int32) × (Nat → Int32) × (Nat → Int32) × (Nat → Int32) × (Nat → Int32))) (A : Nat → Prop) : Array Value → State → Outcome → State → Prop := va_Ql (fun (r : Int64) (_ : Unit) => r = u.1) (fun _ => q_at dC dI cI A (wd_X12_digest cI a0 v0_2 u.2.1 v0_5 u.2.2.1 u.2.2.2.1 u.2.2.2.2.1 u.2.2.2.2.2.1 u.2.2.2.2.2.2.1 u.2.2.2.2.2.2.2.1 v0_24 v0_25 v0_26 v0_29 u.2.2.2.2.2.2.2.2.1 v0_0 u.2.2.2.2.2.2.2.2.2.1 u.2.2.2.2.2.2.2.2.2.2.1 u.2.2.2.2.2.2.2.2.2.2.2.1 u.2.2.2.2.2.2.2.2.2.2.2.2.1 u.2.2.2.2.2.2.2.2.2.2.2.2.2.1 u.2.2.2.2.2.2.2.2.2.2.2.2.2.2.1 u.2.2.2.2.2.2.2.2.2.2.2.2.2.2.2.1 u.2.2.2.2.2.2.2.2.2.2.2.2.2.2.2.2.1 u.2.2.2.2.2.2.2.2.2.2.2.2.2.2.2.2.2.1 u.2.2.2.2.2.2.2.2.2.2.2.2.2.2.2.2.2.2.1 u.2.2.2.2.2.2.2.2.2.2.2.2.2.2.2.2.2.2.2.1 u.2.2.2.2.2.2.2.2.2.2.2.2.2.2.2.2.2.2.2.2)) A
set_option maxHeartbeats 4000000 in
set_option maxRecDepth 100000 in
theorem c_X12_digest (l : Launch) (dC : Nat → ClassId) (dI : Nat → Nat → Nat) (cI : ClassId) (sz : Nat) (a0 : Nat → Nat) (v0_2 : Int32) (v0_3 : Int32) (v0_5 : Int32) (v0_12 : Int32) (v0_13 : Int32) (v0_16 : Int32) (v0_17 : Int32) (v0_21 : Int32) (v0_23 : Int32) (v0_24 : Int32) (v0_25 : Int32) (v0_26 : Int32) (v0_29 : Int32) (v0_30 : Int64) (v0_0 : Nat → Int32) (v0_6 : Nat → Int32) (v0_7 : Nat → Int32) (v0_8 : Nat → Int32) (v0_9 : Nat → Int32) (v0_10 : Nat → Int32) (v0_11 : Nat → Int32) (v0_14 : Nat → Int32) (v0_15 : Nat → Int32) (v0_18 : Nat → Int32) (v0_19 : Nat → Int32) (v0_20 : Nat → Int32) (v0_22 : Nat → Int32) (n : Nat) (u : (Int64 × Int32 × Int32 × Int32 × Int32 × Int32 × Int32 × Int32 × Int64 × (Nat → Int32) × (Nat → Int32) × (Nat → Int32) × (Nat → Int32) × (Nat → Int32) × (Nat → Int32) × (Nat → Int32) × (Nat → Int32) × (Nat → Int32) × (Nat → Int32) × (Nat → Int32) × (Nat → Int32))) (hF : F_X12_digest n v0_2 v0_5 v0_12 v0_13 v0_16 v0_17 v0_21 v0_0 v0_6 v0_7 v0_8 v0_9 v0_10 v0_11 v0_14 v0_15 v0_18 v0_19 v0_20 v0_22 = some u) : Met l yX12_digest wz_X12_digest rm_X12_digest (va_Pc [.ref (a0 0)] (q_pre dC dI cI (wd_X12_digest cI a0 v0_2 v0_3 v0_5 v0_12 v0_13 v0_16 v0_17 v0_21 v0_23 v0_24 v0_25 v0_26 v0_29 v0_30 v0_0 v0_6 v0_7 v0_8 v0_9 v0_10 v0_11 v0_14 v0_15 v0_18 v0_19 v0_20 v0_22) sz)) (Q_X12_digest dC dI cI a0 v0_2 v0_5 v0_24 v0_25 v0_26 v0_29 v0_0 u (va_A (wd_X12_digest cI a0 v0_2 v0_3 v0_5 v0_12 v0_13 v0_16 v0_17 v0_21 v0_23 v0_24 v0_25 v0_26 v0_29 v0_30 v0_0 v0_6 v0_7 v0_8 v0_9 v0_10 v0_11 v0_14 v0_15 v0_18 v0_19 v0_20 v0_22) sz)) 0 0 (va_A (wd_X12_digest cI a0 v0_2 v0_3 v0_5 v0_12 v0_13 v0_16 v0_17 v0_21 v0_23 v0_24 v0_25 v0_26 v0_29 v0_30 v0_0 v0_6 v0_7 v0_8 v0_9 v0_10 v0_11 v0_14 v0_15 v0_18 v0_19 v0_20 v0_22) sz) := by
  refine Met.ofW (cc := cX12_digest) (maxL := 3) (ret := (some .long)) (by decide) rfl ?_
  intro p e s m args below meth c s₁ B hml hv
  obtain ⟨rfl, hsz, hP, hK, hD0⟩ := hv
  have hx := B.exec
  have hb := B.bytes
  have hr := B.returns
  have hts := atoms_spec (ws := wz_X12_digest) B.pre
  have hta := wz_tl hts
  have hown : s.vm.findClass RX12 = some m.cls := findClass_of_methodNamed B.named
  have hlocks := B.notSynchronized
  subst hsz
  have hD := hD0.self (sz := s.heap.size)
  generalize hAe : va_A (wd_X12_digest cI a0 v0_2 v0_3 v0_5 v0_12 v0_13 v0_16 v0_17 v0_21 v0_23 v0_24 v0_25 v0_26 v0_29 v0_30 v0_0 v0_6 v0_7 v0_8 v0_9 v0_10 v0_11 v0_14 v0_15 v0_18 v0_19 v0_20 v0_22) s.heap.size = A at hD ⊢
  have hA : ∀ q : Nat, s.heap.size ≤ q → A q := fun q h => by rw [← hAe]; exact Or.inr h
  have hS : va_S A s.heap s.heap [] := va_S.rf
  have hP : va_P (dC, dI) vwCl (wd_X12_digest cI a0 v0_2 v0_3 v0_5 v0_12 v0_13 v0_16 v0_17 v0_21 v0_23 v0_24 v0_25 v0_26 v0_29 v0_30 v0_0 v0_6 v0_7 v0_8 v0_9 v0_10 v0_11 v0_14 v0_15 v0_18 v0_19 v0_20 v0_22) s.heap := hP
  have hl := lv_entry ([.ref (a0 0)]) (n := 3) (Nat.le_of_ble_eq_true rfl)
  rw [lg_entry_eq]
  generalize (lg_sl ([.ref (a0 0)]) ++ List.replicate (3 - (lg_sl ([.ref (a0 0)])).length) Slot.unset).toArray = ls at hl ⊢
  have hl : lv_has ls 3 [(0, .ref (a0 0))] := hl
  obtain ⟨H, hHe⟩ : ∃ H, H = s.heap := ⟨_, rfl⟩
  have hS : va_S A s.heap H [] := by rw [hHe]; exact hS
  have hP : va_P (dC, dI) vwCl (wd_X12_digest cI a0 v0_2 v0_3 v0_5 v0_12 v0_13 v0_16 v0_17 v0_21 v0_23 v0_24 v0_25 v0_26 v0_29 v0_30 v0_0 v0_6 v0_7 v0_8 v0_9 v0_10 v0_11 v0_14 v0_15 v0_18 v0_19 v0_20 v0_22) H := by rw [hHe]; exact hP
  rw [← hHe]
  unfold F_X12_digest at hF
  have j144 : ∀ (v0_3 : Int32) (v0_12 : Int32) (v0_13 : Int32) (v0_16 : Int32) (v0_17 : Int32) (v0_21 : Int32) (v0_23 : Int32) (v0_30 : Int64) (v0_6 : Nat → Int32) (v0_7 : Nat → Int32) (v0_8 : Nat → Int32) (v0_9 : Nat → Int32) (v0_10 : Nat → Int32) (v0_11 : Nat → Int32) (v0_14 : Nat → Int32) (v0_15 : Nat → Int32) (v0_18 : Nat → Int32) (v0_19 : Nat → Int32) (v0_20 : Nat → Int32) (v0_22 : Nat → Int32), F_X12_digest_j144 v0_2 v0_3 v0_12 v0_13 v0_16 v0_17 v0_21 v0_23 v0_30 v0_6 v0_7 v0_8 v0_9 v0_10 v0_11 v0_14 v0_15 v0_18 v0_19 v0_20 v0_22 = some u → ∀ (H : Heap) (locs : List Loc) (ls : Array Slot), va_P (dC, dI) vwCl (wd_X12_digest cI a0 v0_2 v0_3 v0_5 v0_12 v0_13 v0_16 v0_17 v0_21 v0_23 v0_24 v0_25 v0_26 v0_29 v0_30 v0_0 v0_6 v0_7 v0_8 v0_9 v0_10 v0_11 v0_14 v0_15 v0_18 v0_19 v0_20 v0_22) H → va_D A (wd_X12_digest cI a0 v0_2 v0_3 v0_5 v0_12 v0_13 v0_16 v0_17 v0_21 v0_23 v0_24 v0_25 v0_26 v0_29 v0_30 v0_0 v0_6 v0_7 v0_8 v0_9 v0_10 v0_11 v0_14 v0_15 v0_18 v0_19 v0_20 v0_22) → va_S A s.heap H locs → lv_has ls 3 [(0, .ref (a0 0))] → W p l e (headSpec wz_X12_digest rm_X12_digest).room s m [.ref (a0 0)].toArray below meth c H locs 0 0 (MQ below (Q_X12_digest dC dI cI a0 v0_2 v0_5 v0_24 v0_25 v0_26 v0_29 v0_0 u A) [.ref (a0 0)].toArray s 0 0 A) (F0 m 144 ls []) := by
    intro v0_3 v0_12 v0_13 v0_16 v0_17 v0_21 v0_23 v0_30 v0_6 v0_7 v0_8 v0_9 v0_10 v0_11 v0_14 v0_15 v0_18 v0_19 v0_20 v0_22 hF H locs ls hP hD hS hl
    unfold F_X12_digest_j144 at hF
    refine lv_aload_n hx hb dX12_digest_144 rfl (lv_at hl 0 rfl) ?_
    refine lv_aload_n hx hb dX12_digest_145 rfl (lv_at hl 0 rfl) ?_
    refine va_get (D := (dC, dI)) (ci := 11) (v := .int v0_2) (C := RX12) (T := TX12) (N := 31) hx hb hta uw_X12 hown hK hP 0 rfl rfl 2 (by decide) (hta _ mA820) (fun _ h9 => h9) rfl dX12_digest_146 ?_
    obtain ⟨u_1, hu_1, hF⟩ := lt_some hF
    have hPc := hP.sub (ws' := (wd_X12_mix cI a0 v0_2 v0_3 v0_5 v0_12 v0_13 v0_16 v0_17 v0_21 v0_23 v0_24 v0_25 v0_26 v0_29 v0_30)) [0] rfl
    have hDc := hD.sub (ws' := (wd_X12_mix cI a0 v0_2 v0_3 v0_5 v0_12 v0_13 v0_16 v0_17 v0_21 v0_23 v0_24 v0_25 v0_26 v0_29 v0_30)) [0] rfl rfl
    refine q_callv (wc := (wd_X12_mix cI a0 v0_2 v0_3 v0_5 v0_12 v0_13 v0_16 v0_17 v0_21 v0_23 v0_24 v0_25 v0_26 v0_29 v0_30)) (w1 := (wd_X12_mix cI a0 v0_2 v0_3 v0_5 v0_12 v0_13 v0_16 v0_17 v0_21 v0_23 v0_24 v0_25 v0_26 v0_29 u_1)) (ws' := (wd_X12_digest cI a0 v0_2 v0_3 v0_5 v0_12 v0_13 v0_16 v0_17 v0_21 v0_23 v0_24 v0_25 v0_26 v0_29 u_1 v0_0 v0_6 v0_7 v0_8 v0_9 v0_10 v0_11 v0_14 v0_15 v0_18 v0_19 v0_20 v0_22)) hP hD hS hA [0] [1, 2, 3, 4, 5, 6, 7, 8, 9, 10, 11, 12, 13] [13, 0, 1, 2, 3, 4, 5, 6, 7, 8, 9, 10, 11, 12] rfl rfl rfl (by decide) rfl rfl (va_runV (As := [.int v0_2]) (rest := []) ⟨hx, hb, hml, hown, hta⟩ (c_X12_mix l dC dI cI H.size a0 v0_2 v0_3 v0_5 v0_12 v0_13 v0_16 v0_17 v0_21 v0_23 v0_24 v0_25 v0_26 v0_29 v0_30 v0_2 u_1 hu_1.symm) (cwV 1 hta (ga_V mA1102 mA1103 mA1104 mA814 mA1098) rfl rfl rfl (by decide +kernel) ⟨Nat.le_of_ble_eq_true rfl, Nat.le_of_ble_eq_true rfl⟩) ⟨q_fb, va_recv hK hP (ci := 11) (q0 := 0) rfl rfl, q_ps hPc hK hDc⟩ rfl rfl hl.1 rfl (lv_room (Nat.le_of_ble_eq_true rfl)) dX12_digest_149 ⟨Nat.zero_le _, Nat.zero_le _⟩) (fun H locs hP hD hS => ?_)
    refine lv_aload_n hx hb dX12_digest_152 rfl (lv_at hl 0 rfl) ?_
    refine va_get (D := (dC, dI)) (ci := 11) (v := .long u_1) (C := RX12) (T := TX12) (N := 31) hx hb hta uw_X12 hown hK hP 0 rfl rfl 30 (by decide) (hta _ mA1100) (fun _ h9 => h9) rfl dX12_digest_153 ?_
    obtain rfl := Option.some.inj hF
    exact W.lret (v := u_1) hx hb hr (fun t ht hW => ⟨⟨u_1, (), rfl, rfl, by rw [ht]; exact hP, va_K.moved hW.alike hK, hD⟩, hS.F ht⟩) hS.2.2 dX12_digest_156
  have j84 : ∀ (v0_3 : Int32) (v0_12 : Int32) (v0_13 : Int32) (v0_16 : Int32) (v0_17 : Int32) (v0_21 : Int32) (v0_23 : Int32) (v0_30 : Int64) (v0_6 : Nat → Int32) (v0_7 : Nat → Int32) (v0_8 : Nat → Int32) (v0_9 : Nat → Int32) (v0_10 : Nat → Int32) (v0_11 : Nat → Int32) (v0_14 : Nat → Int32) (v0_15 : Nat → Int32) (v0_18 : Nat → Int32) (v0_19 : Nat → Int32) (v0_20 : Nat → Int32) (v0_22 : Nat → Int32) (x1 : Int32), F_X12_digest_j84 n v0_2 v0_3 v0_12 v0_13 v0_16 v0_17 v0_21 v0_23 v0_30 v0_6 v0_7 v0_8 v0_9 v0_10 v0_11 v0_14 v0_15 v0_18 v0_19 v0_20 v0_22 x1 = some u → ∀ (H : Heap) (locs : List Loc) (ls : Array Slot), va_P (dC, dI) vwCl (wd_X12_digest cI a0 v0_2 v0_3 v0_5 v0_12 v0_13 v0_16 v0_17 v0_21 v0_23 v0_24 v0_25 v0_26 v0_29 v0_30 v0_0 v0_6 v0_7 v0_8 v0_9 v0_10 v0_11 v0_14 v0_15 v0_18 v0_19 v0_20 v0_22) H → va_D A (wd_X12_digest cI a0 v0_2 v0_3 v0_5 v0_12 v0_13 v0_16 v0_17 v0_21 v0_23 v0_24 v0_25 v0_26 v0_29 v0_30 v0_0 v0_6 v0_7 v0_8 v0_9 v0_10 v0_11 v0_14 v0_15 v0_18 v0_19 v0_20 v0_22) → va_S A s.heap H locs → lv_has ls 3 [(0, .ref (a0 0)), (1, .int x1)] → W p l e (headSpec wz_X12_digest rm_X12_digest).room s m [.ref (a0 0)].toArray below meth c H locs 0 0 (MQ below (Q_X12_digest dC dI cI a0 v0_2 v0_5 v0_24 v0_25 v0_26 v0_29 v0_0 u A) [.ref (a0 0)].toArray s 0 0 A) (F0 m 84 ls []) := by
    intro v0_3 v0_12 v0_13 v0_16 v0_17 v0_21 v0_23 v0_30 v0_6 v0_7 v0_8 v0_9 v0_10 v0_11 v0_14 v0_15 v0_18 v0_19 v0_20 v0_22 x1 hF H locs ls hP hD hS hl
    unfold F_X12_digest_j84 at hF
    obtain ⟨x_84, hL_84, hE_84⟩ := obd_some hF
    have kl_84 : ∀ (k : Nat) (s84 : Int32 × Int64), lpq (F_X12_digest_b84 n v0_23 v0_22) k s84 = some x_84 → ∀ (H : Heap) (locs : List Loc) (ls : Array Slot), va_P (dC, dI) vwCl (wd_X12_digest cI a0 v0_2 v0_3 v0_5 v0_12 v0_13 v0_16 v0_17 v0_21 v0_23 v0_24 v0_25 v0_26 v0_29 s84.2 v0_0 v0_6 v0_7 v0_8 v0_9 v0_10 v0_11 v0_14 v0_15 v0_18 v0_19 v0_20 v0_22) H → va_D A (wd_X12_digest cI a0 v0_2 v0_3 v0_5 v0_12 v0_13 v0_16 v0_17 v0_21 v0_23 v0_24 v0_25 v0_26 v0_29 s84.2 v0_0 v0_6 v0_7 v0_8 v0_9 v0_10 v0_11 v0_14 v0_15 v0_18 v0_19 v0_20 v0_22) → va_S A s.heap H locs → lv_has ls 3 [(0, .ref (a0 0)), (1, .int s84.1)] → W p l e (headSpec wz_X12_digest rm_X12_digest).room s m [.ref (a0 0)].toArray below meth c H locs 0 0 (MQ below (Q_X12_digest dC dI cI a0 v0_2 v0_5 v0_24 v0_25 v0_26 v0_29 v0_0 u A) [.ref (a0 0)].toArray s 0 0 A) (F0 m 84 ls []) := by
      intro k
      induction k with
      | zero => intro s84 h; exact absurd h lpq_zero
      | succ k ih_84 =>
        intro s84 h H locs ls hP hD hS hl
        obtain ⟨o_84, hF, hO_84⟩ := lpq_succ h
        unfold F_X12_digest_b84 at hF
        have j138 : ∀ (v0_30 : Int64) (x1 : Int32), F_X12_digest_j138 v0_30 x1 = some o_84 → ∀ (H : Heap) (locs : List Loc) (ls : Array Slot), va_P (dC, dI) vwCl (wd_X12_digest cI a0 v0_2 v0_3 v0_5 v0_12 v0_13 v0_16 v0_17 v0_21 v0_23 v0_24 v0_25 v0_26 v0_29 v0_30 v0_0 v0_6 v0_7 v0_8 v0_9 v0_10 v0_11 v0_14 v0_15 v0_18 v0_19 v0_20 v0_22) H → va_D A (wd_X12_digest cI a0 v0_2 v0_3 v0_5 v0_12 v0_13 v0_16 v0_17 v0_21 v0_23 v0_24 v0_25 v0_26 v0_29 v0_30 v0_0 v0_6 v0_7 v0_8 v0_9 v0_10 v0_11 v0_14 v0_15 v0_18 v0_19 v0_20 v0_22) → va_S A s.heap H locs → lv_has ls 3 [(0, .ref (a0 0)), (1, .int x1)] → W p l e (headSpec wz_X12_digest rm_X12_digest).room s m [.ref (a0 0)].toArray below meth c H locs 0 0 (MQ below (Q_X12_digest dC dI cI a0 v0_2 v0_5 v0_24 v0_25 v0_26 v0_29 v0_0 u A) [.ref (a0 0)].toArray s 0 0 A) (F0 m 138 ls []) := by
          intro v0_30 x1 hF H locs ls hP hD hS hl
          unfold F_X12_digest_j138 at hF
          obtain ⟨y_2, ey_2, hF⟩ := lt_some hF
          refine lv_iinc (v := y_2) (lv' := [(1, .int y_2), (0, .ref (a0 0))]) hx hb dX12_digest_138 hl (k := 1) rfl (by rw [ey_2]; rfl) (by decide) rfl (fun ls hl => ?_)
          refine lv_goto (tgt := 84) hx hb dX12_digest_141 (by decide) ?_
          obtain rfl := Option.some.inj hF
          exact ih_84 _ hO_84 _ _ _ hP hD hS (lv_sub hl [1, 0] rfl)
        have j103 : ∀ (v0_30 : Int64) (x1 : Int32) (x2 : Int32), F_X12_digest_j103 n v0_30 v0_22 x1 x2 = some o_84 → ∀ (H : Heap) (locs : List Loc) (ls : Array Slot), va_P (dC, dI) vwCl (wd_X12_digest cI a0 v0_2 v0_3 v0_5 v0_12 v0_13 v0_16 v0_17 v0_21 v0_23 v0_24 v0_25 v0_26 v0_29 v0_30 v0_0 v0_6 v0_7 v0_8 v0_9 v0_10 v0_11 v0_14 v0_15 v0_18 v0_19 v0_20 v0_22) H → va_D A (wd_X12_digest cI a0 v0_2 v0_3 v0_5 v0_12 v0_13 v0_16 v0_17 v0_21 v0_23 v0_24 v0_25 v0_26 v0_29 v0_30 v0_0 v0_6 v0_7 v0_8 v0_9 v0_10 v0_11 v0_14 v0_15 v0_18 v0_19 v0_20 v0_22) → va_S A s.heap H locs → lv_has ls 3 [(0, .ref (a0 0)), (1, .int x1), (2, .int x2)] → W p l e (headSpec wz_X12_digest rm_X12_digest).room s m [.ref (a0 0)].toArray below meth c H locs 0 0 (MQ below (Q_X12_digest dC dI cI a0 v0_2 v0_5 v0_24 v0_25 v0_26 v0_29 v0_0 u A) [.ref (a0 0)].toArray s 0 0 A) (F0 m 103 ls []) := by
          intro v0_30 x1 x2 hF H locs ls hP hD hS hl
          unfold F_X12_digest_j103 at hF
          obtain ⟨x_103, hL_103, hE_103⟩ := obd_some hF
          have kl_103 : ∀ (k : Nat) (s103 : Int32 × Int64), lpq (F_X12_digest_b103 v0_22 x1) k s103 = some x_103 → ∀ (H : Heap) (locs : List Loc) (ls : Array Slot), va_P (dC, dI) vwCl (wd_X12_digest cI a0 v0_2 v0_3 v0_5 v0_12 v0_13 v0_16 v0_17 v0_21 v0_23 v0_24 v0_25 v0_26 v0_29 s103.2 v0_0 v0_6 v0_7 v0_8 v0_9 v0_10 v0_11 v0_14 v0_15 v0_18 v0_19 v0_20 v0_22) H → va_D A (wd_X12_digest cI a0 v0_2 v0_3 v0_5 v0_12 v0_13 v0_16 v0_17 v0_21 v0_23 v0_24 v0_25 v0_26 v0_29 s103.2 v0_0 v0_6 v0_7 v0_8 v0_9 v0_10 v0_11 v0_14 v0_15 v0_18 v0_19 v0_20 v0_22) → va_S A s.heap H locs → lv_has ls 3 [(0, .ref (a0 0)), (1, .int x1), (2, .int s103.1)] → W p l e (headSpec wz_X12_digest rm_X12_digest).room s m [.ref (a0 0)].toArray below meth c H locs 0 0 (MQ below (Q_X12_digest dC dI cI a0 v0_2 v0_5 v0_24 v0_25 v0_26 v0_29 v0_0 u A) [.ref (a0 0)].toArray s 0 0 A) (F0 m 103 ls []) := by
            intro k
            induction k with
            | zero => intro s103 h; exact absurd h lpq_zero
            | succ k ih_103 =>
              intro s103 h H locs ls hP hD hS hl
              obtain ⟨o_103, hF, hO_103⟩ := lpq_succ h
              unfold F_X12_digest_b103 at hF
              refine lv_iload_n hx hb dX12_digest_103 rfl (lv_at hl 2 rfl) ?_
              refine lv_aload_n hx hb dX12_digest_104 rfl (lv_at hl 0 rfl) ?_
              refine lv_iload_n hx hb dX12_digest_105 rfl (lv_at hl 1 rfl) ?_
              obtain ⟨u_3, hu_3, hF⟩ := obd_some hF
              have hPc := hP.sub (ws' := (wd_X12_cornersOf cI a0 v0_2 v0_3 v0_5 v0_12 v0_13 v0_16 v0_17 v0_21 v0_23 v0_24 v0_25 v0_26 v0_29 s103.2 v0_22)) [0, 13] rfl
              have hDc := hD.sub (ws' := (wd_X12_cornersOf cI a0 v0_2 v0_3 v0_5 v0_12 v0_13 v0_16 v0_17 v0_21 v0_23 v0_24 v0_25 v0_26 v0_29 s103.2 v0_22)) [0, 13] rfl rfl
              refine q_calli (wc := (wd_X12_cornersOf cI a0 v0_2 v0_3 v0_5 v0_12 v0_13 v0_16 v0_17 v0_21 v0_23 v0_24 v0_25 v0_26 v0_29 s103.2 v0_22)) (w1 := (wd_X12_cornersOf cI a0 v0_2 v0_3 v0_5 v0_12 v0_13 v0_16 v0_17 v0_21 v0_23 v0_24 v0_25 v0_26 v0_29 s103.2 v0_22)) (ws' := (wd_X12_digest cI a0 v0_2 v0_3 v0_5 v0_12 v0_13 v0_16 v0_17 v0_21 v0_23 v0_24 v0_25 v0_26 v0_29 s103.2 v0_0 v0_6 v0_7 v0_8 v0_9 v0_10 v0_11 v0_14 v0_15 v0_18 v0_19 v0_20 v0_22)) hP hD hS hA [0, 13] [1, 2, 3, 4, 5, 6, 7, 8, 9, 10, 11, 12] [12, 0, 1, 2, 3, 4, 5, 6, 7, 8, 9, 10, 11, 13] rfl rfl rfl (by decide) rfl rfl (va_runV (As := [.int x1]) (rest := [.int s103.1]) ⟨hx, hb, hml, hown, hta⟩ (c_X12_cornersOf l dC dI cI H.size a0 v0_2 v0_3 v0_5 v0_12 v0_13 v0_16 v0_17 v0_21 v0_23 v0_24 v0_25 v0_26 v0_29 s103.2 v0_22 x1 u_3 hu_3) (cwV 1 hta (ga_V mA1019 mA1020 mA1021 mA814 mA1014) rfl rfl rfl (by decide +kernel) ⟨Nat.le_of_ble_eq_true rfl, Nat.le_of_ble_eq_true rfl⟩) ⟨q_fb, va_recv hK hP (ci := 11) (q0 := 0) rfl rfl, q_ps hPc hK hDc⟩ rfl rfl hl.1 rfl (lv_room (Nat.le_of_ble_eq_true rfl)) dX12_digest_106 ⟨Nat.zero_le _, Nat.zero_le _⟩) (fun H locs hP hD hS => ?_)
              refine lv_icmp_ge (tgt := 138) hx hb dX12_digest_109 (by decide) (fun c_4 => ?_) (fun c_4 => ?_)
              · have hF := it_t hF c_4
                obtain rfl := Option.some.inj hF
                obtain rfl := lpq_x hO_103
                have hF := hE_103
                exact j138 s103.2 x1 hF _ _ _ hP hD hS (lv_sub hl [0, 1] rfl)
              · have hF := it_f hF c_4
                refine lv_aload_n hx hb dX12_digest_112 rfl (lv_at hl 0 rfl) ?_
                refine lv_aload_n hx hb dX12_digest_113 rfl (lv_at hl 0 rfl) ?_
                refine lv_iload_n hx hb dX12_digest_114 rfl (lv_at hl 1 rfl) ?_
                refine lv_iload_n hx hb dX12_digest_115 rfl (lv_at hl 2 rfl) ?_
                obtain ⟨u_5, hu_5, hF⟩ := obd_some hF
                have hPc := hP.sub (ws' := (wd_X12_cornerX cI a0 v0_2 v0_3 v0_5 v0_12 v0_13 v0_16 v0_17 v0_21 v0_23 v0_24 v0_25 v0_26 v0_29 s103.2 v0_22)) [0, 13] rfl
                have hDc := hD.sub (ws' := (wd_X12_cornerX cI a0 v0_2 v0_3 v0_5 v0_12 v0_13 v0_16 v0_17 v0_21 v0_23 v0_24 v0_25 v0_26 v0_29 s103.2 v0_22)) [0, 13] rfl rfl
                refine q_calli (wc := (wd_X12_cornerX cI a0 v0_2 v0_3 v0_5 v0_12 v0_13 v0_16 v0_17 v0_21 v0_23 v0_24 v0_25 v0_26 v0_29 s103.2 v0_22)) (w1 := (wd_X12_cornerX cI a0 v0_2 v0_3 v0_5 v0_12 v0_13 v0_16 v0_17 v0_21 v0_23 v0_24 v0_25 v0_26 v0_29 s103.2 v0_22)) (ws' := (wd_X12_digest cI a0 v0_2 v0_3 v0_5 v0_12 v0_13 v0_16 v0_17 v0_21 v0_23 v0_24 v0_25 v0_26 v0_29 s103.2 v0_0 v0_6 v0_7 v0_8 v0_9 v0_10 v0_11 v0_14 v0_15 v0_18 v0_19 v0_20 v0_22)) hP hD hS hA [0, 13] [1, 2, 3, 4, 5, 6, 7, 8, 9, 10, 11, 12] [12, 0, 1, 2, 3, 4, 5, 6, 7, 8, 9, 10, 11, 13] rfl rfl rfl (by decide) rfl rfl (va_runV (As := [.int x1, .int s103.1]) (rest := [.ref (a0 0)]) ⟨hx, hb, hml, hown, hta⟩ (c_X12_cornerX l dC dI cI H.size a0 v0_2 v0_3 v0_5 v0_12 v0_13 v0_16 v0_17 v0_21 v0_23 v0_24 v0_25 v0_26 v0_29 s103.2 v0_22 x1 s103.1 u_5 hu_5) (cwV 2 hta (ga_V mA1028 mA1029 mA1030 mA814 mA1018) rfl rfl rfl (by decide +kernel) ⟨Nat.le_of_ble_eq_true rfl, Nat.le_of_ble_eq_true rfl⟩) ⟨q_fb, va_recv hK hP (ci := 11) (q0 := 0) rfl rfl, q_ps hPc hK hDc⟩ rfl rfl hl.1 rfl (lv_room (Nat.le_of_ble_eq_true rfl)) dX12_digest_116 ⟨Nat.zero_le _, Nat.zero_le _⟩) (fun H locs hP hD hS => ?_)
                obtain ⟨u_6, hu_6, hF⟩ := lt_some hF
                have hPc := hP.sub (ws' := (wd_X12_mix cI a0 v0_2 v0_3 v0_5 v0_12 v0_13 v0_16 v0_17 v0_21 v0_23 v0_24 v0_25 v0_26 v0_29 s103.2)) [0] rfl
                have hDc := hD.sub (ws' := (wd_X12_mix cI a0 v0_2 v0_3 v0_5 v0_12 v0_13 v0_16 v0_17 v0_21 v0_23 v0_24 v0_25 v0_26 v0_29 s103.2)) [0] rfl rfl
                refine q_callv (wc := (wd_X12_mix cI a0 v0_2 v0_3 v0_5 v0_12 v0_13 v0_16 v0_17 v0_21 v0_23 v0_24 v0_25 v0_26 v0_29 s103.2)) (w1 := (wd_X12_mix cI a0 v0_2 v0_3 v0_5 v0_12 v0_13 v0_16 v0_17 v0_21 v0_23 v0_24 v0_25 v0_26 v0_29 u_6)) (ws' := (wd_X12_digest cI a0 v0_2 v0_3 v0_5 v0_12 v0_13 v0_16 v0_17 v0_21 v0_23 v0_24 v0_25 v0_26 v0_29 u_6 v0_0 v0_6 v0_7 v0_8 v0_9 v0_10 v0_11 v0_14 v0_15 v0_18 v0_19 v0_20 v0_22)) hP hD hS hA [0] [1, 2, 3, 4, 5, 6, 7, 8, 9, 10, 11, 12, 13] [13, 0, 1, 2, 3, 4, 5, 6, 7, 8, 9, 10, 11, 12] rfl rfl rfl (by decide) rfl rfl (va_runV (As := [.int u_5]) (rest := []) ⟨hx, hb, hml, hown, hta⟩ (c_X12_mix l dC dI cI H.size a0 v0_2 v0_3 v0_5 v0_12 v0_13 v0_16 v0_17 v0_21 v0_23 v0_24 v0_25 v0_26 v0_29 s103.2 u_5 u_6 hu_6.symm) (cwV 1 hta (ga_V mA1102 mA1103 mA1104 mA814 mA1098) rfl rfl rfl (by decide +kernel) ⟨Nat.le_of_ble_eq_true rfl, Nat.le_of_ble_eq_true rfl⟩) ⟨q_fb, va_recv hK hP (ci := 11) (q0 := 0) rfl rfl, q_ps hPc hK hDc⟩ rfl rfl hl.1 rfl (lv_room (Nat.le_of_ble_eq_true rfl)) dX12_digest_119 ⟨Nat.zero_le _, Nat.zero_le _⟩) (fun H locs hP hD hS => ?_)
                refine lv_aload_n hx hb dX12_digest_122 rfl (lv_at hl 0 rfl) ?_
                refine lv_aload_n hx hb dX12_digest_123 rfl (lv_at hl 0 rfl) ?_
                refine lv_iload_n hx hb dX12_digest_124 rfl (lv_at hl 1 rfl) ?_
                refine lv_iload_n hx hb dX12_digest_125 rfl (lv_at hl 2 rfl) ?_
                obtain ⟨u_7, hu_7, hF⟩ := obd_some hF
                have hPc := hP.sub (ws' := (wd_X12_cornerY cI a0 v0_2 v0_3 v0_5 v0_12 v0_13 v0_16 v0_17 v0_21 v0_23 v0_24 v0_25 v0_26 v0_29 u_6 v0_22)) [0, 13] rfl
                have hDc := hD.sub (ws' := (wd_X12_cornerY cI a0 v0_2 v0_3 v0_5 v0_12 v0_13 v0_16 v0_17 v0_21 v0_23 v0_24 v0_25 v0_26 v0_29 u_6 v0_22)) [0, 13] rfl rfl
                refine q_calli (wc := (wd_X12_cornerY cI a0 v0_2 v0_3 v0_5 v0_12 v0_13 v0_16 v0_17 v0_21 v0_23 v0_24 v0_25 v0_26 v0_29 u_6 v0_22)) (w1 := (wd_X12_cornerY cI a0 v0_2 v0_3 v0_5 v0_12 v0_13 v0_16 v0_17 v0_21 v0_23 v0_24 v0_25 v0_26 v0_29 u_6 v0_22)) (ws' := (wd_X12_digest cI a0 v0_2 v0_3 v0_5 v0_12 v0_13 v0_16 v0_17 v0_21 v0_23 v0_24 v0_25 v0_26 v0_29 u_6 v0_0 v0_6 v0_7 v0_8 v0_9 v0_10 v0_11 v0_14 v0_15 v0_18 v0_19 v0_20 v0_22)) hP hD hS hA [0, 13] [1, 2, 3, 4, 5, 6, 7, 8, 9, 10, 11, 12] [12, 0, 1, 2, 3, 4, 5, 6, 7, 8, 9, 10, 11, 13] rfl rfl rfl (by decide) rfl rfl (va_runV (As := [.int x1, .int s103.1]) (rest := [.ref (a0 0)]) ⟨hx, hb, hml, hown, hta⟩ (c_X12_cornerY l dC dI cI H.size a0 v0_2 v0_3 v0_5 v0_12 v0_13 v0_16 v0_17 v0_21 v0_23 v0_24 v0_25 v0_26 v0_29 u_6 v0_22 x1 s103.1 u_7 hu_7) (cwV 2 hta (ga_V mA1031 mA1032 mA1033 mA814 mA1022) rfl rfl rfl (by decide +kernel) ⟨Nat.le_of_ble_eq_true rfl, Nat.le_of_ble_eq_true rfl⟩) ⟨q_fb, va_recv hK hP (ci := 11) (q0 := 0) rfl rfl, q_ps hPc hK hDc⟩ rfl rfl hl.1 rfl (lv_room (Nat.le_of_ble_eq_true rfl)) dX12_digest_126 ⟨Nat.zero_le _, Nat.zero_le _⟩) (fun H locs hP hD hS => ?_)
                obtain ⟨u_8, hu_8, hF⟩ := lt_some hF
                have hPc := hP.sub (ws' := (wd_X12_mix cI a0 v0_2 v0_3 v0_5 v0_12 v0_13 v0_16 v0_17 v0_21 v0_23 v0_24 v0_25 v0_26 v0_29 u_6)) [0] rfl
                have hDc := hD.sub (ws' := (wd_X12_mix cI a0 v0_2 v0_3 v0_5 v0_12 v0_13 v0_16 v0_17 v0_21 v0_23 v0_24 v0_25 v0_26 v0_29 u_6)) [0] rfl rfl
                refine q_callv (wc := (wd_X12_mix cI a0 v0_2 v0_3 v0_5 v0_12 v0_13 v0_16 v0_17 v0_21 v0_23 v0_24 v0_25 v0_26 v0_29 u_6)) (w1 := (wd_X12_mix cI a0 v0_2 v0_3 v0_5 v0_12 v0_13 v0_16 v0_17 v0_21 v0_23 v0_24 v0_25 v0_26 v0_29 u_8)) (ws' := (wd_X12_digest cI a0 v0_2 v0_3 v0_5 v0_12 v0_13 v0_16 v0_17 v0_21 v0_23 v0_24 v0_25 v0_26 v0_29 u_8 v0_0 v0_6 v0_7 v0_8 v0_9 v0_10 v0_11 v0_14 v0_15 v0_18 v0_19 v0_20 v0_22)) hP hD hS hA [0] [1, 2, 3, 4, 5, 6, 7, 8, 9, 10, 11, 12, 13] [13, 0, 1, 2, 3, 4, 5, 6, 7, 8, 9, 10, 11, 12] rfl rfl rfl (by decide) rfl rfl (va_runV (As := [.int u_7]) (rest := []) ⟨hx, hb, hml, hown, hta⟩ (c_X12_mix l dC dI cI H.size a0 v0_2 v0_3 v0_5 v0_12 v0_13 v0_16 v0_17 v0_21 v0_23 v0_24 v0_25 v0_26 v0_29 u_6 u_7 u_8 hu_8.symm) (cwV 1 hta (ga_V mA1102 mA1103 mA1104 mA814 mA1098) rfl rfl rfl (by decide +kernel) ⟨Nat.le_of_ble_eq_true rfl, Nat.le_of_ble_eq_true rfl⟩) ⟨q_fb, va_recv hK hP (ci := 11) (q0 := 0) rfl rfl, q_ps hPc hK hDc⟩ rfl rfl hl.1 rfl (lv_room (Nat.le_of_ble_eq_true rfl)) dX12_digest_129 ⟨Nat.zero_le _, Nat.zero_le _⟩) (fun H locs hP hD hS => ?_)
                obtain ⟨y_9, ey_9, hF⟩ := lt_some hF
                refine lv_iinc (v := y_9) (lv' := [(2, .int y_9), (0, .ref (a0 0)), (1, .int x1)]) hx hb dX12_digest_132 hl (k := 2) rfl (by rw [ey_9]; rfl) (by decide) rfl (fun ls hl => ?_)
                refine lv_goto (tgt := 103) hx hb dX12_digest_135 (by decide) ?_
                obtain rfl := Option.some.inj hF
                exact ih_103 _ hO_103 _ _ _ hP hD hS (lv_sub hl [1, 2, 0] rfl)
          exact kl_103 n _ hL_103 _ _ _ hP hD hS hl
        refine lv_iload_n hx hb dX12_digest_84 rfl (lv_at hl 1 rfl) ?_
        refine lv_aload_n hx hb dX12_digest_85 rfl (lv_at hl 0 rfl) ?_
        refine va_get (D := (dC, dI)) (ci := 11) (v := .int v0_23) (C := RX12) (T := TX12) (N := 31) hx hb hta uw_X12 hown hK hP 0 rfl rfl 23 (by decide) (hta _ mA953) (fun _ h9 => h9) rfl dX12_digest_86 ?_
        refine lv_icmp_ge (tgt := 144) hx hb dX12_digest_89 (by decide) (fun c_10 => ?_) (fun c_10 => ?_)
        · have hF := it_t hF c_10
          obtain rfl := Option.some.inj hF
          obtain rfl := lpq_x hO_84
          have hF := hE_84
          exact j144 v0_3 v0_12 v0_13 v0_16 v0_17 v0_21 v0_23 s84.2 v0_6 v0_7 v0_8 v0_9 v0_10 v0_11 v0_14 v0_15 v0_18 v0_19 v0_20 v0_22 hF _ _ _ hP hD hS (lv_sub hl [0] rfl)
        · have hF := it_f hF c_10
          refine lv_aload_n hx hb dX12_digest_92 rfl (lv_at hl 0 rfl) ?_
          refine lv_aload_n hx hb dX12_digest_93 rfl (lv_at hl 0 rfl) ?_
          refine lv_iload_n hx hb dX12_digest_94 rfl (lv_at hl 1 rfl) ?_
          obtain ⟨u_11, hu_11, hF⟩ := obd_some hF
          have hPc := hP.sub (ws' := (wd_X12_kindOf cI a0 v0_2 v0_3 v0_5 v0_12 v0_13 v0_16 v0_17 v0_21 v0_23 v0_24 v0_25 v0_26 v0_29 s84.2 v0_22)) [0, 13] rfl
          have hDc := hD.sub (ws' := (wd_X12_kindOf cI a0 v0_2 v0_3 v0_5 v0_12 v0_13 v0_16 v0_17 v0_21 v0_23 v0_24 v0_25 v0_26 v0_29 s84.2 v0_22)) [0, 13] rfl rfl
          refine q_calli (wc := (wd_X12_kindOf cI a0 v0_2 v0_3 v0_5 v0_12 v0_13 v0_16 v0_17 v0_21 v0_23 v0_24 v0_25 v0_26 v0_29 s84.2 v0_22)) (w1 := (wd_X12_kindOf cI a0 v0_2 v0_3 v0_5 v0_12 v0_13 v0_16 v0_17 v0_21 v0_23 v0_24 v0_25 v0_26 v0_29 s84.2 v0_22)) (ws' := (wd_X12_digest cI a0 v0_2 v0_3 v0_5 v0_12 v0_13 v0_16 v0_17 v0_21 v0_23 v0_24 v0_25 v0_26 v0_29 s84.2 v0_0 v0_6 v0_7 v0_8 v0_9 v0_10 v0_11 v0_14 v0_15 v0_18 v0_19 v0_20 v0_22)) hP hD hS hA [0, 13] [1, 2, 3, 4, 5, 6, 7, 8, 9, 10, 11, 12] [12, 0, 1, 2, 3, 4, 5, 6, 7, 8, 9, 10, 11, 13] rfl rfl rfl (by decide) rfl rfl (va_runV (As := [.int s84.1]) (rest := [.ref (a0 0)]) ⟨hx, hb, hml, hown, hta⟩ (c_X12_kindOf l dC dI cI H.size a0 v0_2 v0_3 v0_5 v0_12 v0_13 v0_16 v0_17 v0_21 v0_23 v0_24 v0_25 v0_26 v0_29 s84.2 v0_22 s84.1 u_11 hu_11) (cwV 1 hta (ga_V mA1015 mA1016 mA1017 mA814 mA1013) rfl rfl rfl (by decide +kernel) ⟨Nat.le_of_ble_eq_true rfl, Nat.le_of_ble_eq_true rfl⟩) ⟨q_fb, va_recv hK hP (ci := 11) (q0 := 0) rfl rfl, q_ps hPc hK hDc⟩ rfl rfl hl.1 rfl (lv_room (Nat.le_of_ble_eq_true rfl)) dX12_digest_95 ⟨Nat.zero_le _, Nat.zero_le _⟩) (fun H locs hP hD hS => ?_)
          obtain ⟨u_12, hu_12, hF⟩ := lt_some hF
          have hPc := hP.sub (ws' := (wd_X12_mix cI a0 v0_2 v0_3 v0_5 v0_12 v0_13 v0_16 v0_17 v0_21 v0_23 v0_24 v0_25 v0_26 v0_29 s84.2)) [0] rfl
          have hDc := hD.sub (ws' := (wd_X12_mix cI a0 v0_2 v0_3 v0_5 v0_12 v0_13 v0_16 v0_17 v0_21 v0_23 v0_24 v0_25 v0_26 v0_29 s84.2)) [0] rfl rfl
          refine q_callv (wc := (wd_X12_mix cI a0 v0_2 v0_3 v0_5 v0_12 v0_13 v0_16 v0_17 v0_21 v0_23 v0_24 v0_25 v0_26 v0_29 s84.2)) (w1 := (wd_X12_mix cI a0 v0_2 v0_3 v0_5 v0_12 v0_13 v0_16 v0_17 v0_21 v0_23 v0_24 v0_25 v0_26 v0_29 u_12)) (ws' := (wd_X12_digest cI a0 v0_2 v0_3 v0_5 v0_12 v0_13 v0_16 v0_17 v0_21 v0_23 v0_24 v0_25 v0_26 v0_29 u_12 v0_0 v0_6 v0_7 v0_8 v0_9 v0_10 v0_11 v0_14 v0_15 v0_18 v0_19 v0_20 v0_22)) hP hD hS hA [0] [1, 2, 3, 4, 5, 6, 7, 8, 9, 10, 11, 12, 13] [13, 0, 1, 2, 3, 4, 5, 6, 7, 8, 9, 10, 11, 12] rfl rfl rfl (by decide) rfl rfl (va_runV (As := [.int u_11]) (rest := []) ⟨hx, hb, hml, hown, hta⟩ (c_X12_mix l dC dI cI H.size a0 v0_2 v0_3 v0_5 v0_12 v0_13 v0_16 v0_17 v0_21 v0_23 v0_24 v0_25 v0_26 v0_29 s84.2 u_11 u_12 hu_12.symm) (cwV 1 hta (ga_V mA1102 mA1103 mA1104 mA814 mA1098) rfl rfl rfl (by decide +kernel) ⟨Nat.le_of_ble_eq_true rfl, Nat.le_of_ble_eq_true rfl⟩) ⟨q_fb, va_recv hK hP (ci := 11) (q0 := 0) rfl rfl, q_ps hPc hK hDc⟩ rfl rfl hl.1 rfl (lv_room (Nat.le_of_ble_eq_true rfl)) dX12_digest_98 ⟨Nat.zero_le _, Nat.zero_le _⟩) (fun H locs hP hD hS => ?_)
          refine lv_iconst (v := 0) hx hb dX12_digest_101 (by decide) ?_
          refine lv_istore_n (lv' := [(2, .int 0), (0, .ref (a0 0)), (1, .int s84.1)]) hx hb dX12_digest_102 rfl hl (by decide) rfl (fun ls hl => ?_)
          exact j103 u_12 s84.1 0 hF _ _ _ hP hD hS (lv_sub hl [1, 2, 0] rfl)
    exact kl_84 n _ hL_84 _ _ _ hP hD hS hl
  have j70 : ∀ (v0_3 : Int32) (v0_12 : Int32) (v0_13 : Int32) (v0_16 : Int32) (v0_17 : Int32) (v0_21 : Int32) (v0_23 : Int32) (v0_30 : Int64) (v0_6 : Nat → Int32) (v0_7 : Nat → Int32) (v0_8 : Nat → Int32) (v0_9 : Nat → Int32) (v0_10 : Nat → Int32) (v0_11 : Nat → Int32) (v0_14 : Nat → Int32) (v0_15 : Nat → Int32) (v0_18 : Nat → Int32) (v0_19 : Nat → Int32) (v0_20 : Nat → Int32) (v0_22 : Nat → Int32), F_X12_digest_j70 n v0_2 v0_3 v0_12 v0_13 v0_16 v0_17 v0_21 v0_30 v0_0 v0_6 v0_7 v0_8 v0_9 v0_10 v0_11 v0_14 v0_15 v0_18 v0_19 v0_20 v0_22 = some u → ∀ (H : Heap) (locs : List Loc) (ls : Array Slot), va_P (dC, dI) vwCl (wd_X12_digest cI a0 v0_2 v0_3 v0_5 v0_12 v0_13 v0_16 v0_17 v0_21 v0_23 v0_24 v0_25 v0_26 v0_29 v0_30 v0_0 v0_6 v0_7 v0_8 v0_9 v0_10 v0_11 v0_14 v0_15 v0_18 v0_19 v0_20 v0_22) H → va_D A (wd_X12_digest cI a0 v0_2 v0_3 v0_5 v0_12 v0_13 v0_16 v0_17 v0_21 v0_23 v0_24 v0_25 v0_26 v0_29 v0_30 v0_0 v0_6 v0_7 v0_8 v0_9 v0_10 v0_11 v0_14 v0_15 v0_18 v0_19 v0_20 v0_22) → va_S A s.heap H locs → lv_has ls 3 [(0, .ref (a0 0))] → W p l e (headSpec wz_X12_digest rm_X12_digest).room s m [.ref (a0 0)].toArray below meth c H locs 0 0 (MQ below (Q_X12_digest dC dI cI a0 v0_2 v0_5 v0_24 v0_25 v0_26 v0_29 v0_0 u A) [.ref (a0 0)].toArray s 0 0 A) (F0 m 70 ls []) := by
    intro v0_3 v0_12 v0_13 v0_16 v0_17 v0_21 v0_23 v0_30 v0_6 v0_7 v0_8 v0_9 v0_10 v0_11 v0_14 v0_15 v0_18 v0_19 v0_20 v0_22 hF H locs ls hP hD hS hl
    unfold F_X12_digest_j70 at hF
    refine lv_aload_n hx hb dX12_digest_70 rfl (lv_at hl 0 rfl) ?_
    obtain ⟨u_13, hu_13, hF⟩ := obd_some hF
    have hPc := hP.sub (ws' := (wd_X12_laysPieces cI a0 v0_2 v0_3 v0_5 v0_12 v0_13 v0_16 v0_17 v0_21 v0_23 v0_24 v0_25 v0_26 v0_29 v0_30 v0_0 v0_6 v0_7 v0_8 v0_9 v0_10 v0_11 v0_14 v0_15 v0_18 v0_19 v0_20 v0_22)) [0, 1, 2, 3, 4, 5, 6, 7, 8, 9, 10, 11, 12, 13] rfl
    have hDc := hD.sub (ws' := (wd_X12_laysPieces cI a0 v0_2 v0_3 v0_5 v0_12 v0_13 v0_16 v0_17 v0_21 v0_23 v0_24 v0_25 v0_26 v0_29 v0_30 v0_0 v0_6 v0_7 v0_8 v0_9 v0_10 v0_11 v0_14 v0_15 v0_18 v0_19 v0_20 v0_22)) [0, 1, 2, 3, 4, 5, 6, 7, 8, 9, 10, 11, 12, 13] rfl rfl
    refine q_callv (wc := (wd_X12_laysPieces cI a0 v0_2 v0_3 v0_5 v0_12 v0_13 v0_16 v0_17 v0_21 v0_23 v0_24 v0_25 v0_26 v0_29 v0_30 v0_0 v0_6 v0_7 v0_8 v0_9 v0_10 v0_11 v0_14 v0_15 v0_18 v0_19 v0_20 v0_22)) (w1 := (wd_X12_laysPieces cI a0 v0_2 v0_3 v0_5 u_13.1 u_13.2.1 u_13.2.2.1 u_13.2.2.2.1 u_13.2.2.2.2.1 u_13.2.2.2.2.2.1 v0_24 v0_25 v0_26 v0_29 v0_30 v0_0 u_13.2.2.2.2.2.2.1 u_13.2.2.2.2.2.2.2.1 u_13.2.2.2.2.2.2.2.2.1 u_13.2.2.2.2.2.2.2.2.2.1 u_13.2.2.2.2.2.2.2.2.2.2.1 u_13.2.2.2.2.2.2.2.2.2.2.2.1 u_13.2.2.2.2.2.2.2.2.2.2.2.2.1 u_13.2.2.2.2.2.2.2.2.2.2.2.2.2.1 u_13.2.2.2.2.2.2.2.2.2.2.2.2.2.2.1 u_13.2.2.2.2.2.2.2.2.2.2.2.2.2.2.2.1 u_13.2.2.2.2.2.2.2.2.2.2.2.2.2.2.2.2.1 u_13.2.2.2.2.2.2.2.2.2.2.2.2.2.2.2.2.2)) (ws' := (wd_X12_digest cI a0 v0_2 v0_3 v0_5 u_13.1 u_13.2.1 u_13.2.2.1 u_13.2.2.2.1 u_13.2.2.2.2.1 u_13.2.2.2.2.2.1 v0_24 v0_25 v0_26 v0_29 v0_30 v0_0 u_13.2.2.2.2.2.2.1 u_13.2.2.2.2.2.2.2.1 u_13.2.2.2.2.2.2.2.2.1 u_13.2.2.2.2.2.2.2.2.2.1 u_13.2.2.2.2.2.2.2.2.2.2.1 u_13.2.2.2.2.2.2.2.2.2.2.2.1 u_13.2.2.2.2.2.2.2.2.2.2.2.2.1 u_13.2.2.2.2.2.2.2.2.2.2.2.2.2.1 u_13.2.2.2.2.2.2.2.2.2.2.2.2.2.2.1 u_13.2.2.2.2.2.2.2.2.2.2.2.2.2.2.2.1 u_13.2.2.2.2.2.2.2.2.2.2.2.2.2.2.2.2.1 u_13.2.2.2.2.2.2.2.2.2.2.2.2.2.2.2.2.2)) hP hD hS hA [0, 1, 2, 3, 4, 5, 6, 7, 8, 9, 10, 11, 12, 13] [] [0, 1, 2, 3, 4, 5, 6, 7, 8, 9, 10, 11, 12, 13] rfl rfl rfl (by decide) rfl rfl (va_runV (As := []) (rest := []) ⟨hx, hb, hml, hown, hta⟩ (c_X12_laysPieces l dC dI cI H.size a0 v0_2 v0_3 v0_5 v0_12 v0_13 v0_16 v0_17 v0_21 v0_23 v0_24 v0_25 v0_26 v0_29 v0_30 v0_0 v0_6 v0_7 v0_8 v0_9 v0_10 v0_11 v0_14 v0_15 v0_18 v0_19 v0_20 v0_22 n u_13 hu_13) (cwV 0 hta (ga_V mA1024 mA1025 mA1026 mA814 mA1006) rfl rfl rfl (by decide +kernel) ⟨Nat.le_of_ble_eq_true rfl, Nat.le_of_ble_eq_true rfl⟩) ⟨q_fb, va_recv hK hP (ci := 11) (q0 := 0) rfl rfl, q_ps hPc hK hDc⟩ rfl rfl hl.1 rfl (lv_room (Nat.le_of_ble_eq_true rfl)) dX12_digest_71 ⟨Nat.zero_le _, Nat.zero_le _⟩) (fun H locs hP hD hS => ?_)
    refine lv_aload_n hx hb dX12_digest_74 rfl (lv_at hl 0 rfl) ?_
    refine lv_aload_n hx hb dX12_digest_75 rfl (lv_at hl 0 rfl) ?_
    refine va_get (D := (dC, dI)) (ci := 11) (v := .int u_13.2.2.2.2.2.1) (C := RX12) (T := TX12) (N := 31) hx hb hta uw_X12 hown hK hP 0 rfl rfl 23 (by decide) (hta _ mA953) (fun _ h9 => h9) rfl dX12_digest_76 ?_
    obtain ⟨u_14, hu_14, hF⟩ := lt_some hF
    have hPc := hP.sub (ws' := (wd_X12_mix cI a0 v0_2 v0_3 v0_5 u_13.1 u_13.2.1 u_13.2.2.1 u_13.2.2.2.1 u_13.2.2.2.2.1 u_13.2.2.2.2.2.1 v0_24 v0_25 v0_26 v0_29 v0_30)) [0] rfl
    have hDc := hD.sub (ws' := (wd_X12_mix cI a0 v0_2 v0_3 v0_5 u_13.1 u_13.2.1 u_13.2.2.1 u_13.2.2.2.1 u_13.2.2.2.2.1 u_13.2.2.2.2.2.1 v0_24 v0_25 v0_26 v0_29 v0_30)) [0] rfl rfl
    refine q_callv (wc := (wd_X12_mix cI a0 v0_2 v0_3 v0_5 u_13.1 u_13.2.1 u_13.2.2.1 u_13.2.2.2.1 u_13.2.2.2.2.1 u_13.2.2.2.2.2.1 v0_24 v0_25 v0_26 v0_29 v0_30)) (w1 := (wd_X12_mix cI a0 v0_2 v0_3 v0_5 u_13.1 u_13.2.1 u_13.2.2.1 u_13.2.2.2.1 u_13.2.2.2.2.1 u_13.2.2.2.2.2.1 v0_24 v0_25 v0_26 v0_29 u_14)) (ws' := (wd_X12_digest cI a0 v0_2 v0_3 v0_5 u_13.1 u_13.2.1 u_13.2.2.1 u_13.2.2.2.1 u_13.2.2.2.2.1 u_13.2.2.2.2.2.1 v0_24 v0_25 v0_26 v0_29 u_14 v0_0 u_13.2.2.2.2.2.2.1 u_13.2.2.2.2.2.2.2.1 u_13.2.2.2.2.2.2.2.2.1 u_13.2.2.2.2.2.2.2.2.2.1 u_13.2.2.2.2.2.2.2.2.2.2.1 u_13.2.2.2.2.2.2.2.2.2.2.2.1 u_13.2.2.2.2.2.2.2.2.2.2.2.2.1 u_13.2.2.2.2.2.2.2.2.2.2.2.2.2.1 u_13.2.2.2.2.2.2.2.2.2.2.2.2.2.2.1 u_13.2.2.2.2.2.2.2.2.2.2.2.2.2.2.2.1 u_13.2.2.2.2.2.2.2.2.2.2.2.2.2.2.2.2.1 u_13.2.2.2.2.2.2.2.2.2.2.2.2.2.2.2.2.2)) hP hD hS hA [0] [1, 2, 3, 4, 5, 6, 7, 8, 9, 10, 11, 12, 13] [13, 0, 1, 2, 3, 4, 5, 6, 7, 8, 9, 10, 11, 12] rfl rfl rfl (by decide) rfl rfl (va_runV (As := [.int u_13.2.2.2.2.2.1]) (rest := []) ⟨hx, hb, hml, hown, hta⟩ (c_X12_mix l dC dI cI H.size a0 v0_2 v0_3 v0_5 u_13.1 u_13.2.1 u_13.2.2.1 u_13.2.2.2.1 u_13.2.2.2.2.1 u_13.2.2.2.2.2.1 v0_24 v0_25 v0_26 v0_29 v0_30 u_13.2.2.2.2.2.1 u_14 hu_14.symm) (cwV 1 hta (ga_V mA1102 mA1103 mA1104 mA814 mA1098) rfl rfl rfl (by decide +kernel) ⟨Nat.le_of_ble_eq_true rfl, Nat.le_of_ble_eq_true rfl⟩) ⟨q_fb, va_recv hK hP (ci := 11) (q0 := 0) rfl rfl, q_ps hPc hK hDc⟩ rfl rfl hl.1 rfl (lv_room (Nat.le_of_ble_eq_true rfl)) dX12_digest_79 ⟨Nat.zero_le _, Nat.zero_le _⟩) (fun H locs hP hD hS => ?_)
    refine lv_iconst (v := 0) hx hb dX12_digest_82 (by decide) ?_
    refine lv_istore_n (lv' := [(1, .int 0), (0, .ref (a0 0))]) hx hb dX12_digest_83 rfl hl (by decide) rfl (fun ls hl => ?_)
    exact j84 v0_3 u_13.1 u_13.2.1 u_13.2.2.1 u_13.2.2.2.1 u_13.2.2.2.2.1 u_13.2.2.2.2.2.1 u_14 u_13.2.2.2.2.2.2.1 u_13.2.2.2.2.2.2.2.1 u_13.2.2.2.2.2.2.2.2.1 u_13.2.2.2.2.2.2.2.2.2.1 u_13.2.2.2.2.2.2.2.2.2.2.1 u_13.2.2.2.2.2.2.2.2.2.2.2.1 u_13.2.2.2.2.2.2.2.2.2.2.2.2.1 u_13.2.2.2.2.2.2.2.2.2.2.2.2.2.1 u_13.2.2.2.2.2.2.2.2.2.2.2.2.2.2.1 u_13.2.2.2.2.2.2.2.2.2.2.2.2.2.2.2.1 u_13.2.2.2.2.2.2.2.2.2.2.2.2.2.2.2.2.1 u_13.2.2.2.2.2.2.2.2.2.2.2.2.2.2.2.2.2 0 hF _ _ _ hP hD hS (lv_sub hl [1, 0] rfl)
  have j48 : ∀ (v0_3 : Int32) (v0_12 : Int32) (v0_13 : Int32) (v0_16 : Int32) (v0_17 : Int32) (v0_21 : Int32) (v0_23 : Int32) (v0_30 : Int64) (v0_6 : Nat → Int32) (v0_7 : Nat → Int32) (v0_8 : Nat → Int32) (v0_9 : Nat → Int32) (v0_10 : Nat → Int32) (v0_11 : Nat → Int32) (v0_14 : Nat → Int32) (v0_15 : Nat → Int32) (v0_18 : Nat → Int32) (v0_19 : Nat → Int32) (v0_20 : Nat → Int32) (v0_22 : Nat → Int32) (x1 : Int32), F_X12_digest_j48 n v0_2 v0_3 v0_12 v0_13 v0_16 v0_17 v0_21 v0_30 v0_0 v0_6 v0_7 v0_8 v0_9 v0_10 v0_11 v0_14 v0_15 v0_18 v0_19 v0_20 v0_22 x1 = some u → ∀ (H : Heap) (locs : List Loc) (ls : Array Slot), va_P (dC, dI) vwCl (wd_X12_digest cI a0 v0_2 v0_3 v0_5 v0_12 v0_13 v0_16 v0_17 v0_21 v0_23 v0_24 v0_25 v0_26 v0_29 v0_30 v0_0 v0_6 v0_7 v0_8 v0_9 v0_10 v0_11 v0_14 v0_15 v0_18 v0_19 v0_20 v0_22) H → va_D A (wd_X12_digest cI a0 v0_2 v0_3 v0_5 v0_12 v0_13 v0_16 v0_17 v0_21 v0_23 v0_24 v0_25 v0_26 v0_29 v0_30 v0_0 v0_6 v0_7 v0_8 v0_9 v0_10 v0_11 v0_14 v0_15 v0_18 v0_19 v0_20 v0_22) → va_S A s.heap H locs → lv_has ls 3 [(0, .ref (a0 0)), (1, .int x1)] → W p l e (headSpec wz_X12_digest rm_X12_digest).room s m [.ref (a0 0)].toArray below meth c H locs 0 0 (MQ below (Q_X12_digest dC dI cI a0 v0_2 v0_5 v0_24 v0_25 v0_26 v0_29 v0_0 u A) [.ref (a0 0)].toArray s 0 0 A) (F0 m 48 ls []) := by
    intro v0_3 v0_12 v0_13 v0_16 v0_17 v0_21 v0_23 v0_30 v0_6 v0_7 v0_8 v0_9 v0_10 v0_11 v0_14 v0_15 v0_18 v0_19 v0_20 v0_22 x1 hF H locs ls hP hD hS hl
    unfold F_X12_digest_j48 at hF
    obtain ⟨x_48, hL_48, hE_48⟩ := obd_some hF
    have kl_48 : ∀ (k : Nat) (s48 : Int32 × Int32 × Int32 × Int32 × Int32 × Int32 × Int64 × (Nat → Int32) × (Nat → Int32) × (Nat → Int32) × (Nat → Int32) × (Nat → Int32) × (Nat → Int32) × (Nat → Int32) × (Nat → Int32) × (Nat → Int32) × (Nat → Int32) × (Nat → Int32)), lpq (F_X12_digest_b48 n v0_0) k s48 = some x_48 → ∀ (H : Heap) (locs : List Loc) (ls : Array Slot), va_P (dC, dI) vwCl (wd_X12_digest cI a0 v0_2 v0_3 v0_5 s48.2.1 s48.2.2.1 s48.2.2.2.1 s48.2.2.2.2.1 s48.2.2.2.2.2.1 v0_23 v0_24 v0_25 v0_26 v0_29 s48.2.2.2.2.2.2.1 v0_0 s48.2.2.2.2.2.2.2.1 s48.2.2.2.2.2.2.2.2.1 s48.2.2.2.2.2.2.2.2.2.1 s48.2.2.2.2.2.2.2.2.2.2.1 s48.2.2.2.2.2.2.2.2.2.2.2.1 s48.2.2.2.2.2.2.2.2.2.2.2.2.1 s48.2.2.2.2.2.2.2.2.2.2.2.2.2.1 s48.2.2.2.2.2.2.2.2.2.2.2.2.2.2.1 s48.2.2.2.2.2.2.2.2.2.2.2.2.2.2.2.1 s48.2.2.2.2.2.2.2.2.2.2.2.2.2.2.2.2.1 s48.2.2.2.2.2.2.2.2.2.2.2.2.2.2.2.2.2 v0_22) H → va_D A (wd_X12_digest cI a0 v0_2 v0_3 v0_5 s48.2.1 s48.2.2.1 s48.2.2.2.1 s48.2.2.2.2.1 s48.2.2.2.2.2.1 v0_23 v0_24 v0_25 v0_26 v0_29 s48.2.2.2.2.2.2.1 v0_0 s48.2.2.2.2.2.2.2.1 s48.2.2.2.2.2.2.2.2.1 s48.2.2.2.2.2.2.2.2.2.1 s48.2.2.2.2.2.2.2.2.2.2.1 s48.2.2.2.2.2.2.2.2.2.2.2.1 s48.2.2.2.2.2.2.2.2.2.2.2.2.1 s48.2.2.2.2.2.2.2.2.2.2.2.2.2.1 s48.2.2.2.2.2.2.2.2.2.2.2.2.2.2.1 s48.2.2.2.2.2.2.2.2.2.2.2.2.2.2.2.1 s48.2.2.2.2.2.2.2.2.2.2.2.2.2.2.2.2.1 s48.2.2.2.2.2.2.2.2.2.2.2.2.2.2.2.2.2 v0_22) → va_S A s.heap H locs → lv_has ls 3 [(0, .ref (a0 0)), (1, .int s48.1)] → W p l e (headSpec wz_X12_digest rm_X12_digest).room s m [.ref (a0 0)].toArray below meth c H locs 0 0 (MQ below (Q_X12_digest dC dI cI a0 v0_2 v0_5 v0_24 v0_25 v0_26 v0_29 v0_0 u A) [.ref (a0 0)].toArray s 0 0 A) (F0 m 48 ls []) := by
      intro k
      induction k with
      | zero => intro s48 h; exact absurd h lpq_zero
      | succ k ih_48 =>
        intro s48 h H locs ls hP hD hS hl
        obtain ⟨o_48, hF, hO_48⟩ := lpq_succ h
        unfold F_X12_digest_b48 at hF
        refine lv_iload_n hx hb dX12_digest_48 rfl (lv_at hl 1 rfl) ?_
        refine lv_aload_n hx hb dX12_digest_49 rfl (lv_at hl 0 rfl) ?_
        refine va_get (D := (dC, dI)) (ci := 11) (v := .ref (a0 1)) (C := RX12) (T := TX12) (N := 31) hx hb hta uw_X12 hown hK hP 0 rfl rfl 0 (by decide) (hta _ mA790) (fun _ h9 => h9) rfl dX12_digest_50 ?_
        refine lv_bipush (v := 13) hx hb dX12_digest_53 (by decide) ?_
        obtain ⟨g_15, hF⟩ := gd_some hF
        refine va_iald hx hb hK hP 1 0 rfl rfl (vpi_in g_15) dX12_digest_55 ?_
        refine lv_icmp_ge (tgt := 70) hx hb dX12_digest_56 (by decide) (fun c_16 => ?_) (fun c_16 => ?_)
        · have hF := it_t hF c_16
          obtain rfl := Option.some.inj hF
          obtain rfl := lpq_x hO_48
          have hF := hE_48
          exact j70 v0_3 s48.2.1 s48.2.2.1 s48.2.2.2.1 s48.2.2.2.2.1 s48.2.2.2.2.2.1 v0_23 s48.2.2.2.2.2.2.1 s48.2.2.2.2.2.2.2.1 s48.2.2.2.2.2.2.2.2.1 s48.2.2.2.2.2.2.2.2.2.1 s48.2.2.2.2.2.2.2.2.2.2.1 s48.2.2.2.2.2.2.2.2.2.2.2.1 s48.2.2.2.2.2.2.2.2.2.2.2.2.1 s48.2.2.2.2.2.2.2.2.2.2.2.2.2.1 s48.2.2.2.2.2.2.2.2.2.2.2.2.2.2.1 s48.2.2.2.2.2.2.2.2.2.2.2.2.2.2.2.1 s48.2.2.2.2.2.2.2.2.2.2.2.2.2.2.2.2.1 s48.2.2.2.2.2.2.2.2.2.2.2.2.2.2.2.2.2 v0_22 hF _ _ _ hP hD hS (lv_sub hl [0] rfl)
        · have hF := it_f hF c_16
          refine lv_aload_n hx hb dX12_digest_59 rfl (lv_at hl 0 rfl) ?_
          refine lv_iload_n hx hb dX12_digest_60 rfl (lv_at hl 1 rfl) ?_
          obtain ⟨u_17, hu_17, hF⟩ := obd_some hF
          have hPc := hP.sub (ws' := (wd_X12_mixSubpath cI a0 v0_2 v0_3 v0_5 s48.2.1 s48.2.2.1 s48.2.2.2.1 s48.2.2.2.2.1 s48.2.2.2.2.2.1 v0_23 v0_24 v0_25 v0_26 v0_29 s48.2.2.2.2.2.2.1 v0_0 s48.2.2.2.2.2.2.2.1 s48.2.2.2.2.2.2.2.2.1 s48.2.2.2.2.2.2.2.2.2.1 s48.2.2.2.2.2.2.2.2.2.2.1 s48.2.2.2.2.2.2.2.2.2.2.2.1 s48.2.2.2.2.2.2.2.2.2.2.2.2.1 s48.2.2.2.2.2.2.2.2.2.2.2.2.2.1 s48.2.2.2.2.2.2.2.2.2.2.2.2.2.2.1 s48.2.2.2.2.2.2.2.2.2.2.2.2.2.2.2.1 s48.2.2.2.2.2.2.2.2.2.2.2.2.2.2.2.2.1 s48.2.2.2.2.2.2.2.2.2.2.2.2.2.2.2.2.2)) [0, 1, 2, 3, 4, 5, 6, 7, 8, 9, 10, 11, 12] rfl
          have hDc := hD.sub (ws' := (wd_X12_mixSubpath cI a0 v0_2 v0_3 v0_5 s48.2.1 s48.2.2.1 s48.2.2.2.1 s48.2.2.2.2.1 s48.2.2.2.2.2.1 v0_23 v0_24 v0_25 v0_26 v0_29 s48.2.2.2.2.2.2.1 v0_0 s48.2.2.2.2.2.2.2.1 s48.2.2.2.2.2.2.2.2.1 s48.2.2.2.2.2.2.2.2.2.1 s48.2.2.2.2.2.2.2.2.2.2.1 s48.2.2.2.2.2.2.2.2.2.2.2.1 s48.2.2.2.2.2.2.2.2.2.2.2.2.1 s48.2.2.2.2.2.2.2.2.2.2.2.2.2.1 s48.2.2.2.2.2.2.2.2.2.2.2.2.2.2.1 s48.2.2.2.2.2.2.2.2.2.2.2.2.2.2.2.1 s48.2.2.2.2.2.2.2.2.2.2.2.2.2.2.2.2.1 s48.2.2.2.2.2.2.2.2.2.2.2.2.2.2.2.2.2)) [0, 1, 2, 3, 4, 5, 6, 7, 8, 9, 10, 11, 12] rfl rfl
          refine q_callv (wc := (wd_X12_mixSubpath cI a0 v0_2 v0_3 v0_5 s48.2.1 s48.2.2.1 s48.2.2.2.1 s48.2.2.2.2.1 s48.2.2.2.2.2.1 v0_23 v0_24 v0_25 v0_26 v0_29 s48.2.2.2.2.2.2.1 v0_0 s48.2.2.2.2.2.2.2.1 s48.2.2.2.2.2.2.2.2.1 s48.2.2.2.2.2.2.2.2.2.1 s48.2.2.2.2.2.2.2.2.2.2.1 s48.2.2.2.2.2.2.2.2.2.2.2.1 s48.2.2.2.2.2.2.2.2.2.2.2.2.1 s48.2.2.2.2.2.2.2.2.2.2.2.2.2.1 s48.2.2.2.2.2.2.2.2.2.2.2.2.2.2.1 s48.2.2.2.2.2.2.2.2.2.2.2.2.2.2.2.1 s48.2.2.2.2.2.2.2.2.2.2.2.2.2.2.2.2.1 s48.2.2.2.2.2.2.2.2.2.2.2.2.2.2.2.2.2)) (w1 := (wd_X12_mixSubpath cI a0 v0_2 v0_3 v0_5 u_17.1 u_17.2.1 u_17.2.2.1 u_17.2.2.2.1 u_17.2.2.2.2.1 v0_23 v0_24 v0_25 v0_26 v0_29 u_17.2.2.2.2.2.1 v0_0 u_17.2.2.2.2.2.2.1 u_17.2.2.2.2.2.2.2.1 u_17.2.2.2.2.2.2.2.2.1 u_17.2.2.2.2.2.2.2.2.2.1 u_17.2.2.2.2.2.2.2.2.2.2.1 u_17.2.2.2.2.2.2.2.2.2.2.2.1 u_17.2.2.2.2.2.2.2.2.2.2.2.2.1 u_17.2.2.2.2.2.2.2.2.2.2.2.2.2.1 u_17.2.2.2.2.2.2.2.2.2.2.2.2.2.2.1 u_17.2.2.2.2.2.2.2.2.2.2.2.2.2.2.2.1 u_17.2.2.2.2.2.2.2.2.2.2.2.2.2.2.2.2)) (ws' := (wd_X12_digest cI a0 v0_2 v0_3 v0_5 u_17.1 u_17.2.1 u_17.2.2.1 u_17.2.2.2.1 u_17.2.2.2.2.1 v0_23 v0_24 v0_25 v0_26 v0_29 u_17.2.2.2.2.2.1 v0_0 u_17.2.2.2.2.2.2.1 u_17.2.2.2.2.2.2.2.1 u_17.2.2.2.2.2.2.2.2.1 u_17.2.2.2.2.2.2.2.2.2.1 u_17.2.2.2.2.2.2.2.2.2.2.1 u_17.2.2.2.2.2.2.2.2.2.2.2.1 u_17.2.2.2.2.2.2.2.2.2.2.2.2.1 u_17.2.2.2.2.2.2.2.2.2.2.2.2.2.1 u_17.2.2.2.2.2.2.2.2.2.2.2.2.2.2.1 u_17.2.2.2.2.2.2.2.2.2.2.2.2.2.2.2.1 u_17.2.2.2.2.2.2.2.2.2.2.2.2.2.2.2.2 v0_22)) hP hD hS hA [0, 1, 2, 3, 4, 5, 6, 7, 8, 9, 10, 11, 12] [13] [1, 2, 3, 4, 5, 6, 7, 8, 9, 10, 11, 12, 13, 0] rfl rfl rfl (by decide) rfl rfl (va_runV (As := [.int s48.1]) (rest := []) ⟨hx, hb, hml, hown, hta⟩ (c_X12_mixSubpath l dC dI cI H.size a0 v0_2 v0_3 v0_5 s48.2.1 s48.2.2.1 s48.2.2.2.1 s48.2.2.2.2.1 s48.2.2.2.2.2.1 v0_23 v0_24 v0_25 v0_26 v0_29 s48.2.2.2.2.2.2.1 v0_0 s48.2.2.2.2.2.2.2.1 s48.2.2.2.2.2.2.2.2.1 s48.2.2.2.2.2.2.2.2.2.1 s48.2.2.2.2.2.2.2.2.2.2.1 s48.2.2.2.2.2.2.2.2.2.2.2.1 s48.2.2.2.2.2.2.2.2.2.2.2.2.1 s48.2.2.2.2.2.2.2.2.2.2.2.2.2.1 s48.2.2.2.2.2.2.2.2.2.2.2.2.2.2.1 s48.2.2.2.2.2.2.2.2.2.2.2.2.2.2.2.1 s48.2.2.2.2.2.2.2.2.2.2.2.2.2.2.2.2.1 s48.2.2.2.2.2.2.2.2.2.2.2.2.2.2.2.2.2 s48.1 n u_17 hu_17) (cwV 1 hta (ga_V mA1111 mA1112 mA1113 mA814 mA1105) rfl rfl rfl (by decide +kernel) ⟨Nat.le_of_ble_eq_true rfl, Nat.le_of_ble_eq_true rfl⟩) ⟨q_fb, va_recv hK hP (ci := 11) (q0 := 0) rfl rfl, q_ps hPc hK hDc⟩ rfl rfl hl.1 rfl (lv_room (Nat.le_of_ble_eq_true rfl)) dX12_digest_61 ⟨Nat.zero_le _, Nat.zero_le _⟩) (fun H locs hP hD hS => ?_)
          obtain ⟨y_18, ey_18, hF⟩ := lt_some hF
          refine lv_iinc (v := y_18) (lv' := [(1, .int y_18), (0, .ref (a0 0))]) hx hb dX12_digest_64 hl (k := 1) rfl (by rw [ey_18]; rfl) (by decide) rfl (fun ls hl => ?_)
          refine lv_goto (tgt := 48) hx hb dX12_digest_67 (by decide) ?_
          obtain rfl := Option.some.inj hF
          exact ih_48 _ hO_48 _ _ _ hP hD hS (lv_sub hl [1, 0] rfl)
    exact kl_48 n _ hL_48 _ _ _ hP hD hS hl
  refine lv_aload_n hx hb dX12_digest_0 rfl (lv_at hl 0 rfl) ?_
  refine lv_iconst (v := 0) hx hb dX12_digest_1 (by decide) ?_
  refine va_put (D := (dC, dI)) (ci := 11) (v := .int 0) (ty := .int) (C := RX12) (T := TX12) (N := 31) hx hb hta uw_X12 tyX12 tyX12_ok nmX12 hown hK hP hD hS 0 rfl rfl 3 (by decide) (hta _ mA808) (fun _ h9 => h9) rfl (by decide +kernel) rfl rfl (Nat.le_of_ble_eq_true rfl) dX12_digest_2 (fun H locs hP hD hS => ?_)
  have hP : va_P (dC, dI) vwCl (wd_X12_digest cI a0 v0_2 0 v0_5 v0_12 v0_13 v0_16 v0_17 v0_21 v0_23 v0_24 v0_25 v0_26 v0_29 v0_30 v0_0 v0_6 v0_7 v0_8 v0_9 v0_10 v0_11 v0_14 v0_15 v0_18 v0_19 v0_20 v0_22) H := hP
  have hD : va_D A (wd_X12_digest cI a0 v0_2 0 v0_5 v0_12 v0_13 v0_16 v0_17 v0_21 v0_23 v0_24 v0_25 v0_26 v0_29 v0_30 v0_0 v0_6 v0_7 v0_8 v0_9 v0_10 v0_11 v0_14 v0_15 v0_18 v0_19 v0_20 v0_22) := hD
  refine lv_aload_n hx hb dX12_digest_5 rfl (lv_at hl 0 rfl) ?_
  refine lv_ldc2 (v := 2903) hx hb hown (hta _ mA1110) dX12_digest_6 ?_
  refine va_put (D := (dC, dI)) (ci := 11) (v := .long 2903) (ty := .long) (C := RX12) (T := TX12) (N := 31) hx hb hta uw_X12 tyX12 tyX12_ok nmX12 hown hK hP hD hS 0 rfl rfl 30 (by decide) (hta _ mA1100) (fun _ h9 => h9) rfl (by decide +kernel) rfl rfl (Nat.le_of_ble_eq_true rfl) dX12_digest_9 (fun H locs hP hD hS => ?_)
  have hP : va_P (dC, dI) vwCl (wd_X12_digest cI a0 v0_2 0 v0_5 v0_12 v0_13 v0_16 v0_17 v0_21 v0_23 v0_24 v0_25 v0_26 v0_29 2903 v0_0 v0_6 v0_7 v0_8 v0_9 v0_10 v0_11 v0_14 v0_15 v0_18 v0_19 v0_20 v0_22) H := hP
  have hD : va_D A (wd_X12_digest cI a0 v0_2 0 v0_5 v0_12 v0_13 v0_16 v0_17 v0_21 v0_23 v0_24 v0_25 v0_26 v0_29 2903 v0_0 v0_6 v0_7 v0_8 v0_9 v0_10 v0_11 v0_14 v0_15 v0_18 v0_19 v0_20 v0_22) := hD
  refine lv_aload_n hx hb dX12_digest_12 rfl (lv_at hl 0 rfl) ?_
  refine lv_aload_n hx hb dX12_digest_13 rfl (lv_at hl 0 rfl) ?_
  refine va_get (D := (dC, dI)) (ci := 11) (v := .int v0_5) (C := RX12) (T := TX12) (N := 31) hx hb hta uw_X12 hown hK hP 0 rfl rfl 5 (by decide) (hta _ mA1062) (fun _ h9 => h9) rfl dX12_digest_14 ?_
  obtain ⟨u_19, hu_19, hF⟩ := lt_some hF
  have hPc := hP.sub (ws' := (wd_X12_mix cI a0 v0_2 0 v0_5 v0_12 v0_13 v0_16 v0_17 v0_21 v0_23 v0_24 v0_25 v0_26 v0_29 2903)) [0] rfl
  have hDc := hD.sub (ws' := (wd_X12_mix cI a0 v0_2 0 v0_5 v0_12 v0_13 v0_16 v0_17 v0_21 v0_23 v0_24 v0_25 v0_26 v0_29 2903)) [0] rfl rfl
  refine q_callv (wc := (wd_X12_mix cI a0 v0_2 0 v0_5 v0_12 v0_13 v0_16 v0_17 v0_21 v0_23 v0_24 v0_25 v0_26 v0_29 2903)) (w1 := (wd_X12_mix cI a0 v0_2 0 v0_5 v0_12 v0_13 v0_16 v0_17 v0_21 v0_23 v0_24 v0_25 v0_26 v0_29 u_19)) (ws' := (wd_X12_digest cI a0 v0_2 0 v0_5 v0_12 v0_13 v0_16 v0_17 v0_21 v0_23 v0_24 v0_25 v0_26 v0_29 u_19 v0_0 v0_6 v0_7 v0_8 v0_9 v0_10 v0_11 v0_14 v0_15 v0_18 v0_19 v0_20 v0_22)) hP hD hS hA [0] [1, 2, 3, 4, 5, 6, 7, 8, 9, 10, 11, 12, 13] [13, 0, 1, 2, 3, 4, 5, 6, 7, 8, 9, 10, 11, 12] rfl rfl rfl (by decide) rfl rfl (va_runV (As := [.int v0_5]) (rest := []) ⟨hx, hb, hml, hown, hta⟩ (c_X12_mix l dC dI cI H.size a0 v0_2 0 v0_5 v0_12 v0_13 v0_16 v0_17 v0_21 v0_23 v0_24 v0_25 v0_26 v0_29 2903 v0_5 u_19 hu_19.symm) (cwV 1 hta (ga_V mA1102 mA1103 mA1104 mA814 mA1098) rfl rfl rfl (by decide +kernel) ⟨Nat.le_of_ble_eq_true rfl, Nat.le_of_ble_eq_true rfl⟩) ⟨q_fb, va_recv hK hP (ci := 11) (q0 := 0) rfl rfl, q_ps hPc hK hDc⟩ rfl rfl hl.1 rfl (lv_room (Nat.le_of_ble_eq_true rfl)) dX12_digest_17 ⟨Nat.zero_le _, Nat.zero_le _⟩) (fun H locs hP hD hS => ?_)
  refine lv_aload_n hx hb dX12_digest_20 rfl (lv_at hl 0 rfl) ?_
  refine lv_iconst (v := 0) hx hb dX12_digest_21 (by decide) ?_
  refine lv_bipush (v := 7) hx hb dX12_digest_22 (by decide) ?_
  refine lv_aload_n hx hb dX12_digest_24 rfl (lv_at hl 0 rfl) ?_
  refine va_get (D := (dC, dI)) (ci := 11) (v := .ref (a0 1)) (C := RX12) (T := TX12) (N := 31) hx hb hta uw_X12 hown hK hP 0 rfl rfl 0 (by decide) (hta _ mA790) (fun _ h9 => h9) rfl dX12_digest_25 ?_
  refine lv_bipush (v := 6) hx hb dX12_digest_28 (by decide) ?_
  obtain ⟨g_20, hF⟩ := gd_some hF
  refine va_iald hx hb hK hP 1 0 rfl rfl (vpi_in g_20) dX12_digest_30 ?_
  refine lv_iadd hx hb dX12_digest_31 ?_
  obtain ⟨u_21, hu_21, hF⟩ := obd_some hF
  have hPc := hP.sub (ws' := (wd_X12_mixAll cI a0 v0_2 0 v0_5 v0_12 v0_13 v0_16 v0_17 v0_21 v0_23 v0_24 v0_25 v0_26 v0_29 u_19 v0_0)) [0, 1] rfl
  have hDc := hD.sub (ws' := (wd_X12_mixAll cI a0 v0_2 0 v0_5 v0_12 v0_13 v0_16 v0_17 v0_21 v0_23 v0_24 v0_25 v0_26 v0_29 u_19 v0_0)) [0, 1] rfl rfl
  refine q_callv (wc := (wd_X12_mixAll cI a0 v0_2 0 v0_5 v0_12 v0_13 v0_16 v0_17 v0_21 v0_23 v0_24 v0_25 v0_26 v0_29 u_19 v0_0)) (w1 := (wd_X12_mixAll cI a0 v0_2 0 v0_5 v0_12 v0_13 v0_16 v0_17 v0_21 v0_23 v0_24 v0_25 v0_26 v0_29 u_21 v0_0)) (ws' := (wd_X12_digest cI a0 v0_2 0 v0_5 v0_12 v0_13 v0_16 v0_17 v0_21 v0_23 v0_24 v0_25 v0_26 v0_29 u_21 v0_0 v0_6 v0_7 v0_8 v0_9 v0_10 v0_11 v0_14 v0_15 v0_18 v0_19 v0_20 v0_22)) hP hD hS hA [0, 1] [2, 3, 4, 5, 6, 7, 8, 9, 10, 11, 12, 13] [12, 13, 0, 1, 2, 3, 4, 5, 6, 7, 8, 9, 10, 11] rfl rfl rfl (by decide) rfl rfl (va_runV (As := [.int 0, .int (7 + (v0_0 (6 : Int32).toNatClampNeg))]) (rest := []) ⟨hx, hb, hml, hown, hta⟩ (c_X12_mixAll l dC dI cI H.size a0 v0_2 0 v0_5 v0_12 v0_13 v0_16 v0_17 v0_21 v0_23 v0_24 v0_25 v0_26 v0_29 u_19 v0_0 0 (7 + (v0_0 (6 : Int32).toNatClampNeg)) n u_21 hu_21) (cwV 2 hta (ga_V mA1106 mA1107 mA1108 mA814 mA1101) rfl rfl rfl (by decide +kernel) ⟨Nat.le_of_ble_eq_true rfl, Nat.le_of_ble_eq_true rfl⟩) ⟨q_fb, va_recv hK hP (ci := 11) (q0 := 0) rfl rfl, q_ps hPc hK hDc⟩ rfl rfl hl.1 rfl (lv_room (Nat.le_of_ble_eq_true rfl)) dX12_digest_32 ⟨Nat.zero_le _, Nat.zero_le _⟩) (fun H locs hP hD hS => ?_)
  refine lv_aload_n hx hb dX12_digest_35 rfl (lv_at hl 0 rfl) ?_
  refine lv_aload_n hx hb dX12_digest_36 rfl (lv_at hl 0 rfl) ?_
  refine va_get (D := (dC, dI)) (ci := 11) (v := .ref (a0 1)) (C := RX12) (T := TX12) (N := 31) hx hb hta uw_X12 hown hK hP 0 rfl rfl 0 (by decide) (hta _ mA790) (fun _ h9 => h9) rfl dX12_digest_37 ?_
  refine lv_bipush (v := 13) hx hb dX12_digest_40 (by decide) ?_
  obtain ⟨g_22, hF⟩ := gd_some hF
  refine va_iald hx hb hK hP 1 0 rfl rfl (vpi_in g_22) dX12_digest_42 ?_
  obtain ⟨u_23, hu_23, hF⟩ := lt_some hF
  have hPc := hP.sub (ws' := (wd_X12_mix cI a0 v0_2 0 v0_5 v0_12 v0_13 v0_16 v0_17 v0_21 v0_23 v0_24 v0_25 v0_26 v0_29 u_21)) [0] rfl
  have hDc := hD.sub (ws' := (wd_X12_mix cI a0 v0_2 0 v0_5 v0_12 v0_13 v0_16 v0_17 v0_21 v0_23 v0_24 v0_25 v0_26 v0_29 u_21)) [0] rfl rfl
  refine q_callv (wc := (wd_X12_mix cI a0 v0_2 0 v0_5 v0_12 v0_13 v0_16 v0_17 v0_21 v0_23 v0_24 v0_25 v0_26 v0_29 u_21)) (w1 := (wd_X12_mix cI a0 v0_2 0 v0_5 v0_12 v0_13 v0_16 v0_17 v0_21 v0_23 v0_24 v0_25 v0_26 v0_29 u_23)) (ws' := (wd_X12_digest cI a0 v0_2 0 v0_5 v0_12 v0_13 v0_16 v0_17 v0_21 v0_23 v0_24 v0_25 v0_26 v0_29 u_23 v0_0 v0_6 v0_7 v0_8 v0_9 v0_10 v0_11 v0_14 v0_15 v0_18 v0_19 v0_20 v0_22)) hP hD hS hA [0] [1, 2, 3, 4, 5, 6, 7, 8, 9, 10, 11, 12, 13] [13, 0, 1, 2, 3, 4, 5, 6, 7, 8, 9, 10, 11, 12] rfl rfl rfl (by decide) rfl rfl (va_runV (As := [.int (v0_0 (13 : Int32).toNatClampNeg)]) (rest := []) ⟨hx, hb, hml, hown, hta⟩ (c_X12_mix l dC dI cI H.size a0 v0_2 0 v0_5 v0_12 v0_13 v0_16 v0_17 v0_21 v0_23 v0_24 v0_25 v0_26 v0_29 u_21 (v0_0 (13 : Int32).toNatClampNeg) u_23 hu_23.symm) (cwV 1 hta (ga_V mA1102 mA1103 mA1104 mA814 mA1098) rfl rfl rfl (by decide +kernel) ⟨Nat.le_of_ble_eq_true rfl, Nat.le_of_ble_eq_true rfl⟩) ⟨q_fb, va_recv hK hP (ci := 11) (q0 := 0) rfl rfl, q_ps hPc hK hDc⟩ rfl rfl hl.1 rfl (lv_room (Nat.le_of_ble_eq_true rfl)) dX12_digest_43 ⟨Nat.zero_le _, Nat.zero_le _⟩) (fun H locs hP hD hS => ?_)
  refine lv_iconst (v := 0) hx hb dX12_digest_46 (by decide) ?_
  refine lv_istore_n (lv' := [(1, .int 0), (0, .ref (a0 0))]) hx hb dX12_digest_47 rfl hl (by decide) rfl (fun ls hl => ?_)
  exact j48 0 v0_12 v0_13 v0_16 v0_17 v0_21 v0_23 u_23 v0_6 v0_7 v0_8 v0_9 v0_10 v0_11 v0_14 v0_15 v0_18 v0_19 v0_20 v0_22 0 hF _ _ _ hP hD hS (lv_sub hl [1, 0] rfl)
