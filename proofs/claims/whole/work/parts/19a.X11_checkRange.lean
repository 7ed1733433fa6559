-- StrokeOutliner.checkRange(III)V
def F_X11_checkRange_j10  : Option (Sum (Unit) (Nat)) :=
  some (.inr 1)
def F_X11_checkRange (p0 : Int32) (p1 : Int32) (p2 : Int32) : Option (Sum (Unit) (Nat)) :=
  if p0 < p1 then F_X11_checkRange_j10 else if p0 ≤ p2 then some (.inl ()) else F_X11_checkRange_j10
abbrev wz_X11_checkRange : List Cond := .code yX11_checkRange cX11_checkRange 3 none :: wALL
abbrev rm_X11_checkRange : Room := { frames := 0, cells := 0, slots := 0, locals := 0 }
abbrev Q_X11_checkRange (dC : Nat → ClassId) (dI : Nat → Nat → Nat) (cI : ClassId) (u : (Unit)) (A : Nat → Prop) : Array Value → State → Outcome → State → Prop := va_Qv (fun (_ : Unit) => True) (fun _ => q_at dC dI cI A ([] : va_W)) A
set_option maxHeartbeats 4000000 in
set_option maxRecDepth 100000 in
theorem c_X11_checkRange (l : Launch) (dC : Nat → ClassId) (dI : Nat → Nat → Nat) (cI : ClassId) (sz : Nat) (p0 : Int32) (p1 : Int32) (p2 : Int32) (u : (Unit)) (hF : F_X11_checkRange p0 p1 p2 = some (.inl u)) : Met l yX11_checkRange wz_X11_checkRange rm_X11_checkRange (va_Pc [.int p0, .int p1, .int p2] (q_pre dC dI cI ([] : va_W) sz)) (Q_X11_checkRange dC dI cI u (va_A ([] : va_W) sz)) 0 0 (va_A ([] : va_W) sz) := by
  refine Met.ofW (cc := cX11_checkRange) (maxL := 3) (ret := none) (by decide) rfl ?_
  intro p e s m args below meth c s₁ B hml hv
  obtain ⟨rfl, hsz, hP, hK, hD0⟩ := hv
  have hx := B.exec
  have hb := B.bytes
  have hr := B.returns
  have hts := atoms_spec (ws := wz_X11_checkRange) B.pre
  have hta := wz_tl hts
  have hown : s.vm.findClass RX11 = some m.cls := findClass_of_methodNamed B.named
  have hlocks := B.notSynchronized
  subst hsz
  have hD := hD0.self (sz := s.heap.size)
  generalize hAe : va_A ([] : va_W) s.heap.size = A at hD ⊢
  have hA : ∀ q : Nat, s.heap.size ≤ q → A q := fun q h => by rw [← hAe]; exact Or.inr h
  have hS : va_S A s.heap s.heap [] := va_S.rf
  have hP : va_P (dC, dI) vwCl ([] : va_W) s.heap := hP
  have hl := lv_entry ([.int p0, .int p1, .int p2]) (n := 3) (Nat.le_of_ble_eq_true rfl)
  rw [lg_entry_eq]
  generalize (lg_sl ([.int p0, .int p1, .int p2]) ++ List.replicate (3 - (lg_sl ([.int p0, .int p1, .int p2])).length) Slot.unset).toArray = ls at hl ⊢
  have hl : lv_has ls 3 [(0, .int p0), (1, .int p1), (2, .int p2)] := hl
  obtain ⟨H, hHe⟩ : ∃ H, H = s.heap := ⟨_, rfl⟩
  have hS : va_S A s.heap H [] := by rw [hHe]; exact hS
  have hP : va_P (dC, dI) vwCl ([] : va_W) H := by rw [hHe]; exact hP
  rw [← hHe]
  unfold F_X11_checkRange at hF
  have j10 : ∀ (_ : Unit), F_X11_checkRange_j10 = some (.inl u) → ∀ (H : Heap) (locs : List Loc) (ls : Array Slot), va_P (dC, dI) vwCl ([] : va_W) H → va_D A ([] : va_W) → va_S A s.heap H locs → lv_has ls 3 [] → W p l e (headSpec wz_X11_checkRange rm_X11_checkRange).room s m [.int p0, .int p1, .int p2].toArray below meth c H locs 0 0 (MQ below (Q_X11_checkRange dC dI cI u A) [.int p0, .int p1, .int p2].toArray s 0 0 A) (F0 m 10 ls []) := by
    intro _ hF H locs ls hP hD hS hl
    unfold F_X11_checkRange_j10 at hF
    exact absurd hF no_rl
  refine lv_iload_n hx hb dX11_checkRange_0 rfl (lv_at hl 0 rfl) ?_
  refine lv_iload_n hx hb dX11_checkRange_1 rfl (lv_at hl 1 rfl) ?_
  refine lv_icmp_lt (tgt := 10) hx hb dX11_checkRange_2 (by decide) (fun c_1 => ?_) (fun c_1 => ?_)
  · have hF := it_t hF c_1
    exact j10 () hF _ _ _ hP hD hS (lv_sub hl [] rfl)
  · have hF := it_f hF c_1
    refine lv_iload_n hx hb dX11_checkRange_5 rfl (lv_at hl 0 rfl) ?_
    refine lv_iload_n hx hb dX11_checkRange_6 rfl (lv_at hl 2 rfl) ?_
    refine lv_icmp_le (tgt := 21) hx hb dX11_checkRange_7 (by decide) (fun c_2 => ?_) (fun c_2 => ?_)
    · have hF := it_t hF c_2
      obtain rfl := Sum.inl.inj (Option.some.inj hF)
      exact W.vret hx hb hr (fun t ht hW => ⟨⟨(), rfl, trivial, by rw [ht]; exact hP, va_K.moved hW.alike hK, hD⟩, hS.F ht⟩) hS.2.2 dX11_checkRange_21
    · have hF := it_f hF c_2
      exact j10 () hF _ _ _ hP hD hS (lv_sub hl [] rfl)
abbrev rmx_X11_checkRange : Room := { frames := 6, cells := 1, slots := 6, locals := 82 }
abbrev XC_X11_checkRange (dC : Nat → ClassId) (dI : Nat → Nat → Nat) (cI : ClassId) (x : (Nat)) (A : Nat → Prop) : String → State → State → Prop := vx_X (fun (_ : Unit) => True) (fun E _ t => E = exN x ∧ q_at dC dI cI A ([] : va_W) t) A
set_option maxHeartbeats 4000000 in
set_option maxRecDepth 100000 in
theorem c_X11_checkRange_x (l : Launch) (hlt : l.stackTraces = false) (S : Nat → Nat) (dC : Nat → ClassId) (dI : Nat → Nat → Nat) (cI : ClassId) (sz : Nat) (p0 : Int32) (p1 : Int32) (p2 : Int32) (x : (Nat)) (hF : F_X11_checkRange p0 p1 p2 = some (.inr x)) : vx_Met l yX11_checkRange wz_X11_checkRange rmx_X11_checkRange (va_Pc [.int p0, .int p1, .int p2] (qx_pre S dC dI cI ([] : va_W) sz)) (va_Qv (fun (_ : Unit) => False) (fun _ _ => True) (va_A ([] : va_W) sz)) (XC_X11_checkRange dC dI cI x (va_A ([] : va_W) sz)) 1 6 (va_A ([] : va_W) sz) := by
  refine vx_ofW (cc := cX11_checkRange) (maxL := 3) (ret := none) (by decide) rfl ?_
  intro p e s m args below meth c s₁ B hml hxt hv
  obtain ⟨rfl, ⟨hsz, hP, hK, hD0⟩, hE⟩ := hv
  have hx := B.exec
  have hb := B.bytes
  have hr := B.returns
  have hts := atoms_spec (ws := wz_X11_checkRange) B.pre
  have hta := wz_tl hts
  have hown : s.vm.findClass RX11 = some m.cls := findClass_of_methodNamed B.named
  have hlocks := B.notSynchronized
  subst hsz
  have hD := hD0.self (sz := s.heap.size)
  generalize hAe : va_A ([] : va_W) s.heap.size = A at hD hE ⊢
  have hA : ∀ q : Nat, s.heap.size ≤ q → A q := fun q h => by rw [← hAe]; exact Or.inr h
  have hS : va_S A s.heap s.heap [] := va_S.rf
  have hP : va_P (dC, dI) vwCl ([] : va_W) s.heap := hP
  have hl := lv_entry ([.int p0, .int p1, .int p2]) (n := 3) (Nat.le_of_ble_eq_true rfl)
  rw [lg_entry_eq]
  generalize (lg_sl ([.int p0, .int p1, .int p2]) ++ List.replicate (3 - (lg_sl ([.int p0, .int p1, .int p2])).length) Slot.unset).toArray = ls at hl ⊢
  have hl : lv_has ls 3 [(0, .int p0), (1, .int p1), (2, .int p2)] := hl
  obtain ⟨H, hHe⟩ : ∃ H, H = s.heap := ⟨_, rfl⟩
  have hS : va_S A s.heap H [] := by rw [hHe]; exact hS
  have hP : va_P (dC, dI) vwCl ([] : va_W) H := by rw [hHe]; exact hP
  rw [← hHe]
  unfold F_X11_checkRange at hF
  have j10 : ∀ (_ : Unit), F_X11_checkRange_j10 = some (.inr x) → ∀ (H : Heap) (locs : List Loc) (ls : Array Slot), va_P (dC, dI) vwCl ([] : va_W) H → va_D A ([] : va_W) → va_S A s.heap H locs → lv_has ls 3 [] → W p l e (headSpec wz_X11_checkRange rmx_X11_checkRange).room s m [.int p0, .int p1, .int p2].toArray below meth c H locs 0 0 (vx_MQ below (va_Qv (fun (_ : Unit) => False) (fun _ _ => True) A) (XC_X11_checkRange dC dI cI x A) [.int p0, .int p1, .int p2].toArray s 1 6 A) (F0 m 10 ls []) := by
    intro _ hF H locs ls hP hD hS hl
    unfold F_X11_checkRange_j10 at hF
    obtain rfl := Sum.inr.inj (Option.some.inj hF)
    exact vx_throwSW (A := A) (sa := S 0) hx hb hlt hown qx_fIA qx_fN (hta _ mA110) (hta _ mA111) hE.2.2.1.1 (qx_hIA hE.2.2.2 hta) qx_gIA hE.1 hE.2.1 hS (hl.1.trans hml.symm) dX11_checkRange_10 dX11_checkRange_13 dX11_checkRange_14 dX11_checkRange_17 dX11_checkRange_20 (fun z hz => (hxt z hz).elim) (Nat.le_of_ble_eq_true rfl) (Nat.le_of_ble_eq_true rfl) (Nat.le_of_ble_eq_true rfl) (Nat.le_of_ble_eq_true rfl) hlocks (fun t hal hsz hkp => ⟨(), trivial, ⟨rfl, qx_kept hP hkp, va_K.moved hal hK, hD⟩, qx_F hS hsz hkp⟩) hS.2.2 (Nat.le_of_ble_eq_true rfl) (Nat.le_of_ble_eq_true rfl)
  refine lv_iload_n hx hb dX11_checkRange_0 rfl (lv_at hl 0 rfl) ?_
  refine lv_iload_n hx hb dX11_checkRange_1 rfl (lv_at hl 1 rfl) ?_
  refine lv_icmp_lt (tgt := 10) hx hb dX11_checkRange_2 (by decide) (fun c_1 => ?_) (fun c_1 => ?_)
  · have hF := it_t hF c_1
    exact j10 () hF _ _ _ hP hD hS (lv_sub hl [] rfl)
  · have hF := it_f hF c_1
    refine lv_iload_n hx hb dX11_checkRange_5 rfl (lv_at hl 0 rfl) ?_
    refine lv_iload_n hx hb dX11_checkRange_6 rfl (lv_at hl 2 rfl) ?_
    refine lv_icmp_le (tgt := 21) hx hb dX11_checkRange_7 (by decide) (fun c_2 => ?_) (fun c_2 => ?_)
    · have hF := it_t hF c_2
      exact absurd hF no_lr
    · have hF := it_f hF c_2
      exact j10 () hF _ _ _ hP hD hS (lv_sub hl [] rfl)

-- StrokeOutliner.checkState(Z)V
def F_X11_checkState (p0 : Int32) : Option (Sum (Unit) (Nat)) :=
  if p0 = 0 then some (.inr 2) else some (.inl ())
abbrev wz_X11_checkState : List Cond := .code yX11_checkState cX11_checkState 1 none :: wALL
abbrev rm_X11_checkState : Room := { frames := 0, cells := 0, slots := 0, locals := 0 }
abbrev Q_X11_checkState (dC : Nat → ClassId) (dI : Nat → Nat → Nat) (cI : ClassId) (u : (Unit)) (A : Nat → Prop) : Array Value → State → Outcome → State → Prop := va_Qv (fun (_ : Unit) => True) (fun _ => q_at dC dI cI A ([] : va_W)) A
set_option maxHeartbeats 4000000 in
set_option maxRecDepth 100000 in
theorem c_X11_checkState (l : Launch) (dC : Nat → ClassId) (dI : Nat → Nat → Nat) (cI : ClassId) (sz : Nat) (p0 : Int32) (u : (Unit)) (hF : F_X11_checkState p0 = some (.inl u)) : Met l yX11_checkState wz_X11_checkState rm_X11_checkState (va_Pc [.int p0] (q_pre dC dI cI ([] : va_W) sz)) (Q_X11_checkState dC dI cI u (va_A ([] : va_W) sz)) 0 0 (va_A ([] : va_W) sz) := by
  refine Met.ofW (cc := cX11_checkState) (maxL := 1) (ret := none) (by decide) rfl ?_
  intro p e s m args below meth c s₁ B hml hv
  obtain ⟨rfl, hsz, hP, hK, hD0⟩ := hv
  have hx := B.exec
  have hb := B.bytes
  have hr := B.returns
  have hts := atoms_spec (ws := wz_X11_checkState) B.pre
  have hta := wz_tl hts
  have hown : s.vm.findClass RX11 = some m.cls := findClass_of_methodNamed B.named
  have hlocks := B.notSynchronized
  subst hsz
  have hD := hD0.self (sz := s.heap.size)
  generalize hAe : va_A ([] : va_W) s.heap.size = A at hD ⊢
  have hA : ∀ q : Nat, s.heap.size ≤ q → A q := fun q h => by rw [← hAe]; exact Or.inr h
  have hS : va_S A s.heap s.heap [] := va_S.rf
  have hP : va_P (dC, dI) vwCl ([] : va_W) s.heap := hP
  have hl := lv_entry ([.int p0]) (n := 1) (Nat.le_of_ble_eq_true rfl)
  rw [lg_entry_eq]
  generalize (lg_sl ([.int p0]) ++ List.replicate (1 - (lg_sl ([.int p0])).length) Slot.unset).toArray = ls at hl ⊢
  have hl : lv_has ls 1 [(0, .int p0)] := hl
  obtain ⟨H, hHe⟩ : ∃ H, H = s.heap := ⟨_, rfl⟩
  have hS : va_S A s.heap H [] := by rw [hHe]; exact hS
  have hP : va_P (dC, dI) vwCl ([] : va_W) H := by rw [hHe]; exact hP
  rw [← hHe]
  unfold F_X11_checkState at hF
  refine lv_iload_n hx hb dX11_checkState_0 rfl (lv_at hl 0 rfl) ?_
  refine lv_if_ne (tgt := 15) hx hb dX11_checkState_1 (by decide) (fun c_1 => ?_) (fun c_1 => ?_)
  · have hF := it_f hF c_1
    obtain rfl := Sum.inl.inj (Option.some.inj hF)
    exact W.vret hx hb hr (fun t ht hW => ⟨⟨(), rfl, trivial, by rw [ht]; exact hP, va_K.moved hW.alike hK, hD⟩, hS.F ht⟩) hS.2.2 dX11_checkState_15
  · have hF := it_t hF c_1
    exact absurd hF no_rl
abbrev rmx_X11_checkState : Room := { frames := 6, cells := 1, slots := 6, locals := 82 }
abbrev XC_X11_checkState (dC : Nat → ClassId) (dI : Nat → Nat → Nat) (cI : ClassId) (x : (Nat)) (A : Nat → Prop) : String → State → State → Prop := vx_X (fun (_ : Unit) => True) (fun E _ t => E = exN x ∧ q_at dC dI cI A ([] : va_W) t) A
set_option maxHeartbeats 4000000 in
set_option maxRecDepth 100000 in
theorem c_X11_checkState_x (l : Launch) (hlt : l.stackTraces = false) (S : Nat → Nat) (dC : Nat → ClassId) (dI : Nat → Nat → Nat) (cI : ClassId) (sz : Nat) (p0 : Int32) (x : (Nat)) (hF : F_X11_checkState p0 = some (.inr x)) : vx_Met l yX11_checkState wz_X11_checkState rmx_X11_checkState (va_Pc [.int p0] (qx_pre S dC dI cI ([] : va_W) sz)) (va_Qv (fun (_ : Unit) => False) (fun _ _ => True) (va_A ([] : va_W) sz)) (XC_X11_checkState dC dI cI x (va_A ([] : va_W) sz)) 1 6 (va_A ([] : va_W) sz) := by
  refine vx_ofW (cc := cX11_checkState) (maxL := 1) (ret := none) (by decide) rfl ?_
  intro p e s m args below meth c s₁ B hml hxt hv
  obtain ⟨rfl, ⟨hsz, hP, hK, hD0⟩, hE⟩ := hv
  have hx := B.exec
  have hb := B.bytes
  have hr := B.returns
  have hts := atoms_spec (ws := wz_X11_checkState) B.pre
  have hta := wz_tl hts
  have hown : s.vm.findClass RX11 = some m.cls := findClass_of_methodNamed B.named
  have hlocks := B.notSynchronized
  subst hsz
  have hD := hD0.self (sz := s.heap.size)
  generalize hAe : va_A ([] : va_W) s.heap.size = A at hD hE ⊢
  have hA : ∀ q : Nat, s.heap.size ≤ q → A q := fun q h => by rw [← hAe]; exact Or.inr h
  have hS : va_S A s.heap s.heap [] := va_S.rf
  have hP : va_P (dC, dI) vwCl ([] : va_W) s.heap := hP
  have hl := lv_entry ([.int p0]) (n := 1) (Nat.le_of_ble_eq_true rfl)
  rw [lg_entry_eq]
  generalize (lg_sl ([.int p0]) ++ List.replicate (1 - (lg_sl ([.int p0])).length) Slot.unset).toArray = ls at hl ⊢
  have hl : lv_has ls 1 [(0, .int p0)] := hl
  obtain ⟨H, hHe⟩ : ∃ H, H = s.heap := ⟨_, rfl⟩
  have hS : va_S A s.heap H [] := by rw [hHe]; exact hS
  have hP : va_P (dC, dI) vwCl ([] : va_W) H := by rw [hHe]; exact hP
  rw [← hHe]
  unfold F_X11_checkState at hF
  refine lv_iload_n hx hb dX11_checkState_0 rfl (lv_at hl 0 rfl) ?_
  refine lv_if_ne (tgt := 15) hx hb dX11_checkState_1 (by decide) (fun c_1 => ?_) (fun c_1 => ?_)
  · have hF := it_f hF c_1
    exact absurd hF no_lr
  · have hF := it_t hF c_1
    obtain rfl := Sum.inr.inj (Option.some.inj hF)
    exact vx_throwSW (A := A) (sa := S 1) hx hb hlt hown qx_fIS qx_fN (hta _ mA123) (hta _ mA124) hE.2.2.1.2.1 (qx_hIS hE.2.2.2 hta) qx_gIS hE.1 hE.2.1 hS (hl.1.trans hml.symm) dX11_checkState_4 dX11_checkState_7 dX11_checkState_8 dX11_checkState_11 dX11_checkState_14 (fun z hz => (hxt z hz).elim) (Nat.le_of_ble_eq_true rfl) (Nat.le_of_ble_eq_true rfl) (Nat.le_of_ble_eq_true rfl) (Nat.le_of_ble_eq_true rfl) hlocks (fun t hal hsz hkp => ⟨(), trivial, ⟨rfl, qx_kept hP hkp, va_K.moved hal hK, hD⟩, qx_F hS hsz hkp⟩) hS.2.2 (Nat.le_of_ble_eq_true rfl) (Nat.le_of_ble_eq_true rfl)

-- StrokeOutliner.saveState()V
def F_X11_saveState (v2_0 : Nat → Int32) (v4_1 : Int32) (v4_0 : Nat → Int32) : Option (Int32 × (Nat → Int32) × Int32) :=
  obd (F_X3_keep v4_1 v4_0 v2_0) (fun u_1 => lt (F_X10_forget) (fun u_2 => some (u_1.1, u_1.2, u_2)))
abbrev wd_X11_saveState (cI : ClassId) (a0 : Nat → Nat) (a1 : Nat → Nat) (a2 : Nat → Nat) (a3 : Nat → Nat) (a4 : Nat → Nat) (a5 : Nat → Nat) (a6 : Nat → Nat) (a7 : Nat → Nat) (a8 : Nat → Nat) (a9 : Nat → Nat) (a10 : Nat → Nat) (v2_0 : Nat → Int32) (v4_1 : Int32) (v4_0 : Nat → Int32) (v5_3 : Int32) (v5_4 : Int32) (v5_5 : Int32) (v5_6 : Int32) (v5_7 : Int32) : va_W := [(a0 0, .inr (10, [.ref (a2 0), .ref (a1 0), .ref (a4 0), .ref (a9 0), .ref (a10 0), .ref (a5 0), .ref (a3 0)])), (a2 0, .inr (1, [.ref (a2 1)])), (a2 1, .inl (cI, 86, .inl v2_0)), (a4 0, .inr (3, [.ref (a4 1), .int v4_1])), (a4 1, .inl (cI, 344, .inl v4_0)), (a5 0, .inr (9, [.ref (a8 0), .ref (a7 0), .ref (a6 0), .int v5_3, .int v5_4, .int v5_5, .int v5_6, .int v5_7]))]
abbrev wz_X11_saveState : List Cond := .code yX11_saveState cX11_saveState 1 none :: wALL
abbrev rm_X11_saveState : Room := { frames := 3, cells := 0, slots := 0, locals := 69 }
abbrev Q_X11_saveState (dC : Nat → ClassId) (dI : Nat → Nat → Nat) (cI : ClassId) (a0 : Nat → Nat) (a1 : Nat → Nat) (a2 : Nat → Nat) (a3 : Nat → Nat) (a4 : Nat → Nat) (a5 : Nat → Nat) (a6 : Nat → Nat) (a7 : Nat → Nat) (a8 : Nat → Nat) (a9 : Nat → Nat) (a10 : Nat → Nat) (v2_0 : Nat → Int32) (v5_4 : Int32) (v5_5 : Int32) (v5_6 : Int32) (v5_7 : Int32) (u : (Int32 × (Nat → Int32) × Int32)) (A : Nat → Prop) : Array Value → State → Outcome → State → Prop := va_Qv (fun (_ : Unit) => True) (fun _ => q_at dC dI cI A (wd_X11_saveState cI a0 a1 a2 a3 a4 a5 a6 a7 a8 a9 a10 v2_0 u.1 u.2.1 u.2.2 v5_4 v5_5 v5_6 v5_7)) A
set_option maxHeartbeats 4000000 in
set_option maxRecDepth 100000 in
theorem c_X11_saveState (l : Launch) (dC : Nat → ClassId) (dI : Nat → Nat → Nat) (cI : ClassId) (sz : Nat) (a0 : Nat → Nat) (a1 : Nat → Nat) (a2 : Nat → Nat) (a3 : Nat → Nat) (a4 : Nat → Nat) (a5 : Nat → Nat) (a6 : Nat → Nat) (a7 : Nat → Nat) (a8 : Nat → Nat) (a9 : Nat → Nat) (a10 : Nat → Nat) (v2_0 : Nat → Int32) (v4_1 : Int32) (v4_0 : Nat → Int32) (v5_3 : Int32) (v5_4 : Int32) (v5_5 : Int32) (v5_6 : Int32) (v5_7 : Int32) (u : (Int32 × (Nat → Int32) × Int32)) (hF : F_X11_saveState v2_0 v4_1 v4_0 = some u) : Met l yX11_saveState wz_X11_saveState rm_X11_saveState (va_Pc [.ref (a0 0)] (q_pre dC dI cI (wd_X11_saveState cI a0 a1 a2 a3 a4 a5 a6 a7 a8 a9 a10 v2_0 v4_1 v4_0 v5_3 v5_4 v5_5 v5_6 v5_7) sz)) (Q_X11_saveState dC dI cI a0 a1 a2 a3 a4 a5 a6 a7 a8 a9 a10 v2_0 v5_4 v5_5 v5_6 v5_7 u (va_A (wd_X11_saveState cI a0 a1 a2 a3 a4 a5 a6 a7 a8 a9 a10 v2_0 v4_1 v4_0 v5_3 v5_4 v5_5 v5_6 v5_7) sz)) 0 0 (va_A (wd_X11_saveState cI a0 a1 a2 a3 a4 a5 a6 a7 a8 a9 a10 v2_0 v4_1 v4_0 v5_3 v5_4 v5_5 v5_6 v5_7) sz) := by
  refine Met.ofW (cc := cX11_saveState) (maxL := 1) (ret := none) (by decide) rfl ?_
  intro p e s m args below meth c s₁ B hml hv
  obtain ⟨rfl, hsz, hP, hK, hD0⟩ := hv
  have hx := B.exec
  have hb := B.bytes
  have hr := B.returns
  have hts := atoms_spec (ws := wz_X11_saveState) B.pre
  have hta := wz_tl hts
  have hown : s.vm.findClass RX11 = some m.cls := findClass_of_methodNamed B.named
  have hlocks := B.notSynchronized
  subst hsz
  have hD := hD0.self (sz := s.heap.size)
  generalize hAe : va_A (wd_X11_saveState cI a0 a1 a2 a3 a4 a5 a6 a7 a8 a9 a10 v2_0 v4_1 v4_0 v5_3 v5_4 v5_5 v5_6 v5_7) s.heap.size = A at hD ⊢
  have hA : ∀ q : Nat, s.heap.size ≤ q → A q := fun q h => by rw [← hAe]; exact Or.inr h
  have hS : va_S A s.heap s.heap [] := va_S.rf
  have hP : va_P (dC, dI) vwCl (wd_X11_saveState cI a0 a1 a2 a3 a4 a5 a6 a7 a8 a9 a10 v2_0 v4_1 v4_0 v5_3 v5_4 v5_5 v5_6 v5_7) s.heap := hP
  have hl := lv_entry ([.ref (a0 0)]) (n := 1) (Nat.le_of_ble_eq_true rfl)
  rw [lg_entry_eq]
  generalize (lg_sl ([.ref (a0 0)]) ++ List.replicate (1 - (lg_sl ([.ref (a0 0)])).length) Slot.unset).toArray = ls at hl ⊢
  have hl : lv_has ls 1 [(0, .ref (a0 0))] := hl
  obtain ⟨H, hHe⟩ : ∃ H, H = s.heap := ⟨_, rfl⟩
  have hS : va_S A s.heap H [] := by rw [hHe]; exact hS
  have hP : va_P (dC, dI) vwCl (wd_X11_saveState cI a0 a1 a2 a3 a4 a5 a6 a7 a8 a9 a10 v2_0 v4_1 v4_0 v5_3 v5_4 v5_5 v5_6 v5_7) H := by rw [hHe]; exact hP
  rw [← hHe]
  unfold F_X11_saveState at hF
  refine lv_aload_n hx hb dX11_saveState_0 rfl (lv_at hl 0 rfl) ?_
  refine va_get (D := (dC, dI)) (ci := 10) (v := .ref (a4 0)) (C := RX11) (T := TX11) (N := 7) hx hb hta uw_X11 hown hK hP 0 rfl rfl 2 (by decide) (hta _ mA12) (fun _ h9 => h9) rfl dX11_saveState_1 ?_
  refine lv_aload_n hx hb dX11_saveState_4 rfl (lv_at hl 0 rfl) ?_
  refine va_get (D := (dC, dI)) (ci := 10) (v := .ref (a2 0)) (C := RX11) (T := TX11) (N := 7) hx hb hta uw_X11 hown hK hP 0 rfl rfl 0 (by decide) (hta _ mA7) (fun _ h9 => h9) rfl dX11_saveState_5 ?_
  obtain ⟨u_1, hu_1, hF⟩ := obd_some hF
  have hPc := hP.sub (ws' := (wd_X3_keep cI a4 a2 v4_1 v4_0 v2_0)) [3, 4, 1, 2] rfl
  have hDc := hD.sub (ws' := (wd_X3_keep cI a4 a2 v4_1 v4_0 v2_0)) [3, 4, 1, 2] rfl rfl
  refine q_callv (wc := (wd_X3_keep cI a4 a2 v4_1 v4_0 v2_0)) (w1 := (wd_X3_keep cI a4 a2 u_1.1 u_1.2 v2_0)) (ws' := (wd_X11_saveState cI a0 a1 a2 a3 a4 a5 a6 a7 a8 a9 a10 v2_0 u_1.1 u_1.2 v5_3 v5_4 v5_5 v5_6 v5_7)) hP hD hS hA [3, 4, 1, 2] [0, 5] [0, 4, 5, 2, 3, 1] rfl rfl rfl (by decide) rfl rfl (va_runV (As := [.ref (a2 0)]) (rest := []) ⟨hx, hb, hml, hown, hta⟩ (c_X3_keep l dC dI cI H.size a4 a2 v4_1 v4_0 v2_0 u_1 hu_1) (cwV 1 hta (ga_V mA129 mA130 mA131 mA11 mA132) rfl rfl rfl (by decide +kernel) ⟨Nat.le_of_ble_eq_true rfl, Nat.le_of_ble_eq_true rfl⟩) ⟨q_fb, va_recv hK hP (ci := 3) (q0 := 3) rfl rfl, q_ps hPc hK hDc⟩ rfl rfl hl.1 rfl (lv_room (Nat.le_of_ble_eq_true rfl)) dX11_saveState_8 ⟨Nat.zero_le _, Nat.zero_le _⟩) (fun H locs hP hD hS => ?_)
  refine lv_aload_n hx hb dX11_saveState_11 rfl (lv_at hl 0 rfl) ?_
  refine va_get (D := (dC, dI)) (ci := 10) (v := .ref (a5 0)) (C := RX11) (T := TX11) (N := 7) hx hb hta uw_X11 hown hK hP 0 rfl rfl 5 (by decide) (hta _ mA24) (fun _ h9 => h9) rfl dX11_saveState_12 ?_
  obtain ⟨u_2, hu_2, hF⟩ := lt_some hF
  have hPc := hP.sub (ws' := (wd_X10_forget cI a5 a6 a7 a8 v5_3 v5_4 v5_5 v5_6 v5_7)) [5] rfl
  have hDc := hD.sub (ws' := (wd_X10_forget cI a5 a6 a7 a8 v5_3 v5_4 v5_5 v5_6 v5_7)) [5] rfl rfl
  refine q_callv (wc := (wd_X10_forget cI a5 a6 a7 a8 v5_3 v5_4 v5_5 v5_6 v5_7)) (w1 := (wd_X10_forget cI a5 a6 a7 a8 u_2 v5_4 v5_5 v5_6 v5_7)) (ws' := (wd_X11_saveState cI a0 a1 a2 a3 a4 a5 a6 a7 a8 a9 a10 v2_0 u_1.1 u_1.2 u_2 v5_4 v5_5 v5_6 v5_7)) hP hD hS hA [5] [0, 1, 2, 3, 4] [0, 1, 2, 3, 4, 5] rfl rfl rfl (by decide) rfl rfl (va_runV (As := []) (rest := []) ⟨hx, hb, hml, hown, hta⟩ (c_X10_forget l dC dI cI H.size a5 a6 a7 a8 v5_3 v5_4 v5_5 v5_6 v5_7 u_2 hu_2.symm) (cwV 0 hta (ga_V mA143 mA144 mA145 mA23 mA146) rfl rfl rfl (by decide +kernel) ⟨Nat.le_of_ble_eq_true rfl, Nat.le_of_ble_eq_true rfl⟩) ⟨q_fb, va_recv hK hP (ci := 9) (q0 := 5) rfl rfl, q_ps hPc hK hDc⟩ rfl rfl hl.1 rfl (lv_room (Nat.le_of_ble_eq_true rfl)) dX11_saveState_15 ⟨Nat.zero_le _, Nat.zero_le _⟩) (fun H locs hP hD hS => ?_)
  obtain rfl := Option.some.inj hF
  exact W.vret hx hb hr (fun t ht hW => ⟨⟨(), rfl, trivial, by rw [ht]; exact hP, va_K.moved hW.alike hK, hD⟩, hS.F ht⟩) hS.2.2 dX11_saveState_18

-- StrokeOutliner.moveTo(II)I
def F_X11_moveTo_j32 (v2_0 : Nat → Int32) (v4_1 : Int32) (v4_0 : Nat → Int32) (v5_3 : Int32) (x1 : Int32) (x2 : Int32) (t0 : Int32) : Option (Sum (Int32 × (Nat → Int32) × Int32 × (Nat → Int32) × Int32) (Nat × (Nat → Int32) × Int32 × (Nat → Int32) × Int32)) :=
  obx (F_X11_checkState t0) (fun x_2 => some (.inr (x_2, v2_0, v4_1, v4_0, v5_3))) (fun u_1 => obd (F_X11_saveState v2_0 v4_1 v4_0) (fun u_3 => obd (F_X1_startSubpath v2_0 x1 x2) (fun u_4 => obd (F_X1_lastSubpath u_4) (fun u_5 => some (.inl (u_5, u_4, u_3.1, u_3.2.1, u_3.2.2))))))
def F_X11_moveTo (v2_0 : Nat → Int32) (v4_1 : Int32) (v4_0 : Nat → Int32) (v5_3 : Int32) (p1 : Int32) (p2 : Int32) : Option (Sum (Int32 × (Nat → Int32) × Int32 × (Nat → Int32) × Int32) (Nat × (Nat → Int32) × Int32 × (Nat → Int32) × Int32)) :=
  obx (F_X11_checkRange p1 (-100) 100) (fun x_7 => some (.inr (x_7, v2_0, v4_1, v4_0, v5_3))) (fun u_6 => obx (F_X11_checkRange p2 (-100) 100) (fun x_9 => some (.inr (x_9, v2_0, v4_1, v4_0, v5_3))) (fun u_8 => obd (F_X1_subpathCount v2_0) (fun u_10 => if 4 ≤ u_10 then F_X11_moveTo_j32 v2_0 v4_1 v4_0 v5_3 p1 p2 0 else F_X11_moveTo_j32 v2_0 v4_1 v4_0 v5_3 p1 p2 1)))
abbrev wd_X11_moveTo (cI : ClassId) (a0 : Nat → Nat) (a1 : Nat → Nat) (a2 : Nat → Nat) (a3 : Nat → Nat) (a4 : Nat → Nat) (a5 : Nat → Nat) (a6 : Nat → Nat) (a7 : Nat → Nat) (a8 : Nat → Nat) (a9 : Nat → Nat) (a10 : Nat → Nat) (v2_0 : Nat → Int32) (v4_1 : Int32) (v4_0 : Nat → Int32) (v5_3 : Int32) (v5_4 : Int32) (v5_5 : Int32) (v5_6 : Int32) (v5_7 : Int32) : va_W := [(a0 0, .inr (10, [.ref (a2 0), .ref (a1 0), .ref (a4 0), .ref (a9 0), .ref (a10 0), .ref (a5 0), .ref (a3 0)])), (a2 0, .inr (1, [.ref (a2 1)])), (a2 1, .inl (cI, 86, .inl v2_0)), (a4 0, .inr (3, [.ref (a4 1), .int v4_1])), (a4 1, .inl (cI, 344, .inl v4_0)), (a5 0, .inr (9, [.ref (a8 0), .ref (a7 0), .ref (a6 0), .int v5_3, .int v5_4, .int v5_5, .int v5_6, .int v5_7]))]
abbrev wz_X11_moveTo : List Cond := .code yX11_moveTo cX11_moveTo 3 (some .int) :: wALL
abbrev rm_X11_moveTo : Room := { frames := 4, cells := 0, slots := 0, locals := 93 }
abbrev Q_X11_moveTo (dC : Nat → ClassId) (dI : Nat → Nat → Nat) (cI : ClassId) (a0 : Nat → Nat) (a1 : Nat → Nat) (a2 : Nat → Nat) (a3 : Nat → Nat) (a4 : Nat → Nat) (a5 : Nat → Nat) (a6 : Nat → Nat) (a7 : Nat → Nat) (a8 : Nat → Nat) (a9 : Nat → Nat) (a10 : Nat → Nat) (v5_4 : Int32) (v5_5 : Int32) (v5_6 : Int32) (v5_7 : Int32) (u : (Int32 × (Nat → Int32) × Int32 × (Nat → Int32) × Int32)) (A : Nat → Prop) : Array Value → State → Outcome → State → Prop := va_Qi (fun (r : Int32) (_ : Unit) => r = u.1) (fun _ => q_at dC dI cI A (wd_X11_moveTo cI a0 a1 a2 a3 a4 a5 a6 a7 a8 a9 a10 u.2.1 u.2.2.1 u.2.2.2.1 u.2.2.2.2 v5_4 v5_5 v5_6 v5_7)) A
set_option maxHeartbeats 4000000 in
set_option maxRecDepth 100000 in
theorem c_X11_moveTo (l : Launch) (dC : Nat → ClassId) (dI : Nat → Nat → Nat) (cI : ClassId) (sz : Nat) (a0 : Nat → Nat) (a1 : Nat → Nat) (a2 : Nat → Nat) (a3 : Nat → Nat) (a4 : Nat → Nat) (a5 : Nat → Nat) (a6 : Nat → Nat) (a7 : Nat → Nat) (a8 : Nat → Nat) (a9 : Nat → Nat) (a10 : Nat → Nat) (v2_0 : Nat → Int32) (v4_1 : Int32) (v4_0 : Nat → Int32) (v5_3 : Int32) (v5_4 : Int32) (v5_5 : Int32) (v5_6 : Int32) (v5_7 : Int32) (p1 : Int32) (p2 : Int32) (u : (Int32 × (Nat → Int32) × Int32 × (Nat → Int32) × Int32)) (hF : F_X11_moveTo v2_0 v4_1 v4_0 v5_3 p1 p2 = some (.inl u)) : Met l yX11_moveTo wz_X11_moveTo rm_X11_moveTo (va_Pc [.ref (a0 0), .int p1, .int p2] (q_pre dC dI cI (wd_X11_moveTo cI a0 a1 a2 a3 a4 a5 a6 a7 a8 a9 a10 v2_0 v4_1 v4_0 v5_3 v5_4 v5_5 v5_6 v5_7) sz)) (Q_X11_moveTo dC dI cI a0 a1 a2 a3 a4 a5 a6 a7 a8 a9 a10 v5_4 v5_5 v5_6 v5_7 u (va_A (wd_X11_moveTo cI a0 a1 a2 a3 a4 a5 a6 a7 a8 a9 a10 v2_0 v4_1 v4_0 v5_3 v5_4 v5_5 v5_6 v5_7) sz)) 0 0 (va_A (wd_X11_moveTo cI a0 a1 a2 a3 a4 a5 a6 a7 a8 a9 a10 v2_0 v4_1 v4_0 v5_3 v5_4 v5_5 v5_6 v5_7) sz) := by
  refine Met.ofW (cc := cX11_moveTo) (maxL := 3) (ret := (some .int)) (by decide) rfl ?_
  intro p e s m args below meth c s₁ B hml hv
  obtain ⟨rfl, hsz, hP, hK, hD0⟩ := hv
  have hx := B.exec
  have hb := B.bytes
  have hr := B.returns
  have hts := atoms_spec (ws := wz_X11_moveTo) B.pre
  have hta := wz_tl hts
  have hown : s.vm.findClass RX11 = some m.cls := findClass_of_methodNamed B.named
  have hlocks := B.notSynchronized
  subst hsz
  have hD := hD0.self (sz := s.heap.size)
  generalize hAe : va_A (wd_X11_moveTo cI a0 a1 a2 a3 a4 a5 a6 a7 a8 a9 a10 v2_0 v4_1 v4_0 v5_3 v5_4 v5_5 v5_6 v5_7) s.heap.size = A at hD ⊢
  have hA : ∀ q : Nat, s.heap.size ≤ q → A q := fun q h => by rw [← hAe]; exact Or.inr h
  have hS : va_S A s.heap s.heap [] := va_S.rf
  have hP : va_P (dC, dI) vwCl (wd_X11_moveTo cI a0 a1 a2 a3 a4 a5 a6 a7 a8 a9 a10 v2_0 v4_1 v4_0 v5_3 v5_4 v5_5 v5_6 v5_7) s.heap := hP
  have hl := lv_entry ([.ref (a0 0), .int p1, .int p2]) (n := 3) (Nat.le_of_ble_eq_true rfl)
  rw [lg_entry_eq]
  generalize (lg_sl ([.ref (a0 0), .int p1, .int p2]) ++ List.replicate (3 - (lg_sl ([.ref (a0 0), .int p1, .int p2])).length) Slot.unset).toArray = ls at hl ⊢
  have hl : lv_has ls 3 [(0, .ref (a0 0)), (1, .int p1), (2, .int p2)] := hl
  obtain ⟨H, hHe⟩ : ∃ H, H = s.heap := ⟨_, rfl⟩
  have hS : va_S A s.heap H [] := by rw [hHe]; exact hS
  have hP : va_P (dC, dI) vwCl (wd_X11_moveTo cI a0 a1 a2 a3 a4 a5 a6 a7 a8 a9 a10 v2_0 v4_1 v4_0 v5_3 v5_4 v5_5 v5_6 v5_7) H := by rw [hHe]; exact hP
  rw [← hHe]
  unfold F_X11_moveTo at hF
  have j32 : ∀ (v2_0 : Nat → Int32) (v4_1 : Int32) (v4_0 : Nat → Int32) (v5_3 : Int32) (x1 : Int32) (x2 : Int32) (t0 : Int32), F_X11_moveTo_j32 v2_0 v4_1 v4_0 v5_3 x1 x2 t0 = some (.inl u) → ∀ (H : Heap) (locs : List Loc) (ls : Array Slot), va_P (dC, dI) vwCl (wd_X11_moveTo cI a0 a1 a2 a3 a4 a5 a6 a7 a8 a9 a10 v2_0 v4_1 v4_0 v5_3 v5_4 v5_5 v5_6 v5_7) H → va_D A (wd_X11_moveTo cI a0 a1 a2 a3 a4 a5 a6 a7 a8 a9 a10 v2_0 v4_1 v4_0 v5_3 v5_4 v5_5 v5_6 v5_7) → va_S A s.heap H locs → lv_has ls 3 [(0, .ref (a0 0)), (1, .int x1), (2, .int x2)] → W p l e (headSpec wz_X11_moveTo rm_X11_moveTo).room s m [.ref (a0 0), .int p1, .int p2].toArray below meth c H locs 0 0 (MQ below (Q_X11_moveTo dC dI cI a0 a1 a2 a3 a4 a5 a6 a7 a8 a9 a10 v5_4 v5_5 v5_6 v5_7 u A) [.ref (a0 0), .int p1, .int p2].toArray s 0 0 A) (F0 m 32 ls [.int t0]) := by
    intro v2_0 v4_1 v4_0 v5_3 x1 x2 t0 hF H locs ls hP hD hS hl
    unfold F_X11_moveTo_j32 at hF
    refine obx_elim hF (fun x_2 hx_2 hF => ?_) (fun u_1 hu_1 hF => ?_)
    · exact absurd hF no_rl
    have hPc := hP.sub (ws' := ([] : va_W)) [] rfl
    have hDc := hD.sub (ws' := ([] : va_W)) [] rfl rfl
    refine q_callv (wc := ([] : va_W)) (w1 := ([] : va_W)) (ws' := (wd_X11_moveTo cI a0 a1 a2 a3 a4 a5 a6 a7 a8 a9 a10 v2_0 v4_1 v4_0 v5_3 v5_4 v5_5 v5_6 v5_7)) hP hD hS hA [] [0, 1, 2, 3, 4, 5] [0, 1, 2, 3, 4, 5] rfl rfl rfl (by decide) rfl rfl (va_runS (As := [.int t0]) (rest := []) ⟨hx, hb, hml, hown, hta⟩ (c_X11_checkState l dC dI cI H.size t0 u_1 hu_1) (va_cwS 1 hta (ga_S mA120 mA121 mA108 mA122) rfl rfl rfl (by decide +kernel) ⟨Nat.le_of_ble_eq_true rfl, Nat.le_of_ble_eq_true rfl⟩) ⟨q_fb, q_ps hPc hK hDc⟩ rfl rfl hl.1 rfl (lv_room (Nat.le_of_ble_eq_true rfl)) dX11_moveTo_32 ⟨Nat.zero_le _, Nat.zero_le _⟩) (fun H locs hP hD hS => ?_)
    refine lv_aload_n hx hb dX11_moveTo_35 rfl (lv_at hl 0 rfl) ?_
    obtain ⟨u_3, hu_3, hF⟩ := obd_some hF
    have hPc := hP.sub (ws' := (wd_X11_saveState cI a0 a1 a2 a3 a4 a5 a6 a7 a8 a9 a10 v2_0 v4_1 v4_0 v5_3 v5_4 v5_5 v5_6 v5_7)) [0, 1, 2, 3, 4, 5] rfl
    have hDc := hD.sub (ws' := (wd_X11_saveState cI a0 a1 a2 a3 a4 a5 a6 a7 a8 a9 a10 v2_0 v4_1 v4_0 v5_3 v5_4 v5_5 v5_6 v5_7)) [0, 1, 2, 3, 4, 5] rfl rfl
    refine q_callv (wc := (wd_X11_saveState cI a0 a1 a2 a3 a4 a5 a6 a7 a8 a9 a10 v2_0 v4_1 v4_0 v5_3 v5_4 v5_5 v5_6 v5_7)) (w1 := (wd_X11_saveState cI a0 a1 a2 a3 a4 a5 a6 a7 a8 a9 a10 v2_0 u_3.1 u_3.2.1 u_3.2.2 v5_4 v5_5 v5_6 v5_7)) (ws' := (wd_X11_moveTo cI a0 a1 a2 a3 a4 a5 a6 a7 a8 a9 a10 v2_0 u_3.1 u_3.2.1 u_3.2.2 v5_4 v5_5 v5_6 v5_7)) hP hD hS hA [0, 1, 2, 3, 4, 5] [] [0, 1, 2, 3, 4, 5] rfl rfl rfl (by decide) rfl rfl (va_runV (As := []) (rest := []) ⟨hx, hb, hml, hown, hta⟩ (c_X11_saveState l dC dI cI H.size a0 a1 a2 a3 a4 a5 a6 a7 a8 a9 a10 v2_0 v4_1 v4_0 v5_3 v5_4 v5_5 v5_6 v5_7 u_3 hu_3) (cwV 0 hta (ga_V mA125 mA126 mA127 mA108 mA128) rfl rfl rfl (by decide +kernel) ⟨Nat.le_of_ble_eq_true rfl, Nat.le_of_ble_eq_true rfl⟩) ⟨q_fb, va_recv hK hP (ci := 10) (q0 := 0) rfl rfl, q_ps hPc hK hDc⟩ rfl rfl hl.1 rfl (lv_room (Nat.le_of_ble_eq_true rfl)) dX11_moveTo_36 ⟨Nat.zero_le _, Nat.zero_le _⟩) (fun H locs hP hD hS => ?_)
    refine lv_aload_n hx hb dX11_moveTo_39 rfl (lv_at hl 0 rfl) ?_
    refine va_get (D := (dC, dI)) (ci := 10) (v := .ref (a2 0)) (C := RX11) (T := TX11) (N := 7) hx hb hta uw_X11 hown hK hP 0 rfl rfl 0 (by decide) (hta _ mA7) (fun _ h9 => h9) rfl dX11_moveTo_40 ?_
    refine lv_iload_n hx hb dX11_moveTo_43 rfl (lv_at hl 1 rfl) ?_
    refine lv_iload_n hx hb dX11_moveTo_44 rfl (lv_at hl 2 rfl) ?_
    obtain ⟨u_4, hu_4, hF⟩ := obd_some hF
    have hPc := hP.sub (ws' := (wd_X1_startSubpath cI a2 v2_0)) [1, 2] rfl
    have hDc := hD.sub (ws' := (wd_X1_startSubpath cI a2 v2_0)) [1, 2] rfl rfl
    refine q_callv (wc := (wd_X1_startSubpath cI a2 v2_0)) (w1 := (wd_X1_startSubpath cI a2 u_4)) (ws' := (wd_X11_moveTo cI a0 a1 a2 a3 a4 a5 a6 a7 a8 a9 a10 u_4 u_3.1 u_3.2.1 u_3.2.2 v5_4 v5_5 v5_6 v5_7)) hP hD hS hA [1, 2] [0, 3, 4, 5] [0, 4, 5, 1, 2, 3] rfl rfl rfl (by decide) rfl rfl (va_runV (As := [.int x1, .int x2]) (rest := []) ⟨hx, hb, hml, hown, hta⟩ (c_X1_startSubpath l dC dI cI H.size a2 v2_0 x1 x2 u_4 hu_4) (cwV 2 hta (ga_V mA148 mA149 mA150 mA6 mA151) rfl rfl rfl (by decide +kernel) ⟨Nat.le_of_ble_eq_true rfl, Nat.le_of_ble_eq_true rfl⟩) ⟨q_fb, va_recv hK hP (ci := 1) (q0 := 1) rfl rfl, q_ps hPc hK hDc⟩ rfl rfl hl.1 rfl (lv_room (Nat.le_of_ble_eq_true rfl)) dX11_moveTo_45 ⟨Nat.zero_le _, Nat.zero_le _⟩) (fun H locs hP hD hS => ?_)
    refine lv_aload_n hx hb dX11_moveTo_48 rfl (lv_at hl 0 rfl) ?_
    refine va_get (D := (dC, dI)) (ci := 10) (v := .ref (a2 0)) (C := RX11) (T := TX11) (N := 7) hx hb hta uw_X11 hown hK hP 0 rfl rfl 0 (by decide) (hta _ mA7) (fun _ h9 => h9) rfl dX11_moveTo_49 ?_
    obtain ⟨u_5, hu_5, hF⟩ := obd_some hF
    have hPc := hP.sub (ws' := (wd_X1_lastSubpath cI a2 u_4)) [1, 2] rfl
    have hDc := hD.sub (ws' := (wd_X1_lastSubpath cI a2 u_4)) [1, 2] rfl rfl
    refine q_calli (wc := (wd_X1_lastSubpath cI a2 u_4)) (w1 := (wd_X1_lastSubpath cI a2 u_4)) (ws' := (wd_X11_moveTo cI a0 a1 a2 a3 a4 a5 a6 a7 a8 a9 a10 u_4 u_3.1 u_3.2.1 u_3.2.2 v5_4 v5_5 v5_6 v5_7)) hP hD hS hA [1, 2] [0, 3, 4, 5] [0, 4, 5, 1, 2, 3] rfl rfl rfl (by decide) rfl rfl (va_runV (As := []) (rest := []) ⟨hx, hb, hml, hown, hta⟩ (c_X1_lastSubpath l dC dI cI H.size a2 u_4 u_5 hu_5) (cwV 0 hta (ga_V mA179 mA165 mA166 mA6 mA167) rfl rfl rfl (by decide +kernel) ⟨Nat.le_of_ble_eq_true rfl, Nat.le_of_ble_eq_true rfl⟩) ⟨q_fb, va_recv hK hP (ci := 1) (q0 := 1) rfl rfl, q_ps hPc hK hDc⟩ rfl rfl hl.1 rfl (lv_room (Nat.le_of_ble_eq_true rfl)) dX11_moveTo_52 ⟨Nat.zero_le _, Nat.zero_le _⟩) (fun H locs hP hD hS => ?_)
    obtain rfl := Sum.inl.inj (Option.some.inj hF)
    exact W.iret (v := u_5) hx hb hr (fun t ht hW => ⟨⟨u_5, (), rfl, rfl, by rw [ht]; exact hP, va_K.moved hW.alike hK, hD⟩, hS.F ht⟩) hS.2.2 dX11_moveTo_55
  refine lv_iload_n hx hb dX11_moveTo_0 rfl (lv_at hl 1 rfl) ?_
  refine lv_bipush (v := (-100)) hx hb dX11_moveTo_1 (by decide) ?_
  refine lv_bipush (v := 100) hx hb dX11_moveTo_3 (by decide) ?_
  refine obx_elim hF (fun x_7 hx_7 hF => ?_) (fun u_6 hu_6 hF => ?_)
  · exact absurd hF no_rl
  have hPc := hP.sub (ws' := ([] : va_W)) [] rfl
  have hDc := hD.sub (ws' := ([] : va_W)) [] rfl rfl
  refine q_callv (wc := ([] : va_W)) (w1 := ([] : va_W)) (ws' := (wd_X11_moveTo cI a0 a1 a2 a3 a4 a5 a6 a7 a8 a9 a10 v2_0 v4_1 v4_0 v5_3 v5_4 v5_5 v5_6 v5_7)) hP hD hS hA [] [0, 1, 2, 3, 4, 5] [0, 1, 2, 3, 4, 5] rfl rfl rfl (by decide) rfl rfl (va_runS (As := [.int p1, .int (-100), .int 100]) (rest := []) ⟨hx, hb, hml, hown, hta⟩ (c_X11_checkRange l dC dI cI H.size p1 (-100) 100 u_6 hu_6) (va_cwS 3 hta (ga_S mA106 mA107 mA108 mA109) rfl rfl rfl (by decide +kernel) ⟨Nat.le_of_ble_eq_true rfl, Nat.le_of_ble_eq_true rfl⟩) ⟨q_fb, q_ps hPc hK hDc⟩ rfl rfl hl.1 rfl (lv_room (Nat.le_of_ble_eq_true rfl)) dX11_moveTo_5 ⟨Nat.zero_le _, Nat.zero_le _⟩) (fun H locs hP hD hS => ?_)
  refine lv_iload_n hx hb dX11_moveTo_8 rfl (lv_at hl 2 rfl) ?_
  refine lv_bipush (v := (-100)) hx hb dX11_moveTo_9 (by decide) ?_
  refine lv_bipush (v := 100) hx hb dX11_moveTo_11 (by decide) ?_
  refine obx_elim hF (fun x_9 hx_9 hF => ?_) (fun u_8 hu_8 hF => ?_)
  · exact absurd hF no_rl
  have hPc := hP.sub (ws' := ([] : va_W)) [] rfl
  have hDc := hD.sub (ws' := ([] : va_W)) [] rfl rfl
  refine q_callv (wc := ([] : va_W)) (w1 := ([] : va_W)) (ws' := (wd_X11_moveTo cI a0 a1 a2 a3 a4 a5 a6 a7 a8 a9 a10 v2_0 v4_1 v4_0 v5_3 v5_4 v5_5 v5_6 v5_7)) hP hD hS hA [] [0, 1, 2, 3, 4, 5] [0, 1, 2, 3, 4, 5] rfl rfl rfl (by decide) rfl rfl (va_runS (As := [.int p2, .int (-100), .int 100]) (rest := []) ⟨hx, hb, hml, hown, hta⟩ (c_X11_checkRange l dC dI cI H.size p2 (-100) 100 u_8 hu_8) (va_cwS 3 hta (ga_S mA106 mA107 mA108 mA109) rfl rfl rfl (by decide +kernel) ⟨Nat.le_of_ble_eq_true rfl, Nat.le_of_ble_eq_true rfl⟩) ⟨q_fb, q_ps hPc hK hDc⟩ rfl rfl hl.1 rfl (lv_room (Nat.le_of_ble_eq_true rfl)) dX11_moveTo_13 ⟨Nat.zero_le _, Nat.zero_le _⟩) (fun H locs hP hD hS => ?_)
  refine lv_aload_n hx hb dX11_moveTo_16 rfl (lv_at hl 0 rfl) ?_
  refine va_get (D := (dC, dI)) (ci := 10) (v := .ref (a2 0)) (C := RX11) (T := TX11) (N := 7) hx hb hta uw_X11 hown hK hP 0 rfl rfl 0 (by decide) (hta _ mA7) (fun _ h9 => h9) rfl dX11_moveTo_17 ?_
  obtain ⟨u_10, hu_10, hF⟩ := obd_some hF
  have hPc := hP.sub (ws' := (wd_X1_subpathCount cI a2 v2_0)) [1, 2] rfl
  have hDc := hD.sub (ws' := (wd_X1_subpathCount cI a2 v2_0)) [1, 2] rfl rfl
  refine q_calli (wc := (wd_X1_subpathCount cI a2 v2_0)) (w1 := (wd_X1_subpathCount cI a2 v2_0)) (ws' := (wd_X11_moveTo cI a0 a1 a2 a3 a4 a5 a6 a7 a8 a9 a10 v2_0 v4_1 v4_0 v5_3 v5_4 v5_5 v5_6 v5_7)) hP hD hS hA [1, 2] [0, 3, 4, 5] [0, 4, 5, 1, 2, 3] rfl rfl rfl (by decide) rfl rfl (va_runV (As := []) (rest := []) ⟨hx, hb, hml, hown, hta⟩ (c_X1_subpathCount l dC dI cI H.size a2 v2_0 u_10 hu_10) (cwV 0 hta (ga_V mA112 mA113 mA114 mA6 mA115) rfl rfl rfl (by decide +kernel) ⟨Nat.le_of_ble_eq_true rfl, Nat.le_of_ble_eq_true rfl⟩) ⟨q_fb, va_recv hK hP (ci := 1) (q0 := 1) rfl rfl, q_ps hPc hK hDc⟩ rfl rfl hl.1 rfl (lv_room (Nat.le_of_ble_eq_true rfl)) dX11_moveTo_20 ⟨Nat.zero_le _, Nat.zero_le _⟩) (fun H locs hP hD hS => ?_)
  refine lv_iconst (v := 4) hx hb dX11_moveTo_23 (by decide) ?_
  refine lv_icmp_ge (tgt := 31) hx hb dX11_moveTo_24 (by decide) (fun c_11 => ?_) (fun c_11 => ?_)
  · have hF := it_t hF c_11
    refine lv_iconst (v := 0) hx hb dX11_moveTo_31 (by decide) ?_
    exact j32 v2_0 v4_1 v4_0 v5_3 p1 p2 0 hF _ _ _ hP hD hS (lv_sub hl [0, 1, 2] rfl)
  · have hF := it_f hF c_11
    refine lv_iconst (v := 1) hx hb dX11_moveTo_27 (by decide) ?_
    refine lv_goto (tgt := 32) hx hb dX11_moveTo_28 (by decide) ?_
    exact j32 v2_0 v4_1 v4_0 v5_3 p1 p2 1 hF _ _ _ hP hD hS (lv_sub hl [0, 1, 2] rfl)
abbrev rmx_X11_moveTo : Room := { frames := 7, cells := 1, slots := 6, locals := 104 }
abbrev XC_X11_moveTo (dC : Nat → ClassId) (dI : Nat → Nat → Nat) (cI : ClassId) (a0 : Nat → Nat) (a1 : Nat → Nat) (a2 : Nat → Nat) (a3 : Nat → Nat) (a4 : Nat → Nat) (a5 : Nat → Nat) (a6 : Nat → Nat) (a7 : Nat → Nat) (a8 : Nat → Nat) (a9 : Nat → Nat) (a10 : Nat → Nat) (v5_4 : Int32) (v5_5 : Int32) (v5_6 : Int32) (v5_7 : Int32) (x : (Nat × (Nat → Int32) × Int32 × (Nat → Int32) × Int32)) (A : Nat → Prop) : String → State → State → Prop := vx_X (fun (_ : Unit) => True) (fun E _ t => E = exN x.1 ∧ q_at dC dI cI A (wd_X11_moveTo cI a0 a1 a2 a3 a4 a5 a6 a7 a8 a9 a10 x.2.1 x.2.2.1 x.2.2.2.1 x.2.2.2.2 v5_4 v5_5 v5_6 v5_7) t) A
set_option maxHeartbeats 4000000 in
set_option maxRecDepth 100000 in
theorem c_X11_moveTo_x (l : Launch) (hlt : l.stackTraces = false) (S : Nat → Nat) (dC : Nat → ClassId) (dI : Nat → Nat → Nat) (cI : ClassId) (sz : Nat) (a0 : Nat → Nat) (a1 : Nat → Nat) (a2 : Nat → Nat) (a3 : Nat → Nat) (a4 : Nat → Nat) (a5 : Nat → Nat) (a6 : Nat → Nat) (a7 : Nat → Nat) (a8 : Nat → Nat) (a9 : Nat → Nat) (a10 : Nat → Nat) (v2_0 : Nat → Int32) (v4_1 : Int32) (v4_0 : Nat → Int32) (v5_3 : Int32) (v5_4 : Int32) (v5_5 : Int32) (v5_6 : Int32) (v5_7 : Int32) (p1 : Int32) (p2 : Int32) (x : (Nat × (Nat → Int32) × Int32 × (Nat → Int32) × Int32)) (hF : F_X11_moveTo v2_0 v4_1 v4_0 v5_3 p1 p2 = some (.inr x)) : vx_Met l yX11_moveTo wz_X11_moveTo rmx_X11_moveTo (va_Pc [.ref (a0 0), .int p1, .int p2] (qx_pre S dC dI cI (wd_X11_moveTo cI a0 a1 a2 a3 a4 a5 a6 a7 a8 a9 a10 v2_0 v4_1 v4_0 v5_3 v5_4 v5_5 v5_6 v5_7) sz)) (va_Qv (fun (_ : Unit) => False) (fun _ _ => True) (va_A (wd_X11_moveTo cI a0 a1 a2 a3 a4 a5 a6 a7 a8 a9 a10 v2_0 v4_1 v4_0 v5_3 v5_4 v5_5 v5_6 v5_7) sz)) (XC_X11_moveTo dC dI cI a0 a1 a2 a3 a4 a5 a6 a7 a8 a9 a10 v5_4 v5_5 v5_6 v5_7 x (va_A (wd_X11_moveTo cI a0 a1 a2 a3 a4 a5 a6 a7 a8 a9 a10 v2_0 v4_1 v4_0 v5_3 v5_4 v5_5 v5_6 v5_7) sz)) 1 6 (va_A (wd_X11_moveTo cI a0 a1 a2 a3 a4 a5 a6 a7 a8 a9 a10 v2_0 v4_1 v4_0 v5_3 v5_4 v5_5 v5_6 v5_7) sz) := by
  refine vx_ofW (cc := cX11_moveTo) (maxL := 3) (ret := (some .int)) (by decide) rfl ?_
  intro p e s m args below meth c s₁ B hml hxt hv
  obtain ⟨rfl, ⟨hsz, hP, hK, hD0⟩, hE⟩ := hv
  have hx := B.exec
  have hb := B.bytes
  have hr := B.returns
  have hts := atoms_spec (ws := wz_X11_moveTo) B.pre
  have hta := wz_tl hts
  have hown : s.vm.findClass RX11 = some m.cls := findClass_of_methodNamed B.named
  have hlocks := B.notSynchronized
  subst hsz
  have hD := hD0.self (sz := s.heap.size)
  generalize hAe : va_A (wd_X11_moveTo cI a0 a1 a2 a3 a4 a5 a6 a7 a8 a9 a10 v2_0 v4_1 v4_0 v5_3 v5_4 v5_5 v5_6 v5_7) s.heap.size = A at hD hE ⊢
  have hA : ∀ q : Nat, s.heap.size ≤ q → A q := fun q h => by rw [← hAe]; exact Or.inr h
  have hS : va_S A s.heap s.heap [] := va_S.rf
  have hP : va_P (dC, dI) vwCl (wd_X11_moveTo cI a0 a1 a2 a3 a4 a5 a6 a7 a8 a9 a10 v2_0 v4_1 v4_0 v5_3 v5_4 v5_5 v5_6 v5_7) s.heap := hP
  have hl := lv_entry ([.ref (a0 0), .int p1, .int p2]) (n := 3) (Nat.le_of_ble_eq_true rfl)
  rw [lg_entry_eq]
  generalize (lg_sl ([.ref (a0 0), .int p1, .int p2]) ++ List.replicate (3 - (lg_sl ([.ref (a0 0), .int p1, .int p2])).length) Slot.unset).toArray = ls at hl ⊢
  have hl : lv_has ls 3 [(0, .ref (a0 0)), (1, .int p1), (2, .int p2)] := hl
  obtain ⟨H, hHe⟩ : ∃ H, H = s.heap := ⟨_, rfl⟩
  have hS : va_S A s.heap H [] := by rw [hHe]; exact hS
  have hP : va_P (dC, dI) vwCl (wd_X11_moveTo cI a0 a1 a2 a3 a4 a5 a6 a7 a8 a9 a10 v2_0 v4_1 v4_0 v5_3 v5_4 v5_5 v5_6 v5_7) H := by rw [hHe]; exact hP
  rw [← hHe]
  unfold F_X11_moveTo at hF
  have j32 : ∀ (v2_0 : Nat → Int32) (v4_1 : Int32) (v4_0 : Nat → Int32) (v5_3 : Int32) (x1 : Int32) (x2 : Int32) (t0 : Int32), F_X11_moveTo_j32 v2_0 v4_1 v4_0 v5_3 x1 x2 t0 = some (.inr x) → ∀ (H : Heap) (locs : List Loc) (ls : Array Slot), va_P (dC, dI) vwCl (wd_X11_moveTo cI a0 a1 a2 a3 a4 a5 a6 a7 a8 a9 a10 v2_0 v4_1 v4_0 v5_3 v5_4 v5_5 v5_6 v5_7) H → va_D A (wd_X11_moveTo cI a0 a1 a2 a3 a4 a5 a6 a7 a8 a9 a10 v2_0 v4_1 v4_0 v5_3 v5_4 v5_5 v5_6 v5_7) → va_S A s.heap H locs → lv_has ls 3 [(0, .ref (a0 0)), (1, .int x1), (2, .int x2)] → W p l e (headSpec wz_X11_moveTo rmx_X11_moveTo).room s m [.ref (a0 0), .int p1, .int p2].toArray below meth c H locs 0 0 (vx_MQ below (va_Qv (fun (_ : Unit) => False) (fun _ _ => True) A) (XC_X11_moveTo dC dI cI a0 a1 a2 a3 a4 a5 a6 a7 a8 a9 a10 v5_4 v5_5 v5_6 v5_7 x A) [.ref (a0 0), .int p1, .int p2].toArray s 1 6 A) (F0 m 32 ls [.int t0]) := by
    intro v2_0 v4_1 v4_0 v5_3 x1 x2 t0 hF H locs ls hP hD hS hl
    unfold F_X11_moveTo_j32 at hF
    refine obx_elim hF (fun x_2 hx_2 hF => ?_) (fun u_1 hu_1 hF => ?_)
    · obtain rfl := Sum.inr.inj (Option.some.inj hF)
      have hPc := hP.sub (ws' := ([] : va_W)) [] rfl
      have hDc := hD.sub (ws' := ([] : va_W)) [] rfl rfl
      refine qx_thr (kd := x_2) hP hD hK hS hA hxt hlocks (vx_runS (As := [.int t0]) (rest := []) ⟨hx, hb, hml, hown, hta⟩ (c_X11_checkState_x l hlt S dC dI cI H.size t0 x_2 hx_2) (va_cwS 1 hta (ga_S mA120 mA121 mA108 mA122) rfl rfl rfl (by decide +kernel) ⟨Nat.le_of_ble_eq_true rfl, Nat.le_of_ble_eq_true rfl⟩) ⟨qx_fb, qx_ps hPc hK hDc hE hS (va_free (wc := ([] : va_W)) hD hS hA [] rfl)⟩ rfl rfl hl.1 rfl (lv_room (Nat.le_of_ble_eq_true rfl)) dX11_moveTo_32 ⟨Nat.le_of_ble_eq_true rfl, Nat.le_of_ble_eq_true rfl⟩) (fun t hP hK hF9 => ⟨(), trivial, ⟨rfl, hP, hK, hD⟩, hF9⟩) (Nat.le_of_ble_eq_true rfl) (Nat.le_of_ble_eq_true rfl)
    have hPc := hP.sub (ws' := ([] : va_W)) [] rfl
    have hDc := hD.sub (ws' := ([] : va_W)) [] rfl rfl
    refine q_callv (wc := ([] : va_W)) (w1 := ([] : va_W)) (ws' := (wd_X11_moveTo cI a0 a1 a2 a3 a4 a5 a6 a7 a8 a9 a10 v2_0 v4_1 v4_0 v5_3 v5_4 v5_5 v5_6 v5_7)) hP hD hS hA [] [0, 1, 2, 3, 4, 5] [0, 1, 2, 3, 4, 5] rfl rfl rfl (by decide) rfl rfl (va_runS (As := [.int t0]) (rest := []) ⟨hx, hb, hml, hown, hta⟩ (c_X11_checkState l dC dI cI H.size t0 u_1 hu_1) (va_cwS 1 hta (ga_S mA120 mA121 mA108 mA122) rfl rfl rfl (by decide +kernel) ⟨Nat.le_of_ble_eq_true rfl, Nat.le_of_ble_eq_true rfl⟩) ⟨q_fb, q_ps hPc hK hDc⟩ rfl rfl hl.1 rfl (lv_room (Nat.le_of_ble_eq_true rfl)) dX11_moveTo_32 ⟨Nat.zero_le _, Nat.zero_le _⟩) (fun H locs hP hD hS => ?_)
    refine lv_aload_n hx hb dX11_moveTo_35 rfl (lv_at hl 0 rfl) ?_
    obtain ⟨u_3, hu_3, hF⟩ := obd_some hF
    have hPc := hP.sub (ws' := (wd_X11_saveState cI a0 a1 a2 a3 a4 a5 a6 a7 a8 a9 a10 v2_0 v4_1 v4_0 v5_3 v5_4 v5_5 v5_6 v5_7)) [0, 1, 2, 3, 4, 5] rfl
    have hDc := hD.sub (ws' := (wd_X11_saveState cI a0 a1 a2 a3 a4 a5 a6 a7 a8 a9 a10 v2_0 v4_1 v4_0 v5_3 v5_4 v5_5 v5_6 v5_7)) [0, 1, 2, 3, 4, 5] rfl rfl
    refine q_callv (wc := (wd_X11_saveState cI a0 a1 a2 a3 a4 a5 a6 a7 a8 a9 a10 v2_0 v4_1 v4_0 v5_3 v5_4 v5_5 v5_6 v5_7)) (w1 := (wd_X11_saveState cI a0 a1 a2 a3 a4 a5 a6 a7 a8 a9 a10 v2_0 u_3.1 u_3.2.1 u_3.2.2 v5_4 v5_5 v5_6 v5_7)) (ws' := (wd_X11_moveTo cI a0 a1 a2 a3 a4 a5 a6 a7 a8 a9 a10 v2_0 u_3.1 u_3.2.1 u_3.2.2 v5_4 v5_5 v5_6 v5_7)) hP hD hS hA [0, 1, 2, 3, 4, 5] [] [0, 1, 2, 3, 4, 5] rfl rfl rfl (by decide) rfl rfl (va_runV (As := []) (rest := []) ⟨hx, hb, hml, hown, hta⟩ (c_X11_saveState l dC dI cI H.size a0 a1 a2 a3 a4 a5 a6 a7 a8 a9 a10 v2_0 v4_1 v4_0 v5_3 v5_4 v5_5 v5_6 v5_7 u_3 hu_3) (cwV 0 hta (ga_V mA125 mA126 mA127 mA108 mA128) rfl rfl rfl (by decide +kernel) ⟨Nat.le_of_ble_eq_true rfl, Nat.le_of_ble_eq_true rfl⟩) ⟨q_fb, va_recv hK hP (ci := 10) (q0 := 0) rfl rfl, q_ps hPc hK hDc⟩ rfl rfl hl.1 rfl (lv_room (Nat.le_of_ble_eq_true rfl)) dX11_moveTo_36 ⟨Nat.zero_le _, Nat.zero_le _⟩) (fun H locs hP hD hS => ?_)
    refine lv_aload_n hx hb dX11_moveTo_39 rfl (lv_at hl 0 rfl) ?_
    refine va_get (D := (dC, dI)) (ci := 10) (v := .ref (a2 0)) (C := RX11) (T := TX11) (N := 7) hx hb hta uw_X11 hown hK hP 0 rfl rfl 0 (by decide) (hta _ mA7) (fun _ h9 => h9) rfl dX11_moveTo_40 ?_
    refine lv_iload_n hx hb dX11_moveTo_43 rfl (lv_at hl 1 rfl) ?_
    refine lv_iload_n hx hb dX11_moveTo_44 rfl (lv_at hl 2 rfl) ?_
    obtain ⟨u_4, hu_4, hF⟩ := obd_some hF
    have hPc := hP.sub (ws' := (wd_X1_startSubpath cI a2 v2_0)) [1, 2] rfl
    have hDc := hD.sub (ws' := (wd_X1_startSubpath cI a2 v2_0)) [1, 2] rfl rfl
    refine q_callv (wc := (wd_X1_startSubpath cI a2 v2_0)) (w1 := (wd_X1_startSubpath cI a2 u_4)) (ws' := (wd_X11_moveTo cI a0 a1 a2 a3 a4 a5 a6 a7 a8 a9 a10 u_4 u_3.1 u_3.2.1 u_3.2.2 v5_4 v5_5 v5_6 v5_7)) hP hD hS hA [1, 2] [0, 3, 4, 5] [0, 4, 5, 1, 2, 3] rfl rfl rfl (by decide) rfl rfl (va_runV (As := [.int x1, .int x2]) (rest := []) ⟨hx, hb, hml, hown, hta⟩ (c_X1_startSubpath l dC dI cI H.size a2 v2_0 x1 x2 u_4 hu_4) (cwV 2 hta (ga_V mA148 mA149 mA150 mA6 mA151) rfl rfl rfl (by decide +kernel) ⟨Nat.le_of_ble_eq_true rfl, Nat.le_of_ble_eq_true rfl⟩) ⟨q_fb, va_recv hK hP (ci := 1) (q0 := 1) rfl rfl, q_ps hPc hK hDc⟩ rfl rfl hl.1 rfl (lv_room (Nat.le_of_ble_eq_true rfl)) dX11_moveTo_45 ⟨Nat.zero_le _, Nat.zero_le _⟩) (fun H locs hP hD hS => ?_)
    refine lv_aload_n hx hb dX11_moveTo_48 rfl (lv_at hl 0 rfl) ?_
    refine va_get (D := (dC, dI)) (ci := 10) (v := .ref (a2 0)) (C := RX11) (T := TX11) (N := 7) hx hb hta uw_X11 hown hK hP 0 rfl rfl 0 (by decide) (hta _ mA7) (fun _ h9 => h9) rfl dX11_moveTo_49 ?_
    obtain ⟨u_5, hu_5, hF⟩ := obd_some hF
    have hPc := hP.sub (ws' := (wd_X1_lastSubpath cI a2 u_4)) [1, 2] rfl
    have hDc := hD.sub (ws' := (wd_X1_lastSubpath cI a2 u_4)) [1, 2] rfl rfl
    refine q_calli (wc := (wd_X1_lastSubpath cI a2 u_4)) (w1 := (wd_X1_lastSubpath cI a2 u_4)) (ws' := (wd_X11_moveTo cI a0 a1 a2 a3 a4 a5 a6 a7 a8 a9 a10 u_4 u_3.1 u_3.2.1 u_3.2.2 v5_4 v5_5 v5_6 v5_7)) hP hD hS hA [1, 2] [0, 3, 4, 5] [0, 4, 5, 1, 2, 3] rfl rfl rfl (by decide) rfl rfl (va_runV (As := []) (rest := []) ⟨hx, hb, hml, hown, hta⟩ (c_X1_lastSubpath l dC dI cI H.size a2 u_4 u_5 hu_5) (cwV 0 hta (ga_V mA179 mA165 mA166 mA6 mA167) rfl rfl rfl (by decide +kernel) ⟨Nat.le_of_ble_eq_true rfl, Nat.le_of_ble_eq_true rfl⟩) ⟨q_fb, va_recv hK hP (ci := 1) (q0 := 1) rfl rfl, q_ps hPc hK hDc⟩ rfl rfl hl.1 rfl (lv_room (Nat.le_of_ble_eq_true rfl)) dX11_moveTo_52 ⟨Nat.zero_le _, Nat.zero_le _⟩) (fun H locs hP hD hS => ?_)
    exact absurd hF no_lr
  refine lv_iload_n hx hb dX11_moveTo_0 rfl (lv_at hl 1 rfl) ?_
  refine lv_bipush (v := (-100)) hx hb dX11_moveTo_1 (by decide) ?_
  refine lv_bipush (v := 100) hx hb dX11_moveTo_3 (by decide) ?_
  refine obx_elim hF (fun x_7 hx_7 hF => ?_) (fun u_6 hu_6 hF => ?_)
  · obtain rfl := Sum.inr.inj (Option.some.inj hF)
    have hPc := hP.sub (ws' := ([] : va_W)) [] rfl
    have hDc := hD.sub (ws' := ([] : va_W)) [] rfl rfl
    refine qx_thr (kd := x_7) hP hD hK hS hA hxt hlocks (vx_runS (As := [.int p1, .int (-100), .int 100]) (rest := []) ⟨hx, hb, hml, hown, hta⟩ (c_X11_checkRange_x l hlt S dC dI cI H.size p1 (-100) 100 x_7 hx_7) (va_cwS 3 hta (ga_S mA106 mA107 mA108 mA109) rfl rfl rfl (by decide +kernel) ⟨Nat.le_of_ble_eq_true rfl, Nat.le_of_ble_eq_true rfl⟩) ⟨qx_fb, qx_ps hPc hK hDc hE hS (va_free (wc := ([] : va_W)) hD hS hA [] rfl)⟩ rfl rfl hl.1 rfl (lv_room (Nat.le_of_ble_eq_true rfl)) dX11_moveTo_5 ⟨Nat.le_of_ble_eq_true rfl, Nat.le_of_ble_eq_true rfl⟩) (fun t hP hK hF9 => ⟨(), trivial, ⟨rfl, hP, hK, hD⟩, hF9⟩) (Nat.le_of_ble_eq_true rfl) (Nat.le_of_ble_eq_true rfl)
  have hPc := hP.sub (ws' := ([] : va_W)) [] rfl
  have hDc := hD.sub (ws' := ([] : va_W)) [] rfl rfl
  refine q_callv (wc := ([] : va_W)) (w1 := ([] : va_W)) (ws' := (wd_X11_moveTo cI a0 a1 a2 a3 a4 a5 a6 a7 a8 a9 a10 v2_0 v4_1 v4_0 v5_3 v5_4 v5_5 v5_6 v5_7)) hP hD hS hA [] [0, 1, 2, 3, 4, 5] [0, 1, 2, 3, 4, 5] rfl rfl rfl (by decide) rfl rfl (va_runS (As := [.int p1, .int (-100), .int 100]) (rest := []) ⟨hx, hb, hml, hown, hta⟩ (c_X11_checkRange l dC dI cI H.size p1 (-100) 100 u_6 hu_6) (va_cwS 3 hta (ga_S mA106 mA107 mA108 mA109) rfl rfl rfl (by decide +kernel) ⟨Nat.le_of_ble_eq_true rfl, Nat.le_of_ble_eq_true rfl⟩) ⟨q_fb, q_ps hPc hK hDc⟩ rfl rfl hl.1 rfl (lv_room (Nat.le_of_ble_eq_true rfl)) dX11_moveTo_5 ⟨Nat.zero_le _, Nat.zero_le _⟩) (fun H locs hP hD hS => ?_)
  refine lv_iload_n hx hb dX11_moveTo_8 rfl (lv_at hl 2 rfl) ?_
  refine lv_bipush (v := (-100)) hx hb dX11_moveTo_9 (by decide) ?_
  refine lv_bipush (v := 100) hx hb dX11_moveTo_11 (by decide) ?_
  refine obx_elim hF (fun x_9 hx_9 hF => ?_) (fun u_8 hu_8 hF => ?_)
  · obtain rfl := Sum.inr.inj (Option.some.inj hF)
    have hPc := hP.sub (ws' := ([] : va_W)) [] rfl
    have hDc := hD.sub (ws' := ([] : va_W)) [] rfl rfl
    refine qx_thr (kd := x_9) hP hD hK hS hA hxt hlocks (vx_runS (As := [.int p2, .int (-100), .int 100]) (rest := []) ⟨hx, hb, hml, hown, hta⟩ (c_X11_checkRange_x l hlt S dC dI cI H.size p2 (-100) 100 x_9 hx_9) (va_cwS 3 hta (ga_S mA106 mA107 mA108 mA109) rfl rfl rfl (by decide +kernel) ⟨Nat.le_of_ble_eq_true rfl, Nat.le_of_ble_eq_true rfl⟩) ⟨qx_fb, qx_ps hPc hK hDc hE hS (va_free (wc := ([] : va_W)) hD hS hA [] rfl)⟩ rfl rfl hl.1 rfl (lv_room (Nat.le_of_ble_eq_true rfl)) dX11_moveTo_13 ⟨Nat.le_of_ble_eq_true rfl, Nat.le_of_ble_eq_true rfl⟩) (fun t hP hK hF9 => ⟨(), trivial, ⟨rfl, hP, hK, hD⟩, hF9⟩) (Nat.le_of_ble_eq_true rfl) (Nat.le_of_ble_eq_true rfl)
  have hPc := hP.sub (ws' := ([] : va_W)) [] rfl
  have hDc := hD.sub (ws' := ([] : va_W)) [] rfl rfl
  refine q_callv (wc := ([] : va_W)) (w1 := ([] : va_W)) (ws' := (wd_X11_moveTo cI a0 a1 a2 a3 a4 a5 a6 a7 a8 a9 a10 v2_0 v4_1 v4_0 v5_3 v5_4 v5_5 v5_6 v5_7)) hP hD hS hA [] [0, 1, 2, 3, 4, 5] [0, 1, 2, 3, 4, 5] rfl rfl rfl (by decide) rfl rfl (va_runS (As := [.int p2, .int (-100), .int 100]) (rest := []) ⟨hx, hb, hml, hown, hta⟩ (c_X11_checkRange l dC dI cI H.size p2 (-100) 100 u_8 hu_8) (va_cwS 3 hta (ga_S mA106 mA107 mA108 mA109) rfl rfl rfl (by decide +kernel) ⟨Nat.le_of_ble_eq_true rfl, Nat.le_of_ble_eq_true rfl⟩) ⟨q_fb, q_ps hPc hK hDc⟩ rfl rfl hl.1 rfl (lv_room (Nat.le_of_ble_eq_true rfl)) dX11_moveTo_13 ⟨Nat.zero_le _, Nat.zero_le _⟩) (fun H locs hP hD hS => ?_)
  refine lv_aload_n hx hb dX11_moveTo_16 rfl (lv_at hl 0 rfl) ?_
  refine va_get (D := (dC, dI)) (ci := 10) (v := .ref (a2 0)) (C := RX11) (T := TX11) (N := 7) hx hb hta uw_X11 hown hK hP 0 rfl rfl 0 (by decide) (hta _ mA7) (fun _ h9 => h9) rfl dX11_moveTo_17 ?_
  obtain ⟨u_10, hu_10, hF⟩ := obd_some hF
  have hPc := hP.sub (ws' := (wd_X1_subpathCount cI a2 v2_0)) [1, 2] rfl
  have hDc := hD.sub (ws' := (wd_X1_subpathCount cI a2 v2_0)) [1, 2] rfl rfl
  refine q_calli (wc := (wd_X1_subpathCount cI a2 v2_0)) (w1 := (wd_X1_subpathCount cI a2 v2_0)) (ws' := (wd_X11_moveTo cI a0 a1 a2 a3 a4 a5 a6 a7 a8 a9 a10 v2_0 v4_1 v4_0 v5_3 v5_4 v5_5 v5_6 v5_7)) hP hD hS hA [1, 2] [0, 3, 4, 5] [0, 4, 5, 1, 2, 3] rfl rfl rfl (by decide) rfl rfl (va_runV (As := []) (rest := []) ⟨hx, hb, hml, hown, hta⟩ (c_X1_subpathCount l dC dI cI H.size a2 v2_0 u_10 hu_10) (cwV 0 hta (ga_V mA112 mA113 mA114 mA6 mA115) rfl rfl rfl (by decide +kernel) ⟨Nat.le_of_ble_eq_true rfl, Nat.le_of_ble_eq_true rfl⟩) ⟨q_fb, va_recv hK hP (ci := 1) (q0 := 1) rfl rfl, q_ps hPc hK hDc⟩ rfl rfl hl.1 rfl (lv_room (Nat.le_of_ble_eq_true rfl)) dX11_moveTo_20 ⟨Nat.zero_le _, Nat.zero_le _⟩) (fun H locs hP hD hS => ?_)
  refine lv_iconst (v := 4) hx hb dX11_moveTo_23 (by decide) ?_
  refine lv_icmp_ge (tgt := 31) hx hb dX11_moveTo_24 (by decide) (fun c_11 => ?_) (fun c_11 => ?_)
  · have hF := it_t hF c_11
    refine lv_iconst (v := 0) hx hb dX11_moveTo_31 (by decide) ?_
    exact j32 v2_0 v4_1 v4_0 v5_3 p1 p2 0 hF _ _ _ hP hD hS (lv_sub hl [0, 1, 2] rfl)
  · have hF := it_f hF c_11
    refine lv_iconst (v := 1) hx hb dX11_moveTo_27 (by decide) ?_
    refine lv_goto (tgt := 32) hx hb dX11_moveTo_28 (by decide) ?_
    exact j32 v2_0 v4_1 v4_0 v5_3 p1 p2 1 hF _ _ _ hP hD hS (lv_sub hl [0, 1, 2] rfl)
