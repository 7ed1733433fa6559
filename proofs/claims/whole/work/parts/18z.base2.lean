/-! exceptions: the env of a method that may throw, a check's throw that leaves its caller -/
abbrev xIA : String := "java/lang/IllegalArgumentException"
abbrev xIS : String := "java/lang/IllegalStateException"
abbrev xIO : String := "java/lang/IndexOutOfBoundsException"
def exN (k : Nat) : String := if k = 1 then xIA else if k = 2 then xIS else xIO
abbrev xNames : List String := ["java/lang/RuntimeException", "java/lang/Exception"]
def obx {U X β : Type} (o : Option (Sum U X)) (g : X → Option β) (f : U → Option β) : Option β := match o with
  | none => none
  | some (.inl u) => f u
  | some (.inr x) => g x
theorem obx_elim {U X β : Type} {o : Option (Sum U X)} {g : X → Option β} {f : U → Option β} {r : β} {P : Prop} (h : obx o g f = some r) (k1 : ∀ x, o = some (.inr x) → g x = some r → P) (k2 : ∀ u, o = some (.inl u) → f u = some r → P) : P := by
  cases o with
  | none => exact absurd h (by simp [obx])
  | some v => cases v with
    | inl u => exact k2 u rfl h
    | inr x => exact k1 x rfl h
theorem no_rl {U X : Type} {u : U} {x : X} : ¬ (some (Sum.inr x : Sum U X) = some (.inl u)) := fun h => nomatch (Option.some.inj h)
theorem no_lr {U X : Type} {u : U} {x : X} : ¬ (some (Sum.inl u : Sum U X) = some (.inr x)) := fun h => nomatch (Option.some.inj h)
abbrev qx_S (S : Nat → Nat) (U : State) : Prop := vk_R RX11 272 "an argument is out of range" (S 0) U ∧ vk_R RX11 281 "the state does not allow this" (S 1) U ∧ vk_R RX11 276 "there is no such thing" (S 2) U ∧ vk_R RX11 230 "the index is negative" (S 3) U
abbrev qx_N (U : State) : Prop := va_Nw (.castable xIA xIA) U ∧ va_Nw (.castable xIS xIS) U ∧ va_Nw (.castable xIO xIO) U ∧ va_Nw (.declares (Bundle.initS "java/lang/RuntimeException")) U ∧ va_Nw (.declares (Bundle.initS "java/lang/Exception")) U ∧ va_Nw (.declares (Bundle.initS Bundle.tN)) U
abbrev qx_E (S : Nat → Nat) (A : Nat → Prop) (U : State) : Prop := vx_Zq Bundle.tN "UNASSIGNED_STACK" Bundle.steD A U U.heap ∧ vx_Zq Bundle.tN "SUPPRESSED_SENTINEL" Bundle.listD A U U.heap ∧ qx_S S U ∧ qx_N U
abbrev qx_B (x : String) : List Cond := [.castable x x, .declares (Bundle.initS "java/lang/RuntimeException"), .declares (Bundle.initS "java/lang/Exception"), .declares (Bundle.initS Bundle.tN)]
theorem qx_bIA : ∀ w ∈ (vx_atS RX11 232 xIA xNames).filter (fun w => !goodWord w), w ∈ qx_B xIA := by decide +kernel
theorem qx_bIS : ∀ w ∈ (vx_atS RX11 283 xIS xNames).filter (fun w => !goodWord w), w ∈ qx_B xIS := by decide +kernel
theorem qx_bIO : ∀ w ∈ (vx_atS RX11 278 xIO xNames).filter (fun w => !goodWord w), w ∈ qx_B xIO := by decide +kernel
theorem qx_gIA : ∀ w ∈ Cond.classLink RX11 228 xIA :: Cond.initialized xIA :: vx_atS RX11 232 xIA xNames, vx_ot w = true := by decide +kernel
theorem qx_gIS : ∀ w ∈ Cond.classLink RX11 279 xIS :: Cond.initialized xIS :: vx_atS RX11 283 xIS xNames, vx_ot w = true := by decide +kernel
theorem qx_gIO : ∀ w ∈ Cond.classLink RX11 274 xIO :: Cond.initialized xIO :: vx_atS RX11 278 xIO xNames, vx_ot w = true := by decide +kernel
theorem qx_fIA : Bundle.fit xIA = true := by decide +kernel
theorem qx_fIS : Bundle.fit xIS = true := by decide +kernel
theorem qx_fIO : Bundle.fit xIO = true := by decide +kernel
theorem qx_fN : ∀ n ∈ xNames, Bundle.fit n = true := by decide +kernel
section QX
variable {p : Program} {l : Launch} {e : Env} {R : Room} {s : State} {m : MethodId} {args : Array Value} {below : List Frame} {meth : Method} {c : Code} {H : Heap} {locs : List Loc} {cells slots : Nat} {Q : State → Prop} {dC : Nat → ClassId} {dI : Nat → Nat → Nat} {cI : ClassId} {pc : Nat} {ls : Array Slot} {rest : List Value} {S : Nat → Nat}
theorem qx_hIA (hn : qx_N s) (hta : ∀ w ∈ wALL, w.before args s = true) : ∀ w ∈ vx_atS RX11 232 xIA xNames, w.before args s = true := vx_hat (fun w h => hta w (inEIA w h)) qx_bIA (vx_c (va_Nw.use rfl hn.1) (vx_c (va_Nw.use rfl hn.2.2.2.1) (vx_c (va_Nw.use rfl hn.2.2.2.2.1) (vx_c (va_Nw.use rfl hn.2.2.2.2.2) vx_n))))
theorem qx_hIS (hn : qx_N s) (hta : ∀ w ∈ wALL, w.before args s = true) : ∀ w ∈ vx_atS RX11 283 xIS xNames, w.before args s = true := vx_hat (fun w h => hta w (inEIS w h)) qx_bIS (vx_c (va_Nw.use rfl hn.2.1) (vx_c (va_Nw.use rfl hn.2.2.2.1) (vx_c (va_Nw.use rfl hn.2.2.2.2.1) (vx_c (va_Nw.use rfl hn.2.2.2.2.2) vx_n))))
theorem qx_hIO (hn : qx_N s) (hta : ∀ w ∈ wALL, w.before args s = true) : ∀ w ∈ vx_atS RX11 278 xIO xNames, w.before args s = true := vx_hat (fun w h => hta w (inEIO w h)) qx_bIO (vx_c (va_Nw.use rfl hn.2.2.1) (vx_c (va_Nw.use rfl hn.2.2.2.1) (vx_c (va_Nw.use rfl hn.2.2.2.2.1) (vx_c (va_Nw.use rfl hn.2.2.2.2.2) vx_n))))
theorem qx_Nw {U : State} (hW : s.WarmedH U.vm) (h : qx_N s) : qx_N U := ⟨va_Nw.warmC hW h.1, va_Nw.warmC hW h.2.1, va_Nw.warmC hW h.2.2.1, va_Nw.warmD hW h.2.2.2.1, va_Nw.warmD hW h.2.2.2.2.1, va_Nw.warmD hW h.2.2.2.2.2⟩
theorem qx_Ns {U : State} (hv : s.vm = U.vm) (h : qx_N s) : qx_N U := ⟨va_Nw.same rfl hv h.1, va_Nw.same rfl hv h.2.1, va_Nw.same rfl hv h.2.2.1, va_Nw.same rfl hv h.2.2.2.1, va_Nw.same rfl hv h.2.2.2.2.1, va_Nw.same rfl hv h.2.2.2.2.2⟩
theorem qx_Sw {U : State} (hW : s.WarmedH U.vm) (h : qx_S S s) : qx_S S U := ⟨vk_R.warm hW h.1, vk_R.warm hW h.2.1, vk_R.warm hW h.2.2.1, vk_R.warm hW h.2.2.2⟩
theorem qx_Ss {U : State} (hv : U.vm = s.vm) (h : qx_S S s) : qx_S S U := ⟨vk_R.same hv h.1, vk_R.same hv h.2.1, vk_R.same hv h.2.2.1, vk_R.same hv h.2.2.2⟩
theorem qx_Ec {A A1 : Nat → Prop} {U : State} (h : qx_E S A s) (hS : va_S A s.heap H locs) (hsub : ∀ q, A1 q → A q) (hU : U.heap = H) (hW : s.WarmedH U.vm) : qx_E S A1 U := ⟨by rw [hU]; exact ((h.1.kept hS.2.1).moved hW.alike).narrow hsub, by rw [hU]; exact ((h.2.1.kept hS.2.1).moved hW.alike).narrow hsub, qx_Sw hW h.2.2.1, qx_Nw hW h.2.2.2⟩
abbrev qx_pre (S : Nat → Nat) (dC : Nat → ClassId) (dI : Nat → Nat → Nat) (cI : ClassId) (ws : va_W) (sz : Nat) : State → Prop := fun U => q_pre dC dI cI ws sz U ∧ qx_E S (va_A ws sz) U
theorem qx_fb {av : List Value} {ws : va_W} {sz : Nat} : FrameBlind (va_Pc av (qx_pre S dC dI cI ws sz)) := fun a U g mk q => by
  obtain ⟨q0, ⟨q1, qP, qK, qD⟩, qE⟩ := q
  exact ⟨q0, ⟨q1, qP, va_K.moved (u := U) (U := U.calling g mk a) (Vm.Alike.refl U.vm) qK, qD⟩, vx_Zq.moved (u := U) (U := U.calling g mk a) (Vm.Alike.refl U.vm) qE.1, vx_Zq.moved (u := U) (U := U.calling g mk a) (Vm.Alike.refl U.vm) qE.2.1, qx_Ss (s := U) (U := U.calling g mk a) rfl qE.2.2.1, qx_Ns (s := U) (U := U.calling g mk a) rfl qE.2.2.2⟩
theorem qx_ps {av : List Value} {ws : va_W} {A : Nat → Prop} (hP : va_P (dC, dI) vwCl ws H) (hK : va_K (dC, dI) vwCl [(cI, .int)] s) (hD : va_D A ws) (hE : qx_E S A s) (hS : va_S A s.heap H locs) (hF : ∀ q, va_A ws H.size q → A q) : ∀ U : State, U.heap = H → s.WarmedH U.vm → va_Pc av (qx_pre S dC dI cI ws H.size) av.toArray U := fun U hU hW => ⟨rfl, (q_ps (av := av) hP hK hD U hU hW).2, qx_Ec hE hS hF hU hW⟩
theorem qx_kept {ws : va_W} {H1 : Heap} (hP : va_P (dC, dI) vwCl ws H) (hk : ∀ q : Nat, q < H.size → H1[q]? = H[q]?) : va_P (dC, dI) vwCl ws H1 := fun k q hq => (hP k q hq).kept (hk _ (hP k q hq).lt)
theorem qx_F {A : Nat → Prop} {t : State} (hS : va_S A s.heap H locs) (hz : H.size ≤ t.heap.size) (hk : ∀ q : Nat, q < H.size → t.heap[q]? = H[q]?) : va_F A s t := ⟨Nat.le_trans hS.1 hz, fun q h1 h2 => (hk q (Nat.lt_of_lt_of_le h1 hS.1)).trans (hS.2.1 q h1 h2)⟩
theorem qx_nA {n q : Nat} (h : q < n) : ¬ va_A ([] : va_W) n q := by
  intro h2
  rcases h2 with ⟨k, e, h3⟩ | h3
  · simp at h3
  · omega
theorem qx_thr {A0 : Nat → Prop} {ws : va_W} {st0 : List Value} {a : Array Value} {kd : Nat} {Qc : Array Value → State → Outcome → State → Prop} {XC : String → State → State → Prop}
    (hP : va_P (dC, dI) vwCl ws H) (hD : va_D A0 ws) (hK : va_K (dC, dI) vwCl [(cI, .int)] s) (hS : va_S A0 s.heap H locs) (hA : ∀ q, s.heap.size ≤ q → A0 q) (hxt : ∀ x ∈ c.exceptionTable.toList, False) (hlocks : meth.locks = false)
    (hr : vx_Run p l e R s m args below meth c H locs cells slots 1 6 (F0 m pc ls st0) rest (va_Qv (fun (_ : Unit) => False) (fun _ _ => True) (va_A ([] : va_W) H.size) a) (vx_X (fun (_ : Unit) => True) (fun E _ t => E = exN kd ∧ q_at dC dI cI (va_A ([] : va_W) H.size) ([] : va_W) t) (va_A ([] : va_W) H.size)) (va_A ([] : va_W) H.size))
    (hX : ∀ t : State, va_P (dC, dI) vwCl ws t.heap → va_K (dC, dI) vwCl [(cI, .int)] t → va_F A0 s t → XC (exN kd) s t) (hc : cells + 1 ≤ 1) (hs : slots + 6 ≤ 6) : W p l e R s m args below meth c H locs cells slots (vx_MQ below Qc XC args s 1 6 A0) (F0 m pc ls st0) := by
  have hFc := va_free (wc := ([] : va_W)) hD hS hA [] rfl
  refine vx_callv hr hS (fun q _ h => hFc q h) hFc (fun q _ h => hFc q h) (fun E ce q9 u t H1 locs1 ht hvm hpx hBX hsz hk hS1 hce hcv hcl => ?_) (fun u t H1 locs1 ht hvm hp _ _ _ _ => hp.elim)
  obtain ⟨hE, -⟩ := hBX
  subst hE
  have hP2 : va_P (dC, dI) vwCl ws H1 := qx_kept hP (fun q hq => hk q hq (qx_nA hq))
  exact vx_out (fun x hx => (hxt x hx).elim) hlocks hce hcv hcl (fun t9 ht9 hal => hX t9 (by rw [ht9]; exact hP2) (va_K.moved hal hK) (hS1.F ht9)) hS1.2.2 hc hs
end QX
/-! private constructors of nest mates; a new array of ints -/
abbrev qn_E (U : State) : Prop := va_Nw (.methodLinkNest RX11 21 yX3_init "StrokeOutliner") U ∧ va_Nw (.methodLinkNest RX11 28 yX5_init "StrokeOutliner") U ∧ va_Nw (.methodLinkNest RX11 35 yX6_init "StrokeOutliner") U ∧ va_Nw (.methodLinkNest RX11 42 yX10_init "StrokeOutliner") U ∧ va_Nw (.methodLinkNest RX10 11 yX9_init "StrokeOutliner") U ∧ va_Nw (.methodLinkNest RX10 20 yX8_init "StrokeOutliner") U ∧ va_Nw (.methodLinkNest RX8 11 yX0_init "StrokeOutliner") U ∧ va_Nw (.methodLinkNest RX10 27 yX7_init "StrokeOutliner") U ∧ va_Nw (.methodLinkNest RX11 49 yX2_init "StrokeOutliner") U
section QN
variable {p : Program} {l : Launch} {e : Env} {R : Room} {s : State} {m : MethodId} {args : Array Value} {below : List Frame} {meth : Method} {c : Code} {H H0 : Heap} {locs : List Loc} {cells slots : Nat} {Q : State → Prop} {dC : Nat → ClassId} {dI : Nat → Nat → Nat} {cI : ClassId} {pc : Nat} {ls : Array Slot} {rest : List Value} {A : Nat → Prop} {ws : va_W} {cc : ByteArray}
theorem qn_w {U : State} (hW : s.WarmedH U.vm) (h : qn_E s) : qn_E U := ⟨va_Nw.warmM hW h.1, va_Nw.warmM hW h.2.1, va_Nw.warmM hW h.2.2.1, va_Nw.warmM hW h.2.2.2.1, va_Nw.warmM hW h.2.2.2.2.1, va_Nw.warmM hW h.2.2.2.2.2.1, va_Nw.warmM hW h.2.2.2.2.2.2.1, va_Nw.warmM hW h.2.2.2.2.2.2.2.1, va_Nw.warmM hW h.2.2.2.2.2.2.2.2⟩
theorem qn_s {U : State} (hv : s.vm = U.vm) (h : qn_E s) : qn_E U := ⟨va_Nw.same rfl hv h.1, va_Nw.same rfl hv h.2.1, va_Nw.same rfl hv h.2.2.1, va_Nw.same rfl hv h.2.2.2.1, va_Nw.same rfl hv h.2.2.2.2.1, va_Nw.same rfl hv h.2.2.2.2.2.1, va_Nw.same rfl hv h.2.2.2.2.2.2.1, va_Nw.same rfl hv h.2.2.2.2.2.2.2.1, va_Nw.same rfl hv h.2.2.2.2.2.2.2.2⟩
abbrev qn_pre (dC : Nat → ClassId) (dI : Nat → Nat → Nat) (cI : ClassId) (ws : va_W) (sz : Nat) : State → Prop := fun U => q_pre dC dI cI ws sz U ∧ qn_E U
theorem qn_fb {av : List Value} {sz : Nat} : FrameBlind (va_Pc av (qn_pre dC dI cI ws sz)) := fun a U g mk q => by
  obtain ⟨q0, ⟨q1, qP, qK, qD⟩, qE⟩ := q
  exact ⟨q0, ⟨q1, qP, va_K.moved (u := U) (U := U.calling g mk a) (Vm.Alike.refl U.vm) qK, qD⟩, qn_s (s := U) (U := U.calling g mk a) rfl qE⟩
theorem qn_ps {av : List Value} (hP : va_P (dC, dI) vwCl ws H) (hK : va_K (dC, dI) vwCl [(cI, .int)] s) (hD : va_D A ws) (hN : qn_E s) : ∀ U : State, U.heap = H → s.WarmedH U.vm → va_Pc av (qn_pre dC dI cI ws H.size) av.toArray U := fun U hU hW => ⟨rfl, (q_ps (av := av) hP hK hD U hU hW).2, qn_w hW hN⟩
theorem q_newa (hexec : p.tables.exec = Jvm.exec) (hb : c.code = cc) (harr : (Cond.arrayClass .int).before args s = true) (hK : va_K (dC, dI) vwCl [(cI, .int)] s) (hP : va_P (dC, dI) vwCl ws H) (hD : va_D A ws) (hS : va_S A H0 H locs) (hA : ∀ q, H0.size ≤ q → A q) {n : Int32} {N' : Nat} (hn : ¬ n < 0) (hN : n.toNatClampNeg = N') (hbytes : N' * componentBytes .int ≤ 536870912) (hcells : cells + 1 ≤ R.cells) (hslots : slots + N' ≤ R.slots) (hdg : decode cc pc = .ok (.newarray .int, 2))
    (kk : ∀ (q : Nat) (H1 : Heap), va_P (dC, dI) vwCl (ws ++ [(q, .inl (cI, N', .inl (fun _ => 0)))]) H1 → va_D A (ws ++ [(q, .inl (cI, N', .inl (fun _ => 0)))]) → va_S A H0 H1 locs → W p l e R s m args below meth c H1 locs (cells + 1) (slots + N') Q (F0 m (pc + 2) ls (.ref q :: rest))) : W p l e R s m args below meth c H locs cells slots Q (F0 m pc ls (.int n :: rest)) := by
  refine va_newa (atype := .int) (ty := .int) (a0 := (N', .inl (fun _ => 0))) hexec hb harr rfl hK hP hD hS hA (fun cA => rfl) hn hN hbytes hcells hslots hdg (fun q cA H1 hK1 hP1 hD1 hS1 => ?_)
  have h1 : va_RA s cI .int := (hK.2 0 (cI, .int) rfl).2
  have h2 : va_RA s cA .int := (hK1.2 1 (cA, .int) rfl).2
  have e1 : cA = cI := Option.some.inj (Eq.trans (Eq.symm h2) h1)
  subst e1
  exact kk q H1 hP1 hD1 hS1
end QN
/-! the law's own methods: the long row beside the class's world -/
abbrev q_preL (dC : Nat → ClassId) (dI : Nat → Nat → Nat) (cI cL : ClassId) (ws : va_W) (sz : Nat) : State → Prop := fun U => U.heap.size = sz ∧ va_P (dC, dI) vwCl ws U.heap ∧ va_K (dC, dI) vwCl [(cI, .int), (cL, .long)] U ∧ va_D (fun _ => True) ws
abbrev q_atL (dC : Nat → ClassId) (dI : Nat → Nat → Nat) (cI cL : ClassId) (A : Nat → Prop) (ws : va_W) : State → Prop := fun t => va_P (dC, dI) vwCl ws t.heap ∧ va_K (dC, dI) vwCl [(cI, .int), (cL, .long)] t ∧ va_D A ws
abbrev qx_C (U : State) : Prop := va_Nc xIS xIA U ∧ va_Nc xIA xIO U
abbrev qx_preL (S : Nat → Nat) (dC : Nat → ClassId) (dI : Nat → Nat → Nat) (cI cL : ClassId) (ws : va_W) (sz : Nat) : State → Prop := fun U => q_preL dC dI cI cL ws sz U ∧ qx_E S (va_A ws sz) U ∧ qx_C U
section QL
variable {p : Program} {l : Launch} {e : Env} {R : Room} {s : State} {m : MethodId} {args : Array Value} {below : List Frame} {meth : Method} {c : Code} {H H0 : Heap} {locs : List Loc} {cells slots : Nat} {Q : State → Prop} {dC : Nat → ClassId} {dI : Nat → Nat → Nat} {cI cL : ClassId} {pc : Nat} {ls : Array Slot} {rest : List Value} {S : Nat → Nat}
theorem q_fbL {av : List Value} {ws : va_W} {sz : Nat} : FrameBlind (va_Pc av (q_preL dC dI cI cL ws sz)) := fun a U g mk q => by
  obtain ⟨q0, q1, qP, qK, qD⟩ := q
  exact ⟨q0, q1, qP, va_K.moved (u := U) (U := U.calling g mk a) (Vm.Alike.refl U.vm) qK, qD⟩
theorem q_psL {av : List Value} {ws : va_W} {A : Nat → Prop} (hP : va_P (dC, dI) vwCl ws H) (hK : va_K (dC, dI) vwCl [(cI, .int), (cL, .long)] s) (hD : va_D A ws) : ∀ U : State, U.heap = H → s.WarmedH U.vm → va_Pc av (q_preL dC dI cI cL ws H.size) av.toArray U := fun U hU hW => ⟨rfl, by rw [hU], by rw [hU]; exact hP, va_K.moved hW.alike hK, hD.weaken (fun _ _ _ _ => trivial)⟩
theorem qx_fbL {av : List Value} {ws : va_W} {sz : Nat} : FrameBlind (va_Pc av (qx_preL S dC dI cI cL ws sz)) := fun a U g mk q => by
  obtain ⟨q0, ⟨q1, qP, qK, qD⟩, qE, qC⟩ := q
  exact ⟨q0, ⟨q1, qP, va_K.moved (u := U) (U := U.calling g mk a) (Vm.Alike.refl U.vm) qK, qD⟩, ⟨vx_Zq.moved (u := U) (U := U.calling g mk a) (Vm.Alike.refl U.vm) qE.1, vx_Zq.moved (u := U) (U := U.calling g mk a) (Vm.Alike.refl U.vm) qE.2.1, qx_Ss (s := U) (U := U.calling g mk a) rfl qE.2.2.1, qx_Ns (s := U) (U := U.calling g mk a) rfl qE.2.2.2⟩, va_Nc.moved (u := U) (U := U.calling g mk a) (Vm.Alike.refl U.vm) qC.1, va_Nc.moved (u := U) (U := U.calling g mk a) (Vm.Alike.refl U.vm) qC.2⟩
theorem qx_psL {av : List Value} {ws : va_W} {A : Nat → Prop} (hP : va_P (dC, dI) vwCl ws H) (hK : va_K (dC, dI) vwCl [(cI, .int), (cL, .long)] s) (hD : va_D A ws) (hE : qx_E S A s) (hC : qx_C s) (hS : va_S A s.heap H locs) (hF : ∀ q, va_A ws H.size q → A q) : ∀ U : State, U.heap = H → s.WarmedH U.vm → va_Pc av (qx_preL S dC dI cI cL ws H.size) av.toArray U := fun U hU hW => ⟨rfl, (q_psL (av := av) hP hK hD U hU hW).2, qx_Ec hE hS hF hU hW, va_Nc.moved hW.alike hC.1, va_Nc.moved hW.alike hC.2⟩
theorem q_calliL {A0 : Nat → Prop} {ws wc w1 ws' : va_W} {st0 : List Value} {a : Array Value} {v : Int32} {mc ms : Nat} (hP : va_P (dC, dI) vwCl ws H) (hD : va_D A0 ws) (hS : va_S A0 H0 H locs) (hA : ∀ q, H0.size ≤ q → A0 q) (isC isR isP : List Nat) (hC : isC.map (fun i => ws[i]?) = wc.map some) (hR : isR.all (fun i => decide (i < ws.length)) = true) (hn : va_nd isR = true) (hdis : ∀ i ∈ isR, i ∉ isC) (hnp : va_nd isP = true) (hp : isP.map (fun i => (isR.filterMap (fun i => ws[i]?) ++ w1)[i]?) = ws'.map some)
    (hr : va_Run p l e R s m args below meth c H locs cells slots mc ms (F0 m pc ls st0) rest (va_Qi (fun (r : Int32) (_ : Unit) => r = v) (fun _ => q_atL dC dI cI cL (va_A wc H.size) w1) (va_A wc H.size) a) (va_A wc H.size))
    (kk : ∀ (H1 : Heap) (locs1 : List Loc), va_P (dC, dI) vwCl ws' H1 → va_D A0 ws' → va_S A0 H0 H1 locs1 → W p l e R s m args below meth c H1 locs1 (cells + mc) (slots + ms) Q (F0 m (pc + 3) ls (.int v :: rest))) : W p l e R s m args below meth c H locs cells slots Q (F0 m pc ls st0) := by
  have hFc := va_free (wc := wc) hD hS hA isC hC
  refine va_calli hr hS (fun q _ h => hFc q h) hFc (fun r u t H1 locs1 ht hvm hw hB hz1 hk1 hS1 => ?_)
  obtain ⟨hP1, hK1, hD1⟩ := hB
  rw [ht] at hP1
  obtain ⟨hP2, hD2⟩ := q_rest hP hD isC isR isP hC hR hn hdis hnp hp hk1 hFc hP1 hD1
  subst hw
  exact kk H1 locs1 hP2 hD2 hS1
theorem qx_cat {A0 : Nat → Prop} {ws wc w1 ws' : va_W} {st0 : List Value} {a : Array Value} {kd : Nat} (hP : va_P (dC, dI) vwCl ws H) (hD : va_D A0 ws) (hS : va_S A0 H0 H locs) (hA : ∀ q, H0.size ≤ q → A0 q) (isC isR isP : List Nat) (hC : isC.map (fun i => ws[i]?) = wc.map some) (hR : isR.all (fun i => decide (i < ws.length)) = true) (hn : va_nd isR = true) (hdis : ∀ i ∈ isR, i ∉ isC) (hnp : va_nd isP = true) (hp : isP.map (fun i => (isR.filterMap (fun i => ws[i]?) ++ w1)[i]?) = ws'.map some)
    (hr : vx_Run p l e R s m args below meth c H locs cells slots 1 6 (F0 m pc ls st0) rest (va_Qv (fun (_ : Unit) => False) (fun _ _ => True) (va_A wc H.size) a) (vx_X (fun (_ : Unit) => True) (fun E _ t => E = exN kd ∧ q_at dC dI cI (va_A wc H.size) w1 t) (va_A wc H.size)) (va_A wc H.size))
    (kk : ∀ (ce : Cell) (q9 : Addr) (H1 : Heap) (locs1 : List Loc), va_P (dC, dI) vwCl ws' H1 → va_D A0 ws' → va_S A0 H0 H1 locs1 → H1[q9]? = some ce → ce.vm = .none → s.vm.findClass (exN kd) = some ce.cls → vx_W p l e R s m args below meth c H1 locs1 (cells + 1) (slots + 6) Q (F0 m pc ls rest) q9) : W p l e R s m args below meth c H locs cells slots Q (F0 m pc ls st0) := by
  have hFc := va_free (wc := wc) hD hS hA isC hC
  refine vx_callv hr hS (fun q _ h => hFc q h) hFc (fun q _ h => hFc q h) (fun E ce q9 u t H1 locs1 ht hvm hpx hBX hsz hk1 hS1 hce hcv hcl => ?_) (fun u t H1 locs1 ht hvm hp _ _ _ _ => hp.elim)
  obtain ⟨hE, hP1, hK1, hD1⟩ := hBX
  rw [ht] at hP1
  obtain ⟨hP2, hD2⟩ := q_rest hP hD isC isR isP hC hR hn hdis hnp hp hk1 hFc hP1 hD1
  subst hE
  exact kk ce q9 H1 locs1 hP2 hD2 hS1 hce hcv hcl
end QL
