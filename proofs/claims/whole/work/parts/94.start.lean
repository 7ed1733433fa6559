/-! ===== the start ===== -/
theorem rw_0 : RW 0 (fun _ => 0) (upd (upd (fun _ => 0) (0 : Int32).toNatClampNeg 4) (2 : Int32).toNatClampNeg 4) (upd (upd (fun _ => 0) (0 : Int32).toNatClampNeg 4) (2 : Int32).toNatClampNeg 4) := by
  have e : ∀ i, (upd (upd (fun _ => 0) (0 : Int32).toNatClampNeg 4) (2 : Int32).toNatClampNeg 4) i = (if i = 2 then (4 : Int32) else if i = 0 then 4 else 0) := fun i => rfl
  refine ⟨by omega, rfl, rfl, ⟨fun _ _ => rfl, ?_⟩, fun s hs => absurd hs (by omega)⟩
  rw [e 0, e 1, e 2, e 3, e 4, e 5, e 6]
  refine ⟨by decide, by decide, by decide, by decide, by decide, by decide, by decide, fun k hk => ?_⟩
  rw [show (if (6 : Nat) = 2 then (4 : Int32) else if (6 : Nat) = 0 then 4 else 0).toInt = 0 from by decide] at hk
  omega
theorem inv_0 : Inv (CAg WS PS) ((upd (upd (fun _ => 0) (0 : Int32).toNatClampNeg 4) (2 : Int32).toNatClampNeg 4), (upd (upd (fun _ => 0) (0 : Int32).toNatClampNeg 4) (2 : Int32).toNatClampNeg 4), 0, (fun _ => 0), 0, 0, 0, 0, 0, (fun _ => 0), 0, (fun _ => 0), 0, 0, 0, 0, 0, 0, (fun _ => 0), (fun _ => 0), (fun _ => 0), (fun _ => 0), (fun _ => 0), (fun _ => 0), (fun _ => 0), (fun _ => 0), (fun _ => 0), (fun _ => 0), 0, 0, (fun _ => 0), (fun _ => 0), (fun _ => 0), (fun _ => 0), (fun _ => 0), (fun _ => 0), (fun _ => 0), (fun _ => 0), (fun _ => 0), 0, 0, 0, 0, (fun _ => 0), 0, 0, 0, (fun _ => 0), (fun _ => 0), (fun _ => 0), (fun _ => 0)) (0, 0, 0, 0, 0, 0, 0, 0, 0, 0, 0, 0, 0, 0, (upd (upd (fun _ => 0) (0 : Int32).toNatClampNeg 4) (2 : Int32).toNatClampNeg 4), (fun _ => 0), (fun _ => 0), (fun _ => 0), (fun _ => 0), (fun _ => 0), (fun _ => 0), (fun _ => 0), (fun _ => 0), (fun _ => 0), (fun _ => 0), (fun _ => 0), (fun _ => 0), (fun _ => 0), (fun _ => 0), (fun _ => 0), (fun _ => 0)) :=
  Inv_mk (N := 0) (p := fun _ => 0) rw_0 ⟨0, by omega, rfl, rfl, fun q hq => absurd hq (by omega)⟩ ⟨0, by omega, rfl, rfl, fun i hi => absurd hi (by omega)⟩ (CAg_z WS PS _ _ _ _)
