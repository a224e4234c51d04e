/-! THE BEGINNING -/
def i6 : Nat → Int32 := (upd (upd (upd (upd (upd (upd (fun _ => 0) (Int32.toNatClampNeg 0) (-1)) (Int32.toNatClampNeg 1) (-1)) (Int32.toNatClampNeg 2) (-1)) (Int32.toNatClampNeg 3) (-1)) (Int32.toNatClampNeg 4) (-1)) (Int32.toNatClampNeg 5) (-1))
def i4 : Nat → Int32 := (upd (upd (upd (upd (fun _ => 0) (Int32.toNatClampNeg 0) (-1)) (Int32.toNatClampNeg 1) (-1)) (Int32.toNatClampNeg 2) (-1)) (Int32.toNatClampNeg 3) (-1))
def st0C : St := (fun k => if k = 8 then i6 else if k = 14 then i4 else fun _ => 0, fun j => if j = 1 then 1 else 0)
def st0M : St := (fun k => if k = 2 then i6 else if k = 5 then i4 else fun _ => 0, fun j => if j = 1 then 1 else 0)
theorem i6_at {j : Nat} (h : j < 6) : i6 j = -1 := by
  rcases (show j = 0 ∨ j = 1 ∨ j = 2 ∨ j = 3 ∨ j = 4 ∨ j = 5 by omega) with rfl | rfl | rfl | rfl | rfl | rfl <;> decide +kernel
theorem i4_at {j : Nat} (h : j < 4) : i4 j = -1 := by
  rcases (show j = 0 ∨ j = 1 ∨ j = 2 ∨ j = 3 by omega) with rfl | rfl | rfl | rfl <;> decide +kernel
theorem R_0 : RR st0C st0M := by
  refine ⟨⟨0, ⟨by omega, rfl, rfl, fun p hp => by omega⟩, ⟨fun p hp => by omega, rfl, rfl⟩, ⟨0, by omega, rfl, rfl, fun i hi => by omega, fun j hj => rfl, fun i hi => by omega⟩, fun k hk => ⟨?_, Or.inl rfl⟩⟩, fun r hr => ⟨rfl, Or.inl (i6_at hr)⟩, fun r hr => ⟨rfl, Or.inl (i4_at hr)⟩, rfl, rfl, fun f hf => rfl, rfl, rfl⟩
  rcases (show k = 0 ∨ k = 1 ∨ k = 2 by omega) with rfl | rfl | rfl <;> rfl
