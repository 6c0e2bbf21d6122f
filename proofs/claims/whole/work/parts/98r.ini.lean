/-! THE BEGIN: all is zero -/
theorem Inv.init {m : Mm} (hz : ∀ b j, zI m b j = 0) (hl : ∀ b j, zL m b j = 0) : Inv m := by
  have no : ∀ {p : Prop} {i : Nat}, i < 0 → p := fun {p i} h => absurd h (Nat.not_lt_zero i)
  refine ⟨0, [], 0, ⟨by decide, hz _ _, hz _ _⟩, ⟨⟨by decide, hz _ _, fun i hi => no hi, fun c hc => absurd hc List.not_mem_nil⟩, ⟨by decide, hz _ _, fun i hi => no hi, fun c hc => absurd hc List.not_mem_nil⟩, fun i _ => ?_, ⟨0, hz _ _⟩, 0, 0, 0, ⟨by decide, by decide, by decide, by decide⟩, hz _ _, hz _ _, hz _ _⟩,
    ⟨fun _ _ => 0, fun _ _ => 0, fun _ => 0, fun _ => 0, fun _ => 0, fun _ => 0, fun _ => false, fun _ => 0, fun _ => 0, fun _ => 0, 0, fun _ => [], ⟨⟨by decide, fun f hf => no hf⟩, fun f hf => no hf, ⟨fun i hi => no hi, fun f hf => no hf, fun i hi => no hi⟩, fun f hf => no hf, ⟨by decide, fun i hi => no hi⟩, fun i j hi => no hi, fun f hf => no hf⟩, ⟨⟨hz _ _, fun f hf => no hf⟩, fun i hi => no hi, fun f hf => no hf, ⟨hz _ _, fun i hi => no hi⟩, fun f hf => no hf, fun f hf => no hf⟩, ⟨⟨hz _ _, fun f hf => no hf⟩, fun f hf => no hf, hz _ _, fun i hi => no hi⟩⟩,
    ⟨0, fun _ => 0, fun _ => 0, fun _ => 0, ⟨by decide, fun k hk => no hk⟩, fun p _ => (show (0 : Int) ≤ 0 ∧ (0 : Int) ≤ 6 by decide), ⟨hz _ _, fun k hk => no hk⟩, ⟨hz _ _, fun k hk => no hk⟩, fun p _ => hz _ _, fun p _ => hz _ _⟩, ⟨by rw [hl, hl], false, hz _ _, hz _ _, fun h => nomatch h⟩⟩
  rw [hz]
  decide
