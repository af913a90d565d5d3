/-! THE START: what the constructors leave is in relation -/
set_option maxRecDepth 20000 in
theorem BR_0 : BR μ0 := by
  refine ⟨0, 0, 0, 0, 0, 0, 0, fun k => k, fun k => k, fun k => k, fun k => k, ⟨?_, ?_, ?_, ?_, ?_, ?_, ?_, ?_, ?_, ?_, ?_⟩, ⟨rfl, rfl⟩, rfl, by decide, by decide, by decide, rfl, ⟨0, by decide, rfl, rfl, fun i hi => absurd hi (by omega)⟩, ⟨by decide, rfl, rfl, fun _ => ⟨rfl, 0, by decide, rfl⟩, fun i hi => absurd hi (by omega)⟩, rfl, fun _ => ⟨rfl, fun s _ hs => ?_⟩⟩
  · refine ⟨by decide, fun k hk => absurd hk (by omega), fun k hk => ?_, fun i j hi => absurd hi (by omega), fun i j _ _ e => e, fun i j hi => absurd hi (by omega), rfl, rfl, rfl, rfl, fun k hk => absurd hk (by omega), fun k hk => absurd hk (by omega), fun k hk => ?_⟩
    · show k < 120; omega
    · rfl
  · refine ⟨by decide, fun k hk => absurd hk (by omega), fun k hk => ?_, fun i j hi => absurd hi (by omega), fun i j _ _ e => e, fun i j hi => absurd hi (by omega), rfl, rfl, rfl, rfl, fun k hk => absurd hk (by omega), fun k hk => absurd hk (by omega), fun k hk => ?_⟩
    · show k < 100; omega
    · rfl
  · exact fun k hk => absurd hk (by omega)
  · exact ⟨fun k hk => absurd hk (by omega), fun i j _ hj => absurd hj (by omega)⟩
  · exact ⟨fun k hk => absurd hk (by omega), fun k hk => absurd hk (by omega), fun k hk => absurd hk (by omega), fun k hk => absurd hk (by omega)⟩
  · exact fun k hk => absurd hk (by omega)
  · exact fun k hk => absurd hk (by omega)
  · exact fun s hs => ⟨fun t ht => rfl, fun q hq => rfl, rfl, Or.inr ⟨rfl, rfl⟩⟩
  · exact fun k hk => absurd hk (by omega)
  · exact ⟨⟨by decide, rfl, rfl⟩, rfl, rfl, ⟨by decide, rfl, rfl⟩, ⟨by decide, rfl, rfl⟩, ⟨0, by decide, rfl, rfl⟩, ⟨rfl, Or.inr rfl⟩, rfl, rfl, rfl, rfl, ⟨rfl, 20, by decide, by decide, rfl⟩, ⟨rfl, 0, by decide, rfl⟩⟩
  · exact ⟨fun k hk => absurd hk (by omega), fun i j _ hj => absurd hj (by omega)⟩
  · exact ⟨rfl, rfl, rfl, rfl, rfl, rfl, rfl, rfl, rfl, rfl, rfl, rfl, rfl, rfl⟩
