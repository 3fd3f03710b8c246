/-! the relation at the start -/
theorem rg0 : rg 0 0 := ⟨by decide, by decide⟩
theorem WR_0 : WR h0C 24 (h0M 1) := ⟨by decide +kernel, by decide +kernel⟩
theorem Bnd_0 : Bnd (h0M 1) := by
  refine ⟨⟨0, by omega, rfl⟩, ?_, ?_⟩
  · unfold rg; decide +kernel
  · unfold rg; decide +kernel
theorem LW_0 : LW h0C (h0M 1) := ⟨⟨0, by omega, rfl⟩, fun t ht => absurd ht (by
  rw [txN_of (n := 0) (by omega) rfl]
  omega)⟩
theorem RT_0 : RT h0C h0M := ⟨⟨0, by omega, rfl, rfl⟩, fun i hi => ⟨rfl, show rg 0 255 from ⟨by decide, by decide⟩⟩⟩
theorem RS_0 : RS h0C h0M := by
  unfold RS rg vok
  exact ⟨by decide +kernel, by decide +kernel⟩
theorem RQ_0 : RQ h0C h0M := by
  unfold RQ rg
  decide +kernel
theorem RY_0 : RY h0C h0M := ⟨0, by omega, rfl, rfl, fun i hi => rfl⟩
theorem Rk_0 : Rk 0 h0C h0M := by
  refine ⟨⟨⟨WR_0, Bnd_0, ⟨by decide, by decide⟩, LW_0⟩, Or.inl ⟨rfl, rfl⟩, RT_0, RS_0, RQ_0, RY_0⟩, ⟨⟨by decide, by decide⟩, fun q => absurd q (by decide)⟩⟩
theorem Rk_up {κ : Nat} {hc hm : xH} (hκ : κ < 64) (h : Rk κ hc hm) : Rk (κ + 1) hc hm := ⟨h.1, h.2.1.up (by omega), fun q => (h.2.2 q).up (by omega)⟩
