/-! one slot is laid -/
def RQ1 (hc hm : xH) (k : Nat) : Prop := hc (69 + 3 * k) 1 = hm 7 k ∧ (hm 7 k = 0 ∨ hm 7 k = 1 ∨ hm 7 k = 2 ∨ hm 7 k = 3) ∧ (hm 7 k = 1 → hc (69 + 3 * k) 2 = hm 8 k ∧ rg (hm 8 k) 5 ∧ hm 9 k = wthF (hc (69 + 3 * k) 2) (hc (69 + 3 * k) 3)) ∧ (hm 7 k = 2 → hc (70 + 3 * k) 2 = hm 10 k ∧ rg (hm 10 k) 24 ∧ ∀ i, i < 24 → hc (71 + 3 * k) i = hm 11 (24 * k + i)) ∧ (hm 7 k = 3 → hc (69 + 3 * k) 4 = hm 8 k)
theorem Rl.slot {hc hc' hm hm' : xH} (hR : Rl hc hm) {k : Nat} (hk : k < 5) (c0 : ∀ q, ¬ (69 + 3 * k ≤ q ∧ q < 72 + 3 * k) → hc' q = hc q) (m0 : ∀ q, q < 7 ∨ 12 ≤ q → hm' q = hm q) (m1 : ∀ j, j ≠ k → hm' 7 j = hm 7 j ∧ hm' 8 j = hm 8 j ∧ hm' 9 j = hm 9 j ∧ hm' 10 j = hm 10 j) (m2 : ∀ j, ¬ (24 * k ≤ j ∧ j < 24 * k + 24) → hm' 11 j = hm 11 j) (hq : RQ1 hc' hm' k) : Rl hc' hm' := by
  obtain ⟨a, b, c, d, e, f⟩ := hR
  refine ⟨a.cg (fun q hq => c0 q (by omega)) (m0 1 (by omega)), b.cg (by rw [c0 0 (by omega)]) (fun q hq => c0 q (by omega)) (by rw [m0 0 (by omega)]) (m0 2 (by omega)) (by rw [m0 1 (by omega)]; exact Nat.le_refl _), c.cg (by rw [c0 21 (by omega)]) (c0 22 (by omega)) (by rw [m0 0 (by omega)]) (m0 14 (by omega)), d.cg (fun q q1 q2 => c0 q (by omega)) (m0 4 (by omega)) (m0 5 (by omega)) (m0 6 (by omega)), ?_, f.cg (by rw [c0 0 (by omega)]) (c0 84 (by omega)) (by rw [m0 0 (by omega)]) (m0 18 (by omega))⟩
  intro j hj
  by_cases q : j = k
  · subst q; exact hq
  · obtain ⟨n7, n8, n9, n10⟩ := m1 j q
    obtain ⟨e1, e2, e3, e4, e5⟩ := e j hj
    rw [c0 (69 + 3 * j) (by omega), c0 (70 + 3 * j) (by omega), c0 (71 + 3 * j) (by omega), n7, n8, n9, n10]
    refine ⟨e1, e2, e3, fun z => ?_, e5⟩
    obtain ⟨z1, z2, z3⟩ := e4 z
    exact ⟨z1, z2, fun i hi => by rw [m2 _ (by omega)]; exact z3 i hi⟩
/-- a row becomes another -/
theorem C_rowBecome {h : xH} {w a : Nat} (hd : a + 2 ≤ w ∨ w + 2 ≤ a) : ∃ h', f_X3_become w a h = some (0, h') ∧ h' w 1 = h a 1 ∧ h' w 2 = h a 2 ∧ (∀ i, i < 24 → h' (w + 1) i = h (a + 1) i) ∧ ∀ q, q ≠ w → q ≠ w + 1 → h' q = h q := by
  unfold f_X3_become
  rw [nm_x, nm_x, gc_ok (by decide), nm_x]
  refine ⟨_, rfl, ?_, ?_, fun i hi => ?_, fun q q1 q2 => ?_⟩
  · rw [xpt_ne (by omega), xst_self, pk_un (by omega), xst_self, pk_us]
  · rw [xpt_ne (by omega), xst_self, pk_us, xst_ne (by omega)]
  · rw [xpt_self, show Int32.toNatClampNeg 24 = 24 from rfl, cN_0, cpy0 hi, xst_ne (by omega), xst_ne (by omega)]
  · rw [xpt_ne q2, xst_ne q1, xst_ne q1]
