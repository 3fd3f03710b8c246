/-! one slot is laid -/
def RQ1 (hc hm : xH) (k : Nat) : Prop := hc (69 + 3 * k) 1 = hm 7 k ∧ (hm 7 k = 0 ∨ hm 7 k = 1 ∨ hm 7 k = 2 ∨ hm 7 k = 3) ∧ (hm 7 k = 1 → hc (69 + 3 * k) 2 = hm 8 k ∧ rg (hm 8 k) 5 ∧ hm 9 k = wthF (hc (69 + 3 * k) 2) (hc (69 + 3 * k) 3)) ∧ (hm 7 k = 2 → hc (70 + 3 * k) 2 = hm 10 k ∧ rg (hm 10 k) 24 ∧ ∀ i, i < 24 → hc (71 + 3 * k) i = hm 11 (24 * k + i)) ∧ (hm 7 k = 3 → hc (69 + 3 * k) 4 = hm 8 k)
theorem Rl.slot {hc hc' hm hm' : xH} (hR : Rl hc hm) {k : Nat} (hk : k < 5) (c0 : ∀ q, ¬ (69 + 3 * k ≤ q ∧ q < 72 + 3 * k) → hc' q = hc q) (m0 : ∀ q, q < 7 ∨ 12 ≤ q → hm' q = hm q) (m1 : ∀ j, j ≠ k → hm' 7 j = hm 7 j ∧ hm' 8 j = hm 8 j ∧ hm' 9 j = hm 9 j ∧ hm' 10 j = hm 10 j) (m2 : ∀ j, ¬ (24 * k ≤ j ∧ j < 24 * k + 24) → hm' 11 j = hm 11 j) (hq : RQ1 hc' hm' k) : Rl hc' hm' := by
  obtain ⟨a, b, c, d, e, f⟩ := hR
  refine ⟨a.cg (fun q hq => c0 q (by omega)) (m0 1 (by omega)), b.cg (by rw [c0 0 (by omega)]) (fun q hq => c0 q (by omega)) (by rw [m0 0 (by omega)]) (m0 2 (by omega)) (by rw [m0 1 (by omega)]; exact Nat.le_refl _), c.cg (by rw [c0 21 (by omega)]) (c0 22 (by omega)) (by rw [m0 0 (by omega)]) (m0 14 (by omega)), d.cg (fun q q1 q2 => c0 q (by omega)) (m0 4 (by omega)) (m0 5 (by omega)) (m0 6 (by omega)), ?_, f.cg (by rw [c0 0 (by omega)]) (c0 84 (by omega)) (by rw [m0 0 (by omega)]) (m0 18 (by omega))⟩
  intro j hj
  by_cases q : j = k
  · subst q; exact hq
  · obtain ⟨n7, n8, n9, n10⟩ := m1 j q
    obtain ⟨e1, e2, e3, e4, e5⟩ := e j hj
    rw [c0 (69 + 3 * j) (by omega), c0 (70 + 3 * j) (by omega), c0 (71 + 3 * j) (by omega), n7, n8, n9, n10]
    refine ⟨e1, e2, e3, fun z => ?_, e5⟩
    obtain ⟨z1, z2, z3⟩ := e4 z
    exact ⟨z1, z2, fun i hi => by rw [m2 _ (by omega)]; exact z3 i hi⟩
/-- a row becomes another -/
theorem C_rowBecome {h : xH} {w a : Nat} (hd : a + 2 ≤ w ∨ w + 2 ≤ a) : ∃ h', f_X3_become w a h = some (0, h') ∧ h' w 1 = h a 1 ∧ h' w 2 = h a 2 ∧ (∀ i, i < 24 → h' (w + 1) i = h (a + 1) i) ∧ ∀ q, q ≠ w → q ≠ w + 1 → h' q = h q := by
  unfold f_X3_become
  rw [nm_x, nm_x, gc_ok (by decide), nm_x]
  refine ⟨_, rfl, ?_, ?_, fun i hi => ?_, fun q q1 q2 => ?_⟩
  · rw [xpt_ne (by omega), xst_self, pk_un (by omega), xst_self, pk_us]
  · rw [xpt_ne (by omega), xst_self, pk_us, xst_ne (by omega)]
  · rw [xpt_self, show Int32.toNatClampNeg 24 = 24 from rfl, cN_0, cpy0 hi, xst_ne (by omega), xst_ne (by omega)]
  · rw [xpt_ne q2, xst_ne q1, xst_ne q1]
/-- the reference's row of a slot, copied place by place -/
def crw (g s : Nat → Int32) (k t i : Nat) : Nat → Int32 := fun j => if 24 * k ≤ j ∧ j < 24 * k + i then s (24 * t + (j - 24 * k)) else g j
theorem crw_0 {g s : Nat → Int32} {k t : Nat} : crw g s k t 0 = g := by
  funext j
  unfold crw
  rw [if_neg (by omega)]
theorem crw_s {g s : Nat → Int32} {k t i : Nat} : upd (crw g s k t i) (24 * k + i) (s (24 * t + i)) = crw g s k t (i + 1) := by
  funext j
  unfold upd crw
  by_cases c : j = 24 * k + i
  · rw [if_pos c, if_pos (by omega), c]
    congr 1
    omega
  · rw [if_neg c]
    by_cases c2 : 24 * k ≤ j ∧ j < 24 * k + i
    · rw [if_pos c2, if_pos (by omega)]
    · rw [if_neg c2, if_neg (by omega)]
theorem M_lay_l {h : xH} {k t : Nat} {a2 v5 : Int32} (hk : k < 5) (ht : t < 4) : ∀ m i f, i + m = 24 → m < f → f_X7_lay_c150 (nI k) a2 (nI t) f v5 (nI i) (xpt h 11 (crw (h 11) (h 6) k t i)) = some (v5, xpt h 11 (crw (h 11) (h 6) k t 24))
  | m, i, 0, _, h2 => absurd h2 (Nat.not_lt_zero _)
  | 0, i, f + 1, h1, _ => by rw [f_X7_lay_c150, if_pos (show (24 : Int32) ≤ nI i from nI_le (a := 24) (by omega) (by omega)), show i = 24 by omega]
  | m + 1, i, f + 1, h1, h2 => by
    rw [f_X7_lay_c150, if_neg (show ¬ (24 : Int32) ≤ nI i from nI_ge (b := 24) (by omega) (by omega)), ix24, ix24, gd_n (show 24 * t + i < 96 by omega) (by omega), gd_n (show 24 * k + i < 120 by omega) (by omega), nm_x, nI_clamp (show 24 * k + i < 2 ^ 31 by omega), nI_clamp (show 24 * t + i < 2 ^ 31 by omega), nI_1, xst, xpt_self, xpt_xpt, xpt_ne (show (6 : Nat) ≠ 11 by omega), crw_s]
    exact M_lay_l hk ht m (i + 1) f (by omega) (by omega)
