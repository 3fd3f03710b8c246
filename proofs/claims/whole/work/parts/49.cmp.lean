def dfN (σ row : Nat → Int32) (k d : Nat) : Nat → Int32
  | 0 => 0
  | n + 1 => dfN σ row k d n + (if row (24 * k + n) = -1000000005 then 0 else ofA (row (24 * k + n)) (gOnN σ n (18 + 6 * d + 3)))
theorem dst_0 {D τ : Nat → Int32} {x : Int32} : dst D τ x 0 = D := by
  funext j
  unfold dst
  rw [if_neg (by omega)]
theorem C_cw_out {σ row : Nat → Int32} {N k n : Nat} {a1 a2 : Int32} (hk : k < 4) (hn : n ≤ 24) (hN : N ≤ 10) (hb : Bnd σ) (h0 : σ 0 = nI N) (hv : ∀ j, j < 96 → vok (row j)) : ∀ m i f (h : xH), i + m = n → m < f → CW h 44 (gOnN σ i) → (∀ j, j < N → h 58 j = dfN σ row k j i) → h (60 + 2 * k) 2 = nI n → (∀ j, j < 24 → h (60 + 2 * k + 1) j = row (24 * k + j)) → ∃ h', f_X6_toldBy_c62 a1 a2 f (60 + 2 * k) (nI i) h = f_X6_toldBy_c111 a1 a2 xN 0 1 h' ∧ (∀ j, j < N → h' 58 j = dfN σ row k j n) ∧ ∀ q, q ≠ 58 → q ≠ 20 → ¬ (44 ≤ q ∧ q < 54) → h' q = h q
  | m, i, 0, h, _, h2, _, _, _, _ => absurd h2 (Nat.not_lt_zero _)
  | 0, i, f + 1, h, h1, _, hw, hD, hs, _ => by
    have hd : i = n := by omega
    subst hd
    exact ⟨h, by rw [f_X6_toldBy_c62, hs, if_pos (nI_le (by omega) (by omega))], hD, fun _ _ _ _ => rfl⟩
  | m + 1, i, f + 1, h, h1, h2, hw, hD, hs, hr => by
    have go : ∀ g : xH, CW g 44 (gOnN σ i) → (∀ j, j < N → g 58 j = dfN σ row k j (i + 1)) → (∀ q, q ≠ 58 → g q = h q) → ∃ h', f_X6_toldBy_c91 (f_X6_toldBy_c62 a1 a2 f) a1 a2 (60 + 2 * k) (nI i) g = f_X6_toldBy_c111 a1 a2 xN 0 1 h' ∧ (∀ j, j < N → h' 58 j = dfN σ row k j n) ∧ ∀ q, q ≠ 58 → q ≠ 20 → ¬ (44 ≤ q ∧ q < 54) → h' q = h q := by
      intro g gw gD gf
      obtain ⟨g2, c1, c2, c3⟩ := C_goOn (n := 1) gw (by omega) (by omega)
      obtain ⟨h', i1, i2, i3⟩ := C_cw_out (a1 := a1) (a2 := a2) hk hn hN hb h0 hv m (i + 1) f g2 (by omega) (by omega) c2 (fun j hj => by rw [c3 58 (by omega) (by omega)]; exact gD j hj) (by rw [c3 _ (by omega) (by omega), gf _ (by omega)]; exact hs) (fun j hj => by rw [c3 _ (by omega) (by omega), gf _ (by omega)]; exact hr j hj)
      refine ⟨h', ?_, i2, fun q q1 q2 q3 => (i3 q q1 q2 q3).trans ((c3 q q3 q2).trans (gf q q1))⟩
      unfold f_X6_toldBy_c91
      rw [nI_1, show (1 : Int32) = nI 1 from rfl, c1, bn_s]
      exact i1
    rw [f_X6_toldBy_c62, hs, if_neg (nI_ge (by omega) (by omega)), C_isNumber (by omega), bn_s, b10, gd_n (show i < 24 by omega) (by omega), nI_clamp (show i < 2 ^ 31 by omega), hr i (by omega)]
    by_cases c : row (24 * k + i) = -1000000005
    · rw [if_pos c]
      exact go h hw (fun j hj => by rw [dfN, if_pos c, Int32.add_zero]; exact hD j hj) (fun _ _ => rfl)
    · rw [if_neg c]
      obtain ⟨g, e1, e2, e3⟩ := C_cw_in (D := h 58) (τ := gOnN σ i) (x := row (24 * k + i)) hN ((gOnN_ne hb (by omega) i).trans h0) (hv _ (by omega)) c N 0 xN h (by omega) (by unfold xN; omega) hw dst_0.symm
      rw [f_X6_addDifferences, show f_X6_addDifferences_c2 (row (24 * k + i)) xN 0 h = _ from e1, bn_s]
      refine go g ⟨hw.1.keep (fun a _ h2 => e3 a (by omega)), hw.2.1.cg (fun a _ h2 => e3 a (by omega)) (fun _ _ => rfl), hw.2.2⟩ (fun j hj => ?_) e3
      rw [e2, dst, if_pos hj, hD j hj, dfN, if_neg c]
theorem C_cw_z {h : xH} : ∀ m i f, i + m = 10 → m < f → f_X6_startDifferences_c13 f (nI i) (xpt h 58 (cpk zz (h 58) i)) = some (0, xpt h 58 (cpk zz (h 58) 10))
  | m, i, 0, _, h2 => absurd h2 (Nat.not_lt_zero _)
  | 0, i, f + 1, h1, _ => by rw [f_X6_startDifferences_c13, if_pos (show (10 : Int32) ≤ nI i from nI_le (a := 10) (by omega) (by omega)), show i = 10 by omega]
  | m + 1, i, f + 1, h1, h2 => by
    rw [f_X6_startDifferences_c13, if_neg (show ¬ (10 : Int32) ≤ nI i from nI_ge (b := 10) (by omega) (by omega)), gd_n (by omega) (by omega), nm_x, nI_clamp (by omega), nI_1, xst, xpt_self, xpt_xpt, show upd (cpk zz (h 58) i) i 0 = cpk zz (h 58) (i + 1) from cpk_s]
    exact C_cw_z m (i + 1) f (by omega) (by omega)
/-- the class's differences, all at once -/
theorem C_differ {hc hm : xH} (hR : Rl hc hm) {k n N : Nat} {a1 a2 : Int32} (hk : k < 4) (hn : n ≤ 24) (hs : hm 5 k = nI n) (h0 : hm 1 0 = nI N) (hN : N ≤ 10) : ∃ g, (bn (f_X6_startDifferences hc) fun _ h => f_X6_toldBy_c62 a1 a2 xN (60 + 2 * k) 0 h) = f_X6_toldBy_c111 a1 a2 xN 0 1 g ∧ (∀ j, j < N → g 58 j = dfN (hm 1) (hm 6) k j n) ∧ cS hc g := by
  obtain ⟨d1, d2, d3, d4, d5⟩ := hR.2.2.2.1.1 k hk
  obtain ⟨g1, e1, e2, -, e4⟩ := C_think hR
  have z := C_cw_z (h := g1) 10 0 xN (by omega) (by unfold xN; omega)
  rw [cpk_0, xpt_id] at z
  have hf : ∀ q, q ≠ 58 → xpt g1 58 (cpk zz (g1 58) 10) q = g1 q := fun q hq => xpt_ne hq
  have e2' : CW (xpt g1 58 (cpk zz (g1 58) 10)) 44 (hm 1) := ⟨e2.1.keep (fun a _ h2 => hf a (by omega)), e2.2.1.cg (fun a _ h2 => hf a (by omega)) (fun _ _ => rfl), e2.2.2⟩
  obtain ⟨g, i1, i2, i3⟩ := C_cw_out (σ := hm 1) (row := hm 6) (k := k) (n := n) (a1 := a1) (a2 := a2) hk hn hN hR.1.2.1 h0 hR.2.2.2.1.2 n 0 xN (xpt g1 58 (cpk zz (g1 58) 10)) (by omega) (by unfold xN; omega) e2' (fun j hj => by rw [xpt_self, cpk_lt (by omega)]; rfl) (by rw [hf _ (by omega), e4 _ (by omega), d2, hs]) (fun j hj => by rw [hf _ (by omega), e4 _ (by omega), show 60 + 2 * k + 1 = 61 + 2 * k by omega]; exact d5 j hj)
  refine ⟨g, ?_, i2, fun q q1 q2 q3 q4 => (i3 q (by omega) q1 q3).trans ((hf q (by omega)).trans (e4 q q3))⟩
  unfold f_X6_startDifferences
  rw [e1, bn_s, show f_X6_startDifferences_c13 xN 0 g1 = _ from z, bn_s]
  exact i1
