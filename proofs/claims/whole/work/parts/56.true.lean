/-! which tone is true -/
def cMw (σ : Nat → Int32) (a b : Int32) : Nat → Nat
  | 0 => 0
  | d + 1 => cMw σ a b d + (if σ (18 + 6 * d + 1) = a ∧ σ (18 + 6 * d + 2) = b then 1 else 0)
theorem cMw_le {σ : Nat → Int32} {a b : Int32} : ∀ d, cMw σ a b d ≤ d
  | 0 => Nat.le_refl _
  | d + 1 => by
    have := cMw_le (σ := σ) (a := a) (b := b) d
    rw [cMw]
    split <;> omega
theorem cMw_pos {σ : Nat → Int32} {a b : Int32} {i : Nat} (h1 : σ (18 + 6 * i + 1) = a) (h2 : σ (18 + 6 * i + 2) = b) : ∀ d, i < d → 0 < cMw σ a b d
  | 0, h => absurd h (Nat.not_lt_zero _)
  | d + 1, h => by
    rw [cMw]
    by_cases c : i = d
    · subst c
      rw [if_pos ⟨h1, h2⟩]
      omega
    · have := cMw_pos h1 h2 d (by omega)
      omega
theorem C_howMany_l {h : xH} {w N : Nat} {σ : Nat → Int32} {a b : Int32} (hw : WR h w σ) (h0 : σ 0 = nI N) (hN : N ≤ 10) : ∀ m d f, d + m = N → m < f → f_X5_howMany_c5 w a b f (nI (cMw σ a b d)) (nI d) h = some (nI (cMw σ a b N), h)
  | m, d, 0, _, h2 => absurd h2 (Nat.not_lt_zero _)
  | 0, d, f + 1, h1, _ => by rw [f_X5_howMany_c5, hw.days, h0, if_pos (nI_le (by omega) (by omega)), show d = N by omega]
  | m + 1, d, f + 1, h1, h2 => by
    have ih := C_howMany_l (a := a) (b := b) hw h0 hN m (d + 1) f (by omega) (by omega)
    rw [f_X5_howMany_c5, hw.days, h0, if_neg (nI_ge (by omega) (by omega)), gd_n (show d < 10 by omega) (by omega), gd_n (show d < 10 by omega) (by omega), nI_clamp (by omega), hw.day (k := 1) (by omega) (by omega) (a := w + 2) rfl, hw.day (k := 2) (by omega) (by omega) (a := w + 3) rfl]
    unfold f_X5_howMany_c39
    rw [nI_1, nI_1]
    rw [cMw] at ih
    by_cases c1 : σ (18 + 6 * d + 1) = a
    · rw [if_pos c1]
      by_cases c2 : σ (18 + 6 * d + 2) = b
      · rw [if_pos c2]
        rw [if_pos ⟨c1, c2⟩] at ih
        exact ih
      · rw [if_neg c2]
        rw [if_neg (fun q => c2 q.2)] at ih
        exact ih
    · rw [if_neg c1]
      rw [if_neg (fun q => c1 q.1)] at ih
      exact ih
theorem C_howMany {h : xH} {w N : Nat} {σ : Nat → Int32} {a b : Int32} (hw : WR h w σ) (h0 : σ 0 = nI N) (hN : N ≤ 10) : f_X5_howMany w a b h = some (nI (cMw σ a b N), h) := C_howMany_l hw h0 hN N 0 xN (by omega) (by unfold xN; omega)
theorem M_manyWith_l {h : xH} {N : Nat} {a b : Int32} (h0 : h 1 0 = nI N) (hN : N ≤ 10) : ∀ m d f, d + m = N → m < f → f_X7_manyWith_c5 a b f (nI (cMw (h 1) a b d)) (nI d) h = some (nI (cMw (h 1) a b N), h)
  | m, d, 0, _, h2 => absurd h2 (Nat.not_lt_zero _)
  | 0, d, f + 1, h1, _ => by rw [f_X7_manyWith_c5, gS_0, cN_0, h0, if_pos (nI_le (by omega) (by omega)), show d = N by omega]
  | m + 1, d, f + 1, h1, h2 => by
    have ih := M_manyWith_l (a := a) (b := b) h0 hN m (d + 1) f (by omega) (by omega)
    rw [f_X7_manyWith_c5, gS_0, cN_0, h0, if_neg (nI_ge (by omega) (by omega)), M_of (j := 1) (k := 1) rfl (by omega) (by omega), bn_s, M_of (j := 2) (k := 2) rfl (by omega) (by omega), bn_s]
    unfold f_X7_manyWith_c43 f_X7_manyWith_c44
    rw [nI_1, nI_1, Int32.add_zero]
    rw [cMw] at ih
    by_cases c1 : h 1 (18 + 6 * d + 1) = a
    · rw [if_pos c1]
      by_cases c2 : h 1 (18 + 6 * d + 2) = b
      · rw [if_pos c2]
        rw [if_pos ⟨c1, c2⟩] at ih
        exact ih
      · rw [if_neg c2]
        rw [if_neg (fun q => c2 q.2)] at ih
        exact ih
    · rw [if_neg c1]
      rw [if_neg (fun q => c1 q.1)] at ih
      exact ih
theorem M_manyWith {h : xH} {N : Nat} {a b : Int32} (h0 : h 1 0 = nI N) (hN : N ≤ 10) : f_X7_manyWith a b h = some (nI (cMw (h 1) a b N), h) := M_manyWith_l h0 hN N 0 xN (by omega) (by unfold xN; omega)
def cbF (c : Nat → Nat) : Nat → Nat
  | 0 => 0
  | j + 1 => if c j ≤ c (cbF c j) then cbF c j else j
theorem cbF_1 {c : Nat → Nat} : cbF c 1 = 0 := by rw [cbF, cbF, if_pos (Nat.le_refl _)]
theorem cbF_le {c : Nat → Nat} : ∀ j, cbF c (j + 1) ≤ j
  | 0 => by rw [cbF_1]; exact Nat.le_refl _
  | j + 1 => by
    have := cbF_le (c := c) j
    rw [cbF]
    split <;> omega
theorem cbF_max {c : Nat → Nat} : ∀ j t, t < j → c t ≤ c (cbF c j)
  | 0, t, h => absurd h (Nat.not_lt_zero _)
  | j + 1, t, h => by
    rw [cbF]
    by_cases q : c j ≤ c (cbF c j)
    · rw [if_pos q]
      by_cases e : t = j
      · subst e; exact q
      · exact cbF_max j t (by omega)
    · rw [if_neg q]
      by_cases e : t = j
      · subst e; exact Nat.le_refl _
      · have := cbF_max (c := c) j t (by omega)
        omega
def cnF (σ : Nat → Int32) (a : Int32) (N : Nat) : Nat → Nat := fun t => cMw σ a (nI t) N
theorem cnF_le {σ : Nat → Int32} {a : Int32} {N t : Nat} : cnF σ a N t ≤ N := cMw_le N
theorem C_trueTone_l {h : xH} {w N : Nat} {σ : Nat → Int32} {a : Int32} (hw : WR h w σ) (h0 : σ 0 = nI N) (hN : N ≤ 10) : ∀ m j f, j + m = 10 → m < f → f_X5_trueTone_c4 w a f (nI (cbF (cnF σ a N) j)) (nI j) h = some (nI (cbF (cnF σ a N) 10), h)
  | m, j, 0, _, h2 => absurd h2 (Nat.not_lt_zero _)
  | 0, j, f + 1, h1, _ => by
    have hj : j = 10 := by omega
    subst hj
    rw [f_X5_trueTone_c4, if_pos (show (9 : Int32) < nI 10 by decide)]
  | m + 1, j, f + 1, h1, h2 => by
    have ih := C_trueTone_l (a := a) hw h0 hN m (j + 1) f (by omega) (by omega)
    have b1 : cnF σ a N j ≤ N := cnF_le
    have b2 : cnF σ a N (cbF (cnF σ a N) j) ≤ N := cnF_le
    rw [f_X5_trueTone_c4, if_neg (show ¬ (9 : Int32) < nI j from nI_nlt (a := 9) (by omega) (by omega)), C_howMany hw h0 hN, bn_s, C_howMany hw h0 hN, bn_s]
    unfold f_X5_trueTone_c27
    rw [nI_1]
    show (if nI (cnF σ a N j) ≤ nI (cnF σ a N (cbF (cnF σ a N) j)) then _ else _) = _
    rw [cbF] at ih
    by_cases c : cnF σ a N j ≤ cnF σ a N (cbF (cnF σ a N) j)
    · rw [if_pos (nI_le c (by omega))]
      rw [if_pos c] at ih
      exact ih
    · rw [if_neg (nI_ge (by omega) (by omega))]
      rw [if_neg c] at ih
      exact ih
theorem C_trueTone {h : xH} {w N : Nat} {σ : Nat → Int32} {a : Int32} (hw : WR h w σ) (h0 : σ 0 = nI N) (hN : N ≤ 10) : f_X5_trueTone w a h = some (nI (cbF (cnF σ a N) 10), h) := by
  have := C_trueTone_l (a := a) hw h0 hN 9 1 xN (by omega) (by unfold xN; omega)
  rw [cbF_1] at this
  exact this
def tF (c : Nat → Nat) (j : Nat) : Int32 := if c (cbF c j) = 0 then -1 else nI (cbF c j)
theorem M_trueOf_l {h : xH} {N : Nat} {a : Int32} (h0 : h 1 0 = nI N) (hN : N ≤ 10) : ∀ m j f, j + m = 10 → 1 ≤ j → m < f → f_X7_trueOf_c7 a f (tF (cnF (h 1) a N) j) (nI (cnF (h 1) a N (cbF (cnF (h 1) a N) j))) (nI j) h = some (tF (cnF (h 1) a N) 10, h)
  | m, j, 0, _, _, h2 => absurd h2 (Nat.not_lt_zero _)
  | 0, j, f + 1, h1, _, _ => by
    have hj : j = 10 := by omega
    subst hj
    rw [f_X7_trueOf_c7, if_pos (show (10 : Int32) ≤ nI 10 by decide)]
  | m + 1, j, f + 1, h1, hj, h2 => by
    have ih := M_trueOf_l (a := a) h0 hN m (j + 1) f (by omega) (by omega) (by omega)
    have b1 : cnF (h 1) a N j ≤ N := cnF_le
    have b2 : cnF (h 1) a N (cbF (cnF (h 1) a N) j) ≤ N := cnF_le
    rw [f_X7_trueOf_c7, if_neg (show ¬ (10 : Int32) ≤ nI j from nI_ge (b := 10) (by omega) (by omega)), M_manyWith h0 hN, bn_s]
    unfold f_X7_trueOf_c35
    rw [nI_1]
    show (if nI (cnF (h 1) a N j) ≤ nI (cnF (h 1) a N (cbF (cnF (h 1) a N) j)) then f_X7_trueOf_c7 a f _ _ _ h else f_X7_trueOf_c7 a f (nI j) (nI (cnF (h 1) a N j)) (nI (j + 1)) h) = _
    unfold tF at ih
    rw [cbF] at ih
    by_cases c : cnF (h 1) a N j ≤ cnF (h 1) a N (cbF (cnF (h 1) a N) j)
    · rw [if_pos (nI_le c (by omega))]
      rw [if_pos c] at ih
      exact ih
    · rw [if_neg (nI_ge (by omega) (by omega))]
      rw [if_neg c, if_neg (show ¬ cnF (h 1) a N j = 0 by omega)] at ih
      exact ih
theorem M_trueOf {h : xH} {N : Nat} {a : Int32} (h0 : h 1 0 = nI N) (hN : N ≤ 10) : f_X7_trueOf a h = some (tF (cnF (h 1) a N) 10, h) := by
  obtain ⟨f, hf⟩ : ∃ f, xN = f + 1 := ⟨xN - 1, by unfold xN; omega⟩
  have b1 : cnF (h 1) a N 0 ≤ N := cnF_le
  have ih := M_trueOf_l (a := a) h0 hN 9 1 f (by omega) (by omega) (by unfold xN at hf; omega)
  unfold f_X7_trueOf
  rw [hf, f_X7_trueOf_c7, if_neg (by decide), M_manyWith h0 hN, bn_s]
  unfold f_X7_trueOf_c35
  show (if nI (cnF (h 1) a N 0) ≤ 0 then f_X7_trueOf_c7 a f (-1) 0 1 h else f_X7_trueOf_c7 a f 0 (nI (cnF (h 1) a N 0)) 1 h) = _
  rw [cbF_1] at ih
  rw [tF, cbF_1] at ih
  by_cases c : cnF (h 1) a N 0 = 0
  · rw [if_pos (by rw [c]; decide)]
    rw [if_pos c, c] at ih
    exact ih
  · rw [if_neg (nI_nle (by omega) (by omega))]
    rw [if_neg c] at ih
    exact ih
theorem S_isTrue_ok {κ : Nat} (hκ : κ < 64) : S_isTrue (Rk κ) (Rk (κ + 1)) := by
  intro a1 hc hm hR
  refine Sm.k hκ hR ?_
  have hR := hR.1
  obtain ⟨⟨N, hN, h0⟩, -⟩ := hR.1.2.1
  simp only [f_X6_isTrue, f_X7_isTrue, C_within, M_0_99, bn_s, b01]
  refine Sm.ite (fun c1 => ?_) (fun _ => .ret hR)
  have b1 : cnF (hm 1) a1 N (cbF (cnF (hm 1) a1 N) 10) ≤ N := cnF_le
  have b2 : cbF (cnF (hm 1) a1 N) 10 ≤ 9 := cbF_le (c := cnF (hm 1) a1 N) 9
  rw [C_trueTone hR.1.1 h0 hN, bn_s, C_howMany hR.1.1 h0 hN, bn_s, M_trueOf h0 hN, bn_s, M_orNone, bn_s]
  show Sm hm (if nI (cnF (hm 1) a1 N (cbF (cnF (hm 1) a1 N) 10)) = 0 then _ else _) _
  unfold tF
  by_cases c : cnF (hm 1) a1 N (cbF (cnF (hm 1) a1 N) 10) = 0
  · rw [if_pos c, if_pos (by rw [c]; rfl), if_neg (by decide)]
    exact .ret hR
  · rw [if_neg c, if_neg (nI_ne0 (by omega) (by omega)), if_pos (nI_pos' (by omega))]
    exact .ret hR
theorem false_l {hc hm : xH} (hR : Rl hc hm) {N : Nat} (h0 : hm 1 0 = nI N) (hN : N ≤ 10) : ∀ m d f1 f2 (v : Int32), d + m = N → m < f1 → m < f2 → Sm hm (f_X5_falseDays_c4 24 f1 v (nI d) hc) (f_X7_falseMany_c4 f2 v (nI d) hm)
  | m, d, 0, f2, v, _, h2, _ => absurd h2 (Nat.not_lt_zero _)
  | m, d, f1 + 1, 0, v, _, _, h2 => absurd h2 (Nat.not_lt_zero _)
  | 0, d, f1 + 1, f2 + 1, v, h1, _, _ => by
    rw [f_X5_falseDays_c4, f_X7_falseMany_c4, gS_0, cN_0, hR.1.1.days, h0, if_pos (nI_le (by omega) (by omega)), if_pos (nI_le (by omega) (by omega))]
    exact .ret hR
  | m + 1, d, f1 + 1, f2 + 1, v, h1, h2, h3 => by
    have ih := false_l hR h0 hN m (d + 1) f1 f2
    rw [f_X5_falseDays_c4, f_X7_falseMany_c4, gS_0, cN_0, hR.1.1.days, h0, if_neg (nI_ge (by omega) (by omega)), if_neg (nI_ge (by omega) (by omega)), gd_n (show d < 10 by omega) (by omega), gd_n (show d < 10 by omega) (by omega), nI_clamp (by omega), C_trueTone hR.1.1 h0 hN, bn_s, M_of (j := 2) (k := 2) rfl (by omega) (by omega), bn_s, M_of (j := 1) (k := 1) rfl (by omega) (by omega), bn_s, M_trueOf h0 hN, bn_s, hR.1.1.day (k := 1) (by omega) (by omega) (a := 24 + 2) rfl, hR.1.1.day (k := 2) (by omega) (by omega) (a := 24 + 3) rfl]
    unfold f_X5_falseDays_c34 f_X7_falseMany_c39
    rw [nI_1, Int32.add_zero]
    obtain ⟨t, ht, ht2, e⟩ := rg_nI (hR.1.2.1.dd (d := d) (k := 2) (by omega) (by omega))
    have ht : (t : Int) ≤ 9 := ht
    have p1 : 0 < cnF (hm 1) (hm 1 (18 + 6 * d + 1)) N t := cMw_pos rfl e N (by omega)
    have p2 := cbF_max (c := cnF (hm 1) (hm 1 (18 + 6 * d + 1)) N) 10 t (by omega)
    have tf : tF (cnF (hm 1) (hm 1 (18 + 6 * d + 1)) N) 10 = nI (cbF (cnF (hm 1) (hm 1 (18 + 6 * d + 1)) N) 10) := by rw [tF, if_neg (by omega)]
    rw [tf]
    exact Sm.ite (fun _ => ih _ (by omega) (by omega) (by omega)) (fun _ => ih _ (by omega) (by omega) (by omega))
theorem S_falseMany_ok {κ : Nat} (hκ : κ < 64) : S_falseMany (Rk κ) (Rk (κ + 1)) := by
  intro hc hm hR
  refine Sm.k hκ hR ?_
  have hR := hR.1
  obtain ⟨⟨N, hN, h0⟩, -⟩ := hR.1.2.1
  obtain ⟨r, hc1, hm1, e1, e2, e3, e4⟩ := false_l hR h0 hN N 0 xN xN 0 (by omega) (by unfold xN; omega) (by unfold xN; omega)
  refine ⟨r, hc1, hm1, ?_, e2, e3, e4⟩
  rw [f_X6_falseMany, f_X5_falseDays, show f_X5_falseDays_c4 24 xN 0 0 hc = _ from e1, bn_s]
