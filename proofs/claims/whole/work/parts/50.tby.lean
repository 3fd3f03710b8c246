/-! told by a sheet -/
theorem M_td {hc hm : xH} {K : Int32 → Int32 → Int32 → xH → Option (Int32 × xH)} {k n d : Nat} {a2 v3 v4 : Int32} (hl : LW hc (hm 1)) (hb : Bnd (hm 1)) (hk : k < 4) (hn : n ≤ 24) (hd : d < 10) (hs : hm 5 k = nI n) : ∀ m j f (h : xH), j + m = n → m < f → h 1 = gOnN (hm 1) j → BK hm h → ∃ h', f_X7_toldBy_c62 K (nI k) a2 f v3 v4 (nI d) (dfN (hm 1) (hm 6) k d j) (nI j) h = (if v3 < 0 then K (nI d) (dfN (hm 1) (hm 6) k d n) (nI (d + 1)) h' else if v4 ≤ dfN (hm 1) (hm 6) k d n then K v3 v4 (nI (d + 1)) h' else K (nI d) (dfN (hm 1) (hm 6) k d n) (nI (d + 1)) h') ∧ h' 1 = hm 1 ∧ BK hm h'
  | m, j, 0, h, _, h2, _, _ => absurd h2 (Nat.not_lt_zero _)
  | 0, j, f + 1, h, h1, _, h1s, bk => by
    have hj : j = n := by omega
    subst hj
    obtain ⟨h', b1, b2, b3, b4⟩ := M_back bk
    refine ⟨h', ?_, b3, b4⟩
    rw [f_X7_toldBy_c62, gd_n hk (by omega), nI_clamp (show k < 2 ^ 31 by omega), bk.2.2 5 (by omega) (by omega) (by omega) (by omega), hs, if_pos (nI_le (by omega) (by omega)), b1, bn_s]
    unfold f_X7_toldBy_c140 f_X7_toldBy_c147
    rw [nI_1]
  | m + 1, j, f + 1, h, h1, h2, h1s, bk => by
    have h6 : h 6 = hm 6 := bk.2.2 6 (by omega) (by omega) (by omega) (by omega)
    obtain ⟨g, e1, e2, e3⟩ := M_goesOn (hc := hc) (h := h) ⟨by rw [h1s]; exact hl.s (fun j' hj => gOnN_ne hb (by omega) j), by rw [h1s]; exact gOnN_b hb j⟩
    have bk' : BK hm g := bk.mf e3 (fun i hi => by rw [e2, gOn_ne (by rw [h1s]; exact gOnN_b hb j) (by omega) (by omega)])
    obtain ⟨h', i1, i2, i3⟩ := M_td (K := K) (a2 := a2) (v3 := v3) (v4 := v4) hl hb hk hn hd hs m (j + 1) f g (by omega) (by omega) (by rw [e2, h1s]; rfl) bk'
    refine ⟨h', ?_, i2, i3⟩
    rw [f_X7_toldBy_c62, gd_n hk (by omega), nI_clamp (show k < 2 ^ 31 by omega), bk.2.2 5 (by omega) (by omega) (by omega) (by omega), hs, if_neg (nI_ge (by omega) (by omega)), ix24, gd_n (show 24 * k + j < 96 by omega) (by omega), nI_clamp (show 24 * k + j < 2 ^ 31 by omega), nm_x, h6]
    unfold f_X7_toldBy_c112
    rw [dfN] at i1
    by_cases c : hm 6 (24 * k + j) = -1000000005
    · rw [if_pos c, e1, bn_s, nI_1]
      rw [if_pos c] at i1
      exact i1
    · rw [if_neg c, M_of (j := 3) (k := 3) rfl hd (by omega), bn_s, M_off, bn_s, e1, bn_s, nI_1, h1s]
      rw [if_neg c] at i1
      exact i1
def lst (D : Nat → Int32) : Nat → Nat
  | 0 => 0
  | j + 1 => if D (lst D j) ≤ D j then lst D j else j
theorem lst_1 {D : Nat → Int32} : lst D 1 = 0 := by rw [lst, lst, if_pos Int32.le_rfl]
theorem lst_lt {D : Nat → Int32} : ∀ j, 1 ≤ j → lst D j < j
  | 0, h => absurd h (by omega)
  | 1, _ => by rw [lst_1]; omega
  | j + 2, _ => by
    have := lst_lt (D := D) (j + 1) (by omega)
    rw [lst]
    split <;> omega
theorem C_td {g : xH} {N : Nat} {D : Nat → Int32} {a1 a2 : Int32} (h24 : g 24 10 = nI N) (hN : N ≤ 10) (hD : ∀ j, j < N → g 58 j = D j) : ∀ m j f, j + m = N → 1 ≤ j → m < f → f_X6_toldBy_c111 a1 a2 f (nI (lst D j)) (nI j) g = if a2 = 0 then some (nI (lst D N), g) else some (D (lst D N), g)
  | m, j, 0, _, _, h2 => absurd h2 (Nat.not_lt_zero _)
  | 0, j, f + 1, h1, hj, _ => by
    have hd : j = N := by omega
    subst hd
    have hl := lst_lt (D := D) j hj
    rw [f_X6_toldBy_c111, h24, if_pos (nI_le (by omega) (by omega)), gd_n (show lst D j < 10 by omega) (by omega), nI_clamp (by omega), hD _ hl]
  | m + 1, j, f + 1, h1, hj, h2 => by
    have hl := lst_lt (D := D) j hj
    have ih := C_td (a1 := a1) (a2 := a2) h24 hN hD m (j + 1) f (by omega) (by omega) (by omega)
    rw [lst] at ih
    rw [f_X6_toldBy_c111, h24, if_neg (nI_ge (by omega) (by omega)), gd_n (show j < 10 by omega) (by omega), gd_n (show lst D j < 10 by omega) (by omega), nI_clamp (show j < 2 ^ 31 by omega), nI_clamp (show lst D j < 2 ^ 31 by omega), hD _ (show lst D j < N by omega), hD j (by omega)]
    unfold f_X6_toldBy_c144
    rw [nI_1]
    by_cases c : D (lst D j) ≤ D j
    · rw [if_pos c] at ih ⊢; exact ih
    · rw [if_neg c] at ih ⊢; exact ih
theorem M_td_out {hc hm : xH} {k n N : Nat} {a2 : Int32} (hl : LW hc (hm 1)) (hb : Bnd (hm 1)) (hk : k < 4) (hn : n ≤ 24) (hs : hm 5 k = nI n) (h0 : hm 1 0 = nI N) (hN : N ≤ 10) : ∀ m i f (h : xH) (v3 v4 : Int32), i + m = N → (1 ≤ i ∨ 1 ≤ m) → m < f → h 1 = hm 1 → BK hm h → ((i = 0 ∧ v3 = -1) ∨ (1 ≤ i ∧ v3 = nI (lst (fun d => dfN (hm 1) (hm 6) k d n) i) ∧ v4 = dfN (hm 1) (hm 6) k (lst (fun d => dfN (hm 1) (hm 6) k d n) i) n)) → ∃ h', f_X7_toldBy_c45 (nI k) a2 f v3 v4 (nI i) h = (if a2 = 0 then some (nI (lst (fun d => dfN (hm 1) (hm 6) k d n) N), h') else some (dfN (hm 1) (hm 6) k (lst (fun d => dfN (hm 1) (hm 6) k d n) N) n, h')) ∧ h' 1 = hm 1 ∧ BK hm h'
  | m, i, 0, h, v3, v4, _, _, h2, _, _, _ => absurd h2 (Nat.not_lt_zero _)
  | 0, i, f + 1, h, v3, v4, h1, h1', _, h1s, bk, hv => by
    have hd : i = N := by omega
    subst hd
    rcases hv with hv | ⟨hi, rfl, rfl⟩
    · omega
    have hl := lst_lt (D := fun d => dfN (hm 1) (hm 6) k d n) i hi
    refine ⟨h, ?_, h1s, bk⟩
    rw [f_X7_toldBy_c45, gS_0, cN_0, h1s, h0, if_pos (nI_le (by omega) (by omega)), if_pos (nI_pos' (by omega))]
  | m + 1, i, f + 1, h, v3, v4, h1, h1', h2, h1s, bk, hv => by
    obtain ⟨g, e1, e2, e3⟩ := M_td (K := f_X7_toldBy_c45 (nI k) a2 f) (a2 := a2) (v3 := v3) (v4 := v4) (d := i) hl hb hk hn (by omega) hs n 0 xN h (by omega) (by unfold xN; omega) h1s bk
    have ih := fun u w => M_td_out (a2 := a2) hl hb hk hn hs h0 hN m (i + 1) f g u w (by omega) (by omega) (by omega) e2 e3
    rw [f_X7_toldBy_c45, gS_0, cN_0, h1s, h0, if_neg (nI_ge (by omega) (by omega)), show f_X7_toldBy_c62 (f_X7_toldBy_c45 (nI k) a2 f) (nI k) a2 xN v3 v4 (nI i) 0 0 h = _ from e1]
    rcases hv with ⟨rfl, rfl⟩ | ⟨hi, rfl, rfl⟩
    · rw [if_pos (show (-1 : Int32) < 0 by decide)]
      exact ih _ _ (Or.inr ⟨by omega, by rw [lst_1], by rw [lst_1]⟩)
    · have hl2 := lst_lt (D := fun d => dfN (hm 1) (hm 6) k d n) i hi
      rw [if_neg (Int32.not_lt.mpr (nI_pos' (by omega)))]
      by_cases c : dfN (hm 1) (hm 6) k (lst (fun d => dfN (hm 1) (hm 6) k d n) i) n ≤ dfN (hm 1) (hm 6) k i n
      · rw [if_pos c]
        exact ih _ _ (Or.inr ⟨by omega, by rw [lst, if_pos c], by rw [lst, if_pos c]⟩)
      · rw [if_neg c]
        exact ih _ _ (Or.inr ⟨by omega, by rw [lst, if_neg c], by rw [lst, if_neg c]⟩)
theorem S_toldBy_ok {κ : Nat} (hκ : κ < 64) : S_toldBy (Rk κ) (Rk (κ + 1)) := by
  intro a1 a2 hc hm hR
  refine Sm.k hκ hR ?_
  have hR := hR.1
  simp only [f_X6_toldBy, f_X7_toldBy, C_isSheet, M_isSheet, C_within, M_0_1, bn_s, b01]
  refine Sm.ite (fun c1 => Sm.ite (fun c2 => ?_) (fun _ => .ret hR)) (fun _ => .ret hR)
  obtain ⟨k, hk, rfl⟩ := in_nI (n := 3) (M := 3) rfl c1
  obtain ⟨d1, d2, d3, d4, d5⟩ := hR.2.2.2.1.1 k (by omega)
  obtain ⟨n, hn, -, hs⟩ := rg_nI d4
  have hn : (n : Int) ≤ 24 := hn
  obtain ⟨⟨N, hN, h0⟩, -⟩ := hR.1.2.1
  simp only [gd_n (show k < 4 by omega) (show 4 < 2 ^ 31 by omega), nI_clamp (show k < 2 ^ 31 by omega), d1, M_laysBy, bn_s, hR.1.1.days, h0]
  by_cases c : hm 4 k = -1
  · rw [if_pos c, if_neg (fun q => (sort_pos d3).mp q c)]
    exact .ret hR
  rw [if_neg c, if_pos ((sort_pos d3).mpr c)]
  by_cases cN : N = 0
  · subst cN
    obtain ⟨f, hf⟩ := xN_s
    rw [if_pos (show nI 0 = 0 from rfl), hf, f_X7_toldBy_c45, gS_0, cN_0, xpt_ne (by omega), h0, if_pos (show nI 0 ≤ 0 by decide), if_neg (show ¬ (0 : Int32) ≤ -1 by decide)]
    exact .fin hR cS.rf (BK.st.ms (xpt_ne (by omega)))
  rw [if_neg (show ¬ nI N = 0 from fun q => cN ((nI_eq (b := 0) (by omega) (by omega)).mp q))]
  obtain ⟨g, e1, e2, e3⟩ := C_differ hR (k := k) (n := n) (N := N) (a1 := nI k) (a2 := a2) (by omega) (by omega) hs h0 hN
  obtain ⟨h', m1, m2, m3⟩ := M_td_out (hc := hc) (hm := hm) (a2 := a2) (k := k) (n := n) (N := N) hR.1.2.2.2 hR.1.2.1 (by omega) (by omega) hs h0 hN N 0 xN (xpt hm 13 (cpk (hm 1) (hm 13) 78)) (-1) 0 (by omega) (by omega) (by unfold xN; omega) (xpt_ne (by omega)) BK.st (Or.inl ⟨rfl, rfl⟩)
  have x1 := C_td (a1 := nI k) (a2 := a2) (g := g) (N := N) (D := fun d => dfN (hm 1) (hm 6) k d n) (by rw [e3 24 (by omega) (by omega) (by omega) (by omega), hR.1.1.days, h0]) hN e2 (N - 1) 1 xN (by omega) (by omega) (by unfold xN; omega)
  rw [lst_1] at x1
  rw [e1, show f_X6_toldBy_c111 (nI k) a2 xN 0 1 g = _ from x1, show f_X7_toldBy_c45 (nI k) a2 xN (-1) 0 0 (xpt hm 13 (cpk (hm 1) (hm 13) 78)) = _ from m1]
  exact Sm.ite (fun _ => .fin hR e3 (m3.ms m2)) (fun _ => .fin hR e3 (m3.ms m2))
