/-! a colour tried, a day mended -/
theorem BK.ms {hm h : xH} (hb : BK hm h) (h1 : h 1 = hm 1) : mS hm h := by
  intro q _ _ q3 q4 q5 _ _
  by_cases c : q = 1
  · subst c; exact h1
  · exact hb.2.2 q c q3 q4 q5
/-- one number of the thought is set -/
theorem thk1 {hm g h : xH} {σ : Nat → Int32} {d k a : Nat} {v : Int32} (hw : CW g 44 σ) (hs : h 1 = σ) (bk : BK hm h) (hd : d < 10) (hk : k < 5) (ha : a = 45 + k) (hv : rg v (bdk k)) : CW (xst g a d v) 44 (upd σ (18 + 6 * d + k) v) ∧ cS g (xst g a d v) ∧ BK hm (xpt h 1 (upd σ (18 + 6 * d + k) v)) := by
  refine ⟨hw.to (by omega) (hw.1.putD hd (by omega) (by omega)) (hw.2.2.day (by omega) (fun _ => hv)) (fun q q1 _ => xst_ne (by omega)) (fun j hj => pk_un (by omega)), fun q _ _ q3 _ => xst_ne (by omega), bk.mf (fun q q1 _ _ => xpt_ne q1) (fun j hj => ?_)⟩
  rw [xpt_self, pk_un (by omega), hs]
theorem dye_l {hc hm : xH} (hR : Rl hc hm) {d o k : Nat} {a3 : Int32} (hd : d < 10) (ho : o < 6) (hk : k < 4096) : ∀ m i f1 f2 (v5 v5' v6 : Int32) (g h : xH), i + m = 10 → m < f1 → m < f2 → cS hc g → h 1 = hm 1 → BK hm h → ((i = 0 ∧ v6 = -1) ∨ v5 = v5') → Sm hm (f_X6_dye_c50 (nI d) (nI k) a3 f1 (nI o) v5 v6 (nI i) g) (f_X7_dye_c54 (nI d) (nI k) a3 f2 (nI o) v5' v6 (nI i) h)
  | m, i, 0, f2, _, _, _, g, h, _, h2, _, _, _, _, _ => absurd h2 (Nat.not_lt_zero _)
  | m, i, f1 + 1, 0, _, _, _, g, h, _, _, h2, _, _, _, _ => absurd h2 (Nat.not_lt_zero _)
  | 0, i, f1 + 1, f2 + 1, v5, v5', v6, g, h, h1, _, _, cs, hs, bk, hv => by
    have hi : i = 10 := by omega
    subst hi
    rcases hv with hv | rfl
    · omega
    rw [f_X6_dye_c50, f_X7_dye_c54, if_pos (show (9 : Int32) < nI 10 by decide), if_pos (show (10 : Int32) ≤ nI 10 by decide)]
    exact Sm.ite (fun _ => .fin hR cs (bk.ms hs)) (fun _ => .fin hR cs (bk.ms hs))
  | m + 1, i, f1 + 1, f2 + 1, v5, v5', v6, g, h, h1, h2, h3, cs, hs, bk, hv => by
    obtain ⟨g1, e1, e2, e3⟩ := thk0 (hR.scr cs (bk.ms hs))
    rw [hs] at e2
    obtain ⟨s1, s2, s3⟩ := thk1 (a := 47) (k := 2) (v := nI i) e2 hs bk hd (by omega) rfl (rg_of (show (i : Int) ≤ 9 by omega) (by omega))
    obtain ⟨g2, h4, t1, t2, t3, t4, t5, t6⟩ := thk (n := k) s1 xpt_self ((cs.tr e3).tr s2) s3 hk
    obtain ⟨h5, b1, b2, b3, b4⟩ := M_back t6
    rw [f_X6_dye_c50, f_X7_dye_c54, if_neg (show ¬ (9 : Int32) < nI i from nI_nlt (a := 9) (by omega) (by omega)), if_neg (show ¬ (10 : Int32) ≤ nI i from nI_ge (b := 10) (by omega) (by omega)), e1, bn_s, gd_n hd (by omega), nI_clamp (by omega), nm_x, t1, bn_s, gd_n ho (by omega), nI_clamp (by omega), gd_n ho (by omega), nm_x, M_sets (j := 2) (k := 2) rfl hd (by omega), bn_s, hs, t2, bn_s, ixc, gd_n (by omega) (by omega), nI_clamp (by omega), nm_x, b1, bn_s, t4, t3.1.coins (w := 44) ho]
    unfold f_X6_dye_c118 f_X7_dye_c105
    rw [nI_1]
    refine Sm.ite (fun c => ?_) (fun c => ?_)
    · refine dye_l hR hd ho hk m (i + 1) f1 f2 v5 v5' v6 g2 h5 (by omega) (by omega) (by omega) t5 b3 b4 (Or.inr ?_)
      rcases hv with ⟨-, rfl⟩ | hv
      · have := (t3.2.2.2.1 o ho).1.1
        rw [Int32.le_iff_toInt_le, show (-1 : Int32).toInt = -1 from rfl] at c
        omega
      · exact hv
    · exact dye_l hR hd ho hk m (i + 1) f1 f2 _ _ _ g2 h5 (by omega) (by omega) (by omega) t5 b3 b4 (Or.inr rfl)
theorem S_dye_ok {κ : Nat} (hκ : κ < 64) : S_dye (Rk κ) (Rk (κ + 1)) := by
  intro a1 a2 a3 hc hm hR
  refine Sm.k hκ hR ?_
  have hR := hR.1
  simp only [f_X6_dye, f_X7_dye, C_isDay, C_within, M_isDay, M_1_60, M_0_1, bn_s, b01, hR.1.1.days, nm_x]
  refine Sm.ite (fun c1 => Sm.ite (fun c2 => Sm.ite (fun c3 => ?_) (fun _ => .ret hR)) (fun _ => .ret hR)) (fun _ => .ret hR)
  obtain ⟨d, n, hd, hn, h0, rfl⟩ := day_in hR.1.2.1.1 c1
  obtain ⟨k, hk, rfl⟩ := in_nI (n := 60) (M := 60) rfl ⟨Int32.le_trans (by decide) c2.1, c2.2⟩
  obtain ⟨o, ho, ho2⟩ := hR.1.2.1.own (d := d) (by omega)
  rw [gd_n (by omega) (by omega), nI_clamp (by omega), hR.1.1.day (k := 4) (by omega) (by omega) (a := 29) rfl, M_laysBy, bn_s, M_of (j := 4) (k := 4) rfl (by omega) (by omega), bn_s, xpt_ne (by omega), ho2]
  exact dye_l hR (by omega) ho (by omega) 10 0 xN xN _ _ _ hc _ (by omega) (by unfold xN; omega) (by unfold xN; omega) cS.rf (xpt_ne (by omega)) BK.st (Or.inl ⟨rfl, rfl⟩)
theorem mends_l {κ : Nat} (hκ : κ < 64) {hc hm : xH} (hR : Rl hc hm) (hz : sb (1100 * κ) hm) {N k : Nat} {a2 : Int32} (h0 : hm 1 0 = nI N) (hN : N ≤ 10) (hk : k ≤ 60) : ∀ m i f1 f2 (v3 v3' v4 v4' : Int32) (g h : xH), i + m = N → (1 ≤ i ∨ 1 ≤ m) → m < f1 → m < f2 → cS hc g → h 1 = hm 1 → BK hm h → ((i = 0 ∧ v4 = -1 ∧ v3' = -1) ∨ (1 ≤ i ∧ v3 = v3' ∧ v4 = v4' ∧ 0 ≤ v3')) → Sm hm (f_X6_mends_c43 (nI k) a2 f1 v3 v4 (nI i) g) (f_X7_mends_c37 (nI k) a2 f2 v3' v4' (nI i) h)
  | m, i, 0, f2, _, _, _, _, g, h, _, _, h2, _, _, _, _, _ => absurd h2 (Nat.not_lt_zero _)
  | m, i, f1 + 1, 0, _, _, _, _, g, h, _, _, _, h2, _, _, _, _ => absurd h2 (Nat.not_lt_zero _)
  | 0, i, f1 + 1, f2 + 1, v3, v3', v4, v4', g, h, h1, h1', _, _, cs, hs, bk, hv => by
    have hR' := hR.scr cs (bk.ms hs)
    have hi : i = N := by omega
    rcases hv with hv | ⟨-, rfl, rfl, hv⟩
    · omega
    rw [f_X6_mends_c43, f_X7_mends_c37, gS_0, cN_0, hR'.1.1.days, hs, h0, hi, if_pos (nI_le (by omega) (by omega)), if_pos (nI_le (by omega) (by omega)), if_pos hv]
    exact Sm.ite (fun _ => .fin hR cs (bk.ms hs)) (fun _ => .fin hR cs (bk.ms hs))
  | m + 1, i, f1 + 1, f2 + 1, v3, v3', v4, v4', g, h, h1, h1', h2, h3, cs, hs, bk, hv => by
    have hR' := hR.scr cs (bk.ms hs)
    obtain ⟨g1, e1, e2, e3⟩ := thk0 hR'
    rw [hs] at e2
    obtain ⟨s1, s2, s3⟩ := thk1 (d := i) (a := 45) (k := 0) (v := 1) e2 hs bk (by omega) (by omega) rfl ⟨by decide, by decide⟩
    obtain ⟨g2, h4, t1, t2, t3, t4, t5, t6⟩ := thk (n := k) s1 xpt_self ((cs.tr e3).tr s2) s3 (by omega)
    obtain ⟨h5, b1, b2, b3, b4⟩ := M_back t6
    have hp : 0 ≤ (gOnN (upd (hm 1) (18 + 6 * i + 0) 1) k 3).toInt := by
      obtain ⟨n, n1, n2⟩ := gOnN_3 s1.2.2 k
      rw [n2, pk_un (by omega)]
      exact (rg_add hz.1 (by omega) (by omega)).1
    rw [f_X6_mends_c43, f_X7_mends_c37, gS_0, cN_0, hR'.1.1.days, hs, h0, if_neg (nI_ge (by omega) (by omega)), if_neg (nI_ge (by omega) (by omega)), e1, bn_s, gd_n (by omega) (by omega), nI_clamp (by omega), nm_x, t1, bn_s, M_sets (j := 0) (k := 0) rfl (by omega) (by omega), bn_s, hs, t2, bn_s, gS_3, cN_3, nm_x, b1, bn_s, t4, t3.1.sales]
    unfold f_X6_mends_c109 f_X7_mends_c84 f_X7_mends_c91
    rw [nI_1]
    have hi : (0 : Int32) ≤ nI i := nI_le (a := 0) (by omega) (by omega)
    have ih := fun u u' w w' => mends_l hκ hR hz (a2 := a2) h0 hN hk m (i + 1) f1 f2 u u' w w' g2 h5 (by omega) (by omega) (by omega) (by omega) t5 b3 b4
    rcases hv with ⟨-, rfl, rfl⟩ | ⟨-, rfl, rfl, hv⟩
    · rw [if_pos (show (-1 : Int32) < 0 by decide), if_neg (fun c => by
        rw [Int32.le_iff_toInt_le, show (-1 : Int32).toInt = -1 from rfl] at c
        omega)]
      exact ih _ _ _ _ (Or.inr ⟨by omega, rfl, rfl, hi⟩)
    · rw [if_neg (Int32.not_lt.mpr hv)]
      exact Sm.ite (fun _ => ih _ _ _ _ (Or.inr ⟨by omega, rfl, rfl, hv⟩)) (fun _ => ih _ _ _ _ (Or.inr ⟨by omega, rfl, rfl, hi⟩))
theorem xN_s : ∃ f, xN = f + 1 := ⟨xN - 1, by unfold xN; omega⟩
theorem S_mends_ok {κ : Nat} (hκ : κ < 64) : S_mends (Rk κ) (Rk (κ + 1)) := by
  intro a1 a2 hc hm hR
  refine Sm.k hκ hR ?_
  have hz := hR.2
  have hR := hR.1
  simp only [f_X6_mends, f_X7_mends, C_within, M_1_60, M_0_1, bn_s, b01, hR.1.1.days]
  refine Sm.ite (fun c1 => Sm.ite (fun c2 => ?_) (fun _ => .ret hR)) (fun _ => .ret hR)
  obtain ⟨k, hk, rfl⟩ := in_nI (n := 60) (M := 60) rfl ⟨Int32.le_trans (by decide) c1.1, c1.2⟩
  obtain ⟨⟨N, hN, h0⟩, -⟩ := hR.1.2.1
  rw [M_laysBy, bn_s, h0]
  by_cases c : N = 0
  · subst c
    obtain ⟨f, hf⟩ := xN_s
    rw [if_pos (show nI 0 = 0 from rfl), hf, f_X7_mends_c37, gS_0, cN_0, xpt_ne (by omega), h0, if_pos (show nI 0 ≤ 0 by decide), if_neg (show ¬ (0 : Int32) ≤ -1 by decide)]
    exact .fin hR cS.rf (BK.st.ms (xpt_ne (by omega)))
  · rw [if_neg (show ¬ nI N = 0 from fun q => c ((nI_eq (b := 0) (by omega) (by omega)).mp q))]
    exact mends_l hκ hR hz h0 hN hk N 0 xN xN _ _ _ _ hc _ (by omega) (by omega) (by unfold xN; omega) (by unfold xN; omega) cS.rf (xpt_ne (by omega)) BK.st (Or.inl ⟨rfl, rfl, rfl⟩)
