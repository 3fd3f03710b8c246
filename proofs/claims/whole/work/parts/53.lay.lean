/-! a slot is laid -/
theorem lay03 {hc hm : xH} (hR : Rl hc hm) {k j : Nat} {a3 : Int32} (hk : k < 5) (hj : j = 0 ∨ j = 3) : Sm hm (f_X6_lay_c68 (nI k) (nI j) a3 hc) (f_X7_lay_c74 (nI k) (nI j) a3 hm) := by
  have n1 : ¬ nI j = 1 := by rcases hj with rfl | rfl <;> decide
  have n2 : ¬ nI j = 2 := by rcases hj with rfl | rfl <;> decide
  obtain ⟨r1, -, -, -, -⟩ := hR.2.2.2.2.1 k hk
  simp only [f_X6_lay_c68, f_X7_lay_c74, f_X7_lay_c109, f_X7_lay_c129, gd_n (show k < 5 by omega) (show 5 < 2 ^ 31 by omega), nI_clamp (show k < 2 ^ 31 by omega), nm_x, if_neg n1, if_neg n2, r1]
  have m7 : xst (xst (xst hm 7 k (nI j)) 8 k a3) 9 k 0 7 = upd (hm 7) k (nI j) := by rw [xst_ne (by omega), xst_ne (by omega), xst_self]
  have m8 : xst (xst (xst hm 7 k (nI j)) 8 k a3) 9 k 0 8 = upd (hm 8) k a3 := by rw [xst_ne (by omega), xst_self, xst_ne (by omega)]
  have m9 : xst (xst (xst hm 7 k (nI j)) 8 k a3) 9 k 0 9 = upd (hm 9) k 0 := by rw [xst_self, xst_ne (by omega), xst_ne (by omega)]
  have m0 : ∀ q, q ≠ 7 → q ≠ 8 → q ≠ 9 → xst (xst (xst hm 7 k (nI j)) 8 k a3) 9 k 0 q = hm q := fun q q1 q2 q3 => by rw [xst_ne q3, xst_ne q2, xst_ne q1]
  generalize xst (xst (xst hm 7 k (nI j)) 8 k a3) 9 k 0 = g at m7 m8 m9 m0
  refine .to (.m1 (by rw [m0 0 (by omega) (by omega) (by omega)]) (m0 2 (by omega) (by omega) (by omega)) (by rw [m0 1 (by omega) (by omega) (by omega)])) (hR.slot hk (fun q hq => by rw [xst_ne (by omega), xst_ne (by omega)]) (fun q hq => m0 q (by omega) (by omega) (by omega)) (fun i hi => ?_) (fun i _ => by rw [m0 11 (by omega) (by omega) (by omega)]) ?_)
  · rw [m7, m8, m9, m0 10 (by omega) (by omega) (by omega), pk_un hi, pk_un hi, pk_un hi]
    exact ⟨rfl, rfl, rfl, rfl⟩
  · unfold RQ1
    rw [m7, m8, m9, pk_us, pk_us, pk_us]
    refine ⟨by rw [xst_self, pk_un (by omega), xst_self, pk_us], ?_, fun q => absurd q n1, fun q => absurd q n2, fun _ => by rw [xst_self, pk_us]⟩
    rcases hj with rfl | rfl
    · exact Or.inl rfl
    · exact Or.inr (Or.inr (Or.inr rfl))
theorem lay1 {hc hm : xH} (hR : Rl hc hm) {k d : Nat} (hk : k < 5) (hd : d < 10) : Sm hm (f_X6_lay_c68 (nI k) (nI 1) (nI d) hc) (f_X7_lay_c74 (nI k) (nI 1) (nI d) hm) := by
  have n1 : nI 1 = 1 := rfl
  have n2 : ¬ nI 1 = 2 := by decide
  obtain ⟨r1, -, -, -, -⟩ := hR.2.2.2.2.1 k hk
  have hM1 : f_X7_of (nI d) 0 (xst hm 7 k (nI 1)) = some (hm 1 (18 + 6 * d + 0), xst hm 7 k (nI 1)) := by
    rw [M_of (j := 0) (k := 0) rfl hd (by omega), xst_ne (show (1 : Nat) ≠ 7 by omega)]
  have hM2 : f_X7_worth (nI d) (xst (xst hm 7 k (nI 1)) 8 k (hm 1 (18 + 6 * d + 0))) = some (wthF (hm 1 (18 + 6 * d)) (hm 1 (18 + 6 * d + 1)), xst (xst hm 7 k (nI 1)) 8 k (hm 1 (18 + 6 * d + 0))) := by
    rw [M_worth hd, xst_ne (show (1 : Nat) ≠ 8 by omega), xst_ne (show (1 : Nat) ≠ 7 by omega)]
  simp only [f_X6_lay_c68, f_X7_lay_c74, f_X7_lay_c109, f_X7_lay_c129, gd_n (show k < 5 by omega) (show 5 < 2 ^ 31 by omega), nI_clamp (show k < 2 ^ 31 by omega), gd_n (show d < 10 by omega) (show 10 < 2 ^ 31 by omega), nI_clamp (show d < 2 ^ 31 by omega), nm_x, if_pos n1, if_neg n2, r1, hM1, bn_s, hM2]
  generalize hv : wthF (hm 1 (18 + 6 * d)) (hm 1 (18 + 6 * d + 1)) = v
  generalize hu : hm 1 (18 + 6 * d + 0) = u
  have e25 : hc 25 d = u := by rw [← hu]; exact hR.1.1.day (k := 0) hd (by omega) rfl
  have e26 : hc 26 d = hm 1 (18 + 6 * d + 1) := hR.1.1.day (k := 1) hd (by omega) rfl
  have ru : rg u 5 := by rw [← hu]; exact hR.1.2.1.dd (k := 0) hd (by omega)
  rw [xst_ne (show (26 : Nat) ≠ 69 + 3 * k by omega), xst_ne (show (26 : Nat) ≠ 69 + 3 * k by omega), xst_ne (show (25 : Nat) ≠ 69 + 3 * k by omega), e25, e26]
  have m7 : xst (xst (xst hm 7 k (nI 1)) 8 k u) 9 k v 7 = upd (hm 7) k (nI 1) := by rw [xst_ne (by omega), xst_ne (by omega), xst_self]
  have m8 : xst (xst (xst hm 7 k (nI 1)) 8 k u) 9 k v 8 = upd (hm 8) k u := by rw [xst_ne (by omega), xst_self, xst_ne (by omega)]
  have m9 : xst (xst (xst hm 7 k (nI 1)) 8 k u) 9 k v 9 = upd (hm 9) k v := by rw [xst_self, xst_ne (by omega), xst_ne (by omega)]
  have m0 : ∀ q, q ≠ 7 → q ≠ 8 → q ≠ 9 → xst (xst (xst hm 7 k (nI 1)) 8 k u) 9 k v q = hm q := fun q q1 q2 q3 => by rw [xst_ne q3, xst_ne q2, xst_ne q1]
  generalize xst (xst (xst hm 7 k (nI 1)) 8 k u) 9 k v = g at m7 m8 m9 m0
  refine .to (.m1 (by rw [m0 0 (by omega) (by omega) (by omega)]) (m0 2 (by omega) (by omega) (by omega)) (by rw [m0 1 (by omega) (by omega) (by omega)])) (hR.slot hk (fun q hq => by rw [xst_ne (by omega), xst_ne (by omega), xst_ne (by omega)]) (fun q hq => m0 q (by omega) (by omega) (by omega)) (fun i hi => ?_) (fun i _ => by rw [m0 11 (by omega) (by omega) (by omega)]) ?_)
  · rw [m7, m8, m9, m0 10 (by omega) (by omega) (by omega), pk_un hi, pk_un hi, pk_un hi]
    exact ⟨rfl, rfl, rfl, rfl⟩
  · unfold RQ1
    rw [m7, m8, m9, pk_us, pk_us, pk_us]
    refine ⟨by rw [xst_self, pk_un (by omega), xst_self, pk_un (by omega), xst_self, pk_us], Or.inr (Or.inl rfl), fun _ => ⟨?_, ru, ?_⟩, fun q => absurd q n2, fun q => absurd q (by decide)⟩
    · rw [xst_self, pk_un (by omega), xst_self, pk_us]
    · rw [xst_self, pk_un (by omega), pk_us, xst_self, pk_us, ← hv, ← hu]
      rfl
theorem lay2 {hc hm : xH} (hR : Rl hc hm) {k t : Nat} (hk : k < 5) (ht : t < 4) : Sm hm (f_X6_lay_c68 (nI k) (nI 2) (nI t) hc) (f_X7_lay_c74 (nI k) (nI 2) (nI t) hm) := by
  have n1 : ¬ nI 2 = 1 := by decide
  have n2 : nI 2 = 2 := rfl
  obtain ⟨r1, -, -, -, -⟩ := hR.2.2.2.2.1 k hk
  obtain ⟨d1, d2, d3, d4, d5⟩ := hR.2.2.2.1.1 t ht
  simp only [f_X6_lay_c68, f_X7_lay_c74, f_X7_lay_c109, f_X7_lay_c129, gd_n (show k < 5 by omega) (show 5 < 2 ^ 31 by omega), nI_clamp (show k < 2 ^ 31 by omega), gd_n (show t < 4 by omega) (show 4 < 2 ^ 31 by omega), nI_clamp (show t < 2 ^ 31 by omega), nm_x, if_neg n1, if_pos n2, r1]
  obtain ⟨hc', b1, b2, b3, b4, b5⟩ := C_rowBecome (h := xst hc (69 + 3 * k) 1 (nI 2)) (w := 69 + 3 * k + 1) (a := 60 + 2 * t) (by omega)
  rw [b1, bn_s, xst_ne (show (5 : Nat) ≠ 9 by omega), xst_ne (show (5 : Nat) ≠ 8 by omega), xst_ne (show (5 : Nat) ≠ 7 by omega)]
  generalize hg : xst (xst (xst (xst hm 7 k (nI 2)) 8 k (nI t)) 9 k 0) 10 k (hm 5 t) = g
  have l := M_lay_l (h := g) (k := k) (t := t) (a2 := nI 2) (v5 := hm 7 k) hk ht 24 0 xN (by omega) (by unfold xN; omega)
  rw [crw_0, xpt_id] at l
  rw [show f_X7_lay_c150 (nI k) (nI 2) (nI t) xN (hm 7 k) 0 g = _ from l]
  have m6 : g 6 = hm 6 := by rw [← hg, xst_ne (by omega), xst_ne (by omega), xst_ne (by omega), xst_ne (by omega)]
  have m11 : g 11 = hm 11 := by rw [← hg, xst_ne (by omega), xst_ne (by omega), xst_ne (by omega), xst_ne (by omega)]
  have m7 : xpt g 11 (crw (g 11) (g 6) k t 24) 7 = upd (hm 7) k (nI 2) := by rw [xpt_ne (by omega), ← hg, xst_ne (by omega), xst_ne (by omega), xst_ne (by omega), xst_self]
  have m8 : xpt g 11 (crw (g 11) (g 6) k t 24) 8 = upd (hm 8) k (nI t) := by rw [xpt_ne (by omega), ← hg, xst_ne (by omega), xst_ne (by omega), xst_self, xst_ne (by omega)]
  have m9 : xpt g 11 (crw (g 11) (g 6) k t 24) 9 = upd (hm 9) k 0 := by rw [xpt_ne (by omega), ← hg, xst_ne (by omega), xst_self, xst_ne (by omega), xst_ne (by omega)]
  have m10 : xpt g 11 (crw (g 11) (g 6) k t 24) 10 = upd (hm 10) k (hm 5 t) := by rw [xpt_ne (by omega), ← hg, xst_self, xst_ne (by omega), xst_ne (by omega), xst_ne (by omega)]
  have m1 : xpt g 11 (crw (g 11) (g 6) k t 24) 11 = crw (hm 11) (hm 6) k t 24 := by rw [xpt_self, m11, m6]
  have m0 : ∀ q, q < 7 ∨ 12 ≤ q → xpt g 11 (crw (g 11) (g 6) k t 24) q = hm q := fun q hq => by rw [xpt_ne (by omega), ← hg, xst_ne (by omega), xst_ne (by omega), xst_ne (by omega), xst_ne (by omega)]
  generalize xpt g 11 (crw (g 11) (g 6) k t 24) = g' at m7 m8 m9 m10 m1 m0
  refine .to (.m1 (by rw [m0 0 (by omega)]) (m0 2 (by omega)) (by rw [m0 1 (by omega)])) (hR.slot hk (fun q hq => by rw [b5 q (by omega) (by omega), xst_ne (by omega)]) (fun q hq => m0 q hq) (fun i hi => ?_) (fun i hi => ?_) ?_)
  · rw [m7, m8, m9, m10, pk_un hi, pk_un hi, pk_un hi, pk_un hi]
    exact ⟨rfl, rfl, rfl, rfl⟩
  · rw [m1, crw, if_neg hi]
  · unfold RQ1
    rw [m7, m8, m9, m10, m1, pk_us, pk_us, pk_us, pk_us]
    refine ⟨by rw [b5 _ (by omega) (by omega), xst_self, pk_us], Or.inr (Or.inr (Or.inl rfl)), fun q => absurd q n1, fun _ => ⟨?_, d4, fun i hi => ?_⟩, fun q => absurd q (by decide)⟩
    · rw [show 70 + 3 * k = 69 + 3 * k + 1 by omega, b3, xst_ne (by omega), d2]
    · rw [show 71 + 3 * k = 69 + 3 * k + 1 + 1 by omega, b4 i hi, xst_ne (by omega), show 60 + 2 * t + 1 = 61 + 2 * t by omega, d5 i hi, crw, if_pos (by omega)]
      congr 1
      omega
theorem S_lay_ok {κ : Nat} (hκ : κ < 64) : S_lay (Rk κ) (Rk (κ + 1)) := by
  intro a1 a2 a3 hc hm hR
  refine Sm.k hκ hR ?_
  have hR := hR.1
  have z10 : ¬ (1 : Int32) = 0 := by decide
  simp only [f_X6_lay, f_X6_lay_c32, f_X6_lay_c47, f_X7_lay, f_X7_lay_c34, f_X7_lay_c38, f_X7_lay_c22, f_X7_lay_c39, C_isSlot, C_isDay, C_isSheet, C_within, M_isSlot, M_isDay, M_isSheet, bn_s, b01, hR.1.1.days, if_neg z10, if_pos (rfl : (0 : Int32) = 0)]
  by_cases c1 : 0 ≤ a1 ∧ a1 ≤ 4
  · simp only [if_pos c1]
    obtain ⟨k, hk, rfl⟩ := in_nI (n := 4) (M := 4) rfl c1
    by_cases c2 : 0 ≤ a2 ∧ a2 ≤ 3
    · rw [if_pos c2]
      obtain ⟨j, hj, rfl⟩ := in_nI (n := 3) (M := 3) rfl c2
      match j, hj with
      | 0, _ =>
        simp only [if_pos (show nI 0 = 0 from rfl), if_neg (show ¬ nI 0 = 1 by decide), if_neg (show ¬ nI 0 = 2 by decide)]
        exact lay03 hR (by omega) (Or.inl rfl)
      | 3, _ =>
        simp only [if_neg (show ¬ nI 3 = 0 by decide), if_pos (show nI 3 = 3 from rfl), if_neg (show ¬ nI 3 = 1 by decide), if_neg (show ¬ nI 3 = 2 by decide)]
        exact lay03 hR (by omega) (Or.inr rfl)
      | 1, _ =>
        simp only [if_neg (show ¬ nI 1 = 0 by decide), if_neg (show ¬ nI 1 = 3 by decide), if_pos (show nI 1 = 1 from rfl), if_neg (show ¬ nI 1 = 2 by decide)]
        refine Sm.ite (fun c3 => ?_) (fun _ => .ret hR)
        obtain ⟨d, n, hd, hn, h0, rfl⟩ := day_in hR.1.2.1.1 c3
        exact lay1 hR (by omega) (by omega)
      | 2, _ =>
        simp only [if_neg (show ¬ nI 2 = 0 by decide), if_neg (show ¬ nI 2 = 3 by decide), if_neg (show ¬ nI 2 = 1 by decide), if_pos (show nI 2 = 2 from rfl)]
        refine Sm.ite (fun c3 => ?_) (fun _ => .ret hR)
        obtain ⟨t, ht, rfl⟩ := in_nI (n := 3) (M := 3) rfl c3
        obtain ⟨d1, d2, d3, d4, d5⟩ := hR.2.2.2.1.1 t (by omega)
        rw [gd_n (show t < 4 by omega) (by omega), gd_n (show t < 4 by omega) (by omega), nI_clamp (show t < 2 ^ 31 by omega), d1]
        by_cases c : hm 4 t = -1
        · rw [if_pos c, if_neg (fun q => (sort_pos d3).mp q c)]
          exact .ret hR
        · rw [if_neg c, if_pos ((sort_pos d3).mpr c)]
          exact lay2 hR (by omega) (by omega)
    · rw [if_neg c2, if_neg (fun q => c2 (by subst q; decide)), if_neg (fun q => c2 (by subst q; decide)), if_neg (fun q => c2 (by subst q; decide)), if_neg (fun q => c2 (by subst q; decide))]
      exact .ret hR
  · simp only [if_neg c1, ite_self]
    exact .ret hR
