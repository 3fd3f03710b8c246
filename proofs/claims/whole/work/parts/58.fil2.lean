/-! what fill weighs -/
theorem C_lk_in {K : Int32 → xH → Option (Int32 × xH)} {σ : Nat → Int32} {p d : Nat} {a2 : Int32} (hd : d < 10) : ∀ m o f (h : xH), o + m = d → m < f → WR h 24 σ → h 57 d = nI (kl σ p d o) → ∃ h', f_X1_lookAt_c72 K 24 a2 f (nI d) (nI o) h = K (nI (d + 1)) h' ∧ h' 57 d = nI (kl σ p d d) ∧ (∀ j, j ≠ d → h' 57 j = h 57 j) ∧ ∀ q, q ≠ 57 → h' q = h q
  | m, o, 0, h, _, h2, _, _ => absurd h2 (Nat.not_lt_zero _)
  | 0, o, f + 1, h, h1, _, hw, hk => by
    have ho : o = d := by omega
    subst ho
    exact ⟨h, by rw [f_X1_lookAt_c72, if_pos (nI_le (Nat.le_refl _) (by omega)), nI_1], hk, fun _ _ => rfl, fun _ _ => rfl⟩
  | m + 1, o, f + 1, h, h1, h2, hw, hk => by
    rw [f_X1_lookAt_c72, if_neg (nI_ge (by omega) (by omega)), gd_n (show o < 10 by omega) (by omega), gd_n hd (by omega), gd_n hd (by omega), gd_n hd (by omega), nI_clamp (show o < 2 ^ 31 by omega), nI_clamp (show d < 2 ^ 31 by omega), hw.day (d := o) (k := 1) (by omega) (by omega) (a := 24 + 2) rfl, hw.day (d := d) (k := 1) (by omega) (by omega) (a := 24 + 2) rfl, nm_x]
    unfold f_X1_lookAt_c107
    rw [nI_1, hk, one_sh o (by omega), nI_or]
    by_cases c : σ (18 + 6 * o + 1) = σ (18 + 6 * d + 1)
    · rw [if_pos c]
      have hn : ∀ q, q ≠ 57 → xst h 57 d (nI (kl σ p d o ||| 2 ^ o)) q = h q := fun q hq => xst_ne hq
      obtain ⟨h', i1, i2, i3, i4⟩ := C_lk_in (K := K) (p := p) (a2 := a2) hd m (o + 1) f (xst h 57 d (nI (kl σ p d o ||| 2 ^ o))) (by omega) (by omega) (hw.keep (fun a _ h2 => hn a (by omega))) (by rw [xst_self, pk_us, kl, if_pos c])
      exact ⟨h', i1, i2, fun j hj => by rw [i3 j hj, xst_self, pk_un hj], fun q hq => (i4 q hq).trans (hn q hq)⟩
    · rw [if_neg c]
      exact C_lk_in hd m (o + 1) f h (by omega) (by omega) hw (by rw [kl, if_neg c]; exact hk)
theorem C_look_l {hc hm : xH} (hR : Rl hc hm) {N p : Nat} (h0 : hm 1 0 = nI N) (hN : N ≤ 10) (hp : p < 6) : ∀ m d f (g : xH), d + m = N → m < f → cS hc g → (∀ j, j < d → g 55 j = vlF (hm 1) j ∧ g 56 j = jo (hm 1) p j ∧ g 57 j = nI (kl (hm 1) p j j)) → ∃ g', f_X1_lookAt_c2 24 (nI p) f (nI d) g = some (0, g') ∧ cS hc g' ∧ ∀ j, j < N → g' 55 j = vlF (hm 1) j ∧ g' 56 j = jo (hm 1) p j ∧ g' 57 j = nI (kl (hm 1) p j j)
  | m, d, 0, g, _, h2, _, _ => absurd h2 (Nat.not_lt_zero _)
  | 0, d, f + 1, g, h1, _, cs, hr => by
    have hR' := hR.scr cs mS.rf
    have hd : d = N := by omega
    subst hd
    exact ⟨g, by rw [f_X1_lookAt_c2, hR'.1.1.days, h0, if_pos (nI_le (Nat.le_refl _) (by omega))], cs, hr⟩
  | m + 1, d, f + 1, g, h1, h2, cs, hr => by
    have hR' := hR.scr cs mS.rf
    obtain ⟨g2, e1, e2⟩ := C_valueOf (d := d) hR'.1.1 hR'.1.2.2.2 hR'.1.2.1 (by omega) (by omega)
    have hW : WR g2 24 (hm 1) := hR'.1.1.keep (fun a _ h2 => e2 a (by omega))
    generalize hv : vlF (hm 1) d = v at e1
    have t1 : xst g2 55 d v (24 + 3) d = hm 1 (18 + 6 * d + 2) := by rw [xst_ne (by omega)]; exact hW.day (k := 2) (by omega) (by omega) rfl
    have t2 : xst g2 55 d v (24 + 8) p = hm 1 (12 + p) := by rw [xst_ne (by omega)]; exact hW.wish hp
    have t3 : ∀ u : Int32, xst (xst g2 55 d v) 56 d u (24 + 5) d = hm 1 (18 + 6 * d + 4) := fun u => by rw [xst_ne (by omega), xst_ne (by omega)]; exact hW.day (k := 4) (by omega) (by omega) rfl
    have ab1 := abs_of (hR.1.2.1.dd (d := d) (k := 2) (by omega) (by omega)) (hR.1.2.1.2.1 p hp).2 (by decide)
    rw [f_X1_lookAt_c2, hR'.1.1.days, h0, if_neg (nI_ge (by omega) (by omega)), e1, bn_s]
    simp only [gd_n (show d < 10 by omega) (show 10 < 2 ^ 31 by omega), gd_n (show p < 6 by omega) (show 6 < 2 ^ 31 by omega), nI_clamp (show d < 2 ^ 31 by omega), nI_clamp (show p < 2 ^ 31 by omega), nm_x, t1, t2, t3, ab1, f_X1_lookAt_c68, one_sh d (show d < 11 by omega)]
    have hj : (10 : Int32) - ofA (hm 1 (18 + 6 * d + 2)) (hm 1 (12 + p)) = jo (hm 1) p d := rfl
    rw [hj]
    have hif : (if hm 1 (18 + 6 * d + 4) = nI p then f_X1_lookAt_c72 (f_X1_lookAt_c2 24 (nI p) f) 24 (nI p) xN (nI d) 0 (xst (xst (xst g2 55 d v) 56 d (jo (hm 1) p d)) 57 d (nI (2 ^ d))) else f_X1_lookAt_c72 (f_X1_lookAt_c2 24 (nI p) f) 24 (nI p) xN (nI d) 0 (xst (xst (xst g2 55 d v) 56 d (jo (hm 1) p d)) 57 d 0)) = f_X1_lookAt_c72 (f_X1_lookAt_c2 24 (nI p) f) 24 (nI p) xN (nI d) (nI 0) (xst (xst (xst g2 55 d v) 56 d (jo (hm 1) p d)) 57 d (nI (kl (hm 1) p d 0))) := by
      rw [kl]
      by_cases c : hm 1 (18 + 6 * d + 4) = nI p
      · rw [if_pos c, if_pos c]; rfl
      · rw [if_neg c, if_neg c]; rfl
    rw [hif]
    have hn : ∀ q, q ≠ 20 → q ≠ 55 → q ≠ 56 → q ≠ 57 → xst (xst (xst g2 55 d v) 56 d (jo (hm 1) p d)) 57 d (nI (kl (hm 1) p d 0)) q = g q := fun q q1 q2 q3 q4 => by rw [xst_ne q4, xst_ne q3, xst_ne q2, e2 q q1]
    have n55 : xst (xst (xst g2 55 d v) 56 d (jo (hm 1) p d)) 57 d (nI (kl (hm 1) p d 0)) 55 = upd (g 55) d v := by rw [xst_ne (by omega), xst_ne (by omega), xst_self, e2 55 (by omega)]
    have n56 : xst (xst (xst g2 55 d v) 56 d (jo (hm 1) p d)) 57 d (nI (kl (hm 1) p d 0)) 56 = upd (g 56) d (jo (hm 1) p d) := by rw [xst_ne (by omega), xst_self, xst_ne (by omega), e2 56 (by omega)]
    have n57 : xst (xst (xst g2 55 d v) 56 d (jo (hm 1) p d)) 57 d (nI (kl (hm 1) p d 0)) 57 = upd (g 57) d (nI (kl (hm 1) p d 0)) := by rw [xst_self, xst_ne (by omega), xst_ne (by omega), e2 57 (by omega)]
    generalize xst (xst (xst g2 55 d v) 56 d (jo (hm 1) p d)) 57 d (nI (kl (hm 1) p d 0)) = g3 at hn n55 n56 n57
    obtain ⟨g4, i1, i2, i3, i4⟩ := C_lk_in (K := f_X1_lookAt_c2 24 (nI p) f) (σ := hm 1) (p := p) (a2 := nI p) (show d < 10 by omega) d 0 xN g3 (by omega) (by unfold xN; omega) (hR'.1.1.keep (fun a _ h2 => hn a (by omega) (by omega) (by omega) (by omega))) (by rw [n57, pk_us])
    rw [i1]
    refine C_look_l hR h0 hN hp m (d + 1) f g4 (by omega) (by omega) (fun q q1 q2 q3 q4 => ?_) (fun j hj => ?_)
    · rw [i4 q (by omega), hn q q1 (by omega) (by omega) (by omega), cs q q1 q2 q3 q4]
    · by_cases c : j = d
      · subst c
        refine ⟨?_, ?_, i2⟩
        · rw [i4 55 (by omega), n55, pk_us, hv]
        · rw [i4 56 (by omega), n56, pk_us]
      · obtain ⟨r1, r2, r3⟩ := hr j (by omega)
        rw [i4 55 (by omega), n55, i4 56 (by omega), n56, i3 j c, n57, pk_un c, pk_un c, pk_un c]
        exact ⟨r1, r2, r3⟩
theorem M_fl_v {hc hm : xH} (hR : Rl hc hm) {N p : Nat} {a2 : Int32} (h0 : hm 1 0 = nI N) (hN : N ≤ 10) : ∀ m d f (h : xH), d + m = N → m < f → mS hm h → (∀ j, j < d → h 12 j = vlF (hm 1) j) → ∃ h', f_X7_fill_c24 (nI p) a2 f (nI d) h = f_X7_fill_c66 (nI p) a2 xN (dOf (hm 1) (nI p) N) 0 0 1 h' ∧ mS hm h' ∧ ∀ j, j < N → h' 12 j = vlF (hm 1) j
  | m, d, 0, h, _, h2, _, _ => absurd h2 (Nat.not_lt_zero _)
  | 0, d, f + 1, h, h1, _, ms, hr => by
    have h11 : h 1 = hm 1 := ms 1 (by omega) (by omega) (by omega) (by omega) (by omega) (by omega) (by omega)
    have hd : d = N := by omega
    subst hd
    refine ⟨h, ?_, ms, hr⟩
    rw [f_X7_fill_c24, gS_0, cN_0, M_daysOf (N := d) (by rw [h11]; exact h0) hN, bn_s, h11, h0, if_pos (nI_le (Nat.le_refl _) (by omega))]
  | m + 1, d, f + 1, h, h1, h2, ms, hr => by
    have h11 : h 1 = hm 1 := ms 1 (by omega) (by omega) (by omega) (by omega) (by omega) (by omega) (by omega)
    obtain ⟨h4, e1, e2⟩ := M_valueOf (hc := hc) (h := h) (d := d) (by rw [h11]; exact hR.1.2.2.2) (by omega)
    rw [h11] at e1
    rw [f_X7_fill_c24, gS_0, cN_0, h11, h0, if_neg (nI_ge (by omega) (by omega)), e1, bn_s, gd_n (show d < 10 by omega) (by omega), nI_clamp (by omega), nm_x, nI_1]
    refine M_fl_v hR h0 hN m (d + 1) f _ (by omega) (by omega) (fun q q1 q2 q3 q4 q5 q6 q7 => ?_) (fun j hj => ?_)
    · rw [xst_ne q2, e2 q q4 q5, ms q q1 q2 q3 q4 q5 q6 q7]
    · rw [xst_self]
      by_cases c : j = d
      · subst c; rw [pk_us]
      · rw [pk_un c, e2 12 (by omega) (by omega)]; exact hr j (by omega)
theorem sel_c {ρ : Type} {r A B C V : Prop} [Decidable r] [Decidable A] [Decidable B] [Decidable C] [Decidable V] {N T : ρ} : (if r then N else if V then N else if A then T else if B then (if C then N else T) else N) = if ¬ r ∧ ¬ V ∧ (A ∨ (B ∧ ¬ C)) then T else N := by
  by_cases h1 : r <;> by_cases h2 : V <;> by_cases h3 : A <;> by_cases h4 : B <;> by_cases h5 : C <;> simp [h1, h2, h3, h4, h5]
theorem sel_m {ρ : Type} {o a A B C V : Prop} [Decidable o] [Decidable a] [Decidable A] [Decidable B] [Decidable C] [Decidable V] {N T : ρ} : (if A then (if o then (if V then N else if a then N else T) else N) else if B then (if C then N else (if o then (if V then N else if a then N else T) else N)) else N) = if (o ∧ ¬ a) ∧ ¬ V ∧ (A ∨ (B ∧ ¬ C)) then T else N := by
  by_cases h1 : o <;> by_cases h2 : V <;> by_cases h3 : A <;> by_cases h4 : B <;> by_cases h5 : C <;> by_cases h6 : a <;> simp [h1, h2, h3, h4, h5, h6]
theorem fill_j {g h : xH} {σ : Nat → Int32} {N p : Nat} {a2 : Int32} (hs1 : h 1 = σ) (h0 : σ 0 = nI N) (hN : N ≤ 10) (hp : p < 6) (hg : ∀ j, j < N → g 55 j = vlF σ j ∧ g 56 j = jo σ p j ∧ g 57 j = nI (kl σ p j j)) (hh : ∀ j, j < N → h 12 j = vlF σ j) : ∀ m s f1 f2 b, s + m = 2 ^ N → m < f1 → m < f2 → b < 2 ^ N → ∃ b', b' < 2 ^ N ∧ f_X1_bestSet_c8 (nI N) (σ (6 + p)) f1 (nI b) (sF (jo σ p) b N) (nI s) g = some (nI b', g) ∧ f_X7_fill_c66 (nI p) a2 f2 (dOf σ (nI p) N) (nI b) (sF (jo σ p) b N) (nI s) h = (if a2 = 0 then some (nI b', h) else if a2 = 1 then some (sF (jo σ p) b' N, h) else bn (f_X7_valuesOf (nI b') h) fun r1 h2 => some (r1, h2))
  | m, s, 0, f2, b, _, h2, _, _ => absurd h2 (Nat.not_lt_zero _)
  | m, s, f1 + 1, 0, b, _, _, h2, _ => absurd h2 (Nat.not_lt_zero _)
  | 0, s, f1 + 1, f2 + 1, b, h1, _, _, hb => by
    have hT : 2 ^ N ≤ 2 ^ 10 := Nat.pow_le_pow_right (by omega) hN
    have hT : 2 ^ N ≤ 1024 := hT
    refine ⟨b, hb, ?_, ?_⟩
    · rw [f_X1_bestSet_c8, one_sh N (by omega), if_pos (nI_le (by omega) (by omega))]
    · rw [f_X7_fill_c66, gS_0, cN_0, hs1, h0, one_sh N (by omega), if_pos (nI_le (by omega) (by omega))]
  | m + 1, s, f1 + 1, f2 + 1, b, h1, h2, h3, hb => by
    have hT : 2 ^ N ≤ 2 ^ 10 := Nat.pow_le_pow_right (by omega) hN
    have hT : 2 ^ N ≤ 1024 := hT
    have hs : s < 2 ^ N := by omega
    have nx := fill_j (g := g) (h := h) (a2 := a2) hs1 h0 hN hp hg hh m (s + 1) f1 f2 b (by omega) (by omega) (by omega) hb
    have tk := fill_j (g := g) (h := h) (a2 := a2) hs1 h0 hN hp hg hh m (s + 1) f1 f2 s (by omega) (by omega) (by omega) hs
    obtain ⟨r1, x1, x2⟩ := C_std (h := g) (σ := σ) (s := s) (N := N) (p := p) (by omega) hN (fun j hj => (hg j hj).2.2)
    obtain ⟨r4, y1, y2⟩ := M_ap (h := h) (s := s) (N := N) (by omega) (by rw [hs1]; exact h0) hN
    rw [hs1] at y2
    have s55 : sF (g 55) s 10 = sF (vlF σ) s N := by
      rw [show 10 = N + (10 - N) by omega, sF_cut hs]
      exact sF_cg N (fun j hj => (hg j hj).1)
    have s56 : sF (g 56) s 10 = sF (jo σ p) s N := by
      rw [show 10 = N + (10 - N) by omega, sF_cut hs]
      exact sF_cg N (fun j hj => (hg j hj).2.1)
    have s12 : sF (h 12) s N = sF (vlF σ) s N := sF_cg N hh
    have own := own_iff (σ := σ) (p := p) hs hN
    have z10 : ¬ (1 : Int32) = 0 := by decide
    have cl : f_X1_bestSet_c8 (nI N) (σ (6 + p)) (f1 + 1) (nI b) (sF (jo σ p) b N) (nI s) g = if ¬ r1 = 0 ∧ ¬ σ (6 + p) < sF (vlF σ) s N ∧ (sF (jo σ p) b N < sF (jo σ p) s N ∨ (sF (jo σ p) s N = sF (jo σ p) b N ∧ ¬ bcp (nI b) ≤ bcp (nI s))) then f_X1_bestSet_c8 (nI N) (σ (6 + p)) f1 (nI s) (sF (jo σ p) s N) (nI (s + 1)) g else f_X1_bestSet_c8 (nI N) (σ (6 + p)) f1 (nI b) (sF (jo σ p) b N) (nI (s + 1)) g := by
      rw [← sel_c, f_X1_bestSet_c8, one_sh N (by omega), if_neg (nI_ge (by omega) (by omega)), x1, bn_s, C_sum (by omega), bn_s, C_sum (by omega), bn_s, J_bc, bn_s, J_bc, bn_s, s55, s56]
      unfold f_X1_bestSet_c76 f_X1_bestSet_c83
      rw [nI_1]
    have rf : f_X7_fill_c66 (nI p) a2 (f2 + 1) (dOf σ (nI p) N) (nI b) (sF (jo σ p) b N) (nI s) h = if ((nI s &&& dOf σ (nI p) N) = 0 ∧ ¬ r4 = 0) ∧ ¬ σ (6 + p) < sF (vlF σ) s N ∧ (sF (jo σ p) b N < sF (jo σ p) s N ∨ (sF (jo σ p) s N = sF (jo σ p) b N ∧ ¬ bcp (nI b) ≤ bcp (nI s))) then f_X7_fill_c66 (nI p) a2 f2 (dOf σ (nI p) N) (nI s) (sF (jo σ p) s N) (nI (s + 1)) h else f_X7_fill_c66 (nI p) a2 f2 (dOf σ (nI p) N) (nI b) (sF (jo σ p) b N) (nI (s + 1)) h := by
      rw [← sel_m, f_X7_fill_c66, gS_0, cN_0, M_joys (N := N) hp (by omega) (by rw [hs1]; exact h0) hN, bn_s, M_many (m := s) (by omega), bn_s, M_many (m := b) (by omega), bn_s, hs1, h0, one_sh N (by omega), if_neg (nI_ge (by omega) (by omega))]
      unfold f_X7_fill_c115 f_X7_fill_c119 f_X7_fill_c120 f_X7_fill_c169
      rw [if_neg z10, if_pos rfl, M_vals (N := N) (by omega) (by rw [hs1]; exact h0) hN, bn_s, ixc, gd_n (by omega) (by omega), nI_clamp (by omega), y1, bn_s, hs1, s12, nI_1]
    by_cases ok : (OWN σ p N s ∧ APT σ N s 0) ∧ ¬ σ (6 + p) < sF (vlF σ) s N ∧ (sF (jo σ p) b N < sF (jo σ p) s N ∨ (sF (jo σ p) s N = sF (jo σ p) b N ∧ ¬ bcp (nI b) ≤ bcp (nI s)))
    · rw [if_pos ⟨fun q => x2.mp q ok.1, ok.2⟩] at cl
      rw [if_pos ⟨⟨own.mpr ok.1.1, fun q => y2.mp q ok.1.2⟩, ok.2⟩] at rf
      rw [cl, rf]
      exact tk
    · rw [if_neg (fun q => ok ⟨Classical.byContradiction (fun z => q.1 (x2.mpr z)), q.2⟩)] at cl
      rw [if_neg (fun q => ok ⟨⟨own.mp q.1.1, Classical.byContradiction (fun z => q.1.2 (y2.mpr z))⟩, q.2⟩)] at rf
      rw [cl, rf]
      exact nx
theorem S_fill_ok {κ : Nat} (hκ : κ < 64) : S_fill (Rk κ) (Rk (κ + 1)) := by
  intro a1 a2 hc hm hR
  refine Sm.k hκ hR ?_
  have hR := hR.1
  simp only [f_X6_fill, f_X7_fill, C_isOne, C_within, M_isOne, M_0_2, bn_s, b01]
  refine Sm.ite (fun c1 => Sm.ite (fun c2 => ?_) (fun _ => .ret hR)) (fun _ => .ret hR)
  obtain ⟨p, hp, rfl⟩ := in_nI (n := 5) (M := 5) rfl c1
  obtain ⟨⟨N, hN, h0⟩, -⟩ := hR.1.2.1
  obtain ⟨g, l1, l2, l3⟩ := C_look_l hR h0 hN (show p < 6 by omega) N 0 xN hc (by omega) (by unfold xN; omega) cS.rf (fun j hj => absurd hj (Nat.not_lt_zero _))
  obtain ⟨h, v1, v2, v3⟩ := M_fl_v (p := p) (a2 := a2) hR h0 hN N 0 xN hm (by omega) (by unfold xN; omega) mS.rf (fun j hj => absurd hj (Nat.not_lt_zero _))
  have hR' := hR.scr l2 mS.rf
  have h11 : h 1 = hm 1 := v2 1 (by omega) (by omega) (by omega) (by omega) (by omega) (by omega) (by omega)
  have hT : 2 ^ N ≤ 2 ^ 10 := Nat.pow_le_pow_right (by omega) hN
  have hT : 2 ^ N ≤ 1024 := hT
  have hT0 : 0 < 2 ^ N := Nat.two_pow_pos N
  obtain ⟨b, q1, q2, q3⟩ := fill_j (g := g) (h := h) (σ := hm 1) (a2 := a2) h11 h0 hN (show p < 6 by omega) l3 v3 (2 ^ N - 1) 1 xN xN 0 (by omega) (by unfold xN; omega) (by unfold xN; omega) hT0
  rw [sF_z] at q2 q3
  rw [f_X1_lookAt, show f_X1_lookAt_c2 24 (nI p) xN 0 hc = _ from l1, bn_s, gd_n (show p < 6 by omega) (by omega), nI_clamp (by omega), hR'.1.1.days, h0, hR'.1.1.coins (w := 24) (show p < 6 by omega), f_X1_bestSet, show f_X1_bestSet_c8 (nI N) (hm 1 (6 + p)) xN 0 0 1 g = _ from q2, bn_s, show f_X7_fill_c24 (nI p) a2 xN 0 hm = _ from v1, show f_X7_fill_c66 (nI p) a2 xN (dOf (hm 1) (nI p) N) 0 0 1 h = _ from q3, C_sum (by omega), C_sum (by omega), bn_s, bn_s, M_vals (N := N) (by omega) (by rw [h11]; exact h0) hN, bn_s]
  have s55 : sF (g 55) b 10 = sF (vlF (hm 1)) b N := by
    rw [show 10 = N + (10 - N) by omega, sF_cut q1]
    exact sF_cg N (fun j hj => (l3 j hj).1)
  have s56 : sF (g 56) b 10 = sF (jo (hm 1) p) b N := by
    rw [show 10 = N + (10 - N) by omega, sF_cut q1]
    exact sF_cg N (fun j hj => (l3 j hj).2.1)
  have s12 : sF (h 12) b N = sF (vlF (hm 1)) b N := sF_cg N v3
  rw [s55, s56, s12]
  obtain ⟨j, hj, rfl⟩ := in_nI (n := 2) (M := 2) rfl c2
  rcases (show j = 0 ∨ j = 1 ∨ j = 2 by omega) with rfl | rfl | rfl
  · rw [if_neg (show ¬ nI 0 = 1 by decide), if_neg (show ¬ nI 0 = 2 by decide), if_pos (show nI 0 = 0 from rfl)]
    exact .fin hR l2 v2
  · rw [if_pos (show nI 1 = 1 from rfl), if_neg (show ¬ nI 1 = 0 by decide), if_pos (show nI 1 = 1 from rfl)]
    exact .fin hR l2 v2
  · rw [if_neg (show ¬ nI 2 = 1 by decide), if_pos (show nI 2 = 2 from rfl), if_neg (show ¬ nI 2 = 0 by decide), if_neg (show ¬ nI 2 = 1 by decide)]
    exact .fin hR l2 v2
