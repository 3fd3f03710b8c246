/-! what waits, held against the image's markets -/
def dueF (σ : Nat → Int32) (N i : Nat) : Int32 := if i % 2 = 0 then gOnN σ (i / 2 + 1) 3 else sWr (gOnN σ (i / 2 + 1)) N
def chk (W D : Nat → Int32) (M E : Nat) : Nat → Nat → Int32
  | 0, _ => if M ≤ E then 0 else nI (1 + E)
  | m + 1, i => if M ≤ i then nI (1 + i) else if W i = D i then chk W D M E m (i + 1) else nI (1 + i)
theorem one_add (i : Nat) : 1 + nI i = nI (1 + i) := nI_add 1 i
theorem C_chk {σ W : Nat → Int32} {N M K : Nat} {a1 : Int32} (hb : Bnd σ) (h0 : σ 0 = nI N) (hN : N ≤ 10) (hM : M ≤ 60) (hK : K ≤ 30) : ∀ m i f (g : xH), i + m = 2 * K → m < f → CW g 44 (gOnN σ ((i + 1) / 2)) → (∀ j, j < 60 → g 84 j = W j) → ∃ g', f_X6_check_c58 a1 f (nI M) (nI (2 * K)) (nI i) g = some (chk W (dueF σ N) M (2 * K) m i, g') ∧ cF 44 g g'
  | m, i, 0, g, _, h2, _, _ => absurd h2 (Nat.not_lt_zero _)
  | 0, i, f + 1, g, h1, _, hw, hW => by
    rw [f_X6_check_c58, if_pos (nI_le (by omega) (by omega)), chk]
    by_cases c : M ≤ 2 * K
    · rw [if_pos (nI_le c (by omega)), if_pos c]
      exact ⟨g, rfl, cF.rf⟩
    · rw [if_neg (nI_ge (by omega) (by omega)), if_neg c, one_add]
      exact ⟨g, rfl, cF.rf⟩
  | m + 1, i, f + 1, g, h1, h2, hw, hW => by
    have key : ∀ (g1 : xH) (s0 : Int32), cF 44 g g1 → CW g1 44 (gOnN σ ((i + 1 + 1) / 2)) → s0 = dueF σ N i → ∃ g', f_X6_check_c113 (f_X6_check_c58 a1 f) a1 (nI M) (nI (2 * K)) (nI i) s0 g1 = some (chk W (dueF σ N) M (2 * K) (m + 1) i, g') ∧ cF 44 g g' := by
      intro g1 s0 hf hw1 hs
      unfold f_X6_check_c113
      rw [chk]
      by_cases c : M ≤ i
      · rw [if_pos (nI_le c (by omega)), if_pos c, one_add]
        exact ⟨g1, rfl, hf⟩
      · rw [if_neg (nI_ge (by omega) (by omega)), if_neg c, gd_n (show i < 60 by omega) (by omega), nI_clamp (by omega), hf 84 (by omega) (by omega), hW i (by omega), hs]
        by_cases c2 : W i = dueF σ N i
        · rw [if_pos c2, if_pos c2, nI_1]
          obtain ⟨g', i1, i2⟩ := C_chk (W := W) (a1 := a1) hb h0 hN hM hK m (i + 1) f g1 (by omega) (by omega) hw1 (fun j hj => by rw [hf 84 (by omega) (by omega)]; exact hW j hj)
          exact ⟨g', i1, hf.tr i2⟩
        · rw [if_neg c2, if_neg c2, one_add]
          exact ⟨g1, rfl, hf⟩
    have e : nI i - nI i / 2 * 2 = nI (i % 2) := rm_nI (a := i) (b := 2) (by omega) (by omega)
    rw [f_X6_check_c58, if_neg (nI_ge (by omega) (by omega)), e]
    unfold f_X6_check_c76 f_X6_check_c91
    have z10 : ¬ (1 : Int32) = 0 := by decide
    by_cases c : i % 2 = 0
    · obtain ⟨g1, c1, c2, c3⟩ := C_goOn (n := 1) hw (by omega) (by omega)
      rw [c, if_pos (show nI 0 = 0 from rfl), if_neg z10, show f_X5_goOn 44 1 g = some (0, g1) from c1, bn_s, if_neg z10]
      have c2' : CW g1 44 (gOnN σ ((i + 1 + 1) / 2)) := by
        rw [show (i + 1 + 1) / 2 = (i + 1) / 2 + 1 by omega]
        exact c2
      refine key g1 _ c3 c2' ?_
      rw [dueF, if_pos c, show i / 2 + 1 = (i + 1 + 1) / 2 by omega]
      exact c2'.1.sales
    · have hw' : CW g 44 (gOnN σ ((i + 1 + 1) / 2)) := by
        rw [show (i + 1 + 1) / 2 = (i + 1) / 2 by omega]
        exact hw
      rw [if_neg (show ¬ nI (i % 2) = 0 by rw [show i % 2 = 1 by omega]; decide), if_pos rfl, if_pos rfl, C_allWear (N := N) hw'.1 ((gOnN_ne hb (by omega) _).trans h0) hN, bn_s]
      refine key g _ cF.rf hw' ?_
      rw [dueF, if_neg c, show i / 2 + 1 = (i + 1 + 1) / 2 by omega]
theorem M_chk2 {h : xH} {W D : Nat → Int32} {M E : Nat} {a1 : Int32} (hM : M ≤ 60) (hE : E ≤ 60) (hW : ∀ j, j < 60 → h 18 j = W j) (hD : ∀ j, j < E → h 19 j = D j) : ∀ m i f, i + m = E → m < f → i ≤ M → f_X7_check_c134 a1 f (nI M) (nI E) (nI i) h = some (chk W D M E m i, h)
  | m, i, 0, _, h2, _ => absurd h2 (Nat.not_lt_zero _)
  | 0, i, f + 1, h1, _, h3 => by
    have hi : i = E := by omega
    subst hi
    rw [f_X7_check_c134, chk]
    unfold f_X7_check_c169
    by_cases c : M ≤ i
    · have : i = M := by omega
      subst this
      rw [if_pos (nI_le c (by omega)), if_pos rfl, if_pos rfl, if_pos c]
    · rw [if_neg (nI_ge (by omega) (by omega)), if_pos (nI_le (by omega) (by omega)), if_neg (fun q => c (by have := (nI_eq (by omega) (by omega)).mp q; omega)), if_neg c, one_add]
  | m + 1, i, f + 1, h1, h2, h3 => by
    have ih := M_chk2 (h := h) (a1 := a1) hM hE hW hD m (i + 1) f (by omega) (by omega)
    rw [f_X7_check_c134, chk]
    unfold f_X7_check_c169
    by_cases c : M ≤ i
    · have : i = M := by omega
      subst this
      rw [if_pos (nI_le c (by omega)), if_pos rfl, if_neg (fun q => by have := (nI_eq (by omega) (by omega)).mp q; omega), if_pos c, one_add]
    · have n1 : ¬ nI i = nI M := fun q => c (by have := (nI_eq (by omega) (by omega)).mp q; omega)
      rw [if_neg (nI_ge (by omega) (by omega)), if_neg (nI_ge (by omega) (by omega)), if_neg c, gd_n (show i < 60 by omega) (by omega), gd_n (show i < 60 by omega) (by omega), nI_clamp (by omega), hW i (by omega), hD i (by omega), if_neg n1, one_add, nI_1]
      by_cases c2 : W i = D i
      · rw [if_pos c2, if_pos c2]
        exact ih (by omega)
      · rw [if_neg c2, if_neg c2]
theorem M_chk1 {hc : xH} {σ : Nat → Int32} {n K m0 N : Nat} {v2 : Int32} (hl : LW hc σ) (hb : Bnd σ) (hn : n ≤ 30) (hm0 : σ 2 = nI m0) (hm9 : m0 ≤ 9999) (hK : K = if 9999 - m0 < n then 9999 - m0 else n) (h0 : σ 0 = nI N) (hN : N ≤ 10) : ∀ m i f (h : xH), i + m = K → m < f → h 1 = gOnN σ i → (∀ j, j < 2 * i → h 19 j = dueF σ N j) → ∃ h', f_X7_check_c64 (nI n) f v2 (nI (2 * i)) (nI i) h = f_X7_check_c119 (nI n) v2 (nI (2 * K)) h' ∧ h' 1 = gOnN σ K ∧ (∀ j, j < 2 * K → h' 19 j = dueF σ N j) ∧ ∀ q, q ≠ 1 → q ≠ 15 → q ≠ 16 → q ≠ 19 → h' q = h q
  | m, i, 0, h, _, h2, _, _ => absurd h2 (Nat.not_lt_zero _)
  | 0, i, f + 1, h, h1, _, hs, hD => by
    have hkn : K ≤ n ∧ m0 + K ≤ 9999 := by
      by_cases c2 : 9999 - m0 < n
      · rw [if_pos c2] at hK; omega
      · rw [if_neg c2] at hK; omega
    have hd : i = K := by omega
    rw [hd] at hs hD
    rw [hd]
    refine ⟨h, ?_, hs, hD, fun _ _ _ _ _ => rfl⟩
    rw [f_X7_check_c64, gS_2, cN_2, hs, gOnN_2 hb, hm0, nI_add]
    by_cases c : n ≤ K
    · rw [if_pos (nI_le c (by omega))]
    · by_cases c2 : 9999 - m0 < n
      · rw [if_pos c2] at hK
        rw [if_neg (nI_ge (by omega) (by omega)), if_pos (show (9999 : Int32) ≤ nI (m0 + K) from nI_le (a := 9999) (by omega) (by omega))]
      · rw [if_neg c2] at hK
        omega
  | m + 1, i, f + 1, h, h1, h2, hs, hD => by
    have hkn : K ≤ n ∧ m0 + K ≤ 9999 := by
      by_cases c2 : 9999 - m0 < n
      · rw [if_pos c2] at hK; omega
      · rw [if_neg c2] at hK; omega
    obtain ⟨g, e1, e2, e3⟩ := M_goesOn (hc := hc) (h := h) ⟨by rw [hs]; exact hl.s (fun j hj => gOnN_ne hb (by omega) i), by rw [hs]; exact gOnN_b hb i⟩
    have e2 : g 1 = gOnN σ (i + 1) := by rw [e2, hs]; rfl
    have w1 : xst g 19 (2 * i) (g 1 3) 1 = gOnN σ (i + 1) := by rw [xst_ne (by omega)]; exact e2
    have w2 := M_allWear (h := xst g 19 (2 * i) (g 1 3)) (N := N) (by rw [w1, gOnN_ne hb (by omega)]; exact h0) hN
    rw [w1] at w2
    obtain ⟨h', i1, i2, i3, i4⟩ := M_chk1 (v2 := v2) hl hb hn hm0 hm9 hK h0 hN m (i + 1) f (xst (xst g 19 (2 * i) (g 1 3)) 19 (2 * i + 1) (sWr (gOnN σ (i + 1)) N)) (by omega) (by omega) (by rw [xst_ne (by omega)]; exact w1) (by
      intro j hj
      rw [xst_self]
      by_cases c : j = 2 * i + 1
      · rw [c, pk_us, dueF, if_neg (by omega), show (2 * i + 1) / 2 + 1 = i + 1 by omega]
      · rw [pk_un c, xst_self]
        by_cases c2 : j = 2 * i
        · rw [c2, pk_us, dueF, if_pos (by omega), show 2 * i / 2 + 1 = i + 1 by omega, e2]
        · rw [pk_un c2, e3 19 (by omega) (by omega) (by omega)]
          exact hD j (by omega))
    refine ⟨h', ?_, i2, i3, fun q q1 q2 q3 q4 => ?_⟩
    · rw [f_X7_check_c64, if_neg (nI_ge (by omega) (by omega)), gS_2, cN_2, hs, gOnN_2 hb, hm0, nI_add, if_neg (show ¬ (9999 : Int32) ≤ nI (m0 + i) from nI_ge (b := 9999) (by omega) (by omega)), e1, bn_s, gS_3, cN_3, gd_n (show 2 * i < 60 by omega) (by omega), nm_x, nI_clamp (by omega), w2, bn_s, nI_1, nI_1, gd_n (show 2 * i + 1 < 60 by omega) (by omega), nm_x, nI_clamp (by omega), show nI (2 * i) + 2 = nI (2 * (i + 1)) from nI_add (2 * i) 2]
      exact i1
    · rw [i4 q q1 q2 q3 q4, xst_ne q4, xst_ne q4, e3 q q1 q2 q3]
theorem Rl.clr {hc hm : xH} (hR : Rl hc hm) : Rl (xst hc 0 10 0) (xst hm 0 30 0) := by
  obtain ⟨a, b, c, d, e, f⟩ := hR
  have c0 : ∀ q, q ≠ 0 → xst hc 0 10 0 q = hc q := fun q q1 => xst_ne q1
  have m0 : ∀ q, q ≠ 0 → xst hm 0 30 0 q = hm q := fun q q1 => xst_ne q1
  have c1 : ∀ j, j ≠ 10 → xst hc 0 10 0 0 j = hc 0 j := fun j hj => by rw [xst_self, pk_un hj]
  have m1 : ∀ j, j ≠ 30 → xst hm 0 30 0 0 j = hm 0 j := fun j hj => by rw [xst_self, pk_un hj]
  refine ⟨a.cg (fun q hq => c0 q (by omega)) (m0 1 (by omega)), b.cg (c1 11 (by omega)) (fun q hq => c0 q (by omega)) (m1 3 (by omega)) (m0 2 (by omega)) (by rw [m0 1 (by omega)]; exact Nat.le_refl _), c.cg (by rw [c0 21 (by omega)]) (c0 22 (by omega)) (m1 15 (by omega)) (m0 14 (by omega)), d.cg (fun q q1 q2 => c0 q (by omega)) (m0 4 (by omega)) (m0 5 (by omega)) (m0 6 (by omega)), e.cg (fun q q1 q2 => c0 q (by omega)) (m0 7 (by omega)) (m0 8 (by omega)) (m0 9 (by omega)) (m0 10 (by omega)) (m0 11 (by omega)), ⟨0, by omega, by rw [xst_self, pk_us]; rfl, by rw [xst_self, pk_us]; rfl, fun i hi => ?_⟩⟩
  obtain ⟨n', -, -, -, f⟩ := f
  rw [c0 84 (by omega), m0 18 (by omega)]
  exact f i hi
theorem Sm.z30 {hm : xH} {v : Int32} {x y : Option (Int32 × xH)} (h : Sm (xst hm 0 30 v) x y) : Sm hm x y := by
  obtain ⟨r, hc1, hm1, e1, e2, e3, e4⟩ := h
  refine ⟨r, hc1, hm1, e1, e2, e3, fun b b0 b1 hs => e4 b b0 b1 ?_⟩
  unfold sb
  rw [xst_ne (show (1 : Nat) ≠ 0 by omega), xst_ne (show (2 : Nat) ≠ 0 by omega), xst_self, pk_un (show (3 : Nat) ≠ 30 by omega)]
  exact hs
theorem check_go {hc hm : xH} (hR : Rl hc hm) (hk : hm 0 3 = 1) {n M : Nat} (hn : n ≤ 30) (hM : M ≤ 60) : Sm hm (bn (f_X5_become 44 34 hc) fun r5 h6 => bn (f_X5_marketsLeft 34 (nI n) h6) fun r8 h9 => f_X6_check_c58 (nI n) xN (nI M) (2 * r8) 0 h9) (bn (f_X7_setAside 1 3078 3 3078 hm) fun r5 h6 => bn (f_X7_setAside 2 3078 1 3078 h6) fun r8 h9 => f_X7_check_c64 (nI n) xN (nI M) 0 0 h9) := by
  rcases hR.2.1 with ⟨k1, k2⟩ | ⟨k1, k2, k3, k4, k5, k6, k7⟩
  · rw [k1] at hk; exact absurd hk (by decide)
  obtain ⟨y, -, -, -, hY⟩ := hR.2.2.2.2.2
  obtain ⟨g, e1, e2, e3⟩ := C_become (w := 44) k3 (Or.inl (by omega))
  have cp : ∀ j, j < 2878 → cpk (hm 2) (hm 1) 2878 j = hm 2 j := fun j hj => cpk_lt hj
  have lt := k6.le.1
  rw [e1, bn_s, M_setAside (by omega), bn_s, M_setAside (by omega), bn_s, xpt_ne (show (2 : Nat) ≠ 3 by omega), xpt_ne (show (1 : Nat) ≠ 3 by omega)]
  generalize hσ : cpk (hm 2) (hm 1) 2878 = σ at cp
  have hge : ∀ j, 2878 ≤ j → σ j = hm 1 j := fun j hj => by rw [← hσ, cpk_ge hj]
  have kl : LW g (hm 2) := k6.cg (fun q q1 q2 => e3 q (by omega)) (fun _ _ => rfl)
  have hw : CW g 44 σ := ⟨e2.cp cp lt, kl.cp cp, k4.cp cp⟩
  obtain ⟨⟨N, hN, h0⟩, -⟩ := hw.2.2
  obtain ⟨m0, hm9, hm31, hm0⟩ := rg_nI (show rg (σ 2) 9999 by rw [cp 2 (by omega)]; exact k5)
  have g14 : g 34 14 = nI m0 := by
    rw [e3 34 (by omega), k3.market, ← hm0, cp 2 (by omega)]
  have e : (if 9999 - g 34 14 < nI n then 9999 - g 34 14 else nI n) = nI (if 9999 - m0 < n then 9999 - m0 else n) := by
    rw [g14, n9999, nI_sub (by omega)]
    by_cases c : 9999 - m0 < n
    · rw [if_pos (nI_lt c (by omega)), if_pos c]
    · rw [if_neg (nI_nlt (by omega) (by omega)), if_neg c]
  simp only [f_X5_marketsLeft, nm_x, e, bn_s]
  obtain ⟨K, hK⟩ : ∃ k, k = if 9999 - m0 < n then 9999 - m0 else n := ⟨_, rfl⟩
  rw [← hK]
  have hkn : K ≤ n ∧ m0 + K ≤ 9999 := by
    by_cases c2 : 9999 - m0 < n
    · rw [if_pos c2] at hK; omega
    · rw [if_neg c2] at hK; omega
  obtain ⟨g', x1, x2⟩ := C_chk (W := hm 18) (N := N) (M := M) (K := K) (a1 := nI n) hw.2.2 h0 hN hM (by omega) (2 * K) 0 xN g (by omega) (by unfold xN; omega) hw (fun j hj => by rw [e3 84 (by omega)]; exact hY j hj)
  rw [show (2 : Int32) * nI K = nI (2 * K) from nI_mul 2 K, show f_X6_check_c58 (nI n) xN (nI M) (nI (2 * K)) 0 g = _ from x1]
  obtain ⟨h', y1, y2, y3, y4⟩ := M_chk1 (v2 := nI M) hw.2.1 hw.2.2 hn hm0 (by omega) hK h0 hN K 0 xN (xpt (xpt hm 3 (cpk (hm 1) (hm 3) 2878)) 1 σ) (by omega) (by unfold xN; omega) xpt_self (fun j hj => absurd hj (by omega))
  rw [show f_X7_check_c64 (nI n) xN (nI M) 0 0 (xpt (xpt hm 3 (cpk (hm 1) (hm 3) 2878)) 1 σ) = _ from y1, f_X7_check_c119, M_setAside (by omega), bn_s]
  have q3 : h' 3 = cpk (hm 1) (hm 3) 2878 := by rw [y4 3 (by omega) (by omega) (by omega) (by omega), xpt_ne (by omega), xpt_self]
  have q1 : cpk (h' 3) (h' 1) 2878 = hm 1 := by
    funext j
    by_cases c : j < 2878
    · rw [cpk_lt c, q3, cpk_lt c]
    · rw [cpk_ge (by omega), y2, gOnN_ne hw.2.2 (by omega), hge j (by omega)]
  have z := M_chk2 (h := xpt h' 1 (cpk (h' 3) (h' 1) 2878)) (W := hm 18) (D := dueF σ N) (M := M) (E := 2 * K) (a1 := nI n) hM (by omega) (fun j hj => by rw [xpt_ne (by omega), y4 18 (by omega) (by omega) (by omega) (by omega), xpt_ne (by omega), xpt_ne (by omega)]) (fun j hj => by rw [xpt_ne (by omega)]; exact y3 j hj) (2 * K) 0 xN (by omega) (by unfold xN; omega) (by omega)
  rw [show f_X7_check_c134 (nI n) xN (nI M) (nI (2 * K)) 0 (xpt h' 1 (cpk (h' 3) (h' 1) 2878)) = _ from z]
  refine .fin hR (fun q q1 q2 q3 q4 => by rw [x2 q q3 q1, e3 q q3]) (fun q z1 z2 z3 z4 z5 z6 z7 => ?_)
  by_cases c : q = 1
  · subst c; rw [xpt_self, q1]
  · rw [xpt_ne c, y4 q c z4 z5 z7, xpt_ne c, xpt_ne z1]
theorem S_check_ok {κ : Nat} (hκ : κ < 64) : S_check (Rk κ) (Rk (κ + 1)) := by
  intro a1 hc hm hR
  refine Sm.k hκ hR ?_
  have hR := hR.1
  obtain ⟨M, hM, y1, y2, -⟩ := hR.2.2.2.2.2
  simp only [f_X6_check, f_X7_check, nm_x, C_within, M_1_30, bn_s, b01, y1, y2]
  have hR1 := hR.clr
  refine Sm.z30 (v := 0) ?_
  refine Sm.ite (fun c1 => ?_) (fun _ => .ret hR1)
  obtain ⟨n, hn, rfl⟩ := in_nI (n := 30) (M := 30) rfl ⟨Int32.le_trans (by decide) c1.1, c1.2⟩
  rcases hR1.2.1 with ⟨k1, k2⟩ | ⟨k1, k2, k3⟩
  · rw [if_pos k1, if_pos k2]; exact .ret hR1
  · rw [if_neg (by rw [k2]; decide), if_neg (by rw [k1]; decide)]
    exact check_go hR1 k1 hn hM
