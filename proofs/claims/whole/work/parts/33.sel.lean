/-! kinds, days of one, drawing, selling -/
theorem under_eq : ∀ k, k < 6 → ∀ j, j < 6 → ∀ h : xH, f_X6_isUnder (nI k) (nI j) h = f_X7_isOf (nI k) (nI j) h :=
  lt_s (lt_s (lt_s (lt_s (lt_s (lt_s lt_0 (lt_s (lt_s (lt_s (lt_s (lt_s (lt_s lt_0 (fun _ => rfl)) (fun _ => rfl)) (fun _ => rfl)) (fun _ => rfl)) (fun _ => rfl)) (fun _ => rfl))) (lt_s (lt_s (lt_s (lt_s (lt_s (lt_s lt_0 (fun _ => rfl)) (fun _ => rfl)) (fun _ => rfl)) (fun _ => rfl)) (fun _ => rfl)) (fun _ => rfl))) (lt_s (lt_s (lt_s (lt_s (lt_s (lt_s lt_0 (fun _ => rfl)) (fun _ => rfl)) (fun _ => rfl)) (fun _ => rfl)) (fun _ => rfl)) (fun _ => rfl))) (lt_s (lt_s (lt_s (lt_s (lt_s (lt_s lt_0 (fun _ => rfl)) (fun _ => rfl)) (fun _ => rfl)) (fun _ => rfl)) (fun _ => rfl)) (fun _ => rfl))) (lt_s (lt_s (lt_s (lt_s (lt_s (lt_s lt_0 (fun _ => rfl)) (fun _ => rfl)) (fun _ => rfl)) (fun _ => rfl)) (fun _ => rfl)) (fun _ => rfl))) (lt_s (lt_s (lt_s (lt_s (lt_s (lt_s lt_0 (fun _ => rfl)) (fun _ => rfl)) (fun _ => rfl)) (fun _ => rfl)) (fun _ => rfl)) (fun _ => rfl))
theorem M_isOf (a b : Int32) (h : xH) : ∃ P : Prop, ∃ _ : Decidable P, f_X7_isOf a b h = some (if P then 1 else 0, h) := by
  unfold f_X7_isOf f_X7_isOf_c19
  by_cases h1 : a = b
  · exact ⟨True, instDecidableTrue, by rw [if_pos h1]; rfl⟩
  rw [if_neg h1]
  by_cases h2 : b = 0
  · exact ⟨True, instDecidableTrue, by rw [if_pos h2]; rfl⟩
  rw [if_neg h2]
  by_cases h3 : b = 1
  · rw [if_pos h3]
    by_cases h4 : a = 3
    · exact ⟨True, instDecidableTrue, by rw [if_pos h4]; rfl⟩
    · rw [if_neg h4, if_neg (by rw [h3]; decide)]
      exact ⟨False, instDecidableFalse, rfl⟩
  · rw [if_neg h3]
    by_cases h5 : b = 2
    · rw [if_pos h5]
      by_cases h6 : a = 4
      · exact ⟨True, instDecidableTrue, by rw [if_pos h6]; rfl⟩
      · exact ⟨False, instDecidableFalse, by rw [if_neg h6]; rfl⟩
    · exact ⟨False, instDecidableFalse, by rw [if_neg h5]; rfl⟩
theorem S_as_ok {κ : Nat} (hκ : κ < 64) : S_as (Rk κ) (Rk (κ + 1)) := by
  intro a1 a2 hc hm hR
  refine Sm.k hκ hR ?_
  have hR := hR.1
  simp only [f_X6_as, f_X7_as, C_isDay, C_isKind, M_isDay, M_0_5, bn_s, b01, hR.1.1.days]
  refine Sm.ite (fun c1 => Sm.ite (fun c2 => ?_) (fun _ => .ret hR)) (fun _ => .ret hR)
  obtain ⟨d, n, hd, hn, h0, rfl⟩ := day_in hR.1.2.1.1 c1
  obtain ⟨j, hj, rfl⟩ := in_nI (n := 5) (M := 5) rfl c2
  rw [gd_n (by omega) (by omega), nI_clamp (by omega), M_of (j := 0) (k := 0) rfl (by omega) (by omega), bn_s, hR.1.1.day (k := 0) (by omega) (by omega) (a := 25) rfl]
  obtain ⟨k, hk, hk2, e⟩ := rg_nI (hR.1.2.1.dd (d := d) (k := 0) (by omega) (by omega))
  have hk : (k : Int) ≤ 5 := hk
  rw [e, under_eq k (by omega) j (by omega)]
  obtain ⟨P, hP, e1⟩ := M_isOf (nI k) (nI j) hc
  obtain ⟨P', hP', e2⟩ := M_isOf (nI k) (nI j) hm
  have hPP : (if P then (1 : Int32) else 0) = if P' then 1 else 0 := by
    have h1 : ∀ h h' : xH, (f_X7_isOf (nI k) (nI j) h).map Prod.fst = (f_X7_isOf (nI k) (nI j) h').map Prod.fst := by
      intro h h'
      unfold f_X7_isOf f_X7_isOf_c19
      repeat' split
      all_goals rfl
    have h2 := h1 hc hm
    rw [e1, e2] at h2
    exact Option.some.inj h2
  rw [e1, e2, bn_s, bn_s, hPP, b01, b01]
  refine Sm.ite (fun _ => ?_) (fun _ => .ret hR)
  rw [gd_n (by omega) (by omega), M_of (j := 1) (k := 1) rfl (by omega) (by omega), bn_s, hR.1.1.day (k := 1) (by omega) (by omega) (a := 26) rfl]
  exact .ret hR
/-! daysOf -/
def dOf (σ : Nat → Int32) (p : Int32) : Nat → Int32
  | 0 => 0
  | d + 1 => if σ (18 + 6 * d + 4) = p then dOf σ p d ||| (1 <<< (nI d &&& 31)) else dOf σ p d
theorem C_daysOf_l {h : xH} {w : Nat} {σ : Nat → Int32} {p : Int32} {N : Nat} (hw : WR h w σ) (h0 : σ 0 = nI N) (hN : N ≤ 10) : ∀ k d n, d + k = N → k < n → f_X5_daysOf_c4 w p n (dOf σ p d) (nI d) h = some (dOf σ p N, h)
  | k, d, 0, _, h2 => absurd h2 (Nat.not_lt_zero _)
  | 0, d, n + 1, h1, _ => by
    rw [f_X5_daysOf_c4, hw.days, h0, if_pos (nI_le (by omega) (by omega))]
    rw [show d = N by omega]
  | k + 1, d, n + 1, h1, h2 => by
    rw [f_X5_daysOf_c4, hw.days, h0, if_neg (nI_ge (by omega) (by omega)), gd_n (by omega) (by omega), nI_clamp (by omega), hw.day (k := 4) (by omega) (by omega) (a := w + 5) rfl]
    have ih := C_daysOf_l (p := p) hw h0 hN k (d + 1) n (by omega) (by omega)
    rw [dOf, nI_succ] at ih
    by_cases c : σ (18 + 6 * d + 4) = p
    · rw [if_pos c] at ih ⊢
      exact ih
    · rw [if_neg c] at ih ⊢
      exact ih
theorem C_daysOf {h : xH} {w : Nat} {σ : Nat → Int32} {p : Int32} {N : Nat} (hw : WR h w σ) (h0 : σ 0 = nI N) (hN : N ≤ 10) : f_X5_daysOf w p h = some (dOf σ p N, h) := C_daysOf_l hw h0 hN N 0 xN (by omega) (by unfold xN; omega)
theorem or0 (x : Int32) : x ||| 0 = x := by
  apply Int32.toBitVec_inj.mp
  show x.toBitVec ||| 0#32 = x.toBitVec
  simp
theorem M_daysOf_l {h : xH} {p : Int32} {N : Nat} (h0 : h 1 0 = nI N) (hN : N ≤ 10) : ∀ k d n, d + k = N → k < n → f_X7_daysOf_c4 p n (dOf (h 1) p d) (nI d) h = some (dOf (h 1) p N, h)
  | k, d, 0, _, h2 => absurd h2 (Nat.not_lt_zero _)
  | 0, d, n + 1, h1, _ => by
    rw [f_X7_daysOf_c4, gS_0, cN_0, h0, if_pos (nI_le (by omega) (by omega))]
    rw [show d = N by omega]
  | k + 1, d, n + 1, h1, h2 => by
    rw [f_X7_daysOf_c4, gS_0, cN_0, h0, if_neg (nI_ge (by omega) (by omega)), M_of (j := 4) (k := 4) rfl (by omega) (by omega), bn_s]
    have ih := M_daysOf_l (p := p) h0 hN k (d + 1) n (by omega) (by omega)
    rw [dOf, nI_succ] at ih
    unfold f_X7_daysOf_c32
    by_cases c : h 1 (18 + 6 * d + 4) = p
    · rw [if_pos c] at ih ⊢
      exact ih
    · rw [if_neg c] at ih ⊢
      rw [or0]
      exact ih
theorem M_daysOf {h : xH} {p : Int32} {N : Nat} (h0 : h 1 0 = nI N) (hN : N ≤ 10) : f_X7_daysOf p h = some (dOf (h 1) p N, h) := M_daysOf_l h0 hN N 0 xN (by omega) (by unfold xN; omega)
theorem S_one_ok {κ : Nat} (hκ : κ < 64) : S_one (Rk κ) (Rk (κ + 1)) := by
  intro a1 a2 hc hm hR
  refine Sm.k hκ hR ?_
  have hR := hR.1
  simp only [f_X6_one, f_X7_one, C_isOne, M_isOne, M_0_2, bn_s, b01]
  refine Sm.ite (fun c1 => ?_) (fun _ => .ret hR)
  obtain ⟨p, hp, rfl⟩ := in_nI (n := 5) (M := 5) rfl c1
  by_cases c2 : 0 ≤ a2 ∧ a2 ≤ 2
  · rw [if_pos c2]
    obtain ⟨j, hj, rfl⟩ := in_nI (n := 2) (M := 2) rfl c2
    obtain ⟨⟨N, hN, h0⟩, -⟩ := hR.1.2.1
    match j, hj with
    | 0, _ =>
      rw [if_pos (show nI 0 = 0 from rfl), if_pos (show nI 0 = 0 from rfl), gd_n (by omega) (by omega), ixc, gd_n (by omega) (by omega), nI_clamp (by omega), nI_clamp (by omega), hR.1.1.coins (by omega)]
      exact .ret hR
    | 1, _ =>
      rw [if_neg (show ¬ nI 1 = 0 by decide), if_pos (show nI 1 = 1 from rfl), if_neg (show ¬ nI 1 = 0 by decide), if_pos (show nI 1 = 1 from rfl), gd_n (by omega) (by omega), ixw, gd_n (by omega) (by omega), nI_clamp (by omega), nI_clamp (by omega), hR.1.1.wish (by omega)]
      exact .ret hR
    | 2, _ =>
      rw [if_neg (show ¬ nI 2 = 0 by decide), if_neg (show ¬ nI 2 = 1 by decide), if_pos (show nI 2 = 2 from rfl), if_neg (show ¬ nI 2 = 0 by decide), if_neg (show ¬ nI 2 = 1 by decide), C_daysOf hR.1.1 h0 hN, M_daysOf h0 hN, bn_s, bn_s]
      exact .ret hR
  · rw [if_neg c2, if_neg (fun q => c2 (by subst q; decide)), if_neg (fun q => c2 (by subst q; decide)), if_neg (fun q => c2 (by subst q; decide))]
    exact .ret hR
/-! drawing -/
def drw (x : Int32) : Int32 := (x.toUInt32 >>> ((8 : Int32).toUInt32 &&& Int32.toUInt32 31)).toInt32
def zn (x : Int32) : Int32 := x * 1103515245 + 12345
def rm (x m : Int32) : Int32 := x - x / m * m
theorem C_draw {h : xH} {w : Nat} : f_X5_draw w h = some (drw (zn (h w 15)), xst h w 15 (zn (h w 15))) := by
  simp only [f_X5_draw, nm_x, xst_self, pk_us]
  rfl
theorem M_drawn {h : xH} : f_X7_drawn h = some (drw (zn (h 1 5)), xpt h 1 (upd (h 1) 5 (zn (h 1 5)))) := by
  simp only [f_X7_drawn, gS_5, cN_5, nm_x, xst, xpt_self, pk_us]
  rfl
theorem drw_nI (x : Int32) : ∃ j, j < 2 ^ 24 ∧ drw x = nI j := by
  refine ⟨x.toUInt32.toNat / 256, ?_, ?_⟩
  · have := x.toUInt32.toNat_lt
    omega
  · have h8 : ((8 : Int32).toUInt32 &&& Int32.toUInt32 31) = 8 := by decide
    unfold drw
    rw [h8]
    apply Int32.toBitVec_inj.mp
    show (x.toUInt32 >>> 8).toBitVec = BitVec.ofNat 32 _
    apply BitVec.eq_of_toNat_eq
    rw [BitVec.toNat_ofNat]
    show (x.toUInt32 >>> 8).toNat = _
    rw [UInt32.toNat_shiftRight]
    have := x.toUInt32.toNat_lt
    rw [show (8 : UInt32).toNat % 32 = 8 from rfl, Nat.shiftRight_eq_div_pow]
    omega
theorem nI_div {a b : Nat} (ha : a < 2 ^ 31) (hb : b < 2 ^ 31) : nI a / nI b = nI (a / b) := by
  apply Int32.toInt_inj.mp
  have hq : a / b < 2 ^ 31 := Nat.lt_of_le_of_lt (Nat.div_le_self a b) ha
  rw [Int32.toInt_div, nI_toInt ha, nI_toInt hb, nI_toInt hq]
  rw [show ((a : Int).tdiv b) = ((a / b : Nat) : Int) from rfl]
  generalize a / b = q at hq ⊢
  exact Int.bmod_eq_of_le (by omega) (by omega)
theorem rm_nI {a b : Nat} (ha : a < 2 ^ 31) (hb : b < 2 ^ 31) : rm (nI a) (nI b) = nI (a % b) := by
  unfold rm
  rw [nI_div ha hb, nI_mul]
  have h1 : a / b * b ≤ a := Nat.div_mul_le_self a b
  have h2 : a % b = a - a / b * b := by
    have := Nat.div_add_mod a b
    rw [Nat.mul_comm] at this
    omega
  rw [h2]
  have h3 : nI a = nI (a - a / b * b) + nI (a / b * b) := by rw [nI_add]; congr 1; omega
  rw [h3, Int32.add_sub_cancel]
theorem rm_rg {x : Int32} {b : Nat} {B : Int32} (hB : nI b = B) (hb : 0 < b) (hb2 : b < 2 ^ 31) : rg (rm (drw x) B) (b - 1) := by
  subst hB
  obtain ⟨j, hj, e⟩ := drw_nI x
  rw [e, rm_nI (by omega) hb2]
  have := Nat.mod_lt j hb
  exact rg_of (by omega) (by omega)
def dealS (σ : Nat → Int32) (n : Nat) : Nat → Int32 := addF (upd σ 5 (zn (zn (zn (zn (σ 5)))))) n (rm (drw (zn (σ 5))) 6) (rm (drw (zn (zn (σ 5)))) 100) (rm (drw (zn (zn (zn (σ 5))))) 10) (rm (drw (zn (zn (zn (zn (σ 5)))))) 6)
theorem C_drawDay {h : xH} {w n : Nat} {σ : Nat → Int32} (hw : WR h w σ) (h0 : σ 0 = nI n) (hn : n < 10) : ∃ h', f_X5_drawDay w h = some (0, h') ∧ WR h' w (dealS σ n) ∧ ∀ a, ¬ (w ≤ a ∧ a < w + 10) → h' a = h a := by
  have hz : ∀ v, WR (xst h w 15 v) w (upd σ 5 v) := fun v => hw.put (j := 5) (by omega) (by omega) rfl rfl
  have hzz : ∀ u v, xst (xst h w 15 u) w 15 v = xst h w 15 v := fun u v => by
    unfold xst
    rw [xpt_self, upd_upd, xpt_xpt]
  obtain ⟨h', e1, e2, e3⟩ := C_addDay (k := rm (drw (zn (σ 5))) 6) (d := rm (drw (zn (zn (σ 5)))) 100) (t := rm (drw (zn (zn (zn (σ 5))))) 10) (o := rm (drw (zn (zn (zn (zn (σ 5)))))) 6) (hz (zn (zn (zn (zn (σ 5)))))) (n := n) (by rw [pk_un (by omega)]; exact h0) hn
  refine ⟨h', ?_, e2, fun a ha => (e3 a ha).trans (xst_ne (by omega))⟩
  simp only [f_X5_drawDay, C_draw, bn_s, xst_self, pk_us, hw.z, hzz]
  unfold rm at e1
  rw [e1, bn_s]
theorem M_deal1 {h : xH} {n : Nat} (h0 : h 1 0 = nI n) (hn : n < 10) {ρ : Type} {k : xH → Option ρ} : (bn (f_X7_drawn h) fun r1 h2 => bn (f_X7_drawn h2) fun r4 h5 => bn (f_X7_drawn h5) fun r7 h8 => bn (f_X7_drawn h8) fun r10 h11 => bn (f_X7_comes (r1 - r1 / 6 * 6) (r4 - r4 / 100 * 100) (r7 - r7 / 10 * 10) (r10 - r10 / 6 * 6) h11) fun r13 h14 => k h14) = k (xpt h 1 (dealS (h 1) n)) := by
  simp only [M_drawn, bn_s, xpt_self, pk_us, xpt_xpt, upd_upd]
  rw [M_comes (n := n) (by rw [xpt_self, pk_un (by omega)]; exact h0) hn, bn_s, xpt_self, xpt_xpt]
  rfl
theorem Bnd.deal {σ : Nat → Int32} (hb : Bnd σ) {n : Nat} (hn : n < 10) : Bnd (dealS σ n) :=
  (hb.free (by omega)).add hn (rm_rg (b := 6) rfl (by omega) (by omega)) (rm_rg (b := 100) rfl (by omega) (by omega)) (rm_rg (b := 10) rfl (by omega) (by omega)) (rm_rg (b := 6) rfl (by omega) (by omega))
theorem deal_l {g0 : xH} {n came N0 : Nat} {a1 : Int32} (ha : a1 = nI n) (hn : n ≤ 10) (hc1 : came ≤ n) (hc2 : N0 + came ≤ 10) (hc3 : came = n ∨ N0 + came = 10) : ∀ k i f1 f2 hc hm, i + k = came → k < f1 → k < f2 → Rl hc hm → hm 1 0 = nI (N0 + i) → (hm 0 3 = g0 0 3 ∧ hm 2 = g0 2 ∧ hm 1 3 = g0 1 3) → Sm g0 (f_X6_deal_c30 a1 f1 (nI came) (nI i) hc) (f_X7_deal_c17 a1 f2 (nI i) hm)
  | k, i, 0, f2, hc, hm, _, h2, _, _, _, _ => absurd h2 (Nat.not_lt_zero _)
  | k, i, f1 + 1, 0, hc, hm, _, _, h2, _, _, _ => absurd h2 (Nat.not_lt_zero _)
  | 0, i, f1 + 1, f2 + 1, hc, hm, h1, _, _, hR, h0, hG => by
    subst ha
    rw [f_X6_deal_c30, f_X7_deal_c17, if_pos (nI_le (by omega) (by omega)), gS_0, cN_0, h0]
    by_cases c : n ≤ i
    · rw [if_pos (nI_le c (by omega)), show came = i by omega]
      exact .to (.m1 hG.1 hG.2.1 hG.2.2) hR
    · have q : (10 : Int32) ≤ nI (N0 + i) := nI_le (a := 10) (by omega) (by omega)
      rw [if_neg (nI_ge (by omega) (by omega)), if_pos q, show came = i by omega]
      exact .to (.m1 hG.1 hG.2.1 hG.2.2) hR
  | k + 1, i, f1 + 1, f2 + 1, hc, hm, h1, h2, h3, hR, h0, hG => by
    have hW := hR.1
    have hs := ha
    subst ha
    have q : ¬ (10 : Int32) ≤ nI (N0 + i) := nI_ge (b := 10) (by omega) (by omega)
    rw [f_X6_deal_c30, f_X7_deal_c17, if_neg (nI_ge (by omega) (by omega)), if_neg (nI_ge (by omega) (by omega)), gS_0, cN_0, h0, if_neg q]
    obtain ⟨hc', e1, e2, e3⟩ := C_drawDay hW.1 h0 (by omega)
    rw [e1, bn_s, M_deal1 h0 (by omega), nI_1]
    refine deal_l hs hn hc1 hc2 hc3 k (i + 1) f1 f2 _ _ (by omega) (by omega) (by omega) ?_ ?_ ⟨by rw [xpt_ne (by omega)]; exact hG.1, by rw [xpt_ne (by omega)]; exact hG.2.1, by rw [xpt_self, dealS, addF_ne (by omega) (by omega) (by omega), pk_un (by omega)]; exact hG.2.2⟩
    · refine hR.mkt (fun a q1 q2 q3 q4 q5 => e3 a q1) (fun a q1 q2 q3 q4 q5 q6 q7 q8 => xpt_ne q1) (by rw [xpt_self]; exact e2) (by rw [xpt_self]; exact hW.2.1.deal (by omega)) ?_ ?_
      · rw [xpt_self, dealS, addF_ne (by omega) (by omega) (by omega), pk_un (by omega)]
        exact hW.2.2.1
      · intro j hj
        rw [xpt_self, dealS, addF_ne (by omega) (by omega) (by omega), pk_un (by omega)]
    · rw [xpt_self, dealS]
      unfold addF
      rw [pk_un (by omega), pk_un (by omega), pk_un (by omega), pk_un (by omega), pk_un (by omega), pk_un (by omega), pk_us]
      rfl
theorem nI_sub {a b : Nat} (h : b ≤ a) : nI a - nI b = nI (a - b) := by
  have h3 : nI a = nI (a - b) + nI b := by rw [nI_add]; congr 1; omega
  rw [h3, Int32.add_sub_cancel]
theorem S_deal_ok {κ : Nat} (hκ : κ < 64) : S_deal (Rk κ) (Rk (κ + 1)) := by
  intro a1 hc hm hR
  refine Sm.k hκ hR ?_
  have hR := hR.1
  simp only [f_X6_deal, f_X7_deal, C_within, M_1_10, bn_s, b01, nm_x]
  refine Sm.ite (fun c1 => ?_) (fun _ => .ret hR)
  obtain ⟨n, hn, rfl⟩ := in_nI (n := 10) (M := 10) rfl ⟨Int32.le_trans (by decide) c1.1, c1.2⟩
  obtain ⟨⟨N, hN, h0⟩, -⟩ := hR.1.2.1
  have e : (if 10 - hc 24 10 < nI n then 10 - hc 24 10 else nI n) = nI (if 10 - N < n then 10 - N else n) := by
    rw [hR.1.1.days, h0, show (10 : Int32) = nI 10 from rfl, nI_sub hN]
    by_cases c : 10 - N < n
    · rw [if_pos (nI_lt c (by omega)), if_pos c]
    · rw [if_neg (nI_nlt (by omega) (by omega)), if_neg c]
  rw [e]
  have hcm : (if 10 - N < n then 10 - N else n) ≤ n ∧ N + (if 10 - N < n then 10 - N else n) ≤ 10 ∧ ((if 10 - N < n then 10 - N else n) = n ∨ N + (if 10 - N < n then 10 - N else n) = 10) := by
    by_cases c : 10 - N < n
    · rw [if_pos c]; omega
    · rw [if_neg c]; omega
  generalize (if 10 - N < n then 10 - N else n) = came at hcm
  exact deal_l rfl hn hcm.1 hcm.2.1 hcm.2.2 came 0 xN xN hc hm (by omega) (by unfold xN; omega) (by unfold xN; omega) hR h0 ⟨rfl, rfl, rfl⟩
/-! selling -/
def sellF (σ : Nat → Int32) (d p f : Nat) (c : Int32) : Nat → Int32 := upd (upd (upd (upd (upd (upd σ (6 + p) (σ (6 + p) - c)) (6 + f) (if σ (6 + f) + c ≤ 9999 then σ (6 + f) + c else 9999)) 4 (σ 4 + (if σ (6 + f) + c ≤ 9999 then 0 else σ (6 + f) + c - 9999))) (18 + 6 * d + 4) (nI p)) (18 + 6 * d + 5) (σ (18 + 6 * d + 5) ||| (1 <<< (nI p &&& 31)))) 3 (σ 3 + 1)
theorem C_sell {h : xH} {w d p f : Nat} {σ : Nat → Int32} {c : Int32} (hw : WR h w σ) (hd : d < 10) (hp : p < 6) (hf : f < 6) (ho : σ (18 + 6 * d + 4) = nI f) (hpf : p ≠ f) : ∃ h', f_X5_sell w (nI d) (nI p) c h = some (0, h') ∧ WR h' w (sellF σ d p f c) ∧ ∀ a, ¬ (w ≤ a ∧ a < w + 10) → h' a = h a := by
  have eo : h (w + 5) d = nI f := (hw.day (k := 4) hd (by omega) (a := w + 5) rfl).trans ho
  have em : (if 9999 < σ (6 + f) + c then 9999 else σ (6 + f) + c) = (if σ (6 + f) + c ≤ 9999 then σ (6 + f) + c else 9999) := by
    by_cases q : σ (6 + f) + c ≤ 9999
    · rw [if_neg (Int32.not_lt.mpr q), if_pos q]
    · rw [if_pos (Int32.not_le.mp q), if_neg q]
  have el : σ (6 + f) + c - (if σ (6 + f) + c ≤ 9999 then σ (6 + f) + c else 9999) = (if σ (6 + f) + c ≤ 9999 then 0 else σ (6 + f) + c - 9999) := by
    by_cases q : σ (6 + f) + c ≤ 9999
    · rw [if_pos q, if_pos q, Int32.sub_self]
    · rw [if_neg q, if_neg q]
  refine ⟨xst (xst (xst (xst (xst (xst h (w + 7) p (σ (6 + p) - c)) (w + 7) f (if σ (6 + f) + c ≤ 9999 then σ (6 + f) + c else 9999)) w 13 (σ 4 + (if σ (6 + f) + c ≤ 9999 then 0 else σ (6 + f) + c - 9999))) (w + 5) d (nI p)) (w + 6) d (σ (18 + 6 * d + 5) ||| (1 <<< (nI p &&& 31)))) w 12 (σ 3 + 1), ?_, ?_, ?_⟩
  · simp only [f_X5_sell, nm_x, eo, gd_n hd (show 10 < 2 ^ 31 by omega), gd_n hp (show 6 < 2 ^ 31 by omega), gd_n hf (show 6 < 2 ^ 31 by omega), nI_clamp (show d < 2 ^ 31 by omega), nI_clamp (show p < 2 ^ 31 by omega), nI_clamp (show f < 2 ^ 31 by omega), hw.coins hp, hw.coins hf, em]
    have r1 : ∀ (g : xH) v, xst g (w + 7) f v (w + 7) f = v := fun g v => by rw [xst_self, pk_us]
    have r2 : ∀ (g : xH) v u, xst (xst g (w + 7) p u) (w + 7) f v w 13 = g w 13 := fun g v u => by rw [xst_ne (by omega), xst_ne (by omega)]
    rw [r1, r2, hw.lost, el]
    have r3 : ∀ (g : xH) a b c e, xst (xst (xst (xst g (w + 7) p a) (w + 7) f b) w 13 c) (w + 5) d e (w + 6) d = g (w + 6) d := fun g a b c e => by rw [xst_ne (by omega), xst_ne (by omega), xst_ne (by omega), xst_ne (by omega)]
    rw [r3, hw.day (k := 5) hd (by omega) (a := w + 6) rfl]
    have r4 : ∀ (g : xH) a b c e i, xst (xst (xst (xst (xst g (w + 7) p a) (w + 7) f b) w 13 c) (w + 5) d e) (w + 6) d i w 12 = g w 12 := fun g a b c e i => by
      rw [xst_ne (by omega), xst_ne (by omega), xst_self, pk_un (by omega), xst_ne (by omega), xst_ne (by omega)]
    rw [r4, hw.sales]
  · exact (((((hw.putC hp).putC hf).put (j := 4) (a := w) (b := 13) (by omega) (by omega) rfl rfl).putD (k := 4) hd (by omega) rfl).putD (k := 5) hd (by omega) rfl).put (j := 3) (a := w) (b := 12) (by omega) (by omega) rfl rfl
  · intro a ha
    rw [xst_ne (by omega), xst_ne (by omega), xst_ne (by omega), xst_ne (by omega), xst_ne (by omega), xst_ne (by omega)]
theorem M_sells {h : xH} {d p f : Nat} {c : Int32} (hd : d < 10) (hp : p < 6) (hf : f < 6) (ho : h 1 (18 + 6 * d + 4) = nI f) (hpf : p ≠ f) : f_X7_sells (nI d) (nI p) c h = some (0, xpt h 1 (sellF (h 1) d p f c)) := by
  simp only [f_X7_sells, nm_x]
  rw [M_of (j := 4) (k := 4) rfl hd (by omega), bn_s, ho, ixc, ixc, gd_n (by omega) (by omega), gd_n (by omega) (by omega), gd_n (by omega) (by omega), nI_clamp (by omega), nI_clamp (by omega)]
  rw [show xst h 1 (6 + p) (h 1 (6 + p) - c) = xpt h 1 (upd (h 1) (6 + p) (h 1 (6 + p) - c)) from rfl, xpt_self, pk_un (by omega)]
  unfold sellF
  by_cases q : h 1 (6 + f) + c ≤ 9999
  · simp only [if_pos q, f_X7_sells_c60, f_X7_sells_c86, nm_x, gd_n (show 6 + f < 3078 by omega) (show 3078 < 2 ^ 31 by omega), nI_clamp (show 6 + f < 2 ^ 31 by omega), gS_4, cN_4, xst, xpt_self, xpt_xpt, M_sets (j := 4) (k := 4) rfl hd (show 4 < 6 by omega), M_sets (j := 5) (k := 5) rfl hd (show 5 < 6 by omega), M_of (j := 5) (k := 5) rfl hd (show 5 < 6 by omega), bn_s, gS_3, cN_3]
    simp (disch := omega) only [pk_un, pk_us]
  · simp only [if_neg q, f_X7_sells_c60, f_X7_sells_c86, nm_x, gd_n (show 6 + f < 3078 by omega) (show 3078 < 2 ^ 31 by omega), nI_clamp (show 6 + f < 2 ^ 31 by omega), gS_4, cN_4, xst, xpt_self, xpt_xpt, M_sets (j := 4) (k := 4) rfl hd (show 4 < 6 by omega), M_sets (j := 5) (k := 5) rfl hd (show 5 < 6 by omega), M_of (j := 5) (k := 5) rfl hd (show 5 < 6 by omega), bn_s, gS_3, cN_3]
    simp (disch := omega) only [pk_un, pk_us]
