/-! sets of days -/
def dB (σ : Nat → Int32) (p : Int32) : Nat → Nat
  | 0 => 0
  | d + 1 => if σ (18 + 6 * d + 4) = p then dB σ p d + 2 ^ d else dB σ p d
theorem dB_lt {σ : Nat → Int32} {p : Int32} : ∀ d, dB σ p d < 2 ^ d
  | 0 => by rw [dB]; decide
  | d + 1 => by
    have := dB_lt (σ := σ) (p := p) d
    rw [dB, Nat.pow_succ]
    split <;> omega
theorem or_bit : ∀ d, d < 10 → ∀ m, m < 2 ^ d → nI m ||| (1 <<< (nI d &&& 31)) = nI (m + 2 ^ d) := by decide +kernel
theorem dOf_nI {σ : Nat → Int32} {p : Int32} : ∀ d, d ≤ 10 → dOf σ p d = nI (dB σ p d)
  | 0, _ => rfl
  | d + 1, hd => by
    rw [dOf, dB, dOf_nI d (by omega), or_bit d (by omega) _ (dB_lt d)]
    split <;> rfl
theorem dB_10 {σ : Nat → Int32} {p : Int32} {N : Nat} (hN : N ≤ 10) : dB σ p N < 1024 :=
  Nat.lt_of_lt_of_le (dB_lt N) (Nat.pow_le_pow_right (by omega) hN)
theorem sh_bit : ∀ m, m < 1024 → ∀ i, i < 10 → (nI m >>> (nI i &&& 31)) &&& 1 = nI (m / 2 ^ i % 2) := by decide +kernel
theorem dB_bit {σ : Nat → Int32} {p : Int32} {i : Nat} : ∀ d, i < d → (dB σ p d / 2 ^ i % 2 = 1 ↔ σ (18 + 6 * i + 4) = p)
  | 0, h => absurd h (Nat.not_lt_zero _)
  | d + 1, h => by
    have hp : 0 < 2 ^ i := Nat.two_pow_pos i
    rw [dB]
    by_cases c : i = d
    · subst c
      have hl := dB_lt (σ := σ) (p := p) i
      by_cases q : σ (18 + 6 * i + 4) = p
      · rw [if_pos q, Nat.add_div_right _ hp, Nat.div_eq_of_lt hl]
        exact ⟨fun _ => q, fun _ => rfl⟩
      · rw [if_neg q, Nat.div_eq_of_lt hl]
        exact ⟨fun q => absurd q (by decide), fun h => absurd h q⟩
    · have ih := dB_bit (σ := σ) (p := p) d (show i < d by omega)
      by_cases q : σ (18 + 6 * d + 4) = p
      · rw [if_pos q, show 2 ^ d = 2 ^ i * (2 * 2 ^ (d - i - 1)) by rw [← Nat.pow_succ', ← Nat.pow_add]; congr 1; omega, Nat.add_mul_div_left _ _ hp, Nat.add_mul_mod_self_left]
        exact ih
      · rw [if_neg q]; exact ih
theorem day_bit {σ : Nat → Int32} {p : Int32} {N i : Nat} (hN : N ≤ 10) (hi : i < N) : ((dOf σ p N >>> (nI i &&& 31)) &&& 1) = 1 ↔ σ (18 + 6 * i + 4) = p := by
  rw [dOf_nI N hN, sh_bit _ (dB_10 hN) i (by omega), ← dB_bit (σ := σ) (p := p) N hi]
  have : dB σ p N / 2 ^ i % 2 < 2 := Nat.mod_lt _ (by omega)
  exact nI_eq (b := 1) (by omega) (by omega)
/-! emptied -/
theorem emp_l {hc hm : xH} (hR : Rl hc hm) {N p : Nat} (h0 : hm 1 0 = nI N) (hN : N ≤ 10) (hp : p < 6) : ∀ m i f1 f2 (g h : xH) (τ : Nat → Int32), i + m = N → m < f1 → m < f2 → CW g 44 τ → h 1 = τ → cS hc g → BK hm h → τ 0 = nI N → Sm hm (f_X6_emptied_c23 (nI p) f1 (nI i) g) (f_X7_emptied_c22 (nI p) f2 (dOf (hm 1) (nI p) N) (nI i) h)
  | m, i, 0, f2, g, h, _, _, h2, _, _, _, _, _, _ => absurd h2 (Nat.not_lt_zero _)
  | m, i, f1 + 1, 0, g, h, _, _, _, h2, _, _, _, _, _ => absurd h2 (Nat.not_lt_zero _)
  | 0, i, f1 + 1, f2 + 1, g, h, τ, h1, _, _, hw, hs, cs, bk, ht => by
    have g24 : g 24 10 = nI N := by rw [cs 24 (by omega) (by omega) (by omega) (by omega), hR.1.1.days, h0]
    have g31 : g 31 p = hm 1 (6 + p) := by rw [cs 31 (by omega) (by omega) (by omega) (by omega)]; exact hR.1.1.coins hp
    obtain ⟨h3, b1, b2, -⟩ := M_back bk
    rw [f_X6_emptied_c23, f_X7_emptied_c22, g24, gS_0, cN_0, hs, ht, if_pos (nI_le (by omega) (by omega)), if_pos (nI_le (by omega) (by omega)), gd_n hp (by omega), gd_n hp (by omega), nI_clamp (by omega), ixc, gd_n (by omega) (by omega), gd_n (by omega) (by omega), nI_clamp (by omega), nm_x, b1, bn_s, g31, hw.1.coins (w := 44) hp, bk.1, cpk_lt (by omega)]
    exact .fin hR cs b2
  | m + 1, i, f1 + 1, f2 + 1, g, h, τ, h1, h2, h3, hw, hs, cs, bk, ht => by
    have g24 : g 24 10 = nI N := by rw [cs 24 (by omega) (by omega) (by omega) (by omega), hR.1.1.days, h0]
    have g29 : g 29 i = hm 1 (18 + 6 * i + 4) := by rw [cs 29 (by omega) (by omega) (by omega) (by omega)]; exact hR.1.1.day (k := 4) (by omega) (by omega) (a := 29) rfl
    rw [f_X6_emptied_c23, f_X7_emptied_c22, g24, gS_0, cN_0, hs, ht, if_neg (nI_ge (by omega) (by omega)), if_neg (nI_ge (by omega) (by omega)), gd_n (by omega) (by omega), nI_clamp (by omega), g29]
    unfold f_X6_emptied_c88 f_X7_emptied_c62
    rw [nI_1]
    by_cases c : hm 1 (18 + 6 * i + 4) = nI p
    · rw [if_pos c, if_pos ((day_bit hN (by omega)).mpr c)]
      subst hs
      obtain ⟨o, ho1, ho2⟩ := hw.2.2.own (d := i) (by omega)
      obtain ⟨q, hq, hqo, hq2⟩ := bst6 ho2 ho1
      obtain ⟨g1, e1, e2⟩ := C_valueOf (d := i) hw.1 hw.2.1 hw.2.2 (by omega) (by omega)
      have gc : CW g1 44 (h 1) := hw.keep (by omega) e2
      have hr := ofF_rg (d := i) hw.2.2 hq
      obtain ⟨g2, s1, s2, s3⟩ := C_sell (c := ofF (h 1) q i) gc.1 (d := i) (by omega) hq ho1 ho2 hqo
      have gc' : CW g2 44 (sellF (h 1) i q o (ofF (h 1) q i)) := gc.to (by omega) s2 (hw.2.2.sell hq ho1 hr.1 (hr.2 (by rw [ho2]; exact fun z => hqo ((nI_eq (by omega) (by omega)).mp z).symm))) (fun a h1 _ => s3 a h1) (fun j hj => sellF_ne hq ho1 (by omega) (by omega))
      obtain ⟨h4, m1, m2⟩ := M_bidder (hc := g) (h := h) (d := i) hw.2.1 hw.2.2 (by omega)
      have h41 : h4 1 = h 1 := m2 1 (by omega) (by omega)
      obtain ⟨h5, m3, m4⟩ := M_offerOf (hc := g) (h := h4) (p := q) (d := i) (by rw [h41]; exact hw.2.1) hq (by omega)
      have h51 : h5 1 = h 1 := (m4 1 (by omega) (by omega)).trans h41
      rw [e1, bn_s, C_bestBidder gc.1 gc.2.2 (by omega), bn_s, hq2, C_bidOf gc.1 gc.2.2 hq (by omega), bn_s, s1, bn_s, m1, bn_s, hq2, m3, bn_s, h41, M_sells (by omega) hq ho1 (by rw [h51]; exact ho2) hqo, bn_s, h51]
      refine emp_l hR h0 hN hp m (i + 1) f1 f2 g2 _ _ (by omega) (by omega) (by omega) gc' xpt_self ((cs.tr (.of e2)).tr (fun a _ _ a3 _ => s3 a a3)) (((bk.scr m2).scr m4).mf (fun z z1 _ _ => xpt_ne z1) (fun j hj => ?_)) ?_
      · rw [xpt_self, sellF_ne hq ho1 (by omega) (by omega), h51]
      · rw [sellF_ne hq ho1 (by omega) (by omega)]; exact ht
    · rw [if_neg c, if_neg (fun z => c ((day_bit hN (by omega)).mp z))]
      exact emp_l hR h0 hN hp m (i + 1) f1 f2 g h τ (by omega) (by omega) (by omega) hw hs cs bk ht
theorem S_emptied_ok {κ : Nat} (hκ : κ < 64) : S_emptied (Rk κ) (Rk (κ + 1)) := by
  intro a1 hc hm hR
  refine Sm.k hκ hR ?_
  have hR := hR.1
  simp only [f_X6_emptied, f_X7_emptied, C_isOne, M_isOne, bn_s, b01]
  refine Sm.ite (fun c1 => ?_) (fun _ => .ret hR)
  obtain ⟨p, hp, rfl⟩ := in_nI (n := 5) (M := 5) rfl c1
  obtain ⟨⟨N, hN, h0⟩, -⟩ := hR.1.2.1
  obtain ⟨g, e1, e2, e3⟩ := thk0 hR
  rw [e1, bn_s, M_laysBy, bn_s, M_daysOf (N := N) (by rw [xpt_ne (by omega)]; exact h0) hN, bn_s, xpt_ne (by omega)]
  exact emp_l hR h0 hN (by omega) N 0 xN xN g _ _ (by omega) (by unfold xN; omega) (by unfold xN; omega) e2 (xpt_ne (by omega)) e3 BK.st h0
/-! how many in a set -/
def mc : Nat → Int32 → Int32 → Option Int32
  | 0, _, _ => none
  | n + 1, a, b => if b = 0 then some a else mc n (a + 1) (b &&& (b - 1))
theorem mc_up : ∀ {n k : Nat} {a b r : Int32}, mc n a b = some r → mc (n + k) a b = some r
  | 0, k, a, b, r, h => by cases h
  | n + 1, k, a, b, r, h => by
    rw [show n + 1 + k = (n + k) + 1 by omega, mc]
    rw [mc] at h
    by_cases c : b = 0
    · rw [if_pos c] at h ⊢; exact h
    · rw [if_neg c] at h ⊢; exact mc_up h
theorem M_mc {a0 : Int32} {h : xH} : ∀ {n : Nat} {a b r : Int32}, mc n a b = some r → f_X7_manyIn_c4 a0 n a b h = some (r, h)
  | 0, a, b, r, e => by cases e
  | n + 1, a, b, r, e => by
    rw [f_X7_manyIn_c4]
    rw [mc] at e
    by_cases c : b = 0
    · rw [if_pos c] at e ⊢; cases e; rfl
    · rw [if_neg c] at e ⊢; exact M_mc e
def bcp (a0 : Int32) : Int32 :=
  let x1 := a0 - ((((a0 : Int32).toUInt32 >>> ((1 : Int32).toUInt32 &&& Int32.toUInt32 31)).toInt32) &&& 1431655765)
  let x2 := (x1 &&& 858993459) + ((((x1 : Int32).toUInt32 >>> ((2 : Int32).toUInt32 &&& Int32.toUInt32 31)).toInt32) &&& 858993459)
  let x3 := (x2 + (((x2 : Int32).toUInt32 >>> ((4 : Int32).toUInt32 &&& Int32.toUInt32 31)).toInt32)) &&& 252645135
  let x4 := x3 + (((x3 : Int32).toUInt32 >>> ((8 : Int32).toUInt32 &&& Int32.toUInt32 31)).toInt32)
  let x5 := x4 + (((x4 : Int32).toUInt32 >>> ((16 : Int32).toUInt32 &&& Int32.toUInt32 31)).toInt32)
  x5 &&& 63
theorem J_bc (a : Int32) (h : xH) : f_J6_bitCount a h = some (bcp a, h) := rfl
theorem mc_bc : ∀ m, m < 1024 → mc 11 0 (nI m) = some (bcp (nI m)) := by decide +kernel
theorem M_many {m : Nat} (hm : m < 1024) (h : xH) : f_X7_manyIn (nI m) h = some (bcp (nI m), h) := by
  unfold f_X7_manyIn
  have := mc_up (k := xN - 11) (mc_bc m hm)
  rw [show 11 + (xN - 11) = xN by unfold xN; omega] at this
  exact M_mc this
theorem g23 {ρ : Type} {k : Option ρ} : gd 2 3 k = k := if_neg (by decide)
theorem S_fine_ok {κ : Nat} (hκ : κ < 64) : S_fine (Rk κ) (Rk (κ + 1)) := by
  intro a1 hc hm hR
  refine Sm.k hκ hR ?_
  have hR := hR.1
  simp only [f_X6_fine, f_X7_fine, C_isOne, M_isOne, bn_s, b01, nm_x]
  refine Sm.ite (fun c1 => ?_) (fun _ => .ret hR)
  obtain ⟨p, hp, rfl⟩ := in_nI (n := 5) (M := 5) rfl c1
  obtain ⟨⟨N, hN, h0⟩, -⟩ := hR.1.2.1
  have hl := hR.1.2.2.2
  have h33 : hc 33 2 = cnt (hm 1) 2 := hR.1.1.2 2 (by omega)
  rw [g23, show Int32.toNatClampNeg 2 = 2 from rfl, h33, M_counts hl, bn_s, gd_n (by omega) (by omega), gd_n (by omega) (by omega), nI_clamp (by omega), ixc, gd_n (by omega) (by omega), gd_n (by omega) (by omega), nI_clamp (by omega), hR.1.1.coins (w := 24) (by omega)]
  rcases cnt_in hl 2 with q | ⟨t, q1, q2, q3, q4⟩
  · rw [q, if_neg (show ¬ (0 : Int32) ≤ -1 by decide), if_neg (show ¬ (0 : Int32) ≤ -1 by decide)]
    exact .ret hR
  · rw [q2, if_pos (nI_pos' (by omega)), if_pos (nI_pos' (by omega)), C_daysOf hR.1.1 h0 hN, bn_s, J_bc, bn_s, dOf_nI N hN, g128 (by simp), M_daysOf (N := N) (by rw [xst_ne (by omega)]; exact h0) hN, bn_s, xst_ne (by omega), dOf_nI N hN, M_many (dB_10 hN), bn_s, g128 (by simp)]
    rw [show Int32.toNatClampNeg 99 = 99 from rfl, show Int32.toNatClampNeg 110 = 110 from rfl]
    obtain ⟨hc', e1, e2⟩ := C_workOut q4 q1 (hm 1 (6 + p)) (bcp (nI (dB (hm 1) (nI p) N))) 0
    rw [e1, bn_s]
    generalize hg : xst (xst hm 15 99 (hm 1 (6 + p))) 15 110 (bcp (nI (dB (hm 1) (nI p) N))) = g
    have g1 : g 1 = hm 1 := by rw [← hg, xst_ne (by omega), xst_ne (by omega)]
    have g15 : g 15 = upd (upd (hm 15) 99 (hm 1 (6 + p))) 110 (bcp (nI (dB (hm 1) (nI p) N))) := by rw [← hg, xst_self, xst_self]
    obtain ⟨h', e3, e4⟩ := M_worked (hc := hc) (h := g) (by rw [g1]; exact q4) q1 (hm 1 (6 + p)) (bcp (nI (dB (hm 1) (nI p) N))) 0 (by
      intro ch e he
      rw [g1, q3] at he
      rw [g15]
      unfold nmk at he
      rw [if_neg (by decide), if_neg (by decide)] at he
      repeat' split at he
      all_goals first
        | (cases he; done)
        | (cases he; subst_vars; rfl))
    rw [e3, bn_s, g1]
    refine .fin hR (.of e2) (.of (fun q hq1 hq2 => (e4 q hq2).trans ?_))
    rw [← hg, xst_ne hq1, xst_ne hq1]
