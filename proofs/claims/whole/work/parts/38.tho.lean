/-! copies: a World becomes another, rows are laid by and back -/
theorem gc_ok {ρ : Type} {n0 n1 : Nat} {n : Int32} {k : Option ρ} (h : n.toNatClampNeg ≤ n0 ∧ n.toNatClampNeg ≤ n1 ∧ ¬ n < 0) : gc 0 0 n n0 n1 k = k := by
  unfold gc
  rw [if_neg]
  rintro (q | q | q | q | q)
  · exact absurd q (by decide)
  · exact absurd q (by decide)
  · exact h.2.2 q
  · rw [cN_0] at q; omega
  · rw [cN_0] at q; omega
theorem cpy0 {f g : Nat → Int32} {n k : Nat} (h : k < n) : va_cpy f g 0 0 n k = f k := by
  unfold va_cpy
  rw [if_pos (by omega)]
  congr 1
  omega
theorem lj_rng : ∀ j, j < 78 → (lpj j = 0 ∧ 10 ≤ lsj j ∧ lsj j < 16) ∨ (1 ≤ lpj j ∧ lpj j ≤ 6 ∧ lsj j < 10) ∨ (7 ≤ lpj j ∧ lpj j ≤ 8 ∧ lsj j < 6) := by decide +kernel
theorem cN_10 : Int32.toNatClampNeg 10 = 10 := rfl
theorem cN_6 : Int32.toNatClampNeg 6 = 6 := rfl
def bln (i : Nat) : Nat := if i ≤ 6 then 10 else if i ≤ 8 then 6 else 3
def bI (h h' : xH) (w a k m : Nat) : Prop := (∀ q, ¬ (w ≤ q ∧ q < w + 10) → h' q = h q) ∧ (∀ i s, 1 ≤ i → i ≤ k → s < bln i → h' (w + i) s = h (a + i) s) ∧ (∀ s, 10 ≤ s → s < 10 + m → h' w s = h a s)
theorem bI.row {h g : xH} {w a n l : Nat} {m : Int32} {k : xH → Option (Int32 × xH)} {Q : xH → Prop} (hd : a + 10 ≤ w ∨ w + 10 ≤ a) (hn : n < 9) (hm : m.toNatClampNeg = bln (n + 1) ∧ bln (n + 1) ≤ l ∧ ¬ m < 0) (h0 : bI h g w a n 0) (hs : ∀ h1, bI h h1 w a (n + 1) 0 → ∃ h', k h1 = some (0, h') ∧ Q h') : ∃ h', gc 0 0 m l l (nm (xpt g (w + (n + 1)) (va_cpy (g (a + (n + 1))) (g (w + (n + 1))) (Int32.toNatClampNeg 0) (Int32.toNatClampNeg 0) m.toNatClampNeg)) k) = some (0, h') ∧ Q h' := by
  rw [gc_ok ⟨by rw [hm.1]; exact hm.2.1, by rw [hm.1]; exact hm.2.1, hm.2.2⟩, nm_x, hm.1, cN_0]
  obtain ⟨i1, i2, i3⟩ := h0
  refine hs _ ⟨fun q hq => ?_, fun i s h1 h2 h3 => ?_, fun s s1 s2 => absurd s2 (by omega)⟩
  · rw [xpt_ne (by omega), i1 q hq]
  · by_cases c : i = n + 1
    · subst c
      rw [xpt_self, cpy0 h3, i1 _ (by omega)]
    · rw [xpt_ne (by omega), i2 i s h1 (by omega) h3]
theorem bI.fld {h g : xH} {w a m : Nat} {k : xH → Option (Int32 × xH)} {Q : xH → Prop} (hd : a + 10 ≤ w ∨ w + 10 ≤ a) (h0 : bI h g w a 9 m) (hs : ∀ h1, bI h h1 w a 9 (m + 1) → ∃ h', k h1 = some (0, h') ∧ Q h') : ∃ h', nm (xst g w (10 + m) (g a (10 + m))) k = some (0, h') ∧ Q h' := by
  rw [nm_x]
  obtain ⟨i1, i2, i3⟩ := h0
  refine hs _ ⟨fun q hq => ?_, fun i s h1 h2 h3 => ?_, fun s s1 s2 => ?_⟩
  · rw [xst_ne (by omega), i1 q hq]
  · rw [xst_ne (by omega), i2 i s h1 (by omega) h3]
  · rw [xst_self]
    by_cases c : s = 10 + m
    · subst c
      rw [pk_us, i1 a (by omega)]
    · rw [pk_un c, i3 s s1 (by omega)]
theorem C_become {h : xH} {w a : Nat} {σ : Nat → Int32} (hw : WR h a σ) (hd : a + 10 ≤ w ∨ w + 10 ≤ a) : ∃ h', f_X5_become w a h = some (0, h') ∧ WR h' w σ ∧ ∀ q, ¬ (w ≤ q ∧ q < w + 10) → h' q = h q := by
  unfold f_X5_become
  refine bI.row (n := 0) hd (by omega) (by decide) (⟨fun _ _ => rfl, fun _ _ h1 h2 _ => absurd h2 (by omega), fun _ h1 h2 => absurd h2 (by omega)⟩ : bI h h w a 0 0) (fun h1 i1 => ?_)
  refine bI.row (n := 1) hd (by omega) (by decide) i1 (fun h2 i2 => ?_)
  refine bI.row (n := 2) hd (by omega) (by decide) i2 (fun h3 i3 => ?_)
  refine bI.row (n := 3) hd (by omega) (by decide) i3 (fun h4 i4 => ?_)
  refine bI.row (n := 4) hd (by omega) (by decide) i4 (fun h5 i5 => ?_)
  refine bI.row (n := 5) hd (by omega) (by decide) i5 (fun h6 i6 => ?_)
  refine bI.row (n := 6) hd (by omega) (by decide) i6 (fun h7 i7 => ?_)
  refine bI.row (n := 7) hd (by omega) (by decide) i7 (fun h8 i8 => ?_)
  refine bI.row (n := 8) hd (by omega) (by decide) i8 (fun h9 i9 => ?_)
  refine bI.fld (m := 0) hd i9 (fun h10 i10 => ?_)
  refine bI.fld (m := 1) hd i10 (fun h11 i11 => ?_)
  refine bI.fld (m := 2) hd i11 (fun h12 i12 => ?_)
  refine bI.fld (m := 3) hd i12 (fun h13 i13 => ?_)
  refine bI.fld (m := 4) hd i13 (fun h14 i14 => ?_)
  refine bI.fld (m := 5) hd i14 (fun h15 i15 => ?_)
  obtain ⟨i1, i2, i3⟩ := i15
  refine ⟨h15, rfl, ⟨fun j hj => ?_, fun k hk => ?_⟩, i1⟩
  · rw [← hw.1 j hj]
    rcases lj_rng j hj with ⟨q1, q2, q3⟩ | ⟨q1, q2, q3⟩ | ⟨q1, q2, q3⟩
    · rw [q1]
      exact i3 _ q2 (by omega)
    · exact i2 _ _ q1 (by omega) (by unfold bln; rw [if_pos q2]; exact q3)
    · exact i2 _ _ (by omega) (by omega) (by unfold bln; rw [if_neg (by omega), if_pos q2]; exact q3)
  · rw [← hw.2 k hk]
    exact i2 9 _ (by omega) (by omega) hk
def cpk (f g : Nat → Int32) (k : Nat) : Nat → Int32 := fun j => if j < k then f j else g j
theorem cpk_0 {f g : Nat → Int32} : cpk f g 0 = g := by
  funext j
  unfold cpk
  rw [if_neg (by omega)]
theorem cpk_s {f g : Nat → Int32} {k : Nat} : upd (cpk f g k) k (f k) = cpk f g (k + 1) := by
  funext j
  unfold upd cpk
  by_cases c : j = k
  · subst c; rw [if_pos rfl, if_pos (by omega)]
  · rw [if_neg c]
    by_cases c2 : j < k
    · rw [if_pos c2, if_pos (by omega)]
    · rw [if_neg c2, if_neg (by omega)]
theorem cpk_lt {f g : Nat → Int32} {k j : Nat} (h : j < k) : cpk f g k j = f j := if_pos h
theorem cpk_ge {f g : Nat → Int32} {k j : Nat} (h : k ≤ j) : cpk f g k j = g j := if_neg (by omega)
theorem M_laysBy_l {h : xH} : ∀ m k f, k + m = 78 → m < f → f_X7_laysBy_c2 f (nI k) (xpt h 13 (cpk (h 1) (h 13) k)) = some (0, xpt h 13 (cpk (h 1) (h 13) 78))
  | m, k, 0, _, h2 => absurd h2 (Nat.not_lt_zero _)
  | 0, k, f + 1, h1, _ => by rw [f_X7_laysBy_c2, if_pos (show (78 : Int32) ≤ nI k from nI_le (a := 78) (by omega) (by omega)), show k = 78 by omega]
  | m + 1, k, f + 1, h1, h2 => by
    rw [f_X7_laysBy_c2, if_neg (show ¬ (78 : Int32) ≤ nI k from nI_ge (b := 78) (by omega) (by omega)), gd_n (by omega) (by omega), gd_n (by omega) (by omega), nm_x, nI_clamp (by omega), nI_1, xst, xpt_self, xpt_xpt, xpt_ne (by omega), cpk_s]
    exact M_laysBy_l m (k + 1) f (by omega) (by omega)
theorem M_laysBy {h : xH} : f_X7_laysBy h = some (0, xpt h 13 (cpk (h 1) (h 13) 78)) := by
  have := M_laysBy_l (h := h) 78 0 xN (by omega) (by unfold xN; omega)
  rw [cpk_0, xpt_id] at this
  exact this
theorem M_laysBack_l {h : xH} : ∀ m k f, k + m = 78 → m < f → f_X7_laysBack_c2 f (nI k) (xpt h 1 (cpk (h 13) (h 1) k)) = some (0, xpt h 1 (cpk (h 13) (h 1) 78))
  | m, k, 0, _, h2 => absurd h2 (Nat.not_lt_zero _)
  | 0, k, f + 1, h1, _ => by rw [f_X7_laysBack_c2, if_pos (show (78 : Int32) ≤ nI k from nI_le (a := 78) (by omega) (by omega)), show k = 78 by omega]
  | m + 1, k, f + 1, h1, h2 => by
    rw [f_X7_laysBack_c2, if_neg (show ¬ (78 : Int32) ≤ nI k from nI_ge (b := 78) (by omega) (by omega)), gd_n (by omega) (by omega), gd_n (by omega) (by omega), nm_x, nI_clamp (by omega), nI_1, xst, xpt_self, xpt_xpt, xpt_ne (by omega), cpk_s]
    exact M_laysBack_l m (k + 1) f (by omega) (by omega)
theorem M_laysBack {h : xH} : f_X7_laysBack h = some (0, xpt h 1 (cpk (h 13) (h 1) 78)) := by
  have := M_laysBack_l (h := h) 78 0 xN (by omega) (by unfold xN; omega)
  rw [cpk_0, xpt_id] at this
  exact this
theorem M_setAside_l {h : xH} {a b : Nat} (hab : a ≠ b) : ∀ m k f, k + m = 2878 → m < f → f_X7_setAside_c2 a 3078 b 3078 f (nI k) (xpt h b (cpk (h a) (h b) k)) = some (0, xpt h b (cpk (h a) (h b) 2878))
  | m, k, 0, _, h2 => absurd h2 (Nat.not_lt_zero _)
  | 0, k, f + 1, h1, _ => by rw [f_X7_setAside_c2, if_pos (show (2878 : Int32) ≤ nI k from nI_le (a := 2878) (by omega) (by omega)), show k = 2878 by omega]
  | m + 1, k, f + 1, h1, h2 => by
    rw [f_X7_setAside_c2, if_neg (show ¬ (2878 : Int32) ≤ nI k from nI_ge (b := 2878) (by omega) (by omega)), gd_n (by omega) (by omega), gd_n (by omega) (by omega), nm_x, nI_clamp (by omega), nI_1, xst, xpt_self, xpt_xpt, xpt_ne hab, cpk_s]
    exact M_setAside_l hab m (k + 1) f (by omega) (by omega)
theorem M_setAside {h : xH} {a b : Nat} (hab : a ≠ b) : f_X7_setAside a 3078 b 3078 h = some (0, xpt h b (cpk (h a) (h b) 2878)) := by
  have := M_setAside_l (h := h) hab 2878 0 xN (by omega) (by unfold xN; omega)
  rw [cpk_0, xpt_id] at this
  exact this
/-- what was only thought is laid back -/
theorem laid {h h1 : xH} (hk : h1 13 = cpk (h 1) (h 13) 78) (hs : ∀ j, 78 ≤ j → h1 1 j = h 1 j) (hF : ∀ q, q ≠ 1 → q ≠ 13 → q ≠ 15 → q ≠ 16 → h1 q = h q) : mS h (xpt h1 1 (cpk (h1 13) (h1 1) 78)) := by
  intro a _ _ a3 a4 a5 _ _
  by_cases c : a = 1
  · subst c
    rw [xpt_self]
    funext j
    by_cases cj : j < 78
    · rw [cpk_lt cj, hk, cpk_lt cj]
    · rw [cpk_ge (by omega), hs j (by omega)]
  · rw [xpt_ne c]; exact hF a c a3 a4 a5
theorem M_goesOnMany_l {hc : xH} {n : Nat} {σ : Nat → Int32} (hl : LW hc σ) (hb : Bnd σ) (hn : n < 2 ^ 31) : ∀ m i f (h : xH), i + m = n → m < f → h 1 = gOnN σ i → ∃ h', f_X7_goesOnMany_c2 (nI n) f (nI i) h = some (0, h') ∧ h' 1 = gOnN σ n ∧ mF h h'
  | m, i, 0, h, _, h2, _ => absurd h2 (Nat.not_lt_zero _)
  | 0, i, f + 1, h, h1, _, hs => by
    have hd : i = n := by omega
    subst hd
    exact ⟨h, by rw [f_X7_goesOnMany_c2, if_pos (nI_le (by omega) (by omega))], hs, mF.rf⟩
  | m + 1, i, f + 1, h, h1, h2, hs => by
    rw [f_X7_goesOnMany_c2, if_neg (nI_ge (by omega) (by omega))]
    obtain ⟨g, e1, e2, e3⟩ := M_goesOn (hc := hc) (h := h) ⟨by rw [hs]; exact hl.s (fun j hj => gOnN_ne hb (by omega) i), by rw [hs]; exact gOnN_b hb i⟩
    rw [e1, bn_s, nI_1]
    obtain ⟨h', i1, i2, i3⟩ := M_goesOnMany_l hl hb hn m (i + 1) f g (by omega) (by omega) (by rw [e2, hs]; rfl)
    exact ⟨h', i1, i2, e3.tr i3⟩
theorem M_goesOnMany {hc h : xH} {n : Nat} (hm : MW hc h) (hn : n < 4096) : ∃ h', f_X7_goesOnMany (nI n) h = some (0, h') ∧ h' 1 = gOnN (h 1) n ∧ mF h h' :=
  M_goesOnMany_l hm.1 hm.2 (by omega) n 0 xN h (by omega) (by unfold xN; omega) rfl
/-- the class's thought, begun as the market stands -/
theorem C_think {hc hm : xH} (hR : Rl hc hm) : ∃ hc', f_X5_become 44 24 hc = some (0, hc') ∧ CW hc' 44 (hm 1) ∧ CW hc' 24 (hm 1) ∧ ∀ q, ¬ (44 ≤ q ∧ q < 54) → hc' q = hc q := by
  obtain ⟨hc', e1, e2, e3⟩ := C_become (w := 44) hR.1.1 (Or.inl (by omega))
  have hl : LW hc' (hm 1) := hR.1.2.2.2.cg (fun a _ h2 => e3 a (by omega)) (fun _ _ => rfl)
  exact ⟨hc', e1, ⟨e2, hl, hR.1.2.1⟩, ⟨hR.1.1.keep (fun a _ h2 => e3 a (by omega)), hl, hR.1.2.1⟩, e3⟩
theorem cS.th {h h1 h2 : xH} (e1 : ∀ q, ¬ (44 ≤ q ∧ q < 54) → h1 q = h q) (e2 : cF 44 h1 h2) : cS h h2 := fun q q1 q2 q3 q4 => by rw [e2 q (by omega) q1, e1 q q3]
/-! sums -/
def sC (σ : Nat → Int32) : Nat → Int32
  | 0 => 0
  | p + 1 => sC σ p + σ (6 + p)
theorem C_allCoins_l {h : xH} {w : Nat} {σ : Nat → Int32} (hw : WR h w σ) : ∀ m p f, p + m = 6 → m < f → f_X5_allCoins_c4 w f (sC σ p) (nI p) h = some (sC σ 6, h)
  | m, p, 0, _, h2 => absurd h2 (Nat.not_lt_zero _)
  | 0, p, f + 1, h1, _ => by rw [f_X5_allCoins_c4, if_pos (show (6 : Int32) ≤ nI p from nI_le (a := 6) (by omega) (by omega)), show p = 6 by omega]
  | m + 1, p, f + 1, h1, h2 => by
    rw [f_X5_allCoins_c4, if_neg (show ¬ (6 : Int32) ≤ nI p from nI_ge (b := 6) (by omega) (by omega)), gd_n (by omega) (by omega), nm_x, nI_clamp (by omega), nI_1, hw.coins (by omega)]
    exact C_allCoins_l hw m (p + 1) f (by omega) (by omega)
theorem C_allCoins {h : xH} {w : Nat} {σ : Nat → Int32} (hw : WR h w σ) : f_X5_allCoins w h = some (sC σ 6, h) := C_allCoins_l hw 6 0 xN (by omega) (by unfold xN; omega)
theorem M_allCoins_l {h : xH} : ∀ m p f, p + m = 6 → m < f → f_X7_allCoins_c4 f (sC (h 1) p) (nI p) h = some (sC (h 1) 6, h)
  | m, p, 0, _, h2 => absurd h2 (Nat.not_lt_zero _)
  | 0, p, f + 1, h1, _ => by rw [f_X7_allCoins_c4, if_pos (show (6 : Int32) ≤ nI p from nI_le (a := 6) (by omega) (by omega)), show p = 6 by omega]
  | m + 1, p, f + 1, h1, h2 => by
    rw [f_X7_allCoins_c4, if_neg (show ¬ (6 : Int32) ≤ nI p from nI_ge (b := 6) (by omega) (by omega)), ixc, gd_n (by omega) (by omega), nm_x, nI_clamp (by omega), nI_1]
    exact M_allCoins_l m (p + 1) f (by omega) (by omega)
theorem M_allCoins {h : xH} : f_X7_allCoins h = some (sC (h 1) 6, h) := M_allCoins_l 6 0 xN (by omega) (by unfold xN; omega)
def sWr (σ : Nat → Int32) : Nat → Int32
  | 0 => 0
  | d + 1 => sWr σ d + σ (18 + 6 * d + 3)
theorem C_allWear_l {h : xH} {w N : Nat} {σ : Nat → Int32} (hw : WR h w σ) (h0 : σ 0 = nI N) (hN : N ≤ 10) : ∀ m d f, d + m = N → m < f → f_X5_allWear_c4 w f (sWr σ d) (nI d) h = some (sWr σ N, h)
  | m, p, 0, _, h2 => absurd h2 (Nat.not_lt_zero _)
  | 0, d, f + 1, h1, _ => by rw [f_X5_allWear_c4, hw.days, h0, if_pos (nI_le (by omega) (by omega)), show d = N by omega]
  | m + 1, d, f + 1, h1, h2 => by
    rw [f_X5_allWear_c4, hw.days, h0, if_neg (nI_ge (by omega) (by omega)), gd_n (by omega) (by omega), nm_x, nI_clamp (by omega), nI_1, hw.day (k := 3) (by omega) (by omega) (a := w + 4) rfl]
    exact C_allWear_l hw h0 hN m (d + 1) f (by omega) (by omega)
theorem C_allWear {h : xH} {w N : Nat} {σ : Nat → Int32} (hw : WR h w σ) (h0 : σ 0 = nI N) (hN : N ≤ 10) : f_X5_allWear w h = some (sWr σ N, h) := C_allWear_l hw h0 hN N 0 xN (by omega) (by unfold xN; omega)
theorem M_allWear_l {h : xH} {N : Nat} (h0 : h 1 0 = nI N) (hN : N ≤ 10) : ∀ m d f, d + m = N → m < f → f_X7_allWear_c4 f (sWr (h 1) d) (nI d) h = some (sWr (h 1) N, h)
  | m, p, 0, _, h2 => absurd h2 (Nat.not_lt_zero _)
  | 0, d, f + 1, h1, _ => by rw [f_X7_allWear_c4, gS_0, cN_0, h0, if_pos (nI_le (by omega) (by omega)), show d = N by omega]
  | m + 1, d, f + 1, h1, h2 => by
    rw [f_X7_allWear_c4, gS_0, cN_0, h0, if_neg (nI_ge (by omega) (by omega)), M_of (j := 3) (k := 3) rfl (by omega) (by omega), bn_s, nI_1]
    exact M_allWear_l h0 hN m (d + 1) f (by omega) (by omega)
theorem M_allWear {h : xH} {N : Nat} (h0 : h 1 0 = nI N) (hN : N ≤ 10) : f_X7_allWear h = some (sWr (h 1) N, h) := M_allWear_l h0 hN N 0 xN (by omega) (by unfold xN; omega)
def sVl (σ : Nat → Int32) : Nat → Int32
  | 0 => 0
  | d + 1 => sVl σ d + vlF σ d
theorem C_allValue_l {w N : Nat} {σ : Nat → Int32} (w20 : 20 < w) (h0 : σ 0 = nI N) (hN : N ≤ 10) : ∀ m d f (h : xH), d + m = N → m < f → CW h w σ → ∃ h', f_X5_allValue_c4 w f (sVl σ d) (nI d) h = some (sVl σ N, h') ∧ ∀ q, q ≠ 20 → h' q = h q
  | m, p, 0, h, _, h2, _ => absurd h2 (Nat.not_lt_zero _)
  | 0, d, f + 1, h, h1, _, hw => ⟨h, by rw [f_X5_allValue_c4, hw.1.days, h0, if_pos (nI_le (by omega) (by omega)), show d = N by omega], fun _ _ => rfl⟩
  | m + 1, d, f + 1, h, h1, h2, hw => by
    obtain ⟨g, e1, e2⟩ := C_valueOf (d := d) hw.1 hw.2.1 hw.2.2 (by omega) w20
    rw [f_X5_allValue_c4, hw.1.days, h0, if_neg (nI_ge (by omega) (by omega)), e1, bn_s, nI_1]
    obtain ⟨h', i1, i2⟩ := C_allValue_l w20 h0 hN m (d + 1) f g (by omega) (by omega) (hw.keep w20 e2)
    exact ⟨h', i1, fun q hq => (i2 q hq).trans (e2 q hq)⟩
theorem C_allValue {h : xH} {w N : Nat} {σ : Nat → Int32} (hw : CW h w σ) (w20 : 20 < w) (h0 : σ 0 = nI N) (hN : N ≤ 10) : ∃ h', f_X5_allValue w h = some (sVl σ N, h') ∧ ∀ q, q ≠ 20 → h' q = h q := C_allValue_l w20 h0 hN N 0 xN h (by omega) (by unfold xN; omega) hw
theorem M_allValues_l {hc : xH} {N : Nat} {σ : Nat → Int32} (hl : LW hc σ) (h0 : σ 0 = nI N) (hN : N ≤ 10) : ∀ m d f (h : xH), d + m = N → m < f → h 1 = σ → ∃ h', f_X7_allValues_c4 f (sVl σ d) (nI d) h = some (sVl σ N, h') ∧ ∀ q, q ≠ 15 → q ≠ 16 → h' q = h q
  | m, p, 0, h, _, h2, _ => absurd h2 (Nat.not_lt_zero _)
  | 0, d, f + 1, h, h1, _, hs => ⟨h, by rw [f_X7_allValues_c4, gS_0, cN_0, hs, h0, if_pos (nI_le (by omega) (by omega)), show d = N by omega], fun _ _ _ => rfl⟩
  | m + 1, d, f + 1, h, h1, h2, hs => by
    subst hs
    obtain ⟨g, e1, e2⟩ := M_valueOf (d := d) hl (by omega)
    rw [f_X7_allValues_c4, gS_0, cN_0, h0, if_neg (nI_ge (by omega) (by omega)), e1, bn_s, nI_1]
    obtain ⟨h', i1, i2⟩ := M_allValues_l hl h0 hN m (d + 1) f g (by omega) (by omega) (e2 1 (by omega) (by omega))
    exact ⟨h', i1, fun q q1 q2 => (i2 q q1 q2).trans (e2 q q1 q2)⟩
theorem M_allValues {hc h : xH} {N : Nat} (hl : LW hc (h 1)) (h0 : h 1 0 = nI N) (hN : N ≤ 10) : ∃ h', f_X7_allValues h = some (sVl (h 1) N, h') ∧ ∀ q, q ≠ 15 → q ≠ 16 → h' q = h q := M_allValues_l hl h0 hN N 0 xN h (by omega) (by unfold xN; omega) rfl
theorem S_ledger_ok {κ : Nat} (hκ : κ < 64) : S_ledger (Rk κ) (Rk (κ + 1)) := by
  intro a1 hc hm hR
  refine Sm.k hκ hR ?_
  have hR := hR.1
  simp only [f_X6_ledger, f_X7_ledger, gS_3, gS_4, cN_3, cN_4, hR.1.1.sales, hR.1.1.lost, C_allCoins hR.1.1, M_allCoins, bn_s]
  exact Sm.ite (fun _ => .ret hR) (fun _ => Sm.ite (fun _ => .ret hR) (fun _ => Sm.ite (fun _ => .ret hR) (fun _ => .ret hR)))
theorem S_count_ok {κ : Nat} (hκ : κ < 64) : S_count (Rk κ) (Rk (κ + 1)) := by
  intro a1 hc hm hR
  refine Sm.k hκ hR ?_
  have hR := hR.1
  obtain ⟨⟨N, hN, h0⟩, -⟩ := hR.1.2.1
  obtain ⟨hc', e1, e2⟩ := C_allValue ⟨hR.1.1, hR.1.2.2.2, hR.1.2.1⟩ (by omega) h0 hN
  obtain ⟨hm', e3, e4⟩ := M_allValues hR.1.2.2.2 h0 hN
  obtain ⟨n, hn, y1, y2, -⟩ := hR.2.2.2.2.2
  obtain ⟨⟨t, ht, t1, t2⟩, -⟩ := hR.2.2.1
  simp only [f_X6_count, f_X7_count, gS_0, gS_1, gS_2, gS_5, cN_0, cN_1, cN_2, cN_5, hR.1.1.days, hR.1.1.market, hR.1.1.texts, hR.1.1.z, C_allWear hR.1.1 h0 hN, M_allWear h0 hN, e1, e3, bn_s, y1, y2, t1, t2]
  exact Sm.ite (fun _ => .ret hR) (fun _ => Sm.ite (fun _ => .ret hR) (fun _ => Sm.ite (fun _ => .ret hR) (fun _ => Sm.ite (fun _ => .to (.ms (.of e4)) (hR.scr (.of e2) (.of e4))) (fun _ => Sm.ite (fun _ => .ret hR) (fun _ => Sm.ite (fun _ => .ret hR) (fun _ => Sm.ite (fun _ => .ret hR) (fun _ => Sm.ite (fun _ => .ret hR) (fun _ => .ret hR))))))))
/-! markets -/
theorem gOnN_2 {σ : Nat → Int32} (hb : Bnd σ) : ∀ n, gOnN σ n 2 = σ 2 + nI n
  | 0 => by rw [gOnN, nI_0, Int32.add_zero]
  | n + 1 => by rw [gOnN, gOn_2 (gOnN_b hb n), gOnN_2 hb n, nI_succ, Int32.add_assoc]
theorem slF_3 {σ : Nat → Int32} {d : Nat} : ∃ n : Nat, n ≤ 1 ∧ slF σ d 3 = σ 3 + nI n := by
  unfold slF
  by_cases c : ofF σ ((bst σ d 6).1).toNatClampNeg d ≤ ofF σ (σ (18 + 6 * d + 4)).toNatClampNeg d
  · rw [if_pos c]; exact ⟨0, by omega, by rw [nI_0, Int32.add_zero]⟩
  · rw [if_neg c]; exact ⟨1, by omega, by rw [sellF, pk_us]; rfl⟩
theorem its_3 {σ : Nat → Int32} : ∀ d, ∃ n : Nat, n ≤ d ∧ its σ d 3 = σ 3 + nI n
  | 0 => ⟨0, by omega, by rw [its, nI_0, Int32.add_zero]⟩
  | d + 1 => by
    obtain ⟨n, h1, h2⟩ := its_3 (σ := σ) d
    obtain ⟨m, h3, h4⟩ := slF_3 (σ := its σ d) (d := d)
    exact ⟨n + m, by omega, by rw [its, h4, h2, Int32.add_assoc, nI_add]⟩
theorem gOn_3 {σ : Nat → Int32} (hb : Bnd σ) : ∃ n : Nat, n ≤ 10 ∧ gOn σ 3 = σ 3 + nI n := by
  obtain ⟨⟨N, hN, h0⟩, -⟩ := id hb
  obtain ⟨n, h1, h2⟩ := its_3 (σ := itw σ N) N
  refine ⟨n, by omega, ?_⟩
  unfold gOn
  rw [h0, nI_clamp (by omega), pk_un (by omega), h2, itw_ne (by omega) N hN]
theorem gOnN_3 {σ : Nat → Int32} (hb : Bnd σ) : ∀ k, ∃ n : Nat, n ≤ 10 * k ∧ gOnN σ k 3 = σ 3 + nI n
  | 0 => ⟨0, by omega, by rw [gOnN, nI_0, Int32.add_zero]⟩
  | k + 1 => by
    obtain ⟨n, h1, h2⟩ := gOnN_3 hb k
    obtain ⟨m, h3, h4⟩ := gOn_3 (gOnN_b hb k)
    exact ⟨n + m, by omega, by rw [gOnN, h4, h2, Int32.add_assoc, nI_add]⟩
theorem markets_l {hc : xH} {σ : Nat → Int32} {n k m0 : Nat} {v : Int32} (hl : LW hc σ) (hb : Bnd σ) (hn : n ≤ 100) (hm0 : σ 2 = nI m0) (hm9 : m0 ≤ 9999) (hk : k = if 9999 - m0 < n then 9999 - m0 else n) : ∀ m i f (h : xH), i + m = k → m < f → h 1 = gOnN σ i → ∃ h', f_X7_markets_c24 (nI n) f v (nI i) h = some (gOnN σ k 3 - v, h') ∧ h' 1 = gOnN σ k ∧ mF h h'
  | m, i, 0, h, _, h2, _ => absurd h2 (Nat.not_lt_zero _)
  | 0, i, f + 1, h, h1, _, hs => by
    have hkn : k ≤ n ∧ m0 + k ≤ 9999 := by
      by_cases c2 : 9999 - m0 < n
      · rw [if_pos c2] at hk; omega
      · rw [if_neg c2] at hk; omega
    have hd : i = k := by omega
    rw [hd] at hs
    rw [hd]
    refine ⟨h, ?_, hs, mF.rf⟩
    rw [f_X7_markets_c24]
    unfold f_X7_markets_c51
    rw [gS_3, cN_3, hs, gS_2, cN_2, gOnN_2 hb, hm0, nI_add]
    by_cases c : n ≤ k
    · rw [if_pos (nI_le c (by omega))]
    · by_cases c2 : 9999 - m0 < n
      · rw [if_pos c2] at hk
        rw [if_neg (nI_ge (by omega) (by omega)), if_pos (show (9999 : Int32) ≤ nI (m0 + k) from nI_le (a := 9999) (by omega) (by omega))]
      · rw [if_neg c2] at hk
        omega
  | m + 1, i, f + 1, h, h1, h2, hs => by
    have hkn : k ≤ n ∧ m0 + k ≤ 9999 := by
      by_cases c2 : 9999 - m0 < n
      · rw [if_pos c2] at hk; omega
      · rw [if_neg c2] at hk; omega
    obtain ⟨g, e1, e2, e3⟩ := M_goesOn (hc := hc) (h := h) ⟨by rw [hs]; exact hl.s (fun j hj => gOnN_ne hb (by omega) i), by rw [hs]; exact gOnN_b hb i⟩
    rw [f_X7_markets_c24, if_neg (nI_ge (by omega) (by omega)), gS_2, cN_2, hs, gOnN_2 hb, hm0, nI_add, if_neg (show ¬ (9999 : Int32) ≤ nI (m0 + i) from nI_ge (b := 9999) (by omega) (by omega)), e1, bn_s, nI_1]
    obtain ⟨h', i1, i2, i3⟩ := markets_l (v := v) hl hb hn hm0 hm9 hk m (i + 1) f g (by omega) (by omega) (by rw [e2, hs]; rfl)
    exact ⟨h', i1, i2, e3.tr i3⟩
theorem n9999 : (9999 : Int32) = nI 9999 := by decide +kernel
set_option maxRecDepth 20000 in
theorem S_markets_ok {κ : Nat} (hκ : κ < 64) : S_markets (Rk κ) (Rk (κ + 1)) := by
  intro a1 hc hm hR
  refine Sm.k hκ hR ?_
  have hR := hR.1
  simp only [f_X6_markets, f_X7_markets, C_within, M_1_100, bn_s, b01, gS_3, cN_3, nm_x]
  refine Sm.ite (fun c1 => ?_) (fun _ => .ret hR)
  obtain ⟨n, hn, rfl⟩ := in_nI (n := 100) (M := 100) rfl ⟨Int32.le_trans (by decide) c1.1, c1.2⟩
  obtain ⟨m0, hm9, hm31, hm0⟩ := rg_nI hR.1.2.2.1
  have e : (if 9999 - hc 24 14 < nI n then 9999 - hc 24 14 else nI n) = nI (if 9999 - m0 < n then 9999 - m0 else n) := by
    rw [hR.1.1.market, hm0, n9999, nI_sub (by omega)]
    by_cases c : 9999 - m0 < n
    · rw [if_pos (nI_lt c (by omega)), if_pos c]
    · rw [if_neg (nI_nlt (by omega) (by omega)), if_neg c]
  simp only [f_X5_marketsLeft, nm_x, e, bn_s]
  obtain ⟨k, hk⟩ : ∃ k, k = if 9999 - m0 < n then 9999 - m0 else n := ⟨_, rfl⟩
  rw [← hk]
  have hkn : k ≤ n ∧ m0 + k ≤ 9999 := by
    by_cases c2 : 9999 - m0 < n
    · rw [if_pos c2] at hk; omega
    · rw [if_neg c2] at hk; omega
  obtain ⟨hc', x1, x2, x3⟩ := C_goOn (n := k) ⟨hR.1.1, hR.1.2.2.2, hR.1.2.1⟩ (by omega) (by omega)
  obtain ⟨hm', y1, y2, y3⟩ := markets_l (v := hm 1 3) hR.1.2.2.2 hR.1.2.1 hn hm0 (by omega) hk k 0 xN hm (by omega) (by unfold xN; omega) rfl
  rw [x1, bn_s, x2.1.sales, hR.1.1.sales, show (0 : Int32) = nI 0 from rfl, y1]
  obtain ⟨s, s1, s2⟩ := gOnN_3 hR.1.2.1 k
  refine .to (.up (n := s) (by omega) (by rw [y3 0 (by omega) (by omega) (by omega)]) (y3 2 (by omega) (by omega) (by omega)) (by rw [y2, s2])) (hR.mkt (fun a q1 q2 q3 q4 q5 => x3 a q1 q2) (fun a q1 q2 q3 q4 q5 q6 q7 q8 => y3 a q1 q5 q6) (by rw [y2]; exact x2.1) (by rw [y2]; exact x2.2.2) ?_ ?_)
  · rw [y2, gOnN_2 hR.1.2.1, hm0, nI_add]
    exact rg_of (by omega) (by omega)
  · intro j hj
    rw [y2, gOnN_ne hR.1.2.1 (by omega)]
