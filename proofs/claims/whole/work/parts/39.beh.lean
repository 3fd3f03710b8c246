/-! what is only thought, and laid back -/
def BK (hm h : xH) : Prop := h 13 = cpk (hm 1) (hm 13) 78 ∧ (∀ j, 78 ≤ j → h 1 j = hm 1 j) ∧ ∀ q, q ≠ 1 → q ≠ 13 → q ≠ 15 → q ≠ 16 → h q = hm q
theorem BK.st {hm : xH} : BK hm (xpt hm 13 (cpk (hm 1) (hm 13) 78)) := ⟨xpt_self, fun j _ => by rw [xpt_ne (by omega)], fun q _ q2 _ _ => xpt_ne q2⟩
theorem BK.mf {hm h h' : xH} (hb : BK hm h) (e : mF h h') (e1 : ∀ j, 78 ≤ j → h' 1 j = h 1 j) : BK hm h' :=
  ⟨(e 13 (by omega) (by omega) (by omega)).trans hb.1, fun j hj => (e1 j hj).trans (hb.2.1 j hj), fun q q1 q2 q3 q4 => (e q q1 q3 q4).trans (hb.2.2 q q1 q2 q3 q4)⟩
theorem BK.scr {hm h h' : xH} (hb : BK hm h) (e : ∀ q, q ≠ 15 → q ≠ 16 → h' q = h q) : BK hm h' :=
  hb.mf (fun q _ q2 q3 => e q q2 q3) (fun j _ => by rw [e 1 (by omega) (by omega)])
theorem M_back {hm h : xH} (hb : BK hm h) : ∃ h', f_X7_laysBack h = some (0, h') ∧ mS hm h' ∧ h' 1 = hm 1 ∧ BK hm h' := by
  have hl := laid hb.1 hb.2.1 hb.2.2
  have h1 := hl 1 (by omega) (by omega) (by omega) (by omega) (by omega) (by omega) (by omega)
  exact ⟨_, M_laysBack, hl, h1, by rw [xpt_ne (by omega)]; exact hb.1, fun j _ => by rw [h1], fun q q1 q2 q3 q4 => by rw [xpt_ne q1]; exact hb.2.2 q q1 q2 q3 q4⟩
theorem Sm.fin {r : Int32} {hc g hm h : xH} (hR : Rl hc hm) (cs : cS hc g) (ms : mS hm h) : Sm hm (some (r, g)) (some (r, h)) := .to (.ms ms) (hR.scr cs ms)
theorem cS.f {g g' : xH} (e : cF 44 g g') : cS g g' := fun q q1 _ q3 _ => e q q3 q1
/-- the thought goes on alike on both sides -/
theorem thk {hc hm g h : xH} {τ : Nat → Int32} {n : Nat} (hw : CW g 44 τ) (hs : h 1 = τ) (cs : cS hc g) (bk : BK hm h) (hn : n < 4096) : ∃ g' h', f_X5_goOn 44 (nI n) g = some (0, g') ∧ f_X7_goesOnMany (nI n) h = some (0, h') ∧ CW g' 44 (gOnN τ n) ∧ h' 1 = gOnN τ n ∧ cS hc g' ∧ BK hm h' := by
  subst hs
  obtain ⟨g', e1, e2, e3⟩ := C_goOn (n := n) hw (by omega) hn
  obtain ⟨h', m1, m2, m3⟩ := M_goesOnMany (hc := g) (h := h) (n := n) ⟨hw.2.1, hw.2.2⟩ hn
  exact ⟨g', h', e1, m1, e2, m2, cs.tr (.f e3), bk.mf m3 (fun j hj => by rw [m2, gOnN_ne hw.2.2 (by omega)])⟩
theorem thk0 {hc hm : xH} (hR : Rl hc hm) : ∃ g, f_X5_become 44 24 hc = some (0, g) ∧ CW g 44 (hm 1) ∧ cS hc g := by
  obtain ⟨g, e1, e2, -, e3⟩ := C_think hR
  exact ⟨g, e1, e2, fun q _ _ q3 _ => e3 q q3⟩
theorem S_behind_ok {κ : Nat} (hκ : κ < 64) : S_behind (Rk κ) (Rk (κ + 1)) := by
  intro a1 a2 a3 hc hm hR
  refine Sm.k hκ hR ?_
  have hR := hR.1
  simp only [f_X6_behind, f_X7_behind, f_X7_behind_c88, C_isDay, C_within, M_isDay, M_0_100, M_0_4, bn_s, b01, hR.1.1.days]
  refine Sm.ite (fun c1 => Sm.ite (fun c2 => Sm.ite (fun c3 => ?_) (fun _ => .ret hR)) (fun _ => .ret hR)) (fun _ => .ret hR)
  obtain ⟨d, n, hd, hn, h0, rfl⟩ := day_in hR.1.2.1.1 c1
  obtain ⟨k, hk, rfl⟩ := in_nI (n := 100) (M := 100) rfl c2
  obtain ⟨j, hj, rfl⟩ := in_nI (n := 4) (M := 4) rfl c3
  obtain ⟨g, e1, e2, e3⟩ := thk0 hR
  obtain ⟨g2, h2, t1, t2, t3, t4, t5, t6⟩ := thk (n := k) e2 (h := xpt hm 13 (cpk (hm 1) (hm 13) 78)) (xpt_ne (by omega)) e3 BK.st (by omega)
  rw [e1, bn_s, t1, bn_s, M_laysBy, bn_s, t2, bn_s]
  obtain ⟨h3, b1, b2, -⟩ := M_back t6
  match j, hj with
  | 0, _ =>
    rw [if_pos (show nI 0 = 0 from rfl), if_pos (show nI 0 = 0 from rfl), gd_n (by omega) (by omega), nI_clamp (by omega), t3.1.day (k := 4) (by omega) (by omega) (a := 49) rfl, M_of (j := 4) (k := 4) rfl (by omega) (by omega), bn_s, b1, bn_s, t4]
    exact .fin hR t5 b2
  | 1, _ =>
    rw [if_neg (show ¬ nI 1 = 0 by decide), if_neg (show ¬ nI 1 = 0 by decide), if_pos (show nI 1 = 1 from rfl), if_pos (show nI 1 = 1 from rfl)]
    obtain ⟨g3, v1, v2⟩ := C_valueOf (d := d) t3.1 t3.2.1 t3.2.2 (by omega) (by omega)
    obtain ⟨h4, v3, v4⟩ := M_valueOf (hc := g2) (h := h2) (d := d) (by rw [t4]; exact t3.2.1) (by omega)
    obtain ⟨h5, b1, b2, -⟩ := M_back (t6.scr v4)
    rw [v1, v3, bn_s, bn_s, b1, bn_s, t4]
    exact .fin hR (t5.tr (.of v2)) b2
  | 2, _ =>
    rw [if_neg (show ¬ nI 2 = 0 by decide), if_neg (show ¬ nI 2 = 0 by decide), if_neg (show ¬ nI 2 = 1 by decide), if_neg (show ¬ nI 2 = 1 by decide), if_pos (show nI 2 = 2 from rfl), if_pos (show nI 2 = 2 from rfl), C_allCoins t3.1, M_allCoins, bn_s, bn_s, b1, bn_s, t4]
    exact .fin hR t5 b2
  | 3, _ =>
    rw [if_neg (show ¬ nI 3 = 0 by decide), if_neg (show ¬ nI 3 = 0 by decide), if_neg (show ¬ nI 3 = 1 by decide), if_neg (show ¬ nI 3 = 1 by decide), if_neg (show ¬ nI 3 = 2 by decide), if_neg (show ¬ nI 3 = 2 by decide), if_pos (show nI 3 = 3 from rfl), gd_n (by omega) (by omega), nI_clamp (by omega), b1, bn_s, t4, t3.1.sales]
    exact .fin hR t5 b2
  | 4, _ =>
    rw [if_neg (show ¬ nI 4 = 0 by decide), if_neg (show ¬ nI 4 = 0 by decide), if_neg (show ¬ nI 4 = 1 by decide), if_neg (show ¬ nI 4 = 1 by decide), if_neg (show ¬ nI 4 = 2 by decide), if_neg (show ¬ nI 4 = 2 by decide), if_neg (show ¬ nI 4 = 3 by decide), gd_n (by omega) (by omega), nI_clamp (by omega), b1, bn_s, t4, t3.1.lost]
    exact .fin hR t5 b2
/-! the richest -/
def rch (σ : Nat → Int32) : Nat → Nat
  | 0 => 0
  | j + 1 => if σ (6 + j) ≤ σ (6 + rch σ j) then rch σ j else j
theorem rch_1 {σ : Nat → Int32} : rch σ 1 = 0 := by
  rw [rch, rch, if_pos Int32.le_rfl]
theorem rch_lt {σ : Nat → Int32} : ∀ j, rch σ j ≤ j
  | 0 => Nat.le_refl _
  | j + 1 => by
    have := rch_lt (σ := σ) j
    rw [rch]
    split <;> omega
theorem C_rich {g : xH} {σ : Nat → Int32} {a1 a2 : Int32} (hw : WR g 44 σ) : ∀ m j f, j + m = 6 → 1 ≤ j → m < f → f_X6_richest_c46 a1 a2 f (nI (rch σ j)) (nI j) g = if a2 = 0 then some (nI (rch σ 6), g) else some (σ (6 + rch σ 6), g)
  | m, j, 0, _, _, h2 => absurd h2 (Nat.not_lt_zero _)
  | 0, j, f + 1, h1, _, _ => by
    have hj : j = 6 := by omega
    subst hj
    have hr : rch σ 6 < 6 := by
      have : ∀ j, 1 ≤ j → rch σ j < j := by
        intro j hj
        match j, hj with
        | j + 1, _ =>
          have := rch_lt (σ := σ) j
          rw [rch]
          split <;> omega
      exact this 6 (by omega)
    rw [f_X6_richest_c46, if_pos (show (6 : Int32) ≤ nI 6 by decide), gd_n hr (by omega), nI_clamp (by omega), hw.coins hr]
  | m + 1, j, f + 1, h1, hj, h2 => by
    have hr := rch_lt (σ := σ) j
    rw [f_X6_richest_c46, if_neg (show ¬ (6 : Int32) ≤ nI j from nI_ge (b := 6) (by omega) (by omega)), gd_n (by omega) (by omega), gd_n (by omega) (by omega), nI_clamp (by omega), nI_clamp (by omega), hw.coins (by omega), hw.coins (by omega)]
    unfold f_X6_richest_c78
    have ih := C_rich (a1 := a1) (a2 := a2) hw m (j + 1) f (by omega) (by omega) (by omega)
    rw [rch] at ih
    rw [nI_1]
    by_cases c : σ (6 + j) ≤ σ (6 + rch σ j)
    · rw [if_pos c] at ih ⊢; exact ih
    · rw [if_neg c] at ih ⊢; exact ih
theorem M_rich {h : xH} : ∀ m j f, j + m = 6 → 1 ≤ j → m < f → f_X7_richestNow_c4 f (nI (rch (h 1) j)) (nI j) h = some (nI (rch (h 1) 6), h)
  | m, j, 0, _, _, h2 => absurd h2 (Nat.not_lt_zero _)
  | 0, j, f + 1, h1, _, _ => by
    have hj : j = 6 := by omega
    subst hj
    rw [f_X7_richestNow_c4, if_pos (show (6 : Int32) ≤ nI 6 by decide)]
  | m + 1, j, f + 1, h1, hj, h2 => by
    have hr := rch_lt (σ := h 1) j
    rw [f_X7_richestNow_c4, if_neg (show ¬ (6 : Int32) ≤ nI j from nI_ge (b := 6) (by omega) (by omega)), ixc, ixc, gd_n (by omega) (by omega), gd_n (by omega) (by omega), nI_clamp (by omega), nI_clamp (by omega)]
    unfold f_X7_richestNow_c36
    have ih := M_rich (h := h) m (j + 1) f (by omega) (by omega) (by omega)
    rw [rch] at ih
    rw [nI_1]
    by_cases c : h 1 (6 + j) ≤ h 1 (6 + rch (h 1) j)
    · rw [if_pos c] at ih ⊢; exact ih
    · rw [if_neg c] at ih ⊢; exact ih
theorem S_richest_ok {κ : Nat} (hκ : κ < 64) : S_richest (Rk κ) (Rk (κ + 1)) := by
  intro a1 a2 hc hm hR
  refine Sm.k hκ hR ?_
  have hR := hR.1
  simp only [f_X6_richest, f_X7_richest, f_X7_richest_c56, C_within, M_0_100, M_0_1, bn_s, b01]
  refine Sm.ite (fun c1 => Sm.ite (fun c2 => ?_) (fun _ => .ret hR)) (fun _ => .ret hR)
  obtain ⟨k, hk, rfl⟩ := in_nI (n := 100) (M := 100) rfl c1
  obtain ⟨g, e1, e2, e3⟩ := thk0 hR
  obtain ⟨g2, h2, t1, t2, t3, t4, t5, t6⟩ := thk (n := k) e2 (h := xpt hm 13 (cpk (hm 1) (hm 13) 78)) (xpt_ne (by omega)) e3 BK.st (by omega)
  obtain ⟨h3, b1, b2, -⟩ := M_back t6
  have x1 := C_rich (a1 := nI k) (a2 := a2) t3.1 5 1 xN (by omega) (by omega) (by unfold xN; omega)
  have x2 := M_rich (h := h2) 5 1 xN (by omega) (by omega) (by unfold xN; omega)
  rw [rch_1] at x1 x2
  have hr := rch_lt (σ := gOnN (hm 1) k) 6
  rw [e1, bn_s, t1, bn_s, M_laysBy, bn_s, t2, bn_s, f_X7_richestNow, show f_X7_richestNow_c4 xN 0 1 h2 = _ from x2, bn_s, show f_X6_richest_c46 (nI k) a2 xN 0 1 g2 = _ from x1, t4, ixc, gd_n (by omega) (by omega), nI_clamp (by omega), b1, bn_s, bn_s]
  exact Sm.ite (fun _ => .fin hR t5 b2) (fun _ => .fin hR t5 b2)
/-! worn out -/
theorem worn_l {hc hm : xH} (hR : Rl hc hm) {N : Nat} (h0 : hm 1 0 = nI N) (hN : N ≤ 10) : ∀ m i f1 f2 (g h : xH), i + m = 201 → m < f1 → m + 1 < f2 → CW g 44 (gOnN (hm 1) i) → cS hc g → h 1 = gOnN (hm 1) i → BK hm h → Sm hm (f_X6_worn_c13 f1 (nI i) g) (f_X7_worn_c8 f2 (-1) (nI i) h)
  | m, i, 0, f2, g, h, _, h2, _, _, _, _, _ => absurd h2 (Nat.not_lt_zero _)
  | m, i, f1 + 1, 0, g, h, _, _, h2, _, _, _, _ => absurd h2 (Nat.not_lt_zero _)
  | m, i, f1 + 1, 1, g, h, _, _, h2, _, _, _, _ => absurd h2 (by omega)
  | 0, i, f1 + 1, f2 + 2, g, h, h1, _, _, hw, cs, hs, bk => by
    obtain ⟨h3, b1, b2, -⟩ := M_back bk
    have hi : i = 201 := by omega
    subst hi
    rw [f_X6_worn_c13, f_X7_worn_c8, if_pos (show (200 : Int32) < nI 201 by decide), if_pos (show (200 : Int32) < nI 201 by decide), f_X7_worn_c42, b1, bn_s, f_X7_orNone, if_neg (show ¬ (0 : Int32) ≤ -1 by decide), bn_s]
    exact .fin hR cs b2
  | m + 1, i, f1 + 1, f2 + 2, g, h, h1, h2, h3, hw, cs, hs, bk => by
    have hb := hR.1.2.1
    have hn : ¬ (200 : Int32) < nI i := nI_nlt (a := 200) (by omega) (by omega)
    have h0' : gOnN (hm 1) i 0 = nI N := (gOnN_ne hb (by omega) i).trans h0
    obtain ⟨g2, v1, v2⟩ := C_allValue hw (by omega) h0' hN
    obtain ⟨h4, v3, v4⟩ := M_allValues (hc := g) (h := h) (by rw [hs]; exact hw.2.1) (by rw [hs]; exact h0') hN
    have hw2 := hw.keep (by omega) v2
    have hs4 : h4 1 = gOnN (hm 1) i := (v4 1 (by omega) (by omega)).trans hs
    obtain ⟨h5, m1, m2, m3⟩ := M_goesOn (hc := g2) (h := h4) ⟨by rw [hs4]; exact hw2.2.1, by rw [hs4]; exact hw2.2.2⟩
    have bk5 : BK hm h5 := (bk.scr v4).mf m3 (fun j hj => by rw [m2, gOn_ne (by rw [hs4]; exact hw2.2.2) (by omega) (by omega)])
    rw [f_X6_worn_c13, f_X7_worn_c8, if_neg hn, if_neg hn, if_neg (show ¬ (0 : Int32) ≤ -1 by decide), v1, v3, bn_s, bn_s, hs]
    unfold f_X7_worn_c31
    rw [m1, bn_s, bn_s, nI_1]
    refine Sm.ite (fun c => ?_) (fun c => ?_)
    · obtain ⟨h6, b1, b2, -⟩ := M_back bk5
      have hp : (0 : Int32) ≤ nI i := nI_le (a := 0) (by omega) (by omega)
      rw [f_X7_worn_c8, f_X7_worn_c42, b1, bn_s, f_X7_orNone, if_pos hp, if_pos hp, bn_s]
      have : (if (200 : Int32) < nI (i + 1) then some (nI i, h6) else some (nI i, h6)) = some (nI i, h6) := by split <;> rfl
      rw [this]
      exact .fin hR (cs.tr (.of v2)) b2
    · obtain ⟨g3, c1, c2, c3⟩ := C_goOn (n := 1) hw2 (by omega) (by omega)
      rw [show (1 : Int32) = nI 1 from rfl, c1, bn_s]
      exact worn_l hR h0 hN m (i + 1) f1 (f2 + 1) g3 h5 (by omega) (by omega) (by omega) c2 ((cs.tr (.of v2)).tr (.f c3)) (by rw [m2, hs4]; rfl) bk5
theorem S_worn_ok {κ : Nat} (hκ : κ < 64) : S_worn (Rk κ) (Rk (κ + 1)) := by
  intro hc hm hR
  refine Sm.k hκ hR ?_
  have hR := hR.1
  obtain ⟨⟨N, hN, h0⟩, -⟩ := hR.1.2.1
  obtain ⟨g, e1, e2, e3⟩ := thk0 hR
  rw [f_X6_worn, f_X7_worn, e1, M_laysBy, bn_s, bn_s]
  exact worn_l hR h0 hN 201 0 xN xN g _ (by omega) (by unfold xN; omega) (by unfold xN; omega) e2 e3 (xpt_ne (by omega)) BK.st
