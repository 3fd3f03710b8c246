/-! a market -/
theorem cntN_cg {σ σ' : Nat → Int32} {k : Int32} (h : ∀ j, 78 ≤ j → σ' j = σ j) : ∀ n, cntN σ' k n = cntN σ k n
  | 0 => rfl
  | n + 1 => by rw [cntN, cntN, cntN_cg h n, h _ (by omega)]
theorem cnt_cg {σ σ' : Nat → Int32} {k : Int32} (h : ∀ j, j = 1 ∨ 78 ≤ j → σ' j = σ j) : cnt σ' k = cnt σ k := by
  rw [cnt, cnt, cntN_cg (fun j hj => h j (Or.inr hj)), h 1 (Or.inl rfl)]
def wr1 (σ : Nat → Int32) (x : Int32) (d : Nat) : Int32 := if 0 ≤ cnt σ 1 then clm (evF σ (cnt σ 1).toNatClampNeg x (σ (18 + 6 * d + 2)) (σ (18 + 6 * d + 3))) 20 else x / 3
def wrF (σ : Nat → Int32) (d : Nat) : Nat → Int32 := upd (upd σ 5 (zn (σ 5))) (18 + 6 * d + 3) (clm (σ (18 + 6 * d + 3) + wr1 (upd σ 5 (zn (σ 5))) (rm (drw (zn (σ 5))) 10) d) 99)
theorem wrF_ne {σ : Nat → Int32} {d j : Nat} (h1 : j ≠ 5) (h2 : j ≠ 18 + 6 * d + 3) : wrF σ d j = σ j := by
  unfold wrF
  rw [pk_un h2, pk_un h1]
theorem wr1_rg {σ : Nat → Int32} {x : Int32} {d : Nat} (hx : rg x 9) : rg (wr1 σ x d) 20 := by
  unfold wr1
  by_cases c : 0 ≤ cnt σ 1
  · rw [if_pos c]; exact clm_rg _ rfl (by omega)
  · rw [if_neg c]
    obtain ⟨j, h1, h2, rfl⟩ := rg_nI hx
    rw [show (3 : Int32) = nI 3 from rfl, nI_div h2 (by omega)]
    exact rg_of (by omega) (by omega)
theorem Bnd.wr {σ : Nat → Int32} (hb : Bnd σ) (d : Nat) : Bnd (wrF σ d) := by
  unfold wrF
  exact (hb.free (by omega)).day (by omega) (fun _ => clm_rg _ rfl (by decide))
theorem M_wears {hc h : xH} {d : Nat} {x : Int32} (hl : LW hc (h 1)) (hd : d < 10) : ∃ h', f_X7_wears (nI d) x h = some (wr1 (h 1) x d, h') ∧ ∀ q, q ≠ 15 → q ≠ 16 → h' q = h q := by
  unfold f_X7_wears wr1
  rw [M_counts hl, bn_s]
  rcases cnt_in hl 1 with q | ⟨t, q1, q2, q3, q4⟩
  · rw [q, if_neg (show ¬ (0 : Int32) ≤ -1 by decide), if_neg (show ¬ (0 : Int32) ≤ -1 by decide)]
    exact ⟨h, rfl, fun _ _ _ => rfl⟩
  · rw [q2, if_pos (nI_pos' (by omega)), if_pos (nI_pos' (by omega)), g128 (by simp), nm_x, M_of (j := 2) (k := 2) rfl hd (by omega), bn_s, g128 (by simp), nm_x, M_of (j := 3) (k := 3) rfl hd (by omega), bn_s, g128 (by simp), nm_x, nI_clamp (by omega)]
    rw [show Int32.toNatClampNeg 120 = 120 from rfl, show Int32.toNatClampNeg 116 = 116 from rfl, show Int32.toNatClampNeg 119 = 119 from rfl]
    simp only [xst_ne (show (1 : Nat) ≠ 15 by omega)]
    generalize hg : xst (xst (xst h 15 120 x) 15 116 (h 1 (18 + 6 * d + 2))) 15 119 (h 1 (18 + 6 * d + 3)) = g
    have g1 : g 1 = h 1 := by rw [← hg, xst_ne (by omega), xst_ne (by omega), xst_ne (by omega)]
    have g15 : g 15 = upd (upd (upd (h 15) 120 x) 116 (h 1 (18 + 6 * d + 2))) 119 (h 1 (18 + 6 * d + 3)) := by rw [← hg, xst_self, xst_self, xst_self]
    obtain ⟨h', e1, e2⟩ := M_worked (hc := hc) (h := g) (by rw [g1]; exact q4) q1 x (h 1 (18 + 6 * d + 2)) (h 1 (18 + 6 * d + 3)) (by
      intro ch e he
      rw [g1, q3] at he
      rw [g15]
      unfold nmk at he
      rw [if_neg (by decide), if_pos rfl] at he
      repeat' split at he
      all_goals first
        | (cases he; done)
        | (cases he; subst_vars; rfl))
    rw [e1, bn_s, M_within, bn_s, g1]
    refine ⟨h', rfl, fun q hq1 hq2 => (e2 q hq2).trans ?_⟩
    rw [← hg, xst_ne hq1, xst_ne hq1, xst_ne hq1]
/-- a World that can go on -/
def CW (h : xH) (w : Nat) (σ : Nat → Int32) : Prop := WR h w σ ∧ LW h σ ∧ Bnd σ
def cF (w : Nat) (h h' : xH) : Prop := ∀ a, ¬ (w ≤ a ∧ a < w + 10) → a ≠ 20 → h' a = h a
theorem cF.rf {w : Nat} {h : xH} : cF w h h := fun _ _ _ => rfl
theorem cF.tr {w : Nat} {a b c : xH} (h1 : cF w a b) (h2 : cF w b c) : cF w a c := fun q q1 q2 => (h2 q q1 q2).trans (h1 q q1 q2)
theorem CW.keep {h h' : xH} {w : Nat} {σ : Nat → Int32} (hw : CW h w σ) (w20 : 20 < w) (e : ∀ q, q ≠ 20 → h' q = h q) : CW h' w σ :=
  ⟨hw.1.keep (fun a h1 _ => e a (by omega)), hw.2.1.cg (fun a _ h2 => e a (by omega)) (fun _ _ => rfl), hw.2.2⟩
theorem CW.to {h h' : xH} {w : Nat} {σ σ' : Nat → Int32} (hw : CW h w σ) (w20 : 20 < w) (hr : WR h' w σ') (hb : Bnd σ') (e : cF w h h') (hs : ∀ j, j = 1 ∨ 78 ≤ j → σ' j = σ j) : CW h' w σ' :=
  ⟨hr, hw.2.1.cg (fun a _ h2 => e a (by omega) (by omega)) hs, hb⟩
theorem clm99 {u m : Int32} (hu : rg u 99) (hm : rg m 20) : (if 99 < u + m then 99 else u + m) = clm (u + m) 99 := by
  have e := add_toInt hu hm (by omega)
  have u1 := hu.1; have m1 := hm.1
  have h0 : 0 ≤ u + m := by rw [Int32.le_iff_toInt_le, e, show (0 : Int32).toInt = 0 from rfl]; omega
  unfold clm
  rw [if_pos h0]
  by_cases c : u + m ≤ 99
  · rw [if_pos c, if_neg (Int32.not_lt.mpr c)]
  · rw [if_neg c, if_pos (Int32.not_le.mp c)]
def itw (σ : Nat → Int32) : Nat → Nat → Int32
  | 0 => σ
  | d + 1 => wrF (itw σ d) d
theorem itw_ne {σ : Nat → Int32} {j : Nat} (hj : j < 5 ∨ 78 ≤ j) : ∀ d, d ≤ 10 → itw σ d j = σ j
  | 0, _ => rfl
  | d + 1, hd => by rw [itw, wrF_ne (by omega) (by omega), itw_ne hj d (by omega)]
theorem C_wear1 {h : xH} {w : Nat} {σ : Nat → Int32} {d n : Nat} (hw : CW h w σ) (w20 : 20 < w) (hd : d < 10) {k : Int32} (hk : k = cnt σ 1) : ∃ h', (bn (f_X5_draw w h) fun r1 h2 => if 0 ≤ k then (gd (nI d) 10 <| gd (nI d) 10 <| bn (f_X0_workOut k (r1 - r1 / 10 * 10) (h2 (w + 3) (Int32.toNatClampNeg (nI d))) (h2 (w + 4) (Int32.toNatClampNeg (nI d))) h2) fun r4 h5 => bn (f_X6_held r4 0 20 h5) fun r7 h8 => f_X5_wearDays_c62 (f_X5_wearDays_c9 w n) w k (nI d) r7 h8) else (f_X5_wearDays_c62 (f_X5_wearDays_c9 w n) w k (nI d) ((r1 - r1 / 10 * 10) / 3) h2)) = f_X5_wearDays_c9 w n k (nI d + 1) h' ∧ CW h' w (wrF σ d) ∧ cF w h h' := by
  subst hk
  rw [C_draw, bn_s, hw.1.z]
  generalize hg : xst h w 15 (zn (σ 5)) = g
  have gw : WR g w (upd σ 5 (zn (σ 5))) := by rw [← hg]; exact hw.1.put (j := 5) (by omega) (by omega) rfl rfl
  have gb : Bnd (upd σ 5 (zn (σ 5))) := hw.2.2.free (by omega)
  have gf : cF w h g := fun a h1 h2 => by rw [← hg, xst_ne (by omega)]
  have gc : CW g w (upd σ 5 (zn (σ 5))) := hw.to w20 gw gb gf (fun j hj => pk_un (by omega))
  have hcn : cnt σ 1 = cnt (upd σ 5 (zn (σ 5))) 1 := (cnt_upd (by omega) (by omega)).symm
  rw [show drw (zn (σ 5)) - drw (zn (σ 5)) / 10 * 10 = rm (drw (zn (σ 5))) 10 from rfl]
  have hx : rg (rm (drw (zn (σ 5))) 10) 9 := rm_rg (b := 10) rfl (by omega) (by omega)
  have ht : g (w + 3) d = upd σ 5 (zn (σ 5)) (18 + 6 * d + 2) := gw.day (k := 2) hd (by omega) (a := w + 3) rfl
  have hu : g (w + 4) d = upd σ 5 (zn (σ 5)) (18 + 6 * d + 3) := gw.day (k := 3) hd (by omega) (a := w + 4) rfl
  have key : ∀ (h8 : xH) (r : Int32), (∀ q, q ≠ 20 → h8 q = g q) → r = wr1 (upd σ 5 (zn (σ 5))) (rm (drw (zn (σ 5))) 10) d → ∃ h', f_X5_wearDays_c62 (f_X5_wearDays_c9 w n) w (cnt σ 1) (nI d) r h8 = f_X5_wearDays_c9 w n (cnt σ 1) (nI d + 1) h' ∧ CW h' w (wrF σ d) ∧ cF w h h' := by
    intro h8 r e8 hr
    subst hr
    have c8 : CW h8 w (upd σ 5 (zn (σ 5))) := gc.keep w20 e8
    have hu8 : h8 (w + 4) d = upd σ 5 (zn (σ 5)) (18 + 6 * d + 3) := c8.1.day (k := 3) hd (by omega) (a := w + 4) rfl
    simp only [f_X5_wearDays_c62, nm_x, gd_n hd (show 10 < 2 ^ 31 by omega), nI_clamp (show d < 2 ^ 31 by omega), hu8]
    rw [clm99 (gb.dd (d := d) (k := 3) hd (by omega)) (wr1_rg hx)]
    refine ⟨_, rfl, ?_, ?_⟩
    · have hp := c8.1.putD (v := clm (upd σ 5 (zn (σ 5)) (18 + 6 * d + 3) + wr1 (upd σ 5 (zn (σ 5))) (rm (drw (zn (σ 5))) 10) d) 99) hd (k := 3) (by omega) (a := w + 4) rfl
      refine c8.to w20 ?_ (hw.2.2.wr d) (fun a h1 h2 => xst_ne (by omega)) (fun j hj => ?_)
      · unfold wrF
        rw [pk_un (show 18 + 6 * d + 3 ≠ 5 by omega)] at hp ⊢
        exact hp
      · rw [wrF_ne (by omega) (by omega), pk_un (by omega)]
    · intro a h1 h2
      rw [xst_ne (by omega), e8 a h2, gf a h1 h2]
  rcases cnt_in gc.2.1 1 with q | ⟨t, q1, q2, q3, q4⟩
  · rw [hcn, q, if_neg (show ¬ (0 : Int32) ≤ -1 by decide), ← q, ← hcn]
    refine key g _ (fun _ _ => rfl) ?_
    unfold wr1
    rw [q, if_neg (show ¬ (0 : Int32) ≤ -1 by decide)]
  · rw [if_pos (by rw [hcn, q2]; exact nI_pos' (by omega)), gd_n hd (by omega), gd_n hd (by omega), nI_clamp (by omega), ht, hu]
    obtain ⟨h5, e1, e2⟩ := C_workOut q4 q1 (rm (drw (zn (σ 5))) 10) (upd σ 5 (zn (σ 5)) (18 + 6 * d + 2)) (upd σ 5 (zn (σ 5)) (18 + 6 * d + 3))
    rw [show f_X0_workOut (cnt σ 1) = f_X0_workOut (nI t) by rw [hcn, q2], e1, bn_s, C_held _ (by decide), bn_s]
    refine key h5 _ e2 ?_
    unfold wr1
    rw [q2, if_pos (nI_pos' (by omega)), nI_clamp (by omega)]
theorem C_wearDays_l {w N : Nat} {σ : Nat → Int32} (w20 : 20 < w) (h0 : σ 0 = nI N) (hN : N ≤ 10) : ∀ m d f (h : xH), d + m = N → m < f → CW h w (itw σ d) → ∃ h', f_X5_wearDays_c9 w f (cnt σ 1) (nI d) h = some (0, h') ∧ CW h' w (itw σ N) ∧ cF w h h'
  | m, d, 0, h, _, h2, _ => absurd h2 (Nat.not_lt_zero _)
  | 0, d, f + 1, h, h1, _, hw => by
    have hd : d = N := by omega
    subst hd
    refine ⟨h, ?_, hw, cF.rf⟩
    rw [f_X5_wearDays_c9, hw.1.days, itw_ne (by omega) d hN, h0, if_pos (nI_le (by omega) (by omega))]
  | m + 1, d, f + 1, h, h1, h2, hw => by
    rw [f_X5_wearDays_c9, hw.1.days, itw_ne (by omega) d (by omega), h0, if_neg (nI_ge (by omega) (by omega))]
    obtain ⟨h', e1, e2, e3⟩ := C_wear1 (n := f) (d := d) hw w20 (by omega) (k := cnt σ 1) (cnt_cg (fun j hj => itw_ne (by omega) d (by omega))).symm
    rw [e1, nI_1]
    obtain ⟨h'', i1, i2, i3⟩ := C_wearDays_l w20 h0 hN m (d + 1) f h' (by omega) (by omega) e2
    exact ⟨h'', i1, i2, e3.tr i3⟩
theorem C_wearDays {h : xH} {w N : Nat} {σ : Nat → Int32} (hw : CW h w σ) (w20 : 20 < w) (h0 : σ 0 = nI N) (hN : N ≤ 10) : ∃ h', f_X5_wearDays w h = some (0, h') ∧ CW h' w (itw σ N) ∧ cF w h h' := by
  unfold f_X5_wearDays
  rw [show ∀ k : Option (Int32 × xH), gd 1 3 k = k from fun k => if_neg (by decide), nm_x, cN_1, hw.1.2 1 (by omega)]
  exact C_wearDays_l w20 h0 hN N 0 xN h (by omega) (by unfold xN; omega) hw
/-! sales on a market -/
def slF (σ : Nat → Int32) (d : Nat) : Nat → Int32 := if ofF σ ((bst σ d 6).1).toNatClampNeg d ≤ ofF σ (σ (18 + 6 * d + 4)).toNatClampNeg d then σ else sellF σ d ((bst σ d 6).1).toNatClampNeg (σ (18 + 6 * d + 4)).toNatClampNeg (ofF σ ((bst σ d 6).1).toNatClampNeg d)
theorem slF_eq {σ : Nat → Int32} {d p f : Nat} (ho : σ (18 + 6 * d + 4) = nI f) (hf : f < 6) (hp : p < 6) (hb : (bst σ d 6).1 = nI p) : slF σ d = if ofF σ p d ≤ ofF σ f d then σ else sellF σ d p f (ofF σ p d) := by
  unfold slF
  rw [hb, ho, nI_clamp (by omega), nI_clamp (by omega)]
theorem slF_ne {σ : Nat → Int32} {d j : Nat} (hb : Bnd σ) (hd : d < 10) (hj : j < 3 ∨ j = 5 ∨ (12 ≤ j ∧ j < 18) ∨ 78 ≤ j) : slF σ d j = σ j := by
  obtain ⟨f, hf, ho⟩ := hb.own hd
  obtain ⟨p, hp, hpf, hq⟩ := bst6 ho hf
  rw [slF_eq ho hf hp hq]
  by_cases c : ofF σ p d ≤ ofF σ f d
  · rw [if_pos c]
  · rw [if_neg c]; exact sellF_ne hp hf hd hj
theorem Bnd.sl {σ : Nat → Int32} (hb : Bnd σ) {d : Nat} (hd : d < 10) : Bnd (slF σ d) := by
  obtain ⟨f, hf, ho⟩ := hb.own hd
  obtain ⟨p, hp, hpf, hq⟩ := bst6 ho hf
  rw [slF_eq ho hf hp hq]
  by_cases c : ofF σ p d ≤ ofF σ f d
  · rw [if_pos c]; exact hb
  · rw [if_neg c]
    have h := ofF_rg (d := d) hb hp
    exact hb.sell hp hf h.1 (h.2 (by rw [ho]; exact fun q => hpf ((nI_eq (by omega) (by omega)).mp q).symm))
def its (σ : Nat → Int32) : Nat → Nat → Int32
  | 0 => σ
  | d + 1 => slF (its σ d) d
theorem its_b {σ : Nat → Int32} (hb : Bnd σ) : ∀ d, d ≤ 10 → Bnd (its σ d)
  | 0, _ => hb
  | d + 1, hd => (its_b hb d (by omega)).sl (by omega)
theorem its_ne {σ : Nat → Int32} (hb : Bnd σ) {j : Nat} (hj : j < 3 ∨ j = 5 ∨ (12 ≤ j ∧ j < 18) ∨ 78 ≤ j) : ∀ d, d ≤ 10 → its σ d j = σ j
  | 0, _ => rfl
  | d + 1, hd => by rw [its, slF_ne (its_b hb d (by omega)) (by omega) hj, its_ne hb hj d (by omega)]
theorem C_sellDays_l {w N : Nat} {σ : Nat → Int32} (w20 : 20 < w) (hb : Bnd σ) (h0 : σ 0 = nI N) (hN : N ≤ 10) : ∀ m d f (h : xH), d + m = N → m < f → CW h w (its σ d) → ∃ h', f_X5_sellDays_c2 w f (nI d) h = some (0, h') ∧ CW h' w (its σ N) ∧ cF w h h'
  | m, d, 0, h, _, h2, _ => absurd h2 (Nat.not_lt_zero _)
  | 0, d, f + 1, h, h1, _, hw => by
    have hd : d = N := by omega
    subst hd
    refine ⟨h, ?_, hw, cF.rf⟩
    rw [f_X5_sellDays_c2, hw.1.days, its_ne hb (by omega) d hN, h0, if_pos (nI_le (by omega) (by omega))]
  | m + 1, d, f + 1, h, h1, h2, hw => by
    rw [f_X5_sellDays_c2, hw.1.days, its_ne hb (by omega) d (by omega), h0, if_neg (nI_ge (by omega) (by omega))]
    have ih := fun g => C_sellDays_l w20 hb h0 hN m (d + 1) f g (by omega) (by omega)
    rw [its] at ih
    generalize its σ d = τ at hw ih
    obtain ⟨o, ho1, ho2⟩ := hw.2.2.own (d := d) (by omega)
    obtain ⟨p, hp, hpo, hq⟩ := bst6 ho2 ho1
    obtain ⟨g, e1, e2⟩ := C_valueOf (d := d) hw.1 hw.2.1 hw.2.2 (by omega) w20
    have gc : CW g w τ := hw.keep w20 e2
    rw [e1, bn_s, C_bestBidder gc.1 gc.2.2 (by omega), bn_s, hq, C_bidOf gc.1 gc.2.2 hp (by omega), bn_s, gd_n (by omega) (by omega), nI_clamp (by omega), gc.1.day (k := 4) (by omega) (by omega) (a := w + 5) rfl, ho2, C_bidOf gc.1 gc.2.2 ho1 (by omega), bn_s]
    unfold f_X5_sellDays_c57
    rw [nI_1]
    rw [slF_eq ho2 ho1 hp hq] at ih
    have gF : cF w h g := fun a _ h2 => e2 a h2
    by_cases c : ofF τ p d ≤ ofF τ o d
    · rw [if_pos c]
      rw [if_pos c] at ih
      obtain ⟨h'', i1, i2, i3⟩ := ih g gc
      exact ⟨h'', i1, i2, gF.tr i3⟩
    · rw [if_neg c]
      rw [if_neg c] at ih
      obtain ⟨g', s1, s2, s3⟩ := C_sell (c := ofF τ p d) gc.1 (d := d) (by omega) hp ho1 ho2 hpo
      have hr := ofF_rg (d := d) hw.2.2 hp
      have gc' : CW g' w (sellF τ d p o (ofF τ p d)) := gc.to w20 s2 (hw.2.2.sell hp ho1 hr.1 (hr.2 (by rw [ho2]; exact fun q => hpo ((nI_eq (by omega) (by omega)).mp q).symm))) (fun a h1 _ => s3 a h1) (fun j hj => sellF_ne hp ho1 (by omega) (by omega))
      rw [s1, bn_s]
      obtain ⟨h'', i1, i2, i3⟩ := ih g' gc'
      exact ⟨h'', i1, i2, gF.tr (cF.tr (fun a h1 _ => s3 a h1) i3)⟩
theorem C_sellDays {h : xH} {w N : Nat} {σ : Nat → Int32} (hw : CW h w σ) (w20 : 20 < w) (h0 : σ 0 = nI N) (hN : N ≤ 10) : ∃ h', f_X5_sellDays w h = some (0, h') ∧ CW h' w (its σ N) ∧ cF w h h' :=
  C_sellDays_l w20 hw.2.2 h0 hN N 0 xN h (by omega) (by unfold xN; omega) hw
def gOn (σ : Nat → Int32) : Nat → Int32 := upd (its (itw σ (σ 0).toNatClampNeg) (σ 0).toNatClampNeg) 2 (its (itw σ (σ 0).toNatClampNeg) (σ 0).toNatClampNeg 2 + 1)
theorem itw_b {σ : Nat → Int32} (hb : Bnd σ) : ∀ d, Bnd (itw σ d)
  | 0 => hb
  | d + 1 => (itw_b hb d).wr d
theorem gOn_b {σ : Nat → Int32} (hb : Bnd σ) : Bnd (gOn σ) := by
  obtain ⟨⟨N, hN, h0⟩, -⟩ := id hb
  unfold gOn
  rw [h0, nI_clamp (by omega)]
  exact (its_b (itw_b hb N) N hN).free (by omega)
theorem gOn_ne {σ : Nat → Int32} (hb : Bnd σ) {j : Nat} (hj : j < 2 ∨ (12 ≤ j ∧ j < 18) ∨ 78 ≤ j) (h12 : ¬ (12 ≤ j ∧ j < 18)) : gOn σ j = σ j := by
  obtain ⟨⟨N, hN, h0⟩, -⟩ := id hb
  unfold gOn
  rw [h0, nI_clamp (by omega), pk_un (by omega), its_ne (itw_b hb N) (by omega) N hN, itw_ne (by omega) N hN]
theorem gOn_2 {σ : Nat → Int32} (hb : Bnd σ) : gOn σ 2 = σ 2 + 1 := by
  obtain ⟨⟨N, hN, h0⟩, -⟩ := id hb
  unfold gOn
  rw [h0, nI_clamp (by omega), pk_us, its_ne (itw_b hb N) (by omega) N hN, itw_ne (by omega) N hN]
theorem C_go1 {h : xH} {w n : Nat} {σ : Nat → Int32} {a1 v2 : Int32} (hw : CW h w σ) (w20 : 20 < w) : ∃ h', (bn (f_X5_wearDays w h) fun r1 h2 => bn (f_X5_sellDays w h2) fun r4 h5 => nm (xst h5 w 14 ((h5 w 14) + 1)) fun h7 => f_X5_goOn_c2 w a1 n (v2 + 1) h7) = f_X5_goOn_c2 w a1 n (v2 + 1) h' ∧ CW h' w (gOn σ) ∧ cF w h h' := by
  obtain ⟨⟨N, hN, h0⟩, -⟩ := id hw.2.2
  obtain ⟨h2, e1, e2, e3⟩ := C_wearDays hw w20 h0 hN
  obtain ⟨h5, s1, s2, s3⟩ := C_sellDays e2 w20 ((itw_ne (by omega) N hN).trans h0) hN
  rw [e1, bn_s, s1, bn_s, nm_x, s2.1.market]
  refine ⟨_, rfl, ?_, ?_⟩
  · refine s2.to w20 ?_ (gOn_b hw.2.2) (fun a h1 _ => xst_ne (by omega)) (fun j hj => ?_)
    · unfold gOn
      rw [h0, nI_clamp (by omega)]
      exact s2.1.put (j := 2) (by omega) (by omega) rfl rfl
    · unfold gOn
      rw [h0, nI_clamp (by omega), pk_un (by omega)]
  · exact e3.tr (s3.tr (fun a h1 _ => xst_ne (by omega)))
def gOnN (σ : Nat → Int32) : Nat → Nat → Int32
  | 0 => σ
  | n + 1 => gOn (gOnN σ n)
theorem C_goOn_l {w n : Nat} {σ : Nat → Int32} (w20 : 20 < w) (hn : n < 2 ^ 31) : ∀ m i f (h : xH), i + m = n → m < f → CW h w (gOnN σ i) → ∃ h', f_X5_goOn_c2 w (nI n) f (nI i) h = some (0, h') ∧ CW h' w (gOnN σ n) ∧ cF w h h'
  | m, d, 0, h, _, h2, _ => absurd h2 (Nat.not_lt_zero _)
  | 0, i, f + 1, h, h1, _, hw => by
    have hd : i = n := by omega
    subst hd
    exact ⟨h, by rw [f_X5_goOn_c2, if_pos (nI_le (by omega) (by omega))], hw, cF.rf⟩
  | m + 1, i, f + 1, h, h1, h2, hw => by
    rw [f_X5_goOn_c2, if_neg (nI_ge (by omega) (by omega))]
    obtain ⟨h', e1, e2, e3⟩ := C_go1 (n := f) (a1 := nI n) (v2 := nI i) hw w20
    rw [e1, nI_1]
    obtain ⟨h'', i1, i2, i3⟩ := C_goOn_l w20 hn m (i + 1) f h' (by omega) (by omega) e2
    exact ⟨h'', i1, i2, e3.tr i3⟩
theorem C_goOn {h : xH} {w n : Nat} {σ : Nat → Int32} (hw : CW h w σ) (w20 : 20 < w) (hn : n < 4096) : ∃ h', f_X5_goOn w (nI n) h = some (0, h') ∧ CW h' w (gOnN σ n) ∧ cF w h h' :=
  C_goOn_l w20 (by omega) n 0 xN h (by omega) (by unfold xN; omega) hw
/-! the reference's goesOn -/
def MW (hc h : xH) : Prop := LW hc (h 1) ∧ Bnd (h 1)
def mF (h h' : xH) : Prop := ∀ q, q ≠ 1 → q ≠ 15 → q ≠ 16 → h' q = h q
theorem mF.rf {h : xH} : mF h h := fun _ _ _ _ => rfl
theorem mF.tr {a b c : xH} (h1 : mF a b) (h2 : mF b c) : mF a c := fun q q1 q2 q3 => (h2 q q1 q2 q3).trans (h1 q q1 q2 q3)
theorem LW.s {hc : xH} {σ σ' : Nat → Int32} (h : LW hc σ) (h2 : ∀ j, j = 1 ∨ 78 ≤ j → σ' j = σ j) : LW hc σ' := h.cg (fun _ _ _ => rfl) h2
theorem M_wear_l {hc : xH} {N : Nat} {σ : Nat → Int32} (hl : LW hc σ) (hb : Bnd σ) (h0 : σ 0 = nI N) (hN : N ≤ 10) {ρ : Nat → Int32} {v : Int32} : ∀ m d f (h : xH), d + m = N → m < f → h 1 = itw σ d → (∀ g : xH, g 1 = itw σ N → mF h g → ∃ h', f_X7_goesOn_c52 xN 0 g = some (v, h') ∧ h' 1 = ρ ∧ mF g h') → ∃ h', f_X7_goesOn_c2 f (nI d) h = some (v, h') ∧ h' 1 = ρ ∧ mF h h'
  | m, d, 0, h, _, h2, _, _ => absurd h2 (Nat.not_lt_zero _)
  | 0, d, f + 1, h, h1, _, hs, kk => by
    have hd : d = N := by omega
    subst hd
    rw [f_X7_goesOn_c2, gS_0, cN_0, hs, itw_ne (by omega) d hN, h0, if_pos (nI_le (by omega) (by omega))]
    exact kk h hs mF.rf
  | m + 1, d, f + 1, h, h1, h2, hs, kk => by
    rw [f_X7_goesOn_c2, gS_0, cN_0, hs, itw_ne (by omega) d (by omega), h0, if_neg (nI_ge (by omega) (by omega)), M_drawn, bn_s, M_of (j := 3) (k := 3) rfl (by omega) (by omega), bn_s, xpt_self, pk_un (by omega), hs]
    have hl1 : LW hc (xpt h 1 (upd (itw σ d) 5 (zn (itw σ d 5))) 1) := by
      rw [xpt_self]
      exact hl.s (fun j hj => by rw [pk_un (by omega), itw_ne (by omega) d (by omega)])
    obtain ⟨g, e1, e2⟩ := M_wears (x := rm (drw (zn (itw σ d 5))) 10) (d := d) hl1 (by omega)
    rw [xpt_self] at e1
    rw [show drw (zn (itw σ d 5)) - drw (zn (itw σ d 5)) / 10 * 10 = rm (drw (zn (itw σ d 5))) 10 from rfl, e1, bn_s, M_within, bn_s, M_sets (j := 3) (k := 3) rfl (by omega) (by omega), bn_s, nI_1]
    have g1 : g 1 = upd (itw σ d) 5 (zn (itw σ d 5)) := (e2 1 (by omega) (by omega)).trans xpt_self
    have F1 : mF h (xpt g 1 (upd (g 1) (18 + 6 * d + 3) (clm (itw σ d (18 + 6 * d + 3) + wr1 (upd (itw σ d) 5 (zn (itw σ d 5))) (rm (drw (zn (itw σ d 5))) 10) d) 99))) := fun q q1 q2 q3 => by rw [xpt_ne q1, e2 q q2 q3, xpt_ne q1]
    obtain ⟨h', i1, i2, i3⟩ := M_wear_l (v := v) hl hb h0 hN m (d + 1) f (xpt g 1 (upd (g 1) (18 + 6 * d + 3) (clm (itw σ d (18 + 6 * d + 3) + wr1 (upd (itw σ d) 5 (zn (itw σ d 5))) (rm (drw (zn (itw σ d 5))) 10) d) 99))) (by omega) (by omega) (by rw [xpt_self, g1, itw]; rfl) (fun g' hg1 hg2 => kk g' hg1 (F1.tr hg2))
    exact ⟨h', i1, i2, F1.tr i3⟩
theorem M_sell_l {hc : xH} {N : Nat} {σ : Nat → Int32} (hl : LW hc σ) (hb : Bnd σ) (h0 : σ 0 = nI N) (hN : N ≤ 10) : ∀ m d f (h : xH), d + m = N → m < f → h 1 = its σ d → ∃ h', f_X7_goesOn_c52 f (nI d) h = some (0, h') ∧ h' 1 = upd (its σ N) 2 (its σ N 2 + 1) ∧ mF h h'
  | m, d, 0, h, _, h2, _ => absurd h2 (Nat.not_lt_zero _)
  | 0, d, f + 1, h, h1, _, hs => by
    have hd : d = N := by omega
    subst hd
    refine ⟨xst h 1 2 (its σ d 2 + 1), by rw [f_X7_goesOn_c52, gS_0, cN_0, hs, its_ne hb (by omega) d hN, h0, if_pos (nI_le (by omega) (by omega)), gS_2, gS_2, nm_x, cN_2], by rw [xst_self, hs], fun q q1 _ _ => xst_ne q1⟩
  | m + 1, d, f + 1, h, h1, h2, hs => by
    have hbd := its_b hb d (by omega)
    have hne := fun j hj => its_ne hb (j := j) hj d (by omega)
    have ih := fun g => M_sell_l hl hb h0 hN m (d + 1) f g (by omega) (by omega)
    rw [its] at ih
    rw [f_X7_goesOn_c52, gS_0, cN_0, hs, hne 0 (by omega), h0, if_neg (nI_ge (by omega) (by omega))]
    have hlt : LW hc (its σ d) := hl.s (fun j hj => hne j (by omega))
    generalize its σ d = τ at hs ih hbd hlt
    subst hs
    obtain ⟨o, ho1, ho2⟩ := hbd.own (d := d) (by omega)
    obtain ⟨p, hp, hpo, hq⟩ := bst6 ho2 ho1
    obtain ⟨g1, a1, a2⟩ := M_bidder (d := d) hlt hbd (by omega)
    have G1 := a2 1 (by omega) (by omega)
    obtain ⟨g2, b1, b2⟩ := M_offerOf (hc := hc) (h := g1) (p := p) (d := d) (by rw [G1]; exact hlt) hp (by omega)
    have G2 : g2 1 = h 1 := (b2 1 (by omega) (by omega)).trans G1
    obtain ⟨g3, c1, c2⟩ := M_offerOf (hc := hc) (h := g2) (p := o) (d := d) (by rw [G2]; exact hlt) ho1 (by omega)
    have G3 : g3 1 = h 1 := (c2 1 (by omega) (by omega)).trans G2
    rw [G1] at b1
    rw [G2] at c1
    rw [a1, bn_s, hq, b1, bn_s, M_of (j := 4) (k := 4) rfl (by omega) (by omega), bn_s, G2, ho2, c1, bn_s]
    unfold f_X7_goesOn_c97
    rw [nI_1]
    rw [slF_eq ho2 ho1 hp hq] at ih
    have F : mF h g3 := fun q _ q2 q3 => ((c2 q q2 q3).trans (b2 q q2 q3)).trans (a2 q q2 q3)
    by_cases c : ofF (h 1) p d ≤ ofF (h 1) o d
    · rw [if_pos c]
      rw [if_pos c] at ih
      obtain ⟨h', i1, i2, i3⟩ := ih g3 G3
      exact ⟨h', i1, i2, F.tr i3⟩
    · rw [if_neg c]
      rw [if_neg c] at ih
      rw [M_sells (f := o) (by omega) hp ho1 (by rw [G3]; exact ho2) hpo, bn_s]
      obtain ⟨h', i1, i2, i3⟩ := ih (xpt g3 1 (sellF (g3 1) d p o (ofF (h 1) p d))) (by rw [xpt_self, G3])
      exact ⟨h', i1, i2, F.tr (mF.tr (fun q q1 _ _ => xpt_ne q1) i3)⟩
theorem M_goesOn {hc h : xH} (hm : MW hc h) : ∃ h', f_X7_goesOn h = some (0, h') ∧ h' 1 = gOn (h 1) ∧ mF h h' := by
  obtain ⟨⟨N, hN, h0⟩, -⟩ := id hm.2
  have e : gOn (h 1) = upd (its (itw (h 1) N) N) 2 (its (itw (h 1) N) N 2 + 1) := by
    unfold gOn
    rw [h0, nI_clamp (by omega)]
  rw [e]
  refine M_wear_l hm.1 hm.2 h0 hN N 0 xN h (by omega) (by unfold xN; omega) rfl (fun g hg _ => ?_)
  exact M_sell_l (hm.1.s (fun j hj => itw_ne (by omega) N hN)) (itw_b hm.2 N) ((itw_ne (by omega) N hN).trans h0) hN N 0 xN g (by omega) (by unfold xN; omega) hg
theorem gOnN_b {σ : Nat → Int32} (hb : Bnd σ) : ∀ n, Bnd (gOnN σ n)
  | 0 => hb
  | n + 1 => gOn_b (gOnN_b hb n)
theorem gOnN_ne {σ : Nat → Int32} (hb : Bnd σ) {j : Nat} (hj : j < 2 ∨ 78 ≤ j) : ∀ n, gOnN σ n j = σ j
  | 0 => rfl
  | n + 1 => by rw [gOnN, gOn_ne (gOnN_b hb n) (by omega) (by omega), gOnN_ne hb hj n]
