/-! the class's workOut -/
theorem C_leaf {e a b c : Int32} (h : xH) : f_X0_leaf e a b c h = some (if e = -3 then c else if e = -2 then b else if e = -1 then a else e, h) := by
  unfold f_X0_leaf
  repeat' split
  all_goals rfl
theorem rg_nm3 {v : Int32} {m : Int} (h : rg v m) : ¬ v < -3 ∧ ¬ v = -3 ∧ ¬ v = -2 ∧ ¬ v = -1 := by
  have h0 := h.1
  refine ⟨fun q => ?_, fun q => ?_, fun q => ?_, fun q => ?_⟩
  · rw [Int32.lt_iff_toInt_lt, show (-3 : Int32).toInt = -3 from rfl] at q; omega
  · subst q; exact absurd h0 (by decide)
  · subst q; exact absurd h0 (by decide)
  · subst q; exact absurd h0 (by decide)
theorem sg_neg {c : Int32} (h : isSg c) : -c < -3 ∧ (-c = -33 ↔ c = 33) ∧ -(-c) = c := by
  unfold isSg at h
  rcases h with rfl | rfl | rfl | rfl | rfl | rfl | rfl | rfl | rfl | rfl <;> decide
theorem C_workOut_l {t n : Nat} {key a b c : Int32} {σ : Nat → Int32} (ht : t < 14) (hn : n ≤ 96) {sc : Nat → Int32} (hs : ∀ k, k < n → enc key (stp σ t k) (sc k)) {v : Int32} :
    ∀ m k st f (h : xH), k + m = n → m < f → st.length ≤ k → h 4 t = nI n → h (6 + t) = sc → PS (h 20) st → rf (nfK key a b c) σ t m k st = some [v] → ∃ h', f_X0_workOut_c14 (nI t) a b c f (6 + t) (nI st.length) (nI k) h = some (v, h') ∧ ∀ q, q ≠ 20 → h' q = h q
  | m, k, st, 0, h, _, h2, _, _, _, _, _ => absurd h2 (Nat.not_lt_zero _)
  | 0, k, st, f + 1, h, h1, _, _, hl, hn1, hp, hr => by
    have hst : st = [v] := Option.some.inj hr
    subst hst
    refine ⟨h, ?_, fun _ _ => rfl⟩
    rw [f_X0_workOut_c14, gd_n (by omega) (by omega), nI_clamp (by omega), hl, if_pos (nI_le (by omega) (by omega))]
    rw [show gd (0 : Int32) 96 (some (h 20 (Int32.toNatClampNeg 0), h)) = some (h 20 0, h) from if_neg (by decide)]
    rw [show h 20 0 = v from hp.1]
  | m + 1, k, st, f + 1, h, h1, h2, h3, hl, hn1, hp, hr => by
    obtain ⟨st1, r1, r2⟩ := rf_bind hr
    have hk : k < n := by omega
    rw [f_X0_workOut_c14, gd_n (by omega) (by omega), nI_clamp (by omega), hl, if_neg (nI_ge (by omega) (by omega)), gd_n (by omega) (by omega), nI_clamp (by omega), nm_x, hn1]
    unfold run1 at r1
    have leaf : ∀ u : Int32, u :: st = st1 → ∃ h', (gd (nI st.length) 96 <| nm (xst h 20 (Int32.toNatClampNeg (nI st.length)) u) fun h9 => f_X0_workOut_c150 (f_X0_workOut_c14 (nI t) a b c f) (nI t) a b c (6 + t) (nI st.length + 1) (nI k) h9) = some (v, h') ∧ ∀ q, q ≠ 20 → h' q = h q := by
      intro u hu
      subst hu
      simp only [f_X0_workOut_c150, nm_x, gd_n (show st.length < 96 by omega) (show 96 < 2 ^ 31 by omega), nI_clamp (show st.length < 2 ^ 31 by omega), nI_1]
      obtain ⟨h', e1, e2⟩ := C_workOut_l ht hn hs m (k + 1) (u :: st) f (xst h 20 st.length u) (by omega) (by omega) (by simp only [List.length_cons]; omega) (by rw [xst_ne (by omega)]; exact hl) (by rw [xst_ne (by omega)]; exact hn1) (by rw [xst_self]; exact hp.push) r2
      exact ⟨h', e1, fun q hq => (e2 q hq).trans (xst_ne hq)⟩
    rcases hs k hk with ⟨c1, c2, e⟩ | ⟨c1, e⟩ | ⟨c1, c2, e⟩
    · rw [if_neg (by rw [c1]; decide), if_pos c1] at r1
      have r1 := Option.some.inj r1
      obtain ⟨q1, q2, q3, q4⟩ := rg_nm3 c2
      rw [e, if_neg q1, if_neg (show ¬ (96 : Int32) ≤ nI st.length from nI_ge (b := 96) (by omega) (by omega)), C_leaf, bn_s, if_neg q2, if_neg q3, if_neg q4]
      exact leaf _ r1
    · rw [if_neg (by rw [c1]; decide), if_neg (by rw [c1]; decide)] at r1
      have r1 := Option.some.inj r1
      obtain ⟨-, -, q⟩ := nmk_ch e
      have hnf : nfK key a b c (stp σ t k).2 = lfv (sc k) a b c := by unfold nfK; rw [e]
      rw [hnf] at r1
      have q1 : ¬ sc k < -3 := by rcases q with q | q | q <;> rw [q] <;> decide
      rw [if_neg q1, if_neg (show ¬ (96 : Int32) ≤ nI st.length from nI_ge (b := 96) (by omega) (by omega)), C_leaf, bn_s]
      have q2 : (if sc k = -3 then c else if sc k = -2 then b else if sc k = -1 then a else sc k) = lfv (sc k) a b c := by
        unfold lfv
        rcases q with q | q | q <;> rw [q] <;> rfl
      rw [q2]
      exact leaf _ r1
    · obtain ⟨q1, q2, q3⟩ := sg_neg c2
      rw [if_pos c1] at r1
      rw [e, if_pos q1]
      by_cases c4 : (stp σ t k).2 = 33
      · rw [if_pos c4] at r1
        rw [if_pos (q2.mpr c4)]
        match st, h3, hp, r1 with
        | x :: r, h3, hp, r1 =>
          have r1 := Option.some.inj r1
          subst r1
          simp only [List.length_cons] at h3 ⊢
          rw [if_neg (show ¬ nI (r.length + 1) < 1 from nI_nlt (b := 1) (by omega) (by omega)), nI_pred, gd_n (by omega) (by omega), nI_clamp (by omega), hp.1]
          have go : ∀ u : Int32, u = (if x = 0 then 1 else 0) → ∃ h', f_X0_workOut_c106 (f_X0_workOut_c14 (nI t) a b c f) (nI t) a b c (6 + t) (nI (r.length + 1)) (nI k) u (nI r.length) h = some (v, h') ∧ ∀ q, q ≠ 20 → h' q = h q := by
            intro u hu
            simp only [f_X0_workOut_c106, f_X0_workOut_c150, nm_x, gd_n (show r.length < 96 by omega) (show 96 < 2 ^ 31 by omega), nI_clamp (show r.length < 2 ^ 31 by omega), nI_1]
            obtain ⟨h', e1, e2⟩ := C_workOut_l ht hn hs m (k + 1) ((if x = 0 then 1 else 0) :: r) f (xst h 20 r.length u) (by omega) (by omega) (by simp only [List.length_cons]; omega) (by rw [xst_ne (by omega)]; exact hl) (by rw [xst_ne (by omega)]; exact hn1) (by rw [xst_self, ← hu]; exact hp.2.push) r2
            exact ⟨h', e1, fun q hq => (e2 q hq).trans (xst_ne hq)⟩
          by_cases c3 : x = 0
          · rw [if_pos c3]; exact go 1 (by rw [if_pos c3])
          · rw [if_neg c3]; exact go 0 (by rw [if_neg c3])
      · rw [if_neg c4] at r1
        rw [if_neg (fun z => c4 (q2.mp z))]
        match st, h3, hp, r1 with
        | y :: x :: r, h3, hp, r1 =>
          have r1 := Option.some.inj r1
          subst r1
          simp only [List.length_cons] at h3 ⊢
          rw [if_neg (show ¬ nI (r.length + 1 + 1) < 2 from nI_nlt (b := 2) (by omega) (by omega)), nI_m1, nI_pred, gd_n (by omega) (by omega), gd_n (by omega) (by omega), nI_clamp (by omega), nI_clamp (by omega), hp.2.1, show h 20 (r.length + 1) = y from hp.1, C_join, q3, bn_s, gd_n (by omega) (by omega), nm_x]
          unfold f_X0_workOut_c150
          rw [nI_1]
          obtain ⟨h', e1, e2⟩ := C_workOut_l ht hn hs m (k + 1) (jn (stp σ t k).2 x y :: r) f (xst h 20 r.length (jn (stp σ t k).2 x y)) (by omega) (by omega) (by simp only [List.length_cons]; omega) (by rw [xst_ne (by omega)]; exact hl) (by rw [xst_ne (by omega)]; exact hn1) (by rw [xst_self]; exact hp.2.2.push) r2
          exact ⟨h', e1, fun q hq => (e2 q hq).trans (xst_ne hq)⟩
theorem ev_rf {hc : xH} {σ : Nat → Int32} {t : Nat} (hx : TX hc σ t) (a b c : Int32) : ∃ n, n ≤ 96 ∧ σ (80 + 200 * t) = nI n ∧ rf (nfK (σ (78 + 200 * t)) a b c) σ t n 0 [] = some [evF σ t a b c] ∧ ∀ k, k < n → enc (σ (78 + 200 * t)) (stp σ t k) (hc (6 + t) k) := by
  obtain ⟨-, -, -, -, n, hn, e, hw, he⟩ := hx
  obtain ⟨v, hv⟩ := hw (nfK (σ (78 + 200 * t)) a b c) []
  refine ⟨n, hn, e, ?_, he⟩
  have : evF σ t a b c = v := by
    unfold evF
    rw [e, nI_clamp (by omega), hv]
  rw [this, ← rf_prog, hv]
theorem C_workOut {h : xH} {σ : Nat → Int32} {t : Nat} (hx : TX h σ t) (ht : t < 14) (a b c : Int32) : ∃ h', f_X0_workOut (nI t) a b c h = some (evF σ t a b c, h') ∧ ∀ q, q ≠ 20 → h' q = h q := by
  obtain ⟨n, hn, e, hr, he⟩ := ev_rf hx a b c
  unfold f_X0_workOut
  rw [gd_n (by omega) (by omega), nI_clamp (by omega)]
  exact C_workOut_l ht hn he n 0 [] xN h (by omega) (by unfold xN; omega) (Nat.le_refl _) (hx.2.2.2.1.trans e) rfl trivial hr
theorem M_worked {hc h : xH} {t : Nat} (hx : TX hc (h 1) t) (ht : t < 14) (a b c : Int32) (hn15 : ∀ ch e, nmk (h 1 (78 + 200 * t)) ch = some e → h 15 ch.toNatClampNeg = lfv e a b c) : ∃ h', f_X7_worked (nI t) h = some (evF (h 1) t a b c, h') ∧ ∀ q, q ≠ 16 → h' q = h q := by
  obtain ⟨n, hn, e, hr, he⟩ := ev_rf hx a b c
  unfold f_X7_worked
  refine M_worked_l (nmd := h 15) ht hn e (fun k hk c1 c2 => ?_) n 0 [] xN h (by omega) (by unfold xN; omega) (Nat.le_refl _) rfl rfl trivial hr
  rcases he k hk with ⟨q, -⟩ | ⟨-, q⟩ | ⟨q, -⟩
  · exact absurd q c2
  · obtain ⟨q1, q2, -⟩ := nmk_ch q
    refine ⟨q1, q2, ?_⟩
    rw [hn15 _ _ q]
    unfold nfK
    rw [q]
  · exact absurd q c1
/-! which text counts -/
theorem M_counts_l {h : xH} {k : Int32} {N : Nat} (h1 : h 1 1 = nI N) (hN : N ≤ 14) : ∀ m t f, t + m = N → m < f → f_X7_counts_c4 k f (cntN (h 1) k t) (nI t) h = some (cntN (h 1) k N, h)
  | m, t, 0, _, h2 => absurd h2 (Nat.not_lt_zero _)
  | 0, t, f + 1, hm, _ => by
    rw [f_X7_counts_c4, gS_1, cN_1, h1, if_pos (nI_le (by omega) (by omega)), show t = N by omega]
  | m + 1, t, f + 1, hm, h2 => by
    have ih := M_counts_l (k := k) h1 hN m (t + 1) f (by omega) (by omega)
    rw [f_X7_counts_c4, gS_1, cN_1, h1, if_neg (nI_ge (by omega) (by omega)), M_textAt, bn_s, gd_n (by omega) (by omega), nI_clamp (by omega)]
    unfold f_X7_counts_c33
    rw [nI_1]
    rw [cntN] at ih
    by_cases c : h 1 (78 + 200 * t) = k
    · rw [if_pos c] at ih ⊢; exact ih
    · rw [if_neg c] at ih ⊢; exact ih
theorem M_counts {hc h : xH} (hl : LW hc (h 1)) (k : Int32) : f_X7_counts k h = some (cnt (h 1) k, h) := by
  obtain ⟨h1, h2⟩ := hl.le
  unfold f_X7_counts cnt
  rw [show (h 1 1).toNatClampNeg = txN (h 1) from rfl]
  exact M_counts_l h2 h1 (txN (h 1)) 0 xN (by omega) (by unfold xN; omega)
theorem cntN_in {σ : Nat → Int32} {k : Int32} : ∀ n, n ≤ 14 → (cntN σ k n = -1 ∨ ∃ t, t < n ∧ cntN σ k n = nI t ∧ σ (78 + 200 * t) = k)
  | 0, _ => Or.inl rfl
  | n + 1, hn => by
    rw [cntN]
    by_cases c : σ (78 + 200 * n) = k
    · rw [if_pos c]; exact Or.inr ⟨n, by omega, rfl, c⟩
    · rw [if_neg c]
      rcases cntN_in (σ := σ) (k := k) n (by omega) with q | ⟨t, q1, q2, q3⟩
      · exact Or.inl q
      · exact Or.inr ⟨t, by omega, q2, q3⟩
theorem cnt_in {hc : xH} {σ : Nat → Int32} (hl : LW hc σ) (k : Int32) : (cnt σ k = -1) ∨ ∃ t, t < 14 ∧ cnt σ k = nI t ∧ σ (78 + 200 * t) = k ∧ TX hc σ t := by
  have h1 := hl.le.1
  rcases cntN_in (σ := σ) (k := k) (txN σ) h1 with q | ⟨t, q1, q2, q3⟩
  · exact Or.inl q
  · exact Or.inr ⟨t, by omega, q2, q3, hl.2 t q1⟩
/-! price and value -/
def clm (v m : Int32) : Int32 := if 0 ≤ v then (if v ≤ m then v else m) else 0
theorem M_within (v m : Int32) (h : xH) : f_X7_within v m h = some (clm v m, h) := by
  unfold f_X7_within clm
  by_cases c : 0 ≤ v
  · rw [if_pos c, if_pos c]
    by_cases c2 : v ≤ m
    · rw [if_pos c2, if_pos c2]
    · rw [if_neg c2, if_neg c2]
  · rw [if_neg c, if_neg c]
theorem C_held (v : Int32) {m : Int32} (hm : 0 ≤ m) (h : xH) : f_X6_held v 0 m h = some (clm v m, h) := by
  simp only [f_X6_held, nm_x]
  unfold clm
  congr 2
  have hm' : 0 ≤ m.toInt := by rw [Int32.le_iff_toInt_le] at hm; exact hm
  by_cases c2 : v < m
  · rw [if_pos c2]
    by_cases c : 0 < v
    · rw [if_pos c, if_pos (Int32.le_of_lt c), if_pos (Int32.le_of_lt c2)]
    · rw [if_neg c]
      by_cases c3 : 0 ≤ v
      · rw [if_pos c3, if_pos (Int32.le_of_lt c2)]
        exact Int32.le_antisymm c3 (Int32.not_lt.mp c)
      · rw [if_neg c3]
  · rw [if_neg c2]
    have c2' := Int32.not_lt.mp c2
    have c3 : 0 ≤ v := Int32.le_trans hm c2'
    rw [if_pos c3]
    by_cases c4 : v ≤ m
    · have : v = m := Int32.le_antisymm c4 c2'
      subst this
      rw [if_pos c4]
      by_cases c : 0 < v
      · rw [if_pos c]
      · rw [if_neg c]; exact Int32.le_antisymm hm (Int32.not_lt.mp c)
    · rw [if_neg c4]
      by_cases c : 0 < m
      · rw [if_pos c]
      · rw [if_neg c]; exact Int32.le_antisymm hm (Int32.not_lt.mp c)
def prF (σ : Nat → Int32) (d : Nat) (tone : Int32) : Int32 := if 0 ≤ cnt σ 0 then clm (evF σ (cnt σ 0).toNatClampNeg tone (σ (18 + 6 * d + 3)) (σ (18 + 6 * d + 1))) 999 else clm (10 * tone - σ (18 + 6 * d + 3)) 999
theorem clm_rg (v : Int32) {m : Int32} {M : Int} (hm : m.toInt = M) (h0 : 0 ≤ M) : rg (clm v m) M := by
  unfold clm
  by_cases c : 0 ≤ v
  · rw [if_pos c]
    rw [Int32.le_iff_toInt_le] at c
    by_cases c2 : v ≤ m
    · rw [if_pos c2]
      rw [Int32.le_iff_toInt_le, hm] at c2
      exact ⟨c, c2⟩
    · rw [if_neg c2]
      exact ⟨by omega, by omega⟩
  · rw [if_neg c]
    exact ⟨by decide, by show (0 : Int) ≤ M; exact h0⟩
theorem mul10 {tone w : Int32} (ht : rg tone 9) (hw : rg w 99) : (10 * tone - w).toInt = 10 * tone.toInt - w.toInt := by
  obtain ⟨t, h1, h2, rfl⟩ := rg_nI ht
  obtain ⟨u, h3, h4, rfl⟩ := rg_nI hw
  rw [show (10 : Int32) = nI 10 from rfl, nI_mul, Int32.toInt_sub, nI_toInt (by omega), nI_toInt h2, nI_toInt h4]
  rw [Int.bmod_eq_of_le (by omega) (by omega)]
  omega
theorem C_priceOf {h : xH} {w : Nat} {σ : Nat → Int32} {d : Nat} {tone : Int32} (hw : WR h w σ) (hl : LW h σ) (hb : Bnd σ) (hd : d < 10) (ht : rg tone 9) : ∃ h', f_X5_priceOf w (nI d) tone h = some (prF σ d tone, h') ∧ ∀ q, q ≠ 20 → h' q = h q := by
  have h9 : h (w + 9) 0 = cnt σ 0 := hw.2 0 (by omega)
  unfold f_X5_priceOf prF
  rw [show ∀ k : Option (Int32 × xH), gd 0 3 k = k from fun k => if_neg (by decide), nm_x, cN_0, h9]
  rcases cnt_in hl 0 with q | ⟨t, q1, q2, q3, q4⟩
  · rw [q, if_neg (show ¬ (0 : Int32) ≤ -1 by decide), if_neg (show ¬ (0 : Int32) ≤ -1 by decide), gd_n (by omega) (by omega), nI_clamp (by omega), nm_x, hw.day (k := 3) hd (by omega) (a := w + 4) rfl]
    refine ⟨h, ?_, fun _ _ => rfl⟩
    congr 2
    unfold clm
    have e := mul10 ht (hb.dd (d := d) (k := 3) hd (by omega))
    have w1 := (hb.dd (d := d) (k := 3) hd (by omega)).1
    have t2 := ht.2
    have hle : 10 * tone - σ (18 + 6 * d + 3) ≤ 999 := by
      rw [Int32.le_iff_toInt_le, e, show (999 : Int32).toInt = 999 from rfl]; omega
    rw [if_pos hle]
    by_cases c : 0 < 10 * tone - σ (18 + 6 * d + 3)
    · rw [if_pos c, if_pos (Int32.le_of_lt c)]
    · rw [if_neg c]
      by_cases c2 : 0 ≤ 10 * tone - σ (18 + 6 * d + 3)
      · rw [if_pos c2]; exact Int32.le_antisymm c2 (Int32.not_lt.mp c)
      · rw [if_neg c2]
  · rw [q2, if_pos (nI_pos' (by omega)), if_pos (nI_pos' (by omega)), gd_n (by omega) (by omega), gd_n (by omega) (by omega), nI_clamp (by omega), nI_clamp (by omega), hw.day (k := 3) hd (by omega) (a := w + 4) rfl, hw.day (k := 1) hd (by omega) (a := w + 2) rfl]
    obtain ⟨h', e1, e2⟩ := C_workOut q4 q1 tone (σ (18 + 6 * d + 3)) (σ (18 + 6 * d + 1))
    rw [e1, bn_s, C_held _ (by decide), bn_s]
    exact ⟨h', rfl, e2⟩
theorem g128 {ρ : Type} {k : Option ρ} {i : Int32} (h : i = 116 ∨ i = 119 ∨ i = 100 ∨ i = 120 ∨ i = 99 ∨ i = 110) : gd i 128 k = k := by
  rcases h with rfl | rfl | rfl | rfl | rfl | rfl <;> exact if_neg (by decide)
theorem M_priceBy {hc h : xH} {d : Nat} {tone : Int32} (hl : LW hc (h 1)) (hd : d < 10) : ∃ h', f_X7_priceBy (nI d) tone h = some (prF (h 1) d tone, h') ∧ ∀ q, q ≠ 15 → q ≠ 16 → h' q = h q := by
  unfold f_X7_priceBy prF
  rw [M_counts hl, bn_s]
  rcases cnt_in hl 0 with q | ⟨t, q1, q2, q3, q4⟩
  · rw [q, if_neg (show ¬ (0 : Int32) ≤ -1 by decide), if_neg (show ¬ (0 : Int32) ≤ -1 by decide), M_of (j := 3) (k := 3) rfl hd (by omega), bn_s, M_within, bn_s]
    exact ⟨h, rfl, fun _ _ _ => rfl⟩
  · rw [q2, if_pos (nI_pos' (by omega)), if_pos (nI_pos' (by omega)), g128 (by simp), nm_x, M_of (j := 3) (k := 3) rfl hd (by omega), bn_s, g128 (by simp), nm_x, M_of (j := 1) (k := 1) rfl hd (by omega), bn_s, g128 (by simp), nm_x, nI_clamp (by omega)]
    rw [show Int32.toNatClampNeg 116 = 116 from rfl, show Int32.toNatClampNeg 119 = 119 from rfl, show Int32.toNatClampNeg 100 = 100 from rfl]
    simp only [xst_ne (show (1 : Nat) ≠ 15 by omega)]
    generalize hg : xst (xst (xst h 15 116 tone) 15 119 (h 1 (18 + 6 * d + 3))) 15 100 (h 1 (18 + 6 * d + 1)) = g
    have g1 : g 1 = h 1 := by rw [← hg, xst_ne (by omega), xst_ne (by omega), xst_ne (by omega)]
    have g15 : g 15 = upd (upd (upd (h 15) 116 tone) 119 (h 1 (18 + 6 * d + 3))) 100 (h 1 (18 + 6 * d + 1)) := by rw [← hg, xst_self, xst_self, xst_self]
    obtain ⟨h', e1, e2⟩ := M_worked (hc := hc) (h := g) (by rw [g1]; exact q4) q1 tone (h 1 (18 + 6 * d + 3)) (h 1 (18 + 6 * d + 1)) (by
      intro ch e he
      rw [g1, q3] at he
      rw [g15]
      unfold nmk at he
      rw [if_pos rfl] at he
      repeat' split at he
      all_goals first
        | (cases he; done)
        | (cases he; subst_vars; rfl))
    rw [e1, bn_s, M_within, bn_s, g1]
    refine ⟨h', rfl, fun q hq1 hq2 => (e2 q hq2).trans ?_⟩
    rw [← hg, xst_ne hq1, xst_ne hq1, xst_ne hq1]
def vlF (σ : Nat → Int32) (d : Nat) : Int32 := if σ (18 + 6 * d) = 1 then prF σ d (σ (18 + 6 * d + 2)) + 20 else if σ (18 + 6 * d) = 2 then prF σ d (9 - σ (18 + 6 * d + 2)) else if σ (18 + 6 * d) = 3 then (prF σ d (σ (18 + 6 * d + 2)) + 20) / 2 else if σ (18 + 6 * d) = 4 then clm (prF σ d (9 - σ (18 + 6 * d + 2)) - σ (18 + 6 * d + 3)) 999 else if σ (18 + 6 * d) = 5 then 5 else prF σ d (σ (18 + 6 * d + 2))
theorem prF_rg (σ : Nat → Int32) (d : Nat) (t : Int32) : rg (prF σ d t) 999 := by
  unfold prF
  by_cases c : 0 ≤ cnt σ 0
  · rw [if_pos c]; exact clm_rg _ rfl (by omega)
  · rw [if_neg c]; exact clm_rg _ rfl (by omega)
theorem rg_9m {t : Int32} (h : rg t 9) : rg (9 - t) 9 := by
  have := sub_toInt (a := 9) (b := t) (m := 9) (k := 9) ⟨by decide, by decide⟩ h (by omega) (by omega)
  rw [show (9 : Int32).toInt = 9 from rfl] at this
  have h1 := h.1; have h2 := h.2
  exact ⟨by omega, by omega⟩
theorem C_valueOf {h : xH} {w : Nat} {σ : Nat → Int32} {d : Nat} (hw : WR h w σ) (hl : LW h σ) (hb : Bnd σ) (hd : d < 10) (hw2 : 20 < w) : ∃ h', f_X5_valueOf w (nI d) h = some (vlF σ d, h') ∧ ∀ q, q ≠ 20 → h' q = h q := by
  have hk : h (w + 1) d = σ (18 + 6 * d) := hw.day (k := 0) hd (by omega) (a := w + 1) rfl
  have ht : h (w + 3) d = σ (18 + 6 * d + 2) := hw.day (k := 2) hd (by omega) (a := w + 3) rfl
  have htr : rg (σ (18 + 6 * d + 2)) 9 := hb.dd (d := d) (k := 2) hd (by omega)
  unfold f_X5_valueOf vlF
  simp only [gd_n hd (show 10 < 2 ^ 31 by omega), nI_clamp (show d < 2 ^ 31 by omega), hk, ht]
  obtain ⟨h1, e1, e2⟩ := C_priceOf hw hl hb hd htr
  obtain ⟨h2, e3, e4⟩ := C_priceOf hw hl hb hd (rg_9m htr)
  rw [e1, e3, bn_s, bn_s, bn_s, bn_s, bn_s]
  by_cases c1 : σ (18 + 6 * d) = 1
  · rw [if_pos c1, if_pos c1]; exact ⟨h1, rfl, e2⟩
  rw [if_neg c1, if_neg c1]
  by_cases c2 : σ (18 + 6 * d) = 2
  · rw [if_pos c2, if_pos c2]; exact ⟨h2, rfl, e4⟩
  rw [if_neg c2, if_neg c2]
  by_cases c3 : σ (18 + 6 * d) = 3
  · rw [if_pos c3, if_pos c3]; exact ⟨h1, rfl, e2⟩
  rw [if_neg c3, if_neg c3]
  by_cases c4 : σ (18 + 6 * d) = 4
  · rw [if_pos c4, if_pos c4, nm_x, e4 (w + 4) (by omega), hw.day (k := 3) hd (by omega) (a := w + 4) rfl]
    refine ⟨h2, ?_, e4⟩
    congr 2
    have r1 := prF_rg σ d (9 - σ (18 + 6 * d + 2))
    have r2 : rg (σ (18 + 6 * d + 3)) 99 := hb.dd (d := d) (k := 3) hd (by omega)
    have e := sub_toInt r1 r2 (by omega) (by omega)
    have r3 := r1.2; have r4 := r2.1
    unfold clm
    have hle : prF σ d (9 - σ (18 + 6 * d + 2)) - σ (18 + 6 * d + 3) ≤ 999 := by
      rw [Int32.le_iff_toInt_le, e, show (999 : Int32).toInt = 999 from rfl]; omega
    rw [if_pos hle]
    by_cases c : 0 < prF σ d (9 - σ (18 + 6 * d + 2)) - σ (18 + 6 * d + 3)
    · rw [if_pos c, if_pos (Int32.le_of_lt c)]
    · rw [if_neg c]
      by_cases c2 : 0 ≤ prF σ d (9 - σ (18 + 6 * d + 2)) - σ (18 + 6 * d + 3)
      · rw [if_pos c2]; exact Int32.le_antisymm c2 (Int32.not_lt.mp c)
      · rw [if_neg c2]
  rw [if_neg c4, if_neg c4]
  by_cases c5 : σ (18 + 6 * d) = 5
  · rw [if_pos c5, if_pos c5]; exact ⟨h, rfl, fun _ _ => rfl⟩
  · rw [if_neg c5, if_neg c5]; exact ⟨h1, rfl, e2⟩
theorem M_valueOf {hc h : xH} {d : Nat} (hl : LW hc (h 1)) (hd : d < 10) : ∃ h', f_X7_valueOf (nI d) h = some (vlF (h 1) d, h') ∧ ∀ q, q ≠ 15 → q ≠ 16 → h' q = h q := by
  unfold f_X7_valueOf vlF
  rw [M_of (j := 2) (k := 2) rfl hd (by omega), bn_s, M_of (j := 0) (k := 0) rfl hd (by omega), bn_s, show 18 + 6 * d + 0 = 18 + 6 * d from rfl]
  obtain ⟨h1, e1, e2⟩ := M_priceBy (tone := h 1 (18 + 6 * d + 2)) hl hd
  obtain ⟨h2, e3, e4⟩ := M_priceBy (tone := 9 - h 1 (18 + 6 * d + 2)) hl hd
  rw [e1, e3, bn_s, bn_s, bn_s, bn_s, bn_s]
  by_cases c1 : h 1 (18 + 6 * d) = 1
  · rw [if_pos c1, if_pos c1]; exact ⟨h1, rfl, e2⟩
  rw [if_neg c1, if_neg c1]
  by_cases c2 : h 1 (18 + 6 * d) = 2
  · rw [if_pos c2, if_pos c2]; exact ⟨h2, rfl, e4⟩
  rw [if_neg c2, if_neg c2]
  by_cases c3 : h 1 (18 + 6 * d) = 3
  · rw [if_pos c3, if_pos c3]; exact ⟨h1, rfl, e2⟩
  rw [if_neg c3, if_neg c3]
  by_cases c4 : h 1 (18 + 6 * d) = 4
  · rw [if_pos c4, if_pos c4, M_of (j := 3) (k := 3) rfl hd (by omega), bn_s, M_within, bn_s, e4 1 (by omega) (by omega)]
    exact ⟨h2, rfl, e4⟩
  rw [if_neg c4, if_neg c4]
  by_cases c5 : h 1 (18 + 6 * d) = 5
  · rw [if_pos c5, if_pos c5]; exact ⟨h, rfl, fun _ _ _ => rfl⟩
  · rw [if_neg c5, if_neg c5]; exact ⟨h1, rfl, e2⟩
