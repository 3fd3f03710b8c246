/-! what a slot is asked, what a text is -/
theorem of_fst (a b : Int32) (h h' : xH) : (f_X7_isOf a b h).map Prod.fst = (f_X7_isOf a b h').map Prod.fst := by
  unfold f_X7_isOf f_X7_isOf_c19
  repeat' split
  all_goals rfl
theorem S_ask_ok {κ : Nat} (hκ : κ < 64) : S_ask (Rk κ) (Rk (κ + 1)) := by
  intro a1 a2 hc hm hR
  refine Sm.k hκ hR ?_
  have hR := hR.1
  simp only [f_X6_ask, f_X7_ask, C_isSlot, M_isSlot, C_isKind, M_0_5, bn_s, b01]
  refine Sm.ite (fun c1 => Sm.ite (fun c2 => ?_) (fun _ => .ret hR)) (fun _ => .ret hR)
  obtain ⟨k, hk, rfl⟩ := in_nI (n := 4) (M := 4) rfl c1
  obtain ⟨j, hj, rfl⟩ := in_nI (n := 5) (M := 5) rfl c2
  obtain ⟨r1, r2, r3, -, -⟩ := hR.2.2.2.2.1 k (by omega)
  simp only [gd_n (show k < 5 by omega) (show 5 < 2 ^ 31 by omega), nI_clamp (show k < 2 ^ 31 by omega), r1]
  refine Sm.ite (fun _ => .ret hR) (fun _ => Sm.ite (fun c => ?_) (fun _ => .ret hR))
  obtain ⟨s1, s2, s3⟩ := r3 c
  obtain ⟨t, ht, ht2, e⟩ := rg_nI s2
  have ht : (t : Int) ≤ 5 := ht
  rw [s1, e, under_eq t (by omega) j (by omega)]
  obtain ⟨P, hP, e1⟩ := M_isOf (nI t) (nI j) hc
  obtain ⟨P', hP', e2⟩ := M_isOf (nI t) (nI j) hm
  have h2 := of_fst (nI t) (nI j) hc hm
  rw [e1, e2] at h2
  have hPP : (if P then (1 : Int32) else 0) = if P' then 1 else 0 := Option.some.inj h2
  rw [e1, e2, bn_s, bn_s, hPP, b01, b01, C_worthOf, bn_s, s3]
  exact Sm.ite (fun _ => .ret hR) (fun _ => .ret hR)
theorem tx_in {a : Int32} {n : Nat} (hn : n ≤ 14) (h : 0 ≤ a ∧ a ≤ nI n - 1) : ∃ d, d < n ∧ a = nI d := pl_in (by omega) h
theorem S_textTold_ok {κ : Nat} (hκ : κ < 64) : S_textTold (Rk κ) (Rk (κ + 1)) := by
  intro a1 a2 hc hm hR
  refine Sm.k hκ hR ?_
  have hR := hR.1
  obtain ⟨l1, l2⟩ := hR.1.2.2.2.le
  simp only [f_X6_textTold, f_X7_textTold, f_X7_textAt, C_within, M_isText, M_0_1, bn_s, b01, hR.1.1.texts]
  refine Sm.ite (fun c1 => ?_) (fun _ => .ret hR)
  rw [l2] at c1
  obtain ⟨t, ht, rfl⟩ := tx_in l1 c1
  obtain ⟨-, x1, x2, -⟩ := hR.1.2.2.2.2 t ht
  rw [gd_n (by omega) (by omega), gd_n (by omega) (by omega), nI_clamp (by omega), x1, x2]
  have ix : ∀ q : Nat, 78 + 200 * nI t + nI q = nI (78 + 200 * t + q) := fun q => by rw [show (78 : Int32) = nI 78 from rfl, show (200 : Int32) = nI 200 from rfl, nI_mul, nI_add, nI_add]
  by_cases c2 : 0 ≤ a2 ∧ a2 ≤ 1
  · rw [if_pos c2]
    obtain ⟨j, hj, rfl⟩ := in_nI (n := 1) (M := 1) rfl c2
    rw [ix j, gd_n (by omega) (by omega), nI_clamp (by omega)]
    match j, hj with
    | 0, _ =>
      rw [if_pos (show nI 0 = 0 from rfl)]
      exact .ret hR
    | 1, _ =>
      rw [if_neg (show ¬ nI 1 = 0 by decide), if_pos (show nI 1 = 1 from rfl), show 78 + 200 * t + 1 = 79 + 200 * t by omega]
      exact .ret hR
  · rw [if_neg c2, if_neg (fun q => c2 (by subst q; decide)), if_neg (fun q => c2 (by subst q; decide))]
    exact .ret hR
/-! sheets -/
theorem Rl.row {hc hc' hm hm' : xH} (hR : Rl hc hm) {k : Nat} (hk : k < 4) {s n : Int32} (hs : s = -1 ∨ s = 0 ∨ s = 1) (hn : rg n 24) {F : Nat → Int32} (hF : ∀ i, i < 24 → vok (F i)) (c0 : ∀ q, q ≠ 60 + 2 * k → q ≠ 61 + 2 * k → hc' q = hc q) (c1 : hc' (60 + 2 * k) 1 = s) (c2 : hc' (60 + 2 * k) 2 = n) (c3 : ∀ i, i < 24 → hc' (61 + 2 * k) i = F i) (m0 : ∀ q, q ≠ 4 → q ≠ 5 → q ≠ 6 → hm' q = hm q) (m1 : ∀ j, hm' 4 j = upd (hm 4) k s j) (m2 : ∀ j, hm' 5 j = upd (hm 5) k n j) (m3 : ∀ i, i < 24 → hm' 6 (24 * k + i) = F i) (m4 : ∀ j, ¬ (24 * k ≤ j ∧ j < 24 * k + 24) → hm' 6 j = hm 6 j) : Rl hc' hm' := by
  obtain ⟨a, b, c, d, e, f⟩ := hR
  refine ⟨a.cg (fun q hq => c0 q (by omega) (by omega)) (m0 1 (by omega) (by omega) (by omega)), b.cg (by rw [c0 0 (by omega) (by omega)]) (fun q hq => c0 q (by omega) (by omega)) (by rw [m0 0 (by omega) (by omega) (by omega)]) (m0 2 (by omega) (by omega) (by omega)) (by rw [m0 1 (by omega) (by omega) (by omega)]; exact Nat.le_refl _), c.cg (by rw [c0 21 (by omega) (by omega)]) (c0 22 (by omega) (by omega)) (by rw [m0 0 (by omega) (by omega) (by omega)]) (m0 14 (by omega) (by omega) (by omega)), ?_, e.cg (fun q q1 q2 => c0 q (by omega) (by omega)) (m0 7 (by omega) (by omega) (by omega)) (m0 8 (by omega) (by omega) (by omega)) (m0 9 (by omega) (by omega) (by omega)) (m0 10 (by omega) (by omega) (by omega)) (m0 11 (by omega) (by omega) (by omega)), f.cg (by rw [c0 0 (by omega) (by omega)]) (c0 84 (by omega) (by omega)) (by rw [m0 0 (by omega) (by omega) (by omega)]) (m0 18 (by omega) (by omega) (by omega))⟩
  refine ⟨fun j hj => ?_, fun j hj => ?_⟩
  rotate_left
  · by_cases q : 24 * k ≤ j ∧ j < 24 * k + 24
    · have := m3 (j - 24 * k) (by omega)
      rw [show 24 * k + (j - 24 * k) = j by omega] at this
      rw [this]; exact hF _ (by omega)
    · rw [m4 j q]; exact d.2 j hj
  by_cases q : j = k
  · subst q
    rw [c1, c2, m1, m2, pk_us, pk_us]
    exact ⟨rfl, rfl, hs, hn, fun i hi => by rw [c3 i hi, m3 i hi]⟩
  · obtain ⟨d1, d2, d3, d4, d5⟩ := d.1 j hj
    rw [c0 _ (by omega) (by omega), c0 _ (by omega) (by omega), m1, m2, pk_un q, pk_un q]
    exact ⟨d1, d2, d3, d4, fun i hi => by rw [m4 _ (by omega)]; exact d5 i hi⟩
/-- one place of a sheet is set -/
theorem Rl.mrk {hc hm : xH} (hR : Rl hc hm) {k d : Nat} (hk : k < 4) (hd : d < 24) {v : Int32} (hv : vok v) : Rl (xst hc (61 + 2 * k) d v) (xst hm 6 (24 * k + d) v) := by
  obtain ⟨d1, d2, d3, d4, d5⟩ := hR.2.2.2.1.1 k hk
  refine hR.row hk d3 d4 (F := upd (hc (61 + 2 * k)) d v) (fun i hi => ?_) (fun q _ q2 => xst_ne q2) (by rw [xst_ne (by omega)]; exact d1) (by rw [xst_ne (by omega)]; exact d2) (fun i _ => by rw [xst_self]) (fun q _ _ q3 => xst_ne q3) (fun j => ?_) (fun j => ?_) (fun i hi => ?_) (fun j hj => by rw [xst_self, pk_un (by omega)])
  · by_cases q : i = d
    · subst q; rw [pk_us]; exact hv
    · rw [pk_un q, d5 i hi]; exact hR.2.2.2.1.2 _ (by omega)
  · rw [xst_ne (by omega)]
    by_cases q : j = k
    · subst q; rw [pk_us]
    · rw [pk_un q]
  · rw [xst_ne (by omega)]
    by_cases q : j = k
    · subst q; rw [pk_us]
    · rw [pk_un q]
  · rw [xst_self]
    by_cases q : i = d
    · subst q; rw [pk_us, pk_us]
    · rw [pk_un (by omega), pk_un q, d5 i hi]
theorem reads_l {hc hm : xH} (hR : Rl hc hm) {k n N : Nat} {a1 : Int32} (hk : k < 4) (hn : n ≤ 24) (hs : hm 5 k = nI n) (h0 : hm 1 0 = nI N) (hN : N ≤ 10) : ∀ m i f1 f2, i + m = n → m < f1 → m < f2 → Sm hm (f_X6_reads_c30 a1 f1 (60 + 2 * k) (nI i) hc) (f_X7_reads_c25 (nI k) f2 (nI i) hm)
  | m, i, 0, f2, _, h2, _ => absurd h2 (Nat.not_lt_zero _)
  | m, i, f1 + 1, 0, _, _, h2 => absurd h2 (Nat.not_lt_zero _)
  | 0, i, f1 + 1, f2 + 1, h1, _, _ => by
    obtain ⟨d1, d2, d3, d4, d5⟩ := hR.2.2.2.1.1 k hk
    rw [f_X6_reads_c30, f_X7_reads_c25, gd_n hk (by omega), nI_clamp (show k < 2 ^ 31 by omega), d2, hs, if_pos (nI_le (by omega) (by omega)), if_pos (nI_le (by omega) (by omega))]
    exact .ret hR
  | m + 1, i, f1 + 1, f2 + 1, h1, h2, h3 => by
    obtain ⟨d1, d2, d3, d4, d5⟩ := hR.2.2.2.1.1 k hk
    rw [f_X6_reads_c30, f_X7_reads_c25, gd_n hk (by omega), nI_clamp (show k < 2 ^ 31 by omega), d2, hs, if_neg (nI_ge (by omega) (by omega)), if_neg (nI_ge (by omega) (by omega)), C_isNumber (by omega), bn_s, b10, ix24, gd_n (show 24 * k + i < 96 by omega) (by omega), nI_clamp (show 24 * k + i < 2 ^ 31 by omega), nm_x, show 60 + 2 * k + 1 = 61 + 2 * k by omega, d5 i (by omega), gS_0, cN_0, C_isDay, bn_s, b01, hR.1.1.days, h0]
    unfold f_X6_reads_c74 f_X7_reads_c75
    rw [nI_1]
    have ih := reads_l hR (a1 := a1) hk hn hs h0 hN m (i + 1) f1 f2 (by omega) (by omega) (by omega)
    refine Sm.ite (fun _ => ih) (fun _ => ?_)
    by_cases c : N ≤ i
    · rw [if_pos (nI_le c (by omega)), if_neg (fun q => by
        obtain ⟨z, z1, z2⟩ := pl_in (show N ≤ 24 by omega) q
        have := (nI_eq (by omega) (by omega)).mp z2
        omega)]
      exact .ret hR
    · have hi : 0 ≤ nI i ∧ nI i ≤ nI N - 1 := by
        refine ⟨nI_le (a := 0) (by omega) (by omega), ?_⟩
        rw [show (1 : Int32) = nI 1 from rfl, nI_sub (by omega)]
        exact nI_le (by omega) (by omega)
      rw [if_neg (nI_ge (by omega) (by omega)), if_pos hi, gd_n (by omega) (by omega), gd_n (by omega) (by omega), nI_clamp (show i < 2 ^ 31 by omega), d5 i (by omega), M_of (j := 3) (k := 3) rfl (by omega) (by omega), bn_s, hR.1.1.day (k := 3) (by omega) (by omega) (a := 28) rfl]
      exact Sm.ite (fun _ => ih) (fun _ => .ret hR)
theorem sort_pos {v : Int32} (h : v = -1 ∨ v = 0 ∨ v = 1) : (0 : Int32) ≤ v ↔ ¬ v = -1 := by
  rcases h with rfl | rfl | rfl <;> decide
theorem S_reads_ok {κ : Nat} (hκ : κ < 64) : S_reads (Rk κ) (Rk (κ + 1)) := by
  intro a1 hc hm hR
  refine Sm.k hκ hR ?_
  have hR := hR.1
  simp only [f_X6_reads, f_X7_reads, C_isSheet, M_isSheet, bn_s, b01]
  refine Sm.ite (fun c1 => ?_) (fun _ => .ret hR)
  obtain ⟨k, hk, rfl⟩ := in_nI (n := 3) (M := 3) rfl c1
  obtain ⟨d1, d2, d3, d4, d5⟩ := hR.2.2.2.1.1 k (by omega)
  obtain ⟨n, hn, -, hs⟩ := rg_nI d4
  have hn : (n : Int) ≤ 24 := hn
  obtain ⟨⟨N, hN, h0⟩, -⟩ := hR.1.2.1
  rw [gd_n (by omega) (by omega), gd_n (by omega) (by omega), nI_clamp (by omega), d1]
  by_cases c : hm 4 k = -1
  · rw [if_pos c, if_neg (fun q => (sort_pos d3).mp q c)]
    exact .ret hR
  · rw [if_neg c, if_pos ((sort_pos d3).mpr c)]
    exact reads_l hR (by omega) (by omega) hs h0 hN n 0 xN xN (by omega) (by unfold xN; omega) (by unfold xN; omega)
