/-! the pieces of a text -/
theorem M_84 {self : xRec} {key : Int32} {h : xH} (h18 : ¬ h 0 18 = 3) : f_X7_part0_b_c84 self key h = some (0, h) := by
  unfold f_X7_part0_b_c84 f_X7_part0_b_c145
  rw [M_isSign, bn_s, b01, if_neg (fun q => h18 q.1), M_isSign, bn_s, b01, if_neg (fun q => h18 q.1)]
theorem C_no {self : xRec} {a b : Int32} {h : xH} (h1 : ¬ h 21 5 = 1) (h2 : ¬ h 21 5 = 2) (h3 : ¬ h 21 5 = 3) : f_X2_readPiece_b self a b h = some (0, h) := by
  unfold f_X2_readPiece_b
  rw [if_neg h2, if_neg h3, C_isSign, bn_s, b01, if_neg (fun q => h1 q.1), C_isSign, bn_s, b01, if_neg (fun q => h1 q.1)]
theorem pL_0 {c : Int32} (h : pL c = true) : ¬ c = 0 := by
  intro q
  subst q
  exact absurd h (by decide)
theorem piece {tp : Nat → Int32} {T L k o t n n' : Nat} (hk : k < 3) (hL : L + 192 ≤ 3078) (ho : o ≤ 8) (ht : t ≤ 8) (hO : o < 8 → SIMF tp T L (nI k) (o + 1) t (f_X2_rec n 0 0 (nI (o + 1)) (nI t)) (f_X7_rec n' 0 (nI k) 0 0)) (hN : t < 8 → SIMF tp T L (nI k) o (t + 1) (f_X2_rec n 1 (nI o) (nI (t + 1)) 0) (f_X7_rec n' 5 (nI k) 0 0)) : SIMF tp T L (nI k) o t (f_X2_rec (n + 2) 1 (nI o) (nI t) 0) (f_X7_rec (n' + 1) 5 (nI k) 0 0) := by
  intro hc hm b e m hP hmb
  have z10 : ¬ (1 : Int32) = 0 := by decide
  have hC : f_X2_rec (n + 2) 1 (nI o) (nI t) 0 hc = f_X2_readPiece_b (f_X2_rec (n + 1)) (nI o) (nI t) hc := by
    rw [f_X2_rec, if_neg (show ¬ (1 : Nat) = 0 by decide), if_pos (show (1 : Nat) = 1 from rfl)]
  have hMr : f_X7_rec (n' + 1) 5 (nI k) 0 0 hm = f_X7_part0_b (f_X7_rec n') (nI k) hm := by
    rw [f_X7_rec, if_neg (show ¬ (5 : Nat) = 0 by decide), if_neg (show ¬ (5 : Nat) = 1 by decide), if_neg (show ¬ (5 : Nat) = 2 by decide), if_neg (show ¬ (5 : Nat) = 3 by decide), if_neg (show ¬ (5 : Nat) = 4 by decide), if_pos (show (5 : Nat) = 5 from rfl)]
  have hnot : ∀ h : xH, f_X2_rec (n + 1) 2 (nI o) (nI t + 1) 0 h = f_X2_readNot_b (f_X2_rec n) (nI o) (nI t + 1) h := fun h => by
    rw [f_X2_rec, if_neg (show ¬ (2 : Nat) = 0 by decide), if_neg (show ¬ (2 : Nat) = 1 by decide), if_pos (show (2 : Nat) = 2 from rfl)]
  have hopen : ∀ h : xH, f_X2_rec (n + 1) 3 (nI o + 1) (nI t) 0 h = f_X2_readOpen_b (f_X2_rec n) (nI o + 1) (nI t) h := fun h => by
    rw [f_X2_rec, if_neg (show ¬ (3 : Nat) = 0 by decide), if_neg (show ¬ (3 : Nat) = 1 by decide), if_neg (show ¬ (3 : Nat) = 2 by decide), if_pos (show (3 : Nat) = 3 from rfl)]
  rw [hC, hMr]
  have hno : OUT tp T L (nI k) o t hc hm b m (some (0, hc)) (some (0, hm)) := Or.inr ⟨hc, hm, rfl, rfl, hP.no, cP.rf, mP.rf⟩
  have hP0 := hP
  obtain ⟨p1, p2, ⟨k1, k2, k3, k4, k5, k6, k7⟩, p4, p5, p6⟩ := hP0
  have q96 := p1.1
  rcases k7 with ⟨a, s⟩ | ⟨a, s, c, d⟩ | ⟨a, s, c, d, r⟩ | ⟨a, s, c, d, r⟩ | ⟨a, s⟩
  · rw [C_no (by rw [a]; decide) (by rw [a]; decide) (by rw [a]; decide), f_X7_part0_b, if_neg (by rw [s]; decide), if_neg (by rw [s]; decide), M_84 (by rw [s]; decide)]
    exact hno
  · -- a sign
    have e21 : hm 0 21 = nI o := p5
    have e22 : hm 0 22 = nI t := p6
    unfold f_X2_readPiece_b f_X7_part0_b f_X7_part0_b_c84
    rw [if_neg (show ¬ hc 21 5 = 2 by rw [a]; decide), if_neg (show ¬ hc 21 5 = 3 by rw [a]; decide), if_neg (show ¬ hm 0 18 = 2 by rw [s]; decide), if_neg (show ¬ hm 0 18 = 1 by rw [s]; decide), C_isSign, bn_s, b01, M_isSign, bn_s, b01]
    by_cases c33 : hm 0 20 = 33
    · rw [if_pos (show hc 21 5 = 1 ∧ hc 21 6 = 33 from ⟨a, d.trans c33⟩), if_pos (show hm 0 18 = 3 ∧ hm 0 20 = 33 from ⟨s, c33⟩), e22]
      by_cases t8 : t = 8
      · subst t8
        rw [if_pos (show (8 : Int32) ≤ nI 8 by decide), if_pos (show (8 : Int32) ≤ nI 8 by decide)]
        unfold f_X7_part0_b_c145
        rw [M_isSign, bn_s, b01, if_neg (fun q => absurd (c33.symm.trans q.2) (by decide))]
        exact hno
      · have h8 : ¬ (8 : Int32) ≤ nI t := nI_ge (b := 8) (by omega) (by omega)
        rw [if_neg h8, if_neg h8, hnot, nm_x, nI_1]
        unfold f_X2_readNot_b
        obtain ⟨hc1, hm1, b1, e1, n1, n2, n3, n4, n5, n6, n7⟩ := nx1 (hP.turn (v := nI (t + 1)) (t' := t + 1) rfl)
        rw [n1, n2, bn_s, bn_s]
        rcases hN (by omega) hc1 hm1 b1 e1 m n3 (by omega) with ⟨hc2, hm2, b2, e2, m2, x1, x2, x3, x4, x5, x6, x7, x8, x9, x10⟩ | ⟨hc2, hm2, x1, x2, x3⟩
        · have hb2 : b2 ≤ 96 := by
            have q1 := x3.2.2.1.2.2.2.2.1
            have q2 := x3.2.2.1.2.2.2.2.2.1
            omega
          have e2' : hm2 0 22 = nI (t + 1) := x3.2.2.2.2.2
          rw [x1, x2, bn_s, bn_s, if_neg z10, if_neg z10, nm_x, e2', nI_pred]
          have hP3 := x3.turn (v := nI t) (t' := t) rfl
          obtain ⟨hc3, hm3, s1, s2, s3, s4, s5, s6, s7⟩ := add1 (x := 2) (y := 33) (v := -33) hP3 (show m2 < 96 by omega) hL (Or.inr (Or.inr ⟨rfl, Or.inl rfl, rfl⟩))
          rw [s1, s2, bn_s, bn_s, bn_s, if_neg z10]
          have g1 : ∀ j, j < L + 2 * m2 → hm3 1 j = hm2 1 j := fun j hj => by rw [s5 j hj, xst_ne (by omega)]
          refine Or.inl ⟨hc3, hm3, b2, e2, m2 + 1, rfl, rfl, s3, by omega, by omega, by omega, ?_, fun j hj => ?_, n6.tr (x9.tr s6), (mP.z (by omega)).tr (n7.tr (x10.tr ((mP.z (by omega)).tr s7)))⟩
          · rw [show m2 + 1 - m = (m2 - m) + 1 by omega, sg_app, show m + (m2 - m) = m2 by omega, s4, sg_cg (h := hm2) (fun j q1 q2 => g1 j (by omega))]
            exact whl_not x7
          · rw [g1 j (by omega), x8 j hj, n5, xst_ne (by omega)]
        · rw [x1, x2, bn_s, bn_s, if_pos rfl, if_pos rfl, bn_s, if_pos rfl]
          exact Or.inr ⟨hc2, hm2, rfl, rfl, x3.1, n6.tr x3.2.1, (mP.z (by omega)).tr (n7.tr x3.2.2)⟩
    · rw [if_neg (show ¬ (hc 21 5 = 1 ∧ hc 21 6 = 33) from fun q => c33 (d.symm.trans q.2)), if_neg (show ¬ (hm 0 18 = 3 ∧ hm 0 20 = 33) from fun q => c33 q.2), C_isSign, bn_s, b01]
      unfold f_X7_part0_b_c145
      rw [M_isSign, bn_s, b01]
      by_cases c40 : hm 0 20 = 40
      · rw [if_pos (show hc 21 5 = 1 ∧ hc 21 6 = 40 from ⟨a, d.trans c40⟩), if_pos (show hm 0 18 = 3 ∧ hm 0 20 = 40 from ⟨s, c40⟩), e21]
        by_cases o8 : o = 8
        · subst o8
          rw [if_pos (show (8 : Int32) ≤ nI 8 by decide), if_pos (show nI 8 = 8 from rfl)]
          exact hno
        · rw [if_neg (show ¬ (8 : Int32) ≤ nI o from nI_ge (b := 8) (by omega) (by omega)), if_neg (show ¬ nI o = 8 from fun q => o8 ((nI_eq (b := 8) (by omega) (by omega)).mp q)), hopen, nm_x, nI_1]
          unfold f_X2_readOpen_b
          obtain ⟨hc1, hm1, b1, e1, n1, n2, n3, n4, n5, n6, n7⟩ := nx1 (hP.deep (v := nI (o + 1)) (o' := o + 1) rfl)
          rw [n1, n2, bn_s, bn_s]
          rcases hO (by omega) hc1 hm1 b1 e1 m n3 (by omega) with ⟨hc2, hm2, b2, e2, m2, x1, x2, x3, x4, x5, x6, x7, x8, x9, x10⟩ | ⟨hc2, hm2, x1, x2, x3⟩
          · have e2' : hm2 0 21 = nI (o + 1) := x3.2.2.2.2.1
            have hsn := x3.2.2.1.sign
            rw [x1, x2, bn_s, bn_s, if_neg z10, if_neg z10, C_isSign, bn_s, b01, M_isSign, bn_s, b01]
            by_cases c41 : hm2 0 18 = 3 ∧ hm2 0 20 = 41
            · have c41' : hc2 21 5 = 1 ∧ hc2 21 6 = 41 := ⟨hsn.1.mpr c41.1, ((hsn.2 (hsn.1.mpr c41.1)).2).trans c41.2⟩
              have hbe2 := (hsn.2 c41'.1).1
              rw [if_pos c41, if_pos c41', nm_x, e2', nI_pred]
              obtain ⟨hc3, hm3, b3, e3, w1, w2, w3, w4, w5, w6, w7⟩ := nx1 (x3.deep (v := nI o) (o' := o) rfl)
              rw [w1, w2, bn_s, bn_s, bn_s, if_neg z10]
              have g1 : hm3 1 = hm2 1 := by rw [w5, xst_ne (by omega)]
              refine Or.inl ⟨hc3, hm3, b3, e3, m2, rfl, rfl, w3, by omega, by omega, by omega, ?_, fun j hj => ?_, n6.tr (x9.tr w6), (mP.z (by omega)).tr (n7.tr (x10.tr ((mP.z (by omega)).tr w7)))⟩
              · rw [sg_cg (h := hm2) (fun j q1 q2 => by rw [g1])]
                exact x7
              · rw [g1, x8 j hj, n5, xst_ne (by omega)]
            · have c41' : ¬ (hc2 21 5 = 1 ∧ hc2 21 6 = 41) := fun q => c41 ⟨hsn.1.mp q.1, ((hsn.2 q.1).2).symm.trans q.2⟩
              rw [if_neg c41, if_neg c41', bn_s, if_pos rfl]
              exact Or.inr ⟨hc2, hm2, rfl, rfl, x3.no, n6.tr x9, (mP.z (by omega)).tr (n7.tr x10)⟩
          · rw [x1, x2, bn_s, bn_s, if_pos rfl, if_pos rfl, bn_s, if_pos rfl]
            exact Or.inr ⟨hc2, hm2, rfl, rfl, x3.1, n6.tr x3.2.1, (mP.z (by omega)).tr (n7.tr x3.2.2)⟩
      · rw [if_neg (show ¬ (hc 21 5 = 1 ∧ hc 21 6 = 40) from fun q => c40 (d.symm.trans q.2)), if_neg (show ¬ (hm 0 18 = 3 ∧ hm 0 20 = 40) from fun q => c40 q.2)]
        exact hno
  · -- a number
    obtain ⟨hc', hm', b', e', m', l1, l2, l3⟩ := leaf (x := 0) (y := hm 0 19) (v := hc 21 6) hP hmb c hL (Or.inl ⟨rfl, r, d⟩) (whl_0 _)
    unfold f_X2_readPiece_b f_X7_part0_b
    rw [if_pos a, if_pos s, l1, bn_s, l2]
    refine Or.inl ⟨hc', hm', b', e', m', ?_, rfl, l3⟩
    exact if_pos (Or.inr rfl)
  · -- a name
    obtain ⟨x, x1, x2⟩ := C_name p1 k1 k3 c k6 p4.2.2.2.2.1 hk (r b (Nat.le_refl _) c)
    unfold f_X2_readPiece_b f_X7_part0_b
    rw [if_neg (show ¬ hc 21 5 = 2 by rw [a]; decide), if_pos a, if_neg (show ¬ hm 0 18 = 2 by rw [s]; decide), if_pos s, x1, bn_s]
    rcases x2 with ⟨eb, sy, y1, y2, y3⟩ | ⟨y1, y2⟩
    · rw [if_pos eb] at d
      rw [← d] at y1
      obtain ⟨hc', hm', b', e', m', l1, l2, l3⟩ := leaf (x := 1) (y := hm 0 20) (v := sy) hP hmb c hL (Or.inr (Or.inl ⟨rfl, y1⟩)) (whl_1 _)
      have h20 : ¬ hm 0 20 = 0 := by rw [d]; exact pL_0 (r b (Nat.le_refl _) c)
      rw [if_neg y2, y3, l1, bn_s, if_neg z10, if_neg h20, M_name hk, bn_s, y1]
      show OUT tp T L (nI k) o t hc hm b m _ (if (1 : Int32) = 0 then _ else _)
      rw [if_neg z10, l2]
      exact Or.inl ⟨hc', hm', b', e', m', rfl, rfl, l3⟩
    · rw [if_pos y2]
      have h84 : f_X7_part0_b_c84 (f_X7_rec n') (nI k) hm = some (0, hm) := M_84 (by rw [s]; decide)
      by_cases h20 : hm 0 20 = 0
      · rw [if_pos h20, h84]
        exact hno
      · have eb : e = b + 1 := Classical.byContradiction (fun z => h20 (by rw [d, if_neg z]))
        rw [if_pos eb] at d
        have y1 : nmk (nI k) (hm 0 20) = none := by
          rw [d]
          exact y1.resolve_left (fun z => z eb)
        rw [if_neg h20, M_name hk, bn_s, y1]
        show OUT tp T L (nI k) o t hc hm b m _ (if (0 : Int32) = 0 then _ else _)
        rw [if_pos rfl, h84]
        exact hno
  · rw [C_no (by rw [a]; decide) (by rw [a]; decide) (by rw [a]; decide), f_X7_part0_b, if_neg (by rw [s]; decide), if_neg (by rw [s]; decide), M_84 (by rw [s]; decide)]
    exact hno
theorem simall {tp : Nat → Int32} {T L k : Nat} (hk : k < 3) (hL : L + 192 ≤ 3078) : ∀ W o t, o ≤ 8 → t ≤ 8 → (8 * (8 - o) + 2 * (8 - t) + 2 ≤ W → ∀ n n', W ≤ n → W ≤ n' → SIMF tp T L (nI k) o t (f_X2_rec n 1 (nI o) (nI t) 0) (f_X7_rec n' 5 (nI k) 0 0)) ∧ (∀ l, l ≤ 5 → 8 * (8 - o) + 2 * (8 - t) + 8 - l ≤ W → ∀ n n', W ≤ n → W ≤ n' → SIMF tp T L (nI k) o t (f_X2_rec n 0 (nI l) (nI o) (nI t)) (f_X7_rec n' l (nI k) 0 0)) := by
  intro W
  induction W using Nat.strongRecOn with
  | _ W ih =>
    intro o t ho ht
    refine ⟨fun hW n n' hn hn' => ?_, fun l hl hW n n' hn hn' => ?_⟩
    · obtain ⟨n0, rfl⟩ : ∃ n0, n = n0 + 2 := ⟨n - 2, by omega⟩
      obtain ⟨n1, rfl⟩ : ∃ n1, n' = n1 + 1 := ⟨n' - 1, by omega⟩
      refine piece hk hL ho ht (fun h => ?_) (fun h => ?_)
      · exact (ih (W - 2) (by omega) (o + 1) t (by omega) ht).2 0 (by omega) (by omega) n0 n1 (by omega) (by omega)
      · exact (ih (W - 2) (by omega) o (t + 1) ho (by omega)).1 (by omega) n0 n1 (by omega) (by omega)
    · obtain ⟨n0, rfl⟩ : ∃ n0, n = n0 + 1 := ⟨n - 1, by omega⟩
      by_cases l5 : l = 5
      · subst l5
        have hp := (ih (W - 1) (by omega) o t ho ht).1 (by omega) n0 n' (by omega) (by omega)
        intro hc hm b e m hP hmb
        have hC : f_X2_rec (n0 + 1) 0 (nI 5) (nI o) (nI t) hc = bn (f_X2_rec n0 1 (nI o) (nI t) 0 hc) fun r4 h5 => gb r4 (some (r4, h5)) := by
          rw [f_X2_rec, if_pos rfl]
          unfold f_X2_readLevel_b
          rw [if_neg (show ¬ nI 5 < 5 by decide)]
        rw [hC]
        rcases hp hc hm b e m hP hmb with ⟨hc', hm', b', e', m', x1, x2, x3⟩ | ⟨hc', hm', x1, x2, x3⟩
        · rw [x1, bn_s]
          exact Or.inl ⟨hc', hm', b', e', m', if_pos (Or.inr rfl), x2, x3⟩
        · rw [x1, bn_s]
          exact Or.inr ⟨hc', hm', if_pos (Or.inl rfl), x2, x3⟩
      · obtain ⟨n1, rfl⟩ : ∃ n1, n' = n1 + 1 := ⟨n' - 1, by omega⟩
        have hp := (ih (W - 1) (by omega) o t ho ht).2 (l + 1) (by omega) (by omega) n0 n1 (by omega) (by omega)
        rw [← nI_1] at hp
        exact lev hL (by omega) hp
