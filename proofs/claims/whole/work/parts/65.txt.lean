/-! a text told -/
def cX (hc hc' : xH) : Prop := (∀ q, q ≠ 21 → q ≠ 23 → hc' q = hc q) ∧ hc' 21 2 = hc 21 2
theorem cX.tr {a b c : xH} (h1 : cX a b) (h2 : cX b c) : cX a c := ⟨fun q q1 q2 => (h2.1 q q1 q2).trans (h1.1 q q1 q2), h2.2.trans h1.2⟩
theorem cP.X {a b : xH} (h : cP a b) : cX a b := ⟨h.1, h.2.1⟩
theorem c4.X {a b : xH} (h : c4 a b) : cX a b := h.P.X
theorem cX.st {h : xH} {j : Nat} {v : Int32} (hj : j ≠ 2) : cX h (xst h 21 j v) := ⟨fun q q1 _ => xst_ne q1, by rw [xst_self, pk_un (Ne.symm hj)]⟩
theorem parse_ok {hc hm : xH} {T L : Nat} (hT : TC (hm 14) T hc) (hM : TM (hm 14) T hm) (hL : L + 192 ≤ 3078) (hlaid : f_X7_parse hm = f_X7_parse_c60 (nI L) (xst (xst (xst (xst (xst (xst hm 0 17 0) 0 18 3) 0 21 0) 0 22 0) 0 23 0) 0 25 0)) : (∃ hc' hm', f_X2_readText hc = some (0, hc') ∧ f_X7_parse hm = some (-1, xst hm' 0 15 0) ∧ hc' 21 3 = hm' 0 16 ∧ cX hc hc' ∧ mP L hm hm') ∨ ∃ hc' hm' k m, f_X2_readText hc = some (1, hc') ∧ f_X7_parse hm = some (nI k, xst hm' 0 15 0) ∧ k < 3 ∧ ST L (nI k) hc' hm' m ∧ m ≤ 96 ∧ whl (sg hm' L 0 m) ∧ cX hc hc' ∧ mP L hm hm' := by
  have z10 : ¬ (1 : Int32) = 0 := by decide
  rw [hlaid]
  unfold f_X2_readText f_X7_parse_c60
  simp only [nm_x]
  have fg : cX hc (xst (xst (xst (xst hc 21 4 0) 21 5 0) 21 8 0) 21 9 0) := (cX.st (by omega)).tr ((cX.st (by omega)).tr ((cX.st (by omega)).tr (.st (by omega))))
  have g4 : xst (xst (xst (xst hc 21 4 0) 21 5 0) 21 8 0) 21 9 0 21 4 = nI 0 := by rw [xst_self, pk_un (by omega), xst_self, pk_un (by omega), xst_self, pk_un (by omega), xst_self, pk_us]; rfl
  have g5 : xst (xst (xst (xst hc 21 4 0) 21 5 0) 21 8 0) 21 9 0 21 5 = 0 := by rw [xst_self, pk_un (by omega), xst_self, pk_un (by omega), xst_self, pk_us]
  have g8 : xst (xst (xst (xst hc 21 4 0) 21 5 0) 21 8 0) 21 9 0 21 8 = 0 := by rw [xst_self, pk_un (by omega), xst_self, pk_us]
  have g9 : xst (xst (xst (xst hc 21 4 0) 21 5 0) 21 8 0) 21 9 0 21 9 = 0 := by rw [xst_self, pk_us]
  generalize xst (xst (xst (xst hc 21 4 0) 21 5 0) 21 8 0) 21 9 0 = g at fg g4 g5 g8 g9
  have fk : mP L hm (xst (xst (xst (xst (xst (xst (xst hm 0 17 0) 0 18 3) 0 21 0) 0 22 0) 0 23 0) 0 25 0) 0 24 (nI L)) := (mP.z (by omega)).tr ((mP.z (by omega)).tr ((mP.z (by omega)).tr ((mP.z (by omega)).tr ((mP.z (by omega)).tr ((mP.z (by omega)).tr (.z (by omega)))))))
  have k17 : xst (xst (xst (xst (xst (xst (xst hm 0 17 0) 0 18 3) 0 21 0) 0 22 0) 0 23 0) 0 25 0) 0 24 (nI L) 0 17 = nI 0 := by rw [xst_self, pk_un (by omega), xst_self, pk_un (by omega), xst_self, pk_un (by omega), xst_self, pk_un (by omega), xst_self, pk_un (by omega), xst_self, pk_un (by omega), xst_self, pk_us]; rfl
  have k21 : xst (xst (xst (xst (xst (xst (xst hm 0 17 0) 0 18 3) 0 21 0) 0 22 0) 0 23 0) 0 25 0) 0 24 (nI L) 0 21 = 0 := by rw [xst_self, pk_un (by omega), xst_self, pk_un (by omega), xst_self, pk_un (by omega), xst_self, pk_un (by omega), xst_self, pk_us]
  have k22 : xst (xst (xst (xst (xst (xst (xst hm 0 17 0) 0 18 3) 0 21 0) 0 22 0) 0 23 0) 0 25 0) 0 24 (nI L) 0 22 = 0 := by rw [xst_self, pk_un (by omega), xst_self, pk_un (by omega), xst_self, pk_un (by omega), xst_self, pk_us]
  have k23 : xst (xst (xst (xst (xst (xst (xst hm 0 17 0) 0 18 3) 0 21 0) 0 22 0) 0 23 0) 0 25 0) 0 24 (nI L) 0 23 = 0 := by rw [xst_self, pk_un (by omega), xst_self, pk_un (by omega), xst_self, pk_us]
  have k25 : xst (xst (xst (xst (xst (xst (xst hm 0 17 0) 0 18 3) 0 21 0) 0 22 0) 0 23 0) 0 25 0) 0 24 (nI L) 0 25 = 0 := by rw [xst_self, pk_un (by omega), xst_self, pk_us]
  have k24 : xst (xst (xst (xst (xst (xst (xst hm 0 17 0) 0 18 3) 0 21 0) 0 22 0) 0 23 0) 0 25 0) 0 24 (nI L) 0 24 = nI L := by rw [xst_self, pk_us]
  generalize xst (xst (xst (xst (xst (xst (xst hm 0 17 0) 0 18 3) 0 21 0) 0 22 0) 0 23 0) 0 25 0) 0 24 (nI L) = k at fk k17 k21 k22 k23 k24 k25
  have hTg : TC (hm 14) T g := ⟨hT.1, fg.2.trans hT.2.1, fun i hi => by rw [fg.1 22 (by omega) (by omega)]; exact hT.2.2 i hi⟩
  have hMk : TM (hm 14) T k := ⟨hM.1, (fk.2.1 15 (by omega)).trans hM.2.1, fk.1 14 (by omega) (by omega)⟩
  obtain ⟨hc1, hm1, b1, e1, n1, n2, n3, n4, n5, n6⟩ := nxt (gl := False) hTg hMk g4 k17 (Nat.zero_le _) ⟨fun q => by rw [g5] at q; exact absurd q (by decide), fun q => q.elim⟩ ⟨fun q => absurd q.1 (by omega), fun q => q.elim⟩
  have hT1 := hTg.c4 n5
  have hM1 := hMk.m5 n6
  obtain ⟨r, r1, r2, r3⟩ := key_eq hT1 hM1 n3
  have f1 : cX hc hc1 := fg.tr n5.X
  have f2 : mP L hm hm1 := fk.tr n6.P
  rw [n1, n2, bn_s, bn_s, r1, r2, bn_s, bn_s, xst_self, pk_us]
  have hr : r = -1 ∨ ∃ k, k < 3 ∧ r = nI k := by
    rcases r3 with h | h | h | h
    · exact Or.inl h
    · exact Or.inr ⟨0, by omega, h⟩
    · exact Or.inr ⟨1, by omega, h⟩
    · exact Or.inr ⟨2, by omega, h⟩
  rcases hr with rfl | ⟨kk, hk, rfl⟩
  · refine Or.inl ⟨xst hc1 21 7 (-1), hm1, ?_, ?_, ?_, f1.tr (.st (by omega)), f2⟩
    · rw [if_neg (by decide)]
    · rw [if_pos (by decide), f_X7_parse_c81, if_pos rfl, f_X7_parse_c111, nm_x, if_pos rfl]
    · rw [xst_self, pk_un (by omega), n3.1, n3.2.1]
  · rw [if_pos (nI_pos' (by omega)), if_neg (nI_pos (by omega)), f_X7_parse_c81, if_neg z10]
    have hP : PQ (hm 14) T L (nI kk) 0 0 (xst hc1 21 7 (nI kk)) hm1 b1 e1 0 := by
      have y0 : ∀ j, j ≠ 7 → xst hc1 21 7 (nI kk) 21 j = hc1 21 j := fun j hj => by rw [xst_self, pk_un hj]
      refine ⟨⟨hT1.1, by rw [y0 2 (by omega)]; exact hT1.2.1, fun i hi => by rw [xst_ne (by omega)]; exact hT1.2.2 i hi⟩, hM1, ?_, ⟨?_, ?_, ?_, ?_, ?_, fun k hk => absurd hk (Nat.not_lt_zero _)⟩, ?_, ?_⟩
      · unfold TK
        rw [y0 3 (by omega), y0 4 (by omega), y0 5 (by omega), y0 6 (by omega)]
        exact n3
      · rw [y0 8 (by omega), n5.2 8 (by omega) (by omega) (by omega) (by omega)]; exact g8
      · rw [n6.2 23 (by omega)]; exact k23
      · rw [n6.2 24 (by omega)]; exact k24
      · rw [y0 9 (by omega), n5.2 9 (by omega) (by omega) (by omega) (by omega), n6.2 25 (by omega), g9, k25]
      · rw [xst_self, pk_us]
      · rw [n6.2 21 (by omega)]; exact k21
      · rw [n6.2 22 (by omega)]; exact k22
    obtain ⟨hc2, hm2, b2, e2, w1, w2, w3, w4, w5, w6, w7⟩ := nx1 hP
    rw [w1, w2, bn_s, bn_s]
    have f3 : cX hc hc2 := f1.tr ((cX.st (by omega)).tr w6.X)
    have f4 : mP L hm hm2 := f2.tr w7
    have hS := (simall (tp := hm 14) (T := T) (L := L) hk hL 200 0 0 (by omega) (by omega)).2 0 (by omega) (by omega) 200 200 (Nat.le_refl _) (Nat.le_refl _)
    rcases hS hc2 hm2 b2 e2 0 w3 (Nat.zero_le _) with ⟨hc3, hm3, b3, e3, m3, x1, x2, x3, x4, x5, x6, x7, x8, x9, x10⟩ | ⟨hc3, hm3, x1, x2, x3⟩
    · rw [show f_X2_readLevel 0 0 0 hc2 = _ from x1, show f_X7_either (nI kk) hm2 = _ from x2, bn_s, bn_s, if_neg z10, if_neg z10]
      have hq := x3.2.2.1
      have q1 := hq.2.2.2.2.1
      have q2 := hq.2.2.2.2.2.1
      have q3 := x3.1.1
      by_cases c : hc3 21 5 = 0
      · have c' : hm3 0 18 = 0 := by
          rcases hq.2.2.2.2.2.2 with ⟨-, s⟩ | ⟨a, -⟩ | ⟨a, -⟩ | ⟨a, -⟩ | ⟨a, -⟩
          · exact s
          · rw [a] at c; exact absurd c (by decide)
          · rw [a] at c; exact absurd c (by decide)
          · rw [a] at c; exact absurd c (by decide)
          · rw [a] at c; exact absurd c (by decide)
        rw [if_pos c, if_pos c', f_X7_parse_c110, f_X7_parse_c111, nm_x, if_neg z10]
        exact Or.inr ⟨hc3, hm3, kk, m3, rfl, rfl, hk, x3.2.2.2.1, by omega, x7, f3.tr x9.X, f4.tr x10⟩
      · have c' : ¬ hm3 0 18 = 0 := by
          rcases hq.2.2.2.2.2.2 with ⟨a, -⟩ | ⟨-, s, -⟩ | ⟨-, s, -⟩ | ⟨-, s, -⟩ | ⟨-, s⟩
          · exact absurd a c
          · rw [s]; decide
          · rw [s]; decide
          · rw [s]; decide
          · rw [s]; decide
        rw [if_neg c, if_neg c', f_X7_parse_c109, f_X7_parse_c110, f_X7_parse_c111, nm_x, if_pos rfl]
        exact Or.inl ⟨hc3, hm3, rfl, rfl, x3.no, f3.tr x9.X, f4.tr x10⟩
    · rw [show f_X2_readLevel 0 0 0 hc2 = _ from x1, show f_X7_either (nI kk) hm2 = _ from x2, bn_s, bn_s, if_pos rfl, if_pos rfl, f_X7_parse_c109, f_X7_parse_c110, f_X7_parse_c111, nm_x, if_pos rfl]
      exact Or.inl ⟨hc3, hm3, rfl, rfl, x3.1, f3.tr x3.2.1.X, f4.tr x3.2.2⟩
/-! texts of two rows that are alike below -/
theorem cntN_lo {σ σ' : Nat → Int32} {k : Int32} {n : Nat} (h : ∀ j, j < 78 + 200 * n → σ' j = σ j) : ∀ m, m ≤ n → cntN σ' k m = cntN σ k m
  | 0, _ => rfl
  | m + 1, hm => by rw [cntN, cntN, h _ (by omega), cntN_lo h m (by omega)]
theorem cntN_lx {σ σ' : Nat → Int32} {k : Int32} {n : Nat} (h : ∀ t, t < n → σ' (78 + 200 * t) = σ (78 + 200 * t)) : ∀ m, m ≤ n → cntN σ' k m = cntN σ k m
  | 0, _ => rfl
  | m + 1, hm => by rw [cntN, cntN, h m (by omega), cntN_lx h m (by omega)]
theorem TX.cg2 {hc hc' : xH} {σ σ' : Nat → Int32} {t : Nat} (h : TX hc σ t) (h1 : hc' 2 t = hc 2 t) (h1' : hc' 3 t = hc 3 t) (h1'' : hc' 4 t = hc 4 t) (h3 : hc' (6 + t) = hc (6 + t)) (h2 : ∀ j, 78 + 200 * t ≤ j → j < 278 + 200 * t → σ' j = σ j) : TX hc' σ' t := by
  obtain ⟨a, b, c, d, n, hn, e, f, g⟩ := h
  have hs : ∀ k, k < n → stp σ' t k = stp σ t k := fun k hk => by
    unfold stp
    rw [h2 _ (by omega) (by omega), h2 _ (by omega) (by omega)]
  have hp : prog σ' t n = prog σ t n := List.map_congr_left (fun k hk => hs k (List.mem_range.mp hk))
  refine ⟨by rw [h2 _ (by omega) (by omega)]; exact a, by rw [h2 _ (by omega) (by omega), h1]; exact b, by rw [h2 _ (by omega) (by omega), h1']; exact c, by rw [h2 _ (by omega) (by omega), h1'']; exact d, n, hn, by rw [h2 _ (by omega) (by omega)]; exact e, by rw [hp]; exact f, fun k hk => ?_⟩
  rw [hs k hk, h2 _ (by omega) (by omega), h3]
  exact g k hk
theorem Rl.prs {hc hc' hm hm' : xH} {L : Nat} (hR : Rl hc hm) (h1 : cX hc hc') (h2 : mP L hm hm') (hL : 78 + 200 * txN (hm 1) ≤ L) : Rl hc' hm' := by
  obtain ⟨⟨a1, a2, a3, a4⟩, b, c, d, e, f⟩ := hR
  have lt := a4.le.1
  have lo : ∀ j, j < 78 + 200 * txN (hm 1) → hm' 1 j = hm 1 j := fun j hj => h2.2.2 j (Or.inl (by omega))
  have c0 : ∀ q, q ≠ 21 → q ≠ 23 → hc' q = hc q := h1.1
  have m0 : ∀ q, q ≠ 0 → q ≠ 1 → hm' q = hm q := h2.1
  have htx : txN (hm' 1) = txN (hm 1) := by rw [txN, txN, lo 1 (by omega)]
  refine ⟨⟨⟨fun j hj => ?_, fun k hk => ?_⟩, ?_, ?_, ?_⟩, b.cg (by rw [c0 0 (by omega) (by omega)]) (fun q hq => c0 q (by omega) (by omega)) (h2.2.1 3 (by omega)) (m0 2 (by omega) (by omega)) (by rw [htx]; exact Nat.le_refl _), c.cg h1.2 (c0 22 (by omega) (by omega)) (h2.2.1 15 (by omega)) (m0 14 (by omega) (by omega)), d.cg (fun q q1 q2 => c0 q (by omega) (by omega)) (m0 4 (by omega) (by omega)) (m0 5 (by omega) (by omega)) (m0 6 (by omega) (by omega)), e.cg (fun q q1 q2 => c0 q (by omega) (by omega)) (m0 7 (by omega) (by omega)) (m0 8 (by omega) (by omega)) (m0 9 (by omega) (by omega)) (m0 10 (by omega) (by omega)) (m0 11 (by omega) (by omega)), f.cg (by rw [c0 0 (by omega) (by omega)]) (c0 84 (by omega) (by omega)) (h2.2.1 30 (by omega)) (m0 18 (by omega) (by omega))⟩
  · rw [c0 _ (by omega) (by omega), lo j (by omega)]
    exact a1.1 j hj
  · rw [c0 _ (by omega) (by omega), a1.2 k hk]
    unfold cnt
    rw [lo 1 (by omega)]
    exact (cntN_lo lo _ (Nat.le_refl _)).symm
  · obtain ⟨⟨n, h1, h2⟩, h3, h4⟩ := a2
    refine ⟨⟨n, h1, by rw [lo _ (by omega)]; exact h2⟩, fun p hp => ?_, fun d hd => ?_⟩
    · rw [lo _ (by omega), lo _ (by omega)]; exact h3 p hp
    · rw [lo _ (by omega), lo _ (by omega), lo _ (by omega), lo _ (by omega), lo _ (by omega)]; exact h4 d hd
  · rw [lo _ (by omega)]; exact a3
  · refine ⟨by rw [lo 1 (by omega)]; exact a4.1, fun t ht => ?_⟩
    rw [htx] at ht
    exact (a4.2 t ht).cg2 (by rw [c0 2 (by omega) (by omega)]) (by rw [c0 3 (by omega) (by omega)]) (by rw [c0 4 (by omega) (by omega)]) (c0 _ (by omega) (by omega)) (fun j _ hj => lo j (by omega))
/-- a text more -/
theorem Rl.text {hc hc' hm hm' : xH} (hR : Rl hc hm) {n k m : Nat} {s : Int32} (hn : n < 14) (hk : k < 3) (hm96 : m ≤ 96) (e1 : hm 1 1 = nI n) (hw : whl (prog (hm 1) n m)) (he : ∀ j, j < m → enc (nI k) (stp (hm 1) n j) (hc' (6 + n) j)) (c0 : ∀ q, q ≠ 2 → q ≠ 3 → q ≠ 4 → q ≠ 6 + n → q ≠ 24 → q ≠ 33 → hc' q = hc q) (c2 : hc' 2 = upd (hc 2) n (nI k)) (c3 : hc' 3 = upd (hc 3) n s) (c4 : hc' 4 = upd (hc 4) n (nI m)) (c24 : hc' 24 = upd (hc 24) 11 (nI (n + 1))) (c33 : hc' 33 = upd (hc 33) k (nI n)) (m0 : ∀ q, q ≠ 1 → hm' q = hm q) (m1 : hm' 1 = upd (upd (upd (upd (hm 1) (78 + 200 * n) (nI k)) (79 + 200 * n) s) (80 + 200 * n) (nI m)) 1 (nI (n + 1))) : Rl hc' hm' := by
  obtain ⟨⟨a1, a2, a3, a4⟩, b, c, d, e, f⟩ := hR
  have tn : txN (hm 1) = n := txN_of (by omega) e1
  have lo : ∀ j, j ≠ 1 → j < 78 + 200 * n → hm' 1 j = hm 1 j := fun j h1 h2 => by rw [m1, pk_un h1, pk_un (by omega), pk_un (by omega), pk_un (by omega)]
  have g1 : hm' 1 1 = nI (n + 1) := by rw [m1, pk_us]
  have gk : hm' 1 (78 + 200 * n) = nI k := by rw [m1, pk_un (by omega), pk_un (by omega), pk_un (by omega), pk_us]
  have gs : hm' 1 (79 + 200 * n) = s := by rw [m1, pk_un (by omega), pk_un (by omega), pk_us]
  have gm : hm' 1 (80 + 200 * n) = nI m := by rw [m1, pk_un (by omega), pk_us]
  have hi : ∀ j, 81 + 200 * n ≤ j → hm' 1 j = hm 1 j := fun j h2 => by rw [m1, pk_un (by omega), pk_un (by omega), pk_un (by omega), pk_un (by omega)]
  have tn' : txN (hm' 1) = n + 1 := txN_of (by omega) g1
  have old : ∀ (σ : Nat → Int32) t, t < n → TX hc σ t → ∀ σ' : Nat → Int32, (∀ j, 78 + 200 * t ≤ j → j < 278 + 200 * t → σ' j = σ j) → TX hc' σ' t := fun σ t ht hx σ' hσ => hx.cg2 (by rw [c2, pk_un (by omega)]) (by rw [c3, pk_un (by omega)]) (by rw [c4, pk_un (by omega)]) (c0 _ (by omega) (by omega) (by omega) (by omega) (by omega) (by omega)) hσ
  refine ⟨⟨⟨fun j hj => ?_, fun k' hk' => ?_⟩, ?_, ?_, ?_⟩, ?_, c.cg (by rw [c0 21 (by omega) (by omega) (by omega) (by omega) (by omega) (by omega)]) (c0 22 (by omega) (by omega) (by omega) (by omega) (by omega) (by omega)) (by rw [m0 0 (by omega)]) (m0 14 (by omega)), d.cg (fun q q1 q2 => c0 q (by omega) (by omega) (by omega) (by omega) (by omega) (by omega)) (m0 4 (by omega)) (m0 5 (by omega)) (m0 6 (by omega)), e.cg (fun q q1 q2 => c0 q (by omega) (by omega) (by omega) (by omega) (by omega) (by omega)) (m0 7 (by omega)) (m0 8 (by omega)) (m0 9 (by omega)) (m0 10 (by omega)) (m0 11 (by omega)), f.cg (by rw [c0 0 (by omega) (by omega) (by omega) (by omega) (by omega) (by omega)]) (c0 84 (by omega) (by omega) (by omega) (by omega) (by omega) (by omega)) (by rw [m0 0 (by omega)]) (m0 18 (by omega))⟩
  · by_cases j1 : j = 1
    · subst j1
      rw [g1]
      show hc' 24 11 = _
      rw [c24, pk_us]
    · rw [lo j j1 (by omega), ← a1.1 j hj]
      have l9 := lj_9 j hj
      by_cases l0 : lpj j = 0
      · rw [l0, c24, pk_un (fun q => j1 (lj_inj j hj 1 (by omega) (by rw [l0]; rfl) (by rw [q]; rfl)))]
      · rw [c0 _ (by omega) (by omega) (by omega) (by omega) (by omega) (by omega)]
  · show hc' 33 k' = _
    have hcn : cnt (hm' 1) (nI k') = if nI k = nI k' then nI n else cnt (hm 1) (nI k') := by
      unfold cnt
      rw [g1, e1, nI_clamp (by omega), nI_clamp (by omega), cntN, gk]
      have : cntN (hm' 1) (nI k') n = cntN (hm 1) (nI k') n := cntN_lx (fun t ht => lo _ (by omega) (by omega)) n (Nat.le_refl _)
      rw [this]
    rw [hcn, c33]
    by_cases kk : k' = k
    · subst kk; rw [pk_us, if_pos rfl]
    · rw [pk_un kk, if_neg (fun q => kk ((nI_eq (by omega) (by omega)).mp q).symm)]
      exact a1.2 k' hk'
  · rw [m1]
    exact (((a2.free (by omega)).free (by omega)).free (by omega)).free (by omega)
  · rw [lo 2 (by omega) (by omega)]; exact a3
  · refine ⟨⟨n + 1, by omega, g1⟩, fun t ht => ?_⟩
    rw [tn'] at ht
    by_cases tt : t = n
    · subst tt
      have hs : ∀ j, j < m → stp (hm' 1) t j = stp (hm 1) t j := fun j hj => by
        unfold stp
        rw [hi _ (by omega), hi _ (by omega)]
      have hp : prog (hm' 1) t m = prog (hm 1) t m := List.map_congr_left (fun j hj => hs j (List.mem_range.mp hj))
      refine ⟨by rw [gk]; exact rg_of (by omega) (by omega), by rw [gk, c2, pk_us], by rw [gs, c3, pk_us], by rw [gm, c4, pk_us], m, hm96, gm, by rw [hp]; exact hw, fun j hj => ?_⟩
      rw [hs j hj, gk]
      exact he j hj
    · exact old (hm 1) t (by omega) (a4.2 t (by rw [tn]; omega)) (hm' 1) (fun j h1 h2 => lo j (by omega) (by omega))
  · rcases b with ⟨b1, b2⟩ | ⟨b1, b2, b3, b4, b5, b6, b7⟩
    · exact Or.inl ⟨by rw [m0 0 (by omega)]; exact b1, by rw [c0 0 (by omega) (by omega) (by omega) (by omega) (by omega) (by omega)]; exact b2⟩
    · refine Or.inr ⟨by rw [m0 0 (by omega)]; exact b1, by rw [c0 0 (by omega) (by omega) (by omega) (by omega) (by omega) (by omega)]; exact b2, ?_, ?_, ?_, ?_, ?_⟩
      · rw [m0 2 (by omega)]
        exact b3.keep (fun q q1 q2 => c0 q (by omega) (by omega) (by omega) (by omega) (by omega) (by omega))
      · rw [m0 2 (by omega)]; exact b4
      · rw [m0 2 (by omega)]; exact b5
      · rw [m0 2 (by omega)]
        exact ⟨b6.1, fun t ht => old (hm 2) t (by rw [tn] at b7; omega) (b6.2 t ht) (hm 2) (fun _ _ _ => rfl)⟩
      · rw [m0 2 (by omega), tn']
        rw [tn] at b7
        omega
