theorem sg_prog {h : xH} {n m : Nat} : sg h (82 + 200 * n) 0 m = prog (h 1) n m := by
  unfold sg prog
  rw [List.range_eq_range']
  refine List.map_congr_left (fun k _ => ?_)
  unfold stp
  rw [show 82 + 200 * n + 2 * k + 1 = 83 + 200 * n + 2 * k by omega]
theorem M_parse {hm : xH} {n : Nat} (h1 : hm 1 1 = nI n) (hn : n ≤ 14) : f_X7_parse hm = f_X7_parse_c60 (nI (if n = 14 then 2878 else 82 + 200 * n)) (xst (xst (xst (xst (xst (xst hm 0 17 0) 0 18 3) 0 21 0) 0 22 0) 0 23 0) 0 25 0) := by
  unfold f_X7_parse
  simp only [nm_x]
  have e : xst (xst (xst (xst (xst (xst hm 0 17 0) 0 18 3) 0 21 0) 0 22 0) 0 23 0) 0 25 0 1 = hm 1 := by
    rw [xst_ne (by omega), xst_ne (by omega), xst_ne (by omega), xst_ne (by omega), xst_ne (by omega), xst_ne (by omega)]
  rw [gS_1, gS_1, cN_1, e, h1]
  by_cases c : n = 14
  · subst c
    rw [if_pos (show (14 : Int32) ≤ nI 14 by decide), if_pos rfl]
    rfl
  · rw [if_neg (show ¬ (14 : Int32) ≤ nI n from nI_ge (b := 14) (by omega) (by omega)), if_neg c, M_textAt, bn_s, show nI (78 + 200 * n) + 4 = nI (82 + 200 * n) by rw [show (4 : Int32) = nI 4 from rfl, nI_add]; congr 1; omega]
theorem C_write {h : xH} {n k m : Nat} {s : Int32} (h7 : h 21 7 = nI k) (h9 : h 21 9 = s) (h8 : h 21 8 = nI m) (hn : n < 14) (hm : m ≤ 96) : ∃ h', f_X0_write (nI n) h = some (0, h') ∧ h' 2 = upd (h 2) n (nI k) ∧ h' 3 = upd (h 3) n s ∧ h' 4 = upd (h 4) n (nI m) ∧ (∀ j, j < m → h' (6 + n) j = h 23 j) ∧ ∀ q, q ≠ 2 → q ≠ 3 → q ≠ 4 → q ≠ 6 + n → h' q = h q := by
  have e1 : xst h 2 n (nI k) 21 9 = s := by rw [xst_ne (by omega)]; exact h9
  have e2 : xst (xst h 2 n (nI k)) 3 n s 21 8 = nI m := by rw [xst_ne (by omega), xst_ne (by omega)]; exact h8
  have e3 : xst (xst (xst h 2 n (nI k)) 3 n s) 4 n (nI m) 21 8 = nI m := by rw [xst_ne (by omega), xst_ne (by omega), xst_ne (by omega)]; exact h8
  have w : f_X0_write (nI n) h = some (0, xpt (xst (xst (xst h 2 n (nI k)) 3 n s) 4 n (nI m)) (6 + n) (va_cpy (xst (xst (xst h 2 n (nI k)) 3 n s) 4 n (nI m) 23) (xst (xst (xst h 2 n (nI k)) 3 n s) 4 n (nI m) (6 + n)) 0 0 m)) := by
    unfold f_X0_write
    simp only [gd_n (show n < 14 by omega) (show 14 < 2 ^ 31 by omega), nI_clamp (show n < 2 ^ 31 by omega), nm_x, h7, e1, e2, e3]
    rw [gc_ok (by rw [nI_clamp (by omega)]; exact ⟨hm, hm, nI_pos (by omega)⟩), nI_clamp (by omega), cN_0]
  refine ⟨_, w, ?_, ?_, ?_, fun j hj => ?_, fun q q1 q2 q3 q4 => ?_⟩
  · rw [xpt_ne (by omega), xst_ne (by omega), xst_ne (by omega), xst_self]
  · rw [xpt_ne (by omega), xst_ne (by omega), xst_self, xst_ne (by omega)]
  · rw [xpt_ne (by omega), xst_self, xst_ne (by omega), xst_ne (by omega)]
  · rw [xpt_self, cpy0 hj, xst_ne (by omega), xst_ne (by omega), xst_ne (by omega)]
  · rw [xpt_ne q4, xst_ne q3, xst_ne q2, xst_ne q1]
theorem g_3 {ρ : Type} {k : Nat} {x : Option ρ} (hk : k < 3) : gd (nI k) 3 x = x := gd_n hk (by omega)
theorem S_text_ok {κ : Nat} (hκ : κ < 64) : S_text (Rk κ) (Rk (κ + 1)) := by
  intro hc hm hR
  refine Sm.k hκ hR ?_
  have hR := hR.1
  obtain ⟨⟨T, hT, t1, t2⟩, t3⟩ := hR.2.2.1
  obtain ⟨l1, l2⟩ := hR.1.2.2.2.le
  have z10 : ¬ (1 : Int32) = 0 := by decide
  obtain ⟨n, hn⟩ : ∃ n, n = txN (hm 1) := ⟨_, rfl⟩
  rw [← hn] at l1 l2
  obtain ⟨L, hLd⟩ : ∃ L, L = if n = 14 then 2878 else 82 + 200 * n := ⟨_, rfl⟩
  have hL : L + 192 ≤ 3078 ∧ 78 + 200 * txN (hm 1) ≤ L := by
    rw [← hn, hLd]
    split <;> omega
  have hMp := M_parse l2 l1
  rw [← hLd] at hMp
  have e14 : hc 24 11 = nI n := hR.1.1.texts.trans l2
  unfold f_X6_text f_X7_text
  rcases parse_ok (T := T) ⟨hT, t1, fun i hi => (t3 i hi).1⟩ ⟨hT, t2, rfl⟩ hL.1 hMp with ⟨hc', hm', x1, x2, x3, x4, x5⟩ | ⟨hc', hm', k, m, x1, x2, hk, x3, hm96, x4, x5, x6⟩
  · have hR2 := (hR.prs x4 x5 hL.2).tape (n := 0) (by omega)
    rw [x1, x2, bn_s, bn_s, nm_x, if_pos rfl, if_neg (show ¬ (0 : Int32) ≤ -1 by decide), xst_self, pk_un (show (3 : Nat) ≠ 2 by omega), x3, xst_self, pk_un (show (16 : Nat) ≠ 15 by omega)]
    refine .to (.m1 ?_ ?_ ?_) hR2
    · rw [xst_self, pk_un (by omega), x5.2.1 3 (by omega)]
    · rw [xst_ne (by omega), x5.1 2 (by omega) (by omega)]
    · rw [xst_ne (by omega), x5.2.2 3 (Or.inl (by omega))]
  · have hR2 := (hR.prs x5 x6 hL.2).tape (n := 0) (by omega)
    have a11 : xst hc' 21 2 0 24 11 = nI n := by rw [xst_ne (by omega), x5.1 24 (by omega) (by omega), e14]
    have b11 : xst hm' 0 15 0 1 1 = nI n := by rw [xst_ne (by omega), x6.2.2 1 (Or.inl (by omega)), l2]
    have gr3 : xst hm' 0 15 0 0 3 = hm 0 3 := by rw [xst_self, pk_un (by omega), x6.2.1 3 (by omega)]
    have gr2 : xst hm' 0 15 0 2 = hm 2 := by rw [xst_ne (by omega), x6.1 2 (by omega) (by omega)]
    have gr1 : xst hm' 0 15 0 1 3 = hm 1 3 := by rw [xst_ne (by omega), x6.2.2 3 (Or.inl (by omega))]
    rw [x1, x2, bn_s, bn_s, nm_x, if_neg z10, if_pos (show (0 : Int32) ≤ nI k from nI_pos' (by omega)), gS_1, cN_1, a11, b11]
    by_cases c : n = 14
    · rw [if_neg (show ¬ nI n < 14 by rw [c]; decide), if_pos (show nI n = 14 by rw [c]; rfl)]
      exact .to (.m1 gr3 gr2 gr1) hR2
    · have hL2 : L = 82 + 200 * n := by rw [hLd, if_neg c]
      subst hL2
      obtain ⟨y1, y2, y3, y4, y5, y6⟩ := x3
      have b1 : xst hm' 0 15 0 1 = hm' 1 := xst_ne (by omega)
      have q7 : xst hc' 21 2 0 21 7 = nI k := by rw [xst_self, pk_un (by omega)]; exact y5
      have q9 : xst hc' 21 2 0 21 9 = hm' 0 25 := by rw [xst_self, pk_un (by omega)]; exact y4
      have q8 : xst hc' 21 2 0 21 8 = nI m := by rw [xst_self, pk_un (by omega)]; exact y1
      have q23 : xst hc' 21 2 0 23 = hc' 23 := xst_ne (by omega)
      have p25 : xst hm' 0 15 0 0 25 = hm' 0 25 := by rw [xst_self, pk_un (by omega)]
      have p23 : xst hm' 0 15 0 0 23 = nI m := by rw [xst_self, pk_un (by omega)]; exact y2
      have hR3 : Rl (xst hc' 21 2 0) (xst hm' 0 15 0) := hR2
      generalize xst hc' 21 2 0 = g at a11 q7 q8 q9 q23 hR3
      generalize xst hm' 0 15 0 = j at b11 gr3 gr2 gr1 b1 p25 p23 hR3
      obtain ⟨g1, w1, w2, w3, w4, w5, w6⟩ := C_write (h := g) (n := n) q7 q9 q8 (by omega) hm96
      have r7 : xst g1 24 11 (nI (n + 1)) 21 7 = nI k := by rw [xst_ne (by omega), w6 21 (by omega) (by omega) (by omega) (by omega)]; exact q7
      rw [if_pos (show nI n < 14 from nI_lt (b := 14) (by omega) (by omega)), w1, bn_s, nm_x, nI_1, r7, g_3 hk, nm_x, nI_clamp (show k < 2 ^ 31 by omega)]
      have i0 : nI (78 + 200 * n) + 0 = nI (78 + 200 * n) := Int32.add_zero _
      have i1 : nI (78 + 200 * n) + 1 = nI (79 + 200 * n) := by rw [nI_1]; congr 1; omega
      have i2 : nI (78 + 200 * n) + 2 = nI (80 + 200 * n) := by rw [show (2 : Int32) = nI 2 from rfl, nI_add]; congr 1; omega
      have u1 : xst j 1 (78 + 200 * n) (nI k) 0 25 = hm' 0 25 := by rw [xst_ne (by omega)]; exact p25
      have u2 : xst (xst j 1 (78 + 200 * n) (nI k)) 1 (79 + 200 * n) (hm' 0 25) 0 23 = nI m := by rw [xst_ne (by omega), xst_ne (by omega)]; exact p23
      have u3 : xst (xst (xst j 1 (78 + 200 * n) (nI k)) 1 (79 + 200 * n) (hm' 0 25)) 1 (80 + 200 * n) (nI m) 1 1 = nI n := by rw [xst_self, pk_un (by omega), xst_self, pk_un (by omega), xst_self, pk_un (by omega)]; exact b11
      have u4 : xst (xst (xst (xst j 1 (78 + 200 * n) (nI k)) 1 (79 + 200 * n) (hm' 0 25)) 1 (80 + 200 * n) (nI m)) 1 1 (nI (n + 1)) 1 1 = nI (n + 1) := by rw [xst_self, pk_us]
      rw [if_neg (show ¬ nI n = 14 from fun q => c ((nI_eq (b := 14) (by omega) (by omega)).mp q)), gS_1, M_textAt, bn_s]
      simp only [nm_x, i0, i1, i2, gd_n (show 78 + 200 * n < 3078 by omega) (show 3078 < 2 ^ 31 by omega), gd_n (show 79 + 200 * n < 3078 by omega) (show 3078 < 2 ^ 31 by omega), gd_n (show 80 + 200 * n < 3078 by omega) (show 3078 < 2 ^ 31 by omega), nI_clamp (show 78 + 200 * n < 2 ^ 31 by omega), nI_clamp (show 79 + 200 * n < 2 ^ 31 by omega), nI_clamp (show 80 + 200 * n < 2 ^ 31 by omega), gS_1, cN_1, u1, u2, u3, nI_1, u4, nI_pred]
      have v1 : xst (xst (xst (xst j 1 (78 + 200 * n) (nI k)) 1 (79 + 200 * n) (hm' 0 25)) 1 (80 + 200 * n) (nI m)) 1 1 (nI (n + 1)) 1 = upd (upd (upd (upd (j 1) (78 + 200 * n) (nI k)) (79 + 200 * n) (hm' 0 25)) (80 + 200 * n) (nI m)) 1 (nI (n + 1)) := by rw [xst_self, xst_self, xst_self, xst_self]
      have v0 : ∀ q, q ≠ 1 → xst (xst (xst (xst j 1 (78 + 200 * n) (nI k)) 1 (79 + 200 * n) (hm' 0 25)) 1 (80 + 200 * n) (nI m)) 1 1 (nI (n + 1)) q = j q := fun q hq => by rw [xst_ne hq, xst_ne hq, xst_ne hq, xst_ne hq]
      generalize xst (xst (xst (xst j 1 (78 + 200 * n) (nI k)) 1 (79 + 200 * n) (hm' 0 25)) 1 (80 + 200 * n) (nI m)) 1 1 (nI (n + 1)) = j2 at v0 v1
      refine .to (.m1 (by rw [v0 0 (by omega)]; exact gr3) (by rw [v0 2 (by omega)]; exact gr2) (by rw [v1, pk_un (by omega), pk_un (by omega), pk_un (by omega), pk_un (by omega)]; exact gr1)) (hR3.text (n := n) (k := k) (m := m) (s := hm' 0 25) (by omega) hk hm96 b11 ?_ (fun i hi => ?_) (fun q q1 q2 q3 q4 q5 q6 => ?_) ?_ ?_ ?_ ?_ ?_ v0 v1)
      · rw [b1, ← sg_prog]; exact x4
      · rw [xst_ne (by omega), xst_ne (by omega), w5 i hi, q23, b1]
        have := y6 i hi
        unfold stp
        rw [show 82 + 200 * n + 2 * i + 1 = 83 + 200 * n + 2 * i by omega] at this
        exact this
      · rw [xst_ne q6, xst_ne q5, w6 q q1 q2 q3 q4]
      · rw [xst_ne (by omega), xst_ne (by omega), w2]
      · rw [xst_ne (by omega), xst_ne (by omega), w3]
      · rw [xst_ne (by omega), xst_ne (by omega), w4]
      · rw [xst_ne (by omega), xst_self, w6 24 (by omega) (by omega) (by omega) (by omega)]
      · rw [xst_self, xst_ne (by omega), w6 33 (by omega) (by omega) (by omega) (by omega)]
theorem sim_all {κ : Nat} (h : κ < 64) : SimAll (Rk κ) (Rk (κ + 1)) := ⟨S_day_ok h, S_told_ok h, S_as_ok h, S_turns_ok h, S_set_ok h, S_one_ok h, S_gives_ok h, S_offer_ok h, S_deal_ok h, S_seed_ok h, S_sale_ok h, S_markets_ok h, S_ledger_ok h, S_isTrue_ok h, S_falseMany_ok h, S_fill_ok h, S_emptied_ok h, S_behind_ok h, S_richest_ok h, S_worn_ok h, S_dye_ok h, S_mends_ok h, S_toldBy_ok h, S_fine_ok h, S_feed_ok h, S_trim_ok h, S_text_ok h, S_textTold_ok h, S_why_ok h, S_sheet_ok h, S_mark_ok h, S_pour_ok h, S_reads_ok h, S_copy_ok h, S_lay_ok h, S_ask_ok h, S_item_ok h, S_rest_ok h, S_tell_ok h, S_check_ok h, S_keep_ok h, S_back_ok h, S_count_ok h⟩
