/-! the levels of a text -/
def sgB (l : Nat) (c : Int32) : Bool := if l = 0 then decide (c = 124) else if l = 1 then decide (c = 38) else if l = 2 then decide (c = 60 ∨ c = 61 ∨ c = 62) else if l = 3 then decide (c = 43 ∨ c = 45) else decide (c = 42 ∨ c = 47)
theorem sgB_ok {l : Nat} {c : Int32} (h : sgB l c = true) : isSg c ∧ c ≠ 33 := by
  unfold sgB at h
  unfold isSg
  repeat' split at h
  all_goals rw [decide_eq_true_eq] at h
  · subst h; decide
  · subst h; decide
  · rcases h with rfl | rfl | rfl <;> decide
  · rcases h with rfl | rfl <;> decide
  · rcases h with rfl | rfl <;> decide
theorem C_joins {l : Nat} (hl : l < 5) (h : xH) : f_X2_joinsAt (nI l) h = some (if h 21 5 = 1 ∧ sgB l (h 21 6) = true then 1 else 0, h) := by
  have z : ∀ a b : Nat, a < 5 → b < 5 → a ≠ b → ¬ nI a = nI b := fun a b ha hb hab q => hab ((nI_eq (by omega) (by omega)).mp q)
  unfold f_X2_joinsAt sgB
  simp only [C_isSign, bn_s, b01, gb01]
  rcases (show l = 0 ∨ l = 1 ∨ l = 2 ∨ l = 3 ∨ l = 4 by omega) with rfl | rfl | rfl | rfl | rfl
  · rw [if_pos (show nI 0 = 0 from rfl)]
    simp
  · rw [if_neg (show ¬ nI 1 = 0 by decide), if_pos (show nI 1 = 1 from rfl)]
    simp
  · rw [if_neg (show ¬ nI 2 = 0 by decide), if_neg (show ¬ nI 2 = 1 by decide), if_pos (show nI 2 = 2 from rfl)]
    by_cases c : h 21 5 = 1 <;> by_cases c1 : h 21 6 = 60 <;> by_cases c2 : h 21 6 = 61 <;> by_cases c3 : h 21 6 = 62 <;> simp [c, c1, c2, c3]
  · rw [if_neg (show ¬ nI 3 = 0 by decide), if_neg (show ¬ nI 3 = 1 by decide), if_neg (show ¬ nI 3 = 2 by decide), if_pos (show nI 3 = 3 from rfl)]
    by_cases c : h 21 5 = 1 <;> by_cases c1 : h 21 6 = 43 <;> by_cases c2 : h 21 6 = 45 <;> simp [c, c1, c2]
  · rw [if_neg (show ¬ nI 4 = 0 by decide), if_neg (show ¬ nI 4 = 1 by decide), if_neg (show ¬ nI 4 = 2 by decide), if_neg (show ¬ nI 4 = 3 by decide)]
    by_cases c : h 21 5 = 1 <;> by_cases c1 : h 21 6 = 42 <;> by_cases c2 : h 21 6 = 47 <;> simp [c, c1, c2]
theorem C_42 {self : xRec} {l : Nat} (hl : l < 5) {a2 a3 v4 : Int32} (f : Nat) (i : Int32) (h : xH) : f_X2_readLevel_b_c42 self (nI l) a2 a3 (f + 1) v4 i h = if v4 ≤ i then some (1, h) else if h 21 5 = 1 ∧ sgB l (h 21 6) = true then (bn (f_X2_goToNext h) fun r4 h5 => bn (self 0 (nI l + 1) a2 a3 h5) fun r7 h8 => if r7 = 0 then (some (0, h8)) else (bn (f_X2_addStep (-(h 21 6)) h8) fun r10 h11 => f_X2_readLevel_b_c42 self (nI l) a2 a3 f v4 (i + 1) h11)) else some (1, h) := by
  rw [f_X2_readLevel_b_c42, C_joins hl, bn_s, b01]
theorem M_or {self : xRec} {key : Int32} (f : Nat) (h : xH) : f_X7_either_b_c10 self key (f + 1) h = if h 0 18 = 3 ∧ sgB 0 (h 0 20) = true then (bn (f_X7_nextToken h) fun r4 h5 => bn (self 1 key 0 0 h5) fun r7 h8 => if r7 = 0 then (some (0, h8)) else (bn (f_X7_step 2 (h 0 20) h8) fun r10 h11 => f_X7_either_b_c10 self key f h11)) else some (1, h) := by
  rw [f_X7_either_b_c10, M_isSign, bn_s, b01]
  by_cases c : h 0 20 = 124
  · by_cases c18 : h 0 18 = 3
    · rw [if_pos ⟨c18, c⟩, if_pos ⟨c18, by rw [c]; decide⟩, c]
    · rw [if_neg (fun q => c18 q.1), if_neg (fun q => c18 q.1)]
  · rw [if_neg (fun q => c q.2), if_neg (fun q => c (of_decide_eq_true q.2))]
theorem M_and {self : xRec} {key : Int32} (f : Nat) (h : xH) : f_X7_both_b_c10 self key (f + 1) h = if h 0 18 = 3 ∧ sgB 1 (h 0 20) = true then (bn (f_X7_nextToken h) fun r4 h5 => bn (self 2 key 0 0 h5) fun r7 h8 => if r7 = 0 then (some (0, h8)) else (bn (f_X7_step 2 (h 0 20) h8) fun r10 h11 => f_X7_both_b_c10 self key f h11)) else some (1, h) := by
  rw [f_X7_both_b_c10, M_isSign, bn_s, b01]
  by_cases c : h 0 20 = 38
  · by_cases c18 : h 0 18 = 3
    · rw [if_pos ⟨c18, c⟩, if_pos ⟨c18, by rw [c]; decide⟩, c]
    · rw [if_neg (fun q => c18 q.1), if_neg (fun q => c18 q.1)]
  · rw [if_neg (fun q => c q.2), if_neg (fun q => c (of_decide_eq_true q.2))]
theorem M_sm {self : xRec} {key : Int32} (f : Nat) (h : xH) : f_X7_sum_b_c10 self key (f + 1) h = if h 0 18 = 3 ∧ sgB 3 (h 0 20) = true then (bn (f_X7_nextToken h) fun r4 h5 => bn (self 4 key 0 0 h5) fun r7 h8 => if r7 = 0 then (some (0, h8)) else (bn (f_X7_step 2 (h 0 20) h8) fun r10 h11 => f_X7_sum_b_c10 self key f h11)) else some (1, h) := by
  rw [f_X7_sum_b_c10, M_isSign, bn_s, b01, M_isSign, bn_s, b01]
  unfold f_X7_sum_b_c28 sgB
  by_cases c : h 0 18 = 3 <;> by_cases c1 : h 0 20 = 43 <;> by_cases c2 : h 0 20 = 45 <;> simp [c, c1, c2]
theorem M_tm {self : xRec} {key : Int32} (f : Nat) (h : xH) : f_X7_term_b_c10 self key (f + 1) h = if h 0 18 = 3 ∧ sgB 4 (h 0 20) = true then (bn (f_X7_nextToken h) fun r4 h5 => bn (self 5 key 0 0 h5) fun r7 h8 => if r7 = 0 then (some (0, h8)) else (bn (f_X7_step 2 (h 0 20) h8) fun r10 h11 => f_X7_term_b_c10 self key f h11)) else some (1, h) := by
  rw [f_X7_term_b_c10, M_isSign, bn_s, b01, M_isSign, bn_s, b01]
  unfold f_X7_term_b_c28 sgB
  by_cases c : h 0 18 = 3 <;> by_cases c1 : h 0 20 = 42 <;> by_cases c2 : h 0 20 = 47 <;> simp [c, c1, c2]
theorem M_tst {self : xRec} {key : Int32} (h : xH) : (bn (f_X7_isSign 60 h) fun r4 h5 => if r4 = 0 then (bn (f_X7_isSign 61 h5) fun r7 h8 => if r7 = 0 then (bn (f_X7_isSign 62 h8) fun r10 h11 => if r10 = 0 then (some (1, h11)) else (f_X7_test_b_c37 self key h11)) else (f_X7_test_b_c37 self key h8)) else (f_X7_test_b_c37 self key h5)) = if h 0 18 = 3 ∧ sgB 2 (h 0 20) = true then (bn (f_X7_nextToken h) fun r4 h5 => bn (self 3 key 0 0 h5) fun r7 h8 => if r7 = 0 then (some (0, h8)) else (bn (f_X7_step 2 (h 0 20) h8) fun r10 h11 => some (1, h11))) else some (1, h) := by
  rw [M_isSign, bn_s, b01, M_isSign, bn_s, b01, M_isSign, bn_s, b01]
  unfold f_X7_test_b_c37 sgB
  by_cases c : h 0 18 = 3 <;> by_cases c1 : h 0 20 = 60 <;> by_cases c2 : h 0 20 = 61 <;> by_cases c3 : h 0 20 = 62 <;> simp [c, c1, c2, c3]
theorem lev {tp : Nat → Int32} {T L : Nat} {key : Int32} {o t l n n' : Nat} (hL : L + 192 ≤ 3078) (hl : l < 5) (hS : SIMF tp T L key o t (f_X2_rec n 0 (nI l + 1) (nI o) (nI t)) (f_X7_rec n' (l + 1) key 0 0)) : SIMF tp T L key o t (f_X2_rec (n + 1) 0 (nI l) (nI o) (nI t)) (f_X7_rec (n' + 1) l key 0 0) := by
  intro hc hm b e m hP hmb
  have z10 : ¬ (1 : Int32) = 0 := by decide
  have hC : ∀ h : xH, f_X2_rec (n + 1) 0 (nI l) (nI o) (nI t) h = bn (f_X2_rec n 0 (nI l + 1) (nI o) (nI t) h) fun r1 h2 => if r1 = 0 then (some (0, h2)) else (if nI l = 2 then (f_X2_readLevel_b_c42 (f_X2_rec n) (nI l) (nI o) (nI t) xN 1 0 h2) else (f_X2_readLevel_b_c42 (f_X2_rec n) (nI l) (nI o) (nI t) xN 96 0 h2)) := by
    intro h
    rw [f_X2_rec, if_pos rfl]
    unfold f_X2_readLevel_b
    rw [if_pos (show nI l < 5 from nI_lt (b := 5) hl (by omega))]
    rfl
  rw [hC]
  rcases hS hc hm b e m hP hmb with ⟨hc1, hm1, b1, e1, m1, x1, y1, ok⟩ | ⟨hc1, hm1, x1, y1, no⟩
  · have q3 := hP.1.1
    rw [x1, bn_s, if_neg z10]
    rcases (show l = 0 ∨ l = 1 ∨ l = 2 ∨ l = 3 ∨ l = 4 by omega) with rfl | rfl | rfl | rfl | rfl
    · rw [if_neg (show ¬ nI 0 = 2 by decide), f_X7_rec, if_pos rfl, f_X7_either_b, y1, bn_s, if_neg z10]
      exact loop_ok hS hL (S := sgB 0) (fun c hc => sgB_ok hc) (lC := fun f i h => f_X2_readLevel_b_c42 (f_X2_rec n) (nI 0) (nI o) (nI t) f 96 i h) (lM := fun f h => f_X7_either_b_c10 (f_X7_rec n') key f h) (fun f i h => C_42 hl f i h) (fun f h => M_or f h) hmb T xN xN 0 hc1 hm1 b1 e1 m1 (by omega) (by unfold xN; omega) (by unfold xN; omega) (Nat.zero_le _) ok
    · rw [if_neg (show ¬ nI 1 = 2 by decide), f_X7_rec, if_neg (by decide), if_pos rfl, f_X7_both_b, y1, bn_s, if_neg z10]
      exact loop_ok hS hL (S := sgB 1) (fun c hc => sgB_ok hc) (lC := fun f i h => f_X2_readLevel_b_c42 (f_X2_rec n) (nI 1) (nI o) (nI t) f 96 i h) (lM := fun f h => f_X7_both_b_c10 (f_X7_rec n') key f h) (fun f i h => C_42 hl f i h) (fun f h => M_and f h) hmb T xN xN 0 hc1 hm1 b1 e1 m1 (by omega) (by unfold xN; omega) (by unfold xN; omega) (Nat.zero_le _) ok
    · obtain ⟨f, hf⟩ : ∃ f, xN = f + 2 := ⟨xN - 2, by unfold xN; omega⟩
      rw [if_pos (show nI 2 = 2 from rfl), hf, C_42 hl, if_neg (show ¬ (1 : Int32) ≤ 0 by decide), f_X7_rec, if_neg (show ¬ (2 : Nat) = 0 by decide), if_neg (show ¬ (2 : Nat) = 1 by decide), if_pos (show (2 : Nat) = 2 from rfl), f_X7_test_b, y1, bn_s, if_neg z10, M_tst]
      have hq := ok.1.2.2.1
      by_cases J : hc1 21 5 = 1 ∧ sgB 2 (hc1 21 6) = true
      · obtain ⟨hbe, e20⟩ := hq.sign.2 J.1
        have J2 : hm1 0 18 = 3 ∧ sgB 2 (hm1 0 20) = true := ⟨hq.sign.1.mp J.1, by rw [← e20]; exact J.2⟩
        obtain ⟨hg1, hg2⟩ := sgB_ok J2.2
        have hmb' : m1 ≤ b1 := by
          have := ok.2.2.2.1
          omega
        rw [if_pos J, if_pos J2]
        rcases join1 (KC := f_X2_readLevel_b_c42 (f_X2_rec n) (nI 2) (nI o) (nI t) (f + 1) 1 (0 + 1)) (KM := fun h11 => some (1, h11)) hS hL ok.1 hmb' J.1 hg1 with ⟨hc', hm', b', e', m', w1, w2, w3, w4, w5, w6, w7, w8, w9, w10⟩ | ⟨hc', hm', w1, w2, w3⟩
        · rw [w1, w2, C_42 hl, if_pos (by decide)]
          exact Or.inl ⟨hc', hm', b', e', m', rfl, rfl, ok.more hg2 w3 w4 w5 w6 w7 w8 w9 w10⟩
        · exact Or.inr ⟨hc', hm', w1, w2, w3.1, ok.2.2.2.2.2.2.1.tr w3.2.1, ok.2.2.2.2.2.2.2.tr w3.2.2⟩
      · have J2 : ¬ (hm1 0 18 = 3 ∧ sgB 2 (hm1 0 20) = true) := fun z => J (by
          have z1 := hq.sign.1.mpr z.1
          exact ⟨z1, by rw [(hq.sign.2 z1).2]; exact z.2⟩)
        rw [if_neg J, if_neg J2]
        exact Or.inl ⟨hc1, hm1, b1, e1, m1, rfl, rfl, ok⟩
    · rw [if_neg (show ¬ nI 3 = 2 by decide), f_X7_rec, if_neg (by decide), if_neg (by decide), if_neg (by decide), if_pos rfl, f_X7_sum_b, y1, bn_s, if_neg z10]
      exact loop_ok hS hL (S := sgB 3) (fun c hc => sgB_ok hc) (lC := fun f i h => f_X2_readLevel_b_c42 (f_X2_rec n) (nI 3) (nI o) (nI t) f 96 i h) (lM := fun f h => f_X7_sum_b_c10 (f_X7_rec n') key f h) (fun f i h => C_42 hl f i h) (fun f h => M_sm f h) hmb T xN xN 0 hc1 hm1 b1 e1 m1 (by omega) (by unfold xN; omega) (by unfold xN; omega) (Nat.zero_le _) ok
    · rw [if_neg (show ¬ nI 4 = 2 by decide), f_X7_rec, if_neg (by decide), if_neg (by decide), if_neg (by decide), if_neg (by decide), if_pos rfl, f_X7_term_b, y1, bn_s, if_neg z10]
      exact loop_ok hS hL (S := sgB 4) (fun c hc => sgB_ok hc) (lC := fun f i h => f_X2_readLevel_b_c42 (f_X2_rec n) (nI 4) (nI o) (nI t) f 96 i h) (lM := fun f h => f_X7_term_b_c10 (f_X7_rec n') key f h) (fun f i h => C_42 hl f i h) (fun f h => M_tm f h) hmb T xN xN 0 hc1 hm1 b1 e1 m1 (by omega) (by unfold xN; omega) (by unfold xN; omega) (Nat.zero_le _) ok
  · refine Or.inr ⟨hc1, hm1, by rw [x1, bn_s, if_pos rfl], ?_, no⟩
    rcases (show l = 0 ∨ l = 1 ∨ l = 2 ∨ l = 3 ∨ l = 4 by omega) with rfl | rfl | rfl | rfl | rfl
    · rw [f_X7_rec, if_pos rfl, f_X7_either_b, y1, bn_s, if_pos rfl]
    · rw [f_X7_rec, if_neg (by decide), if_pos rfl, f_X7_both_b, y1, bn_s, if_pos rfl]
    · rw [f_X7_rec, if_neg (by decide), if_neg (by decide), if_pos rfl, f_X7_test_b, y1, bn_s, if_pos rfl]
    · rw [f_X7_rec, if_neg (by decide), if_neg (by decide), if_neg (by decide), if_pos rfl, f_X7_sum_b, y1, bn_s, if_pos rfl]
    · rw [f_X7_rec, if_neg (by decide), if_neg (by decide), if_neg (by decide), if_neg (by decide), if_pos rfl, f_X7_term_b, y1, bn_s, if_pos rfl]
