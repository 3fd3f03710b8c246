/-! rows alike up to 2878 -/
theorem cntN_cp {σ σ' : Nat → Int32} {k : Int32} (h : ∀ j, j < 2878 → σ' j = σ j) : ∀ n, n ≤ 14 → cntN σ' k n = cntN σ k n
  | 0, _ => rfl
  | n + 1, hn => by rw [cntN, cntN, h _ (by omega), cntN_cp h n (by omega)]
theorem cnt_cp {σ σ' : Nat → Int32} {k : Int32} (h : ∀ j, j < 2878 → σ' j = σ j) (ht : txN σ ≤ 14) : cnt σ' k = cnt σ k := by
  unfold cnt
  rw [h 1 (by omega)]
  exact cntN_cp h _ ht
theorem WR.cp {g : xH} {w : Nat} {σ σ' : Nat → Int32} (hw : WR g w σ) (h : ∀ j, j < 2878 → σ' j = σ j) (ht : txN σ ≤ 14) : WR g w σ' :=
  ⟨fun j hj => by rw [h j (by omega)]; exact hw.1 j hj, fun k hk => by rw [cnt_cp h ht]; exact hw.2 k hk⟩
theorem Bnd.cp {σ σ' : Nat → Int32} (hb : Bnd σ) (h : ∀ j, j < 2878 → σ' j = σ j) : Bnd σ' := by
  obtain ⟨⟨n, h1, h2⟩, h3, h4⟩ := hb
  refine ⟨⟨n, h1, by rw [h _ (by omega)]; exact h2⟩, fun p hp => ?_, fun d hd => ?_⟩
  · rw [h _ (by omega), h _ (by omega)]; exact h3 p hp
  · rw [h _ (by omega), h _ (by omega), h _ (by omega), h _ (by omega), h _ (by omega)]; exact h4 d hd
theorem LW.cp {hc : xH} {σ σ' : Nat → Int32} (hl : LW hc σ) (h : ∀ j, j < 2878 → σ' j = σ j) : LW hc σ' := by
  have hle := hl.le.1
  obtain ⟨n, hn⟩ := hl
  have ht : txN σ' = txN σ := by rw [txN, txN, h 1 (by omega)]
  refine ⟨by rw [h 1 (by omega)]; exact n, fun t htt => ?_⟩
  rw [ht] at htt
  exact (hn t htt).cg (by omega) (fun _ _ _ => rfl) (fun j _ hj => h j (by omega))
theorem txN_cp {σ σ' : Nat → Int32} (h : ∀ j, j < 2878 → σ' j = σ j) : txN σ' = txN σ := by rw [txN, txN, h 1 (by omega)]
theorem S_keep_ok {κ : Nat} (hκ : κ < 64) : S_keep (Rk κ) (Rk (κ + 1)) := by
  intro hc hm hR
  refine Sm.k hκ hR ?_
  have hR := hR.1
  obtain ⟨hc', e1, e2, e3⟩ := C_become (w := 34) hR.1.1 (Or.inl (by omega))
  rw [f_X6_keep, f_X7_keep, e1, bn_s, nm_x, nm_x, M_setAside (by omega), bn_s, gS_0, cN_0, xpt_ne (show (1 : Nat) ≠ 2 by omega), xst_ne (show (1 : Nat) ≠ 0 by omega), xst_ne (show (2 : Nat) ≠ 0 by omega), xst_ne (show (24 : Nat) ≠ 0 by omega), e3 24 (by omega), hR.1.1.days]
  have cp : ∀ j, j < 2878 → cpk (hm 1) (hm 2) 2878 j = hm 1 j := fun j hj => cpk_lt hj
  have lt := hR.1.2.2.2.le.1
  obtain ⟨a, b, c, d, e, f⟩ := hR
  have c0 : ∀ q, q ≠ 0 → ¬ (34 ≤ q ∧ q < 44) → xst hc' 0 11 1 q = hc q := fun q q1 q2 => by rw [xst_ne q1, e3 q q2]
  have m0 : ∀ q, q ≠ 0 → q ≠ 2 → xpt (xst hm 0 3 1) 2 (cpk (hm 1) (hm 2) 2878) q = hm q := fun q q1 q2 => by rw [xpt_ne q2, xst_ne q1]
  have m1 : ∀ j, j ≠ 3 → xpt (xst hm 0 3 1) 2 (cpk (hm 1) (hm 2) 2878) 0 j = hm 0 j := fun j hj => by rw [xpt_ne (by omega), xst_self, pk_un hj]
  refine .to (fun z z0 z1 hs => ?_) ⟨a.cg (fun q hq => c0 q (by omega) (by omega)) (m0 1 (by omega) (by omega)), Or.inr ⟨by rw [xpt_ne (by omega), xst_self, pk_us], by rw [xst_self, pk_us], ?_, ?_, ?_, ?_, ?_⟩, c.cg (by rw [c0 21 (by omega) (by omega)]) (c0 22 (by omega) (by omega)) (m1 15 (by omega)) (m0 14 (by omega) (by omega)), d.cg (fun q q1 q2 => c0 q (by omega) (by omega)) (m0 4 (by omega) (by omega)) (m0 5 (by omega) (by omega)) (m0 6 (by omega) (by omega)), e.cg (fun q q1 q2 => c0 q (by omega) (by omega)) (m0 7 (by omega) (by omega)) (m0 8 (by omega) (by omega)) (m0 9 (by omega) (by omega)) (m0 10 (by omega) (by omega)) (m0 11 (by omega) (by omega)), f.cg (by rw [xst_self, pk_un (by omega), e3 0 (by omega)]) (c0 84 (by omega) (by omega)) (m1 30 (by omega)) (m0 18 (by omega) (by omega))⟩
  · unfold sb
    rw [m0 1 (by omega) (by omega), xpt_self, cp 3 (by omega)]
    exact ⟨hs.1.up (by omega), fun _ => hs.1.up (by omega)⟩
  · rw [xpt_self]
    exact (e2.keep (fun q q1 q2 => xst_ne (by omega))).cp cp lt
  · rw [xpt_self]; exact a.2.1.cp cp
  · rw [xpt_self, cp 2 (by omega)]; exact a.2.2.1
  · rw [xpt_self]
    exact (a.2.2.2.cg (fun q q1 q2 => c0 q (by omega) (by omega)) (fun _ _ => rfl)).cp cp
  · rw [xpt_self, txN_cp cp, m0 1 (by omega) (by omega)]; exact Nat.le_refl _
theorem S_back_ok {κ : Nat} (hκ : κ < 64) : S_back (Rk κ) (Rk (κ + 1)) := by
  intro hc hm hR
  refine Sm.k hκ hR ?_
  have hR := hR.1
  rw [f_X6_back, f_X7_back]
  rcases hR.2.1 with ⟨k1, k2⟩ | ⟨k1, k2, k3, k4, k5, k6, k7⟩
  · rw [if_pos k1, if_pos k2]; exact .ret hR
  rw [if_neg (by rw [k2]; decide), if_neg (by rw [k1]; decide)]
  obtain ⟨hc', e1, e2, e3⟩ := C_become (w := 24) k3 (Or.inr (by omega))
  have cp : ∀ j, j < 2878 → cpk (hm 2) (hm 1) 2878 j = hm 2 j := fun j hj => cpk_lt hj
  have lt := k6.le.1
  rw [e1, bn_s, M_setAside (by omega), bn_s, gS_0, cN_0, xpt_self, cp 0 (by omega), e2.days]
  obtain ⟨a, b, c, d, e, f⟩ := hR
  have c0 : ∀ q, ¬ (24 ≤ q ∧ q < 34) → hc' q = hc q := e3
  have m0 : ∀ q, q ≠ 1 → xpt hm 1 (cpk (hm 2) (hm 1) 2878) q = hm q := fun q q1 => xpt_ne q1
  have kl : LW hc' (hm 2) := k6.cg (fun q q1 q2 => c0 q (by omega)) (fun _ _ => rfl)
  refine .to (fun z z0 z1 hs => ?_) ⟨⟨?_, ?_, ?_, ?_⟩, Or.inr ⟨by rw [m0 0 (by omega)]; exact k1, by rw [c0 0 (by omega)]; exact k2, ?_, ?_, ?_, ?_, ?_⟩, c.cg (by rw [c0 21 (by omega)]) (c0 22 (by omega)) (by rw [m0 0 (by omega)]) (m0 14 (by omega)), d.cg (fun q q1 q2 => c0 q (by omega)) (m0 4 (by omega)) (m0 5 (by omega)) (m0 6 (by omega)), e.cg (fun q q1 q2 => c0 q (by omega)) (m0 7 (by omega)) (m0 8 (by omega)) (m0 9 (by omega)) (m0 10 (by omega)) (m0 11 (by omega)), f.cg (by rw [c0 0 (by omega)]) (c0 84 (by omega)) (by rw [m0 0 (by omega)]) (m0 18 (by omega))⟩
  · unfold sb
    rw [m0 0 (by omega), m0 2 (by omega), xpt_self, cp 3 (by omega)]
    exact ⟨(hs.2 k1).up (by omega), fun q => (hs.2 q).up (by omega)⟩
  · rw [xpt_self]; exact e2.cp cp lt
  · rw [xpt_self]; exact k4.cp cp
  · rw [xpt_self, cp 2 (by omega)]; exact k5
  · rw [xpt_self]; exact kl.cp cp
  · rw [m0 2 (by omega)]; exact k3.keep (fun q q1 q2 => c0 q (by omega))
  · rw [m0 2 (by omega)]; exact k4
  · rw [m0 2 (by omega)]; exact k5
  · rw [m0 2 (by omega)]; exact kl
  · rw [m0 2 (by omega), xpt_self, txN_cp cp]; exact Nat.le_refl _
