/-! coins out of a sheet -/
theorem upd_id {f : Nat → Int32} {j : Nat} : upd f j (f j) = f := by
  funext i
  unfold upd
  by_cases c : i = j
  · rw [if_pos c, c]
  · rw [if_neg c]
theorem pour_l {g0 : xH} {k n : Nat} {a1 : Int32} (hk : k < 4) (hn : n ≤ 24) : ∀ m i f1 f2 (v : Int32) (hc hm : xH), i + m = 6 → m < f1 → m < f2 → Rl hc hm → hm 5 k = nI n → (hm 0 3 = g0 0 3 ∧ hm 2 = g0 2 ∧ hm 1 3 = g0 1 3) → Sm g0 (f_X6_pour_c33 a1 f1 (60 + 2 * k) v (nI i) hc) (f_X7_pour_c27 (nI k) f2 v (nI i) hm)
  | m, i, 0, f2, v, hc, hm, _, h2, _, _, _, _ => absurd h2 (Nat.not_lt_zero _)
  | m, i, f1 + 1, 0, v, hc, hm, _, _, h2, _, _, _ => absurd h2 (Nat.not_lt_zero _)
  | 0, i, f1 + 1, f2 + 1, v, hc, hm, h1, _, _, hR, hs, hG => by
    have hi : i = 6 := by omega
    subst hi
    rw [f_X6_pour_c33, f_X7_pour_c27, gd_n hk (by omega), nI_clamp (show k < 2 ^ 31 by omega), if_pos (show (6 : Int32) ≤ nI 6 by decide), if_pos (show (6 : Int32) ≤ nI 6 by decide)]
    have : ∀ (P : Prop) [Decidable P] (x : Option (Int32 × xH)), (if P then x else x) = x := fun P _ x => by split <;> rfl
    rw [this]
    exact .to (.m1 hG.1 hG.2.1 hG.2.2) hR
  | m + 1, i, f1 + 1, f2 + 1, v, hc, hm, h1, h2, h3, hR, hs, hG => by
    obtain ⟨d1, d2, d3, d4, d5⟩ := hR.2.2.2.1.1 k hk
    have hi : ¬ (6 : Int32) ≤ nI i := nI_ge (b := 6) (by omega) (by omega)
    rw [f_X6_pour_c33, f_X7_pour_c27, gd_n hk (by omega), nI_clamp (show k < 2 ^ 31 by omega), if_neg hi, if_neg hi, d2, hs]
    refine Sm.ite (fun _ => .to (.m1 hG.1 hG.2.1 hG.2.2) hR) (fun c => ?_)
    rw [C_isNumber (by omega), bn_s, b10, ix24, gd_n (show 24 * k + i < 96 by omega) (by omega), nI_clamp (show 24 * k + i < 2 ^ 31 by omega), nm_x, show 60 + 2 * k + 1 = 61 + 2 * k by omega, d5 i (by omega)]
    refine Sm.ite (fun _ => ?_) (fun _ => ?_)
    · unfold f_X6_pour_c109 f_X7_pour_c83 f_X7_pour_c106
      rw [ixc, gd_n (show 6 + i < 3078 by omega) (by omega), nI_clamp (show 6 + i < 2 ^ 31 by omega), M_becomes (i := 6 + i) rfl (by omega), bn_s, if_pos rfl, upd_id, xpt_id, nI_1, Int32.add_zero]
      exact pour_l hk hn m (i + 1) f1 f2 v hc hm (by omega) (by omega) (by omega) hR hs hG
    · unfold f_X6_pour_c95 f_X6_pour_c109 f_X7_pour_c83 f_X7_pour_c106
      rw [gd_n (show i < 24 by omega) (by omega), nI_clamp (show i < 2 ^ 31 by omega), d5 i (by omega), C_held _ (by decide), bn_s, M_within, bn_s, gd_n (show i < 6 by omega) (by omega), gd_n (show i < 6 by omega) (by omega), gd_n (show i < 6 by omega) (by omega), nm_x, nm_x, ixc, M_becomes (i := 6 + i) rfl (by omega), bn_s, hR.1.1.coins (w := 24) (show i < 6 by omega), nI_1]
      have hR' : Rl (xst hc 31 i (clm (hm 6 (24 * k + i)) 9999)) (xpt hm 1 (upd (hm 1) (6 + i) (clm (hm 6 (24 * k + i)) 9999))) := hR.set1 (by omega) (by omega) (by rw [(lj_p i (by omega)).1]) (lj_p i (by omega)).2.1.symm (hR.1.2.1.coins (by omega) (clm_rg _ rfl (by omega))) (fun q => by omega)
      have ih := fun u => pour_l (g0 := g0) (a1 := a1) hk hn m (i + 1) f1 f2 u _ _ (by omega) (by omega) (by omega) hR' (by rw [xpt_ne (by omega)]; exact hs) ⟨by rw [xpt_ne (by omega)]; exact hG.1, by rw [xpt_ne (by omega)]; exact hG.2.1, by rw [xpt_self, pk_un (by omega)]; exact hG.2.2⟩
      exact Sm.ite (fun _ => ih _) (fun _ => ih _)
theorem S_pour_ok {κ : Nat} (hκ : κ < 64) : S_pour (Rk κ) (Rk (κ + 1)) := by
  intro a1 hc hm hR
  refine Sm.k hκ hR ?_
  have hR := hR.1
  simp only [f_X6_pour, f_X7_pour, C_isSheet, M_isSheet, bn_s, b01]
  refine Sm.ite (fun c1 => ?_) (fun _ => .ret hR)
  obtain ⟨k, hk, rfl⟩ := in_nI (n := 3) (M := 3) rfl c1
  obtain ⟨d1, d2, d3, d4, d5⟩ := hR.2.2.2.1.1 k (by omega)
  obtain ⟨n, hn, -, hs⟩ := rg_nI d4
  have hn : (n : Int) ≤ 24 := hn
  rw [gd_n (by omega) (by omega), gd_n (by omega) (by omega), nI_clamp (by omega), d1]
  by_cases c : hm 4 k = -1
  · rw [if_pos c, if_neg (fun q => (sort_pos d3).mp q c)]
    exact .ret hR
  · rw [if_neg c, if_pos ((sort_pos d3).mpr c)]
    exact pour_l (by omega) (by omega) 6 0 xN xN 0 hc hm (by omega) (by unfold xN; omega) (by unfold xN; omega) hR hs ⟨rfl, rfl, rfl⟩
