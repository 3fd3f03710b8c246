/-! why, the tape's length, what waits -/
theorem M_orNone (v : Int32) (h : xH) : f_X7_orNone v h = some (if 0 ≤ v then v else -1000000005, h) := by
  unfold f_X7_orNone
  split <;> rfl
theorem S_why_ok {κ : Nat} (hκ : κ < 64) : S_why (Rk κ) (Rk (κ + 1)) := by
  intro a1 hc hm hR
  refine Sm.k hκ hR ?_
  have hR := hR.1
  simp only [f_X6_why, f_X7_why, C_within, M_0_2, bn_s, b01]
  refine Sm.ite (fun c1 => ?_) (fun _ => .ret hR)
  obtain ⟨k, hk, rfl⟩ := in_nI (n := 2) (M := 2) rfl c1
  rw [gd_n (by omega) (by omega), gd_n (by omega) (by omega), nI_clamp (by omega), hR.1.1.2 k (by omega), M_counts hR.1.2.2.2, bn_s, M_orNone, bn_s]
  by_cases c : 0 ≤ cnt (hm 1) (nI k)
  · rw [if_pos c, if_pos c]; exact .ret hR
  · rw [if_neg c, if_neg c]; exact .ret hR
theorem Rl.tape {hc hm : xH} (hR : Rl hc hm) {n : Nat} (hn : n ≤ 96) : Rl (xst hc 21 2 (nI n)) (xst hm 0 15 (nI n)) := by
  obtain ⟨a, b, c, d, e, f⟩ := hR
  refine ⟨a.cg (fun q hq => xst_ne (by omega)) (xst_ne (by omega)), b.cg (by rw [xst_ne (by omega)]) (fun q hq => xst_ne (by omega)) (by rw [xst_self, pk_un (by omega)]) (xst_ne (by omega)) (by rw [xst_ne (by omega)]; exact Nat.le_refl _), ⟨⟨n, hn, by rw [xst_self, pk_us], by rw [xst_self, pk_us]⟩, fun i hi => by rw [xst_ne (by omega), xst_ne (by omega)]; exact c.2 i hi⟩, d.cg (fun q q1 q2 => xst_ne (by omega)) (xst_ne (by omega)) (xst_ne (by omega)) (xst_ne (by omega)), e.cg (fun q q1 q2 => xst_ne (by omega)) (xst_ne (by omega)) (xst_ne (by omega)) (xst_ne (by omega)) (xst_ne (by omega)) (xst_ne (by omega)), f.cg (by rw [xst_ne (by omega)]) (xst_ne (by omega)) (by rw [xst_self, pk_un (by omega)]) (xst_ne (by omega))⟩
theorem Gr.z0 {h : xH} {j : Nat} {v : Int32} (hj : j ≠ 3) : Gr h (xst h 0 j v) := .m1 (by rw [xst_self, pk_un (Ne.symm hj)]) (xst_ne (by omega)) (by rw [xst_ne (by omega)])
theorem Gr.zp {h : xH} {p j : Nat} {v : Int32} (hp : 3 ≤ p) : Gr h (xst h p j v) := .m1 (by rw [xst_ne (by omega)]) (xst_ne (by omega)) (by rw [xst_ne (by omega)])
theorem S_trim_ok {κ : Nat} (hκ : κ < 64) : S_trim (Rk κ) (Rk (κ + 1)) := by
  intro a1 hc hm hR
  refine Sm.k hκ hR ?_
  have hR := hR.1
  obtain ⟨⟨t, ht, t1, t2⟩, -⟩ := hR.2.2.1
  simp only [f_X6_trim, f_X7_trim, C_within, M_0_x, bn_s, b01, nm_x, t1, t2]
  refine Sm.ite (fun c1 => ?_) (fun _ => .ret hR)
  obtain ⟨k, hk, rfl⟩ := in_nI (n := t) (M := nI t) (nI_toInt (by omega)) c1
  exact .to (.z0 (by omega)) (hR.tape (by omega))
theorem Rl.wait {hc hm : xH} (hR : Rl hc hm) {n : Nat} (hn : n < 60) {v : Int32} (h1 : hc 0 10 = nI n) (h2 : hm 0 30 = nI n) : Rl (xst (xst hc 84 n v) 0 10 (nI (n + 1))) (xst (xst hm 18 n v) 0 30 (nI (n + 1))) := by
  obtain ⟨a, b, c, d, e, f⟩ := hR
  have c0 : ∀ q, q ≠ 0 → q ≠ 84 → xst (xst hc 84 n v) 0 10 (nI (n + 1)) q = hc q := fun q q1 q2 => by rw [xst_ne q1, xst_ne q2]
  have m0 : ∀ q, q ≠ 0 → q ≠ 18 → xst (xst hm 18 n v) 0 30 (nI (n + 1)) q = hm q := fun q q1 q2 => by rw [xst_ne q1, xst_ne q2]
  have c1 : ∀ j, j ≠ 10 → xst (xst hc 84 n v) 0 10 (nI (n + 1)) 0 j = hc 0 j := fun j hj => by rw [xst_self, pk_un hj, xst_ne (by omega)]
  have m1 : ∀ j, j ≠ 30 → xst (xst hm 18 n v) 0 30 (nI (n + 1)) 0 j = hm 0 j := fun j hj => by rw [xst_self, pk_un hj, xst_ne (by omega)]
  refine ⟨a.cg (fun q hq => c0 q (by omega) (by omega)) (m0 1 (by omega) (by omega)), b.cg (c1 11 (by omega)) (fun q hq => c0 q (by omega) (by omega)) (m1 3 (by omega)) (m0 2 (by omega) (by omega)) (by rw [m0 1 (by omega) (by omega)]; exact Nat.le_refl _), c.cg (by rw [c0 21 (by omega) (by omega)]) (c0 22 (by omega) (by omega)) (m1 15 (by omega)) (m0 14 (by omega) (by omega)), d.cg (fun q q1 q2 => c0 q (by omega) (by omega)) (m0 4 (by omega) (by omega)) (m0 5 (by omega) (by omega)) (m0 6 (by omega) (by omega)), e.cg (fun q q1 q2 => c0 q (by omega) (by omega)) (m0 7 (by omega) (by omega)) (m0 8 (by omega) (by omega)) (m0 9 (by omega) (by omega)) (m0 10 (by omega) (by omega)) (m0 11 (by omega) (by omega)), ⟨n + 1, by omega, by rw [xst_self, pk_us], by rw [xst_self, pk_us], fun i hi => ?_⟩⟩
  obtain ⟨n', -, -, -, f⟩ := f
  rw [xst_ne (show (84 : Nat) ≠ 0 by omega), xst_self, xst_ne (show (18 : Nat) ≠ 0 by omega), xst_self]
  by_cases q : i = n
  · subst q; rw [pk_us, pk_us]
  · rw [pk_un q, pk_un q]; exact f i hi
theorem S_tell_ok {κ : Nat} (hκ : κ < 64) : S_tell (Rk κ) (Rk (κ + 1)) := by
  intro a1 hc hm hR
  refine Sm.k hκ hR ?_
  have hR := hR.1
  obtain ⟨n, hn, y1, y2, -⟩ := hR.2.2.2.2.2
  simp only [f_X6_tell, f_X7_tell, nm_x, y1, y2]
  by_cases c : n = 60
  · subst c
    rw [if_neg (by decide), if_pos (by decide)]
    exact .ret hR
  · rw [if_pos (show nI n < 60 from nI_lt (b := 60) (by omega) (by omega)), if_neg (show ¬ nI n = 60 from fun q => c ((nI_eq (b := 60) (by omega) (by omega)).mp q)), gd_n (by omega) (by omega), gd_n (by omega) (by omega), nI_clamp (by omega), xst_ne (show (0 : Nat) ≠ 84 by omega), y1, xst_ne (show (0 : Nat) ≠ 18 by omega), y2, nI_1, xst_self, pk_us, xst_self, pk_us]
    exact .to (.m1 (by rw [xst_self, pk_un (by omega), xst_ne (by omega)]) (by rw [xst_ne (by omega), xst_ne (by omega)]) (by rw [xst_ne (by omega), xst_ne (by omega)])) (hR.wait (by omega) y1 y2)
/-! what is held -/
theorem S_rest_ok {κ : Nat} (hκ : κ < 64) : S_rest (Rk κ) (Rk (κ + 1)) := by
  intro a1 a2 hc hm hR
  refine Sm.k hκ hR ?_
  have hR := hR.1
  simp only [f_X6_rest, f_X7_rest, C_isSlot, M_isSlot, bn_s, b01]
  refine Sm.ite (fun c1 => ?_) (fun _ => .ret hR)
  obtain ⟨k, hk, rfl⟩ := in_nI (n := 4) (M := 4) rfl c1
  obtain ⟨r1, r2, -, -, r5⟩ := hR.2.2.2.2.1 k (by omega)
  simp only [gd_n (show k < 5 by omega) (show 5 < 2 ^ 31 by omega), nI_clamp (show k < 2 ^ 31 by omega), r1]
  by_cases c3 : hm 7 k = 3
  · rw [if_neg (by rw [c3]; decide), if_pos c3, if_pos c3, r5 c3]
    refine Sm.ite (fun _ => .ret hR) (fun c => ?_)
    simp only [gz, if_neg c]
    exact .ret hR
  · rw [if_neg c3, if_neg c3]
    exact Sm.ite (fun _ => .ret hR) (fun _ => .ret hR)
theorem pl_in {a : Int32} {n : Nat} (hn : n ≤ 24) (h : 0 ≤ a ∧ a ≤ nI n - 1) : ∃ d, d < n ∧ a = nI d := by
  obtain ⟨j, hj, rfl⟩ := nI_of (x := a) (Int32.not_lt.mpr h.1)
  have h2 := h.2
  rw [Int32.le_iff_toInt_le, Int32.toInt_sub, nI_toInt hj, nI_toInt (by omega), show (1 : Int32).toInt = 1 from rfl, Int.bmod_eq_of_le (by omega) (by omega)] at h2
  exact ⟨j, by omega, rfl⟩
theorem b10 {ρ : Type} {P : Prop} [Decidable P] {A B : ρ} : (if (if P then (0 : Int32) else 1) = 0 then A else B) = if P then A else B := by
  by_cases h : P
  · rw [if_pos h, if_pos h, if_pos rfl]
  · rw [if_neg h, if_neg h, if_neg (by decide)]
theorem C_isNumber {w d : Nat} (hd : d < 24) (h : xH) : f_X3_isNumber w (nI d) h = some (if h (w + 1) d = -1000000005 then 0 else 1, h) := by
  unfold f_X3_isNumber
  rw [gd_n hd (by omega), nI_clamp (by omega)]
  split <;> rfl
theorem ix24 {k d : Nat} : 24 * nI k + nI d = nI (24 * k + d) := by
  rw [show (24 : Int32) = nI 24 from rfl, nI_mul, nI_add]
theorem S_item_ok {κ : Nat} (hκ : κ < 64) : S_item (Rk κ) (Rk (κ + 1)) := by
  intro a1 a2 hc hm hR
  refine Sm.k hκ hR ?_
  have hR := hR.1
  simp only [f_X6_item, f_X7_item, C_isSlot, M_isSlot, bn_s, b01]
  refine Sm.ite (fun c1 => ?_) (fun _ => .ret hR)
  obtain ⟨k, hk, rfl⟩ := in_nI (n := 4) (M := 4) rfl c1
  obtain ⟨r1, r2, -, r4, -⟩ := hR.2.2.2.2.1 k (by omega)
  simp only [gd_n (show k < 5 by omega) (show 5 < 2 ^ 31 by omega), nI_clamp (show k < 2 ^ 31 by omega), r1]
  by_cases c2 : hm 7 k = 2
  · obtain ⟨s1, s2, s3⟩ := r4 c2
    obtain ⟨n, hn, -, s4⟩ := rg_nI s2
    have s1' : hc (69 + 3 * k + 1) 2 = hm 10 k := by rw [show 69 + 3 * k + 1 = 70 + 3 * k by omega]; exact s1
    simp only [f_X3_hasPlace, C_within, M_0_x, bn_s, gb01, b01, s1']
    rw [if_neg (show ¬ hm 7 k = 0 by rw [c2]; decide), if_pos c2, if_pos c2]
    refine Sm.ite (fun c3 => ?_) (fun _ => .ret hR)
    rw [s4] at c3
    have hn : (n : Int) ≤ 24 := hn
    obtain ⟨d, hd, rfl⟩ := pl_in (by omega) c3
    rw [C_isNumber (by omega), bn_s, b10, gd_n (by omega) (by omega), nI_clamp (by omega), ix24, gd_n (by omega) (by omega), nI_clamp (by omega), nm_x, show 69 + 3 * k + 1 + 1 = 71 + 3 * k by omega, s3 d (by omega)]
    exact Sm.ite (fun _ => .ret hR) (fun _ => .ret hR)
  · rw [if_neg c2, if_neg c2]
    exact Sm.ite (fun _ => .ret hR) (fun _ => .ret hR)
