/-! the tape takes in -/
theorem bv255 : ∀ i, i < 32 → 8 ≤ i → (255#32).getLsbD i = false := by decide
theorem bv_sh (x : BitVec 32) (s : Nat) (hs : s ≤ 24) : (x >>> s) &&& 255#32 = x.sshiftRight s &&& 255#32 := by
  apply BitVec.eq_of_getLsbD_eq
  intro i hi
  rw [BitVec.getLsbD_and, BitVec.getLsbD_and]
  by_cases c : i < 8
  · rw [BitVec.getLsbD_ushiftRight, BitVec.getLsbD_sshiftRight, if_pos (by omega), show decide (32 ≤ i) = false from decide_eq_false (by omega)]
    rfl
  · rw [bv255 i hi (by omega), Bool.and_false, Bool.and_false]
theorem by_sh (x : Int32) : ∀ s, s ∈ [24, 16, 8, 0] → ((x.toUInt32 >>> ((nI s).toUInt32 &&& Int32.toUInt32 31)).toInt32 &&& 255) = ((x >>> (nI s &&& 31)) &&& 255) := by
  intro s hs
  apply Int32.toBitVec_inj.mp
  simp only [List.mem_cons, List.not_mem_nil, or_false] at hs
  rcases hs with rfl | rfl | rfl | rfl
  · exact bv_sh x.toBitVec 24 (by omega)
  · exact bv_sh x.toBitVec 16 (by omega)
  · exact bv_sh x.toBitVec 8 (by omega)
  · exact bv_sh x.toBitVec 0 (by omega)
theorem and255 (x : Int32) : rg (x &&& 255) 255 := by
  have h : (x &&& 255).toInt = (((x.toBitVec &&& 255#32).toNat : Nat) : Int) := by
    show (x.toBitVec &&& 255#32).toInt = _
    rw [BitVec.toInt_eq_toNat_of_lt]
    have : (x.toBitVec &&& 255#32).toNat ≤ 255 := by
      rw [BitVec.toNat_and]
      exact Nat.and_le_right
    omega
  have : (x.toBitVec &&& 255#32).toNat ≤ 255 := by
    rw [BitVec.toNat_and]
    exact Nat.and_le_right
  unfold rg
  omega
/-- one byte more on both tapes -/
theorem Rl.byte {hc hm : xH} (hR : Rl hc hm) {n : Nat} (hn : n < 96) {v : Int32} (hv : rg v 255) : Rl (xst (xst hc 22 n v) 21 2 (nI (n + 1))) (xst (xst hm 14 n v) 0 15 (nI (n + 1))) := by
  obtain ⟨a, b, c, d, e, f⟩ := hR
  have c0 : ∀ q, q ≠ 21 → q ≠ 22 → xst (xst hc 22 n v) 21 2 (nI (n + 1)) q = hc q := fun q q1 q2 => by rw [xst_ne q1, xst_ne q2]
  have m0 : ∀ q, q ≠ 0 → q ≠ 14 → xst (xst hm 14 n v) 0 15 (nI (n + 1)) q = hm q := fun q q1 q2 => by rw [xst_ne q1, xst_ne q2]
  have m1 : ∀ j, j ≠ 15 → xst (xst hm 14 n v) 0 15 (nI (n + 1)) 0 j = hm 0 j := fun j hj => by rw [xst_self, pk_un hj, xst_ne (by omega)]
  refine ⟨a.cg (fun q hq => c0 q (by omega) (by omega)) (m0 1 (by omega) (by omega)), b.cg (by rw [c0 0 (by omega) (by omega)]) (fun q hq => c0 q (by omega) (by omega)) (m1 3 (by omega)) (m0 2 (by omega) (by omega)) (by rw [m0 1 (by omega) (by omega)]; exact Nat.le_refl _), ⟨⟨n + 1, by omega, by rw [xst_self, pk_us], by rw [xst_self, pk_us]⟩, fun i hi => ?_⟩, d.cg (fun q q1 q2 => c0 q (by omega) (by omega)) (m0 4 (by omega) (by omega)) (m0 5 (by omega) (by omega)) (m0 6 (by omega) (by omega)), e.cg (fun q q1 q2 => c0 q (by omega) (by omega)) (m0 7 (by omega) (by omega)) (m0 8 (by omega) (by omega)) (m0 9 (by omega) (by omega)) (m0 10 (by omega) (by omega)) (m0 11 (by omega) (by omega)), f.cg (by rw [c0 0 (by omega) (by omega)]) (c0 84 (by omega) (by omega)) (m1 30 (by omega)) (m0 18 (by omega) (by omega))⟩
  rw [xst_ne (show (22 : Nat) ≠ 21 by omega), xst_self, xst_ne (show (14 : Nat) ≠ 0 by omega), xst_self]
  by_cases q : i = n
  · subst q; rw [pk_us, pk_us]; exact ⟨rfl, hv⟩
  · rw [pk_un q, pk_un q]; exact c.2 i hi
def tb (x : Int32) (s : Nat) : Int32 := (x >>> (nI s &&& 31)) &&& 255
theorem C_tk1 {h : xH} {n f s : Nat} {a w : Int32} (hs : s ∈ [24, 16, 8, 0]) (hn : n < 96) (h2 : h 21 2 = nI n) (hw : nI s + (-8) = w) : f_X2_takeIn_c3 a (f + 1) (nI s) h = f_X2_takeIn_c3 a f w (xst (xst h 22 n (tb a s)) 21 2 (nI (n + 1))) := by
  have hs2 : s < 2 ^ 31 := by
    simp only [List.mem_cons, List.not_mem_nil, or_false] at hs
    omega
  rw [f_X2_takeIn_c3, if_neg (show ¬ nI s < 0 from nI_nlt (b := 0) (by omega) (by omega)), h2, if_neg (show ¬ (96 : Int32) ≤ nI n from nI_ge (b := 96) (by omega) (by omega)), gd_n hn (by omega), nI_clamp (by omega), nm_x, nm_x, xst_ne (show (21 : Nat) ≠ 22 by omega), h2, nI_1, hw, by_sh a s hs]
  rfl
theorem C_tk {h : xH} {n : Nat} {a : Int32} (hn : n + 4 ≤ 96) (h2 : h 21 2 = nI n) {g1 g2 g3 g4 : xH} (e1 : g1 = xst (xst h 22 n (tb a 24)) 21 2 (nI (n + 1))) (e2 : g2 = xst (xst g1 22 (n + 1) (tb a 16)) 21 2 (nI (n + 2))) (e3 : g3 = xst (xst g2 22 (n + 2) (tb a 8)) 21 2 (nI (n + 3))) (e4 : g4 = xst (xst g3 22 (n + 3) (tb a 0)) 21 2 (nI (n + 4))) : f_X2_takeIn a h = some (0, g4) := by
  obtain ⟨f, hf⟩ : ∃ f, xN = f + 5 := ⟨xN - 5, by unfold xN; omega⟩
  unfold f_X2_takeIn
  rw [hf, show (24 : Int32) = nI 24 from rfl, C_tk1 (s := 24) (w := nI 16) (by simp) (by omega) h2 (by decide), ← e1]
  rw [C_tk1 (n := n + 1) (s := 16) (w := nI 8) (by simp) (by omega) (by rw [e1, xst_self, pk_us]) (by decide), ← e2]
  rw [C_tk1 (n := n + 2) (s := 8) (w := nI 0) (by simp) (by omega) (by rw [e2, xst_self, pk_us]) (by decide), ← e3]
  rw [C_tk1 (n := n + 3) (s := 0) (w := -8) (by simp) (by omega) (by rw [e3, xst_self, pk_us]) (by decide), ← e4]
  rw [f_X2_takeIn_c3, if_pos (by decide)]
def fb (a1 a2 a3 : Int32) (i : Nat) : Int32 := tb (if 8 ≤ i then a3 else if 4 ≤ i then a2 else a1) (24 - 8 * (i % 4))
def cT (h : xH) (n : Nat) (b : Nat → Int32) : Nat → xH
  | 0 => h
  | i + 1 => xst (xst (cT h n b i) 22 (n + i) (b i)) 21 2 (nI (n + i + 1))
def mT (h : xH) (n : Nat) (b : Nat → Int32) : Nat → xH
  | 0 => h
  | i + 1 => xst (xst (mT h n b i) 14 (n + i) (b i)) 0 15 (nI (n + i + 1))
theorem cT_2 {h : xH} {n : Nat} {b : Nat → Int32} (h2 : h 21 2 = nI n) : ∀ i, cT h n b i 21 2 = nI (n + i)
  | 0 => h2
  | i + 1 => by rw [cT, xst_self, pk_us]; rfl
theorem mT_2 {h : xH} {n : Nat} {b : Nat → Int32} (h2 : h 0 15 = nI n) : ∀ i, mT h n b i 0 15 = nI (n + i)
  | 0 => h2
  | i + 1 => by rw [mT, xst_self, pk_us]; rfl
theorem mT_g {h : xH} {n : Nat} {b : Nat → Int32} : ∀ i, mT h n b i 0 3 = h 0 3 ∧ mT h n b i 2 = h 2 ∧ mT h n b i 1 = h 1
  | 0 => ⟨rfl, rfl, rfl⟩
  | i + 1 => by
    obtain ⟨q1, q2, q3⟩ := mT_g (h := h) (n := n) (b := b) i
    rw [mT]
    exact ⟨by rw [xst_self, pk_un (by omega), xst_ne (by omega), q1], by rw [xst_ne (by omega), xst_ne (by omega), q2], by rw [xst_ne (by omega), xst_ne (by omega), q3]⟩
theorem T_R {hc hm : xH} {n : Nat} {a1 a2 a3 : Int32} (hR : Rl hc hm) (hn : n + 12 ≤ 96) : ∀ i, i ≤ 12 → Rl (cT hc n (fb a1 a2 a3) i) (mT hm n (fb a1 a2 a3) i)
  | 0, _ => hR
  | i + 1, h => (T_R hR hn i (by omega)).byte (by omega) (and255 _)
theorem sf : ∀ i, i < 12 → (24 : Int32) - 8 * (nI i - nI i / 4 * 4) = nI (24 - 8 * (i % 4)) := by decide +kernel
theorem M_fd {hm : xH} {n : Nat} {a1 a2 a3 : Int32} (h2 : hm 0 15 = nI n) (hn : n + 12 ≤ 96) : ∀ m i f, i + m = 12 → m < f → f_X7_feed_c18 a1 a2 a3 f (nI i) (mT hm n (fb a1 a2 a3) i) = some (nI (n + 12), mT hm n (fb a1 a2 a3) 12)
  | m, i, 0, _, h2 => absurd h2 (Nat.not_lt_zero _)
  | 0, i, f + 1, h1, _ => by
    have hi : i = 12 := by omega
    subst hi
    rw [f_X7_feed_c18, if_pos (show (12 : Int32) ≤ nI 12 by decide), mT_2 h2]
  | m + 1, i, f + 1, h1, h3 => by
    have e : ∀ s0 : Int32, s0 = (if 8 ≤ i then a3 else if 4 ≤ i then a2 else a1) → f_X7_feed_c47 (f_X7_feed_c18 a1 a2 a3 f) a1 a2 a3 (nI i) s0 (mT hm n (fb a1 a2 a3) i) = some (nI (n + 12), mT hm n (fb a1 a2 a3) 12) := by
      intro s0 hs
      unfold f_X7_feed_c47
      rw [mT_2 h2, gd_n (show n + i < 96 by omega) (by omega), nI_clamp (by omega), nm_x, nm_x, xst_ne (show (0 : Nat) ≠ 14 by omega), mT_2 h2, nI_1, nI_1, sf i (by omega), hs]
      exact M_fd h2 hn m (i + 1) f (by omega) (by omega)
    rw [f_X7_feed_c18, if_neg (show ¬ (12 : Int32) ≤ nI i from nI_ge (b := 12) (by omega) (by omega))]
    by_cases c4 : 4 ≤ i
    · rw [if_pos (show (4 : Int32) ≤ nI i from nI_le (a := 4) c4 (by omega))]
      by_cases c8 : 8 ≤ i
      · rw [if_pos (show (8 : Int32) ≤ nI i from nI_le (a := 8) c8 (by omega))]
        exact e a3 (by rw [if_pos c8])
      · rw [if_neg (show ¬ (8 : Int32) ≤ nI i from nI_ge (b := 8) (by omega) (by omega))]
        exact e a2 (by rw [if_neg c8, if_pos c4])
    · rw [if_neg (show ¬ (4 : Int32) ≤ nI i from nI_ge (b := 4) (by omega) (by omega))]
      exact e a1 (by rw [if_neg (by omega), if_neg c4])
theorem S_feed_ok {κ : Nat} (hκ : κ < 64) : S_feed (Rk κ) (Rk (κ + 1)) := by
  intro a1 a2 a3 hc hm hR
  refine Sm.k hκ hR ?_
  have hR := hR.1
  obtain ⟨⟨n, hn, t1, t2⟩, -⟩ := hR.2.2.1
  rw [f_X6_feed, f_X7_feed, t1, t2, show nI n + 12 = nI (n + 12) from nI_add n 12]
  by_cases c : n ≤ 84
  · rw [if_pos (show nI n ≤ 84 from nI_le (b := 84) c (by omega)), if_pos (show nI (n + 12) ≤ 96 from nI_le (b := 96) (by omega) (by omega))]
    have q1 : f_X2_takeIn a1 hc = some (0, cT hc n (fb a1 a2 a3) 4) := C_tk (n := n) (by omega) t1 rfl rfl rfl rfl
    have q2 : f_X2_takeIn a2 (cT hc n (fb a1 a2 a3) 4) = some (0, cT hc n (fb a1 a2 a3) 8) := C_tk (n := n + 4) (by omega) (cT_2 t1 4) rfl rfl rfl rfl
    have q3 : f_X2_takeIn a3 (cT hc n (fb a1 a2 a3) 8) = some (0, cT hc n (fb a1 a2 a3) 12) := C_tk (n := n + 8) (by omega) (cT_2 t1 8) rfl rfl rfl rfl
    rw [q1, bn_s, q2, bn_s, q3, bn_s, cT_2 t1, show f_X7_feed_c18 a1 a2 a3 xN 0 hm = _ from M_fd (a1 := a1) (a2 := a2) (a3 := a3) t2 (by omega) 12 0 xN (by omega) (by unfold xN; omega)]
    obtain ⟨g1, g2, g3⟩ := mT_g (h := hm) (n := n) (b := fb a1 a2 a3) 12
    exact .to (.m1 g1 g2 (by rw [g3])) (T_R hR (by omega) 12 (by omega))
  · rw [if_neg (show ¬ nI n ≤ 84 from nI_ge (a := 84) (by omega) (by omega)), if_neg (show ¬ nI (n + 12) ≤ 96 from nI_ge (a := 96) (by omega) (by omega))]
    exact .ret hR
