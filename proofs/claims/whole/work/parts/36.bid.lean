/-! offers -/
def ofA (a b : Int32) : Int32 := if b ≤ a then a - b else b - a
def ofF (σ : Nat → Int32) (p d : Nat) : Int32 := clm (vlF σ d - 5 * ofA (σ (18 + 6 * d + 2)) (σ (12 + p))) (if σ (18 + 6 * d + 4) = nI p then 100000 else σ (6 + p))
theorem M_off (a b : Int32) (h : xH) : f_X7_off a b h = some (ofA a b, h) := by
  unfold f_X7_off ofA
  by_cases c : b ≤ a
  · rw [if_pos c, if_pos c]
  · rw [if_neg c, if_neg c]
theorem ofA_rg {a b : Int32} {m : Int} (ha : rg a m) (hb : rg b m) (hm : m < 2147483648) : rg (ofA a b) m := by
  have e1 := sub_toInt ha hb hm hm
  have e2 := sub_toInt hb ha hm hm
  have a1 := ha.1; have a2 := ha.2; have b1 := hb.1; have b2 := hb.2
  unfold ofA
  by_cases c : b ≤ a
  · rw [if_pos c]
    rw [Int32.le_iff_toInt_le] at c
    exact ⟨by omega, by omega⟩
  · rw [if_neg c]
    rw [Int32.le_iff_toInt_le] at c
    exact ⟨by omega, by omega⟩
theorem abs_of {a b : Int32} {m : Int} (ha : rg a m) (hb : rg b m) (hm : m < 2147483648) : (if 0 ≤ a - b then a - b else 0 - (a - b)) = ofA a b := by
  have e1 := sub_toInt ha hb hm hm
  unfold ofA
  by_cases c : b ≤ a
  · rw [if_pos c, if_pos]
    rw [Int32.le_iff_toInt_le] at c ⊢
    rw [e1, show (0 : Int32).toInt = 0 from rfl]; omega
  · rw [if_neg c, if_neg]
    · rw [Int32.zero_sub, Int32.neg_sub]
    · rw [Int32.le_iff_toInt_le] at c ⊢
      rw [e1, show (0 : Int32).toInt = 0 from rfl]; omega
theorem mx0 (y : Int32) : (if 0 < y then y else 0) = if 0 ≤ y then y else 0 := by
  by_cases c : 0 < y
  · rw [if_pos c, if_pos (Int32.le_of_lt c)]
  · rw [if_neg c]
    by_cases c2 : 0 ≤ y
    · rw [if_pos c2]; exact Int32.le_antisymm c2 (Int32.not_lt.mp c)
    · rw [if_neg c2]
theorem vlF_rg {σ : Nat → Int32} {d : Nat} : rg (vlF σ d) 1019 := by
  have h20 : ∀ t, rg (prF σ d t + 20) 1019 := fun t => by
    have h := prF_rg σ d t
    have e := add_toInt (b := 20) (k := 20) h ⟨by decide, by decide⟩ (by omega)
    have h1 := h.1; have h2 := h.2
    rw [show (20 : Int32).toInt = 20 from rfl] at e
    exact ⟨by omega, by omega⟩
  unfold vlF
  by_cases c1 : σ (18 + 6 * d) = 1
  · rw [if_pos c1]; exact h20 _
  rw [if_neg c1]
  by_cases c2 : σ (18 + 6 * d) = 2
  · rw [if_pos c2]; exact rg_mono (prF_rg _ _ _) (by omega)
  rw [if_neg c2]
  by_cases c3 : σ (18 + 6 * d) = 3
  · rw [if_pos c3]
    obtain ⟨j, h1, h2, e⟩ := rg_nI (h20 (σ (18 + 6 * d + 2)))
    rw [e, show (2 : Int32) = nI 2 from rfl, nI_div h2 (by omega)]
    exact rg_of (by omega) (by omega)
  rw [if_neg c3]
  by_cases c4 : σ (18 + 6 * d) = 4
  · rw [if_pos c4]; exact rg_mono (clm_rg _ (M := 999) rfl (by omega)) (by omega)
  rw [if_neg c4]
  by_cases c5 : σ (18 + 6 * d) = 5
  · rw [if_pos c5]; exact ⟨by decide, by decide⟩
  · rw [if_neg c5]; exact rg_mono (prF_rg _ _ _) (by omega)
theorem v5_toInt {v x : Int32} (hv : rg v 1019) (hx : rg x 9) : (v - 5 * x).toInt = v.toInt - 5 * x.toInt := by
  obtain ⟨j, h1, h2, rfl⟩ := rg_nI hx
  have hv1 := hv.1; have hv2 := hv.2
  rw [show (5 : Int32) = nI 5 from rfl, nI_mul, Int32.toInt_sub, nI_toInt (by omega), nI_toInt h2, Int.bmod_eq_of_le (by omega) (by omega)]
  omega
theorem C_bidOf {h : xH} {w : Nat} {σ : Nat → Int32} {p d : Nat} (hw : WR h w σ) (hb : Bnd σ) (hp : p < 6) (hd : d < 10) : f_X5_bidOf w (nI p) (nI d) (vlF σ d) h = some (ofF σ p d, h) := by
  have ht : rg (σ (18 + 6 * d + 2)) 9 := hb.dd (d := d) (k := 2) hd (by omega)
  have hwi := (hb.2.1 p hp).2
  have hco := (hb.2.1 p hp).1
  have hx := ofA_rg ht hwi (by omega)
  have e := v5_toInt (vlF_rg (σ := σ) (d := d)) hx
  have e1 := (vlF_rg (σ := σ) (d := d)).2
  have e2 := hx.1
  simp only [f_X5_bidOf, nm_x, gd_n hd (show 10 < 2 ^ 31 by omega), gd_n hp (show 6 < 2 ^ 31 by omega), nI_clamp (show d < 2 ^ 31 by omega), nI_clamp (show p < 2 ^ 31 by omega), hw.day (k := 2) hd (by omega) (a := w + 3) rfl, hw.day (k := 4) hd (by omega) (a := w + 5) rfl, hw.wish hp, hw.coins hp, abs_of ht hwi (by omega), mx0]
  unfold ofF
  generalize vlF σ d - 5 * ofA (σ (18 + 6 * d + 2)) (σ (12 + p)) = y at e
  by_cases c : σ (18 + 6 * d + 4) = nI p
  · rw [if_pos c, if_pos c]
    congr 2
    unfold clm
    by_cases c2 : 0 ≤ y
    · rw [if_pos c2, if_pos c2, if_pos]
      rw [Int32.le_iff_toInt_le, e, show (100000 : Int32).toInt = 100000 from rfl]; omega
    · rw [if_neg c2, if_neg c2]
  · rw [if_neg c, if_neg c]
    congr 2
    unfold clm
    by_cases c2 : 0 ≤ y
    · rw [if_pos c2, if_pos c2]
      by_cases c3 : y ≤ σ (6 + p)
      · rw [if_pos c3, if_neg (Int32.not_lt.mpr c3)]
      · rw [if_neg c3, if_pos (Int32.not_le.mp c3)]
    · rw [if_neg c2, if_neg c2, if_neg]
      rw [Int32.lt_iff_toInt_lt, show (0 : Int32).toInt = 0 from rfl]
      have := hco.1
      omega
theorem M_offerOf {hc h : xH} {p d : Nat} (hl : LW hc (h 1)) (hp : p < 6) (hd : d < 10) : ∃ h', f_X7_offerOf (nI p) (nI d) h = some (ofF (h 1) p d, h') ∧ ∀ q, q ≠ 15 → q ≠ 16 → h' q = h q := by
  obtain ⟨h', e1, e2⟩ := M_valueOf hl hd
  refine ⟨h', ?_, e2⟩
  have h1 : h' 1 = h 1 := e2 1 (by omega) (by omega)
  unfold f_X7_offerOf f_X7_offerOf_c51 ofF
  simp only [e1, bn_s, M_of (j := 2) (k := 2) rfl hd (show 2 < 6 by omega), M_of (j := 4) (k := 4) rfl hd (show 4 < 6 by omega), ixw, ixc, gd_n (show 12 + p < 3078 by omega) (show 3078 < 2 ^ 31 by omega), gd_n (show 6 + p < 3078 by omega) (show 3078 < 2 ^ 31 by omega), nI_clamp (show 12 + p < 2 ^ 31 by omega), nI_clamp (show 6 + p < 2 ^ 31 by omega), M_off, M_within, h1]
  by_cases c : h 1 (18 + 6 * d + 4) = nI p
  · rw [if_pos c, if_pos c]
  · rw [if_neg c, if_neg c]
theorem ofF_rg {σ : Nat → Int32} {p d : Nat} (hb : Bnd σ) (hp : p < 6) : 0 ≤ (ofF σ p d).toInt ∧ (σ (18 + 6 * d + 4) ≠ nI p → ofF σ p d ≤ σ (6 + p)) := by
  have hco := (hb.2.1 p hp).1
  unfold ofF
  refine ⟨?_, fun c => ?_⟩
  · by_cases c : σ (18 + 6 * d + 4) = nI p
    · rw [if_pos c]; exact (clm_rg _ (M := 100000) rfl (by omega)).1
    · rw [if_neg c]; exact (clm_rg _ rfl hco.1).1
  · rw [if_neg c, Int32.le_iff_toInt_le]
    exact (clm_rg _ rfl hco.1).2
/-! who offers most -/
def bst (σ : Nat → Int32) (d : Nat) : Nat → Int32 × Int32
  | 0 => (-1, 0)
  | p + 1 => if σ (18 + 6 * d + 4) = nI p then bst σ d p else if (bst σ d p).1 < 0 ∨ (bst σ d p).2 < ofF σ p d then (nI p, ofF σ p d) else bst σ d p
theorem bst_ok {σ : Nat → Int32} {d f : Nat} (ho : σ (18 + 6 * d + 4) = nI f) (hf : f < 6) : ∀ j, j ≤ 6 → (bst σ d j = (-1, 0) ∧ ∀ q, q < j → q = f) ∨ ∃ q, q < j ∧ q ≠ f ∧ (bst σ d j).1 = nI q ∧ (bst σ d j).2 = ofF σ q d
  | 0, _ => Or.inl ⟨rfl, fun q hq => by omega⟩
  | j + 1, hj => by
    rw [bst]
    have ih := bst_ok ho hf j (by omega)
    by_cases c : σ (18 + 6 * d + 4) = nI j
    · rw [if_pos c]
      have hjf : j = f := (nI_eq (by omega) (by omega)).mp (c.symm.trans ho)
      rcases ih with ⟨h1, h2⟩ | ⟨q, h1, h2, h3, h4⟩
      · refine Or.inl ⟨h1, fun q hq => ?_⟩
        by_cases hqj : q = j
        · omega
        · exact h2 q (by omega)
      · exact Or.inr ⟨q, by omega, h2, h3, h4⟩
    · rw [if_neg c]
      have hjf : j ≠ f := fun q => c (by rw [ho, q])
      by_cases c2 : (bst σ d j).1 < 0 ∨ (bst σ d j).2 < ofF σ j d
      · rw [if_pos c2]; exact Or.inr ⟨j, by omega, hjf, rfl, rfl⟩
      · rw [if_neg c2]
        rcases ih with ⟨h1, h2⟩ | ⟨q, h1, h2, h3, h4⟩
        · exact absurd (Or.inl (by rw [h1]; decide)) c2
        · exact Or.inr ⟨q, by omega, h2, h3, h4⟩
theorem bst6 {σ : Nat → Int32} {d f : Nat} (ho : σ (18 + 6 * d + 4) = nI f) (hf : f < 6) : ∃ q, q < 6 ∧ q ≠ f ∧ (bst σ d 6).1 = nI q := by
  rcases bst_ok ho hf 6 (by omega) with ⟨h1, h2⟩ | ⟨q, h1, h2, h3, -⟩
  · have := h2 0 (by omega); have := h2 1 (by omega); omega
  · exact ⟨q, h1, h2, h3⟩
theorem C_bestBidder_l {h : xH} {w : Nat} {σ : Nat → Int32} {d f : Nat} (hw : WR h w σ) (hb : Bnd σ) (hd : d < 10) (ho : σ (18 + 6 * d + 4) = nI f) (hf : f < 6) : ∀ m j n, j + m = 6 → m < n → ¬ (bst σ d j).1 < 0 → f_X5_bestBidder_c29 w (nI d) (vlF σ d) n (bst σ d j).1 (bst σ d j).2 (nI j) h = some ((bst σ d 6).1, h)
  | m, j, 0, _, h2, _ => absurd h2 (Nat.not_lt_zero _)
  | 0, j, n + 1, h1, _, _ => by
    rw [f_X5_bestBidder_c29, if_pos (show (6 : Int32) ≤ nI j from nI_le (a := 6) (by omega) (by omega)), show j = 6 by omega]
  | m + 1, j, n + 1, h1, h2, h3 => by
    have hu : f_X5_bestBidder_c29 w (nI d) (vlF σ d) (n + 1) (bst σ d j).1 (bst σ d j).2 (nI j) h = f_X5_bestBidder_c29 w (nI d) (vlF σ d) n (bst σ d (j + 1)).1 (bst σ d (j + 1)).2 (nI (j + 1)) h := by
      rw [f_X5_bestBidder_c29, if_neg (show ¬ (6 : Int32) ≤ nI j from nI_ge (b := 6) (by omega) (by omega)), C_bidOf hw hb (by omega) hd, bn_s, gd_n hd (by omega), nI_clamp (by omega), hw.day (k := 4) hd (by omega) (a := w + 5) rfl]
      unfold f_X5_bestBidder_c71
      rw [nI_1, bst]
      by_cases c : σ (18 + 6 * d + 4) = nI j
      · rw [if_pos c.symm, if_pos c]
      · rw [if_neg (fun q => c q.symm), if_neg c]
        by_cases c2 : ofF σ j d ≤ (bst σ d j).2
        · rw [if_pos c2, if_neg (fun q => q.elim h3 (fun z => absurd z (Int32.not_lt.mpr c2)))]
        · rw [if_neg c2, if_pos (Or.inr (Int32.not_le.mp c2))]
    rw [hu]
    refine C_bestBidder_l hw hb hd ho hf m (j + 1) n (by omega) (by omega) ?_
    rw [bst]
    by_cases c : σ (18 + 6 * d + 4) = nI j
    · rw [if_pos c]; exact h3
    · rw [if_neg c]
      by_cases c2 : (bst σ d j).1 < 0 ∨ (bst σ d j).2 < ofF σ j d
      · rw [if_pos c2]; exact nI_pos (by omega)
      · rw [if_neg c2]; exact h3
theorem C_bestBidder {h : xH} {w : Nat} {σ : Nat → Int32} {d : Nat} (hw : WR h w σ) (hb : Bnd σ) (hd : d < 10) : f_X5_bestBidder w (nI d) (vlF σ d) h = some ((bst σ d 6).1, h) := by
  obtain ⟨f, hf, ho⟩ := hb.own hd
  unfold f_X5_bestBidder f_X5_bestBidder_c14
  rw [gd_n hd (by omega), nI_clamp (by omega), hw.day (k := 4) hd (by omega) (a := w + 5) rfl, ho]
  by_cases c : f = 0
  · subst c
    have b1 : bst σ d 2 = (nI 1, ofF σ 1 d) := by
      rw [bst, if_neg (by rw [ho]; decide), bst, if_pos ho, bst, if_pos (Or.inl (by decide))]
    have e := C_bidOf (p := 1) hw hb (by omega) hd
    have l := C_bestBidder_l hw hb hd ho hf 4 2 xN (by omega) (by unfold xN; omega) (by rw [b1]; exact nI_pos (by omega))
    rw [b1] at l
    rw [if_pos (show nI 0 = 0 from rfl), show (1 : Int32) = nI 1 from rfl, e, bn_s, nI_add]
    exact l
  · have b1 : bst σ d 1 = (nI 0, ofF σ 0 d) := by
      rw [bst, if_neg (by rw [ho]; exact fun q => c ((nI_eq (by omega) (by omega)).mp q)), bst, if_pos (Or.inl (by decide))]
    have e := C_bidOf (p := 0) hw hb (by omega) hd
    have l := C_bestBidder_l hw hb hd ho hf 5 1 xN (by omega) (by unfold xN; omega) (by rw [b1]; exact nI_pos (by omega))
    rw [b1] at l
    rw [if_neg (show ¬ nI f = 0 from fun q => c ((nI_eq (b := 0) (by omega) (by omega)).mp q)), show (0 : Int32) = nI 0 from rfl, e, bn_s, nI_1]
    exact l
theorem M_bidder_l {hc : xH} {σ : Nat → Int32} {d : Nat} (hl : LW hc σ) (hb : Bnd σ) (hd : d < 10) : ∀ m j n (h : xH), j + m = 6 → m < n → h 1 = σ → ∃ h', f_X7_bidder_c7 (nI d) n (bst σ d j).1 (bst σ d j).2 (nI j) h = some ((bst σ d 6).1, h') ∧ ∀ q, q ≠ 15 → q ≠ 16 → h' q = h q
  | m, j, 0, h, _, h2, _ => absurd h2 (Nat.not_lt_zero _)
  | 0, j, n + 1, h, h1, _, _ => by
    refine ⟨h, ?_, fun _ _ _ => rfl⟩
    rw [f_X7_bidder_c7, if_pos (show (6 : Int32) ≤ nI j from nI_le (a := 6) (by omega) (by omega)), show j = 6 by omega]
  | m + 1, j, n + 1, h, h1, h2, h3 => by
    subst h3
    rw [f_X7_bidder_c7, if_neg (show ¬ (6 : Int32) ≤ nI j from nI_ge (b := 6) (by omega) (by omega)), M_of (j := 4) (k := 4) rfl hd (by omega), bn_s]
    unfold f_X7_bidder_c36 f_X7_bidder_c53 f_X7_bidder_c59
    rw [nI_1]
    have ih := fun (g : xH) (hg : g 1 = h 1) => M_bidder_l hl hb hd m (j + 1) n g (by omega) (by omega) hg
    rw [bst] at ih
    by_cases c : h 1 (18 + 6 * d + 4) = nI j
    · rw [if_pos c, if_pos (by decide)]
      rw [if_pos c] at ih
      exact ih h rfl
    · rw [if_neg c]
      rw [if_neg c] at ih
      obtain ⟨g, e1, e2⟩ := M_offerOf (p := j) (d := d) hl (by omega) hd
      rw [e1, bn_s, if_neg]
      · obtain ⟨g', i1, i2⟩ := ih g (e2 1 (by omega) (by omega))
        refine ⟨g', ?_, fun q q1 q2 => (i2 q q1 q2).trans (e2 q q1 q2)⟩
        by_cases c2 : (bst (h 1) d j).1 < 0
        · rw [if_pos c2]
          rw [if_pos (Or.inl c2)] at i1
          exact i1
        · rw [if_neg c2]
          by_cases c3 : ofF (h 1) j d ≤ (bst (h 1) d j).2
          · rw [if_pos c3]
            rw [if_neg (fun q => q.elim c2 (fun z => absurd z (Int32.not_lt.mpr c3)))] at i1
            exact i1
          · rw [if_neg c3]
            rw [if_pos (Or.inr (Int32.not_le.mp c3))] at i1
            exact i1
      · rw [Int32.lt_iff_toInt_lt, show (0 : Int32).toInt = 0 from rfl]
        have := (ofF_rg (p := j) (d := d) hb (by omega)).1
        omega
theorem M_bidder {hc h : xH} {d : Nat} (hl : LW hc (h 1)) (hb : Bnd (h 1)) (hd : d < 10) : ∃ h', f_X7_bidder (nI d) h = some ((bst (h 1) d 6).1, h') ∧ ∀ q, q ≠ 15 → q ≠ 16 → h' q = h q :=
  M_bidder_l hl hb hd 6 0 xN h (by omega) (by unfold xN; omega) rfl
/-! told, offer -/
theorem mS.of {h h' : xH} (e : ∀ q, q ≠ 15 → q ≠ 16 → h' q = h q) : mS h h' := fun q _ _ _ q4 q5 _ _ => e q q4 q5
theorem cS.of {h h' : xH} (e : ∀ q, q ≠ 20 → h' q = h q) : cS h h' := fun q q1 _ _ _ => e q q1
theorem C_worthOf (k d : Int32) (h : xH) : f_X6_worthOf k d h = some (wthF k d, h) := by
  unfold f_X6_worthOf wthF
  have e : 99 - d - 3 = 96 - d := by
    rw [Int32.sub_sub, Int32.add_comm d 3, ← Int32.sub_sub]
    rfl
  rw [e]
  repeat' split
  all_goals rfl
theorem M_worth {h : xH} {d : Nat} (hd : d < 10) : f_X7_worth (nI d) h = some (wthF (h 1 (18 + 6 * d)) (h 1 (18 + 6 * d + 1)), h) := by
  unfold f_X7_worth wthF
  rw [M_of (j := 1) (k := 1) rfl hd (by omega), bn_s, M_of (j := 0) (k := 0) rfl hd (by omega), bn_s, show 18 + 6 * d + 0 = 18 + 6 * d from rfl]
  repeat' split
  all_goals rfl
theorem S_told_ok {κ : Nat} (hκ : κ < 64) : S_told (Rk κ) (Rk (κ + 1)) := by
  intro a1 a2 hc hm hR
  refine Sm.k hκ hR ?_
  have hR := hR.1
  simp only [f_X6_told, f_X7_told, C_isDay, M_isDay, M_0_7, bn_s, b01, hR.1.1.days]
  refine Sm.ite (fun c1 => ?_) (fun _ => .ret hR)
  obtain ⟨d, n, hd, hn, h0, rfl⟩ := day_in hR.1.2.1.1 c1
  by_cases c2 : 0 ≤ a2 ∧ a2 ≤ 7
  · rw [if_pos c2]
    obtain ⟨j, hj, rfl⟩ := in_nI (n := 7) (M := 7) rfl c2
    have go : ∀ (k : Nat), k < 6 → Sm hm (gd (nI d) 10 (some (hc (25 + k) (Int32.toNatClampNeg (nI d)), hc))) (bn (f_X7_of (nI d) (nI k) hm) fun r h => some (r, h)) := by
      intro k hk
      rw [gd_n (by omega) (by omega), nI_clamp (by omega), M_of (j := k) rfl (by omega) hk, bn_s, hR.1.1.day (k := k) (by omega) (by omega) (a := 25 + k) (by omega)]
      exact .ret hR
    have ne : ∀ i k : Nat, i < 8 → k < 8 → i ≠ k → ¬ nI i = nI k := fun i k hi hk h q => h ((nI_eq (by omega) (by omega)).mp q)
    match j, hj with
    | 0, _ =>
      rw [if_pos (show nI 0 = 0 from rfl), if_neg (show ¬ 6 ≤ nI 0 by decide)]
      exact go 0 (by omega)
    | 1, _ =>
      rw [if_neg (show ¬ nI 1 = 0 by decide), if_pos (show nI 1 = 1 from rfl), if_neg (show ¬ 6 ≤ nI 1 by decide)]
      exact go 1 (by omega)
    | 2, _ =>
      rw [if_neg (show ¬ nI 2 = 0 by decide), if_neg (show ¬ nI 2 = 1 by decide), if_pos (show nI 2 = 2 from rfl), if_neg (show ¬ 6 ≤ nI 2 by decide)]
      exact go 2 (by omega)
    | 3, _ =>
      rw [if_neg (show ¬ nI 3 = 0 by decide), if_neg (show ¬ nI 3 = 1 by decide), if_neg (show ¬ nI 3 = 2 by decide), if_pos (show nI 3 = 3 from rfl), if_neg (show ¬ 6 ≤ nI 3 by decide)]
      exact go 3 (by omega)
    | 4, _ =>
      rw [if_neg (show ¬ nI 4 = 0 by decide), if_neg (show ¬ nI 4 = 1 by decide), if_neg (show ¬ nI 4 = 2 by decide), if_neg (show ¬ nI 4 = 3 by decide), if_pos (show nI 4 = 4 from rfl), if_neg (show ¬ 6 ≤ nI 4 by decide)]
      exact go 4 (by omega)
    | 5, _ =>
      rw [if_neg (show ¬ nI 5 = 0 by decide), if_neg (show ¬ nI 5 = 1 by decide), if_neg (show ¬ nI 5 = 2 by decide), if_neg (show ¬ nI 5 = 3 by decide), if_neg (show ¬ nI 5 = 4 by decide), if_pos (show nI 5 = 5 from rfl), if_neg (show ¬ 6 ≤ nI 5 by decide)]
      exact go 5 (by omega)
    | 6, _ =>
      rw [if_neg (show ¬ nI 6 = 0 by decide), if_neg (show ¬ nI 6 = 1 by decide), if_neg (show ¬ nI 6 = 2 by decide), if_neg (show ¬ nI 6 = 3 by decide), if_neg (show ¬ nI 6 = 4 by decide), if_neg (show ¬ nI 6 = 5 by decide), if_pos (show nI 6 = 6 from rfl), if_pos (show 6 ≤ nI 6 by decide), if_pos (show nI 6 = 6 from rfl)]
      obtain ⟨hc', e1, e2⟩ := C_valueOf (d := d) hR.1.1 hR.1.2.2.2 hR.1.2.1 (by omega) (by omega)
      obtain ⟨hm', e3, e4⟩ := M_valueOf (d := d) hR.1.2.2.2 (by omega)
      rw [e1, e3, bn_s, bn_s]
      exact .to (.ms (.of e4)) (hR.scr (.of e2) (.of e4))
    | 7, _ =>
      rw [if_neg (show ¬ nI 7 = 0 by decide), if_neg (show ¬ nI 7 = 1 by decide), if_neg (show ¬ nI 7 = 2 by decide), if_neg (show ¬ nI 7 = 3 by decide), if_neg (show ¬ nI 7 = 4 by decide), if_neg (show ¬ nI 7 = 5 by decide), if_neg (show ¬ nI 7 = 6 by decide), if_pos (show nI 7 = 7 from rfl), if_pos (show 6 ≤ nI 7 by decide), if_neg (show ¬ nI 7 = 6 by decide)]
      rw [gd_n (by omega) (by omega), gd_n (by omega) (by omega), nI_clamp (by omega), C_worthOf, bn_s, M_worth (by omega), bn_s, hR.1.1.day (k := 0) (by omega) (by omega) (a := 25) rfl, hR.1.1.day (k := 1) (by omega) (by omega) (a := 26) rfl]
      exact .ret hR
  · rw [if_neg c2, if_neg (fun q => c2 (by subst q; decide)), if_neg (fun q => c2 (by subst q; decide)), if_neg (fun q => c2 (by subst q; decide)), if_neg (fun q => c2 (by subst q; decide)), if_neg (fun q => c2 (by subst q; decide)), if_neg (fun q => c2 (by subst q; decide)), if_neg (fun q => c2 (by subst q; decide)), if_neg (fun q => c2 (by subst q; decide))]
    exact .ret hR
theorem S_offer_ok {κ : Nat} (hκ : κ < 64) : S_offer (Rk κ) (Rk (κ + 1)) := by
  intro a1 a2 hc hm hR
  refine Sm.k hκ hR ?_
  have hR := hR.1
  simp only [f_X6_offer, f_X7_offer, C_isDay, C_isOne, M_isDay, M_isOne, bn_s, b01, hR.1.1.days]
  refine Sm.ite (fun c1 => Sm.ite (fun c2 => ?_) (fun _ => .ret hR)) (fun _ => .ret hR)
  obtain ⟨d, n, hd, hn, h0, rfl⟩ := day_in hR.1.2.1.1 c2
  obtain ⟨p, hp, rfl⟩ := in_nI (n := 5) (M := 5) rfl c1
  obtain ⟨hc', e1, e2⟩ := C_valueOf (d := d) hR.1.1 hR.1.2.2.2 hR.1.2.1 (by omega) (by omega)
  obtain ⟨hm', e3, e4⟩ := M_offerOf (p := p) (d := d) hR.1.2.2.2 (by omega) (by omega)
  have hw' : WR hc' 24 (hm 1) := hR.1.1.keep (fun a _ _ => e2 a (by omega))
  rw [e1, e3, bn_s, bn_s, C_bidOf hw' hR.1.2.1 (by omega) (by omega), bn_s]
  exact .to (.ms (.of e4)) (hR.scr (.of e2) (.of e4))
