/-! keys -/
theorem C_wd_l {tp bt : Nat → Int32} {T b n w : Nat} {h : xH} (hT : TC tp T h) (h3 : h 21 3 = nI b) (hbn : b + n ≤ T) (hl : ∀ h : xH, f_J0_length w h = some (nI n, h)) (hch : ∀ i, i < n → ∀ h : xH, f_J0_charAt w (nI i) h = some (bt i, h)) : ∀ m i f, i + m = n → m < f → ∃ r : Int32, f_X2_isWord_c20 w f (nI i) h = some (r, h) ∧ ((r = 0 ∧ ¬ ∀ j, i ≤ j → j < n → tp (b + j) = bt j) ∨ (r = 1 ∧ ∀ j, i ≤ j → j < n → tp (b + j) = bt j))
  | m, i, 0, _, h2 => absurd h2 (Nat.not_lt_zero _)
  | 0, i, f + 1, h1, _ => by
    have := hT.1
    exact ⟨1, by rw [f_X2_isWord_c20, hl, bn_s, if_pos (nI_le (by omega) (by omega))], Or.inr ⟨rfl, fun j h1 h2 => absurd h2 (by omega)⟩⟩
  | m + 1, i, f + 1, h1, h2 => by
    have := hT.1
    obtain ⟨r, i1, i2⟩ := C_wd_l (bt := bt) hT h3 hbn hl hch m (i + 1) f (by omega) (by omega)
    rw [f_X2_isWord_c20, hl, bn_s, if_neg (nI_ge (by omega) (by omega)), h3, nI_add, gd_n (show b + i < 96 by omega) (by omega), nI_clamp (by omega), hch i (by omega), bn_s, hT.2.2 (b + i) (by omega), nI_1]
    by_cases c : tp (b + i) = bt i
    · rw [if_pos c]
      refine ⟨r, i1, ?_⟩
      rcases i2 with ⟨q1, q2⟩ | ⟨q1, q2⟩
      · exact Or.inl ⟨q1, fun z => q2 (fun j a b => z j (by omega) b)⟩
      · refine Or.inr ⟨q1, fun j a b => ?_⟩
        by_cases e : j = i
        · subst e; exact c
        · exact q2 j (by omega) b
    · rw [if_neg c]
      exact ⟨0, rfl, Or.inl ⟨rfl, fun z => c (z i (Nat.le_refl _) (by omega))⟩⟩
def WD (tp bt : Nat → Int32) (b e n : Nat) : Prop := e = b + n ∧ ∀ i, i < n → tp (b + i) = bt i
theorem C_word {tp bt : Nat → Int32} {T b e n w : Nat} {h : xH} (hT : TC tp T h) (h3 : h 21 3 = nI b) (h4 : h 21 4 = nI e) (hbe : b ≤ e) (heT : e ≤ T) (hn : n ≤ 6) (hl : ∀ h : xH, f_J0_length w h = some (nI n, h)) (hch : ∀ i, i < n → ∀ h : xH, f_J0_charAt w (nI i) h = some (bt i, h)) : ∃ r : Int32, f_X2_isWord w h = some (r, h) ∧ ((r = 0 ∧ ¬ WD tp bt b e n) ∨ (r = 1 ∧ WD tp bt b e n)) := by
  have := hT.1
  unfold f_X2_isWord
  rw [hl, bn_s, h3, h4, nI_sub hbe]
  by_cases c : e = b + n
  · subst c
    rw [if_pos (by rw [Nat.add_sub_cancel_left])]
    obtain ⟨r, i1, i2⟩ := C_wd_l (bt := bt) hT h3 heT hl hch n 0 xN (by omega) (by unfold xN; omega)
    refine ⟨r, i1, ?_⟩
    rcases i2 with ⟨q1, q2⟩ | ⟨q1, q2⟩
    · exact Or.inl ⟨q1, fun z => q2 (fun j _ b => z.2 j b)⟩
    · exact Or.inr ⟨q1, rfl, fun j b => q2 j (Nat.zero_le _) b⟩
  · rw [if_neg (fun q => c (by have := (nI_eq (by omega) (by omega)).mp q; omega))]
    exact ⟨0, rfl, Or.inl ⟨rfl, fun z => c z.1⟩⟩
def bt0 : Nat → Int32 := fun i => ([112, 114, 105, 99, 101] : List Int32).getD i 0
def bt1 : Nat → Int32 := fun i => ([119, 101, 97, 114] : List Int32).getD i 0
def bt2 : Nat → Int32 := fun i => ([102, 105, 110, 101] : List Int32).getD i 0
theorem ch0 : ∀ i, i < 5 → ∀ h : xH, f_J0_charAt 0 (nI i) h = some (bt0 i, h) := lt_s (lt_s (lt_s (lt_s (lt_s lt_0 (fun _ => rfl)) (fun _ => rfl)) (fun _ => rfl)) (fun _ => rfl)) (fun _ => rfl)
theorem ch1 : ∀ i, i < 4 → ∀ h : xH, f_J0_charAt 1 (nI i) h = some (bt1 i, h) := lt_s (lt_s (lt_s (lt_s lt_0 (fun _ => rfl)) (fun _ => rfl)) (fun _ => rfl)) (fun _ => rfl)
theorem ch2 : ∀ i, i < 4 → ∀ h : xH, f_J0_charAt 2 (nI i) h = some (bt2 i, h) := lt_s (lt_s (lt_s (lt_s lt_0 (fun _ => rfl)) (fun _ => rfl)) (fun _ => rfl)) (fun _ => rfl)
theorem sh0 : ∀ n, n < 7 → (nI n >>> ((0 : Int32) &&& 31)) = nI n := by decide +kernel
theorem J_len {w n : Nat} (hl : xLen.getD w 0 = n) (hn : n < 7) (h : xH) : f_J0_length w h = some (nI n, h) := by
  rw [show f_J0_length w h = some (nI (xLen.getD w 0) >>> ((0 : Int32) &&& 31), h) from rfl, hl, sh0 n hn]
theorem M_long {tp : Nat → Int32} {T b e : Nat} {h : xH} (hM : TM tp T h) (h16 : h 0 16 = nI b) (h17 : h 0 17 = nI e) (h18 : h 0 18 = 1) (hbe : b ≤ e) (heT : e ≤ T) : ∃ r : Int32, f_X7_isLong 112 114 105 99 101 0 h = some (r, h) ∧ ((r = 0 ∧ ¬ WD tp bt0 b e 5) ∨ (r = 1 ∧ WD tp bt0 b e 5)) := by
  have := hM.1
  unfold f_X7_isLong f_X7_isLong_c11
  rw [if_pos rfl, if_pos h18, h16, h17, nI_sub hbe, hM.2.2]
  by_cases c : e = b + 5
  · subst c
    rw [if_pos (by rw [Nat.add_sub_cancel_left]; rfl), show nI b + 1 = nI (b + 1) from nI_add b 1, show nI b + 2 = nI (b + 2) from nI_add b 2, show nI b + 3 = nI (b + 3) from nI_add b 3, show nI b + 4 = nI (b + 4) from nI_add b 4, gd_n (show b < 96 by omega) (by omega), gd_n (show b + 1 < 96 by omega) (by omega), gd_n (show b + 2 < 96 by omega) (by omega), gd_n (show b + 3 < 96 by omega) (by omega), gd_n (show b + 4 < 96 by omega) (by omega), nI_clamp (show b < 2 ^ 31 by omega), nI_clamp (show b + 1 < 2 ^ 31 by omega), nI_clamp (show b + 2 < 2 ^ 31 by omega), nI_clamp (show b + 3 < 2 ^ 31 by omega), nI_clamp (show b + 4 < 2 ^ 31 by omega)]
    by_cases c0 : tp b = 112
    · by_cases c1 : tp (b + 1) = 114
      · by_cases c2 : tp (b + 2) = 105
        · by_cases c3 : tp (b + 3) = 99
          · by_cases c4 : tp (b + 4) = 101
            · rw [if_pos c0, if_pos c1, if_pos c2, if_pos c3, if_pos c4, if_pos rfl]
              refine ⟨1, rfl, Or.inr ⟨rfl, rfl, fun i hi => ?_⟩⟩
              rcases (show i = 0 ∨ i = 1 ∨ i = 2 ∨ i = 3 ∨ i = 4 by omega) with rfl | rfl | rfl | rfl | rfl
              · exact c0
              · exact c1
              · exact c2
              · exact c3
              · exact c4
            · rw [if_pos c0, if_pos c1, if_pos c2, if_pos c3, if_neg c4]
              exact ⟨0, rfl, Or.inl ⟨rfl, fun z => c4 (z.2 4 (by omega))⟩⟩
          · rw [if_pos c0, if_pos c1, if_pos c2, if_neg c3]
            exact ⟨0, rfl, Or.inl ⟨rfl, fun z => c3 (z.2 3 (by omega))⟩⟩
        · rw [if_pos c0, if_pos c1, if_neg c2]
          exact ⟨0, rfl, Or.inl ⟨rfl, fun z => c2 (z.2 2 (by omega))⟩⟩
      · rw [if_pos c0, if_neg c1]
        exact ⟨0, rfl, Or.inl ⟨rfl, fun z => c1 (z.2 1 (by omega))⟩⟩
    · rw [if_neg c0]
      exact ⟨0, rfl, Or.inl ⟨rfl, fun z => c0 (z.2 0 (by omega))⟩⟩
  · rw [if_neg (fun q => c (by have := (nI_eq (b := 5) (by omega) (by omega)).mp q; omega))]
    exact ⟨0, rfl, Or.inl ⟨rfl, fun z => c z.1⟩⟩
theorem M_wordAt {tp bt : Nat → Int32} {T b e : Nat} {h : xH} {x y z w : Int32} (hM : TM tp T h) (h16 : h 0 16 = nI b) (h17 : h 0 17 = nI e) (h18 : h 0 18 = 1) (hbe : b ≤ e) (heT : e ≤ T) (hw : ¬ w = 0) (e0 : bt 0 = x) (e1 : bt 1 = y) (e2 : bt 2 = z) (e3 : bt 3 = w) : ∃ r : Int32, f_X7_isWordAt x y z w h = some (r, h) ∧ ((r = 0 ∧ ¬ WD tp bt b e 4) ∨ (r = 1 ∧ WD tp bt b e 4)) := by
  have := hM.1
  unfold f_X7_isWordAt f_X7_isWordAt_c10
  rw [if_neg hw, if_pos h18, h16, h17, nI_sub hbe, hM.2.2]
  by_cases c : e = b + 4
  · subst c
    rw [if_pos (by rw [Nat.add_sub_cancel_left]; rfl), show nI b + 1 = nI (b + 1) from nI_add b 1, show nI b + 2 = nI (b + 2) from nI_add b 2, show nI b + 3 = nI (b + 3) from nI_add b 3, gd_n (show b < 96 by omega) (by omega), gd_n (show b + 1 < 96 by omega) (by omega), gd_n (show b + 2 < 96 by omega) (by omega), gd_n (show b + 3 < 96 by omega) (by omega), nI_clamp (show b < 2 ^ 31 by omega), nI_clamp (show b + 1 < 2 ^ 31 by omega), nI_clamp (show b + 2 < 2 ^ 31 by omega), nI_clamp (show b + 3 < 2 ^ 31 by omega)]
    by_cases c0 : tp b = x
    · by_cases c1 : tp (b + 1) = y
      · by_cases c2 : tp (b + 2) = z
        · by_cases c3 : tp (b + 3) = w
          · rw [if_pos c0, if_pos c1, if_pos c2, if_neg hw, if_pos c3]
            refine ⟨1, rfl, Or.inr ⟨rfl, rfl, fun i hi => ?_⟩⟩
            rcases (show i = 0 ∨ i = 1 ∨ i = 2 ∨ i = 3 by omega) with rfl | rfl | rfl | rfl
            · rw [e0]; exact c0
            · rw [e1]; exact c1
            · rw [e2]; exact c2
            · rw [e3]; exact c3
          · rw [if_pos c0, if_pos c1, if_pos c2, if_neg hw, if_neg c3]
            exact ⟨0, rfl, Or.inl ⟨rfl, fun q => c3 ((q.2 3 (by omega)).trans e3)⟩⟩
        · rw [if_pos c0, if_pos c1, if_neg c2]
          exact ⟨0, rfl, Or.inl ⟨rfl, fun q => c2 ((q.2 2 (by omega)).trans e2)⟩⟩
      · rw [if_pos c0, if_neg c1]
        exact ⟨0, rfl, Or.inl ⟨rfl, fun q => c1 ((q.2 1 (by omega)).trans e1)⟩⟩
    · rw [if_neg c0]
      exact ⟨0, rfl, Or.inl ⟨rfl, fun q => c0 ((q.2 0 (by omega)).trans e0)⟩⟩
  · rw [if_neg (fun q => c (by have := (nI_eq (b := 4) (by omega) (by omega)).mp q; omega))]
    exact ⟨0, rfl, Or.inl ⟨rfl, fun z => c z.1⟩⟩
theorem rr_eq {P : Prop} {r r' : Int32} (h1 : (r = 0 ∧ ¬ P) ∨ (r = 1 ∧ P)) (h2 : (r' = 0 ∧ ¬ P) ∨ (r' = 1 ∧ P)) : r = r' := by
  rcases h1 with ⟨a, b⟩ | ⟨a, b⟩
  · rcases h2 with ⟨c, d⟩ | ⟨c, d⟩
    · rw [a, c]
    · exact absurd d b
  · rcases h2 with ⟨c, d⟩ | ⟨c, d⟩
    · exact absurd b d
    · rw [a, c]
theorem g_6 {ρ : Type} {k : Option ρ} : gd 0 6 k = k ∧ gd 1 6 k = k ∧ gd 2 6 k = k ∧ gd 3 6 k = k ∧ gd 4 6 k = k ∧ gd 5 6 k = k := ⟨if_neg (by decide), if_neg (by decide), if_neg (by decide), if_neg (by decide), if_neg (by decide), if_neg (by decide)⟩
theorem key_eq {tp : Nat → Int32} {T b e : Nat} {hc hm : xH} (hT : TC tp T hc) (hM : TM tp T hm) (hK : TK tp T hc hm b e) : ∃ r : Int32, f_X2_keyAtHand hc = some (r, hc) ∧ f_X7_key hm = some (r, hm) ∧ (r = -1 ∨ r = 0 ∨ r = 1 ∨ r = 2) := by
  obtain ⟨k1, k2, k3, k4, k5, k6, k7⟩ := hK
  obtain ⟨f, hf⟩ : ∃ f, xN = f + 4 := ⟨xN - 4, by unfold xN; omega⟩
  unfold f_X2_keyAtHand f_X7_key
  rw [hf]
  by_cases s3 : hc 21 5 = 3
  · have h18 : hm 0 18 = 1 := by
      rcases k7 with ⟨a, -⟩ | ⟨a, -⟩ | ⟨a, -⟩ | ⟨-, a, -⟩ | ⟨a, -⟩
      · rw [a] at s3; exact absurd s3 (by decide)
      · rw [a] at s3; exact absurd s3 (by decide)
      · rw [a] at s3; exact absurd s3 (by decide)
      · exact a
      · rw [a] at s3; exact absurd s3 (by decide)
    obtain ⟨x0, a0, b0⟩ := C_word (bt := bt0) (w := 0) (n := 5) hT k1 k3 k5 k6 (by omega) (J_len rfl (by omega)) ch0
    obtain ⟨x1, a1, b1⟩ := C_word (bt := bt1) (w := 1) (n := 4) hT k1 k3 k5 k6 (by omega) (J_len rfl (by omega)) ch1
    obtain ⟨x2, a2, b2⟩ := C_word (bt := bt2) (w := 2) (n := 4) hT k1 k3 k5 k6 (by omega) (J_len rfl (by omega)) ch2
    obtain ⟨y0, p0, q0⟩ := M_long hM k2 k4 h18 k5 k6
    obtain ⟨y1, p1, q1⟩ := M_wordAt (bt := bt1) (x := 119) (y := 101) (z := 97) (w := 114) hM k2 k4 h18 k5 k6 (by decide) rfl rfl rfl rfl
    obtain ⟨y2, p2, q2⟩ := M_wordAt (bt := bt2) (x := 102) (y := 105) (z := 110) (w := 101) hM k2 k4 h18 k5 k6 (by decide) rfl rfl rfl rfl
    have z0 := rr_eq b0 q0
    have z1 := rr_eq b1 q1
    have z2 := rr_eq b2 q2
    subst z0 z1 z2
    have t0 : ∀ h : xH, f_X2_keyText 0 h = some (0, h) := fun _ => rfl
    have t1 : ∀ h : xH, f_X2_keyText (0 + 1) h = some (1, h) := fun _ => rfl
    have t2 : ∀ h : xH, f_X2_keyText (0 + 1 + 1) h = some (2, h) := fun _ => rfl
    rw [f_X2_keyAtHand_c2, if_neg (by decide), if_pos s3, t0, bn_s, g_6.1, cN_0, a0, bn_s, p0, bn_s]
    unfold f_X2_keyAtHand_c28
    by_cases c0 : x0 = 0
    · rw [if_pos c0, if_pos c0, f_X2_keyAtHand_c2, if_neg (by decide), if_pos s3, t1, bn_s, g_6.2.1, cN_1, a1, bn_s, p1, bn_s]
      unfold f_X2_keyAtHand_c28
      by_cases c1 : x1 = 0
      · rw [if_pos c1, if_pos c1, f_X2_keyAtHand_c2, if_neg (by decide), if_pos s3, t2, bn_s, g_6.2.2.1, cN_2, a2, bn_s, p2, bn_s]
        unfold f_X2_keyAtHand_c28
        by_cases c2 : x2 = 0
        · rw [if_pos c2, if_pos c2, f_X2_keyAtHand_c2, if_pos (by decide)]
          exact ⟨-1, rfl, rfl, Or.inl rfl⟩
        · rw [if_neg c2, if_neg c2]
          exact ⟨2, rfl, rfl, Or.inr (Or.inr (Or.inr rfl))⟩
      · rw [if_neg c1, if_neg c1]
        exact ⟨1, rfl, rfl, Or.inr (Or.inr (Or.inl rfl))⟩
    · rw [if_neg c0, if_neg c0]
      exact ⟨0, rfl, rfl, Or.inr (Or.inl rfl)⟩
  · have h18 : ¬ hm 0 18 = 1 := by
      rcases k7 with ⟨-, a⟩ | ⟨-, a, -⟩ | ⟨-, a, -⟩ | ⟨a, -⟩ | ⟨-, a⟩
      · rw [a]; decide
      · rw [a]; decide
      · rw [a]; decide
      · exact absurd a s3
      · rw [a]; decide
    refine ⟨-1, ?_, ?_, Or.inl rfl⟩
    · rw [f_X2_keyAtHand_c2, if_neg (by decide), if_neg s3]
      unfold f_X2_keyAtHand_c28
      rw [f_X2_keyAtHand_c2, if_neg (by decide), if_neg s3]
      unfold f_X2_keyAtHand_c28
      rw [f_X2_keyAtHand_c2, if_neg (by decide), if_neg s3]
      unfold f_X2_keyAtHand_c28
      rw [f_X2_keyAtHand_c2, if_pos (by decide)]
    · unfold f_X7_isLong f_X7_isLong_c11 f_X7_isWordAt f_X7_isWordAt_c10
      rw [if_pos rfl, if_neg h18, bn_s, if_pos rfl, if_neg (by decide), if_neg h18, bn_s, if_pos rfl, if_neg (by decide), if_neg h18, bn_s, if_pos rfl]
/-! names -/
def fI (bt : Nat → Int32) (v : Int32) : Nat → Nat → Int32
  | 0, _ => -1
  | m + 1, i => if bt i = v then nI i else fI bt v m (i + 1)
theorem ix_l {w n : Nat} {a1 a2 v : Int32} {h : xH} (hn : n ≤ 6) (hl : xLen.getD w 0 = n) : ∀ m i f, i + m = n → m < f → f_J1_indexOfChar_c7 w a1 a2 (nI n) f v (nI i) h = some (fI (fun j => (xByt.getD w []).getD j 0) v m i, h)
  | m, i, 0, _, h2 => absurd h2 (Nat.not_lt_zero _)
  | 0, i, f + 1, h1, _ => by rw [f_J1_indexOfChar_c7, if_pos (nI_le (by omega) (by omega)), fI]
  | m + 1, i, f + 1, h1, h2 => by
    have ih := ix_l (a1 := a1) (a2 := a2) (v := v) (h := h) hn hl m (i + 1) f (by omega) (by omega)
    rw [f_J1_indexOfChar_c7, if_neg (nI_ge (by omega) (by omega)), hl, gd_n (show i < n by omega) (by omega), nI_clamp (by omega), nI_1, ih, fI]
    split <;> rfl
theorem cvt : ∀ c, c < 128 → ((nI c).toUInt32 % 65536).toInt32 = nI c ∧ (nI c).toInt8.toInt32 = nI c ∧ ¬ nI c < 0 ∧ ¬ (255 : Int32) < nI c := by decide +kernel
theorem J_index {w n c : Nat} {h : xH} (hn : n ≤ 6) (hn0 : 0 < n) (hc : c < 128) (hl : xLen.getD w 0 = n) (hlen : ∀ h : xH, f_J0_length w h = some (nI n, h)) : f_J0_indexOf w (nI c) h = some (fI (fun j => (xByt.getD w []).getD j 0) (nI c) n 0, h) := by
  obtain ⟨-, q2, q3, q4⟩ := cvt c hc
  have e := ix_l (w := w) (a1 := nI c) (a2 := 0) (v := nI c) (h := h) hn hl n 0 xN (by omega) (by unfold xN; omega)
  have l1 : f_J0_isLatin1 w h = some (1, h) := rfl
  have nn : ¬ Int32.ofNat n < nI n := nI_nlt (Nat.le_refl _) (by omega)
  unfold f_J0_indexOf f_J0_indexOf2 f_J1_indexOf f_J1_canEncode f_J1_indexOfChar
  rw [l1, bn_s, if_neg (by decide), hlen, bn_s, if_neg q3, if_neg q4, bn_s, if_neg (by decide), nm_x, nm_x, hl, if_neg nn, show (if (0 : Int32) < 0 then (0 : Int32) else 0) = 0 from rfl, if_pos (show (0 : Int32) < nI n from nI_lt (a := 0) hn0 (by omega)), nm_x, q2, show f_J1_indexOfChar_c7 w (nI c) 0 (nI n) xN (nI c) 0 h = _ from e, bn_s, bn_s, bn_s]
def nmT (key c : Nat) : Prop := match nmk (nI key) (nI c) with
  | some s => ¬ fI (fun j => (xByt.getD (3 + key) []).getD j 0) (nI c) (xLen.getD (3 + key) 0) 0 < 0 ∧ (-1) - fI (fun j => (xByt.getD (3 + key) []).getD j 0) (nI c) (xLen.getD (3 + key) 0) 0 = s
  | none => fI (fun j => (xByt.getD (3 + key) []).getD j 0) (nI c) (xLen.getD (3 + key) 0) 0 < 0
def nmB (key c : Nat) : Bool := match nmk (nI key) (nI c) with
  | some s => decide (¬ fI (fun j => (xByt.getD (3 + key) []).getD j 0) (nI c) (xLen.getD (3 + key) 0) 0 < 0 ∧ (-1) - fI (fun j => (xByt.getD (3 + key) []).getD j 0) (nI c) (xLen.getD (3 + key) 0) 0 = s)
  | none => decide (fI (fun j => (xByt.getD (3 + key) []).getD j 0) (nI c) (xLen.getD (3 + key) 0) 0 < 0)
theorem nmB_all : ∀ k, k < 3 → ∀ c, c < 128 → nmB k c = true := by decide +kernel
theorem nm_all {k c : Nat} (hk : k < 3) (hc : c < 128) : nmT k c := by
  have := nmB_all k hk c hc
  unfold nmB at this
  unfold nmT
  split at this
  · rename_i s hs
    exact of_decide_eq_true this
  · rename_i hs
    exact of_decide_eq_true this
/-- the name at hand, as the class numbers it -/
theorem C_name {tp : Nat → Int32} {T b e k : Nat} {h : xH} (hT : TC tp T h) (h3 : h 21 3 = nI b) (h4 : h 21 4 = nI e) (hbe : b < e) (heT : e ≤ T) (h7 : h 21 7 = nI k) (hk : k < 3) (hL : pL (tp b) = true) : ∃ x : Int32, f_X2_nameAtHand h = some (x, h) ∧ ((e = b + 1 ∧ ∃ s, nmk (nI k) (tp b) = some s ∧ ¬ x < 0 ∧ (-1) - x = s) ∨ ((¬ e = b + 1 ∨ nmk (nI k) (tp b) = none) ∧ x < 0)) := by
  have := hT.1
  unfold f_X2_nameAtHand
  rw [h3, h4, nI_sub (by omega), h7]
  by_cases c : e = b + 1
  · subst c
    rw [if_pos (by rw [Nat.add_sub_cancel_left]; rfl)]
    unfold pL at hL
    rw [decide_eq_true_eq] at hL
    obtain ⟨c, hc, e2⟩ := in_nI (n := 122) (M := 122) rfl ⟨Int32.le_trans (by decide) hL.1, hL.2⟩
    have hN : f_X2_namesOf (nI k) h = some (nI (3 + k), h) := by
      unfold f_X2_namesOf
      rcases (show k = 0 ∨ k = 1 ∨ k = 2 by omega) with rfl | rfl | rfl <;> rfl
    have hI : f_J0_indexOf (3 + k) (nI c) h = some (fI (fun j => (xByt.getD (3 + k) []).getD j 0) (nI c) (xLen.getD (3 + k) 0) 0, h) := by
      rcases (show k = 0 ∨ k = 1 ∨ k = 2 by omega) with rfl | rfl | rfl
      · exact J_index (by decide) (by decide) (by omega) rfl (J_len rfl (by decide))
      · exact J_index (by decide) (by decide) (by omega) rfl (J_len rfl (by decide))
      · exact J_index (by decide) (by decide) (by omega) rfl (J_len rfl (by decide))
    rw [hN, bn_s, gd_n (show 3 + k < 6 by omega) (by omega), h3, gd_n (show b < 96 by omega) (by omega), nI_clamp (show b < 2 ^ 31 by omega), nI_clamp (show 3 + k < 2 ^ 31 by omega), hT.2.2 b (by omega), e2, (cvt c (by omega)).1, hI, bn_s]
    have := nm_all hk (show c < 128 by omega)
    unfold nmT at this
    refine ⟨_, rfl, ?_⟩
    cases hs : nmk (nI k) (nI c) with
    | some s =>
      rw [hs] at this
      exact Or.inl ⟨rfl, s, rfl, this⟩
    | none =>
      rw [hs] at this
      exact Or.inr ⟨Or.inr rfl, this⟩
  · rw [if_neg (fun q => c (by have := (nI_eq (b := 1) (by omega) (by omega)).mp q; omega))]
    exact ⟨-1, rfl, Or.inr ⟨Or.inl c, by decide⟩⟩
theorem M_name {k : Nat} {c : Int32} {h : xH} (hk : k < 3) : f_X7_isName (nI k) c h = some (match nmk (nI k) c with
    | some _ => 1
    | none => 0, h) := by
  unfold f_X7_isName nmk
  rcases (show k = 0 ∨ k = 1 ∨ k = 2 by omega) with rfl | rfl | rfl
  · rw [if_pos (show nI 0 = 0 from rfl), if_pos (show nI 0 = 0 from rfl)]
    repeat' split
    all_goals first
      | rfl
      | (exfalso; simp_all)
  · rw [if_neg (show ¬ nI 1 = 0 by decide), if_pos (show nI 1 = 1 from rfl), if_neg (show ¬ nI 1 = 0 by decide), if_pos (show nI 1 = 1 from rfl)]
    repeat' split
    all_goals first
      | rfl
      | (exfalso; simp_all)
  · rw [if_neg (show ¬ nI 2 = 0 by decide), if_neg (show ¬ nI 2 = 1 by decide), if_neg (show ¬ nI 2 = 0 by decide), if_neg (show ¬ nI 2 = 1 by decide)]
    repeat' split
    all_goals first
      | rfl
      | (exfalso; simp_all)
