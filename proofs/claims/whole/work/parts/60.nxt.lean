/-! the token at hand, on both sides -/
def TK (tp : Nat → Int32) (T : Nat) (hc hm : xH) (b e : Nat) : Prop := hc 21 3 = nI b ∧ hm 0 16 = nI b ∧ hc 21 4 = nI e ∧ hm 0 17 = nI e ∧ b ≤ e ∧ e ≤ T ∧ ((hc 21 5 = 0 ∧ hm 0 18 = 0) ∨ (hc 21 5 = 1 ∧ hm 0 18 = 3 ∧ b < e ∧ hc 21 6 = hm 0 20) ∨ (hc 21 5 = 2 ∧ hm 0 18 = 2 ∧ b < e ∧ hc 21 6 = hm 0 19 ∧ rg (hm 0 19) 9999) ∨ (hc 21 5 = 3 ∧ hm 0 18 = 1 ∧ b < e ∧ (hm 0 20 = if e = b + 1 then tp b else 0) ∧ ∀ i, b ≤ i → i < e → pL (tp i) = true) ∨ (hc 21 5 = 4 ∧ hm 0 18 = 4))
theorem nx4 {tp : Nat → Int32} {T b : Nat} {g k : xH} {w : Int32} (hT : TC tp T g) (hM : TM tp T k) (g3 : g 21 3 = nI b) (k17 : k 0 17 = nI b) (hb : b ≤ T) (hw : w = 0 ∨ w = 1) : ∃ hc' hm' e', f_X2_goToNext_c88 w g = some (0, hc') ∧ f_X7_nextToken_c89 w k = some (0, hm') ∧ TK tp T hc' hm' b e' ∧ c4 g hc' ∧ m5 k hm' := by
  have h96 := hT.1
  unfold f_X2_goToNext_c88 f_X7_nextToken_c89
  have hM1 : TM tp T (xst k 0 16 (k 0 17)) := hM.m5 (.st (by omega))
  have r16 : xst k 0 16 (k 0 17) 0 16 = nI b := by rw [xst_self, pk_us]; exact k17
  have r17 : xst k 0 16 (k 0 17) 0 17 = nI b := by rw [xst_self, pk_un (by omega)]; exact k17
  have f16 : m5 k (xst k 0 16 (k 0 17)) := .st (by omega)
  generalize xst k 0 16 (k 0 17) = k1 at hM1 r16 r17 f16
  rw [nm_x (x := k1), g3, hT.2.1, r16, hM1.2.1]
  by_cases cT : b = T
  · subst cT
    rw [if_neg (nI_nlt (Nat.le_refl _) (by omega)), if_pos rfl, nm_x, nm_x, nm_x]
    refine ⟨_, _, b, rfl, rfl, ⟨?_, ?_, ?_, ?_, Nat.le_refl _, Nat.le_refl _, Or.inl ⟨?_, ?_⟩⟩, (c4.st (by omega)).tr (.st (by omega)), f16.tr (.st (by omega))⟩
    · rw [xst_self, pk_un (by omega), xst_self, pk_un (by omega), g3]
    · rw [xst_self, pk_un (by omega), r16]
    · rw [xst_self, pk_us, xst_self, pk_un (by omega), hT.2.1]
    · rw [xst_self, pk_un (by omega), r17]
    · rw [xst_self, pk_un (by omega), xst_self, pk_us]
    · rw [xst_self, pk_us]
  have hbT : b < T := by omega
  rw [if_pos (nI_lt hbT (by omega)), if_neg (fun q => cT ((nI_eq (by omega) (by omega)).mp q)), gd_n (show b < 96 by omega) (by omega), nI_clamp (show b < 2 ^ 31 by omega), hT.2.2 b (by omega), C_isLetter, bn_s, b01, M_isLetter hM1 hbT, bn_s, b01]
  by_cases cL : pL (tp b) = true
  · rw [if_pos cL, if_pos cL]
    unfold f_X2_takeLetters
    rw [nm_x]
    have f1 : c4 g (xst g 21 4 (g 21 3)) := .st (by omega)
    rw [C_let (tp := tp) (T := T) (T - b) b xN (xst g 21 4 (g 21 3)) (by omega) (by unfold xN; omega) (hT.c4 f1) (by rw [xst_self, pk_us]; exact g3), xst_xst, M_let (tp := tp) (T := T) (T - b) b xN k1 (by omega) (by unfold xN; omega) hM1 r17]
    have e1 := scn_rg (p := pL) (tp := tp) (T - b) b
    have e2 := scn_pos (p := pL) (tp := tp) (m := T - b) cL (by omega)
    have e3 := scn_all (p := pL) (tp := tp) (T - b) b
    generalize scn pL tp (T - b) b = e at e1 e2 e3
    unfold f_X2_takeLetters_c47 f_X7_nextToken_c162
    simp only [nm_x]
    have z17 : ∀ s0 : Int32, xst (xst k1 0 17 (nI e)) 0 18 s0 0 17 = nI e := fun s0 => by rw [xst_self, pk_un (by omega), xst_self, pk_us]
    have z16 : ∀ s0 : Int32, xst (xst k1 0 17 (nI e)) 0 18 s0 0 16 = nI b := fun s0 => by rw [xst_self, pk_un (by omega), xst_self, pk_un (by omega), r16]
    have z14 : ∀ s0 : Int32, xst (xst k1 0 17 (nI e)) 0 18 s0 14 = tp := fun s0 => by rw [xst_ne (by omega), xst_ne (by omega)]; exact hM1.2.2
    simp only [z17, z16, z14, gd_n (show b < 96 by omega) (show 96 < 2 ^ 31 by omega), nI_clamp (show b < 2 ^ 31 by omega), nI_sub (show b ≤ e by omega)]
    have one : (nI (e - b) = 1) ↔ e = b + 1 := by
      rw [show (1 : Int32) = nI 1 from rfl, nI_eq (by omega) (by omega)]
      omega
    have lt : ∀ s0 : Int32, ∃ hm', (if nI (e - b) = 1 then some ((0 : Int32), xst (xst (xst k1 0 17 (nI e)) 0 18 s0) 0 20 (tp b)) else some (0, xst (xst (xst k1 0 17 (nI e)) 0 18 s0) 0 20 0)) = some (0, hm') ∧ hm' 0 16 = nI b ∧ hm' 0 17 = nI e ∧ hm' 0 18 = s0 ∧ (hm' 0 20 = if e = b + 1 then tp b else 0) ∧ m5 k hm' := by
      intro s0
      by_cases c : e = b + 1
      · rw [if_pos (one.mpr c), if_pos c]
        exact ⟨_, rfl, by rw [xst_self, pk_un (by omega)]; exact z16 s0, by rw [xst_self, pk_un (by omega)]; exact z17 s0, by rw [xst_self, pk_un (by omega), xst_self, pk_us], by rw [xst_self, pk_us], f16.tr ((m5.st (by omega)).tr ((m5.st (by omega)).tr (.st (by omega))))⟩
      · rw [if_neg (fun q => c (one.mp q)), if_neg c]
        exact ⟨_, rfl, by rw [xst_self, pk_un (by omega)]; exact z16 s0, by rw [xst_self, pk_un (by omega)]; exact z17 s0, by rw [xst_self, pk_un (by omega), xst_self, pk_us], by rw [xst_self, pk_us], f16.tr ((m5.st (by omega)).tr ((m5.st (by omega)).tr (.st (by omega))))⟩
    rcases hw with rfl | rfl
    · obtain ⟨hm', l1, l2, l3, l4, l5, l6⟩ := lt 1
      rw [if_pos rfl, bn_s, if_pos rfl]
      refine ⟨_, hm', e, rfl, l1, ⟨?_, l2, ?_, l3, by omega, by omega, Or.inr (Or.inr (Or.inr (Or.inl ⟨?_, l4, e2, l5, e3⟩)))⟩, (c4.st (by omega)).tr (.st (by omega)), l6⟩
      · rw [xst_self, pk_un (by omega), xst_self, pk_un (by omega), g3]
      · rw [xst_self, pk_un (by omega), xst_self, pk_us]
      · rw [xst_self, pk_us]
    · obtain ⟨hm', l1, l2, l3, l4, l5, l6⟩ := lt 4
      rw [if_neg (by decide), bn_s, if_neg (by decide)]
      refine ⟨_, hm', e, rfl, l1, ⟨?_, l2, ?_, l3, by omega, by omega, Or.inr (Or.inr (Or.inr (Or.inr ⟨?_, l4⟩)))⟩, (c4.st (by omega)).tr (.st (by omega)), l6⟩
      · rw [xst_self, pk_un (by omega), xst_self, pk_un (by omega), g3]
      · rw [xst_self, pk_un (by omega), xst_self, pk_us]
      · rw [xst_self, pk_us]
  rw [if_neg cL, if_neg cL, g3, gd_n (show b < 96 by omega) (by omega), nI_clamp (show b < 2 ^ 31 by omega), hT.2.2 b (by omega), C_isDigit, bn_s, b01, r16, M_isDigit hM1 hbT, bn_s, b01]
  by_cases cD : pD (tp b) = true
  · rw [if_pos cD, if_pos cD, nm_x]
    unfold f_X2_takeDigits
    rw [nm_x, nm_x]
    have f1 : c4 g (xst (xst g 21 4 (g 21 3)) 21 6 0) := (c4.st (by omega)).tr (.st (by omega))
    have f2 : m5 k1 (xst k1 0 19 0) := .st (by omega)
    obtain ⟨hc', c1, c2, c3, c5, c6⟩ := C_dig (tp := tp) (T := T) (b := b) (v := w) (T - b) 0 xN (xst (xst g 21 4 (g 21 3)) 21 6 0) (by omega) (by unfold xN; omega) (hT.c4 f1) (by rw [xst_self, pk_un (by omega), xst_self, pk_us]; exact g3) (by rw [xst_self, pk_us]; rfl)
    obtain ⟨hm', d1, d2, d3, d5, d6⟩ := M_dig (tp := tp) (T := T) (b := b) (v := w) (T - b) 0 xN (xst k1 0 19 0) (by omega) (by unfold xN; omega) (hM1.m5 f2) (by rw [xst_self, pk_un (by omega)]; exact r16) (by rw [xst_self, pk_un (by omega)]; exact r17) (by rw [xst_self, pk_us]; rfl)
    rw [c1, d1]
    have e1 := scn_rg (p := pD) (tp := tp) (T - b) b
    have e2 := scn_pos (p := pD) (tp := tp) (m := T - b) cD (by omega)
    have e3 := scn_all (p := pD) (tp := tp) (T - b) b
    rw [Nat.add_zero] at c2 c3 d2 d3
    rw [Nat.add_zero]
    generalize scn pD tp (T - b) b = e at e1 e2 e3 c2 c3 d2 d3
    have c5 : hc' 21 3 = nI b := by rw [c5, xst_self, pk_un (by omega), xst_self, pk_un (by omega), g3]
    unfold f_X2_takeDigits_c76
    rw [c2, c5, nI_sub (by omega)]
    simp only [nm_x]
    have wr : ∃ hc2 hm2 e', some ((0 : Int32), xst hc' 21 5 4) = some (0, hc2) ∧ some ((0 : Int32), xst hm' 0 18 4) = some (0, hm2) ∧ TK tp T hc2 hm2 b e' ∧ c4 g hc2 ∧ m5 k hm2 := by
      refine ⟨_, _, e, rfl, rfl, ⟨?_, ?_, ?_, ?_, by omega, by omega, Or.inr (Or.inr (Or.inr (Or.inr ⟨?_, ?_⟩)))⟩, f1.tr (c6.tr (.st (by omega))), f16.tr (f2.tr (d6.tr (.st (by omega))))⟩
      · rw [xst_self, pk_un (by omega), c5]
      · rw [xst_self, pk_un (by omega), d5]
      · rw [xst_self, pk_un (by omega), c2]
      · rw [xst_self, pk_un (by omega), d2]
      · rw [xst_self, pk_us]
      · rw [xst_self, pk_us]
    rcases hw with rfl | rfl
    · rw [if_pos rfl, if_pos rfl]
      by_cases c : e - b ≤ 4
      · rw [if_pos (show nI (e - b) ≤ 4 from nI_le (b := 4) c (by omega)), if_pos (show nI (e - b) ≤ 4 from nI_le (b := 4) c (by omega)), bn_s]
        obtain ⟨n, n1, n2⟩ := dg_rg (tp := tp) (b := b) (e - b) c (fun i h1 h2 => e3 i h1 (by omega))
        have n3 : 10 ^ (e - b) ≤ 10 ^ 4 := Nat.pow_le_pow_right (by omega) c
        refine ⟨_, _, e, rfl, rfl, ⟨?_, ?_, ?_, ?_, by omega, by omega, Or.inr (Or.inr (Or.inl ⟨?_, ?_, e2, ?_, ?_⟩))⟩, f1.tr (c6.tr (.st (by omega))), f16.tr (f2.tr (d6.tr (.st (by omega))))⟩
        · rw [xst_self, pk_un (by omega), c5]
        · rw [xst_self, pk_un (by omega), d5]
        · rw [xst_self, pk_un (by omega), c2]
        · rw [xst_self, pk_un (by omega), d2]
        · rw [xst_self, pk_us]
        · rw [xst_self, pk_us]
        · rw [xst_self, pk_un (by omega), c3, xst_self, pk_un (by omega), d3, dg_eq _ c]
        · rw [xst_self, pk_un (by omega), d3, dg_eq _ c, n2]
          exact rg_of (by omega) (by omega)
      · rw [if_neg (show ¬ nI (e - b) ≤ 4 from nI_ge (a := 4) (by omega) (by omega)), if_neg (show ¬ nI (e - b) ≤ 4 from nI_ge (a := 4) (by omega) (by omega)), bn_s]
        exact wr
    · rw [if_neg (by decide), if_neg (by decide), bn_s]
      exact wr
  rw [if_neg cD, if_neg cD]
  simp only [nm_x]
  have a3 : xst g 21 5 1 21 3 = nI b := by rw [xst_self, pk_un (by omega), g3]
  have a22 : xst g 21 5 1 22 b = tp b := by rw [xst_ne (by omega)]; exact hT.2.2 b (by omega)
  have b16 : xst k1 0 18 3 0 16 = nI b := by rw [xst_self, pk_un (by omega), r16]
  have b14 : xst k1 0 18 3 14 = tp := by rw [xst_ne (by omega)]; exact hM1.2.2
  simp only [a3, b16, gd_n (show b < 96 by omega) (show 96 < 2 ^ 31 by omega), nI_clamp (show b < 2 ^ 31 by omega), a22, b14]
  have a3' : xst (xst g 21 5 1) 21 6 (tp b) 21 3 = nI b := by rw [xst_self, pk_un (by omega), a3]
  have b17' : xst (xst k1 0 18 3) 0 20 (tp b) 0 17 = nI b := by rw [xst_self, pk_un (by omega), xst_self, pk_un (by omega), r17]
  rw [a3', b17', nI_1]
  refine ⟨_, _, b + 1, rfl, rfl, ⟨?_, ?_, ?_, ?_, by omega, by omega, Or.inr (Or.inl ⟨?_, ?_, by omega, ?_⟩)⟩, (c4.st (by omega)).tr ((c4.st (by omega)).tr (.st (by omega))), f16.tr ((m5.st (by omega)).tr ((m5.st (by omega)).tr (.st (by omega))))⟩
  · rw [xst_self, pk_un (by omega), a3']
  · rw [xst_self, pk_un (by omega), xst_self, pk_un (by omega), b16]
  · rw [xst_self, pk_us]
  · rw [xst_self, pk_us]
  · rw [xst_self, pk_un (by omega), xst_self, pk_un (by omega), xst_self, pk_us]
  · rw [xst_self, pk_un (by omega), xst_self, pk_un (by omega), xst_self, pk_us]
  · rw [xst_self, pk_un (by omega), xst_self, pk_us, xst_self, pk_un (by omega), xst_self, pk_us]
/-- the next token -/
theorem nxt {tp : Nat → Int32} {T e : Nat} {hc hm : xH} {gl : Prop} (hT : TC tp T hc) (hM : TM tp T hm) (c4e : hc 21 4 = nI e) (m17 : hm 0 17 = nI e) (he : e ≤ T) (hg : (hc 21 5 = 2 ∨ hc 21 5 = 3) ↔ gl) (hg' : (0 < e ∧ (hm 0 18 = 1 ∨ hm 0 18 = 2)) ↔ gl) : ∃ hc' hm' b' e', f_X2_goToNext hc = some (0, hc') ∧ f_X7_nextToken hm = some (0, hm') ∧ TK tp T hc' hm' b' e' ∧ e ≤ b' ∧ c4 hc hc' ∧ m5 hm hm' := by
  have h96 := hT.1
  have s1 : ∃ v : Int32, (v = 0 ∨ v = 1) ∧ f_X2_goToNext hc = f_X2_goToNext_c21 v hc ∧ f_X7_nextToken hm = f_X7_nextToken_c28 v hm := by
    unfold f_X2_goToNext f_X7_nextToken f_X2_goToNext_c16 f_X7_nextToken_c27 f_X7_nextToken_c23
    by_cases c : gl
    · have q1 := hg.mpr c
      have q2 := hg'.mpr c
      refine ⟨1, Or.inr rfl, ?_, ?_⟩
      · rcases q1 with q | q
        · rw [if_pos q]
        · rw [if_neg (by rw [q]; decide), if_pos q]
      · rw [m17, if_neg (nI_nle q2.1 (by omega))]
        rcases q2.2 with q | q
        · rw [if_pos q]
        · rw [if_neg (by rw [q]; decide), if_pos q]
    · have q1 := fun z => c (hg.mp z)
      have q2 := fun z => c (hg'.mp z)
      refine ⟨0, Or.inl rfl, ?_, ?_⟩
      · rw [if_neg (fun z => q1 (Or.inl z)), if_neg (fun z => q1 (Or.inr z))]
      · rw [m17]
        by_cases c0 : e = 0
        · subst c0
          rw [if_pos (by decide)]
        · rw [if_neg (nI_nle (by omega) (by omega)), if_neg (fun z => q2 ⟨by omega, Or.inl z⟩), if_neg (fun z => q2 ⟨by omega, Or.inr z⟩)]
  obtain ⟨v, hv, p1, p2⟩ := s1
  have e1 := scn_rg (p := pS) (tp := tp) (T - e) e
  have fc : c4 hc (xst hc 21 3 (nI (scn pS tp (T - e) e))) := .st (by omega)
  have fm : m5 hm (xst hm 0 17 (nI (scn pS tp (T - e) e))) := .st (by omega)
  have q1 : f_X2_goToNext_c21 v hc = f_X2_goToNext_c68 v (xst hc 21 3 (nI (scn pS tp (T - e) e))) := by
    unfold f_X2_goToNext_c21
    rw [nm_x, C_skip (tp := tp) (T := T) (T - e) e xN (xst hc 21 3 (hc 21 4)) (by omega) (by unfold xN; omega) (hT.c4 (.st (by omega))) (by rw [xst_self, pk_us]; exact c4e), xst_xst]
  have q2 : f_X7_nextToken_c28 v hm = f_X7_nextToken_c72 v (nI e) (xst hm 0 17 (nI (scn pS tp (T - e) e))) := by
    unfold f_X7_nextToken_c28
    rw [M_skip (tp := tp) (T := T) (T - e) e xN hm (by omega) (by unfold xN; omega) hM m17, m17]
  rw [p1, p2, q1, q2]
  generalize scn pS tp (T - e) e = b at e1 fc fm
  have g3 : xst hc 21 3 (nI b) 21 3 = nI b := by rw [xst_self, pk_us]
  have g4 : xst hc 21 3 (nI b) 21 4 = nI e := by rw [xst_self, pk_un (by omega)]; exact c4e
  have k17 : xst hm 0 17 (nI b) 0 17 = nI b := by rw [xst_self, pk_us]
  generalize xst hc 21 3 (nI b) = g at fc g3 g4
  generalize xst hm 0 17 (nI b) = k at fm k17
  have s2 : ∃ w : Int32, (w = 0 ∨ w = 1) ∧ f_X2_goToNext_c68 v g = f_X2_goToNext_c88 w g ∧ f_X7_nextToken_c72 v (nI e) k = f_X7_nextToken_c89 w k := by
    unfold f_X2_goToNext_c68 f_X7_nextToken_c72 f_X2_goToNext_c87 f_X7_nextToken_c88
    rcases hv with rfl | rfl
    · exact ⟨0, Or.inl rfl, if_pos rfl, if_pos rfl⟩
    · rw [if_neg (show ¬ (1 : Int32) = 0 by decide), if_neg (show ¬ (1 : Int32) = 0 by decide), g3, g4, k17]
      by_cases c : e = b
      · subst c
        exact ⟨1, Or.inr rfl, if_pos rfl, if_pos rfl⟩
      · exact ⟨0, Or.inl rfl, if_neg (fun q => c ((nI_eq (by omega) (by omega)).mp q).symm), if_neg (fun q => c ((nI_eq (by omega) (by omega)).mp q))⟩
  obtain ⟨w, hw, w1, w2⟩ := s2
  rw [w1, w2]
  obtain ⟨hc', hm', e', x1, x2, x3, x4, x5⟩ := nx4 (b := b) (hT.c4 fc) (hM.m5 fm) g3 k17 (by omega) hw
  exact ⟨hc', hm', b, e', x1, x2, x3, by omega, fc.tr x4, fm.tr x5⟩
/-- behind a token -/
theorem nxtK {tp : Nat → Int32} {T b e : Nat} {hc hm : xH} (hT : TC tp T hc) (hM : TM tp T hm) (hK : TK tp T hc hm b e) : ∃ hc' hm' b' e', f_X2_goToNext hc = some (0, hc') ∧ f_X7_nextToken hm = some (0, hm') ∧ TK tp T hc' hm' b' e' ∧ e ≤ b' ∧ c4 hc hc' ∧ m5 hm hm' := by
  obtain ⟨k1, k2, k3, k4, k5, k6, k7⟩ := hK
  refine nxt (gl := hc 21 5 = 2 ∨ hc 21 5 = 3) hT hM k3 k4 k6 Iff.rfl ?_
  rcases k7 with ⟨a, b⟩ | ⟨a, b, c, -⟩ | ⟨a, b, c, -⟩ | ⟨a, b, c, -⟩ | ⟨a, b⟩
  · rw [a, b]; exact ⟨fun q => absurd q.2 (by decide), fun q => absurd q (by decide)⟩
  · rw [a, b]; exact ⟨fun q => absurd q.2 (by decide), fun q => absurd q (by decide)⟩
  · rw [a, b]; exact ⟨fun q => Or.inl rfl, fun q => ⟨by omega, Or.inr rfl⟩⟩
  · rw [a, b]; exact ⟨fun q => Or.inr rfl, fun q => ⟨by omega, Or.inl rfl⟩⟩
  · rw [a, b]; exact ⟨fun q => absurd q.2 (by decide), fun q => absurd q (by decide)⟩
