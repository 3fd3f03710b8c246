/-! texts read on both sides -/
def sg (h : xH) (L m n : Nat) : List (Int32 × Int32) := (List.range' m n).map (fun k => (h 1 (L + 2 * k), h 1 (L + 2 * k + 1)))
theorem sg_cg {h h' : xH} {L m n : Nat} (e : ∀ j, L + 2 * m ≤ j → j < L + 2 * (m + n) → h' 1 j = h 1 j) : sg h' L m n = sg h L m n := by
  refine List.map_congr_left (fun k hk => ?_)
  have := List.mem_range'_1.mp hk
  rw [e _ (by omega) (by omega), e _ (by omega) (by omega)]
theorem sg_app {h : xH} {L m a b : Nat} : sg h L m (a + b) = sg h L m a ++ sg h L (m + a) b := by
  unfold sg
  rw [← List.map_append, List.range'_append_1]
theorem runs_app {nf : Int32 → Int32} : ∀ (a b : List (Int32 × Int32)) (st : List Int32), runs nf (a ++ b) st = (runs nf a st).bind (runs nf b)
  | [], b, st => rfl
  | q :: a, b, st => by
    rw [List.cons_append, runs, runs]
    cases run1 nf q st with
    | none => rfl
    | some s => exact runs_app a b s
theorem whl_0 (x : Int32) : whl [(0, x)] := fun nf st => ⟨x, rfl⟩
theorem whl_1 (x : Int32) : whl [(1, x)] := fun nf st => ⟨nf x, rfl⟩
theorem whl_not {c : List (Int32 × Int32)} (h : whl c) : whl (c ++ [(2, 33)]) := by
  intro nf st
  obtain ⟨v, e⟩ := h nf st
  refine ⟨if v = 0 then 1 else 0, ?_⟩
  rw [runs_app, e]
  rfl
theorem whl_join {c1 c2 : List (Int32 × Int32)} {s : Int32} (h1 : whl c1) (h2 : whl c2) (hs : s ≠ 33) : whl (c1 ++ (c2 ++ [(2, s)])) := by
  intro nf st
  obtain ⟨v, e⟩ := h1 nf st
  obtain ⟨u, e2⟩ := h2 nf (v :: st)
  refine ⟨jn s v u, ?_⟩
  rw [runs_app, e]
  show runs nf (c2 ++ [(2, s)]) (v :: st) = _
  rw [runs_app, e2]
  show (run1 nf (2, s) (u :: v :: st)).bind (runs nf []) = _
  unfold run1
  rw [if_pos rfl, if_neg hs]
  rfl
def ST (L : Nat) (key : Int32) (hc hm : xH) (m : Nat) : Prop := hc 21 8 = nI m ∧ hm 0 23 = nI m ∧ hm 0 24 = nI L ∧ hc 21 9 = hm 0 25 ∧ hc 21 7 = key ∧ ∀ k, k < m → enc key (hm 1 (L + 2 * k), hm 1 (L + 2 * k + 1)) (hc 23 k)
def PQ (tp : Nat → Int32) (T L : Nat) (key : Int32) (o t : Nat) (hc hm : xH) (b e m : Nat) : Prop := TC tp T hc ∧ TM tp T hm ∧ TK tp T hc hm b e ∧ ST L key hc hm m ∧ hm 0 21 = nI o ∧ hm 0 22 = nI t
def cP (hc hc' : xH) : Prop := (∀ q, q ≠ 21 → q ≠ 23 → hc' q = hc q) ∧ hc' 21 2 = hc 21 2 ∧ hc' 21 7 = hc 21 7
def mP (L : Nat) (hm hm' : xH) : Prop := (∀ q, q ≠ 0 → q ≠ 1 → hm' q = hm q) ∧ (∀ j, j < 16 ∨ 25 < j → hm' 0 j = hm 0 j) ∧ ∀ j, j < L ∨ L + 192 ≤ j → hm' 1 j = hm 1 j
theorem cP.rf {h : xH} : cP h h := ⟨fun _ _ _ => rfl, rfl, rfl⟩
theorem mP.rf {L : Nat} {h : xH} : mP L h h := ⟨fun _ _ _ => rfl, fun _ _ => rfl, fun _ _ => rfl⟩
theorem cP.tr {a b c : xH} (h1 : cP a b) (h2 : cP b c) : cP a c := ⟨fun q q1 q2 => (h2.1 q q1 q2).trans (h1.1 q q1 q2), h2.2.1.trans h1.2.1, h2.2.2.trans h1.2.2⟩
theorem mP.tr {L : Nat} {a b c : xH} (h1 : mP L a b) (h2 : mP L b c) : mP L a c := ⟨fun q q1 q2 => (h2.1 q q1 q2).trans (h1.1 q q1 q2), fun j hj => (h2.2.1 j hj).trans (h1.2.1 j hj), fun j hj => (h2.2.2 j hj).trans (h1.2.2 j hj)⟩
theorem c4.P {h h' : xH} (e : c4 h h') : cP h h' := ⟨fun q q1 _ => e.1 q q1, e.2 2 (by omega) (by omega) (by omega) (by omega), e.2 7 (by omega) (by omega) (by omega) (by omega)⟩
theorem m5.P {L : Nat} {h h' : xH} (e : m5 h h') : mP L h h' := ⟨fun q q1 _ => e.1 q q1, fun j hj => e.2 j (by omega), fun j _ => by rw [e.1 1 (by omega)]⟩
theorem mP.z {L : Nat} {h : xH} {j : Nat} {v : Int32} (hj : 16 ≤ j ∧ j ≤ 25) : mP L h (xst h 0 j v) := ⟨fun q q1 _ => xst_ne q1, fun i hi => by rw [xst_self, pk_un (by omega)], fun i _ => by rw [xst_ne (by omega)]⟩
/-- a number of the reference that the token doesn't need -/
theorem TK.z {tp : Nat → Int32} {T b e : Nat} {hc hm : xH} (h : TK tp T hc hm b e) {j : Nat} {v : Int32} (hj : 21 ≤ j) : TK tp T hc (xst hm 0 j v) b e := by
  unfold TK
  rw [xst_self, pk_un (show (16 : Nat) ≠ j by omega), pk_un (show (17 : Nat) ≠ j by omega), pk_un (show (18 : Nat) ≠ j by omega), pk_un (show (19 : Nat) ≠ j by omega), pk_un (show (20 : Nat) ≠ j by omega)]
  exact h
theorem TM.z {tp : Nat → Int32} {T : Nat} {hm : xH} (h : TM tp T hm) {j : Nat} {v : Int32} (hj : 16 ≤ j) : TM tp T (xst hm 0 j v) := ⟨h.1, by rw [xst_self, pk_un (by omega)]; exact h.2.1, by rw [xst_ne (by omega)]; exact h.2.2⟩
theorem ST.z {L : Nat} {key : Int32} {hc hm : xH} {m : Nat} (h : ST L key hc hm m) {j : Nat} {v : Int32} (hj : j = 21 ∨ j = 22) : ST L key hc (xst hm 0 j v) m := by
  obtain ⟨a, b, c, d, e, f⟩ := h
  refine ⟨a, by rw [xst_self, pk_un (by omega)]; exact b, by rw [xst_self, pk_un (by omega)]; exact c, by rw [xst_self, pk_un (by omega)]; exact d, e, fun k hk => ?_⟩
  rw [xst_ne (by omega)]
  exact f k hk
theorem PQ.deep {tp : Nat → Int32} {T L : Nat} {key : Int32} {o o' t b e m : Nat} {hc hm : xH} {v : Int32} (h : PQ tp T L key o t hc hm b e m) (hv : v = nI o') : PQ tp T L key o' t hc (xst hm 0 21 v) b e m := ⟨h.1, h.2.1.z (by omega), h.2.2.1.z (by omega), h.2.2.2.1.z (by omega), by rw [xst_self, pk_us]; exact hv, by rw [xst_self, pk_un (by omega)]; exact h.2.2.2.2.2⟩
theorem PQ.turn {tp : Nat → Int32} {T L : Nat} {key : Int32} {o t t' b e m : Nat} {hc hm : xH} {v : Int32} (h : PQ tp T L key o t hc hm b e m) (hv : v = nI t') : PQ tp T L key o t' hc (xst hm 0 22 v) b e m := ⟨h.1, h.2.1.z (by omega), h.2.2.1.z (by omega), h.2.2.2.1.z (by omega), by rw [xst_self, pk_un (by omega)]; exact h.2.2.2.2.1, by rw [xst_self, pk_us]; exact hv⟩
theorem nx1 {tp : Nat → Int32} {T L : Nat} {key : Int32} {o t b e m : Nat} {hc hm : xH} (h : PQ tp T L key o t hc hm b e m) : ∃ hc' hm' b' e', f_X2_goToNext hc = some (0, hc') ∧ f_X7_nextToken hm = some (0, hm') ∧ PQ tp T L key o t hc' hm' b' e' m ∧ e ≤ b' ∧ hm' 1 = hm 1 ∧ cP hc hc' ∧ mP L hm hm' := by
  obtain ⟨p1, p2, p3, ⟨a, b, c, d, e, f⟩, p5, p6⟩ := h
  obtain ⟨hc', hm', b', e', n1, n2, n3, n4, n5, n6⟩ := nxtK p1 p2 p3
  refine ⟨hc', hm', b', e', n1, n2, ⟨p1.c4 n5, p2.m5 n6, n3, ⟨?_, ?_, ?_, ?_, ?_, fun k hk => ?_⟩, ?_, ?_⟩, n4, n6.1 1 (by omega), n5.P, n6.P⟩
  · rw [n5.2 8 (by omega) (by omega) (by omega) (by omega)]; exact a
  · rw [n6.2 23 (by omega)]; exact b
  · rw [n6.2 24 (by omega)]; exact c
  · rw [n5.2 9 (by omega) (by omega) (by omega) (by omega), n6.2 25 (by omega)]; exact d
  · rw [n5.2 7 (by omega) (by omega) (by omega) (by omega)]; exact e
  · rw [n6.1 1 (by omega), n5.1 23 (by omega)]; exact f k hk
  · rw [n6.2 21 (by omega)]; exact p5
  · rw [n6.2 22 (by omega)]; exact p6
/-- a step more on both sides -/
theorem add1 {tp : Nat → Int32} {T L : Nat} {key : Int32} {o t b e m : Nat} {hc hm : xH} {x y v : Int32} (h : PQ tp T L key o t hc hm b e m) (hm96 : m < 96) (hL : L + 192 ≤ 3078) (he : enc key (x, y) v) : ∃ hc' hm', f_X2_addStep v hc = some (0, hc') ∧ f_X7_step x y hm = some (0, hm') ∧ PQ tp T L key o t hc' hm' b e (m + 1) ∧ sg hm' L m 1 = [(x, y)] ∧ (∀ j, j < L + 2 * m → hm' 1 j = hm 1 j) ∧ cP hc hc' ∧ mP L hm hm' := by
  obtain ⟨p1, p2, p3, ⟨a1, a2, a3, a4, a5, a6⟩, p5, p6⟩ := h
  have i1 : nI L + 2 * nI m = nI (L + 2 * m) := by rw [show (2 : Int32) = nI 2 from rfl, nI_mul, nI_add]
  refine ⟨xst (xst hc 23 m v) 21 8 (nI (m + 1)), xst (xst (xst hm 1 (L + 2 * m) x) 1 (L + 2 * m + 1) y) 0 23 (nI (m + 1)), ?_, ?_, ?_, ?_, ?_, ?_, ?_⟩
  · unfold f_X2_addStep
    rw [a1, if_neg (show ¬ (96 : Int32) ≤ nI m from nI_ge (b := 96) (by omega) (by omega)), gd_n hm96 (by omega), nI_clamp (by omega), nm_x, nm_x, xst_ne (show (21 : Nat) ≠ 23 by omega), a1, nI_1]
  · unfold f_X7_step
    have r1 : xst hm 1 (L + 2 * m) x 0 = hm 0 := xst_ne (by omega)
    have r2 : xst (xst hm 1 (L + 2 * m) x) 1 (L + 2 * m + 1) y 0 = hm 0 := by rw [xst_ne (by omega), xst_ne (by omega)]
    rw [a2, a3, i1, gd_n (show L + 2 * m < 3078 by omega) (by omega), nI_clamp (show L + 2 * m < 2 ^ 31 by omega), nm_x, r1, a2, a3, i1, nI_1, gd_n (show L + 2 * m + 1 < 3078 by omega) (by omega), nI_clamp (show L + 2 * m + 1 < 2 ^ 31 by omega), nm_x, r2, a2, nI_1, nm_x]
  · have z0 : ∀ j, j ≠ 23 → xst (xst (xst hm 1 (L + 2 * m) x) 1 (L + 2 * m + 1) y) 0 23 (nI (m + 1)) 0 j = hm 0 j := fun j hj => by rw [xst_self, pk_un hj, xst_ne (by omega), xst_ne (by omega)]
    have y0 : ∀ j, j ≠ 8 → xst (xst hc 23 m v) 21 8 (nI (m + 1)) 21 j = hc 21 j := fun j hj => by rw [xst_self, pk_un hj, xst_ne (by omega)]
    refine ⟨⟨p1.1, by rw [y0 2 (by omega)]; exact p1.2.1, fun i hi => by rw [xst_ne (by omega), xst_ne (by omega)]; exact p1.2.2 i hi⟩, ⟨p2.1, by rw [z0 15 (by omega)]; exact p2.2.1, by rw [xst_ne (by omega), xst_ne (by omega), xst_ne (by omega)]; exact p2.2.2⟩, ?_, ⟨by rw [xst_self, pk_us], by rw [xst_self, pk_us], by rw [z0 24 (by omega)]; exact a3, by rw [y0 9 (by omega), z0 25 (by omega)]; exact a4, by rw [y0 7 (by omega)]; exact a5, fun k hk => ?_⟩, by rw [z0 21 (by omega)]; exact p5, by rw [z0 22 (by omega)]; exact p6⟩
    · unfold TK
      rw [y0 3 (by omega), y0 4 (by omega), y0 5 (by omega), y0 6 (by omega), z0 16 (by omega), z0 17 (by omega), z0 18 (by omega), z0 19 (by omega), z0 20 (by omega)]
      exact p3
    · rw [xst_ne (show (1 : Nat) ≠ 0 by omega), xst_self, xst_self, xst_ne (show (23 : Nat) ≠ 21 by omega), xst_self]
      by_cases c : k = m
      · subst c
        rw [pk_un (show L + 2 * k ≠ L + 2 * k + 1 by omega), pk_us, pk_us, pk_us]
        exact he
      · rw [pk_un (show L + 2 * k ≠ L + 2 * m + 1 by omega), pk_un (show L + 2 * k ≠ L + 2 * m by omega), pk_un (show L + 2 * k + 1 ≠ L + 2 * m + 1 by omega), pk_un (show L + 2 * k + 1 ≠ L + 2 * m by omega), pk_un c]
        exact a6 k (by omega)
  · show [(_, _)] = _
    rw [xst_ne (show (1 : Nat) ≠ 0 by omega), xst_self, pk_un (show L + 2 * m ≠ L + 2 * m + 1 by omega), xst_self, pk_us, pk_us]
  · intro j hj
    rw [xst_ne (by omega), xst_self, pk_un (by omega), xst_self, pk_un (by omega)]
  · exact ⟨fun q q1 q2 => by rw [xst_ne q1, xst_ne q2], by rw [xst_self, pk_un (by omega), xst_ne (by omega)], by rw [xst_self, pk_un (by omega), xst_ne (by omega)]⟩
  · exact ⟨fun q q1 q2 => by rw [xst_ne q1, xst_ne q2, xst_ne q2], fun j hj => by rw [xst_self, pk_un (by omega), xst_ne (by omega), xst_ne (by omega)], fun j hj => by rw [xst_ne (by omega), xst_self, pk_un (by omega), xst_self, pk_un (by omega)]⟩
/-- both have read a piece: it leaves one number more -/
def OK1 (tp : Nat → Int32) (T L : Nat) (key : Int32) (o t : Nat) (hc hm : xH) (b m : Nat) (hc' hm' : xH) (b' e' m' : Nat) : Prop := PQ tp T L key o t hc' hm' b' e' m' ∧ b < b' ∧ m < m' ∧ m' + b ≤ m + b' ∧ whl (sg hm' L m (m' - m)) ∧ (∀ j, j < L + 2 * m → hm' 1 j = hm 1 j) ∧ cP hc hc' ∧ mP L hm hm'
/-- both have refused, at one place -/
def NO1 (L : Nat) (hc hm hc' hm' : xH) : Prop := hc' 21 3 = hm' 0 16 ∧ cP hc hc' ∧ mP L hm hm'
def OUT (tp : Nat → Int32) (T L : Nat) (key : Int32) (o t : Nat) (hc hm : xH) (b m : Nat) (x y : Option (Int32 × xH)) : Prop := (∃ hc' hm' b' e' m', x = some (1, hc') ∧ y = some (1, hm') ∧ OK1 tp T L key o t hc hm b m hc' hm' b' e' m') ∨ ∃ hc' hm', x = some (0, hc') ∧ y = some (0, hm') ∧ NO1 L hc hm hc' hm'
def SIMF (tp : Nat → Int32) (T L : Nat) (key : Int32) (o t : Nat) (sc sm : xH → Option (Int32 × xH)) : Prop := ∀ hc hm b e m, PQ tp T L key o t hc hm b e m → m ≤ b → OUT tp T L key o t hc hm b m (sc hc) (sm hm)
theorem PQ.no {tp : Nat → Int32} {T L : Nat} {key : Int32} {o t b e m : Nat} {hc hm : xH} (h : PQ tp T L key o t hc hm b e m) : hc 21 3 = hm 0 16 := h.2.2.1.1.trans h.2.2.1.2.1.symm
/-- a number or a name -/
theorem leaf {tp : Nat → Int32} {T L : Nat} {key : Int32} {o t b e m : Nat} {hc hm : xH} {x y v : Int32} (h : PQ tp T L key o t hc hm b e m) (hmb : m ≤ b) (hbe : b < e) (hL : L + 192 ≤ 3078) (he : enc key (x, y) v) (hw : whl [(x, y)]) : ∃ hc' hm' b' e' m', f_X2_takeLeaf v hc = some (1, hc') ∧ (bn (f_X7_step x y hm) fun r11 h12 => nm (xst h12 0 25 ((h12 0 25) + 1)) fun h14 => bn (f_X7_nextToken h14) fun r15 h16 => some ((1 : Int32), h16)) = some (1, hm') ∧ OK1 tp T L key o t hc hm b m hc' hm' b' e' m' := by
  have heT := h.2.2.1.2.2.2.2.2.1
  have hT := h.1.1
  obtain ⟨hc1, hm1, s1, s2, s3, s4, s5, s6, s7⟩ := add1 h (show m < 96 by omega) hL he
  have hP2 : PQ tp T L key o t (xst hc1 21 9 (hc1 21 9 + 1)) (xst hm1 0 25 (hm1 0 25 + 1)) b e (m + 1) := by
    obtain ⟨p1, p2, p3, ⟨a1, a2, a3, a4, a5, a6⟩, p5, p6⟩ := s3
    have y0 : ∀ j, j ≠ 9 → xst hc1 21 9 (hc1 21 9 + 1) 21 j = hc1 21 j := fun j hj => by rw [xst_self, pk_un hj]
    have z0 : ∀ j, j ≠ 25 → xst hm1 0 25 (hm1 0 25 + 1) 0 j = hm1 0 j := fun j hj => by rw [xst_self, pk_un hj]
    refine ⟨⟨p1.1, by rw [y0 2 (by omega)]; exact p1.2.1, fun i hi => by rw [xst_ne (by omega)]; exact p1.2.2 i hi⟩, p2.z (by omega), ?_, ⟨by rw [y0 8 (by omega)]; exact a1, by rw [z0 23 (by omega)]; exact a2, by rw [z0 24 (by omega)]; exact a3, by rw [xst_self, pk_us, xst_self, pk_us, a4], by rw [y0 7 (by omega)]; exact a5, fun k hk => by rw [xst_ne (by omega), xst_ne (by omega)]; exact a6 k hk⟩, by rw [z0 21 (by omega)]; exact p5, by rw [z0 22 (by omega)]; exact p6⟩
    unfold TK
    rw [y0 3 (by omega), y0 4 (by omega), y0 5 (by omega), y0 6 (by omega), z0 16 (by omega), z0 17 (by omega), z0 18 (by omega), z0 19 (by omega), z0 20 (by omega)]
    exact p3
  obtain ⟨hc2, hm2, b', e', n1, n2, n3, n4, n5, n6, n7⟩ := nx1 hP2
  have m25 : hm2 1 = hm1 1 := by rw [n5, xst_ne (by omega)]
  refine ⟨hc2, hm2, b', e', m + 1, ?_, ?_, n3, by omega, by omega, by omega, ?_, ?_, ?_, ?_⟩
  · unfold f_X2_takeLeaf
    rw [s1, bn_s, nm_x, n1, bn_s]
  · rw [s2, bn_s, nm_x, n2, bn_s]
  · rw [show m + 1 - m = 1 by omega, sg_cg (h := hm1) (fun j _ _ => by rw [m25]), s4]
    exact hw
  · intro j hj
    rw [m25]
    exact s5 j hj
  · exact s6.tr (cP.tr ⟨fun q q1 _ => xst_ne q1, by rw [xst_self, pk_un (by omega)], by rw [xst_self, pk_un (by omega)]⟩ n6)
  · exact s7.tr ((mP.z (by omega)).tr n7)
/-! signs -/
theorem C_isSign (a : Int32) (h : xH) : f_X2_isSign a h = some (if h 21 5 = 1 ∧ h 21 6 = a then 1 else 0, h) := by
  unfold f_X2_isSign
  by_cases c : h 21 5 = 1
  · by_cases c2 : h 21 6 = a
    · rw [if_pos c, if_pos c2, if_pos ⟨c, c2⟩]
    · rw [if_pos c, if_neg c2, if_neg (fun q => c2 q.2)]
  · rw [if_neg c, if_neg (fun q => c q.1)]
theorem M_isSign (a : Int32) (h : xH) : f_X7_isSign a h = some (if h 0 18 = 3 ∧ h 0 20 = a then 1 else 0, h) := by
  unfold f_X7_isSign
  by_cases c : h 0 18 = 3
  · by_cases c2 : h 0 20 = a
    · rw [if_pos c, if_pos c2, if_pos ⟨c, c2⟩]
    · rw [if_pos c, if_neg c2, if_neg (fun q => c2 q.2)]
  · rw [if_neg c, if_neg (fun q => c q.1)]
theorem TK.sign {tp : Nat → Int32} {T b e : Nat} {hc hm : xH} (h : TK tp T hc hm b e) : (hc 21 5 = 1 ↔ hm 0 18 = 3) ∧ (hc 21 5 = 1 → b < e ∧ hc 21 6 = hm 0 20) := by
  obtain ⟨-, -, -, -, -, -, k7⟩ := h
  rcases k7 with ⟨a, b⟩ | ⟨a, b, c, d⟩ | ⟨a, b, -⟩ | ⟨a, b, -⟩ | ⟨a, b⟩
  · rw [a, b]; exact ⟨⟨fun q => absurd q (by decide), fun q => absurd q (by decide)⟩, fun q => absurd q (by decide)⟩
  · rw [a, b]; exact ⟨⟨fun _ => rfl, fun _ => rfl⟩, fun _ => ⟨c, d⟩⟩
  · rw [a, b]; exact ⟨⟨fun q => absurd q (by decide), fun q => absurd q (by decide)⟩, fun q => absurd q (by decide)⟩
  · rw [a, b]; exact ⟨⟨fun q => absurd q (by decide), fun q => absurd q (by decide)⟩, fun q => absurd q (by decide)⟩
  · rw [a, b]; exact ⟨⟨fun q => absurd q (by decide), fun q => absurd q (by decide)⟩, fun q => absurd q (by decide)⟩
/-- one more operand behind a sign -/
theorem join1 {tp : Nat → Int32} {T L : Nat} {key : Int32} {o t b e m : Nat} {sc sm KC KM : xH → Option (Int32 × xH)} {hc hm : xH} (hS : SIMF tp T L key o t sc sm) (hL : L + 192 ≤ 3078) (h : PQ tp T L key o t hc hm b e m) (hmb : m ≤ b) (hs : hc 21 5 = 1) (hsg : isSg (hm 0 20)) : (∃ hc' hm' b' e' m', (bn (f_X2_goToNext hc) fun r4 h5 => bn (sc h5) fun r7 h8 => if r7 = 0 then (some (0, h8)) else (bn (f_X2_addStep (-(hc 21 6)) h8) fun r10 h11 => KC h11)) = KC hc' ∧ (bn (f_X7_nextToken hm) fun r4 h5 => bn (sm h5) fun r7 h8 => if r7 = 0 then (some (0, h8)) else (bn (f_X7_step 2 (hm 0 20) h8) fun r10 h11 => KM h11)) = KM hm' ∧ PQ tp T L key o t hc' hm' b' e' m' ∧ b < b' ∧ m < m' ∧ m' + b ≤ m + b' ∧ (∃ c2, whl c2 ∧ sg hm' L m (m' - m) = c2 ++ [(2, hm 0 20)]) ∧ (∀ j, j < L + 2 * m → hm' 1 j = hm 1 j) ∧ cP hc hc' ∧ mP L hm hm') ∨ ∃ hc' hm', (bn (f_X2_goToNext hc) fun r4 h5 => bn (sc h5) fun r7 h8 => if r7 = 0 then (some (0, h8)) else (bn (f_X2_addStep (-(hc 21 6)) h8) fun r10 h11 => KC h11)) = some (0, hc') ∧ (bn (f_X7_nextToken hm) fun r4 h5 => bn (sm h5) fun r7 h8 => if r7 = 0 then (some (0, h8)) else (bn (f_X7_step 2 (hm 0 20) h8) fun r10 h11 => KM h11)) = some (0, hm') ∧ NO1 L hc hm hc' hm' := by
  obtain ⟨hbe, e20⟩ := h.2.2.1.sign.2 hs
  have z10 : ¬ (1 : Int32) = 0 := by decide
  obtain ⟨hc1, hm1, b1, e1, n1, n2, n3, n4, n5, n6, n7⟩ := nx1 h
  rw [n1, n2, bn_s, bn_s]
  rcases hS hc1 hm1 b1 e1 m n3 (by omega) with ⟨hc2, hm2, b2, e2, m2, x1, x2, x3, x4, x5, x6, x7, x8, x9, x10⟩ | ⟨hc2, hm2, x1, x2, x3⟩
  · have hb2 : b2 ≤ 96 := by
      have q1 := x3.2.2.1.2.2.2.2.1
      have q2 := x3.2.2.1.2.2.2.2.2.1
      have q3 := x3.1.1
      omega
    obtain ⟨hc3, hm3, s1, s2, s3, s4, s5, s6, s7⟩ := add1 (x := 2) (y := hm 0 20) (v := -(hc 21 6)) x3 (show m2 < 96 by omega) hL (Or.inr (Or.inr ⟨rfl, hsg, by rw [e20]⟩))
    refine Or.inl ⟨hc3, hm3, b2, e2, m2 + 1, ?_, ?_, s3, by omega, by omega, by omega, ⟨sg hm2 L m (m2 - m), x7, ?_⟩, fun j hj => ?_, n6.tr (x9.tr s6), n7.tr (x10.tr s7)⟩
    · rw [x1, bn_s, if_neg z10, s1, bn_s]
    · rw [x2, bn_s, if_neg z10, s2, bn_s]
    · rw [show m2 + 1 - m = (m2 - m) + 1 by omega, sg_app, show m + (m2 - m) = m2 by omega, s4, sg_cg (h := hm2) (fun j q1 q2 => s5 j (by omega))]
    · rw [s5 j (by omega), x8 j hj, n5]
  · refine Or.inr ⟨hc2, hm2, ?_, ?_, x3.1, n6.tr x3.2.1, n7.tr x3.2.2⟩
    · rw [x1, bn_s, if_pos rfl]
    · rw [x2, bn_s, if_pos rfl]
theorem OK1.more {tp : Nat → Int32} {T L : Nat} {key : Int32} {o t b e m b' e' m' b0 m0 : Nat} {hc hm hc' hm' hc0 hm0 : xH} {s : Int32} (h : OK1 tp T L key o t hc0 hm0 b0 m0 hc hm b e m) (hs : s ≠ 33) (q1 : PQ tp T L key o t hc' hm' b' e' m') (q2 : b < b') (q3 : m < m') (q4 : m' + b ≤ m + b') (q5 : ∃ c2, whl c2 ∧ sg hm' L m (m' - m) = c2 ++ [(2, s)]) (q6 : ∀ j, j < L + 2 * m → hm' 1 j = hm 1 j) (q7 : cP hc hc') (q8 : mP L hm hm') : OK1 tp T L key o t hc0 hm0 b0 m0 hc' hm' b' e' m' := by
  obtain ⟨x1, x2, x3, x4, x5, x6, x7, x8⟩ := h
  obtain ⟨c2, w1, w2⟩ := q5
  refine ⟨q1, by omega, by omega, by omega, ?_, fun j hj => by rw [q6 j (by omega), x6 j hj], x7.tr q7, x8.tr q8⟩
  rw [show m' - m0 = (m - m0) + (m' - m) by omega, sg_app, show m0 + (m - m0) = m by omega, w2, sg_cg (h := hm) (fun j _ q => q6 j (by omega))]
  exact whl_join x5 w1 hs
/-- a row of operands -/
theorem loop_ok {tp : Nat → Int32} {T L : Nat} {key : Int32} {o t : Nat} {sc sm : xH → Option (Int32 × xH)} (hS : SIMF tp T L key o t sc sm) (hL : L + 192 ≤ 3078) {S : Int32 → Bool} (hSg : ∀ c, S c = true → isSg c ∧ c ≠ 33) {lC : Nat → Int32 → xH → Option (Int32 × xH)} {lM : Nat → xH → Option (Int32 × xH)} (eC : ∀ f i h, lC (f + 1) i h = if (96 : Int32) ≤ i then some (1, h) else if h 21 5 = 1 ∧ S (h 21 6) = true then (bn (f_X2_goToNext h) fun r4 h5 => bn (sc h5) fun r7 h8 => if r7 = 0 then (some (0, h8)) else (bn (f_X2_addStep (-(h 21 6)) h8) fun r10 h11 => lC f (i + 1) h11)) else some (1, h)) (eM : ∀ f h, lM (f + 1) h = if h 0 18 = 3 ∧ S (h 0 20) = true then (bn (f_X7_nextToken h) fun r4 h5 => bn (sm h5) fun r7 h8 => if r7 = 0 then (some (0, h8)) else (bn (f_X7_step 2 (h 0 20) h8) fun r10 h11 => lM f h11)) else some (1, h)) {hc0 hm0 : xH} {b0 m0 : Nat} (hmb : m0 ≤ b0) : ∀ k f1 f2 i hc hm b e m, T ≤ b + k → k < f1 → k < f2 → i ≤ b → OK1 tp T L key o t hc0 hm0 b0 m0 hc hm b e m → OUT tp T L key o t hc0 hm0 b0 m0 (lC f1 (nI i) hc) (lM f2 hm)
  | k, 0, f2, i, hc, hm, b, e, m, _, h2, _, _, _ => absurd h2 (Nat.not_lt_zero _)
  | k, f1 + 1, 0, i, hc, hm, b, e, m, _, _, h2, _, _ => absurd h2 (Nat.not_lt_zero _)
  | k, f1 + 1, f2 + 1, i, hc, hm, b, e, m, h1, h2, h3, h4, h5 => by
    rw [eC, eM]
    have hq := h5.1.2.2.1
    have q1 := hq.2.2.2.2.1
    have q2 := hq.2.2.2.2.2.1
    have q3 := h5.1.1.1
    by_cases J : hc 21 5 = 1 ∧ S (hc 21 6) = true
    · obtain ⟨hbe, e20⟩ := hq.sign.2 J.1
      have J2 : hm 0 18 = 3 ∧ S (hm 0 20) = true := ⟨hq.sign.1.mp J.1, by rw [← e20]; exact J.2⟩
      obtain ⟨hg1, hg2⟩ := hSg _ J2.2
      rw [if_neg (show ¬ (96 : Int32) ≤ nI i from nI_ge (b := 96) (by omega) (by omega)), if_pos J, if_pos J2, nI_1]
      have hmb' : m ≤ b := by
        have := h5.2.2.2.1
        omega
      rcases join1 (KC := lC f1 (nI (i + 1))) (KM := lM f2) hS hL h5.1 hmb' J.1 hg1 with ⟨hc', hm', b', e', m', x1, x2, x3, x4, x5, x6, x7, x8, x9, x10⟩ | ⟨hc', hm', x1, x2, x3⟩
      · rw [x1, x2]
        obtain ⟨k', rfl⟩ : ∃ k', k = k' + 1 := ⟨k - 1, by omega⟩
        exact loop_ok hS hL hSg eC eM hmb k' f1 f2 (i + 1) hc' hm' b' e' m' (by omega) (by omega) (by omega) (by omega) (h5.more hg2 x3 x4 x5 x6 x7 x8 x9 x10)
      · exact Or.inr ⟨hc', hm', x1, x2, x3.1, h5.2.2.2.2.2.2.1.tr x3.2.1, h5.2.2.2.2.2.2.2.tr x3.2.2⟩
    · have J2 : ¬ (hm 0 18 = 3 ∧ S (hm 0 20) = true) := fun z => J (by
        have z1 := hq.sign.1.mpr z.1
        exact ⟨z1, by rw [(hq.sign.2 z1).2]; exact z.2⟩)
      rw [if_neg J, if_neg J2]
      refine Or.inl ⟨hc, hm, b, e, m, ?_, rfl, h5⟩
      split <;> rfl
