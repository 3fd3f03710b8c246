/-! a run of one sheet copied into another -/
theorem C_run {w n : Nat} {a m : Int32} {h : xH} (hw : h w 2 = nI n) (hn : n ≤ 24) : f_X3_hasRun w a m h = some (if 0 ≤ a.toInt ∧ 0 ≤ m.toInt ∧ a.toInt + m.toInt ≤ n then 1 else 0, h) := by
  have z0 : (0 : Int32).toInt = 0 := rfl
  simp only [f_X3_hasRun, C_within, bn_s, b01, hw]
  by_cases c1 : 0 ≤ m ∧ m ≤ nI n
  · rw [if_pos c1]
    rw [Int32.le_iff_toInt_le, Int32.le_iff_toInt_le, z0, nI_toInt (by omega)] at c1
    have e : (nI n - m).toInt = n - m.toInt := by
      rw [Int32.toInt_sub, nI_toInt (by omega)]
      apply Int.bmod_eq_of_le <;> omega
    by_cases c2 : 0 ≤ a ∧ a ≤ nI n - m
    · rw [if_pos c2]
      rw [Int32.le_iff_toInt_le, Int32.le_iff_toInt_le, z0, e] at c2
      rw [if_pos (by omega)]
    · rw [if_neg c2]
      rw [Int32.le_iff_toInt_le, Int32.le_iff_toInt_le, z0, e] at c2
      rw [if_neg (by omega)]
  · rw [if_neg c1]
    rw [Int32.le_iff_toInt_le, Int32.le_iff_toInt_le, z0, nI_toInt (by omega)] at c1
    rw [if_neg (by omega)]
theorem lsum (a b c : Int32) : (a.toInt64 + b.toInt64).toInt = a.toInt + b.toInt := by
  have h1 := a.le_toInt
  have h2 := a.toInt_lt
  have h3 := b.le_toInt
  have h4 := b.toInt_lt
  rw [Int64.toInt_add, Int32.toInt_toInt64, Int32.toInt_toInt64]
  apply Int.bmod_eq_of_le <;> omega
theorem lsum_gt (a b c : Int32) : 0 < lg_cmp (a.toInt64 + b.toInt64) c.toInt64 ↔ c.toInt < a.toInt + b.toInt := by
  rw [lg_cmp_gt, Int64.lt_iff_toInt_lt, lsum a b c, Int32.toInt_toInt64]
theorem lsum_le (a b c : Int32) : lg_cmp (a.toInt64 + b.toInt64) c.toInt64 ≤ 0 ↔ a.toInt + b.toInt ≤ c.toInt := by
  rw [← Int32.not_lt, lsum_gt]
  omega
theorem cpy_if {a2 a4 a5 : Int32} {n1 n2 : Nat} (h1 : n1 ≤ 24) (h2 : n2 ≤ 24) {ρ : Type} {I G : ρ} : (if a2 < 0 then I else if a4 < 0 then I else if a5 < 0 then I else if 0 < lg_cmp (a2.toInt64 + a5.toInt64) (nI n1).toInt64 then I else if lg_cmp (a4.toInt64 + a5.toInt64) (nI n2).toInt64 ≤ 0 then G else I) = if 0 ≤ a2.toInt ∧ 0 ≤ a5.toInt ∧ a2.toInt + a5.toInt ≤ n1 then (if 0 ≤ a4.toInt ∧ 0 ≤ a5.toInt ∧ a4.toInt + a5.toInt ≤ n2 then G else I) else I := by
  simp only [lsum_gt, lsum_le]
  simp only [Int32.lt_iff_toInt_lt, nI_toInt (show n1 < 2 ^ 31 by omega), nI_toInt (show n2 < 2 ^ 31 by omega), show (0 : Int32).toInt = 0 from rfl]
  repeat' split
  all_goals first
    | rfl
    | (exfalso; omega)
def ccF (g s : Nat → Int32) (o k : Nat) : Nat → Int32 := fun t => if t < k then s (o + t) else g t
theorem ccF_0 {g s : Nat → Int32} {o : Nat} : ccF g s o 0 = g := by
  funext t
  unfold ccF
  rw [if_neg (by omega)]
theorem ccF_s {g s : Nat → Int32} {o k : Nat} : upd (ccF g s o k) k (s (o + k)) = ccF g s o (k + 1) := by
  funext t
  unfold upd ccF
  by_cases c : t = k
  · subst c; rw [if_pos rfl, if_pos (by omega)]
  · rw [if_neg c]
    by_cases c2 : t < k
    · rw [if_pos c2, if_pos (by omega)]
    · rw [if_neg c2, if_neg (by omega)]
def cwF (g s : Nat → Int32) (o k : Nat) : Nat → Int32 := fun t => if o ≤ t ∧ t < o + k then s (t - o) else g t
theorem cwF_0 {g s : Nat → Int32} {o : Nat} : cwF g s o 0 = g := by
  funext t
  unfold cwF
  rw [if_neg (by omega)]
theorem cwF_s {g s : Nat → Int32} {o k : Nat} : upd (cwF g s o k) (o + k) (s k) = cwF g s o (k + 1) := by
  funext t
  unfold upd cwF
  by_cases c : t = o + k
  · subst c; rw [if_pos rfl, if_pos (by omega), show o + k - o = k by omega]
  · rw [if_neg c]
    by_cases c2 : o ≤ t ∧ t < o + k
    · rw [if_pos c2, if_pos (by omega)]
    · rw [if_neg c2, if_neg (by omega)]
theorem M_cpy2 {h : xH} {a1 a2 : Int32} {q j m : Nat} (hq : q < 4) (hj : j + m ≤ 24) : ∀ r i f, i + r = m → r < f → f_X7_copy_c150 a1 a2 (nI q) (nI j) (nI m) f (nI i) (xpt h 6 (cwF (h 6) (h 17) (24 * q + j) i)) = some (nI m, xpt h 6 (cwF (h 6) (h 17) (24 * q + j) m))
  | r, i, 0, _, h2 => absurd h2 (Nat.not_lt_zero _)
  | 0, i, f + 1, h1, _ => by rw [f_X7_copy_c150, if_pos (nI_le (by omega) (by omega)), show i = m by omega]
  | r + 1, i, f + 1, h1, h2 => by
    rw [f_X7_copy_c150, if_neg (nI_ge (by omega) (by omega)), ix24, nI_add, gd_n (show i < 24 by omega) (by omega), gd_n (show 24 * q + j + i < 96 by omega) (by omega), nm_x, nI_clamp (show 24 * q + j + i < 2 ^ 31 by omega), nI_clamp (show i < 2 ^ 31 by omega), nI_1, xst, xpt_self, xpt_xpt, xpt_ne (show (17 : Nat) ≠ 6 by omega), cwF_s]
    exact M_cpy2 hq hj r (i + 1) f (by omega) (by omega)
theorem M_cpy1 {h : xH} {p i0 m : Nat} {a3 a4 : Int32} (hp : p < 4) (hi : i0 + m ≤ 24) : ∀ r i f, i + r = m → r < f → f_X7_copy_c113 (nI p) (nI i0) a3 a4 (nI m) f (nI i) (xpt h 17 (ccF (h 17) (h 6) (24 * p + i0) i)) = f_X7_copy_c150 (nI p) (nI i0) a3 a4 (nI m) xN 0 (xpt h 17 (ccF (h 17) (h 6) (24 * p + i0) m))
  | r, i, 0, _, h2 => absurd h2 (Nat.not_lt_zero _)
  | 0, i, f + 1, h1, _ => by rw [f_X7_copy_c113, if_pos (nI_le (by omega) (by omega)), show i = m by omega]
  | r + 1, i, f + 1, h1, h2 => by
    rw [f_X7_copy_c113, if_neg (nI_ge (by omega) (by omega)), ix24, nI_add, gd_n (show 24 * p + i0 + i < 96 by omega) (by omega), gd_n (show i < 24 by omega) (by omega), nm_x, nI_clamp (show 24 * p + i0 + i < 2 ^ 31 by omega), nI_clamp (show i < 2 ^ 31 by omega), nI_1, xst, xpt_self, xpt_xpt, xpt_ne (show (6 : Nat) ≠ 17 by omega), ccF_s]
    exact M_cpy1 hp hi r (i + 1) f (by omega) (by omega)
theorem cpy_go {hc hm : xH} (hR : Rl hc hm) {p q i j m n1 n2 : Nat} (hp : p < 4) (hq : q < 4) (s1 : hm 5 p = nI n1) (s2 : hm 5 q = nI n2) (hn1 : n1 ≤ 24) (hn2 : n2 ≤ 24) (hi : i + m ≤ n1) (hj : j + m ≤ n2) : Sm hm (gc (nI i) (nI j) (nI m) 24 24 (nm (xpt hc (60 + 2 * q + 1) (va_cpy (hc (60 + 2 * p + 1)) (hc (60 + 2 * q + 1)) (nI i).toNatClampNeg (nI j).toNatClampNeg (nI m).toNatClampNeg)) fun h15 => some (nI m, h15))) (f_X7_copy_c113 (nI p) (nI i) (nI q) (nI j) (nI m) xN 0 hm) := by
  obtain ⟨d1, d2, d3, d4, d5⟩ := hR.2.2.2.1.1 p hp
  obtain ⟨e1, e2, e3, e4, e5⟩ := hR.2.2.2.1.1 q hq
  have l1 := M_cpy1 (h := hm) (p := p) (i0 := i) (m := m) (a3 := nI q) (a4 := nI j) hp (by omega) m 0 xN (by omega) (by unfold xN; omega)
  rw [ccF_0, xpt_id] at l1
  rw [show f_X7_copy_c113 (nI p) (nI i) (nI q) (nI j) (nI m) xN 0 hm = _ from l1]
  have hR2 : Rl hc (xpt hm 17 (ccF (hm 17) (hm 6) (24 * p + i) m)) := hR.scr cS.rf (fun q _ _ _ _ _ q6 _ => xpt_ne q6)
  have g17 : xpt hm 17 (ccF (hm 17) (hm 6) (24 * p + i) m) 17 = ccF (hm 17) (hm 6) (24 * p + i) m := xpt_self
  have gne : ∀ q, q ≠ 17 → xpt hm 17 (ccF (hm 17) (hm 6) (24 * p + i) m) q = hm q := fun q hq => xpt_ne hq
  generalize xpt hm 17 (ccF (hm 17) (hm 6) (24 * p + i) m) = g at hR2 g17 gne
  have l2 := M_cpy2 (h := g) (a1 := nI p) (a2 := nI i) (q := q) (j := j) (m := m) hq (by omega) m 0 xN (by omega) (by unfold xN; omega)
  rw [cwF_0, xpt_id] at l2
  rw [show f_X7_copy_c150 (nI p) (nI i) (nI q) (nI j) (nI m) xN 0 g = _ from l2, nm_x, nI_clamp (show i < 2 ^ 31 by omega), nI_clamp (show j < 2 ^ 31 by omega), nI_clamp (show m < 2 ^ 31 by omega)]
  have hgc : ∀ (k : Option (Int32 × xH)), gc (nI i) (nI j) (nI m) 24 24 k = k := by
    intro k
    unfold gc
    rw [if_neg]
    rw [nI_clamp (show i < 2 ^ 31 by omega), nI_clamp (show j < 2 ^ 31 by omega), nI_clamp (show m < 2 ^ 31 by omega)]
    rintro (z | z | z | z | z)
    · exact nI_pos (by omega) z
    · exact nI_pos (by omega) z
    · exact nI_pos (by omega) z
    · omega
    · omega
  rw [hgc]
  have k6 : ∀ t, t < 24 → cwF (g 6) (g 17) (24 * q + j) m (24 * q + t) = va_cpy (hc (60 + 2 * p + 1)) (hc (60 + 2 * q + 1)) i j m t := by
    intro t ht
    rw [gne 6 (by omega), g17, cwF, va_cpy]
    by_cases c : j ≤ t ∧ t < j + m
    · rw [if_pos (by omega), if_pos c, ccF, if_pos (by omega), show 60 + 2 * p + 1 = 61 + 2 * p by omega, d5 _ (by omega)]
      congr 1
      omega
    · rw [if_neg (by omega), if_neg c, show 60 + 2 * q + 1 = 61 + 2 * q by omega, e5 t ht]
  refine .to (.m1 (by rw [xpt_ne (by omega), gne 0 (by omega)]) (by rw [xpt_ne (by omega), gne 2 (by omega)]) (by rw [xpt_ne (by omega), gne 1 (by omega)])) (hR2.row hq e3 e4 (F := fun t => cwF (g 6) (g 17) (24 * q + j) m (24 * q + t)) (fun t ht => ?_) (fun z z1 z2 => xpt_ne (by omega)) (by rw [xpt_ne (by omega)]; exact e1) (by rw [xpt_ne (by omega)]; exact e2) (fun t ht => by rw [k6 t ht, show 61 + 2 * q = 60 + 2 * q + 1 by omega, xpt_self]) (fun z _ _ z3 => xpt_ne z3) (fun z => ?_) (fun z => ?_) (fun t ht => by rw [xpt_self]) (fun z hz => ?_))
  · show vok (cwF (g 6) (g 17) (24 * q + j) m (24 * q + t))
    rw [gne 6 (by omega), g17, cwF]
    by_cases c : 24 * q + j ≤ 24 * q + t ∧ 24 * q + t < 24 * q + j + m
    · rw [if_pos c, ccF, if_pos (by omega)]
      exact hR.2.2.2.1.2 _ (by omega)
    · rw [if_neg c]
      exact hR.2.2.2.1.2 _ (by omega)
  · rw [xpt_ne (by omega), gne 4 (by omega)]
    by_cases c : z = q
    · subst c; rw [pk_us]
    · rw [pk_un c]
  · rw [xpt_ne (by omega), gne 5 (by omega)]
    by_cases c : z = q
    · subst c; rw [pk_us]
    · rw [pk_un c]
  · rw [xpt_self, cwF, if_neg (by omega)]
theorem S_copy_ok {κ : Nat} (hκ : κ < 64) : S_copy (Rk κ) (Rk (κ + 1)) := by
  intro a1 a2 a3 a4 a5 hc hm hR
  refine Sm.k hκ hR ?_
  have hR := hR.1
  simp only [f_X6_copy, f_X7_copy, C_isSheet, M_isSheet, bn_s, b01]
  refine Sm.ite (fun c1 => Sm.ite (fun c3 => ?_) (fun _ => .ret hR)) (fun _ => .ret hR)
  obtain ⟨p, hp, rfl⟩ := in_nI (n := 3) (M := 3) rfl c1
  obtain ⟨q, hq, rfl⟩ := in_nI (n := 3) (M := 3) rfl c3
  obtain ⟨d1, d2, d3, d4, d5⟩ := hR.2.2.2.1.1 p (by omega)
  obtain ⟨e1, e2, e3, e4, e5⟩ := hR.2.2.2.1.1 q (by omega)
  obtain ⟨n1, hn1, -, s1⟩ := rg_nI d4
  obtain ⟨n2, hn2, -, s2⟩ := rg_nI e4
  have hn1 : (n1 : Int) ≤ 24 := hn1
  have hn2 : (n2 : Int) ≤ 24 := hn2
  simp only [gd_n (show p < 4 by omega) (show 4 < 2 ^ 31 by omega), gd_n (show q < 4 by omega) (show 4 < 2 ^ 31 by omega), nI_clamp (show p < 2 ^ 31 by omega), nI_clamp (show q < 2 ^ 31 by omega), d1, e1, s1, s2]
  by_cases c : hm 4 p = -1
  · rw [if_pos c, if_pos (by rw [c]; decide)]; exact .ret hR
  rw [if_neg c, if_neg (fun z => (Int32.not_lt.mpr ((sort_pos d3).mpr c)) z)]
  by_cases c' : hm 4 q = -1
  · rw [if_pos c', if_neg (fun z => (sort_pos e3).mp z c')]; exact .ret hR
  rw [if_neg c', if_pos ((sort_pos e3).mpr c')]
  refine Sm.ite (fun _ => ?_) (fun _ => .ret hR)
  simp only [C_run (w := 60 + 2 * p) (h := hc) (d2.trans s1) (show n1 ≤ 24 by omega), C_run (w := 60 + 2 * q) (h := hc) (e2.trans s2) (show n2 ≤ 24 by omega), bn_s, b01]
  rw [cpy_if (show n1 ≤ 24 by omega) (show n2 ≤ 24 by omega)]
  refine Sm.ite (fun r1 => Sm.ite (fun r2 => ?_) (fun _ => .ret hR)) (fun _ => .ret hR)
  have np : ∀ x : Int32, 0 ≤ x.toInt → ¬ x < 0 := fun x hx => by
    rw [Int32.lt_iff_toInt_lt, show (0 : Int32).toInt = 0 from rfl]
    omega
  obtain ⟨i, hi, rfl⟩ := nI_of (np a2 r1.1)
  obtain ⟨j, hj, rfl⟩ := nI_of (np a4 r2.1)
  obtain ⟨m, hm', rfl⟩ := nI_of (np a5 r1.2.1)
  rw [nI_toInt hi, nI_toInt hm'] at r1
  rw [nI_toInt hj, nI_toInt hm'] at r2
  exact cpy_go hR (by omega) (by omega) s1 s2 (by omega) (by omega) (by omega) (by omega)
