/-! marks and sheets -/
theorem M_n9 (x : Int32) (h : xH) : f_X7_isIn x.toInt64 (-99999) 99999 h = some (if -99999 ≤ x ∧ x ≤ 99999 then 1 else 0, h) := M_in (lo := -99999) (hi := 99999) rfl rfl h
theorem M_n1 (x : Int32) (h : xH) : f_X7_isIn x.toInt64 (-1) 1 h = some (if -1 ≤ x ∧ x ≤ 1 then 1 else 0, h) := M_in (lo := -1) (hi := 1) rfl rfl h
theorem sx16 (x : Int32) : (x <<< (16 &&& 31)) >>> (16 &&& 31) = x.toInt16.toInt32 := by
  apply Int32.toInt_inj.mp
  rw [Int16.toInt_toInt32, Int32.toInt_toInt16, show (16 &&& 31 : Int32) = 16 from by decide]
  have e1 : ((x <<< (16 : Int32)) >>> (16 : Int32)).toInt = (x.toBitVec <<< 16).toInt >>> 16 := by
    show (BitVec.sshiftRight _ _).toInt = _
    rw [BitVec.toInt_sshiftRight]
    rfl
  rw [e1, BitVec.toInt_shiftLeft, show x.toInt = x.toBitVec.toInt from rfl, BitVec.toInt_eq_toNat_bmod, Int.shiftRight_eq_div_pow, Nat.shiftLeft_eq]
  have := x.toBitVec.isLt
  generalize x.toBitVec.toNat = n at this
  simp only [Int.bmod_def]
  omega
theorem v16 (x : Int32) : vok x.toInt16.toInt32 := by
  right
  rw [Int16.toInt_toInt32]
  have h1 := x.toInt16.le_toInt
  have h2 := x.toInt16.toInt_lt
  omega
theorem S_mark_ok {κ : Nat} (hκ : κ < 64) : S_mark (Rk κ) (Rk (κ + 1)) := by
  intro a1 a2 a3 hc hm hR
  refine Sm.k hκ hR ?_
  have hR := hR.1
  simp only [f_X6_mark, f_X7_mark, f_X7_mark_c63, f_X7_mark_c96, f_X6_mark_c93, f_X3_hasPlace, C_isSheet, M_isSheet, C_within, M_0_x, M_n9, bn_s, b01, gb01, nm_x]
  refine Sm.ite (fun c1 => ?_) (fun _ => .ret hR)
  obtain ⟨k, hk, rfl⟩ := in_nI (n := 3) (M := 3) rfl c1
  obtain ⟨d1, d2, d3, d4, d5⟩ := hR.2.2.2.1.1 k (by omega)
  obtain ⟨n, hn, -, hs⟩ := rg_nI d4
  have hn : (n : Int) ≤ 24 := hn
  simp only [gd_n (show k < 4 by omega) (show 4 < 2 ^ 31 by omega), nI_clamp (show k < 2 ^ 31 by omega), d1, d2]
  by_cases c : hm 4 k = -1
  · rw [if_pos c, if_neg (fun q => (sort_pos d3).mp q c)]
    exact .ret hR
  rw [if_neg c, if_pos ((sort_pos d3).mpr c)]
  refine Sm.ite (fun c2 => ?_) (fun _ => .ret hR)
  rw [hs] at c2
  obtain ⟨d, hd, rfl⟩ := pl_in (by omega) c2
  simp only [ix24, gd_n (show d < 24 by omega) (show 24 < 2 ^ 31 by omega), nI_clamp (show d < 2 ^ 31 by omega), gd_n (show 24 * k + d < 96 by omega) (show 96 < 2 ^ 31 by omega), nI_clamp (show 24 * k + d < 2 ^ 31 by omega), show 60 + 2 * k + 1 = 61 + 2 * k by omega, sx16]
  have hgo : ∀ v : Int32, vok v → Sm hm (some (1, xst hc (61 + 2 * k) d v)) (some (1, xst hm 6 (24 * k + d) v)) := fun v hv => .to (.zp (by omega)) (hR.mrk (by omega) (by omega) hv)
  by_cases c0 : hm 4 k = 0
  · rw [if_pos c0, if_pos c0, if_neg (show ¬ hm 4 k = 1 by rw [c0]; decide), if_pos c0]
    exact Sm.ite (fun _ => .ret hR) (fun _ => hgo _ (v16 a3))
  · have c9 : hm 4 k = 1 := by
      rcases d3 with q | q | q
      · exact absurd q c
      · exact absurd q c0
      · exact q
    rw [if_neg c0, if_neg c0, if_pos c9, if_neg c0]
    exact Sm.ite (fun q => hgo _ (Or.inl q)) (fun _ => Sm.ite (fun q => hgo _ (Or.inr ⟨by have := q.1; rw [Int32.le_iff_toInt_le] at this; exact this, by have := q.2; rw [Int32.le_iff_toInt_le] at this; exact this⟩)) (fun _ => .ret hR))
def zz : Nat → Int32 := fun _ => 0
theorem C_renew_l {h : xH} {w : Nat} {a1 a2 : Int32} : ∀ m i f, i + m = 24 → m < f → f_X3_renew_c12 w a1 a2 f (nI i) (xpt h (w + 1) (cpk zz (h (w + 1)) i)) = some (0, xpt h (w + 1) (cpk zz (h (w + 1)) 24))
  | m, i, 0, _, h2 => absurd h2 (Nat.not_lt_zero _)
  | 0, i, f + 1, h1, _ => by rw [f_X3_renew_c12, if_pos (show (24 : Int32) ≤ nI i from nI_le (a := 24) (by omega) (by omega)), show i = 24 by omega]
  | m + 1, i, f + 1, h1, h2 => by
    rw [f_X3_renew_c12, if_neg (show ¬ (24 : Int32) ≤ nI i from nI_ge (b := 24) (by omega) (by omega)), gd_n (by omega) (by omega), nm_x, nI_clamp (by omega), nI_1, xst, xpt_self, xpt_xpt, show upd (cpk zz (h (w + 1)) i) i 0 = cpk zz (h (w + 1)) (i + 1) from cpk_s]
    exact C_renew_l m (i + 1) f (by omega) (by omega)
theorem C_renew {h : xH} {w : Nat} {a1 a2 : Int32} : ∃ h', f_X3_renew w a1 a2 h = some (0, h') ∧ (∀ q, q ≠ w → q ≠ w + 1 → h' q = h q) ∧ h' w 1 = a1 ∧ h' w 2 = a2 ∧ ∀ i, i < 24 → h' (w + 1) i = 0 := by
  unfold f_X3_renew
  rw [nm_x, nm_x]
  have := C_renew_l (h := xst (xst h w 1 a1) w 2 a2) (w := w) (a1 := a1) (a2 := a2) 24 0 xN (by omega) (by unfold xN; omega)
  rw [cpk_0, xpt_id] at this
  refine ⟨_, this, fun q q1 q2 => ?_, ?_, ?_, fun i hi => ?_⟩
  · rw [xpt_ne q2, xst_ne q1, xst_ne q1]
  · rw [xpt_ne (by omega), xst_self, pk_un (by omega), xst_self, pk_us]
  · rw [xpt_ne (by omega), xst_self, pk_us]
  · rw [xpt_self, cpk_lt hi]; rfl
def zk (g : Nat → Int32) (k i : Nat) : Nat → Int32 := fun j => if 24 * k ≤ j ∧ j < 24 * k + i then 0 else g j
theorem zk_s {g : Nat → Int32} {k i : Nat} : upd (zk g k i) (24 * k + i) 0 = zk g k (i + 1) := by
  funext j
  unfold upd zk
  by_cases c : j = 24 * k + i
  · rw [if_pos c, if_pos (by omega)]
  · rw [if_neg c]
    by_cases c2 : 24 * k ≤ j ∧ j < 24 * k + i
    · rw [if_pos c2, if_pos (by omega)]
    · rw [if_neg c2, if_neg (by omega)]
theorem zk_0 {g : Nat → Int32} {k : Nat} : zk g k 0 = g := by
  funext j
  unfold zk
  rw [if_neg (by omega)]
theorem M_sheet_l {h : xH} {k : Nat} {a2 a3 : Int32} (hk : k < 4) : ∀ m i f, i + m = 24 → m < f → f_X7_sheet_c69 (nI k) a2 a3 f (nI i) (xpt h 6 (zk (h 6) k i)) = some (h 5 k, xpt h 6 (zk (h 6) k 24))
  | m, i, 0, _, h2 => absurd h2 (Nat.not_lt_zero _)
  | 0, i, f + 1, h1, _ => by rw [f_X7_sheet_c69, if_pos (show (24 : Int32) ≤ nI i from nI_le (a := 24) (by omega) (by omega)), gd_n hk (by omega), nI_clamp (by omega), xpt_ne (by omega), show i = 24 by omega]
  | m + 1, i, f + 1, h1, h2 => by
    rw [f_X7_sheet_c69, if_neg (show ¬ (24 : Int32) ≤ nI i from nI_ge (b := 24) (by omega) (by omega)), ix24, gd_n (by omega) (by omega), nm_x, nI_clamp (by omega), nI_1, xst, xpt_self, xpt_xpt, zk_s]
    exact M_sheet_l hk m (i + 1) f (by omega) (by omega)
theorem M_sheet_c65 {h : xH} {k : Nat} {a2 a3 n : Int32} (hk : k < 4) : f_X7_sheet_c65 (nI k) a2 a3 n (nI k) h = some (n, xpt (xst h 5 k n) 6 (zk (h 6) k 24)) := by
  unfold f_X7_sheet_c65
  rw [gd_n hk (by omega), nm_x, nI_clamp (by omega)]
  have := M_sheet_l (h := xst h 5 k n) (a2 := a2) (a3 := a3) hk 24 0 xN (by omega) (by unfold xN; omega)
  rw [zk_0, xpt_id, xst_self, pk_us, xst_ne (by omega)] at this
  exact this
theorem vok0 : vok 0 := Or.inr ⟨by decide, by decide⟩
theorem Rl.sheet {hc hc' hm : xH} (hR : Rl hc hm) {k : Nat} (hk : k < 4) {s n : Int32} (hs : s = -1 ∨ s = 0 ∨ s = 1) (hn : rg n 24) (c0 : ∀ q, q ≠ 60 + 2 * k → q ≠ 60 + 2 * k + 1 → hc' q = hc q) (c1 : hc' (60 + 2 * k) 1 = s) (c2 : hc' (60 + 2 * k) 2 = n) (c3 : ∀ i, i < 24 → hc' (60 + 2 * k + 1) i = 0) : Rl hc' (xpt (xst (xst hm 4 k s) 5 k n) 6 (zk (hm 6) k 24)) := by
  refine hR.row hk hs hn (F := zz) (fun _ _ => vok0) (fun q q1 q2 => c0 q q1 (by omega)) c1 c2 (fun i hi => by rw [show 61 + 2 * k = 60 + 2 * k + 1 by omega]; exact c3 i hi) (fun q q1 q2 q3 => by rw [xpt_ne q3, xst_ne q2, xst_ne q1]) (fun j => by rw [xpt_ne (by omega), xst_ne (by omega), xst_self]) (fun j => by rw [xpt_ne (by omega), xst_self, xst_ne (by omega)]) (fun i hi => ?_) (fun j hj => ?_)
  · rw [xpt_self, zk, if_pos (by omega)]; rfl
  · rw [xpt_self, zk, if_neg hj]
theorem S_sheet_ok {κ : Nat} (hκ : κ < 64) : S_sheet (Rk κ) (Rk (κ + 1)) := by
  intro a1 a2 a3 hc hm hR
  refine Sm.k hκ hR ?_
  have hR := hR.1
  simp only [f_X6_sheet, f_X7_sheet, f_X7_sheet_c32, f_X7_sheet_c44, C_isSheet, M_isSheet, C_within, M_n1, bn_s, b01, nm_x]
  refine Sm.ite (fun c1 => Sm.ite (fun c2 => ?_) (fun _ => .ret hR)) (fun _ => .ret hR)
  obtain ⟨k, hk, rfl⟩ := in_nI (n := 3) (M := 3) rfl c1
  simp only [gd_n (show k < 4 by omega) (show 4 < 2 ^ 31 by omega), nI_clamp (show k < 2 ^ 31 by omega), M_sheet_c65 (show k < 4 by omega)]
  have hs : a2 = -1 ∨ a2 = 0 ∨ a2 = 1 := by
    have h1 := c2.1; have h2 := c2.2
    rw [Int32.le_iff_toInt_le, show (-1 : Int32).toInt = -1 from rfl] at h1
    rw [Int32.le_iff_toInt_le, show (1 : Int32).toInt = 1 from rfl] at h2
    have : a2.toInt = -1 ∨ a2.toInt = 0 ∨ a2.toInt = 1 := by omega
    rcases this with q | q | q
    · exact Or.inl (Int32.toInt_inj.mp q)
    · exact Or.inr (Or.inl (Int32.toInt_inj.mp q))
    · exact Or.inr (Or.inr (Int32.toInt_inj.mp q))
  have gr : ∀ n : Int32, Gr hm (xpt (xst (xst hm 4 k a2) 5 k n) 6 (zk (xst hm 4 k a2 6) k 24)) := fun n => .m1 (by rw [xpt_ne (by omega), xst_ne (by omega), xst_ne (by omega)]) (by rw [xpt_ne (by omega), xst_ne (by omega), xst_ne (by omega)]) (by rw [xpt_ne (by omega), xst_ne (by omega), xst_ne (by omega)])
  have h6 : xst hm 4 k a2 6 = hm 6 := xst_ne (by omega)
  by_cases c : a2 = -1
  · obtain ⟨hc', r1, r2, r3, r4, r5⟩ := C_renew (h := hc) (w := 60 + 2 * k) (a1 := -1) (a2 := 0)
    have cl : a2 < 0 := by rw [c]; decide
    rw [if_pos c, if_pos cl, if_pos cl, if_neg (Int32.not_le.mpr cl), r1, bn_s]
    refine .to (gr 0) ?_
    rw [h6]
    exact hR.sheet (by omega) hs ⟨by decide, by decide⟩ r2 (r3.trans c.symm) r4 r5
  · have cp : 0 ≤ a2 := (sort_pos hs).mpr c
    have cl : ¬ a2 < 0 := Int32.not_lt.mpr cp
    rw [if_neg c, if_neg cl, if_neg cl, if_pos cp]
    refine Sm.ite (fun c4 => Sm.ite (fun c5 => ?_) (fun _ => .ret hR)) (fun _ => .ret hR)
    obtain ⟨hc', r1, r2, r3, r4, r5⟩ := C_renew (h := hc) (w := 60 + 2 * k) (a1 := a2) (a2 := a3)
    rw [r1, bn_s]
    refine .to (gr a3) ?_
    rw [h6]
    exact hR.sheet (by omega) hs ((rg_iff (M := 24) rfl).mp ⟨c5, c4⟩) r2 r3 r4 r5
