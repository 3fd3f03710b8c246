/-! small methods -/
theorem C_within (a lo hi : Int32) (h : xH) : f_X6_within a lo hi h = some (if lo ≤ a ∧ a ≤ hi then 1 else 0, h) := by
  unfold f_X6_within
  by_cases h1 : a < lo
  · rw [if_pos h1, if_neg (fun q => absurd h1 (Int32.not_lt.mpr q.1))]
  · rw [if_neg h1]
    by_cases h2 : hi < a
    · rw [if_pos h2, if_neg (fun q => absurd h2 (Int32.not_lt.mpr q.2))]
    · rw [if_neg h2, if_pos ⟨Int32.not_lt.mp h1, Int32.not_lt.mp h2⟩]
theorem C_isKind (a : Int32) (h : xH) : f_X6_isKind a h = some (if 0 ≤ a ∧ a ≤ 5 then 1 else 0, h) := by
  simp only [f_X6_isKind, C_within, bn_s, gb01]
theorem C_isOne (a : Int32) (h : xH) : f_X6_isOne a h = some (if 0 ≤ a ∧ a ≤ 5 then 1 else 0, h) := by
  simp only [f_X6_isOne, C_within, bn_s, gb01]
theorem C_isSheet (a : Int32) (h : xH) : f_X6_isSheet a h = some (if 0 ≤ a ∧ a ≤ 3 then 1 else 0, h) := by
  simp only [f_X6_isSheet, C_within, bn_s, gb01]
theorem C_isSlot (a : Int32) (h : xH) : f_X6_isSlot a h = some (if 0 ≤ a ∧ a ≤ 4 then 1 else 0, h) := by
  simp only [f_X6_isSlot, C_within, bn_s, gb01]
theorem C_isDay (a : Int32) (h : xH) : f_X6_isDay a h = some (if 0 ≤ a ∧ a ≤ h 24 10 - 1 then 1 else 0, h) := by
  simp only [f_X6_isDay, C_within, bn_s, gb01]
theorem M_isIn (a lo hi : Int64) (h : xH) : f_X7_isIn a lo hi h = some (if lo ≤ a ∧ a ≤ hi then 1 else 0, h) := by
  unfold f_X7_isIn
  by_cases h1 : lg_cmp a lo < 0
  · rw [if_pos h1, if_neg (fun q => absurd ((lg_cmp_lt _ _).mp h1) (Int64.not_lt.mpr q.1))]
  · rw [if_neg h1]
    by_cases h2 : 0 < lg_cmp a hi
    · rw [if_pos h2, if_neg (fun q => absurd ((lg_cmp_gt _ _).mp h2) (Int64.not_lt.mpr q.2))]
    · rw [if_neg h2, if_pos ⟨Int64.not_lt.mp (fun q => h1 ((lg_cmp_lt _ _).mpr q)), Int64.not_lt.mp (fun q => h2 ((lg_cmp_gt _ _).mpr q))⟩]
theorem i64_le (a b : Int32) : a.toInt64 ≤ b.toInt64 ↔ a ≤ b := by
  rw [Int64.le_iff_toInt_le, Int32.le_iff_toInt_le, Int32.toInt_toInt64, Int32.toInt_toInt64]
theorem M_in {x lo hi : Int32} {lo' hi' : Int64} (h1 : lo.toInt64 = lo') (h2 : hi.toInt64 = hi') (h : xH) : f_X7_isIn x.toInt64 lo' hi' h = some (if lo ≤ x ∧ x ≤ hi then 1 else 0, h) := by
  subst h1; subst h2
  rw [M_isIn]
  simp only [i64_le]
theorem M_0_5 (x : Int32) (h : xH) : f_X7_isIn x.toInt64 0 5 h = some (if 0 ≤ x ∧ x ≤ 5 then 1 else 0, h) := M_in (lo := 0) (hi := 5) rfl rfl h
theorem M_0_99 (x : Int32) (h : xH) : f_X7_isIn x.toInt64 0 99 h = some (if 0 ≤ x ∧ x ≤ 99 then 1 else 0, h) := M_in (lo := 0) (hi := 99) rfl rfl h
theorem M_0_9 (x : Int32) (h : xH) : f_X7_isIn x.toInt64 0 9 h = some (if 0 ≤ x ∧ x ≤ 9 then 1 else 0, h) := M_in (lo := 0) (hi := 9) rfl rfl h
theorem M_0_7 (x : Int32) (h : xH) : f_X7_isIn x.toInt64 0 7 h = some (if 0 ≤ x ∧ x ≤ 7 then 1 else 0, h) := M_in (lo := 0) (hi := 7) rfl rfl h
theorem M_1_3 (x : Int32) (h : xH) : f_X7_isIn x.toInt64 1 3 h = some (if 1 ≤ x ∧ x ≤ 3 then 1 else 0, h) := M_in (lo := 1) (hi := 3) rfl rfl h
theorem M_0_2 (x : Int32) (h : xH) : f_X7_isIn x.toInt64 0 2 h = some (if 0 ≤ x ∧ x ≤ 2 then 1 else 0, h) := M_in (lo := 0) (hi := 2) rfl rfl h
theorem M_0_1 (x : Int32) (h : xH) : f_X7_isIn x.toInt64 0 1 h = some (if 0 ≤ x ∧ x ≤ 1 then 1 else 0, h) := M_in (lo := 0) (hi := 1) rfl rfl h
theorem M_0_9999 (x : Int32) (h : xH) : f_X7_isIn x.toInt64 0 9999 h = some (if 0 ≤ x ∧ x ≤ 9999 then 1 else 0, h) := M_in (lo := 0) (hi := 9999) rfl rfl h
theorem M_1_10 (x : Int32) (h : xH) : f_X7_isIn x.toInt64 1 10 h = some (if 1 ≤ x ∧ x ≤ 10 then 1 else 0, h) := M_in (lo := 1) (hi := 10) rfl rfl h
theorem M_1_100 (x : Int32) (h : xH) : f_X7_isIn x.toInt64 1 100 h = some (if 1 ≤ x ∧ x ≤ 100 then 1 else 0, h) := M_in (lo := 1) (hi := 100) rfl rfl h
theorem M_0_100 (x : Int32) (h : xH) : f_X7_isIn x.toInt64 0 100 h = some (if 0 ≤ x ∧ x ≤ 100 then 1 else 0, h) := M_in (lo := 0) (hi := 100) rfl rfl h
theorem M_0_4 (x : Int32) (h : xH) : f_X7_isIn x.toInt64 0 4 h = some (if 0 ≤ x ∧ x ≤ 4 then 1 else 0, h) := M_in (lo := 0) (hi := 4) rfl rfl h
theorem M_1_60 (x : Int32) (h : xH) : f_X7_isIn x.toInt64 1 60 h = some (if 1 ≤ x ∧ x ≤ 60 then 1 else 0, h) := M_in (lo := 1) (hi := 60) rfl rfl h
theorem M_0_3 (x : Int32) (h : xH) : f_X7_isIn x.toInt64 0 3 h = some (if 0 ≤ x ∧ x ≤ 3 then 1 else 0, h) := M_in (lo := 0) (hi := 3) rfl rfl h
theorem M_m1_1 (x : Int32) (h : xH) : f_X7_isIn x.toInt64 (-1) 1 h = some (if (-1) ≤ x ∧ x ≤ 1 then 1 else 0, h) := M_in (lo := (-1)) (hi := 1) rfl rfl h
theorem M_m99999_99999 (x : Int32) (h : xH) : f_X7_isIn x.toInt64 (-99999) 99999 h = some (if (-99999) ≤ x ∧ x ≤ 99999 then 1 else 0, h) := M_in (lo := (-99999)) (hi := 99999) rfl rfl h
theorem M_1_30 (x : Int32) (h : xH) : f_X7_isIn x.toInt64 1 30 h = some (if 1 ≤ x ∧ x ≤ 30 then 1 else 0, h) := M_in (lo := 1) (hi := 30) rfl rfl h
theorem M_97_122 (x : Int32) (h : xH) : f_X7_isIn x.toInt64 97 122 h = some (if 97 ≤ x ∧ x ≤ 122 then 1 else 0, h) := M_in (lo := 97) (hi := 122) rfl rfl h
theorem M_48_57 (x : Int32) (h : xH) : f_X7_isIn x.toInt64 48 57 h = some (if 48 ≤ x ∧ x ≤ 57 then 1 else 0, h) := M_in (lo := 48) (hi := 57) rfl rfl h
theorem M_0_x (x y : Int32) (h : xH) : f_X7_isIn x.toInt64 0 y.toInt64 h = some (if 0 ≤ x ∧ x ≤ y then 1 else 0, h) := M_in (lo := 0) rfl rfl h
theorem M_isDay (a : Int32) (h : xH) : f_X7_isDay a h = some (if 0 ≤ a ∧ a ≤ h 1 0 - 1 then 1 else 0, h) := by
  simp only [f_X7_isDay, gS_0, cN_0, M_0_x, bn_s, gb01]
theorem M_isText (a : Int32) (h : xH) : f_X7_isText a h = some (if 0 ≤ a ∧ a ≤ h 1 1 - 1 then 1 else 0, h) := by
  simp only [f_X7_isText, gS_1, cN_1, M_0_x, bn_s, gb01]
theorem M_isSheet (a : Int32) (h : xH) : f_X7_isSheet a h = some (if 0 ≤ a ∧ a ≤ 3 then 1 else 0, h) := by
  simp only [f_X7_isSheet, M_0_3, bn_s, gb01]
theorem M_isSlot (a : Int32) (h : xH) : f_X7_isSlot a h = some (if 0 ≤ a ∧ a ≤ 4 then 1 else 0, h) := by
  simp only [f_X7_isSlot, M_0_4, bn_s, gb01]
theorem le5_lt6 (a : Int32) : a ≤ 5 ↔ ¬ 6 ≤ a := by
  rw [Int32.le_iff_toInt_le, Int32.le_iff_toInt_le, show (5 : Int32).toInt = 5 from rfl, show (6 : Int32).toInt = 6 from rfl]
  omega
theorem M_isOne (a : Int32) (h : xH) : f_X7_isOne a h = some (if 0 ≤ a ∧ a ≤ 5 then 1 else 0, h) := by
  unfold f_X7_isOne
  by_cases h1 : a < 0
  · rw [if_pos h1, if_neg (fun q => absurd h1 (Int32.not_lt.mpr q.1))]
  · rw [if_neg h1]
    by_cases h2 : 6 ≤ a
    · rw [if_pos h2, if_neg (fun q => (le5_lt6 a).mp q.2 h2)]
    · rw [if_neg h2, if_pos ⟨Int32.not_lt.mp h1, (le5_lt6 a).mpr h2⟩]
/-- what lies within is a place -/
theorem in_nI {a : Int32} {n : Nat} {M : Int32} (hM : M.toInt = n) (h : 0 ≤ a ∧ a ≤ M) : ∃ j, j ≤ n ∧ a = nI j := nI_of2 hM (Int32.not_lt.mpr h.1) h.2
theorem day_in {a s0 : Int32} (hb : ∃ n, n ≤ 10 ∧ s0 = nI n) (h : 0 ≤ a ∧ a ≤ s0 - 1) : ∃ d n, d < n ∧ n ≤ 10 ∧ s0 = nI n ∧ a = nI d := by
  obtain ⟨n, hn, rfl⟩ := hb
  obtain ⟨j, hj, rfl⟩ := nI_of (x := a) (Int32.not_lt.mpr h.1)
  have h2 := h.2
  rw [Int32.le_iff_toInt_le, Int32.toInt_sub, nI_toInt hj, nI_toInt (by omega), show (1 : Int32).toInt = 1 from rfl, Int.bmod_eq_of_le (by omega) (by omega)] at h2
  exact ⟨j, n, by omega, hn, rfl, rfl⟩
theorem ix6 {d j : Nat} {k : Int32} (hk : nI j = k) : 18 + 6 * nI d + k = nI (18 + 6 * d + j) := by
  subst hk
  rw [show (18 : Int32) = nI 18 from rfl, show (6 : Int32) = nI 6 from rfl, nI_mul, nI_add, nI_add]
theorem ix60 {d : Nat} : 18 + 6 * nI d = nI (18 + 6 * d) := by
  rw [show (18 : Int32) = nI 18 from rfl, show (6 : Int32) = nI 6 from rfl, nI_mul, nI_add]
theorem ixc {p : Nat} : 6 + nI p = nI (6 + p) := by rw [show (6 : Int32) = nI 6 from rfl, nI_add]
theorem ixw {p : Nat} : 12 + nI p = nI (12 + p) := by rw [show (12 : Int32) = nI 12 from rfl, nI_add]
theorem xpt_xpt {h : xH} {k : Nat} {c c' : Nat → Int32} : xpt (xpt h k c) k c' = xpt h k c' := by
  funext a
  by_cases ha : a = k
  · subst ha; rw [xpt_self, xpt_self]
  · rw [xpt_ne ha, xpt_ne ha, xpt_ne ha]
theorem xpt_id {h : xH} {k : Nat} : xpt h k (h k) = h := by
  funext a
  by_cases ha : a = k
  · subst ha; rw [xpt_self]
  · rw [xpt_ne ha]
theorem M_of {d j : Nat} {k : Int32} (hk : nI j = k) (hd : d < 10) (hj : j < 6) (h : xH) : f_X7_of (nI d) k h = some (h 1 (18 + 6 * d + j), h) := by
  simp only [f_X7_of, ix6 hk]
  rw [gd_n (by omega) (by omega), nI_clamp (by omega)]
theorem M_sets {d j : Nat} {k v : Int32} (hk : nI j = k) (hd : d < 10) (hj : j < 6) (h : xH) : f_X7_sets (nI d) k v h = some (0, xpt h 1 (upd (h 1) (18 + 6 * d + j) v)) := by
  simp only [f_X7_sets, ix6 hk, nm_x]
  rw [gd_n (by omega) (by omega), nI_clamp (by omega)]
  rfl
theorem M_becomes {i : Nat} {a v : Int32} (ha : a = nI i) (hi : i < 3078) (h : xH) : f_X7_becomes a v h = some (h 1 i, xpt h 1 (upd (h 1) i v)) := by
  subst ha
  simp only [f_X7_becomes, nm_x, gd_n hi (show 3078 < 2 ^ 31 by omega), nI_clamp (show i < 2 ^ 31 by omega)]
  rfl
theorem C_exchange {a n i : Nat} {v : Int32} (hi : i < n) (hn : n < 2 ^ 31) (h : xH) : f_X6_exchange a n (nI i) v h = some (h a i, xst h a i v) := by
  simp only [f_X6_exchange, nm_x, gd_n hi hn, nI_clamp (show i < 2 ^ 31 by omega)]
/-! day -/
theorem upd_comm {f : Nat → Int32} {a b : Nat} {x y : Int32} (h : a ≠ b) : upd (upd f a x) b y = upd (upd f b y) a x := by
  funext j
  unfold upd
  by_cases h1 : j = a
  · subst h1; rw [if_neg h, if_pos rfl, if_pos rfl]
  · rw [if_neg h1, if_neg h1]
theorem upd_upd {f : Nat → Int32} {a : Nat} {x y : Int32} : upd (upd f a x) a y = upd f a y := by
  funext j
  unfold upd
  by_cases h1 : j = a
  · rw [if_pos h1, if_pos h1]
  · rw [if_neg h1, if_neg h1, if_neg h1]
def addF (σ : Nat → Int32) (n : Nat) (k d t o : Int32) : Nat → Int32 := upd (upd (upd (upd (upd (upd (upd σ 0 (nI (n + 1))) (18 + 6 * n + 0) k) (18 + 6 * n + 1) d) (18 + 6 * n + 2) t) (18 + 6 * n + 3) 0) (18 + 6 * n + 4) o) (18 + 6 * n + 5) (1 <<< (o &&& 31))
theorem C_addDay {h : xH} {w n : Nat} {σ : Nat → Int32} {k d t o : Int32} (hw : WR h w σ) (h0 : σ 0 = nI n) (hn : n < 10) : ∃ h', f_X5_addDay w k d t o h = some (nI n, h') ∧ WR h' w (addF σ n k d t o) ∧ ∀ a, ¬ (w ≤ a ∧ a < w + 10) → h' a = h a := by
  have e0 : h w 10 = nI n := hw.days.trans h0
  have hlt : nI n < 10 := nI_lt (b := 10) hn (by omega)
  refine ⟨xst (xst (xst (xst (xst (xst (xst h (w + 1) n k) (w + 2) n d) (w + 3) n t) (w + 4) n 0) (w + 5) n o) (w + 6) n (1 <<< (o &&& 31))) w 10 (nI (n + 1)), ?_, ?_, ?_⟩
  · simp only [f_X5_addDay, e0, if_pos hlt, gd_n hn (show 10 < 2 ^ 31 by omega), nm_x, nI_clamp (show n < 2 ^ 31 by omega), nI_succ]
  · have := ((((((hw.putD (v := k) hn (k := 0) (by omega) rfl).putD (v := d) hn (k := 1) (by omega) rfl).putD (v := t) hn (k := 2) (by omega) rfl).putD (v := 0) hn (k := 3) (by omega) rfl).putD (v := o) hn (k := 4) (by omega) rfl).putD (v := 1 <<< (o &&& 31)) hn (k := 5) (by omega) rfl).put (v := nI (n + 1)) (j := 0) (a := w) (b := 10) (by omega) (by omega) rfl rfl
    rw [upd_comm (b := 0) (by omega), upd_comm (b := 0) (by omega), upd_comm (b := 0) (by omega), upd_comm (b := 0) (by omega), upd_comm (b := 0) (by omega), upd_comm (b := 0) (by omega)] at this
    exact this
  · intro a ha
    rw [xst_ne (by omega), xst_ne (by omega), xst_ne (by omega), xst_ne (by omega), xst_ne (by omega), xst_ne (by omega), xst_ne (by omega)]
theorem M_comes {h : xH} {n : Nat} {k d t o : Int32} (h0 : h 1 0 = nI n) (hn : n < 10) : f_X7_comes k d t o h = some (0, xpt h 1 (addF (h 1) n k d t o)) := by
  simp only [f_X7_comes, gS_0, cN_0, nm_x, h0]
  rw [M_sets (j := 0) (k := 0) rfl hn (by omega), bn_s, M_sets (j := 1) (k := 1) rfl hn (by omega), bn_s, M_sets (j := 2) (k := 2) rfl hn (by omega), bn_s, M_sets (j := 3) (k := 3) rfl hn (by omega), bn_s, M_sets (j := 4) (k := 4) rfl hn (by omega), bn_s, M_sets (j := 5) (k := 5) rfl hn (by omega), bn_s]
  simp only [xst, xpt_self, xpt_xpt, addF, nI_succ]
theorem Bnd.add {σ : Nat → Int32} (hb : Bnd σ) {n : Nat} (hn : n < 10) {k d t o : Int32} (hk : rg k 5) (hd : rg d 99) (ht : rg t 9) (ho : rg o 5) : Bnd (addF σ n k d t o) := by
  refine ((((((hb.days (n := n + 1) (by omega)).day (by omega) (fun _ => hk)).day (by omega) (fun _ => hd)).day (by omega) (fun _ => ht)).day (by omega) (fun _ => ?_)).day (by omega) (fun _ => ho)).day (by omega) (fun q => absurd q (by omega))
  exact ⟨by decide, by decide⟩
theorem addF_ne {σ : Nat → Int32} {n : Nat} {k d t o : Int32} {j : Nat} (hn : n < 10) (hj : j ≠ 0) (hj2 : j < 18 ∨ 78 ≤ j) : addF σ n k d t o j = σ j := by
  unfold addF
  rw [pk_un (by omega), pk_un (by omega), pk_un (by omega), pk_un (by omega), pk_un (by omega), pk_un (by omega), pk_un (by omega)]
/-- how many sales there may be -/
def sb (b : Int) (h : xH) : Prop := rg (h 1 3) b ∧ (h 0 3 = 1 → rg (h 2 3) b)
def Gr (h h' : xH) : Prop := ∀ b : Int, 0 ≤ b → b ≤ 100000 → sb b h → sb (b + 1100) h'
theorem rg.up {v : Int32} {b c : Int} (h : rg v b) (hc : b ≤ c) : rg v c := ⟨h.1, Int.le_trans h.2 hc⟩
theorem Gr.m1 {h h' : xH} (h0 : h' 0 3 = h 0 3) (h2 : h' 2 = h 2) (h1 : h' 1 3 = h 1 3) : Gr h h' := by
  intro b b0 b1 hs
  unfold sb
  rw [h0, h1, h2]
  exact ⟨hs.1.up (by omega), fun q => (hs.2 q).up (by omega)⟩
theorem Gr.rf {h : xH} : Gr h h := Gr.m1 rfl rfl rfl
theorem Gr.ms {h h' : xH} (hs : mS h h') : Gr h h' := by
  have e : ∀ q, q < 3 → h' q = h q := fun q hq => hs q (by omega) (by omega) (by omega) (by omega) (by omega) (by omega) (by omega)
  exact Gr.m1 (by rw [e 0 (by omega)]) (e 2 (by omega)) (by rw [e 1 (by omega)])
theorem Gr.s1 {h : xH} {j : Nat} {v : Int32} (hj : j ≠ 3) : Gr h (xpt h 1 (upd (h 1) j v)) :=
  Gr.m1 (by rw [xpt_ne (by omega)]) (xpt_ne (by omega)) (by rw [xpt_self, pk_un (Ne.symm hj)])
theorem rg_add {v : Int32} {b : Int} {n : Nat} (h : rg v b) (hb : b ≤ 100000) (hn : n ≤ 1100) : rg (v + nI n) (b + n) := by
  obtain ⟨j, h1, h2, rfl⟩ := rg_nI h
  rw [nI_add]
  exact rg_of (by omega) (by omega)
theorem Gr.up {h h' : xH} {n : Nat} (hn : n ≤ 1100) (h0 : h' 0 3 = h 0 3) (h2 : h' 2 = h 2) (h1 : h' 1 3 = h 1 3 + nI n) : Gr h h' := by
  intro b b0 b1 hs
  unfold sb
  rw [h0, h1, h2]
  exact ⟨(rg_add hs.1 b1 hn).up (by omega), fun q => (hs.2 q).up (by omega)⟩
def Rk (κ : Nat) (hc hm : xH) : Prop := Rl hc hm ∧ sb (1100 * κ) hm
/-- both answer, alike, and the relation goes on -/
def Sm (hm : xH) (x y : Option (Int32 × xH)) : Prop := ∃ (r : Int32) (hc1 hm1 : xH), x = some (r, hc1) ∧ y = some (r, hm1) ∧ Rl hc1 hm1 ∧ Gr hm hm1
theorem Sm.k {κ : Nat} {hc hm : xH} {x y : Option (Int32 × xH)} (hκ : κ < 64) (hR : Rk κ hc hm) (h : Sm hm x y) : ∃ (r : Int32) (hc1 hm1 : xH), x = some (r, hc1) ∧ y = some (r, hm1) ∧ Rk (κ + 1) hc1 hm1 := by
  obtain ⟨r, hc1, hm1, e1, e2, e3, e4⟩ := h
  have := e4 (1100 * κ) (by omega) (by omega) hR.2
  exact ⟨r, hc1, hm1, e1, e2, e3, ⟨this.1.up (by omega), fun q => (this.2 q).up (by omega)⟩⟩
theorem Sm.ite {P : Prop} [Decidable P] {hm : xH} {a b c d : Option (Int32 × xH)} (h1 : P → Sm hm a b) (h2 : ¬ P → Sm hm c d) : Sm hm (if P then a else c) (if P then b else d) := by
  by_cases h : P
  · rw [if_pos h, if_pos h]; exact h1 h
  · rw [if_neg h, if_neg h]; exact h2 h
theorem Sm.ret {r : Int32} {hc hm : xH} (h : Rl hc hm) : Sm hm (some (r, hc)) (some (r, hm)) := ⟨r, hc, hm, rfl, rfl, h, Gr.rf⟩
theorem Sm.ret' {r r' : Int32} {hc hm : xH} (e : r = r') (h : Rl hc hm) : Sm hm (some (r, hc)) (some (r', hm)) := e ▸ Sm.ret h
theorem Sm.to {r : Int32} {hc1 hm hm1 : xH} (g : Gr hm hm1) (h : Rl hc1 hm1) : Sm hm (some (r, hc1)) (some (r, hm1)) := ⟨r, hc1, hm1, rfl, rfl, h, g⟩
theorem S_day_ok {κ : Nat} (hκ : κ < 64) : S_day (Rk κ) (Rk (κ + 1)) := by
  intro a1 a2 a3 a4 hc hm hR
  refine Sm.k hκ hR ?_
  have hR := hR.1
  have hW := hR.1
  simp only [f_X6_day, f_X7_day, C_isKind, C_within, C_isOne, M_isOne, M_0_5, M_0_99, M_0_9, bn_s, b01, gS_0, cN_0]
  refine Sm.ite (fun c1 => Sm.ite (fun c2 => Sm.ite (fun c3 => Sm.ite (fun c4 => ?_) (fun _ => .ret hR)) (fun _ => .ret hR)) (fun _ => .ret hR)) (fun _ => .ret hR)
  obtain ⟨⟨n, hn, h0⟩, -⟩ := hW.2.1
  rw [hW.1.days, h0]
  by_cases c5 : n = 10
  · subst c5
    rw [if_neg (by decide), if_pos (by decide)]
    exact .ret hR
  · have q1 : nI n < 10 := nI_lt (b := 10) (by omega) (by omega)
    have q2 : ¬ nI n = 10 := fun q => c5 ((nI_eq (b := 10) (by omega) (by omega)).mp q)
    rw [if_pos q1, if_neg q2]
    obtain ⟨hc', e1, e2, e3⟩ := C_addDay (k := a1) (d := a2) (t := a3) (o := a4) hW.1 h0 (by omega)
    rw [e1, bn_s, M_comes h0 (by omega), bn_s, xpt_self]
    have e4 : addF (hm 1) n a1 a2 a3 a4 0 = nI (n + 1) := by
      unfold addF
      rw [pk_un (by omega), pk_un (by omega), pk_un (by omega), pk_un (by omega), pk_un (by omega), pk_un (by omega), pk_us]
    rw [e4, nI_pred]
    refine .to (.m1 (by rw [xpt_ne (by omega)]) (xpt_ne (by omega)) (by rw [xpt_self, addF_ne (by omega) (by omega) (by omega)])) (hR.mkt (fun a q1 q2 q3 q4 q5 => e3 a q1) (fun a q1 q2 q3 q4 q5 q6 q7 q8 => xpt_ne q1) (by rw [xpt_self]; exact e2) ?_ ?_ ?_)
    · rw [xpt_self]
      exact hW.2.1.add (by omega) ((rg_iff (M := 5) rfl).mp c1) ((rg_iff (M := 99) rfl).mp c2) ((rg_iff (M := 9) rfl).mp c3) ((rg_iff (M := 5) rfl).mp c4)
    · rw [xpt_self, addF_ne (by omega) (by omega) (by omega)]
      exact hW.2.2.1
    · intro j hj
      rw [xpt_self, addF_ne (by omega) (by omega) (by omega)]
/-- one number of the market is set -/
theorem Rl.set1 {hc hm : xH} (hR : Rl hc hm) {j a b : Nat} {v : Int32} (hj : j < 78) (h1 : j ≠ 1) (ha : a = 24 + lpj j) (hb : b = lsj j) (hB : Bnd (upd (hm 1) j v)) (h2 : j = 2 → rg v 9999) : Rl (xst hc a b v) (xpt hm 1 (upd (hm 1) j v)) := by
  have h9 := lj_9 j hj
  refine hR.mkt (fun q q1 q2 q3 q4 q5 => xst_ne (by omega)) (fun q q1 q2 q3 q4 q5 q6 q7 q8 => xpt_ne q1) (by rw [xpt_self]; exact hR.1.1.put hj h1 ha hb) (by rw [xpt_self]; exact hB) ?_ ?_
  · rw [xpt_self]
    by_cases hj2 : j = 2
    · subst hj2; rw [pk_us]; exact h2 rfl
    · rw [pk_un (Ne.symm hj2)]; exact hR.1.2.2.1
  · intro q hq
    rw [xpt_self, pk_un (by omega)]
theorem Rl.setD {hc hm : xH} (hR : Rl hc hm) {d k a : Nat} {v : Int32} (hd : d < 10) (hk : k < 6) (ha : a = 25 + k) (hv : k < 5 → rg v (bdk k)) : Rl (xst hc a d v) (xpt hm 1 (upd (hm 1) (18 + 6 * d + k) v)) :=
  hR.set1 (by omega) (by omega) (by rw [(lj_d d k hk).1, ha]; omega) (lj_d d k hk).2.symm (hR.1.2.1.day hk hv) (fun q => by omega)
theorem S_turns_ok {κ : Nat} (hκ : κ < 64) : S_turns (Rk κ) (Rk (κ + 1)) := by
  intro a1 a2 hc hm hR
  refine Sm.k hκ hR ?_
  have hR := hR.1
  simp only [f_X6_turns, f_X7_turns, C_isDay, C_isKind, M_isDay, M_0_5, bn_s, b01, hR.1.1.days]
  refine Sm.ite (fun c1 => Sm.ite (fun c2 => ?_) (fun _ => .ret hR)) (fun _ => .ret hR)
  obtain ⟨d, n, hd, hn, h0, rfl⟩ := day_in hR.1.2.1.1 c1
  rw [C_exchange (by omega) (by omega), M_becomes (i := 18 + 6 * d + 0) ix60 (by omega), bn_s, bn_s, hR.1.1.day (k := 0) (by omega) (by omega) (a := 25) rfl]
  exact .to (.s1 (by omega)) (hR.setD (by omega) (by omega) rfl (fun _ => (rg_iff (M := 5) rfl).mp c2))
theorem S_set_ok {κ : Nat} (hκ : κ < 64) : S_set (Rk κ) (Rk (κ + 1)) := by
  intro a1 a2 a3 hc hm hR
  refine Sm.k hκ hR ?_
  have hR := hR.1
  simp only [f_X6_set, f_X7_set, f_X7_set_c37, C_isDay, C_within, M_isDay, M_1_3, M_0_9, M_0_99, bn_s, b01, hR.1.1.days]
  refine Sm.ite (fun c1 => ?_) (fun _ => .ret hR)
  obtain ⟨d, n, hd, hn, h0, rfl⟩ := day_in hR.1.2.1.1 c1
  by_cases c2 : 1 ≤ a2 ∧ a2 ≤ 3
  · rw [if_pos c2]
    obtain ⟨j, hj, rfl⟩ := in_nI (n := 3) (M := 3) rfl ⟨Int32.le_trans (by decide) c2.1, c2.2⟩
    have hj1 : 1 ≤ j := (nI_leI (a := 1) (by omega) (by omega)).mp c2.1
    have go : ∀ (k : Nat) (v : Int32) (M : Int32), M.toInt = bdk k → k < 5 → nI k = v → (0 ≤ a3 ∧ a3 ≤ M) → Sm hm (bn (f_X6_exchange (25 + k) 10 (nI d) a3 hc) fun r h => some (r, h)) (bn (f_X7_becomes (18 + 6 * nI d + v) a3 hm) fun r h => some (r, h)) := by
      intro k v M hM hk hv hin
      rw [C_exchange (by omega) (by omega), M_becomes (i := 18 + 6 * d + k) (ix6 hv) (by omega), bn_s, bn_s, hR.1.1.day (k := k) (by omega) (by omega) (a := 25 + k) (by omega)]
      exact .to (.s1 (by omega)) (hR.setD (by omega) (by omega) rfl (fun _ => (rg_iff hM).mp hin))
    match j, hj, hj1 with
    | 1, _, _ =>
      rw [if_pos (show nI 1 = 1 from rfl), if_neg (show ¬ nI 1 = 2 by decide)]
      exact Sm.ite (fun c3 => go 1 _ 99 rfl (by omega) rfl c3) (fun _ => .ret hR)
    | 2, _, _ =>
      rw [if_neg (show ¬ nI 2 = 1 by decide), if_pos (show nI 2 = 2 from rfl), if_pos (show nI 2 = 2 from rfl)]
      exact Sm.ite (fun c3 => go 2 _ 9 rfl (by omega) rfl c3) (fun _ => .ret hR)
    | 3, _, _ =>
      rw [if_neg (show ¬ nI 3 = 1 by decide), if_neg (show ¬ nI 3 = 2 by decide), if_pos (show nI 3 = 3 from rfl), if_neg (show ¬ nI 3 = 2 by decide)]
      exact Sm.ite (fun c3 => go 3 _ 99 rfl (by omega) rfl c3) (fun _ => .ret hR)
  · rw [if_neg c2, if_neg (fun q => c2 (by subst q; decide)), if_neg (fun q => c2 (by subst q; decide)), if_neg (fun q => c2 (by subst q; decide))]
    exact .ret hR
theorem S_seed_ok {κ : Nat} (hκ : κ < 64) : S_seed (Rk κ) (Rk (κ + 1)) := by
  intro a1 hc hm hR
  refine Sm.k hκ hR ?_
  have hR := hR.1
  simp only [f_X6_seed, f_X7_seed, nm_x]
  rw [M_becomes (a := 5) (i := 5) rfl (by omega), bn_s, hR.1.1.z]
  exact .to (.s1 (by omega)) (hR.set1 (j := 5) (by omega) (by omega) rfl rfl (hR.1.2.1.free (by omega)) (fun q => by omega))
theorem S_gives_ok {κ : Nat} (hκ : κ < 64) : S_gives (Rk κ) (Rk (κ + 1)) := by
  intro a1 a2 a3 hc hm hR
  refine Sm.k hκ hR ?_
  have hR := hR.1
  simp only [f_X6_gives, f_X7_gives, f_X7_gives_c33, f_X7_gives_c54, C_isOne, C_within, M_isOne, M_0_1, M_0_9, M_0_9999, bn_s, b01]
  refine Sm.ite (fun c1 => ?_) (fun _ => .ret hR)
  obtain ⟨p, hp, rfl⟩ := in_nI (n := 5) (M := 5) rfl c1
  by_cases c2 : 0 ≤ a2 ∧ a2 ≤ 1
  · rw [if_pos c2]
    obtain ⟨j, hj, rfl⟩ := in_nI (n := 1) (M := 1) rfl c2
    match j, hj with
    | 0, _ =>
      rw [if_pos (show nI 0 = 0 from rfl), if_pos (show nI 0 = 0 from rfl), if_pos (show nI 0 = 0 from rfl)]
      refine Sm.ite (fun c3 => ?_) (fun _ => .ret hR)
      rw [C_exchange (by omega) (by omega), M_becomes (i := 6 + p) ixc (by omega), bn_s, bn_s, hR.1.1.coins (by omega)]
      exact .to (.s1 (by omega)) (hR.set1 (by omega) (by omega) (by rw [(lj_p p (by omega)).1]) (lj_p p (by omega)).2.1.symm (hR.1.2.1.coins (by omega) ((rg_iff (M := 9999) rfl).mp c3)) (fun q => by omega))
    | 1, _ =>
      rw [if_neg (show ¬ nI 1 = 0 by decide), if_pos (show nI 1 = 1 from rfl), if_neg (show ¬ nI 1 = 0 by decide), if_neg (show ¬ nI 1 = 0 by decide)]
      refine Sm.ite (fun c3 => ?_) (fun _ => .ret hR)
      rw [C_exchange (by omega) (by omega), M_becomes (i := 12 + p) ixw (by omega), bn_s, bn_s, hR.1.1.wish (by omega)]
      exact .to (.s1 (by omega)) (hR.set1 (by omega) (by omega) (by rw [(lj_p p (by omega)).2.2.1]) (lj_p p (by omega)).2.2.2.symm (hR.1.2.1.wish (by omega) ((rg_iff (M := 9) rfl).mp c3)) (fun q => by omega))
  · rw [if_neg c2, if_neg (fun q => c2 (by subst q; decide)), if_neg (fun q => c2 (by subst q; decide))]
    exact .ret hR
