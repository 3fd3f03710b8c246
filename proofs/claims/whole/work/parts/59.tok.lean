/-! texts: words, numbers and signs -/
theorem xst_id {h : xH} {k j : Nat} {v : Int32} (e : h k j = v) : xst h k j v = h := by
  subst e
  funext a b
  rw [xst_at]
  by_cases c : a = k ∧ b = j
  · rw [if_pos c, c.1, c.2]
  · rw [if_neg c]
theorem xst_xst {h : xH} {k j : Nat} {v w : Int32} : xst (xst h k j v) k j w = xst h k j w := by
  funext a b
  rw [xst_at, xst_at, xst_at]
  by_cases c : a = k ∧ b = j
  · rw [if_pos c, if_pos c]
  · rw [if_neg c, if_neg c, if_neg c]
/-- how far a run of such bytes goes -/
def scn (p : Int32 → Bool) (tp : Nat → Int32) : Nat → Nat → Nat
  | 0, s => s
  | m + 1, s => if p (tp s) = true then scn p tp m (s + 1) else s
theorem scn_rg {p : Int32 → Bool} {tp : Nat → Int32} : ∀ m s, s ≤ scn p tp m s ∧ scn p tp m s ≤ s + m
  | 0, s => ⟨Nat.le_refl _, Nat.le_refl _⟩
  | m + 1, s => by
    have := scn_rg (p := p) (tp := tp) m (s + 1)
    rw [scn]
    split <;> omega
theorem scn_all {p : Int32 → Bool} {tp : Nat → Int32} : ∀ m s i, s ≤ i → i < scn p tp m s → p (tp i) = true
  | 0, s, i, h1, h2 => by rw [scn] at h2; omega
  | m + 1, s, i, h1, h2 => by
    rw [scn] at h2
    by_cases c : p (tp s) = true
    · rw [if_pos c] at h2
      by_cases e : i = s
      · subst e; exact c
      · exact scn_all m (s + 1) i (by omega) h2
    · rw [if_neg c] at h2
      omega
theorem scn_pos {p : Int32 → Bool} {tp : Nat → Int32} {m s : Nat} (h : p (tp s) = true) (hm : 0 < m) : s < scn p tp m s := by
  obtain ⟨k, rfl⟩ : ∃ k, m = k + 1 := ⟨m - 1, by omega⟩
  rw [scn, if_pos h]
  have := (scn_rg (p := p) (tp := tp) k (s + 1)).1
  omega
def pS : Int32 → Bool := fun c => decide (c = 32)
def pL : Int32 → Bool := fun c => decide (97 ≤ c ∧ c ≤ 122)
def pD : Int32 → Bool := fun c => decide (48 ≤ c ∧ c ≤ 57)
def TC (tp : Nat → Int32) (T : Nat) (hc : xH) : Prop := T ≤ 96 ∧ hc 21 2 = nI T ∧ ∀ i, i < 96 → hc 22 i = tp i
def TM (tp : Nat → Int32) (T : Nat) (hm : xH) : Prop := T ≤ 96 ∧ hm 0 15 = nI T ∧ hm 14 = tp
def c4 (h h' : xH) : Prop := (∀ q, q ≠ 21 → h' q = h q) ∧ ∀ j, j ≠ 3 → j ≠ 4 → j ≠ 5 → j ≠ 6 → h' 21 j = h 21 j
def m5 (h h' : xH) : Prop := (∀ q, q ≠ 0 → h' q = h q) ∧ ∀ j, j < 16 ∨ 20 < j → h' 0 j = h 0 j
theorem c4.rf {h : xH} : c4 h h := ⟨fun _ _ => rfl, fun _ _ _ _ _ => rfl⟩
theorem m5.rf {h : xH} : m5 h h := ⟨fun _ _ => rfl, fun _ _ => rfl⟩
theorem c4.tr {a b c : xH} (h1 : c4 a b) (h2 : c4 b c) : c4 a c := ⟨fun q hq => (h2.1 q hq).trans (h1.1 q hq), fun j a b c d => (h2.2 j a b c d).trans (h1.2 j a b c d)⟩
theorem m5.tr {a b c : xH} (h1 : m5 a b) (h2 : m5 b c) : m5 a c := ⟨fun q hq => (h2.1 q hq).trans (h1.1 q hq), fun j hj => (h2.2 j hj).trans (h1.2 j hj)⟩
theorem c4.st {h : xH} {j : Nat} {v : Int32} (hj : j = 3 ∨ j = 4 ∨ j = 5 ∨ j = 6) : c4 h (xst h 21 j v) := ⟨fun q hq => xst_ne hq, fun i a b c d => by rw [xst_self, pk_un (by omega)]⟩
theorem m5.st {h : xH} {j : Nat} {v : Int32} (hj : 16 ≤ j ∧ j ≤ 20) : m5 h (xst h 0 j v) := ⟨fun q hq => xst_ne hq, fun i hi => by rw [xst_self, pk_un (by omega)]⟩
theorem TC.c4 {tp : Nat → Int32} {T : Nat} {h h' : xH} (ht : TC tp T h) (e : c4 h h') : TC tp T h' := ⟨ht.1, (e.2 2 (by omega) (by omega) (by omega) (by omega)).trans ht.2.1, fun i hi => by rw [e.1 22 (by omega)]; exact ht.2.2 i hi⟩
theorem TM.m5 {tp : Nat → Int32} {T : Nat} {h h' : xH} (ht : TM tp T h) (e : m5 h h') : TM tp T h' := ⟨ht.1, (e.2 15 (by omega)).trans ht.2.1, (e.1 14 (by omega)).trans ht.2.2⟩
theorem C_isLetter (a : Int32) (h : xH) : f_X2_isLetter a h = some (if pL a = true then 1 else 0, h) := by
  rw [show f_X2_isLetter a h = f_X6_within a 97 122 h from rfl, C_within]
  unfold pL
  simp only [decide_eq_true_eq]
theorem C_isDigit (a : Int32) (h : xH) : f_X2_isDigit a h = some (if pD a = true then 1 else 0, h) := by
  rw [show f_X2_isDigit a h = f_X6_within a 48 57 h from rfl, C_within]
  unfold pD
  simp only [decide_eq_true_eq]
theorem M_isLetter {tp : Nat → Int32} {T i : Nat} {h : xH} (ht : TM tp T h) (hi : i < T) : f_X7_isLetter (nI i) h = some (if pL (tp i) = true then 1 else 0, h) := by
  obtain ⟨h1, h2, h3⟩ := ht
  unfold f_X7_isLetter pL
  rw [h2, if_neg (nI_ge (by omega) (by omega)), gd_n (by omega) (by omega), nI_clamp (by omega), M_97_122, bn_s, b01, h3]
  simp only [decide_eq_true_eq]
  split <;> rfl
theorem M_isLetter0 {tp : Nat → Int32} {T : Nat} {h : xH} (ht : TM tp T h) : f_X7_isLetter (nI T) h = some (0, h) := by
  obtain ⟨h1, h2, h3⟩ := ht
  unfold f_X7_isLetter
  rw [h2, if_pos (nI_le (Nat.le_refl _) (by omega))]
theorem M_isDigit {tp : Nat → Int32} {T i : Nat} {h : xH} (ht : TM tp T h) (hi : i < T) : f_X7_isDigit (nI i) h = some (if pD (tp i) = true then 1 else 0, h) := by
  obtain ⟨h1, h2, h3⟩ := ht
  unfold f_X7_isDigit pD
  rw [h2, if_neg (nI_ge (by omega) (by omega)), gd_n (by omega) (by omega), nI_clamp (by omega), M_48_57, bn_s, b01, h3]
  simp only [decide_eq_true_eq]
  split <;> rfl
theorem M_isDigit0 {tp : Nat → Int32} {T : Nat} {h : xH} (ht : TM tp T h) : f_X7_isDigit (nI T) h = some (0, h) := by
  obtain ⟨h1, h2, h3⟩ := ht
  unfold f_X7_isDigit
  rw [h2, if_pos (nI_le (Nat.le_refl _) (by omega))]
/-! blanks -/
theorem C_skip {tp : Nat → Int32} {T : Nat} {v : Int32} : ∀ m s f (h : xH), s + m = T → m < f → TC tp T h → h 21 3 = nI s → f_X2_goToNext_c30 f v h = f_X2_goToNext_c68 v (xst h 21 3 (nI (scn pS tp m s)))
  | m, s, 0, h, _, h2, _, _ => absurd h2 (Nat.not_lt_zero _)
  | 0, s, f + 1, h, h1, _, ht, h3 => by
    have := ht.1
    rw [f_X2_goToNext_c30, ht.2.1, h3, if_pos (nI_le (by omega) (by omega)), scn, xst_id h3]
  | m + 1, s, f + 1, h, h1, h2, ht, h3 => by
    have := ht.1
    rw [f_X2_goToNext_c30, ht.2.1, h3, if_neg (nI_ge (by omega) (by omega)), gd_n (show s < 96 by omega) (by omega), nI_clamp (by omega), ht.2.2 s (by omega), nm_x, scn, nI_1]
    unfold pS
    by_cases c : tp s = 32
    · rw [if_pos c, if_pos (decide_eq_true c), C_skip m (s + 1) f (xst h 21 3 (nI (s + 1))) (by omega) (by omega) (ht.c4 (.st (by omega))) (by rw [xst_self, pk_us]), xst_xst]
      rfl
    · rw [if_neg c, if_neg (by rw [decide_eq_true_eq]; exact c), xst_id h3]
theorem M_skip {tp : Nat → Int32} {T : Nat} {v w : Int32} : ∀ m s f (h : xH), s + m = T → m < f → TM tp T h → h 0 17 = nI s → f_X7_nextToken_c34 f v w h = f_X7_nextToken_c72 v w (xst h 0 17 (nI (scn pS tp m s)))
  | m, s, 0, h, _, h2, _, _ => absurd h2 (Nat.not_lt_zero _)
  | 0, s, f + 1, h, h1, _, ht, h3 => by
    have := ht.1
    rw [f_X7_nextToken_c34, ht.2.1, h3, if_pos (nI_le (by omega) (by omega)), scn, xst_id h3]
  | m + 1, s, f + 1, h, h1, h2, ht, h3 => by
    have := ht.1
    rw [f_X7_nextToken_c34, ht.2.1, h3, if_neg (nI_ge (by omega) (by omega)), gd_n (show s < 96 by omega) (by omega), nI_clamp (by omega), ht.2.2, nm_x, scn, nI_1]
    unfold pS
    by_cases c : tp s = 32
    · rw [if_pos c, if_pos (decide_eq_true c), M_skip m (s + 1) f (xst h 0 17 (nI (s + 1))) (by omega) (by omega) (ht.m5 (.st (by omega))) (by rw [xst_self, pk_us]), xst_xst]
      rfl
    · rw [if_neg c, if_neg (by rw [decide_eq_true_eq]; exact c), xst_id h3]
/-! words -/
theorem C_let {tp : Nat → Int32} {T : Nat} {v : Int32} : ∀ m s f (h : xH), s + m = T → m < f → TC tp T h → h 21 4 = nI s → f_X2_takeLetters_c8 v f h = f_X2_takeLetters_c47 v (xst h 21 4 (nI (scn pL tp m s)))
  | m, s, 0, h, _, h2, _, _ => absurd h2 (Nat.not_lt_zero _)
  | 0, s, f + 1, h, h1, _, ht, h3 => by
    have := ht.1
    rw [f_X2_takeLetters_c8, ht.2.1, h3, if_pos (nI_le (by omega) (by omega)), scn, xst_id h3]
  | m + 1, s, f + 1, h, h1, h2, ht, h3 => by
    have := ht.1
    rw [f_X2_takeLetters_c8, ht.2.1, h3, if_neg (nI_ge (by omega) (by omega)), gd_n (show s < 96 by omega) (by omega), nI_clamp (by omega), ht.2.2 s (by omega), C_isLetter, bn_s, b01, nm_x, scn, h3, nI_1]
    by_cases c : pL (tp s) = true
    · rw [if_pos c, if_pos c, C_let m (s + 1) f (xst h 21 4 (nI (s + 1))) (by omega) (by omega) (ht.c4 (.st (by omega))) (by rw [xst_self, pk_us]), xst_xst]
    · rw [if_neg c, if_neg c, xst_id h3]
theorem M_let {tp : Nat → Int32} {T : Nat} {v : Int32} : ∀ m s f (h : xH), s + m = T → m < f → TM tp T h → h 0 17 = nI s → f_X7_nextToken_c128 f v h = if v = 0 then f_X7_nextToken_c162 1 (xst h 0 17 (nI (scn pL tp m s))) else f_X7_nextToken_c162 4 (xst h 0 17 (nI (scn pL tp m s)))
  | m, s, 0, h, _, h2, _, _ => absurd h2 (Nat.not_lt_zero _)
  | 0, s, f + 1, h, h1, _, ht, h3 => by
    have hs : s = T := by omega
    subst hs
    rw [f_X7_nextToken_c128, h3, M_isLetter0 ht, bn_s, if_pos rfl, scn, xst_id h3]
  | m + 1, s, f + 1, h, h1, h2, ht, h3 => by
    rw [f_X7_nextToken_c128, h3, M_isLetter ht (show s < T by omega), bn_s, b01, nm_x, scn, h3, nI_1]
    by_cases c : pL (tp s) = true
    · rw [if_pos c, if_pos c, M_let m (s + 1) f (xst h 0 17 (nI (s + 1))) (by omega) (by omega) (ht.m5 (.st (by omega))) (by rw [xst_self, pk_us]), xst_xst]
    · rw [if_neg c, if_neg c, xst_id h3]
/-! numbers -/
def dgC (tp : Nat → Int32) (b : Nat) : Nat → Int32
  | 0 => 0
  | k + 1 => dgC tp b k * 10 + tp (b + k) - 48
def dgM (tp : Nat → Int32) (b : Nat) : Nat → Int32
  | 0 => 0
  | k + 1 => if 4 ≤ k then dgM tp b k else 10 * dgM tp b k + tp (b + k) - 48
theorem C_dig {tp : Nat → Int32} {T b : Nat} {v : Int32} : ∀ m k f (h : xH), b + k + m = T → m < f → TC tp T h → h 21 4 = nI (b + k) → h 21 6 = dgC tp b k → ∃ h', f_X2_takeDigits_c13 v f h = f_X2_takeDigits_c76 v h' ∧ h' 21 4 = nI (scn pD tp m (b + k)) ∧ h' 21 6 = dgC tp b (scn pD tp m (b + k) - b) ∧ h' 21 3 = h 21 3 ∧ c4 h h'
  | m, k, 0, h, _, h2, _, _, _ => absurd h2 (Nat.not_lt_zero _)
  | 0, k, f + 1, h, h1, _, ht, h3, h4 => by
    have := ht.1
    refine ⟨h, ?_, h3, ?_, rfl, c4.rf⟩
    · rw [f_X2_takeDigits_c13, ht.2.1, h3, if_pos (nI_le (by omega) (by omega))]
    · rw [scn, Nat.add_sub_cancel_left]; exact h4
  | m + 1, k, f + 1, h, h1, h2, ht, h3, h4 => by
    have := ht.1
    rw [f_X2_takeDigits_c13, ht.2.1, h3, if_neg (nI_ge (by omega) (by omega)), gd_n (show b + k < 96 by omega) (by omega), nI_clamp (by omega), ht.2.2 (b + k) (by omega), C_isDigit, bn_s, b01, h3, gd_n (show b + k < 96 by omega) (by omega), nI_clamp (by omega), ht.2.2 (b + k) (by omega), nm_x, nm_x, scn, h4]
    by_cases c : pD (tp (b + k)) = true
    · rw [if_pos c, if_pos c, xst_self, pk_un (show (4 : Nat) ≠ 6 by omega), h3, nI_1]
      have f1 : c4 h (xst (xst h 21 6 (dgC tp b k * 10 + tp (b + k) - 48)) 21 4 (nI (b + k + 1))) := (c4.st (by omega)).tr (.st (by omega))
      obtain ⟨h', i1, i2, i3, i4, i5⟩ := C_dig (v := v) (b := b) m (k + 1) f (xst (xst h 21 6 (dgC tp b k * 10 + tp (b + k) - 48)) 21 4 (nI (b + k + 1))) (by omega) (by omega) (ht.c4 f1) (by rw [xst_self, pk_us, Nat.add_assoc]) (by rw [xst_self, pk_un (by omega), xst_self, pk_us, dgC])
      exact ⟨h', i1, i2, i3, by rw [i4, xst_self, pk_un (by omega), xst_self, pk_un (by omega)], f1.tr i5⟩
    · rw [if_neg c, if_neg c]
      exact ⟨h, rfl, h3, by rw [Nat.add_sub_cancel_left]; exact h4, rfl, c4.rf⟩
theorem M_dig {tp : Nat → Int32} {T b : Nat} {v : Int32} : ∀ m k f (h : xH), b + k + m = T → m < f → TM tp T h → h 0 16 = nI b → h 0 17 = nI (b + k) → h 0 19 = dgM tp b k → ∃ h', f_X7_nextToken_c214 f v h = (if v = 0 then (if nI (scn pD tp m (b + k) - b) ≤ 4 then some (0, xst h' 0 18 2) else some (0, xst h' 0 18 4)) else some (0, xst h' 0 18 4)) ∧ h' 0 17 = nI (scn pD tp m (b + k)) ∧ h' 0 19 = dgM tp b (scn pD tp m (b + k) - b) ∧ h' 0 16 = nI b ∧ m5 h h'
  | m, k, 0, h, _, h2, _, _, _, _ => absurd h2 (Nat.not_lt_zero _)
  | 0, k, f + 1, h, h1, _, ht, h16, h3, h4 => by
    have hs : b + k = T := by omega
    refine ⟨h, ?_, h3, ?_, h16, m5.rf⟩
    · rw [f_X7_nextToken_c214, h3, hs, M_isDigit0 ht, bn_s, if_pos rfl, h3, h16, scn, ← hs, nI_sub (by omega)]
      rfl
    · rw [scn, Nat.add_sub_cancel_left]; exact h4
  | m + 1, k, f + 1, h, h1, h2, ht, h16, h3, h4 => by
    have := ht.1
    rw [f_X7_nextToken_c214, h3, M_isDigit ht (show b + k < T by omega), bn_s, b01, h3, h16, nI_sub (by omega), Nat.add_sub_cancel_left, scn]
    by_cases c : pD (tp (b + k)) = true
    · rw [if_pos c, if_pos c, gd_n (show b + k < 96 by omega) (by omega), nI_clamp (show b + k < 2 ^ 31 by omega), ht.2.2, h4]
      have key : ∀ s0 : Int32, s0 = dgM tp b (k + 1) → ∃ h', f_X7_nextToken_c266 (f_X7_nextToken_c214 f) v s0 h = (if v = 0 then (if nI (scn pD tp m (b + k + 1) - b) ≤ 4 then some (0, xst h' 0 18 2) else some (0, xst h' 0 18 4)) else some (0, xst h' 0 18 4)) ∧ h' 0 17 = nI (scn pD tp m (b + k + 1)) ∧ h' 0 19 = dgM tp b (scn pD tp m (b + k + 1) - b) ∧ h' 0 16 = nI b ∧ m5 h h' := by
        intro s0 hs0
        have f1 : m5 h (xst (xst h 0 19 s0) 0 17 (nI (b + k + 1))) := (m5.st (by omega)).tr (.st (by omega))
        obtain ⟨h', i1, i2, i3, i4, i5⟩ := M_dig (v := v) (b := b) m (k + 1) f (xst (xst h 0 19 s0) 0 17 (nI (b + k + 1))) (by omega) (by omega) (ht.m5 f1) (by rw [xst_self, pk_un (by omega), xst_self, pk_un (by omega)]; exact h16) (by rw [xst_self, pk_us, Nat.add_assoc]) (by rw [xst_self, pk_un (by omega), xst_self, pk_us]; exact hs0)
        refine ⟨h', ?_, i2, i3, i4, f1.tr i5⟩
        unfold f_X7_nextToken_c266
        rw [nm_x, nm_x, xst_self, pk_un (show (17 : Nat) ≠ 19 by omega), h3, nI_1]
        exact i1
      by_cases c2 : 4 ≤ k
      · rw [if_pos (show (4 : Int32) ≤ nI k from nI_le (a := 4) c2 (by omega))]
        exact key _ (by rw [dgM, if_pos c2])
      · rw [if_neg (show ¬ (4 : Int32) ≤ nI k from nI_ge (b := 4) (by omega) (by omega))]
        exact key _ (by rw [dgM, if_neg c2])
    · rw [if_neg c, if_neg c, nm_x, nm_x, Nat.add_sub_cancel_left]
      exact ⟨h, rfl, h3, h4, h16, m5.rf⟩
theorem dg_eq {tp : Nat → Int32} {b : Nat} : ∀ k, k ≤ 4 → dgM tp b k = dgC tp b k
  | 0, _ => rfl
  | k + 1, h => by rw [dgM, dgC, if_neg (by omega), dg_eq k (by omega), Int32.mul_comm]
theorem dg_rg {tp : Nat → Int32} {b : Nat} : ∀ k, k ≤ 4 → (∀ i, b ≤ i → i < b + k → pD (tp i) = true) → ∃ n, n < 10 ^ k ∧ dgC tp b k = nI n
  | 0, _, _ => ⟨0, by decide, rfl⟩
  | k + 1, h, hd => by
    obtain ⟨n, hn, e⟩ := dg_rg k (by omega) (fun i h1 h2 => hd i h1 (by omega))
    have hk : 10 ^ k ≤ 10 ^ 3 := Nat.pow_le_pow_right (by omega) (by omega)
    have h9 := hd (b + k) (by omega) (by omega)
    unfold pD at h9
    rw [decide_eq_true_eq] at h9
    obtain ⟨c, hc, e2⟩ := in_nI (n := 57) (M := 57) rfl ⟨Int32.le_trans (by decide) h9.1, h9.2⟩
    have hc1 : 48 ≤ c := by
      have := h9.1
      rw [e2] at this
      exact (nI_leI (a := 48) (by omega) (by omega)).mp this
    refine ⟨n * 10 + c - 48, ?_, ?_⟩
    · rw [Nat.pow_succ]; omega
    · rw [dgC, e, e2, show (10 : Int32) = nI 10 from rfl, nI_mul, nI_add, show (48 : Int32) = nI 48 from rfl, nI_sub (by omega)]
