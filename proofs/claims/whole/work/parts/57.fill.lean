/-! sets as numbers -/
theorem nI_or (a b : Nat) : nI a ||| nI b = nI (a ||| b) := Int32.toBitVec_inj.mp (show BitVec.ofNat 32 a ||| BitVec.ofNat 32 b = BitVec.ofNat 32 (a ||| b) from BitVec.ofNat_or.symm)
theorem nI_and (a b : Nat) : nI a &&& nI b = nI (a &&& b) := Int32.toBitVec_inj.mp (show BitVec.ofNat 32 a &&& BitVec.ofNat 32 b = BitVec.ofNat 32 (a &&& b) from BitVec.ofNat_and.symm)
theorem one_sh : ∀ o, o < 11 → (1 : Int32) <<< (nI o &&& 31) = nI (2 ^ o) := by decide +kernel
theorem tb_sh : ∀ m, m < 1024 → ∀ i, i < 10 → (nI m >>> (nI i &&& 31)) &&& 1 = if m.testBit i = true then 1 else 0 := by decide +kernel
theorem and1 (x y : Int32) : (x &&& y) &&& 1 = (x &&& 1) &&& (y &&& 1) := by
  apply Int32.toBitVec_inj.mp
  apply BitVec.eq_of_getLsbD_eq
  intro i hi
  simp only [Int32.toBitVec_and, BitVec.getLsbD_and]
  generalize BitVec.getLsbD x.toBitVec i = p
  generalize BitVec.getLsbD y.toBitVec i = q
  generalize BitVec.getLsbD (Int32.toBitVec 1) i = r
  revert p q r
  decide
theorem and_0 {a b : Nat} : a &&& b = 0 ↔ ∀ i, ¬ (a.testBit i = true ∧ b.testBit i = true) := by
  constructor
  · intro h i q
    have := congrArg (fun z => z.testBit i) h
    simp only [Nat.testBit_and, q.1, q.2, Nat.zero_testBit] at this
    exact absurd this (by decide)
  · intro h
    apply Nat.eq_of_testBit_eq
    intro i
    rw [Nat.testBit_and, Nat.zero_testBit]
    have := h i
    cases e1 : a.testBit i <;> cases e2 : b.testBit i
    · rfl
    · rfl
    · rfl
    · exact absurd ⟨e1, e2⟩ this
theorem tb_out {s N i : Nat} (hs : s < 2 ^ N) (hi : N ≤ i) : s.testBit i = false := Nat.testBit_lt_two_pow (Nat.lt_of_lt_of_le hs (Nat.pow_le_pow_right (by omega) hi))
/-- the sum over a set -/
def sF (row : Nat → Int32) (s : Nat) : Nat → Int32
  | 0 => 0
  | d + 1 => if s.testBit d = true then sF row s d + row d else sF row s d
theorem sF_cg {row row' : Nat → Int32} {s : Nat} : ∀ d, (∀ j, j < d → row' j = row j) → sF row' s d = sF row s d
  | 0, _ => rfl
  | d + 1, h => by rw [sF, sF, sF_cg d (fun j hj => h j (by omega)), h d (by omega)]
theorem sF_cut {row : Nat → Int32} {s N : Nat} (hs : s < 2 ^ N) : ∀ k, sF row s (N + k) = sF row s N
  | 0 => rfl
  | k + 1 => by rw [← Nat.add_assoc, sF, tb_out hs (by omega), if_neg (by decide), sF_cut hs k]
theorem sF_z {row : Nat → Int32} : ∀ d, sF row 0 d = 0
  | 0 => rfl
  | d + 1 => by rw [sF, Nat.zero_testBit, if_neg (by decide), sF_z d]
theorem C_sum_l {h : xH} {a s : Nat} (hs : s < 1024) : ∀ m d f, d + m = 10 → m < f → f_X6_sumOver_c4 a 10 (nI s) f (sF (h a) s d) (nI d) h = some (sF (h a) s 10, h)
  | m, d, 0, _, h2 => absurd h2 (Nat.not_lt_zero _)
  | 0, d, f + 1, h1, _ => by rw [f_X6_sumOver_c4, if_pos (show Int32.ofNat 10 ≤ nI d from nI_le (a := 10) (by omega) (by omega)), show d = 10 by omega]
  | m + 1, d, f + 1, h1, h2 => by
    have ih := C_sum_l (h := h) (a := a) hs m (d + 1) f (by omega) (by omega)
    rw [f_X6_sumOver_c4, if_neg (show ¬ Int32.ofNat 10 ≤ nI d from nI_ge (b := 10) (by omega) (by omega)), tb_sh s hs d (by omega), gd_n (show d < 10 by omega) (by omega), nI_clamp (by omega), nm_x]
    unfold f_X6_sumOver_c24
    rw [nI_1, b01]
    rw [sF] at ih
    by_cases c : s.testBit d = true
    · rw [if_pos c] at ih ⊢; exact ih
    · rw [if_neg c] at ih ⊢; exact ih
theorem C_sum {h : xH} {a s : Nat} (hs : s < 1024) : f_X6_sumOver a 10 (nI s) h = some (sF (h a) s 10, h) := C_sum_l hs 10 0 xN (by omega) (by unfold xN; omega)
theorem i11 {ρ : Type} {P : Prop} [Decidable P] {A B : ρ} : (if (if P then (1 : Int32) else 0) = 1 then A else B) = if P then A else B := by
  by_cases h : P
  · rw [if_pos h, if_pos h, if_pos rfl]
  · rw [if_neg h, if_neg h, if_neg (by decide)]
theorem M_vals_l {h : xH} {s N : Nat} (hs : s < 1024) (h0 : h 1 0 = nI N) (hN : N ≤ 10) : ∀ m d f, d + m = N → m < f → f_X7_valuesOf_c4 (nI s) f (sF (h 12) s d) (nI d) h = some (sF (h 12) s N, h)
  | m, d, 0, _, h2 => absurd h2 (Nat.not_lt_zero _)
  | 0, d, f + 1, h1, _ => by rw [f_X7_valuesOf_c4, gS_0, cN_0, h0, if_pos (nI_le (by omega) (by omega)), show d = N by omega]
  | m + 1, d, f + 1, h1, h2 => by
    have ih := M_vals_l (h := h) hs h0 hN m (d + 1) f (by omega) (by omega)
    rw [f_X7_valuesOf_c4, gS_0, cN_0, h0, if_neg (nI_ge (by omega) (by omega)), tb_sh s hs d (by omega), gd_n (show d < 10 by omega) (by omega), nI_clamp (by omega)]
    unfold f_X7_valuesOf_c34
    rw [nI_1, i11, Int32.add_zero]
    rw [sF] at ih
    by_cases c : s.testBit d = true
    · rw [if_pos c] at ih ⊢; exact ih
    · rw [if_neg c] at ih ⊢; exact ih
theorem M_vals {h : xH} {s N : Nat} (hs : s < 1024) (h0 : h 1 0 = nI N) (hN : N ≤ 10) : f_X7_valuesOf (nI s) h = some (sF (h 12) s N, h) := M_vals_l hs h0 hN N 0 xN (by omega) (by unfold xN; omega)
def jo (σ : Nat → Int32) (p d : Nat) : Int32 := 10 - ofA (σ (18 + 6 * d + 2)) (σ (12 + p))
theorem M_joy {h : xH} {p d : Nat} (hp : p < 6) (hd : d < 10) : f_X7_joy (nI p) (nI d) h = some (jo (h 1) p d, h) := by
  rw [f_X7_joy, M_of (j := 2) (k := 2) rfl hd (by omega), bn_s, ixw, gd_n (by omega) (by omega), nI_clamp (by omega), M_off, bn_s]
  rfl
theorem M_joys_l {h : xH} {s N p : Nat} (hp : p < 6) (hs : s < 1024) (h0 : h 1 0 = nI N) (hN : N ≤ 10) : ∀ m d f, d + m = N → m < f → f_X7_joyOf_c5 (nI p) (nI s) f (sF (jo (h 1) p) s d) (nI d) h = some (sF (jo (h 1) p) s N, h)
  | m, d, 0, _, h2 => absurd h2 (Nat.not_lt_zero _)
  | 0, d, f + 1, h1, _ => by rw [f_X7_joyOf_c5, gS_0, cN_0, h0, if_pos (nI_le (by omega) (by omega)), show d = N by omega]
  | m + 1, d, f + 1, h1, h2 => by
    have ih := M_joys_l (h := h) hp hs h0 hN m (d + 1) f (by omega) (by omega)
    rw [f_X7_joyOf_c5, gS_0, cN_0, h0, if_neg (nI_ge (by omega) (by omega)), tb_sh s hs d (by omega), M_joy hp (by omega), bn_s]
    unfold f_X7_joyOf_c38
    rw [nI_1, i11, Int32.add_zero]
    rw [sF] at ih
    by_cases c : s.testBit d = true
    · rw [if_pos c] at ih ⊢; exact ih
    · rw [if_neg c] at ih ⊢; exact ih
theorem M_joys {h : xH} {s N p : Nat} (hp : p < 6) (hs : s < 1024) (h0 : h 1 0 = nI N) (hN : N ≤ 10) : f_X7_joyOf (nI p) (nI s) h = some (sF (jo (h 1) p) s N, h) := M_joys_l hp hs h0 hN N 0 xN (by omega) (by unfold xN; omega)
/-! what cannot stand together -/
def OWN (σ : Nat → Int32) (p N s : Nat) : Prop := ∀ d, d < N → s.testBit d = true → ¬ σ (18 + 6 * d + 4) = nI p
def APT (σ : Nat → Int32) (N s a : Nat) : Prop := ∀ d e, a ≤ d → d < e → e < N → s.testBit d = true → s.testBit e = true → ¬ σ (18 + 6 * d + 1) = σ (18 + 6 * e + 1)
theorem two_b {P Q : Prop} [Decidable P] [Decidable Q] : ((if P then (1 : Int32) else 0) &&& (if Q then 1 else 0)) = if P ∧ Q then 1 else 0 := by
  by_cases h : P <;> by_cases h2 : Q <;> simp [h, h2]
theorem M_ap_in {K : Int32 → xH → Option (Int32 × xH)} {h : xH} {s N d : Nat} (hs : s < 1024) (hd : d < N) (h0 : h 1 0 = nI N) (hN : N ≤ 10) : ∀ m e f, e + m = N → m < f → (f_X7_areApart_c16 K (nI s) f (nI d) (nI e) h = some (0, h) ∧ ∃ e', e ≤ e' ∧ e' < N ∧ s.testBit d = true ∧ s.testBit e' = true ∧ h 1 (18 + 6 * d + 1) = h 1 (18 + 6 * e' + 1)) ∨ (f_X7_areApart_c16 K (nI s) f (nI d) (nI e) h = K (nI (d + 1)) h ∧ ∀ e', e ≤ e' → e' < N → s.testBit d = true → s.testBit e' = true → ¬ h 1 (18 + 6 * d + 1) = h 1 (18 + 6 * e' + 1))
  | m, e, 0, _, h2 => absurd h2 (Nat.not_lt_zero _)
  | 0, e, f + 1, h1, _ => by
    refine Or.inr ⟨?_, fun e' h3 h4 => absurd h4 (by omega)⟩
    rw [f_X7_areApart_c16, gS_0, cN_0, h0, if_pos (nI_le (by omega) (by omega)), nI_1]
  | m + 1, e, f + 1, h1, h2 => by
    have ih := M_ap_in (K := K) (h := h) hs hd h0 hN m (e + 1) f (by omega) (by omega)
    rw [f_X7_areApart_c16, gS_0, cN_0, h0, if_neg (nI_ge (by omega) (by omega)), and1, tb_sh s hs d (by omega), tb_sh s hs e (by omega), two_b, i11, M_of (j := 1) (k := 1) rfl (by omega) (by omega), bn_s, M_of (j := 1) (k := 1) rfl (by omega) (by omega), bn_s]
    unfold f_X7_areApart_c56
    rw [nI_1]
    have nx : (¬ (s.testBit d = true ∧ s.testBit e = true) ∨ ¬ h 1 (18 + 6 * d + 1) = h 1 (18 + 6 * e + 1)) → (f_X7_areApart_c16 K (nI s) f (nI d) (nI (e + 1)) h = some (0, h) ∧ ∃ e', e ≤ e' ∧ e' < N ∧ s.testBit d = true ∧ s.testBit e' = true ∧ h 1 (18 + 6 * d + 1) = h 1 (18 + 6 * e' + 1)) ∨ (f_X7_areApart_c16 K (nI s) f (nI d) (nI (e + 1)) h = K (nI (d + 1)) h ∧ ∀ e', e ≤ e' → e' < N → s.testBit d = true → s.testBit e' = true → ¬ h 1 (18 + 6 * d + 1) = h 1 (18 + 6 * e' + 1)) := by
      intro hx
      rcases ih with ⟨i1, e', i2, i3⟩ | ⟨i1, i2⟩
      · exact Or.inl ⟨i1, e', by omega, i3⟩
      · refine Or.inr ⟨i1, fun e' q1 q2 q3 q4 => ?_⟩
        by_cases c : e' = e
        · subst c
          rcases hx with hx | hx
          · exact absurd ⟨q3, q4⟩ hx
          · exact hx
        · exact i2 e' (by omega) q2 q3 q4
    by_cases c : s.testBit d = true ∧ s.testBit e = true
    · rw [if_pos c]
      by_cases c2 : h 1 (18 + 6 * d + 1) = h 1 (18 + 6 * e + 1)
      · rw [if_pos c2]
        exact Or.inl ⟨rfl, e, Nat.le_refl _, by omega, c.1, c.2, c2⟩
      · rw [if_neg c2]
        exact nx (Or.inr c2)
    · rw [if_neg c]
      exact nx (Or.inl c)
theorem M_ap_l {h : xH} {s N : Nat} (hs : s < 1024) (h0 : h 1 0 = nI N) (hN : N ≤ 10) : ∀ m d f, d + m = N → m < f → (f_X7_areApart_c2 (nI s) f (nI d) h = some (0, h) ∧ ¬ APT (h 1) N s d) ∨ (f_X7_areApart_c2 (nI s) f (nI d) h = some (1, h) ∧ APT (h 1) N s d)
  | m, d, 0, _, h2 => absurd h2 (Nat.not_lt_zero _)
  | 0, d, f + 1, h1, _ => by
    refine Or.inr ⟨?_, fun d' e h3 h4 h5 => absurd h5 (by omega)⟩
    rw [f_X7_areApart_c2, gS_0, cN_0, h0, if_pos (nI_le (by omega) (by omega))]
  | m + 1, d, f + 1, h1, h2 => by
    rw [f_X7_areApart_c2, gS_0, cN_0, h0, if_neg (nI_ge (by omega) (by omega)), nI_1]
    rcases M_ap_in (K := f_X7_areApart_c2 (nI s) f) (h := h) hs (show d < N by omega) h0 hN m (d + 1) xN (by omega) (by unfold xN; omega) with ⟨i1, e', i2, i3, i4, i5, i6⟩ | ⟨i1, i2⟩
    · exact Or.inl ⟨i1, fun q => q d e' (Nat.le_refl _) (by omega) i3 i4 i5 i6⟩
    · rw [i1]
      rcases M_ap_l (h := h) hs h0 hN m (d + 1) f (by omega) (by omega) with ⟨j1, j2⟩ | ⟨j1, j2⟩
      · exact Or.inl ⟨j1, fun q => j2 (fun d' e h3 h4 h5 => q d' e (by omega) h4 h5)⟩
      · refine Or.inr ⟨j1, fun d' e h3 h4 h5 h6 h7 => ?_⟩
        by_cases c : d' = d
        · subst c; exact i2 e (by omega) h5 h6 h7
        · exact j2 d' e (by omega) h4 h5 h6 h7
theorem M_ap {h : xH} {s N : Nat} (hs : s < 1024) (h0 : h 1 0 = nI N) (hN : N ≤ 10) : ∃ r : Int32, f_X7_areApart (nI s) h = some (r, h) ∧ (r = 0 ↔ ¬ APT (h 1) N s 0) := by
  rcases M_ap_l (h := h) hs h0 hN N 0 xN (by omega) (by unfold xN; omega) with ⟨j1, j2⟩ | ⟨j1, j2⟩
  · exact ⟨0, j1, fun _ => j2, fun _ => rfl⟩
  · exact ⟨1, j1, fun q => absurd q (by decide), fun q => absurd j2 q⟩
theorem own_iff {σ : Nat → Int32} {p N s : Nat} (hs : s < 2 ^ N) (hN : N ≤ 10) : (nI s &&& dOf σ (nI p) N) = 0 ↔ OWN σ p N s := by
  rw [dOf_nI N hN, nI_and]
  have hl : s &&& dB σ (nI p) N < 2 ^ 31 := Nat.lt_of_le_of_lt (Nat.and_le_right) (Nat.lt_of_lt_of_le (dB_10 hN) (by decide))
  rw [show (0 : Int32) = nI 0 from rfl, nI_eq hl (by omega), and_0]
  have hb : ∀ d, (dB σ (nI p) N).testBit d = true ↔ d < N ∧ σ (18 + 6 * d + 4) = nI p := by
    intro d
    by_cases c : d < N
    · rw [Nat.testBit_eq_decide_div_mod_eq, decide_eq_true_iff, dB_bit N c]
      exact ⟨fun q => ⟨c, q⟩, fun q => q.2⟩
    · rw [tb_out (dB_lt N) (by omega)]
      exact ⟨fun q => absurd q (by decide), fun q => absurd q.1 c⟩
  constructor
  · intro h d hd h1 h2
    exact h d ⟨h1, (hb d).mpr ⟨hd, h2⟩⟩
  · intro h d q
    have := (hb d).mp q.2
    exact h d this.1 q.1 this.2
/-! what the class keeps of that -/
def kl (σ : Nat → Int32) (p d : Nat) : Nat → Nat
  | 0 => if σ (18 + 6 * d + 4) = nI p then 2 ^ d else 0
  | o + 1 => if σ (18 + 6 * o + 1) = σ (18 + 6 * d + 1) then kl σ p d o ||| 2 ^ o else kl σ p d o
theorem kl_bit {σ : Nat → Int32} {p d i : Nat} : ∀ o, (kl σ p d o).testBit i = true ↔ (σ (18 + 6 * d + 4) = nI p ∧ i = d) ∨ (i < o ∧ σ (18 + 6 * i + 1) = σ (18 + 6 * d + 1))
  | 0 => by
    rw [kl]
    by_cases c : σ (18 + 6 * d + 4) = nI p
    · rw [if_pos c, Nat.testBit_two_pow, decide_eq_true_iff]
      constructor
      · intro q; exact Or.inl ⟨c, q.symm⟩
      · rintro (q | q)
        · exact q.2.symm
        · exact absurd q.1 (Nat.not_lt_zero _)
    · rw [if_neg c, Nat.zero_testBit]
      constructor
      · intro q; exact absurd q (by decide)
      · rintro (q | q)
        · exact absurd q.1 c
        · exact absurd q.1 (Nat.not_lt_zero _)
  | o + 1 => by
    have ih := kl_bit (σ := σ) (p := p) (d := d) (i := i) o
    rw [kl]
    by_cases c : σ (18 + 6 * o + 1) = σ (18 + 6 * d + 1)
    · rw [if_pos c, Nat.testBit_or, Bool.or_eq_true, ih, Nat.testBit_two_pow, decide_eq_true_iff]
      constructor
      · rintro ((q | q) | q)
        · exact Or.inl q
        · exact Or.inr ⟨by omega, q.2⟩
        · subst q; exact Or.inr ⟨by omega, c⟩
      · rintro (q | q)
        · exact Or.inl (Or.inl q)
        · by_cases e : o = i
          · exact Or.inr e
          · exact Or.inl (Or.inr ⟨by omega, q.2⟩)
    · rw [if_neg c, ih]
      constructor
      · rintro (q | q)
        · exact Or.inl q
        · exact Or.inr ⟨by omega, q.2⟩
      · rintro (q | q)
        · exact Or.inl q
        · by_cases e : i = o
          · subst e; exact absurd q.2 c
          · exact Or.inr ⟨by omega, q.2⟩
theorem kl_lt {σ : Nat → Int32} {p d : Nat} (hd : d < 10) : ∀ o, o ≤ 10 → kl σ p d o < 2 ^ 10
  | 0, _ => by
    rw [kl]
    have : 2 ^ d < 2 ^ 10 := Nat.pow_lt_pow_right (by omega) hd
    split <;> omega
  | o + 1, ho => by
    rw [kl]
    split
    · exact Nat.or_lt_two_pow (kl_lt hd o (by omega)) (Nat.pow_lt_pow_right (by omega) (by omega))
    · exact kl_lt hd o (by omega)
theorem stand1 {σ : Nat → Int32} {p d s : Nat} (hd : d < 10) (hb : s.testBit d = true) : (nI (kl σ p d d) &&& nI s) = 0 ↔ ¬ σ (18 + 6 * d + 4) = nI p ∧ ∀ e, e < d → s.testBit e = true → ¬ σ (18 + 6 * e + 1) = σ (18 + 6 * d + 1) := by
  have hl : kl σ p d d &&& s < 2 ^ 31 := Nat.lt_of_le_of_lt (Nat.and_le_left) (Nat.lt_of_lt_of_le (kl_lt hd d (by omega)) (by decide))
  rw [nI_and, show (0 : Int32) = nI 0 from rfl, nI_eq hl (by omega), and_0]
  constructor
  · intro h
    refine ⟨fun q => h d ⟨(kl_bit d).mpr (Or.inl ⟨q, rfl⟩), hb⟩, fun e he h1 h2 => h e ⟨(kl_bit d).mpr (Or.inr ⟨he, h2⟩), h1⟩⟩
  · rintro ⟨h1, h2⟩ i ⟨q1, q2⟩
    rcases (kl_bit d).mp q1 with ⟨q, -⟩ | ⟨q, q'⟩
    · exact h1 q
    · exact h2 i q q2 q'
def STD (σ : Nat → Int32) (p N s a : Nat) : Prop := ∀ d, a ≤ d → d < N → s.testBit d = true → ¬ σ (18 + 6 * d + 4) = nI p ∧ ∀ e, e < d → s.testBit e = true → ¬ σ (18 + 6 * e + 1) = σ (18 + 6 * d + 1)
theorem C_std_l {h : xH} {σ : Nat → Int32} {s N p : Nat} (hs : s < 1024) (hN : N ≤ 10) (hk : ∀ j, j < N → h 57 j = nI (kl σ p j j)) : ∀ m d f, d + m = N → m < f → (f_X1_canStand_c2 (nI s) (nI N) f (nI d) h = some (0, h) ∧ ¬ STD σ p N s d) ∨ (f_X1_canStand_c2 (nI s) (nI N) f (nI d) h = some (1, h) ∧ STD σ p N s d)
  | m, d, 0, _, h2 => absurd h2 (Nat.not_lt_zero _)
  | 0, d, f + 1, h1, _ => by
    refine Or.inr ⟨?_, fun d' h3 h4 => absurd h4 (by omega)⟩
    rw [f_X1_canStand_c2, if_pos (nI_le (by omega) (by omega))]
  | m + 1, d, f + 1, h1, h2 => by
    have ih := C_std_l (h := h) hs hN hk m (d + 1) f (by omega) (by omega)
    rw [f_X1_canStand_c2, if_neg (nI_ge (by omega) (by omega)), tb_sh s hs d (by omega), b01, gd_n (show d < 10 by omega) (by omega), nI_clamp (by omega), hk d (by omega)]
    unfold f_X1_canStand_c28
    rw [nI_1]
    have nx : (s.testBit d = true → ¬ σ (18 + 6 * d + 4) = nI p ∧ ∀ e, e < d → s.testBit e = true → ¬ σ (18 + 6 * e + 1) = σ (18 + 6 * d + 1)) → (f_X1_canStand_c2 (nI s) (nI N) f (nI (d + 1)) h = some (0, h) ∧ ¬ STD σ p N s d) ∨ (f_X1_canStand_c2 (nI s) (nI N) f (nI (d + 1)) h = some (1, h) ∧ STD σ p N s d) := by
      intro hx
      rcases ih with ⟨i1, i2⟩ | ⟨i1, i2⟩
      · exact Or.inl ⟨i1, fun q => i2 (fun d' q1 q2 q3 => q d' (by omega) q2 q3)⟩
      · refine Or.inr ⟨i1, fun d' q1 q2 q3 => ?_⟩
        by_cases c : d' = d
        · subst c; exact hx q3
        · exact i2 d' (by omega) q2 q3
    by_cases c : s.testBit d = true
    · rw [if_pos c]
      by_cases c2 : (nI (kl σ p d d) &&& nI s) = 0
      · rw [if_pos c2]
        exact nx (fun _ => (stand1 (by omega) c).mp c2)
      · rw [if_neg c2]
        exact Or.inl ⟨rfl, fun q => c2 ((stand1 (by omega) c).mpr (q d (Nat.le_refl _) (by omega) c))⟩
    · rw [if_neg c]
      exact nx (fun q => absurd q c)
theorem std_iff {σ : Nat → Int32} {p N s : Nat} : STD σ p N s 0 ↔ OWN σ p N s ∧ APT σ N s 0 := by
  constructor
  · intro h
    exact ⟨fun d hd hb => (h d (Nat.zero_le _) hd hb).1, fun d e _ hde he hbd hbe => (h e (Nat.zero_le _) he hbe).2 d hde hbd⟩
  · rintro ⟨h1, h2⟩ d _ hd hb
    exact ⟨h1 d hd hb, fun e he hbe => h2 e d (Nat.zero_le _) he hd hbe hb⟩
theorem C_std {h : xH} {σ : Nat → Int32} {s N p : Nat} (hs : s < 1024) (hN : N ≤ 10) (hk : ∀ j, j < N → h 57 j = nI (kl σ p j j)) : ∃ r : Int32, f_X1_canStand (nI s) (nI N) h = some (r, h) ∧ (r = 0 ↔ ¬ (OWN σ p N s ∧ APT σ N s 0)) := by
  rw [← std_iff]
  rcases C_std_l (h := h) hs hN hk N 0 xN (by omega) (by unfold xN; omega) with ⟨j1, j2⟩ | ⟨j1, j2⟩
  · exact ⟨0, j1, fun _ => j2, fun _ => rfl⟩
  · exact ⟨1, j1, fun q => absurd q (by decide), fun q => absurd j2 q⟩
