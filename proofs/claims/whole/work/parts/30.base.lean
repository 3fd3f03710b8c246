/-! PHASE 2: the functions that the methods are, and what they answer -/
theorem bn_s {ρ : Type} {a : Int32} {h : xH} {k : Int32 → xH → Option ρ} : bn (some (a, h)) k = k a h := rfl
theorem nm_x {α β : Type} {x : α} {f : α → β} : nm x f = f x := rfl
theorem gd_in {ρ : Type} {i : Int32} {n : Nat} {k : Option ρ} (h : vp_in i n) : gd i n k = k := if_neg h
theorem gd_n {ρ : Type} {j n : Nat} {k : Option ρ} (h : j < n) (hn : n < 2 ^ 31) : gd (nI j) n k = k := gd_in (vp_in_nI h hn)
theorem gS_0 {ρ : Type} {k : Option ρ} : gd 0 3078 k = k := if_neg (by decide)
theorem gS_1 {ρ : Type} {k : Option ρ} : gd 1 3078 k = k := if_neg (by decide)
theorem gS_2 {ρ : Type} {k : Option ρ} : gd 2 3078 k = k := if_neg (by decide)
theorem gS_3 {ρ : Type} {k : Option ρ} : gd 3 3078 k = k := if_neg (by decide)
theorem gS_4 {ρ : Type} {k : Option ρ} : gd 4 3078 k = k := if_neg (by decide)
theorem gS_5 {ρ : Type} {k : Option ρ} : gd 5 3078 k = k := if_neg (by decide)
theorem cN_0 : Int32.toNatClampNeg 0 = 0 := rfl
theorem cN_1 : Int32.toNatClampNeg 1 = 1 := rfl
theorem cN_2 : Int32.toNatClampNeg 2 = 2 := rfl
theorem cN_3 : Int32.toNatClampNeg 3 = 3 := rfl
theorem cN_4 : Int32.toNatClampNeg 4 = 4 := rfl
theorem cN_5 : Int32.toNatClampNeg 5 = 5 := rfl
theorem b01 {ρ : Type} {P : Prop} [Decidable P] {A B : ρ} : (if (if P then (1 : Int32) else 0) = 0 then A else B) = if P then B else A := by
  by_cases h : P
  · rw [if_pos h, if_pos h, if_neg (by decide)]
  · rw [if_neg h, if_neg h, if_pos rfl]
theorem gb01 {ρ : Type} {P : Prop} [Decidable P] {k : Option ρ} : gb (if P then (1 : Int32) else 0) k = k := by
  by_cases h : P
  · rw [if_pos h]; exact if_pos (Or.inr rfl)
  · rw [if_neg h]; exact if_pos (Or.inl rfl)
theorem nI_mul (a b : Nat) : nI a * nI b = nI (a * b) := (Int32.ofNat_mul a b).symm
theorem xst_self {h : xH} {k j : Nat} {v : Int32} : xst h k j v k = upd (h k) j v := by simp [xst, xpt]
theorem xst_ne {h : xH} {k j a : Nat} {v : Int32} (ha : a ≠ k) : xst h k j v a = h a := by simp [xst, xpt, ha]
theorem xpt_self {h : xH} {k : Nat} {c : Nat → Int32} : xpt h k c k = c := by simp [xpt]
theorem xpt_ne {h : xH} {k a : Nat} {c : Nat → Int32} (ha : a ≠ k) : xpt h k c a = h a := by simp [xpt, ha]
theorem xst_at {h : xH} {k j a b : Nat} {v : Int32} : xst h k j v a b = if a = k ∧ b = j then v else h a b := by
  by_cases ha : a = k
  · subst ha
    rw [xst_self]
    by_cases hb : b = j
    · subst hb; rw [pk_us, if_pos ⟨rfl, rfl⟩]
    · rw [pk_un hb, if_neg (fun q => hb q.2)]
  · rw [xst_ne ha, if_neg (fun q => ha q.1)]
/-! numbers -/
def rg (v : Int32) (m : Int) : Prop := 0 ≤ v.toInt ∧ v.toInt ≤ m
theorem rg_nI {v : Int32} {m : Int} (h : rg v m) : ∃ j : Nat, (j : Int) ≤ m ∧ j < 2 ^ 31 ∧ v = nI j := by
  obtain ⟨j, hj, rfl⟩ := nI_of (x := v) (by rw [Int32.lt_iff_toInt_lt]; have := h.1; simpa using this)
  exact ⟨j, by have := h.2; rw [nI_toInt hj] at this; exact this, hj, rfl⟩
theorem rg_of {j : Nat} {m : Int} (h : (j : Int) ≤ m) (hj : j < 2 ^ 31) : rg (nI j) m := by
  unfold rg
  rw [nI_toInt hj]
  omega
theorem rg_mono {v : Int32} {m m' : Int} (h : rg v m) (hm : m ≤ m') : rg v m' := ⟨h.1, Int.le_trans h.2 hm⟩
theorem rg_iff {v : Int32} {m : Int} {M : Int32} (hM : M.toInt = m) : (0 ≤ v ∧ v ≤ M) ↔ rg v m := by
  rw [Int32.le_iff_toInt_le, Int32.le_iff_toInt_le, hM]
  rfl
/-! the market's numbers in the class: where the j-th of the reference's row stands in a World -/
def lpj (j : Nat) : Nat := if j < 6 then 0 else if j < 12 then 7 else if j < 18 then 8 else 1 + (j - 18) % 6
def lsj (j : Nat) : Nat := if j < 6 then [10, 11, 14, 12, 13, 15].getD j 0 else if j < 12 then j - 6 else if j < 18 then j - 12 else (j - 18) / 6
theorem lj_inj : ∀ i, i < 78 → ∀ j, j < 78 → lpj i = lpj j → lsj i = lsj j → i = j := by decide +kernel
theorem lj_9 : ∀ i, i < 78 → lpj i < 9 := by decide +kernel
def cntN (σ : Nat → Int32) (k : Int32) : Nat → Int32
  | 0 => -1
  | n + 1 => if σ (78 + 200 * n) = k then nI n else cntN σ k n
def cnt (σ : Nat → Int32) (k : Int32) : Int32 := cntN σ k (σ 1).toNatClampNeg
def WR (h : xH) (w : Nat) (σ : Nat → Int32) : Prop := (∀ j, j < 78 → h (w + lpj j) (lsj j) = σ j) ∧ ∀ k, k < 3 → h (w + 9) k = cnt σ (nI k)
theorem cntN_upd {σ : Nat → Int32} {k : Int32} {j : Nat} {v : Int32} (hj : j < 78) : ∀ n, cntN (upd σ j v) k n = cntN σ k n
  | 0 => rfl
  | n + 1 => by rw [cntN, cntN, cntN_upd hj n, pk_un (by omega)]
theorem cnt_upd {σ : Nat → Int32} {k : Int32} {j : Nat} {v : Int32} (hj : j < 78) (h1 : j ≠ 1) : cnt (upd σ j v) k = cnt σ k := by
  rw [cnt, cnt, cntN_upd hj, pk_un (Ne.symm h1)]
theorem WR.put {h : xH} {w : Nat} {σ : Nat → Int32} (hw : WR h w σ) {j a b : Nat} {v : Int32} (hj : j < 78) (h1 : j ≠ 1) (ha : a = w + lpj j) (hb : b = lsj j) : WR (xst h a b v) w (upd σ j v) := by
  subst ha; subst hb
  refine ⟨fun i hi => ?_, fun k hk => ?_⟩
  · rw [xst_at]
    by_cases hij : i = j
    · subst hij; rw [if_pos ⟨rfl, rfl⟩, pk_us]
    · rw [if_neg (fun q => hij (lj_inj i hi j hj (by omega) q.2)), pk_un hij]
      exact hw.1 i hi
  · rw [xst_at, if_neg (fun q => by have := lj_9 j hj; omega), cnt_upd hj h1]
    exact hw.2 k hk
theorem WR.keep {h h' : xH} {w : Nat} {σ : Nat → Int32} (hw : WR h w σ) (hk : ∀ a, w ≤ a → a < w + 10 → h' a = h a) : WR h' w σ :=
  ⟨fun j hj => by rw [hk _ (by omega) (by have := lj_9 j hj; omega)]; exact hw.1 j hj, fun k hk' => by rw [hk _ (by omega) (by omega)]; exact hw.2 k hk'⟩
theorem WR.days {h : xH} {w : Nat} {σ : Nat → Int32} (hw : WR h w σ) : h w 10 = σ 0 := hw.1 0 (by omega)
theorem WR.texts {h : xH} {w : Nat} {σ : Nat → Int32} (hw : WR h w σ) : h w 11 = σ 1 := hw.1 1 (by omega)
theorem WR.market {h : xH} {w : Nat} {σ : Nat → Int32} (hw : WR h w σ) : h w 14 = σ 2 := hw.1 2 (by omega)
theorem WR.sales {h : xH} {w : Nat} {σ : Nat → Int32} (hw : WR h w σ) : h w 12 = σ 3 := hw.1 3 (by omega)
theorem WR.lost {h : xH} {w : Nat} {σ : Nat → Int32} (hw : WR h w σ) : h w 13 = σ 4 := hw.1 4 (by omega)
theorem WR.z {h : xH} {w : Nat} {σ : Nat → Int32} (hw : WR h w σ) : h w 15 = σ 5 := hw.1 5 (by omega)
theorem lj_p (p : Nat) (hp : p < 6) : lpj (6 + p) = 7 ∧ lsj (6 + p) = p ∧ lpj (12 + p) = 8 ∧ lsj (12 + p) = p := by
  unfold lpj lsj
  refine ⟨?_, ?_, ?_, ?_⟩
  · rw [if_neg (by omega), if_pos (by omega)]
  · rw [if_neg (by omega), if_pos (by omega)]; omega
  · rw [if_neg (by omega), if_neg (by omega), if_pos (by omega)]
  · rw [if_neg (by omega), if_neg (by omega), if_pos (by omega)]; omega
theorem lj_d (d k : Nat) (hk : k < 6) : lpj (18 + 6 * d + k) = 1 + k ∧ lsj (18 + 6 * d + k) = d := by
  unfold lpj lsj
  refine ⟨?_, ?_⟩
  · rw [if_neg (by omega), if_neg (by omega), if_neg (by omega)]; omega
  · rw [if_neg (by omega), if_neg (by omega), if_neg (by omega)]; omega
theorem WR.coins {h : xH} {w : Nat} {σ : Nat → Int32} (hw : WR h w σ) {p : Nat} (hp : p < 6) : h (w + 7) p = σ (6 + p) := by
  have := hw.1 (6 + p) (by omega)
  rw [(lj_p p hp).1, (lj_p p hp).2.1] at this
  exact this
theorem WR.wish {h : xH} {w : Nat} {σ : Nat → Int32} (hw : WR h w σ) {p : Nat} (hp : p < 6) : h (w + 8) p = σ (12 + p) := by
  have := hw.1 (12 + p) (by omega)
  rw [(lj_p p hp).2.2.1, (lj_p p hp).2.2.2] at this
  exact this
theorem WR.day {h : xH} {w : Nat} {σ : Nat → Int32} (hw : WR h w σ) {d k : Nat} (hd : d < 10) (hk : k < 6) {a : Nat} (ha : a = w + 1 + k) : h a d = σ (18 + 6 * d + k) := by
  have := hw.1 (18 + 6 * d + k) (by omega)
  rw [(lj_d d k hk).1, (lj_d d k hk).2] at this
  rw [ha, ← this]
  congr 1
  omega
theorem WR.putC {h : xH} {w : Nat} {σ : Nat → Int32} (hw : WR h w σ) {p : Nat} {v : Int32} (hp : p < 6) : WR (xst h (w + 7) p v) w (upd σ (6 + p) v) := hw.put (by omega) (by omega) (by rw [(lj_p p hp).1]) (lj_p p hp).2.1.symm
theorem WR.putW {h : xH} {w : Nat} {σ : Nat → Int32} (hw : WR h w σ) {p : Nat} {v : Int32} (hp : p < 6) : WR (xst h (w + 8) p v) w (upd σ (12 + p) v) := hw.put (by omega) (by omega) (by rw [(lj_p p hp).2.2.1]) (lj_p p hp).2.2.2.symm
theorem WR.putD {h : xH} {w : Nat} {σ : Nat → Int32} (hw : WR h w σ) {d k : Nat} {v : Int32} (hd : d < 10) (hk : k < 6) {a : Nat} (ha : a = w + 1 + k) : WR (xst h a d v) w (upd σ (18 + 6 * d + k) v) := hw.put (by omega) (by omega) (by rw [(lj_d d k hk).1, ha]; omega) (lj_d d k hk).2.symm
/-! what every row of the market keeps to -/
def Bnd (σ : Nat → Int32) : Prop := (∃ n, n ≤ 10 ∧ σ 0 = nI n) ∧ (∀ p, p < 6 → rg (σ (6 + p)) 9999 ∧ rg (σ (12 + p)) 9) ∧ ∀ d, d < 10 → rg (σ (18 + 6 * d)) 5 ∧ rg (σ (18 + 6 * d + 1)) 99 ∧ rg (σ (18 + 6 * d + 2)) 9 ∧ rg (σ (18 + 6 * d + 3)) 99 ∧ rg (σ (18 + 6 * d + 4)) 5
theorem Bnd.free {σ : Nat → Int32} (hb : Bnd σ) {j : Nat} {v : Int32} (hj : 1 ≤ j ∧ j < 6 ∨ 78 ≤ j) : Bnd (upd σ j v) := by
  obtain ⟨⟨n, h1, h2⟩, h3, h4⟩ := hb
  refine ⟨⟨n, h1, by rw [pk_un (by omega)]; exact h2⟩, fun p hp => ?_, fun d hd => ?_⟩
  · rw [pk_un (by omega), pk_un (by omega)]; exact h3 p hp
  · rw [pk_un (by omega), pk_un (by omega), pk_un (by omega), pk_un (by omega), pk_un (by omega)]; exact h4 d hd
theorem Bnd.days {σ : Nat → Int32} (hb : Bnd σ) {n : Nat} (hn : n ≤ 10) : Bnd (upd σ 0 (nI n)) := by
  obtain ⟨-, h3, h4⟩ := hb
  refine ⟨⟨n, hn, pk_us⟩, fun p hp => ?_, fun d hd => ?_⟩
  · rw [pk_un (by omega), pk_un (by omega)]; exact h3 p hp
  · rw [pk_un (by omega), pk_un (by omega), pk_un (by omega), pk_un (by omega), pk_un (by omega)]; exact h4 d hd
theorem Bnd.coins {σ : Nat → Int32} (hb : Bnd σ) {p : Nat} {v : Int32} (hp : p < 6) (hv : rg v 9999) : Bnd (upd σ (6 + p) v) := by
  obtain ⟨⟨n, h1, h2⟩, h3, h4⟩ := hb
  refine ⟨⟨n, h1, by rw [pk_un (by omega)]; exact h2⟩, fun q hq => ?_, fun d hd => ?_⟩
  · refine ⟨?_, by rw [pk_un (by omega)]; exact (h3 q hq).2⟩
    by_cases hpq : q = p
    · subst hpq; rw [pk_us]; exact hv
    · rw [pk_un (by omega)]; exact (h3 q hq).1
  · rw [pk_un (by omega), pk_un (by omega), pk_un (by omega), pk_un (by omega), pk_un (by omega)]; exact h4 d hd
theorem Bnd.wish {σ : Nat → Int32} (hb : Bnd σ) {p : Nat} {v : Int32} (hp : p < 6) (hv : rg v 9) : Bnd (upd σ (12 + p) v) := by
  obtain ⟨⟨n, h1, h2⟩, h3, h4⟩ := hb
  refine ⟨⟨n, h1, by rw [pk_un (by omega)]; exact h2⟩, fun q hq => ?_, fun d hd => ?_⟩
  · refine ⟨by rw [pk_un (by omega)]; exact (h3 q hq).1, ?_⟩
    by_cases hpq : q = p
    · subst hpq; rw [pk_us]; exact hv
    · rw [pk_un (by omega)]; exact (h3 q hq).2
  · rw [pk_un (by omega), pk_un (by omega), pk_un (by omega), pk_un (by omega), pk_un (by omega)]; exact h4 d hd
def bdk : Nat → Int := fun k => [5, 99, 9, 99, 5].getD k 0
theorem Bnd.dd {σ : Nat → Int32} (hb : Bnd σ) {d k : Nat} (hd : d < 10) (hk : k < 5) : rg (σ (18 + 6 * d + k)) (bdk k) := by
  obtain ⟨-, -, h4⟩ := hb
  obtain ⟨a, b, c, e, f⟩ := h4 d hd
  match k, hk with
  | 0, _ => exact a
  | 1, _ => exact b
  | 2, _ => exact c
  | 3, _ => exact e
  | 4, _ => exact f
theorem Bnd.mk' {σ : Nat → Int32} (h1 : ∃ n, n ≤ 10 ∧ σ 0 = nI n) (h2 : ∀ p, p < 6 → rg (σ (6 + p)) 9999 ∧ rg (σ (12 + p)) 9) (h3 : ∀ d, d < 10 → ∀ k, k < 5 → rg (σ (18 + 6 * d + k)) (bdk k)) : Bnd σ :=
  ⟨h1, h2, fun d hd => ⟨h3 d hd 0 (by omega), h3 d hd 1 (by omega), h3 d hd 2 (by omega), h3 d hd 3 (by omega), h3 d hd 4 (by omega)⟩⟩
theorem Bnd.day {σ : Nat → Int32} (hb : Bnd σ) {d k : Nat} {v : Int32} (hk : k < 6) (hv : k < 5 → rg v (bdk k)) : Bnd (upd σ (18 + 6 * d + k) v) := by
  have hb' := hb
  obtain ⟨⟨n, h1, h2⟩, h3, h4⟩ := hb
  refine Bnd.mk' ⟨n, h1, by rw [pk_un (by omega)]; exact h2⟩ (fun q hq => ?_) (fun e he q hq => ?_)
  · rw [pk_un (by omega), pk_un (by omega)]; exact h3 q hq
  · by_cases hpq : 18 + 6 * e + q = 18 + 6 * d + k
    · rw [hpq, pk_us]
      have : q = k := by omega
      subst this
      exact hv hq
    · rw [pk_un hpq]; exact hb'.dd he hq
