/-! texts: steps for a stack, as the reference keeps them and as the class does -/
def stp (σ : Nat → Int32) (t k : Nat) : Int32 × Int32 := (σ (82 + 200 * t + 2 * k), σ (83 + 200 * t + 2 * k))
def jn (c x y : Int32) : Int32 := if c = 43 then x + y else if c = 45 then x - y else if c = 42 then x * y else if c = 47 then (if y = 0 then 0 else x / y) else if c = 60 then (if x < y then 1 else 0) else if c = 62 then (if y < x then 1 else 0) else if c = 61 then (if x = y then 1 else 0) else if c = 38 then (if x = 0 then 0 else if y = 0 then 0 else 1) else (if x = 0 then (if y = 0 then 0 else 1) else 1)
def run1 (nf : Int32 → Int32) (q : Int32 × Int32) (st : List Int32) : Option (List Int32) :=
  if q.1 = 2 then (if q.2 = 33 then (match st with
      | [] => none
      | x :: r => some ((if x = 0 then 1 else 0) :: r)) else (match st with
      | y :: x :: r => some (jn q.2 x y :: r)
      | _ => none)) else some ((if q.1 = 0 then q.2 else nf q.2) :: st)
def runs (nf : Int32 → Int32) : List (Int32 × Int32) → List Int32 → Option (List Int32)
  | [], st => some st
  | q :: r, st => (run1 nf q st).bind (runs nf r)
def prog (σ : Nat → Int32) (t n : Nat) : List (Int32 × Int32) := (List.range n).map (stp σ t)
/-- a name of a key, as the class numbers it -/
def nmk (key c : Int32) : Option Int32 := if key = 0 then (if c = 116 then some (-1) else if c = 119 then some (-2) else if c = 100 then some (-3) else none) else if key = 1 then (if c = 120 then some (-1) else if c = 116 then some (-2) else if c = 119 then some (-3) else none) else (if c = 99 then some (-1) else if c = 110 then some (-2) else none)
def isSg (c : Int32) : Prop := c = 33 ∨ c = 38 ∨ c = 42 ∨ c = 43 ∨ c = 45 ∨ c = 47 ∨ c = 60 ∨ c = 61 ∨ c = 62 ∨ c = 124
/-- the class's step for the reference's -/
def enc (key : Int32) (q : Int32 × Int32) (e : Int32) : Prop := (q.1 = 0 ∧ rg q.2 9999 ∧ e = q.2) ∨ (q.1 = 1 ∧ nmk key q.2 = some e) ∨ (q.1 = 2 ∧ isSg q.2 ∧ e = -q.2)
/-- a whole program: it leaves one number more -/
def whl (c : List (Int32 × Int32)) : Prop := ∀ (nf : Int32 → Int32) (st : List Int32), ∃ v, runs nf c st = some (v :: st)
def TX (hc : xH) (σ : Nat → Int32) (t : Nat) : Prop := rg (σ (78 + 200 * t)) 2 ∧ hc 2 t = σ (78 + 200 * t) ∧ hc 3 t = σ (79 + 200 * t) ∧ hc 4 t = σ (80 + 200 * t) ∧ ∃ n : Nat, n ≤ 96 ∧ σ (80 + 200 * t) = nI n ∧ whl (prog σ t n) ∧ ∀ k, k < n → enc (σ (78 + 200 * t)) (stp σ t k) (hc (6 + t) k)
def txN (σ : Nat → Int32) : Nat := (σ 1).toNatClampNeg
def LW (hc : xH) (σ : Nat → Int32) : Prop := (∃ n : Nat, n ≤ 14 ∧ σ 1 = nI n) ∧ ∀ t, t < txN σ → TX hc σ t
theorem txN_of {σ : Nat → Int32} {n : Nat} (hn : n ≤ 14) (h : σ 1 = nI n) : txN σ = n := by rw [txN, h, nI_clamp (by omega)]
theorem LW.le {hc : xH} {σ : Nat → Int32} (h : LW hc σ) : txN σ ≤ 14 ∧ σ 1 = nI (txN σ) := by
  obtain ⟨⟨n, hn, e⟩, -⟩ := h
  rw [txN_of hn e]
  exact ⟨hn, e⟩
theorem TX.cg {hc hc' : xH} {σ σ' : Nat → Int32} {t : Nat} (h : TX hc σ t) (ht : t < 14) (h1 : ∀ a, 2 ≤ a → a < 20 → hc' a = hc a) (h2 : ∀ j, 78 + 200 * t ≤ j → j < 278 + 200 * t → σ' j = σ j) : TX hc' σ' t := by
  obtain ⟨a, b, c, d, n, hn, e, f, g⟩ := h
  have hs : ∀ k, k < n → stp σ' t k = stp σ t k := fun k hk => by
    unfold stp
    rw [h2 _ (by omega) (by omega), h2 _ (by omega) (by omega)]
  have hp : prog σ' t n = prog σ t n := List.map_congr_left (fun k hk => hs k (List.mem_range.mp hk))
  refine ⟨by rw [h2 _ (by omega) (by omega)]; exact a, by rw [h2 _ (by omega) (by omega), h1 _ (by omega) (by omega)]; exact b, by rw [h2 _ (by omega) (by omega), h1 _ (by omega) (by omega)]; exact c, by rw [h2 _ (by omega) (by omega), h1 _ (by omega) (by omega)]; exact d, n, hn, by rw [h2 _ (by omega) (by omega)]; exact e, by rw [hp]; exact f, fun k hk => ?_⟩
  rw [hs k hk, h2 _ (by omega) (by omega), h1 _ (by omega) (by omega)]
  exact g k hk
theorem LW.cg {hc hc' : xH} {σ σ' : Nat → Int32} (h : LW hc σ) (h1 : ∀ a, 2 ≤ a → a < 20 → hc' a = hc a) (h2 : ∀ j, j = 1 ∨ 78 ≤ j → σ' j = σ j) : LW hc' σ' := by
  obtain ⟨n, hn⟩ := h
  have ht : txN σ' = txN σ := by rw [txN, txN, h2 1 (Or.inl rfl)]
  have hle := (LW.le (hc := hc) ⟨n, hn⟩).1
  refine ⟨by rw [h2 1 (Or.inl rfl)]; exact n, fun t htt => ?_⟩
  rw [ht] at htt
  exact (hn t htt).cg (by omega) h1 (fun j hj _ => h2 j (Or.inr (by omega)))
/-! the relation between the class's heap and the reference's -/
def RW (hc hm : xH) : Prop := WR hc 24 (hm 1) ∧ Bnd (hm 1) ∧ rg (hm 1 2) 9999 ∧ LW hc (hm 1)
def RK (hc hm : xH) : Prop := (hm 0 3 = 0 ∧ hc 0 11 = 0) ∨ (hm 0 3 = 1 ∧ hc 0 11 = 1 ∧ WR hc 34 (hm 2) ∧ Bnd (hm 2) ∧ rg (hm 2 2) 9999 ∧ LW hc (hm 2) ∧ txN (hm 2) ≤ txN (hm 1))
def RT (hc hm : xH) : Prop := (∃ n : Nat, n ≤ 96 ∧ hc 21 2 = nI n ∧ hm 0 15 = nI n) ∧ ∀ i, i < 96 → hc 22 i = hm 14 i ∧ rg (hm 14 i) 255
/-- a sheet's number: none, or not large -/
def vok (v : Int32) : Prop := v = -1000000005 ∨ (-99999 ≤ v.toInt ∧ v.toInt ≤ 99999)
def RS (hc hm : xH) : Prop := (∀ k, k < 4 → hc (60 + 2 * k) 1 = hm 4 k ∧ hc (60 + 2 * k) 2 = hm 5 k ∧ (hm 4 k = -1 ∨ hm 4 k = 0 ∨ hm 4 k = 1) ∧ rg (hm 5 k) 24 ∧ ∀ i, i < 24 → hc (61 + 2 * k) i = hm 6 (24 * k + i)) ∧ ∀ j, j < 96 → vok (hm 6 j)
def wthF (k d : Int32) : Int32 := if k = 1 then d + 7 else if k = 2 then 99 - d else if k = 3 then 2 * (d + 7) else if k = 4 then 96 - d else if k = 5 then 6 else d
def RQ (hc hm : xH) : Prop := ∀ k, k < 5 → hc (69 + 3 * k) 1 = hm 7 k ∧ (hm 7 k = 0 ∨ hm 7 k = 1 ∨ hm 7 k = 2 ∨ hm 7 k = 3) ∧ (hm 7 k = 1 → hc (69 + 3 * k) 2 = hm 8 k ∧ rg (hm 8 k) 5 ∧ hm 9 k = wthF (hc (69 + 3 * k) 2) (hc (69 + 3 * k) 3)) ∧ (hm 7 k = 2 → hc (70 + 3 * k) 2 = hm 10 k ∧ rg (hm 10 k) 24 ∧ ∀ i, i < 24 → hc (71 + 3 * k) i = hm 11 (24 * k + i)) ∧ (hm 7 k = 3 → hc (69 + 3 * k) 4 = hm 8 k)
def RY (hc hm : xH) : Prop := ∃ n : Nat, n ≤ 60 ∧ hc 0 10 = nI n ∧ hm 0 30 = nI n ∧ ∀ i, i < 60 → hc 84 i = hm 18 i
def Rl (hc hm : xH) : Prop := RW hc hm ∧ RK hc hm ∧ RT hc hm ∧ RS hc hm ∧ RQ hc hm ∧ RY hc hm
theorem RW.cg {hc hc' hm hm' : xH} (h : RW hc hm) (h1 : ∀ a, (2 ≤ a ∧ a < 20) ∨ (24 ≤ a ∧ a < 34) → hc' a = hc a) (h2 : hm' 1 = hm 1) : RW hc' hm' := by
  obtain ⟨a, b, c, d⟩ := h
  unfold RW
  rw [h2]
  exact ⟨a.keep (fun q q1 q2 => h1 q (Or.inr ⟨q1, q2⟩)), b, c, d.cg (fun q q1 q2 => h1 q (Or.inl ⟨q1, q2⟩)) (fun _ _ => rfl)⟩
theorem RK.cg {hc hc' hm hm' : xH} (h : RK hc hm) (h0 : hc' 0 11 = hc 0 11) (h1 : ∀ a, (2 ≤ a ∧ a < 20) ∨ (34 ≤ a ∧ a < 44) → hc' a = hc a) (h2 : hm' 0 3 = hm 0 3) (h3 : hm' 2 = hm 2) (h4 : txN (hm 1) ≤ txN (hm' 1)) : RK hc' hm' := by
  unfold RK
  rw [h0, h2, h3]
  rcases h with h | ⟨a, b, c, d, e, f, g⟩
  · exact Or.inl h
  · exact Or.inr ⟨a, b, c.keep (fun q q1 q2 => h1 q (Or.inr ⟨q1, q2⟩)), d, e, f.cg (fun q q1 q2 => h1 q (Or.inl ⟨q1, q2⟩)) (fun _ _ => rfl), Nat.le_trans g h4⟩
theorem RT.cg {hc hc' hm hm' : xH} (h : RT hc hm) (h0 : hc' 21 2 = hc 21 2) (h1 : hc' 22 = hc 22) (h2 : hm' 0 15 = hm 0 15) (h3 : hm' 14 = hm 14) : RT hc' hm' := by
  unfold RT
  rw [h0, h1, h2, h3]
  exact h
theorem RS.cg {hc hc' hm hm' : xH} (h : RS hc hm) (h1 : ∀ a, 60 ≤ a → a < 68 → hc' a = hc a) (h2 : hm' 4 = hm 4) (h3 : hm' 5 = hm 5) (h4 : hm' 6 = hm 6) : RS hc' hm' := by
  refine ⟨fun k hk => ?_, by rw [h4]; exact h.2⟩
  rw [h2, h3, h4, h1 _ (by omega) (by omega), h1 _ (by omega) (by omega)]
  exact h.1 k hk
theorem RQ.cg {hc hc' hm hm' : xH} (h : RQ hc hm) (h1 : ∀ a, 69 ≤ a → a < 84 → hc' a = hc a) (h2 : hm' 7 = hm 7) (h3 : hm' 8 = hm 8) (h4 : hm' 9 = hm 9) (h5 : hm' 10 = hm 10) (h6 : hm' 11 = hm 11) : RQ hc' hm' := by
  intro k hk
  rw [h2, h3, h4, h5, h6, h1 _ (by omega) (by omega), h1 _ (by omega) (by omega), h1 _ (by omega) (by omega)]
  exact h k hk
theorem RY.cg {hc hc' hm hm' : xH} (h : RY hc hm) (h0 : hc' 0 10 = hc 0 10) (h1 : hc' 84 = hc 84) (h2 : hm' 0 30 = hm 0 30) (h3 : hm' 18 = hm 18) : RY hc' hm' := by
  unfold RY
  rw [h0, h1, h2, h3]
  exact h
/-- nothing but scratch has changed -/
def cS (hc hc' : xH) : Prop := ∀ a, a ≠ 20 → a ≠ 23 → ¬ (44 ≤ a ∧ a < 54) → ¬ (55 ≤ a ∧ a < 59) → hc' a = hc a
def mS (hm hm' : xH) : Prop := ∀ a, a ≠ 3 → a ≠ 12 → a ≠ 13 → a ≠ 15 → a ≠ 16 → a ≠ 17 → a ≠ 19 → hm' a = hm a
theorem cS.rf {hc : xH} : cS hc hc := fun _ _ _ _ _ => rfl
theorem mS.rf {hm : xH} : mS hm hm := fun _ _ _ _ _ _ _ _ => rfl
theorem cS.tr {a b c : xH} (h1 : cS a b) (h2 : cS b c) : cS a c := fun q q1 q2 q3 q4 => (h2 q q1 q2 q3 q4).trans (h1 q q1 q2 q3 q4)
theorem mS.tr {a b c : xH} (h1 : mS a b) (h2 : mS b c) : mS a c := fun q q1 q2 q3 q4 q5 q6 q7 => (h2 q q1 q2 q3 q4 q5 q6 q7).trans (h1 q q1 q2 q3 q4 q5 q6 q7)
theorem Rl.scr {hc hc' hm hm' : xH} (h : Rl hc hm) (h1 : cS hc hc') (h2 : mS hm hm') : Rl hc' hm' := by
  obtain ⟨a, b, c, d, e, f⟩ := h
  have c0 : ∀ q, q < 20 ∨ (21 ≤ q ∧ q < 23) ∨ (24 ≤ q ∧ q < 44) ∨ q = 54 ∨ 59 ≤ q → hc' q = hc q := fun q hq => h1 q (by omega) (by omega) (by omega) (by omega)
  have m0 : ∀ q, q < 3 ∨ (4 ≤ q ∧ q < 12) ∨ q = 14 ∨ q = 18 → hm' q = hm q := fun q hq => h2 q (by omega) (by omega) (by omega) (by omega) (by omega) (by omega) (by omega)
  refine ⟨a.cg (fun q hq => c0 q (by omega)) (m0 1 (by omega)), b.cg (by rw [c0 0 (by omega)]) (fun q hq => c0 q (by omega)) (by rw [m0 0 (by omega)]) (m0 2 (by omega)) (by rw [m0 1 (by omega)]; exact Nat.le_refl _), c.cg (by rw [c0 21 (by omega)]) (c0 22 (by omega)) (by rw [m0 0 (by omega)]) (m0 14 (by omega)), d.cg (fun q q1 q2 => c0 q (by omega)) (m0 4 (by omega)) (m0 5 (by omega)) (m0 6 (by omega)), e.cg (fun q q1 q2 => c0 q (by omega)) (m0 7 (by omega)) (m0 8 (by omega)) (m0 9 (by omega)) (m0 10 (by omega)) (m0 11 (by omega)), f.cg (by rw [c0 0 (by omega)]) (c0 84 (by omega)) (by rw [m0 0 (by omega)]) (m0 18 (by omega))⟩
/-- the market alone has changed -/
theorem Rl.mkt {hc hc' hm hm' : xH} (h : Rl hc hm) (h1 : ∀ a, ¬ (24 ≤ a ∧ a < 34) → a ≠ 20 → a ≠ 23 → ¬ (44 ≤ a ∧ a < 54) → ¬ (55 ≤ a ∧ a < 59) → hc' a = hc a) (h2 : ∀ a, a ≠ 1 → a ≠ 3 → a ≠ 12 → a ≠ 13 → a ≠ 15 → a ≠ 16 → a ≠ 17 → a ≠ 19 → hm' a = hm a) (hw : WR hc' 24 (hm' 1)) (hb : Bnd (hm' 1)) (hk : rg (hm' 1 2) 9999) (h3 : ∀ j, j = 1 ∨ 78 ≤ j → hm' 1 j = hm 1 j) : Rl hc' hm' := by
  obtain ⟨a, b, c, d, e, f⟩ := h
  have c0 : ∀ q, q < 20 ∨ (21 ≤ q ∧ q < 23) ∨ (34 ≤ q ∧ q < 44) ∨ q = 54 ∨ 59 ≤ q → hc' q = hc q := fun q hq => h1 q (by omega) (by omega) (by omega) (by omega) (by omega)
  have m0 : ∀ q, q = 0 ∨ q = 2 ∨ (4 ≤ q ∧ q < 12) ∨ q = 14 ∨ q = 18 → hm' q = hm q := fun q hq => h2 q (by omega) (by omega) (by omega) (by omega) (by omega) (by omega) (by omega) (by omega)
  refine ⟨⟨hw, hb, hk, a.2.2.2.cg (fun q q1 q2 => c0 q (by omega)) h3⟩, b.cg (by rw [c0 0 (by omega)]) (fun q hq => c0 q (by omega)) (by rw [m0 0 (by omega)]) (m0 2 (by omega)) (by rw [txN, txN, h3 1 (Or.inl rfl)]; exact Nat.le_refl _), c.cg (by rw [c0 21 (by omega)]) (c0 22 (by omega)) (by rw [m0 0 (by omega)]) (m0 14 (by omega)), d.cg (fun q q1 q2 => c0 q (by omega)) (m0 4 (by omega)) (m0 5 (by omega)) (m0 6 (by omega)), e.cg (fun q q1 q2 => c0 q (by omega)) (m0 7 (by omega)) (m0 8 (by omega)) (m0 9 (by omega)) (m0 10 (by omega)) (m0 11 (by omega)), f.cg (by rw [c0 0 (by omega)]) (c0 84 (by omega)) (by rw [m0 0 (by omega)]) (m0 18 (by omega))⟩
