/-! sale -/
theorem add_toInt {a b : Int32} {m k : Int} (ha : rg a m) (hb : rg b k) (h : m + k < 2147483648) : (a + b).toInt = a.toInt + b.toInt := by
  obtain ⟨a1, a2⟩ := ha
  obtain ⟨b1, b2⟩ := hb
  rw [Int32.toInt_add]
  exact Int.bmod_eq_of_le (by omega) (by omega)
theorem sub_toInt {a b : Int32} {m k : Int} (ha : rg a m) (hb : rg b k) (hm : m < 2147483648) (hk : k < 2147483648) : (a - b).toInt = a.toInt - b.toInt := by
  obtain ⟨a1, a2⟩ := ha
  obtain ⟨b1, b2⟩ := hb
  rw [Int32.toInt_sub]
  exact Int.bmod_eq_of_le (by omega) (by omega)
theorem Bnd.sell {σ : Nat → Int32} (hb : Bnd σ) {d p f : Nat} {c : Int32} (hp : p < 6) (hf : f < 6) (hc : 0 ≤ c.toInt) (hcp : c ≤ σ (6 + p)) : Bnd (sellF σ d p f c) := by
  have h1 := (hb.2.1 p hp).1
  have h2 := (hb.2.1 f hf).1
  rw [Int32.le_iff_toInt_le] at hcp
  have hc9 : rg c 9999 := ⟨hc, Int.le_trans hcp h1.2⟩
  have e1 := sub_toInt h1 hc9 (by omega) (by omega)
  have e2 := add_toInt h2 hc9 (by omega)
  have a1 := h1.1; have a2 := h1.2; have a3 := h2.1
  refine (((((hb.coins (v := σ (6 + p) - c) hp ?_).coins hf ?_).free (by omega)).day (by omega) (fun _ => ?_)).day (by omega) (fun q => absurd q (by omega))).free (by omega)
  · exact ⟨by omega, by omega⟩
  · by_cases q : σ (6 + f) + c ≤ 9999
    · rw [if_pos q]
      rw [Int32.le_iff_toInt_le, show (9999 : Int32).toInt = 9999 from rfl] at q
      exact ⟨by omega, q⟩
    · rw [if_neg q]
      exact ⟨by decide, by decide⟩
  · exact rg_of (m := bdk 4) (by show (p : Int) ≤ 5; omega) (by omega)
theorem sellF_ne {σ : Nat → Int32} {d p f : Nat} {c : Int32} {j : Nat} (hp : p < 6) (hf : f < 6) (hd : d < 10) (hj : j < 3 ∨ j = 5 ∨ (12 ≤ j ∧ j < 18) ∨ 78 ≤ j) : sellF σ d p f c j = σ j := by
  unfold sellF
  rw [pk_un (by omega), pk_un (by omega), pk_un (by omega), pk_un (by omega), pk_un (by omega), pk_un (by omega)]
theorem Bnd.own {σ : Nat → Int32} (hb : Bnd σ) {d : Nat} (hd : d < 10) : ∃ f, f < 6 ∧ σ (18 + 6 * d + 4) = nI f := by
  obtain ⟨f, hf, -, e⟩ := rg_nI (hb.dd (d := d) (k := 4) hd (by omega))
  have hf : (f : Int) ≤ 5 := hf
  exact ⟨f, by omega, e⟩
theorem S_sale_ok {κ : Nat} (hκ : κ < 64) : S_sale (Rk κ) (Rk (κ + 1)) := by
  intro a1 a2 a3 hc hm hR
  refine Sm.k hκ hR ?_
  have hR := hR.1
  simp only [f_X6_sale, f_X7_sale, C_isDay, C_isOne, C_within, M_isDay, M_isOne, M_0_9999, bn_s, b01, hR.1.1.days]
  refine Sm.ite (fun c1 => Sm.ite (fun c2 => Sm.ite (fun c3 => ?_) (fun _ => .ret hR)) (fun _ => .ret hR)) (fun _ => .ret hR)
  obtain ⟨d, n, hd, hn, h0, rfl⟩ := day_in hR.1.2.1.1 c1
  obtain ⟨p, hp, rfl⟩ := in_nI (n := 5) (M := 5) rfl c2
  rw [gd_n (by omega) (by omega), nI_clamp (by omega), M_of (j := 4) (k := 4) rfl (by omega) (by omega), bn_s, hR.1.1.day (k := 4) (by omega) (by omega) (a := 29) rfl, gd_n (by omega) (by omega), ixc, gd_n (by omega) (by omega), nI_clamp (by omega), nI_clamp (by omega), hR.1.1.coins (w := 24) (by omega)]
  refine Sm.ite (fun _ => .ret hR) (fun c4 => Sm.ite (fun c5 => ?_) (fun _ => .ret hR))
  obtain ⟨f, hf, ho⟩ := hR.1.2.1.own (d := d) (by omega)
  have hpf : p ≠ f := fun q => c4 (by rw [ho, q])
  obtain ⟨hc', e1, e2, e3⟩ := C_sell (c := a3) hR.1.1 (d := d) (p := p) (f := f) (by omega) (by omega) hf ho hpf
  rw [e1, bn_s, M_sells (by omega) (by omega) hf ho hpf, bn_s, gS_3, cN_3, e2.sales, xpt_self]
  refine .to (.up (n := 1) (by omega) (by rw [xpt_ne (by omega)]) (xpt_ne (by omega)) (by rw [xpt_self, sellF, pk_us]; rfl)) (hR.mkt (fun a q1 q2 q3 q4 q5 => e3 a q1) (fun a q1 q2 q3 q4 q5 q6 q7 q8 => xpt_ne q1) (by rw [xpt_self]; exact e2) ?_ ?_ ?_)
  · rw [xpt_self]
    exact hR.1.2.1.sell (by omega) hf (by have := c3.1; rw [Int32.le_iff_toInt_le] at this; exact this) c5
  · rw [xpt_self, sellF_ne (by omega) hf (by omega) (by omega)]
    exact hR.1.2.2.1
  · intro j hj
    rw [xpt_self, sellF_ne (by omega) hf (by omega) (by omega)]
/-! texts worked out -/
theorem div_m1 (x : Int32) : x / (-1) = -x := by
  apply Int32.toInt_inj.mp
  rw [Int32.toInt_div, show (-1 : Int32).toInt = -1 from rfl, Int.tdiv_neg, Int.tdiv_one, Int32.toInt_neg]
theorem C_join (c x y : Int32) (h : xH) : f_X0_join c x y h = some (jn c x y, h) := by
  unfold f_X0_join f_X0_join_c187 jn gz
  repeat' split
  all_goals first
    | rfl
    | (exact absurd ‹_ < _› (Int32.not_lt.mpr ‹_ ≤ _›))
    | (exfalso; simp_all; done)
    | (simp_all [Int32.not_lt, Int32.not_le]; done)
theorem M_joined (c x y : Int32) (h : xH) : f_X7_joined c x y h = some (jn c x y, h) := by
  rw [← C_join c x y h]
  unfold f_X7_joined f_X0_join
  by_cases h1 : c = 38
  · rw [if_pos h1, if_pos h1]
  rw [if_neg h1, if_neg h1]
  by_cases h2 : c = 42
  · rw [if_pos h2, if_pos h2]
  rw [if_neg h2, if_neg h2]
  by_cases h3 : c = 43
  · rw [if_pos h3, if_pos h3]
  rw [if_neg h3, if_neg h3]
  by_cases h4 : c = 45
  · rw [if_pos h4, if_pos h4]
  rw [if_neg h4, if_neg h4]
  by_cases h5 : c = 47
  · rw [if_pos h5, if_pos h5]
    by_cases h6 : y = 0
    · rw [if_pos h6, if_pos h6]
    · rw [if_neg h6, if_neg h6]
      by_cases h7 : y = -1
      · rw [if_pos h7, h7, div_m1]
        exact (if_neg (by decide)).symm
      · rw [if_neg h7]
  rw [if_neg h5, if_neg h5]
  rfl
/-- the stack's row holds the list, its top last -/
def PS (f : Nat → Int32) : List Int32 → Prop
  | [] => True
  | x :: r => f r.length = x ∧ PS f r
theorem PS.up {f : Nat → Int32} {j : Nat} {v : Int32} : ∀ {r : List Int32}, PS f r → r.length ≤ j → PS (upd f j v) r
  | [], _, _ => trivial
  | x :: r, h, hj => ⟨by rw [pk_un (by simp at hj; omega)]; exact h.1, PS.up h.2 (by simp at hj; omega)⟩
theorem PS.push {f : Nat → Int32} {r : List Int32} {v : Int32} (h : PS f r) : PS (upd f r.length v) (v :: r) := ⟨pk_us, h.up (Nat.le_refl _)⟩
def rf (nf : Int32 → Int32) (σ : Nat → Int32) (t : Nat) : Nat → Nat → List Int32 → Option (List Int32)
  | 0, _, st => some st
  | m + 1, k, st => (run1 nf (stp σ t k) st).bind (rf nf σ t m (k + 1))
theorem rf_runs {nf : Int32 → Int32} {σ : Nat → Int32} {t : Nat} : ∀ m k st, runs nf ((List.range' k m).map (stp σ t)) st = rf nf σ t m k st
  | 0, k, st => rfl
  | m + 1, k, st => by
    rw [List.range'_succ, List.map_cons, runs, rf]
    congr 1
    funext st'
    exact rf_runs m (k + 1) st'
theorem rf_prog {nf : Int32 → Int32} {σ : Nat → Int32} {t n : Nat} {st : List Int32} : runs nf (prog σ t n) st = rf nf σ t n 0 st := by
  rw [prog, List.range_eq_range']
  exact rf_runs n 0 st
def lfv (e a b c : Int32) : Int32 := if e = -1 then a else if e = -2 then b else c
def nfK (key a b c : Int32) : Int32 → Int32 := fun ch => match nmk key ch with
  | some e => lfv e a b c
  | none => 0
def evF (σ : Nat → Int32) (t : Nat) (a b c : Int32) : Int32 := match runs (nfK (σ (78 + 200 * t)) a b c) (prog σ t (σ (80 + 200 * t)).toNatClampNeg) [] with
  | some (v :: _) => v
  | _ => 0
theorem nI_m1 (n : Nat) : nI (n + 1) + (-1) = nI n := by
  rw [nI_succ, Int32.add_assoc, show (1 : Int32) + (-1) = 0 from rfl, Int32.add_zero]
theorem M_textAt {t : Nat} {h : xH} : f_X7_textAt (nI t) h = some (nI (78 + 200 * t), h) := by
  unfold f_X7_textAt
  rw [show (78 : Int32) = nI 78 from rfl, show (200 : Int32) = nI 200 from rfl, nI_mul, nI_add]
theorem tx82 {t k : Nat} : (nI (78 + 200 * t) + 4 + 2 * nI k : Int32) = nI (82 + 200 * t + 2 * k) := by
  rw [show (4 : Int32) = nI 4 from rfl, show (2 : Int32) = nI 2 from rfl, nI_mul, nI_add, nI_add]
  congr 1
  omega
theorem nmk_ch {key ch e : Int32} (h : nmk key ch = some e) : ch.toNatClampNeg < 128 ∧ ¬ ch < 0 ∧ (e = -1 ∨ e = -2 ∨ e = -3) := by
  unfold nmk at h
  repeat' split at h
  all_goals first
    | (cases h; done)
    | (cases h; subst_vars; exact ⟨by decide, by decide, by decide⟩)
theorem rf_bind {nf : Int32 → Int32} {σ : Nat → Int32} {t m k : Nat} {st : List Int32} {v : List Int32} (h : rf nf σ t (m + 1) k st = some v) : ∃ st1, run1 nf (stp σ t k) st = some st1 ∧ rf nf σ t m (k + 1) st1 = some v := by
  rw [rf] at h
  cases hr : run1 nf (stp σ t k) st with
  | none => rw [hr] at h; cases h
  | some st1 => rw [hr] at h; exact ⟨st1, rfl, h⟩
theorem M_worked_l {t n : Nat} {nf : Int32 → Int32} {σ : Nat → Int32} (ht : t < 14) (hn : n ≤ 96) (hl : σ (80 + 200 * t) = nI n) {nmd : Nat → Int32} (hnm : ∀ k, k < n → (stp σ t k).1 ≠ 2 → (stp σ t k).1 ≠ 0 → ((stp σ t k).2).toNatClampNeg < 128 ∧ ¬ (stp σ t k).2 < 0 ∧ nmd ((stp σ t k).2).toNatClampNeg = nf (stp σ t k).2) {v : Int32} :
    ∀ m k st f (h : xH), k + m = n → m < f → st.length ≤ k → h 1 = σ → h 15 = nmd → PS (h 16) st → rf nf σ t m k st = some [v] → ∃ h', f_X7_worked_c4 (nI t) f (nI st.length) (nI k) h = some (v, h') ∧ ∀ q, q ≠ 16 → h' q = h q
  | m, k, st, 0, h, _, h2, _, _, _, _, _ => absurd h2 (Nat.not_lt_zero _)
  | 0, k, st, f + 1, h, h1, _, _, hs, hn1, hp, hr => by
    have hst : st = [v] := Option.some.inj hr
    subst hst
    refine ⟨h, ?_, fun _ _ => rfl⟩
    rw [f_X7_worked_c4, M_textAt, bn_s, show (2 : Int32) = nI 2 from rfl, nI_add, gd_n (by omega) (by omega), nI_clamp (by omega), hs, show 78 + 200 * t + 2 = 80 + 200 * t by omega, hl, if_pos (nI_le (by omega) (by omega))]
    rw [show gd (0 : Int32) 100 (some (h 16 (Int32.toNatClampNeg 0), h)) = some (h 16 0, h) from if_neg (by decide)]
    rw [show h 16 0 = v from hp.1]
  | m + 1, k, st, f + 1, h, h1, h2, h3, hs, hn1, hp, hr => by
    obtain ⟨st1, r1, r2⟩ := rf_bind hr
    have hk : k < n := by omega
    rw [f_X7_worked_c4, M_textAt, bn_s, show (nI (78 + 200 * t) + 2 : Int32) = nI (80 + 200 * t) by rw [show (2 : Int32) = nI 2 from rfl, nI_add]; congr 1; omega, gd_n (by omega) (by omega), nI_clamp (by omega), hs, hl, if_neg (nI_ge (by omega) (by omega)), M_textAt, bn_s]
    rw [tx82, gd_n (by omega) (by omega), nI_clamp (by omega), nm_x, M_textAt, bn_s, tx82]
    rw [show (nI (82 + 200 * t + 2 * k) + 1 : Int32) = nI (83 + 200 * t + 2 * k) by rw [nI_1]; congr 1; omega, gd_n (by omega) (by omega), nI_clamp (by omega), nm_x, hs]
    rw [show σ (82 + 200 * t + 2 * k) = (stp σ t k).1 from rfl, show σ (83 + 200 * t + 2 * k) = (stp σ t k).2 from rfl]
    unfold run1 at r1
    by_cases c1 : (stp σ t k).1 = 2
    · rw [if_pos c1] at r1 ⊢
      by_cases c2 : (stp σ t k).2 = 33
      · rw [if_pos c2] at r1 ⊢
        match st, h3, hp, r1 with
        | x :: r, h3, hp, r1 =>
          have r1 := Option.some.inj r1
          subst r1
          simp only [List.length_cons] at h3 ⊢
          rw [nI_pred, gd_n (by omega) (by omega), nI_clamp (by omega), hp.1]
          have go : ∀ u : Int32, u = (if x = 0 then 1 else 0) → ∃ h', f_X7_worked_c123 (f_X7_worked_c4 (nI t) f) (nI t) (nI (r.length + 1)) (nI k) u (nI r.length) h = some (v, h') ∧ ∀ q, q ≠ 16 → h' q = h q := by
            intro u hu
            simp only [f_X7_worked_c123, f_X7_worked_c157, nm_x, gd_n (show r.length < 100 by omega) (show 100 < 2 ^ 31 by omega), nI_clamp (show r.length < 2 ^ 31 by omega), nI_1]
            obtain ⟨h', e1, e2⟩ := M_worked_l ht hn hl hnm m (k + 1) ((if x = 0 then 1 else 0) :: r) f (xst h 16 r.length u) (by omega) (by omega) (by simp only [List.length_cons]; omega) (by rw [xst_ne (by omega)]; exact hs) (by rw [xst_ne (by omega)]; exact hn1) (by rw [xst_self, ← hu]; exact hp.2.push) r2
            exact ⟨h', e1, fun q hq => (e2 q hq).trans (xst_ne hq)⟩
          by_cases c3 : x = 0
          · rw [if_pos c3]; exact go 1 (by rw [if_pos c3])
          · rw [if_neg c3]; exact go 0 (by rw [if_neg c3])
      · rw [if_neg c2] at r1 ⊢
        match st, h3, hp, r1 with
        | y :: x :: r, h3, hp, r1 =>
          have r1 := Option.some.inj r1
          subst r1
          simp only [List.length_cons] at h3 ⊢
          rw [nI_m1, nI_pred, gd_n (by omega) (by omega), gd_n (by omega) (by omega), nI_clamp (by omega), nI_clamp (by omega), hp.2.1, show h 16 (r.length + 1) = y from hp.1, M_joined, bn_s, gd_n (by omega) (by omega), nm_x]
          unfold f_X7_worked_c157
          rw [nI_1]
          obtain ⟨h', e1, e2⟩ := M_worked_l ht hn hl hnm m (k + 1) (jn (stp σ t k).2 x y :: r) f (xst h 16 r.length (jn (stp σ t k).2 x y)) (by omega) (by omega) (by simp only [List.length_cons]; omega) (by rw [xst_ne (by omega)]; exact hs) (by rw [xst_ne (by omega)]; exact hn1) (by rw [xst_self]; exact hp.2.2.push) r2
          exact ⟨h', e1, fun q hq => (e2 q hq).trans (xst_ne hq)⟩
    · rw [if_neg c1] at r1 ⊢
      have r1 := Option.some.inj r1
      have go : ∀ u : Int32, u :: st = st1 → ∃ h', f_X7_worked_c86 (f_X7_worked_c4 (nI t) f) (nI t) (nI st.length) (nI k) u (nI st.length) h = some (v, h') ∧ ∀ q, q ≠ 16 → h' q = h q := by
        intro u hu
        subst hu
        simp only [f_X7_worked_c86, f_X7_worked_c157, nm_x, gd_n (show st.length < 100 by omega) (show 100 < 2 ^ 31 by omega), nI_clamp (show st.length < 2 ^ 31 by omega), nI_1]
        obtain ⟨h', e1, e2⟩ := M_worked_l ht hn hl hnm m (k + 1) (u :: st) f (xst h 16 st.length u) (by omega) (by omega) (by simp only [List.length_cons]; omega) (by rw [xst_ne (by omega)]; exact hs) (by rw [xst_ne (by omega)]; exact hn1) (by rw [xst_self]; exact hp.push) r2
        exact ⟨h', e1, fun q hq => (e2 q hq).trans (xst_ne hq)⟩
      by_cases c2 : (stp σ t k).1 = 0
      · rw [if_pos c2] at r1 ⊢
        exact go _ r1
      · rw [if_neg c2] at r1 ⊢
        obtain ⟨q1, q2, q3⟩ := hnm k hk c1 c2
        rw [gd_in (show vp_in (stp σ t k).2 128 from fun q => q.elim q2 (fun z => absurd q1 (Nat.not_lt.mpr z))), hn1, q3]
        exact go _ r1
