/-! what holds at the law's entry -/
theorem st_cls {s : State} {b : Nat} (ht : ∀ w ∈ xWS, w.before #[Value.ref b] s = true) : ∃ (dC : Nat → ClassId) (dI : Nat → Nat → Nat), ∀ (k : Nat) (q : vw_C), vwCl[k]? = some q → u_Kn s q.1 q.2.1 q.2.2 (dC k) (dI k) := by
  obtain ⟨c0, i0, k0⟩ := u_known (C := RX0) (T := TX0) (N := 5) (n := 5) ht inX0 (ht _ (show Cond.instantiable RX0 5 ∈ xWS from xWS_mem 91 (by decide +kernel) rfl))
  obtain ⟨c1, i1, k1⟩ := u_known (C := RX1) (T := TX1) (N := 3) (n := 3) ht inX1 (ht _ (show Cond.instantiable RX1 3 ∈ xWS from xWS_mem 237 (by decide +kernel) rfl))
  obtain ⟨c2, i2, k2⟩ := u_known (C := RX2) (T := TX2) (N := 10) (n := 10) ht inX2 (ht _ (show Cond.instantiable RX2 10 ∈ xWS from xWS_mem 118 (by decide +kernel) rfl))
  obtain ⟨c3, i3, k3⟩ := u_known (C := RX3) (T := TX3) (N := 3) (n := 3) ht inX3 (ht _ (show Cond.instantiable RX3 3 ∈ xWS from xWS_mem 256 (by decide +kernel) rfl))
  obtain ⟨c4, i4, k4⟩ := u_known (C := RX4) (T := TX4) (N := 5) (n := 5) ht inX4 (ht _ (show Cond.instantiable RX4 5 ∈ xWS from xWS_mem 276 (by decide +kernel) rfl))
  obtain ⟨c5, i5, k5⟩ := u_known (C := RX5) (T := TX5) (N := 16) (n := 16) ht inX5 (ht _ (show Cond.instantiable RX5 16 ∈ xWS from xWS_mem 162 (by decide +kernel) rfl))
  obtain ⟨c6, i6, k6⟩ := u_known (C := RX6) (T := TX6) (N := 12) (n := 12) ht inX6 (ht _ (show Cond.instantiable RX6 12 ∈ xWS from xWS_mem 83 (by decide +kernel) rfl))
  obtain ⟨c7, i7, k7⟩ := u_known (C := RX7) (T := TX7) (N := 32) (n := 32) ht inX7 (ht _ (show Cond.instantiable RX7 32 ∈ xWS from xWS_mem 918 (by decide +kernel) rfl))
  refine ⟨fun k => match k with | 0 => c0 | 1 => c1 | 2 => c2 | 3 => c3 | 4 => c4 | 5 => c5 | 6 => c6 | _ => c7, fun k => match k with | 0 => i0 | 1 => i1 | 2 => i2 | 3 => i3 | 4 => i4 | 5 => i5 | 6 => i6 | _ => i7, fun k q hq => ?_⟩
  match k, hq with
  | 0, hq => cases hq; exact k0
  | 1, hq => cases hq; exact k1
  | 2, hq => cases hq; exact k2
  | 3, hq => cases hq; exact k3
  | 4, hq => cases hq; exact k4
  | 5, hq => cases hq; exact k5
  | 6, hq => cases hq; exact k6
  | 7, hq => cases hq; exact k7
  | k + 8, hq => exact absurd (List.getElem?_eq_some_iff.mp hq).1 (by show ¬ k + 8 < 8; omega)
theorem st_arr {s : State} {b : Nat} {dC : Nat → ClassId} {dI : Nat → Nat → Nat} (ht : ∀ w ∈ lw_tbl, w.before #[Value.ref b] s = true) (hk : ∀ (k : Nat) (q : vw_C), vwCl[k]? = some q → u_Kn s q.1 q.2.1 q.2.2 (dC k) (dI k)) : ∃ ca : Nat → ClassId, ∀ (g : xSg) (ad : Nat → Nat), va_K (dC, dI) vwCl (xTy ((dC, dI), ca, g, ad)) s ∧ nX ((dC, dI), ca, g, ad) s := by
  obtain ⟨cI, kI, pI, f1, f2, f3⟩ := Cond.arrayClass_spec (ht (.arrayClass .int) (List.mem_of_getElem? (i := 116) (by decide +kernel)))
  have hA := ht (.arrayOver (.array .int)) (List.mem_of_getElem? (i := 97) (by decide +kernel))
  obtain ⟨pA, cA, kA, g1, g2, g3, g4, g5⟩ := arrayOverA_spec hA
  have hR := ht (.arrayOver (.object "DayMarket$Row")) (List.mem_of_getElem? (i := 255) (by decide +kernel))
  obtain ⟨pR, cR, kR, h1, h2, h3, h4, h5⟩ := Cond.arrayOver_spec hR
  have hS := ht (.arrayOver (.object "DayMarket$Slot")) (List.mem_of_getElem? (i := 275) (by decide +kernel))
  obtain ⟨pS, cS, kS, j1, j2, j3, j4, j5⟩ := Cond.arrayOver_spec hS
  have e : pA = cI := Option.some.inj (g1.symm.trans f1)
  subst e
  refine ⟨fun k => match k with | 0 => pA | 1 => cA | 2 => cR | _ => cS, fun g ad => ⟨⟨hk, fun k q hq => ?_⟩, va_AO.of hR, va_AO.of hS, ⟨kA, g3, g4⟩, ⟨kI, pI, f2, f3⟩⟩⟩
  match k, hq with
  | 0, hq => cases hq; exact ⟨fun n z => ⟨(fun k h => by cases h), kI, f2, pI, f3⟩, f1⟩
  | 1, hq => cases hq; exact ⟨fun n z => ⟨(fun k h => by cases h), kA, g3, pA, g4⟩, g5⟩
  | 2, hq => cases hq; exact ⟨fun n z => ⟨(fun k h => by cases h), kR, h3, pR, h4⟩, kR, pR, h3, h4, h1, h5⟩
  | 3, hq => cases hq; exact ⟨fun n z => ⟨(fun k h => by cases h), kS, j3, pS, j4⟩, kS, pS, j3, j4, j1, j5⟩
  | k + 4, hq => exact absurd (List.getElem?_eq_some_iff.mp hq).1 (by show ¬ k + 4 < 4; omega)
theorem st_nest {s : State} {b : Nat} (ht : ∀ w ∈ lw_tbl, w.before #[Value.ref b] s = true) : ∀ w ∈ xNest, va_Nw w s := by
  intro w hw
  refine va_Nw.of (List.all_eq_true.mp xNest_on w hw) (ht w ?_)
  simp only [xNest, List.mem_cons, List.not_mem_nil, or_false] at hw
  rcases hw with rfl | rfl | rfl | rfl | rfl | rfl | rfl | rfl | rfl
  · exact List.mem_of_getElem? (i := 92) (by decide +kernel)
  · exact List.mem_of_getElem? (i := 119) (by decide +kernel)
  · exact List.mem_of_getElem? (i := 238) (by decide +kernel)
  · exact List.mem_of_getElem? (i := 257) (by decide +kernel)
  · exact List.mem_of_getElem? (i := 277) (by decide +kernel)
  · exact List.mem_of_getElem? (i := 282) (by decide +kernel)
  · exact List.mem_of_getElem? (i := 387) (by decide +kernel)
  · exact List.mem_of_getElem? (i := 545) (by decide +kernel)
  · exact List.mem_of_getElem? (i := 847) (by decide +kernel)
def fC : Cond := Jvm.Cond.and given_1 narrow_1
theorem st_abv {s : State} {b : Nat} {A : Nat → Prop} (ht : ∀ w ∈ lw_tbl, w.before #[Value.ref b] s = true) (hf : ∀ c ∈ flatC fC, c.before #[Value.ref b] s = true) (hA : ∀ a : Nat, a < s.heap.size → ¬ A a) : ∃ t : Nat, va_Z "DayMarket" "ABOVE" "[I" (.ref t) A s s.heap ∧ va_T .int t 6 xAb A s s.heap := by
  have hel : ∀ j : Nat, j < 6 → (Term.elem (.static "DayMarket" "ABOVE" "[I") (.int (Int32.ofNat j))).eval #[Value.ref b] s none [] s = some (xAb j) := by
    intro j hj
    match j, hj with
    | 0, _ => exact va_eqt (hf (.eq (.elem (.static "DayMarket" "ABOVE" "[I") (.int 0)) (.int (-1))) (by decide +kernel))
    | 1, _ => exact va_eqt (hf (.eq (.elem (.static "DayMarket" "ABOVE" "[I") (.int 1)) (.int (0))) (by decide +kernel))
    | 2, _ => exact va_eqt (hf (.eq (.elem (.static "DayMarket" "ABOVE" "[I") (.int 2)) (.int (0))) (by decide +kernel))
    | 3, _ => exact va_eqt (hf (.eq (.elem (.static "DayMarket" "ABOVE" "[I") (.int 3)) (.int (1))) (by decide +kernel))
    | 4, _ => exact va_eqt (hf (.eq (.elem (.static "DayMarket" "ABOVE" "[I") (.int 4)) (.int (2))) (by decide +kernel))
    | 5, _ => exact va_eqt (hf (.eq (.elem (.static "DayMarket" "ABOVE" "[I") (.int 5)) (.int (0))) (by decide +kernel))
  obtain ⟨t, h1, h2⟩ := va_Tof (A := A) (f := xAb) (N := 6) (by omega) (hf (.arrayOf (.static "DayMarket" "ABOVE" "[I") .int) (by decide +kernel)) (va_eqt (hf (.eq (.length (.static "DayMarket" "ABOVE" "[I")) (.int 6)) (by decide +kernel))) hel hA
  exact ⟨t, va_Zref (ht (.laysStatic "DayMarket" "ABOVE" "[I") (List.mem_of_getElem? (i := 405) (by decide +kernel))) (ht (.initialized "DayMarket") (List.mem_of_getElem? (i := 66) (by decide +kernel))) h1 hA, h2⟩
theorem st_jdk {s : State} {b : Nat} {A : Nat → Prop} (ht : ∀ w ∈ lw_tbl, w.before #[Value.ref b] s = true) (hf : ∀ c ∈ flatC fC, c.before #[Value.ref b] s = true) (hA : ∀ a : Nat, a < s.heap.size → ¬ A a) : va_Z "java/lang/String" "COMPACT_STRINGS" "Z" (.int 1) A s s.heap ∧ va_Zq "jdk/internal/util/Preconditions" "SIOOBE_FORMATTER" "Ljava/util/function/BiFunction;" A s s.heap := by
  refine ⟨va_Zof (ht (.laysStatic "java/lang/String" "COMPACT_STRINGS" "Z") (List.mem_of_getElem? (i := 680) (by decide +kernel))) (ht (.initialized "java/lang/String") (List.mem_of_getElem? (i := 77) (by decide +kernel))) (va_eqi (hf (.eq (.static "java/lang/String" "COMPACT_STRINGS" "Z") (.int 1)) (by decide +kernel))) hA, ?_⟩
  exact va_Zqof (ht (.laysStatic "jdk/internal/util/Preconditions" "SIOOBE_FORMATTER" "Ljava/util/function/BiFunction;") (List.mem_of_getElem? (i := 696) (by decide +kernel))) (ht (.initialized "jdk/internal/util/Preconditions") (List.mem_of_getElem? (i := 79) (by decide +kernel))) (hf (.isRef (.static "jdk/internal/util/Preconditions" "SIOOBE_FORMATTER" "Ljava/util/function/BiFunction;")) (by decide +kernel)) hA
def sTm : Nat → Term := fun i => .string "DayMarket$Reader" (104 + 2 * i)
theorem st_str {s : State} {b : Nat} {A : Nat → Prop} (ht : ∀ w ∈ lw_tbl, w.before #[Value.ref b] s = true) (hf : ∀ c ∈ flatC fC, c.before #[Value.ref b] s = true) (hA : ∀ a : Nat, a < s.heap.size → ¬ A a) : ∃ adK adV : Nat → Nat, vk_S 6 xLen xByt adK adV A s s.heap ∧ ∀ (i k : Nat) (tx : String), xTx[i]? = some (k, tx) → vk_R "DayMarket$Reader" k tx (adK i) s := by
  have hex : ∀ i : Nat, i < 6 → (Cond.exactly (sTm i) "java/lang/String").before #[Value.ref b] s = true := by
    intro i hi
    match i, hi with
    | 0, _ => exact hf (.exactly (.string "DayMarket$Reader" 104) "java/lang/String") (by decide +kernel)
    | 1, _ => exact hf (.exactly (.string "DayMarket$Reader" 106) "java/lang/String") (by decide +kernel)
    | 2, _ => exact hf (.exactly (.string "DayMarket$Reader" 108) "java/lang/String") (by decide +kernel)
    | 3, _ => exact hf (.exactly (.string "DayMarket$Reader" 110) "java/lang/String") (by decide +kernel)
    | 4, _ => exact hf (.exactly (.string "DayMarket$Reader" 112) "java/lang/String") (by decide +kernel)
    | 5, _ => exact hf (.exactly (.string "DayMarket$Reader" 114) "java/lang/String") (by decide +kernel)
  have hco : ∀ i : Nat, i < 6 → (Cond.eq (.field (sTm i) "java/lang/String" "coder" "B") (.int 0)).before #[Value.ref b] s = true := by
    intro i hi
    match i, hi with
    | 0, _ => exact hf (.eq (.field (.string "DayMarket$Reader" 104) "java/lang/String" "coder" "B") (.int 0)) (by decide +kernel)
    | 1, _ => exact hf (.eq (.field (.string "DayMarket$Reader" 106) "java/lang/String" "coder" "B") (.int 0)) (by decide +kernel)
    | 2, _ => exact hf (.eq (.field (.string "DayMarket$Reader" 108) "java/lang/String" "coder" "B") (.int 0)) (by decide +kernel)
    | 3, _ => exact hf (.eq (.field (.string "DayMarket$Reader" 110) "java/lang/String" "coder" "B") (.int 0)) (by decide +kernel)
    | 4, _ => exact hf (.eq (.field (.string "DayMarket$Reader" 112) "java/lang/String" "coder" "B") (.int 0)) (by decide +kernel)
    | 5, _ => exact hf (.eq (.field (.string "DayMarket$Reader" 114) "java/lang/String" "coder" "B") (.int 0)) (by decide +kernel)
  have har : ∀ i : Nat, i < 6 → (Cond.arrayOf (.field (sTm i) "java/lang/String" "value" "[B") .byte).before #[Value.ref b] s = true := by
    intro i hi
    match i, hi with
    | 0, _ => exact hf (.arrayOf (.field (.string "DayMarket$Reader" 104) "java/lang/String" "value" "[B") .byte) (by decide +kernel)
    | 1, _ => exact hf (.arrayOf (.field (.string "DayMarket$Reader" 106) "java/lang/String" "value" "[B") .byte) (by decide +kernel)
    | 2, _ => exact hf (.arrayOf (.field (.string "DayMarket$Reader" 108) "java/lang/String" "value" "[B") .byte) (by decide +kernel)
    | 3, _ => exact hf (.arrayOf (.field (.string "DayMarket$Reader" 110) "java/lang/String" "value" "[B") .byte) (by decide +kernel)
    | 4, _ => exact hf (.arrayOf (.field (.string "DayMarket$Reader" 112) "java/lang/String" "value" "[B") .byte) (by decide +kernel)
    | 5, _ => exact hf (.arrayOf (.field (.string "DayMarket$Reader" 114) "java/lang/String" "value" "[B") .byte) (by decide +kernel)
  have hle : ∀ i : Nat, i < 6 → (Cond.eq (.length (.field (sTm i) "java/lang/String" "value" "[B")) (.int (Int32.ofNat (xLen.getD i 0)))).before #[Value.ref b] s = true := by
    intro i hi
    match i, hi with
    | 0, _ => exact hf (.eq (.length (.field (.string "DayMarket$Reader" 104) "java/lang/String" "value" "[B")) (.int 5)) (by decide +kernel)
    | 1, _ => exact hf (.eq (.length (.field (.string "DayMarket$Reader" 106) "java/lang/String" "value" "[B")) (.int 4)) (by decide +kernel)
    | 2, _ => exact hf (.eq (.length (.field (.string "DayMarket$Reader" 108) "java/lang/String" "value" "[B")) (.int 4)) (by decide +kernel)
    | 3, _ => exact hf (.eq (.length (.field (.string "DayMarket$Reader" 110) "java/lang/String" "value" "[B")) (.int 3)) (by decide +kernel)
    | 4, _ => exact hf (.eq (.length (.field (.string "DayMarket$Reader" 112) "java/lang/String" "value" "[B")) (.int 3)) (by decide +kernel)
    | 5, _ => exact hf (.eq (.length (.field (.string "DayMarket$Reader" 114) "java/lang/String" "value" "[B")) (.int 2)) (by decide +kernel)
  have hel : ∀ i : Nat, i < 6 → ∀ j : Nat, j < xLen.getD i 0 → (Cond.eq (.elem (.field (sTm i) "java/lang/String" "value" "[B") (.int (Int32.ofNat j))) (.int ((xByt.getD i []).getD j 0))).before #[Value.ref b] s = true := by
    intro i hi j hj
    match i, hi, j, hj with
    | 0, _, 0, _ => exact hf (.eq (.elem (.field (.string "DayMarket$Reader" 104) "java/lang/String" "value" "[B") (.int 0)) (.int 112)) (by decide +kernel)
    | 0, _, 1, _ => exact hf (.eq (.elem (.field (.string "DayMarket$Reader" 104) "java/lang/String" "value" "[B") (.int 1)) (.int 114)) (by decide +kernel)
    | 0, _, 2, _ => exact hf (.eq (.elem (.field (.string "DayMarket$Reader" 104) "java/lang/String" "value" "[B") (.int 2)) (.int 105)) (by decide +kernel)
    | 0, _, 3, _ => exact hf (.eq (.elem (.field (.string "DayMarket$Reader" 104) "java/lang/String" "value" "[B") (.int 3)) (.int 99)) (by decide +kernel)
    | 0, _, 4, _ => exact hf (.eq (.elem (.field (.string "DayMarket$Reader" 104) "java/lang/String" "value" "[B") (.int 4)) (.int 101)) (by decide +kernel)
    | 0, _, j + 5, hj => exact absurd hj (by show ¬ j + 5 < 5; omega)
    | 1, _, 0, _ => exact hf (.eq (.elem (.field (.string "DayMarket$Reader" 106) "java/lang/String" "value" "[B") (.int 0)) (.int 119)) (by decide +kernel)
    | 1, _, 1, _ => exact hf (.eq (.elem (.field (.string "DayMarket$Reader" 106) "java/lang/String" "value" "[B") (.int 1)) (.int 101)) (by decide +kernel)
    | 1, _, 2, _ => exact hf (.eq (.elem (.field (.string "DayMarket$Reader" 106) "java/lang/String" "value" "[B") (.int 2)) (.int 97)) (by decide +kernel)
    | 1, _, 3, _ => exact hf (.eq (.elem (.field (.string "DayMarket$Reader" 106) "java/lang/String" "value" "[B") (.int 3)) (.int 114)) (by decide +kernel)
    | 1, _, j + 4, hj => exact absurd hj (by show ¬ j + 4 < 4; omega)
    | 2, _, 0, _ => exact hf (.eq (.elem (.field (.string "DayMarket$Reader" 108) "java/lang/String" "value" "[B") (.int 0)) (.int 102)) (by decide +kernel)
    | 2, _, 1, _ => exact hf (.eq (.elem (.field (.string "DayMarket$Reader" 108) "java/lang/String" "value" "[B") (.int 1)) (.int 105)) (by decide +kernel)
    | 2, _, 2, _ => exact hf (.eq (.elem (.field (.string "DayMarket$Reader" 108) "java/lang/String" "value" "[B") (.int 2)) (.int 110)) (by decide +kernel)
    | 2, _, 3, _ => exact hf (.eq (.elem (.field (.string "DayMarket$Reader" 108) "java/lang/String" "value" "[B") (.int 3)) (.int 101)) (by decide +kernel)
    | 2, _, j + 4, hj => exact absurd hj (by show ¬ j + 4 < 4; omega)
    | 3, _, 0, _ => exact hf (.eq (.elem (.field (.string "DayMarket$Reader" 110) "java/lang/String" "value" "[B") (.int 0)) (.int 116)) (by decide +kernel)
    | 3, _, 1, _ => exact hf (.eq (.elem (.field (.string "DayMarket$Reader" 110) "java/lang/String" "value" "[B") (.int 1)) (.int 119)) (by decide +kernel)
    | 3, _, 2, _ => exact hf (.eq (.elem (.field (.string "DayMarket$Reader" 110) "java/lang/String" "value" "[B") (.int 2)) (.int 100)) (by decide +kernel)
    | 3, _, j + 3, hj => exact absurd hj (by show ¬ j + 3 < 3; omega)
    | 4, _, 0, _ => exact hf (.eq (.elem (.field (.string "DayMarket$Reader" 112) "java/lang/String" "value" "[B") (.int 0)) (.int 120)) (by decide +kernel)
    | 4, _, 1, _ => exact hf (.eq (.elem (.field (.string "DayMarket$Reader" 112) "java/lang/String" "value" "[B") (.int 1)) (.int 116)) (by decide +kernel)
    | 4, _, 2, _ => exact hf (.eq (.elem (.field (.string "DayMarket$Reader" 112) "java/lang/String" "value" "[B") (.int 2)) (.int 119)) (by decide +kernel)
    | 4, _, j + 3, hj => exact absurd hj (by show ¬ j + 3 < 3; omega)
    | 5, _, 0, _ => exact hf (.eq (.elem (.field (.string "DayMarket$Reader" 114) "java/lang/String" "value" "[B") (.int 0)) (.int 99)) (by decide +kernel)
    | 5, _, 1, _ => exact hf (.eq (.elem (.field (.string "DayMarket$Reader" 114) "java/lang/String" "value" "[B") (.int 1)) (.int 110)) (by decide +kernel)
    | 5, _, j + 2, hj => exact absurd hj (by show ¬ j + 2 < 2; omega)
  have hn0 : ∀ i j : Nat, i < j → j < 6 → (Cond.not (Cond.eq (sTm i) (sTm j))).before #[Value.ref b] s = true := by
    intro i j hij hj
    match j, hj, i, hij with
    | 0, _, i + 0, hij => exact absurd hij (by omega)
    | 1, _, 0, _ => exact hf (.not (.eq (.string "DayMarket$Reader" 104) (.string "DayMarket$Reader" 106))) (by decide +kernel)
    | 1, _, i + 1, hij => exact absurd hij (by omega)
    | 2, _, 0, _ => exact hf (.not (.eq (.string "DayMarket$Reader" 104) (.string "DayMarket$Reader" 108))) (by decide +kernel)
    | 2, _, 1, _ => exact hf (.not (.eq (.string "DayMarket$Reader" 106) (.string "DayMarket$Reader" 108))) (by decide +kernel)
    | 2, _, i + 2, hij => exact absurd hij (by omega)
    | 3, _, 0, _ => exact hf (.not (.eq (.string "DayMarket$Reader" 104) (.string "DayMarket$Reader" 110))) (by decide +kernel)
    | 3, _, 1, _ => exact hf (.not (.eq (.string "DayMarket$Reader" 106) (.string "DayMarket$Reader" 110))) (by decide +kernel)
    | 3, _, 2, _ => exact hf (.not (.eq (.string "DayMarket$Reader" 108) (.string "DayMarket$Reader" 110))) (by decide +kernel)
    | 3, _, i + 3, hij => exact absurd hij (by omega)
    | 4, _, 0, _ => exact hf (.not (.eq (.string "DayMarket$Reader" 104) (.string "DayMarket$Reader" 112))) (by decide +kernel)
    | 4, _, 1, _ => exact hf (.not (.eq (.string "DayMarket$Reader" 106) (.string "DayMarket$Reader" 112))) (by decide +kernel)
    | 4, _, 2, _ => exact hf (.not (.eq (.string "DayMarket$Reader" 108) (.string "DayMarket$Reader" 112))) (by decide +kernel)
    | 4, _, 3, _ => exact hf (.not (.eq (.string "DayMarket$Reader" 110) (.string "DayMarket$Reader" 112))) (by decide +kernel)
    | 4, _, i + 4, hij => exact absurd hij (by omega)
    | 5, _, 0, _ => exact hf (.not (.eq (.string "DayMarket$Reader" 104) (.string "DayMarket$Reader" 114))) (by decide +kernel)
    | 5, _, 1, _ => exact hf (.not (.eq (.string "DayMarket$Reader" 106) (.string "DayMarket$Reader" 114))) (by decide +kernel)
    | 5, _, 2, _ => exact hf (.not (.eq (.string "DayMarket$Reader" 108) (.string "DayMarket$Reader" 114))) (by decide +kernel)
    | 5, _, 3, _ => exact hf (.not (.eq (.string "DayMarket$Reader" 110) (.string "DayMarket$Reader" 114))) (by decide +kernel)
    | 5, _, 4, _ => exact hf (.not (.eq (.string "DayMarket$Reader" 112) (.string "DayMarket$Reader" 114))) (by decide +kernel)
    | 5, _, i + 5, hij => exact absurd hij (by omega)
  obtain ⟨adK, adV, h1, h2⟩ := vk_Sof (N := 6) (tm := sTm) (len := xLen) (byt := xByt) (A := A) (fun i hi => by
    match i, hi with
    | 0, _ => decide
    | 1, _ => decide
    | 2, _ => decide
    | 3, _ => decide
    | 4, _ => decide
    | 5, _ => decide
    ) hex hco har hle hel (fun i j hi hj hij => by
    rcases Nat.lt_or_gt_of_ne hij with z | z
    · exact Or.inl (hn0 i j z hj)
    · exact Or.inr (hn0 j i z hi)) hA
  refine ⟨adK, adV, h1, fun i k tx hi => ?_⟩
  match i, hi with
  | 0, hi => cases hi; exact vk_R.of (ht (.stringRef "DayMarket$Reader" 104 "price") (List.mem_of_getElem? (i := 664) (by decide +kernel))) (h2 0 (by omega))
  | 1, hi => cases hi; exact vk_R.of (ht (.stringRef "DayMarket$Reader" 106 "wear") (List.mem_of_getElem? (i := 665) (by decide +kernel))) (h2 1 (by omega))
  | 2, hi => cases hi; exact vk_R.of (ht (.stringRef "DayMarket$Reader" 108 "fine") (List.mem_of_getElem? (i := 666) (by decide +kernel))) (h2 2 (by omega))
  | 3, hi => cases hi; exact vk_R.of (ht (.stringRef "DayMarket$Reader" 110 "twd") (List.mem_of_getElem? (i := 742) (by decide +kernel))) (h2 3 (by omega))
  | 4, hi => cases hi; exact vk_R.of (ht (.stringRef "DayMarket$Reader" 112 "xtw") (List.mem_of_getElem? (i := 743) (by decide +kernel))) (h2 4 (by omega))
  | 5, hi => cases hi; exact vk_R.of (ht (.stringRef "DayMarket$Reader" 114 "cn") (List.mem_of_getElem? (i := 744) (by decide +kernel))) (h2 5 (by omega))
  | k + 6, hi => exact absurd (List.getElem?_eq_some_iff.mp hi).1 (by show ¬ k + 6 < 6; omega)
