abbrev xRec : Type := Nat → Int32 → Int32 → Int32 → xH → Option (Int32 × xH)
theorem xht {a n : Nat} (h8 : 8 ≤ n) (h : Nat.ble a 9 = true) : Nat.ble a (n + 1) = true := Nat.ble_eq_true_of_le (Nat.le_trans (Nat.le_of_ble_eq_true h) (Nat.succ_le_succ h8))
theorem vp_in_lt {i : Int32} {n : Nat} (h : vp_in i n) : i.toNatClampNeg < n := Nat.not_le.mp fun q => h (Or.inr q)
def xAbv (j : Nat) : Int32 := (([-1, 0, 0, 1, 2, 0] : List Int32)).getD j 0
def gx {ρ : Type} (i n : Int32) (k : Option ρ) : Option ρ := if i < 0 then none else if i < n then k else none
def gch {ρ : Type} (y : Int32) (k : Option ρ) : Option ρ := if 0 ≤ y ∧ y ≤ 127 then k else none
theorem gx_of {ρ : Type} {i n : Int32} {k : Option ρ} {r : ρ} (e : gx i n k = some r) : ¬ i < 0 ∧ i < n ∧ k = some r := by
  unfold gx at e
  split at e
  · cases e
  · rename_i c
    split at e
    · rename_i c2; exact ⟨c, c2, e⟩
    · cases e
theorem nar_c : ∀ j : Nat, j < 128 → (nI j).toUInt32.toUInt16.toUInt32.toInt32 = nI j := by decide +kernel
theorem gch_of {ρ : Type} {y : Int32} {k : Option ρ} {r : ρ} (e : gch y k = some r) : narrow .char (.int y) = .int y ∧ k = some r := by
  unfold gch at e
  split at e
  · rename_i c
    refine ⟨?_, e⟩
    obtain ⟨j, hj, rfl⟩ := nI_of2 (x := y) (M := 127) (n := 127) rfl (Int32.not_lt.mpr c.1) c.2
    show Value.int _ = Value.int _
    congr 1
    exact nar_c j (by omega)
  · cases e
def xCU (own : String) (idx : Nat) (y : MethodName) (cc : ByteArray) (nL : Nat) (ret : Option FieldType) (n : Nat) : Prop := Cond.methodLink own idx y ∈ xWS ∧ Cond.instanceMethod y ∈ xWS ∧ Cond.selects y.cls y y ∈ xWS ∧ Cond.initialized y.cls ∈ xWS ∧ Cond.code y cc nL ret ∈ xWS ∧ Nat.ble nL 29 = true ∧ y.cls = "java/lang/String" ∧ (parseMethodDescriptor y.desc).map (fun d => d.parameters.length) = some n
section XT
variable {C : xCx} {cc : ByteArray} {own : String} {nL ht : Nat} {γ : xG} {S : xS} {rv : Option Value} {hr : xH} {l : Launch} {ret : Option FieldType} {h h1 : xH} {pc pc' : Nat} {L : List (Option Value)} {st rest : List Value} {ρ : Type} {K : Option ρ} {R : ρ} {y : MethodName} {cc1 : ByteArray} {nL1 ht1 n idx : Nat} {ret1 : Option FieldType} {As : List Value} {rv1 : Option Value}
theorem xB_i2b (hF : xF C cc own nL ht γ S rv hr l ret) {x : Int32} (hd : xI cc pc .i2b 1 pc') (k : xB C h pc' L (.int x.toInt8.toInt32 :: st)) : xB C h pc L (.int x :: st) := by
  obtain ⟨⟨p, l', e, s, m, args, below, meth, c⟩, A, nL', ht', γ', S', rv', hr'⟩ := C
  obtain ⟨hx, hb, hml, rfl, rfl, rfl, rfl, rfl, rfl, rfl, hown, hts, hK, hSt, hA, hrt, hlk⟩ := hF
  obtain ⟨hd, rfl⟩ := hd
  exact fun H locs ls h1 h2 h3 h4 => lv_i2b hx hb hd rfl (k H locs ls h1 h2 h3 h4)
theorem xB_ldcs (hF : xF C cc RX2 nL ht γ S rv hr l ret) {i k : Nat} {tx : String} (hd : xI cc pc (.ldc k) 2 pc') (hi : xTx[i]? = some (k, tx)) (kk : xB C h pc' L (.ref (γ.2.2.1.2.1 i) :: st)) : xB C h pc L st := by
  obtain ⟨⟨p, l', e, s, m, args, below, meth, c⟩, A, nL', ht', γ', S', rv', hr'⟩ := C
  obtain ⟨hx, hb, hml, rfl, rfl, rfl, rfl, rfl, rfl, rfl, hown, hts, hK, hSt, hA, hrt, hlk⟩ := hF
  obtain ⟨hd, rfl⟩ := hd
  exact fun H locs ls h1 h2 h3 h4 => va_ldcS hx hb hown (hSt.2.2.2.2.2.2 i k tx hi) hd (kk H locs ls h1 h2 h3 h4)
theorem w_above : Cond.fieldLink RX6 326 "DayMarket" "ABOVE" "[I" ∈ xWS := xWS_mem 404 (by decide +kernel) rfl
theorem xB_above (hF : xF C cc RX6 nL ht γ S rv hr l ret) (hd : xI cc pc (.getstatic 326) 3 pc') (kk : xB C h pc' L (.ref γ.2.2.1.1 :: st)) : xB C h pc L st := by
  obtain ⟨⟨p, l', e, s, m, args, below, meth, c⟩, A, nL', ht', γ', S', rv', hr'⟩ := C
  obtain ⟨hx, hb, hml, rfl, rfl, rfl, rfl, rfl, rfl, rfl, hown, hts, hK, hSt, hA, hrt, hlk⟩ := hF
  obtain ⟨hd, rfl⟩ := hd
  exact fun H locs ls h1 h2 h3 h4 => va_gets hx hb hSt.2.1 h3 hown (hts _ w_above) (fun _ h9 => h9) hd (kk H locs ls h1 h2 h3 h4)
theorem xB_abld (hF : xF C cc own nL ht γ S rv hr l ret) {i : Int32} (hd : xI cc pc .iaload 1 pc') (e : gd i 6 K = some R) (k : K = some R → xB C h pc' L (.int (xAbv i.toNatClampNeg) :: st)) : xB C h pc L (.int i :: .ref γ.2.2.1.1 :: st) := by
  obtain ⟨hi, e⟩ := gd_of e
  have k := k e
  obtain ⟨⟨p, l', e, s, m, args, below, meth, c⟩, A, nL', ht', γ', S', rv', hr'⟩ := C
  obtain ⟨hx, hb, hml, rfl, rfl, rfl, rfl, rfl, rfl, rfl, hown, hts, hK, hSt, hA, hrt, hlk⟩ := hF
  obtain ⟨hd, rfl⟩ := hd
  exact fun H locs ls h1 h2 h3 h4 => va_ti hx hb hSt.2.2.1 h3 hi rfl hd (k H locs ls h1 h2 h3 h4)
theorem w_sval : Cond.fieldLink RJ0 9 "java/lang/String" "value" "[B" ∈ xWS := xWS_mem 1446 (by decide +kernel) rfl
theorem w_scod : Cond.fieldLink RJ0 15 "java/lang/String" "coder" "B" ∈ xWS := xWS_mem 1447 (by decide +kernel) rfl
theorem w_compact : Cond.fieldLink RJ0 38 "java/lang/String" "COMPACT_STRINGS" "Z" ∈ xWS := xWS_mem 679 (by decide +kernel) rfl
theorem w_sioob : Cond.fieldLink RJ0 1053 "jdk/internal/util/Preconditions" "SIOOBE_FORMATTER" "Ljava/util/function/BiFunction;" ∈ xWS := xWS_mem 695 (by decide +kernel) rfl
theorem xB_sval (hF : xF C cc RJ0 nL ht γ S rv hr l ret) {i : Nat} (hd : xI cc pc (.getfield 9) 3 pc') (hi : i < 6) (kk : xB C h pc' L (.ref (γ.2.2.1.2.2 i) :: st)) : xB C h pc L (.ref (γ.2.2.1.2.1 i) :: st) := by
  obtain ⟨⟨p, l', e, s, m, args, below, meth, c⟩, A, nL', ht', γ', S', rv', hr'⟩ := C
  obtain ⟨hx, hb, hml, rfl, rfl, rfl, rfl, rfl, rfl, rfl, hown, hts, hK, hSt, hA, hrt, hlk⟩ := hF
  obtain ⟨hd, rfl⟩ := hd
  exact fun H locs ls h1 h2 h3 h4 => vk_getf hx hb (hSt.2.2.2.2.2.1.1 i hi).2.2.1 h3 hown (hts _ w_sval) (fun _ h9 => h9) hd (kk H locs ls h1 h2 h3 h4)
theorem xB_scod (hF : xF C cc RJ0 nL ht γ S rv hr l ret) {i : Nat} (hd : xI cc pc (.getfield 15) 3 pc') (hi : i < 6) (kk : xB C h pc' L (.int 0 :: st)) : xB C h pc L (.ref (γ.2.2.1.2.1 i) :: st) := by
  obtain ⟨⟨p, l', e, s, m, args, below, meth, c⟩, A, nL', ht', γ', S', rv', hr'⟩ := C
  obtain ⟨hx, hb, hml, rfl, rfl, rfl, rfl, rfl, rfl, rfl, hown, hts, hK, hSt, hA, hrt, hlk⟩ := hF
  obtain ⟨hd, rfl⟩ := hd
  exact fun H locs ls h1 h2 h3 h4 => vk_getf hx hb (hSt.2.2.2.2.2.1.1 i hi).2.1 h3 hown (hts _ w_scod) (fun _ h9 => h9) hd (kk H locs ls h1 h2 h3 h4)
theorem xB_compact (hF : xF C cc RJ0 nL ht γ S rv hr l ret) (hd : xI cc pc (.getstatic 38) 3 pc') (kk : xB C h pc' L (.int 1 :: st)) : xB C h pc L st := by
  obtain ⟨⟨p, l', e, s, m, args, below, meth, c⟩, A, nL', ht', γ', S', rv', hr'⟩ := C
  obtain ⟨hx, hb, hml, rfl, rfl, rfl, rfl, rfl, rfl, rfl, hown, hts, hK, hSt, hA, hrt, hlk⟩ := hF
  obtain ⟨hd, rfl⟩ := hd
  exact fun H locs ls h1 h2 h3 h4 => va_gets hx hb hSt.2.2.2.1 h3 hown (hts _ w_compact) (fun _ h9 => h9) hd (kk H locs ls h1 h2 h3 h4)
theorem xB_sioob (hF : xF C cc RJ0 nL ht γ S rv hr l ret) (hd : xI cc pc (.getstatic 1053) 3 pc') (k0 : xB C h pc' L (.null :: st)) (k1 : ∀ t : Nat, xB C h pc' L (.ref t :: st)) : xB C h pc L st := by
  obtain ⟨⟨p, l', e, s, m, args, below, meth, c⟩, A, nL', ht', γ', S', rv', hr'⟩ := C
  obtain ⟨hx, hb, hml, rfl, rfl, rfl, rfl, rfl, rfl, rfl, hown, hts, hK, hSt, hA, hrt, hlk⟩ := hF
  obtain ⟨hd, rfl⟩ := hd
  intro H locs ls h1 h2 h3 h4
  rcases hSt.2.2.2.2.1 with hz | ⟨t, hz⟩
  · exact va_gets hx hb hz h3 hown (hts _ w_sioob) (fun _ h9 => h9) hd (k0 H locs ls h1 h2 h3 h4)
  · exact va_gets hx hb hz h3 hown (hts _ w_sioob) (fun _ h9 => h9) hd (k1 t H locs ls h1 h2 h3 h4)
theorem xB_blen (hF : xF C cc own nL ht γ S rv hr l ret) {i : Nat} (hd : xI cc pc .arraylength 1 pc') (hi : i < 6) (kk : xB C h pc' L (.int (Int32.ofNat (xLen.getD i 0)) :: st)) : xB C h pc L (.ref (γ.2.2.1.2.2 i) :: st) := by
  obtain ⟨⟨p, l', e, s, m, args, below, meth, c⟩, A, nL', ht', γ', S', rv', hr'⟩ := C
  obtain ⟨hx, hb, hml, rfl, rfl, rfl, rfl, rfl, rfl, rfl, hown, hts, hK, hSt, hA, hrt, hlk⟩ := hF
  obtain ⟨hd, rfl⟩ := hd
  exact fun H locs ls h1 h2 h3 h4 => va_tlen hx hb (hSt.2.2.2.2.2.1.1 i hi).2.2.2 h3 rfl hd (kk H locs ls h1 h2 h3 h4)
theorem xB_bald (hF : xF C cc own nL ht γ S rv hr l ret) {i : Nat} {j : Int32} (hd : xI cc pc .baload 1 pc') (hi : i < 6) (e : gd j (xLen.getD i 0) K = some R) (k : K = some R → xB C h pc' L (.int ((xByt.getD i []).getD j.toNatClampNeg 0) :: st)) : xB C h pc L (.int j :: .ref (γ.2.2.1.2.2 i) :: st) := by
  obtain ⟨hj, e⟩ := gd_of e
  have k := k e
  obtain ⟨⟨p, l', e, s, m, args, below, meth, c⟩, A, nL', ht', γ', S', rv', hr'⟩ := C
  obtain ⟨hx, hb, hml, rfl, rfl, rfl, rfl, rfl, rfl, rfl, hown, hts, hK, hSt, hA, hrt, hlk⟩ := hF
  obtain ⟨hd, rfl⟩ := hd
  exact fun H locs ls h1 h2 h3 h4 => va_tb hx hb (hSt.2.2.2.2.2.1.1 i hi).2.2.2 h3 hj rfl hd (k H locs ls h1 h2 h3 h4)
theorem xB_yreturn {r : Int32} (hF : xF C cc own nL ht γ S (some (.int r)) hr l (some .byte)) {x : Int32} (hd : xI cc pc .ireturn 1 pc') (hn : narrow .byte (.int x) = .int x) (e : (some (x, h) : Option (Int32 × xH)) = some (r, hr)) : xB C h pc L [.int x] := by
  cases e
  obtain ⟨⟨p, l', e, s, m, args, below, meth, c⟩, A, nL', ht', γ', S', rv', hr'⟩ := C
  obtain ⟨hx, hb, hml, rfl, rfl, rfl, rfl, rfl, rfl, rfl, hown, hts, hK, hSt, hA, hrt, hlk⟩ := hF
  obtain ⟨hd, rfl⟩ := hd
  exact fun H locs ls h1 h2 h3 h4 => W.zret hx hb hrt hn (fun t ht hW => ⟨rfl, by rw [ht]; exact h1, h2, h3.F ht⟩) h3.2.2 hd hlk
theorem xB_creturn {r : Int32} (hF : xF C cc own nL ht γ S (some (.int r)) hr l (some .char)) {x : Int32} (hd : xI cc pc .ireturn 1 pc') (e : gch x (some (x, h) : Option (Int32 × xH)) = some (r, hr)) : xB C h pc L [.int x] := by
  obtain ⟨hn, e⟩ := gch_of e
  cases e
  obtain ⟨⟨p, l', e, s, m, args, below, meth, c⟩, A, nL', ht', γ', S', rv', hr'⟩ := C
  obtain ⟨hx, hb, hml, rfl, rfl, rfl, rfl, rfl, rfl, rfl, hown, hts, hK, hSt, hA, hrt, hlk⟩ := hF
  obtain ⟨hd, rfl⟩ := hd
  exact fun H locs ls h1 h2 h3 h4 => W.zret hx hb hrt hn (fun t ht hW => ⟨rfl, by rw [ht]; exact h1, h2, h3.F ht⟩) h3.2.2 hd hlk
theorem xB_sreturn {r : Int32} (hF : xF C cc own nL ht γ S (some (.ref (γ.2.2.1.2.1 (Int32.toNatClampNeg r)))) hr l (some (.object "java/lang/String"))) {x : Int32} (hd : xI cc pc .areturn 1 pc') (e : (some (x, h) : Option (Int32 × xH)) = some (r, hr)) : xB C h pc L [.ref (γ.2.2.1.2.1 (Int32.toNatClampNeg x))] := by
  cases e
  obtain ⟨⟨p, l', e, s, m, args, below, meth, c⟩, A, nL', ht', γ', S', rv', hr'⟩ := C
  obtain ⟨hx, hb, hml, rfl, rfl, rfl, rfl, rfl, rfl, rfl, hown, hts, hK, hSt, hA, hrt, hlk⟩ := hF
  obtain ⟨hd, rfl⟩ := hd
  exact fun H locs ls h1 h2 h3 h4 => W.aret hx hb hrt (Or.inl ⟨_, rfl⟩) (Or.inr ⟨_, rfl⟩) (fun t ht hW => ⟨rfl, by rw [ht]; exact h1, h2, h3.F ht⟩) h3.2.2 hd hlk
theorem xB_callT (hF : xF C cc own nL ht γ S rv hr l ret) {i : Nat} (hd : xI cc pc (.invokevirtual idx) 3 pc') (hM : xCT l γ S y cc1 nL1 ret1 ht1 (.ref (γ.2.2.1.2.1 i) :: As) h rv1 h1) (hw : xCU own idx y cc1 nL1 ret1 n) (hi : i < 6) (hh : Nat.ble (ht1 + 1) ht = true) (hn : As.length = n) (hst : st = As.reverse ++ .ref (γ.2.2.1.2.1 i) :: rest) (hsum : Nat.ble (rest.map fun v => v.category).sum 8 = true) (k : xB C h1 pc' L (rv1.toList ++ rest)) : xB C h pc L st := by
  obtain ⟨⟨p, l', e, s, m, args, below, meth, c⟩, A, nL', ht', γ', S', rv', hr'⟩ := C
  obtain ⟨hx, hb, hml, rfl, rfl, rfl, rfl, rfl, rfl, rfl, hown, hts, hK, hSt, hA, hrt, hlk⟩ := hF
  obtain ⟨hd, rfl⟩ := hd
  obtain ⟨w1, w2, w3, w4, w5, w6, w7, w8⟩ := hw
  have hh := Nat.le_of_ble_eq_true hh
  have w6 := Nat.le_of_ble_eq_true w6
  intro H locs ls g1 g2 g3 g4
  refine xrun (va_runV (As := As) (rest := rest) (n := n) (Ts := xWS) (C := y.cls) ⟨hx, hb, hml, hown, hts⟩ (hM H.size) (cwV n hts (xGood (fun w hw => ?_)) rfl rfl rfl ⟨rfl, by rw [w7]; decide, by rw [w7]; decide, w8⟩ ⟨hh, ?_⟩) ⟨xP_blind, ?_, fun U hU hW => xPre (As := .ref _ :: As) hK hSt hA g1 g2 g3 hU hW⟩ rfl hn (g4.1) hst (by show 2 * 0 + _ ≤ 8; have := Nat.le_of_ble_eq_true hsum; omega) hd ⟨Nat.le_refl _, Nat.le_refl _⟩) g2 hA g3 (fun H1 locs1 q1 q2 q3 => k H1 locs1 ls q1 q2 q3 g4)
  · simp only [wsV, List.mem_append, List.mem_cons, List.not_mem_nil, or_false] at hw
    rcases hw with (rfl | rfl | rfl | rfl) | rfl | hw
    · exact w1
    · exact w2
    · exact w3
    · exact w4
    · exact w5
    · exact hw
  · show 8 + (nL1 + 11) + 48 * ht1 ≤ 48 * ht'
    omega
  · obtain ⟨cell, c1, c2, c3⟩ := vk_recv hSt.2.2.2.2.2.1 hi g3
    exact ⟨cell, c1, c2, by rw [w7]; exact c3⟩
theorem xB_callTi (hF : xF C cc own nL ht γ S rv hr l ret) {i : Nat} {r1 : Int32} (hd : xI cc pc (.invokevirtual idx) 3 pc') (hM : xCT l γ S y cc1 nL1 ret1 ht1 (.ref (γ.2.2.1.2.1 i) :: As) h (some (.int r1)) h1) (hw : xCU own idx y cc1 nL1 ret1 n) (hi : i < 6) (hh : Nat.ble (ht1 + 1) ht = true) (hn : As.length = n) (hst : st = As.reverse ++ .ref (γ.2.2.1.2.1 i) :: rest) (hsum : Nat.ble (rest.map fun v => v.category).sum 8 = true) (k : xB C h1 pc' L (.int r1 :: rest)) : xB C h pc L st := xB_callT hF hd hM hw hi hh hn hst hsum k
theorem xB_callSs (hF : xF C cc own nL ht γ S rv hr l ret) {a : Nat} (hd : xI cc pc (.invokestatic idx) 3 pc') (hM : xCT l γ S y cc1 nL1 ret1 ht1 As h (some (.ref a)) h1) (hw : xCS own idx y cc1 nL1 ret1 n) (hh : Nat.ble (ht1 + 1) ht = true) (hn : As.length = n) (hst : st = As.reverse ++ rest) (hsum : Nat.ble (rest.map fun v => v.category).sum 8 = true) (k : xB C h1 pc' L (.ref a :: rest)) : xB C h pc L st := xB_callS hF hd hM hw hh hn hst hsum k
end XT
theorem cw_chk2 : xCS RJ0 1059 yJ3_checkIndex_8e157 cJ3_checkIndex_8e157 3 (some .int) 3 := ⟨xWS_mem 697 (by decide +kernel) rfl, xWS_mem 698 (by decide +kernel) rfl, xWS_mem 79 (by decide +kernel) rfl, xWS_mem 699 (by decide +kernel) rfl, rfl, by decide, by decide, by decide +kernel⟩
theorem cw_chk1 : xCS RJ1 9 yJ0_checkIndex_df160 cJ0_checkIndex_df160 2 none 2 := ⟨xWS_mem 692 (by decide +kernel) rfl, xWS_mem 693 (by decide +kernel) rfl, xWS_mem 77 (by decide +kernel) rfl, xWS_mem 694 (by decide +kernel) rfl, rfl, by decide, by decide, by decide +kernel⟩
set_option maxRecDepth 20000 in
theorem t_J3_checkIndex {l : Launch} {γ : xG} {a b : Int32} {v : Value} {h : xH} (hv : v = .null ∨ ∃ t, v = .ref t) (h1 : ¬ a < 0) (h2 : a < b) : xCT l γ xSC yJ3_checkIndex_8e157 cJ3_checkIndex_8e157 3 (some .int) 0 [.int a, .int b, v] h (some (.int a)) h := by
  have e0 : (if a < 0 then (none : Option (Int32 × xH)) else if a < b then some (a, h) else none) = some (a, h) := by rw [if_neg h1, if_pos h2]
  rcases hv with rfl | ⟨t, rfl⟩
  · refine xCT.of (own := RJ3) (L := [some (.int a), some (.int b), some .null]) (by decide) rfl rfl rfl (fun C hF => ?_)
    refine xB_iload_n hF dJ3_checkIndex_8e157_0 rfl ?_
    refine xB_if_lt (tgt := 9) hF dJ3_checkIndex_8e157_1 rfl e0 (fun _ e => by cases e) (fun _ e => ?_)
    refine xB_iload_n hF dJ3_checkIndex_8e157_4 rfl ?_
    refine xB_iload_n hF dJ3_checkIndex_8e157_5 rfl ?_
    refine xB_icmp_lt (tgt := 16) hF dJ3_checkIndex_8e157_6 rfl e (fun _ e => ?_) (fun _ e => by cases e)
    refine xB_iload_n hF dJ3_checkIndex_8e157_16 rfl ?_
    exact xB_ireturn hF dJ3_checkIndex_8e157_17 e
  · refine xCT.of (own := RJ3) (L := [some (.int a), some (.int b), some (.ref t)]) (by decide) rfl rfl rfl (fun C hF => ?_)
    refine xB_iload_n hF dJ3_checkIndex_8e157_0 rfl ?_
    refine xB_if_lt (tgt := 9) hF dJ3_checkIndex_8e157_1 rfl e0 (fun _ e => by cases e) (fun _ e => ?_)
    refine xB_iload_n hF dJ3_checkIndex_8e157_4 rfl ?_
    refine xB_iload_n hF dJ3_checkIndex_8e157_5 rfl ?_
    refine xB_icmp_lt (tgt := 16) hF dJ3_checkIndex_8e157_6 rfl e (fun _ e => ?_) (fun _ e => by cases e)
    refine xB_iload_n hF dJ3_checkIndex_8e157_16 rfl ?_
    exact xB_ireturn hF dJ3_checkIndex_8e157_17 e
set_option maxRecDepth 20000 in
theorem t_J0_checkIndex {l : Launch} {γ : xG} {a b : Int32} {h : xH} (h1 : ¬ a < 0) (h2 : a < b) : xCT l γ xSC yJ0_checkIndex_df160 cJ0_checkIndex_df160 2 none 1 [.int a, .int b] h none h := by
  refine xCT.of (own := RJ0) (L := [some (.int a), some (.int b)]) (by decide) rfl rfl rfl (fun C hF => ?_)
  refine xB_iload_n hF dJ0_checkIndex_df160_0 rfl ?_
  refine xB_iload_n hF dJ0_checkIndex_df160_1 rfl ?_
  refine xB_sioob hF dJ0_checkIndex_df160_2 ?_ (fun t => ?_)
  · refine xB_callSi hF dJ0_checkIndex_df160_5 (t_J3_checkIndex (Or.inl rfl) h1 h2) cw_chk2 rfl rfl rfl rfl ?_
    refine xB_pop hF dJ0_checkIndex_df160_8 rfl ?_
    exact xB_vreturn hF dJ0_checkIndex_df160_9 rfl
  · refine xB_callSi hF dJ0_checkIndex_df160_5 (t_J3_checkIndex (Or.inr ⟨t, rfl⟩) h1 h2) cw_chk2 rfl rfl rfl rfl ?_
    refine xB_pop hF dJ0_checkIndex_df160_8 rfl ?_
    exact xB_vreturn hF dJ0_checkIndex_df160_9 rfl
theorem xB_chk {C : xCx} {cc : ByteArray} {nL ht : Nat} {γ : xG} {rv : Option Value} {hr : xH} {l : Launch} {ret : Option FieldType} {h : xH} {pc pc' : Nat} {L : List (Option Value)} {ρ : Type} {K : Option ρ} {R : ρ} (hF : xF C cc RJ1 nL (ht + 2) γ xSC rv hr l ret) {a b : Int32} (hd : xI cc pc (.invokestatic 9) 3 pc') (e : gx a b K = some R) (k : K = some R → xB C h pc' L []) : xB C h pc L [.int b, .int a] := by
  obtain ⟨h1, h2, e⟩ := gx_of e
  exact xB_callSv hF hd (t_J0_checkIndex h1 h2) cw_chk1 (Nat.ble_eq_true_of_le (by omega)) rfl rfl rfl (k e)
theorem kb_14 : (Int8.ofInt (14)).toInt32 = (14) := by decide
theorem kb_40 : (Int8.ofInt (40)).toInt32 = (40) := by decide
theorem kb_41 : (Int8.ofInt (41)).toInt32 = (41) := by decide
theorem kb_m100 : (Int8.ofInt (-100)).toInt32 = (-100) := by decide
theorem cw_J0_335 : xCU RJ0 335 yJ0_coder_7d493 cJ0_coder_7d493 1 (some .byte) 0 := ⟨xWS_mem 675 (by decide +kernel) rfl, xWS_mem 676 (by decide +kernel) rfl, xWS_mem 677 (by decide +kernel) rfl, xWS_mem 77 (by decide +kernel) rfl, xWS_mem 678 (by decide +kernel) rfl, rfl, rfl, by decide +kernel⟩
theorem cw_J0_492 : xCU RJ0 492 yJ0_isLatin1_aae02 cJ0_isLatin1_aae02 1 (some .boolean) 0 := ⟨xWS_mem 685 (by decide +kernel) rfl, xWS_mem 686 (by decide +kernel) rfl, xWS_mem 687 (by decide +kernel) rfl, xWS_mem 77 (by decide +kernel) rfl, xWS_mem 688 (by decide +kernel) rfl, rfl, rfl, by decide +kernel⟩
theorem cw_J0_495 : xCS RJ0 495 yJ1_charAt_3b067 cJ1_charAt_3b067 2 (some .char) 2 := ⟨xWS_mem 689 (by decide +kernel) rfl, xWS_mem 690 (by decide +kernel) rfl, xWS_mem 78 (by decide +kernel) rfl, xWS_mem 691 (by decide +kernel) rfl, rfl, by decide, by decide, by decide +kernel⟩
theorem cw_J0_505 : xCU RJ0 505 yJ0_length_8abf5 cJ0_length_8abf5 1 (some .int) 0 := ⟨xWS_mem 753 (by decide +kernel) rfl, xWS_mem 672 (by decide +kernel) rfl, xWS_mem 673 (by decide +kernel) rfl, xWS_mem 77 (by decide +kernel) rfl, xWS_mem 674 (by decide +kernel) rfl, rfl, rfl, by decide +kernel⟩
theorem cw_J0_633 : xCU RJ0 633 yJ0_indexOf_7cf53 cJ0_indexOf_7cf53 3 (some .int) 2 := ⟨xWS_mem 749 (by decide +kernel) rfl, xWS_mem 750 (by decide +kernel) rfl, xWS_mem 751 (by decide +kernel) rfl, xWS_mem 77 (by decide +kernel) rfl, xWS_mem 752 (by decide +kernel) rfl, rfl, rfl, by decide +kernel⟩
theorem cw_J0_637 : xCS RJ0 637 yJ1_indexOf_4cfef cJ1_indexOf_4cfef 4 (some .int) 4 := ⟨xWS_mem 754 (by decide +kernel) rfl, xWS_mem 755 (by decide +kernel) rfl, xWS_mem 78 (by decide +kernel) rfl, xWS_mem 756 (by decide +kernel) rfl, rfl, by decide, by decide, by decide +kernel⟩
theorem cw_J1_88 : xCS RJ1 88 yJ1_canEncode_9a6ad cJ1_canEncode_9a6ad 1 (some .boolean) 1 := ⟨xWS_mem 757 (by decide +kernel) rfl, xWS_mem 758 (by decide +kernel) rfl, xWS_mem 78 (by decide +kernel) rfl, xWS_mem 759 (by decide +kernel) rfl, rfl, by decide, by decide, by decide +kernel⟩
theorem cw_J1_95 : xCS RJ1 95 yJ1_indexOfChar_4cfef cJ1_indexOfChar_4cfef 6 (some .int) 4 := ⟨xWS_mem 762 (by decide +kernel) rfl, xWS_mem 763 (by decide +kernel) rfl, xWS_mem 78 (by decide +kernel) rfl, xWS_mem 764 (by decide +kernel) rfl, rfl, by decide, by decide, by decide +kernel⟩
theorem cw_X2_100 : xCU RX2 100 yJ0_charAt_5068e cJ0_charAt_5068e 2 (some .char) 1 := ⟨xWS_mem 681 (by decide +kernel) rfl, xWS_mem 682 (by decide +kernel) rfl, xWS_mem 683 (by decide +kernel) rfl, xWS_mem 77 (by decide +kernel) rfl, xWS_mem 684 (by decide +kernel) rfl, rfl, rfl, by decide +kernel⟩
theorem cw_X2_37 : xCV RX2 37 yX2_keyAtHand cX2_keyAtHand 2 (some .int) 0 2 := ⟨xWS_mem 657 (by decide +kernel) rfl, xWS_mem 659 (by decide +kernel) rfl, xWS_mem 6 (by decide +kernel) rfl, xWS_mem 68 (by decide +kernel) rfl, xWS_mem 660 (by decide +kernel) rfl, rfl, by decide, by decide, by decide +kernel, _, rfl, rfl⟩
theorem cw_X2_44 : xCV RX2 44 yX2_readLevel cX2_readLevel 7 (some .boolean) 3 2 := ⟨xWS_mem 719 (by decide +kernel) rfl, xWS_mem 721 (by decide +kernel) rfl, xWS_mem 8 (by decide +kernel) rfl, xWS_mem 68 (by decide +kernel) rfl, xWS_mem 722 (by decide +kernel) rfl, rfl, by decide, by decide, by decide +kernel, _, rfl, rfl⟩
theorem cw_X2_48 : xCV RX2 48 yX2_readPiece cX2_readPiece 4 (some .boolean) 2 2 := ⟨xWS_mem 723 (by decide +kernel) rfl, xWS_mem 725 (by decide +kernel) rfl, xWS_mem 9 (by decide +kernel) rfl, xWS_mem 68 (by decide +kernel) rfl, xWS_mem 726 (by decide +kernel) rfl, rfl, by decide, by decide, by decide +kernel, _, rfl, rfl⟩
theorem cw_X2_52 : xCV RX2 52 yX2_joinsAt cX2_joinsAt 2 (some .boolean) 1 2 := ⟨xWS_mem 812 (by decide +kernel) rfl, xWS_mem 814 (by decide +kernel) rfl, xWS_mem 16 (by decide +kernel) rfl, xWS_mem 68 (by decide +kernel) rfl, xWS_mem 815 (by decide +kernel) rfl, rfl, by decide, by decide, by decide +kernel, _, rfl, rfl⟩
theorem cw_X2_63 : xCV RX2 63 yX2_takeLeaf cX2_takeLeaf 2 (some .boolean) 1 2 := ⟨xWS_mem 727 (by decide +kernel) rfl, xWS_mem 729 (by decide +kernel) rfl, xWS_mem 10 (by decide +kernel) rfl, xWS_mem 68 (by decide +kernel) rfl, xWS_mem 730 (by decide +kernel) rfl, rfl, by decide, by decide, by decide +kernel, _, rfl, rfl⟩
theorem cw_X2_66 : xCV RX2 66 yX2_nameAtHand cX2_nameAtHand 1 (some .int) 0 2 := ⟨xWS_mem 735 (by decide +kernel) rfl, xWS_mem 737 (by decide +kernel) rfl, xWS_mem 12 (by decide +kernel) rfl, xWS_mem 68 (by decide +kernel) rfl, xWS_mem 738 (by decide +kernel) rfl, rfl, by decide, by decide, by decide +kernel, _, rfl, rfl⟩
theorem cw_X2_72 : xCV RX2 72 yX2_readNot cX2_readNot 3 (some .boolean) 2 2 := ⟨xWS_mem 804 (by decide +kernel) rfl, xWS_mem 806 (by decide +kernel) rfl, xWS_mem 14 (by decide +kernel) rfl, xWS_mem 68 (by decide +kernel) rfl, xWS_mem 807 (by decide +kernel) rfl, rfl, by decide, by decide, by decide +kernel, _, rfl, rfl⟩
theorem cw_X2_75 : xCV RX2 75 yX2_readOpen cX2_readOpen 3 (some .boolean) 2 2 := ⟨xWS_mem 808 (by decide +kernel) rfl, xWS_mem 810 (by decide +kernel) rfl, xWS_mem 15 (by decide +kernel) rfl, xWS_mem 68 (by decide +kernel) rfl, xWS_mem 811 (by decide +kernel) rfl, rfl, by decide, by decide, by decide +kernel, _, rfl, rfl⟩
theorem cw_X2_78 : xCS RX2 78 yX2_keyText cX2_keyText 1 (some (.object "java/lang/String")) 1 := ⟨xWS_mem 661 (by decide +kernel) rfl, xWS_mem 662 (by decide +kernel) rfl, xWS_mem 68 (by decide +kernel) rfl, xWS_mem 663 (by decide +kernel) rfl, rfl, by decide, by decide, by decide +kernel⟩
theorem cw_X2_82 : xCV RX2 82 yX2_isWord cX2_isWord 3 (some .boolean) 1 2 := ⟨xWS_mem 667 (by decide +kernel) rfl, xWS_mem 669 (by decide +kernel) rfl, xWS_mem 7 (by decide +kernel) rfl, xWS_mem 68 (by decide +kernel) rfl, xWS_mem 670 (by decide +kernel) rfl, rfl, by decide, by decide, by decide +kernel, _, rfl, rfl⟩
theorem cw_X2_89 : xCS RX2 89 yX2_namesOf cX2_namesOf 1 (some (.object "java/lang/String")) 1 := ⟨xWS_mem 739 (by decide +kernel) rfl, xWS_mem 740 (by decide +kernel) rfl, xWS_mem 68 (by decide +kernel) rfl, xWS_mem 741 (by decide +kernel) rfl, rfl, by decide, by decide, by decide +kernel⟩
theorem cw_X2_92 : xCU RX2 92 yJ0_indexOf_0f7a4 cJ0_indexOf_0f7a4 2 (some .int) 1 := ⟨xWS_mem 745 (by decide +kernel) rfl, xWS_mem 746 (by decide +kernel) rfl, xWS_mem 747 (by decide +kernel) rfl, xWS_mem 77 (by decide +kernel) rfl, xWS_mem 748 (by decide +kernel) rfl, rfl, rfl, by decide +kernel⟩
theorem cw_X2_98 : xCU RX2 98 yJ0_length_8abf5 cJ0_length_8abf5 1 (some .int) 0 := ⟨xWS_mem 671 (by decide +kernel) rfl, xWS_mem 672 (by decide +kernel) rfl, xWS_mem 673 (by decide +kernel) rfl, xWS_mem 77 (by decide +kernel) rfl, xWS_mem 674 (by decide +kernel) rfl, rfl, rfl, by decide +kernel⟩
theorem cw_X6_123 : xCS RX6 123 yX6_isUnder cX6_isUnder 4 (some .boolean) 2 := ⟨xWS_mem 401 (by decide +kernel) rfl, xWS_mem 402 (by decide +kernel) rfl, xWS_mem 66 (by decide +kernel) rfl, xWS_mem 403 (by decide +kernel) rfl, rfl, by decide, by decide, by decide +kernel⟩
theorem cw_X6_252 : xCV RX6 252 yX2_readText cX2_readText 1 (some .boolean) 0 2 := ⟨xWS_mem 635 (by decide +kernel) rfl, xWS_mem 636 (by decide +kernel) rfl, xWS_mem 637 (by decide +kernel) rfl, xWS_mem 68 (by decide +kernel) rfl, xWS_mem 638 (by decide +kernel) rfl, rfl, by decide, by decide, by decide +kernel, _, rfl, rfl⟩
theorem cw_X6_262 : xCV RX6 262 yX0_write cX0_write 3 none 2 0 := ⟨xWS_mem 816 (by decide +kernel) rfl, xWS_mem 817 (by decide +kernel) rfl, xWS_mem 818 (by decide +kernel) rfl, xWS_mem 67 (by decide +kernel) rfl, xWS_mem 819 (by decide +kernel) rfl, rfl, by decide, by decide, by decide +kernel, _, rfl, rfl⟩
theorem cw_X7_260 : xCV RX7 260 yX7_both cX7_both 2 (some .boolean) 1 7 := ⟨xWS_mem 1322 (by decide +kernel) rfl, xWS_mem 1324 (by decide +kernel) rfl, xWS_mem 55 (by decide +kernel) rfl, xWS_mem 73 (by decide +kernel) rfl, xWS_mem 1325 (by decide +kernel) rfl, rfl, by decide, by decide, by decide +kernel, _, rfl, rfl⟩
theorem cw_X7_263 : xCV RX7 263 yX7_isSign cX7_isSign 2 (some .boolean) 1 7 := ⟨xWS_mem 1349 (by decide +kernel) rfl, xWS_mem 1351 (by decide +kernel) rfl, xWS_mem 61 (by decide +kernel) rfl, xWS_mem 73 (by decide +kernel) rfl, xWS_mem 1352 (by decide +kernel) rfl, rfl, by decide, by decide, by decide +kernel, _, rfl, rfl⟩
theorem cw_X7_266 : xCV RX7 266 yX7_nextToken cX7_nextToken 3 none 0 7 := ⟨xWS_mem 1290 (by decide +kernel) rfl, xWS_mem 1292 (by decide +kernel) rfl, xWS_mem 48 (by decide +kernel) rfl, xWS_mem 73 (by decide +kernel) rfl, xWS_mem 1293 (by decide +kernel) rfl, rfl, by decide, by decide, by decide +kernel, _, rfl, rfl⟩
theorem cw_X7_269 : xCV RX7 269 yX7_step cX7_step 3 none 2 7 := ⟨xWS_mem 1342 (by decide +kernel) rfl, xWS_mem 1344 (by decide +kernel) rfl, xWS_mem 60 (by decide +kernel) rfl, xWS_mem 73 (by decide +kernel) rfl, xWS_mem 1345 (by decide +kernel) rfl, rfl, by decide, by decide, by decide +kernel, _, rfl, rfl⟩
theorem cw_X7_273 : xCV RX7 273 yX7_test cX7_test 3 (some .boolean) 1 7 := ⟨xWS_mem 1326 (by decide +kernel) rfl, xWS_mem 1328 (by decide +kernel) rfl, xWS_mem 56 (by decide +kernel) rfl, xWS_mem 73 (by decide +kernel) rfl, xWS_mem 1329 (by decide +kernel) rfl, rfl, by decide, by decide, by decide +kernel, _, rfl, rfl⟩
theorem cw_X7_276 : xCV RX7 276 yX7_sum cX7_sum 3 (some .boolean) 1 7 := ⟨xWS_mem 1330 (by decide +kernel) rfl, xWS_mem 1332 (by decide +kernel) rfl, xWS_mem 57 (by decide +kernel) rfl, xWS_mem 73 (by decide +kernel) rfl, xWS_mem 1333 (by decide +kernel) rfl, rfl, by decide, by decide, by decide +kernel, _, rfl, rfl⟩
theorem cw_X7_279 : xCV RX7 279 yX7_term cX7_term 3 (some .boolean) 1 7 := ⟨xWS_mem 1334 (by decide +kernel) rfl, xWS_mem 1336 (by decide +kernel) rfl, xWS_mem 58 (by decide +kernel) rfl, xWS_mem 73 (by decide +kernel) rfl, xWS_mem 1337 (by decide +kernel) rfl, rfl, by decide, by decide, by decide +kernel, _, rfl, rfl⟩
theorem cw_X7_282 : xCV RX7 282 yX7_part0 cX7_part0 2 (some .boolean) 1 7 := ⟨xWS_mem 1338 (by decide +kernel) rfl, xWS_mem 1340 (by decide +kernel) rfl, xWS_mem 59 (by decide +kernel) rfl, xWS_mem 73 (by decide +kernel) rfl, xWS_mem 1341 (by decide +kernel) rfl, rfl, by decide, by decide, by decide +kernel, _, rfl, rfl⟩
theorem cw_X7_288 : xCS RX7 288 yX7_isName cX7_isName 2 (some .boolean) 2 := ⟨xWS_mem 1346 (by decide +kernel) rfl, xWS_mem 1347 (by decide +kernel) rfl, xWS_mem 73 (by decide +kernel) rfl, xWS_mem 1348 (by decide +kernel) rfl, rfl, by decide, by decide, by decide +kernel⟩
theorem cw_X7_297 : xCV RX7 297 yX7_either cX7_either 2 (some .boolean) 1 7 := ⟨xWS_mem 1318 (by decide +kernel) rfl, xWS_mem 1320 (by decide +kernel) rfl, xWS_mem 54 (by decide +kernel) rfl, xWS_mem 73 (by decide +kernel) rfl, xWS_mem 1321 (by decide +kernel) rfl, rfl, by decide, by decide, by decide +kernel, _, rfl, rfl⟩
theorem cw_X7_303 : xCV RX7 303 yX7_key cX7_key 1 (some .int) 0 7 := ⟨xWS_mem 1306 (by decide +kernel) rfl, xWS_mem 1308 (by decide +kernel) rfl, xWS_mem 51 (by decide +kernel) rfl, xWS_mem 73 (by decide +kernel) rfl, xWS_mem 1309 (by decide +kernel) rfl, rfl, by decide, by decide, by decide +kernel, _, rfl, rfl⟩
theorem cw_X7_306 : xCV RX7 306 yX7_parse cX7_parse 3 (some .int) 0 7 := ⟨xWS_mem 1286 (by decide +kernel) rfl, xWS_mem 1288 (by decide +kernel) rfl, xWS_mem 47 (by decide +kernel) rfl, xWS_mem 73 (by decide +kernel) rfl, xWS_mem 1289 (by decide +kernel) rfl, rfl, by decide, by decide, by decide +kernel, _, rfl, rfl⟩
theorem fl_X2_41 : xFL RX2 41 2 7 := ⟨_, rfl, inX2, rfl, xWS_mem 134 (by decide +kernel) rfl⟩
theorem fl_X6_256 : xFL RX6 256 2 3 := ⟨_, rfl, inX2, rfl, xWS_mem 129 (by decide +kernel) rfl⟩
theorem fl_X6_266 : xFL RX6 266 2 7 := ⟨_, rfl, inX2, rfl, xWS_mem 135 (by decide +kernel) rfl⟩
theorem fl_X6_303 : xFL RX6 303 4 2 := ⟨_, rfl, inX4, rfl, xWS_mem 287 (by decide +kernel) rfl⟩
theorem fl_X6_305 : xFL RX6 305 4 3 := ⟨_, rfl, inX4, rfl, xWS_mem 288 (by decide +kernel) rfl⟩
theorem fl_X7_285 : xFL RX7 285 7 25 := ⟨_, rfl, inX7, rfl, xWS_mem 948 (by decide +kernel) rfl⟩
theorem fl_X7_291 : xFL RX7 291 7 22 := ⟨_, rfl, inX7, rfl, xWS_mem 945 (by decide +kernel) rfl⟩
theorem fl_X7_294 : xFL RX7 294 7 21 := ⟨_, rfl, inX7, rfl, xWS_mem 944 (by decide +kernel) rfl⟩
theorem fp_X2_41 : xFP RX2 41 2 7 .int := ⟨_, tyX2, rfl, inX2, rfl, xWS_mem 134 (by decide +kernel) rfl, tyX2_ok, nmX2, rfl, rfl⟩
theorem fp_X6_259 : xFP RX6 259 5 11 .int := ⟨_, tyX5, rfl, inX5, rfl, xWS_mem 194 (by decide +kernel) rfl, tyX5_ok, nmX5, rfl, rfl⟩
theorem fp_X7_254 : xFP RX7 254 7 24 .int := ⟨_, tyX7, rfl, inX7, rfl, xWS_mem 947 (by decide +kernel) rfl, tyX7_ok, nmX7, rfl, rfl⟩
theorem fp_X7_285 : xFP RX7 285 7 25 .int := ⟨_, tyX7, rfl, inX7, rfl, xWS_mem 948 (by decide +kernel) rfl, tyX7_ok, nmX7, rfl, rfl⟩
theorem fp_X7_291 : xFP RX7 291 7 22 .int := ⟨_, tyX7, rfl, inX7, rfl, xWS_mem 945 (by decide +kernel) rfl, tyX7_ok, nmX7, rfl, rfl⟩
theorem fp_X7_294 : xFP RX7 294 7 21 .int := ⟨_, tyX7, rfl, inX7, rfl, xWS_mem 944 (by decide +kernel) rfl, tyX7_ok, nmX7, rfl, rfl⟩
theorem ml_J1_38 : Cond.methodLink RJ1 38 Lib.Math.min.name ∈ xWS := xWS_mem 761 (by decide +kernel) rfl
theorem ml_J1_92 : Cond.methodLink RJ1 92 Lib.Math.max.name ∈ xWS := xWS_mem 760 (by decide +kernel) rfl
