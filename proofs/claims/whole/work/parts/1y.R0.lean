def f_X6_isUnder_c4 (a0 : Int32) (a1 : Int32) : Nat → Int32 → Int32 → xH → Option (Int32 × xH)
  | 0, _, _, _ => none
  | n + 1, v2, v3, h =>
    if 6 ≤ v3 then (some (0, h)) else (if v2 < 0 then (some (0, h)) else (if v2 = a1 then (some (1, h)) else (gd v2 6 <| nm (xAbv (Int32.toNatClampNeg v2)) fun x1 => f_X6_isUnder_c4 a0 a1 n x1 (v3 + 1) h)))
set_option maxRecDepth 20000 in
set_option maxHeartbeats 2000000 in
theorem t_X6_isUnder_c4 {l : Launch} {γ : xG} {a0 : Int32} {a1 : Int32} {r : Int32} {hr : xH} {C : xCx} (hF : xF C cX6_isUnder RX6 4 0 γ xSC (some (.int r)) hr l (some .boolean)) : ∀ (n : Nat) (v2 : Int32) (v3 : Int32) (h : xH), f_X6_isUnder_c4 a0 a1 n v2 v3 h = some (r, hr) → xB C h 4 [some (.int a0), some (.int a1), some (.int v2), some (.int v3)] [] := by
  intro n
  induction n with
  | zero => intro v2 v3 h e; cases e
  | succ n ih =>
    intro v2 v3 h e
    rw [f_X6_isUnder_c4] at e
    refine xB_iload_n hF dX6_isUnder_4 rfl ?_
    refine xB_bipush hF dX6_isUnder_5 kb_6 ?_
    refine xB_icmp_ge (tgt := 33) hF dX6_isUnder_7 rfl e (fun _ e => ?_) (fun _ e => ?_)
    · refine xB_iconst hF dX6_isUnder_33 ki_0 ?_
      exact xB_zreturn hF dX6_isUnder_34 rfl e
    · refine xB_iload_n hF dX6_isUnder_10 rfl ?_
      refine xB_if_lt (tgt := 33) hF dX6_isUnder_11 rfl e (fun _ e => ?_) (fun _ e => ?_)
      · refine xB_iconst hF dX6_isUnder_33 ki_0 ?_
        exact xB_zreturn hF dX6_isUnder_34 rfl e
      · refine xB_iload_n hF dX6_isUnder_14 rfl ?_
        refine xB_iload_n hF dX6_isUnder_15 rfl ?_
        refine xB_icmp_ne (tgt := 21) hF dX6_isUnder_16 rfl e (fun _ e => ?_) (fun _ e => ?_)
        · refine xB_iconst hF dX6_isUnder_19 ki_1 ?_
          exact xB_zreturn hF dX6_isUnder_20 rfl e
        · refine xB_above hF dX6_isUnder_21 ?_
          refine xB_iload_n hF dX6_isUnder_24 rfl ?_
          refine xB_abld hF dX6_isUnder_25 e (fun e => ?_)
          refine xB_istore_n (L' := [_, _, _, _]) hF dX6_isUnder_26 rfl rfl rfl ?_
          replace e := nm_of e
          refine xB_iinc (L' := [_, _, _, _]) hF dX6_isUnder_27 rfl ki_1 rfl rfl rfl ?_
          refine xB_goto (tgt := 4) hF dX6_isUnder_30 rfl ?_
          exact xB_l (ih _ _ _ e) (And.intro rfl (And.intro rfl (And.intro rfl (And.intro rfl (True.intro)))))
def f_X6_isUnder (a0 : Int32) (a1 : Int32) (h : xH) : Option (Int32 × xH) :=
    f_X6_isUnder_c4 a0 a1 xN a0 0 h
set_option maxRecDepth 20000 in
set_option maxHeartbeats 2000000 in
theorem t_X6_isUnder {l : Launch} {γ : xG} {a0 : Int32} {a1 : Int32} {h : xH} {r : Int32} {hr : xH} (e : f_X6_isUnder a0 a1 h = some (r, hr)) : xCT l γ xSC yX6_isUnder cX6_isUnder 4 (some .boolean) 0 [.int a0, .int a1] h (some (.int r)) hr := by
  refine xCT.of (own := RX6) (L := [some (.int a0), some (.int a1), none, none]) (by decide) rfl rfl rfl (fun C hF => ?_)
  unfold f_X6_isUnder at e
  refine xB_iload_n hF dX6_isUnder_0 rfl ?_
  refine xB_istore_n (L' := [_, _, _, _]) hF dX6_isUnder_1 rfl rfl rfl ?_
  refine xB_iconst hF dX6_isUnder_2 ki_0 ?_
  refine xB_istore_n (L' := [_, _, _, _]) hF dX6_isUnder_3 rfl rfl rfl ?_
  exact xB_l (t_X6_isUnder_c4 hF _ _ _ _ e) (And.intro rfl (And.intro rfl (And.intro rfl (And.intro rfl (True.intro)))))
def f_X6_as (a1 : Int32) (a2 : Int32) (h : xH) : Option (Int32 × xH) :=
    bn (f_X6_isDay a1 h) fun r1 h2 => if r1 = 0 then (some ((-1000000001), h2)) else (bn (f_X6_isKind a2 h2) fun r4 h5 => if r4 = 0 then (some ((-1000000001), h5)) else (gd a1 10 <| bn (f_X6_isUnder (h5 25 (Int32.toNatClampNeg a1)) a2 h5) fun r7 h8 => if r7 = 0 then (some ((-1000000012), h8)) else (gd a1 10 <| some (h8 26 (Int32.toNatClampNeg a1), h8))))
set_option maxRecDepth 20000 in
set_option maxHeartbeats 2000000 in
theorem t_X6_as {l : Launch} {γ : xG} {a1 : Int32} {a2 : Int32} {h : xH} {r : Int32} {hr : xH} (e : f_X6_as a1 a2 h = some (r, hr)) : xCT l γ xSC yX6_as cX6_as 3 (some .int) 2 [.ref (γ.2.2.2 0), .int a1, .int a2] h (some (.int r)) hr := by
  refine xCT.of (own := RX6) (L := [some (.ref (γ.2.2.2 0)), some (.int a1), some (.int a2)]) (by decide) rfl rfl rfl (fun C hF => ?_)
  unfold f_X6_as at e
  refine xB_aload_n hF dX6_as_0 rfl ?_
  refine xB_iload_n hF dX6_as_1 rfl ?_
  obtain ⟨r1, h2, e3, e⟩ := bn_of e
  refine xB_callVi hF dX6_as_2 (t_X6_isDay e3) cw_X6_94 sC_0 rfl rfl rfl rfl rfl ?_
  refine xB_if_eq (tgt := 15) hF dX6_as_5 rfl e (fun _ e => ?_) (fun _ e => ?_)
  · refine xB_ldc hF dX6_as_15 kc_X6_85 ?_
    exact xB_ireturn hF dX6_as_17 e
  · refine xB_iload_n hF dX6_as_8 rfl ?_
    obtain ⟨r4, h5, e6, e⟩ := bn_of e
    refine xB_callSi hF dX6_as_9 (t_X6_isKind e6) cw_X6_74 rfl rfl rfl rfl ?_
    refine xB_if_ne (tgt := 18) hF dX6_as_12 rfl e (fun _ e => ?_) (fun _ e => ?_)
    · refine xB_ldc hF dX6_as_15 kc_X6_85 ?_
      exact xB_ireturn hF dX6_as_17 e
    · refine xB_aload_n hF dX6_as_18 rfl ?_
      refine xB_get hF dX6_as_19 fl_X6_28 sC_0 rfl rfl ?_
      refine xB_get hF dX6_as_22 fl_X6_97 isX5_24.1 rfl rfl ?_
      refine xB_iload_n hF dX6_as_25 rfl ?_
      refine xB_iald hF dX6_as_26 sC_25 e (fun e => ?_)
      refine xB_iload_n hF dX6_as_27 rfl ?_
      obtain ⟨r7, h8, e9, e⟩ := bn_of e
      refine xB_callSi hF dX6_as_28 (t_X6_isUnder e9) cw_X6_123 rfl rfl rfl rfl ?_
      refine xB_if_eq (tgt := 46) hF dX6_as_31 rfl e (fun _ e => ?_) (fun _ e => ?_)
      · refine xB_ldc hF dX6_as_46 kc_X6_127 ?_
        exact xB_ireturn hF dX6_as_48 e
      · refine xB_aload_n hF dX6_as_34 rfl ?_
        refine xB_get hF dX6_as_35 fl_X6_28 sC_0 rfl rfl ?_
        refine xB_get hF dX6_as_38 fl_X6_100 isX5_24.1 rfl rfl ?_
        refine xB_iload_n hF dX6_as_41 rfl ?_
        refine xB_iald hF dX6_as_42 sC_26 e (fun e => ?_)
        refine xB_goto (tgt := 48) hF dX6_as_43 rfl ?_
        exact xB_ireturn hF dX6_as_48 e
def f_J0_isLatin1 (w : Nat) (h : xH) : Option (Int32 × xH) :=
    if (1 : Int32) = 0 then (some (0, h)) else (if (0 : Int32) = 0 then (some (1, h)) else (some (0, h)))
set_option maxRecDepth 20000 in
set_option maxHeartbeats 2000000 in
theorem t_J0_isLatin1 {l : Launch} {γ : xG} {w : Nat} {h : xH} {r : Int32} {hr : xH} (hw : w < 6) (e : f_J0_isLatin1 w h = some (r, hr)) : xCT l γ xSC yJ0_isLatin1_aae02 cJ0_isLatin1_aae02 1 (some .boolean) 3 [.ref (γ.2.2.1.2.1 w)] h (some (.int r)) hr := by
  refine xCT.of (own := RJ0) (L := [some (.ref (γ.2.2.1.2.1 w))]) (by decide) rfl rfl rfl (fun C hF => ?_)
  unfold f_J0_isLatin1 at e
  refine xB_compact hF dJ0_isLatin1_aae02_0 ?_
  refine xB_if_eq (tgt := 17) hF dJ0_isLatin1_aae02_3 rfl e (fun _ e => ?_) (fun _ e => ?_)
  · refine xB_iconst hF dJ0_isLatin1_aae02_17 ki_0 ?_
    exact xB_zreturn hF dJ0_isLatin1_aae02_18 rfl e
  · refine xB_aload_n hF dJ0_isLatin1_aae02_6 rfl ?_
    refine xB_scod hF dJ0_isLatin1_aae02_7 hw ?_
    refine xB_if_ne (tgt := 17) hF dJ0_isLatin1_aae02_10 rfl e (fun _ e => ?_) (fun _ e => ?_)
    · refine xB_iconst hF dJ0_isLatin1_aae02_13 ki_1 ?_
      refine xB_goto (tgt := 18) hF dJ0_isLatin1_aae02_14 rfl ?_
      exact xB_zreturn hF dJ0_isLatin1_aae02_18 rfl e
    · refine xB_iconst hF dJ0_isLatin1_aae02_17 ki_0 ?_
      exact xB_zreturn hF dJ0_isLatin1_aae02_18 rfl e
def f_J1_charAt (a0 : Nat) (a1 : Int32) (h : xH) : Option (Int32 × xH) :=
    gx a1 (Int32.ofNat (xLen.getD a0 0)) <| gd a1 (xLen.getD a0 0) <| gch ((Int32.toUInt32 (((xByt.getD a0 []).getD (Int32.toNatClampNeg a1) 0) &&& 255) % 65536).toInt32) (some ((Int32.toUInt32 (((xByt.getD a0 []).getD (Int32.toNatClampNeg a1) 0) &&& 255) % 65536).toInt32, h))
set_option maxRecDepth 20000 in
set_option maxHeartbeats 2000000 in
theorem t_J1_charAt {l : Launch} {γ : xG} {a0 : Nat} {a1 : Int32} {h : xH} {r : Int32} {hr : xH} (ha0 : a0 < 6) (e : f_J1_charAt a0 a1 h = some (r, hr)) : xCT l γ xSC yJ1_charAt_3b067 cJ1_charAt_3b067 2 (some .char) 3 [.ref (γ.2.2.1.2.2 a0), .int a1] h (some (.int r)) hr := by
  refine xCT.of (own := RJ1) (L := [some (.ref (γ.2.2.1.2.2 a0)), some (.int a1)]) (by decide) rfl rfl rfl (fun C hF => ?_)
  unfold f_J1_charAt at e
  refine xB_iload_n hF dJ1_charAt_3b067_0 rfl ?_
  refine xB_aload_n hF dJ1_charAt_3b067_1 rfl ?_
  refine xB_blen hF dJ1_charAt_3b067_2 ha0 ?_
  refine xB_chk hF dJ1_charAt_3b067_3 e (fun e => ?_)
  refine xB_aload_n hF dJ1_charAt_3b067_6 rfl ?_
  refine xB_iload_n hF dJ1_charAt_3b067_7 rfl ?_
  refine xB_bald hF dJ1_charAt_3b067_8 ha0 e (fun e => ?_)
  refine xB_sipush hF dJ1_charAt_3b067_9 ks_255 ?_
  refine xB_iand hF dJ1_charAt_3b067_12 ?_
  refine xB_i2c hF dJ1_charAt_3b067_13 ?_
  exact xB_creturn hF dJ1_charAt_3b067_14 e
def f_J0_charAt (w : Nat) (a1 : Int32) (h : xH) : Option (Int32 × xH) :=
    bn (f_J0_isLatin1 w h) fun r1 h2 => if r1 = 0 then (none) else (bn (f_J1_charAt w a1 h2) fun r4 h5 => gch r4 (some (r4, h5)))
set_option maxRecDepth 20000 in
set_option maxHeartbeats 2000000 in
theorem t_J0_charAt {l : Launch} {γ : xG} {w : Nat} {a1 : Int32} {h : xH} {r : Int32} {hr : xH} (hw : w < 6) (e : f_J0_charAt w a1 h = some (r, hr)) : xCT l γ xSC yJ0_charAt_5068e cJ0_charAt_5068e 2 (some .char) 4 [.ref (γ.2.2.1.2.1 w), .int a1] h (some (.int r)) hr := by
  refine xCT.of (own := RJ0) (L := [some (.ref (γ.2.2.1.2.1 w)), some (.int a1)]) (by decide) rfl rfl rfl (fun C hF => ?_)
  unfold f_J0_charAt at e
  refine xB_aload_n hF dJ0_charAt_5068e_0 rfl ?_
  obtain ⟨r1, h2, e3, e⟩ := bn_of e
  refine xB_callTi hF dJ0_charAt_5068e_1 (t_J0_isLatin1 hw e3) cw_J0_492 hw rfl rfl rfl rfl ?_
  refine xB_if_eq (tgt := 16) hF dJ0_charAt_5068e_4 rfl e (fun _ e => ?_) (fun _ e => ?_)
  · cases e
  · refine xB_aload_n hF dJ0_charAt_5068e_7 rfl ?_
    refine xB_sval hF dJ0_charAt_5068e_8 hw ?_
    refine xB_iload_n hF dJ0_charAt_5068e_11 rfl ?_
    obtain ⟨r4, h5, e6, e⟩ := bn_of e
    refine xB_callSi hF dJ0_charAt_5068e_12 (t_J1_charAt hw e6) cw_J0_495 rfl rfl rfl rfl ?_
    exact xB_creturn hF dJ0_charAt_5068e_15 e
def f_J0_coder (w : Nat) (h : xH) : Option (Int32 × xH) :=
    if (1 : Int32) = 0 then (some (1, h)) else (some (0, h))
set_option maxRecDepth 20000 in
set_option maxHeartbeats 2000000 in
theorem t_J0_coder {l : Launch} {γ : xG} {w : Nat} {h : xH} {r : Int32} {hr : xH} (hw : w < 6) (e : f_J0_coder w h = some (r, hr)) : xCT l γ xSC yJ0_coder_7d493 cJ0_coder_7d493 1 (some .byte) 3 [.ref (γ.2.2.1.2.1 w)] h (some (.int r)) hr := by
  refine xCT.of (own := RJ0) (L := [some (.ref (γ.2.2.1.2.1 w))]) (by decide) rfl rfl rfl (fun C hF => ?_)
  unfold f_J0_coder at e
  refine xB_compact hF dJ0_coder_7d493_0 ?_
  refine xB_if_eq (tgt := 13) hF dJ0_coder_7d493_3 rfl e (fun _ e => ?_) (fun _ e => ?_)
  · refine xB_iconst hF dJ0_coder_7d493_13 ki_1 ?_
    exact xB_yreturn hF dJ0_coder_7d493_14 rfl e
  · refine xB_aload_n hF dJ0_coder_7d493_6 rfl ?_
    refine xB_scod hF dJ0_coder_7d493_7 hw ?_
    refine xB_goto (tgt := 14) hF dJ0_coder_7d493_10 rfl ?_
    exact xB_yreturn hF dJ0_coder_7d493_14 rfl e
def f_J0_length (w : Nat) (h : xH) : Option (Int32 × xH) :=
    bn (f_J0_coder w h) fun r1 h2 => some ((Int32.ofNat (xLen.getD w 0)) >>> (r1 &&& 31), h2)
set_option maxRecDepth 20000 in
set_option maxHeartbeats 2000000 in
theorem t_J0_length {l : Launch} {γ : xG} {w : Nat} {h : xH} {r : Int32} {hr : xH} (hw : w < 6) (e : f_J0_length w h = some (r, hr)) : xCT l γ xSC yJ0_length_8abf5 cJ0_length_8abf5 1 (some .int) 4 [.ref (γ.2.2.1.2.1 w)] h (some (.int r)) hr := by
  refine xCT.of (own := RJ0) (L := [some (.ref (γ.2.2.1.2.1 w))]) (by decide) rfl rfl rfl (fun C hF => ?_)
  unfold f_J0_length at e
  refine xB_aload_n hF dJ0_length_8abf5_0 rfl ?_
  refine xB_sval hF dJ0_length_8abf5_1 hw ?_
  refine xB_blen hF dJ0_length_8abf5_4 hw ?_
  refine xB_aload_n hF dJ0_length_8abf5_5 rfl ?_
  obtain ⟨r1, h2, e3, e⟩ := bn_of e
  refine xB_callTi hF dJ0_length_8abf5_6 (t_J0_coder hw e3) cw_J0_335 hw rfl rfl rfl rfl ?_
  refine xB_ishr hF dJ0_length_8abf5_9 ?_
  exact xB_ireturn hF dJ0_length_8abf5_10 e
def f_X2_isWord_c20 (a1 : Nat) : Nat → Int32 → xH → Option (Int32 × xH)
  | 0, _, _ => none
  | n + 1, v2, h =>
    bn (f_J0_length a1 h) fun r1 h2 => if r1 ≤ v2 then (some (1, h2)) else (gd ((h2 21 3) + v2) 96 <| bn (f_J0_charAt a1 v2 h2) fun r4 h5 => if (h2 22 (Int32.toNatClampNeg ((h2 21 3) + v2))) = r4 then (f_X2_isWord_c20 a1 n (v2 + 1) h5) else (some (0, h5)))
set_option maxRecDepth 20000 in
set_option maxHeartbeats 2000000 in
theorem t_X2_isWord_c20 {l : Launch} {γ : xG} {a1 : Nat} {r : Int32} {hr : xH} {C : xCx} (hF : xF C cX2_isWord RX2 3 5 γ xSC (some (.int r)) hr l (some .boolean)) (ha1 : a1 < 6) : ∀ (n : Nat) (v2 : Int32) (h : xH), f_X2_isWord_c20 a1 n v2 h = some (r, hr) → xB C h 20 [some (.ref (γ.2.2.2 21)), some (.ref (γ.2.2.1.2.1 a1)), some (.int v2)] [] := by
  intro n
  induction n with
  | zero => intro v2 h e; cases e
  | succ n ih =>
    intro v2 h e
    rw [f_X2_isWord_c20] at e
    refine xB_iload_n hF dX2_isWord_20 rfl ?_
    refine xB_aload_n hF dX2_isWord_21 rfl ?_
    obtain ⟨r1, h2, e3, e⟩ := bn_of e
    refine xB_callTi hF dX2_isWord_22 (t_J0_length ha1 e3) cw_X2_98 ha1 rfl rfl rfl rfl ?_
    refine xB_icmp_ge (tgt := 55) hF dX2_isWord_25 rfl e (fun _ e => ?_) (fun _ e => ?_)
    · refine xB_iconst hF dX2_isWord_55 ki_1 ?_
      exact xB_zreturn hF dX2_isWord_56 rfl e
    · refine xB_aload_n hF dX2_isWord_28 rfl ?_
      refine xB_get hF dX2_isWord_29 fl_X2_9 sC_21 rfl rfl ?_
      refine xB_aload_n hF dX2_isWord_32 rfl ?_
      refine xB_get hF dX2_isWord_33 fl_X2_86 sC_21 rfl rfl ?_
      refine xB_iload_n hF dX2_isWord_36 rfl ?_
      refine xB_iadd hF dX2_isWord_37 ?_
      refine xB_iald hF dX2_isWord_38 sC_22 e (fun e => ?_)
      refine xB_aload_n hF dX2_isWord_39 rfl ?_
      refine xB_iload_n hF dX2_isWord_40 rfl ?_
      obtain ⟨r4, h5, e6, e⟩ := bn_of e
      refine xB_callTi hF dX2_isWord_41 (t_J0_charAt ha1 e6) cw_X2_100 ha1 rfl rfl rfl rfl ?_
      refine xB_icmp_eq (tgt := 49) hF dX2_isWord_44 rfl e (fun _ e => ?_) (fun _ e => ?_)
      · refine xB_iinc (L' := [_, _, _]) hF dX2_isWord_49 rfl ki_1 rfl rfl rfl ?_
        refine xB_goto (tgt := 20) hF dX2_isWord_52 rfl ?_
        exact xB_l (ih _ _ e) (And.intro rfl (And.intro rfl (And.intro rfl (True.intro))))
      · refine xB_iconst hF dX2_isWord_47 ki_0 ?_
        exact xB_zreturn hF dX2_isWord_48 rfl e
def f_X2_isWord (a1 : Nat) (h : xH) : Option (Int32 × xH) :=
    bn (f_J0_length a1 h) fun r1 h2 => if ((h 21 4) - (h 21 3)) = r1 then (f_X2_isWord_c20 a1 xN 0 h2) else (some (0, h2))
set_option maxRecDepth 20000 in
set_option maxHeartbeats 2000000 in
theorem t_X2_isWord {l : Launch} {γ : xG} {a1 : Nat} {h : xH} {r : Int32} {hr : xH} (ha1 : a1 < 6) (e : f_X2_isWord a1 h = some (r, hr)) : xCT l γ xSC yX2_isWord cX2_isWord 3 (some .boolean) 5 [.ref (γ.2.2.2 21), .ref (γ.2.2.1.2.1 a1)] h (some (.int r)) hr := by
  refine xCT.of (own := RX2) (L := [some (.ref (γ.2.2.2 21)), some (.ref (γ.2.2.1.2.1 a1)), none]) (by decide) rfl rfl rfl (fun C hF => ?_)
  unfold f_X2_isWord at e
  refine xB_aload_n hF dX2_isWord_0 rfl ?_
  refine xB_get hF dX2_isWord_1 fl_X2_22 sC_21 rfl rfl ?_
  refine xB_aload_n hF dX2_isWord_4 rfl ?_
  refine xB_get hF dX2_isWord_5 fl_X2_86 sC_21 rfl rfl ?_
  refine xB_isub hF dX2_isWord_8 ?_
  refine xB_aload_n hF dX2_isWord_9 rfl ?_
  obtain ⟨r1, h2, e3, e⟩ := bn_of e
  refine xB_callTi hF dX2_isWord_10 (t_J0_length ha1 e3) cw_X2_98 ha1 rfl rfl rfl rfl ?_
  refine xB_icmp_eq (tgt := 18) hF dX2_isWord_13 rfl e (fun _ e => ?_) (fun _ e => ?_)
  · refine xB_iconst hF dX2_isWord_18 ki_0 ?_
    refine xB_istore_n (L' := [_, _, _]) hF dX2_isWord_19 rfl rfl rfl ?_
    exact xB_l (t_X2_isWord_c20 hF ha1 _ _ _ e) (And.intro rfl (And.intro rfl (And.intro rfl (True.intro))))
  · refine xB_iconst hF dX2_isWord_16 ki_0 ?_
    exact xB_zreturn hF dX2_isWord_17 rfl e
def f_X2_keyText (a0 : Int32) (h : xH) : Option (Int32 × xH) :=
    if a0 = 0 then (some (0, h)) else (if a0 = 1 then (some (1, h)) else (some (2, h)))
set_option maxRecDepth 20000 in
set_option maxHeartbeats 2000000 in
theorem t_X2_keyText {l : Launch} {γ : xG} {a0 : Int32} {h : xH} {r : Int32} {hr : xH} (e : f_X2_keyText a0 h = some (r, hr)) : xCT l γ xSC yX2_keyText cX2_keyText 1 (some (.object "java/lang/String")) 0 [.int a0] h (some (.ref (γ.2.2.1.2.1 (Int32.toNatClampNeg r)))) hr := by
  refine xCT.of (own := RX2) (L := [some (.int a0)]) (by decide) rfl rfl rfl (fun C hF => ?_)
  unfold f_X2_keyText at e
  refine xB_iload_n hF dX2_keyText_0 rfl ?_
  rcases if_of e with ⟨c0, e⟩ | ⟨c0, e⟩
  · refine xB_lookup (off := 27) (tgt := 28) hF dX2_keyText_1 (by decide +kernel) (xlk c0 (by decide +kernel)) rfl ?_
    refine xB_ldcs (i := 0) hF dX2_keyText_28 rfl ?_
    exact xB_sreturn hF dX2_keyText_30 e
  rcases if_of e with ⟨c1, e⟩ | ⟨c1, e⟩
  · refine xB_lookup (off := 30) (tgt := 31) hF dX2_keyText_1 (by decide +kernel) (xlk c1 (by decide +kernel)) rfl ?_
    refine xB_ldcs (i := 1) hF dX2_keyText_31 rfl ?_
    exact xB_sreturn hF dX2_keyText_33 e
  refine xB_lookup (off := 33) (tgt := 34) hF dX2_keyText_1 (by decide +kernel) (xlkD [(0, 27), (1, 30)] (by have := xne (v := (0)) (n := 0) rfl c0; have := xne (v := (1)) (n := 1) rfl c1; simp only [List.forall_mem_cons, List.not_mem_nil, false_implies, implies_true, and_true]; omega)) rfl ?_
  refine xB_ldcs (i := 2) hF dX2_keyText_34 rfl ?_
  exact xB_sreturn hF dX2_keyText_36 e
def f_X2_keyAtHand_c28 (k2 : Int32 → xH → Option (Int32 × xH)) (v1 : Int32) (h : xH) : Option (Int32 × xH) :=
    k2 (v1 + 1) h
set_option maxRecDepth 20000 in
set_option maxHeartbeats 2000000 in
theorem t_X2_keyAtHand_c28 {l : Launch} {γ : xG} {k2 : Int32 → xH → Option (Int32 × xH)} {r : Int32} {hr : xH} {C : xCx} (hF : xF C cX2_keyAtHand RX2 2 6 γ xSC (some (.int r)) hr l (some .int)) (hk2 : ∀ (v1 : Int32) (h : xH), k2 v1 h = some (r, hr) → xB C h 2 [some (.ref (γ.2.2.2 21)), some (.int v1)] []) : ∀ (v1 : Int32) (h : xH), f_X2_keyAtHand_c28 k2 v1 h = some (r, hr) → xB C h 28 [some (.ref (γ.2.2.2 21)), some (.int v1)] [] := by
  intro v1 h e
  unfold f_X2_keyAtHand_c28 at e
  refine xB_iinc (L' := [_, _]) hF dX2_keyAtHand_28 rfl ki_1 rfl rfl rfl ?_
  refine xB_goto (tgt := 2) hF dX2_keyAtHand_31 rfl ?_
  exact xB_l (hk2 _ _ e) (And.intro rfl (And.intro rfl (True.intro)))
def f_X2_keyAtHand_c2 : Nat → Int32 → xH → Option (Int32 × xH)
  | 0, _, _ => none
  | n + 1, v1, h =>
    if 3 ≤ v1 then (some ((-1), h)) else (if (h 21 5) = 3 then (bn (f_X2_keyText v1 h) fun r1 h2 => gd r1 6 <| bn (f_X2_isWord (Int32.toNatClampNeg r1) h2) fun r4 h5 => if r4 = 0 then (f_X2_keyAtHand_c28 (f_X2_keyAtHand_c2 n) v1 h5) else (some (v1, h5))) else (f_X2_keyAtHand_c28 (f_X2_keyAtHand_c2 n) v1 h))
set_option maxRecDepth 20000 in
set_option maxHeartbeats 2000000 in
theorem t_X2_keyAtHand_c2 {l : Launch} {γ : xG} {r : Int32} {hr : xH} {C : xCx} (hF : xF C cX2_keyAtHand RX2 2 6 γ xSC (some (.int r)) hr l (some .int)) : ∀ (n : Nat) (v1 : Int32) (h : xH), f_X2_keyAtHand_c2 n v1 h = some (r, hr) → xB C h 2 [some (.ref (γ.2.2.2 21)), some (.int v1)] [] := by
  intro n
  induction n with
  | zero => intro v1 h e; cases e
  | succ n ih =>
    intro v1 h e
    rw [f_X2_keyAtHand_c2] at e
    refine xB_iload_n hF dX2_keyAtHand_2 rfl ?_
    refine xB_iconst hF dX2_keyAtHand_3 ki_3 ?_
    refine xB_icmp_ge (tgt := 34) hF dX2_keyAtHand_4 rfl e (fun _ e => ?_) (fun _ e => ?_)
    · refine xB_iconst hF dX2_keyAtHand_34 ki_m1 ?_
      exact xB_ireturn hF dX2_keyAtHand_35 e
    · refine xB_aload_n hF dX2_keyAtHand_7 rfl ?_
      refine xB_get hF dX2_keyAtHand_8 fl_X2_25 sC_21 rfl rfl ?_
      refine xB_iconst hF dX2_keyAtHand_11 ki_3 ?_
      refine xB_icmp_ne (tgt := 28) hF dX2_keyAtHand_12 rfl e (fun _ e => ?_) (fun _ e => ?_)
      · refine xB_aload_n hF dX2_keyAtHand_15 rfl ?_
        refine xB_iload_n hF dX2_keyAtHand_16 rfl ?_
        obtain ⟨r1, h2, e3, e⟩ := bn_of e
        refine xB_callSs hF dX2_keyAtHand_17 (t_X2_keyText e3) cw_X2_78 rfl rfl rfl rfl ?_
        obtain ⟨hs_r1, e⟩ := gd_of e
        replace hs_r1 := vp_in_lt hs_r1
        obtain ⟨r4, h5, e6, e⟩ := bn_of e
        refine xB_callVi hF dX2_keyAtHand_20 (t_X2_isWord hs_r1 e6) cw_X2_82 sC_21 rfl rfl rfl rfl rfl ?_
        refine xB_if_eq (tgt := 28) hF dX2_keyAtHand_23 rfl e (fun _ e => ?_) (fun _ e => ?_)
        · exact xB_l (t_X2_keyAtHand_c28 hF ih _ _ e) (And.intro rfl (And.intro rfl (True.intro)))
        · refine xB_iload_n hF dX2_keyAtHand_26 rfl ?_
          exact xB_ireturn hF dX2_keyAtHand_27 e
      · exact xB_l (t_X2_keyAtHand_c28 hF ih _ _ e) (And.intro rfl (And.intro rfl (True.intro)))
def f_X2_keyAtHand (h : xH) : Option (Int32 × xH) :=
    f_X2_keyAtHand_c2 xN 0 h
set_option maxRecDepth 20000 in
set_option maxHeartbeats 2000000 in
theorem t_X2_keyAtHand {l : Launch} {γ : xG} {h : xH} {r : Int32} {hr : xH} (e : f_X2_keyAtHand h = some (r, hr)) : xCT l γ xSC yX2_keyAtHand cX2_keyAtHand 2 (some .int) 6 [.ref (γ.2.2.2 21)] h (some (.int r)) hr := by
  refine xCT.of (own := RX2) (L := [some (.ref (γ.2.2.2 21)), none]) (by decide) rfl rfl rfl (fun C hF => ?_)
  unfold f_X2_keyAtHand at e
  refine xB_iconst hF dX2_keyAtHand_0 ki_0 ?_
  refine xB_istore_n (L' := [_, _]) hF dX2_keyAtHand_1 rfl rfl rfl ?_
  exact xB_l (t_X2_keyAtHand_c2 hF _ _ _ e) (And.intro rfl (And.intro rfl (True.intro)))
def f_J1_canEncode (a0 : Int32) (h : xH) : Option (Int32 × xH) :=
    if a0 < 0 then (some (0, h)) else (if 255 < a0 then (some (0, h)) else (some (1, h)))
set_option maxRecDepth 20000 in
set_option maxHeartbeats 2000000 in
theorem t_J1_canEncode {l : Launch} {γ : xG} {a0 : Int32} {h : xH} {r : Int32} {hr : xH} (e : f_J1_canEncode a0 h = some (r, hr)) : xCT l γ xSC yJ1_canEncode_9a6ad cJ1_canEncode_9a6ad 1 (some .boolean) 3 [.int a0] h (some (.int r)) hr := by
  refine xCT.of (own := RJ1) (L := [some (.int a0)]) (by decide) rfl rfl rfl (fun C hF => ?_)
  unfold f_J1_canEncode at e
  refine xB_iload_n hF dJ1_canEncode_9a6ad_0 rfl ?_
  refine xB_if_lt (tgt := 15) hF dJ1_canEncode_9a6ad_1 rfl e (fun _ e => ?_) (fun _ e => ?_)
  · refine xB_iconst hF dJ1_canEncode_9a6ad_15 ki_0 ?_
    exact xB_zreturn hF dJ1_canEncode_9a6ad_16 rfl e
  · refine xB_iload_n hF dJ1_canEncode_9a6ad_4 rfl ?_
    refine xB_sipush hF dJ1_canEncode_9a6ad_5 ks_255 ?_
    refine xB_icmp_gt (tgt := 15) hF dJ1_canEncode_9a6ad_8 rfl e (fun _ e => ?_) (fun _ e => ?_)
    · refine xB_iconst hF dJ1_canEncode_9a6ad_15 ki_0 ?_
      exact xB_zreturn hF dJ1_canEncode_9a6ad_16 rfl e
    · refine xB_iconst hF dJ1_canEncode_9a6ad_11 ki_1 ?_
      refine xB_goto (tgt := 16) hF dJ1_canEncode_9a6ad_12 rfl ?_
      exact xB_zreturn hF dJ1_canEncode_9a6ad_16 rfl e
def f_J1_indexOfChar_c7 (a0 : Nat) (a1 : Int32) (a2 : Int32) (a3 : Int32) : Nat → Int32 → Int32 → xH → Option (Int32 × xH)
  | 0, _, _, _ => none
  | n + 1, v4, v5, h =>
    if a3 ≤ v5 then (some ((-1), h)) else (gd v5 (xLen.getD a0 0) <| if ((xByt.getD a0 []).getD (Int32.toNatClampNeg v5) 0) = v4 then (some (v5, h)) else (f_J1_indexOfChar_c7 a0 a1 a2 a3 n v4 (v5 + 1) h))
set_option maxRecDepth 20000 in
set_option maxHeartbeats 2000000 in
theorem t_J1_indexOfChar_c7 {l : Launch} {γ : xG} {a0 : Nat} {a1 : Int32} {a2 : Int32} {a3 : Int32} {r : Int32} {hr : xH} {C : xCx} (hF : xF C cJ1_indexOfChar_4cfef RJ1 6 3 γ xSC (some (.int r)) hr l (some .int)) (ha0 : a0 < 6) : ∀ (n : Nat) (v4 : Int32) (v5 : Int32) (h : xH), f_J1_indexOfChar_c7 a0 a1 a2 a3 n v4 v5 h = some (r, hr) → xB C h 7 [some (.ref (γ.2.2.1.2.2 a0)), some (.int a1), some (.int a2), some (.int a3), some (.int v4), some (.int v5)] [] := by
  intro n
  induction n with
  | zero => intro v4 v5 h e; cases e
  | succ n ih =>
    intro v4 v5 h e
    rw [f_J1_indexOfChar_c7] at e
    refine xB_iload hF dJ1_indexOfChar_4cfef_7 rfl ?_
    refine xB_iload_n hF dJ1_indexOfChar_4cfef_9 rfl ?_
    refine xB_icmp_ge (tgt := 31) hF dJ1_indexOfChar_4cfef_10 rfl e (fun _ e => ?_) (fun _ e => ?_)
    · refine xB_iconst hF dJ1_indexOfChar_4cfef_31 ki_m1 ?_
      exact xB_ireturn hF dJ1_indexOfChar_4cfef_32 e
    · refine xB_aload_n hF dJ1_indexOfChar_4cfef_13 rfl ?_
      refine xB_iload hF dJ1_indexOfChar_4cfef_14 rfl ?_
      refine xB_bald hF dJ1_indexOfChar_4cfef_16 ha0 e (fun e => ?_)
      refine xB_iload hF dJ1_indexOfChar_4cfef_17 rfl ?_
      refine xB_icmp_ne (tgt := 25) hF dJ1_indexOfChar_4cfef_19 rfl e (fun _ e => ?_) (fun _ e => ?_)
      · refine xB_iload hF dJ1_indexOfChar_4cfef_22 rfl ?_
        exact xB_ireturn hF dJ1_indexOfChar_4cfef_24 e
      · refine xB_iinc (L' := [_, _, _, _, _, _]) hF dJ1_indexOfChar_4cfef_25 rfl ki_1 rfl rfl rfl ?_
        refine xB_goto (tgt := 7) hF dJ1_indexOfChar_4cfef_28 rfl ?_
        exact xB_l (ih _ _ _ e) (And.intro rfl (And.intro rfl (And.intro rfl (And.intro rfl (And.intro rfl (And.intro rfl (True.intro)))))))
def f_J1_indexOfChar (a0 : Nat) (a1 : Int32) (a2 : Int32) (a3 : Int32) (h : xH) : Option (Int32 × xH) :=
    nm ((Int32.toInt8 a1).toInt32) fun x1 => f_J1_indexOfChar_c7 a0 a1 a2 a3 xN x1 a2 h
set_option maxRecDepth 20000 in
set_option maxHeartbeats 2000000 in
theorem t_J1_indexOfChar {l : Launch} {γ : xG} {a0 : Nat} {a1 : Int32} {a2 : Int32} {a3 : Int32} {h : xH} {r : Int32} {hr : xH} (ha0 : a0 < 6) (e : f_J1_indexOfChar a0 a1 a2 a3 h = some (r, hr)) : xCT l γ xSC yJ1_indexOfChar_4cfef cJ1_indexOfChar_4cfef 6 (some .int) 3 [.ref (γ.2.2.1.2.2 a0), .int a1, .int a2, .int a3] h (some (.int r)) hr := by
  refine xCT.of (own := RJ1) (L := [some (.ref (γ.2.2.1.2.2 a0)), some (.int a1), some (.int a2), some (.int a3), none, none]) (by decide) rfl rfl rfl (fun C hF => ?_)
  unfold f_J1_indexOfChar at e
  refine xB_iload_n hF dJ1_indexOfChar_4cfef_0 rfl ?_
  refine xB_i2b hF dJ1_indexOfChar_4cfef_1 ?_
  refine xB_istore (L' := [_, _, _, _, _, _]) hF dJ1_indexOfChar_4cfef_2 rfl rfl rfl ?_
  replace e := nm_of e
  refine xB_iload_n hF dJ1_indexOfChar_4cfef_4 rfl ?_
  refine xB_istore (L' := [_, _, _, _, _, _]) hF dJ1_indexOfChar_4cfef_5 rfl rfl rfl ?_
  exact xB_l (t_J1_indexOfChar_c7 hF ha0 _ _ _ _ e) (And.intro rfl (And.intro rfl (And.intro rfl (And.intro rfl (And.intro rfl (And.intro rfl (True.intro)))))))
def f_J1_indexOf (a0 : Nat) (a1 : Int32) (a2 : Int32) (a3 : Int32) (h : xH) : Option (Int32 × xH) :=
    bn (f_J1_canEncode a1 h) fun r1 h2 => if r1 = 0 then (some ((-1), h2)) else (nm (if a2 < 0 then 0 else a2) fun x4 => nm (if (Int32.ofNat (xLen.getD a0 0)) < a3 then (Int32.ofNat (xLen.getD a0 0)) else a3) fun x5 => if x4 < x5 then (bn (f_J1_indexOfChar a0 a1 x4 x5 h2) fun r6 h7 => some (r6, h7)) else (some ((-1), h2)))
set_option maxRecDepth 20000 in
set_option maxHeartbeats 2000000 in
theorem t_J1_indexOf {l : Launch} {γ : xG} {a0 : Nat} {a1 : Int32} {a2 : Int32} {a3 : Int32} {h : xH} {r : Int32} {hr : xH} (ha0 : a0 < 6) (e : f_J1_indexOf a0 a1 a2 a3 h = some (r, hr)) : xCT l γ xSC yJ1_indexOf_4cfef cJ1_indexOf_4cfef 4 (some .int) 4 [.ref (γ.2.2.1.2.2 a0), .int a1, .int a2, .int a3] h (some (.int r)) hr := by
  refine xCT.of (own := RJ1) (L := [some (.ref (γ.2.2.1.2.2 a0)), some (.int a1), some (.int a2), some (.int a3)]) (by decide) rfl rfl rfl (fun C hF => ?_)
  unfold f_J1_indexOf at e
  refine xB_iload_n hF dJ1_indexOf_4cfef_0 rfl ?_
  obtain ⟨r1, h2, e3, e⟩ := bn_of e
  refine xB_callSi hF dJ1_indexOf_4cfef_1 (t_J1_canEncode e3) cw_J1_88 rfl rfl rfl rfl ?_
  refine xB_if_ne (tgt := 9) hF dJ1_indexOf_4cfef_4 rfl e (fun _ e => ?_) (fun _ e => ?_)
  · refine xB_iconst hF dJ1_indexOf_4cfef_7 ki_m1 ?_
    exact xB_ireturn hF dJ1_indexOf_4cfef_8 e
  · refine xB_iload_n hF dJ1_indexOf_4cfef_9 rfl ?_
    refine xB_iconst hF dJ1_indexOf_4cfef_10 ki_0 ?_
    refine xB_mmax hF dJ1_indexOf_4cfef_11 ml_J1_92 mw_max rfl rfl ?_
    replace e := nm_of e
    refine xB_istore_n (L' := [_, _, _, _]) hF dJ1_indexOf_4cfef_14 rfl rfl rfl ?_
    refine xB_iload_n hF dJ1_indexOf_4cfef_15 rfl ?_
    refine xB_aload_n hF dJ1_indexOf_4cfef_16 rfl ?_
    refine xB_blen hF dJ1_indexOf_4cfef_17 ha0 ?_
    refine xB_mmin hF dJ1_indexOf_4cfef_18 ml_J1_38 mw_min rfl rfl ?_
    replace e := nm_of e
    refine xB_istore_n (L' := [_, _, _, _]) hF dJ1_indexOf_4cfef_21 rfl rfl rfl ?_
    refine xB_iload_n hF dJ1_indexOf_4cfef_22 rfl ?_
    refine xB_iload_n hF dJ1_indexOf_4cfef_23 rfl ?_
    refine xB_icmp_lt (tgt := 29) hF dJ1_indexOf_4cfef_24 rfl e (fun _ e => ?_) (fun _ e => ?_)
    · refine xB_aload_n hF dJ1_indexOf_4cfef_29 rfl ?_
      refine xB_iload_n hF dJ1_indexOf_4cfef_30 rfl ?_
      refine xB_iload_n hF dJ1_indexOf_4cfef_31 rfl ?_
      refine xB_iload_n hF dJ1_indexOf_4cfef_32 rfl ?_
      obtain ⟨r6, h7, e8, e⟩ := bn_of e
      refine xB_callSi hF dJ1_indexOf_4cfef_33 (t_J1_indexOfChar ha0 e8) cw_J1_95 rfl rfl rfl rfl ?_
      exact xB_ireturn hF dJ1_indexOf_4cfef_36 e
    · refine xB_iconst hF dJ1_indexOf_4cfef_27 ki_m1 ?_
      exact xB_ireturn hF dJ1_indexOf_4cfef_28 e
def f_J0_indexOf2 (w : Nat) (a1 : Int32) (a2 : Int32) (h : xH) : Option (Int32 × xH) :=
    bn (f_J0_isLatin1 w h) fun r1 h2 => if r1 = 0 then (none) else (bn (f_J0_length w h2) fun r7 h8 => bn (f_J1_indexOf w a1 a2 r7 h8) fun r10 h11 => some (r10, h11))
set_option maxRecDepth 20000 in
set_option maxHeartbeats 2000000 in
theorem t_J0_indexOf2 {l : Launch} {γ : xG} {w : Nat} {a1 : Int32} {a2 : Int32} {h : xH} {r : Int32} {hr : xH} (hw : w < 6) (e : f_J0_indexOf2 w a1 a2 h = some (r, hr)) : xCT l γ xSC yJ0_indexOf_7cf53 cJ0_indexOf_7cf53 3 (some .int) 5 [.ref (γ.2.2.1.2.1 w), .int a1, .int a2] h (some (.int r)) hr := by
  refine xCT.of (own := RJ0) (L := [some (.ref (γ.2.2.1.2.1 w)), some (.int a1), some (.int a2)]) (by decide) rfl rfl rfl (fun C hF => ?_)
  unfold f_J0_indexOf2 at e
  refine xB_aload_n hF dJ0_indexOf_7cf53_0 rfl ?_
  obtain ⟨r1, h2, e3, e⟩ := bn_of e
  refine xB_callTi hF dJ0_indexOf_7cf53_1 (t_J0_isLatin1 hw e3) cw_J0_492 hw rfl rfl rfl rfl ?_
  refine xB_if_eq (tgt := 23) hF dJ0_indexOf_7cf53_4 rfl e (fun _ e => ?_) (fun _ e => ?_)
  · cases e
  · refine xB_aload_n hF dJ0_indexOf_7cf53_7 rfl ?_
    refine xB_sval hF dJ0_indexOf_7cf53_8 hw ?_
    refine xB_iload_n hF dJ0_indexOf_7cf53_11 rfl ?_
    refine xB_iload_n hF dJ0_indexOf_7cf53_12 rfl ?_
    refine xB_aload_n hF dJ0_indexOf_7cf53_13 rfl ?_
    obtain ⟨r7, h8, e9, e⟩ := bn_of e
    refine xB_callTi hF dJ0_indexOf_7cf53_14 (t_J0_length hw e9) cw_J0_505 hw rfl rfl rfl rfl ?_
    obtain ⟨r10, h11, e12, e⟩ := bn_of e
    refine xB_callSi hF dJ0_indexOf_7cf53_17 (t_J1_indexOf hw e12) cw_J0_637 rfl rfl rfl rfl ?_
    refine xB_goto (tgt := 36) hF dJ0_indexOf_7cf53_20 rfl ?_
    exact xB_ireturn hF dJ0_indexOf_7cf53_36 e
def f_J0_indexOf (w : Nat) (a1 : Int32) (h : xH) : Option (Int32 × xH) :=
    bn (f_J0_indexOf2 w a1 0 h) fun r1 h2 => some (r1, h2)
set_option maxRecDepth 20000 in
set_option maxHeartbeats 2000000 in
theorem t_J0_indexOf {l : Launch} {γ : xG} {w : Nat} {a1 : Int32} {h : xH} {r : Int32} {hr : xH} (hw : w < 6) (e : f_J0_indexOf w a1 h = some (r, hr)) : xCT l γ xSC yJ0_indexOf_0f7a4 cJ0_indexOf_0f7a4 2 (some .int) 6 [.ref (γ.2.2.1.2.1 w), .int a1] h (some (.int r)) hr := by
  refine xCT.of (own := RJ0) (L := [some (.ref (γ.2.2.1.2.1 w)), some (.int a1)]) (by decide) rfl rfl rfl (fun C hF => ?_)
  unfold f_J0_indexOf at e
  refine xB_aload_n hF dJ0_indexOf_0f7a4_0 rfl ?_
  refine xB_iload_n hF dJ0_indexOf_0f7a4_1 rfl ?_
  refine xB_iconst hF dJ0_indexOf_0f7a4_2 ki_0 ?_
  obtain ⟨r1, h2, e3, e⟩ := bn_of e
  refine xB_callTi hF dJ0_indexOf_0f7a4_3 (t_J0_indexOf2 hw e3) cw_J0_633 hw rfl rfl rfl rfl ?_
  exact xB_ireturn hF dJ0_indexOf_0f7a4_6 e
def f_X2_namesOf (a0 : Int32) (h : xH) : Option (Int32 × xH) :=
    if a0 = 0 then (some (3, h)) else (if a0 = 1 then (some (4, h)) else (some (5, h)))
set_option maxRecDepth 20000 in
set_option maxHeartbeats 2000000 in
theorem t_X2_namesOf {l : Launch} {γ : xG} {a0 : Int32} {h : xH} {r : Int32} {hr : xH} (e : f_X2_namesOf a0 h = some (r, hr)) : xCT l γ xSC yX2_namesOf cX2_namesOf 1 (some (.object "java/lang/String")) 0 [.int a0] h (some (.ref (γ.2.2.1.2.1 (Int32.toNatClampNeg r)))) hr := by
  refine xCT.of (own := RX2) (L := [some (.int a0)]) (by decide) rfl rfl rfl (fun C hF => ?_)
  unfold f_X2_namesOf at e
  refine xB_iload_n hF dX2_namesOf_0 rfl ?_
  rcases if_of e with ⟨c0, e⟩ | ⟨c0, e⟩
  · refine xB_lookup (off := 27) (tgt := 28) hF dX2_namesOf_1 (by decide +kernel) (xlk c0 (by decide +kernel)) rfl ?_
    refine xB_ldcs (i := 3) hF dX2_namesOf_28 rfl ?_
    exact xB_sreturn hF dX2_namesOf_30 e
  rcases if_of e with ⟨c1, e⟩ | ⟨c1, e⟩
  · refine xB_lookup (off := 30) (tgt := 31) hF dX2_namesOf_1 (by decide +kernel) (xlk c1 (by decide +kernel)) rfl ?_
    refine xB_ldcs (i := 4) hF dX2_namesOf_31 rfl ?_
    exact xB_sreturn hF dX2_namesOf_33 e
  refine xB_lookup (off := 33) (tgt := 34) hF dX2_namesOf_1 (by decide +kernel) (xlkD [(0, 27), (1, 30)] (by have := xne (v := (0)) (n := 0) rfl c0; have := xne (v := (1)) (n := 1) rfl c1; simp only [List.forall_mem_cons, List.not_mem_nil, false_implies, implies_true, and_true]; omega)) rfl ?_
  refine xB_ldcs (i := 5) hF dX2_namesOf_34 rfl ?_
  exact xB_sreturn hF dX2_namesOf_36 e
def f_X2_nameAtHand (h : xH) : Option (Int32 × xH) :=
    if ((h 21 4) - (h 21 3)) = 1 then (bn (f_X2_namesOf (h 21 7) h) fun r1 h2 => gd r1 6 <| gd (h2 21 3) 96 <| bn (f_J0_indexOf (Int32.toNatClampNeg r1) ((Int32.toUInt32 (h2 22 (Int32.toNatClampNeg (h2 21 3))) % 65536).toInt32) h2) fun r4 h5 => some (r4, h5)) else (some ((-1), h))
set_option maxRecDepth 20000 in
set_option maxHeartbeats 2000000 in
theorem t_X2_nameAtHand {l : Launch} {γ : xG} {h : xH} {r : Int32} {hr : xH} (e : f_X2_nameAtHand h = some (r, hr)) : xCT l γ xSC yX2_nameAtHand cX2_nameAtHand 1 (some .int) 7 [.ref (γ.2.2.2 21)] h (some (.int r)) hr := by
  refine xCT.of (own := RX2) (L := [some (.ref (γ.2.2.2 21))]) (by decide) rfl rfl rfl (fun C hF => ?_)
  unfold f_X2_nameAtHand at e
  refine xB_aload_n hF dX2_nameAtHand_0 rfl ?_
  refine xB_get hF dX2_nameAtHand_1 fl_X2_22 sC_21 rfl rfl ?_
  refine xB_aload_n hF dX2_nameAtHand_4 rfl ?_
  refine xB_get hF dX2_nameAtHand_5 fl_X2_86 sC_21 rfl rfl ?_
  refine xB_isub hF dX2_nameAtHand_8 ?_
  refine xB_iconst hF dX2_nameAtHand_9 ki_1 ?_
  refine xB_icmp_ne (tgt := 36) hF dX2_nameAtHand_10 rfl e (fun _ e => ?_) (fun _ e => ?_)
  · refine xB_aload_n hF dX2_nameAtHand_13 rfl ?_
    refine xB_get hF dX2_nameAtHand_14 fl_X2_41 sC_21 rfl rfl ?_
    obtain ⟨r1, h2, e3, e⟩ := bn_of e
    refine xB_callSs hF dX2_nameAtHand_17 (t_X2_namesOf e3) cw_X2_89 rfl rfl rfl rfl ?_
    obtain ⟨hs_r1, e⟩ := gd_of e
    replace hs_r1 := vp_in_lt hs_r1
    refine xB_aload_n hF dX2_nameAtHand_20 rfl ?_
    refine xB_get hF dX2_nameAtHand_21 fl_X2_9 sC_21 rfl rfl ?_
    refine xB_aload_n hF dX2_nameAtHand_24 rfl ?_
    refine xB_get hF dX2_nameAtHand_25 fl_X2_86 sC_21 rfl rfl ?_
    refine xB_iald hF dX2_nameAtHand_28 sC_22 e (fun e => ?_)
    refine xB_i2c hF dX2_nameAtHand_29 ?_
    obtain ⟨r4, h5, e6, e⟩ := bn_of e
    refine xB_callTi hF dX2_nameAtHand_30 (t_J0_indexOf hs_r1 e6) cw_X2_92 hs_r1 rfl rfl rfl rfl ?_
    refine xB_goto (tgt := 37) hF dX2_nameAtHand_33 rfl ?_
    exact xB_ireturn hF dX2_nameAtHand_37 e
  · refine xB_iconst hF dX2_nameAtHand_36 ki_m1 ?_
    exact xB_ireturn hF dX2_nameAtHand_37 e
def f_X6_ask (a1 : Int32) (a2 : Int32) (h : xH) : Option (Int32 × xH) :=
    bn (f_X6_isSlot a1 h) fun r1 h2 => if r1 = 0 then (some ((-1000000001), h2)) else (bn (f_X6_isKind a2 h2) fun r4 h5 => if r4 = 0 then (some ((-1000000001), h5)) else (gd a1 5 <| if (h5 (69 + 3 * (Int32.toNatClampNeg a1)) 1) = 0 then (some ((-1000000011), h5)) else (if (h5 (69 + 3 * (Int32.toNatClampNeg a1)) 1) = 1 then (bn (f_X6_isUnder (h5 (69 + 3 * (Int32.toNatClampNeg a1)) 2) a2 h5) fun r8 h9 => if r8 = 0 then (some ((-1000000012), h9)) else (bn (f_X6_worthOf (h9 (69 + 3 * (Int32.toNatClampNeg a1)) 2) (h9 (69 + 3 * (Int32.toNatClampNeg a1)) 3) h9) fun r11 h12 => some (r11, h12))) else (some ((-1000000012), h5)))))
set_option maxRecDepth 20000 in
set_option maxHeartbeats 2000000 in
theorem t_X6_ask {l : Launch} {γ : xG} {a1 : Int32} {a2 : Int32} {h : xH} {r : Int32} {hr : xH} (e : f_X6_ask a1 a2 h = some (r, hr)) : xCT l γ xSC yX6_ask cX6_ask 4 (some .int) 2 [.ref (γ.2.2.2 0), .int a1, .int a2] h (some (.int r)) hr := by
  refine xCT.of (own := RX6) (L := [some (.ref (γ.2.2.2 0)), some (.int a1), some (.int a2), none]) (by decide) rfl rfl rfl (fun C hF => ?_)
  unfold f_X6_ask at e
  refine xB_iload_n hF dX6_ask_0 rfl ?_
  obtain ⟨r1, h2, e3, e⟩ := bn_of e
  refine xB_callSi hF dX6_ask_1 (t_X6_isSlot e3) cw_X6_297 rfl rfl rfl rfl ?_
  refine xB_if_eq (tgt := 14) hF dX6_ask_4 rfl e (fun _ e => ?_) (fun _ e => ?_)
  · refine xB_ldc hF dX6_ask_14 kc_X6_85 ?_
    exact xB_ireturn hF dX6_ask_16 e
  · refine xB_iload_n hF dX6_ask_7 rfl ?_
    obtain ⟨r4, h5, e6, e⟩ := bn_of e
    refine xB_callSi hF dX6_ask_8 (t_X6_isKind e6) cw_X6_74 rfl rfl rfl rfl ?_
    refine xB_if_ne (tgt := 17) hF dX6_ask_11 rfl e (fun _ e => ?_) (fun _ e => ?_)
    · refine xB_ldc hF dX6_ask_14 kc_X6_85 ?_
      exact xB_ireturn hF dX6_ask_16 e
    · refine xB_aload_n hF dX6_ask_17 rfl ?_
      refine xB_get hF dX6_ask_18 fl_X6_58 sC_0 rfl rfl ?_
      refine xB_iload_n hF dX6_ask_21 rfl ?_
      refine xB_aald hF dX6_ask_22 sC_68 rfl rfl e (fun q7 e => ?_)
      refine xB_astore_n (L' := [_, _, _, _]) hF dX6_ask_23 rfl rfl rfl ?_
      refine xB_aload_n hF dX6_ask_24 rfl ?_
      refine xB_get hF dX6_ask_25 fl_X6_300 ((isX4_slot q7).1) rfl rfl ?_
      refine xB_if_ne (tgt := 34) hF dX6_ask_28 rfl e (fun _ e => ?_) (fun _ e => ?_)
      · refine xB_ldc hF dX6_ask_31 kc_X6_221 ?_
        exact xB_ireturn hF dX6_ask_33 e
      · refine xB_aload_n hF dX6_ask_34 rfl ?_
        refine xB_get hF dX6_ask_35 fl_X6_300 ((isX4_slot q7).1) rfl rfl ?_
        refine xB_iconst hF dX6_ask_38 ki_1 ?_
        refine xB_icmp_ne (tgt := 53) hF dX6_ask_39 rfl e (fun _ e => ?_) (fun _ e => ?_)
        · refine xB_aload_n hF dX6_ask_42 rfl ?_
          refine xB_get hF dX6_ask_43 fl_X6_303 ((isX4_slot q7).1) rfl rfl ?_
          refine xB_iload_n hF dX6_ask_46 rfl ?_
          obtain ⟨r8, h9, e10, e⟩ := bn_of e
          refine xB_callSi hF dX6_ask_47 (t_X6_isUnder e10) cw_X6_123 rfl rfl rfl rfl ?_
          refine xB_if_ne (tgt := 56) hF dX6_ask_50 rfl e (fun _ e => ?_) (fun _ e => ?_)
          · refine xB_ldc hF dX6_ask_53 kc_X6_127 ?_
            exact xB_ireturn hF dX6_ask_55 e
          · refine xB_aload_n hF dX6_ask_56 rfl ?_
            refine xB_get hF dX6_ask_57 fl_X6_303 ((isX4_slot q7).1) rfl rfl ?_
            refine xB_aload_n hF dX6_ask_60 rfl ?_
            refine xB_get hF dX6_ask_61 fl_X6_305 ((isX4_slot q7).1) rfl rfl ?_
            obtain ⟨r11, h12, e13, e⟩ := bn_of e
            refine xB_callSi hF dX6_ask_64 (t_X6_worthOf e13) cw_X6_119 rfl rfl rfl rfl ?_
            exact xB_ireturn hF dX6_ask_67 e
        · refine xB_ldc hF dX6_ask_53 kc_X6_127 ?_
          exact xB_ireturn hF dX6_ask_55 e
def recX2 (l : Launch) (γ : xG) (self : xRec) (n9 : Nat) : Prop := (∀ (a1 a2 a3 : Int32) (h : xH) (r : Int32) (hr : xH), self 0 a1 a2 a3 h = some (r, hr) → xCT l γ xSC yX2_readLevel cX2_readLevel 7 (some .boolean) n9 [.ref (γ.2.2.2 21), .int a1, .int a2, .int a3] h (some (.int r)) hr) ∧ (∀ (a1 a2 : Int32) (h : xH) (r : Int32) (hr : xH), self 1 a1 a2 0 h = some (r, hr) → xCT l γ xSC yX2_readPiece cX2_readPiece 4 (some .boolean) n9 [.ref (γ.2.2.2 21), .int a1, .int a2] h (some (.int r)) hr) ∧ (∀ (a1 a2 : Int32) (h : xH) (r : Int32) (hr : xH), self 2 a1 a2 0 h = some (r, hr) → xCT l γ xSC yX2_readNot cX2_readNot 3 (some .boolean) n9 [.ref (γ.2.2.2 21), .int a1, .int a2] h (some (.int r)) hr) ∧ (∀ (a1 a2 : Int32) (h : xH) (r : Int32) (hr : xH), self 3 a1 a2 0 h = some (r, hr) → xCT l γ xSC yX2_readOpen cX2_readOpen 3 (some .boolean) n9 [.ref (γ.2.2.2 21), .int a1, .int a2] h (some (.int r)) hr)
def f_X2_readLevel_b_c42 (self : xRec) (a1 : Int32) (a2 : Int32) (a3 : Int32) : Nat → Int32 → Int32 → xH → Option (Int32 × xH)
  | 0, _, _, _ => none
  | n + 1, v4, v5, h =>
    if v4 ≤ v5 then (some (1, h)) else (bn (f_X2_joinsAt a1 h) fun r1 h2 => if r1 = 0 then (some (1, h2)) else (bn (f_X2_goToNext h2) fun r4 h5 => bn (self 0 (a1 + 1) a2 a3 h5) fun r7 h8 => if r7 = 0 then (some (0, h8)) else (bn (f_X2_addStep (-(h2 21 6)) h8) fun r10 h11 => f_X2_readLevel_b_c42 self a1 a2 a3 n v4 (v5 + 1) h11)))
set_option maxRecDepth 20000 in
set_option maxHeartbeats 2000000 in
theorem t_X2_readLevel_b_c42 {l : Launch} {γ : xG} {self : xRec} {n9 : Nat} {a1 : Int32} {a2 : Int32} {a3 : Int32} {r : Int32} {hr : xH} {C : xCx} (hF : xF C cX2_readLevel RX2 7 (n9 + 1) γ xSC (some (.int r)) hr l (some .boolean)) (ihs : recX2 l γ self n9) (hn9 : 8 ≤ n9) : ∀ (n : Nat) (v4 : Int32) (v5 : Int32) (h : xH), f_X2_readLevel_b_c42 self a1 a2 a3 n v4 v5 h = some (r, hr) → xB C h 42 [some (.ref (γ.2.2.2 21)), some (.int a1), some (.int a2), some (.int a3), some (.int v4), some (.int v5), none] [] := by
  intro n
  induction n with
  | zero => intro v4 v5 h e; cases e
  | succ n ih =>
    intro v4 v5 h e
    rw [f_X2_readLevel_b_c42] at e
    refine xB_iload hF dX2_readLevel_42 rfl ?_
    refine xB_iload hF dX2_readLevel_44 rfl ?_
    refine xB_icmp_ge (tgt := 94) hF dX2_readLevel_46 rfl e (fun _ e => ?_) (fun _ e => ?_)
    · refine xB_iconst hF dX2_readLevel_94 ki_1 ?_
      exact xB_zreturn hF dX2_readLevel_95 rfl e
    · refine xB_aload_n hF dX2_readLevel_49 rfl ?_
      refine xB_iload_n hF dX2_readLevel_50 rfl ?_
      obtain ⟨r1, h2, e3, e⟩ := bn_of e
      refine xB_callVi hF dX2_readLevel_51 (t_X2_joinsAt e3) cw_X2_52 sC_21 rfl (xht hn9 rfl) rfl rfl rfl ?_
      refine xB_if_eq (tgt := 94) hF dX2_readLevel_54 rfl e (fun _ e => ?_) (fun _ e => ?_)
      · refine xB_iconst hF dX2_readLevel_94 ki_1 ?_
        exact xB_zreturn hF dX2_readLevel_95 rfl e
      · refine xB_aload_n hF dX2_readLevel_57 rfl ?_
        refine xB_get hF dX2_readLevel_58 fl_X2_56 sC_21 rfl rfl ?_
        refine xB_istore (L' := [_, _, _, _, _, _, _]) hF dX2_readLevel_61 rfl rfl rfl ?_
        refine xB_aload_n hF dX2_readLevel_63 rfl ?_
        obtain ⟨r4, h5, e6, e⟩ := bn_of e
        refine xB_callVv hF dX2_readLevel_64 (t_X2_goToNext e6) cw_X2_34 sC_21 rfl (xht hn9 rfl) rfl rfl rfl ?_
        refine xB_aload_n hF dX2_readLevel_67 rfl ?_
        refine xB_iload_n hF dX2_readLevel_68 rfl ?_
        refine xB_iconst hF dX2_readLevel_69 ki_1 ?_
        refine xB_iadd hF dX2_readLevel_70 ?_
        refine xB_iload_n hF dX2_readLevel_71 rfl ?_
        refine xB_iload_n hF dX2_readLevel_72 rfl ?_
        obtain ⟨r7, h8, e9, e⟩ := bn_of e
        refine xB_callVi hF dX2_readLevel_73 (ihs.1 _ _ _ _ _ _ e9) cw_X2_44 sC_21 rfl (Nat.ble_eq_true_of_le (Nat.le_refl _)) rfl rfl rfl ?_
        refine xB_if_ne (tgt := 81) hF dX2_readLevel_76 rfl e (fun _ e => ?_) (fun _ e => ?_)
        · refine xB_iconst hF dX2_readLevel_79 ki_0 ?_
          exact xB_zreturn hF dX2_readLevel_80 rfl e
        · refine xB_aload_n hF dX2_readLevel_81 rfl ?_
          refine xB_iload hF dX2_readLevel_82 rfl ?_
          refine xB_ineg hF dX2_readLevel_84 ?_
          obtain ⟨r10, h11, e12, e⟩ := bn_of e
          refine xB_callVv hF dX2_readLevel_85 (t_X2_addStep e12) cw_X2_59 sC_21 rfl (xht hn9 rfl) rfl rfl rfl ?_
          refine xB_iinc (L' := [_, _, _, _, _, _, _]) hF dX2_readLevel_88 rfl ki_1 rfl rfl rfl ?_
          refine xB_goto (tgt := 42) hF dX2_readLevel_91 rfl ?_
          exact xB_l (ih _ _ _ e) (And.intro rfl (And.intro rfl (And.intro rfl (And.intro rfl (And.intro rfl (And.intro rfl (True.intro)))))))
def f_X2_readLevel_b_c37 (self : xRec) (a1 : Int32) (a2 : Int32) (a3 : Int32) (s0 : Int32) (h : xH) : Option (Int32 × xH) :=
    f_X2_readLevel_b_c42 self a1 a2 a3 xN s0 0 h
set_option maxRecDepth 20000 in
set_option maxHeartbeats 2000000 in
theorem t_X2_readLevel_b_c37 {l : Launch} {γ : xG} {self : xRec} {n9 : Nat} {a1 : Int32} {a2 : Int32} {a3 : Int32} {r : Int32} {hr : xH} {C : xCx} (hF : xF C cX2_readLevel RX2 7 (n9 + 1) γ xSC (some (.int r)) hr l (some .boolean)) (ihs : recX2 l γ self n9) (hn9 : 8 ≤ n9) : ∀ (s0 : Int32) (h : xH), f_X2_readLevel_b_c37 self a1 a2 a3 s0 h = some (r, hr) → xB C h 37 [some (.ref (γ.2.2.2 21)), some (.int a1), some (.int a2), some (.int a3), none, none, none] [.int s0] := by
  intro s0 h e
  unfold f_X2_readLevel_b_c37 at e
  refine xB_istore (L' := [_, _, _, _, _, _, _]) hF dX2_readLevel_37 rfl rfl rfl ?_
  refine xB_iconst hF dX2_readLevel_39 ki_0 ?_
  refine xB_istore (L' := [_, _, _, _, _, _, _]) hF dX2_readLevel_40 rfl rfl rfl ?_
  exact xB_l (t_X2_readLevel_b_c42 hF ihs hn9 _ _ _ _ e) (And.intro rfl (And.intro rfl (And.intro rfl (And.intro rfl (And.intro rfl (And.intro rfl (True.intro)))))))
def f_X2_readLevel_b (self : xRec) (a1 : Int32) (a2 : Int32) (a3 : Int32) (h : xH) : Option (Int32 × xH) :=
    if a1 < 5 then (bn (self 0 (a1 + 1) a2 a3 h) fun r1 h2 => if r1 = 0 then (some (0, h2)) else (if a1 = 2 then (f_X2_readLevel_b_c37 self a1 a2 a3 1 h2) else (f_X2_readLevel_b_c37 self a1 a2 a3 96 h2))) else (bn (self 1 a2 a3 0 h) fun r4 h5 => gb r4 (some (r4, h5)))
set_option maxRecDepth 20000 in
set_option maxHeartbeats 2000000 in
theorem t_X2_readLevel_b {l : Launch} {γ : xG} {self : xRec} {n9 : Nat} {a1 : Int32} {a2 : Int32} {a3 : Int32} {h : xH} {r : Int32} {hr : xH} (ihs : recX2 l γ self n9) (hn9 : 8 ≤ n9) (e : f_X2_readLevel_b self a1 a2 a3 h = some (r, hr)) : xCT l γ xSC yX2_readLevel cX2_readLevel 7 (some .boolean) (n9 + 1) [.ref (γ.2.2.2 21), .int a1, .int a2, .int a3] h (some (.int r)) hr := by
  refine xCT.of (own := RX2) (L := [some (.ref (γ.2.2.2 21)), some (.int a1), some (.int a2), some (.int a3), none, none, none]) (by decide) rfl rfl rfl (fun C hF => ?_)
  unfold f_X2_readLevel_b at e
  refine xB_iload_n hF dX2_readLevel_0 rfl ?_
  refine xB_iconst hF dX2_readLevel_1 ki_5 ?_
  refine xB_icmp_lt (tgt := 12) hF dX2_readLevel_2 rfl e (fun _ e => ?_) (fun _ e => ?_)
  · refine xB_aload_n hF dX2_readLevel_12 rfl ?_
    refine xB_iload_n hF dX2_readLevel_13 rfl ?_
    refine xB_iconst hF dX2_readLevel_14 ki_1 ?_
    refine xB_iadd hF dX2_readLevel_15 ?_
    refine xB_iload_n hF dX2_readLevel_16 rfl ?_
    refine xB_iload_n hF dX2_readLevel_17 rfl ?_
    obtain ⟨r1, h2, e3, e⟩ := bn_of e
    refine xB_callVi hF dX2_readLevel_18 (ihs.1 _ _ _ _ _ _ e3) cw_X2_44 sC_21 rfl (Nat.ble_eq_true_of_le (Nat.le_refl _)) rfl rfl rfl ?_
    refine xB_if_ne (tgt := 26) hF dX2_readLevel_21 rfl e (fun _ e => ?_) (fun _ e => ?_)
    · refine xB_iconst hF dX2_readLevel_24 ki_0 ?_
      exact xB_zreturn hF dX2_readLevel_25 rfl e
    · refine xB_iload_n hF dX2_readLevel_26 rfl ?_
      refine xB_iconst hF dX2_readLevel_27 ki_2 ?_
      refine xB_icmp_ne (tgt := 35) hF dX2_readLevel_28 rfl e (fun _ e => ?_) (fun _ e => ?_)
      · refine xB_iconst hF dX2_readLevel_31 ki_1 ?_
        refine xB_goto (tgt := 37) hF dX2_readLevel_32 rfl ?_
        exact xB_l (t_X2_readLevel_b_c37 hF ihs hn9 _ _ e) (And.intro rfl (And.intro rfl (And.intro rfl (And.intro rfl (True.intro)))))
      · refine xB_bipush hF dX2_readLevel_35 kb_96 ?_
        exact xB_l (t_X2_readLevel_b_c37 hF ihs hn9 _ _ e) (And.intro rfl (And.intro rfl (And.intro rfl (And.intro rfl (True.intro)))))
  · refine xB_aload_n hF dX2_readLevel_5 rfl ?_
    refine xB_iload_n hF dX2_readLevel_6 rfl ?_
    refine xB_iload_n hF dX2_readLevel_7 rfl ?_
    obtain ⟨r4, h5, e6, e⟩ := bn_of e
    refine xB_callVi hF dX2_readLevel_8 (ihs.2.1 _ _ _ _ _ e6) cw_X2_48 sC_21 rfl (Nat.ble_eq_true_of_le (Nat.le_refl _)) rfl rfl rfl ?_
    exact xB_breturn hF dX2_readLevel_11 e
def f_X2_readPiece_b (self : xRec) (a1 : Int32) (a2 : Int32) (h : xH) : Option (Int32 × xH) :=
    if (h 21 5) = 2 then (bn (f_X2_takeLeaf (h 21 6) h) fun r19 h20 => gb r19 (some (r19, h20))) else (if (h 21 5) = 3 then (bn (f_X2_nameAtHand h) fun r13 h14 => if r13 < 0 then (some (0, h14)) else (bn (f_X2_takeLeaf ((-1) - r13) h14) fun r16 h17 => if r16 = 0 then (some (0, h17)) else (some (1, h17)))) else (bn (f_X2_isSign 33 h) fun r1 h2 => if r1 = 0 then (bn (f_X2_isSign 40 h2) fun r4 h5 => if r4 = 0 then (some (0, h5)) else (if 8 ≤ a1 then (some (0, h5)) else (bn (self 3 (a1 + 1) a2 0 h5) fun r7 h8 => if r7 = 0 then (some (0, h8)) else (some (1, h8))))) else (if 8 ≤ a2 then (some (0, h2)) else (bn (self 2 a1 (a2 + 1) 0 h2) fun r10 h11 => if r10 = 0 then (some (0, h11)) else (some (1, h11))))))
set_option maxRecDepth 20000 in
set_option maxHeartbeats 2000000 in
theorem t_X2_readPiece_b {l : Launch} {γ : xG} {self : xRec} {n9 : Nat} {a1 : Int32} {a2 : Int32} {h : xH} {r : Int32} {hr : xH} (ihs : recX2 l γ self n9) (hn9 : 8 ≤ n9) (e : f_X2_readPiece_b self a1 a2 h = some (r, hr)) : xCT l γ xSC yX2_readPiece cX2_readPiece 4 (some .boolean) (n9 + 1) [.ref (γ.2.2.2 21), .int a1, .int a2] h (some (.int r)) hr := by
  refine xCT.of (own := RX2) (L := [some (.ref (γ.2.2.2 21)), some (.int a1), some (.int a2), none]) (by decide) rfl rfl rfl (fun C hF => ?_)
  unfold f_X2_readPiece_b at e
  refine xB_aload_n hF dX2_readPiece_0 rfl ?_
  refine xB_get hF dX2_readPiece_1 fl_X2_25 sC_21 rfl rfl ?_
  refine xB_iconst hF dX2_readPiece_4 ki_2 ?_
  refine xB_icmp_ne (tgt := 17) hF dX2_readPiece_5 rfl e (fun _ e => ?_) (fun _ e => ?_)
  · refine xB_aload_n hF dX2_readPiece_8 rfl ?_
    refine xB_aload_n hF dX2_readPiece_9 rfl ?_
    refine xB_get hF dX2_readPiece_10 fl_X2_56 sC_21 rfl rfl ?_
    obtain ⟨r19, h20, e21, e⟩ := bn_of e
    refine xB_callVi hF dX2_readPiece_13 (t_X2_takeLeaf e21) cw_X2_63 sC_21 rfl (xht hn9 rfl) rfl rfl rfl ?_
    exact xB_breturn hF dX2_readPiece_16 e
  · refine xB_aload_n hF dX2_readPiece_17 rfl ?_
    refine xB_get hF dX2_readPiece_18 fl_X2_25 sC_21 rfl rfl ?_
    refine xB_iconst hF dX2_readPiece_21 ki_3 ?_
    refine xB_icmp_ne (tgt := 50) hF dX2_readPiece_22 rfl e (fun _ e => ?_) (fun _ e => ?_)
    · refine xB_aload_n hF dX2_readPiece_25 rfl ?_
      obtain ⟨r13, h14, e15, e⟩ := bn_of e
      refine xB_callVi hF dX2_readPiece_26 (t_X2_nameAtHand e15) cw_X2_66 sC_21 rfl (xht hn9 rfl) rfl rfl rfl ?_
      refine xB_istore_n (L' := [_, _, _, _]) hF dX2_readPiece_29 rfl rfl rfl ?_
      refine xB_iload_n hF dX2_readPiece_30 rfl ?_
      refine xB_if_lt (tgt := 48) hF dX2_readPiece_31 rfl e (fun _ e => ?_) (fun _ e => ?_)
      · refine xB_iconst hF dX2_readPiece_48 ki_0 ?_
        exact xB_zreturn hF dX2_readPiece_49 rfl e
      · refine xB_aload_n hF dX2_readPiece_34 rfl ?_
        refine xB_iconst hF dX2_readPiece_35 ki_m1 ?_
        refine xB_iload_n hF dX2_readPiece_36 rfl ?_
        refine xB_isub hF dX2_readPiece_37 ?_
        obtain ⟨r16, h17, e18, e⟩ := bn_of e
        refine xB_callVi hF dX2_readPiece_38 (t_X2_takeLeaf e18) cw_X2_63 sC_21 rfl (xht hn9 rfl) rfl rfl rfl ?_
        refine xB_if_eq (tgt := 48) hF dX2_readPiece_41 rfl e (fun _ e => ?_) (fun _ e => ?_)
        · refine xB_iconst hF dX2_readPiece_48 ki_0 ?_
          exact xB_zreturn hF dX2_readPiece_49 rfl e
        · refine xB_iconst hF dX2_readPiece_44 ki_1 ?_
          refine xB_goto (tgt := 49) hF dX2_readPiece_45 rfl ?_
          exact xB_zreturn hF dX2_readPiece_49 rfl e
    · refine xB_aload_n hF dX2_readPiece_50 rfl ?_
      refine xB_bipush hF dX2_readPiece_51 kb_33 ?_
      obtain ⟨r1, h2, e3, e⟩ := bn_of e
      refine xB_callVi hF dX2_readPiece_53 (t_X2_isSign e3) cw_X2_69 sC_21 rfl (xht hn9 rfl) rfl rfl rfl ?_
      refine xB_if_eq (tgt := 82) hF dX2_readPiece_56 rfl e (fun _ e => ?_) (fun _ e => ?_)
      · refine xB_aload_n hF dX2_readPiece_82 rfl ?_
        refine xB_bipush hF dX2_readPiece_83 kb_40 ?_
        obtain ⟨r4, h5, e6, e⟩ := bn_of e
        refine xB_callVi hF dX2_readPiece_85 (t_X2_isSign e6) cw_X2_69 sC_21 rfl (xht hn9 rfl) rfl rfl rfl ?_
        refine xB_if_eq (tgt := 112) hF dX2_readPiece_88 rfl e (fun _ e => ?_) (fun _ e => ?_)
        · refine xB_iconst hF dX2_readPiece_112 ki_0 ?_
          exact xB_zreturn hF dX2_readPiece_113 rfl e
        · refine xB_iload_n hF dX2_readPiece_91 rfl ?_
          refine xB_bipush hF dX2_readPiece_92 kb_8 ?_
          refine xB_icmp_ge (tgt := 112) hF dX2_readPiece_94 rfl e (fun _ e => ?_) (fun _ e => ?_)
          · refine xB_iconst hF dX2_readPiece_112 ki_0 ?_
            exact xB_zreturn hF dX2_readPiece_113 rfl e
          · refine xB_aload_n hF dX2_readPiece_97 rfl ?_
            refine xB_iload_n hF dX2_readPiece_98 rfl ?_
            refine xB_iconst hF dX2_readPiece_99 ki_1 ?_
            refine xB_iadd hF dX2_readPiece_100 ?_
            refine xB_iload_n hF dX2_readPiece_101 rfl ?_
            obtain ⟨r7, h8, e9, e⟩ := bn_of e
            refine xB_callVi hF dX2_readPiece_102 (ihs.2.2.2 _ _ _ _ _ e9) cw_X2_75 sC_21 rfl (Nat.ble_eq_true_of_le (Nat.le_refl _)) rfl rfl rfl ?_
            refine xB_if_eq (tgt := 112) hF dX2_readPiece_105 rfl e (fun _ e => ?_) (fun _ e => ?_)
            · refine xB_iconst hF dX2_readPiece_112 ki_0 ?_
              exact xB_zreturn hF dX2_readPiece_113 rfl e
            · refine xB_iconst hF dX2_readPiece_108 ki_1 ?_
              refine xB_goto (tgt := 113) hF dX2_readPiece_109 rfl ?_
              exact xB_zreturn hF dX2_readPiece_113 rfl e
      · refine xB_iload_n hF dX2_readPiece_59 rfl ?_
        refine xB_bipush hF dX2_readPiece_60 kb_8 ?_
        refine xB_icmp_ge (tgt := 80) hF dX2_readPiece_62 rfl e (fun _ e => ?_) (fun _ e => ?_)
        · refine xB_iconst hF dX2_readPiece_80 ki_0 ?_
          exact xB_zreturn hF dX2_readPiece_81 rfl e
        · refine xB_aload_n hF dX2_readPiece_65 rfl ?_
          refine xB_iload_n hF dX2_readPiece_66 rfl ?_
          refine xB_iload_n hF dX2_readPiece_67 rfl ?_
          refine xB_iconst hF dX2_readPiece_68 ki_1 ?_
          refine xB_iadd hF dX2_readPiece_69 ?_
          obtain ⟨r10, h11, e12, e⟩ := bn_of e
          refine xB_callVi hF dX2_readPiece_70 (ihs.2.2.1 _ _ _ _ _ e12) cw_X2_72 sC_21 rfl (Nat.ble_eq_true_of_le (Nat.le_refl _)) rfl rfl rfl ?_
          refine xB_if_eq (tgt := 80) hF dX2_readPiece_73 rfl e (fun _ e => ?_) (fun _ e => ?_)
          · refine xB_iconst hF dX2_readPiece_80 ki_0 ?_
            exact xB_zreturn hF dX2_readPiece_81 rfl e
          · refine xB_iconst hF dX2_readPiece_76 ki_1 ?_
            refine xB_goto (tgt := 81) hF dX2_readPiece_77 rfl ?_
            exact xB_zreturn hF dX2_readPiece_81 rfl e
def f_X2_readNot_b (self : xRec) (a1 : Int32) (a2 : Int32) (h : xH) : Option (Int32 × xH) :=
    bn (f_X2_goToNext h) fun r1 h2 => bn (self 1 a1 a2 0 h2) fun r4 h5 => if r4 = 0 then (some (0, h5)) else (bn (f_X2_addStep (-33) h5) fun r7 h8 => some (1, h8))
set_option maxRecDepth 20000 in
set_option maxHeartbeats 2000000 in
theorem t_X2_readNot_b {l : Launch} {γ : xG} {self : xRec} {n9 : Nat} {a1 : Int32} {a2 : Int32} {h : xH} {r : Int32} {hr : xH} (ihs : recX2 l γ self n9) (hn9 : 8 ≤ n9) (e : f_X2_readNot_b self a1 a2 h = some (r, hr)) : xCT l γ xSC yX2_readNot cX2_readNot 3 (some .boolean) (n9 + 1) [.ref (γ.2.2.2 21), .int a1, .int a2] h (some (.int r)) hr := by
  refine xCT.of (own := RX2) (L := [some (.ref (γ.2.2.2 21)), some (.int a1), some (.int a2)]) (by decide) rfl rfl rfl (fun C hF => ?_)
  unfold f_X2_readNot_b at e
  refine xB_aload_n hF dX2_readNot_0 rfl ?_
  obtain ⟨r1, h2, e3, e⟩ := bn_of e
  refine xB_callVv hF dX2_readNot_1 (t_X2_goToNext e3) cw_X2_34 sC_21 rfl (xht hn9 rfl) rfl rfl rfl ?_
  refine xB_aload_n hF dX2_readNot_4 rfl ?_
  refine xB_iload_n hF dX2_readNot_5 rfl ?_
  refine xB_iload_n hF dX2_readNot_6 rfl ?_
  obtain ⟨r4, h5, e6, e⟩ := bn_of e
  refine xB_callVi hF dX2_readNot_7 (ihs.2.1 _ _ _ _ _ e6) cw_X2_48 sC_21 rfl (Nat.ble_eq_true_of_le (Nat.le_refl _)) rfl rfl rfl ?_
  refine xB_if_ne (tgt := 15) hF dX2_readNot_10 rfl e (fun _ e => ?_) (fun _ e => ?_)
  · refine xB_iconst hF dX2_readNot_13 ki_0 ?_
    exact xB_zreturn hF dX2_readNot_14 rfl e
  · refine xB_aload_n hF dX2_readNot_15 rfl ?_
    refine xB_bipush hF dX2_readNot_16 kb_m33 ?_
    obtain ⟨r7, h8, e9, e⟩ := bn_of e
    refine xB_callVv hF dX2_readNot_18 (t_X2_addStep e9) cw_X2_59 sC_21 rfl (xht hn9 rfl) rfl rfl rfl ?_
    refine xB_iconst hF dX2_readNot_21 ki_1 ?_
    exact xB_zreturn hF dX2_readNot_22 rfl e
def f_X2_readOpen_b (self : xRec) (a1 : Int32) (a2 : Int32) (h : xH) : Option (Int32 × xH) :=
    bn (f_X2_goToNext h) fun r1 h2 => bn (self 0 0 a1 a2 h2) fun r4 h5 => if r4 = 0 then (some (0, h5)) else (bn (f_X2_isSign 41 h5) fun r7 h8 => if r7 = 0 then (some (0, h8)) else (bn (f_X2_goToNext h8) fun r10 h11 => some (1, h11)))
set_option maxRecDepth 20000 in
set_option maxHeartbeats 2000000 in
theorem t_X2_readOpen_b {l : Launch} {γ : xG} {self : xRec} {n9 : Nat} {a1 : Int32} {a2 : Int32} {h : xH} {r : Int32} {hr : xH} (ihs : recX2 l γ self n9) (hn9 : 8 ≤ n9) (e : f_X2_readOpen_b self a1 a2 h = some (r, hr)) : xCT l γ xSC yX2_readOpen cX2_readOpen 3 (some .boolean) (n9 + 1) [.ref (γ.2.2.2 21), .int a1, .int a2] h (some (.int r)) hr := by
  refine xCT.of (own := RX2) (L := [some (.ref (γ.2.2.2 21)), some (.int a1), some (.int a2)]) (by decide) rfl rfl rfl (fun C hF => ?_)
  unfold f_X2_readOpen_b at e
  refine xB_aload_n hF dX2_readOpen_0 rfl ?_
  obtain ⟨r1, h2, e3, e⟩ := bn_of e
  refine xB_callVv hF dX2_readOpen_1 (t_X2_goToNext e3) cw_X2_34 sC_21 rfl (xht hn9 rfl) rfl rfl rfl ?_
  refine xB_aload_n hF dX2_readOpen_4 rfl ?_
  refine xB_iconst hF dX2_readOpen_5 ki_0 ?_
  refine xB_iload_n hF dX2_readOpen_6 rfl ?_
  refine xB_iload_n hF dX2_readOpen_7 rfl ?_
  obtain ⟨r4, h5, e6, e⟩ := bn_of e
  refine xB_callVi hF dX2_readOpen_8 (ihs.1 _ _ _ _ _ _ e6) cw_X2_44 sC_21 rfl (Nat.ble_eq_true_of_le (Nat.le_refl _)) rfl rfl rfl ?_
  refine xB_if_eq (tgt := 23) hF dX2_readOpen_11 rfl e (fun _ e => ?_) (fun _ e => ?_)
  · refine xB_iconst hF dX2_readOpen_23 ki_0 ?_
    exact xB_zreturn hF dX2_readOpen_24 rfl e
  · refine xB_aload_n hF dX2_readOpen_14 rfl ?_
    refine xB_bipush hF dX2_readOpen_15 kb_41 ?_
    obtain ⟨r7, h8, e9, e⟩ := bn_of e
    refine xB_callVi hF dX2_readOpen_17 (t_X2_isSign e9) cw_X2_69 sC_21 rfl (xht hn9 rfl) rfl rfl rfl ?_
    refine xB_if_ne (tgt := 25) hF dX2_readOpen_20 rfl e (fun _ e => ?_) (fun _ e => ?_)
    · refine xB_iconst hF dX2_readOpen_23 ki_0 ?_
      exact xB_zreturn hF dX2_readOpen_24 rfl e
    · refine xB_aload_n hF dX2_readOpen_25 rfl ?_
      obtain ⟨r10, h11, e12, e⟩ := bn_of e
      refine xB_callVv hF dX2_readOpen_26 (t_X2_goToNext e12) cw_X2_34 sC_21 rfl (xht hn9 rfl) rfl rfl rfl ?_
      refine xB_iconst hF dX2_readOpen_29 ki_1 ?_
      exact xB_zreturn hF dX2_readOpen_30 rfl e
def f_X2_rec : Nat → Nat → Int32 → Int32 → Int32 → xH → Option (Int32 × xH)
  | 0, _, _, _, _, _ => none
  | n + 1, t, a, b, c, h => if t = 0 then f_X2_readLevel_b (f_X2_rec n) a b c h else (if t = 1 then f_X2_readPiece_b (f_X2_rec n) a b h else (if t = 2 then f_X2_readNot_b (f_X2_rec n) a b h else (if t = 3 then f_X2_readOpen_b (f_X2_rec n) a b h else (none))))
theorem t_X2_rec {l : Launch} {γ : xG} : ∀ n : Nat, recX2 l γ (f_X2_rec n) (n + 8)
  | 0 => ⟨fun a1 a2 a3 h r hr e => (by cases e), fun a1 a2 h r hr e => (by cases e), fun a1 a2 h r hr e => (by cases e), fun a1 a2 h r hr e => (by cases e)⟩
  | n + 1 => by
    have ih := t_X2_rec (l := l) (γ := γ) n
    exact ⟨fun a1 a2 a3 h r hr e => t_X2_readLevel_b ih (by omega) (show f_X2_readLevel_b (f_X2_rec n) a1 a2 a3 h = some (r, hr) from e),
      fun a1 a2 h r hr e => t_X2_readPiece_b ih (by omega) (show f_X2_readPiece_b (f_X2_rec n) a1 a2 h = some (r, hr) from e),
      fun a1 a2 h r hr e => t_X2_readNot_b ih (by omega) (show f_X2_readNot_b (f_X2_rec n) a1 a2 h = some (r, hr) from e),
      fun a1 a2 h r hr e => t_X2_readOpen_b ih (by omega) (show f_X2_readOpen_b (f_X2_rec n) a1 a2 h = some (r, hr) from e)⟩
def f_X2_readLevel (a1 a2 a3 : Int32) (h : xH) : Option (Int32 × xH) := f_X2_rec 200 0 a1 a2 a3 h
theorem t_X2_readLevel {l : Launch} {γ : xG} {a1 a2 a3 : Int32} {h : xH} {r : Int32} {hr : xH} (e : f_X2_readLevel a1 a2 a3 h = some (r, hr)) : xCT l γ xSC yX2_readLevel cX2_readLevel 7 (some .boolean) 208 [.ref (γ.2.2.2 21), .int a1, .int a2, .int a3] h (some (.int r)) hr := (t_X2_rec 200).1 _ _ _ _ _ _ e
def f_X2_readPiece (a1 a2 : Int32) (h : xH) : Option (Int32 × xH) := f_X2_rec 200 1 a1 a2 0 h
theorem t_X2_readPiece {l : Launch} {γ : xG} {a1 a2 : Int32} {h : xH} {r : Int32} {hr : xH} (e : f_X2_readPiece a1 a2 h = some (r, hr)) : xCT l γ xSC yX2_readPiece cX2_readPiece 4 (some .boolean) 208 [.ref (γ.2.2.2 21), .int a1, .int a2] h (some (.int r)) hr := (t_X2_rec 200).2.1 _ _ _ _ _ e
def f_X2_readNot (a1 a2 : Int32) (h : xH) : Option (Int32 × xH) := f_X2_rec 200 2 a1 a2 0 h
theorem t_X2_readNot {l : Launch} {γ : xG} {a1 a2 : Int32} {h : xH} {r : Int32} {hr : xH} (e : f_X2_readNot a1 a2 h = some (r, hr)) : xCT l γ xSC yX2_readNot cX2_readNot 3 (some .boolean) 208 [.ref (γ.2.2.2 21), .int a1, .int a2] h (some (.int r)) hr := (t_X2_rec 200).2.2.1 _ _ _ _ _ e
def f_X2_readOpen (a1 a2 : Int32) (h : xH) : Option (Int32 × xH) := f_X2_rec 200 3 a1 a2 0 h
theorem t_X2_readOpen {l : Launch} {γ : xG} {a1 a2 : Int32} {h : xH} {r : Int32} {hr : xH} (e : f_X2_readOpen a1 a2 h = some (r, hr)) : xCT l γ xSC yX2_readOpen cX2_readOpen 3 (some .boolean) 208 [.ref (γ.2.2.2 21), .int a1, .int a2] h (some (.int r)) hr := (t_X2_rec 200).2.2.2 _ _ _ _ _ e
def f_X2_readText (h : xH) : Option (Int32 × xH) :=
    nm (xst h 21 4 0) fun h1 => nm (xst h1 21 5 0) fun h2 => nm (xst h2 21 8 0) fun h3 => nm (xst h3 21 9 0) fun h4 => bn (f_X2_goToNext h4) fun r5 h6 => bn (f_X2_keyAtHand h6) fun r8 h9 => nm (xst h9 21 7 r8) fun h11 => if 0 ≤ (h11 21 7) then (bn (f_X2_goToNext h11) fun r12 h13 => bn (f_X2_readLevel 0 0 0 h13) fun r15 h16 => if r15 = 0 then (some (0, h16)) else (if (h16 21 5) = 0 then (some (1, h16)) else (some (0, h16)))) else (some (0, h11))
set_option maxRecDepth 20000 in
set_option maxHeartbeats 2000000 in
theorem t_X2_readText {l : Launch} {γ : xG} {h : xH} {r : Int32} {hr : xH} (e : f_X2_readText h = some (r, hr)) : xCT l γ xSC yX2_readText cX2_readText 1 (some .boolean) 209 [.ref (γ.2.2.2 21)] h (some (.int r)) hr := by
  refine xCT.of (own := RX2) (L := [some (.ref (γ.2.2.2 21))]) (by decide) rfl rfl rfl (fun C hF => ?_)
  unfold f_X2_readText at e
  refine xB_aload_n hF dX2_readText_0 rfl ?_
  refine xB_iconst hF dX2_readText_1 ki_0 ?_
  refine xB_put hF dX2_readText_2 fp_X2_22 sC_21 rfl rfl rfl rfl rfl ?_
  refine xB_gen e (fun h1 e => ?_)
  refine xB_aload_n hF dX2_readText_5 rfl ?_
  refine xB_iconst hF dX2_readText_6 ki_0 ?_
  refine xB_put hF dX2_readText_7 fp_X2_25 sC_21 rfl rfl rfl rfl rfl ?_
  refine xB_gen e (fun h2 e => ?_)
  refine xB_aload_n hF dX2_readText_10 rfl ?_
  refine xB_iconst hF dX2_readText_11 ki_0 ?_
  refine xB_put hF dX2_readText_12 fp_X2_28 sC_21 rfl rfl rfl rfl rfl ?_
  refine xB_gen e (fun h3 e => ?_)
  refine xB_aload_n hF dX2_readText_15 rfl ?_
  refine xB_iconst hF dX2_readText_16 ki_0 ?_
  refine xB_put hF dX2_readText_17 fp_X2_31 sC_21 rfl rfl rfl rfl rfl ?_
  refine xB_gen e (fun h4 e => ?_)
  refine xB_aload_n hF dX2_readText_20 rfl ?_
  obtain ⟨r5, h6, e7, e⟩ := bn_of e
  refine xB_callVv hF dX2_readText_21 (t_X2_goToNext e7) cw_X2_34 sC_21 rfl rfl rfl rfl rfl ?_
  refine xB_aload_n hF dX2_readText_24 rfl ?_
  refine xB_aload_n hF dX2_readText_25 rfl ?_
  obtain ⟨r8, h9, e10, e⟩ := bn_of e
  refine xB_callVi hF dX2_readText_26 (t_X2_keyAtHand e10) cw_X2_37 sC_21 rfl rfl rfl rfl rfl ?_
  refine xB_put hF dX2_readText_29 fp_X2_41 sC_21 rfl rfl rfl rfl rfl ?_
  refine xB_gen e (fun h11 e => ?_)
  refine xB_aload_n hF dX2_readText_32 rfl ?_
  refine xB_get hF dX2_readText_33 fl_X2_41 sC_21 rfl rfl ?_
  refine xB_if_ge (tgt := 41) hF dX2_readText_36 rfl e (fun _ e => ?_) (fun _ e => ?_)
  · refine xB_aload_n hF dX2_readText_41 rfl ?_
    obtain ⟨r12, h13, e14, e⟩ := bn_of e
    refine xB_callVv hF dX2_readText_42 (t_X2_goToNext e14) cw_X2_34 sC_21 rfl rfl rfl rfl rfl ?_
    refine xB_aload_n hF dX2_readText_45 rfl ?_
    refine xB_iconst hF dX2_readText_46 ki_0 ?_
    refine xB_iconst hF dX2_readText_47 ki_0 ?_
    refine xB_iconst hF dX2_readText_48 ki_0 ?_
    obtain ⟨r15, h16, e17, e⟩ := bn_of e
    refine xB_callVi hF dX2_readText_49 (t_X2_readLevel e17) cw_X2_44 sC_21 rfl rfl rfl rfl rfl ?_
    refine xB_if_eq (tgt := 66) hF dX2_readText_52 rfl e (fun _ e => ?_) (fun _ e => ?_)
    · refine xB_iconst hF dX2_readText_66 ki_0 ?_
      exact xB_zreturn hF dX2_readText_67 rfl e
    · refine xB_aload_n hF dX2_readText_55 rfl ?_
      refine xB_get hF dX2_readText_56 fl_X2_25 sC_21 rfl rfl ?_
      refine xB_if_ne (tgt := 66) hF dX2_readText_59 rfl e (fun _ e => ?_) (fun _ e => ?_)
      · refine xB_iconst hF dX2_readText_62 ki_1 ?_
        refine xB_goto (tgt := 67) hF dX2_readText_63 rfl ?_
        exact xB_zreturn hF dX2_readText_67 rfl e
      · refine xB_iconst hF dX2_readText_66 ki_0 ?_
        exact xB_zreturn hF dX2_readText_67 rfl e
  · refine xB_iconst hF dX2_readText_39 ki_0 ?_
    exact xB_zreturn hF dX2_readText_40 rfl e
def f_X6_text (h : xH) : Option (Int32 × xH) :=
    bn (f_X2_readText h) fun r1 h2 => nm (xst h2 21 2 0) fun h4 => if r1 = 0 then (some ((-100) - (h4 21 3), h4)) else (if (h4 24 11) < 14 then (bn (f_X0_write (h4 24 11) h4) fun r5 h6 => nm (xst h6 24 11 ((h4 24 11) + 1)) fun h8 => gd (h8 21 7) 3 <| nm (xst h8 33 (Int32.toNatClampNeg (h8 21 7)) (h4 24 11)) fun h9 => some (h4 24 11, h9)) else (some ((-1000000003), h4)))
set_option maxRecDepth 20000 in
set_option maxHeartbeats 2000000 in
theorem t_X6_text {l : Launch} {γ : xG} {h : xH} {r : Int32} {hr : xH} (e : f_X6_text h = some (r, hr)) : xCT l γ xSC yX6_text cX6_text 3 (some .int) 210 [.ref (γ.2.2.2 0)] h (some (.int r)) hr := by
  refine xCT.of (own := RX6) (L := [some (.ref (γ.2.2.2 0)), none, none]) (by decide) rfl rfl rfl (fun C hF => ?_)
  unfold f_X6_text at e
  refine xB_aload_n hF dX6_text_0 rfl ?_
  refine xB_get hF dX6_text_1 fl_X6_19 sC_0 rfl rfl ?_
  obtain ⟨r1, h2, e3, e⟩ := bn_of e
  refine xB_callVi hF dX6_text_4 (t_X2_readText e3) cw_X6_252 sC_21 rfl rfl rfl rfl rfl ?_
  refine xB_istore_n (L' := [_, _, _]) hF dX6_text_7 rfl rfl rfl ?_
  refine xB_aload_n hF dX6_text_8 rfl ?_
  refine xB_get hF dX6_text_9 fl_X6_19 sC_0 rfl rfl ?_
  refine xB_iconst hF dX6_text_12 ki_0 ?_
  refine xB_put hF dX6_text_13 fp_X6_248 sC_21 rfl rfl rfl rfl rfl ?_
  refine xB_gen e (fun h4 e => ?_)
  refine xB_iload_n hF dX6_text_16 rfl ?_
  refine xB_if_ne (tgt := 31) hF dX6_text_17 rfl e (fun _ e => ?_) (fun _ e => ?_)
  · refine xB_bipush hF dX6_text_20 kb_m100 ?_
    refine xB_aload_n hF dX6_text_22 rfl ?_
    refine xB_get hF dX6_text_23 fl_X6_19 sC_0 rfl rfl ?_
    refine xB_get hF dX6_text_26 fl_X6_256 sC_21 rfl rfl ?_
    refine xB_isub hF dX6_text_29 ?_
    exact xB_ireturn hF dX6_text_30 e
  · refine xB_aload_n hF dX6_text_31 rfl ?_
    refine xB_get hF dX6_text_32 fl_X6_28 sC_0 rfl rfl ?_
    refine xB_get hF dX6_text_35 fl_X6_259 isX5_24.1 rfl rfl ?_
    refine xB_bipush hF dX6_text_38 kb_14 ?_
    refine xB_icmp_lt (tgt := 46) hF dX6_text_40 rfl e (fun _ e => ?_) (fun _ e => ?_)
    · refine xB_aload_n hF dX6_text_46 rfl ?_
      refine xB_get hF dX6_text_47 fl_X6_28 sC_0 rfl rfl ?_
      refine xB_get hF dX6_text_50 fl_X6_259 isX5_24.1 rfl rfl ?_
      refine xB_istore_n (L' := [_, _, _]) hF dX6_text_53 rfl rfl rfl ?_
      refine xB_aload_n hF dX6_text_54 rfl ?_
      refine xB_get hF dX6_text_55 fl_X6_10 sC_0 rfl rfl ?_
      refine xB_iload_n hF dX6_text_58 rfl ?_
      refine xB_aload_n hF dX6_text_59 rfl ?_
      refine xB_get hF dX6_text_60 fl_X6_19 sC_0 rfl rfl ?_
      obtain ⟨r5, h6, e7, e⟩ := bn_of e
      refine xB_callVv hF dX6_text_63 (t_X0_write e7) cw_X6_262 sC_1 rfl rfl rfl rfl rfl ?_
      refine xB_aload_n hF dX6_text_66 rfl ?_
      refine xB_get hF dX6_text_67 fl_X6_28 sC_0 rfl rfl ?_
      refine xB_iload_n hF dX6_text_70 rfl ?_
      refine xB_iconst hF dX6_text_71 ki_1 ?_
      refine xB_iadd hF dX6_text_72 ?_
      refine xB_put hF dX6_text_73 fp_X6_259 isX5_24.1 rfl rfl rfl rfl rfl ?_
      refine xB_gen e (fun h8 e => ?_)
      refine xB_aload_n hF dX6_text_76 rfl ?_
      refine xB_get hF dX6_text_77 fl_X6_28 sC_0 rfl rfl ?_
      refine xB_get hF dX6_text_80 fl_X6_237 isX5_24.1 rfl rfl ?_
      refine xB_aload_n hF dX6_text_83 rfl ?_
      refine xB_get hF dX6_text_84 fl_X6_19 sC_0 rfl rfl ?_
      refine xB_get hF dX6_text_87 fl_X6_266 sC_21 rfl rfl ?_
      refine xB_iload_n hF dX6_text_90 rfl ?_
      refine xB_iast hF dX6_text_91 sC_33 e (fun e => ?_)
      refine xB_gen e (fun h9 e => ?_)
      refine xB_iload_n hF dX6_text_92 rfl ?_
      exact xB_ireturn hF dX6_text_93 e
    · refine xB_ldc hF dX6_text_43 kc_X6_89 ?_
      exact xB_ireturn hF dX6_text_45 e
