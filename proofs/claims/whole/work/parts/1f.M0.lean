def f_X7_isIn (a0 : Int64) (a2 : Int64) (a4 : Int64) (h : xH) : Option (Int32 × xH) :=
    if (lg_cmp a0 a2) < 0 then (some (0, h)) else (if 0 < (lg_cmp a0 a4) then (some (0, h)) else (some (1, h)))
set_option maxRecDepth 20000 in
set_option maxHeartbeats 2000000 in
theorem t_X7_isIn {l : Launch} {γ : xG} {a0 : Int64} {a2 : Int64} {a4 : Int64} {h : xH} {r : Int32} {hr : xH} (e : f_X7_isIn a0 a2 a4 h = some (r, hr)) : xCT l γ xSM yX7_isIn cX7_isIn 6 (some .boolean) 0 [.long a0, .long a2, .long a4] h (some (.int r)) hr := by
  refine xCT.of (own := RX7) (L := [some (.long a0), none, some (.long a2), none, some (.long a4), none]) (by decide) rfl rfl rfl (fun C hF => ?_)
  unfold f_X7_isIn at e
  refine xB_lload_n hF dX7_isIn_0 rfl ?_
  refine xB_lload_n hF dX7_isIn_1 rfl ?_
  refine xB_lcmp hF dX7_isIn_2 ?_
  refine xB_if_lt (tgt := 17) hF dX7_isIn_3 rfl e (fun _ e => ?_) (fun _ e => ?_)
  · refine xB_iconst hF dX7_isIn_17 ki_0 ?_
    exact xB_zreturn hF dX7_isIn_18 rfl e
  · refine xB_lload_n hF dX7_isIn_6 rfl ?_
    refine xB_lload hF dX7_isIn_7 rfl ?_
    refine xB_lcmp hF dX7_isIn_9 ?_
    refine xB_if_gt (tgt := 17) hF dX7_isIn_10 rfl e (fun _ e => ?_) (fun _ e => ?_)
    · refine xB_iconst hF dX7_isIn_17 ki_0 ?_
      exact xB_zreturn hF dX7_isIn_18 rfl e
    · refine xB_iconst hF dX7_isIn_13 ki_1 ?_
      refine xB_goto (tgt := 18) hF dX7_isIn_14 rfl ?_
      exact xB_zreturn hF dX7_isIn_18 rfl e
def f_X7_orNone (a0 : Int32) (h : xH) : Option (Int32 × xH) :=
    if 0 ≤ a0 then (some (a0, h)) else (some ((-1000000005), h))
set_option maxRecDepth 20000 in
set_option maxHeartbeats 2000000 in
theorem t_X7_orNone {l : Launch} {γ : xG} {a0 : Int32} {h : xH} {r : Int32} {hr : xH} (e : f_X7_orNone a0 h = some (r, hr)) : xCT l γ xSM yX7_orNone cX7_orNone 1 (some .int) 0 [.int a0] h (some (.int r)) hr := by
  refine xCT.of (own := RX7) (L := [some (.int a0)]) (by decide) rfl rfl rfl (fun C hF => ?_)
  unfold f_X7_orNone at e
  refine xB_iload_n hF dX7_orNone_0 rfl ?_
  refine xB_if_ge (tgt := 9) hF dX7_orNone_1 rfl e (fun _ e => ?_) (fun _ e => ?_)
  · refine xB_iload_n hF dX7_orNone_9 rfl ?_
    exact xB_ireturn hF dX7_orNone_10 e
  · refine xB_ldc hF dX7_orNone_4 kc_X7_67 ?_
    refine xB_goto (tgt := 10) hF dX7_orNone_6 rfl ?_
    exact xB_ireturn hF dX7_orNone_10 e
def f_X7_within (a0 : Int32) (a1 : Int32) (h : xH) : Option (Int32 × xH) :=
    if 0 ≤ a0 then (if a0 ≤ a1 then (some (a0, h)) else (some (a1, h))) else (some (0, h))
set_option maxRecDepth 20000 in
set_option maxHeartbeats 2000000 in
theorem t_X7_within {l : Launch} {γ : xG} {a0 : Int32} {a1 : Int32} {h : xH} {r : Int32} {hr : xH} (e : f_X7_within a0 a1 h = some (r, hr)) : xCT l γ xSM yX7_within cX7_within 2 (some .int) 0 [.int a0, .int a1] h (some (.int r)) hr := by
  refine xCT.of (own := RX7) (L := [some (.int a0), some (.int a1)]) (by decide) rfl rfl rfl (fun C hF => ?_)
  unfold f_X7_within at e
  refine xB_iload_n hF dX7_within_0 rfl ?_
  refine xB_if_ge (tgt := 8) hF dX7_within_1 rfl e (fun _ e => ?_) (fun _ e => ?_)
  · refine xB_iload_n hF dX7_within_8 rfl ?_
    refine xB_iload_n hF dX7_within_9 rfl ?_
    refine xB_icmp_le (tgt := 17) hF dX7_within_10 rfl e (fun _ e => ?_) (fun _ e => ?_)
    · refine xB_iload_n hF dX7_within_17 rfl ?_
      exact xB_ireturn hF dX7_within_18 e
    · refine xB_iload_n hF dX7_within_13 rfl ?_
      refine xB_goto (tgt := 18) hF dX7_within_14 rfl ?_
      exact xB_ireturn hF dX7_within_18 e
  · refine xB_iconst hF dX7_within_4 ki_0 ?_
    refine xB_goto (tgt := 18) hF dX7_within_5 rfl ?_
    exact xB_ireturn hF dX7_within_18 e
def f_X7_off (a0 : Int32) (a1 : Int32) (h : xH) : Option (Int32 × xH) :=
    if a1 ≤ a0 then (some (a0 - a1, h)) else (some (a1 - a0, h))
set_option maxRecDepth 20000 in
set_option maxHeartbeats 2000000 in
theorem t_X7_off {l : Launch} {γ : xG} {a0 : Int32} {a1 : Int32} {h : xH} {r : Int32} {hr : xH} (e : f_X7_off a0 a1 h = some (r, hr)) : xCT l γ xSM yX7_off cX7_off 2 (some .int) 0 [.int a0, .int a1] h (some (.int r)) hr := by
  refine xCT.of (own := RX7) (L := [some (.int a0), some (.int a1)]) (by decide) rfl rfl rfl (fun C hF => ?_)
  unfold f_X7_off at e
  refine xB_iload_n hF dX7_off_0 rfl ?_
  refine xB_iload_n hF dX7_off_1 rfl ?_
  refine xB_icmp_ge (tgt := 11) hF dX7_off_2 rfl e (fun _ e => ?_) (fun _ e => ?_)
  · refine xB_iload_n hF dX7_off_11 rfl ?_
    refine xB_iload_n hF dX7_off_12 rfl ?_
    refine xB_isub hF dX7_off_13 ?_
    exact xB_ireturn hF dX7_off_14 e
  · refine xB_iload_n hF dX7_off_5 rfl ?_
    refine xB_iload_n hF dX7_off_6 rfl ?_
    refine xB_isub hF dX7_off_7 ?_
    refine xB_goto (tgt := 14) hF dX7_off_8 rfl ?_
    exact xB_ireturn hF dX7_off_14 e
def f_X7_becomes (a1 : Int32) (a2 : Int32) (h : xH) : Option (Int32 × xH) :=
    gd a1 3078 <| nm (h 1 (Int32.toNatClampNeg a1)) fun x1 => gd a1 3078 <| nm (xst h 1 (Int32.toNatClampNeg a1) a2) fun h2 => some (x1, h2)
set_option maxRecDepth 20000 in
set_option maxHeartbeats 2000000 in
theorem t_X7_becomes {l : Launch} {γ : xG} {a1 : Int32} {a2 : Int32} {h : xH} {r : Int32} {hr : xH} (e : f_X7_becomes a1 a2 h = some (r, hr)) : xCT l γ xSM yX7_becomes cX7_becomes 4 (some .int) 0 [.ref (γ.2.2.2 0), .int a1, .int a2] h (some (.int r)) hr := by
  refine xCT.of (own := RX7) (L := [some (.ref (γ.2.2.2 0)), some (.int a1), some (.int a2), none]) (by decide) rfl rfl rfl (fun C hF => ?_)
  unfold f_X7_becomes at e
  refine xB_aload_n hF dX7_becomes_0 rfl ?_
  refine xB_get hF dX7_becomes_1 fl_X7_7 sM_0 rfl rfl ?_
  refine xB_iload_n hF dX7_becomes_4 rfl ?_
  refine xB_iald hF dX7_becomes_5 sM_1 e (fun e => ?_)
  refine xB_istore_n (L' := [_, _, _, _]) hF dX7_becomes_6 rfl rfl rfl ?_
  replace e := nm_of e
  refine xB_aload_n hF dX7_becomes_7 rfl ?_
  refine xB_get hF dX7_becomes_8 fl_X7_7 sM_0 rfl rfl ?_
  refine xB_iload_n hF dX7_becomes_11 rfl ?_
  refine xB_iload_n hF dX7_becomes_12 rfl ?_
  refine xB_iast hF dX7_becomes_13 sM_1 e (fun e => ?_)
  refine xB_gen e (fun h2 e => ?_)
  refine xB_iload_n hF dX7_becomes_14 rfl ?_
  exact xB_ireturn hF dX7_becomes_15 e
def f_X7_textAt (a1 : Int32) (h : xH) : Option (Int32 × xH) :=
    some (78 + (200 * a1), h)
set_option maxRecDepth 20000 in
set_option maxHeartbeats 2000000 in
theorem t_X7_textAt {l : Launch} {γ : xG} {a1 : Int32} {h : xH} {r : Int32} {hr : xH} (e : f_X7_textAt a1 h = some (r, hr)) : xCT l γ xSM yX7_textAt cX7_textAt 2 (some .int) 0 [.ref (γ.2.2.2 0), .int a1] h (some (.int r)) hr := by
  refine xCT.of (own := RX7) (L := [some (.ref (γ.2.2.2 0)), some (.int a1)]) (by decide) rfl rfl rfl (fun C hF => ?_)
  unfold f_X7_textAt at e
  refine xB_bipush hF dX7_textAt_0 kb_78 ?_
  refine xB_sipush hF dX7_textAt_2 ks_200 ?_
  refine xB_iload_n hF dX7_textAt_5 rfl ?_
  refine xB_imul hF dX7_textAt_6 ?_
  refine xB_iadd hF dX7_textAt_7 ?_
  exact xB_ireturn hF dX7_textAt_8 e
def f_X7_of (a1 : Int32) (a2 : Int32) (h : xH) : Option (Int32 × xH) :=
    gd ((18 + (6 * a1)) + a2) 3078 <| some (h 1 (Int32.toNatClampNeg ((18 + (6 * a1)) + a2)), h)
set_option maxRecDepth 20000 in
set_option maxHeartbeats 2000000 in
theorem t_X7_of {l : Launch} {γ : xG} {a1 : Int32} {a2 : Int32} {h : xH} {r : Int32} {hr : xH} (e : f_X7_of a1 a2 h = some (r, hr)) : xCT l γ xSM yX7_of cX7_of 3 (some .int) 0 [.ref (γ.2.2.2 0), .int a1, .int a2] h (some (.int r)) hr := by
  refine xCT.of (own := RX7) (L := [some (.ref (γ.2.2.2 0)), some (.int a1), some (.int a2)]) (by decide) rfl rfl rfl (fun C hF => ?_)
  unfold f_X7_of at e
  refine xB_aload_n hF dX7_of_0 rfl ?_
  refine xB_get hF dX7_of_1 fl_X7_7 sM_0 rfl rfl ?_
  refine xB_bipush hF dX7_of_4 kb_18 ?_
  refine xB_bipush hF dX7_of_6 kb_6 ?_
  refine xB_iload_n hF dX7_of_8 rfl ?_
  refine xB_imul hF dX7_of_9 ?_
  refine xB_iadd hF dX7_of_10 ?_
  refine xB_iload_n hF dX7_of_11 rfl ?_
  refine xB_iadd hF dX7_of_12 ?_
  refine xB_iald hF dX7_of_13 sM_1 e (fun e => ?_)
  exact xB_ireturn hF dX7_of_14 e
def f_X7_sets (a1 : Int32) (a2 : Int32) (a3 : Int32) (h : xH) : Option (Int32 × xH) :=
    gd ((18 + (6 * a1)) + a2) 3078 <| nm (xst h 1 (Int32.toNatClampNeg ((18 + (6 * a1)) + a2)) a3) fun h1 => some (0, h1)
set_option maxRecDepth 20000 in
set_option maxHeartbeats 2000000 in
theorem t_X7_sets {l : Launch} {γ : xG} {a1 : Int32} {a2 : Int32} {a3 : Int32} {h : xH} {r : Int32} {hr : xH} (e : f_X7_sets a1 a2 a3 h = some (r, hr)) : xCT l γ xSM yX7_sets cX7_sets 4 none 0 [.ref (γ.2.2.2 0), .int a1, .int a2, .int a3] h none hr := by
  refine xCT.of (own := RX7) (L := [some (.ref (γ.2.2.2 0)), some (.int a1), some (.int a2), some (.int a3)]) (by decide) rfl rfl rfl (fun C hF => ?_)
  unfold f_X7_sets at e
  refine xB_aload_n hF dX7_sets_0 rfl ?_
  refine xB_get hF dX7_sets_1 fl_X7_7 sM_0 rfl rfl ?_
  refine xB_bipush hF dX7_sets_4 kb_18 ?_
  refine xB_bipush hF dX7_sets_6 kb_6 ?_
  refine xB_iload_n hF dX7_sets_8 rfl ?_
  refine xB_imul hF dX7_sets_9 ?_
  refine xB_iadd hF dX7_sets_10 ?_
  refine xB_iload_n hF dX7_sets_11 rfl ?_
  refine xB_iadd hF dX7_sets_12 ?_
  refine xB_iload_n hF dX7_sets_13 rfl ?_
  refine xB_iast hF dX7_sets_14 sM_1 e (fun e => ?_)
  refine xB_gen e (fun h1 e => ?_)
  exact xB_vreturn hF dX7_sets_15 e
def f_X7_isDay (a1 : Int32) (h : xH) : Option (Int32 × xH) :=
    gd 0 3078 <| bn (f_X7_isIn (Int32.toInt64 a1) 0 (Int32.toInt64 ((h 1 (Int32.toNatClampNeg 0)) - 1)) h) fun r1 h2 => gb r1 (some (r1, h2))
set_option maxRecDepth 20000 in
set_option maxHeartbeats 2000000 in
theorem t_X7_isDay {l : Launch} {γ : xG} {a1 : Int32} {h : xH} {r : Int32} {hr : xH} (e : f_X7_isDay a1 h = some (r, hr)) : xCT l γ xSM yX7_isDay cX7_isDay 2 (some .boolean) 1 [.ref (γ.2.2.2 0), .int a1] h (some (.int r)) hr := by
  refine xCT.of (own := RX7) (L := [some (.ref (γ.2.2.2 0)), some (.int a1)]) (by decide) rfl rfl rfl (fun C hF => ?_)
  unfold f_X7_isDay at e
  refine xB_iload_n hF dX7_isDay_0 rfl ?_
  refine xB_i2l hF dX7_isDay_1 ?_
  refine xB_lconst (v := 0) hF dX7_isDay_2 (by decide) ?_
  refine xB_aload_n hF dX7_isDay_3 rfl ?_
  refine xB_get hF dX7_isDay_4 fl_X7_7 sM_0 rfl rfl ?_
  refine xB_iconst hF dX7_isDay_7 ki_0 ?_
  refine xB_iald hF dX7_isDay_8 sM_1 e (fun e => ?_)
  refine xB_iconst hF dX7_isDay_9 ki_1 ?_
  refine xB_isub hF dX7_isDay_10 ?_
  refine xB_i2l hF dX7_isDay_11 ?_
  obtain ⟨r1, h2, e3, e⟩ := bn_of e
  refine xB_callSi hF dX7_isDay_12 (t_X7_isIn e3) cw_X7_68 rfl rfl rfl rfl ?_
  exact xB_breturn hF dX7_isDay_15 e
def f_X7_isOne (a0 : Int32) (h : xH) : Option (Int32 × xH) :=
    if a0 < 0 then (some (0, h)) else (if 6 ≤ a0 then (some (0, h)) else (some (1, h)))
set_option maxRecDepth 20000 in
set_option maxHeartbeats 2000000 in
theorem t_X7_isOne {l : Launch} {γ : xG} {a0 : Int32} {h : xH} {r : Int32} {hr : xH} (e : f_X7_isOne a0 h = some (r, hr)) : xCT l γ xSM yX7_isOne cX7_isOne 1 (some .boolean) 0 [.int a0] h (some (.int r)) hr := by
  refine xCT.of (own := RX7) (L := [some (.int a0)]) (by decide) rfl rfl rfl (fun C hF => ?_)
  unfold f_X7_isOne at e
  refine xB_iload_n hF dX7_isOne_0 rfl ?_
  refine xB_if_lt (tgt := 14) hF dX7_isOne_1 rfl e (fun _ e => ?_) (fun _ e => ?_)
  · refine xB_iconst hF dX7_isOne_14 ki_0 ?_
    exact xB_zreturn hF dX7_isOne_15 rfl e
  · refine xB_iload_n hF dX7_isOne_4 rfl ?_
    refine xB_bipush hF dX7_isOne_5 kb_6 ?_
    refine xB_icmp_ge (tgt := 14) hF dX7_isOne_7 rfl e (fun _ e => ?_) (fun _ e => ?_)
    · refine xB_iconst hF dX7_isOne_14 ki_0 ?_
      exact xB_zreturn hF dX7_isOne_15 rfl e
    · refine xB_iconst hF dX7_isOne_10 ki_1 ?_
      refine xB_goto (tgt := 15) hF dX7_isOne_11 rfl ?_
      exact xB_zreturn hF dX7_isOne_15 rfl e
def f_X7_isText (a1 : Int32) (h : xH) : Option (Int32 × xH) :=
    gd 1 3078 <| bn (f_X7_isIn (Int32.toInt64 a1) 0 (Int32.toInt64 ((h 1 (Int32.toNatClampNeg 1)) - 1)) h) fun r1 h2 => gb r1 (some (r1, h2))
set_option maxRecDepth 20000 in
set_option maxHeartbeats 2000000 in
theorem t_X7_isText {l : Launch} {γ : xG} {a1 : Int32} {h : xH} {r : Int32} {hr : xH} (e : f_X7_isText a1 h = some (r, hr)) : xCT l γ xSM yX7_isText cX7_isText 2 (some .boolean) 1 [.ref (γ.2.2.2 0), .int a1] h (some (.int r)) hr := by
  refine xCT.of (own := RX7) (L := [some (.ref (γ.2.2.2 0)), some (.int a1)]) (by decide) rfl rfl rfl (fun C hF => ?_)
  unfold f_X7_isText at e
  refine xB_iload_n hF dX7_isText_0 rfl ?_
  refine xB_i2l hF dX7_isText_1 ?_
  refine xB_lconst (v := 0) hF dX7_isText_2 (by decide) ?_
  refine xB_aload_n hF dX7_isText_3 rfl ?_
  refine xB_get hF dX7_isText_4 fl_X7_7 sM_0 rfl rfl ?_
  refine xB_iconst hF dX7_isText_7 ki_1 ?_
  refine xB_iald hF dX7_isText_8 sM_1 e (fun e => ?_)
  refine xB_iconst hF dX7_isText_9 ki_1 ?_
  refine xB_isub hF dX7_isText_10 ?_
  refine xB_i2l hF dX7_isText_11 ?_
  obtain ⟨r1, h2, e3, e⟩ := bn_of e
  refine xB_callSi hF dX7_isText_12 (t_X7_isIn e3) cw_X7_68 rfl rfl rfl rfl ?_
  exact xB_breturn hF dX7_isText_15 e
def f_X7_drawn (h : xH) : Option (Int32 × xH) :=
    gd 5 3078 <| gd 5 3078 <| nm (xst h 1 (Int32.toNatClampNeg 5) (((h 1 (Int32.toNatClampNeg 5)) * 1103515245) + 12345)) fun h1 => gd 5 3078 <| some (((h1 1 (Int32.toNatClampNeg 5) : Int32).toUInt32 >>> ((8 : Int32).toUInt32 &&& Int32.toUInt32 31)).toInt32, h1)
set_option maxRecDepth 20000 in
set_option maxHeartbeats 2000000 in
theorem t_X7_drawn {l : Launch} {γ : xG} {h : xH} {r : Int32} {hr : xH} (e : f_X7_drawn h = some (r, hr)) : xCT l γ xSM yX7_drawn cX7_drawn 1 (some .int) 0 [.ref (γ.2.2.2 0)] h (some (.int r)) hr := by
  refine xCT.of (own := RX7) (L := [some (.ref (γ.2.2.2 0))]) (by decide) rfl rfl rfl (fun C hF => ?_)
  unfold f_X7_drawn at e
  refine xB_aload_n hF dX7_drawn_0 rfl ?_
  refine xB_get hF dX7_drawn_1 fl_X7_7 sM_0 rfl rfl ?_
  refine xB_iconst hF dX7_drawn_4 ki_5 ?_
  refine xB_aload_n hF dX7_drawn_5 rfl ?_
  refine xB_get hF dX7_drawn_6 fl_X7_7 sM_0 rfl rfl ?_
  refine xB_iconst hF dX7_drawn_9 ki_5 ?_
  refine xB_iald hF dX7_drawn_10 sM_1 e (fun e => ?_)
  refine xB_ldc hF dX7_drawn_11 kc_X7_72 ?_
  refine xB_imul hF dX7_drawn_13 ?_
  refine xB_sipush hF dX7_drawn_14 ks_12345 ?_
  refine xB_iadd hF dX7_drawn_17 ?_
  refine xB_iast hF dX7_drawn_18 sM_1 e (fun e => ?_)
  refine xB_gen e (fun h1 e => ?_)
  refine xB_aload_n hF dX7_drawn_19 rfl ?_
  refine xB_get hF dX7_drawn_20 fl_X7_7 sM_0 rfl rfl ?_
  refine xB_iconst hF dX7_drawn_23 ki_5 ?_
  refine xB_iald hF dX7_drawn_24 sM_1 e (fun e => ?_)
  refine xB_bipush hF dX7_drawn_25 kb_8 ?_
  refine xB_iushr hF dX7_drawn_27 ?_
  exact xB_ireturn hF dX7_drawn_28 e
def f_X7_comes (a1 : Int32) (a2 : Int32) (a3 : Int32) (a4 : Int32) (h : xH) : Option (Int32 × xH) :=
    gd 0 3078 <| nm (h 1 (Int32.toNatClampNeg 0)) fun x1 => gd 0 3078 <| gd 0 3078 <| nm (xst h 1 (Int32.toNatClampNeg 0) ((h 1 (Int32.toNatClampNeg 0)) + 1)) fun h2 => bn (f_X7_sets x1 0 a1 h2) fun r3 h4 => bn (f_X7_sets x1 1 a2 h4) fun r6 h7 => bn (f_X7_sets x1 2 a3 h7) fun r9 h10 => bn (f_X7_sets x1 3 0 h10) fun r12 h13 => bn (f_X7_sets x1 4 a4 h13) fun r15 h16 => bn (f_X7_sets x1 5 (1 <<< (a4 &&& 31)) h16) fun r18 h19 => some (0, h19)
set_option maxRecDepth 20000 in
set_option maxHeartbeats 2000000 in
theorem t_X7_comes {l : Launch} {γ : xG} {a1 : Int32} {a2 : Int32} {a3 : Int32} {a4 : Int32} {h : xH} {r : Int32} {hr : xH} (e : f_X7_comes a1 a2 a3 a4 h = some (r, hr)) : xCT l γ xSM yX7_comes cX7_comes 6 none 1 [.ref (γ.2.2.2 0), .int a1, .int a2, .int a3, .int a4] h none hr := by
  refine xCT.of (own := RX7) (L := [some (.ref (γ.2.2.2 0)), some (.int a1), some (.int a2), some (.int a3), some (.int a4), none]) (by decide) rfl rfl rfl (fun C hF => ?_)
  unfold f_X7_comes at e
  refine xB_aload_n hF dX7_comes_0 rfl ?_
  refine xB_get hF dX7_comes_1 fl_X7_7 sM_0 rfl rfl ?_
  refine xB_iconst hF dX7_comes_4 ki_0 ?_
  refine xB_iald hF dX7_comes_5 sM_1 e (fun e => ?_)
  refine xB_istore (L' := [_, _, _, _, _, _]) hF dX7_comes_6 rfl rfl rfl ?_
  replace e := nm_of e
  refine xB_aload_n hF dX7_comes_8 rfl ?_
  refine xB_get hF dX7_comes_9 fl_X7_7 sM_0 rfl rfl ?_
  refine xB_iconst hF dX7_comes_12 ki_0 ?_
  refine xB_dup2 hF dX7_comes_13 rfl rfl ?_
  refine xB_iald hF dX7_comes_14 sM_1 e (fun e => ?_)
  refine xB_iconst hF dX7_comes_15 ki_1 ?_
  refine xB_iadd hF dX7_comes_16 ?_
  refine xB_iast hF dX7_comes_17 sM_1 e (fun e => ?_)
  refine xB_gen e (fun h2 e => ?_)
  refine xB_aload_n hF dX7_comes_18 rfl ?_
  refine xB_iload hF dX7_comes_19 rfl ?_
  refine xB_iconst hF dX7_comes_21 ki_0 ?_
  refine xB_iload_n hF dX7_comes_22 rfl ?_
  obtain ⟨r3, h4, e5, e⟩ := bn_of e
  refine xB_callVv hF dX7_comes_23 (t_X7_sets e5) cw_X7_73 sM_0 rfl rfl rfl rfl rfl ?_
  refine xB_aload_n hF dX7_comes_26 rfl ?_
  refine xB_iload hF dX7_comes_27 rfl ?_
  refine xB_iconst hF dX7_comes_29 ki_1 ?_
  refine xB_iload_n hF dX7_comes_30 rfl ?_
  obtain ⟨r6, h7, e8, e⟩ := bn_of e
  refine xB_callVv hF dX7_comes_31 (t_X7_sets e8) cw_X7_73 sM_0 rfl rfl rfl rfl rfl ?_
  refine xB_aload_n hF dX7_comes_34 rfl ?_
  refine xB_iload hF dX7_comes_35 rfl ?_
  refine xB_iconst hF dX7_comes_37 ki_2 ?_
  refine xB_iload_n hF dX7_comes_38 rfl ?_
  obtain ⟨r9, h10, e11, e⟩ := bn_of e
  refine xB_callVv hF dX7_comes_39 (t_X7_sets e11) cw_X7_73 sM_0 rfl rfl rfl rfl rfl ?_
  refine xB_aload_n hF dX7_comes_42 rfl ?_
  refine xB_iload hF dX7_comes_43 rfl ?_
  refine xB_iconst hF dX7_comes_45 ki_3 ?_
  refine xB_iconst hF dX7_comes_46 ki_0 ?_
  obtain ⟨r12, h13, e14, e⟩ := bn_of e
  refine xB_callVv hF dX7_comes_47 (t_X7_sets e14) cw_X7_73 sM_0 rfl rfl rfl rfl rfl ?_
  refine xB_aload_n hF dX7_comes_50 rfl ?_
  refine xB_iload hF dX7_comes_51 rfl ?_
  refine xB_iconst hF dX7_comes_53 ki_4 ?_
  refine xB_iload hF dX7_comes_54 rfl ?_
  obtain ⟨r15, h16, e17, e⟩ := bn_of e
  refine xB_callVv hF dX7_comes_56 (t_X7_sets e17) cw_X7_73 sM_0 rfl rfl rfl rfl rfl ?_
  refine xB_aload_n hF dX7_comes_59 rfl ?_
  refine xB_iload hF dX7_comes_60 rfl ?_
  refine xB_iconst hF dX7_comes_62 ki_5 ?_
  refine xB_iconst hF dX7_comes_63 ki_1 ?_
  refine xB_iload hF dX7_comes_64 rfl ?_
  refine xB_ishl hF dX7_comes_66 ?_
  obtain ⟨r18, h19, e20, e⟩ := bn_of e
  refine xB_callVv hF dX7_comes_67 (t_X7_sets e20) cw_X7_73 sM_0 rfl rfl rfl rfl rfl ?_
  exact xB_vreturn hF dX7_comes_70 e
def f_X7_day (a1 : Int32) (a2 : Int32) (a3 : Int32) (a4 : Int32) (h : xH) : Option (Int32 × xH) :=
    bn (f_X7_isIn (Int32.toInt64 a1) 0 5 h) fun r1 h2 => if r1 = 0 then (some ((-1000000001), h2)) else (bn (f_X7_isIn (Int32.toInt64 a2) 0 99 h2) fun r4 h5 => if r4 = 0 then (some ((-1000000001), h5)) else (bn (f_X7_isIn (Int32.toInt64 a3) 0 9 h5) fun r7 h8 => if r7 = 0 then (some ((-1000000001), h8)) else (bn (f_X7_isOne a4 h8) fun r10 h11 => if r10 = 0 then (some ((-1000000001), h11)) else (gd 0 3078 <| if (h11 1 (Int32.toNatClampNeg 0)) = 10 then (some ((-1000000003), h11)) else (bn (f_X7_comes a1 a2 a3 a4 h11) fun r13 h14 => gd 0 3078 <| some ((h14 1 (Int32.toNatClampNeg 0)) - 1, h14))))))
set_option maxRecDepth 20000 in
set_option maxHeartbeats 2000000 in
theorem t_X7_day {l : Launch} {γ : xG} {a1 : Int32} {a2 : Int32} {a3 : Int32} {a4 : Int32} {h : xH} {r : Int32} {hr : xH} (e : f_X7_day a1 a2 a3 a4 h = some (r, hr)) : xCT l γ xSM yX7_day cX7_day 5 (some .int) 2 [.ref (γ.2.2.2 0), .int a1, .int a2, .int a3, .int a4] h (some (.int r)) hr := by
  refine xCT.of (own := RX7) (L := [some (.ref (γ.2.2.2 0)), some (.int a1), some (.int a2), some (.int a3), some (.int a4)]) (by decide) rfl rfl rfl (fun C hF => ?_)
  unfold f_X7_day at e
  refine xB_iload_n hF dX7_day_0 rfl ?_
  refine xB_i2l hF dX7_day_1 ?_
  refine xB_lconst (v := 0) hF dX7_day_2 (by decide) ?_
  refine xB_ldc2 hF dX7_day_3 kc_X7_77 ?_
  obtain ⟨r1, h2, e3, e⟩ := bn_of e
  refine xB_callSi hF dX7_day_6 (t_X7_isIn e3) cw_X7_68 rfl rfl rfl rfl ?_
  refine xB_if_eq (tgt := 44) hF dX7_day_9 rfl e (fun _ e => ?_) (fun _ e => ?_)
  · refine xB_ldc hF dX7_day_44 kc_X7_87 ?_
    exact xB_ireturn hF dX7_day_46 e
  · refine xB_iload_n hF dX7_day_12 rfl ?_
    refine xB_i2l hF dX7_day_13 ?_
    refine xB_lconst (v := 0) hF dX7_day_14 (by decide) ?_
    refine xB_ldc2 hF dX7_day_15 kc_X7_79 ?_
    obtain ⟨r4, h5, e6, e⟩ := bn_of e
    refine xB_callSi hF dX7_day_18 (t_X7_isIn e6) cw_X7_68 rfl rfl rfl rfl ?_
    refine xB_if_eq (tgt := 44) hF dX7_day_21 rfl e (fun _ e => ?_) (fun _ e => ?_)
    · refine xB_ldc hF dX7_day_44 kc_X7_87 ?_
      exact xB_ireturn hF dX7_day_46 e
    · refine xB_iload_n hF dX7_day_24 rfl ?_
      refine xB_i2l hF dX7_day_25 ?_
      refine xB_lconst (v := 0) hF dX7_day_26 (by decide) ?_
      refine xB_ldc2 hF dX7_day_27 kc_X7_81 ?_
      obtain ⟨r7, h8, e9, e⟩ := bn_of e
      refine xB_callSi hF dX7_day_30 (t_X7_isIn e9) cw_X7_68 rfl rfl rfl rfl ?_
      refine xB_if_eq (tgt := 44) hF dX7_day_33 rfl e (fun _ e => ?_) (fun _ e => ?_)
      · refine xB_ldc hF dX7_day_44 kc_X7_87 ?_
        exact xB_ireturn hF dX7_day_46 e
      · refine xB_iload hF dX7_day_36 rfl ?_
        obtain ⟨r10, h11, e12, e⟩ := bn_of e
        refine xB_callSi hF dX7_day_38 (t_X7_isOne e12) cw_X7_83 rfl rfl rfl rfl ?_
        refine xB_if_ne (tgt := 47) hF dX7_day_41 rfl e (fun _ e => ?_) (fun _ e => ?_)
        · refine xB_ldc hF dX7_day_44 kc_X7_87 ?_
          exact xB_ireturn hF dX7_day_46 e
        · refine xB_aload_n hF dX7_day_47 rfl ?_
          refine xB_get hF dX7_day_48 fl_X7_7 sM_0 rfl rfl ?_
          refine xB_iconst hF dX7_day_51 ki_0 ?_
          refine xB_iald hF dX7_day_52 sM_1 e (fun e => ?_)
          refine xB_bipush hF dX7_day_53 kb_10 ?_
          refine xB_icmp_ne (tgt := 61) hF dX7_day_55 rfl e (fun _ e => ?_) (fun _ e => ?_)
          · refine xB_ldc hF dX7_day_58 kc_X7_88 ?_
            exact xB_ireturn hF dX7_day_60 e
          · refine xB_aload_n hF dX7_day_61 rfl ?_
            refine xB_iload_n hF dX7_day_62 rfl ?_
            refine xB_iload_n hF dX7_day_63 rfl ?_
            refine xB_iload_n hF dX7_day_64 rfl ?_
            refine xB_iload hF dX7_day_65 rfl ?_
            obtain ⟨r13, h14, e15, e⟩ := bn_of e
            refine xB_callVv hF dX7_day_67 (t_X7_comes e15) cw_X7_89 sM_0 rfl rfl rfl rfl rfl ?_
            refine xB_aload_n hF dX7_day_70 rfl ?_
            refine xB_get hF dX7_day_71 fl_X7_7 sM_0 rfl rfl ?_
            refine xB_iconst hF dX7_day_74 ki_0 ?_
            refine xB_iald hF dX7_day_75 sM_1 e (fun e => ?_)
            refine xB_iconst hF dX7_day_76 ki_1 ?_
            refine xB_isub hF dX7_day_77 ?_
            exact xB_ireturn hF dX7_day_78 e
def f_X7_counts_c33 (k4 : Int32 → Int32 → xH → Option (Int32 × xH)) (a1 : Int32) (v3 : Int32) (s0 : Int32) (h : xH) : Option (Int32 × xH) :=
    k4 s0 (v3 + 1) h
set_option maxRecDepth 20000 in
set_option maxHeartbeats 2000000 in
theorem t_X7_counts_c33 {l : Launch} {γ : xG} {k4 : Int32 → Int32 → xH → Option (Int32 × xH)} {a1 : Int32} {r : Int32} {hr : xH} {C : xCx} (hF : xF C cX7_counts RX7 4 1 γ xSM (some (.int r)) hr l (some .int)) (hk4 : ∀ (v2 : Int32) (v3 : Int32) (h : xH), k4 v2 v3 h = some (r, hr) → xB C h 4 [some (.ref (γ.2.2.2 0)), some (.int a1), some (.int v2), some (.int v3)] []) : ∀ (v3 : Int32) (s0 : Int32) (h : xH), f_X7_counts_c33 k4 a1 v3 s0 h = some (r, hr) → xB C h 33 [some (.ref (γ.2.2.2 0)), some (.int a1), none, some (.int v3)] [.int s0] := by
  intro v3 s0 h e
  unfold f_X7_counts_c33 at e
  refine xB_istore_n (L' := [_, _, _, _]) hF dX7_counts_33 rfl rfl rfl ?_
  refine xB_iinc (L' := [_, _, _, _]) hF dX7_counts_34 rfl ki_1 rfl rfl rfl ?_
  refine xB_goto (tgt := 4) hF dX7_counts_37 rfl ?_
  exact xB_l (hk4 _ _ _ e) (And.intro rfl (And.intro rfl (And.intro rfl (And.intro rfl (True.intro)))))
def f_X7_counts_c4 (a1 : Int32) : Nat → Int32 → Int32 → xH → Option (Int32 × xH)
  | 0, _, _, _ => none
  | n + 1, v2, v3, h =>
    gd 1 3078 <| if (h 1 (Int32.toNatClampNeg 1)) ≤ v3 then (some (v2, h)) else (bn (f_X7_textAt v3 h) fun r1 h2 => gd r1 3078 <| if (h2 1 (Int32.toNatClampNeg r1)) = a1 then (f_X7_counts_c33 (f_X7_counts_c4 a1 n) a1 v3 v3 h2) else (f_X7_counts_c33 (f_X7_counts_c4 a1 n) a1 v3 v2 h2))
set_option maxRecDepth 20000 in
set_option maxHeartbeats 2000000 in
theorem t_X7_counts_c4 {l : Launch} {γ : xG} {a1 : Int32} {r : Int32} {hr : xH} {C : xCx} (hF : xF C cX7_counts RX7 4 1 γ xSM (some (.int r)) hr l (some .int)) : ∀ (n : Nat) (v2 : Int32) (v3 : Int32) (h : xH), f_X7_counts_c4 a1 n v2 v3 h = some (r, hr) → xB C h 4 [some (.ref (γ.2.2.2 0)), some (.int a1), some (.int v2), some (.int v3)] [] := by
  intro n
  induction n with
  | zero => intro v2 v3 h e; cases e
  | succ n ih =>
    intro v2 v3 h e
    rw [f_X7_counts_c4] at e
    refine xB_iload_n hF dX7_counts_4 rfl ?_
    refine xB_aload_n hF dX7_counts_5 rfl ?_
    refine xB_get hF dX7_counts_6 fl_X7_7 sM_0 rfl rfl ?_
    refine xB_iconst hF dX7_counts_9 ki_1 ?_
    refine xB_iald hF dX7_counts_10 sM_1 e (fun e => ?_)
    refine xB_icmp_ge (tgt := 40) hF dX7_counts_11 rfl e (fun _ e => ?_) (fun _ e => ?_)
    · refine xB_iload_n hF dX7_counts_40 rfl ?_
      exact xB_ireturn hF dX7_counts_41 e
    · refine xB_aload_n hF dX7_counts_14 rfl ?_
      refine xB_get hF dX7_counts_15 fl_X7_7 sM_0 rfl rfl ?_
      refine xB_aload_n hF dX7_counts_18 rfl ?_
      refine xB_iload_n hF dX7_counts_19 rfl ?_
      obtain ⟨r1, h2, e3, e⟩ := bn_of e
      refine xB_callVi hF dX7_counts_20 (t_X7_textAt e3) cw_X7_300 sM_0 rfl rfl rfl rfl rfl ?_
      refine xB_iald hF dX7_counts_23 sM_1 e (fun e => ?_)
      refine xB_iload_n hF dX7_counts_24 rfl ?_
      refine xB_icmp_ne (tgt := 32) hF dX7_counts_25 rfl e (fun _ e => ?_) (fun _ e => ?_)
      · refine xB_iload_n hF dX7_counts_28 rfl ?_
        refine xB_goto (tgt := 33) hF dX7_counts_29 rfl ?_
        exact xB_l (t_X7_counts_c33 hF ih _ _ _ e) (And.intro rfl (And.intro rfl (And.intro rfl (True.intro))))
      · refine xB_iload_n hF dX7_counts_32 rfl ?_
        exact xB_l (t_X7_counts_c33 hF ih _ _ _ e) (And.intro rfl (And.intro rfl (And.intro rfl (True.intro))))
def f_X7_counts (a1 : Int32) (h : xH) : Option (Int32 × xH) :=
    f_X7_counts_c4 a1 xN (-1) 0 h
set_option maxRecDepth 20000 in
set_option maxHeartbeats 2000000 in
theorem t_X7_counts {l : Launch} {γ : xG} {a1 : Int32} {h : xH} {r : Int32} {hr : xH} (e : f_X7_counts a1 h = some (r, hr)) : xCT l γ xSM yX7_counts cX7_counts 4 (some .int) 1 [.ref (γ.2.2.2 0), .int a1] h (some (.int r)) hr := by
  refine xCT.of (own := RX7) (L := [some (.ref (γ.2.2.2 0)), some (.int a1), none, none]) (by decide) rfl rfl rfl (fun C hF => ?_)
  unfold f_X7_counts at e
  refine xB_iconst hF dX7_counts_0 ki_m1 ?_
  refine xB_istore_n (L' := [_, _, _, _]) hF dX7_counts_1 rfl rfl rfl ?_
  refine xB_iconst hF dX7_counts_2 ki_0 ?_
  refine xB_istore_n (L' := [_, _, _, _]) hF dX7_counts_3 rfl rfl rfl ?_
  exact xB_l (t_X7_counts_c4 hF _ _ _ _ e) (And.intro rfl (And.intro rfl (And.intro rfl (And.intro rfl (True.intro)))))
def f_X7_joined_c197 (a0 : Int32) (a1 : Int32) (a2 : Int32) (h : xH) : Option (Int32 × xH) :=
    if a1 = 0 then (if a2 = 0 then (some (0, h)) else (some (1, h))) else (some (1, h))
set_option maxRecDepth 20000 in
set_option maxHeartbeats 2000000 in
theorem t_X7_joined_c197 {l : Launch} {γ : xG} {a0 : Int32} {a1 : Int32} {a2 : Int32} {r : Int32} {hr : xH} {C : xCx} (hF : xF C cX7_joined RX7 3 0 γ xSM (some (.int r)) hr l (some .int)) : ∀ (h : xH), f_X7_joined_c197 a0 a1 a2 h = some (r, hr) → xB C h 197 [some (.int a0), some (.int a1), some (.int a2)] [] := by
  intro h e
  unfold f_X7_joined_c197 at e
  refine xB_iload_n hF dX7_joined_197 rfl ?_
  refine xB_if_ne (tgt := 205) hF dX7_joined_198 rfl e (fun _ e => ?_) (fun _ e => ?_)
  · refine xB_iload_n hF dX7_joined_201 rfl ?_
    refine xB_if_eq (tgt := 209) hF dX7_joined_202 rfl e (fun _ e => ?_) (fun _ e => ?_)
    · refine xB_iconst hF dX7_joined_209 ki_0 ?_
      exact xB_ireturn hF dX7_joined_210 e
    · refine xB_iconst hF dX7_joined_205 ki_1 ?_
      refine xB_goto (tgt := 210) hF dX7_joined_206 rfl ?_
      exact xB_ireturn hF dX7_joined_210 e
  · refine xB_iconst hF dX7_joined_205 ki_1 ?_
    refine xB_goto (tgt := 210) hF dX7_joined_206 rfl ?_
    exact xB_ireturn hF dX7_joined_210 e
def f_X7_joined (a0 : Int32) (a1 : Int32) (a2 : Int32) (h : xH) : Option (Int32 × xH) :=
    if a0 = 38 then (if a1 = 0 then (some (0, h)) else (if a2 = 0 then (some (0, h)) else (some (1, h)))) else (if a0 = 42 then (some (a1 * a2, h)) else (if a0 = 43 then (some (a1 + a2, h)) else (if a0 = 45 then (some (a1 - a2, h)) else (if a0 = 47 then (if a2 = 0 then (some (0, h)) else (if a2 = (-1) then (some (-a1, h)) else (gz a2 <| some (a1 / a2, h)))) else (if a0 = 60 then (if a2 ≤ a1 then (some (0, h)) else (some (1, h))) else (if a0 = 61 then (if a1 = a2 then (some (1, h)) else (some (0, h))) else (if a0 = 62 then (if a1 ≤ a2 then (some (0, h)) else (some (1, h))) else (f_X7_joined_c197 a0 a1 a2 h))))))))
set_option maxRecDepth 20000 in
set_option maxHeartbeats 2000000 in
theorem t_X7_joined {l : Launch} {γ : xG} {a0 : Int32} {a1 : Int32} {a2 : Int32} {h : xH} {r : Int32} {hr : xH} (e : f_X7_joined a0 a1 a2 h = some (r, hr)) : xCT l γ xSM yX7_joined cX7_joined 3 (some .int) 0 [.int a0, .int a1, .int a2] h (some (.int r)) hr := by
  refine xCT.of (own := RX7) (L := [some (.int a0), some (.int a1), some (.int a2)]) (by decide) rfl rfl rfl (fun C hF => ?_)
  unfold f_X7_joined at e
  refine xB_iload_n hF dX7_joined_0 rfl ?_
  rcases if_of e with ⟨c0, e⟩ | ⟨c0, e⟩
  · refine xB_tableIn (v := (38)) (tgt := 183) hF dX7_joined_1 c0 (by decide) (by decide) rfl rfl ?_
    refine xB_iload_n hF dX7_joined_183 rfl ?_
    refine xB_if_eq (tgt := 195) hF dX7_joined_184 rfl e (fun _ e => ?_) (fun _ e => ?_)
    · refine xB_iconst hF dX7_joined_195 ki_0 ?_
      exact xB_ireturn hF dX7_joined_196 e
    · refine xB_iload_n hF dX7_joined_187 rfl ?_
      refine xB_if_eq (tgt := 195) hF dX7_joined_188 rfl e (fun _ e => ?_) (fun _ e => ?_)
      · refine xB_iconst hF dX7_joined_195 ki_0 ?_
        exact xB_ireturn hF dX7_joined_196 e
      · refine xB_iconst hF dX7_joined_191 ki_1 ?_
        refine xB_goto (tgt := 196) hF dX7_joined_192 rfl ?_
        exact xB_ireturn hF dX7_joined_196 e
  rcases if_of e with ⟨c1, e⟩ | ⟨c1, e⟩
  · refine xB_tableIn (v := (42)) (tgt := 124) hF dX7_joined_1 c1 (by decide) (by decide) rfl rfl ?_
    refine xB_iload_n hF dX7_joined_124 rfl ?_
    refine xB_iload_n hF dX7_joined_125 rfl ?_
    refine xB_imul hF dX7_joined_126 ?_
    exact xB_ireturn hF dX7_joined_127 e
  rcases if_of e with ⟨c2, e⟩ | ⟨c2, e⟩
  · refine xB_tableIn (v := (43)) (tgt := 116) hF dX7_joined_1 c2 (by decide) (by decide) rfl rfl ?_
    refine xB_iload_n hF dX7_joined_116 rfl ?_
    refine xB_iload_n hF dX7_joined_117 rfl ?_
    refine xB_iadd hF dX7_joined_118 ?_
    exact xB_ireturn hF dX7_joined_119 e
  rcases if_of e with ⟨c3, e⟩ | ⟨c3, e⟩
  · refine xB_tableIn (v := (45)) (tgt := 120) hF dX7_joined_1 c3 (by decide) (by decide) rfl rfl ?_
    refine xB_iload_n hF dX7_joined_120 rfl ?_
    refine xB_iload_n hF dX7_joined_121 rfl ?_
    refine xB_isub hF dX7_joined_122 ?_
    exact xB_ireturn hF dX7_joined_123 e
  rcases if_of e with ⟨c4, e⟩ | ⟨c4, e⟩
  · refine xB_tableIn (v := (47)) (tgt := 128) hF dX7_joined_1 c4 (by decide) (by decide) rfl rfl ?_
    refine xB_iload_n hF dX7_joined_128 rfl ?_
    refine xB_if_ne (tgt := 136) hF dX7_joined_129 rfl e (fun _ e => ?_) (fun _ e => ?_)
    · refine xB_iconst hF dX7_joined_132 ki_0 ?_
      refine xB_goto (tgt := 149) hF dX7_joined_133 rfl ?_
      exact xB_ireturn hF dX7_joined_149 e
    · refine xB_iload_n hF dX7_joined_136 rfl ?_
      refine xB_iconst hF dX7_joined_137 ki_m1 ?_
      refine xB_icmp_ne (tgt := 146) hF dX7_joined_138 rfl e (fun _ e => ?_) (fun _ e => ?_)
      · refine xB_iload_n hF dX7_joined_141 rfl ?_
        refine xB_ineg hF dX7_joined_142 ?_
        refine xB_goto (tgt := 149) hF dX7_joined_143 rfl ?_
        exact xB_ireturn hF dX7_joined_149 e
      · refine xB_iload_n hF dX7_joined_146 rfl ?_
        refine xB_iload_n hF dX7_joined_147 rfl ?_
        refine xB_idiv hF dX7_joined_148 e (fun e => ?_)
        exact xB_ireturn hF dX7_joined_149 e
  rcases if_of e with ⟨c5, e⟩ | ⟨c5, e⟩
  · refine xB_tableIn (v := (60)) (tgt := 150) hF dX7_joined_1 c5 (by decide) (by decide) rfl rfl ?_
    refine xB_iload_n hF dX7_joined_150 rfl ?_
    refine xB_iload_n hF dX7_joined_151 rfl ?_
    refine xB_icmp_ge (tgt := 159) hF dX7_joined_152 rfl e (fun _ e => ?_) (fun _ e => ?_)
    · refine xB_iconst hF dX7_joined_159 ki_0 ?_
      exact xB_ireturn hF dX7_joined_160 e
    · refine xB_iconst hF dX7_joined_155 ki_1 ?_
      refine xB_goto (tgt := 160) hF dX7_joined_156 rfl ?_
      exact xB_ireturn hF dX7_joined_160 e
  rcases if_of e with ⟨c6, e⟩ | ⟨c6, e⟩
  · refine xB_tableIn (v := (61)) (tgt := 172) hF dX7_joined_1 c6 (by decide) (by decide) rfl rfl ?_
    refine xB_iload_n hF dX7_joined_172 rfl ?_
    refine xB_iload_n hF dX7_joined_173 rfl ?_
    refine xB_icmp_ne (tgt := 181) hF dX7_joined_174 rfl e (fun _ e => ?_) (fun _ e => ?_)
    · refine xB_iconst hF dX7_joined_177 ki_1 ?_
      refine xB_goto (tgt := 182) hF dX7_joined_178 rfl ?_
      exact xB_ireturn hF dX7_joined_182 e
    · refine xB_iconst hF dX7_joined_181 ki_0 ?_
      exact xB_ireturn hF dX7_joined_182 e
  rcases if_of e with ⟨c7, e⟩ | ⟨c7, e⟩
  · refine xB_tableIn (v := (62)) (tgt := 161) hF dX7_joined_1 c7 (by decide) (by decide) rfl rfl ?_
    refine xB_iload_n hF dX7_joined_161 rfl ?_
    refine xB_iload_n hF dX7_joined_162 rfl ?_
    refine xB_icmp_le (tgt := 170) hF dX7_joined_163 rfl e (fun _ e => ?_) (fun _ e => ?_)
    · refine xB_iconst hF dX7_joined_170 ki_0 ?_
      exact xB_ireturn hF dX7_joined_171 e
    · refine xB_iconst hF dX7_joined_166 ki_1 ?_
      refine xB_goto (tgt := 171) hF dX7_joined_167 rfl ?_
      exact xB_ireturn hF dX7_joined_171 e
  refine xB_tableD (tgt := 197) hF dX7_joined_1 [0, 4, 5, 7, 9, 22, 23, 24] (by decide +kernel) (by decide) (by have := xne (v := (38)) (n := 38) rfl c0; have := xne (v := (42)) (n := 42) rfl c1; have := xne (v := (43)) (n := 43) rfl c2; have := xne (v := (45)) (n := 45) rfl c3; have := xne (v := (47)) (n := 47) rfl c4; have := xne (v := (60)) (n := 60) rfl c5; have := xne (v := (61)) (n := 61) rfl c6; have := xne (v := (62)) (n := 62) rfl c7; simp only [List.forall_mem_cons, List.not_mem_nil, false_implies, implies_true, and_true]; omega) rfl ?_
  exact xB_l (t_X7_joined_c197 hF _ e) (And.intro rfl (And.intro rfl (And.intro rfl (True.intro))))
def f_X7_worked_c157 (k4 : Int32 → Int32 → xH → Option (Int32 × xH)) (a1 : Int32) (v2 : Int32) (v3 : Int32) (h : xH) : Option (Int32 × xH) :=
    k4 v2 (v3 + 1) h
set_option maxRecDepth 20000 in
set_option maxHeartbeats 2000000 in
theorem t_X7_worked_c157 {l : Launch} {γ : xG} {k4 : Int32 → Int32 → xH → Option (Int32 × xH)} {a1 : Int32} {r : Int32} {hr : xH} {C : xCx} (hF : xF C cX7_worked RX7 6 1 γ xSM (some (.int r)) hr l (some .int)) (hk4 : ∀ (v2 : Int32) (v3 : Int32) (h : xH), k4 v2 v3 h = some (r, hr) → xB C h 4 [some (.ref (γ.2.2.2 0)), some (.int a1), some (.int v2), some (.int v3), none, none] []) : ∀ (v2 : Int32) (v3 : Int32) (h : xH), f_X7_worked_c157 k4 a1 v2 v3 h = some (r, hr) → xB C h 157 [some (.ref (γ.2.2.2 0)), some (.int a1), some (.int v2), some (.int v3), none, none] [] := by
  intro v2 v3 h e
  unfold f_X7_worked_c157 at e
  refine xB_iinc (L' := [_, _, _, _, _, _]) hF dX7_worked_157 rfl ki_1 rfl rfl rfl ?_
  refine xB_goto (tgt := 4) hF dX7_worked_160 rfl ?_
  exact xB_l (hk4 _ _ _ e) (And.intro rfl (And.intro rfl (And.intro rfl (And.intro rfl (True.intro)))))
def f_X7_worked_c123 (k4 : Int32 → Int32 → xH → Option (Int32 × xH)) (a1 : Int32) (v2 : Int32) (v3 : Int32) (s0 : Int32) (s1 : Int32) (h : xH) : Option (Int32 × xH) :=
    gd s1 100 <| nm (xst h 16 (Int32.toNatClampNeg s1) s0) fun h1 => f_X7_worked_c157 k4 a1 v2 v3 h1
set_option maxRecDepth 20000 in
set_option maxHeartbeats 2000000 in
theorem t_X7_worked_c123 {l : Launch} {γ : xG} {k4 : Int32 → Int32 → xH → Option (Int32 × xH)} {a1 : Int32} {r : Int32} {hr : xH} {C : xCx} (hF : xF C cX7_worked RX7 6 1 γ xSM (some (.int r)) hr l (some .int)) (hk4 : ∀ (v2 : Int32) (v3 : Int32) (h : xH), k4 v2 v3 h = some (r, hr) → xB C h 4 [some (.ref (γ.2.2.2 0)), some (.int a1), some (.int v2), some (.int v3), none, none] []) : ∀ (v2 : Int32) (v3 : Int32) (s0 : Int32) (s1 : Int32) (h : xH), f_X7_worked_c123 k4 a1 v2 v3 s0 s1 h = some (r, hr) → xB C h 123 [some (.ref (γ.2.2.2 0)), some (.int a1), some (.int v2), some (.int v3), none, none] [.int s0, .int s1, .ref (γ.2.2.2 16)] := by
  intro v2 v3 s0 s1 h e
  unfold f_X7_worked_c123 at e
  refine xB_iast hF dX7_worked_123 sM_16 e (fun e => ?_)
  refine xB_gen e (fun h1 e => ?_)
  refine xB_goto (tgt := 157) hF dX7_worked_124 rfl ?_
  exact xB_l (t_X7_worked_c157 hF hk4 _ _ _ e) (And.intro rfl (And.intro rfl (And.intro rfl (And.intro rfl (True.intro)))))
def f_X7_worked_c86 (k4 : Int32 → Int32 → xH → Option (Int32 × xH)) (a1 : Int32) (v2 : Int32) (v3 : Int32) (s0 : Int32) (s1 : Int32) (h : xH) : Option (Int32 × xH) :=
    gd s1 100 <| nm (xst h 16 (Int32.toNatClampNeg s1) s0) fun h1 => f_X7_worked_c157 k4 a1 (v2 + 1) v3 h1
set_option maxRecDepth 20000 in
set_option maxHeartbeats 2000000 in
theorem t_X7_worked_c86 {l : Launch} {γ : xG} {k4 : Int32 → Int32 → xH → Option (Int32 × xH)} {a1 : Int32} {r : Int32} {hr : xH} {C : xCx} (hF : xF C cX7_worked RX7 6 1 γ xSM (some (.int r)) hr l (some .int)) (hk4 : ∀ (v2 : Int32) (v3 : Int32) (h : xH), k4 v2 v3 h = some (r, hr) → xB C h 4 [some (.ref (γ.2.2.2 0)), some (.int a1), some (.int v2), some (.int v3), none, none] []) : ∀ (v2 : Int32) (v3 : Int32) (s0 : Int32) (s1 : Int32) (h : xH), f_X7_worked_c86 k4 a1 v2 v3 s0 s1 h = some (r, hr) → xB C h 86 [some (.ref (γ.2.2.2 0)), some (.int a1), some (.int v2), some (.int v3), none, none] [.int s0, .int s1, .ref (γ.2.2.2 16)] := by
  intro v2 v3 s0 s1 h e
  unfold f_X7_worked_c86 at e
  refine xB_iast hF dX7_worked_86 sM_16 e (fun e => ?_)
  refine xB_gen e (fun h1 e => ?_)
  refine xB_iinc (L' := [_, _, _, _, _, _]) hF dX7_worked_87 rfl ki_1 rfl rfl rfl ?_
  refine xB_goto (tgt := 157) hF dX7_worked_90 rfl ?_
  exact xB_l (t_X7_worked_c157 hF hk4 _ _ _ e) (And.intro rfl (And.intro rfl (And.intro rfl (And.intro rfl (True.intro)))))
def f_X7_worked_c4 (a1 : Int32) : Nat → Int32 → Int32 → xH → Option (Int32 × xH)
  | 0, _, _, _ => none
  | n + 1, v2, v3, h =>
    bn (f_X7_textAt a1 h) fun r1 h2 => gd (r1 + 2) 3078 <| if (h2 1 (Int32.toNatClampNeg (r1 + 2))) ≤ v3 then (gd 0 100 <| some (h2 16 (Int32.toNatClampNeg 0), h2)) else (bn (f_X7_textAt a1 h2) fun r4 h5 => gd ((r4 + 4) + (2 * v3)) 3078 <| nm (h5 1 (Int32.toNatClampNeg ((r4 + 4) + (2 * v3)))) fun x7 => bn (f_X7_textAt a1 h5) fun r8 h9 => gd (((r8 + 4) + (2 * v3)) + 1) 3078 <| nm (h9 1 (Int32.toNatClampNeg (((r8 + 4) + (2 * v3)) + 1))) fun x11 => if x7 = 2 then (if x11 = 33 then (gd (v2 - 1) 100 <| if (h9 16 (Int32.toNatClampNeg (v2 - 1))) = 0 then (f_X7_worked_c123 (f_X7_worked_c4 a1 n) a1 v2 v3 1 (v2 - 1) h9) else (f_X7_worked_c123 (f_X7_worked_c4 a1 n) a1 v2 v3 0 (v2 - 1) h9)) else (gd ((v2 + (-1)) - 1) 100 <| gd (v2 + (-1)) 100 <| bn (f_X7_joined x11 (h9 16 (Int32.toNatClampNeg ((v2 + (-1)) - 1))) (h9 16 (Int32.toNatClampNeg (v2 + (-1)))) h9) fun r12 h13 => gd ((v2 + (-1)) - 1) 100 <| nm (xst h13 16 (Int32.toNatClampNeg ((v2 + (-1)) - 1)) r12) fun h15 => f_X7_worked_c157 (f_X7_worked_c4 a1 n) a1 (v2 + (-1)) v3 h15)) else (if x7 = 0 then (f_X7_worked_c86 (f_X7_worked_c4 a1 n) a1 v2 v3 x11 v2 h9) else (gd x11 128 <| f_X7_worked_c86 (f_X7_worked_c4 a1 n) a1 v2 v3 (h9 15 (Int32.toNatClampNeg x11)) v2 h9)))
set_option maxRecDepth 20000 in
set_option maxHeartbeats 2000000 in
theorem t_X7_worked_c4 {l : Launch} {γ : xG} {a1 : Int32} {r : Int32} {hr : xH} {C : xCx} (hF : xF C cX7_worked RX7 6 1 γ xSM (some (.int r)) hr l (some .int)) : ∀ (n : Nat) (v2 : Int32) (v3 : Int32) (h : xH), f_X7_worked_c4 a1 n v2 v3 h = some (r, hr) → xB C h 4 [some (.ref (γ.2.2.2 0)), some (.int a1), some (.int v2), some (.int v3), none, none] [] := by
  intro n
  induction n with
  | zero => intro v2 v3 h e; cases e
  | succ n ih =>
    intro v2 v3 h e
    rw [f_X7_worked_c4] at e
    refine xB_iload_n hF dX7_worked_4 rfl ?_
    refine xB_aload_n hF dX7_worked_5 rfl ?_
    refine xB_get hF dX7_worked_6 fl_X7_7 sM_0 rfl rfl ?_
    refine xB_aload_n hF dX7_worked_9 rfl ?_
    refine xB_iload_n hF dX7_worked_10 rfl ?_
    obtain ⟨r1, h2, e3, e⟩ := bn_of e
    refine xB_callVi hF dX7_worked_11 (t_X7_textAt e3) cw_X7_300 sM_0 rfl rfl rfl rfl rfl ?_
    refine xB_iconst hF dX7_worked_14 ki_2 ?_
    refine xB_iadd hF dX7_worked_15 ?_
    refine xB_iald hF dX7_worked_16 sM_1 e (fun e => ?_)
    refine xB_icmp_ge (tgt := 163) hF dX7_worked_17 rfl e (fun _ e => ?_) (fun _ e => ?_)
    · refine xB_aload_n hF dX7_worked_163 rfl ?_
      refine xB_get hF dX7_worked_164 fl_X7_55 sM_0 rfl rfl ?_
      refine xB_iconst hF dX7_worked_167 ki_0 ?_
      refine xB_iald hF dX7_worked_168 sM_16 e (fun e => ?_)
      exact xB_ireturn hF dX7_worked_169 e
    · refine xB_aload_n hF dX7_worked_20 rfl ?_
      refine xB_get hF dX7_worked_21 fl_X7_7 sM_0 rfl rfl ?_
      refine xB_aload_n hF dX7_worked_24 rfl ?_
      refine xB_iload_n hF dX7_worked_25 rfl ?_
      obtain ⟨r4, h5, e6, e⟩ := bn_of e
      refine xB_callVi hF dX7_worked_26 (t_X7_textAt e6) cw_X7_300 sM_0 rfl rfl rfl rfl rfl ?_
      refine xB_iconst hF dX7_worked_29 ki_4 ?_
      refine xB_iadd hF dX7_worked_30 ?_
      refine xB_iconst hF dX7_worked_31 ki_2 ?_
      refine xB_iload_n hF dX7_worked_32 rfl ?_
      refine xB_imul hF dX7_worked_33 ?_
      refine xB_iadd hF dX7_worked_34 ?_
      refine xB_iald hF dX7_worked_35 sM_1 e (fun e => ?_)
      refine xB_istore (L' := [_, _, _, _, _, _]) hF dX7_worked_36 rfl rfl rfl ?_
      replace e := nm_of e
      refine xB_aload_n hF dX7_worked_38 rfl ?_
      refine xB_get hF dX7_worked_39 fl_X7_7 sM_0 rfl rfl ?_
      refine xB_aload_n hF dX7_worked_42 rfl ?_
      refine xB_iload_n hF dX7_worked_43 rfl ?_
      obtain ⟨r8, h9, e10, e⟩ := bn_of e
      refine xB_callVi hF dX7_worked_44 (t_X7_textAt e10) cw_X7_300 sM_0 rfl rfl rfl rfl rfl ?_
      refine xB_iconst hF dX7_worked_47 ki_4 ?_
      refine xB_iadd hF dX7_worked_48 ?_
      refine xB_iconst hF dX7_worked_49 ki_2 ?_
      refine xB_iload_n hF dX7_worked_50 rfl ?_
      refine xB_imul hF dX7_worked_51 ?_
      refine xB_iadd hF dX7_worked_52 ?_
      refine xB_iconst hF dX7_worked_53 ki_1 ?_
      refine xB_iadd hF dX7_worked_54 ?_
      refine xB_iald hF dX7_worked_55 sM_1 e (fun e => ?_)
      refine xB_istore (L' := [_, _, _, _, _, _]) hF dX7_worked_56 rfl rfl rfl ?_
      replace e := nm_of e
      refine xB_iload hF dX7_worked_58 rfl ?_
      refine xB_iconst hF dX7_worked_60 ki_2 ?_
      refine xB_icmp_eq (tgt := 93) hF dX7_worked_61 rfl e (fun _ e => ?_) (fun _ e => ?_)
      · refine xB_iload hF dX7_worked_93 rfl ?_
        refine xB_bipush hF dX7_worked_95 kb_33 ?_
        refine xB_icmp_ne (tgt := 127) hF dX7_worked_97 rfl e (fun _ e => ?_) (fun _ e => ?_)
        · refine xB_aload_n hF dX7_worked_100 rfl ?_
          refine xB_get hF dX7_worked_101 fl_X7_55 sM_0 rfl rfl ?_
          refine xB_iload_n hF dX7_worked_104 rfl ?_
          refine xB_iconst hF dX7_worked_105 ki_1 ?_
          refine xB_isub hF dX7_worked_106 ?_
          refine xB_aload_n hF dX7_worked_107 rfl ?_
          refine xB_get hF dX7_worked_108 fl_X7_55 sM_0 rfl rfl ?_
          refine xB_iload_n hF dX7_worked_111 rfl ?_
          refine xB_iconst hF dX7_worked_112 ki_1 ?_
          refine xB_isub hF dX7_worked_113 ?_
          refine xB_iald hF dX7_worked_114 sM_16 e (fun e => ?_)
          refine xB_if_ne (tgt := 122) hF dX7_worked_115 rfl e (fun _ e => ?_) (fun _ e => ?_)
          · refine xB_iconst hF dX7_worked_118 ki_1 ?_
            refine xB_goto (tgt := 123) hF dX7_worked_119 rfl ?_
            exact xB_l (t_X7_worked_c123 hF ih _ _ _ _ _ e) (And.intro rfl (And.intro rfl (And.intro rfl (And.intro rfl (True.intro)))))
          · refine xB_iconst hF dX7_worked_122 ki_0 ?_
            exact xB_l (t_X7_worked_c123 hF ih _ _ _ _ _ e) (And.intro rfl (And.intro rfl (And.intro rfl (And.intro rfl (True.intro)))))
        · refine xB_iinc (L' := [_, _, _, _, _, _]) hF dX7_worked_127 rfl ki_m1 rfl rfl rfl ?_
          refine xB_aload_n hF dX7_worked_130 rfl ?_
          refine xB_get hF dX7_worked_131 fl_X7_55 sM_0 rfl rfl ?_
          refine xB_iload_n hF dX7_worked_134 rfl ?_
          refine xB_iconst hF dX7_worked_135 ki_1 ?_
          refine xB_isub hF dX7_worked_136 ?_
          refine xB_iload hF dX7_worked_137 rfl ?_
          refine xB_aload_n hF dX7_worked_139 rfl ?_
          refine xB_get hF dX7_worked_140 fl_X7_55 sM_0 rfl rfl ?_
          refine xB_iload_n hF dX7_worked_143 rfl ?_
          refine xB_iconst hF dX7_worked_144 ki_1 ?_
          refine xB_isub hF dX7_worked_145 ?_
          refine xB_iald hF dX7_worked_146 sM_16 e (fun e => ?_)
          refine xB_aload_n hF dX7_worked_147 rfl ?_
          refine xB_get hF dX7_worked_148 fl_X7_55 sM_0 rfl rfl ?_
          refine xB_iload_n hF dX7_worked_151 rfl ?_
          refine xB_iald hF dX7_worked_152 sM_16 e (fun e => ?_)
          obtain ⟨r12, h13, e14, e⟩ := bn_of e
          refine xB_callSi hF dX7_worked_153 (t_X7_joined e14) cw_X7_312 rfl rfl rfl rfl ?_
          refine xB_iast hF dX7_worked_156 sM_16 e (fun e => ?_)
          refine xB_gen e (fun h15 e => ?_)
          exact xB_l (t_X7_worked_c157 hF ih _ _ _ e) (And.intro rfl (And.intro rfl (And.intro rfl (And.intro rfl (True.intro)))))
      · refine xB_aload_n hF dX7_worked_64 rfl ?_
        refine xB_get hF dX7_worked_65 fl_X7_55 sM_0 rfl rfl ?_
        refine xB_iload_n hF dX7_worked_68 rfl ?_
        refine xB_iload hF dX7_worked_69 rfl ?_
        refine xB_if_ne (tgt := 79) hF dX7_worked_71 rfl e (fun _ e => ?_) (fun _ e => ?_)
        · refine xB_iload hF dX7_worked_74 rfl ?_
          refine xB_goto (tgt := 86) hF dX7_worked_76 rfl ?_
          exact xB_l (t_X7_worked_c86 hF ih _ _ _ _ _ e) (And.intro rfl (And.intro rfl (And.intro rfl (And.intro rfl (True.intro)))))
        · refine xB_aload_n hF dX7_worked_79 rfl ?_
          refine xB_get hF dX7_worked_80 fl_X7_52 sM_0 rfl rfl ?_
          refine xB_iload hF dX7_worked_83 rfl ?_
          refine xB_iald hF dX7_worked_85 sM_15 e (fun e => ?_)
          exact xB_l (t_X7_worked_c86 hF ih _ _ _ _ _ e) (And.intro rfl (And.intro rfl (And.intro rfl (And.intro rfl (True.intro)))))
def f_X7_worked (a1 : Int32) (h : xH) : Option (Int32 × xH) :=
    f_X7_worked_c4 a1 xN 0 0 h
set_option maxRecDepth 20000 in
set_option maxHeartbeats 2000000 in
theorem t_X7_worked {l : Launch} {γ : xG} {a1 : Int32} {h : xH} {r : Int32} {hr : xH} (e : f_X7_worked a1 h = some (r, hr)) : xCT l γ xSM yX7_worked cX7_worked 6 (some .int) 1 [.ref (γ.2.2.2 0), .int a1] h (some (.int r)) hr := by
  refine xCT.of (own := RX7) (L := [some (.ref (γ.2.2.2 0)), some (.int a1), none, none, none, none]) (by decide) rfl rfl rfl (fun C hF => ?_)
  unfold f_X7_worked at e
  refine xB_iconst hF dX7_worked_0 ki_0 ?_
  refine xB_istore_n (L' := [_, _, _, _, _, _]) hF dX7_worked_1 rfl rfl rfl ?_
  refine xB_iconst hF dX7_worked_2 ki_0 ?_
  refine xB_istore_n (L' := [_, _, _, _, _, _]) hF dX7_worked_3 rfl rfl rfl ?_
  exact xB_l (t_X7_worked_c4 hF _ _ _ _ e) (And.intro rfl (And.intro rfl (And.intro rfl (And.intro rfl (True.intro)))))
def f_X7_priceBy (a1 : Int32) (a2 : Int32) (h : xH) : Option (Int32 × xH) :=
    bn (f_X7_counts 0 h) fun r1 h2 => if 0 ≤ r1 then (gd 116 128 <| nm (xst h2 15 (Int32.toNatClampNeg 116) a2) fun h4 => bn (f_X7_of a1 3 h4) fun r5 h6 => gd 119 128 <| nm (xst h6 15 (Int32.toNatClampNeg 119) r5) fun h8 => bn (f_X7_of a1 1 h8) fun r9 h10 => gd 100 128 <| nm (xst h10 15 (Int32.toNatClampNeg 100) r9) fun h12 => bn (f_X7_worked r1 h12) fun r13 h14 => bn (f_X7_within r13 999 h14) fun r16 h17 => some (r16, h17)) else (bn (f_X7_of a1 3 h2) fun r19 h20 => bn (f_X7_within ((10 * a2) - r19) 999 h20) fun r22 h23 => some (r22, h23))
set_option maxRecDepth 20000 in
set_option maxHeartbeats 2000000 in
theorem t_X7_priceBy {l : Launch} {γ : xG} {a1 : Int32} {a2 : Int32} {h : xH} {r : Int32} {hr : xH} (e : f_X7_priceBy a1 a2 h = some (r, hr)) : xCT l γ xSM yX7_priceBy cX7_priceBy 4 (some .int) 2 [.ref (γ.2.2.2 0), .int a1, .int a2] h (some (.int r)) hr := by
  refine xCT.of (own := RX7) (L := [some (.ref (γ.2.2.2 0)), some (.int a1), some (.int a2), none]) (by decide) rfl rfl rfl (fun C hF => ?_)
  unfold f_X7_priceBy at e
  refine xB_aload_n hF dX7_priceBy_0 rfl ?_
  refine xB_iconst hF dX7_priceBy_1 ki_0 ?_
  obtain ⟨r1, h2, e3, e⟩ := bn_of e
  refine xB_callVi hF dX7_priceBy_2 (t_X7_counts e3) cw_X7_93 sM_0 rfl rfl rfl rfl rfl ?_
  refine xB_istore_n (L' := [_, _, _, _]) hF dX7_priceBy_5 rfl rfl rfl ?_
  refine xB_iload_n hF dX7_priceBy_6 rfl ?_
  refine xB_if_ge (tgt := 28) hF dX7_priceBy_7 rfl e (fun _ e => ?_) (fun _ e => ?_)
  · refine xB_aload_n hF dX7_priceBy_28 rfl ?_
    refine xB_get hF dX7_priceBy_29 fl_X7_52 sM_0 rfl rfl ?_
    refine xB_bipush hF dX7_priceBy_32 kb_116 ?_
    refine xB_iload_n hF dX7_priceBy_34 rfl ?_
    refine xB_iast hF dX7_priceBy_35 sM_15 e (fun e => ?_)
    refine xB_gen e (fun h4 e => ?_)
    refine xB_aload_n hF dX7_priceBy_36 rfl ?_
    refine xB_get hF dX7_priceBy_37 fl_X7_52 sM_0 rfl rfl ?_
    refine xB_bipush hF dX7_priceBy_40 kb_119 ?_
    refine xB_aload_n hF dX7_priceBy_42 rfl ?_
    refine xB_iload_n hF dX7_priceBy_43 rfl ?_
    refine xB_iconst hF dX7_priceBy_44 ki_3 ?_
    obtain ⟨r5, h6, e7, e⟩ := bn_of e
    refine xB_callVi hF dX7_priceBy_45 (t_X7_of e7) cw_X7_97 sM_0 rfl rfl rfl rfl rfl ?_
    refine xB_iast hF dX7_priceBy_48 sM_15 e (fun e => ?_)
    refine xB_gen e (fun h8 e => ?_)
    refine xB_aload_n hF dX7_priceBy_49 rfl ?_
    refine xB_get hF dX7_priceBy_50 fl_X7_52 sM_0 rfl rfl ?_
    refine xB_bipush hF dX7_priceBy_53 kb_100 ?_
    refine xB_aload_n hF dX7_priceBy_55 rfl ?_
    refine xB_iload_n hF dX7_priceBy_56 rfl ?_
    refine xB_iconst hF dX7_priceBy_57 ki_1 ?_
    obtain ⟨r9, h10, e11, e⟩ := bn_of e
    refine xB_callVi hF dX7_priceBy_58 (t_X7_of e11) cw_X7_97 sM_0 rfl rfl rfl rfl rfl ?_
    refine xB_iast hF dX7_priceBy_61 sM_15 e (fun e => ?_)
    refine xB_gen e (fun h12 e => ?_)
    refine xB_aload_n hF dX7_priceBy_62 rfl ?_
    refine xB_iload_n hF dX7_priceBy_63 rfl ?_
    obtain ⟨r13, h14, e15, e⟩ := bn_of e
    refine xB_callVi hF dX7_priceBy_64 (t_X7_worked e15) cw_X7_104 sM_0 rfl rfl rfl rfl rfl ?_
    refine xB_sipush hF dX7_priceBy_67 ks_999 ?_
    obtain ⟨r16, h17, e18, e⟩ := bn_of e
    refine xB_callSi hF dX7_priceBy_70 (t_X7_within e18) cw_X7_101 rfl rfl rfl rfl ?_
    exact xB_ireturn hF dX7_priceBy_73 e
  · refine xB_bipush hF dX7_priceBy_10 kb_10 ?_
    refine xB_iload_n hF dX7_priceBy_12 rfl ?_
    refine xB_imul hF dX7_priceBy_13 ?_
    refine xB_aload_n hF dX7_priceBy_14 rfl ?_
    refine xB_iload_n hF dX7_priceBy_15 rfl ?_
    refine xB_iconst hF dX7_priceBy_16 ki_3 ?_
    obtain ⟨r19, h20, e21, e⟩ := bn_of e
    refine xB_callVi hF dX7_priceBy_17 (t_X7_of e21) cw_X7_97 sM_0 rfl rfl rfl rfl rfl ?_
    refine xB_isub hF dX7_priceBy_20 ?_
    refine xB_sipush hF dX7_priceBy_21 ks_999 ?_
    obtain ⟨r22, h23, e24, e⟩ := bn_of e
    refine xB_callSi hF dX7_priceBy_24 (t_X7_within e24) cw_X7_101 rfl rfl rfl rfl ?_
    exact xB_ireturn hF dX7_priceBy_27 e
def f_X7_valueOf (a1 : Int32) (h : xH) : Option (Int32 × xH) :=
    bn (f_X7_of a1 2 h) fun r1 h2 => bn (f_X7_of a1 0 h2) fun r4 h5 => if r4 = 1 then (bn (f_X7_priceBy a1 r1 h5) fun r10 h11 => some (r10 + 20, h11)) else (if r4 = 2 then (bn (f_X7_priceBy a1 (9 - r1) h5) fun r13 h14 => some (r13, h14)) else (if r4 = 3 then (bn (f_X7_priceBy a1 r1 h5) fun r16 h17 => some ((r16 + 20) / 2, h17)) else (if r4 = 4 then (bn (f_X7_priceBy a1 (9 - r1) h5) fun r19 h20 => bn (f_X7_of a1 3 h20) fun r22 h23 => bn (f_X7_within (r19 - r22) 999 h23) fun r25 h26 => some (r25, h26)) else (if r4 = 5 then (some (5, h5)) else (bn (f_X7_priceBy a1 r1 h5) fun r7 h8 => some (r7, h8))))))
set_option maxRecDepth 20000 in
set_option maxHeartbeats 2000000 in
theorem t_X7_valueOf {l : Launch} {γ : xG} {a1 : Int32} {h : xH} {r : Int32} {hr : xH} (e : f_X7_valueOf a1 h = some (r, hr)) : xCT l γ xSM yX7_valueOf cX7_valueOf 3 (some .int) 3 [.ref (γ.2.2.2 0), .int a1] h (some (.int r)) hr := by
  refine xCT.of (own := RX7) (L := [some (.ref (γ.2.2.2 0)), some (.int a1), none]) (by decide) rfl rfl rfl (fun C hF => ?_)
  unfold f_X7_valueOf at e
  refine xB_aload_n hF dX7_valueOf_0 rfl ?_
  refine xB_iload_n hF dX7_valueOf_1 rfl ?_
  refine xB_iconst hF dX7_valueOf_2 ki_2 ?_
  obtain ⟨r1, h2, e3, e⟩ := bn_of e
  refine xB_callVi hF dX7_valueOf_3 (t_X7_of e3) cw_X7_97 sM_0 rfl rfl rfl rfl rfl ?_
  refine xB_istore_n (L' := [_, _, _]) hF dX7_valueOf_6 rfl rfl rfl ?_
  refine xB_aload_n hF dX7_valueOf_7 rfl ?_
  refine xB_iload_n hF dX7_valueOf_8 rfl ?_
  refine xB_iconst hF dX7_valueOf_9 ki_0 ?_
  obtain ⟨r4, h5, e6, e⟩ := bn_of e
  refine xB_callVi hF dX7_valueOf_10 (t_X7_of e6) cw_X7_97 sM_0 rfl rfl rfl rfl rfl ?_
  rcases if_of e with ⟨c0, e⟩ | ⟨c0, e⟩
  · refine xB_tableIn (v := (1)) (tgt := 48) hF dX7_valueOf_13 c0 (by decide) (by decide) rfl rfl ?_
    refine xB_aload_n hF dX7_valueOf_48 rfl ?_
    refine xB_iload_n hF dX7_valueOf_49 rfl ?_
    refine xB_iload_n hF dX7_valueOf_50 rfl ?_
    obtain ⟨r10, h11, e12, e⟩ := bn_of e
    refine xB_callVi hF dX7_valueOf_51 (t_X7_priceBy e12) cw_X7_107 sM_0 rfl rfl rfl rfl rfl ?_
    refine xB_bipush hF dX7_valueOf_54 kb_20 ?_
    refine xB_iadd hF dX7_valueOf_56 ?_
    exact xB_ireturn hF dX7_valueOf_57 e
  rcases if_of e with ⟨c1, e⟩ | ⟨c1, e⟩
  · refine xB_tableIn (v := (2)) (tgt := 58) hF dX7_valueOf_13 c1 (by decide) (by decide) rfl rfl ?_
    refine xB_aload_n hF dX7_valueOf_58 rfl ?_
    refine xB_iload_n hF dX7_valueOf_59 rfl ?_
    refine xB_bipush hF dX7_valueOf_60 kb_9 ?_
    refine xB_iload_n hF dX7_valueOf_62 rfl ?_
    refine xB_isub hF dX7_valueOf_63 ?_
    obtain ⟨r13, h14, e15, e⟩ := bn_of e
    refine xB_callVi hF dX7_valueOf_64 (t_X7_priceBy e15) cw_X7_107 sM_0 rfl rfl rfl rfl rfl ?_
    exact xB_ireturn hF dX7_valueOf_67 e
  rcases if_of e with ⟨c2, e⟩ | ⟨c2, e⟩
  · refine xB_tableIn (v := (3)) (tgt := 68) hF dX7_valueOf_13 c2 (by decide) (by decide) rfl rfl ?_
    refine xB_aload_n hF dX7_valueOf_68 rfl ?_
    refine xB_iload_n hF dX7_valueOf_69 rfl ?_
    refine xB_iload_n hF dX7_valueOf_70 rfl ?_
    obtain ⟨r16, h17, e18, e⟩ := bn_of e
    refine xB_callVi hF dX7_valueOf_71 (t_X7_priceBy e18) cw_X7_107 sM_0 rfl rfl rfl rfl rfl ?_
    refine xB_bipush hF dX7_valueOf_74 kb_20 ?_
    refine xB_iadd hF dX7_valueOf_76 ?_
    refine xB_iconst hF dX7_valueOf_77 ki_2 ?_
    refine xB_idivc hF dX7_valueOf_78 (by decide) ?_
    exact xB_ireturn hF dX7_valueOf_79 e
  rcases if_of e with ⟨c3, e⟩ | ⟨c3, e⟩
  · refine xB_tableIn (v := (4)) (tgt := 80) hF dX7_valueOf_13 c3 (by decide) (by decide) rfl rfl ?_
    refine xB_aload_n hF dX7_valueOf_80 rfl ?_
    refine xB_iload_n hF dX7_valueOf_81 rfl ?_
    refine xB_bipush hF dX7_valueOf_82 kb_9 ?_
    refine xB_iload_n hF dX7_valueOf_84 rfl ?_
    refine xB_isub hF dX7_valueOf_85 ?_
    obtain ⟨r19, h20, e21, e⟩ := bn_of e
    refine xB_callVi hF dX7_valueOf_86 (t_X7_priceBy e21) cw_X7_107 sM_0 rfl rfl rfl rfl rfl ?_
    refine xB_aload_n hF dX7_valueOf_89 rfl ?_
    refine xB_iload_n hF dX7_valueOf_90 rfl ?_
    refine xB_iconst hF dX7_valueOf_91 ki_3 ?_
    obtain ⟨r22, h23, e24, e⟩ := bn_of e
    refine xB_callVi hF dX7_valueOf_92 (t_X7_of e24) cw_X7_97 sM_0 rfl rfl rfl rfl rfl ?_
    refine xB_isub hF dX7_valueOf_95 ?_
    refine xB_sipush hF dX7_valueOf_96 ks_999 ?_
    obtain ⟨r25, h26, e27, e⟩ := bn_of e
    refine xB_callSi hF dX7_valueOf_99 (t_X7_within e27) cw_X7_101 rfl rfl rfl rfl ?_
    exact xB_ireturn hF dX7_valueOf_102 e
  rcases if_of e with ⟨c4, e⟩ | ⟨c4, e⟩
  · refine xB_tableIn (v := (5)) (tgt := 103) hF dX7_valueOf_13 c4 (by decide) (by decide) rfl rfl ?_
    refine xB_iconst hF dX7_valueOf_103 ki_5 ?_
    exact xB_ireturn hF dX7_valueOf_104 e
  refine xB_tableOut (tgt := 105) hF dX7_valueOf_13 (by have := xne (v := (1)) (n := 1) rfl c0; have := xne (v := (2)) (n := 2) rfl c1; have := xne (v := (3)) (n := 3) rfl c2; have := xne (v := (4)) (n := 4) rfl c3; have := xne (v := (5)) (n := 5) rfl c4; omega) rfl ?_
  refine xB_aload_n hF dX7_valueOf_105 rfl ?_
  refine xB_iload_n hF dX7_valueOf_106 rfl ?_
  refine xB_iload_n hF dX7_valueOf_107 rfl ?_
  obtain ⟨r7, h8, e9, e⟩ := bn_of e
  refine xB_callVi hF dX7_valueOf_108 (t_X7_priceBy e9) cw_X7_107 sM_0 rfl rfl rfl rfl rfl ?_
  exact xB_ireturn hF dX7_valueOf_111 e
def f_X7_worth (a1 : Int32) (h : xH) : Option (Int32 × xH) :=
    bn (f_X7_of a1 1 h) fun r1 h2 => bn (f_X7_of a1 0 h2) fun r4 h5 => if r4 = 1 then (some (r1 + 7, h5)) else (if r4 = 2 then (some (99 - r1, h5)) else (if r4 = 3 then (some (2 * (r1 + 7), h5)) else (if r4 = 4 then (some (96 - r1, h5)) else (if r4 = 5 then (some (6, h5)) else (some (r1, h5))))))
set_option maxRecDepth 20000 in
set_option maxHeartbeats 2000000 in
theorem t_X7_worth {l : Launch} {γ : xG} {a1 : Int32} {h : xH} {r : Int32} {hr : xH} (e : f_X7_worth a1 h = some (r, hr)) : xCT l γ xSM yX7_worth cX7_worth 3 (some .int) 1 [.ref (γ.2.2.2 0), .int a1] h (some (.int r)) hr := by
  refine xCT.of (own := RX7) (L := [some (.ref (γ.2.2.2 0)), some (.int a1), none]) (by decide) rfl rfl rfl (fun C hF => ?_)
  unfold f_X7_worth at e
  refine xB_aload_n hF dX7_worth_0 rfl ?_
  refine xB_iload_n hF dX7_worth_1 rfl ?_
  refine xB_iconst hF dX7_worth_2 ki_1 ?_
  obtain ⟨r1, h2, e3, e⟩ := bn_of e
  refine xB_callVi hF dX7_worth_3 (t_X7_of e3) cw_X7_97 sM_0 rfl rfl rfl rfl rfl ?_
  refine xB_istore_n (L' := [_, _, _]) hF dX7_worth_6 rfl rfl rfl ?_
  refine xB_aload_n hF dX7_worth_7 rfl ?_
  refine xB_iload_n hF dX7_worth_8 rfl ?_
  refine xB_iconst hF dX7_worth_9 ki_0 ?_
  obtain ⟨r4, h5, e6, e⟩ := bn_of e
  refine xB_callVi hF dX7_worth_10 (t_X7_of e6) cw_X7_97 sM_0 rfl rfl rfl rfl rfl ?_
  rcases if_of e with ⟨c0, e⟩ | ⟨c0, e⟩
  · refine xB_tableIn (v := (1)) (tgt := 48) hF dX7_worth_13 c0 (by decide) (by decide) rfl rfl ?_
    refine xB_iload_n hF dX7_worth_48 rfl ?_
    refine xB_bipush hF dX7_worth_49 kb_7 ?_
    refine xB_iadd hF dX7_worth_51 ?_
    exact xB_ireturn hF dX7_worth_52 e
  rcases if_of e with ⟨c1, e⟩ | ⟨c1, e⟩
  · refine xB_tableIn (v := (2)) (tgt := 53) hF dX7_worth_13 c1 (by decide) (by decide) rfl rfl ?_
    refine xB_bipush hF dX7_worth_53 kb_99 ?_
    refine xB_iload_n hF dX7_worth_55 rfl ?_
    refine xB_isub hF dX7_worth_56 ?_
    exact xB_ireturn hF dX7_worth_57 e
  rcases if_of e with ⟨c2, e⟩ | ⟨c2, e⟩
  · refine xB_tableIn (v := (3)) (tgt := 58) hF dX7_worth_13 c2 (by decide) (by decide) rfl rfl ?_
    refine xB_iconst hF dX7_worth_58 ki_2 ?_
    refine xB_iload_n hF dX7_worth_59 rfl ?_
    refine xB_bipush hF dX7_worth_60 kb_7 ?_
    refine xB_iadd hF dX7_worth_62 ?_
    refine xB_imul hF dX7_worth_63 ?_
    exact xB_ireturn hF dX7_worth_64 e
  rcases if_of e with ⟨c3, e⟩ | ⟨c3, e⟩
  · refine xB_tableIn (v := (4)) (tgt := 65) hF dX7_worth_13 c3 (by decide) (by decide) rfl rfl ?_
    refine xB_bipush hF dX7_worth_65 kb_96 ?_
    refine xB_iload_n hF dX7_worth_67 rfl ?_
    refine xB_isub hF dX7_worth_68 ?_
    exact xB_ireturn hF dX7_worth_69 e
  rcases if_of e with ⟨c4, e⟩ | ⟨c4, e⟩
  · refine xB_tableIn (v := (5)) (tgt := 70) hF dX7_worth_13 c4 (by decide) (by decide) rfl rfl ?_
    refine xB_bipush hF dX7_worth_70 kb_6 ?_
    exact xB_ireturn hF dX7_worth_72 e
  refine xB_tableOut (tgt := 73) hF dX7_worth_13 (by have := xne (v := (1)) (n := 1) rfl c0; have := xne (v := (2)) (n := 2) rfl c1; have := xne (v := (3)) (n := 3) rfl c2; have := xne (v := (4)) (n := 4) rfl c3; have := xne (v := (5)) (n := 5) rfl c4; omega) rfl ?_
  refine xB_iload_n hF dX7_worth_73 rfl ?_
  exact xB_ireturn hF dX7_worth_74 e
def f_X7_offerOf_c51 (a1 : Int32) (a2 : Int32) (v3 : Int32) (s0 : Int32) (h : xH) : Option (Int32 × xH) :=
    bn (f_X7_within v3 s0 h) fun r1 h2 => some (r1, h2)
set_option maxRecDepth 20000 in
set_option maxHeartbeats 2000000 in
theorem t_X7_offerOf_c51 {l : Launch} {γ : xG} {a1 : Int32} {a2 : Int32} {r : Int32} {hr : xH} {C : xCx} (hF : xF C cX7_offerOf RX7 5 4 γ xSM (some (.int r)) hr l (some .int)) : ∀ (v3 : Int32) (s0 : Int32) (h : xH), f_X7_offerOf_c51 a1 a2 v3 s0 h = some (r, hr) → xB C h 51 [some (.ref (γ.2.2.2 0)), some (.int a1), some (.int a2), some (.int v3), none] [.int s0] := by
  intro v3 s0 h e
  unfold f_X7_offerOf_c51 at e
  refine xB_istore (L' := [_, _, _, _, _]) hF dX7_offerOf_51 rfl rfl rfl ?_
  refine xB_iload_n hF dX7_offerOf_53 rfl ?_
  refine xB_iload hF dX7_offerOf_54 rfl ?_
  obtain ⟨r1, h2, e3, e⟩ := bn_of e
  refine xB_callSi hF dX7_offerOf_56 (t_X7_within e3) cw_X7_101 rfl rfl rfl rfl ?_
  exact xB_ireturn hF dX7_offerOf_59 e
def f_X7_offerOf (a1 : Int32) (a2 : Int32) (h : xH) : Option (Int32 × xH) :=
    bn (f_X7_valueOf a2 h) fun r1 h2 => bn (f_X7_of a2 2 h2) fun r4 h5 => gd (12 + a1) 3078 <| bn (f_X7_off r4 (h5 1 (Int32.toNatClampNeg (12 + a1))) h5) fun r7 h8 => bn (f_X7_of a2 4 h8) fun r10 h11 => if r10 = a1 then (f_X7_offerOf_c51 a1 a2 (r1 - (5 * r7)) 100000 h11) else (gd (6 + a1) 3078 <| f_X7_offerOf_c51 a1 a2 (r1 - (5 * r7)) (h11 1 (Int32.toNatClampNeg (6 + a1))) h11)
set_option maxRecDepth 20000 in
set_option maxHeartbeats 2000000 in
theorem t_X7_offerOf {l : Launch} {γ : xG} {a1 : Int32} {a2 : Int32} {h : xH} {r : Int32} {hr : xH} (e : f_X7_offerOf a1 a2 h = some (r, hr)) : xCT l γ xSM yX7_offerOf cX7_offerOf 5 (some .int) 4 [.ref (γ.2.2.2 0), .int a1, .int a2] h (some (.int r)) hr := by
  refine xCT.of (own := RX7) (L := [some (.ref (γ.2.2.2 0)), some (.int a1), some (.int a2), none, none]) (by decide) rfl rfl rfl (fun C hF => ?_)
  unfold f_X7_offerOf at e
  refine xB_aload_n hF dX7_offerOf_0 rfl ?_
  refine xB_iload_n hF dX7_offerOf_1 rfl ?_
  obtain ⟨r1, h2, e3, e⟩ := bn_of e
  refine xB_callVi hF dX7_offerOf_2 (t_X7_valueOf e3) cw_X7_110 sM_0 rfl rfl rfl rfl rfl ?_
  refine xB_iconst hF dX7_offerOf_5 ki_5 ?_
  refine xB_aload_n hF dX7_offerOf_6 rfl ?_
  refine xB_iload_n hF dX7_offerOf_7 rfl ?_
  refine xB_iconst hF dX7_offerOf_8 ki_2 ?_
  obtain ⟨r4, h5, e6, e⟩ := bn_of e
  refine xB_callVi hF dX7_offerOf_9 (t_X7_of e6) cw_X7_97 sM_0 rfl rfl rfl rfl rfl ?_
  refine xB_aload_n hF dX7_offerOf_12 rfl ?_
  refine xB_get hF dX7_offerOf_13 fl_X7_7 sM_0 rfl rfl ?_
  refine xB_bipush hF dX7_offerOf_16 kb_12 ?_
  refine xB_iload_n hF dX7_offerOf_18 rfl ?_
  refine xB_iadd hF dX7_offerOf_19 ?_
  refine xB_iald hF dX7_offerOf_20 sM_1 e (fun e => ?_)
  obtain ⟨r7, h8, e9, e⟩ := bn_of e
  refine xB_callSi hF dX7_offerOf_21 (t_X7_off e9) cw_X7_113 rfl rfl rfl rfl ?_
  refine xB_imul hF dX7_offerOf_24 ?_
  refine xB_isub hF dX7_offerOf_25 ?_
  refine xB_istore_n (L' := [_, _, _, _, _]) hF dX7_offerOf_26 rfl rfl rfl ?_
  refine xB_aload_n hF dX7_offerOf_27 rfl ?_
  refine xB_iload_n hF dX7_offerOf_28 rfl ?_
  refine xB_iconst hF dX7_offerOf_29 ki_4 ?_
  obtain ⟨r10, h11, e12, e⟩ := bn_of e
  refine xB_callVi hF dX7_offerOf_30 (t_X7_of e12) cw_X7_97 sM_0 rfl rfl rfl rfl rfl ?_
  refine xB_iload_n hF dX7_offerOf_33 rfl ?_
  refine xB_icmp_ne (tgt := 42) hF dX7_offerOf_34 rfl e (fun _ e => ?_) (fun _ e => ?_)
  · refine xB_ldc hF dX7_offerOf_37 kc_X7_116 ?_
    refine xB_goto (tgt := 51) hF dX7_offerOf_39 rfl ?_
    exact xB_l (t_X7_offerOf_c51 hF _ _ _ e) (And.intro rfl (And.intro rfl (And.intro rfl (And.intro rfl (True.intro)))))
  · refine xB_aload_n hF dX7_offerOf_42 rfl ?_
    refine xB_get hF dX7_offerOf_43 fl_X7_7 sM_0 rfl rfl ?_
    refine xB_bipush hF dX7_offerOf_46 kb_6 ?_
    refine xB_iload_n hF dX7_offerOf_48 rfl ?_
    refine xB_iadd hF dX7_offerOf_49 ?_
    refine xB_iald hF dX7_offerOf_50 sM_1 e (fun e => ?_)
    exact xB_l (t_X7_offerOf_c51 hF _ _ _ e) (And.intro rfl (And.intro rfl (And.intro rfl (And.intro rfl (True.intro)))))
def f_X7_told (a1 : Int32) (a2 : Int32) (h : xH) : Option (Int32 × xH) :=
    bn (f_X7_isDay a1 h) fun r1 h2 => if r1 = 0 then (some ((-1000000001), h2)) else (bn (f_X7_isIn (Int32.toInt64 a2) 0 7 h2) fun r4 h5 => if r4 = 0 then (some ((-1000000001), h5)) else (if 6 ≤ a2 then (if a2 = 6 then (bn (f_X7_valueOf a1 h5) fun r10 h11 => some (r10, h11)) else (bn (f_X7_worth a1 h5) fun r7 h8 => some (r7, h8))) else (bn (f_X7_of a1 a2 h5) fun r13 h14 => some (r13, h14))))
set_option maxRecDepth 20000 in
set_option maxHeartbeats 2000000 in
theorem t_X7_told {l : Launch} {γ : xG} {a1 : Int32} {a2 : Int32} {h : xH} {r : Int32} {hr : xH} (e : f_X7_told a1 a2 h = some (r, hr)) : xCT l γ xSM yX7_told cX7_told 3 (some .int) 4 [.ref (γ.2.2.2 0), .int a1, .int a2] h (some (.int r)) hr := by
  refine xCT.of (own := RX7) (L := [some (.ref (γ.2.2.2 0)), some (.int a1), some (.int a2)]) (by decide) rfl rfl rfl (fun C hF => ?_)
  unfold f_X7_told at e
  refine xB_aload_n hF dX7_told_0 rfl ?_
  refine xB_iload_n hF dX7_told_1 rfl ?_
  obtain ⟨r1, h2, e3, e⟩ := bn_of e
  refine xB_callVi hF dX7_told_2 (t_X7_isDay e3) cw_X7_117 sM_0 rfl rfl rfl rfl rfl ?_
  refine xB_if_eq (tgt := 20) hF dX7_told_5 rfl e (fun _ e => ?_) (fun _ e => ?_)
  · refine xB_ldc hF dX7_told_20 kc_X7_87 ?_
    exact xB_ireturn hF dX7_told_22 e
  · refine xB_iload_n hF dX7_told_8 rfl ?_
    refine xB_i2l hF dX7_told_9 ?_
    refine xB_lconst (v := 0) hF dX7_told_10 (by decide) ?_
    refine xB_ldc2 hF dX7_told_11 kc_X7_120 ?_
    obtain ⟨r4, h5, e6, e⟩ := bn_of e
    refine xB_callSi hF dX7_told_14 (t_X7_isIn e6) cw_X7_68 rfl rfl rfl rfl ?_
    refine xB_if_ne (tgt := 23) hF dX7_told_17 rfl e (fun _ e => ?_) (fun _ e => ?_)
    · refine xB_ldc hF dX7_told_20 kc_X7_87 ?_
      exact xB_ireturn hF dX7_told_22 e
    · refine xB_iload_n hF dX7_told_23 rfl ?_
      refine xB_bipush hF dX7_told_24 kb_6 ?_
      refine xB_icmp_ge (tgt := 38) hF dX7_told_26 rfl e (fun _ e => ?_) (fun _ e => ?_)
      · refine xB_iload_n hF dX7_told_38 rfl ?_
        refine xB_bipush hF dX7_told_39 kb_6 ?_
        refine xB_icmp_ne (tgt := 52) hF dX7_told_41 rfl e (fun _ e => ?_) (fun _ e => ?_)
        · refine xB_aload_n hF dX7_told_44 rfl ?_
          refine xB_iload_n hF dX7_told_45 rfl ?_
          obtain ⟨r10, h11, e12, e⟩ := bn_of e
          refine xB_callVi hF dX7_told_46 (t_X7_valueOf e12) cw_X7_110 sM_0 rfl rfl rfl rfl rfl ?_
          refine xB_goto (tgt := 57) hF dX7_told_49 rfl ?_
          exact xB_ireturn hF dX7_told_57 e
        · refine xB_aload_n hF dX7_told_52 rfl ?_
          refine xB_iload_n hF dX7_told_53 rfl ?_
          obtain ⟨r7, h8, e9, e⟩ := bn_of e
          refine xB_callVi hF dX7_told_54 (t_X7_worth e9) cw_X7_122 sM_0 rfl rfl rfl rfl rfl ?_
          exact xB_ireturn hF dX7_told_57 e
      · refine xB_aload_n hF dX7_told_29 rfl ?_
        refine xB_iload_n hF dX7_told_30 rfl ?_
        refine xB_iload_n hF dX7_told_31 rfl ?_
        obtain ⟨r13, h14, e15, e⟩ := bn_of e
        refine xB_callVi hF dX7_told_32 (t_X7_of e15) cw_X7_97 sM_0 rfl rfl rfl rfl rfl ?_
        refine xB_goto (tgt := 57) hF dX7_told_35 rfl ?_
        exact xB_ireturn hF dX7_told_57 e
def f_X7_isOf_c19 (a0 : Int32) (a1 : Int32) (h : xH) : Option (Int32 × xH) :=
    if a1 = 2 then (if a0 = 4 then (some (1, h)) else (some (0, h))) else (some (0, h))
set_option maxRecDepth 20000 in
set_option maxHeartbeats 2000000 in
theorem t_X7_isOf_c19 {l : Launch} {γ : xG} {a0 : Int32} {a1 : Int32} {r : Int32} {hr : xH} {C : xCx} (hF : xF C cX7_isOf RX7 2 0 γ xSM (some (.int r)) hr l (some .boolean)) : ∀ (h : xH), f_X7_isOf_c19 a0 a1 h = some (r, hr) → xB C h 19 [some (.int a0), some (.int a1)] [] := by
  intro h e
  unfold f_X7_isOf_c19 at e
  refine xB_iload_n hF dX7_isOf_19 rfl ?_
  refine xB_iconst hF dX7_isOf_20 ki_2 ?_
  refine xB_icmp_ne (tgt := 33) hF dX7_isOf_21 rfl e (fun _ e => ?_) (fun _ e => ?_)
  · refine xB_iload_n hF dX7_isOf_24 rfl ?_
    refine xB_iconst hF dX7_isOf_25 ki_4 ?_
    refine xB_icmp_ne (tgt := 33) hF dX7_isOf_26 rfl e (fun _ e => ?_) (fun _ e => ?_)
    · refine xB_iconst hF dX7_isOf_29 ki_1 ?_
      refine xB_goto (tgt := 34) hF dX7_isOf_30 rfl ?_
      exact xB_zreturn hF dX7_isOf_34 rfl e
    · refine xB_iconst hF dX7_isOf_33 ki_0 ?_
      exact xB_zreturn hF dX7_isOf_34 rfl e
  · refine xB_iconst hF dX7_isOf_33 ki_0 ?_
    exact xB_zreturn hF dX7_isOf_34 rfl e
def f_X7_isOf (a0 : Int32) (a1 : Int32) (h : xH) : Option (Int32 × xH) :=
    if a0 = a1 then (some (1, h)) else (if a1 = 0 then (some (1, h)) else (if a1 = 1 then (if a0 = 3 then (some (1, h)) else (f_X7_isOf_c19 a0 a1 h)) else (f_X7_isOf_c19 a0 a1 h)))
set_option maxRecDepth 20000 in
set_option maxHeartbeats 2000000 in
theorem t_X7_isOf {l : Launch} {γ : xG} {a0 : Int32} {a1 : Int32} {h : xH} {r : Int32} {hr : xH} (e : f_X7_isOf a0 a1 h = some (r, hr)) : xCT l γ xSM yX7_isOf cX7_isOf 2 (some .boolean) 0 [.int a0, .int a1] h (some (.int r)) hr := by
  refine xCT.of (own := RX7) (L := [some (.int a0), some (.int a1)]) (by decide) rfl rfl rfl (fun C hF => ?_)
  unfold f_X7_isOf at e
  refine xB_iload_n hF dX7_isOf_0 rfl ?_
  refine xB_iload_n hF dX7_isOf_1 rfl ?_
  refine xB_icmp_eq (tgt := 29) hF dX7_isOf_2 rfl e (fun _ e => ?_) (fun _ e => ?_)
  · refine xB_iconst hF dX7_isOf_29 ki_1 ?_
    refine xB_goto (tgt := 34) hF dX7_isOf_30 rfl ?_
    exact xB_zreturn hF dX7_isOf_34 rfl e
  · refine xB_iload_n hF dX7_isOf_5 rfl ?_
    refine xB_if_eq (tgt := 29) hF dX7_isOf_6 rfl e (fun _ e => ?_) (fun _ e => ?_)
    · refine xB_iconst hF dX7_isOf_29 ki_1 ?_
      refine xB_goto (tgt := 34) hF dX7_isOf_30 rfl ?_
      exact xB_zreturn hF dX7_isOf_34 rfl e
    · refine xB_iload_n hF dX7_isOf_9 rfl ?_
      refine xB_iconst hF dX7_isOf_10 ki_1 ?_
      refine xB_icmp_ne (tgt := 19) hF dX7_isOf_11 rfl e (fun _ e => ?_) (fun _ e => ?_)
      · refine xB_iload_n hF dX7_isOf_14 rfl ?_
        refine xB_iconst hF dX7_isOf_15 ki_3 ?_
        refine xB_icmp_eq (tgt := 29) hF dX7_isOf_16 rfl e (fun _ e => ?_) (fun _ e => ?_)
        · refine xB_iconst hF dX7_isOf_29 ki_1 ?_
          refine xB_goto (tgt := 34) hF dX7_isOf_30 rfl ?_
          exact xB_zreturn hF dX7_isOf_34 rfl e
        · exact xB_l (t_X7_isOf_c19 hF _ e) (And.intro rfl (And.intro rfl (True.intro)))
      · exact xB_l (t_X7_isOf_c19 hF _ e) (And.intro rfl (And.intro rfl (True.intro)))
def f_X7_as (a1 : Int32) (a2 : Int32) (h : xH) : Option (Int32 × xH) :=
    bn (f_X7_isDay a1 h) fun r1 h2 => if r1 = 0 then (some ((-1000000001), h2)) else (bn (f_X7_isIn (Int32.toInt64 a2) 0 5 h2) fun r4 h5 => if r4 = 0 then (some ((-1000000001), h5)) else (bn (f_X7_of a1 0 h5) fun r7 h8 => bn (f_X7_isOf r7 a2 h8) fun r10 h11 => if r10 = 0 then (some ((-1000000012), h11)) else (bn (f_X7_of a1 1 h11) fun r13 h14 => some (r13, h14))))
set_option maxRecDepth 20000 in
set_option maxHeartbeats 2000000 in
theorem t_X7_as {l : Launch} {γ : xG} {a1 : Int32} {a2 : Int32} {h : xH} {r : Int32} {hr : xH} (e : f_X7_as a1 a2 h = some (r, hr)) : xCT l γ xSM yX7_as cX7_as 3 (some .int) 2 [.ref (γ.2.2.2 0), .int a1, .int a2] h (some (.int r)) hr := by
  refine xCT.of (own := RX7) (L := [some (.ref (γ.2.2.2 0)), some (.int a1), some (.int a2)]) (by decide) rfl rfl rfl (fun C hF => ?_)
  unfold f_X7_as at e
  refine xB_aload_n hF dX7_as_0 rfl ?_
  refine xB_iload_n hF dX7_as_1 rfl ?_
  obtain ⟨r1, h2, e3, e⟩ := bn_of e
  refine xB_callVi hF dX7_as_2 (t_X7_isDay e3) cw_X7_117 sM_0 rfl rfl rfl rfl rfl ?_
  refine xB_if_eq (tgt := 20) hF dX7_as_5 rfl e (fun _ e => ?_) (fun _ e => ?_)
  · refine xB_ldc hF dX7_as_20 kc_X7_87 ?_
    exact xB_ireturn hF dX7_as_22 e
  · refine xB_iload_n hF dX7_as_8 rfl ?_
    refine xB_i2l hF dX7_as_9 ?_
    refine xB_lconst (v := 0) hF dX7_as_10 (by decide) ?_
    refine xB_ldc2 hF dX7_as_11 kc_X7_77 ?_
    obtain ⟨r4, h5, e6, e⟩ := bn_of e
    refine xB_callSi hF dX7_as_14 (t_X7_isIn e6) cw_X7_68 rfl rfl rfl rfl ?_
    refine xB_if_ne (tgt := 23) hF dX7_as_17 rfl e (fun _ e => ?_) (fun _ e => ?_)
    · refine xB_ldc hF dX7_as_20 kc_X7_87 ?_
      exact xB_ireturn hF dX7_as_22 e
    · refine xB_aload_n hF dX7_as_23 rfl ?_
      refine xB_iload_n hF dX7_as_24 rfl ?_
      refine xB_iconst hF dX7_as_25 ki_0 ?_
      obtain ⟨r7, h8, e9, e⟩ := bn_of e
      refine xB_callVi hF dX7_as_26 (t_X7_of e9) cw_X7_97 sM_0 rfl rfl rfl rfl rfl ?_
      refine xB_iload_n hF dX7_as_29 rfl ?_
      obtain ⟨r10, h11, e12, e⟩ := bn_of e
      refine xB_callSi hF dX7_as_30 (t_X7_isOf e12) cw_X7_125 rfl rfl rfl rfl ?_
      refine xB_if_eq (tgt := 45) hF dX7_as_33 rfl e (fun _ e => ?_) (fun _ e => ?_)
      · refine xB_ldc hF dX7_as_45 kc_X7_129 ?_
        exact xB_ireturn hF dX7_as_47 e
      · refine xB_aload_n hF dX7_as_36 rfl ?_
        refine xB_iload_n hF dX7_as_37 rfl ?_
        refine xB_iconst hF dX7_as_38 ki_1 ?_
        obtain ⟨r13, h14, e15, e⟩ := bn_of e
        refine xB_callVi hF dX7_as_39 (t_X7_of e15) cw_X7_97 sM_0 rfl rfl rfl rfl rfl ?_
        refine xB_goto (tgt := 47) hF dX7_as_42 rfl ?_
        exact xB_ireturn hF dX7_as_47 e
def f_X7_turns (a1 : Int32) (a2 : Int32) (h : xH) : Option (Int32 × xH) :=
    bn (f_X7_isDay a1 h) fun r1 h2 => if r1 = 0 then (some ((-1000000001), h2)) else (bn (f_X7_isIn (Int32.toInt64 a2) 0 5 h2) fun r4 h5 => if r4 = 0 then (some ((-1000000001), h5)) else (bn (f_X7_becomes (18 + (6 * a1)) a2 h5) fun r7 h8 => some (r7, h8)))
set_option maxRecDepth 20000 in
set_option maxHeartbeats 2000000 in
theorem t_X7_turns {l : Launch} {γ : xG} {a1 : Int32} {a2 : Int32} {h : xH} {r : Int32} {hr : xH} (e : f_X7_turns a1 a2 h = some (r, hr)) : xCT l γ xSM yX7_turns cX7_turns 3 (some .int) 2 [.ref (γ.2.2.2 0), .int a1, .int a2] h (some (.int r)) hr := by
  refine xCT.of (own := RX7) (L := [some (.ref (γ.2.2.2 0)), some (.int a1), some (.int a2)]) (by decide) rfl rfl rfl (fun C hF => ?_)
  unfold f_X7_turns at e
  refine xB_aload_n hF dX7_turns_0 rfl ?_
  refine xB_iload_n hF dX7_turns_1 rfl ?_
  obtain ⟨r1, h2, e3, e⟩ := bn_of e
  refine xB_callVi hF dX7_turns_2 (t_X7_isDay e3) cw_X7_117 sM_0 rfl rfl rfl rfl rfl ?_
  refine xB_if_eq (tgt := 35) hF dX7_turns_5 rfl e (fun _ e => ?_) (fun _ e => ?_)
  · refine xB_ldc hF dX7_turns_35 kc_X7_87 ?_
    exact xB_ireturn hF dX7_turns_37 e
  · refine xB_iload_n hF dX7_turns_8 rfl ?_
    refine xB_i2l hF dX7_turns_9 ?_
    refine xB_lconst (v := 0) hF dX7_turns_10 (by decide) ?_
    refine xB_ldc2 hF dX7_turns_11 kc_X7_77 ?_
    obtain ⟨r4, h5, e6, e⟩ := bn_of e
    refine xB_callSi hF dX7_turns_14 (t_X7_isIn e6) cw_X7_68 rfl rfl rfl rfl ?_
    refine xB_if_eq (tgt := 35) hF dX7_turns_17 rfl e (fun _ e => ?_) (fun _ e => ?_)
    · refine xB_ldc hF dX7_turns_35 kc_X7_87 ?_
      exact xB_ireturn hF dX7_turns_37 e
    · refine xB_aload_n hF dX7_turns_20 rfl ?_
      refine xB_bipush hF dX7_turns_21 kb_18 ?_
      refine xB_bipush hF dX7_turns_23 kb_6 ?_
      refine xB_iload_n hF dX7_turns_25 rfl ?_
      refine xB_imul hF dX7_turns_26 ?_
      refine xB_iadd hF dX7_turns_27 ?_
      refine xB_iload_n hF dX7_turns_28 rfl ?_
      obtain ⟨r7, h8, e9, e⟩ := bn_of e
      refine xB_callVi hF dX7_turns_29 (t_X7_becomes e9) cw_X7_130 sM_0 rfl rfl rfl rfl rfl ?_
      refine xB_goto (tgt := 37) hF dX7_turns_32 rfl ?_
      exact xB_ireturn hF dX7_turns_37 e
def f_X7_set_c37 (a1 : Int32) (a2 : Int32) (a3 : Int32) (s0 : Int64) (s1 : Int64) (s2 : Int64) (h : xH) : Option (Int32 × xH) :=
    bn (f_X7_isIn s2 s1 s0 h) fun r1 h2 => if r1 = 0 then (some ((-1000000001), h2)) else (bn (f_X7_becomes ((18 + (6 * a1)) + a2) a3 h2) fun r4 h5 => some (r4, h5))
set_option maxRecDepth 20000 in
set_option maxHeartbeats 2000000 in
theorem t_X7_set_c37 {l : Launch} {γ : xG} {a1 : Int32} {a2 : Int32} {a3 : Int32} {r : Int32} {hr : xH} {C : xCx} (hF : xF C cX7_set RX7 4 2 γ xSM (some (.int r)) hr l (some .int)) : ∀ (s0 : Int64) (s1 : Int64) (s2 : Int64) (h : xH), f_X7_set_c37 a1 a2 a3 s0 s1 s2 h = some (r, hr) → xB C h 37 [some (.ref (γ.2.2.2 0)), some (.int a1), some (.int a2), some (.int a3)] [.long s0, .long s1, .long s2] := by
  intro s0 s1 s2 h e
  unfold f_X7_set_c37 at e
  obtain ⟨r1, h2, e3, e⟩ := bn_of e
  refine xB_callSi hF dX7_set_37 (t_X7_isIn e3) cw_X7_68 rfl rfl rfl rfl ?_
  refine xB_if_ne (tgt := 46) hF dX7_set_40 rfl e (fun _ e => ?_) (fun _ e => ?_)
  · refine xB_ldc hF dX7_set_43 kc_X7_87 ?_
    exact xB_ireturn hF dX7_set_45 e
  · refine xB_aload_n hF dX7_set_46 rfl ?_
    refine xB_bipush hF dX7_set_47 kb_18 ?_
    refine xB_bipush hF dX7_set_49 kb_6 ?_
    refine xB_iload_n hF dX7_set_51 rfl ?_
    refine xB_imul hF dX7_set_52 ?_
    refine xB_iadd hF dX7_set_53 ?_
    refine xB_iload_n hF dX7_set_54 rfl ?_
    refine xB_iadd hF dX7_set_55 ?_
    refine xB_iload_n hF dX7_set_56 rfl ?_
    obtain ⟨r4, h5, e6, e⟩ := bn_of e
    refine xB_callVi hF dX7_set_57 (t_X7_becomes e6) cw_X7_130 sM_0 rfl rfl rfl rfl rfl ?_
    exact xB_ireturn hF dX7_set_60 e
def f_X7_set (a1 : Int32) (a2 : Int32) (a3 : Int32) (h : xH) : Option (Int32 × xH) :=
    bn (f_X7_isDay a1 h) fun r1 h2 => if r1 = 0 then (some ((-1000000001), h2)) else (bn (f_X7_isIn (Int32.toInt64 a2) 1 3 h2) fun r4 h5 => if r4 = 0 then (some ((-1000000001), h5)) else (if a2 = 2 then (f_X7_set_c37 a1 a2 a3 9 0 (Int32.toInt64 a3) h5) else (f_X7_set_c37 a1 a2 a3 99 0 (Int32.toInt64 a3) h5)))
set_option maxRecDepth 20000 in
set_option maxHeartbeats 2000000 in
theorem t_X7_set {l : Launch} {γ : xG} {a1 : Int32} {a2 : Int32} {a3 : Int32} {h : xH} {r : Int32} {hr : xH} (e : f_X7_set a1 a2 a3 h = some (r, hr)) : xCT l γ xSM yX7_set cX7_set 4 (some .int) 2 [.ref (γ.2.2.2 0), .int a1, .int a2, .int a3] h (some (.int r)) hr := by
  refine xCT.of (own := RX7) (L := [some (.ref (γ.2.2.2 0)), some (.int a1), some (.int a2), some (.int a3)]) (by decide) rfl rfl rfl (fun C hF => ?_)
  unfold f_X7_set at e
  refine xB_aload_n hF dX7_set_0 rfl ?_
  refine xB_iload_n hF dX7_set_1 rfl ?_
  obtain ⟨r1, h2, e3, e⟩ := bn_of e
  refine xB_callVi hF dX7_set_2 (t_X7_isDay e3) cw_X7_117 sM_0 rfl rfl rfl rfl rfl ?_
  refine xB_if_eq (tgt := 43) hF dX7_set_5 rfl e (fun _ e => ?_) (fun _ e => ?_)
  · refine xB_ldc hF dX7_set_43 kc_X7_87 ?_
    exact xB_ireturn hF dX7_set_45 e
  · refine xB_iload_n hF dX7_set_8 rfl ?_
    refine xB_i2l hF dX7_set_9 ?_
    refine xB_lconst (v := 1) hF dX7_set_10 (by decide) ?_
    refine xB_ldc2 hF dX7_set_11 kc_X7_133 ?_
    obtain ⟨r4, h5, e6, e⟩ := bn_of e
    refine xB_callSi hF dX7_set_14 (t_X7_isIn e6) cw_X7_68 rfl rfl rfl rfl ?_
    refine xB_if_eq (tgt := 43) hF dX7_set_17 rfl e (fun _ e => ?_) (fun _ e => ?_)
    · refine xB_ldc hF dX7_set_43 kc_X7_87 ?_
      exact xB_ireturn hF dX7_set_45 e
    · refine xB_iload_n hF dX7_set_20 rfl ?_
      refine xB_i2l hF dX7_set_21 ?_
      refine xB_lconst (v := 0) hF dX7_set_22 (by decide) ?_
      refine xB_iload_n hF dX7_set_23 rfl ?_
      refine xB_iconst hF dX7_set_24 ki_2 ?_
      refine xB_icmp_ne (tgt := 34) hF dX7_set_25 rfl e (fun _ e => ?_) (fun _ e => ?_)
      · refine xB_ldc2 hF dX7_set_28 kc_X7_81 ?_
        refine xB_goto (tgt := 37) hF dX7_set_31 rfl ?_
        exact xB_l (t_X7_set_c37 hF _ _ _ _ e) (And.intro rfl (And.intro rfl (And.intro rfl (And.intro rfl (True.intro)))))
      · refine xB_ldc2 hF dX7_set_34 kc_X7_79 ?_
        exact xB_l (t_X7_set_c37 hF _ _ _ _ e) (And.intro rfl (And.intro rfl (And.intro rfl (And.intro rfl (True.intro)))))
