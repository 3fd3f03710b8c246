def f_X6_item (a1 : Int32) (a2 : Int32) (h : xH) : Option (Int32 × xH) :=
    bn (f_X6_isSlot a1 h) fun r1 h2 => if r1 = 0 then (some ((-1000000001), h2)) else (gd a1 5 <| if (h2 (69 + 3 * (Int32.toNatClampNeg a1)) 1) = 0 then (some ((-1000000011), h2)) else (if (h2 (69 + 3 * (Int32.toNatClampNeg a1)) 1) = 2 then (bn (f_X3_hasPlace ((69 + 3 * (Int32.toNatClampNeg a1)) + 1) a2 h2) fun r5 h6 => if r5 = 0 then (some ((-1000000013), h6)) else (bn (f_X3_isNumber ((69 + 3 * (Int32.toNatClampNeg a1)) + 1) a2 h6) fun r8 h9 => if r8 = 0 then (some ((-1000000012), h9)) else (gd a2 24 <| some (h9 (((69 + 3 * (Int32.toNatClampNeg a1)) + 1) + 1) (Int32.toNatClampNeg a2), h9)))) else (some ((-1000000012), h2))))
set_option maxRecDepth 20000 in
set_option maxHeartbeats 2000000 in
theorem t_X6_item {l : Launch} {γ : xG} {a1 : Int32} {a2 : Int32} {h : xH} {r : Int32} {hr : xH} (e : f_X6_item a1 a2 h = some (r, hr)) : xCT l γ xSC yX6_item cX6_item 4 (some .int) 2 [.ref (γ.2.2.2 0), .int a1, .int a2] h (some (.int r)) hr := by
  refine xCT.of (own := RX6) (L := [some (.ref (γ.2.2.2 0)), some (.int a1), some (.int a2), none]) (by decide) rfl rfl rfl (fun C hF => ?_)
  unfold f_X6_item at e
  refine xB_iload_n hF dX6_item_0 rfl ?_
  obtain ⟨r1, h2, e3, e⟩ := bn_of e
  refine xB_callSi hF dX6_item_1 (t_X6_isSlot e3) cw_X6_297 rfl rfl rfl rfl ?_
  refine xB_if_ne (tgt := 10) hF dX6_item_4 rfl e (fun _ e => ?_) (fun _ e => ?_)
  · refine xB_ldc hF dX6_item_7 kc_X6_85 ?_
    exact xB_ireturn hF dX6_item_9 e
  · refine xB_aload_n hF dX6_item_10 rfl ?_
    refine xB_get hF dX6_item_11 fl_X6_58 sC_0 rfl rfl ?_
    refine xB_iload_n hF dX6_item_14 rfl ?_
    refine xB_aald hF dX6_item_15 sC_68 rfl rfl e (fun q4 e => ?_)
    refine xB_astore_n (L' := [_, _, _, _]) hF dX6_item_16 rfl rfl rfl ?_
    refine xB_aload_n hF dX6_item_17 rfl ?_
    refine xB_get hF dX6_item_18 fl_X6_300 ((isX4_slot q4).1) rfl rfl ?_
    refine xB_if_ne (tgt := 27) hF dX6_item_21 rfl e (fun _ e => ?_) (fun _ e => ?_)
    · refine xB_ldc hF dX6_item_24 kc_X6_221 ?_
      exact xB_ireturn hF dX6_item_26 e
    · refine xB_aload_n hF dX6_item_27 rfl ?_
      refine xB_get hF dX6_item_28 fl_X6_300 ((isX4_slot q4).1) rfl rfl ?_
      refine xB_iconst hF dX6_item_31 ki_2 ?_
      refine xB_icmp_eq (tgt := 38) hF dX6_item_32 rfl e (fun _ e => ?_) (fun _ e => ?_)
      · refine xB_aload_n hF dX6_item_38 rfl ?_
        refine xB_get hF dX6_item_39 fl_X6_307 ((isX4_slot q4).1) rfl rfl ?_
        refine xB_iload_n hF dX6_item_42 rfl ?_
        obtain ⟨r5, h6, e7, e⟩ := bn_of e
        refine xB_callVi hF dX6_item_43 (t_X3_hasPlace ((isX4_slot q4).2) e7) cw_X6_279 ((isX4_slot q4).2.1) rfl rfl rfl rfl rfl ?_
        refine xB_if_ne (tgt := 53) hF dX6_item_46 rfl e (fun _ e => ?_) (fun _ e => ?_)
        · refine xB_ldcw hF dX6_item_49 kc_X6_282 ?_
          exact xB_ireturn hF dX6_item_52 e
        · refine xB_aload_n hF dX6_item_53 rfl ?_
          refine xB_get hF dX6_item_54 fl_X6_307 ((isX4_slot q4).1) rfl rfl ?_
          refine xB_iload_n hF dX6_item_57 rfl ?_
          obtain ⟨r8, h9, e10, e⟩ := bn_of e
          refine xB_callVi hF dX6_item_58 (t_X3_isNumber ((isX4_slot q4).2) e10) cw_X6_228 ((isX4_slot q4).2.1) rfl rfl rfl rfl rfl ?_
          refine xB_if_eq (tgt := 76) hF dX6_item_61 rfl e (fun _ e => ?_) (fun _ e => ?_)
          · refine xB_ldc hF dX6_item_76 kc_X6_127 ?_
            exact xB_ireturn hF dX6_item_78 e
          · refine xB_aload_n hF dX6_item_64 rfl ?_
            refine xB_get hF dX6_item_65 fl_X6_307 ((isX4_slot q4).1) rfl rfl ?_
            refine xB_get hF dX6_item_68 fl_X6_231 ((isX4_slot q4).2.1) rfl rfl ?_
            refine xB_iload_n hF dX6_item_71 rfl ?_
            refine xB_iald hF dX6_item_72 ((isX4_slot q4).2.2) e (fun e => ?_)
            refine xB_goto (tgt := 78) hF dX6_item_73 rfl ?_
            exact xB_ireturn hF dX6_item_78 e
      · refine xB_ldc hF dX6_item_35 kc_X6_127 ?_
        exact xB_ireturn hF dX6_item_37 e
def f_X6_rest (a1 : Int32) (a2 : Int32) (h : xH) : Option (Int32 × xH) :=
    bn (f_X6_isSlot a1 h) fun r1 h2 => if r1 = 0 then (some ((-1000000001), h2)) else (gd a1 5 <| if (h2 (69 + 3 * (Int32.toNatClampNeg a1)) 1) = 0 then (some ((-1000000011), h2)) else (if (h2 (69 + 3 * (Int32.toNatClampNeg a1)) 1) = 3 then (if a2 = 0 then (some ((-1000000002), h2)) else (gz a2 <| some ((h2 (69 + 3 * (Int32.toNatClampNeg a1)) 4) - (h2 (69 + 3 * (Int32.toNatClampNeg a1)) 4) / a2 * a2, h2))) else (some ((-1000000012), h2))))
set_option maxRecDepth 20000 in
set_option maxHeartbeats 2000000 in
theorem t_X6_rest {l : Launch} {γ : xG} {a1 : Int32} {a2 : Int32} {h : xH} {r : Int32} {hr : xH} (e : f_X6_rest a1 a2 h = some (r, hr)) : xCT l γ xSC yX6_rest cX6_rest 4 (some .int) 2 [.ref (γ.2.2.2 0), .int a1, .int a2] h (some (.int r)) hr := by
  refine xCT.of (own := RX6) (L := [some (.ref (γ.2.2.2 0)), some (.int a1), some (.int a2), none]) (by decide) rfl rfl rfl (fun C hF => ?_)
  unfold f_X6_rest at e
  refine xB_iload_n hF dX6_rest_0 rfl ?_
  obtain ⟨r1, h2, e3, e⟩ := bn_of e
  refine xB_callSi hF dX6_rest_1 (t_X6_isSlot e3) cw_X6_297 rfl rfl rfl rfl ?_
  refine xB_if_ne (tgt := 10) hF dX6_rest_4 rfl e (fun _ e => ?_) (fun _ e => ?_)
  · refine xB_ldc hF dX6_rest_7 kc_X6_85 ?_
    exact xB_ireturn hF dX6_rest_9 e
  · refine xB_aload_n hF dX6_rest_10 rfl ?_
    refine xB_get hF dX6_rest_11 fl_X6_58 sC_0 rfl rfl ?_
    refine xB_iload_n hF dX6_rest_14 rfl ?_
    refine xB_aald hF dX6_rest_15 sC_68 rfl rfl e (fun q4 e => ?_)
    refine xB_astore_n (L' := [_, _, _, _]) hF dX6_rest_16 rfl rfl rfl ?_
    refine xB_aload_n hF dX6_rest_17 rfl ?_
    refine xB_get hF dX6_rest_18 fl_X6_300 ((isX4_slot q4).1) rfl rfl ?_
    refine xB_if_ne (tgt := 27) hF dX6_rest_21 rfl e (fun _ e => ?_) (fun _ e => ?_)
    · refine xB_ldc hF dX6_rest_24 kc_X6_221 ?_
      exact xB_ireturn hF dX6_rest_26 e
    · refine xB_aload_n hF dX6_rest_27 rfl ?_
      refine xB_get hF dX6_rest_28 fl_X6_300 ((isX4_slot q4).1) rfl rfl ?_
      refine xB_iconst hF dX6_rest_31 ki_3 ?_
      refine xB_icmp_eq (tgt := 38) hF dX6_rest_32 rfl e (fun _ e => ?_) (fun _ e => ?_)
      · refine xB_iload_n hF dX6_rest_38 rfl ?_
        refine xB_if_ne (tgt := 47) hF dX6_rest_39 rfl e (fun _ e => ?_) (fun _ e => ?_)
        · refine xB_ldc hF dX6_rest_42 kc_X6_156 ?_
          refine xB_goto (tgt := 53) hF dX6_rest_44 rfl ?_
          exact xB_ireturn hF dX6_rest_53 e
        · refine xB_aload_n hF dX6_rest_47 rfl ?_
          refine xB_get hF dX6_rest_48 fl_X6_314 ((isX4_slot q4).1) rfl rfl ?_
          refine xB_iload_n hF dX6_rest_51 rfl ?_
          refine xB_irem hF dX6_rest_52 e (fun e => ?_)
          exact xB_ireturn hF dX6_rest_53 e
      · refine xB_ldc hF dX6_rest_35 kc_X6_127 ?_
        exact xB_ireturn hF dX6_rest_37 e
def f_X6_tell (a1 : Int32) (h : xH) : Option (Int32 × xH) :=
    if (h 0 10) < 60 then (gd (h 0 10) 60 <| nm (xst h 84 (Int32.toNatClampNeg (h 0 10)) a1) fun h1 => nm (xst h1 0 10 ((h1 0 10) + 1)) fun h2 => some (h2 0 10, h2)) else (some ((-1000000003), h))
set_option maxRecDepth 20000 in
set_option maxHeartbeats 2000000 in
theorem t_X6_tell {l : Launch} {γ : xG} {a1 : Int32} {h : xH} {r : Int32} {hr : xH} (e : f_X6_tell a1 h = some (r, hr)) : xCT l γ xSC yX6_tell cX6_tell 2 (some .int) 0 [.ref (γ.2.2.2 0), .int a1] h (some (.int r)) hr := by
  refine xCT.of (own := RX6) (L := [some (.ref (γ.2.2.2 0)), some (.int a1)]) (by decide) rfl rfl rfl (fun C hF => ?_)
  unfold f_X6_tell at e
  refine xB_aload_n hF dX6_tell_0 rfl ?_
  refine xB_get hF dX6_tell_1 fl_X6_66 sC_0 rfl rfl ?_
  refine xB_bipush hF dX6_tell_4 kb_60 ?_
  refine xB_icmp_lt (tgt := 12) hF dX6_tell_6 rfl e (fun _ e => ?_) (fun _ e => ?_)
  · refine xB_aload_n hF dX6_tell_12 rfl ?_
    refine xB_get hF dX6_tell_13 fl_X6_63 sC_0 rfl rfl ?_
    refine xB_aload_n hF dX6_tell_16 rfl ?_
    refine xB_get hF dX6_tell_17 fl_X6_66 sC_0 rfl rfl ?_
    refine xB_iload_n hF dX6_tell_20 rfl ?_
    refine xB_iast hF dX6_tell_21 sC_84 e (fun e => ?_)
    refine xB_gen e (fun h1 e => ?_)
    refine xB_aload_n hF dX6_tell_22 rfl ?_
    refine xB_dup hF dX6_tell_23 rfl ?_
    refine xB_get hF dX6_tell_24 fl_X6_66 sC_0 rfl rfl ?_
    refine xB_iconst hF dX6_tell_27 ki_1 ?_
    refine xB_iadd hF dX6_tell_28 ?_
    refine xB_put hF dX6_tell_29 fp_X6_66 sC_0 rfl rfl rfl rfl rfl ?_
    refine xB_gen e (fun h2 e => ?_)
    refine xB_aload_n hF dX6_tell_32 rfl ?_
    refine xB_get hF dX6_tell_33 fl_X6_66 sC_0 rfl rfl ?_
    exact xB_ireturn hF dX6_tell_36 e
  · refine xB_ldc hF dX6_tell_9 kc_X6_89 ?_
    exact xB_ireturn hF dX6_tell_11 e
def f_X5_allWear_c4 (w : Nat) : Nat → Int32 → Int32 → xH → Option (Int32 × xH)
  | 0, _, _, _ => none
  | n + 1, v1, v2, h =>
    if (h w 10) ≤ v2 then (some (v1, h)) else (gd v2 10 <| nm (v1 + (h (w + 4) (Int32.toNatClampNeg v2))) fun x1 => f_X5_allWear_c4 w n x1 (v2 + 1) h)
set_option maxRecDepth 20000 in
set_option maxHeartbeats 2000000 in
theorem t_X5_allWear_c4 {l : Launch} {γ : xG} {w : Nat} {r : Int32} {hr : xH} {C : xCx} (hF : xF C cX5_allWear RX5 3 0 γ xSC (some (.int r)) hr l (some .int)) (hw : isX5 w) : ∀ (n : Nat) (v1 : Int32) (v2 : Int32) (h : xH), f_X5_allWear_c4 w n v1 v2 h = some (r, hr) → xB C h 4 [some (.ref (γ.2.2.2 w)), some (.int v1), some (.int v2)] [] := by
  intro n
  induction n with
  | zero => intro v1 v2 h e; cases e
  | succ n ih =>
    intro v1 v2 h e
    rw [f_X5_allWear_c4] at e
    refine xB_iload_n hF dX5_allWear_4 rfl ?_
    refine xB_aload_n hF dX5_allWear_5 rfl ?_
    refine xB_get hF dX5_allWear_6 fl_X5_53 hw.1 rfl rfl ?_
    refine xB_icmp_ge (tgt := 27) hF dX5_allWear_9 rfl e (fun _ e => ?_) (fun _ e => ?_)
    · refine xB_iload_n hF dX5_allWear_27 rfl ?_
      exact xB_ireturn hF dX5_allWear_28 e
    · refine xB_iload_n hF dX5_allWear_12 rfl ?_
      refine xB_aload_n hF dX5_allWear_13 rfl ?_
      refine xB_get hF dX5_allWear_14 fl_X5_21 hw.1 rfl rfl ?_
      refine xB_iload_n hF dX5_allWear_17 rfl ?_
      refine xB_iald hF dX5_allWear_18 hw.2.2.2.2.1 e (fun e => ?_)
      refine xB_iadd hF dX5_allWear_19 ?_
      refine xB_istore_n (L' := [_, _, _]) hF dX5_allWear_20 rfl rfl rfl ?_
      replace e := nm_of e
      refine xB_iinc (L' := [_, _, _]) hF dX5_allWear_21 rfl ki_1 rfl rfl rfl ?_
      refine xB_goto (tgt := 4) hF dX5_allWear_24 rfl ?_
      exact xB_l (ih _ _ _ e) (And.intro rfl (And.intro rfl (And.intro rfl (True.intro))))
def f_X5_allWear (w : Nat) (h : xH) : Option (Int32 × xH) :=
    f_X5_allWear_c4 w xN 0 0 h
set_option maxRecDepth 20000 in
set_option maxHeartbeats 2000000 in
theorem t_X5_allWear {l : Launch} {γ : xG} {w : Nat} {h : xH} {r : Int32} {hr : xH} (hw : isX5 w) (e : f_X5_allWear w h = some (r, hr)) : xCT l γ xSC yX5_allWear cX5_allWear 3 (some .int) 0 [.ref (γ.2.2.2 w)] h (some (.int r)) hr := by
  refine xCT.of (own := RX5) (L := [some (.ref (γ.2.2.2 w)), none, none]) (by decide) rfl rfl rfl (fun C hF => ?_)
  unfold f_X5_allWear at e
  refine xB_iconst hF dX5_allWear_0 ki_0 ?_
  refine xB_istore_n (L' := [_, _, _]) hF dX5_allWear_1 rfl rfl rfl ?_
  refine xB_iconst hF dX5_allWear_2 ki_0 ?_
  refine xB_istore_n (L' := [_, _, _]) hF dX5_allWear_3 rfl rfl rfl ?_
  exact xB_l (t_X5_allWear_c4 hF hw _ _ _ _ e) (And.intro rfl (And.intro rfl (And.intro rfl (True.intro))))
def f_X6_check_c113 (k58 : Int32 → Int32 → Int32 → xH → Option (Int32 × xH)) (a1 : Int32) (v2 : Int32) (v3 : Int32) (v4 : Int32) (s0 : Int32) (h : xH) : Option (Int32 × xH) :=
    if v2 ≤ v4 then (some (1 + v4, h)) else (gd v4 60 <| if (h 84 (Int32.toNatClampNeg v4)) = s0 then (k58 v2 v3 (v4 + 1) h) else (some (1 + v4, h)))
set_option maxRecDepth 20000 in
set_option maxHeartbeats 2000000 in
theorem t_X6_check_c113 {l : Launch} {γ : xG} {k58 : Int32 → Int32 → Int32 → xH → Option (Int32 × xH)} {a1 : Int32} {r : Int32} {hr : xH} {C : xCx} (hF : xF C cX6_check RX6 7 6 γ xSC (some (.int r)) hr l (some .int)) (hk58 : ∀ (v2 : Int32) (v3 : Int32) (v4 : Int32) (h : xH), k58 v2 v3 v4 h = some (r, hr) → xB C h 58 [some (.ref (γ.2.2.2 0)), some (.int a1), some (.int v2), some (.int v3), some (.int v4), none, none] []) : ∀ (v2 : Int32) (v3 : Int32) (v4 : Int32) (s0 : Int32) (h : xH), f_X6_check_c113 k58 a1 v2 v3 v4 s0 h = some (r, hr) → xB C h 113 [some (.ref (γ.2.2.2 0)), some (.int a1), some (.int v2), some (.int v3), some (.int v4), none, none] [.int s0] := by
  intro v2 v3 v4 s0 h e
  unfold f_X6_check_c113 at e
  refine xB_istore (L' := [_, _, _, _, _, _, _]) hF dX6_check_113 rfl rfl rfl ?_
  refine xB_iload hF dX6_check_115 rfl ?_
  refine xB_iload_n hF dX6_check_117 rfl ?_
  refine xB_icmp_ge (tgt := 133) hF dX6_check_118 rfl e (fun _ e => ?_) (fun _ e => ?_)
  · refine xB_iconst hF dX6_check_133 ki_1 ?_
    refine xB_iload hF dX6_check_134 rfl ?_
    refine xB_iadd hF dX6_check_136 ?_
    exact xB_ireturn hF dX6_check_137 e
  · refine xB_aload_n hF dX6_check_121 rfl ?_
    refine xB_get hF dX6_check_122 fl_X6_63 sC_0 rfl rfl ?_
    refine xB_iload hF dX6_check_125 rfl ?_
    refine xB_iald hF dX6_check_127 sC_84 e (fun e => ?_)
    refine xB_iload hF dX6_check_128 rfl ?_
    refine xB_icmp_eq (tgt := 138) hF dX6_check_130 rfl e (fun _ e => ?_) (fun _ e => ?_)
    · refine xB_iinc (L' := [_, _, _, _, _, _, _]) hF dX6_check_138 rfl ki_1 rfl rfl rfl ?_
      refine xB_goto (tgt := 58) hF dX6_check_141 rfl ?_
      exact xB_l (hk58 _ _ _ _ e) (And.intro rfl (And.intro rfl (And.intro rfl (And.intro rfl (And.intro rfl (True.intro))))))
    · refine xB_iconst hF dX6_check_133 ki_1 ?_
      refine xB_iload hF dX6_check_134 rfl ?_
      refine xB_iadd hF dX6_check_136 ?_
      exact xB_ireturn hF dX6_check_137 e
def f_X6_check_c91 (k58 : Int32 → Int32 → Int32 → xH → Option (Int32 × xH)) (a1 : Int32) (v2 : Int32) (v3 : Int32) (v4 : Int32) (v5 : Int32) (h : xH) : Option (Int32 × xH) :=
    if v5 = 0 then (bn (f_X5_allWear 44 h) fun r1 h2 => f_X6_check_c113 k58 a1 v2 v3 v4 r1 h2) else (f_X6_check_c113 k58 a1 v2 v3 v4 (h 44 12) h)
set_option maxRecDepth 20000 in
set_option maxHeartbeats 2000000 in
theorem t_X6_check_c91 {l : Launch} {γ : xG} {k58 : Int32 → Int32 → Int32 → xH → Option (Int32 × xH)} {a1 : Int32} {r : Int32} {hr : xH} {C : xCx} (hF : xF C cX6_check RX6 7 6 γ xSC (some (.int r)) hr l (some .int)) (hk58 : ∀ (v2 : Int32) (v3 : Int32) (v4 : Int32) (h : xH), k58 v2 v3 v4 h = some (r, hr) → xB C h 58 [some (.ref (γ.2.2.2 0)), some (.int a1), some (.int v2), some (.int v3), some (.int v4), none, none] []) : ∀ (v2 : Int32) (v3 : Int32) (v4 : Int32) (v5 : Int32) (h : xH), f_X6_check_c91 k58 a1 v2 v3 v4 v5 h = some (r, hr) → xB C h 91 [some (.ref (γ.2.2.2 0)), some (.int a1), some (.int v2), some (.int v3), some (.int v4), some (.int v5), none] [] := by
  intro v2 v3 v4 v5 h e
  unfold f_X6_check_c91 at e
  refine xB_iload hF dX6_check_91 rfl ?_
  refine xB_if_eq (tgt := 106) hF dX6_check_93 rfl e (fun _ e => ?_) (fun _ e => ?_)
  · refine xB_aload_n hF dX6_check_106 rfl ?_
    refine xB_get hF dX6_check_107 fl_X6_35 sC_0 rfl rfl ?_
    obtain ⟨r1, h2, e3, e⟩ := bn_of e
    refine xB_callVi hF dX6_check_110 (t_X5_allWear isX5_44 e3) cw_X6_317 isX5_44.1 rfl rfl rfl rfl rfl ?_
    exact xB_l (t_X6_check_c113 hF hk58 _ _ _ _ _ e) (And.intro rfl (And.intro rfl (And.intro rfl (And.intro rfl (And.intro rfl (True.intro))))))
  · refine xB_aload_n hF dX6_check_96 rfl ?_
    refine xB_get hF dX6_check_97 fl_X6_35 sC_0 rfl rfl ?_
    refine xB_get hF dX6_check_100 fl_X6_161 isX5_44.1 rfl rfl ?_
    refine xB_goto (tgt := 113) hF dX6_check_103 rfl ?_
    exact xB_l (t_X6_check_c113 hF hk58 _ _ _ _ _ e) (And.intro rfl (And.intro rfl (And.intro rfl (And.intro rfl (And.intro rfl (True.intro))))))
def f_X6_check_c76 (k58 : Int32 → Int32 → Int32 → xH → Option (Int32 × xH)) (a1 : Int32) (v2 : Int32) (v3 : Int32) (v4 : Int32) (s0 : Int32) (h : xH) : Option (Int32 × xH) :=
    if s0 = 0 then (f_X6_check_c91 k58 a1 v2 v3 v4 s0 h) else (bn (f_X5_goOn 44 1 h) fun r1 h2 => f_X6_check_c91 k58 a1 v2 v3 v4 s0 h2)
set_option maxRecDepth 20000 in
set_option maxHeartbeats 2000000 in
theorem t_X6_check_c76 {l : Launch} {γ : xG} {k58 : Int32 → Int32 → Int32 → xH → Option (Int32 × xH)} {a1 : Int32} {r : Int32} {hr : xH} {C : xCx} (hF : xF C cX6_check RX6 7 6 γ xSC (some (.int r)) hr l (some .int)) (hk58 : ∀ (v2 : Int32) (v3 : Int32) (v4 : Int32) (h : xH), k58 v2 v3 v4 h = some (r, hr) → xB C h 58 [some (.ref (γ.2.2.2 0)), some (.int a1), some (.int v2), some (.int v3), some (.int v4), none, none] []) : ∀ (v2 : Int32) (v3 : Int32) (v4 : Int32) (s0 : Int32) (h : xH), f_X6_check_c76 k58 a1 v2 v3 v4 s0 h = some (r, hr) → xB C h 76 [some (.ref (γ.2.2.2 0)), some (.int a1), some (.int v2), some (.int v3), some (.int v4), none, none] [.int s0] := by
  intro v2 v3 v4 s0 h e
  unfold f_X6_check_c76 at e
  refine xB_istore (L' := [_, _, _, _, _, _, _]) hF dX6_check_76 rfl rfl rfl ?_
  refine xB_iload hF dX6_check_78 rfl ?_
  refine xB_if_eq (tgt := 91) hF dX6_check_80 rfl e (fun _ e => ?_) (fun _ e => ?_)
  · exact xB_l (t_X6_check_c91 hF hk58 _ _ _ _ _ e) (And.intro rfl (And.intro rfl (And.intro rfl (And.intro rfl (And.intro rfl (And.intro rfl (True.intro)))))))
  · refine xB_aload_n hF dX6_check_83 rfl ?_
    refine xB_get hF dX6_check_84 fl_X6_35 sC_0 rfl rfl ?_
    refine xB_iconst hF dX6_check_87 ki_1 ?_
    obtain ⟨r1, h2, e3, e⟩ := bn_of e
    refine xB_callVv hF dX6_check_88 (t_X5_goOn isX5_44 e3) cw_X6_167 isX5_44.1 rfl rfl rfl rfl rfl ?_
    exact xB_l (t_X6_check_c91 hF hk58 _ _ _ _ _ e) (And.intro rfl (And.intro rfl (And.intro rfl (And.intro rfl (And.intro rfl (And.intro rfl (True.intro)))))))
def f_X6_check_c58 (a1 : Int32) : Nat → Int32 → Int32 → Int32 → xH → Option (Int32 × xH)
  | 0, _, _, _, _ => none
  | n + 1, v2, v3, v4, h =>
    if v3 ≤ v4 then (if v2 ≤ v3 then (some (0, h)) else (some (1 + v3, h))) else (if (v4 - v4 / 2 * 2) = 0 then (f_X6_check_c76 (f_X6_check_c58 a1 n) a1 v2 v3 v4 1 h) else (f_X6_check_c76 (f_X6_check_c58 a1 n) a1 v2 v3 v4 0 h))
set_option maxRecDepth 20000 in
set_option maxHeartbeats 2000000 in
theorem t_X6_check_c58 {l : Launch} {γ : xG} {a1 : Int32} {r : Int32} {hr : xH} {C : xCx} (hF : xF C cX6_check RX6 7 6 γ xSC (some (.int r)) hr l (some .int)) : ∀ (n : Nat) (v2 : Int32) (v3 : Int32) (v4 : Int32) (h : xH), f_X6_check_c58 a1 n v2 v3 v4 h = some (r, hr) → xB C h 58 [some (.ref (γ.2.2.2 0)), some (.int a1), some (.int v2), some (.int v3), some (.int v4), none, none] [] := by
  intro n
  induction n with
  | zero => intro v2 v3 v4 h e; cases e
  | succ n ih =>
    intro v2 v3 v4 h e
    rw [f_X6_check_c58] at e
    refine xB_iload hF dX6_check_58 rfl ?_
    refine xB_iload_n hF dX6_check_60 rfl ?_
    refine xB_icmp_ge (tgt := 144) hF dX6_check_61 rfl e (fun _ e => ?_) (fun _ e => ?_)
    · refine xB_iload_n hF dX6_check_144 rfl ?_
      refine xB_iload_n hF dX6_check_145 rfl ?_
      refine xB_icmp_le (tgt := 155) hF dX6_check_146 rfl e (fun _ e => ?_) (fun _ e => ?_)
      · refine xB_iconst hF dX6_check_155 ki_0 ?_
        exact xB_ireturn hF dX6_check_156 e
      · refine xB_iconst hF dX6_check_149 ki_1 ?_
        refine xB_iload_n hF dX6_check_150 rfl ?_
        refine xB_iadd hF dX6_check_151 ?_
        refine xB_goto (tgt := 156) hF dX6_check_152 rfl ?_
        exact xB_ireturn hF dX6_check_156 e
    · refine xB_iload hF dX6_check_64 rfl ?_
      refine xB_iconst hF dX6_check_66 ki_2 ?_
      refine xB_iremc hF dX6_check_67 (by decide) ?_
      refine xB_if_ne (tgt := 75) hF dX6_check_68 rfl e (fun _ e => ?_) (fun _ e => ?_)
      · refine xB_iconst hF dX6_check_71 ki_1 ?_
        refine xB_goto (tgt := 76) hF dX6_check_72 rfl ?_
        exact xB_l (t_X6_check_c76 hF ih _ _ _ _ _ e) (And.intro rfl (And.intro rfl (And.intro rfl (And.intro rfl (And.intro rfl (True.intro))))))
      · refine xB_iconst hF dX6_check_75 ki_0 ?_
        exact xB_l (t_X6_check_c76 hF ih _ _ _ _ _ e) (And.intro rfl (And.intro rfl (And.intro rfl (And.intro rfl (And.intro rfl (True.intro))))))
def f_X6_check (a1 : Int32) (h : xH) : Option (Int32 × xH) :=
    nm (xst h 0 10 0) fun h1 => bn (f_X6_within a1 1 30 h1) fun r2 h3 => if r2 = 0 then (some ((-1000000001), h3)) else (if (h3 0 11) = 0 then (some ((-1000000002), h3)) else (bn (f_X5_become 44 34 h3) fun r5 h6 => bn (f_X5_marketsLeft 34 a1 h6) fun r8 h9 => f_X6_check_c58 a1 xN (h 0 10) (2 * r8) 0 h9))
set_option maxRecDepth 20000 in
set_option maxHeartbeats 2000000 in
theorem t_X6_check {l : Launch} {γ : xG} {a1 : Int32} {h : xH} {r : Int32} {hr : xH} (e : f_X6_check a1 h = some (r, hr)) : xCT l γ xSC yX6_check cX6_check 7 (some .int) 6 [.ref (γ.2.2.2 0), .int a1] h (some (.int r)) hr := by
  refine xCT.of (own := RX6) (L := [some (.ref (γ.2.2.2 0)), some (.int a1), none, none, none, none, none]) (by decide) rfl rfl rfl (fun C hF => ?_)
  unfold f_X6_check at e
  refine xB_aload_n hF dX6_check_0 rfl ?_
  refine xB_get hF dX6_check_1 fl_X6_66 sC_0 rfl rfl ?_
  refine xB_istore_n (L' := [_, _, _, _, _, _, _]) hF dX6_check_4 rfl rfl rfl ?_
  refine xB_aload_n hF dX6_check_5 rfl ?_
  refine xB_iconst hF dX6_check_6 ki_0 ?_
  refine xB_put hF dX6_check_7 fp_X6_66 sC_0 rfl rfl rfl rfl rfl ?_
  refine xB_gen e (fun h1 e => ?_)
  refine xB_iload_n hF dX6_check_10 rfl ?_
  refine xB_iconst hF dX6_check_11 ki_1 ?_
  refine xB_bipush hF dX6_check_12 kb_30 ?_
  obtain ⟨r2, h3, e4, e⟩ := bn_of e
  refine xB_callSi hF dX6_check_14 (t_X6_within e4) cw_X6_78 rfl rfl rfl rfl ?_
  refine xB_if_ne (tgt := 23) hF dX6_check_17 rfl e (fun _ e => ?_) (fun _ e => ?_)
  · refine xB_ldc hF dX6_check_20 kc_X6_85 ?_
    exact xB_ireturn hF dX6_check_22 e
  · refine xB_aload_n hF dX6_check_23 rfl ?_
    refine xB_get hF dX6_check_24 fl_X6_70 sC_0 rfl rfl ?_
    refine xB_if_ne (tgt := 33) hF dX6_check_27 rfl e (fun _ e => ?_) (fun _ e => ?_)
    · refine xB_ldc hF dX6_check_30 kc_X6_156 ?_
      exact xB_ireturn hF dX6_check_32 e
    · refine xB_aload_n hF dX6_check_33 rfl ?_
      refine xB_get hF dX6_check_34 fl_X6_35 sC_0 rfl rfl ?_
      refine xB_aload_n hF dX6_check_37 rfl ?_
      refine xB_get hF dX6_check_38 fl_X6_32 sC_0 rfl rfl ?_
      obtain ⟨r5, h6, e7, e⟩ := bn_of e
      refine xB_callVv hF dX6_check_41 (t_X5_become isX5_44 isX5_34 e7) cw_X6_205 isX5_44.1 rfl rfl rfl rfl rfl ?_
      refine xB_iconst hF dX6_check_44 ki_2 ?_
      refine xB_aload_n hF dX6_check_45 rfl ?_
      refine xB_get hF dX6_check_46 fl_X6_32 sC_0 rfl rfl ?_
      refine xB_iload_n hF dX6_check_49 rfl ?_
      obtain ⟨r8, h9, e10, e⟩ := bn_of e
      refine xB_callVi hF dX6_check_50 (t_X5_marketsLeft isX5_34 e10) cw_X6_164 isX5_34.1 rfl rfl rfl rfl rfl ?_
      refine xB_imul hF dX6_check_53 ?_
      refine xB_istore_n (L' := [_, _, _, _, _, _, _]) hF dX6_check_54 rfl rfl rfl ?_
      refine xB_iconst hF dX6_check_55 ki_0 ?_
      refine xB_istore (L' := [_, _, _, _, _, _, _]) hF dX6_check_56 rfl rfl rfl ?_
      exact xB_l (t_X6_check_c58 hF _ _ _ _ _ e) (And.intro rfl (And.intro rfl (And.intro rfl (And.intro rfl (And.intro rfl (True.intro))))))
def f_X6_keep (h : xH) : Option (Int32 × xH) :=
    bn (f_X5_become 34 24 h) fun r1 h2 => nm (xst h2 0 11 1) fun h4 => some (h4 24 10, h4)
set_option maxRecDepth 20000 in
set_option maxHeartbeats 2000000 in
theorem t_X6_keep {l : Launch} {γ : xG} {h : xH} {r : Int32} {hr : xH} (e : f_X6_keep h = some (r, hr)) : xCT l γ xSC yX6_keep cX6_keep 1 (some .int) 2 [.ref (γ.2.2.2 0)] h (some (.int r)) hr := by
  refine xCT.of (own := RX6) (L := [some (.ref (γ.2.2.2 0))]) (by decide) rfl rfl rfl (fun C hF => ?_)
  unfold f_X6_keep at e
  refine xB_aload_n hF dX6_keep_0 rfl ?_
  refine xB_get hF dX6_keep_1 fl_X6_32 sC_0 rfl rfl ?_
  refine xB_aload_n hF dX6_keep_4 rfl ?_
  refine xB_get hF dX6_keep_5 fl_X6_28 sC_0 rfl rfl ?_
  obtain ⟨r1, h2, e3, e⟩ := bn_of e
  refine xB_callVv hF dX6_keep_8 (t_X5_become isX5_34 isX5_24 e3) cw_X6_205 isX5_34.1 rfl rfl rfl rfl rfl ?_
  refine xB_aload_n hF dX6_keep_11 rfl ?_
  refine xB_iconst hF dX6_keep_12 ki_1 ?_
  refine xB_put hF dX6_keep_13 fp_X6_70 sC_0 rfl rfl rfl rfl rfl ?_
  refine xB_gen e (fun h4 e => ?_)
  refine xB_aload_n hF dX6_keep_16 rfl ?_
  refine xB_get hF dX6_keep_17 fl_X6_28 sC_0 rfl rfl ?_
  refine xB_get hF dX6_keep_20 fl_X6_86 isX5_24.1 rfl rfl ?_
  exact xB_ireturn hF dX6_keep_23 e
def f_X6_back (h : xH) : Option (Int32 × xH) :=
    if (h 0 11) = 0 then (some ((-1000000002), h)) else (bn (f_X5_become 24 34 h) fun r1 h2 => some (h2 24 10, h2))
set_option maxRecDepth 20000 in
set_option maxHeartbeats 2000000 in
theorem t_X6_back {l : Launch} {γ : xG} {h : xH} {r : Int32} {hr : xH} (e : f_X6_back h = some (r, hr)) : xCT l γ xSC yX6_back cX6_back 1 (some .int) 2 [.ref (γ.2.2.2 0)] h (some (.int r)) hr := by
  refine xCT.of (own := RX6) (L := [some (.ref (γ.2.2.2 0))]) (by decide) rfl rfl rfl (fun C hF => ?_)
  unfold f_X6_back at e
  refine xB_aload_n hF dX6_back_0 rfl ?_
  refine xB_get hF dX6_back_1 fl_X6_70 sC_0 rfl rfl ?_
  refine xB_if_ne (tgt := 10) hF dX6_back_4 rfl e (fun _ e => ?_) (fun _ e => ?_)
  · refine xB_ldc hF dX6_back_7 kc_X6_156 ?_
    exact xB_ireturn hF dX6_back_9 e
  · refine xB_aload_n hF dX6_back_10 rfl ?_
    refine xB_get hF dX6_back_11 fl_X6_28 sC_0 rfl rfl ?_
    refine xB_aload_n hF dX6_back_14 rfl ?_
    refine xB_get hF dX6_back_15 fl_X6_32 sC_0 rfl rfl ?_
    obtain ⟨r1, h2, e3, e⟩ := bn_of e
    refine xB_callVv hF dX6_back_18 (t_X5_become isX5_24 isX5_34 e3) cw_X6_205 isX5_24.1 rfl rfl rfl rfl rfl ?_
    refine xB_aload_n hF dX6_back_21 rfl ?_
    refine xB_get hF dX6_back_22 fl_X6_28 sC_0 rfl rfl ?_
    refine xB_get hF dX6_back_25 fl_X6_86 isX5_24.1 rfl rfl ?_
    exact xB_ireturn hF dX6_back_28 e
def f_X6_count (a1 : Int32) (h : xH) : Option (Int32 × xH) :=
    if a1 = 0 then (some (h 24 10, h)) else (if a1 = 1 then (some (h 24 14, h)) else (if a1 = 2 then (bn (f_X5_allWear 24 h) fun r1 h2 => some (r1, h2)) else (if a1 = 3 then (bn (f_X5_allValue 24 h) fun r4 h5 => some (r4, h5)) else (if a1 = 4 then (some (h 24 11, h)) else (if a1 = 5 then (some (h 0 10, h)) else (if a1 = 6 then (some (h 21 2, h)) else (if a1 = 7 then (some (h 24 15, h)) else (some ((-1000000001), h)))))))))
set_option maxRecDepth 20000 in
set_option maxHeartbeats 2000000 in
theorem t_X6_count {l : Launch} {γ : xG} {a1 : Int32} {h : xH} {r : Int32} {hr : xH} (e : f_X6_count a1 h = some (r, hr)) : xCT l γ xSC yX6_count cX6_count 2 (some .int) 5 [.ref (γ.2.2.2 0), .int a1] h (some (.int r)) hr := by
  refine xCT.of (own := RX6) (L := [some (.ref (γ.2.2.2 0)), some (.int a1)]) (by decide) rfl rfl rfl (fun C hF => ?_)
  unfold f_X6_count at e
  refine xB_iload_n hF dX6_count_0 rfl ?_
  rcases if_of e with ⟨c0, e⟩ | ⟨c0, e⟩
  · refine xB_tableIn (v := (0)) (tgt := 48) hF dX6_count_1 c0 (by decide) (by decide) rfl rfl ?_
    refine xB_aload_n hF dX6_count_48 rfl ?_
    refine xB_get hF dX6_count_49 fl_X6_28 sC_0 rfl rfl ?_
    refine xB_get hF dX6_count_52 fl_X6_86 isX5_24.1 rfl rfl ?_
    exact xB_ireturn hF dX6_count_55 e
  rcases if_of e with ⟨c1, e⟩ | ⟨c1, e⟩
  · refine xB_tableIn (v := (1)) (tgt := 56) hF dX6_count_1 c1 (by decide) (by decide) rfl rfl ?_
    refine xB_aload_n hF dX6_count_56 rfl ?_
    refine xB_get hF dX6_count_57 fl_X6_28 sC_0 rfl rfl ?_
    refine xB_get hF dX6_count_60 fl_X6_320 isX5_24.1 rfl rfl ?_
    exact xB_ireturn hF dX6_count_63 e
  rcases if_of e with ⟨c2, e⟩ | ⟨c2, e⟩
  · refine xB_tableIn (v := (2)) (tgt := 64) hF dX6_count_1 c2 (by decide) (by decide) rfl rfl ?_
    refine xB_aload_n hF dX6_count_64 rfl ?_
    refine xB_get hF dX6_count_65 fl_X6_28 sC_0 rfl rfl ?_
    obtain ⟨r1, h2, e3, e⟩ := bn_of e
    refine xB_callVi hF dX6_count_68 (t_X5_allWear isX5_24 e3) cw_X6_317 isX5_24.1 rfl rfl rfl rfl rfl ?_
    exact xB_ireturn hF dX6_count_71 e
  rcases if_of e with ⟨c3, e⟩ | ⟨c3, e⟩
  · refine xB_tableIn (v := (3)) (tgt := 72) hF dX6_count_1 c3 (by decide) (by decide) rfl rfl ?_
    refine xB_aload_n hF dX6_count_72 rfl ?_
    refine xB_get hF dX6_count_73 fl_X6_28 sC_0 rfl rfl ?_
    obtain ⟨r4, h5, e6, e⟩ := bn_of e
    refine xB_callVi hF dX6_count_76 (t_X5_allValue isX5_24 e6) cw_X6_212 isX5_24.1 rfl rfl rfl rfl rfl ?_
    exact xB_ireturn hF dX6_count_79 e
  rcases if_of e with ⟨c4, e⟩ | ⟨c4, e⟩
  · refine xB_tableIn (v := (4)) (tgt := 80) hF dX6_count_1 c4 (by decide) (by decide) rfl rfl ?_
    refine xB_aload_n hF dX6_count_80 rfl ?_
    refine xB_get hF dX6_count_81 fl_X6_28 sC_0 rfl rfl ?_
    refine xB_get hF dX6_count_84 fl_X6_259 isX5_24.1 rfl rfl ?_
    exact xB_ireturn hF dX6_count_87 e
  rcases if_of e with ⟨c5, e⟩ | ⟨c5, e⟩
  · refine xB_tableIn (v := (5)) (tgt := 88) hF dX6_count_1 c5 (by decide) (by decide) rfl rfl ?_
    refine xB_aload_n hF dX6_count_88 rfl ?_
    refine xB_get hF dX6_count_89 fl_X6_66 sC_0 rfl rfl ?_
    exact xB_ireturn hF dX6_count_92 e
  rcases if_of e with ⟨c6, e⟩ | ⟨c6, e⟩
  · refine xB_tableIn (v := (6)) (tgt := 93) hF dX6_count_1 c6 (by decide) (by decide) rfl rfl ?_
    refine xB_aload_n hF dX6_count_93 rfl ?_
    refine xB_get hF dX6_count_94 fl_X6_19 sC_0 rfl rfl ?_
    refine xB_get hF dX6_count_97 fl_X6_248 sC_21 rfl rfl ?_
    exact xB_ireturn hF dX6_count_100 e
  rcases if_of e with ⟨c7, e⟩ | ⟨c7, e⟩
  · refine xB_tableIn (v := (7)) (tgt := 101) hF dX6_count_1 c7 (by decide) (by decide) rfl rfl ?_
    refine xB_aload_n hF dX6_count_101 rfl ?_
    refine xB_get hF dX6_count_102 fl_X6_28 sC_0 rfl rfl ?_
    refine xB_get hF dX6_count_105 fl_X6_153 isX5_24.1 rfl rfl ?_
    exact xB_ireturn hF dX6_count_108 e
  refine xB_tableOut (tgt := 109) hF dX6_count_1 (by have := xne (v := (0)) (n := 0) rfl c0; have := xne (v := (1)) (n := 1) rfl c1; have := xne (v := (2)) (n := 2) rfl c2; have := xne (v := (3)) (n := 3) rfl c3; have := xne (v := (4)) (n := 4) rfl c4; have := xne (v := (5)) (n := 5) rfl c5; have := xne (v := (6)) (n := 6) rfl c6; have := xne (v := (7)) (n := 7) rfl c7; omega) rfl ?_
  refine xB_ldc hF dX6_count_109 kc_X6_85 ?_
  exact xB_ireturn hF dX6_count_111 e
