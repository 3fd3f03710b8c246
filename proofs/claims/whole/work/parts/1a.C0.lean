def f_X5_addDay (w : Nat) (a1 : Int32) (a2 : Int32) (a3 : Int32) (a4 : Int32) (h : xH) : Option (Int32 × xH) :=
    if (h w 10) < 10 then (gd (h w 10) 10 <| nm (xst h (w + 1) (Int32.toNatClampNeg (h w 10)) a1) fun h1 => gd (h w 10) 10 <| nm (xst h1 (w + 2) (Int32.toNatClampNeg (h w 10)) a2) fun h2 => gd (h w 10) 10 <| nm (xst h2 (w + 3) (Int32.toNatClampNeg (h w 10)) a3) fun h3 => gd (h w 10) 10 <| nm (xst h3 (w + 4) (Int32.toNatClampNeg (h w 10)) 0) fun h4 => gd (h w 10) 10 <| nm (xst h4 (w + 5) (Int32.toNatClampNeg (h w 10)) a4) fun h5 => gd (h w 10) 10 <| nm (xst h5 (w + 6) (Int32.toNatClampNeg (h w 10)) (1 <<< (a4 &&& 31))) fun h6 => nm (xst h6 w 10 ((h w 10) + 1)) fun h7 => some (h w 10, h7)) else (some ((-1000000003), h))
set_option maxRecDepth 20000 in
set_option maxHeartbeats 2000000 in
theorem t_X5_addDay {l : Launch} {γ : xG} {w : Nat} {a1 : Int32} {a2 : Int32} {a3 : Int32} {a4 : Int32} {h : xH} {r : Int32} {hr : xH} (hw : isX5 w) (e : f_X5_addDay w a1 a2 a3 a4 h = some (r, hr)) : xCT l γ xSC yX5_addDay cX5_addDay 6 (some .int) 0 [.ref (γ.2.2.2 w), .int a1, .int a2, .int a3, .int a4] h (some (.int r)) hr := by
  refine xCT.of (own := RX5) (L := [some (.ref (γ.2.2.2 w)), some (.int a1), some (.int a2), some (.int a3), some (.int a4), none]) (by decide) rfl rfl rfl (fun C hF => ?_)
  unfold f_X5_addDay at e
  refine xB_aload_n hF dX5_addDay_0 rfl ?_
  refine xB_get hF dX5_addDay_1 fl_X5_53 hw.1 rfl rfl ?_
  refine xB_istore (L' := [_, _, _, _, _, _]) hF dX5_addDay_4 rfl rfl rfl ?_
  refine xB_iload hF dX5_addDay_6 rfl ?_
  refine xB_bipush hF dX5_addDay_8 kb_10 ?_
  refine xB_icmp_lt (tgt := 16) hF dX5_addDay_10 rfl e (fun _ e => ?_) (fun _ e => ?_)
  · refine xB_aload_n hF dX5_addDay_16 rfl ?_
    refine xB_get hF dX5_addDay_17 fl_X5_9 hw.1 rfl rfl ?_
    refine xB_iload hF dX5_addDay_20 rfl ?_
    refine xB_iload_n hF dX5_addDay_22 rfl ?_
    refine xB_iast hF dX5_addDay_23 hw.2.1 e (fun e => ?_)
    refine xB_gen e (fun h1 e => ?_)
    refine xB_aload_n hF dX5_addDay_24 rfl ?_
    refine xB_get hF dX5_addDay_25 fl_X5_15 hw.1 rfl rfl ?_
    refine xB_iload hF dX5_addDay_28 rfl ?_
    refine xB_iload_n hF dX5_addDay_30 rfl ?_
    refine xB_iast hF dX5_addDay_31 hw.2.2.1 e (fun e => ?_)
    refine xB_gen e (fun h2 e => ?_)
    refine xB_aload_n hF dX5_addDay_32 rfl ?_
    refine xB_get hF dX5_addDay_33 fl_X5_18 hw.1 rfl rfl ?_
    refine xB_iload hF dX5_addDay_36 rfl ?_
    refine xB_iload_n hF dX5_addDay_38 rfl ?_
    refine xB_iast hF dX5_addDay_39 hw.2.2.2.1 e (fun e => ?_)
    refine xB_gen e (fun h3 e => ?_)
    refine xB_aload_n hF dX5_addDay_40 rfl ?_
    refine xB_get hF dX5_addDay_41 fl_X5_21 hw.1 rfl rfl ?_
    refine xB_iload hF dX5_addDay_44 rfl ?_
    refine xB_iconst hF dX5_addDay_46 ki_0 ?_
    refine xB_iast hF dX5_addDay_47 hw.2.2.2.2.1 e (fun e => ?_)
    refine xB_gen e (fun h4 e => ?_)
    refine xB_aload_n hF dX5_addDay_48 rfl ?_
    refine xB_get hF dX5_addDay_49 fl_X5_24 hw.1 rfl rfl ?_
    refine xB_iload hF dX5_addDay_52 rfl ?_
    refine xB_iload hF dX5_addDay_54 rfl ?_
    refine xB_iast hF dX5_addDay_56 hw.2.2.2.2.2.1 e (fun e => ?_)
    refine xB_gen e (fun h5 e => ?_)
    refine xB_aload_n hF dX5_addDay_57 rfl ?_
    refine xB_get hF dX5_addDay_58 fl_X5_27 hw.1 rfl rfl ?_
    refine xB_iload hF dX5_addDay_61 rfl ?_
    refine xB_iconst hF dX5_addDay_63 ki_1 ?_
    refine xB_iload hF dX5_addDay_64 rfl ?_
    refine xB_ishl hF dX5_addDay_66 ?_
    refine xB_iast hF dX5_addDay_67 hw.2.2.2.2.2.2.1 e (fun e => ?_)
    refine xB_gen e (fun h6 e => ?_)
    refine xB_aload_n hF dX5_addDay_68 rfl ?_
    refine xB_iload hF dX5_addDay_69 rfl ?_
    refine xB_iconst hF dX5_addDay_71 ki_1 ?_
    refine xB_iadd hF dX5_addDay_72 ?_
    refine xB_put hF dX5_addDay_73 fp_X5_53 hw.1 rfl rfl rfl rfl rfl ?_
    refine xB_gen e (fun h7 e => ?_)
    refine xB_iload hF dX5_addDay_76 rfl ?_
    exact xB_ireturn hF dX5_addDay_78 e
  · refine xB_ldc hF dX5_addDay_13 kc_X5_68 ?_
    exact xB_ireturn hF dX5_addDay_15 e
def f_X6_within (a0 : Int32) (a1 : Int32) (a2 : Int32) (h : xH) : Option (Int32 × xH) :=
    if a0 < a1 then (some (0, h)) else (if a2 < a0 then (some (0, h)) else (some (1, h)))
set_option maxRecDepth 20000 in
set_option maxHeartbeats 2000000 in
theorem t_X6_within {l : Launch} {γ : xG} {a0 : Int32} {a1 : Int32} {a2 : Int32} {h : xH} {r : Int32} {hr : xH} (e : f_X6_within a0 a1 a2 h = some (r, hr)) : xCT l γ xSC yX6_within cX6_within 3 (some .boolean) 0 [.int a0, .int a1, .int a2] h (some (.int r)) hr := by
  refine xCT.of (own := RX6) (L := [some (.int a0), some (.int a1), some (.int a2)]) (by decide) rfl rfl rfl (fun C hF => ?_)
  unfold f_X6_within at e
  refine xB_iload_n hF dX6_within_0 rfl ?_
  refine xB_iload_n hF dX6_within_1 rfl ?_
  refine xB_icmp_lt (tgt := 14) hF dX6_within_2 rfl e (fun _ e => ?_) (fun _ e => ?_)
  · refine xB_iconst hF dX6_within_14 ki_0 ?_
    exact xB_zreturn hF dX6_within_15 rfl e
  · refine xB_iload_n hF dX6_within_5 rfl ?_
    refine xB_iload_n hF dX6_within_6 rfl ?_
    refine xB_icmp_gt (tgt := 14) hF dX6_within_7 rfl e (fun _ e => ?_) (fun _ e => ?_)
    · refine xB_iconst hF dX6_within_14 ki_0 ?_
      exact xB_zreturn hF dX6_within_15 rfl e
    · refine xB_iconst hF dX6_within_10 ki_1 ?_
      refine xB_goto (tgt := 15) hF dX6_within_11 rfl ?_
      exact xB_zreturn hF dX6_within_15 rfl e
def f_X6_isKind (a0 : Int32) (h : xH) : Option (Int32 × xH) :=
    bn (f_X6_within a0 0 5 h) fun r1 h2 => gb r1 (some (r1, h2))
set_option maxRecDepth 20000 in
set_option maxHeartbeats 2000000 in
theorem t_X6_isKind {l : Launch} {γ : xG} {a0 : Int32} {h : xH} {r : Int32} {hr : xH} (e : f_X6_isKind a0 h = some (r, hr)) : xCT l γ xSC yX6_isKind cX6_isKind 1 (some .boolean) 1 [.int a0] h (some (.int r)) hr := by
  refine xCT.of (own := RX6) (L := [some (.int a0)]) (by decide) rfl rfl rfl (fun C hF => ?_)
  unfold f_X6_isKind at e
  refine xB_iload_n hF dX6_isKind_0 rfl ?_
  refine xB_iconst hF dX6_isKind_1 ki_0 ?_
  refine xB_iconst hF dX6_isKind_2 ki_5 ?_
  obtain ⟨r1, h2, e3, e⟩ := bn_of e
  refine xB_callSi hF dX6_isKind_3 (t_X6_within e3) cw_X6_78 rfl rfl rfl rfl ?_
  exact xB_breturn hF dX6_isKind_6 e
def f_X6_isOne (a0 : Int32) (h : xH) : Option (Int32 × xH) :=
    bn (f_X6_within a0 0 5 h) fun r1 h2 => gb r1 (some (r1, h2))
set_option maxRecDepth 20000 in
set_option maxHeartbeats 2000000 in
theorem t_X6_isOne {l : Launch} {γ : xG} {a0 : Int32} {h : xH} {r : Int32} {hr : xH} (e : f_X6_isOne a0 h = some (r, hr)) : xCT l γ xSC yX6_isOne cX6_isOne 1 (some .boolean) 1 [.int a0] h (some (.int r)) hr := by
  refine xCT.of (own := RX6) (L := [some (.int a0)]) (by decide) rfl rfl rfl (fun C hF => ?_)
  unfold f_X6_isOne at e
  refine xB_iload_n hF dX6_isOne_0 rfl ?_
  refine xB_iconst hF dX6_isOne_1 ki_0 ?_
  refine xB_iconst hF dX6_isOne_2 ki_5 ?_
  obtain ⟨r1, h2, e3, e⟩ := bn_of e
  refine xB_callSi hF dX6_isOne_3 (t_X6_within e3) cw_X6_78 rfl rfl rfl rfl ?_
  exact xB_breturn hF dX6_isOne_6 e
def f_X6_day (a1 : Int32) (a2 : Int32) (a3 : Int32) (a4 : Int32) (h : xH) : Option (Int32 × xH) :=
    bn (f_X6_isKind a1 h) fun r1 h2 => if r1 = 0 then (some ((-1000000001), h2)) else (bn (f_X6_within a2 0 99 h2) fun r4 h5 => if r4 = 0 then (some ((-1000000001), h5)) else (bn (f_X6_within a3 0 9 h5) fun r7 h8 => if r7 = 0 then (some ((-1000000001), h8)) else (bn (f_X6_isOne a4 h8) fun r10 h11 => if r10 = 0 then (some ((-1000000001), h11)) else (if (h11 24 10) < 10 then (bn (f_X5_addDay 24 a1 a2 a3 a4 h11) fun r13 h14 => some (r13, h14)) else (some ((-1000000003), h11))))))
set_option maxRecDepth 20000 in
set_option maxHeartbeats 2000000 in
theorem t_X6_day {l : Launch} {γ : xG} {a1 : Int32} {a2 : Int32} {a3 : Int32} {a4 : Int32} {h : xH} {r : Int32} {hr : xH} (e : f_X6_day a1 a2 a3 a4 h = some (r, hr)) : xCT l γ xSC yX6_day cX6_day 5 (some .int) 2 [.ref (γ.2.2.2 0), .int a1, .int a2, .int a3, .int a4] h (some (.int r)) hr := by
  refine xCT.of (own := RX6) (L := [some (.ref (γ.2.2.2 0)), some (.int a1), some (.int a2), some (.int a3), some (.int a4)]) (by decide) rfl rfl rfl (fun C hF => ?_)
  unfold f_X6_day at e
  refine xB_iload_n hF dX6_day_0 rfl ?_
  obtain ⟨r1, h2, e3, e⟩ := bn_of e
  refine xB_callSi hF dX6_day_1 (t_X6_isKind e3) cw_X6_74 rfl rfl rfl rfl ?_
  refine xB_if_eq (tgt := 35) hF dX6_day_4 rfl e (fun _ e => ?_) (fun _ e => ?_)
  · refine xB_ldc hF dX6_day_35 kc_X6_85 ?_
    exact xB_ireturn hF dX6_day_37 e
  · refine xB_iload_n hF dX6_day_7 rfl ?_
    refine xB_iconst hF dX6_day_8 ki_0 ?_
    refine xB_bipush hF dX6_day_9 kb_99 ?_
    obtain ⟨r4, h5, e6, e⟩ := bn_of e
    refine xB_callSi hF dX6_day_11 (t_X6_within e6) cw_X6_78 rfl rfl rfl rfl ?_
    refine xB_if_eq (tgt := 35) hF dX6_day_14 rfl e (fun _ e => ?_) (fun _ e => ?_)
    · refine xB_ldc hF dX6_day_35 kc_X6_85 ?_
      exact xB_ireturn hF dX6_day_37 e
    · refine xB_iload_n hF dX6_day_17 rfl ?_
      refine xB_iconst hF dX6_day_18 ki_0 ?_
      refine xB_bipush hF dX6_day_19 kb_9 ?_
      obtain ⟨r7, h8, e9, e⟩ := bn_of e
      refine xB_callSi hF dX6_day_21 (t_X6_within e9) cw_X6_78 rfl rfl rfl rfl ?_
      refine xB_if_eq (tgt := 35) hF dX6_day_24 rfl e (fun _ e => ?_) (fun _ e => ?_)
      · refine xB_ldc hF dX6_day_35 kc_X6_85 ?_
        exact xB_ireturn hF dX6_day_37 e
      · refine xB_iload hF dX6_day_27 rfl ?_
        obtain ⟨r10, h11, e12, e⟩ := bn_of e
        refine xB_callSi hF dX6_day_29 (t_X6_isOne e12) cw_X6_82 rfl rfl rfl rfl ?_
        refine xB_if_ne (tgt := 38) hF dX6_day_32 rfl e (fun _ e => ?_) (fun _ e => ?_)
        · refine xB_ldc hF dX6_day_35 kc_X6_85 ?_
          exact xB_ireturn hF dX6_day_37 e
        · refine xB_aload_n hF dX6_day_38 rfl ?_
          refine xB_get hF dX6_day_39 fl_X6_28 sC_0 rfl rfl ?_
          refine xB_get hF dX6_day_42 fl_X6_86 isX5_24.1 rfl rfl ?_
          refine xB_bipush hF dX6_day_45 kb_10 ?_
          refine xB_icmp_lt (tgt := 53) hF dX6_day_47 rfl e (fun _ e => ?_) (fun _ e => ?_)
          · refine xB_aload_n hF dX6_day_53 rfl ?_
            refine xB_get hF dX6_day_54 fl_X6_28 sC_0 rfl rfl ?_
            refine xB_iload_n hF dX6_day_57 rfl ?_
            refine xB_iload_n hF dX6_day_58 rfl ?_
            refine xB_iload_n hF dX6_day_59 rfl ?_
            refine xB_iload hF dX6_day_60 rfl ?_
            obtain ⟨r13, h14, e15, e⟩ := bn_of e
            refine xB_callVi hF dX6_day_62 (t_X5_addDay isX5_24 e15) cw_X6_90 isX5_24.1 rfl rfl rfl rfl rfl ?_
            exact xB_ireturn hF dX6_day_65 e
          · refine xB_ldc hF dX6_day_50 kc_X6_89 ?_
            exact xB_ireturn hF dX6_day_52 e
def f_X0_join_c187 (a0 : Int32) (a1 : Int32) (a2 : Int32) (h : xH) : Option (Int32 × xH) :=
    if a1 = 0 then (if a2 = 0 then (some (0, h)) else (some (1, h))) else (some (1, h))
set_option maxRecDepth 20000 in
set_option maxHeartbeats 2000000 in
theorem t_X0_join_c187 {l : Launch} {γ : xG} {a0 : Int32} {a1 : Int32} {a2 : Int32} {r : Int32} {hr : xH} {C : xCx} (hF : xF C cX0_join RX0 3 0 γ xSC (some (.int r)) hr l (some .int)) : ∀ (h : xH), f_X0_join_c187 a0 a1 a2 h = some (r, hr) → xB C h 187 [some (.int a0), some (.int a1), some (.int a2)] [] := by
  intro h e
  unfold f_X0_join_c187 at e
  refine xB_iload_n hF dX0_join_187 rfl ?_
  refine xB_if_ne (tgt := 195) hF dX0_join_188 rfl e (fun _ e => ?_) (fun _ e => ?_)
  · refine xB_iload_n hF dX0_join_191 rfl ?_
    refine xB_if_eq (tgt := 199) hF dX0_join_192 rfl e (fun _ e => ?_) (fun _ e => ?_)
    · refine xB_iconst hF dX0_join_199 ki_0 ?_
      exact xB_ireturn hF dX0_join_200 e
    · refine xB_iconst hF dX0_join_195 ki_1 ?_
      refine xB_goto (tgt := 200) hF dX0_join_196 rfl ?_
      exact xB_ireturn hF dX0_join_200 e
  · refine xB_iconst hF dX0_join_195 ki_1 ?_
    refine xB_goto (tgt := 200) hF dX0_join_196 rfl ?_
    exact xB_ireturn hF dX0_join_200 e
def f_X0_join (a0 : Int32) (a1 : Int32) (a2 : Int32) (h : xH) : Option (Int32 × xH) :=
    if a0 = 38 then (if a1 = 0 then (some (0, h)) else (if a2 = 0 then (some (0, h)) else (some (1, h)))) else (if a0 = 42 then (some (a1 * a2, h)) else (if a0 = 43 then (some (a1 + a2, h)) else (if a0 = 45 then (some (a1 - a2, h)) else (if a0 = 47 then (if a2 = 0 then (some (0, h)) else (gz a2 <| some (a1 / a2, h))) else (if a0 = 60 then (if a2 ≤ a1 then (some (0, h)) else (some (1, h))) else (if a0 = 61 then (if a1 = a2 then (some (1, h)) else (some (0, h))) else (if a0 = 62 then (if a1 ≤ a2 then (some (0, h)) else (some (1, h))) else (f_X0_join_c187 a0 a1 a2 h))))))))
set_option maxRecDepth 20000 in
set_option maxHeartbeats 2000000 in
theorem t_X0_join {l : Launch} {γ : xG} {a0 : Int32} {a1 : Int32} {a2 : Int32} {h : xH} {r : Int32} {hr : xH} (e : f_X0_join a0 a1 a2 h = some (r, hr)) : xCT l γ xSC yX0_join cX0_join 3 (some .int) 0 [.int a0, .int a1, .int a2] h (some (.int r)) hr := by
  refine xCT.of (own := RX0) (L := [some (.int a0), some (.int a1), some (.int a2)]) (by decide) rfl rfl rfl (fun C hF => ?_)
  unfold f_X0_join at e
  refine xB_iload_n hF dX0_join_0 rfl ?_
  rcases if_of e with ⟨c0, e⟩ | ⟨c0, e⟩
  · refine xB_tableIn (v := (38)) (tgt := 173) hF dX0_join_1 c0 (by decide) (by decide) rfl rfl ?_
    refine xB_iload_n hF dX0_join_173 rfl ?_
    refine xB_if_eq (tgt := 185) hF dX0_join_174 rfl e (fun _ e => ?_) (fun _ e => ?_)
    · refine xB_iconst hF dX0_join_185 ki_0 ?_
      exact xB_ireturn hF dX0_join_186 e
    · refine xB_iload_n hF dX0_join_177 rfl ?_
      refine xB_if_eq (tgt := 185) hF dX0_join_178 rfl e (fun _ e => ?_) (fun _ e => ?_)
      · refine xB_iconst hF dX0_join_185 ki_0 ?_
        exact xB_ireturn hF dX0_join_186 e
      · refine xB_iconst hF dX0_join_181 ki_1 ?_
        refine xB_goto (tgt := 186) hF dX0_join_182 rfl ?_
        exact xB_ireturn hF dX0_join_186 e
  rcases if_of e with ⟨c1, e⟩ | ⟨c1, e⟩
  · refine xB_tableIn (v := (42)) (tgt := 124) hF dX0_join_1 c1 (by decide) (by decide) rfl rfl ?_
    refine xB_iload_n hF dX0_join_124 rfl ?_
    refine xB_iload_n hF dX0_join_125 rfl ?_
    refine xB_imul hF dX0_join_126 ?_
    exact xB_ireturn hF dX0_join_127 e
  rcases if_of e with ⟨c2, e⟩ | ⟨c2, e⟩
  · refine xB_tableIn (v := (43)) (tgt := 116) hF dX0_join_1 c2 (by decide) (by decide) rfl rfl ?_
    refine xB_iload_n hF dX0_join_116 rfl ?_
    refine xB_iload_n hF dX0_join_117 rfl ?_
    refine xB_iadd hF dX0_join_118 ?_
    exact xB_ireturn hF dX0_join_119 e
  rcases if_of e with ⟨c3, e⟩ | ⟨c3, e⟩
  · refine xB_tableIn (v := (45)) (tgt := 120) hF dX0_join_1 c3 (by decide) (by decide) rfl rfl ?_
    refine xB_iload_n hF dX0_join_120 rfl ?_
    refine xB_iload_n hF dX0_join_121 rfl ?_
    refine xB_isub hF dX0_join_122 ?_
    exact xB_ireturn hF dX0_join_123 e
  rcases if_of e with ⟨c4, e⟩ | ⟨c4, e⟩
  · refine xB_tableIn (v := (47)) (tgt := 128) hF dX0_join_1 c4 (by decide) (by decide) rfl rfl ?_
    refine xB_iload_n hF dX0_join_128 rfl ?_
    refine xB_if_ne (tgt := 136) hF dX0_join_129 rfl e (fun _ e => ?_) (fun _ e => ?_)
    · refine xB_iconst hF dX0_join_132 ki_0 ?_
      refine xB_goto (tgt := 139) hF dX0_join_133 rfl ?_
      exact xB_ireturn hF dX0_join_139 e
    · refine xB_iload_n hF dX0_join_136 rfl ?_
      refine xB_iload_n hF dX0_join_137 rfl ?_
      refine xB_idiv hF dX0_join_138 e (fun e => ?_)
      exact xB_ireturn hF dX0_join_139 e
  rcases if_of e with ⟨c5, e⟩ | ⟨c5, e⟩
  · refine xB_tableIn (v := (60)) (tgt := 140) hF dX0_join_1 c5 (by decide) (by decide) rfl rfl ?_
    refine xB_iload_n hF dX0_join_140 rfl ?_
    refine xB_iload_n hF dX0_join_141 rfl ?_
    refine xB_icmp_ge (tgt := 149) hF dX0_join_142 rfl e (fun _ e => ?_) (fun _ e => ?_)
    · refine xB_iconst hF dX0_join_149 ki_0 ?_
      exact xB_ireturn hF dX0_join_150 e
    · refine xB_iconst hF dX0_join_145 ki_1 ?_
      refine xB_goto (tgt := 150) hF dX0_join_146 rfl ?_
      exact xB_ireturn hF dX0_join_150 e
  rcases if_of e with ⟨c6, e⟩ | ⟨c6, e⟩
  · refine xB_tableIn (v := (61)) (tgt := 151) hF dX0_join_1 c6 (by decide) (by decide) rfl rfl ?_
    refine xB_iload_n hF dX0_join_151 rfl ?_
    refine xB_iload_n hF dX0_join_152 rfl ?_
    refine xB_icmp_ne (tgt := 160) hF dX0_join_153 rfl e (fun _ e => ?_) (fun _ e => ?_)
    · refine xB_iconst hF dX0_join_156 ki_1 ?_
      refine xB_goto (tgt := 161) hF dX0_join_157 rfl ?_
      exact xB_ireturn hF dX0_join_161 e
    · refine xB_iconst hF dX0_join_160 ki_0 ?_
      exact xB_ireturn hF dX0_join_161 e
  rcases if_of e with ⟨c7, e⟩ | ⟨c7, e⟩
  · refine xB_tableIn (v := (62)) (tgt := 162) hF dX0_join_1 c7 (by decide) (by decide) rfl rfl ?_
    refine xB_iload_n hF dX0_join_162 rfl ?_
    refine xB_iload_n hF dX0_join_163 rfl ?_
    refine xB_icmp_le (tgt := 171) hF dX0_join_164 rfl e (fun _ e => ?_) (fun _ e => ?_)
    · refine xB_iconst hF dX0_join_171 ki_0 ?_
      exact xB_ireturn hF dX0_join_172 e
    · refine xB_iconst hF dX0_join_167 ki_1 ?_
      refine xB_goto (tgt := 172) hF dX0_join_168 rfl ?_
      exact xB_ireturn hF dX0_join_172 e
  refine xB_tableD (tgt := 187) hF dX0_join_1 [0, 4, 5, 7, 9, 22, 23, 24] (by decide +kernel) (by decide) (by have := xne (v := (38)) (n := 38) rfl c0; have := xne (v := (42)) (n := 42) rfl c1; have := xne (v := (43)) (n := 43) rfl c2; have := xne (v := (45)) (n := 45) rfl c3; have := xne (v := (47)) (n := 47) rfl c4; have := xne (v := (60)) (n := 60) rfl c5; have := xne (v := (61)) (n := 61) rfl c6; have := xne (v := (62)) (n := 62) rfl c7; simp only [List.forall_mem_cons, List.not_mem_nil, false_implies, implies_true, and_true]; omega) rfl ?_
  exact xB_l (t_X0_join_c187 hF _ e) (And.intro rfl (And.intro rfl (And.intro rfl (True.intro))))
def f_X0_leaf (a0 : Int32) (a1 : Int32) (a2 : Int32) (a3 : Int32) (h : xH) : Option (Int32 × xH) :=
    if a0 = (-3) then (some (a3, h)) else (if a0 = (-2) then (some (a2, h)) else (if a0 = (-1) then (some (a1, h)) else (some (a0, h))))
set_option maxRecDepth 20000 in
set_option maxHeartbeats 2000000 in
theorem t_X0_leaf {l : Launch} {γ : xG} {a0 : Int32} {a1 : Int32} {a2 : Int32} {a3 : Int32} {h : xH} {r : Int32} {hr : xH} (e : f_X0_leaf a0 a1 a2 a3 h = some (r, hr)) : xCT l γ xSC yX0_leaf cX0_leaf 4 (some .int) 0 [.int a0, .int a1, .int a2, .int a3] h (some (.int r)) hr := by
  refine xCT.of (own := RX0) (L := [some (.int a0), some (.int a1), some (.int a2), some (.int a3)]) (by decide) rfl rfl rfl (fun C hF => ?_)
  unfold f_X0_leaf at e
  refine xB_iload_n hF dX0_leaf_0 rfl ?_
  rcases if_of e with ⟨c0, e⟩ | ⟨c0, e⟩
  · refine xB_tableIn (v := (-3)) (tgt := 32) hF dX0_leaf_1 c0 (by decide) (by decide) rfl rfl ?_
    refine xB_iload_n hF dX0_leaf_32 rfl ?_
    exact xB_ireturn hF dX0_leaf_33 e
  rcases if_of e with ⟨c1, e⟩ | ⟨c1, e⟩
  · refine xB_tableIn (v := (-2)) (tgt := 30) hF dX0_leaf_1 c1 (by decide) (by decide) rfl rfl ?_
    refine xB_iload_n hF dX0_leaf_30 rfl ?_
    exact xB_ireturn hF dX0_leaf_31 e
  rcases if_of e with ⟨c2, e⟩ | ⟨c2, e⟩
  · refine xB_tableIn (v := (-1)) (tgt := 28) hF dX0_leaf_1 c2 (by decide) (by decide) rfl rfl ?_
    refine xB_iload_n hF dX0_leaf_28 rfl ?_
    exact xB_ireturn hF dX0_leaf_29 e
  refine xB_tableOut (tgt := 34) hF dX0_leaf_1 (by have := xne (v := (-3)) (n := -3) rfl c0; have := xne (v := (-2)) (n := -2) rfl c1; have := xne (v := (-1)) (n := -1) rfl c2; omega) rfl ?_
  refine xB_iload_n hF dX0_leaf_34 rfl ?_
  exact xB_ireturn hF dX0_leaf_35 e
def f_X0_workOut_c150 (k14 : Nat → Int32 → Int32 → xH → Option (Int32 × xH)) (a1 : Int32) (a2 : Int32) (a3 : Int32) (a4 : Int32) (v5 : Nat) (v6 : Int32) (v7 : Int32) (h : xH) : Option (Int32 × xH) :=
    k14 v5 v6 (v7 + 1) h
set_option maxRecDepth 20000 in
set_option maxHeartbeats 2000000 in
theorem t_X0_workOut_c150 {l : Launch} {γ : xG} {k14 : Nat → Int32 → Int32 → xH → Option (Int32 × xH)} {a1 : Int32} {a2 : Int32} {a3 : Int32} {a4 : Int32} {r : Int32} {hr : xH} {C : xCx} (hF : xF C cX0_workOut RX0 9 1 γ xSC (some (.int r)) hr l (some .int)) (hk14 : ∀ (v5 : Nat) (v6 : Int32) (v7 : Int32) (hv5 : xSC[v5]? = some (shA 96)) (h : xH), k14 v5 v6 v7 h = some (r, hr) → xB C h 14 [some (.ref (γ.2.2.2 1)), some (.int a1), some (.int a2), some (.int a3), some (.int a4), some (.ref (γ.2.2.2 v5)), some (.int v6), some (.int v7), none] []) : ∀ (v5 : Nat) (v6 : Int32) (v7 : Int32) (hv5 : xSC[v5]? = some (shA 96)) (h : xH), f_X0_workOut_c150 k14 a1 a2 a3 a4 v5 v6 v7 h = some (r, hr) → xB C h 150 [some (.ref (γ.2.2.2 1)), some (.int a1), some (.int a2), some (.int a3), some (.int a4), some (.ref (γ.2.2.2 v5)), some (.int v6), some (.int v7), none] [] := by
  intro v5 v6 v7 hv5 h e
  unfold f_X0_workOut_c150 at e
  refine xB_iinc (L' := [_, _, _, _, _, _, _, _, _]) hF dX0_workOut_150 rfl ki_1 rfl rfl rfl ?_
  refine xB_goto (tgt := 14) hF dX0_workOut_153 rfl ?_
  exact xB_l (hk14 _ _ _ hv5 _ e) (And.intro rfl (And.intro rfl (And.intro rfl (And.intro rfl (And.intro rfl (And.intro rfl (And.intro rfl (And.intro rfl (True.intro)))))))))
def f_X0_workOut_c106 (k14 : Nat → Int32 → Int32 → xH → Option (Int32 × xH)) (a1 : Int32) (a2 : Int32) (a3 : Int32) (a4 : Int32) (v5 : Nat) (v6 : Int32) (v7 : Int32) (s0 : Int32) (s1 : Int32) (h : xH) : Option (Int32 × xH) :=
    gd s1 96 <| nm (xst h 20 (Int32.toNatClampNeg s1) s0) fun h1 => f_X0_workOut_c150 k14 a1 a2 a3 a4 v5 v6 v7 h1
set_option maxRecDepth 20000 in
set_option maxHeartbeats 2000000 in
theorem t_X0_workOut_c106 {l : Launch} {γ : xG} {k14 : Nat → Int32 → Int32 → xH → Option (Int32 × xH)} {a1 : Int32} {a2 : Int32} {a3 : Int32} {a4 : Int32} {r : Int32} {hr : xH} {C : xCx} (hF : xF C cX0_workOut RX0 9 1 γ xSC (some (.int r)) hr l (some .int)) (hk14 : ∀ (v5 : Nat) (v6 : Int32) (v7 : Int32) (hv5 : xSC[v5]? = some (shA 96)) (h : xH), k14 v5 v6 v7 h = some (r, hr) → xB C h 14 [some (.ref (γ.2.2.2 1)), some (.int a1), some (.int a2), some (.int a3), some (.int a4), some (.ref (γ.2.2.2 v5)), some (.int v6), some (.int v7), none] []) : ∀ (v5 : Nat) (v6 : Int32) (v7 : Int32) (s0 : Int32) (s1 : Int32) (hv5 : xSC[v5]? = some (shA 96)) (h : xH), f_X0_workOut_c106 k14 a1 a2 a3 a4 v5 v6 v7 s0 s1 h = some (r, hr) → xB C h 106 [some (.ref (γ.2.2.2 1)), some (.int a1), some (.int a2), some (.int a3), some (.int a4), some (.ref (γ.2.2.2 v5)), some (.int v6), some (.int v7), none] [.int s0, .int s1, .ref (γ.2.2.2 20)] := by
  intro v5 v6 v7 s0 s1 hv5 h e
  unfold f_X0_workOut_c106 at e
  refine xB_iast hF dX0_workOut_106 sC_20 e (fun e => ?_)
  refine xB_gen e (fun h1 e => ?_)
  refine xB_goto (tgt := 150) hF dX0_workOut_107 rfl ?_
  exact xB_l (t_X0_workOut_c150 hF hk14 _ _ _ hv5 _ e) (And.intro rfl (And.intro rfl (And.intro rfl (And.intro rfl (And.intro rfl (And.intro rfl (And.intro rfl (And.intro rfl (True.intro)))))))))
def f_X0_workOut_c14 (a1 : Int32) (a2 : Int32) (a3 : Int32) (a4 : Int32) : Nat → Nat → Int32 → Int32 → xH → Option (Int32 × xH)
  | 0, _, _, _, _ => none
  | n + 1, v5, v6, v7, h =>
    gd a1 14 <| if (h 4 (Int32.toNatClampNeg a1)) ≤ v7 then (gd 0 96 <| some (h 20 (Int32.toNatClampNeg 0), h)) else (gd v7 96 <| nm (h v5 (Int32.toNatClampNeg v7)) fun x1 => if x1 < (-3) then (if x1 = (-33) then (if v6 < 1 then (f_X0_workOut_c150 (f_X0_workOut_c14 a1 a2 a3 a4 n) a1 a2 a3 a4 v5 v6 v7 h) else (gd (v6 - 1) 96 <| if (h 20 (Int32.toNatClampNeg (v6 - 1))) = 0 then (f_X0_workOut_c106 (f_X0_workOut_c14 a1 a2 a3 a4 n) a1 a2 a3 a4 v5 v6 v7 1 (v6 - 1) h) else (f_X0_workOut_c106 (f_X0_workOut_c14 a1 a2 a3 a4 n) a1 a2 a3 a4 v5 v6 v7 0 (v6 - 1) h))) else (if v6 < 2 then (f_X0_workOut_c150 (f_X0_workOut_c14 a1 a2 a3 a4 n) a1 a2 a3 a4 v5 v6 v7 h) else (gd ((v6 + (-1)) - 1) 96 <| gd (v6 + (-1)) 96 <| bn (f_X0_join (-x1) (h 20 (Int32.toNatClampNeg ((v6 + (-1)) - 1))) (h 20 (Int32.toNatClampNeg (v6 + (-1)))) h) fun r2 h3 => gd ((v6 + (-1)) - 1) 96 <| nm (xst h3 20 (Int32.toNatClampNeg ((v6 + (-1)) - 1)) r2) fun h5 => f_X0_workOut_c150 (f_X0_workOut_c14 a1 a2 a3 a4 n) a1 a2 a3 a4 v5 (v6 + (-1)) v7 h5))) else (if 96 ≤ v6 then (f_X0_workOut_c150 (f_X0_workOut_c14 a1 a2 a3 a4 n) a1 a2 a3 a4 v5 v6 v7 h) else (bn (f_X0_leaf x1 a2 a3 a4 h) fun r6 h7 => gd v6 96 <| nm (xst h7 20 (Int32.toNatClampNeg v6) r6) fun h9 => f_X0_workOut_c150 (f_X0_workOut_c14 a1 a2 a3 a4 n) a1 a2 a3 a4 v5 (v6 + 1) v7 h9)))
set_option maxRecDepth 20000 in
set_option maxHeartbeats 2000000 in
theorem t_X0_workOut_c14 {l : Launch} {γ : xG} {a1 : Int32} {a2 : Int32} {a3 : Int32} {a4 : Int32} {r : Int32} {hr : xH} {C : xCx} (hF : xF C cX0_workOut RX0 9 1 γ xSC (some (.int r)) hr l (some .int)) : ∀ (n : Nat) (v5 : Nat) (v6 : Int32) (v7 : Int32) (hv5 : xSC[v5]? = some (shA 96)) (h : xH), f_X0_workOut_c14 a1 a2 a3 a4 n v5 v6 v7 h = some (r, hr) → xB C h 14 [some (.ref (γ.2.2.2 1)), some (.int a1), some (.int a2), some (.int a3), some (.int a4), some (.ref (γ.2.2.2 v5)), some (.int v6), some (.int v7), none] [] := by
  intro n
  induction n with
  | zero => intro v5 v6 v7 hv5 h e; cases e
  | succ n ih =>
    intro v5 v6 v7 hv5 h e
    rw [f_X0_workOut_c14] at e
    refine xB_iload hF dX0_workOut_14 rfl ?_
    refine xB_aload_n hF dX0_workOut_16 rfl ?_
    refine xB_get hF dX0_workOut_17 fl_X0_18 sC_1 rfl rfl ?_
    refine xB_iload_n hF dX0_workOut_20 rfl ?_
    refine xB_iald hF dX0_workOut_21 sC_4 e (fun e => ?_)
    refine xB_icmp_ge (tgt := 156) hF dX0_workOut_22 rfl e (fun _ e => ?_) (fun _ e => ?_)
    · refine xB_aload_n hF dX0_workOut_156 rfl ?_
      refine xB_get hF dX0_workOut_157 fl_X0_26 sC_1 rfl rfl ?_
      refine xB_iconst hF dX0_workOut_160 ki_0 ?_
      refine xB_iald hF dX0_workOut_161 sC_20 e (fun e => ?_)
      exact xB_ireturn hF dX0_workOut_162 e
    · refine xB_aload hF dX0_workOut_25 rfl ?_
      refine xB_iload hF dX0_workOut_27 rfl ?_
      refine xB_iald hF dX0_workOut_29 hv5 e (fun e => ?_)
      refine xB_istore (L' := [_, _, _, _, _, _, _, _, _]) hF dX0_workOut_30 rfl rfl rfl ?_
      replace e := nm_of e
      refine xB_iload hF dX0_workOut_32 rfl ?_
      refine xB_bipush hF dX0_workOut_34 kb_m3 ?_
      refine xB_icmp_lt (tgt := 68) hF dX0_workOut_36 rfl e (fun _ e => ?_) (fun _ e => ?_)
      · refine xB_iload hF dX0_workOut_68 rfl ?_
        refine xB_bipush hF dX0_workOut_70 kb_m33 ?_
        refine xB_icmp_ne (tgt := 110) hF dX0_workOut_72 rfl e (fun _ e => ?_) (fun _ e => ?_)
        · refine xB_iload hF dX0_workOut_75 rfl ?_
          refine xB_iconst hF dX0_workOut_77 ki_1 ?_
          refine xB_icmp_lt (tgt := 150) hF dX0_workOut_78 rfl e (fun _ e => ?_) (fun _ e => ?_)
          · exact xB_l (t_X0_workOut_c150 hF ih _ _ _ hv5 _ e) (And.intro rfl (And.intro rfl (And.intro rfl (And.intro rfl (And.intro rfl (And.intro rfl (And.intro rfl (And.intro rfl (True.intro)))))))))
          · refine xB_aload_n hF dX0_workOut_81 rfl ?_
            refine xB_get hF dX0_workOut_82 fl_X0_26 sC_1 rfl rfl ?_
            refine xB_iload hF dX0_workOut_85 rfl ?_
            refine xB_iconst hF dX0_workOut_87 ki_1 ?_
            refine xB_isub hF dX0_workOut_88 ?_
            refine xB_aload_n hF dX0_workOut_89 rfl ?_
            refine xB_get hF dX0_workOut_90 fl_X0_26 sC_1 rfl rfl ?_
            refine xB_iload hF dX0_workOut_93 rfl ?_
            refine xB_iconst hF dX0_workOut_95 ki_1 ?_
            refine xB_isub hF dX0_workOut_96 ?_
            refine xB_iald hF dX0_workOut_97 sC_20 e (fun e => ?_)
            refine xB_if_ne (tgt := 105) hF dX0_workOut_98 rfl e (fun _ e => ?_) (fun _ e => ?_)
            · refine xB_iconst hF dX0_workOut_101 ki_1 ?_
              refine xB_goto (tgt := 106) hF dX0_workOut_102 rfl ?_
              exact xB_l (t_X0_workOut_c106 hF ih _ _ _ _ _ hv5 _ e) (And.intro rfl (And.intro rfl (And.intro rfl (And.intro rfl (And.intro rfl (And.intro rfl (And.intro rfl (And.intro rfl (True.intro)))))))))
            · refine xB_iconst hF dX0_workOut_105 ki_0 ?_
              exact xB_l (t_X0_workOut_c106 hF ih _ _ _ _ _ hv5 _ e) (And.intro rfl (And.intro rfl (And.intro rfl (And.intro rfl (And.intro rfl (And.intro rfl (And.intro rfl (And.intro rfl (True.intro)))))))))
        · refine xB_iload hF dX0_workOut_110 rfl ?_
          refine xB_iconst hF dX0_workOut_112 ki_2 ?_
          refine xB_icmp_lt (tgt := 150) hF dX0_workOut_113 rfl e (fun _ e => ?_) (fun _ e => ?_)
          · exact xB_l (t_X0_workOut_c150 hF ih _ _ _ hv5 _ e) (And.intro rfl (And.intro rfl (And.intro rfl (And.intro rfl (And.intro rfl (And.intro rfl (And.intro rfl (And.intro rfl (True.intro)))))))))
          · refine xB_iinc (L' := [_, _, _, _, _, _, _, _, _]) hF dX0_workOut_116 rfl ki_m1 rfl rfl rfl ?_
            refine xB_aload_n hF dX0_workOut_119 rfl ?_
            refine xB_get hF dX0_workOut_120 fl_X0_26 sC_1 rfl rfl ?_
            refine xB_iload hF dX0_workOut_123 rfl ?_
            refine xB_iconst hF dX0_workOut_125 ki_1 ?_
            refine xB_isub hF dX0_workOut_126 ?_
            refine xB_iload hF dX0_workOut_127 rfl ?_
            refine xB_ineg hF dX0_workOut_129 ?_
            refine xB_aload_n hF dX0_workOut_130 rfl ?_
            refine xB_get hF dX0_workOut_131 fl_X0_26 sC_1 rfl rfl ?_
            refine xB_iload hF dX0_workOut_134 rfl ?_
            refine xB_iconst hF dX0_workOut_136 ki_1 ?_
            refine xB_isub hF dX0_workOut_137 ?_
            refine xB_iald hF dX0_workOut_138 sC_20 e (fun e => ?_)
            refine xB_aload_n hF dX0_workOut_139 rfl ?_
            refine xB_get hF dX0_workOut_140 fl_X0_26 sC_1 rfl rfl ?_
            refine xB_iload hF dX0_workOut_143 rfl ?_
            refine xB_iald hF dX0_workOut_145 sC_20 e (fun e => ?_)
            obtain ⟨r2, h3, e4, e⟩ := bn_of e
            refine xB_callSi hF dX0_workOut_146 (t_X0_join e4) cw_X0_51 rfl rfl rfl rfl ?_
            refine xB_iast hF dX0_workOut_149 sC_20 e (fun e => ?_)
            refine xB_gen e (fun h5 e => ?_)
            exact xB_l (t_X0_workOut_c150 hF ih _ _ _ hv5 _ e) (And.intro rfl (And.intro rfl (And.intro rfl (And.intro rfl (And.intro rfl (And.intro rfl (And.intro rfl (And.intro rfl (True.intro)))))))))
      · refine xB_iload hF dX0_workOut_39 rfl ?_
        refine xB_bipush hF dX0_workOut_41 kb_96 ?_
        refine xB_icmp_ge (tgt := 150) hF dX0_workOut_43 rfl e (fun _ e => ?_) (fun _ e => ?_)
        · exact xB_l (t_X0_workOut_c150 hF ih _ _ _ hv5 _ e) (And.intro rfl (And.intro rfl (And.intro rfl (And.intro rfl (And.intro rfl (And.intro rfl (And.intro rfl (And.intro rfl (True.intro)))))))))
        · refine xB_aload_n hF dX0_workOut_46 rfl ?_
          refine xB_get hF dX0_workOut_47 fl_X0_26 sC_1 rfl rfl ?_
          refine xB_iload hF dX0_workOut_50 rfl ?_
          refine xB_iload hF dX0_workOut_52 rfl ?_
          refine xB_iload_n hF dX0_workOut_54 rfl ?_
          refine xB_iload_n hF dX0_workOut_55 rfl ?_
          refine xB_iload hF dX0_workOut_56 rfl ?_
          obtain ⟨r6, h7, e8, e⟩ := bn_of e
          refine xB_callSi hF dX0_workOut_58 (t_X0_leaf e8) cw_X0_47 rfl rfl rfl rfl ?_
          refine xB_iast hF dX0_workOut_61 sC_20 e (fun e => ?_)
          refine xB_gen e (fun h9 e => ?_)
          refine xB_iinc (L' := [_, _, _, _, _, _, _, _, _]) hF dX0_workOut_62 rfl ki_1 rfl rfl rfl ?_
          refine xB_goto (tgt := 150) hF dX0_workOut_65 rfl ?_
          exact xB_l (t_X0_workOut_c150 hF ih _ _ _ hv5 _ e) (And.intro rfl (And.intro rfl (And.intro rfl (And.intro rfl (And.intro rfl (And.intro rfl (And.intro rfl (And.intro rfl (True.intro)))))))))
def f_X0_workOut (a1 : Int32) (a2 : Int32) (a3 : Int32) (a4 : Int32) (h : xH) : Option (Int32 × xH) :=
    gd a1 14 <| f_X0_workOut_c14 a1 a2 a3 a4 xN (6 + (Int32.toNatClampNeg a1)) 0 0 h
set_option maxRecDepth 20000 in
set_option maxHeartbeats 2000000 in
theorem t_X0_workOut {l : Launch} {γ : xG} {a1 : Int32} {a2 : Int32} {a3 : Int32} {a4 : Int32} {h : xH} {r : Int32} {hr : xH} (e : f_X0_workOut a1 a2 a3 a4 h = some (r, hr)) : xCT l γ xSC yX0_workOut cX0_workOut 9 (some .int) 1 [.ref (γ.2.2.2 1), .int a1, .int a2, .int a3, .int a4] h (some (.int r)) hr := by
  refine xCT.of (own := RX0) (L := [some (.ref (γ.2.2.2 1)), some (.int a1), some (.int a2), some (.int a3), some (.int a4), none, none, none, none]) (by decide) rfl rfl rfl (fun C hF => ?_)
  unfold f_X0_workOut at e
  refine xB_aload_n hF dX0_workOut_0 rfl ?_
  refine xB_get hF dX0_workOut_1 fl_X0_23 sC_1 rfl rfl ?_
  refine xB_iload_n hF dX0_workOut_4 rfl ?_
  refine xB_aald hF dX0_workOut_5 sC_5 rfl rfl e (fun q1 e => ?_)
  refine xB_astore (L' := [_, _, _, _, _, _, _, _, _]) hF dX0_workOut_6 rfl rfl rfl ?_
  refine xB_iconst hF dX0_workOut_8 ki_0 ?_
  refine xB_istore (L' := [_, _, _, _, _, _, _, _, _]) hF dX0_workOut_9 rfl rfl rfl ?_
  refine xB_iconst hF dX0_workOut_11 ki_0 ?_
  refine xB_istore (L' := [_, _, _, _, _, _, _, _, _]) hF dX0_workOut_12 rfl rfl rfl ?_
  exact xB_l (t_X0_workOut_c14 hF _ _ _ _ (sC_step q1) _ e) (And.intro rfl (And.intro rfl (And.intro rfl (And.intro rfl (And.intro rfl (And.intro rfl (And.intro rfl (And.intro rfl (True.intro)))))))))
def f_X6_held (a0 : Int32) (a1 : Int32) (a2 : Int32) (h : xH) : Option (Int32 × xH) :=
    nm (if a0 < a2 then a0 else a2) fun x1 => nm (if a1 < x1 then x1 else a1) fun x2 => some (x2, h)
set_option maxRecDepth 20000 in
set_option maxHeartbeats 2000000 in
theorem t_X6_held {l : Launch} {γ : xG} {a0 : Int32} {a1 : Int32} {a2 : Int32} {h : xH} {r : Int32} {hr : xH} (e : f_X6_held a0 a1 a2 h = some (r, hr)) : xCT l γ xSC yX6_held cX6_held 3 (some .int) 1 [.int a0, .int a1, .int a2] h (some (.int r)) hr := by
  refine xCT.of (own := RX6) (L := [some (.int a0), some (.int a1), some (.int a2)]) (by decide) rfl rfl rfl (fun C hF => ?_)
  unfold f_X6_held at e
  refine xB_iload_n hF dX6_held_0 rfl ?_
  refine xB_iload_n hF dX6_held_1 rfl ?_
  refine xB_iload_n hF dX6_held_2 rfl ?_
  refine xB_mmin hF dX6_held_3 ml_X6_145 mw_min rfl rfl ?_
  replace e := nm_of e
  refine xB_mmax hF dX6_held_6 ml_X6_323 mw_max rfl rfl ?_
  replace e := nm_of e
  exact xB_ireturn hF dX6_held_9 e
def f_X5_priceOf (w : Nat) (a1 : Int32) (a2 : Int32) (h : xH) : Option (Int32 × xH) :=
    gd 0 3 <| nm (h (w + 9) (Int32.toNatClampNeg 0)) fun x1 => if 0 ≤ x1 then (gd a1 10 <| gd a1 10 <| bn (f_X0_workOut x1 a2 (h (w + 4) (Int32.toNatClampNeg a1)) (h (w + 2) (Int32.toNatClampNeg a1)) h) fun r2 h3 => bn (f_X6_held r2 0 999 h3) fun r5 h6 => some (r5, h6)) else (gd a1 10 <| nm (if 0 < ((10 * a2) - (h (w + 4) (Int32.toNatClampNeg a1))) then ((10 * a2) - (h (w + 4) (Int32.toNatClampNeg a1))) else 0) fun x8 => some (x8, h))
set_option maxRecDepth 20000 in
set_option maxHeartbeats 2000000 in
theorem t_X5_priceOf {l : Launch} {γ : xG} {w : Nat} {a1 : Int32} {a2 : Int32} {h : xH} {r : Int32} {hr : xH} (hw : isX5 w) (e : f_X5_priceOf w a1 a2 h = some (r, hr)) : xCT l γ xSC yX5_priceOf cX5_priceOf 4 (some .int) 2 [.ref (γ.2.2.2 w), .int a1, .int a2] h (some (.int r)) hr := by
  refine xCT.of (own := RX5) (L := [some (.ref (γ.2.2.2 w)), some (.int a1), some (.int a2), none]) (by decide) rfl rfl rfl (fun C hF => ?_)
  unfold f_X5_priceOf at e
  refine xB_aload_n hF dX5_priceOf_0 rfl ?_
  refine xB_get hF dX5_priceOf_1 fl_X5_36 hw.1 rfl rfl ?_
  refine xB_iconst hF dX5_priceOf_4 ki_0 ?_
  refine xB_iald hF dX5_priceOf_5 hw.2.2.2.2.2.2.2.2.2 e (fun e => ?_)
  refine xB_istore_n (L' := [_, _, _, _]) hF dX5_priceOf_6 rfl rfl rfl ?_
  replace e := nm_of e
  refine xB_iload_n hF dX5_priceOf_7 rfl ?_
  refine xB_if_ge (tgt := 27) hF dX5_priceOf_8 rfl e (fun _ e => ?_) (fun _ e => ?_)
  · refine xB_aload_n hF dX5_priceOf_27 rfl ?_
    refine xB_get hF dX5_priceOf_28 fl_X5_39 hw.1 rfl rfl ?_
    refine xB_iload_n hF dX5_priceOf_31 rfl ?_
    refine xB_iload_n hF dX5_priceOf_32 rfl ?_
    refine xB_aload_n hF dX5_priceOf_33 rfl ?_
    refine xB_get hF dX5_priceOf_34 fl_X5_21 hw.1 rfl rfl ?_
    refine xB_iload_n hF dX5_priceOf_37 rfl ?_
    refine xB_iald hF dX5_priceOf_38 hw.2.2.2.2.1 e (fun e => ?_)
    refine xB_aload_n hF dX5_priceOf_39 rfl ?_
    refine xB_get hF dX5_priceOf_40 fl_X5_15 hw.1 rfl rfl ?_
    refine xB_iload_n hF dX5_priceOf_43 rfl ?_
    refine xB_iald hF dX5_priceOf_44 hw.2.2.1 e (fun e => ?_)
    obtain ⟨r2, h3, e4, e⟩ := bn_of e
    refine xB_callVi hF dX5_priceOf_45 (t_X0_workOut e4) cw_X5_84 sC_1 rfl rfl rfl rfl rfl ?_
    refine xB_iconst hF dX5_priceOf_48 ki_0 ?_
    refine xB_sipush hF dX5_priceOf_49 ks_999 ?_
    obtain ⟨r5, h6, e7, e⟩ := bn_of e
    refine xB_callNi hF dX5_priceOf_52 (t_X6_held e7) cw_X5_89 rfl rfl rfl rfl ?_
    exact xB_ireturn hF dX5_priceOf_55 e
  · refine xB_iconst hF dX5_priceOf_11 ki_0 ?_
    refine xB_bipush hF dX5_priceOf_12 kb_10 ?_
    refine xB_iload_n hF dX5_priceOf_14 rfl ?_
    refine xB_imul hF dX5_priceOf_15 ?_
    refine xB_aload_n hF dX5_priceOf_16 rfl ?_
    refine xB_get hF dX5_priceOf_17 fl_X5_21 hw.1 rfl rfl ?_
    refine xB_iload_n hF dX5_priceOf_20 rfl ?_
    refine xB_iald hF dX5_priceOf_21 hw.2.2.2.2.1 e (fun e => ?_)
    refine xB_isub hF dX5_priceOf_22 ?_
    refine xB_mmax hF dX5_priceOf_23 ml_X5_78 mw_max rfl rfl ?_
    replace e := nm_of e
    exact xB_ireturn hF dX5_priceOf_26 e
def f_X5_valueOf (w : Nat) (a1 : Int32) (h : xH) : Option (Int32 × xH) :=
    gd a1 10 <| if (h (w + 1) (Int32.toNatClampNeg a1)) = 1 then (gd a1 10 <| bn (f_X5_priceOf w a1 (h (w + 3) (Int32.toNatClampNeg a1)) h) fun r4 h5 => some (r4 + 20, h5)) else (if (h (w + 1) (Int32.toNatClampNeg a1)) = 2 then (gd a1 10 <| bn (f_X5_priceOf w a1 (9 - (h (w + 3) (Int32.toNatClampNeg a1))) h) fun r7 h8 => some (r7, h8)) else (if (h (w + 1) (Int32.toNatClampNeg a1)) = 3 then (gd a1 10 <| bn (f_X5_priceOf w a1 (h (w + 3) (Int32.toNatClampNeg a1)) h) fun r10 h11 => some ((r10 + 20) / 2, h11)) else (if (h (w + 1) (Int32.toNatClampNeg a1)) = 4 then (gd a1 10 <| bn (f_X5_priceOf w a1 (9 - (h (w + 3) (Int32.toNatClampNeg a1))) h) fun r13 h14 => gd a1 10 <| nm (if 0 < (r13 - (h14 (w + 4) (Int32.toNatClampNeg a1))) then (r13 - (h14 (w + 4) (Int32.toNatClampNeg a1))) else 0) fun x16 => some (x16, h14)) else (if (h (w + 1) (Int32.toNatClampNeg a1)) = 5 then (some (5, h)) else (gd a1 10 <| bn (f_X5_priceOf w a1 (h (w + 3) (Int32.toNatClampNeg a1)) h) fun r1 h2 => some (r1, h2))))))
set_option maxRecDepth 20000 in
set_option maxHeartbeats 2000000 in
theorem t_X5_valueOf {l : Launch} {γ : xG} {w : Nat} {a1 : Int32} {h : xH} {r : Int32} {hr : xH} (hw : isX5 w) (e : f_X5_valueOf w a1 h = some (r, hr)) : xCT l γ xSC yX5_valueOf cX5_valueOf 2 (some .int) 3 [.ref (γ.2.2.2 w), .int a1] h (some (.int r)) hr := by
  refine xCT.of (own := RX5) (L := [some (.ref (γ.2.2.2 w)), some (.int a1)]) (by decide) rfl rfl rfl (fun C hF => ?_)
  unfold f_X5_valueOf at e
  refine xB_aload_n hF dX5_valueOf_0 rfl ?_
  refine xB_get hF dX5_valueOf_1 fl_X5_9 hw.1 rfl rfl ?_
  refine xB_iload_n hF dX5_valueOf_4 rfl ?_
  refine xB_iald hF dX5_valueOf_5 hw.2.1 e (fun e => ?_)
  rcases if_of e with ⟨c0, e⟩ | ⟨c0, e⟩
  · refine xB_tableIn (v := (1)) (tgt := 40) hF dX5_valueOf_6 c0 (by decide) (by decide) rfl rfl ?_
    refine xB_aload_n hF dX5_valueOf_40 rfl ?_
    refine xB_iload_n hF dX5_valueOf_41 rfl ?_
    refine xB_aload_n hF dX5_valueOf_42 rfl ?_
    refine xB_get hF dX5_valueOf_43 fl_X5_18 hw.1 rfl rfl ?_
    refine xB_iload_n hF dX5_valueOf_46 rfl ?_
    refine xB_iald hF dX5_valueOf_47 hw.2.2.2.1 e (fun e => ?_)
    obtain ⟨r4, h5, e6, e⟩ := bn_of e
    refine xB_callVi hF dX5_valueOf_48 (t_X5_priceOf hw e6) cw_X5_93 hw.1 rfl rfl rfl rfl rfl ?_
    refine xB_bipush hF dX5_valueOf_51 kb_20 ?_
    refine xB_iadd hF dX5_valueOf_53 ?_
    exact xB_ireturn hF dX5_valueOf_54 e
  rcases if_of e with ⟨c1, e⟩ | ⟨c1, e⟩
  · refine xB_tableIn (v := (2)) (tgt := 72) hF dX5_valueOf_6 c1 (by decide) (by decide) rfl rfl ?_
    refine xB_aload_n hF dX5_valueOf_72 rfl ?_
    refine xB_iload_n hF dX5_valueOf_73 rfl ?_
    refine xB_bipush hF dX5_valueOf_74 kb_9 ?_
    refine xB_aload_n hF dX5_valueOf_76 rfl ?_
    refine xB_get hF dX5_valueOf_77 fl_X5_18 hw.1 rfl rfl ?_
    refine xB_iload_n hF dX5_valueOf_80 rfl ?_
    refine xB_iald hF dX5_valueOf_81 hw.2.2.2.1 e (fun e => ?_)
    refine xB_isub hF dX5_valueOf_82 ?_
    obtain ⟨r7, h8, e9, e⟩ := bn_of e
    refine xB_callVi hF dX5_valueOf_83 (t_X5_priceOf hw e9) cw_X5_93 hw.1 rfl rfl rfl rfl rfl ?_
    exact xB_ireturn hF dX5_valueOf_86 e
  rcases if_of e with ⟨c2, e⟩ | ⟨c2, e⟩
  · refine xB_tableIn (v := (3)) (tgt := 55) hF dX5_valueOf_6 c2 (by decide) (by decide) rfl rfl ?_
    refine xB_aload_n hF dX5_valueOf_55 rfl ?_
    refine xB_iload_n hF dX5_valueOf_56 rfl ?_
    refine xB_aload_n hF dX5_valueOf_57 rfl ?_
    refine xB_get hF dX5_valueOf_58 fl_X5_18 hw.1 rfl rfl ?_
    refine xB_iload_n hF dX5_valueOf_61 rfl ?_
    refine xB_iald hF dX5_valueOf_62 hw.2.2.2.1 e (fun e => ?_)
    obtain ⟨r10, h11, e12, e⟩ := bn_of e
    refine xB_callVi hF dX5_valueOf_63 (t_X5_priceOf hw e12) cw_X5_93 hw.1 rfl rfl rfl rfl rfl ?_
    refine xB_bipush hF dX5_valueOf_66 kb_20 ?_
    refine xB_iadd hF dX5_valueOf_68 ?_
    refine xB_iconst hF dX5_valueOf_69 ki_2 ?_
    refine xB_idivc hF dX5_valueOf_70 (by decide) ?_
    exact xB_ireturn hF dX5_valueOf_71 e
  rcases if_of e with ⟨c3, e⟩ | ⟨c3, e⟩
  · refine xB_tableIn (v := (4)) (tgt := 87) hF dX5_valueOf_6 c3 (by decide) (by decide) rfl rfl ?_
    refine xB_iconst hF dX5_valueOf_87 ki_0 ?_
    refine xB_aload_n hF dX5_valueOf_88 rfl ?_
    refine xB_iload_n hF dX5_valueOf_89 rfl ?_
    refine xB_bipush hF dX5_valueOf_90 kb_9 ?_
    refine xB_aload_n hF dX5_valueOf_92 rfl ?_
    refine xB_get hF dX5_valueOf_93 fl_X5_18 hw.1 rfl rfl ?_
    refine xB_iload_n hF dX5_valueOf_96 rfl ?_
    refine xB_iald hF dX5_valueOf_97 hw.2.2.2.1 e (fun e => ?_)
    refine xB_isub hF dX5_valueOf_98 ?_
    obtain ⟨r13, h14, e15, e⟩ := bn_of e
    refine xB_callVi hF dX5_valueOf_99 (t_X5_priceOf hw e15) cw_X5_93 hw.1 rfl rfl rfl rfl rfl ?_
    refine xB_aload_n hF dX5_valueOf_102 rfl ?_
    refine xB_get hF dX5_valueOf_103 fl_X5_21 hw.1 rfl rfl ?_
    refine xB_iload_n hF dX5_valueOf_106 rfl ?_
    refine xB_iald hF dX5_valueOf_107 hw.2.2.2.2.1 e (fun e => ?_)
    refine xB_isub hF dX5_valueOf_108 ?_
    refine xB_mmax hF dX5_valueOf_109 ml_X5_78 mw_max rfl rfl ?_
    replace e := nm_of e
    exact xB_ireturn hF dX5_valueOf_112 e
  rcases if_of e with ⟨c4, e⟩ | ⟨c4, e⟩
  · refine xB_tableIn (v := (5)) (tgt := 113) hF dX5_valueOf_6 c4 (by decide) (by decide) rfl rfl ?_
    refine xB_iconst hF dX5_valueOf_113 ki_5 ?_
    exact xB_ireturn hF dX5_valueOf_114 e
  refine xB_tableOut (tgt := 115) hF dX5_valueOf_6 (by have := xne (v := (1)) (n := 1) rfl c0; have := xne (v := (2)) (n := 2) rfl c1; have := xne (v := (3)) (n := 3) rfl c2; have := xne (v := (4)) (n := 4) rfl c3; have := xne (v := (5)) (n := 5) rfl c4; omega) rfl ?_
  refine xB_aload_n hF dX5_valueOf_115 rfl ?_
  refine xB_iload_n hF dX5_valueOf_116 rfl ?_
  refine xB_aload_n hF dX5_valueOf_117 rfl ?_
  refine xB_get hF dX5_valueOf_118 fl_X5_18 hw.1 rfl rfl ?_
  refine xB_iload_n hF dX5_valueOf_121 rfl ?_
  refine xB_iald hF dX5_valueOf_122 hw.2.2.2.1 e (fun e => ?_)
  obtain ⟨r1, h2, e3, e⟩ := bn_of e
  refine xB_callVi hF dX5_valueOf_123 (t_X5_priceOf hw e3) cw_X5_93 hw.1 rfl rfl rfl rfl rfl ?_
  exact xB_ireturn hF dX5_valueOf_126 e
def f_X6_isDay (a1 : Int32) (h : xH) : Option (Int32 × xH) :=
    bn (f_X6_within a1 0 ((h 24 10) - 1) h) fun r1 h2 => gb r1 (some (r1, h2))
set_option maxRecDepth 20000 in
set_option maxHeartbeats 2000000 in
theorem t_X6_isDay {l : Launch} {γ : xG} {a1 : Int32} {h : xH} {r : Int32} {hr : xH} (e : f_X6_isDay a1 h = some (r, hr)) : xCT l γ xSC yX6_isDay cX6_isDay 2 (some .boolean) 1 [.ref (γ.2.2.2 0), .int a1] h (some (.int r)) hr := by
  refine xCT.of (own := RX6) (L := [some (.ref (γ.2.2.2 0)), some (.int a1)]) (by decide) rfl rfl rfl (fun C hF => ?_)
  unfold f_X6_isDay at e
  refine xB_iload_n hF dX6_isDay_0 rfl ?_
  refine xB_iconst hF dX6_isDay_1 ki_0 ?_
  refine xB_aload_n hF dX6_isDay_2 rfl ?_
  refine xB_get hF dX6_isDay_3 fl_X6_28 sC_0 rfl rfl ?_
  refine xB_get hF dX6_isDay_6 fl_X6_86 isX5_24.1 rfl rfl ?_
  refine xB_iconst hF dX6_isDay_9 ki_1 ?_
  refine xB_isub hF dX6_isDay_10 ?_
  obtain ⟨r1, h2, e3, e⟩ := bn_of e
  refine xB_callSi hF dX6_isDay_11 (t_X6_within e3) cw_X6_78 rfl rfl rfl rfl ?_
  exact xB_breturn hF dX6_isDay_14 e
def f_X6_worthOf (a0 : Int32) (a1 : Int32) (h : xH) : Option (Int32 × xH) :=
    if a0 = 1 then (some (a1 + 7, h)) else (if a0 = 2 then (some (99 - a1, h)) else (if a0 = 3 then (some (2 * (a1 + 7), h)) else (if a0 = 4 then (some ((99 - a1) - 3, h)) else (if a0 = 5 then (some (6, h)) else (some (a1, h))))))
set_option maxRecDepth 20000 in
set_option maxHeartbeats 2000000 in
theorem t_X6_worthOf {l : Launch} {γ : xG} {a0 : Int32} {a1 : Int32} {h : xH} {r : Int32} {hr : xH} (e : f_X6_worthOf a0 a1 h = some (r, hr)) : xCT l γ xSC yX6_worthOf cX6_worthOf 2 (some .int) 0 [.int a0, .int a1] h (some (.int r)) hr := by
  refine xCT.of (own := RX6) (L := [some (.int a0), some (.int a1)]) (by decide) rfl rfl rfl (fun C hF => ?_)
  unfold f_X6_worthOf at e
  refine xB_iload_n hF dX6_worthOf_0 rfl ?_
  rcases if_of e with ⟨c0, e⟩ | ⟨c0, e⟩
  · refine xB_tableIn (v := (1)) (tgt := 36) hF dX6_worthOf_1 c0 (by decide) (by decide) rfl rfl ?_
    refine xB_iload_n hF dX6_worthOf_36 rfl ?_
    refine xB_bipush hF dX6_worthOf_37 kb_7 ?_
    refine xB_iadd hF dX6_worthOf_39 ?_
    exact xB_ireturn hF dX6_worthOf_40 e
  rcases if_of e with ⟨c1, e⟩ | ⟨c1, e⟩
  · refine xB_tableIn (v := (2)) (tgt := 48) hF dX6_worthOf_1 c1 (by decide) (by decide) rfl rfl ?_
    refine xB_bipush hF dX6_worthOf_48 kb_99 ?_
    refine xB_iload_n hF dX6_worthOf_50 rfl ?_
    refine xB_isub hF dX6_worthOf_51 ?_
    exact xB_ireturn hF dX6_worthOf_52 e
  rcases if_of e with ⟨c2, e⟩ | ⟨c2, e⟩
  · refine xB_tableIn (v := (3)) (tgt := 41) hF dX6_worthOf_1 c2 (by decide) (by decide) rfl rfl ?_
    refine xB_iconst hF dX6_worthOf_41 ki_2 ?_
    refine xB_iload_n hF dX6_worthOf_42 rfl ?_
    refine xB_bipush hF dX6_worthOf_43 kb_7 ?_
    refine xB_iadd hF dX6_worthOf_45 ?_
    refine xB_imul hF dX6_worthOf_46 ?_
    exact xB_ireturn hF dX6_worthOf_47 e
  rcases if_of e with ⟨c3, e⟩ | ⟨c3, e⟩
  · refine xB_tableIn (v := (4)) (tgt := 53) hF dX6_worthOf_1 c3 (by decide) (by decide) rfl rfl ?_
    refine xB_bipush hF dX6_worthOf_53 kb_99 ?_
    refine xB_iload_n hF dX6_worthOf_55 rfl ?_
    refine xB_isub hF dX6_worthOf_56 ?_
    refine xB_iconst hF dX6_worthOf_57 ki_3 ?_
    refine xB_isub hF dX6_worthOf_58 ?_
    exact xB_ireturn hF dX6_worthOf_59 e
  rcases if_of e with ⟨c4, e⟩ | ⟨c4, e⟩
  · refine xB_tableIn (v := (5)) (tgt := 60) hF dX6_worthOf_1 c4 (by decide) (by decide) rfl rfl ?_
    refine xB_bipush hF dX6_worthOf_60 kb_6 ?_
    exact xB_ireturn hF dX6_worthOf_62 e
  refine xB_tableOut (tgt := 63) hF dX6_worthOf_1 (by have := xne (v := (1)) (n := 1) rfl c0; have := xne (v := (2)) (n := 2) rfl c1; have := xne (v := (3)) (n := 3) rfl c2; have := xne (v := (4)) (n := 4) rfl c3; have := xne (v := (5)) (n := 5) rfl c4; omega) rfl ?_
  refine xB_iload_n hF dX6_worthOf_63 rfl ?_
  exact xB_ireturn hF dX6_worthOf_64 e
def f_X6_told (a1 : Int32) (a2 : Int32) (h : xH) : Option (Int32 × xH) :=
    bn (f_X6_isDay a1 h) fun r1 h2 => if r1 = 0 then (some ((-1000000001), h2)) else (if a2 = 0 then (gd a1 10 <| some (h2 25 (Int32.toNatClampNeg a1), h2)) else (if a2 = 1 then (gd a1 10 <| some (h2 26 (Int32.toNatClampNeg a1), h2)) else (if a2 = 2 then (gd a1 10 <| some (h2 27 (Int32.toNatClampNeg a1), h2)) else (if a2 = 3 then (gd a1 10 <| some (h2 28 (Int32.toNatClampNeg a1), h2)) else (if a2 = 4 then (gd a1 10 <| some (h2 29 (Int32.toNatClampNeg a1), h2)) else (if a2 = 5 then (gd a1 10 <| some (h2 30 (Int32.toNatClampNeg a1), h2)) else (if a2 = 6 then (bn (f_X5_valueOf 24 a1 h2) fun r4 h5 => some (r4, h5)) else (if a2 = 7 then (gd a1 10 <| gd a1 10 <| bn (f_X6_worthOf (h2 25 (Int32.toNatClampNeg a1)) (h2 26 (Int32.toNatClampNeg a1)) h2) fun r7 h8 => some (r7, h8)) else (some ((-1000000001), h2))))))))))
set_option maxRecDepth 20000 in
set_option maxHeartbeats 2000000 in
theorem t_X6_told {l : Launch} {γ : xG} {a1 : Int32} {a2 : Int32} {h : xH} {r : Int32} {hr : xH} (e : f_X6_told a1 a2 h = some (r, hr)) : xCT l γ xSC yX6_told cX6_told 3 (some .int) 4 [.ref (γ.2.2.2 0), .int a1, .int a2] h (some (.int r)) hr := by
  refine xCT.of (own := RX6) (L := [some (.ref (γ.2.2.2 0)), some (.int a1), some (.int a2)]) (by decide) rfl rfl rfl (fun C hF => ?_)
  unfold f_X6_told at e
  refine xB_aload_n hF dX6_told_0 rfl ?_
  refine xB_iload_n hF dX6_told_1 rfl ?_
  obtain ⟨r1, h2, e3, e⟩ := bn_of e
  refine xB_callVi hF dX6_told_2 (t_X6_isDay e3) cw_X6_94 sC_0 rfl rfl rfl rfl rfl ?_
  refine xB_if_ne (tgt := 11) hF dX6_told_5 rfl e (fun _ e => ?_) (fun _ e => ?_)
  · refine xB_ldc hF dX6_told_8 kc_X6_85 ?_
    exact xB_ireturn hF dX6_told_10 e
  · refine xB_iload_n hF dX6_told_11 rfl ?_
    rcases if_of e with ⟨c0, e⟩ | ⟨c0, e⟩
    · refine xB_tableIn (v := (0)) (tgt := 60) hF dX6_told_12 c0 (by decide) (by decide) rfl rfl ?_
      refine xB_aload_n hF dX6_told_60 rfl ?_
      refine xB_get hF dX6_told_61 fl_X6_28 sC_0 rfl rfl ?_
      refine xB_get hF dX6_told_64 fl_X6_97 isX5_24.1 rfl rfl ?_
      refine xB_iload_n hF dX6_told_67 rfl ?_
      refine xB_iald hF dX6_told_68 sC_25 e (fun e => ?_)
      exact xB_ireturn hF dX6_told_69 e
    rcases if_of e with ⟨c1, e⟩ | ⟨c1, e⟩
    · refine xB_tableIn (v := (1)) (tgt := 70) hF dX6_told_12 c1 (by decide) (by decide) rfl rfl ?_
      refine xB_aload_n hF dX6_told_70 rfl ?_
      refine xB_get hF dX6_told_71 fl_X6_28 sC_0 rfl rfl ?_
      refine xB_get hF dX6_told_74 fl_X6_100 isX5_24.1 rfl rfl ?_
      refine xB_iload_n hF dX6_told_77 rfl ?_
      refine xB_iald hF dX6_told_78 sC_26 e (fun e => ?_)
      exact xB_ireturn hF dX6_told_79 e
    rcases if_of e with ⟨c2, e⟩ | ⟨c2, e⟩
    · refine xB_tableIn (v := (2)) (tgt := 80) hF dX6_told_12 c2 (by decide) (by decide) rfl rfl ?_
      refine xB_aload_n hF dX6_told_80 rfl ?_
      refine xB_get hF dX6_told_81 fl_X6_28 sC_0 rfl rfl ?_
      refine xB_get hF dX6_told_84 fl_X6_103 isX5_24.1 rfl rfl ?_
      refine xB_iload_n hF dX6_told_87 rfl ?_
      refine xB_iald hF dX6_told_88 sC_27 e (fun e => ?_)
      exact xB_ireturn hF dX6_told_89 e
    rcases if_of e with ⟨c3, e⟩ | ⟨c3, e⟩
    · refine xB_tableIn (v := (3)) (tgt := 90) hF dX6_told_12 c3 (by decide) (by decide) rfl rfl ?_
      refine xB_aload_n hF dX6_told_90 rfl ?_
      refine xB_get hF dX6_told_91 fl_X6_28 sC_0 rfl rfl ?_
      refine xB_get hF dX6_told_94 fl_X6_106 isX5_24.1 rfl rfl ?_
      refine xB_iload_n hF dX6_told_97 rfl ?_
      refine xB_iald hF dX6_told_98 sC_28 e (fun e => ?_)
      exact xB_ireturn hF dX6_told_99 e
    rcases if_of e with ⟨c4, e⟩ | ⟨c4, e⟩
    · refine xB_tableIn (v := (4)) (tgt := 100) hF dX6_told_12 c4 (by decide) (by decide) rfl rfl ?_
      refine xB_aload_n hF dX6_told_100 rfl ?_
      refine xB_get hF dX6_told_101 fl_X6_28 sC_0 rfl rfl ?_
      refine xB_get hF dX6_told_104 fl_X6_109 isX5_24.1 rfl rfl ?_
      refine xB_iload_n hF dX6_told_107 rfl ?_
      refine xB_iald hF dX6_told_108 sC_29 e (fun e => ?_)
      exact xB_ireturn hF dX6_told_109 e
    rcases if_of e with ⟨c5, e⟩ | ⟨c5, e⟩
    · refine xB_tableIn (v := (5)) (tgt := 110) hF dX6_told_12 c5 (by decide) (by decide) rfl rfl ?_
      refine xB_aload_n hF dX6_told_110 rfl ?_
      refine xB_get hF dX6_told_111 fl_X6_28 sC_0 rfl rfl ?_
      refine xB_get hF dX6_told_114 fl_X6_112 isX5_24.1 rfl rfl ?_
      refine xB_iload_n hF dX6_told_117 rfl ?_
      refine xB_iald hF dX6_told_118 sC_30 e (fun e => ?_)
      exact xB_ireturn hF dX6_told_119 e
    rcases if_of e with ⟨c6, e⟩ | ⟨c6, e⟩
    · refine xB_tableIn (v := (6)) (tgt := 120) hF dX6_told_12 c6 (by decide) (by decide) rfl rfl ?_
      refine xB_aload_n hF dX6_told_120 rfl ?_
      refine xB_get hF dX6_told_121 fl_X6_28 sC_0 rfl rfl ?_
      refine xB_iload_n hF dX6_told_124 rfl ?_
      obtain ⟨r4, h5, e6, e⟩ := bn_of e
      refine xB_callVi hF dX6_told_125 (t_X5_valueOf isX5_24 e6) cw_X6_115 isX5_24.1 rfl rfl rfl rfl rfl ?_
      exact xB_ireturn hF dX6_told_128 e
    rcases if_of e with ⟨c7, e⟩ | ⟨c7, e⟩
    · refine xB_tableIn (v := (7)) (tgt := 129) hF dX6_told_12 c7 (by decide) (by decide) rfl rfl ?_
      refine xB_aload_n hF dX6_told_129 rfl ?_
      refine xB_get hF dX6_told_130 fl_X6_28 sC_0 rfl rfl ?_
      refine xB_get hF dX6_told_133 fl_X6_97 isX5_24.1 rfl rfl ?_
      refine xB_iload_n hF dX6_told_136 rfl ?_
      refine xB_iald hF dX6_told_137 sC_25 e (fun e => ?_)
      refine xB_aload_n hF dX6_told_138 rfl ?_
      refine xB_get hF dX6_told_139 fl_X6_28 sC_0 rfl rfl ?_
      refine xB_get hF dX6_told_142 fl_X6_100 isX5_24.1 rfl rfl ?_
      refine xB_iload_n hF dX6_told_145 rfl ?_
      refine xB_iald hF dX6_told_146 sC_26 e (fun e => ?_)
      obtain ⟨r7, h8, e9, e⟩ := bn_of e
      refine xB_callSi hF dX6_told_147 (t_X6_worthOf e9) cw_X6_119 rfl rfl rfl rfl ?_
      exact xB_ireturn hF dX6_told_150 e
    refine xB_tableOut (tgt := 151) hF dX6_told_12 (by have := xne (v := (0)) (n := 0) rfl c0; have := xne (v := (1)) (n := 1) rfl c1; have := xne (v := (2)) (n := 2) rfl c2; have := xne (v := (3)) (n := 3) rfl c3; have := xne (v := (4)) (n := 4) rfl c4; have := xne (v := (5)) (n := 5) rfl c5; have := xne (v := (6)) (n := 6) rfl c6; have := xne (v := (7)) (n := 7) rfl c7; omega) rfl ?_
    refine xB_ldc hF dX6_told_151 kc_X6_85 ?_
    exact xB_ireturn hF dX6_told_153 e
def f_X6_exchange (a0 : Nat) (n0 : Nat) (a1 : Int32) (a2 : Int32) (h : xH) : Option (Int32 × xH) :=
    gd a1 n0 <| nm (h a0 (Int32.toNatClampNeg a1)) fun x1 => gd a1 n0 <| nm (xst h a0 (Int32.toNatClampNeg a1) a2) fun h2 => some (x1, h2)
set_option maxRecDepth 20000 in
set_option maxHeartbeats 2000000 in
theorem t_X6_exchange {l : Launch} {γ : xG} {a0 : Nat} {n0 : Nat} {a1 : Int32} {a2 : Int32} {h : xH} {r : Int32} {hr : xH} (ha0 : xSC[a0]? = some (shA n0)) (e : f_X6_exchange a0 n0 a1 a2 h = some (r, hr)) : xCT l γ xSC yX6_exchange cX6_exchange 4 (some .int) 0 [.ref (γ.2.2.2 a0), .int a1, .int a2] h (some (.int r)) hr := by
  refine xCT.of (own := RX6) (L := [some (.ref (γ.2.2.2 a0)), some (.int a1), some (.int a2), none]) (by decide) rfl rfl rfl (fun C hF => ?_)
  unfold f_X6_exchange at e
  refine xB_aload_n hF dX6_exchange_0 rfl ?_
  refine xB_iload_n hF dX6_exchange_1 rfl ?_
  refine xB_iald hF dX6_exchange_2 ha0 e (fun e => ?_)
  refine xB_istore_n (L' := [_, _, _, _]) hF dX6_exchange_3 rfl rfl rfl ?_
  replace e := nm_of e
  refine xB_aload_n hF dX6_exchange_4 rfl ?_
  refine xB_iload_n hF dX6_exchange_5 rfl ?_
  refine xB_iload_n hF dX6_exchange_6 rfl ?_
  refine xB_iast hF dX6_exchange_7 ha0 e (fun e => ?_)
  refine xB_gen e (fun h2 e => ?_)
  refine xB_iload_n hF dX6_exchange_8 rfl ?_
  exact xB_ireturn hF dX6_exchange_9 e
def f_X6_turns (a1 : Int32) (a2 : Int32) (h : xH) : Option (Int32 × xH) :=
    bn (f_X6_isDay a1 h) fun r1 h2 => if r1 = 0 then (some ((-1000000001), h2)) else (bn (f_X6_isKind a2 h2) fun r4 h5 => if r4 = 0 then (some ((-1000000001), h5)) else (bn (f_X6_exchange 25 10 a1 a2 h5) fun r7 h8 => some (r7, h8)))
set_option maxRecDepth 20000 in
set_option maxHeartbeats 2000000 in
theorem t_X6_turns {l : Launch} {γ : xG} {a1 : Int32} {a2 : Int32} {h : xH} {r : Int32} {hr : xH} (e : f_X6_turns a1 a2 h = some (r, hr)) : xCT l γ xSC yX6_turns cX6_turns 3 (some .int) 2 [.ref (γ.2.2.2 0), .int a1, .int a2] h (some (.int r)) hr := by
  refine xCT.of (own := RX6) (L := [some (.ref (γ.2.2.2 0)), some (.int a1), some (.int a2)]) (by decide) rfl rfl rfl (fun C hF => ?_)
  unfold f_X6_turns at e
  refine xB_aload_n hF dX6_turns_0 rfl ?_
  refine xB_iload_n hF dX6_turns_1 rfl ?_
  obtain ⟨r1, h2, e3, e⟩ := bn_of e
  refine xB_callVi hF dX6_turns_2 (t_X6_isDay e3) cw_X6_94 sC_0 rfl rfl rfl rfl rfl ?_
  refine xB_if_eq (tgt := 15) hF dX6_turns_5 rfl e (fun _ e => ?_) (fun _ e => ?_)
  · refine xB_ldc hF dX6_turns_15 kc_X6_85 ?_
    exact xB_ireturn hF dX6_turns_17 e
  · refine xB_iload_n hF dX6_turns_8 rfl ?_
    obtain ⟨r4, h5, e6, e⟩ := bn_of e
    refine xB_callSi hF dX6_turns_9 (t_X6_isKind e6) cw_X6_74 rfl rfl rfl rfl ?_
    refine xB_if_ne (tgt := 18) hF dX6_turns_12 rfl e (fun _ e => ?_) (fun _ e => ?_)
    · refine xB_ldc hF dX6_turns_15 kc_X6_85 ?_
      exact xB_ireturn hF dX6_turns_17 e
    · refine xB_aload_n hF dX6_turns_18 rfl ?_
      refine xB_get hF dX6_turns_19 fl_X6_28 sC_0 rfl rfl ?_
      refine xB_get hF dX6_turns_22 fl_X6_97 isX5_24.1 rfl rfl ?_
      refine xB_iload_n hF dX6_turns_25 rfl ?_
      refine xB_iload_n hF dX6_turns_26 rfl ?_
      obtain ⟨r7, h8, e9, e⟩ := bn_of e
      refine xB_callSi hF dX6_turns_27 (t_X6_exchange sC_25 e9) cw_X6_128 rfl rfl rfl rfl ?_
      exact xB_ireturn hF dX6_turns_30 e
def f_X6_set (a1 : Int32) (a2 : Int32) (a3 : Int32) (h : xH) : Option (Int32 × xH) :=
    bn (f_X6_isDay a1 h) fun r1 h2 => if r1 = 0 then (some ((-1000000001), h2)) else (if a2 = 1 then (bn (f_X6_within a3 0 99 h2) fun r4 h5 => if r4 = 0 then (some ((-1000000001), h5)) else (bn (f_X6_exchange 26 10 a1 a3 h5) fun r7 h8 => some (r7, h8))) else (if a2 = 2 then (bn (f_X6_within a3 0 9 h2) fun r10 h11 => if r10 = 0 then (some ((-1000000001), h11)) else (bn (f_X6_exchange 27 10 a1 a3 h11) fun r13 h14 => some (r13, h14))) else (if a2 = 3 then (bn (f_X6_within a3 0 99 h2) fun r16 h17 => if r16 = 0 then (some ((-1000000001), h17)) else (bn (f_X6_exchange 28 10 a1 a3 h17) fun r19 h20 => some (r19, h20))) else (some ((-1000000001), h2)))))
set_option maxRecDepth 20000 in
set_option maxHeartbeats 2000000 in
theorem t_X6_set {l : Launch} {γ : xG} {a1 : Int32} {a2 : Int32} {a3 : Int32} {h : xH} {r : Int32} {hr : xH} (e : f_X6_set a1 a2 a3 h = some (r, hr)) : xCT l γ xSC yX6_set cX6_set 4 (some .int) 2 [.ref (γ.2.2.2 0), .int a1, .int a2, .int a3] h (some (.int r)) hr := by
  refine xCT.of (own := RX6) (L := [some (.ref (γ.2.2.2 0)), some (.int a1), some (.int a2), some (.int a3)]) (by decide) rfl rfl rfl (fun C hF => ?_)
  unfold f_X6_set at e
  refine xB_aload_n hF dX6_set_0 rfl ?_
  refine xB_iload_n hF dX6_set_1 rfl ?_
  obtain ⟨r1, h2, e3, e⟩ := bn_of e
  refine xB_callVi hF dX6_set_2 (t_X6_isDay e3) cw_X6_94 sC_0 rfl rfl rfl rfl rfl ?_
  refine xB_if_ne (tgt := 11) hF dX6_set_5 rfl e (fun _ e => ?_) (fun _ e => ?_)
  · refine xB_ldc hF dX6_set_8 kc_X6_85 ?_
    exact xB_ireturn hF dX6_set_10 e
  · refine xB_iload_n hF dX6_set_11 rfl ?_
    rcases if_of e with ⟨c0, e⟩ | ⟨c0, e⟩
    · refine xB_tableIn (v := (1)) (tgt := 40) hF dX6_set_12 c0 (by decide) (by decide) rfl rfl ?_
      refine xB_iload_n hF dX6_set_40 rfl ?_
      refine xB_iconst hF dX6_set_41 ki_0 ?_
      refine xB_bipush hF dX6_set_42 kb_99 ?_
      obtain ⟨r4, h5, e6, e⟩ := bn_of e
      refine xB_callSi hF dX6_set_44 (t_X6_within e6) cw_X6_78 rfl rfl rfl rfl ?_
      refine xB_if_eq (tgt := 65) hF dX6_set_47 rfl e (fun _ e => ?_) (fun _ e => ?_)
      · refine xB_ldc hF dX6_set_65 kc_X6_85 ?_
        exact xB_ireturn hF dX6_set_67 e
      · refine xB_aload_n hF dX6_set_50 rfl ?_
        refine xB_get hF dX6_set_51 fl_X6_28 sC_0 rfl rfl ?_
        refine xB_get hF dX6_set_54 fl_X6_100 isX5_24.1 rfl rfl ?_
        refine xB_iload_n hF dX6_set_57 rfl ?_
        refine xB_iload_n hF dX6_set_58 rfl ?_
        obtain ⟨r7, h8, e9, e⟩ := bn_of e
        refine xB_callSi hF dX6_set_59 (t_X6_exchange sC_26 e9) cw_X6_128 rfl rfl rfl rfl ?_
        refine xB_goto (tgt := 67) hF dX6_set_62 rfl ?_
        exact xB_ireturn hF dX6_set_67 e
    rcases if_of e with ⟨c1, e⟩ | ⟨c1, e⟩
    · refine xB_tableIn (v := (2)) (tgt := 68) hF dX6_set_12 c1 (by decide) (by decide) rfl rfl ?_
      refine xB_iload_n hF dX6_set_68 rfl ?_
      refine xB_iconst hF dX6_set_69 ki_0 ?_
      refine xB_bipush hF dX6_set_70 kb_9 ?_
      obtain ⟨r10, h11, e12, e⟩ := bn_of e
      refine xB_callSi hF dX6_set_72 (t_X6_within e12) cw_X6_78 rfl rfl rfl rfl ?_
      refine xB_if_eq (tgt := 93) hF dX6_set_75 rfl e (fun _ e => ?_) (fun _ e => ?_)
      · refine xB_ldc hF dX6_set_93 kc_X6_85 ?_
        exact xB_ireturn hF dX6_set_95 e
      · refine xB_aload_n hF dX6_set_78 rfl ?_
        refine xB_get hF dX6_set_79 fl_X6_28 sC_0 rfl rfl ?_
        refine xB_get hF dX6_set_82 fl_X6_103 isX5_24.1 rfl rfl ?_
        refine xB_iload_n hF dX6_set_85 rfl ?_
        refine xB_iload_n hF dX6_set_86 rfl ?_
        obtain ⟨r13, h14, e15, e⟩ := bn_of e
        refine xB_callSi hF dX6_set_87 (t_X6_exchange sC_27 e15) cw_X6_128 rfl rfl rfl rfl ?_
        refine xB_goto (tgt := 95) hF dX6_set_90 rfl ?_
        exact xB_ireturn hF dX6_set_95 e
    rcases if_of e with ⟨c2, e⟩ | ⟨c2, e⟩
    · refine xB_tableIn (v := (3)) (tgt := 96) hF dX6_set_12 c2 (by decide) (by decide) rfl rfl ?_
      refine xB_iload_n hF dX6_set_96 rfl ?_
      refine xB_iconst hF dX6_set_97 ki_0 ?_
      refine xB_bipush hF dX6_set_98 kb_99 ?_
      obtain ⟨r16, h17, e18, e⟩ := bn_of e
      refine xB_callSi hF dX6_set_100 (t_X6_within e18) cw_X6_78 rfl rfl rfl rfl ?_
      refine xB_if_eq (tgt := 121) hF dX6_set_103 rfl e (fun _ e => ?_) (fun _ e => ?_)
      · refine xB_ldc hF dX6_set_121 kc_X6_85 ?_
        exact xB_ireturn hF dX6_set_123 e
      · refine xB_aload_n hF dX6_set_106 rfl ?_
        refine xB_get hF dX6_set_107 fl_X6_28 sC_0 rfl rfl ?_
        refine xB_get hF dX6_set_110 fl_X6_106 isX5_24.1 rfl rfl ?_
        refine xB_iload_n hF dX6_set_113 rfl ?_
        refine xB_iload_n hF dX6_set_114 rfl ?_
        obtain ⟨r19, h20, e21, e⟩ := bn_of e
        refine xB_callSi hF dX6_set_115 (t_X6_exchange sC_28 e21) cw_X6_128 rfl rfl rfl rfl ?_
        refine xB_goto (tgt := 123) hF dX6_set_118 rfl ?_
        exact xB_ireturn hF dX6_set_123 e
    refine xB_tableOut (tgt := 124) hF dX6_set_12 (by have := xne (v := (1)) (n := 1) rfl c0; have := xne (v := (2)) (n := 2) rfl c1; have := xne (v := (3)) (n := 3) rfl c2; omega) rfl ?_
    refine xB_ldc hF dX6_set_124 kc_X6_85 ?_
    exact xB_ireturn hF dX6_set_126 e
def f_X5_daysOf_c28 (k4 : Int32 → Int32 → xH → Option (Int32 × xH)) (w : Nat) (a1 : Int32) (v2 : Int32) (v3 : Int32) (h : xH) : Option (Int32 × xH) :=
    k4 v2 (v3 + 1) h
set_option maxRecDepth 20000 in
set_option maxHeartbeats 2000000 in
theorem t_X5_daysOf_c28 {l : Launch} {γ : xG} {k4 : Int32 → Int32 → xH → Option (Int32 × xH)} {w : Nat} {a1 : Int32} {r : Int32} {hr : xH} {C : xCx} (hF : xF C cX5_daysOf RX5 4 0 γ xSC (some (.int r)) hr l (some .int)) (hw : isX5 w) (hk4 : ∀ (v2 : Int32) (v3 : Int32) (h : xH), k4 v2 v3 h = some (r, hr) → xB C h 4 [some (.ref (γ.2.2.2 w)), some (.int a1), some (.int v2), some (.int v3)] []) : ∀ (v2 : Int32) (v3 : Int32) (h : xH), f_X5_daysOf_c28 k4 w a1 v2 v3 h = some (r, hr) → xB C h 28 [some (.ref (γ.2.2.2 w)), some (.int a1), some (.int v2), some (.int v3)] [] := by
  intro v2 v3 h e
  unfold f_X5_daysOf_c28 at e
  refine xB_iinc (L' := [_, _, _, _]) hF dX5_daysOf_28 rfl ki_1 rfl rfl rfl ?_
  refine xB_goto (tgt := 4) hF dX5_daysOf_31 rfl ?_
  exact xB_l (hk4 _ _ _ e) (And.intro rfl (And.intro rfl (And.intro rfl (And.intro rfl (True.intro)))))
def f_X5_daysOf_c4 (w : Nat) (a1 : Int32) : Nat → Int32 → Int32 → xH → Option (Int32 × xH)
  | 0, _, _, _ => none
  | n + 1, v2, v3, h =>
    if (h w 10) ≤ v3 then (some (v2, h)) else (gd v3 10 <| if (h (w + 5) (Int32.toNatClampNeg v3)) = a1 then (nm (v2 ||| (1 <<< (v3 &&& 31))) fun x1 => f_X5_daysOf_c28 (f_X5_daysOf_c4 w a1 n) w a1 x1 v3 h) else (f_X5_daysOf_c28 (f_X5_daysOf_c4 w a1 n) w a1 v2 v3 h))
set_option maxRecDepth 20000 in
set_option maxHeartbeats 2000000 in
theorem t_X5_daysOf_c4 {l : Launch} {γ : xG} {w : Nat} {a1 : Int32} {r : Int32} {hr : xH} {C : xCx} (hF : xF C cX5_daysOf RX5 4 0 γ xSC (some (.int r)) hr l (some .int)) (hw : isX5 w) : ∀ (n : Nat) (v2 : Int32) (v3 : Int32) (h : xH), f_X5_daysOf_c4 w a1 n v2 v3 h = some (r, hr) → xB C h 4 [some (.ref (γ.2.2.2 w)), some (.int a1), some (.int v2), some (.int v3)] [] := by
  intro n
  induction n with
  | zero => intro v2 v3 h e; cases e
  | succ n ih =>
    intro v2 v3 h e
    rw [f_X5_daysOf_c4] at e
    refine xB_iload_n hF dX5_daysOf_4 rfl ?_
    refine xB_aload_n hF dX5_daysOf_5 rfl ?_
    refine xB_get hF dX5_daysOf_6 fl_X5_53 hw.1 rfl rfl ?_
    refine xB_icmp_ge (tgt := 34) hF dX5_daysOf_9 rfl e (fun _ e => ?_) (fun _ e => ?_)
    · refine xB_iload_n hF dX5_daysOf_34 rfl ?_
      exact xB_ireturn hF dX5_daysOf_35 e
    · refine xB_aload_n hF dX5_daysOf_12 rfl ?_
      refine xB_get hF dX5_daysOf_13 fl_X5_24 hw.1 rfl rfl ?_
      refine xB_iload_n hF dX5_daysOf_16 rfl ?_
      refine xB_iald hF dX5_daysOf_17 hw.2.2.2.2.2.1 e (fun e => ?_)
      refine xB_iload_n hF dX5_daysOf_18 rfl ?_
      refine xB_icmp_ne (tgt := 28) hF dX5_daysOf_19 rfl e (fun _ e => ?_) (fun _ e => ?_)
      · refine xB_iload_n hF dX5_daysOf_22 rfl ?_
        refine xB_iconst hF dX5_daysOf_23 ki_1 ?_
        refine xB_iload_n hF dX5_daysOf_24 rfl ?_
        refine xB_ishl hF dX5_daysOf_25 ?_
        refine xB_ior hF dX5_daysOf_26 ?_
        refine xB_istore_n (L' := [_, _, _, _]) hF dX5_daysOf_27 rfl rfl rfl ?_
        replace e := nm_of e
        exact xB_l (t_X5_daysOf_c28 hF hw ih _ _ _ e) (And.intro rfl (And.intro rfl (And.intro rfl (And.intro rfl (True.intro)))))
      · exact xB_l (t_X5_daysOf_c28 hF hw ih _ _ _ e) (And.intro rfl (And.intro rfl (And.intro rfl (And.intro rfl (True.intro)))))
def f_X5_daysOf (w : Nat) (a1 : Int32) (h : xH) : Option (Int32 × xH) :=
    f_X5_daysOf_c4 w a1 xN 0 0 h
set_option maxRecDepth 20000 in
set_option maxHeartbeats 2000000 in
theorem t_X5_daysOf {l : Launch} {γ : xG} {w : Nat} {a1 : Int32} {h : xH} {r : Int32} {hr : xH} (hw : isX5 w) (e : f_X5_daysOf w a1 h = some (r, hr)) : xCT l γ xSC yX5_daysOf cX5_daysOf 4 (some .int) 0 [.ref (γ.2.2.2 w), .int a1] h (some (.int r)) hr := by
  refine xCT.of (own := RX5) (L := [some (.ref (γ.2.2.2 w)), some (.int a1), none, none]) (by decide) rfl rfl rfl (fun C hF => ?_)
  unfold f_X5_daysOf at e
  refine xB_iconst hF dX5_daysOf_0 ki_0 ?_
  refine xB_istore_n (L' := [_, _, _, _]) hF dX5_daysOf_1 rfl rfl rfl ?_
  refine xB_iconst hF dX5_daysOf_2 ki_0 ?_
  refine xB_istore_n (L' := [_, _, _, _]) hF dX5_daysOf_3 rfl rfl rfl ?_
  exact xB_l (t_X5_daysOf_c4 hF hw _ _ _ _ e) (And.intro rfl (And.intro rfl (And.intro rfl (And.intro rfl (True.intro)))))
def f_X6_one (a1 : Int32) (a2 : Int32) (h : xH) : Option (Int32 × xH) :=
    bn (f_X6_isOne a1 h) fun r1 h2 => if r1 = 0 then (some ((-1000000001), h2)) else (if a2 = 0 then (gd a1 6 <| some (h2 31 (Int32.toNatClampNeg a1), h2)) else (if a2 = 1 then (gd a1 6 <| some (h2 32 (Int32.toNatClampNeg a1), h2)) else (if a2 = 2 then (bn (f_X5_daysOf 24 a1 h2) fun r4 h5 => some (r4, h5)) else (some ((-1000000001), h2)))))
set_option maxRecDepth 20000 in
set_option maxHeartbeats 2000000 in
theorem t_X6_one {l : Launch} {γ : xG} {a1 : Int32} {a2 : Int32} {h : xH} {r : Int32} {hr : xH} (e : f_X6_one a1 a2 h = some (r, hr)) : xCT l γ xSC yX6_one cX6_one 3 (some .int) 2 [.ref (γ.2.2.2 0), .int a1, .int a2] h (some (.int r)) hr := by
  refine xCT.of (own := RX6) (L := [some (.ref (γ.2.2.2 0)), some (.int a1), some (.int a2)]) (by decide) rfl rfl rfl (fun C hF => ?_)
  unfold f_X6_one at e
  refine xB_iload_n hF dX6_one_0 rfl ?_
  obtain ⟨r1, h2, e3, e⟩ := bn_of e
  refine xB_callSi hF dX6_one_1 (t_X6_isOne e3) cw_X6_82 rfl rfl rfl rfl ?_
  refine xB_if_ne (tgt := 10) hF dX6_one_4 rfl e (fun _ e => ?_) (fun _ e => ?_)
  · refine xB_ldc hF dX6_one_7 kc_X6_85 ?_
    exact xB_ireturn hF dX6_one_9 e
  · refine xB_iload_n hF dX6_one_10 rfl ?_
    rcases if_of e with ⟨c0, e⟩ | ⟨c0, e⟩
    · refine xB_tableIn (v := (0)) (tgt := 36) hF dX6_one_11 c0 (by decide) (by decide) rfl rfl ?_
      refine xB_aload_n hF dX6_one_36 rfl ?_
      refine xB_get hF dX6_one_37 fl_X6_28 sC_0 rfl rfl ?_
      refine xB_get hF dX6_one_40 fl_X6_132 isX5_24.1 rfl rfl ?_
      refine xB_iload_n hF dX6_one_43 rfl ?_
      refine xB_iald hF dX6_one_44 sC_31 e (fun e => ?_)
      exact xB_ireturn hF dX6_one_45 e
    rcases if_of e with ⟨c1, e⟩ | ⟨c1, e⟩
    · refine xB_tableIn (v := (1)) (tgt := 46) hF dX6_one_11 c1 (by decide) (by decide) rfl rfl ?_
      refine xB_aload_n hF dX6_one_46 rfl ?_
      refine xB_get hF dX6_one_47 fl_X6_28 sC_0 rfl rfl ?_
      refine xB_get hF dX6_one_50 fl_X6_135 isX5_24.1 rfl rfl ?_
      refine xB_iload_n hF dX6_one_53 rfl ?_
      refine xB_iald hF dX6_one_54 sC_32 e (fun e => ?_)
      exact xB_ireturn hF dX6_one_55 e
    rcases if_of e with ⟨c2, e⟩ | ⟨c2, e⟩
    · refine xB_tableIn (v := (2)) (tgt := 56) hF dX6_one_11 c2 (by decide) (by decide) rfl rfl ?_
      refine xB_aload_n hF dX6_one_56 rfl ?_
      refine xB_get hF dX6_one_57 fl_X6_28 sC_0 rfl rfl ?_
      refine xB_iload_n hF dX6_one_60 rfl ?_
      obtain ⟨r4, h5, e6, e⟩ := bn_of e
      refine xB_callVi hF dX6_one_61 (t_X5_daysOf isX5_24 e6) cw_X6_138 isX5_24.1 rfl rfl rfl rfl rfl ?_
      exact xB_ireturn hF dX6_one_64 e
    refine xB_tableOut (tgt := 65) hF dX6_one_11 (by have := xne (v := (0)) (n := 0) rfl c0; have := xne (v := (1)) (n := 1) rfl c1; have := xne (v := (2)) (n := 2) rfl c2; omega) rfl ?_
    refine xB_ldc hF dX6_one_65 kc_X6_85 ?_
    exact xB_ireturn hF dX6_one_67 e
def f_X6_gives (a1 : Int32) (a2 : Int32) (a3 : Int32) (h : xH) : Option (Int32 × xH) :=
    bn (f_X6_isOne a1 h) fun r1 h2 => if r1 = 0 then (some ((-1000000001), h2)) else (if a2 = 0 then (bn (f_X6_within a3 0 9999 h2) fun r4 h5 => if r4 = 0 then (some ((-1000000001), h5)) else (bn (f_X6_exchange 31 6 a1 a3 h5) fun r7 h8 => some (r7, h8))) else (if a2 = 1 then (bn (f_X6_within a3 0 9 h2) fun r10 h11 => if r10 = 0 then (some ((-1000000001), h11)) else (bn (f_X6_exchange 32 6 a1 a3 h11) fun r13 h14 => some (r13, h14))) else (some ((-1000000001), h2))))
set_option maxRecDepth 20000 in
set_option maxHeartbeats 2000000 in
theorem t_X6_gives {l : Launch} {γ : xG} {a1 : Int32} {a2 : Int32} {a3 : Int32} {h : xH} {r : Int32} {hr : xH} (e : f_X6_gives a1 a2 a3 h = some (r, hr)) : xCT l γ xSC yX6_gives cX6_gives 4 (some .int) 2 [.ref (γ.2.2.2 0), .int a1, .int a2, .int a3] h (some (.int r)) hr := by
  refine xCT.of (own := RX6) (L := [some (.ref (γ.2.2.2 0)), some (.int a1), some (.int a2), some (.int a3)]) (by decide) rfl rfl rfl (fun C hF => ?_)
  unfold f_X6_gives at e
  refine xB_iload_n hF dX6_gives_0 rfl ?_
  obtain ⟨r1, h2, e3, e⟩ := bn_of e
  refine xB_callSi hF dX6_gives_1 (t_X6_isOne e3) cw_X6_82 rfl rfl rfl rfl ?_
  refine xB_if_ne (tgt := 10) hF dX6_gives_4 rfl e (fun _ e => ?_) (fun _ e => ?_)
  · refine xB_ldc hF dX6_gives_7 kc_X6_85 ?_
    exact xB_ireturn hF dX6_gives_9 e
  · refine xB_iload_n hF dX6_gives_10 rfl ?_
    rcases if_of e with ⟨c0, e⟩ | ⟨c0, e⟩
    · refine xB_lookup (off := 25) (tgt := 36) hF dX6_gives_11 (by decide +kernel) (xlk c0 (by decide +kernel)) rfl ?_
      refine xB_iload_n hF dX6_gives_36 rfl ?_
      refine xB_iconst hF dX6_gives_37 ki_0 ?_
      refine xB_sipush hF dX6_gives_38 ks_9999 ?_
      obtain ⟨r4, h5, e6, e⟩ := bn_of e
      refine xB_callSi hF dX6_gives_41 (t_X6_within e6) cw_X6_78 rfl rfl rfl rfl ?_
      refine xB_if_eq (tgt := 62) hF dX6_gives_44 rfl e (fun _ e => ?_) (fun _ e => ?_)
      · refine xB_ldc hF dX6_gives_62 kc_X6_85 ?_
        exact xB_ireturn hF dX6_gives_64 e
      · refine xB_aload_n hF dX6_gives_47 rfl ?_
        refine xB_get hF dX6_gives_48 fl_X6_28 sC_0 rfl rfl ?_
        refine xB_get hF dX6_gives_51 fl_X6_132 isX5_24.1 rfl rfl ?_
        refine xB_iload_n hF dX6_gives_54 rfl ?_
        refine xB_iload_n hF dX6_gives_55 rfl ?_
        obtain ⟨r7, h8, e9, e⟩ := bn_of e
        refine xB_callSi hF dX6_gives_56 (t_X6_exchange sC_31 e9) cw_X6_128 rfl rfl rfl rfl ?_
        refine xB_goto (tgt := 64) hF dX6_gives_59 rfl ?_
        exact xB_ireturn hF dX6_gives_64 e
    rcases if_of e with ⟨c1, e⟩ | ⟨c1, e⟩
    · refine xB_lookup (off := 54) (tgt := 65) hF dX6_gives_11 (by decide +kernel) (xlk c1 (by decide +kernel)) rfl ?_
      refine xB_iload_n hF dX6_gives_65 rfl ?_
      refine xB_iconst hF dX6_gives_66 ki_0 ?_
      refine xB_bipush hF dX6_gives_67 kb_9 ?_
      obtain ⟨r10, h11, e12, e⟩ := bn_of e
      refine xB_callSi hF dX6_gives_69 (t_X6_within e12) cw_X6_78 rfl rfl rfl rfl ?_
      refine xB_if_eq (tgt := 90) hF dX6_gives_72 rfl e (fun _ e => ?_) (fun _ e => ?_)
      · refine xB_ldc hF dX6_gives_90 kc_X6_85 ?_
        exact xB_ireturn hF dX6_gives_92 e
      · refine xB_aload_n hF dX6_gives_75 rfl ?_
        refine xB_get hF dX6_gives_76 fl_X6_28 sC_0 rfl rfl ?_
        refine xB_get hF dX6_gives_79 fl_X6_135 isX5_24.1 rfl rfl ?_
        refine xB_iload_n hF dX6_gives_82 rfl ?_
        refine xB_iload_n hF dX6_gives_83 rfl ?_
        obtain ⟨r13, h14, e15, e⟩ := bn_of e
        refine xB_callSi hF dX6_gives_84 (t_X6_exchange sC_32 e15) cw_X6_128 rfl rfl rfl rfl ?_
        refine xB_goto (tgt := 92) hF dX6_gives_87 rfl ?_
        exact xB_ireturn hF dX6_gives_92 e
    refine xB_lookup (off := 82) (tgt := 93) hF dX6_gives_11 (by decide +kernel) (xlkD [(0, 25), (1, 54)] (by have := xne (v := (0)) (n := 0) rfl c0; have := xne (v := (1)) (n := 1) rfl c1; simp only [List.forall_mem_cons, List.not_mem_nil, false_implies, implies_true, and_true]; omega)) rfl ?_
    refine xB_ldc hF dX6_gives_93 kc_X6_85 ?_
    exact xB_ireturn hF dX6_gives_95 e
def f_X5_bidOf (w : Nat) (a1 : Int32) (a2 : Int32) (a3 : Int32) (h : xH) : Option (Int32 × xH) :=
    gd a2 10 <| gd a1 6 <| nm (if 0 ≤ ((h (w + 3) (Int32.toNatClampNeg a2)) - (h (w + 8) (Int32.toNatClampNeg a1))) then ((h (w + 3) (Int32.toNatClampNeg a2)) - (h (w + 8) (Int32.toNatClampNeg a1))) else 0 - ((h (w + 3) (Int32.toNatClampNeg a2)) - (h (w + 8) (Int32.toNatClampNeg a1)))) fun x1 => nm (if 0 < (a3 - (5 * x1)) then (a3 - (5 * x1)) else 0) fun x2 => gd a2 10 <| if (h (w + 5) (Int32.toNatClampNeg a2)) = a1 then (some (x2, h)) else (gd a1 6 <| nm (if (h (w + 7) (Int32.toNatClampNeg a1)) < x2 then (h (w + 7) (Int32.toNatClampNeg a1)) else x2) fun x3 => some (x3, h))
set_option maxRecDepth 20000 in
set_option maxHeartbeats 2000000 in
theorem t_X5_bidOf {l : Launch} {γ : xG} {w : Nat} {a1 : Int32} {a2 : Int32} {a3 : Int32} {h : xH} {r : Int32} {hr : xH} (hw : isX5 w) (e : f_X5_bidOf w a1 a2 a3 h = some (r, hr)) : xCT l γ xSC yX5_bidOf cX5_bidOf 5 (some .int) 1 [.ref (γ.2.2.2 w), .int a1, .int a2, .int a3] h (some (.int r)) hr := by
  refine xCT.of (own := RX5) (L := [some (.ref (γ.2.2.2 w)), some (.int a1), some (.int a2), some (.int a3), none]) (by decide) rfl rfl rfl (fun C hF => ?_)
  unfold f_X5_bidOf at e
  refine xB_iconst hF dX5_bidOf_0 ki_0 ?_
  refine xB_iload_n hF dX5_bidOf_1 rfl ?_
  refine xB_iconst hF dX5_bidOf_2 ki_5 ?_
  refine xB_aload_n hF dX5_bidOf_3 rfl ?_
  refine xB_get hF dX5_bidOf_4 fl_X5_18 hw.1 rfl rfl ?_
  refine xB_iload_n hF dX5_bidOf_7 rfl ?_
  refine xB_iald hF dX5_bidOf_8 hw.2.2.2.1 e (fun e => ?_)
  refine xB_aload_n hF dX5_bidOf_9 rfl ?_
  refine xB_get hF dX5_bidOf_10 fl_X5_33 hw.1 rfl rfl ?_
  refine xB_iload_n hF dX5_bidOf_13 rfl ?_
  refine xB_iald hF dX5_bidOf_14 hw.2.2.2.2.2.2.2.2.1 e (fun e => ?_)
  refine xB_isub hF dX5_bidOf_15 ?_
  refine xB_mabs hF dX5_bidOf_16 ml_X5_96 mw_abs rfl rfl ?_
  replace e := nm_of e
  refine xB_imul hF dX5_bidOf_19 ?_
  refine xB_isub hF dX5_bidOf_20 ?_
  refine xB_mmax hF dX5_bidOf_21 ml_X5_78 mw_max rfl rfl ?_
  replace e := nm_of e
  refine xB_istore (L' := [_, _, _, _, _]) hF dX5_bidOf_24 rfl rfl rfl ?_
  refine xB_aload_n hF dX5_bidOf_26 rfl ?_
  refine xB_get hF dX5_bidOf_27 fl_X5_24 hw.1 rfl rfl ?_
  refine xB_iload_n hF dX5_bidOf_30 rfl ?_
  refine xB_iald hF dX5_bidOf_31 hw.2.2.2.2.2.1 e (fun e => ?_)
  refine xB_iload_n hF dX5_bidOf_32 rfl ?_
  refine xB_icmp_ne (tgt := 41) hF dX5_bidOf_33 rfl e (fun _ e => ?_) (fun _ e => ?_)
  · refine xB_iload hF dX5_bidOf_36 rfl ?_
    refine xB_goto (tgt := 52) hF dX5_bidOf_38 rfl ?_
    exact xB_ireturn hF dX5_bidOf_52 e
  · refine xB_iload hF dX5_bidOf_41 rfl ?_
    refine xB_aload_n hF dX5_bidOf_43 rfl ?_
    refine xB_get hF dX5_bidOf_44 fl_X5_30 hw.1 rfl rfl ?_
    refine xB_iload_n hF dX5_bidOf_47 rfl ?_
    refine xB_iald hF dX5_bidOf_48 hw.2.2.2.2.2.2.2.1 e (fun e => ?_)
    refine xB_mmin hF dX5_bidOf_49 ml_X5_100 mw_min rfl rfl ?_
    replace e := nm_of e
    exact xB_ireturn hF dX5_bidOf_52 e
def f_X6_offer (a1 : Int32) (a2 : Int32) (h : xH) : Option (Int32 × xH) :=
    bn (f_X6_isOne a1 h) fun r1 h2 => if r1 = 0 then (some ((-1000000001), h2)) else (bn (f_X6_isDay a2 h2) fun r4 h5 => if r4 = 0 then (some ((-1000000001), h5)) else (bn (f_X5_valueOf 24 a2 h5) fun r7 h8 => bn (f_X5_bidOf 24 a1 a2 r7 h8) fun r10 h11 => some (r10, h11)))
set_option maxRecDepth 20000 in
set_option maxHeartbeats 2000000 in
theorem t_X6_offer {l : Launch} {γ : xG} {a1 : Int32} {a2 : Int32} {h : xH} {r : Int32} {hr : xH} (e : f_X6_offer a1 a2 h = some (r, hr)) : xCT l γ xSC yX6_offer cX6_offer 3 (some .int) 4 [.ref (γ.2.2.2 0), .int a1, .int a2] h (some (.int r)) hr := by
  refine xCT.of (own := RX6) (L := [some (.ref (γ.2.2.2 0)), some (.int a1), some (.int a2)]) (by decide) rfl rfl rfl (fun C hF => ?_)
  unfold f_X6_offer at e
  refine xB_iload_n hF dX6_offer_0 rfl ?_
  obtain ⟨r1, h2, e3, e⟩ := bn_of e
  refine xB_callSi hF dX6_offer_1 (t_X6_isOne e3) cw_X6_82 rfl rfl rfl rfl ?_
  refine xB_if_eq (tgt := 15) hF dX6_offer_4 rfl e (fun _ e => ?_) (fun _ e => ?_)
  · refine xB_ldc hF dX6_offer_15 kc_X6_85 ?_
    exact xB_ireturn hF dX6_offer_17 e
  · refine xB_aload_n hF dX6_offer_7 rfl ?_
    refine xB_iload_n hF dX6_offer_8 rfl ?_
    obtain ⟨r4, h5, e6, e⟩ := bn_of e
    refine xB_callVi hF dX6_offer_9 (t_X6_isDay e6) cw_X6_94 sC_0 rfl rfl rfl rfl rfl ?_
    refine xB_if_ne (tgt := 18) hF dX6_offer_12 rfl e (fun _ e => ?_) (fun _ e => ?_)
    · refine xB_ldc hF dX6_offer_15 kc_X6_85 ?_
      exact xB_ireturn hF dX6_offer_17 e
    · refine xB_aload_n hF dX6_offer_18 rfl ?_
      refine xB_get hF dX6_offer_19 fl_X6_28 sC_0 rfl rfl ?_
      refine xB_iload_n hF dX6_offer_22 rfl ?_
      refine xB_iload_n hF dX6_offer_23 rfl ?_
      refine xB_aload_n hF dX6_offer_24 rfl ?_
      refine xB_get hF dX6_offer_25 fl_X6_28 sC_0 rfl rfl ?_
      refine xB_iload_n hF dX6_offer_28 rfl ?_
      obtain ⟨r7, h8, e9, e⟩ := bn_of e
      refine xB_callVi hF dX6_offer_29 (t_X5_valueOf isX5_24 e9) cw_X6_115 isX5_24.1 rfl rfl rfl rfl rfl ?_
      obtain ⟨r10, h11, e12, e⟩ := bn_of e
      refine xB_callVi hF dX6_offer_32 (t_X5_bidOf isX5_24 e12) cw_X6_141 isX5_24.1 rfl rfl rfl rfl rfl ?_
      exact xB_ireturn hF dX6_offer_35 e
def f_X5_draw (w : Nat) (h : xH) : Option (Int32 × xH) :=
    nm (xst h w 15 (((h w 15) * 1103515245) + 12345)) fun h1 => some (((h1 w 15 : Int32).toUInt32 >>> ((8 : Int32).toUInt32 &&& Int32.toUInt32 31)).toInt32, h1)
set_option maxRecDepth 20000 in
set_option maxHeartbeats 2000000 in
theorem t_X5_draw {l : Launch} {γ : xG} {w : Nat} {h : xH} {r : Int32} {hr : xH} (hw : isX5 w) (e : f_X5_draw w h = some (r, hr)) : xCT l γ xSC yX5_draw cX5_draw 1 (some .int) 0 [.ref (γ.2.2.2 w)] h (some (.int r)) hr := by
  refine xCT.of (own := RX5) (L := [some (.ref (γ.2.2.2 w))]) (by decide) rfl rfl rfl (fun C hF => ?_)
  unfold f_X5_draw at e
  refine xB_aload_n hF dX5_draw_0 rfl ?_
  refine xB_aload_n hF dX5_draw_1 rfl ?_
  refine xB_get hF dX5_draw_2 fl_X5_43 hw.1 rfl rfl ?_
  refine xB_ldc hF dX5_draw_5 kc_X5_69 ?_
  refine xB_imul hF dX5_draw_7 ?_
  refine xB_sipush hF dX5_draw_8 ks_12345 ?_
  refine xB_iadd hF dX5_draw_11 ?_
  refine xB_put hF dX5_draw_12 fp_X5_43 hw.1 rfl rfl rfl rfl rfl ?_
  refine xB_gen e (fun h1 e => ?_)
  refine xB_aload_n hF dX5_draw_15 rfl ?_
  refine xB_get hF dX5_draw_16 fl_X5_43 hw.1 rfl rfl ?_
  refine xB_bipush hF dX5_draw_19 kb_8 ?_
  refine xB_iushr hF dX5_draw_21 ?_
  exact xB_ireturn hF dX5_draw_22 e
def f_X5_drawDay (w : Nat) (h : xH) : Option (Int32 × xH) :=
    bn (f_X5_draw w h) fun r1 h2 => bn (f_X5_draw w h2) fun r4 h5 => bn (f_X5_draw w h5) fun r7 h8 => bn (f_X5_draw w h8) fun r10 h11 => bn (f_X5_addDay w (r1 - r1 / 6 * 6) (r4 - r4 / 100 * 100) (r7 - r7 / 10 * 10) (r10 - r10 / 6 * 6) h11) fun r13 h14 => some (0, h14)
set_option maxRecDepth 20000 in
set_option maxHeartbeats 2000000 in
theorem t_X5_drawDay {l : Launch} {γ : xG} {w : Nat} {h : xH} {r : Int32} {hr : xH} (hw : isX5 w) (e : f_X5_drawDay w h = some (r, hr)) : xCT l γ xSC yX5_drawDay cX5_drawDay 5 none 1 [.ref (γ.2.2.2 w)] h none hr := by
  refine xCT.of (own := RX5) (L := [some (.ref (γ.2.2.2 w)), none, none, none, none]) (by decide) rfl rfl rfl (fun C hF => ?_)
  unfold f_X5_drawDay at e
  refine xB_aload_n hF dX5_drawDay_0 rfl ?_
  obtain ⟨r1, h2, e3, e⟩ := bn_of e
  refine xB_callVi hF dX5_drawDay_1 (t_X5_draw hw e3) cw_X5_70 hw.1 rfl rfl rfl rfl rfl ?_
  refine xB_bipush hF dX5_drawDay_4 kb_6 ?_
  refine xB_iremc hF dX5_drawDay_6 (by decide) ?_
  refine xB_istore_n (L' := [_, _, _, _, _]) hF dX5_drawDay_7 rfl rfl rfl ?_
  refine xB_aload_n hF dX5_drawDay_8 rfl ?_
  obtain ⟨r4, h5, e6, e⟩ := bn_of e
  refine xB_callVi hF dX5_drawDay_9 (t_X5_draw hw e6) cw_X5_70 hw.1 rfl rfl rfl rfl rfl ?_
  refine xB_bipush hF dX5_drawDay_12 kb_100 ?_
  refine xB_iremc hF dX5_drawDay_14 (by decide) ?_
  refine xB_istore_n (L' := [_, _, _, _, _]) hF dX5_drawDay_15 rfl rfl rfl ?_
  refine xB_aload_n hF dX5_drawDay_16 rfl ?_
  obtain ⟨r7, h8, e9, e⟩ := bn_of e
  refine xB_callVi hF dX5_drawDay_17 (t_X5_draw hw e9) cw_X5_70 hw.1 rfl rfl rfl rfl rfl ?_
  refine xB_bipush hF dX5_drawDay_20 kb_10 ?_
  refine xB_iremc hF dX5_drawDay_22 (by decide) ?_
  refine xB_istore_n (L' := [_, _, _, _, _]) hF dX5_drawDay_23 rfl rfl rfl ?_
  refine xB_aload_n hF dX5_drawDay_24 rfl ?_
  obtain ⟨r10, h11, e12, e⟩ := bn_of e
  refine xB_callVi hF dX5_drawDay_25 (t_X5_draw hw e12) cw_X5_70 hw.1 rfl rfl rfl rfl rfl ?_
  refine xB_bipush hF dX5_drawDay_28 kb_6 ?_
  refine xB_iremc hF dX5_drawDay_30 (by decide) ?_
  refine xB_istore (L' := [_, _, _, _, _]) hF dX5_drawDay_31 rfl rfl rfl ?_
  refine xB_aload_n hF dX5_drawDay_33 rfl ?_
  refine xB_iload_n hF dX5_drawDay_34 rfl ?_
  refine xB_iload_n hF dX5_drawDay_35 rfl ?_
  refine xB_iload_n hF dX5_drawDay_36 rfl ?_
  refine xB_iload hF dX5_drawDay_37 rfl ?_
  obtain ⟨r13, h14, e15, e⟩ := bn_of e
  refine xB_callVi hF dX5_drawDay_39 (t_X5_addDay hw e15) cw_X5_74 hw.1 rfl rfl rfl rfl rfl ?_
  refine xB_pop hF dX5_drawDay_42 rfl ?_
  exact xB_vreturn hF dX5_drawDay_43 e
