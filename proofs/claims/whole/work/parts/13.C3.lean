def f_X3_renew_c12 (w : Nat) (a1 : Int32) (a2 : Int32) : Nat → Int32 → xH → Option (Int32 × xH)
  | 0, _, _ => none
  | n + 1, v3, h =>
    if 24 ≤ v3 then (some (0, h)) else (gd v3 24 <| nm (xst h (w + 1) (Int32.toNatClampNeg v3) 0) fun h1 => f_X3_renew_c12 w a1 a2 n (v3 + 1) h1)
set_option maxRecDepth 20000 in
set_option maxHeartbeats 2000000 in
theorem t_X3_renew_c12 {l : Launch} {γ : xG} {w : Nat} {a1 : Int32} {a2 : Int32} {r : Int32} {hr : xH} {C : xCx} (hF : xF C cX3_renew RX3 4 0 γ xSC none hr l none) (hw : isX3 w) : ∀ (n : Nat) (v3 : Int32) (h : xH), f_X3_renew_c12 w a1 a2 n v3 h = some (r, hr) → xB C h 12 [some (.ref (γ.2.2.2 w)), some (.int a1), some (.int a2), some (.int v3)] [] := by
  intro n
  induction n with
  | zero => intro v3 h e; cases e
  | succ n ih =>
    intro v3 h e
    rw [f_X3_renew_c12] at e
    refine xB_iload_n hF dX3_renew_12 rfl ?_
    refine xB_bipush hF dX3_renew_13 kb_24 ?_
    refine xB_icmp_ge (tgt := 31) hF dX3_renew_15 rfl e (fun _ e => ?_) (fun _ e => ?_)
    · exact xB_vreturn hF dX3_renew_31 e
    · refine xB_aload_n hF dX3_renew_18 rfl ?_
      refine xB_get hF dX3_renew_19 fl_X3_9 hw.1 rfl rfl ?_
      refine xB_iload_n hF dX3_renew_22 rfl ?_
      refine xB_iconst hF dX3_renew_23 ki_0 ?_
      refine xB_iast hF dX3_renew_24 hw.2 e (fun e => ?_)
      replace e := nm_of e
      refine xB_iinc (L' := [_, _, _, _]) hF dX3_renew_25 rfl ki_1 rfl rfl rfl ?_
      refine xB_goto (tgt := 12) hF dX3_renew_28 rfl ?_
      exact xB_l (ih _ _ e) (And.intro rfl (And.intro rfl (And.intro rfl (And.intro rfl (True.intro)))))
def f_X3_renew (w : Nat) (a1 : Int32) (a2 : Int32) (h : xH) : Option (Int32 × xH) :=
    nm (xst h w 1 a1) fun h1 => nm (xst h1 w 2 a2) fun h2 => f_X3_renew_c12 w a1 a2 xN 0 h2
set_option maxRecDepth 20000 in
set_option maxHeartbeats 2000000 in
theorem t_X3_renew {l : Launch} {γ : xG} {w : Nat} {a1 : Int32} {a2 : Int32} {h : xH} {r : Int32} {hr : xH} (hw : isX3 w) (e : f_X3_renew w a1 a2 h = some (r, hr)) : xCT l γ xSC yX3_renew cX3_renew 4 none 0 [.ref (γ.2.2.2 w), .int a1, .int a2] h none hr := by
  refine xCT.of (own := RX3) (L := [some (.ref (γ.2.2.2 w)), some (.int a1), some (.int a2), none]) (by decide) rfl rfl rfl (fun C hF => ?_)
  unfold f_X3_renew at e
  refine xB_aload_n hF dX3_renew_0 rfl ?_
  refine xB_iload_n hF dX3_renew_1 rfl ?_
  refine xB_put hF dX3_renew_2 fp_X3_15 hw.1 rfl rfl rfl rfl rfl ?_
  replace e := nm_of e
  refine xB_aload_n hF dX3_renew_5 rfl ?_
  refine xB_iload_n hF dX3_renew_6 rfl ?_
  refine xB_put hF dX3_renew_7 fp_X3_19 hw.1 rfl rfl rfl rfl rfl ?_
  replace e := nm_of e
  refine xB_iconst hF dX3_renew_10 ki_0 ?_
  refine xB_istore_n (L' := [_, _, _, _]) hF dX3_renew_11 rfl rfl rfl ?_
  exact xB_l (t_X3_renew_c12 hF hw _ _ _ e) (And.intro rfl (And.intro rfl (And.intro rfl (And.intro rfl (True.intro)))))
def f_X6_sheet (a1 : Int32) (a2 : Int32) (a3 : Int32) (h : xH) : Option (Int32 × xH) :=
    bn (f_X6_isSheet a1 h) fun r1 h2 => if r1 = 0 then (some ((-1000000001), h2)) else (bn (f_X6_within a2 (-1) 1 h2) fun r4 h5 => if r4 = 0 then (some ((-1000000001), h5)) else (if a2 = (-1) then (gd a1 4 <| bn (f_X3_renew (60 + 2 * (Int32.toNatClampNeg a1)) (-1) 0 h5) fun r12 h13 => some (0, h13)) else (if a3 ≤ 24 then (if 0 ≤ a3 then (gd a1 4 <| bn (f_X3_renew (60 + 2 * (Int32.toNatClampNeg a1)) a2 a3 h5) fun r8 h9 => some (a3, h9)) else (some ((-1000000014), h5))) else (some ((-1000000001), h5)))))
set_option maxRecDepth 20000 in
set_option maxHeartbeats 2000000 in
theorem t_X6_sheet {l : Launch} {γ : xG} {a1 : Int32} {a2 : Int32} {a3 : Int32} {h : xH} {r : Int32} {hr : xH} (e : f_X6_sheet a1 a2 a3 h = some (r, hr)) : xCT l γ xSC yX6_sheet cX6_sheet 4 (some .int) 2 [.ref (γ.2.2.2 0), .int a1, .int a2, .int a3] h (some (.int r)) hr := by
  refine xCT.of (own := RX6) (L := [some (.ref (γ.2.2.2 0)), some (.int a1), some (.int a2), some (.int a3)]) (by decide) rfl rfl rfl (fun C hF => ?_)
  unfold f_X6_sheet at e
  refine xB_iload_n hF dX6_sheet_0 rfl ?_
  obtain ⟨r1, h2, e3, e⟩ := bn_of e
  refine xB_callSi hF dX6_sheet_1 (t_X6_isSheet e3) cw_X6_215 rfl rfl rfl rfl ?_
  refine xB_if_eq (tgt := 16) hF dX6_sheet_4 rfl e (fun _ e => ?_) (fun _ e => ?_)
  · refine xB_ldc hF dX6_sheet_16 kc_X6_85 ?_
    exact xB_ireturn hF dX6_sheet_18 e
  · refine xB_iload_n hF dX6_sheet_7 rfl ?_
    refine xB_iconst hF dX6_sheet_8 ki_m1 ?_
    refine xB_iconst hF dX6_sheet_9 ki_1 ?_
    obtain ⟨r4, h5, e6, e⟩ := bn_of e
    refine xB_callSi hF dX6_sheet_10 (t_X6_within e6) cw_X6_78 rfl rfl rfl rfl ?_
    refine xB_if_ne (tgt := 19) hF dX6_sheet_13 rfl e (fun _ e => ?_) (fun _ e => ?_)
    · refine xB_ldc hF dX6_sheet_16 kc_X6_85 ?_
      exact xB_ireturn hF dX6_sheet_18 e
    · refine xB_iload_n hF dX6_sheet_19 rfl ?_
      refine xB_iconst hF dX6_sheet_20 ki_m1 ?_
      refine xB_icmp_ne (tgt := 37) hF dX6_sheet_21 rfl e (fun _ e => ?_) (fun _ e => ?_)
      · refine xB_aload_n hF dX6_sheet_24 rfl ?_
        refine xB_get hF dX6_sheet_25 fl_X6_51 sC_0 rfl rfl ?_
        refine xB_iload_n hF dX6_sheet_28 rfl ?_
        refine xB_aald hF dX6_sheet_29 sC_59 rfl rfl e (fun q11 e => ?_)
        refine xB_iconst hF dX6_sheet_30 ki_m1 ?_
        refine xB_iconst hF dX6_sheet_31 ki_0 ?_
        obtain ⟨r12, h13, e14, e⟩ := bn_of e
        refine xB_callVv hF dX6_sheet_32 (t_X3_renew (isX3_sheet q11) e14) cw_X6_265 ((isX3_sheet q11).1) rfl rfl rfl rfl rfl ?_
        refine xB_iconst hF dX6_sheet_35 ki_0 ?_
        exact xB_ireturn hF dX6_sheet_36 e
      · refine xB_iload_n hF dX6_sheet_37 rfl ?_
        refine xB_bipush hF dX6_sheet_38 kb_24 ?_
        refine xB_icmp_le (tgt := 46) hF dX6_sheet_40 rfl e (fun _ e => ?_) (fun _ e => ?_)
        · refine xB_iload_n hF dX6_sheet_46 rfl ?_
          refine xB_if_ge (tgt := 54) hF dX6_sheet_47 rfl e (fun _ e => ?_) (fun _ e => ?_)
          · refine xB_aload_n hF dX6_sheet_54 rfl ?_
            refine xB_get hF dX6_sheet_55 fl_X6_51 sC_0 rfl rfl ?_
            refine xB_iload_n hF dX6_sheet_58 rfl ?_
            refine xB_aald hF dX6_sheet_59 sC_59 rfl rfl e (fun q7 e => ?_)
            refine xB_iload_n hF dX6_sheet_60 rfl ?_
            refine xB_iload_n hF dX6_sheet_61 rfl ?_
            obtain ⟨r8, h9, e10, e⟩ := bn_of e
            refine xB_callVv hF dX6_sheet_62 (t_X3_renew (isX3_sheet q7) e10) cw_X6_265 ((isX3_sheet q7).1) rfl rfl rfl rfl rfl ?_
            refine xB_iload_n hF dX6_sheet_65 rfl ?_
            exact xB_ireturn hF dX6_sheet_66 e
          · refine xB_ldcw hF dX6_sheet_50 kc_X6_269 ?_
            exact xB_ireturn hF dX6_sheet_53 e
        · refine xB_ldc hF dX6_sheet_43 kc_X6_85 ?_
          exact xB_ireturn hF dX6_sheet_45 e
def f_X3_hasPlace (w : Nat) (a1 : Int32) (h : xH) : Option (Int32 × xH) :=
    bn (f_X6_within a1 0 ((h w 2) - 1) h) fun r1 h2 => gb r1 (some (r1, h2))
set_option maxRecDepth 20000 in
set_option maxHeartbeats 2000000 in
theorem t_X3_hasPlace {l : Launch} {γ : xG} {w : Nat} {a1 : Int32} {h : xH} {r : Int32} {hr : xH} (hw : isX3 w) (e : f_X3_hasPlace w a1 h = some (r, hr)) : xCT l γ xSC yX3_hasPlace cX3_hasPlace 2 (some .boolean) 1 [.ref (γ.2.2.2 w), .int a1] h (some (.int r)) hr := by
  refine xCT.of (own := RX3) (L := [some (.ref (γ.2.2.2 w)), some (.int a1)]) (by decide) rfl rfl rfl (fun C hF => ?_)
  unfold f_X3_hasPlace at e
  refine xB_iload_n hF dX3_hasPlace_0 rfl ?_
  refine xB_iconst hF dX3_hasPlace_1 ki_0 ?_
  refine xB_aload_n hF dX3_hasPlace_2 rfl ?_
  refine xB_get hF dX3_hasPlace_3 fl_X3_19 hw.1 rfl rfl ?_
  refine xB_iconst hF dX3_hasPlace_6 ki_1 ?_
  refine xB_isub hF dX3_hasPlace_7 ?_
  obtain ⟨r1, h2, e3, e⟩ := bn_of e
  refine xB_callNi hF dX3_hasPlace_8 (t_X6_within e3) cw_X3_28 rfl rfl rfl rfl ?_
  exact xB_breturn hF dX3_hasPlace_11 e
def f_X6_mark_c93 (a1 : Int32) (a2 : Int32) (a3 : Int32) (v4 : Nat) (h : xH) : Option (Int32 × xH) :=
    gd a2 24 <| nm (xst h (v4 + 1) (Int32.toNatClampNeg a2) a3) fun h1 => some (1, h1)
set_option maxRecDepth 20000 in
set_option maxHeartbeats 2000000 in
theorem t_X6_mark_c93 {l : Launch} {γ : xG} {a1 : Int32} {a2 : Int32} {a3 : Int32} {r : Int32} {hr : xH} {C : xCx} (hF : xF C cX6_mark RX6 5 2 γ xSC (some (.int r)) hr l (some .int)) : ∀ (v4 : Nat) (hv4 : isX3 v4) (h : xH), f_X6_mark_c93 a1 a2 a3 v4 h = some (r, hr) → xB C h 93 [some (.ref (γ.2.2.2 0)), some (.int a1), some (.int a2), some (.int a3), some (.ref (γ.2.2.2 v4))] [] := by
  intro v4 hv4 h e
  unfold f_X6_mark_c93 at e
  refine xB_aload hF dX6_mark_93 rfl ?_
  refine xB_get hF dX6_mark_95 fl_X6_274 hv4.1 rfl rfl ?_
  refine xB_iload_n hF dX6_mark_98 rfl ?_
  refine xB_iload_n hF dX6_mark_99 rfl ?_
  refine xB_iast hF dX6_mark_100 hv4.2 e (fun e => ?_)
  replace e := nm_of e
  refine xB_iconst hF dX6_mark_101 ki_1 ?_
  exact xB_ireturn hF dX6_mark_102 e
def f_X6_mark (a1 : Int32) (a2 : Int32) (a3 : Int32) (h : xH) : Option (Int32 × xH) :=
    bn (f_X6_isSheet a1 h) fun r1 h2 => if r1 = 0 then (some ((-1000000001), h2)) else (gd a1 4 <| if (h2 (60 + 2 * (Int32.toNatClampNeg a1)) 1) = (-1) then (some ((-1000000011), h2)) else (bn (f_X3_hasPlace (60 + 2 * (Int32.toNatClampNeg a1)) a2 h2) fun r5 h6 => if r5 = 0 then (some ((-1000000013), h6)) else (if (h6 (60 + 2 * (Int32.toNatClampNeg a1)) 1) = 0 then (if a3 = (-1000000005) then (some ((-1000000012), h6)) else (gd a2 24 <| nm (xst h6 ((60 + 2 * (Int32.toNatClampNeg a1)) + 1) (Int32.toNatClampNeg a2) ((Int32.toInt16 a3).toInt32)) fun h11 => some (1, h11))) else (if a3 = (-1000000005) then (f_X6_mark_c93 a1 a2 a3 (60 + 2 * (Int32.toNatClampNeg a1)) h6) else (bn (f_X6_within a3 (-99999) 99999 h6) fun r8 h9 => if r8 = 0 then (some ((-1000000001), h9)) else (f_X6_mark_c93 a1 a2 a3 (60 + 2 * (Int32.toNatClampNeg a1)) h9))))))
set_option maxRecDepth 20000 in
set_option maxHeartbeats 2000000 in
theorem t_X6_mark {l : Launch} {γ : xG} {a1 : Int32} {a2 : Int32} {a3 : Int32} {h : xH} {r : Int32} {hr : xH} (e : f_X6_mark a1 a2 a3 h = some (r, hr)) : xCT l γ xSC yX6_mark cX6_mark 5 (some .int) 2 [.ref (γ.2.2.2 0), .int a1, .int a2, .int a3] h (some (.int r)) hr := by
  refine xCT.of (own := RX6) (L := [some (.ref (γ.2.2.2 0)), some (.int a1), some (.int a2), some (.int a3), none]) (by decide) rfl rfl rfl (fun C hF => ?_)
  unfold f_X6_mark at e
  refine xB_iload_n hF dX6_mark_0 rfl ?_
  obtain ⟨r1, h2, e3, e⟩ := bn_of e
  refine xB_callSi hF dX6_mark_1 (t_X6_isSheet e3) cw_X6_215 rfl rfl rfl rfl ?_
  refine xB_if_ne (tgt := 10) hF dX6_mark_4 rfl e (fun _ e => ?_) (fun _ e => ?_)
  · refine xB_ldc hF dX6_mark_7 kc_X6_85 ?_
    exact xB_ireturn hF dX6_mark_9 e
  · refine xB_aload_n hF dX6_mark_10 rfl ?_
    refine xB_get hF dX6_mark_11 fl_X6_51 sC_0 rfl rfl ?_
    refine xB_iload_n hF dX6_mark_14 rfl ?_
    refine xB_aald hF dX6_mark_15 sC_59 rfl rfl e (fun q4 e => ?_)
    refine xB_astore (L' := [_, _, _, _, _]) hF dX6_mark_16 rfl rfl rfl ?_
    refine xB_aload hF dX6_mark_18 rfl ?_
    refine xB_get hF dX6_mark_20 fl_X6_218 ((isX3_sheet q4).1) rfl rfl ?_
    refine xB_iconst hF dX6_mark_23 ki_m1 ?_
    refine xB_icmp_ne (tgt := 30) hF dX6_mark_24 rfl e (fun _ e => ?_) (fun _ e => ?_)
    · refine xB_ldc hF dX6_mark_27 kc_X6_221 ?_
      exact xB_ireturn hF dX6_mark_29 e
    · refine xB_aload hF dX6_mark_30 rfl ?_
      refine xB_iload_n hF dX6_mark_32 rfl ?_
      obtain ⟨r5, h6, e7, e⟩ := bn_of e
      refine xB_callVi hF dX6_mark_33 (t_X3_hasPlace (isX3_sheet q4) e7) cw_X6_270 ((isX3_sheet q4).1) rfl rfl rfl rfl rfl ?_
      refine xB_if_ne (tgt := 43) hF dX6_mark_36 rfl e (fun _ e => ?_) (fun _ e => ?_)
      · refine xB_ldcw hF dX6_mark_39 kc_X6_273 ?_
        exact xB_ireturn hF dX6_mark_42 e
      · refine xB_aload hF dX6_mark_43 rfl ?_
        refine xB_get hF dX6_mark_45 fl_X6_218 ((isX3_sheet q4).1) rfl rfl ?_
        refine xB_if_ne (tgt := 71) hF dX6_mark_48 rfl e (fun _ e => ?_) (fun _ e => ?_)
        · refine xB_iload_n hF dX6_mark_51 rfl ?_
          refine xB_ldc hF dX6_mark_52 kc_X6_184 ?_
          refine xB_icmp_ne (tgt := 60) hF dX6_mark_54 rfl e (fun _ e => ?_) (fun _ e => ?_)
          · refine xB_ldc hF dX6_mark_57 kc_X6_127 ?_
            exact xB_ireturn hF dX6_mark_59 e
          · refine xB_aload hF dX6_mark_60 rfl ?_
            refine xB_get hF dX6_mark_62 fl_X6_274 ((isX3_sheet q4).1) rfl rfl ?_
            refine xB_iload_n hF dX6_mark_65 rfl ?_
            refine xB_iload_n hF dX6_mark_66 rfl ?_
            refine xB_i2s hF dX6_mark_67 ?_
            refine xB_iast hF dX6_mark_68 ((isX3_sheet q4).2) e (fun e => ?_)
            replace e := nm_of e
            refine xB_iconst hF dX6_mark_69 ki_1 ?_
            exact xB_ireturn hF dX6_mark_70 e
        · refine xB_iload_n hF dX6_mark_71 rfl ?_
          refine xB_ldc hF dX6_mark_72 kc_X6_184 ?_
          refine xB_icmp_eq (tgt := 93) hF dX6_mark_74 rfl e (fun _ e => ?_) (fun _ e => ?_)
          · exact xB_l (t_X6_mark_c93 hF _ (isX3_sheet q4) _ e) (And.intro rfl (And.intro rfl (And.intro rfl (And.intro rfl (And.intro rfl (True.intro))))))
          · refine xB_iload_n hF dX6_mark_77 rfl ?_
            refine xB_ldcw hF dX6_mark_78 kc_X6_277 ?_
            refine xB_ldcw hF dX6_mark_81 kc_X6_278 ?_
            obtain ⟨r8, h9, e10, e⟩ := bn_of e
            refine xB_callSi hF dX6_mark_84 (t_X6_within e10) cw_X6_78 rfl rfl rfl rfl ?_
            refine xB_if_ne (tgt := 93) hF dX6_mark_87 rfl e (fun _ e => ?_) (fun _ e => ?_)
            · refine xB_ldc hF dX6_mark_90 kc_X6_85 ?_
              exact xB_ireturn hF dX6_mark_92 e
            · exact xB_l (t_X6_mark_c93 hF _ (isX3_sheet q4) _ e) (And.intro rfl (And.intro rfl (And.intro rfl (And.intro rfl (And.intro rfl (True.intro))))))
def f_X6_pour_c109 (k33 : Nat → Int32 → Int32 → xH → Option (Int32 × xH)) (a1 : Int32) (v2 : Nat) (v3 : Int32) (v4 : Int32) (h : xH) : Option (Int32 × xH) :=
    k33 v2 v3 (v4 + 1) h
set_option maxRecDepth 20000 in
set_option maxHeartbeats 2000000 in
theorem t_X6_pour_c109 {l : Launch} {γ : xG} {k33 : Nat → Int32 → Int32 → xH → Option (Int32 × xH)} {a1 : Int32} {r : Int32} {hr : xH} {C : xCx} (hF : xF C cX6_pour RX6 6 2 γ xSC (some (.int r)) hr l (some .int)) (hk33 : ∀ (v2 : Nat) (v3 : Int32) (v4 : Int32) (hv2 : isX3 v2) (h : xH), k33 v2 v3 v4 h = some (r, hr) → xB C h 33 [some (.ref (γ.2.2.2 0)), some (.int a1), some (.ref (γ.2.2.2 v2)), some (.int v3), some (.int v4), none] []) : ∀ (v2 : Nat) (v3 : Int32) (v4 : Int32) (hv2 : isX3 v2) (h : xH), f_X6_pour_c109 k33 a1 v2 v3 v4 h = some (r, hr) → xB C h 109 [some (.ref (γ.2.2.2 0)), some (.int a1), some (.ref (γ.2.2.2 v2)), some (.int v3), some (.int v4), none] [] := by
  intro v2 v3 v4 hv2 h e
  unfold f_X6_pour_c109 at e
  refine xB_iinc (L' := [_, _, _, _, _, _]) hF dX6_pour_109 rfl ki_1 rfl rfl rfl ?_
  refine xB_goto (tgt := 33) hF dX6_pour_112 rfl ?_
  exact xB_l (hk33 _ _ _ hv2 _ e) (And.intro rfl (And.intro rfl (And.intro rfl (And.intro rfl (And.intro rfl (True.intro))))))
def f_X6_pour_c95 (k33 : Nat → Int32 → Int32 → xH → Option (Int32 × xH)) (a1 : Int32) (v2 : Nat) (v4 : Int32) (v5 : Int32) (s0 : Int32) (s1 : Int32) (h : xH) : Option (Int32 × xH) :=
    gd v4 6 <| nm (xst h 31 (Int32.toNatClampNeg v4) v5) fun h1 => f_X6_pour_c109 k33 a1 v2 (s1 + s0) v4 h1
set_option maxRecDepth 20000 in
set_option maxHeartbeats 2000000 in
theorem t_X6_pour_c95 {l : Launch} {γ : xG} {k33 : Nat → Int32 → Int32 → xH → Option (Int32 × xH)} {a1 : Int32} {r : Int32} {hr : xH} {C : xCx} (hF : xF C cX6_pour RX6 6 2 γ xSC (some (.int r)) hr l (some .int)) (hk33 : ∀ (v2 : Nat) (v3 : Int32) (v4 : Int32) (hv2 : isX3 v2) (h : xH), k33 v2 v3 v4 h = some (r, hr) → xB C h 33 [some (.ref (γ.2.2.2 0)), some (.int a1), some (.ref (γ.2.2.2 v2)), some (.int v3), some (.int v4), none] []) : ∀ (v2 : Nat) (v4 : Int32) (v5 : Int32) (s0 : Int32) (s1 : Int32) (hv2 : isX3 v2) (h : xH), f_X6_pour_c95 k33 a1 v2 v4 v5 s0 s1 h = some (r, hr) → xB C h 95 [some (.ref (γ.2.2.2 0)), some (.int a1), some (.ref (γ.2.2.2 v2)), none, some (.int v4), some (.int v5)] [.int s0, .int s1] := by
  intro v2 v4 v5 s0 s1 hv2 h e
  unfold f_X6_pour_c95 at e
  refine xB_iadd hF dX6_pour_95 ?_
  refine xB_istore_n (L' := [_, _, _, _, _, _]) hF dX6_pour_96 rfl rfl rfl ?_
  refine xB_aload_n hF dX6_pour_97 rfl ?_
  refine xB_get hF dX6_pour_98 fl_X6_28 sC_0 rfl rfl ?_
  refine xB_get hF dX6_pour_101 fl_X6_132 isX5_24.1 rfl rfl ?_
  refine xB_iload hF dX6_pour_104 rfl ?_
  refine xB_iload hF dX6_pour_106 rfl ?_
  refine xB_iast hF dX6_pour_108 sC_31 e (fun e => ?_)
  replace e := nm_of e
  exact xB_l (t_X6_pour_c109 hF hk33 _ _ _ hv2 _ e) (And.intro rfl (And.intro rfl (And.intro rfl (And.intro rfl (And.intro rfl (True.intro))))))
def f_X6_pour_c33 (a1 : Int32) : Nat → Nat → Int32 → Int32 → xH → Option (Int32 × xH)
  | 0, _, _, _, _ => none
  | n + 1, v2, v3, v4, h =>
    if 6 ≤ v4 then (some (v3, h)) else (if (h v2 2) ≤ v4 then (some (v3, h)) else (bn (f_X3_isNumber v2 v4 h) fun r1 h2 => if r1 = 0 then (f_X6_pour_c109 (f_X6_pour_c33 a1 n) a1 v2 v3 v4 h2) else (gd v4 24 <| bn (f_X6_held (h2 (v2 + 1) (Int32.toNatClampNeg v4)) 0 9999 h2) fun r4 h5 => gd v4 6 <| if r4 = (h5 31 (Int32.toNatClampNeg v4)) then (f_X6_pour_c95 (f_X6_pour_c33 a1 n) a1 v2 v4 r4 0 v3 h5) else (f_X6_pour_c95 (f_X6_pour_c33 a1 n) a1 v2 v4 r4 1 v3 h5))))
set_option maxRecDepth 20000 in
set_option maxHeartbeats 2000000 in
theorem t_X6_pour_c33 {l : Launch} {γ : xG} {a1 : Int32} {r : Int32} {hr : xH} {C : xCx} (hF : xF C cX6_pour RX6 6 2 γ xSC (some (.int r)) hr l (some .int)) : ∀ (n : Nat) (v2 : Nat) (v3 : Int32) (v4 : Int32) (hv2 : isX3 v2) (h : xH), f_X6_pour_c33 a1 n v2 v3 v4 h = some (r, hr) → xB C h 33 [some (.ref (γ.2.2.2 0)), some (.int a1), some (.ref (γ.2.2.2 v2)), some (.int v3), some (.int v4), none] [] := by
  intro n
  induction n with
  | zero => intro v2 v3 v4 hv2 h e; cases e
  | succ n ih =>
    intro v2 v3 v4 hv2 h e
    rw [f_X6_pour_c33] at e
    refine xB_iload hF dX6_pour_33 rfl ?_
    refine xB_bipush hF dX6_pour_35 kb_6 ?_
    refine xB_icmp_ge (tgt := 115) hF dX6_pour_37 rfl e (fun _ e => ?_) (fun _ e => ?_)
    · refine xB_iload_n hF dX6_pour_115 rfl ?_
      exact xB_ireturn hF dX6_pour_116 e
    · refine xB_iload hF dX6_pour_40 rfl ?_
      refine xB_aload_n hF dX6_pour_42 rfl ?_
      refine xB_get hF dX6_pour_43 fl_X6_279 hv2.1 rfl rfl ?_
      refine xB_icmp_ge (tgt := 115) hF dX6_pour_46 rfl e (fun _ e => ?_) (fun _ e => ?_)
      · refine xB_iload_n hF dX6_pour_115 rfl ?_
        exact xB_ireturn hF dX6_pour_116 e
      · refine xB_aload_n hF dX6_pour_49 rfl ?_
        refine xB_iload hF dX6_pour_50 rfl ?_
        obtain ⟨r1, h2, e3, e⟩ := bn_of e
        refine xB_callVi hF dX6_pour_52 (t_X3_isNumber hv2 e3) cw_X6_280 hv2.1 rfl rfl rfl rfl rfl ?_
        refine xB_if_eq (tgt := 109) hF dX6_pour_55 rfl e (fun _ e => ?_) (fun _ e => ?_)
        · exact xB_l (t_X6_pour_c109 hF ih _ _ _ hv2 _ e) (And.intro rfl (And.intro rfl (And.intro rfl (And.intro rfl (And.intro rfl (True.intro))))))
        · refine xB_aload_n hF dX6_pour_58 rfl ?_
          refine xB_get hF dX6_pour_59 fl_X6_274 hv2.1 rfl rfl ?_
          refine xB_iload hF dX6_pour_62 rfl ?_
          refine xB_iald hF dX6_pour_64 hv2.2 e (fun e => ?_)
          refine xB_iconst hF dX6_pour_65 ki_0 ?_
          refine xB_sipush hF dX6_pour_66 ks_9999 ?_
          obtain ⟨r4, h5, e6, e⟩ := bn_of e
          refine xB_callSi hF dX6_pour_69 (t_X6_held e6) cw_X6_283 rfl rfl rfl rfl ?_
          refine xB_istore (L' := [_, _, _, _, _, _]) hF dX6_pour_72 rfl rfl rfl ?_
          refine xB_iload_n hF dX6_pour_74 rfl ?_
          refine xB_iload hF dX6_pour_75 rfl ?_
          refine xB_aload_n hF dX6_pour_77 rfl ?_
          refine xB_get hF dX6_pour_78 fl_X6_28 sC_0 rfl rfl ?_
          refine xB_get hF dX6_pour_81 fl_X6_132 isX5_24.1 rfl rfl ?_
          refine xB_iload hF dX6_pour_84 rfl ?_
          refine xB_iald hF dX6_pour_86 sC_31 e (fun e => ?_)
          refine xB_icmp_ne (tgt := 94) hF dX6_pour_87 rfl e (fun _ e => ?_) (fun _ e => ?_)
          · refine xB_iconst hF dX6_pour_90 ki_0 ?_
            refine xB_goto (tgt := 95) hF dX6_pour_91 rfl ?_
            exact xB_l (t_X6_pour_c95 hF ih _ _ _ _ _ hv2 _ e) (And.intro rfl (And.intro rfl (And.intro rfl (And.intro rfl (And.intro rfl (True.intro))))))
          · refine xB_iconst hF dX6_pour_94 ki_1 ?_
            exact xB_l (t_X6_pour_c95 hF ih _ _ _ _ _ hv2 _ e) (And.intro rfl (And.intro rfl (And.intro rfl (And.intro rfl (And.intro rfl (True.intro))))))
def f_X6_pour (a1 : Int32) (h : xH) : Option (Int32 × xH) :=
    bn (f_X6_isSheet a1 h) fun r1 h2 => if r1 = 0 then (some ((-1000000001), h2)) else (gd a1 4 <| if (h2 (60 + 2 * (Int32.toNatClampNeg a1)) 1) = (-1) then (some ((-1000000011), h2)) else (f_X6_pour_c33 a1 xN (60 + 2 * (Int32.toNatClampNeg a1)) 0 0 h2))
set_option maxRecDepth 20000 in
set_option maxHeartbeats 2000000 in
theorem t_X6_pour {l : Launch} {γ : xG} {a1 : Int32} {h : xH} {r : Int32} {hr : xH} (e : f_X6_pour a1 h = some (r, hr)) : xCT l γ xSC yX6_pour cX6_pour 6 (some .int) 2 [.ref (γ.2.2.2 0), .int a1] h (some (.int r)) hr := by
  refine xCT.of (own := RX6) (L := [some (.ref (γ.2.2.2 0)), some (.int a1), none, none, none, none]) (by decide) rfl rfl rfl (fun C hF => ?_)
  unfold f_X6_pour at e
  refine xB_iload_n hF dX6_pour_0 rfl ?_
  obtain ⟨r1, h2, e3, e⟩ := bn_of e
  refine xB_callSi hF dX6_pour_1 (t_X6_isSheet e3) cw_X6_215 rfl rfl rfl rfl ?_
  refine xB_if_ne (tgt := 10) hF dX6_pour_4 rfl e (fun _ e => ?_) (fun _ e => ?_)
  · refine xB_ldc hF dX6_pour_7 kc_X6_85 ?_
    exact xB_ireturn hF dX6_pour_9 e
  · refine xB_aload_n hF dX6_pour_10 rfl ?_
    refine xB_get hF dX6_pour_11 fl_X6_51 sC_0 rfl rfl ?_
    refine xB_iload_n hF dX6_pour_14 rfl ?_
    refine xB_aald hF dX6_pour_15 sC_59 rfl rfl e (fun q4 e => ?_)
    refine xB_astore_n (L' := [_, _, _, _, _, _]) hF dX6_pour_16 rfl rfl rfl ?_
    refine xB_aload_n hF dX6_pour_17 rfl ?_
    refine xB_get hF dX6_pour_18 fl_X6_218 ((isX3_sheet q4).1) rfl rfl ?_
    refine xB_iconst hF dX6_pour_21 ki_m1 ?_
    refine xB_icmp_ne (tgt := 28) hF dX6_pour_22 rfl e (fun _ e => ?_) (fun _ e => ?_)
    · refine xB_ldc hF dX6_pour_25 kc_X6_221 ?_
      exact xB_ireturn hF dX6_pour_27 e
    · refine xB_iconst hF dX6_pour_28 ki_0 ?_
      refine xB_istore_n (L' := [_, _, _, _, _, _]) hF dX6_pour_29 rfl rfl rfl ?_
      refine xB_iconst hF dX6_pour_30 ki_0 ?_
      refine xB_istore (L' := [_, _, _, _, _, _]) hF dX6_pour_31 rfl rfl rfl ?_
      exact xB_l (t_X6_pour_c33 hF _ _ _ _ (isX3_sheet q4) _ e) (And.intro rfl (And.intro rfl (And.intro rfl (And.intro rfl (And.intro rfl (True.intro))))))
def f_X6_reads_c74 (k30 : Nat → Int32 → xH → Option (Int32 × xH)) (a1 : Int32) (v2 : Nat) (v3 : Int32) (h : xH) : Option (Int32 × xH) :=
    k30 v2 (v3 + 1) h
set_option maxRecDepth 20000 in
set_option maxHeartbeats 2000000 in
theorem t_X6_reads_c74 {l : Launch} {γ : xG} {k30 : Nat → Int32 → xH → Option (Int32 × xH)} {a1 : Int32} {r : Int32} {hr : xH} {C : xCx} (hF : xF C cX6_reads RX6 4 2 γ xSC (some (.int r)) hr l (some .int)) (hk30 : ∀ (v2 : Nat) (v3 : Int32) (hv2 : isX3 v2) (h : xH), k30 v2 v3 h = some (r, hr) → xB C h 30 [some (.ref (γ.2.2.2 0)), some (.int a1), some (.ref (γ.2.2.2 v2)), some (.int v3)] []) : ∀ (v2 : Nat) (v3 : Int32) (hv2 : isX3 v2) (h : xH), f_X6_reads_c74 k30 a1 v2 v3 h = some (r, hr) → xB C h 74 [some (.ref (γ.2.2.2 0)), some (.int a1), some (.ref (γ.2.2.2 v2)), some (.int v3)] [] := by
  intro v2 v3 hv2 h e
  unfold f_X6_reads_c74 at e
  refine xB_iinc (L' := [_, _, _, _]) hF dX6_reads_74 rfl ki_1 rfl rfl rfl ?_
  refine xB_goto (tgt := 30) hF dX6_reads_77 rfl ?_
  exact xB_l (hk30 _ _ hv2 _ e) (And.intro rfl (And.intro rfl (And.intro rfl (And.intro rfl (True.intro)))))
def f_X6_reads_c30 (a1 : Int32) : Nat → Nat → Int32 → xH → Option (Int32 × xH)
  | 0, _, _, _ => none
  | n + 1, v2, v3, h =>
    if (h v2 2) ≤ v3 then (some ((-1000000005), h)) else (bn (f_X3_isNumber v2 v3 h) fun r1 h2 => if r1 = 0 then (f_X6_reads_c74 (f_X6_reads_c30 a1 n) a1 v2 v3 h2) else (bn (f_X6_isDay v3 h2) fun r4 h5 => if r4 = 0 then (some (v3, h5)) else (gd v3 24 <| gd v3 10 <| if (h5 (v2 + 1) (Int32.toNatClampNeg v3)) = (h5 28 (Int32.toNatClampNeg v3)) then (f_X6_reads_c74 (f_X6_reads_c30 a1 n) a1 v2 v3 h5) else (some (v3, h5)))))
set_option maxRecDepth 20000 in
set_option maxHeartbeats 2000000 in
theorem t_X6_reads_c30 {l : Launch} {γ : xG} {a1 : Int32} {r : Int32} {hr : xH} {C : xCx} (hF : xF C cX6_reads RX6 4 2 γ xSC (some (.int r)) hr l (some .int)) : ∀ (n : Nat) (v2 : Nat) (v3 : Int32) (hv2 : isX3 v2) (h : xH), f_X6_reads_c30 a1 n v2 v3 h = some (r, hr) → xB C h 30 [some (.ref (γ.2.2.2 0)), some (.int a1), some (.ref (γ.2.2.2 v2)), some (.int v3)] [] := by
  intro n
  induction n with
  | zero => intro v2 v3 hv2 h e; cases e
  | succ n ih =>
    intro v2 v3 hv2 h e
    rw [f_X6_reads_c30] at e
    refine xB_iload_n hF dX6_reads_30 rfl ?_
    refine xB_aload_n hF dX6_reads_31 rfl ?_
    refine xB_get hF dX6_reads_32 fl_X6_279 hv2.1 rfl rfl ?_
    refine xB_icmp_ge (tgt := 80) hF dX6_reads_35 rfl e (fun _ e => ?_) (fun _ e => ?_)
    · refine xB_ldc hF dX6_reads_80 kc_X6_184 ?_
      exact xB_ireturn hF dX6_reads_82 e
    · refine xB_aload_n hF dX6_reads_38 rfl ?_
      refine xB_iload_n hF dX6_reads_39 rfl ?_
      obtain ⟨r1, h2, e3, e⟩ := bn_of e
      refine xB_callVi hF dX6_reads_40 (t_X3_isNumber hv2 e3) cw_X6_280 hv2.1 rfl rfl rfl rfl rfl ?_
      refine xB_if_eq (tgt := 74) hF dX6_reads_43 rfl e (fun _ e => ?_) (fun _ e => ?_)
      · exact xB_l (t_X6_reads_c74 hF ih _ _ hv2 _ e) (And.intro rfl (And.intro rfl (And.intro rfl (And.intro rfl (True.intro)))))
      · refine xB_aload_n hF dX6_reads_46 rfl ?_
        refine xB_iload_n hF dX6_reads_47 rfl ?_
        obtain ⟨r4, h5, e6, e⟩ := bn_of e
        refine xB_callVi hF dX6_reads_48 (t_X6_isDay e6) cw_X6_94 sC_0 rfl rfl rfl rfl rfl ?_
        refine xB_if_eq (tgt := 72) hF dX6_reads_51 rfl e (fun _ e => ?_) (fun _ e => ?_)
        · refine xB_iload_n hF dX6_reads_72 rfl ?_
          exact xB_ireturn hF dX6_reads_73 e
        · refine xB_aload_n hF dX6_reads_54 rfl ?_
          refine xB_get hF dX6_reads_55 fl_X6_274 hv2.1 rfl rfl ?_
          refine xB_iload_n hF dX6_reads_58 rfl ?_
          refine xB_iald hF dX6_reads_59 hv2.2 e (fun e => ?_)
          refine xB_aload_n hF dX6_reads_60 rfl ?_
          refine xB_get hF dX6_reads_61 fl_X6_28 sC_0 rfl rfl ?_
          refine xB_get hF dX6_reads_64 fl_X6_106 isX5_24.1 rfl rfl ?_
          refine xB_iload_n hF dX6_reads_67 rfl ?_
          refine xB_iald hF dX6_reads_68 sC_28 e (fun e => ?_)
          refine xB_icmp_eq (tgt := 74) hF dX6_reads_69 rfl e (fun _ e => ?_) (fun _ e => ?_)
          · exact xB_l (t_X6_reads_c74 hF ih _ _ hv2 _ e) (And.intro rfl (And.intro rfl (And.intro rfl (And.intro rfl (True.intro)))))
          · refine xB_iload_n hF dX6_reads_72 rfl ?_
            exact xB_ireturn hF dX6_reads_73 e
def f_X6_reads (a1 : Int32) (h : xH) : Option (Int32 × xH) :=
    bn (f_X6_isSheet a1 h) fun r1 h2 => if r1 = 0 then (some ((-1000000001), h2)) else (gd a1 4 <| if (h2 (60 + 2 * (Int32.toNatClampNeg a1)) 1) = (-1) then (some ((-1000000011), h2)) else (f_X6_reads_c30 a1 xN (60 + 2 * (Int32.toNatClampNeg a1)) 0 h2))
set_option maxRecDepth 20000 in
set_option maxHeartbeats 2000000 in
theorem t_X6_reads {l : Launch} {γ : xG} {a1 : Int32} {h : xH} {r : Int32} {hr : xH} (e : f_X6_reads a1 h = some (r, hr)) : xCT l γ xSC yX6_reads cX6_reads 4 (some .int) 2 [.ref (γ.2.2.2 0), .int a1] h (some (.int r)) hr := by
  refine xCT.of (own := RX6) (L := [some (.ref (γ.2.2.2 0)), some (.int a1), none, none]) (by decide) rfl rfl rfl (fun C hF => ?_)
  unfold f_X6_reads at e
  refine xB_iload_n hF dX6_reads_0 rfl ?_
  obtain ⟨r1, h2, e3, e⟩ := bn_of e
  refine xB_callSi hF dX6_reads_1 (t_X6_isSheet e3) cw_X6_215 rfl rfl rfl rfl ?_
  refine xB_if_ne (tgt := 10) hF dX6_reads_4 rfl e (fun _ e => ?_) (fun _ e => ?_)
  · refine xB_ldc hF dX6_reads_7 kc_X6_85 ?_
    exact xB_ireturn hF dX6_reads_9 e
  · refine xB_aload_n hF dX6_reads_10 rfl ?_
    refine xB_get hF dX6_reads_11 fl_X6_51 sC_0 rfl rfl ?_
    refine xB_iload_n hF dX6_reads_14 rfl ?_
    refine xB_aald hF dX6_reads_15 sC_59 rfl rfl e (fun q4 e => ?_)
    refine xB_astore_n (L' := [_, _, _, _]) hF dX6_reads_16 rfl rfl rfl ?_
    refine xB_aload_n hF dX6_reads_17 rfl ?_
    refine xB_get hF dX6_reads_18 fl_X6_218 ((isX3_sheet q4).1) rfl rfl ?_
    refine xB_iconst hF dX6_reads_21 ki_m1 ?_
    refine xB_icmp_ne (tgt := 28) hF dX6_reads_22 rfl e (fun _ e => ?_) (fun _ e => ?_)
    · refine xB_ldc hF dX6_reads_25 kc_X6_221 ?_
      exact xB_ireturn hF dX6_reads_27 e
    · refine xB_iconst hF dX6_reads_28 ki_0 ?_
      refine xB_istore_n (L' := [_, _, _, _]) hF dX6_reads_29 rfl rfl rfl ?_
      exact xB_l (t_X6_reads_c30 hF _ _ _ (isX3_sheet q4) _ e) (And.intro rfl (And.intro rfl (And.intro rfl (And.intro rfl (True.intro)))))
def f_X3_hasRun (w : Nat) (a1 : Int32) (a2 : Int32) (h : xH) : Option (Int32 × xH) :=
    bn (f_X6_within a2 0 (h w 2) h) fun r1 h2 => if r1 = 0 then (some (0, h2)) else (bn (f_X6_within a1 0 ((h2 w 2) - a2) h2) fun r4 h5 => if r4 = 0 then (some (0, h5)) else (some (1, h5)))
set_option maxRecDepth 20000 in
set_option maxHeartbeats 2000000 in
theorem t_X3_hasRun {l : Launch} {γ : xG} {w : Nat} {a1 : Int32} {a2 : Int32} {h : xH} {r : Int32} {hr : xH} (hw : isX3 w) (e : f_X3_hasRun w a1 a2 h = some (r, hr)) : xCT l γ xSC yX3_hasRun cX3_hasRun 3 (some .boolean) 1 [.ref (γ.2.2.2 w), .int a1, .int a2] h (some (.int r)) hr := by
  refine xCT.of (own := RX3) (L := [some (.ref (γ.2.2.2 w)), some (.int a1), some (.int a2)]) (by decide) rfl rfl rfl (fun C hF => ?_)
  unfold f_X3_hasRun at e
  refine xB_iload_n hF dX3_hasRun_0 rfl ?_
  refine xB_iconst hF dX3_hasRun_1 ki_0 ?_
  refine xB_aload_n hF dX3_hasRun_2 rfl ?_
  refine xB_get hF dX3_hasRun_3 fl_X3_19 hw.1 rfl rfl ?_
  obtain ⟨r1, h2, e3, e⟩ := bn_of e
  refine xB_callNi hF dX3_hasRun_6 (t_X6_within e3) cw_X3_28 rfl rfl rfl rfl ?_
  refine xB_if_eq (tgt := 30) hF dX3_hasRun_9 rfl e (fun _ e => ?_) (fun _ e => ?_)
  · refine xB_iconst hF dX3_hasRun_30 ki_0 ?_
    exact xB_zreturn hF dX3_hasRun_31 rfl e
  · refine xB_iload_n hF dX3_hasRun_12 rfl ?_
    refine xB_iconst hF dX3_hasRun_13 ki_0 ?_
    refine xB_aload_n hF dX3_hasRun_14 rfl ?_
    refine xB_get hF dX3_hasRun_15 fl_X3_19 hw.1 rfl rfl ?_
    refine xB_iload_n hF dX3_hasRun_18 rfl ?_
    refine xB_isub hF dX3_hasRun_19 ?_
    obtain ⟨r4, h5, e6, e⟩ := bn_of e
    refine xB_callNi hF dX3_hasRun_20 (t_X6_within e6) cw_X3_28 rfl rfl rfl rfl ?_
    refine xB_if_eq (tgt := 30) hF dX3_hasRun_23 rfl e (fun _ e => ?_) (fun _ e => ?_)
    · refine xB_iconst hF dX3_hasRun_30 ki_0 ?_
      exact xB_zreturn hF dX3_hasRun_31 rfl e
    · refine xB_iconst hF dX3_hasRun_26 ki_1 ?_
      refine xB_goto (tgt := 31) hF dX3_hasRun_27 rfl ?_
      exact xB_zreturn hF dX3_hasRun_31 rfl e
def f_X6_copy (a1 : Int32) (a2 : Int32) (a3 : Int32) (a4 : Int32) (a5 : Int32) (h : xH) : Option (Int32 × xH) :=
    bn (f_X6_isSheet a1 h) fun r1 h2 => if r1 = 0 then (some ((-1000000001), h2)) else (bn (f_X6_isSheet a3 h2) fun r4 h5 => if r4 = 0 then (some ((-1000000001), h5)) else (gd a1 4 <| gd a3 4 <| if (h5 (60 + 2 * (Int32.toNatClampNeg a1)) 1) = (-1) then (some ((-1000000011), h5)) else (if (h5 (60 + 2 * (Int32.toNatClampNeg a3)) 1) = (-1) then (some ((-1000000011), h5)) else (if (h5 (60 + 2 * (Int32.toNatClampNeg a1)) 1) = (h5 (60 + 2 * (Int32.toNatClampNeg a3)) 1) then (bn (f_X3_hasRun (60 + 2 * (Int32.toNatClampNeg a1)) a2 a5 h5) fun r9 h10 => if r9 = 0 then (some ((-1000000013), h10)) else (bn (f_X3_hasRun (60 + 2 * (Int32.toNatClampNeg a3)) a4 a5 h10) fun r12 h13 => if r12 = 0 then (some ((-1000000013), h13)) else (gc a2 a4 a5 24 24 <| nm (xpt h13 ((60 + 2 * (Int32.toNatClampNeg a3)) + 1) (va_cpy (h13 ((60 + 2 * (Int32.toNatClampNeg a1)) + 1)) (h13 ((60 + 2 * (Int32.toNatClampNeg a3)) + 1)) (Int32.toNatClampNeg a2) (Int32.toNatClampNeg a4) (Int32.toNatClampNeg a5))) fun h15 => some (a5, h15)))) else (some ((-1000000012), h5))))))
set_option maxRecDepth 20000 in
set_option maxHeartbeats 2000000 in
theorem t_X6_copy {l : Launch} {γ : xG} {a1 : Int32} {a2 : Int32} {a3 : Int32} {a4 : Int32} {a5 : Int32} {h : xH} {r : Int32} {hr : xH} (e : f_X6_copy a1 a2 a3 a4 a5 h = some (r, hr)) : xCT l γ xSC yX6_copy cX6_copy 8 (some .int) 2 [.ref (γ.2.2.2 0), .int a1, .int a2, .int a3, .int a4, .int a5] h (some (.int r)) hr := by
  refine xCT.of (own := RX6) (L := [some (.ref (γ.2.2.2 0)), some (.int a1), some (.int a2), some (.int a3), some (.int a4), some (.int a5), none, none]) (by decide) rfl rfl rfl (fun C hF => ?_)
  unfold f_X6_copy at e
  refine xB_iload_n hF dX6_copy_0 rfl ?_
  obtain ⟨r1, h2, e3, e⟩ := bn_of e
  refine xB_callSi hF dX6_copy_1 (t_X6_isSheet e3) cw_X6_215 rfl rfl rfl rfl ?_
  refine xB_if_eq (tgt := 14) hF dX6_copy_4 rfl e (fun _ e => ?_) (fun _ e => ?_)
  · refine xB_ldc hF dX6_copy_14 kc_X6_85 ?_
    exact xB_ireturn hF dX6_copy_16 e
  · refine xB_iload_n hF dX6_copy_7 rfl ?_
    obtain ⟨r4, h5, e6, e⟩ := bn_of e
    refine xB_callSi hF dX6_copy_8 (t_X6_isSheet e6) cw_X6_215 rfl rfl rfl rfl ?_
    refine xB_if_ne (tgt := 17) hF dX6_copy_11 rfl e (fun _ e => ?_) (fun _ e => ?_)
    · refine xB_ldc hF dX6_copy_14 kc_X6_85 ?_
      exact xB_ireturn hF dX6_copy_16 e
    · refine xB_aload_n hF dX6_copy_17 rfl ?_
      refine xB_get hF dX6_copy_18 fl_X6_51 sC_0 rfl rfl ?_
      refine xB_iload_n hF dX6_copy_21 rfl ?_
      refine xB_aald hF dX6_copy_22 sC_59 rfl rfl e (fun q7 e => ?_)
      refine xB_astore (L' := [_, _, _, _, _, _, _, _]) hF dX6_copy_23 rfl rfl rfl ?_
      refine xB_aload_n hF dX6_copy_25 rfl ?_
      refine xB_get hF dX6_copy_26 fl_X6_51 sC_0 rfl rfl ?_
      refine xB_iload_n hF dX6_copy_29 rfl ?_
      refine xB_aald hF dX6_copy_30 sC_59 rfl rfl e (fun q8 e => ?_)
      refine xB_astore (L' := [_, _, _, _, _, _, _, _]) hF dX6_copy_31 rfl rfl rfl ?_
      refine xB_aload hF dX6_copy_33 rfl ?_
      refine xB_get hF dX6_copy_35 fl_X6_218 ((isX3_sheet q7).1) rfl rfl ?_
      refine xB_iconst hF dX6_copy_38 ki_m1 ?_
      refine xB_icmp_eq (tgt := 51) hF dX6_copy_39 rfl e (fun _ e => ?_) (fun _ e => ?_)
      · refine xB_ldc hF dX6_copy_51 kc_X6_221 ?_
        exact xB_ireturn hF dX6_copy_53 e
      · refine xB_aload hF dX6_copy_42 rfl ?_
        refine xB_get hF dX6_copy_44 fl_X6_218 ((isX3_sheet q8).1) rfl rfl ?_
        refine xB_iconst hF dX6_copy_47 ki_m1 ?_
        refine xB_icmp_ne (tgt := 54) hF dX6_copy_48 rfl e (fun _ e => ?_) (fun _ e => ?_)
        · refine xB_ldc hF dX6_copy_51 kc_X6_221 ?_
          exact xB_ireturn hF dX6_copy_53 e
        · refine xB_aload hF dX6_copy_54 rfl ?_
          refine xB_get hF dX6_copy_56 fl_X6_218 ((isX3_sheet q7).1) rfl rfl ?_
          refine xB_aload hF dX6_copy_59 rfl ?_
          refine xB_get hF dX6_copy_61 fl_X6_218 ((isX3_sheet q8).1) rfl rfl ?_
          refine xB_icmp_eq (tgt := 70) hF dX6_copy_64 rfl e (fun _ e => ?_) (fun _ e => ?_)
          · refine xB_aload hF dX6_copy_70 rfl ?_
            refine xB_iload_n hF dX6_copy_72 rfl ?_
            refine xB_iload hF dX6_copy_73 rfl ?_
            obtain ⟨r9, h10, e11, e⟩ := bn_of e
            refine xB_callVi hF dX6_copy_75 (t_X3_hasRun (isX3_sheet q7) e11) cw_X6_286 ((isX3_sheet q7).1) rfl rfl rfl rfl rfl ?_
            refine xB_if_eq (tgt := 93) hF dX6_copy_78 rfl e (fun _ e => ?_) (fun _ e => ?_)
            · refine xB_ldcw hF dX6_copy_93 kc_X6_273 ?_
              exact xB_ireturn hF dX6_copy_96 e
            · refine xB_aload hF dX6_copy_81 rfl ?_
              refine xB_iload hF dX6_copy_83 rfl ?_
              refine xB_iload hF dX6_copy_85 rfl ?_
              obtain ⟨r12, h13, e14, e⟩ := bn_of e
              refine xB_callVi hF dX6_copy_87 (t_X3_hasRun (isX3_sheet q8) e14) cw_X6_286 ((isX3_sheet q8).1) rfl rfl rfl rfl rfl ?_
              refine xB_if_ne (tgt := 97) hF dX6_copy_90 rfl e (fun _ e => ?_) (fun _ e => ?_)
              · refine xB_ldcw hF dX6_copy_93 kc_X6_273 ?_
                exact xB_ireturn hF dX6_copy_96 e
              · refine xB_aload hF dX6_copy_97 rfl ?_
                refine xB_get hF dX6_copy_99 fl_X6_274 ((isX3_sheet q7).1) rfl rfl ?_
                refine xB_iload_n hF dX6_copy_102 rfl ?_
                refine xB_aload hF dX6_copy_103 rfl ?_
                refine xB_get hF dX6_copy_105 fl_X6_274 ((isX3_sheet q8).1) rfl rfl ?_
                refine xB_iload hF dX6_copy_108 rfl ?_
                refine xB_iload hF dX6_copy_110 rfl ?_
                refine xB_copy hF dX6_copy_112 cl_X6_289 cw_copy ((isX3_sheet q7).2) ((isX3_sheet q8).2) rfl rfl e (fun e => ?_)
                replace e := nm_of e
                refine xB_iload hF dX6_copy_115 rfl ?_
                exact xB_ireturn hF dX6_copy_117 e
          · refine xB_ldc hF dX6_copy_67 kc_X6_127 ?_
            exact xB_ireturn hF dX6_copy_69 e
def f_X3_become (w : Nat) (a1 : Nat) (h : xH) : Option (Int32 × xH) :=
    nm (xst h w 1 (h a1 1)) fun h1 => nm (xst h1 w 2 (h1 a1 2)) fun h2 => gc 0 0 24 24 24 <| nm (xpt h2 (w + 1) (va_cpy (h2 (a1 + 1)) (h2 (w + 1)) (Int32.toNatClampNeg 0) (Int32.toNatClampNeg 0) (Int32.toNatClampNeg 24))) fun h3 => some (0, h3)
set_option maxRecDepth 20000 in
set_option maxHeartbeats 2000000 in
theorem t_X3_become {l : Launch} {γ : xG} {w : Nat} {a1 : Nat} {h : xH} {r : Int32} {hr : xH} (hw : isX3 w) (ha1 : isX3 a1) (e : f_X3_become w a1 h = some (r, hr)) : xCT l γ xSC yX3_become cX3_become 2 none 1 [.ref (γ.2.2.2 w), .ref (γ.2.2.2 a1)] h none hr := by
  refine xCT.of (own := RX3) (L := [some (.ref (γ.2.2.2 w)), some (.ref (γ.2.2.2 a1))]) (by decide) rfl rfl rfl (fun C hF => ?_)
  unfold f_X3_become at e
  refine xB_aload_n hF dX3_become_0 rfl ?_
  refine xB_aload_n hF dX3_become_1 rfl ?_
  refine xB_get hF dX3_become_2 fl_X3_15 ha1.1 rfl rfl ?_
  refine xB_put hF dX3_become_5 fp_X3_15 hw.1 rfl rfl rfl rfl rfl ?_
  replace e := nm_of e
  refine xB_aload_n hF dX3_become_8 rfl ?_
  refine xB_aload_n hF dX3_become_9 rfl ?_
  refine xB_get hF dX3_become_10 fl_X3_19 ha1.1 rfl rfl ?_
  refine xB_put hF dX3_become_13 fp_X3_19 hw.1 rfl rfl rfl rfl rfl ?_
  replace e := nm_of e
  refine xB_aload_n hF dX3_become_16 rfl ?_
  refine xB_get hF dX3_become_17 fl_X3_9 ha1.1 rfl rfl ?_
  refine xB_iconst hF dX3_become_20 ki_0 ?_
  refine xB_aload_n hF dX3_become_21 rfl ?_
  refine xB_get hF dX3_become_22 fl_X3_9 hw.1 rfl rfl ?_
  refine xB_iconst hF dX3_become_25 ki_0 ?_
  refine xB_bipush hF dX3_become_26 kb_24 ?_
  refine xB_copy hF dX3_become_28 cl_X3_22 cw_copy ha1.2 hw.2 rfl rfl e (fun e => ?_)
  replace e := nm_of e
  exact xB_vreturn hF dX3_become_31 e
def f_X6_isSlot (a0 : Int32) (h : xH) : Option (Int32 × xH) :=
    bn (f_X6_within a0 0 4 h) fun r1 h2 => gb r1 (some (r1, h2))
set_option maxRecDepth 20000 in
set_option maxHeartbeats 2000000 in
theorem t_X6_isSlot {l : Launch} {γ : xG} {a0 : Int32} {h : xH} {r : Int32} {hr : xH} (e : f_X6_isSlot a0 h = some (r, hr)) : xCT l γ xSC yX6_isSlot cX6_isSlot 1 (some .boolean) 1 [.int a0] h (some (.int r)) hr := by
  refine xCT.of (own := RX6) (L := [some (.int a0)]) (by decide) rfl rfl rfl (fun C hF => ?_)
  unfold f_X6_isSlot at e
  refine xB_iload_n hF dX6_isSlot_0 rfl ?_
  refine xB_iconst hF dX6_isSlot_1 ki_0 ?_
  refine xB_iconst hF dX6_isSlot_2 ki_4 ?_
  obtain ⟨r1, h2, e3, e⟩ := bn_of e
  refine xB_callSi hF dX6_isSlot_3 (t_X6_within e3) cw_X6_78 rfl rfl rfl rfl ?_
  exact xB_breturn hF dX6_isSlot_6 e
def f_X6_lay_c68 (a1 : Int32) (a2 : Int32) (a3 : Int32) (h : xH) : Option (Int32 × xH) :=
    gd a1 5 <| nm (h (69 + 3 * (Int32.toNatClampNeg a1)) 1) fun x2 => nm (xst h (69 + 3 * (Int32.toNatClampNeg a1)) 1 a2) fun h3 => if a2 = 1 then (gd a3 10 <| nm (xst h3 (69 + 3 * (Int32.toNatClampNeg a1)) 2 (h3 25 (Int32.toNatClampNeg a3))) fun h9 => gd a3 10 <| nm (xst h9 (69 + 3 * (Int32.toNatClampNeg a1)) 3 (h9 26 (Int32.toNatClampNeg a3))) fun h10 => some (x2, h10)) else (if a2 = 2 then (gd a3 4 <| bn (f_X3_become ((69 + 3 * (Int32.toNatClampNeg a1)) + 1) (60 + 2 * (Int32.toNatClampNeg a3)) h3) fun r6 h7 => some (x2, h7)) else (nm (xst h3 (69 + 3 * (Int32.toNatClampNeg a1)) 4 a3) fun h4 => some (x2, h4)))
set_option maxRecDepth 20000 in
set_option maxHeartbeats 2000000 in
theorem t_X6_lay_c68 {l : Launch} {γ : xG} {a1 : Int32} {a2 : Int32} {a3 : Int32} {r : Int32} {hr : xH} {C : xCx} (hF : xF C cX6_lay RX6 6 2 γ xSC (some (.int r)) hr l (some .int)) : ∀ (h : xH), f_X6_lay_c68 a1 a2 a3 h = some (r, hr) → xB C h 68 [some (.ref (γ.2.2.2 0)), some (.int a1), some (.int a2), some (.int a3), none, none] [] := by
  intro h e
  unfold f_X6_lay_c68 at e
  refine xB_aload_n hF dX6_lay_68 rfl ?_
  refine xB_get hF dX6_lay_69 fl_X6_58 sC_0 rfl rfl ?_
  refine xB_iload_n hF dX6_lay_72 rfl ?_
  refine xB_aald hF dX6_lay_73 sC_68 rfl rfl e (fun q1 e => ?_)
  refine xB_astore (L' := [_, _, _, _, _, _]) hF dX6_lay_74 rfl rfl rfl ?_
  refine xB_aload hF dX6_lay_76 rfl ?_
  refine xB_get hF dX6_lay_78 fl_X6_298 ((isX4_slot q1).1) rfl rfl ?_
  refine xB_istore (L' := [_, _, _, _, _, _]) hF dX6_lay_81 rfl rfl rfl ?_
  replace e := nm_of e
  refine xB_aload hF dX6_lay_83 rfl ?_
  refine xB_iload_n hF dX6_lay_85 rfl ?_
  refine xB_put hF dX6_lay_86 fp_X6_298 ((isX4_slot q1).1) rfl rfl rfl rfl rfl ?_
  replace e := nm_of e
  refine xB_iload_n hF dX6_lay_89 rfl ?_
  refine xB_iconst hF dX6_lay_90 ki_1 ?_
  refine xB_icmp_ne (tgt := 125) hF dX6_lay_91 rfl e (fun _ e => ?_) (fun _ e => ?_)
  · refine xB_aload hF dX6_lay_94 rfl ?_
    refine xB_aload_n hF dX6_lay_96 rfl ?_
    refine xB_get hF dX6_lay_97 fl_X6_28 sC_0 rfl rfl ?_
    refine xB_get hF dX6_lay_100 fl_X6_97 isX5_24.1 rfl rfl ?_
    refine xB_iload_n hF dX6_lay_103 rfl ?_
    refine xB_iald hF dX6_lay_104 sC_25 e (fun e => ?_)
    refine xB_put hF dX6_lay_105 fp_X6_301 ((isX4_slot q1).1) rfl rfl rfl rfl rfl ?_
    replace e := nm_of e
    refine xB_aload hF dX6_lay_108 rfl ?_
    refine xB_aload_n hF dX6_lay_110 rfl ?_
    refine xB_get hF dX6_lay_111 fl_X6_28 sC_0 rfl rfl ?_
    refine xB_get hF dX6_lay_114 fl_X6_100 isX5_24.1 rfl rfl ?_
    refine xB_iload_n hF dX6_lay_117 rfl ?_
    refine xB_iald hF dX6_lay_118 sC_26 e (fun e => ?_)
    refine xB_put hF dX6_lay_119 fp_X6_303 ((isX4_slot q1).1) rfl rfl rfl rfl rfl ?_
    replace e := nm_of e
    refine xB_goto (tgt := 153) hF dX6_lay_122 rfl ?_
    refine xB_iload hF dX6_lay_153 rfl ?_
    exact xB_ireturn hF dX6_lay_155 e
  · refine xB_iload_n hF dX6_lay_125 rfl ?_
    refine xB_iconst hF dX6_lay_126 ki_2 ?_
    refine xB_icmp_ne (tgt := 147) hF dX6_lay_127 rfl e (fun _ e => ?_) (fun _ e => ?_)
    · refine xB_aload hF dX6_lay_130 rfl ?_
      refine xB_get hF dX6_lay_132 fl_X6_305 ((isX4_slot q1).1) rfl rfl ?_
      refine xB_aload_n hF dX6_lay_135 rfl ?_
      refine xB_get hF dX6_lay_136 fl_X6_51 sC_0 rfl rfl ?_
      refine xB_iload_n hF dX6_lay_139 rfl ?_
      refine xB_aald hF dX6_lay_140 sC_59 rfl rfl e (fun q5 e => ?_)
      obtain ⟨r6, h7, e8, e⟩ := bn_of e
      refine xB_callVv hF dX6_lay_141 (t_X3_become ((isX4_slot q1).2) (isX3_sheet q5) e8) cw_X6_309 ((isX4_slot q1).2.1) rfl rfl rfl rfl rfl ?_
      refine xB_goto (tgt := 153) hF dX6_lay_144 rfl ?_
      refine xB_iload hF dX6_lay_153 rfl ?_
      exact xB_ireturn hF dX6_lay_155 e
    · refine xB_aload hF dX6_lay_147 rfl ?_
      refine xB_iload_n hF dX6_lay_149 rfl ?_
      refine xB_put hF dX6_lay_150 fp_X6_311 ((isX4_slot q1).1) rfl rfl rfl rfl rfl ?_
      replace e := nm_of e
      refine xB_iload hF dX6_lay_153 rfl ?_
      exact xB_ireturn hF dX6_lay_155 e
def f_X6_lay_c47 (a1 : Int32) (a2 : Int32) (a3 : Int32) (h : xH) : Option (Int32 × xH) :=
    if a2 = 2 then (gd a3 4 <| if (h (60 + 2 * (Int32.toNatClampNeg a3)) 1) = (-1) then (some ((-1000000011), h)) else (f_X6_lay_c68 a1 a2 a3 h)) else (f_X6_lay_c68 a1 a2 a3 h)
set_option maxRecDepth 20000 in
set_option maxHeartbeats 2000000 in
theorem t_X6_lay_c47 {l : Launch} {γ : xG} {a1 : Int32} {a2 : Int32} {a3 : Int32} {r : Int32} {hr : xH} {C : xCx} (hF : xF C cX6_lay RX6 6 2 γ xSC (some (.int r)) hr l (some .int)) : ∀ (h : xH), f_X6_lay_c47 a1 a2 a3 h = some (r, hr) → xB C h 47 [some (.ref (γ.2.2.2 0)), some (.int a1), some (.int a2), some (.int a3), none, none] [] := by
  intro h e
  unfold f_X6_lay_c47 at e
  refine xB_iload_n hF dX6_lay_47 rfl ?_
  refine xB_iconst hF dX6_lay_48 ki_2 ?_
  refine xB_icmp_ne (tgt := 68) hF dX6_lay_49 rfl e (fun _ e => ?_) (fun _ e => ?_)
  · refine xB_aload_n hF dX6_lay_52 rfl ?_
    refine xB_get hF dX6_lay_53 fl_X6_51 sC_0 rfl rfl ?_
    refine xB_iload_n hF dX6_lay_56 rfl ?_
    refine xB_aald hF dX6_lay_57 sC_59 rfl rfl e (fun q1 e => ?_)
    refine xB_get hF dX6_lay_58 fl_X6_218 ((isX3_sheet q1).1) rfl rfl ?_
    refine xB_iconst hF dX6_lay_61 ki_m1 ?_
    refine xB_icmp_ne (tgt := 68) hF dX6_lay_62 rfl e (fun _ e => ?_) (fun _ e => ?_)
    · refine xB_ldc hF dX6_lay_65 kc_X6_221 ?_
      exact xB_ireturn hF dX6_lay_67 e
    · exact xB_l (t_X6_lay_c68 hF _ e) (And.intro rfl (And.intro rfl (And.intro rfl (And.intro rfl (True.intro)))))
  · exact xB_l (t_X6_lay_c68 hF _ e) (And.intro rfl (And.intro rfl (And.intro rfl (And.intro rfl (True.intro)))))
def f_X6_lay_c32 (a1 : Int32) (a2 : Int32) (a3 : Int32) (h : xH) : Option (Int32 × xH) :=
    if a2 = 2 then (bn (f_X6_isSheet a3 h) fun r1 h2 => if r1 = 0 then (some ((-1000000001), h2)) else (f_X6_lay_c47 a1 a2 a3 h2)) else (f_X6_lay_c47 a1 a2 a3 h)
set_option maxRecDepth 20000 in
set_option maxHeartbeats 2000000 in
theorem t_X6_lay_c32 {l : Launch} {γ : xG} {a1 : Int32} {a2 : Int32} {a3 : Int32} {r : Int32} {hr : xH} {C : xCx} (hF : xF C cX6_lay RX6 6 2 γ xSC (some (.int r)) hr l (some .int)) : ∀ (h : xH), f_X6_lay_c32 a1 a2 a3 h = some (r, hr) → xB C h 32 [some (.ref (γ.2.2.2 0)), some (.int a1), some (.int a2), some (.int a3), none, none] [] := by
  intro h e
  unfold f_X6_lay_c32 at e
  refine xB_iload_n hF dX6_lay_32 rfl ?_
  refine xB_iconst hF dX6_lay_33 ki_2 ?_
  refine xB_icmp_ne (tgt := 47) hF dX6_lay_34 rfl e (fun _ e => ?_) (fun _ e => ?_)
  · refine xB_iload_n hF dX6_lay_37 rfl ?_
    obtain ⟨r1, h2, e3, e⟩ := bn_of e
    refine xB_callSi hF dX6_lay_38 (t_X6_isSheet e3) cw_X6_215 rfl rfl rfl rfl ?_
    refine xB_if_ne (tgt := 47) hF dX6_lay_41 rfl e (fun _ e => ?_) (fun _ e => ?_)
    · refine xB_ldc hF dX6_lay_44 kc_X6_85 ?_
      exact xB_ireturn hF dX6_lay_46 e
    · exact xB_l (t_X6_lay_c47 hF _ e) (And.intro rfl (And.intro rfl (And.intro rfl (And.intro rfl (True.intro)))))
  · exact xB_l (t_X6_lay_c47 hF _ e) (And.intro rfl (And.intro rfl (And.intro rfl (And.intro rfl (True.intro)))))
def f_X6_lay (a1 : Int32) (a2 : Int32) (a3 : Int32) (h : xH) : Option (Int32 × xH) :=
    bn (f_X6_isSlot a1 h) fun r1 h2 => if r1 = 0 then (some ((-1000000001), h2)) else (bn (f_X6_within a2 0 3 h2) fun r4 h5 => if r4 = 0 then (some ((-1000000001), h5)) else (if a2 = 1 then (bn (f_X6_isDay a3 h5) fun r7 h8 => if r7 = 0 then (some ((-1000000001), h8)) else (f_X6_lay_c32 a1 a2 a3 h8)) else (f_X6_lay_c32 a1 a2 a3 h5)))
set_option maxRecDepth 20000 in
set_option maxHeartbeats 2000000 in
theorem t_X6_lay {l : Launch} {γ : xG} {a1 : Int32} {a2 : Int32} {a3 : Int32} {h : xH} {r : Int32} {hr : xH} (e : f_X6_lay a1 a2 a3 h = some (r, hr)) : xCT l γ xSC yX6_lay cX6_lay 6 (some .int) 2 [.ref (γ.2.2.2 0), .int a1, .int a2, .int a3] h (some (.int r)) hr := by
  refine xCT.of (own := RX6) (L := [some (.ref (γ.2.2.2 0)), some (.int a1), some (.int a2), some (.int a3), none, none]) (by decide) rfl rfl rfl (fun C hF => ?_)
  unfold f_X6_lay at e
  refine xB_iload_n hF dX6_lay_0 rfl ?_
  obtain ⟨r1, h2, e3, e⟩ := bn_of e
  refine xB_callSi hF dX6_lay_1 (t_X6_isSlot e3) cw_X6_295 rfl rfl rfl rfl ?_
  refine xB_if_eq (tgt := 16) hF dX6_lay_4 rfl e (fun _ e => ?_) (fun _ e => ?_)
  · refine xB_ldc hF dX6_lay_16 kc_X6_85 ?_
    exact xB_ireturn hF dX6_lay_18 e
  · refine xB_iload_n hF dX6_lay_7 rfl ?_
    refine xB_iconst hF dX6_lay_8 ki_0 ?_
    refine xB_iconst hF dX6_lay_9 ki_3 ?_
    obtain ⟨r4, h5, e6, e⟩ := bn_of e
    refine xB_callSi hF dX6_lay_10 (t_X6_within e6) cw_X6_78 rfl rfl rfl rfl ?_
    refine xB_if_ne (tgt := 19) hF dX6_lay_13 rfl e (fun _ e => ?_) (fun _ e => ?_)
    · refine xB_ldc hF dX6_lay_16 kc_X6_85 ?_
      exact xB_ireturn hF dX6_lay_18 e
    · refine xB_iload_n hF dX6_lay_19 rfl ?_
      refine xB_iconst hF dX6_lay_20 ki_1 ?_
      refine xB_icmp_ne (tgt := 32) hF dX6_lay_21 rfl e (fun _ e => ?_) (fun _ e => ?_)
      · refine xB_aload_n hF dX6_lay_24 rfl ?_
        refine xB_iload_n hF dX6_lay_25 rfl ?_
        obtain ⟨r7, h8, e9, e⟩ := bn_of e
        refine xB_callVi hF dX6_lay_26 (t_X6_isDay e9) cw_X6_94 sC_0 rfl rfl rfl rfl rfl ?_
        refine xB_if_eq (tgt := 44) hF dX6_lay_29 rfl e (fun _ e => ?_) (fun _ e => ?_)
        · refine xB_ldc hF dX6_lay_44 kc_X6_85 ?_
          exact xB_ireturn hF dX6_lay_46 e
        · exact xB_l (t_X6_lay_c32 hF _ e) (And.intro rfl (And.intro rfl (And.intro rfl (And.intro rfl (True.intro)))))
      · exact xB_l (t_X6_lay_c32 hF _ e) (And.intro rfl (And.intro rfl (And.intro rfl (And.intro rfl (True.intro)))))
def f_X6_item (a1 : Int32) (a2 : Int32) (h : xH) : Option (Int32 × xH) :=
    bn (f_X6_isSlot a1 h) fun r1 h2 => if r1 = 0 then (some ((-1000000001), h2)) else (gd a1 5 <| if (h2 (69 + 3 * (Int32.toNatClampNeg a1)) 1) = 0 then (some ((-1000000011), h2)) else (if (h2 (69 + 3 * (Int32.toNatClampNeg a1)) 1) = 2 then (bn (f_X3_hasPlace ((69 + 3 * (Int32.toNatClampNeg a1)) + 1) a2 h2) fun r5 h6 => if r5 = 0 then (some ((-1000000013), h6)) else (bn (f_X3_isNumber ((69 + 3 * (Int32.toNatClampNeg a1)) + 1) a2 h6) fun r8 h9 => if r8 = 0 then (some ((-1000000012), h9)) else (gd a2 24 <| some (h9 (((69 + 3 * (Int32.toNatClampNeg a1)) + 1) + 1) (Int32.toNatClampNeg a2), h9)))) else (some ((-1000000012), h2))))
set_option maxRecDepth 20000 in
set_option maxHeartbeats 2000000 in
theorem t_X6_item {l : Launch} {γ : xG} {a1 : Int32} {a2 : Int32} {h : xH} {r : Int32} {hr : xH} (e : f_X6_item a1 a2 h = some (r, hr)) : xCT l γ xSC yX6_item cX6_item 4 (some .int) 2 [.ref (γ.2.2.2 0), .int a1, .int a2] h (some (.int r)) hr := by
  refine xCT.of (own := RX6) (L := [some (.ref (γ.2.2.2 0)), some (.int a1), some (.int a2), none]) (by decide) rfl rfl rfl (fun C hF => ?_)
  unfold f_X6_item at e
  refine xB_iload_n hF dX6_item_0 rfl ?_
  obtain ⟨r1, h2, e3, e⟩ := bn_of e
  refine xB_callSi hF dX6_item_1 (t_X6_isSlot e3) cw_X6_295 rfl rfl rfl rfl ?_
  refine xB_if_ne (tgt := 10) hF dX6_item_4 rfl e (fun _ e => ?_) (fun _ e => ?_)
  · refine xB_ldc hF dX6_item_7 kc_X6_85 ?_
    exact xB_ireturn hF dX6_item_9 e
  · refine xB_aload_n hF dX6_item_10 rfl ?_
    refine xB_get hF dX6_item_11 fl_X6_58 sC_0 rfl rfl ?_
    refine xB_iload_n hF dX6_item_14 rfl ?_
    refine xB_aald hF dX6_item_15 sC_68 rfl rfl e (fun q4 e => ?_)
    refine xB_astore_n (L' := [_, _, _, _]) hF dX6_item_16 rfl rfl rfl ?_
    refine xB_aload_n hF dX6_item_17 rfl ?_
    refine xB_get hF dX6_item_18 fl_X6_298 ((isX4_slot q4).1) rfl rfl ?_
    refine xB_if_ne (tgt := 27) hF dX6_item_21 rfl e (fun _ e => ?_) (fun _ e => ?_)
    · refine xB_ldc hF dX6_item_24 kc_X6_221 ?_
      exact xB_ireturn hF dX6_item_26 e
    · refine xB_aload_n hF dX6_item_27 rfl ?_
      refine xB_get hF dX6_item_28 fl_X6_298 ((isX4_slot q4).1) rfl rfl ?_
      refine xB_iconst hF dX6_item_31 ki_2 ?_
      refine xB_icmp_eq (tgt := 38) hF dX6_item_32 rfl e (fun _ e => ?_) (fun _ e => ?_)
      · refine xB_aload_n hF dX6_item_38 rfl ?_
        refine xB_get hF dX6_item_39 fl_X6_305 ((isX4_slot q4).1) rfl rfl ?_
        refine xB_iload_n hF dX6_item_42 rfl ?_
        obtain ⟨r5, h6, e7, e⟩ := bn_of e
        refine xB_callVi hF dX6_item_43 (t_X3_hasPlace ((isX4_slot q4).2) e7) cw_X6_270 ((isX4_slot q4).2.1) rfl rfl rfl rfl rfl ?_
        refine xB_if_ne (tgt := 53) hF dX6_item_46 rfl e (fun _ e => ?_) (fun _ e => ?_)
        · refine xB_ldcw hF dX6_item_49 kc_X6_273 ?_
          exact xB_ireturn hF dX6_item_52 e
        · refine xB_aload_n hF dX6_item_53 rfl ?_
          refine xB_get hF dX6_item_54 fl_X6_305 ((isX4_slot q4).1) rfl rfl ?_
          refine xB_iload_n hF dX6_item_57 rfl ?_
          obtain ⟨r8, h9, e10, e⟩ := bn_of e
          refine xB_callVi hF dX6_item_58 (t_X3_isNumber ((isX4_slot q4).2) e10) cw_X6_280 ((isX4_slot q4).2.1) rfl rfl rfl rfl rfl ?_
          refine xB_if_eq (tgt := 76) hF dX6_item_61 rfl e (fun _ e => ?_) (fun _ e => ?_)
          · refine xB_ldc hF dX6_item_76 kc_X6_127 ?_
            exact xB_ireturn hF dX6_item_78 e
          · refine xB_aload_n hF dX6_item_64 rfl ?_
            refine xB_get hF dX6_item_65 fl_X6_305 ((isX4_slot q4).1) rfl rfl ?_
            refine xB_get hF dX6_item_68 fl_X6_274 ((isX4_slot q4).2.1) rfl rfl ?_
            refine xB_iload_n hF dX6_item_71 rfl ?_
            refine xB_iald hF dX6_item_72 ((isX4_slot q4).2.2) e (fun e => ?_)
            refine xB_goto (tgt := 78) hF dX6_item_73 rfl ?_
            exact xB_ireturn hF dX6_item_78 e
      · refine xB_ldc hF dX6_item_35 kc_X6_127 ?_
        exact xB_ireturn hF dX6_item_37 e
def f_X6_rest (a1 : Int32) (a2 : Int32) (h : xH) : Option (Int32 × xH) :=
    bn (f_X6_isSlot a1 h) fun r1 h2 => if r1 = 0 then (some ((-1000000001), h2)) else (gd a1 5 <| if (h2 (69 + 3 * (Int32.toNatClampNeg a1)) 1) = 0 then (some ((-1000000011), h2)) else (if (h2 (69 + 3 * (Int32.toNatClampNeg a1)) 1) = 3 then (if a2 = 0 then (some ((-1000000002), h2)) else (gz a2 <| some ((h2 (69 + 3 * (Int32.toNatClampNeg a1)) 4) - (h2 (69 + 3 * (Int32.toNatClampNeg a1)) 4) / a2 * a2, h2))) else (some ((-1000000012), h2))))
set_option maxRecDepth 20000 in
set_option maxHeartbeats 2000000 in
theorem t_X6_rest {l : Launch} {γ : xG} {a1 : Int32} {a2 : Int32} {h : xH} {r : Int32} {hr : xH} (e : f_X6_rest a1 a2 h = some (r, hr)) : xCT l γ xSC yX6_rest cX6_rest 4 (some .int) 2 [.ref (γ.2.2.2 0), .int a1, .int a2] h (some (.int r)) hr := by
  refine xCT.of (own := RX6) (L := [some (.ref (γ.2.2.2 0)), some (.int a1), some (.int a2), none]) (by decide) rfl rfl rfl (fun C hF => ?_)
  unfold f_X6_rest at e
  refine xB_iload_n hF dX6_rest_0 rfl ?_
  obtain ⟨r1, h2, e3, e⟩ := bn_of e
  refine xB_callSi hF dX6_rest_1 (t_X6_isSlot e3) cw_X6_295 rfl rfl rfl rfl ?_
  refine xB_if_ne (tgt := 10) hF dX6_rest_4 rfl e (fun _ e => ?_) (fun _ e => ?_)
  · refine xB_ldc hF dX6_rest_7 kc_X6_85 ?_
    exact xB_ireturn hF dX6_rest_9 e
  · refine xB_aload_n hF dX6_rest_10 rfl ?_
    refine xB_get hF dX6_rest_11 fl_X6_58 sC_0 rfl rfl ?_
    refine xB_iload_n hF dX6_rest_14 rfl ?_
    refine xB_aald hF dX6_rest_15 sC_68 rfl rfl e (fun q4 e => ?_)
    refine xB_astore_n (L' := [_, _, _, _]) hF dX6_rest_16 rfl rfl rfl ?_
    refine xB_aload_n hF dX6_rest_17 rfl ?_
    refine xB_get hF dX6_rest_18 fl_X6_298 ((isX4_slot q4).1) rfl rfl ?_
    refine xB_if_ne (tgt := 27) hF dX6_rest_21 rfl e (fun _ e => ?_) (fun _ e => ?_)
    · refine xB_ldc hF dX6_rest_24 kc_X6_221 ?_
      exact xB_ireturn hF dX6_rest_26 e
    · refine xB_aload_n hF dX6_rest_27 rfl ?_
      refine xB_get hF dX6_rest_28 fl_X6_298 ((isX4_slot q4).1) rfl rfl ?_
      refine xB_iconst hF dX6_rest_31 ki_3 ?_
      refine xB_icmp_eq (tgt := 38) hF dX6_rest_32 rfl e (fun _ e => ?_) (fun _ e => ?_)
      · refine xB_iload_n hF dX6_rest_38 rfl ?_
        refine xB_if_ne (tgt := 47) hF dX6_rest_39 rfl e (fun _ e => ?_) (fun _ e => ?_)
        · refine xB_ldc hF dX6_rest_42 kc_X6_156 ?_
          refine xB_goto (tgt := 53) hF dX6_rest_44 rfl ?_
          exact xB_ireturn hF dX6_rest_53 e
        · refine xB_aload_n hF dX6_rest_47 rfl ?_
          refine xB_get hF dX6_rest_48 fl_X6_311 ((isX4_slot q4).1) rfl rfl ?_
          refine xB_iload_n hF dX6_rest_51 rfl ?_
          refine xB_irem hF dX6_rest_52 e (fun e => ?_)
          exact xB_ireturn hF dX6_rest_53 e
      · refine xB_ldc hF dX6_rest_35 kc_X6_127 ?_
        exact xB_ireturn hF dX6_rest_37 e
def f_X6_tell (a1 : Int32) (h : xH) : Option (Int32 × xH) :=
    if (h 0 10) < 60 then (gd (h 0 10) 60 <| nm (xst h 84 (Int32.toNatClampNeg (h 0 10)) a1) fun h1 => nm (xst h1 0 10 ((h1 0 10) + 1)) fun h2 => some (h2 0 10, h2)) else (some ((-1000000003), h))
set_option maxRecDepth 20000 in
set_option maxHeartbeats 2000000 in
theorem t_X6_tell {l : Launch} {γ : xG} {a1 : Int32} {h : xH} {r : Int32} {hr : xH} (e : f_X6_tell a1 h = some (r, hr)) : xCT l γ xSC yX6_tell cX6_tell 2 (some .int) 0 [.ref (γ.2.2.2 0), .int a1] h (some (.int r)) hr := by
  refine xCT.of (own := RX6) (L := [some (.ref (γ.2.2.2 0)), some (.int a1)]) (by decide) rfl rfl rfl (fun C hF => ?_)
  unfold f_X6_tell at e
  refine xB_aload_n hF dX6_tell_0 rfl ?_
  refine xB_get hF dX6_tell_1 fl_X6_66 sC_0 rfl rfl ?_
  refine xB_bipush hF dX6_tell_4 kb_60 ?_
  refine xB_icmp_lt (tgt := 12) hF dX6_tell_6 rfl e (fun _ e => ?_) (fun _ e => ?_)
  · refine xB_aload_n hF dX6_tell_12 rfl ?_
    refine xB_get hF dX6_tell_13 fl_X6_63 sC_0 rfl rfl ?_
    refine xB_aload_n hF dX6_tell_16 rfl ?_
    refine xB_get hF dX6_tell_17 fl_X6_66 sC_0 rfl rfl ?_
    refine xB_iload_n hF dX6_tell_20 rfl ?_
    refine xB_iast hF dX6_tell_21 sC_84 e (fun e => ?_)
    replace e := nm_of e
    refine xB_aload_n hF dX6_tell_22 rfl ?_
    refine xB_dup hF dX6_tell_23 rfl ?_
    refine xB_get hF dX6_tell_24 fl_X6_66 sC_0 rfl rfl ?_
    refine xB_iconst hF dX6_tell_27 ki_1 ?_
    refine xB_iadd hF dX6_tell_28 ?_
    refine xB_put hF dX6_tell_29 fp_X6_66 sC_0 rfl rfl rfl rfl rfl ?_
    replace e := nm_of e
    refine xB_aload_n hF dX6_tell_32 rfl ?_
    refine xB_get hF dX6_tell_33 fl_X6_66 sC_0 rfl rfl ?_
    exact xB_ireturn hF dX6_tell_36 e
  · refine xB_ldc hF dX6_tell_9 kc_X6_89 ?_
    exact xB_ireturn hF dX6_tell_11 e
def f_X5_allWear_c4 (w : Nat) : Nat → Int32 → Int32 → xH → Option (Int32 × xH)
  | 0, _, _, _ => none
  | n + 1, v1, v2, h =>
    if (h w 10) ≤ v2 then (some (v1, h)) else (gd v2 10 <| nm (v1 + (h (w + 4) (Int32.toNatClampNeg v2))) fun x1 => f_X5_allWear_c4 w n x1 (v2 + 1) h)
set_option maxRecDepth 20000 in
set_option maxHeartbeats 2000000 in
theorem t_X5_allWear_c4 {l : Launch} {γ : xG} {w : Nat} {r : Int32} {hr : xH} {C : xCx} (hF : xF C cX5_allWear RX5 3 0 γ xSC (some (.int r)) hr l (some .int)) (hw : isX5 w) : ∀ (n : Nat) (v1 : Int32) (v2 : Int32) (h : xH), f_X5_allWear_c4 w n v1 v2 h = some (r, hr) → xB C h 4 [some (.ref (γ.2.2.2 w)), some (.int v1), some (.int v2)] [] := by
  intro n
  induction n with
  | zero => intro v1 v2 h e; cases e
  | succ n ih =>
    intro v1 v2 h e
    rw [f_X5_allWear_c4] at e
    refine xB_iload_n hF dX5_allWear_4 rfl ?_
    refine xB_aload_n hF dX5_allWear_5 rfl ?_
    refine xB_get hF dX5_allWear_6 fl_X5_53 hw.1 rfl rfl ?_
    refine xB_icmp_ge (tgt := 27) hF dX5_allWear_9 rfl e (fun _ e => ?_) (fun _ e => ?_)
    · refine xB_iload_n hF dX5_allWear_27 rfl ?_
      exact xB_ireturn hF dX5_allWear_28 e
    · refine xB_iload_n hF dX5_allWear_12 rfl ?_
      refine xB_aload_n hF dX5_allWear_13 rfl ?_
      refine xB_get hF dX5_allWear_14 fl_X5_21 hw.1 rfl rfl ?_
      refine xB_iload_n hF dX5_allWear_17 rfl ?_
      refine xB_iald hF dX5_allWear_18 hw.2.2.2.2.1 e (fun e => ?_)
      refine xB_iadd hF dX5_allWear_19 ?_
      refine xB_istore_n (L' := [_, _, _]) hF dX5_allWear_20 rfl rfl rfl ?_
      replace e := nm_of e
      refine xB_iinc (L' := [_, _, _]) hF dX5_allWear_21 rfl ki_1 rfl rfl rfl ?_
      refine xB_goto (tgt := 4) hF dX5_allWear_24 rfl ?_
      exact xB_l (ih _ _ _ e) (And.intro rfl (And.intro rfl (And.intro rfl (True.intro))))
def f_X5_allWear (w : Nat) (h : xH) : Option (Int32 × xH) :=
    f_X5_allWear_c4 w xN 0 0 h
set_option maxRecDepth 20000 in
set_option maxHeartbeats 2000000 in
theorem t_X5_allWear {l : Launch} {γ : xG} {w : Nat} {h : xH} {r : Int32} {hr : xH} (hw : isX5 w) (e : f_X5_allWear w h = some (r, hr)) : xCT l γ xSC yX5_allWear cX5_allWear 3 (some .int) 0 [.ref (γ.2.2.2 w)] h (some (.int r)) hr := by
  refine xCT.of (own := RX5) (L := [some (.ref (γ.2.2.2 w)), none, none]) (by decide) rfl rfl rfl (fun C hF => ?_)
  unfold f_X5_allWear at e
  refine xB_iconst hF dX5_allWear_0 ki_0 ?_
  refine xB_istore_n (L' := [_, _, _]) hF dX5_allWear_1 rfl rfl rfl ?_
  refine xB_iconst hF dX5_allWear_2 ki_0 ?_
  refine xB_istore_n (L' := [_, _, _]) hF dX5_allWear_3 rfl rfl rfl ?_
  exact xB_l (t_X5_allWear_c4 hF hw _ _ _ _ e) (And.intro rfl (And.intro rfl (And.intro rfl (True.intro))))
def f_X6_check_c113 (k58 : Int32 → Int32 → Int32 → xH → Option (Int32 × xH)) (a1 : Int32) (v2 : Int32) (v3 : Int32) (v4 : Int32) (s0 : Int32) (h : xH) : Option (Int32 × xH) :=
    if v2 ≤ v4 then (some (1 + v4, h)) else (gd v4 60 <| if (h 84 (Int32.toNatClampNeg v4)) = s0 then (k58 v2 v3 (v4 + 1) h) else (some (1 + v4, h)))
set_option maxRecDepth 20000 in
set_option maxHeartbeats 2000000 in
theorem t_X6_check_c113 {l : Launch} {γ : xG} {k58 : Int32 → Int32 → Int32 → xH → Option (Int32 × xH)} {a1 : Int32} {r : Int32} {hr : xH} {C : xCx} (hF : xF C cX6_check RX6 7 6 γ xSC (some (.int r)) hr l (some .int)) (hk58 : ∀ (v2 : Int32) (v3 : Int32) (v4 : Int32) (h : xH), k58 v2 v3 v4 h = some (r, hr) → xB C h 58 [some (.ref (γ.2.2.2 0)), some (.int a1), some (.int v2), some (.int v3), some (.int v4), none, none] []) : ∀ (v2 : Int32) (v3 : Int32) (v4 : Int32) (s0 : Int32) (h : xH), f_X6_check_c113 k58 a1 v2 v3 v4 s0 h = some (r, hr) → xB C h 113 [some (.ref (γ.2.2.2 0)), some (.int a1), some (.int v2), some (.int v3), some (.int v4), none, none] [.int s0] := by
  intro v2 v3 v4 s0 h e
  unfold f_X6_check_c113 at e
  refine xB_istore (L' := [_, _, _, _, _, _, _]) hF dX6_check_113 rfl rfl rfl ?_
  refine xB_iload hF dX6_check_115 rfl ?_
  refine xB_iload_n hF dX6_check_117 rfl ?_
  refine xB_icmp_ge (tgt := 133) hF dX6_check_118 rfl e (fun _ e => ?_) (fun _ e => ?_)
  · refine xB_iconst hF dX6_check_133 ki_1 ?_
    refine xB_iload hF dX6_check_134 rfl ?_
    refine xB_iadd hF dX6_check_136 ?_
    exact xB_ireturn hF dX6_check_137 e
  · refine xB_aload_n hF dX6_check_121 rfl ?_
    refine xB_get hF dX6_check_122 fl_X6_63 sC_0 rfl rfl ?_
    refine xB_iload hF dX6_check_125 rfl ?_
    refine xB_iald hF dX6_check_127 sC_84 e (fun e => ?_)
    refine xB_iload hF dX6_check_128 rfl ?_
    refine xB_icmp_eq (tgt := 138) hF dX6_check_130 rfl e (fun _ e => ?_) (fun _ e => ?_)
    · refine xB_iinc (L' := [_, _, _, _, _, _, _]) hF dX6_check_138 rfl ki_1 rfl rfl rfl ?_
      refine xB_goto (tgt := 58) hF dX6_check_141 rfl ?_
      exact xB_l (hk58 _ _ _ _ e) (And.intro rfl (And.intro rfl (And.intro rfl (And.intro rfl (And.intro rfl (True.intro))))))
    · refine xB_iconst hF dX6_check_133 ki_1 ?_
      refine xB_iload hF dX6_check_134 rfl ?_
      refine xB_iadd hF dX6_check_136 ?_
      exact xB_ireturn hF dX6_check_137 e
def f_X6_check_c91 (k58 : Int32 → Int32 → Int32 → xH → Option (Int32 × xH)) (a1 : Int32) (v2 : Int32) (v3 : Int32) (v4 : Int32) (v5 : Int32) (h : xH) : Option (Int32 × xH) :=
    if v5 = 0 then (bn (f_X5_allWear 44 h) fun r1 h2 => f_X6_check_c113 k58 a1 v2 v3 v4 r1 h2) else (f_X6_check_c113 k58 a1 v2 v3 v4 (h 44 12) h)
set_option maxRecDepth 20000 in
set_option maxHeartbeats 2000000 in
theorem t_X6_check_c91 {l : Launch} {γ : xG} {k58 : Int32 → Int32 → Int32 → xH → Option (Int32 × xH)} {a1 : Int32} {r : Int32} {hr : xH} {C : xCx} (hF : xF C cX6_check RX6 7 6 γ xSC (some (.int r)) hr l (some .int)) (hk58 : ∀ (v2 : Int32) (v3 : Int32) (v4 : Int32) (h : xH), k58 v2 v3 v4 h = some (r, hr) → xB C h 58 [some (.ref (γ.2.2.2 0)), some (.int a1), some (.int v2), some (.int v3), some (.int v4), none, none] []) : ∀ (v2 : Int32) (v3 : Int32) (v4 : Int32) (v5 : Int32) (h : xH), f_X6_check_c91 k58 a1 v2 v3 v4 v5 h = some (r, hr) → xB C h 91 [some (.ref (γ.2.2.2 0)), some (.int a1), some (.int v2), some (.int v3), some (.int v4), some (.int v5), none] [] := by
  intro v2 v3 v4 v5 h e
  unfold f_X6_check_c91 at e
  refine xB_iload hF dX6_check_91 rfl ?_
  refine xB_if_eq (tgt := 106) hF dX6_check_93 rfl e (fun _ e => ?_) (fun _ e => ?_)
  · refine xB_aload_n hF dX6_check_106 rfl ?_
    refine xB_get hF dX6_check_107 fl_X6_35 sC_0 rfl rfl ?_
    obtain ⟨r1, h2, e3, e⟩ := bn_of e
    refine xB_callVi hF dX6_check_110 (t_X5_allWear isX5_44 e3) cw_X6_314 isX5_44.1 rfl rfl rfl rfl rfl ?_
    exact xB_l (t_X6_check_c113 hF hk58 _ _ _ _ _ e) (And.intro rfl (And.intro rfl (And.intro rfl (And.intro rfl (And.intro rfl (True.intro))))))
  · refine xB_aload_n hF dX6_check_96 rfl ?_
    refine xB_get hF dX6_check_97 fl_X6_35 sC_0 rfl rfl ?_
    refine xB_get hF dX6_check_100 fl_X6_161 isX5_44.1 rfl rfl ?_
    refine xB_goto (tgt := 113) hF dX6_check_103 rfl ?_
    exact xB_l (t_X6_check_c113 hF hk58 _ _ _ _ _ e) (And.intro rfl (And.intro rfl (And.intro rfl (And.intro rfl (And.intro rfl (True.intro))))))
def f_X6_check_c76 (k58 : Int32 → Int32 → Int32 → xH → Option (Int32 × xH)) (a1 : Int32) (v2 : Int32) (v3 : Int32) (v4 : Int32) (s0 : Int32) (h : xH) : Option (Int32 × xH) :=
    if s0 = 0 then (f_X6_check_c91 k58 a1 v2 v3 v4 s0 h) else (bn (f_X5_goOn 44 1 h) fun r1 h2 => f_X6_check_c91 k58 a1 v2 v3 v4 s0 h2)
set_option maxRecDepth 20000 in
set_option maxHeartbeats 2000000 in
theorem t_X6_check_c76 {l : Launch} {γ : xG} {k58 : Int32 → Int32 → Int32 → xH → Option (Int32 × xH)} {a1 : Int32} {r : Int32} {hr : xH} {C : xCx} (hF : xF C cX6_check RX6 7 6 γ xSC (some (.int r)) hr l (some .int)) (hk58 : ∀ (v2 : Int32) (v3 : Int32) (v4 : Int32) (h : xH), k58 v2 v3 v4 h = some (r, hr) → xB C h 58 [some (.ref (γ.2.2.2 0)), some (.int a1), some (.int v2), some (.int v3), some (.int v4), none, none] []) : ∀ (v2 : Int32) (v3 : Int32) (v4 : Int32) (s0 : Int32) (h : xH), f_X6_check_c76 k58 a1 v2 v3 v4 s0 h = some (r, hr) → xB C h 76 [some (.ref (γ.2.2.2 0)), some (.int a1), some (.int v2), some (.int v3), some (.int v4), none, none] [.int s0] := by
  intro v2 v3 v4 s0 h e
  unfold f_X6_check_c76 at e
  refine xB_istore (L' := [_, _, _, _, _, _, _]) hF dX6_check_76 rfl rfl rfl ?_
  refine xB_iload hF dX6_check_78 rfl ?_
  refine xB_if_eq (tgt := 91) hF dX6_check_80 rfl e (fun _ e => ?_) (fun _ e => ?_)
  · exact xB_l (t_X6_check_c91 hF hk58 _ _ _ _ _ e) (And.intro rfl (And.intro rfl (And.intro rfl (And.intro rfl (And.intro rfl (And.intro rfl (True.intro)))))))
  · refine xB_aload_n hF dX6_check_83 rfl ?_
    refine xB_get hF dX6_check_84 fl_X6_35 sC_0 rfl rfl ?_
    refine xB_iconst hF dX6_check_87 ki_1 ?_
    obtain ⟨r1, h2, e3, e⟩ := bn_of e
    refine xB_callVv hF dX6_check_88 (t_X5_goOn isX5_44 e3) cw_X6_167 isX5_44.1 rfl rfl rfl rfl rfl ?_
    exact xB_l (t_X6_check_c91 hF hk58 _ _ _ _ _ e) (And.intro rfl (And.intro rfl (And.intro rfl (And.intro rfl (And.intro rfl (And.intro rfl (True.intro)))))))
def f_X6_check_c58 (a1 : Int32) : Nat → Int32 → Int32 → Int32 → xH → Option (Int32 × xH)
  | 0, _, _, _, _ => none
  | n + 1, v2, v3, v4, h =>
    if v3 ≤ v4 then (if v2 ≤ v3 then (some (0, h)) else (some (1 + v3, h))) else (if (v4 - v4 / 2 * 2) = 0 then (f_X6_check_c76 (f_X6_check_c58 a1 n) a1 v2 v3 v4 1 h) else (f_X6_check_c76 (f_X6_check_c58 a1 n) a1 v2 v3 v4 0 h))
set_option maxRecDepth 20000 in
set_option maxHeartbeats 2000000 in
theorem t_X6_check_c58 {l : Launch} {γ : xG} {a1 : Int32} {r : Int32} {hr : xH} {C : xCx} (hF : xF C cX6_check RX6 7 6 γ xSC (some (.int r)) hr l (some .int)) : ∀ (n : Nat) (v2 : Int32) (v3 : Int32) (v4 : Int32) (h : xH), f_X6_check_c58 a1 n v2 v3 v4 h = some (r, hr) → xB C h 58 [some (.ref (γ.2.2.2 0)), some (.int a1), some (.int v2), some (.int v3), some (.int v4), none, none] [] := by
  intro n
  induction n with
  | zero => intro v2 v3 v4 h e; cases e
  | succ n ih =>
    intro v2 v3 v4 h e
    rw [f_X6_check_c58] at e
    refine xB_iload hF dX6_check_58 rfl ?_
    refine xB_iload_n hF dX6_check_60 rfl ?_
    refine xB_icmp_ge (tgt := 144) hF dX6_check_61 rfl e (fun _ e => ?_) (fun _ e => ?_)
    · refine xB_iload_n hF dX6_check_144 rfl ?_
      refine xB_iload_n hF dX6_check_145 rfl ?_
      refine xB_icmp_le (tgt := 155) hF dX6_check_146 rfl e (fun _ e => ?_) (fun _ e => ?_)
      · refine xB_iconst hF dX6_check_155 ki_0 ?_
        exact xB_ireturn hF dX6_check_156 e
      · refine xB_iconst hF dX6_check_149 ki_1 ?_
        refine xB_iload_n hF dX6_check_150 rfl ?_
        refine xB_iadd hF dX6_check_151 ?_
        refine xB_goto (tgt := 156) hF dX6_check_152 rfl ?_
        exact xB_ireturn hF dX6_check_156 e
    · refine xB_iload hF dX6_check_64 rfl ?_
      refine xB_iconst hF dX6_check_66 ki_2 ?_
      refine xB_iremc hF dX6_check_67 (by decide) ?_
      refine xB_if_ne (tgt := 75) hF dX6_check_68 rfl e (fun _ e => ?_) (fun _ e => ?_)
      · refine xB_iconst hF dX6_check_71 ki_1 ?_
        refine xB_goto (tgt := 76) hF dX6_check_72 rfl ?_
        exact xB_l (t_X6_check_c76 hF ih _ _ _ _ _ e) (And.intro rfl (And.intro rfl (And.intro rfl (And.intro rfl (And.intro rfl (True.intro))))))
      · refine xB_iconst hF dX6_check_75 ki_0 ?_
        exact xB_l (t_X6_check_c76 hF ih _ _ _ _ _ e) (And.intro rfl (And.intro rfl (And.intro rfl (And.intro rfl (And.intro rfl (True.intro))))))
def f_X6_check (a1 : Int32) (h : xH) : Option (Int32 × xH) :=
    nm (xst h 0 10 0) fun h1 => bn (f_X6_within a1 1 30 h1) fun r2 h3 => if r2 = 0 then (some ((-1000000001), h3)) else (if (h3 0 11) = 0 then (some ((-1000000002), h3)) else (bn (f_X5_become 44 34 h3) fun r5 h6 => bn (f_X5_marketsLeft 34 a1 h6) fun r8 h9 => f_X6_check_c58 a1 xN (h 0 10) (2 * r8) 0 h9))
set_option maxRecDepth 20000 in
set_option maxHeartbeats 2000000 in
theorem t_X6_check {l : Launch} {γ : xG} {a1 : Int32} {h : xH} {r : Int32} {hr : xH} (e : f_X6_check a1 h = some (r, hr)) : xCT l γ xSC yX6_check cX6_check 7 (some .int) 6 [.ref (γ.2.2.2 0), .int a1] h (some (.int r)) hr := by
  refine xCT.of (own := RX6) (L := [some (.ref (γ.2.2.2 0)), some (.int a1), none, none, none, none, none]) (by decide) rfl rfl rfl (fun C hF => ?_)
  unfold f_X6_check at e
  refine xB_aload_n hF dX6_check_0 rfl ?_
  refine xB_get hF dX6_check_1 fl_X6_66 sC_0 rfl rfl ?_
  refine xB_istore_n (L' := [_, _, _, _, _, _, _]) hF dX6_check_4 rfl rfl rfl ?_
  refine xB_aload_n hF dX6_check_5 rfl ?_
  refine xB_iconst hF dX6_check_6 ki_0 ?_
  refine xB_put hF dX6_check_7 fp_X6_66 sC_0 rfl rfl rfl rfl rfl ?_
  replace e := nm_of e
  refine xB_iload_n hF dX6_check_10 rfl ?_
  refine xB_iconst hF dX6_check_11 ki_1 ?_
  refine xB_bipush hF dX6_check_12 kb_30 ?_
  obtain ⟨r2, h3, e4, e⟩ := bn_of e
  refine xB_callSi hF dX6_check_14 (t_X6_within e4) cw_X6_78 rfl rfl rfl rfl ?_
  refine xB_if_ne (tgt := 23) hF dX6_check_17 rfl e (fun _ e => ?_) (fun _ e => ?_)
  · refine xB_ldc hF dX6_check_20 kc_X6_85 ?_
    exact xB_ireturn hF dX6_check_22 e
  · refine xB_aload_n hF dX6_check_23 rfl ?_
    refine xB_get hF dX6_check_24 fl_X6_70 sC_0 rfl rfl ?_
    refine xB_if_ne (tgt := 33) hF dX6_check_27 rfl e (fun _ e => ?_) (fun _ e => ?_)
    · refine xB_ldc hF dX6_check_30 kc_X6_156 ?_
      exact xB_ireturn hF dX6_check_32 e
    · refine xB_aload_n hF dX6_check_33 rfl ?_
      refine xB_get hF dX6_check_34 fl_X6_35 sC_0 rfl rfl ?_
      refine xB_aload_n hF dX6_check_37 rfl ?_
      refine xB_get hF dX6_check_38 fl_X6_32 sC_0 rfl rfl ?_
      obtain ⟨r5, h6, e7, e⟩ := bn_of e
      refine xB_callVv hF dX6_check_41 (t_X5_become isX5_44 isX5_34 e7) cw_X6_205 isX5_44.1 rfl rfl rfl rfl rfl ?_
      refine xB_iconst hF dX6_check_44 ki_2 ?_
      refine xB_aload_n hF dX6_check_45 rfl ?_
      refine xB_get hF dX6_check_46 fl_X6_32 sC_0 rfl rfl ?_
      refine xB_iload_n hF dX6_check_49 rfl ?_
      obtain ⟨r8, h9, e10, e⟩ := bn_of e
      refine xB_callVi hF dX6_check_50 (t_X5_marketsLeft isX5_34 e10) cw_X6_164 isX5_34.1 rfl rfl rfl rfl rfl ?_
      refine xB_imul hF dX6_check_53 ?_
      refine xB_istore_n (L' := [_, _, _, _, _, _, _]) hF dX6_check_54 rfl rfl rfl ?_
      refine xB_iconst hF dX6_check_55 ki_0 ?_
      refine xB_istore (L' := [_, _, _, _, _, _, _]) hF dX6_check_56 rfl rfl rfl ?_
      exact xB_l (t_X6_check_c58 hF _ _ _ _ _ e) (And.intro rfl (And.intro rfl (And.intro rfl (And.intro rfl (And.intro rfl (True.intro))))))
def f_X6_keep (h : xH) : Option (Int32 × xH) :=
    bn (f_X5_become 34 24 h) fun r1 h2 => nm (xst h2 0 11 1) fun h4 => some (h4 24 10, h4)
set_option maxRecDepth 20000 in
set_option maxHeartbeats 2000000 in
theorem t_X6_keep {l : Launch} {γ : xG} {h : xH} {r : Int32} {hr : xH} (e : f_X6_keep h = some (r, hr)) : xCT l γ xSC yX6_keep cX6_keep 1 (some .int) 2 [.ref (γ.2.2.2 0)] h (some (.int r)) hr := by
  refine xCT.of (own := RX6) (L := [some (.ref (γ.2.2.2 0))]) (by decide) rfl rfl rfl (fun C hF => ?_)
  unfold f_X6_keep at e
  refine xB_aload_n hF dX6_keep_0 rfl ?_
  refine xB_get hF dX6_keep_1 fl_X6_32 sC_0 rfl rfl ?_
  refine xB_aload_n hF dX6_keep_4 rfl ?_
  refine xB_get hF dX6_keep_5 fl_X6_28 sC_0 rfl rfl ?_
  obtain ⟨r1, h2, e3, e⟩ := bn_of e
  refine xB_callVv hF dX6_keep_8 (t_X5_become isX5_34 isX5_24 e3) cw_X6_205 isX5_34.1 rfl rfl rfl rfl rfl ?_
  refine xB_aload_n hF dX6_keep_11 rfl ?_
  refine xB_iconst hF dX6_keep_12 ki_1 ?_
  refine xB_put hF dX6_keep_13 fp_X6_70 sC_0 rfl rfl rfl rfl rfl ?_
  replace e := nm_of e
  refine xB_aload_n hF dX6_keep_16 rfl ?_
  refine xB_get hF dX6_keep_17 fl_X6_28 sC_0 rfl rfl ?_
  refine xB_get hF dX6_keep_20 fl_X6_86 isX5_24.1 rfl rfl ?_
  exact xB_ireturn hF dX6_keep_23 e
def f_X6_back (h : xH) : Option (Int32 × xH) :=
    if (h 0 11) = 0 then (some ((-1000000002), h)) else (bn (f_X5_become 24 34 h) fun r1 h2 => some (h2 24 10, h2))
set_option maxRecDepth 20000 in
set_option maxHeartbeats 2000000 in
theorem t_X6_back {l : Launch} {γ : xG} {h : xH} {r : Int32} {hr : xH} (e : f_X6_back h = some (r, hr)) : xCT l γ xSC yX6_back cX6_back 1 (some .int) 2 [.ref (γ.2.2.2 0)] h (some (.int r)) hr := by
  refine xCT.of (own := RX6) (L := [some (.ref (γ.2.2.2 0))]) (by decide) rfl rfl rfl (fun C hF => ?_)
  unfold f_X6_back at e
  refine xB_aload_n hF dX6_back_0 rfl ?_
  refine xB_get hF dX6_back_1 fl_X6_70 sC_0 rfl rfl ?_
  refine xB_if_ne (tgt := 10) hF dX6_back_4 rfl e (fun _ e => ?_) (fun _ e => ?_)
  · refine xB_ldc hF dX6_back_7 kc_X6_156 ?_
    exact xB_ireturn hF dX6_back_9 e
  · refine xB_aload_n hF dX6_back_10 rfl ?_
    refine xB_get hF dX6_back_11 fl_X6_28 sC_0 rfl rfl ?_
    refine xB_aload_n hF dX6_back_14 rfl ?_
    refine xB_get hF dX6_back_15 fl_X6_32 sC_0 rfl rfl ?_
    obtain ⟨r1, h2, e3, e⟩ := bn_of e
    refine xB_callVv hF dX6_back_18 (t_X5_become isX5_24 isX5_34 e3) cw_X6_205 isX5_24.1 rfl rfl rfl rfl rfl ?_
    refine xB_aload_n hF dX6_back_21 rfl ?_
    refine xB_get hF dX6_back_22 fl_X6_28 sC_0 rfl rfl ?_
    refine xB_get hF dX6_back_25 fl_X6_86 isX5_24.1 rfl rfl ?_
    exact xB_ireturn hF dX6_back_28 e
def f_X6_count (a1 : Int32) (h : xH) : Option (Int32 × xH) :=
    if a1 = 0 then (some (h 24 10, h)) else (if a1 = 1 then (some (h 24 14, h)) else (if a1 = 2 then (bn (f_X5_allWear 24 h) fun r1 h2 => some (r1, h2)) else (if a1 = 3 then (bn (f_X5_allValue 24 h) fun r4 h5 => some (r4, h5)) else (if a1 = 4 then (some (h 24 11, h)) else (if a1 = 5 then (some (h 0 10, h)) else (if a1 = 6 then (some (h 21 2, h)) else (if a1 = 7 then (some (h 24 15, h)) else (some ((-1000000001), h)))))))))
set_option maxRecDepth 20000 in
set_option maxHeartbeats 2000000 in
theorem t_X6_count {l : Launch} {γ : xG} {a1 : Int32} {h : xH} {r : Int32} {hr : xH} (e : f_X6_count a1 h = some (r, hr)) : xCT l γ xSC yX6_count cX6_count 2 (some .int) 5 [.ref (γ.2.2.2 0), .int a1] h (some (.int r)) hr := by
  refine xCT.of (own := RX6) (L := [some (.ref (γ.2.2.2 0)), some (.int a1)]) (by decide) rfl rfl rfl (fun C hF => ?_)
  unfold f_X6_count at e
  refine xB_iload_n hF dX6_count_0 rfl ?_
  rcases if_of e with ⟨c0, e⟩ | ⟨c0, e⟩
  · refine xB_tableIn (v := (0)) (tgt := 48) hF dX6_count_1 c0 (by decide) (by decide) rfl rfl ?_
    refine xB_aload_n hF dX6_count_48 rfl ?_
    refine xB_get hF dX6_count_49 fl_X6_28 sC_0 rfl rfl ?_
    refine xB_get hF dX6_count_52 fl_X6_86 isX5_24.1 rfl rfl ?_
    exact xB_ireturn hF dX6_count_55 e
  rcases if_of e with ⟨c1, e⟩ | ⟨c1, e⟩
  · refine xB_tableIn (v := (1)) (tgt := 56) hF dX6_count_1 c1 (by decide) (by decide) rfl rfl ?_
    refine xB_aload_n hF dX6_count_56 rfl ?_
    refine xB_get hF dX6_count_57 fl_X6_28 sC_0 rfl rfl ?_
    refine xB_get hF dX6_count_60 fl_X6_317 isX5_24.1 rfl rfl ?_
    exact xB_ireturn hF dX6_count_63 e
  rcases if_of e with ⟨c2, e⟩ | ⟨c2, e⟩
  · refine xB_tableIn (v := (2)) (tgt := 64) hF dX6_count_1 c2 (by decide) (by decide) rfl rfl ?_
    refine xB_aload_n hF dX6_count_64 rfl ?_
    refine xB_get hF dX6_count_65 fl_X6_28 sC_0 rfl rfl ?_
    obtain ⟨r1, h2, e3, e⟩ := bn_of e
    refine xB_callVi hF dX6_count_68 (t_X5_allWear isX5_24 e3) cw_X6_314 isX5_24.1 rfl rfl rfl rfl rfl ?_
    exact xB_ireturn hF dX6_count_71 e
  rcases if_of e with ⟨c3, e⟩ | ⟨c3, e⟩
  · refine xB_tableIn (v := (3)) (tgt := 72) hF dX6_count_1 c3 (by decide) (by decide) rfl rfl ?_
    refine xB_aload_n hF dX6_count_72 rfl ?_
    refine xB_get hF dX6_count_73 fl_X6_28 sC_0 rfl rfl ?_
    obtain ⟨r4, h5, e6, e⟩ := bn_of e
    refine xB_callVi hF dX6_count_76 (t_X5_allValue isX5_24 e6) cw_X6_212 isX5_24.1 rfl rfl rfl rfl rfl ?_
    exact xB_ireturn hF dX6_count_79 e
  rcases if_of e with ⟨c4, e⟩ | ⟨c4, e⟩
  · refine xB_tableIn (v := (4)) (tgt := 80) hF dX6_count_1 c4 (by decide) (by decide) rfl rfl ?_
    refine xB_aload_n hF dX6_count_80 rfl ?_
    refine xB_get hF dX6_count_81 fl_X6_28 sC_0 rfl rfl ?_
    refine xB_get hF dX6_count_84 fl_X6_250 isX5_24.1 rfl rfl ?_
    exact xB_ireturn hF dX6_count_87 e
  rcases if_of e with ⟨c5, e⟩ | ⟨c5, e⟩
  · refine xB_tableIn (v := (5)) (tgt := 88) hF dX6_count_1 c5 (by decide) (by decide) rfl rfl ?_
    refine xB_aload_n hF dX6_count_88 rfl ?_
    refine xB_get hF dX6_count_89 fl_X6_66 sC_0 rfl rfl ?_
    exact xB_ireturn hF dX6_count_92 e
  rcases if_of e with ⟨c6, e⟩ | ⟨c6, e⟩
  · refine xB_tableIn (v := (6)) (tgt := 93) hF dX6_count_1 c6 (by decide) (by decide) rfl rfl ?_
    refine xB_aload_n hF dX6_count_93 rfl ?_
    refine xB_get hF dX6_count_94 fl_X6_19 sC_0 rfl rfl ?_
    refine xB_get hF dX6_count_97 fl_X6_237 sC_21 rfl rfl ?_
    exact xB_ireturn hF dX6_count_100 e
  rcases if_of e with ⟨c7, e⟩ | ⟨c7, e⟩
  · refine xB_tableIn (v := (7)) (tgt := 101) hF dX6_count_1 c7 (by decide) (by decide) rfl rfl ?_
    refine xB_aload_n hF dX6_count_101 rfl ?_
    refine xB_get hF dX6_count_102 fl_X6_28 sC_0 rfl rfl ?_
    refine xB_get hF dX6_count_105 fl_X6_153 isX5_24.1 rfl rfl ?_
    exact xB_ireturn hF dX6_count_108 e
  refine xB_tableOut (tgt := 109) hF dX6_count_1 (by have := xne (v := (0)) (n := 0) rfl c0; have := xne (v := (1)) (n := 1) rfl c1; have := xne (v := (2)) (n := 2) rfl c2; have := xne (v := (3)) (n := 3) rfl c3; have := xne (v := (4)) (n := 4) rfl c4; have := xne (v := (5)) (n := 5) rfl c5; have := xne (v := (6)) (n := 6) rfl c6; have := xne (v := (7)) (n := 7) rfl c7; omega) rfl ?_
  refine xB_ldc hF dX6_count_109 kc_X6_85 ?_
  exact xB_ireturn hF dX6_count_111 e
def f_X0_write (a1 : Int32) (h : xH) : Option (Int32 × xH) :=
    gd a1 14 <| nm (xst h 2 (Int32.toNatClampNeg a1) (h 21 7)) fun h1 => gd a1 14 <| nm (xst h1 3 (Int32.toNatClampNeg a1) (h1 21 9)) fun h2 => gd a1 14 <| nm (xst h2 4 (Int32.toNatClampNeg a1) (h2 21 8)) fun h3 => gd a1 14 <| gc 0 0 (h3 21 8) 96 96 <| nm (xpt h3 (6 + (Int32.toNatClampNeg a1)) (va_cpy (h3 23) (h3 (6 + (Int32.toNatClampNeg a1))) (Int32.toNatClampNeg 0) (Int32.toNatClampNeg 0) (Int32.toNatClampNeg (h3 21 8)))) fun h5 => some (0, h5)
set_option maxRecDepth 20000 in
set_option maxHeartbeats 2000000 in
theorem t_X0_write {l : Launch} {γ : xG} {a1 : Int32} {h : xH} {r : Int32} {hr : xH} (e : f_X0_write a1 h = some (r, hr)) : xCT l γ xSC yX0_write cX0_write 3 none 1 [.ref (γ.2.2.2 1), .int a1, .ref (γ.2.2.2 21)] h none hr := by
  refine xCT.of (own := RX0) (L := [some (.ref (γ.2.2.2 1)), some (.int a1), some (.ref (γ.2.2.2 21))]) (by decide) rfl rfl rfl (fun C hF => ?_)
  unfold f_X0_write at e
  refine xB_aload_n hF dX0_write_0 rfl ?_
  refine xB_get hF dX0_write_1 fl_X0_9 sC_1 rfl rfl ?_
  refine xB_iload_n hF dX0_write_4 rfl ?_
  refine xB_aload_n hF dX0_write_5 rfl ?_
  refine xB_get hF dX0_write_6 fl_X0_29 sC_21 rfl rfl ?_
  refine xB_iast hF dX0_write_9 sC_2 e (fun e => ?_)
  replace e := nm_of e
  refine xB_aload_n hF dX0_write_10 rfl ?_
  refine xB_get hF dX0_write_11 fl_X0_15 sC_1 rfl rfl ?_
  refine xB_iload_n hF dX0_write_14 rfl ?_
  refine xB_aload_n hF dX0_write_15 rfl ?_
  refine xB_get hF dX0_write_16 fl_X0_34 sC_21 rfl rfl ?_
  refine xB_iast hF dX0_write_19 sC_3 e (fun e => ?_)
  replace e := nm_of e
  refine xB_aload_n hF dX0_write_20 rfl ?_
  refine xB_get hF dX0_write_21 fl_X0_18 sC_1 rfl rfl ?_
  refine xB_iload_n hF dX0_write_24 rfl ?_
  refine xB_aload_n hF dX0_write_25 rfl ?_
  refine xB_get hF dX0_write_26 fl_X0_36 sC_21 rfl rfl ?_
  refine xB_iast hF dX0_write_29 sC_4 e (fun e => ?_)
  replace e := nm_of e
  refine xB_aload_n hF dX0_write_30 rfl ?_
  refine xB_get hF dX0_write_31 fl_X0_39 sC_21 rfl rfl ?_
  refine xB_iconst hF dX0_write_34 ki_0 ?_
  refine xB_aload_n hF dX0_write_35 rfl ?_
  refine xB_get hF dX0_write_36 fl_X0_23 sC_1 rfl rfl ?_
  refine xB_iload_n hF dX0_write_39 rfl ?_
  refine xB_aald hF dX0_write_40 sC_5 rfl rfl e (fun q4 e => ?_)
  refine xB_iconst hF dX0_write_41 ki_0 ?_
  refine xB_aload_n hF dX0_write_42 rfl ?_
  refine xB_get hF dX0_write_43 fl_X0_36 sC_21 rfl rfl ?_
  refine xB_copy hF dX0_write_46 cl_X0_41 cw_copy sC_23 (sC_step q4) rfl rfl e (fun e => ?_)
  replace e := nm_of e
  exact xB_vreturn hF dX0_write_49 e
def f_X2_addStep (a1 : Int32) (h : xH) : Option (Int32 × xH) :=
    if 96 ≤ (h 21 8) then (some (0, h)) else (gd (h 21 8) 96 <| nm (xst h 23 (Int32.toNatClampNeg (h 21 8)) a1) fun h1 => nm (xst h1 21 8 ((h1 21 8) + 1)) fun h2 => some (0, h2))
set_option maxRecDepth 20000 in
set_option maxHeartbeats 2000000 in
theorem t_X2_addStep {l : Launch} {γ : xG} {a1 : Int32} {h : xH} {r : Int32} {hr : xH} (e : f_X2_addStep a1 h = some (r, hr)) : xCT l γ xSC yX2_addStep cX2_addStep 2 none 0 [.ref (γ.2.2.2 21), .int a1] h none hr := by
  refine xCT.of (own := RX2) (L := [some (.ref (γ.2.2.2 21)), some (.int a1)]) (by decide) rfl rfl rfl (fun C hF => ?_)
  unfold f_X2_addStep at e
  refine xB_aload_n hF dX2_addStep_0 rfl ?_
  refine xB_get hF dX2_addStep_1 fl_X2_28 sC_21 rfl rfl ?_
  refine xB_bipush hF dX2_addStep_4 kb_96 ?_
  refine xB_icmp_ge (tgt := 29) hF dX2_addStep_6 rfl e (fun _ e => ?_) (fun _ e => ?_)
  · exact xB_vreturn hF dX2_addStep_29 e
  · refine xB_aload_n hF dX2_addStep_9 rfl ?_
    refine xB_get hF dX2_addStep_10 fl_X2_15 sC_21 rfl rfl ?_
    refine xB_aload_n hF dX2_addStep_13 rfl ?_
    refine xB_get hF dX2_addStep_14 fl_X2_28 sC_21 rfl rfl ?_
    refine xB_iload_n hF dX2_addStep_17 rfl ?_
    refine xB_iast hF dX2_addStep_18 sC_23 e (fun e => ?_)
    replace e := nm_of e
    refine xB_aload_n hF dX2_addStep_19 rfl ?_
    refine xB_dup hF dX2_addStep_20 rfl ?_
    refine xB_get hF dX2_addStep_21 fl_X2_28 sC_21 rfl rfl ?_
    refine xB_iconst hF dX2_addStep_24 ki_1 ?_
    refine xB_iadd hF dX2_addStep_25 ?_
    refine xB_put hF dX2_addStep_26 fp_X2_28 sC_21 rfl rfl rfl rfl rfl ?_
    replace e := nm_of e
    exact xB_vreturn hF dX2_addStep_29 e
