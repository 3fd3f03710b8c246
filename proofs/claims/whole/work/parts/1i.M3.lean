def f_X7_isSign (a1 : Int32) (h : xH) : Option (Int32 × xH) :=
    if (h 0 18) = 3 then (if (h 0 20) = a1 then (some (1, h)) else (some (0, h))) else (some (0, h))
set_option maxRecDepth 20000 in
set_option maxHeartbeats 2000000 in
theorem t_X7_isSign {l : Launch} {γ : xG} {a1 : Int32} {h : xH} {r : Int32} {hr : xH} (e : f_X7_isSign a1 h = some (r, hr)) : xCT l γ xSM yX7_isSign cX7_isSign 2 (some .boolean) 0 [.ref (γ.2.2.2 0), .int a1] h (some (.int r)) hr := by
  refine xCT.of (own := RX7) (L := [some (.ref (γ.2.2.2 0)), some (.int a1)]) (by decide) rfl rfl rfl (fun C hF => ?_)
  unfold f_X7_isSign at e
  refine xB_aload_n hF dX7_isSign_0 rfl ?_
  refine xB_get hF dX7_isSign_1 fl_X7_228 sM_0 rfl rfl ?_
  refine xB_iconst hF dX7_isSign_4 ki_3 ?_
  refine xB_icmp_ne (tgt := 20) hF dX7_isSign_5 rfl e (fun _ e => ?_) (fun _ e => ?_)
  · refine xB_aload_n hF dX7_isSign_8 rfl ?_
    refine xB_get hF dX7_isSign_9 fl_X7_237 sM_0 rfl rfl ?_
    refine xB_iload_n hF dX7_isSign_12 rfl ?_
    refine xB_icmp_ne (tgt := 20) hF dX7_isSign_13 rfl e (fun _ e => ?_) (fun _ e => ?_)
    · refine xB_iconst hF dX7_isSign_16 ki_1 ?_
      refine xB_goto (tgt := 21) hF dX7_isSign_17 rfl ?_
      exact xB_zreturn hF dX7_isSign_21 rfl e
    · refine xB_iconst hF dX7_isSign_20 ki_0 ?_
      exact xB_zreturn hF dX7_isSign_21 rfl e
  · refine xB_iconst hF dX7_isSign_20 ki_0 ?_
    exact xB_zreturn hF dX7_isSign_21 rfl e
def f_X7_isWordAt_c10 (a1 : Int32) (a2 : Int32) (a3 : Int32) (a4 : Int32) (s0 : Int32) (h : xH) : Option (Int32 × xH) :=
    if (h 0 18) = 1 then (if ((h 0 17) - (h 0 16)) = s0 then (gd (h 0 16) 96 <| if (h 14 (Int32.toNatClampNeg (h 0 16))) = a1 then (gd ((h 0 16) + 1) 96 <| if (h 14 (Int32.toNatClampNeg ((h 0 16) + 1))) = a2 then (gd ((h 0 16) + 2) 96 <| if (h 14 (Int32.toNatClampNeg ((h 0 16) + 2))) = a3 then (if a4 = 0 then (some (1, h)) else (gd ((h 0 16) + 3) 96 <| if (h 14 (Int32.toNatClampNeg ((h 0 16) + 3))) = a4 then (some (1, h)) else (some (0, h)))) else (some (0, h))) else (some (0, h))) else (some (0, h))) else (some (0, h))) else (some (0, h))
set_option maxRecDepth 20000 in
set_option maxHeartbeats 2000000 in
theorem t_X7_isWordAt_c10 {l : Launch} {γ : xG} {a1 : Int32} {a2 : Int32} {a3 : Int32} {a4 : Int32} {r : Int32} {hr : xH} {C : xCx} (hF : xF C cX7_isWordAt RX7 6 0 γ xSM (some (.int r)) hr l (some .boolean)) : ∀ (s0 : Int32) (h : xH), f_X7_isWordAt_c10 a1 a2 a3 a4 s0 h = some (r, hr) → xB C h 10 [some (.ref (γ.2.2.2 0)), some (.int a1), some (.int a2), some (.int a3), some (.int a4), none] [.int s0] := by
  intro s0 h e
  unfold f_X7_isWordAt_c10 at e
  refine xB_istore (L' := [_, _, _, _, _, _]) hF dX7_isWordAt_10 rfl rfl rfl ?_
  refine xB_aload_n hF dX7_isWordAt_12 rfl ?_
  refine xB_get hF dX7_isWordAt_13 fl_X7_228 sM_0 rfl rfl ?_
  refine xB_iconst hF dX7_isWordAt_16 ki_1 ?_
  refine xB_icmp_ne (tgt := 102) hF dX7_isWordAt_17 rfl e (fun _ e => ?_) (fun _ e => ?_)
  · refine xB_aload_n hF dX7_isWordAt_20 rfl ?_
    refine xB_get hF dX7_isWordAt_21 fl_X7_225 sM_0 rfl rfl ?_
    refine xB_aload_n hF dX7_isWordAt_24 rfl ?_
    refine xB_get hF dX7_isWordAt_25 fl_X7_231 sM_0 rfl rfl ?_
    refine xB_isub hF dX7_isWordAt_28 ?_
    refine xB_iload hF dX7_isWordAt_29 rfl ?_
    refine xB_icmp_ne (tgt := 102) hF dX7_isWordAt_31 rfl e (fun _ e => ?_) (fun _ e => ?_)
    · refine xB_aload_n hF dX7_isWordAt_34 rfl ?_
      refine xB_get hF dX7_isWordAt_35 fl_X7_49 sM_0 rfl rfl ?_
      refine xB_aload_n hF dX7_isWordAt_38 rfl ?_
      refine xB_get hF dX7_isWordAt_39 fl_X7_231 sM_0 rfl rfl ?_
      refine xB_iald hF dX7_isWordAt_42 sM_14 e (fun e => ?_)
      refine xB_iload_n hF dX7_isWordAt_43 rfl ?_
      refine xB_icmp_ne (tgt := 102) hF dX7_isWordAt_44 rfl e (fun _ e => ?_) (fun _ e => ?_)
      · refine xB_aload_n hF dX7_isWordAt_47 rfl ?_
        refine xB_get hF dX7_isWordAt_48 fl_X7_49 sM_0 rfl rfl ?_
        refine xB_aload_n hF dX7_isWordAt_51 rfl ?_
        refine xB_get hF dX7_isWordAt_52 fl_X7_231 sM_0 rfl rfl ?_
        refine xB_iconst hF dX7_isWordAt_55 ki_1 ?_
        refine xB_iadd hF dX7_isWordAt_56 ?_
        refine xB_iald hF dX7_isWordAt_57 sM_14 e (fun e => ?_)
        refine xB_iload_n hF dX7_isWordAt_58 rfl ?_
        refine xB_icmp_ne (tgt := 102) hF dX7_isWordAt_59 rfl e (fun _ e => ?_) (fun _ e => ?_)
        · refine xB_aload_n hF dX7_isWordAt_62 rfl ?_
          refine xB_get hF dX7_isWordAt_63 fl_X7_49 sM_0 rfl rfl ?_
          refine xB_aload_n hF dX7_isWordAt_66 rfl ?_
          refine xB_get hF dX7_isWordAt_67 fl_X7_231 sM_0 rfl rfl ?_
          refine xB_iconst hF dX7_isWordAt_70 ki_2 ?_
          refine xB_iadd hF dX7_isWordAt_71 ?_
          refine xB_iald hF dX7_isWordAt_72 sM_14 e (fun e => ?_)
          refine xB_iload_n hF dX7_isWordAt_73 rfl ?_
          refine xB_icmp_ne (tgt := 102) hF dX7_isWordAt_74 rfl e (fun _ e => ?_) (fun _ e => ?_)
          · refine xB_iload hF dX7_isWordAt_77 rfl ?_
            refine xB_if_eq (tgt := 98) hF dX7_isWordAt_79 rfl e (fun _ e => ?_) (fun _ e => ?_)
            · refine xB_iconst hF dX7_isWordAt_98 ki_1 ?_
              refine xB_goto (tgt := 103) hF dX7_isWordAt_99 rfl ?_
              exact xB_zreturn hF dX7_isWordAt_103 rfl e
            · refine xB_aload_n hF dX7_isWordAt_82 rfl ?_
              refine xB_get hF dX7_isWordAt_83 fl_X7_49 sM_0 rfl rfl ?_
              refine xB_aload_n hF dX7_isWordAt_86 rfl ?_
              refine xB_get hF dX7_isWordAt_87 fl_X7_231 sM_0 rfl rfl ?_
              refine xB_iconst hF dX7_isWordAt_90 ki_3 ?_
              refine xB_iadd hF dX7_isWordAt_91 ?_
              refine xB_iald hF dX7_isWordAt_92 sM_14 e (fun e => ?_)
              refine xB_iload hF dX7_isWordAt_93 rfl ?_
              refine xB_icmp_ne (tgt := 102) hF dX7_isWordAt_95 rfl e (fun _ e => ?_) (fun _ e => ?_)
              · refine xB_iconst hF dX7_isWordAt_98 ki_1 ?_
                refine xB_goto (tgt := 103) hF dX7_isWordAt_99 rfl ?_
                exact xB_zreturn hF dX7_isWordAt_103 rfl e
              · refine xB_iconst hF dX7_isWordAt_102 ki_0 ?_
                exact xB_zreturn hF dX7_isWordAt_103 rfl e
          · refine xB_iconst hF dX7_isWordAt_102 ki_0 ?_
            exact xB_zreturn hF dX7_isWordAt_103 rfl e
        · refine xB_iconst hF dX7_isWordAt_102 ki_0 ?_
          exact xB_zreturn hF dX7_isWordAt_103 rfl e
      · refine xB_iconst hF dX7_isWordAt_102 ki_0 ?_
        exact xB_zreturn hF dX7_isWordAt_103 rfl e
    · refine xB_iconst hF dX7_isWordAt_102 ki_0 ?_
      exact xB_zreturn hF dX7_isWordAt_103 rfl e
  · refine xB_iconst hF dX7_isWordAt_102 ki_0 ?_
    exact xB_zreturn hF dX7_isWordAt_103 rfl e
def f_X7_isWordAt (a1 : Int32) (a2 : Int32) (a3 : Int32) (a4 : Int32) (h : xH) : Option (Int32 × xH) :=
    if a4 = 0 then (f_X7_isWordAt_c10 a1 a2 a3 a4 3 h) else (f_X7_isWordAt_c10 a1 a2 a3 a4 4 h)
set_option maxRecDepth 20000 in
set_option maxHeartbeats 2000000 in
theorem t_X7_isWordAt {l : Launch} {γ : xG} {a1 : Int32} {a2 : Int32} {a3 : Int32} {a4 : Int32} {h : xH} {r : Int32} {hr : xH} (e : f_X7_isWordAt a1 a2 a3 a4 h = some (r, hr)) : xCT l γ xSM yX7_isWordAt cX7_isWordAt 6 (some .boolean) 0 [.ref (γ.2.2.2 0), .int a1, .int a2, .int a3, .int a4] h (some (.int r)) hr := by
  refine xCT.of (own := RX7) (L := [some (.ref (γ.2.2.2 0)), some (.int a1), some (.int a2), some (.int a3), some (.int a4), none]) (by decide) rfl rfl rfl (fun C hF => ?_)
  unfold f_X7_isWordAt at e
  refine xB_iload hF dX7_isWordAt_0 rfl ?_
  refine xB_if_ne (tgt := 9) hF dX7_isWordAt_2 rfl e (fun _ e => ?_) (fun _ e => ?_)
  · refine xB_iconst hF dX7_isWordAt_5 ki_3 ?_
    refine xB_goto (tgt := 10) hF dX7_isWordAt_6 rfl ?_
    exact xB_l (t_X7_isWordAt_c10 hF _ _ e) (And.intro rfl (And.intro rfl (And.intro rfl (And.intro rfl (And.intro rfl (True.intro))))))
  · refine xB_iconst hF dX7_isWordAt_9 ki_4 ?_
    exact xB_l (t_X7_isWordAt_c10 hF _ _ e) (And.intro rfl (And.intro rfl (And.intro rfl (And.intro rfl (And.intro rfl (True.intro))))))
def f_X7_isLong_c11 (a1 : Int32) (a2 : Int32) (a3 : Int32) (a4 : Int32) (a5 : Int32) (a6 : Int32) (s0 : Int32) (h : xH) : Option (Int32 × xH) :=
    if (h 0 18) = 1 then (if ((h 0 17) - (h 0 16)) = s0 then (gd (h 0 16) 96 <| if (h 14 (Int32.toNatClampNeg (h 0 16))) = a1 then (gd ((h 0 16) + 1) 96 <| if (h 14 (Int32.toNatClampNeg ((h 0 16) + 1))) = a2 then (gd ((h 0 16) + 2) 96 <| if (h 14 (Int32.toNatClampNeg ((h 0 16) + 2))) = a3 then (gd ((h 0 16) + 3) 96 <| if (h 14 (Int32.toNatClampNeg ((h 0 16) + 3))) = a4 then (gd ((h 0 16) + 4) 96 <| if (h 14 (Int32.toNatClampNeg ((h 0 16) + 4))) = a5 then (if a6 = 0 then (some (1, h)) else (gd ((h 0 16) + 5) 96 <| if (h 14 (Int32.toNatClampNeg ((h 0 16) + 5))) = a6 then (some (1, h)) else (some (0, h)))) else (some (0, h))) else (some (0, h))) else (some (0, h))) else (some (0, h))) else (some (0, h))) else (some (0, h))) else (some (0, h))
set_option maxRecDepth 20000 in
set_option maxHeartbeats 2000000 in
theorem t_X7_isLong_c11 {l : Launch} {γ : xG} {a1 : Int32} {a2 : Int32} {a3 : Int32} {a4 : Int32} {a5 : Int32} {a6 : Int32} {r : Int32} {hr : xH} {C : xCx} (hF : xF C cX7_isLong RX7 8 0 γ xSM (some (.int r)) hr l (some .boolean)) : ∀ (s0 : Int32) (h : xH), f_X7_isLong_c11 a1 a2 a3 a4 a5 a6 s0 h = some (r, hr) → xB C h 11 [some (.ref (γ.2.2.2 0)), some (.int a1), some (.int a2), some (.int a3), some (.int a4), some (.int a5), some (.int a6), none] [.int s0] := by
  intro s0 h e
  unfold f_X7_isLong_c11 at e
  refine xB_istore (L' := [_, _, _, _, _, _, _, _]) hF dX7_isLong_11 rfl rfl rfl ?_
  refine xB_aload_n hF dX7_isLong_13 rfl ?_
  refine xB_get hF dX7_isLong_14 fl_X7_228 sM_0 rfl rfl ?_
  refine xB_iconst hF dX7_isLong_17 ki_1 ?_
  refine xB_icmp_ne (tgt := 135) hF dX7_isLong_18 rfl e (fun _ e => ?_) (fun _ e => ?_)
  · refine xB_aload_n hF dX7_isLong_21 rfl ?_
    refine xB_get hF dX7_isLong_22 fl_X7_225 sM_0 rfl rfl ?_
    refine xB_aload_n hF dX7_isLong_25 rfl ?_
    refine xB_get hF dX7_isLong_26 fl_X7_231 sM_0 rfl rfl ?_
    refine xB_isub hF dX7_isLong_29 ?_
    refine xB_iload hF dX7_isLong_30 rfl ?_
    refine xB_icmp_ne (tgt := 135) hF dX7_isLong_32 rfl e (fun _ e => ?_) (fun _ e => ?_)
    · refine xB_aload_n hF dX7_isLong_35 rfl ?_
      refine xB_get hF dX7_isLong_36 fl_X7_49 sM_0 rfl rfl ?_
      refine xB_aload_n hF dX7_isLong_39 rfl ?_
      refine xB_get hF dX7_isLong_40 fl_X7_231 sM_0 rfl rfl ?_
      refine xB_iald hF dX7_isLong_43 sM_14 e (fun e => ?_)
      refine xB_iload_n hF dX7_isLong_44 rfl ?_
      refine xB_icmp_ne (tgt := 135) hF dX7_isLong_45 rfl e (fun _ e => ?_) (fun _ e => ?_)
      · refine xB_aload_n hF dX7_isLong_48 rfl ?_
        refine xB_get hF dX7_isLong_49 fl_X7_49 sM_0 rfl rfl ?_
        refine xB_aload_n hF dX7_isLong_52 rfl ?_
        refine xB_get hF dX7_isLong_53 fl_X7_231 sM_0 rfl rfl ?_
        refine xB_iconst hF dX7_isLong_56 ki_1 ?_
        refine xB_iadd hF dX7_isLong_57 ?_
        refine xB_iald hF dX7_isLong_58 sM_14 e (fun e => ?_)
        refine xB_iload_n hF dX7_isLong_59 rfl ?_
        refine xB_icmp_ne (tgt := 135) hF dX7_isLong_60 rfl e (fun _ e => ?_) (fun _ e => ?_)
        · refine xB_aload_n hF dX7_isLong_63 rfl ?_
          refine xB_get hF dX7_isLong_64 fl_X7_49 sM_0 rfl rfl ?_
          refine xB_aload_n hF dX7_isLong_67 rfl ?_
          refine xB_get hF dX7_isLong_68 fl_X7_231 sM_0 rfl rfl ?_
          refine xB_iconst hF dX7_isLong_71 ki_2 ?_
          refine xB_iadd hF dX7_isLong_72 ?_
          refine xB_iald hF dX7_isLong_73 sM_14 e (fun e => ?_)
          refine xB_iload_n hF dX7_isLong_74 rfl ?_
          refine xB_icmp_ne (tgt := 135) hF dX7_isLong_75 rfl e (fun _ e => ?_) (fun _ e => ?_)
          · refine xB_aload_n hF dX7_isLong_78 rfl ?_
            refine xB_get hF dX7_isLong_79 fl_X7_49 sM_0 rfl rfl ?_
            refine xB_aload_n hF dX7_isLong_82 rfl ?_
            refine xB_get hF dX7_isLong_83 fl_X7_231 sM_0 rfl rfl ?_
            refine xB_iconst hF dX7_isLong_86 ki_3 ?_
            refine xB_iadd hF dX7_isLong_87 ?_
            refine xB_iald hF dX7_isLong_88 sM_14 e (fun e => ?_)
            refine xB_iload hF dX7_isLong_89 rfl ?_
            refine xB_icmp_ne (tgt := 135) hF dX7_isLong_91 rfl e (fun _ e => ?_) (fun _ e => ?_)
            · refine xB_aload_n hF dX7_isLong_94 rfl ?_
              refine xB_get hF dX7_isLong_95 fl_X7_49 sM_0 rfl rfl ?_
              refine xB_aload_n hF dX7_isLong_98 rfl ?_
              refine xB_get hF dX7_isLong_99 fl_X7_231 sM_0 rfl rfl ?_
              refine xB_iconst hF dX7_isLong_102 ki_4 ?_
              refine xB_iadd hF dX7_isLong_103 ?_
              refine xB_iald hF dX7_isLong_104 sM_14 e (fun e => ?_)
              refine xB_iload hF dX7_isLong_105 rfl ?_
              refine xB_icmp_ne (tgt := 135) hF dX7_isLong_107 rfl e (fun _ e => ?_) (fun _ e => ?_)
              · refine xB_iload hF dX7_isLong_110 rfl ?_
                refine xB_if_eq (tgt := 131) hF dX7_isLong_112 rfl e (fun _ e => ?_) (fun _ e => ?_)
                · refine xB_iconst hF dX7_isLong_131 ki_1 ?_
                  refine xB_goto (tgt := 136) hF dX7_isLong_132 rfl ?_
                  exact xB_zreturn hF dX7_isLong_136 rfl e
                · refine xB_aload_n hF dX7_isLong_115 rfl ?_
                  refine xB_get hF dX7_isLong_116 fl_X7_49 sM_0 rfl rfl ?_
                  refine xB_aload_n hF dX7_isLong_119 rfl ?_
                  refine xB_get hF dX7_isLong_120 fl_X7_231 sM_0 rfl rfl ?_
                  refine xB_iconst hF dX7_isLong_123 ki_5 ?_
                  refine xB_iadd hF dX7_isLong_124 ?_
                  refine xB_iald hF dX7_isLong_125 sM_14 e (fun e => ?_)
                  refine xB_iload hF dX7_isLong_126 rfl ?_
                  refine xB_icmp_ne (tgt := 135) hF dX7_isLong_128 rfl e (fun _ e => ?_) (fun _ e => ?_)
                  · refine xB_iconst hF dX7_isLong_131 ki_1 ?_
                    refine xB_goto (tgt := 136) hF dX7_isLong_132 rfl ?_
                    exact xB_zreturn hF dX7_isLong_136 rfl e
                  · refine xB_iconst hF dX7_isLong_135 ki_0 ?_
                    exact xB_zreturn hF dX7_isLong_136 rfl e
              · refine xB_iconst hF dX7_isLong_135 ki_0 ?_
                exact xB_zreturn hF dX7_isLong_136 rfl e
            · refine xB_iconst hF dX7_isLong_135 ki_0 ?_
              exact xB_zreturn hF dX7_isLong_136 rfl e
          · refine xB_iconst hF dX7_isLong_135 ki_0 ?_
            exact xB_zreturn hF dX7_isLong_136 rfl e
        · refine xB_iconst hF dX7_isLong_135 ki_0 ?_
          exact xB_zreturn hF dX7_isLong_136 rfl e
      · refine xB_iconst hF dX7_isLong_135 ki_0 ?_
        exact xB_zreturn hF dX7_isLong_136 rfl e
    · refine xB_iconst hF dX7_isLong_135 ki_0 ?_
      exact xB_zreturn hF dX7_isLong_136 rfl e
  · refine xB_iconst hF dX7_isLong_135 ki_0 ?_
    exact xB_zreturn hF dX7_isLong_136 rfl e
def f_X7_isLong (a1 : Int32) (a2 : Int32) (a3 : Int32) (a4 : Int32) (a5 : Int32) (a6 : Int32) (h : xH) : Option (Int32 × xH) :=
    if a6 = 0 then (f_X7_isLong_c11 a1 a2 a3 a4 a5 a6 5 h) else (f_X7_isLong_c11 a1 a2 a3 a4 a5 a6 6 h)
set_option maxRecDepth 20000 in
set_option maxHeartbeats 2000000 in
theorem t_X7_isLong {l : Launch} {γ : xG} {a1 : Int32} {a2 : Int32} {a3 : Int32} {a4 : Int32} {a5 : Int32} {a6 : Int32} {h : xH} {r : Int32} {hr : xH} (e : f_X7_isLong a1 a2 a3 a4 a5 a6 h = some (r, hr)) : xCT l γ xSM yX7_isLong cX7_isLong 8 (some .boolean) 0 [.ref (γ.2.2.2 0), .int a1, .int a2, .int a3, .int a4, .int a5, .int a6] h (some (.int r)) hr := by
  refine xCT.of (own := RX7) (L := [some (.ref (γ.2.2.2 0)), some (.int a1), some (.int a2), some (.int a3), some (.int a4), some (.int a5), some (.int a6), none]) (by decide) rfl rfl rfl (fun C hF => ?_)
  unfold f_X7_isLong at e
  refine xB_iload hF dX7_isLong_0 rfl ?_
  refine xB_if_ne (tgt := 9) hF dX7_isLong_2 rfl e (fun _ e => ?_) (fun _ e => ?_)
  · refine xB_iconst hF dX7_isLong_5 ki_5 ?_
    refine xB_goto (tgt := 11) hF dX7_isLong_6 rfl ?_
    exact xB_l (t_X7_isLong_c11 hF _ _ e) (And.intro rfl (And.intro rfl (And.intro rfl (And.intro rfl (And.intro rfl (And.intro rfl (And.intro rfl (True.intro))))))))
  · refine xB_bipush hF dX7_isLong_9 kb_6 ?_
    exact xB_l (t_X7_isLong_c11 hF _ _ e) (And.intro rfl (And.intro rfl (And.intro rfl (And.intro rfl (And.intro rfl (And.intro rfl (And.intro rfl (True.intro))))))))
def f_X7_key (h : xH) : Option (Int32 × xH) :=
    bn (f_X7_isLong 112 114 105 99 101 0 h) fun r1 h2 => if r1 = 0 then (bn (f_X7_isWordAt 119 101 97 114 h2) fun r4 h5 => if r4 = 0 then (bn (f_X7_isWordAt 102 105 110 101 h5) fun r7 h8 => if r7 = 0 then (some ((-1), h8)) else (some (2, h8))) else (some (1, h5))) else (some (0, h2))
set_option maxRecDepth 20000 in
set_option maxHeartbeats 2000000 in
theorem t_X7_key {l : Launch} {γ : xG} {h : xH} {r : Int32} {hr : xH} (e : f_X7_key h = some (r, hr)) : xCT l γ xSM yX7_key cX7_key 1 (some .int) 1 [.ref (γ.2.2.2 0)] h (some (.int r)) hr := by
  refine xCT.of (own := RX7) (L := [some (.ref (γ.2.2.2 0))]) (by decide) rfl rfl rfl (fun C hF => ?_)
  unfold f_X7_key at e
  refine xB_aload_n hF dX7_key_0 rfl ?_
  refine xB_bipush hF dX7_key_1 kb_112 ?_
  refine xB_bipush hF dX7_key_3 kb_114 ?_
  refine xB_bipush hF dX7_key_5 kb_105 ?_
  refine xB_bipush hF dX7_key_7 kb_99 ?_
  refine xB_bipush hF dX7_key_9 kb_101 ?_
  refine xB_iconst hF dX7_key_11 ki_0 ?_
  obtain ⟨r1, h2, e3, e⟩ := bn_of e
  refine xB_callVi hF dX7_key_12 (t_X7_isLong e3) cw_X7_246 sM_0 rfl rfl rfl rfl rfl ?_
  refine xB_if_eq (tgt := 20) hF dX7_key_15 rfl e (fun _ e => ?_) (fun _ e => ?_)
  · refine xB_aload_n hF dX7_key_20 rfl ?_
    refine xB_bipush hF dX7_key_21 kb_119 ?_
    refine xB_bipush hF dX7_key_23 kb_101 ?_
    refine xB_bipush hF dX7_key_25 kb_97 ?_
    refine xB_bipush hF dX7_key_27 kb_114 ?_
    obtain ⟨r4, h5, e6, e⟩ := bn_of e
    refine xB_callVi hF dX7_key_29 (t_X7_isWordAt e6) cw_X7_250 sM_0 rfl rfl rfl rfl rfl ?_
    refine xB_if_eq (tgt := 37) hF dX7_key_32 rfl e (fun _ e => ?_) (fun _ e => ?_)
    · refine xB_aload_n hF dX7_key_37 rfl ?_
      refine xB_bipush hF dX7_key_38 kb_102 ?_
      refine xB_bipush hF dX7_key_40 kb_105 ?_
      refine xB_bipush hF dX7_key_42 kb_110 ?_
      refine xB_bipush hF dX7_key_44 kb_101 ?_
      obtain ⟨r7, h8, e9, e⟩ := bn_of e
      refine xB_callVi hF dX7_key_46 (t_X7_isWordAt e9) cw_X7_250 sM_0 rfl rfl rfl rfl rfl ?_
      refine xB_if_eq (tgt := 56) hF dX7_key_49 rfl e (fun _ e => ?_) (fun _ e => ?_)
      · refine xB_iconst hF dX7_key_56 ki_m1 ?_
        exact xB_ireturn hF dX7_key_57 e
      · refine xB_iconst hF dX7_key_52 ki_2 ?_
        refine xB_goto (tgt := 57) hF dX7_key_53 rfl ?_
        exact xB_ireturn hF dX7_key_57 e
    · refine xB_iconst hF dX7_key_35 ki_1 ?_
      exact xB_ireturn hF dX7_key_36 e
  · refine xB_iconst hF dX7_key_18 ki_0 ?_
    exact xB_ireturn hF dX7_key_19 e
def f_X7_isName (a0 : Int32) (a1 : Int32) (h : xH) : Option (Int32 × xH) :=
    if a0 = 0 then (if a1 = 116 then (some (1, h)) else (if a1 = 119 then (some (1, h)) else (if a1 = 100 then (some (1, h)) else (some (0, h))))) else (if a0 = 1 then (if a1 = 120 then (some (1, h)) else (if a1 = 116 then (some (1, h)) else (if a1 = 119 then (some (1, h)) else (some (0, h))))) else (if a1 = 99 then (some (1, h)) else (if a1 = 110 then (some (1, h)) else (some (0, h)))))
set_option maxRecDepth 20000 in
set_option maxHeartbeats 2000000 in
theorem t_X7_isName {l : Launch} {γ : xG} {a0 : Int32} {a1 : Int32} {h : xH} {r : Int32} {hr : xH} (e : f_X7_isName a0 a1 h = some (r, hr)) : xCT l γ xSM yX7_isName cX7_isName 2 (some .boolean) 0 [.int a0, .int a1] h (some (.int r)) hr := by
  refine xCT.of (own := RX7) (L := [some (.int a0), some (.int a1)]) (by decide) rfl rfl rfl (fun C hF => ?_)
  unfold f_X7_isName at e
  refine xB_iload_n hF dX7_isName_0 rfl ?_
  rcases if_of e with ⟨c0, e⟩ | ⟨c0, e⟩
  · refine xB_lookup (off := 27) (tgt := 28) hF dX7_isName_1 (by decide +kernel) (xlk c0 (by decide +kernel)) rfl ?_
    refine xB_iload_n hF dX7_isName_28 rfl ?_
    refine xB_bipush hF dX7_isName_29 kb_116 ?_
    refine xB_icmp_eq (tgt := 46) hF dX7_isName_31 rfl e (fun _ e => ?_) (fun _ e => ?_)
    · refine xB_iconst hF dX7_isName_46 ki_1 ?_
      refine xB_goto (tgt := 51) hF dX7_isName_47 rfl ?_
      exact xB_zreturn hF dX7_isName_51 rfl e
    · refine xB_iload_n hF dX7_isName_34 rfl ?_
      refine xB_bipush hF dX7_isName_35 kb_119 ?_
      refine xB_icmp_eq (tgt := 46) hF dX7_isName_37 rfl e (fun _ e => ?_) (fun _ e => ?_)
      · refine xB_iconst hF dX7_isName_46 ki_1 ?_
        refine xB_goto (tgt := 51) hF dX7_isName_47 rfl ?_
        exact xB_zreturn hF dX7_isName_51 rfl e
      · refine xB_iload_n hF dX7_isName_40 rfl ?_
        refine xB_bipush hF dX7_isName_41 kb_100 ?_
        refine xB_icmp_ne (tgt := 50) hF dX7_isName_43 rfl e (fun _ e => ?_) (fun _ e => ?_)
        · refine xB_iconst hF dX7_isName_46 ki_1 ?_
          refine xB_goto (tgt := 51) hF dX7_isName_47 rfl ?_
          exact xB_zreturn hF dX7_isName_51 rfl e
        · refine xB_iconst hF dX7_isName_50 ki_0 ?_
          exact xB_zreturn hF dX7_isName_51 rfl e
  rcases if_of e with ⟨c1, e⟩ | ⟨c1, e⟩
  · refine xB_lookup (off := 51) (tgt := 52) hF dX7_isName_1 (by decide +kernel) (xlk c1 (by decide +kernel)) rfl ?_
    refine xB_iload_n hF dX7_isName_52 rfl ?_
    refine xB_bipush hF dX7_isName_53 kb_120 ?_
    refine xB_icmp_eq (tgt := 70) hF dX7_isName_55 rfl e (fun _ e => ?_) (fun _ e => ?_)
    · refine xB_iconst hF dX7_isName_70 ki_1 ?_
      refine xB_goto (tgt := 75) hF dX7_isName_71 rfl ?_
      exact xB_zreturn hF dX7_isName_75 rfl e
    · refine xB_iload_n hF dX7_isName_58 rfl ?_
      refine xB_bipush hF dX7_isName_59 kb_116 ?_
      refine xB_icmp_eq (tgt := 70) hF dX7_isName_61 rfl e (fun _ e => ?_) (fun _ e => ?_)
      · refine xB_iconst hF dX7_isName_70 ki_1 ?_
        refine xB_goto (tgt := 75) hF dX7_isName_71 rfl ?_
        exact xB_zreturn hF dX7_isName_75 rfl e
      · refine xB_iload_n hF dX7_isName_64 rfl ?_
        refine xB_bipush hF dX7_isName_65 kb_119 ?_
        refine xB_icmp_ne (tgt := 74) hF dX7_isName_67 rfl e (fun _ e => ?_) (fun _ e => ?_)
        · refine xB_iconst hF dX7_isName_70 ki_1 ?_
          refine xB_goto (tgt := 75) hF dX7_isName_71 rfl ?_
          exact xB_zreturn hF dX7_isName_75 rfl e
        · refine xB_iconst hF dX7_isName_74 ki_0 ?_
          exact xB_zreturn hF dX7_isName_75 rfl e
  refine xB_lookup (off := 75) (tgt := 76) hF dX7_isName_1 (by decide +kernel) (xlkD [(0, 27), (1, 51)] (by have := xne (v := (0)) (n := 0) rfl c0; have := xne (v := (1)) (n := 1) rfl c1; simp only [List.forall_mem_cons, List.not_mem_nil, false_implies, implies_true, and_true]; omega)) rfl ?_
  refine xB_iload_n hF dX7_isName_76 rfl ?_
  refine xB_bipush hF dX7_isName_77 kb_99 ?_
  refine xB_icmp_eq (tgt := 88) hF dX7_isName_79 rfl e (fun _ e => ?_) (fun _ e => ?_)
  · refine xB_iconst hF dX7_isName_88 ki_1 ?_
    refine xB_goto (tgt := 93) hF dX7_isName_89 rfl ?_
    exact xB_zreturn hF dX7_isName_93 rfl e
  · refine xB_iload_n hF dX7_isName_82 rfl ?_
    refine xB_bipush hF dX7_isName_83 kb_110 ?_
    refine xB_icmp_ne (tgt := 92) hF dX7_isName_85 rfl e (fun _ e => ?_) (fun _ e => ?_)
    · refine xB_iconst hF dX7_isName_88 ki_1 ?_
      refine xB_goto (tgt := 93) hF dX7_isName_89 rfl ?_
      exact xB_zreturn hF dX7_isName_93 rfl e
    · refine xB_iconst hF dX7_isName_92 ki_0 ?_
      exact xB_zreturn hF dX7_isName_93 rfl e
def f_X7_step (a1 : Int32) (a2 : Int32) (h : xH) : Option (Int32 × xH) :=
    gd ((h 0 24) + (2 * (h 0 23))) 3078 <| nm (xst h 1 (Int32.toNatClampNeg ((h 0 24) + (2 * (h 0 23)))) a1) fun h1 => gd (((h1 0 24) + (2 * (h1 0 23))) + 1) 3078 <| nm (xst h1 1 (Int32.toNatClampNeg (((h1 0 24) + (2 * (h1 0 23))) + 1)) a2) fun h2 => nm (xst h2 0 23 ((h2 0 23) + 1)) fun h3 => some (0, h3)
set_option maxRecDepth 20000 in
set_option maxHeartbeats 2000000 in
theorem t_X7_step {l : Launch} {γ : xG} {a1 : Int32} {a2 : Int32} {h : xH} {r : Int32} {hr : xH} (e : f_X7_step a1 a2 h = some (r, hr)) : xCT l γ xSM yX7_step cX7_step 3 none 0 [.ref (γ.2.2.2 0), .int a1, .int a2] h none hr := by
  refine xCT.of (own := RX7) (L := [some (.ref (γ.2.2.2 0)), some (.int a1), some (.int a2)]) (by decide) rfl rfl rfl (fun C hF => ?_)
  unfold f_X7_step at e
  refine xB_aload_n hF dX7_step_0 rfl ?_
  refine xB_get hF dX7_step_1 fl_X7_7 sM_0 rfl rfl ?_
  refine xB_aload_n hF dX7_step_4 rfl ?_
  refine xB_get hF dX7_step_5 fl_X7_254 sM_0 rfl rfl ?_
  refine xB_iconst hF dX7_step_8 ki_2 ?_
  refine xB_aload_n hF dX7_step_9 rfl ?_
  refine xB_get hF dX7_step_10 fl_X7_257 sM_0 rfl rfl ?_
  refine xB_imul hF dX7_step_13 ?_
  refine xB_iadd hF dX7_step_14 ?_
  refine xB_iload_n hF dX7_step_15 rfl ?_
  refine xB_iast hF dX7_step_16 sM_1 e (fun e => ?_)
  refine xB_gen e (fun h1 e => ?_)
  refine xB_aload_n hF dX7_step_17 rfl ?_
  refine xB_get hF dX7_step_18 fl_X7_7 sM_0 rfl rfl ?_
  refine xB_aload_n hF dX7_step_21 rfl ?_
  refine xB_get hF dX7_step_22 fl_X7_254 sM_0 rfl rfl ?_
  refine xB_iconst hF dX7_step_25 ki_2 ?_
  refine xB_aload_n hF dX7_step_26 rfl ?_
  refine xB_get hF dX7_step_27 fl_X7_257 sM_0 rfl rfl ?_
  refine xB_imul hF dX7_step_30 ?_
  refine xB_iadd hF dX7_step_31 ?_
  refine xB_iconst hF dX7_step_32 ki_1 ?_
  refine xB_iadd hF dX7_step_33 ?_
  refine xB_iload_n hF dX7_step_34 rfl ?_
  refine xB_iast hF dX7_step_35 sM_1 e (fun e => ?_)
  refine xB_gen e (fun h2 e => ?_)
  refine xB_aload_n hF dX7_step_36 rfl ?_
  refine xB_dup hF dX7_step_37 rfl ?_
  refine xB_get hF dX7_step_38 fl_X7_257 sM_0 rfl rfl ?_
  refine xB_iconst hF dX7_step_41 ki_1 ?_
  refine xB_iadd hF dX7_step_42 ?_
  refine xB_put hF dX7_step_43 fp_X7_257 sM_0 rfl rfl rfl rfl rfl ?_
  refine xB_gen e (fun h3 e => ?_)
  exact xB_vreturn hF dX7_step_46 e
def f_X7_textTold (a1 : Int32) (a2 : Int32) (h : xH) : Option (Int32 × xH) :=
    bn (f_X7_isText a1 h) fun r1 h2 => if r1 = 0 then (some ((-1000000001), h2)) else (bn (f_X7_isIn (Int32.toInt64 a2) 0 1 h2) fun r4 h5 => if r4 = 0 then (some ((-1000000001), h5)) else (bn (f_X7_textAt a1 h5) fun r7 h8 => gd (r7 + a2) 3078 <| some (h8 1 (Int32.toNatClampNeg (r7 + a2)), h8)))
set_option maxRecDepth 20000 in
set_option maxHeartbeats 2000000 in
theorem t_X7_textTold {l : Launch} {γ : xG} {a1 : Int32} {a2 : Int32} {h : xH} {r : Int32} {hr : xH} (e : f_X7_textTold a1 a2 h = some (r, hr)) : xCT l γ xSM yX7_textTold cX7_textTold 3 (some .int) 2 [.ref (γ.2.2.2 0), .int a1, .int a2] h (some (.int r)) hr := by
  refine xCT.of (own := RX7) (L := [some (.ref (γ.2.2.2 0)), some (.int a1), some (.int a2)]) (by decide) rfl rfl rfl (fun C hF => ?_)
  unfold f_X7_textTold at e
  refine xB_aload_n hF dX7_textTold_0 rfl ?_
  refine xB_iload_n hF dX7_textTold_1 rfl ?_
  obtain ⟨r1, h2, e3, e⟩ := bn_of e
  refine xB_callVi hF dX7_textTold_2 (t_X7_isText e3) cw_X7_309 sM_0 rfl rfl rfl rfl rfl ?_
  refine xB_if_eq (tgt := 18) hF dX7_textTold_5 rfl e (fun _ e => ?_) (fun _ e => ?_)
  · refine xB_ldc hF dX7_textTold_18 kc_X7_87 ?_
    exact xB_ireturn hF dX7_textTold_20 e
  · refine xB_iload_n hF dX7_textTold_8 rfl ?_
    refine xB_i2l hF dX7_textTold_9 ?_
    refine xB_lconst (v := 0) hF dX7_textTold_10 (by decide) ?_
    refine xB_lconst (v := 1) hF dX7_textTold_11 (by decide) ?_
    obtain ⟨r4, h5, e6, e⟩ := bn_of e
    refine xB_callSi hF dX7_textTold_12 (t_X7_isIn e6) cw_X7_68 rfl rfl rfl rfl ?_
    refine xB_if_ne (tgt := 21) hF dX7_textTold_15 rfl e (fun _ e => ?_) (fun _ e => ?_)
    · refine xB_ldc hF dX7_textTold_18 kc_X7_87 ?_
      exact xB_ireturn hF dX7_textTold_20 e
    · refine xB_aload_n hF dX7_textTold_21 rfl ?_
      refine xB_get hF dX7_textTold_22 fl_X7_7 sM_0 rfl rfl ?_
      refine xB_aload_n hF dX7_textTold_25 rfl ?_
      refine xB_iload_n hF dX7_textTold_26 rfl ?_
      obtain ⟨r7, h8, e9, e⟩ := bn_of e
      refine xB_callVi hF dX7_textTold_27 (t_X7_textAt e9) cw_X7_300 sM_0 rfl rfl rfl rfl rfl ?_
      refine xB_iload_n hF dX7_textTold_30 rfl ?_
      refine xB_iadd hF dX7_textTold_31 ?_
      refine xB_iald hF dX7_textTold_32 sM_1 e (fun e => ?_)
      exact xB_ireturn hF dX7_textTold_33 e
def f_X7_why (a1 : Int32) (h : xH) : Option (Int32 × xH) :=
    bn (f_X7_isIn (Int32.toInt64 a1) 0 2 h) fun r1 h2 => if r1 = 0 then (some ((-1000000001), h2)) else (bn (f_X7_counts a1 h2) fun r4 h5 => bn (f_X7_orNone r4 h5) fun r7 h8 => some (r7, h8))
set_option maxRecDepth 20000 in
set_option maxHeartbeats 2000000 in
theorem t_X7_why {l : Launch} {γ : xG} {a1 : Int32} {h : xH} {r : Int32} {hr : xH} (e : f_X7_why a1 h = some (r, hr)) : xCT l γ xSM yX7_why cX7_why 2 (some .int) 2 [.ref (γ.2.2.2 0), .int a1] h (some (.int r)) hr := by
  refine xCT.of (own := RX7) (L := [some (.ref (γ.2.2.2 0)), some (.int a1)]) (by decide) rfl rfl rfl (fun C hF => ?_)
  unfold f_X7_why at e
  refine xB_iload_n hF dX7_why_0 rfl ?_
  refine xB_i2l hF dX7_why_1 ?_
  refine xB_lconst (v := 0) hF dX7_why_2 (by decide) ?_
  refine xB_ldc2 hF dX7_why_3 kc_X7_135 ?_
  obtain ⟨r1, h2, e3, e⟩ := bn_of e
  refine xB_callSi hF dX7_why_6 (t_X7_isIn e3) cw_X7_68 rfl rfl rfl rfl ?_
  refine xB_if_eq (tgt := 23) hF dX7_why_9 rfl e (fun _ e => ?_) (fun _ e => ?_)
  · refine xB_ldc hF dX7_why_23 kc_X7_87 ?_
    exact xB_ireturn hF dX7_why_25 e
  · refine xB_aload_n hF dX7_why_12 rfl ?_
    refine xB_iload_n hF dX7_why_13 rfl ?_
    obtain ⟨r4, h5, e6, e⟩ := bn_of e
    refine xB_callVi hF dX7_why_14 (t_X7_counts e6) cw_X7_93 sM_0 rfl rfl rfl rfl rfl ?_
    obtain ⟨r7, h8, e9, e⟩ := bn_of e
    refine xB_callSi hF dX7_why_17 (t_X7_orNone e9) cw_X7_175 rfl rfl rfl rfl ?_
    refine xB_goto (tgt := 25) hF dX7_why_20 rfl ?_
    exact xB_ireturn hF dX7_why_25 e
def f_X7_isSheet (a0 : Int32) (h : xH) : Option (Int32 × xH) :=
    bn (f_X7_isIn (Int32.toInt64 a0) 0 3 h) fun r1 h2 => gb r1 (some (r1, h2))
set_option maxRecDepth 20000 in
set_option maxHeartbeats 2000000 in
theorem t_X7_isSheet {l : Launch} {γ : xG} {a0 : Int32} {h : xH} {r : Int32} {hr : xH} (e : f_X7_isSheet a0 h = some (r, hr)) : xCT l γ xSM yX7_isSheet cX7_isSheet 1 (some .boolean) 1 [.int a0] h (some (.int r)) hr := by
  refine xCT.of (own := RX7) (L := [some (.int a0)]) (by decide) rfl rfl rfl (fun C hF => ?_)
  unfold f_X7_isSheet at e
  refine xB_iload_n hF dX7_isSheet_0 rfl ?_
  refine xB_i2l hF dX7_isSheet_1 ?_
  refine xB_lconst (v := 0) hF dX7_isSheet_2 (by decide) ?_
  refine xB_ldc2 hF dX7_isSheet_3 kc_X7_133 ?_
  obtain ⟨r1, h2, e3, e⟩ := bn_of e
  refine xB_callSi hF dX7_isSheet_6 (t_X7_isIn e3) cw_X7_68 rfl rfl rfl rfl ?_
  exact xB_breturn hF dX7_isSheet_9 e
def f_X7_sheet_c69 (a1 : Int32) (a2 : Int32) (a3 : Int32) : Nat → Int32 → xH → Option (Int32 × xH)
  | 0, _, _ => none
  | n + 1, v4, h =>
    if 24 ≤ v4 then (gd a1 4 <| some (h 5 (Int32.toNatClampNeg a1), h)) else (gd ((24 * a1) + v4) 96 <| nm (xst h 6 (Int32.toNatClampNeg ((24 * a1) + v4)) 0) fun h1 => f_X7_sheet_c69 a1 a2 a3 n (v4 + 1) h1)
set_option maxRecDepth 20000 in
set_option maxHeartbeats 2000000 in
theorem t_X7_sheet_c69 {l : Launch} {γ : xG} {a1 : Int32} {a2 : Int32} {a3 : Int32} {r : Int32} {hr : xH} {C : xCx} (hF : xF C cX7_sheet RX7 5 2 γ xSM (some (.int r)) hr l (some .int)) : ∀ (n : Nat) (v4 : Int32) (h : xH), f_X7_sheet_c69 a1 a2 a3 n v4 h = some (r, hr) → xB C h 69 [some (.ref (γ.2.2.2 0)), some (.int a1), some (.int a2), some (.int a3), some (.int v4)] [] := by
  intro n
  induction n with
  | zero => intro v4 h e; cases e
  | succ n ih =>
    intro v4 h e
    rw [f_X7_sheet_c69] at e
    refine xB_iload hF dX7_sheet_69 rfl ?_
    refine xB_bipush hF dX7_sheet_71 kb_24 ?_
    refine xB_icmp_ge (tgt := 95) hF dX7_sheet_73 rfl e (fun _ e => ?_) (fun _ e => ?_)
    · refine xB_aload_n hF dX7_sheet_95 rfl ?_
      refine xB_get hF dX7_sheet_96 fl_X7_22 sM_0 rfl rfl ?_
      refine xB_iload_n hF dX7_sheet_99 rfl ?_
      refine xB_iald hF dX7_sheet_100 sM_5 e (fun e => ?_)
      exact xB_ireturn hF dX7_sheet_101 e
    · refine xB_aload_n hF dX7_sheet_76 rfl ?_
      refine xB_get hF dX7_sheet_77 fl_X7_25 sM_0 rfl rfl ?_
      refine xB_bipush hF dX7_sheet_80 kb_24 ?_
      refine xB_iload_n hF dX7_sheet_82 rfl ?_
      refine xB_imul hF dX7_sheet_83 ?_
      refine xB_iload hF dX7_sheet_84 rfl ?_
      refine xB_iadd hF dX7_sheet_86 ?_
      refine xB_iconst hF dX7_sheet_87 ki_0 ?_
      refine xB_iast hF dX7_sheet_88 sM_6 e (fun e => ?_)
      refine xB_gen e (fun h1 e => ?_)
      refine xB_iinc (L' := [_, _, _, _, _]) hF dX7_sheet_89 rfl ki_1 rfl rfl rfl ?_
      refine xB_goto (tgt := 69) hF dX7_sheet_92 rfl ?_
      exact xB_l (ih _ _ e) (And.intro rfl (And.intro rfl (And.intro rfl (And.intro rfl (And.intro rfl (True.intro))))))
def f_X7_sheet_c65 (a1 : Int32) (a2 : Int32) (a3 : Int32) (s0 : Int32) (s1 : Int32) (h : xH) : Option (Int32 × xH) :=
    gd s1 4 <| nm (xst h 5 (Int32.toNatClampNeg s1) s0) fun h1 => f_X7_sheet_c69 a1 a2 a3 xN 0 h1
set_option maxRecDepth 20000 in
set_option maxHeartbeats 2000000 in
theorem t_X7_sheet_c65 {l : Launch} {γ : xG} {a1 : Int32} {a2 : Int32} {a3 : Int32} {r : Int32} {hr : xH} {C : xCx} (hF : xF C cX7_sheet RX7 5 2 γ xSM (some (.int r)) hr l (some .int)) : ∀ (s0 : Int32) (s1 : Int32) (h : xH), f_X7_sheet_c65 a1 a2 a3 s0 s1 h = some (r, hr) → xB C h 65 [some (.ref (γ.2.2.2 0)), some (.int a1), some (.int a2), some (.int a3), none] [.int s0, .int s1, .ref (γ.2.2.2 5)] := by
  intro s0 s1 h e
  unfold f_X7_sheet_c65 at e
  refine xB_iast hF dX7_sheet_65 sM_5 e (fun e => ?_)
  refine xB_gen e (fun h1 e => ?_)
  refine xB_iconst hF dX7_sheet_66 ki_0 ?_
  refine xB_istore (L' := [_, _, _, _, _]) hF dX7_sheet_67 rfl rfl rfl ?_
  exact xB_l (t_X7_sheet_c69 hF _ _ _ e) (And.intro rfl (And.intro rfl (And.intro rfl (And.intro rfl (And.intro rfl (True.intro))))))
def f_X7_sheet_c44 (a1 : Int32) (a2 : Int32) (a3 : Int32) (h : xH) : Option (Int32 × xH) :=
    gd a1 4 <| nm (xst h 4 (Int32.toNatClampNeg a1) a2) fun h1 => if 0 ≤ a2 then (f_X7_sheet_c65 a1 a2 a3 a3 a1 h1) else (f_X7_sheet_c65 a1 a2 a3 0 a1 h1)
set_option maxRecDepth 20000 in
set_option maxHeartbeats 2000000 in
theorem t_X7_sheet_c44 {l : Launch} {γ : xG} {a1 : Int32} {a2 : Int32} {a3 : Int32} {r : Int32} {hr : xH} {C : xCx} (hF : xF C cX7_sheet RX7 5 2 γ xSM (some (.int r)) hr l (some .int)) : ∀ (h : xH), f_X7_sheet_c44 a1 a2 a3 h = some (r, hr) → xB C h 44 [some (.ref (γ.2.2.2 0)), some (.int a1), some (.int a2), some (.int a3), none] [] := by
  intro h e
  unfold f_X7_sheet_c44 at e
  refine xB_aload_n hF dX7_sheet_44 rfl ?_
  refine xB_get hF dX7_sheet_45 fl_X7_19 sM_0 rfl rfl ?_
  refine xB_iload_n hF dX7_sheet_48 rfl ?_
  refine xB_iload_n hF dX7_sheet_49 rfl ?_
  refine xB_iast hF dX7_sheet_50 sM_4 e (fun e => ?_)
  refine xB_gen e (fun h1 e => ?_)
  refine xB_aload_n hF dX7_sheet_51 rfl ?_
  refine xB_get hF dX7_sheet_52 fl_X7_22 sM_0 rfl rfl ?_
  refine xB_iload_n hF dX7_sheet_55 rfl ?_
  refine xB_iload_n hF dX7_sheet_56 rfl ?_
  refine xB_if_ge (tgt := 64) hF dX7_sheet_57 rfl e (fun _ e => ?_) (fun _ e => ?_)
  · refine xB_iload_n hF dX7_sheet_64 rfl ?_
    exact xB_l (t_X7_sheet_c65 hF _ _ _ e) (And.intro rfl (And.intro rfl (And.intro rfl (And.intro rfl (True.intro)))))
  · refine xB_iconst hF dX7_sheet_60 ki_0 ?_
    refine xB_goto (tgt := 65) hF dX7_sheet_61 rfl ?_
    exact xB_l (t_X7_sheet_c65 hF _ _ _ e) (And.intro rfl (And.intro rfl (And.intro rfl (And.intro rfl (True.intro)))))
def f_X7_sheet_c32 (a1 : Int32) (a2 : Int32) (a3 : Int32) (h : xH) : Option (Int32 × xH) :=
    if a2 < 0 then (f_X7_sheet_c44 a1 a2 a3 h) else (if 0 ≤ a3 then (f_X7_sheet_c44 a1 a2 a3 h) else (some ((-1000000014), h)))
set_option maxRecDepth 20000 in
set_option maxHeartbeats 2000000 in
theorem t_X7_sheet_c32 {l : Launch} {γ : xG} {a1 : Int32} {a2 : Int32} {a3 : Int32} {r : Int32} {hr : xH} {C : xCx} (hF : xF C cX7_sheet RX7 5 2 γ xSM (some (.int r)) hr l (some .int)) : ∀ (h : xH), f_X7_sheet_c32 a1 a2 a3 h = some (r, hr) → xB C h 32 [some (.ref (γ.2.2.2 0)), some (.int a1), some (.int a2), some (.int a3), none] [] := by
  intro h e
  unfold f_X7_sheet_c32 at e
  refine xB_iload_n hF dX7_sheet_32 rfl ?_
  refine xB_if_lt (tgt := 44) hF dX7_sheet_33 rfl e (fun _ e => ?_) (fun _ e => ?_)
  · exact xB_l (t_X7_sheet_c44 hF _ e) (And.intro rfl (And.intro rfl (And.intro rfl (And.intro rfl (True.intro)))))
  · refine xB_iload_n hF dX7_sheet_36 rfl ?_
    refine xB_if_ge (tgt := 44) hF dX7_sheet_37 rfl e (fun _ e => ?_) (fun _ e => ?_)
    · exact xB_l (t_X7_sheet_c44 hF _ e) (And.intro rfl (And.intro rfl (And.intro rfl (And.intro rfl (True.intro)))))
    · refine xB_ldcw hF dX7_sheet_40 kc_X7_321 ?_
      exact xB_ireturn hF dX7_sheet_43 e
def f_X7_sheet (a1 : Int32) (a2 : Int32) (a3 : Int32) (h : xH) : Option (Int32 × xH) :=
    bn (f_X7_isSheet a1 h) fun r1 h2 => if r1 = 0 then (some ((-1000000001), h2)) else (bn (f_X7_isIn (Int32.toInt64 a2) (-1) 1 h2) fun r4 h5 => if r4 = 0 then (some ((-1000000001), h5)) else (if a2 < 0 then (f_X7_sheet_c32 a1 a2 a3 h5) else (if a3 ≤ 24 then (f_X7_sheet_c32 a1 a2 a3 h5) else (some ((-1000000001), h5)))))
set_option maxRecDepth 20000 in
set_option maxHeartbeats 2000000 in
theorem t_X7_sheet {l : Launch} {γ : xG} {a1 : Int32} {a2 : Int32} {a3 : Int32} {h : xH} {r : Int32} {hr : xH} (e : f_X7_sheet a1 a2 a3 h = some (r, hr)) : xCT l γ xSM yX7_sheet cX7_sheet 5 (some .int) 2 [.ref (γ.2.2.2 0), .int a1, .int a2, .int a3] h (some (.int r)) hr := by
  refine xCT.of (own := RX7) (L := [some (.ref (γ.2.2.2 0)), some (.int a1), some (.int a2), some (.int a3), none]) (by decide) rfl rfl rfl (fun C hF => ?_)
  unfold f_X7_sheet at e
  refine xB_iload_n hF dX7_sheet_0 rfl ?_
  obtain ⟨r1, h2, e3, e⟩ := bn_of e
  refine xB_callSi hF dX7_sheet_1 (t_X7_isSheet e3) cw_X7_316 rfl rfl rfl rfl ?_
  refine xB_if_eq (tgt := 29) hF dX7_sheet_4 rfl e (fun _ e => ?_) (fun _ e => ?_)
  · refine xB_ldc hF dX7_sheet_29 kc_X7_87 ?_
    exact xB_ireturn hF dX7_sheet_31 e
  · refine xB_iload_n hF dX7_sheet_7 rfl ?_
    refine xB_i2l hF dX7_sheet_8 ?_
    refine xB_ldc2 hF dX7_sheet_9 kc_X7_319 ?_
    refine xB_lconst (v := 1) hF dX7_sheet_12 (by decide) ?_
    obtain ⟨r4, h5, e6, e⟩ := bn_of e
    refine xB_callSi hF dX7_sheet_13 (t_X7_isIn e6) cw_X7_68 rfl rfl rfl rfl ?_
    refine xB_if_eq (tgt := 29) hF dX7_sheet_16 rfl e (fun _ e => ?_) (fun _ e => ?_)
    · refine xB_ldc hF dX7_sheet_29 kc_X7_87 ?_
      exact xB_ireturn hF dX7_sheet_31 e
    · refine xB_iload_n hF dX7_sheet_19 rfl ?_
      refine xB_if_lt (tgt := 32) hF dX7_sheet_20 rfl e (fun _ e => ?_) (fun _ e => ?_)
      · exact xB_l (t_X7_sheet_c32 hF _ e) (And.intro rfl (And.intro rfl (And.intro rfl (And.intro rfl (True.intro)))))
      · refine xB_iload_n hF dX7_sheet_23 rfl ?_
        refine xB_bipush hF dX7_sheet_24 kb_24 ?_
        refine xB_icmp_le (tgt := 32) hF dX7_sheet_26 rfl e (fun _ e => ?_) (fun _ e => ?_)
        · exact xB_l (t_X7_sheet_c32 hF _ e) (And.intro rfl (And.intro rfl (And.intro rfl (And.intro rfl (True.intro)))))
        · refine xB_ldc hF dX7_sheet_29 kc_X7_87 ?_
          exact xB_ireturn hF dX7_sheet_31 e
def f_X7_mark_c96 (a1 : Int32) (a2 : Int32) (a3 : Int32) (h : xH) : Option (Int32 × xH) :=
    gd a1 4 <| if (h 4 (Int32.toNatClampNeg a1)) = 0 then (gd ((24 * a1) + a2) 96 <| nm (xst h 6 (Int32.toNatClampNeg ((24 * a1) + a2)) ((a3 <<< (16 &&& 31)) >>> (16 &&& 31))) fun h2 => some (1, h2)) else (gd ((24 * a1) + a2) 96 <| nm (xst h 6 (Int32.toNatClampNeg ((24 * a1) + a2)) a3) fun h1 => some (1, h1))
set_option maxRecDepth 20000 in
set_option maxHeartbeats 2000000 in
theorem t_X7_mark_c96 {l : Launch} {γ : xG} {a1 : Int32} {a2 : Int32} {a3 : Int32} {r : Int32} {hr : xH} {C : xCx} (hF : xF C cX7_mark RX7 4 2 γ xSM (some (.int r)) hr l (some .int)) : ∀ (h : xH), f_X7_mark_c96 a1 a2 a3 h = some (r, hr) → xB C h 96 [some (.ref (γ.2.2.2 0)), some (.int a1), some (.int a2), some (.int a3)] [] := by
  intro h e
  unfold f_X7_mark_c96 at e
  refine xB_aload_n hF dX7_mark_96 rfl ?_
  refine xB_get hF dX7_mark_97 fl_X7_25 sM_0 rfl rfl ?_
  refine xB_bipush hF dX7_mark_100 kb_24 ?_
  refine xB_iload_n hF dX7_mark_102 rfl ?_
  refine xB_imul hF dX7_mark_103 ?_
  refine xB_iload_n hF dX7_mark_104 rfl ?_
  refine xB_iadd hF dX7_mark_105 ?_
  refine xB_aload_n hF dX7_mark_106 rfl ?_
  refine xB_get hF dX7_mark_107 fl_X7_19 sM_0 rfl rfl ?_
  refine xB_iload_n hF dX7_mark_110 rfl ?_
  refine xB_iald hF dX7_mark_111 sM_4 e (fun e => ?_)
  refine xB_if_ne (tgt := 125) hF dX7_mark_112 rfl e (fun _ e => ?_) (fun _ e => ?_)
  · refine xB_iload_n hF dX7_mark_115 rfl ?_
    refine xB_bipush hF dX7_mark_116 kb_16 ?_
    refine xB_ishl hF dX7_mark_118 ?_
    refine xB_bipush hF dX7_mark_119 kb_16 ?_
    refine xB_ishr hF dX7_mark_121 ?_
    refine xB_goto (tgt := 126) hF dX7_mark_122 rfl ?_
    refine xB_iast hF dX7_mark_126 sM_6 e (fun e => ?_)
    refine xB_gen e (fun h2 e => ?_)
    refine xB_iconst hF dX7_mark_127 ki_1 ?_
    exact xB_ireturn hF dX7_mark_128 e
  · refine xB_iload_n hF dX7_mark_125 rfl ?_
    refine xB_iast hF dX7_mark_126 sM_6 e (fun e => ?_)
    refine xB_gen e (fun h1 e => ?_)
    refine xB_iconst hF dX7_mark_127 ki_1 ?_
    exact xB_ireturn hF dX7_mark_128 e
def f_X7_mark_c63 (a1 : Int32) (a2 : Int32) (a3 : Int32) (h : xH) : Option (Int32 × xH) :=
    gd a1 4 <| if (h 4 (Int32.toNatClampNeg a1)) = 1 then (if a3 = (-1000000005) then (f_X7_mark_c96 a1 a2 a3 h) else (bn (f_X7_isIn (Int32.toInt64 a3) (-99999) 99999 h) fun r1 h2 => if r1 = 0 then (some ((-1000000001), h2)) else (f_X7_mark_c96 a1 a2 a3 h2))) else (f_X7_mark_c96 a1 a2 a3 h)
set_option maxRecDepth 20000 in
set_option maxHeartbeats 2000000 in
theorem t_X7_mark_c63 {l : Launch} {γ : xG} {a1 : Int32} {a2 : Int32} {a3 : Int32} {r : Int32} {hr : xH} {C : xCx} (hF : xF C cX7_mark RX7 4 2 γ xSM (some (.int r)) hr l (some .int)) : ∀ (h : xH), f_X7_mark_c63 a1 a2 a3 h = some (r, hr) → xB C h 63 [some (.ref (γ.2.2.2 0)), some (.int a1), some (.int a2), some (.int a3)] [] := by
  intro h e
  unfold f_X7_mark_c63 at e
  refine xB_aload_n hF dX7_mark_63 rfl ?_
  refine xB_get hF dX7_mark_64 fl_X7_19 sM_0 rfl rfl ?_
  refine xB_iload_n hF dX7_mark_67 rfl ?_
  refine xB_iald hF dX7_mark_68 sM_4 e (fun e => ?_)
  refine xB_iconst hF dX7_mark_69 ki_1 ?_
  refine xB_icmp_ne (tgt := 96) hF dX7_mark_70 rfl e (fun _ e => ?_) (fun _ e => ?_)
  · refine xB_iload_n hF dX7_mark_73 rfl ?_
    refine xB_ldc hF dX7_mark_74 kc_X7_67 ?_
    refine xB_icmp_eq (tgt := 96) hF dX7_mark_76 rfl e (fun _ e => ?_) (fun _ e => ?_)
    · exact xB_l (t_X7_mark_c96 hF _ e) (And.intro rfl (And.intro rfl (And.intro rfl (And.intro rfl (True.intro)))))
    · refine xB_iload_n hF dX7_mark_79 rfl ?_
      refine xB_i2l hF dX7_mark_80 ?_
      refine xB_ldc2 hF dX7_mark_81 kc_X7_324 ?_
      refine xB_ldc2 hF dX7_mark_84 kc_X7_326 ?_
      obtain ⟨r1, h2, e3, e⟩ := bn_of e
      refine xB_callSi hF dX7_mark_87 (t_X7_isIn e3) cw_X7_68 rfl rfl rfl rfl ?_
      refine xB_if_ne (tgt := 96) hF dX7_mark_90 rfl e (fun _ e => ?_) (fun _ e => ?_)
      · refine xB_ldc hF dX7_mark_93 kc_X7_87 ?_
        exact xB_ireturn hF dX7_mark_95 e
      · exact xB_l (t_X7_mark_c96 hF _ e) (And.intro rfl (And.intro rfl (And.intro rfl (And.intro rfl (True.intro)))))
  · exact xB_l (t_X7_mark_c96 hF _ e) (And.intro rfl (And.intro rfl (And.intro rfl (And.intro rfl (True.intro)))))
def f_X7_mark (a1 : Int32) (a2 : Int32) (a3 : Int32) (h : xH) : Option (Int32 × xH) :=
    bn (f_X7_isSheet a1 h) fun r1 h2 => if r1 = 0 then (some ((-1000000001), h2)) else (gd a1 4 <| if 0 ≤ (h2 4 (Int32.toNatClampNeg a1)) then (gd a1 4 <| bn (f_X7_isIn (Int32.toInt64 a2) 0 (Int32.toInt64 ((h2 5 (Int32.toNatClampNeg a1)) - 1)) h2) fun r4 h5 => if r4 = 0 then (some ((-1000000013), h5)) else (gd a1 4 <| if (h5 4 (Int32.toNatClampNeg a1)) = 0 then (if a3 = (-1000000005) then (some ((-1000000012), h5)) else (f_X7_mark_c63 a1 a2 a3 h5)) else (f_X7_mark_c63 a1 a2 a3 h5))) else (some ((-1000000011), h2)))
set_option maxRecDepth 20000 in
set_option maxHeartbeats 2000000 in
theorem t_X7_mark {l : Launch} {γ : xG} {a1 : Int32} {a2 : Int32} {a3 : Int32} {h : xH} {r : Int32} {hr : xH} (e : f_X7_mark a1 a2 a3 h = some (r, hr)) : xCT l γ xSM yX7_mark cX7_mark 4 (some .int) 2 [.ref (γ.2.2.2 0), .int a1, .int a2, .int a3] h (some (.int r)) hr := by
  refine xCT.of (own := RX7) (L := [some (.ref (γ.2.2.2 0)), some (.int a1), some (.int a2), some (.int a3)]) (by decide) rfl rfl rfl (fun C hF => ?_)
  unfold f_X7_mark at e
  refine xB_iload_n hF dX7_mark_0 rfl ?_
  obtain ⟨r1, h2, e3, e⟩ := bn_of e
  refine xB_callSi hF dX7_mark_1 (t_X7_isSheet e3) cw_X7_316 rfl rfl rfl rfl ?_
  refine xB_if_ne (tgt := 10) hF dX7_mark_4 rfl e (fun _ e => ?_) (fun _ e => ?_)
  · refine xB_ldc hF dX7_mark_7 kc_X7_87 ?_
    exact xB_ireturn hF dX7_mark_9 e
  · refine xB_aload_n hF dX7_mark_10 rfl ?_
    refine xB_get hF dX7_mark_11 fl_X7_19 sM_0 rfl rfl ?_
    refine xB_iload_n hF dX7_mark_14 rfl ?_
    refine xB_iald hF dX7_mark_15 sM_4 e (fun e => ?_)
    refine xB_if_ge (tgt := 23) hF dX7_mark_16 rfl e (fun _ e => ?_) (fun _ e => ?_)
    · refine xB_iload_n hF dX7_mark_23 rfl ?_
      refine xB_i2l hF dX7_mark_24 ?_
      refine xB_lconst (v := 0) hF dX7_mark_25 (by decide) ?_
      refine xB_aload_n hF dX7_mark_26 rfl ?_
      refine xB_get hF dX7_mark_27 fl_X7_22 sM_0 rfl rfl ?_
      refine xB_iload_n hF dX7_mark_30 rfl ?_
      refine xB_iald hF dX7_mark_31 sM_5 e (fun e => ?_)
      refine xB_iconst hF dX7_mark_32 ki_1 ?_
      refine xB_isub hF dX7_mark_33 ?_
      refine xB_i2l hF dX7_mark_34 ?_
      obtain ⟨r4, h5, e6, e⟩ := bn_of e
      refine xB_callSi hF dX7_mark_35 (t_X7_isIn e6) cw_X7_68 rfl rfl rfl rfl ?_
      refine xB_if_ne (tgt := 45) hF dX7_mark_38 rfl e (fun _ e => ?_) (fun _ e => ?_)
      · refine xB_ldcw hF dX7_mark_41 kc_X7_323 ?_
        exact xB_ireturn hF dX7_mark_44 e
      · refine xB_aload_n hF dX7_mark_45 rfl ?_
        refine xB_get hF dX7_mark_46 fl_X7_19 sM_0 rfl rfl ?_
        refine xB_iload_n hF dX7_mark_49 rfl ?_
        refine xB_iald hF dX7_mark_50 sM_4 e (fun e => ?_)
        refine xB_if_ne (tgt := 63) hF dX7_mark_51 rfl e (fun _ e => ?_) (fun _ e => ?_)
        · refine xB_iload_n hF dX7_mark_54 rfl ?_
          refine xB_ldc hF dX7_mark_55 kc_X7_67 ?_
          refine xB_icmp_ne (tgt := 63) hF dX7_mark_57 rfl e (fun _ e => ?_) (fun _ e => ?_)
          · refine xB_ldc hF dX7_mark_60 kc_X7_129 ?_
            exact xB_ireturn hF dX7_mark_62 e
          · exact xB_l (t_X7_mark_c63 hF _ e) (And.intro rfl (And.intro rfl (And.intro rfl (And.intro rfl (True.intro)))))
        · exact xB_l (t_X7_mark_c63 hF _ e) (And.intro rfl (And.intro rfl (And.intro rfl (And.intro rfl (True.intro)))))
    · refine xB_ldcw hF dX7_mark_19 kc_X7_322 ?_
      exact xB_ireturn hF dX7_mark_22 e
def f_X7_pour_c106 (k27 : Int32 → Int32 → xH → Option (Int32 × xH)) (a1 : Int32) (v3 : Int32) (s0 : Int32) (s1 : Int32) (h : xH) : Option (Int32 × xH) :=
    k27 (s1 + s0) (v3 + 1) h
set_option maxRecDepth 20000 in
set_option maxHeartbeats 2000000 in
theorem t_X7_pour_c106 {l : Launch} {γ : xG} {k27 : Int32 → Int32 → xH → Option (Int32 × xH)} {a1 : Int32} {r : Int32} {hr : xH} {C : xCx} (hF : xF C cX7_pour RX7 6 2 γ xSM (some (.int r)) hr l (some .int)) (hk27 : ∀ (v2 : Int32) (v3 : Int32) (h : xH), k27 v2 v3 h = some (r, hr) → xB C h 27 [some (.ref (γ.2.2.2 0)), some (.int a1), some (.int v2), some (.int v3), none, none] []) : ∀ (v3 : Int32) (s0 : Int32) (s1 : Int32) (h : xH), f_X7_pour_c106 k27 a1 v3 s0 s1 h = some (r, hr) → xB C h 106 [some (.ref (γ.2.2.2 0)), some (.int a1), none, some (.int v3), none, none] [.int s0, .int s1] := by
  intro v3 s0 s1 h e
  unfold f_X7_pour_c106 at e
  refine xB_iadd hF dX7_pour_106 ?_
  refine xB_istore_n (L' := [_, _, _, _, _, _]) hF dX7_pour_107 rfl rfl rfl ?_
  refine xB_iinc (L' := [_, _, _, _, _, _]) hF dX7_pour_108 rfl ki_1 rfl rfl rfl ?_
  refine xB_goto (tgt := 27) hF dX7_pour_111 rfl ?_
  exact xB_l (hk27 _ _ _ e) (And.intro rfl (And.intro rfl (And.intro rfl (And.intro rfl (True.intro)))))
def f_X7_pour_c83 (k27 : Int32 → Int32 → xH → Option (Int32 × xH)) (a1 : Int32) (v2 : Int32) (v3 : Int32) (s0 : Int32) (h : xH) : Option (Int32 × xH) :=
    bn (f_X7_becomes (6 + v3) s0 h) fun r1 h2 => if s0 = r1 then (f_X7_pour_c106 k27 a1 v3 0 v2 h2) else (f_X7_pour_c106 k27 a1 v3 1 v2 h2)
set_option maxRecDepth 20000 in
set_option maxHeartbeats 2000000 in
theorem t_X7_pour_c83 {l : Launch} {γ : xG} {k27 : Int32 → Int32 → xH → Option (Int32 × xH)} {a1 : Int32} {r : Int32} {hr : xH} {C : xCx} (hF : xF C cX7_pour RX7 6 2 γ xSM (some (.int r)) hr l (some .int)) (hk27 : ∀ (v2 : Int32) (v3 : Int32) (h : xH), k27 v2 v3 h = some (r, hr) → xB C h 27 [some (.ref (γ.2.2.2 0)), some (.int a1), some (.int v2), some (.int v3), none, none] []) : ∀ (v2 : Int32) (v3 : Int32) (s0 : Int32) (h : xH), f_X7_pour_c83 k27 a1 v2 v3 s0 h = some (r, hr) → xB C h 83 [some (.ref (γ.2.2.2 0)), some (.int a1), some (.int v2), some (.int v3), none, none] [.int s0] := by
  intro v2 v3 s0 h e
  unfold f_X7_pour_c83 at e
  refine xB_istore (L' := [_, _, _, _, _, _]) hF dX7_pour_83 rfl rfl rfl ?_
  refine xB_iload_n hF dX7_pour_85 rfl ?_
  refine xB_iload hF dX7_pour_86 rfl ?_
  refine xB_aload_n hF dX7_pour_88 rfl ?_
  refine xB_bipush hF dX7_pour_89 kb_6 ?_
  refine xB_iload_n hF dX7_pour_91 rfl ?_
  refine xB_iadd hF dX7_pour_92 ?_
  refine xB_iload hF dX7_pour_93 rfl ?_
  obtain ⟨r1, h2, e3, e⟩ := bn_of e
  refine xB_callVi hF dX7_pour_95 (t_X7_becomes e3) cw_X7_130 sM_0 rfl rfl rfl rfl rfl ?_
  refine xB_icmp_ne (tgt := 105) hF dX7_pour_98 rfl e (fun _ e => ?_) (fun _ e => ?_)
  · refine xB_iconst hF dX7_pour_101 ki_0 ?_
    refine xB_goto (tgt := 106) hF dX7_pour_102 rfl ?_
    exact xB_l (t_X7_pour_c106 hF hk27 _ _ _ _ e) (And.intro rfl (And.intro rfl (And.intro rfl (True.intro))))
  · refine xB_iconst hF dX7_pour_105 ki_1 ?_
    exact xB_l (t_X7_pour_c106 hF hk27 _ _ _ _ e) (And.intro rfl (And.intro rfl (And.intro rfl (True.intro))))
def f_X7_pour_c27 (a1 : Int32) : Nat → Int32 → Int32 → xH → Option (Int32 × xH)
  | 0, _, _, _ => none
  | n + 1, v2, v3, h =>
    gd a1 4 <| if (h 5 (Int32.toNatClampNeg a1)) ≤ v3 then (some (v2, h)) else (if 6 ≤ v3 then (some (v2, h)) else (gd ((24 * a1) + v3) 96 <| nm (h 6 (Int32.toNatClampNeg ((24 * a1) + v3))) fun x1 => if x1 = (-1000000005) then (gd (6 + v3) 3078 <| f_X7_pour_c83 (f_X7_pour_c27 a1 n) a1 v2 v3 (h 1 (Int32.toNatClampNeg (6 + v3))) h) else (bn (f_X7_within x1 9999 h) fun r2 h3 => f_X7_pour_c83 (f_X7_pour_c27 a1 n) a1 v2 v3 r2 h3)))
set_option maxRecDepth 20000 in
set_option maxHeartbeats 2000000 in
theorem t_X7_pour_c27 {l : Launch} {γ : xG} {a1 : Int32} {r : Int32} {hr : xH} {C : xCx} (hF : xF C cX7_pour RX7 6 2 γ xSM (some (.int r)) hr l (some .int)) : ∀ (n : Nat) (v2 : Int32) (v3 : Int32) (h : xH), f_X7_pour_c27 a1 n v2 v3 h = some (r, hr) → xB C h 27 [some (.ref (γ.2.2.2 0)), some (.int a1), some (.int v2), some (.int v3), none, none] [] := by
  intro n
  induction n with
  | zero => intro v2 v3 h e; cases e
  | succ n ih =>
    intro v2 v3 h e
    rw [f_X7_pour_c27] at e
    refine xB_iload_n hF dX7_pour_27 rfl ?_
    refine xB_aload_n hF dX7_pour_28 rfl ?_
    refine xB_get hF dX7_pour_29 fl_X7_22 sM_0 rfl rfl ?_
    refine xB_iload_n hF dX7_pour_32 rfl ?_
    refine xB_iald hF dX7_pour_33 sM_5 e (fun e => ?_)
    refine xB_icmp_ge (tgt := 114) hF dX7_pour_34 rfl e (fun _ e => ?_) (fun _ e => ?_)
    · refine xB_iload_n hF dX7_pour_114 rfl ?_
      exact xB_ireturn hF dX7_pour_115 e
    · refine xB_iload_n hF dX7_pour_37 rfl ?_
      refine xB_bipush hF dX7_pour_38 kb_6 ?_
      refine xB_icmp_ge (tgt := 114) hF dX7_pour_40 rfl e (fun _ e => ?_) (fun _ e => ?_)
      · refine xB_iload_n hF dX7_pour_114 rfl ?_
        exact xB_ireturn hF dX7_pour_115 e
      · refine xB_aload_n hF dX7_pour_43 rfl ?_
        refine xB_get hF dX7_pour_44 fl_X7_25 sM_0 rfl rfl ?_
        refine xB_bipush hF dX7_pour_47 kb_24 ?_
        refine xB_iload_n hF dX7_pour_49 rfl ?_
        refine xB_imul hF dX7_pour_50 ?_
        refine xB_iload_n hF dX7_pour_51 rfl ?_
        refine xB_iadd hF dX7_pour_52 ?_
        refine xB_iald hF dX7_pour_53 sM_6 e (fun e => ?_)
        refine xB_istore (L' := [_, _, _, _, _, _]) hF dX7_pour_54 rfl rfl rfl ?_
        replace e := nm_of e
        refine xB_iload hF dX7_pour_56 rfl ?_
        refine xB_ldc hF dX7_pour_58 kc_X7_67 ?_
        refine xB_icmp_ne (tgt := 75) hF dX7_pour_60 rfl e (fun _ e => ?_) (fun _ e => ?_)
        · refine xB_aload_n hF dX7_pour_63 rfl ?_
          refine xB_get hF dX7_pour_64 fl_X7_7 sM_0 rfl rfl ?_
          refine xB_bipush hF dX7_pour_67 kb_6 ?_
          refine xB_iload_n hF dX7_pour_69 rfl ?_
          refine xB_iadd hF dX7_pour_70 ?_
          refine xB_iald hF dX7_pour_71 sM_1 e (fun e => ?_)
          refine xB_goto (tgt := 83) hF dX7_pour_72 rfl ?_
          exact xB_l (t_X7_pour_c83 hF ih _ _ _ _ e) (And.intro rfl (And.intro rfl (And.intro rfl (And.intro rfl (True.intro)))))
        · refine xB_iload hF dX7_pour_75 rfl ?_
          refine xB_sipush hF dX7_pour_77 ks_9999 ?_
          obtain ⟨r2, h3, e4, e⟩ := bn_of e
          refine xB_callSi hF dX7_pour_80 (t_X7_within e4) cw_X7_101 rfl rfl rfl rfl ?_
          exact xB_l (t_X7_pour_c83 hF ih _ _ _ _ e) (And.intro rfl (And.intro rfl (And.intro rfl (And.intro rfl (True.intro)))))
def f_X7_pour (a1 : Int32) (h : xH) : Option (Int32 × xH) :=
    bn (f_X7_isSheet a1 h) fun r1 h2 => if r1 = 0 then (some ((-1000000001), h2)) else (gd a1 4 <| if 0 ≤ (h2 4 (Int32.toNatClampNeg a1)) then (f_X7_pour_c27 a1 xN 0 0 h2) else (some ((-1000000011), h2)))
set_option maxRecDepth 20000 in
set_option maxHeartbeats 2000000 in
theorem t_X7_pour {l : Launch} {γ : xG} {a1 : Int32} {h : xH} {r : Int32} {hr : xH} (e : f_X7_pour a1 h = some (r, hr)) : xCT l γ xSM yX7_pour cX7_pour 6 (some .int) 2 [.ref (γ.2.2.2 0), .int a1] h (some (.int r)) hr := by
  refine xCT.of (own := RX7) (L := [some (.ref (γ.2.2.2 0)), some (.int a1), none, none, none, none]) (by decide) rfl rfl rfl (fun C hF => ?_)
  unfold f_X7_pour at e
  refine xB_iload_n hF dX7_pour_0 rfl ?_
  obtain ⟨r1, h2, e3, e⟩ := bn_of e
  refine xB_callSi hF dX7_pour_1 (t_X7_isSheet e3) cw_X7_316 rfl rfl rfl rfl ?_
  refine xB_if_ne (tgt := 10) hF dX7_pour_4 rfl e (fun _ e => ?_) (fun _ e => ?_)
  · refine xB_ldc hF dX7_pour_7 kc_X7_87 ?_
    exact xB_ireturn hF dX7_pour_9 e
  · refine xB_aload_n hF dX7_pour_10 rfl ?_
    refine xB_get hF dX7_pour_11 fl_X7_19 sM_0 rfl rfl ?_
    refine xB_iload_n hF dX7_pour_14 rfl ?_
    refine xB_iald hF dX7_pour_15 sM_4 e (fun e => ?_)
    refine xB_if_ge (tgt := 23) hF dX7_pour_16 rfl e (fun _ e => ?_) (fun _ e => ?_)
    · refine xB_iconst hF dX7_pour_23 ki_0 ?_
      refine xB_istore_n (L' := [_, _, _, _, _, _]) hF dX7_pour_24 rfl rfl rfl ?_
      refine xB_iconst hF dX7_pour_25 ki_0 ?_
      refine xB_istore_n (L' := [_, _, _, _, _, _]) hF dX7_pour_26 rfl rfl rfl ?_
      exact xB_l (t_X7_pour_c27 hF _ _ _ _ e) (And.intro rfl (And.intro rfl (And.intro rfl (And.intro rfl (True.intro)))))
    · refine xB_ldcw hF dX7_pour_19 kc_X7_322 ?_
      exact xB_ireturn hF dX7_pour_22 e
def f_X7_reads_c75 (k25 : Int32 → xH → Option (Int32 × xH)) (a1 : Int32) (v2 : Int32) (h : xH) : Option (Int32 × xH) :=
    k25 (v2 + 1) h
set_option maxRecDepth 20000 in
set_option maxHeartbeats 2000000 in
theorem t_X7_reads_c75 {l : Launch} {γ : xG} {k25 : Int32 → xH → Option (Int32 × xH)} {a1 : Int32} {r : Int32} {hr : xH} {C : xCx} (hF : xF C cX7_reads RX7 4 2 γ xSM (some (.int r)) hr l (some .int)) (hk25 : ∀ (v2 : Int32) (h : xH), k25 v2 h = some (r, hr) → xB C h 25 [some (.ref (γ.2.2.2 0)), some (.int a1), some (.int v2), none] []) : ∀ (v2 : Int32) (h : xH), f_X7_reads_c75 k25 a1 v2 h = some (r, hr) → xB C h 75 [some (.ref (γ.2.2.2 0)), some (.int a1), some (.int v2), none] [] := by
  intro v2 h e
  unfold f_X7_reads_c75 at e
  refine xB_iinc (L' := [_, _, _, _]) hF dX7_reads_75 rfl ki_1 rfl rfl rfl ?_
  refine xB_goto (tgt := 25) hF dX7_reads_78 rfl ?_
  exact xB_l (hk25 _ _ e) (And.intro rfl (And.intro rfl (And.intro rfl (True.intro))))
def f_X7_reads_c25 (a1 : Int32) : Nat → Int32 → xH → Option (Int32 × xH)
  | 0, _, _ => none
  | n + 1, v2, h =>
    gd a1 4 <| if (h 5 (Int32.toNatClampNeg a1)) ≤ v2 then (some ((-1000000005), h)) else (gd ((24 * a1) + v2) 96 <| nm (h 6 (Int32.toNatClampNeg ((24 * a1) + v2))) fun x1 => if x1 = (-1000000005) then (f_X7_reads_c75 (f_X7_reads_c25 a1 n) a1 v2 h) else (gd 0 3078 <| if (h 1 (Int32.toNatClampNeg 0)) ≤ v2 then (some (v2, h)) else (bn (f_X7_of v2 3 h) fun r2 h3 => if x1 = r2 then (f_X7_reads_c75 (f_X7_reads_c25 a1 n) a1 v2 h3) else (some (v2, h3)))))
set_option maxRecDepth 20000 in
set_option maxHeartbeats 2000000 in
theorem t_X7_reads_c25 {l : Launch} {γ : xG} {a1 : Int32} {r : Int32} {hr : xH} {C : xCx} (hF : xF C cX7_reads RX7 4 2 γ xSM (some (.int r)) hr l (some .int)) : ∀ (n : Nat) (v2 : Int32) (h : xH), f_X7_reads_c25 a1 n v2 h = some (r, hr) → xB C h 25 [some (.ref (γ.2.2.2 0)), some (.int a1), some (.int v2), none] [] := by
  intro n
  induction n with
  | zero => intro v2 h e; cases e
  | succ n ih =>
    intro v2 h e
    rw [f_X7_reads_c25] at e
    refine xB_iload_n hF dX7_reads_25 rfl ?_
    refine xB_aload_n hF dX7_reads_26 rfl ?_
    refine xB_get hF dX7_reads_27 fl_X7_22 sM_0 rfl rfl ?_
    refine xB_iload_n hF dX7_reads_30 rfl ?_
    refine xB_iald hF dX7_reads_31 sM_5 e (fun e => ?_)
    refine xB_icmp_ge (tgt := 81) hF dX7_reads_32 rfl e (fun _ e => ?_) (fun _ e => ?_)
    · refine xB_ldc hF dX7_reads_81 kc_X7_67 ?_
      exact xB_ireturn hF dX7_reads_83 e
    · refine xB_aload_n hF dX7_reads_35 rfl ?_
      refine xB_get hF dX7_reads_36 fl_X7_25 sM_0 rfl rfl ?_
      refine xB_bipush hF dX7_reads_39 kb_24 ?_
      refine xB_iload_n hF dX7_reads_41 rfl ?_
      refine xB_imul hF dX7_reads_42 ?_
      refine xB_iload_n hF dX7_reads_43 rfl ?_
      refine xB_iadd hF dX7_reads_44 ?_
      refine xB_iald hF dX7_reads_45 sM_6 e (fun e => ?_)
      refine xB_istore_n (L' := [_, _, _, _]) hF dX7_reads_46 rfl rfl rfl ?_
      replace e := nm_of e
      refine xB_iload_n hF dX7_reads_47 rfl ?_
      refine xB_ldc hF dX7_reads_48 kc_X7_67 ?_
      refine xB_icmp_eq (tgt := 75) hF dX7_reads_50 rfl e (fun _ e => ?_) (fun _ e => ?_)
      · exact xB_l (t_X7_reads_c75 hF ih _ _ e) (And.intro rfl (And.intro rfl (And.intro rfl (True.intro))))
      · refine xB_iload_n hF dX7_reads_53 rfl ?_
        refine xB_aload_n hF dX7_reads_54 rfl ?_
        refine xB_get hF dX7_reads_55 fl_X7_7 sM_0 rfl rfl ?_
        refine xB_iconst hF dX7_reads_58 ki_0 ?_
        refine xB_iald hF dX7_reads_59 sM_1 e (fun e => ?_)
        refine xB_icmp_ge (tgt := 73) hF dX7_reads_60 rfl e (fun _ e => ?_) (fun _ e => ?_)
        · refine xB_iload_n hF dX7_reads_73 rfl ?_
          exact xB_ireturn hF dX7_reads_74 e
        · refine xB_iload_n hF dX7_reads_63 rfl ?_
          refine xB_aload_n hF dX7_reads_64 rfl ?_
          refine xB_iload_n hF dX7_reads_65 rfl ?_
          refine xB_iconst hF dX7_reads_66 ki_3 ?_
          obtain ⟨r2, h3, e4, e⟩ := bn_of e
          refine xB_callVi hF dX7_reads_67 (t_X7_of e4) cw_X7_97 sM_0 rfl rfl rfl rfl rfl ?_
          refine xB_icmp_eq (tgt := 75) hF dX7_reads_70 rfl e (fun _ e => ?_) (fun _ e => ?_)
          · exact xB_l (t_X7_reads_c75 hF ih _ _ e) (And.intro rfl (And.intro rfl (And.intro rfl (True.intro))))
          · refine xB_iload_n hF dX7_reads_73 rfl ?_
            exact xB_ireturn hF dX7_reads_74 e
def f_X7_reads (a1 : Int32) (h : xH) : Option (Int32 × xH) :=
    bn (f_X7_isSheet a1 h) fun r1 h2 => if r1 = 0 then (some ((-1000000001), h2)) else (gd a1 4 <| if 0 ≤ (h2 4 (Int32.toNatClampNeg a1)) then (f_X7_reads_c25 a1 xN 0 h2) else (some ((-1000000011), h2)))
set_option maxRecDepth 20000 in
set_option maxHeartbeats 2000000 in
theorem t_X7_reads {l : Launch} {γ : xG} {a1 : Int32} {h : xH} {r : Int32} {hr : xH} (e : f_X7_reads a1 h = some (r, hr)) : xCT l γ xSM yX7_reads cX7_reads 4 (some .int) 2 [.ref (γ.2.2.2 0), .int a1] h (some (.int r)) hr := by
  refine xCT.of (own := RX7) (L := [some (.ref (γ.2.2.2 0)), some (.int a1), none, none]) (by decide) rfl rfl rfl (fun C hF => ?_)
  unfold f_X7_reads at e
  refine xB_iload_n hF dX7_reads_0 rfl ?_
  obtain ⟨r1, h2, e3, e⟩ := bn_of e
  refine xB_callSi hF dX7_reads_1 (t_X7_isSheet e3) cw_X7_316 rfl rfl rfl rfl ?_
  refine xB_if_ne (tgt := 10) hF dX7_reads_4 rfl e (fun _ e => ?_) (fun _ e => ?_)
  · refine xB_ldc hF dX7_reads_7 kc_X7_87 ?_
    exact xB_ireturn hF dX7_reads_9 e
  · refine xB_aload_n hF dX7_reads_10 rfl ?_
    refine xB_get hF dX7_reads_11 fl_X7_19 sM_0 rfl rfl ?_
    refine xB_iload_n hF dX7_reads_14 rfl ?_
    refine xB_iald hF dX7_reads_15 sM_4 e (fun e => ?_)
    refine xB_if_ge (tgt := 23) hF dX7_reads_16 rfl e (fun _ e => ?_) (fun _ e => ?_)
    · refine xB_iconst hF dX7_reads_23 ki_0 ?_
      refine xB_istore_n (L' := [_, _, _, _]) hF dX7_reads_24 rfl rfl rfl ?_
      exact xB_l (t_X7_reads_c25 hF _ _ _ e) (And.intro rfl (And.intro rfl (And.intro rfl (True.intro))))
    · refine xB_ldcw hF dX7_reads_19 kc_X7_322 ?_
      exact xB_ireturn hF dX7_reads_22 e
def f_X7_toldBy_c147 (k45 : Int32 → Int32 → Int32 → xH → Option (Int32 × xH)) (a1 : Int32) (a2 : Int32) (v3 : Int32) (v4 : Int32) (v5 : Int32) (h : xH) : Option (Int32 × xH) :=
    k45 v3 v4 (v5 + 1) h
set_option maxRecDepth 20000 in
set_option maxHeartbeats 2000000 in
theorem t_X7_toldBy_c147 {l : Launch} {γ : xG} {k45 : Int32 → Int32 → Int32 → xH → Option (Int32 × xH)} {a1 : Int32} {a2 : Int32} {r : Int32} {hr : xH} {C : xCx} (hF : xF C cX7_toldBy RX7 9 7 γ xSM (some (.int r)) hr l (some .int)) (hk45 : ∀ (v3 : Int32) (v4 : Int32) (v5 : Int32) (h : xH), k45 v3 v4 v5 h = some (r, hr) → xB C h 45 [some (.ref (γ.2.2.2 0)), some (.int a1), some (.int a2), some (.int v3), some (.int v4), some (.int v5), none, none, none] []) : ∀ (v3 : Int32) (v4 : Int32) (v5 : Int32) (h : xH), f_X7_toldBy_c147 k45 a1 a2 v3 v4 v5 h = some (r, hr) → xB C h 147 [some (.ref (γ.2.2.2 0)), some (.int a1), some (.int a2), some (.int v3), some (.int v4), some (.int v5), none, none, none] [] := by
  intro v3 v4 v5 h e
  unfold f_X7_toldBy_c147 at e
  refine xB_iinc (L' := [_, _, _, _, _, _, _, _, _]) hF dX7_toldBy_147 rfl ki_1 rfl rfl rfl ?_
  refine xB_goto (tgt := 45) hF dX7_toldBy_150 rfl ?_
  exact xB_l (hk45 _ _ _ _ e) (And.intro rfl (And.intro rfl (And.intro rfl (And.intro rfl (And.intro rfl (And.intro rfl (True.intro)))))))
def f_X7_toldBy_c140 (k45 : Int32 → Int32 → Int32 → xH → Option (Int32 × xH)) (a1 : Int32) (a2 : Int32) (v5 : Int32) (v6 : Int32) (h : xH) : Option (Int32 × xH) :=
    f_X7_toldBy_c147 k45 a1 a2 v5 v6 v5 h
set_option maxRecDepth 20000 in
set_option maxHeartbeats 2000000 in
theorem t_X7_toldBy_c140 {l : Launch} {γ : xG} {k45 : Int32 → Int32 → Int32 → xH → Option (Int32 × xH)} {a1 : Int32} {a2 : Int32} {r : Int32} {hr : xH} {C : xCx} (hF : xF C cX7_toldBy RX7 9 7 γ xSM (some (.int r)) hr l (some .int)) (hk45 : ∀ (v3 : Int32) (v4 : Int32) (v5 : Int32) (h : xH), k45 v3 v4 v5 h = some (r, hr) → xB C h 45 [some (.ref (γ.2.2.2 0)), some (.int a1), some (.int a2), some (.int v3), some (.int v4), some (.int v5), none, none, none] []) : ∀ (v5 : Int32) (v6 : Int32) (h : xH), f_X7_toldBy_c140 k45 a1 a2 v5 v6 h = some (r, hr) → xB C h 140 [some (.ref (γ.2.2.2 0)), some (.int a1), some (.int a2), none, none, some (.int v5), some (.int v6), none, none] [] := by
  intro v5 v6 h e
  unfold f_X7_toldBy_c140 at e
  refine xB_iload hF dX7_toldBy_140 rfl ?_
  refine xB_istore_n (L' := [_, _, _, _, _, _, _, _, _]) hF dX7_toldBy_142 rfl rfl rfl ?_
  refine xB_iload hF dX7_toldBy_143 rfl ?_
  refine xB_istore (L' := [_, _, _, _, _, _, _, _, _]) hF dX7_toldBy_145 rfl rfl rfl ?_
  exact xB_l (t_X7_toldBy_c147 hF hk45 _ _ _ _ e) (And.intro rfl (And.intro rfl (And.intro rfl (And.intro rfl (And.intro rfl (And.intro rfl (True.intro)))))))
def f_X7_toldBy_c112 (k45 : Int32 → Int32 → Int32 → xH → Option (Int32 × xH)) (k62 : Int32 → Int32 → Int32 → Int32 → Int32 → xH → Option (Int32 × xH)) (a1 : Int32) (a2 : Int32) (v3 : Int32) (v4 : Int32) (v5 : Int32) (v7 : Int32) (s0 : Int32) (s1 : Int32) (h : xH) : Option (Int32 × xH) :=
    bn (f_X7_goesOn h) fun r1 h2 => k62 v3 v4 v5 (s1 + s0) (v7 + 1) h2
set_option maxRecDepth 20000 in
set_option maxHeartbeats 2000000 in
theorem t_X7_toldBy_c112 {l : Launch} {γ : xG} {k45 : Int32 → Int32 → Int32 → xH → Option (Int32 × xH)} {k62 : Int32 → Int32 → Int32 → Int32 → Int32 → xH → Option (Int32 × xH)} {a1 : Int32} {a2 : Int32} {r : Int32} {hr : xH} {C : xCx} (hF : xF C cX7_toldBy RX7 9 7 γ xSM (some (.int r)) hr l (some .int)) (hk45 : ∀ (v3 : Int32) (v4 : Int32) (v5 : Int32) (h : xH), k45 v3 v4 v5 h = some (r, hr) → xB C h 45 [some (.ref (γ.2.2.2 0)), some (.int a1), some (.int a2), some (.int v3), some (.int v4), some (.int v5), none, none, none] []) (hk62 : ∀ (v3 : Int32) (v4 : Int32) (v5 : Int32) (v6 : Int32) (v7 : Int32) (h : xH), k62 v3 v4 v5 v6 v7 h = some (r, hr) → xB C h 62 [some (.ref (γ.2.2.2 0)), some (.int a1), some (.int a2), some (.int v3), some (.int v4), some (.int v5), some (.int v6), some (.int v7), none] []) : ∀ (v3 : Int32) (v4 : Int32) (v5 : Int32) (v7 : Int32) (s0 : Int32) (s1 : Int32) (h : xH), f_X7_toldBy_c112 k45 k62 a1 a2 v3 v4 v5 v7 s0 s1 h = some (r, hr) → xB C h 112 [some (.ref (γ.2.2.2 0)), some (.int a1), some (.int a2), some (.int v3), some (.int v4), some (.int v5), none, some (.int v7), none] [.int s0, .int s1] := by
  intro v3 v4 v5 v7 s0 s1 h e
  unfold f_X7_toldBy_c112 at e
  refine xB_iadd hF dX7_toldBy_112 ?_
  refine xB_istore (L' := [_, _, _, _, _, _, _, _, _]) hF dX7_toldBy_113 rfl rfl rfl ?_
  refine xB_aload_n hF dX7_toldBy_115 rfl ?_
  obtain ⟨r1, h2, e3, e⟩ := bn_of e
  refine xB_callVv hF dX7_toldBy_116 (t_X7_goesOn e3) cw_X7_163 sM_0 rfl rfl rfl rfl rfl ?_
  refine xB_iinc (L' := [_, _, _, _, _, _, _, _, _]) hF dX7_toldBy_119 rfl ki_1 rfl rfl rfl ?_
  refine xB_goto (tgt := 62) hF dX7_toldBy_122 rfl ?_
  exact xB_l (hk62 _ _ _ _ _ _ e) (And.intro rfl (And.intro rfl (And.intro rfl (And.intro rfl (And.intro rfl (And.intro rfl (And.intro rfl (And.intro rfl (True.intro)))))))))
def f_X7_toldBy_c62 (k45 : Int32 → Int32 → Int32 → xH → Option (Int32 × xH)) (a1 : Int32) (a2 : Int32) : Nat → Int32 → Int32 → Int32 → Int32 → Int32 → xH → Option (Int32 × xH)
  | 0, _, _, _, _, _, _ => none
  | n + 1, v3, v4, v5, v6, v7, h =>
    gd a1 4 <| if (h 5 (Int32.toNatClampNeg a1)) ≤ v7 then (bn (f_X7_laysBack h) fun r1 h2 => if v3 < 0 then (f_X7_toldBy_c140 k45 a1 a2 v5 v6 h2) else (if v4 ≤ v6 then (f_X7_toldBy_c147 k45 a1 a2 v3 v4 v5 h2) else (f_X7_toldBy_c140 k45 a1 a2 v5 v6 h2))) else (gd ((24 * a1) + v7) 96 <| nm (h 6 (Int32.toNatClampNeg ((24 * a1) + v7))) fun x4 => if x4 = (-1000000005) then (f_X7_toldBy_c112 k45 (f_X7_toldBy_c62 k45 a1 a2 n) a1 a2 v3 v4 v5 v7 0 v6 h) else (bn (f_X7_of v5 3 h) fun r5 h6 => bn (f_X7_off x4 r5 h6) fun r8 h9 => f_X7_toldBy_c112 k45 (f_X7_toldBy_c62 k45 a1 a2 n) a1 a2 v3 v4 v5 v7 r8 v6 h9))
set_option maxRecDepth 20000 in
set_option maxHeartbeats 2000000 in
theorem t_X7_toldBy_c62 {l : Launch} {γ : xG} {k45 : Int32 → Int32 → Int32 → xH → Option (Int32 × xH)} {a1 : Int32} {a2 : Int32} {r : Int32} {hr : xH} {C : xCx} (hF : xF C cX7_toldBy RX7 9 7 γ xSM (some (.int r)) hr l (some .int)) (hk45 : ∀ (v3 : Int32) (v4 : Int32) (v5 : Int32) (h : xH), k45 v3 v4 v5 h = some (r, hr) → xB C h 45 [some (.ref (γ.2.2.2 0)), some (.int a1), some (.int a2), some (.int v3), some (.int v4), some (.int v5), none, none, none] []) : ∀ (n : Nat) (v3 : Int32) (v4 : Int32) (v5 : Int32) (v6 : Int32) (v7 : Int32) (h : xH), f_X7_toldBy_c62 k45 a1 a2 n v3 v4 v5 v6 v7 h = some (r, hr) → xB C h 62 [some (.ref (γ.2.2.2 0)), some (.int a1), some (.int a2), some (.int v3), some (.int v4), some (.int v5), some (.int v6), some (.int v7), none] [] := by
  intro n
  induction n with
  | zero => intro v3 v4 v5 v6 v7 h e; cases e
  | succ n ih =>
    intro v3 v4 v5 v6 v7 h e
    rw [f_X7_toldBy_c62] at e
    refine xB_iload hF dX7_toldBy_62 rfl ?_
    refine xB_aload_n hF dX7_toldBy_64 rfl ?_
    refine xB_get hF dX7_toldBy_65 fl_X7_22 sM_0 rfl rfl ?_
    refine xB_iload_n hF dX7_toldBy_68 rfl ?_
    refine xB_iald hF dX7_toldBy_69 sM_5 e (fun e => ?_)
    refine xB_icmp_ge (tgt := 125) hF dX7_toldBy_70 rfl e (fun _ e => ?_) (fun _ e => ?_)
    · refine xB_aload_n hF dX7_toldBy_125 rfl ?_
      obtain ⟨r1, h2, e3, e⟩ := bn_of e
      refine xB_callVv hF dX7_toldBy_126 (t_X7_laysBack e3) cw_X7_196 sM_0 rfl rfl rfl rfl rfl ?_
      refine xB_iload_n hF dX7_toldBy_129 rfl ?_
      refine xB_if_lt (tgt := 140) hF dX7_toldBy_130 rfl e (fun _ e => ?_) (fun _ e => ?_)
      · exact xB_l (t_X7_toldBy_c140 hF hk45 _ _ _ e) (And.intro rfl (And.intro rfl (And.intro rfl (And.intro rfl (And.intro rfl (True.intro))))))
      · refine xB_iload hF dX7_toldBy_133 rfl ?_
        refine xB_iload hF dX7_toldBy_135 rfl ?_
        refine xB_icmp_ge (tgt := 147) hF dX7_toldBy_137 rfl e (fun _ e => ?_) (fun _ e => ?_)
        · exact xB_l (t_X7_toldBy_c147 hF hk45 _ _ _ _ e) (And.intro rfl (And.intro rfl (And.intro rfl (And.intro rfl (And.intro rfl (And.intro rfl (True.intro)))))))
        · exact xB_l (t_X7_toldBy_c140 hF hk45 _ _ _ e) (And.intro rfl (And.intro rfl (And.intro rfl (And.intro rfl (And.intro rfl (True.intro))))))
    · refine xB_aload_n hF dX7_toldBy_73 rfl ?_
      refine xB_get hF dX7_toldBy_74 fl_X7_25 sM_0 rfl rfl ?_
      refine xB_bipush hF dX7_toldBy_77 kb_24 ?_
      refine xB_iload_n hF dX7_toldBy_79 rfl ?_
      refine xB_imul hF dX7_toldBy_80 ?_
      refine xB_iload hF dX7_toldBy_81 rfl ?_
      refine xB_iadd hF dX7_toldBy_83 ?_
      refine xB_iald hF dX7_toldBy_84 sM_6 e (fun e => ?_)
      refine xB_istore (L' := [_, _, _, _, _, _, _, _, _]) hF dX7_toldBy_85 rfl rfl rfl ?_
      replace e := nm_of e
      refine xB_iload hF dX7_toldBy_87 rfl ?_
      refine xB_iload hF dX7_toldBy_89 rfl ?_
      refine xB_ldc hF dX7_toldBy_91 kc_X7_67 ?_
      refine xB_icmp_ne (tgt := 100) hF dX7_toldBy_93 rfl e (fun _ e => ?_) (fun _ e => ?_)
      · refine xB_iconst hF dX7_toldBy_96 ki_0 ?_
        refine xB_goto (tgt := 112) hF dX7_toldBy_97 rfl ?_
        exact xB_l (t_X7_toldBy_c112 hF hk45 ih _ _ _ _ _ _ _ e) (And.intro rfl (And.intro rfl (And.intro rfl (And.intro rfl (And.intro rfl (And.intro rfl (And.intro rfl (True.intro))))))))
      · refine xB_iload hF dX7_toldBy_100 rfl ?_
        refine xB_aload_n hF dX7_toldBy_102 rfl ?_
        refine xB_iload hF dX7_toldBy_103 rfl ?_
        refine xB_iconst hF dX7_toldBy_105 ki_3 ?_
        obtain ⟨r5, h6, e7, e⟩ := bn_of e
        refine xB_callVi hF dX7_toldBy_106 (t_X7_of e7) cw_X7_97 sM_0 rfl rfl rfl rfl rfl ?_
        obtain ⟨r8, h9, e10, e⟩ := bn_of e
        refine xB_callSi hF dX7_toldBy_109 (t_X7_off e10) cw_X7_113 rfl rfl rfl rfl ?_
        exact xB_l (t_X7_toldBy_c112 hF hk45 ih _ _ _ _ _ _ _ e) (And.intro rfl (And.intro rfl (And.intro rfl (And.intro rfl (And.intro rfl (And.intro rfl (And.intro rfl (True.intro))))))))
def f_X7_toldBy_c45 (a1 : Int32) (a2 : Int32) : Nat → Int32 → Int32 → Int32 → xH → Option (Int32 × xH)
  | 0, _, _, _, _ => none
  | n + 1, v3, v4, v5, h =>
    gd 0 3078 <| if (h 1 (Int32.toNatClampNeg 0)) ≤ v5 then (if 0 ≤ v3 then (if a2 = 0 then (some (v3, h)) else (some (v4, h))) else (some ((-1000000005), h))) else (f_X7_toldBy_c62 (f_X7_toldBy_c45 a1 a2 n) a1 a2 xN v3 v4 v5 0 0 h)
set_option maxRecDepth 20000 in
set_option maxHeartbeats 2000000 in
theorem t_X7_toldBy_c45 {l : Launch} {γ : xG} {a1 : Int32} {a2 : Int32} {r : Int32} {hr : xH} {C : xCx} (hF : xF C cX7_toldBy RX7 9 7 γ xSM (some (.int r)) hr l (some .int)) : ∀ (n : Nat) (v3 : Int32) (v4 : Int32) (v5 : Int32) (h : xH), f_X7_toldBy_c45 a1 a2 n v3 v4 v5 h = some (r, hr) → xB C h 45 [some (.ref (γ.2.2.2 0)), some (.int a1), some (.int a2), some (.int v3), some (.int v4), some (.int v5), none, none, none] [] := by
  intro n
  induction n with
  | zero => intro v3 v4 v5 h e; cases e
  | succ n ih =>
    intro v3 v4 v5 h e
    rw [f_X7_toldBy_c45] at e
    refine xB_iload hF dX7_toldBy_45 rfl ?_
    refine xB_aload_n hF dX7_toldBy_47 rfl ?_
    refine xB_get hF dX7_toldBy_48 fl_X7_7 sM_0 rfl rfl ?_
    refine xB_iconst hF dX7_toldBy_51 ki_0 ?_
    refine xB_iald hF dX7_toldBy_52 sM_1 e (fun e => ?_)
    refine xB_icmp_ge (tgt := 153) hF dX7_toldBy_53 rfl e (fun _ e => ?_) (fun _ e => ?_)
    · refine xB_iload_n hF dX7_toldBy_153 rfl ?_
      refine xB_if_ge (tgt := 162) hF dX7_toldBy_154 rfl e (fun _ e => ?_) (fun _ e => ?_)
      · refine xB_iload_n hF dX7_toldBy_162 rfl ?_
        refine xB_if_ne (tgt := 170) hF dX7_toldBy_163 rfl e (fun _ e => ?_) (fun _ e => ?_)
        · refine xB_iload_n hF dX7_toldBy_166 rfl ?_
          refine xB_goto (tgt := 172) hF dX7_toldBy_167 rfl ?_
          exact xB_ireturn hF dX7_toldBy_172 e
        · refine xB_iload hF dX7_toldBy_170 rfl ?_
          exact xB_ireturn hF dX7_toldBy_172 e
      · refine xB_ldc hF dX7_toldBy_157 kc_X7_67 ?_
        refine xB_goto (tgt := 172) hF dX7_toldBy_159 rfl ?_
        exact xB_ireturn hF dX7_toldBy_172 e
    · refine xB_iconst hF dX7_toldBy_56 ki_0 ?_
      refine xB_istore (L' := [_, _, _, _, _, _, _, _, _]) hF dX7_toldBy_57 rfl rfl rfl ?_
      refine xB_iconst hF dX7_toldBy_59 ki_0 ?_
      refine xB_istore (L' := [_, _, _, _, _, _, _, _, _]) hF dX7_toldBy_60 rfl rfl rfl ?_
      exact xB_l (t_X7_toldBy_c62 hF ih _ _ _ _ _ _ _ e) (And.intro rfl (And.intro rfl (And.intro rfl (And.intro rfl (And.intro rfl (And.intro rfl (And.intro rfl (And.intro rfl (True.intro)))))))))
def f_X7_toldBy (a1 : Int32) (a2 : Int32) (h : xH) : Option (Int32 × xH) :=
    bn (f_X7_isSheet a1 h) fun r1 h2 => if r1 = 0 then (some ((-1000000001), h2)) else (bn (f_X7_isIn (Int32.toInt64 a2) 0 1 h2) fun r4 h5 => if r4 = 0 then (some ((-1000000001), h5)) else (gd a1 4 <| if 0 ≤ (h5 4 (Int32.toNatClampNeg a1)) then (bn (f_X7_laysBy h5) fun r7 h8 => f_X7_toldBy_c45 a1 a2 xN (-1) 0 0 h8) else (some ((-1000000011), h5))))
set_option maxRecDepth 20000 in
set_option maxHeartbeats 2000000 in
theorem t_X7_toldBy {l : Launch} {γ : xG} {a1 : Int32} {a2 : Int32} {h : xH} {r : Int32} {hr : xH} (e : f_X7_toldBy a1 a2 h = some (r, hr)) : xCT l γ xSM yX7_toldBy cX7_toldBy 9 (some .int) 7 [.ref (γ.2.2.2 0), .int a1, .int a2] h (some (.int r)) hr := by
  refine xCT.of (own := RX7) (L := [some (.ref (γ.2.2.2 0)), some (.int a1), some (.int a2), none, none, none, none, none, none]) (by decide) rfl rfl rfl (fun C hF => ?_)
  unfold f_X7_toldBy at e
  refine xB_iload_n hF dX7_toldBy_0 rfl ?_
  obtain ⟨r1, h2, e3, e⟩ := bn_of e
  refine xB_callSi hF dX7_toldBy_1 (t_X7_isSheet e3) cw_X7_316 rfl rfl rfl rfl ?_
  refine xB_if_eq (tgt := 17) hF dX7_toldBy_4 rfl e (fun _ e => ?_) (fun _ e => ?_)
  · refine xB_ldc hF dX7_toldBy_17 kc_X7_87 ?_
    exact xB_ireturn hF dX7_toldBy_19 e
  · refine xB_iload_n hF dX7_toldBy_7 rfl ?_
    refine xB_i2l hF dX7_toldBy_8 ?_
    refine xB_lconst (v := 0) hF dX7_toldBy_9 (by decide) ?_
    refine xB_lconst (v := 1) hF dX7_toldBy_10 (by decide) ?_
    obtain ⟨r4, h5, e6, e⟩ := bn_of e
    refine xB_callSi hF dX7_toldBy_11 (t_X7_isIn e6) cw_X7_68 rfl rfl rfl rfl ?_
    refine xB_if_ne (tgt := 20) hF dX7_toldBy_14 rfl e (fun _ e => ?_) (fun _ e => ?_)
    · refine xB_ldc hF dX7_toldBy_17 kc_X7_87 ?_
      exact xB_ireturn hF dX7_toldBy_19 e
    · refine xB_aload_n hF dX7_toldBy_20 rfl ?_
      refine xB_get hF dX7_toldBy_21 fl_X7_19 sM_0 rfl rfl ?_
      refine xB_iload_n hF dX7_toldBy_24 rfl ?_
      refine xB_iald hF dX7_toldBy_25 sM_4 e (fun e => ?_)
      refine xB_if_ge (tgt := 33) hF dX7_toldBy_26 rfl e (fun _ e => ?_) (fun _ e => ?_)
      · refine xB_aload_n hF dX7_toldBy_33 rfl ?_
        obtain ⟨r7, h8, e9, e⟩ := bn_of e
        refine xB_callVv hF dX7_toldBy_34 (t_X7_laysBy e9) cw_X7_193 sM_0 rfl rfl rfl rfl rfl ?_
        refine xB_iconst hF dX7_toldBy_37 ki_m1 ?_
        refine xB_istore_n (L' := [_, _, _, _, _, _, _, _, _]) hF dX7_toldBy_38 rfl rfl rfl ?_
        refine xB_iconst hF dX7_toldBy_39 ki_0 ?_
        refine xB_istore (L' := [_, _, _, _, _, _, _, _, _]) hF dX7_toldBy_40 rfl rfl rfl ?_
        refine xB_iconst hF dX7_toldBy_42 ki_0 ?_
        refine xB_istore (L' := [_, _, _, _, _, _, _, _, _]) hF dX7_toldBy_43 rfl rfl rfl ?_
        exact xB_l (t_X7_toldBy_c45 hF _ _ _ _ _ e) (And.intro rfl (And.intro rfl (And.intro rfl (And.intro rfl (And.intro rfl (And.intro rfl (True.intro)))))))
      · refine xB_ldcw hF dX7_toldBy_29 kc_X7_322 ?_
        exact xB_ireturn hF dX7_toldBy_32 e
def f_X7_copy_c150 (a1 : Int32) (a2 : Int32) (a3 : Int32) (a4 : Int32) (a5 : Int32) : Nat → Int32 → xH → Option (Int32 × xH)
  | 0, _, _ => none
  | n + 1, v6, h =>
    if a5 ≤ v6 then (some (a5, h)) else (gd v6 24 <| gd (((24 * a3) + a4) + v6) 96 <| nm (xst h 6 (Int32.toNatClampNeg (((24 * a3) + a4) + v6)) (h 17 (Int32.toNatClampNeg v6))) fun h1 => f_X7_copy_c150 a1 a2 a3 a4 a5 n (v6 + 1) h1)
set_option maxRecDepth 20000 in
set_option maxHeartbeats 2000000 in
theorem t_X7_copy_c150 {l : Launch} {γ : xG} {a1 : Int32} {a2 : Int32} {a3 : Int32} {a4 : Int32} {a5 : Int32} {r : Int32} {hr : xH} {C : xCx} (hF : xF C cX7_copy RX7 7 2 γ xSM (some (.int r)) hr l (some .int)) : ∀ (n : Nat) (v6 : Int32) (h : xH), f_X7_copy_c150 a1 a2 a3 a4 a5 n v6 h = some (r, hr) → xB C h 150 [some (.ref (γ.2.2.2 0)), some (.int a1), some (.int a2), some (.int a3), some (.int a4), some (.int a5), some (.int v6)] [] := by
  intro n
  induction n with
  | zero => intro v6 h e; cases e
  | succ n ih =>
    intro v6 h e
    rw [f_X7_copy_c150] at e
    refine xB_iload hF dX7_copy_150 rfl ?_
    refine xB_iload hF dX7_copy_152 rfl ?_
    refine xB_icmp_ge (tgt := 185) hF dX7_copy_154 rfl e (fun _ e => ?_) (fun _ e => ?_)
    · refine xB_iload hF dX7_copy_185 rfl ?_
      exact xB_ireturn hF dX7_copy_187 e
    · refine xB_aload_n hF dX7_copy_157 rfl ?_
      refine xB_get hF dX7_copy_158 fl_X7_25 sM_0 rfl rfl ?_
      refine xB_bipush hF dX7_copy_161 kb_24 ?_
      refine xB_iload_n hF dX7_copy_163 rfl ?_
      refine xB_imul hF dX7_copy_164 ?_
      refine xB_iload hF dX7_copy_165 rfl ?_
      refine xB_iadd hF dX7_copy_167 ?_
      refine xB_iload hF dX7_copy_168 rfl ?_
      refine xB_iadd hF dX7_copy_170 ?_
      refine xB_aload_n hF dX7_copy_171 rfl ?_
      refine xB_get hF dX7_copy_172 fl_X7_58 sM_0 rfl rfl ?_
      refine xB_iload hF dX7_copy_175 rfl ?_
      refine xB_iald hF dX7_copy_177 sM_17 e (fun e => ?_)
      refine xB_iast hF dX7_copy_178 sM_6 e (fun e => ?_)
      refine xB_gen e (fun h1 e => ?_)
      refine xB_iinc (L' := [_, _, _, _, _, _, _]) hF dX7_copy_179 rfl ki_1 rfl rfl rfl ?_
      refine xB_goto (tgt := 150) hF dX7_copy_182 rfl ?_
      exact xB_l (ih _ _ e) (And.intro rfl (And.intro rfl (And.intro rfl (And.intro rfl (And.intro rfl (And.intro rfl (And.intro rfl (True.intro))))))))
def f_X7_copy_c113 (a1 : Int32) (a2 : Int32) (a3 : Int32) (a4 : Int32) (a5 : Int32) : Nat → Int32 → xH → Option (Int32 × xH)
  | 0, _, _ => none
  | n + 1, v6, h =>
    if a5 ≤ v6 then (f_X7_copy_c150 a1 a2 a3 a4 a5 xN 0 h) else (gd (((24 * a1) + a2) + v6) 96 <| gd v6 24 <| nm (xst h 17 (Int32.toNatClampNeg v6) (h 6 (Int32.toNatClampNeg (((24 * a1) + a2) + v6)))) fun h1 => f_X7_copy_c113 a1 a2 a3 a4 a5 n (v6 + 1) h1)
set_option maxRecDepth 20000 in
set_option maxHeartbeats 2000000 in
theorem t_X7_copy_c113 {l : Launch} {γ : xG} {a1 : Int32} {a2 : Int32} {a3 : Int32} {a4 : Int32} {a5 : Int32} {r : Int32} {hr : xH} {C : xCx} (hF : xF C cX7_copy RX7 7 2 γ xSM (some (.int r)) hr l (some .int)) : ∀ (n : Nat) (v6 : Int32) (h : xH), f_X7_copy_c113 a1 a2 a3 a4 a5 n v6 h = some (r, hr) → xB C h 113 [some (.ref (γ.2.2.2 0)), some (.int a1), some (.int a2), some (.int a3), some (.int a4), some (.int a5), some (.int v6)] [] := by
  intro n
  induction n with
  | zero => intro v6 h e; cases e
  | succ n ih =>
    intro v6 h e
    rw [f_X7_copy_c113] at e
    refine xB_iload hF dX7_copy_113 rfl ?_
    refine xB_iload hF dX7_copy_115 rfl ?_
    refine xB_icmp_ge (tgt := 147) hF dX7_copy_117 rfl e (fun _ e => ?_) (fun _ e => ?_)
    · refine xB_iconst hF dX7_copy_147 ki_0 ?_
      refine xB_istore (L' := [_, _, _, _, _, _, _]) hF dX7_copy_148 rfl rfl rfl ?_
      exact xB_l (t_X7_copy_c150 hF _ _ _ e) (And.intro rfl (And.intro rfl (And.intro rfl (And.intro rfl (And.intro rfl (And.intro rfl (And.intro rfl (True.intro))))))))
    · refine xB_aload_n hF dX7_copy_120 rfl ?_
      refine xB_get hF dX7_copy_121 fl_X7_58 sM_0 rfl rfl ?_
      refine xB_iload hF dX7_copy_124 rfl ?_
      refine xB_aload_n hF dX7_copy_126 rfl ?_
      refine xB_get hF dX7_copy_127 fl_X7_25 sM_0 rfl rfl ?_
      refine xB_bipush hF dX7_copy_130 kb_24 ?_
      refine xB_iload_n hF dX7_copy_132 rfl ?_
      refine xB_imul hF dX7_copy_133 ?_
      refine xB_iload_n hF dX7_copy_134 rfl ?_
      refine xB_iadd hF dX7_copy_135 ?_
      refine xB_iload hF dX7_copy_136 rfl ?_
      refine xB_iadd hF dX7_copy_138 ?_
      refine xB_iald hF dX7_copy_139 sM_6 e (fun e => ?_)
      refine xB_iast hF dX7_copy_140 sM_17 e (fun e => ?_)
      refine xB_gen e (fun h1 e => ?_)
      refine xB_iinc (L' := [_, _, _, _, _, _, _]) hF dX7_copy_141 rfl ki_1 rfl rfl rfl ?_
      refine xB_goto (tgt := 113) hF dX7_copy_144 rfl ?_
      exact xB_l (ih _ _ e) (And.intro rfl (And.intro rfl (And.intro rfl (And.intro rfl (And.intro rfl (And.intro rfl (And.intro rfl (True.intro))))))))
def f_X7_copy (a1 : Int32) (a2 : Int32) (a3 : Int32) (a4 : Int32) (a5 : Int32) (h : xH) : Option (Int32 × xH) :=
    bn (f_X7_isSheet a1 h) fun r1 h2 => if r1 = 0 then (some ((-1000000001), h2)) else (bn (f_X7_isSheet a3 h2) fun r4 h5 => if r4 = 0 then (some ((-1000000001), h5)) else (gd a1 4 <| if (h5 4 (Int32.toNatClampNeg a1)) < 0 then (some ((-1000000011), h5)) else (gd a3 4 <| if 0 ≤ (h5 4 (Int32.toNatClampNeg a3)) then (gd a1 4 <| gd a3 4 <| if (h5 4 (Int32.toNatClampNeg a1)) = (h5 4 (Int32.toNatClampNeg a3)) then (if a2 < 0 then (some ((-1000000013), h5)) else (if a4 < 0 then (some ((-1000000013), h5)) else (if a5 < 0 then (some ((-1000000013), h5)) else (gd a1 4 <| if 0 < (lg_cmp ((Int32.toInt64 a2) + (Int32.toInt64 a5)) (Int32.toInt64 (h5 5 (Int32.toNatClampNeg a1)))) then (some ((-1000000013), h5)) else (gd a3 4 <| if (lg_cmp ((Int32.toInt64 a4) + (Int32.toInt64 a5)) (Int32.toInt64 (h5 5 (Int32.toNatClampNeg a3)))) ≤ 0 then (f_X7_copy_c113 a1 a2 a3 a4 a5 xN 0 h5) else (some ((-1000000013), h5))))))) else (some ((-1000000012), h5))) else (some ((-1000000011), h5)))))
set_option maxRecDepth 20000 in
set_option maxHeartbeats 2000000 in
theorem t_X7_copy {l : Launch} {γ : xG} {a1 : Int32} {a2 : Int32} {a3 : Int32} {a4 : Int32} {a5 : Int32} {h : xH} {r : Int32} {hr : xH} (e : f_X7_copy a1 a2 a3 a4 a5 h = some (r, hr)) : xCT l γ xSM yX7_copy cX7_copy 7 (some .int) 2 [.ref (γ.2.2.2 0), .int a1, .int a2, .int a3, .int a4, .int a5] h (some (.int r)) hr := by
  refine xCT.of (own := RX7) (L := [some (.ref (γ.2.2.2 0)), some (.int a1), some (.int a2), some (.int a3), some (.int a4), some (.int a5), none]) (by decide) rfl rfl rfl (fun C hF => ?_)
  unfold f_X7_copy at e
  refine xB_iload_n hF dX7_copy_0 rfl ?_
  obtain ⟨r1, h2, e3, e⟩ := bn_of e
  refine xB_callSi hF dX7_copy_1 (t_X7_isSheet e3) cw_X7_316 rfl rfl rfl rfl ?_
  refine xB_if_eq (tgt := 14) hF dX7_copy_4 rfl e (fun _ e => ?_) (fun _ e => ?_)
  · refine xB_ldc hF dX7_copy_14 kc_X7_87 ?_
    exact xB_ireturn hF dX7_copy_16 e
  · refine xB_iload_n hF dX7_copy_7 rfl ?_
    obtain ⟨r4, h5, e6, e⟩ := bn_of e
    refine xB_callSi hF dX7_copy_8 (t_X7_isSheet e6) cw_X7_316 rfl rfl rfl rfl ?_
    refine xB_if_ne (tgt := 17) hF dX7_copy_11 rfl e (fun _ e => ?_) (fun _ e => ?_)
    · refine xB_ldc hF dX7_copy_14 kc_X7_87 ?_
      exact xB_ireturn hF dX7_copy_16 e
    · refine xB_aload_n hF dX7_copy_17 rfl ?_
      refine xB_get hF dX7_copy_18 fl_X7_19 sM_0 rfl rfl ?_
      refine xB_iload_n hF dX7_copy_21 rfl ?_
      refine xB_iald hF dX7_copy_22 sM_4 e (fun e => ?_)
      refine xB_if_lt (tgt := 35) hF dX7_copy_23 rfl e (fun _ e => ?_) (fun _ e => ?_)
      · refine xB_ldcw hF dX7_copy_35 kc_X7_322 ?_
        exact xB_ireturn hF dX7_copy_38 e
      · refine xB_aload_n hF dX7_copy_26 rfl ?_
        refine xB_get hF dX7_copy_27 fl_X7_19 sM_0 rfl rfl ?_
        refine xB_iload_n hF dX7_copy_30 rfl ?_
        refine xB_iald hF dX7_copy_31 sM_4 e (fun e => ?_)
        refine xB_if_ge (tgt := 39) hF dX7_copy_32 rfl e (fun _ e => ?_) (fun _ e => ?_)
        · refine xB_aload_n hF dX7_copy_39 rfl ?_
          refine xB_get hF dX7_copy_40 fl_X7_19 sM_0 rfl rfl ?_
          refine xB_iload_n hF dX7_copy_43 rfl ?_
          refine xB_iald hF dX7_copy_44 sM_4 e (fun e => ?_)
          refine xB_aload_n hF dX7_copy_45 rfl ?_
          refine xB_get hF dX7_copy_46 fl_X7_19 sM_0 rfl rfl ?_
          refine xB_iload_n hF dX7_copy_49 rfl ?_
          refine xB_iald hF dX7_copy_50 sM_4 e (fun e => ?_)
          refine xB_icmp_eq (tgt := 57) hF dX7_copy_51 rfl e (fun _ e => ?_) (fun _ e => ?_)
          · refine xB_iload_n hF dX7_copy_57 rfl ?_
            refine xB_if_lt (tgt := 106) hF dX7_copy_58 rfl e (fun _ e => ?_) (fun _ e => ?_)
            · refine xB_ldcw hF dX7_copy_106 kc_X7_323 ?_
              exact xB_ireturn hF dX7_copy_109 e
            · refine xB_iload hF dX7_copy_61 rfl ?_
              refine xB_if_lt (tgt := 106) hF dX7_copy_63 rfl e (fun _ e => ?_) (fun _ e => ?_)
              · refine xB_ldcw hF dX7_copy_106 kc_X7_323 ?_
                exact xB_ireturn hF dX7_copy_109 e
              · refine xB_iload hF dX7_copy_66 rfl ?_
                refine xB_if_lt (tgt := 106) hF dX7_copy_68 rfl e (fun _ e => ?_) (fun _ e => ?_)
                · refine xB_ldcw hF dX7_copy_106 kc_X7_323 ?_
                  exact xB_ireturn hF dX7_copy_109 e
                · refine xB_iload_n hF dX7_copy_71 rfl ?_
                  refine xB_i2l hF dX7_copy_72 ?_
                  refine xB_iload hF dX7_copy_73 rfl ?_
                  refine xB_i2l hF dX7_copy_75 ?_
                  refine xB_ladd hF dX7_copy_76 ?_
                  refine xB_aload_n hF dX7_copy_77 rfl ?_
                  refine xB_get hF dX7_copy_78 fl_X7_22 sM_0 rfl rfl ?_
                  refine xB_iload_n hF dX7_copy_81 rfl ?_
                  refine xB_iald hF dX7_copy_82 sM_5 e (fun e => ?_)
                  refine xB_i2l hF dX7_copy_83 ?_
                  refine xB_lcmp hF dX7_copy_84 ?_
                  refine xB_if_gt (tgt := 106) hF dX7_copy_85 rfl e (fun _ e => ?_) (fun _ e => ?_)
                  · refine xB_ldcw hF dX7_copy_106 kc_X7_323 ?_
                    exact xB_ireturn hF dX7_copy_109 e
                  · refine xB_iload hF dX7_copy_88 rfl ?_
                    refine xB_i2l hF dX7_copy_90 ?_
                    refine xB_iload hF dX7_copy_91 rfl ?_
                    refine xB_i2l hF dX7_copy_93 ?_
                    refine xB_ladd hF dX7_copy_94 ?_
                    refine xB_aload_n hF dX7_copy_95 rfl ?_
                    refine xB_get hF dX7_copy_96 fl_X7_22 sM_0 rfl rfl ?_
                    refine xB_iload_n hF dX7_copy_99 rfl ?_
                    refine xB_iald hF dX7_copy_100 sM_5 e (fun e => ?_)
                    refine xB_i2l hF dX7_copy_101 ?_
                    refine xB_lcmp hF dX7_copy_102 ?_
                    refine xB_if_le (tgt := 110) hF dX7_copy_103 rfl e (fun _ e => ?_) (fun _ e => ?_)
                    · refine xB_iconst hF dX7_copy_110 ki_0 ?_
                      refine xB_istore (L' := [_, _, _, _, _, _, _]) hF dX7_copy_111 rfl rfl rfl ?_
                      exact xB_l (t_X7_copy_c113 hF _ _ _ e) (And.intro rfl (And.intro rfl (And.intro rfl (And.intro rfl (And.intro rfl (And.intro rfl (And.intro rfl (True.intro))))))))
                    · refine xB_ldcw hF dX7_copy_106 kc_X7_323 ?_
                      exact xB_ireturn hF dX7_copy_109 e
          · refine xB_ldc hF dX7_copy_54 kc_X7_129 ?_
            exact xB_ireturn hF dX7_copy_56 e
        · refine xB_ldcw hF dX7_copy_35 kc_X7_322 ?_
          exact xB_ireturn hF dX7_copy_38 e
