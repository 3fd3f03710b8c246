def f_X5_become (w : Nat) (a1 : Nat) (h : xH) : Option (Int32 × xH) :=
    gc 0 0 10 10 10 <| nm (xpt h (w + 1) (va_cpy (h (a1 + 1)) (h (w + 1)) (Int32.toNatClampNeg 0) (Int32.toNatClampNeg 0) (Int32.toNatClampNeg 10))) fun h1 => gc 0 0 10 10 10 <| nm (xpt h1 (w + 2) (va_cpy (h1 (a1 + 2)) (h1 (w + 2)) (Int32.toNatClampNeg 0) (Int32.toNatClampNeg 0) (Int32.toNatClampNeg 10))) fun h2 => gc 0 0 10 10 10 <| nm (xpt h2 (w + 3) (va_cpy (h2 (a1 + 3)) (h2 (w + 3)) (Int32.toNatClampNeg 0) (Int32.toNatClampNeg 0) (Int32.toNatClampNeg 10))) fun h3 => gc 0 0 10 10 10 <| nm (xpt h3 (w + 4) (va_cpy (h3 (a1 + 4)) (h3 (w + 4)) (Int32.toNatClampNeg 0) (Int32.toNatClampNeg 0) (Int32.toNatClampNeg 10))) fun h4 => gc 0 0 10 10 10 <| nm (xpt h4 (w + 5) (va_cpy (h4 (a1 + 5)) (h4 (w + 5)) (Int32.toNatClampNeg 0) (Int32.toNatClampNeg 0) (Int32.toNatClampNeg 10))) fun h5 => gc 0 0 10 10 10 <| nm (xpt h5 (w + 6) (va_cpy (h5 (a1 + 6)) (h5 (w + 6)) (Int32.toNatClampNeg 0) (Int32.toNatClampNeg 0) (Int32.toNatClampNeg 10))) fun h6 => gc 0 0 6 6 6 <| nm (xpt h6 (w + 7) (va_cpy (h6 (a1 + 7)) (h6 (w + 7)) (Int32.toNatClampNeg 0) (Int32.toNatClampNeg 0) (Int32.toNatClampNeg 6))) fun h7 => gc 0 0 6 6 6 <| nm (xpt h7 (w + 8) (va_cpy (h7 (a1 + 8)) (h7 (w + 8)) (Int32.toNatClampNeg 0) (Int32.toNatClampNeg 0) (Int32.toNatClampNeg 6))) fun h8 => gc 0 0 3 3 3 <| nm (xpt h8 (w + 9) (va_cpy (h8 (a1 + 9)) (h8 (w + 9)) (Int32.toNatClampNeg 0) (Int32.toNatClampNeg 0) (Int32.toNatClampNeg 3))) fun h9 => nm (xst h9 w 10 (h9 a1 10)) fun h10 => nm (xst h10 w 11 (h10 a1 11)) fun h11 => nm (xst h11 w 12 (h11 a1 12)) fun h12 => nm (xst h12 w 13 (h12 a1 13)) fun h13 => nm (xst h13 w 14 (h13 a1 14)) fun h14 => nm (xst h14 w 15 (h14 a1 15)) fun h15 => some (0, h15)
set_option maxRecDepth 20000 in
set_option maxHeartbeats 2000000 in
theorem t_X5_become {l : Launch} {γ : xG} {w : Nat} {a1 : Nat} {h : xH} {r : Int32} {hr : xH} (hw : isX5 w) (ha1 : isX5 a1) (e : f_X5_become w a1 h = some (r, hr)) : xCT l γ xSC yX5_become cX5_become 2 none 1 [.ref (γ.2.2.2 w), .ref (γ.2.2.2 a1)] h none hr := by
  refine xCT.of (own := RX5) (L := [some (.ref (γ.2.2.2 w)), some (.ref (γ.2.2.2 a1))]) (by decide) rfl rfl rfl (fun C hF => ?_)
  unfold f_X5_become at e
  refine xB_aload_n hF dX5_become_0 rfl ?_
  refine xB_get hF dX5_become_1 fl_X5_9 ha1.1 rfl rfl ?_
  refine xB_iconst hF dX5_become_4 ki_0 ?_
  refine xB_aload_n hF dX5_become_5 rfl ?_
  refine xB_get hF dX5_become_6 fl_X5_9 hw.1 rfl rfl ?_
  refine xB_iconst hF dX5_become_9 ki_0 ?_
  refine xB_bipush hF dX5_become_10 kb_10 ?_
  refine xB_copy hF dX5_become_12 cl_X5_47 cw_copy ha1.2.1 hw.2.1 rfl rfl e (fun e => ?_)
  refine xB_gen e (fun h1 e => ?_)
  refine xB_aload_n hF dX5_become_15 rfl ?_
  refine xB_get hF dX5_become_16 fl_X5_15 ha1.1 rfl rfl ?_
  refine xB_iconst hF dX5_become_19 ki_0 ?_
  refine xB_aload_n hF dX5_become_20 rfl ?_
  refine xB_get hF dX5_become_21 fl_X5_15 hw.1 rfl rfl ?_
  refine xB_iconst hF dX5_become_24 ki_0 ?_
  refine xB_bipush hF dX5_become_25 kb_10 ?_
  refine xB_copy hF dX5_become_27 cl_X5_47 cw_copy ha1.2.2.1 hw.2.2.1 rfl rfl e (fun e => ?_)
  refine xB_gen e (fun h2 e => ?_)
  refine xB_aload_n hF dX5_become_30 rfl ?_
  refine xB_get hF dX5_become_31 fl_X5_18 ha1.1 rfl rfl ?_
  refine xB_iconst hF dX5_become_34 ki_0 ?_
  refine xB_aload_n hF dX5_become_35 rfl ?_
  refine xB_get hF dX5_become_36 fl_X5_18 hw.1 rfl rfl ?_
  refine xB_iconst hF dX5_become_39 ki_0 ?_
  refine xB_bipush hF dX5_become_40 kb_10 ?_
  refine xB_copy hF dX5_become_42 cl_X5_47 cw_copy ha1.2.2.2.1 hw.2.2.2.1 rfl rfl e (fun e => ?_)
  refine xB_gen e (fun h3 e => ?_)
  refine xB_aload_n hF dX5_become_45 rfl ?_
  refine xB_get hF dX5_become_46 fl_X5_21 ha1.1 rfl rfl ?_
  refine xB_iconst hF dX5_become_49 ki_0 ?_
  refine xB_aload_n hF dX5_become_50 rfl ?_
  refine xB_get hF dX5_become_51 fl_X5_21 hw.1 rfl rfl ?_
  refine xB_iconst hF dX5_become_54 ki_0 ?_
  refine xB_bipush hF dX5_become_55 kb_10 ?_
  refine xB_copy hF dX5_become_57 cl_X5_47 cw_copy ha1.2.2.2.2.1 hw.2.2.2.2.1 rfl rfl e (fun e => ?_)
  refine xB_gen e (fun h4 e => ?_)
  refine xB_aload_n hF dX5_become_60 rfl ?_
  refine xB_get hF dX5_become_61 fl_X5_24 ha1.1 rfl rfl ?_
  refine xB_iconst hF dX5_become_64 ki_0 ?_
  refine xB_aload_n hF dX5_become_65 rfl ?_
  refine xB_get hF dX5_become_66 fl_X5_24 hw.1 rfl rfl ?_
  refine xB_iconst hF dX5_become_69 ki_0 ?_
  refine xB_bipush hF dX5_become_70 kb_10 ?_
  refine xB_copy hF dX5_become_72 cl_X5_47 cw_copy ha1.2.2.2.2.2.1 hw.2.2.2.2.2.1 rfl rfl e (fun e => ?_)
  refine xB_gen e (fun h5 e => ?_)
  refine xB_aload_n hF dX5_become_75 rfl ?_
  refine xB_get hF dX5_become_76 fl_X5_27 ha1.1 rfl rfl ?_
  refine xB_iconst hF dX5_become_79 ki_0 ?_
  refine xB_aload_n hF dX5_become_80 rfl ?_
  refine xB_get hF dX5_become_81 fl_X5_27 hw.1 rfl rfl ?_
  refine xB_iconst hF dX5_become_84 ki_0 ?_
  refine xB_bipush hF dX5_become_85 kb_10 ?_
  refine xB_copy hF dX5_become_87 cl_X5_47 cw_copy ha1.2.2.2.2.2.2.1 hw.2.2.2.2.2.2.1 rfl rfl e (fun e => ?_)
  refine xB_gen e (fun h6 e => ?_)
  refine xB_aload_n hF dX5_become_90 rfl ?_
  refine xB_get hF dX5_become_91 fl_X5_30 ha1.1 rfl rfl ?_
  refine xB_iconst hF dX5_become_94 ki_0 ?_
  refine xB_aload_n hF dX5_become_95 rfl ?_
  refine xB_get hF dX5_become_96 fl_X5_30 hw.1 rfl rfl ?_
  refine xB_iconst hF dX5_become_99 ki_0 ?_
  refine xB_bipush hF dX5_become_100 kb_6 ?_
  refine xB_copy hF dX5_become_102 cl_X5_47 cw_copy ha1.2.2.2.2.2.2.2.1 hw.2.2.2.2.2.2.2.1 rfl rfl e (fun e => ?_)
  refine xB_gen e (fun h7 e => ?_)
  refine xB_aload_n hF dX5_become_105 rfl ?_
  refine xB_get hF dX5_become_106 fl_X5_33 ha1.1 rfl rfl ?_
  refine xB_iconst hF dX5_become_109 ki_0 ?_
  refine xB_aload_n hF dX5_become_110 rfl ?_
  refine xB_get hF dX5_become_111 fl_X5_33 hw.1 rfl rfl ?_
  refine xB_iconst hF dX5_become_114 ki_0 ?_
  refine xB_bipush hF dX5_become_115 kb_6 ?_
  refine xB_copy hF dX5_become_117 cl_X5_47 cw_copy ha1.2.2.2.2.2.2.2.2.1 hw.2.2.2.2.2.2.2.2.1 rfl rfl e (fun e => ?_)
  refine xB_gen e (fun h8 e => ?_)
  refine xB_aload_n hF dX5_become_120 rfl ?_
  refine xB_get hF dX5_become_121 fl_X5_36 ha1.1 rfl rfl ?_
  refine xB_iconst hF dX5_become_124 ki_0 ?_
  refine xB_aload_n hF dX5_become_125 rfl ?_
  refine xB_get hF dX5_become_126 fl_X5_36 hw.1 rfl rfl ?_
  refine xB_iconst hF dX5_become_129 ki_0 ?_
  refine xB_iconst hF dX5_become_130 ki_3 ?_
  refine xB_copy hF dX5_become_131 cl_X5_47 cw_copy ha1.2.2.2.2.2.2.2.2.2 hw.2.2.2.2.2.2.2.2.2 rfl rfl e (fun e => ?_)
  refine xB_gen e (fun h9 e => ?_)
  refine xB_aload_n hF dX5_become_134 rfl ?_
  refine xB_aload_n hF dX5_become_135 rfl ?_
  refine xB_get hF dX5_become_136 fl_X5_53 ha1.1 rfl rfl ?_
  refine xB_put hF dX5_become_139 fp_X5_53 hw.1 rfl rfl rfl rfl rfl ?_
  refine xB_gen e (fun h10 e => ?_)
  refine xB_aload_n hF dX5_become_142 rfl ?_
  refine xB_aload_n hF dX5_become_143 rfl ?_
  refine xB_get hF dX5_become_144 fl_X5_56 ha1.1 rfl rfl ?_
  refine xB_put hF dX5_become_147 fp_X5_56 hw.1 rfl rfl rfl rfl rfl ?_
  refine xB_gen e (fun h11 e => ?_)
  refine xB_aload_n hF dX5_become_150 rfl ?_
  refine xB_aload_n hF dX5_become_151 rfl ?_
  refine xB_get hF dX5_become_152 fl_X5_59 ha1.1 rfl rfl ?_
  refine xB_put hF dX5_become_155 fp_X5_59 hw.1 rfl rfl rfl rfl rfl ?_
  refine xB_gen e (fun h12 e => ?_)
  refine xB_aload_n hF dX5_become_158 rfl ?_
  refine xB_aload_n hF dX5_become_159 rfl ?_
  refine xB_get hF dX5_become_160 fl_X5_62 ha1.1 rfl rfl ?_
  refine xB_put hF dX5_become_163 fp_X5_62 hw.1 rfl rfl rfl rfl rfl ?_
  refine xB_gen e (fun h13 e => ?_)
  refine xB_aload_n hF dX5_become_166 rfl ?_
  refine xB_aload_n hF dX5_become_167 rfl ?_
  refine xB_get hF dX5_become_168 fl_X5_65 ha1.1 rfl rfl ?_
  refine xB_put hF dX5_become_171 fp_X5_65 hw.1 rfl rfl rfl rfl rfl ?_
  refine xB_gen e (fun h14 e => ?_)
  refine xB_aload_n hF dX5_become_174 rfl ?_
  refine xB_aload_n hF dX5_become_175 rfl ?_
  refine xB_get hF dX5_become_176 fl_X5_43 ha1.1 rfl rfl ?_
  refine xB_put hF dX5_become_179 fp_X5_43 hw.1 rfl rfl rfl rfl rfl ?_
  refine xB_gen e (fun h15 e => ?_)
  exact xB_vreturn hF dX5_become_182 e
def f_X6_emptied_c88 (k23 : Int32 → xH → Option (Int32 × xH)) (a1 : Int32) (v2 : Int32) (h : xH) : Option (Int32 × xH) :=
    k23 (v2 + 1) h
set_option maxRecDepth 20000 in
set_option maxHeartbeats 2000000 in
theorem t_X6_emptied_c88 {l : Launch} {γ : xG} {k23 : Int32 → xH → Option (Int32 × xH)} {a1 : Int32} {r : Int32} {hr : xH} {C : xCx} (hF : xF C cX6_emptied RX6 5 4 γ xSC (some (.int r)) hr l (some .int)) (hk23 : ∀ (v2 : Int32) (h : xH), k23 v2 h = some (r, hr) → xB C h 23 [some (.ref (γ.2.2.2 0)), some (.int a1), some (.int v2), none, none] []) : ∀ (v2 : Int32) (h : xH), f_X6_emptied_c88 k23 a1 v2 h = some (r, hr) → xB C h 88 [some (.ref (γ.2.2.2 0)), some (.int a1), some (.int v2), none, none] [] := by
  intro v2 h e
  unfold f_X6_emptied_c88 at e
  refine xB_iinc (L' := [_, _, _, _, _]) hF dX6_emptied_88 rfl ki_1 rfl rfl rfl ?_
  refine xB_goto (tgt := 23) hF dX6_emptied_91 rfl ?_
  exact xB_l (hk23 _ _ e) (And.intro rfl (And.intro rfl (And.intro rfl (True.intro))))
def f_X6_emptied_c23 (a1 : Int32) : Nat → Int32 → xH → Option (Int32 × xH)
  | 0, _, _ => none
  | n + 1, v2, h =>
    if (h 24 10) ≤ v2 then (gd a1 6 <| gd a1 6 <| some ((h 51 (Int32.toNatClampNeg a1)) - (h 31 (Int32.toNatClampNeg a1)), h)) else (gd v2 10 <| if (h 29 (Int32.toNatClampNeg v2)) = a1 then (bn (f_X5_valueOf 44 v2 h) fun r1 h2 => bn (f_X5_bestBidder 44 v2 r1 h2) fun r4 h5 => bn (f_X5_bidOf 44 r4 v2 r1 h5) fun r7 h8 => bn (f_X5_sell 44 v2 r4 r7 h8) fun r10 h11 => f_X6_emptied_c88 (f_X6_emptied_c23 a1 n) a1 v2 h11) else (f_X6_emptied_c88 (f_X6_emptied_c23 a1 n) a1 v2 h))
set_option maxRecDepth 20000 in
set_option maxHeartbeats 2000000 in
theorem t_X6_emptied_c23 {l : Launch} {γ : xG} {a1 : Int32} {r : Int32} {hr : xH} {C : xCx} (hF : xF C cX6_emptied RX6 5 4 γ xSC (some (.int r)) hr l (some .int)) : ∀ (n : Nat) (v2 : Int32) (h : xH), f_X6_emptied_c23 a1 n v2 h = some (r, hr) → xB C h 23 [some (.ref (γ.2.2.2 0)), some (.int a1), some (.int v2), none, none] [] := by
  intro n
  induction n with
  | zero => intro v2 h e; cases e
  | succ n ih =>
    intro v2 h e
    rw [f_X6_emptied_c23] at e
    refine xB_iload_n hF dX6_emptied_23 rfl ?_
    refine xB_aload_n hF dX6_emptied_24 rfl ?_
    refine xB_get hF dX6_emptied_25 fl_X6_28 sC_0 rfl rfl ?_
    refine xB_get hF dX6_emptied_28 fl_X6_86 isX5_24.1 rfl rfl ?_
    refine xB_icmp_ge (tgt := 94) hF dX6_emptied_31 rfl e (fun _ e => ?_) (fun _ e => ?_)
    · refine xB_aload_n hF dX6_emptied_94 rfl ?_
      refine xB_get hF dX6_emptied_95 fl_X6_35 sC_0 rfl rfl ?_
      refine xB_get hF dX6_emptied_98 fl_X6_132 isX5_44.1 rfl rfl ?_
      refine xB_iload_n hF dX6_emptied_101 rfl ?_
      refine xB_iald hF dX6_emptied_102 sC_51 e (fun e => ?_)
      refine xB_aload_n hF dX6_emptied_103 rfl ?_
      refine xB_get hF dX6_emptied_104 fl_X6_28 sC_0 rfl rfl ?_
      refine xB_get hF dX6_emptied_107 fl_X6_132 isX5_24.1 rfl rfl ?_
      refine xB_iload_n hF dX6_emptied_110 rfl ?_
      refine xB_iald hF dX6_emptied_111 sC_31 e (fun e => ?_)
      refine xB_isub hF dX6_emptied_112 ?_
      exact xB_ireturn hF dX6_emptied_113 e
    · refine xB_aload_n hF dX6_emptied_34 rfl ?_
      refine xB_get hF dX6_emptied_35 fl_X6_28 sC_0 rfl rfl ?_
      refine xB_get hF dX6_emptied_38 fl_X6_109 isX5_24.1 rfl rfl ?_
      refine xB_iload_n hF dX6_emptied_41 rfl ?_
      refine xB_iald hF dX6_emptied_42 sC_29 e (fun e => ?_)
      refine xB_iload_n hF dX6_emptied_43 rfl ?_
      refine xB_icmp_ne (tgt := 88) hF dX6_emptied_44 rfl e (fun _ e => ?_) (fun _ e => ?_)
      · refine xB_aload_n hF dX6_emptied_47 rfl ?_
        refine xB_get hF dX6_emptied_48 fl_X6_35 sC_0 rfl rfl ?_
        refine xB_iload_n hF dX6_emptied_51 rfl ?_
        obtain ⟨r1, h2, e3, e⟩ := bn_of e
        refine xB_callVi hF dX6_emptied_52 (t_X5_valueOf isX5_44 e3) cw_X6_115 isX5_44.1 rfl rfl rfl rfl rfl ?_
        refine xB_istore_n (L' := [_, _, _, _, _]) hF dX6_emptied_55 rfl rfl rfl ?_
        refine xB_aload_n hF dX6_emptied_56 rfl ?_
        refine xB_get hF dX6_emptied_57 fl_X6_35 sC_0 rfl rfl ?_
        refine xB_iload_n hF dX6_emptied_60 rfl ?_
        refine xB_iload_n hF dX6_emptied_61 rfl ?_
        obtain ⟨r4, h5, e6, e⟩ := bn_of e
        refine xB_callVi hF dX6_emptied_62 (t_X5_bestBidder isX5_44 e6) cw_X6_209 isX5_44.1 rfl rfl rfl rfl rfl ?_
        refine xB_istore (L' := [_, _, _, _, _]) hF dX6_emptied_65 rfl rfl rfl ?_
        refine xB_aload_n hF dX6_emptied_67 rfl ?_
        refine xB_get hF dX6_emptied_68 fl_X6_35 sC_0 rfl rfl ?_
        refine xB_iload_n hF dX6_emptied_71 rfl ?_
        refine xB_iload hF dX6_emptied_72 rfl ?_
        refine xB_aload_n hF dX6_emptied_74 rfl ?_
        refine xB_get hF dX6_emptied_75 fl_X6_35 sC_0 rfl rfl ?_
        refine xB_iload hF dX6_emptied_78 rfl ?_
        refine xB_iload_n hF dX6_emptied_80 rfl ?_
        refine xB_iload_n hF dX6_emptied_81 rfl ?_
        obtain ⟨r7, h8, e9, e⟩ := bn_of e
        refine xB_callVi hF dX6_emptied_82 (t_X5_bidOf isX5_44 e9) cw_X6_141 isX5_44.1 rfl rfl rfl rfl rfl ?_
        obtain ⟨r10, h11, e12, e⟩ := bn_of e
        refine xB_callVv hF dX6_emptied_85 (t_X5_sell isX5_44 e12) cw_X6_157 isX5_44.1 rfl rfl rfl rfl rfl ?_
        exact xB_l (t_X6_emptied_c88 hF ih _ _ e) (And.intro rfl (And.intro rfl (And.intro rfl (True.intro))))
      · exact xB_l (t_X6_emptied_c88 hF ih _ _ e) (And.intro rfl (And.intro rfl (And.intro rfl (True.intro))))
def f_X6_emptied (a1 : Int32) (h : xH) : Option (Int32 × xH) :=
    bn (f_X6_isOne a1 h) fun r1 h2 => if r1 = 0 then (some ((-1000000001), h2)) else (bn (f_X5_become 44 24 h2) fun r4 h5 => f_X6_emptied_c23 a1 xN 0 h5)
set_option maxRecDepth 20000 in
set_option maxHeartbeats 2000000 in
theorem t_X6_emptied {l : Launch} {γ : xG} {a1 : Int32} {h : xH} {r : Int32} {hr : xH} (e : f_X6_emptied a1 h = some (r, hr)) : xCT l γ xSC yX6_emptied cX6_emptied 5 (some .int) 4 [.ref (γ.2.2.2 0), .int a1] h (some (.int r)) hr := by
  refine xCT.of (own := RX6) (L := [some (.ref (γ.2.2.2 0)), some (.int a1), none, none, none]) (by decide) rfl rfl rfl (fun C hF => ?_)
  unfold f_X6_emptied at e
  refine xB_iload_n hF dX6_emptied_0 rfl ?_
  obtain ⟨r1, h2, e3, e⟩ := bn_of e
  refine xB_callSi hF dX6_emptied_1 (t_X6_isOne e3) cw_X6_82 rfl rfl rfl rfl ?_
  refine xB_if_ne (tgt := 10) hF dX6_emptied_4 rfl e (fun _ e => ?_) (fun _ e => ?_)
  · refine xB_ldc hF dX6_emptied_7 kc_X6_85 ?_
    exact xB_ireturn hF dX6_emptied_9 e
  · refine xB_aload_n hF dX6_emptied_10 rfl ?_
    refine xB_get hF dX6_emptied_11 fl_X6_35 sC_0 rfl rfl ?_
    refine xB_aload_n hF dX6_emptied_14 rfl ?_
    refine xB_get hF dX6_emptied_15 fl_X6_28 sC_0 rfl rfl ?_
    obtain ⟨r4, h5, e6, e⟩ := bn_of e
    refine xB_callVv hF dX6_emptied_18 (t_X5_become isX5_44 isX5_24 e6) cw_X6_205 isX5_44.1 rfl rfl rfl rfl rfl ?_
    refine xB_iconst hF dX6_emptied_21 ki_0 ?_
    refine xB_istore_n (L' := [_, _, _, _, _]) hF dX6_emptied_22 rfl rfl rfl ?_
    exact xB_l (t_X6_emptied_c23 hF _ _ _ e) (And.intro rfl (And.intro rfl (And.intro rfl (True.intro))))
def f_X6_behind (a1 : Int32) (a2 : Int32) (a3 : Int32) (h : xH) : Option (Int32 × xH) :=
    bn (f_X6_isDay a1 h) fun r1 h2 => if r1 = 0 then (some ((-1000000001), h2)) else (bn (f_X6_within a2 0 100 h2) fun r4 h5 => if r4 = 0 then (some ((-1000000001), h5)) else (bn (f_X6_within a3 0 4 h5) fun r7 h8 => if r7 = 0 then (some ((-1000000001), h8)) else (bn (f_X5_become 44 24 h8) fun r10 h11 => bn (f_X5_goOn 44 a2 h11) fun r13 h14 => if a3 = 0 then (gd a1 10 <| some (h14 49 (Int32.toNatClampNeg a1), h14)) else (if a3 = 1 then (bn (f_X5_valueOf 44 a1 h14) fun r16 h17 => some (r16, h17)) else (if a3 = 2 then (bn (f_X5_allCoins 44 h14) fun r19 h20 => some (r19, h20)) else (if a3 = 3 then (some (h14 44 12, h14)) else (some (h14 44 13, h14))))))))
set_option maxRecDepth 20000 in
set_option maxHeartbeats 2000000 in
theorem t_X6_behind {l : Launch} {γ : xG} {a1 : Int32} {a2 : Int32} {a3 : Int32} {h : xH} {r : Int32} {hr : xH} (e : f_X6_behind a1 a2 a3 h = some (r, hr)) : xCT l γ xSC yX6_behind cX6_behind 4 (some .int) 6 [.ref (γ.2.2.2 0), .int a1, .int a2, .int a3] h (some (.int r)) hr := by
  refine xCT.of (own := RX6) (L := [some (.ref (γ.2.2.2 0)), some (.int a1), some (.int a2), some (.int a3)]) (by decide) rfl rfl rfl (fun C hF => ?_)
  unfold f_X6_behind at e
  refine xB_aload_n hF dX6_behind_0 rfl ?_
  refine xB_iload_n hF dX6_behind_1 rfl ?_
  obtain ⟨r1, h2, e3, e⟩ := bn_of e
  refine xB_callVi hF dX6_behind_2 (t_X6_isDay e3) cw_X6_94 sC_0 rfl rfl rfl rfl rfl ?_
  refine xB_if_eq (tgt := 27) hF dX6_behind_5 rfl e (fun _ e => ?_) (fun _ e => ?_)
  · refine xB_ldc hF dX6_behind_27 kc_X6_85 ?_
    exact xB_ireturn hF dX6_behind_29 e
  · refine xB_iload_n hF dX6_behind_8 rfl ?_
    refine xB_iconst hF dX6_behind_9 ki_0 ?_
    refine xB_bipush hF dX6_behind_10 kb_100 ?_
    obtain ⟨r4, h5, e6, e⟩ := bn_of e
    refine xB_callSi hF dX6_behind_12 (t_X6_within e6) cw_X6_78 rfl rfl rfl rfl ?_
    refine xB_if_eq (tgt := 27) hF dX6_behind_15 rfl e (fun _ e => ?_) (fun _ e => ?_)
    · refine xB_ldc hF dX6_behind_27 kc_X6_85 ?_
      exact xB_ireturn hF dX6_behind_29 e
    · refine xB_iload_n hF dX6_behind_18 rfl ?_
      refine xB_iconst hF dX6_behind_19 ki_0 ?_
      refine xB_iconst hF dX6_behind_20 ki_4 ?_
      obtain ⟨r7, h8, e9, e⟩ := bn_of e
      refine xB_callSi hF dX6_behind_21 (t_X6_within e9) cw_X6_78 rfl rfl rfl rfl ?_
      refine xB_if_ne (tgt := 30) hF dX6_behind_24 rfl e (fun _ e => ?_) (fun _ e => ?_)
      · refine xB_ldc hF dX6_behind_27 kc_X6_85 ?_
        exact xB_ireturn hF dX6_behind_29 e
      · refine xB_aload_n hF dX6_behind_30 rfl ?_
        refine xB_get hF dX6_behind_31 fl_X6_35 sC_0 rfl rfl ?_
        refine xB_aload_n hF dX6_behind_34 rfl ?_
        refine xB_get hF dX6_behind_35 fl_X6_28 sC_0 rfl rfl ?_
        obtain ⟨r10, h11, e12, e⟩ := bn_of e
        refine xB_callVv hF dX6_behind_38 (t_X5_become isX5_44 isX5_24 e12) cw_X6_205 isX5_44.1 rfl rfl rfl rfl rfl ?_
        refine xB_aload_n hF dX6_behind_41 rfl ?_
        refine xB_get hF dX6_behind_42 fl_X6_35 sC_0 rfl rfl ?_
        refine xB_iload_n hF dX6_behind_45 rfl ?_
        obtain ⟨r13, h14, e15, e⟩ := bn_of e
        refine xB_callVv hF dX6_behind_46 (t_X5_goOn isX5_44 e15) cw_X6_167 isX5_44.1 rfl rfl rfl rfl rfl ?_
        refine xB_iload_n hF dX6_behind_49 rfl ?_
        rcases if_of e with ⟨c0, e⟩ | ⟨c0, e⟩
        · refine xB_tableIn (v := (0)) (tgt := 80) hF dX6_behind_50 c0 (by decide) (by decide) rfl rfl ?_
          refine xB_aload_n hF dX6_behind_80 rfl ?_
          refine xB_get hF dX6_behind_81 fl_X6_35 sC_0 rfl rfl ?_
          refine xB_get hF dX6_behind_84 fl_X6_109 isX5_44.1 rfl rfl ?_
          refine xB_iload_n hF dX6_behind_87 rfl ?_
          refine xB_iald hF dX6_behind_88 sC_49 e (fun e => ?_)
          exact xB_ireturn hF dX6_behind_89 e
        rcases if_of e with ⟨c1, e⟩ | ⟨c1, e⟩
        · refine xB_tableIn (v := (1)) (tgt := 90) hF dX6_behind_50 c1 (by decide) (by decide) rfl rfl ?_
          refine xB_aload_n hF dX6_behind_90 rfl ?_
          refine xB_get hF dX6_behind_91 fl_X6_35 sC_0 rfl rfl ?_
          refine xB_iload_n hF dX6_behind_94 rfl ?_
          obtain ⟨r16, h17, e18, e⟩ := bn_of e
          refine xB_callVi hF dX6_behind_95 (t_X5_valueOf isX5_44 e18) cw_X6_115 isX5_44.1 rfl rfl rfl rfl rfl ?_
          exact xB_ireturn hF dX6_behind_98 e
        rcases if_of e with ⟨c2, e⟩ | ⟨c2, e⟩
        · refine xB_tableIn (v := (2)) (tgt := 99) hF dX6_behind_50 c2 (by decide) (by decide) rfl rfl ?_
          refine xB_aload_n hF dX6_behind_99 rfl ?_
          refine xB_get hF dX6_behind_100 fl_X6_35 sC_0 rfl rfl ?_
          obtain ⟨r19, h20, e21, e⟩ := bn_of e
          refine xB_callVi hF dX6_behind_103 (t_X5_allCoins isX5_44 e21) cw_X6_174 isX5_44.1 rfl rfl rfl rfl rfl ?_
          exact xB_ireturn hF dX6_behind_106 e
        rcases if_of e with ⟨c3, e⟩ | ⟨c3, e⟩
        · refine xB_tableIn (v := (3)) (tgt := 107) hF dX6_behind_50 c3 (by decide) (by decide) rfl rfl ?_
          refine xB_aload_n hF dX6_behind_107 rfl ?_
          refine xB_get hF dX6_behind_108 fl_X6_35 sC_0 rfl rfl ?_
          refine xB_get hF dX6_behind_111 fl_X6_161 isX5_44.1 rfl rfl ?_
          exact xB_ireturn hF dX6_behind_114 e
        refine xB_tableOut (tgt := 115) hF dX6_behind_50 (by have := xne (v := (0)) (n := 0) rfl c0; have := xne (v := (1)) (n := 1) rfl c1; have := xne (v := (2)) (n := 2) rfl c2; have := xne (v := (3)) (n := 3) rfl c3; omega) rfl ?_
        refine xB_aload_n hF dX6_behind_115 rfl ?_
        refine xB_get hF dX6_behind_116 fl_X6_35 sC_0 rfl rfl ?_
        refine xB_get hF dX6_behind_119 fl_X6_171 isX5_44.1 rfl rfl ?_
        exact xB_ireturn hF dX6_behind_122 e
def f_X6_richest_c78 (k46 : Int32 → Int32 → xH → Option (Int32 × xH)) (a1 : Int32) (a2 : Int32) (v3 : Int32) (v4 : Int32) (h : xH) : Option (Int32 × xH) :=
    k46 v3 (v4 + 1) h
set_option maxRecDepth 20000 in
set_option maxHeartbeats 2000000 in
theorem t_X6_richest_c78 {l : Launch} {γ : xG} {k46 : Int32 → Int32 → xH → Option (Int32 × xH)} {a1 : Int32} {a2 : Int32} {r : Int32} {hr : xH} {C : xCx} (hF : xF C cX6_richest RX6 5 6 γ xSC (some (.int r)) hr l (some .int)) (hk46 : ∀ (v3 : Int32) (v4 : Int32) (h : xH), k46 v3 v4 h = some (r, hr) → xB C h 46 [some (.ref (γ.2.2.2 0)), some (.int a1), some (.int a2), some (.int v3), some (.int v4)] []) : ∀ (v3 : Int32) (v4 : Int32) (h : xH), f_X6_richest_c78 k46 a1 a2 v3 v4 h = some (r, hr) → xB C h 78 [some (.ref (γ.2.2.2 0)), some (.int a1), some (.int a2), some (.int v3), some (.int v4)] [] := by
  intro v3 v4 h e
  unfold f_X6_richest_c78 at e
  refine xB_iinc (L' := [_, _, _, _, _]) hF dX6_richest_78 rfl ki_1 rfl rfl rfl ?_
  refine xB_goto (tgt := 46) hF dX6_richest_81 rfl ?_
  exact xB_l (hk46 _ _ _ e) (And.intro rfl (And.intro rfl (And.intro rfl (And.intro rfl (And.intro rfl (True.intro))))))
def f_X6_richest_c46 (a1 : Int32) (a2 : Int32) : Nat → Int32 → Int32 → xH → Option (Int32 × xH)
  | 0, _, _, _ => none
  | n + 1, v3, v4, h =>
    if 6 ≤ v4 then (if a2 = 0 then (some (v3, h)) else (gd v3 6 <| some (h 51 (Int32.toNatClampNeg v3), h))) else (gd v4 6 <| gd v3 6 <| if (h 51 (Int32.toNatClampNeg v4)) ≤ (h 51 (Int32.toNatClampNeg v3)) then (f_X6_richest_c78 (f_X6_richest_c46 a1 a2 n) a1 a2 v3 v4 h) else (f_X6_richest_c78 (f_X6_richest_c46 a1 a2 n) a1 a2 v4 v4 h))
set_option maxRecDepth 20000 in
set_option maxHeartbeats 2000000 in
theorem t_X6_richest_c46 {l : Launch} {γ : xG} {a1 : Int32} {a2 : Int32} {r : Int32} {hr : xH} {C : xCx} (hF : xF C cX6_richest RX6 5 6 γ xSC (some (.int r)) hr l (some .int)) : ∀ (n : Nat) (v3 : Int32) (v4 : Int32) (h : xH), f_X6_richest_c46 a1 a2 n v3 v4 h = some (r, hr) → xB C h 46 [some (.ref (γ.2.2.2 0)), some (.int a1), some (.int a2), some (.int v3), some (.int v4)] [] := by
  intro n
  induction n with
  | zero => intro v3 v4 h e; cases e
  | succ n ih =>
    intro v3 v4 h e
    rw [f_X6_richest_c46] at e
    refine xB_iload hF dX6_richest_46 rfl ?_
    refine xB_bipush hF dX6_richest_48 kb_6 ?_
    refine xB_icmp_ge (tgt := 84) hF dX6_richest_50 rfl e (fun _ e => ?_) (fun _ e => ?_)
    · refine xB_iload_n hF dX6_richest_84 rfl ?_
      refine xB_if_ne (tgt := 92) hF dX6_richest_85 rfl e (fun _ e => ?_) (fun _ e => ?_)
      · refine xB_iload_n hF dX6_richest_88 rfl ?_
        refine xB_goto (tgt := 101) hF dX6_richest_89 rfl ?_
        exact xB_ireturn hF dX6_richest_101 e
      · refine xB_aload_n hF dX6_richest_92 rfl ?_
        refine xB_get hF dX6_richest_93 fl_X6_35 sC_0 rfl rfl ?_
        refine xB_get hF dX6_richest_96 fl_X6_132 isX5_44.1 rfl rfl ?_
        refine xB_iload_n hF dX6_richest_99 rfl ?_
        refine xB_iald hF dX6_richest_100 sC_51 e (fun e => ?_)
        exact xB_ireturn hF dX6_richest_101 e
    · refine xB_aload_n hF dX6_richest_53 rfl ?_
      refine xB_get hF dX6_richest_54 fl_X6_35 sC_0 rfl rfl ?_
      refine xB_get hF dX6_richest_57 fl_X6_132 isX5_44.1 rfl rfl ?_
      refine xB_iload hF dX6_richest_60 rfl ?_
      refine xB_iald hF dX6_richest_62 sC_51 e (fun e => ?_)
      refine xB_aload_n hF dX6_richest_63 rfl ?_
      refine xB_get hF dX6_richest_64 fl_X6_35 sC_0 rfl rfl ?_
      refine xB_get hF dX6_richest_67 fl_X6_132 isX5_44.1 rfl rfl ?_
      refine xB_iload_n hF dX6_richest_70 rfl ?_
      refine xB_iald hF dX6_richest_71 sC_51 e (fun e => ?_)
      refine xB_icmp_le (tgt := 78) hF dX6_richest_72 rfl e (fun _ e => ?_) (fun _ e => ?_)
      · exact xB_l (t_X6_richest_c78 hF ih _ _ _ e) (And.intro rfl (And.intro rfl (And.intro rfl (And.intro rfl (And.intro rfl (True.intro))))))
      · refine xB_iload hF dX6_richest_75 rfl ?_
        refine xB_istore_n (L' := [_, _, _, _, _]) hF dX6_richest_77 rfl rfl rfl ?_
        exact xB_l (t_X6_richest_c78 hF ih _ _ _ e) (And.intro rfl (And.intro rfl (And.intro rfl (And.intro rfl (And.intro rfl (True.intro))))))
def f_X6_richest (a1 : Int32) (a2 : Int32) (h : xH) : Option (Int32 × xH) :=
    bn (f_X6_within a1 0 100 h) fun r1 h2 => if r1 = 0 then (some ((-1000000001), h2)) else (bn (f_X6_within a2 0 1 h2) fun r4 h5 => if r4 = 0 then (some ((-1000000001), h5)) else (bn (f_X5_become 44 24 h5) fun r7 h8 => bn (f_X5_goOn 44 a1 h8) fun r10 h11 => f_X6_richest_c46 a1 a2 xN 0 1 h11))
set_option maxRecDepth 20000 in
set_option maxHeartbeats 2000000 in
theorem t_X6_richest {l : Launch} {γ : xG} {a1 : Int32} {a2 : Int32} {h : xH} {r : Int32} {hr : xH} (e : f_X6_richest a1 a2 h = some (r, hr)) : xCT l γ xSC yX6_richest cX6_richest 5 (some .int) 6 [.ref (γ.2.2.2 0), .int a1, .int a2] h (some (.int r)) hr := by
  refine xCT.of (own := RX6) (L := [some (.ref (γ.2.2.2 0)), some (.int a1), some (.int a2), none, none]) (by decide) rfl rfl rfl (fun C hF => ?_)
  unfold f_X6_richest at e
  refine xB_iload_n hF dX6_richest_0 rfl ?_
  refine xB_iconst hF dX6_richest_1 ki_0 ?_
  refine xB_bipush hF dX6_richest_2 kb_100 ?_
  obtain ⟨r1, h2, e3, e⟩ := bn_of e
  refine xB_callSi hF dX6_richest_4 (t_X6_within e3) cw_X6_78 rfl rfl rfl rfl ?_
  refine xB_if_eq (tgt := 19) hF dX6_richest_7 rfl e (fun _ e => ?_) (fun _ e => ?_)
  · refine xB_ldc hF dX6_richest_19 kc_X6_85 ?_
    exact xB_ireturn hF dX6_richest_21 e
  · refine xB_iload_n hF dX6_richest_10 rfl ?_
    refine xB_iconst hF dX6_richest_11 ki_0 ?_
    refine xB_iconst hF dX6_richest_12 ki_1 ?_
    obtain ⟨r4, h5, e6, e⟩ := bn_of e
    refine xB_callSi hF dX6_richest_13 (t_X6_within e6) cw_X6_78 rfl rfl rfl rfl ?_
    refine xB_if_ne (tgt := 22) hF dX6_richest_16 rfl e (fun _ e => ?_) (fun _ e => ?_)
    · refine xB_ldc hF dX6_richest_19 kc_X6_85 ?_
      exact xB_ireturn hF dX6_richest_21 e
    · refine xB_aload_n hF dX6_richest_22 rfl ?_
      refine xB_get hF dX6_richest_23 fl_X6_35 sC_0 rfl rfl ?_
      refine xB_aload_n hF dX6_richest_26 rfl ?_
      refine xB_get hF dX6_richest_27 fl_X6_28 sC_0 rfl rfl ?_
      obtain ⟨r7, h8, e9, e⟩ := bn_of e
      refine xB_callVv hF dX6_richest_30 (t_X5_become isX5_44 isX5_24 e9) cw_X6_205 isX5_44.1 rfl rfl rfl rfl rfl ?_
      refine xB_aload_n hF dX6_richest_33 rfl ?_
      refine xB_get hF dX6_richest_34 fl_X6_35 sC_0 rfl rfl ?_
      refine xB_iload_n hF dX6_richest_37 rfl ?_
      obtain ⟨r10, h11, e12, e⟩ := bn_of e
      refine xB_callVv hF dX6_richest_38 (t_X5_goOn isX5_44 e12) cw_X6_167 isX5_44.1 rfl rfl rfl rfl rfl ?_
      refine xB_iconst hF dX6_richest_41 ki_0 ?_
      refine xB_istore_n (L' := [_, _, _, _, _]) hF dX6_richest_42 rfl rfl rfl ?_
      refine xB_iconst hF dX6_richest_43 ki_1 ?_
      refine xB_istore (L' := [_, _, _, _, _]) hF dX6_richest_44 rfl rfl rfl ?_
      exact xB_l (t_X6_richest_c46 hF _ _ _ _ e) (And.intro rfl (And.intro rfl (And.intro rfl (And.intro rfl (And.intro rfl (True.intro))))))
def f_X5_allValue_c4 (w : Nat) : Nat → Int32 → Int32 → xH → Option (Int32 × xH)
  | 0, _, _, _ => none
  | n + 1, v1, v2, h =>
    if (h w 10) ≤ v2 then (some (v1, h)) else (bn (f_X5_valueOf w v2 h) fun r1 h2 => f_X5_allValue_c4 w n (v1 + r1) (v2 + 1) h2)
set_option maxRecDepth 20000 in
set_option maxHeartbeats 2000000 in
theorem t_X5_allValue_c4 {l : Launch} {γ : xG} {w : Nat} {r : Int32} {hr : xH} {C : xCx} (hF : xF C cX5_allValue RX5 3 4 γ xSC (some (.int r)) hr l (some .int)) (hw : isX5 w) : ∀ (n : Nat) (v1 : Int32) (v2 : Int32) (h : xH), f_X5_allValue_c4 w n v1 v2 h = some (r, hr) → xB C h 4 [some (.ref (γ.2.2.2 w)), some (.int v1), some (.int v2)] [] := by
  intro n
  induction n with
  | zero => intro v1 v2 h e; cases e
  | succ n ih =>
    intro v1 v2 h e
    rw [f_X5_allValue_c4] at e
    refine xB_iload_n hF dX5_allValue_4 rfl ?_
    refine xB_aload_n hF dX5_allValue_5 rfl ?_
    refine xB_get hF dX5_allValue_6 fl_X5_53 hw.1 rfl rfl ?_
    refine xB_icmp_ge (tgt := 26) hF dX5_allValue_9 rfl e (fun _ e => ?_) (fun _ e => ?_)
    · refine xB_iload_n hF dX5_allValue_26 rfl ?_
      exact xB_ireturn hF dX5_allValue_27 e
    · refine xB_iload_n hF dX5_allValue_12 rfl ?_
      refine xB_aload_n hF dX5_allValue_13 rfl ?_
      refine xB_iload_n hF dX5_allValue_14 rfl ?_
      obtain ⟨r1, h2, e3, e⟩ := bn_of e
      refine xB_callVi hF dX5_allValue_15 (t_X5_valueOf hw e3) cw_X5_112 hw.1 rfl rfl rfl rfl rfl ?_
      refine xB_iadd hF dX5_allValue_18 ?_
      refine xB_istore_n (L' := [_, _, _]) hF dX5_allValue_19 rfl rfl rfl ?_
      refine xB_iinc (L' := [_, _, _]) hF dX5_allValue_20 rfl ki_1 rfl rfl rfl ?_
      refine xB_goto (tgt := 4) hF dX5_allValue_23 rfl ?_
      exact xB_l (ih _ _ _ e) (And.intro rfl (And.intro rfl (And.intro rfl (True.intro))))
def f_X5_allValue (w : Nat) (h : xH) : Option (Int32 × xH) :=
    f_X5_allValue_c4 w xN 0 0 h
set_option maxRecDepth 20000 in
set_option maxHeartbeats 2000000 in
theorem t_X5_allValue {l : Launch} {γ : xG} {w : Nat} {h : xH} {r : Int32} {hr : xH} (hw : isX5 w) (e : f_X5_allValue w h = some (r, hr)) : xCT l γ xSC yX5_allValue cX5_allValue 3 (some .int) 4 [.ref (γ.2.2.2 w)] h (some (.int r)) hr := by
  refine xCT.of (own := RX5) (L := [some (.ref (γ.2.2.2 w)), none, none]) (by decide) rfl rfl rfl (fun C hF => ?_)
  unfold f_X5_allValue at e
  refine xB_iconst hF dX5_allValue_0 ki_0 ?_
  refine xB_istore_n (L' := [_, _, _]) hF dX5_allValue_1 rfl rfl rfl ?_
  refine xB_iconst hF dX5_allValue_2 ki_0 ?_
  refine xB_istore_n (L' := [_, _, _]) hF dX5_allValue_3 rfl rfl rfl ?_
  exact xB_l (t_X5_allValue_c4 hF hw _ _ _ _ e) (And.intro rfl (And.intro rfl (And.intro rfl (True.intro))))
def f_X6_worn_c13 : Nat → Int32 → xH → Option (Int32 × xH)
  | 0, _, _ => none
  | n + 1, v1, h =>
    if 200 < v1 then (some ((-1000000005), h)) else (bn (f_X5_allValue 44 h) fun r1 h2 => if r1 = 0 then (some (v1, h2)) else (bn (f_X5_goOn 44 1 h2) fun r4 h5 => f_X6_worn_c13 n (v1 + 1) h5))
set_option maxRecDepth 20000 in
set_option maxHeartbeats 2000000 in
theorem t_X6_worn_c13 {l : Launch} {γ : xG} {r : Int32} {hr : xH} {C : xCx} (hF : xF C cX6_worn RX6 2 6 γ xSC (some (.int r)) hr l (some .int)) : ∀ (n : Nat) (v1 : Int32) (h : xH), f_X6_worn_c13 n v1 h = some (r, hr) → xB C h 13 [some (.ref (γ.2.2.2 0)), some (.int v1)] [] := by
  intro n
  induction n with
  | zero => intro v1 h e; cases e
  | succ n ih =>
    intro v1 h e
    rw [f_X6_worn_c13] at e
    refine xB_iload_n hF dX6_worn_13 rfl ?_
    refine xB_sipush hF dX6_worn_14 ks_200 ?_
    refine xB_icmp_gt (tgt := 46) hF dX6_worn_17 rfl e (fun _ e => ?_) (fun _ e => ?_)
    · refine xB_ldc hF dX6_worn_46 kc_X6_184 ?_
      exact xB_ireturn hF dX6_worn_48 e
    · refine xB_aload_n hF dX6_worn_20 rfl ?_
      refine xB_get hF dX6_worn_21 fl_X6_35 sC_0 rfl rfl ?_
      obtain ⟨r1, h2, e3, e⟩ := bn_of e
      refine xB_callVi hF dX6_worn_24 (t_X5_allValue isX5_44 e3) cw_X6_212 isX5_44.1 rfl rfl rfl rfl rfl ?_
      refine xB_if_ne (tgt := 32) hF dX6_worn_27 rfl e (fun _ e => ?_) (fun _ e => ?_)
      · refine xB_iload_n hF dX6_worn_30 rfl ?_
        exact xB_ireturn hF dX6_worn_31 e
      · refine xB_aload_n hF dX6_worn_32 rfl ?_
        refine xB_get hF dX6_worn_33 fl_X6_35 sC_0 rfl rfl ?_
        refine xB_iconst hF dX6_worn_36 ki_1 ?_
        obtain ⟨r4, h5, e6, e⟩ := bn_of e
        refine xB_callVv hF dX6_worn_37 (t_X5_goOn isX5_44 e6) cw_X6_167 isX5_44.1 rfl rfl rfl rfl rfl ?_
        refine xB_iinc (L' := [_, _]) hF dX6_worn_40 rfl ki_1 rfl rfl rfl ?_
        refine xB_goto (tgt := 13) hF dX6_worn_43 rfl ?_
        exact xB_l (ih _ _ e) (And.intro rfl (And.intro rfl (True.intro)))
def f_X6_worn (h : xH) : Option (Int32 × xH) :=
    bn (f_X5_become 44 24 h) fun r1 h2 => f_X6_worn_c13 xN 0 h2
set_option maxRecDepth 20000 in
set_option maxHeartbeats 2000000 in
theorem t_X6_worn {l : Launch} {γ : xG} {h : xH} {r : Int32} {hr : xH} (e : f_X6_worn h = some (r, hr)) : xCT l γ xSC yX6_worn cX6_worn 2 (some .int) 6 [.ref (γ.2.2.2 0)] h (some (.int r)) hr := by
  refine xCT.of (own := RX6) (L := [some (.ref (γ.2.2.2 0)), none]) (by decide) rfl rfl rfl (fun C hF => ?_)
  unfold f_X6_worn at e
  refine xB_aload_n hF dX6_worn_0 rfl ?_
  refine xB_get hF dX6_worn_1 fl_X6_35 sC_0 rfl rfl ?_
  refine xB_aload_n hF dX6_worn_4 rfl ?_
  refine xB_get hF dX6_worn_5 fl_X6_28 sC_0 rfl rfl ?_
  obtain ⟨r1, h2, e3, e⟩ := bn_of e
  refine xB_callVv hF dX6_worn_8 (t_X5_become isX5_44 isX5_24 e3) cw_X6_205 isX5_44.1 rfl rfl rfl rfl rfl ?_
  refine xB_iconst hF dX6_worn_11 ki_0 ?_
  refine xB_istore_n (L' := [_, _]) hF dX6_worn_12 rfl rfl rfl ?_
  exact xB_l (t_X6_worn_c13 hF _ _ _ e) (And.intro rfl (And.intro rfl (True.intro)))
def f_X6_dye_c118 (k50 : Int32 → Int32 → Int32 → Int32 → xH → Option (Int32 × xH)) (a1 : Int32) (a2 : Int32) (a3 : Int32) (v4 : Int32) (v5 : Int32) (v6 : Int32) (v7 : Int32) (h : xH) : Option (Int32 × xH) :=
    k50 v4 v5 v6 (v7 + 1) h
set_option maxRecDepth 20000 in
set_option maxHeartbeats 2000000 in
theorem t_X6_dye_c118 {l : Launch} {γ : xG} {k50 : Int32 → Int32 → Int32 → Int32 → xH → Option (Int32 × xH)} {a1 : Int32} {a2 : Int32} {a3 : Int32} {r : Int32} {hr : xH} {C : xCx} (hF : xF C cX6_dye RX6 8 6 γ xSC (some (.int r)) hr l (some .int)) (hk50 : ∀ (v4 : Int32) (v5 : Int32) (v6 : Int32) (v7 : Int32) (h : xH), k50 v4 v5 v6 v7 h = some (r, hr) → xB C h 50 [some (.ref (γ.2.2.2 0)), some (.int a1), some (.int a2), some (.int a3), some (.int v4), some (.int v5), some (.int v6), some (.int v7)] []) : ∀ (v4 : Int32) (v5 : Int32) (v6 : Int32) (v7 : Int32) (h : xH), f_X6_dye_c118 k50 a1 a2 a3 v4 v5 v6 v7 h = some (r, hr) → xB C h 118 [some (.ref (γ.2.2.2 0)), some (.int a1), some (.int a2), some (.int a3), some (.int v4), some (.int v5), some (.int v6), some (.int v7)] [] := by
  intro v4 v5 v6 v7 h e
  unfold f_X6_dye_c118 at e
  refine xB_iinc (L' := [_, _, _, _, _, _, _, _]) hF dX6_dye_118 rfl ki_1 rfl rfl rfl ?_
  refine xB_goto (tgt := 50) hF dX6_dye_121 rfl ?_
  exact xB_l (hk50 _ _ _ _ _ e) (And.intro rfl (And.intro rfl (And.intro rfl (And.intro rfl (And.intro rfl (And.intro rfl (And.intro rfl (And.intro rfl (True.intro)))))))))
def f_X6_dye_c50 (a1 : Int32) (a2 : Int32) (a3 : Int32) : Nat → Int32 → Int32 → Int32 → Int32 → xH → Option (Int32 × xH)
  | 0, _, _, _, _, _ => none
  | n + 1, v4, v5, v6, v7, h =>
    if 9 < v7 then (if a3 = 0 then (some (v5, h)) else (some (v6, h))) else (bn (f_X5_become 44 24 h) fun r1 h2 => gd a1 10 <| nm (xst h2 47 (Int32.toNatClampNeg a1) v7) fun h4 => bn (f_X5_goOn 44 a2 h4) fun r5 h6 => gd v4 6 <| if (h6 51 (Int32.toNatClampNeg v4)) ≤ v6 then (f_X6_dye_c118 (f_X6_dye_c50 a1 a2 a3 n) a1 a2 a3 v4 v5 v6 v7 h6) else (gd v4 6 <| nm (h6 51 (Int32.toNatClampNeg v4)) fun x8 => f_X6_dye_c118 (f_X6_dye_c50 a1 a2 a3 n) a1 a2 a3 v4 v7 x8 v7 h6))
set_option maxRecDepth 20000 in
set_option maxHeartbeats 2000000 in
theorem t_X6_dye_c50 {l : Launch} {γ : xG} {a1 : Int32} {a2 : Int32} {a3 : Int32} {r : Int32} {hr : xH} {C : xCx} (hF : xF C cX6_dye RX6 8 6 γ xSC (some (.int r)) hr l (some .int)) : ∀ (n : Nat) (v4 : Int32) (v5 : Int32) (v6 : Int32) (v7 : Int32) (h : xH), f_X6_dye_c50 a1 a2 a3 n v4 v5 v6 v7 h = some (r, hr) → xB C h 50 [some (.ref (γ.2.2.2 0)), some (.int a1), some (.int a2), some (.int a3), some (.int v4), some (.int v5), some (.int v6), some (.int v7)] [] := by
  intro n
  induction n with
  | zero => intro v4 v5 v6 v7 h e; cases e
  | succ n ih =>
    intro v4 v5 v6 v7 h e
    rw [f_X6_dye_c50] at e
    refine xB_iload hF dX6_dye_50 rfl ?_
    refine xB_bipush hF dX6_dye_52 kb_9 ?_
    refine xB_icmp_gt (tgt := 124) hF dX6_dye_54 rfl e (fun _ e => ?_) (fun _ e => ?_)
    · refine xB_iload_n hF dX6_dye_124 rfl ?_
      refine xB_if_ne (tgt := 133) hF dX6_dye_125 rfl e (fun _ e => ?_) (fun _ e => ?_)
      · refine xB_iload hF dX6_dye_128 rfl ?_
        refine xB_goto (tgt := 135) hF dX6_dye_130 rfl ?_
        exact xB_ireturn hF dX6_dye_135 e
      · refine xB_iload hF dX6_dye_133 rfl ?_
        exact xB_ireturn hF dX6_dye_135 e
    · refine xB_aload_n hF dX6_dye_57 rfl ?_
      refine xB_get hF dX6_dye_58 fl_X6_35 sC_0 rfl rfl ?_
      refine xB_aload_n hF dX6_dye_61 rfl ?_
      refine xB_get hF dX6_dye_62 fl_X6_28 sC_0 rfl rfl ?_
      obtain ⟨r1, h2, e3, e⟩ := bn_of e
      refine xB_callVv hF dX6_dye_65 (t_X5_become isX5_44 isX5_24 e3) cw_X6_205 isX5_44.1 rfl rfl rfl rfl rfl ?_
      refine xB_aload_n hF dX6_dye_68 rfl ?_
      refine xB_get hF dX6_dye_69 fl_X6_35 sC_0 rfl rfl ?_
      refine xB_get hF dX6_dye_72 fl_X6_103 isX5_44.1 rfl rfl ?_
      refine xB_iload_n hF dX6_dye_75 rfl ?_
      refine xB_iload hF dX6_dye_76 rfl ?_
      refine xB_iast hF dX6_dye_78 sC_47 e (fun e => ?_)
      refine xB_gen e (fun h4 e => ?_)
      refine xB_aload_n hF dX6_dye_79 rfl ?_
      refine xB_get hF dX6_dye_80 fl_X6_35 sC_0 rfl rfl ?_
      refine xB_iload_n hF dX6_dye_83 rfl ?_
      obtain ⟨r5, h6, e7, e⟩ := bn_of e
      refine xB_callVv hF dX6_dye_84 (t_X5_goOn isX5_44 e7) cw_X6_167 isX5_44.1 rfl rfl rfl rfl rfl ?_
      refine xB_aload_n hF dX6_dye_87 rfl ?_
      refine xB_get hF dX6_dye_88 fl_X6_35 sC_0 rfl rfl ?_
      refine xB_get hF dX6_dye_91 fl_X6_132 isX5_44.1 rfl rfl ?_
      refine xB_iload hF dX6_dye_94 rfl ?_
      refine xB_iald hF dX6_dye_96 sC_51 e (fun e => ?_)
      refine xB_iload hF dX6_dye_97 rfl ?_
      refine xB_icmp_le (tgt := 118) hF dX6_dye_99 rfl e (fun _ e => ?_) (fun _ e => ?_)
      · exact xB_l (t_X6_dye_c118 hF ih _ _ _ _ _ e) (And.intro rfl (And.intro rfl (And.intro rfl (And.intro rfl (And.intro rfl (And.intro rfl (And.intro rfl (And.intro rfl (True.intro)))))))))
      · refine xB_iload hF dX6_dye_102 rfl ?_
        refine xB_istore (L' := [_, _, _, _, _, _, _, _]) hF dX6_dye_104 rfl rfl rfl ?_
        refine xB_aload_n hF dX6_dye_106 rfl ?_
        refine xB_get hF dX6_dye_107 fl_X6_35 sC_0 rfl rfl ?_
        refine xB_get hF dX6_dye_110 fl_X6_132 isX5_44.1 rfl rfl ?_
        refine xB_iload hF dX6_dye_113 rfl ?_
        refine xB_iald hF dX6_dye_115 sC_51 e (fun e => ?_)
        refine xB_istore (L' := [_, _, _, _, _, _, _, _]) hF dX6_dye_116 rfl rfl rfl ?_
        replace e := nm_of e
        exact xB_l (t_X6_dye_c118 hF ih _ _ _ _ _ e) (And.intro rfl (And.intro rfl (And.intro rfl (And.intro rfl (And.intro rfl (And.intro rfl (And.intro rfl (And.intro rfl (True.intro)))))))))
def f_X6_dye (a1 : Int32) (a2 : Int32) (a3 : Int32) (h : xH) : Option (Int32 × xH) :=
    bn (f_X6_isDay a1 h) fun r1 h2 => if r1 = 0 then (some ((-1000000001), h2)) else (bn (f_X6_within a2 1 60 h2) fun r4 h5 => if r4 = 0 then (some ((-1000000001), h5)) else (bn (f_X6_within a3 0 1 h5) fun r7 h8 => if r7 = 0 then (some ((-1000000001), h8)) else (gd a1 10 <| nm (h8 29 (Int32.toNatClampNeg a1)) fun x10 => f_X6_dye_c50 a1 a2 a3 xN x10 (-1) (-1) 0 h8)))
set_option maxRecDepth 20000 in
set_option maxHeartbeats 2000000 in
theorem t_X6_dye {l : Launch} {γ : xG} {a1 : Int32} {a2 : Int32} {a3 : Int32} {h : xH} {r : Int32} {hr : xH} (e : f_X6_dye a1 a2 a3 h = some (r, hr)) : xCT l γ xSC yX6_dye cX6_dye 8 (some .int) 6 [.ref (γ.2.2.2 0), .int a1, .int a2, .int a3] h (some (.int r)) hr := by
  refine xCT.of (own := RX6) (L := [some (.ref (γ.2.2.2 0)), some (.int a1), some (.int a2), some (.int a3), none, none, none, none]) (by decide) rfl rfl rfl (fun C hF => ?_)
  unfold f_X6_dye at e
  refine xB_aload_n hF dX6_dye_0 rfl ?_
  refine xB_iload_n hF dX6_dye_1 rfl ?_
  obtain ⟨r1, h2, e3, e⟩ := bn_of e
  refine xB_callVi hF dX6_dye_2 (t_X6_isDay e3) cw_X6_94 sC_0 rfl rfl rfl rfl rfl ?_
  refine xB_if_eq (tgt := 27) hF dX6_dye_5 rfl e (fun _ e => ?_) (fun _ e => ?_)
  · refine xB_ldc hF dX6_dye_27 kc_X6_85 ?_
    exact xB_ireturn hF dX6_dye_29 e
  · refine xB_iload_n hF dX6_dye_8 rfl ?_
    refine xB_iconst hF dX6_dye_9 ki_1 ?_
    refine xB_bipush hF dX6_dye_10 kb_60 ?_
    obtain ⟨r4, h5, e6, e⟩ := bn_of e
    refine xB_callSi hF dX6_dye_12 (t_X6_within e6) cw_X6_78 rfl rfl rfl rfl ?_
    refine xB_if_eq (tgt := 27) hF dX6_dye_15 rfl e (fun _ e => ?_) (fun _ e => ?_)
    · refine xB_ldc hF dX6_dye_27 kc_X6_85 ?_
      exact xB_ireturn hF dX6_dye_29 e
    · refine xB_iload_n hF dX6_dye_18 rfl ?_
      refine xB_iconst hF dX6_dye_19 ki_0 ?_
      refine xB_iconst hF dX6_dye_20 ki_1 ?_
      obtain ⟨r7, h8, e9, e⟩ := bn_of e
      refine xB_callSi hF dX6_dye_21 (t_X6_within e9) cw_X6_78 rfl rfl rfl rfl ?_
      refine xB_if_ne (tgt := 30) hF dX6_dye_24 rfl e (fun _ e => ?_) (fun _ e => ?_)
      · refine xB_ldc hF dX6_dye_27 kc_X6_85 ?_
        exact xB_ireturn hF dX6_dye_29 e
      · refine xB_aload_n hF dX6_dye_30 rfl ?_
        refine xB_get hF dX6_dye_31 fl_X6_28 sC_0 rfl rfl ?_
        refine xB_get hF dX6_dye_34 fl_X6_109 isX5_24.1 rfl rfl ?_
        refine xB_iload_n hF dX6_dye_37 rfl ?_
        refine xB_iald hF dX6_dye_38 sC_29 e (fun e => ?_)
        refine xB_istore (L' := [_, _, _, _, _, _, _, _]) hF dX6_dye_39 rfl rfl rfl ?_
        replace e := nm_of e
        refine xB_iconst hF dX6_dye_41 ki_m1 ?_
        refine xB_istore (L' := [_, _, _, _, _, _, _, _]) hF dX6_dye_42 rfl rfl rfl ?_
        refine xB_iconst hF dX6_dye_44 ki_m1 ?_
        refine xB_istore (L' := [_, _, _, _, _, _, _, _]) hF dX6_dye_45 rfl rfl rfl ?_
        refine xB_iconst hF dX6_dye_47 ki_0 ?_
        refine xB_istore (L' := [_, _, _, _, _, _, _, _]) hF dX6_dye_48 rfl rfl rfl ?_
        exact xB_l (t_X6_dye_c50 hF _ _ _ _ _ _ e) (And.intro rfl (And.intro rfl (And.intro rfl (And.intro rfl (And.intro rfl (And.intro rfl (And.intro rfl (And.intro rfl (True.intro)))))))))
def f_X6_mends_c109 (k43 : Int32 → Int32 → Int32 → xH → Option (Int32 × xH)) (a1 : Int32) (a2 : Int32) (v3 : Int32) (v4 : Int32) (v5 : Int32) (h : xH) : Option (Int32 × xH) :=
    k43 v3 v4 (v5 + 1) h
set_option maxRecDepth 20000 in
set_option maxHeartbeats 2000000 in
theorem t_X6_mends_c109 {l : Launch} {γ : xG} {k43 : Int32 → Int32 → Int32 → xH → Option (Int32 × xH)} {a1 : Int32} {a2 : Int32} {r : Int32} {hr : xH} {C : xCx} (hF : xF C cX6_mends RX6 6 6 γ xSC (some (.int r)) hr l (some .int)) (hk43 : ∀ (v3 : Int32) (v4 : Int32) (v5 : Int32) (h : xH), k43 v3 v4 v5 h = some (r, hr) → xB C h 43 [some (.ref (γ.2.2.2 0)), some (.int a1), some (.int a2), some (.int v3), some (.int v4), some (.int v5)] []) : ∀ (v3 : Int32) (v4 : Int32) (v5 : Int32) (h : xH), f_X6_mends_c109 k43 a1 a2 v3 v4 v5 h = some (r, hr) → xB C h 109 [some (.ref (γ.2.2.2 0)), some (.int a1), some (.int a2), some (.int v3), some (.int v4), some (.int v5)] [] := by
  intro v3 v4 v5 h e
  unfold f_X6_mends_c109 at e
  refine xB_iinc (L' := [_, _, _, _, _, _]) hF dX6_mends_109 rfl ki_1 rfl rfl rfl ?_
  refine xB_goto (tgt := 43) hF dX6_mends_112 rfl ?_
  exact xB_l (hk43 _ _ _ _ e) (And.intro rfl (And.intro rfl (And.intro rfl (And.intro rfl (And.intro rfl (And.intro rfl (True.intro)))))))
def f_X6_mends_c43 (a1 : Int32) (a2 : Int32) : Nat → Int32 → Int32 → Int32 → xH → Option (Int32 × xH)
  | 0, _, _, _, _ => none
  | n + 1, v3, v4, v5, h =>
    if (h 24 10) ≤ v5 then (if a2 = 0 then (some (v3, h)) else (some (v4, h))) else (bn (f_X5_become 44 24 h) fun r1 h2 => gd v5 10 <| nm (xst h2 45 (Int32.toNatClampNeg v5) 1) fun h4 => bn (f_X5_goOn 44 a1 h4) fun r5 h6 => if (h6 44 12) ≤ v4 then (f_X6_mends_c109 (f_X6_mends_c43 a1 a2 n) a1 a2 v3 v4 v5 h6) else (f_X6_mends_c109 (f_X6_mends_c43 a1 a2 n) a1 a2 v5 (h6 44 12) v5 h6))
set_option maxRecDepth 20000 in
set_option maxHeartbeats 2000000 in
theorem t_X6_mends_c43 {l : Launch} {γ : xG} {a1 : Int32} {a2 : Int32} {r : Int32} {hr : xH} {C : xCx} (hF : xF C cX6_mends RX6 6 6 γ xSC (some (.int r)) hr l (some .int)) : ∀ (n : Nat) (v3 : Int32) (v4 : Int32) (v5 : Int32) (h : xH), f_X6_mends_c43 a1 a2 n v3 v4 v5 h = some (r, hr) → xB C h 43 [some (.ref (γ.2.2.2 0)), some (.int a1), some (.int a2), some (.int v3), some (.int v4), some (.int v5)] [] := by
  intro n
  induction n with
  | zero => intro v3 v4 v5 h e; cases e
  | succ n ih =>
    intro v3 v4 v5 h e
    rw [f_X6_mends_c43] at e
    refine xB_iload hF dX6_mends_43 rfl ?_
    refine xB_aload_n hF dX6_mends_45 rfl ?_
    refine xB_get hF dX6_mends_46 fl_X6_28 sC_0 rfl rfl ?_
    refine xB_get hF dX6_mends_49 fl_X6_86 isX5_24.1 rfl rfl ?_
    refine xB_icmp_ge (tgt := 115) hF dX6_mends_52 rfl e (fun _ e => ?_) (fun _ e => ?_)
    · refine xB_iload_n hF dX6_mends_115 rfl ?_
      refine xB_if_ne (tgt := 123) hF dX6_mends_116 rfl e (fun _ e => ?_) (fun _ e => ?_)
      · refine xB_iload_n hF dX6_mends_119 rfl ?_
        refine xB_goto (tgt := 125) hF dX6_mends_120 rfl ?_
        exact xB_ireturn hF dX6_mends_125 e
      · refine xB_iload hF dX6_mends_123 rfl ?_
        exact xB_ireturn hF dX6_mends_125 e
    · refine xB_aload_n hF dX6_mends_55 rfl ?_
      refine xB_get hF dX6_mends_56 fl_X6_35 sC_0 rfl rfl ?_
      refine xB_aload_n hF dX6_mends_59 rfl ?_
      refine xB_get hF dX6_mends_60 fl_X6_28 sC_0 rfl rfl ?_
      obtain ⟨r1, h2, e3, e⟩ := bn_of e
      refine xB_callVv hF dX6_mends_63 (t_X5_become isX5_44 isX5_24 e3) cw_X6_205 isX5_44.1 rfl rfl rfl rfl rfl ?_
      refine xB_aload_n hF dX6_mends_66 rfl ?_
      refine xB_get hF dX6_mends_67 fl_X6_35 sC_0 rfl rfl ?_
      refine xB_get hF dX6_mends_70 fl_X6_97 isX5_44.1 rfl rfl ?_
      refine xB_iload hF dX6_mends_73 rfl ?_
      refine xB_iconst hF dX6_mends_75 ki_1 ?_
      refine xB_iast hF dX6_mends_76 sC_45 e (fun e => ?_)
      refine xB_gen e (fun h4 e => ?_)
      refine xB_aload_n hF dX6_mends_77 rfl ?_
      refine xB_get hF dX6_mends_78 fl_X6_35 sC_0 rfl rfl ?_
      refine xB_iload_n hF dX6_mends_81 rfl ?_
      obtain ⟨r5, h6, e7, e⟩ := bn_of e
      refine xB_callVv hF dX6_mends_82 (t_X5_goOn isX5_44 e7) cw_X6_167 isX5_44.1 rfl rfl rfl rfl rfl ?_
      refine xB_aload_n hF dX6_mends_85 rfl ?_
      refine xB_get hF dX6_mends_86 fl_X6_35 sC_0 rfl rfl ?_
      refine xB_get hF dX6_mends_89 fl_X6_161 isX5_44.1 rfl rfl ?_
      refine xB_iload hF dX6_mends_92 rfl ?_
      refine xB_icmp_le (tgt := 109) hF dX6_mends_94 rfl e (fun _ e => ?_) (fun _ e => ?_)
      · exact xB_l (t_X6_mends_c109 hF ih _ _ _ _ e) (And.intro rfl (And.intro rfl (And.intro rfl (And.intro rfl (And.intro rfl (And.intro rfl (True.intro)))))))
      · refine xB_iload hF dX6_mends_97 rfl ?_
        refine xB_istore_n (L' := [_, _, _, _, _, _]) hF dX6_mends_99 rfl rfl rfl ?_
        refine xB_aload_n hF dX6_mends_100 rfl ?_
        refine xB_get hF dX6_mends_101 fl_X6_35 sC_0 rfl rfl ?_
        refine xB_get hF dX6_mends_104 fl_X6_161 isX5_44.1 rfl rfl ?_
        refine xB_istore (L' := [_, _, _, _, _, _]) hF dX6_mends_107 rfl rfl rfl ?_
        exact xB_l (t_X6_mends_c109 hF ih _ _ _ _ e) (And.intro rfl (And.intro rfl (And.intro rfl (And.intro rfl (And.intro rfl (And.intro rfl (True.intro)))))))
def f_X6_mends (a1 : Int32) (a2 : Int32) (h : xH) : Option (Int32 × xH) :=
    bn (f_X6_within a1 1 60 h) fun r1 h2 => if r1 = 0 then (some ((-1000000001), h2)) else (bn (f_X6_within a2 0 1 h2) fun r4 h5 => if r4 = 0 then (some ((-1000000001), h5)) else (if (h5 24 10) = 0 then (some ((-1000000005), h5)) else (f_X6_mends_c43 a1 a2 xN (-1) (-1) 0 h5)))
set_option maxRecDepth 20000 in
set_option maxHeartbeats 2000000 in
theorem t_X6_mends {l : Launch} {γ : xG} {a1 : Int32} {a2 : Int32} {h : xH} {r : Int32} {hr : xH} (e : f_X6_mends a1 a2 h = some (r, hr)) : xCT l γ xSC yX6_mends cX6_mends 6 (some .int) 6 [.ref (γ.2.2.2 0), .int a1, .int a2] h (some (.int r)) hr := by
  refine xCT.of (own := RX6) (L := [some (.ref (γ.2.2.2 0)), some (.int a1), some (.int a2), none, none, none]) (by decide) rfl rfl rfl (fun C hF => ?_)
  unfold f_X6_mends at e
  refine xB_iload_n hF dX6_mends_0 rfl ?_
  refine xB_iconst hF dX6_mends_1 ki_1 ?_
  refine xB_bipush hF dX6_mends_2 kb_60 ?_
  obtain ⟨r1, h2, e3, e⟩ := bn_of e
  refine xB_callSi hF dX6_mends_4 (t_X6_within e3) cw_X6_78 rfl rfl rfl rfl ?_
  refine xB_if_eq (tgt := 19) hF dX6_mends_7 rfl e (fun _ e => ?_) (fun _ e => ?_)
  · refine xB_ldc hF dX6_mends_19 kc_X6_85 ?_
    exact xB_ireturn hF dX6_mends_21 e
  · refine xB_iload_n hF dX6_mends_10 rfl ?_
    refine xB_iconst hF dX6_mends_11 ki_0 ?_
    refine xB_iconst hF dX6_mends_12 ki_1 ?_
    obtain ⟨r4, h5, e6, e⟩ := bn_of e
    refine xB_callSi hF dX6_mends_13 (t_X6_within e6) cw_X6_78 rfl rfl rfl rfl ?_
    refine xB_if_ne (tgt := 22) hF dX6_mends_16 rfl e (fun _ e => ?_) (fun _ e => ?_)
    · refine xB_ldc hF dX6_mends_19 kc_X6_85 ?_
      exact xB_ireturn hF dX6_mends_21 e
    · refine xB_aload_n hF dX6_mends_22 rfl ?_
      refine xB_get hF dX6_mends_23 fl_X6_28 sC_0 rfl rfl ?_
      refine xB_get hF dX6_mends_26 fl_X6_86 isX5_24.1 rfl rfl ?_
      refine xB_if_ne (tgt := 35) hF dX6_mends_29 rfl e (fun _ e => ?_) (fun _ e => ?_)
      · refine xB_ldc hF dX6_mends_32 kc_X6_184 ?_
        exact xB_ireturn hF dX6_mends_34 e
      · refine xB_iconst hF dX6_mends_35 ki_m1 ?_
        refine xB_istore_n (L' := [_, _, _, _, _, _]) hF dX6_mends_36 rfl rfl rfl ?_
        refine xB_iconst hF dX6_mends_37 ki_m1 ?_
        refine xB_istore (L' := [_, _, _, _, _, _]) hF dX6_mends_38 rfl rfl rfl ?_
        refine xB_iconst hF dX6_mends_40 ki_0 ?_
        refine xB_istore (L' := [_, _, _, _, _, _]) hF dX6_mends_41 rfl rfl rfl ?_
        exact xB_l (t_X6_mends_c43 hF _ _ _ _ _ e) (And.intro rfl (And.intro rfl (And.intro rfl (And.intro rfl (And.intro rfl (And.intro rfl (True.intro)))))))
def f_X3_isNumber (w : Nat) (a1 : Int32) (h : xH) : Option (Int32 × xH) :=
    gd a1 24 <| if (h (w + 1) (Int32.toNatClampNeg a1)) = (-1000000005) then (some (0, h)) else (some (1, h))
set_option maxRecDepth 20000 in
set_option maxHeartbeats 2000000 in
theorem t_X3_isNumber {l : Launch} {γ : xG} {w : Nat} {a1 : Int32} {h : xH} {r : Int32} {hr : xH} (hw : isX3 w) (e : f_X3_isNumber w a1 h = some (r, hr)) : xCT l γ xSC yX3_isNumber cX3_isNumber 2 (some .boolean) 0 [.ref (γ.2.2.2 w), .int a1] h (some (.int r)) hr := by
  refine xCT.of (own := RX3) (L := [some (.ref (γ.2.2.2 w)), some (.int a1)]) (by decide) rfl rfl rfl (fun C hF => ?_)
  unfold f_X3_isNumber at e
  refine xB_aload_n hF dX3_isNumber_0 rfl ?_
  refine xB_get hF dX3_isNumber_1 fl_X3_9 hw.1 rfl rfl ?_
  refine xB_iload_n hF dX3_isNumber_4 rfl ?_
  refine xB_iald hF dX3_isNumber_5 hw.2 e (fun e => ?_)
  refine xB_ldc hF dX3_isNumber_6 kc_X3_32 ?_
  refine xB_icmp_eq (tgt := 15) hF dX3_isNumber_8 rfl e (fun _ e => ?_) (fun _ e => ?_)
  · refine xB_iconst hF dX3_isNumber_15 ki_0 ?_
    exact xB_zreturn hF dX3_isNumber_16 rfl e
  · refine xB_iconst hF dX3_isNumber_11 ki_1 ?_
    refine xB_goto (tgt := 16) hF dX3_isNumber_12 rfl ?_
    exact xB_zreturn hF dX3_isNumber_16 rfl e
def f_X6_addDifferences_c2 (a1 : Int32) : Nat → Int32 → xH → Option (Int32 × xH)
  | 0, _, _ => none
  | n + 1, v2, h =>
    if (h 44 10) ≤ v2 then (some (0, h)) else (gd v2 10 <| gd v2 10 <| nm (if 0 ≤ ((h 48 (Int32.toNatClampNeg v2)) - a1) then ((h 48 (Int32.toNatClampNeg v2)) - a1) else 0 - ((h 48 (Int32.toNatClampNeg v2)) - a1)) fun x1 => gd v2 10 <| nm (xst h 58 (Int32.toNatClampNeg v2) ((h 58 (Int32.toNatClampNeg v2)) + x1)) fun h2 => f_X6_addDifferences_c2 a1 n (v2 + 1) h2)
set_option maxRecDepth 20000 in
set_option maxHeartbeats 2000000 in
theorem t_X6_addDifferences_c2 {l : Launch} {γ : xG} {a1 : Int32} {r : Int32} {hr : xH} {C : xCx} (hF : xF C cX6_addDifferences RX6 3 1 γ xSC none hr l none) : ∀ (n : Nat) (v2 : Int32) (h : xH), f_X6_addDifferences_c2 a1 n v2 h = some (r, hr) → xB C h 2 [some (.ref (γ.2.2.2 0)), some (.int a1), some (.int v2)] [] := by
  intro n
  induction n with
  | zero => intro v2 h e; cases e
  | succ n ih =>
    intro v2 h e
    rw [f_X6_addDifferences_c2] at e
    refine xB_iload_n hF dX6_addDifferences_2 rfl ?_
    refine xB_aload_n hF dX6_addDifferences_3 rfl ?_
    refine xB_get hF dX6_addDifferences_4 fl_X6_35 sC_0 rfl rfl ?_
    refine xB_get hF dX6_addDifferences_7 fl_X6_86 isX5_44.1 rfl rfl ?_
    refine xB_icmp_ge (tgt := 42) hF dX6_addDifferences_10 rfl e (fun _ e => ?_) (fun _ e => ?_)
    · exact xB_vreturn hF dX6_addDifferences_42 e
    · refine xB_aload_n hF dX6_addDifferences_13 rfl ?_
      refine xB_get hF dX6_addDifferences_14 fl_X6_45 sC_0 rfl rfl ?_
      refine xB_iload_n hF dX6_addDifferences_17 rfl ?_
      refine xB_dup2 hF dX6_addDifferences_18 rfl rfl ?_
      refine xB_iald hF dX6_addDifferences_19 sC_58 e (fun e => ?_)
      refine xB_aload_n hF dX6_addDifferences_20 rfl ?_
      refine xB_get hF dX6_addDifferences_21 fl_X6_35 sC_0 rfl rfl ?_
      refine xB_get hF dX6_addDifferences_24 fl_X6_106 isX5_44.1 rfl rfl ?_
      refine xB_iload_n hF dX6_addDifferences_27 rfl ?_
      refine xB_iald hF dX6_addDifferences_28 sC_48 e (fun e => ?_)
      refine xB_iload_n hF dX6_addDifferences_29 rfl ?_
      refine xB_isub hF dX6_addDifferences_30 ?_
      refine xB_mabs hF dX6_addDifferences_31 ml_X6_329 mw_abs rfl rfl ?_
      replace e := nm_of e
      refine xB_iadd hF dX6_addDifferences_34 ?_
      refine xB_iast hF dX6_addDifferences_35 sC_58 e (fun e => ?_)
      refine xB_gen e (fun h2 e => ?_)
      refine xB_iinc (L' := [_, _, _]) hF dX6_addDifferences_36 rfl ki_1 rfl rfl rfl ?_
      refine xB_goto (tgt := 2) hF dX6_addDifferences_39 rfl ?_
      exact xB_l (ih _ _ e) (And.intro rfl (And.intro rfl (And.intro rfl (True.intro))))
def f_X6_addDifferences (a1 : Int32) (h : xH) : Option (Int32 × xH) :=
    f_X6_addDifferences_c2 a1 xN 0 h
set_option maxRecDepth 20000 in
set_option maxHeartbeats 2000000 in
theorem t_X6_addDifferences {l : Launch} {γ : xG} {a1 : Int32} {h : xH} {r : Int32} {hr : xH} (e : f_X6_addDifferences a1 h = some (r, hr)) : xCT l γ xSC yX6_addDifferences cX6_addDifferences 3 none 1 [.ref (γ.2.2.2 0), .int a1] h none hr := by
  refine xCT.of (own := RX6) (L := [some (.ref (γ.2.2.2 0)), some (.int a1), none]) (by decide) rfl rfl rfl (fun C hF => ?_)
  unfold f_X6_addDifferences at e
  refine xB_iconst hF dX6_addDifferences_0 ki_0 ?_
  refine xB_istore_n (L' := [_, _, _]) hF dX6_addDifferences_1 rfl rfl rfl ?_
  exact xB_l (t_X6_addDifferences_c2 hF _ _ _ e) (And.intro rfl (And.intro rfl (And.intro rfl (True.intro))))
def f_X6_isSheet (a0 : Int32) (h : xH) : Option (Int32 × xH) :=
    bn (f_X6_within a0 0 3 h) fun r1 h2 => gb r1 (some (r1, h2))
set_option maxRecDepth 20000 in
set_option maxHeartbeats 2000000 in
theorem t_X6_isSheet {l : Launch} {γ : xG} {a0 : Int32} {h : xH} {r : Int32} {hr : xH} (e : f_X6_isSheet a0 h = some (r, hr)) : xCT l γ xSC yX6_isSheet cX6_isSheet 1 (some .boolean) 1 [.int a0] h (some (.int r)) hr := by
  refine xCT.of (own := RX6) (L := [some (.int a0)]) (by decide) rfl rfl rfl (fun C hF => ?_)
  unfold f_X6_isSheet at e
  refine xB_iload_n hF dX6_isSheet_0 rfl ?_
  refine xB_iconst hF dX6_isSheet_1 ki_0 ?_
  refine xB_iconst hF dX6_isSheet_2 ki_3 ?_
  obtain ⟨r1, h2, e3, e⟩ := bn_of e
  refine xB_callSi hF dX6_isSheet_3 (t_X6_within e3) cw_X6_78 rfl rfl rfl rfl ?_
  exact xB_breturn hF dX6_isSheet_6 e
def f_X6_startDifferences_c13 : Nat → Int32 → xH → Option (Int32 × xH)
  | 0, _, _ => none
  | n + 1, v1, h =>
    if 10 ≤ v1 then (some (0, h)) else (gd v1 10 <| nm (xst h 58 (Int32.toNatClampNeg v1) 0) fun h1 => f_X6_startDifferences_c13 n (v1 + 1) h1)
set_option maxRecDepth 20000 in
set_option maxHeartbeats 2000000 in
theorem t_X6_startDifferences_c13 {l : Launch} {γ : xG} {r : Int32} {hr : xH} {C : xCx} (hF : xF C cX6_startDifferences RX6 2 2 γ xSC none hr l none) : ∀ (n : Nat) (v1 : Int32) (h : xH), f_X6_startDifferences_c13 n v1 h = some (r, hr) → xB C h 13 [some (.ref (γ.2.2.2 0)), some (.int v1)] [] := by
  intro n
  induction n with
  | zero => intro v1 h e; cases e
  | succ n ih =>
    intro v1 h e
    rw [f_X6_startDifferences_c13] at e
    refine xB_iload_n hF dX6_startDifferences_13 rfl ?_
    refine xB_bipush hF dX6_startDifferences_14 kb_10 ?_
    refine xB_icmp_ge (tgt := 32) hF dX6_startDifferences_16 rfl e (fun _ e => ?_) (fun _ e => ?_)
    · exact xB_vreturn hF dX6_startDifferences_32 e
    · refine xB_aload_n hF dX6_startDifferences_19 rfl ?_
      refine xB_get hF dX6_startDifferences_20 fl_X6_45 sC_0 rfl rfl ?_
      refine xB_iload_n hF dX6_startDifferences_23 rfl ?_
      refine xB_iconst hF dX6_startDifferences_24 ki_0 ?_
      refine xB_iast hF dX6_startDifferences_25 sC_58 e (fun e => ?_)
      refine xB_gen e (fun h1 e => ?_)
      refine xB_iinc (L' := [_, _]) hF dX6_startDifferences_26 rfl ki_1 rfl rfl rfl ?_
      refine xB_goto (tgt := 13) hF dX6_startDifferences_29 rfl ?_
      exact xB_l (ih _ _ e) (And.intro rfl (And.intro rfl (True.intro)))
def f_X6_startDifferences (h : xH) : Option (Int32 × xH) :=
    bn (f_X5_become 44 24 h) fun r1 h2 => f_X6_startDifferences_c13 xN 0 h2
set_option maxRecDepth 20000 in
set_option maxHeartbeats 2000000 in
theorem t_X6_startDifferences {l : Launch} {γ : xG} {h : xH} {r : Int32} {hr : xH} (e : f_X6_startDifferences h = some (r, hr)) : xCT l γ xSC yX6_startDifferences cX6_startDifferences 2 none 2 [.ref (γ.2.2.2 0)] h none hr := by
  refine xCT.of (own := RX6) (L := [some (.ref (γ.2.2.2 0)), none]) (by decide) rfl rfl rfl (fun C hF => ?_)
  unfold f_X6_startDifferences at e
  refine xB_aload_n hF dX6_startDifferences_0 rfl ?_
  refine xB_get hF dX6_startDifferences_1 fl_X6_35 sC_0 rfl rfl ?_
  refine xB_aload_n hF dX6_startDifferences_4 rfl ?_
  refine xB_get hF dX6_startDifferences_5 fl_X6_28 sC_0 rfl rfl ?_
  obtain ⟨r1, h2, e3, e⟩ := bn_of e
  refine xB_callVv hF dX6_startDifferences_8 (t_X5_become isX5_44 isX5_24 e3) cw_X6_205 isX5_44.1 rfl rfl rfl rfl rfl ?_
  refine xB_iconst hF dX6_startDifferences_11 ki_0 ?_
  refine xB_istore_n (L' := [_, _]) hF dX6_startDifferences_12 rfl rfl rfl ?_
  exact xB_l (t_X6_startDifferences_c13 hF _ _ _ e) (And.intro rfl (And.intro rfl (True.intro)))
def f_X6_toldBy_c144 (k111 : Int32 → Int32 → xH → Option (Int32 × xH)) (a1 : Int32) (a2 : Int32) (v4 : Int32) (v5 : Int32) (h : xH) : Option (Int32 × xH) :=
    k111 v4 (v5 + 1) h
set_option maxRecDepth 20000 in
set_option maxHeartbeats 2000000 in
theorem t_X6_toldBy_c144 {l : Launch} {γ : xG} {k111 : Int32 → Int32 → xH → Option (Int32 × xH)} {a1 : Int32} {a2 : Int32} {r : Int32} {hr : xH} {C : xCx} (hF : xF C cX6_toldBy RX6 6 6 γ xSC (some (.int r)) hr l (some .int)) (hk111 : ∀ (v4 : Int32) (v5 : Int32) (h : xH), k111 v4 v5 h = some (r, hr) → xB C h 111 [some (.ref (γ.2.2.2 0)), some (.int a1), some (.int a2), none, some (.int v4), some (.int v5)] []) : ∀ (v4 : Int32) (v5 : Int32) (h : xH), f_X6_toldBy_c144 k111 a1 a2 v4 v5 h = some (r, hr) → xB C h 144 [some (.ref (γ.2.2.2 0)), some (.int a1), some (.int a2), none, some (.int v4), some (.int v5)] [] := by
  intro v4 v5 h e
  unfold f_X6_toldBy_c144 at e
  refine xB_iinc (L' := [_, _, _, _, _, _]) hF dX6_toldBy_144 rfl ki_1 rfl rfl rfl ?_
  refine xB_goto (tgt := 111) hF dX6_toldBy_147 rfl ?_
  exact xB_l (hk111 _ _ _ e) (And.intro rfl (And.intro rfl (And.intro rfl (And.intro rfl (And.intro rfl (True.intro))))))
def f_X6_toldBy_c111 (a1 : Int32) (a2 : Int32) : Nat → Int32 → Int32 → xH → Option (Int32 × xH)
  | 0, _, _, _ => none
  | n + 1, v4, v5, h =>
    if (h 24 10) ≤ v5 then (if a2 = 0 then (some (v4, h)) else (gd v4 10 <| some (h 58 (Int32.toNatClampNeg v4), h))) else (gd v5 10 <| gd v4 10 <| if (h 58 (Int32.toNatClampNeg v4)) ≤ (h 58 (Int32.toNatClampNeg v5)) then (f_X6_toldBy_c144 (f_X6_toldBy_c111 a1 a2 n) a1 a2 v4 v5 h) else (f_X6_toldBy_c144 (f_X6_toldBy_c111 a1 a2 n) a1 a2 v5 v5 h))
set_option maxRecDepth 20000 in
set_option maxHeartbeats 2000000 in
theorem t_X6_toldBy_c111 {l : Launch} {γ : xG} {a1 : Int32} {a2 : Int32} {r : Int32} {hr : xH} {C : xCx} (hF : xF C cX6_toldBy RX6 6 6 γ xSC (some (.int r)) hr l (some .int)) : ∀ (n : Nat) (v4 : Int32) (v5 : Int32) (h : xH), f_X6_toldBy_c111 a1 a2 n v4 v5 h = some (r, hr) → xB C h 111 [some (.ref (γ.2.2.2 0)), some (.int a1), some (.int a2), none, some (.int v4), some (.int v5)] [] := by
  intro n
  induction n with
  | zero => intro v4 v5 h e; cases e
  | succ n ih =>
    intro v4 v5 h e
    rw [f_X6_toldBy_c111] at e
    refine xB_iload hF dX6_toldBy_111 rfl ?_
    refine xB_aload_n hF dX6_toldBy_113 rfl ?_
    refine xB_get hF dX6_toldBy_114 fl_X6_28 sC_0 rfl rfl ?_
    refine xB_get hF dX6_toldBy_117 fl_X6_86 isX5_24.1 rfl rfl ?_
    refine xB_icmp_ge (tgt := 150) hF dX6_toldBy_120 rfl e (fun _ e => ?_) (fun _ e => ?_)
    · refine xB_iload_n hF dX6_toldBy_150 rfl ?_
      refine xB_if_ne (tgt := 159) hF dX6_toldBy_151 rfl e (fun _ e => ?_) (fun _ e => ?_)
      · refine xB_iload hF dX6_toldBy_154 rfl ?_
        refine xB_goto (tgt := 166) hF dX6_toldBy_156 rfl ?_
        exact xB_ireturn hF dX6_toldBy_166 e
      · refine xB_aload_n hF dX6_toldBy_159 rfl ?_
        refine xB_get hF dX6_toldBy_160 fl_X6_45 sC_0 rfl rfl ?_
        refine xB_iload hF dX6_toldBy_163 rfl ?_
        refine xB_iald hF dX6_toldBy_165 sC_58 e (fun e => ?_)
        exact xB_ireturn hF dX6_toldBy_166 e
    · refine xB_aload_n hF dX6_toldBy_123 rfl ?_
      refine xB_get hF dX6_toldBy_124 fl_X6_45 sC_0 rfl rfl ?_
      refine xB_iload hF dX6_toldBy_127 rfl ?_
      refine xB_iald hF dX6_toldBy_129 sC_58 e (fun e => ?_)
      refine xB_aload_n hF dX6_toldBy_130 rfl ?_
      refine xB_get hF dX6_toldBy_131 fl_X6_45 sC_0 rfl rfl ?_
      refine xB_iload hF dX6_toldBy_134 rfl ?_
      refine xB_iald hF dX6_toldBy_136 sC_58 e (fun e => ?_)
      refine xB_icmp_ge (tgt := 144) hF dX6_toldBy_137 rfl e (fun _ e => ?_) (fun _ e => ?_)
      · exact xB_l (t_X6_toldBy_c144 hF ih _ _ _ e) (And.intro rfl (And.intro rfl (And.intro rfl (And.intro rfl (And.intro rfl (True.intro))))))
      · refine xB_iload hF dX6_toldBy_140 rfl ?_
        refine xB_istore (L' := [_, _, _, _, _, _]) hF dX6_toldBy_142 rfl rfl rfl ?_
        exact xB_l (t_X6_toldBy_c144 hF ih _ _ _ e) (And.intro rfl (And.intro rfl (And.intro rfl (And.intro rfl (And.intro rfl (True.intro))))))
def f_X6_toldBy_c91 (k62 : Nat → Int32 → xH → Option (Int32 × xH)) (a1 : Int32) (a2 : Int32) (v3 : Nat) (v4 : Int32) (h : xH) : Option (Int32 × xH) :=
    bn (f_X5_goOn 44 1 h) fun r1 h2 => k62 v3 (v4 + 1) h2
set_option maxRecDepth 20000 in
set_option maxHeartbeats 2000000 in
theorem t_X6_toldBy_c91 {l : Launch} {γ : xG} {k62 : Nat → Int32 → xH → Option (Int32 × xH)} {a1 : Int32} {a2 : Int32} {r : Int32} {hr : xH} {C : xCx} (hF : xF C cX6_toldBy RX6 6 6 γ xSC (some (.int r)) hr l (some .int)) (hk62 : ∀ (v3 : Nat) (v4 : Int32) (hv3 : isX3 v3) (h : xH), k62 v3 v4 h = some (r, hr) → xB C h 62 [some (.ref (γ.2.2.2 0)), some (.int a1), some (.int a2), some (.ref (γ.2.2.2 v3)), some (.int v4), none] []) : ∀ (v3 : Nat) (v4 : Int32) (hv3 : isX3 v3) (h : xH), f_X6_toldBy_c91 k62 a1 a2 v3 v4 h = some (r, hr) → xB C h 91 [some (.ref (γ.2.2.2 0)), some (.int a1), some (.int a2), some (.ref (γ.2.2.2 v3)), some (.int v4), none] [] := by
  intro v3 v4 hv3 h e
  unfold f_X6_toldBy_c91 at e
  refine xB_aload_n hF dX6_toldBy_91 rfl ?_
  refine xB_get hF dX6_toldBy_92 fl_X6_35 sC_0 rfl rfl ?_
  refine xB_iconst hF dX6_toldBy_95 ki_1 ?_
  obtain ⟨r1, h2, e3, e⟩ := bn_of e
  refine xB_callVv hF dX6_toldBy_96 (t_X5_goOn isX5_44 e3) cw_X6_167 isX5_44.1 rfl rfl rfl rfl rfl ?_
  refine xB_iinc (L' := [_, _, _, _, _, _]) hF dX6_toldBy_99 rfl ki_1 rfl rfl rfl ?_
  refine xB_goto (tgt := 62) hF dX6_toldBy_102 rfl ?_
  exact xB_l (hk62 _ _ hv3 _ e) (And.intro rfl (And.intro rfl (And.intro rfl (And.intro rfl (And.intro rfl (True.intro))))))
def f_X6_toldBy_c62 (a1 : Int32) (a2 : Int32) : Nat → Nat → Int32 → xH → Option (Int32 × xH)
  | 0, _, _, _ => none
  | n + 1, v3, v4, h =>
    if (h v3 2) ≤ v4 then (f_X6_toldBy_c111 a1 a2 xN 0 1 h) else (bn (f_X3_isNumber v3 v4 h) fun r1 h2 => if r1 = 0 then (f_X6_toldBy_c91 (f_X6_toldBy_c62 a1 a2 n) a1 a2 v3 v4 h2) else (gd v4 24 <| bn (f_X6_addDifferences (h2 (v3 + 1) (Int32.toNatClampNeg v4)) h2) fun r4 h5 => f_X6_toldBy_c91 (f_X6_toldBy_c62 a1 a2 n) a1 a2 v3 v4 h5))
set_option maxRecDepth 20000 in
set_option maxHeartbeats 2000000 in
theorem t_X6_toldBy_c62 {l : Launch} {γ : xG} {a1 : Int32} {a2 : Int32} {r : Int32} {hr : xH} {C : xCx} (hF : xF C cX6_toldBy RX6 6 6 γ xSC (some (.int r)) hr l (some .int)) : ∀ (n : Nat) (v3 : Nat) (v4 : Int32) (hv3 : isX3 v3) (h : xH), f_X6_toldBy_c62 a1 a2 n v3 v4 h = some (r, hr) → xB C h 62 [some (.ref (γ.2.2.2 0)), some (.int a1), some (.int a2), some (.ref (γ.2.2.2 v3)), some (.int v4), none] [] := by
  intro n
  induction n with
  | zero => intro v3 v4 hv3 h e; cases e
  | succ n ih =>
    intro v3 v4 hv3 h e
    rw [f_X6_toldBy_c62] at e
    refine xB_iload hF dX6_toldBy_62 rfl ?_
    refine xB_aload_n hF dX6_toldBy_64 rfl ?_
    refine xB_get hF dX6_toldBy_65 fl_X6_225 hv3.1 rfl rfl ?_
    refine xB_icmp_ge (tgt := 105) hF dX6_toldBy_68 rfl e (fun _ e => ?_) (fun _ e => ?_)
    · refine xB_iconst hF dX6_toldBy_105 ki_0 ?_
      refine xB_istore (L' := [_, _, _, _, _, _]) hF dX6_toldBy_106 rfl rfl rfl ?_
      refine xB_iconst hF dX6_toldBy_108 ki_1 ?_
      refine xB_istore (L' := [_, _, _, _, _, _]) hF dX6_toldBy_109 rfl rfl rfl ?_
      exact xB_l (t_X6_toldBy_c111 hF _ _ _ _ e) (And.intro rfl (And.intro rfl (And.intro rfl (And.intro rfl (And.intro rfl (True.intro))))))
    · refine xB_aload_n hF dX6_toldBy_71 rfl ?_
      refine xB_iload hF dX6_toldBy_72 rfl ?_
      obtain ⟨r1, h2, e3, e⟩ := bn_of e
      refine xB_callVi hF dX6_toldBy_74 (t_X3_isNumber hv3 e3) cw_X6_228 hv3.1 rfl rfl rfl rfl rfl ?_
      refine xB_if_eq (tgt := 91) hF dX6_toldBy_77 rfl e (fun _ e => ?_) (fun _ e => ?_)
      · exact xB_l (t_X6_toldBy_c91 hF ih _ _ hv3 _ e) (And.intro rfl (And.intro rfl (And.intro rfl (And.intro rfl (And.intro rfl (True.intro))))))
      · refine xB_aload_n hF dX6_toldBy_80 rfl ?_
        refine xB_aload_n hF dX6_toldBy_81 rfl ?_
        refine xB_get hF dX6_toldBy_82 fl_X6_231 hv3.1 rfl rfl ?_
        refine xB_iload hF dX6_toldBy_85 rfl ?_
        refine xB_iald hF dX6_toldBy_87 hv3.2 e (fun e => ?_)
        obtain ⟨r4, h5, e6, e⟩ := bn_of e
        refine xB_callVv hF dX6_toldBy_88 (t_X6_addDifferences e6) cw_X6_234 sC_0 rfl rfl rfl rfl rfl ?_
        exact xB_l (t_X6_toldBy_c91 hF ih _ _ hv3 _ e) (And.intro rfl (And.intro rfl (And.intro rfl (And.intro rfl (And.intro rfl (True.intro))))))
def f_X6_toldBy (a1 : Int32) (a2 : Int32) (h : xH) : Option (Int32 × xH) :=
    bn (f_X6_isSheet a1 h) fun r1 h2 => if r1 = 0 then (some ((-1000000001), h2)) else (bn (f_X6_within a2 0 1 h2) fun r4 h5 => if r4 = 0 then (some ((-1000000001), h5)) else (gd a1 4 <| if (h5 (60 + 2 * (Int32.toNatClampNeg a1)) 1) = (-1) then (some ((-1000000011), h5)) else (if (h5 24 10) = 0 then (some ((-1000000005), h5)) else (gd a1 4 <| bn (f_X6_startDifferences h5) fun r9 h10 => f_X6_toldBy_c62 a1 a2 xN (60 + 2 * (Int32.toNatClampNeg a1)) 0 h10))))
set_option maxRecDepth 20000 in
set_option maxHeartbeats 2000000 in
theorem t_X6_toldBy {l : Launch} {γ : xG} {a1 : Int32} {a2 : Int32} {h : xH} {r : Int32} {hr : xH} (e : f_X6_toldBy a1 a2 h = some (r, hr)) : xCT l γ xSC yX6_toldBy cX6_toldBy 6 (some .int) 6 [.ref (γ.2.2.2 0), .int a1, .int a2] h (some (.int r)) hr := by
  refine xCT.of (own := RX6) (L := [some (.ref (γ.2.2.2 0)), some (.int a1), some (.int a2), none, none, none]) (by decide) rfl rfl rfl (fun C hF => ?_)
  unfold f_X6_toldBy at e
  refine xB_iload_n hF dX6_toldBy_0 rfl ?_
  obtain ⟨r1, h2, e3, e⟩ := bn_of e
  refine xB_callSi hF dX6_toldBy_1 (t_X6_isSheet e3) cw_X6_215 rfl rfl rfl rfl ?_
  refine xB_if_eq (tgt := 16) hF dX6_toldBy_4 rfl e (fun _ e => ?_) (fun _ e => ?_)
  · refine xB_ldc hF dX6_toldBy_16 kc_X6_85 ?_
    exact xB_ireturn hF dX6_toldBy_18 e
  · refine xB_iload_n hF dX6_toldBy_7 rfl ?_
    refine xB_iconst hF dX6_toldBy_8 ki_0 ?_
    refine xB_iconst hF dX6_toldBy_9 ki_1 ?_
    obtain ⟨r4, h5, e6, e⟩ := bn_of e
    refine xB_callSi hF dX6_toldBy_10 (t_X6_within e6) cw_X6_78 rfl rfl rfl rfl ?_
    refine xB_if_ne (tgt := 19) hF dX6_toldBy_13 rfl e (fun _ e => ?_) (fun _ e => ?_)
    · refine xB_ldc hF dX6_toldBy_16 kc_X6_85 ?_
      exact xB_ireturn hF dX6_toldBy_18 e
    · refine xB_aload_n hF dX6_toldBy_19 rfl ?_
      refine xB_get hF dX6_toldBy_20 fl_X6_51 sC_0 rfl rfl ?_
      refine xB_iload_n hF dX6_toldBy_23 rfl ?_
      refine xB_aald hF dX6_toldBy_24 sC_59 rfl rfl e (fun q7 e => ?_)
      refine xB_get hF dX6_toldBy_25 fl_X6_218 ((isX3_sheet q7).1) rfl rfl ?_
      refine xB_iconst hF dX6_toldBy_28 ki_m1 ?_
      refine xB_icmp_ne (tgt := 35) hF dX6_toldBy_29 rfl e (fun _ e => ?_) (fun _ e => ?_)
      · refine xB_ldc hF dX6_toldBy_32 kc_X6_221 ?_
        exact xB_ireturn hF dX6_toldBy_34 e
      · refine xB_aload_n hF dX6_toldBy_35 rfl ?_
        refine xB_get hF dX6_toldBy_36 fl_X6_28 sC_0 rfl rfl ?_
        refine xB_get hF dX6_toldBy_39 fl_X6_86 isX5_24.1 rfl rfl ?_
        refine xB_if_ne (tgt := 48) hF dX6_toldBy_42 rfl e (fun _ e => ?_) (fun _ e => ?_)
        · refine xB_ldc hF dX6_toldBy_45 kc_X6_184 ?_
          exact xB_ireturn hF dX6_toldBy_47 e
        · refine xB_aload_n hF dX6_toldBy_48 rfl ?_
          refine xB_get hF dX6_toldBy_49 fl_X6_51 sC_0 rfl rfl ?_
          refine xB_iload_n hF dX6_toldBy_52 rfl ?_
          refine xB_aald hF dX6_toldBy_53 sC_59 rfl rfl e (fun q8 e => ?_)
          refine xB_astore_n (L' := [_, _, _, _, _, _]) hF dX6_toldBy_54 rfl rfl rfl ?_
          refine xB_aload_n hF dX6_toldBy_55 rfl ?_
          obtain ⟨r9, h10, e11, e⟩ := bn_of e
          refine xB_callVv hF dX6_toldBy_56 (t_X6_startDifferences e11) cw_X6_222 sC_0 rfl rfl rfl rfl rfl ?_
          refine xB_iconst hF dX6_toldBy_59 ki_0 ?_
          refine xB_istore (L' := [_, _, _, _, _, _]) hF dX6_toldBy_60 rfl rfl rfl ?_
          exact xB_l (t_X6_toldBy_c62 hF _ _ _ (isX3_sheet q8) _ e) (And.intro rfl (And.intro rfl (And.intro rfl (And.intro rfl (And.intro rfl (True.intro))))))
def f_X6_fine (a1 : Int32) (h : xH) : Option (Int32 × xH) :=
    bn (f_X6_isOne a1 h) fun r1 h2 => if r1 = 0 then (some ((-1000000001), h2)) else (gd 2 3 <| nm (h2 33 (Int32.toNatClampNeg 2)) fun x4 => if 0 ≤ x4 then (gd a1 6 <| bn (f_X5_daysOf 24 a1 h2) fun r5 h6 => bn (f_J6_bitCount r5 h6) fun r8 h9 => bn (f_X0_workOut x4 (h2 31 (Int32.toNatClampNeg a1)) r8 0 h9) fun r11 h12 => some (r11, h12)) else (gd a1 6 <| some (h2 31 (Int32.toNatClampNeg a1), h2)))
set_option maxRecDepth 20000 in
set_option maxHeartbeats 2000000 in
theorem t_X6_fine {l : Launch} {γ : xG} {a1 : Int32} {h : xH} {r : Int32} {hr : xH} (e : f_X6_fine a1 h = some (r, hr)) : xCT l γ xSC yX6_fine cX6_fine 3 (some .int) 2 [.ref (γ.2.2.2 0), .int a1] h (some (.int r)) hr := by
  refine xCT.of (own := RX6) (L := [some (.ref (γ.2.2.2 0)), some (.int a1), none]) (by decide) rfl rfl rfl (fun C hF => ?_)
  unfold f_X6_fine at e
  refine xB_iload_n hF dX6_fine_0 rfl ?_
  obtain ⟨r1, h2, e3, e⟩ := bn_of e
  refine xB_callSi hF dX6_fine_1 (t_X6_isOne e3) cw_X6_82 rfl rfl rfl rfl ?_
  refine xB_if_ne (tgt := 10) hF dX6_fine_4 rfl e (fun _ e => ?_) (fun _ e => ?_)
  · refine xB_ldc hF dX6_fine_7 kc_X6_85 ?_
    exact xB_ireturn hF dX6_fine_9 e
  · refine xB_aload_n hF dX6_fine_10 rfl ?_
    refine xB_get hF dX6_fine_11 fl_X6_28 sC_0 rfl rfl ?_
    refine xB_get hF dX6_fine_14 fl_X6_237 isX5_24.1 rfl rfl ?_
    refine xB_iconst hF dX6_fine_17 ki_2 ?_
    refine xB_iald hF dX6_fine_18 sC_33 e (fun e => ?_)
    refine xB_istore_n (L' := [_, _, _]) hF dX6_fine_19 rfl rfl rfl ?_
    replace e := nm_of e
    refine xB_iload_n hF dX6_fine_20 rfl ?_
    refine xB_if_ge (tgt := 34) hF dX6_fine_21 rfl e (fun _ e => ?_) (fun _ e => ?_)
    · refine xB_aload_n hF dX6_fine_34 rfl ?_
      refine xB_get hF dX6_fine_35 fl_X6_10 sC_0 rfl rfl ?_
      refine xB_iload_n hF dX6_fine_38 rfl ?_
      refine xB_aload_n hF dX6_fine_39 rfl ?_
      refine xB_get hF dX6_fine_40 fl_X6_28 sC_0 rfl rfl ?_
      refine xB_get hF dX6_fine_43 fl_X6_132 isX5_24.1 rfl rfl ?_
      refine xB_iload_n hF dX6_fine_46 rfl ?_
      refine xB_iald hF dX6_fine_47 sC_31 e (fun e => ?_)
      refine xB_aload_n hF dX6_fine_48 rfl ?_
      refine xB_get hF dX6_fine_49 fl_X6_28 sC_0 rfl rfl ?_
      refine xB_iload_n hF dX6_fine_52 rfl ?_
      obtain ⟨r5, h6, e7, e⟩ := bn_of e
      refine xB_callVi hF dX6_fine_53 (t_X5_daysOf isX5_24 e7) cw_X6_138 isX5_24.1 rfl rfl rfl rfl rfl ?_
      obtain ⟨r8, h9, e10, e⟩ := bn_of e
      refine xB_callSi hF dX6_fine_56 (t_J6_bitCount e10) cw_X6_240 rfl rfl rfl rfl ?_
      refine xB_iconst hF dX6_fine_59 ki_0 ?_
      obtain ⟨r11, h12, e13, e⟩ := bn_of e
      refine xB_callVi hF dX6_fine_60 (t_X0_workOut e13) cw_X6_245 sC_1 rfl rfl rfl rfl rfl ?_
      exact xB_ireturn hF dX6_fine_63 e
    · refine xB_aload_n hF dX6_fine_24 rfl ?_
      refine xB_get hF dX6_fine_25 fl_X6_28 sC_0 rfl rfl ?_
      refine xB_get hF dX6_fine_28 fl_X6_132 isX5_24.1 rfl rfl ?_
      refine xB_iload_n hF dX6_fine_31 rfl ?_
      refine xB_iald hF dX6_fine_32 sC_31 e (fun e => ?_)
      exact xB_ireturn hF dX6_fine_33 e
def f_X2_takeIn_c3 (a1 : Int32) : Nat → Int32 → xH → Option (Int32 × xH)
  | 0, _, _ => none
  | n + 1, v2, h =>
    if v2 < 0 then (some (0, h)) else (if 96 ≤ (h 21 2) then (some (0, h)) else (gd (h 21 2) 96 <| nm (xst h 22 (Int32.toNatClampNeg (h 21 2)) ((((a1 : Int32).toUInt32 >>> ((v2 : Int32).toUInt32 &&& Int32.toUInt32 31)).toInt32) &&& 255)) fun h1 => nm (xst h1 21 2 ((h1 21 2) + 1)) fun h2 => f_X2_takeIn_c3 a1 n (v2 + (-8)) h2))
set_option maxRecDepth 20000 in
set_option maxHeartbeats 2000000 in
theorem t_X2_takeIn_c3 {l : Launch} {γ : xG} {a1 : Int32} {r : Int32} {hr : xH} {C : xCx} (hF : xF C cX2_takeIn RX2 3 0 γ xSC none hr l none) : ∀ (n : Nat) (v2 : Int32) (h : xH), f_X2_takeIn_c3 a1 n v2 h = some (r, hr) → xB C h 3 [some (.ref (γ.2.2.2 21)), some (.int a1), some (.int v2)] [] := by
  intro n
  induction n with
  | zero => intro v2 h e; cases e
  | succ n ih =>
    intro v2 h e
    rw [f_X2_takeIn_c3] at e
    refine xB_iload_n hF dX2_takeIn_3 rfl ?_
    refine xB_if_lt (tgt := 48) hF dX2_takeIn_4 rfl e (fun _ e => ?_) (fun _ e => ?_)
    · exact xB_vreturn hF dX2_takeIn_48 e
    · refine xB_aload_n hF dX2_takeIn_7 rfl ?_
      refine xB_get hF dX2_takeIn_8 fl_X2_18 sC_21 rfl rfl ?_
      refine xB_bipush hF dX2_takeIn_11 kb_96 ?_
      refine xB_icmp_ge (tgt := 48) hF dX2_takeIn_13 rfl e (fun _ e => ?_) (fun _ e => ?_)
      · exact xB_vreturn hF dX2_takeIn_48 e
      · refine xB_aload_n hF dX2_takeIn_16 rfl ?_
        refine xB_get hF dX2_takeIn_17 fl_X2_9 sC_21 rfl rfl ?_
        refine xB_aload_n hF dX2_takeIn_20 rfl ?_
        refine xB_get hF dX2_takeIn_21 fl_X2_18 sC_21 rfl rfl ?_
        refine xB_iload_n hF dX2_takeIn_24 rfl ?_
        refine xB_iload_n hF dX2_takeIn_25 rfl ?_
        refine xB_iushr hF dX2_takeIn_26 ?_
        refine xB_sipush hF dX2_takeIn_27 ks_255 ?_
        refine xB_iand hF dX2_takeIn_30 ?_
        refine xB_iast hF dX2_takeIn_31 sC_22 e (fun e => ?_)
        refine xB_gen e (fun h1 e => ?_)
        refine xB_aload_n hF dX2_takeIn_32 rfl ?_
        refine xB_dup hF dX2_takeIn_33 rfl ?_
        refine xB_get hF dX2_takeIn_34 fl_X2_18 sC_21 rfl rfl ?_
        refine xB_iconst hF dX2_takeIn_37 ki_1 ?_
        refine xB_iadd hF dX2_takeIn_38 ?_
        refine xB_put hF dX2_takeIn_39 fp_X2_18 sC_21 rfl rfl rfl rfl rfl ?_
        refine xB_gen e (fun h2 e => ?_)
        refine xB_iinc (L' := [_, _, _]) hF dX2_takeIn_42 rfl ki_m8 rfl rfl rfl ?_
        refine xB_goto (tgt := 3) hF dX2_takeIn_45 rfl ?_
        exact xB_l (ih _ _ e) (And.intro rfl (And.intro rfl (And.intro rfl (True.intro))))
def f_X2_takeIn (a1 : Int32) (h : xH) : Option (Int32 × xH) :=
    f_X2_takeIn_c3 a1 xN 24 h
set_option maxRecDepth 20000 in
set_option maxHeartbeats 2000000 in
theorem t_X2_takeIn {l : Launch} {γ : xG} {a1 : Int32} {h : xH} {r : Int32} {hr : xH} (e : f_X2_takeIn a1 h = some (r, hr)) : xCT l γ xSC yX2_takeIn cX2_takeIn 3 none 0 [.ref (γ.2.2.2 21), .int a1] h none hr := by
  refine xCT.of (own := RX2) (L := [some (.ref (γ.2.2.2 21)), some (.int a1), none]) (by decide) rfl rfl rfl (fun C hF => ?_)
  unfold f_X2_takeIn at e
  refine xB_bipush hF dX2_takeIn_0 kb_24 ?_
  refine xB_istore_n (L' := [_, _, _]) hF dX2_takeIn_2 rfl rfl rfl ?_
  exact xB_l (t_X2_takeIn_c3 hF _ _ _ e) (And.intro rfl (And.intro rfl (And.intro rfl (True.intro))))
def f_X6_feed (a1 : Int32) (a2 : Int32) (a3 : Int32) (h : xH) : Option (Int32 × xH) :=
    if (h 21 2) ≤ 84 then (bn (f_X2_takeIn a1 h) fun r1 h2 => bn (f_X2_takeIn a2 h2) fun r4 h5 => bn (f_X2_takeIn a3 h5) fun r7 h8 => some (h8 21 2, h8)) else (some ((-1000000003), h))
set_option maxRecDepth 20000 in
set_option maxHeartbeats 2000000 in
theorem t_X6_feed {l : Launch} {γ : xG} {a1 : Int32} {a2 : Int32} {a3 : Int32} {h : xH} {r : Int32} {hr : xH} (e : f_X6_feed a1 a2 a3 h = some (r, hr)) : xCT l γ xSC yX6_feed cX6_feed 4 (some .int) 1 [.ref (γ.2.2.2 0), .int a1, .int a2, .int a3] h (some (.int r)) hr := by
  refine xCT.of (own := RX6) (L := [some (.ref (γ.2.2.2 0)), some (.int a1), some (.int a2), some (.int a3)]) (by decide) rfl rfl rfl (fun C hF => ?_)
  unfold f_X6_feed at e
  refine xB_aload_n hF dX6_feed_0 rfl ?_
  refine xB_get hF dX6_feed_1 fl_X6_19 sC_0 rfl rfl ?_
  refine xB_get hF dX6_feed_4 fl_X6_248 sC_21 rfl rfl ?_
  refine xB_bipush hF dX6_feed_7 kb_84 ?_
  refine xB_icmp_le (tgt := 15) hF dX6_feed_9 rfl e (fun _ e => ?_) (fun _ e => ?_)
  · refine xB_aload_n hF dX6_feed_15 rfl ?_
    refine xB_get hF dX6_feed_16 fl_X6_19 sC_0 rfl rfl ?_
    refine xB_iload_n hF dX6_feed_19 rfl ?_
    obtain ⟨r1, h2, e3, e⟩ := bn_of e
    refine xB_callVv hF dX6_feed_20 (t_X2_takeIn e3) cw_X6_249 sC_21 rfl rfl rfl rfl rfl ?_
    refine xB_aload_n hF dX6_feed_23 rfl ?_
    refine xB_get hF dX6_feed_24 fl_X6_19 sC_0 rfl rfl ?_
    refine xB_iload_n hF dX6_feed_27 rfl ?_
    obtain ⟨r4, h5, e6, e⟩ := bn_of e
    refine xB_callVv hF dX6_feed_28 (t_X2_takeIn e6) cw_X6_249 sC_21 rfl rfl rfl rfl rfl ?_
    refine xB_aload_n hF dX6_feed_31 rfl ?_
    refine xB_get hF dX6_feed_32 fl_X6_19 sC_0 rfl rfl ?_
    refine xB_iload_n hF dX6_feed_35 rfl ?_
    obtain ⟨r7, h8, e9, e⟩ := bn_of e
    refine xB_callVv hF dX6_feed_36 (t_X2_takeIn e9) cw_X6_249 sC_21 rfl rfl rfl rfl rfl ?_
    refine xB_aload_n hF dX6_feed_39 rfl ?_
    refine xB_get hF dX6_feed_40 fl_X6_19 sC_0 rfl rfl ?_
    refine xB_get hF dX6_feed_43 fl_X6_248 sC_21 rfl rfl ?_
    exact xB_ireturn hF dX6_feed_46 e
  · refine xB_ldc hF dX6_feed_12 kc_X6_89 ?_
    exact xB_ireturn hF dX6_feed_14 e
def f_X6_trim (a1 : Int32) (h : xH) : Option (Int32 × xH) :=
    bn (f_X6_within a1 0 (h 21 2) h) fun r1 h2 => if r1 = 0 then (some ((-1000000001), h2)) else (nm (xst h2 21 2 a1) fun h4 => some (a1, h4))
set_option maxRecDepth 20000 in
set_option maxHeartbeats 2000000 in
theorem t_X6_trim {l : Launch} {γ : xG} {a1 : Int32} {h : xH} {r : Int32} {hr : xH} (e : f_X6_trim a1 h = some (r, hr)) : xCT l γ xSC yX6_trim cX6_trim 2 (some .int) 1 [.ref (γ.2.2.2 0), .int a1] h (some (.int r)) hr := by
  refine xCT.of (own := RX6) (L := [some (.ref (γ.2.2.2 0)), some (.int a1)]) (by decide) rfl rfl rfl (fun C hF => ?_)
  unfold f_X6_trim at e
  refine xB_iload_n hF dX6_trim_0 rfl ?_
  refine xB_iconst hF dX6_trim_1 ki_0 ?_
  refine xB_aload_n hF dX6_trim_2 rfl ?_
  refine xB_get hF dX6_trim_3 fl_X6_19 sC_0 rfl rfl ?_
  refine xB_get hF dX6_trim_6 fl_X6_248 sC_21 rfl rfl ?_
  obtain ⟨r1, h2, e3, e⟩ := bn_of e
  refine xB_callSi hF dX6_trim_9 (t_X6_within e3) cw_X6_78 rfl rfl rfl rfl ?_
  refine xB_if_ne (tgt := 18) hF dX6_trim_12 rfl e (fun _ e => ?_) (fun _ e => ?_)
  · refine xB_ldc hF dX6_trim_15 kc_X6_85 ?_
    exact xB_ireturn hF dX6_trim_17 e
  · refine xB_aload_n hF dX6_trim_18 rfl ?_
    refine xB_get hF dX6_trim_19 fl_X6_19 sC_0 rfl rfl ?_
    refine xB_iload_n hF dX6_trim_22 rfl ?_
    refine xB_put hF dX6_trim_23 fp_X6_248 sC_21 rfl rfl rfl rfl rfl ?_
    refine xB_gen e (fun h4 e => ?_)
    refine xB_iload_n hF dX6_trim_26 rfl ?_
    exact xB_ireturn hF dX6_trim_27 e
def f_X0_write (a1 : Int32) (h : xH) : Option (Int32 × xH) :=
    gd a1 14 <| nm (xst h 2 (Int32.toNatClampNeg a1) (h 21 7)) fun h1 => gd a1 14 <| nm (xst h1 3 (Int32.toNatClampNeg a1) (h1 21 9)) fun h2 => gd a1 14 <| nm (xst h2 4 (Int32.toNatClampNeg a1) (h2 21 8)) fun h3 => gd a1 14 <| gc 0 0 (h3 21 8) 96 96 <| nm (xpt h3 (6 + (Int32.toNatClampNeg a1)) (va_cpy (h3 23) (h3 (6 + (Int32.toNatClampNeg a1))) (Int32.toNatClampNeg 0) (Int32.toNatClampNeg 0) (Int32.toNatClampNeg (h3 21 8)))) fun h5 => some (0, h5)
set_option maxRecDepth 20000 in
set_option maxHeartbeats 2000000 in
theorem t_X0_write {l : Launch} {γ : xG} {a1 : Int32} {h : xH} {r : Int32} {hr : xH} (e : f_X0_write a1 h = some (r, hr)) : xCT l γ xSC yX0_write cX0_write 3 none 1 [.ref (γ.2.2.2 1), .int a1, .ref (γ.2.2.2 21)] h none hr := by
  refine xCT.of (own := RX0) (L := [some (.ref (γ.2.2.2 1)), some (.int a1), some (.ref (γ.2.2.2 21))]) (by decide) rfl rfl rfl (fun C hF => ?_)
  unfold f_X0_write at e
  refine xB_aload_n hF dX0_write_0 rfl ?_
  refine xB_get hF dX0_write_1 fl_X0_9 sC_1 rfl rfl ?_
  refine xB_iload_n hF dX0_write_4 rfl ?_
  refine xB_aload_n hF dX0_write_5 rfl ?_
  refine xB_get hF dX0_write_6 fl_X0_29 sC_21 rfl rfl ?_
  refine xB_iast hF dX0_write_9 sC_2 e (fun e => ?_)
  refine xB_gen e (fun h1 e => ?_)
  refine xB_aload_n hF dX0_write_10 rfl ?_
  refine xB_get hF dX0_write_11 fl_X0_15 sC_1 rfl rfl ?_
  refine xB_iload_n hF dX0_write_14 rfl ?_
  refine xB_aload_n hF dX0_write_15 rfl ?_
  refine xB_get hF dX0_write_16 fl_X0_34 sC_21 rfl rfl ?_
  refine xB_iast hF dX0_write_19 sC_3 e (fun e => ?_)
  refine xB_gen e (fun h2 e => ?_)
  refine xB_aload_n hF dX0_write_20 rfl ?_
  refine xB_get hF dX0_write_21 fl_X0_18 sC_1 rfl rfl ?_
  refine xB_iload_n hF dX0_write_24 rfl ?_
  refine xB_aload_n hF dX0_write_25 rfl ?_
  refine xB_get hF dX0_write_26 fl_X0_36 sC_21 rfl rfl ?_
  refine xB_iast hF dX0_write_29 sC_4 e (fun e => ?_)
  refine xB_gen e (fun h3 e => ?_)
  refine xB_aload_n hF dX0_write_30 rfl ?_
  refine xB_get hF dX0_write_31 fl_X0_39 sC_21 rfl rfl ?_
  refine xB_iconst hF dX0_write_34 ki_0 ?_
  refine xB_aload_n hF dX0_write_35 rfl ?_
  refine xB_get hF dX0_write_36 fl_X0_23 sC_1 rfl rfl ?_
  refine xB_iload_n hF dX0_write_39 rfl ?_
  refine xB_aald hF dX0_write_40 sC_5 rfl rfl e (fun q4 e => ?_)
  refine xB_iconst hF dX0_write_41 ki_0 ?_
  refine xB_aload_n hF dX0_write_42 rfl ?_
  refine xB_get hF dX0_write_43 fl_X0_36 sC_21 rfl rfl ?_
  refine xB_copy hF dX0_write_46 cl_X0_41 cw_copy sC_23 (sC_step q4) rfl rfl e (fun e => ?_)
  refine xB_gen e (fun h5 e => ?_)
  exact xB_vreturn hF dX0_write_49 e
