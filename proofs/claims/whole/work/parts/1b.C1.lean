def f_X6_deal_c30 (a1 : Int32) : Nat → Int32 → Int32 → xH → Option (Int32 × xH)
  | 0, _, _, _ => none
  | n + 1, v2, v3, h =>
    if v2 ≤ v3 then (some (v2, h)) else (bn (f_X5_drawDay 24 h) fun r1 h2 => f_X6_deal_c30 a1 n v2 (v3 + 1) h2)
set_option maxRecDepth 20000 in
set_option maxHeartbeats 2000000 in
theorem t_X6_deal_c30 {l : Launch} {γ : xG} {a1 : Int32} {r : Int32} {hr : xH} {C : xCx} (hF : xF C cX6_deal RX6 4 2 γ xSC (some (.int r)) hr l (some .int)) : ∀ (n : Nat) (v2 : Int32) (v3 : Int32) (h : xH), f_X6_deal_c30 a1 n v2 v3 h = some (r, hr) → xB C h 30 [some (.ref (γ.2.2.2 0)), some (.int a1), some (.int v2), some (.int v3)] [] := by
  intro n
  induction n with
  | zero => intro v2 v3 h e; cases e
  | succ n ih =>
    intro v2 v3 h e
    rw [f_X6_deal_c30] at e
    refine xB_iload_n hF dX6_deal_30 rfl ?_
    refine xB_iload_n hF dX6_deal_31 rfl ?_
    refine xB_icmp_ge (tgt := 48) hF dX6_deal_32 rfl e (fun _ e => ?_) (fun _ e => ?_)
    · refine xB_iload_n hF dX6_deal_48 rfl ?_
      exact xB_ireturn hF dX6_deal_49 e
    · refine xB_aload_n hF dX6_deal_35 rfl ?_
      refine xB_get hF dX6_deal_36 fl_X6_28 sC_0 rfl rfl ?_
      obtain ⟨r1, h2, e3, e⟩ := bn_of e
      refine xB_callVv hF dX6_deal_39 (t_X5_drawDay isX5_24 e3) cw_X6_150 isX5_24.1 rfl rfl rfl rfl rfl ?_
      refine xB_iinc (L' := [_, _, _, _]) hF dX6_deal_42 rfl ki_1 rfl rfl rfl ?_
      refine xB_goto (tgt := 30) hF dX6_deal_45 rfl ?_
      exact xB_l (ih _ _ _ e) (And.intro rfl (And.intro rfl (And.intro rfl (And.intro rfl (True.intro)))))
def f_X6_deal (a1 : Int32) (h : xH) : Option (Int32 × xH) :=
    bn (f_X6_within a1 1 10 h) fun r1 h2 => if r1 = 0 then (some ((-1000000001), h2)) else (nm (if (10 - (h2 24 10)) < a1 then (10 - (h2 24 10)) else a1) fun x4 => f_X6_deal_c30 a1 xN x4 0 h2)
set_option maxRecDepth 20000 in
set_option maxHeartbeats 2000000 in
theorem t_X6_deal {l : Launch} {γ : xG} {a1 : Int32} {h : xH} {r : Int32} {hr : xH} (e : f_X6_deal a1 h = some (r, hr)) : xCT l γ xSC yX6_deal cX6_deal 4 (some .int) 2 [.ref (γ.2.2.2 0), .int a1] h (some (.int r)) hr := by
  refine xCT.of (own := RX6) (L := [some (.ref (γ.2.2.2 0)), some (.int a1), none, none]) (by decide) rfl rfl rfl (fun C hF => ?_)
  unfold f_X6_deal at e
  refine xB_iload_n hF dX6_deal_0 rfl ?_
  refine xB_iconst hF dX6_deal_1 ki_1 ?_
  refine xB_bipush hF dX6_deal_2 kb_10 ?_
  obtain ⟨r1, h2, e3, e⟩ := bn_of e
  refine xB_callSi hF dX6_deal_4 (t_X6_within e3) cw_X6_78 rfl rfl rfl rfl ?_
  refine xB_if_ne (tgt := 13) hF dX6_deal_7 rfl e (fun _ e => ?_) (fun _ e => ?_)
  · refine xB_ldc hF dX6_deal_10 kc_X6_85 ?_
    exact xB_ireturn hF dX6_deal_12 e
  · refine xB_iload_n hF dX6_deal_13 rfl ?_
    refine xB_bipush hF dX6_deal_14 kb_10 ?_
    refine xB_aload_n hF dX6_deal_16 rfl ?_
    refine xB_get hF dX6_deal_17 fl_X6_28 sC_0 rfl rfl ?_
    refine xB_get hF dX6_deal_20 fl_X6_86 isX5_24.1 rfl rfl ?_
    refine xB_isub hF dX6_deal_23 ?_
    refine xB_mmin hF dX6_deal_24 ml_X6_145 mw_min rfl rfl ?_
    replace e := nm_of e
    refine xB_istore_n (L' := [_, _, _, _]) hF dX6_deal_27 rfl rfl rfl ?_
    refine xB_iconst hF dX6_deal_28 ki_0 ?_
    refine xB_istore_n (L' := [_, _, _, _]) hF dX6_deal_29 rfl rfl rfl ?_
    exact xB_l (t_X6_deal_c30 hF _ _ _ _ e) (And.intro rfl (And.intro rfl (And.intro rfl (And.intro rfl (True.intro)))))
def f_X6_seed (a1 : Int32) (h : xH) : Option (Int32 × xH) :=
    nm (xst h 24 15 a1) fun h1 => some (h 24 15, h1)
set_option maxRecDepth 20000 in
set_option maxHeartbeats 2000000 in
theorem t_X6_seed {l : Launch} {γ : xG} {a1 : Int32} {h : xH} {r : Int32} {hr : xH} (e : f_X6_seed a1 h = some (r, hr)) : xCT l γ xSC yX6_seed cX6_seed 3 (some .int) 0 [.ref (γ.2.2.2 0), .int a1] h (some (.int r)) hr := by
  refine xCT.of (own := RX6) (L := [some (.ref (γ.2.2.2 0)), some (.int a1), none]) (by decide) rfl rfl rfl (fun C hF => ?_)
  unfold f_X6_seed at e
  refine xB_aload_n hF dX6_seed_0 rfl ?_
  refine xB_get hF dX6_seed_1 fl_X6_28 sC_0 rfl rfl ?_
  refine xB_get hF dX6_seed_4 fl_X6_153 isX5_24.1 rfl rfl ?_
  refine xB_istore_n (L' := [_, _, _]) hF dX6_seed_7 rfl rfl rfl ?_
  refine xB_aload_n hF dX6_seed_8 rfl ?_
  refine xB_get hF dX6_seed_9 fl_X6_28 sC_0 rfl rfl ?_
  refine xB_iload_n hF dX6_seed_12 rfl ?_
  refine xB_put hF dX6_seed_13 fp_X6_153 isX5_24.1 rfl rfl rfl rfl rfl ?_
  refine xB_gen e (fun h1 e => ?_)
  refine xB_iload_n hF dX6_seed_16 rfl ?_
  exact xB_ireturn hF dX6_seed_17 e
def f_X5_sell (w : Nat) (a1 : Int32) (a2 : Int32) (a3 : Int32) (h : xH) : Option (Int32 × xH) :=
    gd a1 10 <| nm (h (w + 5) (Int32.toNatClampNeg a1)) fun x1 => gd x1 6 <| nm ((h (w + 7) (Int32.toNatClampNeg x1)) + a3) fun x2 => gd a2 6 <| gd a2 6 <| nm (xst h (w + 7) (Int32.toNatClampNeg a2) ((h (w + 7) (Int32.toNatClampNeg a2)) - a3)) fun h3 => nm (if 9999 < x2 then 9999 else x2) fun x4 => gd x1 6 <| nm (xst h3 (w + 7) (Int32.toNatClampNeg x1) x4) fun h5 => gd x1 6 <| nm (xst h5 w 13 ((h5 w 13) + (x2 - (h5 (w + 7) (Int32.toNatClampNeg x1))))) fun h6 => gd a1 10 <| nm (xst h6 (w + 5) (Int32.toNatClampNeg a1) a2) fun h7 => gd a1 10 <| gd a1 10 <| nm (xst h7 (w + 6) (Int32.toNatClampNeg a1) ((h7 (w + 6) (Int32.toNatClampNeg a1)) ||| (1 <<< (a2 &&& 31)))) fun h8 => nm (xst h8 w 12 ((h8 w 12) + 1)) fun h9 => some (0, h9)
set_option maxRecDepth 20000 in
set_option maxHeartbeats 2000000 in
theorem t_X5_sell {l : Launch} {γ : xG} {w : Nat} {a1 : Int32} {a2 : Int32} {a3 : Int32} {h : xH} {r : Int32} {hr : xH} (hw : isX5 w) (e : f_X5_sell w a1 a2 a3 h = some (r, hr)) : xCT l γ xSC yX5_sell cX5_sell 6 none 1 [.ref (γ.2.2.2 w), .int a1, .int a2, .int a3] h none hr := by
  refine xCT.of (own := RX5) (L := [some (.ref (γ.2.2.2 w)), some (.int a1), some (.int a2), some (.int a3), none, none]) (by decide) rfl rfl rfl (fun C hF => ?_)
  unfold f_X5_sell at e
  refine xB_aload_n hF dX5_sell_0 rfl ?_
  refine xB_get hF dX5_sell_1 fl_X5_24 hw.1 rfl rfl ?_
  refine xB_iload_n hF dX5_sell_4 rfl ?_
  refine xB_iald hF dX5_sell_5 hw.2.2.2.2.2.1 e (fun e => ?_)
  refine xB_istore (L' := [_, _, _, _, _, _]) hF dX5_sell_6 rfl rfl rfl ?_
  replace e := nm_of e
  refine xB_aload_n hF dX5_sell_8 rfl ?_
  refine xB_get hF dX5_sell_9 fl_X5_30 hw.1 rfl rfl ?_
  refine xB_iload hF dX5_sell_12 rfl ?_
  refine xB_iald hF dX5_sell_14 hw.2.2.2.2.2.2.2.1 e (fun e => ?_)
  refine xB_iload_n hF dX5_sell_15 rfl ?_
  refine xB_iadd hF dX5_sell_16 ?_
  refine xB_istore (L' := [_, _, _, _, _, _]) hF dX5_sell_17 rfl rfl rfl ?_
  replace e := nm_of e
  refine xB_aload_n hF dX5_sell_19 rfl ?_
  refine xB_get hF dX5_sell_20 fl_X5_30 hw.1 rfl rfl ?_
  refine xB_iload_n hF dX5_sell_23 rfl ?_
  refine xB_dup2 hF dX5_sell_24 rfl rfl ?_
  refine xB_iald hF dX5_sell_25 hw.2.2.2.2.2.2.2.1 e (fun e => ?_)
  refine xB_iload_n hF dX5_sell_26 rfl ?_
  refine xB_isub hF dX5_sell_27 ?_
  refine xB_iast hF dX5_sell_28 hw.2.2.2.2.2.2.2.1 e (fun e => ?_)
  refine xB_gen e (fun h3 e => ?_)
  refine xB_aload_n hF dX5_sell_29 rfl ?_
  refine xB_get hF dX5_sell_30 fl_X5_30 hw.1 rfl rfl ?_
  refine xB_iload hF dX5_sell_33 rfl ?_
  refine xB_iload hF dX5_sell_35 rfl ?_
  refine xB_sipush hF dX5_sell_37 ks_9999 ?_
  refine xB_mmin hF dX5_sell_40 ml_X5_100 mw_min rfl rfl ?_
  replace e := nm_of e
  refine xB_iast hF dX5_sell_43 hw.2.2.2.2.2.2.2.1 e (fun e => ?_)
  refine xB_gen e (fun h5 e => ?_)
  refine xB_aload_n hF dX5_sell_44 rfl ?_
  refine xB_dup hF dX5_sell_45 rfl ?_
  refine xB_get hF dX5_sell_46 fl_X5_62 hw.1 rfl rfl ?_
  refine xB_iload hF dX5_sell_49 rfl ?_
  refine xB_aload_n hF dX5_sell_51 rfl ?_
  refine xB_get hF dX5_sell_52 fl_X5_30 hw.1 rfl rfl ?_
  refine xB_iload hF dX5_sell_55 rfl ?_
  refine xB_iald hF dX5_sell_57 hw.2.2.2.2.2.2.2.1 e (fun e => ?_)
  refine xB_isub hF dX5_sell_58 ?_
  refine xB_iadd hF dX5_sell_59 ?_
  refine xB_put hF dX5_sell_60 fp_X5_62 hw.1 rfl rfl rfl rfl rfl ?_
  refine xB_gen e (fun h6 e => ?_)
  refine xB_aload_n hF dX5_sell_63 rfl ?_
  refine xB_get hF dX5_sell_64 fl_X5_24 hw.1 rfl rfl ?_
  refine xB_iload_n hF dX5_sell_67 rfl ?_
  refine xB_iload_n hF dX5_sell_68 rfl ?_
  refine xB_iast hF dX5_sell_69 hw.2.2.2.2.2.1 e (fun e => ?_)
  refine xB_gen e (fun h7 e => ?_)
  refine xB_aload_n hF dX5_sell_70 rfl ?_
  refine xB_get hF dX5_sell_71 fl_X5_27 hw.1 rfl rfl ?_
  refine xB_iload_n hF dX5_sell_74 rfl ?_
  refine xB_dup2 hF dX5_sell_75 rfl rfl ?_
  refine xB_iald hF dX5_sell_76 hw.2.2.2.2.2.2.1 e (fun e => ?_)
  refine xB_iconst hF dX5_sell_77 ki_1 ?_
  refine xB_iload_n hF dX5_sell_78 rfl ?_
  refine xB_ishl hF dX5_sell_79 ?_
  refine xB_ior hF dX5_sell_80 ?_
  refine xB_iast hF dX5_sell_81 hw.2.2.2.2.2.2.1 e (fun e => ?_)
  refine xB_gen e (fun h8 e => ?_)
  refine xB_aload_n hF dX5_sell_82 rfl ?_
  refine xB_dup hF dX5_sell_83 rfl ?_
  refine xB_get hF dX5_sell_84 fl_X5_59 hw.1 rfl rfl ?_
  refine xB_iconst hF dX5_sell_87 ki_1 ?_
  refine xB_iadd hF dX5_sell_88 ?_
  refine xB_put hF dX5_sell_89 fp_X5_59 hw.1 rfl rfl rfl rfl rfl ?_
  refine xB_gen e (fun h9 e => ?_)
  exact xB_vreturn hF dX5_sell_92 e
def f_X6_sale (a1 : Int32) (a2 : Int32) (a3 : Int32) (h : xH) : Option (Int32 × xH) :=
    bn (f_X6_isDay a1 h) fun r1 h2 => if r1 = 0 then (some ((-1000000001), h2)) else (bn (f_X6_isOne a2 h2) fun r4 h5 => if r4 = 0 then (some ((-1000000001), h5)) else (bn (f_X6_within a3 0 9999 h5) fun r7 h8 => if r7 = 0 then (some ((-1000000001), h8)) else (gd a1 10 <| if (h8 29 (Int32.toNatClampNeg a1)) = a2 then (some ((-1000000002), h8)) else (gd a2 6 <| if a3 ≤ (h8 31 (Int32.toNatClampNeg a2)) then (bn (f_X5_sell 24 a1 a2 a3 h8) fun r10 h11 => some (h11 24 12, h11)) else (some ((-1000000002), h8))))))
set_option maxRecDepth 20000 in
set_option maxHeartbeats 2000000 in
theorem t_X6_sale {l : Launch} {γ : xG} {a1 : Int32} {a2 : Int32} {a3 : Int32} {h : xH} {r : Int32} {hr : xH} (e : f_X6_sale a1 a2 a3 h = some (r, hr)) : xCT l γ xSC yX6_sale cX6_sale 4 (some .int) 2 [.ref (γ.2.2.2 0), .int a1, .int a2, .int a3] h (some (.int r)) hr := by
  refine xCT.of (own := RX6) (L := [some (.ref (γ.2.2.2 0)), some (.int a1), some (.int a2), some (.int a3)]) (by decide) rfl rfl rfl (fun C hF => ?_)
  unfold f_X6_sale at e
  refine xB_aload_n hF dX6_sale_0 rfl ?_
  refine xB_iload_n hF dX6_sale_1 rfl ?_
  obtain ⟨r1, h2, e3, e⟩ := bn_of e
  refine xB_callVi hF dX6_sale_2 (t_X6_isDay e3) cw_X6_94 sC_0 rfl rfl rfl rfl rfl ?_
  refine xB_if_eq (tgt := 26) hF dX6_sale_5 rfl e (fun _ e => ?_) (fun _ e => ?_)
  · refine xB_ldc hF dX6_sale_26 kc_X6_85 ?_
    exact xB_ireturn hF dX6_sale_28 e
  · refine xB_iload_n hF dX6_sale_8 rfl ?_
    obtain ⟨r4, h5, e6, e⟩ := bn_of e
    refine xB_callSi hF dX6_sale_9 (t_X6_isOne e6) cw_X6_82 rfl rfl rfl rfl ?_
    refine xB_if_eq (tgt := 26) hF dX6_sale_12 rfl e (fun _ e => ?_) (fun _ e => ?_)
    · refine xB_ldc hF dX6_sale_26 kc_X6_85 ?_
      exact xB_ireturn hF dX6_sale_28 e
    · refine xB_iload_n hF dX6_sale_15 rfl ?_
      refine xB_iconst hF dX6_sale_16 ki_0 ?_
      refine xB_sipush hF dX6_sale_17 ks_9999 ?_
      obtain ⟨r7, h8, e9, e⟩ := bn_of e
      refine xB_callSi hF dX6_sale_20 (t_X6_within e9) cw_X6_78 rfl rfl rfl rfl ?_
      refine xB_if_ne (tgt := 29) hF dX6_sale_23 rfl e (fun _ e => ?_) (fun _ e => ?_)
      · refine xB_ldc hF dX6_sale_26 kc_X6_85 ?_
        exact xB_ireturn hF dX6_sale_28 e
      · refine xB_aload_n hF dX6_sale_29 rfl ?_
        refine xB_get hF dX6_sale_30 fl_X6_28 sC_0 rfl rfl ?_
        refine xB_get hF dX6_sale_33 fl_X6_109 isX5_24.1 rfl rfl ?_
        refine xB_iload_n hF dX6_sale_36 rfl ?_
        refine xB_iald hF dX6_sale_37 sC_29 e (fun e => ?_)
        refine xB_iload_n hF dX6_sale_38 rfl ?_
        refine xB_icmp_eq (tgt := 55) hF dX6_sale_39 rfl e (fun _ e => ?_) (fun _ e => ?_)
        · refine xB_ldc hF dX6_sale_55 kc_X6_156 ?_
          exact xB_ireturn hF dX6_sale_57 e
        · refine xB_aload_n hF dX6_sale_42 rfl ?_
          refine xB_get hF dX6_sale_43 fl_X6_28 sC_0 rfl rfl ?_
          refine xB_get hF dX6_sale_46 fl_X6_132 isX5_24.1 rfl rfl ?_
          refine xB_iload_n hF dX6_sale_49 rfl ?_
          refine xB_iald hF dX6_sale_50 sC_31 e (fun e => ?_)
          refine xB_iload_n hF dX6_sale_51 rfl ?_
          refine xB_icmp_ge (tgt := 58) hF dX6_sale_52 rfl e (fun _ e => ?_) (fun _ e => ?_)
          · refine xB_aload_n hF dX6_sale_58 rfl ?_
            refine xB_get hF dX6_sale_59 fl_X6_28 sC_0 rfl rfl ?_
            refine xB_iload_n hF dX6_sale_62 rfl ?_
            refine xB_iload_n hF dX6_sale_63 rfl ?_
            refine xB_iload_n hF dX6_sale_64 rfl ?_
            obtain ⟨r10, h11, e12, e⟩ := bn_of e
            refine xB_callVv hF dX6_sale_65 (t_X5_sell isX5_24 e12) cw_X6_157 isX5_24.1 rfl rfl rfl rfl rfl ?_
            refine xB_aload_n hF dX6_sale_68 rfl ?_
            refine xB_get hF dX6_sale_69 fl_X6_28 sC_0 rfl rfl ?_
            refine xB_get hF dX6_sale_72 fl_X6_161 isX5_24.1 rfl rfl ?_
            exact xB_ireturn hF dX6_sale_75 e
          · refine xB_ldc hF dX6_sale_55 kc_X6_156 ?_
            exact xB_ireturn hF dX6_sale_57 e
def f_X5_bestBidder_c71 (k29 : Int32 → Int32 → Int32 → xH → Option (Int32 × xH)) (w : Nat) (a1 : Int32) (a2 : Int32) (v3 : Int32) (v4 : Int32) (v5 : Int32) (h : xH) : Option (Int32 × xH) :=
    k29 v3 v4 (v5 + 1) h
set_option maxRecDepth 20000 in
set_option maxHeartbeats 2000000 in
theorem t_X5_bestBidder_c71 {l : Launch} {γ : xG} {k29 : Int32 → Int32 → Int32 → xH → Option (Int32 × xH)} {w : Nat} {a1 : Int32} {a2 : Int32} {r : Int32} {hr : xH} {C : xCx} (hF : xF C cX5_bestBidder RX5 7 2 γ xSC (some (.int r)) hr l (some .int)) (hw : isX5 w) (hk29 : ∀ (v3 : Int32) (v4 : Int32) (v5 : Int32) (h : xH), k29 v3 v4 v5 h = some (r, hr) → xB C h 29 [some (.ref (γ.2.2.2 w)), some (.int a1), some (.int a2), some (.int v3), some (.int v4), some (.int v5), none] []) : ∀ (v3 : Int32) (v4 : Int32) (v5 : Int32) (h : xH), f_X5_bestBidder_c71 k29 w a1 a2 v3 v4 v5 h = some (r, hr) → xB C h 71 [some (.ref (γ.2.2.2 w)), some (.int a1), some (.int a2), some (.int v3), some (.int v4), some (.int v5), none] [] := by
  intro v3 v4 v5 h e
  unfold f_X5_bestBidder_c71 at e
  refine xB_iinc (L' := [_, _, _, _, _, _, _]) hF dX5_bestBidder_71 rfl ki_1 rfl rfl rfl ?_
  refine xB_goto (tgt := 29) hF dX5_bestBidder_74 rfl ?_
  exact xB_l (hk29 _ _ _ _ e) (And.intro rfl (And.intro rfl (And.intro rfl (And.intro rfl (And.intro rfl (And.intro rfl (True.intro)))))))
def f_X5_bestBidder_c29 (w : Nat) (a1 : Int32) (a2 : Int32) : Nat → Int32 → Int32 → Int32 → xH → Option (Int32 × xH)
  | 0, _, _, _, _ => none
  | n + 1, v3, v4, v5, h =>
    if 6 ≤ v5 then (some (v3, h)) else (bn (f_X5_bidOf w v5 a1 a2 h) fun r1 h2 => gd a1 10 <| if v5 = (h2 (w + 5) (Int32.toNatClampNeg a1)) then (f_X5_bestBidder_c71 (f_X5_bestBidder_c29 w a1 a2 n) w a1 a2 v3 v4 v5 h2) else (if r1 ≤ v4 then (f_X5_bestBidder_c71 (f_X5_bestBidder_c29 w a1 a2 n) w a1 a2 v3 v4 v5 h2) else (f_X5_bestBidder_c71 (f_X5_bestBidder_c29 w a1 a2 n) w a1 a2 v5 r1 v5 h2)))
set_option maxRecDepth 20000 in
set_option maxHeartbeats 2000000 in
theorem t_X5_bestBidder_c29 {l : Launch} {γ : xG} {w : Nat} {a1 : Int32} {a2 : Int32} {r : Int32} {hr : xH} {C : xCx} (hF : xF C cX5_bestBidder RX5 7 2 γ xSC (some (.int r)) hr l (some .int)) (hw : isX5 w) : ∀ (n : Nat) (v3 : Int32) (v4 : Int32) (v5 : Int32) (h : xH), f_X5_bestBidder_c29 w a1 a2 n v3 v4 v5 h = some (r, hr) → xB C h 29 [some (.ref (γ.2.2.2 w)), some (.int a1), some (.int a2), some (.int v3), some (.int v4), some (.int v5), none] [] := by
  intro n
  induction n with
  | zero => intro v3 v4 v5 h e; cases e
  | succ n ih =>
    intro v3 v4 v5 h e
    rw [f_X5_bestBidder_c29] at e
    refine xB_iload hF dX5_bestBidder_29 rfl ?_
    refine xB_bipush hF dX5_bestBidder_31 kb_6 ?_
    refine xB_icmp_ge (tgt := 77) hF dX5_bestBidder_33 rfl e (fun _ e => ?_) (fun _ e => ?_)
    · refine xB_iload_n hF dX5_bestBidder_77 rfl ?_
      exact xB_ireturn hF dX5_bestBidder_78 e
    · refine xB_aload_n hF dX5_bestBidder_36 rfl ?_
      refine xB_iload hF dX5_bestBidder_37 rfl ?_
      refine xB_iload_n hF dX5_bestBidder_39 rfl ?_
      refine xB_iload_n hF dX5_bestBidder_40 rfl ?_
      obtain ⟨r1, h2, e3, e⟩ := bn_of e
      refine xB_callVi hF dX5_bestBidder_41 (t_X5_bidOf hw e3) cw_X5_103 hw.1 rfl rfl rfl rfl rfl ?_
      refine xB_istore (L' := [_, _, _, _, _, _, _]) hF dX5_bestBidder_44 rfl rfl rfl ?_
      refine xB_iload hF dX5_bestBidder_46 rfl ?_
      refine xB_aload_n hF dX5_bestBidder_48 rfl ?_
      refine xB_get hF dX5_bestBidder_49 fl_X5_24 hw.1 rfl rfl ?_
      refine xB_iload_n hF dX5_bestBidder_52 rfl ?_
      refine xB_iald hF dX5_bestBidder_53 hw.2.2.2.2.2.1 e (fun e => ?_)
      refine xB_icmp_eq (tgt := 71) hF dX5_bestBidder_54 rfl e (fun _ e => ?_) (fun _ e => ?_)
      · exact xB_l (t_X5_bestBidder_c71 hF hw ih _ _ _ _ e) (And.intro rfl (And.intro rfl (And.intro rfl (And.intro rfl (And.intro rfl (And.intro rfl (True.intro)))))))
      · refine xB_iload hF dX5_bestBidder_57 rfl ?_
        refine xB_iload hF dX5_bestBidder_59 rfl ?_
        refine xB_icmp_le (tgt := 71) hF dX5_bestBidder_61 rfl e (fun _ e => ?_) (fun _ e => ?_)
        · exact xB_l (t_X5_bestBidder_c71 hF hw ih _ _ _ _ e) (And.intro rfl (And.intro rfl (And.intro rfl (And.intro rfl (And.intro rfl (And.intro rfl (True.intro)))))))
        · refine xB_iload hF dX5_bestBidder_64 rfl ?_
          refine xB_istore_n (L' := [_, _, _, _, _, _, _]) hF dX5_bestBidder_66 rfl rfl rfl ?_
          refine xB_iload hF dX5_bestBidder_67 rfl ?_
          refine xB_istore (L' := [_, _, _, _, _, _, _]) hF dX5_bestBidder_69 rfl rfl rfl ?_
          exact xB_l (t_X5_bestBidder_c71 hF hw ih _ _ _ _ e) (And.intro rfl (And.intro rfl (And.intro rfl (And.intro rfl (And.intro rfl (And.intro rfl (True.intro)))))))
def f_X5_bestBidder_c14 (w : Nat) (a1 : Int32) (a2 : Int32) (s0 : Int32) (h : xH) : Option (Int32 × xH) :=
    bn (f_X5_bidOf w s0 a1 a2 h) fun r1 h2 => f_X5_bestBidder_c29 w a1 a2 xN s0 r1 (s0 + 1) h2
set_option maxRecDepth 20000 in
set_option maxHeartbeats 2000000 in
theorem t_X5_bestBidder_c14 {l : Launch} {γ : xG} {w : Nat} {a1 : Int32} {a2 : Int32} {r : Int32} {hr : xH} {C : xCx} (hF : xF C cX5_bestBidder RX5 7 2 γ xSC (some (.int r)) hr l (some .int)) (hw : isX5 w) : ∀ (s0 : Int32) (h : xH), f_X5_bestBidder_c14 w a1 a2 s0 h = some (r, hr) → xB C h 14 [some (.ref (γ.2.2.2 w)), some (.int a1), some (.int a2), none, none, none, none] [.int s0] := by
  intro s0 h e
  unfold f_X5_bestBidder_c14 at e
  refine xB_istore_n (L' := [_, _, _, _, _, _, _]) hF dX5_bestBidder_14 rfl rfl rfl ?_
  refine xB_aload_n hF dX5_bestBidder_15 rfl ?_
  refine xB_iload_n hF dX5_bestBidder_16 rfl ?_
  refine xB_iload_n hF dX5_bestBidder_17 rfl ?_
  refine xB_iload_n hF dX5_bestBidder_18 rfl ?_
  obtain ⟨r1, h2, e3, e⟩ := bn_of e
  refine xB_callVi hF dX5_bestBidder_19 (t_X5_bidOf hw e3) cw_X5_103 hw.1 rfl rfl rfl rfl rfl ?_
  refine xB_istore (L' := [_, _, _, _, _, _, _]) hF dX5_bestBidder_22 rfl rfl rfl ?_
  refine xB_iload_n hF dX5_bestBidder_24 rfl ?_
  refine xB_iconst hF dX5_bestBidder_25 ki_1 ?_
  refine xB_iadd hF dX5_bestBidder_26 ?_
  refine xB_istore (L' := [_, _, _, _, _, _, _]) hF dX5_bestBidder_27 rfl rfl rfl ?_
  exact xB_l (t_X5_bestBidder_c29 hF hw _ _ _ _ _ e) (And.intro rfl (And.intro rfl (And.intro rfl (And.intro rfl (And.intro rfl (And.intro rfl (True.intro)))))))
def f_X5_bestBidder (w : Nat) (a1 : Int32) (a2 : Int32) (h : xH) : Option (Int32 × xH) :=
    gd a1 10 <| if (h (w + 5) (Int32.toNatClampNeg a1)) = 0 then (f_X5_bestBidder_c14 w a1 a2 1 h) else (f_X5_bestBidder_c14 w a1 a2 0 h)
set_option maxRecDepth 20000 in
set_option maxHeartbeats 2000000 in
theorem t_X5_bestBidder {l : Launch} {γ : xG} {w : Nat} {a1 : Int32} {a2 : Int32} {h : xH} {r : Int32} {hr : xH} (hw : isX5 w) (e : f_X5_bestBidder w a1 a2 h = some (r, hr)) : xCT l γ xSC yX5_bestBidder cX5_bestBidder 7 (some .int) 2 [.ref (γ.2.2.2 w), .int a1, .int a2] h (some (.int r)) hr := by
  refine xCT.of (own := RX5) (L := [some (.ref (γ.2.2.2 w)), some (.int a1), some (.int a2), none, none, none, none]) (by decide) rfl rfl rfl (fun C hF => ?_)
  unfold f_X5_bestBidder at e
  refine xB_aload_n hF dX5_bestBidder_0 rfl ?_
  refine xB_get hF dX5_bestBidder_1 fl_X5_24 hw.1 rfl rfl ?_
  refine xB_iload_n hF dX5_bestBidder_4 rfl ?_
  refine xB_iald hF dX5_bestBidder_5 hw.2.2.2.2.2.1 e (fun e => ?_)
  refine xB_if_ne (tgt := 13) hF dX5_bestBidder_6 rfl e (fun _ e => ?_) (fun _ e => ?_)
  · refine xB_iconst hF dX5_bestBidder_9 ki_1 ?_
    refine xB_goto (tgt := 14) hF dX5_bestBidder_10 rfl ?_
    exact xB_l (t_X5_bestBidder_c14 hF hw _ _ e) (And.intro rfl (And.intro rfl (And.intro rfl (True.intro))))
  · refine xB_iconst hF dX5_bestBidder_13 ki_0 ?_
    exact xB_l (t_X5_bestBidder_c14 hF hw _ _ e) (And.intro rfl (And.intro rfl (And.intro rfl (True.intro))))
def f_X5_sellDays_c57 (k2 : Int32 → xH → Option (Int32 × xH)) (w : Nat) (v1 : Int32) (h : xH) : Option (Int32 × xH) :=
    k2 (v1 + 1) h
set_option maxRecDepth 20000 in
set_option maxHeartbeats 2000000 in
theorem t_X5_sellDays_c57 {l : Launch} {γ : xG} {k2 : Int32 → xH → Option (Int32 × xH)} {w : Nat} {r : Int32} {hr : xH} {C : xCx} (hF : xF C cX5_sellDays RX5 5 4 γ xSC none hr l none) (hw : isX5 w) (hk2 : ∀ (v1 : Int32) (h : xH), k2 v1 h = some (r, hr) → xB C h 2 [some (.ref (γ.2.2.2 w)), some (.int v1), none, none, none] []) : ∀ (v1 : Int32) (h : xH), f_X5_sellDays_c57 k2 w v1 h = some (r, hr) → xB C h 57 [some (.ref (γ.2.2.2 w)), some (.int v1), none, none, none] [] := by
  intro v1 h e
  unfold f_X5_sellDays_c57 at e
  refine xB_iinc (L' := [_, _, _, _, _]) hF dX5_sellDays_57 rfl ki_1 rfl rfl rfl ?_
  refine xB_goto (tgt := 2) hF dX5_sellDays_60 rfl ?_
  exact xB_l (hk2 _ _ e) (And.intro rfl (And.intro rfl (True.intro)))
def f_X5_sellDays_c2 (w : Nat) : Nat → Int32 → xH → Option (Int32 × xH)
  | 0, _, _ => none
  | n + 1, v1, h =>
    if (h w 10) ≤ v1 then (some (0, h)) else (bn (f_X5_valueOf w v1 h) fun r1 h2 => bn (f_X5_bestBidder w v1 r1 h2) fun r4 h5 => bn (f_X5_bidOf w r4 v1 r1 h5) fun r7 h8 => gd v1 10 <| bn (f_X5_bidOf w (h8 (w + 5) (Int32.toNatClampNeg v1)) v1 r1 h8) fun r10 h11 => if r7 ≤ r10 then (f_X5_sellDays_c57 (f_X5_sellDays_c2 w n) w v1 h11) else (bn (f_X5_sell w v1 r4 r7 h11) fun r13 h14 => f_X5_sellDays_c57 (f_X5_sellDays_c2 w n) w v1 h14))
set_option maxRecDepth 20000 in
set_option maxHeartbeats 2000000 in
theorem t_X5_sellDays_c2 {l : Launch} {γ : xG} {w : Nat} {r : Int32} {hr : xH} {C : xCx} (hF : xF C cX5_sellDays RX5 5 4 γ xSC none hr l none) (hw : isX5 w) : ∀ (n : Nat) (v1 : Int32) (h : xH), f_X5_sellDays_c2 w n v1 h = some (r, hr) → xB C h 2 [some (.ref (γ.2.2.2 w)), some (.int v1), none, none, none] [] := by
  intro n
  induction n with
  | zero => intro v1 h e; cases e
  | succ n ih =>
    intro v1 h e
    rw [f_X5_sellDays_c2] at e
    refine xB_iload_n hF dX5_sellDays_2 rfl ?_
    refine xB_aload_n hF dX5_sellDays_3 rfl ?_
    refine xB_get hF dX5_sellDays_4 fl_X5_53 hw.1 rfl rfl ?_
    refine xB_icmp_ge (tgt := 63) hF dX5_sellDays_7 rfl e (fun _ e => ?_) (fun _ e => ?_)
    · exact xB_vreturn hF dX5_sellDays_63 e
    · refine xB_aload_n hF dX5_sellDays_10 rfl ?_
      refine xB_iload_n hF dX5_sellDays_11 rfl ?_
      obtain ⟨r1, h2, e3, e⟩ := bn_of e
      refine xB_callVi hF dX5_sellDays_12 (t_X5_valueOf hw e3) cw_X5_112 hw.1 rfl rfl rfl rfl rfl ?_
      refine xB_istore_n (L' := [_, _, _, _, _]) hF dX5_sellDays_15 rfl rfl rfl ?_
      refine xB_aload_n hF dX5_sellDays_16 rfl ?_
      refine xB_iload_n hF dX5_sellDays_17 rfl ?_
      refine xB_iload_n hF dX5_sellDays_18 rfl ?_
      obtain ⟨r4, h5, e6, e⟩ := bn_of e
      refine xB_callVi hF dX5_sellDays_19 (t_X5_bestBidder hw e6) cw_X5_115 hw.1 rfl rfl rfl rfl rfl ?_
      refine xB_istore_n (L' := [_, _, _, _, _]) hF dX5_sellDays_22 rfl rfl rfl ?_
      refine xB_aload_n hF dX5_sellDays_23 rfl ?_
      refine xB_iload_n hF dX5_sellDays_24 rfl ?_
      refine xB_iload_n hF dX5_sellDays_25 rfl ?_
      refine xB_iload_n hF dX5_sellDays_26 rfl ?_
      obtain ⟨r7, h8, e9, e⟩ := bn_of e
      refine xB_callVi hF dX5_sellDays_27 (t_X5_bidOf hw e9) cw_X5_103 hw.1 rfl rfl rfl rfl rfl ?_
      refine xB_istore (L' := [_, _, _, _, _]) hF dX5_sellDays_30 rfl rfl rfl ?_
      refine xB_iload hF dX5_sellDays_32 rfl ?_
      refine xB_aload_n hF dX5_sellDays_34 rfl ?_
      refine xB_aload_n hF dX5_sellDays_35 rfl ?_
      refine xB_get hF dX5_sellDays_36 fl_X5_24 hw.1 rfl rfl ?_
      refine xB_iload_n hF dX5_sellDays_39 rfl ?_
      refine xB_iald hF dX5_sellDays_40 hw.2.2.2.2.2.1 e (fun e => ?_)
      refine xB_iload_n hF dX5_sellDays_41 rfl ?_
      refine xB_iload_n hF dX5_sellDays_42 rfl ?_
      obtain ⟨r10, h11, e12, e⟩ := bn_of e
      refine xB_callVi hF dX5_sellDays_43 (t_X5_bidOf hw e12) cw_X5_103 hw.1 rfl rfl rfl rfl rfl ?_
      refine xB_icmp_le (tgt := 57) hF dX5_sellDays_46 rfl e (fun _ e => ?_) (fun _ e => ?_)
      · exact xB_l (t_X5_sellDays_c57 hF hw ih _ _ e) (And.intro rfl (And.intro rfl (True.intro)))
      · refine xB_aload_n hF dX5_sellDays_49 rfl ?_
        refine xB_iload_n hF dX5_sellDays_50 rfl ?_
        refine xB_iload_n hF dX5_sellDays_51 rfl ?_
        refine xB_iload hF dX5_sellDays_52 rfl ?_
        obtain ⟨r13, h14, e15, e⟩ := bn_of e
        refine xB_callVv hF dX5_sellDays_54 (t_X5_sell hw e15) cw_X5_118 hw.1 rfl rfl rfl rfl rfl ?_
        exact xB_l (t_X5_sellDays_c57 hF hw ih _ _ e) (And.intro rfl (And.intro rfl (True.intro)))
def f_X5_sellDays (w : Nat) (h : xH) : Option (Int32 × xH) :=
    f_X5_sellDays_c2 w xN 0 h
set_option maxRecDepth 20000 in
set_option maxHeartbeats 2000000 in
theorem t_X5_sellDays {l : Launch} {γ : xG} {w : Nat} {h : xH} {r : Int32} {hr : xH} (hw : isX5 w) (e : f_X5_sellDays w h = some (r, hr)) : xCT l γ xSC yX5_sellDays cX5_sellDays 5 none 4 [.ref (γ.2.2.2 w)] h none hr := by
  refine xCT.of (own := RX5) (L := [some (.ref (γ.2.2.2 w)), none, none, none, none]) (by decide) rfl rfl rfl (fun C hF => ?_)
  unfold f_X5_sellDays at e
  refine xB_iconst hF dX5_sellDays_0 ki_0 ?_
  refine xB_istore_n (L' := [_, _, _, _, _]) hF dX5_sellDays_1 rfl rfl rfl ?_
  exact xB_l (t_X5_sellDays_c2 hF hw _ _ _ e) (And.intro rfl (And.intro rfl (True.intro)))
def f_X5_wearDays_c62 (k9 : Int32 → Int32 → xH → Option (Int32 × xH)) (w : Nat) (v1 : Int32) (v2 : Int32) (s0 : Int32) (h : xH) : Option (Int32 × xH) :=
    gd v2 10 <| nm (if 99 < ((h (w + 4) (Int32.toNatClampNeg v2)) + s0) then 99 else ((h (w + 4) (Int32.toNatClampNeg v2)) + s0)) fun x1 => gd v2 10 <| nm (xst h (w + 4) (Int32.toNatClampNeg v2) x1) fun h2 => k9 v1 (v2 + 1) h2
set_option maxRecDepth 20000 in
set_option maxHeartbeats 2000000 in
theorem t_X5_wearDays_c62 {l : Launch} {γ : xG} {k9 : Int32 → Int32 → xH → Option (Int32 × xH)} {w : Nat} {r : Int32} {hr : xH} {C : xCx} (hF : xF C cX5_wearDays RX5 5 2 γ xSC none hr l none) (hw : isX5 w) (hk9 : ∀ (v1 : Int32) (v2 : Int32) (h : xH), k9 v1 v2 h = some (r, hr) → xB C h 9 [some (.ref (γ.2.2.2 w)), some (.int v1), some (.int v2), none, none] []) : ∀ (v1 : Int32) (v2 : Int32) (s0 : Int32) (h : xH), f_X5_wearDays_c62 k9 w v1 v2 s0 h = some (r, hr) → xB C h 62 [some (.ref (γ.2.2.2 w)), some (.int v1), some (.int v2), none, none] [.int s0] := by
  intro v1 v2 s0 h e
  unfold f_X5_wearDays_c62 at e
  refine xB_istore (L' := [_, _, _, _, _]) hF dX5_wearDays_62 rfl rfl rfl ?_
  refine xB_aload_n hF dX5_wearDays_64 rfl ?_
  refine xB_get hF dX5_wearDays_65 fl_X5_21 hw.1 rfl rfl ?_
  refine xB_iload_n hF dX5_wearDays_68 rfl ?_
  refine xB_aload_n hF dX5_wearDays_69 rfl ?_
  refine xB_get hF dX5_wearDays_70 fl_X5_21 hw.1 rfl rfl ?_
  refine xB_iload_n hF dX5_wearDays_73 rfl ?_
  refine xB_iald hF dX5_wearDays_74 hw.2.2.2.2.1 e (fun e => ?_)
  refine xB_iload hF dX5_wearDays_75 rfl ?_
  refine xB_iadd hF dX5_wearDays_77 ?_
  refine xB_bipush hF dX5_wearDays_78 kb_99 ?_
  refine xB_mmin hF dX5_wearDays_80 ml_X5_100 mw_min rfl rfl ?_
  replace e := nm_of e
  refine xB_iast hF dX5_wearDays_83 hw.2.2.2.2.1 e (fun e => ?_)
  refine xB_gen e (fun h2 e => ?_)
  refine xB_iinc (L' := [_, _, _, _, _]) hF dX5_wearDays_84 rfl ki_1 rfl rfl rfl ?_
  refine xB_goto (tgt := 9) hF dX5_wearDays_87 rfl ?_
  exact xB_l (hk9 _ _ _ e) (And.intro rfl (And.intro rfl (And.intro rfl (True.intro))))
def f_X5_wearDays_c9 (w : Nat) : Nat → Int32 → Int32 → xH → Option (Int32 × xH)
  | 0, _, _, _ => none
  | n + 1, v1, v2, h =>
    if (h w 10) ≤ v2 then (some (0, h)) else (bn (f_X5_draw w h) fun r1 h2 => if 0 ≤ v1 then (gd v2 10 <| gd v2 10 <| bn (f_X0_workOut v1 (r1 - r1 / 10 * 10) (h2 (w + 3) (Int32.toNatClampNeg v2)) (h2 (w + 4) (Int32.toNatClampNeg v2)) h2) fun r4 h5 => bn (f_X6_held r4 0 20 h5) fun r7 h8 => f_X5_wearDays_c62 (f_X5_wearDays_c9 w n) w v1 v2 r7 h8) else (f_X5_wearDays_c62 (f_X5_wearDays_c9 w n) w v1 v2 ((r1 - r1 / 10 * 10) / 3) h2))
set_option maxRecDepth 20000 in
set_option maxHeartbeats 2000000 in
theorem t_X5_wearDays_c9 {l : Launch} {γ : xG} {w : Nat} {r : Int32} {hr : xH} {C : xCx} (hF : xF C cX5_wearDays RX5 5 2 γ xSC none hr l none) (hw : isX5 w) : ∀ (n : Nat) (v1 : Int32) (v2 : Int32) (h : xH), f_X5_wearDays_c9 w n v1 v2 h = some (r, hr) → xB C h 9 [some (.ref (γ.2.2.2 w)), some (.int v1), some (.int v2), none, none] [] := by
  intro n
  induction n with
  | zero => intro v1 v2 h e; cases e
  | succ n ih =>
    intro v1 v2 h e
    rw [f_X5_wearDays_c9] at e
    refine xB_iload_n hF dX5_wearDays_9 rfl ?_
    refine xB_aload_n hF dX5_wearDays_10 rfl ?_
    refine xB_get hF dX5_wearDays_11 fl_X5_53 hw.1 rfl rfl ?_
    refine xB_icmp_ge (tgt := 90) hF dX5_wearDays_14 rfl e (fun _ e => ?_) (fun _ e => ?_)
    · exact xB_vreturn hF dX5_wearDays_90 e
    · refine xB_aload_n hF dX5_wearDays_17 rfl ?_
      obtain ⟨r1, h2, e3, e⟩ := bn_of e
      refine xB_callVi hF dX5_wearDays_18 (t_X5_draw hw e3) cw_X5_70 hw.1 rfl rfl rfl rfl rfl ?_
      refine xB_bipush hF dX5_wearDays_21 kb_10 ?_
      refine xB_iremc hF dX5_wearDays_23 (by decide) ?_
      refine xB_istore_n (L' := [_, _, _, _, _]) hF dX5_wearDays_24 rfl rfl rfl ?_
      refine xB_iload_n hF dX5_wearDays_25 rfl ?_
      refine xB_if_ge (tgt := 35) hF dX5_wearDays_26 rfl e (fun _ e => ?_) (fun _ e => ?_)
      · refine xB_aload_n hF dX5_wearDays_35 rfl ?_
        refine xB_get hF dX5_wearDays_36 fl_X5_39 hw.1 rfl rfl ?_
        refine xB_iload_n hF dX5_wearDays_39 rfl ?_
        refine xB_iload_n hF dX5_wearDays_40 rfl ?_
        refine xB_aload_n hF dX5_wearDays_41 rfl ?_
        refine xB_get hF dX5_wearDays_42 fl_X5_18 hw.1 rfl rfl ?_
        refine xB_iload_n hF dX5_wearDays_45 rfl ?_
        refine xB_iald hF dX5_wearDays_46 hw.2.2.2.1 e (fun e => ?_)
        refine xB_aload_n hF dX5_wearDays_47 rfl ?_
        refine xB_get hF dX5_wearDays_48 fl_X5_21 hw.1 rfl rfl ?_
        refine xB_iload_n hF dX5_wearDays_51 rfl ?_
        refine xB_iald hF dX5_wearDays_52 hw.2.2.2.2.1 e (fun e => ?_)
        obtain ⟨r4, h5, e6, e⟩ := bn_of e
        refine xB_callVi hF dX5_wearDays_53 (t_X0_workOut e6) cw_X5_84 sC_1 rfl rfl rfl rfl rfl ?_
        refine xB_iconst hF dX5_wearDays_56 ki_0 ?_
        refine xB_bipush hF dX5_wearDays_57 kb_20 ?_
        obtain ⟨r7, h8, e9, e⟩ := bn_of e
        refine xB_callNi hF dX5_wearDays_59 (t_X6_held e9) cw_X5_89 rfl rfl rfl rfl ?_
        exact xB_l (t_X5_wearDays_c62 hF hw ih _ _ _ _ e) (And.intro rfl (And.intro rfl (And.intro rfl (True.intro))))
      · refine xB_iload_n hF dX5_wearDays_29 rfl ?_
        refine xB_iconst hF dX5_wearDays_30 ki_3 ?_
        refine xB_idivc hF dX5_wearDays_31 (by decide) ?_
        refine xB_goto (tgt := 62) hF dX5_wearDays_32 rfl ?_
        exact xB_l (t_X5_wearDays_c62 hF hw ih _ _ _ _ e) (And.intro rfl (And.intro rfl (And.intro rfl (True.intro))))
def f_X5_wearDays (w : Nat) (h : xH) : Option (Int32 × xH) :=
    gd 1 3 <| nm (h (w + 9) (Int32.toNatClampNeg 1)) fun x1 => f_X5_wearDays_c9 w xN x1 0 h
set_option maxRecDepth 20000 in
set_option maxHeartbeats 2000000 in
theorem t_X5_wearDays {l : Launch} {γ : xG} {w : Nat} {h : xH} {r : Int32} {hr : xH} (hw : isX5 w) (e : f_X5_wearDays w h = some (r, hr)) : xCT l γ xSC yX5_wearDays cX5_wearDays 5 none 2 [.ref (γ.2.2.2 w)] h none hr := by
  refine xCT.of (own := RX5) (L := [some (.ref (γ.2.2.2 w)), none, none, none, none]) (by decide) rfl rfl rfl (fun C hF => ?_)
  unfold f_X5_wearDays at e
  refine xB_aload_n hF dX5_wearDays_0 rfl ?_
  refine xB_get hF dX5_wearDays_1 fl_X5_36 hw.1 rfl rfl ?_
  refine xB_iconst hF dX5_wearDays_4 ki_1 ?_
  refine xB_iald hF dX5_wearDays_5 hw.2.2.2.2.2.2.2.2.2 e (fun e => ?_)
  refine xB_istore_n (L' := [_, _, _, _, _]) hF dX5_wearDays_6 rfl rfl rfl ?_
  replace e := nm_of e
  refine xB_iconst hF dX5_wearDays_7 ki_0 ?_
  refine xB_istore_n (L' := [_, _, _, _, _]) hF dX5_wearDays_8 rfl rfl rfl ?_
  exact xB_l (t_X5_wearDays_c9 hF hw _ _ _ _ e) (And.intro rfl (And.intro rfl (And.intro rfl (True.intro))))
def f_X5_goOn_c2 (w : Nat) (a1 : Int32) : Nat → Int32 → xH → Option (Int32 × xH)
  | 0, _, _ => none
  | n + 1, v2, h =>
    if a1 ≤ v2 then (some (0, h)) else (bn (f_X5_wearDays w h) fun r1 h2 => bn (f_X5_sellDays w h2) fun r4 h5 => nm (xst h5 w 14 ((h5 w 14) + 1)) fun h7 => f_X5_goOn_c2 w a1 n (v2 + 1) h7)
set_option maxRecDepth 20000 in
set_option maxHeartbeats 2000000 in
theorem t_X5_goOn_c2 {l : Launch} {γ : xG} {w : Nat} {a1 : Int32} {r : Int32} {hr : xH} {C : xCx} (hF : xF C cX5_goOn RX5 3 5 γ xSC none hr l none) (hw : isX5 w) : ∀ (n : Nat) (v2 : Int32) (h : xH), f_X5_goOn_c2 w a1 n v2 h = some (r, hr) → xB C h 2 [some (.ref (γ.2.2.2 w)), some (.int a1), some (.int v2)] [] := by
  intro n
  induction n with
  | zero => intro v2 h e; cases e
  | succ n ih =>
    intro v2 h e
    rw [f_X5_goOn_c2] at e
    refine xB_iload_n hF dX5_goOn_2 rfl ?_
    refine xB_iload_n hF dX5_goOn_3 rfl ?_
    refine xB_icmp_ge (tgt := 31) hF dX5_goOn_4 rfl e (fun _ e => ?_) (fun _ e => ?_)
    · exact xB_vreturn hF dX5_goOn_31 e
    · refine xB_aload_n hF dX5_goOn_7 rfl ?_
      obtain ⟨r1, h2, e3, e⟩ := bn_of e
      refine xB_callVv hF dX5_goOn_8 (t_X5_wearDays hw e3) cw_X5_106 hw.1 rfl rfl rfl rfl rfl ?_
      refine xB_aload_n hF dX5_goOn_11 rfl ?_
      obtain ⟨r4, h5, e6, e⟩ := bn_of e
      refine xB_callVv hF dX5_goOn_12 (t_X5_sellDays hw e6) cw_X5_109 hw.1 rfl rfl rfl rfl rfl ?_
      refine xB_aload_n hF dX5_goOn_15 rfl ?_
      refine xB_dup hF dX5_goOn_16 rfl ?_
      refine xB_get hF dX5_goOn_17 fl_X5_65 hw.1 rfl rfl ?_
      refine xB_iconst hF dX5_goOn_20 ki_1 ?_
      refine xB_iadd hF dX5_goOn_21 ?_
      refine xB_put hF dX5_goOn_22 fp_X5_65 hw.1 rfl rfl rfl rfl rfl ?_
      refine xB_gen e (fun h7 e => ?_)
      refine xB_iinc (L' := [_, _, _]) hF dX5_goOn_25 rfl ki_1 rfl rfl rfl ?_
      refine xB_goto (tgt := 2) hF dX5_goOn_28 rfl ?_
      exact xB_l (ih _ _ e) (And.intro rfl (And.intro rfl (And.intro rfl (True.intro))))
def f_X5_goOn (w : Nat) (a1 : Int32) (h : xH) : Option (Int32 × xH) :=
    f_X5_goOn_c2 w a1 xN 0 h
set_option maxRecDepth 20000 in
set_option maxHeartbeats 2000000 in
theorem t_X5_goOn {l : Launch} {γ : xG} {w : Nat} {a1 : Int32} {h : xH} {r : Int32} {hr : xH} (hw : isX5 w) (e : f_X5_goOn w a1 h = some (r, hr)) : xCT l γ xSC yX5_goOn cX5_goOn 3 none 5 [.ref (γ.2.2.2 w), .int a1] h none hr := by
  refine xCT.of (own := RX5) (L := [some (.ref (γ.2.2.2 w)), some (.int a1), none]) (by decide) rfl rfl rfl (fun C hF => ?_)
  unfold f_X5_goOn at e
  refine xB_iconst hF dX5_goOn_0 ki_0 ?_
  refine xB_istore_n (L' := [_, _, _]) hF dX5_goOn_1 rfl rfl rfl ?_
  exact xB_l (t_X5_goOn_c2 hF hw _ _ _ e) (And.intro rfl (And.intro rfl (And.intro rfl (True.intro))))
def f_X5_marketsLeft (w : Nat) (a1 : Int32) (h : xH) : Option (Int32 × xH) :=
    nm (if (9999 - (h w 14)) < a1 then (9999 - (h w 14)) else a1) fun x1 => some (x1, h)
set_option maxRecDepth 20000 in
set_option maxHeartbeats 2000000 in
theorem t_X5_marketsLeft {l : Launch} {γ : xG} {w : Nat} {a1 : Int32} {h : xH} {r : Int32} {hr : xH} (hw : isX5 w) (e : f_X5_marketsLeft w a1 h = some (r, hr)) : xCT l γ xSC yX5_marketsLeft cX5_marketsLeft 2 (some .int) 1 [.ref (γ.2.2.2 w), .int a1] h (some (.int r)) hr := by
  refine xCT.of (own := RX5) (L := [some (.ref (γ.2.2.2 w)), some (.int a1)]) (by decide) rfl rfl rfl (fun C hF => ?_)
  unfold f_X5_marketsLeft at e
  refine xB_iload_n hF dX5_marketsLeft_0 rfl ?_
  refine xB_sipush hF dX5_marketsLeft_1 ks_9999 ?_
  refine xB_aload_n hF dX5_marketsLeft_4 rfl ?_
  refine xB_get hF dX5_marketsLeft_5 fl_X5_65 hw.1 rfl rfl ?_
  refine xB_isub hF dX5_marketsLeft_8 ?_
  refine xB_mmin hF dX5_marketsLeft_9 ml_X5_100 mw_min rfl rfl ?_
  replace e := nm_of e
  exact xB_ireturn hF dX5_marketsLeft_12 e
def f_X6_markets (a1 : Int32) (h : xH) : Option (Int32 × xH) :=
    bn (f_X6_within a1 1 100 h) fun r1 h2 => if r1 = 0 then (some ((-1000000001), h2)) else (bn (f_X5_marketsLeft 24 a1 h2) fun r4 h5 => bn (f_X5_goOn 24 r4 h5) fun r7 h8 => some ((h8 24 12) - (h2 24 12), h8))
set_option maxRecDepth 20000 in
set_option maxHeartbeats 2000000 in
theorem t_X6_markets {l : Launch} {γ : xG} {a1 : Int32} {h : xH} {r : Int32} {hr : xH} (e : f_X6_markets a1 h = some (r, hr)) : xCT l γ xSC yX6_markets cX6_markets 3 (some .int) 6 [.ref (γ.2.2.2 0), .int a1] h (some (.int r)) hr := by
  refine xCT.of (own := RX6) (L := [some (.ref (γ.2.2.2 0)), some (.int a1), none]) (by decide) rfl rfl rfl (fun C hF => ?_)
  unfold f_X6_markets at e
  refine xB_iload_n hF dX6_markets_0 rfl ?_
  refine xB_iconst hF dX6_markets_1 ki_1 ?_
  refine xB_bipush hF dX6_markets_2 kb_100 ?_
  obtain ⟨r1, h2, e3, e⟩ := bn_of e
  refine xB_callSi hF dX6_markets_4 (t_X6_within e3) cw_X6_78 rfl rfl rfl rfl ?_
  refine xB_if_ne (tgt := 13) hF dX6_markets_7 rfl e (fun _ e => ?_) (fun _ e => ?_)
  · refine xB_ldc hF dX6_markets_10 kc_X6_85 ?_
    exact xB_ireturn hF dX6_markets_12 e
  · refine xB_aload_n hF dX6_markets_13 rfl ?_
    refine xB_get hF dX6_markets_14 fl_X6_28 sC_0 rfl rfl ?_
    refine xB_get hF dX6_markets_17 fl_X6_161 isX5_24.1 rfl rfl ?_
    refine xB_istore_n (L' := [_, _, _]) hF dX6_markets_20 rfl rfl rfl ?_
    refine xB_aload_n hF dX6_markets_21 rfl ?_
    refine xB_get hF dX6_markets_22 fl_X6_28 sC_0 rfl rfl ?_
    refine xB_aload_n hF dX6_markets_25 rfl ?_
    refine xB_get hF dX6_markets_26 fl_X6_28 sC_0 rfl rfl ?_
    refine xB_iload_n hF dX6_markets_29 rfl ?_
    obtain ⟨r4, h5, e6, e⟩ := bn_of e
    refine xB_callVi hF dX6_markets_30 (t_X5_marketsLeft isX5_24 e6) cw_X6_164 isX5_24.1 rfl rfl rfl rfl rfl ?_
    obtain ⟨r7, h8, e9, e⟩ := bn_of e
    refine xB_callVv hF dX6_markets_33 (t_X5_goOn isX5_24 e9) cw_X6_167 isX5_24.1 rfl rfl rfl rfl rfl ?_
    refine xB_aload_n hF dX6_markets_36 rfl ?_
    refine xB_get hF dX6_markets_37 fl_X6_28 sC_0 rfl rfl ?_
    refine xB_get hF dX6_markets_40 fl_X6_161 isX5_24.1 rfl rfl ?_
    refine xB_iload_n hF dX6_markets_43 rfl ?_
    refine xB_isub hF dX6_markets_44 ?_
    exact xB_ireturn hF dX6_markets_45 e
def f_X5_allCoins_c4 (w : Nat) : Nat → Int32 → Int32 → xH → Option (Int32 × xH)
  | 0, _, _, _ => none
  | n + 1, v1, v2, h =>
    if 6 ≤ v2 then (some (v1, h)) else (gd v2 6 <| nm (v1 + (h (w + 7) (Int32.toNatClampNeg v2))) fun x1 => f_X5_allCoins_c4 w n x1 (v2 + 1) h)
set_option maxRecDepth 20000 in
set_option maxHeartbeats 2000000 in
theorem t_X5_allCoins_c4 {l : Launch} {γ : xG} {w : Nat} {r : Int32} {hr : xH} {C : xCx} (hF : xF C cX5_allCoins RX5 3 0 γ xSC (some (.int r)) hr l (some .int)) (hw : isX5 w) : ∀ (n : Nat) (v1 : Int32) (v2 : Int32) (h : xH), f_X5_allCoins_c4 w n v1 v2 h = some (r, hr) → xB C h 4 [some (.ref (γ.2.2.2 w)), some (.int v1), some (.int v2)] [] := by
  intro n
  induction n with
  | zero => intro v1 v2 h e; cases e
  | succ n ih =>
    intro v1 v2 h e
    rw [f_X5_allCoins_c4] at e
    refine xB_iload_n hF dX5_allCoins_4 rfl ?_
    refine xB_bipush hF dX5_allCoins_5 kb_6 ?_
    refine xB_icmp_ge (tgt := 25) hF dX5_allCoins_7 rfl e (fun _ e => ?_) (fun _ e => ?_)
    · refine xB_iload_n hF dX5_allCoins_25 rfl ?_
      exact xB_ireturn hF dX5_allCoins_26 e
    · refine xB_iload_n hF dX5_allCoins_10 rfl ?_
      refine xB_aload_n hF dX5_allCoins_11 rfl ?_
      refine xB_get hF dX5_allCoins_12 fl_X5_30 hw.1 rfl rfl ?_
      refine xB_iload_n hF dX5_allCoins_15 rfl ?_
      refine xB_iald hF dX5_allCoins_16 hw.2.2.2.2.2.2.2.1 e (fun e => ?_)
      refine xB_iadd hF dX5_allCoins_17 ?_
      refine xB_istore_n (L' := [_, _, _]) hF dX5_allCoins_18 rfl rfl rfl ?_
      replace e := nm_of e
      refine xB_iinc (L' := [_, _, _]) hF dX5_allCoins_19 rfl ki_1 rfl rfl rfl ?_
      refine xB_goto (tgt := 4) hF dX5_allCoins_22 rfl ?_
      exact xB_l (ih _ _ _ e) (And.intro rfl (And.intro rfl (And.intro rfl (True.intro))))
def f_X5_allCoins (w : Nat) (h : xH) : Option (Int32 × xH) :=
    f_X5_allCoins_c4 w xN 0 0 h
set_option maxRecDepth 20000 in
set_option maxHeartbeats 2000000 in
theorem t_X5_allCoins {l : Launch} {γ : xG} {w : Nat} {h : xH} {r : Int32} {hr : xH} (hw : isX5 w) (e : f_X5_allCoins w h = some (r, hr)) : xCT l γ xSC yX5_allCoins cX5_allCoins 3 (some .int) 0 [.ref (γ.2.2.2 w)] h (some (.int r)) hr := by
  refine xCT.of (own := RX5) (L := [some (.ref (γ.2.2.2 w)), none, none]) (by decide) rfl rfl rfl (fun C hF => ?_)
  unfold f_X5_allCoins at e
  refine xB_iconst hF dX5_allCoins_0 ki_0 ?_
  refine xB_istore_n (L' := [_, _, _]) hF dX5_allCoins_1 rfl rfl rfl ?_
  refine xB_iconst hF dX5_allCoins_2 ki_0 ?_
  refine xB_istore_n (L' := [_, _, _]) hF dX5_allCoins_3 rfl rfl rfl ?_
  exact xB_l (t_X5_allCoins_c4 hF hw _ _ _ _ e) (And.intro rfl (And.intro rfl (And.intro rfl (True.intro))))
def f_X6_ledger (a1 : Int32) (h : xH) : Option (Int32 × xH) :=
    if a1 = 0 then (some (h 24 12, h)) else (if a1 = 1 then (some (h 24 13, h)) else (if a1 = 2 then (bn (f_X5_allCoins 24 h) fun r1 h2 => some (r1, h2)) else (some ((-1000000001), h))))
set_option maxRecDepth 20000 in
set_option maxHeartbeats 2000000 in
theorem t_X6_ledger {l : Launch} {γ : xG} {a1 : Int32} {h : xH} {r : Int32} {hr : xH} (e : f_X6_ledger a1 h = some (r, hr)) : xCT l γ xSC yX6_ledger cX6_ledger 2 (some .int) 1 [.ref (γ.2.2.2 0), .int a1] h (some (.int r)) hr := by
  refine xCT.of (own := RX6) (L := [some (.ref (γ.2.2.2 0)), some (.int a1)]) (by decide) rfl rfl rfl (fun C hF => ?_)
  unfold f_X6_ledger at e
  refine xB_iload_n hF dX6_ledger_0 rfl ?_
  rcases if_of e with ⟨c0, e⟩ | ⟨c0, e⟩
  · refine xB_tableIn (v := (0)) (tgt := 28) hF dX6_ledger_1 c0 (by decide) (by decide) rfl rfl ?_
    refine xB_aload_n hF dX6_ledger_28 rfl ?_
    refine xB_get hF dX6_ledger_29 fl_X6_28 sC_0 rfl rfl ?_
    refine xB_get hF dX6_ledger_32 fl_X6_161 isX5_24.1 rfl rfl ?_
    exact xB_ireturn hF dX6_ledger_35 e
  rcases if_of e with ⟨c1, e⟩ | ⟨c1, e⟩
  · refine xB_tableIn (v := (1)) (tgt := 36) hF dX6_ledger_1 c1 (by decide) (by decide) rfl rfl ?_
    refine xB_aload_n hF dX6_ledger_36 rfl ?_
    refine xB_get hF dX6_ledger_37 fl_X6_28 sC_0 rfl rfl ?_
    refine xB_get hF dX6_ledger_40 fl_X6_171 isX5_24.1 rfl rfl ?_
    exact xB_ireturn hF dX6_ledger_43 e
  rcases if_of e with ⟨c2, e⟩ | ⟨c2, e⟩
  · refine xB_tableIn (v := (2)) (tgt := 44) hF dX6_ledger_1 c2 (by decide) (by decide) rfl rfl ?_
    refine xB_aload_n hF dX6_ledger_44 rfl ?_
    refine xB_get hF dX6_ledger_45 fl_X6_28 sC_0 rfl rfl ?_
    obtain ⟨r1, h2, e3, e⟩ := bn_of e
    refine xB_callVi hF dX6_ledger_48 (t_X5_allCoins isX5_24 e3) cw_X6_174 isX5_24.1 rfl rfl rfl rfl rfl ?_
    exact xB_ireturn hF dX6_ledger_51 e
  refine xB_tableOut (tgt := 52) hF dX6_ledger_1 (by have := xne (v := (0)) (n := 0) rfl c0; have := xne (v := (1)) (n := 1) rfl c1; have := xne (v := (2)) (n := 2) rfl c2; omega) rfl ?_
  refine xB_ldc hF dX6_ledger_52 kc_X6_85 ?_
  exact xB_ireturn hF dX6_ledger_54 e
def f_X5_howMany_c39 (k5 : Int32 → Int32 → xH → Option (Int32 × xH)) (w : Nat) (a1 : Int32) (a2 : Int32) (v3 : Int32) (v4 : Int32) (h : xH) : Option (Int32 × xH) :=
    k5 v3 (v4 + 1) h
set_option maxRecDepth 20000 in
set_option maxHeartbeats 2000000 in
theorem t_X5_howMany_c39 {l : Launch} {γ : xG} {k5 : Int32 → Int32 → xH → Option (Int32 × xH)} {w : Nat} {a1 : Int32} {a2 : Int32} {r : Int32} {hr : xH} {C : xCx} (hF : xF C cX5_howMany RX5 5 0 γ xSC (some (.int r)) hr l (some .int)) (hw : isX5 w) (hk5 : ∀ (v3 : Int32) (v4 : Int32) (h : xH), k5 v3 v4 h = some (r, hr) → xB C h 5 [some (.ref (γ.2.2.2 w)), some (.int a1), some (.int a2), some (.int v3), some (.int v4)] []) : ∀ (v3 : Int32) (v4 : Int32) (h : xH), f_X5_howMany_c39 k5 w a1 a2 v3 v4 h = some (r, hr) → xB C h 39 [some (.ref (γ.2.2.2 w)), some (.int a1), some (.int a2), some (.int v3), some (.int v4)] [] := by
  intro v3 v4 h e
  unfold f_X5_howMany_c39 at e
  refine xB_iinc (L' := [_, _, _, _, _]) hF dX5_howMany_39 rfl ki_1 rfl rfl rfl ?_
  refine xB_goto (tgt := 5) hF dX5_howMany_42 rfl ?_
  exact xB_l (hk5 _ _ _ e) (And.intro rfl (And.intro rfl (And.intro rfl (And.intro rfl (And.intro rfl (True.intro))))))
def f_X5_howMany_c5 (w : Nat) (a1 : Int32) (a2 : Int32) : Nat → Int32 → Int32 → xH → Option (Int32 × xH)
  | 0, _, _, _ => none
  | n + 1, v3, v4, h =>
    if (h w 10) ≤ v4 then (some (v3, h)) else (gd v4 10 <| if (h (w + 2) (Int32.toNatClampNeg v4)) = a1 then (gd v4 10 <| if (h (w + 3) (Int32.toNatClampNeg v4)) = a2 then (f_X5_howMany_c39 (f_X5_howMany_c5 w a1 a2 n) w a1 a2 (v3 + 1) v4 h) else (f_X5_howMany_c39 (f_X5_howMany_c5 w a1 a2 n) w a1 a2 v3 v4 h)) else (f_X5_howMany_c39 (f_X5_howMany_c5 w a1 a2 n) w a1 a2 v3 v4 h))
set_option maxRecDepth 20000 in
set_option maxHeartbeats 2000000 in
theorem t_X5_howMany_c5 {l : Launch} {γ : xG} {w : Nat} {a1 : Int32} {a2 : Int32} {r : Int32} {hr : xH} {C : xCx} (hF : xF C cX5_howMany RX5 5 0 γ xSC (some (.int r)) hr l (some .int)) (hw : isX5 w) : ∀ (n : Nat) (v3 : Int32) (v4 : Int32) (h : xH), f_X5_howMany_c5 w a1 a2 n v3 v4 h = some (r, hr) → xB C h 5 [some (.ref (γ.2.2.2 w)), some (.int a1), some (.int a2), some (.int v3), some (.int v4)] [] := by
  intro n
  induction n with
  | zero => intro v3 v4 h e; cases e
  | succ n ih =>
    intro v3 v4 h e
    rw [f_X5_howMany_c5] at e
    refine xB_iload hF dX5_howMany_5 rfl ?_
    refine xB_aload_n hF dX5_howMany_7 rfl ?_
    refine xB_get hF dX5_howMany_8 fl_X5_53 hw.1 rfl rfl ?_
    refine xB_icmp_ge (tgt := 45) hF dX5_howMany_11 rfl e (fun _ e => ?_) (fun _ e => ?_)
    · refine xB_iload_n hF dX5_howMany_45 rfl ?_
      exact xB_ireturn hF dX5_howMany_46 e
    · refine xB_aload_n hF dX5_howMany_14 rfl ?_
      refine xB_get hF dX5_howMany_15 fl_X5_15 hw.1 rfl rfl ?_
      refine xB_iload hF dX5_howMany_18 rfl ?_
      refine xB_iald hF dX5_howMany_20 hw.2.2.1 e (fun e => ?_)
      refine xB_iload_n hF dX5_howMany_21 rfl ?_
      refine xB_icmp_ne (tgt := 39) hF dX5_howMany_22 rfl e (fun _ e => ?_) (fun _ e => ?_)
      · refine xB_aload_n hF dX5_howMany_25 rfl ?_
        refine xB_get hF dX5_howMany_26 fl_X5_18 hw.1 rfl rfl ?_
        refine xB_iload hF dX5_howMany_29 rfl ?_
        refine xB_iald hF dX5_howMany_31 hw.2.2.2.1 e (fun e => ?_)
        refine xB_iload_n hF dX5_howMany_32 rfl ?_
        refine xB_icmp_ne (tgt := 39) hF dX5_howMany_33 rfl e (fun _ e => ?_) (fun _ e => ?_)
        · refine xB_iinc (L' := [_, _, _, _, _]) hF dX5_howMany_36 rfl ki_1 rfl rfl rfl ?_
          exact xB_l (t_X5_howMany_c39 hF hw ih _ _ _ e) (And.intro rfl (And.intro rfl (And.intro rfl (And.intro rfl (And.intro rfl (True.intro))))))
        · exact xB_l (t_X5_howMany_c39 hF hw ih _ _ _ e) (And.intro rfl (And.intro rfl (And.intro rfl (And.intro rfl (And.intro rfl (True.intro))))))
      · exact xB_l (t_X5_howMany_c39 hF hw ih _ _ _ e) (And.intro rfl (And.intro rfl (And.intro rfl (And.intro rfl (And.intro rfl (True.intro))))))
def f_X5_howMany (w : Nat) (a1 : Int32) (a2 : Int32) (h : xH) : Option (Int32 × xH) :=
    f_X5_howMany_c5 w a1 a2 xN 0 0 h
set_option maxRecDepth 20000 in
set_option maxHeartbeats 2000000 in
theorem t_X5_howMany {l : Launch} {γ : xG} {w : Nat} {a1 : Int32} {a2 : Int32} {h : xH} {r : Int32} {hr : xH} (hw : isX5 w) (e : f_X5_howMany w a1 a2 h = some (r, hr)) : xCT l γ xSC yX5_howMany cX5_howMany 5 (some .int) 0 [.ref (γ.2.2.2 w), .int a1, .int a2] h (some (.int r)) hr := by
  refine xCT.of (own := RX5) (L := [some (.ref (γ.2.2.2 w)), some (.int a1), some (.int a2), none, none]) (by decide) rfl rfl rfl (fun C hF => ?_)
  unfold f_X5_howMany at e
  refine xB_iconst hF dX5_howMany_0 ki_0 ?_
  refine xB_istore_n (L' := [_, _, _, _, _]) hF dX5_howMany_1 rfl rfl rfl ?_
  refine xB_iconst hF dX5_howMany_2 ki_0 ?_
  refine xB_istore (L' := [_, _, _, _, _]) hF dX5_howMany_3 rfl rfl rfl ?_
  exact xB_l (t_X5_howMany_c5 hF hw _ _ _ _ e) (And.intro rfl (And.intro rfl (And.intro rfl (And.intro rfl (And.intro rfl (True.intro))))))
def f_X5_trueTone_c27 (k4 : Int32 → Int32 → xH → Option (Int32 × xH)) (w : Nat) (a1 : Int32) (v2 : Int32) (v3 : Int32) (h : xH) : Option (Int32 × xH) :=
    k4 v2 (v3 + 1) h
set_option maxRecDepth 20000 in
set_option maxHeartbeats 2000000 in
theorem t_X5_trueTone_c27 {l : Launch} {γ : xG} {k4 : Int32 → Int32 → xH → Option (Int32 × xH)} {w : Nat} {a1 : Int32} {r : Int32} {hr : xH} {C : xCx} (hF : xF C cX5_trueTone RX5 4 1 γ xSC (some (.int r)) hr l (some .int)) (hw : isX5 w) (hk4 : ∀ (v2 : Int32) (v3 : Int32) (h : xH), k4 v2 v3 h = some (r, hr) → xB C h 4 [some (.ref (γ.2.2.2 w)), some (.int a1), some (.int v2), some (.int v3)] []) : ∀ (v2 : Int32) (v3 : Int32) (h : xH), f_X5_trueTone_c27 k4 w a1 v2 v3 h = some (r, hr) → xB C h 27 [some (.ref (γ.2.2.2 w)), some (.int a1), some (.int v2), some (.int v3)] [] := by
  intro v2 v3 h e
  unfold f_X5_trueTone_c27 at e
  refine xB_iinc (L' := [_, _, _, _]) hF dX5_trueTone_27 rfl ki_1 rfl rfl rfl ?_
  refine xB_goto (tgt := 4) hF dX5_trueTone_30 rfl ?_
  exact xB_l (hk4 _ _ _ e) (And.intro rfl (And.intro rfl (And.intro rfl (And.intro rfl (True.intro)))))
def f_X5_trueTone_c4 (w : Nat) (a1 : Int32) : Nat → Int32 → Int32 → xH → Option (Int32 × xH)
  | 0, _, _, _ => none
  | n + 1, v2, v3, h =>
    if 9 < v3 then (some (v2, h)) else (bn (f_X5_howMany w a1 v3 h) fun r1 h2 => bn (f_X5_howMany w a1 v2 h2) fun r4 h5 => if r1 ≤ r4 then (f_X5_trueTone_c27 (f_X5_trueTone_c4 w a1 n) w a1 v2 v3 h5) else (f_X5_trueTone_c27 (f_X5_trueTone_c4 w a1 n) w a1 v3 v3 h5))
set_option maxRecDepth 20000 in
set_option maxHeartbeats 2000000 in
theorem t_X5_trueTone_c4 {l : Launch} {γ : xG} {w : Nat} {a1 : Int32} {r : Int32} {hr : xH} {C : xCx} (hF : xF C cX5_trueTone RX5 4 1 γ xSC (some (.int r)) hr l (some .int)) (hw : isX5 w) : ∀ (n : Nat) (v2 : Int32) (v3 : Int32) (h : xH), f_X5_trueTone_c4 w a1 n v2 v3 h = some (r, hr) → xB C h 4 [some (.ref (γ.2.2.2 w)), some (.int a1), some (.int v2), some (.int v3)] [] := by
  intro n
  induction n with
  | zero => intro v2 v3 h e; cases e
  | succ n ih =>
    intro v2 v3 h e
    rw [f_X5_trueTone_c4] at e
    refine xB_iload_n hF dX5_trueTone_4 rfl ?_
    refine xB_bipush hF dX5_trueTone_5 kb_9 ?_
    refine xB_icmp_gt (tgt := 33) hF dX5_trueTone_7 rfl e (fun _ e => ?_) (fun _ e => ?_)
    · refine xB_iload_n hF dX5_trueTone_33 rfl ?_
      exact xB_ireturn hF dX5_trueTone_34 e
    · refine xB_aload_n hF dX5_trueTone_10 rfl ?_
      refine xB_iload_n hF dX5_trueTone_11 rfl ?_
      refine xB_iload_n hF dX5_trueTone_12 rfl ?_
      obtain ⟨r1, h2, e3, e⟩ := bn_of e
      refine xB_callVi hF dX5_trueTone_13 (t_X5_howMany hw e3) cw_X5_122 hw.1 rfl rfl rfl rfl rfl ?_
      refine xB_aload_n hF dX5_trueTone_16 rfl ?_
      refine xB_iload_n hF dX5_trueTone_17 rfl ?_
      refine xB_iload_n hF dX5_trueTone_18 rfl ?_
      obtain ⟨r4, h5, e6, e⟩ := bn_of e
      refine xB_callVi hF dX5_trueTone_19 (t_X5_howMany hw e6) cw_X5_122 hw.1 rfl rfl rfl rfl rfl ?_
      refine xB_icmp_le (tgt := 27) hF dX5_trueTone_22 rfl e (fun _ e => ?_) (fun _ e => ?_)
      · exact xB_l (t_X5_trueTone_c27 hF hw ih _ _ _ e) (And.intro rfl (And.intro rfl (And.intro rfl (And.intro rfl (True.intro)))))
      · refine xB_iload_n hF dX5_trueTone_25 rfl ?_
        refine xB_istore_n (L' := [_, _, _, _]) hF dX5_trueTone_26 rfl rfl rfl ?_
        exact xB_l (t_X5_trueTone_c27 hF hw ih _ _ _ e) (And.intro rfl (And.intro rfl (And.intro rfl (And.intro rfl (True.intro)))))
def f_X5_trueTone (w : Nat) (a1 : Int32) (h : xH) : Option (Int32 × xH) :=
    f_X5_trueTone_c4 w a1 xN 0 1 h
set_option maxRecDepth 20000 in
set_option maxHeartbeats 2000000 in
theorem t_X5_trueTone {l : Launch} {γ : xG} {w : Nat} {a1 : Int32} {h : xH} {r : Int32} {hr : xH} (hw : isX5 w) (e : f_X5_trueTone w a1 h = some (r, hr)) : xCT l γ xSC yX5_trueTone cX5_trueTone 4 (some .int) 1 [.ref (γ.2.2.2 w), .int a1] h (some (.int r)) hr := by
  refine xCT.of (own := RX5) (L := [some (.ref (γ.2.2.2 w)), some (.int a1), none, none]) (by decide) rfl rfl rfl (fun C hF => ?_)
  unfold f_X5_trueTone at e
  refine xB_iconst hF dX5_trueTone_0 ki_0 ?_
  refine xB_istore_n (L' := [_, _, _, _]) hF dX5_trueTone_1 rfl rfl rfl ?_
  refine xB_iconst hF dX5_trueTone_2 ki_1 ?_
  refine xB_istore_n (L' := [_, _, _, _]) hF dX5_trueTone_3 rfl rfl rfl ?_
  exact xB_l (t_X5_trueTone_c4 hF hw _ _ _ _ e) (And.intro rfl (And.intro rfl (And.intro rfl (And.intro rfl (True.intro)))))
def f_X6_isTrue (a1 : Int32) (h : xH) : Option (Int32 × xH) :=
    bn (f_X6_within a1 0 99 h) fun r1 h2 => if r1 = 0 then (some ((-1000000001), h2)) else (bn (f_X5_trueTone 24 a1 h2) fun r4 h5 => bn (f_X5_howMany 24 a1 r4 h5) fun r7 h8 => if r7 = 0 then (some ((-1000000005), h8)) else (some (r4, h8)))
set_option maxRecDepth 20000 in
set_option maxHeartbeats 2000000 in
theorem t_X6_isTrue {l : Launch} {γ : xG} {a1 : Int32} {h : xH} {r : Int32} {hr : xH} (e : f_X6_isTrue a1 h = some (r, hr)) : xCT l γ xSC yX6_isTrue cX6_isTrue 3 (some .int) 2 [.ref (γ.2.2.2 0), .int a1] h (some (.int r)) hr := by
  refine xCT.of (own := RX6) (L := [some (.ref (γ.2.2.2 0)), some (.int a1), none]) (by decide) rfl rfl rfl (fun C hF => ?_)
  unfold f_X6_isTrue at e
  refine xB_iload_n hF dX6_isTrue_0 rfl ?_
  refine xB_iconst hF dX6_isTrue_1 ki_0 ?_
  refine xB_bipush hF dX6_isTrue_2 kb_99 ?_
  obtain ⟨r1, h2, e3, e⟩ := bn_of e
  refine xB_callSi hF dX6_isTrue_4 (t_X6_within e3) cw_X6_78 rfl rfl rfl rfl ?_
  refine xB_if_ne (tgt := 13) hF dX6_isTrue_7 rfl e (fun _ e => ?_) (fun _ e => ?_)
  · refine xB_ldc hF dX6_isTrue_10 kc_X6_85 ?_
    exact xB_ireturn hF dX6_isTrue_12 e
  · refine xB_aload_n hF dX6_isTrue_13 rfl ?_
    refine xB_get hF dX6_isTrue_14 fl_X6_28 sC_0 rfl rfl ?_
    refine xB_iload_n hF dX6_isTrue_17 rfl ?_
    obtain ⟨r4, h5, e6, e⟩ := bn_of e
    refine xB_callVi hF dX6_isTrue_18 (t_X5_trueTone isX5_24 e6) cw_X6_178 isX5_24.1 rfl rfl rfl rfl rfl ?_
    refine xB_istore_n (L' := [_, _, _]) hF dX6_isTrue_21 rfl rfl rfl ?_
    refine xB_aload_n hF dX6_isTrue_22 rfl ?_
    refine xB_get hF dX6_isTrue_23 fl_X6_28 sC_0 rfl rfl ?_
    refine xB_iload_n hF dX6_isTrue_26 rfl ?_
    refine xB_iload_n hF dX6_isTrue_27 rfl ?_
    obtain ⟨r7, h8, e9, e⟩ := bn_of e
    refine xB_callVi hF dX6_isTrue_28 (t_X5_howMany isX5_24 e9) cw_X6_181 isX5_24.1 rfl rfl rfl rfl rfl ?_
    refine xB_if_ne (tgt := 39) hF dX6_isTrue_31 rfl e (fun _ e => ?_) (fun _ e => ?_)
    · refine xB_ldc hF dX6_isTrue_34 kc_X6_184 ?_
      refine xB_goto (tgt := 40) hF dX6_isTrue_36 rfl ?_
      exact xB_ireturn hF dX6_isTrue_40 e
    · refine xB_iload_n hF dX6_isTrue_39 rfl ?_
      exact xB_ireturn hF dX6_isTrue_40 e
def f_X5_falseDays_c34 (k4 : Int32 → Int32 → xH → Option (Int32 × xH)) (w : Nat) (v1 : Int32) (v2 : Int32) (h : xH) : Option (Int32 × xH) :=
    k4 v1 (v2 + 1) h
set_option maxRecDepth 20000 in
set_option maxHeartbeats 2000000 in
theorem t_X5_falseDays_c34 {l : Launch} {γ : xG} {k4 : Int32 → Int32 → xH → Option (Int32 × xH)} {w : Nat} {r : Int32} {hr : xH} {C : xCx} (hF : xF C cX5_falseDays RX5 3 2 γ xSC (some (.int r)) hr l (some .int)) (hw : isX5 w) (hk4 : ∀ (v1 : Int32) (v2 : Int32) (h : xH), k4 v1 v2 h = some (r, hr) → xB C h 4 [some (.ref (γ.2.2.2 w)), some (.int v1), some (.int v2)] []) : ∀ (v1 : Int32) (v2 : Int32) (h : xH), f_X5_falseDays_c34 k4 w v1 v2 h = some (r, hr) → xB C h 34 [some (.ref (γ.2.2.2 w)), some (.int v1), some (.int v2)] [] := by
  intro v1 v2 h e
  unfold f_X5_falseDays_c34 at e
  refine xB_iinc (L' := [_, _, _]) hF dX5_falseDays_34 rfl ki_1 rfl rfl rfl ?_
  refine xB_goto (tgt := 4) hF dX5_falseDays_37 rfl ?_
  exact xB_l (hk4 _ _ _ e) (And.intro rfl (And.intro rfl (And.intro rfl (True.intro))))
def f_X5_falseDays_c4 (w : Nat) : Nat → Int32 → Int32 → xH → Option (Int32 × xH)
  | 0, _, _, _ => none
  | n + 1, v1, v2, h =>
    if (h w 10) ≤ v2 then (some (v1, h)) else (gd v2 10 <| gd v2 10 <| bn (f_X5_trueTone w (h (w + 2) (Int32.toNatClampNeg v2)) h) fun r1 h2 => if (h (w + 3) (Int32.toNatClampNeg v2)) = r1 then (f_X5_falseDays_c34 (f_X5_falseDays_c4 w n) w v1 v2 h2) else (f_X5_falseDays_c34 (f_X5_falseDays_c4 w n) w (v1 + 1) v2 h2))
set_option maxRecDepth 20000 in
set_option maxHeartbeats 2000000 in
theorem t_X5_falseDays_c4 {l : Launch} {γ : xG} {w : Nat} {r : Int32} {hr : xH} {C : xCx} (hF : xF C cX5_falseDays RX5 3 2 γ xSC (some (.int r)) hr l (some .int)) (hw : isX5 w) : ∀ (n : Nat) (v1 : Int32) (v2 : Int32) (h : xH), f_X5_falseDays_c4 w n v1 v2 h = some (r, hr) → xB C h 4 [some (.ref (γ.2.2.2 w)), some (.int v1), some (.int v2)] [] := by
  intro n
  induction n with
  | zero => intro v1 v2 h e; cases e
  | succ n ih =>
    intro v1 v2 h e
    rw [f_X5_falseDays_c4] at e
    refine xB_iload_n hF dX5_falseDays_4 rfl ?_
    refine xB_aload_n hF dX5_falseDays_5 rfl ?_
    refine xB_get hF dX5_falseDays_6 fl_X5_53 hw.1 rfl rfl ?_
    refine xB_icmp_ge (tgt := 40) hF dX5_falseDays_9 rfl e (fun _ e => ?_) (fun _ e => ?_)
    · refine xB_iload_n hF dX5_falseDays_40 rfl ?_
      exact xB_ireturn hF dX5_falseDays_41 e
    · refine xB_aload_n hF dX5_falseDays_12 rfl ?_
      refine xB_get hF dX5_falseDays_13 fl_X5_18 hw.1 rfl rfl ?_
      refine xB_iload_n hF dX5_falseDays_16 rfl ?_
      refine xB_iald hF dX5_falseDays_17 hw.2.2.2.1 e (fun e => ?_)
      refine xB_aload_n hF dX5_falseDays_18 rfl ?_
      refine xB_aload_n hF dX5_falseDays_19 rfl ?_
      refine xB_get hF dX5_falseDays_20 fl_X5_15 hw.1 rfl rfl ?_
      refine xB_iload_n hF dX5_falseDays_23 rfl ?_
      refine xB_iald hF dX5_falseDays_24 hw.2.2.1 e (fun e => ?_)
      obtain ⟨r1, h2, e3, e⟩ := bn_of e
      refine xB_callVi hF dX5_falseDays_25 (t_X5_trueTone hw e3) cw_X5_125 hw.1 rfl rfl rfl rfl rfl ?_
      refine xB_icmp_eq (tgt := 34) hF dX5_falseDays_28 rfl e (fun _ e => ?_) (fun _ e => ?_)
      · exact xB_l (t_X5_falseDays_c34 hF hw ih _ _ _ e) (And.intro rfl (And.intro rfl (And.intro rfl (True.intro))))
      · refine xB_iinc (L' := [_, _, _]) hF dX5_falseDays_31 rfl ki_1 rfl rfl rfl ?_
        exact xB_l (t_X5_falseDays_c34 hF hw ih _ _ _ e) (And.intro rfl (And.intro rfl (And.intro rfl (True.intro))))
def f_X5_falseDays (w : Nat) (h : xH) : Option (Int32 × xH) :=
    f_X5_falseDays_c4 w xN 0 0 h
set_option maxRecDepth 20000 in
set_option maxHeartbeats 2000000 in
theorem t_X5_falseDays {l : Launch} {γ : xG} {w : Nat} {h : xH} {r : Int32} {hr : xH} (hw : isX5 w) (e : f_X5_falseDays w h = some (r, hr)) : xCT l γ xSC yX5_falseDays cX5_falseDays 3 (some .int) 2 [.ref (γ.2.2.2 w)] h (some (.int r)) hr := by
  refine xCT.of (own := RX5) (L := [some (.ref (γ.2.2.2 w)), none, none]) (by decide) rfl rfl rfl (fun C hF => ?_)
  unfold f_X5_falseDays at e
  refine xB_iconst hF dX5_falseDays_0 ki_0 ?_
  refine xB_istore_n (L' := [_, _, _]) hF dX5_falseDays_1 rfl rfl rfl ?_
  refine xB_iconst hF dX5_falseDays_2 ki_0 ?_
  refine xB_istore_n (L' := [_, _, _]) hF dX5_falseDays_3 rfl rfl rfl ?_
  exact xB_l (t_X5_falseDays_c4 hF hw _ _ _ _ e) (And.intro rfl (And.intro rfl (And.intro rfl (True.intro))))
def f_X6_falseMany (h : xH) : Option (Int32 × xH) :=
    bn (f_X5_falseDays 24 h) fun r1 h2 => some (r1, h2)
set_option maxRecDepth 20000 in
set_option maxHeartbeats 2000000 in
theorem t_X6_falseMany {l : Launch} {γ : xG} {h : xH} {r : Int32} {hr : xH} (e : f_X6_falseMany h = some (r, hr)) : xCT l γ xSC yX6_falseMany cX6_falseMany 1 (some .int) 3 [.ref (γ.2.2.2 0)] h (some (.int r)) hr := by
  refine xCT.of (own := RX6) (L := [some (.ref (γ.2.2.2 0))]) (by decide) rfl rfl rfl (fun C hF => ?_)
  unfold f_X6_falseMany at e
  refine xB_aload_n hF dX6_falseMany_0 rfl ?_
  refine xB_get hF dX6_falseMany_1 fl_X6_28 sC_0 rfl rfl ?_
  obtain ⟨r1, h2, e3, e⟩ := bn_of e
  refine xB_callVi hF dX6_falseMany_4 (t_X5_falseDays isX5_24 e3) cw_X6_185 isX5_24.1 rfl rfl rfl rfl rfl ?_
  exact xB_ireturn hF dX6_falseMany_7 e
def f_J6_bitCount (a0 : Int32) (h : xH) : Option (Int32 × xH) :=
    nm (a0 - ((((a0 : Int32).toUInt32 >>> ((1 : Int32).toUInt32 &&& Int32.toUInt32 31)).toInt32) &&& 1431655765)) fun x1 => nm ((x1 &&& 858993459) + ((((x1 : Int32).toUInt32 >>> ((2 : Int32).toUInt32 &&& Int32.toUInt32 31)).toInt32) &&& 858993459)) fun x2 => nm ((x2 + (((x2 : Int32).toUInt32 >>> ((4 : Int32).toUInt32 &&& Int32.toUInt32 31)).toInt32)) &&& 252645135) fun x3 => nm (x3 + (((x3 : Int32).toUInt32 >>> ((8 : Int32).toUInt32 &&& Int32.toUInt32 31)).toInt32)) fun x4 => nm (x4 + (((x4 : Int32).toUInt32 >>> ((16 : Int32).toUInt32 &&& Int32.toUInt32 31)).toInt32)) fun x5 => some (x5 &&& 63, h)
set_option maxRecDepth 20000 in
set_option maxHeartbeats 2000000 in
theorem t_J6_bitCount {l : Launch} {γ : xG} {a0 : Int32} {h : xH} {r : Int32} {hr : xH} (e : f_J6_bitCount a0 h = some (r, hr)) : xCT l γ xSC yJ6_bitCount_0f7a4 cJ6_bitCount_0f7a4 1 (some .int) 0 [.int a0] h (some (.int r)) hr := by
  refine xCT.of (own := RJ6) (L := [some (.int a0)]) (by decide) rfl rfl rfl (fun C hF => ?_)
  unfold f_J6_bitCount at e
  refine xB_iload_n hF dJ6_bitCount_0f7a4_0 rfl ?_
  refine xB_iload_n hF dJ6_bitCount_0f7a4_1 rfl ?_
  refine xB_iconst hF dJ6_bitCount_0f7a4_2 ki_1 ?_
  refine xB_iushr hF dJ6_bitCount_0f7a4_3 ?_
  refine xB_ldcw hF dJ6_bitCount_0f7a4_4 kc_J6_265 ?_
  refine xB_iand hF dJ6_bitCount_0f7a4_7 ?_
  refine xB_isub hF dJ6_bitCount_0f7a4_8 ?_
  refine xB_istore_n (L' := [_]) hF dJ6_bitCount_0f7a4_9 rfl rfl rfl ?_
  replace e := nm_of e
  refine xB_iload_n hF dJ6_bitCount_0f7a4_10 rfl ?_
  refine xB_ldcw hF dJ6_bitCount_0f7a4_11 kc_J6_266 ?_
  refine xB_iand hF dJ6_bitCount_0f7a4_14 ?_
  refine xB_iload_n hF dJ6_bitCount_0f7a4_15 rfl ?_
  refine xB_iconst hF dJ6_bitCount_0f7a4_16 ki_2 ?_
  refine xB_iushr hF dJ6_bitCount_0f7a4_17 ?_
  refine xB_ldcw hF dJ6_bitCount_0f7a4_18 kc_J6_266 ?_
  refine xB_iand hF dJ6_bitCount_0f7a4_21 ?_
  refine xB_iadd hF dJ6_bitCount_0f7a4_22 ?_
  refine xB_istore_n (L' := [_]) hF dJ6_bitCount_0f7a4_23 rfl rfl rfl ?_
  replace e := nm_of e
  refine xB_iload_n hF dJ6_bitCount_0f7a4_24 rfl ?_
  refine xB_iload_n hF dJ6_bitCount_0f7a4_25 rfl ?_
  refine xB_iconst hF dJ6_bitCount_0f7a4_26 ki_4 ?_
  refine xB_iushr hF dJ6_bitCount_0f7a4_27 ?_
  refine xB_iadd hF dJ6_bitCount_0f7a4_28 ?_
  refine xB_ldcw hF dJ6_bitCount_0f7a4_29 kc_J6_267 ?_
  refine xB_iand hF dJ6_bitCount_0f7a4_32 ?_
  refine xB_istore_n (L' := [_]) hF dJ6_bitCount_0f7a4_33 rfl rfl rfl ?_
  replace e := nm_of e
  refine xB_iload_n hF dJ6_bitCount_0f7a4_34 rfl ?_
  refine xB_iload_n hF dJ6_bitCount_0f7a4_35 rfl ?_
  refine xB_bipush hF dJ6_bitCount_0f7a4_36 kb_8 ?_
  refine xB_iushr hF dJ6_bitCount_0f7a4_38 ?_
  refine xB_iadd hF dJ6_bitCount_0f7a4_39 ?_
  refine xB_istore_n (L' := [_]) hF dJ6_bitCount_0f7a4_40 rfl rfl rfl ?_
  replace e := nm_of e
  refine xB_iload_n hF dJ6_bitCount_0f7a4_41 rfl ?_
  refine xB_iload_n hF dJ6_bitCount_0f7a4_42 rfl ?_
  refine xB_bipush hF dJ6_bitCount_0f7a4_43 kb_16 ?_
  refine xB_iushr hF dJ6_bitCount_0f7a4_45 ?_
  refine xB_iadd hF dJ6_bitCount_0f7a4_46 ?_
  refine xB_istore_n (L' := [_]) hF dJ6_bitCount_0f7a4_47 rfl rfl rfl ?_
  replace e := nm_of e
  refine xB_iload_n hF dJ6_bitCount_0f7a4_48 rfl ?_
  refine xB_bipush hF dJ6_bitCount_0f7a4_49 kb_63 ?_
  refine xB_iand hF dJ6_bitCount_0f7a4_51 ?_
  exact xB_ireturn hF dJ6_bitCount_0f7a4_52 e
def f_X1_canStand_c28 (k2 : Int32 → xH → Option (Int32 × xH)) (a1 : Int32) (a2 : Int32) (v3 : Int32) (h : xH) : Option (Int32 × xH) :=
    k2 (v3 + 1) h
set_option maxRecDepth 20000 in
set_option maxHeartbeats 2000000 in
theorem t_X1_canStand_c28 {l : Launch} {γ : xG} {k2 : Int32 → xH → Option (Int32 × xH)} {a1 : Int32} {a2 : Int32} {r : Int32} {hr : xH} {C : xCx} (hF : xF C cX1_canStand RX1 4 0 γ xSC (some (.int r)) hr l (some .boolean)) (hk2 : ∀ (v3 : Int32) (h : xH), k2 v3 h = some (r, hr) → xB C h 2 [some (.ref (γ.2.2.2 54)), some (.int a1), some (.int a2), some (.int v3)] []) : ∀ (v3 : Int32) (h : xH), f_X1_canStand_c28 k2 a1 a2 v3 h = some (r, hr) → xB C h 28 [some (.ref (γ.2.2.2 54)), some (.int a1), some (.int a2), some (.int v3)] [] := by
  intro v3 h e
  unfold f_X1_canStand_c28 at e
  refine xB_iinc (L' := [_, _, _, _]) hF dX1_canStand_28 rfl ki_1 rfl rfl rfl ?_
  refine xB_goto (tgt := 2) hF dX1_canStand_31 rfl ?_
  exact xB_l (hk2 _ _ e) (And.intro rfl (And.intro rfl (And.intro rfl (And.intro rfl (True.intro)))))
def f_X1_canStand_c2 (a1 : Int32) (a2 : Int32) : Nat → Int32 → xH → Option (Int32 × xH)
  | 0, _, _ => none
  | n + 1, v3, h =>
    if a2 ≤ v3 then (some (1, h)) else (if ((a1 >>> (v3 &&& 31)) &&& 1) = 0 then (f_X1_canStand_c28 (f_X1_canStand_c2 a1 a2 n) a1 a2 v3 h) else (gd v3 10 <| if ((h 57 (Int32.toNatClampNeg v3)) &&& a1) = 0 then (f_X1_canStand_c28 (f_X1_canStand_c2 a1 a2 n) a1 a2 v3 h) else (some (0, h))))
set_option maxRecDepth 20000 in
set_option maxHeartbeats 2000000 in
theorem t_X1_canStand_c2 {l : Launch} {γ : xG} {a1 : Int32} {a2 : Int32} {r : Int32} {hr : xH} {C : xCx} (hF : xF C cX1_canStand RX1 4 0 γ xSC (some (.int r)) hr l (some .boolean)) : ∀ (n : Nat) (v3 : Int32) (h : xH), f_X1_canStand_c2 a1 a2 n v3 h = some (r, hr) → xB C h 2 [some (.ref (γ.2.2.2 54)), some (.int a1), some (.int a2), some (.int v3)] [] := by
  intro n
  induction n with
  | zero => intro v3 h e; cases e
  | succ n ih =>
    intro v3 h e
    rw [f_X1_canStand_c2] at e
    refine xB_iload_n hF dX1_canStand_2 rfl ?_
    refine xB_iload_n hF dX1_canStand_3 rfl ?_
    refine xB_icmp_ge (tgt := 34) hF dX1_canStand_4 rfl e (fun _ e => ?_) (fun _ e => ?_)
    · refine xB_iconst hF dX1_canStand_34 ki_1 ?_
      exact xB_zreturn hF dX1_canStand_35 rfl e
    · refine xB_iload_n hF dX1_canStand_7 rfl ?_
      refine xB_iload_n hF dX1_canStand_8 rfl ?_
      refine xB_ishr hF dX1_canStand_9 ?_
      refine xB_iconst hF dX1_canStand_10 ki_1 ?_
      refine xB_iand hF dX1_canStand_11 ?_
      refine xB_if_eq (tgt := 28) hF dX1_canStand_12 rfl e (fun _ e => ?_) (fun _ e => ?_)
      · exact xB_l (t_X1_canStand_c28 hF ih _ _ e) (And.intro rfl (And.intro rfl (And.intro rfl (And.intro rfl (True.intro)))))
      · refine xB_aload_n hF dX1_canStand_15 rfl ?_
        refine xB_get hF dX1_canStand_16 fl_X1_18 sC_54 rfl rfl ?_
        refine xB_iload_n hF dX1_canStand_19 rfl ?_
        refine xB_iald hF dX1_canStand_20 sC_57 e (fun e => ?_)
        refine xB_iload_n hF dX1_canStand_21 rfl ?_
        refine xB_iand hF dX1_canStand_22 ?_
        refine xB_if_eq (tgt := 28) hF dX1_canStand_23 rfl e (fun _ e => ?_) (fun _ e => ?_)
        · exact xB_l (t_X1_canStand_c28 hF ih _ _ e) (And.intro rfl (And.intro rfl (And.intro rfl (And.intro rfl (True.intro)))))
        · refine xB_iconst hF dX1_canStand_26 ki_0 ?_
          exact xB_zreturn hF dX1_canStand_27 rfl e
def f_X1_canStand (a1 : Int32) (a2 : Int32) (h : xH) : Option (Int32 × xH) :=
    f_X1_canStand_c2 a1 a2 xN 0 h
set_option maxRecDepth 20000 in
set_option maxHeartbeats 2000000 in
theorem t_X1_canStand {l : Launch} {γ : xG} {a1 : Int32} {a2 : Int32} {h : xH} {r : Int32} {hr : xH} (e : f_X1_canStand a1 a2 h = some (r, hr)) : xCT l γ xSC yX1_canStand cX1_canStand 4 (some .boolean) 0 [.ref (γ.2.2.2 54), .int a1, .int a2] h (some (.int r)) hr := by
  refine xCT.of (own := RX1) (L := [some (.ref (γ.2.2.2 54)), some (.int a1), some (.int a2), none]) (by decide) rfl rfl rfl (fun C hF => ?_)
  unfold f_X1_canStand at e
  refine xB_iconst hF dX1_canStand_0 ki_0 ?_
  refine xB_istore_n (L' := [_, _, _, _]) hF dX1_canStand_1 rfl rfl rfl ?_
  exact xB_l (t_X1_canStand_c2 hF _ _ _ e) (And.intro rfl (And.intro rfl (And.intro rfl (And.intro rfl (True.intro)))))
def f_X6_sumOver_c24 (k4 : Int32 → Int32 → xH → Option (Int32 × xH)) (a0 : Nat) (n0 : Nat) (a1 : Int32) (v2 : Int32) (v3 : Int32) (h : xH) : Option (Int32 × xH) :=
    k4 v2 (v3 + 1) h
set_option maxRecDepth 20000 in
set_option maxHeartbeats 2000000 in
theorem t_X6_sumOver_c24 {l : Launch} {γ : xG} {k4 : Int32 → Int32 → xH → Option (Int32 × xH)} {a0 : Nat} {n0 : Nat} {a1 : Int32} {r : Int32} {hr : xH} {C : xCx} (hF : xF C cX6_sumOver RX6 4 0 γ xSC (some (.int r)) hr l (some .int)) (ha0 : xSC[a0]? = some (shA n0)) (hk4 : ∀ (v2 : Int32) (v3 : Int32) (h : xH), k4 v2 v3 h = some (r, hr) → xB C h 4 [some (.ref (γ.2.2.2 a0)), some (.int a1), some (.int v2), some (.int v3)] []) : ∀ (v2 : Int32) (v3 : Int32) (h : xH), f_X6_sumOver_c24 k4 a0 n0 a1 v2 v3 h = some (r, hr) → xB C h 24 [some (.ref (γ.2.2.2 a0)), some (.int a1), some (.int v2), some (.int v3)] [] := by
  intro v2 v3 h e
  unfold f_X6_sumOver_c24 at e
  refine xB_iinc (L' := [_, _, _, _]) hF dX6_sumOver_24 rfl ki_1 rfl rfl rfl ?_
  refine xB_goto (tgt := 4) hF dX6_sumOver_27 rfl ?_
  exact xB_l (hk4 _ _ _ e) (And.intro rfl (And.intro rfl (And.intro rfl (And.intro rfl (True.intro)))))
def f_X6_sumOver_c4 (a0 : Nat) (n0 : Nat) (a1 : Int32) : Nat → Int32 → Int32 → xH → Option (Int32 × xH)
  | 0, _, _, _ => none
  | n + 1, v2, v3, h =>
    if (Int32.ofNat n0) ≤ v3 then (some (v2, h)) else (if ((a1 >>> (v3 &&& 31)) &&& 1) = 0 then (f_X6_sumOver_c24 (f_X6_sumOver_c4 a0 n0 a1 n) a0 n0 a1 v2 v3 h) else (gd v3 n0 <| nm (v2 + (h a0 (Int32.toNatClampNeg v3))) fun x1 => f_X6_sumOver_c24 (f_X6_sumOver_c4 a0 n0 a1 n) a0 n0 a1 x1 v3 h))
set_option maxRecDepth 20000 in
set_option maxHeartbeats 2000000 in
theorem t_X6_sumOver_c4 {l : Launch} {γ : xG} {a0 : Nat} {n0 : Nat} {a1 : Int32} {r : Int32} {hr : xH} {C : xCx} (hF : xF C cX6_sumOver RX6 4 0 γ xSC (some (.int r)) hr l (some .int)) (ha0 : xSC[a0]? = some (shA n0)) : ∀ (n : Nat) (v2 : Int32) (v3 : Int32) (h : xH), f_X6_sumOver_c4 a0 n0 a1 n v2 v3 h = some (r, hr) → xB C h 4 [some (.ref (γ.2.2.2 a0)), some (.int a1), some (.int v2), some (.int v3)] [] := by
  intro n
  induction n with
  | zero => intro v2 v3 h e; cases e
  | succ n ih =>
    intro v2 v3 h e
    rw [f_X6_sumOver_c4] at e
    refine xB_iload_n hF dX6_sumOver_4 rfl ?_
    refine xB_aload_n hF dX6_sumOver_5 rfl ?_
    refine xB_alen hF dX6_sumOver_6 ha0 rfl ?_
    refine xB_icmp_ge (tgt := 30) hF dX6_sumOver_7 rfl e (fun _ e => ?_) (fun _ e => ?_)
    · refine xB_iload_n hF dX6_sumOver_30 rfl ?_
      exact xB_ireturn hF dX6_sumOver_31 e
    · refine xB_iload_n hF dX6_sumOver_10 rfl ?_
      refine xB_iload_n hF dX6_sumOver_11 rfl ?_
      refine xB_ishr hF dX6_sumOver_12 ?_
      refine xB_iconst hF dX6_sumOver_13 ki_1 ?_
      refine xB_iand hF dX6_sumOver_14 ?_
      refine xB_if_eq (tgt := 24) hF dX6_sumOver_15 rfl e (fun _ e => ?_) (fun _ e => ?_)
      · exact xB_l (t_X6_sumOver_c24 hF ha0 ih _ _ _ e) (And.intro rfl (And.intro rfl (And.intro rfl (And.intro rfl (True.intro)))))
      · refine xB_iload_n hF dX6_sumOver_18 rfl ?_
        refine xB_aload_n hF dX6_sumOver_19 rfl ?_
        refine xB_iload_n hF dX6_sumOver_20 rfl ?_
        refine xB_iald hF dX6_sumOver_21 ha0 e (fun e => ?_)
        refine xB_iadd hF dX6_sumOver_22 ?_
        refine xB_istore_n (L' := [_, _, _, _]) hF dX6_sumOver_23 rfl rfl rfl ?_
        replace e := nm_of e
        exact xB_l (t_X6_sumOver_c24 hF ha0 ih _ _ _ e) (And.intro rfl (And.intro rfl (And.intro rfl (And.intro rfl (True.intro)))))
def f_X6_sumOver (a0 : Nat) (n0 : Nat) (a1 : Int32) (h : xH) : Option (Int32 × xH) :=
    f_X6_sumOver_c4 a0 n0 a1 xN 0 0 h
set_option maxRecDepth 20000 in
set_option maxHeartbeats 2000000 in
theorem t_X6_sumOver {l : Launch} {γ : xG} {a0 : Nat} {n0 : Nat} {a1 : Int32} {h : xH} {r : Int32} {hr : xH} (ha0 : xSC[a0]? = some (shA n0)) (e : f_X6_sumOver a0 n0 a1 h = some (r, hr)) : xCT l γ xSC yX6_sumOver cX6_sumOver 4 (some .int) 0 [.ref (γ.2.2.2 a0), .int a1] h (some (.int r)) hr := by
  refine xCT.of (own := RX6) (L := [some (.ref (γ.2.2.2 a0)), some (.int a1), none, none]) (by decide) rfl rfl rfl (fun C hF => ?_)
  unfold f_X6_sumOver at e
  refine xB_iconst hF dX6_sumOver_0 ki_0 ?_
  refine xB_istore_n (L' := [_, _, _, _]) hF dX6_sumOver_1 rfl rfl rfl ?_
  refine xB_iconst hF dX6_sumOver_2 ki_0 ?_
  refine xB_istore_n (L' := [_, _, _, _]) hF dX6_sumOver_3 rfl rfl rfl ?_
  exact xB_l (t_X6_sumOver_c4 hF ha0 _ _ _ _ e) (And.intro rfl (And.intro rfl (And.intro rfl (And.intro rfl (True.intro)))))
def f_X1_bestSet_c83 (k8 : Int32 → Int32 → Int32 → xH → Option (Int32 × xH)) (a1 : Int32) (a2 : Int32) (v3 : Int32) (v4 : Int32) (v5 : Int32) (h : xH) : Option (Int32 × xH) :=
    k8 v3 v4 (v5 + 1) h
set_option maxRecDepth 20000 in
set_option maxHeartbeats 2000000 in
theorem t_X1_bestSet_c83 {l : Launch} {γ : xG} {k8 : Int32 → Int32 → Int32 → xH → Option (Int32 × xH)} {a1 : Int32} {a2 : Int32} {r : Int32} {hr : xH} {C : xCx} (hF : xF C cX1_bestSet RX1 7 1 γ xSC (some (.int r)) hr l (some .int)) (hk8 : ∀ (v3 : Int32) (v4 : Int32) (v5 : Int32) (h : xH), k8 v3 v4 v5 h = some (r, hr) → xB C h 8 [some (.ref (γ.2.2.2 54)), some (.int a1), some (.int a2), some (.int v3), some (.int v4), some (.int v5), none] []) : ∀ (v3 : Int32) (v4 : Int32) (v5 : Int32) (h : xH), f_X1_bestSet_c83 k8 a1 a2 v3 v4 v5 h = some (r, hr) → xB C h 83 [some (.ref (γ.2.2.2 54)), some (.int a1), some (.int a2), some (.int v3), some (.int v4), some (.int v5), none] [] := by
  intro v3 v4 v5 h e
  unfold f_X1_bestSet_c83 at e
  refine xB_iinc (L' := [_, _, _, _, _, _, _]) hF dX1_bestSet_83 rfl ki_1 rfl rfl rfl ?_
  refine xB_goto (tgt := 8) hF dX1_bestSet_86 rfl ?_
  exact xB_l (hk8 _ _ _ _ e) (And.intro rfl (And.intro rfl (And.intro rfl (And.intro rfl (And.intro rfl (And.intro rfl (True.intro)))))))
def f_X1_bestSet_c76 (k8 : Int32 → Int32 → Int32 → xH → Option (Int32 × xH)) (a1 : Int32) (a2 : Int32) (v5 : Int32) (v6 : Int32) (h : xH) : Option (Int32 × xH) :=
    f_X1_bestSet_c83 k8 a1 a2 v5 v6 v5 h
set_option maxRecDepth 20000 in
set_option maxHeartbeats 2000000 in
theorem t_X1_bestSet_c76 {l : Launch} {γ : xG} {k8 : Int32 → Int32 → Int32 → xH → Option (Int32 × xH)} {a1 : Int32} {a2 : Int32} {r : Int32} {hr : xH} {C : xCx} (hF : xF C cX1_bestSet RX1 7 1 γ xSC (some (.int r)) hr l (some .int)) (hk8 : ∀ (v3 : Int32) (v4 : Int32) (v5 : Int32) (h : xH), k8 v3 v4 v5 h = some (r, hr) → xB C h 8 [some (.ref (γ.2.2.2 54)), some (.int a1), some (.int a2), some (.int v3), some (.int v4), some (.int v5), none] []) : ∀ (v5 : Int32) (v6 : Int32) (h : xH), f_X1_bestSet_c76 k8 a1 a2 v5 v6 h = some (r, hr) → xB C h 76 [some (.ref (γ.2.2.2 54)), some (.int a1), some (.int a2), none, none, some (.int v5), some (.int v6)] [] := by
  intro v5 v6 h e
  unfold f_X1_bestSet_c76 at e
  refine xB_iload hF dX1_bestSet_76 rfl ?_
  refine xB_istore_n (L' := [_, _, _, _, _, _, _]) hF dX1_bestSet_78 rfl rfl rfl ?_
  refine xB_iload hF dX1_bestSet_79 rfl ?_
  refine xB_istore (L' := [_, _, _, _, _, _, _]) hF dX1_bestSet_81 rfl rfl rfl ?_
  exact xB_l (t_X1_bestSet_c83 hF hk8 _ _ _ _ e) (And.intro rfl (And.intro rfl (And.intro rfl (And.intro rfl (And.intro rfl (And.intro rfl (True.intro)))))))
def f_X1_bestSet_c8 (a1 : Int32) (a2 : Int32) : Nat → Int32 → Int32 → Int32 → xH → Option (Int32 × xH)
  | 0, _, _, _, _ => none
  | n + 1, v3, v4, v5, h =>
    if (1 <<< (a1 &&& 31)) ≤ v5 then (some (v3, h)) else (bn (f_X1_canStand v5 a1 h) fun r1 h2 => if r1 = 0 then (f_X1_bestSet_c83 (f_X1_bestSet_c8 a1 a2 n) a1 a2 v3 v4 v5 h2) else (bn (f_X6_sumOver 55 10 v5 h2) fun r4 h5 => if a2 < r4 then (f_X1_bestSet_c83 (f_X1_bestSet_c8 a1 a2 n) a1 a2 v3 v4 v5 h5) else (bn (f_X6_sumOver 56 10 v5 h5) fun r7 h8 => if v4 < r7 then (f_X1_bestSet_c76 (f_X1_bestSet_c8 a1 a2 n) a1 a2 v5 r7 h8) else (if r7 = v4 then (bn (f_J6_bitCount v5 h8) fun r10 h11 => bn (f_J6_bitCount v3 h11) fun r13 h14 => if r13 ≤ r10 then (f_X1_bestSet_c83 (f_X1_bestSet_c8 a1 a2 n) a1 a2 v3 v4 v5 h14) else (f_X1_bestSet_c76 (f_X1_bestSet_c8 a1 a2 n) a1 a2 v5 r7 h14)) else (f_X1_bestSet_c83 (f_X1_bestSet_c8 a1 a2 n) a1 a2 v3 v4 v5 h8)))))
set_option maxRecDepth 20000 in
set_option maxHeartbeats 2000000 in
theorem t_X1_bestSet_c8 {l : Launch} {γ : xG} {a1 : Int32} {a2 : Int32} {r : Int32} {hr : xH} {C : xCx} (hF : xF C cX1_bestSet RX1 7 1 γ xSC (some (.int r)) hr l (some .int)) : ∀ (n : Nat) (v3 : Int32) (v4 : Int32) (v5 : Int32) (h : xH), f_X1_bestSet_c8 a1 a2 n v3 v4 v5 h = some (r, hr) → xB C h 8 [some (.ref (γ.2.2.2 54)), some (.int a1), some (.int a2), some (.int v3), some (.int v4), some (.int v5), none] [] := by
  intro n
  induction n with
  | zero => intro v3 v4 v5 h e; cases e
  | succ n ih =>
    intro v3 v4 v5 h e
    rw [f_X1_bestSet_c8] at e
    refine xB_iload hF dX1_bestSet_8 rfl ?_
    refine xB_iconst hF dX1_bestSet_10 ki_1 ?_
    refine xB_iload_n hF dX1_bestSet_11 rfl ?_
    refine xB_ishl hF dX1_bestSet_12 ?_
    refine xB_icmp_ge (tgt := 89) hF dX1_bestSet_13 rfl e (fun _ e => ?_) (fun _ e => ?_)
    · refine xB_iload_n hF dX1_bestSet_89 rfl ?_
      exact xB_ireturn hF dX1_bestSet_90 e
    · refine xB_aload_n hF dX1_bestSet_16 rfl ?_
      refine xB_iload hF dX1_bestSet_17 rfl ?_
      refine xB_iload_n hF dX1_bestSet_19 rfl ?_
      obtain ⟨r1, h2, e3, e⟩ := bn_of e
      refine xB_callVi hF dX1_bestSet_20 (t_X1_canStand e3) cw_X1_48 sC_54 rfl rfl rfl rfl rfl ?_
      refine xB_if_eq (tgt := 83) hF dX1_bestSet_23 rfl e (fun _ e => ?_) (fun _ e => ?_)
      · exact xB_l (t_X1_bestSet_c83 hF ih _ _ _ _ e) (And.intro rfl (And.intro rfl (And.intro rfl (And.intro rfl (And.intro rfl (And.intro rfl (True.intro)))))))
      · refine xB_aload_n hF dX1_bestSet_26 rfl ?_
        refine xB_get hF dX1_bestSet_27 fl_X1_9 sC_54 rfl rfl ?_
        refine xB_iload hF dX1_bestSet_30 rfl ?_
        obtain ⟨r4, h5, e6, e⟩ := bn_of e
        refine xB_callNi hF dX1_bestSet_32 (t_X6_sumOver sC_55 e6) cw_X1_52 rfl rfl rfl rfl ?_
        refine xB_iload_n hF dX1_bestSet_35 rfl ?_
        refine xB_icmp_gt (tgt := 83) hF dX1_bestSet_36 rfl e (fun _ e => ?_) (fun _ e => ?_)
        · exact xB_l (t_X1_bestSet_c83 hF ih _ _ _ _ e) (And.intro rfl (And.intro rfl (And.intro rfl (And.intro rfl (And.intro rfl (And.intro rfl (True.intro)))))))
        · refine xB_aload_n hF dX1_bestSet_39 rfl ?_
          refine xB_get hF dX1_bestSet_40 fl_X1_15 sC_54 rfl rfl ?_
          refine xB_iload hF dX1_bestSet_43 rfl ?_
          obtain ⟨r7, h8, e9, e⟩ := bn_of e
          refine xB_callNi hF dX1_bestSet_45 (t_X6_sumOver sC_56 e9) cw_X1_52 rfl rfl rfl rfl ?_
          refine xB_istore (L' := [_, _, _, _, _, _, _]) hF dX1_bestSet_48 rfl rfl rfl ?_
          refine xB_iload hF dX1_bestSet_50 rfl ?_
          refine xB_iload hF dX1_bestSet_52 rfl ?_
          refine xB_icmp_gt (tgt := 76) hF dX1_bestSet_54 rfl e (fun _ e => ?_) (fun _ e => ?_)
          · exact xB_l (t_X1_bestSet_c76 hF ih _ _ _ e) (And.intro rfl (And.intro rfl (And.intro rfl (And.intro rfl (And.intro rfl (True.intro))))))
          · refine xB_iload hF dX1_bestSet_57 rfl ?_
            refine xB_iload hF dX1_bestSet_59 rfl ?_
            refine xB_icmp_ne (tgt := 83) hF dX1_bestSet_61 rfl e (fun _ e => ?_) (fun _ e => ?_)
            · refine xB_iload hF dX1_bestSet_64 rfl ?_
              obtain ⟨r10, h11, e12, e⟩ := bn_of e
              refine xB_callSi hF dX1_bestSet_66 (t_J6_bitCount e12) cw_X1_56 rfl rfl rfl rfl ?_
              refine xB_iload_n hF dX1_bestSet_69 rfl ?_
              obtain ⟨r13, h14, e15, e⟩ := bn_of e
              refine xB_callSi hF dX1_bestSet_70 (t_J6_bitCount e15) cw_X1_56 rfl rfl rfl rfl ?_
              refine xB_icmp_ge (tgt := 83) hF dX1_bestSet_73 rfl e (fun _ e => ?_) (fun _ e => ?_)
              · exact xB_l (t_X1_bestSet_c83 hF ih _ _ _ _ e) (And.intro rfl (And.intro rfl (And.intro rfl (And.intro rfl (And.intro rfl (And.intro rfl (True.intro)))))))
              · exact xB_l (t_X1_bestSet_c76 hF ih _ _ _ e) (And.intro rfl (And.intro rfl (And.intro rfl (And.intro rfl (And.intro rfl (True.intro))))))
            · exact xB_l (t_X1_bestSet_c83 hF ih _ _ _ _ e) (And.intro rfl (And.intro rfl (And.intro rfl (And.intro rfl (And.intro rfl (And.intro rfl (True.intro)))))))
def f_X1_bestSet (a1 : Int32) (a2 : Int32) (h : xH) : Option (Int32 × xH) :=
    f_X1_bestSet_c8 a1 a2 xN 0 0 1 h
set_option maxRecDepth 20000 in
set_option maxHeartbeats 2000000 in
theorem t_X1_bestSet {l : Launch} {γ : xG} {a1 : Int32} {a2 : Int32} {h : xH} {r : Int32} {hr : xH} (e : f_X1_bestSet a1 a2 h = some (r, hr)) : xCT l γ xSC yX1_bestSet cX1_bestSet 7 (some .int) 1 [.ref (γ.2.2.2 54), .int a1, .int a2] h (some (.int r)) hr := by
  refine xCT.of (own := RX1) (L := [some (.ref (γ.2.2.2 54)), some (.int a1), some (.int a2), none, none, none, none]) (by decide) rfl rfl rfl (fun C hF => ?_)
  unfold f_X1_bestSet at e
  refine xB_iconst hF dX1_bestSet_0 ki_0 ?_
  refine xB_istore_n (L' := [_, _, _, _, _, _, _]) hF dX1_bestSet_1 rfl rfl rfl ?_
  refine xB_iconst hF dX1_bestSet_2 ki_0 ?_
  refine xB_istore (L' := [_, _, _, _, _, _, _]) hF dX1_bestSet_3 rfl rfl rfl ?_
  refine xB_iconst hF dX1_bestSet_5 ki_1 ?_
  refine xB_istore (L' := [_, _, _, _, _, _, _]) hF dX1_bestSet_6 rfl rfl rfl ?_
  exact xB_l (t_X1_bestSet_c8 hF _ _ _ _ _ e) (And.intro rfl (And.intro rfl (And.intro rfl (And.intro rfl (And.intro rfl (And.intro rfl (True.intro)))))))
def f_X1_lookAt_c107 (k2 : Int32 → xH → Option (Int32 × xH)) (k72 : Int32 → Int32 → xH → Option (Int32 × xH)) (a1 : Nat) (a2 : Int32) (v3 : Int32) (v4 : Int32) (h : xH) : Option (Int32 × xH) :=
    k72 v3 (v4 + 1) h
set_option maxRecDepth 20000 in
set_option maxHeartbeats 2000000 in
theorem t_X1_lookAt_c107 {l : Launch} {γ : xG} {k2 : Int32 → xH → Option (Int32 × xH)} {k72 : Int32 → Int32 → xH → Option (Int32 × xH)} {a1 : Nat} {a2 : Int32} {r : Int32} {hr : xH} {C : xCx} (hF : xF C cX1_lookAt RX1 5 4 γ xSC none hr l none) (ha1 : isX5 a1) (hk2 : ∀ (v3 : Int32) (h : xH), k2 v3 h = some (r, hr) → xB C h 2 [some (.ref (γ.2.2.2 54)), some (.ref (γ.2.2.2 a1)), some (.int a2), some (.int v3), none] []) (hk72 : ∀ (v3 : Int32) (v4 : Int32) (h : xH), k72 v3 v4 h = some (r, hr) → xB C h 72 [some (.ref (γ.2.2.2 54)), some (.ref (γ.2.2.2 a1)), some (.int a2), some (.int v3), some (.int v4)] []) : ∀ (v3 : Int32) (v4 : Int32) (h : xH), f_X1_lookAt_c107 k2 k72 a1 a2 v3 v4 h = some (r, hr) → xB C h 107 [some (.ref (γ.2.2.2 54)), some (.ref (γ.2.2.2 a1)), some (.int a2), some (.int v3), some (.int v4)] [] := by
  intro v3 v4 h e
  unfold f_X1_lookAt_c107 at e
  refine xB_iinc (L' := [_, _, _, _, _]) hF dX1_lookAt_107 rfl ki_1 rfl rfl rfl ?_
  refine xB_goto (tgt := 72) hF dX1_lookAt_110 rfl ?_
  exact xB_l (hk72 _ _ _ e) (And.intro rfl (And.intro rfl (And.intro rfl (And.intro rfl (And.intro rfl (True.intro))))))
def f_X1_lookAt_c72 (k2 : Int32 → xH → Option (Int32 × xH)) (a1 : Nat) (a2 : Int32) : Nat → Int32 → Int32 → xH → Option (Int32 × xH)
  | 0, _, _, _ => none
  | n + 1, v3, v4, h =>
    if v3 ≤ v4 then (k2 (v3 + 1) h) else (gd v4 10 <| gd v3 10 <| if (h (a1 + 2) (Int32.toNatClampNeg v4)) = (h (a1 + 2) (Int32.toNatClampNeg v3)) then (gd v3 10 <| gd v3 10 <| nm (xst h 57 (Int32.toNatClampNeg v3) ((h 57 (Int32.toNatClampNeg v3)) ||| (1 <<< (v4 &&& 31)))) fun h1 => f_X1_lookAt_c107 k2 (f_X1_lookAt_c72 k2 a1 a2 n) a1 a2 v3 v4 h1) else (f_X1_lookAt_c107 k2 (f_X1_lookAt_c72 k2 a1 a2 n) a1 a2 v3 v4 h))
set_option maxRecDepth 20000 in
set_option maxHeartbeats 2000000 in
theorem t_X1_lookAt_c72 {l : Launch} {γ : xG} {k2 : Int32 → xH → Option (Int32 × xH)} {a1 : Nat} {a2 : Int32} {r : Int32} {hr : xH} {C : xCx} (hF : xF C cX1_lookAt RX1 5 4 γ xSC none hr l none) (ha1 : isX5 a1) (hk2 : ∀ (v3 : Int32) (h : xH), k2 v3 h = some (r, hr) → xB C h 2 [some (.ref (γ.2.2.2 54)), some (.ref (γ.2.2.2 a1)), some (.int a2), some (.int v3), none] []) : ∀ (n : Nat) (v3 : Int32) (v4 : Int32) (h : xH), f_X1_lookAt_c72 k2 a1 a2 n v3 v4 h = some (r, hr) → xB C h 72 [some (.ref (γ.2.2.2 54)), some (.ref (γ.2.2.2 a1)), some (.int a2), some (.int v3), some (.int v4)] [] := by
  intro n
  induction n with
  | zero => intro v3 v4 h e; cases e
  | succ n ih =>
    intro v3 v4 h e
    rw [f_X1_lookAt_c72] at e
    refine xB_iload hF dX1_lookAt_72 rfl ?_
    refine xB_iload_n hF dX1_lookAt_74 rfl ?_
    refine xB_icmp_ge (tgt := 113) hF dX1_lookAt_75 rfl e (fun _ e => ?_) (fun _ e => ?_)
    · refine xB_iinc (L' := [_, _, _, _, _]) hF dX1_lookAt_113 rfl ki_1 rfl rfl rfl ?_
      refine xB_goto (tgt := 2) hF dX1_lookAt_116 rfl ?_
      exact xB_l (hk2 _ _ e) (And.intro rfl (And.intro rfl (And.intro rfl (And.intro rfl (True.intro)))))
    · refine xB_aload_n hF dX1_lookAt_78 rfl ?_
      refine xB_get hF dX1_lookAt_79 fl_X1_45 ha1.1 rfl rfl ?_
      refine xB_iload hF dX1_lookAt_82 rfl ?_
      refine xB_iald hF dX1_lookAt_84 ha1.2.2.1 e (fun e => ?_)
      refine xB_aload_n hF dX1_lookAt_85 rfl ?_
      refine xB_get hF dX1_lookAt_86 fl_X1_45 ha1.1 rfl rfl ?_
      refine xB_iload_n hF dX1_lookAt_89 rfl ?_
      refine xB_iald hF dX1_lookAt_90 ha1.2.2.1 e (fun e => ?_)
      refine xB_icmp_ne (tgt := 107) hF dX1_lookAt_91 rfl e (fun _ e => ?_) (fun _ e => ?_)
      · refine xB_aload_n hF dX1_lookAt_94 rfl ?_
        refine xB_get hF dX1_lookAt_95 fl_X1_18 sC_54 rfl rfl ?_
        refine xB_iload_n hF dX1_lookAt_98 rfl ?_
        refine xB_dup2 hF dX1_lookAt_99 rfl rfl ?_
        refine xB_iald hF dX1_lookAt_100 sC_57 e (fun e => ?_)
        refine xB_iconst hF dX1_lookAt_101 ki_1 ?_
        refine xB_iload hF dX1_lookAt_102 rfl ?_
        refine xB_ishl hF dX1_lookAt_104 ?_
        refine xB_ior hF dX1_lookAt_105 ?_
        refine xB_iast hF dX1_lookAt_106 sC_57 e (fun e => ?_)
        refine xB_gen e (fun h1 e => ?_)
        exact xB_l (t_X1_lookAt_c107 hF ha1 hk2 ih _ _ _ e) (And.intro rfl (And.intro rfl (And.intro rfl (And.intro rfl (And.intro rfl (True.intro))))))
      · exact xB_l (t_X1_lookAt_c107 hF ha1 hk2 ih _ _ _ e) (And.intro rfl (And.intro rfl (And.intro rfl (And.intro rfl (And.intro rfl (True.intro))))))
def f_X1_lookAt_c68 (k2 : Int32 → xH → Option (Int32 × xH)) (a1 : Nat) (a2 : Int32) (v3 : Int32) (s0 : Int32) (s1 : Int32) (h : xH) : Option (Int32 × xH) :=
    gd s1 10 <| nm (xst h 57 (Int32.toNatClampNeg s1) s0) fun h1 => f_X1_lookAt_c72 k2 a1 a2 xN v3 0 h1
set_option maxRecDepth 20000 in
set_option maxHeartbeats 2000000 in
theorem t_X1_lookAt_c68 {l : Launch} {γ : xG} {k2 : Int32 → xH → Option (Int32 × xH)} {a1 : Nat} {a2 : Int32} {r : Int32} {hr : xH} {C : xCx} (hF : xF C cX1_lookAt RX1 5 4 γ xSC none hr l none) (ha1 : isX5 a1) (hk2 : ∀ (v3 : Int32) (h : xH), k2 v3 h = some (r, hr) → xB C h 2 [some (.ref (γ.2.2.2 54)), some (.ref (γ.2.2.2 a1)), some (.int a2), some (.int v3), none] []) : ∀ (v3 : Int32) (s0 : Int32) (s1 : Int32) (h : xH), f_X1_lookAt_c68 k2 a1 a2 v3 s0 s1 h = some (r, hr) → xB C h 68 [some (.ref (γ.2.2.2 54)), some (.ref (γ.2.2.2 a1)), some (.int a2), some (.int v3), none] [.int s0, .int s1, .ref (γ.2.2.2 57)] := by
  intro v3 s0 s1 h e
  unfold f_X1_lookAt_c68 at e
  refine xB_iast hF dX1_lookAt_68 sC_57 e (fun e => ?_)
  refine xB_gen e (fun h1 e => ?_)
  refine xB_iconst hF dX1_lookAt_69 ki_0 ?_
  refine xB_istore (L' := [_, _, _, _, _]) hF dX1_lookAt_70 rfl rfl rfl ?_
  exact xB_l (t_X1_lookAt_c72 hF ha1 hk2 _ _ _ _ e) (And.intro rfl (And.intro rfl (And.intro rfl (And.intro rfl (And.intro rfl (True.intro))))))
def f_X1_lookAt_c2 (a1 : Nat) (a2 : Int32) : Nat → Int32 → xH → Option (Int32 × xH)
  | 0, _, _ => none
  | n + 1, v3, h =>
    if (h a1 10) ≤ v3 then (some (0, h)) else (bn (f_X5_valueOf a1 v3 h) fun r1 h2 => gd v3 10 <| nm (xst h2 55 (Int32.toNatClampNeg v3) r1) fun h4 => gd v3 10 <| gd a2 6 <| nm (if 0 ≤ ((h4 (a1 + 3) (Int32.toNatClampNeg v3)) - (h4 (a1 + 8) (Int32.toNatClampNeg a2))) then ((h4 (a1 + 3) (Int32.toNatClampNeg v3)) - (h4 (a1 + 8) (Int32.toNatClampNeg a2))) else 0 - ((h4 (a1 + 3) (Int32.toNatClampNeg v3)) - (h4 (a1 + 8) (Int32.toNatClampNeg a2)))) fun x5 => gd v3 10 <| nm (xst h4 56 (Int32.toNatClampNeg v3) (10 - x5)) fun h6 => gd v3 10 <| if (h6 (a1 + 5) (Int32.toNatClampNeg v3)) = a2 then (f_X1_lookAt_c68 (f_X1_lookAt_c2 a1 a2 n) a1 a2 v3 (1 <<< (v3 &&& 31)) v3 h6) else (f_X1_lookAt_c68 (f_X1_lookAt_c2 a1 a2 n) a1 a2 v3 0 v3 h6))
set_option maxRecDepth 20000 in
set_option maxHeartbeats 2000000 in
theorem t_X1_lookAt_c2 {l : Launch} {γ : xG} {a1 : Nat} {a2 : Int32} {r : Int32} {hr : xH} {C : xCx} (hF : xF C cX1_lookAt RX1 5 4 γ xSC none hr l none) (ha1 : isX5 a1) : ∀ (n : Nat) (v3 : Int32) (h : xH), f_X1_lookAt_c2 a1 a2 n v3 h = some (r, hr) → xB C h 2 [some (.ref (γ.2.2.2 54)), some (.ref (γ.2.2.2 a1)), some (.int a2), some (.int v3), none] [] := by
  intro n
  induction n with
  | zero => intro v3 h e; cases e
  | succ n ih =>
    intro v3 h e
    rw [f_X1_lookAt_c2] at e
    refine xB_iload_n hF dX1_lookAt_2 rfl ?_
    refine xB_aload_n hF dX1_lookAt_3 rfl ?_
    refine xB_get hF dX1_lookAt_4 fl_X1_21 ha1.1 rfl rfl ?_
    refine xB_icmp_ge (tgt := 119) hF dX1_lookAt_7 rfl e (fun _ e => ?_) (fun _ e => ?_)
    · exact xB_vreturn hF dX1_lookAt_119 e
    · refine xB_aload_n hF dX1_lookAt_10 rfl ?_
      refine xB_get hF dX1_lookAt_11 fl_X1_9 sC_54 rfl rfl ?_
      refine xB_iload_n hF dX1_lookAt_14 rfl ?_
      refine xB_aload_n hF dX1_lookAt_15 rfl ?_
      refine xB_iload_n hF dX1_lookAt_16 rfl ?_
      obtain ⟨r1, h2, e3, e⟩ := bn_of e
      refine xB_callVi hF dX1_lookAt_17 (t_X5_valueOf ha1 e3) cw_X1_27 ha1.1 rfl rfl rfl rfl rfl ?_
      refine xB_iast hF dX1_lookAt_20 sC_55 e (fun e => ?_)
      refine xB_gen e (fun h4 e => ?_)
      refine xB_aload_n hF dX1_lookAt_21 rfl ?_
      refine xB_get hF dX1_lookAt_22 fl_X1_15 sC_54 rfl rfl ?_
      refine xB_iload_n hF dX1_lookAt_25 rfl ?_
      refine xB_bipush hF dX1_lookAt_26 kb_10 ?_
      refine xB_aload_n hF dX1_lookAt_28 rfl ?_
      refine xB_get hF dX1_lookAt_29 fl_X1_31 ha1.1 rfl rfl ?_
      refine xB_iload_n hF dX1_lookAt_32 rfl ?_
      refine xB_iald hF dX1_lookAt_33 ha1.2.2.2.1 e (fun e => ?_)
      refine xB_aload_n hF dX1_lookAt_34 rfl ?_
      refine xB_get hF dX1_lookAt_35 fl_X1_34 ha1.1 rfl rfl ?_
      refine xB_iload_n hF dX1_lookAt_38 rfl ?_
      refine xB_iald hF dX1_lookAt_39 ha1.2.2.2.2.2.2.2.2.1 e (fun e => ?_)
      refine xB_isub hF dX1_lookAt_40 ?_
      refine xB_mabs hF dX1_lookAt_41 ml_X1_37 mw_abs rfl rfl ?_
      replace e := nm_of e
      refine xB_isub hF dX1_lookAt_44 ?_
      refine xB_iast hF dX1_lookAt_45 sC_56 e (fun e => ?_)
      refine xB_gen e (fun h6 e => ?_)
      refine xB_aload_n hF dX1_lookAt_46 rfl ?_
      refine xB_get hF dX1_lookAt_47 fl_X1_18 sC_54 rfl rfl ?_
      refine xB_iload_n hF dX1_lookAt_50 rfl ?_
      refine xB_aload_n hF dX1_lookAt_51 rfl ?_
      refine xB_get hF dX1_lookAt_52 fl_X1_42 ha1.1 rfl rfl ?_
      refine xB_iload_n hF dX1_lookAt_55 rfl ?_
      refine xB_iald hF dX1_lookAt_56 ha1.2.2.2.2.2.1 e (fun e => ?_)
      refine xB_iload_n hF dX1_lookAt_57 rfl ?_
      refine xB_icmp_ne (tgt := 67) hF dX1_lookAt_58 rfl e (fun _ e => ?_) (fun _ e => ?_)
      · refine xB_iconst hF dX1_lookAt_61 ki_1 ?_
        refine xB_iload_n hF dX1_lookAt_62 rfl ?_
        refine xB_ishl hF dX1_lookAt_63 ?_
        refine xB_goto (tgt := 68) hF dX1_lookAt_64 rfl ?_
        exact xB_l (t_X1_lookAt_c68 hF ha1 ih _ _ _ _ e) (And.intro rfl (And.intro rfl (And.intro rfl (And.intro rfl (True.intro)))))
      · refine xB_iconst hF dX1_lookAt_67 ki_0 ?_
        exact xB_l (t_X1_lookAt_c68 hF ha1 ih _ _ _ _ e) (And.intro rfl (And.intro rfl (And.intro rfl (And.intro rfl (True.intro)))))
def f_X1_lookAt (a1 : Nat) (a2 : Int32) (h : xH) : Option (Int32 × xH) :=
    f_X1_lookAt_c2 a1 a2 xN 0 h
set_option maxRecDepth 20000 in
set_option maxHeartbeats 2000000 in
theorem t_X1_lookAt {l : Launch} {γ : xG} {a1 : Nat} {a2 : Int32} {h : xH} {r : Int32} {hr : xH} (ha1 : isX5 a1) (e : f_X1_lookAt a1 a2 h = some (r, hr)) : xCT l γ xSC yX1_lookAt cX1_lookAt 5 none 4 [.ref (γ.2.2.2 54), .ref (γ.2.2.2 a1), .int a2] h none hr := by
  refine xCT.of (own := RX1) (L := [some (.ref (γ.2.2.2 54)), some (.ref (γ.2.2.2 a1)), some (.int a2), none, none]) (by decide) rfl rfl rfl (fun C hF => ?_)
  unfold f_X1_lookAt at e
  refine xB_iconst hF dX1_lookAt_0 ki_0 ?_
  refine xB_istore_n (L' := [_, _, _, _, _]) hF dX1_lookAt_1 rfl rfl rfl ?_
  exact xB_l (t_X1_lookAt_c2 hF ha1 _ _ _ e) (And.intro rfl (And.intro rfl (And.intro rfl (And.intro rfl (True.intro)))))
def f_X6_fill (a1 : Int32) (a2 : Int32) (h : xH) : Option (Int32 × xH) :=
    bn (f_X6_isOne a1 h) fun r1 h2 => if r1 = 0 then (some ((-1000000001), h2)) else (bn (f_X6_within a2 0 2 h2) fun r4 h5 => if r4 = 0 then (some ((-1000000001), h5)) else (bn (f_X1_lookAt 24 a1 h5) fun r7 h8 => gd a1 6 <| bn (f_X1_bestSet (h8 24 10) (h8 31 (Int32.toNatClampNeg a1)) h8) fun r10 h11 => if a2 = 1 then (bn (f_X6_sumOver 56 10 r10 h11) fun r13 h14 => some (r13, h14)) else (if a2 = 2 then (bn (f_X6_sumOver 55 10 r10 h11) fun r16 h17 => some (r16, h17)) else (some (r10, h11)))))
set_option maxRecDepth 20000 in
set_option maxHeartbeats 2000000 in
theorem t_X6_fill {l : Launch} {γ : xG} {a1 : Int32} {a2 : Int32} {h : xH} {r : Int32} {hr : xH} (e : f_X6_fill a1 a2 h = some (r, hr)) : xCT l γ xSC yX6_fill cX6_fill 4 (some .int) 5 [.ref (γ.2.2.2 0), .int a1, .int a2] h (some (.int r)) hr := by
  refine xCT.of (own := RX6) (L := [some (.ref (γ.2.2.2 0)), some (.int a1), some (.int a2), none]) (by decide) rfl rfl rfl (fun C hF => ?_)
  unfold f_X6_fill at e
  refine xB_iload_n hF dX6_fill_0 rfl ?_
  obtain ⟨r1, h2, e3, e⟩ := bn_of e
  refine xB_callSi hF dX6_fill_1 (t_X6_isOne e3) cw_X6_82 rfl rfl rfl rfl ?_
  refine xB_if_eq (tgt := 16) hF dX6_fill_4 rfl e (fun _ e => ?_) (fun _ e => ?_)
  · refine xB_ldc hF dX6_fill_16 kc_X6_85 ?_
    exact xB_ireturn hF dX6_fill_18 e
  · refine xB_iload_n hF dX6_fill_7 rfl ?_
    refine xB_iconst hF dX6_fill_8 ki_0 ?_
    refine xB_iconst hF dX6_fill_9 ki_2 ?_
    obtain ⟨r4, h5, e6, e⟩ := bn_of e
    refine xB_callSi hF dX6_fill_10 (t_X6_within e6) cw_X6_78 rfl rfl rfl rfl ?_
    refine xB_if_ne (tgt := 19) hF dX6_fill_13 rfl e (fun _ e => ?_) (fun _ e => ?_)
    · refine xB_ldc hF dX6_fill_16 kc_X6_85 ?_
      exact xB_ireturn hF dX6_fill_18 e
    · refine xB_aload_n hF dX6_fill_19 rfl ?_
      refine xB_get hF dX6_fill_20 fl_X6_41 sC_0 rfl rfl ?_
      refine xB_aload_n hF dX6_fill_23 rfl ?_
      refine xB_get hF dX6_fill_24 fl_X6_28 sC_0 rfl rfl ?_
      refine xB_iload_n hF dX6_fill_27 rfl ?_
      obtain ⟨r7, h8, e9, e⟩ := bn_of e
      refine xB_callVv hF dX6_fill_28 (t_X1_lookAt isX5_24 e9) cw_X6_188 sC_54 rfl rfl rfl rfl rfl ?_
      refine xB_aload_n hF dX6_fill_31 rfl ?_
      refine xB_get hF dX6_fill_32 fl_X6_41 sC_0 rfl rfl ?_
      refine xB_aload_n hF dX6_fill_35 rfl ?_
      refine xB_get hF dX6_fill_36 fl_X6_28 sC_0 rfl rfl ?_
      refine xB_get hF dX6_fill_39 fl_X6_86 isX5_24.1 rfl rfl ?_
      refine xB_aload_n hF dX6_fill_42 rfl ?_
      refine xB_get hF dX6_fill_43 fl_X6_28 sC_0 rfl rfl ?_
      refine xB_get hF dX6_fill_46 fl_X6_132 isX5_24.1 rfl rfl ?_
      refine xB_iload_n hF dX6_fill_49 rfl ?_
      refine xB_iald hF dX6_fill_50 sC_31 e (fun e => ?_)
      obtain ⟨r10, h11, e12, e⟩ := bn_of e
      refine xB_callVi hF dX6_fill_51 (t_X1_bestSet e12) cw_X6_192 sC_54 rfl rfl rfl rfl rfl ?_
      refine xB_istore_n (L' := [_, _, _, _]) hF dX6_fill_54 rfl rfl rfl ?_
      refine xB_iload_n hF dX6_fill_55 rfl ?_
      rcases if_of e with ⟨c0, e⟩ | ⟨c0, e⟩
      · refine xB_lookup (off := 28) (tgt := 84) hF dX6_fill_56 (by decide +kernel) (xlk c0 (by decide +kernel)) rfl ?_
        refine xB_aload_n hF dX6_fill_84 rfl ?_
        refine xB_get hF dX6_fill_85 fl_X6_41 sC_0 rfl rfl ?_
        refine xB_get hF dX6_fill_88 fl_X6_195 sC_54 rfl rfl ?_
        refine xB_iload_n hF dX6_fill_91 rfl ?_
        obtain ⟨r13, h14, e15, e⟩ := bn_of e
        refine xB_callSi hF dX6_fill_92 (t_X6_sumOver sC_56 e15) cw_X6_198 rfl rfl rfl rfl ?_
        exact xB_ireturn hF dX6_fill_95 e
      rcases if_of e with ⟨c1, e⟩ | ⟨c1, e⟩
      · refine xB_lookup (off := 40) (tgt := 96) hF dX6_fill_56 (by decide +kernel) (xlk c1 (by decide +kernel)) rfl ?_
        refine xB_aload_n hF dX6_fill_96 rfl ?_
        refine xB_get hF dX6_fill_97 fl_X6_41 sC_0 rfl rfl ?_
        refine xB_get hF dX6_fill_100 fl_X6_202 sC_54 rfl rfl ?_
        refine xB_iload_n hF dX6_fill_103 rfl ?_
        obtain ⟨r16, h17, e18, e⟩ := bn_of e
        refine xB_callSi hF dX6_fill_104 (t_X6_sumOver sC_55 e18) cw_X6_198 rfl rfl rfl rfl ?_
        exact xB_ireturn hF dX6_fill_107 e
      refine xB_lookup (off := 52) (tgt := 108) hF dX6_fill_56 (by decide +kernel) (xlkD [(1, 28), (2, 40)] (by have := xne (v := (1)) (n := 1) rfl c0; have := xne (v := (2)) (n := 2) rfl c1; simp only [List.forall_mem_cons, List.not_mem_nil, false_implies, implies_true, and_true]; omega)) rfl ?_
      refine xB_iload_n hF dX6_fill_108 rfl ?_
      exact xB_ireturn hF dX6_fill_109 e
