def f_X2_isDigit (a0 : Int32) (h : xH) : Option (Int32 × xH) :=
    if a0 < 48 then (some (0, h)) else (if 57 < a0 then (some (0, h)) else (some (1, h)))
set_option maxRecDepth 20000 in
set_option maxHeartbeats 2000000 in
theorem t_X2_isDigit {l : Launch} {γ : xG} {a0 : Int32} {h : xH} {r : Int32} {hr : xH} (e : f_X2_isDigit a0 h = some (r, hr)) : xCT l γ xSC yX2_isDigit cX2_isDigit 1 (some .boolean) 0 [.int a0] h (some (.int r)) hr := by
  refine xCT.of (own := RX2) (L := [some (.int a0)]) (by decide) rfl rfl rfl (fun C hF => ?_)
  unfold f_X2_isDigit at e
  refine xB_iload_n hF dX2_isDigit_0 rfl ?_
  refine xB_bipush hF dX2_isDigit_1 kb_48 ?_
  refine xB_icmp_lt (tgt := 16) hF dX2_isDigit_3 rfl e (fun _ e => ?_) (fun _ e => ?_)
  · refine xB_iconst hF dX2_isDigit_16 ki_0 ?_
    exact xB_zreturn hF dX2_isDigit_17 rfl e
  · refine xB_iload_n hF dX2_isDigit_6 rfl ?_
    refine xB_bipush hF dX2_isDigit_7 kb_57 ?_
    refine xB_icmp_gt (tgt := 16) hF dX2_isDigit_9 rfl e (fun _ e => ?_) (fun _ e => ?_)
    · refine xB_iconst hF dX2_isDigit_16 ki_0 ?_
      exact xB_zreturn hF dX2_isDigit_17 rfl e
    · refine xB_iconst hF dX2_isDigit_12 ki_1 ?_
      refine xB_goto (tgt := 17) hF dX2_isDigit_13 rfl ?_
      exact xB_zreturn hF dX2_isDigit_17 rfl e
def f_X2_isLetter (a0 : Int32) (h : xH) : Option (Int32 × xH) :=
    if a0 < 97 then (some (0, h)) else (if 122 < a0 then (some (0, h)) else (some (1, h)))
set_option maxRecDepth 20000 in
set_option maxHeartbeats 2000000 in
theorem t_X2_isLetter {l : Launch} {γ : xG} {a0 : Int32} {h : xH} {r : Int32} {hr : xH} (e : f_X2_isLetter a0 h = some (r, hr)) : xCT l γ xSC yX2_isLetter cX2_isLetter 1 (some .boolean) 0 [.int a0] h (some (.int r)) hr := by
  refine xCT.of (own := RX2) (L := [some (.int a0)]) (by decide) rfl rfl rfl (fun C hF => ?_)
  unfold f_X2_isLetter at e
  refine xB_iload_n hF dX2_isLetter_0 rfl ?_
  refine xB_bipush hF dX2_isLetter_1 kb_97 ?_
  refine xB_icmp_lt (tgt := 16) hF dX2_isLetter_3 rfl e (fun _ e => ?_) (fun _ e => ?_)
  · refine xB_iconst hF dX2_isLetter_16 ki_0 ?_
    exact xB_zreturn hF dX2_isLetter_17 rfl e
  · refine xB_iload_n hF dX2_isLetter_6 rfl ?_
    refine xB_bipush hF dX2_isLetter_7 kb_122 ?_
    refine xB_icmp_gt (tgt := 16) hF dX2_isLetter_9 rfl e (fun _ e => ?_) (fun _ e => ?_)
    · refine xB_iconst hF dX2_isLetter_16 ki_0 ?_
      exact xB_zreturn hF dX2_isLetter_17 rfl e
    · refine xB_iconst hF dX2_isLetter_12 ki_1 ?_
      refine xB_goto (tgt := 17) hF dX2_isLetter_13 rfl ?_
      exact xB_zreturn hF dX2_isLetter_17 rfl e
def f_X2_takeDigits_c76 (a1 : Int32) (h : xH) : Option (Int32 × xH) :=
    if a1 = 0 then (if ((h 21 4) - (h 21 3)) ≤ 4 then (nm (xst h 21 5 2) fun h2 => some (0, h2)) else (nm (xst h 21 5 4) fun h3 => some (0, h3))) else (nm (xst h 21 5 4) fun h1 => some (0, h1))
set_option maxRecDepth 20000 in
set_option maxHeartbeats 2000000 in
theorem t_X2_takeDigits_c76 {l : Launch} {γ : xG} {a1 : Int32} {r : Int32} {hr : xH} {C : xCx} (hF : xF C cX2_takeDigits RX2 2 1 γ xSC none hr l none) : ∀ (h : xH), f_X2_takeDigits_c76 a1 h = some (r, hr) → xB C h 76 [some (.ref (γ.2.2.2 21)), some (.int a1)] [] := by
  intro h e
  unfold f_X2_takeDigits_c76 at e
  refine xB_aload_n hF dX2_takeDigits_76 rfl ?_
  refine xB_iload_n hF dX2_takeDigits_77 rfl ?_
  refine xB_if_ne (tgt := 94) hF dX2_takeDigits_78 rfl e (fun _ e => ?_) (fun _ e => ?_)
  · refine xB_aload_n hF dX2_takeDigits_81 rfl ?_
    refine xB_get hF dX2_takeDigits_82 fl_X2_22 sC_21 rfl rfl ?_
    refine xB_aload_n hF dX2_takeDigits_85 rfl ?_
    refine xB_get hF dX2_takeDigits_86 fl_X2_86 sC_21 rfl rfl ?_
    refine xB_isub hF dX2_takeDigits_89 ?_
    refine xB_iconst hF dX2_takeDigits_90 ki_4 ?_
    refine xB_icmp_le (tgt := 98) hF dX2_takeDigits_91 rfl e (fun _ e => ?_) (fun _ e => ?_)
    · refine xB_iconst hF dX2_takeDigits_98 ki_2 ?_
      refine xB_put hF dX2_takeDigits_99 fp_X2_25 sC_21 rfl rfl rfl rfl rfl ?_
      replace e := nm_of e
      exact xB_vreturn hF dX2_takeDigits_102 e
    · refine xB_iconst hF dX2_takeDigits_94 ki_4 ?_
      refine xB_goto (tgt := 99) hF dX2_takeDigits_95 rfl ?_
      refine xB_put hF dX2_takeDigits_99 fp_X2_25 sC_21 rfl rfl rfl rfl rfl ?_
      replace e := nm_of e
      exact xB_vreturn hF dX2_takeDigits_102 e
  · refine xB_iconst hF dX2_takeDigits_94 ki_4 ?_
    refine xB_goto (tgt := 99) hF dX2_takeDigits_95 rfl ?_
    refine xB_put hF dX2_takeDigits_99 fp_X2_25 sC_21 rfl rfl rfl rfl rfl ?_
    replace e := nm_of e
    exact xB_vreturn hF dX2_takeDigits_102 e
def f_X2_takeDigits_c13 (a1 : Int32) : Nat → xH → Option (Int32 × xH)
  | 0, _ => none
  | n + 1, h =>
    if (h 21 2) ≤ (h 21 4) then (f_X2_takeDigits_c76 a1 h) else (gd (h 21 4) 96 <| bn (f_X2_isDigit (h 22 (Int32.toNatClampNeg (h 21 4))) h) fun r1 h2 => if r1 = 0 then (f_X2_takeDigits_c76 a1 h2) else (gd (h2 21 4) 96 <| nm (xst h2 21 6 ((((h2 21 6) * 10) + (h2 22 (Int32.toNatClampNeg (h2 21 4)))) - 48)) fun h4 => nm (xst h4 21 4 ((h4 21 4) + 1)) fun h5 => f_X2_takeDigits_c13 a1 n h5))
set_option maxRecDepth 20000 in
set_option maxHeartbeats 2000000 in
theorem t_X2_takeDigits_c13 {l : Launch} {γ : xG} {a1 : Int32} {r : Int32} {hr : xH} {C : xCx} (hF : xF C cX2_takeDigits RX2 2 1 γ xSC none hr l none) : ∀ (n : Nat) (h : xH), f_X2_takeDigits_c13 a1 n h = some (r, hr) → xB C h 13 [some (.ref (γ.2.2.2 21)), some (.int a1)] [] := by
  intro n
  induction n with
  | zero => intro h e; cases e
  | succ n ih =>
    intro h e
    rw [f_X2_takeDigits_c13] at e
    refine xB_aload_n hF dX2_takeDigits_13 rfl ?_
    refine xB_get hF dX2_takeDigits_14 fl_X2_22 sC_21 rfl rfl ?_
    refine xB_aload_n hF dX2_takeDigits_17 rfl ?_
    refine xB_get hF dX2_takeDigits_18 fl_X2_18 sC_21 rfl rfl ?_
    refine xB_icmp_ge (tgt := 76) hF dX2_takeDigits_21 rfl e (fun _ e => ?_) (fun _ e => ?_)
    · exact xB_l (t_X2_takeDigits_c76 hF _ e) (And.intro rfl (And.intro rfl (True.intro)))
    · refine xB_aload_n hF dX2_takeDigits_24 rfl ?_
      refine xB_get hF dX2_takeDigits_25 fl_X2_9 sC_21 rfl rfl ?_
      refine xB_aload_n hF dX2_takeDigits_28 rfl ?_
      refine xB_get hF dX2_takeDigits_29 fl_X2_22 sC_21 rfl rfl ?_
      refine xB_iald hF dX2_takeDigits_32 sC_22 e (fun e => ?_)
      obtain ⟨r1, h2, e3, e⟩ := bn_of e
      refine xB_callSi hF dX2_takeDigits_33 (t_X2_isDigit e3) cw_X2_123 rfl rfl rfl rfl ?_
      refine xB_if_eq (tgt := 76) hF dX2_takeDigits_36 rfl e (fun _ e => ?_) (fun _ e => ?_)
      · exact xB_l (t_X2_takeDigits_c76 hF _ e) (And.intro rfl (And.intro rfl (True.intro)))
      · refine xB_aload_n hF dX2_takeDigits_39 rfl ?_
        refine xB_aload_n hF dX2_takeDigits_40 rfl ?_
        refine xB_get hF dX2_takeDigits_41 fl_X2_56 sC_21 rfl rfl ?_
        refine xB_bipush hF dX2_takeDigits_44 kb_10 ?_
        refine xB_imul hF dX2_takeDigits_46 ?_
        refine xB_aload_n hF dX2_takeDigits_47 rfl ?_
        refine xB_get hF dX2_takeDigits_48 fl_X2_9 sC_21 rfl rfl ?_
        refine xB_aload_n hF dX2_takeDigits_51 rfl ?_
        refine xB_get hF dX2_takeDigits_52 fl_X2_22 sC_21 rfl rfl ?_
        refine xB_iald hF dX2_takeDigits_55 sC_22 e (fun e => ?_)
        refine xB_iadd hF dX2_takeDigits_56 ?_
        refine xB_bipush hF dX2_takeDigits_57 kb_48 ?_
        refine xB_isub hF dX2_takeDigits_59 ?_
        refine xB_put hF dX2_takeDigits_60 fp_X2_56 sC_21 rfl rfl rfl rfl rfl ?_
        replace e := nm_of e
        refine xB_aload_n hF dX2_takeDigits_63 rfl ?_
        refine xB_dup hF dX2_takeDigits_64 rfl ?_
        refine xB_get hF dX2_takeDigits_65 fl_X2_22 sC_21 rfl rfl ?_
        refine xB_iconst hF dX2_takeDigits_68 ki_1 ?_
        refine xB_iadd hF dX2_takeDigits_69 ?_
        refine xB_put hF dX2_takeDigits_70 fp_X2_22 sC_21 rfl rfl rfl rfl rfl ?_
        replace e := nm_of e
        refine xB_goto (tgt := 13) hF dX2_takeDigits_73 rfl ?_
        exact xB_l (ih _ e) (And.intro rfl (And.intro rfl (True.intro)))
def f_X2_takeDigits (a1 : Int32) (h : xH) : Option (Int32 × xH) :=
    nm (xst h 21 4 (h 21 3)) fun h1 => nm (xst h1 21 6 0) fun h2 => f_X2_takeDigits_c13 a1 xN h2
set_option maxRecDepth 20000 in
set_option maxHeartbeats 2000000 in
theorem t_X2_takeDigits {l : Launch} {γ : xG} {a1 : Int32} {h : xH} {r : Int32} {hr : xH} (e : f_X2_takeDigits a1 h = some (r, hr)) : xCT l γ xSC yX2_takeDigits cX2_takeDigits 2 none 1 [.ref (γ.2.2.2 21), .int a1] h none hr := by
  refine xCT.of (own := RX2) (L := [some (.ref (γ.2.2.2 21)), some (.int a1)]) (by decide) rfl rfl rfl (fun C hF => ?_)
  unfold f_X2_takeDigits at e
  refine xB_aload_n hF dX2_takeDigits_0 rfl ?_
  refine xB_aload_n hF dX2_takeDigits_1 rfl ?_
  refine xB_get hF dX2_takeDigits_2 fl_X2_86 sC_21 rfl rfl ?_
  refine xB_put hF dX2_takeDigits_5 fp_X2_22 sC_21 rfl rfl rfl rfl rfl ?_
  replace e := nm_of e
  refine xB_aload_n hF dX2_takeDigits_8 rfl ?_
  refine xB_iconst hF dX2_takeDigits_9 ki_0 ?_
  refine xB_put hF dX2_takeDigits_10 fp_X2_56 sC_21 rfl rfl rfl rfl rfl ?_
  replace e := nm_of e
  exact xB_l (t_X2_takeDigits_c13 hF _ _ e) (And.intro rfl (And.intro rfl (True.intro)))
def f_X2_takeLetters_c47 (a1 : Int32) (h : xH) : Option (Int32 × xH) :=
    if a1 = 0 then (nm (xst h 21 5 3) fun h1 => some (0, h1)) else (nm (xst h 21 5 4) fun h2 => some (0, h2))
set_option maxRecDepth 20000 in
set_option maxHeartbeats 2000000 in
theorem t_X2_takeLetters_c47 {l : Launch} {γ : xG} {a1 : Int32} {r : Int32} {hr : xH} {C : xCx} (hF : xF C cX2_takeLetters RX2 2 1 γ xSC none hr l none) : ∀ (h : xH), f_X2_takeLetters_c47 a1 h = some (r, hr) → xB C h 47 [some (.ref (γ.2.2.2 21)), some (.int a1)] [] := by
  intro h e
  unfold f_X2_takeLetters_c47 at e
  refine xB_aload_n hF dX2_takeLetters_47 rfl ?_
  refine xB_iload_n hF dX2_takeLetters_48 rfl ?_
  refine xB_if_eq (tgt := 56) hF dX2_takeLetters_49 rfl e (fun _ e => ?_) (fun _ e => ?_)
  · refine xB_iconst hF dX2_takeLetters_56 ki_3 ?_
    refine xB_put hF dX2_takeLetters_57 fp_X2_25 sC_21 rfl rfl rfl rfl rfl ?_
    replace e := nm_of e
    exact xB_vreturn hF dX2_takeLetters_60 e
  · refine xB_iconst hF dX2_takeLetters_52 ki_4 ?_
    refine xB_goto (tgt := 57) hF dX2_takeLetters_53 rfl ?_
    refine xB_put hF dX2_takeLetters_57 fp_X2_25 sC_21 rfl rfl rfl rfl rfl ?_
    replace e := nm_of e
    exact xB_vreturn hF dX2_takeLetters_60 e
def f_X2_takeLetters_c8 (a1 : Int32) : Nat → xH → Option (Int32 × xH)
  | 0, _ => none
  | n + 1, h =>
    if (h 21 2) ≤ (h 21 4) then (f_X2_takeLetters_c47 a1 h) else (gd (h 21 4) 96 <| bn (f_X2_isLetter (h 22 (Int32.toNatClampNeg (h 21 4))) h) fun r1 h2 => if r1 = 0 then (f_X2_takeLetters_c47 a1 h2) else (nm (xst h2 21 4 ((h2 21 4) + 1)) fun h4 => f_X2_takeLetters_c8 a1 n h4))
set_option maxRecDepth 20000 in
set_option maxHeartbeats 2000000 in
theorem t_X2_takeLetters_c8 {l : Launch} {γ : xG} {a1 : Int32} {r : Int32} {hr : xH} {C : xCx} (hF : xF C cX2_takeLetters RX2 2 1 γ xSC none hr l none) : ∀ (n : Nat) (h : xH), f_X2_takeLetters_c8 a1 n h = some (r, hr) → xB C h 8 [some (.ref (γ.2.2.2 21)), some (.int a1)] [] := by
  intro n
  induction n with
  | zero => intro h e; cases e
  | succ n ih =>
    intro h e
    rw [f_X2_takeLetters_c8] at e
    refine xB_aload_n hF dX2_takeLetters_8 rfl ?_
    refine xB_get hF dX2_takeLetters_9 fl_X2_22 sC_21 rfl rfl ?_
    refine xB_aload_n hF dX2_takeLetters_12 rfl ?_
    refine xB_get hF dX2_takeLetters_13 fl_X2_18 sC_21 rfl rfl ?_
    refine xB_icmp_ge (tgt := 47) hF dX2_takeLetters_16 rfl e (fun _ e => ?_) (fun _ e => ?_)
    · exact xB_l (t_X2_takeLetters_c47 hF _ e) (And.intro rfl (And.intro rfl (True.intro)))
    · refine xB_aload_n hF dX2_takeLetters_19 rfl ?_
      refine xB_get hF dX2_takeLetters_20 fl_X2_9 sC_21 rfl rfl ?_
      refine xB_aload_n hF dX2_takeLetters_23 rfl ?_
      refine xB_get hF dX2_takeLetters_24 fl_X2_22 sC_21 rfl rfl ?_
      refine xB_iald hF dX2_takeLetters_27 sC_22 e (fun e => ?_)
      obtain ⟨r1, h2, e3, e⟩ := bn_of e
      refine xB_callSi hF dX2_takeLetters_28 (t_X2_isLetter e3) cw_X2_116 rfl rfl rfl rfl ?_
      refine xB_if_eq (tgt := 47) hF dX2_takeLetters_31 rfl e (fun _ e => ?_) (fun _ e => ?_)
      · exact xB_l (t_X2_takeLetters_c47 hF _ e) (And.intro rfl (And.intro rfl (True.intro)))
      · refine xB_aload_n hF dX2_takeLetters_34 rfl ?_
        refine xB_dup hF dX2_takeLetters_35 rfl ?_
        refine xB_get hF dX2_takeLetters_36 fl_X2_22 sC_21 rfl rfl ?_
        refine xB_iconst hF dX2_takeLetters_39 ki_1 ?_
        refine xB_iadd hF dX2_takeLetters_40 ?_
        refine xB_put hF dX2_takeLetters_41 fp_X2_22 sC_21 rfl rfl rfl rfl rfl ?_
        replace e := nm_of e
        refine xB_goto (tgt := 8) hF dX2_takeLetters_44 rfl ?_
        exact xB_l (ih _ e) (And.intro rfl (And.intro rfl (True.intro)))
def f_X2_takeLetters (a1 : Int32) (h : xH) : Option (Int32 × xH) :=
    nm (xst h 21 4 (h 21 3)) fun h1 => f_X2_takeLetters_c8 a1 xN h1
set_option maxRecDepth 20000 in
set_option maxHeartbeats 2000000 in
theorem t_X2_takeLetters {l : Launch} {γ : xG} {a1 : Int32} {h : xH} {r : Int32} {hr : xH} (e : f_X2_takeLetters a1 h = some (r, hr)) : xCT l γ xSC yX2_takeLetters cX2_takeLetters 2 none 1 [.ref (γ.2.2.2 21), .int a1] h none hr := by
  refine xCT.of (own := RX2) (L := [some (.ref (γ.2.2.2 21)), some (.int a1)]) (by decide) rfl rfl rfl (fun C hF => ?_)
  unfold f_X2_takeLetters at e
  refine xB_aload_n hF dX2_takeLetters_0 rfl ?_
  refine xB_aload_n hF dX2_takeLetters_1 rfl ?_
  refine xB_get hF dX2_takeLetters_2 fl_X2_86 sC_21 rfl rfl ?_
  refine xB_put hF dX2_takeLetters_5 fp_X2_22 sC_21 rfl rfl rfl rfl rfl ?_
  replace e := nm_of e
  exact xB_l (t_X2_takeLetters_c8 hF _ _ e) (And.intro rfl (And.intro rfl (True.intro)))
def f_X2_goToNext_c88 (s0 : Int32) (h : xH) : Option (Int32 × xH) :=
    if (h 21 3) < (h 21 2) then (gd (h 21 3) 96 <| bn (f_X2_isLetter (h 22 (Int32.toNatClampNeg (h 21 3))) h) fun r1 h2 => if r1 = 0 then (gd (h2 21 3) 96 <| bn (f_X2_isDigit (h2 22 (Int32.toNatClampNeg (h2 21 3))) h2) fun r4 h5 => if r4 = 0 then (nm (xst h5 21 5 1) fun h7 => gd (h7 21 3) 96 <| nm (xst h7 21 6 (h7 22 (Int32.toNatClampNeg (h7 21 3)))) fun h8 => nm (xst h8 21 4 ((h8 21 3) + 1)) fun h9 => some (0, h9)) else (bn (f_X2_takeDigits s0 h5) fun r10 h11 => some (0, h11))) else (bn (f_X2_takeLetters s0 h2) fun r13 h14 => some (0, h14))) else (nm (xst h 21 5 0) fun h16 => nm (xst h16 21 4 (h16 21 2)) fun h17 => some (0, h17))
set_option maxRecDepth 20000 in
set_option maxHeartbeats 2000000 in
theorem t_X2_goToNext_c88 {l : Launch} {γ : xG} {r : Int32} {hr : xH} {C : xCx} (hF : xF C cX2_goToNext RX2 3 2 γ xSC none hr l none) : ∀ (s0 : Int32) (h : xH), f_X2_goToNext_c88 s0 h = some (r, hr) → xB C h 88 [some (.ref (γ.2.2.2 21)), none, none] [.int s0] := by
  intro s0 h e
  unfold f_X2_goToNext_c88 at e
  refine xB_istore_n (L' := [_, _, _]) hF dX2_goToNext_88 rfl rfl rfl ?_
  refine xB_aload_n hF dX2_goToNext_89 rfl ?_
  refine xB_get hF dX2_goToNext_90 fl_X2_86 sC_21 rfl rfl ?_
  refine xB_aload_n hF dX2_goToNext_93 rfl ?_
  refine xB_get hF dX2_goToNext_94 fl_X2_18 sC_21 rfl rfl ?_
  refine xB_icmp_lt (tgt := 116) hF dX2_goToNext_97 rfl e (fun _ e => ?_) (fun _ e => ?_)
  · refine xB_aload_n hF dX2_goToNext_116 rfl ?_
    refine xB_get hF dX2_goToNext_117 fl_X2_9 sC_21 rfl rfl ?_
    refine xB_aload_n hF dX2_goToNext_120 rfl ?_
    refine xB_get hF dX2_goToNext_121 fl_X2_86 sC_21 rfl rfl ?_
    refine xB_iald hF dX2_goToNext_124 sC_22 e (fun e => ?_)
    obtain ⟨r1, h2, e3, e⟩ := bn_of e
    refine xB_callSi hF dX2_goToNext_125 (t_X2_isLetter e3) cw_X2_116 rfl rfl rfl rfl ?_
    refine xB_if_eq (tgt := 139) hF dX2_goToNext_128 rfl e (fun _ e => ?_) (fun _ e => ?_)
    · refine xB_aload_n hF dX2_goToNext_139 rfl ?_
      refine xB_get hF dX2_goToNext_140 fl_X2_9 sC_21 rfl rfl ?_
      refine xB_aload_n hF dX2_goToNext_143 rfl ?_
      refine xB_get hF dX2_goToNext_144 fl_X2_86 sC_21 rfl rfl ?_
      refine xB_iald hF dX2_goToNext_147 sC_22 e (fun e => ?_)
      obtain ⟨r4, h5, e6, e⟩ := bn_of e
      refine xB_callSi hF dX2_goToNext_148 (t_X2_isDigit e6) cw_X2_123 rfl rfl rfl rfl ?_
      refine xB_if_eq (tgt := 162) hF dX2_goToNext_151 rfl e (fun _ e => ?_) (fun _ e => ?_)
      · refine xB_aload_n hF dX2_goToNext_162 rfl ?_
        refine xB_iconst hF dX2_goToNext_163 ki_1 ?_
        refine xB_put hF dX2_goToNext_164 fp_X2_25 sC_21 rfl rfl rfl rfl rfl ?_
        replace e := nm_of e
        refine xB_aload_n hF dX2_goToNext_167 rfl ?_
        refine xB_aload_n hF dX2_goToNext_168 rfl ?_
        refine xB_get hF dX2_goToNext_169 fl_X2_9 sC_21 rfl rfl ?_
        refine xB_aload_n hF dX2_goToNext_172 rfl ?_
        refine xB_get hF dX2_goToNext_173 fl_X2_86 sC_21 rfl rfl ?_
        refine xB_iald hF dX2_goToNext_176 sC_22 e (fun e => ?_)
        refine xB_put hF dX2_goToNext_177 fp_X2_56 sC_21 rfl rfl rfl rfl rfl ?_
        replace e := nm_of e
        refine xB_aload_n hF dX2_goToNext_180 rfl ?_
        refine xB_aload_n hF dX2_goToNext_181 rfl ?_
        refine xB_get hF dX2_goToNext_182 fl_X2_86 sC_21 rfl rfl ?_
        refine xB_iconst hF dX2_goToNext_185 ki_1 ?_
        refine xB_iadd hF dX2_goToNext_186 ?_
        refine xB_put hF dX2_goToNext_187 fp_X2_22 sC_21 rfl rfl rfl rfl rfl ?_
        replace e := nm_of e
        exact xB_vreturn hF dX2_goToNext_190 e
      · refine xB_aload_n hF dX2_goToNext_154 rfl ?_
        refine xB_iload_n hF dX2_goToNext_155 rfl ?_
        obtain ⟨r10, h11, e12, e⟩ := bn_of e
        refine xB_callVv hF dX2_goToNext_156 (t_X2_takeDigits e12) cw_X2_126 sC_21 rfl rfl rfl rfl rfl ?_
        refine xB_goto (tgt := 190) hF dX2_goToNext_159 rfl ?_
        exact xB_vreturn hF dX2_goToNext_190 e
    · refine xB_aload_n hF dX2_goToNext_131 rfl ?_
      refine xB_iload_n hF dX2_goToNext_132 rfl ?_
      obtain ⟨r13, h14, e15, e⟩ := bn_of e
      refine xB_callVv hF dX2_goToNext_133 (t_X2_takeLetters e15) cw_X2_119 sC_21 rfl rfl rfl rfl rfl ?_
      refine xB_goto (tgt := 190) hF dX2_goToNext_136 rfl ?_
      exact xB_vreturn hF dX2_goToNext_190 e
  · refine xB_aload_n hF dX2_goToNext_100 rfl ?_
    refine xB_iconst hF dX2_goToNext_101 ki_0 ?_
    refine xB_put hF dX2_goToNext_102 fp_X2_25 sC_21 rfl rfl rfl rfl rfl ?_
    replace e := nm_of e
    refine xB_aload_n hF dX2_goToNext_105 rfl ?_
    refine xB_aload_n hF dX2_goToNext_106 rfl ?_
    refine xB_get hF dX2_goToNext_107 fl_X2_18 sC_21 rfl rfl ?_
    refine xB_put hF dX2_goToNext_110 fp_X2_22 sC_21 rfl rfl rfl rfl rfl ?_
    replace e := nm_of e
    refine xB_goto (tgt := 190) hF dX2_goToNext_113 rfl ?_
    exact xB_vreturn hF dX2_goToNext_190 e
def f_X2_goToNext_c87 (h : xH) : Option (Int32 × xH) :=
    f_X2_goToNext_c88 0 h
set_option maxRecDepth 20000 in
set_option maxHeartbeats 2000000 in
theorem t_X2_goToNext_c87 {l : Launch} {γ : xG} {r : Int32} {hr : xH} {C : xCx} (hF : xF C cX2_goToNext RX2 3 2 γ xSC none hr l none) : ∀ (h : xH), f_X2_goToNext_c87 h = some (r, hr) → xB C h 87 [some (.ref (γ.2.2.2 21)), none, none] [] := by
  intro h e
  unfold f_X2_goToNext_c87 at e
  refine xB_iconst hF dX2_goToNext_87 ki_0 ?_
  exact xB_l (t_X2_goToNext_c88 hF _ _ e) (And.intro rfl (True.intro))
def f_X2_goToNext_c68 (v1 : Int32) (h : xH) : Option (Int32 × xH) :=
    if v1 = 0 then (f_X2_goToNext_c87 h) else (if (h 21 3) = (h 21 4) then (f_X2_goToNext_c88 1 h) else (f_X2_goToNext_c87 h))
set_option maxRecDepth 20000 in
set_option maxHeartbeats 2000000 in
theorem t_X2_goToNext_c68 {l : Launch} {γ : xG} {r : Int32} {hr : xH} {C : xCx} (hF : xF C cX2_goToNext RX2 3 2 γ xSC none hr l none) : ∀ (v1 : Int32) (h : xH), f_X2_goToNext_c68 v1 h = some (r, hr) → xB C h 68 [some (.ref (γ.2.2.2 21)), some (.int v1), none] [] := by
  intro v1 h e
  unfold f_X2_goToNext_c68 at e
  refine xB_iload_n hF dX2_goToNext_68 rfl ?_
  refine xB_if_eq (tgt := 87) hF dX2_goToNext_69 rfl e (fun _ e => ?_) (fun _ e => ?_)
  · exact xB_l (t_X2_goToNext_c87 hF _ e) (And.intro rfl (True.intro))
  · refine xB_aload_n hF dX2_goToNext_72 rfl ?_
    refine xB_get hF dX2_goToNext_73 fl_X2_86 sC_21 rfl rfl ?_
    refine xB_aload_n hF dX2_goToNext_76 rfl ?_
    refine xB_get hF dX2_goToNext_77 fl_X2_22 sC_21 rfl rfl ?_
    refine xB_icmp_ne (tgt := 87) hF dX2_goToNext_80 rfl e (fun _ e => ?_) (fun _ e => ?_)
    · refine xB_iconst hF dX2_goToNext_83 ki_1 ?_
      refine xB_goto (tgt := 88) hF dX2_goToNext_84 rfl ?_
      exact xB_l (t_X2_goToNext_c88 hF _ _ e) (And.intro rfl (True.intro))
    · exact xB_l (t_X2_goToNext_c87 hF _ e) (And.intro rfl (True.intro))
def f_X2_goToNext_c30 : Nat → Int32 → xH → Option (Int32 × xH)
  | 0, _, _ => none
  | n + 1, v1, h =>
    if (h 21 2) ≤ (h 21 3) then (f_X2_goToNext_c68 v1 h) else (gd (h 21 3) 96 <| if (h 22 (Int32.toNatClampNeg (h 21 3))) = 32 then (nm (xst h 21 3 ((h 21 3) + 1)) fun h1 => f_X2_goToNext_c30 n v1 h1) else (f_X2_goToNext_c68 v1 h))
set_option maxRecDepth 20000 in
set_option maxHeartbeats 2000000 in
theorem t_X2_goToNext_c30 {l : Launch} {γ : xG} {r : Int32} {hr : xH} {C : xCx} (hF : xF C cX2_goToNext RX2 3 2 γ xSC none hr l none) : ∀ (n : Nat) (v1 : Int32) (h : xH), f_X2_goToNext_c30 n v1 h = some (r, hr) → xB C h 30 [some (.ref (γ.2.2.2 21)), some (.int v1), none] [] := by
  intro n
  induction n with
  | zero => intro v1 h e; cases e
  | succ n ih =>
    intro v1 h e
    rw [f_X2_goToNext_c30] at e
    refine xB_aload_n hF dX2_goToNext_30 rfl ?_
    refine xB_get hF dX2_goToNext_31 fl_X2_86 sC_21 rfl rfl ?_
    refine xB_aload_n hF dX2_goToNext_34 rfl ?_
    refine xB_get hF dX2_goToNext_35 fl_X2_18 sC_21 rfl rfl ?_
    refine xB_icmp_ge (tgt := 68) hF dX2_goToNext_38 rfl e (fun _ e => ?_) (fun _ e => ?_)
    · exact xB_l (t_X2_goToNext_c68 hF _ _ e) (And.intro rfl (And.intro rfl (True.intro)))
    · refine xB_aload_n hF dX2_goToNext_41 rfl ?_
      refine xB_get hF dX2_goToNext_42 fl_X2_9 sC_21 rfl rfl ?_
      refine xB_aload_n hF dX2_goToNext_45 rfl ?_
      refine xB_get hF dX2_goToNext_46 fl_X2_86 sC_21 rfl rfl ?_
      refine xB_iald hF dX2_goToNext_49 sC_22 e (fun e => ?_)
      refine xB_bipush hF dX2_goToNext_50 kb_32 ?_
      refine xB_icmp_ne (tgt := 68) hF dX2_goToNext_52 rfl e (fun _ e => ?_) (fun _ e => ?_)
      · refine xB_aload_n hF dX2_goToNext_55 rfl ?_
        refine xB_dup hF dX2_goToNext_56 rfl ?_
        refine xB_get hF dX2_goToNext_57 fl_X2_86 sC_21 rfl rfl ?_
        refine xB_iconst hF dX2_goToNext_60 ki_1 ?_
        refine xB_iadd hF dX2_goToNext_61 ?_
        refine xB_put hF dX2_goToNext_62 fp_X2_86 sC_21 rfl rfl rfl rfl rfl ?_
        replace e := nm_of e
        refine xB_goto (tgt := 30) hF dX2_goToNext_65 rfl ?_
        exact xB_l (ih _ _ e) (And.intro rfl (And.intro rfl (True.intro)))
      · exact xB_l (t_X2_goToNext_c68 hF _ _ e) (And.intro rfl (And.intro rfl (True.intro)))
def f_X2_goToNext_c21 (s0 : Int32) (h : xH) : Option (Int32 × xH) :=
    nm (xst h 21 3 (h 21 4)) fun h1 => f_X2_goToNext_c30 xN s0 h1
set_option maxRecDepth 20000 in
set_option maxHeartbeats 2000000 in
theorem t_X2_goToNext_c21 {l : Launch} {γ : xG} {r : Int32} {hr : xH} {C : xCx} (hF : xF C cX2_goToNext RX2 3 2 γ xSC none hr l none) : ∀ (s0 : Int32) (h : xH), f_X2_goToNext_c21 s0 h = some (r, hr) → xB C h 21 [some (.ref (γ.2.2.2 21)), none, none] [.int s0] := by
  intro s0 h e
  unfold f_X2_goToNext_c21 at e
  refine xB_istore_n (L' := [_, _, _]) hF dX2_goToNext_21 rfl rfl rfl ?_
  refine xB_aload_n hF dX2_goToNext_22 rfl ?_
  refine xB_aload_n hF dX2_goToNext_23 rfl ?_
  refine xB_get hF dX2_goToNext_24 fl_X2_22 sC_21 rfl rfl ?_
  refine xB_put hF dX2_goToNext_27 fp_X2_86 sC_21 rfl rfl rfl rfl rfl ?_
  replace e := nm_of e
  exact xB_l (t_X2_goToNext_c30 hF _ _ _ e) (And.intro rfl (And.intro rfl (True.intro)))
def f_X2_goToNext_c16 (h : xH) : Option (Int32 × xH) :=
    f_X2_goToNext_c21 1 h
set_option maxRecDepth 20000 in
set_option maxHeartbeats 2000000 in
theorem t_X2_goToNext_c16 {l : Launch} {γ : xG} {r : Int32} {hr : xH} {C : xCx} (hF : xF C cX2_goToNext RX2 3 2 γ xSC none hr l none) : ∀ (h : xH), f_X2_goToNext_c16 h = some (r, hr) → xB C h 16 [some (.ref (γ.2.2.2 21)), none, none] [] := by
  intro h e
  unfold f_X2_goToNext_c16 at e
  refine xB_iconst hF dX2_goToNext_16 ki_1 ?_
  refine xB_goto (tgt := 21) hF dX2_goToNext_17 rfl ?_
  exact xB_l (t_X2_goToNext_c21 hF _ _ e) (And.intro rfl (True.intro))
def f_X2_goToNext (h : xH) : Option (Int32 × xH) :=
    if (h 21 5) = 2 then (f_X2_goToNext_c16 h) else (if (h 21 5) = 3 then (f_X2_goToNext_c16 h) else (f_X2_goToNext_c21 0 h))
set_option maxRecDepth 20000 in
set_option maxHeartbeats 2000000 in
theorem t_X2_goToNext {l : Launch} {γ : xG} {h : xH} {r : Int32} {hr : xH} (e : f_X2_goToNext h = some (r, hr)) : xCT l γ xSC yX2_goToNext cX2_goToNext 3 none 2 [.ref (γ.2.2.2 21)] h none hr := by
  refine xCT.of (own := RX2) (L := [some (.ref (γ.2.2.2 21)), none, none]) (by decide) rfl rfl rfl (fun C hF => ?_)
  unfold f_X2_goToNext at e
  refine xB_aload_n hF dX2_goToNext_0 rfl ?_
  refine xB_get hF dX2_goToNext_1 fl_X2_25 sC_21 rfl rfl ?_
  refine xB_iconst hF dX2_goToNext_4 ki_2 ?_
  refine xB_icmp_eq (tgt := 16) hF dX2_goToNext_5 rfl e (fun _ e => ?_) (fun _ e => ?_)
  · exact xB_l (t_X2_goToNext_c16 hF _ e) (And.intro rfl (True.intro))
  · refine xB_aload_n hF dX2_goToNext_8 rfl ?_
    refine xB_get hF dX2_goToNext_9 fl_X2_25 sC_21 rfl rfl ?_
    refine xB_iconst hF dX2_goToNext_12 ki_3 ?_
    refine xB_icmp_ne (tgt := 20) hF dX2_goToNext_13 rfl e (fun _ e => ?_) (fun _ e => ?_)
    · exact xB_l (t_X2_goToNext_c16 hF _ e) (And.intro rfl (True.intro))
    · refine xB_iconst hF dX2_goToNext_20 ki_0 ?_
      exact xB_l (t_X2_goToNext_c21 hF _ _ e) (And.intro rfl (True.intro))
def f_X2_takeLeaf (a1 : Int32) (h : xH) : Option (Int32 × xH) :=
    bn (f_X2_addStep a1 h) fun r1 h2 => nm (xst h2 21 9 ((h2 21 9) + 1)) fun h4 => bn (f_X2_goToNext h4) fun r5 h6 => some (1, h6)
set_option maxRecDepth 20000 in
set_option maxHeartbeats 2000000 in
theorem t_X2_takeLeaf {l : Launch} {γ : xG} {a1 : Int32} {h : xH} {r : Int32} {hr : xH} (e : f_X2_takeLeaf a1 h = some (r, hr)) : xCT l γ xSC yX2_takeLeaf cX2_takeLeaf 2 (some .boolean) 3 [.ref (γ.2.2.2 21), .int a1] h (some (.int r)) hr := by
  refine xCT.of (own := RX2) (L := [some (.ref (γ.2.2.2 21)), some (.int a1)]) (by decide) rfl rfl rfl (fun C hF => ?_)
  unfold f_X2_takeLeaf at e
  refine xB_aload_n hF dX2_takeLeaf_0 rfl ?_
  refine xB_iload_n hF dX2_takeLeaf_1 rfl ?_
  obtain ⟨r1, h2, e3, e⟩ := bn_of e
  refine xB_callVv hF dX2_takeLeaf_2 (t_X2_addStep e3) cw_X2_59 sC_21 rfl rfl rfl rfl rfl ?_
  refine xB_aload_n hF dX2_takeLeaf_5 rfl ?_
  refine xB_dup hF dX2_takeLeaf_6 rfl ?_
  refine xB_get hF dX2_takeLeaf_7 fl_X2_31 sC_21 rfl rfl ?_
  refine xB_iconst hF dX2_takeLeaf_10 ki_1 ?_
  refine xB_iadd hF dX2_takeLeaf_11 ?_
  refine xB_put hF dX2_takeLeaf_12 fp_X2_31 sC_21 rfl rfl rfl rfl rfl ?_
  replace e := nm_of e
  refine xB_aload_n hF dX2_takeLeaf_15 rfl ?_
  obtain ⟨r5, h6, e7, e⟩ := bn_of e
  refine xB_callVv hF dX2_takeLeaf_16 (t_X2_goToNext e7) cw_X2_34 sC_21 rfl rfl rfl rfl rfl ?_
  refine xB_iconst hF dX2_takeLeaf_19 ki_1 ?_
  exact xB_zreturn hF dX2_takeLeaf_20 rfl e
def f_X2_isSign (a1 : Int32) (h : xH) : Option (Int32 × xH) :=
    if (h 21 5) = 1 then (if (h 21 6) = a1 then (some (1, h)) else (some (0, h))) else (some (0, h))
set_option maxRecDepth 20000 in
set_option maxHeartbeats 2000000 in
theorem t_X2_isSign {l : Launch} {γ : xG} {a1 : Int32} {h : xH} {r : Int32} {hr : xH} (e : f_X2_isSign a1 h = some (r, hr)) : xCT l γ xSC yX2_isSign cX2_isSign 2 (some .boolean) 0 [.ref (γ.2.2.2 21), .int a1] h (some (.int r)) hr := by
  refine xCT.of (own := RX2) (L := [some (.ref (γ.2.2.2 21)), some (.int a1)]) (by decide) rfl rfl rfl (fun C hF => ?_)
  unfold f_X2_isSign at e
  refine xB_aload_n hF dX2_isSign_0 rfl ?_
  refine xB_get hF dX2_isSign_1 fl_X2_25 sC_21 rfl rfl ?_
  refine xB_iconst hF dX2_isSign_4 ki_1 ?_
  refine xB_icmp_ne (tgt := 20) hF dX2_isSign_5 rfl e (fun _ e => ?_) (fun _ e => ?_)
  · refine xB_aload_n hF dX2_isSign_8 rfl ?_
    refine xB_get hF dX2_isSign_9 fl_X2_56 sC_21 rfl rfl ?_
    refine xB_iload_n hF dX2_isSign_12 rfl ?_
    refine xB_icmp_ne (tgt := 20) hF dX2_isSign_13 rfl e (fun _ e => ?_) (fun _ e => ?_)
    · refine xB_iconst hF dX2_isSign_16 ki_1 ?_
      refine xB_goto (tgt := 21) hF dX2_isSign_17 rfl ?_
      exact xB_zreturn hF dX2_isSign_21 rfl e
    · refine xB_iconst hF dX2_isSign_20 ki_0 ?_
      exact xB_zreturn hF dX2_isSign_21 rfl e
  · refine xB_iconst hF dX2_isSign_20 ki_0 ?_
    exact xB_zreturn hF dX2_isSign_21 rfl e
def f_X2_joinsAt (a1 : Int32) (h : xH) : Option (Int32 × xH) :=
    if a1 = 0 then (bn (f_X2_isSign 124 h) fun r7 h8 => gb r7 (some (r7, h8))) else (if a1 = 1 then (bn (f_X2_isSign 38 h) fun r10 h11 => gb r10 (some (r10, h11))) else (if a1 = 2 then (bn (f_X2_isSign 60 h) fun r13 h14 => if r13 = 0 then (bn (f_X2_isSign 61 h14) fun r16 h17 => if r16 = 0 then (bn (f_X2_isSign 62 h17) fun r19 h20 => if r19 = 0 then (some (0, h20)) else (some (1, h20))) else (some (1, h17))) else (some (1, h14))) else (if a1 = 3 then (bn (f_X2_isSign 43 h) fun r22 h23 => if r22 = 0 then (bn (f_X2_isSign 45 h23) fun r25 h26 => if r25 = 0 then (some (0, h26)) else (some (1, h26))) else (some (1, h23))) else (bn (f_X2_isSign 42 h) fun r1 h2 => if r1 = 0 then (bn (f_X2_isSign 47 h2) fun r4 h5 => if r4 = 0 then (some (0, h5)) else (some (1, h5))) else (some (1, h2))))))
set_option maxRecDepth 20000 in
set_option maxHeartbeats 2000000 in
theorem t_X2_joinsAt {l : Launch} {γ : xG} {a1 : Int32} {h : xH} {r : Int32} {hr : xH} (e : f_X2_joinsAt a1 h = some (r, hr)) : xCT l γ xSC yX2_joinsAt cX2_joinsAt 2 (some .boolean) 1 [.ref (γ.2.2.2 21), .int a1] h (some (.int r)) hr := by
  refine xCT.of (own := RX2) (L := [some (.ref (γ.2.2.2 21)), some (.int a1)]) (by decide) rfl rfl rfl (fun C hF => ?_)
  unfold f_X2_joinsAt at e
  refine xB_iload_n hF dX2_joinsAt_0 rfl ?_
  rcases if_of e with ⟨c0, e⟩ | ⟨c0, e⟩
  · refine xB_tableIn (v := (0)) (tgt := 32) hF dX2_joinsAt_1 c0 (by decide) (by decide) rfl rfl ?_
    refine xB_aload_n hF dX2_joinsAt_32 rfl ?_
    refine xB_bipush hF dX2_joinsAt_33 kb_124 ?_
    obtain ⟨r7, h8, e9, e⟩ := bn_of e
    refine xB_callVi hF dX2_joinsAt_35 (t_X2_isSign e9) cw_X2_69 sC_21 rfl rfl rfl rfl rfl ?_
    exact xB_breturn hF dX2_joinsAt_38 e
  rcases if_of e with ⟨c1, e⟩ | ⟨c1, e⟩
  · refine xB_tableIn (v := (1)) (tgt := 39) hF dX2_joinsAt_1 c1 (by decide) (by decide) rfl rfl ?_
    refine xB_aload_n hF dX2_joinsAt_39 rfl ?_
    refine xB_bipush hF dX2_joinsAt_40 kb_38 ?_
    obtain ⟨r10, h11, e12, e⟩ := bn_of e
    refine xB_callVi hF dX2_joinsAt_42 (t_X2_isSign e12) cw_X2_69 sC_21 rfl rfl rfl rfl rfl ?_
    exact xB_breturn hF dX2_joinsAt_45 e
  rcases if_of e with ⟨c2, e⟩ | ⟨c2, e⟩
  · refine xB_tableIn (v := (2)) (tgt := 46) hF dX2_joinsAt_1 c2 (by decide) (by decide) rfl rfl ?_
    refine xB_aload_n hF dX2_joinsAt_46 rfl ?_
    refine xB_bipush hF dX2_joinsAt_47 kb_60 ?_
    obtain ⟨r13, h14, e15, e⟩ := bn_of e
    refine xB_callVi hF dX2_joinsAt_49 (t_X2_isSign e15) cw_X2_69 sC_21 rfl rfl rfl rfl rfl ?_
    refine xB_if_ne (tgt := 73) hF dX2_joinsAt_52 rfl e (fun _ e => ?_) (fun _ e => ?_)
    · refine xB_aload_n hF dX2_joinsAt_55 rfl ?_
      refine xB_bipush hF dX2_joinsAt_56 kb_61 ?_
      obtain ⟨r16, h17, e18, e⟩ := bn_of e
      refine xB_callVi hF dX2_joinsAt_58 (t_X2_isSign e18) cw_X2_69 sC_21 rfl rfl rfl rfl rfl ?_
      refine xB_if_ne (tgt := 73) hF dX2_joinsAt_61 rfl e (fun _ e => ?_) (fun _ e => ?_)
      · refine xB_aload_n hF dX2_joinsAt_64 rfl ?_
        refine xB_bipush hF dX2_joinsAt_65 kb_62 ?_
        obtain ⟨r19, h20, e21, e⟩ := bn_of e
        refine xB_callVi hF dX2_joinsAt_67 (t_X2_isSign e21) cw_X2_69 sC_21 rfl rfl rfl rfl rfl ?_
        refine xB_if_eq (tgt := 77) hF dX2_joinsAt_70 rfl e (fun _ e => ?_) (fun _ e => ?_)
        · refine xB_iconst hF dX2_joinsAt_77 ki_0 ?_
          exact xB_zreturn hF dX2_joinsAt_78 rfl e
        · refine xB_iconst hF dX2_joinsAt_73 ki_1 ?_
          refine xB_goto (tgt := 78) hF dX2_joinsAt_74 rfl ?_
          exact xB_zreturn hF dX2_joinsAt_78 rfl e
      · refine xB_iconst hF dX2_joinsAt_73 ki_1 ?_
        refine xB_goto (tgt := 78) hF dX2_joinsAt_74 rfl ?_
        exact xB_zreturn hF dX2_joinsAt_78 rfl e
    · refine xB_iconst hF dX2_joinsAt_73 ki_1 ?_
      refine xB_goto (tgt := 78) hF dX2_joinsAt_74 rfl ?_
      exact xB_zreturn hF dX2_joinsAt_78 rfl e
  rcases if_of e with ⟨c3, e⟩ | ⟨c3, e⟩
  · refine xB_tableIn (v := (3)) (tgt := 79) hF dX2_joinsAt_1 c3 (by decide) (by decide) rfl rfl ?_
    refine xB_aload_n hF dX2_joinsAt_79 rfl ?_
    refine xB_bipush hF dX2_joinsAt_80 kb_43 ?_
    obtain ⟨r22, h23, e24, e⟩ := bn_of e
    refine xB_callVi hF dX2_joinsAt_82 (t_X2_isSign e24) cw_X2_69 sC_21 rfl rfl rfl rfl rfl ?_
    refine xB_if_ne (tgt := 97) hF dX2_joinsAt_85 rfl e (fun _ e => ?_) (fun _ e => ?_)
    · refine xB_aload_n hF dX2_joinsAt_88 rfl ?_
      refine xB_bipush hF dX2_joinsAt_89 kb_45 ?_
      obtain ⟨r25, h26, e27, e⟩ := bn_of e
      refine xB_callVi hF dX2_joinsAt_91 (t_X2_isSign e27) cw_X2_69 sC_21 rfl rfl rfl rfl rfl ?_
      refine xB_if_eq (tgt := 101) hF dX2_joinsAt_94 rfl e (fun _ e => ?_) (fun _ e => ?_)
      · refine xB_iconst hF dX2_joinsAt_101 ki_0 ?_
        exact xB_zreturn hF dX2_joinsAt_102 rfl e
      · refine xB_iconst hF dX2_joinsAt_97 ki_1 ?_
        refine xB_goto (tgt := 102) hF dX2_joinsAt_98 rfl ?_
        exact xB_zreturn hF dX2_joinsAt_102 rfl e
    · refine xB_iconst hF dX2_joinsAt_97 ki_1 ?_
      refine xB_goto (tgt := 102) hF dX2_joinsAt_98 rfl ?_
      exact xB_zreturn hF dX2_joinsAt_102 rfl e
  refine xB_tableOut (tgt := 103) hF dX2_joinsAt_1 (by have := xne (v := (0)) (n := 0) rfl c0; have := xne (v := (1)) (n := 1) rfl c1; have := xne (v := (2)) (n := 2) rfl c2; have := xne (v := (3)) (n := 3) rfl c3; omega) rfl ?_
  refine xB_aload_n hF dX2_joinsAt_103 rfl ?_
  refine xB_bipush hF dX2_joinsAt_104 kb_42 ?_
  obtain ⟨r1, h2, e3, e⟩ := bn_of e
  refine xB_callVi hF dX2_joinsAt_106 (t_X2_isSign e3) cw_X2_69 sC_21 rfl rfl rfl rfl rfl ?_
  refine xB_if_ne (tgt := 121) hF dX2_joinsAt_109 rfl e (fun _ e => ?_) (fun _ e => ?_)
  · refine xB_aload_n hF dX2_joinsAt_112 rfl ?_
    refine xB_bipush hF dX2_joinsAt_113 kb_47 ?_
    obtain ⟨r4, h5, e6, e⟩ := bn_of e
    refine xB_callVi hF dX2_joinsAt_115 (t_X2_isSign e6) cw_X2_69 sC_21 rfl rfl rfl rfl rfl ?_
    refine xB_if_eq (tgt := 125) hF dX2_joinsAt_118 rfl e (fun _ e => ?_) (fun _ e => ?_)
    · refine xB_iconst hF dX2_joinsAt_125 ki_0 ?_
      exact xB_zreturn hF dX2_joinsAt_126 rfl e
    · refine xB_iconst hF dX2_joinsAt_121 ki_1 ?_
      refine xB_goto (tgt := 126) hF dX2_joinsAt_122 rfl ?_
      exact xB_zreturn hF dX2_joinsAt_126 rfl e
  · refine xB_iconst hF dX2_joinsAt_121 ki_1 ?_
    refine xB_goto (tgt := 126) hF dX2_joinsAt_122 rfl ?_
    exact xB_zreturn hF dX2_joinsAt_126 rfl e
