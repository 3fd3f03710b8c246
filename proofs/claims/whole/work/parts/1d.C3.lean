def f_X2_isDigit (a0 : Int32) (h : xH) : Option (Int32 × xH) :=
    if a0 < 48 then (some (0, h)) else (if 57 < a0 then (some (0, h)) else (some (1, h)))
set_option maxRecDepth 20000 in
set_option maxHeartbeats 2000000 in
theorem t_X2_isDigit {l : Launch} {γ : xG} {a0 : Int32} {h : xH} {r : Int32} {hr : xH} (e : f_X2_isDigit a0 h = some (r, hr)) : xCT l γ xSC yX2_isDigit cX2_isDigit 1 (some .boolean) 0 [.int a0] h (some (.int r)) hr := by
  refine xCT.of (own := RX2) (L := [some (.int a0)]) (by decide) rfl rfl rfl (fun C hF => ?_)
  unfold f_X2_isDigit at e
  refine xB_iload_n hF dX2_isDigit_0 rfl ?_
  refine xB_bipush hF dX2_isDigit_1 kb_48 ?_
  refine xB_icmp_lt (tgt := 16) hF dX2_isDigit_3 rfl e (fun _ e => ?_) (fun _ e => ?_)
  · refine xB_iconst hF dX2_isDigit_16 ki_0 ?_
    exact xB_zreturn hF dX2_isDigit_17 rfl e
  · refine xB_iload_n hF dX2_isDigit_6 rfl ?_
    refine xB_bipush hF dX2_isDigit_7 kb_57 ?_
    refine xB_icmp_gt (tgt := 16) hF dX2_isDigit_9 rfl e (fun _ e => ?_) (fun _ e => ?_)
    · refine xB_iconst hF dX2_isDigit_16 ki_0 ?_
      exact xB_zreturn hF dX2_isDigit_17 rfl e
    · refine xB_iconst hF dX2_isDigit_12 ki_1 ?_
      refine xB_goto (tgt := 17) hF dX2_isDigit_13 rfl ?_
      exact xB_zreturn hF dX2_isDigit_17 rfl e
def f_X2_isLetter (a0 : Int32) (h : xH) : Option (Int32 × xH) :=
    if a0 < 97 then (some (0, h)) else (if 122 < a0 then (some (0, h)) else (some (1, h)))
set_option maxRecDepth 20000 in
set_option maxHeartbeats 2000000 in
theorem t_X2_isLetter {l : Launch} {γ : xG} {a0 : Int32} {h : xH} {r : Int32} {hr : xH} (e : f_X2_isLetter a0 h = some (r, hr)) : xCT l γ xSC yX2_isLetter cX2_isLetter 1 (some .boolean) 0 [.int a0] h (some (.int r)) hr := by
  refine xCT.of (own := RX2) (L := [some (.int a0)]) (by decide) rfl rfl rfl (fun C hF => ?_)
  unfold f_X2_isLetter at e
  refine xB_iload_n hF dX2_isLetter_0 rfl ?_
  refine xB_bipush hF dX2_isLetter_1 kb_97 ?_
  refine xB_icmp_lt (tgt := 16) hF dX2_isLetter_3 rfl e (fun _ e => ?_) (fun _ e => ?_)
  · refine xB_iconst hF dX2_isLetter_16 ki_0 ?_
    exact xB_zreturn hF dX2_isLetter_17 rfl e
  · refine xB_iload_n hF dX2_isLetter_6 rfl ?_
    refine xB_bipush hF dX2_isLetter_7 kb_122 ?_
    refine xB_icmp_gt (tgt := 16) hF dX2_isLetter_9 rfl e (fun _ e => ?_) (fun _ e => ?_)
    · refine xB_iconst hF dX2_isLetter_16 ki_0 ?_
      exact xB_zreturn hF dX2_isLetter_17 rfl e
    · refine xB_iconst hF dX2_isLetter_12 ki_1 ?_
      refine xB_goto (tgt := 17) hF dX2_isLetter_13 rfl ?_
      exact xB_zreturn hF dX2_isLetter_17 rfl e
def f_X2_takeDigits_c76 (a1 : Int32) (h : xH) : Option (Int32 × xH) :=
    if a1 = 0 then (if ((h 21 4) - (h 21 3)) ≤ 4 then (nm (xst h 21 5 2) fun h2 => some (0, h2)) else (nm (xst h 21 5 4) fun h3 => some (0, h3))) else (nm (xst h 21 5 4) fun h1 => some (0, h1))
set_option maxRecDepth 20000 in
set_option maxHeartbeats 2000000 in
theorem t_X2_takeDigits_c76 {l : Launch} {γ : xG} {a1 : Int32} {r : Int32} {hr : xH} {C : xCx} (hF : xF C cX2_takeDigits RX2 2 1 γ xSC none hr l none) : ∀ (h : xH), f_X2_takeDigits_c76 a1 h = some (r, hr) → xB C h 76 [some (.ref (γ.2.2.2 21)), some (.int a1)] [] := by
  intro h e
  unfold f_X2_takeDigits_c76 at e
  refine xB_aload_n hF dX2_takeDigits_76 rfl ?_
  refine xB_iload_n hF dX2_takeDigits_77 rfl ?_
  refine xB_if_ne (tgt := 94) hF dX2_takeDigits_78 rfl e (fun _ e => ?_) (fun _ e => ?_)
  · refine xB_aload_n hF dX2_takeDigits_81 rfl ?_
    refine xB_get hF dX2_takeDigits_82 fl_X2_22 sC_21 rfl rfl ?_
    refine xB_aload_n hF dX2_takeDigits_85 rfl ?_
    refine xB_get hF dX2_takeDigits_86 fl_X2_86 sC_21 rfl rfl ?_
    refine xB_isub hF dX2_takeDigits_89 ?_
    refine xB_iconst hF dX2_takeDigits_90 ki_4 ?_
    refine xB_icmp_le (tgt := 98) hF dX2_takeDigits_91 rfl e (fun _ e => ?_) (fun _ e => ?_)
    · refine xB_iconst hF dX2_takeDigits_98 ki_2 ?_
      refine xB_put hF dX2_takeDigits_99 fp_X2_25 sC_21 rfl rfl rfl rfl rfl ?_
      refine xB_gen e (fun h2 e => ?_)
      exact xB_vreturn hF dX2_takeDigits_102 e
    · refine xB_iconst hF dX2_takeDigits_94 ki_4 ?_
      refine xB_goto (tgt := 99) hF dX2_takeDigits_95 rfl ?_
      refine xB_put hF dX2_takeDigits_99 fp_X2_25 sC_21 rfl rfl rfl rfl rfl ?_
      refine xB_gen e (fun h3 e => ?_)
      exact xB_vreturn hF dX2_takeDigits_102 e
  · refine xB_iconst hF dX2_takeDigits_94 ki_4 ?_
    refine xB_goto (tgt := 99) hF dX2_takeDigits_95 rfl ?_
    refine xB_put hF dX2_takeDigits_99 fp_X2_25 sC_21 rfl rfl rfl rfl rfl ?_
    refine xB_gen e (fun h1 e => ?_)
    exact xB_vreturn hF dX2_takeDigits_102 e
def f_X2_takeDigits_c13 (a1 : Int32) : Nat → xH → Option (Int32 × xH)
  | 0, _ => none
  | n + 1, h =>
    if (h 21 2) ≤ (h 21 4) then (f_X2_takeDigits_c76 a1 h) else (gd (h 21 4) 96 <| bn (f_X2_isDigit (h 22 (Int32.toNatClampNeg (h 21 4))) h) fun r1 h2 => if r1 = 0 then (f_X2_takeDigits_c76 a1 h2) else (gd (h2 21 4) 96 <| nm (xst h2 21 6 ((((h2 21 6) * 10) + (h2 22 (Int32.toNatClampNeg (h2 21 4)))) - 48)) fun h4 => nm (xst h4 21 4 ((h4 21 4) + 1)) fun h5 => f_X2_takeDigits_c13 a1 n h5))
set_option maxRecDepth 20000 in
set_option maxHeartbeats 2000000 in
theorem t_X2_takeDigits_c13 {l : Launch} {γ : xG} {a1 : Int32} {r : Int32} {hr : xH} {C : xCx} (hF : xF C cX2_takeDigits RX2 2 1 γ xSC none hr l none) : ∀ (n : Nat) (h : xH), f_X2_takeDigits_c13 a1 n h = some (r, hr) → xB C h 13 [some (.ref (γ.2.2.2 21)), some (.int a1)] [] := by
  intro n
  induction n with
  | zero => intro h e; cases e
  | succ n ih =>
    intro h e
    rw [f_X2_takeDigits_c13] at e
    refine xB_aload_n hF dX2_takeDigits_13 rfl ?_
    refine xB_get hF dX2_takeDigits_14 fl_X2_22 sC_21 rfl rfl ?_
    refine xB_aload_n hF dX2_takeDigits_17 rfl ?_
    refine xB_get hF dX2_takeDigits_18 fl_X2_18 sC_21 rfl rfl ?_
    refine xB_icmp_ge (tgt := 76) hF dX2_takeDigits_21 rfl e (fun _ e => ?_) (fun _ e => ?_)
    · exact xB_l (t_X2_takeDigits_c76 hF _ e) (And.intro rfl (And.intro rfl (True.intro)))
    · refine xB_aload_n hF dX2_takeDigits_24 rfl ?_
      refine xB_get hF dX2_takeDigits_25 fl_X2_9 sC_21 rfl rfl ?_
      refine xB_aload_n hF dX2_takeDigits_28 rfl ?_
      refine xB_get hF dX2_takeDigits_29 fl_X2_22 sC_21 rfl rfl ?_
      refine xB_iald hF dX2_takeDigits_32 sC_22 e (fun e => ?_)
      obtain ⟨r1, h2, e3, e⟩ := bn_of e
      refine xB_callSi hF dX2_takeDigits_33 (t_X2_isDigit e3) cw_X2_123 rfl rfl rfl rfl ?_
      refine xB_if_eq (tgt := 76) hF dX2_takeDigits_36 rfl e (fun _ e => ?_) (fun _ e => ?_)
      · exact xB_l (t_X2_takeDigits_c76 hF _ e) (And.intro rfl (And.intro rfl (True.intro)))
      · refine xB_aload_n hF dX2_takeDigits_39 rfl ?_
        refine xB_aload_n hF dX2_takeDigits_40 rfl ?_
        refine xB_get hF dX2_takeDigits_41 fl_X2_56 sC_21 rfl rfl ?_
        refine xB_bipush hF dX2_takeDigits_44 kb_10 ?_
        refine xB_imul hF dX2_takeDigits_46 ?_
        refine xB_aload_n hF dX2_takeDigits_47 rfl ?_
        refine xB_get hF dX2_takeDigits_48 fl_X2_9 sC_21 rfl rfl ?_
        refine xB_aload_n hF dX2_takeDigits_51 rfl ?_
        refine xB_get hF dX2_takeDigits_52 fl_X2_22 sC_21 rfl rfl ?_
        refine xB_iald hF dX2_takeDigits_55 sC_22 e (fun e => ?_)
        refine xB_iadd hF dX2_takeDigits_56 ?_
        refine xB_bipush hF dX2_takeDigits_57 kb_48 ?_
        refine xB_isub hF dX2_takeDigits_59 ?_
        refine xB_put hF dX2_takeDigits_60 fp_X2_56 sC_21 rfl rfl rfl rfl rfl ?_
        refine xB_gen e (fun h4 e => ?_)
        refine xB_aload_n hF dX2_takeDigits_63 rfl ?_
        refine xB_dup hF dX2_takeDigits_64 rfl ?_
        refine xB_get hF dX2_takeDigits_65 fl_X2_22 sC_21 rfl rfl ?_
        refine xB_iconst hF dX2_takeDigits_68 ki_1 ?_
        refine xB_iadd hF dX2_takeDigits_69 ?_
        refine xB_put hF dX2_takeDigits_70 fp_X2_22 sC_21 rfl rfl rfl rfl rfl ?_
        refine xB_gen e (fun h5 e => ?_)
        refine xB_goto (tgt := 13) hF dX2_takeDigits_73 rfl ?_
        exact xB_l (ih _ e) (And.intro rfl (And.intro rfl (True.intro)))
def f_X2_takeDigits (a1 : Int32) (h : xH) : Option (Int32 × xH) :=
    nm (xst h 21 4 (h 21 3)) fun h1 => nm (xst h1 21 6 0) fun h2 => f_X2_takeDigits_c13 a1 xN h2
set_option maxRecDepth 20000 in
set_option maxHeartbeats 2000000 in
theorem t_X2_takeDigits {l : Launch} {γ : xG} {a1 : Int32} {h : xH} {r : Int32} {hr : xH} (e : f_X2_takeDigits a1 h = some (r, hr)) : xCT l γ xSC yX2_takeDigits cX2_takeDigits 2 none 1 [.ref (γ.2.2.2 21), .int a1] h none hr := by
  refine xCT.of (own := RX2) (L := [some (.ref (γ.2.2.2 21)), some (.int a1)]) (by decide) rfl rfl rfl (fun C hF => ?_)
  unfold f_X2_takeDigits at e
  refine xB_aload_n hF dX2_takeDigits_0 rfl ?_
  refine xB_aload_n hF dX2_takeDigits_1 rfl ?_
  refine xB_get hF dX2_takeDigits_2 fl_X2_86 sC_21 rfl rfl ?_
  refine xB_put hF dX2_takeDigits_5 fp_X2_22 sC_21 rfl rfl rfl rfl rfl ?_
  refine xB_gen e (fun h1 e => ?_)
  refine xB_aload_n hF dX2_takeDigits_8 rfl ?_
  refine xB_iconst hF dX2_takeDigits_9 ki_0 ?_
  refine xB_put hF dX2_takeDigits_10 fp_X2_56 sC_21 rfl rfl rfl rfl rfl ?_
  refine xB_gen e (fun h2 e => ?_)
  exact xB_l (t_X2_takeDigits_c13 hF _ _ e) (And.intro rfl (And.intro rfl (True.intro)))
def f_X2_takeLetters_c47 (a1 : Int32) (h : xH) : Option (Int32 × xH) :=
    if a1 = 0 then (nm (xst h 21 5 3) fun h1 => some (0, h1)) else (nm (xst h 21 5 4) fun h2 => some (0, h2))
set_option maxRecDepth 20000 in
set_option maxHeartbeats 2000000 in
theorem t_X2_takeLetters_c47 {l : Launch} {γ : xG} {a1 : Int32} {r : Int32} {hr : xH} {C : xCx} (hF : xF C cX2_takeLetters RX2 2 1 γ xSC none hr l none) : ∀ (h : xH), f_X2_takeLetters_c47 a1 h = some (r, hr) → xB C h 47 [some (.ref (γ.2.2.2 21)), some (.int a1)] [] := by
  intro h e
  unfold f_X2_takeLetters_c47 at e
  refine xB_aload_n hF dX2_takeLetters_47 rfl ?_
  refine xB_iload_n hF dX2_takeLetters_48 rfl ?_
  refine xB_if_eq (tgt := 56) hF dX2_takeLetters_49 rfl e (fun _ e => ?_) (fun _ e => ?_)
  · refine xB_iconst hF dX2_takeLetters_56 ki_3 ?_
    refine xB_put hF dX2_takeLetters_57 fp_X2_25 sC_21 rfl rfl rfl rfl rfl ?_
    refine xB_gen e (fun h1 e => ?_)
    exact xB_vreturn hF dX2_takeLetters_60 e
  · refine xB_iconst hF dX2_takeLetters_52 ki_4 ?_
    refine xB_goto (tgt := 57) hF dX2_takeLetters_53 rfl ?_
    refine xB_put hF dX2_takeLetters_57 fp_X2_25 sC_21 rfl rfl rfl rfl rfl ?_
    refine xB_gen e (fun h2 e => ?_)
    exact xB_vreturn hF dX2_takeLetters_60 e
def f_X2_takeLetters_c8 (a1 : Int32) : Nat → xH → Option (Int32 × xH)
  | 0, _ => none
  | n + 1, h =>
    if (h 21 2) ≤ (h 21 4) then (f_X2_takeLetters_c47 a1 h) else (gd (h 21 4) 96 <| bn (f_X2_isLetter (h 22 (Int32.toNatClampNeg (h 21 4))) h) fun r1 h2 => if r1 = 0 then (f_X2_takeLetters_c47 a1 h2) else (nm (xst h2 21 4 ((h2 21 4) + 1)) fun h4 => f_X2_takeLetters_c8 a1 n h4))
set_option maxRecDepth 20000 in
set_option maxHeartbeats 2000000 in
theorem t_X2_takeLetters_c8 {l : Launch} {γ : xG} {a1 : Int32} {r : Int32} {hr : xH} {C : xCx} (hF : xF C cX2_takeLetters RX2 2 1 γ xSC none hr l none) : ∀ (n : Nat) (h : xH), f_X2_takeLetters_c8 a1 n h = some (r, hr) → xB C h 8 [some (.ref (γ.2.2.2 21)), some (.int a1)] [] := by
  intro n
  induction n with
  | zero => intro h e; cases e
  | succ n ih =>
    intro h e
    rw [f_X2_takeLetters_c8] at e
    refine xB_aload_n hF dX2_takeLetters_8 rfl ?_
    refine xB_get hF dX2_takeLetters_9 fl_X2_22 sC_21 rfl rfl ?_
    refine xB_aload_n hF dX2_takeLetters_12 rfl ?_
    refine xB_get hF dX2_takeLetters_13 fl_X2_18 sC_21 rfl rfl ?_
    refine xB_icmp_ge (tgt := 47) hF dX2_takeLetters_16 rfl e (fun _ e => ?_) (fun _ e => ?_)
    · exact xB_l (t_X2_takeLetters_c47 hF _ e) (And.intro rfl (And.intro rfl (True.intro)))
    · refine xB_aload_n hF dX2_takeLetters_19 rfl ?_
      refine xB_get hF dX2_takeLetters_20 fl_X2_9 sC_21 rfl rfl ?_
      refine xB_aload_n hF dX2_takeLetters_23 rfl ?_
      refine xB_get hF dX2_takeLetters_24 fl_X2_22 sC_21 rfl rfl ?_
      refine xB_iald hF dX2_takeLetters_27 sC_22 e (fun e => ?_)
      obtain ⟨r1, h2, e3, e⟩ := bn_of e
      refine xB_callSi hF dX2_takeLetters_28 (t_X2_isLetter e3) cw_X2_116 rfl rfl rfl rfl ?_
      refine xB_if_eq (tgt := 47) hF dX2_takeLetters_31 rfl e (fun _ e => ?_) (fun _ e => ?_)
      · exact xB_l (t_X2_takeLetters_c47 hF _ e) (And.intro rfl (And.intro rfl (True.intro)))
      · refine xB_aload_n hF dX2_takeLetters_34 rfl ?_
        refine xB_dup hF dX2_takeLetters_35 rfl ?_
        refine xB_get hF dX2_takeLetters_36 fl_X2_22 sC_21 rfl rfl ?_
        refine xB_iconst hF dX2_takeLetters_39 ki_1 ?_
        refine xB_iadd hF dX2_takeLetters_40 ?_
        refine xB_put hF dX2_takeLetters_41 fp_X2_22 sC_21 rfl rfl rfl rfl rfl ?_
        refine xB_gen e (fun h4 e => ?_)
        refine xB_goto (tgt := 8) hF dX2_takeLetters_44 rfl ?_
        exact xB_l (ih _ e) (And.intro rfl (And.intro rfl (True.intro)))
def f_X2_takeLetters (a1 : Int32) (h : xH) : Option (Int32 × xH) :=
    nm (xst h 21 4 (h 21 3)) fun h1 => f_X2_takeLetters_c8 a1 xN h1
set_option maxRecDepth 20000 in
set_option maxHeartbeats 2000000 in
theorem t_X2_takeLetters {l : Launch} {γ : xG} {a1 : Int32} {h : xH} {r : Int32} {hr : xH} (e : f_X2_takeLetters a1 h = some (r, hr)) : xCT l γ xSC yX2_takeLetters cX2_takeLetters 2 none 1 [.ref (γ.2.2.2 21), .int a1] h none hr := by
  refine xCT.of (own := RX2) (L := [some (.ref (γ.2.2.2 21)), some (.int a1)]) (by decide) rfl rfl rfl (fun C hF => ?_)
  unfold f_X2_takeLetters at e
  refine xB_aload_n hF dX2_takeLetters_0 rfl ?_
  refine xB_aload_n hF dX2_takeLetters_1 rfl ?_
  refine xB_get hF dX2_takeLetters_2 fl_X2_86 sC_21 rfl rfl ?_
  refine xB_put hF dX2_takeLetters_5 fp_X2_22 sC_21 rfl rfl rfl rfl rfl ?_
  refine xB_gen e (fun h1 e => ?_)
  exact xB_l (t_X2_takeLetters_c8 hF _ _ e) (And.intro rfl (And.intro rfl (True.intro)))
def f_X2_goToNext_c88 (s0 : Int32) (h : xH) : Option (Int32 × xH) :=
    if (h 21 3) < (h 21 2) then (gd (h 21 3) 96 <| bn (f_X2_isLetter (h 22 (Int32.toNatClampNeg (h 21 3))) h) fun r1 h2 => if r1 = 0 then (gd (h2 21 3) 96 <| bn (f_X2_isDigit (h2 22 (Int32.toNatClampNeg (h2 21 3))) h2) fun r4 h5 => if r4 = 0 then (nm (xst h5 21 5 1) fun h7 => gd (h7 21 3) 96 <| nm (xst h7 21 6 (h7 22 (Int32.toNatClampNeg (h7 21 3)))) fun h8 => nm (xst h8 21 4 ((h8 21 3) + 1)) fun h9 => some (0, h9)) else (bn (f_X2_takeDigits s0 h5) fun r10 h11 => some (0, h11))) else (bn (f_X2_takeLetters s0 h2) fun r13 h14 => some (0, h14))) else (nm (xst h 21 5 0) fun h16 => nm (xst h16 21 4 (h16 21 2)) fun h17 => some (0, h17))
set_option maxRecDepth 20000 in
set_option maxHeartbeats 2000000 in
theorem t_X2_goToNext_c88 {l : Launch} {γ : xG} {r : Int32} {hr : xH} {C : xCx} (hF : xF C cX2_goToNext RX2 3 2 γ xSC none hr l none) : ∀ (s0 : Int32) (h : xH), f_X2_goToNext_c88 s0 h = some (r, hr) → xB C h 88 [some (.ref (γ.2.2.2 21)), none, none] [.int s0] := by
  intro s0 h e
  unfold f_X2_goToNext_c88 at e
  refine xB_istore_n (L' := [_, _, _]) hF dX2_goToNext_88 rfl rfl rfl ?_
  refine xB_aload_n hF dX2_goToNext_89 rfl ?_
  refine xB_get hF dX2_goToNext_90 fl_X2_86 sC_21 rfl rfl ?_
  refine xB_aload_n hF dX2_goToNext_93 rfl ?_
  refine xB_get hF dX2_goToNext_94 fl_X2_18 sC_21 rfl rfl ?_
  refine xB_icmp_lt (tgt := 116) hF dX2_goToNext_97 rfl e (fun _ e => ?_) (fun _ e => ?_)
  · refine xB_aload_n hF dX2_goToNext_116 rfl ?_
    refine xB_get hF dX2_goToNext_117 fl_X2_9 sC_21 rfl rfl ?_
    refine xB_aload_n hF dX2_goToNext_120 rfl ?_
    refine xB_get hF dX2_goToNext_121 fl_X2_86 sC_21 rfl rfl ?_
    refine xB_iald hF dX2_goToNext_124 sC_22 e (fun e => ?_)
    obtain ⟨r1, h2, e3, e⟩ := bn_of e
    refine xB_callSi hF dX2_goToNext_125 (t_X2_isLetter e3) cw_X2_116 rfl rfl rfl rfl ?_
    refine xB_if_eq (tgt := 139) hF dX2_goToNext_128 rfl e (fun _ e => ?_) (fun _ e => ?_)
    · refine xB_aload_n hF dX2_goToNext_139 rfl ?_
      refine xB_get hF dX2_goToNext_140 fl_X2_9 sC_21 rfl rfl ?_
      refine xB_aload_n hF dX2_goToNext_143 rfl ?_
      refine xB_get hF dX2_goToNext_144 fl_X2_86 sC_21 rfl rfl ?_
      refine xB_iald hF dX2_goToNext_147 sC_22 e (fun e => ?_)
      obtain ⟨r4, h5, e6, e⟩ := bn_of e
      refine xB_callSi hF dX2_goToNext_148 (t_X2_isDigit e6) cw_X2_123 rfl rfl rfl rfl ?_
      refine xB_if_eq (tgt := 162) hF dX2_goToNext_151 rfl e (fun _ e => ?_) (fun _ e => ?_)
      · refine xB_aload_n hF dX2_goToNext_162 rfl ?_
        refine xB_iconst hF dX2_goToNext_163 ki_1 ?_
        refine xB_put hF dX2_goToNext_164 fp_X2_25 sC_21 rfl rfl rfl rfl rfl ?_
        refine xB_gen e (fun h7 e => ?_)
        refine xB_aload_n hF dX2_goToNext_167 rfl ?_
        refine xB_aload_n hF dX2_goToNext_168 rfl ?_
        refine xB_get hF dX2_goToNext_169 fl_X2_9 sC_21 rfl rfl ?_
        refine xB_aload_n hF dX2_goToNext_172 rfl ?_
        refine xB_get hF dX2_goToNext_173 fl_X2_86 sC_21 rfl rfl ?_
        refine xB_iald hF dX2_goToNext_176 sC_22 e (fun e => ?_)
        refine xB_put hF dX2_goToNext_177 fp_X2_56 sC_21 rfl rfl rfl rfl rfl ?_
        refine xB_gen e (fun h8 e => ?_)
        refine xB_aload_n hF dX2_goToNext_180 rfl ?_
        refine xB_aload_n hF dX2_goToNext_181 rfl ?_
        refine xB_get hF dX2_goToNext_182 fl_X2_86 sC_21 rfl rfl ?_
        refine xB_iconst hF dX2_goToNext_185 ki_1 ?_
        refine xB_iadd hF dX2_goToNext_186 ?_
        refine xB_put hF dX2_goToNext_187 fp_X2_22 sC_21 rfl rfl rfl rfl rfl ?_
        refine xB_gen e (fun h9 e => ?_)
        exact xB_vreturn hF dX2_goToNext_190 e
      · refine xB_aload_n hF dX2_goToNext_154 rfl ?_
        refine xB_iload_n hF dX2_goToNext_155 rfl ?_
        obtain ⟨r10, h11, e12, e⟩ := bn_of e
        refine xB_callVv hF dX2_goToNext_156 (t_X2_takeDigits e12) cw_X2_126 sC_21 rfl rfl rfl rfl rfl ?_
        refine xB_goto (tgt := 190) hF dX2_goToNext_159 rfl ?_
        exact xB_vreturn hF dX2_goToNext_190 e
    · refine xB_aload_n hF dX2_goToNext_131 rfl ?_
      refine xB_iload_n hF dX2_goToNext_132 rfl ?_
      obtain ⟨r13, h14, e15, e⟩ := bn_of e
      refine xB_callVv hF dX2_goToNext_133 (t_X2_takeLetters e15) cw_X2_119 sC_21 rfl rfl rfl rfl rfl ?_
      refine xB_goto (tgt := 190) hF dX2_goToNext_136 rfl ?_
      exact xB_vreturn hF dX2_goToNext_190 e
  · refine xB_aload_n hF dX2_goToNext_100 rfl ?_
    refine xB_iconst hF dX2_goToNext_101 ki_0 ?_
    refine xB_put hF dX2_goToNext_102 fp_X2_25 sC_21 rfl rfl rfl rfl rfl ?_
    refine xB_gen e (fun h16 e => ?_)
    refine xB_aload_n hF dX2_goToNext_105 rfl ?_
    refine xB_aload_n hF dX2_goToNext_106 rfl ?_
    refine xB_get hF dX2_goToNext_107 fl_X2_18 sC_21 rfl rfl ?_
    refine xB_put hF dX2_goToNext_110 fp_X2_22 sC_21 rfl rfl rfl rfl rfl ?_
    refine xB_gen e (fun h17 e => ?_)
    refine xB_goto (tgt := 190) hF dX2_goToNext_113 rfl ?_
    exact xB_vreturn hF dX2_goToNext_190 e
def f_X2_goToNext_c87 (h : xH) : Option (Int32 × xH) :=
    f_X2_goToNext_c88 0 h
set_option maxRecDepth 20000 in
set_option maxHeartbeats 2000000 in
theorem t_X2_goToNext_c87 {l : Launch} {γ : xG} {r : Int32} {hr : xH} {C : xCx} (hF : xF C cX2_goToNext RX2 3 2 γ xSC none hr l none) : ∀ (h : xH), f_X2_goToNext_c87 h = some (r, hr) → xB C h 87 [some (.ref (γ.2.2.2 21)), none, none] [] := by
  intro h e
  unfold f_X2_goToNext_c87 at e
  refine xB_iconst hF dX2_goToNext_87 ki_0 ?_
  exact xB_l (t_X2_goToNext_c88 hF _ _ e) (And.intro rfl (True.intro))
def f_X2_goToNext_c68 (v1 : Int32) (h : xH) : Option (Int32 × xH) :=
    if v1 = 0 then (f_X2_goToNext_c87 h) else (if (h 21 3) = (h 21 4) then (f_X2_goToNext_c88 1 h) else (f_X2_goToNext_c87 h))
set_option maxRecDepth 20000 in
set_option maxHeartbeats 2000000 in
theorem t_X2_goToNext_c68 {l : Launch} {γ : xG} {r : Int32} {hr : xH} {C : xCx} (hF : xF C cX2_goToNext RX2 3 2 γ xSC none hr l none) : ∀ (v1 : Int32) (h : xH), f_X2_goToNext_c68 v1 h = some (r, hr) → xB C h 68 [some (.ref (γ.2.2.2 21)), some (.int v1), none] [] := by
  intro v1 h e
  unfold f_X2_goToNext_c68 at e
  refine xB_iload_n hF dX2_goToNext_68 rfl ?_
  refine xB_if_eq (tgt := 87) hF dX2_goToNext_69 rfl e (fun _ e => ?_) (fun _ e => ?_)
  · exact xB_l (t_X2_goToNext_c87 hF _ e) (And.intro rfl (True.intro))
  · refine xB_aload_n hF dX2_goToNext_72 rfl ?_
    refine xB_get hF dX2_goToNext_73 fl_X2_86 sC_21 rfl rfl ?_
    refine xB_aload_n hF dX2_goToNext_76 rfl ?_
    refine xB_get hF dX2_goToNext_77 fl_X2_22 sC_21 rfl rfl ?_
    refine xB_icmp_ne (tgt := 87) hF dX2_goToNext_80 rfl e (fun _ e => ?_) (fun _ e => ?_)
    · refine xB_iconst hF dX2_goToNext_83 ki_1 ?_
      refine xB_goto (tgt := 88) hF dX2_goToNext_84 rfl ?_
      exact xB_l (t_X2_goToNext_c88 hF _ _ e) (And.intro rfl (True.intro))
    · exact xB_l (t_X2_goToNext_c87 hF _ e) (And.intro rfl (True.intro))
def f_X2_goToNext_c30 : Nat → Int32 → xH → Option (Int32 × xH)
  | 0, _, _ => none
  | n + 1, v1, h =>
    if (h 21 2) ≤ (h 21 3) then (f_X2_goToNext_c68 v1 h) else (gd (h 21 3) 96 <| if (h 22 (Int32.toNatClampNeg (h 21 3))) = 32 then (nm (xst h 21 3 ((h 21 3) + 1)) fun h1 => f_X2_goToNext_c30 n v1 h1) else (f_X2_goToNext_c68 v1 h))
set_option maxRecDepth 20000 in
set_option maxHeartbeats 2000000 in
theorem t_X2_goToNext_c30 {l : Launch} {γ : xG} {r : Int32} {hr : xH} {C : xCx} (hF : xF C cX2_goToNext RX2 3 2 γ xSC none hr l none) : ∀ (n : Nat) (v1 : Int32) (h : xH), f_X2_goToNext_c30 n v1 h = some (r, hr) → xB C h 30 [some (.ref (γ.2.2.2 21)), some (.int v1), none] [] := by
  intro n
  induction n with
  | zero => intro v1 h e; cases e
  | succ n ih =>
    intro v1 h e
    rw [f_X2_goToNext_c30] at e
    refine xB_aload_n hF dX2_goToNext_30 rfl ?_
    refine xB_get hF dX2_goToNext_31 fl_X2_86 sC_21 rfl rfl ?_
    refine xB_aload_n hF dX2_goToNext_34 rfl ?_
    refine xB_get hF dX2_goToNext_35 fl_X2_18 sC_21 rfl rfl ?_
    refine xB_icmp_ge (tgt := 68) hF dX2_goToNext_38 rfl e (fun _ e => ?_) (fun _ e => ?_)
    · exact xB_l (t_X2_goToNext_c68 hF _ _ e) (And.intro rfl (And.intro rfl (True.intro)))
    · refine xB_aload_n hF dX2_goToNext_41 rfl ?_
      refine xB_get hF dX2_goToNext_42 fl_X2_9 sC_21 rfl rfl ?_
      refine xB_aload_n hF dX2_goToNext_45 rfl ?_
      refine xB_get hF dX2_goToNext_46 fl_X2_86 sC_21 rfl rfl ?_
      refine xB_iald hF dX2_goToNext_49 sC_22 e (fun e => ?_)
      refine xB_bipush hF dX2_goToNext_50 kb_32 ?_
      refine xB_icmp_ne (tgt := 68) hF dX2_goToNext_52 rfl e (fun _ e => ?_) (fun _ e => ?_)
      · refine xB_aload_n hF dX2_goToNext_55 rfl ?_
        refine xB_dup hF dX2_goToNext_56 rfl ?_
        refine xB_get hF dX2_goToNext_57 fl_X2_86 sC_21 rfl rfl ?_
        refine xB_iconst hF dX2_goToNext_60 ki_1 ?_
        refine xB_iadd hF dX2_goToNext_61 ?_
        refine xB_put hF dX2_goToNext_62 fp_X2_86 sC_21 rfl rfl rfl rfl rfl ?_
        refine xB_gen e (fun h1 e => ?_)
        refine xB_goto (tgt := 30) hF dX2_goToNext_65 rfl ?_
        exact xB_l (ih _ _ e) (And.intro rfl (And.intro rfl (True.intro)))
      · exact xB_l (t_X2_goToNext_c68 hF _ _ e) (And.intro rfl (And.intro rfl (True.intro)))
def f_X2_goToNext_c21 (s0 : Int32) (h : xH) : Option (Int32 × xH) :=
    nm (xst h 21 3 (h 21 4)) fun h1 => f_X2_goToNext_c30 xN s0 h1
set_option maxRecDepth 20000 in
set_option maxHeartbeats 2000000 in
theorem t_X2_goToNext_c21 {l : Launch} {γ : xG} {r : Int32} {hr : xH} {C : xCx} (hF : xF C cX2_goToNext RX2 3 2 γ xSC none hr l none) : ∀ (s0 : Int32) (h : xH), f_X2_goToNext_c21 s0 h = some (r, hr) → xB C h 21 [some (.ref (γ.2.2.2 21)), none, none] [.int s0] := by
  intro s0 h e
  unfold f_X2_goToNext_c21 at e
  refine xB_istore_n (L' := [_, _, _]) hF dX2_goToNext_21 rfl rfl rfl ?_
  refine xB_aload_n hF dX2_goToNext_22 rfl ?_
  refine xB_aload_n hF dX2_goToNext_23 rfl ?_
  refine xB_get hF dX2_goToNext_24 fl_X2_22 sC_21 rfl rfl ?_
  refine xB_put hF dX2_goToNext_27 fp_X2_86 sC_21 rfl rfl rfl rfl rfl ?_
  refine xB_gen e (fun h1 e => ?_)
  exact xB_l (t_X2_goToNext_c30 hF _ _ _ e) (And.intro rfl (And.intro rfl (True.intro)))
def f_X2_goToNext_c16 (h : xH) : Option (Int32 × xH) :=
    f_X2_goToNext_c21 1 h
set_option maxRecDepth 20000 in
set_option maxHeartbeats 2000000 in
theorem t_X2_goToNext_c16 {l : Launch} {γ : xG} {r : Int32} {hr : xH} {C : xCx} (hF : xF C cX2_goToNext RX2 3 2 γ xSC none hr l none) : ∀ (h : xH), f_X2_goToNext_c16 h = some (r, hr) → xB C h 16 [some (.ref (γ.2.2.2 21)), none, none] [] := by
  intro h e
  unfold f_X2_goToNext_c16 at e
  refine xB_iconst hF dX2_goToNext_16 ki_1 ?_
  refine xB_goto (tgt := 21) hF dX2_goToNext_17 rfl ?_
  exact xB_l (t_X2_goToNext_c21 hF _ _ e) (And.intro rfl (True.intro))
def f_X2_goToNext (h : xH) : Option (Int32 × xH) :=
    if (h 21 5) = 2 then (f_X2_goToNext_c16 h) else (if (h 21 5) = 3 then (f_X2_goToNext_c16 h) else (f_X2_goToNext_c21 0 h))
set_option maxRecDepth 20000 in
set_option maxHeartbeats 2000000 in
theorem t_X2_goToNext {l : Launch} {γ : xG} {h : xH} {r : Int32} {hr : xH} (e : f_X2_goToNext h = some (r, hr)) : xCT l γ xSC yX2_goToNext cX2_goToNext 3 none 2 [.ref (γ.2.2.2 21)] h none hr := by
  refine xCT.of (own := RX2) (L := [some (.ref (γ.2.2.2 21)), none, none]) (by decide) rfl rfl rfl (fun C hF => ?_)
  unfold f_X2_goToNext at e
  refine xB_aload_n hF dX2_goToNext_0 rfl ?_
  refine xB_get hF dX2_goToNext_1 fl_X2_25 sC_21 rfl rfl ?_
  refine xB_iconst hF dX2_goToNext_4 ki_2 ?_
  refine xB_icmp_eq (tgt := 16) hF dX2_goToNext_5 rfl e (fun _ e => ?_) (fun _ e => ?_)
  · exact xB_l (t_X2_goToNext_c16 hF _ e) (And.intro rfl (True.intro))
  · refine xB_aload_n hF dX2_goToNext_8 rfl ?_
    refine xB_get hF dX2_goToNext_9 fl_X2_25 sC_21 rfl rfl ?_
    refine xB_iconst hF dX2_goToNext_12 ki_3 ?_
    refine xB_icmp_ne (tgt := 20) hF dX2_goToNext_13 rfl e (fun _ e => ?_) (fun _ e => ?_)
    · exact xB_l (t_X2_goToNext_c16 hF _ e) (And.intro rfl (True.intro))
    · refine xB_iconst hF dX2_goToNext_20 ki_0 ?_
      exact xB_l (t_X2_goToNext_c21 hF _ _ e) (And.intro rfl (True.intro))
def f_X2_addStep (a1 : Int32) (h : xH) : Option (Int32 × xH) :=
    if 96 ≤ (h 21 8) then (some (0, h)) else (gd (h 21 8) 96 <| nm (xst h 23 (Int32.toNatClampNeg (h 21 8)) a1) fun h1 => nm (xst h1 21 8 ((h1 21 8) + 1)) fun h2 => some (0, h2))
set_option maxRecDepth 20000 in
set_option maxHeartbeats 2000000 in
theorem t_X2_addStep {l : Launch} {γ : xG} {a1 : Int32} {h : xH} {r : Int32} {hr : xH} (e : f_X2_addStep a1 h = some (r, hr)) : xCT l γ xSC yX2_addStep cX2_addStep 2 none 0 [.ref (γ.2.2.2 21), .int a1] h none hr := by
  refine xCT.of (own := RX2) (L := [some (.ref (γ.2.2.2 21)), some (.int a1)]) (by decide) rfl rfl rfl (fun C hF => ?_)
  unfold f_X2_addStep at e
  refine xB_aload_n hF dX2_addStep_0 rfl ?_
  refine xB_get hF dX2_addStep_1 fl_X2_28 sC_21 rfl rfl ?_
  refine xB_bipush hF dX2_addStep_4 kb_96 ?_
  refine xB_icmp_ge (tgt := 29) hF dX2_addStep_6 rfl e (fun _ e => ?_) (fun _ e => ?_)
  · exact xB_vreturn hF dX2_addStep_29 e
  · refine xB_aload_n hF dX2_addStep_9 rfl ?_
    refine xB_get hF dX2_addStep_10 fl_X2_15 sC_21 rfl rfl ?_
    refine xB_aload_n hF dX2_addStep_13 rfl ?_
    refine xB_get hF dX2_addStep_14 fl_X2_28 sC_21 rfl rfl ?_
    refine xB_iload_n hF dX2_addStep_17 rfl ?_
    refine xB_iast hF dX2_addStep_18 sC_23 e (fun e => ?_)
    refine xB_gen e (fun h1 e => ?_)
    refine xB_aload_n hF dX2_addStep_19 rfl ?_
    refine xB_dup hF dX2_addStep_20 rfl ?_
    refine xB_get hF dX2_addStep_21 fl_X2_28 sC_21 rfl rfl ?_
    refine xB_iconst hF dX2_addStep_24 ki_1 ?_
    refine xB_iadd hF dX2_addStep_25 ?_
    refine xB_put hF dX2_addStep_26 fp_X2_28 sC_21 rfl rfl rfl rfl rfl ?_
    refine xB_gen e (fun h2 e => ?_)
    exact xB_vreturn hF dX2_addStep_29 e
def f_X2_isSign (a1 : Int32) (h : xH) : Option (Int32 × xH) :=
    if (h 21 5) = 1 then (if (h 21 6) = a1 then (some (1, h)) else (some (0, h))) else (some (0, h))
set_option maxRecDepth 20000 in
set_option maxHeartbeats 2000000 in
theorem t_X2_isSign {l : Launch} {γ : xG} {a1 : Int32} {h : xH} {r : Int32} {hr : xH} (e : f_X2_isSign a1 h = some (r, hr)) : xCT l γ xSC yX2_isSign cX2_isSign 2 (some .boolean) 0 [.ref (γ.2.2.2 21), .int a1] h (some (.int r)) hr := by
  refine xCT.of (own := RX2) (L := [some (.ref (γ.2.2.2 21)), some (.int a1)]) (by decide) rfl rfl rfl (fun C hF => ?_)
  unfold f_X2_isSign at e
  refine xB_aload_n hF dX2_isSign_0 rfl ?_
  refine xB_get hF dX2_isSign_1 fl_X2_25 sC_21 rfl rfl ?_
  refine xB_iconst hF dX2_isSign_4 ki_1 ?_
  refine xB_icmp_ne (tgt := 20) hF dX2_isSign_5 rfl e (fun _ e => ?_) (fun _ e => ?_)
  · refine xB_aload_n hF dX2_isSign_8 rfl ?_
    refine xB_get hF dX2_isSign_9 fl_X2_56 sC_21 rfl rfl ?_
    refine xB_iload_n hF dX2_isSign_12 rfl ?_
    refine xB_icmp_ne (tgt := 20) hF dX2_isSign_13 rfl e (fun _ e => ?_) (fun _ e => ?_)
    · refine xB_iconst hF dX2_isSign_16 ki_1 ?_
      refine xB_goto (tgt := 21) hF dX2_isSign_17 rfl ?_
      exact xB_zreturn hF dX2_isSign_21 rfl e
    · refine xB_iconst hF dX2_isSign_20 ki_0 ?_
      exact xB_zreturn hF dX2_isSign_21 rfl e
  · refine xB_iconst hF dX2_isSign_20 ki_0 ?_
    exact xB_zreturn hF dX2_isSign_21 rfl e
def f_X2_joinsAt (a1 : Int32) (h : xH) : Option (Int32 × xH) :=
    if a1 = 0 then (bn (f_X2_isSign 124 h) fun r7 h8 => gb r7 (some (r7, h8))) else (if a1 = 1 then (bn (f_X2_isSign 38 h) fun r10 h11 => gb r10 (some (r10, h11))) else (if a1 = 2 then (bn (f_X2_isSign 60 h) fun r13 h14 => if r13 = 0 then (bn (f_X2_isSign 61 h14) fun r16 h17 => if r16 = 0 then (bn (f_X2_isSign 62 h17) fun r19 h20 => if r19 = 0 then (some (0, h20)) else (some (1, h20))) else (some (1, h17))) else (some (1, h14))) else (if a1 = 3 then (bn (f_X2_isSign 43 h) fun r22 h23 => if r22 = 0 then (bn (f_X2_isSign 45 h23) fun r25 h26 => if r25 = 0 then (some (0, h26)) else (some (1, h26))) else (some (1, h23))) else (bn (f_X2_isSign 42 h) fun r1 h2 => if r1 = 0 then (bn (f_X2_isSign 47 h2) fun r4 h5 => if r4 = 0 then (some (0, h5)) else (some (1, h5))) else (some (1, h2))))))
set_option maxRecDepth 20000 in
set_option maxHeartbeats 2000000 in
theorem t_X2_joinsAt {l : Launch} {γ : xG} {a1 : Int32} {h : xH} {r : Int32} {hr : xH} (e : f_X2_joinsAt a1 h = some (r, hr)) : xCT l γ xSC yX2_joinsAt cX2_joinsAt 2 (some .boolean) 1 [.ref (γ.2.2.2 21), .int a1] h (some (.int r)) hr := by
  refine xCT.of (own := RX2) (L := [some (.ref (γ.2.2.2 21)), some (.int a1)]) (by decide) rfl rfl rfl (fun C hF => ?_)
  unfold f_X2_joinsAt at e
  refine xB_iload_n hF dX2_joinsAt_0 rfl ?_
  rcases if_of e with ⟨c0, e⟩ | ⟨c0, e⟩
  · refine xB_tableIn (v := (0)) (tgt := 32) hF dX2_joinsAt_1 c0 (by decide) (by decide) rfl rfl ?_
    refine xB_aload_n hF dX2_joinsAt_32 rfl ?_
    refine xB_bipush hF dX2_joinsAt_33 kb_124 ?_
    obtain ⟨r7, h8, e9, e⟩ := bn_of e
    refine xB_callVi hF dX2_joinsAt_35 (t_X2_isSign e9) cw_X2_69 sC_21 rfl rfl rfl rfl rfl ?_
    exact xB_breturn hF dX2_joinsAt_38 e
  rcases if_of e with ⟨c1, e⟩ | ⟨c1, e⟩
  · refine xB_tableIn (v := (1)) (tgt := 39) hF dX2_joinsAt_1 c1 (by decide) (by decide) rfl rfl ?_
    refine xB_aload_n hF dX2_joinsAt_39 rfl ?_
    refine xB_bipush hF dX2_joinsAt_40 kb_38 ?_
    obtain ⟨r10, h11, e12, e⟩ := bn_of e
    refine xB_callVi hF dX2_joinsAt_42 (t_X2_isSign e12) cw_X2_69 sC_21 rfl rfl rfl rfl rfl ?_
    exact xB_breturn hF dX2_joinsAt_45 e
  rcases if_of e with ⟨c2, e⟩ | ⟨c2, e⟩
  · refine xB_tableIn (v := (2)) (tgt := 46) hF dX2_joinsAt_1 c2 (by decide) (by decide) rfl rfl ?_
    refine xB_aload_n hF dX2_joinsAt_46 rfl ?_
    refine xB_bipush hF dX2_joinsAt_47 kb_60 ?_
    obtain ⟨r13, h14, e15, e⟩ := bn_of e
    refine xB_callVi hF dX2_joinsAt_49 (t_X2_isSign e15) cw_X2_69 sC_21 rfl rfl rfl rfl rfl ?_
    refine xB_if_ne (tgt := 73) hF dX2_joinsAt_52 rfl e (fun _ e => ?_) (fun _ e => ?_)
    · refine xB_aload_n hF dX2_joinsAt_55 rfl ?_
      refine xB_bipush hF dX2_joinsAt_56 kb_61 ?_
      obtain ⟨r16, h17, e18, e⟩ := bn_of e
      refine xB_callVi hF dX2_joinsAt_58 (t_X2_isSign e18) cw_X2_69 sC_21 rfl rfl rfl rfl rfl ?_
      refine xB_if_ne (tgt := 73) hF dX2_joinsAt_61 rfl e (fun _ e => ?_) (fun _ e => ?_)
      · refine xB_aload_n hF dX2_joinsAt_64 rfl ?_
        refine xB_bipush hF dX2_joinsAt_65 kb_62 ?_
        obtain ⟨r19, h20, e21, e⟩ := bn_of e
        refine xB_callVi hF dX2_joinsAt_67 (t_X2_isSign e21) cw_X2_69 sC_21 rfl rfl rfl rfl rfl ?_
        refine xB_if_eq (tgt := 77) hF dX2_joinsAt_70 rfl e (fun _ e => ?_) (fun _ e => ?_)
        · refine xB_iconst hF dX2_joinsAt_77 ki_0 ?_
          exact xB_zreturn hF dX2_joinsAt_78 rfl e
        · refine xB_iconst hF dX2_joinsAt_73 ki_1 ?_
          refine xB_goto (tgt := 78) hF dX2_joinsAt_74 rfl ?_
          exact xB_zreturn hF dX2_joinsAt_78 rfl e
      · refine xB_iconst hF dX2_joinsAt_73 ki_1 ?_
        refine xB_goto (tgt := 78) hF dX2_joinsAt_74 rfl ?_
        exact xB_zreturn hF dX2_joinsAt_78 rfl e
    · refine xB_iconst hF dX2_joinsAt_73 ki_1 ?_
      refine xB_goto (tgt := 78) hF dX2_joinsAt_74 rfl ?_
      exact xB_zreturn hF dX2_joinsAt_78 rfl e
  rcases if_of e with ⟨c3, e⟩ | ⟨c3, e⟩
  · refine xB_tableIn (v := (3)) (tgt := 79) hF dX2_joinsAt_1 c3 (by decide) (by decide) rfl rfl ?_
    refine xB_aload_n hF dX2_joinsAt_79 rfl ?_
    refine xB_bipush hF dX2_joinsAt_80 kb_43 ?_
    obtain ⟨r22, h23, e24, e⟩ := bn_of e
    refine xB_callVi hF dX2_joinsAt_82 (t_X2_isSign e24) cw_X2_69 sC_21 rfl rfl rfl rfl rfl ?_
    refine xB_if_ne (tgt := 97) hF dX2_joinsAt_85 rfl e (fun _ e => ?_) (fun _ e => ?_)
    · refine xB_aload_n hF dX2_joinsAt_88 rfl ?_
      refine xB_bipush hF dX2_joinsAt_89 kb_45 ?_
      obtain ⟨r25, h26, e27, e⟩ := bn_of e
      refine xB_callVi hF dX2_joinsAt_91 (t_X2_isSign e27) cw_X2_69 sC_21 rfl rfl rfl rfl rfl ?_
      refine xB_if_eq (tgt := 101) hF dX2_joinsAt_94 rfl e (fun _ e => ?_) (fun _ e => ?_)
      · refine xB_iconst hF dX2_joinsAt_101 ki_0 ?_
        exact xB_zreturn hF dX2_joinsAt_102 rfl e
      · refine xB_iconst hF dX2_joinsAt_97 ki_1 ?_
        refine xB_goto (tgt := 102) hF dX2_joinsAt_98 rfl ?_
        exact xB_zreturn hF dX2_joinsAt_102 rfl e
    · refine xB_iconst hF dX2_joinsAt_97 ki_1 ?_
      refine xB_goto (tgt := 102) hF dX2_joinsAt_98 rfl ?_
      exact xB_zreturn hF dX2_joinsAt_102 rfl e
  refine xB_tableOut (tgt := 103) hF dX2_joinsAt_1 (by have := xne (v := (0)) (n := 0) rfl c0; have := xne (v := (1)) (n := 1) rfl c1; have := xne (v := (2)) (n := 2) rfl c2; have := xne (v := (3)) (n := 3) rfl c3; omega) rfl ?_
  refine xB_aload_n hF dX2_joinsAt_103 rfl ?_
  refine xB_bipush hF dX2_joinsAt_104 kb_42 ?_
  obtain ⟨r1, h2, e3, e⟩ := bn_of e
  refine xB_callVi hF dX2_joinsAt_106 (t_X2_isSign e3) cw_X2_69 sC_21 rfl rfl rfl rfl rfl ?_
  refine xB_if_ne (tgt := 121) hF dX2_joinsAt_109 rfl e (fun _ e => ?_) (fun _ e => ?_)
  · refine xB_aload_n hF dX2_joinsAt_112 rfl ?_
    refine xB_bipush hF dX2_joinsAt_113 kb_47 ?_
    obtain ⟨r4, h5, e6, e⟩ := bn_of e
    refine xB_callVi hF dX2_joinsAt_115 (t_X2_isSign e6) cw_X2_69 sC_21 rfl rfl rfl rfl rfl ?_
    refine xB_if_eq (tgt := 125) hF dX2_joinsAt_118 rfl e (fun _ e => ?_) (fun _ e => ?_)
    · refine xB_iconst hF dX2_joinsAt_125 ki_0 ?_
      exact xB_zreturn hF dX2_joinsAt_126 rfl e
    · refine xB_iconst hF dX2_joinsAt_121 ki_1 ?_
      refine xB_goto (tgt := 126) hF dX2_joinsAt_122 rfl ?_
      exact xB_zreturn hF dX2_joinsAt_126 rfl e
  · refine xB_iconst hF dX2_joinsAt_121 ki_1 ?_
    refine xB_goto (tgt := 126) hF dX2_joinsAt_122 rfl ?_
    exact xB_zreturn hF dX2_joinsAt_126 rfl e
def f_X2_takeLeaf (a1 : Int32) (h : xH) : Option (Int32 × xH) :=
    bn (f_X2_addStep a1 h) fun r1 h2 => nm (xst h2 21 9 ((h2 21 9) + 1)) fun h4 => bn (f_X2_goToNext h4) fun r5 h6 => some (1, h6)
set_option maxRecDepth 20000 in
set_option maxHeartbeats 2000000 in
theorem t_X2_takeLeaf {l : Launch} {γ : xG} {a1 : Int32} {h : xH} {r : Int32} {hr : xH} (e : f_X2_takeLeaf a1 h = some (r, hr)) : xCT l γ xSC yX2_takeLeaf cX2_takeLeaf 2 (some .boolean) 3 [.ref (γ.2.2.2 21), .int a1] h (some (.int r)) hr := by
  refine xCT.of (own := RX2) (L := [some (.ref (γ.2.2.2 21)), some (.int a1)]) (by decide) rfl rfl rfl (fun C hF => ?_)
  unfold f_X2_takeLeaf at e
  refine xB_aload_n hF dX2_takeLeaf_0 rfl ?_
  refine xB_iload_n hF dX2_takeLeaf_1 rfl ?_
  obtain ⟨r1, h2, e3, e⟩ := bn_of e
  refine xB_callVv hF dX2_takeLeaf_2 (t_X2_addStep e3) cw_X2_59 sC_21 rfl rfl rfl rfl rfl ?_
  refine xB_aload_n hF dX2_takeLeaf_5 rfl ?_
  refine xB_dup hF dX2_takeLeaf_6 rfl ?_
  refine xB_get hF dX2_takeLeaf_7 fl_X2_31 sC_21 rfl rfl ?_
  refine xB_iconst hF dX2_takeLeaf_10 ki_1 ?_
  refine xB_iadd hF dX2_takeLeaf_11 ?_
  refine xB_put hF dX2_takeLeaf_12 fp_X2_31 sC_21 rfl rfl rfl rfl rfl ?_
  refine xB_gen e (fun h4 e => ?_)
  refine xB_aload_n hF dX2_takeLeaf_15 rfl ?_
  obtain ⟨r5, h6, e7, e⟩ := bn_of e
  refine xB_callVv hF dX2_takeLeaf_16 (t_X2_goToNext e7) cw_X2_34 sC_21 rfl rfl rfl rfl rfl ?_
  refine xB_iconst hF dX2_takeLeaf_19 ki_1 ?_
  exact xB_zreturn hF dX2_takeLeaf_20 rfl e
def f_X6_textTold (a1 : Int32) (a2 : Int32) (h : xH) : Option (Int32 × xH) :=
    bn (f_X6_within a1 0 ((h 24 11) - 1) h) fun r1 h2 => if r1 = 0 then (some ((-1000000001), h2)) else (if a2 = 0 then (gd a1 14 <| some (h2 2 (Int32.toNatClampNeg a1), h2)) else (if a2 = 1 then (gd a1 14 <| some (h2 3 (Int32.toNatClampNeg a1), h2)) else (some ((-1000000001), h2))))
set_option maxRecDepth 20000 in
set_option maxHeartbeats 2000000 in
theorem t_X6_textTold {l : Launch} {γ : xG} {a1 : Int32} {a2 : Int32} {h : xH} {r : Int32} {hr : xH} (e : f_X6_textTold a1 a2 h = some (r, hr)) : xCT l γ xSC yX6_textTold cX6_textTold 3 (some .int) 1 [.ref (γ.2.2.2 0), .int a1, .int a2] h (some (.int r)) hr := by
  refine xCT.of (own := RX6) (L := [some (.ref (γ.2.2.2 0)), some (.int a1), some (.int a2)]) (by decide) rfl rfl rfl (fun C hF => ?_)
  unfold f_X6_textTold at e
  refine xB_iload_n hF dX6_textTold_0 rfl ?_
  refine xB_iconst hF dX6_textTold_1 ki_0 ?_
  refine xB_aload_n hF dX6_textTold_2 rfl ?_
  refine xB_get hF dX6_textTold_3 fl_X6_28 sC_0 rfl rfl ?_
  refine xB_get hF dX6_textTold_6 fl_X6_259 isX5_24.1 rfl rfl ?_
  refine xB_iconst hF dX6_textTold_9 ki_1 ?_
  refine xB_isub hF dX6_textTold_10 ?_
  obtain ⟨r1, h2, e3, e⟩ := bn_of e
  refine xB_callSi hF dX6_textTold_11 (t_X6_within e3) cw_X6_78 rfl rfl rfl rfl ?_
  refine xB_if_ne (tgt := 20) hF dX6_textTold_14 rfl e (fun _ e => ?_) (fun _ e => ?_)
  · refine xB_ldc hF dX6_textTold_17 kc_X6_85 ?_
    exact xB_ireturn hF dX6_textTold_19 e
  · refine xB_iload_n hF dX6_textTold_20 rfl ?_
    rcases if_of e with ⟨c0, e⟩ | ⟨c0, e⟩
    · refine xB_lookup (off := 27) (tgt := 48) hF dX6_textTold_21 (by decide +kernel) (xlk c0 (by decide +kernel)) rfl ?_
      refine xB_aload_n hF dX6_textTold_48 rfl ?_
      refine xB_get hF dX6_textTold_49 fl_X6_10 sC_0 rfl rfl ?_
      refine xB_get hF dX6_textTold_52 fl_X6_269 sC_1 rfl rfl ?_
      refine xB_iload_n hF dX6_textTold_55 rfl ?_
      refine xB_iald hF dX6_textTold_56 sC_2 e (fun e => ?_)
      exact xB_ireturn hF dX6_textTold_57 e
    rcases if_of e with ⟨c1, e⟩ | ⟨c1, e⟩
    · refine xB_lookup (off := 37) (tgt := 58) hF dX6_textTold_21 (by decide +kernel) (xlk c1 (by decide +kernel)) rfl ?_
      refine xB_aload_n hF dX6_textTold_58 rfl ?_
      refine xB_get hF dX6_textTold_59 fl_X6_10 sC_0 rfl rfl ?_
      refine xB_get hF dX6_textTold_62 fl_X6_271 sC_1 rfl rfl ?_
      refine xB_iload_n hF dX6_textTold_65 rfl ?_
      refine xB_iald hF dX6_textTold_66 sC_3 e (fun e => ?_)
      exact xB_ireturn hF dX6_textTold_67 e
    refine xB_lookup (off := 47) (tgt := 68) hF dX6_textTold_21 (by decide +kernel) (xlkD [(0, 27), (1, 37)] (by have := xne (v := (0)) (n := 0) rfl c0; have := xne (v := (1)) (n := 1) rfl c1; simp only [List.forall_mem_cons, List.not_mem_nil, false_implies, implies_true, and_true]; omega)) rfl ?_
    refine xB_ldc hF dX6_textTold_68 kc_X6_85 ?_
    exact xB_ireturn hF dX6_textTold_70 e
def f_X6_why (a1 : Int32) (h : xH) : Option (Int32 × xH) :=
    bn (f_X6_within a1 0 2 h) fun r1 h2 => if r1 = 0 then (some ((-1000000001), h2)) else (gd a1 3 <| if 0 ≤ (h2 33 (Int32.toNatClampNeg a1)) then (gd a1 3 <| some (h2 33 (Int32.toNatClampNeg a1), h2)) else (some ((-1000000005), h2)))
set_option maxRecDepth 20000 in
set_option maxHeartbeats 2000000 in
theorem t_X6_why {l : Launch} {γ : xG} {a1 : Int32} {h : xH} {r : Int32} {hr : xH} (e : f_X6_why a1 h = some (r, hr)) : xCT l γ xSC yX6_why cX6_why 2 (some .int) 1 [.ref (γ.2.2.2 0), .int a1] h (some (.int r)) hr := by
  refine xCT.of (own := RX6) (L := [some (.ref (γ.2.2.2 0)), some (.int a1)]) (by decide) rfl rfl rfl (fun C hF => ?_)
  unfold f_X6_why at e
  refine xB_iload_n hF dX6_why_0 rfl ?_
  refine xB_iconst hF dX6_why_1 ki_0 ?_
  refine xB_iconst hF dX6_why_2 ki_2 ?_
  obtain ⟨r1, h2, e3, e⟩ := bn_of e
  refine xB_callSi hF dX6_why_3 (t_X6_within e3) cw_X6_78 rfl rfl rfl rfl ?_
  refine xB_if_ne (tgt := 12) hF dX6_why_6 rfl e (fun _ e => ?_) (fun _ e => ?_)
  · refine xB_ldc hF dX6_why_9 kc_X6_85 ?_
    exact xB_ireturn hF dX6_why_11 e
  · refine xB_aload_n hF dX6_why_12 rfl ?_
    refine xB_get hF dX6_why_13 fl_X6_28 sC_0 rfl rfl ?_
    refine xB_get hF dX6_why_16 fl_X6_237 isX5_24.1 rfl rfl ?_
    refine xB_iload_n hF dX6_why_19 rfl ?_
    refine xB_iald hF dX6_why_20 sC_33 e (fun e => ?_)
    refine xB_if_ge (tgt := 29) hF dX6_why_21 rfl e (fun _ e => ?_) (fun _ e => ?_)
    · refine xB_aload_n hF dX6_why_29 rfl ?_
      refine xB_get hF dX6_why_30 fl_X6_28 sC_0 rfl rfl ?_
      refine xB_get hF dX6_why_33 fl_X6_237 isX5_24.1 rfl rfl ?_
      refine xB_iload_n hF dX6_why_36 rfl ?_
      refine xB_iald hF dX6_why_37 sC_33 e (fun e => ?_)
      exact xB_ireturn hF dX6_why_38 e
    · refine xB_ldc hF dX6_why_24 kc_X6_184 ?_
      refine xB_goto (tgt := 38) hF dX6_why_26 rfl ?_
      exact xB_ireturn hF dX6_why_38 e
def f_X3_renew_c12 (w : Nat) (a1 : Int32) (a2 : Int32) : Nat → Int32 → xH → Option (Int32 × xH)
  | 0, _, _ => none
  | n + 1, v3, h =>
    if 24 ≤ v3 then (some (0, h)) else (gd v3 24 <| nm (xst h (w + 1) (Int32.toNatClampNeg v3) 0) fun h1 => f_X3_renew_c12 w a1 a2 n (v3 + 1) h1)
set_option maxRecDepth 20000 in
set_option maxHeartbeats 2000000 in
theorem t_X3_renew_c12 {l : Launch} {γ : xG} {w : Nat} {a1 : Int32} {a2 : Int32} {r : Int32} {hr : xH} {C : xCx} (hF : xF C cX3_renew RX3 4 0 γ xSC none hr l none) (hw : isX3 w) : ∀ (n : Nat) (v3 : Int32) (h : xH), f_X3_renew_c12 w a1 a2 n v3 h = some (r, hr) → xB C h 12 [some (.ref (γ.2.2.2 w)), some (.int a1), some (.int a2), some (.int v3)] [] := by
  intro n
  induction n with
  | zero => intro v3 h e; cases e
  | succ n ih =>
    intro v3 h e
    rw [f_X3_renew_c12] at e
    refine xB_iload_n hF dX3_renew_12 rfl ?_
    refine xB_bipush hF dX3_renew_13 kb_24 ?_
    refine xB_icmp_ge (tgt := 31) hF dX3_renew_15 rfl e (fun _ e => ?_) (fun _ e => ?_)
    · exact xB_vreturn hF dX3_renew_31 e
    · refine xB_aload_n hF dX3_renew_18 rfl ?_
      refine xB_get hF dX3_renew_19 fl_X3_9 hw.1 rfl rfl ?_
      refine xB_iload_n hF dX3_renew_22 rfl ?_
      refine xB_iconst hF dX3_renew_23 ki_0 ?_
      refine xB_iast hF dX3_renew_24 hw.2 e (fun e => ?_)
      refine xB_gen e (fun h1 e => ?_)
      refine xB_iinc (L' := [_, _, _, _]) hF dX3_renew_25 rfl ki_1 rfl rfl rfl ?_
      refine xB_goto (tgt := 12) hF dX3_renew_28 rfl ?_
      exact xB_l (ih _ _ e) (And.intro rfl (And.intro rfl (And.intro rfl (And.intro rfl (True.intro)))))
def f_X3_renew (w : Nat) (a1 : Int32) (a2 : Int32) (h : xH) : Option (Int32 × xH) :=
    nm (xst h w 1 a1) fun h1 => nm (xst h1 w 2 a2) fun h2 => f_X3_renew_c12 w a1 a2 xN 0 h2
set_option maxRecDepth 20000 in
set_option maxHeartbeats 2000000 in
theorem t_X3_renew {l : Launch} {γ : xG} {w : Nat} {a1 : Int32} {a2 : Int32} {h : xH} {r : Int32} {hr : xH} (hw : isX3 w) (e : f_X3_renew w a1 a2 h = some (r, hr)) : xCT l γ xSC yX3_renew cX3_renew 4 none 0 [.ref (γ.2.2.2 w), .int a1, .int a2] h none hr := by
  refine xCT.of (own := RX3) (L := [some (.ref (γ.2.2.2 w)), some (.int a1), some (.int a2), none]) (by decide) rfl rfl rfl (fun C hF => ?_)
  unfold f_X3_renew at e
  refine xB_aload_n hF dX3_renew_0 rfl ?_
  refine xB_iload_n hF dX3_renew_1 rfl ?_
  refine xB_put hF dX3_renew_2 fp_X3_15 hw.1 rfl rfl rfl rfl rfl ?_
  refine xB_gen e (fun h1 e => ?_)
  refine xB_aload_n hF dX3_renew_5 rfl ?_
  refine xB_iload_n hF dX3_renew_6 rfl ?_
  refine xB_put hF dX3_renew_7 fp_X3_19 hw.1 rfl rfl rfl rfl rfl ?_
  refine xB_gen e (fun h2 e => ?_)
  refine xB_iconst hF dX3_renew_10 ki_0 ?_
  refine xB_istore_n (L' := [_, _, _, _]) hF dX3_renew_11 rfl rfl rfl ?_
  exact xB_l (t_X3_renew_c12 hF hw _ _ _ e) (And.intro rfl (And.intro rfl (And.intro rfl (And.intro rfl (True.intro)))))
def f_X6_sheet (a1 : Int32) (a2 : Int32) (a3 : Int32) (h : xH) : Option (Int32 × xH) :=
    bn (f_X6_isSheet a1 h) fun r1 h2 => if r1 = 0 then (some ((-1000000001), h2)) else (bn (f_X6_within a2 (-1) 1 h2) fun r4 h5 => if r4 = 0 then (some ((-1000000001), h5)) else (if a2 = (-1) then (gd a1 4 <| bn (f_X3_renew (60 + 2 * (Int32.toNatClampNeg a1)) (-1) 0 h5) fun r12 h13 => some (0, h13)) else (if a3 ≤ 24 then (if 0 ≤ a3 then (gd a1 4 <| bn (f_X3_renew (60 + 2 * (Int32.toNatClampNeg a1)) a2 a3 h5) fun r8 h9 => some (a3, h9)) else (some ((-1000000014), h5))) else (some ((-1000000001), h5)))))
set_option maxRecDepth 20000 in
set_option maxHeartbeats 2000000 in
theorem t_X6_sheet {l : Launch} {γ : xG} {a1 : Int32} {a2 : Int32} {a3 : Int32} {h : xH} {r : Int32} {hr : xH} (e : f_X6_sheet a1 a2 a3 h = some (r, hr)) : xCT l γ xSC yX6_sheet cX6_sheet 4 (some .int) 2 [.ref (γ.2.2.2 0), .int a1, .int a2, .int a3] h (some (.int r)) hr := by
  refine xCT.of (own := RX6) (L := [some (.ref (γ.2.2.2 0)), some (.int a1), some (.int a2), some (.int a3)]) (by decide) rfl rfl rfl (fun C hF => ?_)
  unfold f_X6_sheet at e
  refine xB_iload_n hF dX6_sheet_0 rfl ?_
  obtain ⟨r1, h2, e3, e⟩ := bn_of e
  refine xB_callSi hF dX6_sheet_1 (t_X6_isSheet e3) cw_X6_215 rfl rfl rfl rfl ?_
  refine xB_if_eq (tgt := 16) hF dX6_sheet_4 rfl e (fun _ e => ?_) (fun _ e => ?_)
  · refine xB_ldc hF dX6_sheet_16 kc_X6_85 ?_
    exact xB_ireturn hF dX6_sheet_18 e
  · refine xB_iload_n hF dX6_sheet_7 rfl ?_
    refine xB_iconst hF dX6_sheet_8 ki_m1 ?_
    refine xB_iconst hF dX6_sheet_9 ki_1 ?_
    obtain ⟨r4, h5, e6, e⟩ := bn_of e
    refine xB_callSi hF dX6_sheet_10 (t_X6_within e6) cw_X6_78 rfl rfl rfl rfl ?_
    refine xB_if_ne (tgt := 19) hF dX6_sheet_13 rfl e (fun _ e => ?_) (fun _ e => ?_)
    · refine xB_ldc hF dX6_sheet_16 kc_X6_85 ?_
      exact xB_ireturn hF dX6_sheet_18 e
    · refine xB_iload_n hF dX6_sheet_19 rfl ?_
      refine xB_iconst hF dX6_sheet_20 ki_m1 ?_
      refine xB_icmp_ne (tgt := 37) hF dX6_sheet_21 rfl e (fun _ e => ?_) (fun _ e => ?_)
      · refine xB_aload_n hF dX6_sheet_24 rfl ?_
        refine xB_get hF dX6_sheet_25 fl_X6_51 sC_0 rfl rfl ?_
        refine xB_iload_n hF dX6_sheet_28 rfl ?_
        refine xB_aald hF dX6_sheet_29 sC_59 rfl rfl e (fun q11 e => ?_)
        refine xB_iconst hF dX6_sheet_30 ki_m1 ?_
        refine xB_iconst hF dX6_sheet_31 ki_0 ?_
        obtain ⟨r12, h13, e14, e⟩ := bn_of e
        refine xB_callVv hF dX6_sheet_32 (t_X3_renew (isX3_sheet q11) e14) cw_X6_274 ((isX3_sheet q11).1) rfl rfl rfl rfl rfl ?_
        refine xB_iconst hF dX6_sheet_35 ki_0 ?_
        exact xB_ireturn hF dX6_sheet_36 e
      · refine xB_iload_n hF dX6_sheet_37 rfl ?_
        refine xB_bipush hF dX6_sheet_38 kb_24 ?_
        refine xB_icmp_le (tgt := 46) hF dX6_sheet_40 rfl e (fun _ e => ?_) (fun _ e => ?_)
        · refine xB_iload_n hF dX6_sheet_46 rfl ?_
          refine xB_if_ge (tgt := 54) hF dX6_sheet_47 rfl e (fun _ e => ?_) (fun _ e => ?_)
          · refine xB_aload_n hF dX6_sheet_54 rfl ?_
            refine xB_get hF dX6_sheet_55 fl_X6_51 sC_0 rfl rfl ?_
            refine xB_iload_n hF dX6_sheet_58 rfl ?_
            refine xB_aald hF dX6_sheet_59 sC_59 rfl rfl e (fun q7 e => ?_)
            refine xB_iload_n hF dX6_sheet_60 rfl ?_
            refine xB_iload_n hF dX6_sheet_61 rfl ?_
            obtain ⟨r8, h9, e10, e⟩ := bn_of e
            refine xB_callVv hF dX6_sheet_62 (t_X3_renew (isX3_sheet q7) e10) cw_X6_274 ((isX3_sheet q7).1) rfl rfl rfl rfl rfl ?_
            refine xB_iload_n hF dX6_sheet_65 rfl ?_
            exact xB_ireturn hF dX6_sheet_66 e
          · refine xB_ldcw hF dX6_sheet_50 kc_X6_278 ?_
            exact xB_ireturn hF dX6_sheet_53 e
        · refine xB_ldc hF dX6_sheet_43 kc_X6_85 ?_
          exact xB_ireturn hF dX6_sheet_45 e
def f_X3_hasPlace (w : Nat) (a1 : Int32) (h : xH) : Option (Int32 × xH) :=
    bn (f_X6_within a1 0 ((h w 2) - 1) h) fun r1 h2 => gb r1 (some (r1, h2))
set_option maxRecDepth 20000 in
set_option maxHeartbeats 2000000 in
theorem t_X3_hasPlace {l : Launch} {γ : xG} {w : Nat} {a1 : Int32} {h : xH} {r : Int32} {hr : xH} (hw : isX3 w) (e : f_X3_hasPlace w a1 h = some (r, hr)) : xCT l γ xSC yX3_hasPlace cX3_hasPlace 2 (some .boolean) 1 [.ref (γ.2.2.2 w), .int a1] h (some (.int r)) hr := by
  refine xCT.of (own := RX3) (L := [some (.ref (γ.2.2.2 w)), some (.int a1)]) (by decide) rfl rfl rfl (fun C hF => ?_)
  unfold f_X3_hasPlace at e
  refine xB_iload_n hF dX3_hasPlace_0 rfl ?_
  refine xB_iconst hF dX3_hasPlace_1 ki_0 ?_
  refine xB_aload_n hF dX3_hasPlace_2 rfl ?_
  refine xB_get hF dX3_hasPlace_3 fl_X3_19 hw.1 rfl rfl ?_
  refine xB_iconst hF dX3_hasPlace_6 ki_1 ?_
  refine xB_isub hF dX3_hasPlace_7 ?_
  obtain ⟨r1, h2, e3, e⟩ := bn_of e
  refine xB_callNi hF dX3_hasPlace_8 (t_X6_within e3) cw_X3_28 rfl rfl rfl rfl ?_
  exact xB_breturn hF dX3_hasPlace_11 e
def f_X6_mark_c93 (a1 : Int32) (a2 : Int32) (a3 : Int32) (v4 : Nat) (h : xH) : Option (Int32 × xH) :=
    gd a2 24 <| nm (xst h (v4 + 1) (Int32.toNatClampNeg a2) a3) fun h1 => some (1, h1)
set_option maxRecDepth 20000 in
set_option maxHeartbeats 2000000 in
theorem t_X6_mark_c93 {l : Launch} {γ : xG} {a1 : Int32} {a2 : Int32} {a3 : Int32} {r : Int32} {hr : xH} {C : xCx} (hF : xF C cX6_mark RX6 5 2 γ xSC (some (.int r)) hr l (some .int)) : ∀ (v4 : Nat) (hv4 : isX3 v4) (h : xH), f_X6_mark_c93 a1 a2 a3 v4 h = some (r, hr) → xB C h 93 [some (.ref (γ.2.2.2 0)), some (.int a1), some (.int a2), some (.int a3), some (.ref (γ.2.2.2 v4))] [] := by
  intro v4 hv4 h e
  unfold f_X6_mark_c93 at e
  refine xB_aload hF dX6_mark_93 rfl ?_
  refine xB_get hF dX6_mark_95 fl_X6_231 hv4.1 rfl rfl ?_
  refine xB_iload_n hF dX6_mark_98 rfl ?_
  refine xB_iload_n hF dX6_mark_99 rfl ?_
  refine xB_iast hF dX6_mark_100 hv4.2 e (fun e => ?_)
  refine xB_gen e (fun h1 e => ?_)
  refine xB_iconst hF dX6_mark_101 ki_1 ?_
  exact xB_ireturn hF dX6_mark_102 e
def f_X6_mark (a1 : Int32) (a2 : Int32) (a3 : Int32) (h : xH) : Option (Int32 × xH) :=
    bn (f_X6_isSheet a1 h) fun r1 h2 => if r1 = 0 then (some ((-1000000001), h2)) else (gd a1 4 <| if (h2 (60 + 2 * (Int32.toNatClampNeg a1)) 1) = (-1) then (some ((-1000000011), h2)) else (bn (f_X3_hasPlace (60 + 2 * (Int32.toNatClampNeg a1)) a2 h2) fun r5 h6 => if r5 = 0 then (some ((-1000000013), h6)) else (if (h6 (60 + 2 * (Int32.toNatClampNeg a1)) 1) = 0 then (if a3 = (-1000000005) then (some ((-1000000012), h6)) else (gd a2 24 <| nm (xst h6 ((60 + 2 * (Int32.toNatClampNeg a1)) + 1) (Int32.toNatClampNeg a2) ((Int32.toInt16 a3).toInt32)) fun h11 => some (1, h11))) else (if a3 = (-1000000005) then (f_X6_mark_c93 a1 a2 a3 (60 + 2 * (Int32.toNatClampNeg a1)) h6) else (bn (f_X6_within a3 (-99999) 99999 h6) fun r8 h9 => if r8 = 0 then (some ((-1000000001), h9)) else (f_X6_mark_c93 a1 a2 a3 (60 + 2 * (Int32.toNatClampNeg a1)) h9))))))
set_option maxRecDepth 20000 in
set_option maxHeartbeats 2000000 in
theorem t_X6_mark {l : Launch} {γ : xG} {a1 : Int32} {a2 : Int32} {a3 : Int32} {h : xH} {r : Int32} {hr : xH} (e : f_X6_mark a1 a2 a3 h = some (r, hr)) : xCT l γ xSC yX6_mark cX6_mark 5 (some .int) 2 [.ref (γ.2.2.2 0), .int a1, .int a2, .int a3] h (some (.int r)) hr := by
  refine xCT.of (own := RX6) (L := [some (.ref (γ.2.2.2 0)), some (.int a1), some (.int a2), some (.int a3), none]) (by decide) rfl rfl rfl (fun C hF => ?_)
  unfold f_X6_mark at e
  refine xB_iload_n hF dX6_mark_0 rfl ?_
  obtain ⟨r1, h2, e3, e⟩ := bn_of e
  refine xB_callSi hF dX6_mark_1 (t_X6_isSheet e3) cw_X6_215 rfl rfl rfl rfl ?_
  refine xB_if_ne (tgt := 10) hF dX6_mark_4 rfl e (fun _ e => ?_) (fun _ e => ?_)
  · refine xB_ldc hF dX6_mark_7 kc_X6_85 ?_
    exact xB_ireturn hF dX6_mark_9 e
  · refine xB_aload_n hF dX6_mark_10 rfl ?_
    refine xB_get hF dX6_mark_11 fl_X6_51 sC_0 rfl rfl ?_
    refine xB_iload_n hF dX6_mark_14 rfl ?_
    refine xB_aald hF dX6_mark_15 sC_59 rfl rfl e (fun q4 e => ?_)
    refine xB_astore (L' := [_, _, _, _, _]) hF dX6_mark_16 rfl rfl rfl ?_
    refine xB_aload hF dX6_mark_18 rfl ?_
    refine xB_get hF dX6_mark_20 fl_X6_218 ((isX3_sheet q4).1) rfl rfl ?_
    refine xB_iconst hF dX6_mark_23 ki_m1 ?_
    refine xB_icmp_ne (tgt := 30) hF dX6_mark_24 rfl e (fun _ e => ?_) (fun _ e => ?_)
    · refine xB_ldc hF dX6_mark_27 kc_X6_221 ?_
      exact xB_ireturn hF dX6_mark_29 e
    · refine xB_aload hF dX6_mark_30 rfl ?_
      refine xB_iload_n hF dX6_mark_32 rfl ?_
      obtain ⟨r5, h6, e7, e⟩ := bn_of e
      refine xB_callVi hF dX6_mark_33 (t_X3_hasPlace (isX3_sheet q4) e7) cw_X6_279 ((isX3_sheet q4).1) rfl rfl rfl rfl rfl ?_
      refine xB_if_ne (tgt := 43) hF dX6_mark_36 rfl e (fun _ e => ?_) (fun _ e => ?_)
      · refine xB_ldcw hF dX6_mark_39 kc_X6_282 ?_
        exact xB_ireturn hF dX6_mark_42 e
      · refine xB_aload hF dX6_mark_43 rfl ?_
        refine xB_get hF dX6_mark_45 fl_X6_218 ((isX3_sheet q4).1) rfl rfl ?_
        refine xB_if_ne (tgt := 71) hF dX6_mark_48 rfl e (fun _ e => ?_) (fun _ e => ?_)
        · refine xB_iload_n hF dX6_mark_51 rfl ?_
          refine xB_ldc hF dX6_mark_52 kc_X6_184 ?_
          refine xB_icmp_ne (tgt := 60) hF dX6_mark_54 rfl e (fun _ e => ?_) (fun _ e => ?_)
          · refine xB_ldc hF dX6_mark_57 kc_X6_127 ?_
            exact xB_ireturn hF dX6_mark_59 e
          · refine xB_aload hF dX6_mark_60 rfl ?_
            refine xB_get hF dX6_mark_62 fl_X6_231 ((isX3_sheet q4).1) rfl rfl ?_
            refine xB_iload_n hF dX6_mark_65 rfl ?_
            refine xB_iload_n hF dX6_mark_66 rfl ?_
            refine xB_i2s hF dX6_mark_67 ?_
            refine xB_iast hF dX6_mark_68 ((isX3_sheet q4).2) e (fun e => ?_)
            refine xB_gen e (fun h11 e => ?_)
            refine xB_iconst hF dX6_mark_69 ki_1 ?_
            exact xB_ireturn hF dX6_mark_70 e
        · refine xB_iload_n hF dX6_mark_71 rfl ?_
          refine xB_ldc hF dX6_mark_72 kc_X6_184 ?_
          refine xB_icmp_eq (tgt := 93) hF dX6_mark_74 rfl e (fun _ e => ?_) (fun _ e => ?_)
          · exact xB_l (t_X6_mark_c93 hF _ (isX3_sheet q4) _ e) (And.intro rfl (And.intro rfl (And.intro rfl (And.intro rfl (And.intro rfl (True.intro))))))
          · refine xB_iload_n hF dX6_mark_77 rfl ?_
            refine xB_ldcw hF dX6_mark_78 kc_X6_283 ?_
            refine xB_ldcw hF dX6_mark_81 kc_X6_284 ?_
            obtain ⟨r8, h9, e10, e⟩ := bn_of e
            refine xB_callSi hF dX6_mark_84 (t_X6_within e10) cw_X6_78 rfl rfl rfl rfl ?_
            refine xB_if_ne (tgt := 93) hF dX6_mark_87 rfl e (fun _ e => ?_) (fun _ e => ?_)
            · refine xB_ldc hF dX6_mark_90 kc_X6_85 ?_
              exact xB_ireturn hF dX6_mark_92 e
            · exact xB_l (t_X6_mark_c93 hF _ (isX3_sheet q4) _ e) (And.intro rfl (And.intro rfl (And.intro rfl (And.intro rfl (And.intro rfl (True.intro))))))
def f_X6_pour_c109 (k33 : Nat → Int32 → Int32 → xH → Option (Int32 × xH)) (a1 : Int32) (v2 : Nat) (v3 : Int32) (v4 : Int32) (h : xH) : Option (Int32 × xH) :=
    k33 v2 v3 (v4 + 1) h
set_option maxRecDepth 20000 in
set_option maxHeartbeats 2000000 in
theorem t_X6_pour_c109 {l : Launch} {γ : xG} {k33 : Nat → Int32 → Int32 → xH → Option (Int32 × xH)} {a1 : Int32} {r : Int32} {hr : xH} {C : xCx} (hF : xF C cX6_pour RX6 6 2 γ xSC (some (.int r)) hr l (some .int)) (hk33 : ∀ (v2 : Nat) (v3 : Int32) (v4 : Int32) (hv2 : isX3 v2) (h : xH), k33 v2 v3 v4 h = some (r, hr) → xB C h 33 [some (.ref (γ.2.2.2 0)), some (.int a1), some (.ref (γ.2.2.2 v2)), some (.int v3), some (.int v4), none] []) : ∀ (v2 : Nat) (v3 : Int32) (v4 : Int32) (hv2 : isX3 v2) (h : xH), f_X6_pour_c109 k33 a1 v2 v3 v4 h = some (r, hr) → xB C h 109 [some (.ref (γ.2.2.2 0)), some (.int a1), some (.ref (γ.2.2.2 v2)), some (.int v3), some (.int v4), none] [] := by
  intro v2 v3 v4 hv2 h e
  unfold f_X6_pour_c109 at e
  refine xB_iinc (L' := [_, _, _, _, _, _]) hF dX6_pour_109 rfl ki_1 rfl rfl rfl ?_
  refine xB_goto (tgt := 33) hF dX6_pour_112 rfl ?_
  exact xB_l (hk33 _ _ _ hv2 _ e) (And.intro rfl (And.intro rfl (And.intro rfl (And.intro rfl (And.intro rfl (True.intro))))))
def f_X6_pour_c95 (k33 : Nat → Int32 → Int32 → xH → Option (Int32 × xH)) (a1 : Int32) (v2 : Nat) (v4 : Int32) (v5 : Int32) (s0 : Int32) (s1 : Int32) (h : xH) : Option (Int32 × xH) :=
    gd v4 6 <| nm (xst h 31 (Int32.toNatClampNeg v4) v5) fun h1 => f_X6_pour_c109 k33 a1 v2 (s1 + s0) v4 h1
set_option maxRecDepth 20000 in
set_option maxHeartbeats 2000000 in
theorem t_X6_pour_c95 {l : Launch} {γ : xG} {k33 : Nat → Int32 → Int32 → xH → Option (Int32 × xH)} {a1 : Int32} {r : Int32} {hr : xH} {C : xCx} (hF : xF C cX6_pour RX6 6 2 γ xSC (some (.int r)) hr l (some .int)) (hk33 : ∀ (v2 : Nat) (v3 : Int32) (v4 : Int32) (hv2 : isX3 v2) (h : xH), k33 v2 v3 v4 h = some (r, hr) → xB C h 33 [some (.ref (γ.2.2.2 0)), some (.int a1), some (.ref (γ.2.2.2 v2)), some (.int v3), some (.int v4), none] []) : ∀ (v2 : Nat) (v4 : Int32) (v5 : Int32) (s0 : Int32) (s1 : Int32) (hv2 : isX3 v2) (h : xH), f_X6_pour_c95 k33 a1 v2 v4 v5 s0 s1 h = some (r, hr) → xB C h 95 [some (.ref (γ.2.2.2 0)), some (.int a1), some (.ref (γ.2.2.2 v2)), none, some (.int v4), some (.int v5)] [.int s0, .int s1] := by
  intro v2 v4 v5 s0 s1 hv2 h e
  unfold f_X6_pour_c95 at e
  refine xB_iadd hF dX6_pour_95 ?_
  refine xB_istore_n (L' := [_, _, _, _, _, _]) hF dX6_pour_96 rfl rfl rfl ?_
  refine xB_aload_n hF dX6_pour_97 rfl ?_
  refine xB_get hF dX6_pour_98 fl_X6_28 sC_0 rfl rfl ?_
  refine xB_get hF dX6_pour_101 fl_X6_132 isX5_24.1 rfl rfl ?_
  refine xB_iload hF dX6_pour_104 rfl ?_
  refine xB_iload hF dX6_pour_106 rfl ?_
  refine xB_iast hF dX6_pour_108 sC_31 e (fun e => ?_)
  refine xB_gen e (fun h1 e => ?_)
  exact xB_l (t_X6_pour_c109 hF hk33 _ _ _ hv2 _ e) (And.intro rfl (And.intro rfl (And.intro rfl (And.intro rfl (And.intro rfl (True.intro))))))
def f_X6_pour_c33 (a1 : Int32) : Nat → Nat → Int32 → Int32 → xH → Option (Int32 × xH)
  | 0, _, _, _, _ => none
  | n + 1, v2, v3, v4, h =>
    if 6 ≤ v4 then (some (v3, h)) else (if (h v2 2) ≤ v4 then (some (v3, h)) else (bn (f_X3_isNumber v2 v4 h) fun r1 h2 => if r1 = 0 then (f_X6_pour_c109 (f_X6_pour_c33 a1 n) a1 v2 v3 v4 h2) else (gd v4 24 <| bn (f_X6_held (h2 (v2 + 1) (Int32.toNatClampNeg v4)) 0 9999 h2) fun r4 h5 => gd v4 6 <| if r4 = (h5 31 (Int32.toNatClampNeg v4)) then (f_X6_pour_c95 (f_X6_pour_c33 a1 n) a1 v2 v4 r4 0 v3 h5) else (f_X6_pour_c95 (f_X6_pour_c33 a1 n) a1 v2 v4 r4 1 v3 h5))))
set_option maxRecDepth 20000 in
set_option maxHeartbeats 2000000 in
theorem t_X6_pour_c33 {l : Launch} {γ : xG} {a1 : Int32} {r : Int32} {hr : xH} {C : xCx} (hF : xF C cX6_pour RX6 6 2 γ xSC (some (.int r)) hr l (some .int)) : ∀ (n : Nat) (v2 : Nat) (v3 : Int32) (v4 : Int32) (hv2 : isX3 v2) (h : xH), f_X6_pour_c33 a1 n v2 v3 v4 h = some (r, hr) → xB C h 33 [some (.ref (γ.2.2.2 0)), some (.int a1), some (.ref (γ.2.2.2 v2)), some (.int v3), some (.int v4), none] [] := by
  intro n
  induction n with
  | zero => intro v2 v3 v4 hv2 h e; cases e
  | succ n ih =>
    intro v2 v3 v4 hv2 h e
    rw [f_X6_pour_c33] at e
    refine xB_iload hF dX6_pour_33 rfl ?_
    refine xB_bipush hF dX6_pour_35 kb_6 ?_
    refine xB_icmp_ge (tgt := 115) hF dX6_pour_37 rfl e (fun _ e => ?_) (fun _ e => ?_)
    · refine xB_iload_n hF dX6_pour_115 rfl ?_
      exact xB_ireturn hF dX6_pour_116 e
    · refine xB_iload hF dX6_pour_40 rfl ?_
      refine xB_aload_n hF dX6_pour_42 rfl ?_
      refine xB_get hF dX6_pour_43 fl_X6_225 hv2.1 rfl rfl ?_
      refine xB_icmp_ge (tgt := 115) hF dX6_pour_46 rfl e (fun _ e => ?_) (fun _ e => ?_)
      · refine xB_iload_n hF dX6_pour_115 rfl ?_
        exact xB_ireturn hF dX6_pour_116 e
      · refine xB_aload_n hF dX6_pour_49 rfl ?_
        refine xB_iload hF dX6_pour_50 rfl ?_
        obtain ⟨r1, h2, e3, e⟩ := bn_of e
        refine xB_callVi hF dX6_pour_52 (t_X3_isNumber hv2 e3) cw_X6_228 hv2.1 rfl rfl rfl rfl rfl ?_
        refine xB_if_eq (tgt := 109) hF dX6_pour_55 rfl e (fun _ e => ?_) (fun _ e => ?_)
        · exact xB_l (t_X6_pour_c109 hF ih _ _ _ hv2 _ e) (And.intro rfl (And.intro rfl (And.intro rfl (And.intro rfl (And.intro rfl (True.intro))))))
        · refine xB_aload_n hF dX6_pour_58 rfl ?_
          refine xB_get hF dX6_pour_59 fl_X6_231 hv2.1 rfl rfl ?_
          refine xB_iload hF dX6_pour_62 rfl ?_
          refine xB_iald hF dX6_pour_64 hv2.2 e (fun e => ?_)
          refine xB_iconst hF dX6_pour_65 ki_0 ?_
          refine xB_sipush hF dX6_pour_66 ks_9999 ?_
          obtain ⟨r4, h5, e6, e⟩ := bn_of e
          refine xB_callSi hF dX6_pour_69 (t_X6_held e6) cw_X6_285 rfl rfl rfl rfl ?_
          refine xB_istore (L' := [_, _, _, _, _, _]) hF dX6_pour_72 rfl rfl rfl ?_
          refine xB_iload_n hF dX6_pour_74 rfl ?_
          refine xB_iload hF dX6_pour_75 rfl ?_
          refine xB_aload_n hF dX6_pour_77 rfl ?_
          refine xB_get hF dX6_pour_78 fl_X6_28 sC_0 rfl rfl ?_
          refine xB_get hF dX6_pour_81 fl_X6_132 isX5_24.1 rfl rfl ?_
          refine xB_iload hF dX6_pour_84 rfl ?_
          refine xB_iald hF dX6_pour_86 sC_31 e (fun e => ?_)
          refine xB_icmp_ne (tgt := 94) hF dX6_pour_87 rfl e (fun _ e => ?_) (fun _ e => ?_)
          · refine xB_iconst hF dX6_pour_90 ki_0 ?_
            refine xB_goto (tgt := 95) hF dX6_pour_91 rfl ?_
            exact xB_l (t_X6_pour_c95 hF ih _ _ _ _ _ hv2 _ e) (And.intro rfl (And.intro rfl (And.intro rfl (And.intro rfl (And.intro rfl (True.intro))))))
          · refine xB_iconst hF dX6_pour_94 ki_1 ?_
            exact xB_l (t_X6_pour_c95 hF ih _ _ _ _ _ hv2 _ e) (And.intro rfl (And.intro rfl (And.intro rfl (And.intro rfl (And.intro rfl (True.intro))))))
def f_X6_pour (a1 : Int32) (h : xH) : Option (Int32 × xH) :=
    bn (f_X6_isSheet a1 h) fun r1 h2 => if r1 = 0 then (some ((-1000000001), h2)) else (gd a1 4 <| if (h2 (60 + 2 * (Int32.toNatClampNeg a1)) 1) = (-1) then (some ((-1000000011), h2)) else (f_X6_pour_c33 a1 xN (60 + 2 * (Int32.toNatClampNeg a1)) 0 0 h2))
set_option maxRecDepth 20000 in
set_option maxHeartbeats 2000000 in
theorem t_X6_pour {l : Launch} {γ : xG} {a1 : Int32} {h : xH} {r : Int32} {hr : xH} (e : f_X6_pour a1 h = some (r, hr)) : xCT l γ xSC yX6_pour cX6_pour 6 (some .int) 2 [.ref (γ.2.2.2 0), .int a1] h (some (.int r)) hr := by
  refine xCT.of (own := RX6) (L := [some (.ref (γ.2.2.2 0)), some (.int a1), none, none, none, none]) (by decide) rfl rfl rfl (fun C hF => ?_)
  unfold f_X6_pour at e
  refine xB_iload_n hF dX6_pour_0 rfl ?_
  obtain ⟨r1, h2, e3, e⟩ := bn_of e
  refine xB_callSi hF dX6_pour_1 (t_X6_isSheet e3) cw_X6_215 rfl rfl rfl rfl ?_
  refine xB_if_ne (tgt := 10) hF dX6_pour_4 rfl e (fun _ e => ?_) (fun _ e => ?_)
  · refine xB_ldc hF dX6_pour_7 kc_X6_85 ?_
    exact xB_ireturn hF dX6_pour_9 e
  · refine xB_aload_n hF dX6_pour_10 rfl ?_
    refine xB_get hF dX6_pour_11 fl_X6_51 sC_0 rfl rfl ?_
    refine xB_iload_n hF dX6_pour_14 rfl ?_
    refine xB_aald hF dX6_pour_15 sC_59 rfl rfl e (fun q4 e => ?_)
    refine xB_astore_n (L' := [_, _, _, _, _, _]) hF dX6_pour_16 rfl rfl rfl ?_
    refine xB_aload_n hF dX6_pour_17 rfl ?_
    refine xB_get hF dX6_pour_18 fl_X6_218 ((isX3_sheet q4).1) rfl rfl ?_
    refine xB_iconst hF dX6_pour_21 ki_m1 ?_
    refine xB_icmp_ne (tgt := 28) hF dX6_pour_22 rfl e (fun _ e => ?_) (fun _ e => ?_)
    · refine xB_ldc hF dX6_pour_25 kc_X6_221 ?_
      exact xB_ireturn hF dX6_pour_27 e
    · refine xB_iconst hF dX6_pour_28 ki_0 ?_
      refine xB_istore_n (L' := [_, _, _, _, _, _]) hF dX6_pour_29 rfl rfl rfl ?_
      refine xB_iconst hF dX6_pour_30 ki_0 ?_
      refine xB_istore (L' := [_, _, _, _, _, _]) hF dX6_pour_31 rfl rfl rfl ?_
      exact xB_l (t_X6_pour_c33 hF _ _ _ _ (isX3_sheet q4) _ e) (And.intro rfl (And.intro rfl (And.intro rfl (And.intro rfl (And.intro rfl (True.intro))))))
def f_X6_reads_c74 (k30 : Nat → Int32 → xH → Option (Int32 × xH)) (a1 : Int32) (v2 : Nat) (v3 : Int32) (h : xH) : Option (Int32 × xH) :=
    k30 v2 (v3 + 1) h
set_option maxRecDepth 20000 in
set_option maxHeartbeats 2000000 in
theorem t_X6_reads_c74 {l : Launch} {γ : xG} {k30 : Nat → Int32 → xH → Option (Int32 × xH)} {a1 : Int32} {r : Int32} {hr : xH} {C : xCx} (hF : xF C cX6_reads RX6 4 2 γ xSC (some (.int r)) hr l (some .int)) (hk30 : ∀ (v2 : Nat) (v3 : Int32) (hv2 : isX3 v2) (h : xH), k30 v2 v3 h = some (r, hr) → xB C h 30 [some (.ref (γ.2.2.2 0)), some (.int a1), some (.ref (γ.2.2.2 v2)), some (.int v3)] []) : ∀ (v2 : Nat) (v3 : Int32) (hv2 : isX3 v2) (h : xH), f_X6_reads_c74 k30 a1 v2 v3 h = some (r, hr) → xB C h 74 [some (.ref (γ.2.2.2 0)), some (.int a1), some (.ref (γ.2.2.2 v2)), some (.int v3)] [] := by
  intro v2 v3 hv2 h e
  unfold f_X6_reads_c74 at e
  refine xB_iinc (L' := [_, _, _, _]) hF dX6_reads_74 rfl ki_1 rfl rfl rfl ?_
  refine xB_goto (tgt := 30) hF dX6_reads_77 rfl ?_
  exact xB_l (hk30 _ _ hv2 _ e) (And.intro rfl (And.intro rfl (And.intro rfl (And.intro rfl (True.intro)))))
def f_X6_reads_c30 (a1 : Int32) : Nat → Nat → Int32 → xH → Option (Int32 × xH)
  | 0, _, _, _ => none
  | n + 1, v2, v3, h =>
    if (h v2 2) ≤ v3 then (some ((-1000000005), h)) else (bn (f_X3_isNumber v2 v3 h) fun r1 h2 => if r1 = 0 then (f_X6_reads_c74 (f_X6_reads_c30 a1 n) a1 v2 v3 h2) else (bn (f_X6_isDay v3 h2) fun r4 h5 => if r4 = 0 then (some (v3, h5)) else (gd v3 24 <| gd v3 10 <| if (h5 (v2 + 1) (Int32.toNatClampNeg v3)) = (h5 28 (Int32.toNatClampNeg v3)) then (f_X6_reads_c74 (f_X6_reads_c30 a1 n) a1 v2 v3 h5) else (some (v3, h5)))))
set_option maxRecDepth 20000 in
set_option maxHeartbeats 2000000 in
theorem t_X6_reads_c30 {l : Launch} {γ : xG} {a1 : Int32} {r : Int32} {hr : xH} {C : xCx} (hF : xF C cX6_reads RX6 4 2 γ xSC (some (.int r)) hr l (some .int)) : ∀ (n : Nat) (v2 : Nat) (v3 : Int32) (hv2 : isX3 v2) (h : xH), f_X6_reads_c30 a1 n v2 v3 h = some (r, hr) → xB C h 30 [some (.ref (γ.2.2.2 0)), some (.int a1), some (.ref (γ.2.2.2 v2)), some (.int v3)] [] := by
  intro n
  induction n with
  | zero => intro v2 v3 hv2 h e; cases e
  | succ n ih =>
    intro v2 v3 hv2 h e
    rw [f_X6_reads_c30] at e
    refine xB_iload_n hF dX6_reads_30 rfl ?_
    refine xB_aload_n hF dX6_reads_31 rfl ?_
    refine xB_get hF dX6_reads_32 fl_X6_225 hv2.1 rfl rfl ?_
    refine xB_icmp_ge (tgt := 80) hF dX6_reads_35 rfl e (fun _ e => ?_) (fun _ e => ?_)
    · refine xB_ldc hF dX6_reads_80 kc_X6_184 ?_
      exact xB_ireturn hF dX6_reads_82 e
    · refine xB_aload_n hF dX6_reads_38 rfl ?_
      refine xB_iload_n hF dX6_reads_39 rfl ?_
      obtain ⟨r1, h2, e3, e⟩ := bn_of e
      refine xB_callVi hF dX6_reads_40 (t_X3_isNumber hv2 e3) cw_X6_228 hv2.1 rfl rfl rfl rfl rfl ?_
      refine xB_if_eq (tgt := 74) hF dX6_reads_43 rfl e (fun _ e => ?_) (fun _ e => ?_)
      · exact xB_l (t_X6_reads_c74 hF ih _ _ hv2 _ e) (And.intro rfl (And.intro rfl (And.intro rfl (And.intro rfl (True.intro)))))
      · refine xB_aload_n hF dX6_reads_46 rfl ?_
        refine xB_iload_n hF dX6_reads_47 rfl ?_
        obtain ⟨r4, h5, e6, e⟩ := bn_of e
        refine xB_callVi hF dX6_reads_48 (t_X6_isDay e6) cw_X6_94 sC_0 rfl rfl rfl rfl rfl ?_
        refine xB_if_eq (tgt := 72) hF dX6_reads_51 rfl e (fun _ e => ?_) (fun _ e => ?_)
        · refine xB_iload_n hF dX6_reads_72 rfl ?_
          exact xB_ireturn hF dX6_reads_73 e
        · refine xB_aload_n hF dX6_reads_54 rfl ?_
          refine xB_get hF dX6_reads_55 fl_X6_231 hv2.1 rfl rfl ?_
          refine xB_iload_n hF dX6_reads_58 rfl ?_
          refine xB_iald hF dX6_reads_59 hv2.2 e (fun e => ?_)
          refine xB_aload_n hF dX6_reads_60 rfl ?_
          refine xB_get hF dX6_reads_61 fl_X6_28 sC_0 rfl rfl ?_
          refine xB_get hF dX6_reads_64 fl_X6_106 isX5_24.1 rfl rfl ?_
          refine xB_iload_n hF dX6_reads_67 rfl ?_
          refine xB_iald hF dX6_reads_68 sC_28 e (fun e => ?_)
          refine xB_icmp_eq (tgt := 74) hF dX6_reads_69 rfl e (fun _ e => ?_) (fun _ e => ?_)
          · exact xB_l (t_X6_reads_c74 hF ih _ _ hv2 _ e) (And.intro rfl (And.intro rfl (And.intro rfl (And.intro rfl (True.intro)))))
          · refine xB_iload_n hF dX6_reads_72 rfl ?_
            exact xB_ireturn hF dX6_reads_73 e
def f_X6_reads (a1 : Int32) (h : xH) : Option (Int32 × xH) :=
    bn (f_X6_isSheet a1 h) fun r1 h2 => if r1 = 0 then (some ((-1000000001), h2)) else (gd a1 4 <| if (h2 (60 + 2 * (Int32.toNatClampNeg a1)) 1) = (-1) then (some ((-1000000011), h2)) else (f_X6_reads_c30 a1 xN (60 + 2 * (Int32.toNatClampNeg a1)) 0 h2))
set_option maxRecDepth 20000 in
set_option maxHeartbeats 2000000 in
theorem t_X6_reads {l : Launch} {γ : xG} {a1 : Int32} {h : xH} {r : Int32} {hr : xH} (e : f_X6_reads a1 h = some (r, hr)) : xCT l γ xSC yX6_reads cX6_reads 4 (some .int) 2 [.ref (γ.2.2.2 0), .int a1] h (some (.int r)) hr := by
  refine xCT.of (own := RX6) (L := [some (.ref (γ.2.2.2 0)), some (.int a1), none, none]) (by decide) rfl rfl rfl (fun C hF => ?_)
  unfold f_X6_reads at e
  refine xB_iload_n hF dX6_reads_0 rfl ?_
  obtain ⟨r1, h2, e3, e⟩ := bn_of e
  refine xB_callSi hF dX6_reads_1 (t_X6_isSheet e3) cw_X6_215 rfl rfl rfl rfl ?_
  refine xB_if_ne (tgt := 10) hF dX6_reads_4 rfl e (fun _ e => ?_) (fun _ e => ?_)
  · refine xB_ldc hF dX6_reads_7 kc_X6_85 ?_
    exact xB_ireturn hF dX6_reads_9 e
  · refine xB_aload_n hF dX6_reads_10 rfl ?_
    refine xB_get hF dX6_reads_11 fl_X6_51 sC_0 rfl rfl ?_
    refine xB_iload_n hF dX6_reads_14 rfl ?_
    refine xB_aald hF dX6_reads_15 sC_59 rfl rfl e (fun q4 e => ?_)
    refine xB_astore_n (L' := [_, _, _, _]) hF dX6_reads_16 rfl rfl rfl ?_
    refine xB_aload_n hF dX6_reads_17 rfl ?_
    refine xB_get hF dX6_reads_18 fl_X6_218 ((isX3_sheet q4).1) rfl rfl ?_
    refine xB_iconst hF dX6_reads_21 ki_m1 ?_
    refine xB_icmp_ne (tgt := 28) hF dX6_reads_22 rfl e (fun _ e => ?_) (fun _ e => ?_)
    · refine xB_ldc hF dX6_reads_25 kc_X6_221 ?_
      exact xB_ireturn hF dX6_reads_27 e
    · refine xB_iconst hF dX6_reads_28 ki_0 ?_
      refine xB_istore_n (L' := [_, _, _, _]) hF dX6_reads_29 rfl rfl rfl ?_
      exact xB_l (t_X6_reads_c30 hF _ _ _ (isX3_sheet q4) _ e) (And.intro rfl (And.intro rfl (And.intro rfl (And.intro rfl (True.intro)))))
def f_X3_hasRun (w : Nat) (a1 : Int32) (a2 : Int32) (h : xH) : Option (Int32 × xH) :=
    bn (f_X6_within a2 0 (h w 2) h) fun r1 h2 => if r1 = 0 then (some (0, h2)) else (bn (f_X6_within a1 0 ((h2 w 2) - a2) h2) fun r4 h5 => if r4 = 0 then (some (0, h5)) else (some (1, h5)))
set_option maxRecDepth 20000 in
set_option maxHeartbeats 2000000 in
theorem t_X3_hasRun {l : Launch} {γ : xG} {w : Nat} {a1 : Int32} {a2 : Int32} {h : xH} {r : Int32} {hr : xH} (hw : isX3 w) (e : f_X3_hasRun w a1 a2 h = some (r, hr)) : xCT l γ xSC yX3_hasRun cX3_hasRun 3 (some .boolean) 1 [.ref (γ.2.2.2 w), .int a1, .int a2] h (some (.int r)) hr := by
  refine xCT.of (own := RX3) (L := [some (.ref (γ.2.2.2 w)), some (.int a1), some (.int a2)]) (by decide) rfl rfl rfl (fun C hF => ?_)
  unfold f_X3_hasRun at e
  refine xB_iload_n hF dX3_hasRun_0 rfl ?_
  refine xB_iconst hF dX3_hasRun_1 ki_0 ?_
  refine xB_aload_n hF dX3_hasRun_2 rfl ?_
  refine xB_get hF dX3_hasRun_3 fl_X3_19 hw.1 rfl rfl ?_
  obtain ⟨r1, h2, e3, e⟩ := bn_of e
  refine xB_callNi hF dX3_hasRun_6 (t_X6_within e3) cw_X3_28 rfl rfl rfl rfl ?_
  refine xB_if_eq (tgt := 30) hF dX3_hasRun_9 rfl e (fun _ e => ?_) (fun _ e => ?_)
  · refine xB_iconst hF dX3_hasRun_30 ki_0 ?_
    exact xB_zreturn hF dX3_hasRun_31 rfl e
  · refine xB_iload_n hF dX3_hasRun_12 rfl ?_
    refine xB_iconst hF dX3_hasRun_13 ki_0 ?_
    refine xB_aload_n hF dX3_hasRun_14 rfl ?_
    refine xB_get hF dX3_hasRun_15 fl_X3_19 hw.1 rfl rfl ?_
    refine xB_iload_n hF dX3_hasRun_18 rfl ?_
    refine xB_isub hF dX3_hasRun_19 ?_
    obtain ⟨r4, h5, e6, e⟩ := bn_of e
    refine xB_callNi hF dX3_hasRun_20 (t_X6_within e6) cw_X3_28 rfl rfl rfl rfl ?_
    refine xB_if_eq (tgt := 30) hF dX3_hasRun_23 rfl e (fun _ e => ?_) (fun _ e => ?_)
    · refine xB_iconst hF dX3_hasRun_30 ki_0 ?_
      exact xB_zreturn hF dX3_hasRun_31 rfl e
    · refine xB_iconst hF dX3_hasRun_26 ki_1 ?_
      refine xB_goto (tgt := 31) hF dX3_hasRun_27 rfl ?_
      exact xB_zreturn hF dX3_hasRun_31 rfl e
def f_X6_copy (a1 : Int32) (a2 : Int32) (a3 : Int32) (a4 : Int32) (a5 : Int32) (h : xH) : Option (Int32 × xH) :=
    bn (f_X6_isSheet a1 h) fun r1 h2 => if r1 = 0 then (some ((-1000000001), h2)) else (bn (f_X6_isSheet a3 h2) fun r4 h5 => if r4 = 0 then (some ((-1000000001), h5)) else (gd a1 4 <| gd a3 4 <| if (h5 (60 + 2 * (Int32.toNatClampNeg a1)) 1) = (-1) then (some ((-1000000011), h5)) else (if (h5 (60 + 2 * (Int32.toNatClampNeg a3)) 1) = (-1) then (some ((-1000000011), h5)) else (if (h5 (60 + 2 * (Int32.toNatClampNeg a1)) 1) = (h5 (60 + 2 * (Int32.toNatClampNeg a3)) 1) then (bn (f_X3_hasRun (60 + 2 * (Int32.toNatClampNeg a1)) a2 a5 h5) fun r9 h10 => if r9 = 0 then (some ((-1000000013), h10)) else (bn (f_X3_hasRun (60 + 2 * (Int32.toNatClampNeg a3)) a4 a5 h10) fun r12 h13 => if r12 = 0 then (some ((-1000000013), h13)) else (gc a2 a4 a5 24 24 <| nm (xpt h13 ((60 + 2 * (Int32.toNatClampNeg a3)) + 1) (va_cpy (h13 ((60 + 2 * (Int32.toNatClampNeg a1)) + 1)) (h13 ((60 + 2 * (Int32.toNatClampNeg a3)) + 1)) (Int32.toNatClampNeg a2) (Int32.toNatClampNeg a4) (Int32.toNatClampNeg a5))) fun h15 => some (a5, h15)))) else (some ((-1000000012), h5))))))
set_option maxRecDepth 20000 in
set_option maxHeartbeats 2000000 in
theorem t_X6_copy {l : Launch} {γ : xG} {a1 : Int32} {a2 : Int32} {a3 : Int32} {a4 : Int32} {a5 : Int32} {h : xH} {r : Int32} {hr : xH} (e : f_X6_copy a1 a2 a3 a4 a5 h = some (r, hr)) : xCT l γ xSC yX6_copy cX6_copy 8 (some .int) 2 [.ref (γ.2.2.2 0), .int a1, .int a2, .int a3, .int a4, .int a5] h (some (.int r)) hr := by
  refine xCT.of (own := RX6) (L := [some (.ref (γ.2.2.2 0)), some (.int a1), some (.int a2), some (.int a3), some (.int a4), some (.int a5), none, none]) (by decide) rfl rfl rfl (fun C hF => ?_)
  unfold f_X6_copy at e
  refine xB_iload_n hF dX6_copy_0 rfl ?_
  obtain ⟨r1, h2, e3, e⟩ := bn_of e
  refine xB_callSi hF dX6_copy_1 (t_X6_isSheet e3) cw_X6_215 rfl rfl rfl rfl ?_
  refine xB_if_eq (tgt := 14) hF dX6_copy_4 rfl e (fun _ e => ?_) (fun _ e => ?_)
  · refine xB_ldc hF dX6_copy_14 kc_X6_85 ?_
    exact xB_ireturn hF dX6_copy_16 e
  · refine xB_iload_n hF dX6_copy_7 rfl ?_
    obtain ⟨r4, h5, e6, e⟩ := bn_of e
    refine xB_callSi hF dX6_copy_8 (t_X6_isSheet e6) cw_X6_215 rfl rfl rfl rfl ?_
    refine xB_if_ne (tgt := 17) hF dX6_copy_11 rfl e (fun _ e => ?_) (fun _ e => ?_)
    · refine xB_ldc hF dX6_copy_14 kc_X6_85 ?_
      exact xB_ireturn hF dX6_copy_16 e
    · refine xB_aload_n hF dX6_copy_17 rfl ?_
      refine xB_get hF dX6_copy_18 fl_X6_51 sC_0 rfl rfl ?_
      refine xB_iload_n hF dX6_copy_21 rfl ?_
      refine xB_aald hF dX6_copy_22 sC_59 rfl rfl e (fun q7 e => ?_)
      refine xB_astore (L' := [_, _, _, _, _, _, _, _]) hF dX6_copy_23 rfl rfl rfl ?_
      refine xB_aload_n hF dX6_copy_25 rfl ?_
      refine xB_get hF dX6_copy_26 fl_X6_51 sC_0 rfl rfl ?_
      refine xB_iload_n hF dX6_copy_29 rfl ?_
      refine xB_aald hF dX6_copy_30 sC_59 rfl rfl e (fun q8 e => ?_)
      refine xB_astore (L' := [_, _, _, _, _, _, _, _]) hF dX6_copy_31 rfl rfl rfl ?_
      refine xB_aload hF dX6_copy_33 rfl ?_
      refine xB_get hF dX6_copy_35 fl_X6_218 ((isX3_sheet q7).1) rfl rfl ?_
      refine xB_iconst hF dX6_copy_38 ki_m1 ?_
      refine xB_icmp_eq (tgt := 51) hF dX6_copy_39 rfl e (fun _ e => ?_) (fun _ e => ?_)
      · refine xB_ldc hF dX6_copy_51 kc_X6_221 ?_
        exact xB_ireturn hF dX6_copy_53 e
      · refine xB_aload hF dX6_copy_42 rfl ?_
        refine xB_get hF dX6_copy_44 fl_X6_218 ((isX3_sheet q8).1) rfl rfl ?_
        refine xB_iconst hF dX6_copy_47 ki_m1 ?_
        refine xB_icmp_ne (tgt := 54) hF dX6_copy_48 rfl e (fun _ e => ?_) (fun _ e => ?_)
        · refine xB_ldc hF dX6_copy_51 kc_X6_221 ?_
          exact xB_ireturn hF dX6_copy_53 e
        · refine xB_aload hF dX6_copy_54 rfl ?_
          refine xB_get hF dX6_copy_56 fl_X6_218 ((isX3_sheet q7).1) rfl rfl ?_
          refine xB_aload hF dX6_copy_59 rfl ?_
          refine xB_get hF dX6_copy_61 fl_X6_218 ((isX3_sheet q8).1) rfl rfl ?_
          refine xB_icmp_eq (tgt := 70) hF dX6_copy_64 rfl e (fun _ e => ?_) (fun _ e => ?_)
          · refine xB_aload hF dX6_copy_70 rfl ?_
            refine xB_iload_n hF dX6_copy_72 rfl ?_
            refine xB_iload hF dX6_copy_73 rfl ?_
            obtain ⟨r9, h10, e11, e⟩ := bn_of e
            refine xB_callVi hF dX6_copy_75 (t_X3_hasRun (isX3_sheet q7) e11) cw_X6_288 ((isX3_sheet q7).1) rfl rfl rfl rfl rfl ?_
            refine xB_if_eq (tgt := 93) hF dX6_copy_78 rfl e (fun _ e => ?_) (fun _ e => ?_)
            · refine xB_ldcw hF dX6_copy_93 kc_X6_282 ?_
              exact xB_ireturn hF dX6_copy_96 e
            · refine xB_aload hF dX6_copy_81 rfl ?_
              refine xB_iload hF dX6_copy_83 rfl ?_
              refine xB_iload hF dX6_copy_85 rfl ?_
              obtain ⟨r12, h13, e14, e⟩ := bn_of e
              refine xB_callVi hF dX6_copy_87 (t_X3_hasRun (isX3_sheet q8) e14) cw_X6_288 ((isX3_sheet q8).1) rfl rfl rfl rfl rfl ?_
              refine xB_if_ne (tgt := 97) hF dX6_copy_90 rfl e (fun _ e => ?_) (fun _ e => ?_)
              · refine xB_ldcw hF dX6_copy_93 kc_X6_282 ?_
                exact xB_ireturn hF dX6_copy_96 e
              · refine xB_aload hF dX6_copy_97 rfl ?_
                refine xB_get hF dX6_copy_99 fl_X6_231 ((isX3_sheet q7).1) rfl rfl ?_
                refine xB_iload_n hF dX6_copy_102 rfl ?_
                refine xB_aload hF dX6_copy_103 rfl ?_
                refine xB_get hF dX6_copy_105 fl_X6_231 ((isX3_sheet q8).1) rfl rfl ?_
                refine xB_iload hF dX6_copy_108 rfl ?_
                refine xB_iload hF dX6_copy_110 rfl ?_
                refine xB_copy hF dX6_copy_112 cl_X6_291 cw_copy ((isX3_sheet q7).2) ((isX3_sheet q8).2) rfl rfl e (fun e => ?_)
                refine xB_gen e (fun h15 e => ?_)
                refine xB_iload hF dX6_copy_115 rfl ?_
                exact xB_ireturn hF dX6_copy_117 e
          · refine xB_ldc hF dX6_copy_67 kc_X6_127 ?_
            exact xB_ireturn hF dX6_copy_69 e
def f_X3_become (w : Nat) (a1 : Nat) (h : xH) : Option (Int32 × xH) :=
    nm (xst h w 1 (h a1 1)) fun h1 => nm (xst h1 w 2 (h1 a1 2)) fun h2 => gc 0 0 24 24 24 <| nm (xpt h2 (w + 1) (va_cpy (h2 (a1 + 1)) (h2 (w + 1)) (Int32.toNatClampNeg 0) (Int32.toNatClampNeg 0) (Int32.toNatClampNeg 24))) fun h3 => some (0, h3)
set_option maxRecDepth 20000 in
set_option maxHeartbeats 2000000 in
theorem t_X3_become {l : Launch} {γ : xG} {w : Nat} {a1 : Nat} {h : xH} {r : Int32} {hr : xH} (hw : isX3 w) (ha1 : isX3 a1) (e : f_X3_become w a1 h = some (r, hr)) : xCT l γ xSC yX3_become cX3_become 2 none 1 [.ref (γ.2.2.2 w), .ref (γ.2.2.2 a1)] h none hr := by
  refine xCT.of (own := RX3) (L := [some (.ref (γ.2.2.2 w)), some (.ref (γ.2.2.2 a1))]) (by decide) rfl rfl rfl (fun C hF => ?_)
  unfold f_X3_become at e
  refine xB_aload_n hF dX3_become_0 rfl ?_
  refine xB_aload_n hF dX3_become_1 rfl ?_
  refine xB_get hF dX3_become_2 fl_X3_15 ha1.1 rfl rfl ?_
  refine xB_put hF dX3_become_5 fp_X3_15 hw.1 rfl rfl rfl rfl rfl ?_
  refine xB_gen e (fun h1 e => ?_)
  refine xB_aload_n hF dX3_become_8 rfl ?_
  refine xB_aload_n hF dX3_become_9 rfl ?_
  refine xB_get hF dX3_become_10 fl_X3_19 ha1.1 rfl rfl ?_
  refine xB_put hF dX3_become_13 fp_X3_19 hw.1 rfl rfl rfl rfl rfl ?_
  refine xB_gen e (fun h2 e => ?_)
  refine xB_aload_n hF dX3_become_16 rfl ?_
  refine xB_get hF dX3_become_17 fl_X3_9 ha1.1 rfl rfl ?_
  refine xB_iconst hF dX3_become_20 ki_0 ?_
  refine xB_aload_n hF dX3_become_21 rfl ?_
  refine xB_get hF dX3_become_22 fl_X3_9 hw.1 rfl rfl ?_
  refine xB_iconst hF dX3_become_25 ki_0 ?_
  refine xB_bipush hF dX3_become_26 kb_24 ?_
  refine xB_copy hF dX3_become_28 cl_X3_22 cw_copy ha1.2 hw.2 rfl rfl e (fun e => ?_)
  refine xB_gen e (fun h3 e => ?_)
  exact xB_vreturn hF dX3_become_31 e
def f_X6_isSlot (a0 : Int32) (h : xH) : Option (Int32 × xH) :=
    bn (f_X6_within a0 0 4 h) fun r1 h2 => gb r1 (some (r1, h2))
set_option maxRecDepth 20000 in
set_option maxHeartbeats 2000000 in
theorem t_X6_isSlot {l : Launch} {γ : xG} {a0 : Int32} {h : xH} {r : Int32} {hr : xH} (e : f_X6_isSlot a0 h = some (r, hr)) : xCT l γ xSC yX6_isSlot cX6_isSlot 1 (some .boolean) 1 [.int a0] h (some (.int r)) hr := by
  refine xCT.of (own := RX6) (L := [some (.int a0)]) (by decide) rfl rfl rfl (fun C hF => ?_)
  unfold f_X6_isSlot at e
  refine xB_iload_n hF dX6_isSlot_0 rfl ?_
  refine xB_iconst hF dX6_isSlot_1 ki_0 ?_
  refine xB_iconst hF dX6_isSlot_2 ki_4 ?_
  obtain ⟨r1, h2, e3, e⟩ := bn_of e
  refine xB_callSi hF dX6_isSlot_3 (t_X6_within e3) cw_X6_78 rfl rfl rfl rfl ?_
  exact xB_breturn hF dX6_isSlot_6 e
def f_X6_lay_c68 (a1 : Int32) (a2 : Int32) (a3 : Int32) (h : xH) : Option (Int32 × xH) :=
    gd a1 5 <| nm (h (69 + 3 * (Int32.toNatClampNeg a1)) 1) fun x2 => nm (xst h (69 + 3 * (Int32.toNatClampNeg a1)) 1 a2) fun h3 => if a2 = 1 then (gd a3 10 <| nm (xst h3 (69 + 3 * (Int32.toNatClampNeg a1)) 2 (h3 25 (Int32.toNatClampNeg a3))) fun h9 => gd a3 10 <| nm (xst h9 (69 + 3 * (Int32.toNatClampNeg a1)) 3 (h9 26 (Int32.toNatClampNeg a3))) fun h10 => some (x2, h10)) else (if a2 = 2 then (gd a3 4 <| bn (f_X3_become ((69 + 3 * (Int32.toNatClampNeg a1)) + 1) (60 + 2 * (Int32.toNatClampNeg a3)) h3) fun r6 h7 => some (x2, h7)) else (nm (xst h3 (69 + 3 * (Int32.toNatClampNeg a1)) 4 a3) fun h4 => some (x2, h4)))
set_option maxRecDepth 20000 in
set_option maxHeartbeats 2000000 in
theorem t_X6_lay_c68 {l : Launch} {γ : xG} {a1 : Int32} {a2 : Int32} {a3 : Int32} {r : Int32} {hr : xH} {C : xCx} (hF : xF C cX6_lay RX6 6 2 γ xSC (some (.int r)) hr l (some .int)) : ∀ (h : xH), f_X6_lay_c68 a1 a2 a3 h = some (r, hr) → xB C h 68 [some (.ref (γ.2.2.2 0)), some (.int a1), some (.int a2), some (.int a3), none, none] [] := by
  intro h e
  unfold f_X6_lay_c68 at e
  refine xB_aload_n hF dX6_lay_68 rfl ?_
  refine xB_get hF dX6_lay_69 fl_X6_58 sC_0 rfl rfl ?_
  refine xB_iload_n hF dX6_lay_72 rfl ?_
  refine xB_aald hF dX6_lay_73 sC_68 rfl rfl e (fun q1 e => ?_)
  refine xB_astore (L' := [_, _, _, _, _, _]) hF dX6_lay_74 rfl rfl rfl ?_
  refine xB_aload hF dX6_lay_76 rfl ?_
  refine xB_get hF dX6_lay_78 fl_X6_300 ((isX4_slot q1).1) rfl rfl ?_
  refine xB_istore (L' := [_, _, _, _, _, _]) hF dX6_lay_81 rfl rfl rfl ?_
  replace e := nm_of e
  refine xB_aload hF dX6_lay_83 rfl ?_
  refine xB_iload_n hF dX6_lay_85 rfl ?_
  refine xB_put hF dX6_lay_86 fp_X6_300 ((isX4_slot q1).1) rfl rfl rfl rfl rfl ?_
  refine xB_gen e (fun h3 e => ?_)
  refine xB_iload_n hF dX6_lay_89 rfl ?_
  refine xB_iconst hF dX6_lay_90 ki_1 ?_
  refine xB_icmp_ne (tgt := 125) hF dX6_lay_91 rfl e (fun _ e => ?_) (fun _ e => ?_)
  · refine xB_aload hF dX6_lay_94 rfl ?_
    refine xB_aload_n hF dX6_lay_96 rfl ?_
    refine xB_get hF dX6_lay_97 fl_X6_28 sC_0 rfl rfl ?_
    refine xB_get hF dX6_lay_100 fl_X6_97 isX5_24.1 rfl rfl ?_
    refine xB_iload_n hF dX6_lay_103 rfl ?_
    refine xB_iald hF dX6_lay_104 sC_25 e (fun e => ?_)
    refine xB_put hF dX6_lay_105 fp_X6_303 ((isX4_slot q1).1) rfl rfl rfl rfl rfl ?_
    refine xB_gen e (fun h9 e => ?_)
    refine xB_aload hF dX6_lay_108 rfl ?_
    refine xB_aload_n hF dX6_lay_110 rfl ?_
    refine xB_get hF dX6_lay_111 fl_X6_28 sC_0 rfl rfl ?_
    refine xB_get hF dX6_lay_114 fl_X6_100 isX5_24.1 rfl rfl ?_
    refine xB_iload_n hF dX6_lay_117 rfl ?_
    refine xB_iald hF dX6_lay_118 sC_26 e (fun e => ?_)
    refine xB_put hF dX6_lay_119 fp_X6_305 ((isX4_slot q1).1) rfl rfl rfl rfl rfl ?_
    refine xB_gen e (fun h10 e => ?_)
    refine xB_goto (tgt := 153) hF dX6_lay_122 rfl ?_
    refine xB_iload hF dX6_lay_153 rfl ?_
    exact xB_ireturn hF dX6_lay_155 e
  · refine xB_iload_n hF dX6_lay_125 rfl ?_
    refine xB_iconst hF dX6_lay_126 ki_2 ?_
    refine xB_icmp_ne (tgt := 147) hF dX6_lay_127 rfl e (fun _ e => ?_) (fun _ e => ?_)
    · refine xB_aload hF dX6_lay_130 rfl ?_
      refine xB_get hF dX6_lay_132 fl_X6_307 ((isX4_slot q1).1) rfl rfl ?_
      refine xB_aload_n hF dX6_lay_135 rfl ?_
      refine xB_get hF dX6_lay_136 fl_X6_51 sC_0 rfl rfl ?_
      refine xB_iload_n hF dX6_lay_139 rfl ?_
      refine xB_aald hF dX6_lay_140 sC_59 rfl rfl e (fun q5 e => ?_)
      obtain ⟨r6, h7, e8, e⟩ := bn_of e
      refine xB_callVv hF dX6_lay_141 (t_X3_become ((isX4_slot q1).2) (isX3_sheet q5) e8) cw_X6_311 ((isX4_slot q1).2.1) rfl rfl rfl rfl rfl ?_
      refine xB_goto (tgt := 153) hF dX6_lay_144 rfl ?_
      refine xB_iload hF dX6_lay_153 rfl ?_
      exact xB_ireturn hF dX6_lay_155 e
    · refine xB_aload hF dX6_lay_147 rfl ?_
      refine xB_iload_n hF dX6_lay_149 rfl ?_
      refine xB_put hF dX6_lay_150 fp_X6_314 ((isX4_slot q1).1) rfl rfl rfl rfl rfl ?_
      refine xB_gen e (fun h4 e => ?_)
      refine xB_iload hF dX6_lay_153 rfl ?_
      exact xB_ireturn hF dX6_lay_155 e
def f_X6_lay_c47 (a1 : Int32) (a2 : Int32) (a3 : Int32) (h : xH) : Option (Int32 × xH) :=
    if a2 = 2 then (gd a3 4 <| if (h (60 + 2 * (Int32.toNatClampNeg a3)) 1) = (-1) then (some ((-1000000011), h)) else (f_X6_lay_c68 a1 a2 a3 h)) else (f_X6_lay_c68 a1 a2 a3 h)
set_option maxRecDepth 20000 in
set_option maxHeartbeats 2000000 in
theorem t_X6_lay_c47 {l : Launch} {γ : xG} {a1 : Int32} {a2 : Int32} {a3 : Int32} {r : Int32} {hr : xH} {C : xCx} (hF : xF C cX6_lay RX6 6 2 γ xSC (some (.int r)) hr l (some .int)) : ∀ (h : xH), f_X6_lay_c47 a1 a2 a3 h = some (r, hr) → xB C h 47 [some (.ref (γ.2.2.2 0)), some (.int a1), some (.int a2), some (.int a3), none, none] [] := by
  intro h e
  unfold f_X6_lay_c47 at e
  refine xB_iload_n hF dX6_lay_47 rfl ?_
  refine xB_iconst hF dX6_lay_48 ki_2 ?_
  refine xB_icmp_ne (tgt := 68) hF dX6_lay_49 rfl e (fun _ e => ?_) (fun _ e => ?_)
  · refine xB_aload_n hF dX6_lay_52 rfl ?_
    refine xB_get hF dX6_lay_53 fl_X6_51 sC_0 rfl rfl ?_
    refine xB_iload_n hF dX6_lay_56 rfl ?_
    refine xB_aald hF dX6_lay_57 sC_59 rfl rfl e (fun q1 e => ?_)
    refine xB_get hF dX6_lay_58 fl_X6_218 ((isX3_sheet q1).1) rfl rfl ?_
    refine xB_iconst hF dX6_lay_61 ki_m1 ?_
    refine xB_icmp_ne (tgt := 68) hF dX6_lay_62 rfl e (fun _ e => ?_) (fun _ e => ?_)
    · refine xB_ldc hF dX6_lay_65 kc_X6_221 ?_
      exact xB_ireturn hF dX6_lay_67 e
    · exact xB_l (t_X6_lay_c68 hF _ e) (And.intro rfl (And.intro rfl (And.intro rfl (And.intro rfl (True.intro)))))
  · exact xB_l (t_X6_lay_c68 hF _ e) (And.intro rfl (And.intro rfl (And.intro rfl (And.intro rfl (True.intro)))))
def f_X6_lay_c32 (a1 : Int32) (a2 : Int32) (a3 : Int32) (h : xH) : Option (Int32 × xH) :=
    if a2 = 2 then (bn (f_X6_isSheet a3 h) fun r1 h2 => if r1 = 0 then (some ((-1000000001), h2)) else (f_X6_lay_c47 a1 a2 a3 h2)) else (f_X6_lay_c47 a1 a2 a3 h)
set_option maxRecDepth 20000 in
set_option maxHeartbeats 2000000 in
theorem t_X6_lay_c32 {l : Launch} {γ : xG} {a1 : Int32} {a2 : Int32} {a3 : Int32} {r : Int32} {hr : xH} {C : xCx} (hF : xF C cX6_lay RX6 6 2 γ xSC (some (.int r)) hr l (some .int)) : ∀ (h : xH), f_X6_lay_c32 a1 a2 a3 h = some (r, hr) → xB C h 32 [some (.ref (γ.2.2.2 0)), some (.int a1), some (.int a2), some (.int a3), none, none] [] := by
  intro h e
  unfold f_X6_lay_c32 at e
  refine xB_iload_n hF dX6_lay_32 rfl ?_
  refine xB_iconst hF dX6_lay_33 ki_2 ?_
  refine xB_icmp_ne (tgt := 47) hF dX6_lay_34 rfl e (fun _ e => ?_) (fun _ e => ?_)
  · refine xB_iload_n hF dX6_lay_37 rfl ?_
    obtain ⟨r1, h2, e3, e⟩ := bn_of e
    refine xB_callSi hF dX6_lay_38 (t_X6_isSheet e3) cw_X6_215 rfl rfl rfl rfl ?_
    refine xB_if_ne (tgt := 47) hF dX6_lay_41 rfl e (fun _ e => ?_) (fun _ e => ?_)
    · refine xB_ldc hF dX6_lay_44 kc_X6_85 ?_
      exact xB_ireturn hF dX6_lay_46 e
    · exact xB_l (t_X6_lay_c47 hF _ e) (And.intro rfl (And.intro rfl (And.intro rfl (And.intro rfl (True.intro)))))
  · exact xB_l (t_X6_lay_c47 hF _ e) (And.intro rfl (And.intro rfl (And.intro rfl (And.intro rfl (True.intro)))))
def f_X6_lay (a1 : Int32) (a2 : Int32) (a3 : Int32) (h : xH) : Option (Int32 × xH) :=
    bn (f_X6_isSlot a1 h) fun r1 h2 => if r1 = 0 then (some ((-1000000001), h2)) else (bn (f_X6_within a2 0 3 h2) fun r4 h5 => if r4 = 0 then (some ((-1000000001), h5)) else (if a2 = 1 then (bn (f_X6_isDay a3 h5) fun r7 h8 => if r7 = 0 then (some ((-1000000001), h8)) else (f_X6_lay_c32 a1 a2 a3 h8)) else (f_X6_lay_c32 a1 a2 a3 h5)))
set_option maxRecDepth 20000 in
set_option maxHeartbeats 2000000 in
theorem t_X6_lay {l : Launch} {γ : xG} {a1 : Int32} {a2 : Int32} {a3 : Int32} {h : xH} {r : Int32} {hr : xH} (e : f_X6_lay a1 a2 a3 h = some (r, hr)) : xCT l γ xSC yX6_lay cX6_lay 6 (some .int) 2 [.ref (γ.2.2.2 0), .int a1, .int a2, .int a3] h (some (.int r)) hr := by
  refine xCT.of (own := RX6) (L := [some (.ref (γ.2.2.2 0)), some (.int a1), some (.int a2), some (.int a3), none, none]) (by decide) rfl rfl rfl (fun C hF => ?_)
  unfold f_X6_lay at e
  refine xB_iload_n hF dX6_lay_0 rfl ?_
  obtain ⟨r1, h2, e3, e⟩ := bn_of e
  refine xB_callSi hF dX6_lay_1 (t_X6_isSlot e3) cw_X6_297 rfl rfl rfl rfl ?_
  refine xB_if_eq (tgt := 16) hF dX6_lay_4 rfl e (fun _ e => ?_) (fun _ e => ?_)
  · refine xB_ldc hF dX6_lay_16 kc_X6_85 ?_
    exact xB_ireturn hF dX6_lay_18 e
  · refine xB_iload_n hF dX6_lay_7 rfl ?_
    refine xB_iconst hF dX6_lay_8 ki_0 ?_
    refine xB_iconst hF dX6_lay_9 ki_3 ?_
    obtain ⟨r4, h5, e6, e⟩ := bn_of e
    refine xB_callSi hF dX6_lay_10 (t_X6_within e6) cw_X6_78 rfl rfl rfl rfl ?_
    refine xB_if_ne (tgt := 19) hF dX6_lay_13 rfl e (fun _ e => ?_) (fun _ e => ?_)
    · refine xB_ldc hF dX6_lay_16 kc_X6_85 ?_
      exact xB_ireturn hF dX6_lay_18 e
    · refine xB_iload_n hF dX6_lay_19 rfl ?_
      refine xB_iconst hF dX6_lay_20 ki_1 ?_
      refine xB_icmp_ne (tgt := 32) hF dX6_lay_21 rfl e (fun _ e => ?_) (fun _ e => ?_)
      · refine xB_aload_n hF dX6_lay_24 rfl ?_
        refine xB_iload_n hF dX6_lay_25 rfl ?_
        obtain ⟨r7, h8, e9, e⟩ := bn_of e
        refine xB_callVi hF dX6_lay_26 (t_X6_isDay e9) cw_X6_94 sC_0 rfl rfl rfl rfl rfl ?_
        refine xB_if_eq (tgt := 44) hF dX6_lay_29 rfl e (fun _ e => ?_) (fun _ e => ?_)
        · refine xB_ldc hF dX6_lay_44 kc_X6_85 ?_
          exact xB_ireturn hF dX6_lay_46 e
        · exact xB_l (t_X6_lay_c32 hF _ e) (And.intro rfl (And.intro rfl (And.intro rfl (And.intro rfl (True.intro)))))
      · exact xB_l (t_X6_lay_c32 hF _ e) (And.intro rfl (And.intro rfl (And.intro rfl (And.intro rfl (True.intro)))))
