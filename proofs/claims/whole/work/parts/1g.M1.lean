def f_X7_daysOf_c32 (k4 : Int32 → Int32 → xH → Option (Int32 × xH)) (a1 : Int32) (v3 : Int32) (s0 : Int32) (s1 : Int32) (h : xH) : Option (Int32 × xH) :=
    k4 (s1 ||| s0) (v3 + 1) h
set_option maxRecDepth 20000 in
set_option maxHeartbeats 2000000 in
theorem t_X7_daysOf_c32 {l : Launch} {γ : xG} {k4 : Int32 → Int32 → xH → Option (Int32 × xH)} {a1 : Int32} {r : Int32} {hr : xH} {C : xCx} (hF : xF C cX7_daysOf RX7 4 1 γ xSM (some (.int r)) hr l (some .int)) (hk4 : ∀ (v2 : Int32) (v3 : Int32) (h : xH), k4 v2 v3 h = some (r, hr) → xB C h 4 [some (.ref (γ.2.2.2 0)), some (.int a1), some (.int v2), some (.int v3)] []) : ∀ (v3 : Int32) (s0 : Int32) (s1 : Int32) (h : xH), f_X7_daysOf_c32 k4 a1 v3 s0 s1 h = some (r, hr) → xB C h 32 [some (.ref (γ.2.2.2 0)), some (.int a1), none, some (.int v3)] [.int s0, .int s1] := by
  intro v3 s0 s1 h e
  unfold f_X7_daysOf_c32 at e
  refine xB_ior hF dX7_daysOf_32 ?_
  refine xB_istore_n (L' := [_, _, _, _]) hF dX7_daysOf_33 rfl rfl rfl ?_
  refine xB_iinc (L' := [_, _, _, _]) hF dX7_daysOf_34 rfl ki_1 rfl rfl rfl ?_
  refine xB_goto (tgt := 4) hF dX7_daysOf_37 rfl ?_
  exact xB_l (hk4 _ _ _ e) (And.intro rfl (And.intro rfl (And.intro rfl (And.intro rfl (True.intro)))))
def f_X7_daysOf_c4 (a1 : Int32) : Nat → Int32 → Int32 → xH → Option (Int32 × xH)
  | 0, _, _, _ => none
  | n + 1, v2, v3, h =>
    gd 0 3078 <| if (h 1 (Int32.toNatClampNeg 0)) ≤ v3 then (some (v2, h)) else (bn (f_X7_of v3 4 h) fun r1 h2 => if r1 = a1 then (f_X7_daysOf_c32 (f_X7_daysOf_c4 a1 n) a1 v3 (1 <<< (v3 &&& 31)) v2 h2) else (f_X7_daysOf_c32 (f_X7_daysOf_c4 a1 n) a1 v3 0 v2 h2))
set_option maxRecDepth 20000 in
set_option maxHeartbeats 2000000 in
theorem t_X7_daysOf_c4 {l : Launch} {γ : xG} {a1 : Int32} {r : Int32} {hr : xH} {C : xCx} (hF : xF C cX7_daysOf RX7 4 1 γ xSM (some (.int r)) hr l (some .int)) : ∀ (n : Nat) (v2 : Int32) (v3 : Int32) (h : xH), f_X7_daysOf_c4 a1 n v2 v3 h = some (r, hr) → xB C h 4 [some (.ref (γ.2.2.2 0)), some (.int a1), some (.int v2), some (.int v3)] [] := by
  intro n
  induction n with
  | zero => intro v2 v3 h e; cases e
  | succ n ih =>
    intro v2 v3 h e
    rw [f_X7_daysOf_c4] at e
    refine xB_iload_n hF dX7_daysOf_4 rfl ?_
    refine xB_aload_n hF dX7_daysOf_5 rfl ?_
    refine xB_get hF dX7_daysOf_6 fl_X7_7 sM_0 rfl rfl ?_
    refine xB_iconst hF dX7_daysOf_9 ki_0 ?_
    refine xB_iald hF dX7_daysOf_10 sM_1 e (fun e => ?_)
    refine xB_icmp_ge (tgt := 40) hF dX7_daysOf_11 rfl e (fun _ e => ?_) (fun _ e => ?_)
    · refine xB_iload_n hF dX7_daysOf_40 rfl ?_
      exact xB_ireturn hF dX7_daysOf_41 e
    · refine xB_iload_n hF dX7_daysOf_14 rfl ?_
      refine xB_aload_n hF dX7_daysOf_15 rfl ?_
      refine xB_iload_n hF dX7_daysOf_16 rfl ?_
      refine xB_iconst hF dX7_daysOf_17 ki_4 ?_
      obtain ⟨r1, h2, e3, e⟩ := bn_of e
      refine xB_callVi hF dX7_daysOf_18 (t_X7_of e3) cw_X7_97 sM_0 rfl rfl rfl rfl rfl ?_
      refine xB_iload_n hF dX7_daysOf_21 rfl ?_
      refine xB_icmp_ne (tgt := 31) hF dX7_daysOf_22 rfl e (fun _ e => ?_) (fun _ e => ?_)
      · refine xB_iconst hF dX7_daysOf_25 ki_1 ?_
        refine xB_iload_n hF dX7_daysOf_26 rfl ?_
        refine xB_ishl hF dX7_daysOf_27 ?_
        refine xB_goto (tgt := 32) hF dX7_daysOf_28 rfl ?_
        exact xB_l (t_X7_daysOf_c32 hF ih _ _ _ _ e) (And.intro rfl (And.intro rfl (And.intro rfl (True.intro))))
      · refine xB_iconst hF dX7_daysOf_31 ki_0 ?_
        exact xB_l (t_X7_daysOf_c32 hF ih _ _ _ _ e) (And.intro rfl (And.intro rfl (And.intro rfl (True.intro))))
def f_X7_daysOf (a1 : Int32) (h : xH) : Option (Int32 × xH) :=
    f_X7_daysOf_c4 a1 xN 0 0 h
set_option maxRecDepth 20000 in
set_option maxHeartbeats 2000000 in
theorem t_X7_daysOf {l : Launch} {γ : xG} {a1 : Int32} {h : xH} {r : Int32} {hr : xH} (e : f_X7_daysOf a1 h = some (r, hr)) : xCT l γ xSM yX7_daysOf cX7_daysOf 4 (some .int) 1 [.ref (γ.2.2.2 0), .int a1] h (some (.int r)) hr := by
  refine xCT.of (own := RX7) (L := [some (.ref (γ.2.2.2 0)), some (.int a1), none, none]) (by decide) rfl rfl rfl (fun C hF => ?_)
  unfold f_X7_daysOf at e
  refine xB_iconst hF dX7_daysOf_0 ki_0 ?_
  refine xB_istore_n (L' := [_, _, _, _]) hF dX7_daysOf_1 rfl rfl rfl ?_
  refine xB_iconst hF dX7_daysOf_2 ki_0 ?_
  refine xB_istore_n (L' := [_, _, _, _]) hF dX7_daysOf_3 rfl rfl rfl ?_
  exact xB_l (t_X7_daysOf_c4 hF _ _ _ _ e) (And.intro rfl (And.intro rfl (And.intro rfl (And.intro rfl (True.intro)))))
def f_X7_manyIn_c4 (a0 : Int32) : Nat → Int32 → Int32 → xH → Option (Int32 × xH)
  | 0, _, _, _ => none
  | n + 1, v1, v2, h =>
    if v2 = 0 then (some (v1, h)) else (f_X7_manyIn_c4 a0 n (v1 + 1) (v2 &&& (v2 - 1)) h)
set_option maxRecDepth 20000 in
set_option maxHeartbeats 2000000 in
theorem t_X7_manyIn_c4 {l : Launch} {γ : xG} {a0 : Int32} {r : Int32} {hr : xH} {C : xCx} (hF : xF C cX7_manyIn RX7 3 0 γ xSM (some (.int r)) hr l (some .int)) : ∀ (n : Nat) (v1 : Int32) (v2 : Int32) (h : xH), f_X7_manyIn_c4 a0 n v1 v2 h = some (r, hr) → xB C h 4 [some (.int a0), some (.int v1), some (.int v2)] [] := by
  intro n
  induction n with
  | zero => intro v1 v2 h e; cases e
  | succ n ih =>
    intro v1 v2 h e
    rw [f_X7_manyIn_c4] at e
    refine xB_iload_n hF dX7_manyIn_4 rfl ?_
    refine xB_if_eq (tgt := 20) hF dX7_manyIn_5 rfl e (fun _ e => ?_) (fun _ e => ?_)
    · refine xB_iload_n hF dX7_manyIn_20 rfl ?_
      exact xB_ireturn hF dX7_manyIn_21 e
    · refine xB_iinc (L' := [_, _, _]) hF dX7_manyIn_8 rfl ki_1 rfl rfl rfl ?_
      refine xB_iload_n hF dX7_manyIn_11 rfl ?_
      refine xB_iload_n hF dX7_manyIn_12 rfl ?_
      refine xB_iconst hF dX7_manyIn_13 ki_1 ?_
      refine xB_isub hF dX7_manyIn_14 ?_
      refine xB_iand hF dX7_manyIn_15 ?_
      refine xB_istore_n (L' := [_, _, _]) hF dX7_manyIn_16 rfl rfl rfl ?_
      refine xB_goto (tgt := 4) hF dX7_manyIn_17 rfl ?_
      exact xB_l (ih _ _ _ e) (And.intro rfl (And.intro rfl (And.intro rfl (True.intro))))
def f_X7_manyIn (a0 : Int32) (h : xH) : Option (Int32 × xH) :=
    f_X7_manyIn_c4 a0 xN 0 a0 h
set_option maxRecDepth 20000 in
set_option maxHeartbeats 2000000 in
theorem t_X7_manyIn {l : Launch} {γ : xG} {a0 : Int32} {h : xH} {r : Int32} {hr : xH} (e : f_X7_manyIn a0 h = some (r, hr)) : xCT l γ xSM yX7_manyIn cX7_manyIn 3 (some .int) 0 [.int a0] h (some (.int r)) hr := by
  refine xCT.of (own := RX7) (L := [some (.int a0), none, none]) (by decide) rfl rfl rfl (fun C hF => ?_)
  unfold f_X7_manyIn at e
  refine xB_iconst hF dX7_manyIn_0 ki_0 ?_
  refine xB_istore_n (L' := [_, _, _]) hF dX7_manyIn_1 rfl rfl rfl ?_
  refine xB_iload_n hF dX7_manyIn_2 rfl ?_
  refine xB_istore_n (L' := [_, _, _]) hF dX7_manyIn_3 rfl rfl rfl ?_
  exact xB_l (t_X7_manyIn_c4 hF _ _ _ _ e) (And.intro rfl (And.intro rfl (And.intro rfl (True.intro))))
def f_X7_one (a1 : Int32) (a2 : Int32) (h : xH) : Option (Int32 × xH) :=
    bn (f_X7_isOne a1 h) fun r1 h2 => if r1 = 0 then (some ((-1000000001), h2)) else (bn (f_X7_isIn (Int32.toInt64 a2) 0 2 h2) fun r4 h5 => if r4 = 0 then (some ((-1000000001), h5)) else (if a2 = 0 then (gd (6 + a1) 3078 <| some (h5 1 (Int32.toNatClampNeg (6 + a1)), h5)) else (if a2 = 1 then (gd (12 + a1) 3078 <| some (h5 1 (Int32.toNatClampNeg (12 + a1)), h5)) else (bn (f_X7_daysOf a1 h5) fun r7 h8 => some (r7, h8)))))
set_option maxRecDepth 20000 in
set_option maxHeartbeats 2000000 in
theorem t_X7_one {l : Launch} {γ : xG} {a1 : Int32} {a2 : Int32} {h : xH} {r : Int32} {hr : xH} (e : f_X7_one a1 a2 h = some (r, hr)) : xCT l γ xSM yX7_one cX7_one 3 (some .int) 2 [.ref (γ.2.2.2 0), .int a1, .int a2] h (some (.int r)) hr := by
  refine xCT.of (own := RX7) (L := [some (.ref (γ.2.2.2 0)), some (.int a1), some (.int a2)]) (by decide) rfl rfl rfl (fun C hF => ?_)
  unfold f_X7_one at e
  refine xB_iload_n hF dX7_one_0 rfl ?_
  obtain ⟨r1, h2, e3, e⟩ := bn_of e
  refine xB_callSi hF dX7_one_1 (t_X7_isOne e3) cw_X7_83 rfl rfl rfl rfl ?_
  refine xB_if_eq (tgt := 19) hF dX7_one_4 rfl e (fun _ e => ?_) (fun _ e => ?_)
  · refine xB_ldc hF dX7_one_19 kc_X7_87 ?_
    exact xB_ireturn hF dX7_one_21 e
  · refine xB_iload_n hF dX7_one_7 rfl ?_
    refine xB_i2l hF dX7_one_8 ?_
    refine xB_lconst (v := 0) hF dX7_one_9 (by decide) ?_
    refine xB_ldc2 hF dX7_one_10 kc_X7_135 ?_
    obtain ⟨r4, h5, e6, e⟩ := bn_of e
    refine xB_callSi hF dX7_one_13 (t_X7_isIn e6) cw_X7_68 rfl rfl rfl rfl ?_
    refine xB_if_ne (tgt := 22) hF dX7_one_16 rfl e (fun _ e => ?_) (fun _ e => ?_)
    · refine xB_ldc hF dX7_one_19 kc_X7_87 ?_
      exact xB_ireturn hF dX7_one_21 e
    · refine xB_iload_n hF dX7_one_22 rfl ?_
      refine xB_if_ne (tgt := 38) hF dX7_one_23 rfl e (fun _ e => ?_) (fun _ e => ?_)
      · refine xB_aload_n hF dX7_one_26 rfl ?_
        refine xB_get hF dX7_one_27 fl_X7_7 sM_0 rfl rfl ?_
        refine xB_bipush hF dX7_one_30 kb_6 ?_
        refine xB_iload_n hF dX7_one_32 rfl ?_
        refine xB_iadd hF dX7_one_33 ?_
        refine xB_iald hF dX7_one_34 sM_1 e (fun e => ?_)
        refine xB_goto (tgt := 60) hF dX7_one_35 rfl ?_
        exact xB_ireturn hF dX7_one_60 e
      · refine xB_iload_n hF dX7_one_38 rfl ?_
        refine xB_iconst hF dX7_one_39 ki_1 ?_
        refine xB_icmp_ne (tgt := 55) hF dX7_one_40 rfl e (fun _ e => ?_) (fun _ e => ?_)
        · refine xB_aload_n hF dX7_one_43 rfl ?_
          refine xB_get hF dX7_one_44 fl_X7_7 sM_0 rfl rfl ?_
          refine xB_bipush hF dX7_one_47 kb_12 ?_
          refine xB_iload_n hF dX7_one_49 rfl ?_
          refine xB_iadd hF dX7_one_50 ?_
          refine xB_iald hF dX7_one_51 sM_1 e (fun e => ?_)
          refine xB_goto (tgt := 60) hF dX7_one_52 rfl ?_
          exact xB_ireturn hF dX7_one_60 e
        · refine xB_aload_n hF dX7_one_55 rfl ?_
          refine xB_iload_n hF dX7_one_56 rfl ?_
          obtain ⟨r7, h8, e9, e⟩ := bn_of e
          refine xB_callVi hF dX7_one_57 (t_X7_daysOf e9) cw_X7_137 sM_0 rfl rfl rfl rfl rfl ?_
          exact xB_ireturn hF dX7_one_60 e
def f_X7_gives_c54 (a1 : Int32) (a2 : Int32) (a3 : Int32) (s0 : Int32) (h : xH) : Option (Int32 × xH) :=
    bn (f_X7_becomes (s0 + a1) a3 h) fun r1 h2 => some (r1, h2)
set_option maxRecDepth 20000 in
set_option maxHeartbeats 2000000 in
theorem t_X7_gives_c54 {l : Launch} {γ : xG} {a1 : Int32} {a2 : Int32} {a3 : Int32} {r : Int32} {hr : xH} {C : xCx} (hF : xF C cX7_gives RX7 4 1 γ xSM (some (.int r)) hr l (some .int)) : ∀ (s0 : Int32) (h : xH), f_X7_gives_c54 a1 a2 a3 s0 h = some (r, hr) → xB C h 54 [some (.ref (γ.2.2.2 0)), some (.int a1), some (.int a2), some (.int a3)] [.int s0, .ref (γ.2.2.2 0)] := by
  intro s0 h e
  unfold f_X7_gives_c54 at e
  refine xB_iload_n hF dX7_gives_54 rfl ?_
  refine xB_iadd hF dX7_gives_55 ?_
  refine xB_iload_n hF dX7_gives_56 rfl ?_
  obtain ⟨r1, h2, e3, e⟩ := bn_of e
  refine xB_callVi hF dX7_gives_57 (t_X7_becomes e3) cw_X7_130 sM_0 rfl rfl rfl rfl rfl ?_
  exact xB_ireturn hF dX7_gives_60 e
def f_X7_gives_c33 (a1 : Int32) (a2 : Int32) (a3 : Int32) (s0 : Int64) (s1 : Int64) (s2 : Int64) (h : xH) : Option (Int32 × xH) :=
    bn (f_X7_isIn s2 s1 s0 h) fun r1 h2 => if r1 = 0 then (some ((-1000000001), h2)) else (if a2 = 0 then (f_X7_gives_c54 a1 a2 a3 6 h2) else (f_X7_gives_c54 a1 a2 a3 12 h2))
set_option maxRecDepth 20000 in
set_option maxHeartbeats 2000000 in
theorem t_X7_gives_c33 {l : Launch} {γ : xG} {a1 : Int32} {a2 : Int32} {a3 : Int32} {r : Int32} {hr : xH} {C : xCx} (hF : xF C cX7_gives RX7 4 1 γ xSM (some (.int r)) hr l (some .int)) : ∀ (s0 : Int64) (s1 : Int64) (s2 : Int64) (h : xH), f_X7_gives_c33 a1 a2 a3 s0 s1 s2 h = some (r, hr) → xB C h 33 [some (.ref (γ.2.2.2 0)), some (.int a1), some (.int a2), some (.int a3)] [.long s0, .long s1, .long s2] := by
  intro s0 s1 s2 h e
  unfold f_X7_gives_c33 at e
  obtain ⟨r1, h2, e3, e⟩ := bn_of e
  refine xB_callSi hF dX7_gives_33 (t_X7_isIn e3) cw_X7_68 rfl rfl rfl rfl ?_
  refine xB_if_ne (tgt := 42) hF dX7_gives_36 rfl e (fun _ e => ?_) (fun _ e => ?_)
  · refine xB_ldc hF dX7_gives_39 kc_X7_87 ?_
    exact xB_ireturn hF dX7_gives_41 e
  · refine xB_aload_n hF dX7_gives_42 rfl ?_
    refine xB_iload_n hF dX7_gives_43 rfl ?_
    refine xB_if_ne (tgt := 52) hF dX7_gives_44 rfl e (fun _ e => ?_) (fun _ e => ?_)
    · refine xB_bipush hF dX7_gives_47 kb_6 ?_
      refine xB_goto (tgt := 54) hF dX7_gives_49 rfl ?_
      exact xB_l (t_X7_gives_c54 hF _ _ e) (And.intro rfl (And.intro rfl (And.intro rfl (And.intro rfl (True.intro)))))
    · refine xB_bipush hF dX7_gives_52 kb_12 ?_
      exact xB_l (t_X7_gives_c54 hF _ _ e) (And.intro rfl (And.intro rfl (And.intro rfl (And.intro rfl (True.intro)))))
def f_X7_gives (a1 : Int32) (a2 : Int32) (a3 : Int32) (h : xH) : Option (Int32 × xH) :=
    bn (f_X7_isOne a1 h) fun r1 h2 => if r1 = 0 then (some ((-1000000001), h2)) else (bn (f_X7_isIn (Int32.toInt64 a2) 0 1 h2) fun r4 h5 => if r4 = 0 then (some ((-1000000001), h5)) else (if a2 = 0 then (f_X7_gives_c33 a1 a2 a3 9999 0 (Int32.toInt64 a3) h5) else (f_X7_gives_c33 a1 a2 a3 9 0 (Int32.toInt64 a3) h5)))
set_option maxRecDepth 20000 in
set_option maxHeartbeats 2000000 in
theorem t_X7_gives {l : Launch} {γ : xG} {a1 : Int32} {a2 : Int32} {a3 : Int32} {h : xH} {r : Int32} {hr : xH} (e : f_X7_gives a1 a2 a3 h = some (r, hr)) : xCT l γ xSM yX7_gives cX7_gives 4 (some .int) 1 [.ref (γ.2.2.2 0), .int a1, .int a2, .int a3] h (some (.int r)) hr := by
  refine xCT.of (own := RX7) (L := [some (.ref (γ.2.2.2 0)), some (.int a1), some (.int a2), some (.int a3)]) (by decide) rfl rfl rfl (fun C hF => ?_)
  unfold f_X7_gives at e
  refine xB_iload_n hF dX7_gives_0 rfl ?_
  obtain ⟨r1, h2, e3, e⟩ := bn_of e
  refine xB_callSi hF dX7_gives_1 (t_X7_isOne e3) cw_X7_83 rfl rfl rfl rfl ?_
  refine xB_if_eq (tgt := 39) hF dX7_gives_4 rfl e (fun _ e => ?_) (fun _ e => ?_)
  · refine xB_ldc hF dX7_gives_39 kc_X7_87 ?_
    exact xB_ireturn hF dX7_gives_41 e
  · refine xB_iload_n hF dX7_gives_7 rfl ?_
    refine xB_i2l hF dX7_gives_8 ?_
    refine xB_lconst (v := 0) hF dX7_gives_9 (by decide) ?_
    refine xB_lconst (v := 1) hF dX7_gives_10 (by decide) ?_
    obtain ⟨r4, h5, e6, e⟩ := bn_of e
    refine xB_callSi hF dX7_gives_11 (t_X7_isIn e6) cw_X7_68 rfl rfl rfl rfl ?_
    refine xB_if_eq (tgt := 39) hF dX7_gives_14 rfl e (fun _ e => ?_) (fun _ e => ?_)
    · refine xB_ldc hF dX7_gives_39 kc_X7_87 ?_
      exact xB_ireturn hF dX7_gives_41 e
    · refine xB_iload_n hF dX7_gives_17 rfl ?_
      refine xB_i2l hF dX7_gives_18 ?_
      refine xB_lconst (v := 0) hF dX7_gives_19 (by decide) ?_
      refine xB_iload_n hF dX7_gives_20 rfl ?_
      refine xB_if_ne (tgt := 30) hF dX7_gives_21 rfl e (fun _ e => ?_) (fun _ e => ?_)
      · refine xB_ldc2 hF dX7_gives_24 kc_X7_140 ?_
        refine xB_goto (tgt := 33) hF dX7_gives_27 rfl ?_
        exact xB_l (t_X7_gives_c33 hF _ _ _ _ e) (And.intro rfl (And.intro rfl (And.intro rfl (And.intro rfl (True.intro)))))
      · refine xB_ldc2 hF dX7_gives_30 kc_X7_81 ?_
        exact xB_l (t_X7_gives_c33 hF _ _ _ _ e) (And.intro rfl (And.intro rfl (And.intro rfl (And.intro rfl (True.intro)))))
def f_X7_offer (a1 : Int32) (a2 : Int32) (h : xH) : Option (Int32 × xH) :=
    bn (f_X7_isOne a1 h) fun r1 h2 => if r1 = 0 then (some ((-1000000001), h2)) else (bn (f_X7_isDay a2 h2) fun r4 h5 => if r4 = 0 then (some ((-1000000001), h5)) else (bn (f_X7_offerOf a1 a2 h5) fun r7 h8 => some (r7, h8)))
set_option maxRecDepth 20000 in
set_option maxHeartbeats 2000000 in
theorem t_X7_offer {l : Launch} {γ : xG} {a1 : Int32} {a2 : Int32} {h : xH} {r : Int32} {hr : xH} (e : f_X7_offer a1 a2 h = some (r, hr)) : xCT l γ xSM yX7_offer cX7_offer 3 (some .int) 5 [.ref (γ.2.2.2 0), .int a1, .int a2] h (some (.int r)) hr := by
  refine xCT.of (own := RX7) (L := [some (.ref (γ.2.2.2 0)), some (.int a1), some (.int a2)]) (by decide) rfl rfl rfl (fun C hF => ?_)
  unfold f_X7_offer at e
  refine xB_iload_n hF dX7_offer_0 rfl ?_
  obtain ⟨r1, h2, e3, e⟩ := bn_of e
  refine xB_callSi hF dX7_offer_1 (t_X7_isOne e3) cw_X7_83 rfl rfl rfl rfl ?_
  refine xB_if_eq (tgt := 24) hF dX7_offer_4 rfl e (fun _ e => ?_) (fun _ e => ?_)
  · refine xB_ldc hF dX7_offer_24 kc_X7_87 ?_
    exact xB_ireturn hF dX7_offer_26 e
  · refine xB_aload_n hF dX7_offer_7 rfl ?_
    refine xB_iload_n hF dX7_offer_8 rfl ?_
    obtain ⟨r4, h5, e6, e⟩ := bn_of e
    refine xB_callVi hF dX7_offer_9 (t_X7_isDay e6) cw_X7_117 sM_0 rfl rfl rfl rfl rfl ?_
    refine xB_if_eq (tgt := 24) hF dX7_offer_12 rfl e (fun _ e => ?_) (fun _ e => ?_)
    · refine xB_ldc hF dX7_offer_24 kc_X7_87 ?_
      exact xB_ireturn hF dX7_offer_26 e
    · refine xB_aload_n hF dX7_offer_15 rfl ?_
      refine xB_iload_n hF dX7_offer_16 rfl ?_
      refine xB_iload_n hF dX7_offer_17 rfl ?_
      obtain ⟨r7, h8, e9, e⟩ := bn_of e
      refine xB_callVi hF dX7_offer_18 (t_X7_offerOf e9) cw_X7_142 sM_0 rfl rfl rfl rfl rfl ?_
      refine xB_goto (tgt := 26) hF dX7_offer_21 rfl ?_
      exact xB_ireturn hF dX7_offer_26 e
def f_X7_deal_c17 (a1 : Int32) : Nat → Int32 → xH → Option (Int32 × xH)
  | 0, _, _ => none
  | n + 1, v2, h =>
    if a1 ≤ v2 then (some (v2, h)) else (gd 0 3078 <| if 10 ≤ (h 1 (Int32.toNatClampNeg 0)) then (some (v2, h)) else (bn (f_X7_drawn h) fun r1 h2 => bn (f_X7_drawn h2) fun r4 h5 => bn (f_X7_drawn h5) fun r7 h8 => bn (f_X7_drawn h8) fun r10 h11 => bn (f_X7_comes (r1 - r1 / 6 * 6) (r4 - r4 / 100 * 100) (r7 - r7 / 10 * 10) (r10 - r10 / 6 * 6) h11) fun r13 h14 => f_X7_deal_c17 a1 n (v2 + 1) h14))
set_option maxRecDepth 20000 in
set_option maxHeartbeats 2000000 in
theorem t_X7_deal_c17 {l : Launch} {γ : xG} {a1 : Int32} {r : Int32} {hr : xH} {C : xCx} (hF : xF C cX7_deal RX7 6 2 γ xSM (some (.int r)) hr l (some .int)) : ∀ (n : Nat) (v2 : Int32) (h : xH), f_X7_deal_c17 a1 n v2 h = some (r, hr) → xB C h 17 [some (.ref (γ.2.2.2 0)), some (.int a1), some (.int v2), none, none, none] [] := by
  intro n
  induction n with
  | zero => intro v2 h e; cases e
  | succ n ih =>
    intro v2 h e
    rw [f_X7_deal_c17] at e
    refine xB_iload_n hF dX7_deal_17 rfl ?_
    refine xB_iload_n hF dX7_deal_18 rfl ?_
    refine xB_icmp_ge (tgt := 81) hF dX7_deal_19 rfl e (fun _ e => ?_) (fun _ e => ?_)
    · refine xB_iload_n hF dX7_deal_81 rfl ?_
      exact xB_ireturn hF dX7_deal_82 e
    · refine xB_aload_n hF dX7_deal_22 rfl ?_
      refine xB_get hF dX7_deal_23 fl_X7_7 sM_0 rfl rfl ?_
      refine xB_iconst hF dX7_deal_26 ki_0 ?_
      refine xB_iald hF dX7_deal_27 sM_1 e (fun e => ?_)
      refine xB_bipush hF dX7_deal_28 kb_10 ?_
      refine xB_icmp_ge (tgt := 81) hF dX7_deal_30 rfl e (fun _ e => ?_) (fun _ e => ?_)
      · refine xB_iload_n hF dX7_deal_81 rfl ?_
        exact xB_ireturn hF dX7_deal_82 e
      · refine xB_aload_n hF dX7_deal_33 rfl ?_
        obtain ⟨r1, h2, e3, e⟩ := bn_of e
        refine xB_callVi hF dX7_deal_34 (t_X7_drawn e3) cw_X7_147 sM_0 rfl rfl rfl rfl rfl ?_
        refine xB_bipush hF dX7_deal_37 kb_6 ?_
        refine xB_iremc hF dX7_deal_39 (by decide) ?_
        refine xB_istore_n (L' := [_, _, _, _, _, _]) hF dX7_deal_40 rfl rfl rfl ?_
        refine xB_aload_n hF dX7_deal_41 rfl ?_
        obtain ⟨r4, h5, e6, e⟩ := bn_of e
        refine xB_callVi hF dX7_deal_42 (t_X7_drawn e6) cw_X7_147 sM_0 rfl rfl rfl rfl rfl ?_
        refine xB_bipush hF dX7_deal_45 kb_100 ?_
        refine xB_iremc hF dX7_deal_47 (by decide) ?_
        refine xB_istore (L' := [_, _, _, _, _, _]) hF dX7_deal_48 rfl rfl rfl ?_
        refine xB_aload_n hF dX7_deal_50 rfl ?_
        obtain ⟨r7, h8, e9, e⟩ := bn_of e
        refine xB_callVi hF dX7_deal_51 (t_X7_drawn e9) cw_X7_147 sM_0 rfl rfl rfl rfl rfl ?_
        refine xB_bipush hF dX7_deal_54 kb_10 ?_
        refine xB_iremc hF dX7_deal_56 (by decide) ?_
        refine xB_istore (L' := [_, _, _, _, _, _]) hF dX7_deal_57 rfl rfl rfl ?_
        refine xB_aload_n hF dX7_deal_59 rfl ?_
        refine xB_iload_n hF dX7_deal_60 rfl ?_
        refine xB_iload hF dX7_deal_61 rfl ?_
        refine xB_iload hF dX7_deal_63 rfl ?_
        refine xB_aload_n hF dX7_deal_65 rfl ?_
        obtain ⟨r10, h11, e12, e⟩ := bn_of e
        refine xB_callVi hF dX7_deal_66 (t_X7_drawn e12) cw_X7_147 sM_0 rfl rfl rfl rfl rfl ?_
        refine xB_bipush hF dX7_deal_69 kb_6 ?_
        refine xB_iremc hF dX7_deal_71 (by decide) ?_
        obtain ⟨r13, h14, e15, e⟩ := bn_of e
        refine xB_callVv hF dX7_deal_72 (t_X7_comes e15) cw_X7_89 sM_0 rfl rfl rfl rfl rfl ?_
        refine xB_iinc (L' := [_, _, _, _, _, _]) hF dX7_deal_75 rfl ki_1 rfl rfl rfl ?_
        refine xB_goto (tgt := 17) hF dX7_deal_78 rfl ?_
        exact xB_l (ih _ _ e) (And.intro rfl (And.intro rfl (And.intro rfl (True.intro))))
def f_X7_deal (a1 : Int32) (h : xH) : Option (Int32 × xH) :=
    bn (f_X7_isIn (Int32.toInt64 a1) 1 10 h) fun r1 h2 => if r1 = 0 then (some ((-1000000001), h2)) else (f_X7_deal_c17 a1 xN 0 h2)
set_option maxRecDepth 20000 in
set_option maxHeartbeats 2000000 in
theorem t_X7_deal {l : Launch} {γ : xG} {a1 : Int32} {h : xH} {r : Int32} {hr : xH} (e : f_X7_deal a1 h = some (r, hr)) : xCT l γ xSM yX7_deal cX7_deal 6 (some .int) 2 [.ref (γ.2.2.2 0), .int a1] h (some (.int r)) hr := by
  refine xCT.of (own := RX7) (L := [some (.ref (γ.2.2.2 0)), some (.int a1), none, none, none, none]) (by decide) rfl rfl rfl (fun C hF => ?_)
  unfold f_X7_deal at e
  refine xB_iload_n hF dX7_deal_0 rfl ?_
  refine xB_i2l hF dX7_deal_1 ?_
  refine xB_lconst (v := 1) hF dX7_deal_2 (by decide) ?_
  refine xB_ldc2 hF dX7_deal_3 kc_X7_145 ?_
  obtain ⟨r1, h2, e3, e⟩ := bn_of e
  refine xB_callSi hF dX7_deal_6 (t_X7_isIn e3) cw_X7_68 rfl rfl rfl rfl ?_
  refine xB_if_ne (tgt := 15) hF dX7_deal_9 rfl e (fun _ e => ?_) (fun _ e => ?_)
  · refine xB_ldc hF dX7_deal_12 kc_X7_87 ?_
    exact xB_ireturn hF dX7_deal_14 e
  · refine xB_iconst hF dX7_deal_15 ki_0 ?_
    refine xB_istore_n (L' := [_, _, _, _, _, _]) hF dX7_deal_16 rfl rfl rfl ?_
    exact xB_l (t_X7_deal_c17 hF _ _ _ e) (And.intro rfl (And.intro rfl (And.intro rfl (True.intro))))
def f_X7_seed (a1 : Int32) (h : xH) : Option (Int32 × xH) :=
    bn (f_X7_becomes 5 a1 h) fun r1 h2 => some (r1, h2)
set_option maxRecDepth 20000 in
set_option maxHeartbeats 2000000 in
theorem t_X7_seed {l : Launch} {γ : xG} {a1 : Int32} {h : xH} {r : Int32} {hr : xH} (e : f_X7_seed a1 h = some (r, hr)) : xCT l γ xSM yX7_seed cX7_seed 2 (some .int) 1 [.ref (γ.2.2.2 0), .int a1] h (some (.int r)) hr := by
  refine xCT.of (own := RX7) (L := [some (.ref (γ.2.2.2 0)), some (.int a1)]) (by decide) rfl rfl rfl (fun C hF => ?_)
  unfold f_X7_seed at e
  refine xB_aload_n hF dX7_seed_0 rfl ?_
  refine xB_iconst hF dX7_seed_1 ki_5 ?_
  refine xB_iload_n hF dX7_seed_2 rfl ?_
  obtain ⟨r1, h2, e3, e⟩ := bn_of e
  refine xB_callVi hF dX7_seed_3 (t_X7_becomes e3) cw_X7_130 sM_0 rfl rfl rfl rfl rfl ?_
  exact xB_ireturn hF dX7_seed_6 e
def f_X7_sells_c86 (a1 : Int32) (a2 : Int32) (a3 : Int32) (s0 : Int32) (s1 : Int32) (s2 : Int32) (h : xH) : Option (Int32 × xH) :=
    gd s2 3078 <| nm (xst h 1 (Int32.toNatClampNeg s2) (s1 + s0)) fun h1 => bn (f_X7_sets a1 4 a2 h1) fun r2 h3 => bn (f_X7_of a1 5 h3) fun r5 h6 => bn (f_X7_sets a1 5 (r5 ||| (1 <<< (a2 &&& 31))) h6) fun r8 h9 => gd 3 3078 <| gd 3 3078 <| nm (xst h9 1 (Int32.toNatClampNeg 3) ((h9 1 (Int32.toNatClampNeg 3)) + 1)) fun h11 => some (0, h11)
set_option maxRecDepth 20000 in
set_option maxHeartbeats 2000000 in
theorem t_X7_sells_c86 {l : Launch} {γ : xG} {a1 : Int32} {a2 : Int32} {a3 : Int32} {r : Int32} {hr : xH} {C : xCx} (hF : xF C cX7_sells RX7 6 1 γ xSM none hr l none) : ∀ (s0 : Int32) (s1 : Int32) (s2 : Int32) (h : xH), f_X7_sells_c86 a1 a2 a3 s0 s1 s2 h = some (r, hr) → xB C h 86 [some (.ref (γ.2.2.2 0)), some (.int a1), some (.int a2), some (.int a3), none, none] [.int s0, .int s1, .int s2, .ref (γ.2.2.2 1)] := by
  intro s0 s1 s2 h e
  unfold f_X7_sells_c86 at e
  refine xB_iadd hF dX7_sells_86 ?_
  refine xB_iast hF dX7_sells_87 sM_1 e (fun e => ?_)
  refine xB_gen e (fun h1 e => ?_)
  refine xB_aload_n hF dX7_sells_88 rfl ?_
  refine xB_iload_n hF dX7_sells_89 rfl ?_
  refine xB_iconst hF dX7_sells_90 ki_4 ?_
  refine xB_iload_n hF dX7_sells_91 rfl ?_
  obtain ⟨r2, h3, e4, e⟩ := bn_of e
  refine xB_callVv hF dX7_sells_92 (t_X7_sets e4) cw_X7_73 sM_0 rfl rfl rfl rfl rfl ?_
  refine xB_aload_n hF dX7_sells_95 rfl ?_
  refine xB_iload_n hF dX7_sells_96 rfl ?_
  refine xB_iconst hF dX7_sells_97 ki_5 ?_
  refine xB_aload_n hF dX7_sells_98 rfl ?_
  refine xB_iload_n hF dX7_sells_99 rfl ?_
  refine xB_iconst hF dX7_sells_100 ki_5 ?_
  obtain ⟨r5, h6, e7, e⟩ := bn_of e
  refine xB_callVi hF dX7_sells_101 (t_X7_of e7) cw_X7_97 sM_0 rfl rfl rfl rfl rfl ?_
  refine xB_iconst hF dX7_sells_104 ki_1 ?_
  refine xB_iload_n hF dX7_sells_105 rfl ?_
  refine xB_ishl hF dX7_sells_106 ?_
  refine xB_ior hF dX7_sells_107 ?_
  obtain ⟨r8, h9, e10, e⟩ := bn_of e
  refine xB_callVv hF dX7_sells_108 (t_X7_sets e10) cw_X7_73 sM_0 rfl rfl rfl rfl rfl ?_
  refine xB_aload_n hF dX7_sells_111 rfl ?_
  refine xB_get hF dX7_sells_112 fl_X7_7 sM_0 rfl rfl ?_
  refine xB_iconst hF dX7_sells_115 ki_3 ?_
  refine xB_dup2 hF dX7_sells_116 rfl rfl ?_
  refine xB_iald hF dX7_sells_117 sM_1 e (fun e => ?_)
  refine xB_iconst hF dX7_sells_118 ki_1 ?_
  refine xB_iadd hF dX7_sells_119 ?_
  refine xB_iast hF dX7_sells_120 sM_1 e (fun e => ?_)
  refine xB_gen e (fun h11 e => ?_)
  exact xB_vreturn hF dX7_sells_121 e
def f_X7_sells_c60 (a1 : Int32) (a2 : Int32) (a3 : Int32) (v5 : Int32) (s0 : Int32) (s1 : Int32) (h : xH) : Option (Int32 × xH) :=
    gd s1 3078 <| nm (xst h 1 (Int32.toNatClampNeg s1) s0) fun h1 => gd 4 3078 <| if v5 ≤ 9999 then (f_X7_sells_c86 a1 a2 a3 0 (h1 1 (Int32.toNatClampNeg 4)) 4 h1) else (f_X7_sells_c86 a1 a2 a3 (v5 - 9999) (h1 1 (Int32.toNatClampNeg 4)) 4 h1)
set_option maxRecDepth 20000 in
set_option maxHeartbeats 2000000 in
theorem t_X7_sells_c60 {l : Launch} {γ : xG} {a1 : Int32} {a2 : Int32} {a3 : Int32} {r : Int32} {hr : xH} {C : xCx} (hF : xF C cX7_sells RX7 6 1 γ xSM none hr l none) : ∀ (v5 : Int32) (s0 : Int32) (s1 : Int32) (h : xH), f_X7_sells_c60 a1 a2 a3 v5 s0 s1 h = some (r, hr) → xB C h 60 [some (.ref (γ.2.2.2 0)), some (.int a1), some (.int a2), some (.int a3), none, some (.int v5)] [.int s0, .int s1, .ref (γ.2.2.2 1)] := by
  intro v5 s0 s1 h e
  unfold f_X7_sells_c60 at e
  refine xB_iast hF dX7_sells_60 sM_1 e (fun e => ?_)
  refine xB_gen e (fun h1 e => ?_)
  refine xB_aload_n hF dX7_sells_61 rfl ?_
  refine xB_get hF dX7_sells_62 fl_X7_7 sM_0 rfl rfl ?_
  refine xB_iconst hF dX7_sells_65 ki_4 ?_
  refine xB_dup2 hF dX7_sells_66 rfl rfl ?_
  refine xB_iald hF dX7_sells_67 sM_1 e (fun e => ?_)
  refine xB_iload hF dX7_sells_68 rfl ?_
  refine xB_sipush hF dX7_sells_70 ks_9999 ?_
  refine xB_icmp_le (tgt := 85) hF dX7_sells_73 rfl e (fun _ e => ?_) (fun _ e => ?_)
  · refine xB_iconst hF dX7_sells_85 ki_0 ?_
    exact xB_l (t_X7_sells_c86 hF _ _ _ _ e) (And.intro rfl (And.intro rfl (And.intro rfl (And.intro rfl (True.intro)))))
  · refine xB_iload hF dX7_sells_76 rfl ?_
    refine xB_sipush hF dX7_sells_78 ks_9999 ?_
    refine xB_isub hF dX7_sells_81 ?_
    refine xB_goto (tgt := 86) hF dX7_sells_82 rfl ?_
    exact xB_l (t_X7_sells_c86 hF _ _ _ _ e) (And.intro rfl (And.intro rfl (And.intro rfl (And.intro rfl (True.intro)))))
def f_X7_sells (a1 : Int32) (a2 : Int32) (a3 : Int32) (h : xH) : Option (Int32 × xH) :=
    bn (f_X7_of a1 4 h) fun r1 h2 => gd (6 + a2) 3078 <| gd (6 + a2) 3078 <| nm (xst h2 1 (Int32.toNatClampNeg (6 + a2)) ((h2 1 (Int32.toNatClampNeg (6 + a2))) - a3)) fun h4 => gd (6 + r1) 3078 <| nm ((h4 1 (Int32.toNatClampNeg (6 + r1))) + a3) fun x5 => if x5 ≤ 9999 then (f_X7_sells_c60 a1 a2 a3 x5 x5 (6 + r1) h4) else (f_X7_sells_c60 a1 a2 a3 x5 9999 (6 + r1) h4)
set_option maxRecDepth 20000 in
set_option maxHeartbeats 2000000 in
theorem t_X7_sells {l : Launch} {γ : xG} {a1 : Int32} {a2 : Int32} {a3 : Int32} {h : xH} {r : Int32} {hr : xH} (e : f_X7_sells a1 a2 a3 h = some (r, hr)) : xCT l γ xSM yX7_sells cX7_sells 6 none 1 [.ref (γ.2.2.2 0), .int a1, .int a2, .int a3] h none hr := by
  refine xCT.of (own := RX7) (L := [some (.ref (γ.2.2.2 0)), some (.int a1), some (.int a2), some (.int a3), none, none]) (by decide) rfl rfl rfl (fun C hF => ?_)
  unfold f_X7_sells at e
  refine xB_aload_n hF dX7_sells_0 rfl ?_
  refine xB_iload_n hF dX7_sells_1 rfl ?_
  refine xB_iconst hF dX7_sells_2 ki_4 ?_
  obtain ⟨r1, h2, e3, e⟩ := bn_of e
  refine xB_callVi hF dX7_sells_3 (t_X7_of e3) cw_X7_97 sM_0 rfl rfl rfl rfl rfl ?_
  refine xB_istore (L' := [_, _, _, _, _, _]) hF dX7_sells_6 rfl rfl rfl ?_
  refine xB_aload_n hF dX7_sells_8 rfl ?_
  refine xB_get hF dX7_sells_9 fl_X7_7 sM_0 rfl rfl ?_
  refine xB_bipush hF dX7_sells_12 kb_6 ?_
  refine xB_iload_n hF dX7_sells_14 rfl ?_
  refine xB_iadd hF dX7_sells_15 ?_
  refine xB_dup2 hF dX7_sells_16 rfl rfl ?_
  refine xB_iald hF dX7_sells_17 sM_1 e (fun e => ?_)
  refine xB_iload_n hF dX7_sells_18 rfl ?_
  refine xB_isub hF dX7_sells_19 ?_
  refine xB_iast hF dX7_sells_20 sM_1 e (fun e => ?_)
  refine xB_gen e (fun h4 e => ?_)
  refine xB_aload_n hF dX7_sells_21 rfl ?_
  refine xB_get hF dX7_sells_22 fl_X7_7 sM_0 rfl rfl ?_
  refine xB_bipush hF dX7_sells_25 kb_6 ?_
  refine xB_iload hF dX7_sells_27 rfl ?_
  refine xB_iadd hF dX7_sells_29 ?_
  refine xB_iald hF dX7_sells_30 sM_1 e (fun e => ?_)
  refine xB_iload_n hF dX7_sells_31 rfl ?_
  refine xB_iadd hF dX7_sells_32 ?_
  refine xB_istore (L' := [_, _, _, _, _, _]) hF dX7_sells_33 rfl rfl rfl ?_
  replace e := nm_of e
  refine xB_aload_n hF dX7_sells_35 rfl ?_
  refine xB_get hF dX7_sells_36 fl_X7_7 sM_0 rfl rfl ?_
  refine xB_bipush hF dX7_sells_39 kb_6 ?_
  refine xB_iload hF dX7_sells_41 rfl ?_
  refine xB_iadd hF dX7_sells_43 ?_
  refine xB_iload hF dX7_sells_44 rfl ?_
  refine xB_sipush hF dX7_sells_46 ks_9999 ?_
  refine xB_icmp_le (tgt := 58) hF dX7_sells_49 rfl e (fun _ e => ?_) (fun _ e => ?_)
  · refine xB_iload hF dX7_sells_58 rfl ?_
    exact xB_l (t_X7_sells_c60 hF _ _ _ _ e) (And.intro rfl (And.intro rfl (And.intro rfl (And.intro rfl (And.intro rfl (True.intro))))))
  · refine xB_sipush hF dX7_sells_52 ks_9999 ?_
    refine xB_goto (tgt := 60) hF dX7_sells_55 rfl ?_
    exact xB_l (t_X7_sells_c60 hF _ _ _ _ e) (And.intro rfl (And.intro rfl (And.intro rfl (And.intro rfl (And.intro rfl (True.intro))))))
def f_X7_sale (a1 : Int32) (a2 : Int32) (a3 : Int32) (h : xH) : Option (Int32 × xH) :=
    bn (f_X7_isDay a1 h) fun r1 h2 => if r1 = 0 then (some ((-1000000001), h2)) else (bn (f_X7_isOne a2 h2) fun r4 h5 => if r4 = 0 then (some ((-1000000001), h5)) else (bn (f_X7_isIn (Int32.toInt64 a3) 0 9999 h5) fun r7 h8 => if r7 = 0 then (some ((-1000000001), h8)) else (bn (f_X7_of a1 4 h8) fun r10 h11 => if r10 = a2 then (some ((-1000000002), h11)) else (gd (6 + a2) 3078 <| if a3 ≤ (h11 1 (Int32.toNatClampNeg (6 + a2))) then (bn (f_X7_sells a1 a2 a3 h11) fun r13 h14 => gd 3 3078 <| some (h14 1 (Int32.toNatClampNeg 3), h14)) else (some ((-1000000002), h11))))))
set_option maxRecDepth 20000 in
set_option maxHeartbeats 2000000 in
theorem t_X7_sale {l : Launch} {γ : xG} {a1 : Int32} {a2 : Int32} {a3 : Int32} {h : xH} {r : Int32} {hr : xH} (e : f_X7_sale a1 a2 a3 h = some (r, hr)) : xCT l γ xSM yX7_sale cX7_sale 4 (some .int) 2 [.ref (γ.2.2.2 0), .int a1, .int a2, .int a3] h (some (.int r)) hr := by
  refine xCT.of (own := RX7) (L := [some (.ref (γ.2.2.2 0)), some (.int a1), some (.int a2), some (.int a3)]) (by decide) rfl rfl rfl (fun C hF => ?_)
  unfold f_X7_sale at e
  refine xB_aload_n hF dX7_sale_0 rfl ?_
  refine xB_iload_n hF dX7_sale_1 rfl ?_
  obtain ⟨r1, h2, e3, e⟩ := bn_of e
  refine xB_callVi hF dX7_sale_2 (t_X7_isDay e3) cw_X7_117 sM_0 rfl rfl rfl rfl rfl ?_
  refine xB_if_eq (tgt := 27) hF dX7_sale_5 rfl e (fun _ e => ?_) (fun _ e => ?_)
  · refine xB_ldc hF dX7_sale_27 kc_X7_87 ?_
    exact xB_ireturn hF dX7_sale_29 e
  · refine xB_iload_n hF dX7_sale_8 rfl ?_
    obtain ⟨r4, h5, e6, e⟩ := bn_of e
    refine xB_callSi hF dX7_sale_9 (t_X7_isOne e6) cw_X7_83 rfl rfl rfl rfl ?_
    refine xB_if_eq (tgt := 27) hF dX7_sale_12 rfl e (fun _ e => ?_) (fun _ e => ?_)
    · refine xB_ldc hF dX7_sale_27 kc_X7_87 ?_
      exact xB_ireturn hF dX7_sale_29 e
    · refine xB_iload_n hF dX7_sale_15 rfl ?_
      refine xB_i2l hF dX7_sale_16 ?_
      refine xB_lconst (v := 0) hF dX7_sale_17 (by decide) ?_
      refine xB_ldc2 hF dX7_sale_18 kc_X7_140 ?_
      obtain ⟨r7, h8, e9, e⟩ := bn_of e
      refine xB_callSi hF dX7_sale_21 (t_X7_isIn e9) cw_X7_68 rfl rfl rfl rfl ?_
      refine xB_if_ne (tgt := 30) hF dX7_sale_24 rfl e (fun _ e => ?_) (fun _ e => ?_)
      · refine xB_ldc hF dX7_sale_27 kc_X7_87 ?_
        exact xB_ireturn hF dX7_sale_29 e
      · refine xB_aload_n hF dX7_sale_30 rfl ?_
        refine xB_iload_n hF dX7_sale_31 rfl ?_
        refine xB_iconst hF dX7_sale_32 ki_4 ?_
        obtain ⟨r10, h11, e12, e⟩ := bn_of e
        refine xB_callVi hF dX7_sale_33 (t_X7_of e12) cw_X7_97 sM_0 rfl rfl rfl rfl rfl ?_
        refine xB_iload_n hF dX7_sale_36 rfl ?_
        refine xB_icmp_eq (tgt := 53) hF dX7_sale_37 rfl e (fun _ e => ?_) (fun _ e => ?_)
        · refine xB_ldc hF dX7_sale_53 kc_X7_151 ?_
          exact xB_ireturn hF dX7_sale_55 e
        · refine xB_aload_n hF dX7_sale_40 rfl ?_
          refine xB_get hF dX7_sale_41 fl_X7_7 sM_0 rfl rfl ?_
          refine xB_bipush hF dX7_sale_44 kb_6 ?_
          refine xB_iload_n hF dX7_sale_46 rfl ?_
          refine xB_iadd hF dX7_sale_47 ?_
          refine xB_iald hF dX7_sale_48 sM_1 e (fun e => ?_)
          refine xB_iload_n hF dX7_sale_49 rfl ?_
          refine xB_icmp_ge (tgt := 56) hF dX7_sale_50 rfl e (fun _ e => ?_) (fun _ e => ?_)
          · refine xB_aload_n hF dX7_sale_56 rfl ?_
            refine xB_iload_n hF dX7_sale_57 rfl ?_
            refine xB_iload_n hF dX7_sale_58 rfl ?_
            refine xB_iload_n hF dX7_sale_59 rfl ?_
            obtain ⟨r13, h14, e15, e⟩ := bn_of e
            refine xB_callVv hF dX7_sale_60 (t_X7_sells e15) cw_X7_152 sM_0 rfl rfl rfl rfl rfl ?_
            refine xB_aload_n hF dX7_sale_63 rfl ?_
            refine xB_get hF dX7_sale_64 fl_X7_7 sM_0 rfl rfl ?_
            refine xB_iconst hF dX7_sale_67 ki_3 ?_
            refine xB_iald hF dX7_sale_68 sM_1 e (fun e => ?_)
            exact xB_ireturn hF dX7_sale_69 e
          · refine xB_ldc hF dX7_sale_53 kc_X7_151 ?_
            exact xB_ireturn hF dX7_sale_55 e
def f_X7_bidder_c59 (k7 : Int32 → Int32 → Int32 → xH → Option (Int32 × xH)) (a1 : Int32) (v2 : Int32) (v3 : Int32) (v4 : Int32) (h : xH) : Option (Int32 × xH) :=
    k7 v2 v3 (v4 + 1) h
set_option maxRecDepth 20000 in
set_option maxHeartbeats 2000000 in
theorem t_X7_bidder_c59 {l : Launch} {γ : xG} {k7 : Int32 → Int32 → Int32 → xH → Option (Int32 × xH)} {a1 : Int32} {r : Int32} {hr : xH} {C : xCx} (hF : xF C cX7_bidder RX7 6 5 γ xSM (some (.int r)) hr l (some .int)) (hk7 : ∀ (v2 : Int32) (v3 : Int32) (v4 : Int32) (h : xH), k7 v2 v3 v4 h = some (r, hr) → xB C h 7 [some (.ref (γ.2.2.2 0)), some (.int a1), some (.int v2), some (.int v3), some (.int v4), none] []) : ∀ (v2 : Int32) (v3 : Int32) (v4 : Int32) (h : xH), f_X7_bidder_c59 k7 a1 v2 v3 v4 h = some (r, hr) → xB C h 59 [some (.ref (γ.2.2.2 0)), some (.int a1), some (.int v2), some (.int v3), some (.int v4), none] [] := by
  intro v2 v3 v4 h e
  unfold f_X7_bidder_c59 at e
  refine xB_iinc (L' := [_, _, _, _, _, _]) hF dX7_bidder_59 rfl ki_1 rfl rfl rfl ?_
  refine xB_goto (tgt := 7) hF dX7_bidder_62 rfl ?_
  exact xB_l (hk7 _ _ _ _ e) (And.intro rfl (And.intro rfl (And.intro rfl (And.intro rfl (And.intro rfl (True.intro))))))
def f_X7_bidder_c53 (k7 : Int32 → Int32 → Int32 → xH → Option (Int32 × xH)) (a1 : Int32) (v4 : Int32) (v5 : Int32) (h : xH) : Option (Int32 × xH) :=
    f_X7_bidder_c59 k7 a1 v4 v5 v4 h
set_option maxRecDepth 20000 in
set_option maxHeartbeats 2000000 in
theorem t_X7_bidder_c53 {l : Launch} {γ : xG} {k7 : Int32 → Int32 → Int32 → xH → Option (Int32 × xH)} {a1 : Int32} {r : Int32} {hr : xH} {C : xCx} (hF : xF C cX7_bidder RX7 6 5 γ xSM (some (.int r)) hr l (some .int)) (hk7 : ∀ (v2 : Int32) (v3 : Int32) (v4 : Int32) (h : xH), k7 v2 v3 v4 h = some (r, hr) → xB C h 7 [some (.ref (γ.2.2.2 0)), some (.int a1), some (.int v2), some (.int v3), some (.int v4), none] []) : ∀ (v4 : Int32) (v5 : Int32) (h : xH), f_X7_bidder_c53 k7 a1 v4 v5 h = some (r, hr) → xB C h 53 [some (.ref (γ.2.2.2 0)), some (.int a1), none, none, some (.int v4), some (.int v5)] [] := by
  intro v4 v5 h e
  unfold f_X7_bidder_c53 at e
  refine xB_iload hF dX7_bidder_53 rfl ?_
  refine xB_istore_n (L' := [_, _, _, _, _, _]) hF dX7_bidder_55 rfl rfl rfl ?_
  refine xB_iload hF dX7_bidder_56 rfl ?_
  refine xB_istore_n (L' := [_, _, _, _, _, _]) hF dX7_bidder_58 rfl rfl rfl ?_
  exact xB_l (t_X7_bidder_c59 hF hk7 _ _ _ _ e) (And.intro rfl (And.intro rfl (And.intro rfl (And.intro rfl (And.intro rfl (True.intro))))))
def f_X7_bidder_c36 (k7 : Int32 → Int32 → Int32 → xH → Option (Int32 × xH)) (a1 : Int32) (v2 : Int32) (v3 : Int32) (v4 : Int32) (s0 : Int32) (h : xH) : Option (Int32 × xH) :=
    if s0 < 0 then (f_X7_bidder_c59 k7 a1 v2 v3 v4 h) else (if v2 < 0 then (f_X7_bidder_c53 k7 a1 v4 s0 h) else (if s0 ≤ v3 then (f_X7_bidder_c59 k7 a1 v2 v3 v4 h) else (f_X7_bidder_c53 k7 a1 v4 s0 h)))
set_option maxRecDepth 20000 in
set_option maxHeartbeats 2000000 in
theorem t_X7_bidder_c36 {l : Launch} {γ : xG} {k7 : Int32 → Int32 → Int32 → xH → Option (Int32 × xH)} {a1 : Int32} {r : Int32} {hr : xH} {C : xCx} (hF : xF C cX7_bidder RX7 6 5 γ xSM (some (.int r)) hr l (some .int)) (hk7 : ∀ (v2 : Int32) (v3 : Int32) (v4 : Int32) (h : xH), k7 v2 v3 v4 h = some (r, hr) → xB C h 7 [some (.ref (γ.2.2.2 0)), some (.int a1), some (.int v2), some (.int v3), some (.int v4), none] []) : ∀ (v2 : Int32) (v3 : Int32) (v4 : Int32) (s0 : Int32) (h : xH), f_X7_bidder_c36 k7 a1 v2 v3 v4 s0 h = some (r, hr) → xB C h 36 [some (.ref (γ.2.2.2 0)), some (.int a1), some (.int v2), some (.int v3), some (.int v4), none] [.int s0] := by
  intro v2 v3 v4 s0 h e
  unfold f_X7_bidder_c36 at e
  refine xB_istore (L' := [_, _, _, _, _, _]) hF dX7_bidder_36 rfl rfl rfl ?_
  refine xB_iload hF dX7_bidder_38 rfl ?_
  refine xB_if_lt (tgt := 59) hF dX7_bidder_40 rfl e (fun _ e => ?_) (fun _ e => ?_)
  · exact xB_l (t_X7_bidder_c59 hF hk7 _ _ _ _ e) (And.intro rfl (And.intro rfl (And.intro rfl (And.intro rfl (And.intro rfl (True.intro))))))
  · refine xB_iload_n hF dX7_bidder_43 rfl ?_
    refine xB_if_lt (tgt := 53) hF dX7_bidder_44 rfl e (fun _ e => ?_) (fun _ e => ?_)
    · exact xB_l (t_X7_bidder_c53 hF hk7 _ _ _ e) (And.intro rfl (And.intro rfl (And.intro rfl (And.intro rfl (True.intro)))))
    · refine xB_iload hF dX7_bidder_47 rfl ?_
      refine xB_iload_n hF dX7_bidder_49 rfl ?_
      refine xB_icmp_le (tgt := 59) hF dX7_bidder_50 rfl e (fun _ e => ?_) (fun _ e => ?_)
      · exact xB_l (t_X7_bidder_c59 hF hk7 _ _ _ _ e) (And.intro rfl (And.intro rfl (And.intro rfl (And.intro rfl (And.intro rfl (True.intro))))))
      · exact xB_l (t_X7_bidder_c53 hF hk7 _ _ _ e) (And.intro rfl (And.intro rfl (And.intro rfl (And.intro rfl (True.intro)))))
def f_X7_bidder_c7 (a1 : Int32) : Nat → Int32 → Int32 → Int32 → xH → Option (Int32 × xH)
  | 0, _, _, _, _ => none
  | n + 1, v2, v3, v4, h =>
    if 6 ≤ v4 then (some (v2, h)) else (bn (f_X7_of a1 4 h) fun r1 h2 => if r1 = v4 then (f_X7_bidder_c36 (f_X7_bidder_c7 a1 n) a1 v2 v3 v4 (-1) h2) else (bn (f_X7_offerOf v4 a1 h2) fun r4 h5 => f_X7_bidder_c36 (f_X7_bidder_c7 a1 n) a1 v2 v3 v4 r4 h5))
set_option maxRecDepth 20000 in
set_option maxHeartbeats 2000000 in
theorem t_X7_bidder_c7 {l : Launch} {γ : xG} {a1 : Int32} {r : Int32} {hr : xH} {C : xCx} (hF : xF C cX7_bidder RX7 6 5 γ xSM (some (.int r)) hr l (some .int)) : ∀ (n : Nat) (v2 : Int32) (v3 : Int32) (v4 : Int32) (h : xH), f_X7_bidder_c7 a1 n v2 v3 v4 h = some (r, hr) → xB C h 7 [some (.ref (γ.2.2.2 0)), some (.int a1), some (.int v2), some (.int v3), some (.int v4), none] [] := by
  intro n
  induction n with
  | zero => intro v2 v3 v4 h e; cases e
  | succ n ih =>
    intro v2 v3 v4 h e
    rw [f_X7_bidder_c7] at e
    refine xB_iload hF dX7_bidder_7 rfl ?_
    refine xB_bipush hF dX7_bidder_9 kb_6 ?_
    refine xB_icmp_ge (tgt := 65) hF dX7_bidder_11 rfl e (fun _ e => ?_) (fun _ e => ?_)
    · refine xB_iload_n hF dX7_bidder_65 rfl ?_
      exact xB_ireturn hF dX7_bidder_66 e
    · refine xB_aload_n hF dX7_bidder_14 rfl ?_
      refine xB_iload_n hF dX7_bidder_15 rfl ?_
      refine xB_iconst hF dX7_bidder_16 ki_4 ?_
      obtain ⟨r1, h2, e3, e⟩ := bn_of e
      refine xB_callVi hF dX7_bidder_17 (t_X7_of e3) cw_X7_97 sM_0 rfl rfl rfl rfl rfl ?_
      refine xB_iload hF dX7_bidder_20 rfl ?_
      refine xB_icmp_ne (tgt := 29) hF dX7_bidder_22 rfl e (fun _ e => ?_) (fun _ e => ?_)
      · refine xB_iconst hF dX7_bidder_25 ki_m1 ?_
        refine xB_goto (tgt := 36) hF dX7_bidder_26 rfl ?_
        exact xB_l (t_X7_bidder_c36 hF ih _ _ _ _ _ e) (And.intro rfl (And.intro rfl (And.intro rfl (And.intro rfl (And.intro rfl (True.intro))))))
      · refine xB_aload_n hF dX7_bidder_29 rfl ?_
        refine xB_iload hF dX7_bidder_30 rfl ?_
        refine xB_iload_n hF dX7_bidder_32 rfl ?_
        obtain ⟨r4, h5, e6, e⟩ := bn_of e
        refine xB_callVi hF dX7_bidder_33 (t_X7_offerOf e6) cw_X7_142 sM_0 rfl rfl rfl rfl rfl ?_
        exact xB_l (t_X7_bidder_c36 hF ih _ _ _ _ _ e) (And.intro rfl (And.intro rfl (And.intro rfl (And.intro rfl (And.intro rfl (True.intro))))))
def f_X7_bidder (a1 : Int32) (h : xH) : Option (Int32 × xH) :=
    f_X7_bidder_c7 a1 xN (-1) 0 0 h
set_option maxRecDepth 20000 in
set_option maxHeartbeats 2000000 in
theorem t_X7_bidder {l : Launch} {γ : xG} {a1 : Int32} {h : xH} {r : Int32} {hr : xH} (e : f_X7_bidder a1 h = some (r, hr)) : xCT l γ xSM yX7_bidder cX7_bidder 6 (some .int) 5 [.ref (γ.2.2.2 0), .int a1] h (some (.int r)) hr := by
  refine xCT.of (own := RX7) (L := [some (.ref (γ.2.2.2 0)), some (.int a1), none, none, none, none]) (by decide) rfl rfl rfl (fun C hF => ?_)
  unfold f_X7_bidder at e
  refine xB_iconst hF dX7_bidder_0 ki_m1 ?_
  refine xB_istore_n (L' := [_, _, _, _, _, _]) hF dX7_bidder_1 rfl rfl rfl ?_
  refine xB_iconst hF dX7_bidder_2 ki_0 ?_
  refine xB_istore_n (L' := [_, _, _, _, _, _]) hF dX7_bidder_3 rfl rfl rfl ?_
  refine xB_iconst hF dX7_bidder_4 ki_0 ?_
  refine xB_istore (L' := [_, _, _, _, _, _]) hF dX7_bidder_5 rfl rfl rfl ?_
  exact xB_l (t_X7_bidder_c7 hF _ _ _ _ _ e) (And.intro rfl (And.intro rfl (And.intro rfl (And.intro rfl (And.intro rfl (True.intro))))))
def f_X7_wears (a1 : Int32) (a2 : Int32) (h : xH) : Option (Int32 × xH) :=
    bn (f_X7_counts 1 h) fun r1 h2 => if 0 ≤ r1 then (gd 120 128 <| nm (xst h2 15 (Int32.toNatClampNeg 120) a2) fun h4 => bn (f_X7_of a1 2 h4) fun r5 h6 => gd 116 128 <| nm (xst h6 15 (Int32.toNatClampNeg 116) r5) fun h8 => bn (f_X7_of a1 3 h8) fun r9 h10 => gd 119 128 <| nm (xst h10 15 (Int32.toNatClampNeg 119) r9) fun h12 => bn (f_X7_worked r1 h12) fun r13 h14 => bn (f_X7_within r13 20 h14) fun r16 h17 => some (r16, h17)) else (some (a2 / 3, h2))
set_option maxRecDepth 20000 in
set_option maxHeartbeats 2000000 in
theorem t_X7_wears {l : Launch} {γ : xG} {a1 : Int32} {a2 : Int32} {h : xH} {r : Int32} {hr : xH} (e : f_X7_wears a1 a2 h = some (r, hr)) : xCT l γ xSM yX7_wears cX7_wears 4 (some .int) 2 [.ref (γ.2.2.2 0), .int a1, .int a2] h (some (.int r)) hr := by
  refine xCT.of (own := RX7) (L := [some (.ref (γ.2.2.2 0)), some (.int a1), some (.int a2), none]) (by decide) rfl rfl rfl (fun C hF => ?_)
  unfold f_X7_wears at e
  refine xB_aload_n hF dX7_wears_0 rfl ?_
  refine xB_iconst hF dX7_wears_1 ki_1 ?_
  obtain ⟨r1, h2, e3, e⟩ := bn_of e
  refine xB_callVi hF dX7_wears_2 (t_X7_counts e3) cw_X7_93 sM_0 rfl rfl rfl rfl rfl ?_
  refine xB_istore_n (L' := [_, _, _, _]) hF dX7_wears_5 rfl rfl rfl ?_
  refine xB_iload_n hF dX7_wears_6 rfl ?_
  refine xB_if_ge (tgt := 14) hF dX7_wears_7 rfl e (fun _ e => ?_) (fun _ e => ?_)
  · refine xB_aload_n hF dX7_wears_14 rfl ?_
    refine xB_get hF dX7_wears_15 fl_X7_52 sM_0 rfl rfl ?_
    refine xB_bipush hF dX7_wears_18 kb_120 ?_
    refine xB_iload_n hF dX7_wears_20 rfl ?_
    refine xB_iast hF dX7_wears_21 sM_15 e (fun e => ?_)
    refine xB_gen e (fun h4 e => ?_)
    refine xB_aload_n hF dX7_wears_22 rfl ?_
    refine xB_get hF dX7_wears_23 fl_X7_52 sM_0 rfl rfl ?_
    refine xB_bipush hF dX7_wears_26 kb_116 ?_
    refine xB_aload_n hF dX7_wears_28 rfl ?_
    refine xB_iload_n hF dX7_wears_29 rfl ?_
    refine xB_iconst hF dX7_wears_30 ki_2 ?_
    obtain ⟨r5, h6, e7, e⟩ := bn_of e
    refine xB_callVi hF dX7_wears_31 (t_X7_of e7) cw_X7_97 sM_0 rfl rfl rfl rfl rfl ?_
    refine xB_iast hF dX7_wears_34 sM_15 e (fun e => ?_)
    refine xB_gen e (fun h8 e => ?_)
    refine xB_aload_n hF dX7_wears_35 rfl ?_
    refine xB_get hF dX7_wears_36 fl_X7_52 sM_0 rfl rfl ?_
    refine xB_bipush hF dX7_wears_39 kb_119 ?_
    refine xB_aload_n hF dX7_wears_41 rfl ?_
    refine xB_iload_n hF dX7_wears_42 rfl ?_
    refine xB_iconst hF dX7_wears_43 ki_3 ?_
    obtain ⟨r9, h10, e11, e⟩ := bn_of e
    refine xB_callVi hF dX7_wears_44 (t_X7_of e11) cw_X7_97 sM_0 rfl rfl rfl rfl rfl ?_
    refine xB_iast hF dX7_wears_47 sM_15 e (fun e => ?_)
    refine xB_gen e (fun h12 e => ?_)
    refine xB_aload_n hF dX7_wears_48 rfl ?_
    refine xB_iload_n hF dX7_wears_49 rfl ?_
    obtain ⟨r13, h14, e15, e⟩ := bn_of e
    refine xB_callVi hF dX7_wears_50 (t_X7_worked e15) cw_X7_104 sM_0 rfl rfl rfl rfl rfl ?_
    refine xB_bipush hF dX7_wears_53 kb_20 ?_
    obtain ⟨r16, h17, e18, e⟩ := bn_of e
    refine xB_callSi hF dX7_wears_55 (t_X7_within e18) cw_X7_101 rfl rfl rfl rfl ?_
    exact xB_ireturn hF dX7_wears_58 e
  · refine xB_iload_n hF dX7_wears_10 rfl ?_
    refine xB_iconst hF dX7_wears_11 ki_3 ?_
    refine xB_idivc hF dX7_wears_12 (by decide) ?_
    exact xB_ireturn hF dX7_wears_13 e
def f_X7_goesOn_c97 (k52 : Int32 → xH → Option (Int32 × xH)) (v1 : Int32) (h : xH) : Option (Int32 × xH) :=
    k52 (v1 + 1) h
set_option maxRecDepth 20000 in
set_option maxHeartbeats 2000000 in
theorem t_X7_goesOn_c97 {l : Launch} {γ : xG} {k52 : Int32 → xH → Option (Int32 × xH)} {r : Int32} {hr : xH} {C : xCx} (hF : xF C cX7_goesOn RX7 4 6 γ xSM none hr l none) (hk52 : ∀ (v1 : Int32) (h : xH), k52 v1 h = some (r, hr) → xB C h 52 [some (.ref (γ.2.2.2 0)), some (.int v1), none, none] []) : ∀ (v1 : Int32) (h : xH), f_X7_goesOn_c97 k52 v1 h = some (r, hr) → xB C h 97 [some (.ref (γ.2.2.2 0)), some (.int v1), none, none] [] := by
  intro v1 h e
  unfold f_X7_goesOn_c97 at e
  refine xB_iinc (L' := [_, _, _, _]) hF dX7_goesOn_97 rfl ki_1 rfl rfl rfl ?_
  refine xB_goto (tgt := 52) hF dX7_goesOn_100 rfl ?_
  exact xB_l (hk52 _ _ e) (And.intro rfl (And.intro rfl (True.intro)))
def f_X7_goesOn_c52 : Nat → Int32 → xH → Option (Int32 × xH)
  | 0, _, _ => none
  | n + 1, v1, h =>
    gd 0 3078 <| if (h 1 (Int32.toNatClampNeg 0)) ≤ v1 then (gd 2 3078 <| gd 2 3078 <| nm (xst h 1 (Int32.toNatClampNeg 2) ((h 1 (Int32.toNatClampNeg 2)) + 1)) fun h1 => some (0, h1)) else (bn (f_X7_bidder v1 h) fun r2 h3 => bn (f_X7_offerOf r2 v1 h3) fun r5 h6 => bn (f_X7_of v1 4 h6) fun r8 h9 => bn (f_X7_offerOf r8 v1 h9) fun r11 h12 => if r5 ≤ r11 then (f_X7_goesOn_c97 (f_X7_goesOn_c52 n) v1 h12) else (bn (f_X7_sells v1 r2 r5 h12) fun r14 h15 => f_X7_goesOn_c97 (f_X7_goesOn_c52 n) v1 h15))
set_option maxRecDepth 20000 in
set_option maxHeartbeats 2000000 in
theorem t_X7_goesOn_c52 {l : Launch} {γ : xG} {r : Int32} {hr : xH} {C : xCx} (hF : xF C cX7_goesOn RX7 4 6 γ xSM none hr l none) : ∀ (n : Nat) (v1 : Int32) (h : xH), f_X7_goesOn_c52 n v1 h = some (r, hr) → xB C h 52 [some (.ref (γ.2.2.2 0)), some (.int v1), none, none] [] := by
  intro n
  induction n with
  | zero => intro v1 h e; cases e
  | succ n ih =>
    intro v1 h e
    rw [f_X7_goesOn_c52] at e
    refine xB_iload_n hF dX7_goesOn_52 rfl ?_
    refine xB_aload_n hF dX7_goesOn_53 rfl ?_
    refine xB_get hF dX7_goesOn_54 fl_X7_7 sM_0 rfl rfl ?_
    refine xB_iconst hF dX7_goesOn_57 ki_0 ?_
    refine xB_iald hF dX7_goesOn_58 sM_1 e (fun e => ?_)
    refine xB_icmp_ge (tgt := 103) hF dX7_goesOn_59 rfl e (fun _ e => ?_) (fun _ e => ?_)
    · refine xB_aload_n hF dX7_goesOn_103 rfl ?_
      refine xB_get hF dX7_goesOn_104 fl_X7_7 sM_0 rfl rfl ?_
      refine xB_iconst hF dX7_goesOn_107 ki_2 ?_
      refine xB_dup2 hF dX7_goesOn_108 rfl rfl ?_
      refine xB_iald hF dX7_goesOn_109 sM_1 e (fun e => ?_)
      refine xB_iconst hF dX7_goesOn_110 ki_1 ?_
      refine xB_iadd hF dX7_goesOn_111 ?_
      refine xB_iast hF dX7_goesOn_112 sM_1 e (fun e => ?_)
      refine xB_gen e (fun h1 e => ?_)
      exact xB_vreturn hF dX7_goesOn_113 e
    · refine xB_aload_n hF dX7_goesOn_62 rfl ?_
      refine xB_iload_n hF dX7_goesOn_63 rfl ?_
      obtain ⟨r2, h3, e4, e⟩ := bn_of e
      refine xB_callVi hF dX7_goesOn_64 (t_X7_bidder e4) cw_X7_158 sM_0 rfl rfl rfl rfl rfl ?_
      refine xB_istore_n (L' := [_, _, _, _]) hF dX7_goesOn_67 rfl rfl rfl ?_
      refine xB_aload_n hF dX7_goesOn_68 rfl ?_
      refine xB_iload_n hF dX7_goesOn_69 rfl ?_
      refine xB_iload_n hF dX7_goesOn_70 rfl ?_
      obtain ⟨r5, h6, e7, e⟩ := bn_of e
      refine xB_callVi hF dX7_goesOn_71 (t_X7_offerOf e7) cw_X7_142 sM_0 rfl rfl rfl rfl rfl ?_
      refine xB_istore_n (L' := [_, _, _, _]) hF dX7_goesOn_74 rfl rfl rfl ?_
      refine xB_iload_n hF dX7_goesOn_75 rfl ?_
      refine xB_aload_n hF dX7_goesOn_76 rfl ?_
      refine xB_aload_n hF dX7_goesOn_77 rfl ?_
      refine xB_iload_n hF dX7_goesOn_78 rfl ?_
      refine xB_iconst hF dX7_goesOn_79 ki_4 ?_
      obtain ⟨r8, h9, e10, e⟩ := bn_of e
      refine xB_callVi hF dX7_goesOn_80 (t_X7_of e10) cw_X7_97 sM_0 rfl rfl rfl rfl rfl ?_
      refine xB_iload_n hF dX7_goesOn_83 rfl ?_
      obtain ⟨r11, h12, e13, e⟩ := bn_of e
      refine xB_callVi hF dX7_goesOn_84 (t_X7_offerOf e13) cw_X7_142 sM_0 rfl rfl rfl rfl rfl ?_
      refine xB_icmp_le (tgt := 97) hF dX7_goesOn_87 rfl e (fun _ e => ?_) (fun _ e => ?_)
      · exact xB_l (t_X7_goesOn_c97 hF ih _ _ e) (And.intro rfl (And.intro rfl (True.intro)))
      · refine xB_aload_n hF dX7_goesOn_90 rfl ?_
        refine xB_iload_n hF dX7_goesOn_91 rfl ?_
        refine xB_iload_n hF dX7_goesOn_92 rfl ?_
        refine xB_iload_n hF dX7_goesOn_93 rfl ?_
        obtain ⟨r14, h15, e16, e⟩ := bn_of e
        refine xB_callVv hF dX7_goesOn_94 (t_X7_sells e16) cw_X7_152 sM_0 rfl rfl rfl rfl rfl ?_
        exact xB_l (t_X7_goesOn_c97 hF ih _ _ e) (And.intro rfl (And.intro rfl (True.intro)))
def f_X7_goesOn_c2 : Nat → Int32 → xH → Option (Int32 × xH)
  | 0, _, _ => none
  | n + 1, v1, h =>
    gd 0 3078 <| if (h 1 (Int32.toNatClampNeg 0)) ≤ v1 then (f_X7_goesOn_c52 xN 0 h) else (bn (f_X7_drawn h) fun r1 h2 => bn (f_X7_of v1 3 h2) fun r4 h5 => bn (f_X7_wears v1 (r1 - r1 / 10 * 10) h5) fun r7 h8 => bn (f_X7_within (r4 + r7) 99 h8) fun r10 h11 => bn (f_X7_sets v1 3 r10 h11) fun r13 h14 => f_X7_goesOn_c2 n (v1 + 1) h14)
set_option maxRecDepth 20000 in
set_option maxHeartbeats 2000000 in
theorem t_X7_goesOn_c2 {l : Launch} {γ : xG} {r : Int32} {hr : xH} {C : xCx} (hF : xF C cX7_goesOn RX7 4 6 γ xSM none hr l none) : ∀ (n : Nat) (v1 : Int32) (h : xH), f_X7_goesOn_c2 n v1 h = some (r, hr) → xB C h 2 [some (.ref (γ.2.2.2 0)), some (.int v1), none, none] [] := by
  intro n
  induction n with
  | zero => intro v1 h e; cases e
  | succ n ih =>
    intro v1 h e
    rw [f_X7_goesOn_c2] at e
    refine xB_iload_n hF dX7_goesOn_2 rfl ?_
    refine xB_aload_n hF dX7_goesOn_3 rfl ?_
    refine xB_get hF dX7_goesOn_4 fl_X7_7 sM_0 rfl rfl ?_
    refine xB_iconst hF dX7_goesOn_7 ki_0 ?_
    refine xB_iald hF dX7_goesOn_8 sM_1 e (fun e => ?_)
    refine xB_icmp_ge (tgt := 50) hF dX7_goesOn_9 rfl e (fun _ e => ?_) (fun _ e => ?_)
    · refine xB_iconst hF dX7_goesOn_50 ki_0 ?_
      refine xB_istore_n (L' := [_, _, _, _]) hF dX7_goesOn_51 rfl rfl rfl ?_
      exact xB_l (t_X7_goesOn_c52 hF _ _ _ e) (And.intro rfl (And.intro rfl (True.intro)))
    · refine xB_aload_n hF dX7_goesOn_12 rfl ?_
      obtain ⟨r1, h2, e3, e⟩ := bn_of e
      refine xB_callVi hF dX7_goesOn_13 (t_X7_drawn e3) cw_X7_147 sM_0 rfl rfl rfl rfl rfl ?_
      refine xB_bipush hF dX7_goesOn_16 kb_10 ?_
      refine xB_iremc hF dX7_goesOn_18 (by decide) ?_
      refine xB_istore_n (L' := [_, _, _, _]) hF dX7_goesOn_19 rfl rfl rfl ?_
      refine xB_aload_n hF dX7_goesOn_20 rfl ?_
      refine xB_iload_n hF dX7_goesOn_21 rfl ?_
      refine xB_iconst hF dX7_goesOn_22 ki_3 ?_
      refine xB_aload_n hF dX7_goesOn_23 rfl ?_
      refine xB_iload_n hF dX7_goesOn_24 rfl ?_
      refine xB_iconst hF dX7_goesOn_25 ki_3 ?_
      obtain ⟨r4, h5, e6, e⟩ := bn_of e
      refine xB_callVi hF dX7_goesOn_26 (t_X7_of e6) cw_X7_97 sM_0 rfl rfl rfl rfl rfl ?_
      refine xB_aload_n hF dX7_goesOn_29 rfl ?_
      refine xB_iload_n hF dX7_goesOn_30 rfl ?_
      refine xB_iload_n hF dX7_goesOn_31 rfl ?_
      obtain ⟨r7, h8, e9, e⟩ := bn_of e
      refine xB_callVi hF dX7_goesOn_32 (t_X7_wears e9) cw_X7_155 sM_0 rfl rfl rfl rfl rfl ?_
      refine xB_iadd hF dX7_goesOn_35 ?_
      refine xB_bipush hF dX7_goesOn_36 kb_99 ?_
      obtain ⟨r10, h11, e12, e⟩ := bn_of e
      refine xB_callSi hF dX7_goesOn_38 (t_X7_within e12) cw_X7_101 rfl rfl rfl rfl ?_
      obtain ⟨r13, h14, e15, e⟩ := bn_of e
      refine xB_callVv hF dX7_goesOn_41 (t_X7_sets e15) cw_X7_73 sM_0 rfl rfl rfl rfl rfl ?_
      refine xB_iinc (L' := [_, _, _, _]) hF dX7_goesOn_44 rfl ki_1 rfl rfl rfl ?_
      refine xB_goto (tgt := 2) hF dX7_goesOn_47 rfl ?_
      exact xB_l (ih _ _ e) (And.intro rfl (And.intro rfl (True.intro)))
def f_X7_goesOn (h : xH) : Option (Int32 × xH) :=
    f_X7_goesOn_c2 xN 0 h
set_option maxRecDepth 20000 in
set_option maxHeartbeats 2000000 in
theorem t_X7_goesOn {l : Launch} {γ : xG} {h : xH} {r : Int32} {hr : xH} (e : f_X7_goesOn h = some (r, hr)) : xCT l γ xSM yX7_goesOn cX7_goesOn 4 none 6 [.ref (γ.2.2.2 0)] h none hr := by
  refine xCT.of (own := RX7) (L := [some (.ref (γ.2.2.2 0)), none, none, none]) (by decide) rfl rfl rfl (fun C hF => ?_)
  unfold f_X7_goesOn at e
  refine xB_iconst hF dX7_goesOn_0 ki_0 ?_
  refine xB_istore_n (L' := [_, _, _, _]) hF dX7_goesOn_1 rfl rfl rfl ?_
  exact xB_l (t_X7_goesOn_c2 hF _ _ _ e) (And.intro rfl (And.intro rfl (True.intro)))
def f_X7_markets_c51 (a1 : Int32) (v2 : Int32) (h : xH) : Option (Int32 × xH) :=
    gd 3 3078 <| some ((h 1 (Int32.toNatClampNeg 3)) - v2, h)
set_option maxRecDepth 20000 in
set_option maxHeartbeats 2000000 in
theorem t_X7_markets_c51 {l : Launch} {γ : xG} {a1 : Int32} {r : Int32} {hr : xH} {C : xCx} (hF : xF C cX7_markets RX7 4 7 γ xSM (some (.int r)) hr l (some .int)) : ∀ (v2 : Int32) (h : xH), f_X7_markets_c51 a1 v2 h = some (r, hr) → xB C h 51 [some (.ref (γ.2.2.2 0)), some (.int a1), some (.int v2), none] [] := by
  intro v2 h e
  unfold f_X7_markets_c51 at e
  refine xB_aload_n hF dX7_markets_51 rfl ?_
  refine xB_get hF dX7_markets_52 fl_X7_7 sM_0 rfl rfl ?_
  refine xB_iconst hF dX7_markets_55 ki_3 ?_
  refine xB_iald hF dX7_markets_56 sM_1 e (fun e => ?_)
  refine xB_iload_n hF dX7_markets_57 rfl ?_
  refine xB_isub hF dX7_markets_58 ?_
  exact xB_ireturn hF dX7_markets_59 e
def f_X7_markets_c24 (a1 : Int32) : Nat → Int32 → Int32 → xH → Option (Int32 × xH)
  | 0, _, _, _ => none
  | n + 1, v2, v3, h =>
    if a1 ≤ v3 then (f_X7_markets_c51 a1 v2 h) else (gd 2 3078 <| if 9999 ≤ (h 1 (Int32.toNatClampNeg 2)) then (f_X7_markets_c51 a1 v2 h) else (bn (f_X7_goesOn h) fun r1 h2 => f_X7_markets_c24 a1 n v2 (v3 + 1) h2))
set_option maxRecDepth 20000 in
set_option maxHeartbeats 2000000 in
theorem t_X7_markets_c24 {l : Launch} {γ : xG} {a1 : Int32} {r : Int32} {hr : xH} {C : xCx} (hF : xF C cX7_markets RX7 4 7 γ xSM (some (.int r)) hr l (some .int)) : ∀ (n : Nat) (v2 : Int32) (v3 : Int32) (h : xH), f_X7_markets_c24 a1 n v2 v3 h = some (r, hr) → xB C h 24 [some (.ref (γ.2.2.2 0)), some (.int a1), some (.int v2), some (.int v3)] [] := by
  intro n
  induction n with
  | zero => intro v2 v3 h e; cases e
  | succ n ih =>
    intro v2 v3 h e
    rw [f_X7_markets_c24] at e
    refine xB_iload_n hF dX7_markets_24 rfl ?_
    refine xB_iload_n hF dX7_markets_25 rfl ?_
    refine xB_icmp_ge (tgt := 51) hF dX7_markets_26 rfl e (fun _ e => ?_) (fun _ e => ?_)
    · exact xB_l (t_X7_markets_c51 hF _ _ e) (And.intro rfl (And.intro rfl (And.intro rfl (True.intro))))
    · refine xB_aload_n hF dX7_markets_29 rfl ?_
      refine xB_get hF dX7_markets_30 fl_X7_7 sM_0 rfl rfl ?_
      refine xB_iconst hF dX7_markets_33 ki_2 ?_
      refine xB_iald hF dX7_markets_34 sM_1 e (fun e => ?_)
      refine xB_sipush hF dX7_markets_35 ks_9999 ?_
      refine xB_icmp_ge (tgt := 51) hF dX7_markets_38 rfl e (fun _ e => ?_) (fun _ e => ?_)
      · exact xB_l (t_X7_markets_c51 hF _ _ e) (And.intro rfl (And.intro rfl (And.intro rfl (True.intro))))
      · refine xB_aload_n hF dX7_markets_41 rfl ?_
        obtain ⟨r1, h2, e3, e⟩ := bn_of e
        refine xB_callVv hF dX7_markets_42 (t_X7_goesOn e3) cw_X7_163 sM_0 rfl rfl rfl rfl rfl ?_
        refine xB_iinc (L' := [_, _, _, _]) hF dX7_markets_45 rfl ki_1 rfl rfl rfl ?_
        refine xB_goto (tgt := 24) hF dX7_markets_48 rfl ?_
        exact xB_l (ih _ _ _ e) (And.intro rfl (And.intro rfl (And.intro rfl (And.intro rfl (True.intro)))))
def f_X7_markets (a1 : Int32) (h : xH) : Option (Int32 × xH) :=
    bn (f_X7_isIn (Int32.toInt64 a1) 1 100 h) fun r1 h2 => if r1 = 0 then (some ((-1000000001), h2)) else (gd 3 3078 <| nm (h2 1 (Int32.toNatClampNeg 3)) fun x4 => f_X7_markets_c24 a1 xN x4 0 h2)
set_option maxRecDepth 20000 in
set_option maxHeartbeats 2000000 in
theorem t_X7_markets {l : Launch} {γ : xG} {a1 : Int32} {h : xH} {r : Int32} {hr : xH} (e : f_X7_markets a1 h = some (r, hr)) : xCT l γ xSM yX7_markets cX7_markets 4 (some .int) 7 [.ref (γ.2.2.2 0), .int a1] h (some (.int r)) hr := by
  refine xCT.of (own := RX7) (L := [some (.ref (γ.2.2.2 0)), some (.int a1), none, none]) (by decide) rfl rfl rfl (fun C hF => ?_)
  unfold f_X7_markets at e
  refine xB_iload_n hF dX7_markets_0 rfl ?_
  refine xB_i2l hF dX7_markets_1 ?_
  refine xB_lconst (v := 1) hF dX7_markets_2 (by decide) ?_
  refine xB_ldc2 hF dX7_markets_3 kc_X7_161 ?_
  obtain ⟨r1, h2, e3, e⟩ := bn_of e
  refine xB_callSi hF dX7_markets_6 (t_X7_isIn e3) cw_X7_68 rfl rfl rfl rfl ?_
  refine xB_if_ne (tgt := 15) hF dX7_markets_9 rfl e (fun _ e => ?_) (fun _ e => ?_)
  · refine xB_ldc hF dX7_markets_12 kc_X7_87 ?_
    exact xB_ireturn hF dX7_markets_14 e
  · refine xB_aload_n hF dX7_markets_15 rfl ?_
    refine xB_get hF dX7_markets_16 fl_X7_7 sM_0 rfl rfl ?_
    refine xB_iconst hF dX7_markets_19 ki_3 ?_
    refine xB_iald hF dX7_markets_20 sM_1 e (fun e => ?_)
    refine xB_istore_n (L' := [_, _, _, _]) hF dX7_markets_21 rfl rfl rfl ?_
    replace e := nm_of e
    refine xB_iconst hF dX7_markets_22 ki_0 ?_
    refine xB_istore_n (L' := [_, _, _, _]) hF dX7_markets_23 rfl rfl rfl ?_
    exact xB_l (t_X7_markets_c24 hF _ _ _ _ e) (And.intro rfl (And.intro rfl (And.intro rfl (And.intro rfl (True.intro)))))
def f_X7_allCoins_c4 : Nat → Int32 → Int32 → xH → Option (Int32 × xH)
  | 0, _, _, _ => none
  | n + 1, v1, v2, h =>
    if 6 ≤ v2 then (some (v1, h)) else (gd (6 + v2) 3078 <| nm (v1 + (h 1 (Int32.toNatClampNeg (6 + v2)))) fun x1 => f_X7_allCoins_c4 n x1 (v2 + 1) h)
set_option maxRecDepth 20000 in
set_option maxHeartbeats 2000000 in
theorem t_X7_allCoins_c4 {l : Launch} {γ : xG} {r : Int32} {hr : xH} {C : xCx} (hF : xF C cX7_allCoins RX7 3 0 γ xSM (some (.int r)) hr l (some .int)) : ∀ (n : Nat) (v1 : Int32) (v2 : Int32) (h : xH), f_X7_allCoins_c4 n v1 v2 h = some (r, hr) → xB C h 4 [some (.ref (γ.2.2.2 0)), some (.int v1), some (.int v2)] [] := by
  intro n
  induction n with
  | zero => intro v1 v2 h e; cases e
  | succ n ih =>
    intro v1 v2 h e
    rw [f_X7_allCoins_c4] at e
    refine xB_iload_n hF dX7_allCoins_4 rfl ?_
    refine xB_bipush hF dX7_allCoins_5 kb_6 ?_
    refine xB_icmp_ge (tgt := 28) hF dX7_allCoins_7 rfl e (fun _ e => ?_) (fun _ e => ?_)
    · refine xB_iload_n hF dX7_allCoins_28 rfl ?_
      exact xB_ireturn hF dX7_allCoins_29 e
    · refine xB_iload_n hF dX7_allCoins_10 rfl ?_
      refine xB_aload_n hF dX7_allCoins_11 rfl ?_
      refine xB_get hF dX7_allCoins_12 fl_X7_7 sM_0 rfl rfl ?_
      refine xB_bipush hF dX7_allCoins_15 kb_6 ?_
      refine xB_iload_n hF dX7_allCoins_17 rfl ?_
      refine xB_iadd hF dX7_allCoins_18 ?_
      refine xB_iald hF dX7_allCoins_19 sM_1 e (fun e => ?_)
      refine xB_iadd hF dX7_allCoins_20 ?_
      refine xB_istore_n (L' := [_, _, _]) hF dX7_allCoins_21 rfl rfl rfl ?_
      replace e := nm_of e
      refine xB_iinc (L' := [_, _, _]) hF dX7_allCoins_22 rfl ki_1 rfl rfl rfl ?_
      refine xB_goto (tgt := 4) hF dX7_allCoins_25 rfl ?_
      exact xB_l (ih _ _ _ e) (And.intro rfl (And.intro rfl (And.intro rfl (True.intro))))
def f_X7_allCoins (h : xH) : Option (Int32 × xH) :=
    f_X7_allCoins_c4 xN 0 0 h
set_option maxRecDepth 20000 in
set_option maxHeartbeats 2000000 in
theorem t_X7_allCoins {l : Launch} {γ : xG} {h : xH} {r : Int32} {hr : xH} (e : f_X7_allCoins h = some (r, hr)) : xCT l γ xSM yX7_allCoins cX7_allCoins 3 (some .int) 0 [.ref (γ.2.2.2 0)] h (some (.int r)) hr := by
  refine xCT.of (own := RX7) (L := [some (.ref (γ.2.2.2 0)), none, none]) (by decide) rfl rfl rfl (fun C hF => ?_)
  unfold f_X7_allCoins at e
  refine xB_iconst hF dX7_allCoins_0 ki_0 ?_
  refine xB_istore_n (L' := [_, _, _]) hF dX7_allCoins_1 rfl rfl rfl ?_
  refine xB_iconst hF dX7_allCoins_2 ki_0 ?_
  refine xB_istore_n (L' := [_, _, _]) hF dX7_allCoins_3 rfl rfl rfl ?_
  exact xB_l (t_X7_allCoins_c4 hF _ _ _ _ e) (And.intro rfl (And.intro rfl (And.intro rfl (True.intro))))
def f_X7_ledger (a1 : Int32) (h : xH) : Option (Int32 × xH) :=
    if a1 = 0 then (gd 3 3078 <| some (h 1 (Int32.toNatClampNeg 3), h)) else (if a1 = 1 then (gd 4 3078 <| some (h 1 (Int32.toNatClampNeg 4), h)) else (if a1 = 2 then (bn (f_X7_allCoins h) fun r1 h2 => some (r1, h2)) else (some ((-1000000001), h))))
set_option maxRecDepth 20000 in
set_option maxHeartbeats 2000000 in
theorem t_X7_ledger {l : Launch} {γ : xG} {a1 : Int32} {h : xH} {r : Int32} {hr : xH} (e : f_X7_ledger a1 h = some (r, hr)) : xCT l γ xSM yX7_ledger cX7_ledger 2 (some .int) 1 [.ref (γ.2.2.2 0), .int a1] h (some (.int r)) hr := by
  refine xCT.of (own := RX7) (L := [some (.ref (γ.2.2.2 0)), some (.int a1)]) (by decide) rfl rfl rfl (fun C hF => ?_)
  unfold f_X7_ledger at e
  refine xB_iload_n hF dX7_ledger_0 rfl ?_
  rcases if_of e with ⟨c0, e⟩ | ⟨c0, e⟩
  · refine xB_tableIn (v := (0)) (tgt := 28) hF dX7_ledger_1 c0 (by decide) (by decide) rfl rfl ?_
    refine xB_aload_n hF dX7_ledger_28 rfl ?_
    refine xB_get hF dX7_ledger_29 fl_X7_7 sM_0 rfl rfl ?_
    refine xB_iconst hF dX7_ledger_32 ki_3 ?_
    refine xB_iald hF dX7_ledger_33 sM_1 e (fun e => ?_)
    exact xB_ireturn hF dX7_ledger_34 e
  rcases if_of e with ⟨c1, e⟩ | ⟨c1, e⟩
  · refine xB_tableIn (v := (1)) (tgt := 35) hF dX7_ledger_1 c1 (by decide) (by decide) rfl rfl ?_
    refine xB_aload_n hF dX7_ledger_35 rfl ?_
    refine xB_get hF dX7_ledger_36 fl_X7_7 sM_0 rfl rfl ?_
    refine xB_iconst hF dX7_ledger_39 ki_4 ?_
    refine xB_iald hF dX7_ledger_40 sM_1 e (fun e => ?_)
    exact xB_ireturn hF dX7_ledger_41 e
  rcases if_of e with ⟨c2, e⟩ | ⟨c2, e⟩
  · refine xB_tableIn (v := (2)) (tgt := 42) hF dX7_ledger_1 c2 (by decide) (by decide) rfl rfl ?_
    refine xB_aload_n hF dX7_ledger_42 rfl ?_
    obtain ⟨r1, h2, e3, e⟩ := bn_of e
    refine xB_callVi hF dX7_ledger_43 (t_X7_allCoins e3) cw_X7_166 sM_0 rfl rfl rfl rfl rfl ?_
    exact xB_ireturn hF dX7_ledger_46 e
  refine xB_tableOut (tgt := 47) hF dX7_ledger_1 (by have := xne (v := (0)) (n := 0) rfl c0; have := xne (v := (1)) (n := 1) rfl c1; have := xne (v := (2)) (n := 2) rfl c2; omega) rfl ?_
  refine xB_ldc hF dX7_ledger_47 kc_X7_87 ?_
  exact xB_ireturn hF dX7_ledger_49 e
def f_X7_manyWith_c44 (k5 : Int32 → Int32 → xH → Option (Int32 × xH)) (a1 : Int32) (a2 : Int32) (v4 : Int32) (s0 : Int32) (s1 : Int32) (h : xH) : Option (Int32 × xH) :=
    k5 (s1 + s0) (v4 + 1) h
set_option maxRecDepth 20000 in
set_option maxHeartbeats 2000000 in
theorem t_X7_manyWith_c44 {l : Launch} {γ : xG} {k5 : Int32 → Int32 → xH → Option (Int32 × xH)} {a1 : Int32} {a2 : Int32} {r : Int32} {hr : xH} {C : xCx} (hF : xF C cX7_manyWith RX7 5 1 γ xSM (some (.int r)) hr l (some .int)) (hk5 : ∀ (v3 : Int32) (v4 : Int32) (h : xH), k5 v3 v4 h = some (r, hr) → xB C h 5 [some (.ref (γ.2.2.2 0)), some (.int a1), some (.int a2), some (.int v3), some (.int v4)] []) : ∀ (v4 : Int32) (s0 : Int32) (s1 : Int32) (h : xH), f_X7_manyWith_c44 k5 a1 a2 v4 s0 s1 h = some (r, hr) → xB C h 44 [some (.ref (γ.2.2.2 0)), some (.int a1), some (.int a2), none, some (.int v4)] [.int s0, .int s1] := by
  intro v4 s0 s1 h e
  unfold f_X7_manyWith_c44 at e
  refine xB_iadd hF dX7_manyWith_44 ?_
  refine xB_istore_n (L' := [_, _, _, _, _]) hF dX7_manyWith_45 rfl rfl rfl ?_
  refine xB_iinc (L' := [_, _, _, _, _]) hF dX7_manyWith_46 rfl ki_1 rfl rfl rfl ?_
  refine xB_goto (tgt := 5) hF dX7_manyWith_49 rfl ?_
  exact xB_l (hk5 _ _ _ e) (And.intro rfl (And.intro rfl (And.intro rfl (And.intro rfl (And.intro rfl (True.intro))))))
def f_X7_manyWith_c43 (k5 : Int32 → Int32 → xH → Option (Int32 × xH)) (a1 : Int32) (a2 : Int32) (v4 : Int32) (s0 : Int32) (h : xH) : Option (Int32 × xH) :=
    f_X7_manyWith_c44 k5 a1 a2 v4 0 s0 h
set_option maxRecDepth 20000 in
set_option maxHeartbeats 2000000 in
theorem t_X7_manyWith_c43 {l : Launch} {γ : xG} {k5 : Int32 → Int32 → xH → Option (Int32 × xH)} {a1 : Int32} {a2 : Int32} {r : Int32} {hr : xH} {C : xCx} (hF : xF C cX7_manyWith RX7 5 1 γ xSM (some (.int r)) hr l (some .int)) (hk5 : ∀ (v3 : Int32) (v4 : Int32) (h : xH), k5 v3 v4 h = some (r, hr) → xB C h 5 [some (.ref (γ.2.2.2 0)), some (.int a1), some (.int a2), some (.int v3), some (.int v4)] []) : ∀ (v4 : Int32) (s0 : Int32) (h : xH), f_X7_manyWith_c43 k5 a1 a2 v4 s0 h = some (r, hr) → xB C h 43 [some (.ref (γ.2.2.2 0)), some (.int a1), some (.int a2), none, some (.int v4)] [.int s0] := by
  intro v4 s0 h e
  unfold f_X7_manyWith_c43 at e
  refine xB_iconst hF dX7_manyWith_43 ki_0 ?_
  exact xB_l (t_X7_manyWith_c44 hF hk5 _ _ _ _ e) (And.intro rfl (And.intro rfl (And.intro rfl (And.intro rfl (True.intro)))))
def f_X7_manyWith_c5 (a1 : Int32) (a2 : Int32) : Nat → Int32 → Int32 → xH → Option (Int32 × xH)
  | 0, _, _, _ => none
  | n + 1, v3, v4, h =>
    gd 0 3078 <| if (h 1 (Int32.toNatClampNeg 0)) ≤ v4 then (some (v3, h)) else (bn (f_X7_of v4 1 h) fun r1 h2 => if r1 = a1 then (bn (f_X7_of v4 2 h2) fun r4 h5 => if r4 = a2 then (f_X7_manyWith_c44 (f_X7_manyWith_c5 a1 a2 n) a1 a2 v4 1 v3 h5) else (f_X7_manyWith_c43 (f_X7_manyWith_c5 a1 a2 n) a1 a2 v4 v3 h5)) else (f_X7_manyWith_c43 (f_X7_manyWith_c5 a1 a2 n) a1 a2 v4 v3 h2))
set_option maxRecDepth 20000 in
set_option maxHeartbeats 2000000 in
theorem t_X7_manyWith_c5 {l : Launch} {γ : xG} {a1 : Int32} {a2 : Int32} {r : Int32} {hr : xH} {C : xCx} (hF : xF C cX7_manyWith RX7 5 1 γ xSM (some (.int r)) hr l (some .int)) : ∀ (n : Nat) (v3 : Int32) (v4 : Int32) (h : xH), f_X7_manyWith_c5 a1 a2 n v3 v4 h = some (r, hr) → xB C h 5 [some (.ref (γ.2.2.2 0)), some (.int a1), some (.int a2), some (.int v3), some (.int v4)] [] := by
  intro n
  induction n with
  | zero => intro v3 v4 h e; cases e
  | succ n ih =>
    intro v3 v4 h e
    rw [f_X7_manyWith_c5] at e
    refine xB_iload hF dX7_manyWith_5 rfl ?_
    refine xB_aload_n hF dX7_manyWith_7 rfl ?_
    refine xB_get hF dX7_manyWith_8 fl_X7_7 sM_0 rfl rfl ?_
    refine xB_iconst hF dX7_manyWith_11 ki_0 ?_
    refine xB_iald hF dX7_manyWith_12 sM_1 e (fun e => ?_)
    refine xB_icmp_ge (tgt := 52) hF dX7_manyWith_13 rfl e (fun _ e => ?_) (fun _ e => ?_)
    · refine xB_iload_n hF dX7_manyWith_52 rfl ?_
      exact xB_ireturn hF dX7_manyWith_53 e
    · refine xB_iload_n hF dX7_manyWith_16 rfl ?_
      refine xB_aload_n hF dX7_manyWith_17 rfl ?_
      refine xB_iload hF dX7_manyWith_18 rfl ?_
      refine xB_iconst hF dX7_manyWith_20 ki_1 ?_
      obtain ⟨r1, h2, e3, e⟩ := bn_of e
      refine xB_callVi hF dX7_manyWith_21 (t_X7_of e3) cw_X7_97 sM_0 rfl rfl rfl rfl rfl ?_
      refine xB_iload_n hF dX7_manyWith_24 rfl ?_
      refine xB_icmp_ne (tgt := 43) hF dX7_manyWith_25 rfl e (fun _ e => ?_) (fun _ e => ?_)
      · refine xB_aload_n hF dX7_manyWith_28 rfl ?_
        refine xB_iload hF dX7_manyWith_29 rfl ?_
        refine xB_iconst hF dX7_manyWith_31 ki_2 ?_
        obtain ⟨r4, h5, e6, e⟩ := bn_of e
        refine xB_callVi hF dX7_manyWith_32 (t_X7_of e6) cw_X7_97 sM_0 rfl rfl rfl rfl rfl ?_
        refine xB_iload_n hF dX7_manyWith_35 rfl ?_
        refine xB_icmp_ne (tgt := 43) hF dX7_manyWith_36 rfl e (fun _ e => ?_) (fun _ e => ?_)
        · refine xB_iconst hF dX7_manyWith_39 ki_1 ?_
          refine xB_goto (tgt := 44) hF dX7_manyWith_40 rfl ?_
          exact xB_l (t_X7_manyWith_c44 hF ih _ _ _ _ e) (And.intro rfl (And.intro rfl (And.intro rfl (And.intro rfl (True.intro)))))
        · exact xB_l (t_X7_manyWith_c43 hF ih _ _ _ e) (And.intro rfl (And.intro rfl (And.intro rfl (And.intro rfl (True.intro)))))
      · exact xB_l (t_X7_manyWith_c43 hF ih _ _ _ e) (And.intro rfl (And.intro rfl (And.intro rfl (And.intro rfl (True.intro)))))
def f_X7_manyWith (a1 : Int32) (a2 : Int32) (h : xH) : Option (Int32 × xH) :=
    f_X7_manyWith_c5 a1 a2 xN 0 0 h
set_option maxRecDepth 20000 in
set_option maxHeartbeats 2000000 in
theorem t_X7_manyWith {l : Launch} {γ : xG} {a1 : Int32} {a2 : Int32} {h : xH} {r : Int32} {hr : xH} (e : f_X7_manyWith a1 a2 h = some (r, hr)) : xCT l γ xSM yX7_manyWith cX7_manyWith 5 (some .int) 1 [.ref (γ.2.2.2 0), .int a1, .int a2] h (some (.int r)) hr := by
  refine xCT.of (own := RX7) (L := [some (.ref (γ.2.2.2 0)), some (.int a1), some (.int a2), none, none]) (by decide) rfl rfl rfl (fun C hF => ?_)
  unfold f_X7_manyWith at e
  refine xB_iconst hF dX7_manyWith_0 ki_0 ?_
  refine xB_istore_n (L' := [_, _, _, _, _]) hF dX7_manyWith_1 rfl rfl rfl ?_
  refine xB_iconst hF dX7_manyWith_2 ki_0 ?_
  refine xB_istore (L' := [_, _, _, _, _]) hF dX7_manyWith_3 rfl rfl rfl ?_
  exact xB_l (t_X7_manyWith_c5 hF _ _ _ _ e) (And.intro rfl (And.intro rfl (And.intro rfl (And.intro rfl (And.intro rfl (True.intro))))))
def f_X7_trueOf_c35 (k7 : Int32 → Int32 → Int32 → xH → Option (Int32 × xH)) (a1 : Int32) (v2 : Int32) (v3 : Int32) (v4 : Int32) (h : xH) : Option (Int32 × xH) :=
    k7 v2 v3 (v4 + 1) h
set_option maxRecDepth 20000 in
set_option maxHeartbeats 2000000 in
theorem t_X7_trueOf_c35 {l : Launch} {γ : xG} {k7 : Int32 → Int32 → Int32 → xH → Option (Int32 × xH)} {a1 : Int32} {r : Int32} {hr : xH} {C : xCx} (hF : xF C cX7_trueOf RX7 6 2 γ xSM (some (.int r)) hr l (some .int)) (hk7 : ∀ (v2 : Int32) (v3 : Int32) (v4 : Int32) (h : xH), k7 v2 v3 v4 h = some (r, hr) → xB C h 7 [some (.ref (γ.2.2.2 0)), some (.int a1), some (.int v2), some (.int v3), some (.int v4), none] []) : ∀ (v2 : Int32) (v3 : Int32) (v4 : Int32) (h : xH), f_X7_trueOf_c35 k7 a1 v2 v3 v4 h = some (r, hr) → xB C h 35 [some (.ref (γ.2.2.2 0)), some (.int a1), some (.int v2), some (.int v3), some (.int v4), none] [] := by
  intro v2 v3 v4 h e
  unfold f_X7_trueOf_c35 at e
  refine xB_iinc (L' := [_, _, _, _, _, _]) hF dX7_trueOf_35 rfl ki_1 rfl rfl rfl ?_
  refine xB_goto (tgt := 7) hF dX7_trueOf_38 rfl ?_
  exact xB_l (hk7 _ _ _ _ e) (And.intro rfl (And.intro rfl (And.intro rfl (And.intro rfl (And.intro rfl (True.intro))))))
def f_X7_trueOf_c7 (a1 : Int32) : Nat → Int32 → Int32 → Int32 → xH → Option (Int32 × xH)
  | 0, _, _, _, _ => none
  | n + 1, v2, v3, v4, h =>
    if 10 ≤ v4 then (some (v2, h)) else (bn (f_X7_manyWith a1 v4 h) fun r1 h2 => if r1 ≤ v3 then (f_X7_trueOf_c35 (f_X7_trueOf_c7 a1 n) a1 v2 v3 v4 h2) else (f_X7_trueOf_c35 (f_X7_trueOf_c7 a1 n) a1 v4 r1 v4 h2))
set_option maxRecDepth 20000 in
set_option maxHeartbeats 2000000 in
theorem t_X7_trueOf_c7 {l : Launch} {γ : xG} {a1 : Int32} {r : Int32} {hr : xH} {C : xCx} (hF : xF C cX7_trueOf RX7 6 2 γ xSM (some (.int r)) hr l (some .int)) : ∀ (n : Nat) (v2 : Int32) (v3 : Int32) (v4 : Int32) (h : xH), f_X7_trueOf_c7 a1 n v2 v3 v4 h = some (r, hr) → xB C h 7 [some (.ref (γ.2.2.2 0)), some (.int a1), some (.int v2), some (.int v3), some (.int v4), none] [] := by
  intro n
  induction n with
  | zero => intro v2 v3 v4 h e; cases e
  | succ n ih =>
    intro v2 v3 v4 h e
    rw [f_X7_trueOf_c7] at e
    refine xB_iload hF dX7_trueOf_7 rfl ?_
    refine xB_bipush hF dX7_trueOf_9 kb_10 ?_
    refine xB_icmp_ge (tgt := 41) hF dX7_trueOf_11 rfl e (fun _ e => ?_) (fun _ e => ?_)
    · refine xB_iload_n hF dX7_trueOf_41 rfl ?_
      exact xB_ireturn hF dX7_trueOf_42 e
    · refine xB_aload_n hF dX7_trueOf_14 rfl ?_
      refine xB_iload_n hF dX7_trueOf_15 rfl ?_
      refine xB_iload hF dX7_trueOf_16 rfl ?_
      obtain ⟨r1, h2, e3, e⟩ := bn_of e
      refine xB_callVi hF dX7_trueOf_18 (t_X7_manyWith e3) cw_X7_169 sM_0 rfl rfl rfl rfl rfl ?_
      refine xB_istore (L' := [_, _, _, _, _, _]) hF dX7_trueOf_21 rfl rfl rfl ?_
      refine xB_iload hF dX7_trueOf_23 rfl ?_
      refine xB_iload_n hF dX7_trueOf_25 rfl ?_
      refine xB_icmp_le (tgt := 35) hF dX7_trueOf_26 rfl e (fun _ e => ?_) (fun _ e => ?_)
      · exact xB_l (t_X7_trueOf_c35 hF ih _ _ _ _ e) (And.intro rfl (And.intro rfl (And.intro rfl (And.intro rfl (And.intro rfl (True.intro))))))
      · refine xB_iload hF dX7_trueOf_29 rfl ?_
        refine xB_istore_n (L' := [_, _, _, _, _, _]) hF dX7_trueOf_31 rfl rfl rfl ?_
        refine xB_iload hF dX7_trueOf_32 rfl ?_
        refine xB_istore_n (L' := [_, _, _, _, _, _]) hF dX7_trueOf_34 rfl rfl rfl ?_
        exact xB_l (t_X7_trueOf_c35 hF ih _ _ _ _ e) (And.intro rfl (And.intro rfl (And.intro rfl (And.intro rfl (And.intro rfl (True.intro))))))
def f_X7_trueOf (a1 : Int32) (h : xH) : Option (Int32 × xH) :=
    f_X7_trueOf_c7 a1 xN (-1) 0 0 h
set_option maxRecDepth 20000 in
set_option maxHeartbeats 2000000 in
theorem t_X7_trueOf {l : Launch} {γ : xG} {a1 : Int32} {h : xH} {r : Int32} {hr : xH} (e : f_X7_trueOf a1 h = some (r, hr)) : xCT l γ xSM yX7_trueOf cX7_trueOf 6 (some .int) 2 [.ref (γ.2.2.2 0), .int a1] h (some (.int r)) hr := by
  refine xCT.of (own := RX7) (L := [some (.ref (γ.2.2.2 0)), some (.int a1), none, none, none, none]) (by decide) rfl rfl rfl (fun C hF => ?_)
  unfold f_X7_trueOf at e
  refine xB_iconst hF dX7_trueOf_0 ki_m1 ?_
  refine xB_istore_n (L' := [_, _, _, _, _, _]) hF dX7_trueOf_1 rfl rfl rfl ?_
  refine xB_iconst hF dX7_trueOf_2 ki_0 ?_
  refine xB_istore_n (L' := [_, _, _, _, _, _]) hF dX7_trueOf_3 rfl rfl rfl ?_
  refine xB_iconst hF dX7_trueOf_4 ki_0 ?_
  refine xB_istore (L' := [_, _, _, _, _, _]) hF dX7_trueOf_5 rfl rfl rfl ?_
  exact xB_l (t_X7_trueOf_c7 hF _ _ _ _ _ e) (And.intro rfl (And.intro rfl (And.intro rfl (And.intro rfl (And.intro rfl (True.intro))))))
def f_X7_isTrue (a1 : Int32) (h : xH) : Option (Int32 × xH) :=
    bn (f_X7_isIn (Int32.toInt64 a1) 0 99 h) fun r1 h2 => if r1 = 0 then (some ((-1000000001), h2)) else (bn (f_X7_trueOf a1 h2) fun r4 h5 => bn (f_X7_orNone r4 h5) fun r7 h8 => some (r7, h8))
set_option maxRecDepth 20000 in
set_option maxHeartbeats 2000000 in
theorem t_X7_isTrue {l : Launch} {γ : xG} {a1 : Int32} {h : xH} {r : Int32} {hr : xH} (e : f_X7_isTrue a1 h = some (r, hr)) : xCT l γ xSM yX7_isTrue cX7_isTrue 2 (some .int) 3 [.ref (γ.2.2.2 0), .int a1] h (some (.int r)) hr := by
  refine xCT.of (own := RX7) (L := [some (.ref (γ.2.2.2 0)), some (.int a1)]) (by decide) rfl rfl rfl (fun C hF => ?_)
  unfold f_X7_isTrue at e
  refine xB_iload_n hF dX7_isTrue_0 rfl ?_
  refine xB_i2l hF dX7_isTrue_1 ?_
  refine xB_lconst (v := 0) hF dX7_isTrue_2 (by decide) ?_
  refine xB_ldc2 hF dX7_isTrue_3 kc_X7_79 ?_
  obtain ⟨r1, h2, e3, e⟩ := bn_of e
  refine xB_callSi hF dX7_isTrue_6 (t_X7_isIn e3) cw_X7_68 rfl rfl rfl rfl ?_
  refine xB_if_eq (tgt := 23) hF dX7_isTrue_9 rfl e (fun _ e => ?_) (fun _ e => ?_)
  · refine xB_ldc hF dX7_isTrue_23 kc_X7_87 ?_
    exact xB_ireturn hF dX7_isTrue_25 e
  · refine xB_aload_n hF dX7_isTrue_12 rfl ?_
    refine xB_iload_n hF dX7_isTrue_13 rfl ?_
    obtain ⟨r4, h5, e6, e⟩ := bn_of e
    refine xB_callVi hF dX7_isTrue_14 (t_X7_trueOf e6) cw_X7_172 sM_0 rfl rfl rfl rfl rfl ?_
    obtain ⟨r7, h8, e9, e⟩ := bn_of e
    refine xB_callSi hF dX7_isTrue_17 (t_X7_orNone e9) cw_X7_175 rfl rfl rfl rfl ?_
    refine xB_goto (tgt := 25) hF dX7_isTrue_20 rfl ?_
    exact xB_ireturn hF dX7_isTrue_25 e
def f_X7_falseMany_c39 (k4 : Int32 → Int32 → xH → Option (Int32 × xH)) (v2 : Int32) (s0 : Int32) (s1 : Int32) (h : xH) : Option (Int32 × xH) :=
    k4 (s1 + s0) (v2 + 1) h
set_option maxRecDepth 20000 in
set_option maxHeartbeats 2000000 in
theorem t_X7_falseMany_c39 {l : Launch} {γ : xG} {k4 : Int32 → Int32 → xH → Option (Int32 × xH)} {r : Int32} {hr : xH} {C : xCx} (hF : xF C cX7_falseMany RX7 3 3 γ xSM (some (.int r)) hr l (some .int)) (hk4 : ∀ (v1 : Int32) (v2 : Int32) (h : xH), k4 v1 v2 h = some (r, hr) → xB C h 4 [some (.ref (γ.2.2.2 0)), some (.int v1), some (.int v2)] []) : ∀ (v2 : Int32) (s0 : Int32) (s1 : Int32) (h : xH), f_X7_falseMany_c39 k4 v2 s0 s1 h = some (r, hr) → xB C h 39 [some (.ref (γ.2.2.2 0)), none, some (.int v2)] [.int s0, .int s1] := by
  intro v2 s0 s1 h e
  unfold f_X7_falseMany_c39 at e
  refine xB_iadd hF dX7_falseMany_39 ?_
  refine xB_istore_n (L' := [_, _, _]) hF dX7_falseMany_40 rfl rfl rfl ?_
  refine xB_iinc (L' := [_, _, _]) hF dX7_falseMany_41 rfl ki_1 rfl rfl rfl ?_
  refine xB_goto (tgt := 4) hF dX7_falseMany_44 rfl ?_
  exact xB_l (hk4 _ _ _ e) (And.intro rfl (And.intro rfl (And.intro rfl (True.intro))))
def f_X7_falseMany_c4 : Nat → Int32 → Int32 → xH → Option (Int32 × xH)
  | 0, _, _, _ => none
  | n + 1, v1, v2, h =>
    gd 0 3078 <| if (h 1 (Int32.toNatClampNeg 0)) ≤ v2 then (some (v1, h)) else (bn (f_X7_of v2 2 h) fun r1 h2 => bn (f_X7_of v2 1 h2) fun r4 h5 => bn (f_X7_trueOf r4 h5) fun r7 h8 => if r1 = r7 then (f_X7_falseMany_c39 (f_X7_falseMany_c4 n) v2 0 v1 h8) else (f_X7_falseMany_c39 (f_X7_falseMany_c4 n) v2 1 v1 h8))
set_option maxRecDepth 20000 in
set_option maxHeartbeats 2000000 in
theorem t_X7_falseMany_c4 {l : Launch} {γ : xG} {r : Int32} {hr : xH} {C : xCx} (hF : xF C cX7_falseMany RX7 3 3 γ xSM (some (.int r)) hr l (some .int)) : ∀ (n : Nat) (v1 : Int32) (v2 : Int32) (h : xH), f_X7_falseMany_c4 n v1 v2 h = some (r, hr) → xB C h 4 [some (.ref (γ.2.2.2 0)), some (.int v1), some (.int v2)] [] := by
  intro n
  induction n with
  | zero => intro v1 v2 h e; cases e
  | succ n ih =>
    intro v1 v2 h e
    rw [f_X7_falseMany_c4] at e
    refine xB_iload_n hF dX7_falseMany_4 rfl ?_
    refine xB_aload_n hF dX7_falseMany_5 rfl ?_
    refine xB_get hF dX7_falseMany_6 fl_X7_7 sM_0 rfl rfl ?_
    refine xB_iconst hF dX7_falseMany_9 ki_0 ?_
    refine xB_iald hF dX7_falseMany_10 sM_1 e (fun e => ?_)
    refine xB_icmp_ge (tgt := 47) hF dX7_falseMany_11 rfl e (fun _ e => ?_) (fun _ e => ?_)
    · refine xB_iload_n hF dX7_falseMany_47 rfl ?_
      exact xB_ireturn hF dX7_falseMany_48 e
    · refine xB_iload_n hF dX7_falseMany_14 rfl ?_
      refine xB_aload_n hF dX7_falseMany_15 rfl ?_
      refine xB_iload_n hF dX7_falseMany_16 rfl ?_
      refine xB_iconst hF dX7_falseMany_17 ki_2 ?_
      obtain ⟨r1, h2, e3, e⟩ := bn_of e
      refine xB_callVi hF dX7_falseMany_18 (t_X7_of e3) cw_X7_97 sM_0 rfl rfl rfl rfl rfl ?_
      refine xB_aload_n hF dX7_falseMany_21 rfl ?_
      refine xB_aload_n hF dX7_falseMany_22 rfl ?_
      refine xB_iload_n hF dX7_falseMany_23 rfl ?_
      refine xB_iconst hF dX7_falseMany_24 ki_1 ?_
      obtain ⟨r4, h5, e6, e⟩ := bn_of e
      refine xB_callVi hF dX7_falseMany_25 (t_X7_of e6) cw_X7_97 sM_0 rfl rfl rfl rfl rfl ?_
      obtain ⟨r7, h8, e9, e⟩ := bn_of e
      refine xB_callVi hF dX7_falseMany_28 (t_X7_trueOf e9) cw_X7_172 sM_0 rfl rfl rfl rfl rfl ?_
      refine xB_icmp_ne (tgt := 38) hF dX7_falseMany_31 rfl e (fun _ e => ?_) (fun _ e => ?_)
      · refine xB_iconst hF dX7_falseMany_34 ki_0 ?_
        refine xB_goto (tgt := 39) hF dX7_falseMany_35 rfl ?_
        exact xB_l (t_X7_falseMany_c39 hF ih _ _ _ _ e) (And.intro rfl (And.intro rfl (True.intro)))
      · refine xB_iconst hF dX7_falseMany_38 ki_1 ?_
        exact xB_l (t_X7_falseMany_c39 hF ih _ _ _ _ e) (And.intro rfl (And.intro rfl (True.intro)))
def f_X7_falseMany (h : xH) : Option (Int32 × xH) :=
    f_X7_falseMany_c4 xN 0 0 h
set_option maxRecDepth 20000 in
set_option maxHeartbeats 2000000 in
theorem t_X7_falseMany {l : Launch} {γ : xG} {h : xH} {r : Int32} {hr : xH} (e : f_X7_falseMany h = some (r, hr)) : xCT l γ xSM yX7_falseMany cX7_falseMany 3 (some .int) 3 [.ref (γ.2.2.2 0)] h (some (.int r)) hr := by
  refine xCT.of (own := RX7) (L := [some (.ref (γ.2.2.2 0)), none, none]) (by decide) rfl rfl rfl (fun C hF => ?_)
  unfold f_X7_falseMany at e
  refine xB_iconst hF dX7_falseMany_0 ki_0 ?_
  refine xB_istore_n (L' := [_, _, _]) hF dX7_falseMany_1 rfl rfl rfl ?_
  refine xB_iconst hF dX7_falseMany_2 ki_0 ?_
  refine xB_istore_n (L' := [_, _, _]) hF dX7_falseMany_3 rfl rfl rfl ?_
  exact xB_l (t_X7_falseMany_c4 hF _ _ _ _ e) (And.intro rfl (And.intro rfl (And.intro rfl (True.intro))))
def f_X7_joy (a1 : Int32) (a2 : Int32) (h : xH) : Option (Int32 × xH) :=
    bn (f_X7_of a2 2 h) fun r1 h2 => gd (12 + a1) 3078 <| bn (f_X7_off r1 (h2 1 (Int32.toNatClampNeg (12 + a1))) h2) fun r4 h5 => some (10 - r4, h5)
set_option maxRecDepth 20000 in
set_option maxHeartbeats 2000000 in
theorem t_X7_joy {l : Launch} {γ : xG} {a1 : Int32} {a2 : Int32} {h : xH} {r : Int32} {hr : xH} (e : f_X7_joy a1 a2 h = some (r, hr)) : xCT l γ xSM yX7_joy cX7_joy 3 (some .int) 1 [.ref (γ.2.2.2 0), .int a1, .int a2] h (some (.int r)) hr := by
  refine xCT.of (own := RX7) (L := [some (.ref (γ.2.2.2 0)), some (.int a1), some (.int a2)]) (by decide) rfl rfl rfl (fun C hF => ?_)
  unfold f_X7_joy at e
  refine xB_bipush hF dX7_joy_0 kb_10 ?_
  refine xB_aload_n hF dX7_joy_2 rfl ?_
  refine xB_iload_n hF dX7_joy_3 rfl ?_
  refine xB_iconst hF dX7_joy_4 ki_2 ?_
  obtain ⟨r1, h2, e3, e⟩ := bn_of e
  refine xB_callVi hF dX7_joy_5 (t_X7_of e3) cw_X7_97 sM_0 rfl rfl rfl rfl rfl ?_
  refine xB_aload_n hF dX7_joy_8 rfl ?_
  refine xB_get hF dX7_joy_9 fl_X7_7 sM_0 rfl rfl ?_
  refine xB_bipush hF dX7_joy_12 kb_12 ?_
  refine xB_iload_n hF dX7_joy_14 rfl ?_
  refine xB_iadd hF dX7_joy_15 ?_
  refine xB_iald hF dX7_joy_16 sM_1 e (fun e => ?_)
  obtain ⟨r4, h5, e6, e⟩ := bn_of e
  refine xB_callSi hF dX7_joy_17 (t_X7_off e6) cw_X7_113 rfl rfl rfl rfl ?_
  refine xB_isub hF dX7_joy_20 ?_
  exact xB_ireturn hF dX7_joy_21 e
def f_X7_valuesOf_c34 (k4 : Int32 → Int32 → xH → Option (Int32 × xH)) (a1 : Int32) (v3 : Int32) (s0 : Int32) (s1 : Int32) (h : xH) : Option (Int32 × xH) :=
    k4 (s1 + s0) (v3 + 1) h
set_option maxRecDepth 20000 in
set_option maxHeartbeats 2000000 in
theorem t_X7_valuesOf_c34 {l : Launch} {γ : xG} {k4 : Int32 → Int32 → xH → Option (Int32 × xH)} {a1 : Int32} {r : Int32} {hr : xH} {C : xCx} (hF : xF C cX7_valuesOf RX7 4 0 γ xSM (some (.int r)) hr l (some .int)) (hk4 : ∀ (v2 : Int32) (v3 : Int32) (h : xH), k4 v2 v3 h = some (r, hr) → xB C h 4 [some (.ref (γ.2.2.2 0)), some (.int a1), some (.int v2), some (.int v3)] []) : ∀ (v3 : Int32) (s0 : Int32) (s1 : Int32) (h : xH), f_X7_valuesOf_c34 k4 a1 v3 s0 s1 h = some (r, hr) → xB C h 34 [some (.ref (γ.2.2.2 0)), some (.int a1), none, some (.int v3)] [.int s0, .int s1] := by
  intro v3 s0 s1 h e
  unfold f_X7_valuesOf_c34 at e
  refine xB_iadd hF dX7_valuesOf_34 ?_
  refine xB_istore_n (L' := [_, _, _, _]) hF dX7_valuesOf_35 rfl rfl rfl ?_
  refine xB_iinc (L' := [_, _, _, _]) hF dX7_valuesOf_36 rfl ki_1 rfl rfl rfl ?_
  refine xB_goto (tgt := 4) hF dX7_valuesOf_39 rfl ?_
  exact xB_l (hk4 _ _ _ e) (And.intro rfl (And.intro rfl (And.intro rfl (And.intro rfl (True.intro)))))
def f_X7_valuesOf_c4 (a1 : Int32) : Nat → Int32 → Int32 → xH → Option (Int32 × xH)
  | 0, _, _, _ => none
  | n + 1, v2, v3, h =>
    gd 0 3078 <| if (h 1 (Int32.toNatClampNeg 0)) ≤ v3 then (some (v2, h)) else (if ((a1 >>> (v3 &&& 31)) &&& 1) = 1 then (gd v3 10 <| f_X7_valuesOf_c34 (f_X7_valuesOf_c4 a1 n) a1 v3 (h 12 (Int32.toNatClampNeg v3)) v2 h) else (f_X7_valuesOf_c34 (f_X7_valuesOf_c4 a1 n) a1 v3 0 v2 h))
set_option maxRecDepth 20000 in
set_option maxHeartbeats 2000000 in
theorem t_X7_valuesOf_c4 {l : Launch} {γ : xG} {a1 : Int32} {r : Int32} {hr : xH} {C : xCx} (hF : xF C cX7_valuesOf RX7 4 0 γ xSM (some (.int r)) hr l (some .int)) : ∀ (n : Nat) (v2 : Int32) (v3 : Int32) (h : xH), f_X7_valuesOf_c4 a1 n v2 v3 h = some (r, hr) → xB C h 4 [some (.ref (γ.2.2.2 0)), some (.int a1), some (.int v2), some (.int v3)] [] := by
  intro n
  induction n with
  | zero => intro v2 v3 h e; cases e
  | succ n ih =>
    intro v2 v3 h e
    rw [f_X7_valuesOf_c4] at e
    refine xB_iload_n hF dX7_valuesOf_4 rfl ?_
    refine xB_aload_n hF dX7_valuesOf_5 rfl ?_
    refine xB_get hF dX7_valuesOf_6 fl_X7_7 sM_0 rfl rfl ?_
    refine xB_iconst hF dX7_valuesOf_9 ki_0 ?_
    refine xB_iald hF dX7_valuesOf_10 sM_1 e (fun e => ?_)
    refine xB_icmp_ge (tgt := 42) hF dX7_valuesOf_11 rfl e (fun _ e => ?_) (fun _ e => ?_)
    · refine xB_iload_n hF dX7_valuesOf_42 rfl ?_
      exact xB_ireturn hF dX7_valuesOf_43 e
    · refine xB_iload_n hF dX7_valuesOf_14 rfl ?_
      refine xB_iload_n hF dX7_valuesOf_15 rfl ?_
      refine xB_iload_n hF dX7_valuesOf_16 rfl ?_
      refine xB_ishr hF dX7_valuesOf_17 ?_
      refine xB_iconst hF dX7_valuesOf_18 ki_1 ?_
      refine xB_iand hF dX7_valuesOf_19 ?_
      refine xB_iconst hF dX7_valuesOf_20 ki_1 ?_
      refine xB_icmp_ne (tgt := 33) hF dX7_valuesOf_21 rfl e (fun _ e => ?_) (fun _ e => ?_)
      · refine xB_aload_n hF dX7_valuesOf_24 rfl ?_
        refine xB_get hF dX7_valuesOf_25 fl_X7_43 sM_0 rfl rfl ?_
        refine xB_iload_n hF dX7_valuesOf_28 rfl ?_
        refine xB_iald hF dX7_valuesOf_29 sM_12 e (fun e => ?_)
        refine xB_goto (tgt := 34) hF dX7_valuesOf_30 rfl ?_
        exact xB_l (t_X7_valuesOf_c34 hF ih _ _ _ _ e) (And.intro rfl (And.intro rfl (And.intro rfl (True.intro))))
      · refine xB_iconst hF dX7_valuesOf_33 ki_0 ?_
        exact xB_l (t_X7_valuesOf_c34 hF ih _ _ _ _ e) (And.intro rfl (And.intro rfl (And.intro rfl (True.intro))))
def f_X7_valuesOf (a1 : Int32) (h : xH) : Option (Int32 × xH) :=
    f_X7_valuesOf_c4 a1 xN 0 0 h
set_option maxRecDepth 20000 in
set_option maxHeartbeats 2000000 in
theorem t_X7_valuesOf {l : Launch} {γ : xG} {a1 : Int32} {h : xH} {r : Int32} {hr : xH} (e : f_X7_valuesOf a1 h = some (r, hr)) : xCT l γ xSM yX7_valuesOf cX7_valuesOf 4 (some .int) 0 [.ref (γ.2.2.2 0), .int a1] h (some (.int r)) hr := by
  refine xCT.of (own := RX7) (L := [some (.ref (γ.2.2.2 0)), some (.int a1), none, none]) (by decide) rfl rfl rfl (fun C hF => ?_)
  unfold f_X7_valuesOf at e
  refine xB_iconst hF dX7_valuesOf_0 ki_0 ?_
  refine xB_istore_n (L' := [_, _, _, _]) hF dX7_valuesOf_1 rfl rfl rfl ?_
  refine xB_iconst hF dX7_valuesOf_2 ki_0 ?_
  refine xB_istore_n (L' := [_, _, _, _]) hF dX7_valuesOf_3 rfl rfl rfl ?_
  exact xB_l (t_X7_valuesOf_c4 hF _ _ _ _ e) (And.intro rfl (And.intro rfl (And.intro rfl (And.intro rfl (True.intro)))))
def f_X7_joyOf_c38 (k5 : Int32 → Int32 → xH → Option (Int32 × xH)) (a1 : Int32) (a2 : Int32) (v4 : Int32) (s0 : Int32) (s1 : Int32) (h : xH) : Option (Int32 × xH) :=
    k5 (s1 + s0) (v4 + 1) h
set_option maxRecDepth 20000 in
set_option maxHeartbeats 2000000 in
theorem t_X7_joyOf_c38 {l : Launch} {γ : xG} {k5 : Int32 → Int32 → xH → Option (Int32 × xH)} {a1 : Int32} {a2 : Int32} {r : Int32} {hr : xH} {C : xCx} (hF : xF C cX7_joyOf RX7 5 2 γ xSM (some (.int r)) hr l (some .int)) (hk5 : ∀ (v3 : Int32) (v4 : Int32) (h : xH), k5 v3 v4 h = some (r, hr) → xB C h 5 [some (.ref (γ.2.2.2 0)), some (.int a1), some (.int a2), some (.int v3), some (.int v4)] []) : ∀ (v4 : Int32) (s0 : Int32) (s1 : Int32) (h : xH), f_X7_joyOf_c38 k5 a1 a2 v4 s0 s1 h = some (r, hr) → xB C h 38 [some (.ref (γ.2.2.2 0)), some (.int a1), some (.int a2), none, some (.int v4)] [.int s0, .int s1] := by
  intro v4 s0 s1 h e
  unfold f_X7_joyOf_c38 at e
  refine xB_iadd hF dX7_joyOf_38 ?_
  refine xB_istore_n (L' := [_, _, _, _, _]) hF dX7_joyOf_39 rfl rfl rfl ?_
  refine xB_iinc (L' := [_, _, _, _, _]) hF dX7_joyOf_40 rfl ki_1 rfl rfl rfl ?_
  refine xB_goto (tgt := 5) hF dX7_joyOf_43 rfl ?_
  exact xB_l (hk5 _ _ _ e) (And.intro rfl (And.intro rfl (And.intro rfl (And.intro rfl (And.intro rfl (True.intro))))))
def f_X7_joyOf_c5 (a1 : Int32) (a2 : Int32) : Nat → Int32 → Int32 → xH → Option (Int32 × xH)
  | 0, _, _, _ => none
  | n + 1, v3, v4, h =>
    gd 0 3078 <| if (h 1 (Int32.toNatClampNeg 0)) ≤ v4 then (some (v3, h)) else (if ((a2 >>> (v4 &&& 31)) &&& 1) = 1 then (bn (f_X7_joy a1 v4 h) fun r1 h2 => f_X7_joyOf_c38 (f_X7_joyOf_c5 a1 a2 n) a1 a2 v4 r1 v3 h2) else (f_X7_joyOf_c38 (f_X7_joyOf_c5 a1 a2 n) a1 a2 v4 0 v3 h))
set_option maxRecDepth 20000 in
set_option maxHeartbeats 2000000 in
theorem t_X7_joyOf_c5 {l : Launch} {γ : xG} {a1 : Int32} {a2 : Int32} {r : Int32} {hr : xH} {C : xCx} (hF : xF C cX7_joyOf RX7 5 2 γ xSM (some (.int r)) hr l (some .int)) : ∀ (n : Nat) (v3 : Int32) (v4 : Int32) (h : xH), f_X7_joyOf_c5 a1 a2 n v3 v4 h = some (r, hr) → xB C h 5 [some (.ref (γ.2.2.2 0)), some (.int a1), some (.int a2), some (.int v3), some (.int v4)] [] := by
  intro n
  induction n with
  | zero => intro v3 v4 h e; cases e
  | succ n ih =>
    intro v3 v4 h e
    rw [f_X7_joyOf_c5] at e
    refine xB_iload hF dX7_joyOf_5 rfl ?_
    refine xB_aload_n hF dX7_joyOf_7 rfl ?_
    refine xB_get hF dX7_joyOf_8 fl_X7_7 sM_0 rfl rfl ?_
    refine xB_iconst hF dX7_joyOf_11 ki_0 ?_
    refine xB_iald hF dX7_joyOf_12 sM_1 e (fun e => ?_)
    refine xB_icmp_ge (tgt := 46) hF dX7_joyOf_13 rfl e (fun _ e => ?_) (fun _ e => ?_)
    · refine xB_iload_n hF dX7_joyOf_46 rfl ?_
      exact xB_ireturn hF dX7_joyOf_47 e
    · refine xB_iload_n hF dX7_joyOf_16 rfl ?_
      refine xB_iload_n hF dX7_joyOf_17 rfl ?_
      refine xB_iload hF dX7_joyOf_18 rfl ?_
      refine xB_ishr hF dX7_joyOf_20 ?_
      refine xB_iconst hF dX7_joyOf_21 ki_1 ?_
      refine xB_iand hF dX7_joyOf_22 ?_
      refine xB_iconst hF dX7_joyOf_23 ki_1 ?_
      refine xB_icmp_ne (tgt := 37) hF dX7_joyOf_24 rfl e (fun _ e => ?_) (fun _ e => ?_)
      · refine xB_aload_n hF dX7_joyOf_27 rfl ?_
        refine xB_iload_n hF dX7_joyOf_28 rfl ?_
        refine xB_iload hF dX7_joyOf_29 rfl ?_
        obtain ⟨r1, h2, e3, e⟩ := bn_of e
        refine xB_callVi hF dX7_joyOf_31 (t_X7_joy e3) cw_X7_178 sM_0 rfl rfl rfl rfl rfl ?_
        refine xB_goto (tgt := 38) hF dX7_joyOf_34 rfl ?_
        exact xB_l (t_X7_joyOf_c38 hF ih _ _ _ _ e) (And.intro rfl (And.intro rfl (And.intro rfl (And.intro rfl (True.intro)))))
      · refine xB_iconst hF dX7_joyOf_37 ki_0 ?_
        exact xB_l (t_X7_joyOf_c38 hF ih _ _ _ _ e) (And.intro rfl (And.intro rfl (And.intro rfl (And.intro rfl (True.intro)))))
def f_X7_joyOf (a1 : Int32) (a2 : Int32) (h : xH) : Option (Int32 × xH) :=
    f_X7_joyOf_c5 a1 a2 xN 0 0 h
set_option maxRecDepth 20000 in
set_option maxHeartbeats 2000000 in
theorem t_X7_joyOf {l : Launch} {γ : xG} {a1 : Int32} {a2 : Int32} {h : xH} {r : Int32} {hr : xH} (e : f_X7_joyOf a1 a2 h = some (r, hr)) : xCT l γ xSM yX7_joyOf cX7_joyOf 5 (some .int) 2 [.ref (γ.2.2.2 0), .int a1, .int a2] h (some (.int r)) hr := by
  refine xCT.of (own := RX7) (L := [some (.ref (γ.2.2.2 0)), some (.int a1), some (.int a2), none, none]) (by decide) rfl rfl rfl (fun C hF => ?_)
  unfold f_X7_joyOf at e
  refine xB_iconst hF dX7_joyOf_0 ki_0 ?_
  refine xB_istore_n (L' := [_, _, _, _, _]) hF dX7_joyOf_1 rfl rfl rfl ?_
  refine xB_iconst hF dX7_joyOf_2 ki_0 ?_
  refine xB_istore (L' := [_, _, _, _, _]) hF dX7_joyOf_3 rfl rfl rfl ?_
  exact xB_l (t_X7_joyOf_c5 hF _ _ _ _ e) (And.intro rfl (And.intro rfl (And.intro rfl (And.intro rfl (And.intro rfl (True.intro))))))
def f_X7_areApart_c56 (k2 : Int32 → xH → Option (Int32 × xH)) (k16 : Int32 → Int32 → xH → Option (Int32 × xH)) (a1 : Int32) (v2 : Int32) (v3 : Int32) (h : xH) : Option (Int32 × xH) :=
    k16 v2 (v3 + 1) h
set_option maxRecDepth 20000 in
set_option maxHeartbeats 2000000 in
theorem t_X7_areApart_c56 {l : Launch} {γ : xG} {k2 : Int32 → xH → Option (Int32 × xH)} {k16 : Int32 → Int32 → xH → Option (Int32 × xH)} {a1 : Int32} {r : Int32} {hr : xH} {C : xCx} (hF : xF C cX7_areApart RX7 4 1 γ xSM (some (.int r)) hr l (some .boolean)) (hk2 : ∀ (v2 : Int32) (h : xH), k2 v2 h = some (r, hr) → xB C h 2 [some (.ref (γ.2.2.2 0)), some (.int a1), some (.int v2), none] []) (hk16 : ∀ (v2 : Int32) (v3 : Int32) (h : xH), k16 v2 v3 h = some (r, hr) → xB C h 16 [some (.ref (γ.2.2.2 0)), some (.int a1), some (.int v2), some (.int v3)] []) : ∀ (v2 : Int32) (v3 : Int32) (h : xH), f_X7_areApart_c56 k2 k16 a1 v2 v3 h = some (r, hr) → xB C h 56 [some (.ref (γ.2.2.2 0)), some (.int a1), some (.int v2), some (.int v3)] [] := by
  intro v2 v3 h e
  unfold f_X7_areApart_c56 at e
  refine xB_iinc (L' := [_, _, _, _]) hF dX7_areApart_56 rfl ki_1 rfl rfl rfl ?_
  refine xB_goto (tgt := 16) hF dX7_areApart_59 rfl ?_
  exact xB_l (hk16 _ _ _ e) (And.intro rfl (And.intro rfl (And.intro rfl (And.intro rfl (True.intro)))))
def f_X7_areApart_c16 (k2 : Int32 → xH → Option (Int32 × xH)) (a1 : Int32) : Nat → Int32 → Int32 → xH → Option (Int32 × xH)
  | 0, _, _, _ => none
  | n + 1, v2, v3, h =>
    gd 0 3078 <| if (h 1 (Int32.toNatClampNeg 0)) ≤ v3 then (k2 (v2 + 1) h) else (if (((a1 >>> (v2 &&& 31)) &&& (a1 >>> (v3 &&& 31))) &&& 1) = 1 then (bn (f_X7_of v2 1 h) fun r1 h2 => bn (f_X7_of v3 1 h2) fun r4 h5 => if r1 = r4 then (some (0, h5)) else (f_X7_areApart_c56 k2 (f_X7_areApart_c16 k2 a1 n) a1 v2 v3 h5)) else (f_X7_areApart_c56 k2 (f_X7_areApart_c16 k2 a1 n) a1 v2 v3 h))
set_option maxRecDepth 20000 in
set_option maxHeartbeats 2000000 in
theorem t_X7_areApart_c16 {l : Launch} {γ : xG} {k2 : Int32 → xH → Option (Int32 × xH)} {a1 : Int32} {r : Int32} {hr : xH} {C : xCx} (hF : xF C cX7_areApart RX7 4 1 γ xSM (some (.int r)) hr l (some .boolean)) (hk2 : ∀ (v2 : Int32) (h : xH), k2 v2 h = some (r, hr) → xB C h 2 [some (.ref (γ.2.2.2 0)), some (.int a1), some (.int v2), none] []) : ∀ (n : Nat) (v2 : Int32) (v3 : Int32) (h : xH), f_X7_areApart_c16 k2 a1 n v2 v3 h = some (r, hr) → xB C h 16 [some (.ref (γ.2.2.2 0)), some (.int a1), some (.int v2), some (.int v3)] [] := by
  intro n
  induction n with
  | zero => intro v2 v3 h e; cases e
  | succ n ih =>
    intro v2 v3 h e
    rw [f_X7_areApart_c16] at e
    refine xB_iload_n hF dX7_areApart_16 rfl ?_
    refine xB_aload_n hF dX7_areApart_17 rfl ?_
    refine xB_get hF dX7_areApart_18 fl_X7_7 sM_0 rfl rfl ?_
    refine xB_iconst hF dX7_areApart_21 ki_0 ?_
    refine xB_iald hF dX7_areApart_22 sM_1 e (fun e => ?_)
    refine xB_icmp_ge (tgt := 62) hF dX7_areApart_23 rfl e (fun _ e => ?_) (fun _ e => ?_)
    · refine xB_iinc (L' := [_, _, _, _]) hF dX7_areApart_62 rfl ki_1 rfl rfl rfl ?_
      refine xB_goto (tgt := 2) hF dX7_areApart_65 rfl ?_
      exact xB_l (hk2 _ _ e) (And.intro rfl (And.intro rfl (And.intro rfl (True.intro))))
    · refine xB_iload_n hF dX7_areApart_26 rfl ?_
      refine xB_iload_n hF dX7_areApart_27 rfl ?_
      refine xB_ishr hF dX7_areApart_28 ?_
      refine xB_iload_n hF dX7_areApart_29 rfl ?_
      refine xB_iload_n hF dX7_areApart_30 rfl ?_
      refine xB_ishr hF dX7_areApart_31 ?_
      refine xB_iand hF dX7_areApart_32 ?_
      refine xB_iconst hF dX7_areApart_33 ki_1 ?_
      refine xB_iand hF dX7_areApart_34 ?_
      refine xB_iconst hF dX7_areApart_35 ki_1 ?_
      refine xB_icmp_ne (tgt := 56) hF dX7_areApart_36 rfl e (fun _ e => ?_) (fun _ e => ?_)
      · refine xB_aload_n hF dX7_areApart_39 rfl ?_
        refine xB_iload_n hF dX7_areApart_40 rfl ?_
        refine xB_iconst hF dX7_areApart_41 ki_1 ?_
        obtain ⟨r1, h2, e3, e⟩ := bn_of e
        refine xB_callVi hF dX7_areApart_42 (t_X7_of e3) cw_X7_97 sM_0 rfl rfl rfl rfl rfl ?_
        refine xB_aload_n hF dX7_areApart_45 rfl ?_
        refine xB_iload_n hF dX7_areApart_46 rfl ?_
        refine xB_iconst hF dX7_areApart_47 ki_1 ?_
        obtain ⟨r4, h5, e6, e⟩ := bn_of e
        refine xB_callVi hF dX7_areApart_48 (t_X7_of e6) cw_X7_97 sM_0 rfl rfl rfl rfl rfl ?_
        refine xB_icmp_ne (tgt := 56) hF dX7_areApart_51 rfl e (fun _ e => ?_) (fun _ e => ?_)
        · refine xB_iconst hF dX7_areApart_54 ki_0 ?_
          exact xB_zreturn hF dX7_areApart_55 rfl e
        · exact xB_l (t_X7_areApart_c56 hF hk2 ih _ _ _ e) (And.intro rfl (And.intro rfl (And.intro rfl (And.intro rfl (True.intro)))))
      · exact xB_l (t_X7_areApart_c56 hF hk2 ih _ _ _ e) (And.intro rfl (And.intro rfl (And.intro rfl (And.intro rfl (True.intro)))))
def f_X7_areApart_c2 (a1 : Int32) : Nat → Int32 → xH → Option (Int32 × xH)
  | 0, _, _ => none
  | n + 1, v2, h =>
    gd 0 3078 <| if (h 1 (Int32.toNatClampNeg 0)) ≤ v2 then (some (1, h)) else (f_X7_areApart_c16 (f_X7_areApart_c2 a1 n) a1 xN v2 (v2 + 1) h)
set_option maxRecDepth 20000 in
set_option maxHeartbeats 2000000 in
theorem t_X7_areApart_c2 {l : Launch} {γ : xG} {a1 : Int32} {r : Int32} {hr : xH} {C : xCx} (hF : xF C cX7_areApart RX7 4 1 γ xSM (some (.int r)) hr l (some .boolean)) : ∀ (n : Nat) (v2 : Int32) (h : xH), f_X7_areApart_c2 a1 n v2 h = some (r, hr) → xB C h 2 [some (.ref (γ.2.2.2 0)), some (.int a1), some (.int v2), none] [] := by
  intro n
  induction n with
  | zero => intro v2 h e; cases e
  | succ n ih =>
    intro v2 h e
    rw [f_X7_areApart_c2] at e
    refine xB_iload_n hF dX7_areApart_2 rfl ?_
    refine xB_aload_n hF dX7_areApart_3 rfl ?_
    refine xB_get hF dX7_areApart_4 fl_X7_7 sM_0 rfl rfl ?_
    refine xB_iconst hF dX7_areApart_7 ki_0 ?_
    refine xB_iald hF dX7_areApart_8 sM_1 e (fun e => ?_)
    refine xB_icmp_ge (tgt := 68) hF dX7_areApart_9 rfl e (fun _ e => ?_) (fun _ e => ?_)
    · refine xB_iconst hF dX7_areApart_68 ki_1 ?_
      exact xB_zreturn hF dX7_areApart_69 rfl e
    · refine xB_iload_n hF dX7_areApart_12 rfl ?_
      refine xB_iconst hF dX7_areApart_13 ki_1 ?_
      refine xB_iadd hF dX7_areApart_14 ?_
      refine xB_istore_n (L' := [_, _, _, _]) hF dX7_areApart_15 rfl rfl rfl ?_
      exact xB_l (t_X7_areApart_c16 hF ih _ _ _ _ e) (And.intro rfl (And.intro rfl (And.intro rfl (And.intro rfl (True.intro)))))
def f_X7_areApart (a1 : Int32) (h : xH) : Option (Int32 × xH) :=
    f_X7_areApart_c2 a1 xN 0 h
set_option maxRecDepth 20000 in
set_option maxHeartbeats 2000000 in
theorem t_X7_areApart {l : Launch} {γ : xG} {a1 : Int32} {h : xH} {r : Int32} {hr : xH} (e : f_X7_areApart a1 h = some (r, hr)) : xCT l γ xSM yX7_areApart cX7_areApart 4 (some .boolean) 1 [.ref (γ.2.2.2 0), .int a1] h (some (.int r)) hr := by
  refine xCT.of (own := RX7) (L := [some (.ref (γ.2.2.2 0)), some (.int a1), none, none]) (by decide) rfl rfl rfl (fun C hF => ?_)
  unfold f_X7_areApart at e
  refine xB_iconst hF dX7_areApart_0 ki_0 ?_
  refine xB_istore_n (L' := [_, _, _, _]) hF dX7_areApart_1 rfl rfl rfl ?_
  exact xB_l (t_X7_areApart_c2 hF _ _ _ e) (And.intro rfl (And.intro rfl (And.intro rfl (True.intro))))
