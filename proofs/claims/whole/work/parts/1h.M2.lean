def f_X7_fill_c169 (k66 : Int32 → Int32 → Int32 → Int32 → xH → Option (Int32 × xH)) (a1 : Int32) (a2 : Int32) (v3 : Int32) (v4 : Int32) (v5 : Int32) (v6 : Int32) (h : xH) : Option (Int32 × xH) :=
    k66 v3 v4 v5 (v6 + 1) h
set_option maxRecDepth 20000 in
set_option maxHeartbeats 2000000 in
theorem t_X7_fill_c169 {l : Launch} {γ : xG} {k66 : Int32 → Int32 → Int32 → Int32 → xH → Option (Int32 × xH)} {a1 : Int32} {a2 : Int32} {r : Int32} {hr : xH} {C : xCx} (hF : xF C cX7_fill RX7 9 4 γ xSM (some (.int r)) hr l (some .int)) (hk66 : ∀ (v3 : Int32) (v4 : Int32) (v5 : Int32) (v6 : Int32) (h : xH), k66 v3 v4 v5 v6 h = some (r, hr) → xB C h 66 [some (.ref (γ.2.2.2 0)), some (.int a1), some (.int a2), some (.int v3), some (.int v4), some (.int v5), some (.int v6), none, none] []) : ∀ (v3 : Int32) (v4 : Int32) (v5 : Int32) (v6 : Int32) (h : xH), f_X7_fill_c169 k66 a1 a2 v3 v4 v5 v6 h = some (r, hr) → xB C h 169 [some (.ref (γ.2.2.2 0)), some (.int a1), some (.int a2), some (.int v3), some (.int v4), some (.int v5), some (.int v6), none, none] [] := by
  intro v3 v4 v5 v6 h e
  unfold f_X7_fill_c169 at e
  refine xB_iinc (L' := [_, _, _, _, _, _, _, _, _]) hF dX7_fill_169 rfl ki_1 rfl rfl rfl ?_
  refine xB_goto (tgt := 66) hF dX7_fill_172 rfl ?_
  exact xB_l (hk66 _ _ _ _ _ e) (And.intro rfl (And.intro rfl (And.intro rfl (And.intro rfl (And.intro rfl (And.intro rfl (And.intro rfl (True.intro))))))))
def f_X7_fill_c120 (k66 : Int32 → Int32 → Int32 → Int32 → xH → Option (Int32 × xH)) (a1 : Int32) (a2 : Int32) (v3 : Int32) (v4 : Int32) (v5 : Int32) (v6 : Int32) (v7 : Int32) (s0 : Int32) (h : xH) : Option (Int32 × xH) :=
    if s0 = 0 then (f_X7_fill_c169 k66 a1 a2 v3 v4 v5 v6 h) else (if (v6 &&& v3) = 0 then (bn (f_X7_valuesOf v6 h) fun r1 h2 => gd (6 + a1) 3078 <| if (h2 1 (Int32.toNatClampNeg (6 + a1))) < r1 then (f_X7_fill_c169 k66 a1 a2 v3 v4 v5 v6 h2) else (bn (f_X7_areApart v6 h2) fun r4 h5 => if r4 = 0 then (f_X7_fill_c169 k66 a1 a2 v3 v4 v5 v6 h5) else (f_X7_fill_c169 k66 a1 a2 v3 v6 v7 v6 h5))) else (f_X7_fill_c169 k66 a1 a2 v3 v4 v5 v6 h))
set_option maxRecDepth 20000 in
set_option maxHeartbeats 2000000 in
theorem t_X7_fill_c120 {l : Launch} {γ : xG} {k66 : Int32 → Int32 → Int32 → Int32 → xH → Option (Int32 × xH)} {a1 : Int32} {a2 : Int32} {r : Int32} {hr : xH} {C : xCx} (hF : xF C cX7_fill RX7 9 4 γ xSM (some (.int r)) hr l (some .int)) (hk66 : ∀ (v3 : Int32) (v4 : Int32) (v5 : Int32) (v6 : Int32) (h : xH), k66 v3 v4 v5 v6 h = some (r, hr) → xB C h 66 [some (.ref (γ.2.2.2 0)), some (.int a1), some (.int a2), some (.int v3), some (.int v4), some (.int v5), some (.int v6), none, none] []) : ∀ (v3 : Int32) (v4 : Int32) (v5 : Int32) (v6 : Int32) (v7 : Int32) (s0 : Int32) (h : xH), f_X7_fill_c120 k66 a1 a2 v3 v4 v5 v6 v7 s0 h = some (r, hr) → xB C h 120 [some (.ref (γ.2.2.2 0)), some (.int a1), some (.int a2), some (.int v3), some (.int v4), some (.int v5), some (.int v6), some (.int v7), none] [.int s0] := by
  intro v3 v4 v5 v6 v7 s0 h e
  unfold f_X7_fill_c120 at e
  refine xB_istore (L' := [_, _, _, _, _, _, _, _, _]) hF dX7_fill_120 rfl rfl rfl ?_
  refine xB_iload hF dX7_fill_122 rfl ?_
  refine xB_if_eq (tgt := 169) hF dX7_fill_124 rfl e (fun _ e => ?_) (fun _ e => ?_)
  · exact xB_l (t_X7_fill_c169 hF hk66 _ _ _ _ _ e) (And.intro rfl (And.intro rfl (And.intro rfl (And.intro rfl (And.intro rfl (And.intro rfl (And.intro rfl (True.intro))))))))
  · refine xB_iload hF dX7_fill_127 rfl ?_
    refine xB_iload_n hF dX7_fill_129 rfl ?_
    refine xB_iand hF dX7_fill_130 ?_
    refine xB_if_ne (tgt := 169) hF dX7_fill_131 rfl e (fun _ e => ?_) (fun _ e => ?_)
    · refine xB_aload_n hF dX7_fill_134 rfl ?_
      refine xB_iload hF dX7_fill_135 rfl ?_
      obtain ⟨r1, h2, e3, e⟩ := bn_of e
      refine xB_callVi hF dX7_fill_137 (t_X7_valuesOf e3) cw_X7_187 sM_0 rfl rfl rfl rfl rfl ?_
      refine xB_aload_n hF dX7_fill_140 rfl ?_
      refine xB_get hF dX7_fill_141 fl_X7_7 sM_0 rfl rfl ?_
      refine xB_bipush hF dX7_fill_144 kb_6 ?_
      refine xB_iload_n hF dX7_fill_146 rfl ?_
      refine xB_iadd hF dX7_fill_147 ?_
      refine xB_iald hF dX7_fill_148 sM_1 e (fun e => ?_)
      refine xB_icmp_gt (tgt := 169) hF dX7_fill_149 rfl e (fun _ e => ?_) (fun _ e => ?_)
      · exact xB_l (t_X7_fill_c169 hF hk66 _ _ _ _ _ e) (And.intro rfl (And.intro rfl (And.intro rfl (And.intro rfl (And.intro rfl (And.intro rfl (And.intro rfl (True.intro))))))))
      · refine xB_aload_n hF dX7_fill_152 rfl ?_
        refine xB_iload hF dX7_fill_153 rfl ?_
        obtain ⟨r4, h5, e6, e⟩ := bn_of e
        refine xB_callVi hF dX7_fill_155 (t_X7_areApart e6) cw_X7_190 sM_0 rfl rfl rfl rfl rfl ?_
        refine xB_if_eq (tgt := 169) hF dX7_fill_158 rfl e (fun _ e => ?_) (fun _ e => ?_)
        · exact xB_l (t_X7_fill_c169 hF hk66 _ _ _ _ _ e) (And.intro rfl (And.intro rfl (And.intro rfl (And.intro rfl (And.intro rfl (And.intro rfl (And.intro rfl (True.intro))))))))
        · refine xB_iload hF dX7_fill_161 rfl ?_
          refine xB_istore (L' := [_, _, _, _, _, _, _, _, _]) hF dX7_fill_163 rfl rfl rfl ?_
          refine xB_iload hF dX7_fill_165 rfl ?_
          refine xB_istore (L' := [_, _, _, _, _, _, _, _, _]) hF dX7_fill_167 rfl rfl rfl ?_
          exact xB_l (t_X7_fill_c169 hF hk66 _ _ _ _ _ e) (And.intro rfl (And.intro rfl (And.intro rfl (And.intro rfl (And.intro rfl (And.intro rfl (And.intro rfl (True.intro))))))))
    · exact xB_l (t_X7_fill_c169 hF hk66 _ _ _ _ _ e) (And.intro rfl (And.intro rfl (And.intro rfl (And.intro rfl (And.intro rfl (And.intro rfl (And.intro rfl (True.intro))))))))
def f_X7_fill_c119 (k66 : Int32 → Int32 → Int32 → Int32 → xH → Option (Int32 × xH)) (a1 : Int32) (a2 : Int32) (v3 : Int32) (v4 : Int32) (v5 : Int32) (v6 : Int32) (v7 : Int32) (h : xH) : Option (Int32 × xH) :=
    f_X7_fill_c120 k66 a1 a2 v3 v4 v5 v6 v7 0 h
set_option maxRecDepth 20000 in
set_option maxHeartbeats 2000000 in
theorem t_X7_fill_c119 {l : Launch} {γ : xG} {k66 : Int32 → Int32 → Int32 → Int32 → xH → Option (Int32 × xH)} {a1 : Int32} {a2 : Int32} {r : Int32} {hr : xH} {C : xCx} (hF : xF C cX7_fill RX7 9 4 γ xSM (some (.int r)) hr l (some .int)) (hk66 : ∀ (v3 : Int32) (v4 : Int32) (v5 : Int32) (v6 : Int32) (h : xH), k66 v3 v4 v5 v6 h = some (r, hr) → xB C h 66 [some (.ref (γ.2.2.2 0)), some (.int a1), some (.int a2), some (.int v3), some (.int v4), some (.int v5), some (.int v6), none, none] []) : ∀ (v3 : Int32) (v4 : Int32) (v5 : Int32) (v6 : Int32) (v7 : Int32) (h : xH), f_X7_fill_c119 k66 a1 a2 v3 v4 v5 v6 v7 h = some (r, hr) → xB C h 119 [some (.ref (γ.2.2.2 0)), some (.int a1), some (.int a2), some (.int v3), some (.int v4), some (.int v5), some (.int v6), some (.int v7), none] [] := by
  intro v3 v4 v5 v6 v7 h e
  unfold f_X7_fill_c119 at e
  refine xB_iconst hF dX7_fill_119 ki_0 ?_
  exact xB_l (t_X7_fill_c120 hF hk66 _ _ _ _ _ _ _ e) (And.intro rfl (And.intro rfl (And.intro rfl (And.intro rfl (And.intro rfl (And.intro rfl (And.intro rfl (And.intro rfl (True.intro)))))))))
def f_X7_fill_c115 (k66 : Int32 → Int32 → Int32 → Int32 → xH → Option (Int32 × xH)) (a1 : Int32) (a2 : Int32) (v3 : Int32) (v4 : Int32) (v5 : Int32) (v6 : Int32) (v7 : Int32) (h : xH) : Option (Int32 × xH) :=
    f_X7_fill_c120 k66 a1 a2 v3 v4 v5 v6 v7 1 h
set_option maxRecDepth 20000 in
set_option maxHeartbeats 2000000 in
theorem t_X7_fill_c115 {l : Launch} {γ : xG} {k66 : Int32 → Int32 → Int32 → Int32 → xH → Option (Int32 × xH)} {a1 : Int32} {a2 : Int32} {r : Int32} {hr : xH} {C : xCx} (hF : xF C cX7_fill RX7 9 4 γ xSM (some (.int r)) hr l (some .int)) (hk66 : ∀ (v3 : Int32) (v4 : Int32) (v5 : Int32) (v6 : Int32) (h : xH), k66 v3 v4 v5 v6 h = some (r, hr) → xB C h 66 [some (.ref (γ.2.2.2 0)), some (.int a1), some (.int a2), some (.int v3), some (.int v4), some (.int v5), some (.int v6), none, none] []) : ∀ (v3 : Int32) (v4 : Int32) (v5 : Int32) (v6 : Int32) (v7 : Int32) (h : xH), f_X7_fill_c115 k66 a1 a2 v3 v4 v5 v6 v7 h = some (r, hr) → xB C h 115 [some (.ref (γ.2.2.2 0)), some (.int a1), some (.int a2), some (.int v3), some (.int v4), some (.int v5), some (.int v6), some (.int v7), none] [] := by
  intro v3 v4 v5 v6 v7 h e
  unfold f_X7_fill_c115 at e
  refine xB_iconst hF dX7_fill_115 ki_1 ?_
  refine xB_goto (tgt := 120) hF dX7_fill_116 rfl ?_
  exact xB_l (t_X7_fill_c120 hF hk66 _ _ _ _ _ _ _ e) (And.intro rfl (And.intro rfl (And.intro rfl (And.intro rfl (And.intro rfl (And.intro rfl (And.intro rfl (And.intro rfl (True.intro)))))))))
def f_X7_fill_c66 (a1 : Int32) (a2 : Int32) : Nat → Int32 → Int32 → Int32 → Int32 → xH → Option (Int32 × xH)
  | 0, _, _, _, _, _ => none
  | n + 1, v3, v4, v5, v6, h =>
    gd 0 3078 <| if (1 <<< ((h 1 (Int32.toNatClampNeg 0)) &&& 31)) ≤ v6 then (if a2 = 0 then (some (v4, h)) else (if a2 = 1 then (some (v5, h)) else (bn (f_X7_valuesOf v4 h) fun r1 h2 => some (r1, h2)))) else (bn (f_X7_joyOf a1 v6 h) fun r4 h5 => if v5 < r4 then (f_X7_fill_c115 (f_X7_fill_c66 a1 a2 n) a1 a2 v3 v4 v5 v6 r4 h5) else (if r4 = v5 then (bn (f_X7_manyIn v6 h5) fun r7 h8 => bn (f_X7_manyIn v4 h8) fun r10 h11 => if r10 ≤ r7 then (f_X7_fill_c119 (f_X7_fill_c66 a1 a2 n) a1 a2 v3 v4 v5 v6 r4 h11) else (f_X7_fill_c115 (f_X7_fill_c66 a1 a2 n) a1 a2 v3 v4 v5 v6 r4 h11)) else (f_X7_fill_c119 (f_X7_fill_c66 a1 a2 n) a1 a2 v3 v4 v5 v6 r4 h5)))
set_option maxRecDepth 20000 in
set_option maxHeartbeats 2000000 in
theorem t_X7_fill_c66 {l : Launch} {γ : xG} {a1 : Int32} {a2 : Int32} {r : Int32} {hr : xH} {C : xCx} (hF : xF C cX7_fill RX7 9 4 γ xSM (some (.int r)) hr l (some .int)) : ∀ (n : Nat) (v3 : Int32) (v4 : Int32) (v5 : Int32) (v6 : Int32) (h : xH), f_X7_fill_c66 a1 a2 n v3 v4 v5 v6 h = some (r, hr) → xB C h 66 [some (.ref (γ.2.2.2 0)), some (.int a1), some (.int a2), some (.int v3), some (.int v4), some (.int v5), some (.int v6), none, none] [] := by
  intro n
  induction n with
  | zero => intro v3 v4 v5 v6 h e; cases e
  | succ n ih =>
    intro v3 v4 v5 v6 h e
    rw [f_X7_fill_c66] at e
    refine xB_iload hF dX7_fill_66 rfl ?_
    refine xB_iconst hF dX7_fill_68 ki_1 ?_
    refine xB_aload_n hF dX7_fill_69 rfl ?_
    refine xB_get hF dX7_fill_70 fl_X7_7 sM_0 rfl rfl ?_
    refine xB_iconst hF dX7_fill_73 ki_0 ?_
    refine xB_iald hF dX7_fill_74 sM_1 e (fun e => ?_)
    refine xB_ishl hF dX7_fill_75 ?_
    refine xB_icmp_ge (tgt := 175) hF dX7_fill_76 rfl e (fun _ e => ?_) (fun _ e => ?_)
    · refine xB_iload_n hF dX7_fill_175 rfl ?_
      refine xB_if_ne (tgt := 184) hF dX7_fill_176 rfl e (fun _ e => ?_) (fun _ e => ?_)
      · refine xB_iload hF dX7_fill_179 rfl ?_
        refine xB_goto (tgt := 200) hF dX7_fill_181 rfl ?_
        exact xB_ireturn hF dX7_fill_200 e
      · refine xB_iload_n hF dX7_fill_184 rfl ?_
        refine xB_iconst hF dX7_fill_185 ki_1 ?_
        refine xB_icmp_ne (tgt := 194) hF dX7_fill_186 rfl e (fun _ e => ?_) (fun _ e => ?_)
        · refine xB_iload hF dX7_fill_189 rfl ?_
          refine xB_goto (tgt := 200) hF dX7_fill_191 rfl ?_
          exact xB_ireturn hF dX7_fill_200 e
        · refine xB_aload_n hF dX7_fill_194 rfl ?_
          refine xB_iload hF dX7_fill_195 rfl ?_
          obtain ⟨r1, h2, e3, e⟩ := bn_of e
          refine xB_callVi hF dX7_fill_197 (t_X7_valuesOf e3) cw_X7_187 sM_0 rfl rfl rfl rfl rfl ?_
          exact xB_ireturn hF dX7_fill_200 e
    · refine xB_aload_n hF dX7_fill_79 rfl ?_
      refine xB_iload_n hF dX7_fill_80 rfl ?_
      refine xB_iload hF dX7_fill_81 rfl ?_
      obtain ⟨r4, h5, e6, e⟩ := bn_of e
      refine xB_callVi hF dX7_fill_83 (t_X7_joyOf e6) cw_X7_181 sM_0 rfl rfl rfl rfl rfl ?_
      refine xB_istore (L' := [_, _, _, _, _, _, _, _, _]) hF dX7_fill_86 rfl rfl rfl ?_
      refine xB_iload hF dX7_fill_88 rfl ?_
      refine xB_iload hF dX7_fill_90 rfl ?_
      refine xB_icmp_gt (tgt := 115) hF dX7_fill_92 rfl e (fun _ e => ?_) (fun _ e => ?_)
      · exact xB_l (t_X7_fill_c115 hF ih _ _ _ _ _ _ e) (And.intro rfl (And.intro rfl (And.intro rfl (And.intro rfl (And.intro rfl (And.intro rfl (And.intro rfl (And.intro rfl (True.intro)))))))))
      · refine xB_iload hF dX7_fill_95 rfl ?_
        refine xB_iload hF dX7_fill_97 rfl ?_
        refine xB_icmp_ne (tgt := 119) hF dX7_fill_99 rfl e (fun _ e => ?_) (fun _ e => ?_)
        · refine xB_iload hF dX7_fill_102 rfl ?_
          obtain ⟨r7, h8, e9, e⟩ := bn_of e
          refine xB_callSi hF dX7_fill_104 (t_X7_manyIn e9) cw_X7_184 rfl rfl rfl rfl ?_
          refine xB_iload hF dX7_fill_107 rfl ?_
          obtain ⟨r10, h11, e12, e⟩ := bn_of e
          refine xB_callSi hF dX7_fill_109 (t_X7_manyIn e12) cw_X7_184 rfl rfl rfl rfl ?_
          refine xB_icmp_ge (tgt := 119) hF dX7_fill_112 rfl e (fun _ e => ?_) (fun _ e => ?_)
          · exact xB_l (t_X7_fill_c119 hF ih _ _ _ _ _ _ e) (And.intro rfl (And.intro rfl (And.intro rfl (And.intro rfl (And.intro rfl (And.intro rfl (And.intro rfl (And.intro rfl (True.intro)))))))))
          · exact xB_l (t_X7_fill_c115 hF ih _ _ _ _ _ _ e) (And.intro rfl (And.intro rfl (And.intro rfl (And.intro rfl (And.intro rfl (And.intro rfl (And.intro rfl (And.intro rfl (True.intro)))))))))
        · exact xB_l (t_X7_fill_c119 hF ih _ _ _ _ _ _ e) (And.intro rfl (And.intro rfl (And.intro rfl (And.intro rfl (And.intro rfl (And.intro rfl (And.intro rfl (And.intro rfl (True.intro)))))))))
def f_X7_fill_c24 (a1 : Int32) (a2 : Int32) : Nat → Int32 → xH → Option (Int32 × xH)
  | 0, _, _ => none
  | n + 1, v3, h =>
    gd 0 3078 <| if (h 1 (Int32.toNatClampNeg 0)) ≤ v3 then (bn (f_X7_daysOf a1 h) fun r1 h2 => f_X7_fill_c66 a1 a2 xN r1 0 0 1 h2) else (bn (f_X7_valueOf v3 h) fun r4 h5 => gd v3 10 <| nm (xst h5 12 (Int32.toNatClampNeg v3) r4) fun h7 => f_X7_fill_c24 a1 a2 n (v3 + 1) h7)
set_option maxRecDepth 20000 in
set_option maxHeartbeats 2000000 in
theorem t_X7_fill_c24 {l : Launch} {γ : xG} {a1 : Int32} {a2 : Int32} {r : Int32} {hr : xH} {C : xCx} (hF : xF C cX7_fill RX7 9 4 γ xSM (some (.int r)) hr l (some .int)) : ∀ (n : Nat) (v3 : Int32) (h : xH), f_X7_fill_c24 a1 a2 n v3 h = some (r, hr) → xB C h 24 [some (.ref (γ.2.2.2 0)), some (.int a1), some (.int a2), some (.int v3), none, none, none, none, none] [] := by
  intro n
  induction n with
  | zero => intro v3 h e; cases e
  | succ n ih =>
    intro v3 h e
    rw [f_X7_fill_c24] at e
    refine xB_iload_n hF dX7_fill_24 rfl ?_
    refine xB_aload_n hF dX7_fill_25 rfl ?_
    refine xB_get hF dX7_fill_26 fl_X7_7 sM_0 rfl rfl ?_
    refine xB_iconst hF dX7_fill_29 ki_0 ?_
    refine xB_iald hF dX7_fill_30 sM_1 e (fun e => ?_)
    refine xB_icmp_ge (tgt := 51) hF dX7_fill_31 rfl e (fun _ e => ?_) (fun _ e => ?_)
    · refine xB_aload_n hF dX7_fill_51 rfl ?_
      refine xB_iload_n hF dX7_fill_52 rfl ?_
      obtain ⟨r1, h2, e3, e⟩ := bn_of e
      refine xB_callVi hF dX7_fill_53 (t_X7_daysOf e3) cw_X7_137 sM_0 rfl rfl rfl rfl rfl ?_
      refine xB_istore_n (L' := [_, _, _, _, _, _, _, _, _]) hF dX7_fill_56 rfl rfl rfl ?_
      refine xB_iconst hF dX7_fill_57 ki_0 ?_
      refine xB_istore (L' := [_, _, _, _, _, _, _, _, _]) hF dX7_fill_58 rfl rfl rfl ?_
      refine xB_iconst hF dX7_fill_60 ki_0 ?_
      refine xB_istore (L' := [_, _, _, _, _, _, _, _, _]) hF dX7_fill_61 rfl rfl rfl ?_
      refine xB_iconst hF dX7_fill_63 ki_1 ?_
      refine xB_istore (L' := [_, _, _, _, _, _, _, _, _]) hF dX7_fill_64 rfl rfl rfl ?_
      exact xB_l (t_X7_fill_c66 hF _ _ _ _ _ _ e) (And.intro rfl (And.intro rfl (And.intro rfl (And.intro rfl (And.intro rfl (And.intro rfl (And.intro rfl (True.intro))))))))
    · refine xB_aload_n hF dX7_fill_34 rfl ?_
      refine xB_get hF dX7_fill_35 fl_X7_43 sM_0 rfl rfl ?_
      refine xB_iload_n hF dX7_fill_38 rfl ?_
      refine xB_aload_n hF dX7_fill_39 rfl ?_
      refine xB_iload_n hF dX7_fill_40 rfl ?_
      obtain ⟨r4, h5, e6, e⟩ := bn_of e
      refine xB_callVi hF dX7_fill_41 (t_X7_valueOf e6) cw_X7_110 sM_0 rfl rfl rfl rfl rfl ?_
      refine xB_iast hF dX7_fill_44 sM_12 e (fun e => ?_)
      refine xB_gen e (fun h7 e => ?_)
      refine xB_iinc (L' := [_, _, _, _, _, _, _, _, _]) hF dX7_fill_45 rfl ki_1 rfl rfl rfl ?_
      refine xB_goto (tgt := 24) hF dX7_fill_48 rfl ?_
      exact xB_l (ih _ _ e) (And.intro rfl (And.intro rfl (And.intro rfl (And.intro rfl (True.intro)))))
def f_X7_fill (a1 : Int32) (a2 : Int32) (h : xH) : Option (Int32 × xH) :=
    bn (f_X7_isOne a1 h) fun r1 h2 => if r1 = 0 then (some ((-1000000001), h2)) else (bn (f_X7_isIn (Int32.toInt64 a2) 0 2 h2) fun r4 h5 => if r4 = 0 then (some ((-1000000001), h5)) else (f_X7_fill_c24 a1 a2 xN 0 h5))
set_option maxRecDepth 20000 in
set_option maxHeartbeats 2000000 in
theorem t_X7_fill {l : Launch} {γ : xG} {a1 : Int32} {a2 : Int32} {h : xH} {r : Int32} {hr : xH} (e : f_X7_fill a1 a2 h = some (r, hr)) : xCT l γ xSM yX7_fill cX7_fill 9 (some .int) 4 [.ref (γ.2.2.2 0), .int a1, .int a2] h (some (.int r)) hr := by
  refine xCT.of (own := RX7) (L := [some (.ref (γ.2.2.2 0)), some (.int a1), some (.int a2), none, none, none, none, none, none]) (by decide) rfl rfl rfl (fun C hF => ?_)
  unfold f_X7_fill at e
  refine xB_iload_n hF dX7_fill_0 rfl ?_
  obtain ⟨r1, h2, e3, e⟩ := bn_of e
  refine xB_callSi hF dX7_fill_1 (t_X7_isOne e3) cw_X7_83 rfl rfl rfl rfl ?_
  refine xB_if_eq (tgt := 19) hF dX7_fill_4 rfl e (fun _ e => ?_) (fun _ e => ?_)
  · refine xB_ldc hF dX7_fill_19 kc_X7_87 ?_
    exact xB_ireturn hF dX7_fill_21 e
  · refine xB_iload_n hF dX7_fill_7 rfl ?_
    refine xB_i2l hF dX7_fill_8 ?_
    refine xB_lconst (v := 0) hF dX7_fill_9 (by decide) ?_
    refine xB_ldc2 hF dX7_fill_10 kc_X7_135 ?_
    obtain ⟨r4, h5, e6, e⟩ := bn_of e
    refine xB_callSi hF dX7_fill_13 (t_X7_isIn e6) cw_X7_68 rfl rfl rfl rfl ?_
    refine xB_if_ne (tgt := 22) hF dX7_fill_16 rfl e (fun _ e => ?_) (fun _ e => ?_)
    · refine xB_ldc hF dX7_fill_19 kc_X7_87 ?_
      exact xB_ireturn hF dX7_fill_21 e
    · refine xB_iconst hF dX7_fill_22 ki_0 ?_
      refine xB_istore_n (L' := [_, _, _, _, _, _, _, _, _]) hF dX7_fill_23 rfl rfl rfl ?_
      exact xB_l (t_X7_fill_c24 hF _ _ _ e) (And.intro rfl (And.intro rfl (And.intro rfl (And.intro rfl (True.intro)))))
def f_X7_laysBy_c2 : Nat → Int32 → xH → Option (Int32 × xH)
  | 0, _, _ => none
  | n + 1, v1, h =>
    if 78 ≤ v1 then (some (0, h)) else (gd v1 3078 <| gd v1 78 <| nm (xst h 13 (Int32.toNatClampNeg v1) (h 1 (Int32.toNatClampNeg v1))) fun h1 => f_X7_laysBy_c2 n (v1 + 1) h1)
set_option maxRecDepth 20000 in
set_option maxHeartbeats 2000000 in
theorem t_X7_laysBy_c2 {l : Launch} {γ : xG} {r : Int32} {hr : xH} {C : xCx} (hF : xF C cX7_laysBy RX7 2 0 γ xSM none hr l none) : ∀ (n : Nat) (v1 : Int32) (h : xH), f_X7_laysBy_c2 n v1 h = some (r, hr) → xB C h 2 [some (.ref (γ.2.2.2 0)), some (.int v1)] [] := by
  intro n
  induction n with
  | zero => intro v1 h e; cases e
  | succ n ih =>
    intro v1 h e
    rw [f_X7_laysBy_c2] at e
    refine xB_iload_n hF dX7_laysBy_2 rfl ?_
    refine xB_bipush hF dX7_laysBy_3 kb_78 ?_
    refine xB_icmp_ge (tgt := 26) hF dX7_laysBy_5 rfl e (fun _ e => ?_) (fun _ e => ?_)
    · exact xB_vreturn hF dX7_laysBy_26 e
    · refine xB_aload_n hF dX7_laysBy_8 rfl ?_
      refine xB_get hF dX7_laysBy_9 fl_X7_46 sM_0 rfl rfl ?_
      refine xB_iload_n hF dX7_laysBy_12 rfl ?_
      refine xB_aload_n hF dX7_laysBy_13 rfl ?_
      refine xB_get hF dX7_laysBy_14 fl_X7_7 sM_0 rfl rfl ?_
      refine xB_iload_n hF dX7_laysBy_17 rfl ?_
      refine xB_iald hF dX7_laysBy_18 sM_1 e (fun e => ?_)
      refine xB_iast hF dX7_laysBy_19 sM_13 e (fun e => ?_)
      refine xB_gen e (fun h1 e => ?_)
      refine xB_iinc (L' := [_, _]) hF dX7_laysBy_20 rfl ki_1 rfl rfl rfl ?_
      refine xB_goto (tgt := 2) hF dX7_laysBy_23 rfl ?_
      exact xB_l (ih _ _ e) (And.intro rfl (And.intro rfl (True.intro)))
def f_X7_laysBy (h : xH) : Option (Int32 × xH) :=
    f_X7_laysBy_c2 xN 0 h
set_option maxRecDepth 20000 in
set_option maxHeartbeats 2000000 in
theorem t_X7_laysBy {l : Launch} {γ : xG} {h : xH} {r : Int32} {hr : xH} (e : f_X7_laysBy h = some (r, hr)) : xCT l γ xSM yX7_laysBy cX7_laysBy 2 none 0 [.ref (γ.2.2.2 0)] h none hr := by
  refine xCT.of (own := RX7) (L := [some (.ref (γ.2.2.2 0)), none]) (by decide) rfl rfl rfl (fun C hF => ?_)
  unfold f_X7_laysBy at e
  refine xB_iconst hF dX7_laysBy_0 ki_0 ?_
  refine xB_istore_n (L' := [_, _]) hF dX7_laysBy_1 rfl rfl rfl ?_
  exact xB_l (t_X7_laysBy_c2 hF _ _ _ e) (And.intro rfl (And.intro rfl (True.intro)))
def f_X7_laysBack_c2 : Nat → Int32 → xH → Option (Int32 × xH)
  | 0, _, _ => none
  | n + 1, v1, h =>
    if 78 ≤ v1 then (some (0, h)) else (gd v1 78 <| gd v1 3078 <| nm (xst h 1 (Int32.toNatClampNeg v1) (h 13 (Int32.toNatClampNeg v1))) fun h1 => f_X7_laysBack_c2 n (v1 + 1) h1)
set_option maxRecDepth 20000 in
set_option maxHeartbeats 2000000 in
theorem t_X7_laysBack_c2 {l : Launch} {γ : xG} {r : Int32} {hr : xH} {C : xCx} (hF : xF C cX7_laysBack RX7 2 0 γ xSM none hr l none) : ∀ (n : Nat) (v1 : Int32) (h : xH), f_X7_laysBack_c2 n v1 h = some (r, hr) → xB C h 2 [some (.ref (γ.2.2.2 0)), some (.int v1)] [] := by
  intro n
  induction n with
  | zero => intro v1 h e; cases e
  | succ n ih =>
    intro v1 h e
    rw [f_X7_laysBack_c2] at e
    refine xB_iload_n hF dX7_laysBack_2 rfl ?_
    refine xB_bipush hF dX7_laysBack_3 kb_78 ?_
    refine xB_icmp_ge (tgt := 26) hF dX7_laysBack_5 rfl e (fun _ e => ?_) (fun _ e => ?_)
    · exact xB_vreturn hF dX7_laysBack_26 e
    · refine xB_aload_n hF dX7_laysBack_8 rfl ?_
      refine xB_get hF dX7_laysBack_9 fl_X7_7 sM_0 rfl rfl ?_
      refine xB_iload_n hF dX7_laysBack_12 rfl ?_
      refine xB_aload_n hF dX7_laysBack_13 rfl ?_
      refine xB_get hF dX7_laysBack_14 fl_X7_46 sM_0 rfl rfl ?_
      refine xB_iload_n hF dX7_laysBack_17 rfl ?_
      refine xB_iald hF dX7_laysBack_18 sM_13 e (fun e => ?_)
      refine xB_iast hF dX7_laysBack_19 sM_1 e (fun e => ?_)
      refine xB_gen e (fun h1 e => ?_)
      refine xB_iinc (L' := [_, _]) hF dX7_laysBack_20 rfl ki_1 rfl rfl rfl ?_
      refine xB_goto (tgt := 2) hF dX7_laysBack_23 rfl ?_
      exact xB_l (ih _ _ e) (And.intro rfl (And.intro rfl (True.intro)))
def f_X7_laysBack (h : xH) : Option (Int32 × xH) :=
    f_X7_laysBack_c2 xN 0 h
set_option maxRecDepth 20000 in
set_option maxHeartbeats 2000000 in
theorem t_X7_laysBack {l : Launch} {γ : xG} {h : xH} {r : Int32} {hr : xH} (e : f_X7_laysBack h = some (r, hr)) : xCT l γ xSM yX7_laysBack cX7_laysBack 2 none 0 [.ref (γ.2.2.2 0)] h none hr := by
  refine xCT.of (own := RX7) (L := [some (.ref (γ.2.2.2 0)), none]) (by decide) rfl rfl rfl (fun C hF => ?_)
  unfold f_X7_laysBack at e
  refine xB_iconst hF dX7_laysBack_0 ki_0 ?_
  refine xB_istore_n (L' := [_, _]) hF dX7_laysBack_1 rfl rfl rfl ?_
  exact xB_l (t_X7_laysBack_c2 hF _ _ _ e) (And.intro rfl (And.intro rfl (True.intro)))
def f_X7_goesOnMany_c2 (a1 : Int32) : Nat → Int32 → xH → Option (Int32 × xH)
  | 0, _, _ => none
  | n + 1, v2, h =>
    if a1 ≤ v2 then (some (0, h)) else (bn (f_X7_goesOn h) fun r1 h2 => f_X7_goesOnMany_c2 a1 n (v2 + 1) h2)
set_option maxRecDepth 20000 in
set_option maxHeartbeats 2000000 in
theorem t_X7_goesOnMany_c2 {l : Launch} {γ : xG} {a1 : Int32} {r : Int32} {hr : xH} {C : xCx} (hF : xF C cX7_goesOnMany RX7 3 7 γ xSM none hr l none) : ∀ (n : Nat) (v2 : Int32) (h : xH), f_X7_goesOnMany_c2 a1 n v2 h = some (r, hr) → xB C h 2 [some (.ref (γ.2.2.2 0)), some (.int a1), some (.int v2)] [] := by
  intro n
  induction n with
  | zero => intro v2 h e; cases e
  | succ n ih =>
    intro v2 h e
    rw [f_X7_goesOnMany_c2] at e
    refine xB_iload_n hF dX7_goesOnMany_2 rfl ?_
    refine xB_iload_n hF dX7_goesOnMany_3 rfl ?_
    refine xB_icmp_ge (tgt := 17) hF dX7_goesOnMany_4 rfl e (fun _ e => ?_) (fun _ e => ?_)
    · exact xB_vreturn hF dX7_goesOnMany_17 e
    · refine xB_aload_n hF dX7_goesOnMany_7 rfl ?_
      obtain ⟨r1, h2, e3, e⟩ := bn_of e
      refine xB_callVv hF dX7_goesOnMany_8 (t_X7_goesOn e3) cw_X7_163 sM_0 rfl rfl rfl rfl rfl ?_
      refine xB_iinc (L' := [_, _, _]) hF dX7_goesOnMany_11 rfl ki_1 rfl rfl rfl ?_
      refine xB_goto (tgt := 2) hF dX7_goesOnMany_14 rfl ?_
      exact xB_l (ih _ _ e) (And.intro rfl (And.intro rfl (And.intro rfl (True.intro))))
def f_X7_goesOnMany (a1 : Int32) (h : xH) : Option (Int32 × xH) :=
    f_X7_goesOnMany_c2 a1 xN 0 h
set_option maxRecDepth 20000 in
set_option maxHeartbeats 2000000 in
theorem t_X7_goesOnMany {l : Launch} {γ : xG} {a1 : Int32} {h : xH} {r : Int32} {hr : xH} (e : f_X7_goesOnMany a1 h = some (r, hr)) : xCT l γ xSM yX7_goesOnMany cX7_goesOnMany 3 none 7 [.ref (γ.2.2.2 0), .int a1] h none hr := by
  refine xCT.of (own := RX7) (L := [some (.ref (γ.2.2.2 0)), some (.int a1), none]) (by decide) rfl rfl rfl (fun C hF => ?_)
  unfold f_X7_goesOnMany at e
  refine xB_iconst hF dX7_goesOnMany_0 ki_0 ?_
  refine xB_istore_n (L' := [_, _, _]) hF dX7_goesOnMany_1 rfl rfl rfl ?_
  exact xB_l (t_X7_goesOnMany_c2 hF _ _ _ e) (And.intro rfl (And.intro rfl (And.intro rfl (True.intro))))
def f_X7_emptied_c62 (k22 : Int32 → Int32 → xH → Option (Int32 × xH)) (a1 : Int32) (v2 : Int32) (v3 : Int32) (h : xH) : Option (Int32 × xH) :=
    k22 v2 (v3 + 1) h
set_option maxRecDepth 20000 in
set_option maxHeartbeats 2000000 in
theorem t_X7_emptied_c62 {l : Launch} {γ : xG} {k22 : Int32 → Int32 → xH → Option (Int32 × xH)} {a1 : Int32} {r : Int32} {hr : xH} {C : xCx} (hF : xF C cX7_emptied RX7 5 6 γ xSM (some (.int r)) hr l (some .int)) (hk22 : ∀ (v2 : Int32) (v3 : Int32) (h : xH), k22 v2 v3 h = some (r, hr) → xB C h 22 [some (.ref (γ.2.2.2 0)), some (.int a1), some (.int v2), some (.int v3), none] []) : ∀ (v2 : Int32) (v3 : Int32) (h : xH), f_X7_emptied_c62 k22 a1 v2 v3 h = some (r, hr) → xB C h 62 [some (.ref (γ.2.2.2 0)), some (.int a1), some (.int v2), some (.int v3), none] [] := by
  intro v2 v3 h e
  unfold f_X7_emptied_c62 at e
  refine xB_iinc (L' := [_, _, _, _, _]) hF dX7_emptied_62 rfl ki_1 rfl rfl rfl ?_
  refine xB_goto (tgt := 22) hF dX7_emptied_65 rfl ?_
  exact xB_l (hk22 _ _ _ e) (And.intro rfl (And.intro rfl (And.intro rfl (And.intro rfl (True.intro)))))
def f_X7_emptied_c22 (a1 : Int32) : Nat → Int32 → Int32 → xH → Option (Int32 × xH)
  | 0, _, _, _ => none
  | n + 1, v2, v3, h =>
    gd 0 3078 <| if (h 1 (Int32.toNatClampNeg 0)) ≤ v3 then (gd (6 + a1) 3078 <| gd (6 + a1) 78 <| nm ((h 1 (Int32.toNatClampNeg (6 + a1))) - (h 13 (Int32.toNatClampNeg (6 + a1)))) fun x1 => bn (f_X7_laysBack h) fun r2 h3 => some (x1, h3)) else (if ((v2 >>> (v3 &&& 31)) &&& 1) = 1 then (bn (f_X7_bidder v3 h) fun r5 h6 => bn (f_X7_offerOf r5 v3 h6) fun r8 h9 => bn (f_X7_sells v3 r5 r8 h9) fun r11 h12 => f_X7_emptied_c62 (f_X7_emptied_c22 a1 n) a1 v2 v3 h12) else (f_X7_emptied_c62 (f_X7_emptied_c22 a1 n) a1 v2 v3 h))
set_option maxRecDepth 20000 in
set_option maxHeartbeats 2000000 in
theorem t_X7_emptied_c22 {l : Launch} {γ : xG} {a1 : Int32} {r : Int32} {hr : xH} {C : xCx} (hF : xF C cX7_emptied RX7 5 6 γ xSM (some (.int r)) hr l (some .int)) : ∀ (n : Nat) (v2 : Int32) (v3 : Int32) (h : xH), f_X7_emptied_c22 a1 n v2 v3 h = some (r, hr) → xB C h 22 [some (.ref (γ.2.2.2 0)), some (.int a1), some (.int v2), some (.int v3), none] [] := by
  intro n
  induction n with
  | zero => intro v2 v3 h e; cases e
  | succ n ih =>
    intro v2 v3 h e
    rw [f_X7_emptied_c22] at e
    refine xB_iload_n hF dX7_emptied_22 rfl ?_
    refine xB_aload_n hF dX7_emptied_23 rfl ?_
    refine xB_get hF dX7_emptied_24 fl_X7_7 sM_0 rfl rfl ?_
    refine xB_iconst hF dX7_emptied_27 ki_0 ?_
    refine xB_iald hF dX7_emptied_28 sM_1 e (fun e => ?_)
    refine xB_icmp_ge (tgt := 68) hF dX7_emptied_29 rfl e (fun _ e => ?_) (fun _ e => ?_)
    · refine xB_aload_n hF dX7_emptied_68 rfl ?_
      refine xB_get hF dX7_emptied_69 fl_X7_7 sM_0 rfl rfl ?_
      refine xB_bipush hF dX7_emptied_72 kb_6 ?_
      refine xB_iload_n hF dX7_emptied_74 rfl ?_
      refine xB_iadd hF dX7_emptied_75 ?_
      refine xB_iald hF dX7_emptied_76 sM_1 e (fun e => ?_)
      refine xB_aload_n hF dX7_emptied_77 rfl ?_
      refine xB_get hF dX7_emptied_78 fl_X7_46 sM_0 rfl rfl ?_
      refine xB_bipush hF dX7_emptied_81 kb_6 ?_
      refine xB_iload_n hF dX7_emptied_83 rfl ?_
      refine xB_iadd hF dX7_emptied_84 ?_
      refine xB_iald hF dX7_emptied_85 sM_13 e (fun e => ?_)
      refine xB_isub hF dX7_emptied_86 ?_
      refine xB_istore_n (L' := [_, _, _, _, _]) hF dX7_emptied_87 rfl rfl rfl ?_
      replace e := nm_of e
      refine xB_aload_n hF dX7_emptied_88 rfl ?_
      obtain ⟨r2, h3, e4, e⟩ := bn_of e
      refine xB_callVv hF dX7_emptied_89 (t_X7_laysBack e4) cw_X7_196 sM_0 rfl rfl rfl rfl rfl ?_
      refine xB_iload_n hF dX7_emptied_92 rfl ?_
      exact xB_ireturn hF dX7_emptied_93 e
    · refine xB_iload_n hF dX7_emptied_32 rfl ?_
      refine xB_iload_n hF dX7_emptied_33 rfl ?_
      refine xB_ishr hF dX7_emptied_34 ?_
      refine xB_iconst hF dX7_emptied_35 ki_1 ?_
      refine xB_iand hF dX7_emptied_36 ?_
      refine xB_iconst hF dX7_emptied_37 ki_1 ?_
      refine xB_icmp_ne (tgt := 62) hF dX7_emptied_38 rfl e (fun _ e => ?_) (fun _ e => ?_)
      · refine xB_aload_n hF dX7_emptied_41 rfl ?_
        refine xB_iload_n hF dX7_emptied_42 rfl ?_
        obtain ⟨r5, h6, e7, e⟩ := bn_of e
        refine xB_callVi hF dX7_emptied_43 (t_X7_bidder e7) cw_X7_158 sM_0 rfl rfl rfl rfl rfl ?_
        refine xB_istore (L' := [_, _, _, _, _]) hF dX7_emptied_46 rfl rfl rfl ?_
        refine xB_aload_n hF dX7_emptied_48 rfl ?_
        refine xB_iload_n hF dX7_emptied_49 rfl ?_
        refine xB_iload hF dX7_emptied_50 rfl ?_
        refine xB_aload_n hF dX7_emptied_52 rfl ?_
        refine xB_iload hF dX7_emptied_53 rfl ?_
        refine xB_iload_n hF dX7_emptied_55 rfl ?_
        obtain ⟨r8, h9, e10, e⟩ := bn_of e
        refine xB_callVi hF dX7_emptied_56 (t_X7_offerOf e10) cw_X7_142 sM_0 rfl rfl rfl rfl rfl ?_
        obtain ⟨r11, h12, e13, e⟩ := bn_of e
        refine xB_callVv hF dX7_emptied_59 (t_X7_sells e13) cw_X7_152 sM_0 rfl rfl rfl rfl rfl ?_
        exact xB_l (t_X7_emptied_c62 hF ih _ _ _ e) (And.intro rfl (And.intro rfl (And.intro rfl (And.intro rfl (True.intro)))))
      · exact xB_l (t_X7_emptied_c62 hF ih _ _ _ e) (And.intro rfl (And.intro rfl (And.intro rfl (And.intro rfl (True.intro)))))
def f_X7_emptied (a1 : Int32) (h : xH) : Option (Int32 × xH) :=
    bn (f_X7_isOne a1 h) fun r1 h2 => if r1 = 0 then (some ((-1000000001), h2)) else (bn (f_X7_laysBy h2) fun r4 h5 => bn (f_X7_daysOf a1 h5) fun r7 h8 => f_X7_emptied_c22 a1 xN r7 0 h8)
set_option maxRecDepth 20000 in
set_option maxHeartbeats 2000000 in
theorem t_X7_emptied {l : Launch} {γ : xG} {a1 : Int32} {h : xH} {r : Int32} {hr : xH} (e : f_X7_emptied a1 h = some (r, hr)) : xCT l γ xSM yX7_emptied cX7_emptied 5 (some .int) 6 [.ref (γ.2.2.2 0), .int a1] h (some (.int r)) hr := by
  refine xCT.of (own := RX7) (L := [some (.ref (γ.2.2.2 0)), some (.int a1), none, none, none]) (by decide) rfl rfl rfl (fun C hF => ?_)
  unfold f_X7_emptied at e
  refine xB_iload_n hF dX7_emptied_0 rfl ?_
  obtain ⟨r1, h2, e3, e⟩ := bn_of e
  refine xB_callSi hF dX7_emptied_1 (t_X7_isOne e3) cw_X7_83 rfl rfl rfl rfl ?_
  refine xB_if_ne (tgt := 10) hF dX7_emptied_4 rfl e (fun _ e => ?_) (fun _ e => ?_)
  · refine xB_ldc hF dX7_emptied_7 kc_X7_87 ?_
    exact xB_ireturn hF dX7_emptied_9 e
  · refine xB_aload_n hF dX7_emptied_10 rfl ?_
    obtain ⟨r4, h5, e6, e⟩ := bn_of e
    refine xB_callVv hF dX7_emptied_11 (t_X7_laysBy e6) cw_X7_193 sM_0 rfl rfl rfl rfl rfl ?_
    refine xB_aload_n hF dX7_emptied_14 rfl ?_
    refine xB_iload_n hF dX7_emptied_15 rfl ?_
    obtain ⟨r7, h8, e9, e⟩ := bn_of e
    refine xB_callVi hF dX7_emptied_16 (t_X7_daysOf e9) cw_X7_137 sM_0 rfl rfl rfl rfl rfl ?_
    refine xB_istore_n (L' := [_, _, _, _, _]) hF dX7_emptied_19 rfl rfl rfl ?_
    refine xB_iconst hF dX7_emptied_20 ki_0 ?_
    refine xB_istore_n (L' := [_, _, _, _, _]) hF dX7_emptied_21 rfl rfl rfl ?_
    exact xB_l (t_X7_emptied_c22 hF _ _ _ _ e) (And.intro rfl (And.intro rfl (And.intro rfl (And.intro rfl (True.intro)))))
def f_X7_behind_c88 (a1 : Int32) (a2 : Int32) (a3 : Int32) (s0 : Int32) (h : xH) : Option (Int32 × xH) :=
    bn (f_X7_laysBack h) fun r1 h2 => some (s0, h2)
set_option maxRecDepth 20000 in
set_option maxHeartbeats 2000000 in
theorem t_X7_behind_c88 {l : Launch} {γ : xG} {a1 : Int32} {a2 : Int32} {a3 : Int32} {r : Int32} {hr : xH} {C : xCx} (hF : xF C cX7_behind RX7 5 8 γ xSM (some (.int r)) hr l (some .int)) : ∀ (s0 : Int32) (h : xH), f_X7_behind_c88 a1 a2 a3 s0 h = some (r, hr) → xB C h 88 [some (.ref (γ.2.2.2 0)), some (.int a1), some (.int a2), some (.int a3), none] [.int s0] := by
  intro s0 h e
  unfold f_X7_behind_c88 at e
  refine xB_istore (L' := [_, _, _, _, _]) hF dX7_behind_88 rfl rfl rfl ?_
  refine xB_aload_n hF dX7_behind_90 rfl ?_
  obtain ⟨r1, h2, e3, e⟩ := bn_of e
  refine xB_callVv hF dX7_behind_91 (t_X7_laysBack e3) cw_X7_196 sM_0 rfl rfl rfl rfl rfl ?_
  refine xB_iload hF dX7_behind_94 rfl ?_
  exact xB_ireturn hF dX7_behind_96 e
def f_X7_behind (a1 : Int32) (a2 : Int32) (a3 : Int32) (h : xH) : Option (Int32 × xH) :=
    bn (f_X7_isDay a1 h) fun r1 h2 => if r1 = 0 then (some ((-1000000001), h2)) else (bn (f_X7_isIn (Int32.toInt64 a2) 0 100 h2) fun r4 h5 => if r4 = 0 then (some ((-1000000001), h5)) else (bn (f_X7_isIn (Int32.toInt64 a3) 0 4 h5) fun r7 h8 => if r7 = 0 then (some ((-1000000001), h8)) else (bn (f_X7_laysBy h8) fun r10 h11 => bn (f_X7_goesOnMany a2 h11) fun r13 h14 => if a3 = 0 then (bn (f_X7_of a1 4 h14) fun r22 h23 => f_X7_behind_c88 a1 a2 a3 r22 h23) else (if a3 = 1 then (bn (f_X7_valueOf a1 h14) fun r19 h20 => f_X7_behind_c88 a1 a2 a3 r19 h20) else (if a3 = 2 then (bn (f_X7_allCoins h14) fun r16 h17 => f_X7_behind_c88 a1 a2 a3 r16 h17) else (gd a3 3078 <| f_X7_behind_c88 a1 a2 a3 (h14 1 (Int32.toNatClampNeg a3)) h14))))))
set_option maxRecDepth 20000 in
set_option maxHeartbeats 2000000 in
theorem t_X7_behind {l : Launch} {γ : xG} {a1 : Int32} {a2 : Int32} {a3 : Int32} {h : xH} {r : Int32} {hr : xH} (e : f_X7_behind a1 a2 a3 h = some (r, hr)) : xCT l γ xSM yX7_behind cX7_behind 5 (some .int) 8 [.ref (γ.2.2.2 0), .int a1, .int a2, .int a3] h (some (.int r)) hr := by
  refine xCT.of (own := RX7) (L := [some (.ref (γ.2.2.2 0)), some (.int a1), some (.int a2), some (.int a3), none]) (by decide) rfl rfl rfl (fun C hF => ?_)
  unfold f_X7_behind at e
  refine xB_aload_n hF dX7_behind_0 rfl ?_
  refine xB_iload_n hF dX7_behind_1 rfl ?_
  obtain ⟨r1, h2, e3, e⟩ := bn_of e
  refine xB_callVi hF dX7_behind_2 (t_X7_isDay e3) cw_X7_117 sM_0 rfl rfl rfl rfl rfl ?_
  refine xB_if_eq (tgt := 32) hF dX7_behind_5 rfl e (fun _ e => ?_) (fun _ e => ?_)
  · refine xB_ldc hF dX7_behind_32 kc_X7_87 ?_
    exact xB_ireturn hF dX7_behind_34 e
  · refine xB_iload_n hF dX7_behind_8 rfl ?_
    refine xB_i2l hF dX7_behind_9 ?_
    refine xB_lconst (v := 0) hF dX7_behind_10 (by decide) ?_
    refine xB_ldc2 hF dX7_behind_11 kc_X7_161 ?_
    obtain ⟨r4, h5, e6, e⟩ := bn_of e
    refine xB_callSi hF dX7_behind_14 (t_X7_isIn e6) cw_X7_68 rfl rfl rfl rfl ?_
    refine xB_if_eq (tgt := 32) hF dX7_behind_17 rfl e (fun _ e => ?_) (fun _ e => ?_)
    · refine xB_ldc hF dX7_behind_32 kc_X7_87 ?_
      exact xB_ireturn hF dX7_behind_34 e
    · refine xB_iload_n hF dX7_behind_20 rfl ?_
      refine xB_i2l hF dX7_behind_21 ?_
      refine xB_lconst (v := 0) hF dX7_behind_22 (by decide) ?_
      refine xB_ldc2 hF dX7_behind_23 kc_X7_199 ?_
      obtain ⟨r7, h8, e9, e⟩ := bn_of e
      refine xB_callSi hF dX7_behind_26 (t_X7_isIn e9) cw_X7_68 rfl rfl rfl rfl ?_
      refine xB_if_ne (tgt := 35) hF dX7_behind_29 rfl e (fun _ e => ?_) (fun _ e => ?_)
      · refine xB_ldc hF dX7_behind_32 kc_X7_87 ?_
        exact xB_ireturn hF dX7_behind_34 e
      · refine xB_aload_n hF dX7_behind_35 rfl ?_
        obtain ⟨r10, h11, e12, e⟩ := bn_of e
        refine xB_callVv hF dX7_behind_36 (t_X7_laysBy e12) cw_X7_193 sM_0 rfl rfl rfl rfl rfl ?_
        refine xB_aload_n hF dX7_behind_39 rfl ?_
        refine xB_iload_n hF dX7_behind_40 rfl ?_
        obtain ⟨r13, h14, e15, e⟩ := bn_of e
        refine xB_callVv hF dX7_behind_41 (t_X7_goesOnMany e15) cw_X7_201 sM_0 rfl rfl rfl rfl rfl ?_
        refine xB_iload_n hF dX7_behind_44 rfl ?_
        refine xB_if_ne (tgt := 57) hF dX7_behind_45 rfl e (fun _ e => ?_) (fun _ e => ?_)
        · refine xB_aload_n hF dX7_behind_48 rfl ?_
          refine xB_iload_n hF dX7_behind_49 rfl ?_
          refine xB_iconst hF dX7_behind_50 ki_4 ?_
          obtain ⟨r22, h23, e24, e⟩ := bn_of e
          refine xB_callVi hF dX7_behind_51 (t_X7_of e24) cw_X7_97 sM_0 rfl rfl rfl rfl rfl ?_
          refine xB_goto (tgt := 88) hF dX7_behind_54 rfl ?_
          exact xB_l (t_X7_behind_c88 hF _ _ e) (And.intro rfl (And.intro rfl (And.intro rfl (And.intro rfl (True.intro)))))
        · refine xB_iload_n hF dX7_behind_57 rfl ?_
          refine xB_iconst hF dX7_behind_58 ki_1 ?_
          refine xB_icmp_ne (tgt := 70) hF dX7_behind_59 rfl e (fun _ e => ?_) (fun _ e => ?_)
          · refine xB_aload_n hF dX7_behind_62 rfl ?_
            refine xB_iload_n hF dX7_behind_63 rfl ?_
            obtain ⟨r19, h20, e21, e⟩ := bn_of e
            refine xB_callVi hF dX7_behind_64 (t_X7_valueOf e21) cw_X7_110 sM_0 rfl rfl rfl rfl rfl ?_
            refine xB_goto (tgt := 88) hF dX7_behind_67 rfl ?_
            exact xB_l (t_X7_behind_c88 hF _ _ e) (And.intro rfl (And.intro rfl (And.intro rfl (And.intro rfl (True.intro)))))
          · refine xB_iload_n hF dX7_behind_70 rfl ?_
            refine xB_iconst hF dX7_behind_71 ki_2 ?_
            refine xB_icmp_ne (tgt := 82) hF dX7_behind_72 rfl e (fun _ e => ?_) (fun _ e => ?_)
            · refine xB_aload_n hF dX7_behind_75 rfl ?_
              obtain ⟨r16, h17, e18, e⟩ := bn_of e
              refine xB_callVi hF dX7_behind_76 (t_X7_allCoins e18) cw_X7_166 sM_0 rfl rfl rfl rfl rfl ?_
              refine xB_goto (tgt := 88) hF dX7_behind_79 rfl ?_
              exact xB_l (t_X7_behind_c88 hF _ _ e) (And.intro rfl (And.intro rfl (And.intro rfl (And.intro rfl (True.intro)))))
            · refine xB_aload_n hF dX7_behind_82 rfl ?_
              refine xB_get hF dX7_behind_83 fl_X7_7 sM_0 rfl rfl ?_
              refine xB_iload_n hF dX7_behind_86 rfl ?_
              refine xB_iald hF dX7_behind_87 sM_1 e (fun e => ?_)
              exact xB_l (t_X7_behind_c88 hF _ _ e) (And.intro rfl (And.intro rfl (And.intro rfl (And.intro rfl (True.intro)))))
def f_X7_richestNow_c36 (k4 : Int32 → Int32 → xH → Option (Int32 × xH)) (v2 : Int32) (s0 : Int32) (h : xH) : Option (Int32 × xH) :=
    k4 s0 (v2 + 1) h
set_option maxRecDepth 20000 in
set_option maxHeartbeats 2000000 in
theorem t_X7_richestNow_c36 {l : Launch} {γ : xG} {k4 : Int32 → Int32 → xH → Option (Int32 × xH)} {r : Int32} {hr : xH} {C : xCx} (hF : xF C cX7_richestNow RX7 3 0 γ xSM (some (.int r)) hr l (some .int)) (hk4 : ∀ (v1 : Int32) (v2 : Int32) (h : xH), k4 v1 v2 h = some (r, hr) → xB C h 4 [some (.ref (γ.2.2.2 0)), some (.int v1), some (.int v2)] []) : ∀ (v2 : Int32) (s0 : Int32) (h : xH), f_X7_richestNow_c36 k4 v2 s0 h = some (r, hr) → xB C h 36 [some (.ref (γ.2.2.2 0)), none, some (.int v2)] [.int s0] := by
  intro v2 s0 h e
  unfold f_X7_richestNow_c36 at e
  refine xB_istore_n (L' := [_, _, _]) hF dX7_richestNow_36 rfl rfl rfl ?_
  refine xB_iinc (L' := [_, _, _]) hF dX7_richestNow_37 rfl ki_1 rfl rfl rfl ?_
  refine xB_goto (tgt := 4) hF dX7_richestNow_40 rfl ?_
  exact xB_l (hk4 _ _ _ e) (And.intro rfl (And.intro rfl (And.intro rfl (True.intro))))
def f_X7_richestNow_c4 : Nat → Int32 → Int32 → xH → Option (Int32 × xH)
  | 0, _, _, _ => none
  | n + 1, v1, v2, h =>
    if 6 ≤ v2 then (some (v1, h)) else (gd (6 + v2) 3078 <| gd (6 + v1) 3078 <| if (h 1 (Int32.toNatClampNeg (6 + v2))) ≤ (h 1 (Int32.toNatClampNeg (6 + v1))) then (f_X7_richestNow_c36 (f_X7_richestNow_c4 n) v2 v1 h) else (f_X7_richestNow_c36 (f_X7_richestNow_c4 n) v2 v2 h))
set_option maxRecDepth 20000 in
set_option maxHeartbeats 2000000 in
theorem t_X7_richestNow_c4 {l : Launch} {γ : xG} {r : Int32} {hr : xH} {C : xCx} (hF : xF C cX7_richestNow RX7 3 0 γ xSM (some (.int r)) hr l (some .int)) : ∀ (n : Nat) (v1 : Int32) (v2 : Int32) (h : xH), f_X7_richestNow_c4 n v1 v2 h = some (r, hr) → xB C h 4 [some (.ref (γ.2.2.2 0)), some (.int v1), some (.int v2)] [] := by
  intro n
  induction n with
  | zero => intro v1 v2 h e; cases e
  | succ n ih =>
    intro v1 v2 h e
    rw [f_X7_richestNow_c4] at e
    refine xB_iload_n hF dX7_richestNow_4 rfl ?_
    refine xB_bipush hF dX7_richestNow_5 kb_6 ?_
    refine xB_icmp_ge (tgt := 43) hF dX7_richestNow_7 rfl e (fun _ e => ?_) (fun _ e => ?_)
    · refine xB_iload_n hF dX7_richestNow_43 rfl ?_
      exact xB_ireturn hF dX7_richestNow_44 e
    · refine xB_aload_n hF dX7_richestNow_10 rfl ?_
      refine xB_get hF dX7_richestNow_11 fl_X7_7 sM_0 rfl rfl ?_
      refine xB_bipush hF dX7_richestNow_14 kb_6 ?_
      refine xB_iload_n hF dX7_richestNow_16 rfl ?_
      refine xB_iadd hF dX7_richestNow_17 ?_
      refine xB_iald hF dX7_richestNow_18 sM_1 e (fun e => ?_)
      refine xB_aload_n hF dX7_richestNow_19 rfl ?_
      refine xB_get hF dX7_richestNow_20 fl_X7_7 sM_0 rfl rfl ?_
      refine xB_bipush hF dX7_richestNow_23 kb_6 ?_
      refine xB_iload_n hF dX7_richestNow_25 rfl ?_
      refine xB_iadd hF dX7_richestNow_26 ?_
      refine xB_iald hF dX7_richestNow_27 sM_1 e (fun e => ?_)
      refine xB_icmp_le (tgt := 35) hF dX7_richestNow_28 rfl e (fun _ e => ?_) (fun _ e => ?_)
      · refine xB_iload_n hF dX7_richestNow_35 rfl ?_
        exact xB_l (t_X7_richestNow_c36 hF ih _ _ _ e) (And.intro rfl (And.intro rfl (True.intro)))
      · refine xB_iload_n hF dX7_richestNow_31 rfl ?_
        refine xB_goto (tgt := 36) hF dX7_richestNow_32 rfl ?_
        exact xB_l (t_X7_richestNow_c36 hF ih _ _ _ e) (And.intro rfl (And.intro rfl (True.intro)))
def f_X7_richestNow (h : xH) : Option (Int32 × xH) :=
    f_X7_richestNow_c4 xN 0 1 h
set_option maxRecDepth 20000 in
set_option maxHeartbeats 2000000 in
theorem t_X7_richestNow {l : Launch} {γ : xG} {h : xH} {r : Int32} {hr : xH} (e : f_X7_richestNow h = some (r, hr)) : xCT l γ xSM yX7_richestNow cX7_richestNow 3 (some .int) 0 [.ref (γ.2.2.2 0)] h (some (.int r)) hr := by
  refine xCT.of (own := RX7) (L := [some (.ref (γ.2.2.2 0)), none, none]) (by decide) rfl rfl rfl (fun C hF => ?_)
  unfold f_X7_richestNow at e
  refine xB_iconst hF dX7_richestNow_0 ki_0 ?_
  refine xB_istore_n (L' := [_, _, _]) hF dX7_richestNow_1 rfl rfl rfl ?_
  refine xB_iconst hF dX7_richestNow_2 ki_1 ?_
  refine xB_istore_n (L' := [_, _, _]) hF dX7_richestNow_3 rfl rfl rfl ?_
  exact xB_l (t_X7_richestNow_c4 hF _ _ _ _ e) (And.intro rfl (And.intro rfl (And.intro rfl (True.intro))))
def f_X7_richest_c56 (a1 : Int32) (a2 : Int32) (s0 : Int32) (h : xH) : Option (Int32 × xH) :=
    bn (f_X7_laysBack h) fun r1 h2 => some (s0, h2)
set_option maxRecDepth 20000 in
set_option maxHeartbeats 2000000 in
theorem t_X7_richest_c56 {l : Launch} {γ : xG} {a1 : Int32} {a2 : Int32} {r : Int32} {hr : xH} {C : xCx} (hF : xF C cX7_richest RX7 5 8 γ xSM (some (.int r)) hr l (some .int)) : ∀ (s0 : Int32) (h : xH), f_X7_richest_c56 a1 a2 s0 h = some (r, hr) → xB C h 56 [some (.ref (γ.2.2.2 0)), some (.int a1), some (.int a2), none, none] [.int s0] := by
  intro s0 h e
  unfold f_X7_richest_c56 at e
  refine xB_istore (L' := [_, _, _, _, _]) hF dX7_richest_56 rfl rfl rfl ?_
  refine xB_aload_n hF dX7_richest_58 rfl ?_
  obtain ⟨r1, h2, e3, e⟩ := bn_of e
  refine xB_callVv hF dX7_richest_59 (t_X7_laysBack e3) cw_X7_196 sM_0 rfl rfl rfl rfl rfl ?_
  refine xB_iload hF dX7_richest_62 rfl ?_
  exact xB_ireturn hF dX7_richest_64 e
def f_X7_richest (a1 : Int32) (a2 : Int32) (h : xH) : Option (Int32 × xH) :=
    bn (f_X7_isIn (Int32.toInt64 a1) 0 100 h) fun r1 h2 => if r1 = 0 then (some ((-1000000001), h2)) else (bn (f_X7_isIn (Int32.toInt64 a2) 0 1 h2) fun r4 h5 => if r4 = 0 then (some ((-1000000001), h5)) else (bn (f_X7_laysBy h5) fun r7 h8 => bn (f_X7_goesOnMany a1 h8) fun r10 h11 => bn (f_X7_richestNow h11) fun r13 h14 => if a2 = 0 then (f_X7_richest_c56 a1 a2 r13 h14) else (gd (6 + r13) 3078 <| f_X7_richest_c56 a1 a2 (h14 1 (Int32.toNatClampNeg (6 + r13))) h14)))
set_option maxRecDepth 20000 in
set_option maxHeartbeats 2000000 in
theorem t_X7_richest {l : Launch} {γ : xG} {a1 : Int32} {a2 : Int32} {h : xH} {r : Int32} {hr : xH} (e : f_X7_richest a1 a2 h = some (r, hr)) : xCT l γ xSM yX7_richest cX7_richest 5 (some .int) 8 [.ref (γ.2.2.2 0), .int a1, .int a2] h (some (.int r)) hr := by
  refine xCT.of (own := RX7) (L := [some (.ref (γ.2.2.2 0)), some (.int a1), some (.int a2), none, none]) (by decide) rfl rfl rfl (fun C hF => ?_)
  unfold f_X7_richest at e
  refine xB_iload_n hF dX7_richest_0 rfl ?_
  refine xB_i2l hF dX7_richest_1 ?_
  refine xB_lconst (v := 0) hF dX7_richest_2 (by decide) ?_
  refine xB_ldc2 hF dX7_richest_3 kc_X7_161 ?_
  obtain ⟨r1, h2, e3, e⟩ := bn_of e
  refine xB_callSi hF dX7_richest_6 (t_X7_isIn e3) cw_X7_68 rfl rfl rfl rfl ?_
  refine xB_if_eq (tgt := 22) hF dX7_richest_9 rfl e (fun _ e => ?_) (fun _ e => ?_)
  · refine xB_ldc hF dX7_richest_22 kc_X7_87 ?_
    exact xB_ireturn hF dX7_richest_24 e
  · refine xB_iload_n hF dX7_richest_12 rfl ?_
    refine xB_i2l hF dX7_richest_13 ?_
    refine xB_lconst (v := 0) hF dX7_richest_14 (by decide) ?_
    refine xB_lconst (v := 1) hF dX7_richest_15 (by decide) ?_
    obtain ⟨r4, h5, e6, e⟩ := bn_of e
    refine xB_callSi hF dX7_richest_16 (t_X7_isIn e6) cw_X7_68 rfl rfl rfl rfl ?_
    refine xB_if_ne (tgt := 25) hF dX7_richest_19 rfl e (fun _ e => ?_) (fun _ e => ?_)
    · refine xB_ldc hF dX7_richest_22 kc_X7_87 ?_
      exact xB_ireturn hF dX7_richest_24 e
    · refine xB_aload_n hF dX7_richest_25 rfl ?_
      obtain ⟨r7, h8, e9, e⟩ := bn_of e
      refine xB_callVv hF dX7_richest_26 (t_X7_laysBy e9) cw_X7_193 sM_0 rfl rfl rfl rfl rfl ?_
      refine xB_aload_n hF dX7_richest_29 rfl ?_
      refine xB_iload_n hF dX7_richest_30 rfl ?_
      obtain ⟨r10, h11, e12, e⟩ := bn_of e
      refine xB_callVv hF dX7_richest_31 (t_X7_goesOnMany e12) cw_X7_201 sM_0 rfl rfl rfl rfl rfl ?_
      refine xB_aload_n hF dX7_richest_34 rfl ?_
      obtain ⟨r13, h14, e15, e⟩ := bn_of e
      refine xB_callVi hF dX7_richest_35 (t_X7_richestNow e15) cw_X7_205 sM_0 rfl rfl rfl rfl rfl ?_
      refine xB_istore_n (L' := [_, _, _, _, _]) hF dX7_richest_38 rfl rfl rfl ?_
      refine xB_iload_n hF dX7_richest_39 rfl ?_
      refine xB_if_ne (tgt := 47) hF dX7_richest_40 rfl e (fun _ e => ?_) (fun _ e => ?_)
      · refine xB_iload_n hF dX7_richest_43 rfl ?_
        refine xB_goto (tgt := 56) hF dX7_richest_44 rfl ?_
        exact xB_l (t_X7_richest_c56 hF _ _ e) (And.intro rfl (And.intro rfl (And.intro rfl (True.intro))))
      · refine xB_aload_n hF dX7_richest_47 rfl ?_
        refine xB_get hF dX7_richest_48 fl_X7_7 sM_0 rfl rfl ?_
        refine xB_bipush hF dX7_richest_51 kb_6 ?_
        refine xB_iload_n hF dX7_richest_53 rfl ?_
        refine xB_iadd hF dX7_richest_54 ?_
        refine xB_iald hF dX7_richest_55 sM_1 e (fun e => ?_)
        exact xB_l (t_X7_richest_c56 hF _ _ e) (And.intro rfl (And.intro rfl (And.intro rfl (True.intro))))
def f_X7_allValues_c4 : Nat → Int32 → Int32 → xH → Option (Int32 × xH)
  | 0, _, _, _ => none
  | n + 1, v1, v2, h =>
    gd 0 3078 <| if (h 1 (Int32.toNatClampNeg 0)) ≤ v2 then (some (v1, h)) else (bn (f_X7_valueOf v2 h) fun r1 h2 => f_X7_allValues_c4 n (v1 + r1) (v2 + 1) h2)
set_option maxRecDepth 20000 in
set_option maxHeartbeats 2000000 in
theorem t_X7_allValues_c4 {l : Launch} {γ : xG} {r : Int32} {hr : xH} {C : xCx} (hF : xF C cX7_allValues RX7 3 4 γ xSM (some (.int r)) hr l (some .int)) : ∀ (n : Nat) (v1 : Int32) (v2 : Int32) (h : xH), f_X7_allValues_c4 n v1 v2 h = some (r, hr) → xB C h 4 [some (.ref (γ.2.2.2 0)), some (.int v1), some (.int v2)] [] := by
  intro n
  induction n with
  | zero => intro v1 v2 h e; cases e
  | succ n ih =>
    intro v1 v2 h e
    rw [f_X7_allValues_c4] at e
    refine xB_iload_n hF dX7_allValues_4 rfl ?_
    refine xB_aload_n hF dX7_allValues_5 rfl ?_
    refine xB_get hF dX7_allValues_6 fl_X7_7 sM_0 rfl rfl ?_
    refine xB_iconst hF dX7_allValues_9 ki_0 ?_
    refine xB_iald hF dX7_allValues_10 sM_1 e (fun e => ?_)
    refine xB_icmp_ge (tgt := 28) hF dX7_allValues_11 rfl e (fun _ e => ?_) (fun _ e => ?_)
    · refine xB_iload_n hF dX7_allValues_28 rfl ?_
      exact xB_ireturn hF dX7_allValues_29 e
    · refine xB_iload_n hF dX7_allValues_14 rfl ?_
      refine xB_aload_n hF dX7_allValues_15 rfl ?_
      refine xB_iload_n hF dX7_allValues_16 rfl ?_
      obtain ⟨r1, h2, e3, e⟩ := bn_of e
      refine xB_callVi hF dX7_allValues_17 (t_X7_valueOf e3) cw_X7_110 sM_0 rfl rfl rfl rfl rfl ?_
      refine xB_iadd hF dX7_allValues_20 ?_
      refine xB_istore_n (L' := [_, _, _]) hF dX7_allValues_21 rfl rfl rfl ?_
      refine xB_iinc (L' := [_, _, _]) hF dX7_allValues_22 rfl ki_1 rfl rfl rfl ?_
      refine xB_goto (tgt := 4) hF dX7_allValues_25 rfl ?_
      exact xB_l (ih _ _ _ e) (And.intro rfl (And.intro rfl (And.intro rfl (True.intro))))
def f_X7_allValues (h : xH) : Option (Int32 × xH) :=
    f_X7_allValues_c4 xN 0 0 h
set_option maxRecDepth 20000 in
set_option maxHeartbeats 2000000 in
theorem t_X7_allValues {l : Launch} {γ : xG} {h : xH} {r : Int32} {hr : xH} (e : f_X7_allValues h = some (r, hr)) : xCT l γ xSM yX7_allValues cX7_allValues 3 (some .int) 4 [.ref (γ.2.2.2 0)] h (some (.int r)) hr := by
  refine xCT.of (own := RX7) (L := [some (.ref (γ.2.2.2 0)), none, none]) (by decide) rfl rfl rfl (fun C hF => ?_)
  unfold f_X7_allValues at e
  refine xB_iconst hF dX7_allValues_0 ki_0 ?_
  refine xB_istore_n (L' := [_, _, _]) hF dX7_allValues_1 rfl rfl rfl ?_
  refine xB_iconst hF dX7_allValues_2 ki_0 ?_
  refine xB_istore_n (L' := [_, _, _]) hF dX7_allValues_3 rfl rfl rfl ?_
  exact xB_l (t_X7_allValues_c4 hF _ _ _ _ e) (And.intro rfl (And.intro rfl (And.intro rfl (True.intro))))
def f_X7_allWear_c4 : Nat → Int32 → Int32 → xH → Option (Int32 × xH)
  | 0, _, _, _ => none
  | n + 1, v1, v2, h =>
    gd 0 3078 <| if (h 1 (Int32.toNatClampNeg 0)) ≤ v2 then (some (v1, h)) else (bn (f_X7_of v2 3 h) fun r1 h2 => f_X7_allWear_c4 n (v1 + r1) (v2 + 1) h2)
set_option maxRecDepth 20000 in
set_option maxHeartbeats 2000000 in
theorem t_X7_allWear_c4 {l : Launch} {γ : xG} {r : Int32} {hr : xH} {C : xCx} (hF : xF C cX7_allWear RX7 3 1 γ xSM (some (.int r)) hr l (some .int)) : ∀ (n : Nat) (v1 : Int32) (v2 : Int32) (h : xH), f_X7_allWear_c4 n v1 v2 h = some (r, hr) → xB C h 4 [some (.ref (γ.2.2.2 0)), some (.int v1), some (.int v2)] [] := by
  intro n
  induction n with
  | zero => intro v1 v2 h e; cases e
  | succ n ih =>
    intro v1 v2 h e
    rw [f_X7_allWear_c4] at e
    refine xB_iload_n hF dX7_allWear_4 rfl ?_
    refine xB_aload_n hF dX7_allWear_5 rfl ?_
    refine xB_get hF dX7_allWear_6 fl_X7_7 sM_0 rfl rfl ?_
    refine xB_iconst hF dX7_allWear_9 ki_0 ?_
    refine xB_iald hF dX7_allWear_10 sM_1 e (fun e => ?_)
    refine xB_icmp_ge (tgt := 29) hF dX7_allWear_11 rfl e (fun _ e => ?_) (fun _ e => ?_)
    · refine xB_iload_n hF dX7_allWear_29 rfl ?_
      exact xB_ireturn hF dX7_allWear_30 e
    · refine xB_iload_n hF dX7_allWear_14 rfl ?_
      refine xB_aload_n hF dX7_allWear_15 rfl ?_
      refine xB_iload_n hF dX7_allWear_16 rfl ?_
      refine xB_iconst hF dX7_allWear_17 ki_3 ?_
      obtain ⟨r1, h2, e3, e⟩ := bn_of e
      refine xB_callVi hF dX7_allWear_18 (t_X7_of e3) cw_X7_97 sM_0 rfl rfl rfl rfl rfl ?_
      refine xB_iadd hF dX7_allWear_21 ?_
      refine xB_istore_n (L' := [_, _, _]) hF dX7_allWear_22 rfl rfl rfl ?_
      refine xB_iinc (L' := [_, _, _]) hF dX7_allWear_23 rfl ki_1 rfl rfl rfl ?_
      refine xB_goto (tgt := 4) hF dX7_allWear_26 rfl ?_
      exact xB_l (ih _ _ _ e) (And.intro rfl (And.intro rfl (And.intro rfl (True.intro))))
def f_X7_allWear (h : xH) : Option (Int32 × xH) :=
    f_X7_allWear_c4 xN 0 0 h
set_option maxRecDepth 20000 in
set_option maxHeartbeats 2000000 in
theorem t_X7_allWear {l : Launch} {γ : xG} {h : xH} {r : Int32} {hr : xH} (e : f_X7_allWear h = some (r, hr)) : xCT l γ xSM yX7_allWear cX7_allWear 3 (some .int) 1 [.ref (γ.2.2.2 0)] h (some (.int r)) hr := by
  refine xCT.of (own := RX7) (L := [some (.ref (γ.2.2.2 0)), none, none]) (by decide) rfl rfl rfl (fun C hF => ?_)
  unfold f_X7_allWear at e
  refine xB_iconst hF dX7_allWear_0 ki_0 ?_
  refine xB_istore_n (L' := [_, _, _]) hF dX7_allWear_1 rfl rfl rfl ?_
  refine xB_iconst hF dX7_allWear_2 ki_0 ?_
  refine xB_istore_n (L' := [_, _, _]) hF dX7_allWear_3 rfl rfl rfl ?_
  exact xB_l (t_X7_allWear_c4 hF _ _ _ _ e) (And.intro rfl (And.intro rfl (And.intro rfl (True.intro))))
def f_X7_worn_c42 (v1 : Int32) (h : xH) : Option (Int32 × xH) :=
    bn (f_X7_laysBack h) fun r1 h2 => bn (f_X7_orNone v1 h2) fun r4 h5 => some (r4, h5)
set_option maxRecDepth 20000 in
set_option maxHeartbeats 2000000 in
theorem t_X7_worn_c42 {l : Launch} {γ : xG} {r : Int32} {hr : xH} {C : xCx} (hF : xF C cX7_worn RX7 3 7 γ xSM (some (.int r)) hr l (some .int)) : ∀ (v1 : Int32) (h : xH), f_X7_worn_c42 v1 h = some (r, hr) → xB C h 42 [some (.ref (γ.2.2.2 0)), some (.int v1), none] [] := by
  intro v1 h e
  unfold f_X7_worn_c42 at e
  refine xB_aload_n hF dX7_worn_42 rfl ?_
  obtain ⟨r1, h2, e3, e⟩ := bn_of e
  refine xB_callVv hF dX7_worn_43 (t_X7_laysBack e3) cw_X7_196 sM_0 rfl rfl rfl rfl rfl ?_
  refine xB_iload_n hF dX7_worn_46 rfl ?_
  obtain ⟨r4, h5, e6, e⟩ := bn_of e
  refine xB_callSi hF dX7_worn_47 (t_X7_orNone e6) cw_X7_175 rfl rfl rfl rfl ?_
  exact xB_ireturn hF dX7_worn_50 e
def f_X7_worn_c31 (k8 : Int32 → Int32 → xH → Option (Int32 × xH)) (v2 : Int32) (s0 : Int32) (h : xH) : Option (Int32 × xH) :=
    bn (f_X7_goesOn h) fun r1 h2 => k8 s0 (v2 + 1) h2
set_option maxRecDepth 20000 in
set_option maxHeartbeats 2000000 in
theorem t_X7_worn_c31 {l : Launch} {γ : xG} {k8 : Int32 → Int32 → xH → Option (Int32 × xH)} {r : Int32} {hr : xH} {C : xCx} (hF : xF C cX7_worn RX7 3 7 γ xSM (some (.int r)) hr l (some .int)) (hk8 : ∀ (v1 : Int32) (v2 : Int32) (h : xH), k8 v1 v2 h = some (r, hr) → xB C h 8 [some (.ref (γ.2.2.2 0)), some (.int v1), some (.int v2)] []) : ∀ (v2 : Int32) (s0 : Int32) (h : xH), f_X7_worn_c31 k8 v2 s0 h = some (r, hr) → xB C h 31 [some (.ref (γ.2.2.2 0)), none, some (.int v2)] [.int s0] := by
  intro v2 s0 h e
  unfold f_X7_worn_c31 at e
  refine xB_istore_n (L' := [_, _, _]) hF dX7_worn_31 rfl rfl rfl ?_
  refine xB_aload_n hF dX7_worn_32 rfl ?_
  obtain ⟨r1, h2, e3, e⟩ := bn_of e
  refine xB_callVv hF dX7_worn_33 (t_X7_goesOn e3) cw_X7_163 sM_0 rfl rfl rfl rfl rfl ?_
  refine xB_iinc (L' := [_, _, _]) hF dX7_worn_36 rfl ki_1 rfl rfl rfl ?_
  refine xB_goto (tgt := 8) hF dX7_worn_39 rfl ?_
  exact xB_l (hk8 _ _ _ e) (And.intro rfl (And.intro rfl (And.intro rfl (True.intro))))
def f_X7_worn_c8 : Nat → Int32 → Int32 → xH → Option (Int32 × xH)
  | 0, _, _, _ => none
  | n + 1, v1, v2, h =>
    if 200 < v2 then (f_X7_worn_c42 v1 h) else (if 0 ≤ v1 then (f_X7_worn_c42 v1 h) else (bn (f_X7_allValues h) fun r1 h2 => if r1 = 0 then (f_X7_worn_c31 (f_X7_worn_c8 n) v2 v2 h2) else (f_X7_worn_c31 (f_X7_worn_c8 n) v2 (-1) h2)))
set_option maxRecDepth 20000 in
set_option maxHeartbeats 2000000 in
theorem t_X7_worn_c8 {l : Launch} {γ : xG} {r : Int32} {hr : xH} {C : xCx} (hF : xF C cX7_worn RX7 3 7 γ xSM (some (.int r)) hr l (some .int)) : ∀ (n : Nat) (v1 : Int32) (v2 : Int32) (h : xH), f_X7_worn_c8 n v1 v2 h = some (r, hr) → xB C h 8 [some (.ref (γ.2.2.2 0)), some (.int v1), some (.int v2)] [] := by
  intro n
  induction n with
  | zero => intro v1 v2 h e; cases e
  | succ n ih =>
    intro v1 v2 h e
    rw [f_X7_worn_c8] at e
    refine xB_iload_n hF dX7_worn_8 rfl ?_
    refine xB_sipush hF dX7_worn_9 ks_200 ?_
    refine xB_icmp_gt (tgt := 42) hF dX7_worn_12 rfl e (fun _ e => ?_) (fun _ e => ?_)
    · exact xB_l (t_X7_worn_c42 hF _ _ e) (And.intro rfl (And.intro rfl (True.intro)))
    · refine xB_iload_n hF dX7_worn_15 rfl ?_
      refine xB_if_ge (tgt := 42) hF dX7_worn_16 rfl e (fun _ e => ?_) (fun _ e => ?_)
      · exact xB_l (t_X7_worn_c42 hF _ _ e) (And.intro rfl (And.intro rfl (True.intro)))
      · refine xB_aload_n hF dX7_worn_19 rfl ?_
        obtain ⟨r1, h2, e3, e⟩ := bn_of e
        refine xB_callVi hF dX7_worn_20 (t_X7_allValues e3) cw_X7_208 sM_0 rfl rfl rfl rfl rfl ?_
        refine xB_if_ne (tgt := 30) hF dX7_worn_23 rfl e (fun _ e => ?_) (fun _ e => ?_)
        · refine xB_iload_n hF dX7_worn_26 rfl ?_
          refine xB_goto (tgt := 31) hF dX7_worn_27 rfl ?_
          exact xB_l (t_X7_worn_c31 hF ih _ _ _ e) (And.intro rfl (And.intro rfl (True.intro)))
        · refine xB_iconst hF dX7_worn_30 ki_m1 ?_
          exact xB_l (t_X7_worn_c31 hF ih _ _ _ e) (And.intro rfl (And.intro rfl (True.intro)))
def f_X7_worn (h : xH) : Option (Int32 × xH) :=
    bn (f_X7_laysBy h) fun r1 h2 => f_X7_worn_c8 xN (-1) 0 h2
set_option maxRecDepth 20000 in
set_option maxHeartbeats 2000000 in
theorem t_X7_worn {l : Launch} {γ : xG} {h : xH} {r : Int32} {hr : xH} (e : f_X7_worn h = some (r, hr)) : xCT l γ xSM yX7_worn cX7_worn 3 (some .int) 7 [.ref (γ.2.2.2 0)] h (some (.int r)) hr := by
  refine xCT.of (own := RX7) (L := [some (.ref (γ.2.2.2 0)), none, none]) (by decide) rfl rfl rfl (fun C hF => ?_)
  unfold f_X7_worn at e
  refine xB_aload_n hF dX7_worn_0 rfl ?_
  obtain ⟨r1, h2, e3, e⟩ := bn_of e
  refine xB_callVv hF dX7_worn_1 (t_X7_laysBy e3) cw_X7_193 sM_0 rfl rfl rfl rfl rfl ?_
  refine xB_iconst hF dX7_worn_4 ki_m1 ?_
  refine xB_istore_n (L' := [_, _, _]) hF dX7_worn_5 rfl rfl rfl ?_
  refine xB_iconst hF dX7_worn_6 ki_0 ?_
  refine xB_istore_n (L' := [_, _, _]) hF dX7_worn_7 rfl rfl rfl ?_
  exact xB_l (t_X7_worn_c8 hF _ _ _ _ e) (And.intro rfl (And.intro rfl (And.intro rfl (True.intro))))
def f_X7_dye_c105 (k54 : Int32 → Int32 → Int32 → Int32 → xH → Option (Int32 × xH)) (a1 : Int32) (a2 : Int32) (a3 : Int32) (v4 : Int32) (v5 : Int32) (v6 : Int32) (v7 : Int32) (h : xH) : Option (Int32 × xH) :=
    k54 v4 v5 v6 (v7 + 1) h
set_option maxRecDepth 20000 in
set_option maxHeartbeats 2000000 in
theorem t_X7_dye_c105 {l : Launch} {γ : xG} {k54 : Int32 → Int32 → Int32 → Int32 → xH → Option (Int32 × xH)} {a1 : Int32} {a2 : Int32} {a3 : Int32} {r : Int32} {hr : xH} {C : xCx} (hF : xF C cX7_dye RX7 9 8 γ xSM (some (.int r)) hr l (some .int)) (hk54 : ∀ (v4 : Int32) (v5 : Int32) (v6 : Int32) (v7 : Int32) (h : xH), k54 v4 v5 v6 v7 h = some (r, hr) → xB C h 54 [some (.ref (γ.2.2.2 0)), some (.int a1), some (.int a2), some (.int a3), some (.int v4), some (.int v5), some (.int v6), some (.int v7), none] []) : ∀ (v4 : Int32) (v5 : Int32) (v6 : Int32) (v7 : Int32) (h : xH), f_X7_dye_c105 k54 a1 a2 a3 v4 v5 v6 v7 h = some (r, hr) → xB C h 105 [some (.ref (γ.2.2.2 0)), some (.int a1), some (.int a2), some (.int a3), some (.int v4), some (.int v5), some (.int v6), some (.int v7), none] [] := by
  intro v4 v5 v6 v7 h e
  unfold f_X7_dye_c105 at e
  refine xB_iinc (L' := [_, _, _, _, _, _, _, _, _]) hF dX7_dye_105 rfl ki_1 rfl rfl rfl ?_
  refine xB_goto (tgt := 54) hF dX7_dye_108 rfl ?_
  exact xB_l (hk54 _ _ _ _ _ e) (And.intro rfl (And.intro rfl (And.intro rfl (And.intro rfl (And.intro rfl (And.intro rfl (And.intro rfl (And.intro rfl (True.intro)))))))))
def f_X7_dye_c54 (a1 : Int32) (a2 : Int32) (a3 : Int32) : Nat → Int32 → Int32 → Int32 → Int32 → xH → Option (Int32 × xH)
  | 0, _, _, _, _, _ => none
  | n + 1, v4, v5, v6, v7, h =>
    if 10 ≤ v7 then (if a3 = 0 then (some (v5, h)) else (some (v6, h))) else (bn (f_X7_sets a1 2 v7 h) fun r1 h2 => bn (f_X7_goesOnMany a2 h2) fun r4 h5 => gd (6 + v4) 3078 <| nm (h5 1 (Int32.toNatClampNeg (6 + v4))) fun x7 => bn (f_X7_laysBack h5) fun r8 h9 => if x7 ≤ v6 then (f_X7_dye_c105 (f_X7_dye_c54 a1 a2 a3 n) a1 a2 a3 v4 v5 v6 v7 h9) else (f_X7_dye_c105 (f_X7_dye_c54 a1 a2 a3 n) a1 a2 a3 v4 v7 x7 v7 h9))
set_option maxRecDepth 20000 in
set_option maxHeartbeats 2000000 in
theorem t_X7_dye_c54 {l : Launch} {γ : xG} {a1 : Int32} {a2 : Int32} {a3 : Int32} {r : Int32} {hr : xH} {C : xCx} (hF : xF C cX7_dye RX7 9 8 γ xSM (some (.int r)) hr l (some .int)) : ∀ (n : Nat) (v4 : Int32) (v5 : Int32) (v6 : Int32) (v7 : Int32) (h : xH), f_X7_dye_c54 a1 a2 a3 n v4 v5 v6 v7 h = some (r, hr) → xB C h 54 [some (.ref (γ.2.2.2 0)), some (.int a1), some (.int a2), some (.int a3), some (.int v4), some (.int v5), some (.int v6), some (.int v7), none] [] := by
  intro n
  induction n with
  | zero => intro v4 v5 v6 v7 h e; cases e
  | succ n ih =>
    intro v4 v5 v6 v7 h e
    rw [f_X7_dye_c54] at e
    refine xB_iload hF dX7_dye_54 rfl ?_
    refine xB_bipush hF dX7_dye_56 kb_10 ?_
    refine xB_icmp_ge (tgt := 111) hF dX7_dye_58 rfl e (fun _ e => ?_) (fun _ e => ?_)
    · refine xB_iload_n hF dX7_dye_111 rfl ?_
      refine xB_if_ne (tgt := 120) hF dX7_dye_112 rfl e (fun _ e => ?_) (fun _ e => ?_)
      · refine xB_iload hF dX7_dye_115 rfl ?_
        refine xB_goto (tgt := 122) hF dX7_dye_117 rfl ?_
        exact xB_ireturn hF dX7_dye_122 e
      · refine xB_iload hF dX7_dye_120 rfl ?_
        exact xB_ireturn hF dX7_dye_122 e
    · refine xB_aload_n hF dX7_dye_61 rfl ?_
      refine xB_iload_n hF dX7_dye_62 rfl ?_
      refine xB_iconst hF dX7_dye_63 ki_2 ?_
      refine xB_iload hF dX7_dye_64 rfl ?_
      obtain ⟨r1, h2, e3, e⟩ := bn_of e
      refine xB_callVv hF dX7_dye_66 (t_X7_sets e3) cw_X7_73 sM_0 rfl rfl rfl rfl rfl ?_
      refine xB_aload_n hF dX7_dye_69 rfl ?_
      refine xB_iload_n hF dX7_dye_70 rfl ?_
      obtain ⟨r4, h5, e6, e⟩ := bn_of e
      refine xB_callVv hF dX7_dye_71 (t_X7_goesOnMany e6) cw_X7_201 sM_0 rfl rfl rfl rfl rfl ?_
      refine xB_aload_n hF dX7_dye_74 rfl ?_
      refine xB_get hF dX7_dye_75 fl_X7_7 sM_0 rfl rfl ?_
      refine xB_bipush hF dX7_dye_78 kb_6 ?_
      refine xB_iload hF dX7_dye_80 rfl ?_
      refine xB_iadd hF dX7_dye_82 ?_
      refine xB_iald hF dX7_dye_83 sM_1 e (fun e => ?_)
      refine xB_istore (L' := [_, _, _, _, _, _, _, _, _]) hF dX7_dye_84 rfl rfl rfl ?_
      replace e := nm_of e
      refine xB_aload_n hF dX7_dye_86 rfl ?_
      obtain ⟨r8, h9, e10, e⟩ := bn_of e
      refine xB_callVv hF dX7_dye_87 (t_X7_laysBack e10) cw_X7_196 sM_0 rfl rfl rfl rfl rfl ?_
      refine xB_iload hF dX7_dye_90 rfl ?_
      refine xB_iload hF dX7_dye_92 rfl ?_
      refine xB_icmp_le (tgt := 105) hF dX7_dye_94 rfl e (fun _ e => ?_) (fun _ e => ?_)
      · exact xB_l (t_X7_dye_c105 hF ih _ _ _ _ _ e) (And.intro rfl (And.intro rfl (And.intro rfl (And.intro rfl (And.intro rfl (And.intro rfl (And.intro rfl (And.intro rfl (True.intro)))))))))
      · refine xB_iload hF dX7_dye_97 rfl ?_
        refine xB_istore (L' := [_, _, _, _, _, _, _, _, _]) hF dX7_dye_99 rfl rfl rfl ?_
        refine xB_iload hF dX7_dye_101 rfl ?_
        refine xB_istore (L' := [_, _, _, _, _, _, _, _, _]) hF dX7_dye_103 rfl rfl rfl ?_
        exact xB_l (t_X7_dye_c105 hF ih _ _ _ _ _ e) (And.intro rfl (And.intro rfl (And.intro rfl (And.intro rfl (And.intro rfl (And.intro rfl (And.intro rfl (And.intro rfl (True.intro)))))))))
def f_X7_dye (a1 : Int32) (a2 : Int32) (a3 : Int32) (h : xH) : Option (Int32 × xH) :=
    bn (f_X7_isDay a1 h) fun r1 h2 => if r1 = 0 then (some ((-1000000001), h2)) else (bn (f_X7_isIn (Int32.toInt64 a2) 1 60 h2) fun r4 h5 => if r4 = 0 then (some ((-1000000001), h5)) else (bn (f_X7_isIn (Int32.toInt64 a3) 0 1 h5) fun r7 h8 => if r7 = 0 then (some ((-1000000001), h8)) else (bn (f_X7_laysBy h8) fun r10 h11 => bn (f_X7_of a1 4 h11) fun r13 h14 => f_X7_dye_c54 a1 a2 a3 xN r13 0 (-1) 0 h14)))
set_option maxRecDepth 20000 in
set_option maxHeartbeats 2000000 in
theorem t_X7_dye {l : Launch} {γ : xG} {a1 : Int32} {a2 : Int32} {a3 : Int32} {h : xH} {r : Int32} {hr : xH} (e : f_X7_dye a1 a2 a3 h = some (r, hr)) : xCT l γ xSM yX7_dye cX7_dye 9 (some .int) 8 [.ref (γ.2.2.2 0), .int a1, .int a2, .int a3] h (some (.int r)) hr := by
  refine xCT.of (own := RX7) (L := [some (.ref (γ.2.2.2 0)), some (.int a1), some (.int a2), some (.int a3), none, none, none, none, none]) (by decide) rfl rfl rfl (fun C hF => ?_)
  unfold f_X7_dye at e
  refine xB_aload_n hF dX7_dye_0 rfl ?_
  refine xB_iload_n hF dX7_dye_1 rfl ?_
  obtain ⟨r1, h2, e3, e⟩ := bn_of e
  refine xB_callVi hF dX7_dye_2 (t_X7_isDay e3) cw_X7_117 sM_0 rfl rfl rfl rfl rfl ?_
  refine xB_if_eq (tgt := 30) hF dX7_dye_5 rfl e (fun _ e => ?_) (fun _ e => ?_)
  · refine xB_ldc hF dX7_dye_30 kc_X7_87 ?_
    exact xB_ireturn hF dX7_dye_32 e
  · refine xB_iload_n hF dX7_dye_8 rfl ?_
    refine xB_i2l hF dX7_dye_9 ?_
    refine xB_lconst (v := 1) hF dX7_dye_10 (by decide) ?_
    refine xB_ldc2 hF dX7_dye_11 kc_X7_211 ?_
    obtain ⟨r4, h5, e6, e⟩ := bn_of e
    refine xB_callSi hF dX7_dye_14 (t_X7_isIn e6) cw_X7_68 rfl rfl rfl rfl ?_
    refine xB_if_eq (tgt := 30) hF dX7_dye_17 rfl e (fun _ e => ?_) (fun _ e => ?_)
    · refine xB_ldc hF dX7_dye_30 kc_X7_87 ?_
      exact xB_ireturn hF dX7_dye_32 e
    · refine xB_iload_n hF dX7_dye_20 rfl ?_
      refine xB_i2l hF dX7_dye_21 ?_
      refine xB_lconst (v := 0) hF dX7_dye_22 (by decide) ?_
      refine xB_lconst (v := 1) hF dX7_dye_23 (by decide) ?_
      obtain ⟨r7, h8, e9, e⟩ := bn_of e
      refine xB_callSi hF dX7_dye_24 (t_X7_isIn e9) cw_X7_68 rfl rfl rfl rfl ?_
      refine xB_if_ne (tgt := 33) hF dX7_dye_27 rfl e (fun _ e => ?_) (fun _ e => ?_)
      · refine xB_ldc hF dX7_dye_30 kc_X7_87 ?_
        exact xB_ireturn hF dX7_dye_32 e
      · refine xB_aload_n hF dX7_dye_33 rfl ?_
        obtain ⟨r10, h11, e12, e⟩ := bn_of e
        refine xB_callVv hF dX7_dye_34 (t_X7_laysBy e12) cw_X7_193 sM_0 rfl rfl rfl rfl rfl ?_
        refine xB_aload_n hF dX7_dye_37 rfl ?_
        refine xB_iload_n hF dX7_dye_38 rfl ?_
        refine xB_iconst hF dX7_dye_39 ki_4 ?_
        obtain ⟨r13, h14, e15, e⟩ := bn_of e
        refine xB_callVi hF dX7_dye_40 (t_X7_of e15) cw_X7_97 sM_0 rfl rfl rfl rfl rfl ?_
        refine xB_istore (L' := [_, _, _, _, _, _, _, _, _]) hF dX7_dye_43 rfl rfl rfl ?_
        refine xB_iconst hF dX7_dye_45 ki_0 ?_
        refine xB_istore (L' := [_, _, _, _, _, _, _, _, _]) hF dX7_dye_46 rfl rfl rfl ?_
        refine xB_iconst hF dX7_dye_48 ki_m1 ?_
        refine xB_istore (L' := [_, _, _, _, _, _, _, _, _]) hF dX7_dye_49 rfl rfl rfl ?_
        refine xB_iconst hF dX7_dye_51 ki_0 ?_
        refine xB_istore (L' := [_, _, _, _, _, _, _, _, _]) hF dX7_dye_52 rfl rfl rfl ?_
        exact xB_l (t_X7_dye_c54 hF _ _ _ _ _ _ e) (And.intro rfl (And.intro rfl (And.intro rfl (And.intro rfl (And.intro rfl (And.intro rfl (And.intro rfl (And.intro rfl (True.intro)))))))))
def f_X7_mends_c91 (k37 : Int32 → Int32 → Int32 → xH → Option (Int32 × xH)) (a1 : Int32) (a2 : Int32) (v3 : Int32) (v4 : Int32) (v5 : Int32) (h : xH) : Option (Int32 × xH) :=
    k37 v3 v4 (v5 + 1) h
set_option maxRecDepth 20000 in
set_option maxHeartbeats 2000000 in
theorem t_X7_mends_c91 {l : Launch} {γ : xG} {k37 : Int32 → Int32 → Int32 → xH → Option (Int32 × xH)} {a1 : Int32} {a2 : Int32} {r : Int32} {hr : xH} {C : xCx} (hF : xF C cX7_mends RX7 7 8 γ xSM (some (.int r)) hr l (some .int)) (hk37 : ∀ (v3 : Int32) (v4 : Int32) (v5 : Int32) (h : xH), k37 v3 v4 v5 h = some (r, hr) → xB C h 37 [some (.ref (γ.2.2.2 0)), some (.int a1), some (.int a2), some (.int v3), some (.int v4), some (.int v5), none] []) : ∀ (v3 : Int32) (v4 : Int32) (v5 : Int32) (h : xH), f_X7_mends_c91 k37 a1 a2 v3 v4 v5 h = some (r, hr) → xB C h 91 [some (.ref (γ.2.2.2 0)), some (.int a1), some (.int a2), some (.int v3), some (.int v4), some (.int v5), none] [] := by
  intro v3 v4 v5 h e
  unfold f_X7_mends_c91 at e
  refine xB_iinc (L' := [_, _, _, _, _, _, _]) hF dX7_mends_91 rfl ki_1 rfl rfl rfl ?_
  refine xB_goto (tgt := 37) hF dX7_mends_94 rfl ?_
  exact xB_l (hk37 _ _ _ _ e) (And.intro rfl (And.intro rfl (And.intro rfl (And.intro rfl (And.intro rfl (And.intro rfl (True.intro)))))))
def f_X7_mends_c84 (k37 : Int32 → Int32 → Int32 → xH → Option (Int32 × xH)) (a1 : Int32) (a2 : Int32) (v5 : Int32) (v6 : Int32) (h : xH) : Option (Int32 × xH) :=
    f_X7_mends_c91 k37 a1 a2 v5 v6 v5 h
set_option maxRecDepth 20000 in
set_option maxHeartbeats 2000000 in
theorem t_X7_mends_c84 {l : Launch} {γ : xG} {k37 : Int32 → Int32 → Int32 → xH → Option (Int32 × xH)} {a1 : Int32} {a2 : Int32} {r : Int32} {hr : xH} {C : xCx} (hF : xF C cX7_mends RX7 7 8 γ xSM (some (.int r)) hr l (some .int)) (hk37 : ∀ (v3 : Int32) (v4 : Int32) (v5 : Int32) (h : xH), k37 v3 v4 v5 h = some (r, hr) → xB C h 37 [some (.ref (γ.2.2.2 0)), some (.int a1), some (.int a2), some (.int v3), some (.int v4), some (.int v5), none] []) : ∀ (v5 : Int32) (v6 : Int32) (h : xH), f_X7_mends_c84 k37 a1 a2 v5 v6 h = some (r, hr) → xB C h 84 [some (.ref (γ.2.2.2 0)), some (.int a1), some (.int a2), none, none, some (.int v5), some (.int v6)] [] := by
  intro v5 v6 h e
  unfold f_X7_mends_c84 at e
  refine xB_iload hF dX7_mends_84 rfl ?_
  refine xB_istore_n (L' := [_, _, _, _, _, _, _]) hF dX7_mends_86 rfl rfl rfl ?_
  refine xB_iload hF dX7_mends_87 rfl ?_
  refine xB_istore (L' := [_, _, _, _, _, _, _]) hF dX7_mends_89 rfl rfl rfl ?_
  exact xB_l (t_X7_mends_c91 hF hk37 _ _ _ _ e) (And.intro rfl (And.intro rfl (And.intro rfl (And.intro rfl (And.intro rfl (And.intro rfl (True.intro)))))))
def f_X7_mends_c37 (a1 : Int32) (a2 : Int32) : Nat → Int32 → Int32 → Int32 → xH → Option (Int32 × xH)
  | 0, _, _, _, _ => none
  | n + 1, v3, v4, v5, h =>
    gd 0 3078 <| if (h 1 (Int32.toNatClampNeg 0)) ≤ v5 then (if 0 ≤ v3 then (if a2 = 0 then (some (v3, h)) else (some (v4, h))) else (some ((-1000000005), h))) else (bn (f_X7_sets v5 0 1 h) fun r1 h2 => bn (f_X7_goesOnMany a1 h2) fun r4 h5 => gd 3 3078 <| nm (h5 1 (Int32.toNatClampNeg 3)) fun x7 => bn (f_X7_laysBack h5) fun r8 h9 => if v3 < 0 then (f_X7_mends_c84 (f_X7_mends_c37 a1 a2 n) a1 a2 v5 x7 h9) else (if x7 ≤ v4 then (f_X7_mends_c91 (f_X7_mends_c37 a1 a2 n) a1 a2 v3 v4 v5 h9) else (f_X7_mends_c84 (f_X7_mends_c37 a1 a2 n) a1 a2 v5 x7 h9)))
set_option maxRecDepth 20000 in
set_option maxHeartbeats 2000000 in
theorem t_X7_mends_c37 {l : Launch} {γ : xG} {a1 : Int32} {a2 : Int32} {r : Int32} {hr : xH} {C : xCx} (hF : xF C cX7_mends RX7 7 8 γ xSM (some (.int r)) hr l (some .int)) : ∀ (n : Nat) (v3 : Int32) (v4 : Int32) (v5 : Int32) (h : xH), f_X7_mends_c37 a1 a2 n v3 v4 v5 h = some (r, hr) → xB C h 37 [some (.ref (γ.2.2.2 0)), some (.int a1), some (.int a2), some (.int v3), some (.int v4), some (.int v5), none] [] := by
  intro n
  induction n with
  | zero => intro v3 v4 v5 h e; cases e
  | succ n ih =>
    intro v3 v4 v5 h e
    rw [f_X7_mends_c37] at e
    refine xB_iload hF dX7_mends_37 rfl ?_
    refine xB_aload_n hF dX7_mends_39 rfl ?_
    refine xB_get hF dX7_mends_40 fl_X7_7 sM_0 rfl rfl ?_
    refine xB_iconst hF dX7_mends_43 ki_0 ?_
    refine xB_iald hF dX7_mends_44 sM_1 e (fun e => ?_)
    refine xB_icmp_ge (tgt := 97) hF dX7_mends_45 rfl e (fun _ e => ?_) (fun _ e => ?_)
    · refine xB_iload_n hF dX7_mends_97 rfl ?_
      refine xB_if_ge (tgt := 106) hF dX7_mends_98 rfl e (fun _ e => ?_) (fun _ e => ?_)
      · refine xB_iload_n hF dX7_mends_106 rfl ?_
        refine xB_if_ne (tgt := 114) hF dX7_mends_107 rfl e (fun _ e => ?_) (fun _ e => ?_)
        · refine xB_iload_n hF dX7_mends_110 rfl ?_
          refine xB_goto (tgt := 116) hF dX7_mends_111 rfl ?_
          exact xB_ireturn hF dX7_mends_116 e
        · refine xB_iload hF dX7_mends_114 rfl ?_
          exact xB_ireturn hF dX7_mends_116 e
      · refine xB_ldc hF dX7_mends_101 kc_X7_67 ?_
        refine xB_goto (tgt := 116) hF dX7_mends_103 rfl ?_
        exact xB_ireturn hF dX7_mends_116 e
    · refine xB_aload_n hF dX7_mends_48 rfl ?_
      refine xB_iload hF dX7_mends_49 rfl ?_
      refine xB_iconst hF dX7_mends_51 ki_0 ?_
      refine xB_iconst hF dX7_mends_52 ki_1 ?_
      obtain ⟨r1, h2, e3, e⟩ := bn_of e
      refine xB_callVv hF dX7_mends_53 (t_X7_sets e3) cw_X7_73 sM_0 rfl rfl rfl rfl rfl ?_
      refine xB_aload_n hF dX7_mends_56 rfl ?_
      refine xB_iload_n hF dX7_mends_57 rfl ?_
      obtain ⟨r4, h5, e6, e⟩ := bn_of e
      refine xB_callVv hF dX7_mends_58 (t_X7_goesOnMany e6) cw_X7_201 sM_0 rfl rfl rfl rfl rfl ?_
      refine xB_aload_n hF dX7_mends_61 rfl ?_
      refine xB_get hF dX7_mends_62 fl_X7_7 sM_0 rfl rfl ?_
      refine xB_iconst hF dX7_mends_65 ki_3 ?_
      refine xB_iald hF dX7_mends_66 sM_1 e (fun e => ?_)
      refine xB_istore (L' := [_, _, _, _, _, _, _]) hF dX7_mends_67 rfl rfl rfl ?_
      replace e := nm_of e
      refine xB_aload_n hF dX7_mends_69 rfl ?_
      obtain ⟨r8, h9, e10, e⟩ := bn_of e
      refine xB_callVv hF dX7_mends_70 (t_X7_laysBack e10) cw_X7_196 sM_0 rfl rfl rfl rfl rfl ?_
      refine xB_iload_n hF dX7_mends_73 rfl ?_
      refine xB_if_lt (tgt := 84) hF dX7_mends_74 rfl e (fun _ e => ?_) (fun _ e => ?_)
      · exact xB_l (t_X7_mends_c84 hF ih _ _ _ e) (And.intro rfl (And.intro rfl (And.intro rfl (And.intro rfl (And.intro rfl (True.intro))))))
      · refine xB_iload hF dX7_mends_77 rfl ?_
        refine xB_iload hF dX7_mends_79 rfl ?_
        refine xB_icmp_le (tgt := 91) hF dX7_mends_81 rfl e (fun _ e => ?_) (fun _ e => ?_)
        · exact xB_l (t_X7_mends_c91 hF ih _ _ _ _ e) (And.intro rfl (And.intro rfl (And.intro rfl (And.intro rfl (And.intro rfl (And.intro rfl (True.intro)))))))
        · exact xB_l (t_X7_mends_c84 hF ih _ _ _ e) (And.intro rfl (And.intro rfl (And.intro rfl (And.intro rfl (And.intro rfl (True.intro))))))
def f_X7_mends (a1 : Int32) (a2 : Int32) (h : xH) : Option (Int32 × xH) :=
    bn (f_X7_isIn (Int32.toInt64 a1) 1 60 h) fun r1 h2 => if r1 = 0 then (some ((-1000000001), h2)) else (bn (f_X7_isIn (Int32.toInt64 a2) 0 1 h2) fun r4 h5 => if r4 = 0 then (some ((-1000000001), h5)) else (bn (f_X7_laysBy h5) fun r7 h8 => f_X7_mends_c37 a1 a2 xN (-1) 0 0 h8))
set_option maxRecDepth 20000 in
set_option maxHeartbeats 2000000 in
theorem t_X7_mends {l : Launch} {γ : xG} {a1 : Int32} {a2 : Int32} {h : xH} {r : Int32} {hr : xH} (e : f_X7_mends a1 a2 h = some (r, hr)) : xCT l γ xSM yX7_mends cX7_mends 7 (some .int) 8 [.ref (γ.2.2.2 0), .int a1, .int a2] h (some (.int r)) hr := by
  refine xCT.of (own := RX7) (L := [some (.ref (γ.2.2.2 0)), some (.int a1), some (.int a2), none, none, none, none]) (by decide) rfl rfl rfl (fun C hF => ?_)
  unfold f_X7_mends at e
  refine xB_iload_n hF dX7_mends_0 rfl ?_
  refine xB_i2l hF dX7_mends_1 ?_
  refine xB_lconst (v := 1) hF dX7_mends_2 (by decide) ?_
  refine xB_ldc2 hF dX7_mends_3 kc_X7_211 ?_
  obtain ⟨r1, h2, e3, e⟩ := bn_of e
  refine xB_callSi hF dX7_mends_6 (t_X7_isIn e3) cw_X7_68 rfl rfl rfl rfl ?_
  refine xB_if_eq (tgt := 22) hF dX7_mends_9 rfl e (fun _ e => ?_) (fun _ e => ?_)
  · refine xB_ldc hF dX7_mends_22 kc_X7_87 ?_
    exact xB_ireturn hF dX7_mends_24 e
  · refine xB_iload_n hF dX7_mends_12 rfl ?_
    refine xB_i2l hF dX7_mends_13 ?_
    refine xB_lconst (v := 0) hF dX7_mends_14 (by decide) ?_
    refine xB_lconst (v := 1) hF dX7_mends_15 (by decide) ?_
    obtain ⟨r4, h5, e6, e⟩ := bn_of e
    refine xB_callSi hF dX7_mends_16 (t_X7_isIn e6) cw_X7_68 rfl rfl rfl rfl ?_
    refine xB_if_ne (tgt := 25) hF dX7_mends_19 rfl e (fun _ e => ?_) (fun _ e => ?_)
    · refine xB_ldc hF dX7_mends_22 kc_X7_87 ?_
      exact xB_ireturn hF dX7_mends_24 e
    · refine xB_aload_n hF dX7_mends_25 rfl ?_
      obtain ⟨r7, h8, e9, e⟩ := bn_of e
      refine xB_callVv hF dX7_mends_26 (t_X7_laysBy e9) cw_X7_193 sM_0 rfl rfl rfl rfl rfl ?_
      refine xB_iconst hF dX7_mends_29 ki_m1 ?_
      refine xB_istore_n (L' := [_, _, _, _, _, _, _]) hF dX7_mends_30 rfl rfl rfl ?_
      refine xB_iconst hF dX7_mends_31 ki_0 ?_
      refine xB_istore (L' := [_, _, _, _, _, _, _]) hF dX7_mends_32 rfl rfl rfl ?_
      refine xB_iconst hF dX7_mends_34 ki_0 ?_
      refine xB_istore (L' := [_, _, _, _, _, _, _]) hF dX7_mends_35 rfl rfl rfl ?_
      exact xB_l (t_X7_mends_c37 hF _ _ _ _ _ e) (And.intro rfl (And.intro rfl (And.intro rfl (And.intro rfl (And.intro rfl (And.intro rfl (True.intro)))))))
def f_X7_fine (a1 : Int32) (h : xH) : Option (Int32 × xH) :=
    bn (f_X7_isOne a1 h) fun r1 h2 => if r1 = 0 then (some ((-1000000001), h2)) else (bn (f_X7_counts 2 h2) fun r4 h5 => if 0 ≤ r4 then (gd (6 + a1) 3078 <| gd 99 128 <| nm (xst h5 15 (Int32.toNatClampNeg 99) (h5 1 (Int32.toNatClampNeg (6 + a1)))) fun h7 => bn (f_X7_daysOf a1 h7) fun r8 h9 => bn (f_X7_manyIn r8 h9) fun r11 h12 => gd 110 128 <| nm (xst h12 15 (Int32.toNatClampNeg 110) r11) fun h14 => bn (f_X7_worked r4 h14) fun r15 h16 => some (r15, h16)) else (gd (6 + a1) 3078 <| some (h5 1 (Int32.toNatClampNeg (6 + a1)), h5)))
set_option maxRecDepth 20000 in
set_option maxHeartbeats 2000000 in
theorem t_X7_fine {l : Launch} {γ : xG} {a1 : Int32} {h : xH} {r : Int32} {hr : xH} (e : f_X7_fine a1 h = some (r, hr)) : xCT l γ xSM yX7_fine cX7_fine 3 (some .int) 2 [.ref (γ.2.2.2 0), .int a1] h (some (.int r)) hr := by
  refine xCT.of (own := RX7) (L := [some (.ref (γ.2.2.2 0)), some (.int a1), none]) (by decide) rfl rfl rfl (fun C hF => ?_)
  unfold f_X7_fine at e
  refine xB_iload_n hF dX7_fine_0 rfl ?_
  obtain ⟨r1, h2, e3, e⟩ := bn_of e
  refine xB_callSi hF dX7_fine_1 (t_X7_isOne e3) cw_X7_83 rfl rfl rfl rfl ?_
  refine xB_if_ne (tgt := 10) hF dX7_fine_4 rfl e (fun _ e => ?_) (fun _ e => ?_)
  · refine xB_ldc hF dX7_fine_7 kc_X7_87 ?_
    exact xB_ireturn hF dX7_fine_9 e
  · refine xB_aload_n hF dX7_fine_10 rfl ?_
    refine xB_iconst hF dX7_fine_11 ki_2 ?_
    obtain ⟨r4, h5, e6, e⟩ := bn_of e
    refine xB_callVi hF dX7_fine_12 (t_X7_counts e6) cw_X7_93 sM_0 rfl rfl rfl rfl rfl ?_
    refine xB_istore_n (L' := [_, _, _]) hF dX7_fine_15 rfl rfl rfl ?_
    refine xB_iload_n hF dX7_fine_16 rfl ?_
    refine xB_if_ge (tgt := 30) hF dX7_fine_17 rfl e (fun _ e => ?_) (fun _ e => ?_)
    · refine xB_aload_n hF dX7_fine_30 rfl ?_
      refine xB_get hF dX7_fine_31 fl_X7_52 sM_0 rfl rfl ?_
      refine xB_bipush hF dX7_fine_34 kb_99 ?_
      refine xB_aload_n hF dX7_fine_36 rfl ?_
      refine xB_get hF dX7_fine_37 fl_X7_7 sM_0 rfl rfl ?_
      refine xB_bipush hF dX7_fine_40 kb_6 ?_
      refine xB_iload_n hF dX7_fine_42 rfl ?_
      refine xB_iadd hF dX7_fine_43 ?_
      refine xB_iald hF dX7_fine_44 sM_1 e (fun e => ?_)
      refine xB_iast hF dX7_fine_45 sM_15 e (fun e => ?_)
      refine xB_gen e (fun h7 e => ?_)
      refine xB_aload_n hF dX7_fine_46 rfl ?_
      refine xB_get hF dX7_fine_47 fl_X7_52 sM_0 rfl rfl ?_
      refine xB_bipush hF dX7_fine_50 kb_110 ?_
      refine xB_aload_n hF dX7_fine_52 rfl ?_
      refine xB_iload_n hF dX7_fine_53 rfl ?_
      obtain ⟨r8, h9, e10, e⟩ := bn_of e
      refine xB_callVi hF dX7_fine_54 (t_X7_daysOf e10) cw_X7_137 sM_0 rfl rfl rfl rfl rfl ?_
      obtain ⟨r11, h12, e13, e⟩ := bn_of e
      refine xB_callSi hF dX7_fine_57 (t_X7_manyIn e13) cw_X7_184 rfl rfl rfl rfl ?_
      refine xB_iast hF dX7_fine_60 sM_15 e (fun e => ?_)
      refine xB_gen e (fun h14 e => ?_)
      refine xB_aload_n hF dX7_fine_61 rfl ?_
      refine xB_iload_n hF dX7_fine_62 rfl ?_
      obtain ⟨r15, h16, e17, e⟩ := bn_of e
      refine xB_callVi hF dX7_fine_63 (t_X7_worked e17) cw_X7_104 sM_0 rfl rfl rfl rfl rfl ?_
      exact xB_ireturn hF dX7_fine_66 e
    · refine xB_aload_n hF dX7_fine_20 rfl ?_
      refine xB_get hF dX7_fine_21 fl_X7_7 sM_0 rfl rfl ?_
      refine xB_bipush hF dX7_fine_24 kb_6 ?_
      refine xB_iload_n hF dX7_fine_26 rfl ?_
      refine xB_iadd hF dX7_fine_27 ?_
      refine xB_iald hF dX7_fine_28 sM_1 e (fun e => ?_)
      exact xB_ireturn hF dX7_fine_29 e
def f_X7_feed_c47 (k18 : Int32 → xH → Option (Int32 × xH)) (a1 : Int32) (a2 : Int32) (a3 : Int32) (v4 : Int32) (s0 : Int32) (h : xH) : Option (Int32 × xH) :=
    gd (h 0 15) 96 <| nm (xst h 14 (Int32.toNatClampNeg (h 0 15)) ((s0 >>> ((24 - (8 * (v4 - v4 / 4 * 4))) &&& 31)) &&& 255)) fun h1 => nm (xst h1 0 15 ((h1 0 15) + 1)) fun h2 => k18 (v4 + 1) h2
set_option maxRecDepth 20000 in
set_option maxHeartbeats 2000000 in
theorem t_X7_feed_c47 {l : Launch} {γ : xG} {k18 : Int32 → xH → Option (Int32 × xH)} {a1 : Int32} {a2 : Int32} {a3 : Int32} {r : Int32} {hr : xH} {C : xCx} (hF : xF C cX7_feed RX7 6 0 γ xSM (some (.int r)) hr l (some .int)) (hk18 : ∀ (v4 : Int32) (h : xH), k18 v4 h = some (r, hr) → xB C h 18 [some (.ref (γ.2.2.2 0)), some (.int a1), some (.int a2), some (.int a3), some (.int v4), none] []) : ∀ (v4 : Int32) (s0 : Int32) (h : xH), f_X7_feed_c47 k18 a1 a2 a3 v4 s0 h = some (r, hr) → xB C h 47 [some (.ref (γ.2.2.2 0)), some (.int a1), some (.int a2), some (.int a3), some (.int v4), none] [.int s0] := by
  intro v4 s0 h e
  unfold f_X7_feed_c47 at e
  refine xB_istore (L' := [_, _, _, _, _, _]) hF dX7_feed_47 rfl rfl rfl ?_
  refine xB_aload_n hF dX7_feed_49 rfl ?_
  refine xB_get hF dX7_feed_50 fl_X7_49 sM_0 rfl rfl ?_
  refine xB_aload_n hF dX7_feed_53 rfl ?_
  refine xB_get hF dX7_feed_54 fl_X7_213 sM_0 rfl rfl ?_
  refine xB_iload hF dX7_feed_57 rfl ?_
  refine xB_bipush hF dX7_feed_59 kb_24 ?_
  refine xB_bipush hF dX7_feed_61 kb_8 ?_
  refine xB_iload hF dX7_feed_63 rfl ?_
  refine xB_iconst hF dX7_feed_65 ki_4 ?_
  refine xB_iremc hF dX7_feed_66 (by decide) ?_
  refine xB_imul hF dX7_feed_67 ?_
  refine xB_isub hF dX7_feed_68 ?_
  refine xB_ishr hF dX7_feed_69 ?_
  refine xB_sipush hF dX7_feed_70 ks_255 ?_
  refine xB_iand hF dX7_feed_73 ?_
  refine xB_iast hF dX7_feed_74 sM_14 e (fun e => ?_)
  refine xB_gen e (fun h1 e => ?_)
  refine xB_aload_n hF dX7_feed_75 rfl ?_
  refine xB_dup hF dX7_feed_76 rfl ?_
  refine xB_get hF dX7_feed_77 fl_X7_213 sM_0 rfl rfl ?_
  refine xB_iconst hF dX7_feed_80 ki_1 ?_
  refine xB_iadd hF dX7_feed_81 ?_
  refine xB_put hF dX7_feed_82 fp_X7_213 sM_0 rfl rfl rfl rfl rfl ?_
  refine xB_gen e (fun h2 e => ?_)
  refine xB_iinc (L' := [_, _, _, _, _, _]) hF dX7_feed_85 rfl ki_1 rfl rfl rfl ?_
  refine xB_goto (tgt := 18) hF dX7_feed_88 rfl ?_
  exact xB_l (hk18 _ _ e) (And.intro rfl (And.intro rfl (And.intro rfl (And.intro rfl (And.intro rfl (True.intro))))))
def f_X7_feed_c18 (a1 : Int32) (a2 : Int32) (a3 : Int32) : Nat → Int32 → xH → Option (Int32 × xH)
  | 0, _, _ => none
  | n + 1, v4, h =>
    if 12 ≤ v4 then (some (h 0 15, h)) else (if 4 ≤ v4 then (if 8 ≤ v4 then (f_X7_feed_c47 (f_X7_feed_c18 a1 a2 a3 n) a1 a2 a3 v4 a3 h) else (f_X7_feed_c47 (f_X7_feed_c18 a1 a2 a3 n) a1 a2 a3 v4 a2 h)) else (f_X7_feed_c47 (f_X7_feed_c18 a1 a2 a3 n) a1 a2 a3 v4 a1 h))
set_option maxRecDepth 20000 in
set_option maxHeartbeats 2000000 in
theorem t_X7_feed_c18 {l : Launch} {γ : xG} {a1 : Int32} {a2 : Int32} {a3 : Int32} {r : Int32} {hr : xH} {C : xCx} (hF : xF C cX7_feed RX7 6 0 γ xSM (some (.int r)) hr l (some .int)) : ∀ (n : Nat) (v4 : Int32) (h : xH), f_X7_feed_c18 a1 a2 a3 n v4 h = some (r, hr) → xB C h 18 [some (.ref (γ.2.2.2 0)), some (.int a1), some (.int a2), some (.int a3), some (.int v4), none] [] := by
  intro n
  induction n with
  | zero => intro v4 h e; cases e
  | succ n ih =>
    intro v4 h e
    rw [f_X7_feed_c18] at e
    refine xB_iload hF dX7_feed_18 rfl ?_
    refine xB_bipush hF dX7_feed_20 kb_12 ?_
    refine xB_icmp_ge (tgt := 91) hF dX7_feed_22 rfl e (fun _ e => ?_) (fun _ e => ?_)
    · refine xB_aload_n hF dX7_feed_91 rfl ?_
      refine xB_get hF dX7_feed_92 fl_X7_213 sM_0 rfl rfl ?_
      exact xB_ireturn hF dX7_feed_95 e
    · refine xB_iload hF dX7_feed_25 rfl ?_
      refine xB_iconst hF dX7_feed_27 ki_4 ?_
      refine xB_icmp_ge (tgt := 35) hF dX7_feed_28 rfl e (fun _ e => ?_) (fun _ e => ?_)
      · refine xB_iload hF dX7_feed_35 rfl ?_
        refine xB_bipush hF dX7_feed_37 kb_8 ?_
        refine xB_icmp_ge (tgt := 46) hF dX7_feed_39 rfl e (fun _ e => ?_) (fun _ e => ?_)
        · refine xB_iload_n hF dX7_feed_46 rfl ?_
          exact xB_l (t_X7_feed_c47 hF ih _ _ _ e) (And.intro rfl (And.intro rfl (And.intro rfl (And.intro rfl (And.intro rfl (True.intro))))))
        · refine xB_iload_n hF dX7_feed_42 rfl ?_
          refine xB_goto (tgt := 47) hF dX7_feed_43 rfl ?_
          exact xB_l (t_X7_feed_c47 hF ih _ _ _ e) (And.intro rfl (And.intro rfl (And.intro rfl (And.intro rfl (And.intro rfl (True.intro))))))
      · refine xB_iload_n hF dX7_feed_31 rfl ?_
        refine xB_goto (tgt := 47) hF dX7_feed_32 rfl ?_
        exact xB_l (t_X7_feed_c47 hF ih _ _ _ e) (And.intro rfl (And.intro rfl (And.intro rfl (And.intro rfl (And.intro rfl (True.intro))))))
def f_X7_feed (a1 : Int32) (a2 : Int32) (a3 : Int32) (h : xH) : Option (Int32 × xH) :=
    if ((h 0 15) + 12) ≤ 96 then (f_X7_feed_c18 a1 a2 a3 xN 0 h) else (some ((-1000000003), h))
set_option maxRecDepth 20000 in
set_option maxHeartbeats 2000000 in
theorem t_X7_feed {l : Launch} {γ : xG} {a1 : Int32} {a2 : Int32} {a3 : Int32} {h : xH} {r : Int32} {hr : xH} (e : f_X7_feed a1 a2 a3 h = some (r, hr)) : xCT l γ xSM yX7_feed cX7_feed 6 (some .int) 0 [.ref (γ.2.2.2 0), .int a1, .int a2, .int a3] h (some (.int r)) hr := by
  refine xCT.of (own := RX7) (L := [some (.ref (γ.2.2.2 0)), some (.int a1), some (.int a2), some (.int a3), none, none]) (by decide) rfl rfl rfl (fun C hF => ?_)
  unfold f_X7_feed at e
  refine xB_aload_n hF dX7_feed_0 rfl ?_
  refine xB_get hF dX7_feed_1 fl_X7_213 sM_0 rfl rfl ?_
  refine xB_bipush hF dX7_feed_4 kb_12 ?_
  refine xB_iadd hF dX7_feed_6 ?_
  refine xB_bipush hF dX7_feed_7 kb_96 ?_
  refine xB_icmp_le (tgt := 15) hF dX7_feed_9 rfl e (fun _ e => ?_) (fun _ e => ?_)
  · refine xB_iconst hF dX7_feed_15 ki_0 ?_
    refine xB_istore (L' := [_, _, _, _, _, _]) hF dX7_feed_16 rfl rfl rfl ?_
    exact xB_l (t_X7_feed_c18 hF _ _ _ e) (And.intro rfl (And.intro rfl (And.intro rfl (And.intro rfl (And.intro rfl (True.intro))))))
  · refine xB_ldc hF dX7_feed_12 kc_X7_88 ?_
    exact xB_ireturn hF dX7_feed_14 e
def f_X7_trim (a1 : Int32) (h : xH) : Option (Int32 × xH) :=
    bn (f_X7_isIn (Int32.toInt64 a1) 0 (Int32.toInt64 (h 0 15)) h) fun r1 h2 => if r1 = 0 then (some ((-1000000001), h2)) else (nm (xst h2 0 15 a1) fun h4 => some (a1, h4))
set_option maxRecDepth 20000 in
set_option maxHeartbeats 2000000 in
theorem t_X7_trim {l : Launch} {γ : xG} {a1 : Int32} {h : xH} {r : Int32} {hr : xH} (e : f_X7_trim a1 h = some (r, hr)) : xCT l γ xSM yX7_trim cX7_trim 2 (some .int) 1 [.ref (γ.2.2.2 0), .int a1] h (some (.int r)) hr := by
  refine xCT.of (own := RX7) (L := [some (.ref (γ.2.2.2 0)), some (.int a1)]) (by decide) rfl rfl rfl (fun C hF => ?_)
  unfold f_X7_trim at e
  refine xB_iload_n hF dX7_trim_0 rfl ?_
  refine xB_i2l hF dX7_trim_1 ?_
  refine xB_lconst (v := 0) hF dX7_trim_2 (by decide) ?_
  refine xB_aload_n hF dX7_trim_3 rfl ?_
  refine xB_get hF dX7_trim_4 fl_X7_213 sM_0 rfl rfl ?_
  refine xB_i2l hF dX7_trim_7 ?_
  obtain ⟨r1, h2, e3, e⟩ := bn_of e
  refine xB_callSi hF dX7_trim_8 (t_X7_isIn e3) cw_X7_68 rfl rfl rfl rfl ?_
  refine xB_if_ne (tgt := 17) hF dX7_trim_11 rfl e (fun _ e => ?_) (fun _ e => ?_)
  · refine xB_ldc hF dX7_trim_14 kc_X7_87 ?_
    exact xB_ireturn hF dX7_trim_16 e
  · refine xB_aload_n hF dX7_trim_17 rfl ?_
    refine xB_iload_n hF dX7_trim_18 rfl ?_
    refine xB_put hF dX7_trim_19 fp_X7_213 sM_0 rfl rfl rfl rfl rfl ?_
    refine xB_gen e (fun h4 e => ?_)
    refine xB_iload_n hF dX7_trim_22 rfl ?_
    exact xB_ireturn hF dX7_trim_23 e
def f_X7_isLetter (a1 : Int32) (h : xH) : Option (Int32 × xH) :=
    if (h 0 15) ≤ a1 then (some (0, h)) else (gd a1 96 <| bn (f_X7_isIn (Int32.toInt64 (h 14 (Int32.toNatClampNeg a1))) 97 122 h) fun r1 h2 => if r1 = 0 then (some (0, h2)) else (some (1, h2)))
set_option maxRecDepth 20000 in
set_option maxHeartbeats 2000000 in
theorem t_X7_isLetter {l : Launch} {γ : xG} {a1 : Int32} {h : xH} {r : Int32} {hr : xH} (e : f_X7_isLetter a1 h = some (r, hr)) : xCT l γ xSM yX7_isLetter cX7_isLetter 2 (some .boolean) 1 [.ref (γ.2.2.2 0), .int a1] h (some (.int r)) hr := by
  refine xCT.of (own := RX7) (L := [some (.ref (γ.2.2.2 0)), some (.int a1)]) (by decide) rfl rfl rfl (fun C hF => ?_)
  unfold f_X7_isLetter at e
  refine xB_iload_n hF dX7_isLetter_0 rfl ?_
  refine xB_aload_n hF dX7_isLetter_1 rfl ?_
  refine xB_get hF dX7_isLetter_2 fl_X7_213 sM_0 rfl rfl ?_
  refine xB_icmp_ge (tgt := 31) hF dX7_isLetter_5 rfl e (fun _ e => ?_) (fun _ e => ?_)
  · refine xB_iconst hF dX7_isLetter_31 ki_0 ?_
    exact xB_zreturn hF dX7_isLetter_32 rfl e
  · refine xB_aload_n hF dX7_isLetter_8 rfl ?_
    refine xB_get hF dX7_isLetter_9 fl_X7_49 sM_0 rfl rfl ?_
    refine xB_iload_n hF dX7_isLetter_12 rfl ?_
    refine xB_iald hF dX7_isLetter_13 sM_14 e (fun e => ?_)
    refine xB_i2l hF dX7_isLetter_14 ?_
    refine xB_ldc2 hF dX7_isLetter_15 kc_X7_217 ?_
    refine xB_ldc2 hF dX7_isLetter_18 kc_X7_219 ?_
    obtain ⟨r1, h2, e3, e⟩ := bn_of e
    refine xB_callSi hF dX7_isLetter_21 (t_X7_isIn e3) cw_X7_68 rfl rfl rfl rfl ?_
    refine xB_if_eq (tgt := 31) hF dX7_isLetter_24 rfl e (fun _ e => ?_) (fun _ e => ?_)
    · refine xB_iconst hF dX7_isLetter_31 ki_0 ?_
      exact xB_zreturn hF dX7_isLetter_32 rfl e
    · refine xB_iconst hF dX7_isLetter_27 ki_1 ?_
      refine xB_goto (tgt := 32) hF dX7_isLetter_28 rfl ?_
      exact xB_zreturn hF dX7_isLetter_32 rfl e
def f_X7_isDigit (a1 : Int32) (h : xH) : Option (Int32 × xH) :=
    if (h 0 15) ≤ a1 then (some (0, h)) else (gd a1 96 <| bn (f_X7_isIn (Int32.toInt64 (h 14 (Int32.toNatClampNeg a1))) 48 57 h) fun r1 h2 => if r1 = 0 then (some (0, h2)) else (some (1, h2)))
set_option maxRecDepth 20000 in
set_option maxHeartbeats 2000000 in
theorem t_X7_isDigit {l : Launch} {γ : xG} {a1 : Int32} {h : xH} {r : Int32} {hr : xH} (e : f_X7_isDigit a1 h = some (r, hr)) : xCT l γ xSM yX7_isDigit cX7_isDigit 2 (some .boolean) 1 [.ref (γ.2.2.2 0), .int a1] h (some (.int r)) hr := by
  refine xCT.of (own := RX7) (L := [some (.ref (γ.2.2.2 0)), some (.int a1)]) (by decide) rfl rfl rfl (fun C hF => ?_)
  unfold f_X7_isDigit at e
  refine xB_iload_n hF dX7_isDigit_0 rfl ?_
  refine xB_aload_n hF dX7_isDigit_1 rfl ?_
  refine xB_get hF dX7_isDigit_2 fl_X7_213 sM_0 rfl rfl ?_
  refine xB_icmp_ge (tgt := 31) hF dX7_isDigit_5 rfl e (fun _ e => ?_) (fun _ e => ?_)
  · refine xB_iconst hF dX7_isDigit_31 ki_0 ?_
    exact xB_zreturn hF dX7_isDigit_32 rfl e
  · refine xB_aload_n hF dX7_isDigit_8 rfl ?_
    refine xB_get hF dX7_isDigit_9 fl_X7_49 sM_0 rfl rfl ?_
    refine xB_iload_n hF dX7_isDigit_12 rfl ?_
    refine xB_iald hF dX7_isDigit_13 sM_14 e (fun e => ?_)
    refine xB_i2l hF dX7_isDigit_14 ?_
    refine xB_ldc2 hF dX7_isDigit_15 kc_X7_221 ?_
    refine xB_ldc2 hF dX7_isDigit_18 kc_X7_223 ?_
    obtain ⟨r1, h2, e3, e⟩ := bn_of e
    refine xB_callSi hF dX7_isDigit_21 (t_X7_isIn e3) cw_X7_68 rfl rfl rfl rfl ?_
    refine xB_if_eq (tgt := 31) hF dX7_isDigit_24 rfl e (fun _ e => ?_) (fun _ e => ?_)
    · refine xB_iconst hF dX7_isDigit_31 ki_0 ?_
      exact xB_zreturn hF dX7_isDigit_32 rfl e
    · refine xB_iconst hF dX7_isDigit_27 ki_1 ?_
      refine xB_goto (tgt := 32) hF dX7_isDigit_28 rfl ?_
      exact xB_zreturn hF dX7_isDigit_32 rfl e
def f_X7_nextToken_c266 (k214 : Int32 → xH → Option (Int32 × xH)) (v1 : Int32) (s0 : Int32) (h : xH) : Option (Int32 × xH) :=
    nm (xst h 0 19 s0) fun h1 => nm (xst h1 0 17 ((h1 0 17) + 1)) fun h2 => k214 v1 h2
set_option maxRecDepth 20000 in
set_option maxHeartbeats 2000000 in
theorem t_X7_nextToken_c266 {l : Launch} {γ : xG} {k214 : Int32 → xH → Option (Int32 × xH)} {r : Int32} {hr : xH} {C : xCx} (hF : xF C cX7_nextToken RX7 3 2 γ xSM none hr l none) (hk214 : ∀ (v1 : Int32) (h : xH), k214 v1 h = some (r, hr) → xB C h 214 [some (.ref (γ.2.2.2 0)), some (.int v1), none] []) : ∀ (v1 : Int32) (s0 : Int32) (h : xH), f_X7_nextToken_c266 k214 v1 s0 h = some (r, hr) → xB C h 266 [some (.ref (γ.2.2.2 0)), some (.int v1), none] [.int s0, .ref (γ.2.2.2 0)] := by
  intro v1 s0 h e
  unfold f_X7_nextToken_c266 at e
  refine xB_put hF dX7_nextToken_266 fp_X7_243 sM_0 rfl rfl rfl rfl rfl ?_
  refine xB_gen e (fun h1 e => ?_)
  refine xB_aload_n hF dX7_nextToken_269 rfl ?_
  refine xB_dup hF dX7_nextToken_270 rfl ?_
  refine xB_get hF dX7_nextToken_271 fl_X7_225 sM_0 rfl rfl ?_
  refine xB_iconst hF dX7_nextToken_274 ki_1 ?_
  refine xB_iadd hF dX7_nextToken_275 ?_
  refine xB_put hF dX7_nextToken_276 fp_X7_225 sM_0 rfl rfl rfl rfl rfl ?_
  refine xB_gen e (fun h2 e => ?_)
  refine xB_goto (tgt := 214) hF dX7_nextToken_279 rfl ?_
  exact xB_l (hk214 _ _ e) (And.intro rfl (And.intro rfl (True.intro)))
def f_X7_nextToken_c214 : Nat → Int32 → xH → Option (Int32 × xH)
  | 0, _, _ => none
  | n + 1, v1, h =>
    bn (f_X7_isDigit (h 0 17) h) fun r1 h2 => if r1 = 0 then (if v1 = 0 then (if ((h2 0 17) - (h2 0 16)) ≤ 4 then (nm (xst h2 0 18 2) fun h5 => some (0, h5)) else (nm (xst h2 0 18 4) fun h6 => some (0, h6))) else (nm (xst h2 0 18 4) fun h4 => some (0, h4))) else (if 4 ≤ ((h2 0 17) - (h2 0 16)) then (f_X7_nextToken_c266 (f_X7_nextToken_c214 n) v1 (h2 0 19) h2) else (gd (h2 0 17) 96 <| f_X7_nextToken_c266 (f_X7_nextToken_c214 n) v1 (((10 * (h2 0 19)) + (h2 14 (Int32.toNatClampNeg (h2 0 17)))) - 48) h2))
set_option maxRecDepth 20000 in
set_option maxHeartbeats 2000000 in
theorem t_X7_nextToken_c214 {l : Launch} {γ : xG} {r : Int32} {hr : xH} {C : xCx} (hF : xF C cX7_nextToken RX7 3 2 γ xSM none hr l none) : ∀ (n : Nat) (v1 : Int32) (h : xH), f_X7_nextToken_c214 n v1 h = some (r, hr) → xB C h 214 [some (.ref (γ.2.2.2 0)), some (.int v1), none] [] := by
  intro n
  induction n with
  | zero => intro v1 h e; cases e
  | succ n ih =>
    intro v1 h e
    rw [f_X7_nextToken_c214] at e
    refine xB_aload_n hF dX7_nextToken_214 rfl ?_
    refine xB_aload_n hF dX7_nextToken_215 rfl ?_
    refine xB_get hF dX7_nextToken_216 fl_X7_225 sM_0 rfl rfl ?_
    obtain ⟨r1, h2, e3, e⟩ := bn_of e
    refine xB_callVi hF dX7_nextToken_219 (t_X7_isDigit e3) cw_X7_240 sM_0 rfl rfl rfl rfl rfl ?_
    refine xB_if_eq (tgt := 282) hF dX7_nextToken_222 rfl e (fun _ e => ?_) (fun _ e => ?_)
    · refine xB_aload_n hF dX7_nextToken_282 rfl ?_
      refine xB_iload_n hF dX7_nextToken_283 rfl ?_
      refine xB_if_ne (tgt := 300) hF dX7_nextToken_284 rfl e (fun _ e => ?_) (fun _ e => ?_)
      · refine xB_aload_n hF dX7_nextToken_287 rfl ?_
        refine xB_get hF dX7_nextToken_288 fl_X7_225 sM_0 rfl rfl ?_
        refine xB_aload_n hF dX7_nextToken_291 rfl ?_
        refine xB_get hF dX7_nextToken_292 fl_X7_231 sM_0 rfl rfl ?_
        refine xB_isub hF dX7_nextToken_295 ?_
        refine xB_iconst hF dX7_nextToken_296 ki_4 ?_
        refine xB_icmp_le (tgt := 304) hF dX7_nextToken_297 rfl e (fun _ e => ?_) (fun _ e => ?_)
        · refine xB_iconst hF dX7_nextToken_304 ki_2 ?_
          refine xB_put hF dX7_nextToken_305 fp_X7_228 sM_0 rfl rfl rfl rfl rfl ?_
          refine xB_gen e (fun h5 e => ?_)
          refine xB_goto (tgt := 339) hF dX7_nextToken_308 rfl ?_
          exact xB_vreturn hF dX7_nextToken_339 e
        · refine xB_iconst hF dX7_nextToken_300 ki_4 ?_
          refine xB_goto (tgt := 305) hF dX7_nextToken_301 rfl ?_
          refine xB_put hF dX7_nextToken_305 fp_X7_228 sM_0 rfl rfl rfl rfl rfl ?_
          refine xB_gen e (fun h6 e => ?_)
          refine xB_goto (tgt := 339) hF dX7_nextToken_308 rfl ?_
          exact xB_vreturn hF dX7_nextToken_339 e
      · refine xB_iconst hF dX7_nextToken_300 ki_4 ?_
        refine xB_goto (tgt := 305) hF dX7_nextToken_301 rfl ?_
        refine xB_put hF dX7_nextToken_305 fp_X7_228 sM_0 rfl rfl rfl rfl rfl ?_
        refine xB_gen e (fun h4 e => ?_)
        refine xB_goto (tgt := 339) hF dX7_nextToken_308 rfl ?_
        exact xB_vreturn hF dX7_nextToken_339 e
    · refine xB_aload_n hF dX7_nextToken_225 rfl ?_
      refine xB_aload_n hF dX7_nextToken_226 rfl ?_
      refine xB_get hF dX7_nextToken_227 fl_X7_225 sM_0 rfl rfl ?_
      refine xB_aload_n hF dX7_nextToken_230 rfl ?_
      refine xB_get hF dX7_nextToken_231 fl_X7_231 sM_0 rfl rfl ?_
      refine xB_isub hF dX7_nextToken_234 ?_
      refine xB_iconst hF dX7_nextToken_235 ki_4 ?_
      refine xB_icmp_ge (tgt := 262) hF dX7_nextToken_236 rfl e (fun _ e => ?_) (fun _ e => ?_)
      · refine xB_aload_n hF dX7_nextToken_262 rfl ?_
        refine xB_get hF dX7_nextToken_263 fl_X7_243 sM_0 rfl rfl ?_
        exact xB_l (t_X7_nextToken_c266 hF ih _ _ _ e) (And.intro rfl (And.intro rfl (True.intro)))
      · refine xB_bipush hF dX7_nextToken_239 kb_10 ?_
        refine xB_aload_n hF dX7_nextToken_241 rfl ?_
        refine xB_get hF dX7_nextToken_242 fl_X7_243 sM_0 rfl rfl ?_
        refine xB_imul hF dX7_nextToken_245 ?_
        refine xB_aload_n hF dX7_nextToken_246 rfl ?_
        refine xB_get hF dX7_nextToken_247 fl_X7_49 sM_0 rfl rfl ?_
        refine xB_aload_n hF dX7_nextToken_250 rfl ?_
        refine xB_get hF dX7_nextToken_251 fl_X7_225 sM_0 rfl rfl ?_
        refine xB_iald hF dX7_nextToken_254 sM_14 e (fun e => ?_)
        refine xB_iadd hF dX7_nextToken_255 ?_
        refine xB_bipush hF dX7_nextToken_256 kb_48 ?_
        refine xB_isub hF dX7_nextToken_258 ?_
        refine xB_goto (tgt := 266) hF dX7_nextToken_259 rfl ?_
        exact xB_l (t_X7_nextToken_c266 hF ih _ _ _ e) (And.intro rfl (And.intro rfl (True.intro)))
def f_X7_nextToken_c162 (s0 : Int32) (h : xH) : Option (Int32 × xH) :=
    nm (xst h 0 18 s0) fun h1 => if ((h1 0 17) - (h1 0 16)) = 1 then (gd (h1 0 16) 96 <| nm (xst h1 0 20 (h1 14 (Int32.toNatClampNeg (h1 0 16)))) fun h3 => some (0, h3)) else (nm (xst h1 0 20 0) fun h2 => some (0, h2))
set_option maxRecDepth 20000 in
set_option maxHeartbeats 2000000 in
theorem t_X7_nextToken_c162 {l : Launch} {γ : xG} {r : Int32} {hr : xH} {C : xCx} (hF : xF C cX7_nextToken RX7 3 2 γ xSM none hr l none) : ∀ (s0 : Int32) (h : xH), f_X7_nextToken_c162 s0 h = some (r, hr) → xB C h 162 [some (.ref (γ.2.2.2 0)), none, none] [.int s0, .ref (γ.2.2.2 0)] := by
  intro s0 h e
  unfold f_X7_nextToken_c162 at e
  refine xB_put hF dX7_nextToken_162 fp_X7_228 sM_0 rfl rfl rfl rfl rfl ?_
  refine xB_gen e (fun h1 e => ?_)
  refine xB_aload_n hF dX7_nextToken_165 rfl ?_
  refine xB_aload_n hF dX7_nextToken_166 rfl ?_
  refine xB_get hF dX7_nextToken_167 fl_X7_225 sM_0 rfl rfl ?_
  refine xB_aload_n hF dX7_nextToken_170 rfl ?_
  refine xB_get hF dX7_nextToken_171 fl_X7_231 sM_0 rfl rfl ?_
  refine xB_isub hF dX7_nextToken_174 ?_
  refine xB_iconst hF dX7_nextToken_175 ki_1 ?_
  refine xB_icmp_ne (tgt := 191) hF dX7_nextToken_176 rfl e (fun _ e => ?_) (fun _ e => ?_)
  · refine xB_aload_n hF dX7_nextToken_179 rfl ?_
    refine xB_get hF dX7_nextToken_180 fl_X7_49 sM_0 rfl rfl ?_
    refine xB_aload_n hF dX7_nextToken_183 rfl ?_
    refine xB_get hF dX7_nextToken_184 fl_X7_231 sM_0 rfl rfl ?_
    refine xB_iald hF dX7_nextToken_187 sM_14 e (fun e => ?_)
    refine xB_goto (tgt := 192) hF dX7_nextToken_188 rfl ?_
    refine xB_put hF dX7_nextToken_192 fp_X7_237 sM_0 rfl rfl rfl rfl rfl ?_
    refine xB_gen e (fun h3 e => ?_)
    refine xB_goto (tgt := 339) hF dX7_nextToken_195 rfl ?_
    exact xB_vreturn hF dX7_nextToken_339 e
  · refine xB_iconst hF dX7_nextToken_191 ki_0 ?_
    refine xB_put hF dX7_nextToken_192 fp_X7_237 sM_0 rfl rfl rfl rfl rfl ?_
    refine xB_gen e (fun h2 e => ?_)
    refine xB_goto (tgt := 339) hF dX7_nextToken_195 rfl ?_
    exact xB_vreturn hF dX7_nextToken_339 e
def f_X7_nextToken_c128 : Nat → Int32 → xH → Option (Int32 × xH)
  | 0, _, _ => none
  | n + 1, v1, h =>
    bn (f_X7_isLetter (h 0 17) h) fun r1 h2 => if r1 = 0 then (if v1 = 0 then (f_X7_nextToken_c162 1 h2) else (f_X7_nextToken_c162 4 h2)) else (nm (xst h2 0 17 ((h2 0 17) + 1)) fun h4 => f_X7_nextToken_c128 n v1 h4)
set_option maxRecDepth 20000 in
set_option maxHeartbeats 2000000 in
theorem t_X7_nextToken_c128 {l : Launch} {γ : xG} {r : Int32} {hr : xH} {C : xCx} (hF : xF C cX7_nextToken RX7 3 2 γ xSM none hr l none) : ∀ (n : Nat) (v1 : Int32) (h : xH), f_X7_nextToken_c128 n v1 h = some (r, hr) → xB C h 128 [some (.ref (γ.2.2.2 0)), some (.int v1), none] [] := by
  intro n
  induction n with
  | zero => intro v1 h e; cases e
  | succ n ih =>
    intro v1 h e
    rw [f_X7_nextToken_c128] at e
    refine xB_aload_n hF dX7_nextToken_128 rfl ?_
    refine xB_aload_n hF dX7_nextToken_129 rfl ?_
    refine xB_get hF dX7_nextToken_130 fl_X7_225 sM_0 rfl rfl ?_
    obtain ⟨r1, h2, e3, e⟩ := bn_of e
    refine xB_callVi hF dX7_nextToken_133 (t_X7_isLetter e3) cw_X7_234 sM_0 rfl rfl rfl rfl rfl ?_
    refine xB_if_eq (tgt := 152) hF dX7_nextToken_136 rfl e (fun _ e => ?_) (fun _ e => ?_)
    · refine xB_aload_n hF dX7_nextToken_152 rfl ?_
      refine xB_iload_n hF dX7_nextToken_153 rfl ?_
      refine xB_if_eq (tgt := 161) hF dX7_nextToken_154 rfl e (fun _ e => ?_) (fun _ e => ?_)
      · refine xB_iconst hF dX7_nextToken_161 ki_1 ?_
        exact xB_l (t_X7_nextToken_c162 hF _ _ e) (And.intro rfl (True.intro))
      · refine xB_iconst hF dX7_nextToken_157 ki_4 ?_
        refine xB_goto (tgt := 162) hF dX7_nextToken_158 rfl ?_
        exact xB_l (t_X7_nextToken_c162 hF _ _ e) (And.intro rfl (True.intro))
    · refine xB_aload_n hF dX7_nextToken_139 rfl ?_
      refine xB_dup hF dX7_nextToken_140 rfl ?_
      refine xB_get hF dX7_nextToken_141 fl_X7_225 sM_0 rfl rfl ?_
      refine xB_iconst hF dX7_nextToken_144 ki_1 ?_
      refine xB_iadd hF dX7_nextToken_145 ?_
      refine xB_put hF dX7_nextToken_146 fp_X7_225 sM_0 rfl rfl rfl rfl rfl ?_
      refine xB_gen e (fun h4 e => ?_)
      refine xB_goto (tgt := 128) hF dX7_nextToken_149 rfl ?_
      exact xB_l (ih _ _ e) (And.intro rfl (And.intro rfl (True.intro)))
def f_X7_nextToken_c89 (s0 : Int32) (h : xH) : Option (Int32 × xH) :=
    nm (xst h 0 16 (h 0 17)) fun h1 => if (h1 0 16) = (h1 0 15) then (nm (xst h1 0 18 0) fun h12 => some (0, h12)) else (bn (f_X7_isLetter (h1 0 16) h1) fun r2 h3 => if r2 = 0 then (bn (f_X7_isDigit (h3 0 16) h3) fun r5 h6 => if r5 = 0 then (nm (xst h6 0 18 3) fun h8 => gd (h8 0 16) 96 <| nm (xst h8 0 20 (h8 14 (Int32.toNatClampNeg (h8 0 16)))) fun h9 => nm (xst h9 0 17 ((h9 0 17) + 1)) fun h10 => some (0, h10)) else (nm (xst h6 0 19 0) fun h11 => f_X7_nextToken_c214 xN s0 h11)) else (f_X7_nextToken_c128 xN s0 h3))
set_option maxRecDepth 20000 in
set_option maxHeartbeats 2000000 in
theorem t_X7_nextToken_c89 {l : Launch} {γ : xG} {r : Int32} {hr : xH} {C : xCx} (hF : xF C cX7_nextToken RX7 3 2 γ xSM none hr l none) : ∀ (s0 : Int32) (h : xH), f_X7_nextToken_c89 s0 h = some (r, hr) → xB C h 89 [some (.ref (γ.2.2.2 0)), none, none] [.int s0] := by
  intro s0 h e
  unfold f_X7_nextToken_c89 at e
  refine xB_istore_n (L' := [_, _, _]) hF dX7_nextToken_89 rfl rfl rfl ?_
  refine xB_aload_n hF dX7_nextToken_90 rfl ?_
  refine xB_aload_n hF dX7_nextToken_91 rfl ?_
  refine xB_get hF dX7_nextToken_92 fl_X7_225 sM_0 rfl rfl ?_
  refine xB_put hF dX7_nextToken_95 fp_X7_231 sM_0 rfl rfl rfl rfl rfl ?_
  refine xB_gen e (fun h1 e => ?_)
  refine xB_aload_n hF dX7_nextToken_98 rfl ?_
  refine xB_get hF dX7_nextToken_99 fl_X7_231 sM_0 rfl rfl ?_
  refine xB_aload_n hF dX7_nextToken_102 rfl ?_
  refine xB_get hF dX7_nextToken_103 fl_X7_213 sM_0 rfl rfl ?_
  refine xB_icmp_ne (tgt := 117) hF dX7_nextToken_106 rfl e (fun _ e => ?_) (fun _ e => ?_)
  · refine xB_aload_n hF dX7_nextToken_109 rfl ?_
    refine xB_iconst hF dX7_nextToken_110 ki_0 ?_
    refine xB_put hF dX7_nextToken_111 fp_X7_228 sM_0 rfl rfl rfl rfl rfl ?_
    refine xB_gen e (fun h12 e => ?_)
    refine xB_goto (tgt := 339) hF dX7_nextToken_114 rfl ?_
    exact xB_vreturn hF dX7_nextToken_339 e
  · refine xB_aload_n hF dX7_nextToken_117 rfl ?_
    refine xB_aload_n hF dX7_nextToken_118 rfl ?_
    refine xB_get hF dX7_nextToken_119 fl_X7_231 sM_0 rfl rfl ?_
    obtain ⟨r2, h3, e4, e⟩ := bn_of e
    refine xB_callVi hF dX7_nextToken_122 (t_X7_isLetter e4) cw_X7_234 sM_0 rfl rfl rfl rfl rfl ?_
    refine xB_if_eq (tgt := 198) hF dX7_nextToken_125 rfl e (fun _ e => ?_) (fun _ e => ?_)
    · refine xB_aload_n hF dX7_nextToken_198 rfl ?_
      refine xB_aload_n hF dX7_nextToken_199 rfl ?_
      refine xB_get hF dX7_nextToken_200 fl_X7_231 sM_0 rfl rfl ?_
      obtain ⟨r5, h6, e7, e⟩ := bn_of e
      refine xB_callVi hF dX7_nextToken_203 (t_X7_isDigit e7) cw_X7_240 sM_0 rfl rfl rfl rfl rfl ?_
      refine xB_if_eq (tgt := 311) hF dX7_nextToken_206 rfl e (fun _ e => ?_) (fun _ e => ?_)
      · refine xB_aload_n hF dX7_nextToken_311 rfl ?_
        refine xB_iconst hF dX7_nextToken_312 ki_3 ?_
        refine xB_put hF dX7_nextToken_313 fp_X7_228 sM_0 rfl rfl rfl rfl rfl ?_
        refine xB_gen e (fun h8 e => ?_)
        refine xB_aload_n hF dX7_nextToken_316 rfl ?_
        refine xB_aload_n hF dX7_nextToken_317 rfl ?_
        refine xB_get hF dX7_nextToken_318 fl_X7_49 sM_0 rfl rfl ?_
        refine xB_aload_n hF dX7_nextToken_321 rfl ?_
        refine xB_get hF dX7_nextToken_322 fl_X7_231 sM_0 rfl rfl ?_
        refine xB_iald hF dX7_nextToken_325 sM_14 e (fun e => ?_)
        refine xB_put hF dX7_nextToken_326 fp_X7_237 sM_0 rfl rfl rfl rfl rfl ?_
        refine xB_gen e (fun h9 e => ?_)
        refine xB_aload_n hF dX7_nextToken_329 rfl ?_
        refine xB_dup hF dX7_nextToken_330 rfl ?_
        refine xB_get hF dX7_nextToken_331 fl_X7_225 sM_0 rfl rfl ?_
        refine xB_iconst hF dX7_nextToken_334 ki_1 ?_
        refine xB_iadd hF dX7_nextToken_335 ?_
        refine xB_put hF dX7_nextToken_336 fp_X7_225 sM_0 rfl rfl rfl rfl rfl ?_
        refine xB_gen e (fun h10 e => ?_)
        exact xB_vreturn hF dX7_nextToken_339 e
      · refine xB_aload_n hF dX7_nextToken_209 rfl ?_
        refine xB_iconst hF dX7_nextToken_210 ki_0 ?_
        refine xB_put hF dX7_nextToken_211 fp_X7_243 sM_0 rfl rfl rfl rfl rfl ?_
        refine xB_gen e (fun h11 e => ?_)
        exact xB_l (t_X7_nextToken_c214 hF _ _ _ e) (And.intro rfl (And.intro rfl (True.intro)))
    · exact xB_l (t_X7_nextToken_c128 hF _ _ _ e) (And.intro rfl (And.intro rfl (True.intro)))
def f_X7_nextToken_c88 (h : xH) : Option (Int32 × xH) :=
    f_X7_nextToken_c89 0 h
set_option maxRecDepth 20000 in
set_option maxHeartbeats 2000000 in
theorem t_X7_nextToken_c88 {l : Launch} {γ : xG} {r : Int32} {hr : xH} {C : xCx} (hF : xF C cX7_nextToken RX7 3 2 γ xSM none hr l none) : ∀ (h : xH), f_X7_nextToken_c88 h = some (r, hr) → xB C h 88 [some (.ref (γ.2.2.2 0)), none, none] [] := by
  intro h e
  unfold f_X7_nextToken_c88 at e
  refine xB_iconst hF dX7_nextToken_88 ki_0 ?_
  exact xB_l (t_X7_nextToken_c89 hF _ _ e) (And.intro rfl (True.intro))
def f_X7_nextToken_c72 (v1 : Int32) (v2 : Int32) (h : xH) : Option (Int32 × xH) :=
    if v1 = 0 then (f_X7_nextToken_c88 h) else (if v2 = (h 0 17) then (f_X7_nextToken_c89 1 h) else (f_X7_nextToken_c88 h))
set_option maxRecDepth 20000 in
set_option maxHeartbeats 2000000 in
theorem t_X7_nextToken_c72 {l : Launch} {γ : xG} {r : Int32} {hr : xH} {C : xCx} (hF : xF C cX7_nextToken RX7 3 2 γ xSM none hr l none) : ∀ (v1 : Int32) (v2 : Int32) (h : xH), f_X7_nextToken_c72 v1 v2 h = some (r, hr) → xB C h 72 [some (.ref (γ.2.2.2 0)), some (.int v1), some (.int v2)] [] := by
  intro v1 v2 h e
  unfold f_X7_nextToken_c72 at e
  refine xB_iload_n hF dX7_nextToken_72 rfl ?_
  refine xB_if_eq (tgt := 88) hF dX7_nextToken_73 rfl e (fun _ e => ?_) (fun _ e => ?_)
  · exact xB_l (t_X7_nextToken_c88 hF _ e) (And.intro rfl (True.intro))
  · refine xB_iload_n hF dX7_nextToken_76 rfl ?_
    refine xB_aload_n hF dX7_nextToken_77 rfl ?_
    refine xB_get hF dX7_nextToken_78 fl_X7_225 sM_0 rfl rfl ?_
    refine xB_icmp_ne (tgt := 88) hF dX7_nextToken_81 rfl e (fun _ e => ?_) (fun _ e => ?_)
    · refine xB_iconst hF dX7_nextToken_84 ki_1 ?_
      refine xB_goto (tgt := 89) hF dX7_nextToken_85 rfl ?_
      exact xB_l (t_X7_nextToken_c89 hF _ _ e) (And.intro rfl (True.intro))
    · exact xB_l (t_X7_nextToken_c88 hF _ e) (And.intro rfl (True.intro))
def f_X7_nextToken_c34 : Nat → Int32 → Int32 → xH → Option (Int32 × xH)
  | 0, _, _, _ => none
  | n + 1, v1, v2, h =>
    if (h 0 15) ≤ (h 0 17) then (f_X7_nextToken_c72 v1 v2 h) else (gd (h 0 17) 96 <| if (h 14 (Int32.toNatClampNeg (h 0 17))) = 32 then (nm (xst h 0 17 ((h 0 17) + 1)) fun h1 => f_X7_nextToken_c34 n v1 v2 h1) else (f_X7_nextToken_c72 v1 v2 h))
set_option maxRecDepth 20000 in
set_option maxHeartbeats 2000000 in
theorem t_X7_nextToken_c34 {l : Launch} {γ : xG} {r : Int32} {hr : xH} {C : xCx} (hF : xF C cX7_nextToken RX7 3 2 γ xSM none hr l none) : ∀ (n : Nat) (v1 : Int32) (v2 : Int32) (h : xH), f_X7_nextToken_c34 n v1 v2 h = some (r, hr) → xB C h 34 [some (.ref (γ.2.2.2 0)), some (.int v1), some (.int v2)] [] := by
  intro n
  induction n with
  | zero => intro v1 v2 h e; cases e
  | succ n ih =>
    intro v1 v2 h e
    rw [f_X7_nextToken_c34] at e
    refine xB_aload_n hF dX7_nextToken_34 rfl ?_
    refine xB_get hF dX7_nextToken_35 fl_X7_225 sM_0 rfl rfl ?_
    refine xB_aload_n hF dX7_nextToken_38 rfl ?_
    refine xB_get hF dX7_nextToken_39 fl_X7_213 sM_0 rfl rfl ?_
    refine xB_icmp_ge (tgt := 72) hF dX7_nextToken_42 rfl e (fun _ e => ?_) (fun _ e => ?_)
    · exact xB_l (t_X7_nextToken_c72 hF _ _ _ e) (And.intro rfl (And.intro rfl (And.intro rfl (True.intro))))
    · refine xB_aload_n hF dX7_nextToken_45 rfl ?_
      refine xB_get hF dX7_nextToken_46 fl_X7_49 sM_0 rfl rfl ?_
      refine xB_aload_n hF dX7_nextToken_49 rfl ?_
      refine xB_get hF dX7_nextToken_50 fl_X7_225 sM_0 rfl rfl ?_
      refine xB_iald hF dX7_nextToken_53 sM_14 e (fun e => ?_)
      refine xB_bipush hF dX7_nextToken_54 kb_32 ?_
      refine xB_icmp_ne (tgt := 72) hF dX7_nextToken_56 rfl e (fun _ e => ?_) (fun _ e => ?_)
      · refine xB_aload_n hF dX7_nextToken_59 rfl ?_
        refine xB_dup hF dX7_nextToken_60 rfl ?_
        refine xB_get hF dX7_nextToken_61 fl_X7_225 sM_0 rfl rfl ?_
        refine xB_iconst hF dX7_nextToken_64 ki_1 ?_
        refine xB_iadd hF dX7_nextToken_65 ?_
        refine xB_put hF dX7_nextToken_66 fp_X7_225 sM_0 rfl rfl rfl rfl rfl ?_
        refine xB_gen e (fun h1 e => ?_)
        refine xB_goto (tgt := 34) hF dX7_nextToken_69 rfl ?_
        exact xB_l (ih _ _ _ e) (And.intro rfl (And.intro rfl (And.intro rfl (True.intro))))
      · exact xB_l (t_X7_nextToken_c72 hF _ _ _ e) (And.intro rfl (And.intro rfl (And.intro rfl (True.intro))))
def f_X7_nextToken_c28 (s0 : Int32) (h : xH) : Option (Int32 × xH) :=
    f_X7_nextToken_c34 xN s0 (h 0 17) h
set_option maxRecDepth 20000 in
set_option maxHeartbeats 2000000 in
theorem t_X7_nextToken_c28 {l : Launch} {γ : xG} {r : Int32} {hr : xH} {C : xCx} (hF : xF C cX7_nextToken RX7 3 2 γ xSM none hr l none) : ∀ (s0 : Int32) (h : xH), f_X7_nextToken_c28 s0 h = some (r, hr) → xB C h 28 [some (.ref (γ.2.2.2 0)), none, none] [.int s0] := by
  intro s0 h e
  unfold f_X7_nextToken_c28 at e
  refine xB_istore_n (L' := [_, _, _]) hF dX7_nextToken_28 rfl rfl rfl ?_
  refine xB_aload_n hF dX7_nextToken_29 rfl ?_
  refine xB_get hF dX7_nextToken_30 fl_X7_225 sM_0 rfl rfl ?_
  refine xB_istore_n (L' := [_, _, _]) hF dX7_nextToken_33 rfl rfl rfl ?_
  exact xB_l (t_X7_nextToken_c34 hF _ _ _ _ e) (And.intro rfl (And.intro rfl (And.intro rfl (True.intro))))
def f_X7_nextToken_c27 (h : xH) : Option (Int32 × xH) :=
    f_X7_nextToken_c28 0 h
set_option maxRecDepth 20000 in
set_option maxHeartbeats 2000000 in
theorem t_X7_nextToken_c27 {l : Launch} {γ : xG} {r : Int32} {hr : xH} {C : xCx} (hF : xF C cX7_nextToken RX7 3 2 γ xSM none hr l none) : ∀ (h : xH), f_X7_nextToken_c27 h = some (r, hr) → xB C h 27 [some (.ref (γ.2.2.2 0)), none, none] [] := by
  intro h e
  unfold f_X7_nextToken_c27 at e
  refine xB_iconst hF dX7_nextToken_27 ki_0 ?_
  exact xB_l (t_X7_nextToken_c28 hF _ _ e) (And.intro rfl (True.intro))
def f_X7_nextToken_c23 (h : xH) : Option (Int32 × xH) :=
    f_X7_nextToken_c28 1 h
set_option maxRecDepth 20000 in
set_option maxHeartbeats 2000000 in
theorem t_X7_nextToken_c23 {l : Launch} {γ : xG} {r : Int32} {hr : xH} {C : xCx} (hF : xF C cX7_nextToken RX7 3 2 γ xSM none hr l none) : ∀ (h : xH), f_X7_nextToken_c23 h = some (r, hr) → xB C h 23 [some (.ref (γ.2.2.2 0)), none, none] [] := by
  intro h e
  unfold f_X7_nextToken_c23 at e
  refine xB_iconst hF dX7_nextToken_23 ki_1 ?_
  refine xB_goto (tgt := 28) hF dX7_nextToken_24 rfl ?_
  exact xB_l (t_X7_nextToken_c28 hF _ _ e) (And.intro rfl (True.intro))
def f_X7_nextToken (h : xH) : Option (Int32 × xH) :=
    if (h 0 17) ≤ 0 then (f_X7_nextToken_c27 h) else (if (h 0 18) = 1 then (f_X7_nextToken_c23 h) else (if (h 0 18) = 2 then (f_X7_nextToken_c23 h) else (f_X7_nextToken_c27 h)))
set_option maxRecDepth 20000 in
set_option maxHeartbeats 2000000 in
theorem t_X7_nextToken {l : Launch} {γ : xG} {h : xH} {r : Int32} {hr : xH} (e : f_X7_nextToken h = some (r, hr)) : xCT l γ xSM yX7_nextToken cX7_nextToken 3 none 2 [.ref (γ.2.2.2 0)] h none hr := by
  refine xCT.of (own := RX7) (L := [some (.ref (γ.2.2.2 0)), none, none]) (by decide) rfl rfl rfl (fun C hF => ?_)
  unfold f_X7_nextToken at e
  refine xB_aload_n hF dX7_nextToken_0 rfl ?_
  refine xB_get hF dX7_nextToken_1 fl_X7_225 sM_0 rfl rfl ?_
  refine xB_if_le (tgt := 27) hF dX7_nextToken_4 rfl e (fun _ e => ?_) (fun _ e => ?_)
  · exact xB_l (t_X7_nextToken_c27 hF _ e) (And.intro rfl (True.intro))
  · refine xB_aload_n hF dX7_nextToken_7 rfl ?_
    refine xB_get hF dX7_nextToken_8 fl_X7_228 sM_0 rfl rfl ?_
    refine xB_iconst hF dX7_nextToken_11 ki_1 ?_
    refine xB_icmp_eq (tgt := 23) hF dX7_nextToken_12 rfl e (fun _ e => ?_) (fun _ e => ?_)
    · exact xB_l (t_X7_nextToken_c23 hF _ e) (And.intro rfl (True.intro))
    · refine xB_aload_n hF dX7_nextToken_15 rfl ?_
      refine xB_get hF dX7_nextToken_16 fl_X7_228 sM_0 rfl rfl ?_
      refine xB_iconst hF dX7_nextToken_19 ki_2 ?_
      refine xB_icmp_ne (tgt := 27) hF dX7_nextToken_20 rfl e (fun _ e => ?_) (fun _ e => ?_)
      · exact xB_l (t_X7_nextToken_c23 hF _ e) (And.intro rfl (True.intro))
      · exact xB_l (t_X7_nextToken_c27 hF _ e) (And.intro rfl (True.intro))
