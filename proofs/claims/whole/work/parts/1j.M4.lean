def f_X7_isSlot (a0 : Int32) (h : xH) : Option (Int32 × xH) :=
    bn (f_X7_isIn (Int32.toInt64 a0) 0 4 h) fun r1 h2 => gb r1 (some (r1, h2))
set_option maxRecDepth 20000 in
set_option maxHeartbeats 2000000 in
theorem t_X7_isSlot {l : Launch} {γ : xG} {a0 : Int32} {h : xH} {r : Int32} {hr : xH} (e : f_X7_isSlot a0 h = some (r, hr)) : xCT l γ xSM yX7_isSlot cX7_isSlot 1 (some .boolean) 1 [.int a0] h (some (.int r)) hr := by
  refine xCT.of (own := RX7) (L := [some (.int a0)]) (by decide) rfl rfl rfl (fun C hF => ?_)
  unfold f_X7_isSlot at e
  refine xB_iload_n hF dX7_isSlot_0 rfl ?_
  refine xB_i2l hF dX7_isSlot_1 ?_
  refine xB_lconst (v := 0) hF dX7_isSlot_2 (by decide) ?_
  refine xB_ldc2 hF dX7_isSlot_3 kc_X7_199 ?_
  obtain ⟨r1, h2, e3, e⟩ := bn_of e
  refine xB_callSi hF dX7_isSlot_6 (t_X7_isIn e3) cw_X7_68 rfl rfl rfl rfl ?_
  exact xB_breturn hF dX7_isSlot_9 e
def f_X7_lay_c150 (a1 : Int32) (a2 : Int32) (a3 : Int32) : Nat → Int32 → Int32 → xH → Option (Int32 × xH)
  | 0, _, _, _ => none
  | n + 1, v5, v6, h =>
    if 24 ≤ v6 then (some (v5, h)) else (gd ((24 * a3) + v6) 96 <| gd ((24 * a1) + v6) 120 <| nm (xst h 11 (Int32.toNatClampNeg ((24 * a1) + v6)) (h 6 (Int32.toNatClampNeg ((24 * a3) + v6)))) fun h1 => f_X7_lay_c150 a1 a2 a3 n v5 (v6 + 1) h1)
set_option maxRecDepth 20000 in
set_option maxHeartbeats 2000000 in
theorem t_X7_lay_c150 {l : Launch} {γ : xG} {a1 : Int32} {a2 : Int32} {a3 : Int32} {r : Int32} {hr : xH} {C : xCx} (hF : xF C cX7_lay RX7 7 2 γ xSM (some (.int r)) hr l (some .int)) : ∀ (n : Nat) (v5 : Int32) (v6 : Int32) (h : xH), f_X7_lay_c150 a1 a2 a3 n v5 v6 h = some (r, hr) → xB C h 150 [some (.ref (γ.2.2.2 0)), some (.int a1), some (.int a2), some (.int a3), none, some (.int v5), some (.int v6)] [] := by
  intro n
  induction n with
  | zero => intro v5 v6 h e; cases e
  | succ n ih =>
    intro v5 v6 h e
    rw [f_X7_lay_c150] at e
    refine xB_iload hF dX7_lay_150 rfl ?_
    refine xB_bipush hF dX7_lay_152 kb_24 ?_
    refine xB_icmp_ge (tgt := 187) hF dX7_lay_154 rfl e (fun _ e => ?_) (fun _ e => ?_)
    · refine xB_iload hF dX7_lay_187 rfl ?_
      exact xB_ireturn hF dX7_lay_189 e
    · refine xB_aload_n hF dX7_lay_157 rfl ?_
      refine xB_get hF dX7_lay_158 fl_X7_40 sM_0 rfl rfl ?_
      refine xB_bipush hF dX7_lay_161 kb_24 ?_
      refine xB_iload_n hF dX7_lay_163 rfl ?_
      refine xB_imul hF dX7_lay_164 ?_
      refine xB_iload hF dX7_lay_165 rfl ?_
      refine xB_iadd hF dX7_lay_167 ?_
      refine xB_aload_n hF dX7_lay_168 rfl ?_
      refine xB_get hF dX7_lay_169 fl_X7_25 sM_0 rfl rfl ?_
      refine xB_bipush hF dX7_lay_172 kb_24 ?_
      refine xB_iload_n hF dX7_lay_174 rfl ?_
      refine xB_imul hF dX7_lay_175 ?_
      refine xB_iload hF dX7_lay_176 rfl ?_
      refine xB_iadd hF dX7_lay_178 ?_
      refine xB_iald hF dX7_lay_179 sM_6 e (fun e => ?_)
      refine xB_iast hF dX7_lay_180 sM_11 e (fun e => ?_)
      refine xB_gen e (fun h1 e => ?_)
      refine xB_iinc (L' := [_, _, _, _, _, _, _]) hF dX7_lay_181 rfl ki_1 rfl rfl rfl ?_
      refine xB_goto (tgt := 150) hF dX7_lay_184 rfl ?_
      exact xB_l (ih _ _ _ e) (And.intro rfl (And.intro rfl (And.intro rfl (And.intro rfl (And.intro rfl (And.intro rfl (True.intro)))))))
def f_X7_lay_c129 (a1 : Int32) (a2 : Int32) (a3 : Int32) (v5 : Int32) (s0 : Int32) (s1 : Int32) (h : xH) : Option (Int32 × xH) :=
    gd s1 5 <| nm (xst h 9 (Int32.toNatClampNeg s1) s0) fun h1 => if a2 = 2 then (gd a3 4 <| gd a1 5 <| nm (xst h1 10 (Int32.toNatClampNeg a1) (h1 5 (Int32.toNatClampNeg a3))) fun h2 => f_X7_lay_c150 a1 a2 a3 xN v5 0 h2) else (some (v5, h1))
set_option maxRecDepth 20000 in
set_option maxHeartbeats 2000000 in
theorem t_X7_lay_c129 {l : Launch} {γ : xG} {a1 : Int32} {a2 : Int32} {a3 : Int32} {r : Int32} {hr : xH} {C : xCx} (hF : xF C cX7_lay RX7 7 2 γ xSM (some (.int r)) hr l (some .int)) : ∀ (v5 : Int32) (s0 : Int32) (s1 : Int32) (h : xH), f_X7_lay_c129 a1 a2 a3 v5 s0 s1 h = some (r, hr) → xB C h 129 [some (.ref (γ.2.2.2 0)), some (.int a1), some (.int a2), some (.int a3), none, some (.int v5), none] [.int s0, .int s1, .ref (γ.2.2.2 9)] := by
  intro v5 s0 s1 h e
  unfold f_X7_lay_c129 at e
  refine xB_iast hF dX7_lay_129 sM_9 e (fun e => ?_)
  refine xB_gen e (fun h1 e => ?_)
  refine xB_iload_n hF dX7_lay_130 rfl ?_
  refine xB_iconst hF dX7_lay_131 ki_2 ?_
  refine xB_icmp_ne (tgt := 187) hF dX7_lay_132 rfl e (fun _ e => ?_) (fun _ e => ?_)
  · refine xB_aload_n hF dX7_lay_135 rfl ?_
    refine xB_get hF dX7_lay_136 fl_X7_37 sM_0 rfl rfl ?_
    refine xB_iload_n hF dX7_lay_139 rfl ?_
    refine xB_aload_n hF dX7_lay_140 rfl ?_
    refine xB_get hF dX7_lay_141 fl_X7_22 sM_0 rfl rfl ?_
    refine xB_iload_n hF dX7_lay_144 rfl ?_
    refine xB_iald hF dX7_lay_145 sM_5 e (fun e => ?_)
    refine xB_iast hF dX7_lay_146 sM_10 e (fun e => ?_)
    refine xB_gen e (fun h2 e => ?_)
    refine xB_iconst hF dX7_lay_147 ki_0 ?_
    refine xB_istore (L' := [_, _, _, _, _, _, _]) hF dX7_lay_148 rfl rfl rfl ?_
    exact xB_l (t_X7_lay_c150 hF _ _ _ _ e) (And.intro rfl (And.intro rfl (And.intro rfl (And.intro rfl (And.intro rfl (And.intro rfl (True.intro)))))))
  · refine xB_iload hF dX7_lay_187 rfl ?_
    exact xB_ireturn hF dX7_lay_189 e
def f_X7_lay_c109 (a1 : Int32) (a2 : Int32) (a3 : Int32) (v5 : Int32) (s0 : Int32) (s1 : Int32) (h : xH) : Option (Int32 × xH) :=
    gd s1 5 <| nm (xst h 8 (Int32.toNatClampNeg s1) s0) fun h1 => if a2 = 1 then (bn (f_X7_worth a3 h1) fun r2 h3 => f_X7_lay_c129 a1 a2 a3 v5 r2 a1 h3) else (f_X7_lay_c129 a1 a2 a3 v5 0 a1 h1)
set_option maxRecDepth 20000 in
set_option maxHeartbeats 2000000 in
theorem t_X7_lay_c109 {l : Launch} {γ : xG} {a1 : Int32} {a2 : Int32} {a3 : Int32} {r : Int32} {hr : xH} {C : xCx} (hF : xF C cX7_lay RX7 7 2 γ xSM (some (.int r)) hr l (some .int)) : ∀ (v5 : Int32) (s0 : Int32) (s1 : Int32) (h : xH), f_X7_lay_c109 a1 a2 a3 v5 s0 s1 h = some (r, hr) → xB C h 109 [some (.ref (γ.2.2.2 0)), some (.int a1), some (.int a2), some (.int a3), none, some (.int v5), none] [.int s0, .int s1, .ref (γ.2.2.2 8)] := by
  intro v5 s0 s1 h e
  unfold f_X7_lay_c109 at e
  refine xB_iast hF dX7_lay_109 sM_8 e (fun e => ?_)
  refine xB_gen e (fun h1 e => ?_)
  refine xB_aload_n hF dX7_lay_110 rfl ?_
  refine xB_get hF dX7_lay_111 fl_X7_34 sM_0 rfl rfl ?_
  refine xB_iload_n hF dX7_lay_114 rfl ?_
  refine xB_iload_n hF dX7_lay_115 rfl ?_
  refine xB_iconst hF dX7_lay_116 ki_1 ?_
  refine xB_icmp_ne (tgt := 128) hF dX7_lay_117 rfl e (fun _ e => ?_) (fun _ e => ?_)
  · refine xB_aload_n hF dX7_lay_120 rfl ?_
    refine xB_iload_n hF dX7_lay_121 rfl ?_
    obtain ⟨r2, h3, e4, e⟩ := bn_of e
    refine xB_callVi hF dX7_lay_122 (t_X7_worth e4) cw_X7_122 sM_0 rfl rfl rfl rfl rfl ?_
    refine xB_goto (tgt := 129) hF dX7_lay_125 rfl ?_
    exact xB_l (t_X7_lay_c129 hF _ _ _ _ e) (And.intro rfl (And.intro rfl (And.intro rfl (And.intro rfl (And.intro rfl (True.intro))))))
  · refine xB_iconst hF dX7_lay_128 ki_0 ?_
    exact xB_l (t_X7_lay_c129 hF _ _ _ _ e) (And.intro rfl (And.intro rfl (And.intro rfl (And.intro rfl (And.intro rfl (True.intro))))))
def f_X7_lay_c74 (a1 : Int32) (a2 : Int32) (a3 : Int32) (h : xH) : Option (Int32 × xH) :=
    gd a1 5 <| nm (h 7 (Int32.toNatClampNeg a1)) fun x1 => gd a1 5 <| nm (xst h 7 (Int32.toNatClampNeg a1) a2) fun h2 => if a2 = 1 then (bn (f_X7_of a3 0 h2) fun r3 h4 => f_X7_lay_c109 a1 a2 a3 x1 r3 a1 h4) else (f_X7_lay_c109 a1 a2 a3 x1 a3 a1 h2)
set_option maxRecDepth 20000 in
set_option maxHeartbeats 2000000 in
theorem t_X7_lay_c74 {l : Launch} {γ : xG} {a1 : Int32} {a2 : Int32} {a3 : Int32} {r : Int32} {hr : xH} {C : xCx} (hF : xF C cX7_lay RX7 7 2 γ xSM (some (.int r)) hr l (some .int)) : ∀ (h : xH), f_X7_lay_c74 a1 a2 a3 h = some (r, hr) → xB C h 74 [some (.ref (γ.2.2.2 0)), some (.int a1), some (.int a2), some (.int a3), none, none, none] [] := by
  intro h e
  unfold f_X7_lay_c74 at e
  refine xB_aload_n hF dX7_lay_74 rfl ?_
  refine xB_get hF dX7_lay_75 fl_X7_28 sM_0 rfl rfl ?_
  refine xB_iload_n hF dX7_lay_78 rfl ?_
  refine xB_iald hF dX7_lay_79 sM_7 e (fun e => ?_)
  refine xB_istore (L' := [_, _, _, _, _, _, _]) hF dX7_lay_80 rfl rfl rfl ?_
  replace e := nm_of e
  refine xB_aload_n hF dX7_lay_82 rfl ?_
  refine xB_get hF dX7_lay_83 fl_X7_28 sM_0 rfl rfl ?_
  refine xB_iload_n hF dX7_lay_86 rfl ?_
  refine xB_iload_n hF dX7_lay_87 rfl ?_
  refine xB_iast hF dX7_lay_88 sM_7 e (fun e => ?_)
  refine xB_gen e (fun h2 e => ?_)
  refine xB_aload_n hF dX7_lay_89 rfl ?_
  refine xB_get hF dX7_lay_90 fl_X7_31 sM_0 rfl rfl ?_
  refine xB_iload_n hF dX7_lay_93 rfl ?_
  refine xB_iload_n hF dX7_lay_94 rfl ?_
  refine xB_iconst hF dX7_lay_95 ki_1 ?_
  refine xB_icmp_ne (tgt := 108) hF dX7_lay_96 rfl e (fun _ e => ?_) (fun _ e => ?_)
  · refine xB_aload_n hF dX7_lay_99 rfl ?_
    refine xB_iload_n hF dX7_lay_100 rfl ?_
    refine xB_iconst hF dX7_lay_101 ki_0 ?_
    obtain ⟨r3, h4, e5, e⟩ := bn_of e
    refine xB_callVi hF dX7_lay_102 (t_X7_of e5) cw_X7_97 sM_0 rfl rfl rfl rfl rfl ?_
    refine xB_goto (tgt := 109) hF dX7_lay_105 rfl ?_
    exact xB_l (t_X7_lay_c109 hF _ _ _ _ e) (And.intro rfl (And.intro rfl (And.intro rfl (And.intro rfl (And.intro rfl (True.intro))))))
  · refine xB_iload_n hF dX7_lay_108 rfl ?_
    exact xB_l (t_X7_lay_c109 hF _ _ _ _ e) (And.intro rfl (And.intro rfl (And.intro rfl (And.intro rfl (And.intro rfl (True.intro))))))
def f_X7_lay_c39 (a1 : Int32) (a2 : Int32) (a3 : Int32) (s0 : Int32) (h : xH) : Option (Int32 × xH) :=
    bn (f_X7_isSlot a1 h) fun r1 h2 => if r1 = 0 then (some ((-1000000001), h2)) else (if s0 = 0 then (some ((-1000000001), h2)) else (if a2 = 2 then (gd a3 4 <| if 0 ≤ (h2 4 (Int32.toNatClampNeg a3)) then (f_X7_lay_c74 a1 a2 a3 h2) else (some ((-1000000011), h2))) else (f_X7_lay_c74 a1 a2 a3 h2)))
set_option maxRecDepth 20000 in
set_option maxHeartbeats 2000000 in
theorem t_X7_lay_c39 {l : Launch} {γ : xG} {a1 : Int32} {a2 : Int32} {a3 : Int32} {r : Int32} {hr : xH} {C : xCx} (hF : xF C cX7_lay RX7 7 2 γ xSM (some (.int r)) hr l (some .int)) : ∀ (s0 : Int32) (h : xH), f_X7_lay_c39 a1 a2 a3 s0 h = some (r, hr) → xB C h 39 [some (.ref (γ.2.2.2 0)), some (.int a1), some (.int a2), some (.int a3), none, none, none] [.int s0] := by
  intro s0 h e
  unfold f_X7_lay_c39 at e
  refine xB_istore (L' := [_, _, _, _, _, _, _]) hF dX7_lay_39 rfl rfl rfl ?_
  refine xB_iload_n hF dX7_lay_41 rfl ?_
  obtain ⟨r1, h2, e3, e⟩ := bn_of e
  refine xB_callSi hF dX7_lay_42 (t_X7_isSlot e3) cw_X7_328 rfl rfl rfl rfl ?_
  refine xB_if_eq (tgt := 53) hF dX7_lay_45 rfl e (fun _ e => ?_) (fun _ e => ?_)
  · refine xB_ldc hF dX7_lay_53 kc_X7_87 ?_
    exact xB_ireturn hF dX7_lay_55 e
  · refine xB_iload hF dX7_lay_48 rfl ?_
    refine xB_if_ne (tgt := 56) hF dX7_lay_50 rfl e (fun _ e => ?_) (fun _ e => ?_)
    · refine xB_ldc hF dX7_lay_53 kc_X7_87 ?_
      exact xB_ireturn hF dX7_lay_55 e
    · refine xB_iload_n hF dX7_lay_56 rfl ?_
      refine xB_iconst hF dX7_lay_57 ki_2 ?_
      refine xB_icmp_ne (tgt := 74) hF dX7_lay_58 rfl e (fun _ e => ?_) (fun _ e => ?_)
      · refine xB_aload_n hF dX7_lay_61 rfl ?_
        refine xB_get hF dX7_lay_62 fl_X7_19 sM_0 rfl rfl ?_
        refine xB_iload_n hF dX7_lay_65 rfl ?_
        refine xB_iald hF dX7_lay_66 sM_4 e (fun e => ?_)
        refine xB_if_ge (tgt := 74) hF dX7_lay_67 rfl e (fun _ e => ?_) (fun _ e => ?_)
        · exact xB_l (t_X7_lay_c74 hF _ e) (And.intro rfl (And.intro rfl (And.intro rfl (And.intro rfl (True.intro)))))
        · refine xB_ldcw hF dX7_lay_70 kc_X7_322 ?_
          exact xB_ireturn hF dX7_lay_73 e
      · exact xB_l (t_X7_lay_c74 hF _ e) (And.intro rfl (And.intro rfl (And.intro rfl (And.intro rfl (True.intro)))))
def f_X7_lay_c38 (a1 : Int32) (a2 : Int32) (a3 : Int32) (h : xH) : Option (Int32 × xH) :=
    f_X7_lay_c39 a1 a2 a3 0 h
set_option maxRecDepth 20000 in
set_option maxHeartbeats 2000000 in
theorem t_X7_lay_c38 {l : Launch} {γ : xG} {a1 : Int32} {a2 : Int32} {a3 : Int32} {r : Int32} {hr : xH} {C : xCx} (hF : xF C cX7_lay RX7 7 2 γ xSM (some (.int r)) hr l (some .int)) : ∀ (h : xH), f_X7_lay_c38 a1 a2 a3 h = some (r, hr) → xB C h 38 [some (.ref (γ.2.2.2 0)), some (.int a1), some (.int a2), some (.int a3), none, none, none] [] := by
  intro h e
  unfold f_X7_lay_c38 at e
  refine xB_iconst hF dX7_lay_38 ki_0 ?_
  exact xB_l (t_X7_lay_c39 hF _ _ e) (And.intro rfl (And.intro rfl (And.intro rfl (And.intro rfl (True.intro)))))
def f_X7_lay_c34 (a1 : Int32) (a2 : Int32) (a3 : Int32) (h : xH) : Option (Int32 × xH) :=
    f_X7_lay_c39 a1 a2 a3 1 h
set_option maxRecDepth 20000 in
set_option maxHeartbeats 2000000 in
theorem t_X7_lay_c34 {l : Launch} {γ : xG} {a1 : Int32} {a2 : Int32} {a3 : Int32} {r : Int32} {hr : xH} {C : xCx} (hF : xF C cX7_lay RX7 7 2 γ xSM (some (.int r)) hr l (some .int)) : ∀ (h : xH), f_X7_lay_c34 a1 a2 a3 h = some (r, hr) → xB C h 34 [some (.ref (γ.2.2.2 0)), some (.int a1), some (.int a2), some (.int a3), none, none, none] [] := by
  intro h e
  unfold f_X7_lay_c34 at e
  refine xB_iconst hF dX7_lay_34 ki_1 ?_
  refine xB_goto (tgt := 39) hF dX7_lay_35 rfl ?_
  exact xB_l (t_X7_lay_c39 hF _ _ e) (And.intro rfl (And.intro rfl (And.intro rfl (And.intro rfl (True.intro)))))
def f_X7_lay_c22 (a1 : Int32) (a2 : Int32) (a3 : Int32) (h : xH) : Option (Int32 × xH) :=
    if a2 = 2 then (bn (f_X7_isSheet a3 h) fun r1 h2 => if r1 = 0 then (f_X7_lay_c38 a1 a2 a3 h2) else (f_X7_lay_c34 a1 a2 a3 h2)) else (f_X7_lay_c38 a1 a2 a3 h)
set_option maxRecDepth 20000 in
set_option maxHeartbeats 2000000 in
theorem t_X7_lay_c22 {l : Launch} {γ : xG} {a1 : Int32} {a2 : Int32} {a3 : Int32} {r : Int32} {hr : xH} {C : xCx} (hF : xF C cX7_lay RX7 7 2 γ xSM (some (.int r)) hr l (some .int)) : ∀ (h : xH), f_X7_lay_c22 a1 a2 a3 h = some (r, hr) → xB C h 22 [some (.ref (γ.2.2.2 0)), some (.int a1), some (.int a2), some (.int a3), none, none, none] [] := by
  intro h e
  unfold f_X7_lay_c22 at e
  refine xB_iload_n hF dX7_lay_22 rfl ?_
  refine xB_iconst hF dX7_lay_23 ki_2 ?_
  refine xB_icmp_ne (tgt := 38) hF dX7_lay_24 rfl e (fun _ e => ?_) (fun _ e => ?_)
  · refine xB_iload_n hF dX7_lay_27 rfl ?_
    obtain ⟨r1, h2, e3, e⟩ := bn_of e
    refine xB_callSi hF dX7_lay_28 (t_X7_isSheet e3) cw_X7_316 rfl rfl rfl rfl ?_
    refine xB_if_eq (tgt := 38) hF dX7_lay_31 rfl e (fun _ e => ?_) (fun _ e => ?_)
    · exact xB_l (t_X7_lay_c38 hF _ e) (And.intro rfl (And.intro rfl (And.intro rfl (And.intro rfl (True.intro)))))
    · exact xB_l (t_X7_lay_c34 hF _ e) (And.intro rfl (And.intro rfl (And.intro rfl (And.intro rfl (True.intro)))))
  · exact xB_l (t_X7_lay_c38 hF _ e) (And.intro rfl (And.intro rfl (And.intro rfl (And.intro rfl (True.intro)))))
def f_X7_lay (a1 : Int32) (a2 : Int32) (a3 : Int32) (h : xH) : Option (Int32 × xH) :=
    if a2 = 0 then (f_X7_lay_c34 a1 a2 a3 h) else (if a2 = 3 then (f_X7_lay_c34 a1 a2 a3 h) else (if a2 = 1 then (bn (f_X7_isDay a3 h) fun r1 h2 => if r1 = 0 then (f_X7_lay_c22 a1 a2 a3 h2) else (f_X7_lay_c34 a1 a2 a3 h2)) else (f_X7_lay_c22 a1 a2 a3 h)))
set_option maxRecDepth 20000 in
set_option maxHeartbeats 2000000 in
theorem t_X7_lay {l : Launch} {γ : xG} {a1 : Int32} {a2 : Int32} {a3 : Int32} {h : xH} {r : Int32} {hr : xH} (e : f_X7_lay a1 a2 a3 h = some (r, hr)) : xCT l γ xSM yX7_lay cX7_lay 7 (some .int) 2 [.ref (γ.2.2.2 0), .int a1, .int a2, .int a3] h (some (.int r)) hr := by
  refine xCT.of (own := RX7) (L := [some (.ref (γ.2.2.2 0)), some (.int a1), some (.int a2), some (.int a3), none, none, none]) (by decide) rfl rfl rfl (fun C hF => ?_)
  unfold f_X7_lay at e
  refine xB_iload_n hF dX7_lay_0 rfl ?_
  refine xB_if_eq (tgt := 34) hF dX7_lay_1 rfl e (fun _ e => ?_) (fun _ e => ?_)
  · exact xB_l (t_X7_lay_c34 hF _ e) (And.intro rfl (And.intro rfl (And.intro rfl (And.intro rfl (True.intro)))))
  · refine xB_iload_n hF dX7_lay_4 rfl ?_
    refine xB_iconst hF dX7_lay_5 ki_3 ?_
    refine xB_icmp_eq (tgt := 34) hF dX7_lay_6 rfl e (fun _ e => ?_) (fun _ e => ?_)
    · exact xB_l (t_X7_lay_c34 hF _ e) (And.intro rfl (And.intro rfl (And.intro rfl (And.intro rfl (True.intro)))))
    · refine xB_iload_n hF dX7_lay_9 rfl ?_
      refine xB_iconst hF dX7_lay_10 ki_1 ?_
      refine xB_icmp_ne (tgt := 22) hF dX7_lay_11 rfl e (fun _ e => ?_) (fun _ e => ?_)
      · refine xB_aload_n hF dX7_lay_14 rfl ?_
        refine xB_iload_n hF dX7_lay_15 rfl ?_
        obtain ⟨r1, h2, e3, e⟩ := bn_of e
        refine xB_callVi hF dX7_lay_16 (t_X7_isDay e3) cw_X7_117 sM_0 rfl rfl rfl rfl rfl ?_
        refine xB_if_ne (tgt := 34) hF dX7_lay_19 rfl e (fun _ e => ?_) (fun _ e => ?_)
        · exact xB_l (t_X7_lay_c22 hF _ e) (And.intro rfl (And.intro rfl (And.intro rfl (And.intro rfl (True.intro)))))
        · exact xB_l (t_X7_lay_c34 hF _ e) (And.intro rfl (And.intro rfl (And.intro rfl (And.intro rfl (True.intro)))))
      · exact xB_l (t_X7_lay_c22 hF _ e) (And.intro rfl (And.intro rfl (And.intro rfl (And.intro rfl (True.intro)))))
def f_X7_ask (a1 : Int32) (a2 : Int32) (h : xH) : Option (Int32 × xH) :=
    bn (f_X7_isSlot a1 h) fun r1 h2 => if r1 = 0 then (some ((-1000000001), h2)) else (bn (f_X7_isIn (Int32.toInt64 a2) 0 5 h2) fun r4 h5 => if r4 = 0 then (some ((-1000000001), h5)) else (gd a1 5 <| if (h5 7 (Int32.toNatClampNeg a1)) = 0 then (some ((-1000000011), h5)) else (gd a1 5 <| if (h5 7 (Int32.toNatClampNeg a1)) = 1 then (gd a1 5 <| bn (f_X7_isOf (h5 8 (Int32.toNatClampNeg a1)) a2 h5) fun r7 h8 => if r7 = 0 then (some ((-1000000012), h8)) else (gd a1 5 <| some (h8 9 (Int32.toNatClampNeg a1), h8))) else (some ((-1000000012), h5)))))
set_option maxRecDepth 20000 in
set_option maxHeartbeats 2000000 in
theorem t_X7_ask {l : Launch} {γ : xG} {a1 : Int32} {a2 : Int32} {h : xH} {r : Int32} {hr : xH} (e : f_X7_ask a1 a2 h = some (r, hr)) : xCT l γ xSM yX7_ask cX7_ask 3 (some .int) 2 [.ref (γ.2.2.2 0), .int a1, .int a2] h (some (.int r)) hr := by
  refine xCT.of (own := RX7) (L := [some (.ref (γ.2.2.2 0)), some (.int a1), some (.int a2)]) (by decide) rfl rfl rfl (fun C hF => ?_)
  unfold f_X7_ask at e
  refine xB_iload_n hF dX7_ask_0 rfl ?_
  obtain ⟨r1, h2, e3, e⟩ := bn_of e
  refine xB_callSi hF dX7_ask_1 (t_X7_isSlot e3) cw_X7_328 rfl rfl rfl rfl ?_
  refine xB_if_eq (tgt := 19) hF dX7_ask_4 rfl e (fun _ e => ?_) (fun _ e => ?_)
  · refine xB_ldc hF dX7_ask_19 kc_X7_87 ?_
    exact xB_ireturn hF dX7_ask_21 e
  · refine xB_iload_n hF dX7_ask_7 rfl ?_
    refine xB_i2l hF dX7_ask_8 ?_
    refine xB_lconst (v := 0) hF dX7_ask_9 (by decide) ?_
    refine xB_ldc2 hF dX7_ask_10 kc_X7_77 ?_
    obtain ⟨r4, h5, e6, e⟩ := bn_of e
    refine xB_callSi hF dX7_ask_13 (t_X7_isIn e6) cw_X7_68 rfl rfl rfl rfl ?_
    refine xB_if_ne (tgt := 22) hF dX7_ask_16 rfl e (fun _ e => ?_) (fun _ e => ?_)
    · refine xB_ldc hF dX7_ask_19 kc_X7_87 ?_
      exact xB_ireturn hF dX7_ask_21 e
    · refine xB_aload_n hF dX7_ask_22 rfl ?_
      refine xB_get hF dX7_ask_23 fl_X7_28 sM_0 rfl rfl ?_
      refine xB_iload_n hF dX7_ask_26 rfl ?_
      refine xB_iald hF dX7_ask_27 sM_7 e (fun e => ?_)
      refine xB_if_ne (tgt := 35) hF dX7_ask_28 rfl e (fun _ e => ?_) (fun _ e => ?_)
      · refine xB_ldcw hF dX7_ask_31 kc_X7_322 ?_
        exact xB_ireturn hF dX7_ask_34 e
      · refine xB_aload_n hF dX7_ask_35 rfl ?_
        refine xB_get hF dX7_ask_36 fl_X7_28 sM_0 rfl rfl ?_
        refine xB_iload_n hF dX7_ask_39 rfl ?_
        refine xB_iald hF dX7_ask_40 sM_7 e (fun e => ?_)
        refine xB_iconst hF dX7_ask_41 ki_1 ?_
        refine xB_icmp_ne (tgt := 67) hF dX7_ask_42 rfl e (fun _ e => ?_) (fun _ e => ?_)
        · refine xB_aload_n hF dX7_ask_45 rfl ?_
          refine xB_get hF dX7_ask_46 fl_X7_31 sM_0 rfl rfl ?_
          refine xB_iload_n hF dX7_ask_49 rfl ?_
          refine xB_iald hF dX7_ask_50 sM_8 e (fun e => ?_)
          refine xB_iload_n hF dX7_ask_51 rfl ?_
          obtain ⟨r7, h8, e9, e⟩ := bn_of e
          refine xB_callSi hF dX7_ask_52 (t_X7_isOf e9) cw_X7_125 rfl rfl rfl rfl ?_
          refine xB_if_eq (tgt := 67) hF dX7_ask_55 rfl e (fun _ e => ?_) (fun _ e => ?_)
          · refine xB_ldc hF dX7_ask_67 kc_X7_129 ?_
            exact xB_ireturn hF dX7_ask_69 e
          · refine xB_aload_n hF dX7_ask_58 rfl ?_
            refine xB_get hF dX7_ask_59 fl_X7_34 sM_0 rfl rfl ?_
            refine xB_iload_n hF dX7_ask_62 rfl ?_
            refine xB_iald hF dX7_ask_63 sM_9 e (fun e => ?_)
            refine xB_goto (tgt := 69) hF dX7_ask_64 rfl ?_
            exact xB_ireturn hF dX7_ask_69 e
        · refine xB_ldc hF dX7_ask_67 kc_X7_129 ?_
          exact xB_ireturn hF dX7_ask_69 e
def f_X7_item (a1 : Int32) (a2 : Int32) (h : xH) : Option (Int32 × xH) :=
    bn (f_X7_isSlot a1 h) fun r1 h2 => if r1 = 0 then (some ((-1000000001), h2)) else (gd a1 5 <| if (h2 7 (Int32.toNatClampNeg a1)) = 2 then (gd a1 5 <| bn (f_X7_isIn (Int32.toInt64 a2) 0 (Int32.toInt64 ((h2 10 (Int32.toNatClampNeg a1)) - 1)) h2) fun r4 h5 => if r4 = 0 then (some ((-1000000013), h5)) else (gd ((24 * a1) + a2) 120 <| nm (h5 11 (Int32.toNatClampNeg ((24 * a1) + a2))) fun x7 => if x7 = (-1000000005) then (some ((-1000000012), h5)) else (some (x7, h5)))) else (gd a1 5 <| if (h2 7 (Int32.toNatClampNeg a1)) = 0 then (some ((-1000000011), h2)) else (some ((-1000000012), h2))))
set_option maxRecDepth 20000 in
set_option maxHeartbeats 2000000 in
theorem t_X7_item {l : Launch} {γ : xG} {a1 : Int32} {a2 : Int32} {h : xH} {r : Int32} {hr : xH} (e : f_X7_item a1 a2 h = some (r, hr)) : xCT l γ xSM yX7_item cX7_item 4 (some .int) 2 [.ref (γ.2.2.2 0), .int a1, .int a2] h (some (.int r)) hr := by
  refine xCT.of (own := RX7) (L := [some (.ref (γ.2.2.2 0)), some (.int a1), some (.int a2), none]) (by decide) rfl rfl rfl (fun C hF => ?_)
  unfold f_X7_item at e
  refine xB_iload_n hF dX7_item_0 rfl ?_
  obtain ⟨r1, h2, e3, e⟩ := bn_of e
  refine xB_callSi hF dX7_item_1 (t_X7_isSlot e3) cw_X7_328 rfl rfl rfl rfl ?_
  refine xB_if_ne (tgt := 10) hF dX7_item_4 rfl e (fun _ e => ?_) (fun _ e => ?_)
  · refine xB_ldc hF dX7_item_7 kc_X7_87 ?_
    exact xB_ireturn hF dX7_item_9 e
  · refine xB_aload_n hF dX7_item_10 rfl ?_
    refine xB_get hF dX7_item_11 fl_X7_28 sM_0 rfl rfl ?_
    refine xB_iload_n hF dX7_item_14 rfl ?_
    refine xB_iald hF dX7_item_15 sM_7 e (fun e => ?_)
    refine xB_iconst hF dX7_item_16 ki_2 ?_
    refine xB_icmp_eq (tgt := 38) hF dX7_item_17 rfl e (fun _ e => ?_) (fun _ e => ?_)
    · refine xB_iload_n hF dX7_item_38 rfl ?_
      refine xB_i2l hF dX7_item_39 ?_
      refine xB_lconst (v := 0) hF dX7_item_40 (by decide) ?_
      refine xB_aload_n hF dX7_item_41 rfl ?_
      refine xB_get hF dX7_item_42 fl_X7_37 sM_0 rfl rfl ?_
      refine xB_iload_n hF dX7_item_45 rfl ?_
      refine xB_iald hF dX7_item_46 sM_10 e (fun e => ?_)
      refine xB_iconst hF dX7_item_47 ki_1 ?_
      refine xB_isub hF dX7_item_48 ?_
      refine xB_i2l hF dX7_item_49 ?_
      obtain ⟨r4, h5, e6, e⟩ := bn_of e
      refine xB_callSi hF dX7_item_50 (t_X7_isIn e6) cw_X7_68 rfl rfl rfl rfl ?_
      refine xB_if_ne (tgt := 60) hF dX7_item_53 rfl e (fun _ e => ?_) (fun _ e => ?_)
      · refine xB_ldcw hF dX7_item_56 kc_X7_323 ?_
        exact xB_ireturn hF dX7_item_59 e
      · refine xB_aload_n hF dX7_item_60 rfl ?_
        refine xB_get hF dX7_item_61 fl_X7_40 sM_0 rfl rfl ?_
        refine xB_bipush hF dX7_item_64 kb_24 ?_
        refine xB_iload_n hF dX7_item_66 rfl ?_
        refine xB_imul hF dX7_item_67 ?_
        refine xB_iload_n hF dX7_item_68 rfl ?_
        refine xB_iadd hF dX7_item_69 ?_
        refine xB_iald hF dX7_item_70 sM_11 e (fun e => ?_)
        refine xB_istore_n (L' := [_, _, _, _]) hF dX7_item_71 rfl rfl rfl ?_
        replace e := nm_of e
        refine xB_iload_n hF dX7_item_72 rfl ?_
        refine xB_ldc hF dX7_item_73 kc_X7_67 ?_
        refine xB_icmp_ne (tgt := 83) hF dX7_item_75 rfl e (fun _ e => ?_) (fun _ e => ?_)
        · refine xB_ldc hF dX7_item_78 kc_X7_129 ?_
          refine xB_goto (tgt := 84) hF dX7_item_80 rfl ?_
          exact xB_ireturn hF dX7_item_84 e
        · refine xB_iload_n hF dX7_item_83 rfl ?_
          exact xB_ireturn hF dX7_item_84 e
    · refine xB_aload_n hF dX7_item_20 rfl ?_
      refine xB_get hF dX7_item_21 fl_X7_28 sM_0 rfl rfl ?_
      refine xB_iload_n hF dX7_item_24 rfl ?_
      refine xB_iald hF dX7_item_25 sM_7 e (fun e => ?_)
      refine xB_if_ne (tgt := 35) hF dX7_item_26 rfl e (fun _ e => ?_) (fun _ e => ?_)
      · refine xB_ldcw hF dX7_item_29 kc_X7_322 ?_
        refine xB_goto (tgt := 37) hF dX7_item_32 rfl ?_
        exact xB_ireturn hF dX7_item_37 e
      · refine xB_ldc hF dX7_item_35 kc_X7_129 ?_
        exact xB_ireturn hF dX7_item_37 e
def f_X7_rest (a1 : Int32) (a2 : Int32) (h : xH) : Option (Int32 × xH) :=
    bn (f_X7_isSlot a1 h) fun r1 h2 => if r1 = 0 then (some ((-1000000001), h2)) else (gd a1 5 <| if (h2 7 (Int32.toNatClampNeg a1)) = 3 then (if a2 = 0 then (some ((-1000000002), h2)) else (gd a1 5 <| gz a2 <| some ((h2 8 (Int32.toNatClampNeg a1)) - (h2 8 (Int32.toNatClampNeg a1)) / a2 * a2, h2))) else (gd a1 5 <| if (h2 7 (Int32.toNatClampNeg a1)) = 0 then (some ((-1000000011), h2)) else (some ((-1000000012), h2))))
set_option maxRecDepth 20000 in
set_option maxHeartbeats 2000000 in
theorem t_X7_rest {l : Launch} {γ : xG} {a1 : Int32} {a2 : Int32} {h : xH} {r : Int32} {hr : xH} (e : f_X7_rest a1 a2 h = some (r, hr)) : xCT l γ xSM yX7_rest cX7_rest 3 (some .int) 2 [.ref (γ.2.2.2 0), .int a1, .int a2] h (some (.int r)) hr := by
  refine xCT.of (own := RX7) (L := [some (.ref (γ.2.2.2 0)), some (.int a1), some (.int a2)]) (by decide) rfl rfl rfl (fun C hF => ?_)
  unfold f_X7_rest at e
  refine xB_iload_n hF dX7_rest_0 rfl ?_
  obtain ⟨r1, h2, e3, e⟩ := bn_of e
  refine xB_callSi hF dX7_rest_1 (t_X7_isSlot e3) cw_X7_328 rfl rfl rfl rfl ?_
  refine xB_if_ne (tgt := 10) hF dX7_rest_4 rfl e (fun _ e => ?_) (fun _ e => ?_)
  · refine xB_ldc hF dX7_rest_7 kc_X7_87 ?_
    exact xB_ireturn hF dX7_rest_9 e
  · refine xB_aload_n hF dX7_rest_10 rfl ?_
    refine xB_get hF dX7_rest_11 fl_X7_28 sM_0 rfl rfl ?_
    refine xB_iload_n hF dX7_rest_14 rfl ?_
    refine xB_iald hF dX7_rest_15 sM_7 e (fun e => ?_)
    refine xB_iconst hF dX7_rest_16 ki_3 ?_
    refine xB_icmp_eq (tgt := 38) hF dX7_rest_17 rfl e (fun _ e => ?_) (fun _ e => ?_)
    · refine xB_iload_n hF dX7_rest_38 rfl ?_
      refine xB_if_ne (tgt := 47) hF dX7_rest_39 rfl e (fun _ e => ?_) (fun _ e => ?_)
      · refine xB_ldc hF dX7_rest_42 kc_X7_151 ?_
        refine xB_goto (tgt := 55) hF dX7_rest_44 rfl ?_
        exact xB_ireturn hF dX7_rest_55 e
      · refine xB_aload_n hF dX7_rest_47 rfl ?_
        refine xB_get hF dX7_rest_48 fl_X7_31 sM_0 rfl rfl ?_
        refine xB_iload_n hF dX7_rest_51 rfl ?_
        refine xB_iald hF dX7_rest_52 sM_8 e (fun e => ?_)
        refine xB_iload_n hF dX7_rest_53 rfl ?_
        refine xB_irem hF dX7_rest_54 e (fun e => ?_)
        exact xB_ireturn hF dX7_rest_55 e
    · refine xB_aload_n hF dX7_rest_20 rfl ?_
      refine xB_get hF dX7_rest_21 fl_X7_28 sM_0 rfl rfl ?_
      refine xB_iload_n hF dX7_rest_24 rfl ?_
      refine xB_iald hF dX7_rest_25 sM_7 e (fun e => ?_)
      refine xB_if_ne (tgt := 35) hF dX7_rest_26 rfl e (fun _ e => ?_) (fun _ e => ?_)
      · refine xB_ldcw hF dX7_rest_29 kc_X7_322 ?_
        refine xB_goto (tgt := 37) hF dX7_rest_32 rfl ?_
        exact xB_ireturn hF dX7_rest_37 e
      · refine xB_ldc hF dX7_rest_35 kc_X7_129 ?_
        exact xB_ireturn hF dX7_rest_37 e
def f_X7_tell (a1 : Int32) (h : xH) : Option (Int32 × xH) :=
    if (h 0 30) = 60 then (some ((-1000000003), h)) else (gd (h 0 30) 60 <| nm (xst h 18 (Int32.toNatClampNeg (h 0 30)) a1) fun h1 => nm (xst h1 0 30 ((h1 0 30) + 1)) fun h2 => some (h2 0 30, h2))
set_option maxRecDepth 20000 in
set_option maxHeartbeats 2000000 in
theorem t_X7_tell {l : Launch} {γ : xG} {a1 : Int32} {h : xH} {r : Int32} {hr : xH} (e : f_X7_tell a1 h = some (r, hr)) : xCT l γ xSM yX7_tell cX7_tell 2 (some .int) 0 [.ref (γ.2.2.2 0), .int a1] h (some (.int r)) hr := by
  refine xCT.of (own := RX7) (L := [some (.ref (γ.2.2.2 0)), some (.int a1)]) (by decide) rfl rfl rfl (fun C hF => ?_)
  unfold f_X7_tell at e
  refine xB_aload_n hF dX7_tell_0 rfl ?_
  refine xB_get hF dX7_tell_1 fl_X7_331 sM_0 rfl rfl ?_
  refine xB_bipush hF dX7_tell_4 kb_60 ?_
  refine xB_icmp_ne (tgt := 12) hF dX7_tell_6 rfl e (fun _ e => ?_) (fun _ e => ?_)
  · refine xB_ldc hF dX7_tell_9 kc_X7_88 ?_
    exact xB_ireturn hF dX7_tell_11 e
  · refine xB_aload_n hF dX7_tell_12 rfl ?_
    refine xB_get hF dX7_tell_13 fl_X7_61 sM_0 rfl rfl ?_
    refine xB_aload_n hF dX7_tell_16 rfl ?_
    refine xB_get hF dX7_tell_17 fl_X7_331 sM_0 rfl rfl ?_
    refine xB_iload_n hF dX7_tell_20 rfl ?_
    refine xB_iast hF dX7_tell_21 sM_18 e (fun e => ?_)
    refine xB_gen e (fun h1 e => ?_)
    refine xB_aload_n hF dX7_tell_22 rfl ?_
    refine xB_dup hF dX7_tell_23 rfl ?_
    refine xB_get hF dX7_tell_24 fl_X7_331 sM_0 rfl rfl ?_
    refine xB_iconst hF dX7_tell_27 ki_1 ?_
    refine xB_iadd hF dX7_tell_28 ?_
    refine xB_put hF dX7_tell_29 fp_X7_331 sM_0 rfl rfl rfl rfl rfl ?_
    refine xB_gen e (fun h2 e => ?_)
    refine xB_aload_n hF dX7_tell_32 rfl ?_
    refine xB_get hF dX7_tell_33 fl_X7_331 sM_0 rfl rfl ?_
    exact xB_ireturn hF dX7_tell_36 e
def f_X7_setAside_c2 (a1 : Nat) (n1 : Nat) (a2 : Nat) (n2 : Nat) : Nat → Int32 → xH → Option (Int32 × xH)
  | 0, _, _ => none
  | n + 1, v3, h =>
    if 2878 ≤ v3 then (some (0, h)) else (gd v3 n1 <| gd v3 n2 <| nm (xst h a2 (Int32.toNatClampNeg v3) (h a1 (Int32.toNatClampNeg v3))) fun h1 => f_X7_setAside_c2 a1 n1 a2 n2 n (v3 + 1) h1)
set_option maxRecDepth 20000 in
set_option maxHeartbeats 2000000 in
theorem t_X7_setAside_c2 {l : Launch} {γ : xG} {a1 : Nat} {n1 : Nat} {a2 : Nat} {n2 : Nat} {r : Int32} {hr : xH} {C : xCx} (hF : xF C cX7_setAside RX7 4 0 γ xSM none hr l none) (ha1 : xSM[a1]? = some (shA n1)) (ha2 : xSM[a2]? = some (shA n2)) : ∀ (n : Nat) (v3 : Int32) (h : xH), f_X7_setAside_c2 a1 n1 a2 n2 n v3 h = some (r, hr) → xB C h 2 [some (.ref (γ.2.2.2 0)), some (.ref (γ.2.2.2 a1)), some (.ref (γ.2.2.2 a2)), some (.int v3)] [] := by
  intro n
  induction n with
  | zero => intro v3 h e; cases e
  | succ n ih =>
    intro v3 h e
    rw [f_X7_setAside_c2] at e
    refine xB_iload_n hF dX7_setAside_2 rfl ?_
    refine xB_sipush hF dX7_setAside_3 ks_2878 ?_
    refine xB_icmp_ge (tgt := 21) hF dX7_setAside_6 rfl e (fun _ e => ?_) (fun _ e => ?_)
    · exact xB_vreturn hF dX7_setAside_21 e
    · refine xB_aload_n hF dX7_setAside_9 rfl ?_
      refine xB_iload_n hF dX7_setAside_10 rfl ?_
      refine xB_aload_n hF dX7_setAside_11 rfl ?_
      refine xB_iload_n hF dX7_setAside_12 rfl ?_
      refine xB_iald hF dX7_setAside_13 ha1 e (fun e => ?_)
      refine xB_iast hF dX7_setAside_14 ha2 e (fun e => ?_)
      refine xB_gen e (fun h1 e => ?_)
      refine xB_iinc (L' := [_, _, _, _]) hF dX7_setAside_15 rfl ki_1 rfl rfl rfl ?_
      refine xB_goto (tgt := 2) hF dX7_setAside_18 rfl ?_
      exact xB_l (ih _ _ e) (And.intro rfl (And.intro rfl (And.intro rfl (And.intro rfl (True.intro)))))
def f_X7_setAside (a1 : Nat) (n1 : Nat) (a2 : Nat) (n2 : Nat) (h : xH) : Option (Int32 × xH) :=
    f_X7_setAside_c2 a1 n1 a2 n2 xN 0 h
set_option maxRecDepth 20000 in
set_option maxHeartbeats 2000000 in
theorem t_X7_setAside {l : Launch} {γ : xG} {a1 : Nat} {n1 : Nat} {a2 : Nat} {n2 : Nat} {h : xH} {r : Int32} {hr : xH} (ha1 : xSM[a1]? = some (shA n1)) (ha2 : xSM[a2]? = some (shA n2)) (e : f_X7_setAside a1 n1 a2 n2 h = some (r, hr)) : xCT l γ xSM yX7_setAside cX7_setAside 4 none 0 [.ref (γ.2.2.2 0), .ref (γ.2.2.2 a1), .ref (γ.2.2.2 a2)] h none hr := by
  refine xCT.of (own := RX7) (L := [some (.ref (γ.2.2.2 0)), some (.ref (γ.2.2.2 a1)), some (.ref (γ.2.2.2 a2)), none]) (by decide) rfl rfl rfl (fun C hF => ?_)
  unfold f_X7_setAside at e
  refine xB_iconst hF dX7_setAside_0 ki_0 ?_
  refine xB_istore_n (L' := [_, _, _, _]) hF dX7_setAside_1 rfl rfl rfl ?_
  exact xB_l (t_X7_setAside_c2 hF ha1 ha2 _ _ _ e) (And.intro rfl (And.intro rfl (And.intro rfl (And.intro rfl (True.intro)))))
def f_X7_check_c169 (a1 : Int32) (v2 : Int32) (v3 : Int32) (v4 : Int32) (h : xH) : Option (Int32 × xH) :=
    if v4 = v2 then (if v4 = v3 then (some (0, h)) else (some (1 + v4, h))) else (some (1 + v4, h))
set_option maxRecDepth 20000 in
set_option maxHeartbeats 2000000 in
theorem t_X7_check_c169 {l : Launch} {γ : xG} {a1 : Int32} {r : Int32} {hr : xH} {C : xCx} (hF : xF C cX7_check RX7 5 7 γ xSM (some (.int r)) hr l (some .int)) : ∀ (v2 : Int32) (v3 : Int32) (v4 : Int32) (h : xH), f_X7_check_c169 a1 v2 v3 v4 h = some (r, hr) → xB C h 169 [some (.ref (γ.2.2.2 0)), some (.int a1), some (.int v2), some (.int v3), some (.int v4)] [] := by
  intro v2 v3 v4 h e
  unfold f_X7_check_c169 at e
  refine xB_iload hF dX7_check_169 rfl ?_
  refine xB_iload_n hF dX7_check_171 rfl ?_
  refine xB_icmp_ne (tgt := 185) hF dX7_check_172 rfl e (fun _ e => ?_) (fun _ e => ?_)
  · refine xB_iload hF dX7_check_175 rfl ?_
    refine xB_iload_n hF dX7_check_177 rfl ?_
    refine xB_icmp_ne (tgt := 185) hF dX7_check_178 rfl e (fun _ e => ?_) (fun _ e => ?_)
    · refine xB_iconst hF dX7_check_181 ki_0 ?_
      refine xB_goto (tgt := 189) hF dX7_check_182 rfl ?_
      exact xB_ireturn hF dX7_check_189 e
    · refine xB_iconst hF dX7_check_185 ki_1 ?_
      refine xB_iload hF dX7_check_186 rfl ?_
      refine xB_iadd hF dX7_check_188 ?_
      exact xB_ireturn hF dX7_check_189 e
  · refine xB_iconst hF dX7_check_185 ki_1 ?_
    refine xB_iload hF dX7_check_186 rfl ?_
    refine xB_iadd hF dX7_check_188 ?_
    exact xB_ireturn hF dX7_check_189 e
def f_X7_check_c134 (a1 : Int32) : Nat → Int32 → Int32 → Int32 → xH → Option (Int32 × xH)
  | 0, _, _, _, _ => none
  | n + 1, v2, v3, v4, h =>
    if v2 ≤ v4 then (f_X7_check_c169 a1 v2 v3 v4 h) else (if v3 ≤ v4 then (f_X7_check_c169 a1 v2 v3 v4 h) else (gd v4 60 <| gd v4 60 <| if (h 18 (Int32.toNatClampNeg v4)) = (h 19 (Int32.toNatClampNeg v4)) then (f_X7_check_c134 a1 n v2 v3 (v4 + 1) h) else (f_X7_check_c169 a1 v2 v3 v4 h)))
set_option maxRecDepth 20000 in
set_option maxHeartbeats 2000000 in
theorem t_X7_check_c134 {l : Launch} {γ : xG} {a1 : Int32} {r : Int32} {hr : xH} {C : xCx} (hF : xF C cX7_check RX7 5 7 γ xSM (some (.int r)) hr l (some .int)) : ∀ (n : Nat) (v2 : Int32) (v3 : Int32) (v4 : Int32) (h : xH), f_X7_check_c134 a1 n v2 v3 v4 h = some (r, hr) → xB C h 134 [some (.ref (γ.2.2.2 0)), some (.int a1), some (.int v2), some (.int v3), some (.int v4)] [] := by
  intro n
  induction n with
  | zero => intro v2 v3 v4 h e; cases e
  | succ n ih =>
    intro v2 v3 v4 h e
    rw [f_X7_check_c134] at e
    refine xB_iload hF dX7_check_134 rfl ?_
    refine xB_iload_n hF dX7_check_136 rfl ?_
    refine xB_icmp_ge (tgt := 169) hF dX7_check_137 rfl e (fun _ e => ?_) (fun _ e => ?_)
    · exact xB_l (t_X7_check_c169 hF _ _ _ _ e) (And.intro rfl (And.intro rfl (And.intro rfl (And.intro rfl (And.intro rfl (True.intro))))))
    · refine xB_iload hF dX7_check_140 rfl ?_
      refine xB_iload_n hF dX7_check_142 rfl ?_
      refine xB_icmp_ge (tgt := 169) hF dX7_check_143 rfl e (fun _ e => ?_) (fun _ e => ?_)
      · exact xB_l (t_X7_check_c169 hF _ _ _ _ e) (And.intro rfl (And.intro rfl (And.intro rfl (And.intro rfl (And.intro rfl (True.intro))))))
      · refine xB_aload_n hF dX7_check_146 rfl ?_
        refine xB_get hF dX7_check_147 fl_X7_61 sM_0 rfl rfl ?_
        refine xB_iload hF dX7_check_150 rfl ?_
        refine xB_iald hF dX7_check_152 sM_18 e (fun e => ?_)
        refine xB_aload_n hF dX7_check_153 rfl ?_
        refine xB_get hF dX7_check_154 fl_X7_64 sM_0 rfl rfl ?_
        refine xB_iload hF dX7_check_157 rfl ?_
        refine xB_iald hF dX7_check_159 sM_19 e (fun e => ?_)
        refine xB_icmp_ne (tgt := 169) hF dX7_check_160 rfl e (fun _ e => ?_) (fun _ e => ?_)
        · refine xB_iinc (L' := [_, _, _, _, _]) hF dX7_check_163 rfl ki_1 rfl rfl rfl ?_
          refine xB_goto (tgt := 134) hF dX7_check_166 rfl ?_
          exact xB_l (ih _ _ _ _ e) (And.intro rfl (And.intro rfl (And.intro rfl (And.intro rfl (And.intro rfl (True.intro))))))
        · exact xB_l (t_X7_check_c169 hF _ _ _ _ e) (And.intro rfl (And.intro rfl (And.intro rfl (And.intro rfl (And.intro rfl (True.intro))))))
def f_X7_check_c119 (a1 : Int32) (v2 : Int32) (v3 : Int32) (h : xH) : Option (Int32 × xH) :=
    bn (f_X7_setAside 3 3078 1 3078 h) fun r1 h2 => f_X7_check_c134 a1 xN v2 v3 0 h2
set_option maxRecDepth 20000 in
set_option maxHeartbeats 2000000 in
theorem t_X7_check_c119 {l : Launch} {γ : xG} {a1 : Int32} {r : Int32} {hr : xH} {C : xCx} (hF : xF C cX7_check RX7 5 7 γ xSM (some (.int r)) hr l (some .int)) : ∀ (v2 : Int32) (v3 : Int32) (h : xH), f_X7_check_c119 a1 v2 v3 h = some (r, hr) → xB C h 119 [some (.ref (γ.2.2.2 0)), some (.int a1), some (.int v2), some (.int v3), none] [] := by
  intro v2 v3 h e
  unfold f_X7_check_c119 at e
  refine xB_aload_n hF dX7_check_119 rfl ?_
  refine xB_aload_n hF dX7_check_120 rfl ?_
  refine xB_get hF dX7_check_121 fl_X7_16 sM_0 rfl rfl ?_
  refine xB_aload_n hF dX7_check_124 rfl ?_
  refine xB_get hF dX7_check_125 fl_X7_7 sM_0 rfl rfl ?_
  obtain ⟨r1, h2, e3, e⟩ := bn_of e
  refine xB_callVv hF dX7_check_128 (t_X7_setAside sM_3 sM_1 e3) cw_X7_340 sM_0 rfl rfl rfl rfl rfl ?_
  refine xB_iconst hF dX7_check_131 ki_0 ?_
  refine xB_istore (L' := [_, _, _, _, _]) hF dX7_check_132 rfl rfl rfl ?_
  exact xB_l (t_X7_check_c134 hF _ _ _ _ _ e) (And.intro rfl (And.intro rfl (And.intro rfl (And.intro rfl (And.intro rfl (True.intro))))))
def f_X7_check_c64 (a1 : Int32) : Nat → Int32 → Int32 → Int32 → xH → Option (Int32 × xH)
  | 0, _, _, _, _ => none
  | n + 1, v2, v3, v4, h =>
    if a1 ≤ v4 then (f_X7_check_c119 a1 v2 v3 h) else (gd 2 3078 <| if 9999 ≤ (h 1 (Int32.toNatClampNeg 2)) then (f_X7_check_c119 a1 v2 v3 h) else (bn (f_X7_goesOn h) fun r1 h2 => gd 3 3078 <| gd v3 60 <| nm (xst h2 19 (Int32.toNatClampNeg v3) (h2 1 (Int32.toNatClampNeg 3))) fun h4 => bn (f_X7_allWear h4) fun r5 h6 => gd (v3 + 1) 60 <| nm (xst h6 19 (Int32.toNatClampNeg (v3 + 1)) r5) fun h8 => f_X7_check_c64 a1 n v2 (v3 + 2) (v4 + 1) h8))
set_option maxRecDepth 20000 in
set_option maxHeartbeats 2000000 in
theorem t_X7_check_c64 {l : Launch} {γ : xG} {a1 : Int32} {r : Int32} {hr : xH} {C : xCx} (hF : xF C cX7_check RX7 5 7 γ xSM (some (.int r)) hr l (some .int)) : ∀ (n : Nat) (v2 : Int32) (v3 : Int32) (v4 : Int32) (h : xH), f_X7_check_c64 a1 n v2 v3 v4 h = some (r, hr) → xB C h 64 [some (.ref (γ.2.2.2 0)), some (.int a1), some (.int v2), some (.int v3), some (.int v4)] [] := by
  intro n
  induction n with
  | zero => intro v2 v3 v4 h e; cases e
  | succ n ih =>
    intro v2 v3 v4 h e
    rw [f_X7_check_c64] at e
    refine xB_iload hF dX7_check_64 rfl ?_
    refine xB_iload_n hF dX7_check_66 rfl ?_
    refine xB_icmp_ge (tgt := 119) hF dX7_check_67 rfl e (fun _ e => ?_) (fun _ e => ?_)
    · exact xB_l (t_X7_check_c119 hF _ _ _ e) (And.intro rfl (And.intro rfl (And.intro rfl (And.intro rfl (True.intro)))))
    · refine xB_aload_n hF dX7_check_70 rfl ?_
      refine xB_get hF dX7_check_71 fl_X7_7 sM_0 rfl rfl ?_
      refine xB_iconst hF dX7_check_74 ki_2 ?_
      refine xB_iald hF dX7_check_75 sM_1 e (fun e => ?_)
      refine xB_sipush hF dX7_check_76 ks_9999 ?_
      refine xB_icmp_ge (tgt := 119) hF dX7_check_79 rfl e (fun _ e => ?_) (fun _ e => ?_)
      · exact xB_l (t_X7_check_c119 hF _ _ _ e) (And.intro rfl (And.intro rfl (And.intro rfl (And.intro rfl (True.intro)))))
      · refine xB_aload_n hF dX7_check_82 rfl ?_
        obtain ⟨r1, h2, e3, e⟩ := bn_of e
        refine xB_callVv hF dX7_check_83 (t_X7_goesOn e3) cw_X7_163 sM_0 rfl rfl rfl rfl rfl ?_
        refine xB_aload_n hF dX7_check_86 rfl ?_
        refine xB_get hF dX7_check_87 fl_X7_64 sM_0 rfl rfl ?_
        refine xB_iload_n hF dX7_check_90 rfl ?_
        refine xB_aload_n hF dX7_check_91 rfl ?_
        refine xB_get hF dX7_check_92 fl_X7_7 sM_0 rfl rfl ?_
        refine xB_iconst hF dX7_check_95 ki_3 ?_
        refine xB_iald hF dX7_check_96 sM_1 e (fun e => ?_)
        refine xB_iast hF dX7_check_97 sM_19 e (fun e => ?_)
        refine xB_gen e (fun h4 e => ?_)
        refine xB_aload_n hF dX7_check_98 rfl ?_
        refine xB_get hF dX7_check_99 fl_X7_64 sM_0 rfl rfl ?_
        refine xB_iload_n hF dX7_check_102 rfl ?_
        refine xB_iconst hF dX7_check_103 ki_1 ?_
        refine xB_iadd hF dX7_check_104 ?_
        refine xB_aload_n hF dX7_check_105 rfl ?_
        obtain ⟨r5, h6, e7, e⟩ := bn_of e
        refine xB_callVi hF dX7_check_106 (t_X7_allWear e7) cw_X7_344 sM_0 rfl rfl rfl rfl rfl ?_
        refine xB_iast hF dX7_check_109 sM_19 e (fun e => ?_)
        refine xB_gen e (fun h8 e => ?_)
        refine xB_iinc (L' := [_, _, _, _, _]) hF dX7_check_110 rfl ki_2 rfl rfl rfl ?_
        refine xB_iinc (L' := [_, _, _, _, _]) hF dX7_check_113 rfl ki_1 rfl rfl rfl ?_
        refine xB_goto (tgt := 64) hF dX7_check_116 rfl ?_
        exact xB_l (ih _ _ _ _ e) (And.intro rfl (And.intro rfl (And.intro rfl (And.intro rfl (And.intro rfl (True.intro))))))
def f_X7_check (a1 : Int32) (h : xH) : Option (Int32 × xH) :=
    nm (xst h 0 30 0) fun h1 => bn (f_X7_isIn (Int32.toInt64 a1) 1 30 h1) fun r2 h3 => if r2 = 0 then (some ((-1000000001), h3)) else (if (h3 0 3) = 0 then (some ((-1000000002), h3)) else (bn (f_X7_setAside 1 3078 3 3078 h3) fun r5 h6 => bn (f_X7_setAside 2 3078 1 3078 h6) fun r8 h9 => f_X7_check_c64 a1 xN (h 0 30) 0 0 h9))
set_option maxRecDepth 20000 in
set_option maxHeartbeats 2000000 in
theorem t_X7_check {l : Launch} {γ : xG} {a1 : Int32} {h : xH} {r : Int32} {hr : xH} (e : f_X7_check a1 h = some (r, hr)) : xCT l γ xSM yX7_check cX7_check 5 (some .int) 7 [.ref (γ.2.2.2 0), .int a1] h (some (.int r)) hr := by
  refine xCT.of (own := RX7) (L := [some (.ref (γ.2.2.2 0)), some (.int a1), none, none, none]) (by decide) rfl rfl rfl (fun C hF => ?_)
  unfold f_X7_check at e
  refine xB_aload_n hF dX7_check_0 rfl ?_
  refine xB_get hF dX7_check_1 fl_X7_331 sM_0 rfl rfl ?_
  refine xB_istore_n (L' := [_, _, _, _, _]) hF dX7_check_4 rfl rfl rfl ?_
  refine xB_aload_n hF dX7_check_5 rfl ?_
  refine xB_iconst hF dX7_check_6 ki_0 ?_
  refine xB_put hF dX7_check_7 fp_X7_331 sM_0 rfl rfl rfl rfl rfl ?_
  refine xB_gen e (fun h1 e => ?_)
  refine xB_iload_n hF dX7_check_10 rfl ?_
  refine xB_i2l hF dX7_check_11 ?_
  refine xB_lconst (v := 1) hF dX7_check_12 (by decide) ?_
  refine xB_ldc2 hF dX7_check_13 kc_X7_334 ?_
  obtain ⟨r2, h3, e4, e⟩ := bn_of e
  refine xB_callSi hF dX7_check_16 (t_X7_isIn e4) cw_X7_68 rfl rfl rfl rfl ?_
  refine xB_if_ne (tgt := 25) hF dX7_check_19 rfl e (fun _ e => ?_) (fun _ e => ?_)
  · refine xB_ldc hF dX7_check_22 kc_X7_87 ?_
    exact xB_ireturn hF dX7_check_24 e
  · refine xB_aload_n hF dX7_check_25 rfl ?_
    refine xB_get hF dX7_check_26 fl_X7_336 sM_0 rfl rfl ?_
    refine xB_if_ne (tgt := 35) hF dX7_check_29 rfl e (fun _ e => ?_) (fun _ e => ?_)
    · refine xB_ldc hF dX7_check_32 kc_X7_151 ?_
      exact xB_ireturn hF dX7_check_34 e
    · refine xB_aload_n hF dX7_check_35 rfl ?_
      refine xB_aload_n hF dX7_check_36 rfl ?_
      refine xB_get hF dX7_check_37 fl_X7_7 sM_0 rfl rfl ?_
      refine xB_aload_n hF dX7_check_40 rfl ?_
      refine xB_get hF dX7_check_41 fl_X7_16 sM_0 rfl rfl ?_
      obtain ⟨r5, h6, e7, e⟩ := bn_of e
      refine xB_callVv hF dX7_check_44 (t_X7_setAside sM_1 sM_3 e7) cw_X7_340 sM_0 rfl rfl rfl rfl rfl ?_
      refine xB_aload_n hF dX7_check_47 rfl ?_
      refine xB_aload_n hF dX7_check_48 rfl ?_
      refine xB_get hF dX7_check_49 fl_X7_13 sM_0 rfl rfl ?_
      refine xB_aload_n hF dX7_check_52 rfl ?_
      refine xB_get hF dX7_check_53 fl_X7_7 sM_0 rfl rfl ?_
      obtain ⟨r8, h9, e10, e⟩ := bn_of e
      refine xB_callVv hF dX7_check_56 (t_X7_setAside sM_2 sM_1 e10) cw_X7_340 sM_0 rfl rfl rfl rfl rfl ?_
      refine xB_iconst hF dX7_check_59 ki_0 ?_
      refine xB_istore_n (L' := [_, _, _, _, _]) hF dX7_check_60 rfl rfl rfl ?_
      refine xB_iconst hF dX7_check_61 ki_0 ?_
      refine xB_istore (L' := [_, _, _, _, _]) hF dX7_check_62 rfl rfl rfl ?_
      exact xB_l (t_X7_check_c64 hF _ _ _ _ _ e) (And.intro rfl (And.intro rfl (And.intro rfl (And.intro rfl (And.intro rfl (True.intro))))))
def f_X7_keep (h : xH) : Option (Int32 × xH) :=
    nm (xst h 0 3 1) fun h1 => bn (f_X7_setAside 1 3078 2 3078 h1) fun r2 h3 => gd 0 3078 <| some (h3 1 (Int32.toNatClampNeg 0), h3)
set_option maxRecDepth 20000 in
set_option maxHeartbeats 2000000 in
theorem t_X7_keep {l : Launch} {γ : xG} {h : xH} {r : Int32} {hr : xH} (e : f_X7_keep h = some (r, hr)) : xCT l γ xSM yX7_keep cX7_keep 1 (some .int) 1 [.ref (γ.2.2.2 0)] h (some (.int r)) hr := by
  refine xCT.of (own := RX7) (L := [some (.ref (γ.2.2.2 0))]) (by decide) rfl rfl rfl (fun C hF => ?_)
  unfold f_X7_keep at e
  refine xB_aload_n hF dX7_keep_0 rfl ?_
  refine xB_iconst hF dX7_keep_1 ki_1 ?_
  refine xB_put hF dX7_keep_2 fp_X7_336 sM_0 rfl rfl rfl rfl rfl ?_
  refine xB_gen e (fun h1 e => ?_)
  refine xB_aload_n hF dX7_keep_5 rfl ?_
  refine xB_aload_n hF dX7_keep_6 rfl ?_
  refine xB_get hF dX7_keep_7 fl_X7_7 sM_0 rfl rfl ?_
  refine xB_aload_n hF dX7_keep_10 rfl ?_
  refine xB_get hF dX7_keep_11 fl_X7_13 sM_0 rfl rfl ?_
  obtain ⟨r2, h3, e4, e⟩ := bn_of e
  refine xB_callVv hF dX7_keep_14 (t_X7_setAside sM_1 sM_2 e4) cw_X7_340 sM_0 rfl rfl rfl rfl rfl ?_
  refine xB_aload_n hF dX7_keep_17 rfl ?_
  refine xB_get hF dX7_keep_18 fl_X7_7 sM_0 rfl rfl ?_
  refine xB_iconst hF dX7_keep_21 ki_0 ?_
  refine xB_iald hF dX7_keep_22 sM_1 e (fun e => ?_)
  exact xB_ireturn hF dX7_keep_23 e
def f_X7_back (h : xH) : Option (Int32 × xH) :=
    if (h 0 3) = 0 then (some ((-1000000002), h)) else (bn (f_X7_setAside 2 3078 1 3078 h) fun r1 h2 => gd 0 3078 <| some (h2 1 (Int32.toNatClampNeg 0), h2))
set_option maxRecDepth 20000 in
set_option maxHeartbeats 2000000 in
theorem t_X7_back {l : Launch} {γ : xG} {h : xH} {r : Int32} {hr : xH} (e : f_X7_back h = some (r, hr)) : xCT l γ xSM yX7_back cX7_back 1 (some .int) 1 [.ref (γ.2.2.2 0)] h (some (.int r)) hr := by
  refine xCT.of (own := RX7) (L := [some (.ref (γ.2.2.2 0))]) (by decide) rfl rfl rfl (fun C hF => ?_)
  unfold f_X7_back at e
  refine xB_aload_n hF dX7_back_0 rfl ?_
  refine xB_get hF dX7_back_1 fl_X7_336 sM_0 rfl rfl ?_
  refine xB_if_ne (tgt := 10) hF dX7_back_4 rfl e (fun _ e => ?_) (fun _ e => ?_)
  · refine xB_ldc hF dX7_back_7 kc_X7_151 ?_
    exact xB_ireturn hF dX7_back_9 e
  · refine xB_aload_n hF dX7_back_10 rfl ?_
    refine xB_aload_n hF dX7_back_11 rfl ?_
    refine xB_get hF dX7_back_12 fl_X7_13 sM_0 rfl rfl ?_
    refine xB_aload_n hF dX7_back_15 rfl ?_
    refine xB_get hF dX7_back_16 fl_X7_7 sM_0 rfl rfl ?_
    obtain ⟨r1, h2, e3, e⟩ := bn_of e
    refine xB_callVv hF dX7_back_19 (t_X7_setAside sM_2 sM_1 e3) cw_X7_340 sM_0 rfl rfl rfl rfl rfl ?_
    refine xB_aload_n hF dX7_back_22 rfl ?_
    refine xB_get hF dX7_back_23 fl_X7_7 sM_0 rfl rfl ?_
    refine xB_iconst hF dX7_back_26 ki_0 ?_
    refine xB_iald hF dX7_back_27 sM_1 e (fun e => ?_)
    exact xB_ireturn hF dX7_back_28 e
def f_X7_count (a1 : Int32) (h : xH) : Option (Int32 × xH) :=
    if a1 = 0 then (gd 0 3078 <| some (h 1 (Int32.toNatClampNeg 0), h)) else (if a1 = 1 then (gd 2 3078 <| some (h 1 (Int32.toNatClampNeg 2), h)) else (if a1 = 2 then (bn (f_X7_allWear h) fun r1 h2 => some (r1, h2)) else (if a1 = 3 then (bn (f_X7_allValues h) fun r4 h5 => some (r4, h5)) else (if a1 = 4 then (gd 1 3078 <| some (h 1 (Int32.toNatClampNeg 1), h)) else (if a1 = 5 then (some (h 0 30, h)) else (if a1 = 6 then (some (h 0 15, h)) else (if a1 = 7 then (gd 5 3078 <| some (h 1 (Int32.toNatClampNeg 5), h)) else (some ((-1000000001), h)))))))))
set_option maxRecDepth 20000 in
set_option maxHeartbeats 2000000 in
theorem t_X7_count {l : Launch} {γ : xG} {a1 : Int32} {h : xH} {r : Int32} {hr : xH} (e : f_X7_count a1 h = some (r, hr)) : xCT l γ xSM yX7_count cX7_count 2 (some .int) 5 [.ref (γ.2.2.2 0), .int a1] h (some (.int r)) hr := by
  refine xCT.of (own := RX7) (L := [some (.ref (γ.2.2.2 0)), some (.int a1)]) (by decide) rfl rfl rfl (fun C hF => ?_)
  unfold f_X7_count at e
  refine xB_iload_n hF dX7_count_0 rfl ?_
  rcases if_of e with ⟨c0, e⟩ | ⟨c0, e⟩
  · refine xB_tableIn (v := (0)) (tgt := 48) hF dX7_count_1 c0 (by decide) (by decide) rfl rfl ?_
    refine xB_aload_n hF dX7_count_48 rfl ?_
    refine xB_get hF dX7_count_49 fl_X7_7 sM_0 rfl rfl ?_
    refine xB_iconst hF dX7_count_52 ki_0 ?_
    refine xB_iald hF dX7_count_53 sM_1 e (fun e => ?_)
    exact xB_ireturn hF dX7_count_54 e
  rcases if_of e with ⟨c1, e⟩ | ⟨c1, e⟩
  · refine xB_tableIn (v := (1)) (tgt := 55) hF dX7_count_1 c1 (by decide) (by decide) rfl rfl ?_
    refine xB_aload_n hF dX7_count_55 rfl ?_
    refine xB_get hF dX7_count_56 fl_X7_7 sM_0 rfl rfl ?_
    refine xB_iconst hF dX7_count_59 ki_2 ?_
    refine xB_iald hF dX7_count_60 sM_1 e (fun e => ?_)
    exact xB_ireturn hF dX7_count_61 e
  rcases if_of e with ⟨c2, e⟩ | ⟨c2, e⟩
  · refine xB_tableIn (v := (2)) (tgt := 62) hF dX7_count_1 c2 (by decide) (by decide) rfl rfl ?_
    refine xB_aload_n hF dX7_count_62 rfl ?_
    obtain ⟨r1, h2, e3, e⟩ := bn_of e
    refine xB_callVi hF dX7_count_63 (t_X7_allWear e3) cw_X7_344 sM_0 rfl rfl rfl rfl rfl ?_
    exact xB_ireturn hF dX7_count_66 e
  rcases if_of e with ⟨c3, e⟩ | ⟨c3, e⟩
  · refine xB_tableIn (v := (3)) (tgt := 67) hF dX7_count_1 c3 (by decide) (by decide) rfl rfl ?_
    refine xB_aload_n hF dX7_count_67 rfl ?_
    obtain ⟨r4, h5, e6, e⟩ := bn_of e
    refine xB_callVi hF dX7_count_68 (t_X7_allValues e6) cw_X7_208 sM_0 rfl rfl rfl rfl rfl ?_
    exact xB_ireturn hF dX7_count_71 e
  rcases if_of e with ⟨c4, e⟩ | ⟨c4, e⟩
  · refine xB_tableIn (v := (4)) (tgt := 72) hF dX7_count_1 c4 (by decide) (by decide) rfl rfl ?_
    refine xB_aload_n hF dX7_count_72 rfl ?_
    refine xB_get hF dX7_count_73 fl_X7_7 sM_0 rfl rfl ?_
    refine xB_iconst hF dX7_count_76 ki_1 ?_
    refine xB_iald hF dX7_count_77 sM_1 e (fun e => ?_)
    exact xB_ireturn hF dX7_count_78 e
  rcases if_of e with ⟨c5, e⟩ | ⟨c5, e⟩
  · refine xB_tableIn (v := (5)) (tgt := 79) hF dX7_count_1 c5 (by decide) (by decide) rfl rfl ?_
    refine xB_aload_n hF dX7_count_79 rfl ?_
    refine xB_get hF dX7_count_80 fl_X7_331 sM_0 rfl rfl ?_
    exact xB_ireturn hF dX7_count_83 e
  rcases if_of e with ⟨c6, e⟩ | ⟨c6, e⟩
  · refine xB_tableIn (v := (6)) (tgt := 84) hF dX7_count_1 c6 (by decide) (by decide) rfl rfl ?_
    refine xB_aload_n hF dX7_count_84 rfl ?_
    refine xB_get hF dX7_count_85 fl_X7_213 sM_0 rfl rfl ?_
    exact xB_ireturn hF dX7_count_88 e
  rcases if_of e with ⟨c7, e⟩ | ⟨c7, e⟩
  · refine xB_tableIn (v := (7)) (tgt := 89) hF dX7_count_1 c7 (by decide) (by decide) rfl rfl ?_
    refine xB_aload_n hF dX7_count_89 rfl ?_
    refine xB_get hF dX7_count_90 fl_X7_7 sM_0 rfl rfl ?_
    refine xB_iconst hF dX7_count_93 ki_5 ?_
    refine xB_iald hF dX7_count_94 sM_1 e (fun e => ?_)
    exact xB_ireturn hF dX7_count_95 e
  refine xB_tableOut (tgt := 96) hF dX7_count_1 (by have := xne (v := (0)) (n := 0) rfl c0; have := xne (v := (1)) (n := 1) rfl c1; have := xne (v := (2)) (n := 2) rfl c2; have := xne (v := (3)) (n := 3) rfl c3; have := xne (v := (4)) (n := 4) rfl c4; have := xne (v := (5)) (n := 5) rfl c5; have := xne (v := (6)) (n := 6) rfl c6; have := xne (v := (7)) (n := 7) rfl c7; omega) rfl ?_
  refine xB_ldc hF dX7_count_96 kc_X7_87 ?_
  exact xB_ireturn hF dX7_count_98 e
