def recX7 (l : Launch) (γ : xG) (self : xRec) (n9 : Nat) : Prop := (∀ (a1 : Int32) (h : xH) (r : Int32) (hr : xH), self 0 a1 0 0 h = some (r, hr) → xCT l γ xSM yX7_either cX7_either 2 (some .boolean) n9 [.ref (γ.2.2.2 0), .int a1] h (some (.int r)) hr) ∧ (∀ (a1 : Int32) (h : xH) (r : Int32) (hr : xH), self 1 a1 0 0 h = some (r, hr) → xCT l γ xSM yX7_both cX7_both 2 (some .boolean) n9 [.ref (γ.2.2.2 0), .int a1] h (some (.int r)) hr) ∧ (∀ (a1 : Int32) (h : xH) (r : Int32) (hr : xH), self 2 a1 0 0 h = some (r, hr) → xCT l γ xSM yX7_test cX7_test 3 (some .boolean) n9 [.ref (γ.2.2.2 0), .int a1] h (some (.int r)) hr) ∧ (∀ (a1 : Int32) (h : xH) (r : Int32) (hr : xH), self 3 a1 0 0 h = some (r, hr) → xCT l γ xSM yX7_sum cX7_sum 3 (some .boolean) n9 [.ref (γ.2.2.2 0), .int a1] h (some (.int r)) hr) ∧ (∀ (a1 : Int32) (h : xH) (r : Int32) (hr : xH), self 4 a1 0 0 h = some (r, hr) → xCT l γ xSM yX7_term cX7_term 3 (some .boolean) n9 [.ref (γ.2.2.2 0), .int a1] h (some (.int r)) hr) ∧ (∀ (a1 : Int32) (h : xH) (r : Int32) (hr : xH), self 5 a1 0 0 h = some (r, hr) → xCT l γ xSM yX7_part0 cX7_part0 2 (some .boolean) n9 [.ref (γ.2.2.2 0), .int a1] h (some (.int r)) hr)
def f_X7_either_b_c10 (self : xRec) (a1 : Int32) : Nat → xH → Option (Int32 × xH)
  | 0, _ => none
  | n + 1, h =>
    bn (f_X7_isSign 124 h) fun r1 h2 => if r1 = 0 then (some (1, h2)) else (bn (f_X7_nextToken h2) fun r4 h5 => bn (self 1 a1 0 0 h5) fun r7 h8 => if r7 = 0 then (some (0, h8)) else (bn (f_X7_step 2 124 h8) fun r10 h11 => f_X7_either_b_c10 self a1 n h11))
set_option maxRecDepth 20000 in
set_option maxHeartbeats 2000000 in
theorem t_X7_either_b_c10 {l : Launch} {γ : xG} {self : xRec} {n9 : Nat} {a1 : Int32} {r : Int32} {hr : xH} {C : xCx} (hF : xF C cX7_either RX7 2 (n9 + 1) γ xSM (some (.int r)) hr l (some .boolean)) (ihs : recX7 l γ self n9) (hn9 : 8 ≤ n9) : ∀ (n : Nat) (h : xH), f_X7_either_b_c10 self a1 n h = some (r, hr) → xB C h 10 [some (.ref (γ.2.2.2 0)), some (.int a1)] [] := by
  intro n
  induction n with
  | zero => intro h e; cases e
  | succ n ih =>
    intro h e
    rw [f_X7_either_b_c10] at e
    refine xB_aload_n hF dX7_either_10 rfl ?_
    refine xB_bipush hF dX7_either_11 kb_124 ?_
    obtain ⟨r1, h2, e3, e⟩ := bn_of e
    refine xB_callVi hF dX7_either_13 (t_X7_isSign e3) cw_X7_263 sM_0 rfl (xht hn9 rfl) rfl rfl rfl ?_
    refine xB_if_eq (tgt := 43) hF dX7_either_16 rfl e (fun _ e => ?_) (fun _ e => ?_)
    · refine xB_iconst hF dX7_either_43 ki_1 ?_
      exact xB_zreturn hF dX7_either_44 rfl e
    · refine xB_aload_n hF dX7_either_19 rfl ?_
      obtain ⟨r4, h5, e6, e⟩ := bn_of e
      refine xB_callVv hF dX7_either_20 (t_X7_nextToken e6) cw_X7_266 sM_0 rfl (xht hn9 rfl) rfl rfl rfl ?_
      refine xB_aload_n hF dX7_either_23 rfl ?_
      refine xB_iload_n hF dX7_either_24 rfl ?_
      obtain ⟨r7, h8, e9, e⟩ := bn_of e
      refine xB_callVi hF dX7_either_25 (ihs.2.1 _ _ _ _ e9) cw_X7_260 sM_0 rfl (Nat.ble_eq_true_of_le (Nat.le_refl _)) rfl rfl rfl ?_
      refine xB_if_ne (tgt := 33) hF dX7_either_28 rfl e (fun _ e => ?_) (fun _ e => ?_)
      · refine xB_iconst hF dX7_either_31 ki_0 ?_
        exact xB_zreturn hF dX7_either_32 rfl e
      · refine xB_aload_n hF dX7_either_33 rfl ?_
        refine xB_iconst hF dX7_either_34 ki_2 ?_
        refine xB_bipush hF dX7_either_35 kb_124 ?_
        obtain ⟨r10, h11, e12, e⟩ := bn_of e
        refine xB_callVv hF dX7_either_37 (t_X7_step e12) cw_X7_269 sM_0 rfl (xht hn9 rfl) rfl rfl rfl ?_
        refine xB_goto (tgt := 10) hF dX7_either_40 rfl ?_
        exact xB_l (ih _ e) (And.intro rfl (And.intro rfl (True.intro)))
def f_X7_either_b (self : xRec) (a1 : Int32) (h : xH) : Option (Int32 × xH) :=
    bn (self 1 a1 0 0 h) fun r1 h2 => if r1 = 0 then (some (0, h2)) else (f_X7_either_b_c10 self a1 xN h2)
set_option maxRecDepth 20000 in
set_option maxHeartbeats 2000000 in
theorem t_X7_either_b {l : Launch} {γ : xG} {self : xRec} {n9 : Nat} {a1 : Int32} {h : xH} {r : Int32} {hr : xH} (ihs : recX7 l γ self n9) (hn9 : 8 ≤ n9) (e : f_X7_either_b self a1 h = some (r, hr)) : xCT l γ xSM yX7_either cX7_either 2 (some .boolean) (n9 + 1) [.ref (γ.2.2.2 0), .int a1] h (some (.int r)) hr := by
  refine xCT.of (own := RX7) (L := [some (.ref (γ.2.2.2 0)), some (.int a1)]) (by decide) rfl rfl rfl (fun C hF => ?_)
  unfold f_X7_either_b at e
  refine xB_aload_n hF dX7_either_0 rfl ?_
  refine xB_iload_n hF dX7_either_1 rfl ?_
  obtain ⟨r1, h2, e3, e⟩ := bn_of e
  refine xB_callVi hF dX7_either_2 (ihs.2.1 _ _ _ _ e3) cw_X7_260 sM_0 rfl (Nat.ble_eq_true_of_le (Nat.le_refl _)) rfl rfl rfl ?_
  refine xB_if_ne (tgt := 10) hF dX7_either_5 rfl e (fun _ e => ?_) (fun _ e => ?_)
  · refine xB_iconst hF dX7_either_8 ki_0 ?_
    exact xB_zreturn hF dX7_either_9 rfl e
  · exact xB_l (t_X7_either_b_c10 hF ihs hn9 _ _ e) (And.intro rfl (And.intro rfl (True.intro)))
def f_X7_both_b_c10 (self : xRec) (a1 : Int32) : Nat → xH → Option (Int32 × xH)
  | 0, _ => none
  | n + 1, h =>
    bn (f_X7_isSign 38 h) fun r1 h2 => if r1 = 0 then (some (1, h2)) else (bn (f_X7_nextToken h2) fun r4 h5 => bn (self 2 a1 0 0 h5) fun r7 h8 => if r7 = 0 then (some (0, h8)) else (bn (f_X7_step 2 38 h8) fun r10 h11 => f_X7_both_b_c10 self a1 n h11))
set_option maxRecDepth 20000 in
set_option maxHeartbeats 2000000 in
theorem t_X7_both_b_c10 {l : Launch} {γ : xG} {self : xRec} {n9 : Nat} {a1 : Int32} {r : Int32} {hr : xH} {C : xCx} (hF : xF C cX7_both RX7 2 (n9 + 1) γ xSM (some (.int r)) hr l (some .boolean)) (ihs : recX7 l γ self n9) (hn9 : 8 ≤ n9) : ∀ (n : Nat) (h : xH), f_X7_both_b_c10 self a1 n h = some (r, hr) → xB C h 10 [some (.ref (γ.2.2.2 0)), some (.int a1)] [] := by
  intro n
  induction n with
  | zero => intro h e; cases e
  | succ n ih =>
    intro h e
    rw [f_X7_both_b_c10] at e
    refine xB_aload_n hF dX7_both_10 rfl ?_
    refine xB_bipush hF dX7_both_11 kb_38 ?_
    obtain ⟨r1, h2, e3, e⟩ := bn_of e
    refine xB_callVi hF dX7_both_13 (t_X7_isSign e3) cw_X7_263 sM_0 rfl (xht hn9 rfl) rfl rfl rfl ?_
    refine xB_if_eq (tgt := 43) hF dX7_both_16 rfl e (fun _ e => ?_) (fun _ e => ?_)
    · refine xB_iconst hF dX7_both_43 ki_1 ?_
      exact xB_zreturn hF dX7_both_44 rfl e
    · refine xB_aload_n hF dX7_both_19 rfl ?_
      obtain ⟨r4, h5, e6, e⟩ := bn_of e
      refine xB_callVv hF dX7_both_20 (t_X7_nextToken e6) cw_X7_266 sM_0 rfl (xht hn9 rfl) rfl rfl rfl ?_
      refine xB_aload_n hF dX7_both_23 rfl ?_
      refine xB_iload_n hF dX7_both_24 rfl ?_
      obtain ⟨r7, h8, e9, e⟩ := bn_of e
      refine xB_callVi hF dX7_both_25 (ihs.2.2.1 _ _ _ _ e9) cw_X7_273 sM_0 rfl (Nat.ble_eq_true_of_le (Nat.le_refl _)) rfl rfl rfl ?_
      refine xB_if_ne (tgt := 33) hF dX7_both_28 rfl e (fun _ e => ?_) (fun _ e => ?_)
      · refine xB_iconst hF dX7_both_31 ki_0 ?_
        exact xB_zreturn hF dX7_both_32 rfl e
      · refine xB_aload_n hF dX7_both_33 rfl ?_
        refine xB_iconst hF dX7_both_34 ki_2 ?_
        refine xB_bipush hF dX7_both_35 kb_38 ?_
        obtain ⟨r10, h11, e12, e⟩ := bn_of e
        refine xB_callVv hF dX7_both_37 (t_X7_step e12) cw_X7_269 sM_0 rfl (xht hn9 rfl) rfl rfl rfl ?_
        refine xB_goto (tgt := 10) hF dX7_both_40 rfl ?_
        exact xB_l (ih _ e) (And.intro rfl (And.intro rfl (True.intro)))
def f_X7_both_b (self : xRec) (a1 : Int32) (h : xH) : Option (Int32 × xH) :=
    bn (self 2 a1 0 0 h) fun r1 h2 => if r1 = 0 then (some (0, h2)) else (f_X7_both_b_c10 self a1 xN h2)
set_option maxRecDepth 20000 in
set_option maxHeartbeats 2000000 in
theorem t_X7_both_b {l : Launch} {γ : xG} {self : xRec} {n9 : Nat} {a1 : Int32} {h : xH} {r : Int32} {hr : xH} (ihs : recX7 l γ self n9) (hn9 : 8 ≤ n9) (e : f_X7_both_b self a1 h = some (r, hr)) : xCT l γ xSM yX7_both cX7_both 2 (some .boolean) (n9 + 1) [.ref (γ.2.2.2 0), .int a1] h (some (.int r)) hr := by
  refine xCT.of (own := RX7) (L := [some (.ref (γ.2.2.2 0)), some (.int a1)]) (by decide) rfl rfl rfl (fun C hF => ?_)
  unfold f_X7_both_b at e
  refine xB_aload_n hF dX7_both_0 rfl ?_
  refine xB_iload_n hF dX7_both_1 rfl ?_
  obtain ⟨r1, h2, e3, e⟩ := bn_of e
  refine xB_callVi hF dX7_both_2 (ihs.2.2.1 _ _ _ _ e3) cw_X7_273 sM_0 rfl (Nat.ble_eq_true_of_le (Nat.le_refl _)) rfl rfl rfl ?_
  refine xB_if_ne (tgt := 10) hF dX7_both_5 rfl e (fun _ e => ?_) (fun _ e => ?_)
  · refine xB_iconst hF dX7_both_8 ki_0 ?_
    exact xB_zreturn hF dX7_both_9 rfl e
  · exact xB_l (t_X7_both_b_c10 hF ihs hn9 _ _ e) (And.intro rfl (And.intro rfl (True.intro)))
def f_X7_test_b_c37 (self : xRec) (a1 : Int32) (h : xH) : Option (Int32 × xH) :=
    bn (f_X7_nextToken h) fun r1 h2 => bn (self 3 a1 0 0 h2) fun r4 h5 => if r4 = 0 then (some (0, h5)) else (bn (f_X7_step 2 (h 0 20) h5) fun r7 h8 => some (1, h8))
set_option maxRecDepth 20000 in
set_option maxHeartbeats 2000000 in
theorem t_X7_test_b_c37 {l : Launch} {γ : xG} {self : xRec} {n9 : Nat} {a1 : Int32} {r : Int32} {hr : xH} {C : xCx} (hF : xF C cX7_test RX7 3 (n9 + 1) γ xSM (some (.int r)) hr l (some .boolean)) (ihs : recX7 l γ self n9) (hn9 : 8 ≤ n9) : ∀ (h : xH), f_X7_test_b_c37 self a1 h = some (r, hr) → xB C h 37 [some (.ref (γ.2.2.2 0)), some (.int a1), none] [] := by
  intro h e
  unfold f_X7_test_b_c37 at e
  refine xB_aload_n hF dX7_test_37 rfl ?_
  refine xB_get hF dX7_test_38 fl_X7_237 sM_0 rfl rfl ?_
  refine xB_istore_n (L' := [_, _, _]) hF dX7_test_41 rfl rfl rfl ?_
  refine xB_aload_n hF dX7_test_42 rfl ?_
  obtain ⟨r1, h2, e3, e⟩ := bn_of e
  refine xB_callVv hF dX7_test_43 (t_X7_nextToken e3) cw_X7_266 sM_0 rfl (xht hn9 rfl) rfl rfl rfl ?_
  refine xB_aload_n hF dX7_test_46 rfl ?_
  refine xB_iload_n hF dX7_test_47 rfl ?_
  obtain ⟨r4, h5, e6, e⟩ := bn_of e
  refine xB_callVi hF dX7_test_48 (ihs.2.2.2.1 _ _ _ _ e6) cw_X7_276 sM_0 rfl (Nat.ble_eq_true_of_le (Nat.le_refl _)) rfl rfl rfl ?_
  refine xB_if_ne (tgt := 56) hF dX7_test_51 rfl e (fun _ e => ?_) (fun _ e => ?_)
  · refine xB_iconst hF dX7_test_54 ki_0 ?_
    exact xB_zreturn hF dX7_test_55 rfl e
  · refine xB_aload_n hF dX7_test_56 rfl ?_
    refine xB_iconst hF dX7_test_57 ki_2 ?_
    refine xB_iload_n hF dX7_test_58 rfl ?_
    obtain ⟨r7, h8, e9, e⟩ := bn_of e
    refine xB_callVv hF dX7_test_59 (t_X7_step e9) cw_X7_269 sM_0 rfl (xht hn9 rfl) rfl rfl rfl ?_
    refine xB_iconst hF dX7_test_62 ki_1 ?_
    exact xB_zreturn hF dX7_test_63 rfl e
def f_X7_test_b (self : xRec) (a1 : Int32) (h : xH) : Option (Int32 × xH) :=
    bn (self 3 a1 0 0 h) fun r1 h2 => if r1 = 0 then (some (0, h2)) else (bn (f_X7_isSign 60 h2) fun r4 h5 => if r4 = 0 then (bn (f_X7_isSign 61 h5) fun r7 h8 => if r7 = 0 then (bn (f_X7_isSign 62 h8) fun r10 h11 => if r10 = 0 then (some (1, h11)) else (f_X7_test_b_c37 self a1 h11)) else (f_X7_test_b_c37 self a1 h8)) else (f_X7_test_b_c37 self a1 h5))
set_option maxRecDepth 20000 in
set_option maxHeartbeats 2000000 in
theorem t_X7_test_b {l : Launch} {γ : xG} {self : xRec} {n9 : Nat} {a1 : Int32} {h : xH} {r : Int32} {hr : xH} (ihs : recX7 l γ self n9) (hn9 : 8 ≤ n9) (e : f_X7_test_b self a1 h = some (r, hr)) : xCT l γ xSM yX7_test cX7_test 3 (some .boolean) (n9 + 1) [.ref (γ.2.2.2 0), .int a1] h (some (.int r)) hr := by
  refine xCT.of (own := RX7) (L := [some (.ref (γ.2.2.2 0)), some (.int a1), none]) (by decide) rfl rfl rfl (fun C hF => ?_)
  unfold f_X7_test_b at e
  refine xB_aload_n hF dX7_test_0 rfl ?_
  refine xB_iload_n hF dX7_test_1 rfl ?_
  obtain ⟨r1, h2, e3, e⟩ := bn_of e
  refine xB_callVi hF dX7_test_2 (ihs.2.2.2.1 _ _ _ _ e3) cw_X7_276 sM_0 rfl (Nat.ble_eq_true_of_le (Nat.le_refl _)) rfl rfl rfl ?_
  refine xB_if_ne (tgt := 10) hF dX7_test_5 rfl e (fun _ e => ?_) (fun _ e => ?_)
  · refine xB_iconst hF dX7_test_8 ki_0 ?_
    exact xB_zreturn hF dX7_test_9 rfl e
  · refine xB_aload_n hF dX7_test_10 rfl ?_
    refine xB_bipush hF dX7_test_11 kb_60 ?_
    obtain ⟨r4, h5, e6, e⟩ := bn_of e
    refine xB_callVi hF dX7_test_13 (t_X7_isSign e6) cw_X7_263 sM_0 rfl (xht hn9 rfl) rfl rfl rfl ?_
    refine xB_if_ne (tgt := 37) hF dX7_test_16 rfl e (fun _ e => ?_) (fun _ e => ?_)
    · refine xB_aload_n hF dX7_test_19 rfl ?_
      refine xB_bipush hF dX7_test_20 kb_61 ?_
      obtain ⟨r7, h8, e9, e⟩ := bn_of e
      refine xB_callVi hF dX7_test_22 (t_X7_isSign e9) cw_X7_263 sM_0 rfl (xht hn9 rfl) rfl rfl rfl ?_
      refine xB_if_ne (tgt := 37) hF dX7_test_25 rfl e (fun _ e => ?_) (fun _ e => ?_)
      · refine xB_aload_n hF dX7_test_28 rfl ?_
        refine xB_bipush hF dX7_test_29 kb_62 ?_
        obtain ⟨r10, h11, e12, e⟩ := bn_of e
        refine xB_callVi hF dX7_test_31 (t_X7_isSign e12) cw_X7_263 sM_0 rfl (xht hn9 rfl) rfl rfl rfl ?_
        refine xB_if_eq (tgt := 62) hF dX7_test_34 rfl e (fun _ e => ?_) (fun _ e => ?_)
        · refine xB_iconst hF dX7_test_62 ki_1 ?_
          exact xB_zreturn hF dX7_test_63 rfl e
        · exact xB_l (t_X7_test_b_c37 hF ihs hn9 _ e) (And.intro rfl (And.intro rfl (True.intro)))
      · exact xB_l (t_X7_test_b_c37 hF ihs hn9 _ e) (And.intro rfl (And.intro rfl (True.intro)))
    · exact xB_l (t_X7_test_b_c37 hF ihs hn9 _ e) (And.intro rfl (And.intro rfl (True.intro)))
def f_X7_sum_b_c28 (self : xRec) (k10 : xH → Option (Int32 × xH)) (a1 : Int32) (h : xH) : Option (Int32 × xH) :=
    bn (f_X7_nextToken h) fun r1 h2 => bn (self 4 a1 0 0 h2) fun r4 h5 => if r4 = 0 then (some (0, h5)) else (bn (f_X7_step 2 (h 0 20) h5) fun r7 h8 => k10 h8)
set_option maxRecDepth 20000 in
set_option maxHeartbeats 2000000 in
theorem t_X7_sum_b_c28 {l : Launch} {γ : xG} {self : xRec} {n9 : Nat} {k10 : xH → Option (Int32 × xH)} {a1 : Int32} {r : Int32} {hr : xH} {C : xCx} (hF : xF C cX7_sum RX7 3 (n9 + 1) γ xSM (some (.int r)) hr l (some .boolean)) (ihs : recX7 l γ self n9) (hn9 : 8 ≤ n9) (hk10 : ∀ (h : xH), k10 h = some (r, hr) → xB C h 10 [some (.ref (γ.2.2.2 0)), some (.int a1), none] []) : ∀ (h : xH), f_X7_sum_b_c28 self k10 a1 h = some (r, hr) → xB C h 28 [some (.ref (γ.2.2.2 0)), some (.int a1), none] [] := by
  intro h e
  unfold f_X7_sum_b_c28 at e
  refine xB_aload_n hF dX7_sum_28 rfl ?_
  refine xB_get hF dX7_sum_29 fl_X7_237 sM_0 rfl rfl ?_
  refine xB_istore_n (L' := [_, _, _]) hF dX7_sum_32 rfl rfl rfl ?_
  refine xB_aload_n hF dX7_sum_33 rfl ?_
  obtain ⟨r1, h2, e3, e⟩ := bn_of e
  refine xB_callVv hF dX7_sum_34 (t_X7_nextToken e3) cw_X7_266 sM_0 rfl (xht hn9 rfl) rfl rfl rfl ?_
  refine xB_aload_n hF dX7_sum_37 rfl ?_
  refine xB_iload_n hF dX7_sum_38 rfl ?_
  obtain ⟨r4, h5, e6, e⟩ := bn_of e
  refine xB_callVi hF dX7_sum_39 (ihs.2.2.2.2.1 _ _ _ _ e6) cw_X7_279 sM_0 rfl (Nat.ble_eq_true_of_le (Nat.le_refl _)) rfl rfl rfl ?_
  refine xB_if_ne (tgt := 47) hF dX7_sum_42 rfl e (fun _ e => ?_) (fun _ e => ?_)
  · refine xB_iconst hF dX7_sum_45 ki_0 ?_
    exact xB_zreturn hF dX7_sum_46 rfl e
  · refine xB_aload_n hF dX7_sum_47 rfl ?_
    refine xB_iconst hF dX7_sum_48 ki_2 ?_
    refine xB_iload_n hF dX7_sum_49 rfl ?_
    obtain ⟨r7, h8, e9, e⟩ := bn_of e
    refine xB_callVv hF dX7_sum_50 (t_X7_step e9) cw_X7_269 sM_0 rfl (xht hn9 rfl) rfl rfl rfl ?_
    refine xB_goto (tgt := 10) hF dX7_sum_53 rfl ?_
    exact xB_l (hk10 _ e) (And.intro rfl (And.intro rfl (True.intro)))
def f_X7_sum_b_c10 (self : xRec) (a1 : Int32) : Nat → xH → Option (Int32 × xH)
  | 0, _ => none
  | n + 1, h =>
    bn (f_X7_isSign 43 h) fun r1 h2 => if r1 = 0 then (bn (f_X7_isSign 45 h2) fun r4 h5 => if r4 = 0 then (some (1, h5)) else (f_X7_sum_b_c28 self (f_X7_sum_b_c10 self a1 n) a1 h5)) else (f_X7_sum_b_c28 self (f_X7_sum_b_c10 self a1 n) a1 h2)
set_option maxRecDepth 20000 in
set_option maxHeartbeats 2000000 in
theorem t_X7_sum_b_c10 {l : Launch} {γ : xG} {self : xRec} {n9 : Nat} {a1 : Int32} {r : Int32} {hr : xH} {C : xCx} (hF : xF C cX7_sum RX7 3 (n9 + 1) γ xSM (some (.int r)) hr l (some .boolean)) (ihs : recX7 l γ self n9) (hn9 : 8 ≤ n9) : ∀ (n : Nat) (h : xH), f_X7_sum_b_c10 self a1 n h = some (r, hr) → xB C h 10 [some (.ref (γ.2.2.2 0)), some (.int a1), none] [] := by
  intro n
  induction n with
  | zero => intro h e; cases e
  | succ n ih =>
    intro h e
    rw [f_X7_sum_b_c10] at e
    refine xB_aload_n hF dX7_sum_10 rfl ?_
    refine xB_bipush hF dX7_sum_11 kb_43 ?_
    obtain ⟨r1, h2, e3, e⟩ := bn_of e
    refine xB_callVi hF dX7_sum_13 (t_X7_isSign e3) cw_X7_263 sM_0 rfl (xht hn9 rfl) rfl rfl rfl ?_
    refine xB_if_ne (tgt := 28) hF dX7_sum_16 rfl e (fun _ e => ?_) (fun _ e => ?_)
    · refine xB_aload_n hF dX7_sum_19 rfl ?_
      refine xB_bipush hF dX7_sum_20 kb_45 ?_
      obtain ⟨r4, h5, e6, e⟩ := bn_of e
      refine xB_callVi hF dX7_sum_22 (t_X7_isSign e6) cw_X7_263 sM_0 rfl (xht hn9 rfl) rfl rfl rfl ?_
      refine xB_if_eq (tgt := 56) hF dX7_sum_25 rfl e (fun _ e => ?_) (fun _ e => ?_)
      · refine xB_iconst hF dX7_sum_56 ki_1 ?_
        exact xB_zreturn hF dX7_sum_57 rfl e
      · exact xB_l (t_X7_sum_b_c28 hF ihs hn9 ih _ e) (And.intro rfl (And.intro rfl (True.intro)))
    · exact xB_l (t_X7_sum_b_c28 hF ihs hn9 ih _ e) (And.intro rfl (And.intro rfl (True.intro)))
def f_X7_sum_b (self : xRec) (a1 : Int32) (h : xH) : Option (Int32 × xH) :=
    bn (self 4 a1 0 0 h) fun r1 h2 => if r1 = 0 then (some (0, h2)) else (f_X7_sum_b_c10 self a1 xN h2)
set_option maxRecDepth 20000 in
set_option maxHeartbeats 2000000 in
theorem t_X7_sum_b {l : Launch} {γ : xG} {self : xRec} {n9 : Nat} {a1 : Int32} {h : xH} {r : Int32} {hr : xH} (ihs : recX7 l γ self n9) (hn9 : 8 ≤ n9) (e : f_X7_sum_b self a1 h = some (r, hr)) : xCT l γ xSM yX7_sum cX7_sum 3 (some .boolean) (n9 + 1) [.ref (γ.2.2.2 0), .int a1] h (some (.int r)) hr := by
  refine xCT.of (own := RX7) (L := [some (.ref (γ.2.2.2 0)), some (.int a1), none]) (by decide) rfl rfl rfl (fun C hF => ?_)
  unfold f_X7_sum_b at e
  refine xB_aload_n hF dX7_sum_0 rfl ?_
  refine xB_iload_n hF dX7_sum_1 rfl ?_
  obtain ⟨r1, h2, e3, e⟩ := bn_of e
  refine xB_callVi hF dX7_sum_2 (ihs.2.2.2.2.1 _ _ _ _ e3) cw_X7_279 sM_0 rfl (Nat.ble_eq_true_of_le (Nat.le_refl _)) rfl rfl rfl ?_
  refine xB_if_ne (tgt := 10) hF dX7_sum_5 rfl e (fun _ e => ?_) (fun _ e => ?_)
  · refine xB_iconst hF dX7_sum_8 ki_0 ?_
    exact xB_zreturn hF dX7_sum_9 rfl e
  · exact xB_l (t_X7_sum_b_c10 hF ihs hn9 _ _ e) (And.intro rfl (And.intro rfl (True.intro)))
def f_X7_term_b_c28 (self : xRec) (k10 : xH → Option (Int32 × xH)) (a1 : Int32) (h : xH) : Option (Int32 × xH) :=
    bn (f_X7_nextToken h) fun r1 h2 => bn (self 5 a1 0 0 h2) fun r4 h5 => if r4 = 0 then (some (0, h5)) else (bn (f_X7_step 2 (h 0 20) h5) fun r7 h8 => k10 h8)
set_option maxRecDepth 20000 in
set_option maxHeartbeats 2000000 in
theorem t_X7_term_b_c28 {l : Launch} {γ : xG} {self : xRec} {n9 : Nat} {k10 : xH → Option (Int32 × xH)} {a1 : Int32} {r : Int32} {hr : xH} {C : xCx} (hF : xF C cX7_term RX7 3 (n9 + 1) γ xSM (some (.int r)) hr l (some .boolean)) (ihs : recX7 l γ self n9) (hn9 : 8 ≤ n9) (hk10 : ∀ (h : xH), k10 h = some (r, hr) → xB C h 10 [some (.ref (γ.2.2.2 0)), some (.int a1), none] []) : ∀ (h : xH), f_X7_term_b_c28 self k10 a1 h = some (r, hr) → xB C h 28 [some (.ref (γ.2.2.2 0)), some (.int a1), none] [] := by
  intro h e
  unfold f_X7_term_b_c28 at e
  refine xB_aload_n hF dX7_term_28 rfl ?_
  refine xB_get hF dX7_term_29 fl_X7_237 sM_0 rfl rfl ?_
  refine xB_istore_n (L' := [_, _, _]) hF dX7_term_32 rfl rfl rfl ?_
  refine xB_aload_n hF dX7_term_33 rfl ?_
  obtain ⟨r1, h2, e3, e⟩ := bn_of e
  refine xB_callVv hF dX7_term_34 (t_X7_nextToken e3) cw_X7_266 sM_0 rfl (xht hn9 rfl) rfl rfl rfl ?_
  refine xB_aload_n hF dX7_term_37 rfl ?_
  refine xB_iload_n hF dX7_term_38 rfl ?_
  obtain ⟨r4, h5, e6, e⟩ := bn_of e
  refine xB_callVi hF dX7_term_39 (ihs.2.2.2.2.2 _ _ _ _ e6) cw_X7_282 sM_0 rfl (Nat.ble_eq_true_of_le (Nat.le_refl _)) rfl rfl rfl ?_
  refine xB_if_ne (tgt := 47) hF dX7_term_42 rfl e (fun _ e => ?_) (fun _ e => ?_)
  · refine xB_iconst hF dX7_term_45 ki_0 ?_
    exact xB_zreturn hF dX7_term_46 rfl e
  · refine xB_aload_n hF dX7_term_47 rfl ?_
    refine xB_iconst hF dX7_term_48 ki_2 ?_
    refine xB_iload_n hF dX7_term_49 rfl ?_
    obtain ⟨r7, h8, e9, e⟩ := bn_of e
    refine xB_callVv hF dX7_term_50 (t_X7_step e9) cw_X7_269 sM_0 rfl (xht hn9 rfl) rfl rfl rfl ?_
    refine xB_goto (tgt := 10) hF dX7_term_53 rfl ?_
    exact xB_l (hk10 _ e) (And.intro rfl (And.intro rfl (True.intro)))
def f_X7_term_b_c10 (self : xRec) (a1 : Int32) : Nat → xH → Option (Int32 × xH)
  | 0, _ => none
  | n + 1, h =>
    bn (f_X7_isSign 42 h) fun r1 h2 => if r1 = 0 then (bn (f_X7_isSign 47 h2) fun r4 h5 => if r4 = 0 then (some (1, h5)) else (f_X7_term_b_c28 self (f_X7_term_b_c10 self a1 n) a1 h5)) else (f_X7_term_b_c28 self (f_X7_term_b_c10 self a1 n) a1 h2)
set_option maxRecDepth 20000 in
set_option maxHeartbeats 2000000 in
theorem t_X7_term_b_c10 {l : Launch} {γ : xG} {self : xRec} {n9 : Nat} {a1 : Int32} {r : Int32} {hr : xH} {C : xCx} (hF : xF C cX7_term RX7 3 (n9 + 1) γ xSM (some (.int r)) hr l (some .boolean)) (ihs : recX7 l γ self n9) (hn9 : 8 ≤ n9) : ∀ (n : Nat) (h : xH), f_X7_term_b_c10 self a1 n h = some (r, hr) → xB C h 10 [some (.ref (γ.2.2.2 0)), some (.int a1), none] [] := by
  intro n
  induction n with
  | zero => intro h e; cases e
  | succ n ih =>
    intro h e
    rw [f_X7_term_b_c10] at e
    refine xB_aload_n hF dX7_term_10 rfl ?_
    refine xB_bipush hF dX7_term_11 kb_42 ?_
    obtain ⟨r1, h2, e3, e⟩ := bn_of e
    refine xB_callVi hF dX7_term_13 (t_X7_isSign e3) cw_X7_263 sM_0 rfl (xht hn9 rfl) rfl rfl rfl ?_
    refine xB_if_ne (tgt := 28) hF dX7_term_16 rfl e (fun _ e => ?_) (fun _ e => ?_)
    · refine xB_aload_n hF dX7_term_19 rfl ?_
      refine xB_bipush hF dX7_term_20 kb_47 ?_
      obtain ⟨r4, h5, e6, e⟩ := bn_of e
      refine xB_callVi hF dX7_term_22 (t_X7_isSign e6) cw_X7_263 sM_0 rfl (xht hn9 rfl) rfl rfl rfl ?_
      refine xB_if_eq (tgt := 56) hF dX7_term_25 rfl e (fun _ e => ?_) (fun _ e => ?_)
      · refine xB_iconst hF dX7_term_56 ki_1 ?_
        exact xB_zreturn hF dX7_term_57 rfl e
      · exact xB_l (t_X7_term_b_c28 hF ihs hn9 ih _ e) (And.intro rfl (And.intro rfl (True.intro)))
    · exact xB_l (t_X7_term_b_c28 hF ihs hn9 ih _ e) (And.intro rfl (And.intro rfl (True.intro)))
def f_X7_term_b (self : xRec) (a1 : Int32) (h : xH) : Option (Int32 × xH) :=
    bn (self 5 a1 0 0 h) fun r1 h2 => if r1 = 0 then (some (0, h2)) else (f_X7_term_b_c10 self a1 xN h2)
set_option maxRecDepth 20000 in
set_option maxHeartbeats 2000000 in
theorem t_X7_term_b {l : Launch} {γ : xG} {self : xRec} {n9 : Nat} {a1 : Int32} {h : xH} {r : Int32} {hr : xH} (ihs : recX7 l γ self n9) (hn9 : 8 ≤ n9) (e : f_X7_term_b self a1 h = some (r, hr)) : xCT l γ xSM yX7_term cX7_term 3 (some .boolean) (n9 + 1) [.ref (γ.2.2.2 0), .int a1] h (some (.int r)) hr := by
  refine xCT.of (own := RX7) (L := [some (.ref (γ.2.2.2 0)), some (.int a1), none]) (by decide) rfl rfl rfl (fun C hF => ?_)
  unfold f_X7_term_b at e
  refine xB_aload_n hF dX7_term_0 rfl ?_
  refine xB_iload_n hF dX7_term_1 rfl ?_
  obtain ⟨r1, h2, e3, e⟩ := bn_of e
  refine xB_callVi hF dX7_term_2 (ihs.2.2.2.2.2 _ _ _ _ e3) cw_X7_282 sM_0 rfl (Nat.ble_eq_true_of_le (Nat.le_refl _)) rfl rfl rfl ?_
  refine xB_if_ne (tgt := 10) hF dX7_term_5 rfl e (fun _ e => ?_) (fun _ e => ?_)
  · refine xB_iconst hF dX7_term_8 ki_0 ?_
    exact xB_zreturn hF dX7_term_9 rfl e
  · exact xB_l (t_X7_term_b_c10 hF ihs hn9 _ _ e) (And.intro rfl (And.intro rfl (True.intro)))
def f_X7_part0_b_c145 (self : xRec) (a1 : Int32) (h : xH) : Option (Int32 × xH) :=
    bn (f_X7_isSign 40 h) fun r1 h2 => if r1 = 0 then (some (0, h2)) else (if (h2 0 21) = 8 then (some (0, h2)) else (nm (xst h2 0 21 ((h2 0 21) + 1)) fun h4 => bn (f_X7_nextToken h4) fun r5 h6 => bn (self 0 a1 0 0 h6) fun r8 h9 => if r8 = 0 then (some (0, h9)) else (bn (f_X7_isSign 41 h9) fun r11 h12 => if r11 = 0 then (some (0, h12)) else (nm (xst h12 0 21 ((h12 0 21) - 1)) fun h14 => bn (f_X7_nextToken h14) fun r15 h16 => some (1, h16)))))
set_option maxRecDepth 20000 in
set_option maxHeartbeats 2000000 in
theorem t_X7_part0_b_c145 {l : Launch} {γ : xG} {self : xRec} {n9 : Nat} {a1 : Int32} {r : Int32} {hr : xH} {C : xCx} (hF : xF C cX7_part0 RX7 2 (n9 + 1) γ xSM (some (.int r)) hr l (some .boolean)) (ihs : recX7 l γ self n9) (hn9 : 8 ≤ n9) : ∀ (h : xH), f_X7_part0_b_c145 self a1 h = some (r, hr) → xB C h 145 [some (.ref (γ.2.2.2 0)), some (.int a1)] [] := by
  intro h e
  unfold f_X7_part0_b_c145 at e
  refine xB_aload_n hF dX7_part0_145 rfl ?_
  refine xB_bipush hF dX7_part0_146 kb_40 ?_
  obtain ⟨r1, h2, e3, e⟩ := bn_of e
  refine xB_callVi hF dX7_part0_148 (t_X7_isSign e3) cw_X7_263 sM_0 rfl (xht hn9 rfl) rfl rfl rfl ?_
  refine xB_if_eq (tgt := 163) hF dX7_part0_151 rfl e (fun _ e => ?_) (fun _ e => ?_)
  · refine xB_iconst hF dX7_part0_163 ki_0 ?_
    exact xB_zreturn hF dX7_part0_164 rfl e
  · refine xB_aload_n hF dX7_part0_154 rfl ?_
    refine xB_get hF dX7_part0_155 fl_X7_294 sM_0 rfl rfl ?_
    refine xB_bipush hF dX7_part0_158 kb_8 ?_
    refine xB_icmp_ne (tgt := 165) hF dX7_part0_160 rfl e (fun _ e => ?_) (fun _ e => ?_)
    · refine xB_iconst hF dX7_part0_163 ki_0 ?_
      exact xB_zreturn hF dX7_part0_164 rfl e
    · refine xB_aload_n hF dX7_part0_165 rfl ?_
      refine xB_dup hF dX7_part0_166 rfl ?_
      refine xB_get hF dX7_part0_167 fl_X7_294 sM_0 rfl rfl ?_
      refine xB_iconst hF dX7_part0_170 ki_1 ?_
      refine xB_iadd hF dX7_part0_171 ?_
      refine xB_put hF dX7_part0_172 fp_X7_294 sM_0 rfl rfl rfl rfl rfl ?_
      refine xB_gen e (fun h4 e => ?_)
      refine xB_aload_n hF dX7_part0_175 rfl ?_
      obtain ⟨r5, h6, e7, e⟩ := bn_of e
      refine xB_callVv hF dX7_part0_176 (t_X7_nextToken e7) cw_X7_266 sM_0 rfl (xht hn9 rfl) rfl rfl rfl ?_
      refine xB_aload_n hF dX7_part0_179 rfl ?_
      refine xB_iload_n hF dX7_part0_180 rfl ?_
      obtain ⟨r8, h9, e10, e⟩ := bn_of e
      refine xB_callVi hF dX7_part0_181 (ihs.1 _ _ _ _ e10) cw_X7_297 sM_0 rfl (Nat.ble_eq_true_of_le (Nat.le_refl _)) rfl rfl rfl ?_
      refine xB_if_eq (tgt := 196) hF dX7_part0_184 rfl e (fun _ e => ?_) (fun _ e => ?_)
      · refine xB_iconst hF dX7_part0_196 ki_0 ?_
        exact xB_zreturn hF dX7_part0_197 rfl e
      · refine xB_aload_n hF dX7_part0_187 rfl ?_
        refine xB_bipush hF dX7_part0_188 kb_41 ?_
        obtain ⟨r11, h12, e13, e⟩ := bn_of e
        refine xB_callVi hF dX7_part0_190 (t_X7_isSign e13) cw_X7_263 sM_0 rfl (xht hn9 rfl) rfl rfl rfl ?_
        refine xB_if_ne (tgt := 198) hF dX7_part0_193 rfl e (fun _ e => ?_) (fun _ e => ?_)
        · refine xB_iconst hF dX7_part0_196 ki_0 ?_
          exact xB_zreturn hF dX7_part0_197 rfl e
        · refine xB_aload_n hF dX7_part0_198 rfl ?_
          refine xB_dup hF dX7_part0_199 rfl ?_
          refine xB_get hF dX7_part0_200 fl_X7_294 sM_0 rfl rfl ?_
          refine xB_iconst hF dX7_part0_203 ki_1 ?_
          refine xB_isub hF dX7_part0_204 ?_
          refine xB_put hF dX7_part0_205 fp_X7_294 sM_0 rfl rfl rfl rfl rfl ?_
          refine xB_gen e (fun h14 e => ?_)
          refine xB_aload_n hF dX7_part0_208 rfl ?_
          obtain ⟨r15, h16, e17, e⟩ := bn_of e
          refine xB_callVv hF dX7_part0_209 (t_X7_nextToken e17) cw_X7_266 sM_0 rfl (xht hn9 rfl) rfl rfl rfl ?_
          refine xB_iconst hF dX7_part0_212 ki_1 ?_
          exact xB_zreturn hF dX7_part0_213 rfl e
def f_X7_part0_b_c84 (self : xRec) (a1 : Int32) (h : xH) : Option (Int32 × xH) :=
    bn (f_X7_isSign 33 h) fun r1 h2 => if r1 = 0 then (f_X7_part0_b_c145 self a1 h2) else (if 8 ≤ (h2 0 22) then (f_X7_part0_b_c145 self a1 h2) else (nm (xst h2 0 22 ((h2 0 22) + 1)) fun h4 => bn (f_X7_nextToken h4) fun r5 h6 => bn (self 5 a1 0 0 h6) fun r8 h9 => if r8 = 0 then (some (0, h9)) else (nm (xst h9 0 22 ((h9 0 22) - 1)) fun h11 => bn (f_X7_step 2 33 h11) fun r12 h13 => some (1, h13))))
set_option maxRecDepth 20000 in
set_option maxHeartbeats 2000000 in
theorem t_X7_part0_b_c84 {l : Launch} {γ : xG} {self : xRec} {n9 : Nat} {a1 : Int32} {r : Int32} {hr : xH} {C : xCx} (hF : xF C cX7_part0 RX7 2 (n9 + 1) γ xSM (some (.int r)) hr l (some .boolean)) (ihs : recX7 l γ self n9) (hn9 : 8 ≤ n9) : ∀ (h : xH), f_X7_part0_b_c84 self a1 h = some (r, hr) → xB C h 84 [some (.ref (γ.2.2.2 0)), some (.int a1)] [] := by
  intro h e
  unfold f_X7_part0_b_c84 at e
  refine xB_aload_n hF dX7_part0_84 rfl ?_
  refine xB_bipush hF dX7_part0_85 kb_33 ?_
  obtain ⟨r1, h2, e3, e⟩ := bn_of e
  refine xB_callVi hF dX7_part0_87 (t_X7_isSign e3) cw_X7_263 sM_0 rfl (xht hn9 rfl) rfl rfl rfl ?_
  refine xB_if_eq (tgt := 145) hF dX7_part0_90 rfl e (fun _ e => ?_) (fun _ e => ?_)
  · exact xB_l (t_X7_part0_b_c145 hF ihs hn9 _ e) (And.intro rfl (And.intro rfl (True.intro)))
  · refine xB_aload_n hF dX7_part0_93 rfl ?_
    refine xB_get hF dX7_part0_94 fl_X7_291 sM_0 rfl rfl ?_
    refine xB_bipush hF dX7_part0_97 kb_8 ?_
    refine xB_icmp_ge (tgt := 145) hF dX7_part0_99 rfl e (fun _ e => ?_) (fun _ e => ?_)
    · exact xB_l (t_X7_part0_b_c145 hF ihs hn9 _ e) (And.intro rfl (And.intro rfl (True.intro)))
    · refine xB_aload_n hF dX7_part0_102 rfl ?_
      refine xB_dup hF dX7_part0_103 rfl ?_
      refine xB_get hF dX7_part0_104 fl_X7_291 sM_0 rfl rfl ?_
      refine xB_iconst hF dX7_part0_107 ki_1 ?_
      refine xB_iadd hF dX7_part0_108 ?_
      refine xB_put hF dX7_part0_109 fp_X7_291 sM_0 rfl rfl rfl rfl rfl ?_
      refine xB_gen e (fun h4 e => ?_)
      refine xB_aload_n hF dX7_part0_112 rfl ?_
      obtain ⟨r5, h6, e7, e⟩ := bn_of e
      refine xB_callVv hF dX7_part0_113 (t_X7_nextToken e7) cw_X7_266 sM_0 rfl (xht hn9 rfl) rfl rfl rfl ?_
      refine xB_aload_n hF dX7_part0_116 rfl ?_
      refine xB_iload_n hF dX7_part0_117 rfl ?_
      obtain ⟨r8, h9, e10, e⟩ := bn_of e
      refine xB_callVi hF dX7_part0_118 (ihs.2.2.2.2.2 _ _ _ _ e10) cw_X7_282 sM_0 rfl (Nat.ble_eq_true_of_le (Nat.le_refl _)) rfl rfl rfl ?_
      refine xB_if_ne (tgt := 126) hF dX7_part0_121 rfl e (fun _ e => ?_) (fun _ e => ?_)
      · refine xB_iconst hF dX7_part0_124 ki_0 ?_
        exact xB_zreturn hF dX7_part0_125 rfl e
      · refine xB_aload_n hF dX7_part0_126 rfl ?_
        refine xB_dup hF dX7_part0_127 rfl ?_
        refine xB_get hF dX7_part0_128 fl_X7_291 sM_0 rfl rfl ?_
        refine xB_iconst hF dX7_part0_131 ki_1 ?_
        refine xB_isub hF dX7_part0_132 ?_
        refine xB_put hF dX7_part0_133 fp_X7_291 sM_0 rfl rfl rfl rfl rfl ?_
        refine xB_gen e (fun h11 e => ?_)
        refine xB_aload_n hF dX7_part0_136 rfl ?_
        refine xB_iconst hF dX7_part0_137 ki_2 ?_
        refine xB_bipush hF dX7_part0_138 kb_33 ?_
        obtain ⟨r12, h13, e14, e⟩ := bn_of e
        refine xB_callVv hF dX7_part0_140 (t_X7_step e14) cw_X7_269 sM_0 rfl (xht hn9 rfl) rfl rfl rfl ?_
        refine xB_iconst hF dX7_part0_143 ki_1 ?_
        exact xB_zreturn hF dX7_part0_144 rfl e
def f_X7_part0_b (self : xRec) (a1 : Int32) (h : xH) : Option (Int32 × xH) :=
    if (h 0 18) = 2 then (bn (f_X7_step 0 (h 0 19) h) fun r11 h12 => nm (xst h12 0 25 ((h12 0 25) + 1)) fun h14 => bn (f_X7_nextToken h14) fun r15 h16 => some (1, h16)) else (if (h 0 18) = 1 then (if (h 0 20) = 0 then (f_X7_part0_b_c84 self a1 h) else (bn (f_X7_isName a1 (h 0 20) h) fun r1 h2 => if r1 = 0 then (f_X7_part0_b_c84 self a1 h2) else (bn (f_X7_step 1 (h2 0 20) h2) fun r4 h5 => nm (xst h5 0 25 ((h5 0 25) + 1)) fun h7 => bn (f_X7_nextToken h7) fun r8 h9 => some (1, h9)))) else (f_X7_part0_b_c84 self a1 h))
set_option maxRecDepth 20000 in
set_option maxHeartbeats 2000000 in
theorem t_X7_part0_b {l : Launch} {γ : xG} {self : xRec} {n9 : Nat} {a1 : Int32} {h : xH} {r : Int32} {hr : xH} (ihs : recX7 l γ self n9) (hn9 : 8 ≤ n9) (e : f_X7_part0_b self a1 h = some (r, hr)) : xCT l γ xSM yX7_part0 cX7_part0 2 (some .boolean) (n9 + 1) [.ref (γ.2.2.2 0), .int a1] h (some (.int r)) hr := by
  refine xCT.of (own := RX7) (L := [some (.ref (γ.2.2.2 0)), some (.int a1)]) (by decide) rfl rfl rfl (fun C hF => ?_)
  unfold f_X7_part0_b at e
  refine xB_aload_n hF dX7_part0_0 rfl ?_
  refine xB_get hF dX7_part0_1 fl_X7_228 sM_0 rfl rfl ?_
  refine xB_iconst hF dX7_part0_4 ki_2 ?_
  refine xB_icmp_ne (tgt := 33) hF dX7_part0_5 rfl e (fun _ e => ?_) (fun _ e => ?_)
  · refine xB_aload_n hF dX7_part0_8 rfl ?_
    refine xB_iconst hF dX7_part0_9 ki_0 ?_
    refine xB_aload_n hF dX7_part0_10 rfl ?_
    refine xB_get hF dX7_part0_11 fl_X7_243 sM_0 rfl rfl ?_
    obtain ⟨r11, h12, e13, e⟩ := bn_of e
    refine xB_callVv hF dX7_part0_14 (t_X7_step e13) cw_X7_269 sM_0 rfl (xht hn9 rfl) rfl rfl rfl ?_
    refine xB_aload_n hF dX7_part0_17 rfl ?_
    refine xB_dup hF dX7_part0_18 rfl ?_
    refine xB_get hF dX7_part0_19 fl_X7_285 sM_0 rfl rfl ?_
    refine xB_iconst hF dX7_part0_22 ki_1 ?_
    refine xB_iadd hF dX7_part0_23 ?_
    refine xB_put hF dX7_part0_24 fp_X7_285 sM_0 rfl rfl rfl rfl rfl ?_
    refine xB_gen e (fun h14 e => ?_)
    refine xB_aload_n hF dX7_part0_27 rfl ?_
    obtain ⟨r15, h16, e17, e⟩ := bn_of e
    refine xB_callVv hF dX7_part0_28 (t_X7_nextToken e17) cw_X7_266 sM_0 rfl (xht hn9 rfl) rfl rfl rfl ?_
    refine xB_iconst hF dX7_part0_31 ki_1 ?_
    exact xB_zreturn hF dX7_part0_32 rfl e
  · refine xB_aload_n hF dX7_part0_33 rfl ?_
    refine xB_get hF dX7_part0_34 fl_X7_228 sM_0 rfl rfl ?_
    refine xB_iconst hF dX7_part0_37 ki_1 ?_
    refine xB_icmp_ne (tgt := 84) hF dX7_part0_38 rfl e (fun _ e => ?_) (fun _ e => ?_)
    · refine xB_aload_n hF dX7_part0_41 rfl ?_
      refine xB_get hF dX7_part0_42 fl_X7_237 sM_0 rfl rfl ?_
      refine xB_if_eq (tgt := 84) hF dX7_part0_45 rfl e (fun _ e => ?_) (fun _ e => ?_)
      · exact xB_l (t_X7_part0_b_c84 hF ihs hn9 _ e) (And.intro rfl (And.intro rfl (True.intro)))
      · refine xB_iload_n hF dX7_part0_48 rfl ?_
        refine xB_aload_n hF dX7_part0_49 rfl ?_
        refine xB_get hF dX7_part0_50 fl_X7_237 sM_0 rfl rfl ?_
        obtain ⟨r1, h2, e3, e⟩ := bn_of e
        refine xB_callSi hF dX7_part0_53 (t_X7_isName e3) cw_X7_288 (xht hn9 rfl) rfl rfl rfl ?_
        refine xB_if_eq (tgt := 84) hF dX7_part0_56 rfl e (fun _ e => ?_) (fun _ e => ?_)
        · exact xB_l (t_X7_part0_b_c84 hF ihs hn9 _ e) (And.intro rfl (And.intro rfl (True.intro)))
        · refine xB_aload_n hF dX7_part0_59 rfl ?_
          refine xB_iconst hF dX7_part0_60 ki_1 ?_
          refine xB_aload_n hF dX7_part0_61 rfl ?_
          refine xB_get hF dX7_part0_62 fl_X7_237 sM_0 rfl rfl ?_
          obtain ⟨r4, h5, e6, e⟩ := bn_of e
          refine xB_callVv hF dX7_part0_65 (t_X7_step e6) cw_X7_269 sM_0 rfl (xht hn9 rfl) rfl rfl rfl ?_
          refine xB_aload_n hF dX7_part0_68 rfl ?_
          refine xB_dup hF dX7_part0_69 rfl ?_
          refine xB_get hF dX7_part0_70 fl_X7_285 sM_0 rfl rfl ?_
          refine xB_iconst hF dX7_part0_73 ki_1 ?_
          refine xB_iadd hF dX7_part0_74 ?_
          refine xB_put hF dX7_part0_75 fp_X7_285 sM_0 rfl rfl rfl rfl rfl ?_
          refine xB_gen e (fun h7 e => ?_)
          refine xB_aload_n hF dX7_part0_78 rfl ?_
          obtain ⟨r8, h9, e10, e⟩ := bn_of e
          refine xB_callVv hF dX7_part0_79 (t_X7_nextToken e10) cw_X7_266 sM_0 rfl (xht hn9 rfl) rfl rfl rfl ?_
          refine xB_iconst hF dX7_part0_82 ki_1 ?_
          exact xB_zreturn hF dX7_part0_83 rfl e
    · exact xB_l (t_X7_part0_b_c84 hF ihs hn9 _ e) (And.intro rfl (And.intro rfl (True.intro)))
def f_X7_rec : Nat → Nat → Int32 → Int32 → Int32 → xH → Option (Int32 × xH)
  | 0, _, _, _, _, _ => none
  | n + 1, t, a, b, c, h => if t = 0 then f_X7_either_b (f_X7_rec n) a h else (if t = 1 then f_X7_both_b (f_X7_rec n) a h else (if t = 2 then f_X7_test_b (f_X7_rec n) a h else (if t = 3 then f_X7_sum_b (f_X7_rec n) a h else (if t = 4 then f_X7_term_b (f_X7_rec n) a h else (if t = 5 then f_X7_part0_b (f_X7_rec n) a h else (none))))))
theorem t_X7_rec {l : Launch} {γ : xG} : ∀ n : Nat, recX7 l γ (f_X7_rec n) (n + 8)
  | 0 => ⟨fun a1 h r hr e => (by cases e), fun a1 h r hr e => (by cases e), fun a1 h r hr e => (by cases e), fun a1 h r hr e => (by cases e), fun a1 h r hr e => (by cases e), fun a1 h r hr e => (by cases e)⟩
  | n + 1 => by
    have ih := t_X7_rec (l := l) (γ := γ) n
    exact ⟨fun a1 h r hr e => t_X7_either_b ih (by omega) (show f_X7_either_b (f_X7_rec n) a1 h = some (r, hr) from e),
      fun a1 h r hr e => t_X7_both_b ih (by omega) (show f_X7_both_b (f_X7_rec n) a1 h = some (r, hr) from e),
      fun a1 h r hr e => t_X7_test_b ih (by omega) (show f_X7_test_b (f_X7_rec n) a1 h = some (r, hr) from e),
      fun a1 h r hr e => t_X7_sum_b ih (by omega) (show f_X7_sum_b (f_X7_rec n) a1 h = some (r, hr) from e),
      fun a1 h r hr e => t_X7_term_b ih (by omega) (show f_X7_term_b (f_X7_rec n) a1 h = some (r, hr) from e),
      fun a1 h r hr e => t_X7_part0_b ih (by omega) (show f_X7_part0_b (f_X7_rec n) a1 h = some (r, hr) from e)⟩
def f_X7_either (a1 : Int32) (h : xH) : Option (Int32 × xH) := f_X7_rec 200 0 a1 0 0 h
theorem t_X7_either {l : Launch} {γ : xG} {a1 : Int32} {h : xH} {r : Int32} {hr : xH} (e : f_X7_either a1 h = some (r, hr)) : xCT l γ xSM yX7_either cX7_either 2 (some .boolean) 208 [.ref (γ.2.2.2 0), .int a1] h (some (.int r)) hr := (t_X7_rec 200).1 _ _ _ _ e
def f_X7_both (a1 : Int32) (h : xH) : Option (Int32 × xH) := f_X7_rec 200 1 a1 0 0 h
theorem t_X7_both {l : Launch} {γ : xG} {a1 : Int32} {h : xH} {r : Int32} {hr : xH} (e : f_X7_both a1 h = some (r, hr)) : xCT l γ xSM yX7_both cX7_both 2 (some .boolean) 208 [.ref (γ.2.2.2 0), .int a1] h (some (.int r)) hr := (t_X7_rec 200).2.1 _ _ _ _ e
def f_X7_test (a1 : Int32) (h : xH) : Option (Int32 × xH) := f_X7_rec 200 2 a1 0 0 h
theorem t_X7_test {l : Launch} {γ : xG} {a1 : Int32} {h : xH} {r : Int32} {hr : xH} (e : f_X7_test a1 h = some (r, hr)) : xCT l γ xSM yX7_test cX7_test 3 (some .boolean) 208 [.ref (γ.2.2.2 0), .int a1] h (some (.int r)) hr := (t_X7_rec 200).2.2.1 _ _ _ _ e
def f_X7_sum (a1 : Int32) (h : xH) : Option (Int32 × xH) := f_X7_rec 200 3 a1 0 0 h
theorem t_X7_sum {l : Launch} {γ : xG} {a1 : Int32} {h : xH} {r : Int32} {hr : xH} (e : f_X7_sum a1 h = some (r, hr)) : xCT l γ xSM yX7_sum cX7_sum 3 (some .boolean) 208 [.ref (γ.2.2.2 0), .int a1] h (some (.int r)) hr := (t_X7_rec 200).2.2.2.1 _ _ _ _ e
def f_X7_term (a1 : Int32) (h : xH) : Option (Int32 × xH) := f_X7_rec 200 4 a1 0 0 h
theorem t_X7_term {l : Launch} {γ : xG} {a1 : Int32} {h : xH} {r : Int32} {hr : xH} (e : f_X7_term a1 h = some (r, hr)) : xCT l γ xSM yX7_term cX7_term 3 (some .boolean) 208 [.ref (γ.2.2.2 0), .int a1] h (some (.int r)) hr := (t_X7_rec 200).2.2.2.2.1 _ _ _ _ e
def f_X7_part0 (a1 : Int32) (h : xH) : Option (Int32 × xH) := f_X7_rec 200 5 a1 0 0 h
theorem t_X7_part0 {l : Launch} {γ : xG} {a1 : Int32} {h : xH} {r : Int32} {hr : xH} (e : f_X7_part0 a1 h = some (r, hr)) : xCT l γ xSM yX7_part0 cX7_part0 2 (some .boolean) 208 [.ref (γ.2.2.2 0), .int a1] h (some (.int r)) hr := (t_X7_rec 200).2.2.2.2.2 _ _ _ _ e
def f_X7_parse_c111 (v1 : Int32) (v2 : Int32) (h : xH) : Option (Int32 × xH) :=
    nm (xst h 0 15 0) fun h1 => if v2 = 0 then (some ((-1), h1)) else (some (v1, h1))
set_option maxRecDepth 20000 in
set_option maxHeartbeats 2000000 in
theorem t_X7_parse_c111 {l : Launch} {γ : xG} {r : Int32} {hr : xH} {C : xCx} (hF : xF C cX7_parse RX7 3 209 γ xSM (some (.int r)) hr l (some .int)) : ∀ (v1 : Int32) (v2 : Int32) (h : xH), f_X7_parse_c111 v1 v2 h = some (r, hr) → xB C h 111 [some (.ref (γ.2.2.2 0)), some (.int v1), some (.int v2)] [] := by
  intro v1 v2 h e
  unfold f_X7_parse_c111 at e
  refine xB_aload_n hF dX7_parse_111 rfl ?_
  refine xB_iconst hF dX7_parse_112 ki_0 ?_
  refine xB_put hF dX7_parse_113 fp_X7_213 sM_0 rfl rfl rfl rfl rfl ?_
  refine xB_gen e (fun h1 e => ?_)
  refine xB_iload_n hF dX7_parse_116 rfl ?_
  refine xB_if_eq (tgt := 124) hF dX7_parse_117 rfl e (fun _ e => ?_) (fun _ e => ?_)
  · refine xB_iconst hF dX7_parse_124 ki_m1 ?_
    exact xB_ireturn hF dX7_parse_125 e
  · refine xB_iload_n hF dX7_parse_120 rfl ?_
    refine xB_goto (tgt := 125) hF dX7_parse_121 rfl ?_
    exact xB_ireturn hF dX7_parse_125 e
def f_X7_parse_c110 (v1 : Int32) (s0 : Int32) (h : xH) : Option (Int32 × xH) :=
    f_X7_parse_c111 v1 s0 h
set_option maxRecDepth 20000 in
set_option maxHeartbeats 2000000 in
theorem t_X7_parse_c110 {l : Launch} {γ : xG} {r : Int32} {hr : xH} {C : xCx} (hF : xF C cX7_parse RX7 3 209 γ xSM (some (.int r)) hr l (some .int)) : ∀ (v1 : Int32) (s0 : Int32) (h : xH), f_X7_parse_c110 v1 s0 h = some (r, hr) → xB C h 110 [some (.ref (γ.2.2.2 0)), some (.int v1), none] [.int s0] := by
  intro v1 s0 h e
  unfold f_X7_parse_c110 at e
  refine xB_istore_n (L' := [_, _, _]) hF dX7_parse_110 rfl rfl rfl ?_
  exact xB_l (t_X7_parse_c111 hF _ _ _ e) (And.intro rfl (And.intro rfl (And.intro rfl (True.intro))))
def f_X7_parse_c109 (v1 : Int32) (h : xH) : Option (Int32 × xH) :=
    f_X7_parse_c110 v1 0 h
set_option maxRecDepth 20000 in
set_option maxHeartbeats 2000000 in
theorem t_X7_parse_c109 {l : Launch} {γ : xG} {r : Int32} {hr : xH} {C : xCx} (hF : xF C cX7_parse RX7 3 209 γ xSM (some (.int r)) hr l (some .int)) : ∀ (v1 : Int32) (h : xH), f_X7_parse_c109 v1 h = some (r, hr) → xB C h 109 [some (.ref (γ.2.2.2 0)), some (.int v1), none] [] := by
  intro v1 h e
  unfold f_X7_parse_c109 at e
  refine xB_iconst hF dX7_parse_109 ki_0 ?_
  exact xB_l (t_X7_parse_c110 hF _ _ _ e) (And.intro rfl (And.intro rfl (True.intro)))
def f_X7_parse_c81 (v1 : Int32) (s0 : Int32) (h : xH) : Option (Int32 × xH) :=
    if s0 = 0 then (f_X7_parse_c111 v1 s0 h) else (bn (f_X7_nextToken h) fun r1 h2 => bn (f_X7_either v1 h2) fun r4 h5 => if r4 = 0 then (f_X7_parse_c109 v1 h5) else (if (h5 0 18) = 0 then (f_X7_parse_c110 v1 1 h5) else (f_X7_parse_c109 v1 h5)))
set_option maxRecDepth 20000 in
set_option maxHeartbeats 2000000 in
theorem t_X7_parse_c81 {l : Launch} {γ : xG} {r : Int32} {hr : xH} {C : xCx} (hF : xF C cX7_parse RX7 3 209 γ xSM (some (.int r)) hr l (some .int)) : ∀ (v1 : Int32) (s0 : Int32) (h : xH), f_X7_parse_c81 v1 s0 h = some (r, hr) → xB C h 81 [some (.ref (γ.2.2.2 0)), some (.int v1), none] [.int s0] := by
  intro v1 s0 h e
  unfold f_X7_parse_c81 at e
  refine xB_istore_n (L' := [_, _, _]) hF dX7_parse_81 rfl rfl rfl ?_
  refine xB_iload_n hF dX7_parse_82 rfl ?_
  refine xB_if_eq (tgt := 111) hF dX7_parse_83 rfl e (fun _ e => ?_) (fun _ e => ?_)
  · exact xB_l (t_X7_parse_c111 hF _ _ _ e) (And.intro rfl (And.intro rfl (And.intro rfl (True.intro))))
  · refine xB_aload_n hF dX7_parse_86 rfl ?_
    obtain ⟨r1, h2, e3, e⟩ := bn_of e
    refine xB_callVv hF dX7_parse_87 (t_X7_nextToken e3) cw_X7_266 sM_0 rfl rfl rfl rfl rfl ?_
    refine xB_aload_n hF dX7_parse_90 rfl ?_
    refine xB_iload_n hF dX7_parse_91 rfl ?_
    obtain ⟨r4, h5, e6, e⟩ := bn_of e
    refine xB_callVi hF dX7_parse_92 (t_X7_either e6) cw_X7_297 sM_0 rfl rfl rfl rfl rfl ?_
    refine xB_if_eq (tgt := 109) hF dX7_parse_95 rfl e (fun _ e => ?_) (fun _ e => ?_)
    · exact xB_l (t_X7_parse_c109 hF _ _ e) (And.intro rfl (And.intro rfl (True.intro)))
    · refine xB_aload_n hF dX7_parse_98 rfl ?_
      refine xB_get hF dX7_parse_99 fl_X7_228 sM_0 rfl rfl ?_
      refine xB_if_ne (tgt := 109) hF dX7_parse_102 rfl e (fun _ e => ?_) (fun _ e => ?_)
      · refine xB_iconst hF dX7_parse_105 ki_1 ?_
        refine xB_goto (tgt := 110) hF dX7_parse_106 rfl ?_
        exact xB_l (t_X7_parse_c110 hF _ _ _ e) (And.intro rfl (And.intro rfl (True.intro)))
      · exact xB_l (t_X7_parse_c109 hF _ _ e) (And.intro rfl (And.intro rfl (True.intro)))
def f_X7_parse_c60 (s0 : Int32) (h : xH) : Option (Int32 × xH) :=
    nm (xst h 0 24 s0) fun h1 => bn (f_X7_nextToken h1) fun r2 h3 => bn (f_X7_key h3) fun r5 h6 => if r5 < 0 then (f_X7_parse_c81 r5 0 h6) else (f_X7_parse_c81 r5 1 h6)
set_option maxRecDepth 20000 in
set_option maxHeartbeats 2000000 in
theorem t_X7_parse_c60 {l : Launch} {γ : xG} {r : Int32} {hr : xH} {C : xCx} (hF : xF C cX7_parse RX7 3 209 γ xSM (some (.int r)) hr l (some .int)) : ∀ (s0 : Int32) (h : xH), f_X7_parse_c60 s0 h = some (r, hr) → xB C h 60 [some (.ref (γ.2.2.2 0)), none, none] [.int s0, .ref (γ.2.2.2 0)] := by
  intro s0 h e
  unfold f_X7_parse_c60 at e
  refine xB_put hF dX7_parse_60 fp_X7_254 sM_0 rfl rfl rfl rfl rfl ?_
  refine xB_gen e (fun h1 e => ?_)
  refine xB_aload_n hF dX7_parse_63 rfl ?_
  obtain ⟨r2, h3, e4, e⟩ := bn_of e
  refine xB_callVv hF dX7_parse_64 (t_X7_nextToken e4) cw_X7_266 sM_0 rfl rfl rfl rfl rfl ?_
  refine xB_aload_n hF dX7_parse_67 rfl ?_
  obtain ⟨r5, h6, e7, e⟩ := bn_of e
  refine xB_callVi hF dX7_parse_68 (t_X7_key e7) cw_X7_303 sM_0 rfl rfl rfl rfl rfl ?_
  refine xB_istore_n (L' := [_, _, _]) hF dX7_parse_71 rfl rfl rfl ?_
  refine xB_iload_n hF dX7_parse_72 rfl ?_
  refine xB_if_lt (tgt := 80) hF dX7_parse_73 rfl e (fun _ e => ?_) (fun _ e => ?_)
  · refine xB_iconst hF dX7_parse_80 ki_0 ?_
    exact xB_l (t_X7_parse_c81 hF _ _ _ e) (And.intro rfl (And.intro rfl (True.intro)))
  · refine xB_iconst hF dX7_parse_76 ki_1 ?_
    refine xB_goto (tgt := 81) hF dX7_parse_77 rfl ?_
    exact xB_l (t_X7_parse_c81 hF _ _ _ e) (And.intro rfl (And.intro rfl (True.intro)))
def f_X7_parse (h : xH) : Option (Int32 × xH) :=
    nm (xst h 0 17 0) fun h1 => nm (xst h1 0 18 3) fun h2 => nm (xst h2 0 21 0) fun h3 => nm (xst h3 0 22 0) fun h4 => nm (xst h4 0 23 0) fun h5 => nm (xst h5 0 25 0) fun h6 => gd 1 3078 <| if 14 ≤ (h6 1 (Int32.toNatClampNeg 1)) then (f_X7_parse_c60 2878 h6) else (gd 1 3078 <| bn (f_X7_textAt (h6 1 (Int32.toNatClampNeg 1)) h6) fun r7 h8 => f_X7_parse_c60 (r7 + 4) h8)
set_option maxRecDepth 20000 in
set_option maxHeartbeats 2000000 in
theorem t_X7_parse {l : Launch} {γ : xG} {h : xH} {r : Int32} {hr : xH} (e : f_X7_parse h = some (r, hr)) : xCT l γ xSM yX7_parse cX7_parse 3 (some .int) 209 [.ref (γ.2.2.2 0)] h (some (.int r)) hr := by
  refine xCT.of (own := RX7) (L := [some (.ref (γ.2.2.2 0)), none, none]) (by decide) rfl rfl rfl (fun C hF => ?_)
  unfold f_X7_parse at e
  refine xB_aload_n hF dX7_parse_0 rfl ?_
  refine xB_iconst hF dX7_parse_1 ki_0 ?_
  refine xB_put hF dX7_parse_2 fp_X7_225 sM_0 rfl rfl rfl rfl rfl ?_
  refine xB_gen e (fun h1 e => ?_)
  refine xB_aload_n hF dX7_parse_5 rfl ?_
  refine xB_iconst hF dX7_parse_6 ki_3 ?_
  refine xB_put hF dX7_parse_7 fp_X7_228 sM_0 rfl rfl rfl rfl rfl ?_
  refine xB_gen e (fun h2 e => ?_)
  refine xB_aload_n hF dX7_parse_10 rfl ?_
  refine xB_iconst hF dX7_parse_11 ki_0 ?_
  refine xB_put hF dX7_parse_12 fp_X7_294 sM_0 rfl rfl rfl rfl rfl ?_
  refine xB_gen e (fun h3 e => ?_)
  refine xB_aload_n hF dX7_parse_15 rfl ?_
  refine xB_iconst hF dX7_parse_16 ki_0 ?_
  refine xB_put hF dX7_parse_17 fp_X7_291 sM_0 rfl rfl rfl rfl rfl ?_
  refine xB_gen e (fun h4 e => ?_)
  refine xB_aload_n hF dX7_parse_20 rfl ?_
  refine xB_iconst hF dX7_parse_21 ki_0 ?_
  refine xB_put hF dX7_parse_22 fp_X7_257 sM_0 rfl rfl rfl rfl rfl ?_
  refine xB_gen e (fun h5 e => ?_)
  refine xB_aload_n hF dX7_parse_25 rfl ?_
  refine xB_iconst hF dX7_parse_26 ki_0 ?_
  refine xB_put hF dX7_parse_27 fp_X7_285 sM_0 rfl rfl rfl rfl rfl ?_
  refine xB_gen e (fun h6 e => ?_)
  refine xB_aload_n hF dX7_parse_30 rfl ?_
  refine xB_aload_n hF dX7_parse_31 rfl ?_
  refine xB_get hF dX7_parse_32 fl_X7_7 sM_0 rfl rfl ?_
  refine xB_iconst hF dX7_parse_35 ki_1 ?_
  refine xB_iald hF dX7_parse_36 sM_1 e (fun e => ?_)
  refine xB_bipush hF dX7_parse_37 kb_14 ?_
  refine xB_icmp_ge (tgt := 57) hF dX7_parse_39 rfl e (fun _ e => ?_) (fun _ e => ?_)
  · refine xB_sipush hF dX7_parse_57 ks_2878 ?_
    exact xB_l (t_X7_parse_c60 hF _ _ e) (And.intro rfl (True.intro))
  · refine xB_aload_n hF dX7_parse_42 rfl ?_
    refine xB_aload_n hF dX7_parse_43 rfl ?_
    refine xB_get hF dX7_parse_44 fl_X7_7 sM_0 rfl rfl ?_
    refine xB_iconst hF dX7_parse_47 ki_1 ?_
    refine xB_iald hF dX7_parse_48 sM_1 e (fun e => ?_)
    obtain ⟨r7, h8, e9, e⟩ := bn_of e
    refine xB_callVi hF dX7_parse_49 (t_X7_textAt e9) cw_X7_300 sM_0 rfl rfl rfl rfl rfl ?_
    refine xB_iconst hF dX7_parse_52 ki_4 ?_
    refine xB_iadd hF dX7_parse_53 ?_
    refine xB_goto (tgt := 60) hF dX7_parse_54 rfl ?_
    exact xB_l (t_X7_parse_c60 hF _ _ e) (And.intro rfl (True.intro))
def f_X7_text (h : xH) : Option (Int32 × xH) :=
    bn (f_X7_parse h) fun r1 h2 => if 0 ≤ r1 then (gd 1 3078 <| if (h2 1 (Int32.toNatClampNeg 1)) = 14 then (some ((-1000000003), h2)) else (gd 1 3078 <| bn (f_X7_textAt (h2 1 (Int32.toNatClampNeg 1)) h2) fun r4 h5 => gd (r4 + 0) 3078 <| nm (xst h5 1 (Int32.toNatClampNeg (r4 + 0)) r1) fun h7 => gd (r4 + 1) 3078 <| nm (xst h7 1 (Int32.toNatClampNeg (r4 + 1)) (h7 0 25)) fun h8 => gd (r4 + 2) 3078 <| nm (xst h8 1 (Int32.toNatClampNeg (r4 + 2)) (h8 0 23)) fun h9 => gd 1 3078 <| gd 1 3078 <| nm (xst h9 1 (Int32.toNatClampNeg 1) ((h9 1 (Int32.toNatClampNeg 1)) + 1)) fun h10 => gd 1 3078 <| some ((h10 1 (Int32.toNatClampNeg 1)) - 1, h10))) else (some ((-100) - (h2 0 16), h2))
set_option maxRecDepth 20000 in
set_option maxHeartbeats 2000000 in
theorem t_X7_text {l : Launch} {γ : xG} {h : xH} {r : Int32} {hr : xH} (e : f_X7_text h = some (r, hr)) : xCT l γ xSM yX7_text cX7_text 3 (some .int) 210 [.ref (γ.2.2.2 0)] h (some (.int r)) hr := by
  refine xCT.of (own := RX7) (L := [some (.ref (γ.2.2.2 0)), none, none]) (by decide) rfl rfl rfl (fun C hF => ?_)
  unfold f_X7_text at e
  refine xB_aload_n hF dX7_text_0 rfl ?_
  obtain ⟨r1, h2, e3, e⟩ := bn_of e
  refine xB_callVi hF dX7_text_1 (t_X7_parse e3) cw_X7_306 sM_0 rfl rfl rfl rfl rfl ?_
  refine xB_istore_n (L' := [_, _, _]) hF dX7_text_4 rfl rfl rfl ?_
  refine xB_iload_n hF dX7_text_5 rfl ?_
  refine xB_if_ge (tgt := 17) hF dX7_text_6 rfl e (fun _ e => ?_) (fun _ e => ?_)
  · refine xB_aload_n hF dX7_text_17 rfl ?_
    refine xB_get hF dX7_text_18 fl_X7_7 sM_0 rfl rfl ?_
    refine xB_iconst hF dX7_text_21 ki_1 ?_
    refine xB_iald hF dX7_text_22 sM_1 e (fun e => ?_)
    refine xB_bipush hF dX7_text_23 kb_14 ?_
    refine xB_icmp_ne (tgt := 31) hF dX7_text_25 rfl e (fun _ e => ?_) (fun _ e => ?_)
    · refine xB_ldc hF dX7_text_28 kc_X7_88 ?_
      exact xB_ireturn hF dX7_text_30 e
    · refine xB_aload_n hF dX7_text_31 rfl ?_
      refine xB_aload_n hF dX7_text_32 rfl ?_
      refine xB_get hF dX7_text_33 fl_X7_7 sM_0 rfl rfl ?_
      refine xB_iconst hF dX7_text_36 ki_1 ?_
      refine xB_iald hF dX7_text_37 sM_1 e (fun e => ?_)
      obtain ⟨r4, h5, e6, e⟩ := bn_of e
      refine xB_callVi hF dX7_text_38 (t_X7_textAt e6) cw_X7_300 sM_0 rfl rfl rfl rfl rfl ?_
      refine xB_istore_n (L' := [_, _, _]) hF dX7_text_41 rfl rfl rfl ?_
      refine xB_aload_n hF dX7_text_42 rfl ?_
      refine xB_get hF dX7_text_43 fl_X7_7 sM_0 rfl rfl ?_
      refine xB_iload_n hF dX7_text_46 rfl ?_
      refine xB_iconst hF dX7_text_47 ki_0 ?_
      refine xB_iadd hF dX7_text_48 ?_
      refine xB_iload_n hF dX7_text_49 rfl ?_
      refine xB_iast hF dX7_text_50 sM_1 e (fun e => ?_)
      refine xB_gen e (fun h7 e => ?_)
      refine xB_aload_n hF dX7_text_51 rfl ?_
      refine xB_get hF dX7_text_52 fl_X7_7 sM_0 rfl rfl ?_
      refine xB_iload_n hF dX7_text_55 rfl ?_
      refine xB_iconst hF dX7_text_56 ki_1 ?_
      refine xB_iadd hF dX7_text_57 ?_
      refine xB_aload_n hF dX7_text_58 rfl ?_
      refine xB_get hF dX7_text_59 fl_X7_285 sM_0 rfl rfl ?_
      refine xB_iast hF dX7_text_62 sM_1 e (fun e => ?_)
      refine xB_gen e (fun h8 e => ?_)
      refine xB_aload_n hF dX7_text_63 rfl ?_
      refine xB_get hF dX7_text_64 fl_X7_7 sM_0 rfl rfl ?_
      refine xB_iload_n hF dX7_text_67 rfl ?_
      refine xB_iconst hF dX7_text_68 ki_2 ?_
      refine xB_iadd hF dX7_text_69 ?_
      refine xB_aload_n hF dX7_text_70 rfl ?_
      refine xB_get hF dX7_text_71 fl_X7_257 sM_0 rfl rfl ?_
      refine xB_iast hF dX7_text_74 sM_1 e (fun e => ?_)
      refine xB_gen e (fun h9 e => ?_)
      refine xB_aload_n hF dX7_text_75 rfl ?_
      refine xB_get hF dX7_text_76 fl_X7_7 sM_0 rfl rfl ?_
      refine xB_iconst hF dX7_text_79 ki_1 ?_
      refine xB_dup2 hF dX7_text_80 rfl rfl ?_
      refine xB_iald hF dX7_text_81 sM_1 e (fun e => ?_)
      refine xB_iconst hF dX7_text_82 ki_1 ?_
      refine xB_iadd hF dX7_text_83 ?_
      refine xB_iast hF dX7_text_84 sM_1 e (fun e => ?_)
      refine xB_gen e (fun h10 e => ?_)
      refine xB_aload_n hF dX7_text_85 rfl ?_
      refine xB_get hF dX7_text_86 fl_X7_7 sM_0 rfl rfl ?_
      refine xB_iconst hF dX7_text_89 ki_1 ?_
      refine xB_iald hF dX7_text_90 sM_1 e (fun e => ?_)
      refine xB_iconst hF dX7_text_91 ki_1 ?_
      refine xB_isub hF dX7_text_92 ?_
      exact xB_ireturn hF dX7_text_93 e
  · refine xB_bipush hF dX7_text_9 kb_m100 ?_
    refine xB_aload_n hF dX7_text_11 rfl ?_
    refine xB_get hF dX7_text_12 fl_X7_231 sM_0 rfl rfl ?_
    refine xB_isub hF dX7_text_15 ?_
    exact xB_ireturn hF dX7_text_16 e
