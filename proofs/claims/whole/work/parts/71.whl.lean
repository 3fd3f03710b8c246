/-! the law, from its entry -/
/-- the places' addresses, once they are known -/
def gC (γ : xG) (a : Nat) (α : Nat → Nat) : xG := (γ.1, γ.2.1, γ.2.2.1, fun z => if z = 0 then a else α z)
theorem xws_len {γ : xG} {S : xS} {h : xH} : (xws γ S h).length = S.length := by rw [xws, List.length_mapIdx]
theorem rCall {p : Program} {l : Launch} {e : Env} {R : Room} {s : State} {m : MethodId} {args : Array Value} {below : List Frame} {meth : Method} {c : Code} {H : Heap} {locs : List Loc} {cells slots : Nat} {Q : State → Prop} {γ : xG} {cc : ByteArray} {nL : Nat} {own : String} {A : Nat → Prop} {idx f1 mc1 ms1 nL1 a pc : Nat} {y : MethodName} {cc1 : ByteArray} {W2 : (Nat → Nat) → va_W} {wr : va_W} {e0 : va_E} {wf : (Nat → Nat) → va_W} {ls : Array Slot} {st : List Value} (hx : p.tables.exec = Jvm.exec) (hb : c.code = cc) (hml : c.maxLocals = nL) (hown : s.vm.findClass own = some m.cls) (hts : ∀ w ∈ xWS, w.before args s = true) (hK : va_K γ.1 vwCl (xTy γ) s) (hSt : xSt γ.2.2.1 A s s.heap) (hnx : nX γ s) (hA : ∀ q, s.heap.size ≤ q → A q) (g1 : va_P γ.1 vwCl (wr ++ [(a, e0)]) H) (g2 : va_D A (wr ++ [(a, e0)])) (g3 : va_S A s.heap H locs) (hM : nCT l γ y cc1 nL1 f1 mc1 ms1 [.ref a] [(a, e0)] W2) (hl : Cond.methodLink own idx y ∈ xWS) (hw : Cond.instanceMethod y ∈ xWS ∧ Cond.initialized y.cls ∈ xWS ∧ Cond.code y cc1 nL1 none ∈ xWS ∧ y.name = "<init>" ∧ y.cls ≠ "java/lang/invoke/MethodHandle" ∧ y.cls ≠ "java/lang/invoke/VarHandle" ∧ (parseMethodDescriptor y.desc).map (fun d => d.parameters.length) = some 0) (hls : ls.size = nL) (hsum : (st.map fun v => v.category).sum ≤ 8) (hd : decode cc pc = .ok (.invokespecial idx, 3)) (hh : f1 + 1 ≤ R.frames) (hlo : 8 + (nL1 + 11) + 48 * f1 ≤ R.locals) (hkc : cells + mc1 ≤ R.cells) (hks : slots + ms1 ≤ R.slots) (hwf : ∀ α, wr ++ W2 α = wf α)
    (kk : ∀ (α : Nat → Nat) (H1 : Heap) (locs1 : List Loc), va_P γ.1 vwCl (wf α) H1 → va_D A (wf α) → va_S A s.heap H1 locs1 → W p l e R s m args below meth c H1 locs1 (cells + mc1) (slots + ms1) Q (F0 m (pc + 3) ls st)) : W p l e R s m args below meth c H locs cells slots Q (F0 m pc ls (.ref a :: st)) := by
  have w4 := hw.2.2.1
  refine nrun (va_runI (As := []) (rest := st) (n := 0) (Ts := xWS) ⟨hx, hb, hml, hown, hts⟩ (hM H.size) (cwI 0 hts (xGood (fun w hw => ?_)) rfl rfl rfl (hts _ hw.2.1) (hts _ hl) (hts _ hw.1) hw.2.2.2.1 ⟨hw.2.2.2.2.1, hw.2.2.2.2.2.1, hw.2.2.2.2.2.2⟩ ⟨hh, hlo⟩) ⟨nP_blind, fun U hU hW => nPre hK hSt hnx hA g1 g2 g3 hU hW⟩ rfl rfl hls rfl (by show 2 * 0 + _ ≤ 8; omega) hd ⟨hkc, hks⟩) g1 g2 hA g3 (fun α H1 locs1 q1 q2 q3 => kk α H1 locs1 (by rw [← hwf α]; exact q1) (by rw [← hwf α]; exact q2) q3)
  rcases List.mem_cons.mp hw with rfl | hw
  · exact w4
  · exact hw
theorem rl_X6 : Cond.methodLink RL 9 yX6_init ∈ xWS := (xWS_mem 84 (by decide +kernel) rfl)
theorem rw_X6 : Cond.instanceMethod yX6_init ∈ xWS ∧ Cond.initialized yX6_init.cls ∈ xWS ∧ Cond.code yX6_init cX6_init 2 none ∈ xWS ∧ yX6_init.name = "<init>" ∧ yX6_init.cls ≠ "java/lang/invoke/MethodHandle" ∧ yX6_init.cls ≠ "java/lang/invoke/VarHandle" ∧ (parseMethodDescriptor yX6_init.desc).map (fun d => d.parameters.length) = some 0 := ⟨(xWS_mem 85 (by decide +kernel) rfl), (xWS_mem 66 (by decide +kernel) rfl), (xWS_mem 86 (by decide +kernel) rfl), rfl, by decide +kernel, by decide +kernel, by decide +kernel⟩
theorem rl_X7 : Cond.methodLink RL 12 yX7_init ∈ xWS := (xWS_mem 919 (by decide +kernel) rfl)
theorem rw_X7 : Cond.instanceMethod yX7_init ∈ xWS ∧ Cond.initialized yX7_init.cls ∈ xWS ∧ Cond.code yX7_init cX7_init 2 none ∈ xWS ∧ yX7_init.name = "<init>" ∧ yX7_init.cls ≠ "java/lang/invoke/MethodHandle" ∧ yX7_init.cls ≠ "java/lang/invoke/VarHandle" ∧ (parseMethodDescriptor yX7_init.desc).map (fun d => d.parameters.length) = some 0 := ⟨(xWS_mem 920 (by decide +kernel) rfl), (xWS_mem 73 (by decide +kernel) rfl), (xWS_mem 921 (by decide +kernel) rfl), rfl, by decide +kernel, by decide +kernel, by decide +kernel⟩
theorem start3 {p : Program} {e : Env} {s : State} {m : MethodId} {below : List Frame} {meth : Method} {c : Code} (l : Launch) {b L : Nat} {xs : Nat → Int32} (hL : L ≤ 384) (C0 : lw_At p s m meth c b L xs) {γ : xG} (hK : va_K γ.1 vwCl (xTy γ) s) (hSt : xSt γ.2.2.1 (fun q : Nat => s.heap.size ≤ q) s s.heap) (hnx : nX γ s) {q0 q1 : Nat} {α0 α1 : Nat → Nat} {H : Heap} {locs : List Loc} {ls : Array Slot} (hP : va_P γ.1 vwCl (xws (gC γ q0 α0) xSC h0C ++ xws (gC γ q1 α1) xSM h0M) H) (hD : va_D (fun q : Nat => s.heap.size ≤ q) (xws (gC γ q0 α0) xSC h0C ++ xws (gC γ q1 α1) xSM h0M)) (hS : va_S (fun q : Nat => s.heap.size ≤ q) s.heap H locs) (hl : lv_has ls 4 (xlg 0 [some (.ref b), some (.ref q0), some (.ref q1), some (.int 0)])) : W p l e room_1 s m #[Value.ref b] below meth c H locs 105 12434 (lw_Z below #[Value.ref b] s) (F0 m 18 ls []) := by
  obtain ⟨hx, hb, hr, hml, hown, hts, hX, hbl, hlocks, hgv⟩ := id C0
  have htX : ∀ w ∈ xWS, w.before #[Value.ref b] s = true := fun w hw => hts w (xWS_sub hw)
  have lC : (xws (gC γ q0 α0) xSC h0C).length = 85 := xws_len
  have inL : ∀ (i : Nat) (q : Nat × va_E), (xws (gC γ q0 α0) xSC h0C)[i]? = some q → (xws (gC γ q0 α0) xSC h0C ++ xws (gC γ q1 α1) xSM h0M)[i]? = some q := fun i q hq => by
    rw [List.getElem?_append_left (List.getElem?_eq_some_iff.mp hq).1]; exact hq
  have inR : ∀ (i : Nat) (q : Nat × va_E), (xws (gC γ q1 α1) xSM h0M)[i]? = some q → (xws (gC γ q0 α0) xSC h0C ++ xws (gC γ q1 α1) xSM h0M)[85 + i]? = some q := fun i q hq => by
    rw [List.getElem?_append_right (by rw [lC]; omega), lC, Nat.add_sub_cancel_left]; exact hq
  have hdj : ∀ i j, i < 85 → j < 20 → (gC γ q0 α0).2.2.2 i ≠ (gC γ q1 α1).2.2.2 j := by
    intro i j hi hj q
    obtain ⟨f1, e1⟩ : ∃ f, xSC[i]? = some f := ⟨_, List.getElem?_eq_getElem (show i < xSC.length from hi)⟩
    obtain ⟨f2, e2⟩ : ∃ f, xSM[j]? = some f := ⟨_, List.getElem?_eq_getElem (show j < xSM.length from hj)⟩
    have := hD.1 i (85 + j) _ _ (inL i _ (xws_get e1)) (inR j _ (xws_get e2)) q
    omega
  have hF : lF (p, l, e, s, m, below, meth, c, b) (gC γ q0 α0) (gC γ q1 α1) l L xs b := ⟨hx, hb, hml, rfl, rfl, hown, htX, hK, hK, hSt, hSt, hX, hbl, hdj, hr, hlocks⟩
  have hgo := law_loop (Rf := Rk) hL hF (fun k hk => sim_all hk) (fun k hk hc hm h => Rk_up hk h) (L + 7) 0 0 rfl (by omega) (by omega) h0C h0M Rk_0
  refine hgo H locs ls (fun i q hq => hP i q (inL i q hq)) (fun i q hq => hP (85 + i) q (inR i q hq)) ⟨fun i j a b h1 h2 h3 => hD.1 i j a b (inL i a h1) (inL j b h2) h3, fun i q h => hD.2 i q (inL i q h)⟩ ⟨fun i j a b h1 h2 h3 => ?_, fun i q h => hD.2 (85 + i) q (inR i q h)⟩ hS hl
  have := hD.1 (85 + i) (85 + j) a b (inR i a h1) (inR j b h2) h3
  omega
theorem start2 {p : Program} {e : Env} {s : State} {m : MethodId} {below : List Frame} {meth : Method} {c : Code} (l : Launch) {b L : Nat} {xs : Nat → Int32} (hL : L ≤ 384) (C0 : lw_At p s m meth c b L xs) {γ : xG} (hK : va_K γ.1 vwCl (xTy γ) s) (hSt : xSt γ.2.2.1 (fun q : Nat => s.heap.size ≤ q) s s.heap) (hnx : nX γ s) {q0 : Nat} {α0 : Nat → Nat} {H : Heap} {locs : List Loc} {ls : Array Slot} (hP : va_P γ.1 vwCl (xws (gC γ q0 α0) xSC h0C) H) (hD : va_D (fun q : Nat => s.heap.size ≤ q) (xws (gC γ q0 α0) xSC h0C)) (hS : va_S (fun q : Nat => s.heap.size ≤ q) s.heap H locs) (hl : lv_has ls 4 (xlg 0 [some (.ref b), some (.ref q0), none, none])) : W p l e room_1 s m #[Value.ref b] below meth c H locs 85 2368 (lw_Z below #[Value.ref b] s) (F0 m 8 ls []) := by
  obtain ⟨hx, hb, hr, hml, hown, hts, hX, hbl, hlocks, hgv⟩ := id C0
  have htX : ∀ w ∈ xWS, w.before #[Value.ref b] s = true := fun w hw => hts w (xWS_sub hw)
  have hA : ∀ q : Nat, s.heap.size ≤ q → (fun q : Nat => s.heap.size ≤ q) q := fun _ h => h
  refine va_new (ci := 7) (fs := [.null, .null, .null, .int 0, .null, .null, .null, .null, .null, .null, .null, .null, .null, .null, .null, .int 0, .int 0, .int 0, .int 0, .int 0, .int 0, .int 0, .int 0, .int 0, .int 0, .int 0, .null, .null, .null, .null, .int 0, .null]) (C := RX7) (T := TX7) (N := 32) hx hb htX inX7 tyX7 tyX7_ok hown (htX (.classLink RL 10 RX7) (xWS_mem 917 (by decide +kernel) rfl)) (htX (.instantiable RX7 32) (xWS_mem 918 (by decide +kernel) rfl)) (htX (.initialized RX7) (xWS_mem 73 (by decide +kernel) rfl)) hK hP hD hS hA rfl dfX7 (Nat.le_of_ble_eq_true rfl) (Nat.le_of_ble_eq_true rfl) dL_law_8.1 (fun q1 H hP hD hS => ?_)
  refine lv_dup hx hb dL_law_11.1 rfl ?_
  refine rCall (γ := γ) (wr := xws (gC γ q0 α0) xSC h0C) (wf := fun α => xws (gC γ q0 α0) xSC h0C ++ xws (gC γ q1 α) xSM h0M) (y := yX7_init) hx hb hml hown htX hK hSt hnx hA hP hD hS (n_X7 (γ := γ) (a := q1)) rl_X7 rw_X7 hl.1 (Nat.le_of_ble_eq_true rfl) dL_law_12.1 (Nat.le_of_ble_eq_true rfl) (Nat.le_of_ble_eq_true rfl) (Nat.le_of_ble_eq_true rfl) (Nat.le_of_ble_eq_true rfl) (fun _ => rfl) (fun α1 H locs1 hP hD hS => ?_)
  refine lv_astore_n hx hb dL_law_15.1 rfl hl (by decide) rfl (fun ls hl => ?_)
  have hl := xl_set (L := [some (.ref b), some (.ref q0), none, none]) (i := 2) (v := .ref q1) rfl hl
  refine lv_iconst (v := 0) hx hb dL_law_16.1 rfl ?_
  refine lv_istore_n hx hb dL_law_17.1 rfl hl (by decide) rfl (fun ls hl => ?_)
  have hl := xl_set (L := [some (.ref b), some (.ref q0), some (.ref q1), none]) (i := 3) (v := .int 0) rfl hl
  exact start3 l hL C0 hK hSt hnx hP hD hS hl
theorem start1 {p : Program} {e : Env} {s : State} {m : MethodId} {below : List Frame} {meth : Method} {c : Code} (l : Launch) {b L : Nat} {xs : Nat → Int32} (hL : L ≤ 384) (C0 : lw_At p s m meth c b L xs) {γ : xG} (hK : va_K γ.1 vwCl (xTy γ) s) (hSt : xSt γ.2.2.1 (fun q : Nat => s.heap.size ≤ q) s s.heap) (hnx : nX γ s) {ls : Array Slot} (hl : lv_has ls 4 (xlg 0 [some (.ref b), none, none, none])) : W p l e room_1 s m #[Value.ref b] below meth c s.heap [] 0 0 (lw_Z below #[Value.ref b] s) (F0 m 0 ls []) := by
  obtain ⟨hx, hb, hr, hml, hown, hts, hX, hbl, hlocks, hgv⟩ := id C0
  have htX : ∀ w ∈ xWS, w.before #[Value.ref b] s = true := fun w hw => hts w (xWS_sub hw)
  have hA : ∀ q : Nat, s.heap.size ≤ q → (fun q : Nat => s.heap.size ≤ q) q := fun _ h => h
  have hS : va_S (fun q : Nat => s.heap.size ≤ q) s.heap s.heap [] := va_S.rf
  have hP : va_P γ.1 vwCl [] s.heap := fun k q h => by simp at h
  have hD : va_D (fun q : Nat => s.heap.size ≤ q) [] := ⟨fun i j p q h => by simp at h, fun k q h => by simp at h⟩
  refine va_new (ci := 6) (fs := [.null, .null, .null, .null, .null, .null, .null, .null, .null, .null, .int 0, .int 0]) (C := RX6) (T := TX6) (N := 12) hx hb htX inX6 tyX6 tyX6_ok hown (htX (.classLink RL 7 RX6) (xWS_mem 82 (by decide +kernel) rfl)) (htX (.instantiable RX6 12) (xWS_mem 83 (by decide +kernel) rfl)) (htX (.initialized RX6) (xWS_mem 66 (by decide +kernel) rfl)) hK hP hD hS hA rfl dfX6 (Nat.le_of_ble_eq_true rfl) (Nat.le_of_ble_eq_true rfl) dL_law_0.1 (fun q0 H hP hD hS => ?_)
  refine lv_dup hx hb dL_law_3.1 rfl ?_
  refine rCall (γ := γ) (wr := []) (wf := fun α => xws (gC γ q0 α) xSC h0C) (y := yX6_init) hx hb hml hown htX hK hSt hnx hA hP hD hS (n_X6 (γ := γ) (a := q0)) rl_X6 rw_X6 hl.1 (Nat.le_of_ble_eq_true rfl) dL_law_4.1 (Nat.le_of_ble_eq_true rfl) (Nat.le_of_ble_eq_true rfl) (Nat.le_of_ble_eq_true rfl) (Nat.le_of_ble_eq_true rfl) (fun _ => List.nil_append _) (fun α0 H locs0 hP hD hS => ?_)
  refine lv_astore_n hx hb dL_law_7.1 rfl hl (by decide) rfl (fun ls hl => ?_)
  have hl := xl_set (L := [some (.ref b), none, none, none]) (i := 1) (v := .ref q0) rfl hl
  exact start2 l hL C0 hK hSt hnx hP hD hS hl
theorem whole_start {p : Program} {e : Env} {s : State} {m : MethodId} {below : List Frame} {meth : Method} {c : Code} (l : Launch) (hflags : l.flags = flags0) {b L : Nat} {xs : Nat → Int32} (hL : L ≤ 384) (C0 : lw_At p s m meth c b L xs) : W p l e room_1 s m #[Value.ref b] below meth c s.heap [] 0 0 (lw_Z below #[Value.ref b] s) (entryFrame m ([Value.ref b] : List Value).toArray 4) := by
  obtain ⟨hx, hb, hr, hml, hown, hts, hX, hbl, hlocks, hgv⟩ := id C0
  have htX : ∀ w ∈ xWS, w.before #[Value.ref b] s = true := fun w hw => hts w (xWS_sub hw)
  have hf : ∀ c ∈ flatC fC, c.before #[Value.ref b] s = true := flat_of_before _ hgv
  have hA0 : ∀ a : Nat, a < s.heap.size → ¬ (fun q : Nat => s.heap.size ≤ q) a := fun a h z => absurd z (Nat.not_le.mpr h)
  obtain ⟨dC, dI, hKc⟩ := st_cls htX
  obtain ⟨ca, hca⟩ := st_arr hts hKc
  obtain ⟨t, z1, z2⟩ := st_abv hts hf hA0
  obtain ⟨z3, z4⟩ := st_jdk hts hf hA0
  obtain ⟨adK, adV, z5, z6⟩ := st_str hts hf hA0
  have hSt : xSt (t, adK, adV) (fun q : Nat => s.heap.size ≤ q) s s.heap := ⟨st_nest hts, z1, z2, z3, z4, z5, z6⟩
  obtain ⟨hK, hnx⟩ := hca (t, adK, adV) (fun _ => 0)
  have hl := lv_entry ([.ref b]) (n := 4) (Nat.le_of_ble_eq_true rfl)
  rw [lg_entry_eq]
  exact start1 l hL C0 (γ := ((dC, dI), ca, (t, adK, adV), fun _ => 0)) hK hSt hnx hl
