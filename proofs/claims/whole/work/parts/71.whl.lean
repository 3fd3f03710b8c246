/-! the law, from its entry -/
theorem xws_len {γ : xG} {S : xS} {h : xH} : (xws γ S h).length = S.length := by rw [xws, List.length_mapIdx]
theorem whole_start {p : Program} {e : Env} {s : State} {m : MethodId} {below : List Frame} {meth : Method} {c : Code} (l : Launch) (hflags : l.flags = flags0) {b L : Nat} {xs : Nat → Int32} (hL : L ≤ 384) (C0 : lw_At p s m meth c b L xs) : W p l e room_1 s m #[Value.ref b] below meth c s.heap [] 0 0 (lw_Z below #[Value.ref b] s) (entryFrame m ([Value.ref b] : List Value).toArray 4) := by
  obtain ⟨hx, hb, hr, hml, hown, hts, hX, hbl, hlocks, hgv⟩ := id C0
  have htX : ∀ w ∈ xWS, w.before #[Value.ref b] s = true := fun w hw => hts w (xWS_sub hw)
  have hf : ∀ c ∈ flatC fC, c.before #[Value.ref b] s = true := flat_of_before _ hgv
  have hA0 : ∀ a : Nat, a < s.heap.size → ¬ (fun q : Nat => s.heap.size ≤ q) a := fun a h z => absurd z (Nat.not_le.mpr h)
  obtain ⟨dC, dI, hKc⟩ := st_cls htX
  obtain ⟨ca, hca⟩ := st_arr hts hKc
  obtain ⟨t, z1, z2⟩ := st_abv hts hf hA0
  obtain ⟨z3, z4⟩ := st_jdk hts hf hA0
  obtain ⟨adK, adV, z5, z6⟩ := st_str hts hf hA0
  have hSt : xSt (t, adK, adV) (fun q : Nat => s.heap.size ≤ q) s s.heap := ⟨st_nest hts, z1, z2, z3, z4, z5, z6⟩
  obtain ⟨hK, hnx⟩ := hca (t, adK, adV) (fun _ => 0)
  have hA : ∀ q : Nat, s.heap.size ≤ q → (fun q : Nat => s.heap.size ≤ q) q := fun _ h => h
  have hS : va_S (fun q : Nat => s.heap.size ≤ q) s.heap s.heap [] := va_S.rf
  have hP : va_P (dC, dI) vwCl [] s.heap := fun k q h => by simp at h
  have hD : va_D (fun q : Nat => s.heap.size ≤ q) [] := ⟨fun i j p q h => by simp at h, fun k q h => by simp at h⟩
  have hl := lv_entry ([.ref b]) (n := 4) (Nat.le_of_ble_eq_true rfl)
  rw [lg_entry_eq]
  generalize (lg_sl ([.ref b]) ++ List.replicate (4 - (lg_sl ([.ref b])).length) Slot.unset).toArray = ls at hl ⊢
  have hl : lv_has ls 4 (xlg 0 [some (.ref b), none, none, none]) := hl
  refine va_new (ci := 6) (fs := [.null, .null, .null, .null, .null, .null, .null, .null, .null, .null, .int 0, .int 0]) (C := RX6) (T := TX6) (N := 12) hx hb htX inX6 tyX6 tyX6_ok hown (htX (.classLink RL 7 RX6) (xWS_mem 81 (by decide +kernel) rfl)) (htX (.instantiable RX6 12) (xWS_mem 82 (by decide +kernel) rfl)) (htX (.initialized RX6) (xWS_mem 65 (by decide +kernel) rfl)) hK hP hD hS hA rfl dfX6 (Nat.le_of_ble_eq_true rfl) (Nat.le_of_ble_eq_true rfl) dL_law_0.1 (fun q0 H hP hD hS => ?_)
  refine lv_dup hx hb dL_law_3.1 rfl ?_
  refine nrun (γ := ((dC, dI), ca, (t, adK, adV), fun _ => 0)) (wr := []) (va_runI (As := []) (rest := [.ref q0]) (n := 0) (Ts := xWS) ⟨hx, hb, hml, hown, htX⟩ (n_X6 (γ := ((dC, dI), ca, (t, adK, adV), fun _ => 0)) (a := q0) H.size) (cwI 0 htX (xGood (fun w hw => ?_)) rfl rfl rfl (htX (.initialized RX6) (xWS_mem 65 (by decide +kernel) rfl)) (htX (.methodLink RL 9 yX6_init) (xWS_mem 83 (by decide +kernel) rfl)) (htX (.instanceMethod yX6_init) (xWS_mem 84 (by decide +kernel) rfl)) rfl ⟨by decide +kernel, by decide +kernel, by decide +kernel⟩ ⟨Nat.le_of_ble_eq_true rfl, Nat.le_of_ble_eq_true rfl⟩) ⟨nP_blind, fun U hU hW => nPre (γ := ((dC, dI), ca, (t, adK, adV), fun _ => 0)) hK hSt hnx hA hP hD hS hU hW⟩ rfl rfl hl.1 rfl (Nat.le_of_ble_eq_true rfl) dL_law_4.1 ⟨Nat.le_of_ble_eq_true rfl, Nat.le_of_ble_eq_true rfl⟩) hP hD hA hS (fun α0 H locs0 hP hD hS => ?_)
  · rcases List.mem_cons.mp hw with rfl | hw
    · exact (xWS_mem 85 (by decide +kernel) rfl)
    · exact hw
  have hP : va_P (dC, dI) vwCl (xws ((dC, dI), ca, (t, adK, adV), fun z => if z = 0 then q0 else α0 z) xSC h0C) H := hP
  have hD : va_D (fun q : Nat => s.heap.size ≤ q) (xws ((dC, dI), ca, (t, adK, adV), fun z => if z = 0 then q0 else α0 z) xSC h0C) := hD
  refine lv_astore_n hx hb dL_law_7.1 rfl hl (by decide) rfl (fun ls hl => ?_)
  have hl : lv_has ls 4 (xlg 0 [some (.ref b), some (.ref q0), none, none]) := xl_set (L := [some (.ref b), none, none, none]) (i := 1) rfl hl
  refine va_new (ci := 7) (fs := [.null, .null, .null, .int 0, .null, .null, .null, .null, .null, .null, .null, .null, .null, .null, .null, .int 0, .int 0, .int 0, .int 0, .int 0, .int 0, .int 0, .int 0, .int 0, .int 0, .int 0, .null, .null, .null, .null, .int 0, .null]) (C := RX7) (T := TX7) (N := 32) hx hb htX inX7 tyX7 tyX7_ok hown (htX (.classLink RL 10 RX7) (xWS_mem 912 (by decide +kernel) rfl)) (htX (.instantiable RX7 32) (xWS_mem 913 (by decide +kernel) rfl)) (htX (.initialized RX7) (xWS_mem 72 (by decide +kernel) rfl)) hK hP hD hS hA rfl dfX7 (Nat.le_of_ble_eq_true rfl) (Nat.le_of_ble_eq_true rfl) dL_law_8.1 (fun q1 H hP hD hS => ?_)
  refine lv_dup hx hb dL_law_11.1 rfl ?_
  refine nrun (γ := ((dC, dI), ca, (t, adK, adV), fun _ => 0)) (wr := xws ((dC, dI), ca, (t, adK, adV), fun z => if z = 0 then q0 else α0 z) xSC h0C) (va_runI (As := []) (rest := [.ref q1]) (n := 0) (Ts := xWS) ⟨hx, hb, hml, hown, htX⟩ (n_X7 (γ := ((dC, dI), ca, (t, adK, adV), fun _ => 0)) (a := q1) H.size) (cwI 0 htX (xGood (fun w hw => ?_)) rfl rfl rfl (htX (.initialized RX7) (xWS_mem 72 (by decide +kernel) rfl)) (htX (.methodLink RL 12 yX7_init) (xWS_mem 914 (by decide +kernel) rfl)) (htX (.instanceMethod yX7_init) (xWS_mem 915 (by decide +kernel) rfl)) rfl ⟨by decide +kernel, by decide +kernel, by decide +kernel⟩ ⟨Nat.le_of_ble_eq_true rfl, Nat.le_of_ble_eq_true rfl⟩) ⟨nP_blind, fun U hU hW => nPre (γ := ((dC, dI), ca, (t, adK, adV), fun _ => 0)) hK hSt hnx hA hP hD hS hU hW⟩ rfl rfl hl.1 rfl (Nat.le_of_ble_eq_true rfl) dL_law_12.1 ⟨Nat.le_of_ble_eq_true rfl, Nat.le_of_ble_eq_true rfl⟩) hP hD hA hS (fun α1 H locs1 hP hD hS => ?_)
  · rcases List.mem_cons.mp hw with rfl | hw
    · exact (xWS_mem 916 (by decide +kernel) rfl)
    · exact hw
  have hP : va_P (dC, dI) vwCl (xws ((dC, dI), ca, (t, adK, adV), fun z => if z = 0 then q0 else α0 z) xSC h0C ++ xws ((dC, dI), ca, (t, adK, adV), fun z => if z = 0 then q1 else α1 z) xSM h0M) H := hP
  have hD : va_D (fun q : Nat => s.heap.size ≤ q) (xws ((dC, dI), ca, (t, adK, adV), fun z => if z = 0 then q0 else α0 z) xSC h0C ++ xws ((dC, dI), ca, (t, adK, adV), fun z => if z = 0 then q1 else α1 z) xSM h0M) := hD
  refine lv_astore_n hx hb dL_law_15.1 rfl hl (by decide) rfl (fun ls hl => ?_)
  have hl : lv_has ls 4 (xlg 0 [some (.ref b), some (.ref q0), some (.ref q1), none]) := xl_set (L := [some (.ref b), some (.ref q0), none, none]) (i := 2) rfl hl
  refine lv_iconst (v := 0) hx hb dL_law_16.1 rfl ?_
  refine lv_istore_n hx hb dL_law_17.1 rfl hl (by decide) rfl (fun ls hl => ?_)
  have hl : lv_has ls 4 (xlg 0 [some (.ref b), some (.ref q0), some (.ref q1), some (.int 0)]) := xl_set (L := [some (.ref b), some (.ref q0), some (.ref q1), none]) (i := 3) rfl hl
  have lC : (xws ((dC, dI), ca, (t, adK, adV), fun z => if z = 0 then q0 else α0 z) xSC h0C).length = 85 := xws_len
  have inL : ∀ (i : Nat) (q : Nat × va_E), (xws ((dC, dI), ca, (t, adK, adV), fun z => if z = 0 then q0 else α0 z) xSC h0C)[i]? = some q → (xws ((dC, dI), ca, (t, adK, adV), fun z => if z = 0 then q0 else α0 z) xSC h0C ++ xws ((dC, dI), ca, (t, adK, adV), fun z => if z = 0 then q1 else α1 z) xSM h0M)[i]? = some q := fun i q hq => by
    rw [List.getElem?_append_left (List.getElem?_eq_some_iff.mp hq).1]; exact hq
  have inR : ∀ (i : Nat) (q : Nat × va_E), (xws ((dC, dI), ca, (t, adK, adV), fun z => if z = 0 then q1 else α1 z) xSM h0M)[i]? = some q → (xws ((dC, dI), ca, (t, adK, adV), fun z => if z = 0 then q0 else α0 z) xSC h0C ++ xws ((dC, dI), ca, (t, adK, adV), fun z => if z = 0 then q1 else α1 z) xSM h0M)[85 + i]? = some q := fun i q hq => by
    rw [List.getElem?_append_right (by rw [lC]; omega), lC, Nat.add_sub_cancel_left]; exact hq
  have hdj : ∀ i j, i < 85 → j < 20 → ((dC, dI), ca, (t, adK, adV), fun z => if z = 0 then q0 else α0 z).2.2.2 i ≠ ((dC, dI), ca, (t, adK, adV), fun z => if z = 0 then q1 else α1 z).2.2.2 j := by
    intro i j hi hj q
    obtain ⟨f1, e1⟩ : ∃ f, xSC[i]? = some f := ⟨_, List.getElem?_eq_getElem (show i < xSC.length from hi)⟩
    obtain ⟨f2, e2⟩ : ∃ f, xSM[j]? = some f := ⟨_, List.getElem?_eq_getElem (show j < xSM.length from hj)⟩
    have := hD.1 i (85 + j) _ _ (inL i _ (xws_get e1)) (inR j _ (xws_get e2)) q
    omega
  exact law_loop (C := (p, l, e, s, m, below, meth, c, b)) (γC := ((dC, dI), ca, (t, adK, adV), fun z => if z = 0 then q0 else α0 z)) (γM := ((dC, dI), ca, (t, adK, adV), fun z => if z = 0 then q1 else α1 z)) (Rf := Rk) (xs := xs) hL ⟨hx, hb, hml, rfl, rfl, hown, htX, hK, hK, hSt, hSt, hX, hbl, hdj, hr, hlocks⟩ (fun k hk => sim_all hk) (fun k hk hc hm h => Rk_up hk h) (L + 7) 0 0 rfl (by omega) (by omega) h0C h0M Rk_0 H _ ls (fun i q hq => hP i q (inL i q hq)) (fun i q hq => hP (85 + i) q (inR i q hq)) ⟨fun i j a b h1 h2 h3 => hD.1 i j a b (inL i a h1) (inL j b h2) h3, fun i q h => hD.2 i q (inL i q h)⟩ ⟨fun i j a b h1 h2 h3 => by
    have := hD.1 (85 + i) (85 + j) a b (inR i a h1) (inR j b h2) h3
    omega, fun i q h => hD.2 (85 + i) q (inR i q h)⟩ hS hl
