theorem ki_6 : Int32.ofInt (6) = (6) := by decide
theorem and63 (x : Int32) : 0 ≤ (x &&& 63).toInt ∧ (x &&& 63).toInt ≤ 63 := by
  have h : (x &&& 63).toInt = (((x.toBitVec &&& 63#32).toNat : Nat) : Int) := by
    show (x.toBitVec &&& 63#32).toInt = _
    rw [BitVec.toInt_eq_toNat_of_lt]
    have : (x.toBitVec &&& 63#32).toNat ≤ 63 := by
      rw [BitVec.toNat_and]
      exact Nat.and_le_right
    omega
  have : (x.toBitVec &&& 63#32).toNat ≤ 63 := by
    rw [BitVec.toNat_and]
    exact Nat.and_le_right
  omega
set_option maxRecDepth 40000 in
set_option maxHeartbeats 8000000 in
theorem law_body {C : lCx} {γC γM : xG} {l : Launch} {Ln b : Nat} {xs : Nat → Int32} {hc hm : xH} {x3 : Int32} {Rl Rm : xH → xH → Prop} (hF : lF C γC γM l Ln xs b) (hi0 : vp_in x3 Ln) (hi1 : vp_in (x3 + 1) Ln) (hi2 : vp_in (x3 + 2) Ln) (hi3 : vp_in (x3 + 3) Ln) (hi4 : vp_in (x3 + 4) Ln) (hi5 : vp_in (x3 + 5) Ln) (hS : SimAll Rl Rm) (hU : ∀ hc hm, Rl hc hm → Rm hc hm) (hR : Rl hc hm) (kk : ∀ hc hm, Rm hc hm → lB C γC γM hc hm 1539 [some (.ref b), some (.ref (γC.2.2.2 0)), some (.ref (γM.2.2.2 0)), some (.int x3)] []) : lB C γC γM hc hm 27 [some (.ref b), some (.ref (γC.2.2.2 0)), some (.ref (γM.2.2.2 0)), some (.int x3)] [] := by
  have hi1 := And.intro hi1 (Eq.refl (xs (x3 + 1).toNatClampNeg))
  have hi2 := And.intro hi2 (Eq.refl (xs (x3 + 2).toNatClampNeg))
  have hi3 := And.intro hi3 (Eq.refl (xs (x3 + 3).toNatClampNeg))
  have hi4 := And.intro hi4 (Eq.refl (xs (x3 + 4).toNatClampNeg))
  have hi5 := And.intro hi5 (Eq.refl (xs (x3 + 5).toNatClampNeg))
  refine lB_aload_n hF dL_law_27 rfl ?_
  refine lB_iload_n hF dL_law_28 rfl ?_
  refine lB_sld hF dL_law_29 hi0 rfl ?_
  refine lB_bipush hF dL_law_30 kb_63 ?_
  refine lB_iand hF dL_law_32 ?_
  by_cases c0 : xs x3.toNatClampNeg &&& 63 = 0
  · exact lB_tableIn (v := 0) (tgt := 220) hF dL_law_33 c0 (by decide) (by decide) rfl rfl (law_c0 hF hi1 hi2 hi3 hi4 hi5 hS.1 hR kk)
  by_cases c1 : xs x3.toNatClampNeg &&& 63 = 1
  · exact lB_tableIn (v := 1) (tgt := 273) hF dL_law_33 c1 (by decide) (by decide) rfl rfl (law_c1 hF hi1 hi2 hi3 hi4 hi5 hS.2.1 hR kk)
  by_cases c2 : xs x3.toNatClampNeg &&& 63 = 2
  · exact lB_tableIn (v := 2) (tgt := 306) hF dL_law_33 c2 (by decide) (by decide) rfl rfl (law_c2 hF hi1 hi2 hi3 hi4 hi5 hS.2.2.1 hR kk)
  by_cases c3 : xs x3.toNatClampNeg &&& 63 = 3
  · exact lB_tableIn (v := 3) (tgt := 339) hF dL_law_33 c3 (by decide) (by decide) rfl rfl (law_c3 hF hi1 hi2 hi3 hi4 hi5 hS.2.2.2.1 hR kk)
  by_cases c4 : xs x3.toNatClampNeg &&& 63 = 4
  · exact lB_tableIn (v := 4) (tgt := 372) hF dL_law_33 c4 (by decide) (by decide) rfl rfl (law_c4 hF hi1 hi2 hi3 hi4 hi5 hS.2.2.2.2.1 hR kk)
  by_cases c5 : xs x3.toNatClampNeg &&& 63 = 5
  · exact lB_tableIn (v := 5) (tgt := 415) hF dL_law_33 c5 (by decide) (by decide) rfl rfl (law_c5 hF hi1 hi2 hi3 hi4 hi5 hS.2.2.2.2.2.1 hR kk)
  by_cases c6 : xs x3.toNatClampNeg &&& 63 = 6
  · exact lB_tableIn (v := 6) (tgt := 448) hF dL_law_33 c6 (by decide) (by decide) rfl rfl (law_c6 hF hi1 hi2 hi3 hi4 hi5 hS.2.2.2.2.2.2.1 hR kk)
  by_cases c7 : xs x3.toNatClampNeg &&& 63 = 7
  · exact lB_tableIn (v := 7) (tgt := 491) hF dL_law_33 c7 (by decide) (by decide) rfl rfl (law_c7 hF hi1 hi2 hi3 hi4 hi5 hS.2.2.2.2.2.2.2.1 hR kk)
  by_cases c8 : xs x3.toNatClampNeg &&& 63 = 8
  · exact lB_tableIn (v := 8) (tgt := 524) hF dL_law_33 c8 (by decide) (by decide) rfl rfl (law_c8 hF hi1 hi2 hi3 hi4 hi5 hS.2.2.2.2.2.2.2.2.1 hR kk)
  by_cases c9 : xs x3.toNatClampNeg &&& 63 = 9
  · exact lB_tableIn (v := 9) (tgt := 547) hF dL_law_33 c9 (by decide) (by decide) rfl rfl (law_c9 hF hi1 hi2 hi3 hi4 hi5 hS.2.2.2.2.2.2.2.2.2.1 hR kk)
  by_cases c10 : xs x3.toNatClampNeg &&& 63 = 10
  · exact lB_tableIn (v := 10) (tgt := 570) hF dL_law_33 c10 (by decide) (by decide) rfl rfl (law_c10 hF hi1 hi2 hi3 hi4 hi5 hS.2.2.2.2.2.2.2.2.2.2.1 hR kk)
  by_cases c11 : xs x3.toNatClampNeg &&& 63 = 11
  · exact lB_tableIn (v := 11) (tgt := 613) hF dL_law_33 c11 (by decide) (by decide) rfl rfl (law_c11 hF hi1 hi2 hi3 hi4 hi5 hS.2.2.2.2.2.2.2.2.2.2.2.1 hR kk)
  by_cases c12 : xs x3.toNatClampNeg &&& 63 = 12
  · exact lB_tableIn (v := 12) (tgt := 636) hF dL_law_33 c12 (by decide) (by decide) rfl rfl (law_c12 hF hi1 hi2 hi3 hi4 hi5 hS.2.2.2.2.2.2.2.2.2.2.2.2.1 hR kk)
  by_cases c13 : xs x3.toNatClampNeg &&& 63 = 13
  · exact lB_tableIn (v := 13) (tgt := 659) hF dL_law_33 c13 (by decide) (by decide) rfl rfl (law_c13 hF hi1 hi2 hi3 hi4 hi5 hS.2.2.2.2.2.2.2.2.2.2.2.2.2.1 hR kk)
  by_cases c14 : xs x3.toNatClampNeg &&& 63 = 14
  · exact lB_tableIn (v := 14) (tgt := 682) hF dL_law_33 c14 (by decide) (by decide) rfl rfl (law_c14 hF hi1 hi2 hi3 hi4 hi5 hS.2.2.2.2.2.2.2.2.2.2.2.2.2.2.1 hR kk)
  by_cases c15 : xs x3.toNatClampNeg &&& 63 = 15
  · exact lB_tableIn (v := 15) (tgt := 695) hF dL_law_33 c15 (by decide) (by decide) rfl rfl (law_c15 hF hi1 hi2 hi3 hi4 hi5 hS.2.2.2.2.2.2.2.2.2.2.2.2.2.2.2.1 hR kk)
  by_cases c16 : xs x3.toNatClampNeg &&& 63 = 16
  · exact lB_tableIn (v := 16) (tgt := 728) hF dL_law_33 c16 (by decide) (by decide) rfl rfl (law_c16 hF hi1 hi2 hi3 hi4 hi5 hS.2.2.2.2.2.2.2.2.2.2.2.2.2.2.2.2.1 hR kk)
  by_cases c17 : xs x3.toNatClampNeg &&& 63 = 17
  · exact lB_tableIn (v := 17) (tgt := 751) hF dL_law_33 c17 (by decide) (by decide) rfl rfl (law_c17 hF hi1 hi2 hi3 hi4 hi5 hS.2.2.2.2.2.2.2.2.2.2.2.2.2.2.2.2.2.1 hR kk)
  by_cases c18 : xs x3.toNatClampNeg &&& 63 = 18
  · exact lB_tableIn (v := 18) (tgt := 794) hF dL_law_33 c18 (by decide) (by decide) rfl rfl (law_c18 hF hi1 hi2 hi3 hi4 hi5 hS.2.2.2.2.2.2.2.2.2.2.2.2.2.2.2.2.2.2.1 hR kk)
  by_cases c19 : xs x3.toNatClampNeg &&& 63 = 19
  · exact lB_tableIn (v := 19) (tgt := 827) hF dL_law_33 c19 (by decide) (by decide) rfl rfl (law_c19 hF hi1 hi2 hi3 hi4 hi5 hS.2.2.2.2.2.2.2.2.2.2.2.2.2.2.2.2.2.2.2.1 hR kk)
  by_cases c20 : xs x3.toNatClampNeg &&& 63 = 20
  · exact lB_tableIn (v := 20) (tgt := 840) hF dL_law_33 c20 (by decide) (by decide) rfl rfl (law_c20 hF hi1 hi2 hi3 hi4 hi5 hS.2.2.2.2.2.2.2.2.2.2.2.2.2.2.2.2.2.2.2.2.1 hR kk)
  by_cases c21 : xs x3.toNatClampNeg &&& 63 = 21
  · exact lB_tableIn (v := 21) (tgt := 883) hF dL_law_33 c21 (by decide) (by decide) rfl rfl (law_c21 hF hi1 hi2 hi3 hi4 hi5 hS.2.2.2.2.2.2.2.2.2.2.2.2.2.2.2.2.2.2.2.2.2.1 hR kk)
  by_cases c22 : xs x3.toNatClampNeg &&& 63 = 22
  · exact lB_tableIn (v := 22) (tgt := 916) hF dL_law_33 c22 (by decide) (by decide) rfl rfl (law_c22 hF hi1 hi2 hi3 hi4 hi5 hS.2.2.2.2.2.2.2.2.2.2.2.2.2.2.2.2.2.2.2.2.2.2.1 hR kk)
  by_cases c23 : xs x3.toNatClampNeg &&& 63 = 23
  · exact lB_tableIn (v := 23) (tgt := 949) hF dL_law_33 c23 (by decide) (by decide) rfl rfl (law_c23 hF hi1 hi2 hi3 hi4 hi5 hS.2.2.2.2.2.2.2.2.2.2.2.2.2.2.2.2.2.2.2.2.2.2.2.1 hR kk)
  by_cases c24 : xs x3.toNatClampNeg &&& 63 = 24
  · exact lB_tableIn (v := 24) (tgt := 972) hF dL_law_33 c24 (by decide) (by decide) rfl rfl (law_c24 hF hi1 hi2 hi3 hi4 hi5 hS.2.2.2.2.2.2.2.2.2.2.2.2.2.2.2.2.2.2.2.2.2.2.2.2.1 hR kk)
  by_cases c25 : xs x3.toNatClampNeg &&& 63 = 25
  · exact lB_tableIn (v := 25) (tgt := 1015) hF dL_law_33 c25 (by decide) (by decide) rfl rfl (law_c25 hF hi1 hi2 hi3 hi4 hi5 hS.2.2.2.2.2.2.2.2.2.2.2.2.2.2.2.2.2.2.2.2.2.2.2.2.2.1 hR kk)
  by_cases c26 : xs x3.toNatClampNeg &&& 63 = 26
  · exact lB_tableIn (v := 26) (tgt := 1038) hF dL_law_33 c26 (by decide) (by decide) rfl rfl (law_c26 hF hi1 hi2 hi3 hi4 hi5 hS.2.2.2.2.2.2.2.2.2.2.2.2.2.2.2.2.2.2.2.2.2.2.2.2.2.2.1 hR kk)
  by_cases c27 : xs x3.toNatClampNeg &&& 63 = 27
  · exact lB_tableIn (v := 27) (tgt := 1051) hF dL_law_33 c27 (by decide) (by decide) rfl rfl (law_c27 hF hi1 hi2 hi3 hi4 hi5 hS.2.2.2.2.2.2.2.2.2.2.2.2.2.2.2.2.2.2.2.2.2.2.2.2.2.2.2.1 hR kk)
  by_cases c28 : xs x3.toNatClampNeg &&& 63 = 28
  · exact lB_tableIn (v := 28) (tgt := 1084) hF dL_law_33 c28 (by decide) (by decide) rfl rfl (law_c28 hF hi1 hi2 hi3 hi4 hi5 hS.2.2.2.2.2.2.2.2.2.2.2.2.2.2.2.2.2.2.2.2.2.2.2.2.2.2.2.2.1 hR kk)
  by_cases c29 : xs x3.toNatClampNeg &&& 63 = 29
  · exact lB_tableIn (v := 29) (tgt := 1107) hF dL_law_33 c29 (by decide) (by decide) rfl rfl (law_c29 hF hi1 hi2 hi3 hi4 hi5 hS.2.2.2.2.2.2.2.2.2.2.2.2.2.2.2.2.2.2.2.2.2.2.2.2.2.2.2.2.2.1 hR kk)
  by_cases c30 : xs x3.toNatClampNeg &&& 63 = 30
  · exact lB_tableIn (v := 30) (tgt := 1150) hF dL_law_33 c30 (by decide) (by decide) rfl rfl (law_c30 hF hi1 hi2 hi3 hi4 hi5 hS.2.2.2.2.2.2.2.2.2.2.2.2.2.2.2.2.2.2.2.2.2.2.2.2.2.2.2.2.2.2.1 hR kk)
  by_cases c31 : xs x3.toNatClampNeg &&& 63 = 31
  · exact lB_tableIn (v := 31) (tgt := 1193) hF dL_law_33 c31 (by decide) (by decide) rfl rfl (law_c31 hF hi1 hi2 hi3 hi4 hi5 hS.2.2.2.2.2.2.2.2.2.2.2.2.2.2.2.2.2.2.2.2.2.2.2.2.2.2.2.2.2.2.2.1 hR kk)
  by_cases c32 : xs x3.toNatClampNeg &&& 63 = 32
  · exact lB_tableIn (v := 32) (tgt := 1216) hF dL_law_33 c32 (by decide) (by decide) rfl rfl (law_c32 hF hi1 hi2 hi3 hi4 hi5 hS.2.2.2.2.2.2.2.2.2.2.2.2.2.2.2.2.2.2.2.2.2.2.2.2.2.2.2.2.2.2.2.2.1 hR kk)
  by_cases c33 : xs x3.toNatClampNeg &&& 63 = 33
  · exact lB_tableIn (v := 33) (tgt := 1239) hF dL_law_33 c33 (by decide) (by decide) rfl rfl (law_c33 hF hi1 hi2 hi3 hi4 hi5 hS.2.2.2.2.2.2.2.2.2.2.2.2.2.2.2.2.2.2.2.2.2.2.2.2.2.2.2.2.2.2.2.2.2.1 hR kk)
  by_cases c34 : xs x3.toNatClampNeg &&& 63 = 34
  · exact lB_tableIn (v := 34) (tgt := 1302) hF dL_law_33 c34 (by decide) (by decide) rfl rfl (law_c34 hF hi1 hi2 hi3 hi4 hi5 hS.2.2.2.2.2.2.2.2.2.2.2.2.2.2.2.2.2.2.2.2.2.2.2.2.2.2.2.2.2.2.2.2.2.2.1 hR kk)
  by_cases c35 : xs x3.toNatClampNeg &&& 63 = 35
  · exact lB_tableIn (v := 35) (tgt := 1345) hF dL_law_33 c35 (by decide) (by decide) rfl rfl (law_c35 hF hi1 hi2 hi3 hi4 hi5 hS.2.2.2.2.2.2.2.2.2.2.2.2.2.2.2.2.2.2.2.2.2.2.2.2.2.2.2.2.2.2.2.2.2.2.2.1 hR kk)
  by_cases c36 : xs x3.toNatClampNeg &&& 63 = 36
  · exact lB_tableIn (v := 36) (tgt := 1378) hF dL_law_33 c36 (by decide) (by decide) rfl rfl (law_c36 hF hi1 hi2 hi3 hi4 hi5 hS.2.2.2.2.2.2.2.2.2.2.2.2.2.2.2.2.2.2.2.2.2.2.2.2.2.2.2.2.2.2.2.2.2.2.2.2.1 hR kk)
  by_cases c37 : xs x3.toNatClampNeg &&& 63 = 37
  · exact lB_tableIn (v := 37) (tgt := 1411) hF dL_law_33 c37 (by decide) (by decide) rfl rfl (law_c37 hF hi1 hi2 hi3 hi4 hi5 hS.2.2.2.2.2.2.2.2.2.2.2.2.2.2.2.2.2.2.2.2.2.2.2.2.2.2.2.2.2.2.2.2.2.2.2.2.2.1 hR kk)
  by_cases c38 : xs x3.toNatClampNeg &&& 63 = 38
  · exact lB_tableIn (v := 38) (tgt := 1444) hF dL_law_33 c38 (by decide) (by decide) rfl rfl (law_c38 hF hi1 hi2 hi3 hi4 hi5 hS.2.2.2.2.2.2.2.2.2.2.2.2.2.2.2.2.2.2.2.2.2.2.2.2.2.2.2.2.2.2.2.2.2.2.2.2.2.2.1 hR kk)
  by_cases c39 : xs x3.toNatClampNeg &&& 63 = 39
  · exact lB_tableIn (v := 39) (tgt := 1467) hF dL_law_33 c39 (by decide) (by decide) rfl rfl (law_c39 hF hi1 hi2 hi3 hi4 hi5 hS.2.2.2.2.2.2.2.2.2.2.2.2.2.2.2.2.2.2.2.2.2.2.2.2.2.2.2.2.2.2.2.2.2.2.2.2.2.2.2.1 hR kk)
  by_cases c40 : xs x3.toNatClampNeg &&& 63 = 40
  · exact lB_tableIn (v := 40) (tgt := 1490) hF dL_law_33 c40 (by decide) (by decide) rfl rfl (law_c40 hF hi1 hi2 hi3 hi4 hi5 hS.2.2.2.2.2.2.2.2.2.2.2.2.2.2.2.2.2.2.2.2.2.2.2.2.2.2.2.2.2.2.2.2.2.2.2.2.2.2.2.2.1 hR kk)
  by_cases c41 : xs x3.toNatClampNeg &&& 63 = 41
  · exact lB_tableIn (v := 41) (tgt := 1503) hF dL_law_33 c41 (by decide) (by decide) rfl rfl (law_c41 hF hi1 hi2 hi3 hi4 hi5 hS.2.2.2.2.2.2.2.2.2.2.2.2.2.2.2.2.2.2.2.2.2.2.2.2.2.2.2.2.2.2.2.2.2.2.2.2.2.2.2.2.2.1 hR kk)
  by_cases c42 : xs x3.toNatClampNeg &&& 63 = 42
  · exact lB_tableIn (v := 42) (tgt := 1516) hF dL_law_33 c42 (by decide) (by decide) rfl rfl (law_c42 hF hi1 hi2 hi3 hi4 hi5 hS.2.2.2.2.2.2.2.2.2.2.2.2.2.2.2.2.2.2.2.2.2.2.2.2.2.2.2.2.2.2.2.2.2.2.2.2.2.2.2.2.2.2 hR kk)
  refine lB_tableOut (tgt := 1539) hF dL_law_33 (Or.inr ?_) rfl (kk _ _ (hU _ _ hR))
  have h1 := and63 (xs x3.toNatClampNeg)
  have := xne (v := 0) (n := 0) rfl c0
  have := xne (v := 1) (n := 1) rfl c1
  have := xne (v := 2) (n := 2) rfl c2
  have := xne (v := 3) (n := 3) rfl c3
  have := xne (v := 4) (n := 4) rfl c4
  have := xne (v := 5) (n := 5) rfl c5
  have := xne (v := 6) (n := 6) rfl c6
  have := xne (v := 7) (n := 7) rfl c7
  have := xne (v := 8) (n := 8) rfl c8
  have := xne (v := 9) (n := 9) rfl c9
  have := xne (v := 10) (n := 10) rfl c10
  have := xne (v := 11) (n := 11) rfl c11
  have := xne (v := 12) (n := 12) rfl c12
  have := xne (v := 13) (n := 13) rfl c13
  have := xne (v := 14) (n := 14) rfl c14
  have := xne (v := 15) (n := 15) rfl c15
  have := xne (v := 16) (n := 16) rfl c16
  have := xne (v := 17) (n := 17) rfl c17
  have := xne (v := 18) (n := 18) rfl c18
  have := xne (v := 19) (n := 19) rfl c19
  have := xne (v := 20) (n := 20) rfl c20
  have := xne (v := 21) (n := 21) rfl c21
  have := xne (v := 22) (n := 22) rfl c22
  have := xne (v := 23) (n := 23) rfl c23
  have := xne (v := 24) (n := 24) rfl c24
  have := xne (v := 25) (n := 25) rfl c25
  have := xne (v := 26) (n := 26) rfl c26
  have := xne (v := 27) (n := 27) rfl c27
  have := xne (v := 28) (n := 28) rfl c28
  have := xne (v := 29) (n := 29) rfl c29
  have := xne (v := 30) (n := 30) rfl c30
  have := xne (v := 31) (n := 31) rfl c31
  have := xne (v := 32) (n := 32) rfl c32
  have := xne (v := 33) (n := 33) rfl c33
  have := xne (v := 34) (n := 34) rfl c34
  have := xne (v := 35) (n := 35) rfl c35
  have := xne (v := 36) (n := 36) rfl c36
  have := xne (v := 37) (n := 37) rfl c37
  have := xne (v := 38) (n := 38) rfl c38
  have := xne (v := 39) (n := 39) rfl c39
  have := xne (v := 40) (n := 40) rfl c40
  have := xne (v := 41) (n := 41) rfl c41
  have := xne (v := 42) (n := 42) rfl c42
  omega
theorem law_loop {C : lCx} {γC γM : xG} {l : Launch} {Ln b : Nat} {xs : Nat → Int32} {Rf : Nat → xH → xH → Prop} (hL : Ln ≤ 384) (hF : lF C γC γM l Ln xs b) (hS : ∀ k, k < 64 → SimAll (Rf k) (Rf (k + 1))) (hU : ∀ k, k < 64 → ∀ hc hm, Rf k hc hm → Rf (k + 1) hc hm) : ∀ (n i k : Nat), i = 6 * k → i ≤ Ln + 6 → Ln + 7 ≤ i + n → ∀ hc hm, Rf k hc hm → lB C γC γM hc hm 18 [some (.ref b), some (.ref (γC.2.2.2 0)), some (.ref (γM.2.2.2 0)), some (.int (nI i))] [] := by
  intro n
  induction n with
  | zero => intro i k _ h1 h2; omega
  | succ n ih =>
    intro i k hk hi hin hc hm hR
    refine lB_iload_n hF dL_law_18 rfl ?_
    refine lB_aload_n hF dL_law_19 rfl ?_
    refine lB_slen hF dL_law_20 ?_
    refine lB_bipush hF dL_law_21 kb_6 ?_
    refine lB_isub hF dL_law_23 ?_
    have hsub : (Int32.ofNat Ln - 6).toInt = (Ln : Int) - 6 := by
      have h1 : (Int32.ofNat Ln).toInt = (Ln : Int) := nI_toInt (by omega)
      rw [Int32.toInt_sub, h1, show (6 : Int32).toInt = 6 from rfl]
      apply Int.bmod_eq_of_le <;> omega
    have hi' : (nI i).toInt = (i : Int) := nI_toInt (by omega)
    refine lB_gt (tgt := 1545) hF dL_law_24 rfl (fun c => ?_) (fun c => ?_)
    · refine lB_iconst hF dL_law_1545 ki_1 ?_
      exact lB_end hF dL_law_1546
    · have hlt : i + 6 ≤ Ln := by
        rw [Int32.lt_iff_toInt_lt, hsub, hi'] at c
        omega
      have hp : ∀ q : Nat, q < 6 → ∀ v : Int32, nI q = v → vp_in (nI i + v) Ln := by
        rintro q hq v rfl
        rw [nI_add]
        exact vp_in_nI (by omega) (by omega)
      refine law_body hF (vp_in_nI (by omega) (by omega)) (hp 1 (by omega) _ rfl) (hp 2 (by omega) _ rfl) (hp 3 (by omega) _ rfl) (hp 4 (by omega) _ rfl) (hp 5 (by omega) _ rfl) (hS k (by omega)) (hU k (by omega)) hR (fun hc hm hR => ?_)
      refine lB_iinc (L' := [_, _, _, _]) hF dL_law_1539 rfl ki_6 rfl rfl rfl ?_
      refine lB_goto (tgt := 18) hF dL_law_1542 rfl ?_
      have := ih (i + 6) (k + 1) (by omega) (by omega) (by omega) hc hm hR
      rw [← nI_add] at this
      exact this
