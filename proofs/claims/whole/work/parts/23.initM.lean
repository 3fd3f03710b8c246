set_option maxRecDepth 40000 in
set_option maxHeartbeats 8000000 in
theorem n_X7 {l : Launch} {γ : xG} {a : Nat} : nCT l γ yX7_init cX7_init 2 1 19 10034 [.ref a] [(a, .inr (7, [.null, .null, .null, .int 0, .null, .null, .null, .null, .null, .null, .null, .null, .null, .null, .null, .int 0, .int 0, .int 0, .int 0, .int 0, .int 0, .int 0, .int 0, .int 0, .int 0, .int 0, .null, .null, .null, .null, .int 0, .null]))] (fun α => xws (γ.1, γ.2.1, γ.2.2.1, fun z => if z = 0 then a else α z) xSM h0M) := by
  refine nCT.of (own := RX7) (L := [some (.ref a), none]) (by decide) rfl rfl rfl rfl (fun C hF => ?_)
  refine nB_aload_n hF dX7_init_0 rfl ?_
  refine nB_obj hF dX7_init_1 oi_X7 rfl rfl ?_
  refine nB_aload_n hF dX7_init_4 rfl ?_
  refine nB_sipush hF dX7_init_5 ks_3078 ?_
  refine nB_newa (N := 3078) (k' := 1) (n' := 3078) (wf := fun q1 => [(a, .inr (7, [.null, .null, .null, .int 0, .null, .null, .null, .null, .null, .null, .null, .null, .null, .null, .null, .int 0, .int 0, .int 0, .int 0, .int 0, .int 0, .int 0, .int 0, .int 0, .int 0, .int 0, .null, .null, .null, .null, .int 0, .null])), (q1, zA γ 3078)]) hF dX7_init_8 w_arrI (by decide) (by decide) rfl rfl rfl rfl rfl (fun _ => rfl) (fun q1 => ?_)
  refine nB_putF (ws' := [(a, .inr (7, [.ref q1, .null, .null, .int 0, .null, .null, .null, .null, .null, .null, .null, .null, .null, .null, .null, .int 0, .int 0, .int 0, .int 0, .int 0, .int 0, .int 0, .int 0, .int 0, .int 0, .int 0, .null, .null, .null, .null, .int 0, .null])), (q1, zA γ 3078)]) (q0 := 0) hF dX7_init_10 nl_X7_7 rfl rfl rfl rfl rfl ?_
  refine nB_aload_n hF dX7_init_13 rfl ?_
  refine nB_sipush hF dX7_init_14 ks_3078 ?_
  refine nB_newa (N := 3078) (k' := 2) (n' := 6156) (wf := fun q2 => [(a, .inr (7, [.ref q1, .null, .null, .int 0, .null, .null, .null, .null, .null, .null, .null, .null, .null, .null, .null, .int 0, .int 0, .int 0, .int 0, .int 0, .int 0, .int 0, .int 0, .int 0, .int 0, .int 0, .null, .null, .null, .null, .int 0, .null])), (q1, zA γ 3078), (q2, zA γ 3078)]) hF dX7_init_17 w_arrI (by decide) (by decide) rfl rfl rfl rfl rfl (fun _ => rfl) (fun q2 => ?_)
  refine nB_putF (ws' := [(a, .inr (7, [.ref q1, .ref q2, .null, .int 0, .null, .null, .null, .null, .null, .null, .null, .null, .null, .null, .null, .int 0, .int 0, .int 0, .int 0, .int 0, .int 0, .int 0, .int 0, .int 0, .int 0, .int 0, .null, .null, .null, .null, .int 0, .null])), (q1, zA γ 3078), (q2, zA γ 3078)]) (q0 := 0) hF dX7_init_19 nl_X7_13 rfl rfl rfl rfl rfl ?_
  refine nB_aload_n hF dX7_init_22 rfl ?_
  refine nB_sipush hF dX7_init_23 ks_3078 ?_
  refine nB_newa (N := 3078) (k' := 3) (n' := 9234) (wf := fun q3 => [(a, .inr (7, [.ref q1, .ref q2, .null, .int 0, .null, .null, .null, .null, .null, .null, .null, .null, .null, .null, .null, .int 0, .int 0, .int 0, .int 0, .int 0, .int 0, .int 0, .int 0, .int 0, .int 0, .int 0, .null, .null, .null, .null, .int 0, .null])), (q1, zA γ 3078), (q2, zA γ 3078), (q3, zA γ 3078)]) hF dX7_init_26 w_arrI (by decide) (by decide) rfl rfl rfl rfl rfl (fun _ => rfl) (fun q3 => ?_)
  refine nB_putF (ws' := [(a, .inr (7, [.ref q1, .ref q2, .ref q3, .int 0, .null, .null, .null, .null, .null, .null, .null, .null, .null, .null, .null, .int 0, .int 0, .int 0, .int 0, .int 0, .int 0, .int 0, .int 0, .int 0, .int 0, .int 0, .null, .null, .null, .null, .int 0, .null])), (q1, zA γ 3078), (q2, zA γ 3078), (q3, zA γ 3078)]) (q0 := 0) hF dX7_init_28 nl_X7_16 rfl rfl rfl rfl rfl ?_
  refine nB_aload_n hF dX7_init_31 rfl ?_
  refine nB_iconst hF dX7_init_32 ki_4 ?_
  refine nB_newa (N := 4) (k' := 4) (n' := 9238) (wf := fun q4 => [(a, .inr (7, [.ref q1, .ref q2, .ref q3, .int 0, .null, .null, .null, .null, .null, .null, .null, .null, .null, .null, .null, .int 0, .int 0, .int 0, .int 0, .int 0, .int 0, .int 0, .int 0, .int 0, .int 0, .int 0, .null, .null, .null, .null, .int 0, .null])), (q1, zA γ 3078), (q2, zA γ 3078), (q3, zA γ 3078), (q4, zA γ 4)]) hF dX7_init_33 w_arrI (by decide) (by decide) rfl rfl rfl rfl rfl (fun _ => rfl) (fun q4 => ?_)
  refine nB_putF (ws' := [(a, .inr (7, [.ref q1, .ref q2, .ref q3, .int 0, .ref q4, .null, .null, .null, .null, .null, .null, .null, .null, .null, .null, .int 0, .int 0, .int 0, .int 0, .int 0, .int 0, .int 0, .int 0, .int 0, .int 0, .int 0, .null, .null, .null, .null, .int 0, .null])), (q1, zA γ 3078), (q2, zA γ 3078), (q3, zA γ 3078), (q4, zA γ 4)]) (q0 := 0) hF dX7_init_35 nl_X7_19 rfl rfl rfl rfl rfl ?_
  refine nB_aload_n hF dX7_init_38 rfl ?_
  refine nB_iconst hF dX7_init_39 ki_4 ?_
  refine nB_newa (N := 4) (k' := 5) (n' := 9242) (wf := fun q5 => [(a, .inr (7, [.ref q1, .ref q2, .ref q3, .int 0, .ref q4, .null, .null, .null, .null, .null, .null, .null, .null, .null, .null, .int 0, .int 0, .int 0, .int 0, .int 0, .int 0, .int 0, .int 0, .int 0, .int 0, .int 0, .null, .null, .null, .null, .int 0, .null])), (q1, zA γ 3078), (q2, zA γ 3078), (q3, zA γ 3078), (q4, zA γ 4), (q5, zA γ 4)]) hF dX7_init_40 w_arrI (by decide) (by decide) rfl rfl rfl rfl rfl (fun _ => rfl) (fun q5 => ?_)
  refine nB_putF (ws' := [(a, .inr (7, [.ref q1, .ref q2, .ref q3, .int 0, .ref q4, .ref q5, .null, .null, .null, .null, .null, .null, .null, .null, .null, .int 0, .int 0, .int 0, .int 0, .int 0, .int 0, .int 0, .int 0, .int 0, .int 0, .int 0, .null, .null, .null, .null, .int 0, .null])), (q1, zA γ 3078), (q2, zA γ 3078), (q3, zA γ 3078), (q4, zA γ 4), (q5, zA γ 4)]) (q0 := 0) hF dX7_init_42 nl_X7_22 rfl rfl rfl rfl rfl ?_
  refine nB_aload_n hF dX7_init_45 rfl ?_
  refine nB_bipush hF dX7_init_46 kb_96 ?_
  refine nB_newa (N := 96) (k' := 6) (n' := 9338) (wf := fun q6 => [(a, .inr (7, [.ref q1, .ref q2, .ref q3, .int 0, .ref q4, .ref q5, .null, .null, .null, .null, .null, .null, .null, .null, .null, .int 0, .int 0, .int 0, .int 0, .int 0, .int 0, .int 0, .int 0, .int 0, .int 0, .int 0, .null, .null, .null, .null, .int 0, .null])), (q1, zA γ 3078), (q2, zA γ 3078), (q3, zA γ 3078), (q4, zA γ 4), (q5, zA γ 4), (q6, zA γ 96)]) hF dX7_init_48 w_arrI (by decide) (by decide) rfl rfl rfl rfl rfl (fun _ => rfl) (fun q6 => ?_)
  refine nB_putF (ws' := [(a, .inr (7, [.ref q1, .ref q2, .ref q3, .int 0, .ref q4, .ref q5, .ref q6, .null, .null, .null, .null, .null, .null, .null, .null, .int 0, .int 0, .int 0, .int 0, .int 0, .int 0, .int 0, .int 0, .int 0, .int 0, .int 0, .null, .null, .null, .null, .int 0, .null])), (q1, zA γ 3078), (q2, zA γ 3078), (q3, zA γ 3078), (q4, zA γ 4), (q5, zA γ 4), (q6, zA γ 96)]) (q0 := 0) hF dX7_init_50 nl_X7_25 rfl rfl rfl rfl rfl ?_
  refine nB_aload_n hF dX7_init_53 rfl ?_
  refine nB_iconst hF dX7_init_54 ki_5 ?_
  refine nB_newa (N := 5) (k' := 7) (n' := 9343) (wf := fun q7 => [(a, .inr (7, [.ref q1, .ref q2, .ref q3, .int 0, .ref q4, .ref q5, .ref q6, .null, .null, .null, .null, .null, .null, .null, .null, .int 0, .int 0, .int 0, .int 0, .int 0, .int 0, .int 0, .int 0, .int 0, .int 0, .int 0, .null, .null, .null, .null, .int 0, .null])), (q1, zA γ 3078), (q2, zA γ 3078), (q3, zA γ 3078), (q4, zA γ 4), (q5, zA γ 4), (q6, zA γ 96), (q7, zA γ 5)]) hF dX7_init_55 w_arrI (by decide) (by decide) rfl rfl rfl rfl rfl (fun _ => rfl) (fun q7 => ?_)
  refine nB_putF (ws' := [(a, .inr (7, [.ref q1, .ref q2, .ref q3, .int 0, .ref q4, .ref q5, .ref q6, .ref q7, .null, .null, .null, .null, .null, .null, .null, .int 0, .int 0, .int 0, .int 0, .int 0, .int 0, .int 0, .int 0, .int 0, .int 0, .int 0, .null, .null, .null, .null, .int 0, .null])), (q1, zA γ 3078), (q2, zA γ 3078), (q3, zA γ 3078), (q4, zA γ 4), (q5, zA γ 4), (q6, zA γ 96), (q7, zA γ 5)]) (q0 := 0) hF dX7_init_57 nl_X7_28 rfl rfl rfl rfl rfl ?_
  refine nB_aload_n hF dX7_init_60 rfl ?_
  refine nB_iconst hF dX7_init_61 ki_5 ?_
  refine nB_newa (N := 5) (k' := 8) (n' := 9348) (wf := fun q8 => [(a, .inr (7, [.ref q1, .ref q2, .ref q3, .int 0, .ref q4, .ref q5, .ref q6, .ref q7, .null, .null, .null, .null, .null, .null, .null, .int 0, .int 0, .int 0, .int 0, .int 0, .int 0, .int 0, .int 0, .int 0, .int 0, .int 0, .null, .null, .null, .null, .int 0, .null])), (q1, zA γ 3078), (q2, zA γ 3078), (q3, zA γ 3078), (q4, zA γ 4), (q5, zA γ 4), (q6, zA γ 96), (q7, zA γ 5), (q8, zA γ 5)]) hF dX7_init_62 w_arrI (by decide) (by decide) rfl rfl rfl rfl rfl (fun _ => rfl) (fun q8 => ?_)
  refine nB_putF (ws' := [(a, .inr (7, [.ref q1, .ref q2, .ref q3, .int 0, .ref q4, .ref q5, .ref q6, .ref q7, .ref q8, .null, .null, .null, .null, .null, .null, .int 0, .int 0, .int 0, .int 0, .int 0, .int 0, .int 0, .int 0, .int 0, .int 0, .int 0, .null, .null, .null, .null, .int 0, .null])), (q1, zA γ 3078), (q2, zA γ 3078), (q3, zA γ 3078), (q4, zA γ 4), (q5, zA γ 4), (q6, zA γ 96), (q7, zA γ 5), (q8, zA γ 5)]) (q0 := 0) hF dX7_init_64 nl_X7_31 rfl rfl rfl rfl rfl ?_
  refine nB_aload_n hF dX7_init_67 rfl ?_
  refine nB_iconst hF dX7_init_68 ki_5 ?_
  refine nB_newa (N := 5) (k' := 9) (n' := 9353) (wf := fun q9 => [(a, .inr (7, [.ref q1, .ref q2, .ref q3, .int 0, .ref q4, .ref q5, .ref q6, .ref q7, .ref q8, .null, .null, .null, .null, .null, .null, .int 0, .int 0, .int 0, .int 0, .int 0, .int 0, .int 0, .int 0, .int 0, .int 0, .int 0, .null, .null, .null, .null, .int 0, .null])), (q1, zA γ 3078), (q2, zA γ 3078), (q3, zA γ 3078), (q4, zA γ 4), (q5, zA γ 4), (q6, zA γ 96), (q7, zA γ 5), (q8, zA γ 5), (q9, zA γ 5)]) hF dX7_init_69 w_arrI (by decide) (by decide) rfl rfl rfl rfl rfl (fun _ => rfl) (fun q9 => ?_)
  refine nB_putF (ws' := [(a, .inr (7, [.ref q1, .ref q2, .ref q3, .int 0, .ref q4, .ref q5, .ref q6, .ref q7, .ref q8, .ref q9, .null, .null, .null, .null, .null, .int 0, .int 0, .int 0, .int 0, .int 0, .int 0, .int 0, .int 0, .int 0, .int 0, .int 0, .null, .null, .null, .null, .int 0, .null])), (q1, zA γ 3078), (q2, zA γ 3078), (q3, zA γ 3078), (q4, zA γ 4), (q5, zA γ 4), (q6, zA γ 96), (q7, zA γ 5), (q8, zA γ 5), (q9, zA γ 5)]) (q0 := 0) hF dX7_init_71 nl_X7_34 rfl rfl rfl rfl rfl ?_
  refine nB_aload_n hF dX7_init_74 rfl ?_
  refine nB_iconst hF dX7_init_75 ki_5 ?_
  refine nB_newa (N := 5) (k' := 10) (n' := 9358) (wf := fun q10 => [(a, .inr (7, [.ref q1, .ref q2, .ref q3, .int 0, .ref q4, .ref q5, .ref q6, .ref q7, .ref q8, .ref q9, .null, .null, .null, .null, .null, .int 0, .int 0, .int 0, .int 0, .int 0, .int 0, .int 0, .int 0, .int 0, .int 0, .int 0, .null, .null, .null, .null, .int 0, .null])), (q1, zA γ 3078), (q2, zA γ 3078), (q3, zA γ 3078), (q4, zA γ 4), (q5, zA γ 4), (q6, zA γ 96), (q7, zA γ 5), (q8, zA γ 5), (q9, zA γ 5), (q10, zA γ 5)]) hF dX7_init_76 w_arrI (by decide) (by decide) rfl rfl rfl rfl rfl (fun _ => rfl) (fun q10 => ?_)
  refine nB_putF (ws' := [(a, .inr (7, [.ref q1, .ref q2, .ref q3, .int 0, .ref q4, .ref q5, .ref q6, .ref q7, .ref q8, .ref q9, .ref q10, .null, .null, .null, .null, .int 0, .int 0, .int 0, .int 0, .int 0, .int 0, .int 0, .int 0, .int 0, .int 0, .int 0, .null, .null, .null, .null, .int 0, .null])), (q1, zA γ 3078), (q2, zA γ 3078), (q3, zA γ 3078), (q4, zA γ 4), (q5, zA γ 4), (q6, zA γ 96), (q7, zA γ 5), (q8, zA γ 5), (q9, zA γ 5), (q10, zA γ 5)]) (q0 := 0) hF dX7_init_78 nl_X7_37 rfl rfl rfl rfl rfl ?_
  refine nB_aload_n hF dX7_init_81 rfl ?_
  refine nB_bipush hF dX7_init_82 kb_120 ?_
  refine nB_newa (N := 120) (k' := 11) (n' := 9478) (wf := fun q11 => [(a, .inr (7, [.ref q1, .ref q2, .ref q3, .int 0, .ref q4, .ref q5, .ref q6, .ref q7, .ref q8, .ref q9, .ref q10, .null, .null, .null, .null, .int 0, .int 0, .int 0, .int 0, .int 0, .int 0, .int 0, .int 0, .int 0, .int 0, .int 0, .null, .null, .null, .null, .int 0, .null])), (q1, zA γ 3078), (q2, zA γ 3078), (q3, zA γ 3078), (q4, zA γ 4), (q5, zA γ 4), (q6, zA γ 96), (q7, zA γ 5), (q8, zA γ 5), (q9, zA γ 5), (q10, zA γ 5), (q11, zA γ 120)]) hF dX7_init_84 w_arrI (by decide) (by decide) rfl rfl rfl rfl rfl (fun _ => rfl) (fun q11 => ?_)
  refine nB_putF (ws' := [(a, .inr (7, [.ref q1, .ref q2, .ref q3, .int 0, .ref q4, .ref q5, .ref q6, .ref q7, .ref q8, .ref q9, .ref q10, .ref q11, .null, .null, .null, .int 0, .int 0, .int 0, .int 0, .int 0, .int 0, .int 0, .int 0, .int 0, .int 0, .int 0, .null, .null, .null, .null, .int 0, .null])), (q1, zA γ 3078), (q2, zA γ 3078), (q3, zA γ 3078), (q4, zA γ 4), (q5, zA γ 4), (q6, zA γ 96), (q7, zA γ 5), (q8, zA γ 5), (q9, zA γ 5), (q10, zA γ 5), (q11, zA γ 120)]) (q0 := 0) hF dX7_init_86 nl_X7_40 rfl rfl rfl rfl rfl ?_
  refine nB_aload_n hF dX7_init_89 rfl ?_
  refine nB_bipush hF dX7_init_90 kb_10 ?_
  refine nB_newa (N := 10) (k' := 12) (n' := 9488) (wf := fun q12 => [(a, .inr (7, [.ref q1, .ref q2, .ref q3, .int 0, .ref q4, .ref q5, .ref q6, .ref q7, .ref q8, .ref q9, .ref q10, .ref q11, .null, .null, .null, .int 0, .int 0, .int 0, .int 0, .int 0, .int 0, .int 0, .int 0, .int 0, .int 0, .int 0, .null, .null, .null, .null, .int 0, .null])), (q1, zA γ 3078), (q2, zA γ 3078), (q3, zA γ 3078), (q4, zA γ 4), (q5, zA γ 4), (q6, zA γ 96), (q7, zA γ 5), (q8, zA γ 5), (q9, zA γ 5), (q10, zA γ 5), (q11, zA γ 120), (q12, zA γ 10)]) hF dX7_init_92 w_arrI (by decide) (by decide) rfl rfl rfl rfl rfl (fun _ => rfl) (fun q12 => ?_)
  refine nB_putF (ws' := [(a, .inr (7, [.ref q1, .ref q2, .ref q3, .int 0, .ref q4, .ref q5, .ref q6, .ref q7, .ref q8, .ref q9, .ref q10, .ref q11, .ref q12, .null, .null, .int 0, .int 0, .int 0, .int 0, .int 0, .int 0, .int 0, .int 0, .int 0, .int 0, .int 0, .null, .null, .null, .null, .int 0, .null])), (q1, zA γ 3078), (q2, zA γ 3078), (q3, zA γ 3078), (q4, zA γ 4), (q5, zA γ 4), (q6, zA γ 96), (q7, zA γ 5), (q8, zA γ 5), (q9, zA γ 5), (q10, zA γ 5), (q11, zA γ 120), (q12, zA γ 10)]) (q0 := 0) hF dX7_init_94 nl_X7_43 rfl rfl rfl rfl rfl ?_
  refine nB_aload_n hF dX7_init_97 rfl ?_
  refine nB_bipush hF dX7_init_98 kb_78 ?_
  refine nB_newa (N := 78) (k' := 13) (n' := 9566) (wf := fun q13 => [(a, .inr (7, [.ref q1, .ref q2, .ref q3, .int 0, .ref q4, .ref q5, .ref q6, .ref q7, .ref q8, .ref q9, .ref q10, .ref q11, .ref q12, .null, .null, .int 0, .int 0, .int 0, .int 0, .int 0, .int 0, .int 0, .int 0, .int 0, .int 0, .int 0, .null, .null, .null, .null, .int 0, .null])), (q1, zA γ 3078), (q2, zA γ 3078), (q3, zA γ 3078), (q4, zA γ 4), (q5, zA γ 4), (q6, zA γ 96), (q7, zA γ 5), (q8, zA γ 5), (q9, zA γ 5), (q10, zA γ 5), (q11, zA γ 120), (q12, zA γ 10), (q13, zA γ 78)]) hF dX7_init_100 w_arrI (by decide) (by decide) rfl rfl rfl rfl rfl (fun _ => rfl) (fun q13 => ?_)
  refine nB_putF (ws' := [(a, .inr (7, [.ref q1, .ref q2, .ref q3, .int 0, .ref q4, .ref q5, .ref q6, .ref q7, .ref q8, .ref q9, .ref q10, .ref q11, .ref q12, .ref q13, .null, .int 0, .int 0, .int 0, .int 0, .int 0, .int 0, .int 0, .int 0, .int 0, .int 0, .int 0, .null, .null, .null, .null, .int 0, .null])), (q1, zA γ 3078), (q2, zA γ 3078), (q3, zA γ 3078), (q4, zA γ 4), (q5, zA γ 4), (q6, zA γ 96), (q7, zA γ 5), (q8, zA γ 5), (q9, zA γ 5), (q10, zA γ 5), (q11, zA γ 120), (q12, zA γ 10), (q13, zA γ 78)]) (q0 := 0) hF dX7_init_102 nl_X7_46 rfl rfl rfl rfl rfl ?_
  refine nB_aload_n hF dX7_init_105 rfl ?_
  refine nB_bipush hF dX7_init_106 kb_96 ?_
  refine nB_newa (N := 96) (k' := 14) (n' := 9662) (wf := fun q14 => [(a, .inr (7, [.ref q1, .ref q2, .ref q3, .int 0, .ref q4, .ref q5, .ref q6, .ref q7, .ref q8, .ref q9, .ref q10, .ref q11, .ref q12, .ref q13, .null, .int 0, .int 0, .int 0, .int 0, .int 0, .int 0, .int 0, .int 0, .int 0, .int 0, .int 0, .null, .null, .null, .null, .int 0, .null])), (q1, zA γ 3078), (q2, zA γ 3078), (q3, zA γ 3078), (q4, zA γ 4), (q5, zA γ 4), (q6, zA γ 96), (q7, zA γ 5), (q8, zA γ 5), (q9, zA γ 5), (q10, zA γ 5), (q11, zA γ 120), (q12, zA γ 10), (q13, zA γ 78), (q14, zA γ 96)]) hF dX7_init_108 w_arrI (by decide) (by decide) rfl rfl rfl rfl rfl (fun _ => rfl) (fun q14 => ?_)
  refine nB_putF (ws' := [(a, .inr (7, [.ref q1, .ref q2, .ref q3, .int 0, .ref q4, .ref q5, .ref q6, .ref q7, .ref q8, .ref q9, .ref q10, .ref q11, .ref q12, .ref q13, .ref q14, .int 0, .int 0, .int 0, .int 0, .int 0, .int 0, .int 0, .int 0, .int 0, .int 0, .int 0, .null, .null, .null, .null, .int 0, .null])), (q1, zA γ 3078), (q2, zA γ 3078), (q3, zA γ 3078), (q4, zA γ 4), (q5, zA γ 4), (q6, zA γ 96), (q7, zA γ 5), (q8, zA γ 5), (q9, zA γ 5), (q10, zA γ 5), (q11, zA γ 120), (q12, zA γ 10), (q13, zA γ 78), (q14, zA γ 96)]) (q0 := 0) hF dX7_init_110 nl_X7_49 rfl rfl rfl rfl rfl ?_
  refine nB_aload_n hF dX7_init_113 rfl ?_
  refine nB_sipush hF dX7_init_114 ks_128 ?_
  refine nB_newa (N := 128) (k' := 15) (n' := 9790) (wf := fun q15 => [(a, .inr (7, [.ref q1, .ref q2, .ref q3, .int 0, .ref q4, .ref q5, .ref q6, .ref q7, .ref q8, .ref q9, .ref q10, .ref q11, .ref q12, .ref q13, .ref q14, .int 0, .int 0, .int 0, .int 0, .int 0, .int 0, .int 0, .int 0, .int 0, .int 0, .int 0, .null, .null, .null, .null, .int 0, .null])), (q1, zA γ 3078), (q2, zA γ 3078), (q3, zA γ 3078), (q4, zA γ 4), (q5, zA γ 4), (q6, zA γ 96), (q7, zA γ 5), (q8, zA γ 5), (q9, zA γ 5), (q10, zA γ 5), (q11, zA γ 120), (q12, zA γ 10), (q13, zA γ 78), (q14, zA γ 96), (q15, zA γ 128)]) hF dX7_init_117 w_arrI (by decide) (by decide) rfl rfl rfl rfl rfl (fun _ => rfl) (fun q15 => ?_)
  refine nB_putF (ws' := [(a, .inr (7, [.ref q1, .ref q2, .ref q3, .int 0, .ref q4, .ref q5, .ref q6, .ref q7, .ref q8, .ref q9, .ref q10, .ref q11, .ref q12, .ref q13, .ref q14, .int 0, .int 0, .int 0, .int 0, .int 0, .int 0, .int 0, .int 0, .int 0, .int 0, .int 0, .ref q15, .null, .null, .null, .int 0, .null])), (q1, zA γ 3078), (q2, zA γ 3078), (q3, zA γ 3078), (q4, zA γ 4), (q5, zA γ 4), (q6, zA γ 96), (q7, zA γ 5), (q8, zA γ 5), (q9, zA γ 5), (q10, zA γ 5), (q11, zA γ 120), (q12, zA γ 10), (q13, zA γ 78), (q14, zA γ 96), (q15, zA γ 128)]) (q0 := 0) hF dX7_init_119 nl_X7_52 rfl rfl rfl rfl rfl ?_
  refine nB_aload_n hF dX7_init_122 rfl ?_
  refine nB_bipush hF dX7_init_123 kb_100 ?_
  refine nB_newa (N := 100) (k' := 16) (n' := 9890) (wf := fun q16 => [(a, .inr (7, [.ref q1, .ref q2, .ref q3, .int 0, .ref q4, .ref q5, .ref q6, .ref q7, .ref q8, .ref q9, .ref q10, .ref q11, .ref q12, .ref q13, .ref q14, .int 0, .int 0, .int 0, .int 0, .int 0, .int 0, .int 0, .int 0, .int 0, .int 0, .int 0, .ref q15, .null, .null, .null, .int 0, .null])), (q1, zA γ 3078), (q2, zA γ 3078), (q3, zA γ 3078), (q4, zA γ 4), (q5, zA γ 4), (q6, zA γ 96), (q7, zA γ 5), (q8, zA γ 5), (q9, zA γ 5), (q10, zA γ 5), (q11, zA γ 120), (q12, zA γ 10), (q13, zA γ 78), (q14, zA γ 96), (q15, zA γ 128), (q16, zA γ 100)]) hF dX7_init_125 w_arrI (by decide) (by decide) rfl rfl rfl rfl rfl (fun _ => rfl) (fun q16 => ?_)
  refine nB_putF (ws' := [(a, .inr (7, [.ref q1, .ref q2, .ref q3, .int 0, .ref q4, .ref q5, .ref q6, .ref q7, .ref q8, .ref q9, .ref q10, .ref q11, .ref q12, .ref q13, .ref q14, .int 0, .int 0, .int 0, .int 0, .int 0, .int 0, .int 0, .int 0, .int 0, .int 0, .int 0, .ref q15, .ref q16, .null, .null, .int 0, .null])), (q1, zA γ 3078), (q2, zA γ 3078), (q3, zA γ 3078), (q4, zA γ 4), (q5, zA γ 4), (q6, zA γ 96), (q7, zA γ 5), (q8, zA γ 5), (q9, zA γ 5), (q10, zA γ 5), (q11, zA γ 120), (q12, zA γ 10), (q13, zA γ 78), (q14, zA γ 96), (q15, zA γ 128), (q16, zA γ 100)]) (q0 := 0) hF dX7_init_127 nl_X7_55 rfl rfl rfl rfl rfl ?_
  refine nB_aload_n hF dX7_init_130 rfl ?_
  refine nB_bipush hF dX7_init_131 kb_24 ?_
  refine nB_newa (N := 24) (k' := 17) (n' := 9914) (wf := fun q17 => [(a, .inr (7, [.ref q1, .ref q2, .ref q3, .int 0, .ref q4, .ref q5, .ref q6, .ref q7, .ref q8, .ref q9, .ref q10, .ref q11, .ref q12, .ref q13, .ref q14, .int 0, .int 0, .int 0, .int 0, .int 0, .int 0, .int 0, .int 0, .int 0, .int 0, .int 0, .ref q15, .ref q16, .null, .null, .int 0, .null])), (q1, zA γ 3078), (q2, zA γ 3078), (q3, zA γ 3078), (q4, zA γ 4), (q5, zA γ 4), (q6, zA γ 96), (q7, zA γ 5), (q8, zA γ 5), (q9, zA γ 5), (q10, zA γ 5), (q11, zA γ 120), (q12, zA γ 10), (q13, zA γ 78), (q14, zA γ 96), (q15, zA γ 128), (q16, zA γ 100), (q17, zA γ 24)]) hF dX7_init_133 w_arrI (by decide) (by decide) rfl rfl rfl rfl rfl (fun _ => rfl) (fun q17 => ?_)
  refine nB_putF (ws' := [(a, .inr (7, [.ref q1, .ref q2, .ref q3, .int 0, .ref q4, .ref q5, .ref q6, .ref q7, .ref q8, .ref q9, .ref q10, .ref q11, .ref q12, .ref q13, .ref q14, .int 0, .int 0, .int 0, .int 0, .int 0, .int 0, .int 0, .int 0, .int 0, .int 0, .int 0, .ref q15, .ref q16, .ref q17, .null, .int 0, .null])), (q1, zA γ 3078), (q2, zA γ 3078), (q3, zA γ 3078), (q4, zA γ 4), (q5, zA γ 4), (q6, zA γ 96), (q7, zA γ 5), (q8, zA γ 5), (q9, zA γ 5), (q10, zA γ 5), (q11, zA γ 120), (q12, zA γ 10), (q13, zA γ 78), (q14, zA γ 96), (q15, zA γ 128), (q16, zA γ 100), (q17, zA γ 24)]) (q0 := 0) hF dX7_init_135 nl_X7_58 rfl rfl rfl rfl rfl ?_
  refine nB_aload_n hF dX7_init_138 rfl ?_
  refine nB_bipush hF dX7_init_139 kb_60 ?_
  refine nB_newa (N := 60) (k' := 18) (n' := 9974) (wf := fun q18 => [(a, .inr (7, [.ref q1, .ref q2, .ref q3, .int 0, .ref q4, .ref q5, .ref q6, .ref q7, .ref q8, .ref q9, .ref q10, .ref q11, .ref q12, .ref q13, .ref q14, .int 0, .int 0, .int 0, .int 0, .int 0, .int 0, .int 0, .int 0, .int 0, .int 0, .int 0, .ref q15, .ref q16, .ref q17, .null, .int 0, .null])), (q1, zA γ 3078), (q2, zA γ 3078), (q3, zA γ 3078), (q4, zA γ 4), (q5, zA γ 4), (q6, zA γ 96), (q7, zA γ 5), (q8, zA γ 5), (q9, zA γ 5), (q10, zA γ 5), (q11, zA γ 120), (q12, zA γ 10), (q13, zA γ 78), (q14, zA γ 96), (q15, zA γ 128), (q16, zA γ 100), (q17, zA γ 24), (q18, zA γ 60)]) hF dX7_init_141 w_arrI (by decide) (by decide) rfl rfl rfl rfl rfl (fun _ => rfl) (fun q18 => ?_)
  refine nB_putF (ws' := [(a, .inr (7, [.ref q1, .ref q2, .ref q3, .int 0, .ref q4, .ref q5, .ref q6, .ref q7, .ref q8, .ref q9, .ref q10, .ref q11, .ref q12, .ref q13, .ref q14, .int 0, .int 0, .int 0, .int 0, .int 0, .int 0, .int 0, .int 0, .int 0, .int 0, .int 0, .ref q15, .ref q16, .ref q17, .ref q18, .int 0, .null])), (q1, zA γ 3078), (q2, zA γ 3078), (q3, zA γ 3078), (q4, zA γ 4), (q5, zA γ 4), (q6, zA γ 96), (q7, zA γ 5), (q8, zA γ 5), (q9, zA γ 5), (q10, zA γ 5), (q11, zA γ 120), (q12, zA γ 10), (q13, zA γ 78), (q14, zA γ 96), (q15, zA γ 128), (q16, zA γ 100), (q17, zA γ 24), (q18, zA γ 60)]) (q0 := 0) hF dX7_init_143 nl_X7_61 rfl rfl rfl rfl rfl ?_
  refine nB_aload_n hF dX7_init_146 rfl ?_
  refine nB_bipush hF dX7_init_147 kb_60 ?_
  refine nB_newa (N := 60) (k' := 19) (n' := 10034) (wf := fun q19 => [(a, .inr (7, [.ref q1, .ref q2, .ref q3, .int 0, .ref q4, .ref q5, .ref q6, .ref q7, .ref q8, .ref q9, .ref q10, .ref q11, .ref q12, .ref q13, .ref q14, .int 0, .int 0, .int 0, .int 0, .int 0, .int 0, .int 0, .int 0, .int 0, .int 0, .int 0, .ref q15, .ref q16, .ref q17, .ref q18, .int 0, .null])), (q1, zA γ 3078), (q2, zA γ 3078), (q3, zA γ 3078), (q4, zA γ 4), (q5, zA γ 4), (q6, zA γ 96), (q7, zA γ 5), (q8, zA γ 5), (q9, zA γ 5), (q10, zA γ 5), (q11, zA γ 120), (q12, zA γ 10), (q13, zA γ 78), (q14, zA γ 96), (q15, zA γ 128), (q16, zA γ 100), (q17, zA γ 24), (q18, zA γ 60), (q19, zA γ 60)]) hF dX7_init_149 w_arrI (by decide) (by decide) rfl rfl rfl rfl rfl (fun _ => rfl) (fun q19 => ?_)
  refine nB_putF (ws' := [(a, .inr (7, [.ref q1, .ref q2, .ref q3, .int 0, .ref q4, .ref q5, .ref q6, .ref q7, .ref q8, .ref q9, .ref q10, .ref q11, .ref q12, .ref q13, .ref q14, .int 0, .int 0, .int 0, .int 0, .int 0, .int 0, .int 0, .int 0, .int 0, .int 0, .int 0, .ref q15, .ref q16, .ref q17, .ref q18, .int 0, .ref q19])), (q1, zA γ 3078), (q2, zA γ 3078), (q3, zA γ 3078), (q4, zA γ 4), (q5, zA γ 4), (q6, zA γ 96), (q7, zA γ 5), (q8, zA γ 5), (q9, zA γ 5), (q10, zA γ 5), (q11, zA γ 120), (q12, zA γ 10), (q13, zA γ 78), (q14, zA γ 96), (q15, zA γ 128), (q16, zA γ 100), (q17, zA γ 24), (q18, zA γ 60), (q19, zA γ 60)]) (q0 := 0) hF dX7_init_151 nl_X7_64 rfl rfl rfl rfl rfl ?_
  refine nB_aload_n hF dX7_init_154 rfl ?_
  refine nB_get (q0 := 0) hF dX7_init_155 fl_X7_7 rfl rfl ?_
  refine nB_iconst hF dX7_init_158 ki_5 ?_
  refine nB_iconst hF dX7_init_159 ki_1 ?_
  refine nB_iast (ws' := [(a, .inr (7, [.ref q1, .ref q2, .ref q3, .int 0, .ref q4, .ref q5, .ref q6, .ref q7, .ref q8, .ref q9, .ref q10, .ref q11, .ref q12, .ref q13, .ref q14, .int 0, .int 0, .int 0, .int 0, .int 0, .int 0, .int 0, .int 0, .int 0, .int 0, .int 0, .ref q15, .ref q16, .ref q17, .ref q18, .int 0, .ref q19])), (q1, .inl (γ.2.1 0, 3078, .inl (upd (fun _ => 0) 5 1))), (q2, zA γ 3078), (q3, zA γ 3078), (q4, zA γ 4), (q5, zA γ 4), (q6, zA γ 96), (q7, zA γ 5), (q8, zA γ 5), (q9, zA γ 5), (q10, zA γ 5), (q11, zA γ 120), (q12, zA γ 10), (q13, zA γ 78), (q14, zA γ 96), (q15, zA γ 128), (q16, zA γ 100), (q17, zA γ 24), (q18, zA γ 60), (q19, zA γ 60)]) (q0 := 1) (j := 5) hF dX7_init_160 rfl (by unfold vp_in; decide) (by decide) rfl ?_
  refine nB_iconst hF dX7_init_161 ki_0 ?_
  refine nB_istore_n (L' := [_, _]) hF dX7_init_162 rfl rfl rfl ?_
  refine nB_iload_n hF dX7_init_163 rfl ?_
  refine nB_bipush hF dX7_init_164 kb_6 ?_
  refine nB_ge_f (tgt := 196) hF dX7_init_166 rfl (by decide) ?_
  refine nB_aload_n hF dX7_init_169 rfl ?_
  refine nB_get (q0 := 0) hF dX7_init_170 fl_X7_7 rfl rfl ?_
  refine nB_bipush hF dX7_init_173 kb_6 ?_
  refine nB_iload_n hF dX7_init_175 rfl ?_
  refine nB_iadd (z := 6) hF dX7_init_176 (by decide) ?_
  refine nB_bipush hF dX7_init_177 kb_100 ?_
  refine nB_iast (ws' := [(a, .inr (7, [.ref q1, .ref q2, .ref q3, .int 0, .ref q4, .ref q5, .ref q6, .ref q7, .ref q8, .ref q9, .ref q10, .ref q11, .ref q12, .ref q13, .ref q14, .int 0, .int 0, .int 0, .int 0, .int 0, .int 0, .int 0, .int 0, .int 0, .int 0, .int 0, .ref q15, .ref q16, .ref q17, .ref q18, .int 0, .ref q19])), (q1, .inl (γ.2.1 0, 3078, .inl (upd (upd (fun _ => 0) 5 1) 6 100))), (q2, zA γ 3078), (q3, zA γ 3078), (q4, zA γ 4), (q5, zA γ 4), (q6, zA γ 96), (q7, zA γ 5), (q8, zA γ 5), (q9, zA γ 5), (q10, zA γ 5), (q11, zA γ 120), (q12, zA γ 10), (q13, zA γ 78), (q14, zA γ 96), (q15, zA γ 128), (q16, zA γ 100), (q17, zA γ 24), (q18, zA γ 60), (q19, zA γ 60)]) (q0 := 1) (j := 6) hF dX7_init_179 rfl (by unfold vp_in; decide) (by decide) rfl ?_
  refine nB_aload_n hF dX7_init_180 rfl ?_
  refine nB_get (q0 := 0) hF dX7_init_181 fl_X7_7 rfl rfl ?_
  refine nB_bipush hF dX7_init_184 kb_12 ?_
  refine nB_iload_n hF dX7_init_186 rfl ?_
  refine nB_iadd (z := 12) hF dX7_init_187 (by decide) ?_
  refine nB_iload_n hF dX7_init_188 rfl ?_
  refine nB_iast (ws' := [(a, .inr (7, [.ref q1, .ref q2, .ref q3, .int 0, .ref q4, .ref q5, .ref q6, .ref q7, .ref q8, .ref q9, .ref q10, .ref q11, .ref q12, .ref q13, .ref q14, .int 0, .int 0, .int 0, .int 0, .int 0, .int 0, .int 0, .int 0, .int 0, .int 0, .int 0, .ref q15, .ref q16, .ref q17, .ref q18, .int 0, .ref q19])), (q1, .inl (γ.2.1 0, 3078, .inl (upd (upd (upd (fun _ => 0) 5 1) 6 100) 12 0))), (q2, zA γ 3078), (q3, zA γ 3078), (q4, zA γ 4), (q5, zA γ 4), (q6, zA γ 96), (q7, zA γ 5), (q8, zA γ 5), (q9, zA γ 5), (q10, zA γ 5), (q11, zA γ 120), (q12, zA γ 10), (q13, zA γ 78), (q14, zA γ 96), (q15, zA γ 128), (q16, zA γ 100), (q17, zA γ 24), (q18, zA γ 60), (q19, zA γ 60)]) (q0 := 1) (j := 12) hF dX7_init_189 rfl (by unfold vp_in; decide) (by decide) rfl ?_
  refine nB_iinc (y := 1) (L' := [_, _]) hF dX7_init_190 rfl (by decide) rfl rfl rfl ?_
  refine nB_goto (tgt := 163) hF dX7_init_193 rfl ?_
  refine nB_iload_n hF dX7_init_163 rfl ?_
  refine nB_bipush hF dX7_init_164 kb_6 ?_
  refine nB_ge_f (tgt := 196) hF dX7_init_166 rfl (by decide) ?_
  refine nB_aload_n hF dX7_init_169 rfl ?_
  refine nB_get (q0 := 0) hF dX7_init_170 fl_X7_7 rfl rfl ?_
  refine nB_bipush hF dX7_init_173 kb_6 ?_
  refine nB_iload_n hF dX7_init_175 rfl ?_
  refine nB_iadd (z := 7) hF dX7_init_176 (by decide) ?_
  refine nB_bipush hF dX7_init_177 kb_100 ?_
  refine nB_iast (ws' := [(a, .inr (7, [.ref q1, .ref q2, .ref q3, .int 0, .ref q4, .ref q5, .ref q6, .ref q7, .ref q8, .ref q9, .ref q10, .ref q11, .ref q12, .ref q13, .ref q14, .int 0, .int 0, .int 0, .int 0, .int 0, .int 0, .int 0, .int 0, .int 0, .int 0, .int 0, .ref q15, .ref q16, .ref q17, .ref q18, .int 0, .ref q19])), (q1, .inl (γ.2.1 0, 3078, .inl (upd (upd (upd (upd (fun _ => 0) 5 1) 6 100) 12 0) 7 100))), (q2, zA γ 3078), (q3, zA γ 3078), (q4, zA γ 4), (q5, zA γ 4), (q6, zA γ 96), (q7, zA γ 5), (q8, zA γ 5), (q9, zA γ 5), (q10, zA γ 5), (q11, zA γ 120), (q12, zA γ 10), (q13, zA γ 78), (q14, zA γ 96), (q15, zA γ 128), (q16, zA γ 100), (q17, zA γ 24), (q18, zA γ 60), (q19, zA γ 60)]) (q0 := 1) (j := 7) hF dX7_init_179 rfl (by unfold vp_in; decide) (by decide) rfl ?_
  refine nB_aload_n hF dX7_init_180 rfl ?_
  refine nB_get (q0 := 0) hF dX7_init_181 fl_X7_7 rfl rfl ?_
  refine nB_bipush hF dX7_init_184 kb_12 ?_
  refine nB_iload_n hF dX7_init_186 rfl ?_
  refine nB_iadd (z := 13) hF dX7_init_187 (by decide) ?_
  refine nB_iload_n hF dX7_init_188 rfl ?_
  refine nB_iast (ws' := [(a, .inr (7, [.ref q1, .ref q2, .ref q3, .int 0, .ref q4, .ref q5, .ref q6, .ref q7, .ref q8, .ref q9, .ref q10, .ref q11, .ref q12, .ref q13, .ref q14, .int 0, .int 0, .int 0, .int 0, .int 0, .int 0, .int 0, .int 0, .int 0, .int 0, .int 0, .ref q15, .ref q16, .ref q17, .ref q18, .int 0, .ref q19])), (q1, .inl (γ.2.1 0, 3078, .inl (upd (upd (upd (upd (upd (fun _ => 0) 5 1) 6 100) 12 0) 7 100) 13 1))), (q2, zA γ 3078), (q3, zA γ 3078), (q4, zA γ 4), (q5, zA γ 4), (q6, zA γ 96), (q7, zA γ 5), (q8, zA γ 5), (q9, zA γ 5), (q10, zA γ 5), (q11, zA γ 120), (q12, zA γ 10), (q13, zA γ 78), (q14, zA γ 96), (q15, zA γ 128), (q16, zA γ 100), (q17, zA γ 24), (q18, zA γ 60), (q19, zA γ 60)]) (q0 := 1) (j := 13) hF dX7_init_189 rfl (by unfold vp_in; decide) (by decide) rfl ?_
  refine nB_iinc (y := 2) (L' := [_, _]) hF dX7_init_190 rfl (by decide) rfl rfl rfl ?_
  refine nB_goto (tgt := 163) hF dX7_init_193 rfl ?_
  refine nB_iload_n hF dX7_init_163 rfl ?_
  refine nB_bipush hF dX7_init_164 kb_6 ?_
  refine nB_ge_f (tgt := 196) hF dX7_init_166 rfl (by decide) ?_
  refine nB_aload_n hF dX7_init_169 rfl ?_
  refine nB_get (q0 := 0) hF dX7_init_170 fl_X7_7 rfl rfl ?_
  refine nB_bipush hF dX7_init_173 kb_6 ?_
  refine nB_iload_n hF dX7_init_175 rfl ?_
  refine nB_iadd (z := 8) hF dX7_init_176 (by decide) ?_
  refine nB_bipush hF dX7_init_177 kb_100 ?_
  refine nB_iast (ws' := [(a, .inr (7, [.ref q1, .ref q2, .ref q3, .int 0, .ref q4, .ref q5, .ref q6, .ref q7, .ref q8, .ref q9, .ref q10, .ref q11, .ref q12, .ref q13, .ref q14, .int 0, .int 0, .int 0, .int 0, .int 0, .int 0, .int 0, .int 0, .int 0, .int 0, .int 0, .ref q15, .ref q16, .ref q17, .ref q18, .int 0, .ref q19])), (q1, .inl (γ.2.1 0, 3078, .inl (upd (upd (upd (upd (upd (upd (fun _ => 0) 5 1) 6 100) 12 0) 7 100) 13 1) 8 100))), (q2, zA γ 3078), (q3, zA γ 3078), (q4, zA γ 4), (q5, zA γ 4), (q6, zA γ 96), (q7, zA γ 5), (q8, zA γ 5), (q9, zA γ 5), (q10, zA γ 5), (q11, zA γ 120), (q12, zA γ 10), (q13, zA γ 78), (q14, zA γ 96), (q15, zA γ 128), (q16, zA γ 100), (q17, zA γ 24), (q18, zA γ 60), (q19, zA γ 60)]) (q0 := 1) (j := 8) hF dX7_init_179 rfl (by unfold vp_in; decide) (by decide) rfl ?_
  refine nB_aload_n hF dX7_init_180 rfl ?_
  refine nB_get (q0 := 0) hF dX7_init_181 fl_X7_7 rfl rfl ?_
  refine nB_bipush hF dX7_init_184 kb_12 ?_
  refine nB_iload_n hF dX7_init_186 rfl ?_
  refine nB_iadd (z := 14) hF dX7_init_187 (by decide) ?_
  refine nB_iload_n hF dX7_init_188 rfl ?_
  refine nB_iast (ws' := [(a, .inr (7, [.ref q1, .ref q2, .ref q3, .int 0, .ref q4, .ref q5, .ref q6, .ref q7, .ref q8, .ref q9, .ref q10, .ref q11, .ref q12, .ref q13, .ref q14, .int 0, .int 0, .int 0, .int 0, .int 0, .int 0, .int 0, .int 0, .int 0, .int 0, .int 0, .ref q15, .ref q16, .ref q17, .ref q18, .int 0, .ref q19])), (q1, .inl (γ.2.1 0, 3078, .inl (upd (upd (upd (upd (upd (upd (upd (fun _ => 0) 5 1) 6 100) 12 0) 7 100) 13 1) 8 100) 14 2))), (q2, zA γ 3078), (q3, zA γ 3078), (q4, zA γ 4), (q5, zA γ 4), (q6, zA γ 96), (q7, zA γ 5), (q8, zA γ 5), (q9, zA γ 5), (q10, zA γ 5), (q11, zA γ 120), (q12, zA γ 10), (q13, zA γ 78), (q14, zA γ 96), (q15, zA γ 128), (q16, zA γ 100), (q17, zA γ 24), (q18, zA γ 60), (q19, zA γ 60)]) (q0 := 1) (j := 14) hF dX7_init_189 rfl (by unfold vp_in; decide) (by decide) rfl ?_
  refine nB_iinc (y := 3) (L' := [_, _]) hF dX7_init_190 rfl (by decide) rfl rfl rfl ?_
  refine nB_goto (tgt := 163) hF dX7_init_193 rfl ?_
  refine nB_iload_n hF dX7_init_163 rfl ?_
  refine nB_bipush hF dX7_init_164 kb_6 ?_
  refine nB_ge_f (tgt := 196) hF dX7_init_166 rfl (by decide) ?_
  refine nB_aload_n hF dX7_init_169 rfl ?_
  refine nB_get (q0 := 0) hF dX7_init_170 fl_X7_7 rfl rfl ?_
  refine nB_bipush hF dX7_init_173 kb_6 ?_
  refine nB_iload_n hF dX7_init_175 rfl ?_
  refine nB_iadd (z := 9) hF dX7_init_176 (by decide) ?_
  refine nB_bipush hF dX7_init_177 kb_100 ?_
  refine nB_iast (ws' := [(a, .inr (7, [.ref q1, .ref q2, .ref q3, .int 0, .ref q4, .ref q5, .ref q6, .ref q7, .ref q8, .ref q9, .ref q10, .ref q11, .ref q12, .ref q13, .ref q14, .int 0, .int 0, .int 0, .int 0, .int 0, .int 0, .int 0, .int 0, .int 0, .int 0, .int 0, .ref q15, .ref q16, .ref q17, .ref q18, .int 0, .ref q19])), (q1, .inl (γ.2.1 0, 3078, .inl (upd (upd (upd (upd (upd (upd (upd (upd (fun _ => 0) 5 1) 6 100) 12 0) 7 100) 13 1) 8 100) 14 2) 9 100))), (q2, zA γ 3078), (q3, zA γ 3078), (q4, zA γ 4), (q5, zA γ 4), (q6, zA γ 96), (q7, zA γ 5), (q8, zA γ 5), (q9, zA γ 5), (q10, zA γ 5), (q11, zA γ 120), (q12, zA γ 10), (q13, zA γ 78), (q14, zA γ 96), (q15, zA γ 128), (q16, zA γ 100), (q17, zA γ 24), (q18, zA γ 60), (q19, zA γ 60)]) (q0 := 1) (j := 9) hF dX7_init_179 rfl (by unfold vp_in; decide) (by decide) rfl ?_
  refine nB_aload_n hF dX7_init_180 rfl ?_
  refine nB_get (q0 := 0) hF dX7_init_181 fl_X7_7 rfl rfl ?_
  refine nB_bipush hF dX7_init_184 kb_12 ?_
  refine nB_iload_n hF dX7_init_186 rfl ?_
  refine nB_iadd (z := 15) hF dX7_init_187 (by decide) ?_
  refine nB_iload_n hF dX7_init_188 rfl ?_
  refine nB_iast (ws' := [(a, .inr (7, [.ref q1, .ref q2, .ref q3, .int 0, .ref q4, .ref q5, .ref q6, .ref q7, .ref q8, .ref q9, .ref q10, .ref q11, .ref q12, .ref q13, .ref q14, .int 0, .int 0, .int 0, .int 0, .int 0, .int 0, .int 0, .int 0, .int 0, .int 0, .int 0, .ref q15, .ref q16, .ref q17, .ref q18, .int 0, .ref q19])), (q1, .inl (γ.2.1 0, 3078, .inl (upd (upd (upd (upd (upd (upd (upd (upd (upd (fun _ => 0) 5 1) 6 100) 12 0) 7 100) 13 1) 8 100) 14 2) 9 100) 15 3))), (q2, zA γ 3078), (q3, zA γ 3078), (q4, zA γ 4), (q5, zA γ 4), (q6, zA γ 96), (q7, zA γ 5), (q8, zA γ 5), (q9, zA γ 5), (q10, zA γ 5), (q11, zA γ 120), (q12, zA γ 10), (q13, zA γ 78), (q14, zA γ 96), (q15, zA γ 128), (q16, zA γ 100), (q17, zA γ 24), (q18, zA γ 60), (q19, zA γ 60)]) (q0 := 1) (j := 15) hF dX7_init_189 rfl (by unfold vp_in; decide) (by decide) rfl ?_
  refine nB_iinc (y := 4) (L' := [_, _]) hF dX7_init_190 rfl (by decide) rfl rfl rfl ?_
  refine nB_goto (tgt := 163) hF dX7_init_193 rfl ?_
  refine nB_iload_n hF dX7_init_163 rfl ?_
  refine nB_bipush hF dX7_init_164 kb_6 ?_
  refine nB_ge_f (tgt := 196) hF dX7_init_166 rfl (by decide) ?_
  refine nB_aload_n hF dX7_init_169 rfl ?_
  refine nB_get (q0 := 0) hF dX7_init_170 fl_X7_7 rfl rfl ?_
  refine nB_bipush hF dX7_init_173 kb_6 ?_
  refine nB_iload_n hF dX7_init_175 rfl ?_
  refine nB_iadd (z := 10) hF dX7_init_176 (by decide) ?_
  refine nB_bipush hF dX7_init_177 kb_100 ?_
  refine nB_iast (ws' := [(a, .inr (7, [.ref q1, .ref q2, .ref q3, .int 0, .ref q4, .ref q5, .ref q6, .ref q7, .ref q8, .ref q9, .ref q10, .ref q11, .ref q12, .ref q13, .ref q14, .int 0, .int 0, .int 0, .int 0, .int 0, .int 0, .int 0, .int 0, .int 0, .int 0, .int 0, .ref q15, .ref q16, .ref q17, .ref q18, .int 0, .ref q19])), (q1, .inl (γ.2.1 0, 3078, .inl (upd (upd (upd (upd (upd (upd (upd (upd (upd (upd (fun _ => 0) 5 1) 6 100) 12 0) 7 100) 13 1) 8 100) 14 2) 9 100) 15 3) 10 100))), (q2, zA γ 3078), (q3, zA γ 3078), (q4, zA γ 4), (q5, zA γ 4), (q6, zA γ 96), (q7, zA γ 5), (q8, zA γ 5), (q9, zA γ 5), (q10, zA γ 5), (q11, zA γ 120), (q12, zA γ 10), (q13, zA γ 78), (q14, zA γ 96), (q15, zA γ 128), (q16, zA γ 100), (q17, zA γ 24), (q18, zA γ 60), (q19, zA γ 60)]) (q0 := 1) (j := 10) hF dX7_init_179 rfl (by unfold vp_in; decide) (by decide) rfl ?_
  refine nB_aload_n hF dX7_init_180 rfl ?_
  refine nB_get (q0 := 0) hF dX7_init_181 fl_X7_7 rfl rfl ?_
  refine nB_bipush hF dX7_init_184 kb_12 ?_
  refine nB_iload_n hF dX7_init_186 rfl ?_
  refine nB_iadd (z := 16) hF dX7_init_187 (by decide) ?_
  refine nB_iload_n hF dX7_init_188 rfl ?_
  refine nB_iast (ws' := [(a, .inr (7, [.ref q1, .ref q2, .ref q3, .int 0, .ref q4, .ref q5, .ref q6, .ref q7, .ref q8, .ref q9, .ref q10, .ref q11, .ref q12, .ref q13, .ref q14, .int 0, .int 0, .int 0, .int 0, .int 0, .int 0, .int 0, .int 0, .int 0, .int 0, .int 0, .ref q15, .ref q16, .ref q17, .ref q18, .int 0, .ref q19])), (q1, .inl (γ.2.1 0, 3078, .inl (upd (upd (upd (upd (upd (upd (upd (upd (upd (upd (upd (fun _ => 0) 5 1) 6 100) 12 0) 7 100) 13 1) 8 100) 14 2) 9 100) 15 3) 10 100) 16 4))), (q2, zA γ 3078), (q3, zA γ 3078), (q4, zA γ 4), (q5, zA γ 4), (q6, zA γ 96), (q7, zA γ 5), (q8, zA γ 5), (q9, zA γ 5), (q10, zA γ 5), (q11, zA γ 120), (q12, zA γ 10), (q13, zA γ 78), (q14, zA γ 96), (q15, zA γ 128), (q16, zA γ 100), (q17, zA γ 24), (q18, zA γ 60), (q19, zA γ 60)]) (q0 := 1) (j := 16) hF dX7_init_189 rfl (by unfold vp_in; decide) (by decide) rfl ?_
  refine nB_iinc (y := 5) (L' := [_, _]) hF dX7_init_190 rfl (by decide) rfl rfl rfl ?_
  refine nB_goto (tgt := 163) hF dX7_init_193 rfl ?_
  refine nB_iload_n hF dX7_init_163 rfl ?_
  refine nB_bipush hF dX7_init_164 kb_6 ?_
  refine nB_ge_f (tgt := 196) hF dX7_init_166 rfl (by decide) ?_
  refine nB_aload_n hF dX7_init_169 rfl ?_
  refine nB_get (q0 := 0) hF dX7_init_170 fl_X7_7 rfl rfl ?_
  refine nB_bipush hF dX7_init_173 kb_6 ?_
  refine nB_iload_n hF dX7_init_175 rfl ?_
  refine nB_iadd (z := 11) hF dX7_init_176 (by decide) ?_
  refine nB_bipush hF dX7_init_177 kb_100 ?_
  refine nB_iast (ws' := [(a, .inr (7, [.ref q1, .ref q2, .ref q3, .int 0, .ref q4, .ref q5, .ref q6, .ref q7, .ref q8, .ref q9, .ref q10, .ref q11, .ref q12, .ref q13, .ref q14, .int 0, .int 0, .int 0, .int 0, .int 0, .int 0, .int 0, .int 0, .int 0, .int 0, .int 0, .ref q15, .ref q16, .ref q17, .ref q18, .int 0, .ref q19])), (q1, .inl (γ.2.1 0, 3078, .inl (upd (upd (upd (upd (upd (upd (upd (upd (upd (upd (upd (upd (fun _ => 0) 5 1) 6 100) 12 0) 7 100) 13 1) 8 100) 14 2) 9 100) 15 3) 10 100) 16 4) 11 100))), (q2, zA γ 3078), (q3, zA γ 3078), (q4, zA γ 4), (q5, zA γ 4), (q6, zA γ 96), (q7, zA γ 5), (q8, zA γ 5), (q9, zA γ 5), (q10, zA γ 5), (q11, zA γ 120), (q12, zA γ 10), (q13, zA γ 78), (q14, zA γ 96), (q15, zA γ 128), (q16, zA γ 100), (q17, zA γ 24), (q18, zA γ 60), (q19, zA γ 60)]) (q0 := 1) (j := 11) hF dX7_init_179 rfl (by unfold vp_in; decide) (by decide) rfl ?_
  refine nB_aload_n hF dX7_init_180 rfl ?_
  refine nB_get (q0 := 0) hF dX7_init_181 fl_X7_7 rfl rfl ?_
  refine nB_bipush hF dX7_init_184 kb_12 ?_
  refine nB_iload_n hF dX7_init_186 rfl ?_
  refine nB_iadd (z := 17) hF dX7_init_187 (by decide) ?_
  refine nB_iload_n hF dX7_init_188 rfl ?_
  refine nB_iast (ws' := [(a, .inr (7, [.ref q1, .ref q2, .ref q3, .int 0, .ref q4, .ref q5, .ref q6, .ref q7, .ref q8, .ref q9, .ref q10, .ref q11, .ref q12, .ref q13, .ref q14, .int 0, .int 0, .int 0, .int 0, .int 0, .int 0, .int 0, .int 0, .int 0, .int 0, .int 0, .ref q15, .ref q16, .ref q17, .ref q18, .int 0, .ref q19])), (q1, .inl (γ.2.1 0, 3078, .inl (upd (upd (upd (upd (upd (upd (upd (upd (upd (upd (upd (upd (upd (fun _ => 0) 5 1) 6 100) 12 0) 7 100) 13 1) 8 100) 14 2) 9 100) 15 3) 10 100) 16 4) 11 100) 17 5))), (q2, zA γ 3078), (q3, zA γ 3078), (q4, zA γ 4), (q5, zA γ 4), (q6, zA γ 96), (q7, zA γ 5), (q8, zA γ 5), (q9, zA γ 5), (q10, zA γ 5), (q11, zA γ 120), (q12, zA γ 10), (q13, zA γ 78), (q14, zA γ 96), (q15, zA γ 128), (q16, zA γ 100), (q17, zA γ 24), (q18, zA γ 60), (q19, zA γ 60)]) (q0 := 1) (j := 17) hF dX7_init_189 rfl (by unfold vp_in; decide) (by decide) rfl ?_
  refine nB_iinc (y := 6) (L' := [_, _]) hF dX7_init_190 rfl (by decide) rfl rfl rfl ?_
  refine nB_goto (tgt := 163) hF dX7_init_193 rfl ?_
  refine nB_iload_n hF dX7_init_163 rfl ?_
  refine nB_bipush hF dX7_init_164 kb_6 ?_
  refine nB_ge_t (tgt := 196) hF dX7_init_166 rfl (by decide) ?_
  refine nB_iconst hF dX7_init_196 ki_0 ?_
  refine nB_istore_n (L' := [_, _]) hF dX7_init_197 rfl rfl rfl ?_
  refine nB_iload_n hF dX7_init_198 rfl ?_
  refine nB_iconst hF dX7_init_199 ki_4 ?_
  refine nB_ge_f (tgt := 216) hF dX7_init_200 rfl (by decide) ?_
  refine nB_aload_n hF dX7_init_203 rfl ?_
  refine nB_get (q0 := 0) hF dX7_init_204 fl_X7_19 rfl rfl ?_
  refine nB_iload_n hF dX7_init_207 rfl ?_
  refine nB_iconst hF dX7_init_208 ki_m1 ?_
  refine nB_iast (ws' := [(a, .inr (7, [.ref q1, .ref q2, .ref q3, .int 0, .ref q4, .ref q5, .ref q6, .ref q7, .ref q8, .ref q9, .ref q10, .ref q11, .ref q12, .ref q13, .ref q14, .int 0, .int 0, .int 0, .int 0, .int 0, .int 0, .int 0, .int 0, .int 0, .int 0, .int 0, .ref q15, .ref q16, .ref q17, .ref q18, .int 0, .ref q19])), (q1, .inl (γ.2.1 0, 3078, .inl (upd (upd (upd (upd (upd (upd (upd (upd (upd (upd (upd (upd (upd (fun _ => 0) 5 1) 6 100) 12 0) 7 100) 13 1) 8 100) 14 2) 9 100) 15 3) 10 100) 16 4) 11 100) 17 5))), (q2, zA γ 3078), (q3, zA γ 3078), (q4, .inl (γ.2.1 0, 4, .inl (upd (fun _ => 0) 0 (-1)))), (q5, zA γ 4), (q6, zA γ 96), (q7, zA γ 5), (q8, zA γ 5), (q9, zA γ 5), (q10, zA γ 5), (q11, zA γ 120), (q12, zA γ 10), (q13, zA γ 78), (q14, zA γ 96), (q15, zA γ 128), (q16, zA γ 100), (q17, zA γ 24), (q18, zA γ 60), (q19, zA γ 60)]) (q0 := 4) (j := 0) hF dX7_init_209 rfl (by unfold vp_in; decide) (by decide) rfl ?_
  refine nB_iinc (y := 1) (L' := [_, _]) hF dX7_init_210 rfl (by decide) rfl rfl rfl ?_
  refine nB_goto (tgt := 198) hF dX7_init_213 rfl ?_
  refine nB_iload_n hF dX7_init_198 rfl ?_
  refine nB_iconst hF dX7_init_199 ki_4 ?_
  refine nB_ge_f (tgt := 216) hF dX7_init_200 rfl (by decide) ?_
  refine nB_aload_n hF dX7_init_203 rfl ?_
  refine nB_get (q0 := 0) hF dX7_init_204 fl_X7_19 rfl rfl ?_
  refine nB_iload_n hF dX7_init_207 rfl ?_
  refine nB_iconst hF dX7_init_208 ki_m1 ?_
  refine nB_iast (ws' := [(a, .inr (7, [.ref q1, .ref q2, .ref q3, .int 0, .ref q4, .ref q5, .ref q6, .ref q7, .ref q8, .ref q9, .ref q10, .ref q11, .ref q12, .ref q13, .ref q14, .int 0, .int 0, .int 0, .int 0, .int 0, .int 0, .int 0, .int 0, .int 0, .int 0, .int 0, .ref q15, .ref q16, .ref q17, .ref q18, .int 0, .ref q19])), (q1, .inl (γ.2.1 0, 3078, .inl (upd (upd (upd (upd (upd (upd (upd (upd (upd (upd (upd (upd (upd (fun _ => 0) 5 1) 6 100) 12 0) 7 100) 13 1) 8 100) 14 2) 9 100) 15 3) 10 100) 16 4) 11 100) 17 5))), (q2, zA γ 3078), (q3, zA γ 3078), (q4, .inl (γ.2.1 0, 4, .inl (upd (upd (fun _ => 0) 0 (-1)) 1 (-1)))), (q5, zA γ 4), (q6, zA γ 96), (q7, zA γ 5), (q8, zA γ 5), (q9, zA γ 5), (q10, zA γ 5), (q11, zA γ 120), (q12, zA γ 10), (q13, zA γ 78), (q14, zA γ 96), (q15, zA γ 128), (q16, zA γ 100), (q17, zA γ 24), (q18, zA γ 60), (q19, zA γ 60)]) (q0 := 4) (j := 1) hF dX7_init_209 rfl (by unfold vp_in; decide) (by decide) rfl ?_
  refine nB_iinc (y := 2) (L' := [_, _]) hF dX7_init_210 rfl (by decide) rfl rfl rfl ?_
  refine nB_goto (tgt := 198) hF dX7_init_213 rfl ?_
  refine nB_iload_n hF dX7_init_198 rfl ?_
  refine nB_iconst hF dX7_init_199 ki_4 ?_
  refine nB_ge_f (tgt := 216) hF dX7_init_200 rfl (by decide) ?_
  refine nB_aload_n hF dX7_init_203 rfl ?_
  refine nB_get (q0 := 0) hF dX7_init_204 fl_X7_19 rfl rfl ?_
  refine nB_iload_n hF dX7_init_207 rfl ?_
  refine nB_iconst hF dX7_init_208 ki_m1 ?_
  refine nB_iast (ws' := [(a, .inr (7, [.ref q1, .ref q2, .ref q3, .int 0, .ref q4, .ref q5, .ref q6, .ref q7, .ref q8, .ref q9, .ref q10, .ref q11, .ref q12, .ref q13, .ref q14, .int 0, .int 0, .int 0, .int 0, .int 0, .int 0, .int 0, .int 0, .int 0, .int 0, .int 0, .ref q15, .ref q16, .ref q17, .ref q18, .int 0, .ref q19])), (q1, .inl (γ.2.1 0, 3078, .inl (upd (upd (upd (upd (upd (upd (upd (upd (upd (upd (upd (upd (upd (fun _ => 0) 5 1) 6 100) 12 0) 7 100) 13 1) 8 100) 14 2) 9 100) 15 3) 10 100) 16 4) 11 100) 17 5))), (q2, zA γ 3078), (q3, zA γ 3078), (q4, .inl (γ.2.1 0, 4, .inl (upd (upd (upd (fun _ => 0) 0 (-1)) 1 (-1)) 2 (-1)))), (q5, zA γ 4), (q6, zA γ 96), (q7, zA γ 5), (q8, zA γ 5), (q9, zA γ 5), (q10, zA γ 5), (q11, zA γ 120), (q12, zA γ 10), (q13, zA γ 78), (q14, zA γ 96), (q15, zA γ 128), (q16, zA γ 100), (q17, zA γ 24), (q18, zA γ 60), (q19, zA γ 60)]) (q0 := 4) (j := 2) hF dX7_init_209 rfl (by unfold vp_in; decide) (by decide) rfl ?_
  refine nB_iinc (y := 3) (L' := [_, _]) hF dX7_init_210 rfl (by decide) rfl rfl rfl ?_
  refine nB_goto (tgt := 198) hF dX7_init_213 rfl ?_
  refine nB_iload_n hF dX7_init_198 rfl ?_
  refine nB_iconst hF dX7_init_199 ki_4 ?_
  refine nB_ge_f (tgt := 216) hF dX7_init_200 rfl (by decide) ?_
  refine nB_aload_n hF dX7_init_203 rfl ?_
  refine nB_get (q0 := 0) hF dX7_init_204 fl_X7_19 rfl rfl ?_
  refine nB_iload_n hF dX7_init_207 rfl ?_
  refine nB_iconst hF dX7_init_208 ki_m1 ?_
  refine nB_iast (ws' := [(a, .inr (7, [.ref q1, .ref q2, .ref q3, .int 0, .ref q4, .ref q5, .ref q6, .ref q7, .ref q8, .ref q9, .ref q10, .ref q11, .ref q12, .ref q13, .ref q14, .int 0, .int 0, .int 0, .int 0, .int 0, .int 0, .int 0, .int 0, .int 0, .int 0, .int 0, .ref q15, .ref q16, .ref q17, .ref q18, .int 0, .ref q19])), (q1, .inl (γ.2.1 0, 3078, .inl (upd (upd (upd (upd (upd (upd (upd (upd (upd (upd (upd (upd (upd (fun _ => 0) 5 1) 6 100) 12 0) 7 100) 13 1) 8 100) 14 2) 9 100) 15 3) 10 100) 16 4) 11 100) 17 5))), (q2, zA γ 3078), (q3, zA γ 3078), (q4, .inl (γ.2.1 0, 4, .inl (upd (upd (upd (upd (fun _ => 0) 0 (-1)) 1 (-1)) 2 (-1)) 3 (-1)))), (q5, zA γ 4), (q6, zA γ 96), (q7, zA γ 5), (q8, zA γ 5), (q9, zA γ 5), (q10, zA γ 5), (q11, zA γ 120), (q12, zA γ 10), (q13, zA γ 78), (q14, zA γ 96), (q15, zA γ 128), (q16, zA γ 100), (q17, zA γ 24), (q18, zA γ 60), (q19, zA γ 60)]) (q0 := 4) (j := 3) hF dX7_init_209 rfl (by unfold vp_in; decide) (by decide) rfl ?_
  refine nB_iinc (y := 4) (L' := [_, _]) hF dX7_init_210 rfl (by decide) rfl rfl rfl ?_
  refine nB_goto (tgt := 198) hF dX7_init_213 rfl ?_
  refine nB_iload_n hF dX7_init_198 rfl ?_
  refine nB_iconst hF dX7_init_199 ki_4 ?_
  refine nB_ge_t (tgt := 216) hF dX7_init_200 rfl (by decide) ?_
  refine nB_ret hF (fun z => [a, q1, q2, q3, q4, q5, q6, q7, q8, q9, q10, q11, q12, q13, q14, q15, q16, q17, q18, q19].getD z 0) dX7_init_216 ?_ rfl rfl
  exact xws_of (N := 20) rfl rfl (lt_s (lt_s (lt_s (lt_s (lt_s (lt_s (lt_s (lt_s (lt_s (lt_s (lt_s (lt_s (lt_s (lt_s (lt_s (lt_s (lt_s (lt_s (lt_s (lt_s (lt_0) rfl) rfl) rfl) rfl) rfl) rfl) rfl) rfl) rfl) rfl) rfl) rfl) rfl) rfl) rfl) rfl) rfl) rfl) rfl) rfl)
