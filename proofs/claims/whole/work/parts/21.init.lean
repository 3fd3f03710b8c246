set_option maxRecDepth 40000 in
set_option maxHeartbeats 8000000 in
theorem n_X3 {l : Launch} {γ : xG} {a : Nat} : nCT l γ yX3_init cX3_init 1 1 1 24 [.ref a] [(a, .inr (3, [.null, .int 0, .int 0]))] (fun α => [(a, .inr (3, [.ref (α 1), .int (-1), .int 0])), ((α 1), zA γ 24)]) := by
  refine nCT.of (own := RX3) (L := [some (.ref a)]) (by decide) rfl rfl rfl rfl (fun C hF => ?_)
  refine nB_aload_n hF dX3_init_0 rfl ?_
  refine nB_obj hF dX3_init_1 oi_X3 rfl rfl ?_
  refine nB_aload_n hF dX3_init_4 rfl ?_
  refine nB_bipush hF dX3_init_5 kb_24 ?_
  refine nB_newa (N := 24) (k' := 1) (n' := 24) (wf := fun q1 => [(a, .inr (3, [.null, .int 0, .int 0])), (q1, zA γ 24)]) hF dX3_init_7 w_arrI (by decide) (by decide) rfl rfl rfl rfl rfl (fun _ => rfl) (fun q1 => ?_)
  refine nB_putF (ws' := [(a, .inr (3, [.ref q1, .int 0, .int 0])), (q1, zA γ 24)]) (q0 := 0) hF dX3_init_9 nl_X3_9 rfl rfl rfl rfl rfl ?_
  refine nB_aload_n hF dX3_init_12 rfl ?_
  refine nB_iconst hF dX3_init_13 ki_m1 ?_
  refine nB_put (ws' := [(a, .inr (3, [.ref q1, .int (-1), .int 0])), (q1, zA γ 24)]) (q0 := 0) hF dX3_init_14 nl_X3_15 rfl rfl rfl rfl rfl ?_
  refine nB_ret hF (fun z => [a, q1].getD z 0) dX3_init_17 ?_ rfl rfl
  rfl
set_option maxRecDepth 40000 in
set_option maxHeartbeats 8000000 in
theorem n_X4 {l : Launch} {γ : xG} {a : Nat} : nCT l γ yX4_init cX4_init 1 2 2 27 [.ref a] [(a, .inr (4, [.null, .int 0, .int 0, .int 0, .int 0]))] (fun α => [(a, .inr (4, [.ref (α 1), .int 0, .int 0, .int 0, .int 0])), ((α 1), .inr (3, [.ref (α 2), .int (-1), .int 0])), ((α 2), zA γ 24)]) := by
  refine nCT.of (own := RX4) (L := [some (.ref a)]) (by decide) rfl rfl rfl rfl (fun C hF => ?_)
  refine nB_aload_n hF dX4_init_0 rfl ?_
  refine nB_obj hF dX4_init_1 oi_X4 rfl rfl ?_
  refine nB_aload_n hF dX4_init_4 rfl ?_
  refine nB_new (ci := 3) (q9 := (RX3, TX3, 3)) (ty := tyX3) (fs := [.null, .int 0, .int 0]) (k' := 1) (n' := 3) (wf := fun q1 => [(a, .inr (4, [.null, .int 0, .int 0, .int 0, .int 0])), (q1, .inr (3, [.null, .int 0, .int 0]))]) hF dX4_init_5 rfl inX3 tyX3_ok nw_X4_9 dfX3 rfl rfl rfl rfl (fun _ => rfl) (fun q1 => ?_)
  refine nB_dup hF dX4_init_8 rfl ?_
  refine nB_callI (host := "DayMarket") (k' := 2) (n' := 27) (wr := [(a, .inr (4, [.null, .int 0, .int 0, .int 0, .int 0]))]) (wf := fun b2 => [(a, .inr (4, [.null, .int 0, .int 0, .int 0, .int 0])), (q1, .inr (3, [.ref (b2 1), .int (-1), .int 0])), ((b2 1), zA γ 24)]) hF dX4_init_9 (n_X3) (by decide +kernel) ni_X4_11 rfl rfl rfl rfl rfl rfl rfl rfl rfl rfl (fun _ => rfl) (fun b2 => ?_)
  refine nB_putF (ws' := [(a, .inr (4, [.ref q1, .int 0, .int 0, .int 0, .int 0])), (q1, .inr (3, [.ref (b2 1), .int (-1), .int 0])), ((b2 1), zA γ 24)]) (q0 := 0) hF dX4_init_12 nl_X4_12 rfl rfl rfl rfl rfl ?_
  refine nB_aload_n hF dX4_init_15 rfl ?_
  refine nB_iconst hF dX4_init_16 ki_0 ?_
  refine nB_put (ws' := [(a, .inr (4, [.ref q1, .int 0, .int 0, .int 0, .int 0])), (q1, .inr (3, [.ref (b2 1), .int (-1), .int 0])), ((b2 1), zA γ 24)]) (q0 := 0) hF dX4_init_17 nl_X4_18 rfl rfl rfl rfl rfl ?_
  refine nB_ret hF (fun z => [a, q1, (b2 1)].getD z 0) dX4_init_20 ?_ rfl rfl
  rfl
set_option maxRecDepth 40000 in
set_option maxHeartbeats 8000000 in
theorem n_X2 {l : Launch} {γ : xG} {a : Nat} : nCT l γ yX2_init cX2_init 1 1 2 192 [.ref a] [(a, .inr (2, [.null, .null, .int 0, .int 0, .int 0, .int 0, .int 0, .int 0, .int 0, .int 0]))] (fun α => [(a, .inr (2, [.ref (α 1), .ref (α 2), .int 0, .int 0, .int 0, .int 0, .int 0, .int 0, .int 0, .int 0])), ((α 1), zA γ 96), ((α 2), zA γ 96)]) := by
  refine nCT.of (own := RX2) (L := [some (.ref a)]) (by decide) rfl rfl rfl rfl (fun C hF => ?_)
  refine nB_aload_n hF dX2_init_0 rfl ?_
  refine nB_obj hF dX2_init_1 oi_X2 rfl rfl ?_
  refine nB_aload_n hF dX2_init_4 rfl ?_
  refine nB_bipush hF dX2_init_5 kb_96 ?_
  refine nB_newa (N := 96) (k' := 1) (n' := 96) (wf := fun q1 => [(a, .inr (2, [.null, .null, .int 0, .int 0, .int 0, .int 0, .int 0, .int 0, .int 0, .int 0])), (q1, zA γ 96)]) hF dX2_init_7 w_arrI (by decide) (by decide) rfl rfl rfl rfl rfl (fun _ => rfl) (fun q1 => ?_)
  refine nB_putF (ws' := [(a, .inr (2, [.ref q1, .null, .int 0, .int 0, .int 0, .int 0, .int 0, .int 0, .int 0, .int 0])), (q1, zA γ 96)]) (q0 := 0) hF dX2_init_9 nl_X2_9 rfl rfl rfl rfl rfl ?_
  refine nB_aload_n hF dX2_init_12 rfl ?_
  refine nB_bipush hF dX2_init_13 kb_96 ?_
  refine nB_newa (N := 96) (k' := 2) (n' := 192) (wf := fun q2 => [(a, .inr (2, [.ref q1, .null, .int 0, .int 0, .int 0, .int 0, .int 0, .int 0, .int 0, .int 0])), (q1, zA γ 96), (q2, zA γ 96)]) hF dX2_init_15 w_arrI (by decide) (by decide) rfl rfl rfl rfl rfl (fun _ => rfl) (fun q2 => ?_)
  refine nB_putF (ws' := [(a, .inr (2, [.ref q1, .ref q2, .int 0, .int 0, .int 0, .int 0, .int 0, .int 0, .int 0, .int 0])), (q1, zA γ 96), (q2, zA γ 96)]) (q0 := 0) hF dX2_init_17 nl_X2_15 rfl rfl rfl rfl rfl ?_
  refine nB_ret hF (fun z => [a, q1, q2].getD z 0) dX2_init_20 ?_ rfl rfl
  rfl
set_option maxRecDepth 40000 in
set_option maxHeartbeats 8000000 in
theorem n_X1 {l : Launch} {γ : xG} {a : Nat} : nCT l γ yX1_init cX1_init 1 1 3 30 [.ref a] [(a, .inr (1, [.null, .null, .null]))] (fun α => [(a, .inr (1, [.ref (α 1), .ref (α 2), .ref (α 3)])), ((α 1), zA γ 10), ((α 2), zA γ 10), ((α 3), zA γ 10)]) := by
  refine nCT.of (own := RX1) (L := [some (.ref a)]) (by decide) rfl rfl rfl rfl (fun C hF => ?_)
  refine nB_aload_n hF dX1_init_0 rfl ?_
  refine nB_obj hF dX1_init_1 oi_X1 rfl rfl ?_
  refine nB_aload_n hF dX1_init_4 rfl ?_
  refine nB_bipush hF dX1_init_5 kb_10 ?_
  refine nB_newa (N := 10) (k' := 1) (n' := 10) (wf := fun q1 => [(a, .inr (1, [.null, .null, .null])), (q1, zA γ 10)]) hF dX1_init_7 w_arrI (by decide) (by decide) rfl rfl rfl rfl rfl (fun _ => rfl) (fun q1 => ?_)
  refine nB_putF (ws' := [(a, .inr (1, [.ref q1, .null, .null])), (q1, zA γ 10)]) (q0 := 0) hF dX1_init_9 nl_X1_9 rfl rfl rfl rfl rfl ?_
  refine nB_aload_n hF dX1_init_12 rfl ?_
  refine nB_bipush hF dX1_init_13 kb_10 ?_
  refine nB_newa (N := 10) (k' := 2) (n' := 20) (wf := fun q2 => [(a, .inr (1, [.ref q1, .null, .null])), (q1, zA γ 10), (q2, zA γ 10)]) hF dX1_init_15 w_arrI (by decide) (by decide) rfl rfl rfl rfl rfl (fun _ => rfl) (fun q2 => ?_)
  refine nB_putF (ws' := [(a, .inr (1, [.ref q1, .ref q2, .null])), (q1, zA γ 10), (q2, zA γ 10)]) (q0 := 0) hF dX1_init_17 nl_X1_15 rfl rfl rfl rfl rfl ?_
  refine nB_aload_n hF dX1_init_20 rfl ?_
  refine nB_bipush hF dX1_init_21 kb_10 ?_
  refine nB_newa (N := 10) (k' := 3) (n' := 30) (wf := fun q3 => [(a, .inr (1, [.ref q1, .ref q2, .null])), (q1, zA γ 10), (q2, zA γ 10), (q3, zA γ 10)]) hF dX1_init_23 w_arrI (by decide) (by decide) rfl rfl rfl rfl rfl (fun _ => rfl) (fun q3 => ?_)
  refine nB_putF (ws' := [(a, .inr (1, [.ref q1, .ref q2, .ref q3])), (q1, zA γ 10), (q2, zA γ 10), (q3, zA γ 10)]) (q0 := 0) hF dX1_init_25 nl_X1_18 rfl rfl rfl rfl rfl ?_
  refine nB_ret hF (fun z => [a, q1, q2, q3].getD z 0) dX1_init_28 ?_ rfl rfl
  rfl
set_option maxRecDepth 40000 in
set_option maxHeartbeats 8000000 in
theorem n_X0 {l : Launch} {γ : xG} {a : Nat} : nCT l γ yX0_init cX0_init 1 1 19 1496 [.ref a] [(a, .inr (0, [.null, .null, .null, .null, .null]))] (fun α => [(a, .inr (0, [.ref (α 1), .ref (α 2), .ref (α 3), .ref (α 4), .ref (α 19)])), ((α 1), zA γ 14), ((α 2), zA γ 14), ((α 3), zA γ 14), ((α 4), .inl (γ.2.1 1, 14, .inr (.inr (.inr (.inr (fun i => some (α (5 + i)))))))), ((α 5), zA γ 96), ((α 6), zA γ 96), ((α 7), zA γ 96), ((α 8), zA γ 96), ((α 9), zA γ 96), ((α 10), zA γ 96), ((α 11), zA γ 96), ((α 12), zA γ 96), ((α 13), zA γ 96), ((α 14), zA γ 96), ((α 15), zA γ 96), ((α 16), zA γ 96), ((α 17), zA γ 96), ((α 18), zA γ 96), ((α 19), zA γ 96)]) := by
  refine nCT.of (own := RX0) (L := [some (.ref a)]) (by decide) rfl rfl rfl rfl (fun C hF => ?_)
  refine nB_aload_n hF dX0_init_0 rfl ?_
  refine nB_obj hF dX0_init_1 oi_X0 rfl rfl ?_
  refine nB_aload_n hF dX0_init_4 rfl ?_
  refine nB_bipush hF dX0_init_5 kb_14 ?_
  refine nB_newa (N := 14) (k' := 1) (n' := 14) (wf := fun q1 => [(a, .inr (0, [.null, .null, .null, .null, .null])), (q1, zA γ 14)]) hF dX0_init_7 w_arrI (by decide) (by decide) rfl rfl rfl rfl rfl (fun _ => rfl) (fun q1 => ?_)
  refine nB_putF (ws' := [(a, .inr (0, [.ref q1, .null, .null, .null, .null])), (q1, zA γ 14)]) (q0 := 0) hF dX0_init_9 nl_X0_9 rfl rfl rfl rfl rfl ?_
  refine nB_aload_n hF dX0_init_12 rfl ?_
  refine nB_bipush hF dX0_init_13 kb_14 ?_
  refine nB_newa (N := 14) (k' := 2) (n' := 28) (wf := fun q2 => [(a, .inr (0, [.ref q1, .null, .null, .null, .null])), (q1, zA γ 14), (q2, zA γ 14)]) hF dX0_init_15 w_arrI (by decide) (by decide) rfl rfl rfl rfl rfl (fun _ => rfl) (fun q2 => ?_)
  refine nB_putF (ws' := [(a, .inr (0, [.ref q1, .ref q2, .null, .null, .null])), (q1, zA γ 14), (q2, zA γ 14)]) (q0 := 0) hF dX0_init_17 nl_X0_15 rfl rfl rfl rfl rfl ?_
  refine nB_aload_n hF dX0_init_20 rfl ?_
  refine nB_bipush hF dX0_init_21 kb_14 ?_
  refine nB_newa (N := 14) (k' := 3) (n' := 42) (wf := fun q3 => [(a, .inr (0, [.ref q1, .ref q2, .null, .null, .null])), (q1, zA γ 14), (q2, zA γ 14), (q3, zA γ 14)]) hF dX0_init_23 w_arrI (by decide) (by decide) rfl rfl rfl rfl rfl (fun _ => rfl) (fun q3 => ?_)
  refine nB_putF (ws' := [(a, .inr (0, [.ref q1, .ref q2, .ref q3, .null, .null])), (q1, zA γ 14), (q2, zA γ 14), (q3, zA γ 14)]) (q0 := 0) hF dX0_init_25 nl_X0_18 rfl rfl rfl rfl rfl ?_
  refine nB_aload_n hF dX0_init_28 rfl ?_
  refine nB_bipush hF dX0_init_29 kb_14 ?_
  refine nB_bipush hF dX0_init_31 kb_96 ?_
  refine nB_multi (k' := 18) (n' := 1400) (wf := fun q4 => [(a, .inr (0, [.ref q1, .ref q2, .ref q3, .null, .null])), (q1, zA γ 14), (q2, zA γ 14), (q3, zA γ 14), (q4, .inl (γ.2.1 1, 14, .inr (.inr (.inr (.inr (fun i => some (q4 + 1 + i))))))), ((q4 + 1), zA γ 96), ((q4 + 2), zA γ 96), ((q4 + 3), zA γ 96), ((q4 + 4), zA γ 96), ((q4 + 5), zA γ 96), ((q4 + 6), zA γ 96), ((q4 + 7), zA γ 96), ((q4 + 8), zA γ 96), ((q4 + 9), zA γ 96), ((q4 + 10), zA γ 96), ((q4 + 11), zA γ 96), ((q4 + 12), zA γ 96), ((q4 + 13), zA γ 96), ((q4 + 14), zA γ 96)]) hF dX0_init_33 w_mcl rfl rfl rfl rfl (fun _ => rfl) (fun q4 => ?_)
  refine nB_putF (ws' := [(a, .inr (0, [.ref q1, .ref q2, .ref q3, .ref q4, .null])), (q1, zA γ 14), (q2, zA γ 14), (q3, zA γ 14), (q4, .inl (γ.2.1 1, 14, .inr (.inr (.inr (.inr (fun i => some (q4 + 1 + i))))))), ((q4 + 1), zA γ 96), ((q4 + 2), zA γ 96), ((q4 + 3), zA γ 96), ((q4 + 4), zA γ 96), ((q4 + 5), zA γ 96), ((q4 + 6), zA γ 96), ((q4 + 7), zA γ 96), ((q4 + 8), zA γ 96), ((q4 + 9), zA γ 96), ((q4 + 10), zA γ 96), ((q4 + 11), zA γ 96), ((q4 + 12), zA γ 96), ((q4 + 13), zA γ 96), ((q4 + 14), zA γ 96)]) (q0 := 0) hF dX0_init_37 nl_X0_23 rfl rfl rfl rfl rfl ?_
  refine nB_aload_n hF dX0_init_40 rfl ?_
  refine nB_bipush hF dX0_init_41 kb_96 ?_
  refine nB_newa (N := 96) (k' := 19) (n' := 1496) (wf := fun q5 => [(a, .inr (0, [.ref q1, .ref q2, .ref q3, .ref q4, .null])), (q1, zA γ 14), (q2, zA γ 14), (q3, zA γ 14), (q4, .inl (γ.2.1 1, 14, .inr (.inr (.inr (.inr (fun i => some (q4 + 1 + i))))))), ((q4 + 1), zA γ 96), ((q4 + 2), zA γ 96), ((q4 + 3), zA γ 96), ((q4 + 4), zA γ 96), ((q4 + 5), zA γ 96), ((q4 + 6), zA γ 96), ((q4 + 7), zA γ 96), ((q4 + 8), zA γ 96), ((q4 + 9), zA γ 96), ((q4 + 10), zA γ 96), ((q4 + 11), zA γ 96), ((q4 + 12), zA γ 96), ((q4 + 13), zA γ 96), ((q4 + 14), zA γ 96), (q5, zA γ 96)]) hF dX0_init_43 w_arrI (by decide) (by decide) rfl rfl rfl rfl rfl (fun _ => rfl) (fun q5 => ?_)
  refine nB_putF (ws' := [(a, .inr (0, [.ref q1, .ref q2, .ref q3, .ref q4, .ref q5])), (q1, zA γ 14), (q2, zA γ 14), (q3, zA γ 14), (q4, .inl (γ.2.1 1, 14, .inr (.inr (.inr (.inr (fun i => some (q4 + 1 + i))))))), ((q4 + 1), zA γ 96), ((q4 + 2), zA γ 96), ((q4 + 3), zA γ 96), ((q4 + 4), zA γ 96), ((q4 + 5), zA γ 96), ((q4 + 6), zA γ 96), ((q4 + 7), zA γ 96), ((q4 + 8), zA γ 96), ((q4 + 9), zA γ 96), ((q4 + 10), zA γ 96), ((q4 + 11), zA γ 96), ((q4 + 12), zA γ 96), ((q4 + 13), zA γ 96), ((q4 + 14), zA γ 96), (q5, zA γ 96)]) (q0 := 0) hF dX0_init_45 nl_X0_26 rfl rfl rfl rfl rfl ?_
  refine nB_cv (ws' := [(a, .inr (0, [.ref q1, .ref q2, .ref q3, .ref q4, .ref q5])), (q1, zA γ 14), (q2, zA γ 14), (q3, zA γ 14), (q4, .inl (γ.2.1 1, 14, .inr (.inr (.inr (.inr (fun i => some ((fun z => [a, q1, q2, q3, q4, (q4 + 1), (q4 + 2), (q4 + 3), (q4 + 4), (q4 + 5), (q4 + 6), (q4 + 7), (q4 + 8), (q4 + 9), (q4 + 10), (q4 + 11), (q4 + 12), (q4 + 13), (q4 + 14), q5].getD z 0) (5 + i)))))))), ((q4 + 1), zA γ 96), ((q4 + 2), zA γ 96), ((q4 + 3), zA γ 96), ((q4 + 4), zA γ 96), ((q4 + 5), zA γ 96), ((q4 + 6), zA γ 96), ((q4 + 7), zA γ 96), ((q4 + 8), zA γ 96), ((q4 + 9), zA γ 96), ((q4 + 10), zA γ 96), ((q4 + 11), zA γ 96), ((q4 + 12), zA γ 96), ((q4 + 13), zA γ 96), ((q4 + 14), zA γ 96), (q5, zA γ 96)]) (q0 := 4) (g' := (fun i => some ((fun z => [a, q1, q2, q3, q4, (q4 + 1), (q4 + 2), (q4 + 3), (q4 + 4), (q4 + 5), (q4 + 6), (q4 + 7), (q4 + 8), (q4 + 9), (q4 + 10), (q4 + 11), (q4 + 12), (q4 + 13), (q4 + 14), q5].getD z 0) (5 + i)))) rfl (lt_s (lt_s (lt_s (lt_s (lt_s (lt_s (lt_s (lt_s (lt_s (lt_s (lt_s (lt_s (lt_s (lt_s (lt_0) rfl) rfl) rfl) rfl) rfl) rfl) rfl) rfl) rfl) rfl) rfl) rfl) rfl) rfl) rfl ?_
  refine nB_ret hF (fun z => [a, q1, q2, q3, q4, (q4 + 1), (q4 + 2), (q4 + 3), (q4 + 4), (q4 + 5), (q4 + 6), (q4 + 7), (q4 + 8), (q4 + 9), (q4 + 10), (q4 + 11), (q4 + 12), (q4 + 13), (q4 + 14), q5].getD z 0) dX0_init_48 ?_ rfl rfl
  rfl
set_option maxRecDepth 40000 in
set_option maxHeartbeats 8000000 in
theorem n_X5 {l : Launch} {γ : xG} {a b : Nat} : nCT l γ yX5_init cX5_init 3 1 9 75 [.ref a, .ref b] [(a, .inr (5, [.null, .null, .null, .null, .null, .null, .null, .null, .null, .null, .int 0, .int 0, .int 0, .int 0, .int 0, .int 0]))] (fun α => [(a, .inr (5, [.ref b, .ref (α 1), .ref (α 2), .ref (α 3), .ref (α 4), .ref (α 5), .ref (α 6), .ref (α 7), .ref (α 8), .ref (α 9), .int 0, .int 0, .int 0, .int 0, .int 0, .int 1])), ((α 1), zA γ 10), ((α 2), zA γ 10), ((α 3), zA γ 10), ((α 4), zA γ 10), ((α 5), zA γ 10), ((α 6), zA γ 10), ((α 7), .inl (γ.2.1 0, 6, .inl (upd (upd (upd (upd (upd (upd (fun _ => 0) 0 100) 1 100) 2 100) 3 100) 4 100) 5 100))), ((α 8), .inl (γ.2.1 0, 6, .inl (upd (upd (upd (upd (upd (upd (fun _ => 0) 0 0) 1 1) 2 2) 3 3) 4 4) 5 5))), ((α 9), .inl (γ.2.1 0, 3, .inl (upd (upd (upd (fun _ => 0) 0 (-1)) 1 (-1)) 2 (-1))))]) := by
  refine nCT.of (own := RX5) (L := [some (.ref a), some (.ref b), none]) (by decide) rfl rfl rfl rfl (fun C hF => ?_)
  refine nB_aload_n hF dX5_init_0 rfl ?_
  refine nB_obj hF dX5_init_1 oi_X5 rfl rfl ?_
  refine nB_aload_n hF dX5_init_4 rfl ?_
  refine nB_bipush hF dX5_init_5 kb_10 ?_
  refine nB_newa (N := 10) (k' := 1) (n' := 10) (wf := fun q1 => [(a, .inr (5, [.null, .null, .null, .null, .null, .null, .null, .null, .null, .null, .int 0, .int 0, .int 0, .int 0, .int 0, .int 0])), (q1, zA γ 10)]) hF dX5_init_7 w_arrI (by decide) (by decide) rfl rfl rfl rfl rfl (fun _ => rfl) (fun q1 => ?_)
  refine nB_putF (ws' := [(a, .inr (5, [.null, .ref q1, .null, .null, .null, .null, .null, .null, .null, .null, .int 0, .int 0, .int 0, .int 0, .int 0, .int 0])), (q1, zA γ 10)]) (q0 := 0) hF dX5_init_9 nl_X5_9 rfl rfl rfl rfl rfl ?_
  refine nB_aload_n hF dX5_init_12 rfl ?_
  refine nB_bipush hF dX5_init_13 kb_10 ?_
  refine nB_newa (N := 10) (k' := 2) (n' := 20) (wf := fun q2 => [(a, .inr (5, [.null, .ref q1, .null, .null, .null, .null, .null, .null, .null, .null, .int 0, .int 0, .int 0, .int 0, .int 0, .int 0])), (q1, zA γ 10), (q2, zA γ 10)]) hF dX5_init_15 w_arrI (by decide) (by decide) rfl rfl rfl rfl rfl (fun _ => rfl) (fun q2 => ?_)
  refine nB_putF (ws' := [(a, .inr (5, [.null, .ref q1, .ref q2, .null, .null, .null, .null, .null, .null, .null, .int 0, .int 0, .int 0, .int 0, .int 0, .int 0])), (q1, zA γ 10), (q2, zA γ 10)]) (q0 := 0) hF dX5_init_17 nl_X5_15 rfl rfl rfl rfl rfl ?_
  refine nB_aload_n hF dX5_init_20 rfl ?_
  refine nB_bipush hF dX5_init_21 kb_10 ?_
  refine nB_newa (N := 10) (k' := 3) (n' := 30) (wf := fun q3 => [(a, .inr (5, [.null, .ref q1, .ref q2, .null, .null, .null, .null, .null, .null, .null, .int 0, .int 0, .int 0, .int 0, .int 0, .int 0])), (q1, zA γ 10), (q2, zA γ 10), (q3, zA γ 10)]) hF dX5_init_23 w_arrI (by decide) (by decide) rfl rfl rfl rfl rfl (fun _ => rfl) (fun q3 => ?_)
  refine nB_putF (ws' := [(a, .inr (5, [.null, .ref q1, .ref q2, .ref q3, .null, .null, .null, .null, .null, .null, .int 0, .int 0, .int 0, .int 0, .int 0, .int 0])), (q1, zA γ 10), (q2, zA γ 10), (q3, zA γ 10)]) (q0 := 0) hF dX5_init_25 nl_X5_18 rfl rfl rfl rfl rfl ?_
  refine nB_aload_n hF dX5_init_28 rfl ?_
  refine nB_bipush hF dX5_init_29 kb_10 ?_
  refine nB_newa (N := 10) (k' := 4) (n' := 40) (wf := fun q4 => [(a, .inr (5, [.null, .ref q1, .ref q2, .ref q3, .null, .null, .null, .null, .null, .null, .int 0, .int 0, .int 0, .int 0, .int 0, .int 0])), (q1, zA γ 10), (q2, zA γ 10), (q3, zA γ 10), (q4, zA γ 10)]) hF dX5_init_31 w_arrI (by decide) (by decide) rfl rfl rfl rfl rfl (fun _ => rfl) (fun q4 => ?_)
  refine nB_putF (ws' := [(a, .inr (5, [.null, .ref q1, .ref q2, .ref q3, .ref q4, .null, .null, .null, .null, .null, .int 0, .int 0, .int 0, .int 0, .int 0, .int 0])), (q1, zA γ 10), (q2, zA γ 10), (q3, zA γ 10), (q4, zA γ 10)]) (q0 := 0) hF dX5_init_33 nl_X5_21 rfl rfl rfl rfl rfl ?_
  refine nB_aload_n hF dX5_init_36 rfl ?_
  refine nB_bipush hF dX5_init_37 kb_10 ?_
  refine nB_newa (N := 10) (k' := 5) (n' := 50) (wf := fun q5 => [(a, .inr (5, [.null, .ref q1, .ref q2, .ref q3, .ref q4, .null, .null, .null, .null, .null, .int 0, .int 0, .int 0, .int 0, .int 0, .int 0])), (q1, zA γ 10), (q2, zA γ 10), (q3, zA γ 10), (q4, zA γ 10), (q5, zA γ 10)]) hF dX5_init_39 w_arrI (by decide) (by decide) rfl rfl rfl rfl rfl (fun _ => rfl) (fun q5 => ?_)
  refine nB_putF (ws' := [(a, .inr (5, [.null, .ref q1, .ref q2, .ref q3, .ref q4, .ref q5, .null, .null, .null, .null, .int 0, .int 0, .int 0, .int 0, .int 0, .int 0])), (q1, zA γ 10), (q2, zA γ 10), (q3, zA γ 10), (q4, zA γ 10), (q5, zA γ 10)]) (q0 := 0) hF dX5_init_41 nl_X5_24 rfl rfl rfl rfl rfl ?_
  refine nB_aload_n hF dX5_init_44 rfl ?_
  refine nB_bipush hF dX5_init_45 kb_10 ?_
  refine nB_newa (N := 10) (k' := 6) (n' := 60) (wf := fun q6 => [(a, .inr (5, [.null, .ref q1, .ref q2, .ref q3, .ref q4, .ref q5, .null, .null, .null, .null, .int 0, .int 0, .int 0, .int 0, .int 0, .int 0])), (q1, zA γ 10), (q2, zA γ 10), (q3, zA γ 10), (q4, zA γ 10), (q5, zA γ 10), (q6, zA γ 10)]) hF dX5_init_47 w_arrI (by decide) (by decide) rfl rfl rfl rfl rfl (fun _ => rfl) (fun q6 => ?_)
  refine nB_putF (ws' := [(a, .inr (5, [.null, .ref q1, .ref q2, .ref q3, .ref q4, .ref q5, .ref q6, .null, .null, .null, .int 0, .int 0, .int 0, .int 0, .int 0, .int 0])), (q1, zA γ 10), (q2, zA γ 10), (q3, zA γ 10), (q4, zA γ 10), (q5, zA γ 10), (q6, zA γ 10)]) (q0 := 0) hF dX5_init_49 nl_X5_27 rfl rfl rfl rfl rfl ?_
  refine nB_aload_n hF dX5_init_52 rfl ?_
  refine nB_bipush hF dX5_init_53 kb_6 ?_
  refine nB_newa (N := 6) (k' := 7) (n' := 66) (wf := fun q7 => [(a, .inr (5, [.null, .ref q1, .ref q2, .ref q3, .ref q4, .ref q5, .ref q6, .null, .null, .null, .int 0, .int 0, .int 0, .int 0, .int 0, .int 0])), (q1, zA γ 10), (q2, zA γ 10), (q3, zA γ 10), (q4, zA γ 10), (q5, zA γ 10), (q6, zA γ 10), (q7, zA γ 6)]) hF dX5_init_55 w_arrI (by decide) (by decide) rfl rfl rfl rfl rfl (fun _ => rfl) (fun q7 => ?_)
  refine nB_putF (ws' := [(a, .inr (5, [.null, .ref q1, .ref q2, .ref q3, .ref q4, .ref q5, .ref q6, .ref q7, .null, .null, .int 0, .int 0, .int 0, .int 0, .int 0, .int 0])), (q1, zA γ 10), (q2, zA γ 10), (q3, zA γ 10), (q4, zA γ 10), (q5, zA γ 10), (q6, zA γ 10), (q7, zA γ 6)]) (q0 := 0) hF dX5_init_57 nl_X5_30 rfl rfl rfl rfl rfl ?_
  refine nB_aload_n hF dX5_init_60 rfl ?_
  refine nB_bipush hF dX5_init_61 kb_6 ?_
  refine nB_newa (N := 6) (k' := 8) (n' := 72) (wf := fun q8 => [(a, .inr (5, [.null, .ref q1, .ref q2, .ref q3, .ref q4, .ref q5, .ref q6, .ref q7, .null, .null, .int 0, .int 0, .int 0, .int 0, .int 0, .int 0])), (q1, zA γ 10), (q2, zA γ 10), (q3, zA γ 10), (q4, zA γ 10), (q5, zA γ 10), (q6, zA γ 10), (q7, zA γ 6), (q8, zA γ 6)]) hF dX5_init_63 w_arrI (by decide) (by decide) rfl rfl rfl rfl rfl (fun _ => rfl) (fun q8 => ?_)
  refine nB_putF (ws' := [(a, .inr (5, [.null, .ref q1, .ref q2, .ref q3, .ref q4, .ref q5, .ref q6, .ref q7, .ref q8, .null, .int 0, .int 0, .int 0, .int 0, .int 0, .int 0])), (q1, zA γ 10), (q2, zA γ 10), (q3, zA γ 10), (q4, zA γ 10), (q5, zA γ 10), (q6, zA γ 10), (q7, zA γ 6), (q8, zA γ 6)]) (q0 := 0) hF dX5_init_65 nl_X5_33 rfl rfl rfl rfl rfl ?_
  refine nB_aload_n hF dX5_init_68 rfl ?_
  refine nB_iconst hF dX5_init_69 ki_3 ?_
  refine nB_newa (N := 3) (k' := 9) (n' := 75) (wf := fun q9 => [(a, .inr (5, [.null, .ref q1, .ref q2, .ref q3, .ref q4, .ref q5, .ref q6, .ref q7, .ref q8, .null, .int 0, .int 0, .int 0, .int 0, .int 0, .int 0])), (q1, zA γ 10), (q2, zA γ 10), (q3, zA γ 10), (q4, zA γ 10), (q5, zA γ 10), (q6, zA γ 10), (q7, zA γ 6), (q8, zA γ 6), (q9, zA γ 3)]) hF dX5_init_70 w_arrI (by decide) (by decide) rfl rfl rfl rfl rfl (fun _ => rfl) (fun q9 => ?_)
  refine nB_putF (ws' := [(a, .inr (5, [.null, .ref q1, .ref q2, .ref q3, .ref q4, .ref q5, .ref q6, .ref q7, .ref q8, .ref q9, .int 0, .int 0, .int 0, .int 0, .int 0, .int 0])), (q1, zA γ 10), (q2, zA γ 10), (q3, zA γ 10), (q4, zA γ 10), (q5, zA γ 10), (q6, zA γ 10), (q7, zA γ 6), (q8, zA γ 6), (q9, zA γ 3)]) (q0 := 0) hF dX5_init_72 nl_X5_36 rfl rfl rfl rfl rfl ?_
  refine nB_aload_n hF dX5_init_75 rfl ?_
  refine nB_aload_n hF dX5_init_76 rfl ?_
  refine nB_putF (ws' := [(a, .inr (5, [.ref b, .ref q1, .ref q2, .ref q3, .ref q4, .ref q5, .ref q6, .ref q7, .ref q8, .ref q9, .int 0, .int 0, .int 0, .int 0, .int 0, .int 0])), (q1, zA γ 10), (q2, zA γ 10), (q3, zA γ 10), (q4, zA γ 10), (q5, zA γ 10), (q6, zA γ 10), (q7, zA γ 6), (q8, zA γ 6), (q9, zA γ 3)]) (q0 := 0) hF dX5_init_77 nl_X5_39 rfl rfl rfl rfl rfl ?_
  refine nB_iconst hF dX5_init_80 ki_0 ?_
  refine nB_istore_n (L' := [_, _, _]) hF dX5_init_81 rfl rfl rfl ?_
  refine nB_iload_n hF dX5_init_82 rfl ?_
  refine nB_bipush hF dX5_init_83 kb_6 ?_
  refine nB_ge_f (tgt := 109) hF dX5_init_85 rfl (by decide) ?_
  refine nB_aload_n hF dX5_init_88 rfl ?_
  refine nB_get (q0 := 0) hF dX5_init_89 fl_X5_30 rfl rfl ?_
  refine nB_iload_n hF dX5_init_92 rfl ?_
  refine nB_bipush hF dX5_init_93 kb_100 ?_
  refine nB_iast (ws' := [(a, .inr (5, [.ref b, .ref q1, .ref q2, .ref q3, .ref q4, .ref q5, .ref q6, .ref q7, .ref q8, .ref q9, .int 0, .int 0, .int 0, .int 0, .int 0, .int 0])), (q1, zA γ 10), (q2, zA γ 10), (q3, zA γ 10), (q4, zA γ 10), (q5, zA γ 10), (q6, zA γ 10), (q7, .inl (γ.2.1 0, 6, .inl (upd (fun _ => 0) 0 100))), (q8, zA γ 6), (q9, zA γ 3)]) (q0 := 7) (j := 0) hF dX5_init_95 rfl (by unfold vp_in; decide) (by decide) rfl ?_
  refine nB_aload_n hF dX5_init_96 rfl ?_
  refine nB_get (q0 := 0) hF dX5_init_97 fl_X5_33 rfl rfl ?_
  refine nB_iload_n hF dX5_init_100 rfl ?_
  refine nB_iload_n hF dX5_init_101 rfl ?_
  refine nB_iast (ws' := [(a, .inr (5, [.ref b, .ref q1, .ref q2, .ref q3, .ref q4, .ref q5, .ref q6, .ref q7, .ref q8, .ref q9, .int 0, .int 0, .int 0, .int 0, .int 0, .int 0])), (q1, zA γ 10), (q2, zA γ 10), (q3, zA γ 10), (q4, zA γ 10), (q5, zA γ 10), (q6, zA γ 10), (q7, .inl (γ.2.1 0, 6, .inl (upd (fun _ => 0) 0 100))), (q8, .inl (γ.2.1 0, 6, .inl (upd (fun _ => 0) 0 0))), (q9, zA γ 3)]) (q0 := 8) (j := 0) hF dX5_init_102 rfl (by unfold vp_in; decide) (by decide) rfl ?_
  refine nB_iinc (y := 1) (L' := [_, _, _]) hF dX5_init_103 rfl (by decide) rfl rfl rfl ?_
  refine nB_goto (tgt := 82) hF dX5_init_106 rfl ?_
  refine nB_iload_n hF dX5_init_82 rfl ?_
  refine nB_bipush hF dX5_init_83 kb_6 ?_
  refine nB_ge_f (tgt := 109) hF dX5_init_85 rfl (by decide) ?_
  refine nB_aload_n hF dX5_init_88 rfl ?_
  refine nB_get (q0 := 0) hF dX5_init_89 fl_X5_30 rfl rfl ?_
  refine nB_iload_n hF dX5_init_92 rfl ?_
  refine nB_bipush hF dX5_init_93 kb_100 ?_
  refine nB_iast (ws' := [(a, .inr (5, [.ref b, .ref q1, .ref q2, .ref q3, .ref q4, .ref q5, .ref q6, .ref q7, .ref q8, .ref q9, .int 0, .int 0, .int 0, .int 0, .int 0, .int 0])), (q1, zA γ 10), (q2, zA γ 10), (q3, zA γ 10), (q4, zA γ 10), (q5, zA γ 10), (q6, zA γ 10), (q7, .inl (γ.2.1 0, 6, .inl (upd (upd (fun _ => 0) 0 100) 1 100))), (q8, .inl (γ.2.1 0, 6, .inl (upd (fun _ => 0) 0 0))), (q9, zA γ 3)]) (q0 := 7) (j := 1) hF dX5_init_95 rfl (by unfold vp_in; decide) (by decide) rfl ?_
  refine nB_aload_n hF dX5_init_96 rfl ?_
  refine nB_get (q0 := 0) hF dX5_init_97 fl_X5_33 rfl rfl ?_
  refine nB_iload_n hF dX5_init_100 rfl ?_
  refine nB_iload_n hF dX5_init_101 rfl ?_
  refine nB_iast (ws' := [(a, .inr (5, [.ref b, .ref q1, .ref q2, .ref q3, .ref q4, .ref q5, .ref q6, .ref q7, .ref q8, .ref q9, .int 0, .int 0, .int 0, .int 0, .int 0, .int 0])), (q1, zA γ 10), (q2, zA γ 10), (q3, zA γ 10), (q4, zA γ 10), (q5, zA γ 10), (q6, zA γ 10), (q7, .inl (γ.2.1 0, 6, .inl (upd (upd (fun _ => 0) 0 100) 1 100))), (q8, .inl (γ.2.1 0, 6, .inl (upd (upd (fun _ => 0) 0 0) 1 1))), (q9, zA γ 3)]) (q0 := 8) (j := 1) hF dX5_init_102 rfl (by unfold vp_in; decide) (by decide) rfl ?_
  refine nB_iinc (y := 2) (L' := [_, _, _]) hF dX5_init_103 rfl (by decide) rfl rfl rfl ?_
  refine nB_goto (tgt := 82) hF dX5_init_106 rfl ?_
  refine nB_iload_n hF dX5_init_82 rfl ?_
  refine nB_bipush hF dX5_init_83 kb_6 ?_
  refine nB_ge_f (tgt := 109) hF dX5_init_85 rfl (by decide) ?_
  refine nB_aload_n hF dX5_init_88 rfl ?_
  refine nB_get (q0 := 0) hF dX5_init_89 fl_X5_30 rfl rfl ?_
  refine nB_iload_n hF dX5_init_92 rfl ?_
  refine nB_bipush hF dX5_init_93 kb_100 ?_
  refine nB_iast (ws' := [(a, .inr (5, [.ref b, .ref q1, .ref q2, .ref q3, .ref q4, .ref q5, .ref q6, .ref q7, .ref q8, .ref q9, .int 0, .int 0, .int 0, .int 0, .int 0, .int 0])), (q1, zA γ 10), (q2, zA γ 10), (q3, zA γ 10), (q4, zA γ 10), (q5, zA γ 10), (q6, zA γ 10), (q7, .inl (γ.2.1 0, 6, .inl (upd (upd (upd (fun _ => 0) 0 100) 1 100) 2 100))), (q8, .inl (γ.2.1 0, 6, .inl (upd (upd (fun _ => 0) 0 0) 1 1))), (q9, zA γ 3)]) (q0 := 7) (j := 2) hF dX5_init_95 rfl (by unfold vp_in; decide) (by decide) rfl ?_
  refine nB_aload_n hF dX5_init_96 rfl ?_
  refine nB_get (q0 := 0) hF dX5_init_97 fl_X5_33 rfl rfl ?_
  refine nB_iload_n hF dX5_init_100 rfl ?_
  refine nB_iload_n hF dX5_init_101 rfl ?_
  refine nB_iast (ws' := [(a, .inr (5, [.ref b, .ref q1, .ref q2, .ref q3, .ref q4, .ref q5, .ref q6, .ref q7, .ref q8, .ref q9, .int 0, .int 0, .int 0, .int 0, .int 0, .int 0])), (q1, zA γ 10), (q2, zA γ 10), (q3, zA γ 10), (q4, zA γ 10), (q5, zA γ 10), (q6, zA γ 10), (q7, .inl (γ.2.1 0, 6, .inl (upd (upd (upd (fun _ => 0) 0 100) 1 100) 2 100))), (q8, .inl (γ.2.1 0, 6, .inl (upd (upd (upd (fun _ => 0) 0 0) 1 1) 2 2))), (q9, zA γ 3)]) (q0 := 8) (j := 2) hF dX5_init_102 rfl (by unfold vp_in; decide) (by decide) rfl ?_
  refine nB_iinc (y := 3) (L' := [_, _, _]) hF dX5_init_103 rfl (by decide) rfl rfl rfl ?_
  refine nB_goto (tgt := 82) hF dX5_init_106 rfl ?_
  refine nB_iload_n hF dX5_init_82 rfl ?_
  refine nB_bipush hF dX5_init_83 kb_6 ?_
  refine nB_ge_f (tgt := 109) hF dX5_init_85 rfl (by decide) ?_
  refine nB_aload_n hF dX5_init_88 rfl ?_
  refine nB_get (q0 := 0) hF dX5_init_89 fl_X5_30 rfl rfl ?_
  refine nB_iload_n hF dX5_init_92 rfl ?_
  refine nB_bipush hF dX5_init_93 kb_100 ?_
  refine nB_iast (ws' := [(a, .inr (5, [.ref b, .ref q1, .ref q2, .ref q3, .ref q4, .ref q5, .ref q6, .ref q7, .ref q8, .ref q9, .int 0, .int 0, .int 0, .int 0, .int 0, .int 0])), (q1, zA γ 10), (q2, zA γ 10), (q3, zA γ 10), (q4, zA γ 10), (q5, zA γ 10), (q6, zA γ 10), (q7, .inl (γ.2.1 0, 6, .inl (upd (upd (upd (upd (fun _ => 0) 0 100) 1 100) 2 100) 3 100))), (q8, .inl (γ.2.1 0, 6, .inl (upd (upd (upd (fun _ => 0) 0 0) 1 1) 2 2))), (q9, zA γ 3)]) (q0 := 7) (j := 3) hF dX5_init_95 rfl (by unfold vp_in; decide) (by decide) rfl ?_
  refine nB_aload_n hF dX5_init_96 rfl ?_
  refine nB_get (q0 := 0) hF dX5_init_97 fl_X5_33 rfl rfl ?_
  refine nB_iload_n hF dX5_init_100 rfl ?_
  refine nB_iload_n hF dX5_init_101 rfl ?_
  refine nB_iast (ws' := [(a, .inr (5, [.ref b, .ref q1, .ref q2, .ref q3, .ref q4, .ref q5, .ref q6, .ref q7, .ref q8, .ref q9, .int 0, .int 0, .int 0, .int 0, .int 0, .int 0])), (q1, zA γ 10), (q2, zA γ 10), (q3, zA γ 10), (q4, zA γ 10), (q5, zA γ 10), (q6, zA γ 10), (q7, .inl (γ.2.1 0, 6, .inl (upd (upd (upd (upd (fun _ => 0) 0 100) 1 100) 2 100) 3 100))), (q8, .inl (γ.2.1 0, 6, .inl (upd (upd (upd (upd (fun _ => 0) 0 0) 1 1) 2 2) 3 3))), (q9, zA γ 3)]) (q0 := 8) (j := 3) hF dX5_init_102 rfl (by unfold vp_in; decide) (by decide) rfl ?_
  refine nB_iinc (y := 4) (L' := [_, _, _]) hF dX5_init_103 rfl (by decide) rfl rfl rfl ?_
  refine nB_goto (tgt := 82) hF dX5_init_106 rfl ?_
  refine nB_iload_n hF dX5_init_82 rfl ?_
  refine nB_bipush hF dX5_init_83 kb_6 ?_
  refine nB_ge_f (tgt := 109) hF dX5_init_85 rfl (by decide) ?_
  refine nB_aload_n hF dX5_init_88 rfl ?_
  refine nB_get (q0 := 0) hF dX5_init_89 fl_X5_30 rfl rfl ?_
  refine nB_iload_n hF dX5_init_92 rfl ?_
  refine nB_bipush hF dX5_init_93 kb_100 ?_
  refine nB_iast (ws' := [(a, .inr (5, [.ref b, .ref q1, .ref q2, .ref q3, .ref q4, .ref q5, .ref q6, .ref q7, .ref q8, .ref q9, .int 0, .int 0, .int 0, .int 0, .int 0, .int 0])), (q1, zA γ 10), (q2, zA γ 10), (q3, zA γ 10), (q4, zA γ 10), (q5, zA γ 10), (q6, zA γ 10), (q7, .inl (γ.2.1 0, 6, .inl (upd (upd (upd (upd (upd (fun _ => 0) 0 100) 1 100) 2 100) 3 100) 4 100))), (q8, .inl (γ.2.1 0, 6, .inl (upd (upd (upd (upd (fun _ => 0) 0 0) 1 1) 2 2) 3 3))), (q9, zA γ 3)]) (q0 := 7) (j := 4) hF dX5_init_95 rfl (by unfold vp_in; decide) (by decide) rfl ?_
  refine nB_aload_n hF dX5_init_96 rfl ?_
  refine nB_get (q0 := 0) hF dX5_init_97 fl_X5_33 rfl rfl ?_
  refine nB_iload_n hF dX5_init_100 rfl ?_
  refine nB_iload_n hF dX5_init_101 rfl ?_
  refine nB_iast (ws' := [(a, .inr (5, [.ref b, .ref q1, .ref q2, .ref q3, .ref q4, .ref q5, .ref q6, .ref q7, .ref q8, .ref q9, .int 0, .int 0, .int 0, .int 0, .int 0, .int 0])), (q1, zA γ 10), (q2, zA γ 10), (q3, zA γ 10), (q4, zA γ 10), (q5, zA γ 10), (q6, zA γ 10), (q7, .inl (γ.2.1 0, 6, .inl (upd (upd (upd (upd (upd (fun _ => 0) 0 100) 1 100) 2 100) 3 100) 4 100))), (q8, .inl (γ.2.1 0, 6, .inl (upd (upd (upd (upd (upd (fun _ => 0) 0 0) 1 1) 2 2) 3 3) 4 4))), (q9, zA γ 3)]) (q0 := 8) (j := 4) hF dX5_init_102 rfl (by unfold vp_in; decide) (by decide) rfl ?_
  refine nB_iinc (y := 5) (L' := [_, _, _]) hF dX5_init_103 rfl (by decide) rfl rfl rfl ?_
  refine nB_goto (tgt := 82) hF dX5_init_106 rfl ?_
  refine nB_iload_n hF dX5_init_82 rfl ?_
  refine nB_bipush hF dX5_init_83 kb_6 ?_
  refine nB_ge_f (tgt := 109) hF dX5_init_85 rfl (by decide) ?_
  refine nB_aload_n hF dX5_init_88 rfl ?_
  refine nB_get (q0 := 0) hF dX5_init_89 fl_X5_30 rfl rfl ?_
  refine nB_iload_n hF dX5_init_92 rfl ?_
  refine nB_bipush hF dX5_init_93 kb_100 ?_
  refine nB_iast (ws' := [(a, .inr (5, [.ref b, .ref q1, .ref q2, .ref q3, .ref q4, .ref q5, .ref q6, .ref q7, .ref q8, .ref q9, .int 0, .int 0, .int 0, .int 0, .int 0, .int 0])), (q1, zA γ 10), (q2, zA γ 10), (q3, zA γ 10), (q4, zA γ 10), (q5, zA γ 10), (q6, zA γ 10), (q7, .inl (γ.2.1 0, 6, .inl (upd (upd (upd (upd (upd (upd (fun _ => 0) 0 100) 1 100) 2 100) 3 100) 4 100) 5 100))), (q8, .inl (γ.2.1 0, 6, .inl (upd (upd (upd (upd (upd (fun _ => 0) 0 0) 1 1) 2 2) 3 3) 4 4))), (q9, zA γ 3)]) (q0 := 7) (j := 5) hF dX5_init_95 rfl (by unfold vp_in; decide) (by decide) rfl ?_
  refine nB_aload_n hF dX5_init_96 rfl ?_
  refine nB_get (q0 := 0) hF dX5_init_97 fl_X5_33 rfl rfl ?_
  refine nB_iload_n hF dX5_init_100 rfl ?_
  refine nB_iload_n hF dX5_init_101 rfl ?_
  refine nB_iast (ws' := [(a, .inr (5, [.ref b, .ref q1, .ref q2, .ref q3, .ref q4, .ref q5, .ref q6, .ref q7, .ref q8, .ref q9, .int 0, .int 0, .int 0, .int 0, .int 0, .int 0])), (q1, zA γ 10), (q2, zA γ 10), (q3, zA γ 10), (q4, zA γ 10), (q5, zA γ 10), (q6, zA γ 10), (q7, .inl (γ.2.1 0, 6, .inl (upd (upd (upd (upd (upd (upd (fun _ => 0) 0 100) 1 100) 2 100) 3 100) 4 100) 5 100))), (q8, .inl (γ.2.1 0, 6, .inl (upd (upd (upd (upd (upd (upd (fun _ => 0) 0 0) 1 1) 2 2) 3 3) 4 4) 5 5))), (q9, zA γ 3)]) (q0 := 8) (j := 5) hF dX5_init_102 rfl (by unfold vp_in; decide) (by decide) rfl ?_
  refine nB_iinc (y := 6) (L' := [_, _, _]) hF dX5_init_103 rfl (by decide) rfl rfl rfl ?_
  refine nB_goto (tgt := 82) hF dX5_init_106 rfl ?_
  refine nB_iload_n hF dX5_init_82 rfl ?_
  refine nB_bipush hF dX5_init_83 kb_6 ?_
  refine nB_ge_t (tgt := 109) hF dX5_init_85 rfl (by decide) ?_
  refine nB_iconst hF dX5_init_109 ki_0 ?_
  refine nB_istore_n (L' := [_, _, _]) hF dX5_init_110 rfl rfl rfl ?_
  refine nB_iload_n hF dX5_init_111 rfl ?_
  refine nB_iconst hF dX5_init_112 ki_3 ?_
  refine nB_ge_f (tgt := 129) hF dX5_init_113 rfl (by decide) ?_
  refine nB_aload_n hF dX5_init_116 rfl ?_
  refine nB_get (q0 := 0) hF dX5_init_117 fl_X5_36 rfl rfl ?_
  refine nB_iload_n hF dX5_init_120 rfl ?_
  refine nB_iconst hF dX5_init_121 ki_m1 ?_
  refine nB_iast (ws' := [(a, .inr (5, [.ref b, .ref q1, .ref q2, .ref q3, .ref q4, .ref q5, .ref q6, .ref q7, .ref q8, .ref q9, .int 0, .int 0, .int 0, .int 0, .int 0, .int 0])), (q1, zA γ 10), (q2, zA γ 10), (q3, zA γ 10), (q4, zA γ 10), (q5, zA γ 10), (q6, zA γ 10), (q7, .inl (γ.2.1 0, 6, .inl (upd (upd (upd (upd (upd (upd (fun _ => 0) 0 100) 1 100) 2 100) 3 100) 4 100) 5 100))), (q8, .inl (γ.2.1 0, 6, .inl (upd (upd (upd (upd (upd (upd (fun _ => 0) 0 0) 1 1) 2 2) 3 3) 4 4) 5 5))), (q9, .inl (γ.2.1 0, 3, .inl (upd (fun _ => 0) 0 (-1))))]) (q0 := 9) (j := 0) hF dX5_init_122 rfl (by unfold vp_in; decide) (by decide) rfl ?_
  refine nB_iinc (y := 1) (L' := [_, _, _]) hF dX5_init_123 rfl (by decide) rfl rfl rfl ?_
  refine nB_goto (tgt := 111) hF dX5_init_126 rfl ?_
  refine nB_iload_n hF dX5_init_111 rfl ?_
  refine nB_iconst hF dX5_init_112 ki_3 ?_
  refine nB_ge_f (tgt := 129) hF dX5_init_113 rfl (by decide) ?_
  refine nB_aload_n hF dX5_init_116 rfl ?_
  refine nB_get (q0 := 0) hF dX5_init_117 fl_X5_36 rfl rfl ?_
  refine nB_iload_n hF dX5_init_120 rfl ?_
  refine nB_iconst hF dX5_init_121 ki_m1 ?_
  refine nB_iast (ws' := [(a, .inr (5, [.ref b, .ref q1, .ref q2, .ref q3, .ref q4, .ref q5, .ref q6, .ref q7, .ref q8, .ref q9, .int 0, .int 0, .int 0, .int 0, .int 0, .int 0])), (q1, zA γ 10), (q2, zA γ 10), (q3, zA γ 10), (q4, zA γ 10), (q5, zA γ 10), (q6, zA γ 10), (q7, .inl (γ.2.1 0, 6, .inl (upd (upd (upd (upd (upd (upd (fun _ => 0) 0 100) 1 100) 2 100) 3 100) 4 100) 5 100))), (q8, .inl (γ.2.1 0, 6, .inl (upd (upd (upd (upd (upd (upd (fun _ => 0) 0 0) 1 1) 2 2) 3 3) 4 4) 5 5))), (q9, .inl (γ.2.1 0, 3, .inl (upd (upd (fun _ => 0) 0 (-1)) 1 (-1))))]) (q0 := 9) (j := 1) hF dX5_init_122 rfl (by unfold vp_in; decide) (by decide) rfl ?_
  refine nB_iinc (y := 2) (L' := [_, _, _]) hF dX5_init_123 rfl (by decide) rfl rfl rfl ?_
  refine nB_goto (tgt := 111) hF dX5_init_126 rfl ?_
  refine nB_iload_n hF dX5_init_111 rfl ?_
  refine nB_iconst hF dX5_init_112 ki_3 ?_
  refine nB_ge_f (tgt := 129) hF dX5_init_113 rfl (by decide) ?_
  refine nB_aload_n hF dX5_init_116 rfl ?_
  refine nB_get (q0 := 0) hF dX5_init_117 fl_X5_36 rfl rfl ?_
  refine nB_iload_n hF dX5_init_120 rfl ?_
  refine nB_iconst hF dX5_init_121 ki_m1 ?_
  refine nB_iast (ws' := [(a, .inr (5, [.ref b, .ref q1, .ref q2, .ref q3, .ref q4, .ref q5, .ref q6, .ref q7, .ref q8, .ref q9, .int 0, .int 0, .int 0, .int 0, .int 0, .int 0])), (q1, zA γ 10), (q2, zA γ 10), (q3, zA γ 10), (q4, zA γ 10), (q5, zA γ 10), (q6, zA γ 10), (q7, .inl (γ.2.1 0, 6, .inl (upd (upd (upd (upd (upd (upd (fun _ => 0) 0 100) 1 100) 2 100) 3 100) 4 100) 5 100))), (q8, .inl (γ.2.1 0, 6, .inl (upd (upd (upd (upd (upd (upd (fun _ => 0) 0 0) 1 1) 2 2) 3 3) 4 4) 5 5))), (q9, .inl (γ.2.1 0, 3, .inl (upd (upd (upd (fun _ => 0) 0 (-1)) 1 (-1)) 2 (-1))))]) (q0 := 9) (j := 2) hF dX5_init_122 rfl (by unfold vp_in; decide) (by decide) rfl ?_
  refine nB_iinc (y := 3) (L' := [_, _, _]) hF dX5_init_123 rfl (by decide) rfl rfl rfl ?_
  refine nB_goto (tgt := 111) hF dX5_init_126 rfl ?_
  refine nB_iload_n hF dX5_init_111 rfl ?_
  refine nB_iconst hF dX5_init_112 ki_3 ?_
  refine nB_ge_t (tgt := 129) hF dX5_init_113 rfl (by decide) ?_
  refine nB_aload_n hF dX5_init_129 rfl ?_
  refine nB_iconst hF dX5_init_130 ki_1 ?_
  refine nB_put (ws' := [(a, .inr (5, [.ref b, .ref q1, .ref q2, .ref q3, .ref q4, .ref q5, .ref q6, .ref q7, .ref q8, .ref q9, .int 0, .int 0, .int 0, .int 0, .int 0, .int 1])), (q1, zA γ 10), (q2, zA γ 10), (q3, zA γ 10), (q4, zA γ 10), (q5, zA γ 10), (q6, zA γ 10), (q7, .inl (γ.2.1 0, 6, .inl (upd (upd (upd (upd (upd (upd (fun _ => 0) 0 100) 1 100) 2 100) 3 100) 4 100) 5 100))), (q8, .inl (γ.2.1 0, 6, .inl (upd (upd (upd (upd (upd (upd (fun _ => 0) 0 0) 1 1) 2 2) 3 3) 4 4) 5 5))), (q9, .inl (γ.2.1 0, 3, .inl (upd (upd (upd (fun _ => 0) 0 (-1)) 1 (-1)) 2 (-1))))]) (q0 := 0) hF dX5_init_131 nl_X5_43 rfl rfl rfl rfl rfl ?_
  refine nB_ret hF (fun z => [a, q1, q2, q3, q4, q5, q6, q7, q8, q9].getD z 0) dX5_init_134 ?_ rfl rfl
  rfl
