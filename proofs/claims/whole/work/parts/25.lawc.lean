def S_day (Rl Rm : xH → xH → Prop) : Prop := ∀ (a1 a2 a3 a4 : Int32) (hc hm : xH), Rl hc hm → ∃ (r : Int32) (hc1 hm1 : xH), f_X6_day a1 a2 a3 a4 hc = some (r, hc1) ∧ f_X7_day a1 a2 a3 a4 hm = some (r, hm1) ∧ Rm hc1 hm1
def S_told (Rl Rm : xH → xH → Prop) : Prop := ∀ (a1 a2 : Int32) (hc hm : xH), Rl hc hm → ∃ (r : Int32) (hc1 hm1 : xH), f_X6_told a1 a2 hc = some (r, hc1) ∧ f_X7_told a1 a2 hm = some (r, hm1) ∧ Rm hc1 hm1
def S_as (Rl Rm : xH → xH → Prop) : Prop := ∀ (a1 a2 : Int32) (hc hm : xH), Rl hc hm → ∃ (r : Int32) (hc1 hm1 : xH), f_X6_as a1 a2 hc = some (r, hc1) ∧ f_X7_as a1 a2 hm = some (r, hm1) ∧ Rm hc1 hm1
def S_turns (Rl Rm : xH → xH → Prop) : Prop := ∀ (a1 a2 : Int32) (hc hm : xH), Rl hc hm → ∃ (r : Int32) (hc1 hm1 : xH), f_X6_turns a1 a2 hc = some (r, hc1) ∧ f_X7_turns a1 a2 hm = some (r, hm1) ∧ Rm hc1 hm1
def S_set (Rl Rm : xH → xH → Prop) : Prop := ∀ (a1 a2 a3 : Int32) (hc hm : xH), Rl hc hm → ∃ (r : Int32) (hc1 hm1 : xH), f_X6_set a1 a2 a3 hc = some (r, hc1) ∧ f_X7_set a1 a2 a3 hm = some (r, hm1) ∧ Rm hc1 hm1
def S_one (Rl Rm : xH → xH → Prop) : Prop := ∀ (a1 a2 : Int32) (hc hm : xH), Rl hc hm → ∃ (r : Int32) (hc1 hm1 : xH), f_X6_one a1 a2 hc = some (r, hc1) ∧ f_X7_one a1 a2 hm = some (r, hm1) ∧ Rm hc1 hm1
def S_gives (Rl Rm : xH → xH → Prop) : Prop := ∀ (a1 a2 a3 : Int32) (hc hm : xH), Rl hc hm → ∃ (r : Int32) (hc1 hm1 : xH), f_X6_gives a1 a2 a3 hc = some (r, hc1) ∧ f_X7_gives a1 a2 a3 hm = some (r, hm1) ∧ Rm hc1 hm1
def S_offer (Rl Rm : xH → xH → Prop) : Prop := ∀ (a1 a2 : Int32) (hc hm : xH), Rl hc hm → ∃ (r : Int32) (hc1 hm1 : xH), f_X6_offer a1 a2 hc = some (r, hc1) ∧ f_X7_offer a1 a2 hm = some (r, hm1) ∧ Rm hc1 hm1
def S_deal (Rl Rm : xH → xH → Prop) : Prop := ∀ (a1 : Int32) (hc hm : xH), Rl hc hm → ∃ (r : Int32) (hc1 hm1 : xH), f_X6_deal a1 hc = some (r, hc1) ∧ f_X7_deal a1 hm = some (r, hm1) ∧ Rm hc1 hm1
def S_seed (Rl Rm : xH → xH → Prop) : Prop := ∀ (a1 : Int32) (hc hm : xH), Rl hc hm → ∃ (r : Int32) (hc1 hm1 : xH), f_X6_seed a1 hc = some (r, hc1) ∧ f_X7_seed a1 hm = some (r, hm1) ∧ Rm hc1 hm1
def S_sale (Rl Rm : xH → xH → Prop) : Prop := ∀ (a1 a2 a3 : Int32) (hc hm : xH), Rl hc hm → ∃ (r : Int32) (hc1 hm1 : xH), f_X6_sale a1 a2 a3 hc = some (r, hc1) ∧ f_X7_sale a1 a2 a3 hm = some (r, hm1) ∧ Rm hc1 hm1
def S_markets (Rl Rm : xH → xH → Prop) : Prop := ∀ (a1 : Int32) (hc hm : xH), Rl hc hm → ∃ (r : Int32) (hc1 hm1 : xH), f_X6_markets a1 hc = some (r, hc1) ∧ f_X7_markets a1 hm = some (r, hm1) ∧ Rm hc1 hm1
def S_ledger (Rl Rm : xH → xH → Prop) : Prop := ∀ (a1 : Int32) (hc hm : xH), Rl hc hm → ∃ (r : Int32) (hc1 hm1 : xH), f_X6_ledger a1 hc = some (r, hc1) ∧ f_X7_ledger a1 hm = some (r, hm1) ∧ Rm hc1 hm1
def S_isTrue (Rl Rm : xH → xH → Prop) : Prop := ∀ (a1 : Int32) (hc hm : xH), Rl hc hm → ∃ (r : Int32) (hc1 hm1 : xH), f_X6_isTrue a1 hc = some (r, hc1) ∧ f_X7_isTrue a1 hm = some (r, hm1) ∧ Rm hc1 hm1
def S_falseMany (Rl Rm : xH → xH → Prop) : Prop := ∀ (hc hm : xH), Rl hc hm → ∃ (r : Int32) (hc1 hm1 : xH), f_X6_falseMany  hc = some (r, hc1) ∧ f_X7_falseMany  hm = some (r, hm1) ∧ Rm hc1 hm1
def S_fill (Rl Rm : xH → xH → Prop) : Prop := ∀ (a1 a2 : Int32) (hc hm : xH), Rl hc hm → ∃ (r : Int32) (hc1 hm1 : xH), f_X6_fill a1 a2 hc = some (r, hc1) ∧ f_X7_fill a1 a2 hm = some (r, hm1) ∧ Rm hc1 hm1
def S_emptied (Rl Rm : xH → xH → Prop) : Prop := ∀ (a1 : Int32) (hc hm : xH), Rl hc hm → ∃ (r : Int32) (hc1 hm1 : xH), f_X6_emptied a1 hc = some (r, hc1) ∧ f_X7_emptied a1 hm = some (r, hm1) ∧ Rm hc1 hm1
def S_behind (Rl Rm : xH → xH → Prop) : Prop := ∀ (a1 a2 a3 : Int32) (hc hm : xH), Rl hc hm → ∃ (r : Int32) (hc1 hm1 : xH), f_X6_behind a1 a2 a3 hc = some (r, hc1) ∧ f_X7_behind a1 a2 a3 hm = some (r, hm1) ∧ Rm hc1 hm1
def S_richest (Rl Rm : xH → xH → Prop) : Prop := ∀ (a1 a2 : Int32) (hc hm : xH), Rl hc hm → ∃ (r : Int32) (hc1 hm1 : xH), f_X6_richest a1 a2 hc = some (r, hc1) ∧ f_X7_richest a1 a2 hm = some (r, hm1) ∧ Rm hc1 hm1
def S_worn (Rl Rm : xH → xH → Prop) : Prop := ∀ (hc hm : xH), Rl hc hm → ∃ (r : Int32) (hc1 hm1 : xH), f_X6_worn  hc = some (r, hc1) ∧ f_X7_worn  hm = some (r, hm1) ∧ Rm hc1 hm1
def S_dye (Rl Rm : xH → xH → Prop) : Prop := ∀ (a1 a2 a3 : Int32) (hc hm : xH), Rl hc hm → ∃ (r : Int32) (hc1 hm1 : xH), f_X6_dye a1 a2 a3 hc = some (r, hc1) ∧ f_X7_dye a1 a2 a3 hm = some (r, hm1) ∧ Rm hc1 hm1
def S_mends (Rl Rm : xH → xH → Prop) : Prop := ∀ (a1 a2 : Int32) (hc hm : xH), Rl hc hm → ∃ (r : Int32) (hc1 hm1 : xH), f_X6_mends a1 a2 hc = some (r, hc1) ∧ f_X7_mends a1 a2 hm = some (r, hm1) ∧ Rm hc1 hm1
def S_toldBy (Rl Rm : xH → xH → Prop) : Prop := ∀ (a1 a2 : Int32) (hc hm : xH), Rl hc hm → ∃ (r : Int32) (hc1 hm1 : xH), f_X6_toldBy a1 a2 hc = some (r, hc1) ∧ f_X7_toldBy a1 a2 hm = some (r, hm1) ∧ Rm hc1 hm1
def S_fine (Rl Rm : xH → xH → Prop) : Prop := ∀ (a1 : Int32) (hc hm : xH), Rl hc hm → ∃ (r : Int32) (hc1 hm1 : xH), f_X6_fine a1 hc = some (r, hc1) ∧ f_X7_fine a1 hm = some (r, hm1) ∧ Rm hc1 hm1
def S_feed (Rl Rm : xH → xH → Prop) : Prop := ∀ (a1 a2 a3 : Int32) (hc hm : xH), Rl hc hm → ∃ (r : Int32) (hc1 hm1 : xH), f_X6_feed a1 a2 a3 hc = some (r, hc1) ∧ f_X7_feed a1 a2 a3 hm = some (r, hm1) ∧ Rm hc1 hm1
def S_trim (Rl Rm : xH → xH → Prop) : Prop := ∀ (a1 : Int32) (hc hm : xH), Rl hc hm → ∃ (r : Int32) (hc1 hm1 : xH), f_X6_trim a1 hc = some (r, hc1) ∧ f_X7_trim a1 hm = some (r, hm1) ∧ Rm hc1 hm1
def S_text (Rl Rm : xH → xH → Prop) : Prop := ∀ (hc hm : xH), Rl hc hm → ∃ (r : Int32) (hc1 hm1 : xH), f_X6_text  hc = some (r, hc1) ∧ f_X7_text  hm = some (r, hm1) ∧ Rm hc1 hm1
def S_textTold (Rl Rm : xH → xH → Prop) : Prop := ∀ (a1 a2 : Int32) (hc hm : xH), Rl hc hm → ∃ (r : Int32) (hc1 hm1 : xH), f_X6_textTold a1 a2 hc = some (r, hc1) ∧ f_X7_textTold a1 a2 hm = some (r, hm1) ∧ Rm hc1 hm1
def S_why (Rl Rm : xH → xH → Prop) : Prop := ∀ (a1 : Int32) (hc hm : xH), Rl hc hm → ∃ (r : Int32) (hc1 hm1 : xH), f_X6_why a1 hc = some (r, hc1) ∧ f_X7_why a1 hm = some (r, hm1) ∧ Rm hc1 hm1
def S_sheet (Rl Rm : xH → xH → Prop) : Prop := ∀ (a1 a2 a3 : Int32) (hc hm : xH), Rl hc hm → ∃ (r : Int32) (hc1 hm1 : xH), f_X6_sheet a1 a2 a3 hc = some (r, hc1) ∧ f_X7_sheet a1 a2 a3 hm = some (r, hm1) ∧ Rm hc1 hm1
def S_mark (Rl Rm : xH → xH → Prop) : Prop := ∀ (a1 a2 a3 : Int32) (hc hm : xH), Rl hc hm → ∃ (r : Int32) (hc1 hm1 : xH), f_X6_mark a1 a2 a3 hc = some (r, hc1) ∧ f_X7_mark a1 a2 a3 hm = some (r, hm1) ∧ Rm hc1 hm1
def S_pour (Rl Rm : xH → xH → Prop) : Prop := ∀ (a1 : Int32) (hc hm : xH), Rl hc hm → ∃ (r : Int32) (hc1 hm1 : xH), f_X6_pour a1 hc = some (r, hc1) ∧ f_X7_pour a1 hm = some (r, hm1) ∧ Rm hc1 hm1
def S_reads (Rl Rm : xH → xH → Prop) : Prop := ∀ (a1 : Int32) (hc hm : xH), Rl hc hm → ∃ (r : Int32) (hc1 hm1 : xH), f_X6_reads a1 hc = some (r, hc1) ∧ f_X7_reads a1 hm = some (r, hm1) ∧ Rm hc1 hm1
def S_copy (Rl Rm : xH → xH → Prop) : Prop := ∀ (a1 a2 a3 a4 a5 : Int32) (hc hm : xH), Rl hc hm → ∃ (r : Int32) (hc1 hm1 : xH), f_X6_copy a1 a2 a3 a4 a5 hc = some (r, hc1) ∧ f_X7_copy a1 a2 a3 a4 a5 hm = some (r, hm1) ∧ Rm hc1 hm1
def S_lay (Rl Rm : xH → xH → Prop) : Prop := ∀ (a1 a2 a3 : Int32) (hc hm : xH), Rl hc hm → ∃ (r : Int32) (hc1 hm1 : xH), f_X6_lay a1 a2 a3 hc = some (r, hc1) ∧ f_X7_lay a1 a2 a3 hm = some (r, hm1) ∧ Rm hc1 hm1
def S_ask (Rl Rm : xH → xH → Prop) : Prop := ∀ (a1 a2 : Int32) (hc hm : xH), Rl hc hm → ∃ (r : Int32) (hc1 hm1 : xH), f_X6_ask a1 a2 hc = some (r, hc1) ∧ f_X7_ask a1 a2 hm = some (r, hm1) ∧ Rm hc1 hm1
def S_item (Rl Rm : xH → xH → Prop) : Prop := ∀ (a1 a2 : Int32) (hc hm : xH), Rl hc hm → ∃ (r : Int32) (hc1 hm1 : xH), f_X6_item a1 a2 hc = some (r, hc1) ∧ f_X7_item a1 a2 hm = some (r, hm1) ∧ Rm hc1 hm1
def S_rest (Rl Rm : xH → xH → Prop) : Prop := ∀ (a1 a2 : Int32) (hc hm : xH), Rl hc hm → ∃ (r : Int32) (hc1 hm1 : xH), f_X6_rest a1 a2 hc = some (r, hc1) ∧ f_X7_rest a1 a2 hm = some (r, hm1) ∧ Rm hc1 hm1
def S_tell (Rl Rm : xH → xH → Prop) : Prop := ∀ (a1 : Int32) (hc hm : xH), Rl hc hm → ∃ (r : Int32) (hc1 hm1 : xH), f_X6_tell a1 hc = some (r, hc1) ∧ f_X7_tell a1 hm = some (r, hm1) ∧ Rm hc1 hm1
def S_check (Rl Rm : xH → xH → Prop) : Prop := ∀ (a1 : Int32) (hc hm : xH), Rl hc hm → ∃ (r : Int32) (hc1 hm1 : xH), f_X6_check a1 hc = some (r, hc1) ∧ f_X7_check a1 hm = some (r, hm1) ∧ Rm hc1 hm1
def S_keep (Rl Rm : xH → xH → Prop) : Prop := ∀ (hc hm : xH), Rl hc hm → ∃ (r : Int32) (hc1 hm1 : xH), f_X6_keep  hc = some (r, hc1) ∧ f_X7_keep  hm = some (r, hm1) ∧ Rm hc1 hm1
def S_back (Rl Rm : xH → xH → Prop) : Prop := ∀ (hc hm : xH), Rl hc hm → ∃ (r : Int32) (hc1 hm1 : xH), f_X6_back  hc = some (r, hc1) ∧ f_X7_back  hm = some (r, hm1) ∧ Rm hc1 hm1
def S_count (Rl Rm : xH → xH → Prop) : Prop := ∀ (a1 : Int32) (hc hm : xH), Rl hc hm → ∃ (r : Int32) (hc1 hm1 : xH), f_X6_count a1 hc = some (r, hc1) ∧ f_X7_count a1 hm = some (r, hm1) ∧ Rm hc1 hm1
theorem cw_L_101 : xCV RL 101 yX7_dye cX7_dye 9 (some .int) 3 7 := ⟨xWS_mem 1261 (by decide +kernel) rfl, xWS_mem 1262 (by decide +kernel) rfl, xWS_mem 1263 (by decide +kernel) rfl, xWS_mem 73 (by decide +kernel) rfl, xWS_mem 1264 (by decide +kernel) rfl, rfl, by decide, by decide, by decide +kernel, _, rfl, rfl⟩
theorem cw_L_102 : xCV RL 102 yX6_mends cX6_mends 6 (some .int) 2 6 := ⟨xWS_mem 587 (by decide +kernel) rfl, xWS_mem 588 (by decide +kernel) rfl, xWS_mem 589 (by decide +kernel) rfl, xWS_mem 66 (by decide +kernel) rfl, xWS_mem 590 (by decide +kernel) rfl, rfl, by decide, by decide, by decide +kernel, _, rfl, rfl⟩
theorem cw_L_105 : xCV RL 105 yX7_mends cX7_mends 7 (some .int) 2 7 := ⟨xWS_mem 1266 (by decide +kernel) rfl, xWS_mem 1267 (by decide +kernel) rfl, xWS_mem 1268 (by decide +kernel) rfl, xWS_mem 73 (by decide +kernel) rfl, xWS_mem 1269 (by decide +kernel) rfl, rfl, by decide, by decide, by decide +kernel, _, rfl, rfl⟩
theorem cw_L_106 : xCV RL 106 yX6_toldBy cX6_toldBy 6 (some .int) 2 6 := ⟨xWS_mem 591 (by decide +kernel) rfl, xWS_mem 592 (by decide +kernel) rfl, xWS_mem 593 (by decide +kernel) rfl, xWS_mem 66 (by decide +kernel) rfl, xWS_mem 594 (by decide +kernel) rfl, rfl, by decide, by decide, by decide +kernel, _, rfl, rfl⟩
theorem cw_L_109 : xCV RL 109 yX7_toldBy cX7_toldBy 9 (some .int) 2 7 := ⟨xWS_mem 1390 (by decide +kernel) rfl, xWS_mem 1391 (by decide +kernel) rfl, xWS_mem 1392 (by decide +kernel) rfl, xWS_mem 73 (by decide +kernel) rfl, xWS_mem 1393 (by decide +kernel) rfl, rfl, by decide, by decide, by decide +kernel, _, rfl, rfl⟩
theorem cw_L_110 : xCV RL 110 yX6_fine cX6_fine 3 (some .int) 1 6 := ⟨xWS_mem 613 (by decide +kernel) rfl, xWS_mem 614 (by decide +kernel) rfl, xWS_mem 615 (by decide +kernel) rfl, xWS_mem 66 (by decide +kernel) rfl, xWS_mem 616 (by decide +kernel) rfl, rfl, by decide, by decide, by decide +kernel, _, rfl, rfl⟩
theorem cw_L_113 : xCV RL 113 yX7_fine cX7_fine 3 (some .int) 1 7 := ⟨xWS_mem 1270 (by decide +kernel) rfl, xWS_mem 1271 (by decide +kernel) rfl, xWS_mem 1272 (by decide +kernel) rfl, xWS_mem 73 (by decide +kernel) rfl, xWS_mem 1273 (by decide +kernel) rfl, rfl, by decide, by decide, by decide +kernel, _, rfl, rfl⟩
theorem cw_L_114 : xCV RL 114 yX6_feed cX6_feed 4 (some .int) 3 6 := ⟨xWS_mem 619 (by decide +kernel) rfl, xWS_mem 620 (by decide +kernel) rfl, xWS_mem 621 (by decide +kernel) rfl, xWS_mem 66 (by decide +kernel) rfl, xWS_mem 622 (by decide +kernel) rfl, rfl, by decide, by decide, by decide +kernel, _, rfl, rfl⟩
theorem cw_L_117 : xCV RL 117 yX7_feed cX7_feed 6 (some .int) 3 7 := ⟨xWS_mem 1274 (by decide +kernel) rfl, xWS_mem 1275 (by decide +kernel) rfl, xWS_mem 1276 (by decide +kernel) rfl, xWS_mem 73 (by decide +kernel) rfl, xWS_mem 1277 (by decide +kernel) rfl, rfl, by decide, by decide, by decide +kernel, _, rfl, rfl⟩
theorem cw_L_118 : xCV RL 118 yX6_trim cX6_trim 2 (some .int) 1 6 := ⟨xWS_mem 627 (by decide +kernel) rfl, xWS_mem 628 (by decide +kernel) rfl, xWS_mem 629 (by decide +kernel) rfl, xWS_mem 66 (by decide +kernel) rfl, xWS_mem 630 (by decide +kernel) rfl, rfl, by decide, by decide, by decide +kernel, _, rfl, rfl⟩
theorem cw_L_121 : xCV RL 121 yX7_trim cX7_trim 2 (some .int) 1 7 := ⟨xWS_mem 1278 (by decide +kernel) rfl, xWS_mem 1279 (by decide +kernel) rfl, xWS_mem 1280 (by decide +kernel) rfl, xWS_mem 73 (by decide +kernel) rfl, xWS_mem 1281 (by decide +kernel) rfl, rfl, by decide, by decide, by decide +kernel, _, rfl, rfl⟩
theorem cw_L_122 : xCV RL 122 yX6_text cX6_text 3 (some .int) 0 6 := ⟨xWS_mem 631 (by decide +kernel) rfl, xWS_mem 632 (by decide +kernel) rfl, xWS_mem 633 (by decide +kernel) rfl, xWS_mem 66 (by decide +kernel) rfl, xWS_mem 634 (by decide +kernel) rfl, rfl, by decide, by decide, by decide +kernel, _, rfl, rfl⟩
theorem cw_L_125 : xCV RL 125 yX7_text cX7_text 3 (some .int) 0 7 := ⟨xWS_mem 1282 (by decide +kernel) rfl, xWS_mem 1283 (by decide +kernel) rfl, xWS_mem 1284 (by decide +kernel) rfl, xWS_mem 73 (by decide +kernel) rfl, xWS_mem 1285 (by decide +kernel) rfl, rfl, by decide, by decide, by decide +kernel, _, rfl, rfl⟩
theorem cw_L_126 : xCV RL 126 yX6_textTold cX6_textTold 3 (some .int) 2 6 := ⟨xWS_mem 822 (by decide +kernel) rfl, xWS_mem 823 (by decide +kernel) rfl, xWS_mem 824 (by decide +kernel) rfl, xWS_mem 66 (by decide +kernel) rfl, xWS_mem 825 (by decide +kernel) rfl, rfl, by decide, by decide, by decide +kernel, _, rfl, rfl⟩
theorem cw_L_129 : xCV RL 129 yX7_textTold cX7_textTold 3 (some .int) 2 7 := ⟨xWS_mem 1353 (by decide +kernel) rfl, xWS_mem 1354 (by decide +kernel) rfl, xWS_mem 1355 (by decide +kernel) rfl, xWS_mem 73 (by decide +kernel) rfl, xWS_mem 1356 (by decide +kernel) rfl, rfl, by decide, by decide, by decide +kernel, _, rfl, rfl⟩
theorem cw_L_13 : xCV RL 13 yX6_day cX6_day 5 (some .int) 4 6 := ⟨xWS_mem 338 (by decide +kernel) rfl, xWS_mem 339 (by decide +kernel) rfl, xWS_mem 340 (by decide +kernel) rfl, xWS_mem 66 (by decide +kernel) rfl, xWS_mem 341 (by decide +kernel) rfl, rfl, by decide, by decide, by decide +kernel, _, rfl, rfl⟩
theorem cw_L_130 : xCV RL 130 yX6_why cX6_why 2 (some .int) 1 6 := ⟨xWS_mem 826 (by decide +kernel) rfl, xWS_mem 827 (by decide +kernel) rfl, xWS_mem 828 (by decide +kernel) rfl, xWS_mem 66 (by decide +kernel) rfl, xWS_mem 829 (by decide +kernel) rfl, rfl, by decide, by decide, by decide +kernel, _, rfl, rfl⟩
theorem cw_L_133 : xCV RL 133 yX7_why cX7_why 2 (some .int) 1 7 := ⟨xWS_mem 1361 (by decide +kernel) rfl, xWS_mem 1362 (by decide +kernel) rfl, xWS_mem 1363 (by decide +kernel) rfl, xWS_mem 73 (by decide +kernel) rfl, xWS_mem 1364 (by decide +kernel) rfl, rfl, by decide, by decide, by decide +kernel, _, rfl, rfl⟩
theorem cw_L_134 : xCV RL 134 yX6_sheet cX6_sheet 4 (some .int) 3 6 := ⟨xWS_mem 830 (by decide +kernel) rfl, xWS_mem 831 (by decide +kernel) rfl, xWS_mem 832 (by decide +kernel) rfl, xWS_mem 66 (by decide +kernel) rfl, xWS_mem 833 (by decide +kernel) rfl, rfl, by decide, by decide, by decide +kernel, _, rfl, rfl⟩
theorem cw_L_137 : xCV RL 137 yX7_sheet cX7_sheet 5 (some .int) 3 7 := ⟨xWS_mem 1365 (by decide +kernel) rfl, xWS_mem 1366 (by decide +kernel) rfl, xWS_mem 1367 (by decide +kernel) rfl, xWS_mem 73 (by decide +kernel) rfl, xWS_mem 1368 (by decide +kernel) rfl, rfl, by decide, by decide, by decide +kernel, _, rfl, rfl⟩
theorem cw_L_138 : xCV RL 138 yX6_mark cX6_mark 5 (some .int) 3 6 := ⟨xWS_mem 839 (by decide +kernel) rfl, xWS_mem 840 (by decide +kernel) rfl, xWS_mem 841 (by decide +kernel) rfl, xWS_mem 66 (by decide +kernel) rfl, xWS_mem 842 (by decide +kernel) rfl, rfl, by decide, by decide, by decide +kernel, _, rfl, rfl⟩
theorem cw_L_141 : xCV RL 141 yX7_mark cX7_mark 4 (some .int) 3 7 := ⟨xWS_mem 1374 (by decide +kernel) rfl, xWS_mem 1375 (by decide +kernel) rfl, xWS_mem 1376 (by decide +kernel) rfl, xWS_mem 73 (by decide +kernel) rfl, xWS_mem 1377 (by decide +kernel) rfl, rfl, by decide, by decide, by decide +kernel, _, rfl, rfl⟩
theorem cw_L_142 : xCV RL 142 yX6_pour cX6_pour 6 (some .int) 1 6 := ⟨xWS_mem 851 (by decide +kernel) rfl, xWS_mem 852 (by decide +kernel) rfl, xWS_mem 853 (by decide +kernel) rfl, xWS_mem 66 (by decide +kernel) rfl, xWS_mem 854 (by decide +kernel) rfl, rfl, by decide, by decide, by decide +kernel, _, rfl, rfl⟩
theorem cw_L_145 : xCV RL 145 yX7_pour cX7_pour 6 (some .int) 1 7 := ⟨xWS_mem 1382 (by decide +kernel) rfl, xWS_mem 1383 (by decide +kernel) rfl, xWS_mem 1384 (by decide +kernel) rfl, xWS_mem 73 (by decide +kernel) rfl, xWS_mem 1385 (by decide +kernel) rfl, rfl, by decide, by decide, by decide +kernel, _, rfl, rfl⟩
theorem cw_L_146 : xCV RL 146 yX6_reads cX6_reads 4 (some .int) 1 6 := ⟨xWS_mem 856 (by decide +kernel) rfl, xWS_mem 857 (by decide +kernel) rfl, xWS_mem 858 (by decide +kernel) rfl, xWS_mem 66 (by decide +kernel) rfl, xWS_mem 859 (by decide +kernel) rfl, rfl, by decide, by decide, by decide +kernel, _, rfl, rfl⟩
theorem cw_L_149 : xCV RL 149 yX7_reads cX7_reads 4 (some .int) 1 7 := ⟨xWS_mem 1386 (by decide +kernel) rfl, xWS_mem 1387 (by decide +kernel) rfl, xWS_mem 1388 (by decide +kernel) rfl, xWS_mem 73 (by decide +kernel) rfl, xWS_mem 1389 (by decide +kernel) rfl, rfl, by decide, by decide, by decide +kernel, _, rfl, rfl⟩
theorem cw_L_150 : xCV RL 150 yX6_copy cX6_copy 8 (some .int) 5 6 := ⟨xWS_mem 860 (by decide +kernel) rfl, xWS_mem 861 (by decide +kernel) rfl, xWS_mem 862 (by decide +kernel) rfl, xWS_mem 66 (by decide +kernel) rfl, xWS_mem 863 (by decide +kernel) rfl, rfl, by decide, by decide, by decide +kernel, _, rfl, rfl⟩
theorem cw_L_154 : xCV RL 154 yX7_copy cX7_copy 7 (some .int) 5 7 := ⟨xWS_mem 1394 (by decide +kernel) rfl, xWS_mem 1395 (by decide +kernel) rfl, xWS_mem 1396 (by decide +kernel) rfl, xWS_mem 73 (by decide +kernel) rfl, xWS_mem 1397 (by decide +kernel) rfl, rfl, by decide, by decide, by decide +kernel, _, rfl, rfl⟩
theorem cw_L_155 : xCV RL 155 yX6_lay cX6_lay 6 (some .int) 3 6 := ⟨xWS_mem 869 (by decide +kernel) rfl, xWS_mem 870 (by decide +kernel) rfl, xWS_mem 871 (by decide +kernel) rfl, xWS_mem 66 (by decide +kernel) rfl, xWS_mem 872 (by decide +kernel) rfl, rfl, by decide, by decide, by decide +kernel, _, rfl, rfl⟩
theorem cw_L_158 : xCV RL 158 yX7_lay cX7_lay 7 (some .int) 3 7 := ⟨xWS_mem 1398 (by decide +kernel) rfl, xWS_mem 1399 (by decide +kernel) rfl, xWS_mem 1400 (by decide +kernel) rfl, xWS_mem 73 (by decide +kernel) rfl, xWS_mem 1401 (by decide +kernel) rfl, rfl, by decide, by decide, by decide +kernel, _, rfl, rfl⟩
theorem cw_L_159 : xCV RL 159 yX6_ask cX6_ask 4 (some .int) 2 6 := ⟨xWS_mem 881 (by decide +kernel) rfl, xWS_mem 882 (by decide +kernel) rfl, xWS_mem 883 (by decide +kernel) rfl, xWS_mem 66 (by decide +kernel) rfl, xWS_mem 884 (by decide +kernel) rfl, rfl, by decide, by decide, by decide +kernel, _, rfl, rfl⟩
theorem cw_L_162 : xCV RL 162 yX7_ask cX7_ask 3 (some .int) 2 7 := ⟨xWS_mem 1405 (by decide +kernel) rfl, xWS_mem 1406 (by decide +kernel) rfl, xWS_mem 1407 (by decide +kernel) rfl, xWS_mem 73 (by decide +kernel) rfl, xWS_mem 1408 (by decide +kernel) rfl, rfl, by decide, by decide, by decide +kernel, _, rfl, rfl⟩
theorem cw_L_163 : xCV RL 163 yX6_item cX6_item 4 (some .int) 2 6 := ⟨xWS_mem 885 (by decide +kernel) rfl, xWS_mem 886 (by decide +kernel) rfl, xWS_mem 887 (by decide +kernel) rfl, xWS_mem 66 (by decide +kernel) rfl, xWS_mem 888 (by decide +kernel) rfl, rfl, by decide, by decide, by decide +kernel, _, rfl, rfl⟩
theorem cw_L_166 : xCV RL 166 yX7_item cX7_item 4 (some .int) 2 7 := ⟨xWS_mem 1409 (by decide +kernel) rfl, xWS_mem 1410 (by decide +kernel) rfl, xWS_mem 1411 (by decide +kernel) rfl, xWS_mem 73 (by decide +kernel) rfl, xWS_mem 1412 (by decide +kernel) rfl, rfl, by decide, by decide, by decide +kernel, _, rfl, rfl⟩
theorem cw_L_167 : xCV RL 167 yX6_rest cX6_rest 4 (some .int) 2 6 := ⟨xWS_mem 889 (by decide +kernel) rfl, xWS_mem 890 (by decide +kernel) rfl, xWS_mem 891 (by decide +kernel) rfl, xWS_mem 66 (by decide +kernel) rfl, xWS_mem 892 (by decide +kernel) rfl, rfl, by decide, by decide, by decide +kernel, _, rfl, rfl⟩
theorem cw_L_17 : xCV RL 17 yX7_day cX7_day 5 (some .int) 4 7 := ⟨xWS_mem 1020 (by decide +kernel) rfl, xWS_mem 1021 (by decide +kernel) rfl, xWS_mem 1022 (by decide +kernel) rfl, xWS_mem 73 (by decide +kernel) rfl, xWS_mem 1023 (by decide +kernel) rfl, rfl, by decide, by decide, by decide +kernel, _, rfl, rfl⟩
theorem cw_L_170 : xCV RL 170 yX7_rest cX7_rest 3 (some .int) 2 7 := ⟨xWS_mem 1413 (by decide +kernel) rfl, xWS_mem 1414 (by decide +kernel) rfl, xWS_mem 1415 (by decide +kernel) rfl, xWS_mem 73 (by decide +kernel) rfl, xWS_mem 1416 (by decide +kernel) rfl, rfl, by decide, by decide, by decide +kernel, _, rfl, rfl⟩
theorem cw_L_171 : xCV RL 171 yX6_tell cX6_tell 2 (some .int) 1 6 := ⟨xWS_mem 893 (by decide +kernel) rfl, xWS_mem 894 (by decide +kernel) rfl, xWS_mem 895 (by decide +kernel) rfl, xWS_mem 66 (by decide +kernel) rfl, xWS_mem 896 (by decide +kernel) rfl, rfl, by decide, by decide, by decide +kernel, _, rfl, rfl⟩
theorem cw_L_174 : xCV RL 174 yX7_tell cX7_tell 2 (some .int) 1 7 := ⟨xWS_mem 1417 (by decide +kernel) rfl, xWS_mem 1418 (by decide +kernel) rfl, xWS_mem 1419 (by decide +kernel) rfl, xWS_mem 73 (by decide +kernel) rfl, xWS_mem 1420 (by decide +kernel) rfl, rfl, by decide, by decide, by decide +kernel, _, rfl, rfl⟩
theorem cw_L_175 : xCV RL 175 yX6_check cX6_check 7 (some .int) 1 6 := ⟨xWS_mem 897 (by decide +kernel) rfl, xWS_mem 898 (by decide +kernel) rfl, xWS_mem 899 (by decide +kernel) rfl, xWS_mem 66 (by decide +kernel) rfl, xWS_mem 900 (by decide +kernel) rfl, rfl, by decide, by decide, by decide +kernel, _, rfl, rfl⟩
theorem cw_L_178 : xCV RL 178 yX7_check cX7_check 5 (some .int) 1 7 := ⟨xWS_mem 1421 (by decide +kernel) rfl, xWS_mem 1422 (by decide +kernel) rfl, xWS_mem 1423 (by decide +kernel) rfl, xWS_mem 73 (by decide +kernel) rfl, xWS_mem 1424 (by decide +kernel) rfl, rfl, by decide, by decide, by decide +kernel, _, rfl, rfl⟩
theorem cw_L_179 : xCV RL 179 yX6_keep cX6_keep 1 (some .int) 0 6 := ⟨xWS_mem 905 (by decide +kernel) rfl, xWS_mem 906 (by decide +kernel) rfl, xWS_mem 907 (by decide +kernel) rfl, xWS_mem 66 (by decide +kernel) rfl, xWS_mem 908 (by decide +kernel) rfl, rfl, by decide, by decide, by decide +kernel, _, rfl, rfl⟩
theorem cw_L_18 : xCV RL 18 yX6_told cX6_told 3 (some .int) 2 6 := ⟨xWS_mem 358 (by decide +kernel) rfl, xWS_mem 359 (by decide +kernel) rfl, xWS_mem 360 (by decide +kernel) rfl, xWS_mem 66 (by decide +kernel) rfl, xWS_mem 361 (by decide +kernel) rfl, rfl, by decide, by decide, by decide +kernel, _, rfl, rfl⟩
theorem cw_L_182 : xCV RL 182 yX7_keep cX7_keep 1 (some .int) 0 7 := ⟨xWS_mem 1434 (by decide +kernel) rfl, xWS_mem 1435 (by decide +kernel) rfl, xWS_mem 1436 (by decide +kernel) rfl, xWS_mem 73 (by decide +kernel) rfl, xWS_mem 1437 (by decide +kernel) rfl, rfl, by decide, by decide, by decide +kernel, _, rfl, rfl⟩
theorem cw_L_183 : xCV RL 183 yX6_back cX6_back 1 (some .int) 0 6 := ⟨xWS_mem 909 (by decide +kernel) rfl, xWS_mem 910 (by decide +kernel) rfl, xWS_mem 911 (by decide +kernel) rfl, xWS_mem 66 (by decide +kernel) rfl, xWS_mem 912 (by decide +kernel) rfl, rfl, by decide, by decide, by decide +kernel, _, rfl, rfl⟩
theorem cw_L_186 : xCV RL 186 yX7_back cX7_back 1 (some .int) 0 7 := ⟨xWS_mem 1438 (by decide +kernel) rfl, xWS_mem 1439 (by decide +kernel) rfl, xWS_mem 1440 (by decide +kernel) rfl, xWS_mem 73 (by decide +kernel) rfl, xWS_mem 1441 (by decide +kernel) rfl, rfl, by decide, by decide, by decide +kernel, _, rfl, rfl⟩
theorem cw_L_187 : xCV RL 187 yX6_count cX6_count 2 (some .int) 1 6 := ⟨xWS_mem 913 (by decide +kernel) rfl, xWS_mem 914 (by decide +kernel) rfl, xWS_mem 915 (by decide +kernel) rfl, xWS_mem 66 (by decide +kernel) rfl, xWS_mem 916 (by decide +kernel) rfl, rfl, by decide, by decide, by decide +kernel, _, rfl, rfl⟩
theorem cw_L_190 : xCV RL 190 yX7_count cX7_count 2 (some .int) 1 7 := ⟨xWS_mem 1442 (by decide +kernel) rfl, xWS_mem 1443 (by decide +kernel) rfl, xWS_mem 1444 (by decide +kernel) rfl, xWS_mem 73 (by decide +kernel) rfl, xWS_mem 1445 (by decide +kernel) rfl, rfl, by decide, by decide, by decide +kernel, _, rfl, rfl⟩
theorem cw_L_22 : xCV RL 22 yX7_told cX7_told 3 (some .int) 2 7 := ⟨xWS_mem 1043 (by decide +kernel) rfl, xWS_mem 1044 (by decide +kernel) rfl, xWS_mem 1045 (by decide +kernel) rfl, xWS_mem 73 (by decide +kernel) rfl, xWS_mem 1046 (by decide +kernel) rfl, rfl, by decide, by decide, by decide +kernel, _, rfl, rfl⟩
theorem cw_L_23 : xCV RL 23 yX6_as cX6_as 3 (some .int) 2 6 := ⟨xWS_mem 397 (by decide +kernel) rfl, xWS_mem 398 (by decide +kernel) rfl, xWS_mem 399 (by decide +kernel) rfl, xWS_mem 66 (by decide +kernel) rfl, xWS_mem 400 (by decide +kernel) rfl, rfl, by decide, by decide, by decide +kernel, _, rfl, rfl⟩
theorem cw_L_26 : xCV RL 26 yX7_as cX7_as 3 (some .int) 2 7 := ⟨xWS_mem 1086 (by decide +kernel) rfl, xWS_mem 1087 (by decide +kernel) rfl, xWS_mem 1088 (by decide +kernel) rfl, xWS_mem 73 (by decide +kernel) rfl, xWS_mem 1089 (by decide +kernel) rfl, rfl, by decide, by decide, by decide +kernel, _, rfl, rfl⟩
theorem cw_L_27 : xCV RL 27 yX6_turns cX6_turns 3 (some .int) 2 6 := ⟨xWS_mem 407 (by decide +kernel) rfl, xWS_mem 408 (by decide +kernel) rfl, xWS_mem 409 (by decide +kernel) rfl, xWS_mem 66 (by decide +kernel) rfl, xWS_mem 410 (by decide +kernel) rfl, rfl, by decide, by decide, by decide +kernel, _, rfl, rfl⟩
theorem cw_L_30 : xCV RL 30 yX7_turns cX7_turns 3 (some .int) 2 7 := ⟨xWS_mem 1094 (by decide +kernel) rfl, xWS_mem 1095 (by decide +kernel) rfl, xWS_mem 1096 (by decide +kernel) rfl, xWS_mem 73 (by decide +kernel) rfl, xWS_mem 1097 (by decide +kernel) rfl, rfl, by decide, by decide, by decide +kernel, _, rfl, rfl⟩
theorem cw_L_31 : xCV RL 31 yX6_set cX6_set 4 (some .int) 3 6 := ⟨xWS_mem 414 (by decide +kernel) rfl, xWS_mem 415 (by decide +kernel) rfl, xWS_mem 416 (by decide +kernel) rfl, xWS_mem 66 (by decide +kernel) rfl, xWS_mem 417 (by decide +kernel) rfl, rfl, by decide, by decide, by decide +kernel, _, rfl, rfl⟩
theorem cw_L_35 : xCV RL 35 yX7_set cX7_set 4 (some .int) 3 7 := ⟨xWS_mem 1102 (by decide +kernel) rfl, xWS_mem 1103 (by decide +kernel) rfl, xWS_mem 1104 (by decide +kernel) rfl, xWS_mem 73 (by decide +kernel) rfl, xWS_mem 1105 (by decide +kernel) rfl, rfl, by decide, by decide, by decide +kernel, _, rfl, rfl⟩
theorem cw_L_36 : xCV RL 36 yX6_one cX6_one 3 (some .int) 2 6 := ⟨xWS_mem 418 (by decide +kernel) rfl, xWS_mem 419 (by decide +kernel) rfl, xWS_mem 420 (by decide +kernel) rfl, xWS_mem 66 (by decide +kernel) rfl, xWS_mem 421 (by decide +kernel) rfl, rfl, by decide, by decide, by decide +kernel, _, rfl, rfl⟩
theorem cw_L_39 : xCV RL 39 yX7_one cX7_one 3 (some .int) 2 7 := ⟨xWS_mem 1107 (by decide +kernel) rfl, xWS_mem 1108 (by decide +kernel) rfl, xWS_mem 1109 (by decide +kernel) rfl, xWS_mem 73 (by decide +kernel) rfl, xWS_mem 1110 (by decide +kernel) rfl, rfl, by decide, by decide, by decide +kernel, _, rfl, rfl⟩
theorem cw_L_40 : xCV RL 40 yX6_gives cX6_gives 4 (some .int) 3 6 := ⟨xWS_mem 426 (by decide +kernel) rfl, xWS_mem 427 (by decide +kernel) rfl, xWS_mem 428 (by decide +kernel) rfl, xWS_mem 66 (by decide +kernel) rfl, xWS_mem 429 (by decide +kernel) rfl, rfl, by decide, by decide, by decide +kernel, _, rfl, rfl⟩
theorem cw_L_43 : xCV RL 43 yX7_gives cX7_gives 4 (some .int) 3 7 := ⟨xWS_mem 1116 (by decide +kernel) rfl, xWS_mem 1117 (by decide +kernel) rfl, xWS_mem 1118 (by decide +kernel) rfl, xWS_mem 73 (by decide +kernel) rfl, xWS_mem 1119 (by decide +kernel) rfl, rfl, by decide, by decide, by decide +kernel, _, rfl, rfl⟩
theorem cw_L_44 : xCV RL 44 yX6_offer cX6_offer 3 (some .int) 2 6 := ⟨xWS_mem 430 (by decide +kernel) rfl, xWS_mem 431 (by decide +kernel) rfl, xWS_mem 432 (by decide +kernel) rfl, xWS_mem 66 (by decide +kernel) rfl, xWS_mem 433 (by decide +kernel) rfl, rfl, by decide, by decide, by decide +kernel, _, rfl, rfl⟩
theorem cw_L_47 : xCV RL 47 yX7_offer cX7_offer 3 (some .int) 2 7 := ⟨xWS_mem 1121 (by decide +kernel) rfl, xWS_mem 1122 (by decide +kernel) rfl, xWS_mem 1123 (by decide +kernel) rfl, xWS_mem 73 (by decide +kernel) rfl, xWS_mem 1124 (by decide +kernel) rfl, rfl, by decide, by decide, by decide +kernel, _, rfl, rfl⟩
theorem cw_L_48 : xCV RL 48 yX6_deal cX6_deal 4 (some .int) 1 6 := ⟨xWS_mem 442 (by decide +kernel) rfl, xWS_mem 443 (by decide +kernel) rfl, xWS_mem 444 (by decide +kernel) rfl, xWS_mem 66 (by decide +kernel) rfl, xWS_mem 445 (by decide +kernel) rfl, rfl, by decide, by decide, by decide +kernel, _, rfl, rfl⟩
theorem cw_L_52 : xCV RL 52 yX7_deal cX7_deal 6 (some .int) 1 7 := ⟨xWS_mem 1133 (by decide +kernel) rfl, xWS_mem 1134 (by decide +kernel) rfl, xWS_mem 1135 (by decide +kernel) rfl, xWS_mem 73 (by decide +kernel) rfl, xWS_mem 1136 (by decide +kernel) rfl, rfl, by decide, by decide, by decide +kernel, _, rfl, rfl⟩
theorem cw_L_53 : xCV RL 53 yX6_seed cX6_seed 3 (some .int) 1 6 := ⟨xWS_mem 456 (by decide +kernel) rfl, xWS_mem 457 (by decide +kernel) rfl, xWS_mem 458 (by decide +kernel) rfl, xWS_mem 66 (by decide +kernel) rfl, xWS_mem 459 (by decide +kernel) rfl, rfl, by decide, by decide, by decide +kernel, _, rfl, rfl⟩
theorem cw_L_56 : xCV RL 56 yX7_seed cX7_seed 2 (some .int) 1 7 := ⟨xWS_mem 1143 (by decide +kernel) rfl, xWS_mem 1144 (by decide +kernel) rfl, xWS_mem 1145 (by decide +kernel) rfl, xWS_mem 73 (by decide +kernel) rfl, xWS_mem 1146 (by decide +kernel) rfl, rfl, by decide, by decide, by decide +kernel, _, rfl, rfl⟩
theorem cw_L_57 : xCV RL 57 yX6_sale cX6_sale 4 (some .int) 3 6 := ⟨xWS_mem 460 (by decide +kernel) rfl, xWS_mem 461 (by decide +kernel) rfl, xWS_mem 462 (by decide +kernel) rfl, xWS_mem 66 (by decide +kernel) rfl, xWS_mem 463 (by decide +kernel) rfl, rfl, by decide, by decide, by decide +kernel, _, rfl, rfl⟩
theorem cw_L_60 : xCV RL 60 yX7_sale cX7_sale 4 (some .int) 3 7 := ⟨xWS_mem 1147 (by decide +kernel) rfl, xWS_mem 1148 (by decide +kernel) rfl, xWS_mem 1149 (by decide +kernel) rfl, xWS_mem 73 (by decide +kernel) rfl, xWS_mem 1150 (by decide +kernel) rfl, rfl, by decide, by decide, by decide +kernel, _, rfl, rfl⟩
theorem cw_L_61 : xCV RL 61 yX6_markets cX6_markets 3 (some .int) 1 6 := ⟨xWS_mem 469 (by decide +kernel) rfl, xWS_mem 470 (by decide +kernel) rfl, xWS_mem 471 (by decide +kernel) rfl, xWS_mem 66 (by decide +kernel) rfl, xWS_mem 472 (by decide +kernel) rfl, rfl, by decide, by decide, by decide +kernel, _, rfl, rfl⟩
theorem cw_L_64 : xCV RL 64 yX7_markets cX7_markets 4 (some .int) 1 7 := ⟨xWS_mem 1156 (by decide +kernel) rfl, xWS_mem 1157 (by decide +kernel) rfl, xWS_mem 1158 (by decide +kernel) rfl, xWS_mem 73 (by decide +kernel) rfl, xWS_mem 1159 (by decide +kernel) rfl, rfl, by decide, by decide, by decide +kernel, _, rfl, rfl⟩
theorem cw_L_65 : xCV RL 65 yX6_ledger cX6_ledger 2 (some .int) 1 6 := ⟨xWS_mem 496 (by decide +kernel) rfl, xWS_mem 497 (by decide +kernel) rfl, xWS_mem 498 (by decide +kernel) rfl, xWS_mem 66 (by decide +kernel) rfl, xWS_mem 499 (by decide +kernel) rfl, rfl, by decide, by decide, by decide +kernel, _, rfl, rfl⟩
theorem cw_L_68 : xCV RL 68 yX7_ledger cX7_ledger 2 (some .int) 1 7 := ⟨xWS_mem 1173 (by decide +kernel) rfl, xWS_mem 1174 (by decide +kernel) rfl, xWS_mem 1175 (by decide +kernel) rfl, xWS_mem 73 (by decide +kernel) rfl, xWS_mem 1176 (by decide +kernel) rfl, rfl, by decide, by decide, by decide +kernel, _, rfl, rfl⟩
theorem cw_L_69 : xCV RL 69 yX6_isTrue cX6_isTrue 3 (some .int) 1 6 := ⟨xWS_mem 504 (by decide +kernel) rfl, xWS_mem 505 (by decide +kernel) rfl, xWS_mem 506 (by decide +kernel) rfl, xWS_mem 66 (by decide +kernel) rfl, xWS_mem 507 (by decide +kernel) rfl, rfl, by decide, by decide, by decide +kernel, _, rfl, rfl⟩
theorem cw_L_72 : xCV RL 72 yX7_isTrue cX7_isTrue 2 (some .int) 1 7 := ⟨xWS_mem 1181 (by decide +kernel) rfl, xWS_mem 1182 (by decide +kernel) rfl, xWS_mem 1183 (by decide +kernel) rfl, xWS_mem 73 (by decide +kernel) rfl, xWS_mem 1184 (by decide +kernel) rfl, rfl, by decide, by decide, by decide +kernel, _, rfl, rfl⟩
theorem cw_L_73 : xCV RL 73 yX6_falseMany cX6_falseMany 1 (some .int) 0 6 := ⟨xWS_mem 518 (by decide +kernel) rfl, xWS_mem 519 (by decide +kernel) rfl, xWS_mem 520 (by decide +kernel) rfl, xWS_mem 66 (by decide +kernel) rfl, xWS_mem 521 (by decide +kernel) rfl, rfl, by decide, by decide, by decide +kernel, _, rfl, rfl⟩
theorem cw_L_77 : xCV RL 77 yX7_falseMany cX7_falseMany 3 (some .int) 0 7 := ⟨xWS_mem 1197 (by decide +kernel) rfl, xWS_mem 1198 (by decide +kernel) rfl, xWS_mem 1199 (by decide +kernel) rfl, xWS_mem 73 (by decide +kernel) rfl, xWS_mem 1200 (by decide +kernel) rfl, rfl, by decide, by decide, by decide +kernel, _, rfl, rfl⟩
theorem cw_L_78 : xCV RL 78 yX6_fill cX6_fill 4 (some .int) 2 6 := ⟨xWS_mem 527 (by decide +kernel) rfl, xWS_mem 528 (by decide +kernel) rfl, xWS_mem 529 (by decide +kernel) rfl, xWS_mem 66 (by decide +kernel) rfl, xWS_mem 530 (by decide +kernel) rfl, rfl, by decide, by decide, by decide +kernel, _, rfl, rfl⟩
theorem cw_L_81 : xCV RL 81 yX7_fill cX7_fill 9 (some .int) 2 7 := ⟨xWS_mem 1201 (by decide +kernel) rfl, xWS_mem 1202 (by decide +kernel) rfl, xWS_mem 1203 (by decide +kernel) rfl, xWS_mem 73 (by decide +kernel) rfl, xWS_mem 1204 (by decide +kernel) rfl, rfl, by decide, by decide, by decide +kernel, _, rfl, rfl⟩
theorem cw_L_82 : xCV RL 82 yX6_emptied cX6_emptied 5 (some .int) 1 6 := ⟨xWS_mem 555 (by decide +kernel) rfl, xWS_mem 556 (by decide +kernel) rfl, xWS_mem 557 (by decide +kernel) rfl, xWS_mem 66 (by decide +kernel) rfl, xWS_mem 558 (by decide +kernel) rfl, rfl, by decide, by decide, by decide +kernel, _, rfl, rfl⟩
theorem cw_L_85 : xCV RL 85 yX7_emptied cX7_emptied 5 (some .int) 1 7 := ⟨xWS_mem 1224 (by decide +kernel) rfl, xWS_mem 1225 (by decide +kernel) rfl, xWS_mem 1226 (by decide +kernel) rfl, xWS_mem 73 (by decide +kernel) rfl, xWS_mem 1227 (by decide +kernel) rfl, rfl, by decide, by decide, by decide +kernel, _, rfl, rfl⟩
theorem cw_L_86 : xCV RL 86 yX6_behind cX6_behind 4 (some .int) 3 6 := ⟨xWS_mem 567 (by decide +kernel) rfl, xWS_mem 568 (by decide +kernel) rfl, xWS_mem 569 (by decide +kernel) rfl, xWS_mem 66 (by decide +kernel) rfl, xWS_mem 570 (by decide +kernel) rfl, rfl, by decide, by decide, by decide +kernel, _, rfl, rfl⟩
theorem cw_L_89 : xCV RL 89 yX7_behind cX7_behind 5 (some .int) 3 7 := ⟨xWS_mem 1236 (by decide +kernel) rfl, xWS_mem 1237 (by decide +kernel) rfl, xWS_mem 1238 (by decide +kernel) rfl, xWS_mem 73 (by decide +kernel) rfl, xWS_mem 1239 (by decide +kernel) rfl, rfl, by decide, by decide, by decide +kernel, _, rfl, rfl⟩
theorem cw_L_90 : xCV RL 90 yX6_richest cX6_richest 5 (some .int) 2 6 := ⟨xWS_mem 571 (by decide +kernel) rfl, xWS_mem 572 (by decide +kernel) rfl, xWS_mem 573 (by decide +kernel) rfl, xWS_mem 66 (by decide +kernel) rfl, xWS_mem 574 (by decide +kernel) rfl, rfl, by decide, by decide, by decide +kernel, _, rfl, rfl⟩
theorem cw_L_93 : xCV RL 93 yX7_richest cX7_richest 5 (some .int) 2 7 := ⟨xWS_mem 1245 (by decide +kernel) rfl, xWS_mem 1246 (by decide +kernel) rfl, xWS_mem 1247 (by decide +kernel) rfl, xWS_mem 73 (by decide +kernel) rfl, xWS_mem 1248 (by decide +kernel) rfl, rfl, by decide, by decide, by decide +kernel, _, rfl, rfl⟩
theorem cw_L_94 : xCV RL 94 yX6_worn cX6_worn 2 (some .int) 0 6 := ⟨xWS_mem 575 (by decide +kernel) rfl, xWS_mem 576 (by decide +kernel) rfl, xWS_mem 577 (by decide +kernel) rfl, xWS_mem 66 (by decide +kernel) rfl, xWS_mem 578 (by decide +kernel) rfl, rfl, by decide, by decide, by decide +kernel, _, rfl, rfl⟩
theorem cw_L_97 : xCV RL 97 yX7_worn cX7_worn 3 (some .int) 0 7 := ⟨xWS_mem 1253 (by decide +kernel) rfl, xWS_mem 1254 (by decide +kernel) rfl, xWS_mem 1255 (by decide +kernel) rfl, xWS_mem 73 (by decide +kernel) rfl, xWS_mem 1256 (by decide +kernel) rfl, rfl, by decide, by decide, by decide +kernel, _, rfl, rfl⟩
theorem cw_L_98 : xCV RL 98 yX6_dye cX6_dye 8 (some .int) 3 6 := ⟨xWS_mem 583 (by decide +kernel) rfl, xWS_mem 584 (by decide +kernel) rfl, xWS_mem 585 (by decide +kernel) rfl, xWS_mem 66 (by decide +kernel) rfl, xWS_mem 586 (by decide +kernel) rfl, rfl, by decide, by decide, by decide +kernel, _, rfl, rfl⟩
def SimAll (Rl Rm : xH → xH → Prop) : Prop := S_day Rl Rm ∧ S_told Rl Rm ∧ S_as Rl Rm ∧ S_turns Rl Rm ∧ S_set Rl Rm ∧ S_one Rl Rm ∧ S_gives Rl Rm ∧ S_offer Rl Rm ∧ S_deal Rl Rm ∧ S_seed Rl Rm ∧ S_sale Rl Rm ∧ S_markets Rl Rm ∧ S_ledger Rl Rm ∧ S_isTrue Rl Rm ∧ S_falseMany Rl Rm ∧ S_fill Rl Rm ∧ S_emptied Rl Rm ∧ S_behind Rl Rm ∧ S_richest Rl Rm ∧ S_worn Rl Rm ∧ S_dye Rl Rm ∧ S_mends Rl Rm ∧ S_toldBy Rl Rm ∧ S_fine Rl Rm ∧ S_feed Rl Rm ∧ S_trim Rl Rm ∧ S_text Rl Rm ∧ S_textTold Rl Rm ∧ S_why Rl Rm ∧ S_sheet Rl Rm ∧ S_mark Rl Rm ∧ S_pour Rl Rm ∧ S_reads Rl Rm ∧ S_copy Rl Rm ∧ S_lay Rl Rm ∧ S_ask Rl Rm ∧ S_item Rl Rm ∧ S_rest Rl Rm ∧ S_tell Rl Rm ∧ S_check Rl Rm ∧ S_keep Rl Rm ∧ S_back Rl Rm ∧ S_count Rl Rm
set_option maxRecDepth 20000 in
set_option maxHeartbeats 2000000 in
theorem law_c0 {C : lCx} {γC γM : xG} {l : Launch} {Ln b : Nat} {xs : Nat → Int32} {hc hm : xH} {x3 : Int32} {Rl Rm : xH → xH → Prop} (hF : lF C γC γM l Ln xs b) {a1 : Int32} (hi1 : vp_in (x3 + 1) Ln ∧ xs (x3 + 1).toNatClampNeg = a1) {a2 : Int32} (hi2 : vp_in (x3 + 2) Ln ∧ xs (x3 + 2).toNatClampNeg = a2) {a3 : Int32} (hi3 : vp_in (x3 + 3) Ln ∧ xs (x3 + 3).toNatClampNeg = a3) {a4 : Int32} (hi4 : vp_in (x3 + 4) Ln ∧ xs (x3 + 4).toNatClampNeg = a4) {a5 : Int32} (hi5 : vp_in (x3 + 5) Ln ∧ xs (x3 + 5).toNatClampNeg = a5) (hs : S_day Rl Rm) (hR : Rl hc hm) (kk : ∀ hc hm, Rm hc hm → lB C γC γM hc hm 1539 [some (.ref b), some (.ref (γC.2.2.2 0)), some (.ref (γM.2.2.2 0)), some (.int x3)] []) : lB C γC γM hc hm 220 [some (.ref b), some (.ref (γC.2.2.2 0)), some (.ref (γM.2.2.2 0)), some (.int x3)] [] := by
  obtain ⟨r, hc1, hm1, e1, e2, e3⟩ := hs a1 a2 a3 a4 hc hm hR
  refine lB_aload_n hF dL_law_220 rfl ?_
  refine lB_aload_n hF dL_law_221 rfl ?_
  refine lB_iload_n hF dL_law_222 rfl ?_
  refine lB_iconst hF dL_law_223 ki_1 ?_
  refine lB_iadd hF dL_law_224 ?_
  refine lB_sld hF dL_law_225 (hi1).1 (hi1).2 ?_
  refine lB_aload_n hF dL_law_226 rfl ?_
  refine lB_iload_n hF dL_law_227 rfl ?_
  refine lB_iconst hF dL_law_228 ki_2 ?_
  refine lB_iadd hF dL_law_229 ?_
  refine lB_sld hF dL_law_230 (hi2).1 (hi2).2 ?_
  refine lB_aload_n hF dL_law_231 rfl ?_
  refine lB_iload_n hF dL_law_232 rfl ?_
  refine lB_iconst hF dL_law_233 ki_3 ?_
  refine lB_iadd hF dL_law_234 ?_
  refine lB_sld hF dL_law_235 (hi3).1 (hi3).2 ?_
  refine lB_aload_n hF dL_law_236 rfl ?_
  refine lB_iload_n hF dL_law_237 rfl ?_
  refine lB_iconst hF dL_law_238 ki_4 ?_
  refine lB_iadd hF dL_law_239 ?_
  refine lB_sld hF dL_law_240 (hi4).1 (hi4).2 ?_
  refine lB_callC hF dL_law_241 (t_X6_day e1) cw_L_13 rfl rfl rfl rfl ?_
  refine lB_aload_n hF dL_law_244 rfl ?_
  refine lB_aload_n hF dL_law_245 rfl ?_
  refine lB_iload_n hF dL_law_246 rfl ?_
  refine lB_iconst hF dL_law_247 ki_1 ?_
  refine lB_iadd hF dL_law_248 ?_
  refine lB_sld hF dL_law_249 (hi1).1 (hi1).2 ?_
  refine lB_aload_n hF dL_law_250 rfl ?_
  refine lB_iload_n hF dL_law_251 rfl ?_
  refine lB_iconst hF dL_law_252 ki_2 ?_
  refine lB_iadd hF dL_law_253 ?_
  refine lB_sld hF dL_law_254 (hi2).1 (hi2).2 ?_
  refine lB_aload_n hF dL_law_255 rfl ?_
  refine lB_iload_n hF dL_law_256 rfl ?_
  refine lB_iconst hF dL_law_257 ki_3 ?_
  refine lB_iadd hF dL_law_258 ?_
  refine lB_sld hF dL_law_259 (hi3).1 (hi3).2 ?_
  refine lB_aload_n hF dL_law_260 rfl ?_
  refine lB_iload_n hF dL_law_261 rfl ?_
  refine lB_iconst hF dL_law_262 ki_4 ?_
  refine lB_iadd hF dL_law_263 ?_
  refine lB_sld hF dL_law_264 (hi4).1 (hi4).2 ?_
  refine lB_callM hF dL_law_265 (t_X7_day e2) cw_L_17 rfl rfl rfl rfl ?_
  exact lB_eq (tgt := 1539) hF dL_law_268 rfl (kk _ _ e3)
set_option maxRecDepth 20000 in
set_option maxHeartbeats 2000000 in
theorem law_c1 {C : lCx} {γC γM : xG} {l : Launch} {Ln b : Nat} {xs : Nat → Int32} {hc hm : xH} {x3 : Int32} {Rl Rm : xH → xH → Prop} (hF : lF C γC γM l Ln xs b) {a1 : Int32} (hi1 : vp_in (x3 + 1) Ln ∧ xs (x3 + 1).toNatClampNeg = a1) {a2 : Int32} (hi2 : vp_in (x3 + 2) Ln ∧ xs (x3 + 2).toNatClampNeg = a2) {a3 : Int32} (hi3 : vp_in (x3 + 3) Ln ∧ xs (x3 + 3).toNatClampNeg = a3) {a4 : Int32} (hi4 : vp_in (x3 + 4) Ln ∧ xs (x3 + 4).toNatClampNeg = a4) {a5 : Int32} (hi5 : vp_in (x3 + 5) Ln ∧ xs (x3 + 5).toNatClampNeg = a5) (hs : S_told Rl Rm) (hR : Rl hc hm) (kk : ∀ hc hm, Rm hc hm → lB C γC γM hc hm 1539 [some (.ref b), some (.ref (γC.2.2.2 0)), some (.ref (γM.2.2.2 0)), some (.int x3)] []) : lB C γC γM hc hm 273 [some (.ref b), some (.ref (γC.2.2.2 0)), some (.ref (γM.2.2.2 0)), some (.int x3)] [] := by
  obtain ⟨r, hc1, hm1, e1, e2, e3⟩ := hs a1 a2 hc hm hR
  refine lB_aload_n hF dL_law_273 rfl ?_
  refine lB_aload_n hF dL_law_274 rfl ?_
  refine lB_iload_n hF dL_law_275 rfl ?_
  refine lB_iconst hF dL_law_276 ki_1 ?_
  refine lB_iadd hF dL_law_277 ?_
  refine lB_sld hF dL_law_278 (hi1).1 (hi1).2 ?_
  refine lB_aload_n hF dL_law_279 rfl ?_
  refine lB_iload_n hF dL_law_280 rfl ?_
  refine lB_iconst hF dL_law_281 ki_2 ?_
  refine lB_iadd hF dL_law_282 ?_
  refine lB_sld hF dL_law_283 (hi2).1 (hi2).2 ?_
  refine lB_callC hF dL_law_284 (t_X6_told e1) cw_L_18 rfl rfl rfl rfl ?_
  refine lB_aload_n hF dL_law_287 rfl ?_
  refine lB_aload_n hF dL_law_288 rfl ?_
  refine lB_iload_n hF dL_law_289 rfl ?_
  refine lB_iconst hF dL_law_290 ki_1 ?_
  refine lB_iadd hF dL_law_291 ?_
  refine lB_sld hF dL_law_292 (hi1).1 (hi1).2 ?_
  refine lB_aload_n hF dL_law_293 rfl ?_
  refine lB_iload_n hF dL_law_294 rfl ?_
  refine lB_iconst hF dL_law_295 ki_2 ?_
  refine lB_iadd hF dL_law_296 ?_
  refine lB_sld hF dL_law_297 (hi2).1 (hi2).2 ?_
  refine lB_callM hF dL_law_298 (t_X7_told e2) cw_L_22 rfl rfl rfl rfl ?_
  exact lB_eq (tgt := 1539) hF dL_law_301 rfl (kk _ _ e3)
set_option maxRecDepth 20000 in
set_option maxHeartbeats 2000000 in
theorem law_c2 {C : lCx} {γC γM : xG} {l : Launch} {Ln b : Nat} {xs : Nat → Int32} {hc hm : xH} {x3 : Int32} {Rl Rm : xH → xH → Prop} (hF : lF C γC γM l Ln xs b) {a1 : Int32} (hi1 : vp_in (x3 + 1) Ln ∧ xs (x3 + 1).toNatClampNeg = a1) {a2 : Int32} (hi2 : vp_in (x3 + 2) Ln ∧ xs (x3 + 2).toNatClampNeg = a2) {a3 : Int32} (hi3 : vp_in (x3 + 3) Ln ∧ xs (x3 + 3).toNatClampNeg = a3) {a4 : Int32} (hi4 : vp_in (x3 + 4) Ln ∧ xs (x3 + 4).toNatClampNeg = a4) {a5 : Int32} (hi5 : vp_in (x3 + 5) Ln ∧ xs (x3 + 5).toNatClampNeg = a5) (hs : S_as Rl Rm) (hR : Rl hc hm) (kk : ∀ hc hm, Rm hc hm → lB C γC γM hc hm 1539 [some (.ref b), some (.ref (γC.2.2.2 0)), some (.ref (γM.2.2.2 0)), some (.int x3)] []) : lB C γC γM hc hm 306 [some (.ref b), some (.ref (γC.2.2.2 0)), some (.ref (γM.2.2.2 0)), some (.int x3)] [] := by
  obtain ⟨r, hc1, hm1, e1, e2, e3⟩ := hs a1 a2 hc hm hR
  refine lB_aload_n hF dL_law_306 rfl ?_
  refine lB_aload_n hF dL_law_307 rfl ?_
  refine lB_iload_n hF dL_law_308 rfl ?_
  refine lB_iconst hF dL_law_309 ki_1 ?_
  refine lB_iadd hF dL_law_310 ?_
  refine lB_sld hF dL_law_311 (hi1).1 (hi1).2 ?_
  refine lB_aload_n hF dL_law_312 rfl ?_
  refine lB_iload_n hF dL_law_313 rfl ?_
  refine lB_iconst hF dL_law_314 ki_2 ?_
  refine lB_iadd hF dL_law_315 ?_
  refine lB_sld hF dL_law_316 (hi2).1 (hi2).2 ?_
  refine lB_callC hF dL_law_317 (t_X6_as e1) cw_L_23 rfl rfl rfl rfl ?_
  refine lB_aload_n hF dL_law_320 rfl ?_
  refine lB_aload_n hF dL_law_321 rfl ?_
  refine lB_iload_n hF dL_law_322 rfl ?_
  refine lB_iconst hF dL_law_323 ki_1 ?_
  refine lB_iadd hF dL_law_324 ?_
  refine lB_sld hF dL_law_325 (hi1).1 (hi1).2 ?_
  refine lB_aload_n hF dL_law_326 rfl ?_
  refine lB_iload_n hF dL_law_327 rfl ?_
  refine lB_iconst hF dL_law_328 ki_2 ?_
  refine lB_iadd hF dL_law_329 ?_
  refine lB_sld hF dL_law_330 (hi2).1 (hi2).2 ?_
  refine lB_callM hF dL_law_331 (t_X7_as e2) cw_L_26 rfl rfl rfl rfl ?_
  exact lB_eq (tgt := 1539) hF dL_law_334 rfl (kk _ _ e3)
set_option maxRecDepth 20000 in
set_option maxHeartbeats 2000000 in
theorem law_c3 {C : lCx} {γC γM : xG} {l : Launch} {Ln b : Nat} {xs : Nat → Int32} {hc hm : xH} {x3 : Int32} {Rl Rm : xH → xH → Prop} (hF : lF C γC γM l Ln xs b) {a1 : Int32} (hi1 : vp_in (x3 + 1) Ln ∧ xs (x3 + 1).toNatClampNeg = a1) {a2 : Int32} (hi2 : vp_in (x3 + 2) Ln ∧ xs (x3 + 2).toNatClampNeg = a2) {a3 : Int32} (hi3 : vp_in (x3 + 3) Ln ∧ xs (x3 + 3).toNatClampNeg = a3) {a4 : Int32} (hi4 : vp_in (x3 + 4) Ln ∧ xs (x3 + 4).toNatClampNeg = a4) {a5 : Int32} (hi5 : vp_in (x3 + 5) Ln ∧ xs (x3 + 5).toNatClampNeg = a5) (hs : S_turns Rl Rm) (hR : Rl hc hm) (kk : ∀ hc hm, Rm hc hm → lB C γC γM hc hm 1539 [some (.ref b), some (.ref (γC.2.2.2 0)), some (.ref (γM.2.2.2 0)), some (.int x3)] []) : lB C γC γM hc hm 339 [some (.ref b), some (.ref (γC.2.2.2 0)), some (.ref (γM.2.2.2 0)), some (.int x3)] [] := by
  obtain ⟨r, hc1, hm1, e1, e2, e3⟩ := hs a1 a2 hc hm hR
  refine lB_aload_n hF dL_law_339 rfl ?_
  refine lB_aload_n hF dL_law_340 rfl ?_
  refine lB_iload_n hF dL_law_341 rfl ?_
  refine lB_iconst hF dL_law_342 ki_1 ?_
  refine lB_iadd hF dL_law_343 ?_
  refine lB_sld hF dL_law_344 (hi1).1 (hi1).2 ?_
  refine lB_aload_n hF dL_law_345 rfl ?_
  refine lB_iload_n hF dL_law_346 rfl ?_
  refine lB_iconst hF dL_law_347 ki_2 ?_
  refine lB_iadd hF dL_law_348 ?_
  refine lB_sld hF dL_law_349 (hi2).1 (hi2).2 ?_
  refine lB_callC hF dL_law_350 (t_X6_turns e1) cw_L_27 rfl rfl rfl rfl ?_
  refine lB_aload_n hF dL_law_353 rfl ?_
  refine lB_aload_n hF dL_law_354 rfl ?_
  refine lB_iload_n hF dL_law_355 rfl ?_
  refine lB_iconst hF dL_law_356 ki_1 ?_
  refine lB_iadd hF dL_law_357 ?_
  refine lB_sld hF dL_law_358 (hi1).1 (hi1).2 ?_
  refine lB_aload_n hF dL_law_359 rfl ?_
  refine lB_iload_n hF dL_law_360 rfl ?_
  refine lB_iconst hF dL_law_361 ki_2 ?_
  refine lB_iadd hF dL_law_362 ?_
  refine lB_sld hF dL_law_363 (hi2).1 (hi2).2 ?_
  refine lB_callM hF dL_law_364 (t_X7_turns e2) cw_L_30 rfl rfl rfl rfl ?_
  exact lB_eq (tgt := 1539) hF dL_law_367 rfl (kk _ _ e3)
set_option maxRecDepth 20000 in
set_option maxHeartbeats 2000000 in
theorem law_c4 {C : lCx} {γC γM : xG} {l : Launch} {Ln b : Nat} {xs : Nat → Int32} {hc hm : xH} {x3 : Int32} {Rl Rm : xH → xH → Prop} (hF : lF C γC γM l Ln xs b) {a1 : Int32} (hi1 : vp_in (x3 + 1) Ln ∧ xs (x3 + 1).toNatClampNeg = a1) {a2 : Int32} (hi2 : vp_in (x3 + 2) Ln ∧ xs (x3 + 2).toNatClampNeg = a2) {a3 : Int32} (hi3 : vp_in (x3 + 3) Ln ∧ xs (x3 + 3).toNatClampNeg = a3) {a4 : Int32} (hi4 : vp_in (x3 + 4) Ln ∧ xs (x3 + 4).toNatClampNeg = a4) {a5 : Int32} (hi5 : vp_in (x3 + 5) Ln ∧ xs (x3 + 5).toNatClampNeg = a5) (hs : S_set Rl Rm) (hR : Rl hc hm) (kk : ∀ hc hm, Rm hc hm → lB C γC γM hc hm 1539 [some (.ref b), some (.ref (γC.2.2.2 0)), some (.ref (γM.2.2.2 0)), some (.int x3)] []) : lB C γC γM hc hm 372 [some (.ref b), some (.ref (γC.2.2.2 0)), some (.ref (γM.2.2.2 0)), some (.int x3)] [] := by
  obtain ⟨r, hc1, hm1, e1, e2, e3⟩ := hs a1 a2 a3 hc hm hR
  refine lB_aload_n hF dL_law_372 rfl ?_
  refine lB_aload_n hF dL_law_373 rfl ?_
  refine lB_iload_n hF dL_law_374 rfl ?_
  refine lB_iconst hF dL_law_375 ki_1 ?_
  refine lB_iadd hF dL_law_376 ?_
  refine lB_sld hF dL_law_377 (hi1).1 (hi1).2 ?_
  refine lB_aload_n hF dL_law_378 rfl ?_
  refine lB_iload_n hF dL_law_379 rfl ?_
  refine lB_iconst hF dL_law_380 ki_2 ?_
  refine lB_iadd hF dL_law_381 ?_
  refine lB_sld hF dL_law_382 (hi2).1 (hi2).2 ?_
  refine lB_aload_n hF dL_law_383 rfl ?_
  refine lB_iload_n hF dL_law_384 rfl ?_
  refine lB_iconst hF dL_law_385 ki_3 ?_
  refine lB_iadd hF dL_law_386 ?_
  refine lB_sld hF dL_law_387 (hi3).1 (hi3).2 ?_
  refine lB_callC hF dL_law_388 (t_X6_set e1) cw_L_31 rfl rfl rfl rfl ?_
  refine lB_aload_n hF dL_law_391 rfl ?_
  refine lB_aload_n hF dL_law_392 rfl ?_
  refine lB_iload_n hF dL_law_393 rfl ?_
  refine lB_iconst hF dL_law_394 ki_1 ?_
  refine lB_iadd hF dL_law_395 ?_
  refine lB_sld hF dL_law_396 (hi1).1 (hi1).2 ?_
  refine lB_aload_n hF dL_law_397 rfl ?_
  refine lB_iload_n hF dL_law_398 rfl ?_
  refine lB_iconst hF dL_law_399 ki_2 ?_
  refine lB_iadd hF dL_law_400 ?_
  refine lB_sld hF dL_law_401 (hi2).1 (hi2).2 ?_
  refine lB_aload_n hF dL_law_402 rfl ?_
  refine lB_iload_n hF dL_law_403 rfl ?_
  refine lB_iconst hF dL_law_404 ki_3 ?_
  refine lB_iadd hF dL_law_405 ?_
  refine lB_sld hF dL_law_406 (hi3).1 (hi3).2 ?_
  refine lB_callM hF dL_law_407 (t_X7_set e2) cw_L_35 rfl rfl rfl rfl ?_
  exact lB_eq (tgt := 1539) hF dL_law_410 rfl (kk _ _ e3)
set_option maxRecDepth 20000 in
set_option maxHeartbeats 2000000 in
theorem law_c5 {C : lCx} {γC γM : xG} {l : Launch} {Ln b : Nat} {xs : Nat → Int32} {hc hm : xH} {x3 : Int32} {Rl Rm : xH → xH → Prop} (hF : lF C γC γM l Ln xs b) {a1 : Int32} (hi1 : vp_in (x3 + 1) Ln ∧ xs (x3 + 1).toNatClampNeg = a1) {a2 : Int32} (hi2 : vp_in (x3 + 2) Ln ∧ xs (x3 + 2).toNatClampNeg = a2) {a3 : Int32} (hi3 : vp_in (x3 + 3) Ln ∧ xs (x3 + 3).toNatClampNeg = a3) {a4 : Int32} (hi4 : vp_in (x3 + 4) Ln ∧ xs (x3 + 4).toNatClampNeg = a4) {a5 : Int32} (hi5 : vp_in (x3 + 5) Ln ∧ xs (x3 + 5).toNatClampNeg = a5) (hs : S_one Rl Rm) (hR : Rl hc hm) (kk : ∀ hc hm, Rm hc hm → lB C γC γM hc hm 1539 [some (.ref b), some (.ref (γC.2.2.2 0)), some (.ref (γM.2.2.2 0)), some (.int x3)] []) : lB C γC γM hc hm 415 [some (.ref b), some (.ref (γC.2.2.2 0)), some (.ref (γM.2.2.2 0)), some (.int x3)] [] := by
  obtain ⟨r, hc1, hm1, e1, e2, e3⟩ := hs a1 a2 hc hm hR
  refine lB_aload_n hF dL_law_415 rfl ?_
  refine lB_aload_n hF dL_law_416 rfl ?_
  refine lB_iload_n hF dL_law_417 rfl ?_
  refine lB_iconst hF dL_law_418 ki_1 ?_
  refine lB_iadd hF dL_law_419 ?_
  refine lB_sld hF dL_law_420 (hi1).1 (hi1).2 ?_
  refine lB_aload_n hF dL_law_421 rfl ?_
  refine lB_iload_n hF dL_law_422 rfl ?_
  refine lB_iconst hF dL_law_423 ki_2 ?_
  refine lB_iadd hF dL_law_424 ?_
  refine lB_sld hF dL_law_425 (hi2).1 (hi2).2 ?_
  refine lB_callC hF dL_law_426 (t_X6_one e1) cw_L_36 rfl rfl rfl rfl ?_
  refine lB_aload_n hF dL_law_429 rfl ?_
  refine lB_aload_n hF dL_law_430 rfl ?_
  refine lB_iload_n hF dL_law_431 rfl ?_
  refine lB_iconst hF dL_law_432 ki_1 ?_
  refine lB_iadd hF dL_law_433 ?_
  refine lB_sld hF dL_law_434 (hi1).1 (hi1).2 ?_
  refine lB_aload_n hF dL_law_435 rfl ?_
  refine lB_iload_n hF dL_law_436 rfl ?_
  refine lB_iconst hF dL_law_437 ki_2 ?_
  refine lB_iadd hF dL_law_438 ?_
  refine lB_sld hF dL_law_439 (hi2).1 (hi2).2 ?_
  refine lB_callM hF dL_law_440 (t_X7_one e2) cw_L_39 rfl rfl rfl rfl ?_
  exact lB_eq (tgt := 1539) hF dL_law_443 rfl (kk _ _ e3)
set_option maxRecDepth 20000 in
set_option maxHeartbeats 2000000 in
theorem law_c6 {C : lCx} {γC γM : xG} {l : Launch} {Ln b : Nat} {xs : Nat → Int32} {hc hm : xH} {x3 : Int32} {Rl Rm : xH → xH → Prop} (hF : lF C γC γM l Ln xs b) {a1 : Int32} (hi1 : vp_in (x3 + 1) Ln ∧ xs (x3 + 1).toNatClampNeg = a1) {a2 : Int32} (hi2 : vp_in (x3 + 2) Ln ∧ xs (x3 + 2).toNatClampNeg = a2) {a3 : Int32} (hi3 : vp_in (x3 + 3) Ln ∧ xs (x3 + 3).toNatClampNeg = a3) {a4 : Int32} (hi4 : vp_in (x3 + 4) Ln ∧ xs (x3 + 4).toNatClampNeg = a4) {a5 : Int32} (hi5 : vp_in (x3 + 5) Ln ∧ xs (x3 + 5).toNatClampNeg = a5) (hs : S_gives Rl Rm) (hR : Rl hc hm) (kk : ∀ hc hm, Rm hc hm → lB C γC γM hc hm 1539 [some (.ref b), some (.ref (γC.2.2.2 0)), some (.ref (γM.2.2.2 0)), some (.int x3)] []) : lB C γC γM hc hm 448 [some (.ref b), some (.ref (γC.2.2.2 0)), some (.ref (γM.2.2.2 0)), some (.int x3)] [] := by
  obtain ⟨r, hc1, hm1, e1, e2, e3⟩ := hs a1 a2 a3 hc hm hR
  refine lB_aload_n hF dL_law_448 rfl ?_
  refine lB_aload_n hF dL_law_449 rfl ?_
  refine lB_iload_n hF dL_law_450 rfl ?_
  refine lB_iconst hF dL_law_451 ki_1 ?_
  refine lB_iadd hF dL_law_452 ?_
  refine lB_sld hF dL_law_453 (hi1).1 (hi1).2 ?_
  refine lB_aload_n hF dL_law_454 rfl ?_
  refine lB_iload_n hF dL_law_455 rfl ?_
  refine lB_iconst hF dL_law_456 ki_2 ?_
  refine lB_iadd hF dL_law_457 ?_
  refine lB_sld hF dL_law_458 (hi2).1 (hi2).2 ?_
  refine lB_aload_n hF dL_law_459 rfl ?_
  refine lB_iload_n hF dL_law_460 rfl ?_
  refine lB_iconst hF dL_law_461 ki_3 ?_
  refine lB_iadd hF dL_law_462 ?_
  refine lB_sld hF dL_law_463 (hi3).1 (hi3).2 ?_
  refine lB_callC hF dL_law_464 (t_X6_gives e1) cw_L_40 rfl rfl rfl rfl ?_
  refine lB_aload_n hF dL_law_467 rfl ?_
  refine lB_aload_n hF dL_law_468 rfl ?_
  refine lB_iload_n hF dL_law_469 rfl ?_
  refine lB_iconst hF dL_law_470 ki_1 ?_
  refine lB_iadd hF dL_law_471 ?_
  refine lB_sld hF dL_law_472 (hi1).1 (hi1).2 ?_
  refine lB_aload_n hF dL_law_473 rfl ?_
  refine lB_iload_n hF dL_law_474 rfl ?_
  refine lB_iconst hF dL_law_475 ki_2 ?_
  refine lB_iadd hF dL_law_476 ?_
  refine lB_sld hF dL_law_477 (hi2).1 (hi2).2 ?_
  refine lB_aload_n hF dL_law_478 rfl ?_
  refine lB_iload_n hF dL_law_479 rfl ?_
  refine lB_iconst hF dL_law_480 ki_3 ?_
  refine lB_iadd hF dL_law_481 ?_
  refine lB_sld hF dL_law_482 (hi3).1 (hi3).2 ?_
  refine lB_callM hF dL_law_483 (t_X7_gives e2) cw_L_43 rfl rfl rfl rfl ?_
  exact lB_eq (tgt := 1539) hF dL_law_486 rfl (kk _ _ e3)
set_option maxRecDepth 20000 in
set_option maxHeartbeats 2000000 in
theorem law_c7 {C : lCx} {γC γM : xG} {l : Launch} {Ln b : Nat} {xs : Nat → Int32} {hc hm : xH} {x3 : Int32} {Rl Rm : xH → xH → Prop} (hF : lF C γC γM l Ln xs b) {a1 : Int32} (hi1 : vp_in (x3 + 1) Ln ∧ xs (x3 + 1).toNatClampNeg = a1) {a2 : Int32} (hi2 : vp_in (x3 + 2) Ln ∧ xs (x3 + 2).toNatClampNeg = a2) {a3 : Int32} (hi3 : vp_in (x3 + 3) Ln ∧ xs (x3 + 3).toNatClampNeg = a3) {a4 : Int32} (hi4 : vp_in (x3 + 4) Ln ∧ xs (x3 + 4).toNatClampNeg = a4) {a5 : Int32} (hi5 : vp_in (x3 + 5) Ln ∧ xs (x3 + 5).toNatClampNeg = a5) (hs : S_offer Rl Rm) (hR : Rl hc hm) (kk : ∀ hc hm, Rm hc hm → lB C γC γM hc hm 1539 [some (.ref b), some (.ref (γC.2.2.2 0)), some (.ref (γM.2.2.2 0)), some (.int x3)] []) : lB C γC γM hc hm 491 [some (.ref b), some (.ref (γC.2.2.2 0)), some (.ref (γM.2.2.2 0)), some (.int x3)] [] := by
  obtain ⟨r, hc1, hm1, e1, e2, e3⟩ := hs a1 a2 hc hm hR
  refine lB_aload_n hF dL_law_491 rfl ?_
  refine lB_aload_n hF dL_law_492 rfl ?_
  refine lB_iload_n hF dL_law_493 rfl ?_
  refine lB_iconst hF dL_law_494 ki_1 ?_
  refine lB_iadd hF dL_law_495 ?_
  refine lB_sld hF dL_law_496 (hi1).1 (hi1).2 ?_
  refine lB_aload_n hF dL_law_497 rfl ?_
  refine lB_iload_n hF dL_law_498 rfl ?_
  refine lB_iconst hF dL_law_499 ki_2 ?_
  refine lB_iadd hF dL_law_500 ?_
  refine lB_sld hF dL_law_501 (hi2).1 (hi2).2 ?_
  refine lB_callC hF dL_law_502 (t_X6_offer e1) cw_L_44 rfl rfl rfl rfl ?_
  refine lB_aload_n hF dL_law_505 rfl ?_
  refine lB_aload_n hF dL_law_506 rfl ?_
  refine lB_iload_n hF dL_law_507 rfl ?_
  refine lB_iconst hF dL_law_508 ki_1 ?_
  refine lB_iadd hF dL_law_509 ?_
  refine lB_sld hF dL_law_510 (hi1).1 (hi1).2 ?_
  refine lB_aload_n hF dL_law_511 rfl ?_
  refine lB_iload_n hF dL_law_512 rfl ?_
  refine lB_iconst hF dL_law_513 ki_2 ?_
  refine lB_iadd hF dL_law_514 ?_
  refine lB_sld hF dL_law_515 (hi2).1 (hi2).2 ?_
  refine lB_callM hF dL_law_516 (t_X7_offer e2) cw_L_47 rfl rfl rfl rfl ?_
  exact lB_eq (tgt := 1539) hF dL_law_519 rfl (kk _ _ e3)
set_option maxRecDepth 20000 in
set_option maxHeartbeats 2000000 in
theorem law_c8 {C : lCx} {γC γM : xG} {l : Launch} {Ln b : Nat} {xs : Nat → Int32} {hc hm : xH} {x3 : Int32} {Rl Rm : xH → xH → Prop} (hF : lF C γC γM l Ln xs b) {a1 : Int32} (hi1 : vp_in (x3 + 1) Ln ∧ xs (x3 + 1).toNatClampNeg = a1) {a2 : Int32} (hi2 : vp_in (x3 + 2) Ln ∧ xs (x3 + 2).toNatClampNeg = a2) {a3 : Int32} (hi3 : vp_in (x3 + 3) Ln ∧ xs (x3 + 3).toNatClampNeg = a3) {a4 : Int32} (hi4 : vp_in (x3 + 4) Ln ∧ xs (x3 + 4).toNatClampNeg = a4) {a5 : Int32} (hi5 : vp_in (x3 + 5) Ln ∧ xs (x3 + 5).toNatClampNeg = a5) (hs : S_deal Rl Rm) (hR : Rl hc hm) (kk : ∀ hc hm, Rm hc hm → lB C γC γM hc hm 1539 [some (.ref b), some (.ref (γC.2.2.2 0)), some (.ref (γM.2.2.2 0)), some (.int x3)] []) : lB C γC γM hc hm 524 [some (.ref b), some (.ref (γC.2.2.2 0)), some (.ref (γM.2.2.2 0)), some (.int x3)] [] := by
  obtain ⟨r, hc1, hm1, e1, e2, e3⟩ := hs a1 hc hm hR
  refine lB_aload_n hF dL_law_524 rfl ?_
  refine lB_aload_n hF dL_law_525 rfl ?_
  refine lB_iload_n hF dL_law_526 rfl ?_
  refine lB_iconst hF dL_law_527 ki_1 ?_
  refine lB_iadd hF dL_law_528 ?_
  refine lB_sld hF dL_law_529 (hi1).1 (hi1).2 ?_
  refine lB_callC hF dL_law_530 (t_X6_deal e1) cw_L_48 rfl rfl rfl rfl ?_
  refine lB_aload_n hF dL_law_533 rfl ?_
  refine lB_aload_n hF dL_law_534 rfl ?_
  refine lB_iload_n hF dL_law_535 rfl ?_
  refine lB_iconst hF dL_law_536 ki_1 ?_
  refine lB_iadd hF dL_law_537 ?_
  refine lB_sld hF dL_law_538 (hi1).1 (hi1).2 ?_
  refine lB_callM hF dL_law_539 (t_X7_deal e2) cw_L_52 rfl rfl rfl rfl ?_
  exact lB_eq (tgt := 1539) hF dL_law_542 rfl (kk _ _ e3)
set_option maxRecDepth 20000 in
set_option maxHeartbeats 2000000 in
theorem law_c9 {C : lCx} {γC γM : xG} {l : Launch} {Ln b : Nat} {xs : Nat → Int32} {hc hm : xH} {x3 : Int32} {Rl Rm : xH → xH → Prop} (hF : lF C γC γM l Ln xs b) {a1 : Int32} (hi1 : vp_in (x3 + 1) Ln ∧ xs (x3 + 1).toNatClampNeg = a1) {a2 : Int32} (hi2 : vp_in (x3 + 2) Ln ∧ xs (x3 + 2).toNatClampNeg = a2) {a3 : Int32} (hi3 : vp_in (x3 + 3) Ln ∧ xs (x3 + 3).toNatClampNeg = a3) {a4 : Int32} (hi4 : vp_in (x3 + 4) Ln ∧ xs (x3 + 4).toNatClampNeg = a4) {a5 : Int32} (hi5 : vp_in (x3 + 5) Ln ∧ xs (x3 + 5).toNatClampNeg = a5) (hs : S_seed Rl Rm) (hR : Rl hc hm) (kk : ∀ hc hm, Rm hc hm → lB C γC γM hc hm 1539 [some (.ref b), some (.ref (γC.2.2.2 0)), some (.ref (γM.2.2.2 0)), some (.int x3)] []) : lB C γC γM hc hm 547 [some (.ref b), some (.ref (γC.2.2.2 0)), some (.ref (γM.2.2.2 0)), some (.int x3)] [] := by
  obtain ⟨r, hc1, hm1, e1, e2, e3⟩ := hs a1 hc hm hR
  refine lB_aload_n hF dL_law_547 rfl ?_
  refine lB_aload_n hF dL_law_548 rfl ?_
  refine lB_iload_n hF dL_law_549 rfl ?_
  refine lB_iconst hF dL_law_550 ki_1 ?_
  refine lB_iadd hF dL_law_551 ?_
  refine lB_sld hF dL_law_552 (hi1).1 (hi1).2 ?_
  refine lB_callC hF dL_law_553 (t_X6_seed e1) cw_L_53 rfl rfl rfl rfl ?_
  refine lB_aload_n hF dL_law_556 rfl ?_
  refine lB_aload_n hF dL_law_557 rfl ?_
  refine lB_iload_n hF dL_law_558 rfl ?_
  refine lB_iconst hF dL_law_559 ki_1 ?_
  refine lB_iadd hF dL_law_560 ?_
  refine lB_sld hF dL_law_561 (hi1).1 (hi1).2 ?_
  refine lB_callM hF dL_law_562 (t_X7_seed e2) cw_L_56 rfl rfl rfl rfl ?_
  exact lB_eq (tgt := 1539) hF dL_law_565 rfl (kk _ _ e3)
set_option maxRecDepth 20000 in
set_option maxHeartbeats 2000000 in
theorem law_c10 {C : lCx} {γC γM : xG} {l : Launch} {Ln b : Nat} {xs : Nat → Int32} {hc hm : xH} {x3 : Int32} {Rl Rm : xH → xH → Prop} (hF : lF C γC γM l Ln xs b) {a1 : Int32} (hi1 : vp_in (x3 + 1) Ln ∧ xs (x3 + 1).toNatClampNeg = a1) {a2 : Int32} (hi2 : vp_in (x3 + 2) Ln ∧ xs (x3 + 2).toNatClampNeg = a2) {a3 : Int32} (hi3 : vp_in (x3 + 3) Ln ∧ xs (x3 + 3).toNatClampNeg = a3) {a4 : Int32} (hi4 : vp_in (x3 + 4) Ln ∧ xs (x3 + 4).toNatClampNeg = a4) {a5 : Int32} (hi5 : vp_in (x3 + 5) Ln ∧ xs (x3 + 5).toNatClampNeg = a5) (hs : S_sale Rl Rm) (hR : Rl hc hm) (kk : ∀ hc hm, Rm hc hm → lB C γC γM hc hm 1539 [some (.ref b), some (.ref (γC.2.2.2 0)), some (.ref (γM.2.2.2 0)), some (.int x3)] []) : lB C γC γM hc hm 570 [some (.ref b), some (.ref (γC.2.2.2 0)), some (.ref (γM.2.2.2 0)), some (.int x3)] [] := by
  obtain ⟨r, hc1, hm1, e1, e2, e3⟩ := hs a1 a2 a3 hc hm hR
  refine lB_aload_n hF dL_law_570 rfl ?_
  refine lB_aload_n hF dL_law_571 rfl ?_
  refine lB_iload_n hF dL_law_572 rfl ?_
  refine lB_iconst hF dL_law_573 ki_1 ?_
  refine lB_iadd hF dL_law_574 ?_
  refine lB_sld hF dL_law_575 (hi1).1 (hi1).2 ?_
  refine lB_aload_n hF dL_law_576 rfl ?_
  refine lB_iload_n hF dL_law_577 rfl ?_
  refine lB_iconst hF dL_law_578 ki_2 ?_
  refine lB_iadd hF dL_law_579 ?_
  refine lB_sld hF dL_law_580 (hi2).1 (hi2).2 ?_
  refine lB_aload_n hF dL_law_581 rfl ?_
  refine lB_iload_n hF dL_law_582 rfl ?_
  refine lB_iconst hF dL_law_583 ki_3 ?_
  refine lB_iadd hF dL_law_584 ?_
  refine lB_sld hF dL_law_585 (hi3).1 (hi3).2 ?_
  refine lB_callC hF dL_law_586 (t_X6_sale e1) cw_L_57 rfl rfl rfl rfl ?_
  refine lB_aload_n hF dL_law_589 rfl ?_
  refine lB_aload_n hF dL_law_590 rfl ?_
  refine lB_iload_n hF dL_law_591 rfl ?_
  refine lB_iconst hF dL_law_592 ki_1 ?_
  refine lB_iadd hF dL_law_593 ?_
  refine lB_sld hF dL_law_594 (hi1).1 (hi1).2 ?_
  refine lB_aload_n hF dL_law_595 rfl ?_
  refine lB_iload_n hF dL_law_596 rfl ?_
  refine lB_iconst hF dL_law_597 ki_2 ?_
  refine lB_iadd hF dL_law_598 ?_
  refine lB_sld hF dL_law_599 (hi2).1 (hi2).2 ?_
  refine lB_aload_n hF dL_law_600 rfl ?_
  refine lB_iload_n hF dL_law_601 rfl ?_
  refine lB_iconst hF dL_law_602 ki_3 ?_
  refine lB_iadd hF dL_law_603 ?_
  refine lB_sld hF dL_law_604 (hi3).1 (hi3).2 ?_
  refine lB_callM hF dL_law_605 (t_X7_sale e2) cw_L_60 rfl rfl rfl rfl ?_
  exact lB_eq (tgt := 1539) hF dL_law_608 rfl (kk _ _ e3)
set_option maxRecDepth 20000 in
set_option maxHeartbeats 2000000 in
theorem law_c11 {C : lCx} {γC γM : xG} {l : Launch} {Ln b : Nat} {xs : Nat → Int32} {hc hm : xH} {x3 : Int32} {Rl Rm : xH → xH → Prop} (hF : lF C γC γM l Ln xs b) {a1 : Int32} (hi1 : vp_in (x3 + 1) Ln ∧ xs (x3 + 1).toNatClampNeg = a1) {a2 : Int32} (hi2 : vp_in (x3 + 2) Ln ∧ xs (x3 + 2).toNatClampNeg = a2) {a3 : Int32} (hi3 : vp_in (x3 + 3) Ln ∧ xs (x3 + 3).toNatClampNeg = a3) {a4 : Int32} (hi4 : vp_in (x3 + 4) Ln ∧ xs (x3 + 4).toNatClampNeg = a4) {a5 : Int32} (hi5 : vp_in (x3 + 5) Ln ∧ xs (x3 + 5).toNatClampNeg = a5) (hs : S_markets Rl Rm) (hR : Rl hc hm) (kk : ∀ hc hm, Rm hc hm → lB C γC γM hc hm 1539 [some (.ref b), some (.ref (γC.2.2.2 0)), some (.ref (γM.2.2.2 0)), some (.int x3)] []) : lB C γC γM hc hm 613 [some (.ref b), some (.ref (γC.2.2.2 0)), some (.ref (γM.2.2.2 0)), some (.int x3)] [] := by
  obtain ⟨r, hc1, hm1, e1, e2, e3⟩ := hs a1 hc hm hR
  refine lB_aload_n hF dL_law_613 rfl ?_
  refine lB_aload_n hF dL_law_614 rfl ?_
  refine lB_iload_n hF dL_law_615 rfl ?_
  refine lB_iconst hF dL_law_616 ki_1 ?_
  refine lB_iadd hF dL_law_617 ?_
  refine lB_sld hF dL_law_618 (hi1).1 (hi1).2 ?_
  refine lB_callC hF dL_law_619 (t_X6_markets e1) cw_L_61 rfl rfl rfl rfl ?_
  refine lB_aload_n hF dL_law_622 rfl ?_
  refine lB_aload_n hF dL_law_623 rfl ?_
  refine lB_iload_n hF dL_law_624 rfl ?_
  refine lB_iconst hF dL_law_625 ki_1 ?_
  refine lB_iadd hF dL_law_626 ?_
  refine lB_sld hF dL_law_627 (hi1).1 (hi1).2 ?_
  refine lB_callM hF dL_law_628 (t_X7_markets e2) cw_L_64 rfl rfl rfl rfl ?_
  exact lB_eq (tgt := 1539) hF dL_law_631 rfl (kk _ _ e3)
set_option maxRecDepth 20000 in
set_option maxHeartbeats 2000000 in
theorem law_c12 {C : lCx} {γC γM : xG} {l : Launch} {Ln b : Nat} {xs : Nat → Int32} {hc hm : xH} {x3 : Int32} {Rl Rm : xH → xH → Prop} (hF : lF C γC γM l Ln xs b) {a1 : Int32} (hi1 : vp_in (x3 + 1) Ln ∧ xs (x3 + 1).toNatClampNeg = a1) {a2 : Int32} (hi2 : vp_in (x3 + 2) Ln ∧ xs (x3 + 2).toNatClampNeg = a2) {a3 : Int32} (hi3 : vp_in (x3 + 3) Ln ∧ xs (x3 + 3).toNatClampNeg = a3) {a4 : Int32} (hi4 : vp_in (x3 + 4) Ln ∧ xs (x3 + 4).toNatClampNeg = a4) {a5 : Int32} (hi5 : vp_in (x3 + 5) Ln ∧ xs (x3 + 5).toNatClampNeg = a5) (hs : S_ledger Rl Rm) (hR : Rl hc hm) (kk : ∀ hc hm, Rm hc hm → lB C γC γM hc hm 1539 [some (.ref b), some (.ref (γC.2.2.2 0)), some (.ref (γM.2.2.2 0)), some (.int x3)] []) : lB C γC γM hc hm 636 [some (.ref b), some (.ref (γC.2.2.2 0)), some (.ref (γM.2.2.2 0)), some (.int x3)] [] := by
  obtain ⟨r, hc1, hm1, e1, e2, e3⟩ := hs a1 hc hm hR
  refine lB_aload_n hF dL_law_636 rfl ?_
  refine lB_aload_n hF dL_law_637 rfl ?_
  refine lB_iload_n hF dL_law_638 rfl ?_
  refine lB_iconst hF dL_law_639 ki_1 ?_
  refine lB_iadd hF dL_law_640 ?_
  refine lB_sld hF dL_law_641 (hi1).1 (hi1).2 ?_
  refine lB_callC hF dL_law_642 (t_X6_ledger e1) cw_L_65 rfl rfl rfl rfl ?_
  refine lB_aload_n hF dL_law_645 rfl ?_
  refine lB_aload_n hF dL_law_646 rfl ?_
  refine lB_iload_n hF dL_law_647 rfl ?_
  refine lB_iconst hF dL_law_648 ki_1 ?_
  refine lB_iadd hF dL_law_649 ?_
  refine lB_sld hF dL_law_650 (hi1).1 (hi1).2 ?_
  refine lB_callM hF dL_law_651 (t_X7_ledger e2) cw_L_68 rfl rfl rfl rfl ?_
  exact lB_eq (tgt := 1539) hF dL_law_654 rfl (kk _ _ e3)
set_option maxRecDepth 20000 in
set_option maxHeartbeats 2000000 in
theorem law_c13 {C : lCx} {γC γM : xG} {l : Launch} {Ln b : Nat} {xs : Nat → Int32} {hc hm : xH} {x3 : Int32} {Rl Rm : xH → xH → Prop} (hF : lF C γC γM l Ln xs b) {a1 : Int32} (hi1 : vp_in (x3 + 1) Ln ∧ xs (x3 + 1).toNatClampNeg = a1) {a2 : Int32} (hi2 : vp_in (x3 + 2) Ln ∧ xs (x3 + 2).toNatClampNeg = a2) {a3 : Int32} (hi3 : vp_in (x3 + 3) Ln ∧ xs (x3 + 3).toNatClampNeg = a3) {a4 : Int32} (hi4 : vp_in (x3 + 4) Ln ∧ xs (x3 + 4).toNatClampNeg = a4) {a5 : Int32} (hi5 : vp_in (x3 + 5) Ln ∧ xs (x3 + 5).toNatClampNeg = a5) (hs : S_isTrue Rl Rm) (hR : Rl hc hm) (kk : ∀ hc hm, Rm hc hm → lB C γC γM hc hm 1539 [some (.ref b), some (.ref (γC.2.2.2 0)), some (.ref (γM.2.2.2 0)), some (.int x3)] []) : lB C γC γM hc hm 659 [some (.ref b), some (.ref (γC.2.2.2 0)), some (.ref (γM.2.2.2 0)), some (.int x3)] [] := by
  obtain ⟨r, hc1, hm1, e1, e2, e3⟩ := hs a1 hc hm hR
  refine lB_aload_n hF dL_law_659 rfl ?_
  refine lB_aload_n hF dL_law_660 rfl ?_
  refine lB_iload_n hF dL_law_661 rfl ?_
  refine lB_iconst hF dL_law_662 ki_1 ?_
  refine lB_iadd hF dL_law_663 ?_
  refine lB_sld hF dL_law_664 (hi1).1 (hi1).2 ?_
  refine lB_callC hF dL_law_665 (t_X6_isTrue e1) cw_L_69 rfl rfl rfl rfl ?_
  refine lB_aload_n hF dL_law_668 rfl ?_
  refine lB_aload_n hF dL_law_669 rfl ?_
  refine lB_iload_n hF dL_law_670 rfl ?_
  refine lB_iconst hF dL_law_671 ki_1 ?_
  refine lB_iadd hF dL_law_672 ?_
  refine lB_sld hF dL_law_673 (hi1).1 (hi1).2 ?_
  refine lB_callM hF dL_law_674 (t_X7_isTrue e2) cw_L_72 rfl rfl rfl rfl ?_
  exact lB_eq (tgt := 1539) hF dL_law_677 rfl (kk _ _ e3)
set_option maxRecDepth 20000 in
set_option maxHeartbeats 2000000 in
theorem law_c14 {C : lCx} {γC γM : xG} {l : Launch} {Ln b : Nat} {xs : Nat → Int32} {hc hm : xH} {x3 : Int32} {Rl Rm : xH → xH → Prop} (hF : lF C γC γM l Ln xs b) {a1 : Int32} (hi1 : vp_in (x3 + 1) Ln ∧ xs (x3 + 1).toNatClampNeg = a1) {a2 : Int32} (hi2 : vp_in (x3 + 2) Ln ∧ xs (x3 + 2).toNatClampNeg = a2) {a3 : Int32} (hi3 : vp_in (x3 + 3) Ln ∧ xs (x3 + 3).toNatClampNeg = a3) {a4 : Int32} (hi4 : vp_in (x3 + 4) Ln ∧ xs (x3 + 4).toNatClampNeg = a4) {a5 : Int32} (hi5 : vp_in (x3 + 5) Ln ∧ xs (x3 + 5).toNatClampNeg = a5) (hs : S_falseMany Rl Rm) (hR : Rl hc hm) (kk : ∀ hc hm, Rm hc hm → lB C γC γM hc hm 1539 [some (.ref b), some (.ref (γC.2.2.2 0)), some (.ref (γM.2.2.2 0)), some (.int x3)] []) : lB C γC γM hc hm 682 [some (.ref b), some (.ref (γC.2.2.2 0)), some (.ref (γM.2.2.2 0)), some (.int x3)] [] := by
  obtain ⟨r, hc1, hm1, e1, e2, e3⟩ := hs hc hm hR
  refine lB_aload_n hF dL_law_682 rfl ?_
  refine lB_callC hF dL_law_683 (t_X6_falseMany e1) cw_L_73 rfl rfl rfl rfl ?_
  refine lB_aload_n hF dL_law_686 rfl ?_
  refine lB_callM hF dL_law_687 (t_X7_falseMany e2) cw_L_77 rfl rfl rfl rfl ?_
  exact lB_eq (tgt := 1539) hF dL_law_690 rfl (kk _ _ e3)
set_option maxRecDepth 20000 in
set_option maxHeartbeats 2000000 in
theorem law_c15 {C : lCx} {γC γM : xG} {l : Launch} {Ln b : Nat} {xs : Nat → Int32} {hc hm : xH} {x3 : Int32} {Rl Rm : xH → xH → Prop} (hF : lF C γC γM l Ln xs b) {a1 : Int32} (hi1 : vp_in (x3 + 1) Ln ∧ xs (x3 + 1).toNatClampNeg = a1) {a2 : Int32} (hi2 : vp_in (x3 + 2) Ln ∧ xs (x3 + 2).toNatClampNeg = a2) {a3 : Int32} (hi3 : vp_in (x3 + 3) Ln ∧ xs (x3 + 3).toNatClampNeg = a3) {a4 : Int32} (hi4 : vp_in (x3 + 4) Ln ∧ xs (x3 + 4).toNatClampNeg = a4) {a5 : Int32} (hi5 : vp_in (x3 + 5) Ln ∧ xs (x3 + 5).toNatClampNeg = a5) (hs : S_fill Rl Rm) (hR : Rl hc hm) (kk : ∀ hc hm, Rm hc hm → lB C γC γM hc hm 1539 [some (.ref b), some (.ref (γC.2.2.2 0)), some (.ref (γM.2.2.2 0)), some (.int x3)] []) : lB C γC γM hc hm 695 [some (.ref b), some (.ref (γC.2.2.2 0)), some (.ref (γM.2.2.2 0)), some (.int x3)] [] := by
  obtain ⟨r, hc1, hm1, e1, e2, e3⟩ := hs a1 a2 hc hm hR
  refine lB_aload_n hF dL_law_695 rfl ?_
  refine lB_aload_n hF dL_law_696 rfl ?_
  refine lB_iload_n hF dL_law_697 rfl ?_
  refine lB_iconst hF dL_law_698 ki_1 ?_
  refine lB_iadd hF dL_law_699 ?_
  refine lB_sld hF dL_law_700 (hi1).1 (hi1).2 ?_
  refine lB_aload_n hF dL_law_701 rfl ?_
  refine lB_iload_n hF dL_law_702 rfl ?_
  refine lB_iconst hF dL_law_703 ki_2 ?_
  refine lB_iadd hF dL_law_704 ?_
  refine lB_sld hF dL_law_705 (hi2).1 (hi2).2 ?_
  refine lB_callC hF dL_law_706 (t_X6_fill e1) cw_L_78 rfl rfl rfl rfl ?_
  refine lB_aload_n hF dL_law_709 rfl ?_
  refine lB_aload_n hF dL_law_710 rfl ?_
  refine lB_iload_n hF dL_law_711 rfl ?_
  refine lB_iconst hF dL_law_712 ki_1 ?_
  refine lB_iadd hF dL_law_713 ?_
  refine lB_sld hF dL_law_714 (hi1).1 (hi1).2 ?_
  refine lB_aload_n hF dL_law_715 rfl ?_
  refine lB_iload_n hF dL_law_716 rfl ?_
  refine lB_iconst hF dL_law_717 ki_2 ?_
  refine lB_iadd hF dL_law_718 ?_
  refine lB_sld hF dL_law_719 (hi2).1 (hi2).2 ?_
  refine lB_callM hF dL_law_720 (t_X7_fill e2) cw_L_81 rfl rfl rfl rfl ?_
  exact lB_eq (tgt := 1539) hF dL_law_723 rfl (kk _ _ e3)
set_option maxRecDepth 20000 in
set_option maxHeartbeats 2000000 in
theorem law_c16 {C : lCx} {γC γM : xG} {l : Launch} {Ln b : Nat} {xs : Nat → Int32} {hc hm : xH} {x3 : Int32} {Rl Rm : xH → xH → Prop} (hF : lF C γC γM l Ln xs b) {a1 : Int32} (hi1 : vp_in (x3 + 1) Ln ∧ xs (x3 + 1).toNatClampNeg = a1) {a2 : Int32} (hi2 : vp_in (x3 + 2) Ln ∧ xs (x3 + 2).toNatClampNeg = a2) {a3 : Int32} (hi3 : vp_in (x3 + 3) Ln ∧ xs (x3 + 3).toNatClampNeg = a3) {a4 : Int32} (hi4 : vp_in (x3 + 4) Ln ∧ xs (x3 + 4).toNatClampNeg = a4) {a5 : Int32} (hi5 : vp_in (x3 + 5) Ln ∧ xs (x3 + 5).toNatClampNeg = a5) (hs : S_emptied Rl Rm) (hR : Rl hc hm) (kk : ∀ hc hm, Rm hc hm → lB C γC γM hc hm 1539 [some (.ref b), some (.ref (γC.2.2.2 0)), some (.ref (γM.2.2.2 0)), some (.int x3)] []) : lB C γC γM hc hm 728 [some (.ref b), some (.ref (γC.2.2.2 0)), some (.ref (γM.2.2.2 0)), some (.int x3)] [] := by
  obtain ⟨r, hc1, hm1, e1, e2, e3⟩ := hs a1 hc hm hR
  refine lB_aload_n hF dL_law_728 rfl ?_
  refine lB_aload_n hF dL_law_729 rfl ?_
  refine lB_iload_n hF dL_law_730 rfl ?_
  refine lB_iconst hF dL_law_731 ki_1 ?_
  refine lB_iadd hF dL_law_732 ?_
  refine lB_sld hF dL_law_733 (hi1).1 (hi1).2 ?_
  refine lB_callC hF dL_law_734 (t_X6_emptied e1) cw_L_82 rfl rfl rfl rfl ?_
  refine lB_aload_n hF dL_law_737 rfl ?_
  refine lB_aload_n hF dL_law_738 rfl ?_
  refine lB_iload_n hF dL_law_739 rfl ?_
  refine lB_iconst hF dL_law_740 ki_1 ?_
  refine lB_iadd hF dL_law_741 ?_
  refine lB_sld hF dL_law_742 (hi1).1 (hi1).2 ?_
  refine lB_callM hF dL_law_743 (t_X7_emptied e2) cw_L_85 rfl rfl rfl rfl ?_
  exact lB_eq (tgt := 1539) hF dL_law_746 rfl (kk _ _ e3)
set_option maxRecDepth 20000 in
set_option maxHeartbeats 2000000 in
theorem law_c17 {C : lCx} {γC γM : xG} {l : Launch} {Ln b : Nat} {xs : Nat → Int32} {hc hm : xH} {x3 : Int32} {Rl Rm : xH → xH → Prop} (hF : lF C γC γM l Ln xs b) {a1 : Int32} (hi1 : vp_in (x3 + 1) Ln ∧ xs (x3 + 1).toNatClampNeg = a1) {a2 : Int32} (hi2 : vp_in (x3 + 2) Ln ∧ xs (x3 + 2).toNatClampNeg = a2) {a3 : Int32} (hi3 : vp_in (x3 + 3) Ln ∧ xs (x3 + 3).toNatClampNeg = a3) {a4 : Int32} (hi4 : vp_in (x3 + 4) Ln ∧ xs (x3 + 4).toNatClampNeg = a4) {a5 : Int32} (hi5 : vp_in (x3 + 5) Ln ∧ xs (x3 + 5).toNatClampNeg = a5) (hs : S_behind Rl Rm) (hR : Rl hc hm) (kk : ∀ hc hm, Rm hc hm → lB C γC γM hc hm 1539 [some (.ref b), some (.ref (γC.2.2.2 0)), some (.ref (γM.2.2.2 0)), some (.int x3)] []) : lB C γC γM hc hm 751 [some (.ref b), some (.ref (γC.2.2.2 0)), some (.ref (γM.2.2.2 0)), some (.int x3)] [] := by
  obtain ⟨r, hc1, hm1, e1, e2, e3⟩ := hs a1 a2 a3 hc hm hR
  refine lB_aload_n hF dL_law_751 rfl ?_
  refine lB_aload_n hF dL_law_752 rfl ?_
  refine lB_iload_n hF dL_law_753 rfl ?_
  refine lB_iconst hF dL_law_754 ki_1 ?_
  refine lB_iadd hF dL_law_755 ?_
  refine lB_sld hF dL_law_756 (hi1).1 (hi1).2 ?_
  refine lB_aload_n hF dL_law_757 rfl ?_
  refine lB_iload_n hF dL_law_758 rfl ?_
  refine lB_iconst hF dL_law_759 ki_2 ?_
  refine lB_iadd hF dL_law_760 ?_
  refine lB_sld hF dL_law_761 (hi2).1 (hi2).2 ?_
  refine lB_aload_n hF dL_law_762 rfl ?_
  refine lB_iload_n hF dL_law_763 rfl ?_
  refine lB_iconst hF dL_law_764 ki_3 ?_
  refine lB_iadd hF dL_law_765 ?_
  refine lB_sld hF dL_law_766 (hi3).1 (hi3).2 ?_
  refine lB_callC hF dL_law_767 (t_X6_behind e1) cw_L_86 rfl rfl rfl rfl ?_
  refine lB_aload_n hF dL_law_770 rfl ?_
  refine lB_aload_n hF dL_law_771 rfl ?_
  refine lB_iload_n hF dL_law_772 rfl ?_
  refine lB_iconst hF dL_law_773 ki_1 ?_
  refine lB_iadd hF dL_law_774 ?_
  refine lB_sld hF dL_law_775 (hi1).1 (hi1).2 ?_
  refine lB_aload_n hF dL_law_776 rfl ?_
  refine lB_iload_n hF dL_law_777 rfl ?_
  refine lB_iconst hF dL_law_778 ki_2 ?_
  refine lB_iadd hF dL_law_779 ?_
  refine lB_sld hF dL_law_780 (hi2).1 (hi2).2 ?_
  refine lB_aload_n hF dL_law_781 rfl ?_
  refine lB_iload_n hF dL_law_782 rfl ?_
  refine lB_iconst hF dL_law_783 ki_3 ?_
  refine lB_iadd hF dL_law_784 ?_
  refine lB_sld hF dL_law_785 (hi3).1 (hi3).2 ?_
  refine lB_callM hF dL_law_786 (t_X7_behind e2) cw_L_89 rfl rfl rfl rfl ?_
  exact lB_eq (tgt := 1539) hF dL_law_789 rfl (kk _ _ e3)
set_option maxRecDepth 20000 in
set_option maxHeartbeats 2000000 in
theorem law_c18 {C : lCx} {γC γM : xG} {l : Launch} {Ln b : Nat} {xs : Nat → Int32} {hc hm : xH} {x3 : Int32} {Rl Rm : xH → xH → Prop} (hF : lF C γC γM l Ln xs b) {a1 : Int32} (hi1 : vp_in (x3 + 1) Ln ∧ xs (x3 + 1).toNatClampNeg = a1) {a2 : Int32} (hi2 : vp_in (x3 + 2) Ln ∧ xs (x3 + 2).toNatClampNeg = a2) {a3 : Int32} (hi3 : vp_in (x3 + 3) Ln ∧ xs (x3 + 3).toNatClampNeg = a3) {a4 : Int32} (hi4 : vp_in (x3 + 4) Ln ∧ xs (x3 + 4).toNatClampNeg = a4) {a5 : Int32} (hi5 : vp_in (x3 + 5) Ln ∧ xs (x3 + 5).toNatClampNeg = a5) (hs : S_richest Rl Rm) (hR : Rl hc hm) (kk : ∀ hc hm, Rm hc hm → lB C γC γM hc hm 1539 [some (.ref b), some (.ref (γC.2.2.2 0)), some (.ref (γM.2.2.2 0)), some (.int x3)] []) : lB C γC γM hc hm 794 [some (.ref b), some (.ref (γC.2.2.2 0)), some (.ref (γM.2.2.2 0)), some (.int x3)] [] := by
  obtain ⟨r, hc1, hm1, e1, e2, e3⟩ := hs a1 a2 hc hm hR
  refine lB_aload_n hF dL_law_794 rfl ?_
  refine lB_aload_n hF dL_law_795 rfl ?_
  refine lB_iload_n hF dL_law_796 rfl ?_
  refine lB_iconst hF dL_law_797 ki_1 ?_
  refine lB_iadd hF dL_law_798 ?_
  refine lB_sld hF dL_law_799 (hi1).1 (hi1).2 ?_
  refine lB_aload_n hF dL_law_800 rfl ?_
  refine lB_iload_n hF dL_law_801 rfl ?_
  refine lB_iconst hF dL_law_802 ki_2 ?_
  refine lB_iadd hF dL_law_803 ?_
  refine lB_sld hF dL_law_804 (hi2).1 (hi2).2 ?_
  refine lB_callC hF dL_law_805 (t_X6_richest e1) cw_L_90 rfl rfl rfl rfl ?_
  refine lB_aload_n hF dL_law_808 rfl ?_
  refine lB_aload_n hF dL_law_809 rfl ?_
  refine lB_iload_n hF dL_law_810 rfl ?_
  refine lB_iconst hF dL_law_811 ki_1 ?_
  refine lB_iadd hF dL_law_812 ?_
  refine lB_sld hF dL_law_813 (hi1).1 (hi1).2 ?_
  refine lB_aload_n hF dL_law_814 rfl ?_
  refine lB_iload_n hF dL_law_815 rfl ?_
  refine lB_iconst hF dL_law_816 ki_2 ?_
  refine lB_iadd hF dL_law_817 ?_
  refine lB_sld hF dL_law_818 (hi2).1 (hi2).2 ?_
  refine lB_callM hF dL_law_819 (t_X7_richest e2) cw_L_93 rfl rfl rfl rfl ?_
  exact lB_eq (tgt := 1539) hF dL_law_822 rfl (kk _ _ e3)
set_option maxRecDepth 20000 in
set_option maxHeartbeats 2000000 in
theorem law_c19 {C : lCx} {γC γM : xG} {l : Launch} {Ln b : Nat} {xs : Nat → Int32} {hc hm : xH} {x3 : Int32} {Rl Rm : xH → xH → Prop} (hF : lF C γC γM l Ln xs b) {a1 : Int32} (hi1 : vp_in (x3 + 1) Ln ∧ xs (x3 + 1).toNatClampNeg = a1) {a2 : Int32} (hi2 : vp_in (x3 + 2) Ln ∧ xs (x3 + 2).toNatClampNeg = a2) {a3 : Int32} (hi3 : vp_in (x3 + 3) Ln ∧ xs (x3 + 3).toNatClampNeg = a3) {a4 : Int32} (hi4 : vp_in (x3 + 4) Ln ∧ xs (x3 + 4).toNatClampNeg = a4) {a5 : Int32} (hi5 : vp_in (x3 + 5) Ln ∧ xs (x3 + 5).toNatClampNeg = a5) (hs : S_worn Rl Rm) (hR : Rl hc hm) (kk : ∀ hc hm, Rm hc hm → lB C γC γM hc hm 1539 [some (.ref b), some (.ref (γC.2.2.2 0)), some (.ref (γM.2.2.2 0)), some (.int x3)] []) : lB C γC γM hc hm 827 [some (.ref b), some (.ref (γC.2.2.2 0)), some (.ref (γM.2.2.2 0)), some (.int x3)] [] := by
  obtain ⟨r, hc1, hm1, e1, e2, e3⟩ := hs hc hm hR
  refine lB_aload_n hF dL_law_827 rfl ?_
  refine lB_callC hF dL_law_828 (t_X6_worn e1) cw_L_94 rfl rfl rfl rfl ?_
  refine lB_aload_n hF dL_law_831 rfl ?_
  refine lB_callM hF dL_law_832 (t_X7_worn e2) cw_L_97 rfl rfl rfl rfl ?_
  exact lB_eq (tgt := 1539) hF dL_law_835 rfl (kk _ _ e3)
set_option maxRecDepth 20000 in
set_option maxHeartbeats 2000000 in
theorem law_c20 {C : lCx} {γC γM : xG} {l : Launch} {Ln b : Nat} {xs : Nat → Int32} {hc hm : xH} {x3 : Int32} {Rl Rm : xH → xH → Prop} (hF : lF C γC γM l Ln xs b) {a1 : Int32} (hi1 : vp_in (x3 + 1) Ln ∧ xs (x3 + 1).toNatClampNeg = a1) {a2 : Int32} (hi2 : vp_in (x3 + 2) Ln ∧ xs (x3 + 2).toNatClampNeg = a2) {a3 : Int32} (hi3 : vp_in (x3 + 3) Ln ∧ xs (x3 + 3).toNatClampNeg = a3) {a4 : Int32} (hi4 : vp_in (x3 + 4) Ln ∧ xs (x3 + 4).toNatClampNeg = a4) {a5 : Int32} (hi5 : vp_in (x3 + 5) Ln ∧ xs (x3 + 5).toNatClampNeg = a5) (hs : S_dye Rl Rm) (hR : Rl hc hm) (kk : ∀ hc hm, Rm hc hm → lB C γC γM hc hm 1539 [some (.ref b), some (.ref (γC.2.2.2 0)), some (.ref (γM.2.2.2 0)), some (.int x3)] []) : lB C γC γM hc hm 840 [some (.ref b), some (.ref (γC.2.2.2 0)), some (.ref (γM.2.2.2 0)), some (.int x3)] [] := by
  obtain ⟨r, hc1, hm1, e1, e2, e3⟩ := hs a1 a2 a3 hc hm hR
  refine lB_aload_n hF dL_law_840 rfl ?_
  refine lB_aload_n hF dL_law_841 rfl ?_
  refine lB_iload_n hF dL_law_842 rfl ?_
  refine lB_iconst hF dL_law_843 ki_1 ?_
  refine lB_iadd hF dL_law_844 ?_
  refine lB_sld hF dL_law_845 (hi1).1 (hi1).2 ?_
  refine lB_aload_n hF dL_law_846 rfl ?_
  refine lB_iload_n hF dL_law_847 rfl ?_
  refine lB_iconst hF dL_law_848 ki_2 ?_
  refine lB_iadd hF dL_law_849 ?_
  refine lB_sld hF dL_law_850 (hi2).1 (hi2).2 ?_
  refine lB_aload_n hF dL_law_851 rfl ?_
  refine lB_iload_n hF dL_law_852 rfl ?_
  refine lB_iconst hF dL_law_853 ki_3 ?_
  refine lB_iadd hF dL_law_854 ?_
  refine lB_sld hF dL_law_855 (hi3).1 (hi3).2 ?_
  refine lB_callC hF dL_law_856 (t_X6_dye e1) cw_L_98 rfl rfl rfl rfl ?_
  refine lB_aload_n hF dL_law_859 rfl ?_
  refine lB_aload_n hF dL_law_860 rfl ?_
  refine lB_iload_n hF dL_law_861 rfl ?_
  refine lB_iconst hF dL_law_862 ki_1 ?_
  refine lB_iadd hF dL_law_863 ?_
  refine lB_sld hF dL_law_864 (hi1).1 (hi1).2 ?_
  refine lB_aload_n hF dL_law_865 rfl ?_
  refine lB_iload_n hF dL_law_866 rfl ?_
  refine lB_iconst hF dL_law_867 ki_2 ?_
  refine lB_iadd hF dL_law_868 ?_
  refine lB_sld hF dL_law_869 (hi2).1 (hi2).2 ?_
  refine lB_aload_n hF dL_law_870 rfl ?_
  refine lB_iload_n hF dL_law_871 rfl ?_
  refine lB_iconst hF dL_law_872 ki_3 ?_
  refine lB_iadd hF dL_law_873 ?_
  refine lB_sld hF dL_law_874 (hi3).1 (hi3).2 ?_
  refine lB_callM hF dL_law_875 (t_X7_dye e2) cw_L_101 rfl rfl rfl rfl ?_
  exact lB_eq (tgt := 1539) hF dL_law_878 rfl (kk _ _ e3)
set_option maxRecDepth 20000 in
set_option maxHeartbeats 2000000 in
theorem law_c21 {C : lCx} {γC γM : xG} {l : Launch} {Ln b : Nat} {xs : Nat → Int32} {hc hm : xH} {x3 : Int32} {Rl Rm : xH → xH → Prop} (hF : lF C γC γM l Ln xs b) {a1 : Int32} (hi1 : vp_in (x3 + 1) Ln ∧ xs (x3 + 1).toNatClampNeg = a1) {a2 : Int32} (hi2 : vp_in (x3 + 2) Ln ∧ xs (x3 + 2).toNatClampNeg = a2) {a3 : Int32} (hi3 : vp_in (x3 + 3) Ln ∧ xs (x3 + 3).toNatClampNeg = a3) {a4 : Int32} (hi4 : vp_in (x3 + 4) Ln ∧ xs (x3 + 4).toNatClampNeg = a4) {a5 : Int32} (hi5 : vp_in (x3 + 5) Ln ∧ xs (x3 + 5).toNatClampNeg = a5) (hs : S_mends Rl Rm) (hR : Rl hc hm) (kk : ∀ hc hm, Rm hc hm → lB C γC γM hc hm 1539 [some (.ref b), some (.ref (γC.2.2.2 0)), some (.ref (γM.2.2.2 0)), some (.int x3)] []) : lB C γC γM hc hm 883 [some (.ref b), some (.ref (γC.2.2.2 0)), some (.ref (γM.2.2.2 0)), some (.int x3)] [] := by
  obtain ⟨r, hc1, hm1, e1, e2, e3⟩ := hs a1 a2 hc hm hR
  refine lB_aload_n hF dL_law_883 rfl ?_
  refine lB_aload_n hF dL_law_884 rfl ?_
  refine lB_iload_n hF dL_law_885 rfl ?_
  refine lB_iconst hF dL_law_886 ki_1 ?_
  refine lB_iadd hF dL_law_887 ?_
  refine lB_sld hF dL_law_888 (hi1).1 (hi1).2 ?_
  refine lB_aload_n hF dL_law_889 rfl ?_
  refine lB_iload_n hF dL_law_890 rfl ?_
  refine lB_iconst hF dL_law_891 ki_2 ?_
  refine lB_iadd hF dL_law_892 ?_
  refine lB_sld hF dL_law_893 (hi2).1 (hi2).2 ?_
  refine lB_callC hF dL_law_894 (t_X6_mends e1) cw_L_102 rfl rfl rfl rfl ?_
  refine lB_aload_n hF dL_law_897 rfl ?_
  refine lB_aload_n hF dL_law_898 rfl ?_
  refine lB_iload_n hF dL_law_899 rfl ?_
  refine lB_iconst hF dL_law_900 ki_1 ?_
  refine lB_iadd hF dL_law_901 ?_
  refine lB_sld hF dL_law_902 (hi1).1 (hi1).2 ?_
  refine lB_aload_n hF dL_law_903 rfl ?_
  refine lB_iload_n hF dL_law_904 rfl ?_
  refine lB_iconst hF dL_law_905 ki_2 ?_
  refine lB_iadd hF dL_law_906 ?_
  refine lB_sld hF dL_law_907 (hi2).1 (hi2).2 ?_
  refine lB_callM hF dL_law_908 (t_X7_mends e2) cw_L_105 rfl rfl rfl rfl ?_
  exact lB_eq (tgt := 1539) hF dL_law_911 rfl (kk _ _ e3)
set_option maxRecDepth 20000 in
set_option maxHeartbeats 2000000 in
theorem law_c22 {C : lCx} {γC γM : xG} {l : Launch} {Ln b : Nat} {xs : Nat → Int32} {hc hm : xH} {x3 : Int32} {Rl Rm : xH → xH → Prop} (hF : lF C γC γM l Ln xs b) {a1 : Int32} (hi1 : vp_in (x3 + 1) Ln ∧ xs (x3 + 1).toNatClampNeg = a1) {a2 : Int32} (hi2 : vp_in (x3 + 2) Ln ∧ xs (x3 + 2).toNatClampNeg = a2) {a3 : Int32} (hi3 : vp_in (x3 + 3) Ln ∧ xs (x3 + 3).toNatClampNeg = a3) {a4 : Int32} (hi4 : vp_in (x3 + 4) Ln ∧ xs (x3 + 4).toNatClampNeg = a4) {a5 : Int32} (hi5 : vp_in (x3 + 5) Ln ∧ xs (x3 + 5).toNatClampNeg = a5) (hs : S_toldBy Rl Rm) (hR : Rl hc hm) (kk : ∀ hc hm, Rm hc hm → lB C γC γM hc hm 1539 [some (.ref b), some (.ref (γC.2.2.2 0)), some (.ref (γM.2.2.2 0)), some (.int x3)] []) : lB C γC γM hc hm 916 [some (.ref b), some (.ref (γC.2.2.2 0)), some (.ref (γM.2.2.2 0)), some (.int x3)] [] := by
  obtain ⟨r, hc1, hm1, e1, e2, e3⟩ := hs a1 a2 hc hm hR
  refine lB_aload_n hF dL_law_916 rfl ?_
  refine lB_aload_n hF dL_law_917 rfl ?_
  refine lB_iload_n hF dL_law_918 rfl ?_
  refine lB_iconst hF dL_law_919 ki_1 ?_
  refine lB_iadd hF dL_law_920 ?_
  refine lB_sld hF dL_law_921 (hi1).1 (hi1).2 ?_
  refine lB_aload_n hF dL_law_922 rfl ?_
  refine lB_iload_n hF dL_law_923 rfl ?_
  refine lB_iconst hF dL_law_924 ki_2 ?_
  refine lB_iadd hF dL_law_925 ?_
  refine lB_sld hF dL_law_926 (hi2).1 (hi2).2 ?_
  refine lB_callC hF dL_law_927 (t_X6_toldBy e1) cw_L_106 rfl rfl rfl rfl ?_
  refine lB_aload_n hF dL_law_930 rfl ?_
  refine lB_aload_n hF dL_law_931 rfl ?_
  refine lB_iload_n hF dL_law_932 rfl ?_
  refine lB_iconst hF dL_law_933 ki_1 ?_
  refine lB_iadd hF dL_law_934 ?_
  refine lB_sld hF dL_law_935 (hi1).1 (hi1).2 ?_
  refine lB_aload_n hF dL_law_936 rfl ?_
  refine lB_iload_n hF dL_law_937 rfl ?_
  refine lB_iconst hF dL_law_938 ki_2 ?_
  refine lB_iadd hF dL_law_939 ?_
  refine lB_sld hF dL_law_940 (hi2).1 (hi2).2 ?_
  refine lB_callM hF dL_law_941 (t_X7_toldBy e2) cw_L_109 rfl rfl rfl rfl ?_
  exact lB_eq (tgt := 1539) hF dL_law_944 rfl (kk _ _ e3)
set_option maxRecDepth 20000 in
set_option maxHeartbeats 2000000 in
theorem law_c23 {C : lCx} {γC γM : xG} {l : Launch} {Ln b : Nat} {xs : Nat → Int32} {hc hm : xH} {x3 : Int32} {Rl Rm : xH → xH → Prop} (hF : lF C γC γM l Ln xs b) {a1 : Int32} (hi1 : vp_in (x3 + 1) Ln ∧ xs (x3 + 1).toNatClampNeg = a1) {a2 : Int32} (hi2 : vp_in (x3 + 2) Ln ∧ xs (x3 + 2).toNatClampNeg = a2) {a3 : Int32} (hi3 : vp_in (x3 + 3) Ln ∧ xs (x3 + 3).toNatClampNeg = a3) {a4 : Int32} (hi4 : vp_in (x3 + 4) Ln ∧ xs (x3 + 4).toNatClampNeg = a4) {a5 : Int32} (hi5 : vp_in (x3 + 5) Ln ∧ xs (x3 + 5).toNatClampNeg = a5) (hs : S_fine Rl Rm) (hR : Rl hc hm) (kk : ∀ hc hm, Rm hc hm → lB C γC γM hc hm 1539 [some (.ref b), some (.ref (γC.2.2.2 0)), some (.ref (γM.2.2.2 0)), some (.int x3)] []) : lB C γC γM hc hm 949 [some (.ref b), some (.ref (γC.2.2.2 0)), some (.ref (γM.2.2.2 0)), some (.int x3)] [] := by
  obtain ⟨r, hc1, hm1, e1, e2, e3⟩ := hs a1 hc hm hR
  refine lB_aload_n hF dL_law_949 rfl ?_
  refine lB_aload_n hF dL_law_950 rfl ?_
  refine lB_iload_n hF dL_law_951 rfl ?_
  refine lB_iconst hF dL_law_952 ki_1 ?_
  refine lB_iadd hF dL_law_953 ?_
  refine lB_sld hF dL_law_954 (hi1).1 (hi1).2 ?_
  refine lB_callC hF dL_law_955 (t_X6_fine e1) cw_L_110 rfl rfl rfl rfl ?_
  refine lB_aload_n hF dL_law_958 rfl ?_
  refine lB_aload_n hF dL_law_959 rfl ?_
  refine lB_iload_n hF dL_law_960 rfl ?_
  refine lB_iconst hF dL_law_961 ki_1 ?_
  refine lB_iadd hF dL_law_962 ?_
  refine lB_sld hF dL_law_963 (hi1).1 (hi1).2 ?_
  refine lB_callM hF dL_law_964 (t_X7_fine e2) cw_L_113 rfl rfl rfl rfl ?_
  exact lB_eq (tgt := 1539) hF dL_law_967 rfl (kk _ _ e3)
set_option maxRecDepth 20000 in
set_option maxHeartbeats 2000000 in
theorem law_c24 {C : lCx} {γC γM : xG} {l : Launch} {Ln b : Nat} {xs : Nat → Int32} {hc hm : xH} {x3 : Int32} {Rl Rm : xH → xH → Prop} (hF : lF C γC γM l Ln xs b) {a1 : Int32} (hi1 : vp_in (x3 + 1) Ln ∧ xs (x3 + 1).toNatClampNeg = a1) {a2 : Int32} (hi2 : vp_in (x3 + 2) Ln ∧ xs (x3 + 2).toNatClampNeg = a2) {a3 : Int32} (hi3 : vp_in (x3 + 3) Ln ∧ xs (x3 + 3).toNatClampNeg = a3) {a4 : Int32} (hi4 : vp_in (x3 + 4) Ln ∧ xs (x3 + 4).toNatClampNeg = a4) {a5 : Int32} (hi5 : vp_in (x3 + 5) Ln ∧ xs (x3 + 5).toNatClampNeg = a5) (hs : S_feed Rl Rm) (hR : Rl hc hm) (kk : ∀ hc hm, Rm hc hm → lB C γC γM hc hm 1539 [some (.ref b), some (.ref (γC.2.2.2 0)), some (.ref (γM.2.2.2 0)), some (.int x3)] []) : lB C γC γM hc hm 972 [some (.ref b), some (.ref (γC.2.2.2 0)), some (.ref (γM.2.2.2 0)), some (.int x3)] [] := by
  obtain ⟨r, hc1, hm1, e1, e2, e3⟩ := hs a1 a2 a3 hc hm hR
  refine lB_aload_n hF dL_law_972 rfl ?_
  refine lB_aload_n hF dL_law_973 rfl ?_
  refine lB_iload_n hF dL_law_974 rfl ?_
  refine lB_iconst hF dL_law_975 ki_1 ?_
  refine lB_iadd hF dL_law_976 ?_
  refine lB_sld hF dL_law_977 (hi1).1 (hi1).2 ?_
  refine lB_aload_n hF dL_law_978 rfl ?_
  refine lB_iload_n hF dL_law_979 rfl ?_
  refine lB_iconst hF dL_law_980 ki_2 ?_
  refine lB_iadd hF dL_law_981 ?_
  refine lB_sld hF dL_law_982 (hi2).1 (hi2).2 ?_
  refine lB_aload_n hF dL_law_983 rfl ?_
  refine lB_iload_n hF dL_law_984 rfl ?_
  refine lB_iconst hF dL_law_985 ki_3 ?_
  refine lB_iadd hF dL_law_986 ?_
  refine lB_sld hF dL_law_987 (hi3).1 (hi3).2 ?_
  refine lB_callC hF dL_law_988 (t_X6_feed e1) cw_L_114 rfl rfl rfl rfl ?_
  refine lB_aload_n hF dL_law_991 rfl ?_
  refine lB_aload_n hF dL_law_992 rfl ?_
  refine lB_iload_n hF dL_law_993 rfl ?_
  refine lB_iconst hF dL_law_994 ki_1 ?_
  refine lB_iadd hF dL_law_995 ?_
  refine lB_sld hF dL_law_996 (hi1).1 (hi1).2 ?_
  refine lB_aload_n hF dL_law_997 rfl ?_
  refine lB_iload_n hF dL_law_998 rfl ?_
  refine lB_iconst hF dL_law_999 ki_2 ?_
  refine lB_iadd hF dL_law_1000 ?_
  refine lB_sld hF dL_law_1001 (hi2).1 (hi2).2 ?_
  refine lB_aload_n hF dL_law_1002 rfl ?_
  refine lB_iload_n hF dL_law_1003 rfl ?_
  refine lB_iconst hF dL_law_1004 ki_3 ?_
  refine lB_iadd hF dL_law_1005 ?_
  refine lB_sld hF dL_law_1006 (hi3).1 (hi3).2 ?_
  refine lB_callM hF dL_law_1007 (t_X7_feed e2) cw_L_117 rfl rfl rfl rfl ?_
  exact lB_eq (tgt := 1539) hF dL_law_1010 rfl (kk _ _ e3)
set_option maxRecDepth 20000 in
set_option maxHeartbeats 2000000 in
theorem law_c25 {C : lCx} {γC γM : xG} {l : Launch} {Ln b : Nat} {xs : Nat → Int32} {hc hm : xH} {x3 : Int32} {Rl Rm : xH → xH → Prop} (hF : lF C γC γM l Ln xs b) {a1 : Int32} (hi1 : vp_in (x3 + 1) Ln ∧ xs (x3 + 1).toNatClampNeg = a1) {a2 : Int32} (hi2 : vp_in (x3 + 2) Ln ∧ xs (x3 + 2).toNatClampNeg = a2) {a3 : Int32} (hi3 : vp_in (x3 + 3) Ln ∧ xs (x3 + 3).toNatClampNeg = a3) {a4 : Int32} (hi4 : vp_in (x3 + 4) Ln ∧ xs (x3 + 4).toNatClampNeg = a4) {a5 : Int32} (hi5 : vp_in (x3 + 5) Ln ∧ xs (x3 + 5).toNatClampNeg = a5) (hs : S_trim Rl Rm) (hR : Rl hc hm) (kk : ∀ hc hm, Rm hc hm → lB C γC γM hc hm 1539 [some (.ref b), some (.ref (γC.2.2.2 0)), some (.ref (γM.2.2.2 0)), some (.int x3)] []) : lB C γC γM hc hm 1015 [some (.ref b), some (.ref (γC.2.2.2 0)), some (.ref (γM.2.2.2 0)), some (.int x3)] [] := by
  obtain ⟨r, hc1, hm1, e1, e2, e3⟩ := hs a1 hc hm hR
  refine lB_aload_n hF dL_law_1015 rfl ?_
  refine lB_aload_n hF dL_law_1016 rfl ?_
  refine lB_iload_n hF dL_law_1017 rfl ?_
  refine lB_iconst hF dL_law_1018 ki_1 ?_
  refine lB_iadd hF dL_law_1019 ?_
  refine lB_sld hF dL_law_1020 (hi1).1 (hi1).2 ?_
  refine lB_callC hF dL_law_1021 (t_X6_trim e1) cw_L_118 rfl rfl rfl rfl ?_
  refine lB_aload_n hF dL_law_1024 rfl ?_
  refine lB_aload_n hF dL_law_1025 rfl ?_
  refine lB_iload_n hF dL_law_1026 rfl ?_
  refine lB_iconst hF dL_law_1027 ki_1 ?_
  refine lB_iadd hF dL_law_1028 ?_
  refine lB_sld hF dL_law_1029 (hi1).1 (hi1).2 ?_
  refine lB_callM hF dL_law_1030 (t_X7_trim e2) cw_L_121 rfl rfl rfl rfl ?_
  exact lB_eq (tgt := 1539) hF dL_law_1033 rfl (kk _ _ e3)
set_option maxRecDepth 20000 in
set_option maxHeartbeats 2000000 in
theorem law_c26 {C : lCx} {γC γM : xG} {l : Launch} {Ln b : Nat} {xs : Nat → Int32} {hc hm : xH} {x3 : Int32} {Rl Rm : xH → xH → Prop} (hF : lF C γC γM l Ln xs b) {a1 : Int32} (hi1 : vp_in (x3 + 1) Ln ∧ xs (x3 + 1).toNatClampNeg = a1) {a2 : Int32} (hi2 : vp_in (x3 + 2) Ln ∧ xs (x3 + 2).toNatClampNeg = a2) {a3 : Int32} (hi3 : vp_in (x3 + 3) Ln ∧ xs (x3 + 3).toNatClampNeg = a3) {a4 : Int32} (hi4 : vp_in (x3 + 4) Ln ∧ xs (x3 + 4).toNatClampNeg = a4) {a5 : Int32} (hi5 : vp_in (x3 + 5) Ln ∧ xs (x3 + 5).toNatClampNeg = a5) (hs : S_text Rl Rm) (hR : Rl hc hm) (kk : ∀ hc hm, Rm hc hm → lB C γC γM hc hm 1539 [some (.ref b), some (.ref (γC.2.2.2 0)), some (.ref (γM.2.2.2 0)), some (.int x3)] []) : lB C γC γM hc hm 1038 [some (.ref b), some (.ref (γC.2.2.2 0)), some (.ref (γM.2.2.2 0)), some (.int x3)] [] := by
  obtain ⟨r, hc1, hm1, e1, e2, e3⟩ := hs hc hm hR
  refine lB_aload_n hF dL_law_1038 rfl ?_
  refine lB_callC hF dL_law_1039 (t_X6_text e1) cw_L_122 rfl rfl rfl rfl ?_
  refine lB_aload_n hF dL_law_1042 rfl ?_
  refine lB_callM hF dL_law_1043 (t_X7_text e2) cw_L_125 rfl rfl rfl rfl ?_
  exact lB_eq (tgt := 1539) hF dL_law_1046 rfl (kk _ _ e3)
set_option maxRecDepth 20000 in
set_option maxHeartbeats 2000000 in
theorem law_c27 {C : lCx} {γC γM : xG} {l : Launch} {Ln b : Nat} {xs : Nat → Int32} {hc hm : xH} {x3 : Int32} {Rl Rm : xH → xH → Prop} (hF : lF C γC γM l Ln xs b) {a1 : Int32} (hi1 : vp_in (x3 + 1) Ln ∧ xs (x3 + 1).toNatClampNeg = a1) {a2 : Int32} (hi2 : vp_in (x3 + 2) Ln ∧ xs (x3 + 2).toNatClampNeg = a2) {a3 : Int32} (hi3 : vp_in (x3 + 3) Ln ∧ xs (x3 + 3).toNatClampNeg = a3) {a4 : Int32} (hi4 : vp_in (x3 + 4) Ln ∧ xs (x3 + 4).toNatClampNeg = a4) {a5 : Int32} (hi5 : vp_in (x3 + 5) Ln ∧ xs (x3 + 5).toNatClampNeg = a5) (hs : S_textTold Rl Rm) (hR : Rl hc hm) (kk : ∀ hc hm, Rm hc hm → lB C γC γM hc hm 1539 [some (.ref b), some (.ref (γC.2.2.2 0)), some (.ref (γM.2.2.2 0)), some (.int x3)] []) : lB C γC γM hc hm 1051 [some (.ref b), some (.ref (γC.2.2.2 0)), some (.ref (γM.2.2.2 0)), some (.int x3)] [] := by
  obtain ⟨r, hc1, hm1, e1, e2, e3⟩ := hs a1 a2 hc hm hR
  refine lB_aload_n hF dL_law_1051 rfl ?_
  refine lB_aload_n hF dL_law_1052 rfl ?_
  refine lB_iload_n hF dL_law_1053 rfl ?_
  refine lB_iconst hF dL_law_1054 ki_1 ?_
  refine lB_iadd hF dL_law_1055 ?_
  refine lB_sld hF dL_law_1056 (hi1).1 (hi1).2 ?_
  refine lB_aload_n hF dL_law_1057 rfl ?_
  refine lB_iload_n hF dL_law_1058 rfl ?_
  refine lB_iconst hF dL_law_1059 ki_2 ?_
  refine lB_iadd hF dL_law_1060 ?_
  refine lB_sld hF dL_law_1061 (hi2).1 (hi2).2 ?_
  refine lB_callC hF dL_law_1062 (t_X6_textTold e1) cw_L_126 rfl rfl rfl rfl ?_
  refine lB_aload_n hF dL_law_1065 rfl ?_
  refine lB_aload_n hF dL_law_1066 rfl ?_
  refine lB_iload_n hF dL_law_1067 rfl ?_
  refine lB_iconst hF dL_law_1068 ki_1 ?_
  refine lB_iadd hF dL_law_1069 ?_
  refine lB_sld hF dL_law_1070 (hi1).1 (hi1).2 ?_
  refine lB_aload_n hF dL_law_1071 rfl ?_
  refine lB_iload_n hF dL_law_1072 rfl ?_
  refine lB_iconst hF dL_law_1073 ki_2 ?_
  refine lB_iadd hF dL_law_1074 ?_
  refine lB_sld hF dL_law_1075 (hi2).1 (hi2).2 ?_
  refine lB_callM hF dL_law_1076 (t_X7_textTold e2) cw_L_129 rfl rfl rfl rfl ?_
  exact lB_eq (tgt := 1539) hF dL_law_1079 rfl (kk _ _ e3)
set_option maxRecDepth 20000 in
set_option maxHeartbeats 2000000 in
theorem law_c28 {C : lCx} {γC γM : xG} {l : Launch} {Ln b : Nat} {xs : Nat → Int32} {hc hm : xH} {x3 : Int32} {Rl Rm : xH → xH → Prop} (hF : lF C γC γM l Ln xs b) {a1 : Int32} (hi1 : vp_in (x3 + 1) Ln ∧ xs (x3 + 1).toNatClampNeg = a1) {a2 : Int32} (hi2 : vp_in (x3 + 2) Ln ∧ xs (x3 + 2).toNatClampNeg = a2) {a3 : Int32} (hi3 : vp_in (x3 + 3) Ln ∧ xs (x3 + 3).toNatClampNeg = a3) {a4 : Int32} (hi4 : vp_in (x3 + 4) Ln ∧ xs (x3 + 4).toNatClampNeg = a4) {a5 : Int32} (hi5 : vp_in (x3 + 5) Ln ∧ xs (x3 + 5).toNatClampNeg = a5) (hs : S_why Rl Rm) (hR : Rl hc hm) (kk : ∀ hc hm, Rm hc hm → lB C γC γM hc hm 1539 [some (.ref b), some (.ref (γC.2.2.2 0)), some (.ref (γM.2.2.2 0)), some (.int x3)] []) : lB C γC γM hc hm 1084 [some (.ref b), some (.ref (γC.2.2.2 0)), some (.ref (γM.2.2.2 0)), some (.int x3)] [] := by
  obtain ⟨r, hc1, hm1, e1, e2, e3⟩ := hs a1 hc hm hR
  refine lB_aload_n hF dL_law_1084 rfl ?_
  refine lB_aload_n hF dL_law_1085 rfl ?_
  refine lB_iload_n hF dL_law_1086 rfl ?_
  refine lB_iconst hF dL_law_1087 ki_1 ?_
  refine lB_iadd hF dL_law_1088 ?_
  refine lB_sld hF dL_law_1089 (hi1).1 (hi1).2 ?_
  refine lB_callC hF dL_law_1090 (t_X6_why e1) cw_L_130 rfl rfl rfl rfl ?_
  refine lB_aload_n hF dL_law_1093 rfl ?_
  refine lB_aload_n hF dL_law_1094 rfl ?_
  refine lB_iload_n hF dL_law_1095 rfl ?_
  refine lB_iconst hF dL_law_1096 ki_1 ?_
  refine lB_iadd hF dL_law_1097 ?_
  refine lB_sld hF dL_law_1098 (hi1).1 (hi1).2 ?_
  refine lB_callM hF dL_law_1099 (t_X7_why e2) cw_L_133 rfl rfl rfl rfl ?_
  exact lB_eq (tgt := 1539) hF dL_law_1102 rfl (kk _ _ e3)
set_option maxRecDepth 20000 in
set_option maxHeartbeats 2000000 in
theorem law_c29 {C : lCx} {γC γM : xG} {l : Launch} {Ln b : Nat} {xs : Nat → Int32} {hc hm : xH} {x3 : Int32} {Rl Rm : xH → xH → Prop} (hF : lF C γC γM l Ln xs b) {a1 : Int32} (hi1 : vp_in (x3 + 1) Ln ∧ xs (x3 + 1).toNatClampNeg = a1) {a2 : Int32} (hi2 : vp_in (x3 + 2) Ln ∧ xs (x3 + 2).toNatClampNeg = a2) {a3 : Int32} (hi3 : vp_in (x3 + 3) Ln ∧ xs (x3 + 3).toNatClampNeg = a3) {a4 : Int32} (hi4 : vp_in (x3 + 4) Ln ∧ xs (x3 + 4).toNatClampNeg = a4) {a5 : Int32} (hi5 : vp_in (x3 + 5) Ln ∧ xs (x3 + 5).toNatClampNeg = a5) (hs : S_sheet Rl Rm) (hR : Rl hc hm) (kk : ∀ hc hm, Rm hc hm → lB C γC γM hc hm 1539 [some (.ref b), some (.ref (γC.2.2.2 0)), some (.ref (γM.2.2.2 0)), some (.int x3)] []) : lB C γC γM hc hm 1107 [some (.ref b), some (.ref (γC.2.2.2 0)), some (.ref (γM.2.2.2 0)), some (.int x3)] [] := by
  obtain ⟨r, hc1, hm1, e1, e2, e3⟩ := hs a1 a2 a3 hc hm hR
  refine lB_aload_n hF dL_law_1107 rfl ?_
  refine lB_aload_n hF dL_law_1108 rfl ?_
  refine lB_iload_n hF dL_law_1109 rfl ?_
  refine lB_iconst hF dL_law_1110 ki_1 ?_
  refine lB_iadd hF dL_law_1111 ?_
  refine lB_sld hF dL_law_1112 (hi1).1 (hi1).2 ?_
  refine lB_aload_n hF dL_law_1113 rfl ?_
  refine lB_iload_n hF dL_law_1114 rfl ?_
  refine lB_iconst hF dL_law_1115 ki_2 ?_
  refine lB_iadd hF dL_law_1116 ?_
  refine lB_sld hF dL_law_1117 (hi2).1 (hi2).2 ?_
  refine lB_aload_n hF dL_law_1118 rfl ?_
  refine lB_iload_n hF dL_law_1119 rfl ?_
  refine lB_iconst hF dL_law_1120 ki_3 ?_
  refine lB_iadd hF dL_law_1121 ?_
  refine lB_sld hF dL_law_1122 (hi3).1 (hi3).2 ?_
  refine lB_callC hF dL_law_1123 (t_X6_sheet e1) cw_L_134 rfl rfl rfl rfl ?_
  refine lB_aload_n hF dL_law_1126 rfl ?_
  refine lB_aload_n hF dL_law_1127 rfl ?_
  refine lB_iload_n hF dL_law_1128 rfl ?_
  refine lB_iconst hF dL_law_1129 ki_1 ?_
  refine lB_iadd hF dL_law_1130 ?_
  refine lB_sld hF dL_law_1131 (hi1).1 (hi1).2 ?_
  refine lB_aload_n hF dL_law_1132 rfl ?_
  refine lB_iload_n hF dL_law_1133 rfl ?_
  refine lB_iconst hF dL_law_1134 ki_2 ?_
  refine lB_iadd hF dL_law_1135 ?_
  refine lB_sld hF dL_law_1136 (hi2).1 (hi2).2 ?_
  refine lB_aload_n hF dL_law_1137 rfl ?_
  refine lB_iload_n hF dL_law_1138 rfl ?_
  refine lB_iconst hF dL_law_1139 ki_3 ?_
  refine lB_iadd hF dL_law_1140 ?_
  refine lB_sld hF dL_law_1141 (hi3).1 (hi3).2 ?_
  refine lB_callM hF dL_law_1142 (t_X7_sheet e2) cw_L_137 rfl rfl rfl rfl ?_
  exact lB_eq (tgt := 1539) hF dL_law_1145 rfl (kk _ _ e3)
set_option maxRecDepth 20000 in
set_option maxHeartbeats 2000000 in
theorem law_c30 {C : lCx} {γC γM : xG} {l : Launch} {Ln b : Nat} {xs : Nat → Int32} {hc hm : xH} {x3 : Int32} {Rl Rm : xH → xH → Prop} (hF : lF C γC γM l Ln xs b) {a1 : Int32} (hi1 : vp_in (x3 + 1) Ln ∧ xs (x3 + 1).toNatClampNeg = a1) {a2 : Int32} (hi2 : vp_in (x3 + 2) Ln ∧ xs (x3 + 2).toNatClampNeg = a2) {a3 : Int32} (hi3 : vp_in (x3 + 3) Ln ∧ xs (x3 + 3).toNatClampNeg = a3) {a4 : Int32} (hi4 : vp_in (x3 + 4) Ln ∧ xs (x3 + 4).toNatClampNeg = a4) {a5 : Int32} (hi5 : vp_in (x3 + 5) Ln ∧ xs (x3 + 5).toNatClampNeg = a5) (hs : S_mark Rl Rm) (hR : Rl hc hm) (kk : ∀ hc hm, Rm hc hm → lB C γC γM hc hm 1539 [some (.ref b), some (.ref (γC.2.2.2 0)), some (.ref (γM.2.2.2 0)), some (.int x3)] []) : lB C γC γM hc hm 1150 [some (.ref b), some (.ref (γC.2.2.2 0)), some (.ref (γM.2.2.2 0)), some (.int x3)] [] := by
  obtain ⟨r, hc1, hm1, e1, e2, e3⟩ := hs a1 a2 a3 hc hm hR
  refine lB_aload_n hF dL_law_1150 rfl ?_
  refine lB_aload_n hF dL_law_1151 rfl ?_
  refine lB_iload_n hF dL_law_1152 rfl ?_
  refine lB_iconst hF dL_law_1153 ki_1 ?_
  refine lB_iadd hF dL_law_1154 ?_
  refine lB_sld hF dL_law_1155 (hi1).1 (hi1).2 ?_
  refine lB_aload_n hF dL_law_1156 rfl ?_
  refine lB_iload_n hF dL_law_1157 rfl ?_
  refine lB_iconst hF dL_law_1158 ki_2 ?_
  refine lB_iadd hF dL_law_1159 ?_
  refine lB_sld hF dL_law_1160 (hi2).1 (hi2).2 ?_
  refine lB_aload_n hF dL_law_1161 rfl ?_
  refine lB_iload_n hF dL_law_1162 rfl ?_
  refine lB_iconst hF dL_law_1163 ki_3 ?_
  refine lB_iadd hF dL_law_1164 ?_
  refine lB_sld hF dL_law_1165 (hi3).1 (hi3).2 ?_
  refine lB_callC hF dL_law_1166 (t_X6_mark e1) cw_L_138 rfl rfl rfl rfl ?_
  refine lB_aload_n hF dL_law_1169 rfl ?_
  refine lB_aload_n hF dL_law_1170 rfl ?_
  refine lB_iload_n hF dL_law_1171 rfl ?_
  refine lB_iconst hF dL_law_1172 ki_1 ?_
  refine lB_iadd hF dL_law_1173 ?_
  refine lB_sld hF dL_law_1174 (hi1).1 (hi1).2 ?_
  refine lB_aload_n hF dL_law_1175 rfl ?_
  refine lB_iload_n hF dL_law_1176 rfl ?_
  refine lB_iconst hF dL_law_1177 ki_2 ?_
  refine lB_iadd hF dL_law_1178 ?_
  refine lB_sld hF dL_law_1179 (hi2).1 (hi2).2 ?_
  refine lB_aload_n hF dL_law_1180 rfl ?_
  refine lB_iload_n hF dL_law_1181 rfl ?_
  refine lB_iconst hF dL_law_1182 ki_3 ?_
  refine lB_iadd hF dL_law_1183 ?_
  refine lB_sld hF dL_law_1184 (hi3).1 (hi3).2 ?_
  refine lB_callM hF dL_law_1185 (t_X7_mark e2) cw_L_141 rfl rfl rfl rfl ?_
  exact lB_eq (tgt := 1539) hF dL_law_1188 rfl (kk _ _ e3)
set_option maxRecDepth 20000 in
set_option maxHeartbeats 2000000 in
theorem law_c31 {C : lCx} {γC γM : xG} {l : Launch} {Ln b : Nat} {xs : Nat → Int32} {hc hm : xH} {x3 : Int32} {Rl Rm : xH → xH → Prop} (hF : lF C γC γM l Ln xs b) {a1 : Int32} (hi1 : vp_in (x3 + 1) Ln ∧ xs (x3 + 1).toNatClampNeg = a1) {a2 : Int32} (hi2 : vp_in (x3 + 2) Ln ∧ xs (x3 + 2).toNatClampNeg = a2) {a3 : Int32} (hi3 : vp_in (x3 + 3) Ln ∧ xs (x3 + 3).toNatClampNeg = a3) {a4 : Int32} (hi4 : vp_in (x3 + 4) Ln ∧ xs (x3 + 4).toNatClampNeg = a4) {a5 : Int32} (hi5 : vp_in (x3 + 5) Ln ∧ xs (x3 + 5).toNatClampNeg = a5) (hs : S_pour Rl Rm) (hR : Rl hc hm) (kk : ∀ hc hm, Rm hc hm → lB C γC γM hc hm 1539 [some (.ref b), some (.ref (γC.2.2.2 0)), some (.ref (γM.2.2.2 0)), some (.int x3)] []) : lB C γC γM hc hm 1193 [some (.ref b), some (.ref (γC.2.2.2 0)), some (.ref (γM.2.2.2 0)), some (.int x3)] [] := by
  obtain ⟨r, hc1, hm1, e1, e2, e3⟩ := hs a1 hc hm hR
  refine lB_aload_n hF dL_law_1193 rfl ?_
  refine lB_aload_n hF dL_law_1194 rfl ?_
  refine lB_iload_n hF dL_law_1195 rfl ?_
  refine lB_iconst hF dL_law_1196 ki_1 ?_
  refine lB_iadd hF dL_law_1197 ?_
  refine lB_sld hF dL_law_1198 (hi1).1 (hi1).2 ?_
  refine lB_callC hF dL_law_1199 (t_X6_pour e1) cw_L_142 rfl rfl rfl rfl ?_
  refine lB_aload_n hF dL_law_1202 rfl ?_
  refine lB_aload_n hF dL_law_1203 rfl ?_
  refine lB_iload_n hF dL_law_1204 rfl ?_
  refine lB_iconst hF dL_law_1205 ki_1 ?_
  refine lB_iadd hF dL_law_1206 ?_
  refine lB_sld hF dL_law_1207 (hi1).1 (hi1).2 ?_
  refine lB_callM hF dL_law_1208 (t_X7_pour e2) cw_L_145 rfl rfl rfl rfl ?_
  exact lB_eq (tgt := 1539) hF dL_law_1211 rfl (kk _ _ e3)
set_option maxRecDepth 20000 in
set_option maxHeartbeats 2000000 in
theorem law_c32 {C : lCx} {γC γM : xG} {l : Launch} {Ln b : Nat} {xs : Nat → Int32} {hc hm : xH} {x3 : Int32} {Rl Rm : xH → xH → Prop} (hF : lF C γC γM l Ln xs b) {a1 : Int32} (hi1 : vp_in (x3 + 1) Ln ∧ xs (x3 + 1).toNatClampNeg = a1) {a2 : Int32} (hi2 : vp_in (x3 + 2) Ln ∧ xs (x3 + 2).toNatClampNeg = a2) {a3 : Int32} (hi3 : vp_in (x3 + 3) Ln ∧ xs (x3 + 3).toNatClampNeg = a3) {a4 : Int32} (hi4 : vp_in (x3 + 4) Ln ∧ xs (x3 + 4).toNatClampNeg = a4) {a5 : Int32} (hi5 : vp_in (x3 + 5) Ln ∧ xs (x3 + 5).toNatClampNeg = a5) (hs : S_reads Rl Rm) (hR : Rl hc hm) (kk : ∀ hc hm, Rm hc hm → lB C γC γM hc hm 1539 [some (.ref b), some (.ref (γC.2.2.2 0)), some (.ref (γM.2.2.2 0)), some (.int x3)] []) : lB C γC γM hc hm 1216 [some (.ref b), some (.ref (γC.2.2.2 0)), some (.ref (γM.2.2.2 0)), some (.int x3)] [] := by
  obtain ⟨r, hc1, hm1, e1, e2, e3⟩ := hs a1 hc hm hR
  refine lB_aload_n hF dL_law_1216 rfl ?_
  refine lB_aload_n hF dL_law_1217 rfl ?_
  refine lB_iload_n hF dL_law_1218 rfl ?_
  refine lB_iconst hF dL_law_1219 ki_1 ?_
  refine lB_iadd hF dL_law_1220 ?_
  refine lB_sld hF dL_law_1221 (hi1).1 (hi1).2 ?_
  refine lB_callC hF dL_law_1222 (t_X6_reads e1) cw_L_146 rfl rfl rfl rfl ?_
  refine lB_aload_n hF dL_law_1225 rfl ?_
  refine lB_aload_n hF dL_law_1226 rfl ?_
  refine lB_iload_n hF dL_law_1227 rfl ?_
  refine lB_iconst hF dL_law_1228 ki_1 ?_
  refine lB_iadd hF dL_law_1229 ?_
  refine lB_sld hF dL_law_1230 (hi1).1 (hi1).2 ?_
  refine lB_callM hF dL_law_1231 (t_X7_reads e2) cw_L_149 rfl rfl rfl rfl ?_
  exact lB_eq (tgt := 1539) hF dL_law_1234 rfl (kk _ _ e3)
set_option maxRecDepth 20000 in
set_option maxHeartbeats 2000000 in
theorem law_c33 {C : lCx} {γC γM : xG} {l : Launch} {Ln b : Nat} {xs : Nat → Int32} {hc hm : xH} {x3 : Int32} {Rl Rm : xH → xH → Prop} (hF : lF C γC γM l Ln xs b) {a1 : Int32} (hi1 : vp_in (x3 + 1) Ln ∧ xs (x3 + 1).toNatClampNeg = a1) {a2 : Int32} (hi2 : vp_in (x3 + 2) Ln ∧ xs (x3 + 2).toNatClampNeg = a2) {a3 : Int32} (hi3 : vp_in (x3 + 3) Ln ∧ xs (x3 + 3).toNatClampNeg = a3) {a4 : Int32} (hi4 : vp_in (x3 + 4) Ln ∧ xs (x3 + 4).toNatClampNeg = a4) {a5 : Int32} (hi5 : vp_in (x3 + 5) Ln ∧ xs (x3 + 5).toNatClampNeg = a5) (hs : S_copy Rl Rm) (hR : Rl hc hm) (kk : ∀ hc hm, Rm hc hm → lB C γC γM hc hm 1539 [some (.ref b), some (.ref (γC.2.2.2 0)), some (.ref (γM.2.2.2 0)), some (.int x3)] []) : lB C γC γM hc hm 1239 [some (.ref b), some (.ref (γC.2.2.2 0)), some (.ref (γM.2.2.2 0)), some (.int x3)] [] := by
  obtain ⟨r, hc1, hm1, e1, e2, e3⟩ := hs a1 a2 a3 a4 a5 hc hm hR
  refine lB_aload_n hF dL_law_1239 rfl ?_
  refine lB_aload_n hF dL_law_1240 rfl ?_
  refine lB_iload_n hF dL_law_1241 rfl ?_
  refine lB_iconst hF dL_law_1242 ki_1 ?_
  refine lB_iadd hF dL_law_1243 ?_
  refine lB_sld hF dL_law_1244 (hi1).1 (hi1).2 ?_
  refine lB_aload_n hF dL_law_1245 rfl ?_
  refine lB_iload_n hF dL_law_1246 rfl ?_
  refine lB_iconst hF dL_law_1247 ki_2 ?_
  refine lB_iadd hF dL_law_1248 ?_
  refine lB_sld hF dL_law_1249 (hi2).1 (hi2).2 ?_
  refine lB_aload_n hF dL_law_1250 rfl ?_
  refine lB_iload_n hF dL_law_1251 rfl ?_
  refine lB_iconst hF dL_law_1252 ki_3 ?_
  refine lB_iadd hF dL_law_1253 ?_
  refine lB_sld hF dL_law_1254 (hi3).1 (hi3).2 ?_
  refine lB_aload_n hF dL_law_1255 rfl ?_
  refine lB_iload_n hF dL_law_1256 rfl ?_
  refine lB_iconst hF dL_law_1257 ki_4 ?_
  refine lB_iadd hF dL_law_1258 ?_
  refine lB_sld hF dL_law_1259 (hi4).1 (hi4).2 ?_
  refine lB_aload_n hF dL_law_1260 rfl ?_
  refine lB_iload_n hF dL_law_1261 rfl ?_
  refine lB_iconst hF dL_law_1262 ki_5 ?_
  refine lB_iadd hF dL_law_1263 ?_
  refine lB_sld hF dL_law_1264 (hi5).1 (hi5).2 ?_
  refine lB_callC hF dL_law_1265 (t_X6_copy e1) cw_L_150 rfl rfl rfl rfl ?_
  refine lB_aload_n hF dL_law_1268 rfl ?_
  refine lB_aload_n hF dL_law_1269 rfl ?_
  refine lB_iload_n hF dL_law_1270 rfl ?_
  refine lB_iconst hF dL_law_1271 ki_1 ?_
  refine lB_iadd hF dL_law_1272 ?_
  refine lB_sld hF dL_law_1273 (hi1).1 (hi1).2 ?_
  refine lB_aload_n hF dL_law_1274 rfl ?_
  refine lB_iload_n hF dL_law_1275 rfl ?_
  refine lB_iconst hF dL_law_1276 ki_2 ?_
  refine lB_iadd hF dL_law_1277 ?_
  refine lB_sld hF dL_law_1278 (hi2).1 (hi2).2 ?_
  refine lB_aload_n hF dL_law_1279 rfl ?_
  refine lB_iload_n hF dL_law_1280 rfl ?_
  refine lB_iconst hF dL_law_1281 ki_3 ?_
  refine lB_iadd hF dL_law_1282 ?_
  refine lB_sld hF dL_law_1283 (hi3).1 (hi3).2 ?_
  refine lB_aload_n hF dL_law_1284 rfl ?_
  refine lB_iload_n hF dL_law_1285 rfl ?_
  refine lB_iconst hF dL_law_1286 ki_4 ?_
  refine lB_iadd hF dL_law_1287 ?_
  refine lB_sld hF dL_law_1288 (hi4).1 (hi4).2 ?_
  refine lB_aload_n hF dL_law_1289 rfl ?_
  refine lB_iload_n hF dL_law_1290 rfl ?_
  refine lB_iconst hF dL_law_1291 ki_5 ?_
  refine lB_iadd hF dL_law_1292 ?_
  refine lB_sld hF dL_law_1293 (hi5).1 (hi5).2 ?_
  refine lB_callM hF dL_law_1294 (t_X7_copy e2) cw_L_154 rfl rfl rfl rfl ?_
  exact lB_eq (tgt := 1539) hF dL_law_1297 rfl (kk _ _ e3)
set_option maxRecDepth 20000 in
set_option maxHeartbeats 2000000 in
theorem law_c34 {C : lCx} {γC γM : xG} {l : Launch} {Ln b : Nat} {xs : Nat → Int32} {hc hm : xH} {x3 : Int32} {Rl Rm : xH → xH → Prop} (hF : lF C γC γM l Ln xs b) {a1 : Int32} (hi1 : vp_in (x3 + 1) Ln ∧ xs (x3 + 1).toNatClampNeg = a1) {a2 : Int32} (hi2 : vp_in (x3 + 2) Ln ∧ xs (x3 + 2).toNatClampNeg = a2) {a3 : Int32} (hi3 : vp_in (x3 + 3) Ln ∧ xs (x3 + 3).toNatClampNeg = a3) {a4 : Int32} (hi4 : vp_in (x3 + 4) Ln ∧ xs (x3 + 4).toNatClampNeg = a4) {a5 : Int32} (hi5 : vp_in (x3 + 5) Ln ∧ xs (x3 + 5).toNatClampNeg = a5) (hs : S_lay Rl Rm) (hR : Rl hc hm) (kk : ∀ hc hm, Rm hc hm → lB C γC γM hc hm 1539 [some (.ref b), some (.ref (γC.2.2.2 0)), some (.ref (γM.2.2.2 0)), some (.int x3)] []) : lB C γC γM hc hm 1302 [some (.ref b), some (.ref (γC.2.2.2 0)), some (.ref (γM.2.2.2 0)), some (.int x3)] [] := by
  obtain ⟨r, hc1, hm1, e1, e2, e3⟩ := hs a1 a2 a3 hc hm hR
  refine lB_aload_n hF dL_law_1302 rfl ?_
  refine lB_aload_n hF dL_law_1303 rfl ?_
  refine lB_iload_n hF dL_law_1304 rfl ?_
  refine lB_iconst hF dL_law_1305 ki_1 ?_
  refine lB_iadd hF dL_law_1306 ?_
  refine lB_sld hF dL_law_1307 (hi1).1 (hi1).2 ?_
  refine lB_aload_n hF dL_law_1308 rfl ?_
  refine lB_iload_n hF dL_law_1309 rfl ?_
  refine lB_iconst hF dL_law_1310 ki_2 ?_
  refine lB_iadd hF dL_law_1311 ?_
  refine lB_sld hF dL_law_1312 (hi2).1 (hi2).2 ?_
  refine lB_aload_n hF dL_law_1313 rfl ?_
  refine lB_iload_n hF dL_law_1314 rfl ?_
  refine lB_iconst hF dL_law_1315 ki_3 ?_
  refine lB_iadd hF dL_law_1316 ?_
  refine lB_sld hF dL_law_1317 (hi3).1 (hi3).2 ?_
  refine lB_callC hF dL_law_1318 (t_X6_lay e1) cw_L_155 rfl rfl rfl rfl ?_
  refine lB_aload_n hF dL_law_1321 rfl ?_
  refine lB_aload_n hF dL_law_1322 rfl ?_
  refine lB_iload_n hF dL_law_1323 rfl ?_
  refine lB_iconst hF dL_law_1324 ki_1 ?_
  refine lB_iadd hF dL_law_1325 ?_
  refine lB_sld hF dL_law_1326 (hi1).1 (hi1).2 ?_
  refine lB_aload_n hF dL_law_1327 rfl ?_
  refine lB_iload_n hF dL_law_1328 rfl ?_
  refine lB_iconst hF dL_law_1329 ki_2 ?_
  refine lB_iadd hF dL_law_1330 ?_
  refine lB_sld hF dL_law_1331 (hi2).1 (hi2).2 ?_
  refine lB_aload_n hF dL_law_1332 rfl ?_
  refine lB_iload_n hF dL_law_1333 rfl ?_
  refine lB_iconst hF dL_law_1334 ki_3 ?_
  refine lB_iadd hF dL_law_1335 ?_
  refine lB_sld hF dL_law_1336 (hi3).1 (hi3).2 ?_
  refine lB_callM hF dL_law_1337 (t_X7_lay e2) cw_L_158 rfl rfl rfl rfl ?_
  exact lB_eq (tgt := 1539) hF dL_law_1340 rfl (kk _ _ e3)
set_option maxRecDepth 20000 in
set_option maxHeartbeats 2000000 in
theorem law_c35 {C : lCx} {γC γM : xG} {l : Launch} {Ln b : Nat} {xs : Nat → Int32} {hc hm : xH} {x3 : Int32} {Rl Rm : xH → xH → Prop} (hF : lF C γC γM l Ln xs b) {a1 : Int32} (hi1 : vp_in (x3 + 1) Ln ∧ xs (x3 + 1).toNatClampNeg = a1) {a2 : Int32} (hi2 : vp_in (x3 + 2) Ln ∧ xs (x3 + 2).toNatClampNeg = a2) {a3 : Int32} (hi3 : vp_in (x3 + 3) Ln ∧ xs (x3 + 3).toNatClampNeg = a3) {a4 : Int32} (hi4 : vp_in (x3 + 4) Ln ∧ xs (x3 + 4).toNatClampNeg = a4) {a5 : Int32} (hi5 : vp_in (x3 + 5) Ln ∧ xs (x3 + 5).toNatClampNeg = a5) (hs : S_ask Rl Rm) (hR : Rl hc hm) (kk : ∀ hc hm, Rm hc hm → lB C γC γM hc hm 1539 [some (.ref b), some (.ref (γC.2.2.2 0)), some (.ref (γM.2.2.2 0)), some (.int x3)] []) : lB C γC γM hc hm 1345 [some (.ref b), some (.ref (γC.2.2.2 0)), some (.ref (γM.2.2.2 0)), some (.int x3)] [] := by
  obtain ⟨r, hc1, hm1, e1, e2, e3⟩ := hs a1 a2 hc hm hR
  refine lB_aload_n hF dL_law_1345 rfl ?_
  refine lB_aload_n hF dL_law_1346 rfl ?_
  refine lB_iload_n hF dL_law_1347 rfl ?_
  refine lB_iconst hF dL_law_1348 ki_1 ?_
  refine lB_iadd hF dL_law_1349 ?_
  refine lB_sld hF dL_law_1350 (hi1).1 (hi1).2 ?_
  refine lB_aload_n hF dL_law_1351 rfl ?_
  refine lB_iload_n hF dL_law_1352 rfl ?_
  refine lB_iconst hF dL_law_1353 ki_2 ?_
  refine lB_iadd hF dL_law_1354 ?_
  refine lB_sld hF dL_law_1355 (hi2).1 (hi2).2 ?_
  refine lB_callC hF dL_law_1356 (t_X6_ask e1) cw_L_159 rfl rfl rfl rfl ?_
  refine lB_aload_n hF dL_law_1359 rfl ?_
  refine lB_aload_n hF dL_law_1360 rfl ?_
  refine lB_iload_n hF dL_law_1361 rfl ?_
  refine lB_iconst hF dL_law_1362 ki_1 ?_
  refine lB_iadd hF dL_law_1363 ?_
  refine lB_sld hF dL_law_1364 (hi1).1 (hi1).2 ?_
  refine lB_aload_n hF dL_law_1365 rfl ?_
  refine lB_iload_n hF dL_law_1366 rfl ?_
  refine lB_iconst hF dL_law_1367 ki_2 ?_
  refine lB_iadd hF dL_law_1368 ?_
  refine lB_sld hF dL_law_1369 (hi2).1 (hi2).2 ?_
  refine lB_callM hF dL_law_1370 (t_X7_ask e2) cw_L_162 rfl rfl rfl rfl ?_
  exact lB_eq (tgt := 1539) hF dL_law_1373 rfl (kk _ _ e3)
set_option maxRecDepth 20000 in
set_option maxHeartbeats 2000000 in
theorem law_c36 {C : lCx} {γC γM : xG} {l : Launch} {Ln b : Nat} {xs : Nat → Int32} {hc hm : xH} {x3 : Int32} {Rl Rm : xH → xH → Prop} (hF : lF C γC γM l Ln xs b) {a1 : Int32} (hi1 : vp_in (x3 + 1) Ln ∧ xs (x3 + 1).toNatClampNeg = a1) {a2 : Int32} (hi2 : vp_in (x3 + 2) Ln ∧ xs (x3 + 2).toNatClampNeg = a2) {a3 : Int32} (hi3 : vp_in (x3 + 3) Ln ∧ xs (x3 + 3).toNatClampNeg = a3) {a4 : Int32} (hi4 : vp_in (x3 + 4) Ln ∧ xs (x3 + 4).toNatClampNeg = a4) {a5 : Int32} (hi5 : vp_in (x3 + 5) Ln ∧ xs (x3 + 5).toNatClampNeg = a5) (hs : S_item Rl Rm) (hR : Rl hc hm) (kk : ∀ hc hm, Rm hc hm → lB C γC γM hc hm 1539 [some (.ref b), some (.ref (γC.2.2.2 0)), some (.ref (γM.2.2.2 0)), some (.int x3)] []) : lB C γC γM hc hm 1378 [some (.ref b), some (.ref (γC.2.2.2 0)), some (.ref (γM.2.2.2 0)), some (.int x3)] [] := by
  obtain ⟨r, hc1, hm1, e1, e2, e3⟩ := hs a1 a2 hc hm hR
  refine lB_aload_n hF dL_law_1378 rfl ?_
  refine lB_aload_n hF dL_law_1379 rfl ?_
  refine lB_iload_n hF dL_law_1380 rfl ?_
  refine lB_iconst hF dL_law_1381 ki_1 ?_
  refine lB_iadd hF dL_law_1382 ?_
  refine lB_sld hF dL_law_1383 (hi1).1 (hi1).2 ?_
  refine lB_aload_n hF dL_law_1384 rfl ?_
  refine lB_iload_n hF dL_law_1385 rfl ?_
  refine lB_iconst hF dL_law_1386 ki_2 ?_
  refine lB_iadd hF dL_law_1387 ?_
  refine lB_sld hF dL_law_1388 (hi2).1 (hi2).2 ?_
  refine lB_callC hF dL_law_1389 (t_X6_item e1) cw_L_163 rfl rfl rfl rfl ?_
  refine lB_aload_n hF dL_law_1392 rfl ?_
  refine lB_aload_n hF dL_law_1393 rfl ?_
  refine lB_iload_n hF dL_law_1394 rfl ?_
  refine lB_iconst hF dL_law_1395 ki_1 ?_
  refine lB_iadd hF dL_law_1396 ?_
  refine lB_sld hF dL_law_1397 (hi1).1 (hi1).2 ?_
  refine lB_aload_n hF dL_law_1398 rfl ?_
  refine lB_iload_n hF dL_law_1399 rfl ?_
  refine lB_iconst hF dL_law_1400 ki_2 ?_
  refine lB_iadd hF dL_law_1401 ?_
  refine lB_sld hF dL_law_1402 (hi2).1 (hi2).2 ?_
  refine lB_callM hF dL_law_1403 (t_X7_item e2) cw_L_166 rfl rfl rfl rfl ?_
  exact lB_eq (tgt := 1539) hF dL_law_1406 rfl (kk _ _ e3)
set_option maxRecDepth 20000 in
set_option maxHeartbeats 2000000 in
theorem law_c37 {C : lCx} {γC γM : xG} {l : Launch} {Ln b : Nat} {xs : Nat → Int32} {hc hm : xH} {x3 : Int32} {Rl Rm : xH → xH → Prop} (hF : lF C γC γM l Ln xs b) {a1 : Int32} (hi1 : vp_in (x3 + 1) Ln ∧ xs (x3 + 1).toNatClampNeg = a1) {a2 : Int32} (hi2 : vp_in (x3 + 2) Ln ∧ xs (x3 + 2).toNatClampNeg = a2) {a3 : Int32} (hi3 : vp_in (x3 + 3) Ln ∧ xs (x3 + 3).toNatClampNeg = a3) {a4 : Int32} (hi4 : vp_in (x3 + 4) Ln ∧ xs (x3 + 4).toNatClampNeg = a4) {a5 : Int32} (hi5 : vp_in (x3 + 5) Ln ∧ xs (x3 + 5).toNatClampNeg = a5) (hs : S_rest Rl Rm) (hR : Rl hc hm) (kk : ∀ hc hm, Rm hc hm → lB C γC γM hc hm 1539 [some (.ref b), some (.ref (γC.2.2.2 0)), some (.ref (γM.2.2.2 0)), some (.int x3)] []) : lB C γC γM hc hm 1411 [some (.ref b), some (.ref (γC.2.2.2 0)), some (.ref (γM.2.2.2 0)), some (.int x3)] [] := by
  obtain ⟨r, hc1, hm1, e1, e2, e3⟩ := hs a1 a2 hc hm hR
  refine lB_aload_n hF dL_law_1411 rfl ?_
  refine lB_aload_n hF dL_law_1412 rfl ?_
  refine lB_iload_n hF dL_law_1413 rfl ?_
  refine lB_iconst hF dL_law_1414 ki_1 ?_
  refine lB_iadd hF dL_law_1415 ?_
  refine lB_sld hF dL_law_1416 (hi1).1 (hi1).2 ?_
  refine lB_aload_n hF dL_law_1417 rfl ?_
  refine lB_iload_n hF dL_law_1418 rfl ?_
  refine lB_iconst hF dL_law_1419 ki_2 ?_
  refine lB_iadd hF dL_law_1420 ?_
  refine lB_sld hF dL_law_1421 (hi2).1 (hi2).2 ?_
  refine lB_callC hF dL_law_1422 (t_X6_rest e1) cw_L_167 rfl rfl rfl rfl ?_
  refine lB_aload_n hF dL_law_1425 rfl ?_
  refine lB_aload_n hF dL_law_1426 rfl ?_
  refine lB_iload_n hF dL_law_1427 rfl ?_
  refine lB_iconst hF dL_law_1428 ki_1 ?_
  refine lB_iadd hF dL_law_1429 ?_
  refine lB_sld hF dL_law_1430 (hi1).1 (hi1).2 ?_
  refine lB_aload_n hF dL_law_1431 rfl ?_
  refine lB_iload_n hF dL_law_1432 rfl ?_
  refine lB_iconst hF dL_law_1433 ki_2 ?_
  refine lB_iadd hF dL_law_1434 ?_
  refine lB_sld hF dL_law_1435 (hi2).1 (hi2).2 ?_
  refine lB_callM hF dL_law_1436 (t_X7_rest e2) cw_L_170 rfl rfl rfl rfl ?_
  exact lB_eq (tgt := 1539) hF dL_law_1439 rfl (kk _ _ e3)
set_option maxRecDepth 20000 in
set_option maxHeartbeats 2000000 in
theorem law_c38 {C : lCx} {γC γM : xG} {l : Launch} {Ln b : Nat} {xs : Nat → Int32} {hc hm : xH} {x3 : Int32} {Rl Rm : xH → xH → Prop} (hF : lF C γC γM l Ln xs b) {a1 : Int32} (hi1 : vp_in (x3 + 1) Ln ∧ xs (x3 + 1).toNatClampNeg = a1) {a2 : Int32} (hi2 : vp_in (x3 + 2) Ln ∧ xs (x3 + 2).toNatClampNeg = a2) {a3 : Int32} (hi3 : vp_in (x3 + 3) Ln ∧ xs (x3 + 3).toNatClampNeg = a3) {a4 : Int32} (hi4 : vp_in (x3 + 4) Ln ∧ xs (x3 + 4).toNatClampNeg = a4) {a5 : Int32} (hi5 : vp_in (x3 + 5) Ln ∧ xs (x3 + 5).toNatClampNeg = a5) (hs : S_tell Rl Rm) (hR : Rl hc hm) (kk : ∀ hc hm, Rm hc hm → lB C γC γM hc hm 1539 [some (.ref b), some (.ref (γC.2.2.2 0)), some (.ref (γM.2.2.2 0)), some (.int x3)] []) : lB C γC γM hc hm 1444 [some (.ref b), some (.ref (γC.2.2.2 0)), some (.ref (γM.2.2.2 0)), some (.int x3)] [] := by
  obtain ⟨r, hc1, hm1, e1, e2, e3⟩ := hs a1 hc hm hR
  refine lB_aload_n hF dL_law_1444 rfl ?_
  refine lB_aload_n hF dL_law_1445 rfl ?_
  refine lB_iload_n hF dL_law_1446 rfl ?_
  refine lB_iconst hF dL_law_1447 ki_1 ?_
  refine lB_iadd hF dL_law_1448 ?_
  refine lB_sld hF dL_law_1449 (hi1).1 (hi1).2 ?_
  refine lB_callC hF dL_law_1450 (t_X6_tell e1) cw_L_171 rfl rfl rfl rfl ?_
  refine lB_aload_n hF dL_law_1453 rfl ?_
  refine lB_aload_n hF dL_law_1454 rfl ?_
  refine lB_iload_n hF dL_law_1455 rfl ?_
  refine lB_iconst hF dL_law_1456 ki_1 ?_
  refine lB_iadd hF dL_law_1457 ?_
  refine lB_sld hF dL_law_1458 (hi1).1 (hi1).2 ?_
  refine lB_callM hF dL_law_1459 (t_X7_tell e2) cw_L_174 rfl rfl rfl rfl ?_
  exact lB_eq (tgt := 1539) hF dL_law_1462 rfl (kk _ _ e3)
set_option maxRecDepth 20000 in
set_option maxHeartbeats 2000000 in
theorem law_c39 {C : lCx} {γC γM : xG} {l : Launch} {Ln b : Nat} {xs : Nat → Int32} {hc hm : xH} {x3 : Int32} {Rl Rm : xH → xH → Prop} (hF : lF C γC γM l Ln xs b) {a1 : Int32} (hi1 : vp_in (x3 + 1) Ln ∧ xs (x3 + 1).toNatClampNeg = a1) {a2 : Int32} (hi2 : vp_in (x3 + 2) Ln ∧ xs (x3 + 2).toNatClampNeg = a2) {a3 : Int32} (hi3 : vp_in (x3 + 3) Ln ∧ xs (x3 + 3).toNatClampNeg = a3) {a4 : Int32} (hi4 : vp_in (x3 + 4) Ln ∧ xs (x3 + 4).toNatClampNeg = a4) {a5 : Int32} (hi5 : vp_in (x3 + 5) Ln ∧ xs (x3 + 5).toNatClampNeg = a5) (hs : S_check Rl Rm) (hR : Rl hc hm) (kk : ∀ hc hm, Rm hc hm → lB C γC γM hc hm 1539 [some (.ref b), some (.ref (γC.2.2.2 0)), some (.ref (γM.2.2.2 0)), some (.int x3)] []) : lB C γC γM hc hm 1467 [some (.ref b), some (.ref (γC.2.2.2 0)), some (.ref (γM.2.2.2 0)), some (.int x3)] [] := by
  obtain ⟨r, hc1, hm1, e1, e2, e3⟩ := hs a1 hc hm hR
  refine lB_aload_n hF dL_law_1467 rfl ?_
  refine lB_aload_n hF dL_law_1468 rfl ?_
  refine lB_iload_n hF dL_law_1469 rfl ?_
  refine lB_iconst hF dL_law_1470 ki_1 ?_
  refine lB_iadd hF dL_law_1471 ?_
  refine lB_sld hF dL_law_1472 (hi1).1 (hi1).2 ?_
  refine lB_callC hF dL_law_1473 (t_X6_check e1) cw_L_175 rfl rfl rfl rfl ?_
  refine lB_aload_n hF dL_law_1476 rfl ?_
  refine lB_aload_n hF dL_law_1477 rfl ?_
  refine lB_iload_n hF dL_law_1478 rfl ?_
  refine lB_iconst hF dL_law_1479 ki_1 ?_
  refine lB_iadd hF dL_law_1480 ?_
  refine lB_sld hF dL_law_1481 (hi1).1 (hi1).2 ?_
  refine lB_callM hF dL_law_1482 (t_X7_check e2) cw_L_178 rfl rfl rfl rfl ?_
  exact lB_eq (tgt := 1539) hF dL_law_1485 rfl (kk _ _ e3)
set_option maxRecDepth 20000 in
set_option maxHeartbeats 2000000 in
theorem law_c40 {C : lCx} {γC γM : xG} {l : Launch} {Ln b : Nat} {xs : Nat → Int32} {hc hm : xH} {x3 : Int32} {Rl Rm : xH → xH → Prop} (hF : lF C γC γM l Ln xs b) {a1 : Int32} (hi1 : vp_in (x3 + 1) Ln ∧ xs (x3 + 1).toNatClampNeg = a1) {a2 : Int32} (hi2 : vp_in (x3 + 2) Ln ∧ xs (x3 + 2).toNatClampNeg = a2) {a3 : Int32} (hi3 : vp_in (x3 + 3) Ln ∧ xs (x3 + 3).toNatClampNeg = a3) {a4 : Int32} (hi4 : vp_in (x3 + 4) Ln ∧ xs (x3 + 4).toNatClampNeg = a4) {a5 : Int32} (hi5 : vp_in (x3 + 5) Ln ∧ xs (x3 + 5).toNatClampNeg = a5) (hs : S_keep Rl Rm) (hR : Rl hc hm) (kk : ∀ hc hm, Rm hc hm → lB C γC γM hc hm 1539 [some (.ref b), some (.ref (γC.2.2.2 0)), some (.ref (γM.2.2.2 0)), some (.int x3)] []) : lB C γC γM hc hm 1490 [some (.ref b), some (.ref (γC.2.2.2 0)), some (.ref (γM.2.2.2 0)), some (.int x3)] [] := by
  obtain ⟨r, hc1, hm1, e1, e2, e3⟩ := hs hc hm hR
  refine lB_aload_n hF dL_law_1490 rfl ?_
  refine lB_callC hF dL_law_1491 (t_X6_keep e1) cw_L_179 rfl rfl rfl rfl ?_
  refine lB_aload_n hF dL_law_1494 rfl ?_
  refine lB_callM hF dL_law_1495 (t_X7_keep e2) cw_L_182 rfl rfl rfl rfl ?_
  exact lB_eq (tgt := 1539) hF dL_law_1498 rfl (kk _ _ e3)
set_option maxRecDepth 20000 in
set_option maxHeartbeats 2000000 in
theorem law_c41 {C : lCx} {γC γM : xG} {l : Launch} {Ln b : Nat} {xs : Nat → Int32} {hc hm : xH} {x3 : Int32} {Rl Rm : xH → xH → Prop} (hF : lF C γC γM l Ln xs b) {a1 : Int32} (hi1 : vp_in (x3 + 1) Ln ∧ xs (x3 + 1).toNatClampNeg = a1) {a2 : Int32} (hi2 : vp_in (x3 + 2) Ln ∧ xs (x3 + 2).toNatClampNeg = a2) {a3 : Int32} (hi3 : vp_in (x3 + 3) Ln ∧ xs (x3 + 3).toNatClampNeg = a3) {a4 : Int32} (hi4 : vp_in (x3 + 4) Ln ∧ xs (x3 + 4).toNatClampNeg = a4) {a5 : Int32} (hi5 : vp_in (x3 + 5) Ln ∧ xs (x3 + 5).toNatClampNeg = a5) (hs : S_back Rl Rm) (hR : Rl hc hm) (kk : ∀ hc hm, Rm hc hm → lB C γC γM hc hm 1539 [some (.ref b), some (.ref (γC.2.2.2 0)), some (.ref (γM.2.2.2 0)), some (.int x3)] []) : lB C γC γM hc hm 1503 [some (.ref b), some (.ref (γC.2.2.2 0)), some (.ref (γM.2.2.2 0)), some (.int x3)] [] := by
  obtain ⟨r, hc1, hm1, e1, e2, e3⟩ := hs hc hm hR
  refine lB_aload_n hF dL_law_1503 rfl ?_
  refine lB_callC hF dL_law_1504 (t_X6_back e1) cw_L_183 rfl rfl rfl rfl ?_
  refine lB_aload_n hF dL_law_1507 rfl ?_
  refine lB_callM hF dL_law_1508 (t_X7_back e2) cw_L_186 rfl rfl rfl rfl ?_
  exact lB_eq (tgt := 1539) hF dL_law_1511 rfl (kk _ _ e3)
set_option maxRecDepth 20000 in
set_option maxHeartbeats 2000000 in
theorem law_c42 {C : lCx} {γC γM : xG} {l : Launch} {Ln b : Nat} {xs : Nat → Int32} {hc hm : xH} {x3 : Int32} {Rl Rm : xH → xH → Prop} (hF : lF C γC γM l Ln xs b) {a1 : Int32} (hi1 : vp_in (x3 + 1) Ln ∧ xs (x3 + 1).toNatClampNeg = a1) {a2 : Int32} (hi2 : vp_in (x3 + 2) Ln ∧ xs (x3 + 2).toNatClampNeg = a2) {a3 : Int32} (hi3 : vp_in (x3 + 3) Ln ∧ xs (x3 + 3).toNatClampNeg = a3) {a4 : Int32} (hi4 : vp_in (x3 + 4) Ln ∧ xs (x3 + 4).toNatClampNeg = a4) {a5 : Int32} (hi5 : vp_in (x3 + 5) Ln ∧ xs (x3 + 5).toNatClampNeg = a5) (hs : S_count Rl Rm) (hR : Rl hc hm) (kk : ∀ hc hm, Rm hc hm → lB C γC γM hc hm 1539 [some (.ref b), some (.ref (γC.2.2.2 0)), some (.ref (γM.2.2.2 0)), some (.int x3)] []) : lB C γC γM hc hm 1516 [some (.ref b), some (.ref (γC.2.2.2 0)), some (.ref (γM.2.2.2 0)), some (.int x3)] [] := by
  obtain ⟨r, hc1, hm1, e1, e2, e3⟩ := hs a1 hc hm hR
  refine lB_aload_n hF dL_law_1516 rfl ?_
  refine lB_aload_n hF dL_law_1517 rfl ?_
  refine lB_iload_n hF dL_law_1518 rfl ?_
  refine lB_iconst hF dL_law_1519 ki_1 ?_
  refine lB_iadd hF dL_law_1520 ?_
  refine lB_sld hF dL_law_1521 (hi1).1 (hi1).2 ?_
  refine lB_callC hF dL_law_1522 (t_X6_count e1) cw_L_187 rfl rfl rfl rfl ?_
  refine lB_aload_n hF dL_law_1525 rfl ?_
  refine lB_aload_n hF dL_law_1526 rfl ?_
  refine lB_iload_n hF dL_law_1527 rfl ?_
  refine lB_iconst hF dL_law_1528 ki_1 ?_
  refine lB_iadd hF dL_law_1529 ?_
  refine lB_sld hF dL_law_1530 (hi1).1 (hi1).2 ?_
  refine lB_callM hF dL_law_1531 (t_X7_count e2) cw_L_190 rfl rfl rfl rfl ?_
  exact lB_eq (tgt := 1539) hF dL_law_1534 rfl (kk _ _ e3)
