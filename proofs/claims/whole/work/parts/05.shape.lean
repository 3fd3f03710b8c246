def shX0 : xSh := fun γ _ => .inr (0, [.ref (γ.2.2.2 2), .ref (γ.2.2.2 3), .ref (γ.2.2.2 4), .ref (γ.2.2.2 5), .ref (γ.2.2.2 20)])
def shX1 : xSh := fun γ _ => .inr (1, [.ref (γ.2.2.2 55), .ref (γ.2.2.2 56), .ref (γ.2.2.2 57)])
def shX2 : xSh := fun γ c => .inr (2, [.ref (γ.2.2.2 22), .ref (γ.2.2.2 23), .int (c 2), .int (c 3), .int (c 4), .int (c 5), .int (c 6), .int (c 7), .int (c 8), .int (c 9)])
def shX3 (w : Nat) : xSh := fun γ c => .inr (3, [.ref (γ.2.2.2 (w + 1)), .int (c 1), .int (c 2)])
def shX4 (w : Nat) : xSh := fun γ c => .inr (4, [.ref (γ.2.2.2 (w + 1)), .int (c 1), .int (c 2), .int (c 3), .int (c 4)])
def shX5 (w : Nat) : xSh := fun γ c => .inr (5, [.ref (γ.2.2.2 1), .ref (γ.2.2.2 (w + 1)), .ref (γ.2.2.2 (w + 2)), .ref (γ.2.2.2 (w + 3)), .ref (γ.2.2.2 (w + 4)), .ref (γ.2.2.2 (w + 5)), .ref (γ.2.2.2 (w + 6)), .ref (γ.2.2.2 (w + 7)), .ref (γ.2.2.2 (w + 8)), .ref (γ.2.2.2 (w + 9)), .int (c 10), .int (c 11), .int (c 12), .int (c 13), .int (c 14), .int (c 15)])
def shX6 : xSh := fun γ c => .inr (6, [.ref (γ.2.2.2 1), .ref (γ.2.2.2 21), .ref (γ.2.2.2 24), .ref (γ.2.2.2 34), .ref (γ.2.2.2 44), .ref (γ.2.2.2 54), .ref (γ.2.2.2 58), .ref (γ.2.2.2 59), .ref (γ.2.2.2 68), .ref (γ.2.2.2 84), .int (c 10), .int (c 11)])
def shX7 : xSh := fun γ c => .inr (7, [.ref (γ.2.2.2 1), .ref (γ.2.2.2 2), .ref (γ.2.2.2 3), .int (c 3), .ref (γ.2.2.2 4), .ref (γ.2.2.2 5), .ref (γ.2.2.2 6), .ref (γ.2.2.2 7), .ref (γ.2.2.2 8), .ref (γ.2.2.2 9), .ref (γ.2.2.2 10), .ref (γ.2.2.2 11), .ref (γ.2.2.2 12), .ref (γ.2.2.2 13), .ref (γ.2.2.2 14), .int (c 15), .int (c 16), .int (c 17), .int (c 18), .int (c 19), .int (c 20), .int (c 21), .int (c 22), .int (c 23), .int (c 24), .int (c 25), .ref (γ.2.2.2 15), .ref (γ.2.2.2 16), .ref (γ.2.2.2 17), .ref (γ.2.2.2 18), .int (c 30), .ref (γ.2.2.2 19)])
def xSC : xS := [shX6, shX0, shA 14, shA 14, shA 14, shQ 1 14 (fun i => 6 + i), shA 96, shA 96, shA 96, shA 96, shA 96, shA 96, shA 96, shA 96, shA 96, shA 96, shA 96, shA 96, shA 96, shA 96, shA 96, shX2, shA 96, shA 96, shX5 24, shA 10, shA 10, shA 10, shA 10, shA 10, shA 10, shA 6, shA 6, shA 3, shX5 34, shA 10, shA 10, shA 10, shA 10, shA 10, shA 10, shA 6, shA 6, shA 3, shX5 44, shA 10, shA 10, shA 10, shA 10, shA 10, shA 10, shA 6, shA 6, shA 3, shX1, shA 10, shA 10, shA 10, shA 10, shQ 2 4 (fun i => 60 + 2 * i), shX3 60, shA 24, shX3 62, shA 24, shX3 64, shA 24, shX3 66, shA 24, shQ 3 5 (fun i => 69 + 3 * i), shX4 69, shX3 70, shA 24, shX4 72, shX3 73, shA 24, shX4 75, shX3 76, shA 24, shX4 78, shX3 79, shA 24, shX4 81, shX3 82, shA 24, shA 60]
def xSM : xS := [shX7, shA 3078, shA 3078, shA 3078, shA 4, shA 4, shA 96, shA 5, shA 5, shA 5, shA 5, shA 120, shA 10, shA 78, shA 96, shA 128, shA 100, shA 24, shA 60, shA 60]
theorem sC_0 : xSC[0]? = some (shX6) := rfl
theorem sC_1 : xSC[1]? = some (shX0) := rfl
theorem sC_2 : xSC[2]? = some (shA 14) := rfl
theorem sC_3 : xSC[3]? = some (shA 14) := rfl
theorem sC_4 : xSC[4]? = some (shA 14) := rfl
theorem sC_5 : xSC[5]? = some (shQ 1 14 (fun i => 6 + i)) := rfl
theorem sC_6 : xSC[6]? = some (shA 96) := rfl
theorem sC_7 : xSC[7]? = some (shA 96) := rfl
theorem sC_8 : xSC[8]? = some (shA 96) := rfl
theorem sC_9 : xSC[9]? = some (shA 96) := rfl
theorem sC_10 : xSC[10]? = some (shA 96) := rfl
theorem sC_11 : xSC[11]? = some (shA 96) := rfl
theorem sC_12 : xSC[12]? = some (shA 96) := rfl
theorem sC_13 : xSC[13]? = some (shA 96) := rfl
theorem sC_14 : xSC[14]? = some (shA 96) := rfl
theorem sC_15 : xSC[15]? = some (shA 96) := rfl
theorem sC_16 : xSC[16]? = some (shA 96) := rfl
theorem sC_17 : xSC[17]? = some (shA 96) := rfl
theorem sC_18 : xSC[18]? = some (shA 96) := rfl
theorem sC_19 : xSC[19]? = some (shA 96) := rfl
theorem sC_20 : xSC[20]? = some (shA 96) := rfl
theorem sC_21 : xSC[21]? = some (shX2) := rfl
theorem sC_22 : xSC[22]? = some (shA 96) := rfl
theorem sC_23 : xSC[23]? = some (shA 96) := rfl
theorem sC_24 : xSC[24]? = some (shX5 24) := rfl
theorem sC_25 : xSC[25]? = some (shA 10) := rfl
theorem sC_26 : xSC[26]? = some (shA 10) := rfl
theorem sC_27 : xSC[27]? = some (shA 10) := rfl
theorem sC_28 : xSC[28]? = some (shA 10) := rfl
theorem sC_29 : xSC[29]? = some (shA 10) := rfl
theorem sC_30 : xSC[30]? = some (shA 10) := rfl
theorem sC_31 : xSC[31]? = some (shA 6) := rfl
theorem sC_32 : xSC[32]? = some (shA 6) := rfl
theorem sC_33 : xSC[33]? = some (shA 3) := rfl
theorem sC_34 : xSC[34]? = some (shX5 34) := rfl
theorem sC_35 : xSC[35]? = some (shA 10) := rfl
theorem sC_36 : xSC[36]? = some (shA 10) := rfl
theorem sC_37 : xSC[37]? = some (shA 10) := rfl
theorem sC_38 : xSC[38]? = some (shA 10) := rfl
theorem sC_39 : xSC[39]? = some (shA 10) := rfl
theorem sC_40 : xSC[40]? = some (shA 10) := rfl
theorem sC_41 : xSC[41]? = some (shA 6) := rfl
theorem sC_42 : xSC[42]? = some (shA 6) := rfl
theorem sC_43 : xSC[43]? = some (shA 3) := rfl
theorem sC_44 : xSC[44]? = some (shX5 44) := rfl
theorem sC_45 : xSC[45]? = some (shA 10) := rfl
theorem sC_46 : xSC[46]? = some (shA 10) := rfl
theorem sC_47 : xSC[47]? = some (shA 10) := rfl
theorem sC_48 : xSC[48]? = some (shA 10) := rfl
theorem sC_49 : xSC[49]? = some (shA 10) := rfl
theorem sC_50 : xSC[50]? = some (shA 10) := rfl
theorem sC_51 : xSC[51]? = some (shA 6) := rfl
theorem sC_52 : xSC[52]? = some (shA 6) := rfl
theorem sC_53 : xSC[53]? = some (shA 3) := rfl
theorem sC_54 : xSC[54]? = some (shX1) := rfl
theorem sC_55 : xSC[55]? = some (shA 10) := rfl
theorem sC_56 : xSC[56]? = some (shA 10) := rfl
theorem sC_57 : xSC[57]? = some (shA 10) := rfl
theorem sC_58 : xSC[58]? = some (shA 10) := rfl
theorem sC_59 : xSC[59]? = some (shQ 2 4 (fun i => 60 + 2 * i)) := rfl
theorem sC_60 : xSC[60]? = some (shX3 60) := rfl
theorem sC_61 : xSC[61]? = some (shA 24) := rfl
theorem sC_62 : xSC[62]? = some (shX3 62) := rfl
theorem sC_63 : xSC[63]? = some (shA 24) := rfl
theorem sC_64 : xSC[64]? = some (shX3 64) := rfl
theorem sC_65 : xSC[65]? = some (shA 24) := rfl
theorem sC_66 : xSC[66]? = some (shX3 66) := rfl
theorem sC_67 : xSC[67]? = some (shA 24) := rfl
theorem sC_68 : xSC[68]? = some (shQ 3 5 (fun i => 69 + 3 * i)) := rfl
theorem sC_69 : xSC[69]? = some (shX4 69) := rfl
theorem sC_70 : xSC[70]? = some (shX3 70) := rfl
theorem sC_71 : xSC[71]? = some (shA 24) := rfl
theorem sC_72 : xSC[72]? = some (shX4 72) := rfl
theorem sC_73 : xSC[73]? = some (shX3 73) := rfl
theorem sC_74 : xSC[74]? = some (shA 24) := rfl
theorem sC_75 : xSC[75]? = some (shX4 75) := rfl
theorem sC_76 : xSC[76]? = some (shX3 76) := rfl
theorem sC_77 : xSC[77]? = some (shA 24) := rfl
theorem sC_78 : xSC[78]? = some (shX4 78) := rfl
theorem sC_79 : xSC[79]? = some (shX3 79) := rfl
theorem sC_80 : xSC[80]? = some (shA 24) := rfl
theorem sC_81 : xSC[81]? = some (shX4 81) := rfl
theorem sC_82 : xSC[82]? = some (shX3 82) := rfl
theorem sC_83 : xSC[83]? = some (shA 24) := rfl
theorem sC_84 : xSC[84]? = some (shA 60) := rfl
theorem sM_0 : xSM[0]? = some (shX7) := rfl
theorem sM_1 : xSM[1]? = some (shA 3078) := rfl
theorem sM_2 : xSM[2]? = some (shA 3078) := rfl
theorem sM_3 : xSM[3]? = some (shA 3078) := rfl
theorem sM_4 : xSM[4]? = some (shA 4) := rfl
theorem sM_5 : xSM[5]? = some (shA 4) := rfl
theorem sM_6 : xSM[6]? = some (shA 96) := rfl
theorem sM_7 : xSM[7]? = some (shA 5) := rfl
theorem sM_8 : xSM[8]? = some (shA 5) := rfl
theorem sM_9 : xSM[9]? = some (shA 5) := rfl
theorem sM_10 : xSM[10]? = some (shA 5) := rfl
theorem sM_11 : xSM[11]? = some (shA 120) := rfl
theorem sM_12 : xSM[12]? = some (shA 10) := rfl
theorem sM_13 : xSM[13]? = some (shA 78) := rfl
theorem sM_14 : xSM[14]? = some (shA 96) := rfl
theorem sM_15 : xSM[15]? = some (shA 128) := rfl
theorem sM_16 : xSM[16]? = some (shA 100) := rfl
theorem sM_17 : xSM[17]? = some (shA 24) := rfl
theorem sM_18 : xSM[18]? = some (shA 60) := rfl
theorem sM_19 : xSM[19]? = some (shA 60) := rfl
def isX5 (w : Nat) : Prop := xSC[w]? = some (shX5 w) ∧ xSC[w + 1]? = some (shA 10) ∧ xSC[w + 2]? = some (shA 10) ∧ xSC[w + 3]? = some (shA 10) ∧ xSC[w + 4]? = some (shA 10) ∧ xSC[w + 5]? = some (shA 10) ∧ xSC[w + 6]? = some (shA 10) ∧ xSC[w + 7]? = some (shA 6) ∧ xSC[w + 8]? = some (shA 6) ∧ xSC[w + 9]? = some (shA 3)
def isX3 (w : Nat) : Prop := xSC[w]? = some (shX3 w) ∧ xSC[w + 1]? = some (shA 24)
def isX4 (w : Nat) : Prop := xSC[w]? = some (shX4 w) ∧ isX3 (w + 1)
theorem isX5_24 : isX5 24 := ⟨rfl, rfl, rfl, rfl, rfl, rfl, rfl, rfl, rfl, rfl⟩
theorem isX5_34 : isX5 34 := ⟨rfl, rfl, rfl, rfl, rfl, rfl, rfl, rfl, rfl, rfl⟩
theorem isX5_44 : isX5 44 := ⟨rfl, rfl, rfl, rfl, rfl, rfl, rfl, rfl, rfl, rfl⟩
theorem isX3_60 : isX3 60 := ⟨rfl, rfl⟩
theorem isX3_62 : isX3 62 := ⟨rfl, rfl⟩
theorem isX3_64 : isX3 64 := ⟨rfl, rfl⟩
theorem isX3_66 : isX3 66 := ⟨rfl, rfl⟩
theorem isX3_70 : isX3 70 := ⟨rfl, rfl⟩
theorem isX3_73 : isX3 73 := ⟨rfl, rfl⟩
theorem isX3_76 : isX3 76 := ⟨rfl, rfl⟩
theorem isX3_79 : isX3 79 := ⟨rfl, rfl⟩
theorem isX3_82 : isX3 82 := ⟨rfl, rfl⟩
theorem isX4_69 : isX4 69 := ⟨rfl, rfl, rfl⟩
theorem isX4_72 : isX4 72 := ⟨rfl, rfl, rfl⟩
theorem isX4_75 : isX4 75 := ⟨rfl, rfl, rfl⟩
theorem isX4_78 : isX4 78 := ⟨rfl, rfl, rfl⟩
theorem isX4_81 : isX4 81 := ⟨rfl, rfl, rfl⟩
theorem isX3_sheet {i : Int32} (h : vp_in i 4) : isX3 (60 + 2 * Int32.toNatClampNeg i) := by
  obtain ⟨j, hj, rfl⟩ := vp_in_of h (by decide)
  rw [nI_clamp (by omega)]
  match j, hj with
  | 0, _ => exact isX3_60
  | 1, _ => exact isX3_62
  | 2, _ => exact isX3_64
  | 3, _ => exact isX3_66
theorem isX4_slot {i : Int32} (h : vp_in i 5) : isX4 (69 + 3 * Int32.toNatClampNeg i) := by
  obtain ⟨j, hj, rfl⟩ := vp_in_of h (by decide)
  rw [nI_clamp (by omega)]
  match j, hj with
  | 0, _ => exact isX4_69
  | 1, _ => exact isX4_72
  | 2, _ => exact isX4_75
  | 3, _ => exact isX4_78
  | 4, _ => exact isX4_81
theorem sC_step {i : Int32} (h : vp_in i 14) : xSC[6 + Int32.toNatClampNeg i]? = some (shA 96) := by
  obtain ⟨j, hj, rfl⟩ := vp_in_of h (by decide)
  rw [nI_clamp (by omega)]
  match j, hj with
  | 0, _ => rfl
  | 1, _ => rfl
  | 2, _ => rfl
  | 3, _ => rfl
  | 4, _ => rfl
  | 5, _ => rfl
  | 6, _ => rfl
  | 7, _ => rfl
  | 8, _ => rfl
  | 9, _ => rfl
  | 10, _ => rfl
  | 11, _ => rfl
  | 12, _ => rfl
  | 13, _ => rfl
theorem inX0 : ∀ w ∈ u_ws RX0 TX0 5, w ∈ xWS := by
  intro w hw
  obtain ⟨k, hk, rfl⟩ := List.mem_map.mp hw
  have hk := List.mem_range.mp hk
  match k, hk with
  | 0, _ => exact xWS_mem 105 (by decide +kernel) rfl
  | 1, _ => exact xWS_mem 107 (by decide +kernel) rfl
  | 2, _ => exact xWS_mem 109 (by decide +kernel) rfl
  | 3, _ => exact xWS_mem 111 (by decide +kernel) rfl
  | 4, _ => exact xWS_mem 113 (by decide +kernel) rfl
theorem inX1 : ∀ w ∈ u_ws RX1 TX1 3, w ∈ xWS := by
  intro w hw
  obtain ⟨k, hk, rfl⟩ := List.mem_map.mp hw
  have hk := List.mem_range.mp hk
  match k, hk with
  | 0, _ => exact xWS_mem 247 (by decide +kernel) rfl
  | 1, _ => exact xWS_mem 249 (by decide +kernel) rfl
  | 2, _ => exact xWS_mem 251 (by decide +kernel) rfl
theorem inX2 : ∀ w ∈ u_ws RX2 TX2 10, w ∈ xWS := by
  intro w hw
  obtain ⟨k, hk, rfl⟩ := List.mem_map.mp hw
  have hk := List.mem_range.mp hk
  match k, hk with
  | 0, _ => exact xWS_mem 140 (by decide +kernel) rfl
  | 1, _ => exact xWS_mem 142 (by decide +kernel) rfl
  | 2, _ => exact xWS_mem 144 (by decide +kernel) rfl
  | 3, _ => exact xWS_mem 146 (by decide +kernel) rfl
  | 4, _ => exact xWS_mem 148 (by decide +kernel) rfl
  | 5, _ => exact xWS_mem 150 (by decide +kernel) rfl
  | 6, _ => exact xWS_mem 152 (by decide +kernel) rfl
  | 7, _ => exact xWS_mem 154 (by decide +kernel) rfl
  | 8, _ => exact xWS_mem 156 (by decide +kernel) rfl
  | 9, _ => exact xWS_mem 158 (by decide +kernel) rfl
theorem inX3 : ∀ w ∈ u_ws RX3 TX3 3, w ∈ xWS := by
  intro w hw
  obtain ⟨k, hk, rfl⟩ := List.mem_map.mp hw
  have hk := List.mem_range.mp hk
  match k, hk with
  | 0, _ => exact xWS_mem 267 (by decide +kernel) rfl
  | 1, _ => exact xWS_mem 269 (by decide +kernel) rfl
  | 2, _ => exact xWS_mem 271 (by decide +kernel) rfl
theorem inX4 : ∀ w ∈ u_ws RX4 TX4 5, w ∈ xWS := by
  intro w hw
  obtain ⟨k, hk, rfl⟩ := List.mem_map.mp hw
  have hk := List.mem_range.mp hk
  match k, hk with
  | 0, _ => exact xWS_mem 290 (by decide +kernel) rfl
  | 1, _ => exact xWS_mem 292 (by decide +kernel) rfl
  | 2, _ => exact xWS_mem 294 (by decide +kernel) rfl
  | 3, _ => exact xWS_mem 296 (by decide +kernel) rfl
  | 4, _ => exact xWS_mem 298 (by decide +kernel) rfl
theorem inX5 : ∀ w ∈ u_ws RX5 TX5 16, w ∈ xWS := by
  intro w hw
  obtain ⟨k, hk, rfl⟩ := List.mem_map.mp hw
  have hk := List.mem_range.mp hk
  match k, hk with
  | 0, _ => exact xWS_mem 203 (by decide +kernel) rfl
  | 1, _ => exact xWS_mem 205 (by decide +kernel) rfl
  | 2, _ => exact xWS_mem 207 (by decide +kernel) rfl
  | 3, _ => exact xWS_mem 209 (by decide +kernel) rfl
  | 4, _ => exact xWS_mem 211 (by decide +kernel) rfl
  | 5, _ => exact xWS_mem 213 (by decide +kernel) rfl
  | 6, _ => exact xWS_mem 215 (by decide +kernel) rfl
  | 7, _ => exact xWS_mem 217 (by decide +kernel) rfl
  | 8, _ => exact xWS_mem 219 (by decide +kernel) rfl
  | 9, _ => exact xWS_mem 221 (by decide +kernel) rfl
  | 10, _ => exact xWS_mem 223 (by decide +kernel) rfl
  | 11, _ => exact xWS_mem 225 (by decide +kernel) rfl
  | 12, _ => exact xWS_mem 227 (by decide +kernel) rfl
  | 13, _ => exact xWS_mem 229 (by decide +kernel) rfl
  | 14, _ => exact xWS_mem 231 (by decide +kernel) rfl
  | 15, _ => exact xWS_mem 233 (by decide +kernel) rfl
  | k + 16, hk => exact absurd hk (by omega)
theorem inX6 : ∀ w ∈ u_ws RX6 TX6 12, w ∈ xWS := by
  intro w hw
  obtain ⟨k, hk, rfl⟩ := List.mem_map.mp hw
  have hk := List.mem_range.mp hk
  match k, hk with
  | 0, _ => exact xWS_mem 313 (by decide +kernel) rfl
  | 1, _ => exact xWS_mem 315 (by decide +kernel) rfl
  | 2, _ => exact xWS_mem 317 (by decide +kernel) rfl
  | 3, _ => exact xWS_mem 319 (by decide +kernel) rfl
  | 4, _ => exact xWS_mem 321 (by decide +kernel) rfl
  | 5, _ => exact xWS_mem 323 (by decide +kernel) rfl
  | 6, _ => exact xWS_mem 325 (by decide +kernel) rfl
  | 7, _ => exact xWS_mem 327 (by decide +kernel) rfl
  | 8, _ => exact xWS_mem 329 (by decide +kernel) rfl
  | 9, _ => exact xWS_mem 331 (by decide +kernel) rfl
  | 10, _ => exact xWS_mem 333 (by decide +kernel) rfl
  | 11, _ => exact xWS_mem 335 (by decide +kernel) rfl
theorem inX7 : ∀ w ∈ u_ws RX7 TX7 32, w ∈ xWS := by
  intro w hw
  obtain ⟨k, hk, rfl⟩ := List.mem_map.mp hw
  have hk := List.mem_range.mp hk
  match k, hk with
  | 0, _ => exact xWS_mem 955 (by decide +kernel) rfl
  | 1, _ => exact xWS_mem 957 (by decide +kernel) rfl
  | 2, _ => exact xWS_mem 959 (by decide +kernel) rfl
  | 3, _ => exact xWS_mem 961 (by decide +kernel) rfl
  | 4, _ => exact xWS_mem 963 (by decide +kernel) rfl
  | 5, _ => exact xWS_mem 965 (by decide +kernel) rfl
  | 6, _ => exact xWS_mem 967 (by decide +kernel) rfl
  | 7, _ => exact xWS_mem 969 (by decide +kernel) rfl
  | 8, _ => exact xWS_mem 971 (by decide +kernel) rfl
  | 9, _ => exact xWS_mem 973 (by decide +kernel) rfl
  | 10, _ => exact xWS_mem 975 (by decide +kernel) rfl
  | 11, _ => exact xWS_mem 977 (by decide +kernel) rfl
  | 12, _ => exact xWS_mem 979 (by decide +kernel) rfl
  | 13, _ => exact xWS_mem 981 (by decide +kernel) rfl
  | 14, _ => exact xWS_mem 983 (by decide +kernel) rfl
  | 15, _ => exact xWS_mem 985 (by decide +kernel) rfl
  | 16, _ => exact xWS_mem 987 (by decide +kernel) rfl
  | 17, _ => exact xWS_mem 989 (by decide +kernel) rfl
  | 18, _ => exact xWS_mem 991 (by decide +kernel) rfl
  | 19, _ => exact xWS_mem 993 (by decide +kernel) rfl
  | 20, _ => exact xWS_mem 995 (by decide +kernel) rfl
  | 21, _ => exact xWS_mem 997 (by decide +kernel) rfl
  | 22, _ => exact xWS_mem 999 (by decide +kernel) rfl
  | 23, _ => exact xWS_mem 1001 (by decide +kernel) rfl
  | 24, _ => exact xWS_mem 1003 (by decide +kernel) rfl
  | 25, _ => exact xWS_mem 1005 (by decide +kernel) rfl
  | 26, _ => exact xWS_mem 1007 (by decide +kernel) rfl
  | 27, _ => exact xWS_mem 1009 (by decide +kernel) rfl
  | 28, _ => exact xWS_mem 1011 (by decide +kernel) rfl
  | 29, _ => exact xWS_mem 1013 (by decide +kernel) rfl
  | 30, _ => exact xWS_mem 1015 (by decide +kernel) rfl
  | 31, _ => exact xWS_mem 1017 (by decide +kernel) rfl
  | k + 32, hk => exact absurd hk (by omega)
theorem kb_10 : (Int8.ofInt (10)).toInt32 = (10) := by decide
theorem kb_100 : (Int8.ofInt (100)).toInt32 = (100) := by decide
theorem kb_101 : (Int8.ofInt (101)).toInt32 = (101) := by decide
theorem kb_102 : (Int8.ofInt (102)).toInt32 = (102) := by decide
theorem kb_105 : (Int8.ofInt (105)).toInt32 = (105) := by decide
theorem kb_110 : (Int8.ofInt (110)).toInt32 = (110) := by decide
theorem kb_112 : (Int8.ofInt (112)).toInt32 = (112) := by decide
theorem kb_114 : (Int8.ofInt (114)).toInt32 = (114) := by decide
theorem kb_116 : (Int8.ofInt (116)).toInt32 = (116) := by decide
theorem kb_119 : (Int8.ofInt (119)).toInt32 = (119) := by decide
theorem kb_12 : (Int8.ofInt (12)).toInt32 = (12) := by decide
theorem kb_120 : (Int8.ofInt (120)).toInt32 = (120) := by decide
theorem kb_122 : (Int8.ofInt (122)).toInt32 = (122) := by decide
theorem kb_124 : (Int8.ofInt (124)).toInt32 = (124) := by decide
theorem kb_16 : (Int8.ofInt (16)).toInt32 = (16) := by decide
theorem kb_18 : (Int8.ofInt (18)).toInt32 = (18) := by decide
theorem kb_20 : (Int8.ofInt (20)).toInt32 = (20) := by decide
theorem kb_24 : (Int8.ofInt (24)).toInt32 = (24) := by decide
theorem kb_30 : (Int8.ofInt (30)).toInt32 = (30) := by decide
theorem kb_32 : (Int8.ofInt (32)).toInt32 = (32) := by decide
theorem kb_33 : (Int8.ofInt (33)).toInt32 = (33) := by decide
theorem kb_38 : (Int8.ofInt (38)).toInt32 = (38) := by decide
theorem kb_42 : (Int8.ofInt (42)).toInt32 = (42) := by decide
theorem kb_43 : (Int8.ofInt (43)).toInt32 = (43) := by decide
theorem kb_45 : (Int8.ofInt (45)).toInt32 = (45) := by decide
theorem kb_47 : (Int8.ofInt (47)).toInt32 = (47) := by decide
theorem kb_48 : (Int8.ofInt (48)).toInt32 = (48) := by decide
theorem kb_57 : (Int8.ofInt (57)).toInt32 = (57) := by decide
theorem kb_6 : (Int8.ofInt (6)).toInt32 = (6) := by decide
theorem kb_60 : (Int8.ofInt (60)).toInt32 = (60) := by decide
theorem kb_61 : (Int8.ofInt (61)).toInt32 = (61) := by decide
theorem kb_62 : (Int8.ofInt (62)).toInt32 = (62) := by decide
theorem kb_63 : (Int8.ofInt (63)).toInt32 = (63) := by decide
theorem kb_7 : (Int8.ofInt (7)).toInt32 = (7) := by decide
theorem kb_78 : (Int8.ofInt (78)).toInt32 = (78) := by decide
theorem kb_8 : (Int8.ofInt (8)).toInt32 = (8) := by decide
theorem kb_84 : (Int8.ofInt (84)).toInt32 = (84) := by decide
theorem kb_9 : (Int8.ofInt (9)).toInt32 = (9) := by decide
theorem kb_96 : (Int8.ofInt (96)).toInt32 = (96) := by decide
theorem kb_97 : (Int8.ofInt (97)).toInt32 = (97) := by decide
theorem kb_99 : (Int8.ofInt (99)).toInt32 = (99) := by decide
theorem kb_m3 : (Int8.ofInt (-3)).toInt32 = (-3) := by decide
theorem kb_m33 : (Int8.ofInt (-33)).toInt32 = (-33) := by decide
theorem ki_0 : Int32.ofInt (0) = (0) := by decide
theorem ki_1 : Int32.ofInt (1) = (1) := by decide
theorem ki_2 : Int32.ofInt (2) = (2) := by decide
theorem ki_3 : Int32.ofInt (3) = (3) := by decide
theorem ki_4 : Int32.ofInt (4) = (4) := by decide
theorem ki_5 : Int32.ofInt (5) = (5) := by decide
theorem ki_m1 : Int32.ofInt (-1) = (-1) := by decide
theorem ki_m8 : Int32.ofInt (-8) = (-8) := by decide
theorem ks_12345 : (Int16.ofInt (12345)).toInt32 = (12345) := by decide
theorem ks_200 : (Int16.ofInt (200)).toInt32 = (200) := by decide
theorem ks_255 : (Int16.ofInt (255)).toInt32 = (255) := by decide
theorem ks_2878 : (Int16.ofInt (2878)).toInt32 = (2878) := by decide
theorem ks_999 : (Int16.ofInt (999)).toInt32 = (999) := by decide
theorem ks_9999 : (Int16.ofInt (9999)).toInt32 = (9999) := by decide
theorem mw_max : Cond.static Lib.Math.max.name ∈ xWS ∧ Cond.initialized "java/lang/Math" ∈ xWS ∧ Cond.code Lib.Math.max.name Lib.Math.max.code 2 (some .int) ∈ xWS := ⟨xWS_mem 375 (by decide +kernel) rfl, xWS_mem 74 (by decide +kernel) rfl, xWS_mem 376 (by decide +kernel) rfl⟩
theorem mw_min : Cond.static Lib.Math.min.name ∈ xWS ∧ Cond.initialized "java/lang/Math" ∈ xWS ∧ Cond.code Lib.Math.min.name Lib.Math.min.code 2 (some .int) ∈ xWS := ⟨xWS_mem 391 (by decide +kernel) rfl, xWS_mem 74 (by decide +kernel) rfl, xWS_mem 392 (by decide +kernel) rfl⟩
theorem mw_abs : Cond.static Lib.Math.abs.name ∈ xWS ∧ Cond.initialized "java/lang/Math" ∈ xWS ∧ Cond.code Lib.Math.abs.name Lib.Math.abs.code 1 (some .int) ∈ xWS := ⟨xWS_mem 439 (by decide +kernel) rfl, xWS_mem 74 (by decide +kernel) rfl, xWS_mem 440 (by decide +kernel) rfl⟩
theorem cw_copy : Cond.native arraycopyName ∈ xWS ∧ Cond.static arraycopyName ∈ xWS ∧ Cond.initialized "java/lang/System" ∈ xWS := ⟨xWS_mem 565 (by decide +kernel) rfl, xWS_mem 564 (by decide +kernel) rfl, xWS_mem 76 (by decide +kernel) rfl⟩
theorem cl_X0_41 : Cond.methodLink RX0 41 arraycopyName ∈ xWS := xWS_mem 820 (by decide +kernel) rfl
theorem cl_X3_22 : Cond.methodLink RX3 22 arraycopyName ∈ xWS := xWS_mem 880 (by decide +kernel) rfl
theorem cl_X5_47 : Cond.methodLink RX5 47 arraycopyName ∈ xWS := xWS_mem 563 (by decide +kernel) rfl
theorem cl_X6_291 : Cond.methodLink RX6 291 arraycopyName ∈ xWS := xWS_mem 868 (by decide +kernel) rfl
theorem cw_X0_47 : xCS RX0 47 yX0_leaf cX0_leaf 4 (some .int) 4 := ⟨xWS_mem 381 (by decide +kernel) rfl, xWS_mem 382 (by decide +kernel) rfl, xWS_mem 67 (by decide +kernel) rfl, xWS_mem 383 (by decide +kernel) rfl, rfl, by decide, by decide, by decide +kernel⟩
theorem cw_X0_51 : xCS RX0 51 yX0_join cX0_join 3 (some .int) 3 := ⟨xWS_mem 384 (by decide +kernel) rfl, xWS_mem 385 (by decide +kernel) rfl, xWS_mem 67 (by decide +kernel) rfl, xWS_mem 386 (by decide +kernel) rfl, rfl, by decide, by decide, by decide +kernel⟩
theorem cw_X1_27 : xCV RX1 27 yX5_valueOf cX5_valueOf 2 (some .int) 1 5 := ⟨xWS_mem 535 (by decide +kernel) rfl, xWS_mem 367 (by decide +kernel) rfl, xWS_mem 368 (by decide +kernel) rfl, xWS_mem 69 (by decide +kernel) rfl, xWS_mem 369 (by decide +kernel) rfl, rfl, by decide, by decide, by decide +kernel, _, rfl, rfl⟩
theorem cw_X1_48 : xCV RX1 48 yX1_canStand cX1_canStand 4 (some .boolean) 2 1 := ⟨xWS_mem 541 (by decide +kernel) rfl, xWS_mem 542 (by decide +kernel) rfl, xWS_mem 543 (by decide +kernel) rfl, xWS_mem 70 (by decide +kernel) rfl, xWS_mem 544 (by decide +kernel) rfl, rfl, by decide, by decide, by decide +kernel, _, rfl, rfl⟩
theorem cw_X1_52 : xCN RX1 52 yX6_sumOver "DayMarket" cX6_sumOver 4 (some .int) 2 := ⟨by decide +kernel, xWS_mem 546 (by decide +kernel) rfl, xWS_mem 66 (by decide +kernel) rfl, xWS_mem 547 (by decide +kernel) rfl, rfl, by decide, by decide, by decide +kernel⟩
theorem cw_X1_56 : xCS RX1 56 yJ6_bitCount_0f7a4 cJ6_bitCount_0f7a4 1 (some .int) 1 := ⟨xWS_mem 548 (by decide +kernel) rfl, xWS_mem 549 (by decide +kernel) rfl, xWS_mem 75 (by decide +kernel) rfl, xWS_mem 550 (by decide +kernel) rfl, rfl, by decide, by decide, by decide +kernel⟩
theorem cw_X2_116 : xCS RX2 116 yX2_isLetter cX2_isLetter 1 (some .boolean) 1 := ⟨xWS_mem 643 (by decide +kernel) rfl, xWS_mem 644 (by decide +kernel) rfl, xWS_mem 68 (by decide +kernel) rfl, xWS_mem 645 (by decide +kernel) rfl, rfl, by decide, by decide, by decide +kernel⟩
theorem cw_X2_119 : xCV RX2 119 yX2_takeLetters cX2_takeLetters 2 none 1 2 := ⟨xWS_mem 646 (by decide +kernel) rfl, xWS_mem 648 (by decide +kernel) rfl, xWS_mem 4 (by decide +kernel) rfl, xWS_mem 68 (by decide +kernel) rfl, xWS_mem 649 (by decide +kernel) rfl, rfl, by decide, by decide, by decide +kernel, _, rfl, rfl⟩
theorem cw_X2_123 : xCS RX2 123 yX2_isDigit cX2_isDigit 1 (some .boolean) 1 := ⟨xWS_mem 650 (by decide +kernel) rfl, xWS_mem 651 (by decide +kernel) rfl, xWS_mem 68 (by decide +kernel) rfl, xWS_mem 652 (by decide +kernel) rfl, rfl, by decide, by decide, by decide +kernel⟩
theorem cw_X2_126 : xCV RX2 126 yX2_takeDigits cX2_takeDigits 2 none 1 2 := ⟨xWS_mem 653 (by decide +kernel) rfl, xWS_mem 655 (by decide +kernel) rfl, xWS_mem 5 (by decide +kernel) rfl, xWS_mem 68 (by decide +kernel) rfl, xWS_mem 656 (by decide +kernel) rfl, rfl, by decide, by decide, by decide +kernel, _, rfl, rfl⟩
theorem cw_X2_34 : xCV RX2 34 yX2_goToNext cX2_goToNext 3 none 0 2 := ⟨xWS_mem 639 (by decide +kernel) rfl, xWS_mem 641 (by decide +kernel) rfl, xWS_mem 3 (by decide +kernel) rfl, xWS_mem 68 (by decide +kernel) rfl, xWS_mem 642 (by decide +kernel) rfl, rfl, by decide, by decide, by decide +kernel, _, rfl, rfl⟩
theorem cw_X2_59 : xCV RX2 59 yX2_addStep cX2_addStep 2 none 1 2 := ⟨xWS_mem 731 (by decide +kernel) rfl, xWS_mem 733 (by decide +kernel) rfl, xWS_mem 11 (by decide +kernel) rfl, xWS_mem 68 (by decide +kernel) rfl, xWS_mem 734 (by decide +kernel) rfl, rfl, by decide, by decide, by decide +kernel, _, rfl, rfl⟩
theorem cw_X2_69 : xCV RX2 69 yX2_isSign cX2_isSign 2 (some .boolean) 1 2 := ⟨xWS_mem 800 (by decide +kernel) rfl, xWS_mem 802 (by decide +kernel) rfl, xWS_mem 13 (by decide +kernel) rfl, xWS_mem 68 (by decide +kernel) rfl, xWS_mem 803 (by decide +kernel) rfl, rfl, by decide, by decide, by decide +kernel, _, rfl, rfl⟩
theorem cw_X3_28 : xCN RX3 28 yX6_within "DayMarket" cX6_within 3 (some .boolean) 3 := ⟨by decide +kernel, xWS_mem 346 (by decide +kernel) rfl, xWS_mem 66 (by decide +kernel) rfl, xWS_mem 347 (by decide +kernel) rfl, rfl, by decide, by decide, by decide +kernel⟩
theorem cw_X5_103 : xCV RX5 103 yX5_bidOf cX5_bidOf 5 (some .int) 3 5 := ⟨xWS_mem 494 (by decide +kernel) rfl, xWS_mem 435 (by decide +kernel) rfl, xWS_mem 436 (by decide +kernel) rfl, xWS_mem 69 (by decide +kernel) rfl, xWS_mem 437 (by decide +kernel) rfl, rfl, by decide, by decide, by decide +kernel, _, rfl, rfl⟩
theorem cw_X5_106 : xCV RX5 106 yX5_wearDays cX5_wearDays 5 none 0 5 := ⟨xWS_mem 481 (by decide +kernel) rfl, xWS_mem 482 (by decide +kernel) rfl, xWS_mem 483 (by decide +kernel) rfl, xWS_mem 69 (by decide +kernel) rfl, xWS_mem 484 (by decide +kernel) rfl, rfl, by decide, by decide, by decide +kernel, _, rfl, rfl⟩
theorem cw_X5_109 : xCV RX5 109 yX5_sellDays cX5_sellDays 5 none 0 5 := ⟨xWS_mem 485 (by decide +kernel) rfl, xWS_mem 486 (by decide +kernel) rfl, xWS_mem 487 (by decide +kernel) rfl, xWS_mem 69 (by decide +kernel) rfl, xWS_mem 488 (by decide +kernel) rfl, rfl, by decide, by decide, by decide +kernel, _, rfl, rfl⟩
theorem cw_X5_112 : xCV RX5 112 yX5_valueOf cX5_valueOf 2 (some .int) 1 5 := ⟨xWS_mem 489 (by decide +kernel) rfl, xWS_mem 367 (by decide +kernel) rfl, xWS_mem 368 (by decide +kernel) rfl, xWS_mem 69 (by decide +kernel) rfl, xWS_mem 369 (by decide +kernel) rfl, rfl, by decide, by decide, by decide +kernel, _, rfl, rfl⟩
theorem cw_X5_115 : xCV RX5 115 yX5_bestBidder cX5_bestBidder 7 (some .int) 2 5 := ⟨xWS_mem 490 (by decide +kernel) rfl, xWS_mem 491 (by decide +kernel) rfl, xWS_mem 492 (by decide +kernel) rfl, xWS_mem 69 (by decide +kernel) rfl, xWS_mem 493 (by decide +kernel) rfl, rfl, by decide, by decide, by decide +kernel, _, rfl, rfl⟩
theorem cw_X5_118 : xCV RX5 118 yX5_sell cX5_sell 6 none 3 5 := ⟨xWS_mem 495 (by decide +kernel) rfl, xWS_mem 466 (by decide +kernel) rfl, xWS_mem 467 (by decide +kernel) rfl, xWS_mem 69 (by decide +kernel) rfl, xWS_mem 468 (by decide +kernel) rfl, rfl, by decide, by decide, by decide +kernel, _, rfl, rfl⟩
theorem cw_X5_122 : xCV RX5 122 yX5_howMany cX5_howMany 5 (some .int) 2 5 := ⟨xWS_mem 512 (by decide +kernel) rfl, xWS_mem 513 (by decide +kernel) rfl, xWS_mem 514 (by decide +kernel) rfl, xWS_mem 69 (by decide +kernel) rfl, xWS_mem 515 (by decide +kernel) rfl, rfl, by decide, by decide, by decide +kernel, _, rfl, rfl⟩
theorem cw_X5_125 : xCV RX5 125 yX5_trueTone cX5_trueTone 4 (some .int) 1 5 := ⟨xWS_mem 526 (by decide +kernel) rfl, xWS_mem 509 (by decide +kernel) rfl, xWS_mem 510 (by decide +kernel) rfl, xWS_mem 69 (by decide +kernel) rfl, xWS_mem 511 (by decide +kernel) rfl, rfl, by decide, by decide, by decide +kernel, _, rfl, rfl⟩
theorem cw_X5_70 : xCV RX5 70 yX5_draw cX5_draw 1 (some .int) 0 5 := ⟨xWS_mem 450 (by decide +kernel) rfl, xWS_mem 451 (by decide +kernel) rfl, xWS_mem 452 (by decide +kernel) rfl, xWS_mem 69 (by decide +kernel) rfl, xWS_mem 453 (by decide +kernel) rfl, rfl, by decide, by decide, by decide +kernel, _, rfl, rfl⟩
theorem cw_X5_74 : xCV RX5 74 yX5_addDay cX5_addDay 6 (some .int) 4 5 := ⟨xWS_mem 455 (by decide +kernel) rfl, xWS_mem 354 (by decide +kernel) rfl, xWS_mem 355 (by decide +kernel) rfl, xWS_mem 69 (by decide +kernel) rfl, xWS_mem 356 (by decide +kernel) rfl, rfl, by decide, by decide, by decide +kernel, _, rfl, rfl⟩
theorem cw_X5_84 : xCV RX5 84 yX0_workOut cX0_workOut 9 (some .int) 4 0 := ⟨xWS_mem 377 (by decide +kernel) rfl, xWS_mem 378 (by decide +kernel) rfl, xWS_mem 379 (by decide +kernel) rfl, xWS_mem 67 (by decide +kernel) rfl, xWS_mem 380 (by decide +kernel) rfl, rfl, by decide, by decide, by decide +kernel, _, rfl, rfl⟩
theorem cw_X5_89 : xCN RX5 89 yX6_held "DayMarket" cX6_held 3 (some .int) 3 := ⟨by decide +kernel, xWS_mem 388 (by decide +kernel) rfl, xWS_mem 66 (by decide +kernel) rfl, xWS_mem 389 (by decide +kernel) rfl, rfl, by decide, by decide, by decide +kernel⟩
theorem cw_X5_93 : xCV RX5 93 yX5_priceOf cX5_priceOf 4 (some .int) 2 5 := ⟨xWS_mem 370 (by decide +kernel) rfl, xWS_mem 371 (by decide +kernel) rfl, xWS_mem 372 (by decide +kernel) rfl, xWS_mem 69 (by decide +kernel) rfl, xWS_mem 373 (by decide +kernel) rfl, rfl, by decide, by decide, by decide +kernel, _, rfl, rfl⟩
theorem cw_X6_115 : xCV RX6 115 yX5_valueOf cX5_valueOf 2 (some .int) 1 5 := ⟨xWS_mem 366 (by decide +kernel) rfl, xWS_mem 367 (by decide +kernel) rfl, xWS_mem 368 (by decide +kernel) rfl, xWS_mem 69 (by decide +kernel) rfl, xWS_mem 369 (by decide +kernel) rfl, rfl, by decide, by decide, by decide +kernel, _, rfl, rfl⟩
theorem cw_X6_119 : xCS RX6 119 yX6_worthOf cX6_worthOf 2 (some .int) 2 := ⟨xWS_mem 394 (by decide +kernel) rfl, xWS_mem 395 (by decide +kernel) rfl, xWS_mem 66 (by decide +kernel) rfl, xWS_mem 396 (by decide +kernel) rfl, rfl, by decide, by decide, by decide +kernel⟩
theorem cw_X6_128 : xCS RX6 128 yX6_exchange cX6_exchange 4 (some .int) 3 := ⟨xWS_mem 411 (by decide +kernel) rfl, xWS_mem 412 (by decide +kernel) rfl, xWS_mem 66 (by decide +kernel) rfl, xWS_mem 413 (by decide +kernel) rfl, rfl, by decide, by decide, by decide +kernel⟩
theorem cw_X6_138 : xCV RX6 138 yX5_daysOf cX5_daysOf 4 (some .int) 1 5 := ⟨xWS_mem 422 (by decide +kernel) rfl, xWS_mem 423 (by decide +kernel) rfl, xWS_mem 424 (by decide +kernel) rfl, xWS_mem 69 (by decide +kernel) rfl, xWS_mem 425 (by decide +kernel) rfl, rfl, by decide, by decide, by decide +kernel, _, rfl, rfl⟩
theorem cw_X6_141 : xCV RX6 141 yX5_bidOf cX5_bidOf 5 (some .int) 3 5 := ⟨xWS_mem 434 (by decide +kernel) rfl, xWS_mem 435 (by decide +kernel) rfl, xWS_mem 436 (by decide +kernel) rfl, xWS_mem 69 (by decide +kernel) rfl, xWS_mem 437 (by decide +kernel) rfl, rfl, by decide, by decide, by decide +kernel, _, rfl, rfl⟩
theorem cw_X6_150 : xCV RX6 150 yX5_drawDay cX5_drawDay 5 none 0 5 := ⟨xWS_mem 446 (by decide +kernel) rfl, xWS_mem 447 (by decide +kernel) rfl, xWS_mem 448 (by decide +kernel) rfl, xWS_mem 69 (by decide +kernel) rfl, xWS_mem 449 (by decide +kernel) rfl, rfl, by decide, by decide, by decide +kernel, _, rfl, rfl⟩
theorem cw_X6_157 : xCV RX6 157 yX5_sell cX5_sell 6 none 3 5 := ⟨xWS_mem 465 (by decide +kernel) rfl, xWS_mem 466 (by decide +kernel) rfl, xWS_mem 467 (by decide +kernel) rfl, xWS_mem 69 (by decide +kernel) rfl, xWS_mem 468 (by decide +kernel) rfl, rfl, by decide, by decide, by decide +kernel, _, rfl, rfl⟩
theorem cw_X6_164 : xCV RX6 164 yX5_marketsLeft cX5_marketsLeft 2 (some .int) 1 5 := ⟨xWS_mem 473 (by decide +kernel) rfl, xWS_mem 474 (by decide +kernel) rfl, xWS_mem 475 (by decide +kernel) rfl, xWS_mem 69 (by decide +kernel) rfl, xWS_mem 476 (by decide +kernel) rfl, rfl, by decide, by decide, by decide +kernel, _, rfl, rfl⟩
theorem cw_X6_167 : xCV RX6 167 yX5_goOn cX5_goOn 3 none 1 5 := ⟨xWS_mem 477 (by decide +kernel) rfl, xWS_mem 478 (by decide +kernel) rfl, xWS_mem 479 (by decide +kernel) rfl, xWS_mem 69 (by decide +kernel) rfl, xWS_mem 480 (by decide +kernel) rfl, rfl, by decide, by decide, by decide +kernel, _, rfl, rfl⟩
theorem cw_X6_174 : xCV RX6 174 yX5_allCoins cX5_allCoins 3 (some .int) 0 5 := ⟨xWS_mem 500 (by decide +kernel) rfl, xWS_mem 501 (by decide +kernel) rfl, xWS_mem 502 (by decide +kernel) rfl, xWS_mem 69 (by decide +kernel) rfl, xWS_mem 503 (by decide +kernel) rfl, rfl, by decide, by decide, by decide +kernel, _, rfl, rfl⟩
theorem cw_X6_178 : xCV RX6 178 yX5_trueTone cX5_trueTone 4 (some .int) 1 5 := ⟨xWS_mem 508 (by decide +kernel) rfl, xWS_mem 509 (by decide +kernel) rfl, xWS_mem 510 (by decide +kernel) rfl, xWS_mem 69 (by decide +kernel) rfl, xWS_mem 511 (by decide +kernel) rfl, rfl, by decide, by decide, by decide +kernel, _, rfl, rfl⟩
theorem cw_X6_181 : xCV RX6 181 yX5_howMany cX5_howMany 5 (some .int) 2 5 := ⟨xWS_mem 516 (by decide +kernel) rfl, xWS_mem 513 (by decide +kernel) rfl, xWS_mem 514 (by decide +kernel) rfl, xWS_mem 69 (by decide +kernel) rfl, xWS_mem 515 (by decide +kernel) rfl, rfl, by decide, by decide, by decide +kernel, _, rfl, rfl⟩
theorem cw_X6_185 : xCV RX6 185 yX5_falseDays cX5_falseDays 3 (some .int) 0 5 := ⟨xWS_mem 522 (by decide +kernel) rfl, xWS_mem 523 (by decide +kernel) rfl, xWS_mem 524 (by decide +kernel) rfl, xWS_mem 69 (by decide +kernel) rfl, xWS_mem 525 (by decide +kernel) rfl, rfl, by decide, by decide, by decide +kernel, _, rfl, rfl⟩
theorem cw_X6_188 : xCV RX6 188 yX1_lookAt cX1_lookAt 5 none 2 1 := ⟨xWS_mem 531 (by decide +kernel) rfl, xWS_mem 532 (by decide +kernel) rfl, xWS_mem 533 (by decide +kernel) rfl, xWS_mem 70 (by decide +kernel) rfl, xWS_mem 534 (by decide +kernel) rfl, rfl, by decide, by decide, by decide +kernel, _, rfl, rfl⟩
theorem cw_X6_192 : xCV RX6 192 yX1_bestSet cX1_bestSet 7 (some .int) 2 1 := ⟨xWS_mem 537 (by decide +kernel) rfl, xWS_mem 538 (by decide +kernel) rfl, xWS_mem 539 (by decide +kernel) rfl, xWS_mem 70 (by decide +kernel) rfl, xWS_mem 540 (by decide +kernel) rfl, rfl, by decide, by decide, by decide +kernel, _, rfl, rfl⟩
theorem cw_X6_198 : xCS RX6 198 yX6_sumOver cX6_sumOver 4 (some .int) 2 := ⟨xWS_mem 554 (by decide +kernel) rfl, xWS_mem 546 (by decide +kernel) rfl, xWS_mem 66 (by decide +kernel) rfl, xWS_mem 547 (by decide +kernel) rfl, rfl, by decide, by decide, by decide +kernel⟩
theorem cw_X6_205 : xCV RX6 205 yX5_become cX5_become 2 none 1 5 := ⟨xWS_mem 559 (by decide +kernel) rfl, xWS_mem 560 (by decide +kernel) rfl, xWS_mem 561 (by decide +kernel) rfl, xWS_mem 69 (by decide +kernel) rfl, xWS_mem 562 (by decide +kernel) rfl, rfl, by decide, by decide, by decide +kernel, _, rfl, rfl⟩
theorem cw_X6_209 : xCV RX6 209 yX5_bestBidder cX5_bestBidder 7 (some .int) 2 5 := ⟨xWS_mem 566 (by decide +kernel) rfl, xWS_mem 491 (by decide +kernel) rfl, xWS_mem 492 (by decide +kernel) rfl, xWS_mem 69 (by decide +kernel) rfl, xWS_mem 493 (by decide +kernel) rfl, rfl, by decide, by decide, by decide +kernel, _, rfl, rfl⟩
theorem cw_X6_212 : xCV RX6 212 yX5_allValue cX5_allValue 3 (some .int) 0 5 := ⟨xWS_mem 579 (by decide +kernel) rfl, xWS_mem 580 (by decide +kernel) rfl, xWS_mem 581 (by decide +kernel) rfl, xWS_mem 69 (by decide +kernel) rfl, xWS_mem 582 (by decide +kernel) rfl, rfl, by decide, by decide, by decide +kernel, _, rfl, rfl⟩
theorem cw_X6_215 : xCS RX6 215 yX6_isSheet cX6_isSheet 1 (some .boolean) 1 := ⟨xWS_mem 595 (by decide +kernel) rfl, xWS_mem 596 (by decide +kernel) rfl, xWS_mem 66 (by decide +kernel) rfl, xWS_mem 597 (by decide +kernel) rfl, rfl, by decide, by decide, by decide +kernel⟩
theorem cw_X6_222 : xCV RX6 222 yX6_startDifferences cX6_startDifferences 2 none 0 6 := ⟨xWS_mem 599 (by decide +kernel) rfl, xWS_mem 601 (by decide +kernel) rfl, xWS_mem 1 (by decide +kernel) rfl, xWS_mem 66 (by decide +kernel) rfl, xWS_mem 602 (by decide +kernel) rfl, rfl, by decide, by decide, by decide +kernel, _, rfl, rfl⟩
theorem cw_X6_228 : xCV RX6 228 yX3_isNumber cX3_isNumber 2 (some .boolean) 1 3 := ⟨xWS_mem 603 (by decide +kernel) rfl, xWS_mem 604 (by decide +kernel) rfl, xWS_mem 605 (by decide +kernel) rfl, xWS_mem 71 (by decide +kernel) rfl, xWS_mem 606 (by decide +kernel) rfl, rfl, by decide, by decide, by decide +kernel, _, rfl, rfl⟩
theorem cw_X6_234 : xCV RX6 234 yX6_addDifferences cX6_addDifferences 3 none 1 6 := ⟨xWS_mem 608 (by decide +kernel) rfl, xWS_mem 610 (by decide +kernel) rfl, xWS_mem 2 (by decide +kernel) rfl, xWS_mem 66 (by decide +kernel) rfl, xWS_mem 611 (by decide +kernel) rfl, rfl, by decide, by decide, by decide +kernel, _, rfl, rfl⟩
theorem cw_X6_240 : xCS RX6 240 yJ6_bitCount_0f7a4 cJ6_bitCount_0f7a4 1 (some .int) 1 := ⟨xWS_mem 617 (by decide +kernel) rfl, xWS_mem 549 (by decide +kernel) rfl, xWS_mem 75 (by decide +kernel) rfl, xWS_mem 550 (by decide +kernel) rfl, rfl, by decide, by decide, by decide +kernel⟩
theorem cw_X6_245 : xCV RX6 245 yX0_workOut cX0_workOut 9 (some .int) 4 0 := ⟨xWS_mem 618 (by decide +kernel) rfl, xWS_mem 378 (by decide +kernel) rfl, xWS_mem 379 (by decide +kernel) rfl, xWS_mem 67 (by decide +kernel) rfl, xWS_mem 380 (by decide +kernel) rfl, rfl, by decide, by decide, by decide +kernel, _, rfl, rfl⟩
theorem cw_X6_249 : xCV RX6 249 yX2_takeIn cX2_takeIn 3 none 1 2 := ⟨xWS_mem 623 (by decide +kernel) rfl, xWS_mem 624 (by decide +kernel) rfl, xWS_mem 625 (by decide +kernel) rfl, xWS_mem 68 (by decide +kernel) rfl, xWS_mem 626 (by decide +kernel) rfl, rfl, by decide, by decide, by decide +kernel, _, rfl, rfl⟩
theorem cw_X6_274 : xCV RX6 274 yX3_renew cX3_renew 4 none 2 3 := ⟨xWS_mem 834 (by decide +kernel) rfl, xWS_mem 835 (by decide +kernel) rfl, xWS_mem 836 (by decide +kernel) rfl, xWS_mem 71 (by decide +kernel) rfl, xWS_mem 837 (by decide +kernel) rfl, rfl, by decide, by decide, by decide +kernel, _, rfl, rfl⟩
theorem cw_X6_279 : xCV RX6 279 yX3_hasPlace cX3_hasPlace 2 (some .boolean) 1 3 := ⟨xWS_mem 843 (by decide +kernel) rfl, xWS_mem 844 (by decide +kernel) rfl, xWS_mem 845 (by decide +kernel) rfl, xWS_mem 71 (by decide +kernel) rfl, xWS_mem 846 (by decide +kernel) rfl, rfl, by decide, by decide, by decide +kernel, _, rfl, rfl⟩
theorem cw_X6_285 : xCS RX6 285 yX6_held cX6_held 3 (some .int) 3 := ⟨xWS_mem 855 (by decide +kernel) rfl, xWS_mem 388 (by decide +kernel) rfl, xWS_mem 66 (by decide +kernel) rfl, xWS_mem 389 (by decide +kernel) rfl, rfl, by decide, by decide, by decide +kernel⟩
theorem cw_X6_288 : xCV RX6 288 yX3_hasRun cX3_hasRun 3 (some .boolean) 2 3 := ⟨xWS_mem 864 (by decide +kernel) rfl, xWS_mem 865 (by decide +kernel) rfl, xWS_mem 866 (by decide +kernel) rfl, xWS_mem 71 (by decide +kernel) rfl, xWS_mem 867 (by decide +kernel) rfl, rfl, by decide, by decide, by decide +kernel, _, rfl, rfl⟩
theorem cw_X6_297 : xCS RX6 297 yX6_isSlot cX6_isSlot 1 (some .boolean) 1 := ⟨xWS_mem 873 (by decide +kernel) rfl, xWS_mem 874 (by decide +kernel) rfl, xWS_mem 66 (by decide +kernel) rfl, xWS_mem 875 (by decide +kernel) rfl, rfl, by decide, by decide, by decide +kernel⟩
theorem cw_X6_311 : xCV RX6 311 yX3_become cX3_become 2 none 1 3 := ⟨xWS_mem 876 (by decide +kernel) rfl, xWS_mem 877 (by decide +kernel) rfl, xWS_mem 878 (by decide +kernel) rfl, xWS_mem 71 (by decide +kernel) rfl, xWS_mem 879 (by decide +kernel) rfl, rfl, by decide, by decide, by decide +kernel, _, rfl, rfl⟩
theorem cw_X6_317 : xCV RX6 317 yX5_allWear cX5_allWear 3 (some .int) 0 5 := ⟨xWS_mem 901 (by decide +kernel) rfl, xWS_mem 902 (by decide +kernel) rfl, xWS_mem 903 (by decide +kernel) rfl, xWS_mem 69 (by decide +kernel) rfl, xWS_mem 904 (by decide +kernel) rfl, rfl, by decide, by decide, by decide +kernel, _, rfl, rfl⟩
theorem cw_X6_74 : xCS RX6 74 yX6_isKind cX6_isKind 1 (some .boolean) 1 := ⟨xWS_mem 342 (by decide +kernel) rfl, xWS_mem 343 (by decide +kernel) rfl, xWS_mem 66 (by decide +kernel) rfl, xWS_mem 344 (by decide +kernel) rfl, rfl, by decide, by decide, by decide +kernel⟩
theorem cw_X6_78 : xCS RX6 78 yX6_within cX6_within 3 (some .boolean) 3 := ⟨xWS_mem 345 (by decide +kernel) rfl, xWS_mem 346 (by decide +kernel) rfl, xWS_mem 66 (by decide +kernel) rfl, xWS_mem 347 (by decide +kernel) rfl, rfl, by decide, by decide, by decide +kernel⟩
theorem cw_X6_82 : xCS RX6 82 yX6_isOne cX6_isOne 1 (some .boolean) 1 := ⟨xWS_mem 348 (by decide +kernel) rfl, xWS_mem 349 (by decide +kernel) rfl, xWS_mem 66 (by decide +kernel) rfl, xWS_mem 350 (by decide +kernel) rfl, rfl, by decide, by decide, by decide +kernel⟩
theorem cw_X6_90 : xCV RX6 90 yX5_addDay cX5_addDay 6 (some .int) 4 5 := ⟨xWS_mem 353 (by decide +kernel) rfl, xWS_mem 354 (by decide +kernel) rfl, xWS_mem 355 (by decide +kernel) rfl, xWS_mem 69 (by decide +kernel) rfl, xWS_mem 356 (by decide +kernel) rfl, rfl, by decide, by decide, by decide +kernel, _, rfl, rfl⟩
theorem cw_X6_94 : xCV RX6 94 yX6_isDay cX6_isDay 2 (some .boolean) 1 6 := ⟨xWS_mem 362 (by decide +kernel) rfl, xWS_mem 364 (by decide +kernel) rfl, xWS_mem 0 (by decide +kernel) rfl, xWS_mem 66 (by decide +kernel) rfl, xWS_mem 365 (by decide +kernel) rfl, rfl, by decide, by decide, by decide +kernel, _, rfl, rfl⟩
theorem cw_X7_101 : xCS RX7 101 yX7_within cX7_within 2 (some .int) 2 := ⟨xWS_mem 1072 (by decide +kernel) rfl, xWS_mem 1073 (by decide +kernel) rfl, xWS_mem 73 (by decide +kernel) rfl, xWS_mem 1074 (by decide +kernel) rfl, rfl, by decide, by decide, by decide +kernel⟩
theorem cw_X7_104 : xCV RX7 104 yX7_worked cX7_worked 6 (some .int) 1 7 := ⟨xWS_mem 1075 (by decide +kernel) rfl, xWS_mem 1077 (by decide +kernel) rfl, xWS_mem 25 (by decide +kernel) rfl, xWS_mem 73 (by decide +kernel) rfl, xWS_mem 1078 (by decide +kernel) rfl, rfl, by decide, by decide, by decide +kernel, _, rfl, rfl⟩
theorem cw_X7_107 : xCV RX7 107 yX7_priceBy cX7_priceBy 4 (some .int) 2 7 := ⟨xWS_mem 1060 (by decide +kernel) rfl, xWS_mem 1062 (by decide +kernel) rfl, xWS_mem 22 (by decide +kernel) rfl, xWS_mem 73 (by decide +kernel) rfl, xWS_mem 1063 (by decide +kernel) rfl, rfl, by decide, by decide, by decide +kernel, _, rfl, rfl⟩
theorem cw_X7_110 : xCV RX7 110 yX7_valueOf cX7_valueOf 3 (some .int) 1 7 := ⟨xWS_mem 1056 (by decide +kernel) rfl, xWS_mem 1058 (by decide +kernel) rfl, xWS_mem 21 (by decide +kernel) rfl, xWS_mem 73 (by decide +kernel) rfl, xWS_mem 1059 (by decide +kernel) rfl, rfl, by decide, by decide, by decide +kernel, _, rfl, rfl⟩
theorem cw_X7_113 : xCS RX7 113 yX7_off cX7_off 2 (some .int) 2 := ⟨xWS_mem 1129 (by decide +kernel) rfl, xWS_mem 1130 (by decide +kernel) rfl, xWS_mem 73 (by decide +kernel) rfl, xWS_mem 1131 (by decide +kernel) rfl, rfl, by decide, by decide, by decide +kernel⟩
theorem cw_X7_117 : xCV RX7 117 yX7_isDay cX7_isDay 2 (some .boolean) 1 7 := ⟨xWS_mem 1047 (by decide +kernel) rfl, xWS_mem 1049 (by decide +kernel) rfl, xWS_mem 19 (by decide +kernel) rfl, xWS_mem 73 (by decide +kernel) rfl, xWS_mem 1050 (by decide +kernel) rfl, rfl, by decide, by decide, by decide +kernel, _, rfl, rfl⟩
theorem cw_X7_122 : xCV RX7 122 yX7_worth cX7_worth 3 (some .int) 1 7 := ⟨xWS_mem 1082 (by decide +kernel) rfl, xWS_mem 1084 (by decide +kernel) rfl, xWS_mem 26 (by decide +kernel) rfl, xWS_mem 73 (by decide +kernel) rfl, xWS_mem 1085 (by decide +kernel) rfl, rfl, by decide, by decide, by decide +kernel, _, rfl, rfl⟩
theorem cw_X7_125 : xCS RX7 125 yX7_isOf cX7_isOf 2 (some .boolean) 2 := ⟨xWS_mem 1090 (by decide +kernel) rfl, xWS_mem 1091 (by decide +kernel) rfl, xWS_mem 73 (by decide +kernel) rfl, xWS_mem 1092 (by decide +kernel) rfl, rfl, by decide, by decide, by decide +kernel⟩
theorem cw_X7_130 : xCV RX7 130 yX7_becomes cX7_becomes 4 (some .int) 2 7 := ⟨xWS_mem 1098 (by decide +kernel) rfl, xWS_mem 1100 (by decide +kernel) rfl, xWS_mem 27 (by decide +kernel) rfl, xWS_mem 73 (by decide +kernel) rfl, xWS_mem 1101 (by decide +kernel) rfl, rfl, by decide, by decide, by decide +kernel, _, rfl, rfl⟩
theorem cw_X7_137 : xCV RX7 137 yX7_daysOf cX7_daysOf 4 (some .int) 1 7 := ⟨xWS_mem 1112 (by decide +kernel) rfl, xWS_mem 1114 (by decide +kernel) rfl, xWS_mem 28 (by decide +kernel) rfl, xWS_mem 73 (by decide +kernel) rfl, xWS_mem 1115 (by decide +kernel) rfl, rfl, by decide, by decide, by decide +kernel, _, rfl, rfl⟩
theorem cw_X7_142 : xCV RX7 142 yX7_offerOf cX7_offerOf 5 (some .int) 2 7 := ⟨xWS_mem 1125 (by decide +kernel) rfl, xWS_mem 1127 (by decide +kernel) rfl, xWS_mem 29 (by decide +kernel) rfl, xWS_mem 73 (by decide +kernel) rfl, xWS_mem 1128 (by decide +kernel) rfl, rfl, by decide, by decide, by decide +kernel, _, rfl, rfl⟩
theorem cw_X7_147 : xCV RX7 147 yX7_drawn cX7_drawn 1 (some .int) 0 7 := ⟨xWS_mem 1138 (by decide +kernel) rfl, xWS_mem 1140 (by decide +kernel) rfl, xWS_mem 30 (by decide +kernel) rfl, xWS_mem 73 (by decide +kernel) rfl, xWS_mem 1141 (by decide +kernel) rfl, rfl, by decide, by decide, by decide +kernel, _, rfl, rfl⟩
theorem cw_X7_152 : xCV RX7 152 yX7_sells cX7_sells 6 none 3 7 := ⟨xWS_mem 1152 (by decide +kernel) rfl, xWS_mem 1154 (by decide +kernel) rfl, xWS_mem 31 (by decide +kernel) rfl, xWS_mem 73 (by decide +kernel) rfl, xWS_mem 1155 (by decide +kernel) rfl, rfl, by decide, by decide, by decide +kernel, _, rfl, rfl⟩
theorem cw_X7_155 : xCV RX7 155 yX7_wears cX7_wears 4 (some .int) 2 7 := ⟨xWS_mem 1165 (by decide +kernel) rfl, xWS_mem 1167 (by decide +kernel) rfl, xWS_mem 33 (by decide +kernel) rfl, xWS_mem 73 (by decide +kernel) rfl, xWS_mem 1168 (by decide +kernel) rfl, rfl, by decide, by decide, by decide +kernel, _, rfl, rfl⟩
theorem cw_X7_158 : xCV RX7 158 yX7_bidder cX7_bidder 6 (some .int) 1 7 := ⟨xWS_mem 1169 (by decide +kernel) rfl, xWS_mem 1171 (by decide +kernel) rfl, xWS_mem 34 (by decide +kernel) rfl, xWS_mem 73 (by decide +kernel) rfl, xWS_mem 1172 (by decide +kernel) rfl, rfl, by decide, by decide, by decide +kernel, _, rfl, rfl⟩
theorem cw_X7_163 : xCV RX7 163 yX7_goesOn cX7_goesOn 4 none 0 7 := ⟨xWS_mem 1161 (by decide +kernel) rfl, xWS_mem 1163 (by decide +kernel) rfl, xWS_mem 32 (by decide +kernel) rfl, xWS_mem 73 (by decide +kernel) rfl, xWS_mem 1164 (by decide +kernel) rfl, rfl, by decide, by decide, by decide +kernel, _, rfl, rfl⟩
theorem cw_X7_166 : xCV RX7 166 yX7_allCoins cX7_allCoins 3 (some .int) 0 7 := ⟨xWS_mem 1177 (by decide +kernel) rfl, xWS_mem 1179 (by decide +kernel) rfl, xWS_mem 35 (by decide +kernel) rfl, xWS_mem 73 (by decide +kernel) rfl, xWS_mem 1180 (by decide +kernel) rfl, rfl, by decide, by decide, by decide +kernel, _, rfl, rfl⟩
theorem cw_X7_169 : xCV RX7 169 yX7_manyWith cX7_manyWith 5 (some .int) 2 7 := ⟨xWS_mem 1189 (by decide +kernel) rfl, xWS_mem 1191 (by decide +kernel) rfl, xWS_mem 37 (by decide +kernel) rfl, xWS_mem 73 (by decide +kernel) rfl, xWS_mem 1192 (by decide +kernel) rfl, rfl, by decide, by decide, by decide +kernel, _, rfl, rfl⟩
theorem cw_X7_172 : xCV RX7 172 yX7_trueOf cX7_trueOf 6 (some .int) 1 7 := ⟨xWS_mem 1185 (by decide +kernel) rfl, xWS_mem 1187 (by decide +kernel) rfl, xWS_mem 36 (by decide +kernel) rfl, xWS_mem 73 (by decide +kernel) rfl, xWS_mem 1188 (by decide +kernel) rfl, rfl, by decide, by decide, by decide +kernel, _, rfl, rfl⟩
theorem cw_X7_175 : xCS RX7 175 yX7_orNone cX7_orNone 1 (some .int) 1 := ⟨xWS_mem 1193 (by decide +kernel) rfl, xWS_mem 1194 (by decide +kernel) rfl, xWS_mem 73 (by decide +kernel) rfl, xWS_mem 1195 (by decide +kernel) rfl, rfl, by decide, by decide, by decide +kernel⟩
theorem cw_X7_178 : xCV RX7 178 yX7_joy cX7_joy 3 (some .int) 2 7 := ⟨xWS_mem 1209 (by decide +kernel) rfl, xWS_mem 1211 (by decide +kernel) rfl, xWS_mem 39 (by decide +kernel) rfl, xWS_mem 73 (by decide +kernel) rfl, xWS_mem 1212 (by decide +kernel) rfl, rfl, by decide, by decide, by decide +kernel, _, rfl, rfl⟩
theorem cw_X7_181 : xCV RX7 181 yX7_joyOf cX7_joyOf 5 (some .int) 2 7 := ⟨xWS_mem 1205 (by decide +kernel) rfl, xWS_mem 1207 (by decide +kernel) rfl, xWS_mem 38 (by decide +kernel) rfl, xWS_mem 73 (by decide +kernel) rfl, xWS_mem 1208 (by decide +kernel) rfl, rfl, by decide, by decide, by decide +kernel, _, rfl, rfl⟩
theorem cw_X7_184 : xCS RX7 184 yX7_manyIn cX7_manyIn 3 (some .int) 1 := ⟨xWS_mem 1213 (by decide +kernel) rfl, xWS_mem 1214 (by decide +kernel) rfl, xWS_mem 73 (by decide +kernel) rfl, xWS_mem 1215 (by decide +kernel) rfl, rfl, by decide, by decide, by decide +kernel⟩
theorem cw_X7_187 : xCV RX7 187 yX7_valuesOf cX7_valuesOf 4 (some .int) 1 7 := ⟨xWS_mem 1216 (by decide +kernel) rfl, xWS_mem 1218 (by decide +kernel) rfl, xWS_mem 40 (by decide +kernel) rfl, xWS_mem 73 (by decide +kernel) rfl, xWS_mem 1219 (by decide +kernel) rfl, rfl, by decide, by decide, by decide +kernel, _, rfl, rfl⟩
theorem cw_X7_190 : xCV RX7 190 yX7_areApart cX7_areApart 4 (some .boolean) 1 7 := ⟨xWS_mem 1220 (by decide +kernel) rfl, xWS_mem 1222 (by decide +kernel) rfl, xWS_mem 41 (by decide +kernel) rfl, xWS_mem 73 (by decide +kernel) rfl, xWS_mem 1223 (by decide +kernel) rfl, rfl, by decide, by decide, by decide +kernel, _, rfl, rfl⟩
theorem cw_X7_193 : xCV RX7 193 yX7_laysBy cX7_laysBy 2 none 0 7 := ⟨xWS_mem 1228 (by decide +kernel) rfl, xWS_mem 1230 (by decide +kernel) rfl, xWS_mem 42 (by decide +kernel) rfl, xWS_mem 73 (by decide +kernel) rfl, xWS_mem 1231 (by decide +kernel) rfl, rfl, by decide, by decide, by decide +kernel, _, rfl, rfl⟩
theorem cw_X7_196 : xCV RX7 196 yX7_laysBack cX7_laysBack 2 none 0 7 := ⟨xWS_mem 1232 (by decide +kernel) rfl, xWS_mem 1234 (by decide +kernel) rfl, xWS_mem 43 (by decide +kernel) rfl, xWS_mem 73 (by decide +kernel) rfl, xWS_mem 1235 (by decide +kernel) rfl, rfl, by decide, by decide, by decide +kernel, _, rfl, rfl⟩
theorem cw_X7_201 : xCV RX7 201 yX7_goesOnMany cX7_goesOnMany 3 none 1 7 := ⟨xWS_mem 1241 (by decide +kernel) rfl, xWS_mem 1243 (by decide +kernel) rfl, xWS_mem 44 (by decide +kernel) rfl, xWS_mem 73 (by decide +kernel) rfl, xWS_mem 1244 (by decide +kernel) rfl, rfl, by decide, by decide, by decide +kernel, _, rfl, rfl⟩
theorem cw_X7_205 : xCV RX7 205 yX7_richestNow cX7_richestNow 3 (some .int) 0 7 := ⟨xWS_mem 1249 (by decide +kernel) rfl, xWS_mem 1251 (by decide +kernel) rfl, xWS_mem 45 (by decide +kernel) rfl, xWS_mem 73 (by decide +kernel) rfl, xWS_mem 1252 (by decide +kernel) rfl, rfl, by decide, by decide, by decide +kernel, _, rfl, rfl⟩
theorem cw_X7_208 : xCV RX7 208 yX7_allValues cX7_allValues 3 (some .int) 0 7 := ⟨xWS_mem 1257 (by decide +kernel) rfl, xWS_mem 1259 (by decide +kernel) rfl, xWS_mem 46 (by decide +kernel) rfl, xWS_mem 73 (by decide +kernel) rfl, xWS_mem 1260 (by decide +kernel) rfl, rfl, by decide, by decide, by decide +kernel, _, rfl, rfl⟩
theorem cw_X7_234 : xCV RX7 234 yX7_isLetter cX7_isLetter 2 (some .boolean) 1 7 := ⟨xWS_mem 1294 (by decide +kernel) rfl, xWS_mem 1296 (by decide +kernel) rfl, xWS_mem 49 (by decide +kernel) rfl, xWS_mem 73 (by decide +kernel) rfl, xWS_mem 1297 (by decide +kernel) rfl, rfl, by decide, by decide, by decide +kernel, _, rfl, rfl⟩
theorem cw_X7_240 : xCV RX7 240 yX7_isDigit cX7_isDigit 2 (some .boolean) 1 7 := ⟨xWS_mem 1300 (by decide +kernel) rfl, xWS_mem 1302 (by decide +kernel) rfl, xWS_mem 50 (by decide +kernel) rfl, xWS_mem 73 (by decide +kernel) rfl, xWS_mem 1303 (by decide +kernel) rfl, rfl, by decide, by decide, by decide +kernel, _, rfl, rfl⟩
theorem cw_X7_246 : xCV RX7 246 yX7_isLong cX7_isLong 8 (some .boolean) 6 7 := ⟨xWS_mem 1310 (by decide +kernel) rfl, xWS_mem 1312 (by decide +kernel) rfl, xWS_mem 52 (by decide +kernel) rfl, xWS_mem 73 (by decide +kernel) rfl, xWS_mem 1313 (by decide +kernel) rfl, rfl, by decide, by decide, by decide +kernel, _, rfl, rfl⟩
theorem cw_X7_250 : xCV RX7 250 yX7_isWordAt cX7_isWordAt 6 (some .boolean) 4 7 := ⟨xWS_mem 1314 (by decide +kernel) rfl, xWS_mem 1316 (by decide +kernel) rfl, xWS_mem 53 (by decide +kernel) rfl, xWS_mem 73 (by decide +kernel) rfl, xWS_mem 1317 (by decide +kernel) rfl, rfl, by decide, by decide, by decide +kernel, _, rfl, rfl⟩
theorem cw_X7_300 : xCV RX7 300 yX7_textAt cX7_textAt 2 (some .int) 1 7 := ⟨xWS_mem 1068 (by decide +kernel) rfl, xWS_mem 1070 (by decide +kernel) rfl, xWS_mem 24 (by decide +kernel) rfl, xWS_mem 73 (by decide +kernel) rfl, xWS_mem 1071 (by decide +kernel) rfl, rfl, by decide, by decide, by decide +kernel, _, rfl, rfl⟩
theorem cw_X7_309 : xCV RX7 309 yX7_isText cX7_isText 2 (some .boolean) 1 7 := ⟨xWS_mem 1357 (by decide +kernel) rfl, xWS_mem 1359 (by decide +kernel) rfl, xWS_mem 62 (by decide +kernel) rfl, xWS_mem 73 (by decide +kernel) rfl, xWS_mem 1360 (by decide +kernel) rfl, rfl, by decide, by decide, by decide +kernel, _, rfl, rfl⟩
theorem cw_X7_312 : xCS RX7 312 yX7_joined cX7_joined 3 (some .int) 3 := ⟨xWS_mem 1079 (by decide +kernel) rfl, xWS_mem 1080 (by decide +kernel) rfl, xWS_mem 73 (by decide +kernel) rfl, xWS_mem 1081 (by decide +kernel) rfl, rfl, by decide, by decide, by decide +kernel⟩
theorem cw_X7_316 : xCS RX7 316 yX7_isSheet cX7_isSheet 1 (some .boolean) 1 := ⟨xWS_mem 1369 (by decide +kernel) rfl, xWS_mem 1370 (by decide +kernel) rfl, xWS_mem 73 (by decide +kernel) rfl, xWS_mem 1371 (by decide +kernel) rfl, rfl, by decide, by decide, by decide +kernel⟩
theorem cw_X7_328 : xCS RX7 328 yX7_isSlot cX7_isSlot 1 (some .boolean) 1 := ⟨xWS_mem 1402 (by decide +kernel) rfl, xWS_mem 1403 (by decide +kernel) rfl, xWS_mem 73 (by decide +kernel) rfl, xWS_mem 1404 (by decide +kernel) rfl, rfl, by decide, by decide, by decide +kernel⟩
theorem cw_X7_340 : xCV RX7 340 yX7_setAside cX7_setAside 4 none 2 7 := ⟨xWS_mem 1426 (by decide +kernel) rfl, xWS_mem 1428 (by decide +kernel) rfl, xWS_mem 63 (by decide +kernel) rfl, xWS_mem 73 (by decide +kernel) rfl, xWS_mem 1429 (by decide +kernel) rfl, rfl, by decide, by decide, by decide +kernel, _, rfl, rfl⟩
theorem cw_X7_344 : xCV RX7 344 yX7_allWear cX7_allWear 3 (some .int) 0 7 := ⟨xWS_mem 1430 (by decide +kernel) rfl, xWS_mem 1432 (by decide +kernel) rfl, xWS_mem 64 (by decide +kernel) rfl, xWS_mem 73 (by decide +kernel) rfl, xWS_mem 1433 (by decide +kernel) rfl, rfl, by decide, by decide, by decide +kernel, _, rfl, rfl⟩
theorem cw_X7_68 : xCS RX7 68 yX7_isIn cX7_isIn 6 (some .boolean) 3 := ⟨xWS_mem 1025 (by decide +kernel) rfl, xWS_mem 1026 (by decide +kernel) rfl, xWS_mem 73 (by decide +kernel) rfl, xWS_mem 1027 (by decide +kernel) rfl, rfl, by decide, by decide, by decide +kernel⟩
theorem cw_X7_73 : xCV RX7 73 yX7_sets cX7_sets 4 none 3 7 := ⟨xWS_mem 1039 (by decide +kernel) rfl, xWS_mem 1041 (by decide +kernel) rfl, xWS_mem 18 (by decide +kernel) rfl, xWS_mem 73 (by decide +kernel) rfl, xWS_mem 1042 (by decide +kernel) rfl, rfl, by decide, by decide, by decide +kernel, _, rfl, rfl⟩
theorem cw_X7_83 : xCS RX7 83 yX7_isOne cX7_isOne 1 (some .boolean) 1 := ⟨xWS_mem 1030 (by decide +kernel) rfl, xWS_mem 1031 (by decide +kernel) rfl, xWS_mem 73 (by decide +kernel) rfl, xWS_mem 1032 (by decide +kernel) rfl, rfl, by decide, by decide, by decide +kernel⟩
theorem cw_X7_89 : xCV RX7 89 yX7_comes cX7_comes 6 none 4 7 := ⟨xWS_mem 1035 (by decide +kernel) rfl, xWS_mem 1037 (by decide +kernel) rfl, xWS_mem 17 (by decide +kernel) rfl, xWS_mem 73 (by decide +kernel) rfl, xWS_mem 1038 (by decide +kernel) rfl, rfl, by decide, by decide, by decide +kernel, _, rfl, rfl⟩
theorem cw_X7_93 : xCV RX7 93 yX7_counts cX7_counts 4 (some .int) 1 7 := ⟨xWS_mem 1064 (by decide +kernel) rfl, xWS_mem 1066 (by decide +kernel) rfl, xWS_mem 23 (by decide +kernel) rfl, xWS_mem 73 (by decide +kernel) rfl, xWS_mem 1067 (by decide +kernel) rfl, rfl, by decide, by decide, by decide +kernel, _, rfl, rfl⟩
theorem cw_X7_97 : xCV RX7 97 yX7_of cX7_of 3 (some .int) 2 7 := ⟨xWS_mem 1052 (by decide +kernel) rfl, xWS_mem 1054 (by decide +kernel) rfl, xWS_mem 20 (by decide +kernel) rfl, xWS_mem 73 (by decide +kernel) rfl, xWS_mem 1055 (by decide +kernel) rfl, rfl, by decide, by decide, by decide +kernel, _, rfl, rfl⟩
theorem fl_X0_15 : xFL RX0 15 0 1 := ⟨_, rfl, inX0, rfl, xWS_mem 100 (by decide +kernel) rfl⟩
theorem fl_X0_18 : xFL RX0 18 0 2 := ⟨_, rfl, inX0, rfl, xWS_mem 102 (by decide +kernel) rfl⟩
theorem fl_X0_23 : xFL RX0 23 0 3 := ⟨_, rfl, inX0, rfl, xWS_mem 103 (by decide +kernel) rfl⟩
theorem fl_X0_26 : xFL RX0 26 0 4 := ⟨_, rfl, inX0, rfl, xWS_mem 104 (by decide +kernel) rfl⟩
theorem fl_X0_29 : xFL RX0 29 2 7 := ⟨_, rfl, inX2, rfl, xWS_mem 133 (by decide +kernel) rfl⟩
theorem fl_X0_34 : xFL RX0 34 2 9 := ⟨_, rfl, inX2, rfl, xWS_mem 138 (by decide +kernel) rfl⟩
theorem fl_X0_36 : xFL RX0 36 2 8 := ⟨_, rfl, inX2, rfl, xWS_mem 136 (by decide +kernel) rfl⟩
theorem fl_X0_39 : xFL RX0 39 2 1 := ⟨_, rfl, inX2, rfl, xWS_mem 125 (by decide +kernel) rfl⟩
theorem fl_X0_9 : xFL RX0 9 0 0 := ⟨_, rfl, inX0, rfl, xWS_mem 98 (by decide +kernel) rfl⟩
theorem fl_X1_15 : xFL RX1 15 1 1 := ⟨_, rfl, inX1, rfl, xWS_mem 244 (by decide +kernel) rfl⟩
theorem fl_X1_18 : xFL RX1 18 1 2 := ⟨_, rfl, inX1, rfl, xWS_mem 246 (by decide +kernel) rfl⟩
theorem fl_X1_21 : xFL RX1 21 5 10 := ⟨_, rfl, inX5, rfl, xWS_mem 190 (by decide +kernel) rfl⟩
theorem fl_X1_31 : xFL RX1 31 5 3 := ⟨_, rfl, inX5, rfl, xWS_mem 174 (by decide +kernel) rfl⟩
theorem fl_X1_34 : xFL RX1 34 5 8 := ⟨_, rfl, inX5, rfl, xWS_mem 186 (by decide +kernel) rfl⟩
theorem fl_X1_42 : xFL RX1 42 5 5 := ⟨_, rfl, inX5, rfl, xWS_mem 179 (by decide +kernel) rfl⟩
theorem fl_X1_45 : xFL RX1 45 5 2 := ⟨_, rfl, inX5, rfl, xWS_mem 171 (by decide +kernel) rfl⟩
theorem fl_X1_9 : xFL RX1 9 1 0 := ⟨_, rfl, inX1, rfl, xWS_mem 242 (by decide +kernel) rfl⟩
theorem fl_X2_15 : xFL RX2 15 2 1 := ⟨_, rfl, inX2, rfl, xWS_mem 124 (by decide +kernel) rfl⟩
theorem fl_X2_18 : xFL RX2 18 2 2 := ⟨_, rfl, inX2, rfl, xWS_mem 126 (by decide +kernel) rfl⟩
theorem fl_X2_22 : xFL RX2 22 2 4 := ⟨_, rfl, inX2, rfl, xWS_mem 130 (by decide +kernel) rfl⟩
theorem fl_X2_25 : xFL RX2 25 2 5 := ⟨_, rfl, inX2, rfl, xWS_mem 131 (by decide +kernel) rfl⟩
theorem fl_X2_28 : xFL RX2 28 2 8 := ⟨_, rfl, inX2, rfl, xWS_mem 137 (by decide +kernel) rfl⟩
theorem fl_X2_31 : xFL RX2 31 2 9 := ⟨_, rfl, inX2, rfl, xWS_mem 139 (by decide +kernel) rfl⟩
theorem fl_X2_56 : xFL RX2 56 2 6 := ⟨_, rfl, inX2, rfl, xWS_mem 132 (by decide +kernel) rfl⟩
theorem fl_X2_86 : xFL RX2 86 2 3 := ⟨_, rfl, inX2, rfl, xWS_mem 128 (by decide +kernel) rfl⟩
theorem fl_X2_9 : xFL RX2 9 2 0 := ⟨_, rfl, inX2, rfl, xWS_mem 123 (by decide +kernel) rfl⟩
theorem fl_X3_15 : xFL RX3 15 3 1 := ⟨_, rfl, inX3, rfl, xWS_mem 263 (by decide +kernel) rfl⟩
theorem fl_X3_19 : xFL RX3 19 3 2 := ⟨_, rfl, inX3, rfl, xWS_mem 265 (by decide +kernel) rfl⟩
theorem fl_X3_9 : xFL RX3 9 3 0 := ⟨_, rfl, inX3, rfl, xWS_mem 261 (by decide +kernel) rfl⟩
theorem fl_X5_15 : xFL RX5 15 5 2 := ⟨_, rfl, inX5, rfl, xWS_mem 170 (by decide +kernel) rfl⟩
theorem fl_X5_18 : xFL RX5 18 5 3 := ⟨_, rfl, inX5, rfl, xWS_mem 173 (by decide +kernel) rfl⟩
theorem fl_X5_21 : xFL RX5 21 5 4 := ⟨_, rfl, inX5, rfl, xWS_mem 176 (by decide +kernel) rfl⟩
theorem fl_X5_24 : xFL RX5 24 5 5 := ⟨_, rfl, inX5, rfl, xWS_mem 178 (by decide +kernel) rfl⟩
theorem fl_X5_27 : xFL RX5 27 5 6 := ⟨_, rfl, inX5, rfl, xWS_mem 181 (by decide +kernel) rfl⟩
theorem fl_X5_30 : xFL RX5 30 5 7 := ⟨_, rfl, inX5, rfl, xWS_mem 183 (by decide +kernel) rfl⟩
theorem fl_X5_33 : xFL RX5 33 5 8 := ⟨_, rfl, inX5, rfl, xWS_mem 185 (by decide +kernel) rfl⟩
theorem fl_X5_36 : xFL RX5 36 5 9 := ⟨_, rfl, inX5, rfl, xWS_mem 188 (by decide +kernel) rfl⟩
theorem fl_X5_39 : xFL RX5 39 5 0 := ⟨_, rfl, inX5, rfl, xWS_mem 167 (by decide +kernel) rfl⟩
theorem fl_X5_43 : xFL RX5 43 5 15 := ⟨_, rfl, inX5, rfl, xWS_mem 201 (by decide +kernel) rfl⟩
theorem fl_X5_53 : xFL RX5 53 5 10 := ⟨_, rfl, inX5, rfl, xWS_mem 192 (by decide +kernel) rfl⟩
theorem fl_X5_56 : xFL RX5 56 5 11 := ⟨_, rfl, inX5, rfl, xWS_mem 193 (by decide +kernel) rfl⟩
theorem fl_X5_59 : xFL RX5 59 5 12 := ⟨_, rfl, inX5, rfl, xWS_mem 195 (by decide +kernel) rfl⟩
theorem fl_X5_62 : xFL RX5 62 5 13 := ⟨_, rfl, inX5, rfl, xWS_mem 197 (by decide +kernel) rfl⟩
theorem fl_X5_65 : xFL RX5 65 5 14 := ⟨_, rfl, inX5, rfl, xWS_mem 199 (by decide +kernel) rfl⟩
theorem fl_X5_9 : xFL RX5 9 5 1 := ⟨_, rfl, inX5, rfl, xWS_mem 168 (by decide +kernel) rfl⟩
theorem fl_X6_10 : xFL RX6 10 6 0 := ⟨_, rfl, inX6, rfl, xWS_mem 301 (by decide +kernel) rfl⟩
theorem fl_X6_100 : xFL RX6 100 5 2 := ⟨_, rfl, inX5, rfl, xWS_mem 172 (by decide +kernel) rfl⟩
theorem fl_X6_103 : xFL RX6 103 5 3 := ⟨_, rfl, inX5, rfl, xWS_mem 175 (by decide +kernel) rfl⟩
theorem fl_X6_106 : xFL RX6 106 5 4 := ⟨_, rfl, inX5, rfl, xWS_mem 177 (by decide +kernel) rfl⟩
theorem fl_X6_109 : xFL RX6 109 5 5 := ⟨_, rfl, inX5, rfl, xWS_mem 180 (by decide +kernel) rfl⟩
theorem fl_X6_112 : xFL RX6 112 5 6 := ⟨_, rfl, inX5, rfl, xWS_mem 182 (by decide +kernel) rfl⟩
theorem fl_X6_132 : xFL RX6 132 5 7 := ⟨_, rfl, inX5, rfl, xWS_mem 184 (by decide +kernel) rfl⟩
theorem fl_X6_135 : xFL RX6 135 5 8 := ⟨_, rfl, inX5, rfl, xWS_mem 187 (by decide +kernel) rfl⟩
theorem fl_X6_153 : xFL RX6 153 5 15 := ⟨_, rfl, inX5, rfl, xWS_mem 202 (by decide +kernel) rfl⟩
theorem fl_X6_161 : xFL RX6 161 5 12 := ⟨_, rfl, inX5, rfl, xWS_mem 196 (by decide +kernel) rfl⟩
theorem fl_X6_171 : xFL RX6 171 5 13 := ⟨_, rfl, inX5, rfl, xWS_mem 198 (by decide +kernel) rfl⟩
theorem fl_X6_19 : xFL RX6 19 6 1 := ⟨_, rfl, inX6, rfl, xWS_mem 302 (by decide +kernel) rfl⟩
theorem fl_X6_195 : xFL RX6 195 1 1 := ⟨_, rfl, inX1, rfl, xWS_mem 245 (by decide +kernel) rfl⟩
theorem fl_X6_202 : xFL RX6 202 1 0 := ⟨_, rfl, inX1, rfl, xWS_mem 243 (by decide +kernel) rfl⟩
theorem fl_X6_218 : xFL RX6 218 3 1 := ⟨_, rfl, inX3, rfl, xWS_mem 264 (by decide +kernel) rfl⟩
theorem fl_X6_225 : xFL RX6 225 3 2 := ⟨_, rfl, inX3, rfl, xWS_mem 266 (by decide +kernel) rfl⟩
theorem fl_X6_231 : xFL RX6 231 3 0 := ⟨_, rfl, inX3, rfl, xWS_mem 262 (by decide +kernel) rfl⟩
theorem fl_X6_237 : xFL RX6 237 5 9 := ⟨_, rfl, inX5, rfl, xWS_mem 189 (by decide +kernel) rfl⟩
theorem fl_X6_248 : xFL RX6 248 2 2 := ⟨_, rfl, inX2, rfl, xWS_mem 127 (by decide +kernel) rfl⟩
theorem fl_X6_259 : xFL RX6 259 5 11 := ⟨_, rfl, inX5, rfl, xWS_mem 194 (by decide +kernel) rfl⟩
theorem fl_X6_269 : xFL RX6 269 0 0 := ⟨_, rfl, inX0, rfl, xWS_mem 99 (by decide +kernel) rfl⟩
theorem fl_X6_271 : xFL RX6 271 0 1 := ⟨_, rfl, inX0, rfl, xWS_mem 101 (by decide +kernel) rfl⟩
theorem fl_X6_28 : xFL RX6 28 6 2 := ⟨_, rfl, inX6, rfl, xWS_mem 303 (by decide +kernel) rfl⟩
theorem fl_X6_300 : xFL RX6 300 4 1 := ⟨_, rfl, inX4, rfl, xWS_mem 286 (by decide +kernel) rfl⟩
theorem fl_X6_307 : xFL RX6 307 4 0 := ⟨_, rfl, inX4, rfl, xWS_mem 284 (by decide +kernel) rfl⟩
theorem fl_X6_314 : xFL RX6 314 4 4 := ⟨_, rfl, inX4, rfl, xWS_mem 289 (by decide +kernel) rfl⟩
theorem fl_X6_32 : xFL RX6 32 6 3 := ⟨_, rfl, inX6, rfl, xWS_mem 304 (by decide +kernel) rfl⟩
theorem fl_X6_320 : xFL RX6 320 5 14 := ⟨_, rfl, inX5, rfl, xWS_mem 200 (by decide +kernel) rfl⟩
theorem fl_X6_35 : xFL RX6 35 6 4 := ⟨_, rfl, inX6, rfl, xWS_mem 305 (by decide +kernel) rfl⟩
theorem fl_X6_41 : xFL RX6 41 6 5 := ⟨_, rfl, inX6, rfl, xWS_mem 306 (by decide +kernel) rfl⟩
theorem fl_X6_45 : xFL RX6 45 6 6 := ⟨_, rfl, inX6, rfl, xWS_mem 307 (by decide +kernel) rfl⟩
theorem fl_X6_51 : xFL RX6 51 6 7 := ⟨_, rfl, inX6, rfl, xWS_mem 308 (by decide +kernel) rfl⟩
theorem fl_X6_58 : xFL RX6 58 6 8 := ⟨_, rfl, inX6, rfl, xWS_mem 309 (by decide +kernel) rfl⟩
theorem fl_X6_63 : xFL RX6 63 6 9 := ⟨_, rfl, inX6, rfl, xWS_mem 310 (by decide +kernel) rfl⟩
theorem fl_X6_66 : xFL RX6 66 6 10 := ⟨_, rfl, inX6, rfl, xWS_mem 311 (by decide +kernel) rfl⟩
theorem fl_X6_70 : xFL RX6 70 6 11 := ⟨_, rfl, inX6, rfl, xWS_mem 312 (by decide +kernel) rfl⟩
theorem fl_X6_86 : xFL RX6 86 5 10 := ⟨_, rfl, inX5, rfl, xWS_mem 191 (by decide +kernel) rfl⟩
theorem fl_X6_97 : xFL RX6 97 5 1 := ⟨_, rfl, inX5, rfl, xWS_mem 169 (by decide +kernel) rfl⟩
theorem fl_X7_13 : xFL RX7 13 7 1 := ⟨_, rfl, inX7, rfl, xWS_mem 924 (by decide +kernel) rfl⟩
theorem fl_X7_16 : xFL RX7 16 7 2 := ⟨_, rfl, inX7, rfl, xWS_mem 925 (by decide +kernel) rfl⟩
theorem fl_X7_19 : xFL RX7 19 7 4 := ⟨_, rfl, inX7, rfl, xWS_mem 927 (by decide +kernel) rfl⟩
theorem fl_X7_213 : xFL RX7 213 7 15 := ⟨_, rfl, inX7, rfl, xWS_mem 938 (by decide +kernel) rfl⟩
theorem fl_X7_22 : xFL RX7 22 7 5 := ⟨_, rfl, inX7, rfl, xWS_mem 928 (by decide +kernel) rfl⟩
theorem fl_X7_225 : xFL RX7 225 7 17 := ⟨_, rfl, inX7, rfl, xWS_mem 940 (by decide +kernel) rfl⟩
theorem fl_X7_228 : xFL RX7 228 7 18 := ⟨_, rfl, inX7, rfl, xWS_mem 941 (by decide +kernel) rfl⟩
theorem fl_X7_231 : xFL RX7 231 7 16 := ⟨_, rfl, inX7, rfl, xWS_mem 939 (by decide +kernel) rfl⟩
theorem fl_X7_237 : xFL RX7 237 7 20 := ⟨_, rfl, inX7, rfl, xWS_mem 943 (by decide +kernel) rfl⟩
theorem fl_X7_243 : xFL RX7 243 7 19 := ⟨_, rfl, inX7, rfl, xWS_mem 942 (by decide +kernel) rfl⟩
theorem fl_X7_25 : xFL RX7 25 7 6 := ⟨_, rfl, inX7, rfl, xWS_mem 929 (by decide +kernel) rfl⟩
theorem fl_X7_254 : xFL RX7 254 7 24 := ⟨_, rfl, inX7, rfl, xWS_mem 947 (by decide +kernel) rfl⟩
theorem fl_X7_257 : xFL RX7 257 7 23 := ⟨_, rfl, inX7, rfl, xWS_mem 946 (by decide +kernel) rfl⟩
theorem fl_X7_28 : xFL RX7 28 7 7 := ⟨_, rfl, inX7, rfl, xWS_mem 930 (by decide +kernel) rfl⟩
theorem fl_X7_31 : xFL RX7 31 7 8 := ⟨_, rfl, inX7, rfl, xWS_mem 931 (by decide +kernel) rfl⟩
theorem fl_X7_331 : xFL RX7 331 7 30 := ⟨_, rfl, inX7, rfl, xWS_mem 953 (by decide +kernel) rfl⟩
theorem fl_X7_336 : xFL RX7 336 7 3 := ⟨_, rfl, inX7, rfl, xWS_mem 926 (by decide +kernel) rfl⟩
theorem fl_X7_34 : xFL RX7 34 7 9 := ⟨_, rfl, inX7, rfl, xWS_mem 932 (by decide +kernel) rfl⟩
theorem fl_X7_37 : xFL RX7 37 7 10 := ⟨_, rfl, inX7, rfl, xWS_mem 933 (by decide +kernel) rfl⟩
theorem fl_X7_40 : xFL RX7 40 7 11 := ⟨_, rfl, inX7, rfl, xWS_mem 934 (by decide +kernel) rfl⟩
theorem fl_X7_43 : xFL RX7 43 7 12 := ⟨_, rfl, inX7, rfl, xWS_mem 935 (by decide +kernel) rfl⟩
theorem fl_X7_46 : xFL RX7 46 7 13 := ⟨_, rfl, inX7, rfl, xWS_mem 936 (by decide +kernel) rfl⟩
theorem fl_X7_49 : xFL RX7 49 7 14 := ⟨_, rfl, inX7, rfl, xWS_mem 937 (by decide +kernel) rfl⟩
theorem fl_X7_52 : xFL RX7 52 7 26 := ⟨_, rfl, inX7, rfl, xWS_mem 949 (by decide +kernel) rfl⟩
theorem fl_X7_55 : xFL RX7 55 7 27 := ⟨_, rfl, inX7, rfl, xWS_mem 950 (by decide +kernel) rfl⟩
theorem fl_X7_58 : xFL RX7 58 7 28 := ⟨_, rfl, inX7, rfl, xWS_mem 951 (by decide +kernel) rfl⟩
theorem fl_X7_61 : xFL RX7 61 7 29 := ⟨_, rfl, inX7, rfl, xWS_mem 952 (by decide +kernel) rfl⟩
theorem fl_X7_64 : xFL RX7 64 7 31 := ⟨_, rfl, inX7, rfl, xWS_mem 954 (by decide +kernel) rfl⟩
theorem fl_X7_7 : xFL RX7 7 7 0 := ⟨_, rfl, inX7, rfl, xWS_mem 923 (by decide +kernel) rfl⟩
theorem fp_X2_18 : xFP RX2 18 2 2 .int := ⟨_, tyX2, rfl, inX2, rfl, xWS_mem 126 (by decide +kernel) rfl, tyX2_ok, nmX2, rfl, rfl⟩
theorem fp_X2_22 : xFP RX2 22 2 4 .int := ⟨_, tyX2, rfl, inX2, rfl, xWS_mem 130 (by decide +kernel) rfl, tyX2_ok, nmX2, rfl, rfl⟩
theorem fp_X2_25 : xFP RX2 25 2 5 .int := ⟨_, tyX2, rfl, inX2, rfl, xWS_mem 131 (by decide +kernel) rfl, tyX2_ok, nmX2, rfl, rfl⟩
theorem fp_X2_28 : xFP RX2 28 2 8 .int := ⟨_, tyX2, rfl, inX2, rfl, xWS_mem 137 (by decide +kernel) rfl, tyX2_ok, nmX2, rfl, rfl⟩
theorem fp_X2_31 : xFP RX2 31 2 9 .int := ⟨_, tyX2, rfl, inX2, rfl, xWS_mem 139 (by decide +kernel) rfl, tyX2_ok, nmX2, rfl, rfl⟩
theorem fp_X2_56 : xFP RX2 56 2 6 .int := ⟨_, tyX2, rfl, inX2, rfl, xWS_mem 132 (by decide +kernel) rfl, tyX2_ok, nmX2, rfl, rfl⟩
theorem fp_X2_86 : xFP RX2 86 2 3 .int := ⟨_, tyX2, rfl, inX2, rfl, xWS_mem 128 (by decide +kernel) rfl, tyX2_ok, nmX2, rfl, rfl⟩
theorem fp_X3_15 : xFP RX3 15 3 1 .int := ⟨_, tyX3, rfl, inX3, rfl, xWS_mem 263 (by decide +kernel) rfl, tyX3_ok, nmX3, rfl, rfl⟩
theorem fp_X3_19 : xFP RX3 19 3 2 .int := ⟨_, tyX3, rfl, inX3, rfl, xWS_mem 265 (by decide +kernel) rfl, tyX3_ok, nmX3, rfl, rfl⟩
theorem fp_X5_43 : xFP RX5 43 5 15 .int := ⟨_, tyX5, rfl, inX5, rfl, xWS_mem 201 (by decide +kernel) rfl, tyX5_ok, nmX5, rfl, rfl⟩
theorem fp_X5_53 : xFP RX5 53 5 10 .int := ⟨_, tyX5, rfl, inX5, rfl, xWS_mem 192 (by decide +kernel) rfl, tyX5_ok, nmX5, rfl, rfl⟩
theorem fp_X5_56 : xFP RX5 56 5 11 .int := ⟨_, tyX5, rfl, inX5, rfl, xWS_mem 193 (by decide +kernel) rfl, tyX5_ok, nmX5, rfl, rfl⟩
theorem fp_X5_59 : xFP RX5 59 5 12 .int := ⟨_, tyX5, rfl, inX5, rfl, xWS_mem 195 (by decide +kernel) rfl, tyX5_ok, nmX5, rfl, rfl⟩
theorem fp_X5_62 : xFP RX5 62 5 13 .int := ⟨_, tyX5, rfl, inX5, rfl, xWS_mem 197 (by decide +kernel) rfl, tyX5_ok, nmX5, rfl, rfl⟩
theorem fp_X5_65 : xFP RX5 65 5 14 .int := ⟨_, tyX5, rfl, inX5, rfl, xWS_mem 199 (by decide +kernel) rfl, tyX5_ok, nmX5, rfl, rfl⟩
theorem fp_X6_153 : xFP RX6 153 5 15 .int := ⟨_, tyX5, rfl, inX5, rfl, xWS_mem 202 (by decide +kernel) rfl, tyX5_ok, nmX5, rfl, rfl⟩
theorem fp_X6_248 : xFP RX6 248 2 2 .int := ⟨_, tyX2, rfl, inX2, rfl, xWS_mem 127 (by decide +kernel) rfl, tyX2_ok, nmX2, rfl, rfl⟩
theorem fp_X6_300 : xFP RX6 300 4 1 .int := ⟨_, tyX4, rfl, inX4, rfl, xWS_mem 286 (by decide +kernel) rfl, tyX4_ok, nmX4, rfl, rfl⟩
theorem fp_X6_303 : xFP RX6 303 4 2 .int := ⟨_, tyX4, rfl, inX4, rfl, xWS_mem 287 (by decide +kernel) rfl, tyX4_ok, nmX4, rfl, rfl⟩
theorem fp_X6_305 : xFP RX6 305 4 3 .int := ⟨_, tyX4, rfl, inX4, rfl, xWS_mem 288 (by decide +kernel) rfl, tyX4_ok, nmX4, rfl, rfl⟩
theorem fp_X6_314 : xFP RX6 314 4 4 .int := ⟨_, tyX4, rfl, inX4, rfl, xWS_mem 289 (by decide +kernel) rfl, tyX4_ok, nmX4, rfl, rfl⟩
theorem fp_X6_66 : xFP RX6 66 6 10 .int := ⟨_, tyX6, rfl, inX6, rfl, xWS_mem 311 (by decide +kernel) rfl, tyX6_ok, nmX6, rfl, rfl⟩
theorem fp_X6_70 : xFP RX6 70 6 11 .boolean := ⟨_, tyX6, rfl, inX6, rfl, xWS_mem 312 (by decide +kernel) rfl, tyX6_ok, nmX6, rfl, rfl⟩
theorem fp_X7_213 : xFP RX7 213 7 15 .int := ⟨_, tyX7, rfl, inX7, rfl, xWS_mem 938 (by decide +kernel) rfl, tyX7_ok, nmX7, rfl, rfl⟩
theorem fp_X7_225 : xFP RX7 225 7 17 .int := ⟨_, tyX7, rfl, inX7, rfl, xWS_mem 940 (by decide +kernel) rfl, tyX7_ok, nmX7, rfl, rfl⟩
theorem fp_X7_228 : xFP RX7 228 7 18 .int := ⟨_, tyX7, rfl, inX7, rfl, xWS_mem 941 (by decide +kernel) rfl, tyX7_ok, nmX7, rfl, rfl⟩
theorem fp_X7_231 : xFP RX7 231 7 16 .int := ⟨_, tyX7, rfl, inX7, rfl, xWS_mem 939 (by decide +kernel) rfl, tyX7_ok, nmX7, rfl, rfl⟩
theorem fp_X7_237 : xFP RX7 237 7 20 .int := ⟨_, tyX7, rfl, inX7, rfl, xWS_mem 943 (by decide +kernel) rfl, tyX7_ok, nmX7, rfl, rfl⟩
theorem fp_X7_243 : xFP RX7 243 7 19 .int := ⟨_, tyX7, rfl, inX7, rfl, xWS_mem 942 (by decide +kernel) rfl, tyX7_ok, nmX7, rfl, rfl⟩
theorem fp_X7_257 : xFP RX7 257 7 23 .int := ⟨_, tyX7, rfl, inX7, rfl, xWS_mem 946 (by decide +kernel) rfl, tyX7_ok, nmX7, rfl, rfl⟩
theorem fp_X7_331 : xFP RX7 331 7 30 .int := ⟨_, tyX7, rfl, inX7, rfl, xWS_mem 953 (by decide +kernel) rfl, tyX7_ok, nmX7, rfl, rfl⟩
theorem fp_X7_336 : xFP RX7 336 7 3 .boolean := ⟨_, tyX7, rfl, inX7, rfl, xWS_mem 926 (by decide +kernel) rfl, tyX7_ok, nmX7, rfl, rfl⟩
theorem kc_J6_265 : Cond.constant RJ6 265 (1431655765) ∈ xWS := xWS_mem 551 (by decide +kernel) rfl
theorem kc_J6_266 : Cond.constant RJ6 266 (858993459) ∈ xWS := xWS_mem 552 (by decide +kernel) rfl
theorem kc_J6_267 : Cond.constant RJ6 267 (252645135) ∈ xWS := xWS_mem 553 (by decide +kernel) rfl
theorem kc_X3_32 : Cond.constant RX3 32 (-1000000005) ∈ xWS := xWS_mem 607 (by decide +kernel) rfl
theorem kc_X5_68 : Cond.constant RX5 68 (-1000000003) ∈ xWS := xWS_mem 357 (by decide +kernel) rfl
theorem kc_X5_69 : Cond.constant RX5 69 (1103515245) ∈ xWS := xWS_mem 454 (by decide +kernel) rfl
theorem kc_X6_127 : Cond.constant RX6 127 (-1000000012) ∈ xWS := xWS_mem 406 (by decide +kernel) rfl
theorem kc_X6_156 : Cond.constant RX6 156 (-1000000002) ∈ xWS := xWS_mem 464 (by decide +kernel) rfl
theorem kc_X6_184 : Cond.constant RX6 184 (-1000000005) ∈ xWS := xWS_mem 517 (by decide +kernel) rfl
theorem kc_X6_221 : Cond.constant RX6 221 (-1000000011) ∈ xWS := xWS_mem 598 (by decide +kernel) rfl
theorem kc_X6_278 : Cond.constant RX6 278 (-1000000014) ∈ xWS := xWS_mem 838 (by decide +kernel) rfl
theorem kc_X6_282 : Cond.constant RX6 282 (-1000000013) ∈ xWS := xWS_mem 848 (by decide +kernel) rfl
theorem kc_X6_283 : Cond.constant RX6 283 (-99999) ∈ xWS := xWS_mem 849 (by decide +kernel) rfl
theorem kc_X6_284 : Cond.constant RX6 284 (99999) ∈ xWS := xWS_mem 850 (by decide +kernel) rfl
theorem kc_X6_85 : Cond.constant RX6 85 (-1000000001) ∈ xWS := xWS_mem 351 (by decide +kernel) rfl
theorem kc_X6_89 : Cond.constant RX6 89 (-1000000003) ∈ xWS := xWS_mem 352 (by decide +kernel) rfl
theorem kc_X7_116 : Cond.constant RX7 116 (100000) ∈ xWS := xWS_mem 1132 (by decide +kernel) rfl
theorem kc_X7_120 : Cond.constantLong RX7 120 (7) ∈ xWS := xWS_mem 1051 (by decide +kernel) rfl
theorem kc_X7_129 : Cond.constant RX7 129 (-1000000012) ∈ xWS := xWS_mem 1093 (by decide +kernel) rfl
theorem kc_X7_133 : Cond.constantLong RX7 133 (3) ∈ xWS := xWS_mem 1106 (by decide +kernel) rfl
theorem kc_X7_135 : Cond.constantLong RX7 135 (2) ∈ xWS := xWS_mem 1111 (by decide +kernel) rfl
theorem kc_X7_140 : Cond.constantLong RX7 140 (9999) ∈ xWS := xWS_mem 1120 (by decide +kernel) rfl
theorem kc_X7_145 : Cond.constantLong RX7 145 (10) ∈ xWS := xWS_mem 1137 (by decide +kernel) rfl
theorem kc_X7_151 : Cond.constant RX7 151 (-1000000002) ∈ xWS := xWS_mem 1151 (by decide +kernel) rfl
theorem kc_X7_161 : Cond.constantLong RX7 161 (100) ∈ xWS := xWS_mem 1160 (by decide +kernel) rfl
theorem kc_X7_199 : Cond.constantLong RX7 199 (4) ∈ xWS := xWS_mem 1240 (by decide +kernel) rfl
theorem kc_X7_211 : Cond.constantLong RX7 211 (60) ∈ xWS := xWS_mem 1265 (by decide +kernel) rfl
theorem kc_X7_217 : Cond.constantLong RX7 217 (97) ∈ xWS := xWS_mem 1298 (by decide +kernel) rfl
theorem kc_X7_219 : Cond.constantLong RX7 219 (122) ∈ xWS := xWS_mem 1299 (by decide +kernel) rfl
theorem kc_X7_221 : Cond.constantLong RX7 221 (48) ∈ xWS := xWS_mem 1304 (by decide +kernel) rfl
theorem kc_X7_223 : Cond.constantLong RX7 223 (57) ∈ xWS := xWS_mem 1305 (by decide +kernel) rfl
theorem kc_X7_319 : Cond.constantLong RX7 319 (-1) ∈ xWS := xWS_mem 1372 (by decide +kernel) rfl
theorem kc_X7_321 : Cond.constant RX7 321 (-1000000014) ∈ xWS := xWS_mem 1373 (by decide +kernel) rfl
theorem kc_X7_322 : Cond.constant RX7 322 (-1000000011) ∈ xWS := xWS_mem 1378 (by decide +kernel) rfl
theorem kc_X7_323 : Cond.constant RX7 323 (-1000000013) ∈ xWS := xWS_mem 1379 (by decide +kernel) rfl
theorem kc_X7_324 : Cond.constantLong RX7 324 (-99999) ∈ xWS := xWS_mem 1380 (by decide +kernel) rfl
theorem kc_X7_326 : Cond.constantLong RX7 326 (99999) ∈ xWS := xWS_mem 1381 (by decide +kernel) rfl
theorem kc_X7_334 : Cond.constantLong RX7 334 (30) ∈ xWS := xWS_mem 1425 (by decide +kernel) rfl
theorem kc_X7_67 : Cond.constant RX7 67 (-1000000005) ∈ xWS := xWS_mem 1196 (by decide +kernel) rfl
theorem kc_X7_72 : Cond.constant RX7 72 (1103515245) ∈ xWS := xWS_mem 1142 (by decide +kernel) rfl
theorem kc_X7_77 : Cond.constantLong RX7 77 (5) ∈ xWS := xWS_mem 1024 (by decide +kernel) rfl
theorem kc_X7_79 : Cond.constantLong RX7 79 (99) ∈ xWS := xWS_mem 1028 (by decide +kernel) rfl
theorem kc_X7_81 : Cond.constantLong RX7 81 (9) ∈ xWS := xWS_mem 1029 (by decide +kernel) rfl
theorem kc_X7_87 : Cond.constant RX7 87 (-1000000001) ∈ xWS := xWS_mem 1033 (by decide +kernel) rfl
theorem kc_X7_88 : Cond.constant RX7 88 (-1000000003) ∈ xWS := xWS_mem 1034 (by decide +kernel) rfl
theorem ml_X1_37 : Cond.methodLink RX1 37 Lib.Math.abs.name ∈ xWS := xWS_mem 536 (by decide +kernel) rfl
theorem ml_X5_100 : Cond.methodLink RX5 100 Lib.Math.min.name ∈ xWS := xWS_mem 441 (by decide +kernel) rfl
theorem ml_X5_78 : Cond.methodLink RX5 78 Lib.Math.max.name ∈ xWS := xWS_mem 374 (by decide +kernel) rfl
theorem ml_X5_96 : Cond.methodLink RX5 96 Lib.Math.abs.name ∈ xWS := xWS_mem 438 (by decide +kernel) rfl
theorem ml_X6_145 : Cond.methodLink RX6 145 Lib.Math.min.name ∈ xWS := xWS_mem 390 (by decide +kernel) rfl
theorem ml_X6_323 : Cond.methodLink RX6 323 Lib.Math.max.name ∈ xWS := xWS_mem 393 (by decide +kernel) rfl
theorem ml_X6_329 : Cond.methodLink RX6 329 Lib.Math.abs.name ∈ xWS := xWS_mem 612 (by decide +kernel) rfl
