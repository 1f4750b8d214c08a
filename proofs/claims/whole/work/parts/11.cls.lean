theorem u_lay_good (C : String) (T : u_T) (k : Nat) : goodWord (u_lay C T k) = true := by
  unfold u_lay
  split <;> rfl
set_option maxRecDepth 100000 in
theorem uw_0 : zipA (u_ws RX0 TX0 8) [361, 363, 365, 367, 369, 371, 373, 375] (fun w p => isA p w) = true := by decide +kernel
set_option maxRecDepth 100000 in
theorem uw_1 : zipA (u_ws RX1 TX1 7) [432, 434, 436, 438, 440, 442, 444] (fun w p => isA p w) = true := by decide +kernel
set_option maxRecDepth 100000 in
theorem uw_2 : zipA (u_ws RX2 TX2 5) [460, 462, 464, 466, 468] (fun w p => isA p w) = true := by decide +kernel
set_option maxRecDepth 100000 in
theorem uw_3 : zipA (u_ws RX3 TX3 4) [232, 234, 236, 238] (fun w p => isA p w) = true := by decide +kernel
set_option maxRecDepth 100000 in
theorem uw_4 : zipA (u_ws RX4 TX4 13) [265, 267, 269, 271, 273, 275, 277, 279, 281, 283, 285, 287, 289] (fun w p => isA p w) = true := by decide +kernel
set_option maxRecDepth 100000 in
theorem uw_5 : zipA (u_ws RX5 TX5 10) [198, 200, 202, 204, 206, 208, 210, 212, 214, 216] (fun w p => isA p w) = true := by decide +kernel
set_option maxRecDepth 100000 in
theorem uw_6 : zipA (u_ws RX6 TX6 9) [398, 400, 402, 404, 406, 408, 410, 412, 414] (fun w p => isA p w) = true := by decide +kernel
set_option maxRecDepth 100000 in
theorem uw_7 : zipA (u_ws RX7 TX7 2) [486, 488] (fun w p => isA p w) = true := by decide +kernel
set_option maxRecDepth 100000 in
theorem uw_8 : zipA (u_ws RX8 TX8 10) [315, 317, 319, 321, 323, 325, 327, 329, 331, 333] (fun w p => isA p w) = true := by decide +kernel
set_option maxRecDepth 100000 in
theorem uw_9 : zipA (u_ws RX9 TX9 4) [119, 121, 123, 125] (fun w p => isA p w) = true := by decide +kernel
set_option maxRecDepth 100000 in
theorem uw_10 : zipA (u_ws RX10 TX10 7) [151, 153, 155, 157, 159, 161, 163] (fun w p => isA p w) = true := by decide +kernel
set_option maxRecDepth 100000 in
theorem uw_11 : zipA (u_ws RX11 TX11 15) [507, 509, 511, 513, 515, 517, 519, 521, 523, 525, 527, 529, 531, 533, 535] (fun w p => isA p w) = true := by decide +kernel
set_option maxRecDepth 100000 in
theorem uw_12 : zipA (u_ws RX12 TX12 77) [1258, 1260, 1262, 1264, 1266, 1268, 1270, 1272, 1274, 1276, 1278, 1280, 1282, 1284, 1286, 1288, 1290, 1292, 1294, 1296, 1298, 1300, 1302, 1304, 1306, 1308, 1310, 1312, 1314, 1316, 1318, 1320, 1322, 1324, 1326, 1328, 1330, 1332, 1334, 1336, 1338, 1340, 1342, 1344, 1346, 1348, 1350, 1352, 1354, 1356, 1358, 1360, 1362, 1364, 1366, 1368, 1370, 1372, 1374, 1376, 1378, 1380, 1382, 1384, 1386, 1388, 1390, 1392, 1394, 1396, 1398, 1400, 1402, 1404, 1406, 1408, 1410] (fun w p => isA p w) = true := by decide +kernel
theorem uw_in {C : String} {T : u_T} {N : Nat} {ps : List Nat} (h : zipA (u_ws C T N) ps (fun w p => isA p w) = true) : ∀ w ∈ u_ws C T N, w ∈ tg := by
  intro w hw
  obtain ⟨b, hb⟩ := zipA_at h w hw
  obtain ⟨k, -, rfl⟩ := List.mem_map.mp hw
  exact isA_of hb (u_lay_good C T k)
/-- a class of the world: its words, its fields' types and names -/
def clsP (ci : Nat) (q : vw_C) : Prop := (∀ w ∈ u_ws q.1 q.2.1 q.2.2, w ∈ tg) ∧ (∃ ty : Nat → FieldType, ∀ k, k < q.2.2 → parseFieldDescriptor (q.2.1 k).2.2.1 = some (ty k)) ∧ (∀ a, a < q.2.2 → ∀ b, b < q.2.2 → a ≠ b → (q.2.1 a).2.1 ≠ (q.2.1 b).2.1) ∧ q.1 = cn ci
theorem clsP_of {ci : Nat} {q : vw_C} (h : cl[ci]? = some q) : clsP ci q := by
  match ci, h with
  | 0, h => cases h; exact ⟨uw_in uw_0, ⟨tyX0, tyX0_ok⟩, nmX0, rfl⟩
  | 1, h => cases h; exact ⟨uw_in uw_1, ⟨tyX1, tyX1_ok⟩, nmX1, rfl⟩
  | 2, h => cases h; exact ⟨uw_in uw_2, ⟨tyX2, tyX2_ok⟩, nmX2, rfl⟩
  | 3, h => cases h; exact ⟨uw_in uw_3, ⟨tyX3, tyX3_ok⟩, nmX3, rfl⟩
  | 4, h => cases h; exact ⟨uw_in uw_4, ⟨tyX4, tyX4_ok⟩, nmX4, rfl⟩
  | 5, h => cases h; exact ⟨uw_in uw_5, ⟨tyX5, tyX5_ok⟩, nmX5, rfl⟩
  | 6, h => cases h; exact ⟨uw_in uw_6, ⟨tyX6, tyX6_ok⟩, nmX6, rfl⟩
  | 7, h => cases h; exact ⟨uw_in uw_7, ⟨tyX7, tyX7_ok⟩, nmX7, rfl⟩
  | 8, h => cases h; exact ⟨uw_in uw_8, ⟨tyX8, tyX8_ok⟩, nmX8, rfl⟩
  | 9, h => cases h; exact ⟨uw_in uw_9, ⟨tyX9, tyX9_ok⟩, nmX9, rfl⟩
  | 10, h => cases h; exact ⟨uw_in uw_10, ⟨tyX10, tyX10_ok⟩, nmX10, rfl⟩
  | 11, h => cases h; exact ⟨uw_in uw_11, ⟨tyX11, tyX11_ok⟩, nmX11, rfl⟩
  | 12, h => cases h; exact ⟨uw_in uw_12, ⟨tyX12, tyX12_ok⟩, nmX12, rfl⟩
  | k + 13, h => exact absurd h (by simp [cl])
