def mf_SH : List (Nat × Nat) := [(11, 0), (10, 0), (20, 34), (8, 0), (21, 1600), (9, 0), (4, 0), (20, 1600), (20, 4), (20, 4), (7, 0), (1, 0), (20, 12), (20, 12), (20, 12), (20, 8), (20, 8), (4, 0), (20, 1600), (20, 4), (20, 4), (6, 0), (20, 6), (20, 8), (20, 8), (20, 8), (20, 8), (20, 40), (1, 0), (20, 12), (20, 12), (20, 12), (20, 8), (20, 8), (4, 0), (20, 1600), (20, 4), (20, 4), (6, 0), (20, 6), (20, 8), (20, 8), (20, 8), (20, 8), (20, 40), (2, 0), (0, 0), (3, 0), (20, 9), (22, 8), (20, 64), (5, 0), (25, 3), (6, 0), (20, 6), (20, 8), (20, 8), (20, 8), (20, 8), (20, 40), (20, 3), (20, 3), (20, 6), (20, 6), (20, 56), (20, 16), (20, 16), (6, 0), (20, 6), (20, 8), (20, 8), (20, 8), (20, 8), (20, 40), (6, 0), (20, 6), (20, 8), (20, 8), (20, 8), (20, 8), (20, 40), (6, 0), (20, 6), (20, 8), (20, 8), (20, 8), (20, 8), (20, 40), (6, 0), (20, 6), (20, 8), (20, 8), (20, 8), (20, 8), (20, 40), (6, 0), (20, 6), (20, 8), (20, 8), (20, 8), (20, 8), (20, 40), (25, 20), (6, 0), (20, 6), (20, 8), (20, 8), (20, 8), (20, 8), (20, 40), (6, 0), (20, 6), (20, 8), (20, 8), (20, 8), (20, 8), (20, 40), (6, 0), (20, 6), (20, 8), (20, 8), (20, 8), (20, 8), (20, 40), (6, 0), (20, 6), (20, 8), (20, 8), (20, 8), (20, 8), (20, 40), (6, 0), (20, 6), (20, 8), (20, 8), (20, 8), (20, 8), (20, 40), (6, 0), (20, 6), (20, 8), (20, 8), (20, 8), (20, 8), (20, 40), (6, 0), (20, 6), (20, 8), (20, 8), (20, 8), (20, 8), (20, 40), (6, 0), (20, 6), (20, 8), (20, 8), (20, 8), (20, 8), (20, 40), (6, 0), (20, 6), (20, 8), (20, 8), (20, 8), (20, 8), (20, 40), (6, 0), (20, 6), (20, 8), (20, 8), (20, 8), (20, 8), (20, 40), (6, 0), (20, 6), (20, 8), (20, 8), (20, 8), (20, 8), (20, 40), (6, 0), (20, 6), (20, 8), (20, 8), (20, 8), (20, 8), (20, 40), (6, 0), (20, 6), (20, 8), (20, 8), (20, 8), (20, 8), (20, 40), (6, 0), (20, 6), (20, 8), (20, 8), (20, 8), (20, 8), (20, 40), (6, 0), (20, 6), (20, 8), (20, 8), (20, 8), (20, 8), (20, 40), (6, 0), (20, 6), (20, 8), (20, 8), (20, 8), (20, 8), (20, 40), (6, 0), (20, 6), (20, 8), (20, 8), (20, 8), (20, 8), (20, 40), (6, 0), (20, 6), (20, 8), (20, 8), (20, 8), (20, 8), (20, 40), (6, 0), (20, 6), (20, 8), (20, 8), (20, 8), (20, 8), (20, 40), (6, 0), (20, 6), (20, 8), (20, 8), (20, 8), (20, 8), (20, 40), (20, 6), (20, 57), (12, 0), (20, 1600), (20, 6), (23, 5), (23, 5), (23, 5), (23, 4), (23, 5), (23, 2), (23, 2), (23, 5), (23, 5), (23, 4), (23, 4), (23, 5), (23, 5), (23, 3), (23, 4), (23, 4), (23, 5), (23, 4), (23, 5), (23, 6), (23, 3), (23, 5), (23, 2), (23, 3), (23, 3), (23, 3), (23, 3), (23, 3), (20, 4), (20, 6), (24, 16), (20, 6), (20, 72), (20, 16), (20, 16), (20, 8), (20, 8), (20, 3200), (20, 160), (20, 39), (20, 8), (22, 96), (20, 32), (20, 56), (20, 3200), (23, 5), (23, 4), (23, 5), (23, 5), (23, 4), (23, 5), (23, 3), (23, 3), (23, 2), (23, 3), (23, 3), (23, 3), (23, 3), (23, 4), (23, 4), (23, 5), (23, 5), (23, 4), (23, 5), (23, 6), (23, 3), (23, 5), (20, 1700), (20, 1700), (24, 1700), (20, 57)]
def mf_sh (k : Nat) : Nat × Nat := mf_SH.getD k (99, 0)
def mf_ss (k : Nat) : Nat := if (mf_sh k).1 < 20 then mf_fn (mf_sh k).1 else (mf_sh k).2
def mf_sl : Nat → Nat
  | 0 => 0
  | n + 1 => mf_sl n + mf_ss n
theorem mf_sl_mono : ∀ {a b : Nat}, a ≤ b → mf_sl a ≤ mf_sl b
  | a, 0, h => by have : a = 0 := by omega
                  subst this; exact Nat.le_refl _
  | a, b + 1, h => by
    by_cases e : a = b + 1
    · subst e; exact Nat.le_refl _
    · exact Nat.le_trans (mf_sl_mono (by omega : a ≤ b)) (Nat.le_add_right _ _)
set_option maxRecDepth 100000 in
theorem mf_inX0 : ∀ w ∈ u_ws RX0 TX0 1, w ∈ mf_tbl := mf_inAll (ps := [518]) (by decide +kernel) (by decide +kernel)
set_option maxRecDepth 100000 in
theorem mf_inX1 : ∀ w ∈ u_ws RX1 TX1 14, w ∈ mf_tbl := mf_inAll (ps := [441, 443, 445, 447, 449, 451, 453, 455, 457, 459, 461, 463, 465, 467]) (by decide +kernel) (by decide +kernel)
set_option maxRecDepth 100000 in
theorem mf_inX2 : ∀ w ∈ u_ws RX2 TX2 4, w ∈ mf_tbl := mf_inAll (ps := [480, 482, 484, 486]) (by decide +kernel) (by decide +kernel)
set_option maxRecDepth 100000 in
theorem mf_inX3 : ∀ w ∈ u_ws RX3 TX3 4, w ∈ mf_tbl := mf_inAll (ps := [507, 509, 511, 513]) (by decide +kernel) (by decide +kernel)
set_option maxRecDepth 100000 in
theorem mf_inX4 : ∀ w ∈ u_ws RX4 TX4 5, w ∈ mf_tbl := mf_inAll (ps := [305, 307, 309, 311, 313]) (by decide +kernel) (by decide +kernel)
set_option maxRecDepth 100000 in
theorem mf_inX5 : ∀ w ∈ u_ws RX5 TX5 12, w ∈ mf_tbl := mf_inAll (ps := [543, 545, 547, 549, 551, 553, 555, 557, 559, 561, 563, 565]) (by decide +kernel) (by decide +kernel)
set_option maxRecDepth 100000 in
theorem mf_inX6 : ∀ w ∈ u_ws RX6 TX6 8, w ∈ mf_tbl := mf_inAll (ps := [377, 379, 381, 383, 385, 387, 389, 391]) (by decide +kernel) (by decide +kernel)
set_option maxRecDepth 100000 in
theorem mf_inX7 : ∀ w ∈ u_ws RX7 TX7 4, w ∈ mf_tbl := mf_inAll (ps := [326, 328, 330, 332]) (by decide +kernel) (by decide +kernel)
set_option maxRecDepth 100000 in
theorem mf_inX8 : ∀ w ∈ u_ws RX8 TX8 2, w ∈ mf_tbl := mf_inAll (ps := [237, 239]) (by decide +kernel) (by decide +kernel)
set_option maxRecDepth 100000 in
theorem mf_inX9 : ∀ w ∈ u_ws RX9 TX9 10, w ∈ mf_tbl := mf_inAll (ps := [270, 272, 274, 276, 278, 280, 282, 284, 286, 288]) (by decide +kernel) (by decide +kernel)
set_option maxRecDepth 100000 in
theorem mf_inX10 : ∀ w ∈ u_ws RX10 TX10 1, w ∈ mf_tbl := mf_inAll (ps := [219]) (by decide +kernel) (by decide +kernel)
set_option maxRecDepth 100000 in
theorem mf_inX11 : ∀ w ∈ u_ws RX11 TX11 20, w ∈ mf_tbl := mf_inAll (ps := [590, 592, 594, 596, 598, 600, 602, 604, 606, 608, 610, 612, 614, 616, 618, 620, 622, 624, 626, 628]) (by decide +kernel) (by decide +kernel)
set_option maxRecDepth 100000 in
theorem mf_inX12 : ∀ w ∈ u_ws RX12 TX12 106, w ∈ mf_tbl := mf_inAll (ps := [1356, 1358, 1360, 1362, 1364, 1366, 1368, 1370, 1372, 1374, 1376, 1378, 1380, 1382, 1384, 1386, 1388, 1390, 1392, 1394, 1396, 1398, 1400, 1402, 1404, 1406, 1408, 1410, 1412, 1414, 1416, 1418, 1420, 1422, 1424, 1426, 1428, 1430, 1432, 1434, 1436, 1438, 1440, 1442, 1444, 1446, 1448, 1450, 1452, 1454, 1456, 1458, 1460, 1462, 1464, 1466, 1468, 1470, 1472, 1474, 1476, 1478, 1480, 1482, 1484, 1486, 1488, 1490, 1492, 1494, 1496, 1498, 1500, 1502, 1504, 1506, 1508, 1510, 1512, 1514, 1516, 1518, 1520, 1522, 1524, 1526, 1528, 1530, 1532, 1534, 1536, 1538, 1540, 1542, 1544, 1546, 1548, 1550, 1552, 1554, 1556, 1558, 1560, 1562, 1564, 1566]) (by decide +kernel) (by decide +kernel)
theorem mf_KLin {ci : Nat} {r : vw_C} (h : mf_KL[ci]? = some r) : (∀ w ∈ u_ws r.1 r.2.1 r.2.2, w ∈ mf_tbl) ∧ (∀ k, k < r.2.2 → parseFieldDescriptor (r.2.1 k).2.2.1 = some (mf_fty ci k)) ∧ (∀ a, a < r.2.2 → ∀ b, b < r.2.2 → a ≠ b → (r.2.1 a).2.1 ≠ (r.2.1 b).2.1) := by
  match ci, h with
  | 0, h => cases h; exact ⟨mf_inX0, tyX0_ok, nmX0⟩
  | 1, h => cases h; exact ⟨mf_inX1, tyX1_ok, nmX1⟩
  | 2, h => cases h; exact ⟨mf_inX2, tyX2_ok, nmX2⟩
  | 3, h => cases h; exact ⟨mf_inX3, tyX3_ok, nmX3⟩
  | 4, h => cases h; exact ⟨mf_inX4, tyX4_ok, nmX4⟩
  | 5, h => cases h; exact ⟨mf_inX5, tyX5_ok, nmX5⟩
  | 6, h => cases h; exact ⟨mf_inX6, tyX6_ok, nmX6⟩
  | 7, h => cases h; exact ⟨mf_inX7, tyX7_ok, nmX7⟩
  | 8, h => cases h; exact ⟨mf_inX8, tyX8_ok, nmX8⟩
  | 9, h => cases h; exact ⟨mf_inX9, tyX9_ok, nmX9⟩
  | 10, h => cases h; exact ⟨mf_inX10, tyX10_ok, nmX10⟩
  | 11, h => cases h; exact ⟨mf_inX11, tyX11_ok, nmX11⟩
  | 12, h => cases h; exact ⟨mf_inX12, tyX12_ok, nmX12⟩
  | k + 13, h => simp [mf_KL] at h
