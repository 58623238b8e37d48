def mf_SH : List (Nat × Nat) := [(11, 0), (10, 0), (20, 34), (8, 0), (21, 1600), (9, 0), (4, 0), (20, 1600), (20, 4), (20, 4), (7, 0), (1, 0), (20, 12), (20, 12), (20, 12), (20, 8), (20, 8), (4, 0), (20, 1600), (20, 4), (20, 4), (6, 0), (20, 6), (20, 8), (20, 8), (20, 8), (20, 8), (20, 40), (1, 0), (20, 12), (20, 12), (20, 12), (20, 8), (20, 8), (4, 0), (20, 1600), (20, 4), (20, 4), (6, 0), (20, 6), (20, 8), (20, 8), (20, 8), (20, 8), (20, 40), (2, 0), (0, 0), (3, 0), (20, 9), (22, 8), (20, 64), (5, 0), (25, 3), (6, 0), (20, 6), (20, 8), (20, 8), (20, 8), (20, 8), (20, 40), (20, 3), (20, 3), (20, 6), (20, 6), (20, 56), (20, 16), (20, 16), (6, 0), (20, 6), (20, 8), (20, 8), (20, 8), (20, 8), (20, 40), (6, 0), (20, 6), (20, 8), (20, 8), (20, 8), (20, 8), (20, 40), (6, 0), (20, 6), (20, 8), (20, 8), (20, 8), (20, 8), (20, 40), (6, 0), (20, 6), (20, 8), (20, 8), (20, 8), (20, 8), (20, 40), (6, 0), (20, 6), (20, 8), (20, 8), (20, 8), (20, 8), (20, 40), (25, 20), (6, 0), (20, 6), (20, 8), (20, 8), (20, 8), (20, 8), (20, 40), (6, 0), (20, 6), (20, 8), (20, 8), (20, 8), (20, 8), (20, 40), (6, 0), (20, 6), (20, 8), (20, 8), (20, 8), (20, 8), (20, 40), (6, 0), (20, 6), (20, 8), (20, 8), (20, 8), (20, 8), (20, 40), (6, 0), (20, 6), (20, 8), (20, 8), (20, 8), (20, 8), (20, 40), (6, 0), (20, 6), (20, 8), (20, 8), (20, 8), (20, 8), (20, 40), (6, 0), (20, 6), (20, 8), (20, 8), (20, 8), (20, 8), (20, 40), (6, 0), (20, 6), (20, 8), (20, 8), (20, 8), (20, 8), (20, 40), (6, 0), (20, 6), (20, 8), (20, 8), (20, 8), (20, 8), (20, 40), (6, 0), (20, 6), (20, 8), (20, 8), (20, 8), (20, 8), (20, 40), (6, 0), (20, 6), (20, 8), (20, 8), (20, 8), (20, 8), (20, 40), (6, 0), (20, 6), (20, 8), (20, 8), (20, 8), (20, 8), (20, 40), (6, 0), (20, 6), (20, 8), (20, 8), (20, 8), (20, 8), (20, 40), (6, 0), (20, 6), (20, 8), (20, 8), (20, 8), (20, 8), (20, 40), (6, 0), (20, 6), (20, 8), (20, 8), (20, 8), (20, 8), (20, 40), (6, 0), (20, 6), (20, 8), (20, 8), (20, 8), (20, 8), (20, 40), (6, 0), (20, 6), (20, 8), (20, 8), (20, 8), (20, 8), (20, 40), (6, 0), (20, 6), (20, 8), (20, 8), (20, 8), (20, 8), (20, 40), (6, 0), (20, 6), (20, 8), (20, 8), (20, 8), (20, 8), (20, 40), (6, 0), (20, 6), (20, 8), (20, 8), (20, 8), (20, 8), (20, 40), (20, 6), (20, 57), (12, 0), (20, 1600), (20, 6), (23, 5), (23, 5), (23, 5), (23, 4), (23, 5), (23, 2), (23, 2), (23, 5), (23, 5), (23, 4), (23, 4), (23, 5), (23, 5), (23, 3), (23, 4), (23, 4), (23, 5), (23, 4), (23, 5), (23, 6), (23, 3), (23, 5), (23, 2), (23, 3), (23, 3), (23, 3), (23, 3), (23, 3), (20, 4), (20, 6), (24, 16), (20, 6), (20, 72), (20, 16), (20, 16), (20, 8), (20, 8), (20, 3200), (20, 160), (20, 39), (20, 8), (22, 96), (20, 32), (20, 56), (20, 3200), (23, 5), (23, 4), (23, 5), (23, 5), (23, 4), (23, 5), (23, 3), (23, 3), (23, 2), (23, 3), (23, 3), (23, 3), (23, 3), (23, 4), (23, 4), (23, 5), (23, 5), (23, 4), (23, 5), (23, 6), (23, 3), (23, 5), (20, 1700), (20, 1700), (24, 1700), (20, 57)]
def mf_sh (k : Nat) : Nat × Nat := mf_SH.getD k (99, 0)
def mf_ss (k : Nat) : Nat := if (mf_sh k).1 < 20 then mf_fn (mf_sh k).1 else (mf_sh k).2
def mf_sl : Nat → Nat
  | 0 => 0
  | n + 1 => mf_sl n + mf_ss n
theorem mf_sl_mono : ∀ {a b : Nat}, a ≤ b → mf_sl a ≤ mf_sl b
  | a, 0, h => by have : a = 0 := by omega
                  subst this; exact Nat.le_refl _
  | a, b + 1, h => by
    by_cases e : a = b + 1
    · subst e; exact Nat.le_refl _
    · exact Nat.le_trans (mf_sl_mono (by omega : a ≤ b)) (Nat.le_add_right _ _)
set_option maxRecDepth 100000 in
theorem mf_inX0 : ∀ w ∈ u_ws RX0 TX0 1, w ∈ mf_tbl := mf_inAll (ps := [521]) (by decide +kernel) (by decide +kernel)
set_option maxRecDepth 100000 in
theorem mf_inX1 : ∀ w ∈ u_ws RX1 TX1 14, w ∈ mf_tbl := mf_inAll (ps := [441, 443, 445, 447, 449, 451, 453, 455, 457, 459, 461, 463, 465, 467]) (by decide +kernel) (by decide +kernel)
set_option maxRecDepth 100000 in
theorem mf_inX2 : ∀ w ∈ u_ws RX2 TX2 5, w ∈ mf_tbl := mf_inAll (ps := [481, 483, 485, 487, 489]) (by decide +kernel) (by decide +kernel)
set_option maxRecDepth 100000 in
theorem mf_inX3 : ∀ w ∈ u_ws RX3 TX3 4, w ∈ mf_tbl := mf_inAll (ps := [510, 512, 514, 516]) (by decide +kernel) (by decide +kernel)
set_option maxRecDepth 100000 in
theorem mf_inX4 : ∀ w ∈ u_ws RX4 TX4 5, w ∈ mf_tbl := mf_inAll (ps := [305, 307, 309, 311, 313]) (by decide +kernel) (by decide +kernel)
set_option maxRecDepth 100000 in
theorem mf_inX5 : ∀ w ∈ u_ws RX5 TX5 12, w ∈ mf_tbl := mf_inAll (ps := [546, 548, 550, 552, 554, 556, 558, 560, 562, 564, 566, 568]) (by decide +kernel) (by decide +kernel)
set_option maxRecDepth 100000 in
theorem mf_inX6 : ∀ w ∈ u_ws RX6 TX6 8, w ∈ mf_tbl := mf_inAll (ps := [377, 379, 381, 383, 385, 387, 389, 391]) (by decide +kernel) (by decide +kernel)
set_option maxRecDepth 100000 in
theorem mf_inX7 : ∀ w ∈ u_ws RX7 TX7 4, w ∈ mf_tbl := mf_inAll (ps := [326, 328, 330, 332]) (by decide +kernel) (by decide +kernel)
set_option maxRecDepth 100000 in
theorem mf_inX8 : ∀ w ∈ u_ws RX8 TX8 2, w ∈ mf_tbl := mf_inAll (ps := [241, 243]) (by decide +kernel) (by decide +kernel)
set_option maxRecDepth 100000 in
theorem mf_inX9 : ∀ w ∈ u_ws RX9 TX9 9, w ∈ mf_tbl := mf_inAll (ps := [272, 274, 276, 278, 280, 282, 284, 286, 288]) (by decide +kernel) (by decide +kernel)
set_option maxRecDepth 100000 in
theorem mf_inX10 : ∀ w ∈ u_ws RX10 TX10 1, w ∈ mf_tbl := mf_inAll (ps := [223]) (by decide +kernel) (by decide +kernel)
set_option maxRecDepth 100000 in
theorem mf_inX11 : ∀ w ∈ u_ws RX11 TX11 20, w ∈ mf_tbl := mf_inAll (ps := [593, 595, 597, 599, 601, 603, 605, 607, 609, 611, 613, 615, 617, 619, 621, 623, 625, 627, 629, 631]) (by decide +kernel) (by decide +kernel)
set_option maxRecDepth 100000 in
theorem mf_inX12 : ∀ w ∈ u_ws RX12 TX12 106, w ∈ mf_tbl := mf_inAll (ps := [1377, 1379, 1381, 1383, 1385, 1387, 1389, 1391, 1393, 1395, 1397, 1399, 1401, 1403, 1405, 1407, 1409, 1411, 1413, 1415, 1417, 1419, 1421, 1423, 1425, 1427, 1429, 1431, 1433, 1435, 1437, 1439, 1441, 1443, 1445, 1447, 1449, 1451, 1453, 1455, 1457, 1459, 1461, 1463, 1465, 1467, 1469, 1471, 1473, 1475, 1477, 1479, 1481, 1483, 1485, 1487, 1489, 1491, 1493, 1495, 1497, 1499, 1501, 1503, 1505, 1507, 1509, 1511, 1513, 1515, 1517, 1519, 1521, 1523, 1525, 1527, 1529, 1531, 1533, 1535, 1537, 1539, 1541, 1543, 1545, 1547, 1549, 1551, 1553, 1555, 1557, 1559, 1561, 1563, 1565, 1567, 1569, 1571, 1573, 1575, 1577, 1579, 1581, 1583, 1585, 1587]) (by decide +kernel) (by decide +kernel)
theorem mf_KLin {ci : Nat} {r : vw_C} (h : mf_KL[ci]? = some r) : (∀ w ∈ u_ws r.1 r.2.1 r.2.2, w ∈ mf_tbl) ∧ (∀ k, k < r.2.2 → parseFieldDescriptor (r.2.1 k).2.2.1 = some (mf_fty ci k)) ∧ (∀ a, a < r.2.2 → ∀ b, b < r.2.2 → a ≠ b → (r.2.1 a).2.1 ≠ (r.2.1 b).2.1) := by
  match ci, h with
  | 0, h => cases h; exact ⟨mf_inX0, tyX0_ok, nmX0⟩
  | 1, h => cases h; exact ⟨mf_inX1, tyX1_ok, nmX1⟩
  | 2, h => cases h; exact ⟨mf_inX2, tyX2_ok, nmX2⟩
  | 3, h => cases h; exact ⟨mf_inX3, tyX3_ok, nmX3⟩
  | 4, h => cases h; exact ⟨mf_inX4, tyX4_ok, nmX4⟩
  | 5, h => cases h; exact ⟨mf_inX5, tyX5_ok, nmX5⟩
  | 6, h => cases h; exact ⟨mf_inX6, tyX6_ok, nmX6⟩
  | 7, h => cases h; exact ⟨mf_inX7, tyX7_ok, nmX7⟩
  | 8, h => cases h; exact ⟨mf_inX8, tyX8_ok, nmX8⟩
  | 9, h => cases h; exact ⟨mf_inX9, tyX9_ok, nmX9⟩
  | 10, h => cases h; exact ⟨mf_inX10, tyX10_ok, nmX10⟩
  | 11, h => cases h; exact ⟨mf_inX11, tyX11_ok, nmX11⟩
  | 12, h => cases h; exact ⟨mf_inX12, tyX12_ok, nmX12⟩
  | k + 13, h => simp [mf_KL] at h
