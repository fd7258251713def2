/-! ===== the fields, as the tables lay them ===== -/
def aLP : List (List Nat) := [[368, 370, 372, 374, 376, 378], [282, 284], [398, 400, 402, 404, 406, 408, 410], [236, 238, 240], [252, 254, 256], [514, 516, 518, 520, 522, 524, 526, 528, 530, 532, 534, 536, 538, 540, 542, 544, 546, 548, 550, 552], [438, 440, 442], [325, 327, 329, 331, 333, 335, 337, 339], [204, 206, 208, 210, 212, 214, 216, 218, 220], [267, 269], [347, 349, 351], [574, 576, 578, 580, 582, 584, 586, 588, 590, 592, 594, 596, 598, 600, 602, 604, 606, 608, 610], [1434, 1436, 1438, 1440, 1442, 1444, 1446, 1448, 1450, 1452, 1454, 1456, 1458, 1460, 1462, 1464, 1466, 1468, 1470, 1472, 1474, 1476, 1478, 1480, 1482, 1484, 1486, 1488, 1490, 1492, 1494, 1496, 1498, 1500, 1502, 1504, 1506, 1508, 1510, 1512, 1514, 1516, 1518, 1520, 1522, 1524, 1526, 1528, 1530, 1532, 1534, 1536, 1538, 1540, 1542, 1544, 1546, 1548, 1550, 1552, 1554, 1556, 1558, 1560, 1562, 1564, 1566, 1568, 1570, 1572, 1574, 1576, 1578, 1580, 1582, 1584, 1586, 1588, 1590, 1592, 1594, 1596, 1598, 1600, 1602, 1604, 1606, 1608, 1610, 1612, 1614, 1616, 1618, 1620, 1622, 1624, 1626, 1628, 1630, 1632, 1634, 1636, 1638, 1640, 1642, 1644, 1646, 1648, 1650, 1652, 1654]]
def aLyOk (i k : Nat) : Bool := aAt ((aLP.getD i []).getD k 0) (u_lay (aCn i) (aT i) k)
theorem aLy_0 : (List.range 12).all (fun i => (List.range (aNf i)).all (aLyOk i)) = true := by decide +kernel
theorem aLy_1 : (List.range 111).all (aLyOk 12) = true := by decide +kernel
theorem aNf_12 : aNf 12 = 111 := by decide +kernel
theorem aLay {i : Nat} (hi : i < 13) : ∀ w ∈ u_ws (aCn i) (aT i) (aNf i), w ∈ aTs := by
  intro w hw
  obtain ⟨k, hk, rfl⟩ := List.mem_map.mp hw
  have hk := List.mem_range.mp hk
  by_cases h12 : i < 12
  · exact aAt_mem (List.all_eq_true.mp (List.all_eq_true.mp aLy_0 i (List.mem_range.mpr h12)) k (List.mem_range.mpr hk))
  · have e : i = 12 := by omega
    subst e
    rw [aNf_12] at hk
    exact aAt_mem (List.all_eq_true.mp aLy_1 k (List.mem_range.mpr hk))
theorem aCls_at {i : Nat} (hi : i < 13) : aCls[i]? = some (aCn i, aT i, aNf i) := by
  match i, hi with
  | 0, _ => rfl
  | 1, _ => rfl
  | 2, _ => rfl
  | 3, _ => rfl
  | 4, _ => rfl
  | 5, _ => rfl
  | 6, _ => rfl
  | 7, _ => rfl
  | 8, _ => rfl
  | 9, _ => rfl
  | 10, _ => rfl
  | 11, _ => rfl
  | 12, _ => rfl
theorem aTy_p {i : Nat} (hi : i < 13) : ∀ k, k < aNf i → parseFieldDescriptor (aT i k).2.2.1 = some (aTy i k) := by
  intro k hk
  have h := aTy_ok hi hk
  simp only [aTyOk, Bool.and_eq_true, decide_eq_true_eq] at h
  exact h.1
theorem aNm_ne {i : Nat} (hi : i < 13) : ∀ a, a < aNf i → ∀ b, b < aNf i → a ≠ b → (aT i a).2.1 ≠ (aT i b).2.1 := by
  intro a ha b hb hab e
  have h := List.all_eq_true.mp aNm_all i (List.mem_range.mpr hi)
  have h : ((aFs i).map fun f => f.1).Nodup := by simpa [aNmOk] using h
  have hla : a < ((aFs i).map fun f => f.1).length := by rw [List.length_map]; exact ha
  have hlb : b < ((aFs i).map fun f => f.1).length := by rw [List.length_map]; exact hb
  have ea : ((aFs i).map fun f => f.1)[a] = (aF i a).1 := by
    have : a < (aFs i).length := ha
    simp [aF, List.getD_eq_getElem?_getD, this]
  have eb : ((aFs i).map fun f => f.1)[b] = (aF i b).1 := by
    have : b < (aFs i).length := hb
    simp [aF, List.getD_eq_getElem?_getD, this]
  have e2 : (aF i a).1 = (aF i b).1 := e
  rw [← ea, ← eb] at e2
  exact hab ((List.getElem_inj h).mp e2)
