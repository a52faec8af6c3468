/-! the words of the law's own calls -/
set_option maxRecDepth 20000 in
theorem cwRL_107 : ∀ w ∈ ([.methodLink RL 107 yX5_feed, .instanceMethod yX5_feed, .selects RX5 yX5_feed yX5_feed, .initialized RX5, .code yX5_feed cX5_feed 6 (some .int)] : List Cond), w ∈ TB := tb_all [442, 443, 444, 105, 445] rfl (by decide +kernel)
theorem cdm_X5_feed : yX5_feed.cls ≠ "java/lang/invoke/MethodHandle" ∧ yX5_feed.cls ≠ "java/lang/invoke/VarHandle" ∧ (parseMethodDescriptor yX5_feed.desc).map (fun d => d.parameters.length) = some 5 := by decide +kernel
set_option maxRecDepth 20000 in
theorem cwRL_110 : ∀ w ∈ ([.methodLink RL 110 yX6_feed, .instanceMethod yX6_feed, .selects RX6 yX6_feed yX6_feed, .initialized RX6, .code yX6_feed cX6_feed 6 (some .int)] : List Cond), w ∈ TB := tb_all [1443, 1444, 1445, 112, 1446] rfl (by decide +kernel)
theorem cdm_X6_feed : yX6_feed.cls ≠ "java/lang/invoke/MethodHandle" ∧ yX6_feed.cls ≠ "java/lang/invoke/VarHandle" ∧ (parseMethodDescriptor yX6_feed.desc).map (fun d => d.parameters.length) = some 5 := by decide +kernel
set_option maxRecDepth 20000 in
theorem cwRL_111 : ∀ w ∈ ([.methodLink RL 111 yL_duchy, .static yL_duchy, .initialized yL_duchy.cls, .codeWith yL_duchy cL_duchy 4 (some .int) [(0, 9, 12, 13)]] : List Cond), w ∈ TB := tb_all [628, 629, 104, 630] rfl (by decide +kernel)
theorem cdm_L_duchy : yL_duchy.cls ≠ "java/lang/invoke/MethodHandle" ∧ yL_duchy.cls ≠ "java/lang/invoke/VarHandle" ∧ (parseMethodDescriptor yL_duchy.desc).map (fun d => d.parameters.length) = some 3 := by decide +kernel
set_option maxRecDepth 20000 in
theorem cwRL_116 : ∀ w ∈ ([.methodLink RL 116 yX6_duchy, .instanceMethod yX6_duchy, .selects RX6 yX6_duchy yX6_duchy, .initialized RX6, .code yX6_duchy cX6_duchy 3 (some .int)] : List Cond), w ∈ TB := tb_all [1451, 1452, 1453, 112, 1454] rfl (by decide +kernel)
theorem cdm_X6_duchy : yX6_duchy.cls ≠ "java/lang/invoke/MethodHandle" ∧ yX6_duchy.cls ≠ "java/lang/invoke/VarHandle" ∧ (parseMethodDescriptor yX6_duchy.desc).map (fun d => d.parameters.length) = some 1 := by decide +kernel
set_option maxRecDepth 20000 in
theorem cwRL_117 : ∀ w ∈ ([.methodLink RL 117 yX6_thrown, .instanceMethod yX6_thrown, .selects RX6 yX6_thrown yX6_thrown, .initialized RX6, .code yX6_thrown cX6_thrown 1 (some .int)] : List Cond), w ∈ TB := tb_all [1439, 1440, 1441, 112, 1442] rfl (by decide +kernel)
theorem cdm_X6_thrown : yX6_thrown.cls ≠ "java/lang/invoke/MethodHandle" ∧ yX6_thrown.cls ≠ "java/lang/invoke/VarHandle" ∧ (parseMethodDescriptor yX6_thrown.desc).map (fun d => d.parameters.length) = some 0 := by decide +kernel
set_option maxRecDepth 20000 in
theorem cwRL_121 : ∀ w ∈ ([.methodLink RL 121 yX5_fault, .instanceMethod yX5_fault, .selects RX5 yX5_fault yX5_fault, .initialized RX5, .code yX5_fault cX5_fault 1 (some .int)] : List Cond), w ∈ TB := tb_all [450, 451, 452, 105, 453] rfl (by decide +kernel)
theorem cdm_X5_fault : yX5_fault.cls ≠ "java/lang/invoke/MethodHandle" ∧ yX5_fault.cls ≠ "java/lang/invoke/VarHandle" ∧ (parseMethodDescriptor yX5_fault.desc).map (fun d => d.parameters.length) = some 0 := by decide +kernel
set_option maxRecDepth 20000 in
theorem cwRL_124 : ∀ w ∈ ([.methodLink RL 124 yX6_fault, .instanceMethod yX6_fault, .selects RX6 yX6_fault yX6_fault, .initialized RX6, .code yX6_fault cX6_fault 1 (some .int)] : List Cond), w ∈ TB := tb_all [1566, 1567, 1568, 112, 1569] rfl (by decide +kernel)
theorem cdm_X6_fault : yX6_fault.cls ≠ "java/lang/invoke/MethodHandle" ∧ yX6_fault.cls ≠ "java/lang/invoke/VarHandle" ∧ (parseMethodDescriptor yX6_fault.desc).map (fun d => d.parameters.length) = some 0 := by decide +kernel
set_option maxRecDepth 20000 in
theorem cwRL_125 : ∀ w ∈ ([.methodLink RL 125 yL_count, .static yL_count, .initialized yL_count.cls, .codeWith yL_count cL_count 4 (some .int) [(0, 9, 12, 18)]] : List Cond), w ∈ TB := tb_all [871, 872, 104, 873] rfl (by decide +kernel)
theorem cdm_L_count : yL_count.cls ≠ "java/lang/invoke/MethodHandle" ∧ yL_count.cls ≠ "java/lang/invoke/VarHandle" ∧ (parseMethodDescriptor yL_count.desc).map (fun d => d.parameters.length) = some 3 := by decide +kernel
set_option maxRecDepth 20000 in
theorem cwRL_127 : ∀ w ∈ ([.methodLink RL 127 yX6_count, .instanceMethod yX6_count, .selects RX6 yX6_count yX6_count, .initialized RX6, .code yX6_count cX6_count 2 (some .int)] : List Cond), w ∈ TB := tb_all [1574, 1575, 1576, 112, 1577] rfl (by decide +kernel)
theorem cdm_X6_count : yX6_count.cls ≠ "java/lang/invoke/MethodHandle" ∧ yX6_count.cls ≠ "java/lang/invoke/VarHandle" ∧ (parseMethodDescriptor yX6_count.desc).map (fun d => d.parameters.length) = some 1 := by decide +kernel
set_option maxRecDepth 20000 in
theorem cwRL_128 : ∀ w ∈ ([.methodLink RL 128 yL_cell, .static yL_cell, .initialized yL_cell.cls, .codeWith yL_cell cL_cell 5 (some .int) [(0, 10, 13, 18)]] : List Cond), w ∈ TB := tb_all [907, 908, 104, 909] rfl (by decide +kernel)
theorem cdm_L_cell : yL_cell.cls ≠ "java/lang/invoke/MethodHandle" ∧ yL_cell.cls ≠ "java/lang/invoke/VarHandle" ∧ (parseMethodDescriptor yL_cell.desc).map (fun d => d.parameters.length) = some 4 := by decide +kernel
set_option maxRecDepth 20000 in
theorem cwRL_131 : ∀ w ∈ ([.methodLink RL 131 yX6_cell, .instanceMethod yX6_cell, .selects RX6 yX6_cell yX6_cell, .initialized RX6, .code yX6_cell cX6_cell 3 (some .int)] : List Cond), w ∈ TB := tb_all [1653, 1654, 1655, 112, 1656] rfl (by decide +kernel)
theorem cdm_X6_cell : yX6_cell.cls ≠ "java/lang/invoke/MethodHandle" ∧ yX6_cell.cls ≠ "java/lang/invoke/VarHandle" ∧ (parseMethodDescriptor yX6_cell.desc).map (fun d => d.parameters.length) = some 2 := by decide +kernel
set_option maxRecDepth 20000 in
theorem cwRL_132 : ∀ w ∈ ([.methodLink RL 132 yL_tree, .static yL_tree, .initialized yL_tree.cls, .codeWith yL_tree cL_tree 5 (some .int) [(0, 10, 13, 18)]] : List Cond), w ∈ TB := tb_all [926, 927, 104, 928] rfl (by decide +kernel)
theorem cdm_L_tree : yL_tree.cls ≠ "java/lang/invoke/MethodHandle" ∧ yL_tree.cls ≠ "java/lang/invoke/VarHandle" ∧ (parseMethodDescriptor yL_tree.desc).map (fun d => d.parameters.length) = some 4 := by decide +kernel
set_option maxRecDepth 20000 in
theorem cwRL_134 : ∀ w ∈ ([.methodLink RL 134 yX6_tree, .instanceMethod yX6_tree, .selects RX6 yX6_tree yX6_tree, .initialized RX6, .code yX6_tree cX6_tree 3 (some .int)] : List Cond), w ∈ TB := tb_all [1669, 1670, 1671, 112, 1672] rfl (by decide +kernel)
theorem cdm_X6_tree : yX6_tree.cls ≠ "java/lang/invoke/MethodHandle" ∧ yX6_tree.cls ≠ "java/lang/invoke/VarHandle" ∧ (parseMethodDescriptor yX6_tree.desc).map (fun d => d.parameters.length) = some 2 := by decide +kernel
set_option maxRecDepth 20000 in
theorem cwRL_135 : ∀ w ∈ ([.methodLink RL 135 yL_house, .static yL_house, .initialized yL_house.cls, .codeWith yL_house cL_house 5 (some .int) [(0, 10, 13, 18)]] : List Cond), w ∈ TB := tb_all [938, 939, 104, 940] rfl (by decide +kernel)
theorem cdm_L_house : yL_house.cls ≠ "java/lang/invoke/MethodHandle" ∧ yL_house.cls ≠ "java/lang/invoke/VarHandle" ∧ (parseMethodDescriptor yL_house.desc).map (fun d => d.parameters.length) = some 4 := by decide +kernel
set_option maxRecDepth 20000 in
theorem cwRL_137 : ∀ w ∈ ([.methodLink RL 137 yX6_house, .instanceMethod yX6_house, .selects RX6 yX6_house yX6_house, .initialized RX6, .code yX6_house cX6_house 3 (some .int)] : List Cond), w ∈ TB := tb_all [1677, 1678, 1679, 112, 1680] rfl (by decide +kernel)
theorem cdm_X6_house : yX6_house.cls ≠ "java/lang/invoke/MethodHandle" ∧ yX6_house.cls ≠ "java/lang/invoke/VarHandle" ∧ (parseMethodDescriptor yX6_house.desc).map (fun d => d.parameters.length) = some 2 := by decide +kernel
set_option maxRecDepth 20000 in
theorem cwRL_138 : ∀ w ∈ ([.methodLink RL 138 yL_miles, .static yL_miles, .initialized yL_miles.cls, .codeWith yL_miles cL_miles 5 (some .int) [(0, 10, 13, 18)]] : List Cond), w ∈ TB := tb_all [956, 957, 104, 958] rfl (by decide +kernel)
theorem cdm_L_miles : yL_miles.cls ≠ "java/lang/invoke/MethodHandle" ∧ yL_miles.cls ≠ "java/lang/invoke/VarHandle" ∧ (parseMethodDescriptor yL_miles.desc).map (fun d => d.parameters.length) = some 4 := by decide +kernel
set_option maxRecDepth 20000 in
theorem cwRL_140 : ∀ w ∈ ([.methodLink RL 140 yX6_miles, .instanceMethod yX6_miles, .selects RX6 yX6_miles yX6_miles, .initialized RX6, .code yX6_miles cX6_miles 3 (some .int)] : List Cond), w ∈ TB := tb_all [1689, 1690, 1691, 112, 1692] rfl (by decide +kernel)
theorem cdm_X6_miles : yX6_miles.cls ≠ "java/lang/invoke/MethodHandle" ∧ yX6_miles.cls ≠ "java/lang/invoke/VarHandle" ∧ (parseMethodDescriptor yX6_miles.desc).map (fun d => d.parameters.length) = some 2 := by decide +kernel
set_option maxRecDepth 20000 in
theorem cwRL_141 : ∀ w ∈ ([.methodLink RL 141 yL_seen, .static yL_seen, .initialized yL_seen.cls, .codeWith yL_seen cL_seen 4 (some .int) [(0, 8, 11, 18)]] : List Cond), w ∈ TB := tb_all [968, 969, 104, 970] rfl (by decide +kernel)
theorem cdm_L_seen : yL_seen.cls ≠ "java/lang/invoke/MethodHandle" ∧ yL_seen.cls ≠ "java/lang/invoke/VarHandle" ∧ (parseMethodDescriptor yL_seen.desc).map (fun d => d.parameters.length) = some 3 := by decide +kernel
set_option maxRecDepth 20000 in
theorem cwRL_143 : ∀ w ∈ ([.methodLink RL 143 yX6_seen, .instanceMethod yX6_seen, .selects RX6 yX6_seen yX6_seen, .initialized RX6, .code yX6_seen cX6_seen 2 (some .long)] : List Cond), w ∈ TB := tb_all [1693, 1694, 1695, 112, 1696] rfl (by decide +kernel)
theorem cdm_X6_seen : yX6_seen.cls ≠ "java/lang/invoke/MethodHandle" ∧ yX6_seen.cls ≠ "java/lang/invoke/VarHandle" ∧ (parseMethodDescriptor yX6_seen.desc).map (fun d => d.parameters.length) = some 1 := by decide +kernel
set_option maxRecDepth 20000 in
theorem cwRL_144 : ∀ w ∈ ([.methodLink RL 144 yX5_years, .instanceMethod yX5_years, .selects RX5 yX5_years yX5_years, .initialized RX5, .code yX5_years cX5_years 3 (some .int)] : List Cond), w ∈ TB := tb_all [454, 455, 456, 105, 457] rfl (by decide +kernel)
theorem cdm_X5_years : yX5_years.cls ≠ "java/lang/invoke/MethodHandle" ∧ yX5_years.cls ≠ "java/lang/invoke/VarHandle" ∧ (parseMethodDescriptor yX5_years.desc).map (fun d => d.parameters.length) = some 1 := by decide +kernel
set_option maxRecDepth 20000 in
theorem cwRL_147 : ∀ w ∈ ([.methodLink RL 147 yX6_years, .instanceMethod yX6_years, .selects RX6 yX6_years yX6_years, .initialized RX6, .code yX6_years cX6_years 3 (some .int)] : List Cond), w ∈ TB := tb_all [1697, 1698, 1699, 112, 1700] rfl (by decide +kernel)
theorem cdm_X6_years : yX6_years.cls ≠ "java/lang/invoke/MethodHandle" ∧ yX6_years.cls ≠ "java/lang/invoke/VarHandle" ∧ (parseMethodDescriptor yX6_years.desc).map (fun d => d.parameters.length) = some 1 := by decide +kernel
set_option maxRecDepth 20000 in
theorem cwRL_148 : ∀ w ∈ ([.methodLink RL 148 yL_plant, .static yL_plant, .initialized yL_plant.cls, .codeWith yL_plant cL_plant 5 (some .int) [(0, 10, 13, 18)]] : List Cond), w ∈ TB := tb_all [975, 976, 104, 977] rfl (by decide +kernel)
theorem cdm_L_plant : yL_plant.cls ≠ "java/lang/invoke/MethodHandle" ∧ yL_plant.cls ≠ "java/lang/invoke/VarHandle" ∧ (parseMethodDescriptor yL_plant.desc).map (fun d => d.parameters.length) = some 4 := by decide +kernel
set_option maxRecDepth 20000 in
theorem cwRL_150 : ∀ w ∈ ([.methodLink RL 150 yX6_plant, .instanceMethod yX6_plant, .selects RX6 yX6_plant yX6_plant, .initialized RX6, .code yX6_plant cX6_plant 4 (some .int)] : List Cond), w ∈ TB := tb_all [1713, 1714, 1715, 112, 1716] rfl (by decide +kernel)
theorem cdm_X6_plant : yX6_plant.cls ≠ "java/lang/invoke/MethodHandle" ∧ yX6_plant.cls ≠ "java/lang/invoke/VarHandle" ∧ (parseMethodDescriptor yX6_plant.desc).map (fun d => d.parameters.length) = some 2 := by decide +kernel
set_option maxRecDepth 20000 in
theorem cwRL_151 : ∀ w ∈ ([.methodLink RL 151 yL_fell, .static yL_fell, .initialized yL_fell.cls, .codeWith yL_fell cL_fell 4 (some .int) [(0, 9, 12, 18)]] : List Cond), w ∈ TB := tb_all [985, 986, 104, 987] rfl (by decide +kernel)
theorem cdm_L_fell : yL_fell.cls ≠ "java/lang/invoke/MethodHandle" ∧ yL_fell.cls ≠ "java/lang/invoke/VarHandle" ∧ (parseMethodDescriptor yL_fell.desc).map (fun d => d.parameters.length) = some 3 := by decide +kernel
set_option maxRecDepth 20000 in
theorem cwRL_153 : ∀ w ∈ ([.methodLink RL 153 yX6_fell, .instanceMethod yX6_fell, .selects RX6 yX6_fell yX6_fell, .initialized RX6, .code yX6_fell cX6_fell 3 (some .int)] : List Cond), w ∈ TB := tb_all [1721, 1722, 1723, 112, 1724] rfl (by decide +kernel)
theorem cdm_X6_fell : yX6_fell.cls ≠ "java/lang/invoke/MethodHandle" ∧ yX6_fell.cls ≠ "java/lang/invoke/VarHandle" ∧ (parseMethodDescriptor yX6_fell.desc).map (fun d => d.parameters.length) = some 1 := by decide +kernel
set_option maxRecDepth 20000 in
theorem cwRL_154 : ∀ w ∈ ([.methodLink RL 154 yL_floor, .static yL_floor, .initialized yL_floor.cls, .codeWith yL_floor cL_floor 5 (some .int) [(0, 10, 13, 18)]] : List Cond), w ∈ TB := tb_all [992, 993, 104, 994] rfl (by decide +kernel)
theorem cdm_L_floor : yL_floor.cls ≠ "java/lang/invoke/MethodHandle" ∧ yL_floor.cls ≠ "java/lang/invoke/VarHandle" ∧ (parseMethodDescriptor yL_floor.desc).map (fun d => d.parameters.length) = some 4 := by decide +kernel
set_option maxRecDepth 20000 in
theorem cwRL_156 : ∀ w ∈ ([.methodLink RL 156 yX6_floor, .instanceMethod yX6_floor, .selects RX6 yX6_floor yX6_floor, .initialized RX6, .code yX6_floor cX6_floor 3 (some .int)] : List Cond), w ∈ TB := tb_all [1725, 1726, 1727, 112, 1728] rfl (by decide +kernel)
theorem cdm_X6_floor : yX6_floor.cls ≠ "java/lang/invoke/MethodHandle" ∧ yX6_floor.cls ≠ "java/lang/invoke/VarHandle" ∧ (parseMethodDescriptor yX6_floor.desc).map (fun d => d.parameters.length) = some 2 := by decide +kernel
set_option maxRecDepth 20000 in
theorem cwRL_157 : ∀ w ∈ ([.methodLink RL 157 yL_barn, .static yL_barn, .initialized yL_barn.cls, .codeWith yL_barn cL_barn 5 (some .int) [(0, 10, 13, 18)]] : List Cond), w ∈ TB := tb_all [999, 1000, 104, 1001] rfl (by decide +kernel)
theorem cdm_L_barn : yL_barn.cls ≠ "java/lang/invoke/MethodHandle" ∧ yL_barn.cls ≠ "java/lang/invoke/VarHandle" ∧ (parseMethodDescriptor yL_barn.desc).map (fun d => d.parameters.length) = some 4 := by decide +kernel
set_option maxRecDepth 20000 in
theorem cwRL_159 : ∀ w ∈ ([.methodLink RL 159 yX6_barn, .instanceMethod yX6_barn, .selects RX6 yX6_barn yX6_barn, .initialized RX6, .code yX6_barn cX6_barn 3 (some .int)] : List Cond), w ∈ TB := tb_all [1733, 1734, 1735, 112, 1736] rfl (by decide +kernel)
theorem cdm_X6_barn : yX6_barn.cls ≠ "java/lang/invoke/MethodHandle" ∧ yX6_barn.cls ≠ "java/lang/invoke/VarHandle" ∧ (parseMethodDescriptor yX6_barn.desc).map (fun d => d.parameters.length) = some 2 := by decide +kernel
set_option maxRecDepth 20000 in
theorem cwRL_160 : ∀ w ∈ ([.methodLink RL 160 yL_sell, .static yL_sell, .initialized yL_sell.cls, .codeWith yL_sell cL_sell 5 (some .int) [(0, 17, 20, 18)]] : List Cond), w ∈ TB := tb_all [1006, 1007, 104, 1008] rfl (by decide +kernel)
theorem cdm_L_sell : yL_sell.cls ≠ "java/lang/invoke/MethodHandle" ∧ yL_sell.cls ≠ "java/lang/invoke/VarHandle" ∧ (parseMethodDescriptor yL_sell.desc).map (fun d => d.parameters.length) = some 4 := by decide +kernel
set_option maxRecDepth 20000 in
theorem cwRL_162 : ∀ w ∈ ([.methodLink RL 162 yX6_sell, .instanceMethod yX6_sell, .selects RX6 yX6_sell yX6_sell, .initialized RX6, .code yX6_sell cX6_sell 3 (some .boolean)] : List Cond), w ∈ TB := tb_all [1737, 1738, 1739, 112, 1740] rfl (by decide +kernel)
theorem cdm_X6_sell : yX6_sell.cls ≠ "java/lang/invoke/MethodHandle" ∧ yX6_sell.cls ≠ "java/lang/invoke/VarHandle" ∧ (parseMethodDescriptor yX6_sell.desc).map (fun d => d.parameters.length) = some 2 := by decide +kernel
set_option maxRecDepth 20000 in
theorem cwRL_163 : ∀ w ∈ ([.methodLink RL 163 yX5_obey, .instanceMethod yX5_obey, .selects RX5 yX5_obey yX5_obey, .initialized RX5, .code yX5_obey cX5_obey 2 (some .boolean)] : List Cond), w ∈ TB := tb_all [538, 539, 540, 105, 541] rfl (by decide +kernel)
theorem cdm_X5_obey : yX5_obey.cls ≠ "java/lang/invoke/MethodHandle" ∧ yX5_obey.cls ≠ "java/lang/invoke/VarHandle" ∧ (parseMethodDescriptor yX5_obey.desc).map (fun d => d.parameters.length) = some 1 := by decide +kernel
set_option maxRecDepth 20000 in
theorem cwRL_167 : ∀ w ∈ ([.methodLink RL 167 yX6_obey, .instanceMethod yX6_obey, .selects RX6 yX6_obey yX6_obey, .initialized RX6, .code yX6_obey cX6_obey 2 (some .boolean)] : List Cond), w ∈ TB := tb_all [1741, 1742, 1743, 112, 1744] rfl (by decide +kernel)
theorem cdm_X6_obey : yX6_obey.cls ≠ "java/lang/invoke/MethodHandle" ∧ yX6_obey.cls ≠ "java/lang/invoke/VarHandle" ∧ (parseMethodDescriptor yX6_obey.desc).map (fun d => d.parameters.length) = some 1 := by decide +kernel
set_option maxRecDepth 20000 in
theorem cwRL_168 : ∀ w ∈ ([.methodLink RL 168 yX5_undo, .instanceMethod yX5_undo, .selects RX5 yX5_undo yX5_undo, .initialized RX5, .code yX5_undo cX5_undo 1 (some .int)] : List Cond), w ∈ TB := tb_all [550, 551, 552, 105, 553] rfl (by decide +kernel)
theorem cdm_X5_undo : yX5_undo.cls ≠ "java/lang/invoke/MethodHandle" ∧ yX5_undo.cls ≠ "java/lang/invoke/VarHandle" ∧ (parseMethodDescriptor yX5_undo.desc).map (fun d => d.parameters.length) = some 0 := by decide +kernel
set_option maxRecDepth 20000 in
theorem cwRL_171 : ∀ w ∈ ([.methodLink RL 171 yX6_undo, .instanceMethod yX6_undo, .selects RX6 yX6_undo yX6_undo, .initialized RX6, .code yX6_undo cX6_undo 2 (some .int)] : List Cond), w ∈ TB := tb_all [1570, 1571, 1572, 112, 1573] rfl (by decide +kernel)
theorem cdm_X6_undo : yX6_undo.cls ≠ "java/lang/invoke/MethodHandle" ∧ yX6_undo.cls ≠ "java/lang/invoke/VarHandle" ∧ (parseMethodDescriptor yX6_undo.desc).map (fun d => d.parameters.length) = some 0 := by decide +kernel
set_option maxRecDepth 20000 in
theorem cwRL_172 : ∀ w ∈ ([.methodLink RL 172 yL_firs, .static yL_firs, .initialized yL_firs.cls, .codeWith yL_firs cL_firs 5 (some .int) [(0, 10, 13, 13)]] : List Cond), w ∈ TB := tb_all [1013, 1014, 104, 1015] rfl (by decide +kernel)
theorem cdm_L_firs : yL_firs.cls ≠ "java/lang/invoke/MethodHandle" ∧ yL_firs.cls ≠ "java/lang/invoke/VarHandle" ∧ (parseMethodDescriptor yL_firs.desc).map (fun d => d.parameters.length) = some 4 := by decide +kernel
set_option maxRecDepth 20000 in
theorem cwRL_174 : ∀ w ∈ ([.methodLink RL 174 yX6_firs, .instanceMethod yX6_firs, .selects RX6 yX6_firs yX6_firs, .initialized RX6, .code yX6_firs cX6_firs 4 (some .int)] : List Cond), w ∈ TB := tb_all [1745, 1746, 1747, 112, 1748] rfl (by decide +kernel)
theorem cdm_X6_firs : yX6_firs.cls ≠ "java/lang/invoke/MethodHandle" ∧ yX6_firs.cls ≠ "java/lang/invoke/VarHandle" ∧ (parseMethodDescriptor yX6_firs.desc).map (fun d => d.parameters.length) = some 2 := by decide +kernel
set_option maxRecDepth 20000 in
theorem cwRL_175 : ∀ w ∈ ([.methodLink RL 175 yL_fir, .static yL_fir, .initialized yL_fir.cls, .codeWith yL_fir cL_fir 4 (some .int) [(0, 9, 12, 18)]] : List Cond), w ∈ TB := tb_all [1048, 1049, 104, 1050] rfl (by decide +kernel)
theorem cdm_L_fir : yL_fir.cls ≠ "java/lang/invoke/MethodHandle" ∧ yL_fir.cls ≠ "java/lang/invoke/VarHandle" ∧ (parseMethodDescriptor yL_fir.desc).map (fun d => d.parameters.length) = some 3 := by decide +kernel
set_option maxRecDepth 20000 in
theorem cwRL_177 : ∀ w ∈ ([.methodLink RL 177 yX6_fir, .instanceMethod yX6_fir, .selects RX6 yX6_fir yX6_fir, .initialized RX6, .code yX6_fir cX6_fir 2 (some .int)] : List Cond), w ∈ TB := tb_all [1757, 1758, 1759, 112, 1760] rfl (by decide +kernel)
theorem cdm_X6_fir : yX6_fir.cls ≠ "java/lang/invoke/MethodHandle" ∧ yX6_fir.cls ≠ "java/lang/invoke/VarHandle" ∧ (parseMethodDescriptor yX6_fir.desc).map (fun d => d.parameters.length) = some 1 := by decide +kernel
set_option maxRecDepth 20000 in
theorem cwRL_178 : ∀ w ∈ ([.methodLink RL 178 yL_spades, .static yL_spades, .initialized yL_spades.cls, .codeWith yL_spades cL_spades 5 (some .int) [(0, 10, 13, 18), (0, 10, 17, 13)]] : List Cond), w ∈ TB := tb_all [1056, 1057, 104, 1058] rfl (by decide +kernel)
theorem cdm_L_spades : yL_spades.cls ≠ "java/lang/invoke/MethodHandle" ∧ yL_spades.cls ≠ "java/lang/invoke/VarHandle" ∧ (parseMethodDescriptor yL_spades.desc).map (fun d => d.parameters.length) = some 4 := by decide +kernel
set_option maxRecDepth 20000 in
theorem cwRL_180 : ∀ w ∈ ([.methodLink RL 180 yX6_spades, .instanceMethod yX6_spades, .selects RX6 yX6_spades yX6_spades, .initialized RX6, .code yX6_spades cX6_spades 6 (some .int)] : List Cond), w ∈ TB := tb_all [1761, 1762, 1763, 112, 1764] rfl (by decide +kernel)
theorem cdm_X6_spades : yX6_spades.cls ≠ "java/lang/invoke/MethodHandle" ∧ yX6_spades.cls ≠ "java/lang/invoke/VarHandle" ∧ (parseMethodDescriptor yX6_spades.desc).map (fun d => d.parameters.length) = some 2 := by decide +kernel
set_option maxRecDepth 20000 in
theorem cwRL_181 : ∀ w ∈ ([.methodLink RL 181 yL_felling, .static yL_felling, .initialized yL_felling.cls, .codeWith yL_felling cL_felling 4 (some .int) [(0, 9, 12, 18)]] : List Cond), w ∈ TB := tb_all [1064, 1065, 104, 1066] rfl (by decide +kernel)
theorem cdm_L_felling : yL_felling.cls ≠ "java/lang/invoke/MethodHandle" ∧ yL_felling.cls ≠ "java/lang/invoke/VarHandle" ∧ (parseMethodDescriptor yL_felling.desc).map (fun d => d.parameters.length) = some 3 := by decide +kernel
set_option maxRecDepth 20000 in
theorem cwRL_183 : ∀ w ∈ ([.methodLink RL 183 yX6_felling, .instanceMethod yX6_felling, .selects RX6 yX6_felling yX6_felling, .initialized RX6, .code yX6_felling cX6_felling 5 (some .int)] : List Cond), w ∈ TB := tb_all [1765, 1766, 1767, 112, 1768] rfl (by decide +kernel)
theorem cdm_X6_felling : yX6_felling.cls ≠ "java/lang/invoke/MethodHandle" ∧ yX6_felling.cls ≠ "java/lang/invoke/VarHandle" ∧ (parseMethodDescriptor yX6_felling.desc).map (fun d => d.parameters.length) = some 1 := by decide +kernel
set_option maxRecDepth 20000 in
theorem cwRL_184 : ∀ w ∈ ([.methodLink RL 184 yX5_ruin, .instanceMethod yX5_ruin, .selects RX5 yX5_ruin yX5_ruin, .initialized RX5, .code yX5_ruin cX5_ruin 4 (some .int)] : List Cond), w ∈ TB := tb_all [558, 559, 560, 105, 561] rfl (by decide +kernel)
theorem cdm_X5_ruin : yX5_ruin.cls ≠ "java/lang/invoke/MethodHandle" ∧ yX5_ruin.cls ≠ "java/lang/invoke/VarHandle" ∧ (parseMethodDescriptor yX5_ruin.desc).map (fun d => d.parameters.length) = some 0 := by decide +kernel
set_option maxRecDepth 20000 in
theorem cwRL_187 : ∀ w ∈ ([.methodLink RL 187 yX6_ruin, .instanceMethod yX6_ruin, .selects RX6 yX6_ruin yX6_ruin, .initialized RX6, .code yX6_ruin cX6_ruin 3 (some .int)] : List Cond), w ∈ TB := tb_all [1769, 1770, 1771, 112, 1772] rfl (by decide +kernel)
theorem cdm_X6_ruin : yX6_ruin.cls ≠ "java/lang/invoke/MethodHandle" ∧ yX6_ruin.cls ≠ "java/lang/invoke/VarHandle" ∧ (parseMethodDescriptor yX6_ruin.desc).map (fun d => d.parameters.length) = some 0 := by decide +kernel
set_option maxRecDepth 20000 in
theorem cwRL_188 : ∀ w ∈ ([.methodLink RL 188 yL_compare, .static yL_compare, .initialized yL_compare.cls, .codeWith yL_compare cL_compare 5 (some .int) [(0, 10, 13, 18)]] : List Cond), w ∈ TB := tb_all [1071, 1072, 104, 1073] rfl (by decide +kernel)
theorem cdm_L_compare : yL_compare.cls ≠ "java/lang/invoke/MethodHandle" ∧ yL_compare.cls ≠ "java/lang/invoke/VarHandle" ∧ (parseMethodDescriptor yL_compare.desc).map (fun d => d.parameters.length) = some 4 := by decide +kernel
set_option maxRecDepth 20000 in
theorem cwRL_190 : ∀ w ∈ ([.methodLink RL 190 yX6_compare, .instanceMethod yX6_compare, .selects RX6 yX6_compare yX6_compare, .initialized RX6, .code yX6_compare cX6_compare 3 (some .int)] : List Cond), w ∈ TB := tb_all [1777, 1778, 1779, 112, 1780] rfl (by decide +kernel)
theorem cdm_X6_compare : yX6_compare.cls ≠ "java/lang/invoke/MethodHandle" ∧ yX6_compare.cls ≠ "java/lang/invoke/VarHandle" ∧ (parseMethodDescriptor yX6_compare.desc).map (fun d => d.parameters.length) = some 2 := by decide +kernel
set_option maxRecDepth 20000 in
theorem cwRL_191 : ∀ w ∈ ([.methodLink RL 191 yL_mildest, .static yL_mildest, .initialized yL_mildest.cls, .codeWith yL_mildest cL_mildest 4 (some .int) [(0, 9, 12, 13)]] : List Cond), w ∈ TB := tb_all [1087, 1088, 104, 1089] rfl (by decide +kernel)
theorem cdm_L_mildest : yL_mildest.cls ≠ "java/lang/invoke/MethodHandle" ∧ yL_mildest.cls ≠ "java/lang/invoke/VarHandle" ∧ (parseMethodDescriptor yL_mildest.desc).map (fun d => d.parameters.length) = some 3 := by decide +kernel
set_option maxRecDepth 20000 in
theorem cwRL_193 : ∀ w ∈ ([.methodLink RL 193 yX6_mildest, .instanceMethod yX6_mildest, .selects RX6 yX6_mildest yX6_mildest, .initialized RX6, .code yX6_mildest cX6_mildest 4 (some .int)] : List Cond), w ∈ TB := tb_all [1785, 1786, 1787, 112, 1788] rfl (by decide +kernel)
theorem cdm_X6_mildest : yX6_mildest.cls ≠ "java/lang/invoke/MethodHandle" ∧ yX6_mildest.cls ≠ "java/lang/invoke/VarHandle" ∧ (parseMethodDescriptor yX6_mildest.desc).map (fun d => d.parameters.length) = some 1 := by decide +kernel
set_option maxRecDepth 20000 in
theorem cwRL_194 : ∀ w ∈ ([.methodLink RL 194 yL_round, .static yL_round, .initialized yL_round.cls, .codeWith yL_round cL_round 4 (some .int) [(0, 9, 12, 18)]] : List Cond), w ∈ TB := tb_all [1094, 1095, 104, 1096] rfl (by decide +kernel)
theorem cdm_L_round : yL_round.cls ≠ "java/lang/invoke/MethodHandle" ∧ yL_round.cls ≠ "java/lang/invoke/VarHandle" ∧ (parseMethodDescriptor yL_round.desc).map (fun d => d.parameters.length) = some 3 := by decide +kernel
set_option maxRecDepth 20000 in
theorem cwRL_196 : ∀ w ∈ ([.methodLink RL 196 yX6_round, .instanceMethod yX6_round, .selects RX6 yX6_round yX6_round, .initialized RX6, .code yX6_round cX6_round 6 (some .int)] : List Cond), w ∈ TB := tb_all [1789, 1790, 1791, 112, 1792] rfl (by decide +kernel)
theorem cdm_X6_round : yX6_round.cls ≠ "java/lang/invoke/MethodHandle" ∧ yX6_round.cls ≠ "java/lang/invoke/VarHandle" ∧ (parseMethodDescriptor yX6_round.desc).map (fun d => d.parameters.length) = some 1 := by decide +kernel
set_option maxRecDepth 20000 in
theorem cwRL_197 : ∀ w ∈ ([.methodLink RL 197 yL_stop, .static yL_stop, .initialized yL_stop.cls, .codeWith yL_stop cL_stop 4 (some .int) [(0, 9, 12, 18)]] : List Cond), w ∈ TB := tb_all [1119, 1120, 104, 1121] rfl (by decide +kernel)
theorem cdm_L_stop : yL_stop.cls ≠ "java/lang/invoke/MethodHandle" ∧ yL_stop.cls ≠ "java/lang/invoke/VarHandle" ∧ (parseMethodDescriptor yL_stop.desc).map (fun d => d.parameters.length) = some 3 := by decide +kernel
set_option maxRecDepth 20000 in
theorem cwRL_199 : ∀ w ∈ ([.methodLink RL 199 yX6_stop, .instanceMethod yX6_stop, .selects RX6 yX6_stop yX6_stop, .initialized RX6, .code yX6_stop cX6_stop 2 (some .int)] : List Cond), w ∈ TB := tb_all [1808, 1809, 1810, 112, 1811] rfl (by decide +kernel)
theorem cdm_X6_stop : yX6_stop.cls ≠ "java/lang/invoke/MethodHandle" ∧ yX6_stop.cls ≠ "java/lang/invoke/VarHandle" ∧ (parseMethodDescriptor yX6_stop.desc).map (fun d => d.parameters.length) = some 1 := by decide +kernel
set_option maxRecDepth 20000 in
theorem cwRL_200 : ∀ w ∈ ([.methodLink RL 200 yL_barns, .static yL_barns, .initialized yL_barns.cls, .codeWith yL_barns cL_barns 8 (some .int) [(0, 16, 19, 18), (0, 16, 23, 13)]] : List Cond), w ∈ TB := tb_all [1127, 1128, 104, 1129] rfl (by decide +kernel)
theorem cdm_L_barns : yL_barns.cls ≠ "java/lang/invoke/MethodHandle" ∧ yL_barns.cls ≠ "java/lang/invoke/VarHandle" ∧ (parseMethodDescriptor yL_barns.desc).map (fun d => d.parameters.length) = some 7 := by decide +kernel
set_option maxRecDepth 20000 in
theorem cwRL_203 : ∀ w ∈ ([.methodLink RL 203 yX6_barns, .instanceMethod yX6_barns, .selects RX6 yX6_barns yX6_barns, .initialized RX6, .code yX6_barns cX6_barns 11 (some .int)] : List Cond), w ∈ TB := tb_all [1812, 1813, 1814, 112, 1815] rfl (by decide +kernel)
theorem cdm_X6_barns : yX6_barns.cls ≠ "java/lang/invoke/MethodHandle" ∧ yX6_barns.cls ≠ "java/lang/invoke/VarHandle" ∧ (parseMethodDescriptor yX6_barns.desc).map (fun d => d.parameters.length) = some 5 := by decide +kernel
set_option maxRecDepth 20000 in
theorem cwRL_204 : ∀ w ∈ ([.methodLink RL 204 yL_tell, .static yL_tell, .initialized yL_tell.cls, .codeWith yL_tell cL_tell 5 (some .int) [(0, 10, 13, 18)]] : List Cond), w ∈ TB := tb_all [1143, 1144, 104, 1145] rfl (by decide +kernel)
theorem cdm_L_tell : yL_tell.cls ≠ "java/lang/invoke/MethodHandle" ∧ yL_tell.cls ≠ "java/lang/invoke/VarHandle" ∧ (parseMethodDescriptor yL_tell.desc).map (fun d => d.parameters.length) = some 4 := by decide +kernel
set_option maxRecDepth 20000 in
theorem cwRL_206 : ∀ w ∈ ([.methodLink RL 206 yX6_tell, .instanceMethod yX6_tell, .selects RX6 yX6_tell yX6_tell, .initialized RX6, .code yX6_tell cX6_tell 3 (some .int)] : List Cond), w ∈ TB := tb_all [1820, 1821, 1822, 112, 1823] rfl (by decide +kernel)
theorem cdm_X6_tell : yX6_tell.cls ≠ "java/lang/invoke/MethodHandle" ∧ yX6_tell.cls ≠ "java/lang/invoke/VarHandle" ∧ (parseMethodDescriptor yX6_tell.desc).map (fun d => d.parameters.length) = some 2 := by decide +kernel
set_option maxRecDepth 20000 in
theorem cwRL_207 : ∀ w ∈ ([.methodLink RL 207 yX5_forget, .instanceMethod yX5_forget, .selects RX5 yX5_forget yX5_forget, .initialized RX5, .code yX5_forget cX5_forget 1 none] : List Cond), w ∈ TB := tb_all [570, 571, 572, 105, 573] rfl (by decide +kernel)
theorem cdm_X5_forget : yX5_forget.cls ≠ "java/lang/invoke/MethodHandle" ∧ yX5_forget.cls ≠ "java/lang/invoke/VarHandle" ∧ (parseMethodDescriptor yX5_forget.desc).map (fun d => d.parameters.length) = some 0 := by decide +kernel
set_option maxRecDepth 20000 in
theorem cwRL_210 : ∀ w ∈ ([.methodLink RL 210 yX6_forget, .instanceMethod yX6_forget, .selects RX6 yX6_forget yX6_forget, .initialized RX6, .code yX6_forget cX6_forget 1 none] : List Cond), w ∈ TB := tb_all [1824, 1825, 1826, 112, 1827] rfl (by decide +kernel)
theorem cdm_X6_forget : yX6_forget.cls ≠ "java/lang/invoke/MethodHandle" ∧ yX6_forget.cls ≠ "java/lang/invoke/VarHandle" ∧ (parseMethodDescriptor yX6_forget.desc).map (fun d => d.parameters.length) = some 0 := by decide +kernel
set_option maxRecDepth 20000 in
theorem cwRL_211 : ∀ w ∈ ([.methodLink RL 211 yX5_liars, .instanceMethod yX5_liars, .selects RX5 yX5_liars yX5_liars, .initialized RX5, .code yX5_liars cX5_liars 1 (some .int)] : List Cond), w ∈ TB := tb_all [574, 575, 576, 105, 577] rfl (by decide +kernel)
theorem cdm_X5_liars : yX5_liars.cls ≠ "java/lang/invoke/MethodHandle" ∧ yX5_liars.cls ≠ "java/lang/invoke/VarHandle" ∧ (parseMethodDescriptor yX5_liars.desc).map (fun d => d.parameters.length) = some 0 := by decide +kernel
set_option maxRecDepth 20000 in
theorem cwRL_214 : ∀ w ∈ ([.methodLink RL 214 yX6_liars, .instanceMethod yX6_liars, .selects RX6 yX6_liars yX6_liars, .initialized RX6, .code yX6_liars cX6_liars 1 (some .int)] : List Cond), w ∈ TB := tb_all [1828, 1829, 1830, 112, 1831] rfl (by decide +kernel)
theorem cdm_X6_liars : yX6_liars.cls ≠ "java/lang/invoke/MethodHandle" ∧ yX6_liars.cls ≠ "java/lang/invoke/VarHandle" ∧ (parseMethodDescriptor yX6_liars.desc).map (fun d => d.parameters.length) = some 0 := by decide +kernel
set_option maxRecDepth 20000 in
theorem cwRL_215 : ∀ w ∈ ([.methodLink RL 215 yL_heights, .static yL_heights, .initialized yL_heights.cls, .codeWith yL_heights cL_heights 5 (some .int) [(0, 10, 13, 18)]] : List Cond), w ∈ TB := tb_all [1154, 1155, 104, 1156] rfl (by decide +kernel)
theorem cdm_L_heights : yL_heights.cls ≠ "java/lang/invoke/MethodHandle" ∧ yL_heights.cls ≠ "java/lang/invoke/VarHandle" ∧ (parseMethodDescriptor yL_heights.desc).map (fun d => d.parameters.length) = some 4 := by decide +kernel
set_option maxRecDepth 20000 in
theorem cwRL_217 : ∀ w ∈ ([.methodLink RL 217 yX6_heights, .instanceMethod yX6_heights, .selects RX6 yX6_heights yX6_heights, .initialized RX6, .code yX6_heights cX6_heights 7 (some .int)] : List Cond), w ∈ TB := tb_all [1836, 1837, 1838, 112, 1839] rfl (by decide +kernel)
theorem cdm_X6_heights : yX6_heights.cls ≠ "java/lang/invoke/MethodHandle" ∧ yX6_heights.cls ≠ "java/lang/invoke/VarHandle" ∧ (parseMethodDescriptor yX6_heights.desc).map (fun d => d.parameters.length) = some 2 := by decide +kernel
set_option maxRecDepth 20000 in
theorem cwRL_218 : ∀ w ∈ ([.methodLink RL 218 yX5_cheat, .instanceMethod yX5_cheat, .selects RX5 yX5_cheat yX5_cheat, .initialized RX5, .code yX5_cheat cX5_cheat 11 (some .int)] : List Cond), w ∈ TB := tb_all [586, 587, 588, 105, 589] rfl (by decide +kernel)
theorem cdm_X5_cheat : yX5_cheat.cls ≠ "java/lang/invoke/MethodHandle" ∧ yX5_cheat.cls ≠ "java/lang/invoke/VarHandle" ∧ (parseMethodDescriptor yX5_cheat.desc).map (fun d => d.parameters.length) = some 0 := by decide +kernel
set_option maxRecDepth 20000 in
theorem cwRL_221 : ∀ w ∈ ([.methodLink RL 221 yX6_cheat, .instanceMethod yX6_cheat, .selects RX6 yX6_cheat yX6_cheat, .initialized RX6, .code yX6_cheat cX6_cheat 7 (some .int)] : List Cond), w ∈ TB := tb_all [1840, 1841, 1842, 112, 1843] rfl (by decide +kernel)
theorem cdm_X6_cheat : yX6_cheat.cls ≠ "java/lang/invoke/MethodHandle" ∧ yX6_cheat.cls ≠ "java/lang/invoke/VarHandle" ∧ (parseMethodDescriptor yX6_cheat.desc).map (fun d => d.parameters.length) = some 0 := by decide +kernel
set_option maxRecDepth 20000 in
theorem cwRL_222 : ∀ w ∈ ([.methodLink RL 222 yX5_ruined, .instanceMethod yX5_ruined, .selects RX5 yX5_ruined yX5_ruined, .initialized RX5, .code yX5_ruined cX5_ruined 2 (some .int)] : List Cond), w ∈ TB := tb_all [608, 609, 610, 105, 611] rfl (by decide +kernel)
theorem cdm_X5_ruined : yX5_ruined.cls ≠ "java/lang/invoke/MethodHandle" ∧ yX5_ruined.cls ≠ "java/lang/invoke/VarHandle" ∧ (parseMethodDescriptor yX5_ruined.desc).map (fun d => d.parameters.length) = some 0 := by decide +kernel
set_option maxRecDepth 20000 in
theorem cwRL_225 : ∀ w ∈ ([.methodLink RL 225 yX6_ruined, .instanceMethod yX6_ruined, .selects RX6 yX6_ruined yX6_ruined, .initialized RX6, .code yX6_ruined cX6_ruined 2 (some .int)] : List Cond), w ∈ TB := tb_all [1844, 1845, 1846, 112, 1847] rfl (by decide +kernel)
theorem cdm_X6_ruined : yX6_ruined.cls ≠ "java/lang/invoke/MethodHandle" ∧ yX6_ruined.cls ≠ "java/lang/invoke/VarHandle" ∧ (parseMethodDescriptor yX6_ruined.desc).map (fun d => d.parameters.length) = some 0 := by decide +kernel
set_option maxRecDepth 20000 in
theorem cwRL_226 : ∀ w ∈ ([.methodLink RL 226 yL_decades, .static yL_decades, .initialized yL_decades.cls, .codeWith yL_decades cL_decades 6 (some .int) [(0, 12, 15, 18), (0, 12, 19, 13)]] : List Cond), w ∈ TB := tb_all [1161, 1162, 104, 1163] rfl (by decide +kernel)
theorem cdm_L_decades : yL_decades.cls ≠ "java/lang/invoke/MethodHandle" ∧ yL_decades.cls ≠ "java/lang/invoke/VarHandle" ∧ (parseMethodDescriptor yL_decades.desc).map (fun d => d.parameters.length) = some 5 := by decide +kernel
set_option maxRecDepth 20000 in
theorem cwRL_229 : ∀ w ∈ ([.methodLink RL 229 yX6_decades, .instanceMethod yX6_decades, .selects RX6 yX6_decades yX6_decades, .initialized RX6, .code yX6_decades cX6_decades 8 (some .int)] : List Cond), w ∈ TB := tb_all [1852, 1853, 1854, 112, 1855] rfl (by decide +kernel)
theorem cdm_X6_decades : yX6_decades.cls ≠ "java/lang/invoke/MethodHandle" ∧ yX6_decades.cls ≠ "java/lang/invoke/VarHandle" ∧ (parseMethodDescriptor yX6_decades.desc).map (fun d => d.parameters.length) = some 3 := by decide +kernel
set_option maxRecDepth 20000 in
theorem cwRL_230 : ∀ w ∈ ([.methodLink RL 230 yL_hollow, .static yL_hollow, .initialized yL_hollow.cls, .codeWith yL_hollow cL_hollow 4 (some .int) [(0, 9, 12, 18)]] : List Cond), w ∈ TB := tb_all [1176, 1177, 104, 1178] rfl (by decide +kernel)
theorem cdm_L_hollow : yL_hollow.cls ≠ "java/lang/invoke/MethodHandle" ∧ yL_hollow.cls ≠ "java/lang/invoke/VarHandle" ∧ (parseMethodDescriptor yL_hollow.desc).map (fun d => d.parameters.length) = some 3 := by decide +kernel
set_option maxRecDepth 20000 in
theorem cwRL_232 : ∀ w ∈ ([.methodLink RL 232 yX6_hollow, .instanceMethod yX6_hollow, .selects RX6 yX6_hollow yX6_hollow, .initialized RX6, .code yX6_hollow cX6_hollow 6 (some .int)] : List Cond), w ∈ TB := tb_all [1861, 1862, 1863, 112, 1864] rfl (by decide +kernel)
theorem cdm_X6_hollow : yX6_hollow.cls ≠ "java/lang/invoke/MethodHandle" ∧ yX6_hollow.cls ≠ "java/lang/invoke/VarHandle" ∧ (parseMethodDescriptor yX6_hollow.desc).map (fun d => d.parameters.length) = some 1 := by decide +kernel
set_option maxRecDepth 20000 in
theorem cwRL_233 : ∀ w ∈ ([.methodLink RL 233 yL_sale, .static yL_sale, .initialized yL_sale.cls, .codeWith yL_sale cL_sale 4 (some .int) [(0, 9, 12, 18)]] : List Cond), w ∈ TB := tb_all [1187, 1188, 104, 1189] rfl (by decide +kernel)
theorem cdm_L_sale : yL_sale.cls ≠ "java/lang/invoke/MethodHandle" ∧ yL_sale.cls ≠ "java/lang/invoke/VarHandle" ∧ (parseMethodDescriptor yL_sale.desc).map (fun d => d.parameters.length) = some 3 := by decide +kernel
set_option maxRecDepth 20000 in
theorem cwRL_235 : ∀ w ∈ ([.methodLink RL 235 yX6_sale, .instanceMethod yX6_sale, .selects RX6 yX6_sale yX6_sale, .initialized RX6, .code yX6_sale cX6_sale 7 (some .int)] : List Cond), w ∈ TB := tb_all [1869, 1870, 1871, 112, 1872] rfl (by decide +kernel)
theorem cdm_X6_sale : yX6_sale.cls ≠ "java/lang/invoke/MethodHandle" ∧ yX6_sale.cls ≠ "java/lang/invoke/VarHandle" ∧ (parseMethodDescriptor yX6_sale.desc).map (fun d => d.parameters.length) = some 1 := by decide +kernel
set_option maxRecDepth 20000 in
theorem cwRL_236 : ∀ w ∈ ([.methodLink RL 236 yL_shade, .static yL_shade, .initialized yL_shade.cls, .codeWith yL_shade cL_shade 5 (some .int) [(0, 10, 13, 18), (0, 10, 17, 13)]] : List Cond), w ∈ TB := tb_all [1194, 1195, 104, 1196] rfl (by decide +kernel)
theorem cdm_L_shade : yL_shade.cls ≠ "java/lang/invoke/MethodHandle" ∧ yL_shade.cls ≠ "java/lang/invoke/VarHandle" ∧ (parseMethodDescriptor yL_shade.desc).map (fun d => d.parameters.length) = some 4 := by decide +kernel
set_option maxRecDepth 20000 in
theorem cwRL_238 : ∀ w ∈ ([.methodLink RL 238 yX6_shade, .instanceMethod yX6_shade, .selects RX6 yX6_shade yX6_shade, .initialized RX6, .code yX6_shade cX6_shade 8 (some .int)] : List Cond), w ∈ TB := tb_all [1873, 1874, 1875, 112, 1876] rfl (by decide +kernel)
theorem cdm_X6_shade : yX6_shade.cls ≠ "java/lang/invoke/MethodHandle" ∧ yX6_shade.cls ≠ "java/lang/invoke/VarHandle" ∧ (parseMethodDescriptor yX6_shade.desc).map (fun d => d.parameters.length) = some 2 := by decide +kernel
set_option maxRecDepth 20000 in
theorem cwRL_239 : ∀ w ∈ ([.methodLink RL 239 yL_dearest, .static yL_dearest, .initialized yL_dearest.cls, .codeWith yL_dearest cL_dearest 4 (some .int) [(0, 9, 12, 13)]] : List Cond), w ∈ TB := tb_all [1202, 1203, 104, 1204] rfl (by decide +kernel)
theorem cdm_L_dearest : yL_dearest.cls ≠ "java/lang/invoke/MethodHandle" ∧ yL_dearest.cls ≠ "java/lang/invoke/VarHandle" ∧ (parseMethodDescriptor yL_dearest.desc).map (fun d => d.parameters.length) = some 3 := by decide +kernel
set_option maxRecDepth 20000 in
theorem cwRL_241 : ∀ w ∈ ([.methodLink RL 241 yX6_dearest, .instanceMethod yX6_dearest, .selects RX6 yX6_dearest yX6_dearest, .initialized RX6, .code yX6_dearest cX6_dearest 7 (some .int)] : List Cond), w ∈ TB := tb_all [1877, 1878, 1879, 112, 1880] rfl (by decide +kernel)
theorem cdm_X6_dearest : yX6_dearest.cls ≠ "java/lang/invoke/MethodHandle" ∧ yX6_dearest.cls ≠ "java/lang/invoke/VarHandle" ∧ (parseMethodDescriptor yX6_dearest.desc).map (fun d => d.parameters.length) = some 1 := by decide +kernel
set_option maxRecDepth 20000 in
theorem cwRL_242 : ∀ w ∈ ([.methodLink RL 242 yX5_image, .instanceMethod yX5_image, .selects RX5 yX5_image yX5_image, .initialized RX5, .code yX5_image cX5_image 1 none] : List Cond), w ∈ TB := tb_all [616, 617, 618, 105, 619] rfl (by decide +kernel)
theorem cdm_X5_image : yX5_image.cls ≠ "java/lang/invoke/MethodHandle" ∧ yX5_image.cls ≠ "java/lang/invoke/VarHandle" ∧ (parseMethodDescriptor yX5_image.desc).map (fun d => d.parameters.length) = some 0 := by decide +kernel
set_option maxRecDepth 20000 in
theorem cwRL_245 : ∀ w ∈ ([.methodLink RL 245 yX6_image, .instanceMethod yX6_image, .selects RX6 yX6_image yX6_image, .initialized RX6, .code yX6_image cX6_image 1 none] : List Cond), w ∈ TB := tb_all [1881, 1882, 1883, 112, 1884] rfl (by decide +kernel)
theorem cdm_X6_image : yX6_image.cls ≠ "java/lang/invoke/MethodHandle" ∧ yX6_image.cls ≠ "java/lang/invoke/VarHandle" ∧ (parseMethodDescriptor yX6_image.desc).map (fun d => d.parameters.length) = some 0 := by decide +kernel
set_option maxRecDepth 20000 in
theorem cwRL_246 : ∀ w ∈ ([.methodLink RL 246 yX5_restore, .instanceMethod yX5_restore, .selects RX5 yX5_restore yX5_restore, .initialized RX5, .code yX5_restore cX5_restore 1 (some .boolean)] : List Cond), w ∈ TB := tb_all [624, 625, 626, 105, 627] rfl (by decide +kernel)
theorem cdm_X5_restore : yX5_restore.cls ≠ "java/lang/invoke/MethodHandle" ∧ yX5_restore.cls ≠ "java/lang/invoke/VarHandle" ∧ (parseMethodDescriptor yX5_restore.desc).map (fun d => d.parameters.length) = some 0 := by decide +kernel
set_option maxRecDepth 20000 in
theorem cwRL_250 : ∀ w ∈ ([.methodLink RL 250 yX6_restore, .instanceMethod yX6_restore, .selects RX6 yX6_restore yX6_restore, .initialized RX6, .code yX6_restore cX6_restore 1 (some .boolean)] : List Cond), w ∈ TB := tb_all [1885, 1886, 1887, 112, 1888] rfl (by decide +kernel)
theorem cdm_X6_restore : yX6_restore.cls ≠ "java/lang/invoke/MethodHandle" ∧ yX6_restore.cls ≠ "java/lang/invoke/VarHandle" ∧ (parseMethodDescriptor yX6_restore.desc).map (fun d => d.parameters.length) = some 0 := by decide +kernel
