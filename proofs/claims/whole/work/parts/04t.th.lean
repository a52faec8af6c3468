abbrev thN : List String := ["java/lang/RuntimeException", "java/lang/Exception"]
set_option maxRecDepth 20000 in
theorem thG0 : ∀ w ∈ (xt_at RX5 150).filter goodWord, w ∈ TB := by decide +kernel
set_option maxRecDepth 20000 in
theorem thG1 : ∀ w ∈ (vx_atS RX5 77 "java/lang/IllegalArgumentException" thN).filter goodWord, w ∈ TB := by decide +kernel
set_option maxRecDepth 20000 in
theorem thB0 : ∀ w ∈ (xt_at RX5 150).filter (fun w => !goodWord w), w ∈ TBN := by decide +kernel
set_option maxRecDepth 20000 in
theorem thB1 : ∀ w ∈ (vx_atS RX5 77 "java/lang/IllegalArgumentException" thN).filter (fun w => !goodWord w), w ∈ TBN := by decide +kernel
theorem thO0 : ∀ w ∈ Cond.classLink RX5 146 "java/util/NoSuchElementException" :: Cond.initialized "java/util/NoSuchElementException" :: xt_at RX5 150, vx_ot w = true := by decide +kernel
theorem thO1 : ∀ w ∈ Cond.classLink RX5 73 "java/lang/IllegalArgumentException" :: Cond.initialized "java/lang/IllegalArgumentException" :: vx_atS RX5 77 "java/lang/IllegalArgumentException" thN, vx_ot w = true := by decide +kernel
theorem thK0 : Cond.classLink RX5 146 "java/util/NoSuchElementException" ∈ TB := tb_of 891 (by decide +kernel) (by decide +kernel)
theorem thK1 : Cond.classLink RX5 73 "java/lang/IllegalArgumentException" ∈ TB := tb_of 636 (by decide +kernel) (by decide +kernel)
theorem thI0 : Cond.initialized "java/util/NoSuchElementException" ∈ TB := tb_of 123 (by decide +kernel) (by decide +kernel)
theorem thI1 : Cond.initialized "java/lang/IllegalArgumentException" ∈ TB := tb_of 116 (by decide +kernel) (by decide +kernel)
