def STRL : List (List Int) := [[108, 97, 110, 100], [104, 105, 103, 104], [116, 114, 101, 101], [118, 105, 108, 108, 97], [105, 110, 110], [98, 108, 105, 110, 100], [102, 111, 103], [116, 97, 120], [110, 111, 116], [109, 105, 108, 101, 115], [102, 97, 114], [107, 105, 110, 100], [121, 101, 97, 114], [104, 111, 117, 115, 101, 115], [102, 108, 111, 111, 114], [111, 114], [97, 110, 100]]
def slen_ (w : Int) : Int := ((STRL.getD (w.toNat - 10) []).length : Int)
def schar_ (w i : Int) : Int := (STRL.getD (w.toNat - 10) []).getD i.toNat 0
theorem aw_strlen {G : GD} {X : CX} {own : String} {cc : ByteArray} {pc : Nat} {ls sk : List Av} {n : Nat} {h : Hp} {cs ss : Nat} {d mc ms idx : Nat} {x : Int} (hC : Cx G X own cc) (hRm : X.R = rmd d mc ms) (hd : decode cc pc = .ok (.invokevirtual idx, 3)) (hd1 : 8 ≤ d) (hw : Cond.methodLink own idx ⟨"java/lang/String", "length", "()I"⟩ ∈ TB) (hcat : (sk.map (fun v => if v.1 = 1 then 2 else 1)).sum ≤ 8) (kk : AW G X (pc + 3) ls ((0, slen_ x) :: sk) n h cs ss) : AW G X pc ls ((3, x) :: sk) n h cs ss := by
  sorry
theorem aw_charAt {G : GD} {X : CX} {own : String} {cc : ByteArray} {pc : Nat} {ls sk : List Av} {n : Nat} {h : Hp} {cs ss : Nat} {d mc ms idx : Nat} {x i : Int} (hC : Cx G X own cc) (hRm : X.R = rmd d mc ms) (hd : decode cc pc = .ok (.invokevirtual idx, 3)) (hd1 : 8 ≤ d) (hw : Cond.methodLink own idx ⟨"java/lang/String", "charAt", "(I)C"⟩ ∈ TB) (h0 : 0 ≤ i) (h1 : i < slen_ x) (hcat : (sk.map (fun v => if v.1 = 1 then 2 else 1)).sum ≤ 8) (kk : AW G X (pc + 3) ls ((0, schar_ x i) :: sk) n h cs ss) : AW G X pc ls ((0, i) :: (3, x) :: sk) n h cs ss := by
  sorry
theorem slnkRX2_99 : Cond.methodLink RX2 99 ⟨"java/lang/String", "length", "()I"⟩ ∈ TB := tb_of 726 (by decide +kernel) (by decide +kernel)
theorem slnkRX2_104 : Cond.methodLink RX2 104 ⟨"java/lang/String", "charAt", "(I)C"⟩ ∈ TB := tb_of 736 (by decide +kernel) (by decide +kernel)
theorem aw_ldcs_RX2_63 {G : GD} {X : CX} {cc : ByteArray} {pc : Nat} {ls sk : List Av} {n : Nat} {h : Hp} {cs ss : Nat} (hC : Cx G X RX2 cc) (hd : decode cc pc = .ok (.ldc 63, 2)) (kk : AW G X (pc + 2) ls ((3, 10) :: sk) n h cs ss) : AW G X pc ls sk n h cs ss := by
  sorry
theorem aw_ldcs_RX2_131 {G : GD} {X : CX} {cc : ByteArray} {pc : Nat} {ls sk : List Av} {n : Nat} {h : Hp} {cs ss : Nat} (hC : Cx G X RX2 cc) (hd : decode cc pc = .ok (.ldc 131, 2)) (kk : AW G X (pc + 2) ls ((3, 11) :: sk) n h cs ss) : AW G X pc ls sk n h cs ss := by
  sorry
theorem aw_ldcs_RX2_136 {G : GD} {X : CX} {cc : ByteArray} {pc : Nat} {ls sk : List Av} {n : Nat} {h : Hp} {cs ss : Nat} (hC : Cx G X RX2 cc) (hd : decode cc pc = .ok (.ldc 136, 2)) (kk : AW G X (pc + 2) ls ((3, 12) :: sk) n h cs ss) : AW G X pc ls sk n h cs ss := by
  sorry
theorem aw_ldcs_RX2_141 {G : GD} {X : CX} {cc : ByteArray} {pc : Nat} {ls sk : List Av} {n : Nat} {h : Hp} {cs ss : Nat} (hC : Cx G X RX2 cc) (hd : decode cc pc = .ok (.ldc 141, 2)) (kk : AW G X (pc + 2) ls ((3, 13) :: sk) n h cs ss) : AW G X pc ls sk n h cs ss := by
  sorry
theorem aw_ldcs_RX2_146 {G : GD} {X : CX} {cc : ByteArray} {pc : Nat} {ls sk : List Av} {n : Nat} {h : Hp} {cs ss : Nat} (hC : Cx G X RX2 cc) (hd : decode cc pc = .ok (.ldc 146, 2)) (kk : AW G X (pc + 2) ls ((3, 14) :: sk) n h cs ss) : AW G X pc ls sk n h cs ss := by
  sorry
theorem aw_ldcs_RX2_148 {G : GD} {X : CX} {cc : ByteArray} {pc : Nat} {ls sk : List Av} {n : Nat} {h : Hp} {cs ss : Nat} (hC : Cx G X RX2 cc) (hd : decode cc pc = .ok (.ldc 148, 2)) (kk : AW G X (pc + 2) ls ((3, 15) :: sk) n h cs ss) : AW G X pc ls sk n h cs ss := by
  sorry
theorem aw_ldcs_RX2_150 {G : GD} {X : CX} {cc : ByteArray} {pc : Nat} {ls sk : List Av} {n : Nat} {h : Hp} {cs ss : Nat} (hC : Cx G X RX2 cc) (hd : decode cc pc = .ok (.ldc 150, 2)) (kk : AW G X (pc + 2) ls ((3, 16) :: sk) n h cs ss) : AW G X pc ls sk n h cs ss := by
  sorry
theorem aw_ldcs_RX2_155 {G : GD} {X : CX} {cc : ByteArray} {pc : Nat} {ls sk : List Av} {n : Nat} {h : Hp} {cs ss : Nat} (hC : Cx G X RX2 cc) (hd : decode cc pc = .ok (.ldc 155, 2)) (kk : AW G X (pc + 2) ls ((3, 17) :: sk) n h cs ss) : AW G X pc ls sk n h cs ss := by
  sorry
theorem aw_ldcs_RX2_190 {G : GD} {X : CX} {cc : ByteArray} {pc : Nat} {ls sk : List Av} {n : Nat} {h : Hp} {cs ss : Nat} (hC : Cx G X RX2 cc) (hd : decode cc pc = .ok (.ldc 190, 2)) (kk : AW G X (pc + 2) ls ((3, 18) :: sk) n h cs ss) : AW G X pc ls sk n h cs ss := by
  sorry
theorem aw_ldcs_RX2_226 {G : GD} {X : CX} {cc : ByteArray} {pc : Nat} {ls sk : List Av} {n : Nat} {h : Hp} {cs ss : Nat} (hC : Cx G X RX2 cc) (hd : decode cc pc = .ok (.ldc 226, 2)) (kk : AW G X (pc + 2) ls ((3, 25) :: sk) n h cs ss) : AW G X pc ls sk n h cs ss := by
  sorry
theorem aw_ldcs_RX2_228 {G : GD} {X : CX} {cc : ByteArray} {pc : Nat} {ls sk : List Av} {n : Nat} {h : Hp} {cs ss : Nat} (hC : Cx G X RX2 cc) (hd : decode cc pc = .ok (.ldc 228, 2)) (kk : AW G X (pc + 2) ls ((3, 26) :: sk) n h cs ss) : AW G X pc ls sk n h cs ss := by
  sorry
theorem aw_ldcs_RX2_230 {G : GD} {X : CX} {cc : ByteArray} {pc : Nat} {ls sk : List Av} {n : Nat} {h : Hp} {cs ss : Nat} (hC : Cx G X RX2 cc) (hd : decode cc pc = .ok (.ldc 230, 2)) (kk : AW G X (pc + 2) ls ((3, 19) :: sk) n h cs ss) : AW G X pc ls sk n h cs ss := by
  sorry
theorem aw_ldcs_RX2_232 {G : GD} {X : CX} {cc : ByteArray} {pc : Nat} {ls sk : List Av} {n : Nat} {h : Hp} {cs ss : Nat} (hC : Cx G X RX2 cc) (hd : decode cc pc = .ok (.ldc 232, 2)) (kk : AW G X (pc + 2) ls ((3, 20) :: sk) n h cs ss) : AW G X pc ls sk n h cs ss := by
  sorry
theorem aw_ldcs_RX2_234 {G : GD} {X : CX} {cc : ByteArray} {pc : Nat} {ls sk : List Av} {n : Nat} {h : Hp} {cs ss : Nat} (hC : Cx G X RX2 cc) (hd : decode cc pc = .ok (.ldc 234, 2)) (kk : AW G X (pc + 2) ls ((3, 21) :: sk) n h cs ss) : AW G X pc ls sk n h cs ss := by
  sorry
theorem aw_ldcs_RX2_235 {G : GD} {X : CX} {cc : ByteArray} {pc : Nat} {ls sk : List Av} {n : Nat} {h : Hp} {cs ss : Nat} (hC : Cx G X RX2 cc) (hd : decode cc pc = .ok (.ldc 235, 2)) (kk : AW G X (pc + 2) ls ((3, 22) :: sk) n h cs ss) : AW G X pc ls sk n h cs ss := by
  sorry
theorem aw_ldcs_RX2_237 {G : GD} {X : CX} {cc : ByteArray} {pc : Nat} {ls sk : List Av} {n : Nat} {h : Hp} {cs ss : Nat} (hC : Cx G X RX2 cc) (hd : decode cc pc = .ok (.ldc 237, 2)) (kk : AW G X (pc + 2) ls ((3, 23) :: sk) n h cs ss) : AW G X pc ls sk n h cs ss := by
  sorry
theorem aw_ldcs_RX2_238 {G : GD} {X : CX} {cc : ByteArray} {pc : Nat} {ls sk : List Av} {n : Nat} {h : Hp} {cs ss : Nat} (hC : Cx G X RX2 cc) (hd : decode cc pc = .ok (.ldc 238, 2)) (kk : AW G X (pc + 2) ls ((3, 24) :: sk) n h cs ss) : AW G X pc ls sk n h cs ss := by
  sorry
