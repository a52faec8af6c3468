/-! methods that throw -/
def excN (e : Nat) : String := if e = 0 then "java/util/NoSuchElementException" else "java/lang/IllegalArgumentException"
def QX (G : GD) (A : Nat → Prop) (ad0 : Nat → Nat) (n : Nat) (bt : Bool) (e : Nat) (h1 : Hp) : String → State → State → Prop := fun E s0 t =>
  (∃ ad : Nat → Nat, E = excN e ∧ (∀ i, i < n → ad i = ad0 i) ∧ va_P G.1 vwCl (wl G ad n h1) t.heap ∧ va_D A (wl G ad n h1) ∧ okh n h1 ∧ (bt = true → ShN n h1) ∧ va_K G.1 vwCl (tysG G) t) ∧ va_F A s0 t
def ConT (G : GD) (y : MethodName) (b : ByteArray) (mL : Nat) (r : Option FieldType) (d : Nat) (bt : Bool) (av : List Av) (n : Nat) (h : Hp) (e : Nat) (h1 : Hp) : Prop :=
  ∀ (l : Launch) (ad : Nat → Nat) (sz : Nat), l.stackTraces = false → okh n h → (bt = true → ShN n h) → (∀ v ∈ av, okv n v) → vx_Met l y (wsM y b mL r) (rmd d 1 6) (va_Pc (av.map (rv G ad)) (PC G ad n h sz)) (fun _ _ _ _ => False) (QX G (va_A (wl G ad n h) sz) ad n bt e h1) 1 6 (va_A (wl G ad n h) sz)
def ZXK (X : CX) (G : GD) (e : Nat) (h1 : Hp) : Prop := X.Z = vx_MQ X.below (fun _ _ _ _ => False) (QX G X.A X.ad0 X.n0 X.bt e h1) X.args X.s 1 6 X.A
theorem conT_of {G : GD} {y : MethodName} {own : String} {b : ByteArray} {mL : Nat} {r : Option FieldType} {d : Nat} {bt : Bool} {av : List Av} {n : Nat} {h h1 : Hp} {e : Nat} {pad : Nat} (hy : plainName y.cls = true) (hown : y.cls = own) (hlen : (exA av).length + pad = mL)
    (body : ∀ X : CX, Cx G X own b → X.bt = bt → X.l.stackTraces = false → (∀ x ∈ X.c.exceptionTable.toList, False) → ZXK X G e h1 → X.R = rmd d 1 6 → X.n0 = n → AW G X 0 (exA av ++ List.replicate pad (9, 0)) [] n h 0 0) : ConT G y b mL r d bt av n h e h1 := by
  intro l ad sz hst hok hsh hav
  refine vx_ofW (cc := b) (maxL := mL) (ret := r) hy rfl ?_
  intro p ev s m args below meth c s₁ B hml htab hv
  obtain ⟨rfl, hsz, hP, hK, hD0, hRO, hNW⟩ := hv
  subst hsz
  have hD := hD0.self (sz := s.heap.size)
  have hts : ∀ w ∈ TB, w.before ((av.map (rv G ad)).toArray) s = true := fun w hw => atoms_spec (ws := wsM y b mL r) B.pre w (List.mem_cons_of_mem _ hw)
  have hl0 := lv_entry (av.map (rv G ad)) (n := mL) (by rw [exA_len]; omega)
  rw [lg_entry_eq]
  generalize (lg_sl (av.map (rv G ad)) ++ List.replicate (mL - (lg_sl (av.map (rv G ad))).length) Slot.unset).toArray = lr at hl0 ⊢
  have hlen2 : (exA av ++ List.replicate pad ((9, 0) : Av)).length = mL := by rw [List.length_append, List.length_replicate]; exact hlen
  have hl : lvh G ad n (exA av ++ List.replicate pad (9, 0)) lr := by
    refine ⟨by rw [hlen2]; exact hl0.1, hl0.2.1, fun k u hu h9 => ?_⟩
    rcases Nat.lt_or_ge k (exA av).length with hk | hk
    · rw [List.getElem?_append_left hk] at hu
      obtain ⟨h1, h2⟩ := exA_args (G := G) (ad := ad) av 0 k u hav hu h9
      rw [Nat.zero_add] at h1
      exact ⟨hl0.2.2 _ h1, h2⟩
    · rw [List.getElem?_append_right hk, List.getElem?_replicate] at hu
      split at hu
      · cases hu; exact absurd rfl h9
      · cases hu
  exact body (p, l, ev, rmd d 1 6, s, m, (av.map (rv G ad)).toArray, below, meth, c, vx_MQ below (fun _ _ _ _ => False) (QX G (va_A (wl G ad n h) s.heap.size) ad n bt e h1) ((av.map (rv G ad)).toArray) s 1 6 (va_A (wl G ad n h) s.heap.size), va_A (wl G ad n h) s.heap.size, ad, n, bt)
    ⟨B.exec, B.bytes, by rw [← hown]; exact findClass_of_methodNamed B.named, hts, hK, fun q hq => Or.inr hq, B.notSynchronized, hRO, hNW⟩ rfl hst htab rfl rfl rfl
    ad s.heap [] lr ⟨hP, hD, va_S.rf, hok, hsh, Nat.le_refl _, fun _ _ => rfl⟩ hl (hml.trans hlen2.symm) (fun _ h => absurd h List.not_mem_nil)
theorem tbn_before {G : GD} {X : CX} {own : String} {cc : ByteArray} (hC : Cx G X own cc) : ∀ w ∈ TBN, w.before X.args X.s = true := by
  intro w hw
  have h := hC.nw.1 w hw
  rcases isNest_spec (List.mem_filter.mp hw).2 with ⟨a, i, b, n, d, k, rfl⟩ | ⟨a, i, x, k, rfl⟩ | ⟨a, b, rfl⟩ | ⟨a, rfl⟩
  · exact h.use rfl
  · exact h.use rfl
  · exact h.use rfl
  · exact h.use rfl
theorem qx_of {G : GD} {X : CX} {own : String} {cc : ByteArray} {ad : Nat → Nat} {n : Nat} {h : Hp} {H : Heap} {locs : List Loc} {e : Nat} (hC : Cx G X own cc) (hn : X.n0 = n) (hR : Rp G X ad n h H locs) (t : State) (hvm : X.s.vm.Alike t.vm) (hz : H.size ≤ t.heap.size) (hk : ∀ q : Nat, q < H.size → t.heap[q]? = H[q]?) : QX G X.A X.ad0 X.n0 X.bt e h (excN e) X.s t := by
  subst hn
  refine ⟨⟨ad, rfl, hR.2.2.2.2.2.2, hR.1.kept (fun k q hq => hk q.1 (hR.1 k q hq).lt), hR.2.1, hR.2.2.2.1, hR.2.2.2.2.1, va_K.moved hvm hC.2.2.2.2.1⟩, Nat.le_trans hR.2.2.1.1 hz, fun q h1 h2 => ?_⟩
  rw [hk q (Nat.lt_of_lt_of_le h1 hR.2.2.1.1)]
  exact hR.2.2.1.2.1 q h1 h2
section Throws
variable {G : GD} {X : CX} {cc : ByteArray} {pc : Nat} {ls sk : List Av} {n : Nat} {h : Hp} {d : Nat}
theorem aw_throw0 {is no : Nat} {text : String} (hC : Cx G X RX5 cc) (hRm : X.R = rmd d 1 6) (hd6 : 6 ≤ d) (hn : X.n0 = n) (hZ : ZXK X G 0 h) (hst : X.l.stackTraces = false) (htab : ∀ x ∈ X.c.exceptionTable.toList, False) (hstr : ("HorizonDues", is, text, no) ∈ STRT) (d0 : decode cc pc = .ok (.new 146, 3)) (d3 : decode cc (pc + 3) = .ok (.dup, 1)) (d4 : decode cc (pc + 4) = .ok (.ldc is, 2)) (d6 : decode cc (pc + 6) = .ok (.invokespecial 150, 3)) (d9 : decode cc (pc + 9) = .ok (.athrow, 1)) (hcat : (sk.map (fun v => if v.1 = 1 then 2 else 1)).sum ≤ 8) : AW G X pc ls sk n h 0 0 := by
  intro ad H locs lr hR hl hm hs
  rw [hZ]
  have hcatR : ((sk.map (rv G ad)).map fun v => v.category).sum ≤ 8 := by
    rw [List.map_map, show ((fun v => Value.category v) ∘ rv G ad) = (fun v : Av => if v.1 = 1 then 2 else 1) from funext (fun v => rv_cat G ad v)]
    exact hcat
  have hS : vk_R RX5 is text (G.2.2 no) X.s := hC.nw.2 _ hstr
  refine xt_throwS hC.1 hC.2.1 hst (own := RX5) hC.2.2.1 (hC.2.2.2.1 _ thK0) (hC.2.2.2.1 _ thI0) hS (vx_hat (fun w hw => hC.2.2.2.1 _ (thG0 w hw)) thB0 (tbn_before hC)) thO0 hC.ro.2.2.2.2.1.1 hC.ro.2.2.2.2.1.2 hR.2.2.1 (hl.1.trans hm.symm) d0 d3 d4 d6 d9 (fun x hx => (htab x hx).elim) ?_ ?_ ?_ ?_ hC.2.2.2.2.2.2.1 (fun t hvm hz hk => qx_of (e := 0) hC hn hR t hvm hz hk) hR.2.2.1.2.2 (Nat.le_refl _) (Nat.le_refl _)
  · rw [hRm]; first | (show 2 + 3 < d; omega) | (show 5 < d; omega)
  · rw [hRm]; first | (show _ + (13 * (2 + 1) + 43) ≤ 40 * d; omega) | (show _ + (13 * 3 + 43) ≤ 40 * d; omega)
  · rw [hRm]; exact Nat.le_refl _
  · rw [hRm]; exact Nat.le_refl _
theorem aw_throw0W {is no : Nat} {text : String} (hC : Cx G X RX5 cc) (hRm : X.R = rmd d 1 6) (hd6 : 6 ≤ d) (hn : X.n0 = n) (hZ : ZXK X G 0 h) (hst : X.l.stackTraces = false) (htab : ∀ x ∈ X.c.exceptionTable.toList, False) (hstr : ("HorizonDues", is, text, no) ∈ STRT) (d0 : decode cc pc = .ok (.new 146, 3)) (d3 : decode cc (pc + 3) = .ok (.dup, 1)) (d4 : decode cc (pc + 4) = .ok (.ldc_w is, 3)) (d6 : decode cc (pc + 7) = .ok (.invokespecial 150, 3)) (d9 : decode cc (pc + 10) = .ok (.athrow, 1)) (hcat : (sk.map (fun v => if v.1 = 1 then 2 else 1)).sum ≤ 8) : AW G X pc ls sk n h 0 0 := by
  intro ad H locs lr hR hl hm hs
  rw [hZ]
  have hcatR : ((sk.map (rv G ad)).map fun v => v.category).sum ≤ 8 := by
    rw [List.map_map, show ((fun v => Value.category v) ∘ rv G ad) = (fun v : Av => if v.1 = 1 then 2 else 1) from funext (fun v => rv_cat G ad v)]
    exact hcat
  have hS : vk_R RX5 is text (G.2.2 no) X.s := hC.nw.2 _ hstr
  refine xt_throwSW hC.1 hC.2.1 hst (own := RX5) hC.2.2.1 (hC.2.2.2.1 _ thK0) (hC.2.2.2.1 _ thI0) hS (vx_hat (fun w hw => hC.2.2.2.1 _ (thG0 w hw)) thB0 (tbn_before hC)) thO0 hC.ro.2.2.2.2.1.1 hC.ro.2.2.2.2.1.2 hR.2.2.1 (hl.1.trans hm.symm) d0 d3 d4 d6 d9 (fun x hx => (htab x hx).elim) ?_ ?_ ?_ ?_ hC.2.2.2.2.2.2.1 (fun t hvm hz hk => qx_of (e := 0) hC hn hR t hvm hz hk) hR.2.2.1.2.2 (Nat.le_refl _) (Nat.le_refl _)
  · rw [hRm]; first | (show 2 + 3 < d; omega) | (show 5 < d; omega)
  · rw [hRm]; first | (show _ + (13 * (2 + 1) + 43) ≤ 40 * d; omega) | (show _ + (13 * 3 + 43) ≤ 40 * d; omega)
  · rw [hRm]; exact Nat.le_refl _
  · rw [hRm]; exact Nat.le_refl _
theorem aw_throw1 {is no : Nat} {text : String} (hC : Cx G X RX5 cc) (hRm : X.R = rmd d 1 6) (hd6 : 6 ≤ d) (hn : X.n0 = n) (hZ : ZXK X G 1 h) (hst : X.l.stackTraces = false) (htab : ∀ x ∈ X.c.exceptionTable.toList, False) (hstr : ("HorizonDues", is, text, no) ∈ STRT) (d0 : decode cc pc = .ok (.new 73, 3)) (d3 : decode cc (pc + 3) = .ok (.dup, 1)) (d4 : decode cc (pc + 4) = .ok (.ldc is, 2)) (d6 : decode cc (pc + 6) = .ok (.invokespecial 77, 3)) (d9 : decode cc (pc + 9) = .ok (.athrow, 1)) (hcat : (sk.map (fun v => if v.1 = 1 then 2 else 1)).sum ≤ 8) : AW G X pc ls sk n h 0 0 := by
  intro ad H locs lr hR hl hm hs
  rw [hZ]
  have hcatR : ((sk.map (rv G ad)).map fun v => v.category).sum ≤ 8 := by
    rw [List.map_map, show ((fun v => Value.category v) ∘ rv G ad) = (fun v : Av => if v.1 = 1 then 2 else 1) from funext (fun v => rv_cat G ad v)]
    exact hcat
  have hS : vk_R RX5 is text (G.2.2 no) X.s := hC.nw.2 _ hstr
  refine vx_throwS hC.1 hC.2.1 hst (own := RX5) (cls := "java/lang/IllegalArgumentException") (names := thN) hC.2.2.1 (by decide +kernel) (by decide +kernel) (hC.2.2.2.1 _ thK1) (hC.2.2.2.1 _ thI1) hS (vx_hat (fun w hw => hC.2.2.2.1 _ (thG1 w hw)) thB1 (tbn_before hC)) thO1 hC.ro.2.2.2.2.1.1 hC.ro.2.2.2.2.1.2 hR.2.2.1 (hl.1.trans hm.symm) d0 d3 d4 d6 d9 (fun x hx => (htab x hx).elim) ?_ ?_ ?_ ?_ hC.2.2.2.2.2.2.1 (fun t hvm hz hk => qx_of (e := 1) hC hn hR t hvm hz hk) hR.2.2.1.2.2 (Nat.le_refl _) (Nat.le_refl _)
  · rw [hRm]; first | (show 2 + 3 < d; omega) | (show 5 < d; omega)
  · rw [hRm]; first | (show _ + (13 * (2 + 1) + 43) ≤ 40 * d; omega) | (show _ + (13 * 3 + 43) ≤ 40 * d; omega)
  · rw [hRm]; exact Nat.le_refl _
  · rw [hRm]; exact Nat.le_refl _
theorem aw_throw1W {is no : Nat} {text : String} (hC : Cx G X RX5 cc) (hRm : X.R = rmd d 1 6) (hd6 : 6 ≤ d) (hn : X.n0 = n) (hZ : ZXK X G 1 h) (hst : X.l.stackTraces = false) (htab : ∀ x ∈ X.c.exceptionTable.toList, False) (hstr : ("HorizonDues", is, text, no) ∈ STRT) (d0 : decode cc pc = .ok (.new 73, 3)) (d3 : decode cc (pc + 3) = .ok (.dup, 1)) (d4 : decode cc (pc + 4) = .ok (.ldc_w is, 3)) (d6 : decode cc (pc + 7) = .ok (.invokespecial 77, 3)) (d9 : decode cc (pc + 10) = .ok (.athrow, 1)) (hcat : (sk.map (fun v => if v.1 = 1 then 2 else 1)).sum ≤ 8) : AW G X pc ls sk n h 0 0 := by
  intro ad H locs lr hR hl hm hs
  rw [hZ]
  have hcatR : ((sk.map (rv G ad)).map fun v => v.category).sum ≤ 8 := by
    rw [List.map_map, show ((fun v => Value.category v) ∘ rv G ad) = (fun v : Av => if v.1 = 1 then 2 else 1) from funext (fun v => rv_cat G ad v)]
    exact hcat
  have hS : vk_R RX5 is text (G.2.2 no) X.s := hC.nw.2 _ hstr
  refine vx_throwSW hC.1 hC.2.1 hst (own := RX5) (cls := "java/lang/IllegalArgumentException") (names := thN) hC.2.2.1 (by decide +kernel) (by decide +kernel) (hC.2.2.2.1 _ thK1) (hC.2.2.2.1 _ thI1) hS (vx_hat (fun w hw => hC.2.2.2.1 _ (thG1 w hw)) thB1 (tbn_before hC)) thO1 hC.ro.2.2.2.2.1.1 hC.ro.2.2.2.2.1.2 hR.2.2.1 (hl.1.trans hm.symm) d0 d3 d4 d6 d9 (fun x hx => (htab x hx).elim) ?_ ?_ ?_ ?_ hC.2.2.2.2.2.2.1 (fun t hvm hz hk => qx_of (e := 1) hC hn hR t hvm hz hk) hR.2.2.1.2.2 (Nat.le_refl _) (Nat.le_refl _)
  · rw [hRm]; first | (show 2 + 3 < d; omega) | (show 5 < d; omega)
  · rw [hRm]; first | (show _ + (13 * (2 + 1) + 43) ≤ 40 * d; omega) | (show _ + (13 * 3 + 43) ≤ 40 * d; omega)
  · rw [hRm]; exact Nat.le_refl _
  · rw [hRm]; exact Nat.le_refl _
end Throws
section CallT
variable {G : GD} {X : CX} {own : String} {cc : ByteArray} {pc : Nat} {ls sk : List Av} {n : Nat} {h h1 : Hp} {d e : Nat}
variable {y : MethodName} {b : ByteArray} {mL : Nat} {r : Option FieldType} {d' idx : Nat} {av : List Av}
/-- where the callee has thrown, the caller throws on -/
theorem aw_outT {ad : Nat → Nat} {H : Heap} {locs : List Loc} {lr : Array Slot} {sk0 : List Av} (hC : Cx G X own cc) (hn : X.n0 = n) (hZ : ZXK X G e h1) (htab : ∀ x ∈ X.c.exceptionTable.toList, False) (hR : Rp G X ad n h H locs)
    (hr : vx_Run X.p X.l X.e X.R X.s X.m X.args X.below X.meth X.c H locs 0 0 1 6 (F0 X.m pc lr (sk0.map (rv G ad))) (sk.map (rv G ad)) (fun _ _ _ => False) (QX G (va_A (wl G ad n h) H.size) ad n X.bt e h1) (va_A (wl G ad n h) H.size)) :
    W X.p X.l X.e X.R X.s X.m X.args X.below X.meth X.c H locs 0 0 X.Z (F0 X.m pc lr (sk0.map (rv G ad))) := by
  intro T hT S
  have hAi := A_in hC hR
  rcases hr T hT S with ⟨v, st₀, t, T', L, h0, S', hL, e1, e2, hfal, stp⟩ | ⟨q, st₀, t, T', L, E, ce, h0, S', hL, e1, e2, ⟨⟨ad', hE, hext, hP', hD', hok', hsh', hK'⟩, hz, hkp⟩, hce, hcv, hcl, stp⟩
  · exact hfal.elim
  · rw [h0] at hz hkp
    have hS := hR.2.2.1
    have hout := vx_out (p := X.p) (l := X.l) (e := X.e) (R := X.R) (s := X.s) (m := X.m) (args := X.args) (below := X.below) (meth := X.meth) (c := X.c) (H := T'.heap) (locs := locs ++ L) (cells := 0 + 1) (slots := 0 + 6) (ls := lr) (rest := sk.map (rv G ad)) (pc := pc) (E := E) (ce := ce) (q := q) (mc := 1) (ms := 6) (free := X.A) (Qc := fun _ _ _ _ => False) (XC := QX G X.A X.ad0 X.n0 X.bt e h1) (fun x hx => (htab x hx).elim) hC.2.2.2.2.2.2.1 (by rw [e1]; exact hce) hcv hcl
      (fun t9 ht9 hvm => ?_) (fun z hz9 => ?_) (Nat.le_refl _) (Nat.le_refl _)
    · obtain ⟨t2, a1, b1⟩ := hout T' rfl S'
      refine ⟨t2, stp.trans a1, ?_⟩
      rw [hZ]
      exact b1
    · subst hn
      refine ⟨⟨ad', hE, fun i hi => by rw [hext i hi]; exact hR.2.2.2.2.2.2 i hi, by rw [ht9, e1]; exact hP', hD'.weaken (fun _ _ _ hq => hAi _ hq), hok', hsh', va_K.moved hvm hC.2.2.2.2.1⟩, ?_, fun q9 h1 h2 => ?_⟩
      · rw [ht9, e1]; exact Nat.le_trans hS.1 hz
      · rw [ht9, e1, hkp q9 (Nat.lt_of_lt_of_le h1 hS.1) (fun z => h2 (hAi q9 z))]
        exact hS.2.1 q9 h1 h2
    · rcases List.mem_append.mp hz9 with h3 | h3
      · exact hS.2.2 z h3
      · exact hAi _ (hL z h3)
theorem aw_callVT {C : String} {T : u_T} {N ci nf a : Nat} {x : Int} (hC : Cx G X own cc) (hRm : X.R = rmd d 1 6) (hn : X.n0 = n) (hZ : ZXK X G e h1) (hst : X.l.stackTraces = false) (htab : ∀ x ∈ X.c.exceptionTable.toList, False) (hd : decode cc pc = .ok (.invokevirtual idx, 3)) (hcl : vwCl[ci]? = some (C, T, N)) (hc : ci < 10) (hyc : y.cls = C)
    (hw : ∀ w ∈ ([.methodLink own idx y, .instanceMethod y, .selects C y y, .initialized C, .code y b mL r] : List Cond), w ∈ TB) (hdesc : y.cls ≠ "java/lang/invoke/MethodHandle" ∧ y.cls ≠ "java/lang/invoke/VarHandle" ∧ (parseMethodDescriptor y.desc).map (fun d => d.parameters.length) = some av.length)
    (hx : x = (a : Int)) (hL : LAY a = (ci, nf)) (han : (X.bt = true ∧ a < 69) ∨ a < n) (hdd : d' + 1 ≤ d) (hmL : mL ≤ 21) (hcat : (sk.map (fun v => if v.1 = 1 then 2 else 1)).sum ≤ 8)
    (hM : ConT G y b mL r d' X.bt ((2, x) :: av) n h e h1) : AW G X pc ls (av.reverse ++ (2, x) :: sk) n h 0 0 := by
  intro ad H locs lr hR hl hm hs
  have ha := hR.lt han
  have hav : ∀ v ∈ (2, x) :: av, okv n v := fun v hv => by
    rcases List.mem_cons.mp hv with e | hv
    · rw [e]; exact hs _ (List.mem_append_right _ List.mem_cons_self)
    · exact hs v (List.mem_append_left _ (List.mem_reverse.mpr hv))
  have hMm := hM X.l ad H.size hst hR.2.2.2.1 hR.2.2.2.2.1 hav
  subst hx
  have hG : GoodIn TB (wsV own idx C y (wsM y b mL r)) := good_tb (fun w hw1 => by
    rcases List.mem_append.mp hw1 with h1 | h1
    · apply hw
      simp only [List.mem_cons, List.not_mem_nil, or_false] at h1 ⊢
      rcases h1 with h1 | h1 | h1 | h1 <;> simp [h1]
    · rcases List.mem_cons.mp h1 with h1 | h1
      · apply hw; rw [h1]; simp
      · exact h1)
  have hcatR : ((sk.map (rv G ad)).map fun v => v.category).sum ≤ 8 := by
    rw [List.map_map, show ((fun v => Value.category v) ∘ rv G ad) = (fun v : Av => if v.1 = 1 then 2 else 1) from funext (fun v => rv_cat G ad v)]
    exact hcat
  rw [List.map_cons, rv_at] at hMm
  refine aw_outT (sk := sk) hC hn hZ htab hR (vx_runV (C := C) (As := av.map (rv G ad)) (b := ad a) ⟨hC.1, hC.2.1, rfl, hC.2.2.1, hC.2.2.2.1⟩ hMm (cwV av.length hC.2.2.2.1 hG rfl rfl rfl ⟨hyc, hdesc.1, hdesc.2.1, hdesc.2.2⟩ ?_) ⟨pc_blind, va_recv hC.2.2.2.2.1 hR.1 hcl (q0 := a) (by rw [wl_get ha, encV_obj hL hc]), fun U hU hW => ⟨rfl, pc_here hC hR U hU hW⟩⟩ rfl (by rw [List.length_map]) (hl.1.trans hm.symm) ?_ (lv_room hcatR) hd ?_)
  · rw [hRm]; exact ⟨hdd, by show 8 + (mL + 11) + 40 * d' ≤ 40 * d; omega⟩
  · rw [List.map_append, List.map_reverse, List.map_cons, rv_at]
  · rw [hRm]; exact ⟨Nat.le_refl _, Nat.le_refl _⟩
theorem aw_callST (hC : Cx G X own cc) (hRm : X.R = rmd d 1 6) (hn : X.n0 = n) (hZ : ZXK X G e h1) (hst : X.l.stackTraces = false) (htab : ∀ x ∈ X.c.exceptionTable.toList, False) (hd : decode cc pc = .ok (.invokestatic idx, 3))
    (hw : ∀ w ∈ ([.methodLink own idx y, .static y, .initialized y.cls, .code y b mL r] : List Cond), w ∈ TB) (hdesc : y.cls ≠ "java/lang/invoke/MethodHandle" ∧ y.cls ≠ "java/lang/invoke/VarHandle" ∧ (parseMethodDescriptor y.desc).map (fun d => d.parameters.length) = some av.length)
    (hdd : d' + 1 ≤ d) (hmL : mL ≤ 21) (hcat : (sk.map (fun v => if v.1 = 1 then 2 else 1)).sum ≤ 8)
    (hM : ConT G y b mL r d' X.bt av n h e h1) : AW G X pc ls (av.reverse ++ sk) n h 0 0 := by
  intro ad H locs lr hR hl hm hs
  have hav : ∀ v ∈ av, okv n v := fun v hv => hs v (List.mem_append_left _ (List.mem_reverse.mpr hv))
  have hMm := hM X.l ad H.size hst hR.2.2.2.1 hR.2.2.2.2.1 hav
  have hG : GoodIn TB (va_wsS own idx y (wsM y b mL r)) := good_tb (fun w hw1 => by
    rcases List.mem_append.mp hw1 with h1 | h1
    · apply hw
      simp only [List.mem_cons, List.not_mem_nil, or_false] at h1 ⊢
      rcases h1 with h1 | h1 | h1 <;> simp [h1]
    · rcases List.mem_cons.mp h1 with h1 | h1
      · apply hw; rw [h1]; simp
      · exact h1)
  have hcatR : ((sk.map (rv G ad)).map fun v => v.category).sum ≤ 8 := by
    rw [List.map_map, show ((fun v => Value.category v) ∘ rv G ad) = (fun v : Av => if v.1 = 1 then 2 else 1) from funext (fun v => rv_cat G ad v)]
    exact hcat
  refine aw_outT (sk := sk) hC hn hZ htab hR (vx_runS (As := av.map (rv G ad)) ⟨hC.1, hC.2.1, rfl, hC.2.2.1, hC.2.2.2.1⟩ hMm (va_cwS av.length hC.2.2.2.1 hG rfl rfl rfl hdesc ?_) ⟨pc_blind, fun U hU hW => ⟨rfl, pc_here hC hR U hU hW⟩⟩ rfl (by rw [List.length_map]) (hl.1.trans hm.symm) ?_ (lv_room hcatR) hd ?_)
  · rw [hRm]; exact ⟨hdd, by show 8 + (mL + 11) + 40 * d' ≤ 40 * d; omega⟩
  · rw [List.map_append, List.map_reverse]
  · rw [hRm]; exact ⟨Nat.le_refl _, Nat.le_refl _⟩
end CallT
/-! functional forms of methods that throw -/
abbrev RX : Type := (Int × Hp) ⊕ (Nat × Hp)
def bx_ (x : Option RX) (f : Int → Hp → Option RX) : Option RX := match x with
  | some (.inl (r, h)) => f r h
  | some (.inr e) => some (.inr e)
  | none => none
def mi_ (x : Option (Int × Hp)) : Option RX := match x with
  | some r => some (.inl r)
  | none => none
def mp_ (x : Option Int) (h : Hp) : Option RX := match x with
  | some r => some (.inl (r, h))
  | none => none
theorem bx_n {x : Option RX} {f : Int → Hp → Option RX} {r : Int × Hp} (h : bx_ x f = some (.inl r)) : ∃ v h1, x = some (.inl (v, h1)) ∧ f v h1 = some (.inl r) := by
  match x, h with
  | some (.inl (v, h1)), h => exact ⟨v, h1, rfl, h⟩
  | some (.inr e), h => cases h
theorem bx_x {x : Option RX} {f : Int → Hp → Option RX} {e : Nat × Hp} (h : bx_ x f = some (.inr e)) : (∃ v h1, x = some (.inl (v, h1)) ∧ f v h1 = some (.inr e)) ∨ x = some (.inr e) := by
  match x, h with
  | some (.inl (v, h1)), h => exact Or.inl ⟨v, h1, rfl, h⟩
  | some (.inr e'), h => exact Or.inr h
theorem mi_n {x : Option (Int × Hp)} {r : Int × Hp} (h : mi_ x = some (.inl r)) : x = some r := by
  match x, h with
  | some r', h => cases h; rfl
theorem mi_x {x : Option (Int × Hp)} {e : Nat × Hp} (h : mi_ x = some (.inr e)) : False := by
  match x, h with
  | some r', h => cases h
theorem mp_n {x : Option Int} {hh : Hp} {r : Int × Hp} (h : mp_ x hh = some (.inl r)) : x = some r.1 ∧ r.2 = hh := by
  match x, h with
  | some r', h => cases h; exact ⟨rfl, rfl⟩
theorem mp_x {x : Option Int} {hh : Hp} {e : Nat × Hp} (h : mp_ x hh = some (.inr e)) : False := by
  match x, h with
  | some r', h => cases h
