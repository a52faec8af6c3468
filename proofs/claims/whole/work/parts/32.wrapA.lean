/-! the law's wrappers: methods with a handler -/
abbrev wsH (y : MethodName) (b : ByteArray) (mL : Nat) (r : Option FieldType) (hh : List (Nat × Nat × Nat × Nat)) : List Cond := .codeWith y b mL r hh :: TB
def ConH (G : GD) (y : MethodName) (b : ByteArray) (mL : Nat) (r : Option FieldType) (hh : List (Nat × Nat × Nat × Nat)) (d : Nat) (av : List Av) (n : Nat) (h : Hp) (Q : Av → Nat → Hp → Prop) : Prop :=
  ∀ (l : Launch) (ad : Nat → Nat) (sz : Nat), l.stackTraces = false → okh n h → ShN n h → (∀ v ∈ av, okv n v) → Met l y (wsH y b mL r hh) (rmd d 1 6) (va_Pc (av.map (rv G ad)) (PC G ad n h sz)) (QC G (va_A (wl G ad n h) sz) ad n true Q) 1 6 (va_A (wl G ad n h) sz)
theorem conH_of {G : GD} {y : MethodName} {own : String} {b : ByteArray} {mL : Nat} {r : Option FieldType} {hh : List (Nat × Nat × Nat × Nat)} {d : Nat} {av : List Av} {n : Nat} {h : Hp} {Q : Av → Nat → Hp → Prop} {pad : Nat} (hy : plainName y.cls = true) (hown : y.cls = own) (hlen : (exA av).length + pad = mL)
    (body : ∀ X : CX, Cx G X own b → X.bt = true → X.l.stackTraces = false → X.c.exceptionTable.toList = tableOf hh → X.meth.sig.returnType = r → ZOK X G Q 1 6 → X.R = rmd d 1 6 → X.n0 = n → AW G X 0 (exA av ++ List.replicate pad (9, 0)) [] n h 0 0) : ConH G y b mL r hh d av n h Q := by
  intro l ad sz hst hok hsh hav
  refine va_MetW (cc := b) (maxL := mL) (ret := r) (hh := hh) hy rfl ?_
  intro p e s m args below meth c s₁ B hml hv
  obtain ⟨rfl, hsz, hP, hK, hD0, hRO, hNW⟩ := hv
  subst hsz
  have hD := hD0.self (sz := s.heap.size)
  have hts : ∀ w ∈ TB, w.before ((av.map (rv G ad)).toArray) s = true := fun w hw => atoms_spec (ws := wsH y b mL r hh) B.pre w (List.mem_cons_of_mem _ hw)
  have htab : c.exceptionTable.toList = tableOf hh := vx_table (x := y) B (atoms_spec (ws := wsH y b mL r hh) B.pre _ List.mem_cons_self)
  have hl0 := lv_entry (av.map (rv G ad)) (n := mL) (by rw [exA_len]; omega)
  rw [lg_entry_eq]
  generalize (lg_sl (av.map (rv G ad)) ++ List.replicate (mL - (lg_sl (av.map (rv G ad))).length) Slot.unset).toArray = lr at hl0 ⊢
  have hlen2 : (exA av ++ List.replicate pad ((9, 0) : Av)).length = mL := by rw [List.length_append, List.length_replicate]; exact hlen
  have hl : lvh G ad n (exA av ++ List.replicate pad (9, 0)) lr := by
    refine ⟨by rw [hlen2]; exact hl0.1, hl0.2.1, fun k u hu h9 => ?_⟩
    rcases Nat.lt_or_ge k (exA av).length with hk | hk
    · rw [List.getElem?_append_left hk] at hu
      obtain ⟨h1, h2⟩ := exA_args (G := G) (ad := ad) av 0 k u hav hu h9
      rw [Nat.zero_add] at h1
      exact ⟨hl0.2.2 _ h1, h2⟩
    · rw [List.getElem?_append_right hk, List.getElem?_replicate] at hu
      split at hu
      · cases hu; exact absurd rfl h9
      · cases hu
  exact body (p, l, e, rmd d 1 6, s, m, (av.map (rv G ad)).toArray, below, meth, c, MQ below (QC G (va_A (wl G ad n h) s.heap.size) ad n true Q) ((av.map (rv G ad)).toArray) s 1 6 (va_A (wl G ad n h) s.heap.size), va_A (wl G ad n h) s.heap.size, ad, n, true)
    ⟨B.exec, B.bytes, by rw [← hown]; exact findClass_of_methodNamed B.named, hts, hK, fun q hq => Or.inr hq, B.notSynchronized, hRO, hNW⟩ rfl hst htab B.returns rfl rfl rfl
    ad s.heap [] lr ⟨hP, hD, va_S.rf, hok, fun _ => hsh, Nat.le_refl _, fun _ _ => rfl⟩ hl (hml.trans hlen2.symm) (fun _ h => absurd h List.not_mem_nil)
theorem aw_rstore_n {G : GD} {X : CX} {own : String} {cc : ByteArray} {pc : Nat} {ls sk : List Av} {n : Nat} {h : Hp} {cs ss : Nat} {j : Fin 4} {x : Nat} (hC : Cx G X own cc) (hd : decode cc pc = .ok (.astore_n j, 1)) (hi : (j : Nat) < ls.length) (hp : stOK ls j = true) (k : AW G X (pc + 1) (ls.set j (6, (x : Int))) sk n h cs ss) : AW G X pc ls ((6, (x : Int)) :: sk) n h cs ss := by
  intro ad H locs lr hR hl hm hs
  have e : rv G ad (6, (x : Int)) = .ref x := by
    show (if (x : Int) < 0 then Value.null else .ref (x : Int).toNat) = _
    rw [if_neg (by omega)]
    rfl
  have hst := fun lr' h' => k ad H locs lr' hR (lvh_st hl hi hp (okt hs) h') (by rw [List.length_set]; exact hm) (ok1 hs)
  rw [e] at hst
  rw [List.map_cons, e]
  exact lv_astore_n hC.1 hC.2.1 hd rfl (lvh_has hl) hi rfl hst
theorem aw_rstore {G : GD} {X : CX} {own : String} {cc : ByteArray} {pc : Nat} {ls sk : List Av} {n : Nat} {h : Hp} {cs ss : Nat} {j : Nat} {x : Nat} (hC : Cx G X own cc) (hd : decode cc pc = .ok (.astore j, 2)) (hi : j < ls.length) (hp : stOK ls j = true) (k : AW G X (pc + 2) (ls.set j (6, (x : Int))) sk n h cs ss) : AW G X pc ls ((6, (x : Int)) :: sk) n h cs ss := by
  intro ad H locs lr hR hl hm hs
  have e : rv G ad (6, (x : Int)) = .ref x := by
    show (if (x : Int) < 0 then Value.null else .ref (x : Int).toNat) = _
    rw [if_neg (by omega)]
    rfl
  have hst := fun lr' h' => k ad H locs lr' hR (lvh_st hl hi hp (okt hs) h') (by rw [List.length_set]; exact hm) (ok1 hs)
  rw [e] at hst
  rw [List.map_cons, e]
  exact lv_astore hC.1 hC.2.1 hd (lvh_has hl) hi rfl hst
section CallC
variable {G : GD} {X : CX} {own : String} {cc : ByteArray} {pc : Nat} {ls sk : List Av} {n : Nat} {h h1 : Hp} {d e : Nat}
variable {y : MethodName} {b : ByteArray} {mL : Nat} {r : Option FieldType} {d' idx : Nat} {av : List Av}
/-- where the callee has thrown, the handler goes on -/
theorem aw_inC {ad : Nat → Nat} {H : Heap} {locs : List Loc} {lr : Array Slot} {sk0 : List Av} {name : String} (hC : Cx G X own cc) (hR : Rp G X ad n h H locs) (hl : lvh G ad n ls lr) (hm : X.c.maxLocals = ls.length)
    (pre : List ExceptionTableEntry) (x : ExceptionTableEntry) (suf : List ExceptionTableEntry) (hsplit : X.c.exceptionTable.toList = pre ++ x :: suf)
    (hpass : ∀ z ∈ pre, covers z pc = false ∨ (z.catchType ≠ 0 ∧ ∃ nm : String, Cond.classLink own z.catchType nm ∈ TB ∧ va_Nc (excN e) nm X.s)) (hx : covers x pc = true) (h0 : x.catchType ≠ 0) (hlink : Cond.classLink own x.catchType name ∈ TB) (hcast : Cond.castable (excN e) name ∈ TBN)
    (kk : ∀ q : Nat, AW G X x.handlerPc ls [(6, (q : Int))] n h1 1 6)
    (hr : vx_Run X.p X.l X.e X.R X.s X.m X.args X.below X.meth X.c H locs 0 0 1 6 (F0 X.m pc lr (sk0.map (rv G ad))) (sk.map (rv G ad)) (fun _ _ _ => False) (QX G (va_A (wl G ad n h) H.size) ad n X.bt e h1) (va_A (wl G ad n h) H.size)) :
    W X.p X.l X.e X.R X.s X.m X.args X.below X.meth X.c H locs 0 0 X.Z (F0 X.m pc lr (sk0.map (rv G ad))) := by
  intro T hT S
  have hAi := A_in hC hR
  rcases hr T hT S with ⟨v, st₀, t, T', L, g0, S', hL, e1, e2, hfal, stp⟩ | ⟨q, st₀, t, T', L, E, ce, g0, S', hL, e1, e2, ⟨⟨ad', hE, hext, hP', hD', hok', hsh', hK'⟩, hz, hkp⟩, hce, hcv, hcl, stp⟩
  · exact hfal.elim
  · rw [g0] at hz hkp
    subst hE
    have hS := hR.2.2.1
    have hRp : Rp G X ad' n h1 T'.heap (locs ++ L) := by
      refine ⟨by rw [e1]; exact hP', hD'.weaken (fun _ _ _ hq => hAi _ hq), ⟨Nat.le_trans hS.1 (by rw [e1]; exact hz), fun q h1 h2 => ?_, fun q hq => ?_⟩, hok', hsh', hR.2.2.2.2.2.1, fun i hi => ?_⟩
      · rw [e1, hkp q (Nat.lt_of_lt_of_le h1 hS.1) (fun z => h2 (hAi q z))]
        exact hS.2.1 q h1 h2
      · rcases List.mem_append.mp hq with h3 | h3
        · exact hS.2.2 q h3
        · exact hAi _ (hL q h3)
      · rw [hext i (Nat.lt_of_lt_of_le hi hR.2.2.2.2.2.1)]
        exact hR.2.2.2.2.2.2 i hi
    have hl' : lvh G ad' n ls lr := by
      refine ⟨hl.1, hl.2.1, fun k w hw h9 => ?_⟩
      obtain ⟨a1, a2⟩ := hl.2.2 k w hw h9
      rw [rv_ext hext a2]
      exact ⟨a1, a2⟩
    have hk := kk q ad' T'.heap (locs ++ L) lr hRp hl' hm (fun v hv => by rcases List.mem_cons.mp hv with e | hv; (rw [e]; trivial); exact absurd hv List.not_mem_nil)
    have eq6 : [((6, (q : Int)) : Av)].map (rv G ad') = [Value.ref q] := by
      show [(if (q : Int) < 0 then Value.null else .ref (q : Int).toNat)] = _
      rw [if_neg (by omega)]
      rfl
    rw [eq6] at hk
    have hv9 := vx_catch (p := X.p) (l := X.l) (e := X.e) (R := X.R) (s := X.s) (m := X.m) (args := X.args) (below := X.below) (meth := X.meth) (c := X.c) (H := T'.heap) (locs := locs ++ L) (cells := 1) (slots := 6) (ls := lr) (rest := sk.map (rv G ad)) (pc := pc) (own := own) (name := name) (E := excN e) (ce := ce) (q := q) (Q := X.Z) hC.2.2.1 pre x suf hsplit
      (fun z hz9 => (hpass z hz9).imp id (fun h9 => ⟨h9.1, h9.2.imp (fun nm h8 => ⟨hC.2.2.2.1 _ h8.1, h8.2⟩)⟩)) hx h0 (hC.2.2.2.1 _ hlink) (tbn_before hC _ hcast) (by rw [e1]; exact hce) hcv hcl hk
    obtain ⟨t2, a1, b1⟩ := hv9 T' rfl S'
    exact ⟨t2, stp.trans a1, b1⟩
theorem aw_callVC {C : String} {T : u_T} {N ci nf a : Nat} {x0 : Int} {name : String} (hC : Cx G X own cc) (hRm : X.R = rmd d 1 6) (hst : X.l.stackTraces = false) (hd : decode cc pc = .ok (.invokevirtual idx, 3)) (hcl : vwCl[ci]? = some (C, T, N)) (hc : ci < 10) (hyc : y.cls = C)
    (hw : ∀ w ∈ ([.methodLink own idx y, .instanceMethod y, .selects C y y, .initialized C, .code y b mL r] : List Cond), w ∈ TB) (hdesc : y.cls ≠ "java/lang/invoke/MethodHandle" ∧ y.cls ≠ "java/lang/invoke/VarHandle" ∧ (parseMethodDescriptor y.desc).map (fun d => d.parameters.length) = some av.length)
    (hx : x0 = (a : Int)) (hL : LAY a = (ci, nf)) (han : (X.bt = true ∧ a < 69) ∨ a < n) (hdd : d' + 1 ≤ d) (hmL : mL ≤ 21) (hcat : (sk.map (fun v => if v.1 = 1 then 2 else 1)).sum ≤ 8)
    (hM : ConT G y b mL r d' X.bt ((2, x0) :: av) n h e h1)
    (pre : List ExceptionTableEntry) (x : ExceptionTableEntry) (suf : List ExceptionTableEntry) (hsplit : X.c.exceptionTable.toList = pre ++ x :: suf)
    (hpass : ∀ z ∈ pre, covers z pc = false ∨ (z.catchType ≠ 0 ∧ ∃ nm : String, Cond.classLink own z.catchType nm ∈ TB ∧ va_Nc (excN e) nm X.s)) (hx1 : covers x pc = true) (h0 : x.catchType ≠ 0) (hlink : Cond.classLink own x.catchType name ∈ TB) (hcast : Cond.castable (excN e) name ∈ TBN)
    (kk : ∀ q : Nat, AW G X x.handlerPc ls [(6, (q : Int))] n h1 1 6) : AW G X pc ls (av.reverse ++ (2, x0) :: sk) n h 0 0 := by
  intro ad H locs lr hR hl hm hs
  have ha := hR.lt han
  have hav : ∀ v ∈ (2, x0) :: av, okv n v := fun v hv => by
    rcases List.mem_cons.mp hv with e | hv
    · rw [e]; exact hs _ (List.mem_append_right _ List.mem_cons_self)
    · exact hs v (List.mem_append_left _ (List.mem_reverse.mpr hv))
  have hMm := hM X.l ad H.size hst hR.2.2.2.1 hR.2.2.2.2.1 hav
  subst hx
  have hG : GoodIn TB (wsV own idx C y (wsM y b mL r)) := good_tb (fun w hw1 => by
    rcases List.mem_append.mp hw1 with h1 | h1
    · apply hw
      simp only [List.mem_cons, List.not_mem_nil, or_false] at h1 ⊢
      rcases h1 with h1 | h1 | h1 | h1 <;> simp [h1]
    · rcases List.mem_cons.mp h1 with h1 | h1
      · apply hw; rw [h1]; simp
      · exact h1)
  have hcatR : ((sk.map (rv G ad)).map fun v => v.category).sum ≤ 8 := by
    rw [List.map_map, show ((fun v => Value.category v) ∘ rv G ad) = (fun v : Av => if v.1 = 1 then 2 else 1) from funext (fun v => rv_cat G ad v)]
    exact hcat
  rw [List.map_cons, rv_at] at hMm
  refine aw_inC (sk := sk) hC hR hl hm pre x suf hsplit hpass hx1 h0 hlink hcast kk (vx_runV (C := C) (As := av.map (rv G ad)) (b := ad a) ⟨hC.1, hC.2.1, rfl, hC.2.2.1, hC.2.2.2.1⟩ hMm (cwV av.length hC.2.2.2.1 hG rfl rfl rfl ⟨hyc, hdesc.1, hdesc.2.1, hdesc.2.2⟩ ?_) ⟨pc_blind, va_recv hC.2.2.2.2.1 hR.1 hcl (q0 := a) (by rw [wl_get ha, encV_obj hL hc]), fun U hU hW => ⟨rfl, pc_here hC hR U hU hW⟩⟩ rfl (by rw [List.length_map]) (hl.1.trans hm.symm) ?_ (lv_room hcatR) hd ?_)
  · rw [hRm]; exact ⟨hdd, by show 8 + (mL + 11) + 40 * d' ≤ 40 * d; omega⟩
  · rw [List.map_append, List.map_reverse, List.map_cons, rv_at]
  · rw [hRm]; exact ⟨Nat.le_refl _, Nat.le_refl _⟩
end CallC
theorem nc_here {G : GD} {X : CX} {own : String} {cc : ByteArray} (hC : Cx G X own cc) : va_Nc "java/lang/IllegalArgumentException" "java/util/NoSuchElementException" X.s := hC.ro.2.2.2.2.2
