/-! calls -/
def pushv (v : Av) (sk : List Av) : List Av := if v.1 = 8 then sk else v :: sk
theorem rv_ext {G : GD} {ad ad' : Nat → Nat} {n : Nat} {v : Av} (h : ∀ i, i < n → ad' i = ad i) (hv : okv n v) : rv G ad' v = rv G ad v := by
  obtain ⟨t, x⟩ := v
  match t, hv with
  | 0, _ => rfl
  | 1, _ => rfl
  | 2, hv =>
    have hv : x < n := hv
    show rf ad' x = rf ad x
    unfold rf
    by_cases hx : x < 0
    · rw [if_pos hx, if_pos hx]
    · rw [if_neg hx, if_neg hx, h _ (by omega)]
  | 3, _ => rfl
  | 4, _ => rfl
  | 5, _ => rfl
  | 6, _ => rfl
  | t + 7, _ => rfl
theorem okv_mono {n n' : Nat} {v : Av} (h : n ≤ n') (hv : okv n v) : okv n' v := by
  obtain ⟨t, x⟩ := v
  match t, hv with
  | 0, hv => exact hv
  | 1, hv => exact hv
  | 2, hv =>
    have hv : x < n := hv
    show x < (n' : Int)
    omega
  | t + 3, _ => trivial
theorem A_in {G : GD} {X : CX} {own : String} {cc : ByteArray} {ad : Nat → Nat} {n : Nat} {h : Hp} {H : Heap} {locs : List Loc} (hC : Cx G X own cc) (hR : Rp G X ad n h H locs) : ∀ q, va_A (wl G ad n h) H.size q → X.A q := by
  intro q hq
  rcases hq with ⟨k, e, hk⟩ | hq
  · exact hR.2.1.2 k (q, e) hk
  · exact hC.2.2.2.2.2.1 q (Nat.le_trans hR.2.2.1.1 hq)
theorem aw_after {G : GD} {X : CX} {own : String} {cc : ByteArray} {pc : Nat} {ls sk sk0 : List Av} {n : Nat} {h : Hp} {cs ss mc' ms' : Nat} {Q' : Av → Nat → Hp → Prop} {ad : Nat → Nat} {H : Heap} {locs : List Loc} {lr : Array Slot} {aa : Array Value} (hC : Cx G X own cc) (hR : Rp G X ad n h H locs) (hl : lvh G ad n ls lr) (hm : X.c.maxLocals = ls.length) (hs : ∀ v ∈ sk, okv n v)
    (hr : va_Run X.p X.l X.e X.R X.s X.m X.args X.below X.meth X.c H locs cs ss mc' ms' (F0 X.m pc lr (sk0.map (rv G ad))) (sk.map (rv G ad)) (QC G (va_A (wl G ad n h) H.size) ad n X.bt Q' aa) (va_A (wl G ad n h) H.size))
    (kk : ∀ v n' h', n ≤ n' → Q' v n' h' → AW G X (pc + 3) ls (pushv v sk) n' h' (cs + mc') (ss + ms')) : W X.p X.l X.e X.R X.s X.m X.args X.below X.meth X.c H locs cs ss X.Z (F0 X.m pc lr (sk0.map (rv G ad))) := by
  intro T hT S
  obtain ⟨v, st₀, t, T', L, h0, S', hL, e1, e2, ⟨⟨ad', n', h', u, hv, hQ, hnn, hext, hP', hD', hok', hsh', hu, hK'⟩, hz, hkp⟩, stp⟩ := hr T hT S
  have hv : v = rvo G ad' u := by injection hv
  rw [h0] at hz hkp
  have hAi := A_in hC hR
  have hS := hR.2.2.1
  have hRp : Rp G X ad' n' h' T'.heap (locs ++ L) := by
    refine ⟨by rw [e1]; exact hP', hD'.weaken (fun _ _ _ hq => hAi _ hq), ⟨Nat.le_trans hS.1 (by rw [e1]; exact hz), fun q h1 h2 => ?_, fun q hq => ?_⟩, hok', hsh', Nat.le_trans hR.2.2.2.2.2.1 hnn, fun i hi => ?_⟩
    · rw [e1, hkp q (Nat.lt_of_lt_of_le h1 hS.1) (fun z => h2 (hAi q z))]
      exact hS.2.1 q h1 h2
    · rcases List.mem_append.mp hq with h3 | h3
      · exact hS.2.2 q h3
      · exact hAi _ (hL q h3)
    · rw [hext i (Nat.lt_of_lt_of_le hi hR.2.2.2.2.2.1)]
      exact hR.2.2.2.2.2.2 i hi
  have hl' : lvh G ad' n' ls lr := by
    refine ⟨hl.1, hl.2.1, fun k w hw h9 => ?_⟩
    obtain ⟨a1, a2⟩ := hl.2.2 k w hw h9
    rw [rv_ext hext a2]
    exact ⟨a1, okv_mono hnn a2⟩
  have hs' : ∀ w ∈ pushv u sk, okv n' w := by
    intro w hw
    unfold pushv at hw
    split at hw
    · exact okv_mono hnn (hs w hw)
    · rcases List.mem_cons.mp hw with e | hw
      · rw [e]; exact hu
      · exact okv_mono hnn (hs w hw)
  have hmap : (pushv u sk).map (rv G ad') = v.toList ++ sk.map (rv G ad) := by
    have h3 : sk.map (rv G ad') = sk.map (rv G ad) := List.map_congr_left (fun w hw => rv_ext hext (hs w hw))
    rw [hv]
    unfold pushv rvo
    by_cases h8 : u.1 = 8
    · rw [if_pos h8, if_pos h8, h3]; rfl
    · rw [if_neg h8, if_neg h8, List.map_cons, h3]; rfl
  have hk := kk u n' h' hnn hQ ad' T'.heap (locs ++ L) lr hRp hl' hm hs'
  rw [hmap] at hk
  obtain ⟨t2, a1, b1⟩ := hk T' rfl S'
  exact ⟨t2, stp t2 a1, b1⟩
theorem good_tb {ws : List Cond} (h : ∀ w ∈ ws, w ∈ TB) : GoodIn TB ws := fun w hw => ⟨h w hw, good_of_word (List.mem_filter.mp (h w hw)).2⟩
theorem pc_blind {G : GD} {ad : Nat → Nat} {n : Nat} {h : Hp} {sz : Nat} {vs : List Value} : FrameBlind (va_Pc vs (PC G ad n h sz)) := fun a U g mk q => by
  obtain ⟨q0, q1, qP, qK, qD, qR, qN⟩ := q
  exact ⟨q0, q1, qP, va_K.moved (u := U) (U := U.calling g mk a) (Vm.Alike.refl U.vm) qK, qD, ROH.moved (u := U) (U := U.calling g mk a) (Vm.Alike.refl U.vm) qR, qN.same (U := U.calling g mk a) rfl⟩
theorem pc_here {G : GD} {X : CX} {own : String} {cc : ByteArray} {ad : Nat → Nat} {n : Nat} {h : Hp} {H : Heap} {locs : List Loc} (hC : Cx G X own cc) (hR : Rp G X ad n h H locs) (U : State) (hU : U.heap = H) (hW : X.s.WarmedH U.vm) : PC G ad n h H.size U := by
  refine ⟨by rw [hU], by rw [hU]; exact hR.1, va_K.moved hW.alike hC.2.2.2.2.1, hR.2.1.weaken (fun _ _ _ _ => trivial), ?_, hC.nw.warm hW⟩
  rw [hU]
  exact ((hC.ro.kept (fun a h1 h2 => hR.2.2.1.2.1 a h1 h2)).narrow (A_in hC hR)).moved hW.alike
section Calls
variable {G : GD} {X : CX} {own : String} {cc : ByteArray} {pc : Nat} {ls sk : List Av} {n : Nat} {h : Hp} {cs ss mc ms d : Nat}
variable {y : MethodName} {b : ByteArray} {mL : Nat} {r : Option FieldType} {d' mc' ms' idx : Nat} {av : List Av} {Q' : Av → Nat → Hp → Prop}
theorem aw_callV {C : String} {T : u_T} {N ci nf a : Nat} {x : Int} (hC : Cx G X own cc) (hRm : X.R = rmd d mc ms) (hd : decode cc pc = .ok (.invokevirtual idx, 3)) (hcl : vwCl[ci]? = some (C, T, N)) (hc : ci < 10) (hyc : y.cls = C)
    (hw : ∀ w ∈ ([.methodLink own idx y, .instanceMethod y, .selects C y y, .initialized C, .code y b mL r] : List Cond), w ∈ TB) (hdesc : y.cls ≠ "java/lang/invoke/MethodHandle" ∧ y.cls ≠ "java/lang/invoke/VarHandle" ∧ (parseMethodDescriptor y.desc).map (fun d => d.parameters.length) = some av.length)
    (hx : x = (a : Int)) (hL : LAY a = (ci, nf)) (han : (X.bt = true ∧ a < 69) ∨ a < n) (hdd : d' + 1 ≤ d) (hmL : mL ≤ 21) (hcm : cs + mc' ≤ mc) (hsm : ss + ms' ≤ ms) (hcat : (sk.map (fun v => if v.1 = 1 then 2 else 1)).sum ≤ 8)
    (hM : Con G y b mL r d' mc' ms' X.bt ((2, x) :: av) n h Q')
    (kk : ∀ v n' h', n ≤ n' → Q' v n' h' → AW G X (pc + 3) ls (pushv v sk) n' h' (cs + mc') (ss + ms')) : AW G X pc ls (av.reverse ++ (2, x) :: sk) n h cs ss := by
  intro ad H locs lr hR hl hm hs
  have ha := hR.lt han
  have hs1 : ∀ v ∈ sk, okv n v := fun v hv => hs v (List.mem_append_right _ (List.mem_cons_of_mem _ hv))
  have hav : ∀ v ∈ (2, x) :: av, okv n v := fun v hv => by
    rcases List.mem_cons.mp hv with e | hv
    · rw [e]; exact hs _ (List.mem_append_right _ List.mem_cons_self)
    · exact hs v (List.mem_append_left _ (List.mem_reverse.mpr hv))
  have hMm := hM X.l ad H.size hR.2.2.2.1 hR.2.2.2.2.1 hav
  subst hx
  have hG : GoodIn TB (wsV own idx C y (wsM y b mL r)) := good_tb (fun w hw1 => by
    rcases List.mem_append.mp hw1 with h1 | h1
    · apply hw
      simp only [List.mem_cons, List.not_mem_nil, or_false] at h1 ⊢
      rcases h1 with h1 | h1 | h1 | h1 <;> simp [h1]
    · rcases List.mem_cons.mp h1 with h1 | h1
      · apply hw; rw [h1]; simp
      · exact h1)
  have hcatR : ((sk.map (rv G ad)).map fun v => v.category).sum ≤ 8 := by
    rw [List.map_map, show ((fun v => Value.category v) ∘ rv G ad) = (fun v : Av => if v.1 = 1 then 2 else 1) from funext (fun v => rv_cat G ad v)]
    exact hcat
  rw [List.map_cons, rv_at] at hMm
  refine aw_after hC hR hl hm hs1 (va_runV (C := C) (As := av.map (rv G ad)) (b := ad a) ⟨hC.1, hC.2.1, rfl, hC.2.2.1, hC.2.2.2.1⟩ hMm (cwV av.length hC.2.2.2.1 hG rfl rfl rfl ⟨hyc, hdesc.1, hdesc.2.1, hdesc.2.2⟩ ?_) ⟨pc_blind, va_recv hC.2.2.2.2.1 hR.1 hcl (q0 := a) (by rw [wl_get ha, encV_obj hL hc]), fun U hU hW => ⟨rfl, pc_here hC hR U hU hW⟩⟩ rfl (by rw [List.length_map]) (hl.1.trans hm.symm) ?_ (lv_room hcatR) hd ?_) kk
  · rw [hRm]; exact ⟨hdd, by show 8 + (mL + 11) + 40 * d' ≤ 40 * d; omega⟩
  · rw [List.map_append, List.map_reverse, List.map_cons, rv_at]
  · rw [hRm]; exact ⟨hcm, hsm⟩
theorem aw_callVR {C : String} {a : Nat} {x : Int} (hC : Cx G X own cc) (hRm : X.R = rmd d mc ms) (hd : decode cc pc = .ok (.invokevirtual idx, 3)) (hO : va_O C a X.A X.s X.s.heap) (hyc : y.cls = C)
    (hw : ∀ w ∈ ([.methodLink own idx y, .instanceMethod y, .selects C y y, .initialized C, .code y b mL r] : List Cond), w ∈ TB) (hdesc : y.cls ≠ "java/lang/invoke/MethodHandle" ∧ y.cls ≠ "java/lang/invoke/VarHandle" ∧ (parseMethodDescriptor y.desc).map (fun d => d.parameters.length) = some av.length)
    (hx : G.2.2 x.toNat = a) (hdd : d' + 1 ≤ d) (hmL : mL ≤ 21) (hcm : cs + mc' ≤ mc) (hsm : ss + ms' ≤ ms) (hcat : (sk.map (fun v => if v.1 = 1 then 2 else 1)).sum ≤ 8)
    (hM : Con G y b mL r d' mc' ms' X.bt ((3, x) :: av) n h Q')
    (kk : ∀ v n' h', n ≤ n' → Q' v n' h' → AW G X (pc + 3) ls (pushv v sk) n' h' (cs + mc') (ss + ms')) : AW G X pc ls (av.reverse ++ (3, x) :: sk) n h cs ss := by
  intro ad H locs lr hR hl hm hs
  have hs1 : ∀ v ∈ sk, okv n v := fun v hv => hs v (List.mem_append_right _ (List.mem_cons_of_mem _ hv))
  have hav : ∀ v ∈ (3, x) :: av, okv n v := fun v hv => by
    rcases List.mem_cons.mp hv with e | hv
    · rw [e]; exact hs _ (List.mem_append_right _ List.mem_cons_self)
    · exact hs v (List.mem_append_left _ (List.mem_reverse.mpr hv))
  have hMm := hM X.l ad H.size hR.2.2.2.1 hR.2.2.2.2.1 hav
  have hG : GoodIn TB (wsV own idx C y (wsM y b mL r)) := good_tb (fun w hw1 => by
    rcases List.mem_append.mp hw1 with h1 | h1
    · apply hw
      simp only [List.mem_cons, List.not_mem_nil, or_false] at h1 ⊢
      rcases h1 with h1 | h1 | h1 | h1 <;> simp [h1]
    · rcases List.mem_cons.mp h1 with h1 | h1
      · apply hw; rw [h1]; simp
      · exact h1)
  have hcatR : ((sk.map (rv G ad)).map fun v => v.category).sum ≤ 8 := by
    rw [List.map_map, show ((fun v => Value.category v) ∘ rv G ad) = (fun v : Av => if v.1 = 1 then 2 else 1) from funext (fun v => rv_cat G ad v)]
    exact hcat
  have erv : rv G ad (3, x) = .ref a := by rw [← hx]; rfl
  rw [List.map_cons, erv] at hMm
  refine aw_after hC hR hl hm hs1 (va_runV (C := C) (As := av.map (rv G ad)) (b := a) ⟨hC.1, hC.2.1, rfl, hC.2.2.1, hC.2.2.2.1⟩ hMm (cwV av.length hC.2.2.2.1 hG rfl rfl rfl ⟨hyc, hdesc.1, hdesc.2.1, hdesc.2.2⟩ ?_) ⟨pc_blind, va_Orecv hO hR.2.2.1, fun U hU hW => ⟨rfl, pc_here hC hR U hU hW⟩⟩ rfl (by rw [List.length_map]) (hl.1.trans hm.symm) ?_ (lv_room hcatR) hd ?_) kk
  · rw [hRm]; exact ⟨hdd, by show 8 + (mL + 11) + 40 * d' ≤ 40 * d; omega⟩
  · rw [List.map_append, List.map_reverse, List.map_cons, erv]
  · rw [hRm]; exact ⟨hcm, hsm⟩
theorem aw_callS (hC : Cx G X own cc) (hRm : X.R = rmd d mc ms) (hd : decode cc pc = .ok (.invokestatic idx, 3))
    (hw : ∀ w ∈ ([.methodLink own idx y, .static y, .initialized y.cls, .code y b mL r] : List Cond), w ∈ TB) (hdesc : y.cls ≠ "java/lang/invoke/MethodHandle" ∧ y.cls ≠ "java/lang/invoke/VarHandle" ∧ (parseMethodDescriptor y.desc).map (fun d => d.parameters.length) = some av.length)
    (hdd : d' + 1 ≤ d) (hmL : mL ≤ 21) (hcm : cs + mc' ≤ mc) (hsm : ss + ms' ≤ ms) (hcat : (sk.map (fun v => if v.1 = 1 then 2 else 1)).sum ≤ 8)
    (hM : Con G y b mL r d' mc' ms' X.bt av n h Q')
    (kk : ∀ v n' h', n ≤ n' → Q' v n' h' → AW G X (pc + 3) ls (pushv v sk) n' h' (cs + mc') (ss + ms')) : AW G X pc ls (av.reverse ++ sk) n h cs ss := by
  intro ad H locs lr hR hl hm hs
  have hs1 : ∀ v ∈ sk, okv n v := fun v hv => hs v (List.mem_append_right _ hv)
  have hav : ∀ v ∈ av, okv n v := fun v hv => hs v (List.mem_append_left _ (List.mem_reverse.mpr hv))
  have hMm := hM X.l ad H.size hR.2.2.2.1 hR.2.2.2.2.1 hav
  have hG : GoodIn TB (va_wsS own idx y (wsM y b mL r)) := good_tb (fun w hw1 => by
    rcases List.mem_append.mp hw1 with h1 | h1
    · apply hw
      simp only [List.mem_cons, List.not_mem_nil, or_false] at h1 ⊢
      rcases h1 with h1 | h1 | h1 <;> simp [h1]
    · rcases List.mem_cons.mp h1 with h1 | h1
      · apply hw; rw [h1]; simp
      · exact h1)
  have hcatR : ((sk.map (rv G ad)).map fun v => v.category).sum ≤ 8 := by
    rw [List.map_map, show ((fun v => Value.category v) ∘ rv G ad) = (fun v : Av => if v.1 = 1 then 2 else 1) from funext (fun v => rv_cat G ad v)]
    exact hcat
  refine aw_after hC hR hl hm hs1 (va_runS (As := av.map (rv G ad)) ⟨hC.1, hC.2.1, rfl, hC.2.2.1, hC.2.2.2.1⟩ hMm (va_cwS av.length hC.2.2.2.1 hG rfl rfl rfl hdesc ?_) ⟨pc_blind, fun U hU hW => ⟨rfl, pc_here hC hR U hU hW⟩⟩ rfl (by rw [List.length_map]) (hl.1.trans hm.symm) ?_ (lv_room hcatR) hd ?_) kk
  · rw [hRm]; exact ⟨hdd, by show 8 + (mL + 11) + 40 * d' ≤ 40 * d; omega⟩
  · rw [List.map_append, List.map_reverse]
  · rw [hRm]; exact ⟨hcm, hsm⟩
theorem aw_callSN {host : String} (hC : Cx G X own cc) (hRm : X.R = rmd d mc ms) (hd : decode cc pc = .ok (.invokestatic idx, 3))
    (hwn : Cond.methodLinkNest own idx y host ∈ TBN) (hw : ∀ w ∈ ([.static y, .initialized y.cls, .code y b mL r] : List Cond), w ∈ TB) (hdesc : y.cls ≠ "java/lang/invoke/MethodHandle" ∧ y.cls ≠ "java/lang/invoke/VarHandle" ∧ (parseMethodDescriptor y.desc).map (fun d => d.parameters.length) = some av.length)
    (hdd : d' + 1 ≤ d) (hmL : mL ≤ 21) (hcm : cs + mc' ≤ mc) (hsm : ss + ms' ≤ ms) (hcat : (sk.map (fun v => if v.1 = 1 then 2 else 1)).sum ≤ 8)
    (hM : Con G y b mL r d' mc' ms' X.bt av n h Q')
    (kk : ∀ v n' h', n ≤ n' → Q' v n' h' → AW G X (pc + 3) ls (pushv v sk) n' h' (cs + mc') (ss + ms')) : AW G X pc ls (av.reverse ++ sk) n h cs ss := by
  intro ad H locs lr hR hl hm hs
  have hs1 : ∀ v ∈ sk, okv n v := fun v hv => hs v (List.mem_append_right _ hv)
  have hav : ∀ v ∈ av, okv n v := fun v hv => hs v (List.mem_append_left _ (List.mem_reverse.mpr hv))
  have hMm := hM X.l ad H.size hR.2.2.2.1 hR.2.2.2.2.1 hav
  have hG : GoodIn TB (wsM y b mL r) := good_tb (fun w h1 => by
    rcases List.mem_cons.mp h1 with h1 | h1
    · apply hw; rw [h1]; simp
    · exact h1)
  have hcatR : ((sk.map (rv G ad)).map fun v => v.category).sum ≤ 8 := by
    rw [List.map_map, show ((fun v => Value.category v) ∘ rv G ad) = (fun v : Av => if v.1 = 1 then 2 else 1) from funext (fun v => rv_cat G ad v)]
    exact hcat
  have hl9 : va_Nw (.methodLinkNest own idx y host) X.s := hC.nw.1 _ hwn
  refine aw_after hC hR hl hm hs1 (va_runSN (As := av.map (rv G ad)) (host := host) ⟨hC.1, hC.2.1, rfl, hC.2.2.1, hC.2.2.2.1⟩ hMm ⟨va_cnB av.length hC.2.2.2.1 hG rfl rfl rfl hl9 (hC.2.2.2.1 _ (hw _ (by simp))) hdesc ?_, hC.2.2.2.1 _ (hw _ (by simp)), trivial⟩ ⟨pc_blind, fun U hU hW => ⟨rfl, pc_here hC hR U hU hW⟩⟩ rfl (by rw [List.length_map]) (hl.1.trans hm.symm) ?_ (lv_room hcatR) hd ?_) kk
  · rw [hRm]; exact ⟨hdd, by show 8 + (mL + 11) + 40 * d' ≤ 40 * d; omega⟩
  · rw [List.map_append, List.map_reverse]
  · rw [hRm]; exact ⟨hcm, hsm⟩
end Calls
