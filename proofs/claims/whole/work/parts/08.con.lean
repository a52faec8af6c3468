/-! returns, contracts, calls -/
def rvo (G : GD) (ad : Nat → Nat) (v : Av) : Option Value := if v.1 = 8 then none else some (rv G ad v)
def QC (G : GD) (A : Nat → Prop) (ad0 : Nat → Nat) (n0 : Nat) (bt : Bool) (Q : Av → Nat → Hp → Prop) : Array Value → State → Outcome → State → Prop := fun _ s0 oc t =>
  (∃ (ad : Nat → Nat) (n : Nat) (h : Hp) (v : Av), oc = .returned (rvo G ad v) ∧ Q v n h ∧ n0 ≤ n ∧ (∀ i, i < n0 → ad i = ad0 i) ∧ va_P G.1 vwCl (wl G ad n h) t.heap ∧ va_D A (wl G ad n h) ∧ okh n h ∧ (bt = true → ShN n h) ∧ okv n v ∧ va_K G.1 vwCl (tysG G) t) ∧ va_F A s0 t
def PC (G : GD) (ad : Nat → Nat) (n : Nat) (h : Hp) (sz : Nat) : State → Prop := fun U =>
  U.heap.size = sz ∧ va_P G.1 vwCl (wl G ad n h) U.heap ∧ va_K G.1 vwCl (tysG G) U ∧ va_D (fun _ => True) (wl G ad n h) ∧ ROH G (va_A (wl G ad n h) sz) U U.heap ∧ NWs G U
abbrev rmd (d mc ms : Nat) : Room := { frames := d, cells := mc, slots := ms, locals := 40 * d }
abbrev wsM (y : MethodName) (b : ByteArray) (mL : Nat) (r : Option FieldType) : List Cond := .code y b mL r :: TB
def Con (G : GD) (y : MethodName) (b : ByteArray) (mL : Nat) (r : Option FieldType) (d mc ms : Nat) (bt : Bool) (av : List Av) (n : Nat) (h : Hp) (Q : Av → Nat → Hp → Prop) : Prop :=
  ∀ (l : Launch) (ad : Nat → Nat) (sz : Nat), okh n h → (bt = true → ShN n h) → (∀ v ∈ av, okv n v) → Met l y (wsM y b mL r) (rmd d mc ms) (va_Pc (av.map (rv G ad)) (PC G ad n h sz)) (QC G (va_A (wl G ad n h) sz) ad n bt Q) mc ms (va_A (wl G ad n h) sz)
def ZOK (X : CX) (G : GD) (Q : Av → Nat → Hp → Prop) (mc ms : Nat) : Prop := X.Z = MQ X.below (QC G X.A X.ad0 X.n0 X.bt Q) X.args X.s mc ms X.A
theorem qc_of {G : GD} {X : CX} {own : String} {cc : ByteArray} {ad : Nat → Nat} {n : Nat} {h : Hp} {H : Heap} {locs : List Loc} {Q : Av → Nat → Hp → Prop} {v : Av} (hC : Cx G X own cc) (hR : Rp G X ad n h H locs) (hv : okv n v) (hQ : Q v n h) :
    ∀ t : State, t.heap = H → X.s.WarmedH t.vm → QC G X.A X.ad0 X.n0 X.bt Q X.args X.s (.returned (rvo G ad v)) t := by
  intro t ht hW
  refine ⟨⟨ad, n, h, v, rfl, hQ, hR.2.2.2.2.2.1, hR.2.2.2.2.2.2, by rw [ht]; exact hR.1, hR.2.1, hR.2.2.2.1, hR.2.2.2.2.1, hv, va_K.moved hW.alike hC.2.2.2.2.1⟩, hR.2.2.1.F ht⟩
section Rets
variable {G : GD} {X : CX} {own : String} {cc : ByteArray} {pc : Nat} {ls sk : List Av} {n : Nat} {h : Hp} {cs ss mc ms : Nat} {Q : Av → Nat → Hp → Prop}
theorem aw_ireturn {x : Int} (hC : Cx G X own cc) (hZ : ZOK X G Q mc ms) (hc : cs ≤ mc) (hs9 : ss ≤ ms) (hr : X.meth.sig.returnType = some .int) (hd : decode cc pc = .ok (.ireturn, 1)) (hQ : Q (0, x) n h) : AW G X pc ls [(0, x)] n h cs ss := by
  intro ad H locs lr hR hl hm hs
  have hx : in32 x := okt hs
  rw [hZ]
  refine W.widen hc hs9 ?_
  exact W.iret (v := Int32.ofInt x) hC.1 hC.2.1 hr (qc_of (v := (0, x)) hC hR hx hQ) hR.2.2.1.2.2 hd hC.2.2.2.2.2.2.1
theorem aw_zreturn {x : Int} {ty : FieldType} (hC : Cx G X own cc) (hZ : ZOK X G Q mc ms) (hc : cs ≤ mc) (hs9 : ss ≤ ms) (hr : X.meth.sig.returnType = some ty) (hty : ty = .boolean) (hd : decode cc pc = .ok (.ireturn, 1)) (hx1 : x = 0 ∨ x = 1) (hQ : Q (0, x) n h) : AW G X pc ls [(0, x)] n h cs ss := by
  intro ad H locs lr hR hl hm hs
  have hx : in32 x := okt hs
  rw [hZ]
  refine W.widen hc hs9 ?_
  subst hty
  exact W.zret (v := Int32.ofInt x) hC.1 hC.2.1 hr (by rcases hx1 with rfl | rfl <;> decide) (qc_of (v := (0, x)) hC hR hx hQ) hR.2.2.1.2.2 hd hC.2.2.2.2.2.2.1
theorem aw_lreturn {x : Int} (hC : Cx G X own cc) (hZ : ZOK X G Q mc ms) (hc : cs ≤ mc) (hs9 : ss ≤ ms) (hr : X.meth.sig.returnType = some .long) (hd : decode cc pc = .ok (.lreturn, 1)) (hQ : Q (1, x) n h) : AW G X pc ls [(1, x)] n h cs ss := by
  intro ad H locs lr hR hl hm hs
  have hx : in64 x := okt hs
  rw [hZ]
  refine W.widen hc hs9 ?_
  exact W.lret (v := Int64.ofInt x) hC.1 hC.2.1 hr (qc_of (v := (1, x)) hC hR hx hQ) hR.2.2.1.2.2 hd hC.2.2.2.2.2.2.1
theorem aw_areturn {x : Int} {rt : FieldType} (hC : Cx G X own cc) (hZ : ZOK X G Q mc ms) (hc : cs ≤ mc) (hs9 : ss ≤ ms) (hr : X.meth.sig.returnType = some rt) (hrt : (∃ n, rt = .object n) ∨ ∃ t, rt = .array t) (hd : decode cc pc = .ok (.areturn, 1)) (hQ : Q (2, x) n h) : AW G X pc ls [(2, x)] n h cs ss := by
  intro ad H locs lr hR hl hm hs
  have hx : okv n (2, x) := okt hs
  rw [hZ]
  refine W.widen hc hs9 ?_
  exact W.aret (v := rv G ad (2, x)) hC.1 hC.2.1 hr hrt (rv_ref G ad x) (qc_of (v := (2, x)) hC hR hx hQ) hR.2.2.1.2.2 hd hC.2.2.2.2.2.2.1
theorem aw_return (hC : Cx G X own cc) (hZ : ZOK X G Q mc ms) (hc : cs ≤ mc) (hs9 : ss ≤ ms) (hr : X.meth.sig.returnType = none) (hd : decode cc pc = .ok (.return_, 1)) (hQ : Q (8, 0) n h) : AW G X pc ls [] n h cs ss := by
  intro ad H locs lr hR hl hm hs
  rw [hZ]
  refine W.widen hc hs9 ?_
  exact W.vret hC.1 hC.2.1 hr (qc_of (v := (8, 0)) hC hR trivial hQ) hR.2.2.1.2.2 hd hC.2.2.2.2.2.2.1
end Rets
/-- the locals at a method's entry -/
def exA : List Av → List Av
  | [] => []
  | v :: r => if v.1 = 1 then v :: (9, 0) :: exA r else v :: exA r
theorem exA_cons (v : Av) (r : List Av) : exA (v :: r) = if v.1 = 1 then v :: (9, 0) :: exA r else v :: exA r := rfl
theorem exA_args {G : GD} {ad : Nat → Nat} {n : Nat} : ∀ (av : List Av) (i k : Nat) (u : Av), (∀ v ∈ av, okv n v) → (exA av)[k]? = some u → u.1 ≠ 9 → (i + k, rv G ad u) ∈ lv_args i (av.map (rv G ad)) ∧ okv n u
  | [], i, k, u, hok, h, h9 => by simp [exA] at h
  | v :: r, i, k, u, hok, h, h9 => by
    have hr : ∀ w ∈ r, okv n w := fun w hw => hok w (List.mem_cons_of_mem _ hw)
    rw [List.map_cons]
    unfold lv_args
    rw [exA_cons] at h
    rw [rv_cat]
    by_cases hv : v.1 = 1
    · rw [if_pos hv] at h
      rw [if_pos hv, if_pos rfl]
      match k, h with
      | 0, h => cases h; exact ⟨List.mem_cons_self, hok _ List.mem_cons_self⟩
      | 1, h => cases h; exact absurd rfl h9
      | k + 2, h =>
        have h1 := exA_args (G := G) (ad := ad) r (i + 2) k u hr h h9
        rw [show i + 2 + k = i + (k + 2) by omega] at h1
        exact ⟨List.mem_cons_of_mem _ h1.1, h1.2⟩
    · rw [if_neg hv] at h
      rw [if_neg hv, if_neg (by decide)]
      match k, h with
      | 0, h => cases h; exact ⟨List.mem_cons_self, hok _ List.mem_cons_self⟩
      | k + 1, h =>
        have h1 := exA_args (G := G) (ad := ad) r (i + 1) k u hr h h9
        rw [show i + 1 + k = i + (k + 1) by omega] at h1
        exact ⟨List.mem_cons_of_mem _ h1.1, h1.2⟩
theorem exA_len {G : GD} {ad : Nat → Nat} : ∀ (av : List Av), (lg_sl (av.map (rv G ad))).length = (exA av).length
  | [] => rfl
  | v :: r => by
    have ih := exA_len (G := G) (ad := ad) r
    unfold lg_sl at ih ⊢
    rw [List.map_cons, List.flatMap_cons, List.length_append, ih, exA_cons, rv_cat]
    by_cases hv : v.1 = 1
    · rw [if_pos hv, if_pos rfl, if_pos hv]
      simp only [List.length_cons, List.length_nil]
      omega
    · rw [if_neg hv, if_neg (by decide), if_neg hv]
      simp only [List.length_cons, List.length_nil]
      omega
theorem con_of {G : GD} {y : MethodName} {own : String} {b : ByteArray} {mL : Nat} {r : Option FieldType} {d mc ms : Nat} {bt : Bool} {av : List Av} {n : Nat} {h : Hp} {Q : Av → Nat → Hp → Prop} {pad : Nat} (hy : plainFor y = true) (hown : y.cls = own) (hlen : (exA av).length + pad = mL)
    (body : ∀ X : CX, Cx G X own b → X.bt = bt → X.meth.sig.returnType = r → X.meth.name = y.name → ZOK X G Q mc ms → X.R = rmd d mc ms → X.n0 = n → AW G X 0 (exA av ++ List.replicate pad (9, 0)) [] n h 0 0) : Con G y b mL r d mc ms bt av n h Q := by
  intro l ad sz hok hsh hav
  refine va_MetF (cc := b) (maxL := mL) (ret := r) hy rfl ?_
  intro p e s m args below meth c s₁ B hml hv
  obtain ⟨rfl, hsz, hP, hK, hD0, hRO, hNW⟩ := hv
  subst hsz
  have hD := hD0.self (sz := s.heap.size)
  have hts : ∀ w ∈ TB, w.before ((av.map (rv G ad)).toArray) s = true := fun w hw => atoms_spec (ws := wsM y b mL r) B.pre w (List.mem_cons_of_mem _ hw)
  have hl0 := lv_entry (av.map (rv G ad)) (n := mL) (by rw [exA_len]; omega)
  rw [lg_entry_eq]
  generalize (lg_sl (av.map (rv G ad)) ++ List.replicate (mL - (lg_sl (av.map (rv G ad))).length) Slot.unset).toArray = lr at hl0 ⊢
  have hlen2 : (exA av ++ List.replicate pad ((9, 0) : Av)).length = mL := by rw [List.length_append, List.length_replicate]; exact hlen
  have hl : lvh G ad n (exA av ++ List.replicate pad (9, 0)) lr := by
    refine ⟨by rw [hlen2]; exact hl0.1, hl0.2.1, fun k u hu h9 => ?_⟩
    rcases Nat.lt_or_ge k (exA av).length with hk | hk
    · rw [List.getElem?_append_left hk] at hu
      obtain ⟨h1, h2⟩ := exA_args (G := G) (ad := ad) av 0 k u hav hu h9
      rw [Nat.zero_add] at h1
      exact ⟨hl0.2.2 _ h1, h2⟩
    · rw [List.getElem?_append_right hk, List.getElem?_replicate] at hu
      split at hu
      · cases hu; exact absurd rfl h9
      · cases hu
  exact body (p, l, e, rmd d mc ms, s, m, (av.map (rv G ad)).toArray, below, meth, c, MQ below (QC G (va_A (wl G ad n h) s.heap.size) ad n bt Q) ((av.map (rv G ad)).toArray) s mc ms (va_A (wl G ad n h) s.heap.size), va_A (wl G ad n h) s.heap.size, ad, n, bt)
    ⟨B.exec, B.bytes, by rw [← hown]; exact findClass_of_methodNamed B.named, hts, hK, fun q hq => Or.inr hq, B.notSynchronized, hRO, hNW⟩ rfl B.returns (name_of_methodNamed B.named B.method).1 rfl rfl rfl
    ad s.heap [] lr ⟨hP, hD, va_S.rf, hok, hsh, Nat.le_refl _, fun _ _ => rfl⟩ hl (hml.trans hlen2.symm) (fun _ h => absurd h List.not_mem_nil)
