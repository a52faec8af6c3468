/-! things that are made -/
def nw (h : Hp) (n : Nat) (f : Nat → Int) : Hp := fun a k => if a = n then f k else h a k
def dfv (ci : Nat) (k : Nat) : Int := if (FT ci)[k]? = some 2 then -1 else 0
def adp (ad : Nat → Nat) (n q : Nat) : Nat → Nat := fun i => if i = n then q else ad i
theorem adp_lt {ad : Nat → Nat} {n q : Nat} : ∀ i, i < n → adp ad n q i = ad i := fun i hi => by
  unfold adp
  rw [if_neg (by omega)]
theorem fv_ext {ad ad' : Nat → Nat} {n t : Nat} {x : Int} (h : ∀ i, i < n → ad' i = ad i) (hx : okf n t x) : fv ad' t x = fv ad t x := by
  match t, hx with
  | 0, _ => rfl
  | 1, _ => rfl
  | 2, hx =>
    have hx : x < n := hx
    show rf ad' x = rf ad x
    unfold rf
    by_cases h0 : x < 0
    · rw [if_pos h0, if_pos h0]
    · rw [if_neg h0, if_neg h0, h _ (by omega)]
  | t + 3, _ => rfl
theorem encV_ext {G : GD} {ad ad' : Nat → Nat} {n : Nat} {h h' : Hp} {i : Nat} (hi : okc n h i) (ha : ∀ j, j < n → ad' j = ad j) (hh : ∀ k, h' i k = h i k) : encV G ad' h' i = encV G ad h i := by
  unfold encV
  unfold okc at hi
  by_cases hc : (LAY i).1 < 10
  · rw [if_pos hc] at hi
    rw [if_pos hc, if_pos hc]
    congr 2
    apply List.ext_getElem?
    intro k
    rw [List.getElem?_mapIdx, List.getElem?_mapIdx]
    cases ht : (FT (LAY i).1)[k]? with
    | none => rfl
    | some t =>
      show some (fv ad' t (h' i k)) = some (fv ad t (h i k))
      rw [hh, fv_ext ha (hi k t ht)]
  · rw [if_neg hc, if_neg hc]
    simp only [hh]
theorem wl_push {G : GD} {ad : Nat → Nat} {n q : Nat} {h : Hp} {f : Nat → Int} (hok : okh n h) : wl G (adp ad n q) (n + 1) (nw h n f) = wl G ad n h ++ [(q, encV G (adp ad n q) (nw h n f) n)] := by
  unfold wl
  rw [List.range_succ, List.map_append]
  congr 1
  · apply List.map_congr_left
    intro i hi
    have hi : i < n := List.mem_range.mp hi
    unfold encE
    rw [encV_ext (hok i hi) adp_lt (fun k => by unfold nw; rw [if_neg (by omega)]), adp_lt i hi]
  · show [(adp ad n q n, _)] = _
    have : adp ad n q n = q := by unfold adp; rw [if_pos rfl]
    rw [this]
theorem okf_mono {n n' t : Nat} {x : Int} (h : n ≤ n') (hx : okf n t x) : okf n' t x := by
  match t, hx with
  | 0, hx => exact hx
  | 1, hx => exact hx
  | 2, hx =>
    have hx : x < n := hx
    show x < (n' : Int)
    omega
  | t + 3, hx => exact hx
theorem okh_push {n : Nat} {h : Hp} {f : Nat → Int} (hok : okh n h) (hf : okc (n + 1) (nw h n f) n) : okh (n + 1) (nw h n f) := by
  intro i hi
  by_cases hin : i = n
  · subst hin; exact hf
  · have h1 := hok i (by omega)
    have e : ∀ k, nw h n f i k = h i k := fun k => by unfold nw; rw [if_neg hin]
    unfold okc at h1 ⊢
    by_cases hc : (LAY i).1 < 10
    · rw [if_pos hc] at h1 ⊢
      intro k t ht
      rw [e]
      exact okf_mono (Nat.le_succ _) (h1 k t ht)
    · rw [if_neg hc] at h1 ⊢
      intro j hj
      rw [e]
      exact h1 j hj
theorem okc_arr0 {n : Nat} {h : Hp} {kd len : Nat} (hL : LAY n = (kd, len)) (hk : 10 ≤ kd) : okc (n + 1) (nw h n (fun _ => 0)) n := by
  unfold okc
  rw [hL, if_neg (by omega)]
  intro j hj
  have e : nw h n (fun _ => 0) n j = 0 := by unfold nw; rw [if_pos rfl]
  rw [e]
  show oke kd 0
  unfold oke
  split
  · exact ⟨by decide, by decide⟩
  · exact ⟨by decide, by decide⟩
  · exact Or.inl rfl
  · exact ⟨by decide, by decide⟩
theorem okc_obj0 {n : Nat} {h : Hp} {ci nf : Nat} (hL : LAY n = (ci, nf)) (hk : ci < 10) : okc (n + 1) (nw h n (dfv ci)) n := by
  unfold okc
  rw [hL, if_pos hk]
  intro k t ht
  have e : nw h n (dfv ci) n k = dfv ci k := by unfold nw; rw [if_pos rfl]
  rw [e]
  unfold dfv
  rw [ht]
  by_cases h2 : t = 2
  · subst h2
    rw [if_pos rfl]
    show (-1 : Int) < _
    omega
  · rw [if_neg (fun q => h2 (Option.some.inj q))]
    unfold okf
    split
    · exact ⟨by decide, by decide⟩
    · exact ⟨by decide, by decide⟩
    · exact absurd rfl h2
    · exact Or.inl rfl
theorem lvh_ext {G : GD} {ad ad' : Nat → Nat} {n n' : Nat} {ls : List Av} {lr : Array Slot} (ha : ∀ i, i < n → ad' i = ad i) (hn : n ≤ n') (hl : lvh G ad n ls lr) : lvh G ad' n' ls lr := by
  refine ⟨hl.1, hl.2.1, fun k w hw h9 => ?_⟩
  obtain ⟨a1, a2⟩ := hl.2.2 k w hw h9
  rw [rv_ext ha a2]
  exact ⟨a1, okv_mono hn a2⟩
def atk (atype : ArrayType) : Nat := match newarray.typeOf atype with
  | .int => 10
  | .byte => 11
  | .boolean => 12
  | _ => 13
theorem i32_nneg {len : Nat} (h : in32 (len : Int)) : ¬ Int32.ofInt (len : Int) < 0 := by
  rw [Int32.lt_iff_toInt_lt, i32_of h]
  show ¬ (len : Int) < 0
  omega
theorem i32_cl {len : Nat} (h : in32 (len : Int)) : (Int32.ofInt (len : Int)).toNatClampNeg = len := by
  rw [i32_clamp h]
  rfl
section News
variable {G : GD} {X : CX} {own : String} {cc : ByteArray} {pc : Nat} {ls sk : List Av} {n : Nat} {h : Hp} {cs ss : Nat}
theorem aw_made {ad : Nat → Nat} {H H1 : Heap} {locs : List Loc} {lr : Array Slot} {q : Nat} {f : Nat → Int} {E : va_E} {pc' cs' ss' : Nat} (hR : Rp G X ad n h H locs) (hl : lvh G ad n ls lr) (hm : X.c.maxLocals = ls.length) (hs : ∀ v ∈ sk, okv n v) (hE : E = encV G (adp ad n q) (nw h n f) n) (hf : okc (n + 1) (nw h n f) n) (hsh : X.bt = true → ShN n h → ShN (n + 1) (nw h n f))
    (hP : va_P G.1 vwCl (wl G ad n h ++ [(q, E)]) H1) (hD : va_D X.A (wl G ad n h ++ [(q, E)])) (hS : va_S X.A X.s.heap H1 locs) (kk : AW G X pc' ls ((2, (n : Int)) :: sk) (n + 1) (nw h n f) cs' ss') : W X.p X.l X.e X.R X.s X.m X.args X.below X.meth X.c H1 locs cs' ss' X.Z (F0 X.m pc' lr (.ref q :: sk.map (rv G ad))) := by
  subst hE
  rw [← wl_push hR.2.2.2.1] at hP hD
  have hR' : Rp G X (adp ad n q) (n + 1) (nw h n f) H1 locs := ⟨hP, hD, hS, okh_push hR.2.2.2.1 hf, fun z => hsh z (hR.2.2.2.2.1 z), Nat.le_trans hR.2.2.2.2.2.1 (Nat.le_succ _), fun i hi => by
    rw [adp_lt i (Nat.lt_of_lt_of_le hi hR.2.2.2.2.2.1)]
    exact hR.2.2.2.2.2.2 i hi⟩
  have hk := kk (adp ad n q) H1 locs lr hR' (lvh_ext adp_lt (Nat.le_succ _) hl) hm (okp (fun v hv => okv_mono (Nat.le_succ _) (hs v hv)) (show (n : Int) < ((n + 1 : Nat) : Int) by omega))
  have e2 : rv G (adp ad n q) (2, (n : Int)) = .ref q := by
    rw [rv_at]
    unfold adp
    rw [if_pos rfl]
  have e3 : sk.map (rv G (adp ad n q)) = sk.map (rv G ad) := List.map_congr_left (fun w hw => rv_ext adp_lt (hs w hw))
  rw [List.map_cons, e2, e3] at hk
  exact hk
theorem ra_int {cA cB : ClassId} {s : State} (h1 : va_RA s cA .int) (h2 : va_RA s cB .int) : cA = cB := Option.some.inj (Eq.trans (Eq.symm (show s.vm.findClass ("[" ++ FieldType.int.toString) = some cA from h1)) h2)
theorem ra_byte {cA cB : ClassId} {s : State} (h1 : va_RA s cA .byte) (h2 : va_RA s cB .byte) : cA = cB := Option.some.inj (Eq.trans (Eq.symm (show s.vm.findClass ("[" ++ FieldType.byte.toString) = some cA from h1)) h2)
theorem ra_bool {cA cB : ClassId} {s : State} (h1 : va_RA s cA .boolean) (h2 : va_RA s cB .boolean) : cA = cB := Option.some.inj (Eq.trans (Eq.symm (show s.vm.findClass ("[" ++ FieldType.boolean.toString) = some cA from h1)) h2)
theorem ra_long {cA cB : ClassId} {s : State} (h1 : va_RA s cA .long) (h2 : va_RA s cB .long) : cA = cB := Option.some.inj (Eq.trans (Eq.symm (show s.vm.findClass ("[" ++ FieldType.long.toString) = some cA from h1)) h2)
theorem aw_newi {len : Nat} (hC : Cx G X own cc) (hd : decode cc pc = .ok (.newarray .int, 2)) (harr : Cond.arrayClass .int ∈ TB) (hL : LAY n = (10, len)) (hlen : in32 (len : Int)) (hb : len * 4 ≤ 536870912) (hc : cs + 1 ≤ X.R.cells) (hs9 : ss + len ≤ X.R.slots) (hsh : X.bt = true → ShN n h → ShN (n + 1) (nw h n (fun _ => 0)))
    (kk : AW G X (pc + 2) ls ((2, (n : Int)) :: sk) (n + 1) (nw h n (fun _ => 0)) (cs + 1) (ss + len)) : AW G X pc ls ((0, (len : Int)) :: sk) n h cs ss := by
  intro ad H locs lr hR hl hm hs
  refine va_newa hC.1 hC.2.1 (atype := .int) (hC.2.2.2.1 _ harr) (ty := .int) rfl hC.2.2.2.2.1 hR.1 hR.2.1 hR.2.2.1 hC.2.2.2.2.2.1 (N' := len) (a0 := (len, .inl (fun j => Int32.ofInt (nw h n (fun _ => 0) n j)))) (fun cA => ?_) (i32_nneg hlen) (i32_cl hlen) hb hc hs9 hd (fun q cA H1 hK hP hD hS => ?_)
  · have e : (fun j => (Value.int (Int32.ofInt (nw h n (fun _ => 0) n j)))) = (fun _ => defaultValue .int) := by
      funext j
      unfold nw
      rw [if_pos rfl]
      rfl
    show arrV cA len (fun j => Value.int (Int32.ofInt (nw h n (fun _ => 0) n j))) = _
    rw [e]
  · have ec : cA = G.2.1 0 := ra_int (hK.2 4 _ rfl).2 (hC.2.2.2.2.1.2 0 _ rfl).2
    subst ec
    exact aw_made hR hl hm (ok1 hs) (by rw [encV_arr hL (by decide) (by decide)]) (okc_arr0 hL (by decide)) hsh hP hD hS kk
theorem aw_newb {len : Nat} (hC : Cx G X own cc) (hd : decode cc pc = .ok (.newarray .byte, 2)) (harr : Cond.arrayClass .byte ∈ TB) (hL : LAY n = (11, len)) (hlen : in32 (len : Int)) (hb : len * 1 ≤ 536870912) (hc : cs + 1 ≤ X.R.cells) (hs9 : ss + len ≤ X.R.slots) (hsh : X.bt = true → ShN n h → ShN (n + 1) (nw h n (fun _ => 0)))
    (kk : AW G X (pc + 2) ls ((2, (n : Int)) :: sk) (n + 1) (nw h n (fun _ => 0)) (cs + 1) (ss + len)) : AW G X pc ls ((0, (len : Int)) :: sk) n h cs ss := by
  intro ad H locs lr hR hl hm hs
  refine va_newa hC.1 hC.2.1 (atype := .byte) (hC.2.2.2.1 _ harr) (ty := .byte) rfl hC.2.2.2.2.1 hR.1 hR.2.1 hR.2.2.1 hC.2.2.2.2.2.1 (N' := len) (a0 := (len, .inl (fun j => Int32.ofInt (nw h n (fun _ => 0) n j)))) (fun cA => ?_) (i32_nneg hlen) (i32_cl hlen) hb hc hs9 hd (fun q cA H1 hK hP hD hS => ?_)
  · have e : (fun j => (Value.int (Int32.ofInt (nw h n (fun _ => 0) n j)))) = (fun _ => defaultValue .byte) := by
      funext j
      unfold nw
      rw [if_pos rfl]
      rfl
    show arrV cA len (fun j => Value.int (Int32.ofInt (nw h n (fun _ => 0) n j))) = _
    rw [e]
  · have ec : cA = G.2.1 1 := ra_byte (hK.2 4 _ rfl).2 (hC.2.2.2.2.1.2 1 _ rfl).2
    subst ec
    exact aw_made hR hl hm (ok1 hs) (by rw [encV_arr hL (by decide) (by decide)]) (okc_arr0 hL (by decide)) hsh hP hD hS kk
theorem aw_newz {len : Nat} (hC : Cx G X own cc) (hd : decode cc pc = .ok (.newarray .boolean, 2)) (harr : Cond.arrayClass .boolean ∈ TB) (hL : LAY n = (12, len)) (hlen : in32 (len : Int)) (hb : len * 1 ≤ 536870912) (hc : cs + 1 ≤ X.R.cells) (hs9 : ss + len ≤ X.R.slots) (hsh : X.bt = true → ShN n h → ShN (n + 1) (nw h n (fun _ => 0)))
    (kk : AW G X (pc + 2) ls ((2, (n : Int)) :: sk) (n + 1) (nw h n (fun _ => 0)) (cs + 1) (ss + len)) : AW G X pc ls ((0, (len : Int)) :: sk) n h cs ss := by
  intro ad H locs lr hR hl hm hs
  refine va_newa hC.1 hC.2.1 (atype := .boolean) (hC.2.2.2.1 _ harr) (ty := .boolean) rfl hC.2.2.2.2.1 hR.1 hR.2.1 hR.2.2.1 hC.2.2.2.2.2.1 (N' := len) (a0 := (len, .inl (fun j => Int32.ofInt (nw h n (fun _ => 0) n j)))) (fun cA => ?_) (i32_nneg hlen) (i32_cl hlen) hb hc hs9 hd (fun q cA H1 hK hP hD hS => ?_)
  · have e : (fun j => (Value.int (Int32.ofInt (nw h n (fun _ => 0) n j)))) = (fun _ => defaultValue .boolean) := by
      funext j
      unfold nw
      rw [if_pos rfl]
      rfl
    show arrV cA len (fun j => Value.int (Int32.ofInt (nw h n (fun _ => 0) n j))) = _
    rw [e]
  · have ec : cA = G.2.1 2 := ra_bool (hK.2 4 _ rfl).2 (hC.2.2.2.2.1.2 2 _ rfl).2
    subst ec
    exact aw_made hR hl hm (ok1 hs) (by rw [encV_arr hL (by decide) (by decide)]) (okc_arr0 hL (by decide)) hsh hP hD hS kk
theorem aw_newl {len : Nat} (hC : Cx G X own cc) (hd : decode cc pc = .ok (.newarray .long, 2)) (harr : Cond.arrayClass .long ∈ TB) (hL : LAY n = (13, len)) (hlen : in32 (len : Int)) (hb : len * 8 ≤ 536870912) (hc : cs + 1 ≤ X.R.cells) (hs9 : ss + len ≤ X.R.slots) (hsh : X.bt = true → ShN n h → ShN (n + 1) (nw h n (fun _ => 0)))
    (kk : AW G X (pc + 2) ls ((2, (n : Int)) :: sk) (n + 1) (nw h n (fun _ => 0)) (cs + 1) (ss + len)) : AW G X pc ls ((0, (len : Int)) :: sk) n h cs ss := by
  intro ad H locs lr hR hl hm hs
  refine va_newa hC.1 hC.2.1 (atype := .long) (hC.2.2.2.1 _ harr) (ty := .long) rfl hC.2.2.2.2.1 hR.1 hR.2.1 hR.2.2.1 hC.2.2.2.2.2.1 (N' := len) (a0 := (len, .inr (.inl (fun j => Int64.ofInt (nw h n (fun _ => 0) n j))))) (fun cA => ?_) (i32_nneg hlen) (i32_cl hlen) hb hc hs9 hd (fun q cA H1 hK hP hD hS => ?_)
  · have e : (fun j => (Value.long (Int64.ofInt (nw h n (fun _ => 0) n j)))) = (fun _ => defaultValue .long) := by
      funext j
      unfold nw
      rw [if_pos rfl]
      rfl
    show arrV cA len (fun j => Value.long (Int64.ofInt (nw h n (fun _ => 0) n j))) = _
    rw [e]
  · have ec : cA = G.2.1 3 := ra_long (hK.2 4 _ rfl).2 (hC.2.2.2.2.1.2 3 _ rfl).2
    subst ec
    exact aw_made hR hl hm (ok1 hs) (by rw [encV_arrL hL]) (okc_arr0 hL (by decide)) hsh hP hD hS kk
theorem aw_new {C : String} {T : u_T} {N ci idx : Nat} {ty : Nat → FieldType} (hin : ∀ w ∈ u_ws C T N, w ∈ TB) (hty : ∀ k, k < N → parseFieldDescriptor (T k).2.2.1 = some (ty k)) (hcl : vwCl[ci]? = some (C, T, N)) (hci : ci < 10) (hC : Cx G X own cc) (hd : decode cc pc = .ok (.new idx, 3)) (hlk : Cond.classLink own idx C ∈ TB) (hinst : Cond.instantiable C N ∈ TB) (hini : Cond.initialized C ∈ TB) (hL : LAY n = (ci, N)) (hN : (FT ci).length = N)
    (hdv : ∀ (ad : Nat → Nat) (j : Nat), j < N → defaultValue (ty j) = fv ad ((FT ci).getD j 0) (dfv ci j)) (hc : cs + 1 ≤ X.R.cells) (hs9 : ss + N ≤ X.R.slots) (hsh : X.bt = true → ShN n h → ShN (n + 1) (nw h n (dfv ci)))
    (kk : AW G X (pc + 3) ls ((2, (n : Int)) :: sk) (n + 1) (nw h n (dfv ci)) (cs + 1) (ss + N)) : AW G X pc ls sk n h cs ss := by
  intro ad H locs lr hR hl hm hs
  refine va_new (fs := (FT ci).mapIdx (fun k t => fv ad t (dfv ci k))) hC.1 hC.2.1 hC.2.2.2.1 hin ty hty hC.2.2.1 (hC.2.2.2.1 _ hlk) (hC.2.2.2.1 _ hinst) (hC.2.2.2.1 _ hini) hC.2.2.2.2.1 hR.1 hR.2.1 hR.2.2.1 hC.2.2.2.2.2.1 hcl (fun j hj => ?_) hc hs9 hd (fun q H1 hP hD hS => ?_)
  · rw [hdv ad j hj]
    unfold vp_V
    simp only [List.getD_eq_getElem?_getD, List.getElem?_mapIdx]
    rw [List.getElem?_eq_getElem (by omega)]
    rfl
  · refine aw_made hR hl hm hs ?_ (okc_obj0 hL hci) hsh hP hD hS kk
    rw [encV_obj hL hci]
    congr 2
    apply List.ext_getElem?
    intro k
    rw [List.getElem?_mapIdx, List.getElem?_mapIdx]
    cases ht : (FT ci)[k]? with
    | none => rfl
    | some t =>
      show some (fv ad t (dfv ci k)) = some (fv (adp ad n q) t (nw h n (dfv ci) n k))
      have e : nw h n (dfv ci) n k = dfv ci k := by unfold nw; rw [if_pos rfl]
      rw [e]
      unfold dfv
      rw [ht]
      by_cases h2 : t = 2
      · subst h2
        rw [if_pos rfl]
        rfl
      · rw [if_neg (fun q => h2 (Option.some.inj q))]
        match t, h2 with
        | 0, _ => rfl
        | 1, _ => rfl
        | t + 3, _ => rfl
theorem aw_oinit {idx : Nat} {d mc ms a : Nat} (hC : Cx G X own cc) (hd : decode cc pc = .ok (.invokespecial idx, 3)) (hlink : Cond.methodLink own idx Lib.objectInit ∈ TB) (hinst : Cond.instanceMethod Lib.objectInit ∈ TB) (hcode : Cond.code Lib.objectInit ⟨#[0xb1]⟩ 1 none ∈ TB) (hRm : X.R = rmd d mc ms) (hd1 : 1 ≤ d) (hcat : (sk.map (fun v => if v.1 = 1 then 2 else 1)).sum ≤ 8)
    (kk : AW G X (pc + 3) ls sk n h cs ss) : AW G X pc ls ((2, (a : Int)) :: sk) n h cs ss := by
  intro ad H locs lr hR hl hm hs
  have hk := kk ad H locs lr hR hl hm (ok1 hs)
  have hcatR : ((sk.map (rv G ad)).map fun v => v.category).sum ≤ 8 := by
    rw [List.map_map, show ((fun v => Value.category v) ∘ rv G ad) = (fun v : Av => if v.1 = 1 then 2 else 1) from funext (fun v => rv_cat G ad v)]
    exact hcat
  rw [List.map_cons, rv_at]
  refine W.objInit hC.1 hC.2.1 hC.2.2.1 (hC.2.2.2.1 _ hlink) (hC.2.2.2.1 _ hinst) (hC.2.2.2.1 _ hcode) (g := F0 X.m pc lr (.ref (ad a) :: sk.map (rv G ad))) rfl (hl.1.trans hm.symm) rfl hd ?_ ?_ hk
  · rw [hRm]; exact hd1
  · rw [hRm]
    show _ ≤ 40 * d
    have h9 : 2 * (F0 X.m pc lr (.ref (ad a) :: sk.map (rv G ad))).monitorRoom + ((sk.map (rv G ad)).map fun v => v.category).sum ≤ 8 := lv_room hcatR
    omega
variable {y : MethodName} {b : ByteArray} {mL : Nat} {d mc ms d' mc' ms' idx a : Nat} {av : List Av} {Q' : Av → Nat → Hp → Prop}
theorem aw_callI (hC : Cx G X own cc) (hRm : X.R = rmd d mc ms) (hd : decode cc pc = .ok (.invokespecial idx, 3)) (hyn : y.name = "<init>")
    (hw : ∀ w ∈ ([.methodLink own idx y, .instanceMethod y, .initialized y.cls, .code y b mL none] : List Cond), w ∈ TB) (hdesc : y.cls ≠ "java/lang/invoke/MethodHandle" ∧ y.cls ≠ "java/lang/invoke/VarHandle" ∧ (parseMethodDescriptor y.desc).map (fun d => d.parameters.length) = some av.length)
    (hdd : d' + 1 ≤ d) (hmL : mL ≤ 21) (hcm : cs + mc' ≤ mc) (hsm : ss + ms' ≤ ms) (hcat : (sk.map (fun v => if v.1 = 1 then 2 else 1)).sum ≤ 8)
    (hM : Con G y b mL none d' mc' ms' X.bt ((2, (a : Int)) :: av) n h Q')
    (kk : ∀ v n' h', n ≤ n' → Q' v n' h' → AW G X (pc + 3) ls (pushv v sk) n' h' (cs + mc') (ss + ms')) : AW G X pc ls (av.reverse ++ (2, (a : Int)) :: sk) n h cs ss := by
  intro ad H locs lr hR hl hm hs
  have hs1 : ∀ v ∈ sk, okv n v := fun v hv => hs v (List.mem_append_right _ (List.mem_cons_of_mem _ hv))
  have hav : ∀ v ∈ (2, (a : Int)) :: av, okv n v := fun v hv => by
    rcases List.mem_cons.mp hv with e | hv
    · rw [e]; exact hs _ (List.mem_append_right _ List.mem_cons_self)
    · exact hs v (List.mem_append_left _ (List.mem_reverse.mpr hv))
  have hMm := hM X.l ad H.size hR.2.2.2.1 hR.2.2.2.2.1 hav
  have hG : GoodIn TB (wsM y b mL none) := good_tb (fun w h1 => by
    rcases List.mem_cons.mp h1 with h1 | h1
    · apply hw; rw [h1]; simp
    · exact h1)
  have hcatR : ((sk.map (rv G ad)).map fun v => v.category).sum ≤ 8 := by
    rw [List.map_map, show ((fun v => Value.category v) ∘ rv G ad) = (fun v : Av => if v.1 = 1 then 2 else 1) from funext (fun v => rv_cat G ad v)]
    exact hcat
  rw [List.map_cons, rv_at] at hMm
  have hcc : Cond.code y b mL none ∈ wsM y b mL none := List.mem_cons_self
  have hcw : CallB X.R X.s X.args own idx y b mL none (wsM y b mL none) (rmd d' mc' ms') mc' ms' av.length := by
    refine ⟨rfl, rfl, ?_, ?_, pay_in hC.2.2.2.1 hG, hcc, hC.2.2.2.1 _ (hw _ (by simp)), hC.2.2.2.1 _ (hw _ (by simp)), ⟨hdesc.1, hdesc.2.1⟩, fun sig h => ?_, hC.2.2.2.1 _ (hw _ (by simp))⟩
    · rw [hRm]; exact hdd
    · rw [hRm]; show 8 + (mL + 11) + 40 * d' ≤ 40 * d; omega
    · have h2 := hdesc.2.2
      rw [h] at h2
      exact (Option.some.inj h2).symm
  refine aw_after hC hR hl hm hs1 (va_runI (As := av.map (rv G ad)) (b := ad a) ⟨hC.1, hC.2.1, rfl, hC.2.2.1, hC.2.2.2.1⟩ hMm ⟨hcw, hyn, hC.2.2.2.1 _ (hw _ (by simp))⟩ ⟨pc_blind, fun U hU hW => ⟨rfl, pc_here hC hR U hU hW⟩⟩ rfl (by rw [List.length_map]) (hl.1.trans hm.symm) ?_ (lv_room hcatR) hd ?_) kk
  · rw [List.map_append, List.map_reverse, List.map_cons, rv_at]
  · rw [hRm]; exact ⟨hcm, hsm⟩
theorem aw_callIN {host : String} (hC : Cx G X own cc) (hRm : X.R = rmd d mc ms) (hd : decode cc pc = .ok (.invokespecial idx, 3)) (hyn : y.name = "<init>") (hwn : Cond.methodLinkNest own idx y host ∈ TBN)
    (hw : ∀ w ∈ ([.instanceMethod y, .initialized y.cls, .code y b mL none] : List Cond), w ∈ TB) (hdesc : y.cls ≠ "java/lang/invoke/MethodHandle" ∧ y.cls ≠ "java/lang/invoke/VarHandle" ∧ (parseMethodDescriptor y.desc).map (fun d => d.parameters.length) = some av.length)
    (hdd : d' + 1 ≤ d) (hmL : mL ≤ 21) (hcm : cs + mc' ≤ mc) (hsm : ss + ms' ≤ ms) (hcat : (sk.map (fun v => if v.1 = 1 then 2 else 1)).sum ≤ 8)
    (hM : Con G y b mL none d' mc' ms' X.bt ((2, (a : Int)) :: av) n h Q')
    (kk : ∀ v n' h', n ≤ n' → Q' v n' h' → AW G X (pc + 3) ls (pushv v sk) n' h' (cs + mc') (ss + ms')) : AW G X pc ls (av.reverse ++ (2, (a : Int)) :: sk) n h cs ss := by
  intro ad H locs lr hR hl hm hs
  have hs1 : ∀ v ∈ sk, okv n v := fun v hv => hs v (List.mem_append_right _ (List.mem_cons_of_mem _ hv))
  have hav : ∀ v ∈ (2, (a : Int)) :: av, okv n v := fun v hv => by
    rcases List.mem_cons.mp hv with e | hv
    · rw [e]; exact hs _ (List.mem_append_right _ List.mem_cons_self)
    · exact hs v (List.mem_append_left _ (List.mem_reverse.mpr hv))
  have hMm := hM X.l ad H.size hR.2.2.2.1 hR.2.2.2.2.1 hav
  have hG : GoodIn TB (wsM y b mL none) := good_tb (fun w h1 => by
    rcases List.mem_cons.mp h1 with h1 | h1
    · apply hw; rw [h1]; simp
    · exact h1)
  have hcatR : ((sk.map (rv G ad)).map fun v => v.category).sum ≤ 8 := by
    rw [List.map_map, show ((fun v => Value.category v) ∘ rv G ad) = (fun v : Av => if v.1 = 1 then 2 else 1) from funext (fun v => rv_cat G ad v)]
    exact hcat
  rw [List.map_cons, rv_at] at hMm
  have hl9 : va_Nw (.methodLinkNest own idx y host) X.s := hC.nw.1 _ hwn
  refine aw_after hC hR hl hm hs1 (va_runIN (As := av.map (rv G ad)) (b := ad a) (host := host) ⟨hC.1, hC.2.1, rfl, hC.2.2.1, hC.2.2.2.1⟩ hMm ⟨va_cnB av.length hC.2.2.2.1 hG rfl rfl rfl hl9 (hC.2.2.2.1 _ (hw _ (by simp))) hdesc ?_, hyn, hC.2.2.2.1 _ (hw _ (by simp))⟩ ⟨pc_blind, fun U hU hW => ⟨rfl, pc_here hC hR U hU hW⟩⟩ rfl (by rw [List.length_map]) (hl.1.trans hm.symm) ?_ (lv_room hcatR) hd ?_) kk
  · rw [hRm]; exact ⟨hdd, by show 8 + (mL + 11) + 40 * d' ≤ 40 * d; omega⟩
  · rw [List.map_append, List.map_reverse, List.map_cons, rv_at]
  · rw [hRm]; exact ⟨hcm, hsm⟩
end News
theorem dv0 : ∀ (ad : Nat → Nat) (j : Nat), j < 7 → defaultValue (tyX0 j) = fv ad ((FT 0).getD j 0) (dfv 0 j) := fun ad j hj => by
  revert ad; revert j; intro j hj ad
  rcases j with _ | _ | _ | _ | _ | _ | _ | j <;> first | rfl | (exfalso; omega)
