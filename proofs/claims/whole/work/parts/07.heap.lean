theorem tb_all {ws : List Cond} (ps : List Nat) (h : ws = ps.filterMap (fun i => lw_tbl[i]?)) (g : ws.all goodWord = true) : ∀ w ∈ ws, w ∈ TB := by
  intro w hw
  have h1 := List.all_eq_true.mp g w hw
  rw [h] at hw
  obtain ⟨i, -, hi⟩ := List.mem_filterMap.mp hw
  exact tb_of i hi h1
set_option maxRecDepth 20000 in
theorem inT0 : ∀ w ∈ u_ws RX0 TX0 7, w ∈ TB := tb_all [347, 349, 351, 353, 355, 357, 359] (by decide +kernel) (by decide +kernel)
set_option maxRecDepth 20000 in
theorem inT1 : ∀ w ∈ u_ws RX1 TX1 12, w ∈ TB := tb_all [186, 188, 190, 192, 194, 196, 198, 200, 202, 204, 206, 208] (by decide +kernel) (by decide +kernel)
set_option maxRecDepth 20000 in
theorem inT2 : ∀ w ∈ u_ws RX2 TX2 17, w ∈ TB := tb_all [237, 239, 241, 243, 245, 247, 249, 251, 253, 255, 257, 259, 261, 263, 265, 267, 269] (by decide +kernel) (by decide +kernel)
set_option maxRecDepth 20000 in
theorem inT3 : ∀ w ∈ u_ws RX3 TX3 14, w ∈ TB := tb_all [299, 301, 303, 305, 307, 309, 311, 313, 315, 317, 319, 321, 323, 325] (by decide +kernel) (by decide +kernel)
set_option maxRecDepth 20000 in
theorem inT4 : ∀ w ∈ u_ws RX4 TX4 5, w ∈ TB := tb_all [375, 377, 379, 381, 383] (by decide +kernel) (by decide +kernel)
set_option maxRecDepth 20000 in
theorem inT5 : ∀ w ∈ u_ws RX5 TX5 16, w ∈ TB := tb_all [409, 411, 413, 415, 417, 419, 421, 423, 425, 427, 429, 431, 433, 435, 437, 439] (by decide +kernel) (by decide +kernel)
set_option maxRecDepth 20000 in
theorem inT6 : ∀ w ∈ u_ws RX6 TX6 74, w ∈ TB := tb_all [1289, 1291, 1293, 1295, 1297, 1299, 1301, 1303, 1305, 1307, 1309, 1311, 1313, 1315, 1317, 1319, 1321, 1323, 1325, 1327, 1329, 1331, 1333, 1335, 1337, 1339, 1341, 1343, 1345, 1347, 1349, 1351, 1353, 1355, 1357, 1359, 1361, 1363, 1365, 1367, 1369, 1371, 1373, 1375, 1377, 1379, 1381, 1383, 1385, 1387, 1389, 1391, 1393, 1395, 1397, 1399, 1401, 1403, 1405, 1407, 1409, 1411, 1413, 1415, 1417, 1419, 1421, 1423, 1425, 1427, 1429, 1431, 1433, 1435] (by decide +kernel) (by decide +kernel)
def tg (t : Nat) : Nat := match t with
  | 0 => 0
  | 1 => 1
  | 2 => 2
  | _ => 0
theorem fv_rv (G : GD) (ad : Nat → Nat) (t : Nat) (x : Int) : fv ad t x = rv G ad (tg t, x) := by
  match t with
  | 0 => rfl
  | 1 => rfl
  | 2 => rfl
  | t + 3 => rfl
theorem okv_f {n t : Nat} {x : Int} (h : okf n t x) : okv n (tg t, x) := by
  match t, h with
  | 0, h => exact h
  | 1, h => exact h
  | 2, h => exact h
  | t + 3, h =>
    have h : x = 0 ∨ x = 1 := h
    show in32 x
    rcases h with rfl | rfl <;> decide
theorem rv_at (G : GD) (ad : Nat → Nat) (a : Nat) : rv G ad (2, (a : Int)) = .ref (ad a) := by
  show rf ad _ = _
  unfold rf
  rw [if_neg (by omega)]
  rfl
theorem Rp.lt {G : GD} {X : CX} {ad : Nat → Nat} {n : Nat} {h : Hp} {H : Heap} {locs : List Loc} (hR : Rp G X ad n h H locs) {a : Nat} (ha : (X.bt = true ∧ a < 69) ∨ a < n) : a < n := ha.elim (fun q => Nat.lt_of_lt_of_le q.2 (hR.2.2.2.2.1 q.1).2.1) id
theorem Rp.okf {G : GD} {X : CX} {ad : Nat → Nat} {n : Nat} {h : Hp} {H : Heap} {locs : List Loc} (hR : Rp G X ad n h H locs) {a ci nf k t : Nat} (ha : a < n) (hL : LAY a = (ci, nf)) (hc : ci < 10) (ht : (FT ci)[k]? = some t) : okf n t (h a k) := by
  have h1 := hR.2.2.2.1 a ha
  unfold okc at h1
  rw [hL, if_pos hc] at h1
  exact h1 k t ht
theorem Rp.oke {G : GD} {X : CX} {ad : Nat → Nat} {n : Nat} {h : Hp} {H : Heap} {locs : List Loc} (hR : Rp G X ad n h H locs) {a kd len j : Nat} (ha : a < n) (hL : LAY a = (kd, len)) (hc : 10 ≤ kd) (hj : j < len) : oke kd (h a j) := by
  have h1 := hR.2.2.2.1 a ha
  unfold okc at h1
  rw [hL, if_neg (by omega)] at h1
  exact h1 j hj
theorem aw_get {G : GD} {X : CX} {own : String} {cc : ByteArray} {pc : Nat} {ls sk : List Av} {n : Nat} {h : Hp} {cs ss : Nat} {C : String} {T : u_T} {N ci nf idx k t a : Nat} {x : Int} (hin : ∀ w ∈ u_ws C T N, w ∈ TB) (hcl : vwCl[ci]? = some (C, T, N)) (hc : ci < 10) (hC : Cx G X own cc) (hd : decode cc pc = .ok (.getfield idx, 3)) (hlink : Cond.fieldLink own idx (T k).1 (T k).2.1 (T k).2.2.1 ∈ TB) (hk : k < N) (hx : x = (a : Int)) (hL : LAY a = (ci, nf)) (ht : (FT ci)[k]? = some t) (han : (X.bt = true ∧ a < 69) ∨ a < n) (kk : AW G X (pc + 3) ls ((tg t, h a k) :: sk) n h cs ss) : AW G X pc ls ((2, x) :: sk) n h cs ss := by
  intro ad H locs lr hR hl hm hs
  have ha := hR.lt han
  have hk' := kk ad H locs lr hR hl hm (okp (ok1 hs) (okv_f (hR.okf ha hL hc ht)))
  subst hx
  rw [List.map_cons, ← fv_rv] at hk'
  rw [List.map_cons, rv_at]
  exact va_get hC.1 hC.2.1 hC.2.2.2.1 hin hC.2.2.1 hC.2.2.2.2.1 hR.1 a (by rw [wl_get ha, encV_obj hL hc]) hcl k hk (hC.2.2.2.1 _ hlink) (fun _ h9 => h9) (fl_get ht) hd hk'
theorem aw_getN {G : GD} {X : CX} {own : String} {cc : ByteArray} {pc : Nat} {ls sk : List Av} {n : Nat} {h : Hp} {cs ss : Nat} {host : String} {C : String} {T : u_T} {N ci nf idx k t a : Nat} {x : Int} (hin : ∀ w ∈ u_ws C T N, w ∈ TB) (hcl : vwCl[ci]? = some (C, T, N)) (hc : ci < 10) (hC : Cx G X own cc) (hd : decode cc pc = .ok (.getfield idx, 3)) (hlink : Cond.fieldLinkNest own idx (T k).1 (T k).2.1 (T k).2.2.1 host ∈ TBN) (hk : k < N) (hx : x = (a : Int)) (hL : LAY a = (ci, nf)) (ht : (FT ci)[k]? = some t) (han : (X.bt = true ∧ a < 69) ∨ a < n) (kk : AW G X (pc + 3) ls ((tg t, h a k) :: sk) n h cs ss) : AW G X pc ls ((2, x) :: sk) n h cs ss := by
  intro ad H locs lr hR hl hm hs
  have ha := hR.lt han
  have hk' := kk ad H locs lr hR hl hm (okp (ok1 hs) (okv_f (hR.okf ha hL hc ht)))
  subst hx
  rw [List.map_cons, ← fv_rv] at hk'
  rw [List.map_cons, rv_at]
  exact va_getN hC.1 hC.2.1 hC.2.2.2.1 hin hC.2.2.1 hC.2.2.2.2.1 hR.1 a (by rw [wl_get ha, encV_obj hL hc]) hcl k hk (hC.nwF hlink) (fun _ h9 => h9) (fl_get ht) hd hk'
theorem okh_st {n : Nat} {h : Hp} {a ci nf k t : Nat} {v : Int} (ho : okh n h) (hL : LAY a = (ci, nf)) (hc : ci < 10) (ht : (FT ci)[k]? = some t) (hv : okf n t v) : okh n (st h a k v) := by
  intro i hi
  have h0 := ho i hi
  unfold okc at h0 ⊢
  by_cases hia : i = a
  · subst hia
    rw [hL, if_pos hc] at h0 ⊢
    intro k' t' ht'
    by_cases hk : k' = k
    · subst hk
      rw [ht] at ht'
      cases ht'
      simpa [st] using hv
    · simpa [st, hk] using h0 k' t' ht'
  · have e : ∀ q, st h a k v i q = h i q := fun q => by simp [st, hia]
    simpa only [e] using h0
theorem okh_sta {n : Nat} {h : Hp} {a kd len k : Nat} {v : Int} (ho : okh n h) (hL : LAY a = (kd, len)) (hc : 10 ≤ kd) (hv : oke kd v) : okh n (st h a k v) := by
  intro i hi
  have h0 := ho i hi
  unfold okc at h0 ⊢
  by_cases hia : i = a
  · subst hia
    rw [hL, if_neg (by omega)] at h0 ⊢
    intro j hj
    by_cases hk : j = k
    · subst hk
      simpa [st] using hv
    · simpa [st, hk] using h0 j hj
  · have e : ∀ q, st h a k v i q = h i q := fun q => by simp [st, hia]
    simpa only [e] using h0
theorem shape_st {h : Hp} {a k : Nat} {v : Int} (hs : Shape h) (hn : isSh a k = false) (h5 : ¬ (a = 0 ∧ k = 5)) : Shape (st h a k v) := by
  have hn := hn
  unfold isSh at hn
  rw [Bool.or_eq_false_iff] at hn
  have key : ∀ (L : List (Nat × Nat × Nat)), L.any (fun q => q.1 == a && q.2.1 == k) = false → ∀ q ∈ L, st h a k v q.1 q.2.1 = h q.1 q.2.1 := by
    intro L hL q hq
    have h1 := List.any_eq_false.mp hL q hq
    unfold st
    rw [if_neg]
    intro h2
    apply h1
    simp [h2.1, h2.2]
  refine ⟨fun q hq => by rw [key SHL hn.1 q hq]; exact hs.1 q hq, fun h69 q hq => ?_⟩
  rw [key SHK hn.2 q hq]
  refine hs.2 ?_ q hq
  have : st h a k v 0 5 = h 0 5 := by
    unfold st
    rw [if_neg (fun q => h5 ⟨q.1.symm, q.2.symm⟩)]
  rw [← this]
  exact h69
theorem shape_sta {h : Hp} {a kd len k : Nat} {v : Int} (hs : Shape h) (hL : LAY a = (kd, len)) (hc : 10 ≤ kd) : Shape (st h a k v) := by
  have hall : ∀ q ∈ SHL ++ SHK, (LAY q.1).1 < 10 := by decide +kernel
  have key : ∀ q ∈ SHL ++ SHK, st h a k v q.1 q.2.1 = h q.1 q.2.1 := by
    intro q hq
    have h1 := hall q hq
    unfold st
    rw [if_neg]
    rintro ⟨h2, -⟩
    rw [h2, hL] at h1
    exact absurd h1 (by simpa using hc)
  have h05 : st h a k v 0 5 = h 0 5 := by
    unfold st
    rw [if_neg]
    rintro ⟨h2, -⟩
    rw [← h2] at hL
    have h3 : (LAY 0).1 < 10 := by decide
    rw [hL] at h3
    exact absurd h3 (by simpa using hc)
  exact ⟨fun q hq => by rw [key q (List.mem_append_left _ hq)]; exact hs.1 q hq, fun h69 q hq => by rw [key q (List.mem_append_right _ hq)]; exact hs.2 (by rw [← h05]; exact h69) q hq⟩
theorem st05 {h : Hp} {a k : Nat} {v : Int} (h5 : ¬ (a = 0 ∧ k = 5)) : st h a k v 0 5 = h 0 5 := by
  unfold st
  rw [if_neg (fun q => h5 ⟨q.1.symm, q.2.symm⟩)]
theorem st05a {h : Hp} {a kd len k : Nat} {v : Int} (hL : LAY a = (kd, len)) (hc : 10 ≤ kd) : st h a k v 0 5 = h 0 5 := by
  refine st05 (fun q => ?_)
  rw [q.1] at hL
  have h3 : (LAY 0).1 < 10 := by decide
  rw [hL] at h3
  exact absurd h3 (by simpa using hc)
theorem shN_st {n : Nat} {h : Hp} {a k : Nat} {v : Int} (hs : ShN n h) (hn : isSh a k = false) (h5 : ¬ (a = 0 ∧ k = 5)) : ShN n (st h a k v) := ⟨shape_st hs.1 hn h5, hs.2.1, by rw [st05 h5]; exact hs.2.2⟩
theorem shN_sta {n : Nat} {h : Hp} {a kd len k : Nat} {v : Int} (hs : ShN n h) (hL : LAY a = (kd, len)) (hc : 10 ≤ kd) : ShN n (st h a k v) := ⟨shape_sta hs.1 hL hc, hs.2.1, by rw [st05a hL hc]; exact hs.2.2⟩
theorem pd_of {T : u_T} {N : Nat} {ty0 : Nat → FieldType} (hty : ∀ k, k < N → parseFieldDescriptor (T k).2.2.1 = some (ty0 k)) {k : Nat} (hk : k < N) : parseFieldDescriptor (T k).2.2.1 = some (ty0 k) := hty k hk
/-- a value fits the type of its field -/
def ftOK (t : Nat) (ty : FieldType) : Prop := match t with
  | 0 => ty = .int
  | 1 => ty = .long
  | 2 => (∃ c, ty = .object c) ∨ ∃ u, ty = .array u
  | _ => ty = .boolean
theorem ft_nar {ad : Nat → Nat} {n t : Nat} {ty : FieldType} {v : Int} (h : ftOK t ty) (hv : okf n t v) : narrow ty (fv ad t v) = fv ad t v ∧ fits ty (fv ad t v) = true := by
  match t, h, hv with
  | 0, h, hv => subst h; exact ⟨rfl, rfl⟩
  | 1, h, hv => subst h; exact ⟨rfl, rfl⟩
  | 2, h, hv =>
    have e : fv ad 2 v = rf ad v := rfl
    rw [e]
    unfold rf
    rcases h with ⟨c, rfl⟩ | ⟨u, rfl⟩ <;> split <;> exact ⟨rfl, rfl⟩
  | t + 3, h, hv =>
    have h : ty = .boolean := h
    subst h
    have hv : v = 0 ∨ v = 1 := hv
    show narrow .boolean (.int (Int32.ofInt v)) = .int (Int32.ofInt v) ∧ fits .boolean (.int (Int32.ofInt v)) = true
    rcases hv with rfl | rfl <;> exact ⟨by decide, by decide⟩
theorem aw_put {G : GD} {X : CX} {own : String} {cc : ByteArray} {pc : Nat} {ls sk : List Av} {n : Nat} {h : Hp} {cs ss : Nat} {C : String} {T : u_T} {N ci nf idx k t a : Nat} {x v : Int} {ty0 : Nat → FieldType} (hin : ∀ w ∈ u_ws C T N, w ∈ TB) (hcl : vwCl[ci]? = some (C, T, N)) (hc : ci < 10) (hty : ∀ k, k < N → parseFieldDescriptor (T k).2.2.1 = some (ty0 k)) (hnm : ∀ a, a < N → ∀ b, b < N → a ≠ b → (T a).2.1 ≠ (T b).2.1) (hC : Cx G X own cc) (hd : decode cc pc = .ok (.putfield idx, 3)) (hlink : Cond.fieldLink own idx (T k).1 (T k).2.1 (T k).2.2.1 ∈ TB) (hk : k < N) (hfin : (T k).2.2.2 = false) (hx : x = (a : Int)) (hL : LAY a = (ci, nf)) (ht : (FT ci)[k]? = some t) (hft : ftOK t (ty0 k)) (han : (X.bt = true ∧ a < 69) ∨ a < n) (hv : okv n (tg t, v) → okf n t v) (hsh : X.bt = true → isSh a k = false ∧ ¬ (a = 0 ∧ k = 5)) (kk : AW G X (pc + 3) ls sk n (st h a k v) cs ss) : AW G X pc ls ((tg t, v) :: (2, x) :: sk) n h cs ss := by
  intro ad H locs lr hR hl hm hs
  have ha := hR.lt han
  have hok := hv (okt hs)
  obtain ⟨hn1, hn2⟩ := ft_nar (ad := ad) hft hok
  subst hx
  rw [List.map_cons, List.map_cons, ← fv_rv, rv_at]
  refine va_put hC.1 hC.2.1 hC.2.2.2.1 hin ty0 hty hnm hC.2.2.1 hC.2.2.2.2.1 hR.1 hR.2.1 hR.2.2.1 a (by rw [wl_get ha, encV_obj hL hc]) hcl k hk (hC.2.2.2.1 _ hlink) (fun _ h9 => h9) hfin (hty k hk) hn1 hn2 (by rw [List.length_mapIdx]; exact (List.getElem?_eq_some_iff.mp ht).1) hd (fun H1 locs1 hP1 hD1 hS1 => ?_)
  rw [fl_set ht, show (Sum.inr (ci, (FT ci).mapIdx (fun k' t => fv ad t (st h a k v a k'))) : va_E) = encV G ad (st h a k v) a from (encV_obj hL hc).symm, wl_set ha (fun j hj => encV_ne hj)] at hP1 hD1
  exact kk ad H1 locs1 lr ⟨hP1, hD1, hS1, okh_st hR.2.2.2.1 hL hc ht hok, fun q => shN_st (hR.2.2.2.2.1 q) (hsh q).1 (hsh q).2, hR.2.2.2.2.2⟩ hl hm (ok1 (ok1 hs))
theorem aw_putN {G : GD} {X : CX} {own : String} {cc : ByteArray} {pc : Nat} {ls sk : List Av} {n : Nat} {h : Hp} {cs ss : Nat} {host : String} {C : String} {T : u_T} {N ci nf idx k t a : Nat} {x v : Int} {ty0 : Nat → FieldType} (hin : ∀ w ∈ u_ws C T N, w ∈ TB) (hcl : vwCl[ci]? = some (C, T, N)) (hc : ci < 10) (hty : ∀ k, k < N → parseFieldDescriptor (T k).2.2.1 = some (ty0 k)) (hnm : ∀ a, a < N → ∀ b, b < N → a ≠ b → (T a).2.1 ≠ (T b).2.1) (hC : Cx G X own cc) (hd : decode cc pc = .ok (.putfield idx, 3)) (hlink : Cond.fieldLinkNest own idx (T k).1 (T k).2.1 (T k).2.2.1 host ∈ TBN) (hk : k < N) (hfin : (T k).2.2.2 = false) (hx : x = (a : Int)) (hL : LAY a = (ci, nf)) (ht : (FT ci)[k]? = some t) (hft : ftOK t (ty0 k)) (han : (X.bt = true ∧ a < 69) ∨ a < n) (hv : okv n (tg t, v) → okf n t v) (hsh : X.bt = true → isSh a k = false ∧ ¬ (a = 0 ∧ k = 5)) (kk : AW G X (pc + 3) ls sk n (st h a k v) cs ss) : AW G X pc ls ((tg t, v) :: (2, x) :: sk) n h cs ss := by
  intro ad H locs lr hR hl hm hs
  have ha := hR.lt han
  have hok := hv (okt hs)
  obtain ⟨hn1, hn2⟩ := ft_nar (ad := ad) hft hok
  subst hx
  rw [List.map_cons, List.map_cons, ← fv_rv, rv_at]
  refine va_putN hC.1 hC.2.1 hC.2.2.2.1 hin ty0 hty hnm hC.2.2.1 hC.2.2.2.2.1 hR.1 hR.2.1 hR.2.2.1 a (by rw [wl_get ha, encV_obj hL hc]) hcl k hk (hC.nwF hlink) (fun _ h9 => h9) hfin (hty k hk) hn1 hn2 (by rw [List.length_mapIdx]; exact (List.getElem?_eq_some_iff.mp ht).1) hd (fun H1 locs1 hP1 hD1 hS1 => ?_)
  rw [fl_set ht, show (Sum.inr (ci, (FT ci).mapIdx (fun k' t => fv ad t (st h a k v a k'))) : va_E) = encV G ad (st h a k v) a from (encV_obj hL hc).symm, wl_set ha (fun j hj => encV_ne hj)] at hP1 hD1
  exact kk ad H1 locs1 lr ⟨hP1, hD1, hS1, okh_st hR.2.2.2.1 hL hc ht hok, fun q => shN_st (hR.2.2.2.2.1 q) (hsh q).1 (hsh q).2, hR.2.2.2.2.2⟩ hl hm (ok1 (ok1 hs))
theorem aw_putF {G : GD} {X : CX} {own : String} {cc : ByteArray} {pc : Nat} {ls sk : List Av} {n : Nat} {h : Hp} {cs ss : Nat} {C : String} {T : u_T} {N ci nf idx k t a : Nat} {x v : Int} {ty0 : Nat → FieldType} (hin : ∀ w ∈ u_ws C T N, w ∈ TB) (hcl : vwCl[ci]? = some (C, T, N)) (hc : ci < 10) (hty : ∀ k, k < N → parseFieldDescriptor (T k).2.2.1 = some (ty0 k)) (hnm : ∀ a, a < N → ∀ b, b < N → a ≠ b → (T a).2.1 ≠ (T b).2.1) (hC : Cx G X own cc) (hd : decode cc pc = .ok (.putfield idx, 3)) (hlink : Cond.fieldLink own idx (T k).1 (T k).2.1 (T k).2.2.1 ∈ TB) (hk : k < N) (hfin : (T k).2.2.2 = true) (hin2 : X.meth.name = "<init>") (hdecl : (T k).1 = own) (hx : x = (a : Int)) (hL : LAY a = (ci, nf)) (ht : (FT ci)[k]? = some t) (hft : ftOK t (ty0 k)) (han : (X.bt = true ∧ a < 69) ∨ a < n) (hv : okv n (tg t, v) → okf n t v) (hsh : X.bt = true → ShN n (st h a k v)) (kk : AW G X (pc + 3) ls sk n (st h a k v) cs ss) : AW G X pc ls ((tg t, v) :: (2, x) :: sk) n h cs ss := by
  intro ad H locs lr hR hl hm hs
  have ha := hR.lt han
  have hok := hv (okt hs)
  obtain ⟨hn1, hn2⟩ := ft_nar (ad := ad) hft hok
  subst hx
  rw [List.map_cons, List.map_cons, ← fv_rv, rv_at]
  refine va_putF hC.1 hC.2.1 hC.2.2.2.1 hin ty0 hty hnm hC.2.2.1 hC.2.2.2.2.1 hR.1 hR.2.1 hR.2.2.1 a (by rw [wl_get ha, encV_obj hL hc]) hcl k hk (hC.2.2.2.1 _ hlink) (fun _ h9 => h9) hfin hin2 hdecl (hty k hk) hn1 hn2 (by rw [List.length_mapIdx]; exact (List.getElem?_eq_some_iff.mp ht).1) hd (fun H1 locs1 hP1 hD1 hS1 => ?_)
  rw [fl_set ht, show (Sum.inr (ci, (FT ci).mapIdx (fun k' t => fv ad t (st h a k v a k'))) : va_E) = encV G ad (st h a k v) a from (encV_obj hL hc).symm, wl_set ha (fun j hj => encV_ne hj)] at hP1 hD1
  exact kk ad H1 locs1 lr ⟨hP1, hD1, hS1, okh_st hR.2.2.2.1 hL hc ht hok, fun q => hsh q, hR.2.2.2.2.2⟩ hl hm (ok1 (ok1 hs))
theorem vp_in_of32 {i : Int} {len : Nat} (hi : in32 i) (h0 : 0 ≤ i) (h1 : i < len) : vp_in (Int32.ofInt i) len := by
  rw [vp_in_iff, i32_of hi]
  exact ⟨h0, h1⟩
theorem aw_iaload {G : GD} {X : CX} {own : String} {cc : ByteArray} {pc : Nat} {ls sk : List Av} {n : Nat} {h : Hp} {cs ss : Nat} {a len : Nat} {x i : Int} (hC : Cx G X own cc) (hd : decode cc pc = .ok (.iaload, 1)) (hx : x = (a : Int)) (hL : LAY a = (10, len)) (han : (X.bt = true ∧ a < 69) ∨ a < n) (h0 : 0 ≤ i) (h1 : i < len) (kk : AW G X (pc + 1) ls ((0, h a i.toNat) :: sk) n h cs ss) : AW G X pc ls ((0, i) :: (2, x) :: sk) n h cs ss := by
  intro ad H locs lr hR hl hm hs
  have ha := hR.lt han
  have hi : in32 i := okt hs
  have h9 : in32 (h a i.toNat) := hR.oke (j := i.toNat) ha hL (by decide) (by omega)
  have hk' := kk ad H locs lr hR hl hm (okp (ok1 (ok1 hs)) (show in32 (h a i.toNat) from h9))
  subst hx
  rw [List.map_cons, List.map_cons, rv_at]
  refine va_iald hC.1 hC.2.1 hC.2.2.2.2.1 hR.1 a 0 (by rw [wl_get ha, encV_arr hL (by decide) (by decide)]) rfl (vp_in_of32 hi h0 h1) hd ?_
  rw [i32_clamp hi]
  exact hk'
theorem aw_baload {G : GD} {X : CX} {own : String} {cc : ByteArray} {pc : Nat} {ls sk : List Av} {n : Nat} {h : Hp} {cs ss : Nat} {a len : Nat} {x i : Int} (hC : Cx G X own cc) (hd : decode cc pc = .ok (.baload, 1)) (hx : x = (a : Int)) (hL : LAY a = (11, len)) (han : (X.bt = true ∧ a < 69) ∨ a < n) (h0 : 0 ≤ i) (h1 : i < len) (kk : AW G X (pc + 1) ls ((0, h a i.toNat) :: sk) n h cs ss) : AW G X pc ls ((0, i) :: (2, x) :: sk) n h cs ss := by
  intro ad H locs lr hR hl hm hs
  have ha := hR.lt han
  have hi : in32 i := okt hs
  have h9 : -128 ≤ h a i.toNat ∧ h a i.toNat ≤ 127 := hR.oke (j := i.toNat) ha hL (by decide) (by omega)
  have hk' := kk ad H locs lr hR hl hm (okp (ok1 (ok1 hs)) (show in32 (h a i.toNat) from ⟨by have := h9.1; omega, by have := h9.2; omega⟩))
  subst hx
  rw [List.map_cons, List.map_cons, rv_at]
  refine va_bald hC.1 hC.2.1 hC.2.2.2.2.1 hR.1 a 1 (by rw [wl_get ha, encV_arr hL (by decide) (by decide)]) rfl (vp_in_of32 hi h0 h1) hd ?_
  rw [i32_clamp hi]
  exact hk'
theorem aw_zaload {G : GD} {X : CX} {own : String} {cc : ByteArray} {pc : Nat} {ls sk : List Av} {n : Nat} {h : Hp} {cs ss : Nat} {a len : Nat} {x i : Int} (hC : Cx G X own cc) (hd : decode cc pc = .ok (.baload, 1)) (hx : x = (a : Int)) (hL : LAY a = (12, len)) (han : (X.bt = true ∧ a < 69) ∨ a < n) (h0 : 0 ≤ i) (h1 : i < len) (kk : AW G X (pc + 1) ls ((0, h a i.toNat) :: sk) n h cs ss) : AW G X pc ls ((0, i) :: (2, x) :: sk) n h cs ss := by
  intro ad H locs lr hR hl hm hs
  have ha := hR.lt han
  have hi : in32 i := okt hs
  have h9 : h a i.toNat = 0 ∨ h a i.toNat = 1 := hR.oke (j := i.toNat) ha hL (by decide) (by omega)
  have hk' := kk ad H locs lr hR hl hm (okp (ok1 (ok1 hs)) (show in32 (h a i.toNat) from by rcases h9 with e | e <;> rw [e] <;> decide))
  subst hx
  rw [List.map_cons, List.map_cons, rv_at]
  refine va_zald hC.1 hC.2.1 hC.2.2.2.2.1 hR.1 a 2 (by rw [wl_get ha, encV_arr hL (by decide) (by decide)]) rfl (vp_in_of32 hi h0 h1) hd ?_
  rw [i32_clamp hi]
  exact hk'
theorem aw_laload {G : GD} {X : CX} {own : String} {cc : ByteArray} {pc : Nat} {ls sk : List Av} {n : Nat} {h : Hp} {cs ss : Nat} {a len : Nat} {x i : Int} (hC : Cx G X own cc) (hd : decode cc pc = .ok (.laload, 1)) (hx : x = (a : Int)) (hL : LAY a = (13, len)) (han : (X.bt = true ∧ a < 69) ∨ a < n) (h0 : 0 ≤ i) (h1 : i < len) (kk : AW G X (pc + 1) ls ((1, h a i.toNat) :: sk) n h cs ss) : AW G X pc ls ((0, i) :: (2, x) :: sk) n h cs ss := by
  intro ad H locs lr hR hl hm hs
  have ha := hR.lt han
  have hi : in32 i := okt hs
  have h9 : in64 (h a i.toNat) := hR.oke (j := i.toNat) ha hL (by decide) (by omega)
  have hk' := kk ad H locs lr hR hl hm (okp (ok1 (ok1 hs)) h9)
  subst hx
  rw [List.map_cons, List.map_cons, rv_at]
  refine va_lald hC.1 hC.2.1 hC.2.2.2.2.1 hR.1 a 3 (by rw [wl_get ha, encV_arrL hL]) rfl (vp_in_of32 hi h0 h1) hd ?_
  rw [i32_clamp hi]
  exact hk'
theorem arr_st {G : GD} {ad : Nat → Nat} {h : Hp} {a kd len k : Nat} {v : Int} (hL : LAY a = (kd, len)) (h1 : 10 ≤ kd) (h2 : kd ≠ 13) : (Sum.inl (G.2.1 (kd - 10), len, Sum.inl (upd (fun j => Int32.ofInt (h a j)) k (Int32.ofInt v))) : va_E) = encV G ad (st h a k v) a := by
  rw [encV_arr hL h1 h2]
  congr 4
  funext j
  unfold upd st
  by_cases hj : j = k
  · subst hj; simp
  · simp [hj]
theorem arr_stL {G : GD} {ad : Nat → Nat} {h : Hp} {a len k : Nat} {v : Int} (hL : LAY a = (13, len)) : (Sum.inl (G.2.1 3, len, Sum.inr (Sum.inl (vp_updL (fun j => Int64.ofInt (h a j)) k (Int64.ofInt v)))) : va_E) = encV G ad (st h a k v) a := by
  rw [encV_arrL hL]
  congr 5
  funext j
  unfold vp_updL st
  by_cases hj : j = k
  · subst hj; simp
  · simp [hj]
theorem nar_byte {v : Int} (h : -128 ≤ v ∧ v ≤ 127) : vp_nar .byte (Int32.ofInt v) = Int32.ofInt v := by
  rw [vp_nar_byte, ← i32_to ((Int32.ofInt v).toInt8.toInt32)]
  congr 1
  rw [Int8.toInt_toInt32, Int32.toInt_toInt8, i32_of ⟨by omega, by omega⟩]
  exact Int.bmod_eq_of_le (by omega) (by omega)
theorem nar_bool {v : Int} (h : v = 0 ∨ v = 1) : vp_nar .boolean (Int32.ofInt v) = Int32.ofInt v := by
  rcases h with rfl | rfl <;> decide
theorem aw_iastore {G : GD} {X : CX} {own : String} {cc : ByteArray} {pc : Nat} {ls sk : List Av} {n : Nat} {h : Hp} {cs ss : Nat} {a len : Nat} {x i v : Int} (hC : Cx G X own cc) (hd : decode cc pc = .ok (.iastore, 1)) (hx : x = (a : Int)) (hL : LAY a = (10, len)) (han : (X.bt = true ∧ a < 69) ∨ a < n) (h0 : 0 ≤ i) (h1 : i < len) (kk : AW G X (pc + 1) ls sk n (st h a i.toNat v) cs ss) : AW G X pc ls ((0, v) :: (0, i) :: (2, x) :: sk) n h cs ss := by
  intro ad H locs lr hR hl hm hs
  have ha := hR.lt han
  have hi : in32 i := okt (ok1 hs)
  subst hx
  rw [List.map_cons, List.map_cons, List.map_cons, rv_at]
  refine va_iast hC.1 hC.2.1 hC.2.2.2.2.1 hR.1 hR.2.1 hR.2.2.1 a 0 (by rw [wl_get ha, encV_arr hL (by decide) (by decide)]) rfl (vp_in_of32 hi h0 h1) hd (fun H1 locs1 hP1 hD1 hS1 => ?_)
  rw [i32_clamp hi, arr_st hL (by decide) (by decide), wl_set ha (fun j hj => encV_ne hj)] at hP1 hD1
  exact kk ad H1 locs1 lr ⟨hP1, hD1, hS1, okh_sta hR.2.2.2.1 hL (by decide) (show in32 v from okt hs), fun q => shN_sta (hR.2.2.2.2.1 q) hL (by decide), hR.2.2.2.2.2⟩ hl hm (ok1 (ok1 (ok1 hs)))
theorem aw_bastore {G : GD} {X : CX} {own : String} {cc : ByteArray} {pc : Nat} {ls sk : List Av} {n : Nat} {h : Hp} {cs ss : Nat} {a len : Nat} {x i v : Int} (hC : Cx G X own cc) (hd : decode cc pc = .ok (.bastore, 1)) (hx : x = (a : Int)) (hL : LAY a = (11, len)) (han : (X.bt = true ∧ a < 69) ∨ a < n) (h0 : 0 ≤ i) (h1 : i < len) (hv : -128 ≤ v ∧ v ≤ 127) (kk : AW G X (pc + 1) ls sk n (st h a i.toNat v) cs ss) : AW G X pc ls ((0, v) :: (0, i) :: (2, x) :: sk) n h cs ss := by
  intro ad H locs lr hR hl hm hs
  have ha := hR.lt han
  have hi : in32 i := okt (ok1 hs)
  subst hx
  rw [List.map_cons, List.map_cons, List.map_cons, rv_at]
  refine va_bast hC.1 hC.2.1 hC.2.2.2.2.1 hR.1 hR.2.1 hR.2.2.1 a 1 (by rw [wl_get ha, encV_arr hL (by decide) (by decide)]) rfl (vp_in_of32 hi h0 h1) hd (fun H1 locs1 hP1 hD1 hS1 => ?_)
  rw [i32_clamp hi, nar_byte hv, arr_st hL (by decide) (by decide), wl_set ha (fun j hj => encV_ne hj)] at hP1 hD1
  exact kk ad H1 locs1 lr ⟨hP1, hD1, hS1, okh_sta hR.2.2.2.1 hL (by decide) hv, fun q => shN_sta (hR.2.2.2.2.1 q) hL (by decide), hR.2.2.2.2.2⟩ hl hm (ok1 (ok1 (ok1 hs)))
theorem aw_zastore {G : GD} {X : CX} {own : String} {cc : ByteArray} {pc : Nat} {ls sk : List Av} {n : Nat} {h : Hp} {cs ss : Nat} {a len : Nat} {x i v : Int} (hC : Cx G X own cc) (hd : decode cc pc = .ok (.bastore, 1)) (hx : x = (a : Int)) (hL : LAY a = (12, len)) (han : (X.bt = true ∧ a < 69) ∨ a < n) (h0 : 0 ≤ i) (h1 : i < len) (hv : v = 0 ∨ v = 1) (kk : AW G X (pc + 1) ls sk n (st h a i.toNat v) cs ss) : AW G X pc ls ((0, v) :: (0, i) :: (2, x) :: sk) n h cs ss := by
  intro ad H locs lr hR hl hm hs
  have ha := hR.lt han
  have hi : in32 i := okt (ok1 hs)
  subst hx
  rw [List.map_cons, List.map_cons, List.map_cons, rv_at]
  refine va_zast hC.1 hC.2.1 hC.2.2.2.2.1 hR.1 hR.2.1 hR.2.2.1 a 2 (by rw [wl_get ha, encV_arr hL (by decide) (by decide)]) rfl (vp_in_of32 hi h0 h1) hd (fun H1 locs1 hP1 hD1 hS1 => ?_)
  rw [i32_clamp hi, nar_bool hv, arr_st hL (by decide) (by decide), wl_set ha (fun j hj => encV_ne hj)] at hP1 hD1
  exact kk ad H1 locs1 lr ⟨hP1, hD1, hS1, okh_sta hR.2.2.2.1 hL (by decide) hv, fun q => shN_sta (hR.2.2.2.2.1 q) hL (by decide), hR.2.2.2.2.2⟩ hl hm (ok1 (ok1 (ok1 hs)))
theorem aw_lastore {G : GD} {X : CX} {own : String} {cc : ByteArray} {pc : Nat} {ls sk : List Av} {n : Nat} {h : Hp} {cs ss : Nat} {a len : Nat} {x i v : Int} (hC : Cx G X own cc) (hd : decode cc pc = .ok (.lastore, 1)) (hx : x = (a : Int)) (hL : LAY a = (13, len)) (han : (X.bt = true ∧ a < 69) ∨ a < n) (h0 : 0 ≤ i) (h1 : i < len) (kk : AW G X (pc + 1) ls sk n (st h a i.toNat v) cs ss) : AW G X pc ls ((1, v) :: (0, i) :: (2, x) :: sk) n h cs ss := by
  intro ad H locs lr hR hl hm hs
  have ha := hR.lt han
  have hi : in32 i := okt (ok1 hs)
  subst hx
  rw [List.map_cons, List.map_cons, List.map_cons, rv_at]
  refine va_last hC.1 hC.2.1 hC.2.2.2.2.1 hR.1 hR.2.1 hR.2.2.1 a 3 (by rw [wl_get ha, encV_arrL hL]) rfl (vp_in_of32 hi h0 h1) hd (fun H1 locs1 hP1 hD1 hS1 => ?_)
  rw [i32_clamp hi, arr_stL hL, wl_set ha (fun j hj => encV_ne hj)] at hP1 hD1
  exact kk ad H1 locs1 lr ⟨hP1, hD1, hS1, okh_sta hR.2.2.2.1 hL (by decide) (show in64 v from okt hs), fun q => shN_sta (hR.2.2.2.2.1 q) hL (by decide), hR.2.2.2.2.2⟩ hl hm (ok1 (ok1 (ok1 hs)))
theorem aw_alen {G : GD} {X : CX} {own : String} {cc : ByteArray} {pc : Nat} {ls sk : List Av} {n : Nat} {h : Hp} {cs ss : Nat} {a kd len : Nat} {x : Int} (hC : Cx G X own cc) (hd : decode cc pc = .ok (.arraylength, 1)) (hx : x = (a : Int)) (hL : LAY a = (kd, len)) (hk : kd = 10 ∨ kd = 11 ∨ kd = 12) (hlen : in32 (len : Int)) (han : (X.bt = true ∧ a < 69) ∨ a < n) (kk : AW G X (pc + 1) ls ((0, (len : Int)) :: sk) n h cs ss) : AW G X pc ls ((2, x) :: sk) n h cs ss := by
  intro ad H locs lr hR hl hm hs
  have ha := hR.lt han
  have hk' := kk ad H locs lr hR hl hm (okp (ok1 hs) hlen)
  subst hx
  rw [List.map_cons, rv_at]
  have e : Int32.ofNat len = Int32.ofInt (len : Int) := (Int32.ofInt_eq_ofNat).symm
  rcases hk with rfl | rfl | rfl
  · exact va_alen hC.1 hC.2.1 hC.2.2.2.2.1 hR.1 a 0 (by rw [wl_get ha, encV_arr hL (by decide) (by decide)]) rfl e hd hk'
  · exact va_alen hC.1 hC.2.1 hC.2.2.2.2.1 hR.1 a 1 (by rw [wl_get ha, encV_arr hL (by decide) (by decide)]) rfl e hd hk'
  · exact va_alen hC.1 hC.2.1 hC.2.2.2.2.1 hR.1 a 2 (by rw [wl_get ha, encV_arr hL (by decide) (by decide)]) rfl e hd hk'
