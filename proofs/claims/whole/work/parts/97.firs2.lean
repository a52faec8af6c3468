/-! pure part: firs, the class tries a fir or two -/
theorem bare_lay {D : LD} {ht ro : Nat → Int} {c : Nat} (T : HT D ht) (hc : c < D.cl) (hb : bare D ro (c : Int) = true) : lay D ht ro c = ht c := by
  unfold bare at hb
  rw [Bool.and_eq_true] at hb
  exact lay_none T hc (of_decide_eq_true hb.2) (of_decide_eq_true hb.1)
theorem ht_in {D : LD} {ht : Nat → Int} {c : Nat} (T : HT D ht) (hc : c < D.cl) : in32 (ht c) := by
  have := T c hc
  exact ⟨by omega, by omega⟩
theorem un9 {a : Int} (h : in32 a) : i_add (i_add a 9) (-9) = a := by
  have := ia_undo (x := 9) h
  rw [show i_neg 9 = -9 from by decide] at this
  exact this
theorem ok01 {b : Bool} : (if b = true then (1 : Int) else 0) = 0 ∨ (if b = true then (1 : Int) else 0) = 1 := by cases b <;> decide
theorem c_firsHelp1 {D : LD} {Y : Nat} {ht ro : Nat → Int} {L c : Nat} {set much : Int} {h : Hp} (W : DW D) (T : HT D ht) (R : RW D Y ro) (H : CS D ht (lay D ht ro) ro (fogY D (ro 61)) L h) (hc : c < D.cl) (hb : bare D ro (c : Int) = true) :
    wp (fX5_firsHelp (c : Int) (-1) set much h) (fun r => r.1 = (if okF D ht ro set much (c : Int) (-1) = true then 1 else 0) ∧ Same SC h r.2 ∧ CS D ht (lay D ht ro) ro (fogY D (ro 61)) L r.2) := by
  have hc64 : D.cl ≤ 64 := cl64 W.1.2 W.2.1.2
  have bl := bare_lay T hc hb
  have v23 : h 23 c = ht c := by rw [H.2.2.2.2.1 c hc]; exact bl
  have K1 : CS D ht (layF D ht ro (c : Int) (-1)) ro (fogY D (ro 61)) L (st h 23 c (i_add (h 23 c) 9)) := H.stand (fun j hj => by
    unfold layF
    rw [if_neg (show ¬ ((-1 : Int) = (j : Int)) by clear v23 bl; omega)]
    by_cases q : j = c
    · rw [if_pos q, if_pos (by rw [q]), q, v23]
    · rw [if_neg q, if_neg (fun z => q (by clear v23 bl; omega))])
  unfold fX5_firsHelp
  rw [c_raiseN (by clear v23 bl; omega), wp_bd, wp_some]
  dsimp only
  rw [c_raise, if_neg (by decide), wp_bd, wp_some]
  dsimp only
  rw [wp_bd]
  refine (c_allWithin W K1 R.2.2.1).mono ?_
  rintro ⟨v, h9⟩ ⟨v1, v2⟩
  dsimp only at v1 v2 ⊢
  have K2 := K1.same v2
  have w23 : h9 23 c = i_add (ht c) 9 := by
    rw [K2.2.2.2.2.1 c hc]
    unfold layF
    rw [if_neg (show ¬ ((-1 : Int) = (c : Int)) by clear v23 bl v1; omega), if_pos rfl]
  have K3 : CS D ht (lay D ht ro) ro (fogY D (ro 61)) L (st h9 23 c (i_add (h9 23 c) (-9))) := K2.stand (fun j hj => by
    by_cases q : j = c
    · rw [if_pos q, q, w23, un9 (ht_in T hc)]; exact bl
    · rw [if_neg q]
      unfold layF
      rw [if_neg (show ¬ ((-1 : Int) = (j : Int)) by clear v23 bl v1 w23; omega), if_neg (fun z => q (by clear v23 bl v1 w23; omega))])
  rw [c_raiseN (by clear v23 bl v1 w23; omega), wp_bd, wp_some]
  dsimp only
  rw [c_raise, if_neg (by decide), wp_bd, wp_some]
  dsimp only
  rw [gd_y (by rw [v1]; exact ok01), wp_some]
  exact ⟨v1, ((st_same (P := SC) ⟨by decide, by decide⟩).tr (v2.mono (fun a k p => by unfold SL at p; unfold SC; clear v23 bl v1 w23; omega))).st ⟨by decide, by decide⟩, K3⟩
theorem c_firsHelp2 {D : LD} {Y : Nat} {ht ro : Nat → Int} {L c e : Nat} {set much : Int} {h : Hp} (W : DW D) (T : HT D ht) (R : RW D Y ro) (H : CS D ht (lay D ht ro) ro (fogY D (ro 61)) L h) (hc : c < D.cl) (hb : bare D ro (c : Int) = true) (he : e < D.cl) (hbe : bare D ro (e : Int) = true) (n : c ≠ e) :
    wp (fX5_firsHelp (c : Int) (e : Int) set much h) (fun r => r.1 = (if okF D ht ro set much (c : Int) (e : Int) = true then 1 else 0) ∧ Same SC h r.2 ∧ CS D ht (lay D ht ro) ro (fogY D (ro 61)) L r.2) := by
  have hc64 : D.cl ≤ 64 := cl64 W.1.2 W.2.1.2
  have bl := bare_lay T hc hb
  have ble := bare_lay T he hbe
  have v23 : h 23 c = ht c := by rw [H.2.2.2.2.1 c hc]; exact bl
  have K0 : CS D ht (layF D ht ro (c : Int) (-1)) ro (fogY D (ro 61)) L (st h 23 c (i_add (h 23 c) 9)) := H.stand (fun j hj => by
    unfold layF
    rw [if_neg (show ¬ ((-1 : Int) = (j : Int)) by clear v23 bl ble; omega)]
    by_cases q : j = c
    · rw [if_pos q, if_pos (by rw [q]), q, v23]
    · rw [if_neg q, if_neg (fun z => q (by clear v23 bl ble; omega))])
  have x23 : st h 23 c (i_add (h 23 c) 9) 23 e = ht e := by
    rw [st_nk (Ne.symm n), H.2.2.2.2.1 e he]; exact ble
  have K1 : CS D ht (layF D ht ro (c : Int) (e : Int)) ro (fogY D (ro 61)) L (st (st h 23 c (i_add (h 23 c) 9)) 23 e (i_add (st h 23 c (i_add (h 23 c) 9) 23 e) 9)) := K0.stand (fun j hj => by
    rw [x23]
    unfold layF
    by_cases q : j = e
    · rw [if_pos q, if_pos (by rw [q]), q]
    · rw [if_neg q, if_neg (show ¬ ((e : Int) = (j : Int)) from fun z => q (by clear v23 bl ble x23; omega)), if_neg (show ¬ ((-1 : Int) = (j : Int)) by clear v23 bl ble x23; omega)])
  unfold fX5_firsHelp
  rw [c_raiseN (by clear v23 bl ble x23; omega), wp_bd, wp_some]
  dsimp only
  rw [c_raiseN (by clear v23 bl ble x23; omega), wp_bd, wp_some]
  dsimp only
  rw [wp_bd]
  refine (c_allWithin W K1 R.2.2.1).mono ?_
  rintro ⟨v, h9⟩ ⟨v1, v2⟩
  dsimp only at v1 v2 ⊢
  have K2 := K1.same v2
  have w23 : h9 23 c = i_add (ht c) 9 := by
    rw [K2.2.2.2.2.1 c hc]
    unfold layF
    rw [if_neg (show ¬ ((e : Int) = (c : Int)) from fun z => n (by clear v23 bl ble x23 v1; omega)), if_pos rfl]
  have y23 : st h9 23 c (i_add (h9 23 c) (-9)) 23 e = i_add (ht e) 9 := by
    rw [st_nk (Ne.symm n), K2.2.2.2.2.1 e he]
    unfold layF
    rw [if_pos rfl]
  have K3 : CS D ht (layF D ht ro (-1) (e : Int)) ro (fogY D (ro 61)) L (st h9 23 c (i_add (h9 23 c) (-9))) := K2.stand (fun j hj => by
    unfold layF
    rw [if_neg (show ¬ ((-1 : Int) = (j : Int)) by clear v23 bl ble x23 v1 w23 y23; omega)]
    by_cases q : j = c
    · rw [if_pos q, q, if_neg (show ¬ ((e : Int) = (c : Int)) from fun z => n (by clear v23 bl ble x23 v1 w23 y23; omega)), w23, un9 (ht_in T hc)]; exact bl
    · rw [if_neg q, if_neg (show ¬ ((c : Int) = (j : Int)) from fun z => q (by clear v23 bl ble x23 v1 w23 y23; omega))])
  have K4 : CS D ht (lay D ht ro) ro (fogY D (ro 61)) L (st (st h9 23 c (i_add (h9 23 c) (-9))) 23 e (i_add (st h9 23 c (i_add (h9 23 c) (-9)) 23 e) (-9))) := K3.stand (fun j hj => by
    by_cases q : j = e
    · rw [if_pos q, q, y23, un9 (ht_in T he)]; exact ble
    · rw [if_neg q]
      unfold layF
      rw [if_neg (show ¬ ((e : Int) = (j : Int)) from fun z => q (by clear v23 bl ble x23 v1 w23 y23; omega)), if_neg (show ¬ ((-1 : Int) = (j : Int)) by clear v23 bl ble x23 v1 w23 y23; omega)])
  rw [c_raiseN (by clear v23 bl ble x23 v1 w23 y23; omega), wp_bd, wp_some]
  dsimp only
  rw [c_raiseN (by clear v23 bl ble x23 v1 w23 y23; omega), wp_bd, wp_some]
  dsimp only
  rw [gd_y (by rw [v1]; exact ok01), wp_some]
  exact ⟨v1, ((((st_same (P := SC) ⟨by decide, by decide⟩).st ⟨by decide, by decide⟩).tr (v2.mono (fun a k p => by unfold SL at p; unfold SC; clear v23 bl ble x23 v1 w23 y23; omega))).st ⟨by decide, by decide⟩).st ⟨by decide, by decide⟩, K4⟩
