/-! pure part: what the class's houses see and owe -/
/-- the view of house i -/
def vw (D : LD) (ht sd ro : Nat → Int) (fog i : Nat) : Int × Int × Int := lkS D.w D.d sd fog (D.hc i) (i_add (i_add (ht (D.hc i)) 2) (ro (42 + i))) (shB (D.kd i) (ro (54 + i))) 8
def LKH (D : LD) (ht sd ro : Nat → Int) (fog i : Nat) (h h' : Hp) : Prop := LK D.w D.d sd fog (D.hc i) (i_add (i_add (ht (D.hc i)) 2) (ro (42 + i))) (shB (D.kd i) (ro (54 + i))) (D.kd i) (ro (42 + i)) 8 h h'
theorem CS.row {D : LD} {ht sd ro : Nat → Int} {fog L : Nat} {h : Hp} (H : CS D ht sd ro fog L h) : RR D ro (h 21) := H.2.2.2.2.2.1
theorem c_lookFrom {D : LD} {ht sd ro : Nat → Int} {fog L i : Nat} {h : Hp} (W : DW D) (H : CS D ht sd ro fog L h) (hi : i < D.nh) :
    wp (fX3_lookFrom (i : Int) h) (fun r => r.1 = 0 ∧ LKH D ht sd ro fog i h r.2) := by
  have hn := W.2.2.1
  have hL := H.1
  have h0 := H.2.1
  have hcl := H.2.2.1
  have hr := H.row
  have e42 : i_add 42 (i : Int) = ((42 + i : Nat) : Int) := ik (c := 42) (by omega) (by decide)
  have e54 : i_add 54 (i : Int) = ((54 + i : Nat) : Int) := ik (c := 54) (by omega) (by decide)
  have l2 : ((L : Int) + 2).toNat = L + 2 := by omega
  have l3 : ((L : Int) + 3).toNat = L + 3 := by omega
  unfold fX3_lookFrom
  simp only [wp_gd, wp_bd, h0, e42, e54, Int.toNat_natCast, l2, l3, hcl.2.2.2.2.2.1 i hi, hcl.2.2.2.2.2.2.1 i hi, (hr.2.2.1 i hi).2.1, (hr.2.2.1 i hi).2.2.2]
  refine ⟨by omega, ⟨by omega, by omega⟩, ⟨by omega, by omega⟩, ⟨by omega, by omega⟩, ⟨by omega, by omega⟩, ?_⟩
  refine (c_look W H (W.2.2.2.2.2.1 i hi)).mono ?_
  rintro r ⟨-, b⟩
  simp only [wp_some]
  exact ⟨trivial, b⟩
theorem LK.sm {w d : Nat} {sd : Nat → Int} {fog c : Nat} {eye : Int} {shut : Nat → Bool} {kd fl : Int} {k : Nat} {h h' : Hp} (b : LK w d sd fog c eye shut kd fl k h h') : Same SL h h' := b.2.2.2.2.2.2.2.2
theorem c_milesOf {D : LD} {ht sd ro : Nat → Int} {fog L i : Nat} {h : Hp} (W : DW D) (H : CS D ht sd ro fog L h) (hi : i < D.nh) :
    wp (fX3_milesOf (i : Int) h) (fun r => r.1 = (vw D ht sd ro fog i).1 ∧ Same SL h r.2) := by
  unfold fX3_milesOf
  simp only [wp_bd]
  refine (c_lookFrom W H hi).mono ?_
  rintro r ⟨-, b⟩
  simp only [wp_some]
  exact ⟨b.2.2.2.1, b.sm⟩
theorem shl0 : ∀ k : Nat, k < 32 → i_shl 0 (k : Int) = 0 := by decide +kernel
theorem l2i_b {b : Bool} : l_2i (if b = true then 1 else 0) = if b = true then 1 else 0 := by cases b <;> decide
theorem c_housesInView {D : LD} {ht sd ro : Nat → Int} {fog L : Nat} {h : Hp} (W : DW D) (H : CS D ht sd ro fog L h) : fX3_housesInView h = some (seeH D (h 20 11)) := by
  have hn := W.2.2.1
  have hL := H.1
  have h0 := H.2.1
  have hcl := H.2.2.1
  have l2 : ((L : Int) + 2).toNat = L + 2 := by omega
  have hc64 : D.cl ≤ 64 := cl64 W.1.2 W.2.1.2
  have key : wp (it_ (fun s => fX3_housesInView_l4 s.1 s.2 h) FU ((0 : Int), (0 : Int))) (fun v => v = seeH D (h 20 11)) := by
    refine wp_for (fun k s => s.1 = fb (fun i => bt (h 20 11) (D.hc i)) k ∧ s.2 = (k : Int)) D.nh ?_ ?_ (FU_big (by omega)) ⟨rfl, rfl⟩
    · rintro k ⟨v, x⟩ hk ⟨e1, e2⟩
      dsimp only at e1 e2 ⊢
      subst e1 e2
      unfold fX3_housesInView_l4
      simp only [wp_gd, wp_ite, wp_lb, wp_some, E2_l, h0, Int.toNat_natCast, hcl.2.2.1, l2, hcl.2.2.2.2.2.1 k hk, bt_u (show D.hc k < 64 by have := W.2.2.2.2.2.1 k hk; omega), l2i_b]
      refine ⟨by omega, fun q => absurd q (by omega), fun _ => ⟨⟨by omega, by omega⟩, ?_, i1 (by omega)⟩⟩
      by_cases hb : bt (h 20 11) (D.hc k) = true
      · rw [if_pos hb, fb_step_t (p := fun i => bt (h 20 11) (D.hc i)) hb]
      · rw [if_neg hb, fb_step_f (p := fun i => bt (h 20 11) (D.hc i)) hb, shl0 k (by omega), ior0 (fb_in _ _)]
    · rintro ⟨v, x⟩ ⟨e1, e2⟩
      dsimp only at e1 e2 ⊢
      subst e1 e2
      unfold fX3_housesInView_l4
      simp only [wp_gd, wp_ite, wp_some, E2_r, h0, Int.toNat_natCast, hcl.2.2.1]
      exact ⟨by omega, fun _ => rfl, fun q => absurd (Int.le_refl _) q⟩
  obtain ⟨v, e, rfl⟩ := key
  unfold fX3_housesInView
  rw [e]
  rfl
def bcE (x0 : Int) : Int :=
  let v1 := i_sub x0 (i_and (i_ushr x0 1) 1431655765)
  let v2 := i_add (i_and v1 858993459) (i_and (i_ushr v1 2) 858993459)
  let v3 := i_and (i_add v2 (i_ushr v2 4)) 252645135
  let v4 := i_add v3 (i_ushr v3 8)
  let v5 := i_add v4 (i_ushr v4 16)
  i_and v5 63
theorem bcE_tab : ∀ v : Nat, v < 64 → bcE (v : Int) = cntB (v : Int) := by decide +kernel
theorem bitCount_eq {v : Nat} {h : Hp} (hv : v < 64) : fJ6_bitCount_0f7a4 (v : Int) h = some (cntB (v : Int)) := by
  rw [← bcE_tab v hv]
  rfl
theorem fb_lt {p : Nat → Bool} {n : Nat} (hn : n ≤ 6) : ∃ v : Nat, fb p n = (v : Int) ∧ v < 64 := by
  obtain ⟨h1, h2⟩ := fb_sm p n hn
  have : 2 ^ n ≤ 2 ^ 6 := Nat.pow_le_pow_right (by decide) hn
  exact ⟨_, h1, by omega⟩
/-- the seven values of one who has looked -/
def vals (D : LD) (p : Int × Int × Int) (hc kd yr fl : Int) (j : Nat) : Int := if j = 0 then p.1 else if j = 1 then p.2.1 else if j = 2 then hc else if j = 3 then kd else if j = 4 then yr else if j = 5 then cntB (seeH D p.2.2) else fl
theorem c_valueOf {D : LD} {ht sd ro : Nat → Int} {fog L c : Nat} {h : Hp} {v : Int} (W : DW D) (H : CS D ht sd ro fog L h) (hc : c < D.cl) (h5 : h 20 5 = (c : Int)) (hv : 20 ≤ v ∧ v ≤ 26) :
    fX3_valueOf v h = some (vals D (h 20 9, h 20 10, h 20 11) (ht c) (h 20 6) (ro 61) (h 20 7) (v - 20).toNat) := by
  have hc64 : D.cl ≤ 64 := cl64 W.1.2 W.2.1.2
  obtain ⟨n, e1, e2⟩ := fb_lt (p := fun i => bt (h 20 11) (D.hc i)) W.2.2.1
  have hs : seeH D (h 20 11) = (n : Int) := e1
  have key : v = 20 ∨ v = 21 ∨ v = 22 ∨ v = 23 ∨ v = 24 ∨ v = 25 ∨ v = 26 := by omega
  unfold fX3_valueOf
  rcases key with rfl | rfl | rfl | rfl | rfl | rfl | rfl
  · rfl
  · rfl
  · rw [if_neg (by decide), if_neg (by decide), if_pos rfl, h5, gd_y ⟨by omega, by omega⟩, Int.toNat_natCast, H.2.2.2.1 c hc]
    rfl
  · rfl
  · rw [if_neg (by decide), if_neg (by decide), if_neg (by decide), if_neg (by decide), if_pos rfl, gd_y ⟨by omega, by omega⟩]
    show some (h 21 61) = _
    rw [H.row.2.2.2.2]
    rfl
  · rw [if_neg (by decide), if_neg (by decide), if_neg (by decide), if_neg (by decide), if_neg (by decide), if_pos rfl, c_housesInView W H, hs]
    simp only [bp_, bitCount_eq e2]
    show _ = some (cntB (seeH D (h 20 11)))
    rw [hs]
  · rfl
/-! the stack of a law that is reckoned -/
def STK (f : Nat → Int) : List Int → Prop
  | [] => True
  | a :: t => f t.length = a ∧ STK f t
theorem STK.cg {f g : Nat → Int} : ∀ {s : List Int}, STK f s → (∀ k, k < s.length → g k = f k) → STK g s
  | [], _, _ => trivial
  | a :: t, h, q => ⟨by rw [q _ (by simp)]; exact h.1, STK.cg h.2 (fun k hk => q k (by simp; omega))⟩
theorem c_together {o a b : Int} {h : Hp} (ho : o = 1 ∨ o = 2 ∨ o = 4 ∨ o = 5 ∨ o = 6 ∨ o = 7 ∨ o = 8 ∨ o = 9) : fX3_together o a b h = some (tgt o a b) := by
  unfold fX3_together tgt fX3_together_j110
  rcases ho with rfl | rfl | rfl | rfl | rfl | rfl | rfl | rfl
  · simp only [if_pos rfl]
    by_cases h1 : a = 0 <;> by_cases h2 : b = 0 <;> simp [h1, h2]
  · simp only [show ¬ ((2 : Int) = 1) by decide, if_neg, if_pos, not_false_iff]
    by_cases h1 : a = 0 <;> by_cases h2 : b = 0 <;> simp [h1, h2]
  · simp; split <;> rfl
  · simp; split <;> rfl
  · simp
  · simp
  · simp
  · simp
    by_cases h2 : b = 0
    · simp [h2]
    · simp [h2, gd_]
