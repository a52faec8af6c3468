/-! pure part: firs, what helps -/
theorem bt_land {x y : Int} {j : Nat} : bt (l_and x y) j = (bt x j && bt y j) := by
  unfold l_and
  rw [bt_of64, Int64.toBitVec_and, BitVec.getLsbD_and]
  rfl
def okF (D : LD) (ht ro : Nat → Int) (set much f1 f2 : Int) : Bool := aw (fun i => txH D ht (layF D ht ro f1 f2) ro (fogY D (ro 61)) i (ro 60)) set much D.nh
theorem m_paysF {D : LD} {Y : Nat} {ht sd ro : Nat → Int} {h : Hp} {set much f1 f2 : Int} (W : DW D) (R : RW D Y ro) (H : MS D ht sd ro (fogY D (ro 61)) h) (hs : in32 set) (h1 : h 35 52 = f1) (h2 : h 35 53 = f2) (g1 : f1 = -1 ∨ (0 ≤ f1 ∧ f1 < (D.cl : Int))) (g2 : f2 = -1 ∨ (0 ≤ f2 ∧ f2 < (D.cl : Int))) :
    wp (fX6_arePaying set much h) (fun r => r.1 = (if okF D ht ro set much f1 f2 = true then 1 else 0) ∧ Same SN h r.2) := by
  have hn := W.2.2.1
  unfold fX6_arePaying
  rw [wp_bd]
  refine (m_laysOut W H h1 h2 g1 g2).mono ?_
  rintro ⟨r0, h3⟩ ⟨-, s3, H3⟩
  dsimp only at s3 H3 ⊢
  have loop : wp (it_ (fun s : Int × Hp => fX6_arePaying_l6 set much s.1 s.2) FU (0, h3)) (fun e => E2 (fun hq => okF D ht ro set much f1 f2 = true ∧ Same SM h3 hq) (fun r : Int × Hp => r.1 = 0 ∧ okF D ht ro set much f1 f2 = false ∧ Same SM h3 r.2) e) := by
    refine wp_for (fun k (s : Int × Hp) => s.1 = (k : Int) ∧ aw (fun i => txH D ht (layF D ht ro f1 f2) ro (fogY D (ro 61)) i (ro 60)) set much k = true ∧ Same SM h3 s.2) D.nh ?_ ?_ (FU_big (by omega)) ⟨rfl, rfl, Same.rf⟩
    · rintro k ⟨x, hh⟩ hk ⟨e1, e2, e3⟩
      dsimp only at e1 e2 e3 ⊢
      subst e1
      have H' := H3.same e3
      have k1 : i_add (k : Int) 1 = ((k + 1 : Nat) : Int) := i1 (by omega)
      unfold fX6_arePaying_l6
      rw [k1, H'.1.2.2.1, bt_is hs (by clear k1; omega)]
      refine w_f (by clear k1; omega) ?_
      by_cases hb : bt set k = true
      · rw [if_pos hb]
        refine w_t rfl ?_
        rw [wp_bd]
        refine (m_taxOf W H' R.sold hk R.2.2.1).mono ?_
        rintro ⟨v, h9⟩ ⟨v1, v2⟩
        dsimp only at v1 v2 ⊢
        subst v1
        by_cases q : txH D ht (layF D ht ro f1 f2) ro (fogY D (ro 61)) k (ro 60) ≤ much
        · exact w_t q (wp_some.mpr ⟨rfl, aw_s e2 (Or.inr q), e3.tr v2⟩)
        · exact w_f q (wp_some.mpr ⟨rfl, aw_no hk hb q, e3.tr v2⟩)
      · rw [if_neg hb]
        exact w_f (by decide) (wp_some.mpr ⟨rfl, aw_s e2 (Or.inl hb), e3⟩)
    · rintro ⟨x, hh⟩ ⟨e1, e2, e3⟩
      dsimp only at e1 e2 e3 ⊢
      subst e1
      have H' := H3.same e3
      unfold fX6_arePaying_l6
      rw [H'.1.2.2.1]
      exact w_t (Int.le_refl _) (wp_some.mpr ⟨e2, e3⟩)
  rw [wp_bp]
  refine loop.mono ?_
  rintro (e | e) he
  · dsimp only
    rw [wp_some]
    exact ⟨by rw [if_pos he.1], (S57_SN s3).tr (SM_SN he.2)⟩
  · dsimp only
    rw [wp_some]
    exact ⟨by rw [he.1, he.2.1]; rfl, (S57_SN s3).tr (SM_SN he.2.2)⟩
theorem aw_set {f g : Nat → Int} {set much : Int} : ∀ {n : Nat}, (∀ i, i < n → bt set i = true → f i = g i) → aw f set much n = aw g set much n
  | 0, _ => rfl
  | n + 1, h => by
    unfold aw
    rw [aw_set (n := n) (fun i hi hb => h i (by omega) hb)]
    by_cases q : bt set n = true
    · rw [h n (Nat.lt_succ_self n) q]
    · have q' : bt set n = false := by simpa using q
      rw [q']
      rfl
/-- a fir that none of the set looks over changes nothing for them -/
theorem ok_far1 {D : LD} {ht ro : Nat → Int} {set much ov f2 : Int} {c : Nat} (W : DW D) (ho : ∀ j, bt ov j = true ↔ ∃ i, i < D.nh ∧ bt set i = true ∧ bt (ways D ro (fogY D (ro 61)) i) j = true) (hc : bt ov c ≠ true) : okF D ht ro set much (c : Int) f2 = okF D ht ro set much (-1) f2 := by
  refine aw_set (fun i hi hb => txH_loc W (fun j hj hw => ?_))
  have n : (c : Int) ≠ (j : Int) := fun z => hc ((ho c).mpr ⟨i, hi, hb, by rw [show c = j by omega]; exact hw⟩)
  unfold layF
  rw [if_neg n, if_neg (show ¬ ((-1 : Int) = (j : Int)) by omega)]
theorem ok_far2 {D : LD} {ht ro : Nat → Int} {set much ov f1 : Int} {c : Nat} (W : DW D) (ho : ∀ j, bt ov j = true ↔ ∃ i, i < D.nh ∧ bt set i = true ∧ bt (ways D ro (fogY D (ro 61)) i) j = true) (hc : bt ov c ≠ true) : okF D ht ro set much f1 (c : Int) = okF D ht ro set much f1 (-1) := by
  refine aw_set (fun i hi hb => txH_loc W (fun j hj hw => ?_))
  have n : (c : Int) ≠ (j : Int) := fun z => hc ((ho c).mpr ⟨i, hi, hb, by rw [show c = j by omega]; exact hw⟩)
  unfold layF
  rw [if_neg n, if_neg (show ¬ ((-1 : Int) = (j : Int)) by omega)]
theorem ok_swap {D : LD} {ht ro : Nat → Int} {set much : Int} {c : Nat} : okF D ht ro set much (-1) (c : Int) = okF D ht ro set much (c : Int) (-1) := by
  unfold okF
  have e : layF D ht ro (-1) (c : Int) = layF D ht ro (c : Int) (-1) := by
    funext j
    unfold layF
    rw [if_neg (show ¬ ((-1 : Int) = (j : Int)) by omega)]
    rw [if_neg (show ¬ ((-1 : Int) = (j : Int)) by omega)]
  rw [e]
