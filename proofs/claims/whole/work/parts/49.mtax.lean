/-! pure part: what the reference's houses owe -/
theorem cell_inj {w : Nat} {x x' y y' : Int} (h1 : 0 ≤ x) (h2 : x < w) (h3 : 0 ≤ x') (h4 : x' < w) (e : (w : Int) * y + x = (w : Int) * y' + x') : y = y' ∧ x = x' := by
  have hy : y = y' := by
    rcases Int.lt_trichotomy y y' with g | g | g
    · have : (w : Int) * (y + 1) ≤ (w : Int) * y' := Int.mul_le_mul_of_nonneg_left (by omega) (by omega)
      rw [Int.mul_add] at this
      omega
    · exact g
    · have : (w : Int) * (y' + 1) ≤ (w : Int) * y := Int.mul_le_mul_of_nonneg_left (by omega) (by omega)
      rw [Int.mul_add] at this
      omega
  subst hy
  exact ⟨rfl, by omega⟩
/-- no look comes back to where it began -/
theorem lkA_own {w d : Nat} {sd : Nat → Int} {eye dx dy x0 y0 : Int} {c : Nat} (hwd : w * d ≤ 64) (hne : dx ≠ 0 ∨ dy ≠ 0) (hx0 : 0 ≤ x0) (hxw : x0 < w) (hcc : (c : Int) = (w : Int) * y0 + x0) :
    ∀ (n : Nat) (x y far rise k v : Int), 0 ≤ x → x < w → 0 ≤ y → y < d → (0 < dx → x0 ≤ x) → (dx < 0 → x ≤ x0) → (dx = 0 → x = x0) → (0 < dy → y0 ≤ y) → (dy < 0 → y ≤ y0) → (dy = 0 → y = y0) → bt (lkA w d sd eye dx dy n x y far rise k v).2 c = bt v c
  | 0, _, _, _, _, _, _, _, _, _, _, _, _, _, _, _, _ => rfl
  | n + 1, x, y, far, rise, k, v, a1, a2, a3, a4, b1, b2, b3, b4, b5, b6 => by
    unfold lkA
    split
    · rfl
    · next hin =>
      have hy7 := wy (w := w) (d := d) (x := x + dx) (y := y + dy) (by omega) (by omega) (by omega) (by omega)
      split
      · rw [lkA_own hwd hne hx0 hxw hcc n _ _ _ _ _ _ (by omega) (by omega) (by omega) (by omega) (by omega) (by omega) (by omega) (by omega) (by omega) (by omega), bt_lor]
        obtain ⟨q, hq⟩ : ∃ q : Nat, (w : Int) * (y + dy) + (x + dx) = (q : Int) := ⟨((w : Int) * (y + dy) + (x + dx)).toNat, by omega⟩
        rw [hq, bt_l1 (by omega)]
        have : q ≠ c := by
          intro e
          subst e
          have := cell_inj (w := w) (y := y + dy) (y' := y0) (x := x + dx) (x' := x0) (by omega) (by omega) hx0 hxw (by rw [hq]; exact hcc)
          omega
        simp [this]
      · exact lkA_own hwd hne hx0 hxw hcc n _ _ _ _ _ _ (by omega) (by omega) (by omega) (by omega) (by omega) (by omega) (by omega) (by omega) (by omega) (by omega)
theorem dXY {n : Nat} (hn : n < 8) : dX n ≠ 0 ∨ dY n ≠ 0 := by
  have key : ∀ n : Nat, n < 8 → dX n ≠ 0 ∨ dY n ≠ 0 := by decide
  exact key n hn
theorem lkS_own {w d : Nat} {sd : Nat → Int} {fog c : Nat} {eye : Int} {shut : Nat → Bool} (hw : 1 ≤ w ∧ w ≤ 8) (hd : 1 ≤ d ∧ d ≤ 8) (hc : c < w * d) : ∀ n, n ≤ 8 → bt (lkS w d sd fog c eye shut n).2.2 c = false
  | 0, _ => bt_0
  | n + 1, hn => by
    have ih := lkS_own (sd := sd) (fog := fog) (eye := eye) (shut := shut) hw hd hc n (by omega)
    have hm : c % w < w := Nat.mod_lt c (by omega)
    have hdv : c / w < d := Nat.div_lt_of_lt_mul hc
    have hm' : (0 : Int) ≤ ((c % w : Nat) : Int) ∧ ((c % w : Nat) : Int) < (w : Int) := ⟨Int.natCast_nonneg _, Int.ofNat_lt.mpr hm⟩
    have hdv' : (0 : Int) ≤ ((c / w : Nat) : Int) ∧ ((c / w : Nat) : Int) < (d : Int) := ⟨Int.natCast_nonneg _, Int.ofNat_lt.mpr hdv⟩
    show bt (if shut n = true then (0, (lkS w d sd fog c eye shut n).2.2) else lkD w d sd fog c eye n (lkS w d sd fog c eye shut n).2.2).2 c = false
    split
    · exact ih
    · unfold lkD
      rw [lkA_own (x0 := ((c % w : Nat) : Int)) (y0 := ((c / w : Nat) : Int)) (cl64 hw.2 hd.2) (dXY (by omega)) (by omega) (by omega) ?_ _ _ _ _ _ _ _ (by omega) (by omega) (by omega) (by omega) (by omega) (by omega) (by omega) (by omega) (by omega) (by omega)]
      · exact ih
      · have := Nat.div_add_mod c w
        exact_mod_cast this.symm
theorem m_housesSeen {D : LD} {but : Int} {h : Hp} (W : DW D) (H : ML D h) : fX6_housesSeen but h = some (fb (fun i => decide ((i : Int) ≠ but) && bt (h 35 54) (D.hc i)) D.nh) := by
  have hn := W.2.2.1
  have hc64 : D.cl ≤ 64 := cl64 W.1.2 W.2.1.2
  have key : wp (it_ (fun s => fX6_housesSeen_l4 but s.1 s.2 h) FU ((0 : Int), (0 : Int))) (fun v => v = fb (fun i => decide ((i : Int) ≠ but) && bt (h 35 54) (D.hc i)) D.nh) := by
    refine wp_for (fun k s => s.1 = fb (fun i => decide ((i : Int) ≠ but) && bt (h 35 54) (D.hc i)) k ∧ s.2 = (k : Int)) D.nh ?_ ?_ (FU_big (by omega)) ⟨rfl, rfl⟩
    · rintro k ⟨v, x⟩ hk ⟨e1, e2⟩
      dsimp only at e1 e2 ⊢
      subst e1 e2
      unfold fX6_housesSeen_l4
      simp only [wp_gd, wp_ite, wp_lb, wp_some, E2_l, Int.toNat_natCast, H.2.2.1, H.2.2.2.2.2.1 k hk, bt_s (show D.hc k < 64 by have := W.2.2.2.2.2.1 k hk; omega), cmp1]
      refine ⟨fun q => absurd q (by omega), fun _ => ⟨fun q => ⟨?_, i1 (by omega)⟩, fun q => ⟨⟨by omega, by omega⟩, fun q2 => ⟨?_, i1 (by omega)⟩, fun q2 => ⟨?_, i1 (by omega)⟩⟩⟩⟩
      · rw [fb_step_f (by simp [q]), ior0 (fb_in _ _)]
      · rw [fb_step_t (by simp [q, q2])]
      · rw [fb_step_f (by simp [q2]), ior0 (fb_in _ _)]
    · rintro ⟨v, x⟩ ⟨e1, e2⟩
      dsimp only at e1 e2 ⊢
      subst e1 e2
      unfold fX6_housesSeen_l4
      simp only [wp_ite, wp_some, E2_r, H.2.2.1]
      exact ⟨fun _ => trivial, fun q => absurd (Int.le_refl _) q⟩
  obtain ⟨v, e, rfl⟩ := key
  unfold fX6_housesSeen
  rw [e]
  rfl
def bsE (v : Int) : Nat → Int
  | 0 => 0
  | n + 1 => i_add (bsE v n) (i_and (i_shr v (n : Int)) 1)
theorem bsE_tab : ∀ v : Nat, v < 64 → bsE (v : Int) 12 = cntB (v : Int) := by decide +kernel
theorem m_bits {v : Nat} {h : Hp} (hv : v < 64) : fX6_bits (v : Int) h = some (cntB (v : Int)) := by
  have key : wp (it_ (fun s => fX6_bits_l4 (v : Int) s.1 s.2 h) FU ((0 : Int), (0 : Int))) (fun r => r = bsE (v : Int) 12) := by
    refine wp_for (fun k s => s.1 = bsE (v : Int) k ∧ s.2 = (k : Int)) 12 ?_ ?_ (FU_big (by decide)) ⟨rfl, rfl⟩
    · rintro k ⟨a, b⟩ hk ⟨e1, e2⟩
      dsimp only at e1 e2 ⊢
      subst e1 e2
      unfold fX6_bits_l4
      simp only [wp_ite, wp_lb, wp_some, E2_l]
      exact ⟨fun q => absurd q (by omega), fun _ => ⟨rfl, i1 (by omega)⟩⟩
    · rintro ⟨a, b⟩ ⟨e1, e2⟩
      dsimp only at e1 e2 ⊢
      subst e1 e2
      unfold fX6_bits_l4
      simp only [wp_ite, wp_some, E2_r]
      exact ⟨fun _ => trivial, fun q => absurd (by decide) q⟩
  obtain ⟨r, e, rfl⟩ := key
  unfold fX6_bits
  rw [e, bsE_tab v hv]
  rfl
theorem m_works {o a b : Int} {h : Hp} (ho : o = 1 ∨ o = 2 ∨ o = 4 ∨ o = 5 ∨ o = 6 ∨ o = 7 ∨ o = 8 ∨ o = 9) : fX6_works (if o = 1 then 5 else if o = 2 then 4 else if o = 3 then 3 else o + 2) a b h = some (tgt o a b) := by
  unfold fX6_works tgt
  rcases ho with rfl | rfl | rfl | rfl | rfl | rfl | rfl | rfl
  · simp
    by_cases h1 : a = 0 <;> by_cases h2 : b = 0 <;> simp [h1, h2]
  · simp
    by_cases h1 : a = 0 <;> by_cases h2 : b = 0 <;> simp [h1, h2]
  · simp; split <;> rfl
  · simp; split <;> rfl
  · simp
  · simp
  · simp
  · simp
    by_cases h2 : b = 0
    · simp [h2]
    · simp [h2, gd_]
theorem m_reckons {h : Hp} {vs : Nat → Int} {cd : List Int} {p : Nat} (hm : MC (h 41) p cd) (hw : wfC cd 0) (hv : ∀ j, j < 7 → h 58 j = vs j) :
    wp (fX6_reckons (p : Int) h) (fun r => r.1 = (evC vs cd []).headD 0 ∧ Same (fun a _ => a = 59) h r.2) := by
  have loop : ∀ (cd : List Int) (f p : Nat) (stk : List Int) (hh : Hp) (t0 x0 : Int), t0 = (stk.length : Int) → x0 = (p : Int) → cd.length < f → stk.length ≤ 60 → MC (h 41) p cd → wfC cd stk.length → STK (hh 59) stk → Same (fun a _ => a = 59) h hh →
      wp (it_ (fun s : Int × Int × Hp => fX6_reckons_l4 s.1 s.2.1 s.2.2) f (t0, x0, hh)) (fun r => r 59 0 = (evC vs cd stk).headD 0 ∧ Same (fun a _ => a = 59) h r) := by
    intro cd
    induction cd with
    | nil =>
      intro f p stk hh t0 x0 et ex hf h60 hm hw hs hS
      obtain ⟨f, rfl⟩ : ∃ f', f = f' + 1 := ⟨f - 1, by omega⟩
      have e41 : hh 41 p = 0 := by rw [hS _ _ (by omega)]; exact hm.2
      have hp : p < 2800 := hm.1
      rw [et, ex]
      unfold it_
      have eb : fX6_reckons_l4 (stk.length : Int) (p : Int) hh = some (.inr hh) := by
        unfold fX6_reckons_l4
        rw [gd_y ⟨by omega, by omega⟩, Int.toNat_natCast, if_pos e41]
      rw [eb]
      refine ⟨hh, rfl, ?_, hS⟩
      obtain ⟨a, rfl⟩ := List.length_eq_one_iff.mp (show stk.length = 1 from hw)
      exact hs.1
    | cons c cs ih =>
      intro f p stk hh t0 x0 et ex hf h60 hm hw hs hS
      obtain ⟨f, rfl⟩ : ∃ f', f = f' + 1 := ⟨f - 1, by omega⟩
      have hf' : cs.length < f := by simp at hf; omega
      have r41 : ∀ k, hh 41 k = h 41 k := fun k => hS _ _ (by omega)
      have ip : ∀ k : Nat, k < 2800 → i_add (k : Int) 1 = ((k + 1 : Nat) : Int) := fun k hk => i1 (by omega)
      unfold MC at hm
      unfold wfC at hw
      unfold evC
      rw [et, ex]
      clear et ex
      unfold it_
      by_cases c1 : 100 ≤ c
      · rw [if_pos c1] at hm hw ⊢
        obtain ⟨m1, m2, m3, m4⟩ := hm
        have eb : fX6_reckons_l4 (stk.length : Int) (p : Int) hh = some (.inl (((stk.length + 1 : Nat) : Int), ((p + 2 : Nat) : Int), st hh 59 stk.length (c - 100))) := by
          unfold fX6_reckons_l4
          rw [gd_y ⟨by omega, by omega⟩, Int.toNat_natCast, r41, m2, if_neg (by decide), gd_y ⟨by omega, by omega⟩]
          unfold lb_
          dsimp only
          rw [if_pos rfl]
          unfold fX6_reckons_j36 fX6_reckons_j67
          rw [if_pos rfl, ip p (by omega), gd_y ⟨by omega, by omega⟩, gd_y ⟨by omega, by omega⟩, Int.toNat_natCast, Int.toNat_natCast, r41, m3, ip (p + 1) (by omega), ip stk.length (by omega)]
          rfl
        rw [eb]
        have es : i_sub c 100 = c - 100 := isb (by omega) (by omega)
        rw [es]
        exact ih f (p + 2) ((c - 100) :: stk) _ _ _ (by simp) rfl hf' (by simp; omega) m4 hw.2.2 ⟨st_self, hs.cg (fun j hj => st_nk (by omega))⟩ (hS.st rfl)
      · rw [if_neg c1] at hm hw ⊢
        by_cases c2 : 20 ≤ c
        · rw [if_pos c2] at hm hw ⊢
          obtain ⟨m1, m2, m3, m4⟩ := hm
          have h58 : hh 58 (c - 20).toNat = vs (c - 20).toNat := by rw [hS _ _ (by omega)]; exact hv _ (by omega)
          have eb : fX6_reckons_l4 (stk.length : Int) (p : Int) hh = some (.inl (((stk.length + 1 : Nat) : Int), ((p + 2 : Nat) : Int), st hh 59 stk.length (vs (c - 20).toNat))) := by
            unfold fX6_reckons_l4
            rw [gd_y ⟨by omega, by omega⟩, Int.toNat_natCast, r41, m2, if_neg (by decide), gd_y ⟨by omega, by omega⟩]
            unfold lb_
            dsimp only
            rw [if_neg (by decide), if_pos rfl]
            unfold fX6_reckons_j36 fX6_reckons_j67
            rw [if_neg (by decide), ip p (by omega), gd_y ⟨by omega, by omega⟩, Int.toNat_natCast, r41, m3, gd_y ⟨by omega, by omega⟩, gd_y ⟨by omega, by omega⟩, Int.toNat_natCast, ip (p + 1) (by omega), ip stk.length (by omega), h58]
            rfl
          rw [eb]
          exact ih f (p + 2) (vs (c - 20).toNat :: stk) _ _ _ (by simp) rfl hf' (by simp; omega) m4 hw.2.2 ⟨st_self, hs.cg (fun j hj => st_nk (by omega))⟩ (hS.st rfl)
        · rw [if_neg c2] at hm hw ⊢
          obtain ⟨m1, m2, m4⟩ := hm
          by_cases c3 : c = 3
          · subst c3
            rw [if_pos rfl] at hw
            have m2 : h 41 p = 3 := m2
            match stk, hs, hw, h60 with
            | a :: t, hs, hw, h60 =>
              have hl : ((a :: t).length : Int) = ((t.length + 1 : Nat) : Int) := by simp
              have ht : t.length < 60 := by simp at h60; omega
              have eb : fX6_reckons_l4 ((a :: t).length : Int) (p : Int) hh = some (.inl (((t.length + 1 : Nat) : Int), ((p + 1 : Nat) : Int), st hh 59 t.length (if a = 0 then 1 else 0))) := by
                unfold fX6_reckons_l4
                rw [hl, gd_y ⟨by omega, by omega⟩, Int.toNat_natCast, r41, m2, if_neg (by decide), gd_y ⟨by omega, by omega⟩]
                unfold lb_
                dsimp only
                rw [if_neg (by decide), if_neg (by decide), if_pos rfl, im1 (by omega), gd_y ⟨by omega, by omega⟩, Int.toNat_natCast, hs.1]
                unfold fX6_reckons_j106
                rw [gd_y ⟨by omega, by omega⟩, Int.toNat_natCast, ip p (by omega), gd_y ⟨by omega, by omega⟩]
                split <;> rfl
              rw [eb]
              exact ih f (p + 1) ((if a = 0 then 1 else 0) :: t) _ _ _ (by simp) rfl hf' (by simp; omega) m4 hw.2 ⟨st_self, hs.2.cg (fun j hj => st_nk (by omega))⟩ (hS.st rfl)
          · rw [if_neg c3] at hw
            obtain ⟨hop, h2, hw2⟩ := hw
            match stk, hs, h2, hw2, h60 with
            | a :: b :: u, hs, h2, hw2, h60 =>
              have hl : ((a :: b :: u).length : Int) = ((u.length + 2 : Nat) : Int) := by simp; omega
              have hu : u.length + 1 < 60 := by simp at h60; omega
              have t4 : u.length < 4000 := by omega
              have t5 : u.length + 1 < 4000 := by omega
              obtain ⟨f1, f2, f3⟩ := hs
              have f1' : hh 59 (u.length + 1) = a := f1
              have wk := m_works (a := b) (b := a) (h := hh) hop
              have hne : h 41 p ≠ 0 ∧ h 41 p ≠ 1 ∧ h 41 p ≠ 2 ∧ h 41 p ≠ 3 := by
                rw [m2]
                rcases hop with rfl | rfl | rfl | rfl | rfl | rfl | rfl | rfl <;> decide
              rw [← m2] at wk
              have eb : fX6_reckons_l4 ((a :: b :: u).length : Int) (p : Int) hh = some (.inl (((u.length + 1 : Nat) : Int), ((p + 1 : Nat) : Int), st hh 59 u.length (tgt c b a))) := by
                unfold fX6_reckons_l4
                rw [hl, gd_y ⟨by omega, by omega⟩, Int.toNat_natCast, r41, if_neg hne.1, gd_y ⟨by omega, by omega⟩]
                unfold lb_
                dsimp only
                rw [if_neg hne.2.1, if_neg hne.2.2.1, if_neg hne.2.2.2, ip1 t5, im1 t4, gd_y ⟨by omega, by omega⟩, gd_y ⟨by omega, by omega⟩, Int.toNat_natCast, Int.toNat_natCast, f1', f2, wk]
                simp only [bp_]
                rw [gd_y ⟨by omega, by omega⟩, ip p (by omega)]
              rw [eb]
              simp only [if_neg c3]
              exact ih f (p + 1) (tgt c b a :: u) _ _ _ (by simp) rfl hf' (by simp; omega) m4 (by simpa using hw2) ⟨st_self, f3.cg (fun j hj => st_nk (by omega))⟩ (hS.st rfl)
  have hlen : ∀ (cd : List Int) (p : Nat), MC (h 41) p cd → p + cd.length < 2800 := by
    intro cd
    induction cd with
    | nil => intro p hm; exact hm.1
    | cons c cs ih =>
      intro p hm
      unfold MC at hm
      rw [List.length_cons]
      split at hm
      · have := ih _ hm.2.2.2; omega
      · split at hm
        · have := ih _ hm.2.2.2; omega
        · have := ih _ hm.2.2; omega
  unfold fX6_reckons
  simp only [wp_bp]
  refine (loop cd FU p [] h 0 (p : Int) rfl rfl (FU_big (by have := hlen cd p hm; omega)) (by decide) hm hw trivial Same.rf).mono ?_
  intro r hr
  simp only [wp_gd, wp_some]
  exact ⟨by decide, hr⟩
