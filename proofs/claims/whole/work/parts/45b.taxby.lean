/-! pure part: a law reckoned by the class -/
theorem im1 {k : Nat} (h : k < 4000) : i_sub ((k + 1 : Nat) : Int) 1 = (k : Int) := by rw [isb (by omega) (by omega)]; omega
theorem ip1 {k : Nat} (h : k < 4000) : i_add ((k + 1 : Nat) : Int) (-1) = (k : Int) := by rw [ia (by omega) (by omega)]; omega
theorem tb_go {L e top i : Nat} {hh : Hp} {cc : Int} (hL : L = 1 ∨ L = 9) (h0 : hh 20 0 = (L : Int)) (hi : i < e) (he : e ≤ 700) (hc : hh (L + 6) i = cc) : fX3_taxBy_l64 (e : Int) (top : Int) (i : Int) hh = (if cc < 20 then fX3_taxBy_j131 (top : Int) (e : Int) (i : Int) cc hh else (if ((64 : Nat) : Int) ≤ (top : Int) then fX3_taxBy_j131 (top : Int) (e : Int) (i : Int) cc hh else (if cc < 100 then bp_ (fX3_valueOf cc hh) (fun r36 => fX3_taxBy_j124 (top : Int) (e : Int) (i : Int) r36 (top : Int) hh) else fX3_taxBy_j124 (top : Int) (e : Int) (i : Int) ((i_sub cc 100)) (top : Int) hh))) := by
  have l6 : ((L : Int) + 6).toNat = L + 6 := by omega
  unfold fX3_taxBy_l64
  rw [if_neg (by omega), h0, gd_y (by omega), gd_y ⟨by omega, by omega⟩, l6, Int.toNat_natCast, hc]
  rfl
theorem tb_num {L e top i : Nat} {hh : Hp} {cc : Int} (hL : L = 1 ∨ L = 9) (h0 : hh 20 0 = (L : Int)) (hi : i < e) (he : e ≤ 700) (hc : hh (L + 6) i = cc) (ht : top < 60) (h1 : 100 ≤ cc) : fX3_taxBy_l64 (e : Int) (top : Int) (i : Int) hh = some (.inl (((top + 1 : Nat) : Int), ((i + 1 : Nat) : Int), st hh 25 top (i_sub cc 100))) := by
  rw [tb_go hL h0 hi he hc, if_neg (by omega), if_neg (by omega), if_neg (by omega)]
  unfold fX3_taxBy_j124
  rw [gd_y ⟨by omega, by omega⟩, Int.toNat_natCast, i1 (by omega), i1 (by omega)]
  rfl
theorem tb_val {L e top i : Nat} {hh : Hp} {cc v : Int} (hL : L = 1 ∨ L = 9) (h0 : hh 20 0 = (L : Int)) (hi : i < e) (he : e ≤ 700) (hc : hh (L + 6) i = cc) (ht : top < 60) (h1 : 20 ≤ cc) (h2 : cc < 100) (hv : fX3_valueOf cc hh = some v) : fX3_taxBy_l64 (e : Int) (top : Int) (i : Int) hh = some (.inl (((top + 1 : Nat) : Int), ((i + 1 : Nat) : Int), st hh 25 top v)) := by
  rw [tb_go hL h0 hi he hc, if_neg (by omega), if_neg (by omega), if_pos h2, hv]
  simp only [bp_]
  unfold fX3_taxBy_j124
  rw [gd_y ⟨by omega, by omega⟩, Int.toNat_natCast, i1 (by omega), i1 (by omega)]
  rfl
theorem tb_not {L e top i : Nat} {hh : Hp} {a : Int} (hL : L = 1 ∨ L = 9) (h0 : hh 20 0 = (L : Int)) (hi : i < e) (he : e ≤ 700) (hc : hh (L + 6) i = 3) (ht : top < 60) (ha : hh 25 top = a) : fX3_taxBy_l64 (e : Int) ((top + 1 : Nat) : Int) (i : Int) hh = some (.inl (((top + 1 : Nat) : Int), ((i + 1 : Nat) : Int), st hh 25 top (if a = 0 then 1 else 0))) := by
  have t4 : top < 4000 := by omega
  rw [tb_go hL h0 hi he hc, if_pos (by decide)]
  unfold fX3_taxBy_j131
  rw [if_pos rfl, if_neg (by omega), im1 t4, gd_y ⟨by omega, by omega⟩, Int.toNat_natCast, ha]
  unfold fX3_taxBy_j165
  rw [gd_y ⟨by omega, by omega⟩, gd_y ⟨by omega, by omega⟩, Int.toNat_natCast, i1 (by omega)]
  split <;> rfl
theorem tb_bin {L e top i : Nat} {hh : Hp} {a b cc : Int} (hL : L = 1 ∨ L = 9) (h0 : hh 20 0 = (L : Int)) (hi : i < e) (he : e ≤ 700) (hc : hh (L + 6) i = cc) (ht : top + 1 < 60) (ho : cc = 1 ∨ cc = 2 ∨ cc = 4 ∨ cc = 5 ∨ cc = 6 ∨ cc = 7 ∨ cc = 8 ∨ cc = 9) (ha : hh 25 (top + 1) = a) (hb : hh 25 top = b) : fX3_taxBy_l64 (e : Int) ((top + 2 : Nat) : Int) (i : Int) hh = some (.inl (((top + 1 : Nat) : Int), ((i + 1 : Nat) : Int), st hh 25 top (tgt cc b a))) := by
  have t4 : top < 4000 := by omega
  have t5 : top + 1 < 4000 := by omega
  have tg := c_together (a := b) (b := a) (h := hh) ho
  have c20 : cc < 20 ∧ cc ≠ 3 := by omega
  clear ho
  rw [tb_go hL h0 hi he hc, if_pos c20.1]
  unfold fX3_taxBy_j131
  rw [if_neg c20.2]
  unfold fX3_taxBy_j169
  rw [if_neg (by omega), if_neg (by omega), ip1 t5, im1 t4, gd_y ⟨by omega, by omega⟩, gd_y ⟨by omega, by omega⟩, Int.toNat_natCast, Int.toNat_natCast, ha, hb, tg]
  simp only [bp_]
  rw [gd_y ⟨by omega, by omega⟩, i1 (by omega)]
  rfl
theorem tb_loop {D : LD} {ht sd ro : Nat → Int} {fog L c e : Nat} {h : Hp} {vs : Nat → Int} (W : DW D) (H : CS D ht sd ro fog L h) (hc : c < D.cl) (h5 : h 20 5 = (c : Int)) (he : e ≤ 700) (hvs : vals D (h 20 9, h 20 10, h 20 11) (ht c) (h 20 6) (ro 61) (h 20 7) = vs) :
    ∀ (cd : List Int) (f i : Nat) (stk : List Int) (hh : Hp) (t0 x0 : Int), t0 = (stk.length : Int) → x0 = (i : Int) → cd.length < f → stk.length ≤ 60 → i + cd.length = e → (∀ j, j < cd.length → h (L + 6) (i + j) = cd.getD j 0) → wfC cd stk.length → STK (hh 25) stk → Same (fun a _ => a = 25) h hh →
      wp (it_ (fun s : Int × Int × Hp => fX3_taxBy_l64 (e : Int) s.1 s.2.1 s.2.2) f (t0, x0, hh)) (fun r => r.1 = 1 ∧ r.2 25 0 = (evC vs cd stk).headD 0 ∧ Same (fun a _ => a = 25) h r.2) := by
  intro cd
  induction cd with
  | nil =>
    intro f i stk hh t0 x0 et ex hf h60 hie hcd hw hs hS
    obtain ⟨f, rfl⟩ : ∃ f', f = f' + 1 := ⟨f - 1, by omega⟩
    have hie' : i = e := by simpa using hie
    have eb : fX3_taxBy_l64 (e : Int) (stk.length : Int) (i : Int) hh = some (.inr ((stk.length : Int), hh)) := by
      unfold fX3_taxBy_l64
      rw [if_pos (by omega)]
    have hw1 : stk.length = 1 := hw
    rw [et, ex]
    unfold it_
    rw [eb]
    refine ⟨_, rfl, by rw [hw1]; rfl, ?_, hS⟩
    obtain ⟨a, rfl⟩ := List.length_eq_one_iff.mp hw1
    exact hs.1
  | cons cc cs ih =>
    intro f i stk hh t0 x0 et ex hf h60 hie hcd hw hs hS
    obtain ⟨f, rfl⟩ : ∃ f', f = f' + 1 := ⟨f - 1, by omega⟩
    have hf' : cs.length < f := by simp at hf; omega
    have hie' : i + 1 + cs.length = e := by simp at hie; omega
    have hi : i < e := by omega
    have hL := H.1
    have h0 : hh 20 0 = (L : Int) := by rw [hS _ _ (by omega)]; exact H.2.1
    have hcc : hh (L + 6) i = cc := by
      rw [hS _ _ (by omega)]
      exact hcd 0 (by simp)
    have hcs : ∀ j, j < cs.length → h (L + 6) (i + 1 + j) = cs.getD j 0 := fun j hj => by
      have := hcd (j + 1) (by simp; omega)
      rw [show i + 1 + j = i + (j + 1) by omega, this]
      rfl
    clear hcd
    unfold wfC at hw
    unfold evC
    rw [et, ex]
    clear et ex
    unfold it_
    by_cases c1 : 100 ≤ cc
    · rw [if_pos c1] at hw ⊢
      rw [tb_num hL h0 hi he hcc hw.2.1 c1]
      exact ih f (i + 1) (i_sub cc 100 :: stk) _ _ _ (by simp) rfl hf' (by simp; omega) hie' hcs hw.2.2 ⟨st_self, hs.cg (fun j hj => st_nk (by omega))⟩ (hS.st rfl)
    · rw [if_neg c1] at hw ⊢
      by_cases c2 : 20 ≤ cc
      · rw [if_pos c2] at hw ⊢
        have hv : fX3_valueOf cc hh = some (vs (cc - 20).toNat) := by
          rw [c_valueOf W (H.same (hS.mono (fun a k p => Or.inr (Or.inr p)))) hc (by rw [hS _ _ (by omega)]; exact h5) ⟨c2, hw.1⟩, hS _ _ (by omega), hS _ _ (by omega), hS _ _ (by omega), hS _ _ (by omega), hS _ _ (by omega), hvs]
        rw [tb_val hL h0 hi he hcc hw.2.1 c2 (by omega) hv]
        exact ih f (i + 1) (vs (cc - 20).toNat :: stk) _ _ _ (by simp) rfl hf' (by simp; omega) hie' hcs hw.2.2 ⟨st_self, hs.cg (fun j hj => st_nk (by omega))⟩ (hS.st rfl)
      · rw [if_neg c2] at hw ⊢
        by_cases c3 : cc = 3
        · subst c3
          rw [if_pos rfl] at hw
          match stk, hs, hw, h60 with
          | a :: t, hs, hw, h60 =>
            have ht6 : t.length < 60 := by simp at h60; omega
            have hl : ((a :: t).length : Int) = ((t.length + 1 : Nat) : Int) := by simp
            rw [hl, tb_not hL h0 hi he hcc ht6 hs.1]
            exact ih f (i + 1) ((if a = 0 then 1 else 0) :: t) _ _ _ (by simp) rfl hf' (by simp; omega) hie' hcs hw.2 ⟨st_self, hs.2.cg (fun j hj => st_nk (by omega))⟩ (hS.st rfl)
        · rw [if_neg c3] at hw
          obtain ⟨hop, h2, hw2⟩ := hw
          match stk, hs, h2, hw2, h60 with
          | a :: b :: u, hs, h2, hw2, h60 =>
            have hu6 : u.length + 1 < 60 := by simp at h60; omega
            have hl : ((a :: b :: u).length : Int) = ((u.length + 2 : Nat) : Int) := by simp; omega
            rw [hl, tb_bin hL h0 hi he hcc hu6 hop hs.1 hs.2.1]
            simp only [if_neg c3]
            exact ih f (i + 1) (tgt cc b a :: u) _ _ _ (by simp) rfl hf' (by simp; omega) hie' hcs (by simpa using hw2) ⟨st_self, hs.2.2.cg (fun j hj => st_nk (by omega))⟩ (hS.st rfl)
theorem tb_end {z : Int} {x : Int × Hp} {P : Int × Hp → Prop} (h1 : x.1 = 1) (h2 : x.2 25 0 = z) (hP : P (clmp z, x.2)) : wp (if x.1 ≤ 0 then some (0, x.2) else gd_ (0 ≤ (0 : Int) ∧ (0 : Int) < 64) (bp_ (fJ9_min_7cf53 999 (x.2 25 (Int.toNat 0)) x.2) (fun r56 => bp_ (fJ9_max_7cf53 0 r56 x.2) (fun r58 => some (r58, x.2))))) P := by
  rw [if_neg (by omega), wp_gd]
  refine ⟨by decide, ?_⟩
  rw [show x.2 25 (Int.toNat 0) = z from h2]
  have e : bp_ (fJ9_min_7cf53 999 z x.2) (fun r56 => bp_ (fJ9_max_7cf53 0 r56 x.2) (fun r58 => some (r58, x.2))) = some (clmp z, x.2) := by
    unfold fJ9_min_7cf53 fJ9_max_7cf53 clmp
    by_cases q1 : z < 0
    · rw [if_pos (by omega), if_pos q1]
      simp only [bp_]
      rw [if_neg (by omega)]
    · rw [if_neg q1]
      by_cases q2 : 999 < z
      · rw [if_neg (by omega), if_pos q2]
        rfl
      · rw [if_neg q2]
        by_cases q3 : z < 999
        · rw [if_pos q3]
          simp only [bp_]
          by_cases q4 : 0 < z
          · rw [if_pos q4]
          · rw [if_neg q4, show z = 0 by omega]
        · rw [if_neg q3, show z = 999 by omega]
          rfl
  rw [e]
  exact wp_some.mpr hP
theorem c_taxBy {D : LD} {ht sd ro : Nat → Int} {fog L c : Nat} {h : Hp} {law : Int} (W : DW D) (H : CS D ht sd ro fog L h) (hc : c < D.cl) (h5 : h 20 5 = (c : Int)) (hl : -1 ≤ law ∧ law < (D.nl : Int)) :
    wp (fX3_taxBy law h) (fun r => r.1 = (if law < 0 then h 20 9 else clmp ((evC (vals D (h 20 9, h 20 10, h 20 11) (ht c) (h 20 6) (ro 61) (h 20 7)) (D.cd law.toNat) []).headD 0)) ∧ Same (fun a _ => a = 25) h r.2) := by
  have hL := H.1
  have h0 := H.2.1
  have hcl := H.2.2.1
  have l5 : ((L : Int) + 5).toNat = L + 5 := by omega
  by_cases q : law < 0
  · unfold fX3_taxBy
    rw [if_pos q]
    exact wp_some.mpr ⟨by rw [if_pos q], Same.rf⟩
  obtain ⟨l, rfl⟩ : ∃ l : Nat, law = (l : Int) := ⟨law.toNat, by omega⟩
  have hl4 := W.2.2.2.1
  obtain ⟨e, e0, he⟩ := hcl.2.2.2.2.2.2.2.2
  obtain ⟨g1, g2, g3, g4, g5⟩ := he l (by omega)
  have hmn : fJ9_min_7cf53 ((e (l + 1) : Nat) : Int) ((700 : Nat) : Int) h = some ((e (l + 1) : Nat) : Int) := by
    unfold fJ9_min_7cf53
    rw [if_neg (by omega)]
  have loop := tb_loop W H hc h5 g3 rfl (D.cd l) FU (e l) [] h 0 ((e l : Nat) : Int) rfl rfl (FU_big (by omega)) (by decide) (by omega) g5 (W.2.2.2.2.2.2.2.2 l (by omega)) trivial Same.rf
  unfold fX3_taxBy
  rw [if_neg q, h0, gd_y (by omega), Int.toNat_natCast, hcl.2.2.2.1, if_pos (by omega), gd_y ⟨by omega, by omega⟩, l5, Int.toNat_natCast, g1, hmn]
  simp only [wp_bp, wp_some]
  by_cases ql : (l : Int) = 0
  · have hl0 : l = 0 := by omega
    subst hl0
    rw [if_pos ql, wp_bp]
    rw [e0, show ((0 : Nat) : Int) = 0 from rfl] at loop
    exact loop.mono (fun r hr => tb_end (z := (evC (vals D (h 20 9, h 20 10, h 20 11) (ht c) (h 20 6) (ro 61) (h 20 7)) (D.cd 0) []).headD 0) hr.1 hr.2.1 ⟨rfl, hr.2.2⟩)
  · have es : i_sub (l : Int) 1 = ((l - 1 : Nat) : Int) := by
      obtain ⟨m, rfl⟩ : ∃ m, l = m + 1 := ⟨l - 1, by omega⟩
      exact im1 (by omega)
    obtain ⟨g1', -⟩ := he (l - 1) (by omega)
    rw [show l - 1 + 1 = l by omega] at g1'
    rw [if_neg ql, es, gd_y ⟨by omega, by omega⟩, Int.toNat_natCast, g1']
    simp only [wp_lb, wp_bp]
    rw [if_neg q]
    exact loop.mono (fun r hr => tb_end (z := (evC (vals D (h 20 9, h 20 10, h 20 11) (ht c) (h 20 6) (ro 61) (h 20 7)) (D.cd l) []).headD 0) hr.1 hr.2.1 ⟨rfl, hr.2.2⟩)
