/-! pure part: the class's look all round, and its tax -/
def LK (w d : Nat) (sd : Nat → Int) (fog c : Nat) (eye : Int) (shut : Nat → Bool) (kd fl : Int) (k : Nat) (h h' : Hp) : Prop :=
  h' 20 5 = (c : Int) ∧ h' 20 6 = kd ∧ h' 20 7 = fl ∧ h' 20 9 = (lkS w d sd fog c eye shut k).1 ∧ h' 20 10 = (lkS w d sd fog c eye shut k).2.1 ∧ h' 20 11 = (lkS w d sd fog c eye shut k).2.2 ∧ h' 20 12 = lkSO w d fog c shut k ∧ (∀ n, n < k → h' 24 n = lkF w d sd fog c eye shut n) ∧ Same SL h h'
theorem c_look {D : LD} {ht sd ro : Nat → Int} {fog L c : Nat} {h : Hp} {kd fl so : Int} (W : DW D) (H : CS D ht sd ro fog L h) (hc : c < D.cl) :
    wp (fX3_look (c : Int) kd fl so h) (fun r => r.1 = 0 ∧ LK D.w D.d sd fog c (i_add (i_add (ht c) 2) fl) (shB kd so) kd fl 8 h r.2) := by
  obtain ⟨hL, a1, a2, a3, a4, a5, a6, a7⟩ := H
  unfold fX3_look
  simp only [wp_lb, wp_bp]
  generalize hh7 : st (st (st (st (st (st (st h 20 5 (c : Int)) 20 6 kd) 20 7 fl) 20 9 0) 20 10 0) 20 11 0) 20 12 0 = h7
  have s7 : Same SL h h7 := by
    rw [← hh7]
    exact ((((((st_same (Or.inl ⟨rfl, by decide⟩)).st (Or.inl ⟨rfl, by decide⟩)).st (Or.inl ⟨rfl, by decide⟩)).st (Or.inl ⟨rfl, by decide⟩)).st (Or.inl ⟨rfl, by decide⟩)).st (Or.inl ⟨rfl, by decide⟩)).st (Or.inl ⟨rfl, by decide⟩)
  refine (wp_for (Q := fun hq => LK D.w D.d sd fog c (i_add (i_add (ht c) 2) fl) (shB kd so) kd fl 8 h hq) (fun k s => s.1 = (k : Int) ∧ LK D.w D.d sd fog c (i_add (i_add (ht c) 2) fl) (shB kd so) kd fl k h s.2) 8 ?_ ?_ (FU_big (by decide)) ?_).mono ?_
  · rintro k ⟨kk, hk⟩ hk8 ⟨e1, b5, b6, b7, b9, b10, b11, b12, b24, bs⟩
    dsimp only at e1 b5 b6 b7 b9 b10 b11 b12 b24 bs ⊢
    subst e1
    have fin : ∀ (z : Int) (h1 : Hp), h1 20 5 = (c : Int) → h1 20 6 = kd → h1 20 7 = fl → h1 20 9 = hk 20 9 → h1 20 10 = hk 20 10 → (∀ n, n < k → h1 24 n = hk 24 n) → Same SL h h1 →
        (z, h1 20 11) = (if shB kd so k = true then (0, (lkS D.w D.d sd fog c (i_add (i_add (ht c) 2) fl) (shB kd so) k).2.2) else lkD D.w D.d sd fog c (i_add (i_add (ht c) 2) fl) k (lkS D.w D.d sd fog c (i_add (i_add (ht c) 2) fl) (shB kd so) k).2.2) →
        h1 20 12 = lkSO D.w D.d fog c (shB kd so) (k + 1) →
        wp (fX3_look_j83 kd so (k : Int) z h1) (E2 (fun s => s.1 = ((k + 1 : Nat) : Int) ∧ LK D.w D.d sd fog c (i_add (i_add (ht c) 2) fl) (shB kd so) kd fl (k + 1) h s.2) (fun hq => LK D.w D.d sd fog c (i_add (i_add (ht c) 2) fl) (shB kd so) kd fl 8 h hq)) := by
      intro z h1 c5 c6 c7 c9 c10 c24 cs cz c12
      have hz : z = lkF D.w D.d sd fog c (i_add (i_add (ht c) 2) fl) (shB kd so) k := by
        unfold lkF
        by_cases hs : shB kd so k = true
        · rw [if_pos hs] at cz ⊢
          exact (Prod.mk.inj cz).1
        · rw [if_neg hs] at cz ⊢
          rw [lkD_v (v' := (lkS D.w D.d sd fog c (i_add (i_add (ht c) 2) fl) (shB kd so) k).2.2), ← cz]
      unfold fX3_look_j83
      simp only [wp_gd, wp_lb, wp_bp, Int.toNat_natCast]
      refine ⟨⟨by omega, by omega⟩, ?_⟩
      have q9 : st h1 24 k z 20 9 = hk 20 9 := by rw [st_na (by decide)]; exact c9
      rw [q9]
      have q10 : st (st h1 24 k z) 20 9 (i_add (hk 20 9) z) 20 10 = hk 20 10 := by rw [st_nk (by decide), st_na (by decide)]; exact c10
      rw [q10]
      have hmx : fJ9_max_7cf53 (hk 20 10) z (st (st h1 24 k z) 20 9 (i_add (hk 20 9) z)) = some (if hk 20 10 < z then z else hk 20 10) := by
        unfold fJ9_max_7cf53
        split <;> rfl
      rw [hmx]
      simp only [wp_some, E2_l]
      refine ⟨i1 (by omega), ?_⟩
      have cz1 : z = (if shB kd so k = true then (0, (lkS D.w D.d sd fog c (i_add (i_add (ht c) 2) fl) (shB kd so) k).2.2) else lkD D.w D.d sd fog c (i_add (i_add (ht c) 2) fl) k (lkS D.w D.d sd fog c (i_add (i_add (ht c) 2) fl) (shB kd so) k).2.2).1 := by rw [← cz]
      have cz2 : h1 20 11 = (if shB kd so k = true then (0, (lkS D.w D.d sd fog c (i_add (i_add (ht c) 2) fl) (shB kd so) k).2.2) else lkD D.w D.d sd fog c (i_add (i_add (ht c) 2) fl) k (lkS D.w D.d sd fog c (i_add (i_add (ht c) 2) fl) (shB kd so) k).2.2).2 := by rw [← cz]
      refine ⟨?_, ?_, ?_, ?_, ?_, ?_, ?_, ?_, ?_⟩
      · simp [st_at]; exact c5
      · simp [st_at]; exact c6
      · simp [st_at]; exact c7
      · rw [st_nk (by decide), st_self, b9, cz1]
        rfl
      · rw [st_self, b10, cz1]
        rfl
      · rw [st_nk (by decide), st_nk (by decide), st_na (by decide), cz2]
        rfl
      · rw [st_nk (by decide), st_nk (by decide), st_na (by decide)]; exact c12
      · intro n hn
        rw [st_na (by decide), st_na (by decide)]
        by_cases e : n = k
        · subst e
          rw [st_self]; exact hz
        · rw [st_nk e, c24 n (by omega)]
          exact b24 n (by omega)
      · exact ((cs.st (Or.inr (Or.inl rfl))).st (Or.inl ⟨rfl, by decide⟩)).st (Or.inl ⟨rfl, by decide⟩)
    have closed : shB kd so k = true → wp (fX3_look_j61 kd so (k : Int) hk) (E2 (fun s => s.1 = ((k + 1 : Nat) : Int) ∧ LK D.w D.d sd fog c (i_add (i_add (ht c) 2) fl) (shB kd so) kd fl (k + 1) h s.2) (fun hq => LK D.w D.d sd fog c (i_add (i_add (ht c) 2) fl) (shB kd so) kd fl 8 h hq)) := by
      intro hs
      unfold fX3_look_j61 fX3_look_j66
      rw [if_neg (by decide)]
      refine fin 0 hk b5 b6 b7 rfl rfl (fun _ _ => rfl) bs ?_ ?_
      · rw [if_pos hs, b11]
      · show _ = (if _ then _ else _)
        rw [if_pos hs]; exact b12
    unfold fX3_look_l38
    simp only [wp_ite, wp_bp]
    refine ⟨fun q => absurd q (by omega), fun _ => ⟨fun q => closed (by unfold shB; simp [q]), fun q => ?_⟩⟩
    rw [hasBit_eq (by omega)]
    simp only [wp_some, wp_ite]
    refine ⟨fun q2 => ?_, fun q2 => closed (by unfold shB; cases hb : bt so k with | true => simp | false => rw [hb] at q2; exact absurd rfl q2)⟩
    have hs : ¬ shB kd so k = true := by
      unfold shB
      cases hb : bt so k with
      | true => rw [hb] at q2; exact absurd q2 (by decide)
      | false => simp [q]
    unfold fX3_look_j66
    rw [if_pos rfl]
    simp only [wp_bd]
    have hLc : L = 1 ∨ L = 9 := hL
    refine (c_lookAlong (w := D.w) (d := D.d) (sd := sd) (fog := fog) (L := L) (n := k) (c := c) (h := hk) W.1 W.2.1 hL (by rw [bs _ _ (by unfold SL; omega)]; exact a1) (by rw [bs _ _ (by unfold SL; omega)]; exact a2.1) (by rw [bs _ _ (by unfold SL; omega)]; exact a2.2.1) (by rw [bs _ _ (by unfold SL; omega)]; exact a6) a7 b5 hc (fun c' hc' => by rw [bs _ _ (by unfold SL; omega)]; exact a4 c' hc') hk8).mono ?_
    rintro ⟨far, h1⟩ ⟨r1, r2, r3, r4⟩
    dsimp only at r1 r2 r3 r4 ⊢
    have eh : hk 22 c = ht c := by rw [bs _ _ (by unfold SL; omega)]; exact a3 c hc
    rw [eh, b7] at r1 r2
    refine fin far h1 (by rw [r4 _ _ (by unfold S2; omega)]; exact b5) (by rw [r4 _ _ (by unfold S2; omega)]; exact b6) (by rw [r4 _ _ (by unfold S2; omega)]; exact b7) (r4 _ _ (by unfold S2; omega)) (r4 _ _ (by unfold S2; omega)) (fun n _ => r4 _ _ (by unfold S2; omega)) (bs.tr (r4.mono (fun a k p => Or.inl ⟨p.1, by have := p.2; omega⟩))) ?_ ?_
    · rw [if_neg hs, r1, r2, b11]
    · rw [r3]
      show _ = (if _ then _ else _)
      rw [if_neg hs, b12]
  · rintro ⟨kk, hk⟩ ⟨e1, b⟩
    dsimp only at e1 b ⊢
    subst e1
    unfold fX3_look_l38
    simp only [wp_ite, wp_some, E2_r]
    exact ⟨fun _ => b, fun q => absurd q (by decide)⟩
  · refine ⟨rfl, ?_⟩
    rw [← hh7] at s7 ⊢
    refine ⟨?_, ?_, ?_, ?_, ?_, ?_, ?_, fun n hn => absurd hn (by omega), s7⟩ <;> simp [st_at, lkS, lkSO]
  · intro hq b
    simp only [wp_some]
    exact ⟨trivial, b⟩
