/-! pure part: the class reads a law -/
theorem law_0 {b : Nat → Int} {n : Nat} {S : LwS} (h : tkK b n S.2.2.1 = 0) : (lawStep b n S).2.2.2.2.2.1 = S.2.2.2.2.2.1 ∧ (lawStep b n S).2.2.2.2.2.2 = S.2.2.2.2.2.2 := by
  unfold lawStep
  dsimp only
  by_cases q : S.2.1 = 3
  · rw [if_pos q]
    unfold behS
    have ho : opS b n S.2.2.1 = -1 := by
      by_cases z : opS b n S.2.2.1 = -1
      · exact z
      · exact absurd h (opS_rg z).2.2
    rw [if_neg (fun z => by rw [h] at z; exact absurd z.1 (by decide)), if_neg (fun z => by rw [h] at z; exact absurd z.1 (by decide)), if_pos ho]
    exact ⟨rfl, rfl⟩
  · rw [if_neg q]
    unfold partS
    rw [if_pos (by rw [h]; decide)]
    exact ⟨rfl, rfl⟩
theorem law_sz {b : Nat → Int} {n base : Nat} {S : LwS} (hI : LIw S) (l : liveL S) (hp : S.2.2.1 ≤ n) (hs : base + S.2.2.2.2.2.2.length + S.2.2.2.2.2.1.length ≤ S.2.2.1) :
    base + (lawStep b n S).2.2.2.2.2.2.length + (lawStep b n S).2.2.2.2.2.1.length ≤ (lawStep b n S).2.2.1 ∧ (lawStep b n S).2.2.1 ≤ n ∧ (liveL (lawStep b n S) → S.2.2.1 + 1 ≤ (lawStep b n S).2.2.1) := by
  obtain ⟨a1, a2, a3, a4⟩ := law_LI (b := b) (n := n) hI l
  obtain ⟨r1, r2, r3, r4, r5⟩ := tk_rg (b := b) hp
  have ep : (lawStep b n S).2.2.1 = tkE b n S.2.2.1 := rfl
  rw [ep]
  by_cases q : tkK b n S.2.2.1 = 0
  · obtain ⟨z1, z2⟩ := law_0 (b := b) (n := n) q
    rw [z1, z2]
    exact ⟨by omega, r3, fun z => absurd z.1 (a4 q)⟩
  · have := r4 q
    exact ⟨by omega, r3, fun _ => by omega⟩
def SLw (L base : Nat) : Nat → Nat → Prop := fun a k => (a = 18 ∧ ((2 ≤ k ∧ k ≤ 7) ∨ (13 ≤ k ∧ k ≤ 16))) ∨ a = 19 ∨ (a = L + 6 ∧ base ≤ k)
def updL (cd : Nat → List Int) (l : Nat) (C : List Int) : Nat → List Int := fun j => if j = l then C else cd j
theorem esum_upd {cd : Nat → List Int} {m : Nat} {C : List Int} : ∀ l, l ≤ m → esum (updL cd m C) l = esum cd l
  | 0, _ => rfl
  | l + 1, h => by
    show esum (updL cd m C) l + (updL cd m C l).length = esum cd l + (cd l).length
    rw [esum_upd l (by omega)]
    have : updL cd m C l = cd l := if_neg (by omega)
    rw [this]
theorem CDl.law {A : Hp} {cd : Nat → List Int} {L nl : Nat} {C : List Int} {h0 h : Hp} (D : CDl A cd L h0) (hL : L = 1 ∨ L = 9) (hn : A 8 5 = (nl : Int)) (s : Same (SLw L (esum cd nl)) h0 h) (e14 : h 18 14 = ((esum cd nl + C.length : Nat) : Int)) (ec : ∀ j, j < C.length → h (L + 6) (esum cd nl + j) = C.getD j 0) :
    CDl (st A 8 5 ((nl : Int) + 1)) (updL cd nl C) L (st (st h (L + 5) nl ((esum cd nl + C.length : Nat) : Int)) L 8 ((nl : Int) + 1)) := by
  obtain ⟨d1, ⟨e1, e2, e3, e4, e5, e6, e7, e8⟩, d3, d4, d5, d6, d7, d8⟩ := D
  rw [hn] at d7
  have k18 : ∀ k, 8 ≤ k → k ≤ 11 → h 18 k = h0 18 k := fun k h1 h2 => s _ _ (by unfold SLw; omega)
  have kL : ∀ a k, L ≤ a → a ≤ L + 7 → a ≠ L + 6 → h a k = h0 a k := fun a k h1 h2 h3 => s _ _ (by unfold SLw; omega)
  have hF : ∀ a k, ¬ (a = L + 5 ∧ k = nl) → ¬ (a = L ∧ k = 8) → st (st h (L + 5) nl ((esum cd nl + C.length : Nat) : Int)) L 8 ((nl : Int) + 1) a k = h a k := fun a k h1 h2 => by
    have z1 : st (st h (L + 5) nl ((esum cd nl + C.length : Nat) : Int)) L 8 ((nl : Int) + 1) a k = st h (L + 5) nl ((esum cd nl + C.length : Nat) : Int) a k := if_neg h2
    have z2 : st h (L + 5) nl ((esum cd nl + C.length : Nat) : Int) a k = h a k := if_neg h1
    rw [z1, z2]
  have a8 : ∀ j, j ≠ 5 → st A 8 5 ((nl : Int) + 1) 8 j = A 8 j := fun j hj => by rw [st_nk hj]
  have a85 : st A 8 5 ((nl : Int) + 1) 8 5 = (nl : Int) + 1 := st_self
  have aN : ∀ a j, a ≠ 8 → st A 8 5 ((nl : Int) + 1) a j = A a j := fun a j ha => by rw [st_na ha]
  refine ⟨?_, ⟨?_, ?_, ?_, ?_, ?_, ?_, ?_, ?_⟩, fun c hc => ?_, fun k h1 h2 => ?_, fun i hi => ?_, fun i hi => ?_, fun l hl => ?_, ?_⟩
  · rw [hF _ _ (by omega) (by omega), k18 _ (by decide) (by decide)]; exact d1
  · rw [hF _ _ (by omega) (by omega), kL _ _ (by omega) (by omega) (by omega), a8 _ (by decide)]; exact e1
  · rw [hF _ _ (by omega) (by omega), kL _ _ (by omega) (by omega) (by omega), a8 _ (by decide)]; exact e2
  · rw [hF _ _ (by omega) (by omega), k18 _ (by decide) (by decide), a8 _ (by decide)]; exact e3
  · rw [hF _ _ (by omega) (by omega), kL _ _ (by omega) (by omega) (by omega), a8 _ (by decide)]; exact e4
  · rw [hF _ _ (by omega) (by omega), kL _ _ (by omega) (by omega) (by omega), a8 _ (by decide)]; exact e5
  · rw [a85]; exact st_self
  · rw [hF _ _ (by omega) (by omega), k18 _ (by decide) (by decide), a8 _ (by decide)]; exact e7
  · rw [hF _ _ (by omega) (by omega), k18 _ (by decide) (by decide), a8 _ (by decide)]; exact e8
  · rw [hF _ _ (by omega) (by omega), kL _ _ (by omega) (by omega) (by omega), aN _ _ (by decide)]; exact d3 c hc
  · rw [hF _ _ (by omega) (by omega), kL _ _ (by omega) (by omega) (by omega), aN _ _ (by decide)]; exact d4 k h1 h2
  · rw [a8 _ (by decide)] at hi
    rw [hF _ _ (by omega) (by omega), hF _ _ (by omega) (by omega), kL _ _ (by omega) (by omega) (by omega), kL _ _ (by omega) (by omega) (by omega), aN _ _ (by decide), aN _ _ (by decide)]; exact d5 i hi
  · rw [a8 _ (by decide)] at hi
    rw [hF _ _ (by omega) (by omega), kL _ _ (by omega) (by omega) (by omega), aN _ _ (by decide)]; exact d6 i hi
  · rw [a85] at hl
    by_cases q : l = nl
    · subst q
      have eu : updL cd l C l = C := if_pos rfl
      have es : esum (updL cd l C) (l + 1) = esum cd l + C.length := by
        show esum (updL cd l C) l + (updL cd l C l).length = _
        rw [esum_upd l (Nat.le_refl _), eu]
      rw [es, eu, esum_upd l (Nat.le_refl _)]
      refine ⟨?_, fun j hj => ?_⟩
      · have z1 : st (st h (L + 5) l ((esum cd l + C.length : Nat) : Int)) L 8 ((l : Int) + 1) (L + 5) l = st h (L + 5) l ((esum cd l + C.length : Nat) : Int) (L + 5) l := st_na (by omega)
        rw [z1, st_self]
      · rw [hF _ _ (by omega) (by omega)]; exact ec j hj
    · have lt : l < nl := by clear d3 d4 d5 d6 d7 kL k18 hF a8 aN; omega
      obtain ⟨z1, z2⟩ := d7 l (by clear d3 d4 d5 d6 d7 kL k18 hF a8 aN; omega)
      have eu : updL cd nl C l = cd l := if_neg q
      rw [esum_upd (l + 1) (by omega), esum_upd l (by omega), eu, hF _ _ (by omega) (by omega), kL _ _ (by omega) (by omega) (by omega)]
      refine ⟨z1, fun j hj => ?_⟩
      have mono : ∀ a c : Nat, a ≤ c → esum cd a ≤ esum cd c := by
        intro a c hac
        induction c with
        | zero => rw [show a = 0 by omega]; exact Nat.le_refl _
        | succ c ih =>
          by_cases y : a = c + 1
          · rw [y]; exact Nat.le_refl _
          · exact Nat.le_trans (ih (by omega)) (Nat.le_add_right _ _)
      have m1 := mono (l + 1) nl (by omega)
      have m2 : esum cd (l + 1) = esum cd l + (cd l).length := rfl
      rw [hF _ _ (by omega) (by omega), s _ _ (by unfold SLw; omega)]
      exact z2 j hj
  · rw [hF _ _ (by omega) (by omega), a85, e14]
    have e : ((nl : Int) + 1).toNat = nl + 1 := by omega
    rw [e]
    show _ = ((esum (updL cd nl C) nl + (updL cd nl C nl).length : Nat) : Int)
    have eu : updL cd nl C nl = C := if_pos rfl
    rw [esum_upd nl (Nat.le_refl _), eu]
theorem c_lawL {b : Nat → Int} {n p0 L base : Nat} {h0 h : Hp} (T : TPk b n h0) (hL : L = 1 ∨ L = 9) (h9 : Same (SLw L base) h0 h) (K0 : CTk b n p0 h) (F0 : FLc none h) (hp0 : p0 ≤ n) (D0 : CLw L base 0 [] [] h) (z0 : h 18 16 = 0) (hb : base ≤ p0) :
    wp (it_ (fun s : Int × Int × Hp => fX2_readLaw_l40 s.1 s.2.1 s.2.2) FU (0, 0, h)) (fun hq => ∃ S : LwS, OutL b n (none, 0, p0, 0, 0, [], []) S ∧ Same (SLw L base) h0 hq ∧ FLc S.1 hq ∧ CTk b n S.2.2.1 hq ∧ CLw L base S.2.2.2.1 S.2.2.2.2.2.1 S.2.2.2.2.2.2 hq ∧ S.2.2.1 ≤ n ∧ base + S.2.2.2.2.2.2.length + S.2.2.2.2.2.1.length ≤ S.2.2.1 ∧ (S.1 = none → wfC S.2.2.2.2.2.2 0)) := by
  have n7 := T.1
  have LI0 : LIw (none, 0, p0, 0, 0, [], []) := ⟨trivial, rfl, Nat.zero_le _, fun z => absurd rfl z, fun _ => rfl, fun z => absurd z (by simp), fun z => absurd z (by simp), fun _ => rfl, fun z => absurd z (by simp), rfl, by simp⟩
  refine wp_for (fun i (s : Int × Int × Hp) => s.2.1 = (i : Int) ∧ ∃ S : LwS, RcL b n (none, 0, p0, 0, 0, [], []) S ∧ s.1 = (S.2.1 : Int) ∧ Same (SLw L base) h0 s.2.2 ∧ FLc S.1 s.2.2 ∧ CTk b n S.2.2.1 s.2.2 ∧ CLw L base S.2.2.2.1 S.2.2.2.2.2.1 S.2.2.2.2.2.2 s.2.2 ∧ s.2.2 18 16 = (S.2.2.2.2.1 : Int) ∧ S.2.2.1 ≤ n ∧ base + S.2.2.2.2.2.2.length + S.2.2.2.2.2.1.length ≤ S.2.2.1 ∧ (liveL S → i ≤ S.2.2.1 ∧ LIw S) ∧ (¬ liveL S → S.1 = none → wfC S.2.2.2.2.2.2 0)) (n + 1) ?_ ?_ (FU_big (by omega)) ⟨rfl, (none, 0, p0, 0, 0, [], []), RcL_0, rfl, h9, F0, K0, D0, z0, hp0, hb, fun _ => ⟨Nat.zero_le _, LI0⟩, fun z => absurd ⟨rfl, by simp⟩ z⟩
  · rintro i ⟨x, y, hh⟩ hi ⟨e0, S, e1, e2, e3, e4, e5, e6, e7, e8, e9, e10, e11⟩
    dsimp only at e0 e2 e3 e4 e5 e6 e7 ⊢
    subst e0
    subst e2
    have T1 : TPk b n hh := T.same (fun k => e3 _ _ (by unfold SLw; omega))
    unfold fX2_readLaw_l40
    rw [e5.1]
    refine w_f (by clear e7; omega) ?_
    by_cases q1 : S.1 = none
    · refine w_t (e4.z.mpr q1) ?_
      by_cases q4 : S.2.1 = 4
      · have nl : ¬ liveL S := fun z => z.2 q4
        exact w_t (by clear e7; omega) (wp_some.mpr ⟨S, ⟨e1, nl⟩, e3, e4, e5, e6, e8, e9, e11 nl⟩)
      · refine w_f (by clear e7; omega) ?_
        have lv : liveL S := ⟨q1, q4⟩
        obtain ⟨ei, eI⟩ := e10 lv
        obtain ⟨LI1, LI2, -, -⟩ := law_LI (b := b) (n := n) eI lv
        obtain ⟨z1, z2, z3⟩ := law_sz (b := b) eI lv e8 e9
        have rc := RcL_s e1 lv
        obtain ⟨fl, nx, p, win, nots, W, C⟩ := S
        dsimp only at *
        subst q1
        have sz := stW_83 eI.1 (by rw [eI.2.1]; exact eI.2.2.1)
        dsimp only at sz
        rw [c_kw (k := 16) T1 e5 e8 (by decide) (by decide), wp_bp, wp_some]
        -- behind the count of nots
        have go : ∀ z : Int, z = ((lwN b n p nots : Nat) : Int) → wp (fX2_readLaw_j80 (nx : Int) (i : Int) z hh) (E2 (fun s : Int × Int × Hp => s.2.1 = ((i + 1 : Nat) : Int) ∧ ∃ S : LwS, RcL b n (none, 0, p0, 0, 0, [], []) S ∧ s.1 = (S.2.1 : Int) ∧ Same (SLw L base) h0 s.2.2 ∧ FLc S.1 s.2.2 ∧ CTk b n S.2.2.1 s.2.2 ∧ CLw L base S.2.2.2.1 S.2.2.2.2.2.1 S.2.2.2.2.2.2 s.2.2 ∧ s.2.2 18 16 = (S.2.2.2.2.1 : Int) ∧ S.2.2.1 ≤ n ∧ base + S.2.2.2.2.2.2.length + S.2.2.2.2.2.1.length ≤ S.2.2.1 ∧ (liveL S → i + 1 ≤ S.2.2.1 ∧ LIw S) ∧ (¬ liveL S → S.1 = none → wfC S.2.2.2.2.2.2 0)) (fun hq => ∃ S : LwS, OutL b n (none, 0, p0, 0, 0, [], []) S ∧ Same (SLw L base) h0 hq ∧ FLc S.1 hq ∧ CTk b n S.2.2.1 hq ∧ CLw L base S.2.2.2.1 S.2.2.2.2.2.1 S.2.2.2.2.2.2 hq ∧ S.2.2.1 ≤ n ∧ base + S.2.2.2.2.2.2.length + S.2.2.2.2.2.1.length ≤ S.2.2.1 ∧ (S.1 = none → wfC S.2.2.2.2.2.2 0))) := by
          intro z hz
          subst hz
          unfold fX2_readLaw_j80
          rw [wp_lb]
          generalize hE : st hh 18 16 ((lwN b n p nots : Nat) : Int) = h15
          have s15 : Same (SLw L base) h0 h15 := by rw [← hE]; exact e3.st (Or.inl ⟨rfl, Or.inr ⟨by decide, by decide⟩⟩)
          have K15 : CTk b n p h15 := e5.same (fun k h1 h2 => by rw [← hE, st_nk (by omega)])
          have F15 : FLc none h15 := e4.same (by rw [← hE, st_nk (by decide)]) (by rw [← hE, st_nk (by decide)])
          have D15 : CLw L base win W C h15 := e6.same hL (fun a k z => by
            rw [← hE]
            show (if a = 18 ∧ k = 16 then _ else hh a k) = hh a k
            rw [if_neg (by omega)])
          have x16 : h15 18 16 = ((lwN b n p nots : Nat) : Int) := by rw [← hE]; exact st_self
          have T15 : TPk b n h15 := T.same (fun k => s15 _ _ (by unfold SLw; omega))
          clear hE
          -- the step's end
          have fin : ∀ (r : Flw × Nat × Nat × List Int × List Int) (h19 : Hp), lawStep b n (none, nx, p, win, nots, W, C) = (r.1, r.2.1, tkE b n p, r.2.2.1, lwN b n p nots, r.2.2.2.1, r.2.2.2.2) → FLc r.1 h19 → Same (SQw L base) h15 h19 → CLw L base r.2.2.1 r.2.2.2.1 r.2.2.2.2 h19 → wp (fX2_readLaw_j100 (i : Int) (r.2.1 : Int) h19) (E2 (fun s : Int × Int × Hp => s.2.1 = ((i + 1 : Nat) : Int) ∧ ∃ S : LwS, RcL b n (none, 0, p0, 0, 0, [], []) S ∧ s.1 = (S.2.1 : Int) ∧ Same (SLw L base) h0 s.2.2 ∧ FLc S.1 s.2.2 ∧ CTk b n S.2.2.1 s.2.2 ∧ CLw L base S.2.2.2.1 S.2.2.2.2.2.1 S.2.2.2.2.2.2 s.2.2 ∧ s.2.2 18 16 = (S.2.2.2.2.1 : Int) ∧ S.2.2.1 ≤ n ∧ base + S.2.2.2.2.2.2.length + S.2.2.2.2.2.1.length ≤ S.2.2.1 ∧ (liveL S → i + 1 ≤ S.2.2.1 ∧ LIw S) ∧ (¬ liveL S → S.1 = none → wfC S.2.2.2.2.2.2 0)) (fun hq => ∃ S : LwS, OutL b n (none, 0, p0, 0, 0, [], []) S ∧ Same (SLw L base) h0 hq ∧ FLc S.1 hq ∧ CTk b n S.2.2.1 hq ∧ CLw L base S.2.2.2.1 S.2.2.2.2.2.1 S.2.2.2.2.2.2 hq ∧ S.2.2.1 ≤ n ∧ base + S.2.2.2.2.2.2.length + S.2.2.2.2.2.1.length ≤ S.2.2.1 ∧ (S.1 = none → wfC S.2.2.2.2.2.2 0))) := by
            intro r h19 er f s d
            unfold fX2_readLaw_j100
            rw [wp_bd]
            have s19 : Same (SLw L base) h0 h19 := s15.tr (s.mono (fun a k z => by unfold SQw at z; unfold SLw; omega))
            refine (c_next (T.same (fun k => s19 _ _ (by unfold SLw; omega))) (K15.same (fun k h1 h2 => s _ _ (by unfold SQw; omega))) f e8).mono ?_
            rintro ⟨u, h22⟩ ⟨k1, k2, k3⟩
            dsimp only at k1 k2 k3 ⊢
            rw [i1 (by clear e7 x16; omega), wp_some]
            refine ⟨rfl, lawStep b n (none, nx, p, win, nots, W, C), rc, ?_, s19.tr (k1.mono (fun a k z => by unfold STk at z; unfold SLw; omega)), ?_, ?_, ?_, ?_, z2, z1, fun w => ⟨?_, LI1 w⟩, fun w w2 => ?_⟩
            · rw [er]
            · rw [er]; exact k3
            · rw [er]; exact k2
            · rw [er]; exact d.same hL (fun a k z => k1 _ _ (by unfold STk; omega))
            · rw [er]
              show h22 18 16 = _
              rw [k1 _ _ (by unfold STk; omega), s _ _ (by unfold SQw; omega)]; exact x16
            · have := z3 w
              clear e7 x16
              omega
            · have w4 : (lawStep b n (none, nx, p, win, nots, W, C)).2.1 = 4 := by
                by_cases y : (lawStep b n (none, nx, p, win, nots, W, C)).2.1 = 4
                · exact y
                · exact absurd ⟨w2, y⟩ w
              exact (LI2 w2 w4).2.1
          by_cases q3 : nx = 3
          · subst q3
            refine w_t rfl ?_
            rw [wp_bd]
            have wf := eI.2.2.2.2.2.2.2.2.2.1
            dsimp only at wf
            rw [if_pos rfl] at wf
            refine (c_beh T15 K15 F15 e8 hL D15 (by clear e7 x16; omega) e9 eI.1 wf eI.2.1).mono ?_
            rintro ⟨u, h19⟩ ⟨k1, k2, k3, k4⟩
            dsimp only at k1 k2 k3 k4 ⊢
            rw [k1]
            refine fin (behS b n p win W C) h19 ?_ k2 k3 k4
            unfold lawStep
            dsimp only
            rw [if_pos rfl]
          · refine w_f (by clear e7 x16; omega) ?_
            rw [wp_bd]
            refine (c_part (nx := nx) (nots := lwN b n p nots) T15 K15 F15 e8 hL D15 x16 (by clear e7 x16; omega) e9 eI.2.2.1).mono ?_
            rintro ⟨u, h19⟩ ⟨k1, k2, k3, k4⟩
            dsimp only at k1 k2 k3 k4 ⊢
            rw [k1]
            refine fin (partS b n nx p win (lwN b n p nots) W C) h19 ?_ k2 k3 k4
            unfold lawStep
            dsimp only
            rw [if_neg q3]
        by_cases k16 : kwN b n p = ((16 : Nat) : Int)
        · rw [if_pos k16]
          refine w_f (by decide) (go _ ?_)
          have tn : nots ≤ 700 := by
            by_cases y : nx = 3
            · exact Nat.le_trans (Nat.le_of_eq (show nots = 0 from eI.2.2.2.2.2.2.2.2.1 y)) (Nat.zero_le _)
            · exact Nat.le_trans (Nat.le_of_eq (show nots = tnW W from eI.2.2.2.2.2.2.2.1 y)) (Nat.le_trans (stW_tn eI.1) (by decide))
          rw [e7, i1 (by clear e7; omega)]
          have : lwN b n p nots = nots + 1 := if_pos k16
          rw [this]
        · rw [if_neg k16]
          refine w_t rfl (go _ ?_)
          rw [lwN_0 k16]
          rfl
    · have nl : ¬ liveL S := fun z => q1 z.1
      exact w_f (fun z => q1 (e4.z.mp z)) (wp_some.mpr ⟨S, ⟨e1, nl⟩, e3, e4, e5, e6, e8, e9, e11 nl⟩)
  · rintro ⟨x, y, hh⟩ ⟨e0, S, e1, e2, e3, e4, e5, e6, e7, e8, e9, e10, e11⟩
    dsimp only at e0 e2 e3 e4 e5 e6 e7 ⊢
    subst e0
    have nl : ¬ liveL S := fun z => by
      have := (e10 z).1
      clear e7
      omega
    unfold fX2_readLaw_l40
    rw [e5.1]
    exact w_t (by clear e7; omega) (wp_some.mpr ⟨S, ⟨e1, nl⟩, e3, e4, e5, e6, e8, e9, e11 nl⟩)
theorem c_lawC {b : Nat → Int} {n p L nl : Nat} {A : Hp} {cd : Nat → List Int} {h : Hp} (T : TPk b n h) (K : CTk b n p h) (F : FLc none h) (D : CDl A cd L h) (hL : L = 1 ∨ L = 9) (hp : p ≤ n) (hn : A 8 5 = (nl : Int)) (h4 : nl < 4) (hb : esum cd nl ≤ p) :
    wp (fX2_readLaw h) (fun r => ∃ S : LwS, OutL b n (none, 0, tkE b n p, 0, 0, [], []) S ∧ Same (SLd L) h r.2 ∧ FLc S.1 r.2 ∧ CTk b n S.2.2.1 r.2 ∧ CDl (st A 8 5 ((nl : Int) + 1)) (updL cd nl S.2.2.2.2.2.2) L r.2 ∧ S.2.2.1 ≤ n ∧ esum cd nl + S.2.2.2.2.2.2.length ≤ S.2.2.1 ∧ (S.1 = none → wfC S.2.2.2.2.2.2 0)) := by
  have hp1 := tkE_le (b := b) hp
  have r1 := (tk_rg (b := b) hp)
  unfold fX2_readLaw
  rw [gd_y (by rw [D.1]; omega), D.1, Int.toNat_natCast, D.2.1.2.2.2.2.2.1, hn]
  refine w_t (by omega) ?_
  rw [wp_bd]
  refine (c_next T K F hp).mono ?_
  rintro ⟨v1, h5⟩ ⟨g1, g2, g3⟩
  dsimp only at g1 g2 g3 ⊢
  rw [wp_lb, wp_lb, wp_lb, wp_bp]
  have s5 : Same S27 h h5 := STk_27 g1
  have D5 := D.same hL s5
  generalize hE : st (st (st h5 18 13 0) 18 15 0) 18 16 0 = h8
  have k8 : ∀ a k, ¬ (a = 18 ∧ (k = 13 ∨ k = 15 ∨ k = 16)) → h8 a k = h5 a k := fun a k z => by
    rw [← hE]
    show (if a = 18 ∧ k = 16 then _ else if a = 18 ∧ k = 15 then _ else if a = 18 ∧ k = 13 then _ else h5 a k) = _
    rw [if_neg (by omega), if_neg (by omega), if_neg (by omega)]
  have s8 : Same (SLw L (esum cd nl)) h h8 := (s5.mono (fun a k z => Or.inl ⟨z.1, Or.inl z.2⟩)).tr (fun a k z => k8 a k (fun w => z (Or.inl ⟨w.1, Or.inr ⟨by omega, by omega⟩⟩)))
  have K8 : CTk b n (tkE b n p) h8 := g2.same (fun k h1 h2 => k8 _ _ (by omega))
  have F8 : FLc none h8 := g3.same (k8 _ _ (by omega)) (k8 _ _ (by omega))
  have C8 : CLw L (esum cd nl) 0 [] [] h8 := by
    refine ⟨by rw [k8 _ _ (by omega)]; exact D5.1, by rw [← hE, st_nk (by decide), st_nk (by decide)]; exact st_self, trivial, by rw [← hE, st_nk (by decide)]; exact st_self, ?_, fun j hj => absurd hj (Nat.not_lt_zero j)⟩
    rw [k8 _ _ (by omega), D5.2.2.2.2.2.2.2, hn, Int.toNat_natCast]
    rfl
  have z8 : h8 18 16 = 0 := by rw [← hE]; exact st_self
  clear hE
  refine (c_lawL T hL s8 K8 F8 hp1 C8 z8 (by omega)).mono ?_
  rintro h28 ⟨S, a1, a2, a3, a4, a5, a6, a7, a8⟩
  unfold fX2_readLaw_j111
  have x8 : h28 18 8 = (L : Int) := a5.1
  have xl : h28 L 8 = (nl : Int) := by rw [a2 _ _ (by unfold SLw; clear x8; omega), D.2.1.2.2.2.2.2.1]; exact hn
  have x14 := a5.2.2.2.2.1
  have l5 : ((L : Int) + 5).toNat = L + 5 := by clear x8 xl x14; omega
  rw [gd_y (by rw [x8]; clear x8 xl x14; omega), x8, Int.toNat_natCast, gd_y (by rw [xl]; clear x8 xl x14; omega), xl, x14, l5, Int.toNat_natCast, wp_lb]
  have y8 : st h28 (L + 5) nl ((esum cd nl + S.2.2.2.2.2.2.length : Nat) : Int) 18 8 = (L : Int) := by rw [st_na (by clear x8 xl x14; omega)]; exact x8
  have yl : st h28 (L + 5) nl ((esum cd nl + S.2.2.2.2.2.2.length : Nat) : Int) L 8 = (nl : Int) := by rw [st_na (by clear x8 xl x14 y8; omega)]; exact xl
  rw [gd_y (by rw [y8]; clear x8 xl x14 y8 yl; omega), y8, Int.toNat_natCast, yl, i1 (by clear x8 xl x14 y8 yl; omega), wp_lb, wp_some]
  dsimp only
  have en : ((nl + 1 : Nat) : Int) = (nl : Int) + 1 := by clear x8 xl x14 y8 yl; omega
  rw [en]
  refine ⟨S, a1, ?_, a3.same ?_ ?_, a4.same (fun k h1 h2 => ?_), D.law hL hn a2 x14 a5.2.2.2.2.2, a6, by clear x8 xl x14 y8 yl en; omega, a8⟩
  · exact ((a2.mono (fun a k z => by unfold SLw at z; unfold SLd; clear x8 xl x14 y8 yl en; omega)).st (Or.inr (Or.inr ⟨by clear x8 xl x14 y8 yl en; omega, by clear x8 xl x14 y8 yl en; omega⟩))).st (Or.inr (Or.inr ⟨by clear x8 xl x14 y8 yl en; omega, by clear x8 xl x14 y8 yl en; omega⟩))
  · rw [st_na (by clear x8 xl x14 y8 yl en; omega), st_na (by clear x8 xl x14 y8 yl en; omega)]
  · rw [st_na (by clear x8 xl x14 y8 yl en; omega), st_na (by clear x8 xl x14 y8 yl en; omega)]
  · rw [st_na (by clear x8 xl x14 y8 yl en; omega), st_na (by clear x8 xl x14 y8 yl en; omega)]
