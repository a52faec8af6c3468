/-! pure part: round, the orders, and the class walks them -/
def exO (n : Nat) : Nat → List Nat → List (List Nat)
  | 0, p => [p]
  | k + 1, p => (List.range n).flatMap (fun j => if p.contains j = true then [] else exO n k (p ++ [j]))
def dsC (w a b : Nat) : Nat := max ((a % w - b % w) + (b % w - a % w)) ((a / w - b / w) + (b / w - a / w))
def csO (w : Nat) (hc : Nat → Nat) : Nat → List Nat → Nat
  | _, [] => 0
  | c, j :: r => dsC w c (hc j) + csO w hc (hc j) r
def lsO (hc : Nat → Nat) : Nat → List Nat → Nat
  | c, [] => c
  | _, j :: r => lsO hc (hc j) r
theorem csO_snoc {w : Nat} {hc : Nat → Nat} {j : Nat} : ∀ (p : List Nat) (c : Nat), csO w hc c (p ++ [j]) = csO w hc c p + dsC w (lsO hc c p) (hc j)
  | [], c => by show dsC w c (hc j) + 0 = 0 + dsC w c (hc j); omega
  | i :: r, c => by
    show dsC w c (hc i) + csO w hc (hc i) (r ++ [j]) = dsC w c (hc i) + csO w hc (hc i) r + dsC w (lsO hc (hc i) r) (hc j)
    rw [csO_snoc r (hc i)]
    omega
theorem lsO_snoc {hc : Nat → Nat} {j : Nat} : ∀ (p : List Nat) (c : Nat), lsO hc c (p ++ [j]) = hc j
  | [], c => rfl
  | i :: r, c => lsO_snoc r (hc i)
def pk (f : List Nat → Nat) (s : Nat × List Nat) (p : List Nat) : Nat × List Nat := if f p < s.1 then (f p, p) else s
theorem pk_id {f : List Nat → Nat} {s : Nat × List Nat} : ∀ l : List (List Nat), (∀ q, q ∈ l → s.1 ≤ f q) → l.foldl (pk f) s = s
  | [], _ => rfl
  | a :: r, h => by
    have e : pk f s a = s := if_neg (Nat.not_lt.mpr (h a (List.mem_cons_self ..)))
    show r.foldl (pk f) (pk f s a) = s
    rw [e]
    exact pk_id r (fun q hq => h q (List.mem_cons_of_mem _ hq))
theorem exO_cost {w n : Nat} {hc : Nat → Nat} {c : Nat} : ∀ (k : Nat) (p q : List Nat), q ∈ exO n k p → csO w hc c p ≤ csO w hc c q
  | 0, p, q, h => by
    unfold exO at h
    rw [List.mem_singleton.mp h]
    exact Nat.le_refl _
  | k + 1, p, q, h => by
    unfold exO at h
    obtain ⟨j, -, hj⟩ := List.mem_flatMap.mp h
    by_cases e : p.contains j = true
    · rw [if_pos e] at hj; exact absurd hj List.not_mem_nil
    · rw [if_neg e] at hj
      have := exO_cost (w := w) (hc := hc) (c := c) k _ q hj
      rw [csO_snoc] at this
      omega
theorem exO_len {n : Nat} : ∀ (k : Nat) (p q : List Nat), q ∈ exO n k p → q.length = p.length + k
  | 0, p, q, h => by
    unfold exO at h
    rw [List.mem_singleton.mp h]
    rfl
  | k + 1, p, q, h => by
    unfold exO at h
    obtain ⟨j, -, hj⟩ := List.mem_flatMap.mp h
    by_cases e : p.contains j = true
    · rw [if_pos e] at hj; exact absurd hj List.not_mem_nil
    · rw [if_neg e] at hj
      have := exO_len k _ q hj
      rw [List.length_append] at this
      simp only [List.length_cons, List.length_nil] at this
      omega
theorem exO_lt {n : Nat} : ∀ (k : Nat) (p q : List Nat), q ∈ exO n k p → (∀ j, j ∈ p → j < n) → ∀ j, j ∈ q → j < n
  | 0, p, q, h, hp => by
    unfold exO at h
    rw [List.mem_singleton.mp h]
    exact hp
  | k + 1, p, q, h, hp => by
    unfold exO at h
    obtain ⟨j, hj1, hj⟩ := List.mem_flatMap.mp h
    by_cases e : p.contains j = true
    · rw [if_pos e] at hj; exact absurd hj List.not_mem_nil
    · rw [if_neg e] at hj
      refine exO_lt k _ q hj (fun i hi => ?_)
      rcases List.mem_append.mp hi with hi | hi
      · exact hp i hi
      · rw [List.mem_singleton.mp hi]
        exact List.mem_range.mp hj1
theorem dsC_le {w a b : Nat} (ha : a < 64) (hb : b < 64) : dsC w a b ≤ 63 := by
  have h1 : a % w ≤ a := Nat.mod_le _ _
  have h2 : b % w ≤ b := Nat.mod_le _ _
  have h3 : a / w ≤ a := Nat.div_le_self _ _
  have h4 : b / w ≤ b := Nat.div_le_self _ _
  unfold dsC
  generalize a % w = x1 at *
  generalize b % w = x2 at *
  generalize a / w = x3 at *
  generalize b / w = x4 at *
  omega
theorem csO_le {w : Nat} {hc : Nat → Nat} : ∀ (p : List Nat) (c : Nat), c < 64 → (∀ j, j ∈ p → hc j < 64) → csO w hc c p ≤ 63 * p.length
  | [], _, _, _ => Nat.le_refl _
  | j :: r, c, h, hp => by
    have hj := hp j (List.mem_cons_self ..)
    have h1 := dsC_le (w := w) h hj
    have h2 := csO_le (w := w) r (hc j) hj (fun i hi => hp i (List.mem_cons_of_mem _ hi))
    show dsC w c (hc j) + csO w hc (hc j) r ≤ 63 * (r.length + 1)
    omega
def AR (f : Nat → Int) (t : List Nat) : Prop := ∀ i j : Nat, t[i]? = some j → f i = (j : Int)
theorem AR_nil {f : Nat → Int} : AR f [] := fun i j h => by simp at h
theorem AR_pre {f : Nat → Int} {p : List Nat} {j : Nat} (h : AR f (p ++ [j])) : AR f p := fun i x hx => by
  obtain ⟨hi, -⟩ := List.getElem?_eq_some_iff.mp hx
  exact h i x (by rw [List.getElem?_append_left hi]; exact hx)
theorem AR_snoc {f g : Nat → Int} {p : List Nat} {j : Nat} (h : AR f p) (hg : ∀ i, i < p.length → g i = f i) (hj : g p.length = (j : Int)) : AR g (p ++ [j]) := fun i x hx => by
  by_cases hi : i < p.length
  · rw [List.getElem?_append_left hi] at hx
    rw [hg i hi]; exact h i x hx
  · rw [List.getElem?_append_right (Nat.not_lt.mp hi)] at hx
    obtain ⟨h1, h2⟩ := List.getElem?_eq_some_iff.mp hx
    have h1' : i - p.length < 1 := h1
    have e : i = p.length := by omega
    subst e
    simp at h2
    rw [hj, h2]
theorem AR_eq {f g : Nat → Int} {t : List Nat} {n : Nat} (hf : AR f t) (hg : AR g t) (hn : t.length = n) : ∀ i, i < n → f i = g i := fun i hi => by
  have e : t[i]? = some (t[i]'(by omega)) := List.getElem?_eq_getElem (by omega)
  rw [hf i _ e, hg i _ e]
theorem AR_cg {f g : Nat → Int} {t : List Nat} {n : Nat} (hf : AR f t) (hn : t.length ≤ n) (e : ∀ i, i < n → g i = f i) : AR g t := fun i x hx => by
  obtain ⟨hi, -⟩ := List.getElem?_eq_some_iff.mp hx
  rw [e i (by omega)]; exact hf i x hx
/-- what the walk holds: fewest and best; the order tried -/
def WO (s : Nat × List Nat) (p : List Nat) (h : Hp) : Prop := h 31 4 = (s.1 : Int) ∧ (s.1 = 1000 ∨ AR (h 32) s.2) ∧ AR (h 33) p
def SWk : Nat → Nat → Prop := fun a k => (a = 31 ∧ k = 4) ∨ a = 32 ∨ a = 33
theorem neg_64 : ∀ k : Nat, k < 64 → i_neg (-(k : Int)) = (k : Int) := by decide +kernel
theorem c_steps {D : LD} {L a b : Nat} {h : Hp} (W : DW D) (hL : L = 1 ∨ L = 9) (h31 : h 31 0 = (L : Int)) (H : CL D L h) (ha : a < 64) (hb : b < 64) : fX4_stepsBetween (a : Int) (b : Int) h = some (dsC D.w a b : Int) := by
  have w1 := W.1
  have v0 : h L 0 = (D.w : Int) := H.1
  have m1 : a % D.w ≤ a := Nat.mod_le _ _
  have m2 : b % D.w ≤ b := Nat.mod_le _ _
  have m3 : a / D.w ≤ a := Nat.div_le_self _ _
  have m4 : b / D.w ≤ b := Nat.div_le_self _ _
  unfold fX4_stepsBetween
  rw [h31, gd_y (by clear v0 h31; omega), Int.toNat_natCast, v0]
  unfold lb_
  dsimp only
  rw [if_pos (by clear v0 h31; omega)]
  rw [gd_y (by clear v0 h31; omega), gd_y (by clear v0 h31; omega), i_rem_nat (by clear v0 h31; omega) (by clear v0 h31; omega), i_rem_nat (by clear v0 h31; omega) (by clear v0 h31; omega), i_div_nat (by clear v0 h31; omega) (by clear v0 h31; omega), i_div_nat (by clear v0 h31; omega) (by clear v0 h31; omega)]
  unfold dsC
  clear v0 h31
  generalize a % D.w = x1 at *
  generalize b % D.w = x2 at *
  generalize a / D.w = x3 at *
  generalize b / D.w = x4 at *
  have ab : ∀ u v : Nat, u < 64 → v < 64 → fJ9_abs_0f7a4 (i_sub (u : Int) (v : Int)) h = some (((u - v) + (v - u) : Nat) : Int) := by
    intro u v hu hv
    unfold fJ9_abs_0f7a4
    rw [isb (by omega) (by omega)]
    by_cases q : 0 ≤ (u : Int) - (v : Int)
    · rw [if_pos q]; congr 1; omega
    · rw [if_neg q, show (u : Int) - (v : Int) = -((v - u : Nat) : Int) by omega, neg_64 _ (by omega)]
      congr 1; omega
  rw [ab x1 x2 (by omega) (by omega)]
  simp only [bp_]
  rw [gd_y (by omega), gd_y (by omega), ab x3 x4 (by omega) (by omega)]
  simp only []
  unfold fJ9_max_7cf53
  by_cases q : (((x1 - x2 + (x2 - x1) : Nat) : Int)) < (((x3 - x4 + (x4 - x3) : Nat) : Int))
  · rw [if_pos q]; simp only []; congr 2; omega
  · rw [if_neg q]; simp only []; congr 2; omega
theorem WO_pre {s : Nat × List Nat} {p : List Nat} {j : Nat} {h : Hp} (w : WO s (p ++ [j]) h) : WO s p h := ⟨w.1, w.2.1, AR_pre w.2.2⟩
theorem c_goOn {D : LD} {L c : Nat} (W : DW D) (hL : L = 1 ∨ L = 9) (hc : c < 64) : ∀ (k fu : Nat) (p : List Nat) (s : Nat × List Nat) (x : Int) (h : Hp), k < fu → p.length + k = D.nh → (∀ j, j ∈ p → j < D.nh) → s.1 ≤ 1000 → h 31 0 = (L : Int) → CL D L h → WO s p h → in32 x → (∀ j, j < 32 → bt x j = p.contains j) →
    wp (fX4_goOn fu (lsO D.hc c p : Int) (csO D.w D.hc c p : Int) x (p.length : Int) h) (fun r => Same SWk h r.2 ∧ WO ((exO D.nh k p).foldl (pk (csO D.w D.hc c)) s) p r.2)
  | k, 0, p, s, x, h, hf, hp, hpn, hs, h31, H, w, hx, hb => absurd hf (Nat.not_lt_zero k)
  | 0, fu + 1, p, s, x, h, hf, hp, hpn, hs, h31, H, w, hx, hb => by
    have hn6 := W.2.2.1
    have v3 : h L 3 = (D.nh : Int) := H.2.2.1
    obtain ⟨w1, w2, w3⟩ := w
    unfold fX4_goOn exO
    rw [w1]
    by_cases q : csO D.w D.hc c p < s.1
    · refine w_f (by clear v3 w1; omega) (w_t (by clear v3 w1; omega) ?_)
      rw [h31, gd_y (by clear v3 w1; omega), Int.toNat_natCast, v3]
      refine w_t (by clear v3 w1; omega) ?_
      rw [wp_lb, gd_y (by decide), wp_lb, wp_some]
      have e : List.foldl (pk (csO D.w D.hc c)) s [p] = (csO D.w D.hc c p, p) := if_pos q
      rw [e]
      have k1 : cpy (st h 31 4 (csO D.w D.hc c p : Int)) 33 32 (Int.toNat 0) (Int.toNat 0) (Int.toNat 6) 31 4 = (csO D.w D.hc c p : Int) := by rw [cpy_a (by decide)]; exact st_self
      have k2 : ∀ i, i < 6 → cpy (st h 31 4 (csO D.w D.hc c p : Int)) 33 32 (Int.toNat 0) (Int.toNat 0) (Int.toNat 6) 32 i = h 33 i := fun i hi => by
        show cpy (st h 31 4 (csO D.w D.hc c p : Int)) 33 32 0 0 6 32 i = _
        rw [cpy_d (Nat.zero_le _) (by clear v3 w1 k1; omega), st_na (by decide)]; rfl
      have k3 : ∀ i, cpy (st h 31 4 (csO D.w D.hc c p : Int)) 33 32 (Int.toNat 0) (Int.toNat 0) (Int.toNat 6) 33 i = h 33 i := fun i => by rw [cpy_a (by decide), st_na (by decide)]
      have k4 : Same SWk h (cpy (st h 31 4 (csO D.w D.hc c p : Int)) 33 32 (Int.toNat 0) (Int.toNat 0) (Int.toNat 6)) := (Same.rf.st (Or.inl ⟨rfl, rfl⟩)).tr (cpy_same (fun k _ _ => Or.inr (Or.inl rfl)))
      generalize cpy (st h 31 4 (csO D.w D.hc c p : Int)) 33 32 (Int.toNat 0) (Int.toNat 0) (Int.toNat 6) = hC at *
      have lp : p.length ≤ 6 := by clear v3 w1 k1; omega
      exact ⟨k4, k1, Or.inr (AR_cg (n := 6) w3 lp k2), AR_cg (n := 6) w3 lp (fun i _ => k3 i)⟩
    · refine w_t (by clear v3 w1; omega) (wp_some.mpr ?_)
      have e : List.foldl (pk (csO D.w D.hc c)) s [p] = s := if_neg q
      rw [e]
      exact ⟨Same.rf, w1, w2, w3⟩
  | k + 1, fu + 1, p, s, x, h, hf, hp, hpn, hs, h31, H, w, hx, hb => by
    have hn6 := W.2.2.1
    have hc64 : D.cl ≤ 64 := cl64 W.1.2 W.2.1.2
    have v3 : h L 3 = (D.nh : Int) := H.2.2.1
    have w1 := w.1
    have pc : ∀ j, j ∈ p → D.hc j < 64 := fun j hj => Nat.lt_of_lt_of_le (W.2.2.2.2.2.1 j (hpn j hj)) hc64
    have cle : csO D.w D.hc c p ≤ 63 * p.length := csO_le p c hc pc
    have lle : lsO D.hc c p < 64 := by
      clear hb w hx hp hf w1 v3 cle hpn
      induction p generalizing c with
      | nil => exact hc
      | cons i r ih => exact ih (pc i (List.mem_cons_self ..)) (fun j hj => pc j (List.mem_cons_of_mem _ hj))
    unfold fX4_goOn
    rw [w1]
    by_cases q : csO D.w D.hc c p < s.1
    · refine w_f (by clear v3 w1 cle; omega) (w_t (by clear v3 w1 cle; omega) ?_)
      rw [h31, gd_y (by clear v3 w1 cle; omega), Int.toNat_natCast, v3]
      refine w_f (by clear v3 w1 cle; omega) ?_
      rw [wp_bp]
      generalize hg : (fun j => if p.contains j = true then [] else exO D.nh k (p ++ [j])) = g
      have ex : exO D.nh (k + 1) p = (List.range D.nh).flatMap g := by rw [← hg]; rfl
      rw [ex]
      refine (wp_for (Q := fun hq : Hp => Same SWk h hq ∧ WO (((List.range D.nh).flatMap g).foldl (pk (csO D.w D.hc c)) s) p hq) (fun m (t : Int × Hp) => t.1 = (m : Int) ∧ Same SWk h t.2 ∧ WO (((List.range m).flatMap g).foldl (pk (csO D.w D.hc c)) s) p t.2) D.nh ?_ ?_ (FU_big (by clear v3 w1 cle; omega)) ?_).mono ?_
      · rintro m ⟨y, hh⟩ hm ⟨f1, f2, f3⟩
        dsimp only at f1 f2 f3 ⊢
        subst f1
        have m1 : i_add (m : Int) 1 = ((m + 1 : Nat) : Int) := i1 (by clear v3 w1 cle; omega)
        have y31 : hh 31 0 = (L : Int) := by rw [f2 _ _ (by unfold SWk; clear v3 w1 cle m1 h31; omega)]; exact h31
        have H' : CL D L hh := H.same (fun a k p1 p2 => f2 _ _ (by unfold SWk; clear v3 w1 cle m1 h31 y31; omega))
        have y3 : hh L 3 = (D.nh : Int) := H'.2.2.1
        have l2 : ((L : Int) + 2).toNat = L + 2 := by clear v3 w1 cle m1 h31 y31 y3; omega
        have er : ((List.range (m + 1)).flatMap g).foldl (pk (csO D.w D.hc c)) s = (g m).foldl (pk (csO D.w D.hc c)) (((List.range m).flatMap g).foldl (pk (csO D.w D.hc c)) s) := by
          rw [List.range_succ, List.flatMap_append, List.foldl_append]
          simp only [List.flatMap_cons, List.flatMap_nil, List.append_nil]
        unfold fX4_goOn_l52
        rw [m1, y31, gd_y (by clear v3 w1 cle m1 h31 y31 y3; omega), Int.toNat_natCast, y3]
        refine w_f (by clear v3 w1 cle m1 h31 y31 y3; omega) ?_
        rw [hasBit_eq (by clear v3 w1 cle m1 h31 y31 y3; omega), hb m (by clear v3 w1 cle m1 h31 y31 y3; omega), wp_bp, wp_some]
        by_cases qm : p.contains m = true
        · rw [if_pos qm]
          refine w_f (by decide) (wp_some.mpr ⟨rfl, f2, ?_⟩)
          rw [er, ← hg]
          dsimp only
          rw [if_pos qm, hg]
          exact f3
        · rw [if_neg qm]
          refine w_t rfl ?_
          have y2 : hh (L + 2) m = (D.hc m : Int) := H'.2.2.2.2.2.1 m hm
          have hcm : D.hc m < 64 := Nat.lt_of_lt_of_le (W.2.2.2.2.2.1 m hm) hc64
          rw [gd_y (by clear v3 w1 cle m1 h31 y31 y3 y2; omega), l2, Int.toNat_natCast, y2, wp_lb, gd_y (by clear v3 w1 cle m1 h31 y31 y3 y2; omega), Int.toNat_natCast, wp_lb]
          generalize hE : st hh 33 p.length (m : Int) = h14
          have s14 : Same SWk hh h14 := by rw [← hE]; exact st_same (Or.inr (Or.inr rfl))
          have z31 : h14 31 0 = (L : Int) := by rw [s14 _ _ (by unfold SWk; clear v3 w1 cle m1 h31 y31 y3 y2; omega)]; exact y31
          have H14 : CL D L h14 := H'.same (fun a k p1 p2 => s14 _ _ (by unfold SWk; clear v3 w1 cle m1 h31 y31 y3 y2 z31; omega))
          have wE : WO (((List.range m).flatMap g).foldl (pk (csO D.w D.hc c)) s) (p ++ [m]) h14 := by
            refine ⟨by rw [← hE, st_na (by decide)]; exact f3.1, ?_, ?_⟩
            · rcases f3.2.1 with z | z
              · exact Or.inl z
              · refine Or.inr (AR_cg z (Nat.le_refl _) (fun i hi => ?_))
                rw [← hE, st_na (by decide)]
            · refine AR_snoc f3.2.2 (fun i hi => ?_) ?_
              · rw [← hE, st_nk (Nat.ne_of_lt hi)]
              · rw [← hE]; exact st_self
          have fle : (((List.range m).flatMap g).foldl (pk (csO D.w D.hc c)) s).1 ≤ 1000 := by
            have key : ∀ (l : List (List Nat)) (t : Nat × List Nat), t.1 ≤ 1000 → (l.foldl (pk (csO D.w D.hc c)) t).1 ≤ 1000 := by
              intro l
              induction l with
              | nil => exact fun t ht => ht
              | cons a r ih =>
                intro t ht
                refine ih _ ?_
                unfold pk
                by_cases z : csO D.w D.hc c a < t.1
                · rw [if_pos z]; dsimp only; omega
                · rw [if_neg z]; exact ht
            exact key _ s hs
          have e1 : (csO D.w D.hc c (p ++ [m]) : Int) = i_add (csO D.w D.hc c p : Int) (dsC D.w (lsO D.hc c p) (D.hc m) : Int) := by
            have := dsC_le (w := D.w) lle hcm
            rw [csO_snoc, ik (by clear v3 w1 m1 h31 y31 y3 y2 z31 fle; omega) (by clear v3 w1 m1 h31 y31 y3 y2 z31 fle; omega)]
          have e2 : (lsO D.hc c (p ++ [m]) : Int) = (D.hc m : Int) := by rw [lsO_snoc]
          have e3 : (((p ++ [m]).length : Nat) : Int) = i_add (p.length : Int) 1 := by
            rw [i1 (by clear v3 w1 m1 h31 y31 y3 y2 z31 fle e1 e2; omega), List.length_append]; rfl
          rw [c_steps W hL z31 H14 lle hcm, wp_bp, wp_some, wp_bd, ← e1, ← e2, ← e3]
          have hlen : (p ++ [m]).length + k = D.nh := by
            rw [List.length_append]
            show p.length + 1 + k = D.nh
            clear v3 w1 m1 h31 y31 y3 y2 z31 fle e1 e2 e3
            omega
          refine (c_goOn W hL hc k fu (p ++ [m]) _ (i_or x (i_shl 1 (m : Int))) h14 (by clear v3 w1 m1 h31 y31 y3 y2 z31 fle e1 e2 e3; omega) hlen (fun j hj => ?_) fle z31 H14 wE (in_or _ _) (fun j hj => ?_)).mono ?_
          · rcases List.mem_append.mp hj with hj | hj
            · exact hpn j hj
            · rw [List.mem_singleton.mp hj]; exact hm
          · rw [bt_ior hx (in_shl _ _) hj, hb j hj, bt_i1 (by clear v3 w1 m1 h31 y31 y3 y2 z31 fle e1 e2 e3; omega) hj]
            rw [Bool.eq_iff_iff]
            simp only [Bool.or_eq_true, List.contains_iff_mem, List.mem_append, List.mem_singleton, decide_eq_true_eq]
            exact Iff.intro (fun z => z.imp id Eq.symm) (fun z => z.imp id Eq.symm)
          · rintro ⟨v, h19⟩ ⟨g1, g2⟩
            dsimp only at g1 g2 ⊢
            refine wp_some.mpr ⟨rfl, (f2.tr s14).tr g1, ?_⟩
            rw [er]
            have eg : g m = exO D.nh k (p ++ [m]) := by
              rw [← hg]
              show (if p.contains m = true then _ else _) = _
              rw [if_neg qm]
            rw [eg]
            exact WO_pre g2
      · rintro ⟨y, hh⟩ ⟨f1, f2, f3⟩
        dsimp only at f1 f2 f3 ⊢
        subst f1
        have y31 : hh 31 0 = (L : Int) := by rw [f2 _ _ (by unfold SWk; clear v3 w1 cle h31; omega)]; exact h31
        have H' : CL D L hh := H.same (fun a k p1 p2 => f2 _ _ (by unfold SWk; clear v3 w1 cle h31 y31; omega))
        have y3 : hh L 3 = (D.nh : Int) := H'.2.2.1
        unfold fX4_goOn_l52
        rw [y31, gd_y (by clear v3 w1 cle h31 y31 y3; omega), Int.toNat_natCast, y3]
        exact w_t (Int.le_refl _) (wp_some.mpr ⟨f2, f3⟩)
      · exact ⟨rfl, Same.rf, w⟩
      · rintro hq ⟨f2, f3⟩
        exact wp_some.mpr ⟨f2, f3⟩
    · refine w_t (by clear v3 w1 cle; omega) (wp_some.mpr ⟨Same.rf, ?_⟩)
      rw [pk_id _ (fun t ht => Nat.le_trans (Nat.not_lt.mp q) (exO_cost (k + 1) p t ht))]
      exact w
