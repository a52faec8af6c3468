/-! pure part: years that go by -/
theorem RR.upd {D : LD} {ro r : Nat → Int} {m : Nat} {v : Int} (R : RR D ro r) (hm : 12 ≤ m) : RR D (up ro m v) (up r m v) := by
  obtain ⟨r1, r2, r3, r4, r5⟩ := R
  have key : ∀ k, r k = ro k → up r m v k = up ro m v k := fun k e => by
    unfold up
    split
    · rfl
    · exact e
  refine ⟨fun u hu => key _ (r1 u hu), fun u hu hn => ?_, fun i hi => ?_, key _ r4, key _ r5⟩
  · rw [up_n (by omega)] at hn
    exact ⟨key _ (r2 u hu hn).1, key _ (r2 u hu hn).2⟩
  · exact ⟨key _ (r3 i hi).1, key _ (r3 i hi).2.1, key _ (r3 i hi).2.2.1, key _ (r3 i hi).2.2.2⟩
def UpOK (D : LD) (Y m : Nat) (v : Int) : Prop := (m < 36 → 1 ≤ v ∧ v ≤ 9) ∧ (36 ≤ m → m < 42 → in32 v) ∧ (42 ≤ m → m < 48 → -3 ≤ v ∧ v ≤ 3) ∧ (48 ≤ m → m < 54 → 0 ≤ v ∧ v ≤ 5) ∧ (54 ≤ m → m < 60 → 0 ≤ v ∧ v < 256) ∧ (m = 60 → -1 ≤ v ∧ v < (D.nl : Int)) ∧ (m = 61 → 0 ≤ v ∧ v ≤ (Y : Int))
theorem RW.upd {D : LD} {Y Y' m : Nat} {ro : Nat → Int} {v : Int} (W : DW D) (R : RW D Y ro) (hY : Y ≤ Y') (hm : 12 ≤ m) (C : UpOK D Y' m v) : RW D Y' (up ro m v) := by
  have hn := W.2.2.1
  obtain ⟨r1, r2, r3, r4⟩ := R
  refine ⟨fun u hu hne => ?_, fun i hi => ?_, ?_, ?_⟩
  · rw [up_n (by omega)] at hne ⊢
    obtain ⟨a, b, c, d, f⟩ := r1 u hu hne
    refine ⟨a, ?_, ?_, d, fun w hw q => f w hw (by rw [up_n (by omega)] at q; exact q)⟩
    · by_cases e : 12 + u = m
      · rw [e, up_s]; exact C.1 (by omega)
      · rw [up_n e]; exact b
    · by_cases e : 24 + u = m
      · rw [e, up_s]; exact C.1 (by omega)
      · rw [up_n e]; exact c
  · obtain ⟨a, b, c, d⟩ := r2 i hi
    refine ⟨?_, ?_, ?_, ?_⟩
    · by_cases e : 36 + i = m
      · rw [e, up_s]; exact C.2.1 (by omega) (by omega)
      · rw [up_n e]; exact a
    · by_cases e : 42 + i = m
      · rw [e, up_s]; exact C.2.2.1 (by omega) (by omega)
      · rw [up_n e]; exact b
    · by_cases e : 48 + i = m
      · rw [e, up_s]; exact C.2.2.2.1 (by omega) (by omega)
      · rw [up_n e]; exact c
    · by_cases e : 54 + i = m
      · rw [e, up_s]; exact C.2.2.2.2.1 (by omega) (by omega)
      · rw [up_n e]; exact d
  · by_cases e : 60 = m
    · rw [e, up_s]; exact C.2.2.2.2.2.1 e.symm
    · rw [up_n e]; exact r3
  · by_cases e : 61 = m
    · rw [e, up_s]; exact C.2.2.2.2.2.2 e.symm
    · rw [up_n e]; omega
theorem ok36 {D : LD} {Y i : Nat} {v : Int} (h : in32 v) (hi : i < 6) : UpOK D Y (36 + i) v := ⟨fun q => by omega, fun _ _ => h, fun q => by omega, fun q => by omega, fun q => by omega, fun q => by omega, fun q => by omega⟩
theorem ok12 {D : LD} {Y t : Nat} {v : Int} (h : 1 ≤ v ∧ v ≤ 9) (ht : t < 12) : UpOK D Y (12 + t) v := ⟨fun _ => h, fun q => by omega, fun q => by omega, fun q => by omega, fun q => by omega, fun q => by omega, fun q => by omega⟩
theorem ok24 {D : LD} {Y t : Nat} {v : Int} (h : 1 ≤ v ∧ v ≤ 9) (ht : t < 12) : UpOK D Y (24 + t) v := ⟨fun _ => h, fun q => by omega, fun q => by omega, fun q => by omega, fun q => by omega, fun q => by omega, fun q => by omega⟩
theorem ok42 {D : LD} {Y i : Nat} {v : Int} (h : -3 ≤ v ∧ v ≤ 3) (hi : i < 6) : UpOK D Y (42 + i) v := ⟨fun q => by omega, fun q1 q => by omega, fun _ _ => h, fun q => by omega, fun q => by omega, fun q => by omega, fun q => by omega⟩
theorem ok48 {D : LD} {Y i : Nat} {v : Int} (h : 0 ≤ v ∧ v ≤ 5) (hi : i < 6) : UpOK D Y (48 + i) v := ⟨fun q => by omega, fun q1 q => by omega, fun q1 q => by omega, fun _ _ => h, fun q => by omega, fun q => by omega, fun q => by omega⟩
theorem ok54 {D : LD} {Y i : Nat} {v : Int} (h : 0 ≤ v ∧ v < 256) (hi : i < 6) : UpOK D Y (54 + i) v := ⟨fun q => by omega, fun q1 q => by omega, fun q1 q => by omega, fun q1 q => by omega, fun _ _ => h, fun q => by omega, fun q => by omega⟩
theorem ok60 {D : LD} {Y : Nat} {v : Int} (h : -1 ≤ v ∧ v < (D.nl : Int)) : UpOK D Y 60 v := ⟨fun q => by omega, fun q1 q => by omega, fun q1 q => by omega, fun q1 q => by omega, fun q1 q => by omega, fun _ => h, fun q => by omega⟩
theorem ok61 {D : LD} {Y : Nat} {v : Int} (h : 0 ≤ v ∧ v ≤ (Y : Int)) : UpOK D Y 61 v := ⟨fun q => by omega, fun q1 q => by omega, fun q1 q => by omega, fun q1 q => by omega, fun q1 q => by omega, fun q => by omega, fun _ => h⟩
theorem CS.row_up {D : LD} {ht sd ro : Nat → Int} {fog L m : Nat} {h : Hp} {v : Int} (H : CS D ht sd ro fog L h) (hm : 12 ≤ m) : CS D ht sd (up ro m v) fog L (st h 21 m v) := by
  obtain ⟨hL, a1, a2, a3, a4, a5, a6, a7⟩ := H
  refine ⟨hL, by rw [st_na (by decide)]; exact a1, a2.same (fun a k q1 q2 => st_na (by omega)), fun c hc => by rw [st_na (by decide)]; exact a3 c hc, fun c hc => by rw [st_na (by decide)]; exact a4 c hc, by rw [st_up]; exact a5.upd hm, by rw [st_na (by decide)]; exact a6, a7⟩
theorem MS.row_up {D : LD} {ht sd ro : Nat → Int} {fog m : Nat} {h : Hp} {v : Int} (H : MS D ht sd ro fog h) (hm : 12 ≤ m) (h61 : m ≠ 61) : MS D ht sd (up ro m v) fog (st h 54 m v) := by
  obtain ⟨a1, a2, a3, a4, a5, a6, a7⟩ := H
  refine ⟨a1.same (fun a k p => st_na (by omega)), fun c hc => by rw [st_na (by decide)]; exact a2 c hc, fun c hc => by rw [st_na (by decide)]; exact a3 c hc, by rw [st_up]; exact a4.upd hm, by rw [st_na (by decide), up_n (by omega)]; exact a5, a6, by rw [up_n (by omega)]; exact a7⟩
theorem txH_row {D : LD} {ht sd ro ro' : Nat → Int} {fog i : Nat} {law : Int} (h1 : ro' 61 = ro 61) (h2 : ro' (42 + i) = ro (42 + i)) (h3 : ro' (54 + i) = ro (54 + i)) : txH D ht sd ro' fog i law = txH D ht sd ro fog i law := by
  unfold txH
  rw [h1, h2, h3]
theorem lay_congr {D : LD} {ht ro ro' : Nat → Int} (h1 : ∀ t, t < 12 → ro' t = ro t) (h2 : ∀ t, t < 12 → ro' (12 + t) = ro (12 + t)) (h3 : ∀ i, i < D.nh → ro' (48 + i) = ro (48 + i)) : lay D ht ro' = lay D ht ro := by
  funext c
  unfold lay
  have e : tIn ro' (c : Int) = tIn ro (c : Int) := fi_congr (fun t ht => by rw [h1 t ht])
  rw [e]
  by_cases q : hIn D (c : Int) = -1
  · rw [if_pos q, if_pos q]
    by_cases q2 : tIn ro (c : Int) = -1
    · rw [if_pos q2, if_pos q2]
    · obtain ⟨t, t1, t2, -⟩ := fi_yes q2
      rw [if_neg q2, if_neg q2, show tIn ro (c : Int) = (t : Int) from t2, Int.toNat_natCast, h2 t t1]
  · obtain ⟨t, t1, t2, -⟩ := fi_yes q
    rw [if_neg q, if_neg q, show hIn D (c : Int) = (t : Int) from t2, Int.toNat_natCast, h3 t t1]
/-- purses after k houses have paid -/
def puR (ro tx : Nat → Int) : Nat → Nat → Int
  | 0 => ro
  | k + 1 => up (puR ro tx k) (36 + k) (i_sub (puR ro tx k (36 + k)) (tx k))
theorem puR_n {ro tx : Nat → Int} {m : Nat} : ∀ {k : Nat}, m < 36 ∨ 36 + k ≤ m → puR ro tx k m = ro m
  | 0, _ => rfl
  | k + 1, h => by
    unfold puR
    rw [up_n (by omega)]
    exact puR_n (by omega)
/-- k trees have grown -/
def grR (ro : Nat → Int) : Nat → Nat → Int
  | 0 => ro
  | k + 1 => if ro k ≠ -1 ∧ ro (12 + k) < ro (24 + k) then up (grR ro k) (12 + k) (ro (12 + k) + 1) else grR ro k
theorem grR_n {ro : Nat → Int} {m : Nat} : ∀ {k : Nat}, m < 12 ∨ 12 + k ≤ m → grR ro k m = ro m
  | 0, _ => rfl
  | k + 1, h => by
    unfold grR
    split
    · rw [up_n (by omega)]
      exact grR_n (by omega)
    · exact grR_n (by omega)
theorem puR_W {D : LD} {Y : Nat} {ro tx : Nat → Int} (W : DW D) (R : RW D Y ro) : ∀ {k : Nat}, k ≤ 6 → RW D Y (puR ro tx k)
  | 0, _ => R
  | k + 1, hk => (puR_W W R (k := k) (by omega)).upd W (Nat.le_refl _) (by omega) (ok36 (in_sub _ _) (by omega))
theorem grR_W {D : LD} {Y : Nat} {ro : Nat → Int} (W : DW D) (R : RW D Y ro) : ∀ {k : Nat}, k ≤ 12 → RW D Y (grR ro k)
  | 0, _ => R
  | k + 1, hk => by
    have ih := grR_W W R (k := k) (by omega)
    unfold grR
    split
    · next h =>
      have := R.1 k (by omega) h.1
      exact ih.upd W (Nat.le_refl _) (by omega) (ok12 (by omega) (by omega))
    · exact ih
theorem lay_grow {D : LD} {Y : Nat} {ht ro : Nat → Int} {t c0 c : Nat} {v : Int} (R : RW D Y ro) (h : t < 12) (e : ro t = (c0 : Int)) : lay D ht (up ro (12 + t) v) c = if c = c0 then i_add (ht c) v else lay D ht ro c := by
  have tt : ∀ c : Int, tIn (up ro (12 + t) v) c = tIn ro c := fun c => fi_congr (fun u hu => by rw [up_n (by omega)])
  by_cases q : c = c0
  · subst q
    have h1 := hIn_tree R h (by omega)
    rw [e] at h1
    unfold lay
    rw [if_pos rfl, h1, if_pos rfl, tt, tIn_at R h e (by omega), if_neg (by omega), Int.toNat_natCast, up_s]
  · rw [if_neg q]
    unfold lay
    rw [tt]
    by_cases q1 : hIn D (c : Int) = -1
    · rw [if_pos q1, if_pos q1]
      by_cases q2 : tIn ro (c : Int) = -1
      · rw [if_pos q2, if_pos q2]
      · obtain ⟨u, u1, u2, u3⟩ := tIn_yes q2
        rw [if_neg q2, if_neg q2, u2, Int.toNat_natCast, up_n (fun x => by
          have : u = t := by omega
          subst this
          rw [e] at u3
          omega)]
    · obtain ⟨u, u1, u2, -⟩ := fi_yes q1
      rw [if_neg q1, if_neg q1, show hIn D (c : Int) = (u : Int) from u2, Int.toNat_natCast, up_n (by omega)]
/-- the row a year later -/
def yrR (D : LD) (ht ro : Nat → Int) (fog : Nat) : Nat → Int := up (grR (puR ro (fun i => txH D ht (lay D ht ro) ro fog i (ro 60)) D.nh) 12) 61 (ro 61 + 1)
theorem yrR_W {D : LD} {Y fog : Nat} {ht ro : Nat → Int} (W : DW D) (R : RW D Y ro) : RW D (Y + 1) (yrR D ht ro fog) := by
  have h := R.2.2.2
  exact (grR_W W (puR_W W R W.2.2.1) (Nat.le_refl 12)).upd W (by omega) (by decide) (ok61 (by omega))
theorem yrR_61 {D : LD} {fog : Nat} {ht ro : Nat → Int} : yrR D ht ro fog 61 = ro 61 + 1 := up_s
theorem yrR_60 {D : LD} {fog : Nat} {ht ro : Nat → Int} (W : DW D) : yrR D ht ro fog 60 = ro 60 := by
  have := W.2.2.1
  unfold yrR
  rw [up_n (by decide), grR_n (by omega), puR_n (by omega)]
