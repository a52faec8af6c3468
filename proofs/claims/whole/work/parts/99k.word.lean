/-! pure part: known words; the reference goes from token to token -/
def lrN (b : Nat → Int) (s : Nat) : Nat → List Nat
  | 0 => []
  | k + 1 => (b (s + k) - 96).toNat :: lrN b s k
def pvL : List Nat → Nat
  | [] => 0
  | d :: r => pvL r * 32 + d
/-- the letters of the known words, the last first -/
def mwR (k : Nat) : List Nat := [[19, 5, 12, 9, 13], [18, 1, 6], [8, 7, 9, 8], [4, 14, 9, 11], [18, 1, 5, 25], [19, 5, 19, 21, 15, 8], [18, 15, 15, 12, 6], [1, 12, 12, 9, 22], [14, 14, 9], [4, 14, 9, 12, 2], [4, 14, 1, 12], [5, 5, 18, 20], [7, 15, 6], [24, 1, 20], [4, 14, 1], [18, 15], [20, 15, 14]].getD k []
/-- the class's text of a known word -/
def mwT (k : Nat) : Int := [19, 20, 11, 21, 22, 23, 24, 13, 14, 15, 10, 12, 16, 17, 26, 25, 18].getD k 0
def isKw (b : Nat → Int) (n p k : Nat) : Bool := decide (tkK b n p = 1) && decide (lrN b (tkS b n p) (tkE b n p - tkS b n p) = mwR k)
def kwN (b : Nat → Int) (n p : Nat) : Int := fi (isKw b n p) 17
theorem lrN_len {b : Nat → Int} {s : Nat} : ∀ k, (lrN b s k).length = k
  | 0 => rfl
  | k + 1 => by show (lrN b s k).length + 1 = k + 1; rw [lrN_len k]
theorem lrN_eq {b c : Nat → Int} {s : Nat} : ∀ k, (∀ i, i < k → 97 ≤ b (s + i)) → (∀ i, i < k → 97 ≤ c i) → (lrN b s k = lrN c 0 k ↔ ∀ i, i < k → b (s + i) = c i)
  | 0, _, _ => ⟨fun _ i hi => absurd hi (Nat.not_lt_zero i), fun _ => rfl⟩
  | k + 1, hb, hc => by
    have ih := lrN_eq (b := b) (c := c) (s := s) k (fun i hi => hb i (by omega)) (fun i hi => hc i (by omega))
    have b1 := hb k (by omega)
    have c1 := hc k (by omega)
    unfold lrN
    rw [Nat.zero_add]
    constructor
    · intro z i hi
      obtain ⟨z1, z2⟩ := List.cons.inj z
      by_cases e : i = k
      · subst e; omega
      · exact ih.mp z2 i (by omega)
    · intro z
      rw [z k (by omega), ih.mpr (fun i hi => z i (by omega))]
theorem mw_tab : ∀ k : Nat, k < 17 → (10 ≤ mwT k ∧ mwT k < 27) ∧ slen_ (mwT k) = ((mwR k).length : Int) ∧ mwR k = lrN (fun i => schar_ (mwT k) (i : Int)) 0 (mwR k).length ∧ (mwR k).length ≤ 6 ∧ (∀ i, i < (mwR k).length → 97 ≤ schar_ (mwT k) (i : Int)) ∧ ∀ d, d ∈ mwR k → 1 ≤ d ∧ d < 32 := by decide +kernel
theorem mw_inj : ∀ k : Nat, k < 17 → ∀ j : Nat, j < 17 → mwR k = mwR j → k = j := by decide +kernel
/-- the letters of a word -/
theorem tk_let {b : Nat → Int} {n p j : Nat} (h : tkK b n p = 1) (h1 : tkS b n p ≤ j) (h2 : j < tkE b n p) : isLt (b j) = true := by
  unfold tkK at h
  unfold tkE at h2
  by_cases q : n ≤ tkS b n p
  · rw [if_pos q] at h; exact absurd h (by decide)
  · rw [if_neg q] at h h2
    by_cases q1 : isLt (b (tkS b n p)) = true
    · rw [if_pos q1] at h2; exact rnN_all h1 h2
    · rw [if_neg q1] at h h2
      by_cases q2 : isDg (b (tkS b n p)) = true
      · rw [if_pos q2] at h; exact absurd h (by decide)
      · rw [if_neg q2] at h h2
        rw [show j = tkS b n p by omega]
        by_cases q3 : isSg (b (tkS b n p)) = true
        · rw [if_pos q3] at h; rw [h] at q3; exact absurd q3 (by decide)
        · rw [if_neg q3] at h; exact absurd h (by decide)
theorem c_isWord {b : Nat → Int} {n p k : Nat} {h : Hp} (T : TPk b n h) (C : CTk b n p h) (hp : p ≤ n) (hk : k < 17) : fX2_isWord (mwT k) h = some (if isKw b n p k = true then 1 else 0) := by
  have hn := T.1
  obtain ⟨t1, t2, t3, t4, t5, t6⟩ := mw_tab k hk
  obtain ⟨c1, c2, c3, c4, -⟩ := C
  obtain ⟨r1, r2, r3, r4, r5⟩ := tk_rg (b := b) hp
  unfold fX2_isWord isKw
  rw [c4]
  by_cases q : tkK b n p = 1
  · have lt := fun j h1 h2 => tk_let (j := j) q h1 h2
    rw [if_pos q, gd_y t1, c3, c2, t2, decide_eq_true q, Bool.true_and]
    generalize hs : tkS b n p = s at *
    generalize he : tkE b n p = e at *
    rw [isb (by clear c1 c2 c3 c4 t3 t5 r4 r5; omega) (by clear c1 c2 c3 c4 t3 t5 r4 r5; omega)]
    by_cases q2 : e - s = (mwR k).length
    · rw [if_pos (by clear c1 c2 c3 c4 t3 t5 r4 r5; omega), if_pos (by clear c1 c2 c3 c4 t3 t5 r4 r5; omega)]
      have hbL : ∀ i, i < e - s → 97 ≤ b (s + i) := fun i hi => (of_decide_eq_true (lt (s + i) (by clear c1 c2 c3 c4 t3 t5 r4 r5; omega) (by clear c1 c2 c3 c4 t3 t5 r4 r5; omega)) : 97 ≤ b (s + i) ∧ b (s + i) ≤ 122).1
      have hiff := lrN_eq (b := b) (c := fun i => schar_ (mwT k) (i : Int)) (s := s) (e - s) hbL (by rw [q2]; exact t5)
      rw [q2] at hiff
      have loop : wp (it_ (fun x => fX2_isWord_l40 (mwT k) x h) FU (0 : Int)) (fun o => E2 (fun _ => ∀ i, i < (mwR k).length → b (s + i) = schar_ (mwT k) (i : Int)) (fun v : Int => v = 0 ∧ ¬ ∀ i, i < (mwR k).length → b (s + i) = schar_ (mwT k) (i : Int)) o) := by
        refine wp_for (fun j (x : Int) => x = (j : Int) ∧ ∀ i, i < j → b (s + i) = schar_ (mwT k) (i : Int)) (mwR k).length ?_ ?_ (FU_big (by clear c1 c2 c3 c4 t3 t5 r4 r5; omega)) ⟨rfl, fun i hi => absurd hi (Nat.not_lt_zero i)⟩
        · rintro j x hj ⟨rfl, e2⟩
          unfold fX2_isWord_l40
          rw [gd_y t1, t2, c2, ik (by clear c1 c2 c3 c4 t3 t5 r4 r5 e2; omega) (by clear c1 c2 c3 c4 t3 t5 r4 r5 e2; omega)]
          refine w_f (by clear c1 c2 c3 c4 t3 t5 r4 r5 e2; omega) ?_
          have x17 : h 17 (s + j) = b (s + j) := T.2 _ (by clear c1 c2 c3 c4 t3 t5 r4 r5 e2; omega)
          rw [gd_y (by clear c1 c2 c3 c4 t3 t5 r4 r5 e2; omega), gd_y (by clear c1 c2 c3 c4 t3 t5 r4 r5 e2; omega), Int.toNat_natCast, x17]
          by_cases q3 : b (s + j) = schar_ (mwT k) (j : Int)
          · refine w_t q3 ?_
            rw [i1 (by clear c1 c2 c3 c4 t3 t5 r4 r5 e2; omega), wp_some]
            refine ⟨rfl, fun i hi => ?_⟩
            by_cases w : i = j
            · rw [w]; exact q3
            · exact e2 i (by clear c1 c2 c3 c4 t3 t5 r4 r5 e2; omega)
          · exact w_f q3 (wp_some.mpr ⟨rfl, fun z => q3 (z j hj)⟩)
        · rintro x ⟨rfl, e2⟩
          unfold fX2_isWord_l40
          rw [gd_y t1, t2]
          exact w_t (Int.le_refl _) (wp_some.mpr e2)
      obtain ⟨o, ho, hq⟩ := loop
      rw [ho]
      cases o with
      | inl u =>
        have hq' : ∀ i, i < (mwR k).length → b (s + i) = schar_ (mwT k) (i : Int) := hq
        rw [q2, if_pos (decide_eq_true (by rw [hiff.mpr hq', ← t3]))]
        rfl
      | inr v =>
        obtain ⟨hv, hq'⟩ := (hq : v = 0 ∧ ¬ _)
        rw [q2, if_neg (fun z => hq' (hiff.mp (by rw [of_decide_eq_true z]; exact t3)))]
        rw [hv]
        rfl
    · rw [if_neg (by clear c1 c2 c3 c4 t3 t5 r4 r5; omega), if_neg (fun z => q2 (by rw [← of_decide_eq_true z, lrN_len]))]
  · rw [if_neg q, decide_eq_false q, Bool.false_and]
    rfl
/-! the reference -/
theorem pv_or {w v : Nat} (hw : w < 2 ^ 25) (hv : v < 32) : l_or (l_shl (w : Int) 5) (v : Int) = ((w * 32 + v : Nat) : Int) := by
  have e5 : ((Int32.ofInt 5).toInt64 &&& 63).toBitVec.smod 64 = 5#64 := by decide +kernel
  have s1 : (Int64.ofInt (w : Int) <<< ((Int32.ofInt 5).toInt64 &&& 63)).toBitVec = (BitVec.ofNat 64 w) <<< (5 : Nat) := by
    show (BitVec.ofInt 64 (w : Int)) <<< (((Int32.ofInt 5).toInt64 &&& 63).toBitVec.smod 64) = _
    rw [e5]
    rfl
  have ow : (l_shl (w : Int) 5) = ((w * 32 : Nat) : Int) := by
    unfold l_shl
    show (Int64.ofInt (w : Int) <<< ((Int32.ofInt 5).toInt64 &&& 63)).toBitVec.toInt = _
    rw [s1, BitVec.toInt_eq_toNat_cond, BitVec.toNat_shiftLeft, BitVec.toNat_ofNat, Nat.mod_eq_of_lt (by omega), Nat.shiftLeft_eq, Nat.mod_eq_of_lt (by omega), if_pos (by omega)]
  rw [ow]
  unfold l_or
  show ((BitVec.ofInt 64 ((w * 32 : Nat) : Int)) ||| (BitVec.ofInt 64 (v : Int))).toInt = _
  rw [BitVec.ofInt_natCast, BitVec.ofInt_natCast, BitVec.toInt_eq_toNat_cond, BitVec.toNat_or, BitVec.toNat_ofNat, BitVec.toNat_ofNat, Nat.mod_eq_of_lt (by omega), Nat.mod_eq_of_lt (by omega)]
  have e : w * 32 ||| v = w * 32 + v := by
    have := Nat.shiftLeft_add_eq_or_of_lt (b := v) (i := 5) hv w
    rw [Nat.shiftLeft_eq] at this
    exact this.symm
  rw [e, if_pos (by omega)]
theorem pvL_lt {b : Nat → Int} {s : Nat} : ∀ k, (∀ i, i < k → isLt (b (s + i)) = true) → pvL (lrN b s k) < 32 ^ k
  | 0, _ => (by decide : 0 < 32 ^ 0)
  | k + 1, h => by
    have ih := pvL_lt (b := b) (s := s) k (fun i hi => h i (by omega))
    have hd : 97 ≤ b (s + k) ∧ b (s + k) ≤ 122 := of_decide_eq_true (h k (by omega))
    show pvL (lrN b s k) * 32 + (b (s + k) - 96).toNat < 32 ^ (k + 1)
    rw [Nat.pow_succ]
    omega
theorem pvL_inj : ∀ l m : List Nat, (∀ d, d ∈ l → 1 ≤ d ∧ d < 32) → (∀ d, d ∈ m → 1 ≤ d ∧ d < 32) → pvL l = pvL m → l = m
  | [], [], _, _, _ => rfl
  | [], d :: r, _, hm, h => by
    have := hm d (List.mem_cons_self ..)
    have h' : 0 = pvL r * 32 + d := h
    omega
  | d :: r, [], hl, _, h => by
    have := hl d (List.mem_cons_self ..)
    have h' : pvL r * 32 + d = 0 := h
    omega
  | d :: r, e :: t, hl, hm, h => by
    have h1 := hl d (List.mem_cons_self ..)
    have h2 := hm e (List.mem_cons_self ..)
    have h' : pvL r * 32 + d = pvL t * 32 + e := h
    have e1 : d = e := by omega
    have e2 : pvL r = pvL t := by omega
    rw [e1, pvL_inj r t (fun x hx => hl x (List.mem_cons_of_mem _ hx)) (fun x hx => hm x (List.mem_cons_of_mem _ hx)) e2]
theorem lrN_dig {b : Nat → Int} {s : Nat} : ∀ k, (∀ i, i < k → isLt (b (s + i)) = true) → ∀ d, d ∈ lrN b s k → 1 ≤ d ∧ d < 32
  | 0, _, d, hd => absurd hd List.not_mem_nil
  | k + 1, h, d, hd => by
    have hk : 97 ≤ b (s + k) ∧ b (s + k) ≤ 122 := of_decide_eq_true (h k (by omega))
    rcases List.mem_cons.mp hd with e | e
    · rw [e]; omega
    · exact lrN_dig k (fun i hi => h i (by omega)) d e
def srt (k : Int) : Int := if k = 0 then 0 else if k = 1 then 1 else if k = 2 then 2 else if k = 3 then 4 else 3
def RTk (b : Nat → Int) (n p : Nat) (h : Hp) : Prop := h 35 17 = (n : Int) ∧ h 35 18 = (tkE b n p : Int) ∧ h 35 20 = (tkS b n p : Int) ∧ h 35 21 = ((tkE b n p - tkS b n p : Nat) : Int) ∧ h 35 19 = srt (tkK b n p) ∧ (tkK b n p = 2 → h 35 22 = dvN b (tkS b n p) (min 4 (tkE b n p - tkS b n p))) ∧ h 35 23 = (if tkS b n p < n then b (tkS b n p) % 256 else 0) ∧ (tkK b n p = 1 → h 35 24 = (pvL (lrN b (tkS b n p) (min 6 (tkE b n p - tkS b n p))) : Int))
def TRk (b : Nat → Int) (n : Nat) (h : Hp) : Prop := n ≤ 700 ∧ ∀ k, k < n → (-128 ≤ b k ∧ b k ≤ 127) ∧ h 42 k = b k % 256
theorem TRk.same {b : Nat → Int} {n : Nat} {h h' : Hp} (T : TRk b n h) (s : ∀ k, h' 42 k = h 42 k) : TRk b n h' := ⟨T.1, fun k hk => by rw [s]; exact T.2 k hk⟩
def SRk : Nat → Nat → Prop := fun a k => a = 35 ∧ 18 ≤ k ∧ k ≤ 24
def byt (b : Nat → Int) (n k : Nat) : Int := if k < n then b k % 256 else 0
theorem m_byteAt {b : Nat → Int} {n k : Nat} {h : Hp} (T : TRk b n h) (h1 : h 35 17 = (n : Int)) : fX6_byteAt (k : Int) h = some (byt b n k) := by
  have hn := T.1
  unfold fX6_byteAt byt
  rw [h1]
  by_cases q : k < n
  · rw [if_neg (by clear h1; omega), gd_y (by clear h1; omega), Int.toNat_natCast, (T.2 k q).2, if_pos q]
  · rw [if_pos (by clear h1; omega), if_neg q]
theorem byt_lt {b : Nat → Int} {n k : Nat} (hb : k < n → -128 ≤ b k ∧ b k ≤ 127) : (isLt (byt b n k) = true ↔ k < n ∧ isLt (b k) = true) ∧ (isDg (byt b n k) = true ↔ k < n ∧ isDg (b k) = true) ∧ (k < n → isLt (b k) = true ∨ isDg (b k) = true → byt b n k = b k) := by
  unfold byt isLt isDg
  by_cases q : k < n
  · have := hb q
    rw [if_pos q]
    refine ⟨?_, ?_, fun _ z => ?_⟩
    · constructor
      · intro z; have := of_decide_eq_true z; exact ⟨q, decide_eq_true (by omega)⟩
      · rintro ⟨-, z⟩; have := of_decide_eq_true z; exact decide_eq_true (by omega)
    · constructor
      · intro z; have := of_decide_eq_true z; exact ⟨q, decide_eq_true (by omega)⟩
      · rintro ⟨-, z⟩; have := of_decide_eq_true z; exact decide_eq_true (by omega)
    · rcases z with z | z
      · have := of_decide_eq_true z; omega
      · have := of_decide_eq_true z; omega
  · rw [if_neg q]
    refine ⟨⟨fun z => absurd (of_decide_eq_true z) (by omega), fun z => absurd z.1 q⟩, ⟨fun z => absurd (of_decide_eq_true z) (by omega), fun z => absurd z.1 q⟩, fun z => absurd z q⟩
theorem m_isLetter {v : Int} {h : Hp} : fX6_isLetter v h = some (if isLt v = true then 1 else 0) := c_isLetter (h := h)
theorem m_isDigit {v : Int} {h : Hp} : fX6_isDigit v h = some (if isDg v = true then 1 else 0) := c_isDigit (h := h)
