/-! pure part: questions about houses -/
/-- the reference's tests of a house and a what -/
theorem mh_pass {x : Int} {n : Nat} {h0 : Hp} {f : Int → Hp → Option (Int × Hp)} {Z : Int × Hp → Prop} (z0 : h0 35 0 = 0) (hn : h0 35 3 = (n : Int)) (hx : 0 ≤ x ∧ x < (n : Int)) (k : wp (f 1 h0) Z) : wp (bd_ (fX6_isHouse x h0) f) Z := by
  rw [m_isHouse z0 hn, if_pos hx, wp_bd, wp_some]
  exact k
theorem mh_fail {x : Int} {n : Nat} {h0 : Hp} {f : Int → Hp → Option (Int × Hp)} {Z : Int × Hp → Prop} (z0 : h0 35 0 = 0) (hn : h0 35 3 = (n : Int)) (hx : ¬ (0 ≤ x ∧ x < (n : Int))) (k : wp (f 0 (st h0 35 0 1)) Z) : wp (bd_ (fX6_isHouse x h0) f) Z := by
  rw [m_isHouse z0 hn, if_neg hx, wp_bd, wp_some]
  exact k
theorem mw_pass {x b : Int} {h0 : Hp} {f : Int → Hp → Option (Int × Hp)} {Z : Int × Hp → Prop} (z0 : h0 35 0 = 0) (hx : 0 ≤ x ∧ x ≤ b) (k : wp (f 1 h0) Z) : wp (bd_ (fX6_isWhat x b h0) f) Z := by
  rw [m_isWhat z0, if_pos hx, wp_bd, wp_some]
  exact k
theorem mw_fail {x b : Int} {h0 : Hp} {f : Int → Hp → Option (Int × Hp)} {Z : Int × Hp → Prop} (z0 : h0 35 0 = 0) (hx : ¬ (0 ≤ x ∧ x ≤ b)) (k : wp (f 0 (st h0 35 0 1)) Z) : wp (bd_ (fX6_isWhat x b h0) f) Z := by
  rw [m_isWhat z0, if_neg hx, wp_bd, wp_some]
  exact k
theorem mt_pass {D : LD} {ro : Nat → Int} {x : Int} {h0 : Hp} {f : Int → Hp → Option (Int × Hp)} {Z : Int × Hp → Prop} (Q : RR D ro (h0 54)) (z0 : h0 35 0 = 0) (hx : 0 ≤ x ∧ x < 12 ∧ ro x.toNat ≠ -1) (k : wp (f 1 h0) Z) : wp (bd_ (fX6_isTree x h0) f) Z := by
  rw [m_isTree Q z0, if_pos hx, wp_bd, wp_some]
  exact k
theorem mt_fail {D : LD} {ro : Nat → Int} {x : Int} {h0 : Hp} {f : Int → Hp → Option (Int × Hp)} {Z : Int × Hp → Prop} (Q : RR D ro (h0 54)) (z0 : h0 35 0 = 0) (hx : ¬ (0 ≤ x ∧ x < 12 ∧ ro x.toNat ≠ -1)) (k : wp (f 0 (st h0 35 0 1)) Z) : wp (bd_ (fX6_isTree x h0) f) Z := by
  rw [m_isTree Q z0, if_neg hx, wp_bd, wp_some]
  exact k
theorem mc_pass {D : LD} {x : Int} {h0 : Hp} {f : Int → Hp → Option (Int × Hp)} {Z : Int × Hp → Prop} (W : DW D) (H : ML D h0) (z0 : h0 35 0 = 0) (hx : 0 ≤ x ∧ x < (D.cl : Int)) (k : wp (f 1 h0) Z) : wp (bd_ (fX6_isCell x h0) f) Z := by
  rw [m_isCell W H z0, if_pos hx, wp_bd, wp_some]
  exact k
theorem mc_fail {D : LD} {x : Int} {h0 : Hp} {f : Int → Hp → Option (Int × Hp)} {Z : Int × Hp → Prop} (W : DW D) (H : ML D h0) (z0 : h0 35 0 = 0) (hx : ¬ (0 ≤ x ∧ x < (D.cl : Int))) (k : wp (f 0 (st h0 35 0 1)) Z) : wp (bd_ (fX6_isCell x h0) f) Z := by
  rw [m_isCell W H z0, if_neg hx, wp_bd, wp_some]
  exact k
theorem mr_pass {c : Int} {h0 : Hp} {f : Int → Hp → Option (Int × Hp)} {Z : Int × Hp → Prop} (z0 : h0 35 0 = 0) (hc : c ≠ 0) (k : wp (f 1 h0) Z) : wp (bd_ (fX6_right 1 c h0) f) Z := by
  rw [m_right1 z0 hc, wp_bd, wp_some]
  exact k
theorem mr_fail {c : Int} {h0 : Hp} {f : Int → Hp → Option (Int × Hp)} {Z : Int × Hp → Prop} (z0 : h0 35 0 = 0) (hc : c ≠ 0) (k : wp (f 0 (st h0 35 0 c)) Z) : wp (bd_ (fX6_right 0 c h0) f) Z := by
  rw [m_right0 z0 hc, wp_bd, wp_some]
  exact k
theorem w_t {α : Type} {c : Prop} [Decidable c] {x y : Option α} {Z : α → Prop} (hc : c) (k : wp x Z) : wp (if c then x else y) Z := by rw [if_pos hc]; exact k
theorem w_f {α : Type} {c : Prop} [Decidable c] {x y : Option α} {Z : α → Prop} (hc : ¬ c) (k : wp y Z) : wp (if c then x else y) Z := by rw [if_neg hc]; exact k
theorem n10 : ¬ ((1 : Int) = 0) := by decide
theorem nh_pass {D : LD} {L : Nat} {x : Int} {h : Hp} {f : Int → Hp → Option RX} {Z : RX → Prop} (hL : L = 1 ∨ L = 9) (h0 : h 0 0 = (L : Int)) (H : CL D L h) (hx : 0 ≤ x ∧ x < (D.nh : Int)) (k : wp (f 0 h) Z) : wp (bx_ (fX5_needHouse x h) f) Z := by
  rw [c_needHouse hL h0 H, if_pos hx, wp_bx, wp_some]
  exact k
theorem nh_fail {D : LD} {L : Nat} {x : Int} {h : Hp} {f : Int → Hp → Option RX} {Z : RX → Prop} (hL : L = 1 ∨ L = 9) (h0 : h 0 0 = (L : Int)) (H : CL D L h) (hx : ¬ (0 ≤ x ∧ x < (D.nh : Int))) (k : Z (.inr (0, h))) : wp (bx_ (fX5_needHouse x h) f) Z := by
  rw [c_needHouse hL h0 H, if_neg hx, wp_bx, wp_some]
  exact k
theorem nt_pass {D : LD} {ro : Nat → Int} {x : Int} {h : Hp} {f : Int → Hp → Option RX} {Z : RX → Prop} (Q : RR D ro (h 27)) (hx : 0 ≤ x ∧ x < 12 ∧ ro x.toNat ≠ -1) (k : wp (f 0 h) Z) : wp (bx_ (fX5_needTree x h) f) Z := by
  rw [c_needTree Q, if_pos hx, wp_bx, wp_some]
  exact k
theorem nt_fail {D : LD} {ro : Nat → Int} {x : Int} {h : Hp} {f : Int → Hp → Option RX} {Z : RX → Prop} (Q : RR D ro (h 27)) (hx : ¬ (0 ≤ x ∧ x < 12 ∧ ro x.toNat ≠ -1)) (k : Z (.inr (0, h))) : wp (bx_ (fX5_needTree x h) f) Z := by
  rw [c_needTree Q, if_neg hx, wp_bx, wp_some]
  exact k
theorem nc_pass {D : LD} {L : Nat} {x : Int} {h : Hp} {f : Int → Hp → Option RX} {Z : RX → Prop} (W : DW D) (hL : L = 1 ∨ L = 9) (h0 : h 0 0 = (L : Int)) (H : CL D L h) (hx : 0 ≤ x ∧ x < (D.cl : Int)) (k : wp (f 0 h) Z) : wp (bx_ (fX5_needCell x h) f) Z := by
  rw [c_needCell W hL h0 H, if_pos hx, wp_bx, wp_some]
  exact k
theorem nc_fail {D : LD} {L : Nat} {x : Int} {h : Hp} {f : Int → Hp → Option RX} {Z : RX → Prop} (W : DW D) (hL : L = 1 ∨ L = 9) (h0 : h 0 0 = (L : Int)) (H : CL D L h) (hx : ¬ (0 ≤ x ∧ x < (D.cl : Int))) (k : Z (.inr (0, h))) : wp (bx_ (fX5_needCell x h) f) Z := by
  rw [c_needCell W hL h0 H, if_neg hx, wp_bx, wp_some]
  exact k
theorem nd_pass {x : Int} {h : Hp} {f : Int → Hp → Option RX} {Z : RX → Prop} (hx : 0 ≤ x ∧ x < 8) (k : wp (f 0 h) Z) : wp (bx_ (fX5_needDirection x h) f) Z := by
  rw [c_needDirection, if_pos hx, wp_bx, wp_some]
  exact k
theorem nd_fail {x : Int} {h : Hp} {f : Int → Hp → Option RX} {Z : RX → Prop} (hx : ¬ (0 ≤ x ∧ x < 8)) (k : Z (.inr (0, h))) : wp (bx_ (fX5_needDirection x h) f) Z := by
  rw [c_needDirection, if_neg hx, wp_bx, wp_some]
  exact k
theorem Core.nh {D : LD} {ht ro : Nat → Int} {L nr : Nat} {rh : Nat → Nat} {rm : Nat → Int} {h : Hp} (C : Core D ht ro L nr rh rm h) : h 35 3 = (D.nh : Int) := C.2.2.2.2.2.1.2.2.1
/-- a house that isn't there -/
theorem no_house {κ : Int} {D : LD} {ht ro : Nat → Int} {L nr : Nat} {rh : Nat → Nat} {rm : Nat → Int} {h : Hp} {x : Int} {fm : Hp → Option (Int × Hp)} {g : Int → Hp → Option (Int × Hp)} {cd : Nat → Int} (I : Inv κ h) (C : Core D ht ro L nr rh rm h) (hx : ¬ (0 ≤ x ∧ x < (D.nh : Int))) (e : ∀ h', fm h' = bd_ (fX6_isHouse x (st h' 35 0 0)) (fun r h => if r = 0 then some (0, h) else g r h)) (hcd : cd 0 = 1) : PT κ fm cd (.inr (0, h)) := by
  refine q_no I Same.rf (fun h' s => ?_)
  obtain ⟨C0, z0, s1, s2⟩ := C.z s
  rw [e]
  refine mh_fail z0 C0.nh hx (w_t rfl (wp_some.mpr ?_))
  rw [hcd]
  exact no1 s1
theorem s_seen {κ : Int} {x : Int} {h : Hp} (I : Inv κ h) : wp (fX5_seen x h) (PT κ (fX6_seen x) (fun _ => 1)) := by
  have I0 := I
  obtain ⟨D, ht, ro, L, nr, rh, rm, na, P, C, -, Q, M, -⟩ := I
  have LBh := C.2.2.2.1
  have W := C.1
  unfold fX5_seen
  by_cases hx : 0 ≤ x ∧ x < (D.nh : Int)
  · refine nh_pass LBh.1 LBh.2.1 LBh.2.2.1 hx ?_
    obtain ⟨i, rfl⟩ : ∃ i : Nat, x = (i : Int) := ⟨x.toNat, by omega⟩
    have hi : i < D.nh := by omega
    unfold fX5_seen_j5
    rw [wp_mi, wp_bd]
    refine C.present.mono ?_
    rintro ⟨r, h6⟩ ⟨r1, r2, r3⟩
    dsimp only at r1 r2 r3 ⊢
    rw [gd20 r1, wp_bd]
    refine (c_lookFrom W r3 hi).mono ?_
    rintro ⟨v, h10⟩ ⟨-, b⟩
    dsimp only at b ⊢
    rw [wp_some, show h10 20 11 = (vw D ht (lay D ht ro) ro (fogY D (ro 61)) i).2.2 from b.2.2.2.2.2.1]
    refine q_ok I0 ((SC_X r2).tr (SL_X b.sm)) (fun h' s => ?_)
    obtain ⟨C0, z0, s1, s2⟩ := C.z s
    unfold fX6_seen
    refine mh_pass z0 C0.nh hx (w_f n10 ?_)
    rw [wp_bd]
    refine C0.layd.mono ?_
    rintro ⟨q, h12⟩ ⟨-, q2, q3⟩
    dsimp only at q2 q3 ⊢
    rw [wp_bd]
    refine (m_sees W q3 C.2.2.1.sold hi).mono ?_
    rintro ⟨q', h15⟩ ⟨-, -, u3, u4⟩
    dsimp only at u3 u4 ⊢
    have u5 : Same SM h12 h15 := u4.mono (fun a k p => Or.inl p)
    rw [wp_some]
    exact ⟨u3, z_kept (z_kept z0 (S57_SN q2)) (SM_SN u5), (s1.tr (S57_m q2)).tr (SM_m u5)⟩
  · refine nh_fail LBh.1 LBh.2.1 LBh.2.2.1 hx ?_
    exact no_house I0 C hx (fun h' => rfl) rfl
