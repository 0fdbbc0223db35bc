/-! ===== Evaluator: follow, givenBy ===== -/
/-- all that is given for the nodes of f -/
def foS (G : Nat → Nat → Bool) (f : Nat → Bool) (k : Nat) : Bool := anyS f (fun y => G y k)
def foJ (G : Nat → Nat → Bool) (f : Nat → Bool) (j k : Nat) : Bool := anyS (fun y => f y && decide (fb_ct f y < j)) (fun y => G y k)
theorem foJ_0 (G : Nat → Nat → Bool) (f : Nat → Bool) : S9 (foJ G f 0) = 0 := by
  rw [S9_0]
  refine S9_cong (fun k _ => ?_)
  cases q : foJ G f 0 k with
  | false => rfl
  | true =>
    obtain ⟨y, y1, y2, y3⟩ := anyS_iff.mp q
    simp at y2
theorem foJ_s {G : Nat → Nat → Bool} {f : Nat → Bool} {y j : Nat} (hy : y < 40) (h1 : f y = true) (h2 : fb_ct f y = j) : S9 (foJ G f j) ||| S9 (G y) = S9 (foJ G f (j + 1)) := by
  rw [S9_or]
  refine S9_cong (fun k _ => ?_)
  rw [Bool.eq_iff_iff, Bool.or_eq_true]
  unfold foJ
  rw [anyS_iff, anyS_iff]
  constructor
  · rintro (⟨z, z1, z2, z3⟩ | z)
    · simp only [Bool.and_eq_true, decide_eq_true_eq] at z2
      exact ⟨z, z1, by simp [z2.1]; omega, z3⟩
    · exact ⟨y, hy, by simp [h1, h2], z⟩
  · rintro ⟨z, z1, z2, z3⟩
    simp only [Bool.and_eq_true, decide_eq_true_eq] at z2
    by_cases q : fb_ct f z < j
    · exact Or.inl ⟨z, z1, by simp [z2.1, q], z3⟩
    · have : z = y := by
        rcases Nat.lt_trichotomy z y with a | a | a
        · have := ct_up z2.1 a; omega
        · exact a
        · have := ct_up h1 a; omega
      subst this
      exact Or.inr z3
theorem foJ_e (G : Nat → Nat → Bool) (f : Nat → Bool) : S9 (foJ G f (fb_ct f 40)) = S9 (foS G f) := by
  refine S9_cong (fun k _ => ?_)
  rw [Bool.eq_iff_iff]
  unfold foJ foS
  rw [anyS_iff, anyS_iff]
  constructor
  · rintro ⟨z, z1, z2, z3⟩
    simp only [Bool.and_eq_true, decide_eq_true_eq] at z2
    exact ⟨z, z1, z2.1, z3⟩
  · rintro ⟨z, z1, z2, z3⟩
    exact ⟨z, z1, by simp [z2, ct_up z2 z1], z3⟩
theorem frm_0 (f : Nat → Bool) : S9 f = S9 (frm f 0) := S9_cong (fun k _ => by unfold frm; simp)
theorem l_follow {γ : GG} {h : AH} {e r : Nat} {G : Nat → Nat → Bool} {f : Nat → Bool} (hE : shE h e) (hr : r + 40 ≤ 1280) (hG : ∀ y, y < 40 → f y = true → gl h (e + 1) ((r : Int) + (y : Int)) = S9 (G y)) : ∀ (m j : Nat), j + m = fb_ct f 40 → AW γ mX1_follow 2 0 0 12 [(8, vi (m : Int)), (6, vl (S9 (frm f j))), (4, vl (S9 (foJ G f j))), (0, vr (some e)), (1, vl (S9 f)), (3, vi (r : Int))] [] h (rV (vl (S9 (foS G f))) h) := by
  have t40 := fb_ct_le f 40
  intro m
  induction m with
  | zero =>
    intro j hj
    obtain rfl : j = fb_ct f 40 := by omega
    rw [foJ_e]
    refine aw_iload dX1_follow_12 rfl ?_
    refine aw_if_le (tgt := 48) dX1_follow_14 rfl (by omega) (fun c14 => ?_) (fun c14 => ?_)
    · refine aw_lload dX1_follow_48 rfl ?_
      exact aw_lreturn dX1_follow_50 rfl (Or.inl rfl) ⟨rfl, rfl⟩
    · exact absurd c14 (by omega)
  | succ m ih =>
    intro j hj
    obtain ⟨y, y1, y2, y3⟩ := kth_g (f := f) 40 j (by omega)
    have CP := c_position (γ := γ) (h := h) (frm_fst y1 y2 y3)
    have CG := c_giftAt (γ := γ) (k := r + y) hE (by omega)
    rw [show ((r + y : Nat) : Int) = (r : Int) + (y : Int) by omega, hG y y1 y2] at CG
    have I := ih (j + 1) (by omega)
    have k0 := hE.1
    refine aw_iload dX1_follow_12 rfl ?_
    refine aw_if_le (tgt := 48) dX1_follow_14 rfl (by omega) (fun c14 => ?_) (fun c14 => ?_)
    · exact absurd c14 (by omega)
    · refine aw_lload dX1_follow_17 rfl ?_
      refine aw_aload_n dX1_follow_19 rfl ?_
      refine aw_iload_n dX1_follow_20 rfl ?_
      refine aw_lload dX1_follow_21 rfl ?_
      refine aw_invS_r dX1_follow_23 sX10_position kX1_61 rfl (CP) rfl rfl (by decide) (by decide) (by decide) (Nat.le_of_ble_eq_true rfl) ?_
      refine aw_iadd dX1_follow_26 ?_
      refine aw_invV_r dX1_follow_27 vX1_giftAt kX1_43 rfl (CG) ⟨_, (by assumption), _, _, rfl⟩ rfl rfl (by decide) (by decide) (by decide) (Nat.le_of_ble_eq_true rfl) ?_
      refine aw_lor dX1_follow_30 ?_
      rw [foJ_s y1 y2 y3]
      refine aw_lstore (ls1 := [(4, _), (8, _), (6, _), (0, _), (1, _), (3, _)]) dX1_follow_31 (by decide) rfl ?_
      refine aw_lload dX1_follow_33 rfl ?_
      refine aw_lload dX1_follow_35 rfl ?_
      refine aw_lconst (v := 1) dX1_follow_37 rfl ?_
      refine aw_lsub dX1_follow_38 ?_
      refine aw_land dX1_follow_39 ?_
      rw [frm_pop y1 y2 y3]
      refine aw_lstore (ls1 := [(6, _), (4, _), (8, _), (0, _), (1, _), (3, _)]) dX1_follow_40 (by decide) rfl ?_
      refine aw_iinc (k9 := 2) (ls1 := [(8, _), (6, _), (4, _), (0, _), (1, _), (3, _)]) dX1_follow_42 rfl (by decide) rfl ?_
      rw [show ((m + 1 : Nat) : Int) + -1 = (m : Int) by omega]
      refine aw_goto (tgt := 12) dX1_follow_45 rfl ?_
      refine aw_sub [0, 1, 2, 3, 4, 5] rfl ?_
      exact I
theorem c_follow {γ : GG} {h : AH} {e r : Nat} {G : Nat → Nat → Bool} {f : Nat → Bool} (hE : shE h e) (hr : r + 40 ≤ 1280) (hG : ∀ y, y < 40 → f y = true → gl h (e + 1) ((r : Int) + (y : Int)) = S9 (G y)) : Call γ mX1_follow 2 0 0 [vr (some e), vl (S9 f), vi (r : Int)] h (rV (vl (S9 (foS G f))) h) := by
  have L := l_follow (γ := γ) hE hr hG (fb_ct f 40) 0 (by omega)
  rw [foJ_0, ← frm_0] at L
  have CB := c_bcS (γ := γ) (h := h) f
  refine Call.of (ls := [(0, vr (some e)), (1, vl (S9 f)), (3, vi (r : Int))]) vX1_follow.1 (Nat.le_of_ble_eq_true rfl) rfl ?_
  refine aw_lconst (v := 0) dX1_follow_0 rfl ?_
  refine aw_lstore (ls1 := [(4, _), (0, _), (1, _), (3, _)]) dX1_follow_1 (by decide) rfl ?_
  refine aw_lload_n dX1_follow_3 rfl ?_
  refine aw_lstore (ls1 := [(6, _), (4, _), (0, _), (1, _), (3, _)]) dX1_follow_4 (by decide) rfl ?_
  refine aw_lload_n dX1_follow_6 rfl ?_
  refine aw_invS_r dX1_follow_7 sJ13_bitCount_95d88 kX1_55 rfl (CB) rfl rfl (by decide) (by decide) (by decide) (Nat.le_of_ble_eq_true rfl) ?_
  refine aw_istore (ls1 := [(8, _), (6, _), (4, _), (0, _), (1, _), (3, _)]) dX1_follow_10 (by decide) rfl ?_
  refine aw_sub [0, 1, 2, 3, 4, 5] rfl ?_
  exact L
theorem c_givenBy {γ : GG} {h : AH} {e p s v : Nat} {G : Nat → Bool} (hE : shE h e) (hp : p < 4) (hs : s < 8) (hv : v < 40) (hG : gl h (e + 1) ((((p * 8 + s) * 40 : Nat) : Int) + (v : Int)) = S9 G) : Call γ mX1_givenBy 1 0 0 [vr (some e), vi (p : Int), vi (s : Int), vi (v : Int)] h (rV (vl (S9 G)) h) := by
  have CR := c_rowOf (γ := γ) (h := h) hp hs
  have CG := c_giftAt (γ := γ) (k := (p * 8 + s) * 40 + v) hE (by omega)
  rw [show (((p * 8 + s) * 40 + v : Nat) : Int) = (((p * 8 + s) * 40 : Nat) : Int) + (v : Int) by omega, hG] at CG
  have k0 := hE.1
  refine Call.of (ls := [(0, vr (some e)), (1, vi (p : Int)), (2, vi (s : Int)), (3, vi (v : Int))]) vX1_givenBy.1 (Nat.le_of_ble_eq_true rfl) rfl ?_
  refine aw_aload_n dX1_givenBy_0 rfl ?_
  refine aw_iload_n dX1_givenBy_1 rfl ?_
  refine aw_iload_n dX1_givenBy_2 rfl ?_
  refine aw_invS_r dX1_givenBy_3 sX1_rowOf kX1_35 rfl (CR) rfl rfl (by decide) (by decide) (by decide) (Nat.le_of_ble_eq_true rfl) ?_
  refine aw_iload_n dX1_givenBy_6 rfl ?_
  refine aw_iadd dX1_givenBy_7 ?_
  refine aw_invV_r dX1_givenBy_8 vX1_giftAt kX1_43 rfl (CG) ⟨_, (by assumption), _, _, rfl⟩ rfl rfl (by decide) (by decide) (by decide) (Nat.le_of_ble_eq_true rfl) ?_
  exact aw_lreturn dX1_givenBy_11 rfl (Or.inl rfl) ⟨rfl, rfl⟩
