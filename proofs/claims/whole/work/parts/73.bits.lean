/-! ===== Long.bitCount; Tree's static methods ===== -/
theorem l2i_n (n : Nat) : (lN n).toInt32 = Int32.ofInt (n : Int) := by
  rw [nI_ofInt]
  apply Int32.toBitVec_inj.mp
  show (lN n).toBitVec.signExtend 32 = BitVec.ofNat 32 n
  rw [wb_tb]
  apply BitVec.eq_of_getLsbD_eq
  intro i hi
  rw [BitVec.getLsbD_signExtend, BitVec.getLsbD_ofNat, BitVec.getLsbD_ofNat]
  simp [hi, show i < 64 by omega]
theorem ush {n k : Nat} {b : Int} (hn : n < 2 ^ 64) (hk : k < 64) (hb : b = (k : Int)) : ((lN n).toUInt64 >>> ((Int32.ofInt b).toInt64.toUInt64 &&& Int64.toUInt64 63)).toInt64 = lN (n / 2 ^ k) := by subst hb; exact wb_shr hn hk
theorem sh1 {k : Nat} {b : Int} (hk : k < 64) (hb : b = (k : Int)) : (1 : Int64) <<< ((Int32.ofInt b).toInt64 &&& 63) = lN (2 ^ k) := by
  subst hb
  have := wb_shl 1 hk
  rw [Nat.one_mul] at this
  exact this
theorem p1_lt {n : Nat} (h : n < 2 ^ 40) : p1 n < 2 ^ 40 := by unfold p1; omega
theorem c55 : (6148914691236517205 : Int64) = lN 6148914691236517205 := rfl
theorem c33 : (3689348814741910323 : Int64) = lN 3689348814741910323 := rfl
theorem c0f : (1085102592571150095 : Int64) = lN 1085102592571150095 := rfl
theorem c_bc {γ : GG} {h : AH} {n : Nat} (hn : n < 1099511627776) : Call γ mJ13_bitCount_95d88 0 0 0 [vl (lN n)] h (rV (vi (fb_ct (fun k => n.testBit k) 40 : Nat)) h) := by
  obtain ⟨z, ez, z40, hz⟩ := pc_40 hn
  have a1 : (n / 2 &&& 6148914691236517205) ≤ n / 2 := Nat.and_le_left
  have e1 : lN (n / 2 ^ 1) &&& 6148914691236517205 = lN (n / 2 &&& 6148914691236517205) := by rw [c55, wb_and (by omega) (by decide)]
  have e2 : lN n - lN (n / 2 &&& 6148914691236517205) = lN (p1 n) := lN_sb9 (by omega)
  have l1 : p1 n < 1099511627776 := by unfold p1; omega
  have a2 : (p1 n &&& 3689348814741910323) ≤ p1 n := Nat.and_le_left
  have a3 : (p1 n / 4 &&& 3689348814741910323) ≤ p1 n / 4 := Nat.and_le_left
  have e3 : lN (p1 n) &&& 3689348814741910323 = lN (p1 n &&& 3689348814741910323) := by rw [c33, wb_and (by omega) (by decide)]
  have e4 : lN (p1 n / 2 ^ 2) &&& 3689348814741910323 = lN (p1 n / 4 &&& 3689348814741910323) := by rw [c33, wb_and (by omega) (by decide)]
  have e5 : lN (p1 n &&& 3689348814741910323) + lN (p1 n / 4 &&& 3689348814741910323) = lN (p2 (p1 n)) := lN_ad9 _ _
  have l2 : p2 (p1 n) < 2 * 1099511627776 := by unfold p2; omega
  have e6 : lN (p2 (p1 n)) + lN (p2 (p1 n) / 2 ^ 4) = lN (p2 (p1 n) + p2 (p1 n) / 16) := lN_ad9 _ _
  have e7 : lN (p2 (p1 n) + p2 (p1 n) / 16) &&& 1085102592571150095 = lN z := by rw [c0f, wb_and (by omega) (by decide), ez]; rfl
  have e8 : lN z + lN (z / 2 ^ 8) = lN (z + z / 256) := lN_ad9 _ _
  have e9 : lN (z + z / 256) + lN ((z + z / 256) / 2 ^ 16) = lN (z + z / 256 + (z + z / 256) / 65536) := lN_ad9 _ _
  have e10 : lN (z + z / 256 + (z + z / 256) / 65536) + lN ((z + z / 256 + (z + z / 256) / 65536) / 2 ^ 32) = lN (z + z / 256 + (z + z / 256) / 65536 + (z + z / 256 + (z + z / 256) / 65536) / 4294967296) := lN_ad9 _ _
  refine Call.of (ls := [(0, vl (lN n))]) sJ13_bitCount_95d88.1 (Nat.le_of_ble_eq_true rfl) rfl ?_
  refine aw_lload_n dJ13_bitCount_95d88_0 rfl ?_
  refine aw_lload_n dJ13_bitCount_95d88_1 rfl ?_
  refine aw_iconst dJ13_bitCount_95d88_2 ?_
  refine aw_lushr (v := lN (n / 2 ^ 1)) dJ13_bitCount_95d88_3 (ush (by omega) (by decide) rfl) ?_
  refine aw_ldc2 dJ13_bitCount_95d88_4 qJ13_314 ?_
  refine aw_land dJ13_bitCount_95d88_7 ?_
  rw [e1]
  refine aw_lsub dJ13_bitCount_95d88_8 ?_
  rw [e2]
  refine aw_lstore_n (ls1 := [(0, _)]) dJ13_bitCount_95d88_9 (by decide) rfl ?_
  refine aw_lload_n dJ13_bitCount_95d88_10 rfl ?_
  refine aw_ldc2 dJ13_bitCount_95d88_11 qJ13_316 ?_
  refine aw_land dJ13_bitCount_95d88_14 ?_
  rw [e3]
  refine aw_lload_n dJ13_bitCount_95d88_15 rfl ?_
  refine aw_iconst dJ13_bitCount_95d88_16 ?_
  refine aw_lushr (v := lN (p1 n / 2 ^ 2)) dJ13_bitCount_95d88_17 (ush (by omega) (by decide) rfl) ?_
  refine aw_ldc2 dJ13_bitCount_95d88_18 qJ13_316 ?_
  refine aw_land dJ13_bitCount_95d88_21 ?_
  rw [e4]
  refine aw_ladd dJ13_bitCount_95d88_22 ?_
  rw [e5]
  refine aw_lstore_n (ls1 := [(0, _)]) dJ13_bitCount_95d88_23 (by decide) rfl ?_
  refine aw_lload_n dJ13_bitCount_95d88_24 rfl ?_
  refine aw_lload_n dJ13_bitCount_95d88_25 rfl ?_
  refine aw_iconst dJ13_bitCount_95d88_26 ?_
  refine aw_lushr (v := lN (p2 (p1 n) / 2 ^ 4)) dJ13_bitCount_95d88_27 (ush (by omega) (by decide) rfl) ?_
  refine aw_ladd dJ13_bitCount_95d88_28 ?_
  rw [e6]
  refine aw_ldc2 dJ13_bitCount_95d88_29 qJ13_318 ?_
  refine aw_land dJ13_bitCount_95d88_32 ?_
  rw [e7]
  refine aw_lstore_n (ls1 := [(0, _)]) dJ13_bitCount_95d88_33 (by decide) rfl ?_
  refine aw_lload_n dJ13_bitCount_95d88_34 rfl ?_
  refine aw_lload_n dJ13_bitCount_95d88_35 rfl ?_
  refine aw_bipush dJ13_bitCount_95d88_36 rfl ?_
  refine aw_lushr (v := lN (z / 2 ^ 8)) dJ13_bitCount_95d88_38 (ush (by omega) (by decide) rfl) ?_
  refine aw_ladd dJ13_bitCount_95d88_39 ?_
  rw [e8]
  refine aw_lstore_n (ls1 := [(0, _)]) dJ13_bitCount_95d88_40 (by decide) rfl ?_
  refine aw_lload_n dJ13_bitCount_95d88_41 rfl ?_
  refine aw_lload_n dJ13_bitCount_95d88_42 rfl ?_
  refine aw_bipush dJ13_bitCount_95d88_43 rfl ?_
  refine aw_lushr (v := lN ((z + z / 256) / 2 ^ 16)) dJ13_bitCount_95d88_45 (ush (by omega) (by decide) rfl) ?_
  refine aw_ladd dJ13_bitCount_95d88_46 ?_
  rw [e9]
  refine aw_lstore_n (ls1 := [(0, _)]) dJ13_bitCount_95d88_47 (by decide) rfl ?_
  refine aw_lload_n dJ13_bitCount_95d88_48 rfl ?_
  refine aw_lload_n dJ13_bitCount_95d88_49 rfl ?_
  refine aw_bipush dJ13_bitCount_95d88_50 rfl ?_
  refine aw_lushr (v := lN ((z + z / 256 + (z + z / 256) / 65536) / 2 ^ 32)) dJ13_bitCount_95d88_52 (ush (by omega) (by decide) rfl) ?_
  refine aw_ladd dJ13_bitCount_95d88_53 ?_
  rw [e10]
  refine aw_lstore_n (ls1 := [(0, _)]) dJ13_bitCount_95d88_54 (by decide) rfl ?_
  refine aw_lload_n dJ13_bitCount_95d88_55 rfl ?_
  refine aw_l2i (v := ((z + z / 256 + (z + z / 256) / 65536 + (z + z / 256 + (z + z / 256) / 65536) / 4294967296 : Nat) : Int)) dJ13_bitCount_95d88_56 (l2i_n _) ?_
  refine aw_bipush dJ13_bitCount_95d88_57 rfl ?_
  refine aw_iand (v := (fb_ct (fun k => n.testBit k) 40 : Nat)) dJ13_bitCount_95d88_59 (iv_mask (k := 7) rfl (by rw [← hz])) ?_
  exact aw_ireturn dJ13_bitCount_95d88_60 rfl (Or.inl rfl) ⟨rfl, rfl⟩
theorem c_bcS {γ : GG} {h : AH} (f : Nat → Bool) : Call γ mJ13_bitCount_95d88 0 0 0 [vl (S9 f)] h (rV (vi (fb_ct f 40 : Nat)) h) := by
  have K := c_bc (γ := γ) (h := h) (mkS_lt f)
  rw [fb_ct_cong (q := f) (fun k hk => by rw [mkS_tb]; simp [hk])] at K
  exact K
def rgS (b e : Nat) : Nat → Bool := fun k => decide (b ≤ k) && decide (k < e)
theorem rgS_0 {b e : Nat} (h : e ≤ b) : S9 (rgS b e) = 0 := by
  rw [S9_0]
  refine S9_cong (fun k _ => ?_)
  unfold rgS
  by_cases q : b ≤ k
  · simp [q]; omega
  · simp [q]
theorem c_range {γ : GG} {h : AH} {b e : Nat} (hb : b ≤ 40) (he : e ≤ 40) : Call γ mX10_range 0 0 0 [vi (b : Int), vi (e : Int)] h (rV (vl (S9 (rgS b e))) h) := by
  by_cases q : b < e
  · rw [show S9 (rgS b e) = lN (2 ^ e) - lN (2 ^ b) from (S9_rng (by omega) he).symm]
    refine Call.of (ls := [(0, vi (b : Int)), (1, vi (e : Int))]) sX10_range.1 (Nat.le_of_ble_eq_true rfl) rfl ?_
    refine aw_iload_n dX10_range_0 rfl ?_
    refine aw_iload_n dX10_range_1 rfl ?_
    refine aw_ic_le (tgt := 15) dX10_range_2 rfl (by omega) (by omega) (fun c2 => ?_) (fun c2 => ?_)
    · exact absurd c2 (by omega)
    · refine aw_lconst (v := 1) dX10_range_5 rfl ?_
      refine aw_iload_n dX10_range_6 rfl ?_
      refine aw_lshl (v := lN (2 ^ e)) dX10_range_7 (sh1 (by omega) rfl) ?_
      refine aw_lconst (v := 1) dX10_range_8 rfl ?_
      refine aw_iload_n dX10_range_9 rfl ?_
      refine aw_lshl (v := lN (2 ^ b)) dX10_range_10 (sh1 (by omega) rfl) ?_
      refine aw_lsub dX10_range_11 ?_
      refine aw_goto (tgt := 16) dX10_range_12 rfl ?_
      exact aw_lreturn dX10_range_16 rfl (Or.inl rfl) ⟨rfl, rfl⟩
  · rw [rgS_0 (by omega)]
    refine Call.of (ls := [(0, vi (b : Int)), (1, vi (e : Int))]) sX10_range.1 (Nat.le_of_ble_eq_true rfl) rfl ?_
    refine aw_iload_n dX10_range_0 rfl ?_
    refine aw_iload_n dX10_range_1 rfl ?_
    refine aw_ic_le (tgt := 15) dX10_range_2 rfl (by omega) (by omega) (fun c2 => ?_) (fun c2 => ?_)
    · refine aw_lconst (v := 0) dX10_range_15 rfl ?_
      exact aw_lreturn dX10_range_16 rfl (Or.inl rfl) ⟨rfl, rfl⟩
    · exact absurd c2 (by omega)
/-- the nodes of a set from the j-th on -/
def frm (f : Nat → Bool) (j : Nat) : Nat → Bool := fun k => f k && decide (j ≤ fb_ct f k)
theorem frm_fst {f : Nat → Bool} {j y : Nat} (hy : y < 40) (h1 : f y = true) (h2 : fb_ct f y = j) : fst9 (frm f j) y := by
  refine ⟨hy, by unfold frm; simp [h1, h2], fun k hk => ?_⟩
  unfold frm
  cases e : f k with
  | false => rfl
  | true =>
    have a1 : fb_ct f (k + 1) ≤ fb_ct f y := fb_ct_mono f hk
    rw [fb_ct_succ, if_pos e, h2] at a1
    simp
    omega
theorem frm_pop {f : Nat → Bool} {j y : Nat} (hy : y < 40) (h1 : f y = true) (h2 : fb_ct f y = j) : S9 (frm f j) &&& (S9 (frm f j) - 1) = S9 (frm f (j + 1)) := by
  rw [S9_pop (frm_fst hy h1 h2)]
  refine S9_cong (fun k _ => ?_)
  unfold frm
  cases e : f k with
  | false => rfl
  | true =>
    by_cases q : k = y
    · subst q
      simp
      omega
    · have : fb_ct f k ≠ j := fun z => q (fb_ct_kth_one e h1 (z.trans h2.symm))
      by_cases q2 : j ≤ fb_ct f k
      · simp [q, q2, show j + 1 ≤ fb_ct f k by omega]
      · simp [q, q2, show ¬ j + 1 ≤ fb_ct f k by omega]
theorem kth_ex {f : Nat → Bool} {x i j : Nat} (hx : x < 40) (h2 : fb_ct f x = i) (hj : j < i) : ∃ y, y < 40 ∧ f y = true ∧ fb_ct f y = j := by
  obtain ⟨y, y1, y2, y3⟩ := fb_ct_kth (p := f) (n := x) (k := j) (by omega)
  exact ⟨y, by omega, y2, y3⟩
theorem l_nth {γ : GG} {h : AH} {f : Nat → Bool} {x i : Nat} (hx : x < 40) (h1 : f x = true) (h2 : fb_ct f x = i) : ∀ (m j : Nat), j + m = i → AW γ mX10_nth 0 0 0 5 [(5, vi (j : Int)), (3, vl (S9 (frm f j))), (2, vi (i : Int))] [] h (rV (vl (S9 (fun k => decide (k = x)))) h) := by
  have i40 : i ≤ 40 := by have := fb_ct_le f x; omega
  intro m
  induction m with
  | zero =>
    intro j hj
    rw [show S9 (fun k => decide (k = x)) = S9 (frm f j) &&& (-(S9 (frm f j))) from (S9_low (frm_fst hx h1 (by omega))).symm]
    refine aw_iload dX10_nth_5 rfl ?_
    refine aw_iload_n dX10_nth_7 rfl ?_
    refine aw_ic_ge (tgt := 23) dX10_nth_8 rfl (by omega) (by omega) (fun c8 => ?_) (fun c8 => ?_)
    · refine aw_lload_n dX10_nth_23 rfl ?_
      refine aw_lload_n dX10_nth_24 rfl ?_
      refine aw_lneg dX10_nth_25 ?_
      refine aw_land dX10_nth_26 ?_
      exact aw_lreturn dX10_nth_27 rfl (Or.inl rfl) ⟨rfl, rfl⟩
    · exact absurd c8 (by omega)
  | succ m ih =>
    intro j hj
    obtain ⟨y, y1, y2, y3⟩ := kth_ex hx h2 (show j < i by omega)
    have I := ih (j + 1) (by omega)
    rw [← frm_pop y1 y2 y3] at I
    refine aw_iload dX10_nth_5 rfl ?_
    refine aw_iload_n dX10_nth_7 rfl ?_
    refine aw_ic_ge (tgt := 23) dX10_nth_8 rfl (by omega) (by omega) (fun c8 => ?_) (fun c8 => ?_)
    · exact absurd c8 (by omega)
    · refine aw_lload_n dX10_nth_11 rfl ?_
      refine aw_lload_n dX10_nth_12 rfl ?_
      refine aw_lconst (v := 1) dX10_nth_13 rfl ?_
      refine aw_lsub dX10_nth_14 ?_
      refine aw_land dX10_nth_15 ?_
      refine aw_lstore_n (ls1 := [(3, _), (5, _), (2, _)]) dX10_nth_16 (by decide) rfl ?_
      refine aw_iinc (k9 := 1) (ls1 := [(5, _), (3, _), (2, _)]) dX10_nth_17 rfl (by decide) rfl ?_
      refine aw_goto (tgt := 5) dX10_nth_20 rfl ?_
      refine aw_sub [0, 1, 2] rfl ?_
      exact I
theorem c_nth {γ : GG} {h : AH} {f : Nat → Bool} {x i : Nat} (hx : x < 40) (h1 : f x = true) (h2 : fb_ct f x = i) : Call γ mX10_nth 0 0 0 [vl (S9 f), vi (i : Int)] h (rV (vl (S9 (fun k => decide (k = x)))) h) := by
  have L := l_nth (γ := γ) (h := h) hx h1 h2 i 0 (by omega)
  rw [show frm f 0 = f from by funext k; unfold frm; simp] at L
  refine Call.of (ls := [(0, vl (S9 f)), (2, vi (i : Int))]) sX10_nth.1 (Nat.le_of_ble_eq_true rfl) rfl ?_
  refine aw_lload_n dX10_nth_0 rfl ?_
  refine aw_lstore_n (ls1 := [(3, _), (0, _), (2, _)]) dX10_nth_1 (by decide) rfl ?_
  refine aw_iconst dX10_nth_2 ?_
  refine aw_istore (ls1 := [(5, _), (3, _), (0, _), (2, _)]) dX10_nth_3 (by decide) rfl ?_
  refine aw_sub [0, 1, 3] rfl ?_
  exact L
theorem ct_lt (i : Nat) : ∀ n, fb_ct (fun k => decide (k < i)) n = min i n := by
  intro n
  induction n with
  | zero => simp [fb_ct]
  | succ n ih =>
    rw [fb_ct_succ, ih]
    by_cases q : n < i
    · simp [q]; omega
    · simp [q]; omega
theorem c_position {γ : GG} {h : AH} {f : Nat → Bool} {i : Nat} (hf : fst9 f i) : Call γ mX10_position 1 0 0 [vl (S9 f)] h (rV (vi (i : Int)) h) := by
  have K := c_bcS (γ := γ) (h := h) (fun k => decide (k < i))
  rw [ct_lt, show min i 40 = i by have := hf.1; omega] at K
  have e := S9_pos hf
  refine Call.of (ls := [(0, vl (S9 f))]) sX10_position.1 (Nat.le_of_ble_eq_true rfl) rfl ?_
  refine aw_lload_n dX10_position_0 rfl ?_
  refine aw_lload_n dX10_position_1 rfl ?_
  refine aw_lneg dX10_position_2 ?_
  refine aw_land dX10_position_3 ?_
  refine aw_lconst (v := 1) dX10_position_4 rfl ?_
  refine aw_lsub dX10_position_5 ?_
  rw [e]
  refine aw_invS_r dX10_position_6 sJ13_bitCount_95d88 kX10_71 rfl (K) rfl rfl (by decide) (by decide) (by decide) (Nat.le_of_ble_eq_true rfl) ?_
  exact aw_ireturn dX10_position_9 rfl (Or.inl rfl) ⟨rfl, rfl⟩
def rvA (ax : Int) : Bool := decide (ax = 7 ∨ ax = 8 ∨ ax = 9)
theorem c_isReverse {γ : GG} {h : AH} {ax : Int} (hx : 0 ≤ ax ∧ ax ≤ 9) : Call γ mX10_isReverse 0 0 0 [vi ax] h (rV (vi (bI (rvA ax))) h) := by
  by_cases q : ax = 7 ∨ ax = 8 ∨ ax = 9
  · rw [show rvA ax = true from decide_eq_true q]
    by_cases q7 : ax = 7
    · skip
      refine Call.of (ls := [(0, vi ax)]) sX10_isReverse.1 (Nat.le_of_ble_eq_true rfl) rfl ?_
      refine aw_iload_n dX10_isReverse_0 rfl ?_
      refine aw_bipush dX10_isReverse_1 rfl ?_
      refine aw_ic_eq (tgt := 18) dX10_isReverse_3 rfl (by omega) (by omega) (fun c3 => ?_) (fun c3 => ?_)
      · refine aw_iconst dX10_isReverse_18 ?_
        refine aw_goto (tgt := 23) dX10_isReverse_19 rfl ?_
        exact aw_zreturn dX10_isReverse_23 rfl (by omega) (Or.inl rfl) ⟨rfl, rfl⟩
      · exact absurd c3 (by omega)
    · by_cases q8 : ax = 8
      · skip
        refine Call.of (ls := [(0, vi ax)]) sX10_isReverse.1 (Nat.le_of_ble_eq_true rfl) rfl ?_
        refine aw_iload_n dX10_isReverse_0 rfl ?_
        refine aw_bipush dX10_isReverse_1 rfl ?_
        refine aw_ic_eq (tgt := 18) dX10_isReverse_3 rfl (by omega) (by omega) (fun c3 => ?_) (fun c3 => ?_)
        · exact absurd c3 (by omega)
        · refine aw_iload_n dX10_isReverse_6 rfl ?_
          refine aw_bipush dX10_isReverse_7 rfl ?_
          refine aw_ic_eq (tgt := 18) dX10_isReverse_9 rfl (by omega) (by omega) (fun c9 => ?_) (fun c9 => ?_)
          · refine aw_iconst dX10_isReverse_18 ?_
            refine aw_goto (tgt := 23) dX10_isReverse_19 rfl ?_
            exact aw_zreturn dX10_isReverse_23 rfl (by omega) (Or.inl rfl) ⟨rfl, rfl⟩
          · exact absurd c9 (by omega)
      · skip
        refine Call.of (ls := [(0, vi ax)]) sX10_isReverse.1 (Nat.le_of_ble_eq_true rfl) rfl ?_
        refine aw_iload_n dX10_isReverse_0 rfl ?_
        refine aw_bipush dX10_isReverse_1 rfl ?_
        refine aw_ic_eq (tgt := 18) dX10_isReverse_3 rfl (by omega) (by omega) (fun c3 => ?_) (fun c3 => ?_)
        · exact absurd c3 (by omega)
        · refine aw_iload_n dX10_isReverse_6 rfl ?_
          refine aw_bipush dX10_isReverse_7 rfl ?_
          refine aw_ic_eq (tgt := 18) dX10_isReverse_9 rfl (by omega) (by omega) (fun c9 => ?_) (fun c9 => ?_)
          · exact absurd c9 (by omega)
          · refine aw_iload_n dX10_isReverse_12 rfl ?_
            refine aw_bipush dX10_isReverse_13 rfl ?_
            refine aw_ic_ne (tgt := 22) dX10_isReverse_15 rfl (by omega) (by omega) (fun c15 => ?_) (fun c15 => ?_)
            · exact absurd c15 (by omega)
            · refine aw_iconst dX10_isReverse_18 ?_
              refine aw_goto (tgt := 23) dX10_isReverse_19 rfl ?_
              exact aw_zreturn dX10_isReverse_23 rfl (by omega) (Or.inl rfl) ⟨rfl, rfl⟩
  · rw [show rvA ax = false from decide_eq_false q]
    refine Call.of (ls := [(0, vi ax)]) sX10_isReverse.1 (Nat.le_of_ble_eq_true rfl) rfl ?_
    refine aw_iload_n dX10_isReverse_0 rfl ?_
    refine aw_bipush dX10_isReverse_1 rfl ?_
    refine aw_ic_eq (tgt := 18) dX10_isReverse_3 rfl (by omega) (by omega) (fun c3 => ?_) (fun c3 => ?_)
    · exact absurd c3 (by omega)
    · refine aw_iload_n dX10_isReverse_6 rfl ?_
      refine aw_bipush dX10_isReverse_7 rfl ?_
      refine aw_ic_eq (tgt := 18) dX10_isReverse_9 rfl (by omega) (by omega) (fun c9 => ?_) (fun c9 => ?_)
      · exact absurd c9 (by omega)
      · refine aw_iload_n dX10_isReverse_12 rfl ?_
        refine aw_bipush dX10_isReverse_13 rfl ?_
        refine aw_ic_ne (tgt := 22) dX10_isReverse_15 rfl (by omega) (by omega) (fun c15 => ?_) (fun c15 => ?_)
        · refine aw_iconst dX10_isReverse_22 ?_
          exact aw_zreturn dX10_isReverse_23 rfl (by omega) (Or.inl rfl) ⟨rfl, rfl⟩
        · exact absurd c15 (by omega)
