/-! ===== the sign of an axis in the text of the axes ===== -/
theorem b_i2b : ∀ n : Nat, n < 128 → (Int32.ofInt (n : Int)).toInt8.toInt32 = Int32.ofInt (n : Int) := by decide
theorem b_i2c : ∀ n : Nat, n < 128 → ((Int32.ofInt (n : Int)).toUInt32 % 65536).toInt32 = Int32.ofInt (n : Int) := by decide
def axI (c : Int) : Nat → Nat → Int
  | 0, _ => -1
  | m + 1, k => if ax_s.getD k 0 = c then (k : Int) else axI c m (k + 1)
theorem c_canEnc {γ : GG} {h : AH} {c : Int} (hc : 0 ≤ c ∧ c ≤ 127) : Call γ mJ1_canEncode_9a6ad 0 0 0 [vi c] h (rV (vi 1) h) := by
  refine Call.of (ls := [(0, vi c)]) sJ1_canEncode_9a6ad.1 (Nat.le_of_ble_eq_true rfl) rfl ?_
  refine aw_iload_n dJ1_canEncode_9a6ad_0 rfl ?_
  refine aw_if_lt (tgt := 15) dJ1_canEncode_9a6ad_1 rfl (by omega) (fun c1 => ?_) (fun c1 => ?_)
  · exact absurd c1 (by omega)
  · refine aw_iload_n dJ1_canEncode_9a6ad_4 rfl ?_
    refine aw_sipush dJ1_canEncode_9a6ad_5 rfl ?_
    refine aw_ic_gt (tgt := 15) dJ1_canEncode_9a6ad_8 rfl (by omega) (by omega) (fun c8 => ?_) (fun c8 => ?_)
    · exact absurd c8 (by omega)
    · refine aw_iconst dJ1_canEncode_9a6ad_11 ?_
      refine aw_goto (tgt := 16) dJ1_canEncode_9a6ad_12 rfl ?_
      exact aw_zreturn dJ1_canEncode_9a6ad_16 rfl (by omega) (Or.inl rfl) ⟨rfl, rfl⟩
theorem c_tlen {γ : GG} {h : AH} : Call γ mJ0_length_8abf5 1 0 0 [vr (some (γ.2.1 0))] h (rV (vi 9) h) := by
  refine Call.of (ls := [(0, vr (some (γ.2.1 0)))]) vJ0_length_8abf5.1 (Nat.le_of_ble_eq_true rfl) rfl ?_
  refine aw_aload_n dJ0_length_8abf5_0 rfl ?_
  refine aw_tvalue dJ0_length_8abf5_1 fJ0_9 ?_
  refine aw_tlen dJ0_length_8abf5_4 ?_
  refine aw_aload_n dJ0_length_8abf5_5 rfl ?_
  refine aw_invT dJ0_length_8abf5_6 vJ0_coder_7d493 kJ0_335 rfl rfl (c_J0_coder) rfl rfl (by decide) (by decide) (by decide) (Nat.le_of_ble_eq_true rfl) ?_
  refine aw_ishr (v := 9) dJ0_length_8abf5_9 rfl ?_
  exact aw_ireturn dJ0_length_8abf5_10 rfl (Or.inl rfl) ⟨rfl, rfl⟩
theorem l_ixc {γ : GG} {h : AH} {c : Nat} (hc : c < 128) : ∀ (m k : Nat), k + m = 9 → AW γ mJ1_indexOfChar_4cfef 0 0 0 7 [(0, vr (some (γ.2.2 0))), (3, vi 9), (4, vi (c : Int)), (5, vi (k : Int))] [] h (rV (vi (axI (c : Int) m k)) h) := by
  intro m
  induction m with
  | zero =>
    intro k hkm
    refine aw_iload dJ1_indexOfChar_4cfef_7 rfl ?_
    refine aw_iload_n dJ1_indexOfChar_4cfef_9 rfl ?_
    refine aw_ic_ge (tgt := 31) dJ1_indexOfChar_4cfef_10 rfl (by omega) (by omega) (fun c10 => ?_) (fun c10 => ?_)
    · refine aw_iconst dJ1_indexOfChar_4cfef_31 ?_
      exact aw_ireturn dJ1_indexOfChar_4cfef_32 rfl (Or.inl rfl) ⟨rfl, rfl⟩
    · exact absurd c10 (by omega)
  | succ m ih =>
    intro k hkm
    have ih' := ih (k + 1) (by omega)
    have hb := ax_bd k
    simp only [axI]
    by_cases q : ax_s.getD k 0 = (c : Int)
    · rw [if_pos q]
      refine aw_iload dJ1_indexOfChar_4cfef_7 rfl ?_
      refine aw_iload_n dJ1_indexOfChar_4cfef_9 rfl ?_
      refine aw_ic_ge (tgt := 31) dJ1_indexOfChar_4cfef_10 rfl (by omega) (by omega) (fun c10 => ?_) (fun c10 => ?_)
      · exact absurd c10 (by omega)
      · refine aw_aload_n dJ1_indexOfChar_4cfef_13 rfl ?_
        refine aw_iload dJ1_indexOfChar_4cfef_14 rfl ?_
        refine aw_tbyte dJ1_indexOfChar_4cfef_16 (by omega) ?_
        rw [show Int.toNat (k : Int) = k from rfl]
        refine aw_iload dJ1_indexOfChar_4cfef_17 rfl ?_
        refine aw_ic_ne (tgt := 25) dJ1_indexOfChar_4cfef_19 rfl (by omega) (by omega) (fun c19 => ?_) (fun c19 => ?_)
        · exact absurd c19 (by omega)
        · refine aw_iload dJ1_indexOfChar_4cfef_22 rfl ?_
          exact aw_ireturn dJ1_indexOfChar_4cfef_24 rfl (Or.inl rfl) ⟨rfl, rfl⟩
    · rw [if_neg q]
      refine aw_iload dJ1_indexOfChar_4cfef_7 rfl ?_
      refine aw_iload_n dJ1_indexOfChar_4cfef_9 rfl ?_
      refine aw_ic_ge (tgt := 31) dJ1_indexOfChar_4cfef_10 rfl (by omega) (by omega) (fun c10 => ?_) (fun c10 => ?_)
      · exact absurd c10 (by omega)
      · refine aw_aload_n dJ1_indexOfChar_4cfef_13 rfl ?_
        refine aw_iload dJ1_indexOfChar_4cfef_14 rfl ?_
        refine aw_tbyte dJ1_indexOfChar_4cfef_16 (by omega) ?_
        rw [show Int.toNat (k : Int) = k from rfl]
        refine aw_iload dJ1_indexOfChar_4cfef_17 rfl ?_
        refine aw_ic_ne (tgt := 25) dJ1_indexOfChar_4cfef_19 rfl (by omega) (by omega) (fun c19 => ?_) (fun c19 => ?_)
        · refine aw_iinc (k9 := 3) (ls1 := [(5, _), (0, _), (3, _), (4, _)]) dJ1_indexOfChar_4cfef_25 rfl (by decide) rfl ?_
          refine aw_goto (tgt := 7) dJ1_indexOfChar_4cfef_28 rfl ?_
          refine aw_sub [1, 2, 3, 0] rfl ?_
          exact ih'
        · exact absurd c19 (by omega)
theorem c_ixc {γ : GG} {h : AH} {c : Nat} (hc : c < 128) : Call γ mJ1_indexOfChar_4cfef 0 0 0 [vr (some (γ.2.2 0)), vi (c : Int), vi 0, vi 9] h (rV (vi (axI (c : Int) 9 0)) h) := by
  refine Call.of (ls := [(0, vr (some (γ.2.2 0))), (1, vi (c : Int)), (2, vi 0), (3, vi 9)]) sJ1_indexOfChar_4cfef.1 (Nat.le_of_ble_eq_true rfl) rfl ?_
  refine aw_iload_n dJ1_indexOfChar_4cfef_0 rfl ?_
  refine aw_i2b (v := (c : Int)) dJ1_indexOfChar_4cfef_1 (b_i2b c hc) ?_
  refine aw_istore (ls1 := [(4, _), (0, _), (1, _), (2, _), (3, _)]) dJ1_indexOfChar_4cfef_2 (by decide) rfl ?_
  refine aw_iload_n dJ1_indexOfChar_4cfef_4 rfl ?_
  refine aw_istore (ls1 := [(5, _), (4, _), (0, _), (1, _), (2, _), (3, _)]) dJ1_indexOfChar_4cfef_5 (by decide) rfl ?_
  refine aw_sub [2, 5, 1, 0] rfl ?_
  exact l_ixc hc 9 0 (by omega)
theorem c_ix1 {γ : GG} {h : AH} {c : Nat} (hc : c < 128) : Call γ mJ1_indexOf_4cfef 1 0 0 [vr (some (γ.2.2 0)), vi (c : Int), vi 0, vi 9] h (rV (vi (axI (c : Int) 9 0)) h) := by
  refine Call.of (ls := [(0, vr (some (γ.2.2 0))), (1, vi (c : Int)), (2, vi 0), (3, vi 9)]) sJ1_indexOf_4cfef.1 (Nat.le_of_ble_eq_true rfl) rfl ?_
  refine aw_iload_n dJ1_indexOf_4cfef_0 rfl ?_
  refine aw_invS_r dJ1_indexOf_4cfef_1 sJ1_canEncode_9a6ad kJ1_88 rfl (c_canEnc (c := (c : Int)) (by omega)) rfl rfl (by decide) (by decide) (by decide) (Nat.le_of_ble_eq_true rfl) ?_
  refine aw_if_ne (tgt := 9) dJ1_indexOf_4cfef_4 rfl (by omega) (fun c4 => ?_) (fun c4 => ?_)
  · refine aw_iload_n dJ1_indexOf_4cfef_9 rfl ?_
    refine aw_iconst dJ1_indexOf_4cfef_10 ?_
    refine aw_max dJ1_indexOf_4cfef_11 uJ1_92 (by omega) (by omega) (by decide) (Nat.le_of_ble_eq_true rfl) ?_
    rw [show max (0 : Int) 0 = 0 from rfl]
    refine aw_istore_n (ls1 := [(2, _), (0, _), (1, _), (3, _)]) dJ1_indexOf_4cfef_14 (by decide) rfl ?_
    refine aw_iload_n dJ1_indexOf_4cfef_15 rfl ?_
    refine aw_aload_n dJ1_indexOf_4cfef_16 rfl ?_
    refine aw_tlen dJ1_indexOf_4cfef_17 ?_
    refine aw_min dJ1_indexOf_4cfef_18 uJ1_38 (by omega) (by omega) (by decide) (Nat.le_of_ble_eq_true rfl) ?_
    rw [show min (9 : Int) 9 = 9 from rfl]
    refine aw_istore_n (ls1 := [(3, _), (2, _), (0, _), (1, _)]) dJ1_indexOf_4cfef_21 (by decide) rfl ?_
    refine aw_iload_n dJ1_indexOf_4cfef_22 rfl ?_
    refine aw_iload_n dJ1_indexOf_4cfef_23 rfl ?_
    refine aw_ic_lt (tgt := 29) dJ1_indexOf_4cfef_24 rfl (by omega) (by omega) (fun c24 => ?_) (fun c24 => ?_)
    · refine aw_aload_n dJ1_indexOf_4cfef_29 rfl ?_
      refine aw_iload_n dJ1_indexOf_4cfef_30 rfl ?_
      refine aw_iload_n dJ1_indexOf_4cfef_31 rfl ?_
      refine aw_iload_n dJ1_indexOf_4cfef_32 rfl ?_
      refine aw_invS_r dJ1_indexOf_4cfef_33 sJ1_indexOfChar_4cfef kJ1_95 rfl (c_ixc hc) rfl rfl (by decide) (by decide) (by decide) (Nat.le_of_ble_eq_true rfl) ?_
      exact aw_ireturn dJ1_indexOf_4cfef_36 rfl (Or.inl rfl) ⟨rfl, rfl⟩
    · exact absurd c24 (by omega)
  · exact absurd c4 (by omega)
theorem c_ix2 {γ : GG} {h : AH} {c : Nat} (hc : c < 128) : Call γ mJ0_indexOf_7cf53 2 0 0 [vr (some (γ.2.1 0)), vi (c : Int), vi 0] h (rV (vi (axI (c : Int) 9 0)) h) := by
  refine Call.of (ls := [(0, vr (some (γ.2.1 0))), (1, vi (c : Int)), (2, vi 0)]) vJ0_indexOf_7cf53.1 (Nat.le_of_ble_eq_true rfl) rfl ?_
  refine aw_aload_n dJ0_indexOf_7cf53_0 rfl ?_
  refine aw_invT dJ0_indexOf_7cf53_1 vJ0_isLatin1_aae02 kJ0_492 rfl rfl (c_J0_isLatin1) rfl rfl (by decide) (by decide) (by decide) (Nat.le_of_ble_eq_true rfl) ?_
  refine aw_if_eq (tgt := 23) dJ0_indexOf_7cf53_4 rfl (by omega) (fun c4 => ?_) (fun c4 => ?_)
  · exact absurd c4 (by omega)
  · refine aw_aload_n dJ0_indexOf_7cf53_7 rfl ?_
    refine aw_tvalue dJ0_indexOf_7cf53_8 fJ0_9 ?_
    refine aw_iload_n dJ0_indexOf_7cf53_11 rfl ?_
    refine aw_iload_n dJ0_indexOf_7cf53_12 rfl ?_
    refine aw_aload_n dJ0_indexOf_7cf53_13 rfl ?_
    refine aw_invT dJ0_indexOf_7cf53_14 vJ0_length_8abf5 kJ0_505 rfl rfl (c_tlen) rfl rfl (by decide) (by decide) (by decide) (Nat.le_of_ble_eq_true rfl) ?_
    refine aw_invS_r dJ0_indexOf_7cf53_17 sJ1_indexOf_4cfef kJ0_637 rfl (c_ix1 hc) rfl rfl (by decide) (by decide) (by decide) (Nat.le_of_ble_eq_true rfl) ?_
    refine aw_goto (tgt := 36) dJ0_indexOf_7cf53_20 rfl ?_
    exact aw_ireturn dJ0_indexOf_7cf53_36 rfl (Or.inl rfl) ⟨rfl, rfl⟩
theorem c_ix3 {γ : GG} {h : AH} {c : Nat} (hc : c < 128) : Call γ mJ0_indexOf_0f7a4 3 0 0 [vr (some (γ.2.1 0)), vi (c : Int)] h (rV (vi (axI (c : Int) 9 0)) h) := by
  refine Call.of (ls := [(0, vr (some (γ.2.1 0))), (1, vi (c : Int))]) vJ0_indexOf_0f7a4.1 (Nat.le_of_ble_eq_true rfl) rfl ?_
  refine aw_aload_n dJ0_indexOf_0f7a4_0 rfl ?_
  refine aw_iload_n dJ0_indexOf_0f7a4_1 rfl ?_
  refine aw_iconst dJ0_indexOf_0f7a4_2 ?_
  refine aw_invT dJ0_indexOf_0f7a4_3 vJ0_indexOf_7cf53 kJ0_633 rfl rfl (c_ix2 hc) rfl rfl (by decide) (by decide) (by decide) (Nat.le_of_ble_eq_true rfl) ?_
  exact aw_ireturn dJ0_indexOf_0f7a4_6 rfl (Or.inl rfl) ⟨rfl, rfl⟩
def axN (c : Nat) : Int := axI (c : Int) 9 0 + 1
def teN (c : Nat) : Int := if c = 42 then 8 else if 97 ≤ c ∧ c < 105 then (c : Int) - 97 else -1
theorem c_pAxis {γ : GG} {h : AH} {c : Nat} (hc : c < 128) : Call γ mX3_axisOf 4 0 0 [vi (c : Int)] h (rV (vi (axN c)) h) := by
  refine Call.of (ls := [(0, vi (c : Int))]) sX3_axisOf.1 (Nat.le_of_ble_eq_true rfl) rfl ?_
  refine aw_ldct dX3_axisOf_0 (by first | exact Or.inl ⟨rfl, rfl⟩ | exact Or.inr ⟨rfl, rfl⟩) ?_
  refine aw_iload_n dX3_axisOf_2 rfl ?_
  refine aw_i2c (v := (c : Int)) dX3_axisOf_3 (b_i2c c hc) ?_
  refine aw_invT dX3_axisOf_4 vJ0_indexOf_0f7a4 kX3_154 rfl rfl (c_ix3 hc) rfl rfl (by decide) (by decide) (by decide) (Nat.le_of_ble_eq_true rfl) ?_
  refine aw_iconst dX3_axisOf_7 ?_
  refine aw_iadd dX3_axisOf_8 ?_
  exact aw_ireturn dX3_axisOf_9 rfl (Or.inl rfl) ⟨rfl, rfl⟩
theorem c_pTest {γ : GG} {h : AH} {c : Nat} (hc : c < 128) : Call γ mX3_testOf 0 0 0 [vi (c : Int)] h (rV (vi (teN c)) h) := by
  unfold teN
  refine Call.of (ls := [(0, vi (c : Int))]) sX3_testOf.1 (Nat.le_of_ble_eq_true rfl) rfl ?_
  refine aw_iload_n dX3_testOf_0 rfl ?_
  refine aw_bipush dX3_testOf_1 rfl ?_
  refine aw_ic_ne (tgt := 9) dX3_testOf_3 rfl (by omega) (by omega) (fun c3 => ?_) (fun c3 => ?_)
  · refine aw_iload_n dX3_testOf_9 rfl ?_
    refine aw_bipush dX3_testOf_10 rfl ?_
    refine aw_ic_lt (tgt := 28) dX3_testOf_12 rfl (by omega) (by omega) (fun c12 => ?_) (fun c12 => ?_)
    · refine aw_iconst dX3_testOf_28 ?_
      exact aw_ireturn dX3_testOf_29 rfl (Or.inl rfl) ⟨by congr 3; first | (rw [if_pos (by omega)]; done) | (rw [if_neg (by omega), if_pos (by omega)]; done) | (rw [if_neg (by omega), if_neg (by omega)]), rfl⟩
    · refine aw_iload_n dX3_testOf_15 rfl ?_
      refine aw_bipush dX3_testOf_16 rfl ?_
      refine aw_ic_ge (tgt := 28) dX3_testOf_18 rfl (by omega) (by omega) (fun c18 => ?_) (fun c18 => ?_)
      · refine aw_iconst dX3_testOf_28 ?_
        exact aw_ireturn dX3_testOf_29 rfl (Or.inl rfl) ⟨by congr 3; first | (rw [if_pos (by omega)]; done) | (rw [if_neg (by omega), if_pos (by omega)]; done) | (rw [if_neg (by omega), if_neg (by omega)]), rfl⟩
      · refine aw_iload_n dX3_testOf_21 rfl ?_
        refine aw_bipush dX3_testOf_22 rfl ?_
        refine aw_isub dX3_testOf_24 ?_
        refine aw_goto (tgt := 29) dX3_testOf_25 rfl ?_
        exact aw_ireturn dX3_testOf_29 rfl (Or.inl rfl) ⟨by congr 3; first | (rw [if_pos (by omega)]; done) | (rw [if_neg (by omega), if_pos (by omega)]; done) | (rw [if_neg (by omega), if_neg (by omega)]), rfl⟩
  · refine aw_bipush dX3_testOf_6 rfl ?_
    exact aw_ireturn dX3_testOf_8 rfl (Or.inl rfl) ⟨by congr 3; first | (rw [if_pos (by omega)]; done) | (rw [if_neg (by omega), if_pos (by omega)]; done) | (rw [if_neg (by omega), if_neg (by omega)]), rfl⟩
