theorem c_J3_checkIndex {γ : GG} {h : AH} {i n : Int} {o : Option Nat} (hi : 0 ≤ i ∧ i < n) (hn : n ≤ 2147483647) : Call γ mJ3_checkIndex_8e157 0 0 0 [vi i, vi n, vr o] h (rV (vi i) h) := by
  refine Call.of (ls := [(0, vi i), (1, vi n), (2, vr o)]) sJ3_checkIndex_8e157.1 (Nat.le_of_ble_eq_true rfl) rfl ?_
  refine aw_iload_n dJ3_checkIndex_8e157_0 rfl ?_
  refine aw_if_lt (tgt := 9) dJ3_checkIndex_8e157_1 rfl (by omega) (fun c1 => ?_) (fun c1 => ?_)
  · exact absurd c1 (by omega)
  · refine aw_iload_n dJ3_checkIndex_8e157_4 rfl ?_
    refine aw_iload_n dJ3_checkIndex_8e157_5 rfl ?_
    refine aw_ic_lt (tgt := 16) dJ3_checkIndex_8e157_6 rfl (by omega) (by omega) (fun c6 => ?_) (fun c6 => ?_)
    · refine aw_iload_n dJ3_checkIndex_8e157_16 rfl ?_
      exact aw_ireturn dJ3_checkIndex_8e157_17 rfl (Or.inl rfl) ⟨rfl, rfl⟩
    · exact absurd c6 (by omega)

theorem c_X10_isReverse {γ : GG} {h : AH} {a : Int} (ha : 0 ≤ a ∧ a ≤ 9) : Call γ mX10_isReverse 0 0 0 [vi a] h (rV (vi (if a = 7 ∨ a = 8 ∨ a = 9 then 1 else 0)) h) := by
  refine Call.of (ls := [(0, vi a)]) sX10_isReverse.1 (Nat.le_of_ble_eq_true rfl) rfl ?_
  refine aw_iload_n dX10_isReverse_0 rfl ?_
  refine aw_bipush dX10_isReverse_1 rfl ?_
  refine aw_ic_eq (tgt := 18) dX10_isReverse_3 rfl (by omega) (by omega) (fun c3 => ?_) (fun c3 => ?_)
  · refine aw_iconst dX10_isReverse_18 ?_
    refine aw_goto (tgt := 23) dX10_isReverse_19 rfl ?_
    exact aw_zreturn dX10_isReverse_23 rfl (by omega) (Or.inl rfl) ⟨by congr 3; first | (rw [if_pos (by omega)]) | (rw [if_neg (by omega)]), rfl⟩
  · refine aw_iload_n dX10_isReverse_6 rfl ?_
    refine aw_bipush dX10_isReverse_7 rfl ?_
    refine aw_ic_eq (tgt := 18) dX10_isReverse_9 rfl (by omega) (by omega) (fun c9 => ?_) (fun c9 => ?_)
    · refine aw_iconst dX10_isReverse_18 ?_
      refine aw_goto (tgt := 23) dX10_isReverse_19 rfl ?_
      exact aw_zreturn dX10_isReverse_23 rfl (by omega) (Or.inl rfl) ⟨by congr 3; first | (rw [if_pos (by omega)]) | (rw [if_neg (by omega)]), rfl⟩
    · refine aw_iload_n dX10_isReverse_12 rfl ?_
      refine aw_bipush dX10_isReverse_13 rfl ?_
      refine aw_ic_ne (tgt := 22) dX10_isReverse_15 rfl (by omega) (by omega) (fun c15 => ?_) (fun c15 => ?_)
      · refine aw_iconst dX10_isReverse_22 ?_
        exact aw_zreturn dX10_isReverse_23 rfl (by omega) (Or.inl rfl) ⟨by congr 3; first | (rw [if_pos (by omega)]) | (rw [if_neg (by omega)]), rfl⟩
      · refine aw_iconst dX10_isReverse_18 ?_
        refine aw_goto (tgt := 23) dX10_isReverse_19 rfl ?_
        exact aw_zreturn dX10_isReverse_23 rfl (by omega) (Or.inl rfl) ⟨by congr 3; first | (rw [if_pos (by omega)]) | (rw [if_neg (by omega)]), rfl⟩
theorem c_X9_at {γ : GG} {h : AH} {o b n : Nat} {j : Int} (ho : kd h o = some (.inl 8)) (hb : gr h o 0 = some b) (hbk : kd h b = some (.inr (0, n))) (hn : n ≤ 1024) (hj : -2147483648 ≤ j ∧ j ≤ 2147483647) : Call γ mX9_at 0 0 0 [vr (some o), vi j] h (rV (vi (if 0 ≤ j ∧ j < n then gi h b j else -1)) h) := by
  refine Call.of (ls := [(0, vr (some o)), (1, vi j)]) vX9_at.1 (Nat.le_of_ble_eq_true rfl) rfl ?_
  refine aw_iload_n dX9_at_0 rfl ?_
  refine aw_if_lt (tgt := 22) dX9_at_1 rfl (by omega) (fun c1 => ?_) (fun c1 => ?_)
  · refine aw_iconst dX9_at_22 ?_
    exact aw_ireturn dX9_at_23 rfl (Or.inl rfl) ⟨by congr 3; first | (rw [if_pos (by omega)]) | (rw [if_neg (by omega)]), rfl⟩
  · refine aw_iload_n dX9_at_4 rfl ?_
    refine aw_aload_n dX9_at_5 rfl ?_
    refine aw_getr' dX9_at_6 fX9_15 rfl (by assumption) (by assumption) ?_
    refine aw_alen dX9_at_9 (by assumption) (by decide) ?_
    refine aw_ic_ge (tgt := 22) dX9_at_10 rfl (by omega) (by omega) (fun c10 => ?_) (fun c10 => ?_)
    · refine aw_iconst dX9_at_22 ?_
      exact aw_ireturn dX9_at_23 rfl (Or.inl rfl) ⟨by congr 3; first | (rw [if_pos (by omega)]) | (rw [if_neg (by omega)]), rfl⟩
    · refine aw_aload_n dX9_at_13 rfl ?_
      refine aw_getr' dX9_at_14 fX9_15 rfl (by assumption) (by assumption) ?_
      refine aw_iload_n dX9_at_17 rfl ?_
      refine aw_bald' dX9_at_18 (by assumption) (by omega) (by first | decide | omega) rfl ?_
      refine aw_goto (tgt := 23) dX9_at_19 rfl ?_
      exact aw_ireturn dX9_at_23 rfl (Or.inl rfl) ⟨by congr 3; first | (rw [if_pos (by omega)]) | (rw [if_neg (by omega)]), rfl⟩
