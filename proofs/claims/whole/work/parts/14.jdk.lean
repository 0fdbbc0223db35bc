section JDK
theorem c_J3_checkIndex0 {γ : GG} {h : AH} {i n : Int} (hi : 0 ≤ i ∧ i < n) (hn : n ≤ 2147483647) : Call γ mJ3_checkIndex_8e157 0 0 0 [vi i, vi n, vr none] h (rV (vi i) h) := by
  refine Call.of (ls := [(0, vi i), (1, vi n), (2, vr none)]) sJ3_checkIndex_8e157.1 (Nat.le_of_ble_eq_true rfl) rfl ?_
  refine aw_iload_n dJ3_checkIndex_8e157_0 rfl ?_
  refine aw_if_lt (tgt := 9) dJ3_checkIndex_8e157_1 rfl (by omega) (fun c1 => ?_) (fun c1 => ?_)
  · exact absurd c1 (by omega)
  · refine aw_iload_n dJ3_checkIndex_8e157_4 rfl ?_
    refine aw_iload_n dJ3_checkIndex_8e157_5 rfl ?_
    refine aw_ic_lt (tgt := 16) dJ3_checkIndex_8e157_6 rfl (by omega) (by omega) (fun c6 => ?_) (fun c6 => ?_)
    · refine aw_iload_n dJ3_checkIndex_8e157_16 rfl ?_
      exact aw_ireturn dJ3_checkIndex_8e157_17 rfl (Or.inl rfl) ⟨rfl, rfl⟩
    · exact absurd c6 (by omega)
theorem c_J3_checkIndex1 {γ : GG} {h : AH} {i n : Int} {t : Nat} (hi : 0 ≤ i ∧ i < n) (hn : n ≤ 2147483647) : Call γ mJ3_checkIndex_8e157 0 0 0 [vi i, vi n, vr (some t)] h (rV (vi i) h) := by
  refine Call.of (ls := [(0, vi i), (1, vi n), (2, vr (some t))]) sJ3_checkIndex_8e157.1 (Nat.le_of_ble_eq_true rfl) rfl ?_
  refine aw_iload_n dJ3_checkIndex_8e157_0 rfl ?_
  refine aw_if_lt (tgt := 9) dJ3_checkIndex_8e157_1 rfl (by omega) (fun c1 => ?_) (fun c1 => ?_)
  · exact absurd c1 (by omega)
  · refine aw_iload_n dJ3_checkIndex_8e157_4 rfl ?_
    refine aw_iload_n dJ3_checkIndex_8e157_5 rfl ?_
    refine aw_ic_lt (tgt := 16) dJ3_checkIndex_8e157_6 rfl (by omega) (by omega) (fun c6 => ?_) (fun c6 => ?_)
    · refine aw_iload_n dJ3_checkIndex_8e157_16 rfl ?_
      exact aw_ireturn dJ3_checkIndex_8e157_17 rfl (Or.inl rfl) ⟨rfl, rfl⟩
    · exact absurd c6 (by omega)
theorem c_J3_checkIndex {γ : GG} {h : AH} {i n : Int} {o : Option Nat} (hi : 0 ≤ i ∧ i < n) (hn : n ≤ 2147483647) : Call γ mJ3_checkIndex_8e157 0 0 0 [vi i, vi n, vr o] h (rV (vi i) h) := by
  cases o with
  | none => exact c_J3_checkIndex0 hi hn
  | some t => exact c_J3_checkIndex1 hi hn
theorem c_J0_checkIndex {γ : GG} {h : AH} {i n : Int} (hi : 0 ≤ i ∧ i < n) (hn : n ≤ 2147483647) : Call γ mJ0_checkIndex_df160 1 0 0 [vi i, vi n] h (rN h) := by
  refine Call.of (ls := [(0, vi i), (1, vi n)]) sJ0_checkIndex_df160.1 (Nat.le_of_ble_eq_true rfl) rfl ?_
  refine aw_iload_n dJ0_checkIndex_df160_0 rfl ?_
  refine aw_iload_n dJ0_checkIndex_df160_1 rfl ?_
  refine aw_sioobe dJ0_checkIndex_df160_2 fJ0_1053 (fun o => ?_)
  refine aw_invS_r dJ0_checkIndex_df160_5 sJ3_checkIndex_8e157 kJ0_1059 rfl (c_J3_checkIndex (o := o) hi hn) rfl rfl (by decide) (by decide) (by decide) (Nat.le_of_ble_eq_true rfl) ?_
  refine aw_pop dJ0_checkIndex_df160_8 rfl ?_
  exact aw_return dJ0_checkIndex_df160_9 rfl (Or.inl rfl) ⟨rfl, rfl⟩
theorem c_J1_charAt {γ : GG} {h : AH} {i : Int} (hi : 0 ≤ i ∧ i < 9) : Call γ mJ1_charAt_3b067 2 0 0 [vr (some (γ.2.2 0)), vi i] h (rV (vi (ax_s.getD i.toNat 0)) h) := by
  refine Call.of (ls := [(0, vr (some (γ.2.2 0))), (1, vi i)]) sJ1_charAt_3b067.1 (Nat.le_of_ble_eq_true rfl) rfl ?_
  refine aw_iload_n dJ1_charAt_3b067_0 rfl ?_
  refine aw_aload_n dJ1_charAt_3b067_1 rfl ?_
  refine aw_tlen dJ1_charAt_3b067_2 ?_
  refine aw_invS_n dJ1_charAt_3b067_3 sJ0_checkIndex_df160 kJ1_9 rfl (c_J0_checkIndex (n := 9) hi (by decide)) rfl rfl (by decide) (by decide) (by decide) (Nat.le_of_ble_eq_true rfl) ?_
  refine aw_aload_n dJ1_charAt_3b067_6 rfl ?_
  refine aw_iload_n dJ1_charAt_3b067_7 rfl ?_
  refine aw_tbyte dJ1_charAt_3b067_8 hi ?_
  refine aw_sipush dJ1_charAt_3b067_9 rfl ?_
  have hq : i.toNat < 9 := by omega
  generalize i.toNat = q at hq
  match q, hq with
  | 0, _ => exact aw_iand (v := 46) dJ1_charAt_3b067_12 rfl (aw_i2c (v := 46) dJ1_charAt_3b067_13 rfl (aw_creturn dJ1_charAt_3b067_14 rfl (by decide) (Or.inl rfl) ⟨rfl, rfl⟩))
  | 1, _ => exact aw_iand (v := 37) dJ1_charAt_3b067_12 rfl (aw_i2c (v := 37) dJ1_charAt_3b067_13 rfl (aw_creturn dJ1_charAt_3b067_14 rfl (by decide) (Or.inl rfl) ⟨rfl, rfl⟩))
  | 2, _ => exact aw_iand (v := 35) dJ1_charAt_3b067_12 rfl (aw_i2c (v := 35) dJ1_charAt_3b067_13 rfl (aw_creturn dJ1_charAt_3b067_14 rfl (by decide) (Or.inl rfl) ⟨rfl, rfl⟩))
  | 3, _ => exact aw_iand (v := 62) dJ1_charAt_3b067_12 rfl (aw_i2c (v := 62) dJ1_charAt_3b067_13 rfl (aw_creturn dJ1_charAt_3b067_14 rfl (by decide) (Or.inl rfl) ⟨rfl, rfl⟩))
  | 4, _ => exact aw_iand (v := 125) dJ1_charAt_3b067_12 rfl (aw_i2c (v := 125) dJ1_charAt_3b067_13 rfl (aw_creturn dJ1_charAt_3b067_14 rfl (by decide) (Or.inl rfl) ⟨rfl, rfl⟩))
  | 5, _ => exact aw_iand (v := 94) dJ1_charAt_3b067_12 rfl (aw_i2c (v := 94) dJ1_charAt_3b067_13 rfl (aw_creturn dJ1_charAt_3b067_14 rfl (by decide) (Or.inl rfl) ⟨rfl, rfl⟩))
  | 6, _ => exact aw_iand (v := 126) dJ1_charAt_3b067_12 rfl (aw_i2c (v := 126) dJ1_charAt_3b067_13 rfl (aw_creturn dJ1_charAt_3b067_14 rfl (by decide) (Or.inl rfl) ⟨rfl, rfl⟩))
  | 7, _ => exact aw_iand (v := 60) dJ1_charAt_3b067_12 rfl (aw_i2c (v := 60) dJ1_charAt_3b067_13 rfl (aw_creturn dJ1_charAt_3b067_14 rfl (by decide) (Or.inl rfl) ⟨rfl, rfl⟩))
  | 8, _ => exact aw_iand (v := 123) dJ1_charAt_3b067_12 rfl (aw_i2c (v := 123) dJ1_charAt_3b067_13 rfl (aw_creturn dJ1_charAt_3b067_14 rfl (by decide) (Or.inl rfl) ⟨rfl, rfl⟩))
  | q + 9, hq => exact absurd hq (by omega)
theorem c_J0_isLatin1 {γ : GG} {h : AH} : Call γ mJ0_isLatin1_aae02 0 0 0 [vr (some (γ.2.1 0))] h (rV (vi 1) h) := by
  refine Call.of (ls := [(0, vr (some (γ.2.1 0)))]) vJ0_isLatin1_aae02.1 (Nat.le_of_ble_eq_true rfl) rfl ?_
  refine aw_compact dJ0_isLatin1_aae02_0 fJ0_38 ?_
  refine aw_if_eq (tgt := 17) dJ0_isLatin1_aae02_3 rfl (by omega) (fun c3 => ?_) (fun c3 => ?_)
  · exact absurd c3 (by omega)
  · refine aw_aload_n dJ0_isLatin1_aae02_6 rfl ?_
    refine aw_tcoder dJ0_isLatin1_aae02_7 fJ0_15 ?_
    refine aw_if_ne (tgt := 17) dJ0_isLatin1_aae02_10 rfl (by omega) (fun c10 => ?_) (fun c10 => ?_)
    · exact absurd c10 (by omega)
    · refine aw_iconst dJ0_isLatin1_aae02_13 ?_
      refine aw_goto (tgt := 18) dJ0_isLatin1_aae02_14 rfl ?_
      exact aw_zreturn dJ0_isLatin1_aae02_18 rfl (by omega) (Or.inl rfl) ⟨rfl, rfl⟩
theorem c_J0_coder {γ : GG} {h : AH} : Call γ mJ0_coder_7d493 0 0 0 [vr (some (γ.2.1 0))] h (rV (vi 0) h) := by
  refine Call.of (ls := [(0, vr (some (γ.2.1 0)))]) vJ0_coder_7d493.1 (Nat.le_of_ble_eq_true rfl) rfl ?_
  refine aw_compact dJ0_coder_7d493_0 fJ0_38 ?_
  refine aw_if_eq (tgt := 13) dJ0_coder_7d493_3 rfl (by omega) (fun c3 => ?_) (fun c3 => ?_)
  · exact absurd c3 (by omega)
  · refine aw_aload_n dJ0_coder_7d493_6 rfl ?_
    refine aw_tcoder dJ0_coder_7d493_7 fJ0_15 ?_
    refine aw_goto (tgt := 14) dJ0_coder_7d493_10 rfl ?_
    exact aw_breturn dJ0_coder_7d493_14 rfl (by omega) (Or.inl rfl) ⟨rfl, rfl⟩
theorem c_J0_charAt {γ : GG} {h : AH} {i : Int} (hi : 0 ≤ i ∧ i < 9) : Call γ mJ0_charAt_5068e 3 0 0 [vr (some (γ.2.1 0)), vi i] h (rV (vi (ax_s.getD i.toNat 0)) h) := by
  refine Call.of (ls := [(0, vr (some (γ.2.1 0))), (1, vi i)]) vJ0_charAt_5068e.1 (Nat.le_of_ble_eq_true rfl) rfl ?_
  refine aw_aload_n dJ0_charAt_5068e_0 rfl ?_
  refine aw_invT dJ0_charAt_5068e_1 vJ0_isLatin1_aae02 kJ0_492 rfl rfl (c_J0_isLatin1) rfl rfl (by decide) (by decide) (by decide) (Nat.le_of_ble_eq_true rfl) ?_
  refine aw_if_eq (tgt := 16) dJ0_charAt_5068e_4 rfl (by omega) (fun c4 => ?_) (fun c4 => ?_)
  · exact absurd c4 (by omega)
  · refine aw_aload_n dJ0_charAt_5068e_7 rfl ?_
    refine aw_tvalue dJ0_charAt_5068e_8 fJ0_9 ?_
    refine aw_iload_n dJ0_charAt_5068e_11 rfl ?_
    refine aw_invS_r dJ0_charAt_5068e_12 sJ1_charAt_3b067 kJ0_495 rfl (c_J1_charAt hi) rfl rfl (by decide) (by decide) (by decide) (Nat.le_of_ble_eq_true rfl) ?_
    have hq : i.toNat < 9 := by omega
    generalize i.toNat = q at hq
    match q, hq with
    | 0, _ => exact aw_creturn dJ0_charAt_5068e_15 rfl (by decide) (Or.inl rfl) ⟨rfl, rfl⟩
    | 1, _ => exact aw_creturn dJ0_charAt_5068e_15 rfl (by decide) (Or.inl rfl) ⟨rfl, rfl⟩
    | 2, _ => exact aw_creturn dJ0_charAt_5068e_15 rfl (by decide) (Or.inl rfl) ⟨rfl, rfl⟩
    | 3, _ => exact aw_creturn dJ0_charAt_5068e_15 rfl (by decide) (Or.inl rfl) ⟨rfl, rfl⟩
    | 4, _ => exact aw_creturn dJ0_charAt_5068e_15 rfl (by decide) (Or.inl rfl) ⟨rfl, rfl⟩
    | 5, _ => exact aw_creturn dJ0_charAt_5068e_15 rfl (by decide) (Or.inl rfl) ⟨rfl, rfl⟩
    | 6, _ => exact aw_creturn dJ0_charAt_5068e_15 rfl (by decide) (Or.inl rfl) ⟨rfl, rfl⟩
    | 7, _ => exact aw_creturn dJ0_charAt_5068e_15 rfl (by decide) (Or.inl rfl) ⟨rfl, rfl⟩
    | 8, _ => exact aw_creturn dJ0_charAt_5068e_15 rfl (by decide) (Or.inl rfl) ⟨rfl, rfl⟩
    | q + 9, hq => exact absurd hq (by omega)
/-- an int array filled -/
def fillI (h : AH) (b : Nat) (n : Int) (z : Int) : AH := (h.1, (fun a j => if a = b ∧ 0 ≤ j ∧ j < n then z else h.2.1 a j), h.2.2)
theorem kd_fillI (h : AH) (b : Nat) (n z : Int) (a : Nat) : kd (fillI h b n z) a = kd h a := rfl
theorem gl_fillI (h : AH) (b : Nat) (n z : Int) (a : Nat) (j : Int) : gl (fillI h b n z) a j = gl h a j := rfl
theorem gr_fillI (h : AH) (b : Nat) (n z : Int) (a : Nat) (j : Int) : gr (fillI h b n z) a j = gr h a j := rfl
theorem gi_fillI (h : AH) (b : Nat) (n z : Int) (a : Nat) (j : Int) : gi (fillI h b n z) a j = if a = b ∧ 0 ≤ j ∧ j < n then z else gi h a j := rfl
theorem fillI_0 (h : AH) (b : Nat) (z : Int) : fillI h b 0 z = h := by
  unfold fillI
  have : (fun (a : Nat) (j : Int) => if a = b ∧ 0 ≤ j ∧ j < 0 then z else h.2.1 a j) = h.2.1 := by
    funext a j
    rw [if_neg (by omega)]
  rw [this]
theorem fillI_s (h : AH) (b : Nat) (n z : Int) (hn : 0 ≤ n) : si (fillI h b n z) b n z = fillI h b (n + 1) z := by
  unfold fillI si
  have : (fun (a : Nat) (k : Int) => if a = b ∧ k = n then z else if a = b ∧ 0 ≤ k ∧ k < n then z else h.2.1 a k) = fun a j => if a = b ∧ 0 ≤ j ∧ j < n + 1 then z else h.2.1 a j := by
    funext a k
    by_cases h1 : a = b ∧ k = n
    · rw [if_pos h1, if_pos (by omega)]
    · rw [if_neg h1]
      by_cases h2 : a = b ∧ 0 ≤ k ∧ k < n
      · rw [if_pos h2, if_pos (by omega)]
      · rw [if_neg h2, if_neg (by omega)]
  rw [this]
theorem l_J7_fill {γ : GG} {h : AH} {b n : Nat} {z : Int} (hb : kd h b = some (.inr (1, n))) (hn : n ≤ 65536) : ∀ (m : Nat) (i : Int), 0 ≤ i → i + m = n → AW γ mJ7_fill_53178 0 0 0 5 [(0, vr (some b)), (1, vi z), (2, vi i), (3, vi n)] [] (fillI h b i z) (rN (fillI h b n z)) := by
  intro m
  induction m with
  | zero =>
    intro i h0 hi
    refine aw_iload_n dJ7_fill_53178_5 rfl ?_
    refine aw_iload_n dJ7_fill_53178_6 rfl ?_
    refine aw_ic_ge (tgt := 20) dJ7_fill_53178_7 rfl (by omega) (by omega) (fun c7 => ?_) (fun c7 => ?_)
    · have e : i = n := by omega
      subst e
      exact aw_return dJ7_fill_53178_20 rfl (Or.inl rfl) ⟨rfl, rfl⟩
    · exact absurd c7 (by omega)
  | succ m ih =>
    intro i h0 hi
    refine aw_iload_n dJ7_fill_53178_5 rfl ?_
    refine aw_iload_n dJ7_fill_53178_6 rfl ?_
    refine aw_ic_ge (tgt := 20) dJ7_fill_53178_7 rfl (by omega) (by omega) (fun c7 => ?_) (fun c7 => ?_)
    · exact absurd c7 (by omega)
    · refine aw_aload_n dJ7_fill_53178_10 rfl ?_
      refine aw_iload_n dJ7_fill_53178_11 rfl ?_
      refine aw_iload_n dJ7_fill_53178_12 rfl ?_
      refine aw_iast dJ7_fill_53178_13 (by assumption) (by omega) (by first | decide | omega) ?_
      refine aw_iinc (k9 := 2) (ls1 := [(2, _), (0, _), (1, _), (3, _)]) dJ7_fill_53178_14 rfl (by decide) rfl ?_
      refine aw_goto (tgt := 5) dJ7_fill_53178_17 rfl ?_
      refine aw_sub [1, 2, 0, 3] rfl ?_
      refine aw_eqh (fillI_s h b i z h0) ?_
      exact ih (i + 1) (by omega) (by omega)
theorem c_J7_fill {γ : GG} {h : AH} {b n : Nat} {z : Int} (hb : kd h b = some (.inr (1, n))) (hn : n ≤ 65536) : Call γ mJ7_fill_53178 0 0 0 [vr (some b), vi z] h (rN (fillI h b n z)) := by
  refine Call.of (ls := [(0, vr (some b)), (1, vi z)]) sJ7_fill_53178.1 (Nat.le_of_ble_eq_true rfl) rfl ?_
  refine aw_iconst dJ7_fill_53178_0 ?_
  refine aw_istore_n (ls1 := [(2, _), (0, _), (1, _)]) dJ7_fill_53178_1 (by decide) rfl ?_
  refine aw_aload_n dJ7_fill_53178_2 rfl ?_
  refine aw_alen dJ7_fill_53178_3 (by assumption) (by decide) ?_
  refine aw_istore_n (ls1 := [(3, _), (2, _), (0, _), (1, _)]) dJ7_fill_53178_4 (by decide) rfl ?_
  refine aw_sub [2, 3, 1, 0] rfl ?_
  refine aw_eqh (fillI_0 h b z).symm ?_
  exact l_J7_fill hb hn n 0 (by omega) (by omega)
end JDK
