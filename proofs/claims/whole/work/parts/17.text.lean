/-! ===== Text: a row of bytes ===== -/
def isTx (h : AH) (o n : Nat) : Prop := kd h o = some (.inl 8) ∧ gr h o 0 = some (o + 1) ∧ kd h (o + 1) = some (.inr (0, n))
def tput (o : Nat) (h : AH) (c : Int) : AH := si (si h (o + 1) (gi h o 1) c) o 1 (gi h o 1 + 1)
def tputs (o : Nat) (h : AH) (l : List Int) : AH := l.foldl (tput o) h
theorem tputs_nil (o : Nat) (h : AH) : tputs o h [] = h := rfl
theorem tputs_cons (o : Nat) (h : AH) (c : Int) (l : List Int) : tputs o h (c :: l) = tputs o (tput o h c) l := rfl
theorem tputs_app (o : Nat) (h : AH) (l m : List Int) : tputs o h (l ++ m) = tputs o (tputs o h l) m := List.foldl_append
theorem tputs_one (o : Nat) (h : AH) (c : Int) : tputs o h [c] = tput o h c := rfl
theorem kd_tput (o : Nat) (h : AH) (c : Int) (a : Nat) : kd (tput o h c) a = kd h a := rfl
theorem gr_tput (o : Nat) (h : AH) (c : Int) (a : Nat) (j : Int) : gr (tput o h c) a j = gr h a j := rfl
theorem gl_tput (o : Nat) (h : AH) (c : Int) (a : Nat) (j : Int) : gl (tput o h c) a j = gl h a j := rfl
theorem nx_tput (o : Nat) (h : AH) (c : Int) : nx (tput o h c) = nx h := rfl
theorem gi_tput_len (o : Nat) (h : AH) (c : Int) : gi (tput o h c) o 1 = gi h o 1 + 1 := gi_at rfl rfl
theorem gi_tput_ne {o : Nat} {h : AH} {c : Int} {a : Nat} (ha : a ≠ o ∧ a ≠ o + 1) (j : Int) : gi (tput o h c) a j = gi h a j := by
  unfold tput
  rw [gi_ne (Or.inl ha.1), gi_ne (Or.inl ha.2)]
theorem eqA_tput {o : Nat} {h : AH} {c : Int} {a : Nat} (ha : a ≠ o ∧ a ≠ o + 1) : eqA h (tput o h c) a := ⟨rfl, fun j => ⟨gi_tput_ne ha j, rfl, rfl⟩⟩
theorem eqA_tputs {o : Nat} {a : Nat} (ha : a ≠ o ∧ a ≠ o + 1) : ∀ (l : List Int) (h : AH), eqA h (tputs o h l) a := by
  intro l
  induction l with
  | nil => intro h; exact eqA.rf
  | cons c l ih => intro h; rw [tputs_cons]; exact (eqA_tput ha).tr (ih _)
theorem eqO_tputs (o : Nat) : ∀ (l : List Int) (h : AH), eqO h (tputs o h l) o (o + 2) := by
  intro l
  induction l with
  | nil => intro h; exact eqO.rf
  | cons c l ih => intro h; rw [tputs_cons]; exact eqO.tr (h1 := tput o h c) ⟨rfl, fun a ha => eqA_tput (by omega)⟩ (ih _)
theorem gi_tputs_len (o : Nat) : ∀ (l : List Int) (h : AH), gi (tputs o h l) o 1 = gi h o 1 + l.length := by
  intro l
  induction l with
  | nil => intro h; simp [tputs_nil]
  | cons c l ih => intro h; rw [tputs_cons, ih, gi_tput_len]; simp only [List.length_cons]; omega
theorem isTx_tputs {o n : Nat} : ∀ (l : List Int) (h : AH), isTx h o n → isTx (tputs o h l) o n := by
  intro l
  induction l with
  | nil => intro h hT; exact hT
  | cons c l ih => intro h hT; rw [tputs_cons]; exact ih _ hT
/-- what the bytes are behind -/
theorem gi_tputs (o : Nat) : ∀ (l : List Int) (h : AH) (j : Int), gi (tputs o h l) (o + 1) j = if gi h o 1 ≤ j ∧ j < gi h o 1 + l.length then l.getD (j - gi h o 1).toNat 0 else gi h (o + 1) j := by
  intro l
  induction l with
  | nil =>
    intro h j
    rw [tputs_nil, if_neg]
    simp
  | cons c l ih =>
    intro h j
    rw [tputs_cons, ih, gi_tput_len]
    simp only [List.length_cons]
    by_cases h1 : j = gi h o 1
    · rw [if_neg (by omega), if_pos (by omega)]
      have e : (j - gi h o 1).toNat = 0 := by omega
      rw [e]
      unfold tput
      rw [gi_ne (Or.inl (by omega)), gi_at rfl h1]
      rfl
    · by_cases h2 : gi h o 1 ≤ j ∧ j < gi h o 1 + (l.length + 1)
      · rw [if_pos (by omega), if_pos (by omega)]
        have e : (j - gi h o 1).toNat = (j - (gi h o 1 + 1)).toNat + 1 := by omega
        rw [e]
        rfl
      · rw [if_neg (by omega), if_neg (by omega)]
        unfold tput
        rw [gi_ne (Or.inl (by omega)), gi_ne (Or.inr h1)]
theorem i2b_ok {z : Int} (hz : -128 ≤ z ∧ z ≤ 127) : (Int32.ofInt z).toInt8.toInt32 = Int32.ofInt z := nar_b hz
theorem ax_bd (k : Nat) : 0 ≤ ax_s.getD k 0 ∧ ax_s.getD k 0 ≤ 127 := by
  match k with
  | 0 => decide
  | 1 => decide
  | 2 => decide
  | 3 => decide
  | 4 => decide
  | 5 => decide
  | 6 => decide
  | 7 => decide
  | 8 => decide
  | k + 9 => exact ⟨Int.le_refl 0, by show (0 : Int) ≤ 127; decide⟩
theorem c_put {γ : GG} {h : AH} {o n : Nat} {c : Int} (hT : isTx h o n) (hn : n ≤ 1024) (hl : 0 ≤ gi h o 1 ∧ gi h o 1 < n) (hc : 0 ≤ c ∧ c ≤ 127) : Call γ mX9_put 0 0 0 [vr (some o), vi c] h (rN (tput o h c)) := by
  obtain ⟨hk, hr, hk1⟩ := hT
  refine Call.of (ls := [(0, vr (some o)), (1, vi c)]) vX9_put.1 (Nat.le_of_ble_eq_true rfl) rfl ?_
  refine aw_aload_n dX9_put_0 rfl ?_
  refine aw_geti' (j := 1) dX9_put_1 fX9_9 rfl (by assumption) rfl rfl ?_
  refine aw_if_lt (tgt := 40) dX9_put_4 rfl (by omega) (fun c4 => ?_) (fun c4 => ?_)
  · exact absurd c4 (by omega)
  · refine aw_aload_n dX9_put_7 rfl ?_
    refine aw_geti' (j := 1) dX9_put_8 fX9_9 rfl (by assumption) rfl rfl ?_
    refine aw_aload_n dX9_put_11 rfl ?_
    refine aw_getr' (j := 0) dX9_put_12 fX9_15 rfl (by assumption) rfl (by assumption) ?_
    refine aw_alen dX9_put_15 (by assumption) (by decide) ?_
    refine aw_ic_ge (tgt := 40) dX9_put_16 rfl (by omega) (by omega) (fun c16 => ?_) (fun c16 => ?_)
    · exact absurd c16 (by omega)
    · refine aw_aload_n dX9_put_19 rfl ?_
      refine aw_getr' (j := 0) dX9_put_20 fX9_15 rfl (by assumption) rfl (by assumption) ?_
      refine aw_aload_n dX9_put_23 rfl ?_
      refine aw_geti' (j := 1) dX9_put_24 fX9_9 rfl (by assumption) rfl rfl ?_
      refine aw_iload_n dX9_put_27 rfl ?_
      refine aw_i2b (v := c) dX9_put_28 (i2b_ok (by omega)) ?_
      refine aw_bast dX9_put_29 (by assumption) (by omega) (by first | decide | omega) (by omega) ?_
      refine aw_aload_n dX9_put_30 rfl ?_
      refine aw_dup dX9_put_31 rfl ?_
      refine aw_geti' (j := 1) dX9_put_32 fX9_9 rfl (by assumption) rfl rfl ?_
      refine aw_iconst dX9_put_35 ?_
      refine aw_iadd dX9_put_36 ?_
      refine aw_puti' (j := 1) rfl dX9_put_37 fX9_9 (by assumption) rfl ?_
      exact aw_return dX9_put_40 rfl (Or.inl rfl) ⟨rfl, by unfold tput; rw [gi_ne (Or.inl (by omega))]⟩
theorem c_at {γ : GG} {h : AH} {o n : Nat} {j : Int} (hT : isTx h o n) (hn : n ≤ 1024) (hj : -2147483648 ≤ j ∧ j ≤ 2147483647) : Call γ mX9_at 0 0 0 [vr (some o), vi j] h (rV (vi (if 0 ≤ j ∧ j < n then gi h (o + 1) j else -1)) h) := by
  obtain ⟨hk, hr, hk1⟩ := hT
  refine Call.of (ls := [(0, vr (some o)), (1, vi j)]) vX9_at.1 (Nat.le_of_ble_eq_true rfl) rfl ?_
  refine aw_iload_n dX9_at_0 rfl ?_
  refine aw_if_lt (tgt := 22) dX9_at_1 rfl (by omega) (fun c1 => ?_) (fun c1 => ?_)
  · refine aw_iconst dX9_at_22 ?_
    exact aw_ireturn dX9_at_23 rfl (Or.inl rfl) ⟨by congr 3; first | (rw [if_pos (by omega)]) | (rw [if_neg (by omega)]), rfl⟩
  · refine aw_iload_n dX9_at_4 rfl ?_
    refine aw_aload_n dX9_at_5 rfl ?_
    refine aw_getr' (j := 0) dX9_at_6 fX9_15 rfl (by assumption) rfl (by assumption) ?_
    refine aw_alen dX9_at_9 (by assumption) (by decide) ?_
    refine aw_ic_ge (tgt := 22) dX9_at_10 rfl (by omega) (by omega) (fun c10 => ?_) (fun c10 => ?_)
    · refine aw_iconst dX9_at_22 ?_
      exact aw_ireturn dX9_at_23 rfl (Or.inl rfl) ⟨by congr 3; first | (rw [if_pos (by omega)]) | (rw [if_neg (by omega)]), rfl⟩
    · refine aw_aload_n dX9_at_13 rfl ?_
      refine aw_getr' (j := 0) dX9_at_14 fX9_15 rfl (by assumption) rfl (by assumption) ?_
      refine aw_iload_n dX9_at_17 rfl ?_
      refine aw_bald' dX9_at_18 (by assumption) (by omega) (by first | decide | omega) rfl ?_
      refine aw_goto (tgt := 23) dX9_at_19 rfl ?_
      exact aw_ireturn dX9_at_23 rfl (Or.inl rfl) ⟨by congr 3; first | (rw [if_pos (by omega)]) | (rw [if_neg (by omega)]), rfl⟩
/-- what is written from a place on -/
def jr (z : Int) : Bool → List (List Int) → List Int
  | _, [] => []
  | f, x :: r => (if f = true then x else z :: x) ++ jr z false r
theorem jr_f (z : Int) : ∀ l, jr z false l = l.flatMap (fun y => z :: y) := by
  intro l
  induction l with
  | nil => rfl
  | cons x r ih => simp [jr, ih]
theorem jr_t (z : Int) (l : List (List Int)) : jr z true l = jn z l := by
  cases l with
  | nil => rfl
  | cons x r => simp [jr, jn, jr_f]
theorem wTest_len (x : Int × Int) : 1 ≤ (wTest x).length ∧ (wTest x).length ≤ 2 := by
  unfold wTest
  split <;> simp

theorem c_putTest {γ : GG} {h : AH} {o n : Nat} {x : Int × Int} (hT : isTx h o n) (hn : n ≤ 1024) (hx : okT x) (hl : 0 ≤ gi h o 1 ∧ gi h o 1 + (wTest x).length ≤ n) : Call γ mX9_putTest 4 0 0 [vr (some o), vi x.1, vi x.2] h (rN (tputs o h (wTest x))) := by
  obtain ⟨a, t⟩ := x
  obtain ⟨h1, h2, h3, h4⟩ := hx
  dsimp only at h1 h2 h3 h4 ⊢
  have hk := hT.1
  by_cases ha : 1 ≤ a
  · have hb := ax_bd (a - 1).toNat
    have el : (wTest (a, t)).length = 2 := by simp [wTest, ha]
    rw [el] at hl
    have hl1 := gi_tput_len o h (ax_s.getD (a - 1).toNat 0)
    have hT1 : isTx (tput o h (ax_s.getD (a - 1).toNat 0)) o n := hT
    have fin : tput o (tput o h (ax_s.getD (a - 1).toNat 0)) (if t = 8 then 42 else 97 + t) = tputs o h (wTest (a, t)) := by simp [wTest, ha, tputs]
    refine Call.of (ls := [(0, vr (some o)), (1, vi a), (2, vi t)]) vX9_putTest.1 (Nat.le_of_ble_eq_true rfl) rfl ?_
    refine aw_iload_n dX9_putTest_0 rfl ?_
    refine aw_iconst dX9_putTest_1 ?_
    refine aw_ic_lt (tgt := 23) dX9_putTest_2 rfl (by omega) (by omega) (fun c2 => ?_) (fun c2 => ?_)
    · exact absurd c2 (by omega)
    · refine aw_iload_n dX9_putTest_5 rfl ?_
      refine aw_bipush dX9_putTest_6 rfl ?_
      refine aw_ic_gt (tgt := 23) dX9_putTest_8 rfl (by omega) (by omega) (fun c8 => ?_) (fun c8 => ?_)
      · exact absurd c8 (by omega)
      · refine aw_aload_n dX9_putTest_11 rfl ?_
        refine aw_ldct dX9_putTest_12 (by first | exact Or.inl ⟨rfl, rfl⟩ | exact Or.inr ⟨rfl, rfl⟩) ?_
        refine aw_iload_n dX9_putTest_14 rfl ?_
        refine aw_iconst dX9_putTest_15 ?_
        refine aw_isub dX9_putTest_16 ?_
        refine aw_invT dX9_putTest_17 vJ0_charAt_5068e kX9_21 rfl rfl (c_J0_charAt (i := a - 1) (by omega)) rfl rfl (by decide) (by decide) (by decide) (Nat.le_of_ble_eq_true rfl) ?_
        refine aw_invV_n dX9_putTest_20 vX9_put kX9_27 rfl (c_put hT hn (by omega) hb) ⟨_, (by assumption), _, _, rfl⟩ rfl rfl (by decide) (by decide) (by decide) (Nat.le_of_ble_eq_true rfl) ?_
        refine aw_aload_n dX9_putTest_23 rfl ?_
        refine aw_iload_n dX9_putTest_24 rfl ?_
        refine aw_bipush dX9_putTest_25 rfl ?_
        refine aw_ic_ne (tgt := 35) dX9_putTest_27 rfl (by omega) (by omega) (fun c27 => ?_) (fun c27 => ?_)
        · rw [if_neg (by omega)] at fin
          refine aw_bipush dX9_putTest_35 rfl ?_
          refine aw_iload_n dX9_putTest_37 rfl ?_
          refine aw_iadd dX9_putTest_38 ?_
          refine aw_invV_n dX9_putTest_39 vX9_put kX9_27 rfl (c_put hT1 hn (by omega) (by omega)) ⟨_, (by assumption), _, _, rfl⟩ rfl rfl (by decide) (by decide) (by decide) (Nat.le_of_ble_eq_true rfl) ?_
          exact aw_return dX9_putTest_42 rfl (Or.inl rfl) ⟨rfl, by first | rw [← fin]⟩
        · rw [if_pos (by omega)] at fin
          refine aw_bipush dX9_putTest_30 rfl ?_
          refine aw_goto (tgt := 39) dX9_putTest_32 rfl ?_
          refine aw_invV_n dX9_putTest_39 vX9_put kX9_27 rfl (c_put hT1 hn (by omega) (by omega)) ⟨_, (by assumption), _, _, rfl⟩ rfl rfl (by decide) (by decide) (by decide) (Nat.le_of_ble_eq_true rfl) ?_
          exact aw_return dX9_putTest_42 rfl (Or.inl rfl) ⟨rfl, by first | rw [← fin]⟩
  · have el : (wTest (a, t)).length = 1 := by simp [wTest, ha]
    rw [el] at hl
    have fin : tput o h (if t = 8 then 42 else 97 + t) = tputs o h (wTest (a, t)) := by simp [wTest, ha, tputs]
    refine Call.of (ls := [(0, vr (some o)), (1, vi a), (2, vi t)]) vX9_putTest.1 (Nat.le_of_ble_eq_true rfl) rfl ?_
    refine aw_iload_n dX9_putTest_0 rfl ?_
    refine aw_iconst dX9_putTest_1 ?_
    refine aw_ic_lt (tgt := 23) dX9_putTest_2 rfl (by omega) (by omega) (fun c2 => ?_) (fun c2 => ?_)
    · refine aw_aload_n dX9_putTest_23 rfl ?_
      refine aw_iload_n dX9_putTest_24 rfl ?_
      refine aw_bipush dX9_putTest_25 rfl ?_
      refine aw_ic_ne (tgt := 35) dX9_putTest_27 rfl (by omega) (by omega) (fun c27 => ?_) (fun c27 => ?_)
      · rw [if_neg (by omega)] at fin
        refine aw_bipush dX9_putTest_35 rfl ?_
        refine aw_iload_n dX9_putTest_37 rfl ?_
        refine aw_iadd dX9_putTest_38 ?_
        refine aw_invV_n dX9_putTest_39 vX9_put kX9_27 rfl (c_put hT hn (by omega) (by omega)) ⟨_, (by assumption), _, _, rfl⟩ rfl rfl (by decide) (by decide) (by decide) (Nat.le_of_ble_eq_true rfl) ?_
        exact aw_return dX9_putTest_42 rfl (Or.inl rfl) ⟨rfl, by first | rw [← fin]⟩
      · rw [if_pos (by omega)] at fin
        refine aw_bipush dX9_putTest_30 rfl ?_
        refine aw_goto (tgt := 39) dX9_putTest_32 rfl ?_
        refine aw_invV_n dX9_putTest_39 vX9_put kX9_27 rfl (c_put hT hn (by omega) (by omega)) ⟨_, (by assumption), _, _, rfl⟩ rfl rfl (by decide) (by decide) (by decide) (Nat.le_of_ble_eq_true rfl) ?_
        exact aw_return dX9_putTest_42 rfl (Or.inl rfl) ⟨rfl, by first | rw [← fin]⟩
    · exact absurd c2 (by omega)
/-! ===== Condition: a packed int ===== -/
theorem and_bit3 (x : Nat) : x &&& 8 = x / 8 % 2 * 8 := by
  have h1 : x &&& 8 = (x % 16) &&& 8 := by
    have h2 := Nat.and_two_pow_sub_one_eq_mod x 4
    have h3 : x &&& 15 = x % 16 := h2
    rw [← h3, Nat.and_assoc]
    rfl
  have h4 : x / 8 % 2 = x % 16 / 8 := by omega
  rw [h1, h4]
  have h5 : x % 16 < 16 := Nat.mod_lt _ (by decide)
  generalize x % 16 = r at h5
  revert r
  decide
theorem c_kindOf {γ : GG} {h : AH} {c : Int} (hc : 0 ≤ c ∧ c < 2147483648) : Call γ mX0_kindOf 0 0 0 [vi c] h (rV (vi (c % 8)) h) := by
  obtain ⟨n, rfl⟩ := Int.eq_ofNat_of_zero_le hc.1
  refine Call.of (ls := [(0, vi (n : Int))]) sX0_kindOf.1 (Nat.le_of_ble_eq_true rfl) rfl ?_
  refine aw_iload_n dX0_kindOf_0 rfl ?_
  refine aw_bipush dX0_kindOf_1 rfl ?_
  refine aw_iand (v := ((n : Int) % 8)) dX0_kindOf_3 (iv_mask (x := n) (k := 3) rfl rfl) ?_
  exact aw_ireturn dX0_kindOf_4 rfl (Or.inl rfl) ⟨rfl, rfl⟩
theorem c_isOpposite {γ : GG} {h : AH} {c : Int} (hc : 0 ≤ c ∧ c < 2147483648) : Call γ mX0_isOpposite 0 0 0 [vi c] h (rV (vi (c / 8 % 2)) h) := by
  obtain ⟨n, rfl⟩ := Int.eq_ofNat_of_zero_le hc.1
  refine Call.of (ls := [(0, vi (n : Int))]) sX0_isOpposite.1 (Nat.le_of_ble_eq_true rfl) rfl ?_
  refine aw_iload_n dX0_isOpposite_0 rfl ?_
  refine aw_bipush dX0_isOpposite_1 rfl ?_
  refine aw_iand (v := ((n / 8 % 2 * 8 : Nat) : Int)) dX0_isOpposite_3 (iv_and (x := n) (y := 8) rfl rfl rfl (and_bit3 n)) ?_
  refine aw_if_eq (tgt := 11) dX0_isOpposite_4 rfl (by omega) (fun c4 => ?_) (fun c4 => ?_)
  · refine aw_iconst dX0_isOpposite_11 ?_
    exact aw_zreturn dX0_isOpposite_12 rfl (by omega) (Or.inl rfl) ⟨by congr 3; omega, rfl⟩
  · refine aw_iconst dX0_isOpposite_7 ?_
    refine aw_goto (tgt := 12) dX0_isOpposite_8 rfl ?_
    exact aw_zreturn dX0_isOpposite_12 rfl (by omega) (Or.inl rfl) ⟨by congr 3; omega, rfl⟩
theorem c_isPositional {γ : GG} {h : AH} {c : Int} (hc : 0 ≤ c ∧ c < 2147483648) : Call γ mX0_isPositional 0 0 0 [vi c] h (rV (vi (if c % 8 = 1 ∨ c % 8 = 2 then 1 else 0)) h) := by
  obtain ⟨n, rfl⟩ := Int.eq_ofNat_of_zero_le hc.1
  refine Call.of (ls := [(0, vi (n : Int))]) sX0_isPositional.1 (Nat.le_of_ble_eq_true rfl) rfl ?_
  refine aw_iload_n dX0_isPositional_0 rfl ?_
  refine aw_bipush dX0_isPositional_1 rfl ?_
  refine aw_iand (v := ((n : Int) % 8)) dX0_isPositional_3 (iv_mask (x := n) (k := 3) rfl rfl) ?_
  refine aw_istore_n (ls1 := [(1, _), (0, _)]) dX0_isPositional_4 (by decide) rfl ?_
  refine aw_iload_n dX0_isPositional_5 rfl ?_
  refine aw_iconst dX0_isPositional_6 ?_
  refine aw_ic_eq (tgt := 15) dX0_isPositional_7 rfl (by omega) (by omega) (fun c7 => ?_) (fun c7 => ?_)
  · refine aw_iconst dX0_isPositional_15 ?_
    refine aw_goto (tgt := 20) dX0_isPositional_16 rfl ?_
    exact aw_zreturn dX0_isPositional_20 rfl (by omega) (Or.inl rfl) ⟨by congr 3; first | (rw [if_pos (by omega)]) | (rw [if_neg (by omega)]), rfl⟩
  · refine aw_iload_n dX0_isPositional_10 rfl ?_
    refine aw_iconst dX0_isPositional_11 ?_
    refine aw_ic_ne (tgt := 19) dX0_isPositional_12 rfl (by omega) (by omega) (fun c12 => ?_) (fun c12 => ?_)
    · refine aw_iconst dX0_isPositional_19 ?_
      exact aw_zreturn dX0_isPositional_20 rfl (by omega) (Or.inl rfl) ⟨by congr 3; first | (rw [if_pos (by omega)]) | (rw [if_neg (by omega)]), rfl⟩
    · refine aw_iconst dX0_isPositional_15 ?_
      refine aw_goto (tgt := 20) dX0_isPositional_16 rfl ?_
      exact aw_zreturn dX0_isPositional_20 rfl (by omega) (Or.inl rfl) ⟨by congr 3; first | (rw [if_pos (by omega)]) | (rw [if_neg (by omega)]), rfl⟩
theorem c_digitOf {γ : GG} {h : AH} {c : Int} (hc : 0 ≤ c ∧ c < 2147483648) : Call γ mX0_digitOf 0 0 0 [vi c] h (rV (vi (c / 64 % 16)) h) := by
  obtain ⟨n, rfl⟩ := Int.eq_ofNat_of_zero_le hc.1
  refine Call.of (ls := [(0, vi (n : Int))]) sX0_digitOf.1 (Nat.le_of_ble_eq_true rfl) rfl ?_
  refine aw_iload_n dX0_digitOf_0 rfl ?_
  refine aw_bipush dX0_digitOf_1 rfl ?_
  refine aw_ishr (v := ((n / 64 : Nat) : Int)) dX0_digitOf_3 (iv_shr (x := n) (k := 6) rfl (by omega) rfl (by omega) rfl) ?_
  refine aw_bipush dX0_digitOf_4 rfl ?_
  refine aw_iand (v := ((n : Int) / 64 % 16)) dX0_digitOf_6 (iv_mask (x := n / 64) (k := 4) rfl rfl) ?_
  exact aw_ireturn dX0_digitOf_7 rfl (Or.inl rfl) ⟨rfl, rfl⟩
theorem c_stepsOf {γ : GG} {h : AH} {c : Int} (hc : 0 ≤ c ∧ c < 2147483648) : Call γ mX0_stepsOf 0 0 0 [vi c] h (rV (vi (c / 16 % 4)) h) := by
  obtain ⟨n, rfl⟩ := Int.eq_ofNat_of_zero_le hc.1
  refine Call.of (ls := [(0, vi (n : Int))]) sX0_stepsOf.1 (Nat.le_of_ble_eq_true rfl) rfl ?_
  refine aw_iload_n dX0_stepsOf_0 rfl ?_
  refine aw_iconst dX0_stepsOf_1 ?_
  refine aw_ishr (v := ((n / 16 : Nat) : Int)) dX0_stepsOf_2 (iv_shr (x := n) (k := 4) rfl (by omega) rfl (by omega) rfl) ?_
  refine aw_iconst dX0_stepsOf_3 ?_
  refine aw_iand (v := ((n : Int) / 16 % 4)) dX0_stepsOf_4 (iv_mask (x := n / 16) (k := 2) rfl rfl) ?_
  exact aw_ireturn dX0_stepsOf_5 rfl (Or.inl rfl) ⟨rfl, rfl⟩
theorem c_axisOf {γ : GG} {h : AH} {c : Int} (hc : 0 ≤ c ∧ c < 2147483648) {k : Nat} (hk : k ≤ 2) : Call γ mX0_axisOf 0 0 0 [vi c, vi (k : Int)] h (rV (vi (c / ((2 ^ (6 + 8 * k) : Nat) : Int) % 16)) h) := by
  obtain ⟨n, rfl⟩ := Int.eq_ofNat_of_zero_le hc.1
  refine Call.of (ls := [(0, vi (n : Int)), (1, vi (k : Int))]) sX0_axisOf.1 (Nat.le_of_ble_eq_true rfl) rfl ?_
  refine aw_iload_n dX0_axisOf_0 rfl ?_
  refine aw_bipush dX0_axisOf_1 rfl ?_
  refine aw_bipush dX0_axisOf_3 rfl ?_
  refine aw_iload_n dX0_axisOf_5 rfl ?_
  refine aw_imul dX0_axisOf_6 ?_
  refine aw_iadd dX0_axisOf_7 ?_
  refine aw_ishr (v := ((n / 2 ^ (6 + 8 * k) : Nat) : Int)) dX0_axisOf_8 (iv_shr (x := n) (k := 6 + 8 * k) rfl (by omega) (by omega) (by omega) rfl) ?_
  refine aw_bipush dX0_axisOf_9 rfl ?_
  refine aw_iand (v := ((n / 2 ^ (6 + 8 * k) % 16 : Nat) : Int)) dX0_axisOf_11 (iv_mask (x := n / 2 ^ (6 + 8 * k)) (k := 4) rfl rfl) ?_
  exact aw_ireturn dX0_axisOf_12 rfl (Or.inl rfl) ⟨by rfl, rfl⟩
theorem c_testOf {γ : GG} {h : AH} {c : Int} (hc : 0 ≤ c ∧ c < 2147483648) {k : Nat} (hk : k ≤ 2) : Call γ mX0_testOf 0 0 0 [vi c, vi (k : Int)] h (rV (vi (c / ((2 ^ (10 + 8 * k) : Nat) : Int) % 16)) h) := by
  obtain ⟨n, rfl⟩ := Int.eq_ofNat_of_zero_le hc.1
  refine Call.of (ls := [(0, vi (n : Int)), (1, vi (k : Int))]) sX0_testOf.1 (Nat.le_of_ble_eq_true rfl) rfl ?_
  refine aw_iload_n dX0_testOf_0 rfl ?_
  refine aw_bipush dX0_testOf_1 rfl ?_
  refine aw_bipush dX0_testOf_3 rfl ?_
  refine aw_iload_n dX0_testOf_5 rfl ?_
  refine aw_imul dX0_testOf_6 ?_
  refine aw_iadd dX0_testOf_7 ?_
  refine aw_iconst dX0_testOf_8 ?_
  refine aw_iadd dX0_testOf_9 ?_
  refine aw_ishr (v := ((n / 2 ^ (10 + 8 * k) : Nat) : Int)) dX0_testOf_10 (iv_shr (x := n) (k := 10 + 8 * k) rfl (by omega) (by omega) (by omega) rfl) ?_
  refine aw_bipush dX0_testOf_11 rfl ?_
  refine aw_iand (v := ((n / 2 ^ (10 + 8 * k) % 16 : Nat) : Int)) dX0_testOf_13 (iv_mask (x := n / 2 ^ (10 + 8 * k)) (k := 4) rfl rfl) ?_
  exact aw_ireturn dX0_testOf_14 rfl (Or.inl rfl) ⟨by rfl, rfl⟩
theorem c_withDigit {γ : GG} {h : AH} {k g : Int} (hk : 0 ≤ k ∧ k < 64) (hg : 0 ≤ g ∧ g ≤ 9) : Call γ mX0_withDigit 0 0 0 [vi k, vi g] h (rV (vi (k + 64 * g)) h) := by
  obtain ⟨a, rfl⟩ := Int.eq_ofNat_of_zero_le hk.1
  obtain ⟨b, rfl⟩ := Int.eq_ofNat_of_zero_le hg.1
  refine Call.of (ls := [(0, vi (a : Int)), (1, vi (b : Int))]) sX0_withDigit.1 (Nat.le_of_ble_eq_true rfl) rfl ?_
  refine aw_iload_n dX0_withDigit_0 rfl ?_
  refine aw_iload_n dX0_withDigit_1 rfl ?_
  refine aw_bipush dX0_withDigit_2 rfl ?_
  refine aw_ishl (v := ((b * 64 : Nat) : Int)) dX0_withDigit_4 (iv_shl (x := b) (k := 6) rfl rfl (by omega) rfl) ?_
  refine aw_ior (v := ((a + b * 64 : Nat) : Int)) dX0_withDigit_5 (iv_or (x := a) (y := b * 64) rfl rfl rfl (or_sum (k := 6) (by omega))) ?_
  exact aw_ireturn dX0_withDigit_6 rfl (Or.inl rfl) ⟨by congr 3; omega, rfl⟩
theorem c_withStep {γ : GG} {h : AH} {c a t : Int} {k : Nat} (hk : k ≤ 2) (hc : 0 ≤ c ∧ c < ((2 ^ (6 + 8 * k) : Nat) : Int)) (hn : c / 16 % 4 = k) (ha : 0 ≤ a ∧ a ≤ 9) (ht : 0 ≤ t ∧ t ≤ 8) : Call γ mX0_withStep 1 0 0 [vi c, vi a, vi t] h (rV (vi (c + (a + 16 * t) * ((2 ^ (6 + 8 * k) : Nat) : Int) + 16)) h) := by
  obtain ⟨n, rfl⟩ := Int.eq_ofNat_of_zero_le hc.1
  obtain ⟨a, rfl⟩ := Int.eq_ofNat_of_zero_le ha.1
  obtain ⟨t, rfl⟩ := Int.eq_ofNat_of_zero_le ht.1
  have hc2 : n < 2 ^ (6 + 8 * k) := by exact_mod_cast hc.2
  have hp : (2 : Nat) ^ (6 + 8 * k) ≤ 2 ^ 22 := Nat.pow_le_pow_right (by decide) (by omega)
  have hp2 : (2 : Nat) ^ 22 = 4194304 := by decide
  refine Call.of (ls := [(0, vi (n : Int)), (1, vi (a : Int)), (2, vi (t : Int))]) sX0_withStep.1 (Nat.le_of_ble_eq_true rfl) rfl ?_
  refine aw_iload_n dX0_withStep_0 rfl ?_
  refine aw_iload_n dX0_withStep_1 rfl ?_
  refine aw_iload_n dX0_withStep_2 rfl ?_
  refine aw_iconst dX0_withStep_3 ?_
  refine aw_ishl (v := ((t * 16 : Nat) : Int)) dX0_withStep_4 (iv_shl (x := t) (k := 4) rfl rfl (by omega) rfl) ?_
  refine aw_ior (v := ((a + t * 16 : Nat) : Int)) dX0_withStep_5 (iv_or (x := a) (y := t * 16) rfl rfl rfl (or_sum (k := 4) (by omega))) ?_
  refine aw_bipush dX0_withStep_6 rfl ?_
  refine aw_bipush dX0_withStep_8 rfl ?_
  refine aw_iload_n dX0_withStep_10 rfl ?_
  refine aw_invS_r dX0_withStep_11 sX0_stepsOf kX0_11 rfl (c_stepsOf (c := (n : Int)) (by omega)) rfl rfl (by decide) (by decide) (by decide) (Nat.le_of_ble_eq_true rfl) ?_
  refine aw_imul dX0_withStep_14 ?_
  refine aw_iadd dX0_withStep_15 ?_
  refine aw_ishl (v := (((a + t * 16) * 2 ^ (6 + 8 * k) : Nat) : Int)) dX0_withStep_16 (iv_shl (x := a + t * 16) (k := 6 + 8 * k) rfl (by omega) (by omega) rfl) ?_
  refine aw_ior (v := ((n + (a + t * 16) * 2 ^ (6 + 8 * k) : Nat) : Int)) dX0_withStep_17 (iv_or (x := n) (y := (a + t * 16) * 2 ^ (6 + 8 * k)) rfl rfl rfl (or_sum hc2)) ?_
  refine aw_bipush dX0_withStep_18 rfl ?_
  refine aw_iadd dX0_withStep_20 ?_
  exact aw_ireturn dX0_withStep_21 rfl (Or.inl rfl) ⟨by congr 3; rw [Int.natCast_add, Int.natCast_mul]; congr 3; omega, rfl⟩
