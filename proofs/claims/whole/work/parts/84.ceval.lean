/-! ===== Evaluator: nodesFor, placed ===== -/
/-- the nodes for which a short path leads somewhere -/
def exS (T : Tr) : List (Int × Int) → Nat → Bool
  | [] => psS T 8
  | x :: r => ldS T x.1 (fun k => exS T r k && psS T x.2 k)
def nfS (T : Tr) (c : TC) : Nat → Bool := if c.2.1 = 2 then lim (fun j => decide (tvl T j = c.2.2.1)) (tn T) else if c.2.1 = 3 then exS T c.2.2.2 else fun _ => false
theorem S9_none : S9 (fun _ => false) = 0 := by rw [S9_0]
theorem l_nf {γ : GG} {h : AH} {t : Nat} {T : Tr} {c : TC} (hT : isTr h t T) (ho : okTr T) (hc : okC c) : ∀ (j : Nat), j ≤ c.2.2.2.length → AW γ mX1_nodesFor 3 0 0 41 [(5, vi ((j : Int) - 1)), (3, vl (S9 (exS T (c.2.2.2.drop j)))), (0, vr (some t)), (1, vi (pk c))] [] h (rV (vl (S9 (exS T c.2.2.2))) h) := by
  have bd := pk_bd hc
  have hk := hT.1.1
  have ln3 : c.2.2.2.length ≤ 3 := by
    rcases hc with q | q | q | q
    · rw [q.2.2.2]; decide
    · rw [q.2.2]; decide
    · rw [q.2.2.2]; decide
    · exact q.2.2.2.1
  intro j
  induction j with
  | zero =>
    intro hj
    rw [show List.drop 0 c.2.2.2 = c.2.2.2 from rfl]
    refine aw_iload dX1_nodesFor_41 rfl ?_
    refine aw_if_lt (tgt := 79) dX1_nodesFor_43 rfl (by omega) (fun c43 => ?_) (fun c43 => ?_)
    · refine aw_lload_n dX1_nodesFor_79 rfl ?_
      exact aw_lreturn dX1_nodesFor_80 rfl (Or.inl rfl) ⟨rfl, rfl⟩
    · exact absurd c43 (by omega)
  | succ j ih =>
    intro hj
    have hx : c.2.2.2[j]? = some c.2.2.2[j] := List.getElem?_eq_getElem (by omega)
    generalize hxx : c.2.2.2[j] = x at hx
    obtain ⟨x1, x2, x3, x4⟩ := pk_sh hc hx
    obtain ⟨y1, y2, y3, y4⟩ := x3
    have dr : exS T (c.2.2.2.drop j) = ldS T x.1 (fun k => exS T (c.2.2.2.drop (j + 1)) k && psS T x.2 k) := by
      rw [List.drop_eq_getElem_cons (by omega), hxx]
      rfl
    obtain ⟨ax, hax⟩ := Int.eq_ofNat_of_zero_le y1
    have hax : x.1 = (ax : Int) := hax
    have I := ih (by omega)
    rw [dr, hax] at I
    have ej : ((j + 1 : Nat) : Int) - 1 = (j : Int) := by omega
    have CT := c_testOf (γ := γ) (h := h) (c := pk c) (k := j) (by omega) x4
    rw [x2] at CT
    have CA := c_axisOf (γ := γ) (h := h) (c := pk c) (k := j) (by omega) x4
    rw [x1, hax] at CA
    have CP := c_passing (γ := γ) (x := x.2) hT ho ⟨y3, y4⟩
    have CL := c_leadingTo (γ := γ) (ax := ax) (g := fun k => exS T (c.2.2.2.drop (j + 1)) k && psS T x.2 k) hT ho (by omega)
    rw [ej]
    refine aw_iload dX1_nodesFor_41 rfl ?_
    refine aw_if_lt (tgt := 79) dX1_nodesFor_43 rfl (by omega) (fun c43 => ?_) (fun c43 => ?_)
    · exact absurd c43 (by omega)
    · refine aw_lload_n dX1_nodesFor_46 rfl ?_
      refine aw_aload_n dX1_nodesFor_47 rfl ?_
      refine aw_iload_n dX1_nodesFor_48 rfl ?_
      refine aw_iload dX1_nodesFor_49 rfl ?_
      refine aw_invS_r dX1_nodesFor_51 sX0_testOf kX1_112 rfl (CT) rfl rfl (by decide) (by decide) (by decide) (Nat.le_of_ble_eq_true rfl) ?_
      refine aw_invV_r dX1_nodesFor_54 vX10_passing kX1_82 rfl (CP) ⟨_, (by assumption), _, _, rfl⟩ rfl rfl (by decide) (by decide) (by decide) (Nat.le_of_ble_eq_true rfl) ?_
      refine aw_land dX1_nodesFor_57 ?_
      rw [S9_and]
      refine aw_lstore (ls1 := [(6, _), (5, _), (3, _), (0, _), (1, _)]) dX1_nodesFor_58 (by decide) rfl ?_
      refine aw_aload_n dX1_nodesFor_60 rfl ?_
      refine aw_lload dX1_nodesFor_61 rfl ?_
      refine aw_iload_n dX1_nodesFor_63 rfl ?_
      refine aw_iload dX1_nodesFor_64 rfl ?_
      refine aw_invS_r dX1_nodesFor_66 sX0_axisOf kX1_115 rfl (CA) rfl rfl (by decide) (by decide) (by decide) (Nat.le_of_ble_eq_true rfl) ?_
      refine aw_invV_r dX1_nodesFor_69 vX10_leadingTo kX1_118 rfl (CL) ⟨_, (by assumption), _, _, rfl⟩ rfl rfl (by decide) (by decide) (by decide) (Nat.le_of_ble_eq_true rfl) ?_
      refine aw_lstore_n (ls1 := [(3, _), (6, _), (5, _), (0, _), (1, _)]) dX1_nodesFor_72 (by decide) rfl ?_
      refine aw_iinc (k9 := 2) (ls1 := [(5, _), (3, _), (6, _), (0, _), (1, _)]) dX1_nodesFor_73 rfl (by decide) rfl ?_
      rw [show (j : Int) + -1 = (j : Int) - 1 by omega]
      refine aw_goto (tgt := 41) dX1_nodesFor_76 rfl ?_
      refine aw_sub [0, 1, 3, 4] rfl ?_
      exact I
theorem c_nodesFor {γ : GG} {h : AH} {t : Nat} {T : Tr} {c : TC} (hT : isTr h t T) (ho : okTr T) (hc : okC c) : Call γ mX1_nodesFor 3 0 0 [vr (some t), vi (pk c)] h (rV (vl (S9 (nfS T c))) h) := by
  have bd := pk_bd hc
  have hk := hT.1.1
  have kb := okC_k hc
  have CK := c_kindOf (γ := γ) (h := h) (c := pk c) (by omega)
  rw [pk_kind hc] at CK
  by_cases q2 : c.2.1 = 2
  · have CD := c_digitOf (γ := γ) (h := h) (c := pk c) (by omega)
    rw [pk_dig hc (Or.inr q2)] at CD
    have CV := c_valued (γ := γ) (x := c.2.2.1) hT ho (by omega)
    have e : nfS T c = lim (fun j => decide (tvl T j = c.2.2.1)) (tn T) := by unfold nfS; rw [if_pos q2]
    rw [e]
    refine Call.of (ls := [(0, vr (some t)), (1, vi (pk c))]) sX1_nodesFor.1 (Nat.le_of_ble_eq_true rfl) rfl ?_
    refine aw_iload_n dX1_nodesFor_0 rfl ?_
    refine aw_invS_r dX1_nodesFor_1 sX0_kindOf kX1_97 rfl (CK) rfl rfl (by decide) (by decide) (by decide) (Nat.le_of_ble_eq_true rfl) ?_
    refine aw_istore_n (ls1 := [(2, _), (0, _), (1, _)]) dX1_nodesFor_4 (by decide) rfl ?_
    refine aw_iload_n dX1_nodesFor_5 rfl ?_
    refine aw_iconst dX1_nodesFor_6 ?_
    refine aw_ic_ne (tgt := 19) dX1_nodesFor_7 rfl (by omega) (by omega) (fun c7 => ?_) (fun c7 => ?_)
    · exact absurd c7 (by omega)
    · refine aw_aload_n dX1_nodesFor_10 rfl ?_
      refine aw_iload_n dX1_nodesFor_11 rfl ?_
      refine aw_invS_r dX1_nodesFor_12 sX0_digitOf kX1_103 rfl (CD) rfl rfl (by decide) (by decide) (by decide) (Nat.le_of_ble_eq_true rfl) ?_
      refine aw_invV_r dX1_nodesFor_15 vX10_valued kX1_106 rfl (CV) ⟨_, (by assumption), _, _, rfl⟩ rfl rfl (by decide) (by decide) (by decide) (Nat.le_of_ble_eq_true rfl) ?_
      exact aw_lreturn dX1_nodesFor_18 rfl (Or.inl rfl) ⟨rfl, rfl⟩
  · by_cases q3 : c.2.1 = 3
    · have e : nfS T c = exS T c.2.2.2 := by unfold nfS; rw [if_neg q2, if_pos q3]
      have CS := c_stepsOf (γ := γ) (h := h) (c := pk c) (by omega)
      rw [pk_len hc] at CS
      have CP := c_passing (γ := γ) (x := 8) hT ho (by omega)
      have L := l_nf (γ := γ) hT ho hc c.2.2.2.length (Nat.le_refl _)
      rw [List.drop_length] at L
      rw [e]
      refine Call.of (ls := [(0, vr (some t)), (1, vi (pk c))]) sX1_nodesFor.1 (Nat.le_of_ble_eq_true rfl) rfl ?_
      refine aw_iload_n dX1_nodesFor_0 rfl ?_
      refine aw_invS_r dX1_nodesFor_1 sX0_kindOf kX1_97 rfl (CK) rfl rfl (by decide) (by decide) (by decide) (Nat.le_of_ble_eq_true rfl) ?_
      refine aw_istore_n (ls1 := [(2, _), (0, _), (1, _)]) dX1_nodesFor_4 (by decide) rfl ?_
      refine aw_iload_n dX1_nodesFor_5 rfl ?_
      refine aw_iconst dX1_nodesFor_6 ?_
      refine aw_ic_ne (tgt := 19) dX1_nodesFor_7 rfl (by omega) (by omega) (fun c7 => ?_) (fun c7 => ?_)
      · refine aw_iload_n dX1_nodesFor_19 rfl ?_
        refine aw_iconst dX1_nodesFor_20 ?_
        refine aw_ic_eq (tgt := 26) dX1_nodesFor_21 rfl (by omega) (by omega) (fun c21 => ?_) (fun c21 => ?_)
        · refine aw_aload_n dX1_nodesFor_26 rfl ?_
          refine aw_bipush dX1_nodesFor_27 rfl ?_
          refine aw_invV_r dX1_nodesFor_29 vX10_passing kX1_82 rfl (CP) ⟨_, (by assumption), _, _, rfl⟩ rfl rfl (by decide) (by decide) (by decide) (Nat.le_of_ble_eq_true rfl) ?_
          refine aw_lstore_n (ls1 := [(3, _), (2, _), (0, _), (1, _)]) dX1_nodesFor_32 (by decide) rfl ?_
          refine aw_iload_n dX1_nodesFor_33 rfl ?_
          refine aw_invS_r dX1_nodesFor_34 sX0_stepsOf kX1_109 rfl (CS) rfl rfl (by decide) (by decide) (by decide) (Nat.le_of_ble_eq_true rfl) ?_
          refine aw_iconst dX1_nodesFor_37 ?_
          refine aw_isub dX1_nodesFor_38 ?_
          refine aw_istore (ls1 := [(5, _), (3, _), (2, _), (0, _), (1, _)]) dX1_nodesFor_39 (by decide) rfl ?_
          refine aw_sub [0, 1, 3, 4] rfl ?_
          exact L
        · exact absurd c21 (by omega)
      · exact absurd c7 (by omega)
    · have e : nfS T c = fun _ => false := by unfold nfS; rw [if_neg q2, if_neg q3]
      rw [e, S9_none]
      refine Call.of (ls := [(0, vr (some t)), (1, vi (pk c))]) sX1_nodesFor.1 (Nat.le_of_ble_eq_true rfl) rfl ?_
      refine aw_iload_n dX1_nodesFor_0 rfl ?_
      refine aw_invS_r dX1_nodesFor_1 sX0_kindOf kX1_97 rfl (CK) rfl rfl (by decide) (by decide) (by decide) (Nat.le_of_ble_eq_true rfl) ?_
      refine aw_istore_n (ls1 := [(2, _), (0, _), (1, _)]) dX1_nodesFor_4 (by decide) rfl ?_
      refine aw_iload_n dX1_nodesFor_5 rfl ?_
      refine aw_iconst dX1_nodesFor_6 ?_
      refine aw_ic_ne (tgt := 19) dX1_nodesFor_7 rfl (by omega) (by omega) (fun c7 => ?_) (fun c7 => ?_)
      · refine aw_iload_n dX1_nodesFor_19 rfl ?_
        refine aw_iconst dX1_nodesFor_20 ?_
        refine aw_ic_eq (tgt := 26) dX1_nodesFor_21 rfl (by omega) (by omega) (fun c21 => ?_) (fun c21 => ?_)
        · exact absurd c21 (by omega)
        · refine aw_lconst (v := 0) dX1_nodesFor_24 rfl ?_
          exact aw_lreturn dX1_nodesFor_25 rfl (Or.inl rfl) ⟨rfl, rfl⟩
      · exact absurd c7 (by omega)
theorem c_nodesFor0 {γ : GG} {h : AH} {t : Nat} : Call γ mX1_nodesFor 3 0 0 [vr (some t), vi 0] h (rV (vl (S9 (fun _ => false))) h) := by
  have CK := c_kindOf (γ := γ) (h := h) (c := 0) (by omega)
  rw [S9_none]
  refine Call.of (ls := [(0, vr (some t)), (1, vi 0)]) sX1_nodesFor.1 (Nat.le_of_ble_eq_true rfl) rfl ?_
  refine aw_iload_n dX1_nodesFor_0 rfl ?_
  refine aw_invS_r dX1_nodesFor_1 sX0_kindOf kX1_97 rfl (CK) rfl rfl (by decide) (by decide) (by decide) (Nat.le_of_ble_eq_true rfl) ?_
  refine aw_istore_n (ls1 := [(2, _), (0, _), (1, _)]) dX1_nodesFor_4 (by decide) rfl ?_
  refine aw_iload_n dX1_nodesFor_5 rfl ?_
  refine aw_iconst dX1_nodesFor_6 ?_
  refine aw_ic_ne (tgt := 19) dX1_nodesFor_7 rfl (by omega) (by omega) (fun c7 => ?_) (fun c7 => ?_)
  · refine aw_iload_n dX1_nodesFor_19 rfl ?_
    refine aw_iconst dX1_nodesFor_20 ?_
    refine aw_ic_eq (tgt := 26) dX1_nodesFor_21 rfl (by omega) (by omega) (fun c21 => ?_) (fun c21 => ?_)
    · exact absurd c21 (by omega)
    · refine aw_lconst (v := 0) dX1_nodesFor_24 rfl ?_
      exact aw_lreturn dX1_nodesFor_25 rfl (Or.inl rfl) ⟨rfl, rfl⟩
  · exact absurd c7 (by omega)
theorem kth_g {f : Nat → Bool} : ∀ (n i : Nat), i < fb_ct f n → ∃ y, y < n ∧ f y = true ∧ fb_ct f y = i := by
  intro n
  induction n with
  | zero => intro i hi; exact absurd hi (Nat.not_lt_zero _)
  | succ n ih =>
    intro i hi
    by_cases z : i < fb_ct f n
    · obtain ⟨y, y1, y2, y3⟩ := ih i z
      exact ⟨y, by omega, y2, y3⟩
    · rw [fb_ct_succ] at hi
      cases q : f n with
      | true => rw [q, if_pos rfl] at hi; exact ⟨n, by omega, q, by omega⟩
      | false => rw [q] at hi; simp at hi; omega
theorem ct_up {f : Nat → Bool} {x y : Nat} (hx : f x = true) (h : x < y) : fb_ct f x < fb_ct f y := by
  have := fb_ct_mono f (show x + 1 ≤ y from h)
  rw [fb_ct_succ, hx, if_pos rfl] at this
  omega
def plS (num : Int) (g : Nat → Bool) (rv : Bool) : Nat → Bool := fun k => g k && decide ((if rv = true then (fb_ct g 40 : Int) - fb_ct g k else (fb_ct g k : Int) + 1) = num)
theorem plS_one {g : Nat → Bool} {num : Int} {rv : Bool} {x : Nat} (hx : g x = true) (h1 : (if rv = true then (fb_ct g 40 : Int) - fb_ct g x else (fb_ct g x : Int) + 1) = num) : S9 (fun k => decide (k = x)) = S9 (plS num g rv) := by
  refine S9_cong (fun k _ => ?_)
  unfold plS
  by_cases q : k = x
  · subst q; simp [hx, h1]
  · cases g9 : g k with
    | false => simp [q]
    | true =>
      have : fb_ct g k ≠ fb_ct g x := fun e => by
        rcases Nat.lt_or_gt_of_ne q with z | z
        · have := ct_up g9 z; omega
        · have := ct_up hx z; omega
      have n1 : ¬ (if rv = true then (fb_ct g 40 : Int) - fb_ct g k else (fb_ct g k : Int) + 1) = num := by
        rw [← h1]
        split <;> omega
      simp [q, n1]
theorem plS_none {g : Nat → Bool} {num : Int} {rv : Bool} (h : num < 1 ∨ (fb_ct g 40 : Int) < num) : S9 (plS num g rv) = 0 := by
  rw [S9_0]
  refine S9_cong (fun k hk => ?_)
  unfold plS
  cases g9 : g k with
  | false => rfl
  | true =>
    have := ct_up g9 hk
    have n1 : ¬ (if rv = true then (fb_ct g 40 : Int) - fb_ct g k else (fb_ct g k : Int) + 1) = num := by split <;> omega
    simp [n1]
theorem l_pl25 {γ : GG} {h : AH} {z num : Int} {g : Nat → Bool} {rv : Bool} (hn : -100 ≤ num ∧ num ≤ 100) : AW γ mX1_placed 1 0 0 25 [(5, vi num), (4, vi (fb_ct g 40 : Nat)), (0, vi z), (1, vl (S9 g)), (3, vi (bI rv))] [] h (rV (vl (S9 (plS num g rv))) h) := by
  have t40 := fb_ct_le g 40
  by_cases q1 : num < 1
  · rw [plS_none (Or.inl q1)]
    refine aw_iload dX1_placed_25 rfl ?_
    refine aw_iconst dX1_placed_27 ?_
    refine aw_ic_lt (tgt := 38) dX1_placed_28 rfl (by omega) (by omega) (fun c28 => ?_) (fun c28 => ?_)
    · refine aw_lconst (v := 0) dX1_placed_38 rfl ?_
      exact aw_lreturn dX1_placed_39 rfl (Or.inl rfl) ⟨rfl, rfl⟩
    · exact absurd c28 (by omega)
  · by_cases q2 : (fb_ct g 40 : Int) < num
    · rw [plS_none (Or.inr q2)]
      refine aw_iload dX1_placed_25 rfl ?_
      refine aw_iconst dX1_placed_27 ?_
      refine aw_ic_lt (tgt := 38) dX1_placed_28 rfl (by omega) (by omega) (fun c28 => ?_) (fun c28 => ?_)
      · exact absurd c28 (by omega)
      · refine aw_iload dX1_placed_31 rfl ?_
        refine aw_iload dX1_placed_33 rfl ?_
        refine aw_ic_le (tgt := 40) dX1_placed_35 rfl (by omega) (by omega) (fun c35 => ?_) (fun c35 => ?_)
        · exact absurd c35 (by omega)
        · refine aw_lconst (v := 0) dX1_placed_38 rfl ?_
          exact aw_lreturn dX1_placed_39 rfl (Or.inl rfl) ⟨rfl, rfl⟩
    · cases rv with
      | true =>
        obtain ⟨x, x1, x2, x3⟩ := kth_g (f := g) 40 (fb_ct g 40 - num.toNat) (by omega)
        rw [← plS_one (num := num) (rv := true) x2 (by rw [if_pos rfl]; omega)]
        have CN := c_nth (γ := γ) (h := h) (i := fb_ct g 40 - num.toNat) x1 x2 x3
        rw [show ((fb_ct g 40 - num.toNat : Nat) : Int) = (fb_ct g 40 : Int) - num by omega] at CN
        rw [show bI true = 1 from rfl]
        refine aw_iload dX1_placed_25 rfl ?_
        refine aw_iconst dX1_placed_27 ?_
        refine aw_ic_lt (tgt := 38) dX1_placed_28 rfl (by omega) (by omega) (fun c28 => ?_) (fun c28 => ?_)
        · exact absurd c28 (by omega)
        · refine aw_iload dX1_placed_31 rfl ?_
          refine aw_iload dX1_placed_33 rfl ?_
          refine aw_ic_le (tgt := 40) dX1_placed_35 rfl (by omega) (by omega) (fun c35 => ?_) (fun c35 => ?_)
          · refine aw_lload_n dX1_placed_40 rfl ?_
            refine aw_iload_n dX1_placed_41 rfl ?_
            refine aw_if_eq (tgt := 53) dX1_placed_42 rfl (by omega) (fun c42 => ?_) (fun c42 => ?_)
            · exact absurd c42 (by omega)
            · refine aw_iload dX1_placed_45 rfl ?_
              refine aw_iload dX1_placed_47 rfl ?_
              refine aw_isub dX1_placed_49 ?_
              refine aw_goto (tgt := 57) dX1_placed_50 rfl ?_
              refine aw_invS_r dX1_placed_57 sX10_nth kX1_143 rfl (CN) rfl rfl (by decide) (by decide) (by decide) (Nat.le_of_ble_eq_true rfl) ?_
              exact aw_lreturn dX1_placed_60 rfl (Or.inl rfl) ⟨rfl, rfl⟩
          · exact absurd c35 (by omega)
      | false =>
        obtain ⟨x, x1, x2, x3⟩ := kth_g (f := g) 40 (num.toNat - 1) (by omega)
        rw [← plS_one (num := num) (rv := false) x2 (by rw [if_neg (by decide)]; omega)]
        have CN := c_nth (γ := γ) (h := h) (i := num.toNat - 1) x1 x2 x3
        rw [show ((num.toNat - 1 : Nat) : Int) = num - 1 by omega] at CN
        rw [show bI false = 0 from rfl]
        refine aw_iload dX1_placed_25 rfl ?_
        refine aw_iconst dX1_placed_27 ?_
        refine aw_ic_lt (tgt := 38) dX1_placed_28 rfl (by omega) (by omega) (fun c28 => ?_) (fun c28 => ?_)
        · exact absurd c28 (by omega)
        · refine aw_iload dX1_placed_31 rfl ?_
          refine aw_iload dX1_placed_33 rfl ?_
          refine aw_ic_le (tgt := 40) dX1_placed_35 rfl (by omega) (by omega) (fun c35 => ?_) (fun c35 => ?_)
          · refine aw_lload_n dX1_placed_40 rfl ?_
            refine aw_iload_n dX1_placed_41 rfl ?_
            refine aw_if_eq (tgt := 53) dX1_placed_42 rfl (by omega) (fun c42 => ?_) (fun c42 => ?_)
            · refine aw_iload dX1_placed_53 rfl ?_
              refine aw_iconst dX1_placed_55 ?_
              refine aw_isub dX1_placed_56 ?_
              refine aw_invS_r dX1_placed_57 sX10_nth kX1_143 rfl (CN) rfl rfl (by decide) (by decide) (by decide) (Nat.le_of_ble_eq_true rfl) ?_
              exact aw_lreturn dX1_placed_60 rfl (Or.inl rfl) ⟨rfl, rfl⟩
            · exact absurd c42 (by omega)
          · exact absurd c35 (by omega)
def numC (c : TC) (g : Nat → Bool) : Int := if c.2.1 = 1 then (fb_ct g 40 : Int) else c.2.2.1
theorem c_placed {γ : GG} {h : AH} {c : TC} {g : Nat → Bool} {rv : Bool} (hc : okC c) (hp : c.2.1 ≤ 1) : Call γ mX1_placed 1 0 0 [vi (pk c), vl (S9 g), vi (bI rv)] h (rV (vl (S9 (plS (numC c g) g rv))) h) := by
  have bd := pk_bd hc
  have kb := okC_k hc
  have t40 := fb_ct_le g 40
  have CK := c_kindOf (γ := γ) (h := h) (c := pk c) (by omega)
  rw [pk_kind hc] at CK
  have CB := c_bcS (γ := γ) (h := h) g
  have L := l_pl25 (γ := γ) (h := h) (z := pk c) (num := numC c g) (g := g) (rv := rv) (by unfold numC; split <;> omega)
  by_cases q : c.2.1 = 1
  · have e : numC c g = (fb_ct g 40 : Int) := by unfold numC; rw [if_pos q]
    rw [e] at L ⊢
    refine Call.of (ls := [(0, vi (pk c)), (1, vl (S9 g)), (3, vi (bI rv))]) sX1_placed.1 (Nat.le_of_ble_eq_true rfl) rfl ?_
    refine aw_lload_n dX1_placed_0 rfl ?_
    refine aw_invS_r dX1_placed_1 sJ13_bitCount_95d88 kX1_55 rfl (CB) rfl rfl (by decide) (by decide) (by decide) (Nat.le_of_ble_eq_true rfl) ?_
    refine aw_istore (ls1 := [(4, _), (0, _), (1, _), (3, _)]) dX1_placed_4 (by decide) rfl ?_
    refine aw_iload_n dX1_placed_6 rfl ?_
    refine aw_invS_r dX1_placed_7 sX0_kindOf kX1_97 rfl (CK) rfl rfl (by decide) (by decide) (by decide) (Nat.le_of_ble_eq_true rfl) ?_
    refine aw_iconst dX1_placed_10 ?_
    refine aw_ic_ne (tgt := 19) dX1_placed_11 rfl (by omega) (by omega) (fun c11 => ?_) (fun c11 => ?_)
    · exact absurd c11 (by omega)
    · refine aw_iload dX1_placed_14 rfl ?_
      refine aw_goto (tgt := 23) dX1_placed_16 rfl ?_
      refine aw_istore (ls1 := [(5, _), (4, _), (0, _), (1, _), (3, _)]) dX1_placed_23 (by decide) rfl ?_
      refine aw_sub [0, 1, 2, 3, 4] rfl ?_
      exact L
  · have e : numC c g = c.2.2.1 := by unfold numC; rw [if_neg q]
    have CD := c_digitOf (γ := γ) (h := h) (c := pk c) (by omega)
    rw [pk_dig hc (Or.inl (by omega))] at CD
    rw [e] at L ⊢
    refine Call.of (ls := [(0, vi (pk c)), (1, vl (S9 g)), (3, vi (bI rv))]) sX1_placed.1 (Nat.le_of_ble_eq_true rfl) rfl ?_
    refine aw_lload_n dX1_placed_0 rfl ?_
    refine aw_invS_r dX1_placed_1 sJ13_bitCount_95d88 kX1_55 rfl (CB) rfl rfl (by decide) (by decide) (by decide) (Nat.le_of_ble_eq_true rfl) ?_
    refine aw_istore (ls1 := [(4, _), (0, _), (1, _), (3, _)]) dX1_placed_4 (by decide) rfl ?_
    refine aw_iload_n dX1_placed_6 rfl ?_
    refine aw_invS_r dX1_placed_7 sX0_kindOf kX1_97 rfl (CK) rfl rfl (by decide) (by decide) (by decide) (Nat.le_of_ble_eq_true rfl) ?_
    refine aw_iconst dX1_placed_10 ?_
    refine aw_ic_ne (tgt := 19) dX1_placed_11 rfl (by omega) (by omega) (fun c11 => ?_) (fun c11 => ?_)
    · refine aw_iload_n dX1_placed_19 rfl ?_
      refine aw_invS_r dX1_placed_20 sX0_digitOf kX1_103 rfl (CD) rfl rfl (by decide) (by decide) (by decide) (Nat.le_of_ble_eq_true rfl) ?_
      refine aw_istore (ls1 := [(5, _), (4, _), (0, _), (1, _), (3, _)]) dX1_placed_23 (by decide) rfl ?_
      refine aw_sub [0, 1, 2, 3, 4] rfl ?_
      exact L
    · exact absurd c11 (by omega)
