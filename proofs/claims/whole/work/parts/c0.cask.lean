/-! ===== the outer class: node, axis, type, clearText, written, size ===== -/
theorem c_node {γ : GG} {h : AH} {c : Nat} {F : FS} {v x : Int} (hC : isCl h c F) (hn : nx h = none) (hv : (-2147483648 ≤ v ∧ v ≤ 2147483647)) (hx : (-2147483648 ≤ x ∧ x ≤ 2147483647)) : Call γ mX11_node 7 1 6 [vr (some c), vi v, vi x] h (rC9 h c [xnIO, xnIA] (opNod F v x)) := by
  obtain ⟨S, U, tx⟩ := F
  obtain ⟨T, qs⟩ := S
  have hC : isCl h c ((T, qs), U, tx) := hC
  obtain ⟨hkc, r0, r1, r2, r3, r4, r5, r6, r7, r8, hks, s0, s1, hkq, hkt⟩ := cl_f hC
  have hT : isTr h (c + 1 + 1) T := hC.2.1.2.1
  have oT : okTr T := hC.2.2.2.2.2.1.1
  have o9 := oT.o
  have n40 := o9.2.1
  have n1 := o9.1
  have gt0 : gi h (c + 1 + 1) 0 = (tn T : Int) := hT.2.1
  unfold opNod
  dsimp only
  by_cases c1 : 0 ≤ v ∧ v < (tn T : Int)
  · rw [if_neg (fun z => z c1)]
    by_cases d2 : 0 ≤ x ∧ x < 6
    · rw [if_neg (fun z => z ⟨by omega, by omega⟩)]
      obtain ⟨u, rfl⟩ := Int.eq_ofNat_of_zero_le c1.1
      obtain ⟨y, rfl⟩ := Int.eq_ofNat_of_zero_le d2.1
      rw [Int.toNat_natCast]
      refine Call.of (ls := [(0, vr (some c)), (1, vi (u : Int)), (2, vi (y : Int))]) vX11_node.1 (Nat.le_of_ble_eq_true rfl) rfl ?_
      refine aw_aload_n dX11_node_0 rfl ?_
      refine aw_iload_n dX11_node_1 rfl ?_
      refine aw_invV_n dX11_node_2 vX11_requireNode kX11_66 rfl (c_rNode (γ := γ) hC hv c1) ⟨_, (by assumption), _, _, rfl⟩ rfl rfl (by decide) (by decide) (by decide) (Nat.le_of_ble_eq_true rfl) ?_
      refine aw_aload_n dX11_node_5 rfl ?_
      refine aw_iload_n dX11_node_6 rfl ?_
      refine aw_bipush dX11_node_7 rfl ?_
      refine aw_invV_n dX11_node_9 vX11_requireBelow kX11_69 rfl (c_rBelow (γ := γ) (b := 6) hx (by omega) d2) ⟨_, (by assumption), _, _, rfl⟩ rfl rfl (by decide) (by decide) (by decide) (Nat.le_of_ble_eq_true rfl) ?_
      refine aw_aload_n dX11_node_12 rfl ?_
      refine aw_getr' (j := 0) dX11_node_13 fX11_12 rfl (by assumption) rfl (by assumption) ?_
      refine aw_getr' (j := 0) dX11_node_16 fX11_73 rfl (by assumption) rfl (by assumption) ?_
      refine aw_iload_n dX11_node_19 rfl ?_
      refine aw_iload_n dX11_node_20 rfl ?_
      refine aw_invV_r dX11_node_21 vX10_tell kX11_123 rfl (c_tell (γ := γ) hT (by omega) n40 (by omega)) ⟨_, (by assumption), _, _, rfl⟩ rfl rfl (by decide) (by decide) (by decide) (Nat.le_of_ble_eq_true rfl) ?_
      exact aw_ireturn dX11_node_24 rfl (Or.inr hn) (rC_ok hC eqO.rf)
    · rw [if_pos (fun z => d2 ⟨z.1, by omega⟩)]
      refine Call.of (ls := [(0, vr (some c)), (1, vi v), (2, vi x)]) vX11_node.1 (Nat.le_of_ble_eq_true rfl) rfl ?_
      refine aw_aload_n dX11_node_0 rfl ?_
      refine aw_iload_n dX11_node_1 rfl ?_
      refine aw_invV_n dX11_node_2 vX11_requireNode kX11_66 rfl (c_rNode (γ := γ) hC hv c1) ⟨_, (by assumption), _, _, rfl⟩ rfl rfl (by decide) (by decide) (by decide) (Nat.le_of_ble_eq_true rfl) ?_
      refine aw_aload_n dX11_node_5 rfl ?_
      refine aw_iload_n dX11_node_6 rfl ?_
      refine aw_bipush dX11_node_7 rfl ?_
      exact aw_invV_x dX11_node_9 vX11_requireBelow kX11_69 rfl (c_rBelow_x (γ := γ) (b := 6) hx (by omega) hn d2) ⟨_, (by assumption), _, _, rfl⟩ rfl rfl (by decide) (by decide) (by decide) (Nat.le_of_ble_eq_true rfl) (rC_err hC (by decide) rfl)
  · rw [if_pos c1]
    refine Call.of (ls := [(0, vr (some c)), (1, vi v), (2, vi x)]) vX11_node.1 (Nat.le_of_ble_eq_true rfl) rfl ?_
    refine aw_aload_n dX11_node_0 rfl ?_
    refine aw_iload_n dX11_node_1 rfl ?_
    exact aw_invV_x dX11_node_2 vX11_requireNode kX11_66 rfl (c_rNode_x (γ := γ) hC hv hn c1) ⟨_, (by assumption), _, _, rfl⟩ rfl rfl (by decide) (by decide) (by decide) (Nat.le_of_ble_eq_true rfl) (rC_err hC (by decide) rfl)
theorem c_axis {γ : GG} {h : AH} {c : Nat} {F : FS} {v x i : Int} (hC : isCl h c F) (hn : nx h = none) (hv : (-2147483648 ≤ v ∧ v ≤ 2147483647)) (hx : (-2147483648 ≤ x ∧ x ≤ 2147483647)) (hi : (-2147483648 ≤ i ∧ i ≤ 2147483647)) : Call γ mX11_axis 7 1 6 [vr (some c), vi v, vi x, vi i] h (rC9 h c [xnIO, xnIA] (opAxi F v x i)) := by
  obtain ⟨S, U, tx⟩ := F
  obtain ⟨T, qs⟩ := S
  have hC : isCl h c ((T, qs), U, tx) := hC
  obtain ⟨hkc, r0, r1, r2, r3, r4, r5, r6, r7, r8, hks, s0, s1, hkq, hkt⟩ := cl_f hC
  have hT : isTr h (c + 1 + 1) T := hC.2.1.2.1
  have oT : okTr T := hC.2.2.2.2.2.1.1
  have o9 := oT.o
  have n40 := o9.2.1
  have n1 := o9.1
  have gt0 : gi h (c + 1 + 1) 0 = (tn T : Int) := hT.2.1
  unfold opAxi
  dsimp only
  by_cases c1 : 0 ≤ v ∧ v < (tn T : Int)
  · rw [if_neg (fun z => z c1)]
    by_cases d2 : 0 ≤ x ∧ x < 10
    · by_cases d3 : 0 ≤ i
      · rw [if_neg (fun z => z ⟨⟨by omega, by omega⟩, d3⟩)]
        obtain ⟨u, rfl⟩ := Int.eq_ofNat_of_zero_le c1.1
        obtain ⟨y, rfl⟩ := Int.eq_ofNat_of_zero_le d2.1
        obtain ⟨j, rfl⟩ := Int.eq_ofNat_of_zero_le d3
        rw [Int.toNat_natCast]
        have hu : u < tn T := by omega
        have ll := lsA_len (T := T) (v := u) (ax := y) oT hu (by omega)
        have l40 := al_40 (T := T) (v := u) (ax := y) oT hu (by omega)
        have lle := fb_ct_le (alS T (y : Int) u) (tn T)
        have erv := lsA_rv (T := T) (ax := (y : Int)) (v := u) (by omega)
        have KI := c_isReverse (γ := γ) (h := h) (ax := (y : Int)) (by omega)
        have bT : bI true = 1 := rfl
        have bF : bI false = 0 := rfl
        unfold atL
        rw [Int.toNat_natCast]
        by_cases d4 : j < (lsA T (y : Int) u).length
        · obtain ⟨z, hz⟩ : ∃ z, (lsA T (y : Int) u)[j]? = some z := ⟨_, List.getElem?_eq_getElem d4⟩
          rw [hz]
          dsimp only
          rw [erv] at hz
          obtain ⟨z1, z2, z3⟩ := orL_at hz
          have KP := c_position (γ := γ) (h := h) (f := fun k => decide (k = z)) (i := z) ⟨by omega, decide_eq_true rfl, fun k hk => decide_eq_false (by omega)⟩
          cases q : rvA (y : Int) with
          | true =>
            rw [q] at KI z3
            rw [if_pos rfl] at z3
            have ei : ((lsA T (y : Int) u).length : Int) - 1 - (j : Int) = (((lsA T (y : Int) u).length - 1 - j : Nat) : Int) := by omega
            refine Call.of (ls := [(0, vr (some c)), (1, vi (u : Int)), (2, vi (y : Int)), (3, vi (j : Int))]) vX11_axis.1 (Nat.le_of_ble_eq_true rfl) rfl ?_
            refine aw_aload_n dX11_axis_0 rfl ?_
            refine aw_iload_n dX11_axis_1 rfl ?_
            refine aw_invV_n dX11_axis_2 vX11_requireNode kX11_66 rfl (c_rNode (γ := γ) hC hv c1) ⟨_, (by assumption), _, _, rfl⟩ rfl rfl (by decide) (by decide) (by decide) (Nat.le_of_ble_eq_true rfl) ?_
            refine aw_aload_n dX11_axis_5 rfl ?_
            refine aw_iload_n dX11_axis_6 rfl ?_
            refine aw_bipush dX11_axis_7 rfl ?_
            refine aw_invV_n dX11_axis_9 vX11_requireBelow kX11_69 rfl (c_rBelow (γ := γ) (b := 10) hx (by omega) d2) ⟨_, (by assumption), _, _, rfl⟩ rfl rfl (by decide) (by decide) (by decide) (Nat.le_of_ble_eq_true rfl) ?_
            refine aw_aload_n dX11_axis_12 rfl ?_
            refine aw_iload_n dX11_axis_13 rfl ?_
            refine aw_invV_n dX11_axis_14 vX11_requireNotNegative kX11_126 rfl (c_rNotNeg (γ := γ) (h := h) hi d3) ⟨_, (by assumption), _, _, rfl⟩ rfl rfl (by decide) (by decide) (by decide) (Nat.le_of_ble_eq_true rfl) ?_
            refine aw_aload_n dX11_axis_17 rfl ?_
            refine aw_getr' (j := 0) dX11_axis_18 fX11_12 rfl (by assumption) rfl (by assumption) ?_
            refine aw_getr' (j := 0) dX11_axis_21 fX11_73 rfl (by assumption) rfl (by assumption) ?_
            refine aw_iload_n dX11_axis_24 rfl ?_
            refine aw_iload_n dX11_axis_25 rfl ?_
            refine aw_invV_r dX11_axis_26 vX10_along kX11_129 rfl (c_along (γ := γ) hT oT hu (by omega)) ⟨_, (by assumption), _, _, rfl⟩ rfl rfl (by decide) (by decide) (by decide) (Nat.le_of_ble_eq_true rfl) ?_
            refine aw_lstore (ls1 := [(4, _), (0, _), (1, _), (2, _), (3, _)]) dX11_axis_29 (by decide) rfl ?_
            refine aw_lload dX11_axis_31 rfl ?_
            refine aw_invS_r dX11_axis_33 sJ13_bitCount_95d88 kX11_133 rfl (c_bcS (γ := γ) (alS T (y : Int) u)) rfl rfl (by decide) (by decide) (by decide) (Nat.le_of_ble_eq_true rfl) ?_
            rw [← ll]
            refine aw_istore (ls1 := [(6, _), (4, _), (0, _), (1, _), (2, _), (3, _)]) dX11_axis_36 (by decide) rfl ?_
            refine aw_iload_n dX11_axis_38 rfl ?_
            refine aw_iload dX11_axis_39 rfl ?_
            refine aw_ic_lt (tgt := 46) dX11_axis_41 rfl (by omega) (by omega) (fun c41 => ?_) (fun c41 => ?_)
            · refine aw_lload dX11_axis_46 rfl ?_
              refine aw_iload_n dX11_axis_48 rfl ?_
              refine aw_invS_r dX11_axis_49 sX10_isReverse kX11_139 rfl (KI) rfl rfl (by decide) (by decide) (by decide) (Nat.le_of_ble_eq_true rfl) ?_
              refine aw_if_eq (tgt := 64) dX11_axis_52 rfl (by omega) (fun c52 => ?_) (fun c52 => ?_)
              · exact absurd c52 (by omega)
              · refine aw_iload dX11_axis_55 rfl ?_
                refine aw_iconst dX11_axis_57 ?_
                refine aw_isub dX11_axis_58 ?_
                refine aw_iload_n dX11_axis_59 rfl ?_
                refine aw_isub dX11_axis_60 ?_
                rw [ei]
                refine aw_goto (tgt := 65) dX11_axis_61 rfl ?_
                refine aw_invS_r dX11_axis_65 sX10_nth kX11_143 rfl (c_nth (γ := γ) (f := alS T (y : Int) u) (x := z) (i := (lsA T (y : Int) u).length - 1 - j) (by omega) z2 (by omega)) rfl rfl (by decide) (by decide) (by decide) (Nat.le_of_ble_eq_true rfl) ?_
                refine aw_invS_r dX11_axis_68 sX10_position kX11_147 rfl (KP) rfl rfl (by decide) (by decide) (by decide) (Nat.le_of_ble_eq_true rfl) ?_
                exact aw_ireturn dX11_axis_71 rfl (Or.inr hn) (rC_ok hC eqO.rf)
            · exact absurd c41 (by omega)
          | false =>
            rw [q] at KI z3
            rw [if_neg (by decide)] at z3
            refine Call.of (ls := [(0, vr (some c)), (1, vi (u : Int)), (2, vi (y : Int)), (3, vi (j : Int))]) vX11_axis.1 (Nat.le_of_ble_eq_true rfl) rfl ?_
            refine aw_aload_n dX11_axis_0 rfl ?_
            refine aw_iload_n dX11_axis_1 rfl ?_
            refine aw_invV_n dX11_axis_2 vX11_requireNode kX11_66 rfl (c_rNode (γ := γ) hC hv c1) ⟨_, (by assumption), _, _, rfl⟩ rfl rfl (by decide) (by decide) (by decide) (Nat.le_of_ble_eq_true rfl) ?_
            refine aw_aload_n dX11_axis_5 rfl ?_
            refine aw_iload_n dX11_axis_6 rfl ?_
            refine aw_bipush dX11_axis_7 rfl ?_
            refine aw_invV_n dX11_axis_9 vX11_requireBelow kX11_69 rfl (c_rBelow (γ := γ) (b := 10) hx (by omega) d2) ⟨_, (by assumption), _, _, rfl⟩ rfl rfl (by decide) (by decide) (by decide) (Nat.le_of_ble_eq_true rfl) ?_
            refine aw_aload_n dX11_axis_12 rfl ?_
            refine aw_iload_n dX11_axis_13 rfl ?_
            refine aw_invV_n dX11_axis_14 vX11_requireNotNegative kX11_126 rfl (c_rNotNeg (γ := γ) (h := h) hi d3) ⟨_, (by assumption), _, _, rfl⟩ rfl rfl (by decide) (by decide) (by decide) (Nat.le_of_ble_eq_true rfl) ?_
            refine aw_aload_n dX11_axis_17 rfl ?_
            refine aw_getr' (j := 0) dX11_axis_18 fX11_12 rfl (by assumption) rfl (by assumption) ?_
            refine aw_getr' (j := 0) dX11_axis_21 fX11_73 rfl (by assumption) rfl (by assumption) ?_
            refine aw_iload_n dX11_axis_24 rfl ?_
            refine aw_iload_n dX11_axis_25 rfl ?_
            refine aw_invV_r dX11_axis_26 vX10_along kX11_129 rfl (c_along (γ := γ) hT oT hu (by omega)) ⟨_, (by assumption), _, _, rfl⟩ rfl rfl (by decide) (by decide) (by decide) (Nat.le_of_ble_eq_true rfl) ?_
            refine aw_lstore (ls1 := [(4, _), (0, _), (1, _), (2, _), (3, _)]) dX11_axis_29 (by decide) rfl ?_
            refine aw_lload dX11_axis_31 rfl ?_
            refine aw_invS_r dX11_axis_33 sJ13_bitCount_95d88 kX11_133 rfl (c_bcS (γ := γ) (alS T (y : Int) u)) rfl rfl (by decide) (by decide) (by decide) (Nat.le_of_ble_eq_true rfl) ?_
            rw [← ll]
            refine aw_istore (ls1 := [(6, _), (4, _), (0, _), (1, _), (2, _), (3, _)]) dX11_axis_36 (by decide) rfl ?_
            refine aw_iload_n dX11_axis_38 rfl ?_
            refine aw_iload dX11_axis_39 rfl ?_
            refine aw_ic_lt (tgt := 46) dX11_axis_41 rfl (by omega) (by omega) (fun c41 => ?_) (fun c41 => ?_)
            · refine aw_lload dX11_axis_46 rfl ?_
              refine aw_iload_n dX11_axis_48 rfl ?_
              refine aw_invS_r dX11_axis_49 sX10_isReverse kX11_139 rfl (KI) rfl rfl (by decide) (by decide) (by decide) (Nat.le_of_ble_eq_true rfl) ?_
              refine aw_if_eq (tgt := 64) dX11_axis_52 rfl (by omega) (fun c52 => ?_) (fun c52 => ?_)
              · refine aw_iload_n dX11_axis_64 rfl ?_
                refine aw_invS_r dX11_axis_65 sX10_nth kX11_143 rfl (c_nth (γ := γ) (f := alS T (y : Int) u) (x := z) (i := j) (by omega) z2 (by omega)) rfl rfl (by decide) (by decide) (by decide) (Nat.le_of_ble_eq_true rfl) ?_
                refine aw_invS_r dX11_axis_68 sX10_position kX11_147 rfl (KP) rfl rfl (by decide) (by decide) (by decide) (Nat.le_of_ble_eq_true rfl) ?_
                exact aw_ireturn dX11_axis_71 rfl (Or.inr hn) (rC_ok hC eqO.rf)
              · exact absurd c52 (by omega)
            · exact absurd c41 (by omega)
        · rw [List.getElem?_eq_none (by omega)]
          dsimp only
          refine Call.of (ls := [(0, vr (some c)), (1, vi (u : Int)), (2, vi (y : Int)), (3, vi (j : Int))]) vX11_axis.1 (Nat.le_of_ble_eq_true rfl) rfl ?_
          refine aw_aload_n dX11_axis_0 rfl ?_
          refine aw_iload_n dX11_axis_1 rfl ?_
          refine aw_invV_n dX11_axis_2 vX11_requireNode kX11_66 rfl (c_rNode (γ := γ) hC hv c1) ⟨_, (by assumption), _, _, rfl⟩ rfl rfl (by decide) (by decide) (by decide) (Nat.le_of_ble_eq_true rfl) ?_
          refine aw_aload_n dX11_axis_5 rfl ?_
          refine aw_iload_n dX11_axis_6 rfl ?_
          refine aw_bipush dX11_axis_7 rfl ?_
          refine aw_invV_n dX11_axis_9 vX11_requireBelow kX11_69 rfl (c_rBelow (γ := γ) (b := 10) hx (by omega) d2) ⟨_, (by assumption), _, _, rfl⟩ rfl rfl (by decide) (by decide) (by decide) (Nat.le_of_ble_eq_true rfl) ?_
          refine aw_aload_n dX11_axis_12 rfl ?_
          refine aw_iload_n dX11_axis_13 rfl ?_
          refine aw_invV_n dX11_axis_14 vX11_requireNotNegative kX11_126 rfl (c_rNotNeg (γ := γ) (h := h) hi d3) ⟨_, (by assumption), _, _, rfl⟩ rfl rfl (by decide) (by decide) (by decide) (Nat.le_of_ble_eq_true rfl) ?_
          refine aw_aload_n dX11_axis_17 rfl ?_
          refine aw_getr' (j := 0) dX11_axis_18 fX11_12 rfl (by assumption) rfl (by assumption) ?_
          refine aw_getr' (j := 0) dX11_axis_21 fX11_73 rfl (by assumption) rfl (by assumption) ?_
          refine aw_iload_n dX11_axis_24 rfl ?_
          refine aw_iload_n dX11_axis_25 rfl ?_
          refine aw_invV_r dX11_axis_26 vX10_along kX11_129 rfl (c_along (γ := γ) hT oT hu (by omega)) ⟨_, (by assumption), _, _, rfl⟩ rfl rfl (by decide) (by decide) (by decide) (Nat.le_of_ble_eq_true rfl) ?_
          refine aw_lstore (ls1 := [(4, _), (0, _), (1, _), (2, _), (3, _)]) dX11_axis_29 (by decide) rfl ?_
          refine aw_lload dX11_axis_31 rfl ?_
          refine aw_invS_r dX11_axis_33 sJ13_bitCount_95d88 kX11_133 rfl (c_bcS (γ := γ) (alS T (y : Int) u)) rfl rfl (by decide) (by decide) (by decide) (Nat.le_of_ble_eq_true rfl) ?_
          rw [← ll]
          refine aw_istore (ls1 := [(6, _), (4, _), (0, _), (1, _), (2, _), (3, _)]) dX11_axis_36 (by decide) rfl ?_
          refine aw_iload_n dX11_axis_38 rfl ?_
          refine aw_iload dX11_axis_39 rfl ?_
          refine aw_ic_lt (tgt := 46) dX11_axis_41 rfl (by omega) (by omega) (fun c41 => ?_) (fun c41 => ?_)
          · exact absurd c41 (by omega)
          · refine aw_iconst dX11_axis_44 ?_
            exact aw_ireturn dX11_axis_45 rfl (Or.inr hn) (rC_ok hC eqO.rf)
      · rw [if_pos (fun z => d3 z.2)]
        refine Call.of (ls := [(0, vr (some c)), (1, vi v), (2, vi x), (3, vi i)]) vX11_axis.1 (Nat.le_of_ble_eq_true rfl) rfl ?_
        refine aw_aload_n dX11_axis_0 rfl ?_
        refine aw_iload_n dX11_axis_1 rfl ?_
        refine aw_invV_n dX11_axis_2 vX11_requireNode kX11_66 rfl (c_rNode (γ := γ) hC hv c1) ⟨_, (by assumption), _, _, rfl⟩ rfl rfl (by decide) (by decide) (by decide) (Nat.le_of_ble_eq_true rfl) ?_
        refine aw_aload_n dX11_axis_5 rfl ?_
        refine aw_iload_n dX11_axis_6 rfl ?_
        refine aw_bipush dX11_axis_7 rfl ?_
        refine aw_invV_n dX11_axis_9 vX11_requireBelow kX11_69 rfl (c_rBelow (γ := γ) (b := 10) hx (by omega) d2) ⟨_, (by assumption), _, _, rfl⟩ rfl rfl (by decide) (by decide) (by decide) (Nat.le_of_ble_eq_true rfl) ?_
        refine aw_aload_n dX11_axis_12 rfl ?_
        refine aw_iload_n dX11_axis_13 rfl ?_
        exact aw_invV_x dX11_axis_14 vX11_requireNotNegative kX11_126 rfl (c_rNotNeg_x (γ := γ) (h := h) hi hn d3) ⟨_, (by assumption), _, _, rfl⟩ rfl rfl (by decide) (by decide) (by decide) (Nat.le_of_ble_eq_true rfl) (rC_err hC (by decide) rfl)
    · rw [if_pos (fun z => d2 ⟨z.1.1, by omega⟩)]
      refine Call.of (ls := [(0, vr (some c)), (1, vi v), (2, vi x), (3, vi i)]) vX11_axis.1 (Nat.le_of_ble_eq_true rfl) rfl ?_
      refine aw_aload_n dX11_axis_0 rfl ?_
      refine aw_iload_n dX11_axis_1 rfl ?_
      refine aw_invV_n dX11_axis_2 vX11_requireNode kX11_66 rfl (c_rNode (γ := γ) hC hv c1) ⟨_, (by assumption), _, _, rfl⟩ rfl rfl (by decide) (by decide) (by decide) (Nat.le_of_ble_eq_true rfl) ?_
      refine aw_aload_n dX11_axis_5 rfl ?_
      refine aw_iload_n dX11_axis_6 rfl ?_
      refine aw_bipush dX11_axis_7 rfl ?_
      exact aw_invV_x dX11_axis_9 vX11_requireBelow kX11_69 rfl (c_rBelow_x (γ := γ) (b := 10) hx (by omega) hn d2) ⟨_, (by assumption), _, _, rfl⟩ rfl rfl (by decide) (by decide) (by decide) (Nat.le_of_ble_eq_true rfl) (rC_err hC (by decide) rfl)
  · rw [if_pos c1]
    refine Call.of (ls := [(0, vr (some c)), (1, vi v), (2, vi x), (3, vi i)]) vX11_axis.1 (Nat.le_of_ble_eq_true rfl) rfl ?_
    refine aw_aload_n dX11_axis_0 rfl ?_
    refine aw_iload_n dX11_axis_1 rfl ?_
    exact aw_invV_x dX11_axis_2 vX11_requireNode kX11_66 rfl (c_rNode_x (γ := γ) hC hv hn c1) ⟨_, (by assumption), _, _, rfl⟩ rfl rfl (by decide) (by decide) (by decide) (Nat.le_of_ble_eq_true rfl) (rC_err hC (by decide) rfl)
theorem c_type {γ : GG} {h : AH} {c : Nat} {F : FS} {x : Int} (hC : isCl h c F) (hn : nx h = none) (hx : (-2147483648 ≤ x ∧ x ≤ 2147483647)) : Call γ mX11_type 7 1 6 [vr (some c), vi x] h (rC9 h c [xnIA, xnIS] (opTyp F x)) := by
  obtain ⟨S, U, tx⟩ := F
  obtain ⟨T, qs⟩ := S
  have hC : isCl h c ((T, qs), U, tx) := hC
  obtain ⟨hkc, r0, r1, r2, r3, r4, r5, r6, r7, r8, hks, s0, s1, hkq, hkt⟩ := cl_f hC
  have hT : isTr h (c + 1 + 1) T := hC.2.1.2.1
  have oT : okTr T := hC.2.2.2.2.2.1.1
  have o9 := oT.o
  have n40 := o9.2.1
  have n1 := o9.1
  have gt0 : gi h (c + 1 + 1) 0 = (tn T : Int) := hT.2.1
  unfold opTyp
  dsimp only
  have hX : isTt h (c + 1543) tx := hC.2.2.2.1
  obtain ⟨hXt, gx1, gx2⟩ := hX
  have hkx := hXt.1
  have l80 : tx.length ≤ 80 := hC.2.2.2.2.2.2.2.2.1
  have t128 : ∀ x ∈ tx, x < 128 := hC.2.2.2.2.2.2.2.2.2
  by_cases c1 : 0 ≤ x ∧ x < 128
  · rw [if_neg (fun z => z ⟨by omega, by omega⟩)]
    by_cases d2 : tx.length = 80
    · rw [if_pos d2]
      refine Call.of (ls := [(0, vr (some c)), (1, vi x)]) vX11_type.1 (Nat.le_of_ble_eq_true rfl) rfl ?_
      refine aw_aload_n dX11_type_0 rfl ?_
      refine aw_iload_n dX11_type_1 rfl ?_
      refine aw_sipush dX11_type_2 rfl ?_
      refine aw_invV_n dX11_type_5 vX11_requireBelow kX11_69 rfl (c_rBelow (γ := γ) (b := 128) hx (by omega) c1) ⟨_, (by assumption), _, _, rfl⟩ rfl rfl (by decide) (by decide) (by decide) (Nat.le_of_ble_eq_true rfl) ?_
      refine aw_aload_n dX11_type_8 rfl ?_
      refine aw_getr' (j := 2) dX11_type_9 fX11_28 rfl (by assumption) rfl (by assumption) ?_
      refine aw_geti' (j := 1) dX11_type_12 fX11_150 rfl (by assumption) rfl gx1 ?_
      refine aw_bipush dX11_type_15 rfl ?_
      refine aw_ic_lt (tgt := 30) dX11_type_17 rfl (by omega) (by omega) (fun c17 => ?_) (fun c17 => ?_)
      · exact absurd c17 (by omega)
      · exact aw_throw (twIS 151) rfl (List.mem_of_getElem? (i := 6) rfl) rfl dX11_type_20 dX11_type_23 dX11_type_24 dX11_type_26 dX11_type_29 (by decide) (Nat.le_of_ble_eq_true rfl) (by decide) (by decide) hn (rC_err hC (by decide) rfl)
    · rw [if_neg d2]
      obtain ⟨u, rfl⟩ := Int.eq_ofNat_of_zero_le c1.1
      rw [Int.toNat_natCast]
      have KP := c_put (γ := γ) (c := (u : Int)) hXt (by decide) (by omega) (by omega)
      have E1 : eqO h (tput (c + 1543) h (u : Int)) (c + 1543) (c + 1545) := ⟨rfl, fun b hb => eqA_tput (by omega)⟩
      have g1 : gi (tput (c + 1543) h (u : Int)) (c + 1543) 1 = (tx.length : Int) + 1 := by rw [gi_tput_len, gx1]
      have C1 : isCl (tput (c + 1543) h (u : Int)) c ((T, qs), U, tx ++ [u]) := by
        refine hC.tx E1 ⟨hXt, by rw [g1, List.length_append, List.length_singleton]; omega, fun k x hk => ?_⟩ (by rw [List.length_append, List.length_singleton]; omega) (fun x hx => ?_)
        · unfold tput
          rcases get_snoc9 hk with ⟨z1, z2⟩ | ⟨z1, z2⟩
          · exact (gi_ne (Or.inl (by omega))).trans ((gi_ne (Or.inr (by omega))).trans (gx2 k x z2))
          · subst z2
            exact (gi_ne (Or.inl (by omega))).trans (gi_at rfl (by omega))
        · rw [List.mem_append, List.mem_singleton] at hx
          rcases hx with hx | hx
          · exact t128 x hx
          · omega
      have hkx1 : kd (tput (c + 1543) h (u : Int)) (c + 1543) = some (.inl 8) := hkx
      obtain ⟨hkc', -, -, r2', -⟩ := cl_f C1
      refine Call.of (ls := [(0, vr (some c)), (1, vi (u : Int))]) vX11_type.1 (Nat.le_of_ble_eq_true rfl) rfl ?_
      refine aw_aload_n dX11_type_0 rfl ?_
      refine aw_iload_n dX11_type_1 rfl ?_
      refine aw_sipush dX11_type_2 rfl ?_
      refine aw_invV_n dX11_type_5 vX11_requireBelow kX11_69 rfl (c_rBelow (γ := γ) (b := 128) hx (by omega) c1) ⟨_, (by assumption), _, _, rfl⟩ rfl rfl (by decide) (by decide) (by decide) (Nat.le_of_ble_eq_true rfl) ?_
      refine aw_aload_n dX11_type_8 rfl ?_
      refine aw_getr' (j := 2) dX11_type_9 fX11_28 rfl (by assumption) rfl (by assumption) ?_
      refine aw_geti' (j := 1) dX11_type_12 fX11_150 rfl (by assumption) rfl gx1 ?_
      refine aw_bipush dX11_type_15 rfl ?_
      refine aw_ic_lt (tgt := 30) dX11_type_17 rfl (by omega) (by omega) (fun c17 => ?_) (fun c17 => ?_)
      · refine aw_aload_n dX11_type_30 rfl ?_
        refine aw_getr' (j := 2) dX11_type_31 fX11_28 rfl (by assumption) rfl (by assumption) ?_
        refine aw_iload_n dX11_type_34 rfl ?_
        refine aw_invV_n dX11_type_35 vX9_put kX11_153 rfl (KP) ⟨_, (by assumption), _, _, rfl⟩ rfl rfl (by decide) (by decide) (by decide) (Nat.le_of_ble_eq_true rfl) ?_
        refine aw_aload_n dX11_type_38 rfl ?_
        refine aw_getr' (j := 2) dX11_type_39 fX11_28 rfl (by assumption) rfl (by assumption) ?_
        refine aw_geti' (j := 1) dX11_type_42 fX11_150 rfl (by assumption) rfl g1 ?_
        exact aw_ireturn dX11_type_45 rfl (Or.inr (E1.1.trans hn)) (rC_ok C1 (E1.mono (by omega) (by omega)))
      · exact absurd c17 (by omega)
  · rw [if_pos (fun z => c1 ⟨z.1, by omega⟩)]
    refine Call.of (ls := [(0, vr (some c)), (1, vi x)]) vX11_type.1 (Nat.le_of_ble_eq_true rfl) rfl ?_
    refine aw_aload_n dX11_type_0 rfl ?_
    refine aw_iload_n dX11_type_1 rfl ?_
    refine aw_sipush dX11_type_2 rfl ?_
    exact aw_invV_x dX11_type_5 vX11_requireBelow kX11_69 rfl (c_rBelow_x (γ := γ) (b := 128) hx (by omega) hn c1) ⟨_, (by assumption), _, _, rfl⟩ rfl rfl (by decide) (by decide) (by decide) (Nat.le_of_ble_eq_true rfl) (rC_err hC (by decide) rfl)
theorem c_clearText {γ : GG} {h : AH} {c : Nat} {F : FS} (hC : isCl h c F) : Call γ mX11_clearText 0 0 0 [vr (some c)] h (rC9 h c [] (opClr F)) := by
  obtain ⟨S, U, tx⟩ := F
  obtain ⟨T, qs⟩ := S
  have hC : isCl h c ((T, qs), U, tx) := hC
  obtain ⟨hkc, r0, r1, r2, r3, r4, r5, r6, r7, r8, hks, s0, s1, hkq, hkt⟩ := cl_f hC
  have hT : isTr h (c + 1 + 1) T := hC.2.1.2.1
  have oT : okTr T := hC.2.2.2.2.2.1.1
  have o9 := oT.o
  have n40 := o9.2.1
  have n1 := o9.1
  have gt0 : gi h (c + 1 + 1) 0 = (tn T : Int) := hT.2.1
  have hX : isTt h (c + 1543) tx := hC.2.2.2.1
  obtain ⟨hXt, gx1, gx2⟩ := hX
  have hkx := hXt.1
  have l80 : tx.length ≤ 80 := hC.2.2.2.2.2.2.2.2.1
  have t128 : ∀ x ∈ tx, x < 128 := hC.2.2.2.2.2.2.2.2.2
  have E1 : eqO h (si h (c + 1543) 1 0) (c + 1543) (c + 1545) := eqO.si (by omega) (by omega)
  have C1 : isCl (si h (c + 1543) 1 0) c ((T, qs), U, []) := hC.tx E1 ⟨hXt, gi_at rfl rfl, fun k x hk => by simp at hk⟩ (Nat.zero_le _) (fun x hx => by cases hx)
  refine Call.of (ls := [(0, vr (some c))]) vX11_clearText.1 (Nat.le_of_ble_eq_true rfl) rfl ?_
  refine aw_aload_n dX11_clearText_0 rfl ?_
  refine aw_getr' (j := 2) dX11_clearText_1 fX11_28 rfl (by assumption) rfl (by assumption) ?_
  refine aw_geti' (j := 1) dX11_clearText_4 fX11_150 rfl (by assumption) rfl gx1 ?_
  refine aw_istore_n (ls1 := [(1, _), (0, _)]) dX11_clearText_7 (by decide) rfl ?_
  refine aw_aload_n dX11_clearText_8 rfl ?_
  refine aw_getr' (j := 2) dX11_clearText_9 fX11_28 rfl (by assumption) rfl (by assumption) ?_
  refine aw_iconst dX11_clearText_12 ?_
  refine aw_puti' (j := 1) rfl dX11_clearText_13 fX11_150 (by assumption) rfl ?_
  refine aw_iload_n dX11_clearText_16 rfl ?_
  exact aw_ireturn dX11_clearText_17 rfl (Or.inl rfl) (rC_ok C1 (E1.mono (by omega) (by omega)))
/-- a query written into the class's writing text -/
def wrH (c : Nat) (h : AH) (q : TQ) : AH := tputs (c + 1545) (si h (c + 1545) 1 0) (wQry q)
theorem wrH_e (c : Nat) (h : AH) (q : TQ) : eqO h (wrH c h q) (c + 1545) (c + 1545 + 2) := (eqO.si (by omega) (by omega)).tr (eqO_tputs _ _ _)
theorem wrH_cl {c : Nat} {h : AH} {q : TQ} {F : FS} (hC : isCl h c F) : isCl (wrH c h q) c F := by
  obtain ⟨h1, h2, h3, h4, h5, h6⟩ := hC.2.2.2.2.1
  have e := wrH_e c h q
  have h2' := h2
  obtain ⟨π, ρ, h2⟩ := h2
  obtain ⟨π2, ρ2, h3⟩ := h3
  exact hC.wk (fun b b1 b2 => e.2 b (by omega)) ⟨isTx_tputs _ _ h1, ⟨π, ρ, h2.eq (fun b b1 b2 => e.2 b (by omega))⟩, ⟨π2, ρ2, shZ_eq h3 (fun b b1 b2 => e.2 b (by omega))⟩, h4.eq (fun b b1 b2 => e.2 b (by omega)), shE_eq h5 (fun b b1 b2 => e.2 b (by omega)), shE_eq h6 (fun b b1 b2 => e.2 b (by omega))⟩
theorem wrH_n (c : Nat) (h : AH) (q : TQ) : gi (wrH c h q) (c + 1545) 1 = (wQry q).length := by
  unfold wrH
  rw [gi_tputs_len, gi_at rfl rfl]
  omega
theorem wrH_at {c : Nat} {h : AH} {q : TQ} {k : Nat} {x : Int} (hk : (wQry q)[k]? = some x) : gi (wrH c h q) (c + 1545 + 1) k = x := by
  unfold wrH
  rw [gi_tputs, gi_at rfl rfl, if_pos ⟨by omega, by have := lt_of_get hk; omega⟩, Int.sub_zero, Int.toNat_natCast, List.getD_eq_getElem?_getD, hk]
  rfl
theorem c_wr {γ : GG} {h : AH} {c b : Nat} {π : Nat → Nat} {ρ : Nat → Nat → Nat} {q : TQ} {F : FS} (hC : isCl h c F) (hQ : isQ h b π ρ q) (ho : okQ q) (hw : lnQ q) (hb : b + 74 ≤ c + 1545 ∨ c + 1547 ≤ b) : Call γ mX5_writeTo 7 0 0 [vr (some b), vr (some (c + 1545))] h (rN (wrH c h q)) := c_qwr hQ ho hC.2.2.2.2.1.1 (by decide) (by omega) (by have := wQry_le ho hw; omega)
theorem c_written {γ : GG} {h : AH} {c : Nat} {F : FS} {p i : Int} (hC : isCl h c F) (hn : nx h = none) (hp : (-2147483648 ≤ p ∧ p ≤ 2147483647)) (hi : (-2147483648 ≤ i ∧ i ≤ 2147483647)) : Call γ mX11_written 8 1 6 [vr (some c), vi p, vi i] h (rC9 h c [xnIO, xnIA, xnIS] (opWri F p i)) := by
  obtain ⟨S, U, tx⟩ := F
  obtain ⟨T, qs⟩ := S
  have hC : isCl h c ((T, qs), U, tx) := hC
  obtain ⟨hkc, r0, r1, r2, r3, r4, r5, r6, r7, r8, hks, s0, s1, hkq, hkt⟩ := cl_f hC
  have hT : isTr h (c + 1 + 1) T := hC.2.1.2.1
  have oT : okTr T := hC.2.2.2.2.2.1.1
  have o9 := oT.o
  have n40 := o9.2.1
  have n1 := o9.1
  have gt0 : gi h (c + 1 + 1) 0 = (tn T : Int) := hT.2.1
  unfold opWri
  dsimp only
  by_cases c1 : 0 ≤ p ∧ p ≤ 3
  · rw [if_neg (fun z => z c1)]
    by_cases d2 : 0 ≤ i
    · rw [if_neg (by omega)]
      obtain ⟨u, rfl⟩ := Int.eq_ofNat_of_zero_le c1.1
      obtain ⟨y, rfl⟩ := Int.eq_ofNat_of_zero_le d2
      rw [Int.toNat_natCast]
      have hu : u < 4 := by omega
      obtain ⟨rq, π, ρ, hQ⟩ := cl_q hC hu
      have hQ : isQ h (c + 1 + 12 + 74 * u) π ρ (qs u) := hQ
      have oq : okQ (qs u) ∧ lnQ (qs u) := hC.2.2.2.2.2.1.2 u hu
      have hkq9 := hQ.1.1
      by_cases d3 : qs u = []
      · rw [if_pos d3]
        refine Call.of (ls := [(0, vr (some c)), (1, vi (u : Int)), (2, vi (y : Int))]) vX11_written.1 (Nat.le_of_ble_eq_true rfl) rfl ?_
        refine aw_aload_n dX11_written_0 rfl ?_
        refine aw_iload_n dX11_written_1 rfl ?_
        refine aw_invV_n dX11_written_2 vX11_requirePlace kX11_156 rfl (c_rPlace (γ := γ) (h := h) hp c1) ⟨_, (by assumption), _, _, rfl⟩ rfl rfl (by decide) (by decide) (by decide) (Nat.le_of_ble_eq_true rfl) ?_
        refine aw_aload_n dX11_written_5 rfl ?_
        refine aw_iload_n dX11_written_6 rfl ?_
        refine aw_invV_n dX11_written_7 vX11_requireNotNegative kX11_126 rfl (c_rNotNeg (γ := γ) (h := h) hi d2) ⟨_, (by assumption), _, _, rfl⟩ rfl rfl (by decide) (by decide) (by decide) (Nat.le_of_ble_eq_true rfl) ?_
        refine aw_aload_n dX11_written_10 rfl ?_
        refine aw_iload_n dX11_written_11 rfl ?_
        exact aw_invV_x dX11_written_12 vX11_requireQuery kX11_175 rfl (c_rQuery_x (γ := γ) hC hu hn (fun z => z d3)) ⟨_, (by assumption), _, _, rfl⟩ rfl rfl (by decide) (by decide) (by decide) (Nat.le_of_ble_eq_true rfl) (rC_err hC (by decide) rfl)
      · rw [if_neg d3]
        have C1 := wrH_cl (q := qs u) hC
        have E1 := wrH_e c h (qs u)
        have g1 := wrH_n c h (qs u)
        have bw := wQry_le oq.1 oq.2
        obtain ⟨hkc', -, -, -, r3', -⟩ := cl_f C1
        have hW1 := C1.2.2.2.2.1.1
        have hkw := hW1.1
        have KA := c_at (γ := γ) (j := (y : Int)) hW1 (by decide) hi
        unfold atI
        rw [Int.toNat_natCast]
        by_cases d4 : y < (wQry (qs u)).length
        · obtain ⟨x, hx⟩ : ∃ x, (wQry (qs u))[y]? = some x := ⟨_, List.getElem?_eq_getElem d4⟩
          rw [hx]
          dsimp only
          rw [if_pos (by omega), wrH_at hx] at KA
          refine Call.of (ls := [(0, vr (some c)), (1, vi (u : Int)), (2, vi (y : Int))]) vX11_written.1 (Nat.le_of_ble_eq_true rfl) rfl ?_
          refine aw_aload_n dX11_written_0 rfl ?_
          refine aw_iload_n dX11_written_1 rfl ?_
          refine aw_invV_n dX11_written_2 vX11_requirePlace kX11_156 rfl (c_rPlace (γ := γ) (h := h) hp c1) ⟨_, (by assumption), _, _, rfl⟩ rfl rfl (by decide) (by decide) (by decide) (Nat.le_of_ble_eq_true rfl) ?_
          refine aw_aload_n dX11_written_5 rfl ?_
          refine aw_iload_n dX11_written_6 rfl ?_
          refine aw_invV_n dX11_written_7 vX11_requireNotNegative kX11_126 rfl (c_rNotNeg (γ := γ) (h := h) hi d2) ⟨_, (by assumption), _, _, rfl⟩ rfl rfl (by decide) (by decide) (by decide) (Nat.le_of_ble_eq_true rfl) ?_
          refine aw_aload_n dX11_written_10 rfl ?_
          refine aw_iload_n dX11_written_11 rfl ?_
          refine aw_invV_n dX11_written_12 vX11_requireQuery kX11_175 rfl (c_rQuery (γ := γ) hC hu d3) ⟨_, (by assumption), _, _, rfl⟩ rfl rfl (by decide) (by decide) (by decide) (Nat.le_of_ble_eq_true rfl) ?_
          refine aw_aload_n dX11_written_15 rfl ?_
          refine aw_getr' (j := 0) dX11_written_16 fX11_12 rfl (by assumption) rfl (by assumption) ?_
          refine aw_getr' (j := 1) dX11_written_19 fX11_163 rfl (by assumption) rfl (by assumption) ?_
          refine aw_iload_n dX11_written_22 rfl ?_
          refine aw_aald5' dX11_written_23 (by assumption) (by omega) (by first | decide | omega) rq ?_
          refine aw_aload_n dX11_written_24 rfl ?_
          refine aw_getr' (j := 3) dX11_written_25 fX11_32 rfl (by assumption) rfl (by assumption) ?_
          refine aw_invV_n dX11_written_28 vX5_writeTo kX11_178 rfl (c_wr (γ := γ) hC hQ oq.1 oq.2 (by omega)) ⟨_, (by assumption), _, _, rfl⟩ rfl rfl (by decide) (by decide) (by decide) (Nat.le_of_ble_eq_true rfl) ?_
          refine aw_iload_n dX11_written_31 rfl ?_
          refine aw_aload_n dX11_written_32 rfl ?_
          refine aw_getr' (j := 3) dX11_written_33 fX11_32 rfl (by assumption) rfl (by assumption) ?_
          refine aw_geti' (j := 1) dX11_written_36 fX11_150 rfl (by assumption) rfl g1 ?_
          refine aw_ic_ge (tgt := 53) dX11_written_39 rfl (by omega) (by omega) (fun c39 => ?_) (fun c39 => ?_)
          · exact absurd c39 (by omega)
          · refine aw_aload_n dX11_written_42 rfl ?_
            refine aw_getr' (j := 3) dX11_written_43 fX11_32 rfl (by assumption) rfl (by assumption) ?_
            refine aw_iload_n dX11_written_46 rfl ?_
            refine aw_invV_r dX11_written_47 vX9_at kX11_182 rfl (KA) ⟨_, (by assumption), _, _, rfl⟩ rfl rfl (by decide) (by decide) (by decide) (Nat.le_of_ble_eq_true rfl) ?_
            refine aw_goto (tgt := 54) dX11_written_50 rfl ?_
            exact aw_ireturn dX11_written_54 rfl (Or.inr (E1.1.trans hn)) (rC_ok C1 (E1.mono (by omega) (by omega)))
        · rw [List.getElem?_eq_none (by omega)]
          dsimp only
          refine Call.of (ls := [(0, vr (some c)), (1, vi (u : Int)), (2, vi (y : Int))]) vX11_written.1 (Nat.le_of_ble_eq_true rfl) rfl ?_
          refine aw_aload_n dX11_written_0 rfl ?_
          refine aw_iload_n dX11_written_1 rfl ?_
          refine aw_invV_n dX11_written_2 vX11_requirePlace kX11_156 rfl (c_rPlace (γ := γ) (h := h) hp c1) ⟨_, (by assumption), _, _, rfl⟩ rfl rfl (by decide) (by decide) (by decide) (Nat.le_of_ble_eq_true rfl) ?_
          refine aw_aload_n dX11_written_5 rfl ?_
          refine aw_iload_n dX11_written_6 rfl ?_
          refine aw_invV_n dX11_written_7 vX11_requireNotNegative kX11_126 rfl (c_rNotNeg (γ := γ) (h := h) hi d2) ⟨_, (by assumption), _, _, rfl⟩ rfl rfl (by decide) (by decide) (by decide) (Nat.le_of_ble_eq_true rfl) ?_
          refine aw_aload_n dX11_written_10 rfl ?_
          refine aw_iload_n dX11_written_11 rfl ?_
          refine aw_invV_n dX11_written_12 vX11_requireQuery kX11_175 rfl (c_rQuery (γ := γ) hC hu d3) ⟨_, (by assumption), _, _, rfl⟩ rfl rfl (by decide) (by decide) (by decide) (Nat.le_of_ble_eq_true rfl) ?_
          refine aw_aload_n dX11_written_15 rfl ?_
          refine aw_getr' (j := 0) dX11_written_16 fX11_12 rfl (by assumption) rfl (by assumption) ?_
          refine aw_getr' (j := 1) dX11_written_19 fX11_163 rfl (by assumption) rfl (by assumption) ?_
          refine aw_iload_n dX11_written_22 rfl ?_
          refine aw_aald5' dX11_written_23 (by assumption) (by omega) (by first | decide | omega) rq ?_
          refine aw_aload_n dX11_written_24 rfl ?_
          refine aw_getr' (j := 3) dX11_written_25 fX11_32 rfl (by assumption) rfl (by assumption) ?_
          refine aw_invV_n dX11_written_28 vX5_writeTo kX11_178 rfl (c_wr (γ := γ) hC hQ oq.1 oq.2 (by omega)) ⟨_, (by assumption), _, _, rfl⟩ rfl rfl (by decide) (by decide) (by decide) (Nat.le_of_ble_eq_true rfl) ?_
          refine aw_iload_n dX11_written_31 rfl ?_
          refine aw_aload_n dX11_written_32 rfl ?_
          refine aw_getr' (j := 3) dX11_written_33 fX11_32 rfl (by assumption) rfl (by assumption) ?_
          refine aw_geti' (j := 1) dX11_written_36 fX11_150 rfl (by assumption) rfl g1 ?_
          refine aw_ic_ge (tgt := 53) dX11_written_39 rfl (by omega) (by omega) (fun c39 => ?_) (fun c39 => ?_)
          · refine aw_iconst dX11_written_53 ?_
            exact aw_ireturn dX11_written_54 rfl (Or.inr (E1.1.trans hn)) (rC_ok C1 (E1.mono (by omega) (by omega)))
          · exact absurd c39 (by omega)
    · rw [if_pos (by omega)]
      refine Call.of (ls := [(0, vr (some c)), (1, vi p), (2, vi i)]) vX11_written.1 (Nat.le_of_ble_eq_true rfl) rfl ?_
      refine aw_aload_n dX11_written_0 rfl ?_
      refine aw_iload_n dX11_written_1 rfl ?_
      refine aw_invV_n dX11_written_2 vX11_requirePlace kX11_156 rfl (c_rPlace (γ := γ) (h := h) hp c1) ⟨_, (by assumption), _, _, rfl⟩ rfl rfl (by decide) (by decide) (by decide) (Nat.le_of_ble_eq_true rfl) ?_
      refine aw_aload_n dX11_written_5 rfl ?_
      refine aw_iload_n dX11_written_6 rfl ?_
      exact aw_invV_x dX11_written_7 vX11_requireNotNegative kX11_126 rfl (c_rNotNeg_x (γ := γ) (h := h) hi hn d2) ⟨_, (by assumption), _, _, rfl⟩ rfl rfl (by decide) (by decide) (by decide) (Nat.le_of_ble_eq_true rfl) (rC_err hC (by decide) rfl)
  · rw [if_pos c1]
    refine Call.of (ls := [(0, vr (some c)), (1, vi p), (2, vi i)]) vX11_written.1 (Nat.le_of_ble_eq_true rfl) rfl ?_
    refine aw_aload_n dX11_written_0 rfl ?_
    refine aw_iload_n dX11_written_1 rfl ?_
    exact aw_invV_x dX11_written_2 vX11_requirePlace kX11_156 rfl (c_rPlace_x (γ := γ) (h := h) hp hn c1) ⟨_, (by assumption), _, _, rfl⟩ rfl rfl (by decide) (by decide) (by decide) (Nat.le_of_ble_eq_true rfl) (rC_err hC (by decide) rfl)
theorem c_meas {γ : GG} {h : AH} {c b x : Nat} {π : Nat → Nat} {ρ : Nat → Nat → Nat} {q : TQ} {F : FS} (hC : isCl h c F) (hQ : isQ h b π ρ q) (ho : okQ q) (hw : lnQ q) (hb : b + 74 ≤ c + 1545 ∨ c + 1547 ≤ b) (hx : x ≤ 5) : Call γ mX11_measure 8 0 0 [vr (some c), vr (some b), vi (x : Int)] h (rE (vi (sizV q (x : Int))) (fun h' => isCl h' c F ∧ eqO h h' (c + 1545) (c + 1545 + 2))) := by
  have hkb := hQ.1.1
  have gl0 := hQ.2.1
  obtain ⟨hkc, -, -, -, r3, -⟩ := cl_f hC
  match x, hx with
  | 0, _ =>
    refine Call.of (ls := [(0, vr (some c)), (1, vr (some b)), (2, vi ((0 : Nat) : Int))]) vX11_measure.1 (Nat.le_of_ble_eq_true rfl) rfl ?_
    refine aw_iload_n dX11_measure_0 rfl ?_
    refine aw_tableIn (off := 35) (tgt := 36) dX11_measure_1 (by omega) (by decide) (by decide) rfl rfl ?_
    refine aw_aload_n dX11_measure_36 rfl ?_
    refine aw_geti' (j := 0) dX11_measure_37 fX11_174 rfl (by assumption) rfl gl0 ?_
    exact aw_ireturn dX11_measure_40 rfl (Or.inl rfl) ⟨by rfl, hC, eqO.rf⟩
  | 1, _ =>
    refine Call.of (ls := [(0, vr (some c)), (1, vr (some b)), (2, vi ((1 : Nat) : Int))]) vX11_measure.1 (Nat.le_of_ble_eq_true rfl) rfl ?_
    refine aw_iload_n dX11_measure_0 rfl ?_
    refine aw_tableIn (off := 40) (tgt := 41) dX11_measure_1 (by omega) (by decide) (by decide) rfl rfl ?_
    refine aw_aload_n dX11_measure_41 rfl ?_
    refine aw_invV_r dX11_measure_42 vX5_stepTotal kX11_257 rfl (c_qst (γ := γ) hQ) ⟨_, (by assumption), _, _, rfl⟩ rfl rfl (by decide) (by decide) (by decide) (Nat.le_of_ble_eq_true rfl) ?_
    exact aw_ireturn dX11_measure_45 rfl (Or.inl rfl) ⟨by rfl, hC, eqO.rf⟩
  | 2, _ =>
    refine Call.of (ls := [(0, vr (some c)), (1, vr (some b)), (2, vi ((2 : Nat) : Int))]) vX11_measure.1 (Nat.le_of_ble_eq_true rfl) rfl ?_
    refine aw_iload_n dX11_measure_0 rfl ?_
    refine aw_tableIn (off := 45) (tgt := 46) dX11_measure_1 (by omega) (by decide) (by decide) rfl rfl ?_
    refine aw_aload_n dX11_measure_46 rfl ?_
    refine aw_invV_r dX11_measure_47 vX5_predicateTotal kX11_260 rfl (c_qpt (γ := γ) hQ) ⟨_, (by assumption), _, _, rfl⟩ rfl rfl (by decide) (by decide) (by decide) (Nat.le_of_ble_eq_true rfl) ?_
    exact aw_ireturn dX11_measure_50 rfl (Or.inl rfl) ⟨by rfl, hC, eqO.rf⟩
  | 3, _ =>
    refine Call.of (ls := [(0, vr (some c)), (1, vr (some b)), (2, vi ((3 : Nat) : Int))]) vX11_measure.1 (Nat.le_of_ble_eq_true rfl) rfl ?_
    refine aw_iload_n dX11_measure_0 rfl ?_
    refine aw_tableIn (off := 50) (tgt := 51) dX11_measure_1 (by omega) (by decide) (by decide) rfl rfl ?_
    refine aw_aload_n dX11_measure_51 rfl ?_
    refine aw_invV_r dX11_measure_52 vX5_conditionTotal kX11_263 rfl (c_qct (γ := γ) hQ ho) ⟨_, (by assumption), _, _, rfl⟩ rfl rfl (by decide) (by decide) (by decide) (Nat.le_of_ble_eq_true rfl) ?_
    exact aw_ireturn dX11_measure_55 rfl (Or.inl rfl) ⟨by rfl, hC, eqO.rf⟩
  | 4, _ =>
    have KP := c_qpos (γ := γ) hQ ho
    cases q9 : isPosQ q with
    | true =>
      rw [if_pos q9] at KP
      have ev : sizV q ((4 : Nat) : Int) = 1 := by show bI (isPosQ q) = 1; rw [q9]; rfl
      rw [ev]
      refine Call.of (ls := [(0, vr (some c)), (1, vr (some b)), (2, vi ((4 : Nat) : Int))]) vX11_measure.1 (Nat.le_of_ble_eq_true rfl) rfl ?_
      refine aw_iload_n dX11_measure_0 rfl ?_
      refine aw_tableIn (off := 55) (tgt := 56) dX11_measure_1 (by omega) (by decide) (by decide) rfl rfl ?_
      refine aw_aload_n dX11_measure_56 rfl ?_
      refine aw_invV_r dX11_measure_57 vX5_isPositional kX11_266 rfl (KP) ⟨_, (by assumption), _, _, rfl⟩ rfl rfl (by decide) (by decide) (by decide) (Nat.le_of_ble_eq_true rfl) ?_
      refine aw_if_eq (tgt := 67) dX11_measure_60 rfl (by omega) (fun c60 => ?_) (fun c60 => ?_)
      · exact absurd c60 (by omega)
      · refine aw_iconst dX11_measure_63 ?_
        refine aw_goto (tgt := 68) dX11_measure_64 rfl ?_
        exact aw_ireturn dX11_measure_68 rfl (Or.inl rfl) ⟨rfl, hC, eqO.rf⟩
    | false =>
      rw [if_neg (by rw [q9]; decide)] at KP
      have ev : sizV q ((4 : Nat) : Int) = 0 := by show bI (isPosQ q) = 0; rw [q9]; rfl
      rw [ev]
      refine Call.of (ls := [(0, vr (some c)), (1, vr (some b)), (2, vi ((4 : Nat) : Int))]) vX11_measure.1 (Nat.le_of_ble_eq_true rfl) rfl ?_
      refine aw_iload_n dX11_measure_0 rfl ?_
      refine aw_tableIn (off := 55) (tgt := 56) dX11_measure_1 (by omega) (by decide) (by decide) rfl rfl ?_
      refine aw_aload_n dX11_measure_56 rfl ?_
      refine aw_invV_r dX11_measure_57 vX5_isPositional kX11_266 rfl (KP) ⟨_, (by assumption), _, _, rfl⟩ rfl rfl (by decide) (by decide) (by decide) (Nat.le_of_ble_eq_true rfl) ?_
      refine aw_if_eq (tgt := 67) dX11_measure_60 rfl (by omega) (fun c60 => ?_) (fun c60 => ?_)
      · refine aw_iconst dX11_measure_67 ?_
        exact aw_ireturn dX11_measure_68 rfl (Or.inl rfl) ⟨rfl, hC, eqO.rf⟩
      · exact absurd c60 (by omega)
  | 5, _ =>
    have C1 := wrH_cl (q := q) hC
    have E1 := wrH_e c h q
    have g1 := wrH_n c h q
    obtain ⟨hkc', -, -, -, r3', -⟩ := cl_f C1
    have hkw := C1.2.2.2.2.1.1.1
    refine Call.of (ls := [(0, vr (some c)), (1, vr (some b)), (2, vi ((5 : Nat) : Int))]) vX11_measure.1 (Nat.le_of_ble_eq_true rfl) rfl ?_
    refine aw_iload_n dX11_measure_0 rfl ?_
    refine aw_tableOut (tgt := 69) dX11_measure_1 (by omega) (Or.inr (by decide)) rfl ?_
    refine aw_aload_n dX11_measure_69 rfl ?_
    refine aw_aload_n dX11_measure_70 rfl ?_
    refine aw_getr' (j := 3) dX11_measure_71 fX11_32 rfl (by assumption) rfl (by assumption) ?_
    refine aw_invV_n dX11_measure_74 vX5_writeTo kX11_178 rfl (c_wr (γ := γ) hC hQ ho hw hb) ⟨_, (by assumption), _, _, rfl⟩ rfl rfl (by decide) (by decide) (by decide) (Nat.le_of_ble_eq_true rfl) ?_
    refine aw_aload_n dX11_measure_77 rfl ?_
    refine aw_getr' (j := 3) dX11_measure_78 fX11_32 rfl (by assumption) rfl (by assumption) ?_
    refine aw_geti' (j := 1) dX11_measure_81 fX11_150 rfl (by assumption) rfl g1 ?_
    exact aw_ireturn dX11_measure_84 rfl (Or.inl rfl) ⟨by rfl, C1, E1⟩
  | n + 6, hx => exact absurd hx (by omega)
theorem c_size {γ : GG} {h : AH} {c : Nat} {F : FS} {p x : Int} (hC : isCl h c F) (hn : nx h = none) (hp : (-2147483648 ≤ p ∧ p ≤ 2147483647)) (hx : (-2147483648 ≤ x ∧ x ≤ 2147483647)) : Call γ mX11_size 9 1 6 [vr (some c), vi p, vi x] h (rC9 h c [xnIO, xnIA, xnIS] (opSiz F p x)) := by
  obtain ⟨S, U, tx⟩ := F
  obtain ⟨T, qs⟩ := S
  have hC : isCl h c ((T, qs), U, tx) := hC
  obtain ⟨hkc, r0, r1, r2, r3, r4, r5, r6, r7, r8, hks, s0, s1, hkq, hkt⟩ := cl_f hC
  have hT : isTr h (c + 1 + 1) T := hC.2.1.2.1
  have oT : okTr T := hC.2.2.2.2.2.1.1
  have o9 := oT.o
  have n40 := o9.2.1
  have n1 := o9.1
  have gt0 : gi h (c + 1 + 1) 0 = (tn T : Int) := hT.2.1
  unfold opSiz
  dsimp only
  by_cases c1 : 0 ≤ p ∧ p ≤ 3
  · rw [if_neg (fun z => z c1)]
    by_cases d2 : 0 ≤ x ∧ x < 6
    · rw [if_neg (fun z => z ⟨by omega, by omega⟩)]
      obtain ⟨u, rfl⟩ := Int.eq_ofNat_of_zero_le c1.1
      obtain ⟨y, rfl⟩ := Int.eq_ofNat_of_zero_le d2.1
      rw [Int.toNat_natCast]
      have hu : u < 4 := by omega
      obtain ⟨rq, π, ρ, hQ⟩ := cl_q hC hu
      have hQ : isQ h (c + 1 + 12 + 74 * u) π ρ (qs u) := hQ
      have oq : okQ (qs u) ∧ lnQ (qs u) := hC.2.2.2.2.2.1.2 u hu
      have hkq9 := hQ.1.1
      by_cases d3 : qs u = []
      · rw [if_pos d3]
        refine Call.of (ls := [(0, vr (some c)), (1, vi (u : Int)), (2, vi (y : Int))]) vX11_size.1 (Nat.le_of_ble_eq_true rfl) rfl ?_
        refine aw_aload_n dX11_size_0 rfl ?_
        refine aw_iload_n dX11_size_1 rfl ?_
        refine aw_invV_n dX11_size_2 vX11_requirePlace kX11_156 rfl (c_rPlace (γ := γ) (h := h) hp c1) ⟨_, (by assumption), _, _, rfl⟩ rfl rfl (by decide) (by decide) (by decide) (Nat.le_of_ble_eq_true rfl) ?_
        refine aw_aload_n dX11_size_5 rfl ?_
        refine aw_iload_n dX11_size_6 rfl ?_
        refine aw_bipush dX11_size_7 rfl ?_
        refine aw_invV_n dX11_size_9 vX11_requireBelow kX11_69 rfl (c_rBelow (γ := γ) (b := 6) hx (by omega) d2) ⟨_, (by assumption), _, _, rfl⟩ rfl rfl (by decide) (by decide) (by decide) (Nat.le_of_ble_eq_true rfl) ?_
        refine aw_aload_n dX11_size_12 rfl ?_
        refine aw_iload_n dX11_size_13 rfl ?_
        exact aw_invV_x dX11_size_14 vX11_requireQuery kX11_175 rfl (c_rQuery_x (γ := γ) hC hu hn (fun z => z d3)) ⟨_, (by assumption), _, _, rfl⟩ rfl rfl (by decide) (by decide) (by decide) (Nat.le_of_ble_eq_true rfl) (rC_err hC (by decide) rfl)
      · rw [if_neg d3]
        refine Call.of (ls := [(0, vr (some c)), (1, vi (u : Int)), (2, vi (y : Int))]) vX11_size.1 (Nat.le_of_ble_eq_true rfl) rfl ?_
        refine aw_aload_n dX11_size_0 rfl ?_
        refine aw_iload_n dX11_size_1 rfl ?_
        refine aw_invV_n dX11_size_2 vX11_requirePlace kX11_156 rfl (c_rPlace (γ := γ) (h := h) hp c1) ⟨_, (by assumption), _, _, rfl⟩ rfl rfl (by decide) (by decide) (by decide) (Nat.le_of_ble_eq_true rfl) ?_
        refine aw_aload_n dX11_size_5 rfl ?_
        refine aw_iload_n dX11_size_6 rfl ?_
        refine aw_bipush dX11_size_7 rfl ?_
        refine aw_invV_n dX11_size_9 vX11_requireBelow kX11_69 rfl (c_rBelow (γ := γ) (b := 6) hx (by omega) d2) ⟨_, (by assumption), _, _, rfl⟩ rfl rfl (by decide) (by decide) (by decide) (Nat.le_of_ble_eq_true rfl) ?_
        refine aw_aload_n dX11_size_12 rfl ?_
        refine aw_iload_n dX11_size_13 rfl ?_
        refine aw_invV_n dX11_size_14 vX11_requireQuery kX11_175 rfl (c_rQuery (γ := γ) hC hu d3) ⟨_, (by assumption), _, _, rfl⟩ rfl rfl (by decide) (by decide) (by decide) (Nat.le_of_ble_eq_true rfl) ?_
        refine aw_aload_n dX11_size_17 rfl ?_
        refine aw_aload_n dX11_size_18 rfl ?_
        refine aw_getr' (j := 0) dX11_size_19 fX11_12 rfl (by assumption) rfl (by assumption) ?_
        refine aw_getr' (j := 1) dX11_size_22 fX11_163 rfl (by assumption) rfl (by assumption) ?_
        refine aw_iload_n dX11_size_25 rfl ?_
        refine aw_aald5' dX11_size_26 (by assumption) (by omega) (by first | decide | omega) rq ?_
        refine aw_iload_n dX11_size_27 rfl ?_
        refine aw_invV_e dX11_size_28 vX11_measure kX11_185 rfl (c_meas (γ := γ) hC hQ oq.1 oq.2 (by omega) (by omega)) ⟨_, (by assumption), _, _, rfl⟩ rfl rfl (by decide) (by decide) (by decide) (Nat.le_of_ble_eq_true rfl) (fun H1 hP9 => ?_)
        obtain ⟨C1, E1⟩ := hP9
        exact aw_ireturn dX11_size_31 rfl (Or.inr (E1.1.trans hn)) (rC_ok C1 (E1.mono (by omega) (by omega)))
    · rw [if_pos (fun z => d2 ⟨z.1, by omega⟩)]
      refine Call.of (ls := [(0, vr (some c)), (1, vi p), (2, vi x)]) vX11_size.1 (Nat.le_of_ble_eq_true rfl) rfl ?_
      refine aw_aload_n dX11_size_0 rfl ?_
      refine aw_iload_n dX11_size_1 rfl ?_
      refine aw_invV_n dX11_size_2 vX11_requirePlace kX11_156 rfl (c_rPlace (γ := γ) (h := h) hp c1) ⟨_, (by assumption), _, _, rfl⟩ rfl rfl (by decide) (by decide) (by decide) (Nat.le_of_ble_eq_true rfl) ?_
      refine aw_aload_n dX11_size_5 rfl ?_
      refine aw_iload_n dX11_size_6 rfl ?_
      refine aw_bipush dX11_size_7 rfl ?_
      exact aw_invV_x dX11_size_9 vX11_requireBelow kX11_69 rfl (c_rBelow_x (γ := γ) (b := 6) hx (by omega) hn d2) ⟨_, (by assumption), _, _, rfl⟩ rfl rfl (by decide) (by decide) (by decide) (Nat.le_of_ble_eq_true rfl) (rC_err hC (by decide) rfl)
  · rw [if_pos c1]
    refine Call.of (ls := [(0, vr (some c)), (1, vi p), (2, vi x)]) vX11_size.1 (Nat.le_of_ble_eq_true rfl) rfl ?_
    refine aw_aload_n dX11_size_0 rfl ?_
    refine aw_iload_n dX11_size_1 rfl ?_
    exact aw_invV_x dX11_size_2 vX11_requirePlace kX11_156 rfl (c_rPlace_x (γ := γ) (h := h) hp hn c1) ⟨_, (by assumption), _, _, rfl⟩ rfl rfl (by decide) (by decide) (by decide) (Nat.le_of_ble_eq_true rfl) (rC_err hC (by decide) rfl)
