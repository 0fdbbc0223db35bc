/-! ===== the outer class: the tree, the text ===== -/
theorem c_nodes {γ : GG} {h : AH} {c : Nat} {F : FS} (hC : isCl h c F) : Call γ mX11_nodes 0 0 0 [vr (some c)] h (rC9 h c [] (opNds F)) := by
  obtain ⟨S, U, tx⟩ := F
  obtain ⟨T, qs⟩ := S
  have hC : isCl h c ((T, qs), U, tx) := hC
  obtain ⟨hkc, r0, r1, r2, r3, r4, r5, r6, r7, r8, hks, s0, s1, hkq, hkt⟩ := cl_f hC
  have hT : isTr h (c + 1 + 1) T := hC.2.1.2.1
  have oT : okTr T := hC.2.2.2.2.2.1.1
  have o9 := oT.o
  have n40 := o9.2.1
  have n1 := o9.1
  have gt0 : gi h (c + 1 + 1) 0 = (tn T : Int) := hT.2.1
  refine Call.of (ls := [(0, vr (some c))]) vX11_nodes.1 (Nat.le_of_ble_eq_true rfl) rfl ?_
  refine aw_aload_n dX11_nodes_0 rfl ?_
  refine aw_getr' (j := 0) dX11_nodes_1 fX11_12 rfl (by assumption) rfl (by assumption) ?_
  refine aw_getr' (j := 0) dX11_nodes_4 fX11_73 rfl (by assumption) rfl (by assumption) ?_
  refine aw_geti' (j := 0) dX11_nodes_7 fX11_77 rfl (by assumption) rfl gt0 ?_
  exact aw_ireturn dX11_nodes_10 rfl (Or.inl rfl) (rC_ok hC eqO.rf)
theorem c_addNode {γ : GG} {h : AH} {c : Nat} {F : FS} {p x y : Int} (hC : isCl h c F) (hn : nx h = none) (hp : (-2147483648 ≤ p ∧ p ≤ 2147483647)) (hx : (-2147483648 ≤ x ∧ x ≤ 2147483647)) (hy : (-2147483648 ≤ y ∧ y ≤ 2147483647)) : Call γ mX11_addNode 8 1 6 [vr (some c), vi p, vi x, vi y] h (rC9 h c [xnIO, xnIA, xnIS] (opAdd F p x y)) := by
  obtain ⟨S, U, tx⟩ := F
  obtain ⟨T, qs⟩ := S
  have hC : isCl h c ((T, qs), U, tx) := hC
  obtain ⟨hkc, r0, r1, r2, r3, r4, r5, r6, r7, r8, hks, s0, s1, hkq, hkt⟩ := cl_f hC
  have hT : isTr h (c + 1 + 1) T := hC.2.1.2.1
  have oT : okTr T := hC.2.2.2.2.2.1.1
  have o9 := oT.o
  have n40 := o9.2.1
  have n1 := o9.1
  have gt0 : gi h (c + 1 + 1) 0 = (tn T : Int) := hT.2.1
  unfold opAdd
  dsimp only
  have hkh : kd h (c + 309) = some (.inl 1) := hC.2.2.1.1.1
  by_cases c1 : 0 ≤ p ∧ p < (tn T : Int)
  · rw [if_neg (fun z => z c1)]
    by_cases d2 : 0 ≤ x ∧ x < 8
    · by_cases d3 : 0 ≤ y ∧ y < 10
      · rw [if_neg (fun z => z ⟨by omega, by omega⟩)]
        by_cases d4 : tn T = 40
        · rw [if_pos d4]
          refine Call.of (ls := [(0, vr (some c)), (1, vi p), (2, vi x), (3, vi y)]) vX11_addNode.1 (Nat.le_of_ble_eq_true rfl) rfl ?_
          refine aw_aload_n dX11_addNode_0 rfl ?_
          refine aw_iload_n dX11_addNode_1 rfl ?_
          refine aw_invV_n dX11_addNode_2 vX11_requireNode kX11_66 rfl (c_rNode (γ := γ) hC hp c1) ⟨_, (by assumption), _, _, rfl⟩ rfl rfl (by decide) (by decide) (by decide) (Nat.le_of_ble_eq_true rfl) ?_
          refine aw_aload_n dX11_addNode_5 rfl ?_
          refine aw_iload_n dX11_addNode_6 rfl ?_
          refine aw_bipush dX11_addNode_7 rfl ?_
          refine aw_invV_n dX11_addNode_9 vX11_requireBelow kX11_69 rfl (c_rBelow (γ := γ) (b := 8) hx (by omega) d2) ⟨_, (by assumption), _, _, rfl⟩ rfl rfl (by decide) (by decide) (by decide) (Nat.le_of_ble_eq_true rfl) ?_
          refine aw_aload_n dX11_addNode_12 rfl ?_
          refine aw_iload_n dX11_addNode_13 rfl ?_
          refine aw_bipush dX11_addNode_14 rfl ?_
          refine aw_invV_n dX11_addNode_16 vX11_requireBelow kX11_69 rfl (c_rBelow (γ := γ) (b := 10) hy (by omega) d3) ⟨_, (by assumption), _, _, rfl⟩ rfl rfl (by decide) (by decide) (by decide) (Nat.le_of_ble_eq_true rfl) ?_
          refine aw_aload_n dX11_addNode_19 rfl ?_
          refine aw_getr' (j := 0) dX11_addNode_20 fX11_12 rfl (by assumption) rfl (by assumption) ?_
          refine aw_getr' (j := 0) dX11_addNode_23 fX11_73 rfl (by assumption) rfl (by assumption) ?_
          refine aw_geti' (j := 0) dX11_addNode_26 fX11_77 rfl (by assumption) rfl gt0 ?_
          refine aw_bipush dX11_addNode_29 rfl ?_
          refine aw_ic_lt (tgt := 44) dX11_addNode_31 rfl (by omega) (by omega) (fun c31 => ?_) (fun c31 => ?_)
          · exact absurd c31 (by omega)
          · exact aw_throw (twIS 85) rfl (List.mem_of_getElem? (i := 2) rfl) rfl dX11_addNode_34 dX11_addNode_37 dX11_addNode_38 dX11_addNode_40 dX11_addNode_43 (by decide) (Nat.le_of_ble_eq_true rfl) (by decide) (by decide) hn (rC_err hC (by decide) rfl)
        · rw [if_neg d4]
          obtain ⟨u, rfl⟩ := Int.eq_ofNat_of_zero_le c1.1
          rw [Int.toNat_natCast]
          have oA := add_ok (p := u) (x := x) (y := y) oT (by omega) (by omega) ⟨d2.1, by omega, d3.1, by omega⟩
          refine Call.of (ls := [(0, vr (some c)), (1, vi (u : Int)), (2, vi x), (3, vi y)]) vX11_addNode.1 (Nat.le_of_ble_eq_true rfl) rfl ?_
          refine aw_aload_n dX11_addNode_0 rfl ?_
          refine aw_iload_n dX11_addNode_1 rfl ?_
          refine aw_invV_n dX11_addNode_2 vX11_requireNode kX11_66 rfl (c_rNode (γ := γ) hC hp c1) ⟨_, (by assumption), _, _, rfl⟩ rfl rfl (by decide) (by decide) (by decide) (Nat.le_of_ble_eq_true rfl) ?_
          refine aw_aload_n dX11_addNode_5 rfl ?_
          refine aw_iload_n dX11_addNode_6 rfl ?_
          refine aw_bipush dX11_addNode_7 rfl ?_
          refine aw_invV_n dX11_addNode_9 vX11_requireBelow kX11_69 rfl (c_rBelow (γ := γ) (b := 8) hx (by omega) d2) ⟨_, (by assumption), _, _, rfl⟩ rfl rfl (by decide) (by decide) (by decide) (Nat.le_of_ble_eq_true rfl) ?_
          refine aw_aload_n dX11_addNode_12 rfl ?_
          refine aw_iload_n dX11_addNode_13 rfl ?_
          refine aw_bipush dX11_addNode_14 rfl ?_
          refine aw_invV_n dX11_addNode_16 vX11_requireBelow kX11_69 rfl (c_rBelow (γ := γ) (b := 10) hy (by omega) d3) ⟨_, (by assumption), _, _, rfl⟩ rfl rfl (by decide) (by decide) (by decide) (Nat.le_of_ble_eq_true rfl) ?_
          refine aw_aload_n dX11_addNode_19 rfl ?_
          refine aw_getr' (j := 0) dX11_addNode_20 fX11_12 rfl (by assumption) rfl (by assumption) ?_
          refine aw_getr' (j := 0) dX11_addNode_23 fX11_73 rfl (by assumption) rfl (by assumption) ?_
          refine aw_geti' (j := 0) dX11_addNode_26 fX11_77 rfl (by assumption) rfl gt0 ?_
          refine aw_bipush dX11_addNode_29 rfl ?_
          refine aw_ic_lt (tgt := 44) dX11_addNode_31 rfl (by omega) (by omega) (fun c31 => ?_) (fun c31 => ?_)
          · refine aw_aload_n dX11_addNode_44 rfl ?_
            refine aw_getr' (j := 1) dX11_addNode_45 fX11_19 rfl (by assumption) rfl (by assumption) ?_
            refine aw_aload_n dX11_addNode_48 rfl ?_
            refine aw_getr' (j := 0) dX11_addNode_49 fX11_12 rfl (by assumption) rfl (by assumption) ?_
            refine aw_invV_f dX11_addNode_52 vX2_push kX11_90 rfl (c_save hC) ⟨_, (by assumption), _, _, rfl⟩ rfl rfl (by decide) (by decide) (by decide) (Nat.le_of_ble_eq_true rfl) (fun H1 hP9 => ?_)
            obtain ⟨C1, E1⟩ := hP9
            have C1 : isCl H1 c ((T, qs), psh U (T, qs), tx) := C1
            obtain ⟨hkc', r0', r1', r2', r3', r4', r5', r6', r7', r8', hks', s0', s1', hkq', hkt'⟩ := cl_f C1
            have hT1 : isTr H1 (c + 1 + 1) T := C1.2.1.2.1
            refine aw_aload_n dX11_addNode_55 rfl ?_
            refine aw_getr' (j := 0) dX11_addNode_56 fX11_12 rfl (by assumption) rfl (by assumption) ?_
            refine aw_getr' (j := 0) dX11_addNode_59 fX11_73 rfl (by assumption) rfl (by assumption) ?_
            refine aw_iload_n dX11_addNode_62 rfl ?_
            refine aw_iload_n dX11_addNode_63 rfl ?_
            refine aw_iload_n dX11_addNode_64 rfl ?_
            refine aw_invV_e dX11_addNode_65 vX10_append kX11_94 rfl (c_append (γ := γ) (p := u) hT1 oT (by omega) (by omega) ⟨d2.1, by omega, d3.1, by omega⟩) ⟨_, (by assumption), _, _, rfl⟩ rfl rfl (by decide) (by decide) (by decide) (Nat.le_of_ble_eq_true rfl) (fun H2 hP9 => ?_)
            obtain ⟨T2, E2⟩ := hP9
            have E2 := E2.eqO (lo := c + 1 + 1) (hi := c + 1 + 11) (fun b z => by unfold S9U at z; omega)
            have C2 : isCl H2 c ((addT T u x y, qs), psh U (T, qs), tx) := C1.tr E2 T2 oA
            exact aw_ireturn dX11_addNode_68 rfl (Or.inr ((E1.tr (E2.mono (lo' := c) (hi' := c + 1704) (by omega) (by omega))).1.trans hn)) (rC_ok C2 (E1.tr (E2.mono (by omega) (by omega))))
          · exact absurd c31 (by omega)
      · rw [if_pos (fun z => d3 ⟨z.2.1, by omega⟩)]
        refine Call.of (ls := [(0, vr (some c)), (1, vi p), (2, vi x), (3, vi y)]) vX11_addNode.1 (Nat.le_of_ble_eq_true rfl) rfl ?_
        refine aw_aload_n dX11_addNode_0 rfl ?_
        refine aw_iload_n dX11_addNode_1 rfl ?_
        refine aw_invV_n dX11_addNode_2 vX11_requireNode kX11_66 rfl (c_rNode (γ := γ) hC hp c1) ⟨_, (by assumption), _, _, rfl⟩ rfl rfl (by decide) (by decide) (by decide) (Nat.le_of_ble_eq_true rfl) ?_
        refine aw_aload_n dX11_addNode_5 rfl ?_
        refine aw_iload_n dX11_addNode_6 rfl ?_
        refine aw_bipush dX11_addNode_7 rfl ?_
        refine aw_invV_n dX11_addNode_9 vX11_requireBelow kX11_69 rfl (c_rBelow (γ := γ) (b := 8) hx (by omega) d2) ⟨_, (by assumption), _, _, rfl⟩ rfl rfl (by decide) (by decide) (by decide) (Nat.le_of_ble_eq_true rfl) ?_
        refine aw_aload_n dX11_addNode_12 rfl ?_
        refine aw_iload_n dX11_addNode_13 rfl ?_
        refine aw_bipush dX11_addNode_14 rfl ?_
        exact aw_invV_x dX11_addNode_16 vX11_requireBelow kX11_69 rfl (c_rBelow_x (γ := γ) (b := 10) hy (by omega) hn d3) ⟨_, (by assumption), _, _, rfl⟩ rfl rfl (by decide) (by decide) (by decide) (Nat.le_of_ble_eq_true rfl) (rC_err hC (by decide) rfl)
    · rw [if_pos (fun z => d2 ⟨z.1.1, by omega⟩)]
      refine Call.of (ls := [(0, vr (some c)), (1, vi p), (2, vi x), (3, vi y)]) vX11_addNode.1 (Nat.le_of_ble_eq_true rfl) rfl ?_
      refine aw_aload_n dX11_addNode_0 rfl ?_
      refine aw_iload_n dX11_addNode_1 rfl ?_
      refine aw_invV_n dX11_addNode_2 vX11_requireNode kX11_66 rfl (c_rNode (γ := γ) hC hp c1) ⟨_, (by assumption), _, _, rfl⟩ rfl rfl (by decide) (by decide) (by decide) (Nat.le_of_ble_eq_true rfl) ?_
      refine aw_aload_n dX11_addNode_5 rfl ?_
      refine aw_iload_n dX11_addNode_6 rfl ?_
      refine aw_bipush dX11_addNode_7 rfl ?_
      exact aw_invV_x dX11_addNode_9 vX11_requireBelow kX11_69 rfl (c_rBelow_x (γ := γ) (b := 8) hx (by omega) hn d2) ⟨_, (by assumption), _, _, rfl⟩ rfl rfl (by decide) (by decide) (by decide) (Nat.le_of_ble_eq_true rfl) (rC_err hC (by decide) rfl)
  · rw [if_pos c1]
    refine Call.of (ls := [(0, vr (some c)), (1, vi p), (2, vi x), (3, vi y)]) vX11_addNode.1 (Nat.le_of_ble_eq_true rfl) rfl ?_
    refine aw_aload_n dX11_addNode_0 rfl ?_
    refine aw_iload_n dX11_addNode_1 rfl ?_
    exact aw_invV_x dX11_addNode_2 vX11_requireNode kX11_66 rfl (c_rNode_x (γ := γ) hC hp hn c1) ⟨_, (by assumption), _, _, rfl⟩ rfl rfl (by decide) (by decide) (by decide) (Nat.le_of_ble_eq_true rfl) (rC_err hC (by decide) rfl)
theorem c_removeNode {γ : GG} {h : AH} {c : Nat} {F : FS} {p : Int} (hC : isCl h c F) (hn : nx h = none) (hp : (-2147483648 ≤ p ∧ p ≤ 2147483647)) : Call γ mX11_removeNode 8 1 6 [vr (some c), vi p] h (rC9 h c [xnIO, xnUO] (opRem F p)) := by
  obtain ⟨S, U, tx⟩ := F
  obtain ⟨T, qs⟩ := S
  have hC : isCl h c ((T, qs), U, tx) := hC
  obtain ⟨hkc, r0, r1, r2, r3, r4, r5, r6, r7, r8, hks, s0, s1, hkq, hkt⟩ := cl_f hC
  have hT : isTr h (c + 1 + 1) T := hC.2.1.2.1
  have oT : okTr T := hC.2.2.2.2.2.1.1
  have o9 := oT.o
  have n40 := o9.2.1
  have n1 := o9.1
  have gt0 : gi h (c + 1 + 1) 0 = (tn T : Int) := hT.2.1
  unfold opRem
  dsimp only
  have hkh : kd h (c + 309) = some (.inl 1) := hC.2.2.1.1.1
  by_cases c1 : 0 ≤ p ∧ p < (tn T : Int)
  · rw [if_neg (fun z => z c1)]
    by_cases d2 : p = 0
    · rw [if_pos d2]
      refine Call.of (ls := [(0, vr (some c)), (1, vi p)]) vX11_removeNode.1 (Nat.le_of_ble_eq_true rfl) rfl ?_
      refine aw_aload_n dX11_removeNode_0 rfl ?_
      refine aw_iload_n dX11_removeNode_1 rfl ?_
      refine aw_invV_n dX11_removeNode_2 vX11_requireNode kX11_66 rfl (c_rNode (γ := γ) hC hp c1) ⟨_, (by assumption), _, _, rfl⟩ rfl rfl (by decide) (by decide) (by decide) (Nat.le_of_ble_eq_true rfl) ?_
      refine aw_iload_n dX11_removeNode_5 rfl ?_
      refine aw_if_ne (tgt := 19) dX11_removeNode_6 rfl (by omega) (fun c6 => ?_) (fun c6 => ?_)
      · exact absurd c6 (by omega)
      · exact aw_throw (twUO 100) rfl (List.mem_of_getElem? (i := 3) rfl) rfl dX11_removeNode_9 dX11_removeNode_12 dX11_removeNode_13 dX11_removeNode_15 dX11_removeNode_18 (by decide) (Nat.le_of_ble_eq_true rfl) (by decide) (by decide) hn (rC_err hC (by decide) rfl)
    · rw [if_neg d2]
      obtain ⟨u, rfl⟩ := Int.eq_ofNat_of_zero_le c1.1
      rw [Int.toNat_natCast]
      have ev := endT_spec (T := T) (v := u) (by omega)
      have oA := dl_ok (v := u) (m := endT T u - u) oT (by omega) (by omega) (by omega)
      refine Call.of (ls := [(0, vr (some c)), (1, vi (u : Int))]) vX11_removeNode.1 (Nat.le_of_ble_eq_true rfl) rfl ?_
      refine aw_aload_n dX11_removeNode_0 rfl ?_
      refine aw_iload_n dX11_removeNode_1 rfl ?_
      refine aw_invV_n dX11_removeNode_2 vX11_requireNode kX11_66 rfl (c_rNode (γ := γ) hC hp c1) ⟨_, (by assumption), _, _, rfl⟩ rfl rfl (by decide) (by decide) (by decide) (Nat.le_of_ble_eq_true rfl) ?_
      refine aw_iload_n dX11_removeNode_5 rfl ?_
      refine aw_if_ne (tgt := 19) dX11_removeNode_6 rfl (by omega) (fun c6 => ?_) (fun c6 => ?_)
      · refine aw_aload_n dX11_removeNode_19 rfl ?_
        refine aw_getr' (j := 1) dX11_removeNode_20 fX11_19 rfl (by assumption) rfl (by assumption) ?_
        refine aw_aload_n dX11_removeNode_23 rfl ?_
        refine aw_getr' (j := 0) dX11_removeNode_24 fX11_12 rfl (by assumption) rfl (by assumption) ?_
        refine aw_invV_f dX11_removeNode_27 vX2_push kX11_90 rfl (c_save hC) ⟨_, (by assumption), _, _, rfl⟩ rfl rfl (by decide) (by decide) (by decide) (Nat.le_of_ble_eq_true rfl) (fun H1 hP9 => ?_)
        obtain ⟨C1, E1⟩ := hP9
        have C1 : isCl H1 c ((T, qs), psh U (T, qs), tx) := C1
        obtain ⟨hkc', r0', r1', r2', r3', r4', r5', r6', r7', r8', hks', s0', s1', hkq', hkt'⟩ := cl_f C1
        have hT1 : isTr H1 (c + 1 + 1) T := C1.2.1.2.1
        refine aw_aload_n dX11_removeNode_30 rfl ?_
        refine aw_getr' (j := 0) dX11_removeNode_31 fX11_12 rfl (by assumption) rfl (by assumption) ?_
        refine aw_getr' (j := 0) dX11_removeNode_34 fX11_73 rfl (by assumption) rfl (by assumption) ?_
        refine aw_iload_n dX11_removeNode_37 rfl ?_
        refine aw_invV_e dX11_removeNode_38 vX10_cut kX11_103 rfl (c_cut (γ := γ) (v := u) hT1 oT (by omega) (by omega)) ⟨_, (by assumption), _, _, rfl⟩ rfl rfl (by decide) (by decide) (by decide) (Nat.le_of_ble_eq_true rfl) (fun H2 hP9 => ?_)
        obtain ⟨T2, E2⟩ := hP9
        have E2 := E2.eqO (lo := c + 1 + 1) (hi := c + 1 + 11) (fun b z => by unfold S9U at z; omega)
        have C2 : isCl H2 c ((dlT T u (endT T u - u), qs), psh U (T, qs), tx) := C1.tr E2 T2 oA
        exact aw_ireturn dX11_removeNode_41 rfl (Or.inr ((E1.tr (E2.mono (lo' := c) (hi' := c + 1704) (by omega) (by omega))).1.trans hn)) (rC_ok C2 (E1.tr (E2.mono (by omega) (by omega))))
      · exact absurd c6 (by omega)
  · rw [if_pos c1]
    refine Call.of (ls := [(0, vr (some c)), (1, vi p)]) vX11_removeNode.1 (Nat.le_of_ble_eq_true rfl) rfl ?_
    refine aw_aload_n dX11_removeNode_0 rfl ?_
    refine aw_iload_n dX11_removeNode_1 rfl ?_
    exact aw_invV_x dX11_removeNode_2 vX11_requireNode kX11_66 rfl (c_rNode_x (γ := γ) hC hp hn c1) ⟨_, (by assumption), _, _, rfl⟩ rfl rfl (by decide) (by decide) (by decide) (Nat.le_of_ble_eq_true rfl) (rC_err hC (by decide) rfl)
theorem en_nil {T : Tr} (ho : okTr T) : ∀ j, 0 < j → j < tn T → (0 : Int) ≤ tpa T j := fun j j1 j2 => (ho.o.2.2.2.2.1 j (by omega) j2).1
theorem e0_end {T : Tr} (ho : okTr T) : endT T 0 = tn T := by
  obtain ⟨e1, e2, e3, e4⟩ := endT_spec (T := T) (v := 0) (by have := ho.o.1; omega)
  by_cases z : endT T 0 < tn T
  · have h1 := e4 z
    have h2 := en_nil ho (endT T 0) e1 z
    omega
  · omega
theorem endT_set {T : Tr} {v : Nat} {x y : Int} (k : Nat) : endT (setT T v x y) k = endT T k := by
  have : ∀ m j, enF (setT T v x y) k m j = enF T k m j := by
    intro m
    induction m with
    | zero => intro j; rfl
    | succ m ih => intro j; simp only [enF]; rw [ih]; rfl
  exact this _ _
theorem isTr_set {h : AH} {t u : Nat} {T : Tr} {x y : Int} (hT : isTr h t T) (hu : u < tn T) : isTr (si (si h (t + 1) (u : Int) x) (t + 2) (u : Int) y) t (setT T u x y) := by
  obtain ⟨hS, h0, hc⟩ := hT
  refine ⟨hS, (gi_ne (Or.inl (by omega))).trans ((gi_ne (Or.inl (by omega))).trans h0), fun k hk => ?_⟩
  obtain ⟨a1, a2, a3, a4, a5, a6⟩ := hc k hk
  have eA : ∀ b, b ≠ t + 1 → b ≠ t + 2 → ∀ j, gi (si (si h (t + 1) (u : Int) x) (t + 2) (u : Int) y) b j = gi h b j := fun b b1 b2 j => (gi_ne (Or.inl b2)).trans (gi_ne (Or.inl b1))
  refine ⟨?_, ?_, (eA _ (by omega) (by omega) _).trans a3, by rw [endT_set]; exact (eA _ (by omega) (by omega) _).trans a4, a5, ?_⟩
  · show _ = if k = u then x else tnm T k
    by_cases z : k = u
    · subst z; rw [if_pos rfl]; exact (gi_ne (Or.inl (by omega))).trans (gi_at rfl rfl)
    · rw [if_neg z]; exact (gi_ne (Or.inl (by omega))).trans ((gi_ne (Or.inr (by omega))).trans a1)
  · show _ = if k = u then y else tvl T k
    by_cases z : k = u
    · subst z; rw [if_pos rfl]; exact gi_at rfl rfl
    · rw [if_neg z]; exact (gi_ne (Or.inr (by omega))).trans ((gi_ne (Or.inl (by omega))).trans a2)
  · refine a6.trans (S9_cong (fun j _ => ?_))
    unfold anS
    rw [endT_set]
theorem c_moveNode {γ : GG} {h : AH} {c : Nat} {F : FS} {v p : Int} (hC : isCl h c F) (hn : nx h = none) (hv : (-2147483648 ≤ v ∧ v ≤ 2147483647)) (hp : (-2147483648 ≤ p ∧ p ≤ 2147483647)) : Call γ mX11_moveNode 8 1 6 [vr (some c), vi v, vi p] h (rC9 h c [xnIO, xnUO] (opMov F v p)) := by
  obtain ⟨S, U, tx⟩ := F
  obtain ⟨T, qs⟩ := S
  have hC : isCl h c ((T, qs), U, tx) := hC
  obtain ⟨hkc, r0, r1, r2, r3, r4, r5, r6, r7, r8, hks, s0, s1, hkq, hkt⟩ := cl_f hC
  have hT : isTr h (c + 1 + 1) T := hC.2.1.2.1
  have oT : okTr T := hC.2.2.2.2.2.1.1
  have o9 := oT.o
  have n40 := o9.2.1
  have n1 := o9.1
  have gt0 : gi h (c + 1 + 1) 0 = (tn T : Int) := hT.2.1
  unfold opMov
  dsimp only
  have hkh : kd h (c + 309) = some (.inl 1) := hC.2.2.1.1.1
  by_cases c1 : 0 ≤ v ∧ v < (tn T : Int)
  · by_cases c2 : 0 ≤ p ∧ p < (tn T : Int)
    · rw [if_neg (fun z => z ⟨c1, c2⟩)]
      obtain ⟨u, rfl⟩ := Int.eq_ofNat_of_zero_le c1.1
      obtain ⟨y, rfl⟩ := Int.eq_ofNat_of_zero_le c2.1
      rw [Int.toNat_natCast, Int.toNat_natCast]
      have hu : u < tn T := by omega
      have ev := endT_spec (T := T) hu
      have gl := (hT.2.2 u hu).2.2.2.1
      obtain ⟨hkt', -, -, -, ⟨rl, kl⟩, -⟩ := hT.1
      by_cases d3 : (u : Int) ≤ (y : Int) ∧ (y : Int) < ((endT T u : Nat) : Int)
      · rw [if_pos d3]
        refine Call.of (ls := [(0, vr (some c)), (1, vi (u : Int)), (2, vi (y : Int))]) vX11_moveNode.1 (Nat.le_of_ble_eq_true rfl) rfl ?_
        refine aw_aload_n dX11_moveNode_0 rfl ?_
        refine aw_iload_n dX11_moveNode_1 rfl ?_
        refine aw_invV_n dX11_moveNode_2 vX11_requireNode kX11_66 rfl (c_rNode (γ := γ) hC hv c1) ⟨_, (by assumption), _, _, rfl⟩ rfl rfl (by decide) (by decide) (by decide) (Nat.le_of_ble_eq_true rfl) ?_
        refine aw_aload_n dX11_moveNode_5 rfl ?_
        refine aw_iload_n dX11_moveNode_6 rfl ?_
        refine aw_invV_n dX11_moveNode_7 vX11_requireNode kX11_66 rfl (c_rNode (γ := γ) hC hp c2) ⟨_, (by assumption), _, _, rfl⟩ rfl rfl (by decide) (by decide) (by decide) (Nat.le_of_ble_eq_true rfl) ?_
        refine aw_iload_n dX11_moveNode_10 rfl ?_
        refine aw_iload_n dX11_moveNode_11 rfl ?_
        refine aw_ic_lt (tgt := 41) dX11_moveNode_12 rfl (by omega) (by omega) (fun c12 => ?_) (fun c12 => ?_)
        · exact absurd c12 (by omega)
        · refine aw_iload_n dX11_moveNode_15 rfl ?_
          refine aw_aload_n dX11_moveNode_16 rfl ?_
          refine aw_getr' (j := 0) dX11_moveNode_17 fX11_12 rfl (by assumption) rfl (by assumption) ?_
          refine aw_getr' (j := 0) dX11_moveNode_20 fX11_73 rfl (by assumption) rfl (by assumption) ?_
          refine aw_getr' (j := 4) dX11_moveNode_23 fX11_107 rfl (by assumption) rfl (by assumption) ?_
          refine aw_iload_n dX11_moveNode_26 rfl ?_
          refine aw_iald' dX11_moveNode_27 (by assumption) (by omega) (by first | decide | omega) gl ?_
          refine aw_ic_gt (tgt := 41) dX11_moveNode_28 rfl (by omega) (by omega) (fun c28 => ?_) (fun c28 => ?_)
          · exact absurd c28 (by omega)
          · exact aw_throw (twUO 111) rfl (List.mem_of_getElem? (i := 4) rfl) rfl dX11_moveNode_31 dX11_moveNode_34 dX11_moveNode_35 dX11_moveNode_37 dX11_moveNode_40 (by decide) (Nat.le_of_ble_eq_true rfl) (by decide) (by decide) hn (rC_err hC (by decide) rfl)
      · rw [if_neg d3]
        have u1 : 1 ≤ u := by
          by_cases z : u = 0
          · subst z
            have e0 : endT T 0 = tn T := e0_end oT
            omega
          · omega
        have oA := mov_ok (v := u) (p := y) oT (by omega) hu (by omega) (by omega)
        by_cases d4 : (u : Int) ≤ (y : Int)
        · refine Call.of (ls := [(0, vr (some c)), (1, vi (u : Int)), (2, vi (y : Int))]) vX11_moveNode.1 (Nat.le_of_ble_eq_true rfl) rfl ?_
          refine aw_aload_n dX11_moveNode_0 rfl ?_
          refine aw_iload_n dX11_moveNode_1 rfl ?_
          refine aw_invV_n dX11_moveNode_2 vX11_requireNode kX11_66 rfl (c_rNode (γ := γ) hC hv c1) ⟨_, (by assumption), _, _, rfl⟩ rfl rfl (by decide) (by decide) (by decide) (Nat.le_of_ble_eq_true rfl) ?_
          refine aw_aload_n dX11_moveNode_5 rfl ?_
          refine aw_iload_n dX11_moveNode_6 rfl ?_
          refine aw_invV_n dX11_moveNode_7 vX11_requireNode kX11_66 rfl (c_rNode (γ := γ) hC hp c2) ⟨_, (by assumption), _, _, rfl⟩ rfl rfl (by decide) (by decide) (by decide) (Nat.le_of_ble_eq_true rfl) ?_
          refine aw_iload_n dX11_moveNode_10 rfl ?_
          refine aw_iload_n dX11_moveNode_11 rfl ?_
          refine aw_ic_lt (tgt := 41) dX11_moveNode_12 rfl (by omega) (by omega) (fun c12 => ?_) (fun c12 => ?_)
          · exact absurd c12 (by omega)
          · refine aw_iload_n dX11_moveNode_15 rfl ?_
            refine aw_aload_n dX11_moveNode_16 rfl ?_
            refine aw_getr' (j := 0) dX11_moveNode_17 fX11_12 rfl (by assumption) rfl (by assumption) ?_
            refine aw_getr' (j := 0) dX11_moveNode_20 fX11_73 rfl (by assumption) rfl (by assumption) ?_
            refine aw_getr' (j := 4) dX11_moveNode_23 fX11_107 rfl (by assumption) rfl (by assumption) ?_
            refine aw_iload_n dX11_moveNode_26 rfl ?_
            refine aw_iald' dX11_moveNode_27 (by assumption) (by omega) (by first | decide | omega) gl ?_
            refine aw_ic_gt (tgt := 41) dX11_moveNode_28 rfl (by omega) (by omega) (fun c28 => ?_) (fun c28 => ?_)
            · refine aw_aload_n dX11_moveNode_41 rfl ?_
              refine aw_getr' (j := 1) dX11_moveNode_42 fX11_19 rfl (by assumption) rfl (by assumption) ?_
              refine aw_aload_n dX11_moveNode_45 rfl ?_
              refine aw_getr' (j := 0) dX11_moveNode_46 fX11_12 rfl (by assumption) rfl (by assumption) ?_
              refine aw_invV_f dX11_moveNode_49 vX2_push kX11_90 rfl (c_save hC) ⟨_, (by assumption), _, _, rfl⟩ rfl rfl (by decide) (by decide) (by decide) (Nat.le_of_ble_eq_true rfl) (fun H1 hP9 => ?_)
              obtain ⟨C1, E1⟩ := hP9
              have C1 : isCl H1 c ((T, qs), psh U (T, qs), tx) := C1
              obtain ⟨hkc', r0', r1', r2', r3', r4', r5', r6', r7', r8', hks', s0', s1', hkq', hkt'⟩ := cl_f C1
              have hT1 : isTr H1 (c + 1 + 1) T := C1.2.1.2.1
              refine aw_aload_n dX11_moveNode_52 rfl ?_
              refine aw_getr' (j := 0) dX11_moveNode_53 fX11_12 rfl (by assumption) rfl (by assumption) ?_
              refine aw_getr' (j := 0) dX11_moveNode_56 fX11_73 rfl (by assumption) rfl (by assumption) ?_
              refine aw_iload_n dX11_moveNode_59 rfl ?_
              refine aw_iload_n dX11_moveNode_60 rfl ?_
              refine aw_invV_e dX11_moveNode_61 vX10_hang kX11_113 rfl (c_hang (γ := γ) (v := u) (p := y) hT1 oT u1 hu (by omega) (by omega)) ⟨_, (by assumption), _, _, rfl⟩ rfl rfl (by decide) (by decide) (by decide) (Nat.le_of_ble_eq_true rfl) (fun H2 hP9 => ?_)
              obtain ⟨T2, E2⟩ := hP9
              have E2 := E2.eqO (lo := c + 1 + 1) (hi := c + 1 + 11) (fun b z => by unfold S9U at z; omega)
              have C2 : isCl H2 c ((movT T u y, qs), psh U (T, qs), tx) := C1.tr E2 T2 oA
              exact aw_ireturn dX11_moveNode_64 rfl (Or.inr ((E1.tr (E2.mono (lo' := c) (hi' := c + 1704) (by omega) (by omega))).1.trans hn)) (rC_ok C2 (E1.tr (E2.mono (by omega) (by omega))))
            · exact absurd c28 (by omega)
        · refine Call.of (ls := [(0, vr (some c)), (1, vi (u : Int)), (2, vi (y : Int))]) vX11_moveNode.1 (Nat.le_of_ble_eq_true rfl) rfl ?_
          refine aw_aload_n dX11_moveNode_0 rfl ?_
          refine aw_iload_n dX11_moveNode_1 rfl ?_
          refine aw_invV_n dX11_moveNode_2 vX11_requireNode kX11_66 rfl (c_rNode (γ := γ) hC hv c1) ⟨_, (by assumption), _, _, rfl⟩ rfl rfl (by decide) (by decide) (by decide) (Nat.le_of_ble_eq_true rfl) ?_
          refine aw_aload_n dX11_moveNode_5 rfl ?_
          refine aw_iload_n dX11_moveNode_6 rfl ?_
          refine aw_invV_n dX11_moveNode_7 vX11_requireNode kX11_66 rfl (c_rNode (γ := γ) hC hp c2) ⟨_, (by assumption), _, _, rfl⟩ rfl rfl (by decide) (by decide) (by decide) (Nat.le_of_ble_eq_true rfl) ?_
          refine aw_iload_n dX11_moveNode_10 rfl ?_
          refine aw_iload_n dX11_moveNode_11 rfl ?_
          refine aw_ic_lt (tgt := 41) dX11_moveNode_12 rfl (by omega) (by omega) (fun c12 => ?_) (fun c12 => ?_)
          · refine aw_aload_n dX11_moveNode_41 rfl ?_
            refine aw_getr' (j := 1) dX11_moveNode_42 fX11_19 rfl (by assumption) rfl (by assumption) ?_
            refine aw_aload_n dX11_moveNode_45 rfl ?_
            refine aw_getr' (j := 0) dX11_moveNode_46 fX11_12 rfl (by assumption) rfl (by assumption) ?_
            refine aw_invV_f dX11_moveNode_49 vX2_push kX11_90 rfl (c_save hC) ⟨_, (by assumption), _, _, rfl⟩ rfl rfl (by decide) (by decide) (by decide) (Nat.le_of_ble_eq_true rfl) (fun H1 hP9 => ?_)
            obtain ⟨C1, E1⟩ := hP9
            have C1 : isCl H1 c ((T, qs), psh U (T, qs), tx) := C1
            obtain ⟨hkc', r0', r1', r2', r3', r4', r5', r6', r7', r8', hks', s0', s1', hkq', hkt'⟩ := cl_f C1
            have hT1 : isTr H1 (c + 1 + 1) T := C1.2.1.2.1
            refine aw_aload_n dX11_moveNode_52 rfl ?_
            refine aw_getr' (j := 0) dX11_moveNode_53 fX11_12 rfl (by assumption) rfl (by assumption) ?_
            refine aw_getr' (j := 0) dX11_moveNode_56 fX11_73 rfl (by assumption) rfl (by assumption) ?_
            refine aw_iload_n dX11_moveNode_59 rfl ?_
            refine aw_iload_n dX11_moveNode_60 rfl ?_
            refine aw_invV_e dX11_moveNode_61 vX10_hang kX11_113 rfl (c_hang (γ := γ) (v := u) (p := y) hT1 oT u1 hu (by omega) (by omega)) ⟨_, (by assumption), _, _, rfl⟩ rfl rfl (by decide) (by decide) (by decide) (Nat.le_of_ble_eq_true rfl) (fun H2 hP9 => ?_)
            obtain ⟨T2, E2⟩ := hP9
            have E2 := E2.eqO (lo := c + 1 + 1) (hi := c + 1 + 11) (fun b z => by unfold S9U at z; omega)
            have C2 : isCl H2 c ((movT T u y, qs), psh U (T, qs), tx) := C1.tr E2 T2 oA
            exact aw_ireturn dX11_moveNode_64 rfl (Or.inr ((E1.tr (E2.mono (lo' := c) (hi' := c + 1704) (by omega) (by omega))).1.trans hn)) (rC_ok C2 (E1.tr (E2.mono (by omega) (by omega))))
          · exact absurd c12 (by omega)
    · rw [if_pos (fun z => c2 z.2)]
      refine Call.of (ls := [(0, vr (some c)), (1, vi v), (2, vi p)]) vX11_moveNode.1 (Nat.le_of_ble_eq_true rfl) rfl ?_
      refine aw_aload_n dX11_moveNode_0 rfl ?_
      refine aw_iload_n dX11_moveNode_1 rfl ?_
      refine aw_invV_n dX11_moveNode_2 vX11_requireNode kX11_66 rfl (c_rNode (γ := γ) hC hv c1) ⟨_, (by assumption), _, _, rfl⟩ rfl rfl (by decide) (by decide) (by decide) (Nat.le_of_ble_eq_true rfl) ?_
      refine aw_aload_n dX11_moveNode_5 rfl ?_
      refine aw_iload_n dX11_moveNode_6 rfl ?_
      exact aw_invV_x dX11_moveNode_7 vX11_requireNode kX11_66 rfl (c_rNode_x (γ := γ) hC hp hn c2) ⟨_, (by assumption), _, _, rfl⟩ rfl rfl (by decide) (by decide) (by decide) (Nat.le_of_ble_eq_true rfl) (rC_err hC (by decide) rfl)
  · rw [if_pos (fun z => c1 z.1)]
    refine Call.of (ls := [(0, vr (some c)), (1, vi v), (2, vi p)]) vX11_moveNode.1 (Nat.le_of_ble_eq_true rfl) rfl ?_
    refine aw_aload_n dX11_moveNode_0 rfl ?_
    refine aw_iload_n dX11_moveNode_1 rfl ?_
    exact aw_invV_x dX11_moveNode_2 vX11_requireNode kX11_66 rfl (c_rNode_x (γ := γ) hC hv hn c1) ⟨_, (by assumption), _, _, rfl⟩ rfl rfl (by decide) (by decide) (by decide) (Nat.le_of_ble_eq_true rfl) (rC_err hC (by decide) rfl)
theorem c_setNode {γ : GG} {h : AH} {c : Nat} {F : FS} {v x y : Int} (hC : isCl h c F) (hn : nx h = none) (hv : (-2147483648 ≤ v ∧ v ≤ 2147483647)) (hx : (-2147483648 ≤ x ∧ x ≤ 2147483647)) (hy : (-2147483648 ≤ y ∧ y ≤ 2147483647)) : Call γ mX11_setNode 8 1 6 [vr (some c), vi v, vi x, vi y] h (rC9 h c [xnIO, xnIA] (opSet F v x y)) := by
  obtain ⟨S, U, tx⟩ := F
  obtain ⟨T, qs⟩ := S
  have hC : isCl h c ((T, qs), U, tx) := hC
  obtain ⟨hkc, r0, r1, r2, r3, r4, r5, r6, r7, r8, hks, s0, s1, hkq, hkt⟩ := cl_f hC
  have hT : isTr h (c + 1 + 1) T := hC.2.1.2.1
  have oT : okTr T := hC.2.2.2.2.2.1.1
  have o9 := oT.o
  have n40 := o9.2.1
  have n1 := o9.1
  have gt0 : gi h (c + 1 + 1) 0 = (tn T : Int) := hT.2.1
  unfold opSet
  dsimp only
  have hkh : kd h (c + 309) = some (.inl 1) := hC.2.2.1.1.1
  by_cases c1 : 0 ≤ v ∧ v < (tn T : Int)
  · rw [if_neg (fun z => z c1)]
    by_cases d2 : 0 ≤ x ∧ x < 8
    · by_cases d3 : 0 ≤ y ∧ y < 10
      · rw [if_neg (fun z => z ⟨by omega, by omega⟩)]
        obtain ⟨u, rfl⟩ := Int.eq_ofNat_of_zero_le c1.1
        rw [Int.toNat_natCast]
        have hu : u < tn T := by omega
        have oA := set_ok (v := u) (x := x) (y := y) oT ⟨d2.1, by omega, d3.1, by omega⟩
        refine Call.of (ls := [(0, vr (some c)), (1, vi (u : Int)), (2, vi x), (3, vi y)]) vX11_setNode.1 (Nat.le_of_ble_eq_true rfl) rfl ?_
        refine aw_aload_n dX11_setNode_0 rfl ?_
        refine aw_iload_n dX11_setNode_1 rfl ?_
        refine aw_invV_n dX11_setNode_2 vX11_requireNode kX11_66 rfl (c_rNode (γ := γ) hC hv c1) ⟨_, (by assumption), _, _, rfl⟩ rfl rfl (by decide) (by decide) (by decide) (Nat.le_of_ble_eq_true rfl) ?_
        refine aw_aload_n dX11_setNode_5 rfl ?_
        refine aw_iload_n dX11_setNode_6 rfl ?_
        refine aw_bipush dX11_setNode_7 rfl ?_
        refine aw_invV_n dX11_setNode_9 vX11_requireBelow kX11_69 rfl (c_rBelow (γ := γ) (b := 8) hx (by omega) d2) ⟨_, (by assumption), _, _, rfl⟩ rfl rfl (by decide) (by decide) (by decide) (Nat.le_of_ble_eq_true rfl) ?_
        refine aw_aload_n dX11_setNode_12 rfl ?_
        refine aw_iload_n dX11_setNode_13 rfl ?_
        refine aw_bipush dX11_setNode_14 rfl ?_
        refine aw_invV_n dX11_setNode_16 vX11_requireBelow kX11_69 rfl (c_rBelow (γ := γ) (b := 10) hy (by omega) d3) ⟨_, (by assumption), _, _, rfl⟩ rfl rfl (by decide) (by decide) (by decide) (Nat.le_of_ble_eq_true rfl) ?_
        refine aw_aload_n dX11_setNode_19 rfl ?_
        refine aw_getr' (j := 1) dX11_setNode_20 fX11_19 rfl (by assumption) rfl (by assumption) ?_
        refine aw_aload_n dX11_setNode_23 rfl ?_
        refine aw_getr' (j := 0) dX11_setNode_24 fX11_12 rfl (by assumption) rfl (by assumption) ?_
        refine aw_invV_f dX11_setNode_27 vX2_push kX11_90 rfl (c_save hC) ⟨_, (by assumption), _, _, rfl⟩ rfl rfl (by decide) (by decide) (by decide) (Nat.le_of_ble_eq_true rfl) (fun H1 hP9 => ?_)
        obtain ⟨C1, E1⟩ := hP9
        have C1 : isCl H1 c ((T, qs), psh U (T, qs), tx) := C1
        obtain ⟨hkc', r0', r1', r2', r3', r4', r5', r6', r7', r8', hks', s0', s1', hkq', hkt'⟩ := cl_f C1
        have hT1 : isTr H1 (c + 1 + 1) T := C1.2.1.2.1
        obtain ⟨g1, g2, g3, g4, g5, g6⟩ := hT1.2.2 u hu
        obtain ⟨hkt'', ⟨t1, k1⟩, ⟨t2, k2⟩, -⟩ := hT1.1
        have W2 := isTr_set (x := x) (y := y) hT1 hu
        have E2 : eqO H1 (si (si H1 (c + 1 + 1 + 1) (u : Int) x) (c + 1 + 1 + 2) (u : Int) y) (c + 1 + 1) (c + 1 + 11) := (eqO.si (by omega) (by omega)).tr (eqO.si (by omega) (by omega))
        have C2 : isCl (si (si H1 (c + 1 + 1 + 1) (u : Int) x) (c + 1 + 1 + 2) (u : Int) y) c ((setT T u x y, qs), psh U (T, qs), tx) := C1.tr E2 W2 oA
        refine aw_bipush dX11_setNode_30 rfl ?_
        refine aw_aload_n dX11_setNode_32 rfl ?_
        refine aw_getr' (j := 0) dX11_setNode_33 fX11_12 rfl (by assumption) rfl (by assumption) ?_
        refine aw_getr' (j := 0) dX11_setNode_36 fX11_73 rfl (by assumption) rfl (by assumption) ?_
        refine aw_getr' (j := 1) dX11_setNode_39 fX11_117 rfl (by assumption) rfl (by assumption) ?_
        refine aw_iload_n dX11_setNode_42 rfl ?_
        refine aw_iald' dX11_setNode_43 (by assumption) (by omega) (by first | decide | omega) g1 ?_
        refine aw_imul dX11_setNode_44 ?_
        refine aw_aload_n dX11_setNode_45 rfl ?_
        refine aw_getr' (j := 0) dX11_setNode_46 fX11_12 rfl (by assumption) rfl (by assumption) ?_
        refine aw_getr' (j := 0) dX11_setNode_49 fX11_73 rfl (by assumption) rfl (by assumption) ?_
        refine aw_getr' (j := 2) dX11_setNode_52 fX11_120 rfl (by assumption) rfl (by assumption) ?_
        refine aw_iload_n dX11_setNode_55 rfl ?_
        refine aw_iald' dX11_setNode_56 (by assumption) (by omega) (by first | decide | omega) g2 ?_
        refine aw_iadd dX11_setNode_57 ?_
        refine aw_istore (ls1 := [(4, _), (0, _), (1, _), (2, _), (3, _)]) dX11_setNode_58 (by decide) rfl ?_
        refine aw_aload_n dX11_setNode_60 rfl ?_
        refine aw_getr' (j := 0) dX11_setNode_61 fX11_12 rfl (by assumption) rfl (by assumption) ?_
        refine aw_getr' (j := 0) dX11_setNode_64 fX11_73 rfl (by assumption) rfl (by assumption) ?_
        refine aw_getr' (j := 1) dX11_setNode_67 fX11_117 rfl (by assumption) rfl (by assumption) ?_
        refine aw_iload_n dX11_setNode_70 rfl ?_
        refine aw_iload_n dX11_setNode_71 rfl ?_
        refine aw_iast dX11_setNode_72 (by assumption) (by omega) (by first | decide | omega) ?_
        refine aw_aload_n dX11_setNode_73 rfl ?_
        refine aw_getr' (j := 0) dX11_setNode_74 fX11_12 rfl (by assumption) rfl (by assumption) ?_
        refine aw_getr' (j := 0) dX11_setNode_77 fX11_73 rfl (by assumption) rfl (by assumption) ?_
        refine aw_getr' (j := 2) dX11_setNode_80 fX11_120 rfl (by assumption) rfl (by assumption) ?_
        refine aw_iload_n dX11_setNode_83 rfl ?_
        refine aw_iload_n dX11_setNode_84 rfl ?_
        refine aw_iast dX11_setNode_85 (by assumption) (by omega) (by first | decide | omega) ?_
        refine aw_iload dX11_setNode_86 rfl ?_
        exact aw_ireturn dX11_setNode_88 rfl (Or.inr ((E1.tr (E2.mono (lo' := c) (hi' := c + 1704) (by omega) (by omega))).1.trans hn)) (rC_ok C2 (E1.tr (E2.mono (by omega) (by omega))))
      · rw [if_pos (fun z => d3 ⟨z.2.1, by omega⟩)]
        refine Call.of (ls := [(0, vr (some c)), (1, vi v), (2, vi x), (3, vi y)]) vX11_setNode.1 (Nat.le_of_ble_eq_true rfl) rfl ?_
        refine aw_aload_n dX11_setNode_0 rfl ?_
        refine aw_iload_n dX11_setNode_1 rfl ?_
        refine aw_invV_n dX11_setNode_2 vX11_requireNode kX11_66 rfl (c_rNode (γ := γ) hC hv c1) ⟨_, (by assumption), _, _, rfl⟩ rfl rfl (by decide) (by decide) (by decide) (Nat.le_of_ble_eq_true rfl) ?_
        refine aw_aload_n dX11_setNode_5 rfl ?_
        refine aw_iload_n dX11_setNode_6 rfl ?_
        refine aw_bipush dX11_setNode_7 rfl ?_
        refine aw_invV_n dX11_setNode_9 vX11_requireBelow kX11_69 rfl (c_rBelow (γ := γ) (b := 8) hx (by omega) d2) ⟨_, (by assumption), _, _, rfl⟩ rfl rfl (by decide) (by decide) (by decide) (Nat.le_of_ble_eq_true rfl) ?_
        refine aw_aload_n dX11_setNode_12 rfl ?_
        refine aw_iload_n dX11_setNode_13 rfl ?_
        refine aw_bipush dX11_setNode_14 rfl ?_
        exact aw_invV_x dX11_setNode_16 vX11_requireBelow kX11_69 rfl (c_rBelow_x (γ := γ) (b := 10) hy (by omega) hn d3) ⟨_, (by assumption), _, _, rfl⟩ rfl rfl (by decide) (by decide) (by decide) (Nat.le_of_ble_eq_true rfl) (rC_err hC (by decide) rfl)
    · rw [if_pos (fun z => d2 ⟨z.1.1, by omega⟩)]
      refine Call.of (ls := [(0, vr (some c)), (1, vi v), (2, vi x), (3, vi y)]) vX11_setNode.1 (Nat.le_of_ble_eq_true rfl) rfl ?_
      refine aw_aload_n dX11_setNode_0 rfl ?_
      refine aw_iload_n dX11_setNode_1 rfl ?_
      refine aw_invV_n dX11_setNode_2 vX11_requireNode kX11_66 rfl (c_rNode (γ := γ) hC hv c1) ⟨_, (by assumption), _, _, rfl⟩ rfl rfl (by decide) (by decide) (by decide) (Nat.le_of_ble_eq_true rfl) ?_
      refine aw_aload_n dX11_setNode_5 rfl ?_
      refine aw_iload_n dX11_setNode_6 rfl ?_
      refine aw_bipush dX11_setNode_7 rfl ?_
      exact aw_invV_x dX11_setNode_9 vX11_requireBelow kX11_69 rfl (c_rBelow_x (γ := γ) (b := 8) hx (by omega) hn d2) ⟨_, (by assumption), _, _, rfl⟩ rfl rfl (by decide) (by decide) (by decide) (Nat.le_of_ble_eq_true rfl) (rC_err hC (by decide) rfl)
  · rw [if_pos c1]
    refine Call.of (ls := [(0, vr (some c)), (1, vi v), (2, vi x), (3, vi y)]) vX11_setNode.1 (Nat.le_of_ble_eq_true rfl) rfl ?_
    refine aw_aload_n dX11_setNode_0 rfl ?_
    refine aw_iload_n dX11_setNode_1 rfl ?_
    exact aw_invV_x dX11_setNode_2 vX11_requireNode kX11_66 rfl (c_rNode_x (γ := γ) hC hv hn c1) ⟨_, (by assumption), _, _, rfl⟩ rfl rfl (by decide) (by decide) (by decide) (Nat.le_of_ble_eq_true rfl) (rC_err hC (by decide) rfl)
