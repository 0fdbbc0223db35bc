/-! ===== the model: node, axis ===== -/
theorem al_lt {T : Tr} {v k ax : Nat} (ho : okTr T) (hv : v < tn T) (hx : ax ≤ 9) (h : alS T (ax : Int) v k = true) : k < tn T := by
  by_cases q : 6 ≤ ax
  · by_cases z : v ≤ k
    · rw [al_back ho hv ⟨q, hx⟩ z] at h; cases h
    · omega
  · have e9 := endT_spec (T := T) hv
    have hax : ax = 0 ∨ ax = 1 ∨ ax = 2 ∨ ax = 3 ∨ ax = 4 ∨ ax = 5 := by omega
    rcases hax with rfl | rfl | rfl | rfl | rfl | rfl
    · have h : decide (k < tn T ∧ tpa T k = v) = true := h
      exact (of_decide_eq_true h).1
    · have h : decide (k = v) = true := h
      have := of_decide_eq_true h
      omega
    · have h : (decide (v + 1 ≤ k) && decide (k < endT T v)) = true := h
      simp at h
      omega
    · have h : (decide (v ≤ k) && decide (k < endT T v)) = true := h
      simp at h
      omega
    · have h : (sbS T v k && (decide (v + 1 ≤ k) && decide (k < tn T))) = true := h
      simp at h
      omega
    · have h : (decide (endT T v ≤ k) && decide (k < tn T)) = true := h
      simp at h
      omega
theorem al_40 {T : Tr} {v ax : Nat} (ho : okTr T) (hv : v < tn T) (hx : ax ≤ 9) : fb_ct (alS T (ax : Int) v) 40 = fb_ct (alS T (ax : Int) v) (tn T) := by
  refine fb_40 ho.o.2.1 (fun k hk => ?_)
  cases q : alS T (ax : Int) v k with
  | false => rfl
  | true => have := al_lt ho hv hx q; omega
theorem lsA_len {T : Tr} {v ax : Nat} (ho : okTr T) (hv : v < tn T) (hx : ax ≤ 9) : (lsA T (ax : Int) v).length = fb_ct (alS T (ax : Int) v) 40 := by
  rw [al_40 ho hv hx]
  exact orL_len _ _ _
def atL (l : List Nat) (i : Int) : Int := match l[i.toNat]? with
  | some x => x
  | none => -1
def opNod (F : FS) (v x : Int) : Int × Int × FS :=
  if ¬ (0 ≤ v ∧ v < (tn F.1.1 : Int)) then (1, 0, F) else if ¬ (0 ≤ x ∧ x ≤ 5) then (2, 0, F) else (0, telT F.1.1 v.toNat x, F)
def opAxi (F : FS) (v x i : Int) : Int × Int × FS :=
  if ¬ (0 ≤ v ∧ v < (tn F.1.1 : Int)) then (1, 0, F) else if ¬ ((0 ≤ x ∧ x ≤ 9) ∧ 0 ≤ i) then (2, 0, F) else (0, atL (lsA F.1.1 x v.toNat) i, F)
theorem SI_k {a : Nat} : ∀ b j, SI a b j → SK a b j := fun b j z => by unfold SI at z; unfold SK; omega
theorem m_nodeValue {γ : GG} {h : AH} {a v x : Nat} {T : Tr} (hM : shM h a) (hT : gTr (gi h (a + 1)) 0 T) (ho : okTr T) (hv : v < tn T) (hx : x ≤ 5) : Call γ mX12_nodeValue 5 0 0 [vr (some a), vi (v : Int), vi (x : Int)] h (rE (vi (telT T v (x : Int))) (eqG (SI a) h)) := by
  obtain ⟨hka, -, -⟩ := hM.q
  obtain ⟨rm, km⟩ := hM.m
  have n40 := ho.o.2.1
  have e9 := endT_spec (T := T) hv
  obtain ⟨c0, c1, c2⟩ := gTr_c hT hv
  match x, hx with
  | 0, _ =>
    refine Call.of (ls := [(0, vr (some a)), (1, vi (v : Int)), (2, vi ((0 : Nat) : Int))]) vX12_nodeValue.1 (Nat.le_of_ble_eq_true rfl) rfl ?_
    have c0' : gi h (a + 1) (1 + 3 * (v : Int) + ((0 : Nat) : Int)) = tnm T v := by rw [show (1 : Int) + 3 * (v : Int) + ((0 : Nat) : Int) = 1 + 3 * (v : Int) by omega]; exact c0
    refine aw_iload_n dX12_nodeValue_0 rfl ?_
    refine aw_tableOut (tgt := 61) dX12_nodeValue_1 (by omega) (Or.inl (by decide)) rfl ?_
    refine aw_aload_n dX12_nodeValue_61 rfl ?_
    refine aw_getr' (j := 0) dX12_nodeValue_62 fX12_7 rfl (by assumption) rfl (by assumption) ?_
    refine aw_iconst dX12_nodeValue_65 ?_
    refine aw_iconst dX12_nodeValue_66 ?_
    refine aw_iload_n dX12_nodeValue_67 rfl ?_
    refine aw_imul dX12_nodeValue_68 ?_
    refine aw_iadd dX12_nodeValue_69 ?_
    refine aw_iload_n dX12_nodeValue_70 rfl ?_
    refine aw_iadd dX12_nodeValue_71 ?_
    refine aw_iald' dX12_nodeValue_72 (by assumption) (by omega) (by first | decide | omega) (c0') ?_
    exact aw_ireturn dX12_nodeValue_73 rfl (Or.inl rfl) ⟨rfl, eqG.rf⟩
  | 1, _ =>
    refine Call.of (ls := [(0, vr (some a)), (1, vi (v : Int)), (2, vi ((1 : Nat) : Int))]) vX12_nodeValue.1 (Nat.le_of_ble_eq_true rfl) rfl ?_
    have c1' : gi h (a + 1) (1 + 3 * (v : Int) + ((1 : Nat) : Int)) = tvl T v := c1
    refine aw_iload_n dX12_nodeValue_0 rfl ?_
    refine aw_tableOut (tgt := 61) dX12_nodeValue_1 (by omega) (Or.inl (by decide)) rfl ?_
    refine aw_aload_n dX12_nodeValue_61 rfl ?_
    refine aw_getr' (j := 0) dX12_nodeValue_62 fX12_7 rfl (by assumption) rfl (by assumption) ?_
    refine aw_iconst dX12_nodeValue_65 ?_
    refine aw_iconst dX12_nodeValue_66 ?_
    refine aw_iload_n dX12_nodeValue_67 rfl ?_
    refine aw_imul dX12_nodeValue_68 ?_
    refine aw_iadd dX12_nodeValue_69 ?_
    refine aw_iload_n dX12_nodeValue_70 rfl ?_
    refine aw_iadd dX12_nodeValue_71 ?_
    refine aw_iald' dX12_nodeValue_72 (by assumption) (by omega) (by first | decide | omega) (c1') ?_
    exact aw_ireturn dX12_nodeValue_73 rfl (Or.inl rfl) ⟨rfl, eqG.rf⟩
  | 2, _ =>
    refine Call.of (ls := [(0, vr (some a)), (1, vi (v : Int)), (2, vi ((2 : Nat) : Int))]) vX12_nodeValue.1 (Nat.le_of_ble_eq_true rfl) rfl ?_
    have c2' : gi h (a + 1) (1 + 3 * (v : Int) + ((2 : Nat) : Int)) = tpa T v := c2
    refine aw_iload_n dX12_nodeValue_0 rfl ?_
    refine aw_tableOut (tgt := 61) dX12_nodeValue_1 (by omega) (Or.inl (by decide)) rfl ?_
    refine aw_aload_n dX12_nodeValue_61 rfl ?_
    refine aw_getr' (j := 0) dX12_nodeValue_62 fX12_7 rfl (by assumption) rfl (by assumption) ?_
    refine aw_iconst dX12_nodeValue_65 ?_
    refine aw_iconst dX12_nodeValue_66 ?_
    refine aw_iload_n dX12_nodeValue_67 rfl ?_
    refine aw_imul dX12_nodeValue_68 ?_
    refine aw_iadd dX12_nodeValue_69 ?_
    refine aw_iload_n dX12_nodeValue_70 rfl ?_
    refine aw_iadd dX12_nodeValue_71 ?_
    refine aw_iald' dX12_nodeValue_72 (by assumption) (by omega) (by first | decide | omega) (c2') ?_
    exact aw_ireturn dX12_nodeValue_73 rfl (Or.inl rfl) ⟨rfl, eqG.rf⟩
  | 3, _ =>
    have KL := m_listAxis (γ := γ) (ax := 0) hM hT ho hv (by decide)
    have LL := lsA_len (ax := 0) ho hv (by decide)
    have LL : (lsA T ((0 : Nat) : Int) v).length = fb_ct (chS T v) 40 := LL
    refine Call.of (ls := [(0, vr (some a)), (1, vi (v : Int)), (2, vi ((3 : Nat) : Int))]) vX12_nodeValue.1 (Nat.le_of_ble_eq_true rfl) rfl ?_
    refine aw_iload_n dX12_nodeValue_0 rfl ?_
    refine aw_tableIn (off := 27) (tgt := 28) dX12_nodeValue_1 (by omega) (by decide) (by decide) rfl rfl ?_
    refine aw_aload_n dX12_nodeValue_28 rfl ?_
    refine aw_iload_n dX12_nodeValue_29 rfl ?_
    refine aw_iconst dX12_nodeValue_30 ?_
    refine aw_invV_f dX12_nodeValue_31 vX12_listAxis kX12_111 rfl (KL) ⟨_, (by assumption), _, _, rfl⟩ rfl rfl (by decide) (by decide) (by decide) (Nat.le_of_ble_eq_true rfl) (fun H1 hP9 => ?_)
    obtain ⟨L1, E1⟩ := hP9
    have hka1 := (E1.1 a).trans hka
    have g7 := L1.1
    rw [LL] at g7
    refine aw_aload_n dX12_nodeValue_34 rfl ?_
    refine aw_geti' (j := 7) dX12_nodeValue_35 fX12_114 rfl (by assumption) rfl g7 ?_
    exact aw_ireturn dX12_nodeValue_38 rfl (Or.inl rfl) ⟨rfl, E1⟩
  | 4, _ =>
    have KE := m_endOf (γ := γ) hM hT ho.rg hv
    refine Call.of (ls := [(0, vr (some a)), (1, vi (v : Int)), (2, vi ((4 : Nat) : Int))]) vX12_nodeValue.1 (Nat.le_of_ble_eq_true rfl) rfl ?_
    refine aw_iload_n dX12_nodeValue_0 rfl ?_
    refine aw_tableIn (off := 38) (tgt := 39) dX12_nodeValue_1 (by omega) (by decide) (by decide) rfl rfl ?_
    refine aw_aload_n dX12_nodeValue_39 rfl ?_
    refine aw_iload_n dX12_nodeValue_40 rfl ?_
    refine aw_invV_r dX12_nodeValue_41 vX12_endOf kX12_88 rfl (KE) ⟨_, (by assumption), _, _, rfl⟩ rfl rfl (by decide) (by decide) (by decide) (Nat.le_of_ble_eq_true rfl) ?_
    refine aw_iload_n dX12_nodeValue_44 rfl ?_
    refine aw_isub dX12_nodeValue_45 ?_
    refine aw_iconst dX12_nodeValue_46 ?_
    refine aw_isub dX12_nodeValue_47 ?_
    rw [show ((endT T v : Nat) : Int) - (v : Int) - 1 = (endT T v : Int) - 1 - v by omega]
    exact aw_ireturn dX12_nodeValue_48 rfl (Or.inl rfl) ⟨rfl, eqG.rf⟩
  | 5, _ =>
    have KL := m_listAxis (γ := γ) (ax := 7) hM hT ho hv (by decide)
    have LL := lsA_len (ax := 7) ho hv (by decide)
    have LL : (lsA T ((7 : Nat) : Int) v).length = fb_ct (anS T v) 40 := LL
    refine Call.of (ls := [(0, vr (some a)), (1, vi (v : Int)), (2, vi ((5 : Nat) : Int))]) vX12_nodeValue.1 (Nat.le_of_ble_eq_true rfl) rfl ?_
    refine aw_iload_n dX12_nodeValue_0 rfl ?_
    refine aw_tableIn (off := 48) (tgt := 49) dX12_nodeValue_1 (by omega) (by decide) (by decide) rfl rfl ?_
    refine aw_aload_n dX12_nodeValue_49 rfl ?_
    refine aw_iload_n dX12_nodeValue_50 rfl ?_
    refine aw_bipush dX12_nodeValue_51 rfl ?_
    refine aw_invV_f dX12_nodeValue_53 vX12_listAxis kX12_111 rfl (KL) ⟨_, (by assumption), _, _, rfl⟩ rfl rfl (by decide) (by decide) (by decide) (Nat.le_of_ble_eq_true rfl) (fun H1 hP9 => ?_)
    obtain ⟨L1, E1⟩ := hP9
    have hka1 := (E1.1 a).trans hka
    have g7 := L1.1
    rw [LL] at g7
    refine aw_aload_n dX12_nodeValue_56 rfl ?_
    refine aw_geti' (j := 7) dX12_nodeValue_57 fX12_114 rfl (by assumption) rfl g7 ?_
    exact aw_ireturn dX12_nodeValue_60 rfl (Or.inl rfl) ⟨rfl, E1⟩
  | n + 6, hx => exact absurd hx (by omega)
theorem rM_ok {h H : AH} {a : Nat} {F : FS} (hF : isF h a F) (e : eqG (SK a) (si h a 5 0) H) (e5 : gi H a 5 = 0) : isF H a F ∧ gi H a 5 = 0 ∧ eqG (SA a) h H := ⟨isMd.eqk (isMd.eqk hF E5) e, e5, (E5.mono SA_k).tr (e.mono SA_k)⟩
theorem m_node {γ : GG} {h : AH} {a : Nat} {F : FS} {v x : Int} (hF : isF h a F) (hv : (-2147483648 ≤ v ∧ v ≤ 2147483647)) (hx : (-2147483648 ≤ x ∧ x ≤ 2147483647)) : Call γ mX12_node 6 0 0 [vr (some a), vi v, vi x] h (rM h a (opNod F v x)) := by
  obtain ⟨S, U, tx⟩ := F
  obtain ⟨T, qs⟩ := S
  have hm : isMd h a (T, qs) U tx := hF
  have oT : okTr T := hm.2.2.1.1
  have o9 := oT.o
  have n40 := o9.2.1
  have n1 := o9.1
  obtain ⟨hka, -, -⟩ := hm.1.q
  obtain ⟨rm, km⟩ := hm.1.m
  have g0 : gi h (a + 1) 0 = (tn T : Int) := hm.2.1.1.1
  have m5 := hm.eqk (E5 (v := 0))
  have KN := m_isNode (γ := γ) hm.1 hv g0 (by omega)
  have KI := m_in (γ := γ) (h := h) (v := x) (l := 0) (m := 5) hx (by omega) (by omega)
  unfold opNod
  dsimp only
  by_cases c1 : 0 ≤ v ∧ v < (tn T : Int)
  · rw [if_neg (fun z => z c1)]
    rw [if_pos c1] at KN
    by_cases c2 : 0 ≤ x ∧ x ≤ 5
    · rw [if_neg (fun z => z c2)]
      rw [if_pos c2] at KI
      obtain ⟨u, rfl⟩ := Int.eq_ofNat_of_zero_le c1.1
      obtain ⟨y, rfl⟩ := Int.eq_ofNat_of_zero_le c2.1
      rw [Int.toNat_natCast]
      have KV := m_nodeValue (γ := γ) (T := T) (v := u) (x := y) m5.1 m5.2.1.1 oT (by omega) (by omega)
      refine Call.of (ls := [(0, vr (some a)), (1, vi (u : Int)), (2, vi (y : Int))]) vX12_node.1 (Nat.le_of_ble_eq_true rfl) rfl ?_
      refine aw_aload_n dX12_node_0 rfl ?_
      refine aw_aload_n dX12_node_1 rfl ?_
      refine aw_iload_n dX12_node_2 rfl ?_
      refine aw_invV_r dX12_node_3 vX12_isNode kX12_77 rfl (KN) ⟨_, (by assumption), _, _, rfl⟩ rfl rfl (by decide) (by decide) (by decide) (Nat.le_of_ble_eq_true rfl) ?_
      refine aw_if_ne (tgt := 13) dX12_node_6 rfl (by omega) (fun c6 => ?_) (fun c6 => ?_)
      · refine aw_iload_n dX12_node_13 rfl ?_
        refine aw_iconst dX12_node_14 ?_
        refine aw_iconst dX12_node_15 ?_
        refine aw_invS_r dX12_node_16 sX12_in kX12_69 rfl (KI) rfl rfl (by decide) (by decide) (by decide) (Nat.le_of_ble_eq_true rfl) ?_
        refine aw_if_ne (tgt := 26) dX12_node_19 rfl (by omega) (fun c19 => ?_) (fun c19 => ?_)
        · refine aw_iconst dX12_node_26 ?_
          refine aw_puti' (j := 5) rfl dX12_node_27 fX12_62 (by assumption) rfl ?_
          refine aw_aload_n dX12_node_30 rfl ?_
          refine aw_geti' (j := 5) dX12_node_31 fX12_62 rfl (by assumption) rfl (gi_at rfl rfl) ?_
          refine aw_if_eq (tgt := 41) dX12_node_34 rfl (by omega) (fun c34 => ?_) (fun c34 => ?_)
          · refine aw_aload_n dX12_node_41 rfl ?_
            refine aw_iload_n dX12_node_42 rfl ?_
            refine aw_iload_n dX12_node_43 rfl ?_
            refine aw_invV_e dX12_node_44 vX12_nodeValue kX12_117 rfl (KV) ⟨_, (by assumption), _, _, rfl⟩ rfl rfl (by decide) (by decide) (by decide) (Nat.le_of_ble_eq_true rfl) (fun H1 hP9 => ?_)
            have E1 := hP9
            exact aw_ireturn dX12_node_47 rfl (Or.inl rfl) ⟨rfl, rM_ok hF (E1.mono SI_k) ((E1.2.2.2.2 _ _ (by unfold SI; omega)).trans (gi_at rfl rfl))⟩
          · exact absurd c34 (by omega)
        · exact absurd c19 (by omega)
      · exact absurd c6 (by omega)
    · rw [if_pos (fun z => c2 z)]
      rw [if_neg c2] at KI
      refine Call.of (ls := [(0, vr (some a)), (1, vi v), (2, vi x)]) vX12_node.1 (Nat.le_of_ble_eq_true rfl) rfl ?_
      refine aw_aload_n dX12_node_0 rfl ?_
      refine aw_aload_n dX12_node_1 rfl ?_
      refine aw_iload_n dX12_node_2 rfl ?_
      refine aw_invV_r dX12_node_3 vX12_isNode kX12_77 rfl (KN) ⟨_, (by assumption), _, _, rfl⟩ rfl rfl (by decide) (by decide) (by decide) (Nat.le_of_ble_eq_true rfl) ?_
      refine aw_if_ne (tgt := 13) dX12_node_6 rfl (by omega) (fun c6 => ?_) (fun c6 => ?_)
      · refine aw_iload_n dX12_node_13 rfl ?_
        refine aw_iconst dX12_node_14 ?_
        refine aw_iconst dX12_node_15 ?_
        refine aw_invS_r dX12_node_16 sX12_in kX12_69 rfl (KI) rfl rfl (by decide) (by decide) (by decide) (Nat.le_of_ble_eq_true rfl) ?_
        refine aw_if_ne (tgt := 26) dX12_node_19 rfl (by omega) (fun c19 => ?_) (fun c19 => ?_)
        · exact absurd c19 (by omega)
        · refine aw_iconst dX12_node_22 ?_
          refine aw_goto (tgt := 27) dX12_node_23 rfl ?_
          refine aw_puti' (j := 5) rfl dX12_node_27 fX12_62 (by assumption) rfl ?_
          refine aw_aload_n dX12_node_30 rfl ?_
          refine aw_geti' (j := 5) dX12_node_31 fX12_62 rfl (by assumption) rfl (gi_at rfl rfl) ?_
          refine aw_if_eq (tgt := 41) dX12_node_34 rfl (by omega) (fun c34 => ?_) (fun c34 => ?_)
          · exact absurd c34 (by omega)
          · refine aw_iconst dX12_node_37 ?_
            refine aw_goto (tgt := 47) dX12_node_38 rfl ?_
            exact aw_ireturn dX12_node_47 rfl (Or.inl rfl) ⟨rfl, rM_err hF 2⟩
      · exact absurd c6 (by omega)
  · rw [if_pos (fun z => c1 z)]
    rw [if_neg c1] at KN
    refine Call.of (ls := [(0, vr (some a)), (1, vi v), (2, vi x)]) vX12_node.1 (Nat.le_of_ble_eq_true rfl) rfl ?_
    refine aw_aload_n dX12_node_0 rfl ?_
    refine aw_aload_n dX12_node_1 rfl ?_
    refine aw_iload_n dX12_node_2 rfl ?_
    refine aw_invV_r dX12_node_3 vX12_isNode kX12_77 rfl (KN) ⟨_, (by assumption), _, _, rfl⟩ rfl rfl (by decide) (by decide) (by decide) (Nat.le_of_ble_eq_true rfl) ?_
    refine aw_if_ne (tgt := 13) dX12_node_6 rfl (by omega) (fun c6 => ?_) (fun c6 => ?_)
    · exact absurd c6 (by omega)
    · refine aw_iconst dX12_node_9 ?_
      refine aw_goto (tgt := 27) dX12_node_10 rfl ?_
      refine aw_puti' (j := 5) rfl dX12_node_27 fX12_62 (by assumption) rfl ?_
      refine aw_aload_n dX12_node_30 rfl ?_
      refine aw_geti' (j := 5) dX12_node_31 fX12_62 rfl (by assumption) rfl (gi_at rfl rfl) ?_
      refine aw_if_eq (tgt := 41) dX12_node_34 rfl (by omega) (fun c34 => ?_) (fun c34 => ?_)
      · exact absurd c34 (by omega)
      · refine aw_iconst dX12_node_37 ?_
        refine aw_goto (tgt := 47) dX12_node_38 rfl ?_
        exact aw_ireturn dX12_node_47 rfl (Or.inl rfl) ⟨rfl, rM_err hF 1⟩
theorem m_axis {γ : GG} {h : AH} {a : Nat} {F : FS} {v x i : Int} (hF : isF h a F) (hv : (-2147483648 ≤ v ∧ v ≤ 2147483647)) (hx : (-2147483648 ≤ x ∧ x ≤ 2147483647)) (hi : (-2147483648 ≤ i ∧ i ≤ 2147483647)) : Call γ mX12_axis 5 0 0 [vr (some a), vi v, vi x, vi i] h (rM h a (opAxi F v x i)) := by
  obtain ⟨S, U, tx⟩ := F
  obtain ⟨T, qs⟩ := S
  have hm : isMd h a (T, qs) U tx := hF
  have oT : okTr T := hm.2.2.1.1
  have o9 := oT.o
  have n40 := o9.2.1
  have n1 := o9.1
  obtain ⟨hka, -, -⟩ := hm.1.q
  obtain ⟨rm, km⟩ := hm.1.m
  have g0 : gi h (a + 1) 0 = (tn T : Int) := hm.2.1.1.1
  have m5 := hm.eqk (E5 (v := 0))
  have KN := m_isNode (γ := γ) hm.1 hv g0 (by omega)
  have KI := m_in (γ := γ) (h := h) (v := x) (l := 0) (m := 9) hx (by omega) (by omega)
  unfold opAxi
  dsimp only
  by_cases c1 : 0 ≤ v ∧ v < (tn T : Int)
  · rw [if_neg (fun z => z c1)]
    rw [if_pos c1] at KN
    by_cases c2 : 0 ≤ x ∧ x ≤ 9
    · rw [if_pos c2] at KI
      by_cases c3 : 0 ≤ i
      · rw [if_neg (fun z => z ⟨c2, c3⟩)]
        obtain ⟨u, rfl⟩ := Int.eq_ofNat_of_zero_le c1.1
        obtain ⟨y, rfl⟩ := Int.eq_ofNat_of_zero_le c2.1
        obtain ⟨j, rfl⟩ := Int.eq_ofNat_of_zero_le c3
        rw [Int.toNat_natCast]
        have KV := m_listAxis (γ := γ) (T := T) (v := u) (ax := y) m5.1 m5.2.1.1 oT (by omega) (by omega)
        have ln := orL_len (rv6 (y : Int)) (alS T (y : Int) u) (tn T)
        have lm := fb_ct_le (alS T (y : Int) u) (tn T)
        have ln : (lsA T (y : Int) u).length = _ := ln
        unfold atL
        rw [Int.toNat_natCast]
        by_cases c4 : j < (lsA T (y : Int) u).length
        · have hj := List.getElem?_eq_getElem c4
          rw [hj]
          generalize (lsA T (y : Int) u)[j] = z at hj
          dsimp only
          refine Call.of (ls := [(0, vr (some a)), (1, vi (u : Int)), (2, vi (y : Int)), (3, vi (j : Int))]) vX12_axis.1 (Nat.le_of_ble_eq_true rfl) rfl ?_
          refine aw_aload_n dX12_axis_0 rfl ?_
          refine aw_aload_n dX12_axis_1 rfl ?_
          refine aw_iload_n dX12_axis_2 rfl ?_
          refine aw_invV_r dX12_axis_3 vX12_isNode kX12_77 rfl (KN) ⟨_, (by assumption), _, _, rfl⟩ rfl rfl (by decide) (by decide) (by decide) (Nat.le_of_ble_eq_true rfl) ?_
          refine aw_if_ne (tgt := 13) dX12_axis_6 rfl (by omega) (fun c6 => ?_) (fun c6 => ?_)
          · refine aw_iload_n dX12_axis_13 rfl ?_
            refine aw_iconst dX12_axis_14 ?_
            refine aw_bipush dX12_axis_15 rfl ?_
            refine aw_invS_r dX12_axis_17 sX12_in kX12_69 rfl (KI) rfl rfl (by decide) (by decide) (by decide) (Nat.le_of_ble_eq_true rfl) ?_
            refine aw_if_eq (tgt := 27) dX12_axis_20 rfl (by omega) (fun c20 => ?_) (fun c20 => ?_)
            · exact absurd c20 (by omega)
            · refine aw_iload_n dX12_axis_23 rfl ?_
              refine aw_if_ge (tgt := 31) dX12_axis_24 rfl (by omega) (fun c24 => ?_) (fun c24 => ?_)
              · refine aw_iconst dX12_axis_31 ?_
                refine aw_puti' (j := 5) rfl dX12_axis_32 fX12_62 (by assumption) rfl ?_
                refine aw_aload_n dX12_axis_35 rfl ?_
                refine aw_geti' (j := 5) dX12_axis_36 fX12_62 rfl (by assumption) rfl (gi_at rfl rfl) ?_
                refine aw_if_eq (tgt := 44) dX12_axis_39 rfl (by omega) (fun c39 => ?_) (fun c39 => ?_)
                · refine aw_aload_n dX12_axis_44 rfl ?_
                  refine aw_iload_n dX12_axis_45 rfl ?_
                  refine aw_iload_n dX12_axis_46 rfl ?_
                  refine aw_invV_f dX12_axis_47 vX12_listAxis kX12_111 rfl (KV) ⟨_, (by assumption), _, _, rfl⟩ rfl rfl (by decide) (by decide) (by decide) (Nat.le_of_ble_eq_true rfl) (fun H1 hP9 => ?_)
                  obtain ⟨L1, E1⟩ := hP9
                  have hM1 := E1.sh m5.1
                  obtain ⟨hka1, -, -⟩ := hM1.q
                  obtain ⟨-, -, -, -, -, ⟨rl, kl⟩, -⟩ := hM1
                  have g7 := L1.1
                  have gz := L1.2 j z hj
                  refine aw_iload_n dX12_axis_50 rfl ?_
                  refine aw_aload_n dX12_axis_51 rfl ?_
                  refine aw_geti' (j := 7) dX12_axis_52 fX12_114 rfl (by assumption) rfl g7 ?_
                  refine aw_ic_ge (tgt := 67) dX12_axis_55 rfl (by omega) (by omega) (fun c55 => ?_) (fun c55 => ?_)
                  · exact absurd c55 (by omega)
                  · refine aw_aload_n dX12_axis_58 rfl ?_
                    refine aw_getr' (j := 8) dX12_axis_59 fX12_22 rfl (by assumption) rfl (by assumption) ?_
                    refine aw_iload_n dX12_axis_62 rfl ?_
                    refine aw_iald' dX12_axis_63 (by assumption) (by omega) (by first | decide | omega) gz ?_
                    refine aw_goto (tgt := 68) dX12_axis_64 rfl ?_
                    exact aw_ireturn dX12_axis_68 rfl (Or.inl rfl) ⟨rfl, rM_ok hF (E1.mono SI_k) ((E1.2.2.2.2 _ _ (by unfold SI; omega)).trans (gi_at rfl rfl))⟩
                · exact absurd c39 (by omega)
              · exact absurd c24 (by omega)
          · exact absurd c6 (by omega)
        · have hj := List.getElem?_eq_none (show (lsA T (y : Int) u).length ≤ j by omega)
          rw [hj]
          dsimp only
          refine Call.of (ls := [(0, vr (some a)), (1, vi (u : Int)), (2, vi (y : Int)), (3, vi (j : Int))]) vX12_axis.1 (Nat.le_of_ble_eq_true rfl) rfl ?_
          refine aw_aload_n dX12_axis_0 rfl ?_
          refine aw_aload_n dX12_axis_1 rfl ?_
          refine aw_iload_n dX12_axis_2 rfl ?_
          refine aw_invV_r dX12_axis_3 vX12_isNode kX12_77 rfl (KN) ⟨_, (by assumption), _, _, rfl⟩ rfl rfl (by decide) (by decide) (by decide) (Nat.le_of_ble_eq_true rfl) ?_
          refine aw_if_ne (tgt := 13) dX12_axis_6 rfl (by omega) (fun c6 => ?_) (fun c6 => ?_)
          · refine aw_iload_n dX12_axis_13 rfl ?_
            refine aw_iconst dX12_axis_14 ?_
            refine aw_bipush dX12_axis_15 rfl ?_
            refine aw_invS_r dX12_axis_17 sX12_in kX12_69 rfl (KI) rfl rfl (by decide) (by decide) (by decide) (Nat.le_of_ble_eq_true rfl) ?_
            refine aw_if_eq (tgt := 27) dX12_axis_20 rfl (by omega) (fun c20 => ?_) (fun c20 => ?_)
            · exact absurd c20 (by omega)
            · refine aw_iload_n dX12_axis_23 rfl ?_
              refine aw_if_ge (tgt := 31) dX12_axis_24 rfl (by omega) (fun c24 => ?_) (fun c24 => ?_)
              · refine aw_iconst dX12_axis_31 ?_
                refine aw_puti' (j := 5) rfl dX12_axis_32 fX12_62 (by assumption) rfl ?_
                refine aw_aload_n dX12_axis_35 rfl ?_
                refine aw_geti' (j := 5) dX12_axis_36 fX12_62 rfl (by assumption) rfl (gi_at rfl rfl) ?_
                refine aw_if_eq (tgt := 44) dX12_axis_39 rfl (by omega) (fun c39 => ?_) (fun c39 => ?_)
                · refine aw_aload_n dX12_axis_44 rfl ?_
                  refine aw_iload_n dX12_axis_45 rfl ?_
                  refine aw_iload_n dX12_axis_46 rfl ?_
                  refine aw_invV_f dX12_axis_47 vX12_listAxis kX12_111 rfl (KV) ⟨_, (by assumption), _, _, rfl⟩ rfl rfl (by decide) (by decide) (by decide) (Nat.le_of_ble_eq_true rfl) (fun H1 hP9 => ?_)
                  obtain ⟨L1, E1⟩ := hP9
                  have hM1 := E1.sh m5.1
                  obtain ⟨hka1, -, -⟩ := hM1.q
                  have g7 := L1.1
                  refine aw_iload_n dX12_axis_50 rfl ?_
                  refine aw_aload_n dX12_axis_51 rfl ?_
                  refine aw_geti' (j := 7) dX12_axis_52 fX12_114 rfl (by assumption) rfl g7 ?_
                  refine aw_ic_ge (tgt := 67) dX12_axis_55 rfl (by omega) (by omega) (fun c55 => ?_) (fun c55 => ?_)
                  · refine aw_iconst dX12_axis_67 ?_
                    exact aw_ireturn dX12_axis_68 rfl (Or.inl rfl) ⟨rfl, rM_ok hF (E1.mono SI_k) ((E1.2.2.2.2 _ _ (by unfold SI; omega)).trans (gi_at rfl rfl))⟩
                  · exact absurd c55 (by omega)
                · exact absurd c39 (by omega)
              · exact absurd c24 (by omega)
          · exact absurd c6 (by omega)
      · rw [if_pos (fun z => c3 z.2)]
        refine Call.of (ls := [(0, vr (some a)), (1, vi v), (2, vi x), (3, vi i)]) vX12_axis.1 (Nat.le_of_ble_eq_true rfl) rfl ?_
        refine aw_aload_n dX12_axis_0 rfl ?_
        refine aw_aload_n dX12_axis_1 rfl ?_
        refine aw_iload_n dX12_axis_2 rfl ?_
        refine aw_invV_r dX12_axis_3 vX12_isNode kX12_77 rfl (KN) ⟨_, (by assumption), _, _, rfl⟩ rfl rfl (by decide) (by decide) (by decide) (Nat.le_of_ble_eq_true rfl) ?_
        refine aw_if_ne (tgt := 13) dX12_axis_6 rfl (by omega) (fun c6 => ?_) (fun c6 => ?_)
        · refine aw_iload_n dX12_axis_13 rfl ?_
          refine aw_iconst dX12_axis_14 ?_
          refine aw_bipush dX12_axis_15 rfl ?_
          refine aw_invS_r dX12_axis_17 sX12_in kX12_69 rfl (KI) rfl rfl (by decide) (by decide) (by decide) (Nat.le_of_ble_eq_true rfl) ?_
          refine aw_if_eq (tgt := 27) dX12_axis_20 rfl (by omega) (fun c20 => ?_) (fun c20 => ?_)
          · exact absurd c20 (by omega)
          · refine aw_iload_n dX12_axis_23 rfl ?_
            refine aw_if_ge (tgt := 31) dX12_axis_24 rfl (by omega) (fun c24 => ?_) (fun c24 => ?_)
            · exact absurd c24 (by omega)
            · refine aw_iconst dX12_axis_27 ?_
              refine aw_goto (tgt := 32) dX12_axis_28 rfl ?_
              refine aw_puti' (j := 5) rfl dX12_axis_32 fX12_62 (by assumption) rfl ?_
              refine aw_aload_n dX12_axis_35 rfl ?_
              refine aw_geti' (j := 5) dX12_axis_36 fX12_62 rfl (by assumption) rfl (gi_at rfl rfl) ?_
              refine aw_if_eq (tgt := 44) dX12_axis_39 rfl (by omega) (fun c39 => ?_) (fun c39 => ?_)
              · exact absurd c39 (by omega)
              · refine aw_iconst dX12_axis_42 ?_
                exact aw_ireturn dX12_axis_43 rfl (Or.inl rfl) ⟨rfl, rM_err hF 2⟩
        · exact absurd c6 (by omega)
    · rw [if_pos (fun z => c2 z.1)]
      rw [if_neg c2] at KI
      refine Call.of (ls := [(0, vr (some a)), (1, vi v), (2, vi x), (3, vi i)]) vX12_axis.1 (Nat.le_of_ble_eq_true rfl) rfl ?_
      refine aw_aload_n dX12_axis_0 rfl ?_
      refine aw_aload_n dX12_axis_1 rfl ?_
      refine aw_iload_n dX12_axis_2 rfl ?_
      refine aw_invV_r dX12_axis_3 vX12_isNode kX12_77 rfl (KN) ⟨_, (by assumption), _, _, rfl⟩ rfl rfl (by decide) (by decide) (by decide) (Nat.le_of_ble_eq_true rfl) ?_
      refine aw_if_ne (tgt := 13) dX12_axis_6 rfl (by omega) (fun c6 => ?_) (fun c6 => ?_)
      · refine aw_iload_n dX12_axis_13 rfl ?_
        refine aw_iconst dX12_axis_14 ?_
        refine aw_bipush dX12_axis_15 rfl ?_
        refine aw_invS_r dX12_axis_17 sX12_in kX12_69 rfl (KI) rfl rfl (by decide) (by decide) (by decide) (Nat.le_of_ble_eq_true rfl) ?_
        refine aw_if_eq (tgt := 27) dX12_axis_20 rfl (by omega) (fun c20 => ?_) (fun c20 => ?_)
        · refine aw_iconst dX12_axis_27 ?_
          refine aw_goto (tgt := 32) dX12_axis_28 rfl ?_
          refine aw_puti' (j := 5) rfl dX12_axis_32 fX12_62 (by assumption) rfl ?_
          refine aw_aload_n dX12_axis_35 rfl ?_
          refine aw_geti' (j := 5) dX12_axis_36 fX12_62 rfl (by assumption) rfl (gi_at rfl rfl) ?_
          refine aw_if_eq (tgt := 44) dX12_axis_39 rfl (by omega) (fun c39 => ?_) (fun c39 => ?_)
          · exact absurd c39 (by omega)
          · refine aw_iconst dX12_axis_42 ?_
            exact aw_ireturn dX12_axis_43 rfl (Or.inl rfl) ⟨rfl, rM_err hF 2⟩
        · exact absurd c20 (by omega)
      · exact absurd c6 (by omega)
  · rw [if_pos (fun z => c1 z)]
    rw [if_neg c1] at KN
    refine Call.of (ls := [(0, vr (some a)), (1, vi v), (2, vi x), (3, vi i)]) vX12_axis.1 (Nat.le_of_ble_eq_true rfl) rfl ?_
    refine aw_aload_n dX12_axis_0 rfl ?_
    refine aw_aload_n dX12_axis_1 rfl ?_
    refine aw_iload_n dX12_axis_2 rfl ?_
    refine aw_invV_r dX12_axis_3 vX12_isNode kX12_77 rfl (KN) ⟨_, (by assumption), _, _, rfl⟩ rfl rfl (by decide) (by decide) (by decide) (Nat.le_of_ble_eq_true rfl) ?_
    refine aw_if_ne (tgt := 13) dX12_axis_6 rfl (by omega) (fun c6 => ?_) (fun c6 => ?_)
    · exact absurd c6 (by omega)
    · refine aw_iconst dX12_axis_9 ?_
      refine aw_goto (tgt := 32) dX12_axis_10 rfl ?_
      refine aw_puti' (j := 5) rfl dX12_axis_32 fX12_62 (by assumption) rfl ?_
      refine aw_aload_n dX12_axis_35 rfl ?_
      refine aw_geti' (j := 5) dX12_axis_36 fX12_62 rfl (by assumption) rfl (gi_at rfl rfl) ?_
      refine aw_if_eq (tgt := 44) dX12_axis_39 rfl (by omega) (fun c39 => ?_) (fun c39 => ?_)
      · exact absurd c39 (by omega)
      · refine aw_iconst dX12_axis_42 ?_
        exact aw_ireturn dX12_axis_43 rfl (Or.inl rfl) ⟨rfl, rM_err hF 1⟩
