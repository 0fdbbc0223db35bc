/-! ===== the model: moveNode ===== -/
theorem shM.b {h : AH} {a : Nat} (g : shM h a) : gr h a 6 = some (a + 4) ∧ kd h (a + 4) = some (.inr (1, 120)) := g.2.2.2.2.1
theorem l_mo68 {γ : GG} {a v m : Nat} {p : Int} {h : AH} {Q : AR → AH → Prop} (hM : shM h a) (hv : v + m ≤ 40) (kk : ∀ H, eqG (fun b _ => b = a + 4) h H → (∀ j : Int, 0 ≤ j → j < 3 * m → gi H (a + 4) j = gi h (a + 1) (1 + 3 * (v : Int) + j)) → AW γ mX12_moveNode 2 0 0 102 [(3, vi (m : Int)), (0, vr (some a)), (1, vi (v : Int)), (2, vi p)] [] H Q) : ∀ (f k : Nat) (H : AH), k + f = 3 * m → eqG (fun b _ => b = a + 4) h H → (∀ j : Int, 0 ≤ j → j < k → gi H (a + 4) j = gi h (a + 1) (1 + 3 * (v : Int) + j)) → AW γ mX12_moveNode 2 0 0 68 [(4, vi (k : Int)), (3, vi (m : Int)), (0, vr (some a)), (1, vi (v : Int)), (2, vi p)] [] H Q := by
  intro f
  induction f with
  | zero =>
    intro k H hkf hE hj
    have K := kk H hE (fun j j1 j2 => hj j j1 (by omega))
    refine aw_iload dX12_moveNode_68 rfl ?_
    refine aw_iconst dX12_moveNode_70 ?_
    refine aw_iload_n dX12_moveNode_71 rfl ?_
    refine aw_imul dX12_moveNode_72 ?_
    refine aw_ic_ge (tgt := 102) dX12_moveNode_73 rfl (by omega) (by omega) (fun c73 => ?_) (fun c73 => ?_)
    · refine aw_sub [1, 2, 3, 4] rfl ?_
      exact K
    · exact absurd c73 (by omega)
  | succ f ih =>
    intro k H hkf hE hj
    have hM1 := hE.sh hM
    obtain ⟨hka, -, -⟩ := hM1.q
    obtain ⟨rm, km⟩ := hM1.m
    obtain ⟨rb, kb⟩ := hM1.b
    have g1 : gi H (a + 1) (1 + 3 * (v : Int) + (k : Int)) = gi h (a + 1) (1 + 3 * (v : Int) + (k : Int)) := hE.2.2.2.2 _ _ (by dsimp only; omega)
    have I := ih (k + 1) (si H (a + 4) (k : Int) (gi h (a + 1) (1 + 3 * (v : Int) + (k : Int)))) (by omega) (hE.tr (eqG.si rfl)) (fun j j1 j2 => by
      by_cases z : j = k
      · subst z
        exact gi_at rfl rfl
      · exact (gi_ne (Or.inr (by omega))).trans (hj j j1 (by omega)))
    refine aw_iload dX12_moveNode_68 rfl ?_
    refine aw_iconst dX12_moveNode_70 ?_
    refine aw_iload_n dX12_moveNode_71 rfl ?_
    refine aw_imul dX12_moveNode_72 ?_
    refine aw_ic_ge (tgt := 102) dX12_moveNode_73 rfl (by omega) (by omega) (fun c73 => ?_) (fun c73 => ?_)
    · exact absurd c73 (by omega)
    · refine aw_aload_n dX12_moveNode_76 rfl ?_
      refine aw_getr' (j := 6) dX12_moveNode_77 fX12_19 rfl (by assumption) rfl (by assumption) ?_
      refine aw_iload dX12_moveNode_80 rfl ?_
      refine aw_aload_n dX12_moveNode_82 rfl ?_
      refine aw_getr' (j := 0) dX12_moveNode_83 fX12_7 rfl (by assumption) rfl (by assumption) ?_
      refine aw_iconst dX12_moveNode_86 ?_
      refine aw_iconst dX12_moveNode_87 ?_
      refine aw_iload_n dX12_moveNode_88 rfl ?_
      refine aw_imul dX12_moveNode_89 ?_
      refine aw_iadd dX12_moveNode_90 ?_
      refine aw_iload dX12_moveNode_91 rfl ?_
      refine aw_iadd dX12_moveNode_93 ?_
      refine aw_iald' dX12_moveNode_94 (by assumption) (by omega) (by first | decide | omega) g1 ?_
      refine aw_iast dX12_moveNode_95 (by assumption) (by omega) (by first | decide | omega) ?_
      refine aw_iinc (k9 := 0) (ls1 := [(4, _), (3, _), (0, _), (1, _), (2, _)]) dX12_moveNode_96 rfl (by decide) rfl ?_
      refine aw_goto (tgt := 68) dX12_moveNode_99 rfl ?_
      refine aw_sub [0, 1, 2, 3, 4] rfl ?_
      exact I
theorem l_mo140 {γ : GG} {a v m c to : Nat} {p : Int} {h : AH} {x y z : Nat → Int} {Q : AR → AH → Prop} (hM : shM h a) (hc : c + m ≤ 40) (hv40 : v ≤ 40) (hb : ∀ i : Nat, i < m → gi h (a + 4) (3 * (i : Int)) = x i ∧ gi h (a + 4) (3 * (i : Int) + 1) = y i ∧ (i = 0 → z i = (to : Int)) ∧ (i ≠ 0 → z i = gi h (a + 4) (3 * (i : Int) + 2) - (v : Int) + (c : Int))) (kk : ∀ H, eqG (SM a) h H → (∀ i, i < m → nd (gi H (a + 1)) ((c : Int) + (i : Nat)) (x i) (y i) (z i)) → (∀ j : Int, ¬ (1 + 3 * (c : Int) ≤ j ∧ j < 1 + 3 * ((c : Int) + m)) → gi H (a + 1) j = gi h (a + 1) j) → Q (.inl (some (vi (c : Int)))) H) : ∀ (f k : Nat) (H : AH), k + f = m → eqG (SM a) h H → (∀ i, i < k → nd (gi H (a + 1)) ((c : Int) + (i : Nat)) (x i) (y i) (z i)) → (∀ j : Int, ¬ (1 + 3 * (c : Int) ≤ j ∧ j < 1 + 3 * ((c : Int) + m)) → gi H (a + 1) j = gi h (a + 1) j) → AW γ mX12_moveNode 2 0 0 140 [(6, vi (k : Int)), (5, vi (c : Int)), (4, vi (to : Int)), (3, vi (m : Int)), (0, vr (some a)), (1, vi (v : Int)), (2, vi p)] [] H Q := by
  intro f
  induction f with
  | zero =>
    intro k H hkf hE hj hf
    have K := kk H hE (fun i hi => hj i (by omega)) hf
    refine aw_iload dX12_moveNode_140 rfl ?_
    refine aw_iload_n dX12_moveNode_142 rfl ?_
    refine aw_ic_ge (tgt := 207) dX12_moveNode_143 rfl (by omega) (by omega) (fun c143 => ?_) (fun c143 => ?_)
    · refine aw_iload dX12_moveNode_207 rfl ?_
      exact aw_ireturn dX12_moveNode_209 rfl (Or.inl rfl) K
    · exact absurd c143 (by omega)
  | succ f ih =>
    intro k H hkf hE hj hf
    have hM1 := hE.sh hM
    obtain ⟨hka, -, -⟩ := hM1.q
    obtain ⟨rb, kb⟩ := hM1.b
    obtain ⟨b0, b1, b2, b3⟩ := hb k (by omega)
    have e0 : gi H (a + 4) (3 * (k : Int)) = x k := (hE.2.2.2.2 _ _ (by unfold SM; omega)).trans b0
    have e1 : gi H (a + 4) (3 * (k : Int) + 1) = y k := (hE.2.2.2.2 _ _ (by unfold SM; omega)).trans b1
    have e2 : gi H (a + 4) (3 * (k : Int) + 2) = gi h (a + 4) (3 * (k : Int) + 2) := hE.2.2.2.2 _ _ (by unfold SM; omega)
    have I := ih (k + 1) (si (si (si H (a + 1) (1 + 3 * ((c : Int) + (k : Int))) (x k)) (a + 1) (1 + 3 * ((c : Int) + (k : Int)) + 1) (y k)) (a + 1) (1 + 3 * ((c : Int) + (k : Int)) + 2) (z k)) (by omega) (hE.tr (((eqG.si ⟨rfl, by omega⟩).tr (eqG.si ⟨rfl, by omega⟩)).tr (eqG.si ⟨rfl, by omega⟩))) (fun i hi => by
      by_cases q : i = k
      · subst q
        exact ⟨(gi_ne (Or.inr (by omega))).trans ((gi_ne (Or.inr (by omega))).trans (gi_at rfl rfl)), (gi_ne (Or.inr (by omega))).trans (gi_at rfl rfl), gi_at rfl rfl⟩
      · obtain ⟨n0, n1, n2⟩ := hj i (by omega)
        exact ⟨(gi_ne (Or.inr (by omega))).trans ((gi_ne (Or.inr (by omega))).trans ((gi_ne (Or.inr (by omega))).trans n0)), (gi_ne (Or.inr (by omega))).trans ((gi_ne (Or.inr (by omega))).trans ((gi_ne (Or.inr (by omega))).trans n1)), (gi_ne (Or.inr (by omega))).trans ((gi_ne (Or.inr (by omega))).trans ((gi_ne (Or.inr (by omega))).trans n2))⟩) (fun j hj2 => (gi_ne (Or.inr (by omega))).trans ((gi_ne (Or.inr (by omega))).trans ((gi_ne (Or.inr (by omega))).trans (hf j hj2))))
    have KS := m_setCells (γ := γ) (n := (c : Int) + (k : Int)) (x := x k) (y := y k) (z := z k) hM1 (by omega)
    by_cases q0 : k = 0
    · have ez := b2 q0
      rw [ez] at KS I
      refine aw_iload dX12_moveNode_140 rfl ?_
      refine aw_iload_n dX12_moveNode_142 rfl ?_
      refine aw_ic_ge (tgt := 207) dX12_moveNode_143 rfl (by omega) (by omega) (fun c143 => ?_) (fun c143 => ?_)
      · exact absurd c143 (by omega)
      · refine aw_aload_n dX12_moveNode_146 rfl ?_
        refine aw_iload dX12_moveNode_147 rfl ?_
        refine aw_iload dX12_moveNode_149 rfl ?_
        refine aw_iadd dX12_moveNode_151 ?_
        refine aw_aload_n dX12_moveNode_152 rfl ?_
        refine aw_getr' (j := 6) dX12_moveNode_153 fX12_19 rfl (by assumption) rfl (by assumption) ?_
        refine aw_iconst dX12_moveNode_156 ?_
        refine aw_iload dX12_moveNode_157 rfl ?_
        refine aw_imul dX12_moveNode_159 ?_
        refine aw_iald' dX12_moveNode_160 (by assumption) (by omega) (by first | decide | omega) e0 ?_
        refine aw_aload_n dX12_moveNode_161 rfl ?_
        refine aw_getr' (j := 6) dX12_moveNode_162 fX12_19 rfl (by assumption) rfl (by assumption) ?_
        refine aw_iconst dX12_moveNode_165 ?_
        refine aw_iload dX12_moveNode_166 rfl ?_
        refine aw_imul dX12_moveNode_168 ?_
        refine aw_iconst dX12_moveNode_169 ?_
        refine aw_iadd dX12_moveNode_170 ?_
        refine aw_iald' dX12_moveNode_171 (by assumption) (by omega) (by first | decide | omega) e1 ?_
        refine aw_iload dX12_moveNode_172 rfl ?_
        refine aw_if_ne (tgt := 182) dX12_moveNode_174 rfl (by omega) (fun c174 => ?_) (fun c174 => ?_)
        · exact absurd c174 (by omega)
        · refine aw_iload dX12_moveNode_177 rfl ?_
          refine aw_goto (tgt := 198) dX12_moveNode_179 rfl ?_
          refine aw_invV_n dX12_moveNode_198 vX12_setCells kX12_95 rfl (KS) ⟨_, (by assumption), _, _, rfl⟩ rfl rfl (by decide) (by decide) (by decide) (Nat.le_of_ble_eq_true rfl) ?_
          refine aw_iinc (k9 := 0) (ls1 := [(6, _), (5, _), (4, _), (3, _), (0, _), (1, _), (2, _)]) dX12_moveNode_201 rfl (by decide) rfl ?_
          refine aw_goto (tgt := 140) dX12_moveNode_204 rfl ?_
          refine aw_sub [0, 1, 2, 3, 4, 5, 6] rfl ?_
          exact I
    · have ez := b3 q0
      rw [ez] at KS I
      refine aw_iload dX12_moveNode_140 rfl ?_
      refine aw_iload_n dX12_moveNode_142 rfl ?_
      refine aw_ic_ge (tgt := 207) dX12_moveNode_143 rfl (by omega) (by omega) (fun c143 => ?_) (fun c143 => ?_)
      · exact absurd c143 (by omega)
      · refine aw_aload_n dX12_moveNode_146 rfl ?_
        refine aw_iload dX12_moveNode_147 rfl ?_
        refine aw_iload dX12_moveNode_149 rfl ?_
        refine aw_iadd dX12_moveNode_151 ?_
        refine aw_aload_n dX12_moveNode_152 rfl ?_
        refine aw_getr' (j := 6) dX12_moveNode_153 fX12_19 rfl (by assumption) rfl (by assumption) ?_
        refine aw_iconst dX12_moveNode_156 ?_
        refine aw_iload dX12_moveNode_157 rfl ?_
        refine aw_imul dX12_moveNode_159 ?_
        refine aw_iald' dX12_moveNode_160 (by assumption) (by omega) (by first | decide | omega) e0 ?_
        refine aw_aload_n dX12_moveNode_161 rfl ?_
        refine aw_getr' (j := 6) dX12_moveNode_162 fX12_19 rfl (by assumption) rfl (by assumption) ?_
        refine aw_iconst dX12_moveNode_165 ?_
        refine aw_iload dX12_moveNode_166 rfl ?_
        refine aw_imul dX12_moveNode_168 ?_
        refine aw_iconst dX12_moveNode_169 ?_
        refine aw_iadd dX12_moveNode_170 ?_
        refine aw_iald' dX12_moveNode_171 (by assumption) (by omega) (by first | decide | omega) e1 ?_
        refine aw_iload dX12_moveNode_172 rfl ?_
        refine aw_if_ne (tgt := 182) dX12_moveNode_174 rfl (by omega) (fun c174 => ?_) (fun c174 => ?_)
        · refine aw_aload_n dX12_moveNode_182 rfl ?_
          refine aw_getr' (j := 6) dX12_moveNode_183 fX12_19 rfl (by assumption) rfl (by assumption) ?_
          refine aw_iconst dX12_moveNode_186 ?_
          refine aw_iload dX12_moveNode_187 rfl ?_
          refine aw_imul dX12_moveNode_189 ?_
          refine aw_iconst dX12_moveNode_190 ?_
          refine aw_iadd dX12_moveNode_191 ?_
          refine aw_iald' dX12_moveNode_192 (by assumption) (by omega) (by first | decide | omega) e2 ?_
          refine aw_iload_n dX12_moveNode_193 rfl ?_
          refine aw_isub dX12_moveNode_194 ?_
          refine aw_iload dX12_moveNode_195 rfl ?_
          refine aw_iadd dX12_moveNode_197 ?_
          refine aw_invV_n dX12_moveNode_198 vX12_setCells kX12_95 rfl (KS) ⟨_, (by assumption), _, _, rfl⟩ rfl rfl (by decide) (by decide) (by decide) (Nat.le_of_ble_eq_true rfl) ?_
          refine aw_iinc (k9 := 0) (ls1 := [(6, _), (5, _), (4, _), (3, _), (0, _), (1, _), (2, _)]) dX12_moveNode_201 rfl (by decide) rfl ?_
          refine aw_goto (tgt := 140) dX12_moveNode_204 rfl ?_
          refine aw_sub [0, 1, 2, 3, 4, 5, 6] rfl ?_
          exact I
        · exact absurd c174 (by omega)
theorem m_moveNode {γ : GG} {h : AH} {a : Nat} {F : FS} {p1 p2 : Int} (hF : isF h a F) (hp1 : (-2147483648 ≤ p1 ∧ p1 ≤ 2147483647)) (hp2 : (-2147483648 ≤ p2 ∧ p2 ≤ 2147483647)) : Call γ mX12_moveNode 2 0 0 [vr (some a), vi p1, vi p2] h (rM h a (opMov F p1 p2)) := by
  obtain ⟨S, U, tx⟩ := F
  obtain ⟨T, qs⟩ := S
  have hm : isMd h a (T, qs) U tx := hF
  have oT : okTr T := hm.2.2.1.1
  have o9 := oT.o
  have n40 := o9.2.1
  have n1 := o9.1
  obtain ⟨hka, -, -⟩ := hm.1.q
  obtain ⟨rm, km⟩ := hm.1.m
  have g0 : gi h (a + 1) 0 = (tn T : Int) := hm.2.1.1.1
  have KN1 := m_isNode (γ := γ) hm.1 hp1 g0 (by omega)
  have KN2 := m_isNode (γ := γ) hm.1 hp2 g0 (by omega)
  unfold opMov
  dsimp only
  by_cases c1 : 0 ≤ p1 ∧ p1 < (tn T : Int)
  · rw [if_pos c1] at KN1
    by_cases c2 : 0 ≤ p2 ∧ p2 < (tn T : Int)
    · rw [if_neg (fun z => z ⟨c1, c2⟩)]
      rw [if_pos c2] at KN2
      obtain ⟨v, rfl⟩ := Int.eq_ofNat_of_zero_le c1.1
      obtain ⟨q, rfl⟩ := Int.eq_ofNat_of_zero_le c2.1
      rw [Int.toNat_natCast, Int.toNat_natCast]
      have hv : v < tn T := by omega
      have hq : q < tn T := by omega
      have m5 := hm.eqk (E5 (v := 0))
      have ev := endT_spec (T := T) hv
      have KE := m_endOf (γ := γ) m5.1 m5.2.1.1 oT.rg hv
      have em : ((endT T v : Nat) : Int) - (v : Int) = ((endT T v - v : Nat) : Int) := by omega
      have KI := m_in (γ := γ) (h := si h a 5 0) (v := (q : Int)) (l := (v : Int)) (m := (v : Int) + ((endT T v - v : Nat) : Int) - 1) (by omega) (by omega) (by omega)
      by_cases c3 : (v : Int) ≤ (q : Int) ∧ (q : Int) < ((endT T v : Nat) : Int)
      · rw [if_pos c3]
        rw [if_pos (by omega)] at KI
        have KF := m_fails (γ := γ) (v := 2) (h := si h a 5 0) (a := a) (by exact hka)
        have fin : isF (si (si h a 5 0) a 5 2) a ((T, qs), U, tx) ∧ gi (si (si h a 5 0) a 5 2) a 5 = 2 ∧ eqG (SA a) h (si (si h a 5 0) a 5 2) := ⟨m5.eqk E5, gi_at rfl rfl, (E5.mono SA_k).tr (E5.mono SA_k)⟩
        refine Call.of (ls := [(0, vr (some a)), (1, vi (v : Int)), (2, vi (q : Int))]) vX12_moveNode.1 (Nat.le_of_ble_eq_true rfl) rfl ?_
        refine aw_aload_n dX12_moveNode_0 rfl ?_
        refine aw_aload_n dX12_moveNode_1 rfl ?_
        refine aw_iload_n dX12_moveNode_2 rfl ?_
        refine aw_invV_r dX12_moveNode_3 vX12_isNode kX12_77 rfl (KN1) ⟨_, (by assumption), _, _, rfl⟩ rfl rfl (by decide) (by decide) (by decide) (Nat.le_of_ble_eq_true rfl) ?_
        refine aw_if_eq (tgt := 17) dX12_moveNode_6 rfl (by omega) (fun c6 => ?_) (fun c6 => ?_)
        · exact absurd c6 (by omega)
        · refine aw_aload_n dX12_moveNode_9 rfl ?_
          refine aw_iload_n dX12_moveNode_10 rfl ?_
          refine aw_invV_r dX12_moveNode_11 vX12_isNode kX12_77 rfl (KN2) ⟨_, (by assumption), _, _, rfl⟩ rfl rfl (by decide) (by decide) (by decide) (Nat.le_of_ble_eq_true rfl) ?_
          refine aw_if_ne (tgt := 21) dX12_moveNode_14 rfl (by omega) (fun c14 => ?_) (fun c14 => ?_)
          · refine aw_iconst dX12_moveNode_21 ?_
            refine aw_puti' (j := 5) rfl dX12_moveNode_22 fX12_62 (by assumption) rfl ?_
            refine aw_aload_n dX12_moveNode_25 rfl ?_
            refine aw_geti' (j := 5) dX12_moveNode_26 fX12_62 rfl (by assumption) rfl (gi_at rfl rfl) ?_
            refine aw_if_eq (tgt := 34) dX12_moveNode_29 rfl (by omega) (fun c29 => ?_) (fun c29 => ?_)
            · refine aw_aload_n dX12_moveNode_34 rfl ?_
              refine aw_iload_n dX12_moveNode_35 rfl ?_
              refine aw_invV_r dX12_moveNode_36 vX12_endOf kX12_88 rfl (KE) ⟨_, (by assumption), _, _, rfl⟩ rfl rfl (by decide) (by decide) (by decide) (Nat.le_of_ble_eq_true rfl) ?_
              refine aw_iload_n dX12_moveNode_39 rfl ?_
              refine aw_isub dX12_moveNode_40 ?_
              rw [em]
              refine aw_istore_n (ls1 := [(3, _), (0, _), (1, _), (2, _)]) dX12_moveNode_41 (by decide) rfl ?_
              refine aw_iload_n dX12_moveNode_42 rfl ?_
              refine aw_iload_n dX12_moveNode_43 rfl ?_
              refine aw_iload_n dX12_moveNode_44 rfl ?_
              refine aw_iload_n dX12_moveNode_45 rfl ?_
              refine aw_iadd dX12_moveNode_46 ?_
              refine aw_iconst dX12_moveNode_47 ?_
              refine aw_isub dX12_moveNode_48 ?_
              refine aw_invS_r dX12_moveNode_49 sX12_in kX12_69 rfl (KI) rfl rfl (by decide) (by decide) (by decide) (Nat.le_of_ble_eq_true rfl) ?_
              refine aw_if_eq (tgt := 61) dX12_moveNode_52 rfl (by omega) (fun c52 => ?_) (fun c52 => ?_)
              · exact absurd c52 (by omega)
              · refine aw_aload_n dX12_moveNode_55 rfl ?_
                refine aw_iconst dX12_moveNode_56 ?_
                refine aw_invV_r dX12_moveNode_57 vX12_fails kX12_102 rfl (KF) ⟨_, (by assumption), _, _, rfl⟩ rfl rfl (by decide) (by decide) (by decide) (Nat.le_of_ble_eq_true rfl) ?_
                exact aw_ireturn dX12_moveNode_60 rfl (Or.inl rfl) ⟨rfl, fin⟩
            · exact absurd c29 (by omega)
          · exact absurd c14 (by omega)
      · rw [if_neg c3]
        rw [if_neg (by omega)] at KI
        have hv1 : 1 ≤ v := by
          by_cases z : v = 0
          · subst z
            have : endT T 0 = tn T := by
              by_cases z2 : endT T 0 < tn T
              · have := ev.2.2.2 z2
                have := o9.2.2.2.2.1 (endT T 0) (by omega) z2
                omega
              · omega
            omega
          · omega
        have oD := dl_ok oT hv1 hv (m := endT T v - v) (by omega)
        have oM := mov_ok (p := q) oT hv1 hv hq (by omega)
        have hd : tn (dlT T v (endT T v - v)) = tn T - (endT T v - v) := rfl
        have eto : (mvTo T v q : Int) = if v < q then (q : Int) - ((endT T v - v : Nat) : Int) else (q : Int) := by
          unfold mvTo
          by_cases z : v < q
          · rw [if_pos z, if_pos z]; omega
          · rw [if_neg z, if_neg z]
        have ht : mvTo T v q < tn (dlT T v (endT T v - v)) := by
          rw [hd]
          by_cases z : v < q
          · rw [if_pos z] at eto; omega
          · rw [if_neg z] at eto; omega
        have ec := endT_spec ht
        have ec : mvTo T v q < mvAt T v q ∧ mvAt T v q ≤ tn (dlT T v (endT T v - v)) ∧ _ := ec
        have KK := m_keep (γ := γ) m5
        have main : ∀ H1, eqG (SV a) (si h a 5 0) H1 → isMd H1 a (T, qs) (psh U (T, qs)) tx → AW γ mX12_moveNode 2 0 0 65 [(3, vi ((endT T v - v : Nat) : Int)), (0, vr (some a)), (1, vi (v : Int)), (2, vi (q : Int))] [] H1 (rM h a (0, (mvAt T v q : Nat), keepF ((T, qs), U, tx) (movT T v q, qs))) := by
          intro H1 E1 m1
          have L68 := l_mo68 (γ := γ) (a := a) (v := v) (m := endT T v - v) (p := (q : Int)) (h := H1) (Q := rM h a (0, (mvAt T v q : Nat), keepF ((T, qs), U, tx) (movT T v q, qs))) m1.1 (by omega) (fun H2 E2 B2 => by
            have m2 := m1.eqk (E2.mono (fun b j z => Or.inr (by omega)))
            have hka2 := m2.1.1
            have KSh := m_shuts (γ := γ) (T := T) (v := v) (m := endT T v - v) m2.1 m2.2.1.1 oT.rg (by omega) (by omega)
            have rest : ∀ H3, gTr (gi H3 (a + 1)) 0 (dlT T v (endT T v - v)) → eqG (SM a) H2 H3 → AW γ mX12_moveNode 2 0 0 122 [(4, vi (mvTo T v q : Int)), (3, vi ((endT T v - v : Nat) : Int)), (0, vr (some a)), (1, vi (v : Int)), (2, vi (q : Int))] [] H3 (rM h a (0, (mvAt T v q : Nat), keepF ((T, qs), U, tx) (movT T v q, qs))) := by
              intro H3 G3 E3
              have m3 := m2.tr E3 G3 oD
              have hka3 := m3.1.1
              have KE2 := m_endOf (γ := γ) m3.1 G3 oD.rg ht
              have KE2 : Call γ mX12_endOf 1 0 0 [vr (some a), vi (mvTo T v q : Int)] H3 (rV (vi (mvAt T v q : Nat)) H3) := KE2
              have KO := m_opens (γ := γ) (T := dlT T v (endT T v - v)) (v := mvAt T v q) (m := endT T v - v) m3.1 G3 oD.rg (by omega) (by omega) (by omega)
              have fin : ∀ H4, opP (gi H4 (a + 1)) (dlT T v (endT T v - v)) (mvAt T v q) (endT T v - v) → eqG (SM a) H3 H4 → AW γ mX12_moveNode 2 0 0 140 [(6, vi ((0 : Nat) : Int)), (5, vi ((mvAt T v q : Nat) : Int)), (4, vi (mvTo T v q : Int)), (3, vi ((endT T v - v : Nat) : Int)), (0, vr (some a)), (1, vi (v : Int)), (2, vi (q : Int))] [] H4 (rM h a (0, (mvAt T v q : Nat), keepF ((T, qs), U, tx) (movT T v q, qs))) := by
                intro H4 P4 E4
                obtain ⟨p0, p1, p2⟩ := P4
                have E24 : eqG (SM a) H2 H4 := E3.tr E4
                refine l_mo140 (γ := γ) (a := a) (v := v) (m := endT T v - v) (c := mvAt T v q) (to := mvTo T v q) (p := (q : Int)) (h := H4) (x := fun i => tnm T (v + i)) (y := fun i => tvl T (v + i)) (z := fun i => if i = 0 then (mvTo T v q : Int) else tpa T (v + i) - v + mvAt T v q) ((E24).sh m2.1) (by omega) (by omega) (fun i hi => ?_) (fun H5 E5' n5 f5 => ?_) (endT T v - v) 0 H4 (by omega) eqG.rf (fun i hi => absurd hi (by omega)) (fun j _ => rfl)
                · obtain ⟨b1, b2, b3⟩ := gTr_c m1.2.1.1 (show v + i < tn T by omega)
                  have ej : ∀ k : Int, 0 ≤ k → k < 3 → gi H4 (a + 4) (3 * (i : Int) + k) = gi H1 (a + 1) (1 + 3 * ((v + i : Nat) : Int) + k) := fun k k1 k2 => by
                    rw [E24.2.2.2.2 _ _ (by unfold SM; omega), B2 _ (by omega) (by omega)]
                    exact congrArg (gi H1 (a + 1)) (by omega)
                  have ej0 := ej 0 (by omega) (by omega)
                  rw [Int.add_zero, Int.add_zero] at ej0
                  refine ⟨ej0.trans b1, (ej 1 (by omega) (by omega)).trans b2, fun z => if_pos z, fun z => ?_⟩
                  rw [if_neg z, ej 2 (by omega) (by omega), b3]
                · have E15 : eqG (SM a) H2 H5 := E24.tr E5'
                  have g5 : gTr (gi H5 (a + 1)) 0 (movT T v q) := by
                    refine gTr_of ((f5 _ (by omega)).trans p0) (fun k hk => ?_)
                    have hk' : k < tn (dlT T v (endT T v - v)) + (endT T v - v) := hk
                    unfold movT
                    by_cases q1 : k < mvAt T v q
                    · obtain ⟨a1, a2, a3⟩ := ip_at1 (T := dlT T v (endT T v - v)) (m := endT T v - v) (x := fun i => tnm T (v + i)) (y := fun i => tvl T (v + i)) (z := fun i => if i = 0 then (mvTo T v q : Int) else tpa T (v + i) - v + mvAt T v q) q1
                      obtain ⟨b1, b2, b3⟩ := p1 k q1
                      rw [a1, a2, a3]
                      exact ⟨(f5 _ (by omega)).trans b1, (f5 _ (by omega)).trans b2, (f5 _ (by omega)).trans b3⟩
                    · by_cases q2 : k < mvAt T v q + (endT T v - v)
                      · obtain ⟨a1, a2, a3⟩ := ip_at2 (T := dlT T v (endT T v - v)) (m := endT T v - v) (x := fun i => tnm T (v + i)) (y := fun i => tvl T (v + i)) (z := fun i => if i = 0 then (mvTo T v q : Int) else tpa T (v + i) - v + mvAt T v q) (show mvAt T v q ≤ k by omega) q2
                        obtain ⟨b1, b2, b3⟩ := n5 (k - mvAt T v q) (by omega)
                        rw [show ((mvAt T v q : Nat) : Int) + ((k - mvAt T v q : Nat) : Int) = (k : Int) by omega] at b1 b2 b3
                        rw [a1, a2, a3]
                        exact ⟨b1, b2, b3⟩
                      · obtain ⟨a1, a2, a3⟩ := ip_at3 (T := dlT T v (endT T v - v)) (m := endT T v - v) (x := fun i => tnm T (v + i)) (y := fun i => tvl T (v + i)) (z := fun i => if i = 0 then (mvTo T v q : Int) else tpa T (v + i) - v + mvAt T v q) (show mvAt T v q + (endT T v - v) ≤ k by omega)
                        obtain ⟨b1, b2, b3⟩ := p2 (k - (endT T v - v)) (by omega) (by omega)
                        rw [show ((k - (endT T v - v) : Nat) : Int) + ((endT T v - v : Nat) : Int) = (k : Int) by omega] at b1 b2 b3
                        rw [a1, a2, a3]
                        exact ⟨(f5 _ (by omega)).trans b1, (f5 _ (by omega)).trans b2, (f5 _ (by omega)).trans b3⟩
                  refine ⟨rfl, m2.tr E15 g5 oM, ?_, ?_⟩
                  · exact (E15.2.2.2.2 _ _ (by unfold SM; omega)).trans ((E2.2.2.2.2 _ _ (by dsimp only; omega)).trans ((E1.2.2.2.2 _ _ (by unfold SV; omega)).trans (gi_at rfl rfl)))
                  · exact (((E5.mono SA_k).tr (E1.mono SA_v)).tr (E2.mono (fun b j z => by unfold SA; omega))).tr (E15.mono SA_m)
              refine aw_aload_n dX12_moveNode_122 rfl ?_
              refine aw_iload dX12_moveNode_123 rfl ?_
              refine aw_invV_r dX12_moveNode_125 vX12_endOf kX12_88 rfl (KE2) ⟨_, (by assumption), _, _, rfl⟩ rfl rfl (by decide) (by decide) (by decide) (Nat.le_of_ble_eq_true rfl) ?_
              refine aw_istore (ls1 := [(5, _), (4, _), (3, _), (0, _), (1, _), (2, _)]) dX12_moveNode_128 (by decide) rfl ?_
              refine aw_aload_n dX12_moveNode_130 rfl ?_
              refine aw_iload dX12_moveNode_131 rfl ?_
              refine aw_iload_n dX12_moveNode_133 rfl ?_
              refine aw_invV_f dX12_moveNode_134 vX12_opens kX12_91 rfl (KO) ⟨_, (by assumption), _, _, rfl⟩ rfl rfl (by decide) (by decide) (by decide) (Nat.le_of_ble_eq_true rfl) (fun H4 hP9 => ?_)
              obtain ⟨P4, E4⟩ := hP9
              refine aw_iconst dX12_moveNode_137 ?_
              refine aw_istore (ls1 := [(6, _), (5, _), (4, _), (3, _), (0, _), (1, _), (2, _)]) dX12_moveNode_138 (by decide) rfl ?_
              refine aw_sub [0, 1, 2, 3, 4, 5, 6] rfl ?_
              exact fin H4 P4 E4
            by_cases z : v < q
            · rw [if_pos z] at eto
              rw [eto] at rest
              refine aw_aload_n dX12_moveNode_102 rfl ?_
              refine aw_iload_n dX12_moveNode_103 rfl ?_
              refine aw_iload_n dX12_moveNode_104 rfl ?_
              refine aw_invV_f dX12_moveNode_105 vX12_shuts kX12_99 rfl (KSh) ⟨_, (by assumption), _, _, rfl⟩ rfl rfl (by decide) (by decide) (by decide) (Nat.le_of_ble_eq_true rfl) (fun H3 hP9 => ?_)
              obtain ⟨G3, E3⟩ := hP9
              refine aw_iload_n dX12_moveNode_108 rfl ?_
              refine aw_iload_n dX12_moveNode_109 rfl ?_
              refine aw_ic_le (tgt := 119) dX12_moveNode_110 rfl (by omega) (by omega) (fun c110 => ?_) (fun c110 => ?_)
              · exact absurd c110 (by omega)
              · refine aw_iload_n dX12_moveNode_113 rfl ?_
                refine aw_iload_n dX12_moveNode_114 rfl ?_
                refine aw_isub dX12_moveNode_115 ?_
                refine aw_goto (tgt := 120) dX12_moveNode_116 rfl ?_
                refine aw_istore (ls1 := [(4, _), (3, _), (0, _), (1, _), (2, _)]) dX12_moveNode_120 (by decide) rfl ?_
                refine aw_sub [0, 1, 2, 3, 4] rfl ?_
                exact rest H3 G3 E3
            · rw [if_neg z] at eto
              rw [eto] at rest
              refine aw_aload_n dX12_moveNode_102 rfl ?_
              refine aw_iload_n dX12_moveNode_103 rfl ?_
              refine aw_iload_n dX12_moveNode_104 rfl ?_
              refine aw_invV_f dX12_moveNode_105 vX12_shuts kX12_99 rfl (KSh) ⟨_, (by assumption), _, _, rfl⟩ rfl rfl (by decide) (by decide) (by decide) (Nat.le_of_ble_eq_true rfl) (fun H3 hP9 => ?_)
              obtain ⟨G3, E3⟩ := hP9
              refine aw_iload_n dX12_moveNode_108 rfl ?_
              refine aw_iload_n dX12_moveNode_109 rfl ?_
              refine aw_ic_le (tgt := 119) dX12_moveNode_110 rfl (by omega) (by omega) (fun c110 => ?_) (fun c110 => ?_)
              · refine aw_iload_n dX12_moveNode_119 rfl ?_
                refine aw_istore (ls1 := [(4, _), (3, _), (0, _), (1, _), (2, _)]) dX12_moveNode_120 (by decide) rfl ?_
                refine aw_sub [0, 1, 2, 3, 4] rfl ?_
                exact rest H3 G3 E3
              · exact absurd c110 (by omega)) (3 * (endT T v - v)) 0 H1 (by omega) eqG.rf (fun j j1 j2 => absurd j2 (by omega))
          refine aw_iconst dX12_moveNode_65 ?_
          refine aw_istore (ls1 := [(4, _), (3, _), (0, _), (1, _), (2, _)]) dX12_moveNode_66 (by decide) rfl ?_
          refine aw_sub [0, 1, 2, 3, 4] rfl ?_
          exact L68
        refine Call.of (ls := [(0, vr (some a)), (1, vi (v : Int)), (2, vi (q : Int))]) vX12_moveNode.1 (Nat.le_of_ble_eq_true rfl) rfl ?_
        refine aw_aload_n dX12_moveNode_0 rfl ?_
        refine aw_aload_n dX12_moveNode_1 rfl ?_
        refine aw_iload_n dX12_moveNode_2 rfl ?_
        refine aw_invV_r dX12_moveNode_3 vX12_isNode kX12_77 rfl (KN1) ⟨_, (by assumption), _, _, rfl⟩ rfl rfl (by decide) (by decide) (by decide) (Nat.le_of_ble_eq_true rfl) ?_
        refine aw_if_eq (tgt := 17) dX12_moveNode_6 rfl (by omega) (fun c6 => ?_) (fun c6 => ?_)
        · exact absurd c6 (by omega)
        · refine aw_aload_n dX12_moveNode_9 rfl ?_
          refine aw_iload_n dX12_moveNode_10 rfl ?_
          refine aw_invV_r dX12_moveNode_11 vX12_isNode kX12_77 rfl (KN2) ⟨_, (by assumption), _, _, rfl⟩ rfl rfl (by decide) (by decide) (by decide) (Nat.le_of_ble_eq_true rfl) ?_
          refine aw_if_ne (tgt := 21) dX12_moveNode_14 rfl (by omega) (fun c14 => ?_) (fun c14 => ?_)
          · refine aw_iconst dX12_moveNode_21 ?_
            refine aw_puti' (j := 5) rfl dX12_moveNode_22 fX12_62 (by assumption) rfl ?_
            refine aw_aload_n dX12_moveNode_25 rfl ?_
            refine aw_geti' (j := 5) dX12_moveNode_26 fX12_62 rfl (by assumption) rfl (gi_at rfl rfl) ?_
            refine aw_if_eq (tgt := 34) dX12_moveNode_29 rfl (by omega) (fun c29 => ?_) (fun c29 => ?_)
            · refine aw_aload_n dX12_moveNode_34 rfl ?_
              refine aw_iload_n dX12_moveNode_35 rfl ?_
              refine aw_invV_r dX12_moveNode_36 vX12_endOf kX12_88 rfl (KE) ⟨_, (by assumption), _, _, rfl⟩ rfl rfl (by decide) (by decide) (by decide) (Nat.le_of_ble_eq_true rfl) ?_
              refine aw_iload_n dX12_moveNode_39 rfl ?_
              refine aw_isub dX12_moveNode_40 ?_
              rw [em]
              refine aw_istore_n (ls1 := [(3, _), (0, _), (1, _), (2, _)]) dX12_moveNode_41 (by decide) rfl ?_
              refine aw_iload_n dX12_moveNode_42 rfl ?_
              refine aw_iload_n dX12_moveNode_43 rfl ?_
              refine aw_iload_n dX12_moveNode_44 rfl ?_
              refine aw_iload_n dX12_moveNode_45 rfl ?_
              refine aw_iadd dX12_moveNode_46 ?_
              refine aw_iconst dX12_moveNode_47 ?_
              refine aw_isub dX12_moveNode_48 ?_
              refine aw_invS_r dX12_moveNode_49 sX12_in kX12_69 rfl (KI) rfl rfl (by decide) (by decide) (by decide) (Nat.le_of_ble_eq_true rfl) ?_
              refine aw_if_eq (tgt := 61) dX12_moveNode_52 rfl (by omega) (fun c52 => ?_) (fun c52 => ?_)
              · refine aw_aload_n dX12_moveNode_61 rfl ?_
                refine aw_invV_f dX12_moveNode_62 vX12_keep kX12_85 rfl (KK) ⟨_, (by assumption), _, _, rfl⟩ rfl rfl (by decide) (by decide) (by decide) (Nat.le_of_ble_eq_true rfl) (fun H1 hP9 => ?_)
                obtain ⟨E1, m1⟩ := hP9
                refine aw_sub [0, 1, 2, 3] rfl ?_
                exact main H1 E1 m1
              · exact absurd c52 (by omega)
            · exact absurd c29 (by omega)
          · exact absurd c14 (by omega)
    · rw [if_pos (fun z => c2 z.2)]
      rw [if_neg c2] at KN2
      refine Call.of (ls := [(0, vr (some a)), (1, vi p1), (2, vi p2)]) vX12_moveNode.1 (Nat.le_of_ble_eq_true rfl) rfl ?_
      refine aw_aload_n dX12_moveNode_0 rfl ?_
      refine aw_aload_n dX12_moveNode_1 rfl ?_
      refine aw_iload_n dX12_moveNode_2 rfl ?_
      refine aw_invV_r dX12_moveNode_3 vX12_isNode kX12_77 rfl (KN1) ⟨_, (by assumption), _, _, rfl⟩ rfl rfl (by decide) (by decide) (by decide) (Nat.le_of_ble_eq_true rfl) ?_
      refine aw_if_eq (tgt := 17) dX12_moveNode_6 rfl (by omega) (fun c6 => ?_) (fun c6 => ?_)
      · exact absurd c6 (by omega)
      · refine aw_aload_n dX12_moveNode_9 rfl ?_
        refine aw_iload_n dX12_moveNode_10 rfl ?_
        refine aw_invV_r dX12_moveNode_11 vX12_isNode kX12_77 rfl (KN2) ⟨_, (by assumption), _, _, rfl⟩ rfl rfl (by decide) (by decide) (by decide) (Nat.le_of_ble_eq_true rfl) ?_
        refine aw_if_ne (tgt := 21) dX12_moveNode_14 rfl (by omega) (fun c14 => ?_) (fun c14 => ?_)
        · exact absurd c14 (by omega)
        · refine aw_iconst dX12_moveNode_17 ?_
          refine aw_goto (tgt := 22) dX12_moveNode_18 rfl ?_
          refine aw_puti' (j := 5) rfl dX12_moveNode_22 fX12_62 (by assumption) rfl ?_
          refine aw_aload_n dX12_moveNode_25 rfl ?_
          refine aw_geti' (j := 5) dX12_moveNode_26 fX12_62 rfl (by assumption) rfl (gi_at rfl rfl) ?_
          refine aw_if_eq (tgt := 34) dX12_moveNode_29 rfl (by omega) (fun c29 => ?_) (fun c29 => ?_)
          · exact absurd c29 (by omega)
          · refine aw_iconst dX12_moveNode_32 ?_
            exact aw_ireturn dX12_moveNode_33 rfl (Or.inl rfl) ⟨rfl, rM_err hF 1⟩
  · rw [if_pos (fun z => c1 z.1)]
    rw [if_neg c1] at KN1
    refine Call.of (ls := [(0, vr (some a)), (1, vi p1), (2, vi p2)]) vX12_moveNode.1 (Nat.le_of_ble_eq_true rfl) rfl ?_
    refine aw_aload_n dX12_moveNode_0 rfl ?_
    refine aw_aload_n dX12_moveNode_1 rfl ?_
    refine aw_iload_n dX12_moveNode_2 rfl ?_
    refine aw_invV_r dX12_moveNode_3 vX12_isNode kX12_77 rfl (KN1) ⟨_, (by assumption), _, _, rfl⟩ rfl rfl (by decide) (by decide) (by decide) (Nat.le_of_ble_eq_true rfl) ?_
    refine aw_if_eq (tgt := 17) dX12_moveNode_6 rfl (by omega) (fun c6 => ?_) (fun c6 => ?_)
    · refine aw_iconst dX12_moveNode_17 ?_
      refine aw_goto (tgt := 22) dX12_moveNode_18 rfl ?_
      refine aw_puti' (j := 5) rfl dX12_moveNode_22 fX12_62 (by assumption) rfl ?_
      refine aw_aload_n dX12_moveNode_25 rfl ?_
      refine aw_geti' (j := 5) dX12_moveNode_26 fX12_62 rfl (by assumption) rfl (gi_at rfl rfl) ?_
      refine aw_if_eq (tgt := 34) dX12_moveNode_29 rfl (by omega) (fun c29 => ?_) (fun c29 => ?_)
      · exact absurd c29 (by omega)
      · refine aw_iconst dX12_moveNode_32 ?_
        exact aw_ireturn dX12_moveNode_33 rfl (Or.inl rfl) ⟨rfl, rM_err hF 1⟩
    · exact absurd c6 (by omega)
