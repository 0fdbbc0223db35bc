/-! ===== Tree: arrange ===== -/
def S9T (t : Nat) : Nat → Prop := fun b => t + 1 ≤ b ∧ b ≤ t + 9
def rowT (h : AH) (t : Nat) (T : Tr) : Prop := ∀ k, k < tn T → gi h (t + 1) k = tnm T k ∧ gi h (t + 2) k = tvl T k ∧ gi h (t + 3) k = tpa T k ∧ gi h (t + 4) k = (endT T k : Int) - 1 ∧ gl h (t + 5) k = S9 (chS T k) ∧ gl h (t + 6) k = S9 (anS T k)
theorem l_ar107 {γ : GG} {t f m N : Nat} {b : Int} {od : Nat → Nat} {T : Tr} {h : AH} {Q : AR → AH → Prop} (hS : shTr h t) (hN : N ≤ 40) (hL : ∀ j, j < N → gi h (t + 8) (od j) = j) (hp : ∀ k, 1 ≤ k → k < N → ∃ p q : Nat, gi h (t + 3) k = p ∧ p < 40 ∧ q < N ∧ od q = p ∧ tpa T k = q) (kk : ∀ H, eqT (fun b => b = t + 3) h H → (∀ j, 1 ≤ j → j < N → gi H (t + 3) j = tpa T j) → gi H (t + 3) 0 = gi h (t + 3) 0 → AW γ mX10_arrange 2 0 0 159 [(4, vi (N : Int)), (0, vr (some t)), (1, vi (f : Int)), (2, vi ((f + m : Nat) : Int)), (3, vi b)] [] H Q) : ∀ (g k : Nat) (H : AH), k + g = max N 1 → 1 ≤ k → eqT (fun b => b = t + 3) h H → gi H (t + 3) 0 = gi h (t + 3) 0 → (∀ j, 1 ≤ j → j < k → j < N → gi H (t + 3) j = tpa T j) → (∀ j, k ≤ j → j < N → gi H (t + 3) j = gi h (t + 3) j) → AW γ mX10_arrange 2 0 0 107 [(5, vi (k : Int)), (4, vi (N : Int)), (0, vr (some t)), (1, vi (f : Int)), (2, vi ((f + m : Nat) : Int)), (3, vi b)] [] H Q := by
  intro g
  induction g with
  | zero =>
    intro k H hk0 hk1 hE h0 h1 h2
    have hS1 := hE.shTr hS
    obtain ⟨hk, ⟨r1, k1⟩, ⟨r2, k2⟩, ⟨r3, k3⟩, ⟨r4, k4⟩, ⟨r5, k5⟩, ⟨r6, k6⟩, ⟨r7, k7⟩, ⟨r8, k8⟩, ⟨r9, k9⟩⟩ := hS1
    have K := kk H hE (fun j j1 j2 => h1 j j1 (by omega) j2) h0
    refine aw_iload dX10_arrange_107 rfl ?_
    refine aw_iload dX10_arrange_109 rfl ?_
    refine aw_ic_ge (tgt := 159) dX10_arrange_111 rfl (by omega) (by omega) (fun c111 => ?_) (fun c111 => ?_)
    · refine aw_sub [1, 2, 3, 4, 5] rfl ?_
      exact K
    · exact absurd c111 (by omega)
  | succ g ih =>
    intro k H hk0 hk1 hE h0 h1 h2
    have hS1 := hE.shTr hS
    obtain ⟨hk, ⟨r1, k1⟩, ⟨r2, k2⟩, ⟨r3, k3⟩, ⟨r4, k4⟩, ⟨r5, k5⟩, ⟨r6, k6⟩, ⟨r7, k7⟩, ⟨r8, k8⟩, ⟨r9, k9⟩⟩ := hS1
    obtain ⟨p, q, p1, p2, q1, q2, q3⟩ := hp k hk1 (by omega)
    have e1 := (h2 k (Nat.le_refl _) (by omega)).trans p1
    have e2 : gi H (t + 8) (p : Int) = q := by
      rw [← q2]
      exact ((hE.2 (t + 8)).2.2 (by omega) (od q)).1.trans (hL q q1)
    have I := ih (k + 1) (si H (t + 3) k q) (by omega) (by omega) (hE.tr (eqT.wi rfl)) ((gi_ne (Or.inr (by omega))).trans h0) (fun j j1 j2 j3 => by
      by_cases z : j = k
      · subst z
        exact (gi_at rfl rfl).trans q3.symm
      · exact (gi_ne (Or.inr (by omega))).trans (h1 j j1 (by omega) j3)) (fun j j1 j2 => (gi_ne (Or.inr (by omega))).trans (h2 j (by omega) j2))
    refine aw_iload dX10_arrange_107 rfl ?_
    refine aw_iload dX10_arrange_109 rfl ?_
    refine aw_ic_ge (tgt := 159) dX10_arrange_111 rfl (by omega) (by omega) (fun c111 => ?_) (fun c111 => ?_)
    · exact absurd c111 (by omega)
    · refine aw_aload_n dX10_arrange_114 rfl ?_
      refine aw_getr' (j := 3) dX10_arrange_115 fX10_22 rfl (by assumption) rfl (by assumption) ?_
      refine aw_iload dX10_arrange_118 rfl ?_
      refine aw_iald' dX10_arrange_120 (by assumption) (by omega) (by first | decide | omega) e1 ?_
      refine aw_istore (ls1 := [(6, _), (5, _), (4, _), (0, _), (1, _), (2, _), (3, _)]) dX10_arrange_121 (by decide) rfl ?_
      refine aw_aload_n dX10_arrange_123 rfl ?_
      refine aw_getr' (j := 3) dX10_arrange_124 fX10_22 rfl (by assumption) rfl (by assumption) ?_
      refine aw_iload dX10_arrange_127 rfl ?_
      refine aw_iload dX10_arrange_129 rfl ?_
      refine aw_if_lt (tgt := 151) dX10_arrange_131 rfl (by omega) (fun c131 => ?_) (fun c131 => ?_)
      · exact absurd c131 (by omega)
      · refine aw_iload dX10_arrange_134 rfl ?_
        refine aw_bipush dX10_arrange_136 rfl ?_
        refine aw_ic_ge (tgt := 151) dX10_arrange_138 rfl (by omega) (by omega) (fun c138 => ?_) (fun c138 => ?_)
        · exact absurd c138 (by omega)
        · refine aw_aload_n dX10_arrange_141 rfl ?_
          refine aw_getr' (j := 8) dX10_arrange_142 fX10_38 rfl (by assumption) rfl (by assumption) ?_
          refine aw_iload dX10_arrange_145 rfl ?_
          refine aw_iald' dX10_arrange_147 (by assumption) (by omega) (by first | decide | omega) e2 ?_
          refine aw_goto (tgt := 152) dX10_arrange_148 rfl ?_
          refine aw_iast dX10_arrange_152 (by assumption) (by omega) (by first | decide | omega) ?_
          refine aw_iinc (k9 := 1) (ls1 := [(5, _), (6, _), (4, _), (0, _), (1, _), (2, _), (3, _)]) dX10_arrange_153 rfl (by decide) rfl ?_
          refine aw_goto (tgt := 107) dX10_arrange_156 rfl ?_
          refine aw_sub [0, 2, 3, 4, 5, 6] rfl ?_
          exact I
/-- arrange: the tree told by the nodes' new places -/
theorem c_arrange {γ : GG} {t L f m N : Nat} {b : Int} {ct od : Nat → Nat} {T : Tr} {h : AH} (hS : shTr h t) (h0 : gi h t 0 = L) (hO : arO L f m N b ct od) (ho : okTr T) (hn : tn T = N) (hrow : ∀ k, k < N → gi h (t + 1) (od k) = tnm T k ∧ gi h (t + 2) (od k) = tvl T k) (hp0 : gi h (t + 3) (od 0) = -1) (hp : ∀ k, 1 ≤ k → k < N → ∃ p q : Nat, gi h (t + 3) (od k) = p ∧ p < 40 ∧ q < N ∧ od q = p ∧ tpa T k = q) (h00 : gl h (t + 6) 0 = 0) : Call γ mX10_arrange 2 0 0 [vr (some t), vi (f : Int), vi ((f + m : Nat) : Int), vi b] h (rE (vi (N : Int)) (fun h' => eqT (S9T t) h h' ∧ rowT h' t T ∧ ∀ j, j < N → gi h' (t + 8) (od j) = j)) := by
  have hO' := hO
  obtain ⟨a1, a2, a3, a4, a5, a6, a7, a8, a9, a10, a11, a12, a13⟩ := hO'
  have n1 : 1 ≤ tn T := ho.1
  have t0 := ho.o.2.2.2.1
  have LM := l_ar6 (γ := γ) (Q := rE (vi (N : Int)) (fun h' => eqT (S9T t) h h' ∧ rowT h' t T ∧ ∀ j, j < N → gi h' (t + 8) (od j) = j)) hS h0 hO (fun H hE hI => by
    have hS1 := hE.shTr hS
    have E0 : eqT (S9T t) h H := hE.mono (fun b hb => by unfold LY at hb; unfold S9T; omega)
    have F0 : ∀ b, b = t + 1 ∨ b = t + 2 ∨ b = t + 3 → ∀ j, gi H b j = gi h b j := fun b hb j => ((hE.2 b).2.2 (by unfold LY; omega) j).1
    have G0 : gl H (t + 6) 0 = 0 := ((hE.2 (t + 6)).2.2 (by unfold LY; omega) 0).2.trans h00
    have C1 := c_relay (γ := γ) (r := 1) (n := N) (od := od) hS1 (Or.inl rfl) a3 (fun k hk => ⟨hI.1 k hk, by have := a13 k hk; omega⟩)
    obtain ⟨hk, ⟨r1, k1⟩, ⟨r2, k2⟩, ⟨r3, k3⟩, ⟨r4, k4⟩, ⟨r5, k5⟩, ⟨r6, k6⟩, ⟨r7, k7⟩, ⟨r8, k8⟩, ⟨r9, k9⟩⟩ := hS1
    refine aw_aload_n dX10_arrange_74 rfl ?_
    refine aw_aload_n dX10_arrange_75 rfl ?_
    refine aw_getr' (j := 1) dX10_arrange_76 fX10_15 rfl (by assumption) rfl (by assumption) ?_
    refine aw_iload dX10_arrange_79 rfl ?_
    refine aw_invV_f dX10_arrange_81 vX10_relay kX10_58 rfl (C1) ⟨_, (by assumption), _, _, rfl⟩ rfl rfl (by decide) (by decide) (by decide) (Nat.le_of_ble_eq_true rfl) (fun H1 hP9 => ?_)
    obtain ⟨E1, R1⟩ := hP9
    have hS2 := E1.shTr ⟨hk, ⟨r1, k1⟩, ⟨r2, k2⟩, ⟨r3, k3⟩, ⟨r4, k4⟩, ⟨r5, k5⟩, ⟨r6, k6⟩, ⟨r7, k7⟩, ⟨r8, k8⟩, ⟨r9, k9⟩⟩
    have Q1 : ∀ b, (b = t + 2 ∨ b = t + 3 ∨ b = t + 7 ∨ b = t + 8) → ∀ j, gi H1 b j = gi H b j := fun b hb j => ((E1.2 b).2.2 (by omega) j).1
    have C2 := c_relay (γ := γ) (r := 2) (n := N) (od := od) hS2 (Or.inr (Or.inl rfl)) a3 (fun k hk => ⟨(Q1 _ (by omega) _).trans (hI.1 k hk), by have := a13 k hk; omega⟩)
    clear hk r1 k1 r2 k2 r3 k3 r4 k4 r5 k5 r6 k6 r7 k7 r8 k8 r9 k9
    obtain ⟨hk, ⟨r1, k1⟩, ⟨r2, k2⟩, ⟨r3, k3⟩, ⟨r4, k4⟩, ⟨r5, k5⟩, ⟨r6, k6⟩, ⟨r7, k7⟩, ⟨r8, k8⟩, ⟨r9, k9⟩⟩ := hS2
    refine aw_aload_n dX10_arrange_84 rfl ?_
    refine aw_aload_n dX10_arrange_85 rfl ?_
    refine aw_getr' (j := 2) dX10_arrange_86 fX10_19 rfl (by assumption) rfl (by assumption) ?_
    refine aw_iload dX10_arrange_89 rfl ?_
    refine aw_invV_f dX10_arrange_91 vX10_relay kX10_58 rfl (C2) ⟨_, (by assumption), _, _, rfl⟩ rfl rfl (by decide) (by decide) (by decide) (Nat.le_of_ble_eq_true rfl) (fun H2 hP9 => ?_)
    obtain ⟨E2, R2⟩ := hP9
    have hS3 := E2.shTr ⟨hk, ⟨r1, k1⟩, ⟨r2, k2⟩, ⟨r3, k3⟩, ⟨r4, k4⟩, ⟨r5, k5⟩, ⟨r6, k6⟩, ⟨r7, k7⟩, ⟨r8, k8⟩, ⟨r9, k9⟩⟩
    have Q2 : ∀ b, (b = t + 1 ∨ b = t + 3 ∨ b = t + 7 ∨ b = t + 8) → ∀ j, gi H2 b j = gi H1 b j := fun b hb j => ((E2.2 b).2.2 (by omega) j).1
    have C3 := c_relay (γ := γ) (r := 3) (n := N) (od := od) hS3 (Or.inr (Or.inr rfl)) a3 (fun k hk => ⟨(Q2 _ (by omega) _).trans ((Q1 _ (by omega) _).trans (hI.1 k hk)), by have := a13 k hk; omega⟩)
    clear hk r1 k1 r2 k2 r3 k3 r4 k4 r5 k5 r6 k6 r7 k7 r8 k8 r9 k9
    obtain ⟨hk, ⟨r1, k1⟩, ⟨r2, k2⟩, ⟨r3, k3⟩, ⟨r4, k4⟩, ⟨r5, k5⟩, ⟨r6, k6⟩, ⟨r7, k7⟩, ⟨r8, k8⟩, ⟨r9, k9⟩⟩ := hS3
    refine aw_aload_n dX10_arrange_94 rfl ?_
    refine aw_aload_n dX10_arrange_95 rfl ?_
    refine aw_getr' (j := 3) dX10_arrange_96 fX10_22 rfl (by assumption) rfl (by assumption) ?_
    refine aw_iload dX10_arrange_99 rfl ?_
    refine aw_invV_f dX10_arrange_101 vX10_relay kX10_58 rfl (C3) ⟨_, (by assumption), _, _, rfl⟩ rfl rfl (by decide) (by decide) (by decide) (Nat.le_of_ble_eq_true rfl) (fun H3 hP9 => ?_)
    obtain ⟨E3, R3⟩ := hP9
    have hS4 := E3.shTr ⟨hk, ⟨r1, k1⟩, ⟨r2, k2⟩, ⟨r3, k3⟩, ⟨r4, k4⟩, ⟨r5, k5⟩, ⟨r6, k6⟩, ⟨r7, k7⟩, ⟨r8, k8⟩, ⟨r9, k9⟩⟩
    have Q3 : ∀ b, (b = t + 1 ∨ b = t + 2 ∨ b = t + 7 ∨ b = t + 8) → ∀ j, gi H3 b j = gi H2 b j := fun b hb j => ((E3.2 b).2.2 (by omega) j).1
    clear hk r1 k1 r2 k2 r3 k3 r4 k4 r5 k5 r6 k6 r7 k7 r8 k8 r9 k9
    have E4 : eqT (S9T t) H H3 := ((E1.mono (fun b hb => by unfold S9T; omega)).tr (E2.mono (fun b hb => by unfold S9T; omega))).tr (E3.mono (fun b hb => by unfold S9T; omega))
    have g6 : gl H3 (t + 6) 0 = 0 := (((E3.2 (t + 6)).2.2 (by omega) 0).2).trans ((((E2.2 (t + 6)).2.2 (by omega) 0).2).trans ((((E1.2 (t + 6)).2.2 (by omega) 0).2).trans G0))
    have P3 : ∀ k, k < N → gi H3 (t + 3) k = gi h (t + 3) (od k) := fun k hk => (R3 k hk).trans ((Q2 _ (by omega) _).trans ((Q1 _ (by omega) _).trans (F0 _ (by omega) _)))
    have P2 : ∀ k, k < N → gi H3 (t + 2) k = tvl T k := fun k hk => (Q3 _ (by omega) _).trans ((R2 k hk).trans ((Q1 _ (by omega) _).trans ((F0 _ (by omega) _).trans (hrow k hk).2)))
    have P1 : ∀ k, k < N → gi H3 (t + 1) k = tnm T k := fun k hk => (Q3 _ (by omega) _).trans ((Q2 _ (by omega) _).trans ((R1 k hk).trans ((F0 _ (by omega) _).trans (hrow k hk).1)))
    have P8 : ∀ j, j < N → gi H3 (t + 8) (od j) = j := fun j hj => (Q3 _ (by omega) _).trans ((Q2 _ (by omega) _).trans ((Q1 _ (by omega) _).trans (hI.2 j hj)))
    have L2 := l_ar107 (γ := γ) (f := f) (m := m) (N := N) (b := b) (od := od) (T := T) (Q := rE (vi (N : Int)) (fun h' => eqT (S9T t) h h' ∧ rowT h' t T ∧ ∀ j, j < N → gi h' (t + 8) (od j) = j)) hS4 a3 P8 (fun k k1 k2 => by
      obtain ⟨p, q, p1, p2⟩ := hp k k1 k2
      exact ⟨p, q, (P3 k k2).trans p1, p2⟩) (fun H4 E5 R4 R40 => by
        have hS5 := E5.shTr hS4
        have pa4 : ∀ k, k < N → gi H4 (t + 3) k = tpa T k := fun k hk => by
          by_cases z : k = 0
          · subst z
            exact (R40.trans ((P3 0 (by omega)).trans hp0)).trans t0.symm
          · exact R4 k (by omega) hk
        have CS := c_survey (γ := γ) (n := N) (T := T) ho hn.symm hS5 pa4 (((E5.2 (t + 6)).2.2 (by omega) 0).2.trans g6)
        obtain ⟨hk, ⟨r1, k1⟩, ⟨r2, k2⟩, ⟨r3, k3⟩, ⟨r4, k4⟩, ⟨r5, k5⟩, ⟨r6, k6⟩, ⟨r7, k7⟩, ⟨r8, k8⟩, ⟨r9, k9⟩⟩ := hS5
        refine aw_aload_n dX10_arrange_159 rfl ?_
        refine aw_iload dX10_arrange_160 rfl ?_
        refine aw_invV_f dX10_arrange_162 vX10_survey kX10_62 rfl (CS) ⟨_, (by assumption), _, _, rfl⟩ rfl rfl (by decide) (by decide) (by decide) (Nat.le_of_ble_eq_true rfl) (fun H5 hP9 => ?_)
        obtain ⟨E6, R6⟩ := hP9
        refine aw_iload dX10_arrange_165 rfl ?_
        exact aw_ireturn dX10_arrange_167 rfl (Or.inl rfl) ⟨rfl, E0.tr (E4.tr ((E5.mono (fun b hb => by unfold S9T; omega)).tr (E6.mono (fun b hb => by unfold SV9 at hb; unfold S9T; omega)))), fun k hk => by
      obtain ⟨s4, s5, s6⟩ := R6 k (by omega)
      refine ⟨?_, ?_, ?_, s4, s5, s6⟩
      · exact ((E6.2 (t + 1)).2.2 (by unfold SV9; omega) k).1.trans (((E5.2 (t + 1)).2.2 (by omega) k).1.trans (P1 k (by omega)))
      · exact ((E6.2 (t + 2)).2.2 (by unfold SV9; omega) k).1.trans (((E5.2 (t + 2)).2.2 (by omega) k).1.trans (P2 k (by omega)))
      · exact ((E6.2 (t + 3)).2.2 (by unfold SV9; omega) k).1.trans (pa4 k (by omega)), fun j hj => ((E6.2 (t + 8)).2.2 (by unfold SV9; omega) (od j)).1.trans (((E5.2 (t + 8)).2.2 (by omega) (od j)).1.trans (P8 j hj))⟩) (max N 1 - 1) 1 H3 (by omega) (Nat.le_refl _) eqT.rf rfl (fun j j1 j2 => absurd j1 (by omega)) (fun j _ _ => rfl)
    refine aw_iconst dX10_arrange_104 ?_
    refine aw_istore (ls1 := [(5, _), (4, _), (0, _), (1, _), (2, _), (3, _)]) dX10_arrange_105 (by decide) rfl ?_
    refine aw_sub [0, 1, 2, 3, 4, 5] rfl ?_
    exact L2) L 0 h (by omega) eqT.rf (by rw [a6]; exact ⟨fun j hj => absurd hj (by omega), fun j hj => absurd hj (by omega)⟩)
  rw [a6] at LM
  refine Call.of (ls := [(0, vr (some t)), (1, vi (f : Int)), (2, vi ((f + m : Nat) : Int)), (3, vi b)]) vX10_arrange.1 (Nat.le_of_ble_eq_true rfl) rfl ?_
  refine aw_iconst dX10_arrange_0 ?_
  refine aw_istore (ls1 := [(4, _), (0, _), (1, _), (2, _), (3, _)]) dX10_arrange_1 (by decide) rfl ?_
  refine aw_iconst dX10_arrange_3 ?_
  refine aw_istore (ls1 := [(5, _), (4, _), (0, _), (1, _), (2, _), (3, _)]) dX10_arrange_4 (by decide) rfl ?_
  refine aw_sub [0, 1, 2, 3, 4, 5] rfl ?_
  exact LM
