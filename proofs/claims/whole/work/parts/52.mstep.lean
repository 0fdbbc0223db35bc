/-! ===== the model: readStep, readSlash ===== -/
def PT (h : AH) (a : Nat) (b : Int) (T : TT) : Prop := gT (gi h (a + 7)) b T ∧ T.2.length ≤ 8 ∧ ∀ s ∈ T.2, okS s
def StI (h : AH) (a : Nat) (f : Nat → Nat) (n k : Nat) (z : PS) (Q : TQ) (T : TT) (x t sb : Int) (ps : List TP) (k1 : Nat) (H : AH) : Prop := eqG (SR a sb (sb + 204)) h H ∧ gi H a 11 = (k1 : Int) ∧ gi H (a + 7) sb = x ∧ gi H (a + 7) (sb + 1) = t ∧ gi H (a + 7) (sb + 2) = ps.length ∧ (∀ (i : Nat) (p : TP), ps[i]? = some p → gP (gi H (a + 7)) (sb + 3 + 67 * i) p) ∧ (∀ p ∈ ps, okP p) ∧ ps.length ≤ 3 ∧ k1 ≤ n ∧ Rc f n k z k1 (4, 0, Q, T, ((x, t), ps), k0)
def StR (h : AH) (a : Nat) (f : Nat → Nat) (n k : Nat) (z : PS) (Q : TQ) (T : TT) (b : Int) (h' : AH) : Prop := eqG (SR a (b + 1) (b + 1634)) h h' ∧ ∃ (k' : Nat) (s : TS), Rc f n k z k' (4, 0, Q, T, s, k0) ∧ gi h' a 11 = (k' : Int) ∧ okS s ∧ T.2.length < 8 ∧ PT h' a b (T.1, T.2 ++ [s]) ∧ hr9 f n k' ≠ 91
theorem PT_eq {h h' : AH} {a : Nat} {b lo hi : Int} {T : TT} (hT : PT h a b T) (e : eqG (SR a lo hi) h h') (hb : hi ≤ b ∨ b + 2 + 204 * (T.2.length : Int) ≤ lo) : ∀ (i : Nat) (s : TS), T.2[i]? = some s → gS (gi h' (a + 7)) (b + 2 + 204 * i) s := fun i s hi => by
  have := lt_of_get hi
  exact (hT.1.2.2 i s hi).eq (hT.2.2 s (List.mem_of_getElem? hi)) (fun j j1 j2 => e.2.2.2.2 _ _ (by unfold SR; omega))
theorem PT_add {h h' : AH} {a : Nat} {b : Int} {T : TT} {s : TS} (hT : PT h a b T) (hl : T.2.length < 8) (e : eqG (SR a (b + 2 + 204 * (T.2.length : Int)) ((b + 2 + 204 * (T.2.length : Int)) + 204)) h h') (hs : okS s) (gs : gS (gi h' (a + 7)) (b + 2 + 204 * (T.2.length : Int)) s) : PT (si h' (a + 7) (b + 1) (T.2.length + 1)) a b (T.1, T.2 ++ [s]) := by
  have ok2 : ∀ s' ∈ T.2 ++ [s], okS s' := mem_snoc hT.2.2 hs
  refine ⟨⟨(gi_ne (Or.inr (by omega))).trans ((e.2.2.2.2 _ _ (by unfold SR; omega)).trans hT.1.1), (gi_at rfl rfl).trans (by simp), fun i s' hi => ?_⟩, by simp; omega, ok2⟩
  refine gS.eq (f := gi h' (a + 7)) (b := b + 2 + 204 * i) (ok2 s' (List.mem_of_getElem? hi)) ?_ (fun j j1 j2 => gi_ne (Or.inr (by omega)))
  rcases get_snoc hi with ⟨g1, g2⟩ | ⟨g1, g2⟩
  · exact PT_eq hT e (Or.inr (by omega)) i s' g2
  · subst g1 g2
    exact gs
theorem acc_91 {Q : TQ} {T : TT} {s : TS} : acc 91 (4, 0, Q, T, s, k0) = if s.2.length < 3 then some (5, 0, Q, T, s, k0) else none := by
  show (if (91 : Nat) = 47 then some (1, 0, Q, (T.1, T.2 ++ [s]), s0, k0) else if (91 : Nat) = 91 ∧ s.2.length < 3 then some (5, 0, Q, T, s, k0) else if (91 : Nat) = 124 ∧ Q.length < 3 then some (0, 0, Q ++ [(T.1, T.2 ++ [s])], (false, []), s0, k0) else none) = _
  rw [if_neg (by decide)]
  by_cases q : s.2.length < 3
  · rw [if_pos ⟨rfl, q⟩, if_pos q]
  · rw [if_neg (fun g => q g.2), if_neg (fun g => absurd g.1 (by decide)), if_neg q]
theorem gi_a7 (h : AH) (a : Nat) (j v : Int) : gi (si h a j v) (a + 7) = gi h (a + 7) := by
  funext k
  exact gi_ne (Or.inl (by omega))
theorem PT_a7 {h : AH} {a : Nat} {b j v : Int} {T : TT} (hT : PT h a b T) : PT (si h a j v) a b T := by
  unfold PT
  rw [gi_a7]
  exact hT
theorem s_rst71 {γ : GG} {h : AH} {a k n : Nat} {f : Nat → Nat} {Q : TQ} {T : Bool × List TS} {z : PS} {x t : Int} {ps : List TP} {b : Int} {H : AH} {k1 : Nat} (hX : isX h a f n) (hb : 1 ≤ b ∧ b + 1634 ≤ 6537) (hl : T.2.length < 8) (hT : PT h a b T) (hxt : okT (x, t)) (hI : StI h a f n k z Q T x t (b + 2 + 204 * (T.2.length : Int)) ps k1 H) (kk : ∀ (p : TP) (k' : Nat) (H' : AH), StI h a f n k z Q T x t (b + 2 + 204 * (T.2.length : Int)) (ps ++ [p]) k' H' → AW γ mX12_readStep 7 0 0 71 [(0, vr (some a)), (1, vi b), (2, vi (b + 2 + 204 * (T.2.length : Int)))] [] H' (rB (nrd h a f n k z (b + 1) (b + 1634)) (StR h a f n k z Q T b))) : AW γ mX12_readStep 7 0 0 71 [(0, vr (some a)), (1, vi b), (2, vi (b + 2 + 204 * (T.2.length : Int)))] [] H (rB (nrd h a f n k z (b + 1) (b + 1634)) (StR h a f n k z Q T b)) := by
  obtain ⟨E0, hk, e0, e1, e2, hal, hok, hl2, hk1n, r0⟩ := hI
  have hX1 := hX.eq E0
  have hf := hX.2.2.2.2
  have hn4 := hX.2.2.1
  obtain ⟨hka, rq, kq⟩ := hX1.q
  have KH := m_hereX (γ := γ) hX1 hk hk1n
  have bd := hr9_bd hf n k1
  have b9 : gi H (a + 7) (b + 1) = (T.2.length : Int) := (E0.2.2.2.2 _ _ (by unfold SR; omega)).trans hT.1.2.1
  by_cases q91 : hr9 f n k1 = 91
  · obtain ⟨l91, c91⟩ := hr9_lt (c := 91) q91
    by_cases q3 : ps.length = 3
    · skip
      refine aw_aload_n dX12_readStep_71 rfl ?_
      refine aw_invV_r dX12_readStep_72 vX12_here kX12_137 rfl (KH) ⟨_, (by assumption), _, _, rfl⟩ rfl rfl (by decide) (by decide) (by decide) (Nat.le_of_ble_eq_true rfl) ?_
      refine aw_bipush dX12_readStep_75 rfl ?_
      refine aw_ic_ne (tgt := 140) dX12_readStep_77 rfl (by omega) (by omega) (fun c77 => ?_) (fun c77 => ?_)
      · exact absurd c77 (by omega)
      · refine aw_aload_n dX12_readStep_80 rfl ?_
        refine aw_getr' (j := 12) dX12_readStep_81 fX12_28 rfl (by assumption) rfl (by assumption) ?_
        refine aw_iload_n dX12_readStep_84 rfl ?_
        refine aw_iconst dX12_readStep_85 ?_
        refine aw_iadd dX12_readStep_86 ?_
        refine aw_iald' dX12_readStep_87 (by assumption) (by omega) (by first | decide | omega) e2 ?_
        refine aw_iconst dX12_readStep_88 ?_
        refine aw_ic_ne (tgt := 94) dX12_readStep_89 rfl (by omega) (by omega) (fun c89 => ?_) (fun c89 => ?_)
        · exact absurd c89 (by omega)
        · refine aw_iconst dX12_readStep_92 ?_
          exact aw_zreturn dX12_readStep_93 rfl (by omega) (Or.inl rfl) (Or.inl ⟨rfl, E0.mono (SR.mono (by omega) (by omega)), k1, _, r0, Or.inl ⟨l91, by rw [c91, acc_91, if_neg (show ¬ ps.length < 3 by omega)]⟩, hk⟩)
    · have ea : acc (f k1) (4, 0, Q, T, ((x, t), ps), k0) = some (5, 0, Q, T, ((x, t), ps), k0) := by rw [c91, acc_91, if_pos (show ps.length < 3 by omega)]
      have KC := m_predicateAt (γ := γ) (h := si H a 11 ((k1 : Int) + 1)) (p := (b + 2 + 204 * (T.2.length : Int))) (k := (ps.length : Int))
      have KP := m_readPredicate (γ := γ) (k := k1 + 1) (b := (b + 2 + 204 * (T.2.length : Int)) + 3 + 67 * (ps.length : Int)) (Q := Q) (T := T) (s := ((x, t), ps)) (h := si H a 11 ((k1 : Int) + 1)) (hX1.eq (eqG.si (SR_at (lo := 0) (hi := 0)))) ((gi_at rfl rfl).trans (by omega)) (by omega) (by omega)
      refine aw_aload_n dX12_readStep_71 rfl ?_
      refine aw_invV_r dX12_readStep_72 vX12_here kX12_137 rfl (KH) ⟨_, (by assumption), _, _, rfl⟩ rfl rfl (by decide) (by decide) (by decide) (Nat.le_of_ble_eq_true rfl) ?_
      refine aw_bipush dX12_readStep_75 rfl ?_
      refine aw_ic_ne (tgt := 140) dX12_readStep_77 rfl (by omega) (by omega) (fun c77 => ?_) (fun c77 => ?_)
      · exact absurd c77 (by omega)
      · refine aw_aload_n dX12_readStep_80 rfl ?_
        refine aw_getr' (j := 12) dX12_readStep_81 fX12_28 rfl (by assumption) rfl (by assumption) ?_
        refine aw_iload_n dX12_readStep_84 rfl ?_
        refine aw_iconst dX12_readStep_85 ?_
        refine aw_iadd dX12_readStep_86 ?_
        refine aw_iald' dX12_readStep_87 (by assumption) (by omega) (by first | decide | omega) e2 ?_
        refine aw_iconst dX12_readStep_88 ?_
        refine aw_ic_ne (tgt := 94) dX12_readStep_89 rfl (by omega) (by omega) (fun c89 => ?_) (fun c89 => ?_)
        · refine aw_aload_n dX12_readStep_94 rfl ?_
          refine aw_dup dX12_readStep_95 rfl ?_
          refine aw_geti' (j := 11) dX12_readStep_96 fX12_131 rfl (by assumption) rfl hk ?_
          refine aw_iconst dX12_readStep_99 ?_
          refine aw_iadd dX12_readStep_100 ?_
          refine aw_puti' (j := 11) rfl dX12_readStep_101 fX12_131 (by assumption) rfl ?_
          refine aw_aload_n dX12_readStep_104 rfl ?_
          refine aw_iload_n dX12_readStep_105 rfl ?_
          refine aw_aload_n dX12_readStep_106 rfl ?_
          refine aw_getr' (j := 12) dX12_readStep_107 fX12_28 rfl (by assumption) rfl (by assumption) ?_
          refine aw_iload_n dX12_readStep_110 rfl ?_
          refine aw_iconst dX12_readStep_111 ?_
          refine aw_iadd dX12_readStep_112 ?_
          refine aw_iald' dX12_readStep_113 (by assumption) (by omega) (by first | decide | omega) ((gi_ne (Or.inl (by omega))).trans e2) ?_
          refine aw_invS_r dX12_readStep_114 sX12_predicateAt kX12_168 rfl (KC) rfl rfl (by decide) (by decide) (by decide) (Nat.le_of_ble_eq_true rfl) ?_
          refine aw_invV_2 dX12_readStep_117 vX12_readPredicate kX12_171 rfl (KP) ⟨_, (by assumption), _, _, rfl⟩ rfl rfl (by decide) (by decide) (by decide) (Nat.le_of_ble_eq_true rfl) (fun h1 hP9 => ?_) (fun h1 hP9 => ?_)
          · obtain ⟨E1, k2, z2, r2, s2, A1⟩ := hP9
            refine aw_if_ne (tgt := 125) dX12_readStep_120 rfl (by omega) (fun c120 => ?_) (fun c120 => ?_)
            · exact absurd c120 (by omega)
            · refine aw_iconst dX12_readStep_123 ?_
              exact aw_zreturn dX12_readStep_124 rfl (by omega) (Or.inl rfl) (Or.inl ⟨rfl, (E0.tr (eqG.si SR_at)).mono (SR.mono (by omega) (by omega)) |>.tr (E1.mono (SR.mono (by omega) (by omega))), k2, z2, (r0.tr (Rc.one l91 ea)).tr r2, s2, A1⟩)
          · obtain ⟨E1, k2, pr, r2, A1, oP, mp⟩ := hP9
            have hka1 := (E1.1 a).trans hka
            have rq1 := (E1.2.1 a 12).trans rq
            have kq1 := (E1.1 (a + 7)).trans kq
            have d2 : gi h1 (a + 7) ((b + 2 + 204 * (T.2.length : Int)) + 2) = (ps.length : Int) := (E1.2.2.2.2 _ _ (by unfold SR; omega)).trans ((gi_ne (Or.inl (by omega))).trans e2)
            have E3 : eqG (SR a (b + 2 + 204 * (T.2.length : Int)) ((b + 2 + 204 * (T.2.length : Int)) + 204)) h (si h1 (a + 7) ((b + 2 + 204 * (T.2.length : Int)) + 2) ((ps.length : Int) + 1)) := ((E0.tr (eqG.si SR_at)).tr (E1.mono (SR.mono (by omega) (by omega)))).tr (eqG.si (Or.inr ⟨rfl, by omega, by omega⟩))
            have le2 := r2.le
            have r3 := (r0.tr (Rc.one l91 ea)).tr r2
            have okl : ∀ p ∈ ps ++ [pr], okP p := mem_snoc hok oP
            have el : (ps ++ [pr]).length = ps.length + 1 := by simp
            refine aw_if_ne (tgt := 125) dX12_readStep_120 rfl (by omega) (fun c120 => ?_) (fun c120 => ?_)
            · refine aw_aload_n dX12_readStep_125 rfl ?_
              refine aw_getr' (j := 12) dX12_readStep_126 fX12_28 rfl (by assumption) rfl (by assumption) ?_
              refine aw_iload_n dX12_readStep_129 rfl ?_
              refine aw_iconst dX12_readStep_130 ?_
              refine aw_iadd dX12_readStep_131 ?_
              refine aw_dup2 dX12_readStep_132 rfl rfl ?_
              refine aw_iald' dX12_readStep_133 (by assumption) (by omega) (by first | decide | omega) d2 ?_
              refine aw_iconst dX12_readStep_134 ?_
              refine aw_iadd dX12_readStep_135 ?_
              refine aw_iast dX12_readStep_136 (by assumption) (by omega) (by first | decide | omega) ?_
              refine aw_goto (tgt := 71) dX12_readStep_137 rfl ?_
              refine aw_sub [0, 1, 2] rfl ?_
              refine kk pr k2 _ ⟨E3, (gi_ne (Or.inl (by omega))).trans A1, (gi_ne (Or.inr (by omega))).trans ((E1.2.2.2.2 _ _ (by unfold SR; omega)).trans ((gi_ne (Or.inl (by omega))).trans e0)), (gi_ne (Or.inr (by omega))).trans ((E1.2.2.2.2 _ _ (by unfold SR; omega)).trans ((gi_ne (Or.inl (by omega))).trans e1)), (gi_at rfl rfl).trans (by rw [el]; omega), fun i p hi => ?_, okl, by omega, le2.2, r3⟩
              refine gP.eq (f := gi h1 (a + 7)) (b := (b + 2 + 204 * (T.2.length : Int)) + 3 + 67 * i) (okl p (List.mem_of_getElem? hi)) ?_ (fun j j1 j2 => gi_ne (Or.inr (by omega)))
              rcases get_snoc hi with ⟨g1, g2⟩ | ⟨g1, g2⟩
              · exact (hal i p g2).eq (hok p (List.mem_of_getElem? g2)) (fun j j1 j2 => (E1.2.2.2.2 _ _ (by unfold SR; omega)).trans (gi_ne (Or.inl (by omega))))
              · subst g1 g2
                exact mp
            · exact absurd c120 (by omega)
        · exact absurd c89 (by omega)
  · have hs : okS ((x, t), ps) := ⟨hxt, hl2, hok⟩
    have gs : gS (gi H (a + 7)) (b + 2 + 204 * (T.2.length : Int)) ((x, t), ps) := ⟨e0, e1, e2, hal⟩
    have hP := PT_add hT hl E0 hs gs
    refine aw_aload_n dX12_readStep_71 rfl ?_
    refine aw_invV_r dX12_readStep_72 vX12_here kX12_137 rfl (KH) ⟨_, (by assumption), _, _, rfl⟩ rfl rfl (by decide) (by decide) (by decide) (Nat.le_of_ble_eq_true rfl) ?_
    refine aw_bipush dX12_readStep_75 rfl ?_
    refine aw_ic_ne (tgt := 140) dX12_readStep_77 rfl (by omega) (by omega) (fun c77 => ?_) (fun c77 => ?_)
    · refine aw_aload_n dX12_readStep_140 rfl ?_
      refine aw_getr' (j := 12) dX12_readStep_141 fX12_28 rfl (by assumption) rfl (by assumption) ?_
      refine aw_iload_n dX12_readStep_144 rfl ?_
      refine aw_iconst dX12_readStep_145 ?_
      refine aw_iadd dX12_readStep_146 ?_
      refine aw_dup2 dX12_readStep_147 rfl rfl ?_
      refine aw_iald' dX12_readStep_148 (by assumption) (by omega) (by first | decide | omega) b9 ?_
      refine aw_iconst dX12_readStep_149 ?_
      refine aw_iadd dX12_readStep_150 ?_
      refine aw_iast dX12_readStep_151 (by assumption) (by omega) (by first | decide | omega) ?_
      refine aw_iconst dX12_readStep_152 ?_
      exact aw_zreturn dX12_readStep_153 rfl (by omega) (Or.inl rfl) (Or.inr ⟨rfl, (E0.mono (SR.mono (by omega) (by omega))).tr (eqG.si (Or.inr ⟨rfl, by omega, by omega⟩)), k1, _, r0, (gi_ne (Or.inl (by omega))).trans hk, hs, hl, hP, q91⟩)
    · exact absurd c77 (by omega)
theorem l_rst {γ : GG} {h : AH} {a k n : Nat} {f : Nat → Nat} {Q : TQ} {T : Bool × List TS} {z : PS} {x t : Int} {b : Int} (hX : isX h a f n) (hb : 1 ≤ b ∧ b + 1634 ≤ 6537) (hl : T.2.length < 8) (hT : PT h a b T) (hxt : okT (x, t)) : ∀ (m : Nat) (ps : List TP) (k1 : Nat) (H : AH), ps.length + m = 3 → StI h a f n k z Q T x t (b + 2 + 204 * (T.2.length : Int)) ps k1 H → AW γ mX12_readStep 7 0 0 71 [(0, vr (some a)), (1, vi b), (2, vi (b + 2 + 204 * (T.2.length : Int)))] [] H (rB (nrd h a f n k z (b + 1) (b + 1634)) (StR h a f n k z Q T b)) := by
  intro m
  induction m with
  | zero =>
    intro ps k1 H hm hI
    exact s_rst71 hX hb hl hT hxt hI (fun c k' H' hI' => absurd hI'.2.2.2.2.2.2.2.1 (by simp; omega))
  | succ m ih =>
    intro ps k1 H hm hI
    exact s_rst71 hX hb hl hT hxt hI (fun c k' H' hI' => ih (ps ++ [c]) k' H' (by simp; omega) hI')
theorem m_readStep {γ : GG} {h : AH} {a k n : Nat} {f : Nat → Nat} {st : Nat} {ax : Int} {Q : TQ} {T : TT} {s : TS} {kz : TP × TA × TC} {b : Int} (hX : isX h a f n) (hk : gi h a 11 = k) (hkn : k ≤ n) (hb : 1 ≤ b ∧ b + 1634 ≤ 6537) (hT : PT h a b T) (hst : st = 2 ∨ (st ≤ 1 ∧ hr9 f n k ≠ 47)) : Call γ mX12_readStep 7 0 0 [vr (some a), vi b] h (rB (nrd h a f n k (st, ax, Q, T, s, kz) (b + 1) (b + 1634)) (StR h a f n k (st, ax, Q, T, s, kz) Q T b)) := by
  obtain ⟨hka, rq, kq⟩ := hX.q
  have hf := hX.2.2.2.2
  have hn4 := hX.2.2.1
  have h9 := hT.1.2.1
  have hl8 := hT.2.1
  by_cases q8 : T.2.length = 8
  · have sk : stk f n k (st, ax, Q, T, s, kz) := by
      by_cases l : k < n
      · refine Or.inl ⟨l, ?_⟩
        rw [acc_stp (by
          rcases hst with g | ⟨g1, g2⟩
          · exact Or.inl g
          · exact Or.inr ⟨g1, hr_ne g2 l⟩)]
        unfold a_stp
        rw [if_pos q8]
      · exact Or.inr ⟨by omega, by simp only; omega⟩
    refine Call.of (ls := [(0, vr (some a)), (1, vi b)]) vX12_readStep.1 (Nat.le_of_ble_eq_true rfl) rfl ?_
    refine aw_aload_n dX12_readStep_0 rfl ?_
    refine aw_getr' (j := 12) dX12_readStep_1 fX12_28 rfl (by assumption) rfl (by assumption) ?_
    refine aw_iload_n dX12_readStep_4 rfl ?_
    refine aw_iconst dX12_readStep_5 ?_
    refine aw_iadd dX12_readStep_6 ?_
    refine aw_iald' dX12_readStep_7 (by assumption) (by omega) (by first | decide | omega) h9 ?_
    refine aw_bipush dX12_readStep_8 rfl ?_
    refine aw_ic_ne (tgt := 15) dX12_readStep_10 rfl (by omega) (by omega) (fun c10 => ?_) (fun c10 => ?_)
    · exact absurd c10 (by omega)
    · refine aw_iconst dX12_readStep_13 ?_
      exact aw_zreturn dX12_readStep_14 rfl (by omega) (Or.inl rfl) (Or.inl ⟨rfl, eqG.rf, k, _, Rc.rf hkn, sk, hk⟩)
  · have hl : T.2.length < 8 := by omega
    have bX := rtX_bd hf n k
    have bT := rtT_bd f n k
    have KC := m_stepAt (γ := γ) (h := h) (p := b) (k := (T.2.length : Int))
    have K := m_readTest (γ := γ) hX hk hkn
    obtain ⟨s1, s2⟩ := rt_step (st := st) (ax := ax) (Q := Q) (T := T) (s := s) (kk := kz) hf hkn hl hst
    by_cases qT : rtT f n k = -1
    · obtain ⟨z', z1, z2⟩ := s1 qT
      have K' : Call γ mX12_readTest 2 0 0 [vr (some a)] h (rE (vi (-1)) (fun h' => eqG (SR a 0 0) h h' ∧ gi h' a 11 = ((rtK f n k : Nat) : Int))) := by
        have := K
        simp only [if_pos qT] at this
        exact this
      refine Call.of (ls := [(0, vr (some a)), (1, vi b)]) vX12_readStep.1 (Nat.le_of_ble_eq_true rfl) rfl ?_
      refine aw_aload_n dX12_readStep_0 rfl ?_
      refine aw_getr' (j := 12) dX12_readStep_1 fX12_28 rfl (by assumption) rfl (by assumption) ?_
      refine aw_iload_n dX12_readStep_4 rfl ?_
      refine aw_iconst dX12_readStep_5 ?_
      refine aw_iadd dX12_readStep_6 ?_
      refine aw_iald' dX12_readStep_7 (by assumption) (by omega) (by first | decide | omega) h9 ?_
      refine aw_bipush dX12_readStep_8 rfl ?_
      refine aw_ic_ne (tgt := 15) dX12_readStep_10 rfl (by omega) (by omega) (fun c10 => ?_) (fun c10 => ?_)
      · refine aw_iload_n dX12_readStep_15 rfl ?_
        refine aw_aload_n dX12_readStep_16 rfl ?_
        refine aw_getr' (j := 12) dX12_readStep_17 fX12_28 rfl (by assumption) rfl (by assumption) ?_
        refine aw_iload_n dX12_readStep_20 rfl ?_
        refine aw_iconst dX12_readStep_21 ?_
        refine aw_iadd dX12_readStep_22 ?_
        refine aw_iald' dX12_readStep_23 (by assumption) (by omega) (by first | decide | omega) h9 ?_
        refine aw_invS_r dX12_readStep_24 sX12_stepAt kX12_165 rfl (KC) rfl rfl (by decide) (by decide) (by decide) (Nat.le_of_ble_eq_true rfl) ?_
        refine aw_istore_n (ls1 := [(2, _), (0, _), (1, _)]) dX12_readStep_27 (by decide) rfl ?_
        refine aw_aload_n dX12_readStep_28 rfl ?_
        refine aw_invV_e dX12_readStep_29 vX12_readTest kX12_144 rfl (K') ⟨_, (by assumption), _, _, rfl⟩ rfl rfl (by decide) (by decide) (by decide) (Nat.le_of_ble_eq_true rfl) (fun h1 hP9 => ?_)
        obtain ⟨E1, A1⟩ := hP9
        refine aw_istore_n (ls1 := [(3, _), (2, _), (0, _), (1, _)]) dX12_readStep_32 (by decide) rfl ?_
        refine aw_iload_n dX12_readStep_33 rfl ?_
        refine aw_iconst dX12_readStep_34 ?_
        refine aw_ic_ne (tgt := 40) dX12_readStep_35 rfl (by omega) (by omega) (fun c35 => ?_) (fun c35 => ?_)
        · exact absurd c35 (by omega)
        · refine aw_iconst dX12_readStep_38 ?_
          exact aw_zreturn dX12_readStep_39 rfl (by omega) (Or.inl rfl) (Or.inl ⟨rfl, E1.mono SR_z, _, z', z1, z2, A1⟩)
      · exact absurd c10 (by omega)
    · have r2 := s2 qT
      have le2 := r2.le
      have K' : Call γ mX12_readTest 2 0 0 [vr (some a)] h (rE (vi (10 * rtX f n k + rtT f n k)) (fun h' => eqG (SR a 0 0) h h' ∧ gi h' a 11 = ((rtK f n k + 1 : Nat) : Int))) := by
        have := K
        simp only [if_neg qT] at this
        exact this
      have ex1 : (10 * rtX f n k + rtT f n k) / 10 = rtX f n k := by omega
      have ex2 : (10 * rtX f n k + rtT f n k) % 10 = rtT f n k := by omega
      refine Call.of (ls := [(0, vr (some a)), (1, vi b)]) vX12_readStep.1 (Nat.le_of_ble_eq_true rfl) rfl ?_
      refine aw_aload_n dX12_readStep_0 rfl ?_
      refine aw_getr' (j := 12) dX12_readStep_1 fX12_28 rfl (by assumption) rfl (by assumption) ?_
      refine aw_iload_n dX12_readStep_4 rfl ?_
      refine aw_iconst dX12_readStep_5 ?_
      refine aw_iadd dX12_readStep_6 ?_
      refine aw_iald' dX12_readStep_7 (by assumption) (by omega) (by first | decide | omega) h9 ?_
      refine aw_bipush dX12_readStep_8 rfl ?_
      refine aw_ic_ne (tgt := 15) dX12_readStep_10 rfl (by omega) (by omega) (fun c10 => ?_) (fun c10 => ?_)
      · refine aw_iload_n dX12_readStep_15 rfl ?_
        refine aw_aload_n dX12_readStep_16 rfl ?_
        refine aw_getr' (j := 12) dX12_readStep_17 fX12_28 rfl (by assumption) rfl (by assumption) ?_
        refine aw_iload_n dX12_readStep_20 rfl ?_
        refine aw_iconst dX12_readStep_21 ?_
        refine aw_iadd dX12_readStep_22 ?_
        refine aw_iald' dX12_readStep_23 (by assumption) (by omega) (by first | decide | omega) h9 ?_
        refine aw_invS_r dX12_readStep_24 sX12_stepAt kX12_165 rfl (KC) rfl rfl (by decide) (by decide) (by decide) (Nat.le_of_ble_eq_true rfl) ?_
        refine aw_istore_n (ls1 := [(2, _), (0, _), (1, _)]) dX12_readStep_27 (by decide) rfl ?_
        refine aw_aload_n dX12_readStep_28 rfl ?_
        refine aw_invV_e dX12_readStep_29 vX12_readTest kX12_144 rfl (K') ⟨_, (by assumption), _, _, rfl⟩ rfl rfl (by decide) (by decide) (by decide) (Nat.le_of_ble_eq_true rfl) (fun h1 hP9 => ?_)
        obtain ⟨E1, A1⟩ := hP9
        have hka1 := (E1.1 a).trans hka
        have rq1 := (E1.2.1 a 12).trans rq
        have kq1 := (E1.1 (a + 7)).trans kq
        refine aw_istore_n (ls1 := [(3, _), (2, _), (0, _), (1, _)]) dX12_readStep_32 (by decide) rfl ?_
        refine aw_iload_n dX12_readStep_33 rfl ?_
        refine aw_iconst dX12_readStep_34 ?_
        refine aw_ic_ne (tgt := 40) dX12_readStep_35 rfl (by omega) (by omega) (fun c35 => ?_) (fun c35 => ?_)
        · refine aw_aload_n dX12_readStep_40 rfl ?_
          refine aw_getr' (j := 12) dX12_readStep_41 fX12_28 rfl (by assumption) rfl (by assumption) ?_
          refine aw_iload_n dX12_readStep_44 rfl ?_
          refine aw_iload_n dX12_readStep_45 rfl ?_
          refine aw_bipush dX12_readStep_46 rfl ?_
          refine aw_idiv dX12_readStep_48 (by omega) (by omega) ?_
          rw [ex1]
          refine aw_iast dX12_readStep_49 (by assumption) (by omega) (by first | decide | omega) ?_
          refine aw_aload_n dX12_readStep_50 rfl ?_
          refine aw_getr' (j := 12) dX12_readStep_51 fX12_28 rfl (by assumption) rfl (by assumption) ?_
          refine aw_iload_n dX12_readStep_54 rfl ?_
          refine aw_iconst dX12_readStep_55 ?_
          refine aw_iadd dX12_readStep_56 ?_
          refine aw_iload_n dX12_readStep_57 rfl ?_
          refine aw_bipush dX12_readStep_58 rfl ?_
          refine aw_irem dX12_readStep_60 (by omega) (by omega) ?_
          rw [ex2]
          refine aw_iast dX12_readStep_61 (by assumption) (by omega) (by first | decide | omega) ?_
          refine aw_aload_n dX12_readStep_62 rfl ?_
          refine aw_getr' (j := 12) dX12_readStep_63 fX12_28 rfl (by assumption) rfl (by assumption) ?_
          refine aw_iload_n dX12_readStep_66 rfl ?_
          refine aw_iconst dX12_readStep_67 ?_
          refine aw_iadd dX12_readStep_68 ?_
          refine aw_iconst dX12_readStep_69 ?_
          refine aw_iast dX12_readStep_70 (by assumption) (by omega) (by first | decide | omega) ?_
          refine aw_sub [2, 3, 1] rfl ?_
          refine l_rst hX hb hl hT ⟨bX.1, bX.2, by dsimp only; omega, by dsimp only; omega⟩ 3 [] (rtK f n k + 1) _ (by simp) ⟨(E1.mono SR_z).tr (((eqG.si (Or.inr ⟨rfl, by omega, by omega⟩)).tr (eqG.si (Or.inr ⟨rfl, by omega, by omega⟩))).tr (eqG.si (Or.inr ⟨rfl, by omega, by omega⟩))), (gi_ne (Or.inl (by omega))).trans ((gi_ne (Or.inl (by omega))).trans ((gi_ne (Or.inl (by omega))).trans A1)), (gi_ne (Or.inr (by omega))).trans ((gi_ne (Or.inr (by omega))).trans (gi_at rfl rfl)), (gi_ne (Or.inr (by omega))).trans (gi_at rfl rfl), (gi_at rfl rfl).trans (by simp), fun i p hi => by simp at hi, fun p hp => absurd hp (by simp), by simp, le2.2, r2⟩
        · exact absurd c35 (by omega)
      · exact absurd c10 (by omega)
def SlR (h : AH) (a : Nat) (f : Nat → Nat) (n k : Nat) (Q : TQ) (T : TT) (b : Int) (h' : AH) : Prop := eqG (SR a (b + 1) (b + 1634)) h h' ∧ ∃ (k' st : Nat) (T2 : List TS), Rc f n k (1, 0, Q, T, s0, k0) k' (st, 0, Q, (T.1, T2), s0, k0) ∧ gi h' a 11 = (k' : Int) ∧ (st = 2 ∨ (st ≤ 1 ∧ hr9 f n k' ≠ 47)) ∧ PT h' a b (T.1, T2)
theorem acc_147 {Q : TQ} {T : TT} : acc 47 (1, 0, Q, T, s0, k0) = if T.2.length = 8 then none else some (2, 0, Q, (T.1, T.2 ++ [((3, 8), [])]), s0, k0) := rfl
theorem m_readSlash {γ : GG} {h : AH} {a k n : Nat} {f : Nat → Nat} {Q : TQ} {T : TT} {b : Int} (hX : isX h a f n) (hk : gi h a 11 = k) (hkn : k ≤ n) (hb : 1 ≤ b ∧ b + 1634 ≤ 6537) (hT : PT h a b T) : Call γ mX12_readSlash 1 0 0 [vr (some a), vi b] h (rB (nrd h a f n k (1, 0, Q, T, s0, k0) (b + 1) (b + 1634)) (SlR h a f n k Q T b)) := by
  obtain ⟨hka, rq, kq⟩ := hX.q
  have hf := hX.2.2.2.2
  have hn4 := hX.2.2.1
  have h9 := hT.1.2.1
  have hl8 := hT.2.1
  have KH := m_hereX (γ := γ) hX hk hkn
  have bd := hr9_bd hf n k
  by_cases q47 : hr9 f n k = 47
  · obtain ⟨l47, c47⟩ := hr9_lt (c := 47) q47
    by_cases q8 : T.2.length = 8
    · skip
      refine Call.of (ls := [(0, vr (some a)), (1, vi b)]) vX12_readSlash.1 (Nat.le_of_ble_eq_true rfl) rfl ?_
      refine aw_aload_n dX12_readSlash_0 rfl ?_
      refine aw_invV_r dX12_readSlash_1 vX12_here kX12_137 rfl (KH) ⟨_, (by assumption), _, _, rfl⟩ rfl rfl (by decide) (by decide) (by decide) (Nat.le_of_ble_eq_true rfl) ?_
      refine aw_bipush dX12_readSlash_4 rfl ?_
      refine aw_ic_eq (tgt := 11) dX12_readSlash_6 rfl (by omega) (by omega) (fun c6 => ?_) (fun c6 => ?_)
      · refine aw_aload_n dX12_readSlash_11 rfl ?_
        refine aw_getr' (j := 12) dX12_readSlash_12 fX12_28 rfl (by assumption) rfl (by assumption) ?_
        refine aw_iload_n dX12_readSlash_15 rfl ?_
        refine aw_iconst dX12_readSlash_16 ?_
        refine aw_iadd dX12_readSlash_17 ?_
        refine aw_iald' dX12_readSlash_18 (by assumption) (by omega) (by first | decide | omega) h9 ?_
        refine aw_bipush dX12_readSlash_19 rfl ?_
        refine aw_ic_ne (tgt := 26) dX12_readSlash_21 rfl (by omega) (by omega) (fun c21 => ?_) (fun c21 => ?_)
        · exact absurd c21 (by omega)
        · refine aw_iconst dX12_readSlash_24 ?_
          exact aw_zreturn dX12_readSlash_25 rfl (by omega) (Or.inl rfl) (Or.inl ⟨rfl, eqG.rf, k, _, Rc.rf hkn, Or.inl ⟨l47, by rw [c47, acc_147, if_pos q8]⟩, hk⟩)
      · exact absurd c6 (by omega)
    · have KC := m_stepAt (γ := γ) (h := h) (p := b) (k := (T.2.length : Int))
      have r1 := Rc.one (f := f) l47 (show acc (f k) (1, 0, Q, T, s0, k0) = some (2, 0, Q, (T.1, T.2 ++ [((3, 8), [])]), s0, k0) by rw [c47, acc_147, if_neg q8])
      have E0 : eqG (SR a (b + 2 + 204 * (T.2.length : Int)) ((b + 2 + 204 * (T.2.length : Int)) + 204)) h (si (si (si h (a + 7) (b + 2 + 204 * (T.2.length : Int)) 3) (a + 7) ((b + 2 + 204 * (T.2.length : Int)) + 1) 8) (a + 7) ((b + 2 + 204 * (T.2.length : Int)) + 2) 0) := ((eqG.si (Or.inr ⟨rfl, by omega, by omega⟩)).tr (eqG.si (Or.inr ⟨rfl, by omega, by omega⟩))).tr (eqG.si (Or.inr ⟨rfl, by omega, by omega⟩))
      have hP := PT_add (s := ((3, 8), [])) hT (by omega) E0 ⟨by unfold okT; decide, by decide, fun p hp => absurd hp (by simp)⟩ ⟨(gi_ne (Or.inr (by omega))).trans ((gi_ne (Or.inr (by omega))).trans (gi_at rfl rfl)), (gi_ne (Or.inr (by omega))).trans (gi_at rfl rfl), (gi_at rfl rfl).trans (by simp), fun i p hi => by simp at hi⟩
      refine Call.of (ls := [(0, vr (some a)), (1, vi b)]) vX12_readSlash.1 (Nat.le_of_ble_eq_true rfl) rfl ?_
      refine aw_aload_n dX12_readSlash_0 rfl ?_
      refine aw_invV_r dX12_readSlash_1 vX12_here kX12_137 rfl (KH) ⟨_, (by assumption), _, _, rfl⟩ rfl rfl (by decide) (by decide) (by decide) (Nat.le_of_ble_eq_true rfl) ?_
      refine aw_bipush dX12_readSlash_4 rfl ?_
      refine aw_ic_eq (tgt := 11) dX12_readSlash_6 rfl (by omega) (by omega) (fun c6 => ?_) (fun c6 => ?_)
      · refine aw_aload_n dX12_readSlash_11 rfl ?_
        refine aw_getr' (j := 12) dX12_readSlash_12 fX12_28 rfl (by assumption) rfl (by assumption) ?_
        refine aw_iload_n dX12_readSlash_15 rfl ?_
        refine aw_iconst dX12_readSlash_16 ?_
        refine aw_iadd dX12_readSlash_17 ?_
        refine aw_iald' dX12_readSlash_18 (by assumption) (by omega) (by first | decide | omega) h9 ?_
        refine aw_bipush dX12_readSlash_19 rfl ?_
        refine aw_ic_ne (tgt := 26) dX12_readSlash_21 rfl (by omega) (by omega) (fun c21 => ?_) (fun c21 => ?_)
        · refine aw_iload_n dX12_readSlash_26 rfl ?_
          refine aw_aload_n dX12_readSlash_27 rfl ?_
          refine aw_getr' (j := 12) dX12_readSlash_28 fX12_28 rfl (by assumption) rfl (by assumption) ?_
          refine aw_iload_n dX12_readSlash_31 rfl ?_
          refine aw_iconst dX12_readSlash_32 ?_
          refine aw_iadd dX12_readSlash_33 ?_
          refine aw_iald' dX12_readSlash_34 (by assumption) (by omega) (by first | decide | omega) h9 ?_
          refine aw_invS_r dX12_readSlash_35 sX12_stepAt kX12_165 rfl (KC) rfl rfl (by decide) (by decide) (by decide) (Nat.le_of_ble_eq_true rfl) ?_
          refine aw_istore_n (ls1 := [(2, _), (0, _), (1, _)]) dX12_readSlash_38 (by decide) rfl ?_
          refine aw_aload_n dX12_readSlash_39 rfl ?_
          refine aw_getr' (j := 12) dX12_readSlash_40 fX12_28 rfl (by assumption) rfl (by assumption) ?_
          refine aw_iload_n dX12_readSlash_43 rfl ?_
          refine aw_iconst dX12_readSlash_44 ?_
          refine aw_iast dX12_readSlash_45 (by assumption) (by omega) (by first | decide | omega) ?_
          refine aw_aload_n dX12_readSlash_46 rfl ?_
          refine aw_getr' (j := 12) dX12_readSlash_47 fX12_28 rfl (by assumption) rfl (by assumption) ?_
          refine aw_iload_n dX12_readSlash_50 rfl ?_
          refine aw_iconst dX12_readSlash_51 ?_
          refine aw_iadd dX12_readSlash_52 ?_
          refine aw_bipush dX12_readSlash_53 rfl ?_
          refine aw_iast dX12_readSlash_55 (by assumption) (by omega) (by first | decide | omega) ?_
          refine aw_aload_n dX12_readSlash_56 rfl ?_
          refine aw_getr' (j := 12) dX12_readSlash_57 fX12_28 rfl (by assumption) rfl (by assumption) ?_
          refine aw_iload_n dX12_readSlash_60 rfl ?_
          refine aw_iconst dX12_readSlash_61 ?_
          refine aw_iadd dX12_readSlash_62 ?_
          refine aw_iconst dX12_readSlash_63 ?_
          refine aw_iast dX12_readSlash_64 (by assumption) (by omega) (by first | decide | omega) ?_
          refine aw_aload_n dX12_readSlash_65 rfl ?_
          refine aw_getr' (j := 12) dX12_readSlash_66 fX12_28 rfl (by assumption) rfl (by assumption) ?_
          refine aw_iload_n dX12_readSlash_69 rfl ?_
          refine aw_iconst dX12_readSlash_70 ?_
          refine aw_iadd dX12_readSlash_71 ?_
          refine aw_dup2 dX12_readSlash_72 rfl rfl ?_
          refine aw_iald' dX12_readSlash_73 (by assumption) (by omega) (by first | decide | omega) ((gi_ne (Or.inr (by omega))).trans ((gi_ne (Or.inr (by omega))).trans ((gi_ne (Or.inr (by omega))).trans h9))) ?_
          refine aw_iconst dX12_readSlash_74 ?_
          refine aw_iadd dX12_readSlash_75 ?_
          refine aw_iast dX12_readSlash_76 (by assumption) (by omega) (by first | decide | omega) ?_
          refine aw_aload_n dX12_readSlash_77 rfl ?_
          refine aw_dup dX12_readSlash_78 rfl ?_
          refine aw_geti' (j := 11) dX12_readSlash_79 fX12_131 rfl (by assumption) rfl (show gi _ _ _ = ((k : Int)) from by (repeat (first | rw [gi_ne (Or.inl (by omega))] | rw [gi_ne (Or.inr (by omega))])) <;> (first | assumption | exact gi_at rfl rfl | exact (gi_at rfl (by omega)).trans (by omega))) ?_
          refine aw_iconst dX12_readSlash_82 ?_
          refine aw_iadd dX12_readSlash_83 ?_
          refine aw_puti' (j := 11) rfl dX12_readSlash_84 fX12_131 (by assumption) rfl ?_
          refine aw_iconst dX12_readSlash_87 ?_
          exact aw_zreturn dX12_readSlash_88 rfl (by omega) (Or.inl rfl) (Or.inr ⟨rfl, ((E0.mono (SR.mono (by omega) (by omega))).tr (eqG.si (Or.inr ⟨rfl, by omega, by omega⟩))).tr (eqG.si SR_at), k + 1, 2, _, r1, (gi_at rfl rfl).trans (by omega), Or.inl rfl, PT_a7 hP⟩)
        · exact absurd c21 (by omega)
      · exact absurd c6 (by omega)
  · skip
    refine Call.of (ls := [(0, vr (some a)), (1, vi b)]) vX12_readSlash.1 (Nat.le_of_ble_eq_true rfl) rfl ?_
    refine aw_aload_n dX12_readSlash_0 rfl ?_
    refine aw_invV_r dX12_readSlash_1 vX12_here kX12_137 rfl (KH) ⟨_, (by assumption), _, _, rfl⟩ rfl rfl (by decide) (by decide) (by decide) (Nat.le_of_ble_eq_true rfl) ?_
    refine aw_bipush dX12_readSlash_4 rfl ?_
    refine aw_ic_eq (tgt := 11) dX12_readSlash_6 rfl (by omega) (by omega) (fun c6 => ?_) (fun c6 => ?_)
    · exact absurd c6 (by omega)
    · refine aw_iconst dX12_readSlash_9 ?_
      exact aw_zreturn dX12_readSlash_10 rfl (by omega) (Or.inl rfl) (Or.inr ⟨rfl, eqG.rf, k, 1, T.2, Rc.rf hkn, hk, Or.inr ⟨by omega, q47⟩, hT⟩)
