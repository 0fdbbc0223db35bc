/-! ===== the model: readAtom ===== -/
def atC (h' : AH) (a : Nat) (b : Int) (c : TC) : Prop := gi h' (a + 7) (b + 1) = c.2.1 ∧ gi h' (a + 7) (b + 2) = c.2.2.1 ∧ shC h' a b c.2.2.2
def AtR (h : AH) (a : Nat) (f : Nat → Nat) (n k : Nat) (z : PS) (Q : TQ) (T : Bool × List TS) (s : TS) (pr : TP) (al : TA) (ng : Bool) (b : Int) (h' : AH) : Prop := eqG (SR a (b + 1) (b + 7)) h h' ∧ ∃ (k' st : Nat) (c : TC), Rc f n k z k' (st, 0, Q, T, s, pr, al, c) ∧ gi h' a 11 = (k' : Int) ∧ (st = 11 ∨ (st = 10 ∧ hr9 f n k' ≠ 47)) ∧ okC c ∧ (st = 10 → c.2.1 = 3) ∧ c.1 = ng ∧ atC h' a b c
theorem atm_dig {ch : Nat} {ng : Bool} {Q : TQ} {T : Bool × List TS} {s : TS} {pr : TP} {al : TA} (h : 49 ≤ ch ∧ ch ≤ 57) : a_atm ch ng Q T s pr al = some (11, 0, Q, T, s, pr, al, ng, 0, (ch : Int) - 48, []) := by
  unfold a_atm a_dig
  rw [if_neg (by omega), if_neg (by omega), if_neg (by omega), if_neg (by omega)]
theorem atm_no {ch : Nat} {ng : Bool} {Q : TQ} {T : Bool × List TS} {s : TS} {pr : TP} {al : TA} (h : ¬ (49 ≤ ch ∧ ch ≤ 57)) (h1 : ch ≠ 36) (h2 : ch ≠ 61) (h3 : ch ≠ 63) : a_atm ch ng Q T s pr al = none := by
  unfold a_atm a_dig
  rw [if_neg (by omega), if_neg (by omega), if_neg (by omega), if_pos (by omega)]
theorem m_readAtom {γ : GG} {h : AH} {a k n : Nat} {f : Nat → Nat} {z : PS} {Q : TQ} {T : Bool × List TS} {s : TS} {pr : TP} {al : TA} {ng : Bool} {b : Int} (hX : isX h a f n) (hk : gi h a 11 = k) (hkn : k ≤ n) (hb : 1 ≤ b ∧ b + 7 ≤ 6537) (hz : k < n → acc (f k) z = a_atm (f k) ng Q T s pr al) (hz4 : z.1 ≠ 4) : Call γ mX12_readAtom 4 0 0 [vr (some a), vi b] h (rB (nrd h a f n k z (b + 1) (b + 7)) (AtR h a f n k z Q T s pr al ng b)) := by
  obtain ⟨hka, rq, kq⟩ := hX.q
  have hf := hX.2.2.2.2
  have hn4 := hX.2.2.1
  have K := m_hereX (γ := γ) hX hk hkn
  have bc := hr9_bd hf n k
  have KI := m_in (γ := γ) (h := si (si h (a + 7) (b + 2) 0) (a + 7) (b + 3) 0) (v := hr9 f n k) (l := 49) (m := 57) (by omega) (by omega) (by omega)
  by_cases q1 : 49 ≤ hr9 f n k ∧ hr9 f n k ≤ 57
  · rw [if_pos q1] at KI
    obtain ⟨l2, c2⟩ := hr9_lt (c := (hr9 f n k).toNat) (f := f) (n := n) (k := k) (by omega)
    have r1 := Rc.one (f := f) (z := z) l2 ((hz l2).trans (atm_dig (by omega)))
    have e1 : (f k : Int) = hr9 f n k := by omega
    rw [e1] at r1
    refine Call.of (ls := [(0, vr (some a)), (1, vi b)]) vX12_readAtom.1 (Nat.le_of_ble_eq_true rfl) rfl ?_
    refine aw_aload_n dX12_readAtom_0 rfl ?_
    refine aw_invV_r dX12_readAtom_1 vX12_here kX12_137 rfl (K) ⟨_, (by assumption), _, _, rfl⟩ rfl rfl (by decide) (by decide) (by decide) (Nat.le_of_ble_eq_true rfl) ?_
    refine aw_istore_n (ls1 := [(2, _), (0, _), (1, _)]) dX12_readAtom_4 (by decide) rfl ?_
    refine aw_aload_n dX12_readAtom_5 rfl ?_
    refine aw_getr' (j := 12) dX12_readAtom_6 fX12_28 rfl (by assumption) rfl (by assumption) ?_
    refine aw_iload_n dX12_readAtom_9 rfl ?_
    refine aw_iconst dX12_readAtom_10 ?_
    refine aw_iadd dX12_readAtom_11 ?_
    refine aw_iconst dX12_readAtom_12 ?_
    refine aw_iast dX12_readAtom_13 (by assumption) (by omega) (by first | decide | omega) ?_
    refine aw_aload_n dX12_readAtom_14 rfl ?_
    refine aw_getr' (j := 12) dX12_readAtom_15 fX12_28 rfl (by assumption) rfl (by assumption) ?_
    refine aw_iload_n dX12_readAtom_18 rfl ?_
    refine aw_iconst dX12_readAtom_19 ?_
    refine aw_iadd dX12_readAtom_20 ?_
    refine aw_iconst dX12_readAtom_21 ?_
    refine aw_iast dX12_readAtom_22 (by assumption) (by omega) (by first | decide | omega) ?_
    refine aw_iload_n dX12_readAtom_23 rfl ?_
    refine aw_bipush dX12_readAtom_24 rfl ?_
    refine aw_bipush dX12_readAtom_26 rfl ?_
    refine aw_invS_r dX12_readAtom_28 sX12_in kX12_69 rfl (KI) rfl rfl (by decide) (by decide) (by decide) (Nat.le_of_ble_eq_true rfl) ?_
    refine aw_if_eq (tgt := 67) dX12_readAtom_31 rfl (by omega) (fun c31 => ?_) (fun c31 => ?_)
    · exact absurd c31 (by omega)
    · refine aw_aload_n dX12_readAtom_34 rfl ?_
      refine aw_getr' (j := 12) dX12_readAtom_35 fX12_28 rfl (by assumption) rfl (by assumption) ?_
      refine aw_iload_n dX12_readAtom_38 rfl ?_
      refine aw_iconst dX12_readAtom_39 ?_
      refine aw_iadd dX12_readAtom_40 ?_
      refine aw_iconst dX12_readAtom_41 ?_
      refine aw_iast dX12_readAtom_42 (by assumption) (by omega) (by first | decide | omega) ?_
      refine aw_aload_n dX12_readAtom_43 rfl ?_
      refine aw_getr' (j := 12) dX12_readAtom_44 fX12_28 rfl (by assumption) rfl (by assumption) ?_
      refine aw_iload_n dX12_readAtom_47 rfl ?_
      refine aw_iconst dX12_readAtom_48 ?_
      refine aw_iadd dX12_readAtom_49 ?_
      refine aw_iload_n dX12_readAtom_50 rfl ?_
      refine aw_bipush dX12_readAtom_51 rfl ?_
      refine aw_isub dX12_readAtom_53 ?_
      refine aw_iast dX12_readAtom_54 (by assumption) (by omega) (by first | decide | omega) ?_
      refine aw_aload_n dX12_readAtom_55 rfl ?_
      refine aw_dup dX12_readAtom_56 rfl ?_
      refine aw_geti' (j := 11) dX12_readAtom_57 fX12_131 rfl (by assumption) rfl (show gi _ _ _ = ((k : Int)) from by (repeat (first | rw [gi_ne (Or.inl (by omega))] | rw [gi_ne (Or.inr (by omega))])) <;> (first | assumption | exact gi_at rfl rfl | exact (gi_at rfl (by omega)).trans (by omega))) ?_
      refine aw_iconst dX12_readAtom_60 ?_
      refine aw_iadd dX12_readAtom_61 ?_
      refine aw_puti' (j := 11) rfl dX12_readAtom_62 fX12_131 (by assumption) rfl ?_
      refine aw_iconst dX12_readAtom_65 ?_
      exact aw_zreturn dX12_readAtom_66 rfl (by omega) (Or.inl rfl) (Or.inr ⟨rfl, (by repeat (first | refine eqG.tr ?_ (eqG.si (by unfold SR; omega)) | exact eqG.rf | assumption)), k + 1, 11, _, r1, (gi_at rfl rfl).trans (by omega), Or.inl rfl, okC_dig (Or.inl ⟨rfl, by omega⟩) (by omega), fun q9 => absurd q9 (by decide), rfl, ⟨by (repeat (first | rw [gi_ne (Or.inl (by omega))] | rw [gi_ne (Or.inr (by omega))])) <;> (first | exact gi_at rfl rfl | exact (gi_at rfl (by omega)).trans (by omega)), by (repeat (first | rw [gi_ne (Or.inl (by omega))] | rw [gi_ne (Or.inr (by omega))])) <;> (first | exact gi_at rfl rfl | exact (gi_at rfl (by omega)).trans (by omega)), by (repeat (first | rw [gi_ne (Or.inl (by omega))] | rw [gi_ne (Or.inr (by omega))])) <;> (first | exact gi_at rfl rfl | exact (gi_at rfl (by omega)).trans (by omega)), fun i x hx => by simp at hx⟩⟩)
  · rw [if_neg q1] at KI
    by_cases q2 : hr9 f n k = 36
    · obtain ⟨l2, c2⟩ := hr9_lt (c := 36) q2
      have r1 := Rc.one (f := f) (z := z) l2 ((hz l2).trans (show a_atm (f k) ng Q T s pr al = some (11, 0, Q, T, s, pr, al, ng, 1, 0, []) by unfold a_atm; rw [if_pos c2]))
      refine Call.of (ls := [(0, vr (some a)), (1, vi b)]) vX12_readAtom.1 (Nat.le_of_ble_eq_true rfl) rfl ?_
      refine aw_aload_n dX12_readAtom_0 rfl ?_
      refine aw_invV_r dX12_readAtom_1 vX12_here kX12_137 rfl (K) ⟨_, (by assumption), _, _, rfl⟩ rfl rfl (by decide) (by decide) (by decide) (Nat.le_of_ble_eq_true rfl) ?_
      refine aw_istore_n (ls1 := [(2, _), (0, _), (1, _)]) dX12_readAtom_4 (by decide) rfl ?_
      refine aw_aload_n dX12_readAtom_5 rfl ?_
      refine aw_getr' (j := 12) dX12_readAtom_6 fX12_28 rfl (by assumption) rfl (by assumption) ?_
      refine aw_iload_n dX12_readAtom_9 rfl ?_
      refine aw_iconst dX12_readAtom_10 ?_
      refine aw_iadd dX12_readAtom_11 ?_
      refine aw_iconst dX12_readAtom_12 ?_
      refine aw_iast dX12_readAtom_13 (by assumption) (by omega) (by first | decide | omega) ?_
      refine aw_aload_n dX12_readAtom_14 rfl ?_
      refine aw_getr' (j := 12) dX12_readAtom_15 fX12_28 rfl (by assumption) rfl (by assumption) ?_
      refine aw_iload_n dX12_readAtom_18 rfl ?_
      refine aw_iconst dX12_readAtom_19 ?_
      refine aw_iadd dX12_readAtom_20 ?_
      refine aw_iconst dX12_readAtom_21 ?_
      refine aw_iast dX12_readAtom_22 (by assumption) (by omega) (by first | decide | omega) ?_
      refine aw_iload_n dX12_readAtom_23 rfl ?_
      refine aw_bipush dX12_readAtom_24 rfl ?_
      refine aw_bipush dX12_readAtom_26 rfl ?_
      refine aw_invS_r dX12_readAtom_28 sX12_in kX12_69 rfl (KI) rfl rfl (by decide) (by decide) (by decide) (Nat.le_of_ble_eq_true rfl) ?_
      refine aw_if_eq (tgt := 67) dX12_readAtom_31 rfl (by omega) (fun c31 => ?_) (fun c31 => ?_)
      · refine aw_aload_n dX12_readAtom_67 rfl ?_
        refine aw_getr' (j := 12) dX12_readAtom_68 fX12_28 rfl (by assumption) rfl (by assumption) ?_
        refine aw_iload_n dX12_readAtom_71 rfl ?_
        refine aw_iconst dX12_readAtom_72 ?_
        refine aw_iadd dX12_readAtom_73 ?_
        refine aw_iload_n dX12_readAtom_74 rfl ?_
        refine aw_bipush dX12_readAtom_75 rfl ?_
        refine aw_ic_ne (tgt := 84) dX12_readAtom_77 rfl (by omega) (by omega) (fun c77 => ?_) (fun c77 => ?_)
        · exact absurd c77 (by omega)
        · refine aw_iconst dX12_readAtom_80 ?_
          refine aw_goto (tgt := 95) dX12_readAtom_81 rfl ?_
          refine aw_iast dX12_readAtom_95 (by assumption) (by omega) (by first | decide | omega) ?_
          refine aw_iload_n dX12_readAtom_96 rfl ?_
          refine aw_bipush dX12_readAtom_97 rfl ?_
          refine aw_ic_eq (tgt := 116) dX12_readAtom_99 rfl (by omega) (by omega) (fun c99 => ?_) (fun c99 => ?_)
          · refine aw_aload_n dX12_readAtom_116 rfl ?_
            refine aw_dup dX12_readAtom_117 rfl ?_
            refine aw_geti' (j := 11) dX12_readAtom_118 fX12_131 rfl (by assumption) rfl (show gi _ _ _ = ((k : Int)) from by (repeat (first | rw [gi_ne (Or.inl (by omega))] | rw [gi_ne (Or.inr (by omega))])) <;> (first | assumption | exact gi_at rfl rfl | exact (gi_at rfl (by omega)).trans (by omega))) ?_
            refine aw_iconst dX12_readAtom_121 ?_
            refine aw_iadd dX12_readAtom_122 ?_
            refine aw_puti' (j := 11) rfl dX12_readAtom_123 fX12_131 (by assumption) rfl ?_
            refine aw_iload_n dX12_readAtom_126 rfl ?_
            refine aw_bipush dX12_readAtom_127 rfl ?_
            refine aw_ic_ne (tgt := 187) dX12_readAtom_129 rfl (by omega) (by omega) (fun c129 => ?_) (fun c129 => ?_)
            · refine aw_iload_n dX12_readAtom_187 rfl ?_
              refine aw_bipush dX12_readAtom_188 rfl ?_
              refine aw_ic_eq (tgt := 201) dX12_readAtom_190 rfl (by omega) (by omega) (fun c190 => ?_) (fun c190 => ?_)
              · refine aw_iconst dX12_readAtom_201 ?_
                refine aw_goto (tgt := 206) dX12_readAtom_202 rfl ?_
                exact aw_zreturn dX12_readAtom_206 rfl (by omega) (Or.inl rfl) (Or.inr ⟨rfl, (by repeat (first | refine eqG.tr ?_ (eqG.si (by unfold SR; omega)) | exact eqG.rf | assumption)), k + 1, 11, _, r1, (gi_at rfl rfl).trans (by omega), Or.inl rfl, Or.inr (Or.inl ⟨rfl, rfl, rfl⟩), fun q9 => absurd q9 (by decide), rfl, ⟨by (repeat (first | rw [gi_ne (Or.inl (by omega))] | rw [gi_ne (Or.inr (by omega))])) <;> (first | exact gi_at rfl rfl | exact (gi_at rfl (by omega)).trans (by omega)), by (repeat (first | rw [gi_ne (Or.inl (by omega))] | rw [gi_ne (Or.inr (by omega))])) <;> (first | exact gi_at rfl rfl | exact (gi_at rfl (by omega)).trans (by omega)), by (repeat (first | rw [gi_ne (Or.inl (by omega))] | rw [gi_ne (Or.inr (by omega))])) <;> (first | exact gi_at rfl rfl | exact (gi_at rfl (by omega)).trans (by omega)), fun i x hx => by simp at hx⟩⟩)
              · exact absurd c190 (by omega)
            · exact absurd c129 (by omega)
          · exact absurd c99 (by omega)
      · exact absurd c31 (by omega)
    · by_cases q3 : hr9 f n k = 61
      · obtain ⟨l2, c2⟩ := hr9_lt (c := 61) q3
        have r1 := Rc.one (f := f) (z := z) l2 ((hz l2).trans (show a_atm (f k) ng Q T s pr al = some (7, 0, Q, T, s, pr, al, ng, 0, 0, []) by unfold a_atm; rw [if_neg (by omega), if_pos c2]))
        have hX2 : isX (si (si (si (si h (a + 7) (b + 2) 0) (a + 7) (b + 3) 0) (a + 7) (b + 1) 2) a 11 (k + 1)) a f n := hX.eq (lo := b + 1) (hi := b + 7) (by repeat (first | refine eqG.tr ?_ (eqG.si (by unfold SR; omega)) | exact eqG.rf | assumption))
        have K2 := m_hereX (γ := γ) (k := k + 1) hX2 ((gi_at rfl rfl).trans (by omega)) (by omega)
        have bd := hr9_bd hf n (k + 1)
        have KI2 := m_in (γ := γ) (h := si (si (si (si h (a + 7) (b + 2) 0) (a + 7) (b + 3) 0) (a + 7) (b + 1) 2) a 11 (k + 1)) (v := hr9 f n (k + 1)) (l := 48) (m := 57) (by omega) (by omega) (by omega)
        by_cases q4 : 48 ≤ hr9 f n (k + 1) ∧ hr9 f n (k + 1) ≤ 57
        · rw [if_pos q4] at KI2
          obtain ⟨l3, c3⟩ := hr9_lt (c := (hr9 f n (k + 1)).toNat) (f := f) (n := n) (k := k + 1) (by omega)
          have r2 := r1.tr (Rc.one l3 (show acc (f (k + 1)) (7, 0, Q, T, s, pr, al, ng, 0, 0, []) = some (11, 0, Q, T, s, pr, al, ng, 2, (f (k + 1) : Int) - 48, []) by simp only [acc, a_dig]; rw [if_neg (by omega)]))
          have e1 : (f (k + 1) : Int) = hr9 f n (k + 1) := by omega
          rw [e1] at r2
          refine Call.of (ls := [(0, vr (some a)), (1, vi b)]) vX12_readAtom.1 (Nat.le_of_ble_eq_true rfl) rfl ?_
          refine aw_aload_n dX12_readAtom_0 rfl ?_
          refine aw_invV_r dX12_readAtom_1 vX12_here kX12_137 rfl (K) ⟨_, (by assumption), _, _, rfl⟩ rfl rfl (by decide) (by decide) (by decide) (Nat.le_of_ble_eq_true rfl) ?_
          refine aw_istore_n (ls1 := [(2, _), (0, _), (1, _)]) dX12_readAtom_4 (by decide) rfl ?_
          refine aw_aload_n dX12_readAtom_5 rfl ?_
          refine aw_getr' (j := 12) dX12_readAtom_6 fX12_28 rfl (by assumption) rfl (by assumption) ?_
          refine aw_iload_n dX12_readAtom_9 rfl ?_
          refine aw_iconst dX12_readAtom_10 ?_
          refine aw_iadd dX12_readAtom_11 ?_
          refine aw_iconst dX12_readAtom_12 ?_
          refine aw_iast dX12_readAtom_13 (by assumption) (by omega) (by first | decide | omega) ?_
          refine aw_aload_n dX12_readAtom_14 rfl ?_
          refine aw_getr' (j := 12) dX12_readAtom_15 fX12_28 rfl (by assumption) rfl (by assumption) ?_
          refine aw_iload_n dX12_readAtom_18 rfl ?_
          refine aw_iconst dX12_readAtom_19 ?_
          refine aw_iadd dX12_readAtom_20 ?_
          refine aw_iconst dX12_readAtom_21 ?_
          refine aw_iast dX12_readAtom_22 (by assumption) (by omega) (by first | decide | omega) ?_
          refine aw_iload_n dX12_readAtom_23 rfl ?_
          refine aw_bipush dX12_readAtom_24 rfl ?_
          refine aw_bipush dX12_readAtom_26 rfl ?_
          refine aw_invS_r dX12_readAtom_28 sX12_in kX12_69 rfl (KI) rfl rfl (by decide) (by decide) (by decide) (Nat.le_of_ble_eq_true rfl) ?_
          refine aw_if_eq (tgt := 67) dX12_readAtom_31 rfl (by omega) (fun c31 => ?_) (fun c31 => ?_)
          · refine aw_aload_n dX12_readAtom_67 rfl ?_
            refine aw_getr' (j := 12) dX12_readAtom_68 fX12_28 rfl (by assumption) rfl (by assumption) ?_
            refine aw_iload_n dX12_readAtom_71 rfl ?_
            refine aw_iconst dX12_readAtom_72 ?_
            refine aw_iadd dX12_readAtom_73 ?_
            refine aw_iload_n dX12_readAtom_74 rfl ?_
            refine aw_bipush dX12_readAtom_75 rfl ?_
            refine aw_ic_ne (tgt := 84) dX12_readAtom_77 rfl (by omega) (by omega) (fun c77 => ?_) (fun c77 => ?_)
            · refine aw_iload_n dX12_readAtom_84 rfl ?_
              refine aw_bipush dX12_readAtom_85 rfl ?_
              refine aw_ic_ne (tgt := 94) dX12_readAtom_87 rfl (by omega) (by omega) (fun c87 => ?_) (fun c87 => ?_)
              · exact absurd c87 (by omega)
              · refine aw_iconst dX12_readAtom_90 ?_
                refine aw_goto (tgt := 95) dX12_readAtom_91 rfl ?_
                refine aw_iast dX12_readAtom_95 (by assumption) (by omega) (by first | decide | omega) ?_
                refine aw_iload_n dX12_readAtom_96 rfl ?_
                refine aw_bipush dX12_readAtom_97 rfl ?_
                refine aw_ic_eq (tgt := 116) dX12_readAtom_99 rfl (by omega) (by omega) (fun c99 => ?_) (fun c99 => ?_)
                · exact absurd c99 (by omega)
                · refine aw_iload_n dX12_readAtom_102 rfl ?_
                  refine aw_bipush dX12_readAtom_103 rfl ?_
                  refine aw_ic_eq (tgt := 116) dX12_readAtom_105 rfl (by omega) (by omega) (fun c105 => ?_) (fun c105 => ?_)
                  · refine aw_aload_n dX12_readAtom_116 rfl ?_
                    refine aw_dup dX12_readAtom_117 rfl ?_
                    refine aw_geti' (j := 11) dX12_readAtom_118 fX12_131 rfl (by assumption) rfl (show gi _ _ _ = ((k : Int)) from by (repeat (first | rw [gi_ne (Or.inl (by omega))] | rw [gi_ne (Or.inr (by omega))])) <;> (first | assumption | exact gi_at rfl rfl | exact (gi_at rfl (by omega)).trans (by omega))) ?_
                    refine aw_iconst dX12_readAtom_121 ?_
                    refine aw_iadd dX12_readAtom_122 ?_
                    refine aw_puti' (j := 11) rfl dX12_readAtom_123 fX12_131 (by assumption) rfl ?_
                    refine aw_iload_n dX12_readAtom_126 rfl ?_
                    refine aw_bipush dX12_readAtom_127 rfl ?_
                    refine aw_ic_ne (tgt := 187) dX12_readAtom_129 rfl (by omega) (by omega) (fun c129 => ?_) (fun c129 => ?_)
                    · exact absurd c129 (by omega)
                    · refine aw_aload_n dX12_readAtom_132 rfl ?_
                      refine aw_invV_r dX12_readAtom_133 vX12_here kX12_137 rfl (K2) ⟨_, (by assumption), _, _, rfl⟩ rfl rfl (by decide) (by decide) (by decide) (Nat.le_of_ble_eq_true rfl) ?_
                      refine aw_bipush dX12_readAtom_136 rfl ?_
                      refine aw_bipush dX12_readAtom_138 rfl ?_
                      refine aw_invS_r dX12_readAtom_140 sX12_in kX12_69 rfl (KI2) rfl rfl (by decide) (by decide) (by decide) (Nat.le_of_ble_eq_true rfl) ?_
                      refine aw_istore_n (ls1 := [(3, _), (2, _), (0, _), (1, _)]) dX12_readAtom_143 (by decide) rfl ?_
                      refine aw_aload_n dX12_readAtom_144 rfl ?_
                      refine aw_getr' (j := 12) dX12_readAtom_145 fX12_28 rfl (by assumption) rfl (by assumption) ?_
                      refine aw_iload_n dX12_readAtom_148 rfl ?_
                      refine aw_iconst dX12_readAtom_149 ?_
                      refine aw_iadd dX12_readAtom_150 ?_
                      refine aw_iload_n dX12_readAtom_151 rfl ?_
                      refine aw_if_eq (tgt := 165) dX12_readAtom_152 rfl (by omega) (fun c152 => ?_) (fun c152 => ?_)
                      · exact absurd c152 (by omega)
                      · refine aw_aload_n dX12_readAtom_155 rfl ?_
                        refine aw_invV_r dX12_readAtom_156 vX12_here kX12_137 rfl (K2) ⟨_, (by assumption), _, _, rfl⟩ rfl rfl (by decide) (by decide) (by decide) (Nat.le_of_ble_eq_true rfl) ?_
                        refine aw_bipush dX12_readAtom_159 rfl ?_
                        refine aw_isub dX12_readAtom_161 ?_
                        refine aw_goto (tgt := 166) dX12_readAtom_162 rfl ?_
                        refine aw_iast dX12_readAtom_166 (by assumption) (by omega) (by first | decide | omega) ?_
                        refine aw_aload_n dX12_readAtom_167 rfl ?_
                        refine aw_dup dX12_readAtom_168 rfl ?_
                        refine aw_geti' (j := 11) dX12_readAtom_169 fX12_131 rfl (by assumption) rfl (show gi _ _ _ = ((k : Int) + 1) from by (repeat (first | rw [gi_ne (Or.inl (by omega))] | rw [gi_ne (Or.inr (by omega))])) <;> (first | assumption | exact gi_at rfl rfl | exact (gi_at rfl (by omega)).trans (by omega))) ?_
                        refine aw_iload_n dX12_readAtom_172 rfl ?_
                        refine aw_if_eq (tgt := 180) dX12_readAtom_173 rfl (by omega) (fun c173 => ?_) (fun c173 => ?_)
                        · exact absurd c173 (by omega)
                        · refine aw_iconst dX12_readAtom_176 ?_
                          refine aw_goto (tgt := 181) dX12_readAtom_177 rfl ?_
                          refine aw_iadd dX12_readAtom_181 ?_
                          refine aw_puti' (j := 11) rfl dX12_readAtom_182 fX12_131 (by assumption) rfl ?_
                          refine aw_iload_n dX12_readAtom_185 rfl ?_
                          exact aw_zreturn dX12_readAtom_186 rfl (by omega) (Or.inl rfl) (Or.inr ⟨rfl, (by repeat (first | refine eqG.tr ?_ (eqG.si (by unfold SR; omega)) | exact eqG.rf | assumption)), k + 2, 11, _, r2, (gi_at rfl rfl).trans (by omega), Or.inl rfl, okC_dig (Or.inr ⟨rfl, by omega⟩) (by omega), fun q9 => absurd q9 (by decide), rfl, ⟨by (repeat (first | rw [gi_ne (Or.inl (by omega))] | rw [gi_ne (Or.inr (by omega))])) <;> (first | exact gi_at rfl rfl | exact (gi_at rfl (by omega)).trans (by omega)), by (repeat (first | rw [gi_ne (Or.inl (by omega))] | rw [gi_ne (Or.inr (by omega))])) <;> (first | exact gi_at rfl rfl | exact (gi_at rfl (by omega)).trans (by omega)), by (repeat (first | rw [gi_ne (Or.inl (by omega))] | rw [gi_ne (Or.inr (by omega))])) <;> (first | exact gi_at rfl rfl | exact (gi_at rfl (by omega)).trans (by omega)), fun i x hx => by simp at hx⟩⟩)
                  · exact absurd c105 (by omega)
            · exact absurd c77 (by omega)
          · exact absurd c31 (by omega)
        · rw [if_neg q4] at KI2
          have st : stk f n (k + 1) (7, 0, Q, T, s, pr, al, ng, 0, 0, []) := by
            by_cases l3 : k + 1 < n
            · refine Or.inl ⟨l3, ?_⟩
              have e1 : hr9 f n (k + 1) = f (k + 1) := by unfold hr9; rw [if_pos l3]
              simp only [acc, a_dig]
              rw [if_pos (by omega)]
            · exact Or.inr ⟨by omega, by simp⟩
          refine Call.of (ls := [(0, vr (some a)), (1, vi b)]) vX12_readAtom.1 (Nat.le_of_ble_eq_true rfl) rfl ?_
          refine aw_aload_n dX12_readAtom_0 rfl ?_
          refine aw_invV_r dX12_readAtom_1 vX12_here kX12_137 rfl (K) ⟨_, (by assumption), _, _, rfl⟩ rfl rfl (by decide) (by decide) (by decide) (Nat.le_of_ble_eq_true rfl) ?_
          refine aw_istore_n (ls1 := [(2, _), (0, _), (1, _)]) dX12_readAtom_4 (by decide) rfl ?_
          refine aw_aload_n dX12_readAtom_5 rfl ?_
          refine aw_getr' (j := 12) dX12_readAtom_6 fX12_28 rfl (by assumption) rfl (by assumption) ?_
          refine aw_iload_n dX12_readAtom_9 rfl ?_
          refine aw_iconst dX12_readAtom_10 ?_
          refine aw_iadd dX12_readAtom_11 ?_
          refine aw_iconst dX12_readAtom_12 ?_
          refine aw_iast dX12_readAtom_13 (by assumption) (by omega) (by first | decide | omega) ?_
          refine aw_aload_n dX12_readAtom_14 rfl ?_
          refine aw_getr' (j := 12) dX12_readAtom_15 fX12_28 rfl (by assumption) rfl (by assumption) ?_
          refine aw_iload_n dX12_readAtom_18 rfl ?_
          refine aw_iconst dX12_readAtom_19 ?_
          refine aw_iadd dX12_readAtom_20 ?_
          refine aw_iconst dX12_readAtom_21 ?_
          refine aw_iast dX12_readAtom_22 (by assumption) (by omega) (by first | decide | omega) ?_
          refine aw_iload_n dX12_readAtom_23 rfl ?_
          refine aw_bipush dX12_readAtom_24 rfl ?_
          refine aw_bipush dX12_readAtom_26 rfl ?_
          refine aw_invS_r dX12_readAtom_28 sX12_in kX12_69 rfl (KI) rfl rfl (by decide) (by decide) (by decide) (Nat.le_of_ble_eq_true rfl) ?_
          refine aw_if_eq (tgt := 67) dX12_readAtom_31 rfl (by omega) (fun c31 => ?_) (fun c31 => ?_)
          · refine aw_aload_n dX12_readAtom_67 rfl ?_
            refine aw_getr' (j := 12) dX12_readAtom_68 fX12_28 rfl (by assumption) rfl (by assumption) ?_
            refine aw_iload_n dX12_readAtom_71 rfl ?_
            refine aw_iconst dX12_readAtom_72 ?_
            refine aw_iadd dX12_readAtom_73 ?_
            refine aw_iload_n dX12_readAtom_74 rfl ?_
            refine aw_bipush dX12_readAtom_75 rfl ?_
            refine aw_ic_ne (tgt := 84) dX12_readAtom_77 rfl (by omega) (by omega) (fun c77 => ?_) (fun c77 => ?_)
            · refine aw_iload_n dX12_readAtom_84 rfl ?_
              refine aw_bipush dX12_readAtom_85 rfl ?_
              refine aw_ic_ne (tgt := 94) dX12_readAtom_87 rfl (by omega) (by omega) (fun c87 => ?_) (fun c87 => ?_)
              · exact absurd c87 (by omega)
              · refine aw_iconst dX12_readAtom_90 ?_
                refine aw_goto (tgt := 95) dX12_readAtom_91 rfl ?_
                refine aw_iast dX12_readAtom_95 (by assumption) (by omega) (by first | decide | omega) ?_
                refine aw_iload_n dX12_readAtom_96 rfl ?_
                refine aw_bipush dX12_readAtom_97 rfl ?_
                refine aw_ic_eq (tgt := 116) dX12_readAtom_99 rfl (by omega) (by omega) (fun c99 => ?_) (fun c99 => ?_)
                · exact absurd c99 (by omega)
                · refine aw_iload_n dX12_readAtom_102 rfl ?_
                  refine aw_bipush dX12_readAtom_103 rfl ?_
                  refine aw_ic_eq (tgt := 116) dX12_readAtom_105 rfl (by omega) (by omega) (fun c105 => ?_) (fun c105 => ?_)
                  · refine aw_aload_n dX12_readAtom_116 rfl ?_
                    refine aw_dup dX12_readAtom_117 rfl ?_
                    refine aw_geti' (j := 11) dX12_readAtom_118 fX12_131 rfl (by assumption) rfl (show gi _ _ _ = ((k : Int)) from by (repeat (first | rw [gi_ne (Or.inl (by omega))] | rw [gi_ne (Or.inr (by omega))])) <;> (first | assumption | exact gi_at rfl rfl | exact (gi_at rfl (by omega)).trans (by omega))) ?_
                    refine aw_iconst dX12_readAtom_121 ?_
                    refine aw_iadd dX12_readAtom_122 ?_
                    refine aw_puti' (j := 11) rfl dX12_readAtom_123 fX12_131 (by assumption) rfl ?_
                    refine aw_iload_n dX12_readAtom_126 rfl ?_
                    refine aw_bipush dX12_readAtom_127 rfl ?_
                    refine aw_ic_ne (tgt := 187) dX12_readAtom_129 rfl (by omega) (by omega) (fun c129 => ?_) (fun c129 => ?_)
                    · exact absurd c129 (by omega)
                    · refine aw_aload_n dX12_readAtom_132 rfl ?_
                      refine aw_invV_r dX12_readAtom_133 vX12_here kX12_137 rfl (K2) ⟨_, (by assumption), _, _, rfl⟩ rfl rfl (by decide) (by decide) (by decide) (Nat.le_of_ble_eq_true rfl) ?_
                      refine aw_bipush dX12_readAtom_136 rfl ?_
                      refine aw_bipush dX12_readAtom_138 rfl ?_
                      refine aw_invS_r dX12_readAtom_140 sX12_in kX12_69 rfl (KI2) rfl rfl (by decide) (by decide) (by decide) (Nat.le_of_ble_eq_true rfl) ?_
                      refine aw_istore_n (ls1 := [(3, _), (2, _), (0, _), (1, _)]) dX12_readAtom_143 (by decide) rfl ?_
                      refine aw_aload_n dX12_readAtom_144 rfl ?_
                      refine aw_getr' (j := 12) dX12_readAtom_145 fX12_28 rfl (by assumption) rfl (by assumption) ?_
                      refine aw_iload_n dX12_readAtom_148 rfl ?_
                      refine aw_iconst dX12_readAtom_149 ?_
                      refine aw_iadd dX12_readAtom_150 ?_
                      refine aw_iload_n dX12_readAtom_151 rfl ?_
                      refine aw_if_eq (tgt := 165) dX12_readAtom_152 rfl (by omega) (fun c152 => ?_) (fun c152 => ?_)
                      · refine aw_iconst dX12_readAtom_165 ?_
                        refine aw_iast dX12_readAtom_166 (by assumption) (by omega) (by first | decide | omega) ?_
                        refine aw_aload_n dX12_readAtom_167 rfl ?_
                        refine aw_dup dX12_readAtom_168 rfl ?_
                        refine aw_geti' (j := 11) dX12_readAtom_169 fX12_131 rfl (by assumption) rfl (show gi _ _ _ = ((k : Int) + 1) from by (repeat (first | rw [gi_ne (Or.inl (by omega))] | rw [gi_ne (Or.inr (by omega))])) <;> (first | assumption | exact gi_at rfl rfl | exact (gi_at rfl (by omega)).trans (by omega))) ?_
                        refine aw_iload_n dX12_readAtom_172 rfl ?_
                        refine aw_if_eq (tgt := 180) dX12_readAtom_173 rfl (by omega) (fun c173 => ?_) (fun c173 => ?_)
                        · refine aw_iconst dX12_readAtom_180 ?_
                          refine aw_iadd dX12_readAtom_181 ?_
                          refine aw_puti' (j := 11) rfl dX12_readAtom_182 fX12_131 (by assumption) rfl ?_
                          refine aw_iload_n dX12_readAtom_185 rfl ?_
                          exact aw_zreturn dX12_readAtom_186 rfl (by omega) (Or.inl rfl) (Or.inl ⟨rfl, (by repeat (first | refine eqG.tr ?_ (eqG.si (by unfold SR; omega)) | exact eqG.rf | assumption)), k + 1, _, r1, st, (gi_at rfl rfl).trans (by omega)⟩)
                        · exact absurd c173 (by omega)
                      · exact absurd c152 (by omega)
                  · exact absurd c105 (by omega)
            · exact absurd c77 (by omega)
          · exact absurd c31 (by omega)
      · by_cases q4 : hr9 f n k = 63
        · obtain ⟨l2, c2⟩ := hr9_lt (c := 63) q4
          have r1 := Rc.one (f := f) (z := z) l2 ((hz l2).trans (show a_atm (f k) ng Q T s pr al = some (8, 0, Q, T, s, pr, al, ng, 3, 0, []) by unfold a_atm; rw [if_neg (by omega), if_neg (by omega), if_pos c2]))
          have E2 : eqG (SR a (b + 1) (b + 7)) h (si (si (si (si h (a + 7) (b + 2) 0) (a + 7) (b + 3) 0) (a + 7) (b + 1) 3) a 11 (k + 1)) := (by repeat (first | refine eqG.tr ?_ (eqG.si (by unfold SR; omega)) | exact eqG.rf | assumption))
          have KS := m_readShort (γ := γ) (k := k + 1) (Q := Q) (T := T) (s := s) (pr := pr) (al := al) (ng := ng) (b := b) (hX.eq E2) ((gi_at rfl rfl).trans (by omega)) (by omega) hb (by (repeat (first | rw [gi_ne (Or.inl (by omega))] | rw [gi_ne (Or.inr (by omega))])) <;> (first | exact gi_at rfl rfl | exact (gi_at rfl (by omega)).trans (by omega)))
          refine Call.of (ls := [(0, vr (some a)), (1, vi b)]) vX12_readAtom.1 (Nat.le_of_ble_eq_true rfl) rfl ?_
          refine aw_aload_n dX12_readAtom_0 rfl ?_
          refine aw_invV_r dX12_readAtom_1 vX12_here kX12_137 rfl (K) ⟨_, (by assumption), _, _, rfl⟩ rfl rfl (by decide) (by decide) (by decide) (Nat.le_of_ble_eq_true rfl) ?_
          refine aw_istore_n (ls1 := [(2, _), (0, _), (1, _)]) dX12_readAtom_4 (by decide) rfl ?_
          refine aw_aload_n dX12_readAtom_5 rfl ?_
          refine aw_getr' (j := 12) dX12_readAtom_6 fX12_28 rfl (by assumption) rfl (by assumption) ?_
          refine aw_iload_n dX12_readAtom_9 rfl ?_
          refine aw_iconst dX12_readAtom_10 ?_
          refine aw_iadd dX12_readAtom_11 ?_
          refine aw_iconst dX12_readAtom_12 ?_
          refine aw_iast dX12_readAtom_13 (by assumption) (by omega) (by first | decide | omega) ?_
          refine aw_aload_n dX12_readAtom_14 rfl ?_
          refine aw_getr' (j := 12) dX12_readAtom_15 fX12_28 rfl (by assumption) rfl (by assumption) ?_
          refine aw_iload_n dX12_readAtom_18 rfl ?_
          refine aw_iconst dX12_readAtom_19 ?_
          refine aw_iadd dX12_readAtom_20 ?_
          refine aw_iconst dX12_readAtom_21 ?_
          refine aw_iast dX12_readAtom_22 (by assumption) (by omega) (by first | decide | omega) ?_
          refine aw_iload_n dX12_readAtom_23 rfl ?_
          refine aw_bipush dX12_readAtom_24 rfl ?_
          refine aw_bipush dX12_readAtom_26 rfl ?_
          refine aw_invS_r dX12_readAtom_28 sX12_in kX12_69 rfl (KI) rfl rfl (by decide) (by decide) (by decide) (Nat.le_of_ble_eq_true rfl) ?_
          refine aw_if_eq (tgt := 67) dX12_readAtom_31 rfl (by omega) (fun c31 => ?_) (fun c31 => ?_)
          · refine aw_aload_n dX12_readAtom_67 rfl ?_
            refine aw_getr' (j := 12) dX12_readAtom_68 fX12_28 rfl (by assumption) rfl (by assumption) ?_
            refine aw_iload_n dX12_readAtom_71 rfl ?_
            refine aw_iconst dX12_readAtom_72 ?_
            refine aw_iadd dX12_readAtom_73 ?_
            refine aw_iload_n dX12_readAtom_74 rfl ?_
            refine aw_bipush dX12_readAtom_75 rfl ?_
            refine aw_ic_ne (tgt := 84) dX12_readAtom_77 rfl (by omega) (by omega) (fun c77 => ?_) (fun c77 => ?_)
            · refine aw_iload_n dX12_readAtom_84 rfl ?_
              refine aw_bipush dX12_readAtom_85 rfl ?_
              refine aw_ic_ne (tgt := 94) dX12_readAtom_87 rfl (by omega) (by omega) (fun c87 => ?_) (fun c87 => ?_)
              · refine aw_iconst dX12_readAtom_94 ?_
                refine aw_iast dX12_readAtom_95 (by assumption) (by omega) (by first | decide | omega) ?_
                refine aw_iload_n dX12_readAtom_96 rfl ?_
                refine aw_bipush dX12_readAtom_97 rfl ?_
                refine aw_ic_eq (tgt := 116) dX12_readAtom_99 rfl (by omega) (by omega) (fun c99 => ?_) (fun c99 => ?_)
                · exact absurd c99 (by omega)
                · refine aw_iload_n dX12_readAtom_102 rfl ?_
                  refine aw_bipush dX12_readAtom_103 rfl ?_
                  refine aw_ic_eq (tgt := 116) dX12_readAtom_105 rfl (by omega) (by omega) (fun c105 => ?_) (fun c105 => ?_)
                  · exact absurd c105 (by omega)
                  · refine aw_iload_n dX12_readAtom_108 rfl ?_
                    refine aw_bipush dX12_readAtom_109 rfl ?_
                    refine aw_ic_eq (tgt := 116) dX12_readAtom_111 rfl (by omega) (by omega) (fun c111 => ?_) (fun c111 => ?_)
                    · refine aw_aload_n dX12_readAtom_116 rfl ?_
                      refine aw_dup dX12_readAtom_117 rfl ?_
                      refine aw_geti' (j := 11) dX12_readAtom_118 fX12_131 rfl (by assumption) rfl (show gi _ _ _ = ((k : Int)) from by (repeat (first | rw [gi_ne (Or.inl (by omega))] | rw [gi_ne (Or.inr (by omega))])) <;> (first | assumption | exact gi_at rfl rfl | exact (gi_at rfl (by omega)).trans (by omega))) ?_
                      refine aw_iconst dX12_readAtom_121 ?_
                      refine aw_iadd dX12_readAtom_122 ?_
                      refine aw_puti' (j := 11) rfl dX12_readAtom_123 fX12_131 (by assumption) rfl ?_
                      refine aw_iload_n dX12_readAtom_126 rfl ?_
                      refine aw_bipush dX12_readAtom_127 rfl ?_
                      refine aw_ic_ne (tgt := 187) dX12_readAtom_129 rfl (by omega) (by omega) (fun c129 => ?_) (fun c129 => ?_)
                      · refine aw_iload_n dX12_readAtom_187 rfl ?_
                        refine aw_bipush dX12_readAtom_188 rfl ?_
                        refine aw_ic_eq (tgt := 201) dX12_readAtom_190 rfl (by omega) (by omega) (fun c190 => ?_) (fun c190 => ?_)
                        · exact absurd c190 (by omega)
                        · refine aw_aload_n dX12_readAtom_193 rfl ?_
                          refine aw_iload_n dX12_readAtom_194 rfl ?_
                          refine aw_invV_2 dX12_readAtom_195 vX12_readShort kX12_150 rfl (KS) ⟨_, (by assumption), _, _, rfl⟩ rfl rfl (by decide) (by decide) (by decide) (Nat.le_of_ble_eq_true rfl) (fun h1 hP9 => ?_) (fun h1 hP9 => ?_)
                          · obtain ⟨E1, k1, z1, r2, s2, A1⟩ := hP9
                            refine aw_if_eq (tgt := 205) dX12_readAtom_198 rfl (by omega) (fun c198 => ?_) (fun c198 => ?_)
                            · refine aw_iconst dX12_readAtom_205 ?_
                              exact aw_zreturn dX12_readAtom_206 rfl (by omega) (Or.inl rfl) (Or.inl ⟨rfl, E2.tr (E1.mono (SR.mono (by omega) (by omega))), k1, z1, r1.tr r2, s2, A1⟩)
                            · exact absurd c198 (by omega)
                          · obtain ⟨E1, k1, sh, r2, A1, l1, l3, x1, n47, sc⟩ := hP9
                            refine aw_if_eq (tgt := 205) dX12_readAtom_198 rfl (by omega) (fun c198 => ?_) (fun c198 => ?_)
                            · exact absurd c198 (by omega)
                            · refine aw_iconst dX12_readAtom_201 ?_
                              refine aw_goto (tgt := 206) dX12_readAtom_202 rfl ?_
                              exact aw_zreturn dX12_readAtom_206 rfl (by omega) (Or.inl rfl) (Or.inr ⟨rfl, E2.tr (E1.mono (SR.mono (by omega) (by omega))), k1, 10, _, r1.tr r2, A1, Or.inr ⟨rfl, n47⟩, Or.inr (Or.inr (Or.inr ⟨rfl, rfl, l1, l3, x1⟩)), fun _ => rfl, rfl, (E1.2.2.2.2 _ _ (by unfold SR; omega)).trans (by (repeat (first | rw [gi_ne (Or.inl (by omega))] | rw [gi_ne (Or.inr (by omega))])) <;> (first | exact gi_at rfl rfl | exact (gi_at rfl (by omega)).trans (by omega))), (E1.2.2.2.2 _ _ (by unfold SR; omega)).trans (by (repeat (first | rw [gi_ne (Or.inl (by omega))] | rw [gi_ne (Or.inr (by omega))])) <;> (first | exact gi_at rfl rfl | exact (gi_at rfl (by omega)).trans (by omega))), sc⟩)
                      · exact absurd c129 (by omega)
                    · exact absurd c111 (by omega)
              · exact absurd c87 (by omega)
            · exact absurd c77 (by omega)
          · exact absurd c31 (by omega)
        · have st : stk f n k z := by
            by_cases l3 : k < n
            · refine Or.inl ⟨l3, ?_⟩
              have e1 : hr9 f n k = f k := by unfold hr9; rw [if_pos l3]
              rw [hz l3]
              exact atm_no (by omega) (by omega) (by omega) (by omega)
            · exact Or.inr ⟨by omega, hz4⟩
          refine Call.of (ls := [(0, vr (some a)), (1, vi b)]) vX12_readAtom.1 (Nat.le_of_ble_eq_true rfl) rfl ?_
          refine aw_aload_n dX12_readAtom_0 rfl ?_
          refine aw_invV_r dX12_readAtom_1 vX12_here kX12_137 rfl (K) ⟨_, (by assumption), _, _, rfl⟩ rfl rfl (by decide) (by decide) (by decide) (Nat.le_of_ble_eq_true rfl) ?_
          refine aw_istore_n (ls1 := [(2, _), (0, _), (1, _)]) dX12_readAtom_4 (by decide) rfl ?_
          refine aw_aload_n dX12_readAtom_5 rfl ?_
          refine aw_getr' (j := 12) dX12_readAtom_6 fX12_28 rfl (by assumption) rfl (by assumption) ?_
          refine aw_iload_n dX12_readAtom_9 rfl ?_
          refine aw_iconst dX12_readAtom_10 ?_
          refine aw_iadd dX12_readAtom_11 ?_
          refine aw_iconst dX12_readAtom_12 ?_
          refine aw_iast dX12_readAtom_13 (by assumption) (by omega) (by first | decide | omega) ?_
          refine aw_aload_n dX12_readAtom_14 rfl ?_
          refine aw_getr' (j := 12) dX12_readAtom_15 fX12_28 rfl (by assumption) rfl (by assumption) ?_
          refine aw_iload_n dX12_readAtom_18 rfl ?_
          refine aw_iconst dX12_readAtom_19 ?_
          refine aw_iadd dX12_readAtom_20 ?_
          refine aw_iconst dX12_readAtom_21 ?_
          refine aw_iast dX12_readAtom_22 (by assumption) (by omega) (by first | decide | omega) ?_
          refine aw_iload_n dX12_readAtom_23 rfl ?_
          refine aw_bipush dX12_readAtom_24 rfl ?_
          refine aw_bipush dX12_readAtom_26 rfl ?_
          refine aw_invS_r dX12_readAtom_28 sX12_in kX12_69 rfl (KI) rfl rfl (by decide) (by decide) (by decide) (Nat.le_of_ble_eq_true rfl) ?_
          refine aw_if_eq (tgt := 67) dX12_readAtom_31 rfl (by omega) (fun c31 => ?_) (fun c31 => ?_)
          · refine aw_aload_n dX12_readAtom_67 rfl ?_
            refine aw_getr' (j := 12) dX12_readAtom_68 fX12_28 rfl (by assumption) rfl (by assumption) ?_
            refine aw_iload_n dX12_readAtom_71 rfl ?_
            refine aw_iconst dX12_readAtom_72 ?_
            refine aw_iadd dX12_readAtom_73 ?_
            refine aw_iload_n dX12_readAtom_74 rfl ?_
            refine aw_bipush dX12_readAtom_75 rfl ?_
            refine aw_ic_ne (tgt := 84) dX12_readAtom_77 rfl (by omega) (by omega) (fun c77 => ?_) (fun c77 => ?_)
            · refine aw_iload_n dX12_readAtom_84 rfl ?_
              refine aw_bipush dX12_readAtom_85 rfl ?_
              refine aw_ic_ne (tgt := 94) dX12_readAtom_87 rfl (by omega) (by omega) (fun c87 => ?_) (fun c87 => ?_)
              · refine aw_iconst dX12_readAtom_94 ?_
                refine aw_iast dX12_readAtom_95 (by assumption) (by omega) (by first | decide | omega) ?_
                refine aw_iload_n dX12_readAtom_96 rfl ?_
                refine aw_bipush dX12_readAtom_97 rfl ?_
                refine aw_ic_eq (tgt := 116) dX12_readAtom_99 rfl (by omega) (by omega) (fun c99 => ?_) (fun c99 => ?_)
                · exact absurd c99 (by omega)
                · refine aw_iload_n dX12_readAtom_102 rfl ?_
                  refine aw_bipush dX12_readAtom_103 rfl ?_
                  refine aw_ic_eq (tgt := 116) dX12_readAtom_105 rfl (by omega) (by omega) (fun c105 => ?_) (fun c105 => ?_)
                  · exact absurd c105 (by omega)
                  · refine aw_iload_n dX12_readAtom_108 rfl ?_
                    refine aw_bipush dX12_readAtom_109 rfl ?_
                    refine aw_ic_eq (tgt := 116) dX12_readAtom_111 rfl (by omega) (by omega) (fun c111 => ?_) (fun c111 => ?_)
                    · exact absurd c111 (by omega)
                    · refine aw_iconst dX12_readAtom_114 ?_
                      exact aw_zreturn dX12_readAtom_115 rfl (by omega) (Or.inl rfl) (Or.inl ⟨rfl, (by repeat (first | refine eqG.tr ?_ (eqG.si (by unfold SR; omega)) | exact eqG.rf | assumption)), k, z, Rc.rf hkn, st, by (repeat rw [gi_ne (Or.inl (by omega))]); exact hk⟩)
              · exact absurd c87 (by omega)
            · exact absurd c77 (by omega)
          · exact absurd c31 (by omega)
