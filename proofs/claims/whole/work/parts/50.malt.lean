/-! ===== the model: readAlternative ===== -/
theorem acc_ce {ch st : Nat} {Q : TQ} {T : Bool × List TS} {s : TS} {pr : TP} {al : TA} {c : TC} (h : st = 11 ∨ (st = 10 ∧ ch ≠ 47)) : acc ch (st, 0, Q, T, s, pr, al, c) = a_cend ch Q T s pr al c := by
  rcases h with rfl | ⟨rfl, h⟩
  · rfl
  · simp only [acc]
    rw [if_neg h]
theorem hr9_at {f : Nat → Nat} {n k : Nat} (h : k < n) : hr9 f n k = f k := by unfold hr9; rw [if_pos h]
/-- the conditions of an alternative, so far -/
def AlI (h : AH) (a : Nat) (f : Nat → Nat) (n k : Nat) (Q : TQ) (T : Bool × List TS) (s : TS) (pr : TP) (b : Int) (al : TA) (k1 : Nat) (H : AH) : Prop := eqG (SR a b (b + 22)) h H ∧ gi H a 11 = (k1 : Int) ∧ gi H (a + 7) b = al.length ∧ (∀ (i : Nat) (c : TC), al[i]? = some c → gC (gi H (a + 7)) (b + 1 + 7 * i) c) ∧ (∀ c ∈ al, okC c) ∧ al.length ≤ 2 ∧ k1 ≤ n ∧ Rc f n k (5, 0, Q, T, s, pr, [], c0) k1 (5, 0, Q, T, s, pr, al, c0)
def AlR (h : AH) (a : Nat) (f : Nat → Nat) (n k : Nat) (Q : TQ) (T : Bool × List TS) (s : TS) (pr : TP) (b : Int) (h' : AH) : Prop := eqG (SR a b (b + 22)) h h' ∧ ∃ (k' st : Nat) (al : TA) (c : TC), Rc f n k (5, 0, Q, T, s, pr, [], c0) k' (st, 0, Q, T, s, pr, al, c) ∧ gi h' a 11 = (k' : Int) ∧ (st = 11 ∨ (st = 10 ∧ hr9 f n k' ≠ 47)) ∧ hr9 f n k' ≠ 44 ∧ okA (al ++ [c]) ∧ gA (gi h' (a + 7)) b (al ++ [c])
theorem hr_ne {f : Nat → Nat} {n k ch : Nat} (h : hr9 f n k ≠ ch) (hk : k < n) : f k ≠ ch := fun q => h (by rw [hr9_at hk, q])
theorem s_ral44 {γ : GG} {h : AH} {a k n : Nat} {f : Nat → Nat} {Q : TQ} {T : Bool × List TS} {s : TS} {pr : TP} {al : TA} {b : Int} {H : AH} {k1 : Nat} {z : PS} {ng : Bool} (hX : isX h a f n) (hb : 1 ≤ b ∧ b + 22 ≤ 6537) (E0 : eqG (SR a b (b + 22)) h H) (hk : gi H a 11 = k1) (hk1n : k1 ≤ n) (hlen : gi H (a + 7) b = al.length) (hal : ∀ (i : Nat) (c : TC), al[i]? = some c → gC (gi H (a + 7)) (b + 1 + 7 * i) c) (hok : ∀ c ∈ al, okC c) (hl2 : al.length ≤ 2) (hng : gi H (a + 7) (b + 1 + 7 * (al.length : Int)) = bI ng) (r0 : Rc f n k (5, 0, Q, T, s, pr, [], c0) k1 z) (hz : k1 < n → acc (f k1) z = a_atm (f k1) ng Q T s pr al) (hz4 : z.1 ≠ 4) (kk : ∀ (c : TC) (k' : Nat) (H' : AH), AlI h a f n k Q T s pr b (al ++ [c]) k' H' → AW γ mX12_readAlternative 5 0 0 9 [(2, vi 1), (0, vr (some a)), (1, vi b)] [] H' (rB (nrd h a f n k (5, 0, Q, T, s, pr, [], c0) b (b + 22)) (AlR h a f n k Q T s pr b))) : AW γ mX12_readAlternative 5 0 0 44 [(3, vi (b + 1 + 7 * (al.length : Int))), (2, vi 1), (0, vr (some a)), (1, vi b)] [] H (rB (nrd h a f n k (5, 0, Q, T, s, pr, [], c0) b (b + 22)) (AlR h a f n k Q T s pr b)) := by
  have hX1 := hX.eq E0
  have hf := hX.2.2.2.2
  have hn4 := hX.2.2.1
  obtain ⟨hka, rq, kq⟩ := hX1.q
  have KA := m_readAtom (γ := γ) (b := b + 1 + 7 * (al.length : Int)) hX1 hk hk1n (by omega) hz hz4
  refine aw_aload_n dX12_readAlternative_44 rfl ?_
  refine aw_iload_n dX12_readAlternative_45 rfl ?_
  refine aw_invV_2 dX12_readAlternative_46 vX12_readAtom kX12_156 rfl (KA) ⟨_, (by assumption), _, _, rfl⟩ rfl rfl (by decide) (by decide) (by decide) (Nat.le_of_ble_eq_true rfl) (fun h1 hP9 => ?_) (fun h1 hP9 => ?_)
  · obtain ⟨E1, k2, z2, r2, s2, A1⟩ := hP9
    refine aw_if_ne (tgt := 54) dX12_readAlternative_49 rfl (by omega) (fun c49 => ?_) (fun c49 => ?_)
    · exact absurd c49 (by omega)
    · refine aw_iconst dX12_readAlternative_52 ?_
      exact aw_zreturn dX12_readAlternative_53 rfl (by omega) (Or.inl rfl) (Or.inl ⟨rfl, E0.tr (E1.mono (SR.mono (by omega) (by omega))), k2, z2, r0.tr r2, s2, A1⟩)
  · obtain ⟨E1, k2, st, c, r2, A1, hst, oC, -, cng, aC⟩ := hP9
    have hka1 := (E1.1 a).trans hka
    have rq1 := (E1.2.1 a 12).trans rq
    have kq1 := (E1.1 (a + 7)).trans kq
    have b1 : gi h1 (a + 7) b = (al.length : Int) := (E1.2.2.2.2 _ _ (by unfold SR; omega)).trans hlen
    have mc : gC (gi h1 (a + 7)) (b + 1 + 7 * (al.length : Int)) c := ⟨((E1.2.2.2.2 _ _ (by unfold SR; omega)).trans hng).trans (by rw [cng]), aC.1, aC.2.1, aC.2.2.1, aC.2.2.2⟩
    have ml : ∀ (i : Nat) (c' : TC), (al ++ [c])[i]? = some c' → gC (gi (si h1 (a + 7) b ((al.length : Int) + 1)) (a + 7)) (b + 1 + 7 * i) c' := fun i c' hi => by
      rcases get_snoc hi with ⟨g1, g2⟩ | ⟨g1, g2⟩
      · exact (hal i c' g2).eq (hok c' (List.mem_of_getElem? g2)) (fun j j1 j2 => (gi_ne (Or.inr (by omega))).trans (E1.2.2.2.2 _ _ (by unfold SR; omega)))
      · subst g1 g2
        exact mc.eq oC (fun j j1 j2 => gi_ne (Or.inr (by omega)))
    have E2 : eqG (SR a b (b + 22)) h (si h1 (a + 7) b ((al.length : Int) + 1)) := (E0.tr (E1.mono (SR.mono (by omega) (by omega)))).tr (eqG.si (Or.inr ⟨rfl, by omega, by omega⟩))
    have A2 : gi (si h1 (a + 7) b ((al.length : Int) + 1)) a 11 = (k2 : Int) := (gi_ne (Or.inl (by omega))).trans A1
    have hX2 := hX.eq E2
    have le2 := r2.le
    have KH := m_hereX (γ := γ) hX2 A2 le2.2
    have bd2 := hr9_bd hf n k2
    have okl : ∀ c' ∈ al ++ [c], okC c' := mem_snoc hok oC
    have el : (al ++ [c]).length = al.length + 1 := by simp
    by_cases q44 : hr9 f n k2 = 44
    · obtain ⟨l44, c44⟩ := hr9_lt (c := 44) q44
      have ea : acc (f k2) (st, 0, Q, T, s, pr, al, c) = a_cend 44 Q T s pr al c := by rw [c44]; exact acc_ce (by omega)
      by_cases q3 : al.length = 2
      · skip
        refine aw_if_ne (tgt := 54) dX12_readAlternative_49 rfl (by omega) (fun c49 => ?_) (fun c49 => ?_)
        · refine aw_aload_n dX12_readAlternative_54 rfl ?_
          refine aw_getr' (j := 12) dX12_readAlternative_55 fX12_28 rfl (by assumption) rfl (by assumption) ?_
          refine aw_iload_n dX12_readAlternative_58 rfl ?_
          refine aw_dup2 dX12_readAlternative_59 rfl rfl ?_
          refine aw_iald' dX12_readAlternative_60 (by assumption) (by omega) (by first | decide | omega) b1 ?_
          refine aw_iconst dX12_readAlternative_61 ?_
          refine aw_iadd dX12_readAlternative_62 ?_
          refine aw_iast dX12_readAlternative_63 (by assumption) (by omega) (by first | decide | omega) ?_
          refine aw_aload_n dX12_readAlternative_64 rfl ?_
          refine aw_invV_r dX12_readAlternative_65 vX12_here kX12_137 rfl (KH) ⟨_, (by assumption), _, _, rfl⟩ rfl rfl (by decide) (by decide) (by decide) (Nat.le_of_ble_eq_true rfl) ?_
          refine aw_bipush dX12_readAlternative_68 rfl ?_
          refine aw_ic_ne (tgt := 77) dX12_readAlternative_70 rfl (by omega) (by omega) (fun c70 => ?_) (fun c70 => ?_)
          · exact absurd c70 (by omega)
          · refine aw_iconst dX12_readAlternative_73 ?_
            refine aw_goto (tgt := 78) dX12_readAlternative_74 rfl ?_
            refine aw_istore_n (ls1 := [(2, _), (3, _), (0, _), (1, _)]) dX12_readAlternative_78 (by decide) rfl ?_
            refine aw_iload_n dX12_readAlternative_79 rfl ?_
            refine aw_if_eq (tgt := 95) dX12_readAlternative_80 rfl (by omega) (fun c80 => ?_) (fun c80 => ?_)
            · exact absurd c80 (by omega)
            · refine aw_aload_n dX12_readAlternative_83 rfl ?_
              refine aw_getr' (j := 12) dX12_readAlternative_84 fX12_28 rfl (by assumption) rfl (by assumption) ?_
              refine aw_iload_n dX12_readAlternative_87 rfl ?_
              refine aw_iald' dX12_readAlternative_88 (by assumption) (by omega) (by first | decide | omega) ((gi_at rfl rfl).trans (by omega : _ = (3 : Int))) ?_
              refine aw_iconst dX12_readAlternative_89 ?_
              refine aw_ic_ne (tgt := 95) dX12_readAlternative_90 rfl (by omega) (by omega) (fun c90 => ?_) (fun c90 => ?_)
              · exact absurd c90 (by omega)
              · refine aw_iconst dX12_readAlternative_93 ?_
                exact aw_zreturn dX12_readAlternative_94 rfl (by omega) (Or.inl rfl) (Or.inl ⟨rfl, E2, k2, _, r0.tr r2, Or.inl ⟨l44, by rw [ea]; unfold a_cend; rw [if_neg (by omega), if_neg (by omega), if_neg (by omega)]⟩, A2⟩)
        · exact absurd c49 (by omega)
      · have r3 := (r0.tr r2).tr (Rc.one l44 (ea.trans (show a_cend 44 Q T s pr al c = some (5, 0, Q, T, s, pr, al ++ [c], c0) by unfold a_cend; rw [if_neg (by omega), if_pos ⟨rfl, by omega⟩])))
        refine aw_if_ne (tgt := 54) dX12_readAlternative_49 rfl (by omega) (fun c49 => ?_) (fun c49 => ?_)
        · refine aw_aload_n dX12_readAlternative_54 rfl ?_
          refine aw_getr' (j := 12) dX12_readAlternative_55 fX12_28 rfl (by assumption) rfl (by assumption) ?_
          refine aw_iload_n dX12_readAlternative_58 rfl ?_
          refine aw_dup2 dX12_readAlternative_59 rfl rfl ?_
          refine aw_iald' dX12_readAlternative_60 (by assumption) (by omega) (by first | decide | omega) b1 ?_
          refine aw_iconst dX12_readAlternative_61 ?_
          refine aw_iadd dX12_readAlternative_62 ?_
          refine aw_iast dX12_readAlternative_63 (by assumption) (by omega) (by first | decide | omega) ?_
          refine aw_aload_n dX12_readAlternative_64 rfl ?_
          refine aw_invV_r dX12_readAlternative_65 vX12_here kX12_137 rfl (KH) ⟨_, (by assumption), _, _, rfl⟩ rfl rfl (by decide) (by decide) (by decide) (Nat.le_of_ble_eq_true rfl) ?_
          refine aw_bipush dX12_readAlternative_68 rfl ?_
          refine aw_ic_ne (tgt := 77) dX12_readAlternative_70 rfl (by omega) (by omega) (fun c70 => ?_) (fun c70 => ?_)
          · exact absurd c70 (by omega)
          · refine aw_iconst dX12_readAlternative_73 ?_
            refine aw_goto (tgt := 78) dX12_readAlternative_74 rfl ?_
            refine aw_istore_n (ls1 := [(2, _), (3, _), (0, _), (1, _)]) dX12_readAlternative_78 (by decide) rfl ?_
            refine aw_iload_n dX12_readAlternative_79 rfl ?_
            refine aw_if_eq (tgt := 95) dX12_readAlternative_80 rfl (by omega) (fun c80 => ?_) (fun c80 => ?_)
            · exact absurd c80 (by omega)
            · refine aw_aload_n dX12_readAlternative_83 rfl ?_
              refine aw_getr' (j := 12) dX12_readAlternative_84 fX12_28 rfl (by assumption) rfl (by assumption) ?_
              refine aw_iload_n dX12_readAlternative_87 rfl ?_
              refine aw_iald' dX12_readAlternative_88 (by assumption) (by omega) (by first | decide | omega) (gi_at rfl rfl) ?_
              refine aw_iconst dX12_readAlternative_89 ?_
              refine aw_ic_ne (tgt := 95) dX12_readAlternative_90 rfl (by omega) (by omega) (fun c90 => ?_) (fun c90 => ?_)
              · refine aw_aload_n dX12_readAlternative_95 rfl ?_
                refine aw_dup dX12_readAlternative_96 rfl ?_
                refine aw_geti' (j := 11) dX12_readAlternative_97 fX12_131 rfl (by assumption) rfl A2 ?_
                refine aw_iload_n dX12_readAlternative_100 rfl ?_
                refine aw_if_eq (tgt := 108) dX12_readAlternative_101 rfl (by omega) (fun c101 => ?_) (fun c101 => ?_)
                · exact absurd c101 (by omega)
                · refine aw_iconst dX12_readAlternative_104 ?_
                  refine aw_goto (tgt := 109) dX12_readAlternative_105 rfl ?_
                  refine aw_iadd dX12_readAlternative_109 ?_
                  refine aw_puti' (j := 11) rfl dX12_readAlternative_110 fX12_131 (by assumption) rfl ?_
                  refine aw_goto (tgt := 9) dX12_readAlternative_113 rfl ?_
                  refine aw_sub [0, 2, 3] rfl ?_
                  exact kk c (k2 + 1) _ ⟨E2.tr (eqG.si SR_at), gi_at rfl rfl, (gi_ne (Or.inl (by omega))).trans ((gi_at rfl rfl).trans (by rw [el]; omega)), fun i c1 hi => (ml i c1 hi).eq (okl c1 (List.mem_of_getElem? hi)) (fun j j1 j2 => gi_ne (Or.inl (by omega))), okl, by omega, by omega, r3⟩
              · exact absurd c90 (by omega)
        · exact absurd c49 (by omega)
    · skip
      refine aw_if_ne (tgt := 54) dX12_readAlternative_49 rfl (by omega) (fun c49 => ?_) (fun c49 => ?_)
      · refine aw_aload_n dX12_readAlternative_54 rfl ?_
        refine aw_getr' (j := 12) dX12_readAlternative_55 fX12_28 rfl (by assumption) rfl (by assumption) ?_
        refine aw_iload_n dX12_readAlternative_58 rfl ?_
        refine aw_dup2 dX12_readAlternative_59 rfl rfl ?_
        refine aw_iald' dX12_readAlternative_60 (by assumption) (by omega) (by first | decide | omega) b1 ?_
        refine aw_iconst dX12_readAlternative_61 ?_
        refine aw_iadd dX12_readAlternative_62 ?_
        refine aw_iast dX12_readAlternative_63 (by assumption) (by omega) (by first | decide | omega) ?_
        refine aw_aload_n dX12_readAlternative_64 rfl ?_
        refine aw_invV_r dX12_readAlternative_65 vX12_here kX12_137 rfl (KH) ⟨_, (by assumption), _, _, rfl⟩ rfl rfl (by decide) (by decide) (by decide) (Nat.le_of_ble_eq_true rfl) ?_
        refine aw_bipush dX12_readAlternative_68 rfl ?_
        refine aw_ic_ne (tgt := 77) dX12_readAlternative_70 rfl (by omega) (by omega) (fun c70 => ?_) (fun c70 => ?_)
        · refine aw_iconst dX12_readAlternative_77 ?_
          refine aw_istore_n (ls1 := [(2, _), (3, _), (0, _), (1, _)]) dX12_readAlternative_78 (by decide) rfl ?_
          refine aw_iload_n dX12_readAlternative_79 rfl ?_
          refine aw_if_eq (tgt := 95) dX12_readAlternative_80 rfl (by omega) (fun c80 => ?_) (fun c80 => ?_)
          · refine aw_aload_n dX12_readAlternative_95 rfl ?_
            refine aw_dup dX12_readAlternative_96 rfl ?_
            refine aw_geti' (j := 11) dX12_readAlternative_97 fX12_131 rfl (by assumption) rfl A2 ?_
            refine aw_iload_n dX12_readAlternative_100 rfl ?_
            refine aw_if_eq (tgt := 108) dX12_readAlternative_101 rfl (by omega) (fun c101 => ?_) (fun c101 => ?_)
            · refine aw_iconst dX12_readAlternative_108 ?_
              refine aw_iadd dX12_readAlternative_109 ?_
              refine aw_puti' (j := 11) rfl dX12_readAlternative_110 fX12_131 (by assumption) rfl ?_
              refine aw_goto (tgt := 9) dX12_readAlternative_113 rfl ?_
              refine aw_iload_n dX12_readAlternative_9 rfl ?_
              refine aw_if_eq (tgt := 116) dX12_readAlternative_10 rfl (by omega) (fun c10 => ?_) (fun c10 => ?_)
              · refine aw_iconst dX12_readAlternative_116 ?_
                exact aw_zreturn dX12_readAlternative_117 rfl (by omega) (Or.inl rfl) (Or.inr ⟨rfl, E2.tr (eqG.si SR_at), k2, st, al, c, r0.tr r2, (gi_at rfl rfl).trans (by omega), hst, q44, ⟨by omega, by omega, okl⟩, (gi_ne (Or.inl (by omega))).trans ((gi_at rfl rfl).trans (by rw [el]; omega)), fun i c1 hi => (ml i c1 hi).eq (okl c1 (List.mem_of_getElem? hi)) (fun j j1 j2 => gi_ne (Or.inl (by omega)))⟩)
              · exact absurd c10 (by omega)
            · exact absurd c101 (by omega)
          · exact absurd c80 (by omega)
        · exact absurd c70 (by omega)
      · exact absurd c49 (by omega)
theorem s_ral9 {γ : GG} {h : AH} {a k n : Nat} {f : Nat → Nat} {Q : TQ} {T : Bool × List TS} {s : TS} {pr : TP} {al : TA} {b : Int} {H : AH} {k1 : Nat} (hX : isX h a f n) (hb : 1 ≤ b ∧ b + 22 ≤ 6537) (hI : AlI h a f n k Q T s pr b al k1 H) (kk : ∀ (c : TC) (k' : Nat) (H' : AH), AlI h a f n k Q T s pr b (al ++ [c]) k' H' → AW γ mX12_readAlternative 5 0 0 9 [(2, vi 1), (0, vr (some a)), (1, vi b)] [] H' (rB (nrd h a f n k (5, 0, Q, T, s, pr, [], c0) b (b + 22)) (AlR h a f n k Q T s pr b))) : AW γ mX12_readAlternative 5 0 0 9 [(2, vi 1), (0, vr (some a)), (1, vi b)] [] H (rB (nrd h a f n k (5, 0, Q, T, s, pr, [], c0) b (b + 22)) (AlR h a f n k Q T s pr b)) := by
  obtain ⟨E0, hk, hlen, hal, hok, hl2, hk1n, r0⟩ := hI
  have hX1 := hX.eq E0
  have hf := hX.2.2.2.2
  have hn4 := hX.2.2.1
  obtain ⟨hka, rq, kq⟩ := hX1.q
  have KC := m_conditionAt (γ := γ) (h := H) (p := b) (k := (al.length : Int))
  have tr0 : ∀ (H' : AH), (∀ j : Int, b ≤ j → j < b + 1 + 7 * al.length → gi H' (a + 7) j = gi H (a + 7) j) → ∀ (i : Nat) (c : TC), al[i]? = some c → gC (gi H' (a + 7)) (b + 1 + 7 * i) c := fun H' e i c hi => by
    have := lt_of_get hi
    exact (hal i c hi).eq (hok c (List.mem_of_getElem? hi)) (fun j j1 j2 => e _ (by omega) (by omega))
  by_cases q45 : hr9 f n k1 = 45
  · obtain ⟨l45, c45⟩ := hr9_lt (c := 45) q45
    have KT := m_takes1 (γ := γ) (c := 45) hX1 hk hk1n (by decide) q45
    have r1 := r0.tr (Rc.one l45 (show acc (f k1) (5, 0, Q, T, s, pr, al, c0) = some (6, 0, Q, T, s, pr, al, true, 0, 0, []) by rw [c45]; rfl))
    refine aw_iload_n dX12_readAlternative_9 rfl ?_
    refine aw_if_eq (tgt := 116) dX12_readAlternative_10 rfl (by omega) (fun c10 => ?_) (fun c10 => ?_)
    · exact absurd c10 (by omega)
    · refine aw_iload_n dX12_readAlternative_13 rfl ?_
      refine aw_aload_n dX12_readAlternative_14 rfl ?_
      refine aw_getr' (j := 12) dX12_readAlternative_15 fX12_28 rfl (by assumption) rfl (by assumption) ?_
      refine aw_iload_n dX12_readAlternative_18 rfl ?_
      refine aw_iald' dX12_readAlternative_19 (by assumption) (by omega) (by first | decide | omega) hlen ?_
      refine aw_invS_r dX12_readAlternative_20 sX12_conditionAt kX12_153 rfl (KC) rfl rfl (by decide) (by decide) (by decide) (Nat.le_of_ble_eq_true rfl) ?_
      refine aw_istore_n (ls1 := [(3, _), (2, _), (0, _), (1, _)]) dX12_readAlternative_23 (by decide) rfl ?_
      refine aw_aload_n dX12_readAlternative_24 rfl ?_
      refine aw_getr' (j := 12) dX12_readAlternative_25 fX12_28 rfl (by assumption) rfl (by assumption) ?_
      refine aw_iload_n dX12_readAlternative_28 rfl ?_
      refine aw_aload_n dX12_readAlternative_29 rfl ?_
      refine aw_bipush dX12_readAlternative_30 rfl ?_
      refine aw_invV_r dX12_readAlternative_32 vX12_takes kX12_147 rfl (KT) ⟨_, (by assumption), _, _, rfl⟩ rfl rfl (by decide) (by decide) (by decide) (Nat.le_of_ble_eq_true rfl) ?_
      refine aw_if_eq (tgt := 42) dX12_readAlternative_35 rfl (by omega) (fun c35 => ?_) (fun c35 => ?_)
      · exact absurd c35 (by omega)
      · refine aw_iconst dX12_readAlternative_38 ?_
        refine aw_goto (tgt := 43) dX12_readAlternative_39 rfl ?_
        refine aw_iast dX12_readAlternative_43 (by assumption) (by omega) (by first | decide | omega) ?_
        refine aw_sub [0, 1, 2, 3] rfl ?_
        exact s_ral44 (k1 := k1 + 1) (ng := true) (z := (6, 0, Q, T, s, pr, al, true, 0, 0, [])) hX hb ((E0.tr (eqG.si SR_at)).tr (eqG.si (Or.inr ⟨rfl, by omega, by omega⟩))) ((gi_ne (Or.inl (by omega))).trans (gi_at rfl (by omega))) (by omega) ((gi_ne (Or.inr (by omega))).trans ((gi_ne (Or.inl (by omega))).trans hlen)) (tr0 _ (fun j j1 j2 => (gi_ne (Or.inr (by omega))).trans (gi_ne (Or.inl (by omega))))) hok hl2 (gi_at rfl rfl) r1 (fun _ => rfl) (by simp) kk
  · have KT := m_takes0 (γ := γ) (c := 45) hX1 hk hk1n (by decide) q45
    refine aw_iload_n dX12_readAlternative_9 rfl ?_
    refine aw_if_eq (tgt := 116) dX12_readAlternative_10 rfl (by omega) (fun c10 => ?_) (fun c10 => ?_)
    · exact absurd c10 (by omega)
    · refine aw_iload_n dX12_readAlternative_13 rfl ?_
      refine aw_aload_n dX12_readAlternative_14 rfl ?_
      refine aw_getr' (j := 12) dX12_readAlternative_15 fX12_28 rfl (by assumption) rfl (by assumption) ?_
      refine aw_iload_n dX12_readAlternative_18 rfl ?_
      refine aw_iald' dX12_readAlternative_19 (by assumption) (by omega) (by first | decide | omega) hlen ?_
      refine aw_invS_r dX12_readAlternative_20 sX12_conditionAt kX12_153 rfl (KC) rfl rfl (by decide) (by decide) (by decide) (Nat.le_of_ble_eq_true rfl) ?_
      refine aw_istore_n (ls1 := [(3, _), (2, _), (0, _), (1, _)]) dX12_readAlternative_23 (by decide) rfl ?_
      refine aw_aload_n dX12_readAlternative_24 rfl ?_
      refine aw_getr' (j := 12) dX12_readAlternative_25 fX12_28 rfl (by assumption) rfl (by assumption) ?_
      refine aw_iload_n dX12_readAlternative_28 rfl ?_
      refine aw_aload_n dX12_readAlternative_29 rfl ?_
      refine aw_bipush dX12_readAlternative_30 rfl ?_
      refine aw_invV_r dX12_readAlternative_32 vX12_takes kX12_147 rfl (KT) ⟨_, (by assumption), _, _, rfl⟩ rfl rfl (by decide) (by decide) (by decide) (Nat.le_of_ble_eq_true rfl) ?_
      refine aw_if_eq (tgt := 42) dX12_readAlternative_35 rfl (by omega) (fun c35 => ?_) (fun c35 => ?_)
      · refine aw_iconst dX12_readAlternative_42 ?_
        refine aw_iast dX12_readAlternative_43 (by assumption) (by omega) (by first | decide | omega) ?_
        refine aw_sub [0, 1, 2, 3] rfl ?_
        exact s_ral44 (k1 := k1) (ng := false) (z := (5, 0, Q, T, s, pr, al, c0)) hX hb (E0.tr (eqG.si (Or.inr ⟨rfl, by omega, by omega⟩))) ((gi_ne (Or.inl (by omega))).trans hk) hk1n ((gi_ne (Or.inr (by omega))).trans hlen) (tr0 _ (fun j j1 j2 => gi_ne (Or.inr (by omega)))) hok hl2 (gi_at rfl rfl) r0 (fun l9 => by simp only [acc]; rw [if_neg (hr_ne q45 l9)]) (by simp) kk
      · exact absurd c35 (by omega)
theorem l_ral {γ : GG} {h : AH} {a k n : Nat} {f : Nat → Nat} {Q : TQ} {T : Bool × List TS} {s : TS} {pr : TP} {b : Int} (hX : isX h a f n) (hb : 1 ≤ b ∧ b + 22 ≤ 6537) : ∀ (m : Nat) (al : TA) (k1 : Nat) (H : AH), al.length + m = 2 → AlI h a f n k Q T s pr b al k1 H → AW γ mX12_readAlternative 5 0 0 9 [(2, vi 1), (0, vr (some a)), (1, vi b)] [] H (rB (nrd h a f n k (5, 0, Q, T, s, pr, [], c0) b (b + 22)) (AlR h a f n k Q T s pr b)) := by
  intro m
  induction m with
  | zero =>
    intro al k1 H hm hI
    exact s_ral9 hX hb hI (fun c k' H' hI' => absurd hI'.2.2.2.2.2.1 (by simp; omega))
  | succ m ih =>
    intro al k1 H hm hI
    exact s_ral9 hX hb hI (fun c k' H' hI' => ih (al ++ [c]) k' H' (by simp; omega) hI')
theorem m_readAlternative {γ : GG} {h : AH} {a k n : Nat} {f : Nat → Nat} {Q : TQ} {T : Bool × List TS} {s : TS} {pr : TP} {b : Int} (hX : isX h a f n) (hk : gi h a 11 = k) (hkn : k ≤ n) (hb : 1 ≤ b ∧ b + 22 ≤ 6537) : Call γ mX12_readAlternative 5 0 0 [vr (some a), vi b] h (rB (nrd h a f n k (5, 0, Q, T, s, pr, [], c0) b (b + 22)) (AlR h a f n k Q T s pr b)) := by
  obtain ⟨hka, rq, kq⟩ := hX.q
  refine Call.of (ls := [(0, vr (some a)), (1, vi b)]) vX12_readAlternative.1 (Nat.le_of_ble_eq_true rfl) rfl ?_
  refine aw_aload_n dX12_readAlternative_0 rfl ?_
  refine aw_getr' (j := 12) dX12_readAlternative_1 fX12_28 rfl (by assumption) rfl (by assumption) ?_
  refine aw_iload_n dX12_readAlternative_4 rfl ?_
  refine aw_iconst dX12_readAlternative_5 ?_
  refine aw_iast dX12_readAlternative_6 (by assumption) (by omega) (by first | decide | omega) ?_
  refine aw_iconst dX12_readAlternative_7 ?_
  refine aw_istore_n (ls1 := [(2, _), (0, _), (1, _)]) dX12_readAlternative_8 (by decide) rfl ?_
  refine aw_sub [0, 1, 2] rfl ?_
  exact l_ral hX hb 2 [] k _ (by simp) ⟨eqG.si (Or.inr ⟨rfl, by omega, by omega⟩), (gi_ne (Or.inl (by omega))).trans hk, gi_at rfl rfl, fun i c hi => by simp at hi, fun c hc => absurd hc (by simp), by simp, hkn, Rc.rf hkn⟩
