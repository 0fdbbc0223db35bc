/-! ===== the model: readPredicate ===== -/
def PrI (h : AH) (a : Nat) (f : Nat → Nat) (n k : Nat) (Q : TQ) (T : Bool × List TS) (s : TS) (b : Int) (pr : TP) (k1 : Nat) (H : AH) : Prop := eqG (SR a b (b + 67)) h H ∧ gi H a 11 = (k1 : Int) ∧ gi H (a + 7) b = pr.length ∧ (∀ (i : Nat) (al : TA), pr[i]? = some al → gA (gi H (a + 7)) (b + 1 + 22 * i) al) ∧ (∀ al ∈ pr, okA al) ∧ pr.length ≤ 2 ∧ k1 ≤ n ∧ Rc f n k (5, 0, Q, T, s, k0) k1 (5, 0, Q, T, s, pr, [], c0)
def PrR (h : AH) (a : Nat) (f : Nat → Nat) (n k : Nat) (Q : TQ) (T : Bool × List TS) (s : TS) (b : Int) (h' : AH) : Prop := eqG (SR a b (b + 67)) h h' ∧ ∃ (k' : Nat) (pr : TP), Rc f n k (5, 0, Q, T, s, k0) k' (4, 0, Q, T, (s.1, s.2 ++ [pr]), k0) ∧ gi h' a 11 = (k' : Int) ∧ okP pr ∧ gP (gi h' (a + 7)) b pr
theorem s_rpr9 {γ : GG} {h : AH} {a k n : Nat} {f : Nat → Nat} {Q : TQ} {T : Bool × List TS} {s : TS} {pr : TP} {b : Int} {H : AH} {k1 : Nat} (hX : isX h a f n) (hb : 1 ≤ b ∧ b + 67 ≤ 6537) (hI : PrI h a f n k Q T s b pr k1 H) (kk : ∀ (al : TA) (k' : Nat) (H' : AH), PrI h a f n k Q T s b (pr ++ [al]) k' H' → AW γ mX12_readPredicate 6 0 0 9 [(2, vi 1), (0, vr (some a)), (1, vi b)] [] H' (rB (nrd h a f n k (5, 0, Q, T, s, k0) b (b + 67)) (PrR h a f n k Q T s b))) : AW γ mX12_readPredicate 6 0 0 9 [(2, vi 1), (0, vr (some a)), (1, vi b)] [] H (rB (nrd h a f n k (5, 0, Q, T, s, k0) b (b + 67)) (PrR h a f n k Q T s b)) := by
  obtain ⟨E0, hk, hlen, hal, hok, hl2, hk1n, r0⟩ := hI
  have hX1 := hX.eq E0
  have hf := hX.2.2.2.2
  have hn4 := hX.2.2.1
  obtain ⟨hka, rq, kq⟩ := hX1.q
  have KC := m_alternativeAt (γ := γ) (h := H) (p := b) (k := (pr.length : Int))
  have KA := m_readAlternative (γ := γ) (b := b + 1 + 22 * (pr.length : Int)) (Q := Q) (T := T) (s := s) (pr := pr) hX1 hk hk1n (by omega)
  refine aw_iload_n dX12_readPredicate_9 rfl ?_
  refine aw_if_eq (tgt := 94) dX12_readPredicate_10 rfl (by omega) (fun c10 => ?_) (fun c10 => ?_)
  · exact absurd c10 (by omega)
  · refine aw_aload_n dX12_readPredicate_13 rfl ?_
    refine aw_iload_n dX12_readPredicate_14 rfl ?_
    refine aw_aload_n dX12_readPredicate_15 rfl ?_
    refine aw_getr' (j := 12) dX12_readPredicate_16 fX12_28 rfl (by assumption) rfl (by assumption) ?_
    refine aw_iload_n dX12_readPredicate_19 rfl ?_
    refine aw_iald' dX12_readPredicate_20 (by assumption) (by omega) (by first | decide | omega) hlen ?_
    refine aw_invS_r dX12_readPredicate_21 sX12_alternativeAt kX12_159 rfl (KC) rfl rfl (by decide) (by decide) (by decide) (Nat.le_of_ble_eq_true rfl) ?_
    refine aw_invV_2 dX12_readPredicate_24 vX12_readAlternative kX12_162 rfl (KA) ⟨_, (by assumption), _, _, rfl⟩ rfl rfl (by decide) (by decide) (by decide) (Nat.le_of_ble_eq_true rfl) (fun h1 hP9 => ?_) (fun h1 hP9 => ?_)
    · obtain ⟨E1, k2, z2, r2, s2, A1⟩ := hP9
      refine aw_if_ne (tgt := 32) dX12_readPredicate_27 rfl (by omega) (fun c27 => ?_) (fun c27 => ?_)
      · exact absurd c27 (by omega)
      · refine aw_iconst dX12_readPredicate_30 ?_
        exact aw_zreturn dX12_readPredicate_31 rfl (by omega) (Or.inl rfl) (Or.inl ⟨rfl, E0.tr (E1.mono (SR.mono (by omega) (by omega))), k2, z2, r0.tr r2, s2, A1⟩)
    · obtain ⟨E1, k2, st, al, c, r2, A1, hst, n44, oC, mc⟩ := hP9
      have hka1 := (E1.1 a).trans hka
      have rq1 := (E1.2.1 a 12).trans rq
      have kq1 := (E1.1 (a + 7)).trans kq
      have b1 : gi h1 (a + 7) b = (pr.length : Int) := (E1.2.2.2.2 _ _ (by unfold SR; omega)).trans hlen
      have ml : ∀ (i : Nat) (c' : TA), (pr ++ [al ++ [c]])[i]? = some c' → gA (gi (si h1 (a + 7) b ((pr.length : Int) + 1)) (a + 7)) (b + 1 + 22 * i) c' := fun i c' hi => by
        rcases get_snoc hi with ⟨g1, g2⟩ | ⟨g1, g2⟩
        · exact (hal i c' g2).eq (hok c' (List.mem_of_getElem? g2)) (fun j j1 j2 => (gi_ne (Or.inr (by omega))).trans (E1.2.2.2.2 _ _ (by unfold SR; omega)))
        · subst g1 g2
          exact mc.eq oC (fun j j1 j2 => gi_ne (Or.inr (by omega)))
      have E2 : eqG (SR a b (b + 67)) h (si h1 (a + 7) b ((pr.length : Int) + 1)) := (E0.tr (E1.mono (SR.mono (by omega) (by omega)))).tr (eqG.si (Or.inr ⟨rfl, by omega, by omega⟩))
      have A2 : gi (si h1 (a + 7) b ((pr.length : Int) + 1)) a 11 = (k2 : Int) := (gi_ne (Or.inl (by omega))).trans A1
      have hX2 := hX.eq E2
      have le2 := r2.le
      have KH := m_hereX (γ := γ) hX2 A2 le2.2
      have bd2 := hr9_bd hf n k2
      have okl : ∀ c' ∈ pr ++ [al ++ [c]], okA c' := mem_snoc hok oC
      have el : (pr ++ [al ++ [c]]).length = pr.length + 1 := by simp
      have la : al.length ≤ 2 := by have := oC.2.1; simp at this; omega
      have fin : okP (pr ++ [al ++ [c]]) := ⟨by omega, by omega, okl⟩
      have ea : k2 < n → acc (f k2) (st, 0, Q, T, s, pr, al, c) = a_cend (f k2) Q T s pr al c := fun l9 => acc_ce (by rcases hst with g | ⟨g1, g2⟩; exact Or.inl g; exact Or.inr ⟨g1, hr_ne g2 l9⟩)
      by_cases q43 : hr9 f n k2 = 43
      · obtain ⟨l43, c43⟩ := hr9_lt (c := 43) q43
        have ea := ea l43
        rw [c43] at ea
        by_cases q3 : pr.length = 2
        · skip
          refine aw_if_ne (tgt := 32) dX12_readPredicate_27 rfl (by omega) (fun c27 => ?_) (fun c27 => ?_)
          · refine aw_aload_n dX12_readPredicate_32 rfl ?_
            refine aw_getr' (j := 12) dX12_readPredicate_33 fX12_28 rfl (by assumption) rfl (by assumption) ?_
            refine aw_iload_n dX12_readPredicate_36 rfl ?_
            refine aw_dup2 dX12_readPredicate_37 rfl rfl ?_
            refine aw_iald' dX12_readPredicate_38 (by assumption) (by omega) (by first | decide | omega) b1 ?_
            refine aw_iconst dX12_readPredicate_39 ?_
            refine aw_iadd dX12_readPredicate_40 ?_
            refine aw_iast dX12_readPredicate_41 (by assumption) (by omega) (by first | decide | omega) ?_
            refine aw_aload_n dX12_readPredicate_42 rfl ?_
            refine aw_invV_r dX12_readPredicate_43 vX12_here kX12_137 rfl (KH) ⟨_, (by assumption), _, _, rfl⟩ rfl rfl (by decide) (by decide) (by decide) (Nat.le_of_ble_eq_true rfl) ?_
            refine aw_bipush dX12_readPredicate_46 rfl ?_
            refine aw_ic_ne (tgt := 55) dX12_readPredicate_48 rfl (by omega) (by omega) (fun c48 => ?_) (fun c48 => ?_)
            · exact absurd c48 (by omega)
            · refine aw_iconst dX12_readPredicate_51 ?_
              refine aw_goto (tgt := 56) dX12_readPredicate_52 rfl ?_
              refine aw_istore_n (ls1 := [(2, _), (0, _), (1, _)]) dX12_readPredicate_56 (by decide) rfl ?_
              refine aw_iload_n dX12_readPredicate_57 rfl ?_
              refine aw_if_eq (tgt := 73) dX12_readPredicate_58 rfl (by omega) (fun c58 => ?_) (fun c58 => ?_)
              · exact absurd c58 (by omega)
              · refine aw_aload_n dX12_readPredicate_61 rfl ?_
                refine aw_getr' (j := 12) dX12_readPredicate_62 fX12_28 rfl (by assumption) rfl (by assumption) ?_
                refine aw_iload_n dX12_readPredicate_65 rfl ?_
                refine aw_iald' dX12_readPredicate_66 (by assumption) (by omega) (by first | decide | omega) ((gi_at rfl rfl).trans (by omega : _ = (3 : Int))) ?_
                refine aw_iconst dX12_readPredicate_67 ?_
                refine aw_ic_ne (tgt := 73) dX12_readPredicate_68 rfl (by omega) (by omega) (fun c68 => ?_) (fun c68 => ?_)
                · exact absurd c68 (by omega)
                · refine aw_iconst dX12_readPredicate_71 ?_
                  exact aw_zreturn dX12_readPredicate_72 rfl (by omega) (Or.inl rfl) (Or.inl ⟨rfl, E2, k2, _, r0.tr r2, Or.inl ⟨l43, by rw [c43, ea]; unfold a_cend; rw [if_neg (by omega), if_neg (by omega), if_neg (by omega)]⟩, A2⟩)
          · exact absurd c27 (by omega)
        · have r3 := (r0.tr r2).tr (Rc.one l43 (show acc (f k2) _ = some (5, 0, Q, T, s, pr ++ [al ++ [c]], [], c0) by rw [c43, ea]; unfold a_cend; rw [if_neg (by omega), if_neg (by omega), if_pos ⟨rfl, by omega⟩]))
          refine aw_if_ne (tgt := 32) dX12_readPredicate_27 rfl (by omega) (fun c27 => ?_) (fun c27 => ?_)
          · refine aw_aload_n dX12_readPredicate_32 rfl ?_
            refine aw_getr' (j := 12) dX12_readPredicate_33 fX12_28 rfl (by assumption) rfl (by assumption) ?_
            refine aw_iload_n dX12_readPredicate_36 rfl ?_
            refine aw_dup2 dX12_readPredicate_37 rfl rfl ?_
            refine aw_iald' dX12_readPredicate_38 (by assumption) (by omega) (by first | decide | omega) b1 ?_
            refine aw_iconst dX12_readPredicate_39 ?_
            refine aw_iadd dX12_readPredicate_40 ?_
            refine aw_iast dX12_readPredicate_41 (by assumption) (by omega) (by first | decide | omega) ?_
            refine aw_aload_n dX12_readPredicate_42 rfl ?_
            refine aw_invV_r dX12_readPredicate_43 vX12_here kX12_137 rfl (KH) ⟨_, (by assumption), _, _, rfl⟩ rfl rfl (by decide) (by decide) (by decide) (Nat.le_of_ble_eq_true rfl) ?_
            refine aw_bipush dX12_readPredicate_46 rfl ?_
            refine aw_ic_ne (tgt := 55) dX12_readPredicate_48 rfl (by omega) (by omega) (fun c48 => ?_) (fun c48 => ?_)
            · exact absurd c48 (by omega)
            · refine aw_iconst dX12_readPredicate_51 ?_
              refine aw_goto (tgt := 56) dX12_readPredicate_52 rfl ?_
              refine aw_istore_n (ls1 := [(2, _), (0, _), (1, _)]) dX12_readPredicate_56 (by decide) rfl ?_
              refine aw_iload_n dX12_readPredicate_57 rfl ?_
              refine aw_if_eq (tgt := 73) dX12_readPredicate_58 rfl (by omega) (fun c58 => ?_) (fun c58 => ?_)
              · exact absurd c58 (by omega)
              · refine aw_aload_n dX12_readPredicate_61 rfl ?_
                refine aw_getr' (j := 12) dX12_readPredicate_62 fX12_28 rfl (by assumption) rfl (by assumption) ?_
                refine aw_iload_n dX12_readPredicate_65 rfl ?_
                refine aw_iald' dX12_readPredicate_66 (by assumption) (by omega) (by first | decide | omega) (gi_at rfl rfl) ?_
                refine aw_iconst dX12_readPredicate_67 ?_
                refine aw_ic_ne (tgt := 73) dX12_readPredicate_68 rfl (by omega) (by omega) (fun c68 => ?_) (fun c68 => ?_)
                · refine aw_aload_n dX12_readPredicate_73 rfl ?_
                  refine aw_dup dX12_readPredicate_74 rfl ?_
                  refine aw_geti' (j := 11) dX12_readPredicate_75 fX12_131 rfl (by assumption) rfl A2 ?_
                  refine aw_iload_n dX12_readPredicate_78 rfl ?_
                  refine aw_if_eq (tgt := 86) dX12_readPredicate_79 rfl (by omega) (fun c79 => ?_) (fun c79 => ?_)
                  · exact absurd c79 (by omega)
                  · refine aw_iconst dX12_readPredicate_82 ?_
                    refine aw_goto (tgt := 87) dX12_readPredicate_83 rfl ?_
                    refine aw_iadd dX12_readPredicate_87 ?_
                    refine aw_puti' (j := 11) rfl dX12_readPredicate_88 fX12_131 (by assumption) rfl ?_
                    refine aw_goto (tgt := 9) dX12_readPredicate_91 rfl ?_
                    refine aw_sub [0, 1, 2] rfl ?_
                    exact kk (al ++ [c]) (k2 + 1) _ ⟨(E2.tr (eqG.si SR_at)), gi_at rfl rfl, (gi_ne (Or.inl (by omega))).trans ((gi_at rfl rfl).trans (by rw [el]; omega)), (fun i c1 hi => (ml i c1 hi).eq (okl c1 (List.mem_of_getElem? hi)) (fun j j1 j2 => gi_ne (Or.inl (by omega)))), okl, by omega, by omega, r3⟩
                · exact absurd c68 (by omega)
          · exact absurd c27 (by omega)
      · have E3 := E2.tr (eqG.si (v := (k2 : Int) + 0) (SR_at (a := a) (lo := b) (hi := b + 67)))
        have hX3 := hX.eq E3
        have A3 : gi (si (si h1 (a + 7) b ((pr.length : Int) + 1)) a 11 ((k2 : Int) + 0)) a 11 = (k2 : Int) := (gi_at rfl rfl).trans (by omega)
        have mP3 : gP (gi (si (si h1 (a + 7) b ((pr.length : Int) + 1)) a 11 ((k2 : Int) + 0)) (a + 7)) b (pr ++ [al ++ [c]]) := ⟨(gi_ne (Or.inl (by omega))).trans ((gi_at rfl rfl).trans (by rw [el]; omega)), fun i c1 hi => (ml i c1 hi).eq (okl c1 (List.mem_of_getElem? hi)) (fun j j1 j2 => gi_ne (Or.inl (by omega)))⟩
        by_cases q93 : hr9 f n k2 = 93
        · obtain ⟨l93, c93⟩ := hr9_lt (c := 93) q93
          have ea := ea l93
          rw [c93] at ea
          have r3 := (r0.tr r2).tr (Rc.one l93 (show acc (f k2) _ = some (4, 0, Q, T, (s.1, s.2 ++ [pr ++ [al ++ [c]]]), k0) by rw [c93, ea]; unfold a_cend; rw [if_pos rfl]))
          have KT := m_takes1 (γ := γ) (c := 93) hX3 A3 le2.2 (by decide) q93
          refine aw_if_ne (tgt := 32) dX12_readPredicate_27 rfl (by omega) (fun c27 => ?_) (fun c27 => ?_)
          · refine aw_aload_n dX12_readPredicate_32 rfl ?_
            refine aw_getr' (j := 12) dX12_readPredicate_33 fX12_28 rfl (by assumption) rfl (by assumption) ?_
            refine aw_iload_n dX12_readPredicate_36 rfl ?_
            refine aw_dup2 dX12_readPredicate_37 rfl rfl ?_
            refine aw_iald' dX12_readPredicate_38 (by assumption) (by omega) (by first | decide | omega) b1 ?_
            refine aw_iconst dX12_readPredicate_39 ?_
            refine aw_iadd dX12_readPredicate_40 ?_
            refine aw_iast dX12_readPredicate_41 (by assumption) (by omega) (by first | decide | omega) ?_
            refine aw_aload_n dX12_readPredicate_42 rfl ?_
            refine aw_invV_r dX12_readPredicate_43 vX12_here kX12_137 rfl (KH) ⟨_, (by assumption), _, _, rfl⟩ rfl rfl (by decide) (by decide) (by decide) (Nat.le_of_ble_eq_true rfl) ?_
            refine aw_bipush dX12_readPredicate_46 rfl ?_
            refine aw_ic_ne (tgt := 55) dX12_readPredicate_48 rfl (by omega) (by omega) (fun c48 => ?_) (fun c48 => ?_)
            · refine aw_iconst dX12_readPredicate_55 ?_
              refine aw_istore_n (ls1 := [(2, _), (0, _), (1, _)]) dX12_readPredicate_56 (by decide) rfl ?_
              refine aw_iload_n dX12_readPredicate_57 rfl ?_
              refine aw_if_eq (tgt := 73) dX12_readPredicate_58 rfl (by omega) (fun c58 => ?_) (fun c58 => ?_)
              · refine aw_aload_n dX12_readPredicate_73 rfl ?_
                refine aw_dup dX12_readPredicate_74 rfl ?_
                refine aw_geti' (j := 11) dX12_readPredicate_75 fX12_131 rfl (by assumption) rfl A2 ?_
                refine aw_iload_n dX12_readPredicate_78 rfl ?_
                refine aw_if_eq (tgt := 86) dX12_readPredicate_79 rfl (by omega) (fun c79 => ?_) (fun c79 => ?_)
                · refine aw_iconst dX12_readPredicate_86 ?_
                  refine aw_iadd dX12_readPredicate_87 ?_
                  refine aw_puti' (j := 11) rfl dX12_readPredicate_88 fX12_131 (by assumption) rfl ?_
                  refine aw_goto (tgt := 9) dX12_readPredicate_91 rfl ?_
                  refine aw_iload_n dX12_readPredicate_9 rfl ?_
                  refine aw_if_eq (tgt := 94) dX12_readPredicate_10 rfl (by omega) (fun c10 => ?_) (fun c10 => ?_)
                  · refine aw_aload_n dX12_readPredicate_94 rfl ?_
                    refine aw_bipush dX12_readPredicate_95 rfl ?_
                    refine aw_invV_r dX12_readPredicate_97 vX12_takes kX12_147 rfl (KT) ⟨_, (by assumption), _, _, rfl⟩ rfl rfl (by decide) (by decide) (by decide) (Nat.le_of_ble_eq_true rfl) ?_
                    exact aw_zreturn dX12_readPredicate_100 rfl (by omega) (Or.inl rfl) (Or.inr ⟨rfl, E3.tr (eqG.si SR_at), k2 + 1, _, r3, gi_at rfl (by omega), fin, mP3.eq fin (fun j j1 j2 => gi_ne (Or.inl (by omega)))⟩)
                  · exact absurd c10 (by omega)
                · exact absurd c79 (by omega)
              · exact absurd c58 (by omega)
            · exact absurd c48 (by omega)
          · exact absurd c27 (by omega)
        · have KT := m_takes0 (γ := γ) (c := 93) hX3 A3 le2.2 (by decide) q93
          have st9 : stk f n k2 (st, 0, Q, T, s, pr, al, c) := by
            by_cases l9 : k2 < n
            · refine Or.inl ⟨l9, ?_⟩
              rw [ea l9]
              unfold a_cend
              rw [if_neg (hr_ne q93 l9), if_neg (fun g => hr_ne n44 l9 g.1), if_neg (fun g => hr_ne q43 l9 g.1)]
            · exact Or.inr ⟨by omega, by simp only; omega⟩
          refine aw_if_ne (tgt := 32) dX12_readPredicate_27 rfl (by omega) (fun c27 => ?_) (fun c27 => ?_)
          · refine aw_aload_n dX12_readPredicate_32 rfl ?_
            refine aw_getr' (j := 12) dX12_readPredicate_33 fX12_28 rfl (by assumption) rfl (by assumption) ?_
            refine aw_iload_n dX12_readPredicate_36 rfl ?_
            refine aw_dup2 dX12_readPredicate_37 rfl rfl ?_
            refine aw_iald' dX12_readPredicate_38 (by assumption) (by omega) (by first | decide | omega) b1 ?_
            refine aw_iconst dX12_readPredicate_39 ?_
            refine aw_iadd dX12_readPredicate_40 ?_
            refine aw_iast dX12_readPredicate_41 (by assumption) (by omega) (by first | decide | omega) ?_
            refine aw_aload_n dX12_readPredicate_42 rfl ?_
            refine aw_invV_r dX12_readPredicate_43 vX12_here kX12_137 rfl (KH) ⟨_, (by assumption), _, _, rfl⟩ rfl rfl (by decide) (by decide) (by decide) (Nat.le_of_ble_eq_true rfl) ?_
            refine aw_bipush dX12_readPredicate_46 rfl ?_
            refine aw_ic_ne (tgt := 55) dX12_readPredicate_48 rfl (by omega) (by omega) (fun c48 => ?_) (fun c48 => ?_)
            · refine aw_iconst dX12_readPredicate_55 ?_
              refine aw_istore_n (ls1 := [(2, _), (0, _), (1, _)]) dX12_readPredicate_56 (by decide) rfl ?_
              refine aw_iload_n dX12_readPredicate_57 rfl ?_
              refine aw_if_eq (tgt := 73) dX12_readPredicate_58 rfl (by omega) (fun c58 => ?_) (fun c58 => ?_)
              · refine aw_aload_n dX12_readPredicate_73 rfl ?_
                refine aw_dup dX12_readPredicate_74 rfl ?_
                refine aw_geti' (j := 11) dX12_readPredicate_75 fX12_131 rfl (by assumption) rfl A2 ?_
                refine aw_iload_n dX12_readPredicate_78 rfl ?_
                refine aw_if_eq (tgt := 86) dX12_readPredicate_79 rfl (by omega) (fun c79 => ?_) (fun c79 => ?_)
                · refine aw_iconst dX12_readPredicate_86 ?_
                  refine aw_iadd dX12_readPredicate_87 ?_
                  refine aw_puti' (j := 11) rfl dX12_readPredicate_88 fX12_131 (by assumption) rfl ?_
                  refine aw_goto (tgt := 9) dX12_readPredicate_91 rfl ?_
                  refine aw_iload_n dX12_readPredicate_9 rfl ?_
                  refine aw_if_eq (tgt := 94) dX12_readPredicate_10 rfl (by omega) (fun c10 => ?_) (fun c10 => ?_)
                  · refine aw_aload_n dX12_readPredicate_94 rfl ?_
                    refine aw_bipush dX12_readPredicate_95 rfl ?_
                    refine aw_invV_r dX12_readPredicate_97 vX12_takes kX12_147 rfl (KT) ⟨_, (by assumption), _, _, rfl⟩ rfl rfl (by decide) (by decide) (by decide) (Nat.le_of_ble_eq_true rfl) ?_
                    exact aw_zreturn dX12_readPredicate_100 rfl (by omega) (Or.inl rfl) (Or.inl ⟨rfl, E3, k2, _, r0.tr r2, st9, A3⟩)
                  · exact absurd c10 (by omega)
                · exact absurd c79 (by omega)
              · exact absurd c58 (by omega)
            · exact absurd c48 (by omega)
          · exact absurd c27 (by omega)
theorem l_rpr {γ : GG} {h : AH} {a k n : Nat} {f : Nat → Nat} {Q : TQ} {T : Bool × List TS} {s : TS} {b : Int} (hX : isX h a f n) (hb : 1 ≤ b ∧ b + 67 ≤ 6537) : ∀ (m : Nat) (pr : TP) (k1 : Nat) (H : AH), pr.length + m = 2 → PrI h a f n k Q T s b pr k1 H → AW γ mX12_readPredicate 6 0 0 9 [(2, vi 1), (0, vr (some a)), (1, vi b)] [] H (rB (nrd h a f n k (5, 0, Q, T, s, k0) b (b + 67)) (PrR h a f n k Q T s b)) := by
  intro m
  induction m with
  | zero =>
    intro al k1 H hm hI
    exact s_rpr9 hX hb hI (fun c k' H' hI' => absurd hI'.2.2.2.2.2.1 (by simp; omega))
  | succ m ih =>
    intro al k1 H hm hI
    exact s_rpr9 hX hb hI (fun c k' H' hI' => ih (al ++ [c]) k' H' (by simp; omega) hI')
theorem m_readPredicate {γ : GG} {h : AH} {a k n : Nat} {f : Nat → Nat} {Q : TQ} {T : Bool × List TS} {s : TS} {b : Int} (hX : isX h a f n) (hk : gi h a 11 = k) (hkn : k ≤ n) (hb : 1 ≤ b ∧ b + 67 ≤ 6537) : Call γ mX12_readPredicate 6 0 0 [vr (some a), vi b] h (rB (nrd h a f n k (5, 0, Q, T, s, k0) b (b + 67)) (PrR h a f n k Q T s b)) := by
  obtain ⟨hka, rq, kq⟩ := hX.q
  refine Call.of (ls := [(0, vr (some a)), (1, vi b)]) vX12_readPredicate.1 (Nat.le_of_ble_eq_true rfl) rfl ?_
  refine aw_aload_n dX12_readPredicate_0 rfl ?_
  refine aw_getr' (j := 12) dX12_readPredicate_1 fX12_28 rfl (by assumption) rfl (by assumption) ?_
  refine aw_iload_n dX12_readPredicate_4 rfl ?_
  refine aw_iconst dX12_readPredicate_5 ?_
  refine aw_iast dX12_readPredicate_6 (by assumption) (by omega) (by first | decide | omega) ?_
  refine aw_iconst dX12_readPredicate_7 ?_
  refine aw_istore_n (ls1 := [(2, _), (0, _), (1, _)]) dX12_readPredicate_8 (by decide) rfl ?_
  refine aw_sub [0, 1, 2] rfl ?_
  exact l_rpr hX hb 2 [] k _ (by simp) ⟨eqG.si (Or.inr ⟨rfl, by omega, by omega⟩), (gi_ne (Or.inl (by omega))).trans hk, gi_at rfl rfl, fun i c hi => by simp at hi, fun c hc => absurd hc (by simp), by simp, hkn, Rc.rf hkn⟩
