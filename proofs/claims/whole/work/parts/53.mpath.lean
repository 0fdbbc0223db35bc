/-! ===== the model: readPath, readAll ===== -/
def PaR (h : AH) (a : Nat) (f : Nat → Nat) (n k : Nat) (Q : TQ) (b : Int) (h' : AH) : Prop := eqG (SR a b (b + 1634)) h h' ∧ ∃ (k' : Nat) (T : TT) (s : TS), Rc f n k (0, 0, Q, (false, []), s0, k0) k' (4, 0, Q, T, s, k0) ∧ gi h' a 11 = (k' : Int) ∧ PT h' a b (T.1, T.2 ++ [s]) ∧ hr9 f n k' ≠ 91 ∧ hr9 f n k' ≠ 47
theorem acc_447 {Q : TQ} {T : TT} {s : TS} : acc 47 (4, 0, Q, T, s, k0) = some (1, 0, Q, (T.1, T.2 ++ [s]), s0, k0) := rfl
theorem l_rpa {γ : GG} {h : AH} {a k n : Nat} {f : Nat → Nat} {Q : TQ} {b : Int} (hX : isX h a f n) (hb : 1 ≤ b ∧ b + 1634 ≤ 6537) : ∀ (m k1 : Nat) (T : TT) (s : TS) (H : AH), n ≤ k1 + m → eqG (SR a b (b + 1634)) h H → gi H a 11 = k1 → k1 ≤ n → PT H a b (T.1, T.2 ++ [s]) → hr9 f n k1 ≠ 91 → Rc f n k (0, 0, Q, (false, []), s0, k0) k1 (4, 0, Q, T, s, k0) → AW γ mX12_readPath 8 0 0 60 [(2, vi 1), (0, vr (some a)), (1, vi b)] [] H (rB (nrd h a f n k (0, 0, Q, (false, []), s0, k0) b (b + 1634)) (PaR h a f n k Q b)) := by
  intro m
  induction m with
  | zero =>
    intro k1 T s H hm E0 hk hk1n hT n91 r0
    have hX1 := hX.eq E0
    obtain ⟨hka, rq, kq⟩ := hX1.q
    have q47 : hr9 f n k1 ≠ 47 := by unfold hr9; rw [if_neg (by omega)]; decide
    have KT := m_takes0 (γ := γ) (c := 47) hX1 hk hk1n (by decide) q47
    refine aw_iload_n dX12_readPath_60 rfl ?_
    refine aw_if_eq (tgt := 98) dX12_readPath_61 rfl (by omega) (fun c61 => ?_) (fun c61 => ?_)
    · exact absurd c61 (by omega)
    · refine aw_aload_n dX12_readPath_64 rfl ?_
      refine aw_bipush dX12_readPath_65 rfl ?_
      refine aw_invV_r dX12_readPath_67 vX12_takes kX12_147 rfl (KT) ⟨_, (by assumption), _, _, rfl⟩ rfl rfl (by decide) (by decide) (by decide) (Nat.le_of_ble_eq_true rfl) ?_
      refine aw_if_eq (tgt := 98) dX12_readPath_70 rfl (by omega) (fun c70 => ?_) (fun c70 => ?_)
      · refine aw_iload_n dX12_readPath_98 rfl ?_
        exact aw_zreturn dX12_readPath_99 rfl (by omega) (Or.inl rfl) (Or.inr ⟨rfl, E0, k1, T, s, r0, hk, hT, n91, q47⟩)
      · exact absurd c70 (by omega)
  | succ m ih =>
    intro k1 T s H hm E0 hk hk1n hT n91 r0
    have hX1 := hX.eq E0
    obtain ⟨hka, rq, kq⟩ := hX1.q
    by_cases q47 : hr9 f n k1 = 47
    · obtain ⟨l47, c47⟩ := hr9_lt (c := 47) q47
      have KT := m_takes1 (γ := γ) (c := 47) hX1 hk hk1n (by decide) q47
      have r1 := r0.tr (Rc.one (f := f) l47 (show acc (f k1) (4, 0, Q, T, s, k0) = some (1, 0, Q, (T.1, T.2 ++ [s]), s0, k0) by rw [c47, acc_447]))
      have E1 : eqG (SR a b (b + 1634)) h (si H a 11 ((k1 : Int) + 1)) := E0.tr (eqG.si SR_at)
      have KS := m_readSlash (γ := γ) (k := k1 + 1) (Q := Q) (T := (T.1, T.2 ++ [s])) (b := b) (hX.eq E1) ((gi_at rfl rfl).trans (by omega)) (by omega) hb (PT_a7 hT)
      refine aw_iload_n dX12_readPath_60 rfl ?_
      refine aw_if_eq (tgt := 98) dX12_readPath_61 rfl (by omega) (fun c61 => ?_) (fun c61 => ?_)
      · exact absurd c61 (by omega)
      · refine aw_aload_n dX12_readPath_64 rfl ?_
        refine aw_bipush dX12_readPath_65 rfl ?_
        refine aw_invV_r dX12_readPath_67 vX12_takes kX12_147 rfl (KT) ⟨_, (by assumption), _, _, rfl⟩ rfl rfl (by decide) (by decide) (by decide) (Nat.le_of_ble_eq_true rfl) ?_
        refine aw_if_eq (tgt := 98) dX12_readPath_70 rfl (by omega) (fun c70 => ?_) (fun c70 => ?_)
        · exact absurd c70 (by omega)
        · refine aw_aload_n dX12_readPath_73 rfl ?_
          refine aw_iload_n dX12_readPath_74 rfl ?_
          refine aw_invV_2 dX12_readPath_75 vX12_readSlash kX12_174 rfl (KS) ⟨_, (by assumption), _, _, rfl⟩ rfl rfl (by decide) (by decide) (by decide) (Nat.le_of_ble_eq_true rfl) (fun h2 hP9 => ?_) (fun h2 hP9 => ?_)
          · obtain ⟨E2, k2, z2, r2, sk2, A2⟩ := hP9
            refine aw_if_eq (tgt := 93) dX12_readPath_78 rfl (by omega) (fun c78 => ?_) (fun c78 => ?_)
            · refine aw_iconst dX12_readPath_93 ?_
              refine aw_istore_n (ls1 := [(2, _), (0, _), (1, _)]) dX12_readPath_94 (by decide) rfl ?_
              refine aw_goto (tgt := 60) dX12_readPath_95 rfl ?_
              refine aw_iload_n dX12_readPath_60 rfl ?_
              refine aw_if_eq (tgt := 98) dX12_readPath_61 rfl (by omega) (fun c61 => ?_) (fun c61 => ?_)
              · refine aw_iload_n dX12_readPath_98 rfl ?_
                exact aw_zreturn dX12_readPath_99 rfl (by omega) (Or.inl rfl) (Or.inl ⟨rfl, E1.tr (E2.mono (SR.mono (by omega) (by omega))), k2, z2, r1.tr r2, sk2, A2⟩)
              · exact absurd c61 (by omega)
            · exact absurd c78 (by omega)
          · obtain ⟨E2, k2, st, T2, r2, A2, hst, P2⟩ := hP9
            have hka1 := (E2.1 a).trans hka
            have E3 := E1.tr (E2.mono (SR.mono (by omega) (by omega)))
            have le2 := r2.le
            have KR := m_readStep (γ := γ) (k := k2) (ax := 0) (Q := Q) (T := (T.1, T2)) (s := s0) (kz := k0) (b := b) (hX.eq E3) A2 le2.2 hb P2 hst
            refine aw_if_eq (tgt := 93) dX12_readPath_78 rfl (by omega) (fun c78 => ?_) (fun c78 => ?_)
            · exact absurd c78 (by omega)
            · refine aw_aload_n dX12_readPath_81 rfl ?_
              refine aw_iload_n dX12_readPath_82 rfl ?_
              refine aw_invV_2 dX12_readPath_83 vX12_readStep kX12_177 rfl (KR) ⟨_, hka1, _, _, rfl⟩ rfl rfl (by decide) (by decide) (by decide) (Nat.le_of_ble_eq_true rfl) (fun h3 hP9 => ?_) (fun h3 hP9 => ?_)
              · obtain ⟨E4, k3, z3, r3, sk3, A3⟩ := hP9
                refine aw_if_eq (tgt := 93) dX12_readPath_86 rfl (by omega) (fun c86 => ?_) (fun c86 => ?_)
                · refine aw_iconst dX12_readPath_93 ?_
                  refine aw_istore_n (ls1 := [(2, _), (0, _), (1, _)]) dX12_readPath_94 (by decide) rfl ?_
                  refine aw_goto (tgt := 60) dX12_readPath_95 rfl ?_
                  refine aw_iload_n dX12_readPath_60 rfl ?_
                  refine aw_if_eq (tgt := 98) dX12_readPath_61 rfl (by omega) (fun c61 => ?_) (fun c61 => ?_)
                  · refine aw_iload_n dX12_readPath_98 rfl ?_
                    exact aw_zreturn dX12_readPath_99 rfl (by omega) (Or.inl rfl) (Or.inl ⟨rfl, E3.tr (E4.mono (SR.mono (by omega) (by omega))), k3, z3, (r1.tr r2).tr r3, sk3, A3⟩)
                  · exact absurd c61 (by omega)
                · exact absurd c86 (by omega)
              · obtain ⟨E4, k3, s3, r3, A3, os3, l3, P3, n3⟩ := hP9
                refine aw_if_eq (tgt := 93) dX12_readPath_86 rfl (by omega) (fun c86 => ?_) (fun c86 => ?_)
                · exact absurd c86 (by omega)
                · refine aw_iconst dX12_readPath_89 ?_
                  refine aw_goto (tgt := 94) dX12_readPath_90 rfl ?_
                  refine aw_istore_n (ls1 := [(2, _), (0, _), (1, _)]) dX12_readPath_94 (by decide) rfl ?_
                  refine aw_goto (tgt := 60) dX12_readPath_95 rfl ?_
                  have le3 := r3.le
                  refine aw_sub [0, 1, 2] rfl ?_
                  exact ih k3 (T.1, T2) s3 h3 (by omega) (E3.tr (E4.mono (SR.mono (by omega) (by omega)))) A3 le3.2 P3 n3 ((r1.tr r2).tr r3)
    · have KT := m_takes0 (γ := γ) (c := 47) hX1 hk hk1n (by decide) q47
      refine aw_iload_n dX12_readPath_60 rfl ?_
      refine aw_if_eq (tgt := 98) dX12_readPath_61 rfl (by omega) (fun c61 => ?_) (fun c61 => ?_)
      · exact absurd c61 (by omega)
      · refine aw_aload_n dX12_readPath_64 rfl ?_
        refine aw_bipush dX12_readPath_65 rfl ?_
        refine aw_invV_r dX12_readPath_67 vX12_takes kX12_147 rfl (KT) ⟨_, (by assumption), _, _, rfl⟩ rfl rfl (by decide) (by decide) (by decide) (Nat.le_of_ble_eq_true rfl) ?_
        refine aw_if_eq (tgt := 98) dX12_readPath_70 rfl (by omega) (fun c70 => ?_) (fun c70 => ?_)
        · refine aw_iload_n dX12_readPath_98 rfl ?_
          exact aw_zreturn dX12_readPath_99 rfl (by omega) (Or.inl rfl) (Or.inr ⟨rfl, E0, k1, T, s, r0, hk, hT, n91, q47⟩)
        · exact absurd c70 (by omega)
theorem m_readPath {γ : GG} {h : AH} {a k n : Nat} {f : Nat → Nat} {Q : TQ} {b : Int} (hX : isX h a f n) (hk : gi h a 11 = k) (hkn : k ≤ n) (hb : 1 ≤ b ∧ b + 1634 ≤ 6537) : Call γ mX12_readPath 8 0 0 [vr (some a), vi b] h (rB (nrd h a f n k (0, 0, Q, (false, []), s0, k0) b (b + 1634)) (PaR h a f n k Q b)) := by
  obtain ⟨hka, rq, kq⟩ := hX.q
  have E0 : eqG (SR a b (b + 1634)) h (si h (a + 7) (b + 1) 0) := eqG.si (Or.inr ⟨rfl, by omega, by omega⟩)
  have hX1 := hX.eq E0
  have hk1 : gi (si h (a + 7) (b + 1) 0) a 11 = k := (gi_ne (Or.inl (by omega))).trans hk
  by_cases q47 : hr9 f n k = 47
  · obtain ⟨l47, c47⟩ := hr9_lt (c := 47) q47
    have KT := m_takes1 (γ := γ) (c := 47) hX1 hk1 hkn (by decide) q47
    have r1 := Rc.one (f := f) l47 (show acc (f k) (0, 0, Q, (false, []), s0, k0) = some (1, 0, Q, (true, []), s0, k0) by rw [c47]; rfl)
    have E1 : eqG (SR a b (b + 1634)) h (si (si (si h (a + 7) (b + 1) 0) a 11 ((k : Int) + 1)) (a + 7) b 1) := (E0.tr (eqG.si SR_at)).tr (eqG.si (Or.inr ⟨rfl, by omega, by omega⟩))
    have P1 : PT (si (si (si h (a + 7) (b + 1) 0) a 11 ((k : Int) + 1)) (a + 7) b 1) a b (true, []) := ⟨⟨gi_at rfl rfl, (gi_ne (Or.inr (by omega))).trans ((gi_ne (Or.inl (by omega))).trans ((gi_at rfl rfl).trans (by simp))), fun i s hi => by simp at hi⟩, by simp, fun s hs => absurd hs (by simp)⟩
    have KS := m_readSlash (γ := γ) (k := k + 1) (Q := Q) (T := (true, [])) (b := b) (hX.eq E1) ((gi_ne (Or.inl (by omega))).trans ((gi_at rfl rfl).trans (by omega))) (by omega) hb P1
    refine Call.of (ls := [(0, vr (some a)), (1, vi b)]) vX12_readPath.1 (Nat.le_of_ble_eq_true rfl) rfl ?_
    refine aw_aload_n dX12_readPath_0 rfl ?_
    refine aw_getr' (j := 12) dX12_readPath_1 fX12_28 rfl (by assumption) rfl (by assumption) ?_
    refine aw_iload_n dX12_readPath_4 rfl ?_
    refine aw_iconst dX12_readPath_5 ?_
    refine aw_iadd dX12_readPath_6 ?_
    refine aw_iconst dX12_readPath_7 ?_
    refine aw_iast dX12_readPath_8 (by assumption) (by omega) (by first | decide | omega) ?_
    refine aw_aload_n dX12_readPath_9 rfl ?_
    refine aw_getr' (j := 12) dX12_readPath_10 fX12_28 rfl (by assumption) rfl (by assumption) ?_
    refine aw_iload_n dX12_readPath_13 rfl ?_
    refine aw_aload_n dX12_readPath_14 rfl ?_
    refine aw_bipush dX12_readPath_15 rfl ?_
    refine aw_invV_r dX12_readPath_17 vX12_takes kX12_147 rfl (KT) ⟨_, (by assumption), _, _, rfl⟩ rfl rfl (by decide) (by decide) (by decide) (Nat.le_of_ble_eq_true rfl) ?_
    refine aw_if_eq (tgt := 27) dX12_readPath_20 rfl (by omega) (fun c20 => ?_) (fun c20 => ?_)
    · exact absurd c20 (by omega)
    · refine aw_iconst dX12_readPath_23 ?_
      refine aw_goto (tgt := 28) dX12_readPath_24 rfl ?_
      refine aw_iast dX12_readPath_28 (by assumption) (by omega) (by first | decide | omega) ?_
      refine aw_aload_n dX12_readPath_29 rfl ?_
      refine aw_getr' (j := 12) dX12_readPath_30 fX12_28 rfl (by assumption) rfl (by assumption) ?_
      refine aw_iload_n dX12_readPath_33 rfl ?_
      refine aw_iald' dX12_readPath_34 (by assumption) (by omega) (by first | decide | omega) (gi_at rfl rfl) ?_
      refine aw_if_eq (tgt := 46) dX12_readPath_35 rfl (by omega) (fun c35 => ?_) (fun c35 => ?_)
      · exact absurd c35 (by omega)
      · refine aw_aload_n dX12_readPath_38 rfl ?_
        refine aw_iload_n dX12_readPath_39 rfl ?_
        refine aw_invV_2 dX12_readPath_40 vX12_readSlash kX12_174 rfl (KS) ⟨_, (by assumption), _, _, rfl⟩ rfl rfl (by decide) (by decide) (by decide) (Nat.le_of_ble_eq_true rfl) (fun h2 hP9 => ?_) (fun h2 hP9 => ?_)
        · obtain ⟨E2, k2, z2, r2, sk2, A2⟩ := hP9
          refine aw_if_eq (tgt := 58) dX12_readPath_43 rfl (by omega) (fun c43 => ?_) (fun c43 => ?_)
          · refine aw_iconst dX12_readPath_58 ?_
            refine aw_istore_n (ls1 := [(2, _), (0, _), (1, _)]) dX12_readPath_59 (by decide) rfl ?_
            refine aw_iload_n dX12_readPath_60 rfl ?_
            refine aw_if_eq (tgt := 98) dX12_readPath_61 rfl (by omega) (fun c61 => ?_) (fun c61 => ?_)
            · refine aw_iload_n dX12_readPath_98 rfl ?_
              exact aw_zreturn dX12_readPath_99 rfl (by omega) (Or.inl rfl) (Or.inl ⟨rfl, E1.tr (E2.mono (SR.mono (by omega) (by omega))), k2, z2, r1.tr r2, sk2, A2⟩)
            · exact absurd c61 (by omega)
          · exact absurd c43 (by omega)
        · obtain ⟨E2, k2, st, T2, r2, A2, hst, P2⟩ := hP9
          have hka1 := (E2.1 a).trans hka
          have E3 := E1.tr (E2.mono (SR.mono (by omega) (by omega)))
          have le2 := r2.le
          have KR := m_readStep (γ := γ) (k := k2) (ax := 0) (Q := Q) (T := (true, T2)) (s := s0) (kz := k0) (b := b) (hX.eq E3) A2 le2.2 hb P2 hst
          refine aw_if_eq (tgt := 58) dX12_readPath_43 rfl (by omega) (fun c43 => ?_) (fun c43 => ?_)
          · exact absurd c43 (by omega)
          · refine aw_aload_n dX12_readPath_46 rfl ?_
            refine aw_iload_n dX12_readPath_47 rfl ?_
            refine aw_invV_2 dX12_readPath_48 vX12_readStep kX12_177 rfl (KR) ⟨_, hka1, _, _, rfl⟩ rfl rfl (by decide) (by decide) (by decide) (Nat.le_of_ble_eq_true rfl) (fun h3 hP9 => ?_) (fun h3 hP9 => ?_)
            · obtain ⟨E4, k3, z3, r3, sk3, A3⟩ := hP9
              refine aw_if_eq (tgt := 58) dX12_readPath_51 rfl (by omega) (fun c51 => ?_) (fun c51 => ?_)
              · refine aw_iconst dX12_readPath_58 ?_
                refine aw_istore_n (ls1 := [(2, _), (0, _), (1, _)]) dX12_readPath_59 (by decide) rfl ?_
                refine aw_iload_n dX12_readPath_60 rfl ?_
                refine aw_if_eq (tgt := 98) dX12_readPath_61 rfl (by omega) (fun c61 => ?_) (fun c61 => ?_)
                · refine aw_iload_n dX12_readPath_98 rfl ?_
                  exact aw_zreturn dX12_readPath_99 rfl (by omega) (Or.inl rfl) (Or.inl ⟨rfl, E3.tr (E4.mono (SR.mono (by omega) (by omega))), k3, z3, (r1.tr r2).tr r3, sk3, A3⟩)
                · exact absurd c61 (by omega)
              · exact absurd c51 (by omega)
            · obtain ⟨E4, k3, s3, r3, A3, os3, l3, P3, n3⟩ := hP9
              refine aw_if_eq (tgt := 58) dX12_readPath_51 rfl (by omega) (fun c51 => ?_) (fun c51 => ?_)
              · exact absurd c51 (by omega)
              · refine aw_iconst dX12_readPath_54 ?_
                refine aw_goto (tgt := 59) dX12_readPath_55 rfl ?_
                refine aw_istore_n (ls1 := [(2, _), (0, _), (1, _)]) dX12_readPath_59 (by decide) rfl ?_
                have le3 := r3.le
                refine aw_sub [0, 1, 2] rfl ?_
                exact l_rpa hX hb n k3 (true, T2) s3 h3 (by omega) (E3.tr (E4.mono (SR.mono (by omega) (by omega)))) A3 le3.2 P3 n3 ((r1.tr r2).tr r3)
  · have KT := m_takes0 (γ := γ) (c := 47) hX1 hk1 hkn (by decide) q47
    have E1 : eqG (SR a b (b + 1634)) h (si (si h (a + 7) (b + 1) 0) (a + 7) b 0) := E0.tr (eqG.si (Or.inr ⟨rfl, by omega, by omega⟩))
    have P1 : PT (si (si h (a + 7) (b + 1) 0) (a + 7) b 0) a b (false, []) := ⟨⟨gi_at rfl rfl, (gi_ne (Or.inr (by omega))).trans ((gi_at rfl rfl).trans (by simp)), fun i s hi => by simp at hi⟩, by simp, fun s hs => absurd hs (by simp)⟩
    have KR := m_readStep (γ := γ) (st := 0) (k := k) (ax := 0) (Q := Q) (T := (false, [])) (s := s0) (kz := k0) (b := b) (hX.eq E1) ((gi_ne (Or.inl (by omega))).trans hk1) hkn hb P1 (Or.inr ⟨by omega, q47⟩)
    refine Call.of (ls := [(0, vr (some a)), (1, vi b)]) vX12_readPath.1 (Nat.le_of_ble_eq_true rfl) rfl ?_
    refine aw_aload_n dX12_readPath_0 rfl ?_
    refine aw_getr' (j := 12) dX12_readPath_1 fX12_28 rfl (by assumption) rfl (by assumption) ?_
    refine aw_iload_n dX12_readPath_4 rfl ?_
    refine aw_iconst dX12_readPath_5 ?_
    refine aw_iadd dX12_readPath_6 ?_
    refine aw_iconst dX12_readPath_7 ?_
    refine aw_iast dX12_readPath_8 (by assumption) (by omega) (by first | decide | omega) ?_
    refine aw_aload_n dX12_readPath_9 rfl ?_
    refine aw_getr' (j := 12) dX12_readPath_10 fX12_28 rfl (by assumption) rfl (by assumption) ?_
    refine aw_iload_n dX12_readPath_13 rfl ?_
    refine aw_aload_n dX12_readPath_14 rfl ?_
    refine aw_bipush dX12_readPath_15 rfl ?_
    refine aw_invV_r dX12_readPath_17 vX12_takes kX12_147 rfl (KT) ⟨_, (by assumption), _, _, rfl⟩ rfl rfl (by decide) (by decide) (by decide) (Nat.le_of_ble_eq_true rfl) ?_
    refine aw_if_eq (tgt := 27) dX12_readPath_20 rfl (by omega) (fun c20 => ?_) (fun c20 => ?_)
    · refine aw_iconst dX12_readPath_27 ?_
      refine aw_iast dX12_readPath_28 (by assumption) (by omega) (by first | decide | omega) ?_
      refine aw_aload_n dX12_readPath_29 rfl ?_
      refine aw_getr' (j := 12) dX12_readPath_30 fX12_28 rfl (by assumption) rfl (by assumption) ?_
      refine aw_iload_n dX12_readPath_33 rfl ?_
      refine aw_iald' dX12_readPath_34 (by assumption) (by omega) (by first | decide | omega) (gi_at rfl rfl) ?_
      refine aw_if_eq (tgt := 46) dX12_readPath_35 rfl (by omega) (fun c35 => ?_) (fun c35 => ?_)
      · refine aw_aload_n dX12_readPath_46 rfl ?_
        refine aw_iload_n dX12_readPath_47 rfl ?_
        refine aw_invV_2 dX12_readPath_48 vX12_readStep kX12_177 rfl (KR) ⟨_, (by assumption), _, _, rfl⟩ rfl rfl (by decide) (by decide) (by decide) (Nat.le_of_ble_eq_true rfl) (fun h3 hP9 => ?_) (fun h3 hP9 => ?_)
        · obtain ⟨E4, k3, z3, r3, sk3, A3⟩ := hP9
          refine aw_if_eq (tgt := 58) dX12_readPath_51 rfl (by omega) (fun c51 => ?_) (fun c51 => ?_)
          · refine aw_iconst dX12_readPath_58 ?_
            refine aw_istore_n (ls1 := [(2, _), (0, _), (1, _)]) dX12_readPath_59 (by decide) rfl ?_
            refine aw_iload_n dX12_readPath_60 rfl ?_
            refine aw_if_eq (tgt := 98) dX12_readPath_61 rfl (by omega) (fun c61 => ?_) (fun c61 => ?_)
            · refine aw_iload_n dX12_readPath_98 rfl ?_
              exact aw_zreturn dX12_readPath_99 rfl (by omega) (Or.inl rfl) (Or.inl ⟨rfl, E1.tr (E4.mono (SR.mono (by omega) (by omega))), k3, z3, r3, sk3, A3⟩)
            · exact absurd c61 (by omega)
          · exact absurd c51 (by omega)
        · obtain ⟨E4, k3, s3, r3, A3, os3, l3, P3, n3⟩ := hP9
          refine aw_if_eq (tgt := 58) dX12_readPath_51 rfl (by omega) (fun c51 => ?_) (fun c51 => ?_)
          · exact absurd c51 (by omega)
          · refine aw_iconst dX12_readPath_54 ?_
            refine aw_goto (tgt := 59) dX12_readPath_55 rfl ?_
            refine aw_istore_n (ls1 := [(2, _), (0, _), (1, _)]) dX12_readPath_59 (by decide) rfl ?_
            have le3 := r3.le
            refine aw_sub [0, 1, 2] rfl ?_
            exact l_rpa hX hb n k3 (false, []) s3 h3 (by omega) (E1.tr (E4.mono (SR.mono (by omega) (by omega)))) A3 le3.2 P3 n3 r3
      · exact absurd c35 (by omega)
    · exact absurd c20 (by omega)
def QI (h : AH) (a : Nat) (f : Nat → Nat) (n : Nat) (Q : TQ) (k1 : Nat) (H : AH) : Prop := eqG (SR a 0 6537) h H ∧ gi H a 11 = (k1 : Int) ∧ gQ (gi H (a + 7)) Q ∧ (∀ t ∈ Q, okW t) ∧ Q.length ≤ 3 ∧ k1 ≤ n ∧ Rc f n 0 z0 k1 (0, 0, Q, (false, []), s0, k0)
/-- read, or the place of the fault -/
def QR (h : AH) (a : Nat) (f : Nat → Nat) (n : Nat) (h' : AH) : Prop := eqG (SR a 0 6537) h h' ∧ ((flt f n 0 z0).1 = -1 → gQ (gi h' (a + 7)) (zQ (flt f n 0 z0).2) ∧ okQ (zQ (flt f n 0 z0).2) ∧ 1 ≤ (zQ (flt f n 0 z0).2).length ∧ gi h' a 11 = (n : Int)) ∧ ((flt f n 0 z0).1 ≠ -1 → gi h' a 11 = (flt f n 0 z0).1)
def vQ (f : Nat → Nat) (n : Nat) : Int := if (flt f n 0 z0).1 = -1 then 1 else 0
theorem QR_no {h h' : AH} {a : Nat} {f : Nat → Nat} {n k : Nat} {z : PS} (e : eqG (SR a 0 6537) h h') (r : Rc f n 0 z0 k z) (s : stk f n k z) (hk : gi h' a 11 = (k : Int)) : (0 : Int) = vQ f n ∧ QR h a f n h' := by
  have e1 := flt_Rc r
  rw [flt_stk s, Nat.sub_zero] at e1
  unfold vQ QR
  rw [e1]
  exact ⟨by rw [if_neg (by dsimp only; omega)], e, fun q => absurd q (by dsimp only; omega), fun _ => hk⟩
theorem QR_yes {h h' : AH} {a : Nat} {f : Nat → Nat} {n : Nat} {z : PS} (e : eqG (SR a 0 6537) h h') (r : Rc f n 0 z0 n z) (hz : z.1 = 4) (hq : gQ (gi h' (a + 7)) (zQ z)) (hf : ∀ k, f k < 128) (hk : gi h' a 11 = (n : Int)) : (1 : Int) = vQ f n ∧ QR h a f n h' := by
  have e1 := flt_Rc r
  have e2 : flt f (n - n) n z = (-1, z) := by rw [Nat.sub_self]; simp only [flt]; rw [if_pos hz]
  rw [e2, Nat.sub_zero] at e1
  have ok := flt_ok hf n 0 z0 okZ_z0
  unfold vQ QR
  rw [e1] at ok ⊢
  exact ⟨by rw [if_pos rfl], e, fun _ => ⟨hq, ok rfl, by simp [zQ], hk⟩, fun q => absurd rfl q⟩
theorem acc_4124 {Q : TQ} {T : TT} {s : TS} : acc 124 (4, 0, Q, T, s, k0) = if Q.length < 3 then some (0, 0, Q ++ [(T.1, T.2 ++ [s])], (false, []), s0, k0) else none := by
  show (if (124 : Nat) = 47 then some (1, 0, Q, (T.1, T.2 ++ [s]), s0, k0) else if (124 : Nat) = 91 ∧ s.2.length < 3 then some (5, 0, Q, T, s, k0) else if (124 : Nat) = 124 ∧ Q.length < 3 then some (0, 0, Q ++ [(T.1, T.2 ++ [s])], (false, []), s0, k0) else none) = _
  rw [if_neg (by decide), if_neg (fun g => absurd g.1 (by decide))]
  by_cases q : Q.length < 3
  · rw [if_pos ⟨rfl, q⟩, if_pos q]
  · rw [if_neg (fun g => q g.2), if_neg q]
theorem acc_4no {ch : Nat} {Q : TQ} {T : TT} {s : TS} (h1 : ch ≠ 47) (h2 : ch ≠ 91) (h3 : ch ≠ 124) : acc ch (4, 0, Q, T, s, k0) = none := by
  show (if ch = 47 then some (1, 0, Q, (T.1, T.2 ++ [s]), s0, k0) else if ch = 91 ∧ s.2.length < 3 then some (5, 0, Q, T, s, k0) else if ch = 124 ∧ Q.length < 3 then some (0, 0, Q ++ [(T.1, T.2 ++ [s])], (false, []), s0, k0) else none) = _
  rw [if_neg h1, if_neg (fun g => h2 g.1), if_neg (fun g => h3 g.1)]
theorem s_rall {γ : GG} {h : AH} {a n : Nat} {f : Nat → Nat} {Q : TQ} {H : AH} {k1 : Nat} (hX : isX h a f n) (hI : QI h a f n Q k1 H) (kk : ∀ (t : TT) (k' : Nat) (H' : AH), QI h a f n (Q ++ [t]) k' H' → AW γ mX12_readAll 9 0 0 14 [(1, vi 1), (0, vr (some a))] [] H' (rE (vi (vQ f n)) (QR h a f n))) : AW γ mX12_readAll 9 0 0 14 [(1, vi 1), (0, vr (some a))] [] H (rE (vi (vQ f n)) (QR h a f n)) := by
  obtain ⟨E0, hk, hq, hok, hl, hk1n, r0⟩ := hI
  have hX1 := hX.eq E0
  have hf := hX.2.2.2.2
  have hn4 := hX.2.2.1
  obtain ⟨hka, rq, kq⟩ := hX1.q
  have hq0 := hq.1
  have KC := m_pathAt (γ := γ) (h := H) (k := (Q.length : Int))
  have KP := m_readPath (γ := γ) (k := k1) (Q := Q) (b := 1 + 1634 * (Q.length : Int)) hX1 hk hk1n (by omega)
  refine aw_iload_n dX12_readAll_14 rfl ?_
  refine aw_if_eq (tgt := 98) dX12_readAll_15 rfl (by omega) (fun c15 => ?_) (fun c15 => ?_)
  · exact absurd c15 (by omega)
  · refine aw_aload_n dX12_readAll_18 rfl ?_
    refine aw_aload_n dX12_readAll_19 rfl ?_
    refine aw_getr' (j := 12) dX12_readAll_20 fX12_28 rfl (by assumption) rfl (by assumption) ?_
    refine aw_iconst dX12_readAll_23 ?_
    refine aw_iald' dX12_readAll_24 (by assumption) (by omega) (by first | decide | omega) hq0 ?_
    refine aw_invS_r dX12_readAll_25 sX12_pathAt kX12_180 rfl (KC) rfl rfl (by decide) (by decide) (by decide) (Nat.le_of_ble_eq_true rfl) ?_
    refine aw_invV_2 dX12_readAll_28 vX12_readPath kX12_183 rfl (KP) ⟨_, (by assumption), _, _, rfl⟩ rfl rfl (by decide) (by decide) (by decide) (Nat.le_of_ble_eq_true rfl) (fun h1 hP9 => ?_) (fun h1 hP9 => ?_)
    · obtain ⟨E1, k2, z2, r2, sk2, A2⟩ := hP9
      refine aw_if_ne (tgt := 36) dX12_readAll_31 rfl (by omega) (fun c31 => ?_) (fun c31 => ?_)
      · exact absurd c31 (by omega)
      · obtain ⟨v1, v2⟩ := QR_no (E0.tr (E1.mono (SR.mono (by omega) (by omega)))) (r0.tr r2) sk2 A2
        rw [← v1]
        refine aw_iconst dX12_readAll_34 ?_
        exact aw_zreturn dX12_readAll_35 rfl (by omega) (Or.inl rfl) ⟨rfl, v2⟩
    · obtain ⟨E1, k2, T, s, r2, A2, P2, n91, n47⟩ := hP9
      have hka1 := (E1.1 a).trans hka
      have rq1 := (E1.2.1 a 12).trans rq
      have kq1 := (E1.1 (a + 7)).trans kq
      have d2 : gi h1 (a + 7) 0 = (Q.length : Int) := (E1.2.2.2.2 _ _ (by unfold SR; omega)).trans hq.1
      have E3 : eqG (SR a 0 6537) h (si h1 (a + 7) 0 ((Q.length : Int) + 1)) := (E0.tr (E1.mono (SR.mono (by omega) (by omega)))).tr (eqG.si (Or.inr ⟨rfl, by omega, by omega⟩))
      have le2 := r2.le
      have r3 := r0.tr r2
      have okl : ∀ t ∈ Q ++ [(T.1, T.2 ++ [s])], okW t := mem_snoc hok ⟨by simp, P2.2.1, P2.2.2⟩
      have el : (Q ++ [(T.1, T.2 ++ [s])]).length = Q.length + 1 := by simp
      have q3 : gQ (gi (si h1 (a + 7) 0 ((Q.length : Int) + 1)) (a + 7)) (Q ++ [(T.1, T.2 ++ [s])]) := by
        refine ⟨(gi_at rfl rfl).trans (by rw [el]; omega), fun i t hi => ?_⟩
        have ot := okl t (List.mem_of_getElem? hi)
        refine gT.eq (f := gi h1 (a + 7)) (b := 1 + 1634 * i) ot.2.1 ot.2.2 ?_ (fun j j1 j2 => gi_ne (Or.inr (by omega)))
        rcases get_snoc hi with ⟨g1, g2⟩ | ⟨g1, g2⟩
        · exact (hq.2 i t g2).eq ot.2.1 ot.2.2 (fun j j1 j2 => E1.2.2.2.2 _ _ (by unfold SR; omega))
        · subst g1 g2
          exact P2.1
      have A3 : gi (si h1 (a + 7) 0 ((Q.length : Int) + 1)) a 11 = (k2 : Int) := (gi_ne (Or.inl (by omega))).trans A2
      have hX3 := hX.eq E3
      have KH := m_hereX (γ := γ) hX3 A3 le2.2
      have bd := hr9_bd hf n k2
      by_cases q124 : hr9 f n k2 = 124
      · obtain ⟨l124, c124⟩ := hr9_lt (c := 124) q124
        by_cases q39 : Q.length = 3
        · obtain ⟨v1, v2⟩ := QR_no E3 r3 (Or.inl ⟨l124, by rw [c124, acc_4124, if_neg (by omega)]⟩) A3
          rw [← v1]
          refine aw_if_ne (tgt := 36) dX12_readAll_31 rfl (by omega) (fun c31 => ?_) (fun c31 => ?_)
          · refine aw_aload_n dX12_readAll_36 rfl ?_
            refine aw_getr' (j := 12) dX12_readAll_37 fX12_28 rfl (by assumption) rfl (by assumption) ?_
            refine aw_iconst dX12_readAll_40 ?_
            refine aw_dup2 dX12_readAll_41 rfl rfl ?_
            refine aw_iald' dX12_readAll_42 (by assumption) (by omega) (by first | decide | omega) d2 ?_
            refine aw_iconst dX12_readAll_43 ?_
            refine aw_iadd dX12_readAll_44 ?_
            refine aw_iast dX12_readAll_45 (by assumption) (by omega) (by first | decide | omega) ?_
            refine aw_aload_n dX12_readAll_46 rfl ?_
            refine aw_invV_r dX12_readAll_47 vX12_here kX12_137 rfl (KH) ⟨_, (by assumption), _, _, rfl⟩ rfl rfl (by decide) (by decide) (by decide) (Nat.le_of_ble_eq_true rfl) ?_
            refine aw_bipush dX12_readAll_50 rfl ?_
            refine aw_ic_ne (tgt := 59) dX12_readAll_52 rfl (by omega) (by omega) (fun c52 => ?_) (fun c52 => ?_)
            · exact absurd c52 (by omega)
            · refine aw_iconst dX12_readAll_55 ?_
              refine aw_goto (tgt := 60) dX12_readAll_56 rfl ?_
              refine aw_istore_n (ls1 := [(1, _), (0, _)]) dX12_readAll_60 (by decide) rfl ?_
              refine aw_iload_n dX12_readAll_61 rfl ?_
              refine aw_if_eq (tgt := 77) dX12_readAll_62 rfl (by omega) (fun c62 => ?_) (fun c62 => ?_)
              · exact absurd c62 (by omega)
              · refine aw_aload_n dX12_readAll_65 rfl ?_
                refine aw_getr' (j := 12) dX12_readAll_66 fX12_28 rfl (by assumption) rfl (by assumption) ?_
                refine aw_iconst dX12_readAll_69 ?_
                refine aw_iald' dX12_readAll_70 (by assumption) (by omega) (by first | decide | omega) ((gi_at rfl rfl).trans (by omega : _ = (4 : Int))) ?_
                refine aw_iconst dX12_readAll_71 ?_
                refine aw_ic_ne (tgt := 77) dX12_readAll_72 rfl (by omega) (by omega) (fun c72 => ?_) (fun c72 => ?_)
                · exact absurd c72 (by omega)
                · refine aw_iconst dX12_readAll_75 ?_
                  exact aw_zreturn dX12_readAll_76 rfl (by omega) (Or.inl rfl) ⟨rfl, v2⟩
          · exact absurd c31 (by omega)
        · have r4 := r3.tr (Rc.one l124 (show acc (f k2) (4, 0, Q, T, s, k0) = some (0, 0, Q ++ [(T.1, T.2 ++ [s])], (false, []), s0, k0) by rw [c124, acc_4124, if_pos (by omega)]))
          refine aw_if_ne (tgt := 36) dX12_readAll_31 rfl (by omega) (fun c31 => ?_) (fun c31 => ?_)
          · refine aw_aload_n dX12_readAll_36 rfl ?_
            refine aw_getr' (j := 12) dX12_readAll_37 fX12_28 rfl (by assumption) rfl (by assumption) ?_
            refine aw_iconst dX12_readAll_40 ?_
            refine aw_dup2 dX12_readAll_41 rfl rfl ?_
            refine aw_iald' dX12_readAll_42 (by assumption) (by omega) (by first | decide | omega) d2 ?_
            refine aw_iconst dX12_readAll_43 ?_
            refine aw_iadd dX12_readAll_44 ?_
            refine aw_iast dX12_readAll_45 (by assumption) (by omega) (by first | decide | omega) ?_
            refine aw_aload_n dX12_readAll_46 rfl ?_
            refine aw_invV_r dX12_readAll_47 vX12_here kX12_137 rfl (KH) ⟨_, (by assumption), _, _, rfl⟩ rfl rfl (by decide) (by decide) (by decide) (Nat.le_of_ble_eq_true rfl) ?_
            refine aw_bipush dX12_readAll_50 rfl ?_
            refine aw_ic_ne (tgt := 59) dX12_readAll_52 rfl (by omega) (by omega) (fun c52 => ?_) (fun c52 => ?_)
            · exact absurd c52 (by omega)
            · refine aw_iconst dX12_readAll_55 ?_
              refine aw_goto (tgt := 60) dX12_readAll_56 rfl ?_
              refine aw_istore_n (ls1 := [(1, _), (0, _)]) dX12_readAll_60 (by decide) rfl ?_
              refine aw_iload_n dX12_readAll_61 rfl ?_
              refine aw_if_eq (tgt := 77) dX12_readAll_62 rfl (by omega) (fun c62 => ?_) (fun c62 => ?_)
              · exact absurd c62 (by omega)
              · refine aw_aload_n dX12_readAll_65 rfl ?_
                refine aw_getr' (j := 12) dX12_readAll_66 fX12_28 rfl (by assumption) rfl (by assumption) ?_
                refine aw_iconst dX12_readAll_69 ?_
                refine aw_iald' dX12_readAll_70 (by assumption) (by omega) (by first | decide | omega) (gi_at rfl rfl) ?_
                refine aw_iconst dX12_readAll_71 ?_
                refine aw_ic_ne (tgt := 77) dX12_readAll_72 rfl (by omega) (by omega) (fun c72 => ?_) (fun c72 => ?_)
                · refine aw_aload_n dX12_readAll_77 rfl ?_
                  refine aw_dup dX12_readAll_78 rfl ?_
                  refine aw_geti' (j := 11) dX12_readAll_79 fX12_131 rfl (by assumption) rfl A3 ?_
                  refine aw_iload_n dX12_readAll_82 rfl ?_
                  refine aw_if_eq (tgt := 90) dX12_readAll_83 rfl (by omega) (fun c83 => ?_) (fun c83 => ?_)
                  · exact absurd c83 (by omega)
                  · refine aw_iconst dX12_readAll_86 ?_
                    refine aw_goto (tgt := 91) dX12_readAll_87 rfl ?_
                    refine aw_iadd dX12_readAll_91 ?_
                    refine aw_puti' (j := 11) rfl dX12_readAll_92 fX12_131 (by assumption) rfl ?_
                    refine aw_goto (tgt := 14) dX12_readAll_95 rfl ?_
                    refine aw_sub [0, 1] rfl ?_
                    exact kk (T.1, T.2 ++ [s]) (k2 + 1) _ ⟨E3.tr (eqG.si SR_at), gi_at rfl rfl, by rw [gi_a7]; exact q3, okl, by omega, by omega, r4⟩
                · exact absurd c72 (by omega)
          · exact absurd c31 (by omega)
      · have E4 : eqG (SR a 0 6537) h (si (si h1 (a + 7) 0 ((Q.length : Int) + 1)) a 11 ((k2 : Int) + 0)) := E3.tr (eqG.si SR_at)
        have A4 : gi (si (si h1 (a + 7) 0 ((Q.length : Int) + 1)) a 11 ((k2 : Int) + 0)) a 11 = (k2 : Int) := (gi_at rfl rfl).trans (by omega)
        have S4 : gi (si (si h1 (a + 7) 0 ((Q.length : Int) + 1)) a 11 ((k2 : Int) + 0)) a 10 = (n : Int) := (hX.eq E4).2.1
        by_cases qn : k2 = n
        · subst qn
          obtain ⟨v1, v2⟩ := QR_yes E4 r3 rfl (by rw [gi_a7]; exact q3) hf A4
          rw [← v1]
          refine aw_if_ne (tgt := 36) dX12_readAll_31 rfl (by omega) (fun c31 => ?_) (fun c31 => ?_)
          · refine aw_aload_n dX12_readAll_36 rfl ?_
            refine aw_getr' (j := 12) dX12_readAll_37 fX12_28 rfl (by assumption) rfl (by assumption) ?_
            refine aw_iconst dX12_readAll_40 ?_
            refine aw_dup2 dX12_readAll_41 rfl rfl ?_
            refine aw_iald' dX12_readAll_42 (by assumption) (by omega) (by first | decide | omega) d2 ?_
            refine aw_iconst dX12_readAll_43 ?_
            refine aw_iadd dX12_readAll_44 ?_
            refine aw_iast dX12_readAll_45 (by assumption) (by omega) (by first | decide | omega) ?_
            refine aw_aload_n dX12_readAll_46 rfl ?_
            refine aw_invV_r dX12_readAll_47 vX12_here kX12_137 rfl (KH) ⟨_, (by assumption), _, _, rfl⟩ rfl rfl (by decide) (by decide) (by decide) (Nat.le_of_ble_eq_true rfl) ?_
            refine aw_bipush dX12_readAll_50 rfl ?_
            refine aw_ic_ne (tgt := 59) dX12_readAll_52 rfl (by omega) (by omega) (fun c52 => ?_) (fun c52 => ?_)
            · refine aw_iconst dX12_readAll_59 ?_
              refine aw_istore_n (ls1 := [(1, _), (0, _)]) dX12_readAll_60 (by decide) rfl ?_
              refine aw_iload_n dX12_readAll_61 rfl ?_
              refine aw_if_eq (tgt := 77) dX12_readAll_62 rfl (by omega) (fun c62 => ?_) (fun c62 => ?_)
              · refine aw_aload_n dX12_readAll_77 rfl ?_
                refine aw_dup dX12_readAll_78 rfl ?_
                refine aw_geti' (j := 11) dX12_readAll_79 fX12_131 rfl (by assumption) rfl A3 ?_
                refine aw_iload_n dX12_readAll_82 rfl ?_
                refine aw_if_eq (tgt := 90) dX12_readAll_83 rfl (by omega) (fun c83 => ?_) (fun c83 => ?_)
                · refine aw_iconst dX12_readAll_90 ?_
                  refine aw_iadd dX12_readAll_91 ?_
                  refine aw_puti' (j := 11) rfl dX12_readAll_92 fX12_131 (by assumption) rfl ?_
                  refine aw_goto (tgt := 14) dX12_readAll_95 rfl ?_
                  refine aw_iload_n dX12_readAll_14 rfl ?_
                  refine aw_if_eq (tgt := 98) dX12_readAll_15 rfl (by omega) (fun c15 => ?_) (fun c15 => ?_)
                  · refine aw_aload_n dX12_readAll_98 rfl ?_
                    refine aw_geti' (j := 11) dX12_readAll_99 fX12_131 rfl (by assumption) rfl A4 ?_
                    refine aw_aload_n dX12_readAll_102 rfl ?_
                    refine aw_geti' (j := 10) dX12_readAll_103 fX12_134 rfl (by assumption) rfl S4 ?_
                    refine aw_ic_ne (tgt := 113) dX12_readAll_106 rfl (by omega) (by omega) (fun c106 => ?_) (fun c106 => ?_)
                    · exact absurd c106 (by omega)
                    · refine aw_iconst dX12_readAll_109 ?_
                      refine aw_goto (tgt := 114) dX12_readAll_110 rfl ?_
                      exact aw_zreturn dX12_readAll_114 rfl (by omega) (Or.inl rfl) ⟨rfl, v2⟩
                  · exact absurd c15 (by omega)
                · exact absurd c83 (by omega)
              · exact absurd c62 (by omega)
            · exact absurd c52 (by omega)
          · exact absurd c31 (by omega)
        · obtain ⟨v1, v2⟩ := QR_no E4 r3 (Or.inl ⟨by omega, acc_4no (hr_ne n47 (by omega)) (hr_ne n91 (by omega)) (hr_ne q124 (by omega))⟩) A4
          rw [← v1]
          refine aw_if_ne (tgt := 36) dX12_readAll_31 rfl (by omega) (fun c31 => ?_) (fun c31 => ?_)
          · refine aw_aload_n dX12_readAll_36 rfl ?_
            refine aw_getr' (j := 12) dX12_readAll_37 fX12_28 rfl (by assumption) rfl (by assumption) ?_
            refine aw_iconst dX12_readAll_40 ?_
            refine aw_dup2 dX12_readAll_41 rfl rfl ?_
            refine aw_iald' dX12_readAll_42 (by assumption) (by omega) (by first | decide | omega) d2 ?_
            refine aw_iconst dX12_readAll_43 ?_
            refine aw_iadd dX12_readAll_44 ?_
            refine aw_iast dX12_readAll_45 (by assumption) (by omega) (by first | decide | omega) ?_
            refine aw_aload_n dX12_readAll_46 rfl ?_
            refine aw_invV_r dX12_readAll_47 vX12_here kX12_137 rfl (KH) ⟨_, (by assumption), _, _, rfl⟩ rfl rfl (by decide) (by decide) (by decide) (Nat.le_of_ble_eq_true rfl) ?_
            refine aw_bipush dX12_readAll_50 rfl ?_
            refine aw_ic_ne (tgt := 59) dX12_readAll_52 rfl (by omega) (by omega) (fun c52 => ?_) (fun c52 => ?_)
            · refine aw_iconst dX12_readAll_59 ?_
              refine aw_istore_n (ls1 := [(1, _), (0, _)]) dX12_readAll_60 (by decide) rfl ?_
              refine aw_iload_n dX12_readAll_61 rfl ?_
              refine aw_if_eq (tgt := 77) dX12_readAll_62 rfl (by omega) (fun c62 => ?_) (fun c62 => ?_)
              · refine aw_aload_n dX12_readAll_77 rfl ?_
                refine aw_dup dX12_readAll_78 rfl ?_
                refine aw_geti' (j := 11) dX12_readAll_79 fX12_131 rfl (by assumption) rfl A3 ?_
                refine aw_iload_n dX12_readAll_82 rfl ?_
                refine aw_if_eq (tgt := 90) dX12_readAll_83 rfl (by omega) (fun c83 => ?_) (fun c83 => ?_)
                · refine aw_iconst dX12_readAll_90 ?_
                  refine aw_iadd dX12_readAll_91 ?_
                  refine aw_puti' (j := 11) rfl dX12_readAll_92 fX12_131 (by assumption) rfl ?_
                  refine aw_goto (tgt := 14) dX12_readAll_95 rfl ?_
                  refine aw_iload_n dX12_readAll_14 rfl ?_
                  refine aw_if_eq (tgt := 98) dX12_readAll_15 rfl (by omega) (fun c15 => ?_) (fun c15 => ?_)
                  · refine aw_aload_n dX12_readAll_98 rfl ?_
                    refine aw_geti' (j := 11) dX12_readAll_99 fX12_131 rfl (by assumption) rfl A4 ?_
                    refine aw_aload_n dX12_readAll_102 rfl ?_
                    refine aw_geti' (j := 10) dX12_readAll_103 fX12_134 rfl (by assumption) rfl S4 ?_
                    refine aw_ic_ne (tgt := 113) dX12_readAll_106 rfl (by omega) (by omega) (fun c106 => ?_) (fun c106 => ?_)
                    · refine aw_iconst dX12_readAll_113 ?_
                      exact aw_zreturn dX12_readAll_114 rfl (by omega) (Or.inl rfl) ⟨rfl, v2⟩
                    · exact absurd c106 (by omega)
                  · exact absurd c15 (by omega)
                · exact absurd c83 (by omega)
              · exact absurd c62 (by omega)
            · exact absurd c52 (by omega)
          · exact absurd c31 (by omega)
theorem l_rall {γ : GG} {h : AH} {a n : Nat} {f : Nat → Nat} (hX : isX h a f n) : ∀ (m : Nat) (Q : TQ) (k1 : Nat) (H : AH), Q.length + m = 3 → QI h a f n Q k1 H → AW γ mX12_readAll 9 0 0 14 [(1, vi 1), (0, vr (some a))] [] H (rE (vi (vQ f n)) (QR h a f n)) := by
  intro m
  induction m with
  | zero =>
    intro Q k1 H hm hI
    exact s_rall hX hI (fun c k' H' hI' => absurd hI'.2.2.2.2.1 (by simp; omega))
  | succ m ih =>
    intro Q k1 H hm hI
    exact s_rall hX hI (fun c k' H' hI' => ih (Q ++ [c]) k' H' (by simp; omega) hI')
theorem m_readAll {γ : GG} {h : AH} {a n : Nat} {f : Nat → Nat} (hX : isX h a f n) : Call γ mX12_readAll 9 0 0 [vr (some a)] h (rE (vi (vQ f n)) (QR h a f n)) := by
  obtain ⟨hka, rq, kq⟩ := hX.q
  refine Call.of (ls := [(0, vr (some a))]) vX12_readAll.1 (Nat.le_of_ble_eq_true rfl) rfl ?_
  refine aw_aload_n dX12_readAll_0 rfl ?_
  refine aw_iconst dX12_readAll_1 ?_
  refine aw_puti' (j := 11) rfl dX12_readAll_2 fX12_131 (by assumption) rfl ?_
  refine aw_aload_n dX12_readAll_5 rfl ?_
  refine aw_getr' (j := 12) dX12_readAll_6 fX12_28 rfl (by assumption) rfl (by assumption) ?_
  refine aw_iconst dX12_readAll_9 ?_
  refine aw_iconst dX12_readAll_10 ?_
  refine aw_iast dX12_readAll_11 (by assumption) (by omega) (by first | decide | omega) ?_
  refine aw_iconst dX12_readAll_12 ?_
  refine aw_istore_n (ls1 := [(1, _), (0, _)]) dX12_readAll_13 (by decide) rfl ?_
  refine aw_sub [0, 1] rfl ?_
  exact l_rall hX 3 [] 0 _ (by simp) ⟨(eqG.si SR_at).tr (eqG.si (Or.inr ⟨rfl, by omega, by omega⟩)), (gi_ne (Or.inl (by omega))).trans ((gi_at rfl rfl).trans (by omega)), ⟨gi_at rfl rfl, fun i t hi => by simp at hi⟩, fun t ht => absurd ht (by simp), by simp, by omega, Rc.rf (by omega)⟩
