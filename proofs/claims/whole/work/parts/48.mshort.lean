/-! ===== the model: readShort ===== -/
/-- a short path read: its end, its steps in the cells -/
def shC (h' : AH) (a : Nat) (b : Int) (sh : List (Int × Int)) : Prop := gi h' (a + 7) (b + 3) = sh.length ∧ ∀ (i : Nat) (x : Int × Int), sh[i]? = some x → gi h' (a + 7) (b + 4 + i) = 10 * x.1 + x.2
theorem get_snoc {α : Type} {l : List α} {x y : α} {i : Nat} (h : (l ++ [x])[i]? = some y) : (i < l.length ∧ l[i]? = some y) ∨ (i = l.length ∧ y = x) := by
  rcases Nat.lt_trichotomy i l.length with q | q | q
  · rw [List.getElem?_append_left q] at h; exact Or.inl ⟨q, h⟩
  · subst q; rw [List.getElem?_concat_length] at h; cases h; exact Or.inr ⟨rfl, rfl⟩
  · rw [List.getElem?_eq_none (by simp; omega)] at h; cases h
theorem shC_put {h1 : AH} {a : Nat} {b : Int} {sh : List (Int × Int)} {x : Int × Int} (hc : shC h1 a b sh) (hl : sh.length ≤ 2) : shC (si (si h1 (a + 7) (b + 4 + sh.length) (10 * x.1 + x.2)) (a + 7) (b + 3) (sh.length + 1)) a b (sh ++ [x]) ∧ eqG (SR a (b + 3) (b + 7)) h1 (si (si h1 (a + 7) (b + 4 + sh.length) (10 * x.1 + x.2)) (a + 7) (b + 3) (sh.length + 1)) ∧ gi (si (si h1 (a + 7) (b + 4 + sh.length) (10 * x.1 + x.2)) (a + 7) (b + 3) (sh.length + 1)) a 11 = gi h1 a 11 := by
  refine ⟨⟨(gi_at rfl rfl).trans (by simp), fun i y hy => ?_⟩, (eqG.si (Or.inr ⟨rfl, by omega, by omega⟩)).tr (eqG.si (Or.inr ⟨rfl, by omega, by omega⟩)), (gi_ne (Or.inl (by omega))).trans (gi_ne (Or.inl (by omega)))⟩
  rcases get_snoc hy with ⟨q1, q2⟩ | ⟨q1, q2⟩
  · rw [gi_ne (Or.inr (by omega)), gi_ne (Or.inr (by omega))]
    exact hc.2 i y q2
  · subst q2
    rw [gi_ne (Or.inr (by omega)), gi_at rfl (by omega)]
theorem shC_eqG {h h' : AH} {a : Nat} {b lo hi : Int} {sh : List (Int × Int)} (hc : shC h a b sh) (hl : sh.length ≤ 3) (e : eqG (SR a lo hi) h h') (hb : hi ≤ b + 3 ∨ b + 7 ≤ lo) : shC h' a b sh := by
  refine ⟨(e.2.2.2.2 (a + 7) (b + 3) (by unfold SR; omega)).trans hc.1, fun i x hx => ?_⟩
  have := lt_of_get hx
  exact (e.2.2.2.2 (a + 7) (b + 4 + i) (by unfold SR; omega)).trans (hc.2 i x hx)
theorem acc_s47 {ax : Int} {Q : TQ} {T : Bool × List TS} {s : TS} {pr : TP} {al : TA} {c : TC} : acc 47 (10, ax, Q, T, s, pr, al, c) = if c.2.2.2.length = 3 then none else some (8, 0, Q, T, s, pr, al, c) := rfl
theorem SR_z {a : Nat} {lo hi : Int} : ∀ b j, SR a 0 0 b j → SR a lo hi b j := by
  intro b j h
  unfold SR at *
  omega
theorem l_rsh {γ : GG} {h : AH} {a k n : Nat} {f : Nat → Nat} {Q : TQ} {T : Bool × List TS} {s : TS} {pr : TP} {al : TA} {ng : Bool} {b : Int} (hX : isX h a f n) (hb : 1 ≤ b ∧ b + 7 ≤ 6537) : ∀ (m : Nat) (sh : List (Int × Int)) (k1 : Nat) (H : AH), sh.length + m = 3 → (∀ x ∈ sh, okT x) → eqG (SR a (b + 3) (b + 7)) h H → gi H a 11 = k1 → k1 ≤ n → shC H a b sh → (sh.length ≤ 2 → Rc f n k (8, 0, Q, T, s, pr, al, ng, 3, 0, []) k1 (8, 0, Q, T, s, pr, al, ng, 3, 0, sh)) → (sh.length = 3 → ∃ k2, k1 = k2 + 1 ∧ Rc f n k (8, 0, Q, T, s, pr, al, ng, 3, 0, []) k2 (10, 0, Q, T, s, pr, al, ng, 3, 0, sh) ∧ hr9 f n k2 = 47) → AW γ mX12_readShort 3 0 0 2 [(2, vi 1), (0, vr (some a)), (1, vi b)] [] H (rB (nrd h a f n k (8, 0, Q, T, s, pr, al, ng, 3, 0, []) (b + 3) (b + 7)) (fun h' => eqG (SR a (b + 3) (b + 7)) h h' ∧ ∃ (k' : Nat) (sh : List (Int × Int)), Rc f n k (8, 0, Q, T, s, pr, al, ng, 3, 0, []) k' (10, 0, Q, T, s, pr, al, ng, 3, 0, sh) ∧ gi h' a 11 = (k' : Int) ∧ 1 ≤ sh.length ∧ sh.length ≤ 3 ∧ (∀ x ∈ sh, okT x) ∧ hr9 f n k' ≠ 47 ∧ shC h' a b sh)) := by
  intro m
  induction m with
  | zero =>
    intro sh k1 H hm ho hE hk hkn hc hr1 hr2
    obtain ⟨k2, e2, r2, q2⟩ := hr2 (by omega)
    obtain ⟨hka, rq, kq⟩ := (hX.eq hE).q
    have hc3 := hc.1
    have e3 : gi H (a + 7) (b + 3) = 3 := by omega
    obtain ⟨l2, c2⟩ := hr9_lt (c := 47) q2
    refine aw_iload_n dX12_readShort_2 rfl ?_
    refine aw_if_eq (tgt := 80) dX12_readShort_3 rfl (by omega) (fun c3 => ?_) (fun c3 => ?_)
    · exact absurd c3 (by omega)
    · refine aw_aload_n dX12_readShort_6 rfl ?_
      refine aw_getr' (j := 12) dX12_readShort_7 fX12_28 rfl (by assumption) rfl (by assumption) ?_
      refine aw_iload_n dX12_readShort_10 rfl ?_
      refine aw_iconst dX12_readShort_11 ?_
      refine aw_iadd dX12_readShort_12 ?_
      refine aw_iald' dX12_readShort_13 (by assumption) (by omega) (by first | decide | omega) e3 ?_
      refine aw_istore_n (ls1 := [(3, _), (2, _), (0, _), (1, _)]) dX12_readShort_14 (by decide) rfl ?_
      refine aw_iload_n dX12_readShort_15 rfl ?_
      refine aw_iconst dX12_readShort_16 ?_
      refine aw_ic_ne (tgt := 32) dX12_readShort_17 rfl (by omega) (by omega) (fun c17 => ?_) (fun c17 => ?_)
      · exact absurd c17 (by omega)
      · refine aw_aload_n dX12_readShort_20 rfl ?_
        refine aw_dup dX12_readShort_21 rfl ?_
        refine aw_geti' (j := 11) dX12_readShort_22 fX12_131 rfl (by assumption) rfl hk ?_
        refine aw_iconst dX12_readShort_25 ?_
        refine aw_isub dX12_readShort_26 ?_
        refine aw_puti' (j := 11) rfl dX12_readShort_27 fX12_131 (by assumption) rfl ?_
        refine aw_iconst dX12_readShort_30 ?_
        exact aw_zreturn dX12_readShort_31 rfl (by omega) (Or.inl rfl) (Or.inl ⟨rfl, hE.tr (eqG.si SR_at), k2, _, r2, Or.inl ⟨l2, by rw [c2, acc_s47, if_pos (show sh.length = 3 by omega)]⟩, (gi_at rfl rfl).trans (by omega)⟩)
  | succ m ih =>
    intro sh k1 H hm ho hE hk hkn hc hr1 hr2
    have r1 := hr1 (by omega)
    have hX1 := hX.eq hE
    obtain ⟨hka, rq, kq⟩ := hX1.q
    have hc3 := hc.1
    have hf := hX.2.2.2.2
    have hn4 := hX.2.2.1
    have bT := rtT_bd f n k1
    have bX := rtX_bd hf n k1
    have K := m_readTest (γ := γ) hX1 hk hkn
    obtain ⟨s1, s2⟩ := rt_short (ax := 0) (Q := Q) (T := T) (s := s) (pr := pr) (al := al) (c := (ng, 3, 0, sh)) hf hkn
    by_cases qT : rtT f n k1 = -1
    · obtain ⟨z', z1, z2⟩ := s1 qT
      have K' : Call γ mX12_readTest 2 0 0 [vr (some a)] H (rE (vi (-1)) (fun h' => eqG (SR a 0 0) H h' ∧ gi h' a 11 = ((rtK f n k1 : Nat) : Int))) := by
        have := K
        simp only [if_pos qT] at this
        exact this
      refine aw_iload_n dX12_readShort_2 rfl ?_
      refine aw_if_eq (tgt := 80) dX12_readShort_3 rfl (by omega) (fun c3 => ?_) (fun c3 => ?_)
      · exact absurd c3 (by omega)
      · refine aw_aload_n dX12_readShort_6 rfl ?_
        refine aw_getr' (j := 12) dX12_readShort_7 fX12_28 rfl (by assumption) rfl (by assumption) ?_
        refine aw_iload_n dX12_readShort_10 rfl ?_
        refine aw_iconst dX12_readShort_11 ?_
        refine aw_iadd dX12_readShort_12 ?_
        refine aw_iald' dX12_readShort_13 (by assumption) (by omega) (by first | decide | omega) hc3 ?_
        refine aw_istore_n (ls1 := [(3, _), (2, _), (0, _), (1, _)]) dX12_readShort_14 (by decide) rfl ?_
        refine aw_iload_n dX12_readShort_15 rfl ?_
        refine aw_iconst dX12_readShort_16 ?_
        refine aw_ic_ne (tgt := 32) dX12_readShort_17 rfl (by omega) (by omega) (fun c17 => ?_) (fun c17 => ?_)
        · refine aw_aload_n dX12_readShort_32 rfl ?_
          refine aw_invV_e dX12_readShort_33 vX12_readTest kX12_144 rfl (K') ⟨_, (by assumption), _, _, rfl⟩ rfl rfl (by decide) (by decide) (by decide) (Nat.le_of_ble_eq_true rfl) (fun h1 hP9 => ?_)
          obtain ⟨E1, A1⟩ := hP9
          refine aw_istore (ls1 := [(4, _), (3, _), (2, _), (0, _), (1, _)]) dX12_readShort_36 (by decide) rfl ?_
          refine aw_iload dX12_readShort_38 rfl ?_
          refine aw_iconst dX12_readShort_40 ?_
          refine aw_ic_ne (tgt := 46) dX12_readShort_41 rfl (by omega) (by omega) (fun c41 => ?_) (fun c41 => ?_)
          · exact absurd c41 (by omega)
          · refine aw_iconst dX12_readShort_44 ?_
            exact aw_zreturn dX12_readShort_45 rfl (by omega) (Or.inl rfl) (Or.inl ⟨rfl, hE.tr (E1.mono SR_z), rtK f n k1, z', r1.tr z1, z2, A1⟩)
        · exact absurd c17 (by omega)
    · have r2 := r1.tr (s2 qT)
      have l2 := r2.le
      dsimp only at r2
      have K' : Call γ mX12_readTest 2 0 0 [vr (some a)] H (rE (vi (10 * rtX f n k1 + rtT f n k1)) (fun h' => eqG (SR a 0 0) H h' ∧ gi h' a 11 = ((rtK f n k1 + 1 : Nat) : Int))) := by
        have := K
        simp only [if_neg qT] at this
        exact this
      have ho2 : ∀ x ∈ sh ++ [(rtX f n k1, rtT f n k1)], okT x := mem_snoc ho ⟨bX.1, bX.2, by dsimp only; omega, by dsimp only; omega⟩
      have e2 : (sh ++ [(rtX f n k1, rtT f n k1)]).length = sh.length + 1 := by simp
      by_cases q47 : hr9 f n (rtK f n k1 + 1) = 47
      · obtain ⟨l3, e47⟩ := hr9_lt (c := 47) q47
        refine aw_iload_n dX12_readShort_2 rfl ?_
        refine aw_if_eq (tgt := 80) dX12_readShort_3 rfl (by omega) (fun c3 => ?_) (fun c3 => ?_)
        · exact absurd c3 (by omega)
        · refine aw_aload_n dX12_readShort_6 rfl ?_
          refine aw_getr' (j := 12) dX12_readShort_7 fX12_28 rfl (by assumption) rfl (by assumption) ?_
          refine aw_iload_n dX12_readShort_10 rfl ?_
          refine aw_iconst dX12_readShort_11 ?_
          refine aw_iadd dX12_readShort_12 ?_
          refine aw_iald' dX12_readShort_13 (by assumption) (by omega) (by first | decide | omega) hc3 ?_
          refine aw_istore_n (ls1 := [(3, _), (2, _), (0, _), (1, _)]) dX12_readShort_14 (by decide) rfl ?_
          refine aw_iload_n dX12_readShort_15 rfl ?_
          refine aw_iconst dX12_readShort_16 ?_
          refine aw_ic_ne (tgt := 32) dX12_readShort_17 rfl (by omega) (by omega) (fun c17 => ?_) (fun c17 => ?_)
          · refine aw_aload_n dX12_readShort_32 rfl ?_
            refine aw_invV_e dX12_readShort_33 vX12_readTest kX12_144 rfl (K') ⟨_, (by assumption), _, _, rfl⟩ rfl rfl (by decide) (by decide) (by decide) (Nat.le_of_ble_eq_true rfl) (fun h1 hP9 => ?_)
            obtain ⟨E1, A1⟩ := hP9
            have hka1 := (E1.1 a).trans hka
            have rq1 := (E1.2.1 a 12).trans rq
            have kq1 := (E1.1 (a + 7)).trans kq
            have c1 := shC_eqG hc (by omega) E1 (by omega)
            obtain ⟨c2, E2, A2⟩ := shC_put (x := (rtX f n k1, rtT f n k1)) c1 (by omega)
            have E3 := hE.tr ((E1.mono SR_z).tr E2)
            have A3 := A2.trans A1
            have hX3 := hX.eq E3
            refine aw_istore (ls1 := [(4, _), (3, _), (2, _), (0, _), (1, _)]) dX12_readShort_36 (by decide) rfl ?_
            refine aw_iload dX12_readShort_38 rfl ?_
            refine aw_iconst dX12_readShort_40 ?_
            refine aw_ic_ne (tgt := 46) dX12_readShort_41 rfl (by omega) (by omega) (fun c41 => ?_) (fun c41 => ?_)
            · refine aw_aload_n dX12_readShort_46 rfl ?_
              refine aw_getr' (j := 12) dX12_readShort_47 fX12_28 rfl (by assumption) rfl (by assumption) ?_
              refine aw_iload_n dX12_readShort_50 rfl ?_
              refine aw_iconst dX12_readShort_51 ?_
              refine aw_iadd dX12_readShort_52 ?_
              refine aw_iload_n dX12_readShort_53 rfl ?_
              refine aw_iadd dX12_readShort_54 ?_
              refine aw_iload dX12_readShort_55 rfl ?_
              refine aw_iast dX12_readShort_57 (by assumption) (by omega) (by first | decide | omega) ?_
              refine aw_aload_n dX12_readShort_58 rfl ?_
              refine aw_getr' (j := 12) dX12_readShort_59 fX12_28 rfl (by assumption) rfl (by assumption) ?_
              refine aw_iload_n dX12_readShort_62 rfl ?_
              refine aw_iconst dX12_readShort_63 ?_
              refine aw_iadd dX12_readShort_64 ?_
              refine aw_dup2 dX12_readShort_65 rfl rfl ?_
              refine aw_iald' dX12_readShort_66 (by assumption) (by omega) (by first | decide | omega) ((gi_ne (Or.inr (by omega))).trans c1.1) ?_
              refine aw_iconst dX12_readShort_67 ?_
              refine aw_iadd dX12_readShort_68 ?_
              refine aw_iast dX12_readShort_69 (by assumption) (by omega) (by first | decide | omega) ?_
              refine aw_aload_n dX12_readShort_70 rfl ?_
              refine aw_bipush dX12_readShort_71 rfl ?_
              refine aw_invV_r dX12_readShort_73 vX12_takes kX12_147 rfl (m_takes1 hX3 A3 (by omega) (by decide) q47) ⟨_, (by assumption), _, _, rfl⟩ rfl rfl (by decide) (by decide) (by decide) (Nat.le_of_ble_eq_true rfl) ?_
              refine aw_istore_n (ls1 := [(2, _), (4, _), (3, _), (0, _), (1, _)]) dX12_readShort_76 (by decide) rfl ?_
              refine aw_goto (tgt := 2) dX12_readShort_77 rfl ?_
              refine aw_sub [0, 3, 4] rfl ?_
              exact ih _ (rtK f n k1 + 1 + 1) _ (by omega) ho2 (E3.tr (eqG.si SR_at)) (gi_at rfl rfl) (by omega) (shC_eqG (lo := 0) (hi := 0) c2 (by omega) (eqG.si SR_at) (by omega)) (fun hl => r2.tr (Rc.one l3 (by rw [e47, acc_s47, if_neg (show ¬ (sh ++ [(rtX f n k1, rtT f n k1)]).length = 3 by omega)]))) (fun hl => ⟨_, rfl, r2, q47⟩)
            · exact absurd c41 (by omega)
          · exact absurd c17 (by omega)
      · skip
        refine aw_iload_n dX12_readShort_2 rfl ?_
        refine aw_if_eq (tgt := 80) dX12_readShort_3 rfl (by omega) (fun c3 => ?_) (fun c3 => ?_)
        · exact absurd c3 (by omega)
        · refine aw_aload_n dX12_readShort_6 rfl ?_
          refine aw_getr' (j := 12) dX12_readShort_7 fX12_28 rfl (by assumption) rfl (by assumption) ?_
          refine aw_iload_n dX12_readShort_10 rfl ?_
          refine aw_iconst dX12_readShort_11 ?_
          refine aw_iadd dX12_readShort_12 ?_
          refine aw_iald' dX12_readShort_13 (by assumption) (by omega) (by first | decide | omega) hc3 ?_
          refine aw_istore_n (ls1 := [(3, _), (2, _), (0, _), (1, _)]) dX12_readShort_14 (by decide) rfl ?_
          refine aw_iload_n dX12_readShort_15 rfl ?_
          refine aw_iconst dX12_readShort_16 ?_
          refine aw_ic_ne (tgt := 32) dX12_readShort_17 rfl (by omega) (by omega) (fun c17 => ?_) (fun c17 => ?_)
          · refine aw_aload_n dX12_readShort_32 rfl ?_
            refine aw_invV_e dX12_readShort_33 vX12_readTest kX12_144 rfl (K') ⟨_, (by assumption), _, _, rfl⟩ rfl rfl (by decide) (by decide) (by decide) (Nat.le_of_ble_eq_true rfl) (fun h1 hP9 => ?_)
            obtain ⟨E1, A1⟩ := hP9
            have hka1 := (E1.1 a).trans hka
            have rq1 := (E1.2.1 a 12).trans rq
            have kq1 := (E1.1 (a + 7)).trans kq
            have c1 := shC_eqG hc (by omega) E1 (by omega)
            obtain ⟨c2, E2, A2⟩ := shC_put (x := (rtX f n k1, rtT f n k1)) c1 (by omega)
            have E3 := hE.tr ((E1.mono SR_z).tr E2)
            have A3 := A2.trans A1
            have hX3 := hX.eq E3
            refine aw_istore (ls1 := [(4, _), (3, _), (2, _), (0, _), (1, _)]) dX12_readShort_36 (by decide) rfl ?_
            refine aw_iload dX12_readShort_38 rfl ?_
            refine aw_iconst dX12_readShort_40 ?_
            refine aw_ic_ne (tgt := 46) dX12_readShort_41 rfl (by omega) (by omega) (fun c41 => ?_) (fun c41 => ?_)
            · refine aw_aload_n dX12_readShort_46 rfl ?_
              refine aw_getr' (j := 12) dX12_readShort_47 fX12_28 rfl (by assumption) rfl (by assumption) ?_
              refine aw_iload_n dX12_readShort_50 rfl ?_
              refine aw_iconst dX12_readShort_51 ?_
              refine aw_iadd dX12_readShort_52 ?_
              refine aw_iload_n dX12_readShort_53 rfl ?_
              refine aw_iadd dX12_readShort_54 ?_
              refine aw_iload dX12_readShort_55 rfl ?_
              refine aw_iast dX12_readShort_57 (by assumption) (by omega) (by first | decide | omega) ?_
              refine aw_aload_n dX12_readShort_58 rfl ?_
              refine aw_getr' (j := 12) dX12_readShort_59 fX12_28 rfl (by assumption) rfl (by assumption) ?_
              refine aw_iload_n dX12_readShort_62 rfl ?_
              refine aw_iconst dX12_readShort_63 ?_
              refine aw_iadd dX12_readShort_64 ?_
              refine aw_dup2 dX12_readShort_65 rfl rfl ?_
              refine aw_iald' dX12_readShort_66 (by assumption) (by omega) (by first | decide | omega) ((gi_ne (Or.inr (by omega))).trans c1.1) ?_
              refine aw_iconst dX12_readShort_67 ?_
              refine aw_iadd dX12_readShort_68 ?_
              refine aw_iast dX12_readShort_69 (by assumption) (by omega) (by first | decide | omega) ?_
              refine aw_aload_n dX12_readShort_70 rfl ?_
              refine aw_bipush dX12_readShort_71 rfl ?_
              refine aw_invV_r dX12_readShort_73 vX12_takes kX12_147 rfl (m_takes0 hX3 A3 (by omega) (by decide) q47) ⟨_, (by assumption), _, _, rfl⟩ rfl rfl (by decide) (by decide) (by decide) (Nat.le_of_ble_eq_true rfl) ?_
              refine aw_istore_n (ls1 := [(2, _), (4, _), (3, _), (0, _), (1, _)]) dX12_readShort_76 (by decide) rfl ?_
              refine aw_goto (tgt := 2) dX12_readShort_77 rfl ?_
              refine aw_sub [0, 3, 4] rfl ?_
              refine aw_iload_n dX12_readShort_2 rfl ?_
              refine aw_if_eq (tgt := 80) dX12_readShort_3 rfl (by omega) (fun c3 => ?_) (fun c3 => ?_)
              · refine aw_iconst dX12_readShort_80 ?_
                exact aw_zreturn dX12_readShort_81 rfl (by omega) (Or.inl rfl) (Or.inr ⟨rfl, E3, _, _, r2, A3, by omega, by omega, ho2, q47, c2⟩)
              · exact absurd c3 (by omega)
            · exact absurd c41 (by omega)
          · exact absurd c17 (by omega)
theorem m_readShort {γ : GG} {h : AH} {a k n : Nat} {f : Nat → Nat} {Q : TQ} {T : Bool × List TS} {s : TS} {pr : TP} {al : TA} {ng : Bool} {b : Int} (hX : isX h a f n) (hk : gi h a 11 = k) (hkn : k ≤ n) (hb : 1 ≤ b ∧ b + 7 ≤ 6537) (h3 : gi h (a + 7) (b + 3) = 0) : Call γ mX12_readShort 3 0 0 [vr (some a), vi b] h (rB (nrd h a f n k (8, 0, Q, T, s, pr, al, ng, 3, 0, []) (b + 3) (b + 7)) (fun h' => eqG (SR a (b + 3) (b + 7)) h h' ∧ ∃ (k' : Nat) (sh : List (Int × Int)), Rc f n k (8, 0, Q, T, s, pr, al, ng, 3, 0, []) k' (10, 0, Q, T, s, pr, al, ng, 3, 0, sh) ∧ gi h' a 11 = (k' : Int) ∧ 1 ≤ sh.length ∧ sh.length ≤ 3 ∧ (∀ x ∈ sh, okT x) ∧ hr9 f n k' ≠ 47 ∧ shC h' a b sh)) := by
  refine Call.of (ls := [(0, vr (some a)), (1, vi b)]) vX12_readShort.1 (Nat.le_of_ble_eq_true rfl) rfl ?_
  refine aw_iconst dX12_readShort_0 ?_
  refine aw_istore_n (ls1 := [(2, _), (0, _), (1, _)]) dX12_readShort_1 (by decide) rfl ?_
  refine aw_sub [0, 1, 2] rfl ?_
  exact l_rsh hX hb 3 [] k h (by simp) (fun x hx => absurd hx (by simp)) eqG.rf hk hkn ⟨h3, fun i x hx => by simp at hx⟩ (fun _ => Rc.rf hkn) (fun q => absurd q (by simp))
