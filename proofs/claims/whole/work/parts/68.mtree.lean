/-! ===== the model: shuts, opens ===== -/
def SM (a : Nat) : Nat → Int → Prop := fun b j => b = a + 1 ∧ j < 121
/-- a tree without m nodes from v on -/
def dlT (T : Tr) (v m : Nat) : Tr := (tn T - m, fun k => if k < v then tnm T k else tnm T (k + m), fun k => if k < v then tvl T k else tvl T (k + m), fun k => if k < v then tpa T k else if (v : Int) ≤ tpa T (k + m) then tpa T (k + m) - m else tpa T (k + m))
theorem gTr_c {f : Int → Int} {T : Tr} (hT : gTr f 0 T) {k : Nat} (hk : k < tn T) : f (1 + 3 * (k : Int)) = tnm T k ∧ f (1 + 3 * (k : Int) + 1) = tvl T k ∧ f (1 + 3 * (k : Int) + 2) = tpa T k := by
  obtain ⟨h1, h2, h3⟩ := hT.2 k hk
  rw [show (0 : Int) + 1 + 3 * (k : Int) = 1 + 3 * (k : Int) by omega] at h1
  rw [show (0 : Int) + 2 + 3 * (k : Int) = 1 + 3 * (k : Int) + 1 by omega] at h2
  rw [show (0 : Int) + 3 + 3 * (k : Int) = 1 + 3 * (k : Int) + 2 by omega] at h3
  exact ⟨h1, h2, h3⟩
theorem gTr_of {f : Int → Int} {T : Tr} (h0 : f 0 = tn T) (h : ∀ k, k < tn T → f (1 + 3 * (k : Int)) = tnm T k ∧ f (1 + 3 * (k : Int) + 1) = tvl T k ∧ f (1 + 3 * (k : Int) + 2) = tpa T k) : gTr f 0 T := by
  refine ⟨h0, fun k hk => ?_⟩
  obtain ⟨h1, h2, h3⟩ := h k hk
  rw [show (0 : Int) + 1 + 3 * (k : Int) = 1 + 3 * (k : Int) by omega, show (0 : Int) + 2 + 3 * (k : Int) = 1 + 3 * (k : Int) + 1 by omega, show (0 : Int) + 3 + 3 * (k : Int) = 1 + 3 * (k : Int) + 2 by omega]
  exact ⟨h1, h2, h3⟩
/-- the cells of a node -/
def nd (f : Int → Int) (k : Int) (x y z : Int) : Prop := f (1 + 3 * k) = x ∧ f (1 + 3 * k + 1) = y ∧ f (1 + 3 * k + 2) = z
def nd3 (H : AH) (a : Nat) (n x y z : Int) : AH := si (si (si H (a + 1) (1 + 3 * n + 0) x) (a + 1) (1 + 3 * n + (0 + 1)) y) (a + 1) (1 + 3 * n + (0 + 1 + 1)) z
theorem nd3_at (H : AH) (a : Nat) (n x y z : Int) : nd (gi (nd3 H a n x y z) (a + 1)) n x y z := by
  unfold nd3
  exact ⟨(gi_ne (Or.inr (by omega))).trans ((gi_ne (Or.inr (by omega))).trans (gi_at rfl (by omega))), (gi_ne (Or.inr (by omega))).trans (gi_at rfl (by omega)), gi_at rfl (by omega)⟩
theorem nd3_ne {H : AH} {a b : Nat} {n x y z j : Int} (hj : b ≠ a + 1 ∨ j < 1 + 3 * n ∨ 1 + 3 * n + 3 ≤ j) : gi (nd3 H a n x y z) b j = gi H b j := by
  unfold nd3
  exact (gi_ne (by omega)).trans ((gi_ne (by omega)).trans (gi_ne (by omega)))
theorem eqG_nd3 {H : AH} {a : Nat} {n x y z : Int} (hn : n < 40) : eqG (SM a) H (nd3 H a n x y z) := ((eqG.si ⟨rfl, by omega⟩).tr (eqG.si ⟨rfl, by omega⟩)).tr (eqG.si ⟨rfl, by omega⟩)
theorem s_sh25 {γ : GG} {a v m n : Nat} {H : AH} {x y z : Int} {Q : AR → AH → Prop} (hM : shM H a) (hn : n + m < 40) (hm : 1 ≤ m) (c0 : gi H (a + 1) (1 + 3 * ((n : Int) + (m : Int)) + 0) = x) (c1 : gi H (a + 1) (1 + 3 * ((n : Int) + (m : Int)) + (0 + 1)) = y) (c2 : gi H (a + 1) (1 + 3 * ((n : Int) + (m : Int)) + (0 + 1 + 1)) = z) (kk : AW γ mX12_shuts 1 0 0 65 [(3, vi (n : Int)), (0, vr (some a)), (1, vi (v : Int)), (2, vi (m : Int))] [] (nd3 H a n x y z) Q) : AW γ mX12_shuts 1 0 0 25 [(4, vi 0), (3, vi (n : Int)), (0, vr (some a)), (1, vi (v : Int)), (2, vi (m : Int))] [] H Q := by
  obtain ⟨hka, -, -⟩ := hM.q
  obtain ⟨rm, km⟩ := hM.m
  unfold nd3 at kk
  refine aw_iload dX12_shuts_25 rfl ?_
  refine aw_iconst dX12_shuts_27 ?_
  refine aw_ic_ge (tgt := 65) dX12_shuts_28 rfl (by omega) (by omega) (fun c28 => ?_) (fun c28 => ?_)
  · exact absurd c28 (by omega)
  · refine aw_aload_n dX12_shuts_31 rfl ?_
    refine aw_getr' (j := 0) dX12_shuts_32 fX12_7 rfl (by assumption) rfl (by assumption) ?_
    refine aw_iconst dX12_shuts_35 ?_
    refine aw_iconst dX12_shuts_36 ?_
    refine aw_iload_n dX12_shuts_37 rfl ?_
    refine aw_imul dX12_shuts_38 ?_
    refine aw_iadd dX12_shuts_39 ?_
    refine aw_iload dX12_shuts_40 rfl ?_
    refine aw_iadd dX12_shuts_42 ?_
    refine aw_aload_n dX12_shuts_43 rfl ?_
    refine aw_getr' (j := 0) dX12_shuts_44 fX12_7 rfl (by assumption) rfl (by assumption) ?_
    refine aw_iconst dX12_shuts_47 ?_
    refine aw_iconst dX12_shuts_48 ?_
    refine aw_iload_n dX12_shuts_49 rfl ?_
    refine aw_iload_n dX12_shuts_50 rfl ?_
    refine aw_iadd dX12_shuts_51 ?_
    refine aw_imul dX12_shuts_52 ?_
    refine aw_iadd dX12_shuts_53 ?_
    refine aw_iload dX12_shuts_54 rfl ?_
    refine aw_iadd dX12_shuts_56 ?_
    refine aw_iald' dX12_shuts_57 (by assumption) (by omega) (by first | decide | omega) c0 ?_
    refine aw_iast dX12_shuts_58 (by assumption) (by omega) (by first | decide | omega) ?_
    refine aw_iinc (k9 := 0) (ls1 := [(4, _), (3, _), (0, _), (1, _), (2, _)]) dX12_shuts_59 rfl (by decide) rfl ?_
    refine aw_goto (tgt := 25) dX12_shuts_62 rfl ?_
    refine aw_sub [0, 1, 2, 3, 4] rfl ?_
    refine aw_iload dX12_shuts_25 rfl ?_
    refine aw_iconst dX12_shuts_27 ?_
    refine aw_ic_ge (tgt := 65) dX12_shuts_28 rfl (by omega) (by omega) (fun c28 => ?_) (fun c28 => ?_)
    · exact absurd c28 (by omega)
    · refine aw_aload_n dX12_shuts_31 rfl ?_
      refine aw_getr' (j := 0) dX12_shuts_32 fX12_7 rfl (by assumption) rfl (by assumption) ?_
      refine aw_iconst dX12_shuts_35 ?_
      refine aw_iconst dX12_shuts_36 ?_
      refine aw_iload_n dX12_shuts_37 rfl ?_
      refine aw_imul dX12_shuts_38 ?_
      refine aw_iadd dX12_shuts_39 ?_
      refine aw_iload dX12_shuts_40 rfl ?_
      refine aw_iadd dX12_shuts_42 ?_
      refine aw_aload_n dX12_shuts_43 rfl ?_
      refine aw_getr' (j := 0) dX12_shuts_44 fX12_7 rfl (by assumption) rfl (by assumption) ?_
      refine aw_iconst dX12_shuts_47 ?_
      refine aw_iconst dX12_shuts_48 ?_
      refine aw_iload_n dX12_shuts_49 rfl ?_
      refine aw_iload_n dX12_shuts_50 rfl ?_
      refine aw_iadd dX12_shuts_51 ?_
      refine aw_imul dX12_shuts_52 ?_
      refine aw_iadd dX12_shuts_53 ?_
      refine aw_iload dX12_shuts_54 rfl ?_
      refine aw_iadd dX12_shuts_56 ?_
      refine aw_iald' dX12_shuts_57 (by assumption) (by omega) (by first | decide | omega) ((gi_ne (by omega)).trans c1) ?_
      refine aw_iast dX12_shuts_58 (by assumption) (by omega) (by first | decide | omega) ?_
      refine aw_iinc (k9 := 0) (ls1 := [(4, _), (3, _), (0, _), (1, _), (2, _)]) dX12_shuts_59 rfl (by decide) rfl ?_
      refine aw_goto (tgt := 25) dX12_shuts_62 rfl ?_
      refine aw_sub [0, 1, 2, 3, 4] rfl ?_
      refine aw_iload dX12_shuts_25 rfl ?_
      refine aw_iconst dX12_shuts_27 ?_
      refine aw_ic_ge (tgt := 65) dX12_shuts_28 rfl (by omega) (by omega) (fun c28 => ?_) (fun c28 => ?_)
      · exact absurd c28 (by omega)
      · refine aw_aload_n dX12_shuts_31 rfl ?_
        refine aw_getr' (j := 0) dX12_shuts_32 fX12_7 rfl (by assumption) rfl (by assumption) ?_
        refine aw_iconst dX12_shuts_35 ?_
        refine aw_iconst dX12_shuts_36 ?_
        refine aw_iload_n dX12_shuts_37 rfl ?_
        refine aw_imul dX12_shuts_38 ?_
        refine aw_iadd dX12_shuts_39 ?_
        refine aw_iload dX12_shuts_40 rfl ?_
        refine aw_iadd dX12_shuts_42 ?_
        refine aw_aload_n dX12_shuts_43 rfl ?_
        refine aw_getr' (j := 0) dX12_shuts_44 fX12_7 rfl (by assumption) rfl (by assumption) ?_
        refine aw_iconst dX12_shuts_47 ?_
        refine aw_iconst dX12_shuts_48 ?_
        refine aw_iload_n dX12_shuts_49 rfl ?_
        refine aw_iload_n dX12_shuts_50 rfl ?_
        refine aw_iadd dX12_shuts_51 ?_
        refine aw_imul dX12_shuts_52 ?_
        refine aw_iadd dX12_shuts_53 ?_
        refine aw_iload dX12_shuts_54 rfl ?_
        refine aw_iadd dX12_shuts_56 ?_
        refine aw_iald' dX12_shuts_57 (by assumption) (by omega) (by first | decide | omega) ((gi_ne (by omega)).trans ((gi_ne (by omega)).trans c2)) ?_
        refine aw_iast dX12_shuts_58 (by assumption) (by omega) (by first | decide | omega) ?_
        refine aw_iinc (k9 := 0) (ls1 := [(4, _), (3, _), (0, _), (1, _), (2, _)]) dX12_shuts_59 rfl (by decide) rfl ?_
        refine aw_goto (tgt := 25) dX12_shuts_62 rfl ?_
        refine aw_sub [0, 1, 2, 3, 4] rfl ?_
        refine aw_iload dX12_shuts_25 rfl ?_
        refine aw_iconst dX12_shuts_27 ?_
        refine aw_ic_ge (tgt := 65) dX12_shuts_28 rfl (by omega) (by omega) (fun c28 => ?_) (fun c28 => ?_)
        · refine aw_sub [1, 2, 3, 4] rfl ?_
          exact kk
        · exact absurd c28 (by omega)
theorem l_sh12 {γ : GG} {h : AH} {a v m : Nat} {T : Tr} (hM : shM h a) (hT : gTr (gi h (a + 1)) 0 T) (hr : rgT T) (hv : v + m ≤ tn T) (hm : 1 ≤ m) : ∀ (f n : Nat) (H : AH), n + f = tn T - m → v ≤ n → eqG (SM a) h H → gi H (a + 1) 0 = ((tn T - m : Nat) : Int) → (∀ k, k < n → nd (gi H (a + 1)) k (tnm (dlT T v m) k) (tvl (dlT T v m) k) (tpa (dlT T v m) k)) → (∀ k, n ≤ k → k < tn T → nd (gi H (a + 1)) k (tnm T k) (tvl T k) (tpa T k)) → AW γ mX12_shuts 1 0 0 12 [(3, vi (n : Int)), (0, vr (some a)), (1, vi (v : Int)), (2, vi (m : Int))] [] H (rF (fun h' => gTr (gi h' (a + 1)) 0 (dlT T v m) ∧ eqG (SM a) h h')) := by
  have n40 := hr.1
  intro f
  induction f with
  | zero =>
    intro n H hnf hvn hE g0 hj hk
    obtain ⟨hka, -, -⟩ := (hE.sh hM).q
    obtain ⟨rm, km⟩ := (hE.sh hM).m
    refine aw_iload_n dX12_shuts_12 rfl ?_
    refine aw_aload_n dX12_shuts_13 rfl ?_
    refine aw_getr' (j := 0) dX12_shuts_14 fX12_7 rfl (by assumption) rfl (by assumption) ?_
    refine aw_iconst dX12_shuts_17 ?_
    refine aw_iald' dX12_shuts_18 (by assumption) (by omega) (by first | decide | omega) g0 ?_
    refine aw_ic_ge (tgt := 100) dX12_shuts_19 rfl (by omega) (by omega) (fun c19 => ?_) (fun c19 => ?_)
    · exact aw_return dX12_shuts_100 rfl (Or.inl rfl) ⟨rfl, gTr_of g0 (fun k hk2 => hj k (by have : k < tn T - m := hk2; omega)), hE⟩
    · exact absurd c19 (by omega)
  | succ f ih =>
    intro n H hnf hvn hE g0 hj hk
    have hM1 := hE.sh hM
    obtain ⟨hka, -, -⟩ := hM1.q
    obtain ⟨rm, km⟩ := hM1.m
    obtain ⟨c0, c1, c2⟩ := hk (n + m) (by omega) (by omega)
    have hp := hr.2 (n + m) (by omega)
    have cn : ((n + m : Nat) : Int) = (n : Int) + (m : Int) := by omega
    rw [cn] at c0 c1 c2
    have L := s_sh25 (γ := γ) (a := a) (v := v) (m := m) (n := n) (H := H) (x := tnm T (n + m)) (y := tvl T (n + m)) (z := tpa T (n + m)) (Q := rF (fun h' => gTr (gi h' (a + 1)) 0 (dlT T v m) ∧ eqG (SM a) h h')) hM1 (by omega) hm (by rw [Int.add_zero]; exact c0) c1 c2 (by
      obtain ⟨e0, e1, e2⟩ := nd3_at H a n (tnm T (n + m)) (tvl T (n + m)) (tpa T (n + m))
      have E1 : eqG (SM a) h (nd3 H a n (tnm T (n + m)) (tvl T (n + m)) (tpa T (n + m))) := hE.tr (eqG_nd3 (by omega))
      have hM2 := E1.sh hM
      obtain ⟨hka, -, -⟩ := hM2.q
      obtain ⟨rm, km⟩ := hM2.m
      have KP := m_parentOf (γ := γ) (n := (n : Int)) hM2 (by omega)
      rw [e2] at KP
      have fin : ∀ z : Int, z = tpa (dlT T v m) n → AW γ mX12_shuts 1 0 0 12 [(3, vi ((n + 1 : Nat) : Int)), (0, vr (some a)), (1, vi (v : Int)), (2, vi (m : Int))] [] (si (nd3 H a n (tnm T (n + m)) (tvl T (n + m)) (tpa T (n + m))) (a + 1) (1 + 3 * (n : Int) + 2) z) (rF (fun h' => gTr (gi h' (a + 1)) 0 (dlT T v m) ∧ eqG (SM a) h h')) := fun z hz => by
        refine ih (n + 1) _ (by omega) (by omega) (E1.tr (eqG.si ⟨rfl, by omega⟩)) ((gi_ne (Or.inr (by omega))).trans ((nd3_ne (by omega)).trans g0)) (fun k hk2 => ?_) (fun k hk1 hk2 => ?_)
        · by_cases q : k = n
          · subst q
            refine ⟨(gi_ne (Or.inr (by omega))).trans (e0.trans ?_), (gi_ne (Or.inr (by omega))).trans (e1.trans ?_), (gi_at rfl rfl).trans hz⟩
            · show _ = if k < v then tnm T k else tnm T (k + m)
              rw [if_neg (by omega)]
            · show _ = if k < v then tvl T k else tvl T (k + m)
              rw [if_neg (by omega)]
          · obtain ⟨b0, b1, b2⟩ := hj k (by omega)
            exact ⟨(gi_ne (Or.inr (by omega))).trans ((nd3_ne (by omega)).trans b0), (gi_ne (Or.inr (by omega))).trans ((nd3_ne (by omega)).trans b1), (gi_ne (Or.inr (by omega))).trans ((nd3_ne (by omega)).trans b2)⟩
        · obtain ⟨b0, b1, b2⟩ := hk k (by omega) hk2
          exact ⟨(gi_ne (Or.inr (by omega))).trans ((nd3_ne (by omega)).trans b0), (gi_ne (Or.inr (by omega))).trans ((nd3_ne (by omega)).trans b1), (gi_ne (Or.inr (by omega))).trans ((nd3_ne (by omega)).trans b2)⟩
      have ev : tpa (dlT T v m) n = if (v : Int) ≤ tpa T (n + m) then tpa T (n + m) - m else tpa T (n + m) := by
        show (if n < v then tpa T n else _) = _
        rw [if_neg (by omega)]
      by_cases q : (v : Int) ≤ tpa T (n + m)
      · rw [if_pos q] at ev
        refine aw_aload_n dX12_shuts_65 rfl ?_
        refine aw_getr' (j := 0) dX12_shuts_66 fX12_7 rfl (by assumption) rfl (by assumption) ?_
        refine aw_iconst dX12_shuts_69 ?_
        refine aw_iconst dX12_shuts_70 ?_
        refine aw_iload_n dX12_shuts_71 rfl ?_
        refine aw_imul dX12_shuts_72 ?_
        refine aw_iadd dX12_shuts_73 ?_
        refine aw_iconst dX12_shuts_74 ?_
        refine aw_iadd dX12_shuts_75 ?_
        refine aw_dup2 dX12_shuts_76 rfl rfl ?_
        refine aw_iald' dX12_shuts_77 (by assumption) (by omega) (by first | decide | omega) e2 ?_
        refine aw_aload_n dX12_shuts_78 rfl ?_
        refine aw_iload_n dX12_shuts_79 rfl ?_
        refine aw_invV_r dX12_shuts_80 vX12_parentOf kX12_73 rfl (KP) ⟨_, (by assumption), _, _, rfl⟩ rfl rfl (by decide) (by decide) (by decide) (Nat.le_of_ble_eq_true rfl) ?_
        refine aw_iload_n dX12_shuts_83 rfl ?_
        refine aw_ic_lt (tgt := 91) dX12_shuts_84 rfl (by omega) (by omega) (fun c84 => ?_) (fun c84 => ?_)
        · exact absurd c84 (by omega)
        · refine aw_iload_n dX12_shuts_87 rfl ?_
          refine aw_goto (tgt := 92) dX12_shuts_88 rfl ?_
          refine aw_isub dX12_shuts_92 ?_
          refine aw_iast dX12_shuts_93 (by assumption) (by omega) (by first | decide | omega) ?_
          refine aw_iinc (k9 := 0) (ls1 := [(3, _), (0, _), (1, _), (2, _)]) dX12_shuts_94 rfl (by decide) rfl ?_
          refine aw_goto (tgt := 12) dX12_shuts_97 rfl ?_
          refine aw_sub [0, 1, 2, 3] rfl ?_
          exact fin _ (by omega)
      · rw [if_neg q] at ev
        refine aw_aload_n dX12_shuts_65 rfl ?_
        refine aw_getr' (j := 0) dX12_shuts_66 fX12_7 rfl (by assumption) rfl (by assumption) ?_
        refine aw_iconst dX12_shuts_69 ?_
        refine aw_iconst dX12_shuts_70 ?_
        refine aw_iload_n dX12_shuts_71 rfl ?_
        refine aw_imul dX12_shuts_72 ?_
        refine aw_iadd dX12_shuts_73 ?_
        refine aw_iconst dX12_shuts_74 ?_
        refine aw_iadd dX12_shuts_75 ?_
        refine aw_dup2 dX12_shuts_76 rfl rfl ?_
        refine aw_iald' dX12_shuts_77 (by assumption) (by omega) (by first | decide | omega) e2 ?_
        refine aw_aload_n dX12_shuts_78 rfl ?_
        refine aw_iload_n dX12_shuts_79 rfl ?_
        refine aw_invV_r dX12_shuts_80 vX12_parentOf kX12_73 rfl (KP) ⟨_, (by assumption), _, _, rfl⟩ rfl rfl (by decide) (by decide) (by decide) (Nat.le_of_ble_eq_true rfl) ?_
        refine aw_iload_n dX12_shuts_83 rfl ?_
        refine aw_ic_lt (tgt := 91) dX12_shuts_84 rfl (by omega) (by omega) (fun c84 => ?_) (fun c84 => ?_)
        · refine aw_iconst dX12_shuts_91 ?_
          refine aw_isub dX12_shuts_92 ?_
          refine aw_iast dX12_shuts_93 (by assumption) (by omega) (by first | decide | omega) ?_
          refine aw_iinc (k9 := 0) (ls1 := [(3, _), (0, _), (1, _), (2, _)]) dX12_shuts_94 rfl (by decide) rfl ?_
          refine aw_goto (tgt := 12) dX12_shuts_97 rfl ?_
          refine aw_sub [0, 1, 2, 3] rfl ?_
          exact fin _ (by omega)
        · exact absurd c84 (by omega))
    refine aw_iload_n dX12_shuts_12 rfl ?_
    refine aw_aload_n dX12_shuts_13 rfl ?_
    refine aw_getr' (j := 0) dX12_shuts_14 fX12_7 rfl (by assumption) rfl (by assumption) ?_
    refine aw_iconst dX12_shuts_17 ?_
    refine aw_iald' dX12_shuts_18 (by assumption) (by omega) (by first | decide | omega) g0 ?_
    refine aw_ic_ge (tgt := 100) dX12_shuts_19 rfl (by omega) (by omega) (fun c19 => ?_) (fun c19 => ?_)
    · exact absurd c19 (by omega)
    · refine aw_iconst dX12_shuts_22 ?_
      refine aw_istore (ls1 := [(4, _), (3, _), (0, _), (1, _), (2, _)]) dX12_shuts_23 (by decide) rfl ?_
      refine aw_sub [0, 1, 2, 3, 4] rfl ?_
      exact L
theorem m_shuts {γ : GG} {h : AH} {a v m : Nat} {T : Tr} (hM : shM h a) (hT : gTr (gi h (a + 1)) 0 T) (hr : rgT T) (hv : v + m ≤ tn T) (hm : 1 ≤ m) : Call γ mX12_shuts 1 0 0 [vr (some a), vi (v : Int), vi (m : Int)] h (rF (fun h' => gTr (gi h' (a + 1)) 0 (dlT T v m) ∧ eqG (SM a) h h')) := by
  have n40 := hr.1
  obtain ⟨hka, -, -⟩ := hM.q
  obtain ⟨rm, km⟩ := hM.m
  have g0 := hT.1
  have g0 : gi h (a + 1) 0 = (tn T : Int) := g0
  have L := l_sh12 (γ := γ) hM hT hr hv hm (tn T - m - v) v (si h (a + 1) 0 ((tn T : Int) - (m : Int))) (by omega) (Nat.le_refl _) (eqG.si ⟨rfl, by omega⟩) ((gi_at rfl rfl).trans (by omega)) (fun k hk => by
    obtain ⟨b0, b1, b2⟩ := gTr_c hT (show k < tn T by omega)
    refine ⟨(gi_ne (Or.inr (by omega))).trans (b0.trans ?_), (gi_ne (Or.inr (by omega))).trans (b1.trans ?_), (gi_ne (Or.inr (by omega))).trans (b2.trans ?_)⟩
    · show _ = if k < v then tnm T k else tnm T (k + m)
      rw [if_pos hk]
    · show _ = if k < v then tvl T k else tvl T (k + m)
      rw [if_pos hk]
    · show _ = if k < v then tpa T k else _
      rw [if_pos hk]) (fun k hk1 hk2 => by
    obtain ⟨b0, b1, b2⟩ := gTr_c hT hk2
    exact ⟨(gi_ne (Or.inr (by omega))).trans b0, (gi_ne (Or.inr (by omega))).trans b1, (gi_ne (Or.inr (by omega))).trans b2⟩)
  refine Call.of (ls := [(0, vr (some a)), (1, vi (v : Int)), (2, vi (m : Int))]) vX12_shuts.1 (Nat.le_of_ble_eq_true rfl) rfl ?_
  refine aw_aload_n dX12_shuts_0 rfl ?_
  refine aw_getr' (j := 0) dX12_shuts_1 fX12_7 rfl (by assumption) rfl (by assumption) ?_
  refine aw_iconst dX12_shuts_4 ?_
  refine aw_dup2 dX12_shuts_5 rfl rfl ?_
  refine aw_iald' dX12_shuts_6 (by assumption) (by omega) (by first | decide | omega) g0 ?_
  refine aw_iload_n dX12_shuts_7 rfl ?_
  refine aw_isub dX12_shuts_8 ?_
  refine aw_iast dX12_shuts_9 (by assumption) (by omega) (by first | decide | omega) ?_
  refine aw_iload_n dX12_shuts_10 rfl ?_
  refine aw_istore_n (ls1 := [(3, _), (0, _), (1, _), (2, _)]) dX12_shuts_11 (by decide) rfl ?_
  refine aw_sub [0, 1, 2, 3] rfl ?_
  exact L
theorem s_op17 {γ : GG} {a v m : Nat} {n : Int} {H : AH} {x y z : Int} {Q : AR → AH → Prop} (hM : shM H a) (hn : 0 ≤ n ∧ n + m < 40) (hm : 1 ≤ m) (c0 : gi H (a + 1) (1 + 3 * n + 0) = x) (c1 : gi H (a + 1) (1 + 3 * n + (0 + 1)) = y) (c2 : gi H (a + 1) (1 + 3 * n + (0 + 1 + 1)) = z) (kk : AW γ mX12_opens 1 0 0 57 [(3, vi n), (0, vr (some a)), (1, vi (v : Int)), (2, vi (m : Int))] [] (nd3 H a (n + m) x y z) Q) : AW γ mX12_opens 1 0 0 17 [(4, vi 0), (3, vi n), (0, vr (some a)), (1, vi (v : Int)), (2, vi (m : Int))] [] H Q := by
  obtain ⟨hka, -, -⟩ := hM.q
  obtain ⟨rm, km⟩ := hM.m
  unfold nd3 at kk
  refine aw_iload dX12_opens_17 rfl ?_
  refine aw_iconst dX12_opens_19 ?_
  refine aw_ic_ge (tgt := 57) dX12_opens_20 rfl (by omega) (by omega) (fun c20 => ?_) (fun c20 => ?_)
  · exact absurd c20 (by omega)
  · refine aw_aload_n dX12_opens_23 rfl ?_
    refine aw_getr' (j := 0) dX12_opens_24 fX12_7 rfl (by assumption) rfl (by assumption) ?_
    refine aw_iconst dX12_opens_27 ?_
    refine aw_iconst dX12_opens_28 ?_
    refine aw_iload_n dX12_opens_29 rfl ?_
    refine aw_iload_n dX12_opens_30 rfl ?_
    refine aw_iadd dX12_opens_31 ?_
    refine aw_imul dX12_opens_32 ?_
    refine aw_iadd dX12_opens_33 ?_
    refine aw_iload dX12_opens_34 rfl ?_
    refine aw_iadd dX12_opens_36 ?_
    refine aw_aload_n dX12_opens_37 rfl ?_
    refine aw_getr' (j := 0) dX12_opens_38 fX12_7 rfl (by assumption) rfl (by assumption) ?_
    refine aw_iconst dX12_opens_41 ?_
    refine aw_iconst dX12_opens_42 ?_
    refine aw_iload_n dX12_opens_43 rfl ?_
    refine aw_imul dX12_opens_44 ?_
    refine aw_iadd dX12_opens_45 ?_
    refine aw_iload dX12_opens_46 rfl ?_
    refine aw_iadd dX12_opens_48 ?_
    refine aw_iald' dX12_opens_49 (by assumption) (by omega) (by first | decide | omega) c0 ?_
    refine aw_iast dX12_opens_50 (by assumption) (by omega) (by first | decide | omega) ?_
    refine aw_iinc (k9 := 0) (ls1 := [(4, _), (3, _), (0, _), (1, _), (2, _)]) dX12_opens_51 rfl (by decide) rfl ?_
    refine aw_goto (tgt := 17) dX12_opens_54 rfl ?_
    refine aw_sub [0, 1, 2, 3, 4] rfl ?_
    refine aw_iload dX12_opens_17 rfl ?_
    refine aw_iconst dX12_opens_19 ?_
    refine aw_ic_ge (tgt := 57) dX12_opens_20 rfl (by omega) (by omega) (fun c20 => ?_) (fun c20 => ?_)
    · exact absurd c20 (by omega)
    · refine aw_aload_n dX12_opens_23 rfl ?_
      refine aw_getr' (j := 0) dX12_opens_24 fX12_7 rfl (by assumption) rfl (by assumption) ?_
      refine aw_iconst dX12_opens_27 ?_
      refine aw_iconst dX12_opens_28 ?_
      refine aw_iload_n dX12_opens_29 rfl ?_
      refine aw_iload_n dX12_opens_30 rfl ?_
      refine aw_iadd dX12_opens_31 ?_
      refine aw_imul dX12_opens_32 ?_
      refine aw_iadd dX12_opens_33 ?_
      refine aw_iload dX12_opens_34 rfl ?_
      refine aw_iadd dX12_opens_36 ?_
      refine aw_aload_n dX12_opens_37 rfl ?_
      refine aw_getr' (j := 0) dX12_opens_38 fX12_7 rfl (by assumption) rfl (by assumption) ?_
      refine aw_iconst dX12_opens_41 ?_
      refine aw_iconst dX12_opens_42 ?_
      refine aw_iload_n dX12_opens_43 rfl ?_
      refine aw_imul dX12_opens_44 ?_
      refine aw_iadd dX12_opens_45 ?_
      refine aw_iload dX12_opens_46 rfl ?_
      refine aw_iadd dX12_opens_48 ?_
      refine aw_iald' dX12_opens_49 (by assumption) (by omega) (by first | decide | omega) ((gi_ne (by omega)).trans c1) ?_
      refine aw_iast dX12_opens_50 (by assumption) (by omega) (by first | decide | omega) ?_
      refine aw_iinc (k9 := 0) (ls1 := [(4, _), (3, _), (0, _), (1, _), (2, _)]) dX12_opens_51 rfl (by decide) rfl ?_
      refine aw_goto (tgt := 17) dX12_opens_54 rfl ?_
      refine aw_sub [0, 1, 2, 3, 4] rfl ?_
      refine aw_iload dX12_opens_17 rfl ?_
      refine aw_iconst dX12_opens_19 ?_
      refine aw_ic_ge (tgt := 57) dX12_opens_20 rfl (by omega) (by omega) (fun c20 => ?_) (fun c20 => ?_)
      · exact absurd c20 (by omega)
      · refine aw_aload_n dX12_opens_23 rfl ?_
        refine aw_getr' (j := 0) dX12_opens_24 fX12_7 rfl (by assumption) rfl (by assumption) ?_
        refine aw_iconst dX12_opens_27 ?_
        refine aw_iconst dX12_opens_28 ?_
        refine aw_iload_n dX12_opens_29 rfl ?_
        refine aw_iload_n dX12_opens_30 rfl ?_
        refine aw_iadd dX12_opens_31 ?_
        refine aw_imul dX12_opens_32 ?_
        refine aw_iadd dX12_opens_33 ?_
        refine aw_iload dX12_opens_34 rfl ?_
        refine aw_iadd dX12_opens_36 ?_
        refine aw_aload_n dX12_opens_37 rfl ?_
        refine aw_getr' (j := 0) dX12_opens_38 fX12_7 rfl (by assumption) rfl (by assumption) ?_
        refine aw_iconst dX12_opens_41 ?_
        refine aw_iconst dX12_opens_42 ?_
        refine aw_iload_n dX12_opens_43 rfl ?_
        refine aw_imul dX12_opens_44 ?_
        refine aw_iadd dX12_opens_45 ?_
        refine aw_iload dX12_opens_46 rfl ?_
        refine aw_iadd dX12_opens_48 ?_
        refine aw_iald' dX12_opens_49 (by assumption) (by omega) (by first | decide | omega) ((gi_ne (by omega)).trans ((gi_ne (by omega)).trans c2)) ?_
        refine aw_iast dX12_opens_50 (by assumption) (by omega) (by first | decide | omega) ?_
        refine aw_iinc (k9 := 0) (ls1 := [(4, _), (3, _), (0, _), (1, _), (2, _)]) dX12_opens_51 rfl (by decide) rfl ?_
        refine aw_goto (tgt := 17) dX12_opens_54 rfl ?_
        refine aw_sub [0, 1, 2, 3, 4] rfl ?_
        refine aw_iload dX12_opens_17 rfl ?_
        refine aw_iconst dX12_opens_19 ?_
        refine aw_ic_ge (tgt := 57) dX12_opens_20 rfl (by omega) (by omega) (fun c20 => ?_) (fun c20 => ?_)
        · refine aw_sub [1, 2, 3, 4] rfl ?_
          exact kk
        · exact absurd c20 (by omega)
/-- room made for m nodes at v -/
def opP (f : Int → Int) (T : Tr) (v m : Nat) : Prop := f 0 = ((tn T + m : Nat) : Int) ∧ (∀ k, k < v → nd f k (tnm T k) (tvl T k) (tpa T k)) ∧ ∀ k : Nat, v ≤ k → k < tn T → nd f ((k : Int) + m) (tnm T k) (tvl T k) (if (v : Int) ≤ tpa T k then tpa T k + m else tpa T k)
theorem l_op67 {γ : GG} {h : AH} {a v m : Nat} {T : Tr} (hM : shM h a) (hr : rgT T) (hv : v ≤ tn T) (hm : 1 ≤ m) (hnm : tn T + m ≤ 40) : ∀ (f n : Nat) (H : AH), n + f = tn T → v ≤ n → eqG (SM a) h H → gi H (a + 1) 0 = (tn T : Int) → (∀ k, k < v → nd (gi H (a + 1)) k (tnm T k) (tvl T k) (tpa T k)) → (∀ k : Nat, v ≤ k → k < n → nd (gi H (a + 1)) ((k : Int) + m) (tnm T k) (tvl T k) (if (v : Int) ≤ tpa T k then tpa T k + m else tpa T k)) → (∀ k : Nat, n ≤ k → k < tn T → nd (gi H (a + 1)) ((k : Int) + m) (tnm T k) (tvl T k) (tpa T k)) → AW γ mX12_opens 1 0 0 67 [(3, vi ((n : Int) + (m : Int))), (0, vr (some a)), (1, vi (v : Int)), (2, vi (m : Int))] [] H (rF (fun h' => opP (gi h' (a + 1)) T v m ∧ eqG (SM a) h h')) := by
  intro f
  induction f with
  | zero =>
    intro n H hnf hvn hE g0 h1 h2 h3
    obtain ⟨hka, -, -⟩ := (hE.sh hM).q
    obtain ⟨rm, km⟩ := (hE.sh hM).m
    refine aw_iload_n dX12_opens_67 rfl ?_
    refine aw_aload_n dX12_opens_68 rfl ?_
    refine aw_getr' (j := 0) dX12_opens_69 fX12_7 rfl (by assumption) rfl (by assumption) ?_
    refine aw_iconst dX12_opens_72 ?_
    refine aw_iald' dX12_opens_73 (by assumption) (by omega) (by first | decide | omega) g0 ?_
    refine aw_iload_n dX12_opens_74 rfl ?_
    refine aw_iadd dX12_opens_75 ?_
    refine aw_ic_ge (tgt := 114) dX12_opens_76 rfl (by omega) (by omega) (fun c76 => ?_) (fun c76 => ?_)
    · refine aw_aload_n dX12_opens_114 rfl ?_
      refine aw_getr' (j := 0) dX12_opens_115 fX12_7 rfl (by assumption) rfl (by assumption) ?_
      refine aw_iconst dX12_opens_118 ?_
      refine aw_dup2 dX12_opens_119 rfl rfl ?_
      refine aw_iald' dX12_opens_120 (by assumption) (by omega) (by first | decide | omega) g0 ?_
      refine aw_iload_n dX12_opens_121 rfl ?_
      refine aw_iadd dX12_opens_122 ?_
      refine aw_iast dX12_opens_123 (by assumption) (by omega) (by first | decide | omega) ?_
      exact aw_return dX12_opens_124 rfl (Or.inl rfl) ⟨rfl, ⟨(gi_at rfl rfl).trans (by omega), fun k hk => by obtain ⟨b0, b1, b2⟩ := h1 k hk; exact ⟨(gi_ne (Or.inr (by omega))).trans b0, (gi_ne (Or.inr (by omega))).trans b1, (gi_ne (Or.inr (by omega))).trans b2⟩, fun k hk1 hk2 => by obtain ⟨b0, b1, b2⟩ := h2 k hk1 (by omega); exact ⟨(gi_ne (Or.inr (by omega))).trans b0, (gi_ne (Or.inr (by omega))).trans b1, (gi_ne (Or.inr (by omega))).trans b2⟩⟩, hE.tr (eqG.si ⟨rfl, by omega⟩)⟩
    · exact absurd c76 (by omega)
  | succ f ih =>
    intro n H hnf hvn hE g0 h1 h2 h3
    have hM1 := hE.sh hM
    obtain ⟨hka, -, -⟩ := hM1.q
    obtain ⟨rm, km⟩ := hM1.m
    obtain ⟨c0, c1, c2⟩ := h3 n (Nat.le_refl _) (by omega)
    have hp := hr.2 n (by omega)
    have KP := m_parentOf (γ := γ) (n := (n : Int) + (m : Int)) hM1 (by omega)
    rw [c2] at KP
    have fin : ∀ z : Int, z = (if (v : Int) ≤ tpa T n then tpa T n + m else tpa T n) → AW γ mX12_opens 1 0 0 67 [(3, vi (((n + 1 : Nat) : Int) + (m : Int))), (0, vr (some a)), (1, vi (v : Int)), (2, vi (m : Int))] [] (si H (a + 1) (1 + 3 * ((n : Int) + (m : Int)) + 2) z) (rF (fun h' => opP (gi h' (a + 1)) T v m ∧ eqG (SM a) h h')) := fun z hz => by
      refine ih (n + 1) _ (by omega) (by omega) (hE.tr (eqG.si ⟨rfl, by omega⟩)) ((gi_ne (Or.inr (by omega))).trans g0) (fun k hk => ?_) (fun k hk1 hk2 => ?_) (fun k hk1 hk2 => ?_)
      · obtain ⟨b0, b1, b2⟩ := h1 k hk
        exact ⟨(gi_ne (Or.inr (by omega))).trans b0, (gi_ne (Or.inr (by omega))).trans b1, (gi_ne (Or.inr (by omega))).trans b2⟩
      · by_cases q : k = n
        · subst q
          exact ⟨(gi_ne (Or.inr (by omega))).trans c0, (gi_ne (Or.inr (by omega))).trans c1, (gi_at rfl rfl).trans hz⟩
        · obtain ⟨b0, b1, b2⟩ := h2 k hk1 (by omega)
          exact ⟨(gi_ne (Or.inr (by omega))).trans b0, (gi_ne (Or.inr (by omega))).trans b1, (gi_ne (Or.inr (by omega))).trans b2⟩
      · obtain ⟨b0, b1, b2⟩ := h3 k (by omega) hk2
        exact ⟨(gi_ne (Or.inr (by omega))).trans b0, (gi_ne (Or.inr (by omega))).trans b1, (gi_ne (Or.inr (by omega))).trans b2⟩
    rw [show ((n + 1 : Nat) : Int) + (m : Int) = (n : Int) + (m : Int) + 1 by omega] at fin
    by_cases q : (v : Int) ≤ tpa T n
    · rw [if_pos q] at fin
      refine aw_iload_n dX12_opens_67 rfl ?_
      refine aw_aload_n dX12_opens_68 rfl ?_
      refine aw_getr' (j := 0) dX12_opens_69 fX12_7 rfl (by assumption) rfl (by assumption) ?_
      refine aw_iconst dX12_opens_72 ?_
      refine aw_iald' dX12_opens_73 (by assumption) (by omega) (by first | decide | omega) g0 ?_
      refine aw_iload_n dX12_opens_74 rfl ?_
      refine aw_iadd dX12_opens_75 ?_
      refine aw_ic_ge (tgt := 114) dX12_opens_76 rfl (by omega) (by omega) (fun c76 => ?_) (fun c76 => ?_)
      · exact absurd c76 (by omega)
      · refine aw_aload_n dX12_opens_79 rfl ?_
        refine aw_getr' (j := 0) dX12_opens_80 fX12_7 rfl (by assumption) rfl (by assumption) ?_
        refine aw_iconst dX12_opens_83 ?_
        refine aw_iconst dX12_opens_84 ?_
        refine aw_iload_n dX12_opens_85 rfl ?_
        refine aw_imul dX12_opens_86 ?_
        refine aw_iadd dX12_opens_87 ?_
        refine aw_iconst dX12_opens_88 ?_
        refine aw_iadd dX12_opens_89 ?_
        refine aw_dup2 dX12_opens_90 rfl rfl ?_
        refine aw_iald' dX12_opens_91 (by assumption) (by omega) (by first | decide | omega) c2 ?_
        refine aw_aload_n dX12_opens_92 rfl ?_
        refine aw_iload_n dX12_opens_93 rfl ?_
        refine aw_invV_r dX12_opens_94 vX12_parentOf kX12_73 rfl (KP) ⟨_, (by assumption), _, _, rfl⟩ rfl rfl (by decide) (by decide) (by decide) (Nat.le_of_ble_eq_true rfl) ?_
        refine aw_iload_n dX12_opens_97 rfl ?_
        refine aw_ic_lt (tgt := 105) dX12_opens_98 rfl (by omega) (by omega) (fun c98 => ?_) (fun c98 => ?_)
        · exact absurd c98 (by omega)
        · refine aw_iload_n dX12_opens_101 rfl ?_
          refine aw_goto (tgt := 106) dX12_opens_102 rfl ?_
          refine aw_iadd dX12_opens_106 ?_
          refine aw_iast dX12_opens_107 (by assumption) (by omega) (by first | decide | omega) ?_
          refine aw_iinc (k9 := 0) (ls1 := [(3, _), (0, _), (1, _), (2, _)]) dX12_opens_108 rfl (by decide) rfl ?_
          refine aw_goto (tgt := 67) dX12_opens_111 rfl ?_
          refine aw_sub [0, 1, 2, 3] rfl ?_
          exact fin _ rfl
    · rw [if_neg q] at fin
      refine aw_iload_n dX12_opens_67 rfl ?_
      refine aw_aload_n dX12_opens_68 rfl ?_
      refine aw_getr' (j := 0) dX12_opens_69 fX12_7 rfl (by assumption) rfl (by assumption) ?_
      refine aw_iconst dX12_opens_72 ?_
      refine aw_iald' dX12_opens_73 (by assumption) (by omega) (by first | decide | omega) g0 ?_
      refine aw_iload_n dX12_opens_74 rfl ?_
      refine aw_iadd dX12_opens_75 ?_
      refine aw_ic_ge (tgt := 114) dX12_opens_76 rfl (by omega) (by omega) (fun c76 => ?_) (fun c76 => ?_)
      · exact absurd c76 (by omega)
      · refine aw_aload_n dX12_opens_79 rfl ?_
        refine aw_getr' (j := 0) dX12_opens_80 fX12_7 rfl (by assumption) rfl (by assumption) ?_
        refine aw_iconst dX12_opens_83 ?_
        refine aw_iconst dX12_opens_84 ?_
        refine aw_iload_n dX12_opens_85 rfl ?_
        refine aw_imul dX12_opens_86 ?_
        refine aw_iadd dX12_opens_87 ?_
        refine aw_iconst dX12_opens_88 ?_
        refine aw_iadd dX12_opens_89 ?_
        refine aw_dup2 dX12_opens_90 rfl rfl ?_
        refine aw_iald' dX12_opens_91 (by assumption) (by omega) (by first | decide | omega) c2 ?_
        refine aw_aload_n dX12_opens_92 rfl ?_
        refine aw_iload_n dX12_opens_93 rfl ?_
        refine aw_invV_r dX12_opens_94 vX12_parentOf kX12_73 rfl (KP) ⟨_, (by assumption), _, _, rfl⟩ rfl rfl (by decide) (by decide) (by decide) (Nat.le_of_ble_eq_true rfl) ?_
        refine aw_iload_n dX12_opens_97 rfl ?_
        refine aw_ic_lt (tgt := 105) dX12_opens_98 rfl (by omega) (by omega) (fun c98 => ?_) (fun c98 => ?_)
        · refine aw_iconst dX12_opens_105 ?_
          refine aw_iadd dX12_opens_106 ?_
          refine aw_iast dX12_opens_107 (by assumption) (by omega) (by first | decide | omega) ?_
          refine aw_iinc (k9 := 0) (ls1 := [(3, _), (0, _), (1, _), (2, _)]) dX12_opens_108 rfl (by decide) rfl ?_
          refine aw_goto (tgt := 67) dX12_opens_111 rfl ?_
          refine aw_sub [0, 1, 2, 3] rfl ?_
          exact fin _ (Int.add_zero _)
        · exact absurd c98 (by omega)
theorem l_op9 {γ : GG} {h : AH} {a v m : Nat} {T : Tr} (hM : shM h a) (hr : rgT T) (hv : v ≤ tn T) (hm : 1 ≤ m) (hnm : tn T + m ≤ 40) : ∀ (f : Nat) (n : Int) (H : AH), n + 1 = v + f → n < tn T → eqG (SM a) h H → gi H (a + 1) 0 = (tn T : Int) → (∀ k : Nat, (k : Int) ≤ n → nd (gi H (a + 1)) k (tnm T k) (tvl T k) (tpa T k)) → (∀ k : Nat, n < k → k < tn T → nd (gi H (a + 1)) ((k : Int) + m) (tnm T k) (tvl T k) (tpa T k)) → AW γ mX12_opens 1 0 0 9 [(3, vi n), (0, vr (some a)), (1, vi (v : Int)), (2, vi (m : Int))] [] H (rF (fun h' => opP (gi h' (a + 1)) T v m ∧ eqG (SM a) h h')) := by
  intro f
  induction f with
  | zero =>
    intro n H hnf hn hE g0 h1 h2
    have L := l_op67 (γ := γ) hM hr hv hm hnm (tn T - v) v H (by omega) (Nat.le_refl _) hE g0 (fun k hk => h1 k (by omega)) (fun k hk1 hk2 => absurd hk2 (by omega)) (fun k hk1 hk2 => h2 k (by omega) hk2)
    refine aw_iload_n dX12_opens_9 rfl ?_
    refine aw_iload_n dX12_opens_10 rfl ?_
    refine aw_ic_lt (tgt := 63) dX12_opens_11 rfl (by omega) (by omega) (fun c11 => ?_) (fun c11 => ?_)
    · refine aw_iload_n dX12_opens_63 rfl ?_
      refine aw_iload_n dX12_opens_64 rfl ?_
      refine aw_iadd dX12_opens_65 ?_
      refine aw_istore_n (ls1 := [(3, _), (0, _), (1, _), (2, _)]) dX12_opens_66 (by decide) rfl ?_
      refine aw_sub [0, 1, 2, 3] rfl ?_
      exact L
    · exact absurd c11 (by omega)
  | succ f ih =>
    intro n H hnf hn hE g0 h1 h2
    have hM1 := hE.sh hM
    obtain ⟨n9, rfl⟩ := Int.eq_ofNat_of_zero_le (show 0 ≤ n by omega)
    obtain ⟨c0, c1, c2⟩ := h1 n9 (by omega)
    have L := s_op17 (γ := γ) (a := a) (v := v) (m := m) (n := (n9 : Int)) (H := H) (x := tnm T n9) (y := tvl T n9) (z := tpa T n9) (Q := rF (fun h' => opP (gi h' (a + 1)) T v m ∧ eqG (SM a) h h')) hM1 (by omega) hm (by rw [Int.add_zero]; exact c0) c1 c2 (by
      have E1 : eqG (SM a) h (nd3 H a ((n9 : Int) + m) (tnm T n9) (tvl T n9) (tpa T n9)) := hE.tr (eqG_nd3 (by omega))
      have I := ih ((n9 : Int) + (-1)) (nd3 H a ((n9 : Int) + m) (tnm T n9) (tvl T n9) (tpa T n9)) (by omega) (by omega) E1 ((nd3_ne (by omega)).trans g0) (fun k hk => by
        obtain ⟨b0, b1, b2⟩ := h1 k (by omega)
        exact ⟨(nd3_ne (by omega)).trans b0, (nd3_ne (by omega)).trans b1, (nd3_ne (by omega)).trans b2⟩) (fun k hk1 hk2 => by
        by_cases q : k = n9
        · subst q
          exact nd3_at H a ((k : Int) + m) (tnm T k) (tvl T k) (tpa T k)
        · obtain ⟨b0, b1, b2⟩ := h2 k (by omega) hk2
          exact ⟨(nd3_ne (by omega)).trans b0, (nd3_ne (by omega)).trans b1, (nd3_ne (by omega)).trans b2⟩)
      refine aw_iinc (k9 := 0) (ls1 := [(3, _), (0, _), (1, _), (2, _)]) dX12_opens_57 rfl (by decide) rfl ?_
      refine aw_goto (tgt := 9) dX12_opens_60 rfl ?_
      refine aw_sub [0, 1, 2, 3] rfl ?_
      exact I)
    refine aw_iload_n dX12_opens_9 rfl ?_
    refine aw_iload_n dX12_opens_10 rfl ?_
    refine aw_ic_lt (tgt := 63) dX12_opens_11 rfl (by omega) (by omega) (fun c11 => ?_) (fun c11 => ?_)
    · exact absurd c11 (by omega)
    · refine aw_iconst dX12_opens_14 ?_
      refine aw_istore (ls1 := [(4, _), (3, _), (0, _), (1, _), (2, _)]) dX12_opens_15 (by decide) rfl ?_
      refine aw_sub [0, 1, 2, 3, 4] rfl ?_
      exact L
theorem m_opens {γ : GG} {h : AH} {a v m : Nat} {T : Tr} (hM : shM h a) (hT : gTr (gi h (a + 1)) 0 T) (hr : rgT T) (hv : v ≤ tn T) (hm : 1 ≤ m) (hnm : tn T + m ≤ 40) : Call γ mX12_opens 1 0 0 [vr (some a), vi (v : Int), vi (m : Int)] h (rF (fun h' => opP (gi h' (a + 1)) T v m ∧ eqG (SM a) h h')) := by
  obtain ⟨hka, -, -⟩ := hM.q
  obtain ⟨rm, km⟩ := hM.m
  have g0 : gi h (a + 1) 0 = (tn T : Int) := hT.1
  have L := l_op9 (γ := γ) hM hr hv hm hnm (tn T - v) ((tn T : Int) - 1) h (by omega) (by omega) eqG.rf g0 (fun k hk => gTr_c hT (by omega)) (fun k hk1 hk2 => absurd hk1 (by omega))
  refine Call.of (ls := [(0, vr (some a)), (1, vi (v : Int)), (2, vi (m : Int))]) vX12_opens.1 (Nat.le_of_ble_eq_true rfl) rfl ?_
  refine aw_aload_n dX12_opens_0 rfl ?_
  refine aw_getr' (j := 0) dX12_opens_1 fX12_7 rfl (by assumption) rfl (by assumption) ?_
  refine aw_iconst dX12_opens_4 ?_
  refine aw_iald' dX12_opens_5 (by assumption) (by omega) (by first | decide | omega) g0 ?_
  refine aw_iconst dX12_opens_6 ?_
  refine aw_isub dX12_opens_7 ?_
  refine aw_istore_n (ls1 := [(3, _), (0, _), (1, _), (2, _)]) dX12_opens_8 (by decide) rfl ?_
  refine aw_sub [0, 1, 2, 3] rfl ?_
  exact L
