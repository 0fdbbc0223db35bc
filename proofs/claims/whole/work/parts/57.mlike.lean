/-! ===== the model: likeness by what is written ===== -/
theorem gi_mputs_b (a : Nat) : ∀ (l : List Int) (h : AH) (j : Int), gi (mputs a h l) (a + 8) j = if gi h a 14 ≤ j ∧ j < gi h a 14 + l.length then l.getD (j - gi h a 14).toNat 0 else gi h (a + 8) j := by
  intro l
  induction l with
  | nil =>
    intro h j
    rw [show mputs a h [] = h from rfl, if_neg]
    simp
  | cons c l ih =>
    intro h j
    rw [← mputs_cs, ih, gi14]
    simp only [List.length_cons]
    by_cases h1 : j = gi h a 14
    · rw [if_neg (by omega), if_pos (by omega)]
      have e : (j - gi h a 14).toNat = 0 := by omega
      rw [e]
      unfold mput
      rw [gi_ne (Or.inl (by omega)), gi_at rfl h1]
      rfl
    · by_cases h2 : gi h a 14 ≤ j ∧ j < gi h a 14 + (l.length + 1)
      · rw [if_pos (by omega), if_pos (by omega)]
        have e : (j - gi h a 14).toNat = (j - (gi h a 14 + 1)).toNat + 1 := by omega
        rw [e]
        rfl
      · rw [if_neg (by omega), if_neg (by omega)]
        unfold mput
        rw [gi_ne (Or.inl (by omega)), gi_ne (Or.inr h1)]
/-- what stands in out -/
def isO9 (h : AH) (a : Nat) (l : List Int) : Prop := gi h a 14 = l.length ∧ ∀ (k : Nat) (c : Int), l[k]? = some c → gi h (a + 8) k = c
theorem isO9_of {h : AH} {a : Nat} (l : List Int) (h0 : gi h a 14 = 0) : isO9 (mputs a h l) a l := by
  refine ⟨by rw [gi_mputs_len, h0]; omega, fun k c hk => ?_⟩
  have := lt_of_get hk
  rw [gi_mputs_b, h0, if_pos (by omega), show ((k : Int) - 0).toNat = k by omega, List.getD_eq_getElem?_getD, hk]
  rfl
theorem l_half {γ : GG} {h : AH} {a : Nat} {l m : List Int} (hM : shM h a) (hO : isO9 h a (l ++ m)) (hl : l.length + m.length ≤ 1000) (e : l.length = m.length) (hby : byt l ∧ byt m) : ∀ (j k : Nat), k + j = l.length → l.take k = m.take k → AW γ mX12_areHalvesAlike 0 0 0 18 [(3, vi (k : Int)), (2, vi 1), (0, vr (some a)), (1, vi (l.length : Int))] [] h (rV (vi (if l = m then 1 else 0)) h) := by
  obtain ⟨hk, -, -, -, -, -, -, -, ⟨ro, ko⟩, -⟩ := hM
  intro j
  induction j with
  | zero =>
    intro k hkj ht
    rw [if_pos (by rw [show k = l.length by omega] at ht; rw [List.take_length] at ht; rw [e, List.take_length] at ht; exact ht)]
    refine aw_iload_n dX12_areHalvesAlike_18 rfl ?_
    refine aw_iload_n dX12_areHalvesAlike_19 rfl ?_
    refine aw_ic_ge (tgt := 56) dX12_areHalvesAlike_20 rfl (by omega) (by omega) (fun c20 => ?_) (fun c20 => ?_)
    · refine aw_iload_n dX12_areHalvesAlike_56 rfl ?_
      exact aw_zreturn dX12_areHalvesAlike_57 rfl (by omega) (Or.inl rfl) ⟨rfl, rfl⟩
    · exact absurd c20 (by omega)
  | succ j ih =>
    intro k hkj ht
    obtain ⟨x, hx⟩ : ∃ x, l[k]? = some x := ⟨_, List.getElem?_eq_getElem (by omega)⟩
    obtain ⟨y, hy⟩ : ∃ y, m[k]? = some y := ⟨_, List.getElem?_eq_getElem (by omega)⟩
    have gx := hO.2 k x (by rw [List.getElem?_append_left (by omega)]; exact hx)
    have gy := hO.2 (l.length + k) y (by rw [List.getElem?_append_right (by omega), show l.length + k - l.length = k by omega]; exact hy)
    have gy2 : gi h (a + 8) ((l.length : Int) + (k : Int)) = y := by rw [show (l.length : Int) + (k : Int) = ((l.length + k : Nat) : Int) by omega]; exact gy
    have bx := hby.1 x (List.mem_of_getElem? hx)
    have bY := hby.2 y (List.mem_of_getElem? hy)
    by_cases q : x = y
    · have I := ih (k + 1) (by omega) (by rw [take_snoc hx, take_snoc hy, ht, q])
      refine aw_iload_n dX12_areHalvesAlike_18 rfl ?_
      refine aw_iload_n dX12_areHalvesAlike_19 rfl ?_
      refine aw_ic_ge (tgt := 56) dX12_areHalvesAlike_20 rfl (by omega) (by omega) (fun c20 => ?_) (fun c20 => ?_)
      · exact absurd c20 (by omega)
      · refine aw_iload_n dX12_areHalvesAlike_23 rfl ?_
        refine aw_if_eq (tgt := 56) dX12_areHalvesAlike_24 rfl (by omega) (fun c24 => ?_) (fun c24 => ?_)
        · exact absurd c24 (by omega)
        · refine aw_aload_n dX12_areHalvesAlike_27 rfl ?_
          refine aw_getr' (j := 13) dX12_areHalvesAlike_28 fX12_31 rfl (by assumption) rfl (by assumption) ?_
          refine aw_iload_n dX12_areHalvesAlike_31 rfl ?_
          refine aw_iald' dX12_areHalvesAlike_32 (by assumption) (by omega) (by first | decide | omega) gx ?_
          refine aw_aload_n dX12_areHalvesAlike_33 rfl ?_
          refine aw_getr' (j := 13) dX12_areHalvesAlike_34 fX12_31 rfl (by assumption) rfl (by assumption) ?_
          refine aw_iload_n dX12_areHalvesAlike_37 rfl ?_
          refine aw_iload_n dX12_areHalvesAlike_38 rfl ?_
          refine aw_iadd dX12_areHalvesAlike_39 ?_
          refine aw_iald' dX12_areHalvesAlike_40 (by assumption) (by omega) (by first | decide | omega) gy2 ?_
          refine aw_ic_ne (tgt := 48) dX12_areHalvesAlike_41 rfl (by omega) (by omega) (fun c41 => ?_) (fun c41 => ?_)
          · exact absurd c41 (by omega)
          · refine aw_iconst dX12_areHalvesAlike_44 ?_
            refine aw_goto (tgt := 49) dX12_areHalvesAlike_45 rfl ?_
            refine aw_istore_n (ls1 := [(2, _), (3, _), (0, _), (1, _)]) dX12_areHalvesAlike_49 (by decide) rfl ?_
            refine aw_iinc (k9 := 1) (ls1 := [(3, _), (2, _), (0, _), (1, _)]) dX12_areHalvesAlike_50 rfl (by decide) rfl ?_
            refine aw_goto (tgt := 18) dX12_areHalvesAlike_53 rfl ?_
            refine aw_sub [0, 1, 2, 3] rfl ?_
            exact I
    · rw [if_neg (fun z => q (by rw [z] at hx; rw [hx] at hy; exact Option.some.inj hy))]
      refine aw_iload_n dX12_areHalvesAlike_18 rfl ?_
      refine aw_iload_n dX12_areHalvesAlike_19 rfl ?_
      refine aw_ic_ge (tgt := 56) dX12_areHalvesAlike_20 rfl (by omega) (by omega) (fun c20 => ?_) (fun c20 => ?_)
      · exact absurd c20 (by omega)
      · refine aw_iload_n dX12_areHalvesAlike_23 rfl ?_
        refine aw_if_eq (tgt := 56) dX12_areHalvesAlike_24 rfl (by omega) (fun c24 => ?_) (fun c24 => ?_)
        · exact absurd c24 (by omega)
        · refine aw_aload_n dX12_areHalvesAlike_27 rfl ?_
          refine aw_getr' (j := 13) dX12_areHalvesAlike_28 fX12_31 rfl (by assumption) rfl (by assumption) ?_
          refine aw_iload_n dX12_areHalvesAlike_31 rfl ?_
          refine aw_iald' dX12_areHalvesAlike_32 (by assumption) (by omega) (by first | decide | omega) gx ?_
          refine aw_aload_n dX12_areHalvesAlike_33 rfl ?_
          refine aw_getr' (j := 13) dX12_areHalvesAlike_34 fX12_31 rfl (by assumption) rfl (by assumption) ?_
          refine aw_iload_n dX12_areHalvesAlike_37 rfl ?_
          refine aw_iload_n dX12_areHalvesAlike_38 rfl ?_
          refine aw_iadd dX12_areHalvesAlike_39 ?_
          refine aw_iald' dX12_areHalvesAlike_40 (by assumption) (by omega) (by first | decide | omega) gy2 ?_
          refine aw_ic_ne (tgt := 48) dX12_areHalvesAlike_41 rfl (by omega) (by omega) (fun c41 => ?_) (fun c41 => ?_)
          · refine aw_iconst dX12_areHalvesAlike_48 ?_
            refine aw_istore_n (ls1 := [(2, _), (3, _), (0, _), (1, _)]) dX12_areHalvesAlike_49 (by decide) rfl ?_
            refine aw_iinc (k9 := 1) (ls1 := [(3, _), (2, _), (0, _), (1, _)]) dX12_areHalvesAlike_50 rfl (by decide) rfl ?_
            refine aw_goto (tgt := 18) dX12_areHalvesAlike_53 rfl ?_
            refine aw_sub [0, 1, 2, 3] rfl ?_
            refine aw_iload_n dX12_areHalvesAlike_18 rfl ?_
            refine aw_iload_n dX12_areHalvesAlike_19 rfl ?_
            refine aw_ic_ge (tgt := 56) dX12_areHalvesAlike_20 rfl (by omega) (by omega) (fun c20 => ?_) (fun c20 => ?_)
            · skip
              refine aw_iload_n dX12_areHalvesAlike_56 rfl ?_
              exact aw_zreturn dX12_areHalvesAlike_57 rfl (by omega) (Or.inl rfl) ⟨rfl, rfl⟩
            · refine aw_iload_n dX12_areHalvesAlike_23 rfl ?_
              refine aw_if_eq (tgt := 56) dX12_areHalvesAlike_24 rfl (by omega) (fun c24 => ?_) (fun c24 => ?_)
              · refine aw_iload_n dX12_areHalvesAlike_56 rfl ?_
                exact aw_zreturn dX12_areHalvesAlike_57 rfl (by omega) (Or.inl rfl) ⟨rfl, rfl⟩
              · exact absurd c24 (by omega)
          · exact absurd c41 (by omega)
theorem m_half {γ : GG} {h : AH} {a : Nat} {l m : List Int} (hM : shM h a) (hO : isO9 h a (l ++ m)) (hl : l.length + m.length ≤ 1000) (hby : byt l ∧ byt m) : Call γ mX12_areHalvesAlike 0 0 0 [vr (some a), vi (l.length : Int)] h (rV (vi (if l = m then 1 else 0)) h) := by
  have hk := hM.1
  have h0 := hO.1
  rw [List.length_append] at h0
  by_cases e : l.length = m.length
  · have L := l_half (γ := γ) hM hO hl e hby l.length 0 (by omega) (by simp)
    refine Call.of (ls := [(0, vr (some a)), (1, vi (l.length : Int))]) vX12_areHalvesAlike.1 (Nat.le_of_ble_eq_true rfl) rfl ?_
    refine aw_aload_n dX12_areHalvesAlike_0 rfl ?_
    refine aw_geti' (j := 14) dX12_areHalvesAlike_1 fX12_186 rfl (by assumption) rfl h0 ?_
    refine aw_iconst dX12_areHalvesAlike_4 ?_
    refine aw_iload_n dX12_areHalvesAlike_5 rfl ?_
    refine aw_imul dX12_areHalvesAlike_6 ?_
    refine aw_ic_ne (tgt := 14) dX12_areHalvesAlike_7 rfl (by omega) (by omega) (fun c7 => ?_) (fun c7 => ?_)
    · exact absurd c7 (by omega)
    · refine aw_iconst dX12_areHalvesAlike_10 ?_
      refine aw_goto (tgt := 15) dX12_areHalvesAlike_11 rfl ?_
      refine aw_istore_n (ls1 := [(2, _), (0, _), (1, _)]) dX12_areHalvesAlike_15 (by decide) rfl ?_
      refine aw_iconst dX12_areHalvesAlike_16 ?_
      refine aw_istore_n (ls1 := [(3, _), (2, _), (0, _), (1, _)]) dX12_areHalvesAlike_17 (by decide) rfl ?_
      refine aw_sub [0, 1, 2, 3] rfl ?_
      exact L
  · rw [if_neg (fun z => e (by rw [z]))]
    refine Call.of (ls := [(0, vr (some a)), (1, vi (l.length : Int))]) vX12_areHalvesAlike.1 (Nat.le_of_ble_eq_true rfl) rfl ?_
    refine aw_aload_n dX12_areHalvesAlike_0 rfl ?_
    refine aw_geti' (j := 14) dX12_areHalvesAlike_1 fX12_186 rfl (by assumption) rfl h0 ?_
    refine aw_iconst dX12_areHalvesAlike_4 ?_
    refine aw_iload_n dX12_areHalvesAlike_5 rfl ?_
    refine aw_imul dX12_areHalvesAlike_6 ?_
    refine aw_ic_ne (tgt := 14) dX12_areHalvesAlike_7 rfl (by omega) (by omega) (fun c7 => ?_) (fun c7 => ?_)
    · refine aw_iconst dX12_areHalvesAlike_14 ?_
      refine aw_istore_n (ls1 := [(2, _), (0, _), (1, _)]) dX12_areHalvesAlike_15 (by decide) rfl ?_
      refine aw_iconst dX12_areHalvesAlike_16 ?_
      refine aw_istore_n (ls1 := [(3, _), (2, _), (0, _), (1, _)]) dX12_areHalvesAlike_17 (by decide) rfl ?_
      refine aw_iload_n dX12_areHalvesAlike_18 rfl ?_
      refine aw_iload_n dX12_areHalvesAlike_19 rfl ?_
      refine aw_ic_ge (tgt := 56) dX12_areHalvesAlike_20 rfl (by omega) (by omega) (fun c20 => ?_) (fun c20 => ?_)
      · skip
        refine aw_iload_n dX12_areHalvesAlike_56 rfl ?_
        exact aw_zreturn dX12_areHalvesAlike_57 rfl (by omega) (Or.inl rfl) ⟨rfl, rfl⟩
      · refine aw_iload_n dX12_areHalvesAlike_23 rfl ?_
        refine aw_if_eq (tgt := 56) dX12_areHalvesAlike_24 rfl (by omega) (fun c24 => ?_) (fun c24 => ?_)
        · refine aw_iload_n dX12_areHalvesAlike_56 rfl ?_
          exact aw_zreturn dX12_areHalvesAlike_57 rfl (by omega) (Or.inl rfl) ⟨rfl, rfl⟩
        · exact absurd c24 (by omega)
    · exact absurd c7 (by omega)
theorem wPred_inj {p q : TP} (hp : okP p) (hq : okP q) (h : wPred p = wPred q) : p = q := by
  have e1 := rl_pred hp (Q := []) (T := (false, [])) (s := s0) (by decide)
  have e2 := rl_pred hq (Q := []) (T := (false, [])) (s := s0) (by decide)
  rw [h, e2] at e1
  simp only [Option.some.injEq, Prod.mk.injEq, List.append_cancel_left_eq, List.cons.injEq, and_true, true_and] at e1
  exact e1.symm
theorem wPath_inj {s t : TT} (hp : okW s) (hq : okW t) (h : wPath s = wPath t) : s = t := by
  obtain ⟨T1, s1, a1, e1⟩ := rl_path hp (Q := [])
  obtain ⟨T2, s2, a2, e2⟩ := rl_path hq (Q := [])
  rw [h, e2] at e1
  simp only [Option.some.injEq, Prod.mk.injEq, and_true, true_and] at e1
  rw [← a1, ← a2, e1.1.1, e1.1.2, e1.2]
/-- what likeness may write -/
def SO (a : Nat) : Nat → Int → Prop := fun b j => (b = a ∧ j = 14) ∨ b = a + 8
theorem eqG_mputs {a : Nat} : ∀ (l : List Int) (h : AH), eqG (SO a) h (mputs a h l) := by
  intro l
  induction l with
  | nil => intro h; exact eqG.rf
  | cons c l ih =>
    intro h
    refine eqG.tr ?_ (ih (mput a h c))
    exact (eqG.si (Or.inr rfl)).tr (eqG.si (Or.inl ⟨rfl, rfl⟩))
theorem m_areAlike {γ : GG} {h : AH} {a : Nat} {b c : Int} {p q : TP} (hM : shM h a) (hp : okP p) (hq : okP q) (hb : 1 ≤ b ∧ b + 67 ≤ 6537) (hc : 1 ≤ c ∧ c + 67 ≤ 6537) (gp : gP (gi h (a + 7)) b p) (gq : gP (gi h (a + 7)) c q) (hl : (wPred p).length + (wPred q).length ≤ 1000) : Call γ mX12_areAlike 4 0 0 [vr (some a), vi b, vi c] h (rE (vi (if t_dP p q = true then 1 else 0)) (eqG (SO a) h)) := by
  have hk := hM.1
  have g1 : gM (si h a 14 0) a (wPred p ++ wPred q) := ⟨hM, by rw [gi_at rfl rfl]; omega, by rw [gi_at rfl rfl, List.length_append]; omega⟩
  have K1 := m_putPredicate (γ := γ) hp hb g1 (by rw [gi_a14 _ _ _ _ (by omega)]; exact gp)
  have K2 := m_putPredicate (γ := γ) (l := []) hq hc (h := mputs a (si h a 14 0) (wPred p)) (by rw [List.append_nil]; exact g1.ap) (by rw [gi7s, gi_a14 _ _ _ _ (by omega)]; exact gq)
  rw [← mputs_app] at K2
  have hM2 : shM (mputs a (si h a 14 0) (wPred p)) a := shM_mputs _ _ hM
  have hM3 : shM (mputs a (si h a 14 0) (wPred p ++ wPred q)) a := shM_mputs _ _ hM
  have K3 := m_half (γ := γ) hM3 (isO9_of (wPred p ++ wPred q) (gi_at rfl rfl)) hl ⟨byt_pred hp, byt_pred hq⟩
  have e0 : gi (mputs a (si h a 14 0) (wPred p)) a 14 = ((wPred p).length : Int) := by rw [gi_mputs_len, gi_at rfl rfl]; omega
  have ev : (if wPred p = wPred q then (1 : Int) else 0) = if t_dP p q = true then 1 else 0 := by
    by_cases z : p = q
    · rw [if_pos ((t_dP_iff p q).mpr z), if_pos (by rw [z])]
    · rw [if_neg (fun y => z ((t_dP_iff p q).mp y)), if_neg (fun y => z (wPred_inj hp hq y))]
  rw [ev] at K3
  have hk2 := hM2.1
  have hk3 := hM3.1
  refine Call.of (ls := [(0, vr (some a)), (1, vi b), (2, vi c)]) vX12_areAlike.1 (Nat.le_of_ble_eq_true rfl) rfl ?_
  refine aw_aload_n dX12_areAlike_0 rfl ?_
  refine aw_iconst dX12_areAlike_1 ?_
  refine aw_puti' (j := 14) rfl dX12_areAlike_2 fX12_186 (by assumption) rfl ?_
  refine aw_aload_n dX12_areAlike_5 rfl ?_
  refine aw_iload_n dX12_areAlike_6 rfl ?_
  refine aw_invV_n dX12_areAlike_7 vX12_putPredicate kX12_201 rfl (K1) ⟨_, (by assumption), _, _, rfl⟩ rfl rfl (by decide) (by decide) (by decide) (Nat.le_of_ble_eq_true rfl) ?_
  refine aw_aload_n dX12_areAlike_10 rfl ?_
  refine aw_geti' (j := 14) dX12_areAlike_11 fX12_186 rfl (by assumption) rfl e0 ?_
  refine aw_istore_n (ls1 := [(3, _), (0, _), (1, _), (2, _)]) dX12_areAlike_14 (by decide) rfl ?_
  refine aw_aload_n dX12_areAlike_15 rfl ?_
  refine aw_iload_n dX12_areAlike_16 rfl ?_
  refine aw_invV_n dX12_areAlike_17 vX12_putPredicate kX12_201 rfl (K2) ⟨_, (by assumption), _, _, rfl⟩ rfl rfl (by decide) (by decide) (by decide) (Nat.le_of_ble_eq_true rfl) ?_
  refine aw_aload_n dX12_areAlike_20 rfl ?_
  refine aw_iload_n dX12_areAlike_21 rfl ?_
  refine aw_invV_r dX12_areAlike_22 vX12_areHalvesAlike kX12_303 rfl (K3) ⟨_, (by assumption), _, _, rfl⟩ rfl rfl (by decide) (by decide) (by decide) (Nat.le_of_ble_eq_true rfl) ?_
  exact aw_zreturn dX12_areAlike_25 rfl (by split <;> simp) (Or.inl rfl) ⟨rfl, (eqG.si (Or.inl ⟨rfl, rfl⟩)).tr (eqG_mputs _ _)⟩
theorem m_arePathsAlike {γ : GG} {h : AH} {a : Nat} {b c : Nat} {p q : TT} (hM : shM h a) (hp : okW p) (hq : okW q) (hb : b < 4) (hc : c < 4) (gp : gT (gi h (a + 7)) (1 + 1634 * (b : Int)) p) (gq : gT (gi h (a + 7)) (1 + 1634 * (c : Int)) q) (hl : (wPath p).length + (wPath q).length ≤ 1000) : Call γ mX12_arePathsAlike 5 0 0 [vr (some a), vi (b : Int), vi (c : Int)] h (rE (vi (if t_dT p q = true then 1 else 0)) (eqG (SO a) h)) := by
  have hk := hM.1
  have g1 : gM (si h a 14 0) a (wPath p ++ wPath q) := ⟨hM, by rw [gi_at rfl rfl]; omega, by rw [gi_at rfl rfl, List.length_append]; omega⟩
  have K1 := m_putPath (γ := γ) hp (b := 1 + 1634 * (b : Int)) (by omega) g1 (by rw [gi_a14 _ _ _ _ (by omega)]; exact gp)
  have K2 := m_putPath (γ := γ) (l := []) hq (b := 1 + 1634 * (c : Int)) (by omega) (h := mputs a (si h a 14 0) (wPath p)) (by rw [List.append_nil]; exact g1.ap) (by rw [gi7s, gi_a14 _ _ _ _ (by omega)]; exact gq)
  rw [← mputs_app] at K2
  have hM2 : shM (mputs a (si h a 14 0) (wPath p)) a := shM_mputs _ _ hM
  have hM3 : shM (mputs a (si h a 14 0) (wPath p ++ wPath q)) a := shM_mputs _ _ hM
  have K3 := m_half (γ := γ) hM3 (isO9_of (wPath p ++ wPath q) (gi_at rfl rfl)) hl ⟨byt_path hp, byt_path hq⟩
  have e0 : gi (mputs a (si h a 14 0) (wPath p)) a 14 = ((wPath p).length : Int) := by rw [gi_mputs_len, gi_at rfl rfl]; omega
  have ev : (if wPath p = wPath q then (1 : Int) else 0) = if t_dT p q = true then 1 else 0 := by
    by_cases z : p = q
    · rw [if_pos ((t_dT_iff p q).mpr z), if_pos (by rw [z])]
    · rw [if_neg (fun y => z ((t_dT_iff p q).mp y)), if_neg (fun y => z (wPath_inj hp hq y))]
  rw [ev] at K3
  have hk2 := hM2.1
  have hk3 := hM3.1
  have A1 := m_pathAt (γ := γ) (h := si h a 14 0) (k := (b : Int))
  have A2 := m_pathAt (γ := γ) (h := mputs a (si h a 14 0) (wPath p)) (k := (c : Int))
  refine Call.of (ls := [(0, vr (some a)), (1, vi (b : Int)), (2, vi (c : Int))]) vX12_arePathsAlike.1 (Nat.le_of_ble_eq_true rfl) rfl ?_
  refine aw_aload_n dX12_arePathsAlike_0 rfl ?_
  refine aw_iconst dX12_arePathsAlike_1 ?_
  refine aw_puti' (j := 14) rfl dX12_arePathsAlike_2 fX12_186 (by assumption) rfl ?_
  refine aw_aload_n dX12_arePathsAlike_5 rfl ?_
  refine aw_iload_n dX12_arePathsAlike_6 rfl ?_
  refine aw_invS_r dX12_arePathsAlike_7 sX12_pathAt kX12_180 rfl (A1) rfl rfl (by decide) (by decide) (by decide) (Nat.le_of_ble_eq_true rfl) ?_
  refine aw_invV_n dX12_arePathsAlike_10 vX12_putPath kX12_204 rfl (K1) ⟨_, (by assumption), _, _, rfl⟩ rfl rfl (by decide) (by decide) (by decide) (Nat.le_of_ble_eq_true rfl) ?_
  refine aw_aload_n dX12_arePathsAlike_13 rfl ?_
  refine aw_geti' (j := 14) dX12_arePathsAlike_14 fX12_186 rfl (by assumption) rfl e0 ?_
  refine aw_istore_n (ls1 := [(3, _), (0, _), (1, _), (2, _)]) dX12_arePathsAlike_17 (by decide) rfl ?_
  refine aw_aload_n dX12_arePathsAlike_18 rfl ?_
  refine aw_iload_n dX12_arePathsAlike_19 rfl ?_
  refine aw_invS_r dX12_arePathsAlike_20 sX12_pathAt kX12_180 rfl (A2) rfl rfl (by decide) (by decide) (by decide) (Nat.le_of_ble_eq_true rfl) ?_
  refine aw_invV_n dX12_arePathsAlike_23 vX12_putPath kX12_204 rfl (K2) ⟨_, (by assumption), _, _, rfl⟩ rfl rfl (by decide) (by decide) (by decide) (Nat.le_of_ble_eq_true rfl) ?_
  refine aw_aload_n dX12_arePathsAlike_26 rfl ?_
  refine aw_iload_n dX12_arePathsAlike_27 rfl ?_
  refine aw_invV_r dX12_arePathsAlike_28 vX12_areHalvesAlike kX12_303 rfl (K3) ⟨_, (by assumption), _, _, rfl⟩ rfl rfl (by decide) (by decide) (by decide) (Nat.le_of_ble_eq_true rfl) ?_
  exact aw_zreturn dX12_arePathsAlike_31 rfl (by split <;> simp) (Or.inl rfl) ⟨rfl, (eqG.si (Or.inl ⟨rfl, rfl⟩)).tr (eqG_mputs _ _)⟩
