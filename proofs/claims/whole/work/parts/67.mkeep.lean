/-! ===== the model: keep; its tree ===== -/
def psh (U : List St) (S : St) : List St := (if U.length = 4 then U.drop 1 else U) ++ [S]
def SV (a : Nat) : Nat → Int → Prop := fun b j => b = a + 2 ∨ (b = a ∧ j = 2)
theorem isMd.kp {h h' : AH} {a c : Nat} {S : St} {U U' : List St} {tx : List Nat} (hm : isMd h a S U tx) (e : eqG (SV a) h h') (hc : c = U'.length) (hc3 : c ≤ 3) (hU : ∀ S' ∈ U', okSt S') (h2 : gi h' a 2 = (c : Int) + 1) (h3 : ∀ j : Int, 0 ≤ j → j < 1725 → gi h' (a + 2) (1725 * c + j) = gi h (a + 1) j) (h4 : ∀ (i : Nat) (S' : St), U'[i]? = some S' → gSt (gi h' (a + 2)) (1725 * i) S') : isMd h' a S (U' ++ [S]) tx := by
  obtain ⟨m1, m2, m3, m4, m5, m6, m7, m8, m9, m10, m11⟩ := hm
  have e1 : gi h' (a + 1) = gi h (a + 1) := by funext j; exact e.2.2.2.2 _ _ (by unfold SV; omega)
  refine ⟨e.sh m1, by rw [e1]; exact m2, m3, h2.trans (by simp; omega), by simp; omega, mem_snoc hU m3, fun i S' hi => ?_, (e.2.2.2.2 _ _ (by unfold SV; omega)).trans m8, m9, m10, fun k c hc => (e.2.2.2.2 _ _ (by unfold SV; omega)).trans (m11 k c hc)⟩
  rcases get_snoc hi with ⟨q1, q2⟩ | ⟨q1, q2⟩
  · exact h4 i S' q2
  · subst q2
    rw [q1, ← hc]
    exact gSt_eq m3 m2 (fun j j1 j2 => (h3 j j1 j2).trans (by rw [Int.zero_add]))
theorem l_kp51 {γ : GG} {a c : Nat} {h : AH} (hM : shM h a) (hc : c ≤ 3) (h2 : gi h a 2 = (c : Int)) (Q : AR → AH → Prop) (kk : ∀ H, eqG (SV a) h H → gi H a 2 = (c : Int) + 1 → (∀ j : Int, 0 ≤ j → j < 1725 → gi H (a + 2) (1725 * c + j) = gi h (a + 1) j) → (∀ j : Int, j < 1725 * c → gi H (a + 2) j = gi h (a + 2) j) → Q (.inl none) H) : ∀ (m k : Nat) (H : AH), k + m = 1725 → eqG (fun b _ => b = a + 2) h H → (∀ j : Int, 0 ≤ j → j < k → gi H (a + 2) (1725 * c + j) = gi h (a + 1) j) → (∀ j : Int, j < 1725 * c → gi H (a + 2) j = gi h (a + 2) j) → AW γ mX12_keep 0 0 0 51 [(1, vi (k : Int)), (0, vr (some a))] [] H Q := by
  intro m
  induction m with
  | zero =>
    intro k H hkm hE hj hf
    have hM1 := hE.sh hM
    obtain ⟨hka, -, -⟩ := hM1.q
    have g2 : gi H a 2 = (c : Int) := (hE.2.2.2.2 _ _ (by dsimp only; omega)).trans h2
    have K := kk (si H a 2 ((c : Int) + 1)) ((hE.mono (S' := SV a) (fun b j z => Or.inl z)).tr (eqG.si (Or.inr ⟨rfl, rfl⟩))) (gi_at rfl rfl) (fun j j1 j2 => (gi_ne (Or.inl (by omega))).trans (hj j j1 (by omega))) (fun j j1 => (gi_ne (Or.inl (by omega))).trans (hf j j1))
    refine aw_iload_n dX12_keep_51 rfl ?_
    refine aw_sipush dX12_keep_52 rfl ?_
    refine aw_ic_ge (tgt := 85) dX12_keep_55 rfl (by omega) (by omega) (fun c55 => ?_) (fun c55 => ?_)
    · refine aw_aload_n dX12_keep_85 rfl ?_
      refine aw_dup dX12_keep_86 rfl ?_
      refine aw_geti' (j := 2) dX12_keep_87 fX12_66 rfl (by assumption) rfl g2 ?_
      refine aw_iconst dX12_keep_90 ?_
      refine aw_iadd dX12_keep_91 ?_
      refine aw_puti' (j := 2) rfl dX12_keep_92 fX12_66 (by assumption) rfl ?_
      exact aw_return dX12_keep_95 rfl (Or.inl rfl) K
    · exact absurd c55 (by omega)
  | succ m ih =>
    intro k H hkm hE hj hf
    have hM1 := hE.sh hM
    obtain ⟨hka, -, -⟩ := hM1.q
    obtain ⟨rm, km⟩ := hM1.m
    obtain ⟨rv, kv⟩ := hM1.v
    have g2 : gi H a 2 = (c : Int) := (hE.2.2.2.2 _ _ (by dsimp only; omega)).trans h2
    have g1 : gi H (a + 1) (k : Int) = gi h (a + 1) (k : Int) := hE.2.2.2.2 _ _ (by dsimp only; omega)
    have I := ih (k + 1) (si H (a + 2) (1725 * (c : Int) + (k : Int)) (gi h (a + 1) (k : Int))) (by omega) (hE.tr (eqG.si rfl)) (fun j j1 j2 => by
      by_cases z : j = k
      · subst z
        exact gi_at rfl rfl
      · exact (gi_ne (Or.inr (by omega))).trans (hj j j1 (by omega))) (fun j j1 => (gi_ne (Or.inr (by omega))).trans (hf j j1))
    refine aw_iload_n dX12_keep_51 rfl ?_
    refine aw_sipush dX12_keep_52 rfl ?_
    refine aw_ic_ge (tgt := 85) dX12_keep_55 rfl (by omega) (by omega) (fun c55 => ?_) (fun c55 => ?_)
    · exact absurd c55 (by omega)
    · refine aw_aload_n dX12_keep_58 rfl ?_
      refine aw_getr' (j := 1) dX12_keep_59 fX12_13 rfl (by assumption) rfl (by assumption) ?_
      refine aw_sipush dX12_keep_62 rfl ?_
      refine aw_aload_n dX12_keep_65 rfl ?_
      refine aw_geti' (j := 2) dX12_keep_66 fX12_66 rfl (by assumption) rfl g2 ?_
      refine aw_imul dX12_keep_69 ?_
      refine aw_iload_n dX12_keep_70 rfl ?_
      refine aw_iadd dX12_keep_71 ?_
      refine aw_aload_n dX12_keep_72 rfl ?_
      refine aw_getr' (j := 0) dX12_keep_73 fX12_7 rfl (by assumption) rfl (by assumption) ?_
      refine aw_iload_n dX12_keep_76 rfl ?_
      refine aw_iald' dX12_keep_77 (by assumption) (by omega) (by first | decide | omega) g1 ?_
      refine aw_iast dX12_keep_78 (by assumption) (by omega) (by first | decide | omega) ?_
      refine aw_iinc (k9 := 0) (ls1 := [(1, _), (0, _)]) dX12_keep_79 rfl (by decide) rfl ?_
      refine aw_goto (tgt := 51) dX12_keep_82 rfl ?_
      refine aw_sub [0, 1] rfl ?_
      exact I
theorem l_kp10 {γ : GG} {a : Nat} {h : AH} (hM : shM h a) (h2 : gi h a 2 = 4) (Q : AR → AH → Prop) (kk : ∀ H, eqG (SV a) h H → gi H a 2 = 3 → (∀ j : Int, 0 ≤ j → j < 5175 → gi H (a + 2) j = gi h (a + 2) (j + 1725)) → AW γ mX12_keep 0 0 0 49 [(0, vr (some a))] [] H Q) : ∀ (m k : Nat) (H : AH), k + m = 5175 → eqG (fun b _ => b = a + 2) h H → (∀ j : Int, 0 ≤ j → j < k → gi H (a + 2) j = gi h (a + 2) (j + 1725)) → (∀ j : Int, k ≤ j → gi H (a + 2) j = gi h (a + 2) j) → AW γ mX12_keep 0 0 0 10 [(1, vi (k : Int)), (0, vr (some a))] [] H Q := by
  intro m
  induction m with
  | zero =>
    intro k H hkm hE hj hf
    have hM1 := hE.sh hM
    obtain ⟨hka, -, -⟩ := hM1.q
    have g2 : gi H a 2 = 4 := (hE.2.2.2.2 _ _ (by dsimp only; omega)).trans h2
    have K := kk (si H a 2 (4 - 1)) ((hE.mono (S' := SV a) (fun b j z => Or.inl z)).tr (eqG.si (Or.inr ⟨rfl, rfl⟩))) (gi_at rfl rfl) (fun j j1 j2 => (gi_ne (Or.inl (by omega))).trans (hj j j1 (by omega)))
    refine aw_iload_n dX12_keep_10 rfl ?_
    refine aw_sipush dX12_keep_11 rfl ?_
    refine aw_ic_ge (tgt := 39) dX12_keep_14 rfl (by omega) (by omega) (fun c14 => ?_) (fun c14 => ?_)
    · refine aw_aload_n dX12_keep_39 rfl ?_
      refine aw_dup dX12_keep_40 rfl ?_
      refine aw_geti' (j := 2) dX12_keep_41 fX12_66 rfl (by assumption) rfl g2 ?_
      refine aw_iconst dX12_keep_44 ?_
      refine aw_isub dX12_keep_45 ?_
      refine aw_puti' (j := 2) rfl dX12_keep_46 fX12_66 (by assumption) rfl ?_
      refine aw_sub [1] rfl ?_
      exact K
    · exact absurd c14 (by omega)
  | succ m ih =>
    intro k H hkm hE hj hf
    have hM1 := hE.sh hM
    obtain ⟨hka, -, -⟩ := hM1.q
    obtain ⟨rv, kv⟩ := hM1.v
    have g1 : gi H (a + 2) ((k : Int) + 1725) = gi h (a + 2) ((k : Int) + 1725) := hf _ (by omega)
    have I := ih (k + 1) (si H (a + 2) (k : Int) (gi h (a + 2) ((k : Int) + 1725))) (by omega) (hE.tr (eqG.si rfl)) (fun j j1 j2 => by
      by_cases z : j = k
      · subst z
        exact gi_at rfl rfl
      · exact (gi_ne (Or.inr (by omega))).trans (hj j j1 (by omega))) (fun j j1 => (gi_ne (Or.inr (by omega))).trans (hf j (by omega)))
    refine aw_iload_n dX12_keep_10 rfl ?_
    refine aw_sipush dX12_keep_11 rfl ?_
    refine aw_ic_ge (tgt := 39) dX12_keep_14 rfl (by omega) (by omega) (fun c14 => ?_) (fun c14 => ?_)
    · exact absurd c14 (by omega)
    · refine aw_aload_n dX12_keep_17 rfl ?_
      refine aw_getr' (j := 1) dX12_keep_18 fX12_13 rfl (by assumption) rfl (by assumption) ?_
      refine aw_iload_n dX12_keep_21 rfl ?_
      refine aw_aload_n dX12_keep_22 rfl ?_
      refine aw_getr' (j := 1) dX12_keep_23 fX12_13 rfl (by assumption) rfl (by assumption) ?_
      refine aw_iload_n dX12_keep_26 rfl ?_
      refine aw_sipush dX12_keep_27 rfl ?_
      refine aw_iadd dX12_keep_30 ?_
      refine aw_iald' dX12_keep_31 (by assumption) (by omega) (by first | decide | omega) g1 ?_
      refine aw_iast dX12_keep_32 (by assumption) (by omega) (by first | decide | omega) ?_
      refine aw_iinc (k9 := 0) (ls1 := [(1, _), (0, _)]) dX12_keep_33 rfl (by decide) rfl ?_
      refine aw_goto (tgt := 10) dX12_keep_36 rfl ?_
      refine aw_sub [0, 1] rfl ?_
      exact I
theorem m_keep {γ : GG} {h : AH} {a : Nat} {S : St} {U : List St} {tx : List Nat} (hm : isMd h a S U tx) : Call γ mX12_keep 0 0 0 [vr (some a)] h (rF (fun h' => eqG (SV a) h h' ∧ isMd h' a S (psh U S) tx)) := by
  obtain ⟨hka, -, -⟩ := hm.1.q
  have g2 := hm.2.2.2.1
  have l4 := hm.2.2.2.2.1
  have mU := hm.2.2.2.2.2.1
  have m7 := hm.2.2.2.2.2.2.1
  by_cases q : U.length = 4
  · have L := l_kp10 (γ := γ) hm.1 (by rw [g2, q]; rfl) (rF (fun h' => eqG (SV a) h h' ∧ isMd h' a S (psh U S) tx)) (fun H E1 h3 h5 => by
      have L2 := l_kp51 (γ := γ) (E1.sh hm.1) (by decide) h3 (rF (fun h' => eqG (SV a) h h' ∧ isMd h' a S (psh U S) tx)) (fun H' E2 k1 k2 k3 => by
        refine ⟨rfl, E1.tr E2, ?_⟩
        unfold psh
        rw [if_pos q]
        have l3 : (U.drop 1).length = 3 := by rw [List.length_drop]; omega
        refine hm.kp (c := 3) (E1.tr E2) l3.symm (by decide) (fun S' hS => mU S' (List.mem_of_mem_drop hS)) k1 (fun j j1 j2 => (k2 j j1 j2).trans (E1.2.2.2.2 _ _ (by unfold SV; omega))) (fun i S' hi => ?_)
        have li := lt_of_get hi
        have e3 : ((3 : Nat) : Int) = 3 := rfl
        rw [e3] at k3
        rw [List.getElem?_drop] at hi
        refine gSt_eq (mU S' (List.mem_of_getElem? hi)) (m7 _ S' hi) (fun j j1 j2 => (k3 _ (by omega)).trans ((h5 _ (by omega) (by omega)).trans (congrArg (gi h (a + 2)) (by omega)))))
        1725 0 H (by omega) eqG.rf (fun j j1 j2 => absurd j2 (by omega)) (fun j _ => rfl)
      obtain ⟨hka, -, -⟩ := (E1.sh hm.1).q
      refine aw_iconst dX12_keep_49 ?_
      refine aw_istore_n (ls1 := [(1, _), (0, _)]) dX12_keep_50 (by decide) rfl ?_
      refine aw_sub [0, 1] rfl ?_
      exact L2)
      5175 0 h (by omega) eqG.rf (fun j j1 j2 => absurd j2 (by omega)) (fun j _ => rfl)
    refine Call.of (ls := [(0, vr (some a))]) vX12_keep.1 (Nat.le_of_ble_eq_true rfl) rfl ?_
    refine aw_aload_n dX12_keep_0 rfl ?_
    refine aw_geti' (j := 2) dX12_keep_1 fX12_66 rfl (by assumption) rfl g2 ?_
    refine aw_iconst dX12_keep_4 ?_
    refine aw_ic_ne (tgt := 49) dX12_keep_5 rfl (by omega) (by omega) (fun c5 => ?_) (fun c5 => ?_)
    · exact absurd c5 (by omega)
    · refine aw_iconst dX12_keep_8 ?_
      refine aw_istore_n (ls1 := [(1, _), (0, _)]) dX12_keep_9 (by decide) rfl ?_
      refine aw_sub [0, 1] rfl ?_
      exact L
  · have L2 := l_kp51 (γ := γ) hm.1 (c := U.length) (by omega) g2 (rF (fun h' => eqG (SV a) h h' ∧ isMd h' a S (psh U S) tx)) (fun H' E2 k1 k2 k3 => by
      refine ⟨rfl, E2, ?_⟩
      unfold psh
      rw [if_neg q]
      refine hm.kp E2 rfl (by omega) mU k1 k2 (fun i S' hi => ?_)
      have li := lt_of_get hi
      exact gSt_eq (mU S' (List.mem_of_getElem? hi)) (m7 _ S' hi) (fun j j1 j2 => k3 _ (by omega)))
      1725 0 h (by omega) eqG.rf (fun j j1 j2 => absurd j2 (by omega)) (fun j _ => rfl)
    refine Call.of (ls := [(0, vr (some a))]) vX12_keep.1 (Nat.le_of_ble_eq_true rfl) rfl ?_
    refine aw_aload_n dX12_keep_0 rfl ?_
    refine aw_geti' (j := 2) dX12_keep_1 fX12_66 rfl (by assumption) rfl g2 ?_
    refine aw_iconst dX12_keep_4 ?_
    refine aw_ic_ne (tgt := 49) dX12_keep_5 rfl (by omega) (by omega) (fun c5 => ?_) (fun c5 => ?_)
    · refine aw_iconst dX12_keep_49 ?_
      refine aw_istore_n (ls1 := [(1, _), (0, _)]) dX12_keep_50 (by decide) rfl ?_
      refine aw_sub [0, 1] rfl ?_
      exact L2
    · exact absurd c5 (by omega)
theorem m_nameOf {γ : GG} {h : AH} {a : Nat} {n : Int} (hM : shM h a) (hn : 0 ≤ n ∧ n ≤ 500) : Call γ mX12_nameOf 0 0 0 [vr (some a), vi n] h (rV (vi (gi h (a + 1) (1 + 3 * n))) h) := by
  obtain ⟨hka, -, -⟩ := hM.q
  obtain ⟨rm, km⟩ := hM.m
  refine Call.of (ls := [(0, vr (some a)), (1, vi n)]) vX12_nameOf.1 (Nat.le_of_ble_eq_true rfl) rfl ?_
  refine aw_aload_n dX12_nameOf_0 rfl ?_
  refine aw_getr' (j := 0) dX12_nameOf_1 fX12_7 rfl (by assumption) rfl (by assumption) ?_
  refine aw_iconst dX12_nameOf_4 ?_
  refine aw_iconst dX12_nameOf_5 ?_
  refine aw_iload_n dX12_nameOf_6 rfl ?_
  refine aw_imul dX12_nameOf_7 ?_
  refine aw_iadd dX12_nameOf_8 ?_
  refine aw_iald' dX12_nameOf_9 (by assumption) (by omega) (by first | decide | omega) rfl ?_
  exact aw_ireturn dX12_nameOf_10 rfl (Or.inl rfl) ⟨rfl, rfl⟩
theorem m_valueOf {γ : GG} {h : AH} {a : Nat} {n : Int} (hM : shM h a) (hn : 0 ≤ n ∧ n ≤ 500) : Call γ mX12_valueOf 0 0 0 [vr (some a), vi n] h (rV (vi (gi h (a + 1) (1 + 3 * n + 1))) h) := by
  obtain ⟨hka, -, -⟩ := hM.q
  obtain ⟨rm, km⟩ := hM.m
  refine Call.of (ls := [(0, vr (some a)), (1, vi n)]) vX12_valueOf.1 (Nat.le_of_ble_eq_true rfl) rfl ?_
  refine aw_aload_n dX12_valueOf_0 rfl ?_
  refine aw_getr' (j := 0) dX12_valueOf_1 fX12_7 rfl (by assumption) rfl (by assumption) ?_
  refine aw_iconst dX12_valueOf_4 ?_
  refine aw_iconst dX12_valueOf_5 ?_
  refine aw_iload_n dX12_valueOf_6 rfl ?_
  refine aw_imul dX12_valueOf_7 ?_
  refine aw_iadd dX12_valueOf_8 ?_
  refine aw_iconst dX12_valueOf_9 ?_
  refine aw_iadd dX12_valueOf_10 ?_
  refine aw_iald' dX12_valueOf_11 (by assumption) (by omega) (by first | decide | omega) rfl ?_
  exact aw_ireturn dX12_valueOf_12 rfl (Or.inl rfl) ⟨rfl, rfl⟩
theorem m_parentOf {γ : GG} {h : AH} {a : Nat} {n : Int} (hM : shM h a) (hn : 0 ≤ n ∧ n ≤ 500) : Call γ mX12_parentOf 0 0 0 [vr (some a), vi n] h (rV (vi (gi h (a + 1) (1 + 3 * n + 2))) h) := by
  obtain ⟨hka, -, -⟩ := hM.q
  obtain ⟨rm, km⟩ := hM.m
  refine Call.of (ls := [(0, vr (some a)), (1, vi n)]) vX12_parentOf.1 (Nat.le_of_ble_eq_true rfl) rfl ?_
  refine aw_aload_n dX12_parentOf_0 rfl ?_
  refine aw_getr' (j := 0) dX12_parentOf_1 fX12_7 rfl (by assumption) rfl (by assumption) ?_
  refine aw_iconst dX12_parentOf_4 ?_
  refine aw_iconst dX12_parentOf_5 ?_
  refine aw_iload_n dX12_parentOf_6 rfl ?_
  refine aw_imul dX12_parentOf_7 ?_
  refine aw_iadd dX12_parentOf_8 ?_
  refine aw_iconst dX12_parentOf_9 ?_
  refine aw_iadd dX12_parentOf_10 ?_
  refine aw_iald' dX12_parentOf_11 (by assumption) (by omega) (by first | decide | omega) rfl ?_
  exact aw_ireturn dX12_parentOf_12 rfl (Or.inl rfl) ⟨rfl, rfl⟩
theorem m_isNode {γ : GG} {h : AH} {a : Nat} {n : Int} {c : Nat} (hM : shM h a) (hn : -2147483648 ≤ n ∧ n ≤ 2147483647) (hc : gi h (a + 1) 0 = c) (hc4 : c ≤ 1000) : Call γ mX12_isNode 1 0 0 [vr (some a), vi n] h (rV (vi (if 0 ≤ n ∧ n < c then 1 else 0)) h) := by
  obtain ⟨hka, -, -⟩ := hM.q
  obtain ⟨rm, km⟩ := hM.m
  have K := m_in (γ := γ) (h := h) (v := n) (l := 0) (m := (c : Int) - 1) hn (by omega) (by omega)
  have e : (if 0 ≤ n ∧ n ≤ (c : Int) - 1 then (1 : Int) else 0) = if 0 ≤ n ∧ n < c then 1 else 0 := by
    by_cases q : 0 ≤ n ∧ n < (c : Int)
    · rw [if_pos q, if_pos (by omega)]
    · rw [if_neg q, if_neg (by omega)]
  rw [e] at K
  refine Call.of (ls := [(0, vr (some a)), (1, vi n)]) vX12_isNode.1 (Nat.le_of_ble_eq_true rfl) rfl ?_
  refine aw_iload_n dX12_isNode_0 rfl ?_
  refine aw_iconst dX12_isNode_1 ?_
  refine aw_aload_n dX12_isNode_2 rfl ?_
  refine aw_getr' (j := 0) dX12_isNode_3 fX12_7 rfl (by assumption) rfl (by assumption) ?_
  refine aw_iconst dX12_isNode_6 ?_
  refine aw_iald' dX12_isNode_7 (by assumption) (by omega) (by first | decide | omega) hc ?_
  refine aw_iconst dX12_isNode_8 ?_
  refine aw_isub dX12_isNode_9 ?_
  refine aw_invS_r dX12_isNode_10 sX12_in kX12_69 rfl (K) rfl rfl (by decide) (by decide) (by decide) (Nat.le_of_ble_eq_true rfl) ?_
  exact aw_zreturn dX12_isNode_13 rfl (by split <;> simp) (Or.inl rfl) ⟨rfl, rfl⟩
theorem m_isNamed {γ : GG} {h : AH} {n v : Int} (hn : -2147483648 ≤ n ∧ n ≤ 2147483647) (hv : -2147483648 ≤ v ∧ v ≤ 2147483647) : Call γ mX12_isNamed 1 0 0 [vi n, vi v] h (rV (vi (if (0 ≤ n ∧ n ≤ 7) ∧ 0 ≤ v ∧ v ≤ 9 then 1 else 0)) h) := by
  have K1 := m_in (γ := γ) (h := h) (v := n) (l := 0) (m := 7) hn (by omega) (by omega)
  have K2 := m_in (γ := γ) (h := h) (v := v) (l := 0) (m := 9) hv (by omega) (by omega)
  by_cases q1 : 0 ≤ n ∧ n ≤ 7
  · rw [if_pos q1] at K1
    by_cases q2 : 0 ≤ v ∧ v ≤ 9
    · rw [if_pos q2] at K2
      rw [if_pos ⟨q1, q2⟩]
      refine Call.of (ls := [(0, vi n), (1, vi v)]) sX12_isNamed.1 (Nat.le_of_ble_eq_true rfl) rfl ?_
      refine aw_iload_n dX12_isNamed_0 rfl ?_
      refine aw_iconst dX12_isNamed_1 ?_
      refine aw_bipush dX12_isNamed_2 rfl ?_
      refine aw_invS_r dX12_isNamed_4 sX12_in kX12_69 rfl (K1) rfl rfl (by decide) (by decide) (by decide) (Nat.le_of_ble_eq_true rfl) ?_
      refine aw_if_eq (tgt := 24) dX12_isNamed_7 rfl (by omega) (fun c7 => ?_) (fun c7 => ?_)
      · exact absurd c7 (by omega)
      · refine aw_iload_n dX12_isNamed_10 rfl ?_
        refine aw_iconst dX12_isNamed_11 ?_
        refine aw_bipush dX12_isNamed_12 rfl ?_
        refine aw_invS_r dX12_isNamed_14 sX12_in kX12_69 rfl (K2) rfl rfl (by decide) (by decide) (by decide) (Nat.le_of_ble_eq_true rfl) ?_
        refine aw_if_eq (tgt := 24) dX12_isNamed_17 rfl (by omega) (fun c17 => ?_) (fun c17 => ?_)
        · exact absurd c17 (by omega)
        · refine aw_iconst dX12_isNamed_20 ?_
          refine aw_goto (tgt := 25) dX12_isNamed_21 rfl ?_
          exact aw_zreturn dX12_isNamed_25 rfl (by omega) (Or.inl rfl) ⟨rfl, rfl⟩
    · rw [if_neg q2] at K2
      rw [if_neg (fun z => q2 z.2)]
      refine Call.of (ls := [(0, vi n), (1, vi v)]) sX12_isNamed.1 (Nat.le_of_ble_eq_true rfl) rfl ?_
      refine aw_iload_n dX12_isNamed_0 rfl ?_
      refine aw_iconst dX12_isNamed_1 ?_
      refine aw_bipush dX12_isNamed_2 rfl ?_
      refine aw_invS_r dX12_isNamed_4 sX12_in kX12_69 rfl (K1) rfl rfl (by decide) (by decide) (by decide) (Nat.le_of_ble_eq_true rfl) ?_
      refine aw_if_eq (tgt := 24) dX12_isNamed_7 rfl (by omega) (fun c7 => ?_) (fun c7 => ?_)
      · exact absurd c7 (by omega)
      · refine aw_iload_n dX12_isNamed_10 rfl ?_
        refine aw_iconst dX12_isNamed_11 ?_
        refine aw_bipush dX12_isNamed_12 rfl ?_
        refine aw_invS_r dX12_isNamed_14 sX12_in kX12_69 rfl (K2) rfl rfl (by decide) (by decide) (by decide) (Nat.le_of_ble_eq_true rfl) ?_
        refine aw_if_eq (tgt := 24) dX12_isNamed_17 rfl (by omega) (fun c17 => ?_) (fun c17 => ?_)
        · refine aw_iconst dX12_isNamed_24 ?_
          exact aw_zreturn dX12_isNamed_25 rfl (by omega) (Or.inl rfl) ⟨rfl, rfl⟩
        · exact absurd c17 (by omega)
  · rw [if_neg q1] at K1
    rw [if_neg (fun z => q1 z.1)]
    refine Call.of (ls := [(0, vi n), (1, vi v)]) sX12_isNamed.1 (Nat.le_of_ble_eq_true rfl) rfl ?_
    refine aw_iload_n dX12_isNamed_0 rfl ?_
    refine aw_iconst dX12_isNamed_1 ?_
    refine aw_bipush dX12_isNamed_2 rfl ?_
    refine aw_invS_r dX12_isNamed_4 sX12_in kX12_69 rfl (K1) rfl rfl (by decide) (by decide) (by decide) (Nat.le_of_ble_eq_true rfl) ?_
    refine aw_if_eq (tgt := 24) dX12_isNamed_7 rfl (by omega) (fun c7 => ?_) (fun c7 => ?_)
    · refine aw_iconst dX12_isNamed_24 ?_
      exact aw_zreturn dX12_isNamed_25 rfl (by omega) (Or.inl rfl) ⟨rfl, rfl⟩
    · exact absurd c7 (by omega)
theorem m_setCells {γ : GG} {h : AH} {a : Nat} {n x y z : Int} (hM : shM h a) (hn : 0 ≤ n ∧ n ≤ 500) : Call γ mX12_setCells 0 0 0 [vr (some a), vi n, vi x, vi y, vi z] h (rN (si (si (si h (a + 1) (1 + 3 * n) x) (a + 1) (1 + 3 * n + 1) y) (a + 1) (1 + 3 * n + 2) z)) := by
  obtain ⟨hka, -, -⟩ := hM.q
  obtain ⟨rm, km⟩ := hM.m
  refine Call.of (ls := [(0, vr (some a)), (1, vi n), (2, vi x), (3, vi y), (4, vi z)]) vX12_setCells.1 (Nat.le_of_ble_eq_true rfl) rfl ?_
  refine aw_aload_n dX12_setCells_0 rfl ?_
  refine aw_getr' (j := 0) dX12_setCells_1 fX12_7 rfl (by assumption) rfl (by assumption) ?_
  refine aw_iconst dX12_setCells_4 ?_
  refine aw_iconst dX12_setCells_5 ?_
  refine aw_iload_n dX12_setCells_6 rfl ?_
  refine aw_imul dX12_setCells_7 ?_
  refine aw_iadd dX12_setCells_8 ?_
  refine aw_iload_n dX12_setCells_9 rfl ?_
  refine aw_iast dX12_setCells_10 (by assumption) (by omega) (by first | decide | omega) ?_
  refine aw_aload_n dX12_setCells_11 rfl ?_
  refine aw_getr' (j := 0) dX12_setCells_12 fX12_7 rfl (by assumption) rfl (by assumption) ?_
  refine aw_iconst dX12_setCells_15 ?_
  refine aw_iconst dX12_setCells_16 ?_
  refine aw_iload_n dX12_setCells_17 rfl ?_
  refine aw_imul dX12_setCells_18 ?_
  refine aw_iadd dX12_setCells_19 ?_
  refine aw_iconst dX12_setCells_20 ?_
  refine aw_iadd dX12_setCells_21 ?_
  refine aw_iload_n dX12_setCells_22 rfl ?_
  refine aw_iast dX12_setCells_23 (by assumption) (by omega) (by first | decide | omega) ?_
  refine aw_aload_n dX12_setCells_24 rfl ?_
  refine aw_getr' (j := 0) dX12_setCells_25 fX12_7 rfl (by assumption) rfl (by assumption) ?_
  refine aw_iconst dX12_setCells_28 ?_
  refine aw_iconst dX12_setCells_29 ?_
  refine aw_iload_n dX12_setCells_30 rfl ?_
  refine aw_imul dX12_setCells_31 ?_
  refine aw_iadd dX12_setCells_32 ?_
  refine aw_iconst dX12_setCells_33 ?_
  refine aw_iadd dX12_setCells_34 ?_
  refine aw_iload dX12_setCells_35 rfl ?_
  refine aw_iast dX12_setCells_37 (by assumption) (by omega) (by first | decide | omega) ?_
  exact aw_return dX12_setCells_38 rfl (Or.inl rfl) ⟨rfl, rfl⟩
def tn (T : Tr) : Nat := T.1
def tnm (T : Tr) (k : Nat) : Int := T.2.1 k
def tvl (T : Tr) (k : Nat) : Int := T.2.2.1 k
def tpa (T : Tr) (k : Nat) : Int := T.2.2.2 k
def enF (T : Tr) (v : Nat) : Nat → Nat → Nat
  | 0, k => k
  | m + 1, k => if k < tn T ∧ (v : Int) ≤ tpa T k then enF T v m (k + 1) else k
/-- the first node behind a node and all below it -/
def endT (T : Tr) (v : Nat) : Nat := enF T v (tn T) (v + 1)
/-- numbers that the machine can compare -/
def rgT (T : Tr) : Prop := tn T ≤ 40 ∧ ∀ k, k < tn T → -1 ≤ tpa T k ∧ tpa T k ≤ 40
theorem okTr.rg {T : Tr} (h : okTr T) : rgT T := by
  refine ⟨h.2.1, fun k hk => ?_⟩
  have n40 := h.2.1
  unfold tpa tn at *
  by_cases q : k = 0
  · subst q; have := h.2.2.2.1; omega
  · have := h.2.2.2.2.1 k (by omega) hk; omega
theorem gTr_p {h : AH} {a : Nat} {T : Tr} (hT : gTr (gi h (a + 1)) 0 T) {k : Nat} (hk : k < tn T) : gi h (a + 1) (1 + 3 * (k : Int) + 2) = tpa T k := by
  have := (hT.2 k hk).2.2
  rw [show (0 : Int) + 3 + 3 * (k : Int) = 1 + 3 * (k : Int) + 2 by omega] at this
  exact this
theorem l_end {γ : GG} {h : AH} {a v : Nat} {T : Tr} (hM : shM h a) (hT : gTr (gi h (a + 1)) 0 T) (hr : rgT T) (hv : v < tn T) : ∀ (m k : Nat), tn T ≤ k + m → k ≤ tn T → AW γ mX12_endOf 1 0 0 4 [(2, vi (k : Int)), (0, vr (some a)), (1, vi (v : Int))] [] h (rV (vi (enF T v m k : Nat)) h) := by
  obtain ⟨hka, -, -⟩ := hM.q
  obtain ⟨rm, km⟩ := hM.m
  have g0 := hT.1
  have n40 := hr.1
  unfold tn at n40
  have hv' : v < T.1 := hv
  intro m
  induction m with
  | zero =>
    intro k hk1 hk2
    have hk1 : T.1 ≤ k + 0 := hk1
    have hk2 : k ≤ T.1 := hk2
    simp only [enF]
    refine aw_iload_n dX12_endOf_4 rfl ?_
    refine aw_aload_n dX12_endOf_5 rfl ?_
    refine aw_getr' (j := 0) dX12_endOf_6 fX12_7 rfl (by assumption) rfl (by assumption) ?_
    refine aw_iconst dX12_endOf_9 ?_
    refine aw_iald' dX12_endOf_10 (by assumption) (by omega) (by first | decide | omega) g0 ?_
    refine aw_ic_ge (tgt := 29) dX12_endOf_11 rfl (by omega) (by omega) (fun c11 => ?_) (fun c11 => ?_)
    · refine aw_iload_n dX12_endOf_29 rfl ?_
      exact aw_ireturn dX12_endOf_30 rfl (Or.inl rfl) ⟨rfl, rfl⟩
    · exact absurd c11 (by omega)
  | succ m ih =>
    intro k hk1 hk2
    have hk2 : k ≤ T.1 := hk2
    simp only [enF]
    by_cases q : k < tn T
    · have q' : k < T.1 := q
      have KP := m_parentOf (γ := γ) (h := h) (n := (k : Int)) hM (by omega)
      rw [gTr_p hT q] at KP
      have hp := hr.2 k q
      by_cases q2 : (v : Int) ≤ tpa T k
      · rw [if_pos ⟨q, q2⟩]
        have I := ih (k + 1) (by omega) q
        refine aw_iload_n dX12_endOf_4 rfl ?_
        refine aw_aload_n dX12_endOf_5 rfl ?_
        refine aw_getr' (j := 0) dX12_endOf_6 fX12_7 rfl (by assumption) rfl (by assumption) ?_
        refine aw_iconst dX12_endOf_9 ?_
        refine aw_iald' dX12_endOf_10 (by assumption) (by omega) (by first | decide | omega) g0 ?_
        refine aw_ic_ge (tgt := 29) dX12_endOf_11 rfl (by omega) (by omega) (fun c11 => ?_) (fun c11 => ?_)
        · exact absurd c11 (by omega)
        · refine aw_aload_n dX12_endOf_14 rfl ?_
          refine aw_iload_n dX12_endOf_15 rfl ?_
          refine aw_invV_r dX12_endOf_16 vX12_parentOf kX12_73 rfl (KP) ⟨_, (by assumption), _, _, rfl⟩ rfl rfl (by decide) (by decide) (by decide) (Nat.le_of_ble_eq_true rfl) ?_
          refine aw_iload_n dX12_endOf_19 rfl ?_
          refine aw_ic_lt (tgt := 29) dX12_endOf_20 rfl (by omega) (by omega) (fun c20 => ?_) (fun c20 => ?_)
          · exact absurd c20 (by omega)
          · refine aw_iinc (k9 := 0) (ls1 := [(2, _), (0, _), (1, _)]) dX12_endOf_23 rfl (by decide) rfl ?_
            refine aw_goto (tgt := 4) dX12_endOf_26 rfl ?_
            refine aw_sub [0, 1, 2] rfl ?_
            exact I
      · rw [if_neg (fun z => q2 z.2)]
        refine aw_iload_n dX12_endOf_4 rfl ?_
        refine aw_aload_n dX12_endOf_5 rfl ?_
        refine aw_getr' (j := 0) dX12_endOf_6 fX12_7 rfl (by assumption) rfl (by assumption) ?_
        refine aw_iconst dX12_endOf_9 ?_
        refine aw_iald' dX12_endOf_10 (by assumption) (by omega) (by first | decide | omega) g0 ?_
        refine aw_ic_ge (tgt := 29) dX12_endOf_11 rfl (by omega) (by omega) (fun c11 => ?_) (fun c11 => ?_)
        · exact absurd c11 (by omega)
        · refine aw_aload_n dX12_endOf_14 rfl ?_
          refine aw_iload_n dX12_endOf_15 rfl ?_
          refine aw_invV_r dX12_endOf_16 vX12_parentOf kX12_73 rfl (KP) ⟨_, (by assumption), _, _, rfl⟩ rfl rfl (by decide) (by decide) (by decide) (Nat.le_of_ble_eq_true rfl) ?_
          refine aw_iload_n dX12_endOf_19 rfl ?_
          refine aw_ic_lt (tgt := 29) dX12_endOf_20 rfl (by omega) (by omega) (fun c20 => ?_) (fun c20 => ?_)
          · refine aw_iload_n dX12_endOf_29 rfl ?_
            exact aw_ireturn dX12_endOf_30 rfl (Or.inl rfl) ⟨rfl, rfl⟩
          · exact absurd c20 (by omega)
    · rw [if_neg (fun z => q z.1)]
      have q' : ¬ k < T.1 := q
      refine aw_iload_n dX12_endOf_4 rfl ?_
      refine aw_aload_n dX12_endOf_5 rfl ?_
      refine aw_getr' (j := 0) dX12_endOf_6 fX12_7 rfl (by assumption) rfl (by assumption) ?_
      refine aw_iconst dX12_endOf_9 ?_
      refine aw_iald' dX12_endOf_10 (by assumption) (by omega) (by first | decide | omega) g0 ?_
      refine aw_ic_ge (tgt := 29) dX12_endOf_11 rfl (by omega) (by omega) (fun c11 => ?_) (fun c11 => ?_)
      · refine aw_iload_n dX12_endOf_29 rfl ?_
        exact aw_ireturn dX12_endOf_30 rfl (Or.inl rfl) ⟨rfl, rfl⟩
      · exact absurd c11 (by omega)
theorem m_endOf {γ : GG} {h : AH} {a v : Nat} {T : Tr} (hM : shM h a) (hT : gTr (gi h (a + 1)) 0 T) (hr : rgT T) (hv : v < tn T) : Call γ mX12_endOf 1 0 0 [vr (some a), vi (v : Int)] h (rV (vi (endT T v : Nat)) h) := by
  have L := l_end (γ := γ) hM hT hr hv (tn T) (v + 1) (by omega) hv
  refine Call.of (ls := [(0, vr (some a)), (1, vi (v : Int))]) vX12_endOf.1 (Nat.le_of_ble_eq_true rfl) rfl ?_
  refine aw_iload_n dX12_endOf_0 rfl ?_
  refine aw_iconst dX12_endOf_1 ?_
  refine aw_iadd dX12_endOf_2 ?_
  refine aw_istore_n (ls1 := [(2, _), (0, _), (1, _)]) dX12_endOf_3 (by decide) rfl ?_
  refine aw_sub [0, 1, 2] rfl ?_
  exact L
