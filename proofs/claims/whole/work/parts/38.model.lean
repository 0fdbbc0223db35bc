/-! ===== the model: its cells, its leaves ===== -/
def shM (h : AH) (a : Nat) : Prop := kd h a = some (.inl 11) ∧ (gr h a 0 = some (a + 1) ∧ kd h (a + 1) = some (.inr (1, 1725))) ∧ (gr h a 1 = some (a + 2) ∧ kd h (a + 2) = some (.inr (1, 6900))) ∧ (gr h a 3 = some (a + 3) ∧ kd h (a + 3) = some (.inr (1, 80))) ∧ (gr h a 6 = some (a + 4) ∧ kd h (a + 4) = some (.inr (1, 120))) ∧ (gr h a 8 = some (a + 5) ∧ kd h (a + 5) = some (.inr (1, 40))) ∧ (gr h a 9 = some (a + 6) ∧ kd h (a + 6) = some (.inr (1, 400))) ∧ (gr h a 12 = some (a + 7) ∧ kd h (a + 7) = some (.inr (1, 6537))) ∧ (gr h a 13 = some (a + 8) ∧ kd h (a + 8) = some (.inr (1, 1000))) ∧ (gr h a 15 = some (a + 9) ∧ kd h (a + 9) = some (.inr (1, 4))) ∧ (gr h a 16 = some (a + 10) ∧ kd h (a + 10) = some (.inr (3, 40))) ∧ (gr h a 17 = some (a + 11) ∧ kd h (a + 11) = some (.inr (3, 40))) ∧ (gr h a 19 = some (a + 12) ∧ kd h (a + 12) = some (.inr (1, 40))) ∧ (gr h a 20 = some (a + 13) ∧ kd h (a + 13) = some (.inr (3, 40))) ∧ (gr h a 21 = some (a + 14) ∧ kd h (a + 14) = some (.inr (3, 40))) ∧ (gr h a 22 = some (a + 15) ∧ kd h (a + 15) = some (.inr (3, 40))) ∧ (gr h a 23 = some (a + 16) ∧ kd h (a + 16) = some (.inr (3, 1600))) ∧ (gr h a 24 = some (a + 17) ∧ kd h (a + 17) = some (.inr (1, 10)))
theorem shM.eq {h h' : AH} {a : Nat} (hM : shM h a) (e : ∀ c, a ≤ c → c < a + 18 → kd h' c = kd h c) (er : ∀ j : Int, gr h' a j = gr h a j) : shM h' a := by
  obtain ⟨hk, ⟨rm, km⟩, ⟨rv, kv⟩, ⟨rx, kx⟩, ⟨rb, kb⟩, ⟨rl, kl⟩, ⟨rs, ks⟩, ⟨rq, kq⟩, ⟨ro, ko⟩, ⟨rz, kz⟩, ⟨rf, kf⟩, ⟨rt, kt⟩, ⟨rn, kn⟩, ⟨rF, kF⟩, ⟨rT, kT⟩, ⟨rS, kS⟩, ⟨rE, kE⟩, ⟨ru, ku⟩⟩ := hM
  exact ⟨(e a (by omega) (by omega)).trans hk, ⟨(er _).trans rm, (e _ (by omega) (by omega)).trans km⟩, ⟨(er _).trans rv, (e _ (by omega) (by omega)).trans kv⟩, ⟨(er _).trans rx, (e _ (by omega) (by omega)).trans kx⟩, ⟨(er _).trans rb, (e _ (by omega) (by omega)).trans kb⟩, ⟨(er _).trans rl, (e _ (by omega) (by omega)).trans kl⟩, ⟨(er _).trans rs, (e _ (by omega) (by omega)).trans ks⟩, ⟨(er _).trans rq, (e _ (by omega) (by omega)).trans kq⟩, ⟨(er _).trans ro, (e _ (by omega) (by omega)).trans ko⟩, ⟨(er _).trans rz, (e _ (by omega) (by omega)).trans kz⟩, ⟨(er _).trans rf, (e _ (by omega) (by omega)).trans kf⟩, ⟨(er _).trans rt, (e _ (by omega) (by omega)).trans kt⟩, ⟨(er _).trans rn, (e _ (by omega) (by omega)).trans kn⟩, ⟨(er _).trans rF, (e _ (by omega) (by omega)).trans kF⟩, ⟨(er _).trans rT, (e _ (by omega) (by omega)).trans kT⟩, ⟨(er _).trans rS, (e _ (by omega) (by omega)).trans kS⟩, ⟨(er _).trans rE, (e _ (by omega) (by omega)).trans kE⟩, ⟨(er _).trans ru, (e _ (by omega) (by omega)).trans ku⟩⟩
theorem m_in {γ : GG} {h : AH} {v l m : Int} (hv : (-2147483648 ≤ v ∧ v ≤ 2147483647)) (hl : (-2147483648 ≤ l ∧ l ≤ 2147483647)) (hm : (-2147483648 ≤ m ∧ m ≤ 2147483647)) : Call γ mX12_in 0 0 0 [vi v, vi l, vi m] h (rV (vi (if l ≤ v ∧ v ≤ m then 1 else 0)) h) := by
  refine Call.of (ls := [(0, vi v), (1, vi l), (2, vi m)]) sX12_in.1 (Nat.le_of_ble_eq_true rfl) rfl ?_
  refine aw_iload_n dX12_in_0 rfl ?_
  refine aw_iload_n dX12_in_1 rfl ?_
  refine aw_ic_lt (tgt := 14) dX12_in_2 rfl (by omega) (by omega) (fun c2 => ?_) (fun c2 => ?_)
  · refine aw_iconst dX12_in_14 ?_
    exact aw_zreturn dX12_in_15 rfl (by omega) (Or.inl rfl) ⟨by congr 3; first | (rw [if_pos (by omega)]; done) | (rw [if_neg (by omega)]), rfl⟩
  · refine aw_iload_n dX12_in_5 rfl ?_
    refine aw_iload_n dX12_in_6 rfl ?_
    refine aw_ic_gt (tgt := 14) dX12_in_7 rfl (by omega) (by omega) (fun c7 => ?_) (fun c7 => ?_)
    · refine aw_iconst dX12_in_14 ?_
      exact aw_zreturn dX12_in_15 rfl (by omega) (Or.inl rfl) ⟨by congr 3; first | (rw [if_pos (by omega)]; done) | (rw [if_neg (by omega)]), rfl⟩
    · refine aw_iconst dX12_in_10 ?_
      refine aw_goto (tgt := 15) dX12_in_11 rfl ?_
      exact aw_zreturn dX12_in_15 rfl (by omega) (Or.inl rfl) ⟨by congr 3; first | (rw [if_pos (by omega)]; done) | (rw [if_neg (by omega)]), rfl⟩
theorem m_stepAt {γ : GG} {h : AH} {p k : Int} : Call γ mX12_stepAt 0 0 0 [vi p, vi k] h (rV (vi (p + 2 + 204 * k)) h) := by
  refine Call.of (ls := [(0, vi p), (1, vi k)]) sX12_stepAt.1 (Nat.le_of_ble_eq_true rfl) rfl ?_
  refine aw_iload_n dX12_stepAt_0 rfl ?_
  refine aw_iconst dX12_stepAt_1 ?_
  refine aw_iadd dX12_stepAt_2 ?_
  refine aw_sipush dX12_stepAt_3 rfl ?_
  refine aw_iload_n dX12_stepAt_6 rfl ?_
  refine aw_imul dX12_stepAt_7 ?_
  refine aw_iadd dX12_stepAt_8 ?_
  exact aw_ireturn dX12_stepAt_9 rfl (Or.inl rfl) ⟨rfl, rfl⟩
theorem m_predicateAt {γ : GG} {h : AH} {p k : Int} : Call γ mX12_predicateAt 0 0 0 [vi p, vi k] h (rV (vi (p + 3 + 67 * k)) h) := by
  refine Call.of (ls := [(0, vi p), (1, vi k)]) sX12_predicateAt.1 (Nat.le_of_ble_eq_true rfl) rfl ?_
  refine aw_iload_n dX12_predicateAt_0 rfl ?_
  refine aw_iconst dX12_predicateAt_1 ?_
  refine aw_iadd dX12_predicateAt_2 ?_
  refine aw_bipush dX12_predicateAt_3 rfl ?_
  refine aw_iload_n dX12_predicateAt_5 rfl ?_
  refine aw_imul dX12_predicateAt_6 ?_
  refine aw_iadd dX12_predicateAt_7 ?_
  exact aw_ireturn dX12_predicateAt_8 rfl (Or.inl rfl) ⟨rfl, rfl⟩
theorem m_alternativeAt {γ : GG} {h : AH} {p k : Int} : Call γ mX12_alternativeAt 0 0 0 [vi p, vi k] h (rV (vi (p + 1 + 22 * k)) h) := by
  refine Call.of (ls := [(0, vi p), (1, vi k)]) sX12_alternativeAt.1 (Nat.le_of_ble_eq_true rfl) rfl ?_
  refine aw_iload_n dX12_alternativeAt_0 rfl ?_
  refine aw_iconst dX12_alternativeAt_1 ?_
  refine aw_iadd dX12_alternativeAt_2 ?_
  refine aw_bipush dX12_alternativeAt_3 rfl ?_
  refine aw_iload_n dX12_alternativeAt_5 rfl ?_
  refine aw_imul dX12_alternativeAt_6 ?_
  refine aw_iadd dX12_alternativeAt_7 ?_
  exact aw_ireturn dX12_alternativeAt_8 rfl (Or.inl rfl) ⟨rfl, rfl⟩
theorem m_conditionAt {γ : GG} {h : AH} {p k : Int} : Call γ mX12_conditionAt 0 0 0 [vi p, vi k] h (rV (vi (p + 1 + 7 * k)) h) := by
  refine Call.of (ls := [(0, vi p), (1, vi k)]) sX12_conditionAt.1 (Nat.le_of_ble_eq_true rfl) rfl ?_
  refine aw_iload_n dX12_conditionAt_0 rfl ?_
  refine aw_iconst dX12_conditionAt_1 ?_
  refine aw_iadd dX12_conditionAt_2 ?_
  refine aw_bipush dX12_conditionAt_3 rfl ?_
  refine aw_iload_n dX12_conditionAt_5 rfl ?_
  refine aw_imul dX12_conditionAt_6 ?_
  refine aw_iadd dX12_conditionAt_7 ?_
  exact aw_ireturn dX12_conditionAt_8 rfl (Or.inl rfl) ⟨rfl, rfl⟩
theorem m_pathAt {γ : GG} {h : AH} {k : Int} : Call γ mX12_pathAt 0 0 0 [vi k] h (rV (vi (1 + 1634 * k)) h) := by
  refine Call.of (ls := [(0, vi k)]) sX12_pathAt.1 (Nat.le_of_ble_eq_true rfl) rfl ?_
  refine aw_iconst dX12_pathAt_0 ?_
  refine aw_sipush dX12_pathAt_1 rfl ?_
  refine aw_iload_n dX12_pathAt_4 rfl ?_
  refine aw_imul dX12_pathAt_5 ?_
  refine aw_iadd dX12_pathAt_6 ?_
  exact aw_ireturn dX12_pathAt_7 rfl (Or.inl rfl) ⟨rfl, rfl⟩
theorem m_isPlace {γ : GG} {h : AH} {v : Int} (hv : (-2147483648 ≤ v ∧ v ≤ 2147483647)) : Call γ mX12_isPlace 1 0 0 [vi v] h (rV (vi (if 0 ≤ v ∧ v ≤ 3 then 1 else 0)) h) := by
  refine Call.of (ls := [(0, vi v)]) sX12_isPlace.1 (Nat.le_of_ble_eq_true rfl) rfl ?_
  refine aw_iload_n dX12_isPlace_0 rfl ?_
  refine aw_iconst dX12_isPlace_1 ?_
  refine aw_iconst dX12_isPlace_2 ?_
  refine aw_invS_r dX12_isPlace_3 sX12_in kX12_69 rfl (m_in hv (by omega) (by omega)) rfl rfl (by decide) (by decide) (by decide) (Nat.le_of_ble_eq_true rfl) ?_
  exact aw_zreturn dX12_isPlace_6 rfl (by split <;> simp) (Or.inl rfl) ⟨rfl, rfl⟩
theorem m_fails {γ : GG} {h : AH} {a : Nat} {v : Int} (hk : kd h a = some (.inl 11)) : Call γ mX12_fails 0 0 0 [vr (some a), vi v] h (rV (vi 0) (si h a 5 v)) := by
  refine Call.of (ls := [(0, vr (some a)), (1, vi v)]) vX12_fails.1 (Nat.le_of_ble_eq_true rfl) rfl ?_
  refine aw_aload_n dX12_fails_0 rfl ?_
  refine aw_iload_n dX12_fails_1 rfl ?_
  refine aw_puti' (j := 5) rfl dX12_fails_2 fX12_62 (by assumption) rfl ?_
  refine aw_iconst dX12_fails_5 ?_
  exact aw_ireturn dX12_fails_6 rfl (Or.inl rfl) ⟨rfl, rfl⟩
theorem m_thrown {γ : GG} {h : AH} {a : Nat} (hk : kd h a = some (.inl 11)) : Call γ mX12_thrown 0 0 0 [vr (some a)] h (rV (vi (gi h a 5)) h) := by
  refine Call.of (ls := [(0, vr (some a))]) vX12_thrown.1 (Nat.le_of_ble_eq_true rfl) rfl ?_
  refine aw_aload_n dX12_thrown_0 rfl ?_
  refine aw_geti' (j := 5) dX12_thrown_1 fX12_62 rfl (by assumption) rfl rfl ?_
  exact aw_ireturn dX12_thrown_4 rfl (Or.inl rfl) ⟨rfl, rfl⟩
theorem m_put {γ : GG} {h : AH} {a : Nat} {v : Int} (hM : shM h a) (hl : 0 ≤ gi h a 14 ∧ gi h a 14 < 1000) : Call γ mX12_put 0 0 0 [vr (some a), vi v] h (rN (si (si h (a + 8) (gi h a 14) v) a 14 (gi h a 14 + 1))) := by
  obtain ⟨hk, ⟨rm, km⟩, ⟨rv, kv⟩, ⟨rx, kx⟩, ⟨rb, kb⟩, ⟨rl, kl⟩, ⟨rs, ks⟩, ⟨rq, kq⟩, ⟨ro, ko⟩, ⟨rz, kz⟩, ⟨rf, kf⟩, ⟨rt, kt⟩, ⟨rn, kn⟩, ⟨rF, kF⟩, ⟨rT, kT⟩, ⟨rS, kS⟩, ⟨rE, kE⟩, ⟨ru, ku⟩⟩ := hM
  refine Call.of (ls := [(0, vr (some a)), (1, vi v)]) vX12_put.1 (Nat.le_of_ble_eq_true rfl) rfl ?_
  refine aw_aload_n dX12_put_0 rfl ?_
  refine aw_getr' (j := 13) dX12_put_1 fX12_31 rfl (by assumption) rfl (by assumption) ?_
  refine aw_aload_n dX12_put_4 rfl ?_
  refine aw_geti' (j := 14) dX12_put_5 fX12_186 rfl (by assumption) rfl rfl ?_
  refine aw_iload_n dX12_put_8 rfl ?_
  refine aw_iast dX12_put_9 (by assumption) (by omega) (by first | decide | omega) ?_
  refine aw_aload_n dX12_put_10 rfl ?_
  refine aw_dup dX12_put_11 rfl ?_
  refine aw_geti' (j := 14) dX12_put_12 fX12_186 rfl (by assumption) rfl (by rw [gi_ne (Or.inl (by omega))]) ?_
  refine aw_iconst dX12_put_15 ?_
  refine aw_iadd dX12_put_16 ?_
  refine aw_puti' (j := 14) rfl dX12_put_17 fX12_186 (by assumption) rfl ?_
  exact aw_return dX12_put_20 rfl (Or.inl rfl) ⟨rfl, rfl⟩
theorem m_here {γ : GG} {h : AH} {a : Nat} (hM : shM h a) (hl : 0 ≤ gi h a 11 ∧ gi h a 11 ≤ 400 ∧ 0 ≤ gi h a 10 ∧ gi h a 10 ≤ 400) : Call γ mX12_here 0 0 0 [vr (some a)] h (rV (vi (if gi h a 11 < gi h a 10 then gi h (a + 6) (gi h a 11) else -1)) h) := by
  obtain ⟨hk, ⟨rm, km⟩, ⟨rv, kv⟩, ⟨rx, kx⟩, ⟨rb, kb⟩, ⟨rl, kl⟩, ⟨rs, ks⟩, ⟨rq, kq⟩, ⟨ro, ko⟩, ⟨rz, kz⟩, ⟨rf, kf⟩, ⟨rt, kt⟩, ⟨rn, kn⟩, ⟨rF, kF⟩, ⟨rT, kT⟩, ⟨rS, kS⟩, ⟨rE, kE⟩, ⟨ru, ku⟩⟩ := hM
  refine Call.of (ls := [(0, vr (some a))]) vX12_here.1 (Nat.le_of_ble_eq_true rfl) rfl ?_
  refine aw_aload_n dX12_here_0 rfl ?_
  refine aw_geti' (j := 11) dX12_here_1 fX12_131 rfl (by assumption) rfl rfl ?_
  refine aw_aload_n dX12_here_4 rfl ?_
  refine aw_geti' (j := 10) dX12_here_5 fX12_134 rfl (by assumption) rfl rfl ?_
  refine aw_ic_ge (tgt := 23) dX12_here_8 rfl (by omega) (by omega) (fun c8 => ?_) (fun c8 => ?_)
  · refine aw_iconst dX12_here_23 ?_
    exact aw_ireturn dX12_here_24 rfl (Or.inl rfl) ⟨by congr 3; first | (rw [if_pos (by omega)]; done) | (rw [if_neg (by omega)]), rfl⟩
  · refine aw_aload_n dX12_here_11 rfl ?_
    refine aw_getr' (j := 9) dX12_here_12 fX12_25 rfl (by assumption) rfl (by assumption) ?_
    refine aw_aload_n dX12_here_15 rfl ?_
    refine aw_geti' (j := 11) dX12_here_16 fX12_131 rfl (by assumption) rfl rfl ?_
    refine aw_iald' dX12_here_19 (by assumption) (by omega) (by first | decide | omega) rfl ?_
    refine aw_goto (tgt := 24) dX12_here_20 rfl ?_
    exact aw_ireturn dX12_here_24 rfl (Or.inl rfl) ⟨by congr 3; first | (rw [if_pos (by omega)]; done) | (rw [if_neg (by omega)]), rfl⟩
