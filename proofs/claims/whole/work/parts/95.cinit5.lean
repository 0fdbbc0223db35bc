/-! ===== constructors: State ===== -/
def sI (H : AH) (a k : Nat) : Prop := kd H a = some (.inl 6) ∧ gr H a 0 = some (a + 1) ∧ gr H a 1 = some (a + 11) ∧ kd H (a + 11) = some (.inr (5, 4)) ∧ isTr H (a + 1) T0 ∧ nx H = some (a + 12 + 74 * k) ∧ ∀ i : Nat, i < k → gr H (a + 11) i = some (a + 12 + 74 * i) ∧ isQ H (a + 12 + 74 * i) (fun i => i) (fun _ i => i) []
theorem l_stinit {γ : GG} {a : Nat} {h : AH} : ∀ (m k : Nat) (H : AH), k + m = 4 → (∀ b, b < a → eqA h H b) → sI H a k → AW γ mX7_init 4 (74 * m) (1042 * m) 25 [(1, vi (k : Int)), (0, vr (some a))] [] H (rF (fun h' => sI h' a 4 ∧ ∀ b, b < a → eqA h h' b)) := by
  intro m
  induction m with
  | zero =>
    intro k H hk0 hE hI
    obtain rfl : k = 4 := by omega
    refine aw_iload_n dX7_init_25 rfl ?_
    refine aw_iconst dX7_init_26 ?_
    refine aw_ic_ge (tgt := 49) dX7_init_27 rfl (by omega) (by omega) (fun c27 => ?_) (fun c27 => ?_)
    · exact aw_return dX7_init_49 rfl (Or.inl rfl) ⟨rfl, hI, hE⟩
    · exact absurd c27 (by omega)
  | succ m ih =>
    intro k H hk0 hE hI
    obtain ⟨ka, r0, ra, kb, hT, hN, hj⟩ := hI
    have e1 : 74 * (m + 1) - 1 - 73 = 74 * m := by omega
    have e2 : 1042 * (m + 1) - 2 - 1040 = 1042 * m := by omega
    refine aw_iload_n dX7_init_25 rfl ?_
    refine aw_iconst dX7_init_26 ?_
    refine aw_ic_ge (tgt := 49) dX7_init_27 rfl (by omega) (by omega) (fun c27 => ?_) (fun c27 => ?_)
    · exact absurd c27 (by omega)
    · refine aw_aload_n dX7_init_30 rfl ?_
      refine aw_getr' (j := 1) dX7_init_31 fX7_20 rfl ka rfl ra ?_
      refine aw_iload_n dX7_init_34 rfl ?_
      refine aw_new dX7_init_35 ciX5 cX7_18 nX5 zX5 (by decide) (by omega) (by omega) (fun q9 f9 g9 e9 => ?_)
      obtain rfl : q9 = a + 12 + 74 * k := e9 _ hN
      clear f9 g9 e9
      refine aw_dup dX7_init_38 rfl ?_
      refine aw_invI_f dX7_init_39 iX5_init kX7_24 rfl (c_qinit (kd_mka rfl) (by rw [nx_mk, hN]; rfl)) rfl rfl (by decide) (by omega) (by omega) (Nat.le_of_ble_eq_true rfl) (fun H1 hP9 => ?_)
      obtain ⟨S1, N1, E1⟩ := hP9
      rw [e1, e2]
      have ks1 := S1.1.1
      have EO : ∀ b, b < a + 12 + 74 * k → eqA H H1 b := fun b hb => (eqA.mk (by omega)).tr (E1 b hb)
      have kb1 := (EO (a + 11) (by omega)).1.trans kb
      refine aw_aast5 dX7_init_42 kb1 (by omega) (by first | decide | omega) ks1 ?_
      refine aw_iinc (k9 := 0) (ls1 := [(1, _), (0, _)]) dX7_init_43 rfl (by decide) rfl ?_
      refine aw_goto (tgt := 25) dX7_init_46 rfl ?_
      refine aw_sub [0, 1] rfl ?_
      refine ih (k + 1) _ (by omega) (fun b hb => (hE b hb).tr ((EO b (by omega)).tr (eqA.sr (by omega)))) ⟨(EO a (by omega)).1.trans ka, (gr_ne (Or.inl (by omega))).trans (((EO a (by omega)).2 0).2.2.trans r0), (gr_ne (Or.inl (by omega))).trans (((EO a (by omega)).2 1).2.2.trans ra), kb1, hT.eq (fun b b1 b2 => (EO b (by omega)).tr (eqA.sr (by omega))), N1.trans (by congr 1), fun i hi => ?_⟩
      by_cases q : i = k
      · subst q
        exact ⟨gr_at rfl rfl, S1.eq (fun c c1 c2 => eqA.sr (by omega))⟩
      · obtain ⟨i1, i2⟩ := hj i (by omega)
        exact ⟨(gr_ne (Or.inr (by omega))).trans (((EO (a + 11) (by omega)).2 i).2.2.trans i1), i2.eq (fun c c1 c2 => (EO c (by omega)).tr (eqA.sr (by omega)))⟩
theorem c_stinit {γ : GG} {a : Nat} {h : AH} (hk : kd h a = some (.inl 6)) (hN : nx h = some (a + 1)) : Call γ mX7_init 4 307 4542 [vr (some a)] h (rF (fun h' => isSt h' a (T0, fun _ => []) ∧ nx h' = some (a + 308) ∧ ∀ b, b < a → eqA h h' b)) := by
  refine Call.mono (Q' := rF (fun h' => sI h' a 4 ∧ ∀ b, b < a → eqA h h' b)) (fun r h' hq => ?_) ?_
  · obtain ⟨q1, ⟨p1, p2, p3, p4, p5, p6, p7⟩, q3⟩ := hq
    exact ⟨q1, ⟨⟨p1, p2, p3, p4, p5.1, fun p hp => ⟨(p7 p hp).1, _, _, (p7 p hp).2.1⟩⟩, p5, fun p hp => ⟨_, _, (p7 p hp).2⟩⟩, p6, q3⟩
  refine Call.of (ls := [(0, vr (some a))]) iX7_init.1 (Nat.le_of_ble_eq_true rfl) rfl ?_
  refine aw_aload_n dX7_init_0 rfl ?_
  refine aw_objInit dX7_init_1 kX7_3 oi_i oi_c (by decide) (Nat.le_of_ble_eq_true rfl) ?_
  refine aw_aload_n dX7_init_4 rfl ?_
  refine aw_new dX7_init_5 ciX10 cX7_9 nX10 zX10 (by decide) (by decide) (by decide) (fun q9 f9 g9 e9 => ?_)
  obtain rfl : q9 = a + 1 := e9 _ hN
  clear f9 g9 e9
  refine aw_dup dX7_init_8 rfl ?_
  refine aw_invI_f dX7_init_9 iX10_init kX7_11 rfl (c_tinit (kd_mka rfl) (by rw [nx_mk, hN]; rfl)) rfl rfl (by decide) (by decide) (by decide) (Nat.le_of_ble_eq_true rfl) (fun H1 hP9 => ?_)
  obtain ⟨S1, N1, E1⟩ := hP9
  have EO : ∀ b, b < a + 1 → eqA h H1 b := fun b hb => (eqA.mk (by omega)).tr (E1 b hb)
  have ka := (EO a (by omega)).1.trans hk
  refine aw_putF' (j := 0) (by rfl) rfl rfl dX7_init_12 eX7_12 ka rfl ?_
  refine aw_aload_n dX7_init_15 rfl ?_
  refine aw_iconst dX7_init_16 ?_
  refine aw_newq5 (n := 4) dX7_init_17 cX7_18 (by decide) (by decide) (by decide) (fun q9 f9 g9 e9 => ?_)
  obtain rfl : q9 = a + 11 := e9 _ N1
  clear f9 g9 e9
  refine aw_putF' (j := 1) (by rfl) rfl rfl dX7_init_20 eX7_20 ((kd_mkn (by omega)).trans ka) rfl ?_
  refine aw_iconst dX7_init_23 ?_
  refine aw_istore_n (ls1 := [(1, _), (0, _)]) dX7_init_24 (by decide) rfl ?_
  refine aw_sub [0, 1] rfl ?_
  refine l_stinit (γ := γ) (h := h) 4 0 _ (by omega) (fun b hb => (EO b (by omega)).tr ((eqA.sr (by omega)).tr ((eqA.mk (by omega)).tr (eqA.sr (by omega))))) ⟨(kd_mkn (by omega)).trans ka, (gr_ne (Or.inr (by decide))).trans ((gr_mkn (by omega)).trans (gr_at rfl rfl)), gr_at rfl rfl, kd_mka rfl, S1.eq (fun b b1 b2 => (eqA.sr (by omega)).tr ((eqA.mk (by omega)).tr (eqA.sr (by omega)))), ?_, fun i hi => absurd hi (by omega)⟩
  simp only [nx_sr, nx_mk, N1, Option.map_some]
