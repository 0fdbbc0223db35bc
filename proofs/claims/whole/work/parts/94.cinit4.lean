/-! ===== constructors: Query ===== -/
def qI (H : AH) (a k : Nat) : Prop := kd H a = some (.inl 4) ∧ gr H a 1 = some (a + 1) ∧ kd H (a + 1) = some (.inr (4, 4)) ∧ gi H a 0 = 0 ∧ nx H = some (a + 2 + 18 * k) ∧ ∀ i : Nat, i < k → gr H (a + 1) i = some (a + 2 + 18 * i) ∧ shP H (a + 2 + 18 * i) (fun i => i)
theorem l_qinit {γ : GG} {a : Nat} {h : AH} : ∀ (m k : Nat) (H : AH), k + m = 4 → (∀ b, b < a → eqA h H b) → qI H a k → AW γ mX5_init 3 (18 * m) (259 * m) 19 [(1, vi (k : Int)), (0, vr (some a))] [] H (rF (fun h' => qI h' a 4 ∧ ∀ b, b < a → eqA h h' b)) := by
  intro m
  induction m with
  | zero =>
    intro k H hk0 hE hI
    obtain rfl : k = 4 := by omega
    refine aw_iload_n dX5_init_19 rfl ?_
    refine aw_iconst dX5_init_20 ?_
    refine aw_ic_ge (tgt := 43) dX5_init_21 rfl (by omega) (by omega) (fun c21 => ?_) (fun c21 => ?_)
    · exact aw_return dX5_init_43 rfl (Or.inl rfl) ⟨rfl, hI, hE⟩
    · exact absurd c21 (by omega)
  | succ m ih =>
    intro k H hk0 hE hI
    obtain ⟨ka, ra, kb, g0, hN, hj⟩ := hI
    have e1 : 18 * (m + 1) - 1 - 17 = 18 * m := by omega
    have e2 : 259 * (m + 1) - 3 - 256 = 259 * m := by omega
    refine aw_iload_n dX5_init_19 rfl ?_
    refine aw_iconst dX5_init_20 ?_
    refine aw_ic_ge (tgt := 43) dX5_init_21 rfl (by omega) (by omega) (fun c21 => ?_) (fun c21 => ?_)
    · exact absurd c21 (by omega)
    · refine aw_aload_n dX5_init_24 rfl ?_
      refine aw_getr' (j := 1) dX5_init_25 fX5_17 rfl ka rfl ra ?_
      refine aw_iload_n dX5_init_28 rfl ?_
      refine aw_new dX5_init_29 ciX4 cX5_15 nX4 zX4 (by decide) (by omega) (by omega) (fun q9 f9 g9 e9 => ?_)
      obtain rfl : q9 = a + 2 + 18 * k := e9 _ hN
      clear f9 g9 e9
      refine aw_dup dX5_init_32 rfl ?_
      refine aw_invI_f dX5_init_33 iX4_init kX5_21 rfl (c_pinit (kd_mka rfl) (by rw [nx_mk, hN]; rfl)) rfl rfl (by decide) (by omega) (by omega) (Nat.le_of_ble_eq_true rfl) (fun H1 hP9 => ?_)
      obtain ⟨S1, N1, E1⟩ := hP9
      rw [e1, e2]
      have ka1 := (E1 a (by omega)).1.trans ((kd_mkn (by omega)).trans ka)
      have ra1 := ((E1 a (by omega)).2 1).2.2.trans ((gr_mkn (by omega)).trans ra)
      have g01 := ((E1 a (by omega)).2 0).1.trans ((gi_mkn (by omega)).trans g0)
      have kb1 := (E1 (a + 1) (by omega)).1.trans ((kd_mkn (by omega)).trans kb)
      have ks1 := S1.1
      refine aw_aast4 dX5_init_36 kb1 (by omega) (by first | decide | omega) ks1 ?_
      refine aw_iinc (k9 := 0) (ls1 := [(1, _), (0, _)]) dX5_init_37 rfl (by decide) rfl ?_
      refine aw_goto (tgt := 19) dX5_init_40 rfl ?_
      refine aw_sub [0, 1] rfl ?_
      refine ih (k + 1) _ (by omega) (fun b hb => ((hE b hb).tr (eqA.mk (by omega))).tr ((E1 b (by omega)).tr (eqA.sr (by omega)))) ⟨ka1, (gr_ne (Or.inl (by omega))).trans ra1, kb1, g01, N1.trans (by congr 1), fun i hi => ?_⟩
      by_cases q : i = k
      · subst q
        exact ⟨gr_at rfl rfl, S1.eq (fun c c1 c2 => eqA.sr (by omega))⟩
      · obtain ⟨i1, i2⟩ := hj i (by omega)
        exact ⟨(gr_ne (Or.inr (by omega))).trans (((E1 (a + 1) (by omega)).2 i).2.2.trans ((gr_mkn (by omega)).trans i1)), i2.eq (fun c c1 c2 => ((eqA.mk (by omega)).tr (E1 c (by omega))).tr (eqA.sr (by omega)))⟩
theorem c_qinit {γ : GG} {a : Nat} {h : AH} (hk : kd h a = some (.inl 4)) (hN : nx h = some (a + 1)) : Call γ mX5_init 3 73 1040 [vr (some a)] h (rF (fun h' => isQ h' a (fun i => i) (fun _ i => i) [] ∧ nx h' = some (a + 74) ∧ ∀ b, b < a → eqA h h' b)) := by
  refine Call.mono (Q' := rF (fun h' => qI h' a 4 ∧ ∀ b, b < a → eqA h h' b)) (fun r h' hq => ?_) ?_
  · obtain ⟨q1, ⟨p1, p2, p3, p0, p4, p5⟩, q3⟩ := hq
    exact ⟨q1, ⟨⟨p1, p2, p3, ⟨fun i hi => hi, fun i j _ _ hij => hij⟩, fun i hi => (p5 i hi).1, fun i hi => (p5 i hi).2⟩, p0, by decide, fun i t ht => by simp at ht⟩, p4, q3⟩
  refine Call.of (ls := [(0, vr (some a))]) iX5_init.1 (Nat.le_of_ble_eq_true rfl) rfl ?_
  refine aw_aload_n dX5_init_0 rfl ?_
  refine aw_objInit dX5_init_1 kX5_3 oi_i oi_c (by decide) (Nat.le_of_ble_eq_true rfl) ?_
  refine aw_aload_n dX5_init_4 rfl ?_
  refine aw_iconst dX5_init_5 ?_
  refine aw_puti' (j := 0) rfl dX5_init_6 fX5_9 (by repeat (first | assumption | exact kd_mka rfl | refine (kd_sr _ _ _ _ _).trans ?_ | refine (kd_si _ _ _ _ _).trans ?_ | refine (kd_mkn (by omega)).trans ?_)) rfl ?_
  refine aw_aload_n dX5_init_9 rfl ?_
  refine aw_iconst dX5_init_10 ?_
  refine aw_newq4 (n := 4) dX5_init_11 cX5_15 (by decide) (by decide) (by decide) (fun q9 f9 g9 e9 => ?_)
  obtain rfl : q9 = a + 1 := e9 _ (by simp only [nx_si, nx_sl, nx_sr, nx_mk, hN, Option.map_some])
  clear f9 g9 e9
  refine aw_putF' (j := 1) (by rfl) rfl rfl dX5_init_14 eX5_17 (by repeat (first | assumption | exact kd_mka rfl | refine (kd_sr _ _ _ _ _).trans ?_ | refine (kd_si _ _ _ _ _).trans ?_ | refine (kd_mkn (by omega)).trans ?_)) rfl ?_
  refine aw_iconst dX5_init_17 ?_
  refine aw_istore_n (ls1 := [(1, _), (0, _)]) dX5_init_18 (by decide) rfl ?_
  refine aw_sub [0, 1] rfl ?_
  exact l_qinit (γ := γ) (h := h) 4 0 _ (by omega) (fun b hb => (by repeat (first | exact eqA.rf | refine eqA.tr ?_ (eqA.si (by omega)) | refine eqA.tr ?_ (eqA.sr (by omega)) | refine eqA.tr ?_ (eqA.mk (by omega))))) ⟨(by repeat (first | assumption | exact kd_mka rfl | refine (kd_sr _ _ _ _ _).trans ?_ | refine (kd_si _ _ _ _ _).trans ?_ | refine (kd_mkn (by omega)).trans ?_)), (show gr _ a 1 = some (a + 1) from by repeat (first | exact gr_at rfl rfl | refine (gr_ne (Or.inr (by decide))).trans ?_ | refine (gr_si _ _ _ _ _ _).trans ?_ | refine (gr_mkn (by omega)).trans ?_)), (by repeat (first | assumption | exact kd_mka rfl | refine (kd_sr _ _ _ _ _).trans ?_ | refine (kd_si _ _ _ _ _).trans ?_ | refine (kd_mkn (by omega)).trans ?_)), (by repeat (first | exact gi_at rfl rfl | exact gi_mka rfl | refine (gi_ne (Or.inr (by decide))).trans ?_ | refine (gi_sr _ _ _ _ _ _).trans ?_ | refine (gi_mkn (by omega)).trans ?_)), (by simp only [nx_si, nx_sl, nx_sr, nx_mk, hN, Option.map_some]), fun i hi => absurd hi (by omega)⟩
