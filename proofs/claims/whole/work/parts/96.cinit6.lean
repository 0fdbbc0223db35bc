/-! ===== constructors: History ===== -/
def hI9 (H : AH) (a k : Nat) : Prop := kd H a = some (.inl 1) ∧ gr H a 0 = some (a + 1) ∧ kd H (a + 1) = some (.inr (6, 4)) ∧ gi H a 1 = 0 ∧ gi H a 2 = 0 ∧ nx H = some (a + 2 + 308 * k) ∧ ∀ i : Nat, i < k → gr H (a + 1) i = some (a + 2 + 308 * i) ∧ shSt H (a + 2 + 308 * i)
theorem l_hinit {γ : GG} {a : Nat} {h : AH} : ∀ (m k : Nat) (H : AH), k + m = 4 → (∀ b, b < a → eqA h H b) → hI9 H a k → AW γ mX2_init 5 (308 * m) (4544 * m) 24 [(1, vi (k : Int)), (0, vr (some a))] [] H (rF (fun h' => hI9 h' a 4 ∧ ∀ b, b < a → eqA h h' b)) := by
  intro m
  induction m with
  | zero =>
    intro k H hk0 hE hI
    obtain rfl : k = 4 := by omega
    refine aw_iload_n dX2_init_24 rfl ?_
    refine aw_iconst dX2_init_25 ?_
    refine aw_ic_ge (tgt := 48) dX2_init_26 rfl (by omega) (by omega) (fun c26 => ?_) (fun c26 => ?_)
    · exact aw_return dX2_init_48 rfl (Or.inl rfl) ⟨rfl, hI, hE⟩
    · exact absurd c26 (by omega)
  | succ m ih =>
    intro k H hk0 hE hI
    obtain ⟨ka, ra, kb, g1, g2, hN, hj⟩ := hI
    have e1 : 308 * (m + 1) - 1 - 307 = 308 * m := by omega
    have e2 : 4544 * (m + 1) - 2 - 4542 = 4544 * m := by rw [Nat.mul_succ, Nat.sub_sub]; exact Nat.add_sub_cancel (4544 * m) 4544
    refine aw_iload_n dX2_init_24 rfl ?_
    refine aw_iconst dX2_init_25 ?_
    refine aw_ic_ge (tgt := 48) dX2_init_26 rfl (by omega) (by omega) (fun c26 => ?_) (fun c26 => ?_)
    · exact absurd c26 (by omega)
    · refine aw_aload_n dX2_init_29 rfl ?_
      refine aw_getr' (j := 0) dX2_init_30 fX2_11 rfl ka rfl ra ?_
      refine aw_iload_n dX2_init_33 rfl ?_
      refine aw_new dX2_init_34 ciX7 cX2_9 nX7 zX7 (by decide) (by omega) (by omega) (fun q9 f9 g9 e9 => ?_)
      obtain rfl : q9 = a + 2 + 308 * k := e9 _ hN
      clear f9 g9 e9
      refine aw_dup dX2_init_37 rfl ?_
      refine aw_invI_f dX2_init_38 iX7_init kX2_24 rfl (c_stinit (kd_mka rfl) (by rw [nx_mk, hN]; rfl)) rfl rfl (by decide) (by omega) (by omega) (Nat.le_of_ble_eq_true rfl) (fun H1 hP9 => ?_)
      obtain ⟨S1, N1, E1⟩ := hP9
      rw [e1, e2]
      have ks1 := S1.1.1
      have EO : ∀ b, b < a + 2 + 308 * k → eqA H H1 b := fun b hb => (eqA.mk (by omega)).tr (E1 b hb)
      have kb1 := (EO (a + 1) (by omega)).1.trans kb
      refine aw_aast6 dX2_init_41 kb1 (by omega) (by first | decide | omega) ks1 ?_
      refine aw_iinc (k9 := 0) (ls1 := [(1, _), (0, _)]) dX2_init_42 rfl (by decide) rfl ?_
      refine aw_goto (tgt := 24) dX2_init_45 rfl ?_
      refine aw_sub [0, 1] rfl ?_
      refine ih (k + 1) _ (by omega) (fun b hb => (hE b hb).tr ((EO b (by omega)).tr (eqA.sr (by omega)))) ⟨(EO a (by omega)).1.trans ka, (gr_ne (Or.inl (by omega))).trans (((EO a (by omega)).2 0).2.2.trans ra), kb1, ((EO a (by omega)).2 1).1.trans g1, ((EO a (by omega)).2 2).1.trans g2, N1.trans (congrArg some (by omega)), fun i hi => ?_⟩
      by_cases q : i = k
      · subst q
        exact ⟨gr_at rfl rfl, S1.1.eq (fun c c1 c2 => eqA.sr (by omega))⟩
      · obtain ⟨i1, i2⟩ := hj i (by omega)
        exact ⟨(gr_ne (Or.inr (by omega))).trans (((EO (a + 1) (by omega)).2 i).2.2.trans i1), i2.eq (fun c c1 c2 => (EO c (by omega)).tr (eqA.sr (by omega)))⟩
theorem c_hinit {γ : GG} {a : Nat} {h : AH} (hk : kd h a = some (.inl 1)) (hN : nx h = some (a + 1)) : Call γ mX2_init 5 1233 18180 [vr (some a)] h (rF (fun h' => isHi h' a [] ∧ nx h' = some (a + 1234) ∧ ∀ b, b < a → eqA h h' b)) := by
  refine Call.mono (Q' := rF (fun h' => hI9 h' a 4 ∧ ∀ b, b < a → eqA h h' b)) (fun r h' hq => ?_) ?_
  · obtain ⟨q1, ⟨p1, p2, p3, p4, p5, p6, p7⟩, q3⟩ := hq
    exact ⟨q1, ⟨⟨p1, p2, p3, p7⟩, p5, 0, p4, by decide, by decide, fun i S hi => by simp at hi⟩, p6, q3⟩
  refine Call.of (ls := [(0, vr (some a))]) iX2_init.1 (Nat.le_of_ble_eq_true rfl) rfl ?_
  refine aw_aload_n dX2_init_0 rfl ?_
  refine aw_objInit dX2_init_1 kX2_3 oi_i oi_c (by decide) (Nat.le_of_ble_eq_true rfl) ?_
  refine aw_aload_n dX2_init_4 rfl ?_
  refine aw_iconst dX2_init_5 ?_
  refine aw_newq6 (n := 4) dX2_init_6 cX2_9 (by decide) (by decide) (by decide) (fun q9 f9 g9 e9 => ?_)
  obtain rfl : q9 = a + 1 := e9 _ (by simp only [nx_si, nx_sl, nx_sr, nx_mk, hN, Option.map_some])
  clear f9 g9 e9
  refine aw_putF' (j := 0) (by rfl) rfl rfl dX2_init_9 eX2_11 (by repeat (first | exact hk | exact kd_mka rfl | refine (kd_sr _ _ _ _ _).trans ?_ | refine (kd_si _ _ _ _ _).trans ?_ | refine (kd_mkn (by omega)).trans ?_)) rfl ?_
  refine aw_aload_n dX2_init_12 rfl ?_
  refine aw_iconst dX2_init_13 ?_
  refine aw_puti' (j := 1) rfl dX2_init_14 fX2_17 (by repeat (first | exact hk | exact kd_mka rfl | refine (kd_sr _ _ _ _ _).trans ?_ | refine (kd_si _ _ _ _ _).trans ?_ | refine (kd_mkn (by omega)).trans ?_)) rfl ?_
  refine aw_aload_n dX2_init_17 rfl ?_
  refine aw_iconst dX2_init_18 ?_
  refine aw_puti' (j := 2) rfl dX2_init_19 fX2_21 (by repeat (first | exact hk | exact kd_mka rfl | refine (kd_sr _ _ _ _ _).trans ?_ | refine (kd_si _ _ _ _ _).trans ?_ | refine (kd_mkn (by omega)).trans ?_)) rfl ?_
  refine aw_iconst dX2_init_22 ?_
  refine aw_istore_n (ls1 := [(1, _), (0, _)]) dX2_init_23 (by decide) rfl ?_
  refine aw_sub [0, 1] rfl ?_
  exact l_hinit (γ := γ) (h := h) 4 0 _ (by omega) (fun b hb => (by repeat (first | exact eqA.rf | refine eqA.tr ?_ (eqA.si (by omega)) | refine eqA.tr ?_ (eqA.sr (by omega)) | refine eqA.tr ?_ (eqA.mk (by omega))))) ⟨(by repeat (first | exact hk | exact kd_mka rfl | refine (kd_sr _ _ _ _ _).trans ?_ | refine (kd_si _ _ _ _ _).trans ?_ | refine (kd_mkn (by omega)).trans ?_)), (show gr _ a 0 = some (a + 1) from by repeat (first | exact gr_at rfl rfl | refine (gr_ne (Or.inr (by decide))).trans ?_ | refine (gr_si _ _ _ _ _ _).trans ?_ | refine (gr_mkn (by omega)).trans ?_)), (by repeat (first | exact hk | exact kd_mka rfl | refine (kd_sr _ _ _ _ _).trans ?_ | refine (kd_si _ _ _ _ _).trans ?_ | refine (kd_mkn (by omega)).trans ?_)), (by repeat (first | exact gi_at rfl rfl | exact gi_mka rfl | refine (gi_ne (Or.inr (by decide))).trans ?_ | refine (gi_sr _ _ _ _ _ _).trans ?_ | refine (gi_mkn (by omega)).trans ?_)), (by repeat (first | exact gi_at rfl rfl | exact gi_mka rfl | refine (gi_ne (Or.inr (by decide))).trans ?_ | refine (gi_sr _ _ _ _ _ _).trans ?_ | refine (gi_mkn (by omega)).trans ?_)), (by simp only [nx_si, nx_sl, nx_sr, nx_mk, hN, Option.map_some]), fun i hi => absurd hi (by omega)⟩
