/-! ===== constructors: Path ===== -/
theorem aw_invIN_f {γ : GG} {M : MD} {d kc ks pc : Nat} {ls : List (Nat × AV)} {st : List AV} {h : AH} {Q : AR → AH → Prop} {M' : MD} {d' kc' ks' n idx : Nat} {a : Nat} {host : String} {as st0 : List AV} {P : AH → Prop} (hd : decode M.2.1 pc = .ok (.invokespecial idx, 3)) (hm : mI M' n) (hlk : Cond.methodLinkNest M.1.cls idx M'.1 host ∈ lw_tbl) (ht0 : M.2.2.2.2 = []) (hC : Call γ M' d' kc' ks' (vr (some a) :: as) h (rF P)) (has : st0 = as.reverse ++ vr (some a) :: st) (hn : as.length = n) (hd' : d' + 1 ≤ d) (h1' : kc' ≤ kc) (h2' : ks' ≤ ks) (hst : st.length ≤ 4) (kk : ∀ h1 : AH, P h1 → AW γ M d (kc - kc') (ks - ks') (pc + 3) ls (st) h1 Q) : AW γ M d kc ks pc ls st0 h Q := by
  rw [has]
  exact aw_invIN hd hm hlk ht0 hC rfl hn hd' h1' h2' hst (fun v9 h' hq => by obtain ⟨e, hp⟩ := hq; cases e; exact kk _ hp) (fun X h' hq => by obtain ⟨e, -⟩ := hq; cases e)
def pI (H : AH) (a k : Nat) : Prop := kd H a = some (.inl 3) ∧ gr H a 2 = some (a + 1) ∧ kd H (a + 1) = some (.inr (7, 8)) ∧ nx H = some (a + 2 + 2 * k) ∧ ∀ i : Nat, i < k → gr H (a + 1) i = some (a + 2 + 2 * i) ∧ shS H (a + 2 + 2 * i)
theorem l_pinit {γ : GG} {a : Nat} {h : AH} : ∀ (m k : Nat) (H : AH), k + m = 8 → (∀ b, b < a → eqA h H b) → pI H a k → AW γ mX4_init 2 (2 * m) (31 * m) 25 [(1, vi (k : Int)), (0, vr (some a))] [] H (rF (fun h' => pI h' a 8 ∧ ∀ b, b < a → eqA h h' b)) := by
  intro m
  induction m with
  | zero =>
    intro k H hk0 hE hI
    obtain rfl : k = 8 := by omega
    refine aw_iload_n dX4_init_25 rfl ?_
    refine aw_bipush dX4_init_26 rfl ?_
    refine aw_ic_ge (tgt := 50) dX4_init_28 rfl (by omega) (by omega) (fun c28 => ?_) (fun c28 => ?_)
    · exact aw_return dX4_init_50 rfl (Or.inl rfl) ⟨rfl, hI, hE⟩
    · exact absurd c28 (by omega)
  | succ m ih =>
    intro k H hk0 hE hI
    obtain ⟨ka, ra, kb, hN, hj⟩ := hI
    have e1 : 2 * (m + 1) - 1 - 1 = 2 * m := by omega
    have e2 : 31 * (m + 1) - 4 - 27 = 31 * m := by omega
    refine aw_iload_n dX4_init_25 rfl ?_
    refine aw_bipush dX4_init_26 rfl ?_
    refine aw_ic_ge (tgt := 50) dX4_init_28 rfl (by omega) (by omega) (fun c28 => ?_) (fun c28 => ?_)
    · exact absurd c28 (by omega)
    · refine aw_aload_n dX4_init_31 rfl ?_
      refine aw_getr' (j := 2) dX4_init_32 fX4_21 rfl (by assumption) rfl (by assumption) ?_
      refine aw_iload_n dX4_init_35 rfl ?_
      refine aw_new dX4_init_36 ciX8 cX4_19 nX8 zX8 (by decide) (by omega) (by omega) (fun q9 f9 g9 e9 => ?_)
      obtain rfl : q9 = a + 2 + 2 * k := e9 _ hN
      clear f9 g9 e9
      refine aw_dup dX4_init_39 rfl ?_
      refine aw_invIN_f dX4_init_40 iX8_init kX4_25 rfl (c_sinit (kd_mka rfl) (by rw [nx_mk, hN]; rfl)) rfl rfl (by decide) (by omega) (by omega) (Nat.le_of_ble_eq_true rfl) (fun H1 hP9 => ?_)
      obtain ⟨S1, N1, E1⟩ := hP9
      rw [e1, e2]
      have ka1 := (E1 a (by omega)).1.trans ((kd_mkn (by omega)).trans ka)
      have ra1 := ((E1 a (by omega)).2 2).2.2.trans ((gr_mkn (by omega)).trans ra)
      have kb1 := (E1 (a + 1) (by omega)).1.trans ((kd_mkn (by omega)).trans kb)
      have ks1 := S1.1
      refine aw_aast7 dX4_init_43 (by assumption) (by omega) (by first | decide | omega) (by assumption) ?_
      refine aw_iinc (k9 := 0) (ls1 := [(1, _), (0, _)]) dX4_init_44 rfl (by decide) rfl ?_
      refine aw_goto (tgt := 25) dX4_init_47 rfl ?_
      refine aw_sub [0, 1] rfl ?_
      refine ih (k + 1) _ (by omega) (fun b hb => ((hE b hb).tr (eqA.mk (by omega))).tr ((E1 b (by omega)).tr (eqA.sr (by omega)))) ⟨ka1, (gr_ne (Or.inl (by omega))).trans ra1, kb1, N1.trans (by congr 1), fun i hi => ?_⟩
      by_cases q : i = k
      · subst q
        exact ⟨gr_at rfl rfl, S1.eq (eqA.sr (by omega)) (eqA.sr (by omega))⟩
      · obtain ⟨i1, i2⟩ := hj i (by omega)
        refine ⟨(gr_ne (Or.inr (by omega))).trans (((E1 (a + 1) (by omega)).2 i).2.2.trans ((gr_mkn (by omega)).trans i1)), i2.eq (((eqA.mk (by omega)).tr (E1 _ (by omega))).tr (eqA.sr (by omega))) (((eqA.mk (by omega)).tr (E1 _ (by omega))).tr (eqA.sr (by omega)))⟩
theorem c_pinit {γ : GG} {a : Nat} {h : AH} (hk : kd h a = some (.inl 3)) (hN : nx h = some (a + 1)) : Call γ mX4_init 2 17 256 [vr (some a)] h (rF (fun h' => shP h' a (fun i => i) ∧ nx h' = some (a + 18) ∧ ∀ b, b < a → eqA h h' b)) := by
  refine Call.mono (Q' := rF (fun h' => pI h' a 8 ∧ ∀ b, b < a → eqA h h' b)) (fun r h' hq => ?_) ?_
  · obtain ⟨q1, ⟨p1, p2, p3, p4, p5⟩, q3⟩ := hq
    exact ⟨q1, ⟨p1, p2, p3, ⟨fun i hi => hi, fun i j _ _ hij => hij⟩, fun i hi => (p5 i hi).1, fun i hi => (p5 i hi).2⟩, p4, q3⟩
  refine Call.of (ls := [(0, vr (some a))]) iX4_init.1 (Nat.le_of_ble_eq_true rfl) rfl ?_
  refine aw_aload_n dX4_init_0 rfl ?_
  refine aw_objInit dX4_init_1 kX4_3 oi_i oi_c (by decide) (Nat.le_of_ble_eq_true rfl) ?_
  refine aw_aload_n dX4_init_4 rfl ?_
  refine aw_iconst dX4_init_5 ?_
  refine aw_putz' (j := 0) rfl (by omega) dX4_init_6 fX4_9 (by repeat (first | assumption | exact kd_mka rfl | refine (kd_sr _ _ _ _ _).trans ?_ | refine (kd_si _ _ _ _ _).trans ?_ | refine (kd_mkn (by omega)).trans ?_)) rfl ?_
  refine aw_aload_n dX4_init_9 rfl ?_
  refine aw_iconst dX4_init_10 ?_
  refine aw_puti' (j := 1) rfl dX4_init_11 fX4_15 (by repeat (first | assumption | exact kd_mka rfl | refine (kd_sr _ _ _ _ _).trans ?_ | refine (kd_si _ _ _ _ _).trans ?_ | refine (kd_mkn (by omega)).trans ?_)) rfl ?_
  refine aw_aload_n dX4_init_14 rfl ?_
  refine aw_bipush dX4_init_15 rfl ?_
  refine aw_newq7 (n := 8) dX4_init_17 cX4_19 (by decide) (by decide) (by decide) (fun q9 f9 g9 e9 => ?_)
  obtain rfl : q9 = a + 1 := e9 _ (by simp only [nx_si, nx_sl, nx_sr, nx_mk, hN, Option.map_some])
  clear f9 g9 e9
  refine aw_putF' (j := 2) (by rfl) rfl rfl dX4_init_20 eX4_21 (by repeat (first | assumption | exact kd_mka rfl | refine (kd_sr _ _ _ _ _).trans ?_ | refine (kd_si _ _ _ _ _).trans ?_ | refine (kd_mkn (by omega)).trans ?_)) rfl ?_
  refine aw_iconst dX4_init_23 ?_
  refine aw_istore_n (ls1 := [(1, _), (0, _)]) dX4_init_24 (by decide) rfl ?_
  refine aw_sub [0, 1] rfl ?_
  exact l_pinit (γ := γ) (h := h) 8 0 _ (by omega) (fun b hb => (by repeat (first | exact eqA.rf | refine eqA.tr ?_ (eqA.si (by omega)) | refine eqA.tr ?_ (eqA.sr (by omega)) | refine eqA.tr ?_ (eqA.mk (by omega))))) ⟨(by repeat (first | assumption | exact kd_mka rfl | refine (kd_sr _ _ _ _ _).trans ?_ | refine (kd_si _ _ _ _ _).trans ?_ | refine (kd_mkn (by omega)).trans ?_)), (show gr _ a 2 = some (a + 1) from by repeat (first | exact gr_at rfl rfl | refine (gr_ne (Or.inr (by decide))).trans ?_ | refine (gr_si _ _ _ _ _ _).trans ?_ | refine (gr_mkn (by omega)).trans ?_)), (by repeat (first | assumption | exact kd_mka rfl | refine (kd_sr _ _ _ _ _).trans ?_ | refine (kd_si _ _ _ _ _).trans ?_ | refine (kd_mkn (by omega)).trans ?_)), (by simp only [nx_si, nx_sl, nx_sr, nx_mk, hN, Option.map_some]), fun i hi => absurd hi (by omega)⟩
