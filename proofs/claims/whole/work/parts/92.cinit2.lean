/-! ===== constructors: Step, Rewriter, Evaluator, Text ===== -/
theorem c_sinit {γ : GG} {a : Nat} {h : AH} (hk : kd h a = some (.inl 7)) (hN : nx h = some (a + 1)) : Call γ mX8_init 1 1 27 [vr (some a)] h (rF (fun h' => shS h' a ∧ nx h' = some (a + 2) ∧ ∀ b, b < a → eqA h h' b)) := by
  refine Call.of (ls := [(0, vr (some a))]) iX8_init.1 (Nat.le_of_ble_eq_true rfl) rfl ?_
  refine aw_aload_n dX8_init_0 rfl ?_
  refine aw_objInit dX8_init_1 kX8_3 oi_i oi_c (by decide) (Nat.le_of_ble_eq_true rfl) ?_
  refine aw_aload_n dX8_init_4 rfl ?_
  refine aw_iconst dX8_init_5 ?_
  refine aw_puti' (j := 0) rfl dX8_init_6 fX8_9 (by repeat (first | exact hk | exact kd_mka rfl | refine (kd_sr _ _ _ _ _).trans ?_ | refine (kd_si _ _ _ _ _).trans ?_ | refine (kd_mkn (by omega)).trans ?_)) rfl ?_
  refine aw_aload_n dX8_init_9 rfl ?_
  refine aw_bipush dX8_init_10 rfl ?_
  refine aw_puti' (j := 1) rfl dX8_init_12 fX8_15 (by repeat (first | exact hk | exact kd_mka rfl | refine (kd_sr _ _ _ _ _).trans ?_ | refine (kd_si _ _ _ _ _).trans ?_ | refine (kd_mkn (by omega)).trans ?_)) rfl ?_
  refine aw_aload_n dX8_init_15 rfl ?_
  refine aw_iconst dX8_init_16 ?_
  refine aw_puti' (j := 2) rfl dX8_init_17 fX8_18 (by repeat (first | exact hk | exact kd_mka rfl | refine (kd_sr _ _ _ _ _).trans ?_ | refine (kd_si _ _ _ _ _).trans ?_ | refine (kd_mkn (by omega)).trans ?_)) rfl ?_
  refine aw_aload_n dX8_init_20 rfl ?_
  refine aw_bipush dX8_init_21 rfl ?_
  refine aw_newai (n := 27) dX8_init_23 arr_int (by omega) (by decide) (by omega) (fun q9 f9 g9 e9 => ?_)
  obtain rfl : q9 = a + 1 := e9 _ (by simp only [nx_si, nx_sl, nx_sr, nx_mk, hN, Option.map_some])
  clear f9 g9 e9
  refine aw_putF' (j := 3) (by rfl) rfl rfl dX8_init_25 eX8_21 (by repeat (first | exact hk | exact kd_mka rfl | refine (kd_sr _ _ _ _ _).trans ?_ | refine (kd_si _ _ _ _ _).trans ?_ | refine (kd_mkn (by omega)).trans ?_)) rfl ?_
  exact aw_return dX8_init_28 rfl (Or.inl rfl) ⟨rfl, ⟨(by repeat (first | exact hk | exact kd_mka rfl | refine (kd_sr _ _ _ _ _).trans ?_ | refine (kd_si _ _ _ _ _).trans ?_ | refine (kd_mkn (by omega)).trans ?_)), (show gr _ a 3 = some (a + 1) from by repeat (first | exact gr_at rfl rfl | refine (gr_ne (Or.inr (by decide))).trans ?_ | refine (gr_si _ _ _ _ _ _).trans ?_ | refine (gr_mkn (by omega)).trans ?_)), (by repeat (first | exact hk | exact kd_mka rfl | refine (kd_sr _ _ _ _ _).trans ?_ | refine (kd_si _ _ _ _ _).trans ?_ | refine (kd_mkn (by omega)).trans ?_))⟩, (by simp only [nx_si, nx_sl, nx_sr, nx_mk, hN, Option.map_some]), fun b hb => (by repeat (first | exact eqA.rf | refine eqA.tr ?_ (eqA.si (by omega)) | refine eqA.tr ?_ (eqA.sr (by omega)) | refine eqA.tr ?_ (eqA.mk (by omega))))⟩
theorem c_uinit {γ : GG} {a : Nat} {h : AH} (hk : kd h a = some (.inl 5)) (hN : nx h = some (a + 1)) : Call γ mX6_init 1 1 10 [vr (some a)] h (rF (fun h' => (kd h' a = some (.inl 5) ∧ gr h' a 0 = some (a + 1) ∧ kd h' (a + 1) = some (.inr (1, 10))) ∧ nx h' = some (a + 2) ∧ ∀ b, b < a → eqA h h' b)) := by
  refine Call.of (ls := [(0, vr (some a))]) iX6_init.1 (Nat.le_of_ble_eq_true rfl) rfl ?_
  refine aw_aload_n dX6_init_0 rfl ?_
  refine aw_objInit dX6_init_1 kX6_3 oi_i oi_c (by decide) (Nat.le_of_ble_eq_true rfl) ?_
  refine aw_aload_n dX6_init_4 rfl ?_
  refine aw_bipush dX6_init_5 rfl ?_
  refine aw_newai (n := 10) dX6_init_7 arr_int (by omega) (by decide) (by omega) (fun q9 f9 g9 e9 => ?_)
  obtain rfl : q9 = a + 1 := e9 _ (by simp only [nx_si, nx_sl, nx_sr, nx_mk, hN, Option.map_some])
  clear f9 g9 e9
  refine aw_putF' (j := 0) (by rfl) rfl rfl dX6_init_9 eX6_9 (by repeat (first | exact hk | exact kd_mka rfl | refine (kd_sr _ _ _ _ _).trans ?_ | refine (kd_si _ _ _ _ _).trans ?_ | refine (kd_mkn (by omega)).trans ?_)) rfl ?_
  exact aw_return dX6_init_12 rfl (Or.inl rfl) ⟨rfl, ⟨(by repeat (first | exact hk | exact kd_mka rfl | refine (kd_sr _ _ _ _ _).trans ?_ | refine (kd_si _ _ _ _ _).trans ?_ | refine (kd_mkn (by omega)).trans ?_)), (show gr _ a 0 = some (a + 1) from by repeat (first | exact gr_at rfl rfl | refine (gr_ne (Or.inr (by decide))).trans ?_ | refine (gr_si _ _ _ _ _ _).trans ?_ | refine (gr_mkn (by omega)).trans ?_)), (by repeat (first | exact hk | exact kd_mka rfl | refine (kd_sr _ _ _ _ _).trans ?_ | refine (kd_si _ _ _ _ _).trans ?_ | refine (kd_mkn (by omega)).trans ?_))⟩, (by simp only [nx_si, nx_sl, nx_sr, nx_mk, hN, Option.map_some]), fun b hb => (by repeat (first | exact eqA.rf | refine eqA.tr ?_ (eqA.si (by omega)) | refine eqA.tr ?_ (eqA.sr (by omega)) | refine eqA.tr ?_ (eqA.mk (by omega))))⟩
theorem c_einit {γ : GG} {a : Nat} {h : AH} (hk : kd h a = some (.inl 0)) (hN : nx h = some (a + 1)) : Call γ mX1_init 1 2 1307 [vr (some a)] h (rF (fun h' => shE h' a ∧ nx h' = some (a + 3) ∧ ∀ b, b < a → eqA h h' b)) := by
  refine Call.of (ls := [(0, vr (some a))]) iX1_init.1 (Nat.le_of_ble_eq_true rfl) rfl ?_
  refine aw_aload_n dX1_init_0 rfl ?_
  refine aw_objInit dX1_init_1 kX1_3 oi_i oi_c (by decide) (Nat.le_of_ble_eq_true rfl) ?_
  refine aw_aload_n dX1_init_4 rfl ?_
  refine aw_sipush dX1_init_5 rfl ?_
  refine aw_newal (n := 1280) dX1_init_8 arr_long (by omega) (by decide) (by omega) (fun q9 f9 g9 e9 => ?_)
  obtain rfl : q9 = a + 1 := e9 _ (by simp only [nx_si, nx_sl, nx_sr, nx_mk, hN, Option.map_some])
  clear f9 g9 e9
  refine aw_putF' (j := 0) (by rfl) rfl rfl dX1_init_10 eX1_9 (by repeat (first | exact hk | exact kd_mka rfl | refine (kd_sr _ _ _ _ _).trans ?_ | refine (kd_si _ _ _ _ _).trans ?_ | refine (kd_mkn (by omega)).trans ?_)) rfl ?_
  refine aw_aload_n dX1_init_13 rfl ?_
  refine aw_bipush dX1_init_14 rfl ?_
  refine aw_newal (n := 27) dX1_init_16 arr_long (by omega) (by decide) (by omega) (fun q9 f9 g9 e9 => ?_)
  obtain rfl : q9 = a + 2 := e9 _ (by simp only [nx_si, nx_sl, nx_sr, nx_mk, hN, Option.map_some])
  clear f9 g9 e9
  refine aw_putF' (j := 1) (by rfl) rfl rfl dX1_init_18 eX1_15 (by repeat (first | exact hk | exact kd_mka rfl | refine (kd_sr _ _ _ _ _).trans ?_ | refine (kd_si _ _ _ _ _).trans ?_ | refine (kd_mkn (by omega)).trans ?_)) rfl ?_
  exact aw_return dX1_init_21 rfl (Or.inl rfl) ⟨rfl, ⟨(by repeat (first | exact hk | exact kd_mka rfl | refine (kd_sr _ _ _ _ _).trans ?_ | refine (kd_si _ _ _ _ _).trans ?_ | refine (kd_mkn (by omega)).trans ?_)), (show gr _ a 0 = some (a + 1) from by repeat (first | exact gr_at rfl rfl | refine (gr_ne (Or.inr (by decide))).trans ?_ | refine (gr_si _ _ _ _ _ _).trans ?_ | refine (gr_mkn (by omega)).trans ?_)), (by repeat (first | exact hk | exact kd_mka rfl | refine (kd_sr _ _ _ _ _).trans ?_ | refine (kd_si _ _ _ _ _).trans ?_ | refine (kd_mkn (by omega)).trans ?_)), (show gr _ a 1 = some (a + 2) from by repeat (first | exact gr_at rfl rfl | refine (gr_ne (Or.inr (by decide))).trans ?_ | refine (gr_si _ _ _ _ _ _).trans ?_ | refine (gr_mkn (by omega)).trans ?_)), (by repeat (first | exact hk | exact kd_mka rfl | refine (kd_sr _ _ _ _ _).trans ?_ | refine (kd_si _ _ _ _ _).trans ?_ | refine (kd_mkn (by omega)).trans ?_))⟩, (by simp only [nx_si, nx_sl, nx_sr, nx_mk, hN, Option.map_some]), fun b hb => (by repeat (first | exact eqA.rf | refine eqA.tr ?_ (eqA.si (by omega)) | refine eqA.tr ?_ (eqA.sr (by omega)) | refine eqA.tr ?_ (eqA.mk (by omega))))⟩
theorem c_xinit {γ : GG} {a n : Nat} {h : AH} (hk : kd h a = some (.inl 8)) (hN : nx h = some (a + 1)) (hn : 1 ≤ n ∧ n ≤ 1024) : Call γ mX9_init 1 1 n [vr (some a), vi (n : Int)] h (rF (fun h' => (kd h' a = some (.inl 8) ∧ gr h' a 0 = some (a + 1) ∧ kd h' (a + 1) = some (.inr (0, n)) ∧ gi h' a 1 = 0) ∧ nx h' = some (a + 2) ∧ ∀ b, b < a → eqA h h' b)) := by
  refine Call.of (ls := [(0, vr (some a)), (1, vi (n : Int))]) iX9_init.1 (Nat.le_of_ble_eq_true rfl) rfl ?_
  refine aw_aload_n dX9_init_0 rfl ?_
  refine aw_objInit dX9_init_1 kX9_3 oi_i oi_c (by decide) (Nat.le_of_ble_eq_true rfl) ?_
  refine aw_aload_n dX9_init_4 rfl ?_
  refine aw_iconst dX9_init_5 ?_
  refine aw_puti' (j := 1) rfl dX9_init_6 fX9_9 (by repeat (first | exact hk | exact kd_mka rfl | refine (kd_sr _ _ _ _ _).trans ?_ | refine (kd_si _ _ _ _ _).trans ?_ | refine (kd_mkn (by omega)).trans ?_)) rfl ?_
  refine aw_aload_n dX9_init_9 rfl ?_
  refine aw_iload_n dX9_init_10 rfl ?_
  refine aw_if_le (tgt := 18) dX9_init_11 rfl (by omega) (fun c11 => ?_) (fun c11 => ?_)
  · exact absurd c11 (by omega)
  · refine aw_iload_n dX9_init_14 rfl ?_
    refine aw_goto (tgt := 19) dX9_init_15 rfl ?_
    refine aw_newab (n := n) dX9_init_19 arr_byte (by omega) (by decide) (by omega) (fun q9 f9 g9 e9 => ?_)
    obtain rfl : q9 = a + 1 := e9 _ (by simp only [nx_si, nx_sl, nx_sr, nx_mk, hN, Option.map_some])
    clear f9 g9 e9
    refine aw_putF' (j := 0) (by rfl) rfl rfl dX9_init_21 eX9_15 (by repeat (first | exact hk | exact kd_mka rfl | refine (kd_sr _ _ _ _ _).trans ?_ | refine (kd_si _ _ _ _ _).trans ?_ | refine (kd_mkn (by omega)).trans ?_)) rfl ?_
    exact aw_return dX9_init_24 rfl (Or.inl rfl) ⟨rfl, ⟨(by repeat (first | exact hk | exact kd_mka rfl | refine (kd_sr _ _ _ _ _).trans ?_ | refine (kd_si _ _ _ _ _).trans ?_ | refine (kd_mkn (by omega)).trans ?_)), (show gr _ a 0 = some (a + 1) from by repeat (first | exact gr_at rfl rfl | refine (gr_ne (Or.inr (by decide))).trans ?_ | refine (gr_si _ _ _ _ _ _).trans ?_ | refine (gr_mkn (by omega)).trans ?_)), (by repeat (first | exact hk | exact kd_mka rfl | refine (kd_sr _ _ _ _ _).trans ?_ | refine (kd_si _ _ _ _ _).trans ?_ | refine (kd_mkn (by omega)).trans ?_)), (by repeat (first | exact gi_at rfl rfl | exact gi_mka rfl | refine (gi_ne (Or.inr (by decide))).trans ?_ | refine (gi_sr _ _ _ _ _ _).trans ?_ | refine (gi_mkn (by omega)).trans ?_))⟩, (by simp only [nx_si, nx_sl, nx_sr, nx_mk, hN, Option.map_some]), fun b hb => (by repeat (first | exact eqA.rf | refine eqA.tr ?_ (eqA.si (by omega)) | refine eqA.tr ?_ (eqA.sr (by omega)) | refine eqA.tr ?_ (eqA.mk (by omega))))⟩
