/-! ===== constructors: Tree ===== -/
theorem kd_mkn {h : AH} {a b : Nat} {k : AK} (hb : b ≠ a) : kd (mk h a k) b = kd h b := by rw [kd_mk, if_neg hb]
theorem kd_mka {h : AH} {a b : Nat} {k : AK} (hb : b = a) : kd (mk h a k) b = some k := by rw [kd_mk, if_pos hb]
theorem gi_mkn {h : AH} {a b : Nat} {k : AK} {j : Int} (hb : b ≠ a) : gi (mk h a k) b j = gi h b j := by rw [gi_mk, if_neg hb]
theorem gi_mka {h : AH} {a b : Nat} {k : AK} {j : Int} (hb : b = a) : gi (mk h a k) b j = 0 := by rw [gi_mk, if_pos hb]
theorem gl_mkn {h : AH} {a b : Nat} {k : AK} {j : Int} (hb : b ≠ a) : gl (mk h a k) b j = gl h b j := by rw [gl_mk, if_neg hb]
theorem gl_mka {h : AH} {a b : Nat} {k : AK} {j : Int} (hb : b = a) : gl (mk h a k) b j = 0 := by rw [gl_mk, if_pos hb]
theorem gr_mkn {h : AH} {a b : Nat} {k : AK} {j : Int} (hb : b ≠ a) : gr (mk h a k) b j = gr h b j := by rw [gr_mk, if_neg hb]
theorem eqA.mk {h : AH} {a b : Nat} {k : AK} (hb : b ≠ a) : eqA h (mk h a k) b := ⟨kd_mkn hb, fun j => ⟨gi_mkn hb, gl_mkn hb, gr_mkn hb⟩⟩
/-- the tree of a new object -/
def T0 : Tr := (1, fun _ => 0, fun _ => 0, fun _ => -1)
theorem T0_ok : okTr T0 := by
  refine ⟨by decide, by decide, fun k _ => ⟨Int.le_refl 0, (by decide : (0 : Int) ≤ 7), Int.le_refl 0, (by decide : (0 : Int) ≤ 9)⟩, rfl, fun k k1 k2 => ?_, fun k j k1 k2 => ?_⟩
  · have : k < 1 := k2
    omega
  · have : k < 1 := k2
    omega
theorem t0_row {H : AH} {t : Nat} (k : Nat) (hk : k < tn T0) (h1 : gi H (t + 1) 0 = 0) (h2 : gi H (t + 2) 0 = 0) (h3 : gi H (t + 3) 0 = -1) (h4 : gi H (t + 4) 0 = 0) (h5 : gl H (t + 5) 0 = 0) (h6 : gl H (t + 6) 0 = 0) : gi H (t + 1) k = tnm T0 k ∧ gi H (t + 2) k = tvl T0 k ∧ gi H (t + 3) k = tpa T0 k ∧ gi H (t + 4) k = (endT T0 k : Int) - 1 ∧ gl H (t + 5) k = S9 (chS T0 k) ∧ gl H (t + 6) k = S9 (anS T0 k) := by
  have : k < 1 := hk
  obtain rfl : k = 0 := by omega
  refine ⟨h1, h2, h3, h4, h5.trans ?_, h6.trans (anS_0 T0).symm⟩
  rw [S9_0]
  exact S9_cong (fun j _ => by
    show false = decide (j < 1 ∧ (-1 : Int) = 0)
    rw [decide_eq_false]
    omega)
theorem c_tinit {γ : GG} {a : Nat} {h : AH} (hk : kd h a = some (.inl 9)) (hN : nx h = some (a + 1)) : Call γ mX10_init 1 9 360 [vr (some a)] h (rF (fun h' => isTr h' a T0 ∧ nx h' = some (a + 10) ∧ ∀ b, b < a → eqA h h' b)) := by
  refine Call.of (ls := [(0, vr (some a))]) iX10_init.1 (Nat.le_of_ble_eq_true rfl) rfl ?_
  refine aw_aload_n dX10_init_0 rfl ?_
  refine aw_objInit dX10_init_1 kX10_3 oi_i oi_c (by decide) (Nat.le_of_ble_eq_true rfl) ?_
  refine aw_aload_n dX10_init_4 rfl ?_
  refine aw_iconst dX10_init_5 ?_
  refine aw_puti' (j := 0) rfl dX10_init_6 fX10_9 (by repeat (first | exact hk | exact kd_mka rfl | refine (kd_sr _ _ _ _ _).trans ?_ | refine (kd_si _ _ _ _ _).trans ?_ | refine (kd_mkn (by omega)).trans ?_)) rfl ?_
  refine aw_aload_n dX10_init_9 rfl ?_
  refine aw_bipush dX10_init_10 rfl ?_
  refine aw_newai (n := 40) dX10_init_12 arr_int (by decide) (by decide) (by decide) (fun q9 f9 g9 e9 => ?_)
  obtain rfl : q9 = a + 1 := e9 _ (by simp only [nx_si, nx_sl, nx_sr, nx_mk, hN, Option.map_some])
  clear f9 g9 e9
  refine aw_putF' (j := 1) (by rfl) rfl rfl dX10_init_14 eX10_15 (by repeat (first | exact hk | exact kd_mka rfl | refine (kd_sr _ _ _ _ _).trans ?_ | refine (kd_si _ _ _ _ _).trans ?_ | refine (kd_mkn (by omega)).trans ?_)) rfl ?_
  refine aw_aload_n dX10_init_17 rfl ?_
  refine aw_bipush dX10_init_18 rfl ?_
  refine aw_newai (n := 40) dX10_init_20 arr_int (by decide) (by decide) (by decide) (fun q9 f9 g9 e9 => ?_)
  obtain rfl : q9 = a + 2 := e9 _ (by simp only [nx_si, nx_sl, nx_sr, nx_mk, hN, Option.map_some])
  clear f9 g9 e9
  refine aw_putF' (j := 2) (by rfl) rfl rfl dX10_init_22 eX10_19 (by repeat (first | exact hk | exact kd_mka rfl | refine (kd_sr _ _ _ _ _).trans ?_ | refine (kd_si _ _ _ _ _).trans ?_ | refine (kd_mkn (by omega)).trans ?_)) rfl ?_
  refine aw_aload_n dX10_init_25 rfl ?_
  refine aw_bipush dX10_init_26 rfl ?_
  refine aw_newai (n := 40) dX10_init_28 arr_int (by decide) (by decide) (by decide) (fun q9 f9 g9 e9 => ?_)
  obtain rfl : q9 = a + 3 := e9 _ (by simp only [nx_si, nx_sl, nx_sr, nx_mk, hN, Option.map_some])
  clear f9 g9 e9
  refine aw_putF' (j := 3) (by rfl) rfl rfl dX10_init_30 eX10_22 (by repeat (first | exact hk | exact kd_mka rfl | refine (kd_sr _ _ _ _ _).trans ?_ | refine (kd_si _ _ _ _ _).trans ?_ | refine (kd_mkn (by omega)).trans ?_)) rfl ?_
  refine aw_aload_n dX10_init_33 rfl ?_
  refine aw_bipush dX10_init_34 rfl ?_
  refine aw_newai (n := 40) dX10_init_36 arr_int (by decide) (by decide) (by decide) (fun q9 f9 g9 e9 => ?_)
  obtain rfl : q9 = a + 4 := e9 _ (by simp only [nx_si, nx_sl, nx_sr, nx_mk, hN, Option.map_some])
  clear f9 g9 e9
  refine aw_putF' (j := 4) (by rfl) rfl rfl dX10_init_38 eX10_25 (by repeat (first | exact hk | exact kd_mka rfl | refine (kd_sr _ _ _ _ _).trans ?_ | refine (kd_si _ _ _ _ _).trans ?_ | refine (kd_mkn (by omega)).trans ?_)) rfl ?_
  refine aw_aload_n dX10_init_41 rfl ?_
  refine aw_bipush dX10_init_42 rfl ?_
  refine aw_newal (n := 40) dX10_init_44 arr_long (by decide) (by decide) (by decide) (fun q9 f9 g9 e9 => ?_)
  obtain rfl : q9 = a + 5 := e9 _ (by simp only [nx_si, nx_sl, nx_sr, nx_mk, hN, Option.map_some])
  clear f9 g9 e9
  refine aw_putF' (j := 5) (by rfl) rfl rfl dX10_init_46 eX10_28 (by repeat (first | exact hk | exact kd_mka rfl | refine (kd_sr _ _ _ _ _).trans ?_ | refine (kd_si _ _ _ _ _).trans ?_ | refine (kd_mkn (by omega)).trans ?_)) rfl ?_
  refine aw_aload_n dX10_init_49 rfl ?_
  refine aw_bipush dX10_init_50 rfl ?_
  refine aw_newal (n := 40) dX10_init_52 arr_long (by decide) (by decide) (by decide) (fun q9 f9 g9 e9 => ?_)
  obtain rfl : q9 = a + 6 := e9 _ (by simp only [nx_si, nx_sl, nx_sr, nx_mk, hN, Option.map_some])
  clear f9 g9 e9
  refine aw_putF' (j := 6) (by rfl) rfl rfl dX10_init_54 eX10_32 (by repeat (first | exact hk | exact kd_mka rfl | refine (kd_sr _ _ _ _ _).trans ?_ | refine (kd_si _ _ _ _ _).trans ?_ | refine (kd_mkn (by omega)).trans ?_)) rfl ?_
  refine aw_aload_n dX10_init_57 rfl ?_
  refine aw_bipush dX10_init_58 rfl ?_
  refine aw_newai (n := 40) dX10_init_60 arr_int (by decide) (by decide) (by decide) (fun q9 f9 g9 e9 => ?_)
  obtain rfl : q9 = a + 7 := e9 _ (by simp only [nx_si, nx_sl, nx_sr, nx_mk, hN, Option.map_some])
  clear f9 g9 e9
  refine aw_putF' (j := 7) (by rfl) rfl rfl dX10_init_62 eX10_35 (by repeat (first | exact hk | exact kd_mka rfl | refine (kd_sr _ _ _ _ _).trans ?_ | refine (kd_si _ _ _ _ _).trans ?_ | refine (kd_mkn (by omega)).trans ?_)) rfl ?_
  refine aw_aload_n dX10_init_65 rfl ?_
  refine aw_bipush dX10_init_66 rfl ?_
  refine aw_newai (n := 40) dX10_init_68 arr_int (by decide) (by decide) (by decide) (fun q9 f9 g9 e9 => ?_)
  obtain rfl : q9 = a + 8 := e9 _ (by simp only [nx_si, nx_sl, nx_sr, nx_mk, hN, Option.map_some])
  clear f9 g9 e9
  refine aw_putF' (j := 8) (by rfl) rfl rfl dX10_init_70 eX10_38 (by repeat (first | exact hk | exact kd_mka rfl | refine (kd_sr _ _ _ _ _).trans ?_ | refine (kd_si _ _ _ _ _).trans ?_ | refine (kd_mkn (by omega)).trans ?_)) rfl ?_
  refine aw_aload_n dX10_init_73 rfl ?_
  refine aw_bipush dX10_init_74 rfl ?_
  refine aw_newai (n := 40) dX10_init_76 arr_int (by decide) (by decide) (by decide) (fun q9 f9 g9 e9 => ?_)
  obtain rfl : q9 = a + 9 := e9 _ (by simp only [nx_si, nx_sl, nx_sr, nx_mk, hN, Option.map_some])
  clear f9 g9 e9
  refine aw_putF' (j := 9) (by rfl) rfl rfl dX10_init_78 eX10_41 (by repeat (first | exact hk | exact kd_mka rfl | refine (kd_sr _ _ _ _ _).trans ?_ | refine (kd_si _ _ _ _ _).trans ?_ | refine (kd_mkn (by omega)).trans ?_)) rfl ?_
  refine aw_aload_n dX10_init_81 rfl ?_
  refine aw_getr' (j := 3) dX10_init_82 fX10_22 rfl (by repeat (first | exact hk | exact kd_mka rfl | refine (kd_sr _ _ _ _ _).trans ?_ | refine (kd_si _ _ _ _ _).trans ?_ | refine (kd_mkn (by omega)).trans ?_)) rfl (show gr _ a 3 = some (a + 3) from by repeat (first | exact gr_at rfl rfl | refine (gr_ne (Or.inr (by decide))).trans ?_ | refine (gr_si _ _ _ _ _ _).trans ?_ | refine (gr_mkn (by omega)).trans ?_)) ?_
  refine aw_iconst dX10_init_85 ?_
  refine aw_iconst dX10_init_86 ?_
  refine aw_iast dX10_init_87 (show kd _ (a + 3) = some (.inr (1, 40)) from by repeat (first | exact kd_mka rfl | refine (kd_sr _ _ _ _ _).trans ?_ | refine (kd_si _ _ _ _ _).trans ?_ | refine (kd_mkn (by omega)).trans ?_)) (by omega) (by first | decide | omega) ?_
  exact aw_return dX10_init_88 rfl (Or.inl rfl) ⟨rfl, ⟨⟨(by repeat (first | exact hk | exact kd_mka rfl | refine (kd_sr _ _ _ _ _).trans ?_ | refine (kd_si _ _ _ _ _).trans ?_ | refine (kd_mkn (by omega)).trans ?_)), ⟨(show gr _ a 1 = some (a + 1) from by repeat (first | exact gr_at rfl rfl | refine (gr_ne (Or.inr (by decide))).trans ?_ | refine (gr_si _ _ _ _ _ _).trans ?_ | refine (gr_mkn (by omega)).trans ?_)), (show kd _ (a + 1) = some (.inr (1, 40)) from by repeat (first | exact kd_mka rfl | refine (kd_sr _ _ _ _ _).trans ?_ | refine (kd_si _ _ _ _ _).trans ?_ | refine (kd_mkn (by omega)).trans ?_))⟩, ⟨(show gr _ a 2 = some (a + 2) from by repeat (first | exact gr_at rfl rfl | refine (gr_ne (Or.inr (by decide))).trans ?_ | refine (gr_si _ _ _ _ _ _).trans ?_ | refine (gr_mkn (by omega)).trans ?_)), (show kd _ (a + 2) = some (.inr (1, 40)) from by repeat (first | exact kd_mka rfl | refine (kd_sr _ _ _ _ _).trans ?_ | refine (kd_si _ _ _ _ _).trans ?_ | refine (kd_mkn (by omega)).trans ?_))⟩, ⟨(show gr _ a 3 = some (a + 3) from by repeat (first | exact gr_at rfl rfl | refine (gr_ne (Or.inr (by decide))).trans ?_ | refine (gr_si _ _ _ _ _ _).trans ?_ | refine (gr_mkn (by omega)).trans ?_)), (show kd _ (a + 3) = some (.inr (1, 40)) from by repeat (first | exact kd_mka rfl | refine (kd_sr _ _ _ _ _).trans ?_ | refine (kd_si _ _ _ _ _).trans ?_ | refine (kd_mkn (by omega)).trans ?_))⟩, ⟨(show gr _ a 4 = some (a + 4) from by repeat (first | exact gr_at rfl rfl | refine (gr_ne (Or.inr (by decide))).trans ?_ | refine (gr_si _ _ _ _ _ _).trans ?_ | refine (gr_mkn (by omega)).trans ?_)), (show kd _ (a + 4) = some (.inr (1, 40)) from by repeat (first | exact kd_mka rfl | refine (kd_sr _ _ _ _ _).trans ?_ | refine (kd_si _ _ _ _ _).trans ?_ | refine (kd_mkn (by omega)).trans ?_))⟩, ⟨(show gr _ a 5 = some (a + 5) from by repeat (first | exact gr_at rfl rfl | refine (gr_ne (Or.inr (by decide))).trans ?_ | refine (gr_si _ _ _ _ _ _).trans ?_ | refine (gr_mkn (by omega)).trans ?_)), (show kd _ (a + 5) = some (.inr (2, 40)) from by repeat (first | exact kd_mka rfl | refine (kd_sr _ _ _ _ _).trans ?_ | refine (kd_si _ _ _ _ _).trans ?_ | refine (kd_mkn (by omega)).trans ?_))⟩, ⟨(show gr _ a 6 = some (a + 6) from by repeat (first | exact gr_at rfl rfl | refine (gr_ne (Or.inr (by decide))).trans ?_ | refine (gr_si _ _ _ _ _ _).trans ?_ | refine (gr_mkn (by omega)).trans ?_)), (show kd _ (a + 6) = some (.inr (2, 40)) from by repeat (first | exact kd_mka rfl | refine (kd_sr _ _ _ _ _).trans ?_ | refine (kd_si _ _ _ _ _).trans ?_ | refine (kd_mkn (by omega)).trans ?_))⟩, ⟨(show gr _ a 7 = some (a + 7) from by repeat (first | exact gr_at rfl rfl | refine (gr_ne (Or.inr (by decide))).trans ?_ | refine (gr_si _ _ _ _ _ _).trans ?_ | refine (gr_mkn (by omega)).trans ?_)), (show kd _ (a + 7) = some (.inr (1, 40)) from by repeat (first | exact kd_mka rfl | refine (kd_sr _ _ _ _ _).trans ?_ | refine (kd_si _ _ _ _ _).trans ?_ | refine (kd_mkn (by omega)).trans ?_))⟩, ⟨(show gr _ a 8 = some (a + 8) from by repeat (first | exact gr_at rfl rfl | refine (gr_ne (Or.inr (by decide))).trans ?_ | refine (gr_si _ _ _ _ _ _).trans ?_ | refine (gr_mkn (by omega)).trans ?_)), (show kd _ (a + 8) = some (.inr (1, 40)) from by repeat (first | exact kd_mka rfl | refine (kd_sr _ _ _ _ _).trans ?_ | refine (kd_si _ _ _ _ _).trans ?_ | refine (kd_mkn (by omega)).trans ?_))⟩, ⟨(show gr _ a 9 = some (a + 9) from by repeat (first | exact gr_at rfl rfl | refine (gr_ne (Or.inr (by decide))).trans ?_ | refine (gr_si _ _ _ _ _ _).trans ?_ | refine (gr_mkn (by omega)).trans ?_)), (show kd _ (a + 9) = some (.inr (1, 40)) from by repeat (first | exact kd_mka rfl | refine (kd_sr _ _ _ _ _).trans ?_ | refine (kd_si _ _ _ _ _).trans ?_ | refine (kd_mkn (by omega)).trans ?_))⟩⟩, (by repeat (first | exact gi_at rfl rfl | exact gi_mka rfl | refine (gi_ne (Or.inl (by omega))).trans ?_ | refine (gi_sr _ _ _ _ _ _).trans ?_ | refine (gi_mkn (by omega)).trans ?_)), fun k h9 => t0_row k h9 (by repeat (first | exact gi_at rfl rfl | exact gi_mka rfl | refine (gi_ne (Or.inl (by omega))).trans ?_ | refine (gi_sr _ _ _ _ _ _).trans ?_ | refine (gi_mkn (by omega)).trans ?_)) (by repeat (first | exact gi_at rfl rfl | exact gi_mka rfl | refine (gi_ne (Or.inl (by omega))).trans ?_ | refine (gi_sr _ _ _ _ _ _).trans ?_ | refine (gi_mkn (by omega)).trans ?_)) (by repeat (first | exact gi_at rfl rfl | exact gi_mka rfl | refine (gi_ne (Or.inl (by omega))).trans ?_ | refine (gi_sr _ _ _ _ _ _).trans ?_ | refine (gi_mkn (by omega)).trans ?_)) (by repeat (first | exact gi_at rfl rfl | exact gi_mka rfl | refine (gi_ne (Or.inl (by omega))).trans ?_ | refine (gi_sr _ _ _ _ _ _).trans ?_ | refine (gi_mkn (by omega)).trans ?_)) (by repeat (first | exact gl_mka rfl | refine (gl_si _ _ _ _ _ _).trans ?_ | refine (gl_sr _ _ _ _ _ _).trans ?_ | refine (gl_mkn (by omega)).trans ?_)) (by repeat (first | exact gl_mka rfl | refine (gl_si _ _ _ _ _ _).trans ?_ | refine (gl_sr _ _ _ _ _ _).trans ?_ | refine (gl_mkn (by omega)).trans ?_))⟩, (by simp only [nx_si, nx_sl, nx_sr, nx_mk, hN, Option.map_some]), fun b hb => (by repeat (first | exact eqA.rf | refine eqA.tr ?_ (eqA.si (by omega)) | refine eqA.tr ?_ (eqA.sr (by omega)) | refine eqA.tr ?_ (eqA.mk (by omega))))⟩
