/-! ===== the model's constructor ===== -/
theorem aw_gen {γ : GG} {M : MD} {d kc ks pc : Nat} {ls : List (Nat × AV)} {st : List AV} {h : AH} {Q : AR → AH → Prop} {P : AH → Prop} (hP : P h) (k : ∀ H, P H → AW γ M d kc ks pc ls st H Q) : AW γ M d kc ks pc ls st h Q := k h hP
theorem FS0_md {H H' : AH} {a : Nat} (hM : shM H' a) (hm0 : ∀ j, gi H (a + 1) j = 0) (h1 : gi H' (a + 1) = fun j => if j = 3 then -1 else if j = 0 then 1 else gi H (a + 1) j) (h2 : gi H' a 2 = 0) (h4 : gi H' a 4 = 0) : isF H' a FS0 := by
  have g : ∀ j : Int, j ≠ 3 → j ≠ 0 → gi H' (a + 1) j = 0 := fun j j1 j2 => by rw [h1]; dsimp only; rw [if_neg j1, if_neg j2, hm0]
  refine ⟨hM, ⟨⟨by rw [h1]; rfl, fun k hk => ?_⟩, fun p hp => ⟨?_, fun k c hk => by simp [FS0, wQry, jn] at hk⟩⟩, FS0_ok.1, h2, by decide, fun S hS => (by cases hS), fun i S hS => by simp [FS0] at hS, h4, by decide, fun c hc => (by cases hc), fun k c hk => by simp [FS0] at hk⟩
  · have : k < 1 := hk
    obtain rfl : k = 0 := by omega
    exact ⟨g _ (by decide) (by decide), g _ (by decide) (by decide), by rw [h1]; rfl⟩
  · exact g _ (by omega) (by omega)
theorem m_init {γ : GG} {a : Nat} {h : AH} (hk : kd h a = some (.inl 11)) (hN : nx h = some (a + 1)) (h0 : ∀ j : Int, True → gi h a j = 0) : Call γ mX12_init 1 17 18656 [vr (some a)] h (rF (fun h' => isF h' a FS0 ∧ nx h' = some (a + 18) ∧ ∀ b, b < a → eqA h h' b)) := by
  refine Call.of (ls := [(0, vr (some a))]) iX12_init.1 (Nat.le_of_ble_eq_true rfl) rfl ?_
  refine aw_aload_n dX12_init_0 rfl ?_
  refine aw_objInit dX12_init_1 kX12_1 oi_i oi_c (by decide) (Nat.le_of_ble_eq_true rfl) ?_
  refine aw_aload_n dX12_init_4 rfl ?_
  refine aw_sipush dX12_init_5 rfl ?_
  refine aw_newai (n := 1725) dX12_init_8 arr_int (by decide) (by decide) (by decide) (fun q9 f9 g9 e9 => ?_)
  obtain rfl : q9 = a + 1 := e9 _ (by simp only [nx_si, nx_sl, nx_sr, nx_mk, hN, Option.map_some])
  clear f9 g9 e9
  refine aw_putF' (j := 0) (by rfl) rfl rfl dX12_init_10 eX12_7 (by repeat (first | exact hk | exact kd_mka rfl | refine (kd_sr _ _ _ _ _).trans ?_ | refine (kd_si _ _ _ _ _).trans ?_ | refine (kd_mkn (by omega)).trans ?_)) rfl ?_
  refine aw_aload_n dX12_init_13 rfl ?_
  refine aw_sipush dX12_init_14 rfl ?_
  refine aw_newai (n := 6900) dX12_init_17 arr_int (by decide) (by decide) (by decide) (fun q9 f9 g9 e9 => ?_)
  obtain rfl : q9 = a + 2 := e9 _ (by simp only [nx_si, nx_sl, nx_sr, nx_mk, hN, Option.map_some])
  clear f9 g9 e9
  refine aw_putF' (j := 1) (by rfl) rfl rfl dX12_init_19 eX12_13 (by repeat (first | exact hk | exact kd_mka rfl | refine (kd_sr _ _ _ _ _).trans ?_ | refine (kd_si _ _ _ _ _).trans ?_ | refine (kd_mkn (by omega)).trans ?_)) rfl ?_
  refine aw_aload_n dX12_init_22 rfl ?_
  refine aw_bipush dX12_init_23 rfl ?_
  refine aw_newai (n := 80) dX12_init_25 arr_int (by decide) (by decide) (by decide) (fun q9 f9 g9 e9 => ?_)
  obtain rfl : q9 = a + 3 := e9 _ (by simp only [nx_si, nx_sl, nx_sr, nx_mk, hN, Option.map_some])
  clear f9 g9 e9
  refine aw_putF' (j := 3) (by rfl) rfl rfl dX12_init_27 eX12_16 (by repeat (first | exact hk | exact kd_mka rfl | refine (kd_sr _ _ _ _ _).trans ?_ | refine (kd_si _ _ _ _ _).trans ?_ | refine (kd_mkn (by omega)).trans ?_)) rfl ?_
  refine aw_aload_n dX12_init_30 rfl ?_
  refine aw_bipush dX12_init_31 rfl ?_
  refine aw_newai (n := 120) dX12_init_33 arr_int (by decide) (by decide) (by decide) (fun q9 f9 g9 e9 => ?_)
  obtain rfl : q9 = a + 4 := e9 _ (by simp only [nx_si, nx_sl, nx_sr, nx_mk, hN, Option.map_some])
  clear f9 g9 e9
  refine aw_putF' (j := 6) (by rfl) rfl rfl dX12_init_35 eX12_19 (by repeat (first | exact hk | exact kd_mka rfl | refine (kd_sr _ _ _ _ _).trans ?_ | refine (kd_si _ _ _ _ _).trans ?_ | refine (kd_mkn (by omega)).trans ?_)) rfl ?_
  refine aw_aload_n dX12_init_38 rfl ?_
  refine aw_bipush dX12_init_39 rfl ?_
  refine aw_newai (n := 40) dX12_init_41 arr_int (by decide) (by decide) (by decide) (fun q9 f9 g9 e9 => ?_)
  obtain rfl : q9 = a + 5 := e9 _ (by simp only [nx_si, nx_sl, nx_sr, nx_mk, hN, Option.map_some])
  clear f9 g9 e9
  refine aw_putF' (j := 8) (by rfl) rfl rfl dX12_init_43 eX12_22 (by repeat (first | exact hk | exact kd_mka rfl | refine (kd_sr _ _ _ _ _).trans ?_ | refine (kd_si _ _ _ _ _).trans ?_ | refine (kd_mkn (by omega)).trans ?_)) rfl ?_
  refine aw_aload_n dX12_init_46 rfl ?_
  refine aw_sipush dX12_init_47 rfl ?_
  refine aw_newai (n := 400) dX12_init_50 arr_int (by decide) (by decide) (by decide) (fun q9 f9 g9 e9 => ?_)
  obtain rfl : q9 = a + 6 := e9 _ (by simp only [nx_si, nx_sl, nx_sr, nx_mk, hN, Option.map_some])
  clear f9 g9 e9
  refine aw_putF' (j := 9) (by rfl) rfl rfl dX12_init_52 eX12_25 (by repeat (first | exact hk | exact kd_mka rfl | refine (kd_sr _ _ _ _ _).trans ?_ | refine (kd_si _ _ _ _ _).trans ?_ | refine (kd_mkn (by omega)).trans ?_)) rfl ?_
  refine aw_aload_n dX12_init_55 rfl ?_
  refine aw_sipush dX12_init_56 rfl ?_
  refine aw_newai (n := 6537) dX12_init_59 arr_int (by decide) (by decide) (by decide) (fun q9 f9 g9 e9 => ?_)
  obtain rfl : q9 = a + 7 := e9 _ (by simp only [nx_si, nx_sl, nx_sr, nx_mk, hN, Option.map_some])
  clear f9 g9 e9
  refine aw_putF' (j := 12) (by rfl) rfl rfl dX12_init_61 eX12_28 (by repeat (first | exact hk | exact kd_mka rfl | refine (kd_sr _ _ _ _ _).trans ?_ | refine (kd_si _ _ _ _ _).trans ?_ | refine (kd_mkn (by omega)).trans ?_)) rfl ?_
  refine aw_aload_n dX12_init_64 rfl ?_
  refine aw_sipush dX12_init_65 rfl ?_
  refine aw_newai (n := 1000) dX12_init_68 arr_int (by decide) (by decide) (by decide) (fun q9 f9 g9 e9 => ?_)
  obtain rfl : q9 = a + 8 := e9 _ (by simp only [nx_si, nx_sl, nx_sr, nx_mk, hN, Option.map_some])
  clear f9 g9 e9
  refine aw_putF' (j := 13) (by rfl) rfl rfl dX12_init_70 eX12_31 (by repeat (first | exact hk | exact kd_mka rfl | refine (kd_sr _ _ _ _ _).trans ?_ | refine (kd_si _ _ _ _ _).trans ?_ | refine (kd_mkn (by omega)).trans ?_)) rfl ?_
  refine aw_aload_n dX12_init_73 rfl ?_
  refine aw_iconst dX12_init_74 ?_
  refine aw_newai (n := 4) dX12_init_75 arr_int (by decide) (by decide) (by decide) (fun q9 f9 g9 e9 => ?_)
  obtain rfl : q9 = a + 9 := e9 _ (by simp only [nx_si, nx_sl, nx_sr, nx_mk, hN, Option.map_some])
  clear f9 g9 e9
  refine aw_putF' (j := 15) (by rfl) rfl rfl dX12_init_77 eX12_34 (by repeat (first | exact hk | exact kd_mka rfl | refine (kd_sr _ _ _ _ _).trans ?_ | refine (kd_si _ _ _ _ _).trans ?_ | refine (kd_mkn (by omega)).trans ?_)) rfl ?_
  refine aw_aload_n dX12_init_80 rfl ?_
  refine aw_bipush dX12_init_81 rfl ?_
  refine aw_newaz (n := 40) dX12_init_83 arr_boolean (by decide) (by decide) (by decide) (fun q9 f9 g9 e9 => ?_)
  obtain rfl : q9 = a + 10 := e9 _ (by simp only [nx_si, nx_sl, nx_sr, nx_mk, hN, Option.map_some])
  clear f9 g9 e9
  refine aw_putF' (j := 16) (by rfl) rfl rfl dX12_init_85 eX12_37 (by repeat (first | exact hk | exact kd_mka rfl | refine (kd_sr _ _ _ _ _).trans ?_ | refine (kd_si _ _ _ _ _).trans ?_ | refine (kd_mkn (by omega)).trans ?_)) rfl ?_
  refine aw_aload_n dX12_init_88 rfl ?_
  refine aw_bipush dX12_init_89 rfl ?_
  refine aw_newaz (n := 40) dX12_init_91 arr_boolean (by decide) (by decide) (by decide) (fun q9 f9 g9 e9 => ?_)
  obtain rfl : q9 = a + 11 := e9 _ (by simp only [nx_si, nx_sl, nx_sr, nx_mk, hN, Option.map_some])
  clear f9 g9 e9
  refine aw_putF' (j := 17) (by rfl) rfl rfl dX12_init_93 eX12_41 (by repeat (first | exact hk | exact kd_mka rfl | refine (kd_sr _ _ _ _ _).trans ?_ | refine (kd_si _ _ _ _ _).trans ?_ | refine (kd_mkn (by omega)).trans ?_)) rfl ?_
  refine aw_aload_n dX12_init_96 rfl ?_
  refine aw_bipush dX12_init_97 rfl ?_
  refine aw_newai (n := 40) dX12_init_99 arr_int (by decide) (by decide) (by decide) (fun q9 f9 g9 e9 => ?_)
  obtain rfl : q9 = a + 12 := e9 _ (by simp only [nx_si, nx_sl, nx_sr, nx_mk, hN, Option.map_some])
  clear f9 g9 e9
  refine aw_putF' (j := 19) (by rfl) rfl rfl dX12_init_101 eX12_44 (by repeat (first | exact hk | exact kd_mka rfl | refine (kd_sr _ _ _ _ _).trans ?_ | refine (kd_si _ _ _ _ _).trans ?_ | refine (kd_mkn (by omega)).trans ?_)) rfl ?_
  refine aw_aload_n dX12_init_104 rfl ?_
  refine aw_bipush dX12_init_105 rfl ?_
  refine aw_newaz (n := 40) dX12_init_107 arr_boolean (by decide) (by decide) (by decide) (fun q9 f9 g9 e9 => ?_)
  obtain rfl : q9 = a + 13 := e9 _ (by simp only [nx_si, nx_sl, nx_sr, nx_mk, hN, Option.map_some])
  clear f9 g9 e9
  refine aw_putF' (j := 20) (by rfl) rfl rfl dX12_init_109 eX12_47 (by repeat (first | exact hk | exact kd_mka rfl | refine (kd_sr _ _ _ _ _).trans ?_ | refine (kd_si _ _ _ _ _).trans ?_ | refine (kd_mkn (by omega)).trans ?_)) rfl ?_
  refine aw_aload_n dX12_init_112 rfl ?_
  refine aw_bipush dX12_init_113 rfl ?_
  refine aw_newaz (n := 40) dX12_init_115 arr_boolean (by decide) (by decide) (by decide) (fun q9 f9 g9 e9 => ?_)
  obtain rfl : q9 = a + 14 := e9 _ (by simp only [nx_si, nx_sl, nx_sr, nx_mk, hN, Option.map_some])
  clear f9 g9 e9
  refine aw_putF' (j := 21) (by rfl) rfl rfl dX12_init_117 eX12_50 (by repeat (first | exact hk | exact kd_mka rfl | refine (kd_sr _ _ _ _ _).trans ?_ | refine (kd_si _ _ _ _ _).trans ?_ | refine (kd_mkn (by omega)).trans ?_)) rfl ?_
  refine aw_aload_n dX12_init_120 rfl ?_
  refine aw_bipush dX12_init_121 rfl ?_
  refine aw_newaz (n := 40) dX12_init_123 arr_boolean (by decide) (by decide) (by decide) (fun q9 f9 g9 e9 => ?_)
  obtain rfl : q9 = a + 15 := e9 _ (by simp only [nx_si, nx_sl, nx_sr, nx_mk, hN, Option.map_some])
  clear f9 g9 e9
  refine aw_putF' (j := 22) (by rfl) rfl rfl dX12_init_125 eX12_53 (by repeat (first | exact hk | exact kd_mka rfl | refine (kd_sr _ _ _ _ _).trans ?_ | refine (kd_si _ _ _ _ _).trans ?_ | refine (kd_mkn (by omega)).trans ?_)) rfl ?_
  refine aw_aload_n dX12_init_128 rfl ?_
  refine aw_sipush dX12_init_129 rfl ?_
  refine aw_newaz (n := 1600) dX12_init_132 arr_boolean (by decide) (by decide) (by decide) (fun q9 f9 g9 e9 => ?_)
  obtain rfl : q9 = a + 16 := e9 _ (by simp only [nx_si, nx_sl, nx_sr, nx_mk, hN, Option.map_some])
  clear f9 g9 e9
  refine aw_putF' (j := 23) (by rfl) rfl rfl dX12_init_134 eX12_56 (by repeat (first | exact hk | exact kd_mka rfl | refine (kd_sr _ _ _ _ _).trans ?_ | refine (kd_si _ _ _ _ _).trans ?_ | refine (kd_mkn (by omega)).trans ?_)) rfl ?_
  refine aw_aload_n dX12_init_137 rfl ?_
  refine aw_bipush dX12_init_138 rfl ?_
  refine aw_newai (n := 10) dX12_init_140 arr_int (by decide) (by decide) (by decide) (fun q9 f9 g9 e9 => ?_)
  obtain rfl : q9 = a + 17 := e9 _ (by simp only [nx_si, nx_sl, nx_sr, nx_mk, hN, Option.map_some])
  clear f9 g9 e9
  refine aw_putF' (j := 24) (by rfl) rfl rfl dX12_init_142 eX12_59 (by repeat (first | exact hk | exact kd_mka rfl | refine (kd_sr _ _ _ _ _).trans ?_ | refine (kd_si _ _ _ _ _).trans ?_ | refine (kd_mkn (by omega)).trans ?_)) rfl ?_
  refine aw_gen (P := fun H => shM H a ∧ nx H = some (a + 18) ∧ (∀ b, b < a → eqA h H b) ∧ (∀ j, gi H (a + 1) j = 0) ∧ (∀ j : Int, j = 2 ∨ j = 4 → gi H a j = 0)) ⟨⟨(by repeat (first | exact hk | exact kd_mka rfl | refine (kd_sr _ _ _ _ _).trans ?_ | refine (kd_si _ _ _ _ _).trans ?_ | refine (kd_mkn (by omega)).trans ?_)), ⟨(show gr _ a 0 = some (a + 1) from by repeat (first | exact gr_at rfl rfl | refine (gr_ne (Or.inr (by decide))).trans ?_ | refine (gr_si _ _ _ _ _ _).trans ?_ | refine (gr_mkn (by omega)).trans ?_)), (show kd _ (a + 1) = some (.inr (1, 1725)) from by repeat (first | exact kd_mka rfl | refine (kd_sr _ _ _ _ _).trans ?_ | refine (kd_si _ _ _ _ _).trans ?_ | refine (kd_mkn (by omega)).trans ?_))⟩, ⟨(show gr _ a 1 = some (a + 2) from by repeat (first | exact gr_at rfl rfl | refine (gr_ne (Or.inr (by decide))).trans ?_ | refine (gr_si _ _ _ _ _ _).trans ?_ | refine (gr_mkn (by omega)).trans ?_)), (show kd _ (a + 2) = some (.inr (1, 6900)) from by repeat (first | exact kd_mka rfl | refine (kd_sr _ _ _ _ _).trans ?_ | refine (kd_si _ _ _ _ _).trans ?_ | refine (kd_mkn (by omega)).trans ?_))⟩, ⟨(show gr _ a 3 = some (a + 3) from by repeat (first | exact gr_at rfl rfl | refine (gr_ne (Or.inr (by decide))).trans ?_ | refine (gr_si _ _ _ _ _ _).trans ?_ | refine (gr_mkn (by omega)).trans ?_)), (show kd _ (a + 3) = some (.inr (1, 80)) from by repeat (first | exact kd_mka rfl | refine (kd_sr _ _ _ _ _).trans ?_ | refine (kd_si _ _ _ _ _).trans ?_ | refine (kd_mkn (by omega)).trans ?_))⟩, ⟨(show gr _ a 6 = some (a + 4) from by repeat (first | exact gr_at rfl rfl | refine (gr_ne (Or.inr (by decide))).trans ?_ | refine (gr_si _ _ _ _ _ _).trans ?_ | refine (gr_mkn (by omega)).trans ?_)), (show kd _ (a + 4) = some (.inr (1, 120)) from by repeat (first | exact kd_mka rfl | refine (kd_sr _ _ _ _ _).trans ?_ | refine (kd_si _ _ _ _ _).trans ?_ | refine (kd_mkn (by omega)).trans ?_))⟩, ⟨(show gr _ a 8 = some (a + 5) from by repeat (first | exact gr_at rfl rfl | refine (gr_ne (Or.inr (by decide))).trans ?_ | refine (gr_si _ _ _ _ _ _).trans ?_ | refine (gr_mkn (by omega)).trans ?_)), (show kd _ (a + 5) = some (.inr (1, 40)) from by repeat (first | exact kd_mka rfl | refine (kd_sr _ _ _ _ _).trans ?_ | refine (kd_si _ _ _ _ _).trans ?_ | refine (kd_mkn (by omega)).trans ?_))⟩, ⟨(show gr _ a 9 = some (a + 6) from by repeat (first | exact gr_at rfl rfl | refine (gr_ne (Or.inr (by decide))).trans ?_ | refine (gr_si _ _ _ _ _ _).trans ?_ | refine (gr_mkn (by omega)).trans ?_)), (show kd _ (a + 6) = some (.inr (1, 400)) from by repeat (first | exact kd_mka rfl | refine (kd_sr _ _ _ _ _).trans ?_ | refine (kd_si _ _ _ _ _).trans ?_ | refine (kd_mkn (by omega)).trans ?_))⟩, ⟨(show gr _ a 12 = some (a + 7) from by repeat (first | exact gr_at rfl rfl | refine (gr_ne (Or.inr (by decide))).trans ?_ | refine (gr_si _ _ _ _ _ _).trans ?_ | refine (gr_mkn (by omega)).trans ?_)), (show kd _ (a + 7) = some (.inr (1, 6537)) from by repeat (first | exact kd_mka rfl | refine (kd_sr _ _ _ _ _).trans ?_ | refine (kd_si _ _ _ _ _).trans ?_ | refine (kd_mkn (by omega)).trans ?_))⟩, ⟨(show gr _ a 13 = some (a + 8) from by repeat (first | exact gr_at rfl rfl | refine (gr_ne (Or.inr (by decide))).trans ?_ | refine (gr_si _ _ _ _ _ _).trans ?_ | refine (gr_mkn (by omega)).trans ?_)), (show kd _ (a + 8) = some (.inr (1, 1000)) from by repeat (first | exact kd_mka rfl | refine (kd_sr _ _ _ _ _).trans ?_ | refine (kd_si _ _ _ _ _).trans ?_ | refine (kd_mkn (by omega)).trans ?_))⟩, ⟨(show gr _ a 15 = some (a + 9) from by repeat (first | exact gr_at rfl rfl | refine (gr_ne (Or.inr (by decide))).trans ?_ | refine (gr_si _ _ _ _ _ _).trans ?_ | refine (gr_mkn (by omega)).trans ?_)), (show kd _ (a + 9) = some (.inr (1, 4)) from by repeat (first | exact kd_mka rfl | refine (kd_sr _ _ _ _ _).trans ?_ | refine (kd_si _ _ _ _ _).trans ?_ | refine (kd_mkn (by omega)).trans ?_))⟩, ⟨(show gr _ a 16 = some (a + 10) from by repeat (first | exact gr_at rfl rfl | refine (gr_ne (Or.inr (by decide))).trans ?_ | refine (gr_si _ _ _ _ _ _).trans ?_ | refine (gr_mkn (by omega)).trans ?_)), (show kd _ (a + 10) = some (.inr (3, 40)) from by repeat (first | exact kd_mka rfl | refine (kd_sr _ _ _ _ _).trans ?_ | refine (kd_si _ _ _ _ _).trans ?_ | refine (kd_mkn (by omega)).trans ?_))⟩, ⟨(show gr _ a 17 = some (a + 11) from by repeat (first | exact gr_at rfl rfl | refine (gr_ne (Or.inr (by decide))).trans ?_ | refine (gr_si _ _ _ _ _ _).trans ?_ | refine (gr_mkn (by omega)).trans ?_)), (show kd _ (a + 11) = some (.inr (3, 40)) from by repeat (first | exact kd_mka rfl | refine (kd_sr _ _ _ _ _).trans ?_ | refine (kd_si _ _ _ _ _).trans ?_ | refine (kd_mkn (by omega)).trans ?_))⟩, ⟨(show gr _ a 19 = some (a + 12) from by repeat (first | exact gr_at rfl rfl | refine (gr_ne (Or.inr (by decide))).trans ?_ | refine (gr_si _ _ _ _ _ _).trans ?_ | refine (gr_mkn (by omega)).trans ?_)), (show kd _ (a + 12) = some (.inr (1, 40)) from by repeat (first | exact kd_mka rfl | refine (kd_sr _ _ _ _ _).trans ?_ | refine (kd_si _ _ _ _ _).trans ?_ | refine (kd_mkn (by omega)).trans ?_))⟩, ⟨(show gr _ a 20 = some (a + 13) from by repeat (first | exact gr_at rfl rfl | refine (gr_ne (Or.inr (by decide))).trans ?_ | refine (gr_si _ _ _ _ _ _).trans ?_ | refine (gr_mkn (by omega)).trans ?_)), (show kd _ (a + 13) = some (.inr (3, 40)) from by repeat (first | exact kd_mka rfl | refine (kd_sr _ _ _ _ _).trans ?_ | refine (kd_si _ _ _ _ _).trans ?_ | refine (kd_mkn (by omega)).trans ?_))⟩, ⟨(show gr _ a 21 = some (a + 14) from by repeat (first | exact gr_at rfl rfl | refine (gr_ne (Or.inr (by decide))).trans ?_ | refine (gr_si _ _ _ _ _ _).trans ?_ | refine (gr_mkn (by omega)).trans ?_)), (show kd _ (a + 14) = some (.inr (3, 40)) from by repeat (first | exact kd_mka rfl | refine (kd_sr _ _ _ _ _).trans ?_ | refine (kd_si _ _ _ _ _).trans ?_ | refine (kd_mkn (by omega)).trans ?_))⟩, ⟨(show gr _ a 22 = some (a + 15) from by repeat (first | exact gr_at rfl rfl | refine (gr_ne (Or.inr (by decide))).trans ?_ | refine (gr_si _ _ _ _ _ _).trans ?_ | refine (gr_mkn (by omega)).trans ?_)), (show kd _ (a + 15) = some (.inr (3, 40)) from by repeat (first | exact kd_mka rfl | refine (kd_sr _ _ _ _ _).trans ?_ | refine (kd_si _ _ _ _ _).trans ?_ | refine (kd_mkn (by omega)).trans ?_))⟩, ⟨(show gr _ a 23 = some (a + 16) from by repeat (first | exact gr_at rfl rfl | refine (gr_ne (Or.inr (by decide))).trans ?_ | refine (gr_si _ _ _ _ _ _).trans ?_ | refine (gr_mkn (by omega)).trans ?_)), (show kd _ (a + 16) = some (.inr (3, 1600)) from by repeat (first | exact kd_mka rfl | refine (kd_sr _ _ _ _ _).trans ?_ | refine (kd_si _ _ _ _ _).trans ?_ | refine (kd_mkn (by omega)).trans ?_))⟩, ⟨(show gr _ a 24 = some (a + 17) from by repeat (first | exact gr_at rfl rfl | refine (gr_ne (Or.inr (by decide))).trans ?_ | refine (gr_si _ _ _ _ _ _).trans ?_ | refine (gr_mkn (by omega)).trans ?_)), (show kd _ (a + 17) = some (.inr (1, 10)) from by repeat (first | exact kd_mka rfl | refine (kd_sr _ _ _ _ _).trans ?_ | refine (kd_si _ _ _ _ _).trans ?_ | refine (kd_mkn (by omega)).trans ?_))⟩⟩, (by simp only [nx_si, nx_sl, nx_sr, nx_mk, hN, Option.map_some]), fun b hb => (by repeat (first | exact eqA.rf | refine eqA.tr ?_ (eqA.si (by omega)) | refine eqA.tr ?_ (eqA.sr (by omega)) | refine eqA.tr ?_ (eqA.mk (by omega)))), fun j => (by repeat (first | exact gi_at rfl rfl | exact gi_mka rfl | refine (gi_ne (Or.inr (by omega))).trans ?_ | refine (gi_ne (Or.inl (by omega))).trans ?_ | refine (gi_sr _ _ _ _ _ _).trans ?_ | refine (gi_mkn (by omega)).trans ?_)), fun j hj => (by repeat (first | exact h0 _ (by decide) | refine (gi_ne (Or.inl (by omega))).trans ?_ | refine (gi_sr _ _ _ _ _ _).trans ?_ | refine (gi_mkn (by omega)).trans ?_))⟩ (fun H hH => ?_)
  obtain ⟨hM, hN9, hE, hm0, hf0⟩ := hH
  obtain ⟨hka, -, -⟩ := hM.q
  obtain ⟨rm, km⟩ := hM.m
  refine aw_aload_n dX12_init_145 rfl ?_
  refine aw_getr' (j := 0) dX12_init_146 fX12_7 rfl (by assumption) rfl (by assumption) ?_
  refine aw_iconst dX12_init_149 ?_
  refine aw_iconst dX12_init_150 ?_
  refine aw_iast dX12_init_151 (by assumption) (by omega) (by first | decide | omega) ?_
  refine aw_aload_n dX12_init_152 rfl ?_
  refine aw_getr' (j := 0) dX12_init_153 fX12_7 rfl (by assumption) rfl (by assumption) ?_
  refine aw_iconst dX12_init_156 ?_
  refine aw_iconst dX12_init_157 ?_
  refine aw_iast dX12_init_158 (by assumption) (by omega) (by first | decide | omega) ?_
  exact aw_return dX12_init_159 rfl (Or.inl rfl) ⟨rfl, FS0_md (H := H) (shM.eq hM (fun c _ _ => rfl) (fun j => rfl)) hm0 (by funext j; rw [gi_si, gi_si]; simp) ((gi_ne (Or.inl (by omega))).trans ((gi_ne (Or.inl (by omega))).trans (hf0 2 (Or.inl rfl)))) ((gi_ne (Or.inl (by omega))).trans ((gi_ne (Or.inl (by omega))).trans (hf0 4 (Or.inr rfl)))), hN9, fun b hb => (hE b hb).tr ((eqA.si (by omega)).tr (eqA.si (by omega)))⟩
