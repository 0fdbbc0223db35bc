/-! ===== constructors: Parser; the outer class ===== -/
theorem c_zinit {γ : GG} {a : Nat} {h : AH} (hk : kd h a = some (.inl 2)) (hN : nx h = some (a + 1)) : Call γ mX3_init 4 74 1042 [vr (some a)] h (rF (fun h' => shZ h' a (fun i => i) (fun _ i => i) ∧ nx h' = some (a + 75) ∧ ∀ b, b < a → eqA h h' b)) := by
  refine Call.of (ls := [(0, vr (some a))]) iX3_init.1 (Nat.le_of_ble_eq_true rfl) rfl ?_
  refine aw_aload_n dX3_init_0 rfl ?_
  refine aw_objInit dX3_init_1 kX3_3 oi_i oi_c (by decide) (Nat.le_of_ble_eq_true rfl) ?_
  refine aw_aload_n dX3_init_4 rfl ?_
  refine aw_new dX3_init_5 ciX5 cX3_9 nX5 zX5 (by decide) (by decide) (by decide) (fun q9 f9 g9 e9 => ?_)
  obtain rfl : q9 = a + 1 := e9 _ hN
  clear f9 g9 e9
  refine aw_dup dX3_init_8 rfl ?_
  refine aw_invI_f dX3_init_9 iX5_init kX3_11 rfl (c_qinit (kd_mka rfl) (by rw [nx_mk, hN]; rfl)) rfl rfl (by decide) (by decide) (by decide) (Nat.le_of_ble_eq_true rfl) (fun H1 hP9 => ?_)
  obtain ⟨S1, N1, E1⟩ := hP9
  have EO : ∀ b, b < a + 1 → eqA h H1 b := fun b hb => (eqA.mk (by omega)).tr (E1 b hb)
  have ka := (EO a (by omega)).1.trans hk
  obtain ⟨sQ, -⟩ := S1
  have sQ' := sQ
  obtain ⟨s1, s2, s3, s4, s5, s6⟩ := sQ'
  have s5 := s5 0 (by decide)
  have t6 := s6 0 (by decide)
  obtain ⟨t1, t2, t3, t4, t5, t7⟩ := t6
  have t5 := t5 0 (by decide)
  refine aw_putF' (j := 0) (by rfl) rfl rfl dX3_init_12 eX3_12 ka rfl ?_
  refine aw_aload_n dX3_init_15 rfl ?_
  refine aw_aload_n dX3_init_16 rfl ?_
  refine aw_getr' (j := 0) dX3_init_17 fX3_12 rfl ka rfl (gr_at rfl rfl) ?_
  refine aw_getr' (j := 1) dX3_init_20 fX3_18 rfl s1 rfl ((gr_ne (Or.inl (by omega))).trans s2) ?_
  refine aw_iconst dX3_init_23 ?_
  refine aw_aald4' dX3_init_24 s3 (by omega) (by first | decide | omega) ((gr_ne (Or.inl (by omega))).trans s5) ?_
  refine aw_putr' (j := 1) (by rfl) dX3_init_25 fX3_22 ka rfl ?_
  refine aw_aload_n dX3_init_28 rfl ?_
  refine aw_aload_n dX3_init_29 rfl ?_
  refine aw_getr' (j := 1) dX3_init_30 fX3_22 rfl ka rfl (gr_at rfl rfl) ?_
  refine aw_getr' (j := 2) dX3_init_33 fX3_26 rfl t1 rfl ((gr_ne (Or.inl (by omega))).trans ((gr_ne (Or.inl (by omega))).trans t2)) ?_
  refine aw_iconst dX3_init_36 ?_
  refine aw_aald7' dX3_init_37 t3 (by omega) (by first | decide | omega) ((gr_ne (Or.inl (by omega))).trans ((gr_ne (Or.inl (by omega))).trans t5)) ?_
  refine aw_putr' (j := 2) (by rfl) dX3_init_38 fX3_32 ka rfl ?_
  refine aw_aload_n dX3_init_41 rfl ?_
  refine aw_iconst dX3_init_42 ?_
  refine aw_puti' (j := 3) rfl dX3_init_43 fX3_36 ka rfl ?_
  refine aw_aload_n dX3_init_46 rfl ?_
  refine aw_iconst dX3_init_47 ?_
  refine aw_puti' (j := 4) rfl dX3_init_48 fX3_40 ka rfl ?_
  refine aw_aload_n dX3_init_51 rfl ?_
  refine aw_iconst dX3_init_52 ?_
  refine aw_puti' (j := 5) rfl dX3_init_53 fX3_43 ka rfl ?_
  refine aw_aload_n dX3_init_56 rfl ?_
  refine aw_iconst dX3_init_57 ?_
  refine aw_puti' (j := 6) rfl dX3_init_58 fX3_46 ka rfl ?_
  exact aw_return dX3_init_61 rfl (Or.inl rfl) ⟨rfl, ⟨ka, (gr_ne (Or.inr (by decide))).trans ((gr_ne (Or.inr (by decide))).trans (gr_at rfl rfl)), sQ.eq (fun b b1 b2 => (((((((eqA.sr (by omega)).tr (eqA.sr (by omega))).tr (eqA.sr (by omega))).tr (eqA.si (by omega))).tr (eqA.si (by omega))).tr (eqA.si (by omega))).tr (eqA.si (by omega))))⟩, N1.trans (congrArg some (by omega)), fun b hb => (((((((EO b (by omega)).tr (eqA.sr (by omega))).tr (eqA.sr (by omega))).tr (eqA.sr (by omega))).tr (eqA.si (by omega))).tr (eqA.si (by omega))).tr (eqA.si (by omega))).tr (eqA.si (by omega))⟩
def shCl (h : AH) (c : Nat) : Prop := kd h c = some (.inl 10) ∧ gr h c 0 = some (c + 1) ∧ gr h c 1 = some (c + 309) ∧ gr h c 2 = some (c + 1543) ∧ gr h c 3 = some (c + 1545) ∧ gr h c 4 = some (c + 1547) ∧ gr h c 5 = some (c + 1621) ∧ gr h c 6 = some (c + 1696) ∧ gr h c 7 = some (c + 1698) ∧ gr h c 8 = some (c + 1701)
def shU9 (h : AH) (u : Nat) : Prop := kd h u = some (.inl 5) ∧ gr h u 0 = some (u + 1) ∧ kd h (u + 1) = some (.inr (1, 10))
def okF (F : FS) : Prop := okSt F.1 ∧ F.2.1.length ≤ 4 ∧ (∀ S ∈ F.2.1, okSt S) ∧ F.2.2.length ≤ 80 ∧ ∀ x ∈ F.2.2, x < 128
def isTt (h : AH) (o : Nat) (tx : List Nat) : Prop := isTx h o 80 ∧ gi h o 1 = tx.length ∧ ∀ (k : Nat) (x : Nat), tx[k]? = some x → gi h (o + 1) k = x
/-- the class's working objects -/
def isWk (h : AH) (c : Nat) : Prop := isTx h (c + 1545) 1024 ∧ (∃ π ρ, shQ h (c + 1547) π ρ) ∧ (∃ π ρ, shZ h (c + 1621) π ρ) ∧ shU9 h (c + 1696) ∧ shE h (c + 1698) ∧ shE h (c + 1701)
/-- the class's whole state -/
def isCl (h : AH) (c : Nat) (F : FS) : Prop := shCl h c ∧ isSt h (c + 1) F.1 ∧ isHi h (c + 309) F.2.1 ∧ isTt h (c + 1543) F.2.2 ∧ isWk h c ∧ okF F
theorem eqA.e {h h' : AH} {a : Nat} (e : eqA h h' a) : kd h' a = kd h a := e.1
theorem eqA.r {h h' : AH} {a : Nat} (e : eqA h h' a) (j : Int) : gr h' a j = gr h a j := (e.2 j).2.2
theorem eqA.i {h h' : AH} {a : Nat} (e : eqA h h' a) (j : Int) : gi h' a j = gi h a j := (e.2 j).1
theorem shU9.eq {h h' : AH} {u : Nat} (s : shU9 h u) (e : ∀ b, u ≤ b → b < u + 2 → eqA h h' b) : shU9 h' u := ⟨(e u (by omega) (by omega)).e.trans s.1, ((e u (by omega) (by omega)).r 0).trans s.2.1, (e (u + 1) (by omega) (by omega)).e.trans s.2.2⟩
theorem isTx_eq {h h' : AH} {o n : Nat} (s : isTx h o n) (e : ∀ b, o ≤ b → b < o + 2 → eqA h h' b) : isTx h' o n := ⟨(e o (by omega) (by omega)).e.trans s.1, ((e o (by omega) (by omega)).r 0).trans s.2.1, (e (o + 1) (by omega) (by omega)).e.trans s.2.2⟩
theorem isTt.eq {h h' : AH} {o : Nat} {tx : List Nat} (s : isTt h o tx) (e : ∀ b, o ≤ b → b < o + 2 → eqA h h' b) : isTt h' o tx := ⟨isTx_eq s.1 e, ((e o (by omega) (by omega)).i 1).trans s.2.1, fun k x hx => ((e (o + 1) (by omega) (by omega)).i k).trans (s.2.2 k x hx)⟩
theorem shE_eq {h h' : AH} {u : Nat} (s : shE h u) (e : ∀ b, u ≤ b → b < u + 3 → eqA h h' b) : shE h' u := ⟨(e u (by omega) (by omega)).e.trans s.1, ((e u (by omega) (by omega)).r 0).trans s.2.1, (e (u + 1) (by omega) (by omega)).e.trans s.2.2.1, ((e u (by omega) (by omega)).r 1).trans s.2.2.2.1, (e (u + 2) (by omega) (by omega)).e.trans s.2.2.2.2⟩
theorem shZ_eq {h h' : AH} {p : Nat} {π : Nat → Nat} {ρ : Nat → Nat → Nat} (s : shZ h p π ρ) (e : ∀ b, p ≤ b → b < p + 75 → eqA h h' b) : shZ h' p π ρ := ⟨(e p (by omega) (by omega)).e.trans s.1, ((e p (by omega) (by omega)).r 0).trans s.2.1, s.2.2.eq (fun b b1 b2 => e b (by omega) (by omega))⟩
theorem shCl.eq {h h' : AH} {c : Nat} (s : shCl h c) (e : eqA h h' c) : shCl h' c := by
  obtain ⟨h1, h2, h3, h4, h5, h6, h7, h8, h9, h10⟩ := s
  exact ⟨e.e.trans h1, (e.r 0).trans h2, (e.r 1).trans h3, (e.r 2).trans h4, (e.r 3).trans h5, (e.r 4).trans h6, (e.r 5).trans h7, (e.r 6).trans h8, (e.r 7).trans h9, (e.r 8).trans h10⟩
theorem isWk.eq {h h' : AH} {c : Nat} (s : isWk h c) (e : ∀ b, c + 1545 ≤ b → b < c + 1704 → eqA h h' b) : isWk h' c := by
  obtain ⟨h1, ⟨π, ρ, h2⟩, ⟨π2, ρ2, h3⟩, h4, h5, h6⟩ := s
  exact ⟨isTx_eq h1 (fun b b1 b2 => e b (by omega) (by omega)), ⟨π, ρ, h2.eq (fun b b1 b2 => e b (by omega) (by omega))⟩, ⟨π2, ρ2, shZ_eq h3 (fun b b1 b2 => e b (by omega) (by omega))⟩, h4.eq (fun b b1 b2 => e b (by omega) (by omega)), shE_eq h5 (fun b b1 b2 => e b (by omega) (by omega)), shE_eq h6 (fun b b1 b2 => e b (by omega) (by omega))⟩
theorem isCl.eq {h h' : AH} {c : Nat} {F : FS} (s : isCl h c F) (e : ∀ b, c ≤ b → b < c + 1704 → eqA h h' b) : isCl h' c F := by
  obtain ⟨h1, h2, h3, h4, h5, h6⟩ := s
  exact ⟨h1.eq (e c (by omega) (by omega)), h2.eq (fun b b1 b2 => e b (by omega) (by omega)), h3.eq (fun b b1 b2 => e b (by omega) (by omega)), h4.eq (fun b b1 b2 => e b (by omega) (by omega)), h5.eq (fun b b1 b2 => e b (by omega) (by omega)), h6⟩
theorem isCl.wk {h h' : AH} {c : Nat} {F : FS} (s : isCl h c F) (e : ∀ b, c ≤ b → b < c + 1545 → eqA h h' b) (k : isWk h' c) : isCl h' c F := by
  obtain ⟨h1, h2, h3, h4, h5, h6⟩ := s
  exact ⟨h1.eq (e c (by omega) (by omega)), h2.eq (fun b b1 b2 => e b (by omega) (by omega)), h3.eq (fun b b1 b2 => e b (by omega) (by omega)), h4.eq (fun b b1 b2 => e b (by omega) (by omega)), k, h6⟩
/-- the state of a new object -/
def FS0 : FS := ((T0, fun _ => []), [], [])
theorem FS0_ok : okF FS0 := ⟨⟨T0_ok, fun p _ => ⟨⟨Nat.zero_le 4, fun t ht => absurd ht (by simp [FS0])⟩, fun t ht => absurd ht (by simp [FS0])⟩⟩, by decide, fun S hS => absurd hS (by simp [FS0]), by decide, fun x hx => absurd hx (by simp [FS0])⟩
theorem c_init {γ : GG} {c : Nat} {h : AH} (hk : kd h c = some (.inl 10)) (hN : nx h = some (c + 1)) : Call γ mX11_init 6 1703 28555 [vr (some c)] h (rF (fun h' => isCl h' c FS0 ∧ nx h' = some (c + 1704) ∧ ∀ b, b < c → eqA h h' b)) := by
  refine Call.of (ls := [(0, vr (some c))]) iX11_init.1 (Nat.le_of_ble_eq_true rfl) rfl ?_
  refine aw_aload_n dX11_init_0 rfl ?_
  refine aw_objInit dX11_init_1 kX11_3 oi_i oi_c (by decide) (Nat.le_of_ble_eq_true rfl) ?_
  refine aw_aload_n dX11_init_4 rfl ?_
  refine aw_new dX11_init_5 ciX7 cX11_9 nX7 zX7 (by decide) (by decide) (by decide) (fun q9 f9 g9 e9 => ?_)
  obtain rfl : q9 = c + 1 := e9 _ hN
  clear f9 g9 e9
  refine aw_dup dX11_init_8 rfl ?_
  refine aw_invI_f dX11_init_9 iX7_init kX11_11 rfl (c_stinit (kd_mka rfl) (by rw [nx_mk, hN]; rfl)) rfl rfl (by decide) (by decide) (by decide) (Nat.le_of_ble_eq_true rfl) (fun H0 hP9 => ?_)
  obtain ⟨S0, N0, E0⟩ := hP9
  have ka0 := (E0 c (by omega)).e.trans ((kd_mkn (by omega)).trans hk)
  have D0 : ∀ b, b < c + 1 → b ≠ c → eqA _ (sr H0 c 0 (some (c + 1))) b := fun b hb hc => ((eqA.mk (by omega)).tr (E0 b hb)).tr (eqA.sr hc)
  refine aw_putF' (j := 0) (by rfl) rfl rfl dX11_init_12 eX11_12 ka0 rfl ?_
  refine aw_aload_n dX11_init_15 rfl ?_
  refine aw_new dX11_init_16 ciX2 cX11_16 nX2 zX2 (by decide) (by decide) (by decide) (fun q9 f9 g9 e9 => ?_)
  obtain rfl : q9 = c + 309 := e9 _ (show nx _ = some (c + 309) from N0)
  clear f9 g9 e9
  refine aw_dup dX11_init_19 rfl ?_
  refine aw_invI_f dX11_init_20 iX2_init kX11_18 rfl (c_hinit (kd_mka rfl) (by rw [nx_mk, nx_sr, N0]; rfl)) rfl rfl (by decide) (by decide) (by decide) (Nat.le_of_ble_eq_true rfl) (fun H1 hP9 => ?_)
  obtain ⟨S1, N1, E1⟩ := hP9
  have ka1 := (E1 c (by omega)).e.trans ((kd_mkn (by omega)).trans ka0)
  have D1 : ∀ b, b < c + 309 → b ≠ c → eqA _ (sr H1 c 1 (some (c + 309))) b := fun b hb hc => ((eqA.mk (by omega)).tr (E1 b hb)).tr (eqA.sr hc)
  refine aw_putF' (j := 1) (by rfl) rfl rfl dX11_init_23 eX11_19 ka1 rfl ?_
  refine aw_aload_n dX11_init_26 rfl ?_
  refine aw_new dX11_init_27 ciX9 cX11_23 nX9 zX9 (by decide) (by decide) (by decide) (fun q9 f9 g9 e9 => ?_)
  obtain rfl : q9 = c + 1543 := e9 _ (show nx _ = some (c + 1543) from N1)
  clear f9 g9 e9
  refine aw_dup dX11_init_30 rfl ?_
  refine aw_bipush dX11_init_31 rfl ?_
  refine aw_invI_f dX11_init_33 iX9_init kX11_25 rfl (c_xinit (n := 80) (kd_mka rfl) (by rw [nx_mk, nx_sr, N1]; rfl) (by decide)) rfl rfl (by decide) (by decide) (by decide) (Nat.le_of_ble_eq_true rfl) (fun H2 hP9 => ?_)
  obtain ⟨S2, N2, E2⟩ := hP9
  have ka2 := (E2 c (by omega)).e.trans ((kd_mkn (by omega)).trans ka1)
  have D2 : ∀ b, b < c + 1543 → b ≠ c → eqA _ (sr H2 c 2 (some (c + 1543))) b := fun b hb hc => ((eqA.mk (by omega)).tr (E2 b hb)).tr (eqA.sr hc)
  refine aw_putF' (j := 2) (by rfl) rfl rfl dX11_init_36 eX11_28 ka2 rfl ?_
  refine aw_aload_n dX11_init_39 rfl ?_
  refine aw_new dX11_init_40 ciX9 cX11_23 nX9 zX9 (by decide) (by decide) (by decide) (fun q9 f9 g9 e9 => ?_)
  obtain rfl : q9 = c + 1545 := e9 _ (show nx _ = some (c + 1545) from N2)
  clear f9 g9 e9
  refine aw_dup dX11_init_43 rfl ?_
  refine aw_sipush dX11_init_44 rfl ?_
  refine aw_invI_f dX11_init_47 iX9_init kX11_25 rfl (c_xinit (n := 1024) (kd_mka rfl) (by rw [nx_mk, nx_sr, N2]; rfl) (by decide)) rfl rfl (by decide) (by decide) (by decide) (Nat.le_of_ble_eq_true rfl) (fun H3 hP9 => ?_)
  obtain ⟨S3, N3, E3⟩ := hP9
  have ka3 := (E3 c (by omega)).e.trans ((kd_mkn (by omega)).trans ka2)
  have D3 : ∀ b, b < c + 1545 → b ≠ c → eqA _ (sr H3 c 3 (some (c + 1545))) b := fun b hb hc => ((eqA.mk (by omega)).tr (E3 b hb)).tr (eqA.sr hc)
  refine aw_putF' (j := 3) (by rfl) rfl rfl dX11_init_50 eX11_32 ka3 rfl ?_
  refine aw_aload_n dX11_init_53 rfl ?_
  refine aw_new dX11_init_54 ciX5 cX11_35 nX5 zX5 (by decide) (by decide) (by decide) (fun q9 f9 g9 e9 => ?_)
  obtain rfl : q9 = c + 1547 := e9 _ (show nx _ = some (c + 1547) from N3)
  clear f9 g9 e9
  refine aw_dup dX11_init_57 rfl ?_
  refine aw_invI_f dX11_init_58 iX5_init kX11_37 rfl (c_qinit (kd_mka rfl) (by rw [nx_mk, nx_sr, N3]; rfl)) rfl rfl (by decide) (by decide) (by decide) (Nat.le_of_ble_eq_true rfl) (fun H4 hP9 => ?_)
  obtain ⟨S4, N4, E4⟩ := hP9
  have ka4 := (E4 c (by omega)).e.trans ((kd_mkn (by omega)).trans ka3)
  have D4 : ∀ b, b < c + 1547 → b ≠ c → eqA _ (sr H4 c 4 (some (c + 1547))) b := fun b hb hc => ((eqA.mk (by omega)).tr (E4 b hb)).tr (eqA.sr hc)
  refine aw_putF' (j := 4) (by rfl) rfl rfl dX11_init_61 eX11_38 ka4 rfl ?_
  refine aw_aload_n dX11_init_64 rfl ?_
  refine aw_new dX11_init_65 ciX3 cX11_42 nX3 zX3 (by decide) (by decide) (by decide) (fun q9 f9 g9 e9 => ?_)
  obtain rfl : q9 = c + 1621 := e9 _ (show nx _ = some (c + 1621) from N4)
  clear f9 g9 e9
  refine aw_dup dX11_init_68 rfl ?_
  refine aw_invIN_f dX11_init_69 iX3_init kX11_44 rfl (c_zinit (kd_mka rfl) (by rw [nx_mk, nx_sr, N4]; rfl)) rfl rfl (by decide) (by decide) (by decide) (Nat.le_of_ble_eq_true rfl) (fun H5 hP9 => ?_)
  obtain ⟨S5, N5, E5⟩ := hP9
  have ka5 := (E5 c (by omega)).e.trans ((kd_mkn (by omega)).trans ka4)
  have D5 : ∀ b, b < c + 1621 → b ≠ c → eqA _ (sr H5 c 5 (some (c + 1621))) b := fun b hb hc => ((eqA.mk (by omega)).tr (E5 b hb)).tr (eqA.sr hc)
  refine aw_putF' (j := 5) (by rfl) rfl rfl dX11_init_72 eX11_45 ka5 rfl ?_
  refine aw_aload_n dX11_init_75 rfl ?_
  refine aw_new dX11_init_76 ciX6 cX11_49 nX6 zX6 (by decide) (by decide) (by decide) (fun q9 f9 g9 e9 => ?_)
  obtain rfl : q9 = c + 1696 := e9 _ (show nx _ = some (c + 1696) from N5)
  clear f9 g9 e9
  refine aw_dup dX11_init_79 rfl ?_
  refine aw_invIN_f dX11_init_80 iX6_init kX11_51 rfl (c_uinit (kd_mka rfl) (by rw [nx_mk, nx_sr, N5]; rfl)) rfl rfl (by decide) (by decide) (by decide) (Nat.le_of_ble_eq_true rfl) (fun H6 hP9 => ?_)
  obtain ⟨S6, N6, E6⟩ := hP9
  have ka6 := (E6 c (by omega)).e.trans ((kd_mkn (by omega)).trans ka5)
  have D6 : ∀ b, b < c + 1696 → b ≠ c → eqA _ (sr H6 c 6 (some (c + 1696))) b := fun b hb hc => ((eqA.mk (by omega)).tr (E6 b hb)).tr (eqA.sr hc)
  refine aw_putF' (j := 6) (by rfl) rfl rfl dX11_init_83 eX11_52 ka6 rfl ?_
  refine aw_aload_n dX11_init_86 rfl ?_
  refine aw_new dX11_init_87 ciX1 cX11_56 nX1 zX1 (by decide) (by decide) (by decide) (fun q9 f9 g9 e9 => ?_)
  obtain rfl : q9 = c + 1698 := e9 _ (show nx _ = some (c + 1698) from N6)
  clear f9 g9 e9
  refine aw_dup dX11_init_90 rfl ?_
  refine aw_invIN_f dX11_init_91 iX1_init kX11_58 rfl (c_einit (kd_mka rfl) (by rw [nx_mk, nx_sr, N6]; rfl)) rfl rfl (by decide) (by decide) (by decide) (Nat.le_of_ble_eq_true rfl) (fun H7 hP9 => ?_)
  obtain ⟨S7, N7, E7⟩ := hP9
  have ka7 := (E7 c (by omega)).e.trans ((kd_mkn (by omega)).trans ka6)
  have D7 : ∀ b, b < c + 1698 → b ≠ c → eqA _ (sr H7 c 7 (some (c + 1698))) b := fun b hb hc => ((eqA.mk (by omega)).tr (E7 b hb)).tr (eqA.sr hc)
  refine aw_putF' (j := 7) (by rfl) rfl rfl dX11_init_94 eX11_59 ka7 rfl ?_
  refine aw_aload_n dX11_init_97 rfl ?_
  refine aw_new dX11_init_98 ciX1 cX11_56 nX1 zX1 (by decide) (by decide) (by decide) (fun q9 f9 g9 e9 => ?_)
  obtain rfl : q9 = c + 1701 := e9 _ (show nx _ = some (c + 1701) from N7)
  clear f9 g9 e9
  refine aw_dup dX11_init_101 rfl ?_
  refine aw_invIN_f dX11_init_102 iX1_init kX11_58 rfl (c_einit (kd_mka rfl) (by rw [nx_mk, nx_sr, N7]; rfl)) rfl rfl (by decide) (by decide) (by decide) (Nat.le_of_ble_eq_true rfl) (fun H8 hP9 => ?_)
  obtain ⟨S8, N8, E8⟩ := hP9
  have ka8 := (E8 c (by omega)).e.trans ((kd_mkn (by omega)).trans ka7)
  have D8 : ∀ b, b < c + 1701 → b ≠ c → eqA _ (sr H8 c 8 (some (c + 1701))) b := fun b hb hc => ((eqA.mk (by omega)).tr (E8 b hb)).tr (eqA.sr hc)
  refine aw_putF' (j := 8) (by rfl) rfl rfl dX11_init_105 eX11_63 ka8 rfl ?_
  exact aw_return dX11_init_108 rfl (Or.inl rfl) ⟨rfl, ⟨⟨ka8, ((gr_ne (Or.inr (by decide))).trans (((E8 c (by omega)).r 0).trans ((gr_mkn (by omega)).trans ((gr_ne (Or.inr (by decide))).trans (((E7 c (by omega)).r 0).trans ((gr_mkn (by omega)).trans ((gr_ne (Or.inr (by decide))).trans (((E6 c (by omega)).r 0).trans ((gr_mkn (by omega)).trans ((gr_ne (Or.inr (by decide))).trans (((E5 c (by omega)).r 0).trans ((gr_mkn (by omega)).trans ((gr_ne (Or.inr (by decide))).trans (((E4 c (by omega)).r 0).trans ((gr_mkn (by omega)).trans ((gr_ne (Or.inr (by decide))).trans (((E3 c (by omega)).r 0).trans ((gr_mkn (by omega)).trans ((gr_ne (Or.inr (by decide))).trans (((E2 c (by omega)).r 0).trans ((gr_mkn (by omega)).trans ((gr_ne (Or.inr (by decide))).trans (((E1 c (by omega)).r 0).trans ((gr_mkn (by omega)).trans (gr_at rfl rfl))))))))))))))))))))))))), ((gr_ne (Or.inr (by decide))).trans (((E8 c (by omega)).r 1).trans ((gr_mkn (by omega)).trans ((gr_ne (Or.inr (by decide))).trans (((E7 c (by omega)).r 1).trans ((gr_mkn (by omega)).trans ((gr_ne (Or.inr (by decide))).trans (((E6 c (by omega)).r 1).trans ((gr_mkn (by omega)).trans ((gr_ne (Or.inr (by decide))).trans (((E5 c (by omega)).r 1).trans ((gr_mkn (by omega)).trans ((gr_ne (Or.inr (by decide))).trans (((E4 c (by omega)).r 1).trans ((gr_mkn (by omega)).trans ((gr_ne (Or.inr (by decide))).trans (((E3 c (by omega)).r 1).trans ((gr_mkn (by omega)).trans ((gr_ne (Or.inr (by decide))).trans (((E2 c (by omega)).r 1).trans ((gr_mkn (by omega)).trans (gr_at rfl rfl)))))))))))))))))))))), ((gr_ne (Or.inr (by decide))).trans (((E8 c (by omega)).r 2).trans ((gr_mkn (by omega)).trans ((gr_ne (Or.inr (by decide))).trans (((E7 c (by omega)).r 2).trans ((gr_mkn (by omega)).trans ((gr_ne (Or.inr (by decide))).trans (((E6 c (by omega)).r 2).trans ((gr_mkn (by omega)).trans ((gr_ne (Or.inr (by decide))).trans (((E5 c (by omega)).r 2).trans ((gr_mkn (by omega)).trans ((gr_ne (Or.inr (by decide))).trans (((E4 c (by omega)).r 2).trans ((gr_mkn (by omega)).trans ((gr_ne (Or.inr (by decide))).trans (((E3 c (by omega)).r 2).trans ((gr_mkn (by omega)).trans (gr_at rfl rfl))))))))))))))))))), ((gr_ne (Or.inr (by decide))).trans (((E8 c (by omega)).r 3).trans ((gr_mkn (by omega)).trans ((gr_ne (Or.inr (by decide))).trans (((E7 c (by omega)).r 3).trans ((gr_mkn (by omega)).trans ((gr_ne (Or.inr (by decide))).trans (((E6 c (by omega)).r 3).trans ((gr_mkn (by omega)).trans ((gr_ne (Or.inr (by decide))).trans (((E5 c (by omega)).r 3).trans ((gr_mkn (by omega)).trans ((gr_ne (Or.inr (by decide))).trans (((E4 c (by omega)).r 3).trans ((gr_mkn (by omega)).trans (gr_at rfl rfl)))))))))))))))), ((gr_ne (Or.inr (by decide))).trans (((E8 c (by omega)).r 4).trans ((gr_mkn (by omega)).trans ((gr_ne (Or.inr (by decide))).trans (((E7 c (by omega)).r 4).trans ((gr_mkn (by omega)).trans ((gr_ne (Or.inr (by decide))).trans (((E6 c (by omega)).r 4).trans ((gr_mkn (by omega)).trans ((gr_ne (Or.inr (by decide))).trans (((E5 c (by omega)).r 4).trans ((gr_mkn (by omega)).trans (gr_at rfl rfl))))))))))))), ((gr_ne (Or.inr (by decide))).trans (((E8 c (by omega)).r 5).trans ((gr_mkn (by omega)).trans ((gr_ne (Or.inr (by decide))).trans (((E7 c (by omega)).r 5).trans ((gr_mkn (by omega)).trans ((gr_ne (Or.inr (by decide))).trans (((E6 c (by omega)).r 5).trans ((gr_mkn (by omega)).trans (gr_at rfl rfl)))))))))), ((gr_ne (Or.inr (by decide))).trans (((E8 c (by omega)).r 6).trans ((gr_mkn (by omega)).trans ((gr_ne (Or.inr (by decide))).trans (((E7 c (by omega)).r 6).trans ((gr_mkn (by omega)).trans (gr_at rfl rfl))))))), ((gr_ne (Or.inr (by decide))).trans (((E8 c (by omega)).r 7).trans ((gr_mkn (by omega)).trans (gr_at rfl rfl)))), (gr_at rfl rfl)⟩, S0.eq (fun b b1 b2 => (((((((((eqA.sr (by omega)).tr (D1 _ (by omega) (by omega))).tr (D2 _ (by omega) (by omega))).tr (D3 _ (by omega) (by omega))).tr (D4 _ (by omega) (by omega))).tr (D5 _ (by omega) (by omega))).tr (D6 _ (by omega) (by omega))).tr (D7 _ (by omega) (by omega))).tr (D8 _ (by omega) (by omega)))), S1.eq (fun b b1 b2 => ((((((((eqA.sr (by omega)).tr (D2 _ (by omega) (by omega))).tr (D3 _ (by omega) (by omega))).tr (D4 _ (by omega) (by omega))).tr (D5 _ (by omega) (by omega))).tr (D6 _ (by omega) (by omega))).tr (D7 _ (by omega) (by omega))).tr (D8 _ (by omega) (by omega)))), ⟨isTx_eq ⟨S2.1, S2.2.1, S2.2.2.1⟩ (fun b b1 b2 => (((((((eqA.sr (by omega)).tr (D3 _ (by omega) (by omega))).tr (D4 _ (by omega) (by omega))).tr (D5 _ (by omega) (by omega))).tr (D6 _ (by omega) (by omega))).tr (D7 _ (by omega) (by omega))).tr (D8 _ (by omega) (by omega)))), (((((((((eqA.sr (by omega)).tr (D3 _ (by omega) (by omega))).tr (D4 _ (by omega) (by omega))).tr (D5 _ (by omega) (by omega))).tr (D6 _ (by omega) (by omega))).tr (D7 _ (by omega) (by omega))).tr (D8 _ (by omega) (by omega))) : eqA _ _ (c + 1543)).i 1).trans S2.2.2.2, fun k x hx => absurd hx (by simp [FS0])⟩, ⟨isTx_eq ⟨S3.1, S3.2.1, S3.2.2.1⟩ (fun b b1 b2 => ((((((eqA.sr (by omega)).tr (D4 _ (by omega) (by omega))).tr (D5 _ (by omega) (by omega))).tr (D6 _ (by omega) (by omega))).tr (D7 _ (by omega) (by omega))).tr (D8 _ (by omega) (by omega)))), ⟨_, _, S4.1.eq (fun b b1 b2 => (((((eqA.sr (by omega)).tr (D5 _ (by omega) (by omega))).tr (D6 _ (by omega) (by omega))).tr (D7 _ (by omega) (by omega))).tr (D8 _ (by omega) (by omega))))⟩, ⟨_, _, shZ_eq S5 (fun b b1 b2 => ((((eqA.sr (by omega)).tr (D6 _ (by omega) (by omega))).tr (D7 _ (by omega) (by omega))).tr (D8 _ (by omega) (by omega))))⟩, shU9.eq S6 (fun b b1 b2 => (((eqA.sr (by omega)).tr (D7 _ (by omega) (by omega))).tr (D8 _ (by omega) (by omega)))), shE_eq S7 (fun b b1 b2 => ((eqA.sr (by omega)).tr (D8 _ (by omega) (by omega)))), shE_eq S8 (fun b b1 b2 => (eqA.sr (by omega)))⟩, FS0_ok⟩, N8.trans (congrArg some (by omega)), fun b hb => (((((((((D0 b (by omega) (by omega)).tr (D1 b (by omega) (by omega))).tr (D2 b (by omega) (by omega))).tr (D3 b (by omega) (by omega))).tr (D4 b (by omega) (by omega))).tr (D5 b (by omega) (by omega))).tr (D6 b (by omega) (by omega))).tr (D7 b (by omega) (by omega))).tr (D8 b (by omega) (by omega)))⟩
