/-! the law's loop and its start -/
theorem and31 (z : Int) : ∃ v : Int, Int32.ofInt z &&& Int32.ofInt 31 = Int32.ofInt v ∧ 0 ≤ v ∧ v ≤ 31 := by
  have hle : (Int32.ofInt z).toBitVec.toNat &&& 31 ≤ 31 := Nat.and_le_right
  have e : (Int32.ofInt z &&& Int32.ofInt 31).toInt = (((Int32.ofInt z).toBitVec.toNat &&& 31 : Nat) : Int) := by
    show ((Int32.ofInt z &&& Int32.ofInt 31).toBitVec).toInt = _
    have e9 : ((Int32.ofInt z &&& Int32.ofInt 31).toBitVec).toNat = (Int32.ofInt z).toBitVec.toNat &&& 31 := by
      rw [Int32.toBitVec_and, BitVec.toNat_and]; rfl
    rw [BitVec.toInt_eq_toNat_of_lt (by rw [e9]; omega), e9]
  exact ⟨(Int32.ofInt z &&& Int32.ofInt 31).toInt, (Int32.ofInt_toInt _).symm, by omega, by omega⟩
theorem kd_fg9 (h : AH) (b : Nat) : kd (fg h) b = kd h b := rfl
theorem l_law {Pp : State → Prop} {γ : GG} {b L c : Nat} {zs : Nat → Int} {Q : AR → AH → Prop} (hNc : ∀ s, Pp s → Nc9 s) (hX : ∀ s, Pp s → va_X b L (fun k => Int32.ofInt (zs k)) s s.heap) (hb : b < γ.1) (hL : L ≤ 2560) (hz : ∀ k, -2147483648 ≤ zs k ∧ zs k ≤ 2147483647) (hQ : ∀ h, nx h = none → Q (.inl (some (vi 1))) h) :
    ∀ (n : Nat) (i : Int) (kc ks : Nat) (h : AH) (F : FS), Lw9 h c F → 0 ≤ i → i ≤ L → (L : Int) < i + n → n ≤ kc → 6 * n ≤ ks → AP Pp γ mL_law 14 kc ks 23 (lL i b c) [] h Q := by
  intro n
  induction n with
  | zero => intro i kc ks h F hI h0 h1 h2; exact absurd h2 (by omega)
  | succ n ih =>
    intro i kc ks h F hI h0 h1 h2 hkc hks
    refine ap_iload dL_law_23 rfl ?_
    refine ap_aload_n dL_law_25 rfl ?_
    refine ap_slen hX hb dL_law_26 ?_
    refine ap_iconst dL_law_27 ?_
    refine ap_isub dL_law_28 ?_
    refine ap_ic_gt (tgt := 1550) dL_law_29 (by decide) ⟨by omega, by omega⟩ ⟨by omega, by omega⟩ (fun _ => ?_) (fun g => ?_)
    · refine ap_iconst dL_law_1550 ?_
      exact AP.of (aw_zreturn dL_law_1551 rfl (Or.inr rfl) (Or.inr hI.2.2.2) (hQ _ hI.2.2.2))
    · have hi5 : i + 5 ≤ L := by omega
      have hC : LC Pp γ b L c zs i := ⟨hNc, hX, hb, hL, ⟨h0, hi5⟩, hz⟩
      have kk : ∀ (h' : AH) (F' : FS), Lw9 h' c F' → AP Pp γ mL_law 14 (kc - 1) (ks - 6) 1544 (lL i b c) [] h' Q := fun h' F' hI' =>
        ap_iinc (k9 := 0) (ls1 := lL (i + 5) b c) dL_law_1544 rfl (by decide) rfl (ap_goto (tgt := 23) dL_law_1547 (by decide) (ih (i + 5) (kc - 1) (ks - 6) h' F' hI' (by omega) hi5 (by omega) (by omega) (by omega)))
      obtain ⟨v, hv, v0, v1⟩ := and31 (zs i.toNat)
      refine ap_aload_n dL_law_32 rfl ?_
      refine ap_iload dL_law_33 rfl ?_
      refine ap_sld hX hb hL dL_law_35 ⟨by omega, by omega⟩ rfl ?_
      refine ap_bipush dL_law_36 rfl ?_
      refine ap_iand dL_law_38 hv ?_
      clear hv
      have hd : v = 0 ∨ v = 1 ∨ v = 2 ∨ v = 3 ∨ v = 4 ∨ v = 5 ∨ v = 6 ∨ v = 7 ∨ v = 8 ∨ v = 9 ∨ v = 10 ∨ v = 11 ∨ v = 12 ∨ v = 13 ∨ v = 14 ∨ v = 15 ∨ v = 16 ∨ v = 17 ∨ v = 18 ∨ v = 19 ∨ v = 20 ∨ v = 21 ∨ v = 22 ∨ 23 ≤ v := by omega
      rcases hd with rfl | rfl | rfl | rfl | rfl | rfl | rfl | rfl | rfl | rfl | rfl | rfl | rfl | rfl | rfl | rfl | rfl | rfl | rfl | rfl | rfl | rfl | rfl | vb
      · refine ap_tableIn (off := 105) (tgt := 144) dL_law_39 (by omega) (by omega) (by omega) rfl (by decide) ?_
        exact k_addNode hC hI (by omega) (by omega) kk
      · refine ap_tableIn (off := 185) (tgt := 224) dL_law_39 (by omega) (by omega) (by omega) rfl (by decide) ?_
        exact k_removeNode hC hI (by omega) (by omega) kk
      · refine ap_tableIn (off := 241) (tgt := 280) dL_law_39 (by omega) (by omega) (by omega) rfl (by decide) ?_
        exact k_moveNode hC hI (by omega) (by omega) kk
      · refine ap_tableIn (off := 309) (tgt := 348) dL_law_39 (by omega) (by omega) (by omega) rfl (by decide) ?_
        exact k_setNode hC hI (by omega) (by omega) kk
      · refine ap_tableIn (off := 389) (tgt := 428) dL_law_39 (by omega) (by omega) (by omega) rfl (by decide) ?_
        exact k_nodes hC hI (by omega) (by omega) kk
      · refine ap_tableIn (off := 402) (tgt := 441) dL_law_39 (by omega) (by omega) (by omega) rfl (by decide) ?_
        exact k_node hC hI (by omega) (by omega) kk
      · refine ap_tableIn (off := 470) (tgt := 509) dL_law_39 (by omega) (by omega) (by omega) rfl (by decide) ?_
        exact k_axis hC hI (by omega) (by omega) kk
      · refine ap_tableIn (off := 550) (tgt := 589) dL_law_39 (by omega) (by omega) (by omega) rfl (by decide) ?_
        exact k_type hC hI (by omega) (by omega) kk
      · refine ap_tableIn (off := 606) (tgt := 645) dL_law_39 (by omega) (by omega) (by omega) rfl (by decide) ?_
        exact k_clearText hC hI (by omega) (by omega) kk
      · refine ap_tableIn (off := 619) (tgt := 658) dL_law_39 (by omega) (by omega) (by omega) rfl (by decide) ?_
        exact k_read hC hI (by omega) (by omega) kk
      · refine ap_tableIn (off := 675) (tgt := 714) dL_law_39 (by omega) (by omega) (by omega) rfl (by decide) ?_
        exact k_written hC hI (by omega) (by omega) kk
      · refine ap_tableIn (off := 743) (tgt := 782) dL_law_39 (by omega) (by omega) (by omega) rfl (by decide) ?_
        exact k_size hC hI (by omega) (by omega) kk
      · refine ap_tableIn (off := 811) (tgt := 850) dL_law_39 (by omega) (by omega) (by omega) rfl (by decide) ?_
        exact k_unite hC hI (by omega) (by omega) kk
      · refine ap_tableIn (off := 891) (tgt := 930) dL_law_39 (by omega) (by omega) (by omega) rfl (by decide) ?_
        exact k_drop hC hI (by omega) (by omega) kk
      · refine ap_tableIn (off := 947) (tgt := 986) dL_law_39 (by omega) (by omega) (by omega) rfl (by decide) ?_
        exact k_count hC hI (by omega) (by omega) kk
      · refine ap_tableIn (off := 1015) (tgt := 1054) dL_law_39 (by omega) (by omega) (by omega) rfl (by decide) ?_
        exact k_selected hC hI (by omega) (by omega) kk
      · refine ap_tableIn (off := 1095) (tgt := 1134) dL_law_39 (by omega) (by omega) (by omega) rfl (by decide) ?_
        exact k_sum hC hI (by omega) (by omega) kk
      · refine ap_tableIn (off := 1163) (tgt := 1202) dL_law_39 (by omega) (by omega) (by omega) rfl (by decide) ?_
        exact k_given hC hI (by omega) (by omega) kk
      · refine ap_tableIn (off := 1255) (tgt := 1294) dL_law_39 (by omega) (by omega) (by omega) rfl (by decide) ?_
        exact k_differences hC hI (by omega) (by omega) kk
      · refine ap_tableIn (off := 1323) (tgt := 1362) dL_law_39 (by omega) (by omega) (by omega) rfl (by decide) ?_
        exact k_rewrite hC hI (by omega) (by omega) kk
      · refine ap_tableIn (off := 1379) (tgt := 1418) dL_law_39 (by omega) (by omega) (by omega) rfl (by decide) ?_
        exact k_uses hC hI (by omega) (by omega) kk
      · refine ap_tableIn (off := 1447) (tgt := 1486) dL_law_39 (by omega) (by omega) (by omega) rfl (by decide) ?_
        exact k_undo hC hI (by omega) (by omega) kk
      · refine ap_tableIn (off := 1491) (tgt := 1530) dL_law_39 (by omega) (by omega) (by omega) rfl (by decide) ?_
        exact k_digest hC hI (by omega) (by omega) kk
      · refine ap_tableOut (tgt := 1544) dL_law_39 (by omega) (Or.inr (by omega)) (by decide) ?_
        exact ap_less hI.2.2.2 (by omega) (by omega) (kk h F hI)
theorem s_law {Pp : State → Prop} {γ : GG} {b L : Nat} {zs : Nat → Int} {h : AH} {Q : AR → AH → Prop} (hNc : ∀ s, Pp s → Nc9 s) (hX : ∀ s, Pp s → va_X b L (fun k => Int32.ofInt (zs k)) s s.heap) (hb : b < γ.1) (hL : L ≤ 2560) (hz : ∀ k, -2147483648 ≤ zs k ∧ zs k ≤ 2147483647) (hQ : ∀ h, nx h = none → Q (.inl (some (vi 1))) h) (hN : nx h = some γ.1) : AP Pp γ mL_law 14 601024 7293034 0 [(0, vr (some b))] [] h Q := by
  refine ap_new dL_law_0 ciX11 cL_8 nX11 zX11 (by decide) (by decide) (by decide) (fun q9 f9 g9 e9 => ?_)
  obtain rfl : q9 = γ.1 := e9 _ hN
  clear f9 g9 e9
  refine ap_dup dL_law_3 rfl ?_
  refine ap_invI_f (as := []) dL_law_4 iX11_init kL_82 rfl (c_init (kd_mka rfl) (by rw [nx_mk, hN]; rfl)) rfl rfl (by decide) (by decide) (by decide) (Nat.le_of_ble_eq_true rfl) (fun H1 hP1 => ?_)
  obtain ⟨S1, N1, E1⟩ := hP1
  obtain ⟨c, ec⟩ : ∃ c : Nat, c = γ.1 := ⟨_, rfl⟩
  rw [← ec] at S1 N1 E1 ⊢
  refine ap_astore_n (ls1 := [(1, vr (some c)), (0, vr (some b))]) dL_law_7 (by decide) rfl ?_
  refine ap_new dL_law_8 ciX12 cL_83 nX12 zX12 (by decide) (by decide) (by decide) (fun q9 f9 g9 e9 => ?_)
  obtain rfl : q9 = c + 1704 := e9 _ N1
  clear f9 g9 e9
  refine ap_dup dL_law_11 rfl ?_
  refine ap_invI_f (as := []) dL_law_12 iX12_init kL_85 rfl (m_init (kd_mka rfl) (by rw [nx_mk, N1]; rfl) (fun j _ => by rw [gi_mk, if_pos rfl])) rfl rfl (by decide) (by decide) (by decide) (Nat.le_of_ble_eq_true rfl) (fun H2 hP2 => ?_)
  obtain ⟨S2, N2, E2⟩ := hP2
  refine ap_astore_n (ls1 := [(2, vr (some (c + 1704))), (1, vr (some c)), (0, vr (some b))]) dL_law_15 (by decide) rfl ?_
  refine ap_iconst dL_law_16 ?_
  refine ap_newal (n := 1) dL_law_17 arr_long (by decide) (by decide) (by decide) (fun q9 f9 g9 e9 => ?_)
  obtain rfl : q9 = c + 1722 := (e9 _ N2).trans (by omega)
  clear f9 g9 e9
  refine ap_astore_n (ls1 := [(3, vr (some (c + 1722))), (2, vr (some (c + 1704))), (1, vr (some c)), (0, vr (some b))]) dL_law_19 (by decide) rfl ?_
  refine ap_iconst dL_law_20 ?_
  refine ap_istore (ls1 := [(4, vi 0), (3, vr (some (c + 1722))), (2, vr (some (c + 1704))), (1, vr (some c)), (0, vr (some b))]) dL_law_21 (by decide) rfl ?_
  refine ap_fg ?_
  refine ap_sub (ls1 := lL 0 b c) [0, 4, 3, 2, 1] rfl ?_
  refine l_law hNc hX hb hL hz hQ 2561 0 _ _ _ FS0 ⟨?_, ?_, ?_, rfl⟩ (by decide) (by omega) (by omega) (by decide) (by decide)
  · refine S1.eq (fun x x1 x2 => ?_)
    have e9 := ((eqA.mk (h := H1) (k := .inl 11) (by omega)).tr (E2 x (by omega))).tr (eqA.mk (h := H2) (a := c + 1722) (k := .inr (2, 1)) (b := x) (by omega))
    exact e9
  · refine isMd.fr S2 (fun x x1 x2 => ?_)
    have e9 := eqA.mk (h := H2) (a := c + 1722) (k := .inr (2, 1)) (b := x) (by omega)
    exact e9
  · rw [kd_fg9, kd_mk, if_pos rfl]
