/-! ===== the model: count, sum, selected ===== -/
def ST9 (a : Nat) : Nat → Int → Prop := fun b j => (b = a ∧ (j = 10 ∨ j = 11)) ∨ b = a + 6 ∨ b = a + 7
theorem ST9_k {a : Nat} : ∀ b j, ST9 a b j → SK a b j := fun b j z => by unfold ST9 at z; unfold SK; omega
theorem l_tk9 {γ : GG} {a p : Nat} {S : St} {U : List St} {tx : List Nat} {h : AH} (hm : isMd h a S U tx) (hp : p < 4) (hq : S.2 p ≠ []) : ∀ (m k : Nat) (H : AH), k + m = (wQry (S.2 p)).length → eqG (ST9 a) h H → gi H a 10 = (wQry (S.2 p)).length → (∀ (j : Nat) (c : Int), j < k → (wQry (S.2 p))[j]? = some c → gi H (a + 6) j = c) → AW γ mX12_take 10 0 0 15 [(2, vi (k : Int)), (0, vr (some a)), (1, vi (p : Int))] [] H (rF (fun h' => eqG (ST9 a) h h' ∧ gQ (gi h' (a + 7)) (S.2 p))) := by
  have ho := hm.2.2.1.2 p hp
  have hb := wQry_le ho.1 ho.2
  have g3 := hm.2.1.2 p hp
  intro m
  induction m with
  | zero =>
    intro k H hkm hE h10 hj
    have hM1 := hE.sh hm.1
    obtain ⟨hka, rq, kq⟩ := hM1.q
    have hX : isX H a (fW (S.2 p)) (wQry (S.2 p)).length := ⟨hM1, h10, by omega, fun j hj2 => by
      obtain ⟨c, hc⟩ : ∃ c, (wQry (S.2 p))[j]? = some c := ⟨_, List.getElem?_eq_getElem hj2⟩
      have bc := byt_qry ho.1 c (List.mem_of_getElem? hc)
      rw [hj j c (by omega) hc]
      unfold fW
      rw [List.getD_eq_getElem?_getD, hc]
      simp only [Option.getD_some]
      omega, fW_lt ho.1⟩
    obtain ⟨f1, f2⟩ := flt_wQ ho.1 (by have := List.length_pos_iff.mpr hq; omega) (f := fW (S.2 p)) (fun k _ => rfl)
    have KR := m_readAll (γ := γ) hX
    unfold vQ at KR
    rw [if_pos f1] at KR
    refine aw_iload_n dX12_take_15 rfl ?_
    refine aw_aload_n dX12_take_16 rfl ?_
    refine aw_geti' (j := 10) dX12_take_17 fX12_134 rfl (by assumption) rfl h10 ?_
    refine aw_ic_ge (tgt := 50) dX12_take_20 rfl (by omega) (by omega) (fun c20 => ?_) (fun c20 => ?_)
    · refine aw_aload_n dX12_take_50 rfl ?_
      refine aw_aload_n dX12_take_51 rfl ?_
      refine aw_invV_e dX12_take_52 vX12_readAll kX12_207 rfl (KR) ⟨_, (by assumption), _, _, rfl⟩ rfl rfl (by decide) (by decide) (by decide) (Nat.le_of_ble_eq_true rfl) (fun h1 hP9 => ?_)
      obtain ⟨E1, Y1, N1⟩ := hP9
      obtain ⟨G1, -, -, -⟩ := Y1 f1
      rw [f2] at G1
      have hka1 := (E1.1 a).trans hka
      refine aw_if_eq (tgt := 62) dX12_take_55 rfl (by omega) (fun c55 => ?_) (fun c55 => ?_)
      · exact absurd c55 (by omega)
      · refine aw_iconst dX12_take_58 ?_
        refine aw_goto (tgt := 66) dX12_take_59 rfl ?_
        refine aw_puti' (j := 11) rfl dX12_take_66 fX12_131 (by assumption) rfl ?_
        exact aw_return dX12_take_69 rfl (Or.inl rfl) ⟨rfl, (hE.tr (E1.mono (fun b j z => by unfold SR at z; unfold ST9; omega))).tr (eqG.si (by unfold ST9; omega)), by rw [gi_a7]; exact G1⟩
    · exact absurd c20 (by omega)
  | succ m ih =>
    intro k H hkm hE h10 hj
    have hM1 := hE.sh hm.1
    obtain ⟨hka, rq, kq⟩ := hM1.q
    obtain ⟨rm, km⟩ := hM1.m
    obtain ⟨rs, ks⟩ := hM1.s
    obtain ⟨c, hc⟩ : ∃ c, (wQry (S.2 p))[k]? = some c := ⟨_, List.getElem?_eq_getElem (by omega)⟩
    have gc : gi H (a + 1) (125 + 400 * (p : Int) + (k : Int)) = c := by
      rw [hE.2.2.2.2 _ _ (by unfold ST9; omega)]
      have := g3.2 k c hc
      rw [show (0 : Int) + 125 + 400 * (p : Int) + (k : Int) = 125 + 400 * (p : Int) + (k : Int) by omega] at this
      exact this
    have I := ih (k + 1) (si H (a + 6) (k : Int) c) (by omega) (hE.tr (eqG.si (by unfold ST9; omega))) ((gi_ne (Or.inl (by omega))).trans h10) (fun j d hj2 hd => by
      by_cases z : j = k
      · subst z
        rw [hc] at hd
        cases hd
        exact gi_at rfl rfl
      · exact (gi_ne (Or.inr (by omega))).trans (hj j d (by omega) hd))
    refine aw_iload_n dX12_take_15 rfl ?_
    refine aw_aload_n dX12_take_16 rfl ?_
    refine aw_geti' (j := 10) dX12_take_17 fX12_134 rfl (by assumption) rfl h10 ?_
    refine aw_ic_ge (tgt := 50) dX12_take_20 rfl (by omega) (by omega) (fun c20 => ?_) (fun c20 => ?_)
    · exact absurd c20 (by omega)
    · refine aw_aload_n dX12_take_23 rfl ?_
      refine aw_getr' (j := 9) dX12_take_24 fX12_25 rfl (by assumption) rfl (by assumption) ?_
      refine aw_iload_n dX12_take_27 rfl ?_
      refine aw_aload_n dX12_take_28 rfl ?_
      refine aw_getr' (j := 0) dX12_take_29 fX12_7 rfl (by assumption) rfl (by assumption) ?_
      refine aw_bipush dX12_take_32 rfl ?_
      refine aw_sipush dX12_take_34 rfl ?_
      refine aw_iload_n dX12_take_37 rfl ?_
      refine aw_imul dX12_take_38 ?_
      refine aw_iadd dX12_take_39 ?_
      refine aw_iload_n dX12_take_40 rfl ?_
      refine aw_iadd dX12_take_41 ?_
      refine aw_iald' dX12_take_42 (by assumption) (by omega) (by first | decide | omega) gc ?_
      refine aw_iast dX12_take_43 (by assumption) (by omega) (by first | decide | omega) ?_
      refine aw_iinc (k9 := 0) (ls1 := [(2, _), (0, _), (1, _)]) dX12_take_44 rfl (by decide) rfl ?_
      refine aw_goto (tgt := 15) dX12_take_47 rfl ?_
      refine aw_sub [0, 1, 2] rfl ?_
      exact I
theorem m_take9 {γ : GG} {h : AH} {a p : Nat} {S : St} {U : List St} {tx : List Nat} (hm : isMd h a S U tx) (hp : p < 4) (hq : S.2 p ≠ []) : Call γ mX12_take 10 0 0 [vr (some a), vi (p : Int)] h (rF (fun h' => eqG (ST9 a) h h' ∧ gQ (gi h' (a + 7)) (S.2 p))) := by
  obtain ⟨hka, -, -⟩ := hm.1.q
  obtain ⟨rm, km⟩ := hm.1.m
  have g0 := (hm.2.1.2 p hp).1
  rw [show (0 : Int) + 121 + (p : Int) = 121 + (p : Int) by omega] at g0
  have L := l_tk9 (γ := γ) hm hp hq (wQry (S.2 p)).length 0 (si h a 10 (wQry (S.2 p)).length) (by omega) (eqG.si (by unfold ST9; omega)) (gi_at rfl rfl) (fun j c hj => absurd hj (by omega))
  refine Call.of (ls := [(0, vr (some a)), (1, vi (p : Int))]) vX12_take.1 (Nat.le_of_ble_eq_true rfl) rfl ?_
  refine aw_aload_n dX12_take_0 rfl ?_
  refine aw_aload_n dX12_take_1 rfl ?_
  refine aw_getr' (j := 0) dX12_take_2 fX12_7 rfl (by assumption) rfl (by assumption) ?_
  refine aw_bipush dX12_take_5 rfl ?_
  refine aw_iload_n dX12_take_7 rfl ?_
  refine aw_iadd dX12_take_8 ?_
  refine aw_iald' dX12_take_9 (by assumption) (by omega) (by first | decide | omega) g0 ?_
  refine aw_puti' (j := 10) rfl dX12_take_10 fX12_134 (by assumption) rfl ?_
  refine aw_iconst dX12_take_13 ?_
  refine aw_istore_n (ls1 := [(2, _), (0, _), (1, _)]) dX12_take_14 (by decide) rfl ?_
  refine aw_sub [0, 1, 2] rfl ?_
  exact L
def selF (T : Tr) (q : TQ) (v : Nat) : Nat → Bool := seJ T q v q.length
theorem sel_40 {T : Tr} (ho : okTr T) {q : TQ} {v : Nat} (hv : v < tn T) : fb_ct (selF T q v) 40 = fb_ct (selF T q v) (tn T) := by
  refine fb_40 ho.o.2.1 (fun k hk => ?_)
  cases z : selF T q v k with
  | false => rfl
  | true => have := seJ_lt ho.o.1 hv _ k z; omega
def opCnt (F : FS) (p v : Int) : Int × Int × FS :=
  if ¬ ((0 ≤ p ∧ p ≤ 3) ∧ 0 ≤ v ∧ v < (tn F.1.1 : Int)) then (1, 0, F) else if F.1.2 p.toNat = [] then (2, 0, F) else (0, ((fb_ct (selF F.1.1 (F.1.2 p.toNat) v.toNat) 40 : Nat) : Int), F)
def opSum (F : FS) (p v : Int) : Int × Int × FS :=
  if ¬ ((0 ≤ p ∧ p ≤ 3) ∧ 0 ≤ v ∧ v < (tn F.1.1 : Int)) then (1, 0, F) else if F.1.2 p.toNat = [] then (2, 0, F) else (0, sumT F.1.1 (selF F.1.1 (F.1.2 p.toNat) v.toNat) (tn F.1.1), F)
def opSel (F : FS) (p v i : Int) : Int × Int × FS :=
  if ¬ ((0 ≤ p ∧ p ≤ 3) ∧ 0 ≤ v ∧ v < (tn F.1.1 : Int)) then (1, 0, F) else if i < 0 then (2, 0, F) else if F.1.2 p.toNat = [] then (3, 0, F) else (0, atL (fu (selF F.1.1 (F.1.2 p.toNat) v.toNat) (tn F.1.1)) i, F)
theorem fu_get {f : Nat → Bool} {k : Nat} (hf : f k = true) : ∀ n, k < n → (fu f n)[fb_ct f k]? = some k := by
  intro n
  induction n with
  | zero => intro h; omega
  | succ n ih =>
    intro h
    rw [fu_s]
    by_cases q : k = n
    · subst q
      rw [if_pos hf, List.getElem?_append_right (by rw [fu_len]; exact Nat.le_refl _), fu_len, Nat.sub_self]
      rfl
    · have := ih (by omega)
      rw [List.getElem?_append_left (lt_of_get this)]
      exact this
theorem bo_le {h : AH} {b m n : Nat} {f : Nat → Bool} (s : isBo h b f n) (hm : m ≤ n) : isBo h b f m := fun k hk => s k (by omega)
theorem m_count {γ : GG} {h : AH} {a : Nat} {F : FS} {p v : Int} (hF : isF h a F) (hp : (-2147483648 ≤ p ∧ p ≤ 2147483647)) (hv : (-2147483648 ≤ v ∧ v ≤ 2147483647)) : Call γ mX12_count 12 0 0 [vr (some a), vi p, vi v] h (rM h a (opCnt F p v)) := by
  obtain ⟨S, U, tx⟩ := F
  obtain ⟨T, qs⟩ := S
  have hm : isMd h a (T, qs) U tx := hF
  have oT : okTr T := hm.2.2.1.1
  have o9 := oT.o
  have n40 := o9.2.1
  have n1 := o9.1
  obtain ⟨hka, -, -⟩ := hm.1.q
  obtain ⟨rm, km⟩ := hm.1.m
  have g0 : gi h (a + 1) 0 = (tn T : Int) := hm.2.1.1.1
  have m5 : isMd (si h a 5 0) a (T, qs) U tx := hm.eqk (E5 (v := 0))
  have KP := m_isPlace (γ := γ) (h := h) hp
  have KN := m_isNode (γ := γ) hm.1 hv g0 (by omega)
  unfold opCnt
  dsimp only
  by_cases c1 : 0 ≤ p ∧ p ≤ 3
  · rw [if_pos c1] at KP
    by_cases c2 : 0 ≤ v ∧ v < (tn T : Int)
    · rw [if_neg (fun z => z ⟨c1, c2⟩)]
      rw [if_pos c2] at KN
      obtain ⟨u, rfl⟩ := Int.eq_ofNat_of_zero_le c1.1
      obtain ⟨x, rfl⟩ := Int.eq_ofNat_of_zero_le c2.1
      rw [Int.toNat_natCast, Int.toNat_natCast]
      have hu : u < 4 := by omega
      have hx : x < tn T := by omega
      have KH := m_has (γ := γ) hm hu
      have KH : Call γ mX12_has 0 0 0 [vr (some a), vi (u : Int)] h (rV (vi (if qs u = [] then 0 else 1)) h) := KH
      have oq : okQ (qs u) := (hm.2.2.1.2 u hu).1
      by_cases c3 : qs u = []
      · rw [if_pos c3]
        rw [if_pos c3] at KH
        refine Call.of (ls := [(0, vr (some a)), (1, vi (u : Int)), (2, vi (x : Int))]) vX12_count.1 (Nat.le_of_ble_eq_true rfl) rfl ?_
        refine aw_aload_n dX12_count_0 rfl ?_
        refine aw_iload_n dX12_count_1 rfl ?_
        refine aw_invS_r dX12_count_2 sX12_isPlace kX12_217 rfl (KP) rfl rfl (by decide) (by decide) (by decide) (Nat.le_of_ble_eq_true rfl) ?_
        refine aw_if_eq (tgt := 16) dX12_count_5 rfl (by omega) (fun c5 => ?_) (fun c5 => ?_)
        · exact absurd c5 (by omega)
        · refine aw_aload_n dX12_count_8 rfl ?_
          refine aw_iload_n dX12_count_9 rfl ?_
          refine aw_invV_r dX12_count_10 vX12_isNode kX12_77 rfl (KN) ⟨_, (by assumption), _, _, rfl⟩ rfl rfl (by decide) (by decide) (by decide) (Nat.le_of_ble_eq_true rfl) ?_
          refine aw_if_ne (tgt := 20) dX12_count_13 rfl (by omega) (fun c13 => ?_) (fun c13 => ?_)
          · refine aw_aload_n dX12_count_20 rfl ?_
            refine aw_iload_n dX12_count_21 rfl ?_
            refine aw_invV_r dX12_count_22 vX12_has kX12_223 rfl (KH) ⟨_, (by assumption), _, _, rfl⟩ rfl rfl (by decide) (by decide) (by decide) (Nat.le_of_ble_eq_true rfl) ?_
            refine aw_if_eq (tgt := 32) dX12_count_25 rfl (by omega) (fun c25 => ?_) (fun c25 => ?_)
            · refine aw_iconst dX12_count_32 ?_
              refine aw_puti' (j := 5) rfl dX12_count_33 fX12_62 (by assumption) rfl ?_
              refine aw_aload_n dX12_count_36 rfl ?_
              refine aw_geti' (j := 5) dX12_count_37 fX12_62 rfl (by assumption) rfl (gi_at rfl rfl) ?_
              refine aw_if_eq (tgt := 45) dX12_count_40 rfl (by omega) (fun c40 => ?_) (fun c40 => ?_)
              · exact absurd c40 (by omega)
              · refine aw_iconst dX12_count_43 ?_
                exact aw_ireturn dX12_count_44 rfl (Or.inl rfl) ⟨rfl, rM_err hF 2⟩
            · exact absurd c25 (by omega)
          · exact absurd c13 (by omega)
      · rw [if_neg c3]
        rw [if_neg c3] at KH
        have KT := m_take9 (γ := γ) m5 hu c3
        refine Call.of (ls := [(0, vr (some a)), (1, vi (u : Int)), (2, vi (x : Int))]) vX12_count.1 (Nat.le_of_ble_eq_true rfl) rfl ?_
        refine aw_aload_n dX12_count_0 rfl ?_
        refine aw_iload_n dX12_count_1 rfl ?_
        refine aw_invS_r dX12_count_2 sX12_isPlace kX12_217 rfl (KP) rfl rfl (by decide) (by decide) (by decide) (Nat.le_of_ble_eq_true rfl) ?_
        refine aw_if_eq (tgt := 16) dX12_count_5 rfl (by omega) (fun c5 => ?_) (fun c5 => ?_)
        · exact absurd c5 (by omega)
        · refine aw_aload_n dX12_count_8 rfl ?_
          refine aw_iload_n dX12_count_9 rfl ?_
          refine aw_invV_r dX12_count_10 vX12_isNode kX12_77 rfl (KN) ⟨_, (by assumption), _, _, rfl⟩ rfl rfl (by decide) (by decide) (by decide) (Nat.le_of_ble_eq_true rfl) ?_
          refine aw_if_ne (tgt := 20) dX12_count_13 rfl (by omega) (fun c13 => ?_) (fun c13 => ?_)
          · refine aw_aload_n dX12_count_20 rfl ?_
            refine aw_iload_n dX12_count_21 rfl ?_
            refine aw_invV_r dX12_count_22 vX12_has kX12_223 rfl (KH) ⟨_, (by assumption), _, _, rfl⟩ rfl rfl (by decide) (by decide) (by decide) (Nat.le_of_ble_eq_true rfl) ?_
            refine aw_if_eq (tgt := 32) dX12_count_25 rfl (by omega) (fun c25 => ?_) (fun c25 => ?_)
            · exact absurd c25 (by omega)
            · refine aw_iconst dX12_count_28 ?_
              refine aw_goto (tgt := 33) dX12_count_29 rfl ?_
              refine aw_puti' (j := 5) rfl dX12_count_33 fX12_62 (by assumption) rfl ?_
              refine aw_aload_n dX12_count_36 rfl ?_
              refine aw_geti' (j := 5) dX12_count_37 fX12_62 rfl (by assumption) rfl (gi_at rfl rfl) ?_
              refine aw_if_eq (tgt := 45) dX12_count_40 rfl (by omega) (fun c40 => ?_) (fun c40 => ?_)
              · refine aw_aload_n dX12_count_45 rfl ?_
                refine aw_iload_n dX12_count_46 rfl ?_
                refine aw_invV_f dX12_count_47 vX12_take kX12_235 rfl (KT) ⟨_, (by assumption), _, _, rfl⟩ rfl rfl (by decide) (by decide) (by decide) (Nat.le_of_ble_eq_true rfl) (fun H1 hP9 => ?_)
                obtain ⟨E1, G1⟩ := hP9
                have m1 : isMd H1 a (T, qs) U tx := m5.eqk (E1.mono ST9_k)
                have hka1 := m1.1.1
                have KS := m_select (γ := γ) (T := T) (q := qs u) m1.1 m1.2.1.1 oT hx oq G1
                refine aw_aload_n dX12_count_50 rfl ?_
                refine aw_iload_n dX12_count_51 rfl ?_
                refine aw_invV_f dX12_count_52 vX12_select kX12_266 rfl (KS) ⟨_, (by assumption), _, _, rfl⟩ rfl rfl (by decide) (by decide) (by decide) (Nat.le_of_ble_eq_true rfl) (fun H2 hP9 => ?_)
                obtain ⟨B2, E2⟩ := hP9
                have m2 : isMd H2 a (T, qs) U tx := m1.eqk (E2.mono SSe_k)
                have hka2 := m2.1.1
                have KC := m_selectedCount (γ := γ) (T := T) (f := selF T (qs u) x) m2.1 m2.2.1.1 oT (bo_le B2 n40)
                rw [← sel_40 oT hx] at KC
                refine aw_aload_n dX12_count_55 rfl ?_
                refine aw_invV_r dX12_count_56 vX12_selectedCount kX12_269 rfl (KC) ⟨_, (by assumption), _, _, rfl⟩ rfl rfl (by decide) (by decide) (by decide) (Nat.le_of_ble_eq_true rfl) ?_
                exact aw_ireturn dX12_count_59 rfl (Or.inl rfl) ⟨rfl, rM_ok hF ((E1.mono ST9_k).tr (E2.mono SSe_k)) ((E2.2.2.2.2 _ _ (by unfold SSe SPt SGv SXt SI; omega)).trans ((E1.2.2.2.2 _ _ (by unfold ST9; omega)).trans (gi_at rfl rfl)))⟩
              · exact absurd c40 (by omega)
          · exact absurd c13 (by omega)
    · rw [if_pos (fun z => c2 z.2)]
      rw [if_neg c2] at KN
      refine Call.of (ls := [(0, vr (some a)), (1, vi p), (2, vi v)]) vX12_count.1 (Nat.le_of_ble_eq_true rfl) rfl ?_
      refine aw_aload_n dX12_count_0 rfl ?_
      refine aw_iload_n dX12_count_1 rfl ?_
      refine aw_invS_r dX12_count_2 sX12_isPlace kX12_217 rfl (KP) rfl rfl (by decide) (by decide) (by decide) (Nat.le_of_ble_eq_true rfl) ?_
      refine aw_if_eq (tgt := 16) dX12_count_5 rfl (by omega) (fun c5 => ?_) (fun c5 => ?_)
      · exact absurd c5 (by omega)
      · refine aw_aload_n dX12_count_8 rfl ?_
        refine aw_iload_n dX12_count_9 rfl ?_
        refine aw_invV_r dX12_count_10 vX12_isNode kX12_77 rfl (KN) ⟨_, (by assumption), _, _, rfl⟩ rfl rfl (by decide) (by decide) (by decide) (Nat.le_of_ble_eq_true rfl) ?_
        refine aw_if_ne (tgt := 20) dX12_count_13 rfl (by omega) (fun c13 => ?_) (fun c13 => ?_)
        · exact absurd c13 (by omega)
        · refine aw_iconst dX12_count_16 ?_
          refine aw_goto (tgt := 33) dX12_count_17 rfl ?_
          refine aw_puti' (j := 5) rfl dX12_count_33 fX12_62 (by assumption) rfl ?_
          refine aw_aload_n dX12_count_36 rfl ?_
          refine aw_geti' (j := 5) dX12_count_37 fX12_62 rfl (by assumption) rfl (gi_at rfl rfl) ?_
          refine aw_if_eq (tgt := 45) dX12_count_40 rfl (by omega) (fun c40 => ?_) (fun c40 => ?_)
          · exact absurd c40 (by omega)
          · refine aw_iconst dX12_count_43 ?_
            exact aw_ireturn dX12_count_44 rfl (Or.inl rfl) ⟨rfl, rM_err hF 1⟩
  · rw [if_pos (fun z => c1 z.1)]
    rw [if_neg c1] at KP
    refine Call.of (ls := [(0, vr (some a)), (1, vi p), (2, vi v)]) vX12_count.1 (Nat.le_of_ble_eq_true rfl) rfl ?_
    refine aw_aload_n dX12_count_0 rfl ?_
    refine aw_iload_n dX12_count_1 rfl ?_
    refine aw_invS_r dX12_count_2 sX12_isPlace kX12_217 rfl (KP) rfl rfl (by decide) (by decide) (by decide) (Nat.le_of_ble_eq_true rfl) ?_
    refine aw_if_eq (tgt := 16) dX12_count_5 rfl (by omega) (fun c5 => ?_) (fun c5 => ?_)
    · refine aw_iconst dX12_count_16 ?_
      refine aw_goto (tgt := 33) dX12_count_17 rfl ?_
      refine aw_puti' (j := 5) rfl dX12_count_33 fX12_62 (by assumption) rfl ?_
      refine aw_aload_n dX12_count_36 rfl ?_
      refine aw_geti' (j := 5) dX12_count_37 fX12_62 rfl (by assumption) rfl (gi_at rfl rfl) ?_
      refine aw_if_eq (tgt := 45) dX12_count_40 rfl (by omega) (fun c40 => ?_) (fun c40 => ?_)
      · exact absurd c40 (by omega)
      · refine aw_iconst dX12_count_43 ?_
        exact aw_ireturn dX12_count_44 rfl (Or.inl rfl) ⟨rfl, rM_err hF 1⟩
    · exact absurd c5 (by omega)
theorem m_sum {γ : GG} {h : AH} {a : Nat} {F : FS} {p v : Int} (hF : isF h a F) (hp : (-2147483648 ≤ p ∧ p ≤ 2147483647)) (hv : (-2147483648 ≤ v ∧ v ≤ 2147483647)) : Call γ mX12_sum 12 0 0 [vr (some a), vi p, vi v] h (rM h a (opSum F p v)) := by
  obtain ⟨S, U, tx⟩ := F
  obtain ⟨T, qs⟩ := S
  have hm : isMd h a (T, qs) U tx := hF
  have oT : okTr T := hm.2.2.1.1
  have o9 := oT.o
  have n40 := o9.2.1
  have n1 := o9.1
  obtain ⟨hka, -, -⟩ := hm.1.q
  obtain ⟨rm, km⟩ := hm.1.m
  have g0 : gi h (a + 1) 0 = (tn T : Int) := hm.2.1.1.1
  have m5 : isMd (si h a 5 0) a (T, qs) U tx := hm.eqk (E5 (v := 0))
  have KP := m_isPlace (γ := γ) (h := h) hp
  have KN := m_isNode (γ := γ) hm.1 hv g0 (by omega)
  unfold opSum
  dsimp only
  by_cases c1 : 0 ≤ p ∧ p ≤ 3
  · rw [if_pos c1] at KP
    by_cases c2 : 0 ≤ v ∧ v < (tn T : Int)
    · rw [if_neg (fun z => z ⟨c1, c2⟩)]
      rw [if_pos c2] at KN
      obtain ⟨u, rfl⟩ := Int.eq_ofNat_of_zero_le c1.1
      obtain ⟨x, rfl⟩ := Int.eq_ofNat_of_zero_le c2.1
      rw [Int.toNat_natCast, Int.toNat_natCast]
      have hu : u < 4 := by omega
      have hx : x < tn T := by omega
      have KH := m_has (γ := γ) hm hu
      have KH : Call γ mX12_has 0 0 0 [vr (some a), vi (u : Int)] h (rV (vi (if qs u = [] then 0 else 1)) h) := KH
      have oq : okQ (qs u) := (hm.2.2.1.2 u hu).1
      by_cases c3 : qs u = []
      · rw [if_pos c3]
        rw [if_pos c3] at KH
        refine Call.of (ls := [(0, vr (some a)), (1, vi (u : Int)), (2, vi (x : Int))]) vX12_sum.1 (Nat.le_of_ble_eq_true rfl) rfl ?_
        refine aw_aload_n dX12_sum_0 rfl ?_
        refine aw_iload_n dX12_sum_1 rfl ?_
        refine aw_invS_r dX12_sum_2 sX12_isPlace kX12_217 rfl (KP) rfl rfl (by decide) (by decide) (by decide) (Nat.le_of_ble_eq_true rfl) ?_
        refine aw_if_eq (tgt := 16) dX12_sum_5 rfl (by omega) (fun c5 => ?_) (fun c5 => ?_)
        · exact absurd c5 (by omega)
        · refine aw_aload_n dX12_sum_8 rfl ?_
          refine aw_iload_n dX12_sum_9 rfl ?_
          refine aw_invV_r dX12_sum_10 vX12_isNode kX12_77 rfl (KN) ⟨_, (by assumption), _, _, rfl⟩ rfl rfl (by decide) (by decide) (by decide) (Nat.le_of_ble_eq_true rfl) ?_
          refine aw_if_ne (tgt := 20) dX12_sum_13 rfl (by omega) (fun c13 => ?_) (fun c13 => ?_)
          · refine aw_aload_n dX12_sum_20 rfl ?_
            refine aw_iload_n dX12_sum_21 rfl ?_
            refine aw_invV_r dX12_sum_22 vX12_has kX12_223 rfl (KH) ⟨_, (by assumption), _, _, rfl⟩ rfl rfl (by decide) (by decide) (by decide) (Nat.le_of_ble_eq_true rfl) ?_
            refine aw_if_eq (tgt := 32) dX12_sum_25 rfl (by omega) (fun c25 => ?_) (fun c25 => ?_)
            · refine aw_iconst dX12_sum_32 ?_
              refine aw_puti' (j := 5) rfl dX12_sum_33 fX12_62 (by assumption) rfl ?_
              refine aw_aload_n dX12_sum_36 rfl ?_
              refine aw_geti' (j := 5) dX12_sum_37 fX12_62 rfl (by assumption) rfl (gi_at rfl rfl) ?_
              refine aw_if_eq (tgt := 45) dX12_sum_40 rfl (by omega) (fun c40 => ?_) (fun c40 => ?_)
              · exact absurd c40 (by omega)
              · refine aw_iconst dX12_sum_43 ?_
                exact aw_ireturn dX12_sum_44 rfl (Or.inl rfl) ⟨rfl, rM_err hF 2⟩
            · exact absurd c25 (by omega)
          · exact absurd c13 (by omega)
      · rw [if_neg c3]
        rw [if_neg c3] at KH
        have KT := m_take9 (γ := γ) m5 hu c3
        refine Call.of (ls := [(0, vr (some a)), (1, vi (u : Int)), (2, vi (x : Int))]) vX12_sum.1 (Nat.le_of_ble_eq_true rfl) rfl ?_
        refine aw_aload_n dX12_sum_0 rfl ?_
        refine aw_iload_n dX12_sum_1 rfl ?_
        refine aw_invS_r dX12_sum_2 sX12_isPlace kX12_217 rfl (KP) rfl rfl (by decide) (by decide) (by decide) (Nat.le_of_ble_eq_true rfl) ?_
        refine aw_if_eq (tgt := 16) dX12_sum_5 rfl (by omega) (fun c5 => ?_) (fun c5 => ?_)
        · exact absurd c5 (by omega)
        · refine aw_aload_n dX12_sum_8 rfl ?_
          refine aw_iload_n dX12_sum_9 rfl ?_
          refine aw_invV_r dX12_sum_10 vX12_isNode kX12_77 rfl (KN) ⟨_, (by assumption), _, _, rfl⟩ rfl rfl (by decide) (by decide) (by decide) (Nat.le_of_ble_eq_true rfl) ?_
          refine aw_if_ne (tgt := 20) dX12_sum_13 rfl (by omega) (fun c13 => ?_) (fun c13 => ?_)
          · refine aw_aload_n dX12_sum_20 rfl ?_
            refine aw_iload_n dX12_sum_21 rfl ?_
            refine aw_invV_r dX12_sum_22 vX12_has kX12_223 rfl (KH) ⟨_, (by assumption), _, _, rfl⟩ rfl rfl (by decide) (by decide) (by decide) (Nat.le_of_ble_eq_true rfl) ?_
            refine aw_if_eq (tgt := 32) dX12_sum_25 rfl (by omega) (fun c25 => ?_) (fun c25 => ?_)
            · exact absurd c25 (by omega)
            · refine aw_iconst dX12_sum_28 ?_
              refine aw_goto (tgt := 33) dX12_sum_29 rfl ?_
              refine aw_puti' (j := 5) rfl dX12_sum_33 fX12_62 (by assumption) rfl ?_
              refine aw_aload_n dX12_sum_36 rfl ?_
              refine aw_geti' (j := 5) dX12_sum_37 fX12_62 rfl (by assumption) rfl (gi_at rfl rfl) ?_
              refine aw_if_eq (tgt := 45) dX12_sum_40 rfl (by omega) (fun c40 => ?_) (fun c40 => ?_)
              · refine aw_aload_n dX12_sum_45 rfl ?_
                refine aw_iload_n dX12_sum_46 rfl ?_
                refine aw_invV_f dX12_sum_47 vX12_take kX12_235 rfl (KT) ⟨_, (by assumption), _, _, rfl⟩ rfl rfl (by decide) (by decide) (by decide) (Nat.le_of_ble_eq_true rfl) (fun H1 hP9 => ?_)
                obtain ⟨E1, G1⟩ := hP9
                have m1 : isMd H1 a (T, qs) U tx := m5.eqk (E1.mono ST9_k)
                have hka1 := m1.1.1
                have KS := m_select (γ := γ) (T := T) (q := qs u) m1.1 m1.2.1.1 oT hx oq G1
                refine aw_aload_n dX12_sum_50 rfl ?_
                refine aw_iload_n dX12_sum_51 rfl ?_
                refine aw_invV_f dX12_sum_52 vX12_select kX12_266 rfl (KS) ⟨_, (by assumption), _, _, rfl⟩ rfl rfl (by decide) (by decide) (by decide) (Nat.le_of_ble_eq_true rfl) (fun H2 hP9 => ?_)
                obtain ⟨B2, E2⟩ := hP9
                have m2 : isMd H2 a (T, qs) U tx := m1.eqk (E2.mono SSe_k)
                have hka2 := m2.1.1
                have KC := m_selectedSum (γ := γ) (T := T) (f := selF T (qs u) x) m2.1 m2.2.1.1 oT (bo_le B2 n40)
                refine aw_aload_n dX12_sum_55 rfl ?_
                refine aw_invV_r dX12_sum_56 vX12_selectedSum kX12_272 rfl (KC) ⟨_, (by assumption), _, _, rfl⟩ rfl rfl (by decide) (by decide) (by decide) (Nat.le_of_ble_eq_true rfl) ?_
                exact aw_ireturn dX12_sum_59 rfl (Or.inl rfl) ⟨rfl, rM_ok hF ((E1.mono ST9_k).tr (E2.mono SSe_k)) ((E2.2.2.2.2 _ _ (by unfold SSe SPt SGv SXt SI; omega)).trans ((E1.2.2.2.2 _ _ (by unfold ST9; omega)).trans (gi_at rfl rfl)))⟩
              · exact absurd c40 (by omega)
          · exact absurd c13 (by omega)
    · rw [if_pos (fun z => c2 z.2)]
      rw [if_neg c2] at KN
      refine Call.of (ls := [(0, vr (some a)), (1, vi p), (2, vi v)]) vX12_sum.1 (Nat.le_of_ble_eq_true rfl) rfl ?_
      refine aw_aload_n dX12_sum_0 rfl ?_
      refine aw_iload_n dX12_sum_1 rfl ?_
      refine aw_invS_r dX12_sum_2 sX12_isPlace kX12_217 rfl (KP) rfl rfl (by decide) (by decide) (by decide) (Nat.le_of_ble_eq_true rfl) ?_
      refine aw_if_eq (tgt := 16) dX12_sum_5 rfl (by omega) (fun c5 => ?_) (fun c5 => ?_)
      · exact absurd c5 (by omega)
      · refine aw_aload_n dX12_sum_8 rfl ?_
        refine aw_iload_n dX12_sum_9 rfl ?_
        refine aw_invV_r dX12_sum_10 vX12_isNode kX12_77 rfl (KN) ⟨_, (by assumption), _, _, rfl⟩ rfl rfl (by decide) (by decide) (by decide) (Nat.le_of_ble_eq_true rfl) ?_
        refine aw_if_ne (tgt := 20) dX12_sum_13 rfl (by omega) (fun c13 => ?_) (fun c13 => ?_)
        · exact absurd c13 (by omega)
        · refine aw_iconst dX12_sum_16 ?_
          refine aw_goto (tgt := 33) dX12_sum_17 rfl ?_
          refine aw_puti' (j := 5) rfl dX12_sum_33 fX12_62 (by assumption) rfl ?_
          refine aw_aload_n dX12_sum_36 rfl ?_
          refine aw_geti' (j := 5) dX12_sum_37 fX12_62 rfl (by assumption) rfl (gi_at rfl rfl) ?_
          refine aw_if_eq (tgt := 45) dX12_sum_40 rfl (by omega) (fun c40 => ?_) (fun c40 => ?_)
          · exact absurd c40 (by omega)
          · refine aw_iconst dX12_sum_43 ?_
            exact aw_ireturn dX12_sum_44 rfl (Or.inl rfl) ⟨rfl, rM_err hF 1⟩
  · rw [if_pos (fun z => c1 z.1)]
    rw [if_neg c1] at KP
    refine Call.of (ls := [(0, vr (some a)), (1, vi p), (2, vi v)]) vX12_sum.1 (Nat.le_of_ble_eq_true rfl) rfl ?_
    refine aw_aload_n dX12_sum_0 rfl ?_
    refine aw_iload_n dX12_sum_1 rfl ?_
    refine aw_invS_r dX12_sum_2 sX12_isPlace kX12_217 rfl (KP) rfl rfl (by decide) (by decide) (by decide) (Nat.le_of_ble_eq_true rfl) ?_
    refine aw_if_eq (tgt := 16) dX12_sum_5 rfl (by omega) (fun c5 => ?_) (fun c5 => ?_)
    · refine aw_iconst dX12_sum_16 ?_
      refine aw_goto (tgt := 33) dX12_sum_17 rfl ?_
      refine aw_puti' (j := 5) rfl dX12_sum_33 fX12_62 (by assumption) rfl ?_
      refine aw_aload_n dX12_sum_36 rfl ?_
      refine aw_geti' (j := 5) dX12_sum_37 fX12_62 rfl (by assumption) rfl (gi_at rfl rfl) ?_
      refine aw_if_eq (tgt := 45) dX12_sum_40 rfl (by omega) (fun c40 => ?_) (fun c40 => ?_)
      · exact absurd c40 (by omega)
      · refine aw_iconst dX12_sum_43 ?_
        exact aw_ireturn dX12_sum_44 rfl (Or.inl rfl) ⟨rfl, rM_err hF 1⟩
    · exact absurd c5 (by omega)
theorem l_sel9 {γ : GG} {h : AH} {a i : Nat} {T : Tr} {f : Nat → Bool} {Q : AR → AH → Prop} (hM : shM h a) (hT : gTr (gi h (a + 1)) 0 T) (ho : okTr T) (hB : isBo h (a + 15) f (tn T)) (hi : i ≤ 2147483647) (kk : Q (.inl (some (vi (atL (fu f (tn T)) (i : Int))))) h) : ∀ (m k : Nat), k + m = tn T → fb_ct f k ≤ i → AW γ mX12_selected 12 0 0 69 [(5, vi (k : Int)), (4, vi ((i : Int) - (fb_ct f k : Nat))), (0, vr (some a))] [] h Q := by
  have n40 := ho.o.2.1
  have bT : bI true = 1 := rfl
  have bF : bI false = 0 := rfl
  obtain ⟨hka, rq, kq⟩ := hM.q
  obtain ⟨rm, km⟩ := hM.m
  obtain ⟨ri9, ki9⟩ := hM.i9
  have g0 : gi h (a + 1) 0 = (tn T : Int) := hT.1
  intro m
  induction m with
  | zero =>
    intro k hk hc
    obtain rfl : k = tn T := by omega
    have e : atL (fu f (tn T)) (i : Int) = -1 := by
      unfold atL
      rw [Int.toNat_natCast, List.getElem?_eq_none (by rw [fu_len]; exact hc)]
    rw [e] at kk
    refine aw_iload dX12_selected_69 rfl ?_
    refine aw_aload_n dX12_selected_71 rfl ?_
    refine aw_getr' (j := 0) dX12_selected_72 fX12_7 rfl (by assumption) rfl (by assumption) ?_
    refine aw_iconst dX12_selected_75 ?_
    refine aw_iald' dX12_selected_76 (by assumption) (by omega) (by first | decide | omega) g0 ?_
    refine aw_ic_ge (tgt := 124) dX12_selected_77 rfl (by omega) (by omega) (fun c77 => ?_) (fun c77 => ?_)
    · refine aw_iconst dX12_selected_124 ?_
      exact aw_ireturn dX12_selected_125 rfl (Or.inl rfl) kk
    · exact absurd c77 (by omega)
  | succ m ih =>
    intro k hk hc
    have gb := hB k (by omega)
    have kct := fb_ct_le f k
    have I := ih (k + 1) (by omega)
    rw [fb_ct_succ] at I
    cases q : f k with
    | true =>
      rw [q] at gb I
      by_cases z : i = fb_ct f k
      · have e : atL (fu f (tn T)) (i : Int) = (k : Int) := by
          unfold atL
          rw [Int.toNat_natCast, z, fu_get q (tn T) (by omega)]
        rw [e] at kk
        refine aw_iload dX12_selected_69 rfl ?_
        refine aw_aload_n dX12_selected_71 rfl ?_
        refine aw_getr' (j := 0) dX12_selected_72 fX12_7 rfl (by assumption) rfl (by assumption) ?_
        refine aw_iconst dX12_selected_75 ?_
        refine aw_iald' dX12_selected_76 (by assumption) (by omega) (by first | decide | omega) g0 ?_
        refine aw_ic_ge (tgt := 124) dX12_selected_77 rfl (by omega) (by omega) (fun c77 => ?_) (fun c77 => ?_)
        · exact absurd c77 (by omega)
        · refine aw_aload_n dX12_selected_80 rfl ?_
          refine aw_getr' (j := 22) dX12_selected_81 fX12_53 rfl (by assumption) rfl (by assumption) ?_
          refine aw_iload dX12_selected_84 rfl ?_
          refine aw_zald' dX12_selected_86 (by assumption) (by omega) (by first | decide | omega) gb ?_
          refine aw_if_eq (tgt := 98) dX12_selected_87 rfl (by omega) (fun c87 => ?_) (fun c87 => ?_)
          · exact absurd c87 (by omega)
          · refine aw_iload dX12_selected_90 rfl ?_
            refine aw_if_ne (tgt := 98) dX12_selected_92 rfl (by omega) (fun c92 => ?_) (fun c92 => ?_)
            · exact absurd c92 (by omega)
            · refine aw_iload dX12_selected_95 rfl ?_
              exact aw_ireturn dX12_selected_97 rfl (Or.inl rfl) kk
      · have I := I (by rw [if_pos rfl]; omega)
        rw [if_pos rfl] at I
        refine aw_iload dX12_selected_69 rfl ?_
        refine aw_aload_n dX12_selected_71 rfl ?_
        refine aw_getr' (j := 0) dX12_selected_72 fX12_7 rfl (by assumption) rfl (by assumption) ?_
        refine aw_iconst dX12_selected_75 ?_
        refine aw_iald' dX12_selected_76 (by assumption) (by omega) (by first | decide | omega) g0 ?_
        refine aw_ic_ge (tgt := 124) dX12_selected_77 rfl (by omega) (by omega) (fun c77 => ?_) (fun c77 => ?_)
        · exact absurd c77 (by omega)
        · refine aw_aload_n dX12_selected_80 rfl ?_
          refine aw_getr' (j := 22) dX12_selected_81 fX12_53 rfl (by assumption) rfl (by assumption) ?_
          refine aw_iload dX12_selected_84 rfl ?_
          refine aw_zald' dX12_selected_86 (by assumption) (by omega) (by first | decide | omega) gb ?_
          refine aw_if_eq (tgt := 98) dX12_selected_87 rfl (by omega) (fun c87 => ?_) (fun c87 => ?_)
          · exact absurd c87 (by omega)
          · refine aw_iload dX12_selected_90 rfl ?_
            refine aw_if_ne (tgt := 98) dX12_selected_92 rfl (by omega) (fun c92 => ?_) (fun c92 => ?_)
            · refine aw_iload dX12_selected_98 rfl ?_
              refine aw_aload_n dX12_selected_100 rfl ?_
              refine aw_getr' (j := 22) dX12_selected_101 fX12_53 rfl (by assumption) rfl (by assumption) ?_
              refine aw_iload dX12_selected_104 rfl ?_
              refine aw_zald' dX12_selected_106 (by assumption) (by omega) (by first | decide | omega) gb ?_
              refine aw_if_eq (tgt := 114) dX12_selected_107 rfl (by omega) (fun c107 => ?_) (fun c107 => ?_)
              · exact absurd c107 (by omega)
              · refine aw_iconst dX12_selected_110 ?_
                refine aw_goto (tgt := 115) dX12_selected_111 rfl ?_
                refine aw_isub dX12_selected_115 ?_
                rw [show (i : Int) - (fb_ct f k : Nat) - 1 = (i : Int) - ((fb_ct f k + 1 : Nat) : Int) by omega]
                refine aw_istore (ls1 := [(4, _), (5, _), (0, _)]) dX12_selected_116 (by decide) rfl ?_
                refine aw_iinc (k9 := 1) (ls1 := [(5, _), (4, _), (0, _)]) dX12_selected_118 rfl (by decide) rfl ?_
                refine aw_goto (tgt := 69) dX12_selected_121 rfl ?_
                refine aw_sub [0, 1, 2] rfl ?_
                exact I
            · exact absurd c92 (by omega)
    | false =>
      rw [q] at gb I
      have I := I (by rw [if_neg (by decide)]; omega)
      rw [if_neg (by decide), Nat.add_zero] at I
      refine aw_iload dX12_selected_69 rfl ?_
      refine aw_aload_n dX12_selected_71 rfl ?_
      refine aw_getr' (j := 0) dX12_selected_72 fX12_7 rfl (by assumption) rfl (by assumption) ?_
      refine aw_iconst dX12_selected_75 ?_
      refine aw_iald' dX12_selected_76 (by assumption) (by omega) (by first | decide | omega) g0 ?_
      refine aw_ic_ge (tgt := 124) dX12_selected_77 rfl (by omega) (by omega) (fun c77 => ?_) (fun c77 => ?_)
      · exact absurd c77 (by omega)
      · refine aw_aload_n dX12_selected_80 rfl ?_
        refine aw_getr' (j := 22) dX12_selected_81 fX12_53 rfl (by assumption) rfl (by assumption) ?_
        refine aw_iload dX12_selected_84 rfl ?_
        refine aw_zald' dX12_selected_86 (by assumption) (by omega) (by first | decide | omega) gb ?_
        refine aw_if_eq (tgt := 98) dX12_selected_87 rfl (by omega) (fun c87 => ?_) (fun c87 => ?_)
        · refine aw_iload dX12_selected_98 rfl ?_
          refine aw_aload_n dX12_selected_100 rfl ?_
          refine aw_getr' (j := 22) dX12_selected_101 fX12_53 rfl (by assumption) rfl (by assumption) ?_
          refine aw_iload dX12_selected_104 rfl ?_
          refine aw_zald' dX12_selected_106 (by assumption) (by omega) (by first | decide | omega) gb ?_
          refine aw_if_eq (tgt := 114) dX12_selected_107 rfl (by omega) (fun c107 => ?_) (fun c107 => ?_)
          · refine aw_iconst dX12_selected_114 ?_
            refine aw_isub dX12_selected_115 ?_
            rw [Int.sub_zero]
            refine aw_istore (ls1 := [(4, _), (5, _), (0, _)]) dX12_selected_116 (by decide) rfl ?_
            refine aw_iinc (k9 := 1) (ls1 := [(5, _), (4, _), (0, _)]) dX12_selected_118 rfl (by decide) rfl ?_
            refine aw_goto (tgt := 69) dX12_selected_121 rfl ?_
            refine aw_sub [0, 1, 2] rfl ?_
            exact I
          · exact absurd c107 (by omega)
        · exact absurd c87 (by omega)
theorem m_selected {γ : GG} {h : AH} {a : Nat} {F : FS} {p v i : Int} (hF : isF h a F) (hp : (-2147483648 ≤ p ∧ p ≤ 2147483647)) (hv : (-2147483648 ≤ v ∧ v ≤ 2147483647)) (hi : (-2147483648 ≤ i ∧ i ≤ 2147483647)) : Call γ mX12_selected 12 0 0 [vr (some a), vi p, vi v, vi i] h (rM h a (opSel F p v i)) := by
  obtain ⟨S, U, tx⟩ := F
  obtain ⟨T, qs⟩ := S
  have hm : isMd h a (T, qs) U tx := hF
  have oT : okTr T := hm.2.2.1.1
  have o9 := oT.o
  have n40 := o9.2.1
  have n1 := o9.1
  obtain ⟨hka, -, -⟩ := hm.1.q
  obtain ⟨rm, km⟩ := hm.1.m
  have g0 : gi h (a + 1) 0 = (tn T : Int) := hm.2.1.1.1
  have m5 : isMd (si h a 5 0) a (T, qs) U tx := hm.eqk (E5 (v := 0))
  have KP := m_isPlace (γ := γ) (h := h) hp
  have KN := m_isNode (γ := γ) hm.1 hv g0 (by omega)
  unfold opSel
  dsimp only
  by_cases c1 : 0 ≤ p ∧ p ≤ 3
  · rw [if_pos c1] at KP
    by_cases c2 : 0 ≤ v ∧ v < (tn T : Int)
    · rw [if_neg (fun z => z ⟨c1, c2⟩)]
      rw [if_pos c2] at KN
      by_cases c4 : i < 0
      · rw [if_pos c4]
        refine Call.of (ls := [(0, vr (some a)), (1, vi p), (2, vi v), (3, vi i)]) vX12_selected.1 (Nat.le_of_ble_eq_true rfl) rfl ?_
        refine aw_aload_n dX12_selected_0 rfl ?_
        refine aw_iload_n dX12_selected_1 rfl ?_
        refine aw_invS_r dX12_selected_2 sX12_isPlace kX12_217 rfl (KP) rfl rfl (by decide) (by decide) (by decide) (Nat.le_of_ble_eq_true rfl) ?_
        refine aw_if_eq (tgt := 16) dX12_selected_5 rfl (by omega) (fun c5 => ?_) (fun c5 => ?_)
        · exact absurd c5 (by omega)
        · refine aw_aload_n dX12_selected_8 rfl ?_
          refine aw_iload_n dX12_selected_9 rfl ?_
          refine aw_invV_r dX12_selected_10 vX12_isNode kX12_77 rfl (KN) ⟨_, (by assumption), _, _, rfl⟩ rfl rfl (by decide) (by decide) (by decide) (Nat.le_of_ble_eq_true rfl) ?_
          refine aw_if_ne (tgt := 20) dX12_selected_13 rfl (by omega) (fun c13 => ?_) (fun c13 => ?_)
          · refine aw_iload_n dX12_selected_20 rfl ?_
            refine aw_if_ge (tgt := 28) dX12_selected_21 rfl (by omega) (fun c21 => ?_) (fun c21 => ?_)
            · exact absurd c21 (by omega)
            · refine aw_iconst dX12_selected_24 ?_
              refine aw_goto (tgt := 41) dX12_selected_25 rfl ?_
              refine aw_puti' (j := 5) rfl dX12_selected_41 fX12_62 (by assumption) rfl ?_
              refine aw_aload_n dX12_selected_44 rfl ?_
              refine aw_geti' (j := 5) dX12_selected_45 fX12_62 rfl (by assumption) rfl (gi_at rfl rfl) ?_
              refine aw_if_eq (tgt := 53) dX12_selected_48 rfl (by omega) (fun c48 => ?_) (fun c48 => ?_)
              · exact absurd c48 (by omega)
              · refine aw_iconst dX12_selected_51 ?_
                exact aw_ireturn dX12_selected_52 rfl (Or.inl rfl) ⟨rfl, rM_err hF 2⟩
          · exact absurd c13 (by omega)
      · rw [if_neg c4]
        obtain ⟨u, rfl⟩ := Int.eq_ofNat_of_zero_le c1.1
        obtain ⟨x, rfl⟩ := Int.eq_ofNat_of_zero_le c2.1
        obtain ⟨y, rfl⟩ := Int.eq_ofNat_of_zero_le (show 0 ≤ i by omega)
        rw [Int.toNat_natCast, Int.toNat_natCast]
        have hu : u < 4 := by omega
        have hx : x < tn T := by omega
        have KH := m_has (γ := γ) hm hu
        have KH : Call γ mX12_has 0 0 0 [vr (some a), vi (u : Int)] h (rV (vi (if qs u = [] then 0 else 1)) h) := KH
        have oq : okQ (qs u) := (hm.2.2.1.2 u hu).1
        by_cases c3 : qs u = []
        · rw [if_pos c3]
          rw [if_pos c3] at KH
          refine Call.of (ls := [(0, vr (some a)), (1, vi (u : Int)), (2, vi (x : Int)), (3, vi (y : Int))]) vX12_selected.1 (Nat.le_of_ble_eq_true rfl) rfl ?_
          refine aw_aload_n dX12_selected_0 rfl ?_
          refine aw_iload_n dX12_selected_1 rfl ?_
          refine aw_invS_r dX12_selected_2 sX12_isPlace kX12_217 rfl (KP) rfl rfl (by decide) (by decide) (by decide) (Nat.le_of_ble_eq_true rfl) ?_
          refine aw_if_eq (tgt := 16) dX12_selected_5 rfl (by omega) (fun c5 => ?_) (fun c5 => ?_)
          · exact absurd c5 (by omega)
          · refine aw_aload_n dX12_selected_8 rfl ?_
            refine aw_iload_n dX12_selected_9 rfl ?_
            refine aw_invV_r dX12_selected_10 vX12_isNode kX12_77 rfl (KN) ⟨_, (by assumption), _, _, rfl⟩ rfl rfl (by decide) (by decide) (by decide) (Nat.le_of_ble_eq_true rfl) ?_
            refine aw_if_ne (tgt := 20) dX12_selected_13 rfl (by omega) (fun c13 => ?_) (fun c13 => ?_)
            · refine aw_iload_n dX12_selected_20 rfl ?_
              refine aw_if_ge (tgt := 28) dX12_selected_21 rfl (by omega) (fun c21 => ?_) (fun c21 => ?_)
              · refine aw_aload_n dX12_selected_28 rfl ?_
                refine aw_iload_n dX12_selected_29 rfl ?_
                refine aw_invV_r dX12_selected_30 vX12_has kX12_223 rfl (KH) ⟨_, (by assumption), _, _, rfl⟩ rfl rfl (by decide) (by decide) (by decide) (Nat.le_of_ble_eq_true rfl) ?_
                refine aw_if_eq (tgt := 40) dX12_selected_33 rfl (by omega) (fun c33 => ?_) (fun c33 => ?_)
                · refine aw_iconst dX12_selected_40 ?_
                  refine aw_puti' (j := 5) rfl dX12_selected_41 fX12_62 (by assumption) rfl ?_
                  refine aw_aload_n dX12_selected_44 rfl ?_
                  refine aw_geti' (j := 5) dX12_selected_45 fX12_62 rfl (by assumption) rfl (gi_at rfl rfl) ?_
                  refine aw_if_eq (tgt := 53) dX12_selected_48 rfl (by omega) (fun c48 => ?_) (fun c48 => ?_)
                  · exact absurd c48 (by omega)
                  · refine aw_iconst dX12_selected_51 ?_
                    exact aw_ireturn dX12_selected_52 rfl (Or.inl rfl) ⟨rfl, rM_err hF 3⟩
                · exact absurd c33 (by omega)
              · exact absurd c21 (by omega)
            · exact absurd c13 (by omega)
        · rw [if_neg c3]
          rw [if_neg c3] at KH
          have KT := m_take9 (γ := γ) m5 hu c3
          refine Call.of (ls := [(0, vr (some a)), (1, vi (u : Int)), (2, vi (x : Int)), (3, vi (y : Int))]) vX12_selected.1 (Nat.le_of_ble_eq_true rfl) rfl ?_
          refine aw_aload_n dX12_selected_0 rfl ?_
          refine aw_iload_n dX12_selected_1 rfl ?_
          refine aw_invS_r dX12_selected_2 sX12_isPlace kX12_217 rfl (KP) rfl rfl (by decide) (by decide) (by decide) (Nat.le_of_ble_eq_true rfl) ?_
          refine aw_if_eq (tgt := 16) dX12_selected_5 rfl (by omega) (fun c5 => ?_) (fun c5 => ?_)
          · exact absurd c5 (by omega)
          · refine aw_aload_n dX12_selected_8 rfl ?_
            refine aw_iload_n dX12_selected_9 rfl ?_
            refine aw_invV_r dX12_selected_10 vX12_isNode kX12_77 rfl (KN) ⟨_, (by assumption), _, _, rfl⟩ rfl rfl (by decide) (by decide) (by decide) (Nat.le_of_ble_eq_true rfl) ?_
            refine aw_if_ne (tgt := 20) dX12_selected_13 rfl (by omega) (fun c13 => ?_) (fun c13 => ?_)
            · refine aw_iload_n dX12_selected_20 rfl ?_
              refine aw_if_ge (tgt := 28) dX12_selected_21 rfl (by omega) (fun c21 => ?_) (fun c21 => ?_)
              · refine aw_aload_n dX12_selected_28 rfl ?_
                refine aw_iload_n dX12_selected_29 rfl ?_
                refine aw_invV_r dX12_selected_30 vX12_has kX12_223 rfl (KH) ⟨_, (by assumption), _, _, rfl⟩ rfl rfl (by decide) (by decide) (by decide) (Nat.le_of_ble_eq_true rfl) ?_
                refine aw_if_eq (tgt := 40) dX12_selected_33 rfl (by omega) (fun c33 => ?_) (fun c33 => ?_)
                · exact absurd c33 (by omega)
                · refine aw_iconst dX12_selected_36 ?_
                  refine aw_goto (tgt := 41) dX12_selected_37 rfl ?_
                  refine aw_puti' (j := 5) rfl dX12_selected_41 fX12_62 (by assumption) rfl ?_
                  refine aw_aload_n dX12_selected_44 rfl ?_
                  refine aw_geti' (j := 5) dX12_selected_45 fX12_62 rfl (by assumption) rfl (gi_at rfl rfl) ?_
                  refine aw_if_eq (tgt := 53) dX12_selected_48 rfl (by omega) (fun c48 => ?_) (fun c48 => ?_)
                  · refine aw_aload_n dX12_selected_53 rfl ?_
                    refine aw_iload_n dX12_selected_54 rfl ?_
                    refine aw_invV_f dX12_selected_55 vX12_take kX12_235 rfl (KT) ⟨_, (by assumption), _, _, rfl⟩ rfl rfl (by decide) (by decide) (by decide) (Nat.le_of_ble_eq_true rfl) (fun H1 hP9 => ?_)
                    obtain ⟨E1, G1⟩ := hP9
                    have m1 : isMd H1 a (T, qs) U tx := m5.eqk (E1.mono ST9_k)
                    have hka1 := m1.1.1
                    have KS := m_select (γ := γ) (T := T) (q := qs u) m1.1 m1.2.1.1 oT hx oq G1
                    refine aw_aload_n dX12_selected_58 rfl ?_
                    refine aw_iload_n dX12_selected_59 rfl ?_
                    refine aw_invV_f dX12_selected_60 vX12_select kX12_266 rfl (KS) ⟨_, (by assumption), _, _, rfl⟩ rfl rfl (by decide) (by decide) (by decide) (Nat.le_of_ble_eq_true rfl) (fun H2 hP9 => ?_)
                    obtain ⟨B2, E2⟩ := hP9
                    have m2 : isMd H2 a (T, qs) U tx := m1.eqk (E2.mono SSe_k)
                    have hka2 := m2.1.1
                    have L := l_sel9 (γ := γ) (i := y) (T := T) (f := selF T (qs u) x) (Q := rM h a (0, atL (fu (selF T (qs u) x) (tn T)) (y : Int), ((T, qs), U, tx))) m2.1 m2.2.1.1 oT (bo_le B2 n40) (by omega) ⟨rfl, rM_ok hF ((E1.mono ST9_k).tr (E2.mono SSe_k)) ((E2.2.2.2.2 _ _ (by unfold SSe SPt SGv SXt SI; omega)).trans ((E1.2.2.2.2 _ _ (by unfold ST9; omega)).trans (gi_at rfl rfl)))⟩ (tn T) 0 (Nat.zero_add _) (Nat.zero_le _)
                    have L : AW γ mX12_selected 12 0 0 69 [(5, vi 0), (4, vi ((y : Int) - 0)), (0, vr (some a))] [] H2 _ := L
                    rw [Int.sub_zero] at L
                    refine aw_iload_n dX12_selected_63 rfl ?_
                    refine aw_istore (ls1 := [(4, _), (0, _), (1, _), (2, _), (3, _)]) dX12_selected_64 (by decide) rfl ?_
                    refine aw_iconst dX12_selected_66 ?_
                    refine aw_istore (ls1 := [(5, _), (4, _), (0, _), (1, _), (2, _), (3, _)]) dX12_selected_67 (by decide) rfl ?_
                    refine aw_sub [0, 1, 2] rfl ?_
                    exact L
                  · exact absurd c48 (by omega)
              · exact absurd c21 (by omega)
            · exact absurd c13 (by omega)
    · rw [if_pos (fun z => c2 z.2)]
      rw [if_neg c2] at KN
      refine Call.of (ls := [(0, vr (some a)), (1, vi p), (2, vi v), (3, vi i)]) vX12_selected.1 (Nat.le_of_ble_eq_true rfl) rfl ?_
      refine aw_aload_n dX12_selected_0 rfl ?_
      refine aw_iload_n dX12_selected_1 rfl ?_
      refine aw_invS_r dX12_selected_2 sX12_isPlace kX12_217 rfl (KP) rfl rfl (by decide) (by decide) (by decide) (Nat.le_of_ble_eq_true rfl) ?_
      refine aw_if_eq (tgt := 16) dX12_selected_5 rfl (by omega) (fun c5 => ?_) (fun c5 => ?_)
      · exact absurd c5 (by omega)
      · refine aw_aload_n dX12_selected_8 rfl ?_
        refine aw_iload_n dX12_selected_9 rfl ?_
        refine aw_invV_r dX12_selected_10 vX12_isNode kX12_77 rfl (KN) ⟨_, (by assumption), _, _, rfl⟩ rfl rfl (by decide) (by decide) (by decide) (Nat.le_of_ble_eq_true rfl) ?_
        refine aw_if_ne (tgt := 20) dX12_selected_13 rfl (by omega) (fun c13 => ?_) (fun c13 => ?_)
        · exact absurd c13 (by omega)
        · refine aw_iconst dX12_selected_16 ?_
          refine aw_goto (tgt := 41) dX12_selected_17 rfl ?_
          refine aw_puti' (j := 5) rfl dX12_selected_41 fX12_62 (by assumption) rfl ?_
          refine aw_aload_n dX12_selected_44 rfl ?_
          refine aw_geti' (j := 5) dX12_selected_45 fX12_62 rfl (by assumption) rfl (gi_at rfl rfl) ?_
          refine aw_if_eq (tgt := 53) dX12_selected_48 rfl (by omega) (fun c48 => ?_) (fun c48 => ?_)
          · exact absurd c48 (by omega)
          · refine aw_iconst dX12_selected_51 ?_
            exact aw_ireturn dX12_selected_52 rfl (Or.inl rfl) ⟨rfl, rM_err hF 1⟩
  · rw [if_pos (fun z => c1 z.1)]
    rw [if_neg c1] at KP
    refine Call.of (ls := [(0, vr (some a)), (1, vi p), (2, vi v), (3, vi i)]) vX12_selected.1 (Nat.le_of_ble_eq_true rfl) rfl ?_
    refine aw_aload_n dX12_selected_0 rfl ?_
    refine aw_iload_n dX12_selected_1 rfl ?_
    refine aw_invS_r dX12_selected_2 sX12_isPlace kX12_217 rfl (KP) rfl rfl (by decide) (by decide) (by decide) (Nat.le_of_ble_eq_true rfl) ?_
    refine aw_if_eq (tgt := 16) dX12_selected_5 rfl (by omega) (fun c5 => ?_) (fun c5 => ?_)
    · refine aw_iconst dX12_selected_16 ?_
      refine aw_goto (tgt := 41) dX12_selected_17 rfl ?_
      refine aw_puti' (j := 5) rfl dX12_selected_41 fX12_62 (by assumption) rfl ?_
      refine aw_aload_n dX12_selected_44 rfl ?_
      refine aw_geti' (j := 5) dX12_selected_45 fX12_62 rfl (by assumption) rfl (gi_at rfl rfl) ?_
      refine aw_if_eq (tgt := 53) dX12_selected_48 rfl (by omega) (fun c48 => ?_) (fun c48 => ?_)
      · exact absurd c48 (by omega)
      · refine aw_iconst dX12_selected_51 ?_
        exact aw_ireturn dX12_selected_52 rfl (Or.inl rfl) ⟨rfl, rM_err hF 1⟩
    · exact absurd c5 (by omega)
