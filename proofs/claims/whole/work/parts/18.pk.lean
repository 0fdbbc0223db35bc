/-! ===== packed conditions read ===== -/
theorem pk_kind {c : TC} (h : okC c) : pk c % 8 = c.2.1 + 1 := by
  obtain ⟨n, k, d, sh⟩ := c
  simp only [okC] at h
  simp only [pk]
  rcases h with ⟨rfl, h1, h2, rfl⟩ | ⟨rfl, rfl, rfl⟩ | ⟨rfl, h1, h2, rfl⟩ | ⟨rfl, rfl, h1, h2, h3⟩ <;> cases n <;> simp <;> omega
theorem pk_neg {c : TC} (h : okC c) : pk c / 8 % 2 = if c.1 = true then 1 else 0 := by
  obtain ⟨n, k, d, sh⟩ := c
  simp only [okC] at h
  simp only [pk]
  rcases h with ⟨rfl, h1, h2, rfl⟩ | ⟨rfl, rfl, rfl⟩ | ⟨rfl, h1, h2, rfl⟩ | ⟨rfl, rfl, h1, h2, h3⟩ <;> cases n <;> simp <;> omega
theorem pk_len {c : TC} (h : okC c) : pk c / 16 % 4 = c.2.2.2.length := by
  obtain ⟨n, k, d, sh⟩ := c
  simp only [okC] at h
  simp only [pk]
  rcases h with ⟨rfl, h1, h2, rfl⟩ | ⟨rfl, rfl, rfl⟩ | ⟨rfl, h1, h2, rfl⟩ | ⟨rfl, rfl, h1, h2, h3⟩ <;> cases n <;> simp <;> omega
theorem pk_dig {c : TC} (h : okC c) (hk : c.2.1 = 0 ∨ c.2.1 = 2) : pk c / 64 % 16 = c.2.2.1 := by
  obtain ⟨n, k, d, sh⟩ := c
  simp only [okC] at h
  simp only [pk]
  dsimp only at hk
  rcases h with ⟨rfl, h1, h2, rfl⟩ | ⟨rfl, rfl, rfl⟩ | ⟨rfl, h1, h2, rfl⟩ | ⟨rfl, rfl, h1, h2, h3⟩
  · cases n <;> simp [pks] <;> omega
  · omega
  · cases n <;> simp [pks] <;> omega
  · omega
theorem pk_sh {c : TC} (h : okC c) {k : Nat} {x : Int × Int} (hx : c.2.2.2[k]? = some x) : pk c / ((2 ^ (6 + 8 * k) : Nat) : Int) % 16 = x.1 ∧ pk c / ((2 ^ (10 + 8 * k) : Nat) : Int) % 16 = x.2 ∧ okT x ∧ k ≤ 2 := by
  obtain ⟨n, kk, d, sh⟩ := c
  simp only [okC] at h
  dsimp only at hx
  have hlt := (List.getElem?_eq_some_iff.mp hx).1
  have hm := List.mem_of_getElem? hx
  rcases h with ⟨rfl, h1, h2, rfl⟩ | ⟨rfl, rfl, rfl⟩ | ⟨rfl, h1, h2, rfl⟩ | ⟨rfl, rfl, h1, h2, h3⟩
  · simp at hlt
  · simp at hlt
  · simp at hlt
  · have hxo := h3 x hm
    refine ⟨?_, ?_, hxo, by omega⟩ <;> (
      match sh, h1, h2, h3, k, hx with
      | [a], _, _, h3, 0, hx => simp at hx; subst hx; have := h3 a (by simp); unfold okT at this; cases n <;> simp [pk, pks] <;> omega
      | [a, b], _, _, h3, 0, hx => simp at hx; subst hx; have := h3 a (by simp); have := h3 b (by simp); unfold okT at *; cases n <;> simp [pk, pks] <;> omega
      | [a, b], _, _, h3, 1, hx => simp at hx; subst hx; have := h3 a (by simp); have := h3 b (by simp); unfold okT at *; cases n <;> simp [pk, pks] <;> omega
      | [a, b, c], _, _, h3, 0, hx => simp at hx; subst hx; have := h3 a (by simp); have := h3 b (by simp); have := h3 c (by simp); unfold okT at *; cases n <;> simp [pk, pks] <;> omega
      | [a, b, c], _, _, h3, 1, hx => simp at hx; subst hx; have := h3 a (by simp); have := h3 b (by simp); have := h3 c (by simp); unfold okT at *; cases n <;> simp [pk, pks] <;> omega
      | [a, b, c], _, _, h3, 2, hx => simp at hx; subst hx; have := h3 a (by simp); have := h3 b (by simp); have := h3 c (by simp); unfold okT at *; cases n <;> simp [pk, pks] <;> omega)
theorem pk_pos {c : TC} (h : okC c) : (pk c % 8 = 1 ∨ pk c % 8 = 2) ↔ isPosC c = true := by
  have hk := pk_kind h
  have h0 : 0 ≤ c.2.1 := by rcases h with h | h | h | h <;> omega
  simp only [isPosC, decide_eq_true_eq]
  omega
/-- packing tells conditions apart -/
theorem pks_inj : ∀ (l m : List (Int × Int)), l.length = m.length → (∀ x ∈ l, okT x) → (∀ x ∈ m, okT x) → pks l = pks m → l = m := by
  intro l
  induction l with
  | nil => intro m hl _ _ _; exact (List.length_eq_zero_iff.mp hl.symm).symm
  | cons x r ih =>
    intro m hl h1 h2 he
    cases m with
    | nil => simp at hl
    | cons y s =>
      have hx := h1 x List.mem_cons_self
      have hy := h2 y List.mem_cons_self
      unfold okT at hx hy
      simp only [pks] at he
      have e1 : x.1 + 16 * x.2 = y.1 + 16 * y.2 := by omega
      have e2 : pks r = pks s := by omega
      have e3 : x = y := Prod.ext (by omega) (by omega)
      rw [e3, ih s (by simpa using hl) (fun z hz => h1 z (List.mem_cons_of_mem _ hz)) (fun z hz => h2 z (List.mem_cons_of_mem _ hz)) e2]
theorem pk_inj {c e : TC} (hc : okC c) (he : okC e) (h : pk c = pk e) : c = e := by
  have h1 : c.2.1 = e.2.1 := by have := pk_kind hc; have := pk_kind he; rw [h] at *; omega
  have h2 : c.1 = e.1 := by
    have q1 := pk_neg hc
    have q2 := pk_neg he
    rw [h] at q1
    rw [q1] at q2
    cases hc1 : c.1 <;> cases he1 : e.1 <;> simp [hc1, he1] at q2 ⊢
  have h3 : c.2.2.2.length = e.2.2.2.length := by have q1 := pk_len hc; have q2 := pk_len he; rw [h] at q1; omega
  have h4 : c.2.2.1 + pks c.2.2.2 = e.2.2.1 + pks e.2.2.2 := by
    have q : pk c = pk e := h
    unfold pk at q
    rw [h1, h2, h3] at q
    omega
  obtain ⟨n, k, d, sh⟩ := c
  obtain ⟨n2, k2, d2, sh2⟩ := e
  dsimp only at h1 h2 h3 h4
  subst h1; subst h2
  simp only [okC] at hc he
  have key : d = d2 ∧ sh = sh2 := by
    rcases hc with ⟨hk, -, -, hs⟩ | ⟨hk, hd, hs⟩ | ⟨hk, -, -, hs⟩ | ⟨hk, hd, -, -, hs⟩ <;> rcases he with ⟨hk2, -, -, hs2⟩ | ⟨hk2, hd2, hs2⟩ | ⟨hk2, -, -, hs2⟩ | ⟨hk2, hd2, -, -, hs2⟩ <;> first | omega | (subst hs; subst hs2; simp [pks] at h4; exact ⟨h4, rfl⟩) | (subst hs; subst hs2; exact ⟨by omega, rfl⟩) | (subst hd; subst hd2; exact ⟨rfl, pks_inj sh sh2 h3 hs hs2 (by omega)⟩)
  rw [key.1, key.2]
/-! ===== Condition.writeTo ===== -/
theorem wc_split (c : TC) : wCond c = (if c.1 = true then [45] else []) ++ ((if c.2.1 = 0 then [] else [if c.2.1 = 1 then 36 else if c.2.1 = 2 then 61 else 63]) ++ ((if c.2.1 = 0 ∨ c.2.1 = 2 then [48 + c.2.2.1] else []) ++ jr 47 true (c.2.2.2.map wTest))) := by
  rw [jr_t]
  rfl
theorem l_cwrite {γ : GG} {o n : Nat} {c : TC} {kv : Int} (hc : okC c) (hn : n ≤ 1024) : ∀ (r : List (Int × Int)) (k : Nat) (h : AH), k ≤ c.2.2.2.length → c.2.2.2.drop k = r → isTx h o n → (0 ≤ gi h o 1 ∧ gi h o 1 + (jr 47 (decide (k = 0)) (r.map wTest)).length ≤ n) → AW γ mX0_writeTo 5 0 0 72 [(0, vr (some o)), (1, vi (pk c)), (2, vi kv), (3, vi (k : Int))] [] h (rN (tputs o h (jr 47 (decide (k = 0)) (r.map wTest)))) := by
  have hb := pk_bd hc
  have hle : c.2.2.2.length ≤ 3 := by have := pk_len hc; omega
  have hpl := pk_len hc
  intro r
  induction r with
  | nil =>
    intro k h hkl hd hT hl
    have hk := List.drop_eq_nil_iff.mp hd
    have hkd := hT.1
    refine aw_iload_n dX0_writeTo_72 rfl ?_
    refine aw_iload_n dX0_writeTo_73 rfl ?_
    refine aw_invS_r dX0_writeTo_74 sX0_stepsOf kX0_11 rfl (c_stepsOf (c := pk c) (by omega)) rfl rfl (by decide) (by decide) (by decide) (Nat.le_of_ble_eq_true rfl) ?_
    refine aw_ic_ge (tgt := 110) dX0_writeTo_77 rfl (by omega) (by omega) (fun c77 => ?_) (fun c77 => ?_)
    · exact aw_return dX0_writeTo_110 rfl (Or.inl rfl) ⟨rfl, rfl⟩
    · exact absurd c77 (by omega)
  | cons x r ih =>
    intro k h hkl hd hT hl
    have hx : c.2.2.2[k]? = some x := by rw [← List.head?_drop, hd]; rfl
    have hdr : c.2.2.2.drop (k + 1) = r := by rw [← List.drop_drop, hd]; rfl
    obtain ⟨e1, e2, hxo, hk2⟩ := pk_sh hc hx
    have hlt := (List.getElem?_eq_some_iff.mp hx).1
    have hwl := wTest_len x
    have hkd := hT.1
    have ek1 : decide (k + 1 = 0) = false := by simp
    rw [List.map_cons] at hl
    by_cases hk0 : k = 0
    · have ek : decide (k = 0) = true := by simp [hk0]
      rw [ek] at hl
      simp only [jr, if_true, List.length_append] at hl
      have hl2 := gi_tputs_len o (wTest x) h
      have ih' := ih (k + 1) (tputs o h (wTest x)) (by omega) hdr (isTx_tputs _ _ hT) (by rw [ek1]; omega)
      have fin : tputs o (tputs o h (wTest x)) (jr 47 (decide (k + 1 = 0)) (r.map wTest)) = tputs o h (jr 47 (decide (k = 0)) ((x :: r).map wTest)) := by
        rw [ek1, ek, List.map_cons, ← tputs_app]
        rfl
      rw [fin] at ih'
      refine aw_iload_n dX0_writeTo_72 rfl ?_
      refine aw_iload_n dX0_writeTo_73 rfl ?_
      refine aw_invS_r dX0_writeTo_74 sX0_stepsOf kX0_11 rfl (c_stepsOf (c := pk c) (by omega)) rfl rfl (by decide) (by decide) (by decide) (Nat.le_of_ble_eq_true rfl) ?_
      refine aw_ic_ge (tgt := 110) dX0_writeTo_77 rfl (by omega) (by omega) (fun c77 => ?_) (fun c77 => ?_)
      · exact absurd c77 (by omega)
      · refine aw_iload_n dX0_writeTo_80 rfl ?_
        refine aw_if_le (tgt := 90) dX0_writeTo_81 rfl (by omega) (fun c81 => ?_) (fun c81 => ?_)
        · refine aw_aload_n dX0_writeTo_90 rfl ?_
          refine aw_iload_n dX0_writeTo_91 rfl ?_
          refine aw_iload_n dX0_writeTo_92 rfl ?_
          refine aw_invS_r dX0_writeTo_93 sX0_axisOf kX0_31 rfl (c_axisOf (c := pk c) (by omega) hk2) rfl rfl (by decide) (by decide) (by decide) (Nat.le_of_ble_eq_true rfl) ?_
          refine aw_iload_n dX0_writeTo_96 rfl ?_
          refine aw_iload_n dX0_writeTo_97 rfl ?_
          refine aw_invS_r dX0_writeTo_98 sX0_testOf kX0_35 rfl (c_testOf (c := pk c) (by omega) hk2) rfl rfl (by decide) (by decide) (by decide) (Nat.le_of_ble_eq_true rfl) ?_
          rw [e1, e2]
          refine aw_invV_n dX0_writeTo_101 vX9_putTest kX0_38 rfl (c_putTest hT hn hxo (by omega)) ⟨_, (by assumption), _, _, rfl⟩ rfl rfl (by decide) (by decide) (by decide) (Nat.le_of_ble_eq_true rfl) ?_
          refine aw_iinc (k9 := 3) (ls1 := [(3, _), (0, _), (1, _), (2, _)]) dX0_writeTo_104 rfl (by decide) rfl ?_
          refine aw_goto (tgt := 72) dX0_writeTo_107 rfl ?_
          refine aw_sub [1, 2, 3, 0] rfl ?_
          exact ih'
        · exact absurd c81 (by omega)
    · have ek : decide (k = 0) = false := by simp [hk0]
      rw [ek] at hl
      simp only [jr, Bool.false_eq_true, if_false, List.length_append, List.length_cons] at hl
      have hl1 := gi_tput_len o h 47
      have hT1 : isTx (tput o h 47) o n := hT
      have hl2 := gi_tputs_len o (wTest x) (tput o h 47)
      have ih' := ih (k + 1) (tputs o (tput o h 47) (wTest x)) (by omega) hdr (isTx_tputs _ _ hT1) (by rw [ek1]; omega)
      have fin : tputs o (tputs o (tput o h 47) (wTest x)) (jr 47 (decide (k + 1 = 0)) (r.map wTest)) = tputs o h (jr 47 (decide (k = 0)) ((x :: r).map wTest)) := by
        rw [ek1, ek, List.map_cons, ← tputs_app]
        rfl
      rw [fin] at ih'
      refine aw_iload_n dX0_writeTo_72 rfl ?_
      refine aw_iload_n dX0_writeTo_73 rfl ?_
      refine aw_invS_r dX0_writeTo_74 sX0_stepsOf kX0_11 rfl (c_stepsOf (c := pk c) (by omega)) rfl rfl (by decide) (by decide) (by decide) (Nat.le_of_ble_eq_true rfl) ?_
      refine aw_ic_ge (tgt := 110) dX0_writeTo_77 rfl (by omega) (by omega) (fun c77 => ?_) (fun c77 => ?_)
      · exact absurd c77 (by omega)
      · refine aw_iload_n dX0_writeTo_80 rfl ?_
        refine aw_if_le (tgt := 90) dX0_writeTo_81 rfl (by omega) (fun c81 => ?_) (fun c81 => ?_)
        · exact absurd c81 (by omega)
        · refine aw_aload_n dX0_writeTo_84 rfl ?_
          refine aw_bipush dX0_writeTo_85 rfl ?_
          refine aw_invV_n dX0_writeTo_87 vX9_put kX0_22 rfl (c_put hT hn (by omega) (by omega)) ⟨_, (by assumption), _, _, rfl⟩ rfl rfl (by decide) (by decide) (by decide) (Nat.le_of_ble_eq_true rfl) ?_
          refine aw_aload_n dX0_writeTo_90 rfl ?_
          refine aw_iload_n dX0_writeTo_91 rfl ?_
          refine aw_iload_n dX0_writeTo_92 rfl ?_
          refine aw_invS_r dX0_writeTo_93 sX0_axisOf kX0_31 rfl (c_axisOf (c := pk c) (by omega) hk2) rfl rfl (by decide) (by decide) (by decide) (Nat.le_of_ble_eq_true rfl) ?_
          refine aw_iload_n dX0_writeTo_96 rfl ?_
          refine aw_iload_n dX0_writeTo_97 rfl ?_
          refine aw_invS_r dX0_writeTo_98 sX0_testOf kX0_35 rfl (c_testOf (c := pk c) (by omega) hk2) rfl rfl (by decide) (by decide) (by decide) (Nat.le_of_ble_eq_true rfl) ?_
          rw [e1, e2]
          refine aw_invV_n dX0_writeTo_101 vX9_putTest kX0_38 rfl (c_putTest hT1 hn hxo (by omega)) ⟨_, (by assumption), _, _, rfl⟩ rfl rfl (by decide) (by decide) (by decide) (Nat.le_of_ble_eq_true rfl) ?_
          refine aw_iinc (k9 := 3) (ls1 := [(3, _), (0, _), (1, _), (2, _)]) dX0_writeTo_104 rfl (by decide) rfl ?_
          refine aw_goto (tgt := 72) dX0_writeTo_107 rfl ?_
          refine aw_sub [1, 2, 3, 0] rfl ?_
          exact ih'
def wC2 (c : TC) : List Int := (if c.2.1 = 0 ∨ c.2.1 = 2 then [48 + c.2.2.1] else []) ++ jr 47 true (c.2.2.2.map wTest)
def wC1 (c : TC) : List Int := (if c.2.1 = 0 then [] else [if c.2.1 = 1 then 36 else if c.2.1 = 2 then 61 else 63]) ++ wC2 c
theorem wc_eq (c : TC) : wCond c = (if c.1 = true then [45] else []) ++ wC1 c := wc_split c
theorem okC_k {c : TC} (h : okC c) : 0 ≤ c.2.1 ∧ c.2.1 ≤ 3 ∧ 0 ≤ c.2.2.1 ∧ c.2.2.1 ≤ 9 := by rcases h with h | h | h | h <;> omega
theorem l_cw2 {γ : GG} {h : AH} {o n : Nat} {c : TC} (hc : okC c) (hn : n ≤ 1024) (hT : isTx h o n) (hl : 0 ≤ gi h o 1 ∧ gi h o 1 + (wC2 c).length ≤ n) : AW γ mX0_writeTo 5 0 0 49 [(0, vr (some o)), (1, vi (pk c)), (2, vi (c.2.1 + 1))] [] h (rN (tputs o h (wC2 c))) := by
  have hb := pk_bd hc
  have hkb := okC_k hc
  have hkd := hT.1
  by_cases hk : c.2.1 = 0 ∨ c.2.1 = 2
  · have hdg := pk_dig hc hk
    have e0 : wC2 c = (48 + c.2.2.1) :: jr 47 true (c.2.2.2.map wTest) := by unfold wC2; rw [if_pos hk]; rfl
    rw [e0] at hl ⊢
    simp only [List.length_cons] at hl
    have hl1 := gi_tput_len o h (48 + c.2.2.1)
    have K := l_cwrite (kv := c.2.1 + 1) (γ := γ) hc hn c.2.2.2 0 (tput o h (48 + c.2.2.1)) (Nat.zero_le _) rfl hT (by simp only [decide_true]; omega)
    refine aw_iload_n dX0_writeTo_49 rfl ?_
    refine aw_iconst dX0_writeTo_50 ?_
    refine aw_ic_eq (tgt := 59) dX0_writeTo_51 rfl (by omega) (by omega) (fun c51 => ?_) (fun c51 => ?_)
    · refine aw_aload_n dX0_writeTo_59 rfl ?_
      refine aw_bipush dX0_writeTo_60 rfl ?_
      refine aw_iload_n dX0_writeTo_62 rfl ?_
      refine aw_invS_r dX0_writeTo_63 sX0_digitOf kX0_28 rfl (c_digitOf (c := pk c) (by omega)) rfl rfl (by decide) (by decide) (by decide) (Nat.le_of_ble_eq_true rfl) ?_
      rw [hdg]
      refine aw_iadd dX0_writeTo_66 ?_
      refine aw_invV_n dX0_writeTo_67 vX9_put kX0_22 rfl (c_put hT hn (by omega) (by omega)) ⟨_, (by assumption), _, _, rfl⟩ rfl rfl (by decide) (by decide) (by decide) (Nat.le_of_ble_eq_true rfl) ?_
      refine aw_iconst dX0_writeTo_70 ?_
      refine aw_istore_n (ls1 := [(3, _), (0, _), (1, _), (2, _)]) dX0_writeTo_71 (by decide) rfl ?_
      refine aw_sub [1, 2, 3, 0] rfl ?_
      exact K
    · refine aw_iload_n dX0_writeTo_54 rfl ?_
      refine aw_iconst dX0_writeTo_55 ?_
      refine aw_ic_ne (tgt := 70) dX0_writeTo_56 rfl (by omega) (by omega) (fun c56 => ?_) (fun c56 => ?_)
      · exact absurd c56 (by omega)
      · refine aw_aload_n dX0_writeTo_59 rfl ?_
        refine aw_bipush dX0_writeTo_60 rfl ?_
        refine aw_iload_n dX0_writeTo_62 rfl ?_
        refine aw_invS_r dX0_writeTo_63 sX0_digitOf kX0_28 rfl (c_digitOf (c := pk c) (by omega)) rfl rfl (by decide) (by decide) (by decide) (Nat.le_of_ble_eq_true rfl) ?_
        rw [hdg]
        refine aw_iadd dX0_writeTo_66 ?_
        refine aw_invV_n dX0_writeTo_67 vX9_put kX0_22 rfl (c_put hT hn (by omega) (by omega)) ⟨_, (by assumption), _, _, rfl⟩ rfl rfl (by decide) (by decide) (by decide) (Nat.le_of_ble_eq_true rfl) ?_
        refine aw_iconst dX0_writeTo_70 ?_
        refine aw_istore_n (ls1 := [(3, _), (0, _), (1, _), (2, _)]) dX0_writeTo_71 (by decide) rfl ?_
        refine aw_sub [1, 2, 3, 0] rfl ?_
        exact K
  · have e0 : wC2 c = jr 47 true (c.2.2.2.map wTest) := by unfold wC2; rw [if_neg hk]; rfl
    rw [e0] at hl ⊢
    have K := l_cwrite (kv := c.2.1 + 1) (γ := γ) hc hn c.2.2.2 0 h (Nat.zero_le _) rfl hT hl
    refine aw_iload_n dX0_writeTo_49 rfl ?_
    refine aw_iconst dX0_writeTo_50 ?_
    refine aw_ic_eq (tgt := 59) dX0_writeTo_51 rfl (by omega) (by omega) (fun c51 => ?_) (fun c51 => ?_)
    · exact absurd c51 (by omega)
    · refine aw_iload_n dX0_writeTo_54 rfl ?_
      refine aw_iconst dX0_writeTo_55 ?_
      refine aw_ic_ne (tgt := 70) dX0_writeTo_56 rfl (by omega) (by omega) (fun c56 => ?_) (fun c56 => ?_)
      · refine aw_iconst dX0_writeTo_70 ?_
        refine aw_istore_n (ls1 := [(3, _), (0, _), (1, _), (2, _)]) dX0_writeTo_71 (by decide) rfl ?_
        refine aw_sub [1, 2, 3, 0] rfl ?_
        exact K
      · exact absurd c56 (by omega)
theorem l_cw1 {γ : GG} {h : AH} {o n : Nat} {c : TC} (hc : okC c) (hn : n ≤ 1024) (hT : isTx h o n) (hl : 0 ≤ gi h o 1 ∧ gi h o 1 + (wC1 c).length ≤ n) : AW γ mX0_writeTo 5 0 0 18 [(0, vr (some o)), (1, vi (pk c)), (2, vi (c.2.1 + 1))] [] h (rN (tputs o h (wC1 c))) := by
  have hkb := okC_k hc
  have hkd := hT.1
  by_cases hk : c.2.1 = 0
  · have e0 : wC1 c = wC2 c := by unfold wC1; rw [if_pos hk]; rfl
    rw [e0] at hl ⊢
    have K := l_cw2 (γ := γ) hc hn hT hl
    refine aw_iload_n dX0_writeTo_18 rfl ?_
    refine aw_iconst dX0_writeTo_19 ?_
    refine aw_ic_eq (tgt := 49) dX0_writeTo_20 rfl (by omega) (by omega) (fun c20 => ?_) (fun c20 => ?_)
    · exact K
    · exact absurd c20 (by omega)
  · have e0 : wC1 c = (if c.2.1 = 1 then 36 else if c.2.1 = 2 then 61 else 63) :: wC2 c := by unfold wC1; rw [if_neg hk]; rfl
    have K : ∀ z : Int, z = (if c.2.1 = 1 then 36 else if c.2.1 = 2 then 61 else 63) → AW γ mX0_writeTo 5 0 0 49 [(0, vr (some o)), (1, vi (pk c)), (2, vi (c.2.1 + 1))] [] (tput o h z) (rN (tputs o h (wC1 c))) := by
      intro z hz
      rw [e0, ← hz, tputs_cons]
      rw [e0] at hl
      simp only [List.length_cons] at hl
      have hl1 := gi_tput_len o h z
      exact l_cw2 (γ := γ) hc hn (show isTx (tput o h z) o n from hT) (by omega)
    rw [e0] at hl
    simp only [List.length_cons] at hl
    refine aw_iload_n dX0_writeTo_18 rfl ?_
    refine aw_iconst dX0_writeTo_19 ?_
    refine aw_ic_eq (tgt := 49) dX0_writeTo_20 rfl (by omega) (by omega) (fun c20 => ?_) (fun c20 => ?_)
    · exact absurd c20 (by omega)
    · refine aw_aload_n dX0_writeTo_23 rfl ?_
      refine aw_iload_n dX0_writeTo_24 rfl ?_
      refine aw_iconst dX0_writeTo_25 ?_
      refine aw_ic_ne (tgt := 34) dX0_writeTo_26 rfl (by omega) (by omega) (fun c26 => ?_) (fun c26 => ?_)
      · refine aw_iload_n dX0_writeTo_34 rfl ?_
        refine aw_iconst dX0_writeTo_35 ?_
        refine aw_ic_ne (tgt := 44) dX0_writeTo_36 rfl (by omega) (by omega) (fun c36 => ?_) (fun c36 => ?_)
        · refine aw_bipush dX0_writeTo_44 rfl ?_
          refine aw_invV_n dX0_writeTo_46 vX9_put kX0_22 rfl (c_put hT hn (by omega) (by omega)) ⟨_, (by assumption), _, _, rfl⟩ rfl rfl (by decide) (by decide) (by decide) (Nat.le_of_ble_eq_true rfl) ?_
          exact K _ (by first | (rw [if_pos (by omega)]; done) | (rw [if_neg (by omega), if_pos (by omega)]; done) | (rw [if_neg (by omega), if_neg (by omega)]))
        · refine aw_bipush dX0_writeTo_39 rfl ?_
          refine aw_goto (tgt := 46) dX0_writeTo_41 rfl ?_
          refine aw_invV_n dX0_writeTo_46 vX9_put kX0_22 rfl (c_put hT hn (by omega) (by omega)) ⟨_, (by assumption), _, _, rfl⟩ rfl rfl (by decide) (by decide) (by decide) (Nat.le_of_ble_eq_true rfl) ?_
          exact K _ (by first | (rw [if_pos (by omega)]; done) | (rw [if_neg (by omega), if_pos (by omega)]; done) | (rw [if_neg (by omega), if_neg (by omega)]))
      · refine aw_bipush dX0_writeTo_29 rfl ?_
        refine aw_goto (tgt := 46) dX0_writeTo_31 rfl ?_
        refine aw_invV_n dX0_writeTo_46 vX9_put kX0_22 rfl (c_put hT hn (by omega) (by omega)) ⟨_, (by assumption), _, _, rfl⟩ rfl rfl (by decide) (by decide) (by decide) (Nat.le_of_ble_eq_true rfl) ?_
        exact K _ (by first | (rw [if_pos (by omega)]; done) | (rw [if_neg (by omega), if_pos (by omega)]; done) | (rw [if_neg (by omega), if_neg (by omega)]))
theorem c_cwriteTo {γ : GG} {h : AH} {o n : Nat} {c : TC} (hc : okC c) (hn : n ≤ 1024) (hT : isTx h o n) (hl : 0 ≤ gi h o 1 ∧ gi h o 1 + (wCond c).length ≤ n) : Call γ mX0_writeTo 5 0 0 [vr (some o), vi (pk c)] h (rN (tputs o h (wCond c))) := by
  have hb := pk_bd hc
  have hkn := pk_kind hc
  have hng := pk_neg hc
  have hkb := okC_k hc
  have hkd := hT.1
  by_cases hk : c.1 = true
  · rw [if_pos hk] at hng
    have e0 : wCond c = 45 :: wC1 c := by rw [wc_eq, if_pos hk]; rfl
    rw [e0] at hl ⊢
    simp only [List.length_cons] at hl
    have hl1 := gi_tput_len o h 45
    have K := l_cw1 (γ := γ) hc hn (show isTx (tput o h 45) o n from hT) (by omega)
    refine Call.of (ls := [(0, vr (some o)), (1, vi (pk c))]) sX0_writeTo.1 (Nat.le_of_ble_eq_true rfl) rfl ?_
    refine aw_iload_n dX0_writeTo_0 rfl ?_
    refine aw_invS_r dX0_writeTo_1 sX0_kindOf kX0_15 rfl (c_kindOf (c := pk c) (by omega)) rfl rfl (by decide) (by decide) (by decide) (Nat.le_of_ble_eq_true rfl) ?_
    rw [hkn]
    refine aw_istore_n (ls1 := [(2, _), (0, _), (1, _)]) dX0_writeTo_4 (by decide) rfl ?_
    refine aw_iload_n dX0_writeTo_5 rfl ?_
    refine aw_invS_r dX0_writeTo_6 sX0_isOpposite kX0_18 rfl (c_isOpposite (c := pk c) (by omega)) rfl rfl (by decide) (by decide) (by decide) (Nat.le_of_ble_eq_true rfl) ?_
    rw [hng]
    refine aw_if_eq (tgt := 18) dX0_writeTo_9 rfl (by omega) (fun c9 => ?_) (fun c9 => ?_)
    · exact absurd c9 (by omega)
    · refine aw_aload_n dX0_writeTo_12 rfl ?_
      refine aw_bipush dX0_writeTo_13 rfl ?_
      refine aw_invV_n dX0_writeTo_15 vX9_put kX0_22 rfl (c_put hT hn (by omega) (by omega)) ⟨_, (by assumption), _, _, rfl⟩ rfl rfl (by decide) (by decide) (by decide) (Nat.le_of_ble_eq_true rfl) ?_
      refine aw_sub [1, 2, 0] rfl ?_
      exact K
  · rw [if_neg hk] at hng
    have e0 : wCond c = wC1 c := by rw [wc_eq, if_neg hk]; rfl
    rw [e0] at hl ⊢
    have K := l_cw1 (γ := γ) hc hn hT hl
    refine Call.of (ls := [(0, vr (some o)), (1, vi (pk c))]) sX0_writeTo.1 (Nat.le_of_ble_eq_true rfl) rfl ?_
    refine aw_iload_n dX0_writeTo_0 rfl ?_
    refine aw_invS_r dX0_writeTo_1 sX0_kindOf kX0_15 rfl (c_kindOf (c := pk c) (by omega)) rfl rfl (by decide) (by decide) (by decide) (Nat.le_of_ble_eq_true rfl) ?_
    rw [hkn]
    refine aw_istore_n (ls1 := [(2, _), (0, _), (1, _)]) dX0_writeTo_4 (by decide) rfl ?_
    refine aw_iload_n dX0_writeTo_5 rfl ?_
    refine aw_invS_r dX0_writeTo_6 sX0_isOpposite kX0_18 rfl (c_isOpposite (c := pk c) (by omega)) rfl rfl (by decide) (by decide) (by decide) (Nat.le_of_ble_eq_true rfl) ?_
    rw [hng]
    refine aw_if_eq (tgt := 18) dX0_writeTo_9 rfl (by omega) (fun c9 => ?_) (fun c9 => ?_)
    · refine aw_sub [1, 2, 0] rfl ?_
      exact K
    · exact absurd c9 (by omega)
