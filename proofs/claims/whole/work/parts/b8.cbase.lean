/-! ===== the outer class: its state, what it requires ===== -/
def rX9 (X : String) (h1 : AH) : AR → AH → Prop := fun r h' => r = .inr X ∧ h' = h1
theorem aw_invV_x {γ : GG} {M : MD} {d kc ks pc : Nat} {ls : List (Nat × AV)} {h : AH} {Q : AR → AH → Prop} {M' : MD} {d' kc' ks' n idx : Nat} {a : Nat} {st as st0 : List AV} {X : String} {h1 : AH} (hd : decode M.2.1 pc = .ok (.invokevirtual idx, 3)) (hm : mV M' n) (hlk : Cond.methodLink M.1.cls idx M'.1 ∈ lw_tbl) (ht0 : M.2.2.2.2 = []) (hC : Call γ M' d' kc' ks' (vr (some a) :: as) h (rX9 X h1)) (ho : isO h a M'.1.cls) (has : st0 = as.reverse ++ vr (some a) :: st) (hn : as.length = n) (hd' : d' + 1 ≤ d) (h1' : kc' ≤ kc) (h2' : ks' ≤ ks) (hst : st.length ≤ 4) (hq : Q (.inr X) h1) : AW γ M d kc ks pc ls st0 h Q :=
  aw_invV_q hd hm hlk ht0 hC ho has hn hd' h1' h2' hst (fun v h' q => by obtain ⟨q1, -⟩ := q; cases q1) (fun X' h' q => by obtain ⟨q1, q2⟩ := q; cases q1; rw [q2]; exact hq)
/-- what a call of the class comes to: an answer, or a throw by its code -/
def rC9 (h : AH) (c : Nat) (tb : List String) (o : Int × Int × FS) : AR → AH → Prop := fun r h' => (r = if o.1 = 0 then .inl (some (vi o.2.1)) else .inr (tb.getD (o.1.toNat - 1) "")) ∧ isCl h' c o.2.2 ∧ eqO h h' c (c + 1704)
theorem cl_f {h : AH} {c : Nat} {F : FS} (hC : isCl h c F) : kd h c = some (.inl 10) ∧ gr h c 0 = some (c + 1) ∧ gr h c 1 = some (c + 309) ∧ gr h c 2 = some (c + 1543) ∧ gr h c 3 = some (c + 1545) ∧ gr h c 4 = some (c + 1547) ∧ gr h c 5 = some (c + 1621) ∧ gr h c 6 = some (c + 1696) ∧ gr h c 7 = some (c + 1698) ∧ gr h c 8 = some (c + 1701) ∧ kd h (c + 1) = some (.inl 6) ∧ gr h (c + 1) 0 = some (c + 1 + 1) ∧ gr h (c + 1) 1 = some (c + 1 + 11) ∧ kd h (c + 1 + 11) = some (.inr (5, 4)) ∧ kd h (c + 1 + 1) = some (.inl 9) := by
  obtain ⟨⟨h1, h2, h3, h4, h5, h6, h7, h8, h9, h10⟩, ⟨⟨k1, k2, k3, k4, k5, -⟩, -, -⟩, -⟩ := hC
  exact ⟨h1, h2, h3, h4, h5, h6, h7, h8, h9, h10, k1, k2, k3, k4, k5.1⟩
theorem cl_q {h : AH} {c p : Nat} {F : FS} (hC : isCl h c F) (hp : p < 4) : gr h (c + 1 + 11) p = some (c + 1 + 12 + 74 * p) ∧ ∃ π ρ, isQ h (c + 1 + 12 + 74 * p) π ρ (F.1.2 p) := by
  obtain ⟨-, ⟨⟨k1, k2, k3, k4, k5, k6⟩, -, k8⟩, -⟩ := hC
  exact ⟨(k6 p hp).1, k8 p hp⟩
theorem isCl.hi {h h' : AH} {c : Nat} {F : FS} {U' : List St} (s : isCl h c F) (e : eqO h h' (c + 309) (c + 309 + 1234)) (hH : isHi h' (c + 309) U') (hl : U'.length ≤ 4) (hU : ∀ S ∈ U', okSt S) : isCl h' c (F.1, U', F.2.2) := by
  obtain ⟨h1, h2, h3, h4, h5, o1, o2, o3, o4⟩ := s
  exact ⟨h1.eq (e.2 c (by omega)), h2.eq (fun b b1 b2 => e.2 b (by omega)), hH, h4.eq (fun b b1 b2 => e.2 b (by omega)), h5.eq (fun b b1 b2 => e.2 b (by omega)), o1, hl, hU, o4⟩
theorem isCl.tr {h h' : AH} {c : Nat} {F : FS} {T' : Tr} (s : isCl h c F) (e : eqO h h' (c + 1 + 1) (c + 1 + 11)) (hT : isTr h' (c + 1 + 1) T') (ho : okTr T') : isCl h' c ((T', F.1.2), F.2) := by
  obtain ⟨h1, h2, h3, h4, h5, ⟨o1, o5⟩, o2, o3, o4⟩ := s
  exact ⟨h1.eq (e.2 c (by omega)), h2.t hT e, h3.eq (fun b b1 b2 => e.2 b (by omega)), h4.eq (fun b b1 b2 => e.2 b (by omega)), h5.eq (fun b b1 b2 => e.2 b (by omega)), ⟨ho, o5⟩, o2, o3, o4⟩
theorem isCl.qu {h h' : AH} {c p : Nat} {π : Nat → Nat} {ρ : Nat → Nat → Nat} {F : FS} {q : TQ} (s : isCl h c F) (hp : p < 4) (e : eqO h h' (c + 1 + 12 + 74 * p) (c + 1 + 12 + 74 * p + 74)) (hQ : isQ h' (c + 1 + 12 + 74 * p) π ρ q) (ho : okQ q) (hw : lnQ q) : isCl h' c (upQ F.1 p q, F.2) := by
  obtain ⟨h1, h2, h3, h4, h5, ⟨o1, o5⟩, o2, o3, o4⟩ := s
  refine ⟨h1.eq (e.2 c (by omega)), h2.q hp hQ e, h3.eq (fun b b1 b2 => e.2 b (by omega)), h4.eq (fun b b1 b2 => e.2 b (by omega)), h5.eq (fun b b1 b2 => e.2 b (by omega)), ⟨o1, fun j hj => ?_⟩, o2, o3, o4⟩
  show okQ (if j = p then q else F.1.2 j) ∧ lnQ (if j = p then q else F.1.2 j)
  by_cases z : j = p
  · rw [if_pos z]; exact ⟨ho, hw⟩
  · rw [if_neg z]; exact o5 j hj
theorem isCl.tx {h h' : AH} {c : Nat} {F : FS} {tx' : List Nat} (s : isCl h c F) (e : eqO h h' (c + 1543) (c + 1545)) (hX : isTt h' (c + 1543) tx') (hl : tx'.length ≤ 80) (h8 : ∀ x ∈ tx', x < 128) : isCl h' c (F.1, F.2.1, tx') := by
  obtain ⟨h1, h2, h3, h4, h5, o1, o2, o3, o4⟩ := s
  exact ⟨h1.eq (e.2 c (by omega)), h2.eq (fun b b1 b2 => e.2 b (by omega)), h3.eq (fun b b1 b2 => e.2 b (by omega)), hX, h5.eq (fun b b1 b2 => e.2 b (by omega)), o1, o2, o3, hl, h8⟩
theorem psh_ok {S : St} {U : List St} (hS : okSt S) (hU : ∀ S ∈ U, okSt S) : ∀ S' ∈ psh U S, okSt S' := by
  unfold psh
  refine mem_snoc ?_ hS
  split
  · exact fun S' h9 => hU S' (List.mem_of_mem_drop h9)
  · exact hU
theorem rC_err {h : AH} {c : Nat} {F : FS} {tb : List String} {k : Int} {X : String} (hC : isCl h c F) (hk : k ≠ 0) (hX : tb.getD (k.toNat - 1) "" = X) : rC9 h c tb (k, 0, F) (.inr X) h := ⟨by rw [if_neg hk, hX], hC, eqO.rf⟩
theorem rC_ok {h h' : AH} {c : Nat} {F : FS} {tb : List String} {v : Int} (hC : isCl h' c F) (e : eqO h h' c (c + 1704)) : rC9 h c tb (0, v, F) (.inl (some (vi v))) h' := ⟨by rw [if_pos rfl], hC, e⟩
/-- the class saves its state -/
theorem c_save {γ : GG} {h : AH} {c : Nat} {F : FS} (hC : isCl h c F) : Call γ mX2_push 6 0 0 [vr (some (c + 309)), vr (some (c + 1))] h (rF (fun h' => isCl h' c (F.1, psh F.2.1 F.1, F.2.2) ∧ eqO h h' c (c + 1704))) := by
  refine Call.mono (fun r h' hq => ?_) (c_push (γ := γ) hC.2.2.1 hC.2.1 hC.2.2.2.2.2.1.1.2.1 (by omega))
  obtain ⟨q1, q2, q3⟩ := hq
  have o := hC.2.2.2.2.2
  exact ⟨q1, hC.hi q3 q2 (by have := psh_len F.2.1 F.1 o.2.1; omega) (psh_ok o.1 o.2.2.1), q3.mono (by omega) (by omega)⟩
theorem c_rNode {γ : GG} {h : AH} {c : Nat} {F : FS} {v : Int} (hC : isCl h c F) (hv : (-2147483648 ≤ v ∧ v ≤ 2147483647)) (hq : 0 ≤ v ∧ v < (tn F.1.1 : Int)) : Call γ mX11_requireNode 0 0 0 [vr (some c), vi v] h (rN h) := by
  obtain ⟨hkc, r0, r1, r2, r3, r4, r5, r6, r7, r8, hks, s0, s1, hkq, hkt⟩ := cl_f hC
  have gt0 : gi h (c + 1 + 1) 0 = (tn F.1.1 : Int) := hC.2.1.2.1.2.1
  have n40 : tn F.1.1 ≤ 40 := hC.2.2.2.2.2.1.1.2.1
  refine Call.of (ls := [(0, vr (some c)), (1, vi v)]) vX11_requireNode.1 (Nat.le_of_ble_eq_true rfl) rfl ?_
  refine aw_iload_n dX11_requireNode_0 rfl ?_
  refine aw_if_lt (tgt := 18) dX11_requireNode_1 rfl (by omega) (fun c1 => ?_) (fun c1 => ?_)
  · exact absurd c1 (by omega)
  · refine aw_iload_n dX11_requireNode_4 rfl ?_
    refine aw_aload_n dX11_requireNode_5 rfl ?_
    refine aw_getr' (j := 0) dX11_requireNode_6 fX11_12 rfl (by assumption) rfl (by assumption) ?_
    refine aw_getr' (j := 0) dX11_requireNode_9 fX11_73 rfl (by assumption) rfl (by assumption) ?_
    refine aw_geti' (j := 0) dX11_requireNode_12 fX11_77 rfl (by assumption) rfl gt0 ?_
    refine aw_ic_lt (tgt := 29) dX11_requireNode_15 rfl (by omega) (by omega) (fun c15 => ?_) (fun c15 => ?_)
    · exact aw_return dX11_requireNode_29 rfl (Or.inl rfl) ⟨rfl, rfl⟩
    · exact absurd c15 (by omega)
theorem c_rNode_x {γ : GG} {h : AH} {c : Nat} {F : FS} {v : Int} (hC : isCl h c F) (hv : (-2147483648 ≤ v ∧ v ≤ 2147483647)) (hn : nx h = none) (hq : ¬ (0 ≤ v ∧ v < (tn F.1.1 : Int))) : Call γ mX11_requireNode 6 1 6 [vr (some c), vi v] h (rX9 xnIO h) := by
  obtain ⟨hkc, r0, r1, r2, r3, r4, r5, r6, r7, r8, hks, s0, s1, hkq, hkt⟩ := cl_f hC
  have gt0 : gi h (c + 1 + 1) 0 = (tn F.1.1 : Int) := hC.2.1.2.1.2.1
  have n40 : tn F.1.1 ≤ 40 := hC.2.2.2.2.2.1.1.2.1
  by_cases q1 : v < 0
  · refine Call.of (ls := [(0, vr (some c)), (1, vi v)]) vX11_requireNode.1 (Nat.le_of_ble_eq_true rfl) rfl ?_
    refine aw_iload_n dX11_requireNode_0 rfl ?_
    refine aw_if_lt (tgt := 18) dX11_requireNode_1 rfl (by omega) (fun c1 => ?_) (fun c1 => ?_)
    · exact aw_throwW (twIO 272) rfl (List.mem_of_getElem? (i := 0) rfl) rfl dX11_requireNode_18 dX11_requireNode_21 dX11_requireNode_22 dX11_requireNode_25 dX11_requireNode_28 (by decide) (Nat.le_of_ble_eq_true rfl) (by decide) (by decide) hn ⟨rfl, rfl⟩
    · exact absurd c1 (by omega)
  · refine Call.of (ls := [(0, vr (some c)), (1, vi v)]) vX11_requireNode.1 (Nat.le_of_ble_eq_true rfl) rfl ?_
    refine aw_iload_n dX11_requireNode_0 rfl ?_
    refine aw_if_lt (tgt := 18) dX11_requireNode_1 rfl (by omega) (fun c1 => ?_) (fun c1 => ?_)
    · exact absurd c1 (by omega)
    · refine aw_iload_n dX11_requireNode_4 rfl ?_
      refine aw_aload_n dX11_requireNode_5 rfl ?_
      refine aw_getr' (j := 0) dX11_requireNode_6 fX11_12 rfl (by assumption) rfl (by assumption) ?_
      refine aw_getr' (j := 0) dX11_requireNode_9 fX11_73 rfl (by assumption) rfl (by assumption) ?_
      refine aw_geti' (j := 0) dX11_requireNode_12 fX11_77 rfl (by assumption) rfl gt0 ?_
      refine aw_ic_lt (tgt := 29) dX11_requireNode_15 rfl (by omega) (by omega) (fun c15 => ?_) (fun c15 => ?_)
      · exact absurd c15 (by omega)
      · exact aw_throwW (twIO 272) rfl (List.mem_of_getElem? (i := 0) rfl) rfl dX11_requireNode_18 dX11_requireNode_21 dX11_requireNode_22 dX11_requireNode_25 dX11_requireNode_28 (by decide) (Nat.le_of_ble_eq_true rfl) (by decide) (by decide) hn ⟨rfl, rfl⟩
theorem c_rPlace {γ : GG} {h : AH} {c : Nat} {v : Int} (hv : (-2147483648 ≤ v ∧ v ≤ 2147483647)) (hq : 0 ≤ v ∧ v ≤ 3) : Call γ mX11_requirePlace 0 0 0 [vr (some c), vi v] h (rN h) := by
  refine Call.of (ls := [(0, vr (some c)), (1, vi v)]) vX11_requirePlace.1 (Nat.le_of_ble_eq_true rfl) rfl ?_
  refine aw_iload_n dX11_requirePlace_0 rfl ?_
  refine aw_if_lt (tgt := 9) dX11_requirePlace_1 rfl (by omega) (fun c1 => ?_) (fun c1 => ?_)
  · exact absurd c1 (by omega)
  · refine aw_iload_n dX11_requirePlace_4 rfl ?_
    refine aw_iconst dX11_requirePlace_5 ?_
    refine aw_ic_lt (tgt := 20) dX11_requirePlace_6 rfl (by omega) (by omega) (fun c6 => ?_) (fun c6 => ?_)
    · exact aw_return dX11_requirePlace_20 rfl (Or.inl rfl) ⟨rfl, rfl⟩
    · exact absurd c6 (by omega)
theorem c_rPlace_x {γ : GG} {h : AH} {c : Nat} {v : Int} (hv : (-2147483648 ≤ v ∧ v ≤ 2147483647)) (hn : nx h = none) (hq : ¬ (0 ≤ v ∧ v ≤ 3)) : Call γ mX11_requirePlace 6 1 6 [vr (some c), vi v] h (rX9 xnIO h) := by
  by_cases q1 : v < 0
  · refine Call.of (ls := [(0, vr (some c)), (1, vi v)]) vX11_requirePlace.1 (Nat.le_of_ble_eq_true rfl) rfl ?_
    refine aw_iload_n dX11_requirePlace_0 rfl ?_
    refine aw_if_lt (tgt := 9) dX11_requirePlace_1 rfl (by omega) (fun c1 => ?_) (fun c1 => ?_)
    · exact aw_throwW (twIO 275) rfl (List.mem_of_getElem? (i := 7) rfl) rfl dX11_requirePlace_9 dX11_requirePlace_12 dX11_requirePlace_13 dX11_requirePlace_16 dX11_requirePlace_19 (by decide) (Nat.le_of_ble_eq_true rfl) (by decide) (by decide) hn ⟨rfl, rfl⟩
    · exact absurd c1 (by omega)
  · refine Call.of (ls := [(0, vr (some c)), (1, vi v)]) vX11_requirePlace.1 (Nat.le_of_ble_eq_true rfl) rfl ?_
    refine aw_iload_n dX11_requirePlace_0 rfl ?_
    refine aw_if_lt (tgt := 9) dX11_requirePlace_1 rfl (by omega) (fun c1 => ?_) (fun c1 => ?_)
    · exact absurd c1 (by omega)
    · refine aw_iload_n dX11_requirePlace_4 rfl ?_
      refine aw_iconst dX11_requirePlace_5 ?_
      refine aw_ic_lt (tgt := 20) dX11_requirePlace_6 rfl (by omega) (by omega) (fun c6 => ?_) (fun c6 => ?_)
      · exact absurd c6 (by omega)
      · exact aw_throwW (twIO 275) rfl (List.mem_of_getElem? (i := 7) rfl) rfl dX11_requirePlace_9 dX11_requirePlace_12 dX11_requirePlace_13 dX11_requirePlace_16 dX11_requirePlace_19 (by decide) (Nat.le_of_ble_eq_true rfl) (by decide) (by decide) hn ⟨rfl, rfl⟩
theorem c_rBelow {γ : GG} {h : AH} {c : Nat} {v b : Int} (hv : (-2147483648 ≤ v ∧ v ≤ 2147483647)) (hb : (-2147483648 ≤ b ∧ b ≤ 2147483647)) (hq : 0 ≤ v ∧ v < b) : Call γ mX11_requireBelow 0 0 0 [vr (some c), vi v, vi b] h (rN h) := by
  refine Call.of (ls := [(0, vr (some c)), (1, vi v), (2, vi b)]) vX11_requireBelow.1 (Nat.le_of_ble_eq_true rfl) rfl ?_
  refine aw_iload_n dX11_requireBelow_0 rfl ?_
  refine aw_if_lt (tgt := 9) dX11_requireBelow_1 rfl (by omega) (fun c1 => ?_) (fun c1 => ?_)
  · exact absurd c1 (by omega)
  · refine aw_iload_n dX11_requireBelow_4 rfl ?_
    refine aw_iload_n dX11_requireBelow_5 rfl ?_
    refine aw_ic_lt (tgt := 20) dX11_requireBelow_6 rfl (by omega) (by omega) (fun c6 => ?_) (fun c6 => ?_)
    · exact aw_return dX11_requireBelow_20 rfl (Or.inl rfl) ⟨rfl, rfl⟩
    · exact absurd c6 (by omega)
theorem c_rBelow_x {γ : GG} {h : AH} {c : Nat} {v b : Int} (hv : (-2147483648 ≤ v ∧ v ≤ 2147483647)) (hb : (-2147483648 ≤ b ∧ b ≤ 2147483647)) (hn : nx h = none) (hq : ¬ (0 ≤ v ∧ v < b)) : Call γ mX11_requireBelow 6 1 6 [vr (some c), vi v, vi b] h (rX9 xnIA h) := by
  by_cases q1 : v < 0
  · refine Call.of (ls := [(0, vr (some c)), (1, vi v), (2, vi b)]) vX11_requireBelow.1 (Nat.le_of_ble_eq_true rfl) rfl ?_
    refine aw_iload_n dX11_requireBelow_0 rfl ?_
    refine aw_if_lt (tgt := 9) dX11_requireBelow_1 rfl (by omega) (fun c1 => ?_) (fun c1 => ?_)
    · exact aw_throwW (twIA 279) rfl (List.mem_of_getElem? (i := 1) rfl) rfl dX11_requireBelow_9 dX11_requireBelow_12 dX11_requireBelow_13 dX11_requireBelow_16 dX11_requireBelow_19 (by decide) (Nat.le_of_ble_eq_true rfl) (by decide) (by decide) hn ⟨rfl, rfl⟩
    · exact absurd c1 (by omega)
  · refine Call.of (ls := [(0, vr (some c)), (1, vi v), (2, vi b)]) vX11_requireBelow.1 (Nat.le_of_ble_eq_true rfl) rfl ?_
    refine aw_iload_n dX11_requireBelow_0 rfl ?_
    refine aw_if_lt (tgt := 9) dX11_requireBelow_1 rfl (by omega) (fun c1 => ?_) (fun c1 => ?_)
    · exact absurd c1 (by omega)
    · refine aw_iload_n dX11_requireBelow_4 rfl ?_
      refine aw_iload_n dX11_requireBelow_5 rfl ?_
      refine aw_ic_lt (tgt := 20) dX11_requireBelow_6 rfl (by omega) (by omega) (fun c6 => ?_) (fun c6 => ?_)
      · exact absurd c6 (by omega)
      · exact aw_throwW (twIA 279) rfl (List.mem_of_getElem? (i := 1) rfl) rfl dX11_requireBelow_9 dX11_requireBelow_12 dX11_requireBelow_13 dX11_requireBelow_16 dX11_requireBelow_19 (by decide) (Nat.le_of_ble_eq_true rfl) (by decide) (by decide) hn ⟨rfl, rfl⟩
theorem c_rNotNeg {γ : GG} {h : AH} {c : Nat} {v : Int} (hv : (-2147483648 ≤ v ∧ v ≤ 2147483647)) (hq : 0 ≤ v) : Call γ mX11_requireNotNegative 0 0 0 [vr (some c), vi v] h (rN h) := by
  refine Call.of (ls := [(0, vr (some c)), (1, vi v)]) vX11_requireNotNegative.1 (Nat.le_of_ble_eq_true rfl) rfl ?_
  refine aw_iload_n dX11_requireNotNegative_0 rfl ?_
  refine aw_if_ge (tgt := 15) dX11_requireNotNegative_1 rfl (by omega) (fun c1 => ?_) (fun c1 => ?_)
  · exact aw_return dX11_requireNotNegative_15 rfl (Or.inl rfl) ⟨rfl, rfl⟩
  · exact absurd c1 (by omega)
theorem c_rNotNeg_x {γ : GG} {h : AH} {c : Nat} {v : Int} (hv : (-2147483648 ≤ v ∧ v ≤ 2147483647)) (hn : nx h = none) (hq : ¬ (0 ≤ v)) : Call γ mX11_requireNotNegative 6 1 6 [vr (some c), vi v] h (rX9 xnIA h) := by
  refine Call.of (ls := [(0, vr (some c)), (1, vi v)]) vX11_requireNotNegative.1 (Nat.le_of_ble_eq_true rfl) rfl ?_
  refine aw_iload_n dX11_requireNotNegative_0 rfl ?_
  refine aw_if_ge (tgt := 15) dX11_requireNotNegative_1 rfl (by omega) (fun c1 => ?_) (fun c1 => ?_)
  · exact absurd c1 (by omega)
  · exact aw_throwW (twIA 281) rfl (List.mem_of_getElem? (i := 5) rfl) rfl dX11_requireNotNegative_4 dX11_requireNotNegative_7 dX11_requireNotNegative_8 dX11_requireNotNegative_11 dX11_requireNotNegative_14 (by decide) (Nat.le_of_ble_eq_true rfl) (by decide) (by decide) hn ⟨rfl, rfl⟩
theorem c_rQuery {γ : GG} {h : AH} {c : Nat} {p : Nat} {F : FS} (hC : isCl h c F) (hp : p < 4) (hq : F.1.2 p ≠ []) : Call γ mX11_requireQuery 0 0 0 [vr (some c), vi (p : Int)] h (rN h) := by
  obtain ⟨hkc, r0, r1, r2, r3, r4, r5, r6, r7, r8, hks, s0, s1, hkq, hkt⟩ := cl_f hC
  have gt0 : gi h (c + 1 + 1) 0 = (tn F.1.1 : Int) := hC.2.1.2.1.2.1
  have n40 : tn F.1.1 ≤ 40 := hC.2.2.2.2.2.1.1.2.1
  obtain ⟨rq, π, ρ, hQ⟩ := cl_q hC hp
  have hkk := hQ.1.1
  have gl0 := hQ.2.1
  have l4 := hQ.2.2.1
  have l1 : 1 ≤ (F.1.2 p).length := one_le hq
  refine Call.of (ls := [(0, vr (some c)), (1, vi (p : Int))]) vX11_requireQuery.1 (Nat.le_of_ble_eq_true rfl) rfl ?_
  refine aw_aload_n dX11_requireQuery_0 rfl ?_
  refine aw_getr' (j := 0) dX11_requireQuery_1 fX11_12 rfl (by assumption) rfl (by assumption) ?_
  refine aw_getr' (j := 1) dX11_requireQuery_4 fX11_163 rfl (by assumption) rfl (by assumption) ?_
  refine aw_iload_n dX11_requireQuery_7 rfl ?_
  refine aw_aald5' dX11_requireQuery_8 (by assumption) (by omega) (by first | decide | omega) rq ?_
  refine aw_geti' (j := 0) dX11_requireQuery_9 fX11_174 rfl (by assumption) rfl gl0 ?_
  refine aw_if_ne (tgt := 26) dX11_requireQuery_12 rfl (by omega) (fun c12 => ?_) (fun c12 => ?_)
  · exact aw_return dX11_requireQuery_26 rfl (Or.inl rfl) ⟨rfl, rfl⟩
  · exact absurd c12 (by omega)
theorem c_rQuery_x {γ : GG} {h : AH} {c : Nat} {p : Nat} {F : FS} (hC : isCl h c F) (hp : p < 4) (hn : nx h = none) (hq : ¬ (F.1.2 p ≠ [])) : Call γ mX11_requireQuery 6 1 6 [vr (some c), vi (p : Int)] h (rX9 xnIS h) := by
  obtain ⟨hkc, r0, r1, r2, r3, r4, r5, r6, r7, r8, hks, s0, s1, hkq, hkt⟩ := cl_f hC
  have gt0 : gi h (c + 1 + 1) 0 = (tn F.1.1 : Int) := hC.2.1.2.1.2.1
  have n40 : tn F.1.1 ≤ 40 := hC.2.2.2.2.2.1.1.2.1
  obtain ⟨rq, π, ρ, hQ⟩ := cl_q hC hp
  have hkk := hQ.1.1
  have gl0 := hQ.2.1
  have l4 := hQ.2.2.1
  have hq : F.1.2 p = [] := by simpa using hq
  rw [hq] at gl0
  have gl0 : gi h (c + 1 + 12 + 74 * p) 0 = 0 := gl0
  refine Call.of (ls := [(0, vr (some c)), (1, vi (p : Int))]) vX11_requireQuery.1 (Nat.le_of_ble_eq_true rfl) rfl ?_
  refine aw_aload_n dX11_requireQuery_0 rfl ?_
  refine aw_getr' (j := 0) dX11_requireQuery_1 fX11_12 rfl (by assumption) rfl (by assumption) ?_
  refine aw_getr' (j := 1) dX11_requireQuery_4 fX11_163 rfl (by assumption) rfl (by assumption) ?_
  refine aw_iload_n dX11_requireQuery_7 rfl ?_
  refine aw_aald5' dX11_requireQuery_8 (by assumption) (by omega) (by first | decide | omega) rq ?_
  refine aw_geti' (j := 0) dX11_requireQuery_9 fX11_174 rfl (by assumption) rfl gl0 ?_
  refine aw_if_ne (tgt := 26) dX11_requireQuery_12 rfl (by omega) (fun c12 => ?_) (fun c12 => ?_)
  · exact absurd c12 (by omega)
  · exact aw_throwW (twIS 277) rfl (List.mem_of_getElem? (i := 8) rfl) rfl dX11_requireQuery_15 dX11_requireQuery_18 dX11_requireQuery_19 dX11_requireQuery_22 dX11_requireQuery_25 (by decide) (Nat.le_of_ble_eq_true rfl) (by decide) (by decide) hn ⟨rfl, rfl⟩
