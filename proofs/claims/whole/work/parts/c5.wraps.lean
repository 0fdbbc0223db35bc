/-! the law's own methods: a call of the class, its value told aside, its exception as a number -/
def lk9 : List (Nat × String) := [(13, xnIO), (15, xnIA), (17, xnIS), (23, xnUO)]
theorem lkIO : (13, xnIO) ∈ lk9 := List.mem_of_getElem? (i := 0) rfl
theorem lkIA : (15, xnIA) ∈ lk9 := List.mem_of_getElem? (i := 1) rfl
theorem lkIS : (17, xnIS) ∈ lk9 := List.mem_of_getElem? (i := 2) rfl
theorem lkUO : (23, xnUO) ∈ lk9 := List.mem_of_getElem? (i := 3) rfl
theorem ncIAIO : (xnIA, xnIO) ∈ nc9 := List.mem_of_getElem? (i := 0) rfl
theorem ncISIO : (xnIS, xnIO) ∈ nc9 := List.mem_of_getElem? (i := 1) rfl
theorem ncUOIO : (xnUO, xnIO) ∈ nc9 := List.mem_of_getElem? (i := 2) rfl
theorem ncISIA : (xnIS, xnIA) ∈ nc9 := List.mem_of_getElem? (i := 3) rfl
theorem ncIAIS : (xnIA, xnIS) ∈ nc9 := List.mem_of_getElem? (i := 4) rfl
theorem lk9_ok : ∀ q ∈ lk9, q.1 ≠ 0 ∧ Cond.classLink RL q.1 q.2 ∈ lw_tbl ∧ Cond.castable q.2 q.2 ∈ lw_tbl := List.forall_mem_cons.mpr ⟨⟨by decide, List.mem_append_right _ (List.mem_of_getElem? (i := 676) (by decide +kernel)), List.mem_append_right _ (List.mem_of_getElem? (i := 689) (by decide +kernel))⟩, List.forall_mem_cons.mpr ⟨⟨by decide, List.mem_append_right _ (List.mem_of_getElem? (i := 677) (by decide +kernel)), List.mem_append_right _ (List.mem_of_getElem? (i := 761) (by decide +kernel))⟩, List.forall_mem_cons.mpr ⟨⟨by decide, List.mem_append_right _ (List.mem_of_getElem? (i := 678) (by decide +kernel)), List.mem_append_right _ (List.mem_of_getElem? (i := 777) (by decide +kernel))⟩, List.forall_mem_cons.mpr ⟨⟨by decide, List.mem_append_right _ (List.mem_of_getElem? (i := 834) (by decide +kernel)), List.mem_append_right _ (List.mem_of_getElem? (i := 841) (by decide +kernel))⟩, fun _ h9 => absurd h9 List.not_mem_nil⟩⟩⟩⟩
theorem hd9 {M : MD} {pc hp : Nat} (X : String) (pre suf : List (Nat × Nat × Nat × Nat)) (q : Nat × Nat × Nat × Nat) (hc : M.1.cls = RL) (ht : M.2.2.2.2 = pre ++ q :: suf) (hpre : ∀ z ∈ pre, ∃ n9, (z.2.2.2, n9) ∈ lk9 ∧ (X, n9) ∈ nc9) (hq : (q.2.2.2, X) ∈ lk9) (hv : covers ⟨q.1, q.2.1, q.2.2.1, q.2.2.2⟩ pc = true) (he : q.2.2.1 = hp) : Hd9 M pc X hp := by
  obtain ⟨e1, e2, e3⟩ := lk9_ok _ hq
  refine ⟨tableOf pre, ⟨q.1, q.2.1, q.2.2.1, q.2.2.2⟩, tableOf suf, X, ?_, fun z hz => ?_, hv, e1, ?_, e3, he⟩
  · rw [ht]
    simp only [tableOf, List.map_append, List.map_cons]
  · obtain ⟨y, hy, rfl⟩ := List.mem_map.mp hz
    obtain ⟨n9, g1, g2⟩ := hpre y hy
    obtain ⟨f1, f2, -⟩ := lk9_ok _ g1
    exact Or.inr ⟨f1, n9, by rw [hc]; exact f2, g2⟩
  · rw [hc]; exact e2
def rL (h : AH) (c ob : Nat) (q : Int × Int × FS) : AR → AH → Prop := rE (vi q.1) (fun h' => isCl h' c q.2.2 ∧ nx h' = none ∧ (q.1 = 0 → gl h' ob 0 = i6 q.2.1) ∧ kd h' ob = kd h ob ∧ ∀ b, (b < c ∨ c + 1704 ≤ b) → b ≠ ob → eqA h h' b)
theorem rL_ok {h h' : AH} {c ob : Nat} {q : Int × Int × FS} (e : q.1 = 0) (q2 : isCl h' c q.2.2) (q3 : eqO h h' c (c + 1704)) (hn : nx h = none) (ho : ob < c ∨ c + 1704 ≤ ob) : rL h c ob q (.inl (some (vi 0))) (sl h' ob 0 (i6 q.2.1)) := by
  refine ⟨by rw [e], q2.eq (fun b b1 b2 => eqA.sl (by omega)), q3.1.trans hn, fun _ => by rw [gl_sl, if_pos ⟨rfl, rfl⟩], (q3.2 ob ho).1, fun b hb h9 => (q3.2 b hb).tr (eqA.sl h9)⟩
theorem rL_x {h h' : AH} {c ob : Nat} {q : Int × Int × FS} {k : Int} (e : q.1 = k) (h0 : k ≠ 0) (q2 : isCl h' c q.2.2) (q3 : eqO h h' c (c + 1704)) (hn : nx h = none) (ho : ob < c ∨ c + 1704 ≤ ob) : rL h c ob q (.inl (some (vi k))) h' := by
  refine ⟨by rw [e], q2, q3.1.trans hn, fun z => absurd (e.symm.trans z) h0, (q3.2 ob ho).1, fun b hb h9 => q3.2 b hb⟩
theorem sL_addNode : mSH mL_addNode 5 := ⟨by decide, by decide +kernel, by decide +kernel, by decide +kernel, by decide +kernel, List.mem_append_right _ (List.mem_of_getElem? (i := 675) (by decide +kernel)), zL, by decide, List.mem_append_right _ (List.mem_of_getElem? (i := 674) (by decide +kernel))⟩
theorem cd_addNode {F : FS} {p x y : Int} : (opAdd F p x y).1 = 0 ∨ (opAdd F p x y).1 = 1 ∨ (opAdd F p x y).1 = 2 ∨ (opAdd F p x y).1 = 3 := by
  unfold opAdd
  repeat' split
  all_goals simp
theorem w_addNode {γ : GG} {h : AH} {c ob : Nat} {F : FS} {p x y : Int} (hC : isCl h c F) (hn : nx h = none) (hk : kd h ob = some (.inr (2, 1))) (ho : ob < c ∨ c + 1704 ≤ ob) (hp : (-2147483648 ≤ p ∧ p ≤ 2147483647)) (hx : (-2147483648 ≤ x ∧ x ≤ 2147483647)) (hy : (-2147483648 ≤ y ∧ y ≤ 2147483647)) : CallH γ mL_addNode 9 1 6 [vr (some c), vi p, vi x, vi y, vr (some ob)] h (rL h c ob (opAdd F p x y)) := by
  refine CallH.of (ls := [(0, vr (some c)), (1, vi p), (2, vi x), (3, vi y), (4, vr (some ob))]) sL_addNode (Nat.le_of_ble_eq_true rfl) rfl ?_
  refine ap_aload dL_addNode_0 rfl ?_
  refine ap_iconst dL_addNode_2 ?_
  refine ap_aload_n dL_addNode_3 rfl ?_
  refine ap_iload_n dL_addNode_4 rfl ?_
  refine ap_iload_n dL_addNode_5 rfl ?_
  refine ap_iload_n dL_addNode_6 rfl ?_
  refine ap_invVC dL_addNode_7 vX11_addNode kL_7 (c_addNode (γ := γ) hC hn hp hx hy) ⟨_, hC.1.1, _, _, rfl⟩ rfl rfl (by decide) (by decide) (by decide) (Nat.le_of_ble_eq_true rfl) ?_ ?_
  · rintro v9 h' ⟨q1, q2, q3⟩
    by_cases e : (opAdd F p x y).1 = 0
    · rw [if_pos e] at q1
      cases q1
      have hk' : kd h' ob = some (.inr (2, 1)) := ((q3.2 ob ho).1).trans hk
      refine aw_i2l dL_addNode_10 rfl ?_
      refine aw_last dL_addNode_11 hk' ⟨by omega, by omega⟩ (by omega) ?_
      refine aw_goto (tgt := 27) dL_addNode_12 (by decide) ?_
      refine aw_iconst dL_addNode_27 ?_
      exact aw_ireturn dL_addNode_28 rfl (Or.inr (q3.1.trans hn)) (rL_ok e q2 q3 hn ho)
    · rw [if_neg e] at q1
      cases q1
  · rintro X h' ⟨q1, q2, q3⟩
    rcases cd_addNode (F := F) (p := p) (x := x) (y := y) with e | e | e | e
    · rw [if_pos e] at q1
      cases q1
    · have e0 : (opAdd F p x y).1 ≠ 0 := by omega
      rw [if_neg e0, e] at q1
      have eX : X = xnIO := Sum.inr.inj q1
      subst eX
      refine ⟨15, hd9 xnIO [] [(0, 12, 19, 15), (0, 12, 23, 17)] (0, 12, 15, 13) rfl rfl (fun _ h9 => absurd h9 List.not_mem_nil) lkIO rfl rfl, fun q => ?_⟩
      refine aw_astore dL_addNode_15 (by decide) rfl ?_
      refine aw_iconst dL_addNode_17 ?_
      exact aw_ireturn dL_addNode_18 rfl (Or.inr (q3.1.trans hn)) (rL_x e (by decide) q2 q3 hn ho)
    · have e0 : (opAdd F p x y).1 ≠ 0 := by omega
      rw [if_neg e0, e] at q1
      have eX : X = xnIA := Sum.inr.inj q1
      subst eX
      refine ⟨19, hd9 xnIA [(0, 12, 15, 13)] [(0, 12, 23, 17)] (0, 12, 19, 15) rfl rfl (List.forall_mem_cons.mpr ⟨⟨xnIO, lkIO, ncIAIO⟩, fun _ h9 => absurd h9 List.not_mem_nil⟩) lkIA rfl rfl, fun q => ?_⟩
      refine aw_astore dL_addNode_19 (by decide) rfl ?_
      refine aw_iconst dL_addNode_21 ?_
      exact aw_ireturn dL_addNode_22 rfl (Or.inr (q3.1.trans hn)) (rL_x e (by decide) q2 q3 hn ho)
    · have e0 : (opAdd F p x y).1 ≠ 0 := by omega
      rw [if_neg e0, e] at q1
      have eX : X = xnIS := Sum.inr.inj q1
      subst eX
      refine ⟨23, hd9 xnIS [(0, 12, 15, 13), (0, 12, 19, 15)] [] (0, 12, 23, 17) rfl rfl (List.forall_mem_cons.mpr ⟨⟨xnIO, lkIO, ncISIO⟩, List.forall_mem_cons.mpr ⟨⟨xnIA, lkIA, ncISIA⟩, fun _ h9 => absurd h9 List.not_mem_nil⟩⟩) lkIS rfl rfl, fun q => ?_⟩
      refine aw_astore dL_addNode_23 (by decide) rfl ?_
      refine aw_iconst dL_addNode_25 ?_
      exact aw_ireturn dL_addNode_26 rfl (Or.inr (q3.1.trans hn)) (rL_x e (by decide) q2 q3 hn ho)
theorem sL_removeNode : mSH mL_removeNode 3 := ⟨by decide, by decide +kernel, by decide +kernel, by decide +kernel, by decide +kernel, List.mem_append_right _ (List.mem_of_getElem? (i := 833) (by decide +kernel)), zL, by decide, List.mem_append_right _ (List.mem_of_getElem? (i := 832) (by decide +kernel))⟩
theorem cd_removeNode {F : FS} {p : Int} : (opRem F p).1 = 0 ∨ (opRem F p).1 = 1 ∨ (opRem F p).1 = 2 := by
  unfold opRem
  repeat' split
  all_goals simp
theorem w_removeNode {γ : GG} {h : AH} {c ob : Nat} {F : FS} {p : Int} (hC : isCl h c F) (hn : nx h = none) (hk : kd h ob = some (.inr (2, 1))) (ho : ob < c ∨ c + 1704 ≤ ob) (hp : (-2147483648 ≤ p ∧ p ≤ 2147483647)) : CallH γ mL_removeNode 9 1 6 [vr (some c), vi p, vr (some ob)] h (rL h c ob (opRem F p)) := by
  refine CallH.of (ls := [(0, vr (some c)), (1, vi p), (2, vr (some ob))]) sL_removeNode (Nat.le_of_ble_eq_true rfl) rfl ?_
  refine ap_aload_n dL_removeNode_0 rfl ?_
  refine ap_iconst dL_removeNode_1 ?_
  refine ap_aload_n dL_removeNode_2 rfl ?_
  refine ap_iload_n dL_removeNode_3 rfl ?_
  refine ap_invVC dL_removeNode_4 vX11_removeNode kL_19 (c_removeNode (γ := γ) hC hn hp) ⟨_, hC.1.1, _, _, rfl⟩ rfl rfl (by decide) (by decide) (by decide) (Nat.le_of_ble_eq_true rfl) ?_ ?_
  · rintro v9 h' ⟨q1, q2, q3⟩
    by_cases e : (opRem F p).1 = 0
    · rw [if_pos e] at q1
      cases q1
      have hk' : kd h' ob = some (.inr (2, 1)) := ((q3.2 ob ho).1).trans hk
      refine aw_i2l dL_removeNode_7 rfl ?_
      refine aw_last dL_removeNode_8 hk' ⟨by omega, by omega⟩ (by omega) ?_
      refine aw_goto (tgt := 18) dL_removeNode_9 (by decide) ?_
      refine aw_iconst dL_removeNode_18 ?_
      exact aw_ireturn dL_removeNode_19 rfl (Or.inr (q3.1.trans hn)) (rL_ok e q2 q3 hn ho)
    · rw [if_neg e] at q1
      cases q1
  · rintro X h' ⟨q1, q2, q3⟩
    rcases cd_removeNode (F := F) (p := p) with e | e | e
    · rw [if_pos e] at q1
      cases q1
    · have e0 : (opRem F p).1 ≠ 0 := by omega
      rw [if_neg e0, e] at q1
      have eX : X = xnIO := Sum.inr.inj q1
      subst eX
      refine ⟨12, hd9 xnIO [] [(0, 9, 15, 23)] (0, 9, 12, 13) rfl rfl (fun _ h9 => absurd h9 List.not_mem_nil) lkIO rfl rfl, fun q => ?_⟩
      refine aw_astore_n dL_removeNode_12 (by decide) rfl ?_
      refine aw_iconst dL_removeNode_13 ?_
      exact aw_ireturn dL_removeNode_14 rfl (Or.inr (q3.1.trans hn)) (rL_x e (by decide) q2 q3 hn ho)
    · have e0 : (opRem F p).1 ≠ 0 := by omega
      rw [if_neg e0, e] at q1
      have eX : X = xnUO := Sum.inr.inj q1
      subst eX
      refine ⟨15, hd9 xnUO [(0, 9, 12, 13)] [] (0, 9, 15, 23) rfl rfl (List.forall_mem_cons.mpr ⟨⟨xnIO, lkIO, ncUOIO⟩, fun _ h9 => absurd h9 List.not_mem_nil⟩) lkUO rfl rfl, fun q => ?_⟩
      refine aw_astore_n dL_removeNode_15 (by decide) rfl ?_
      refine aw_iconst dL_removeNode_16 ?_
      exact aw_ireturn dL_removeNode_17 rfl (Or.inr (q3.1.trans hn)) (rL_x e (by decide) q2 q3 hn ho)
theorem sL_moveNode : mSH mL_moveNode 4 := ⟨by decide, by decide +kernel, by decide +kernel, by decide +kernel, by decide +kernel, List.mem_append_right _ (List.mem_of_getElem? (i := 861) (by decide +kernel)), zL, by decide, List.mem_append_right _ (List.mem_of_getElem? (i := 860) (by decide +kernel))⟩
theorem cd_moveNode {F : FS} {v p : Int} : (opMov F v p).1 = 0 ∨ (opMov F v p).1 = 1 ∨ (opMov F v p).1 = 2 := by
  unfold opMov
  repeat' split
  all_goals simp
theorem w_moveNode {γ : GG} {h : AH} {c ob : Nat} {F : FS} {v p : Int} (hC : isCl h c F) (hn : nx h = none) (hk : kd h ob = some (.inr (2, 1))) (ho : ob < c ∨ c + 1704 ≤ ob) (hv : (-2147483648 ≤ v ∧ v ≤ 2147483647)) (hp : (-2147483648 ≤ p ∧ p ≤ 2147483647)) : CallH γ mL_moveNode 9 1 6 [vr (some c), vi v, vi p, vr (some ob)] h (rL h c ob (opMov F v p)) := by
  refine CallH.of (ls := [(0, vr (some c)), (1, vi v), (2, vi p), (3, vr (some ob))]) sL_moveNode (Nat.le_of_ble_eq_true rfl) rfl ?_
  refine ap_aload_n dL_moveNode_0 rfl ?_
  refine ap_iconst dL_moveNode_1 ?_
  refine ap_aload_n dL_moveNode_2 rfl ?_
  refine ap_iload_n dL_moveNode_3 rfl ?_
  refine ap_iload_n dL_moveNode_4 rfl ?_
  refine ap_invVC dL_moveNode_5 vX11_moveNode kL_25 (c_moveNode (γ := γ) hC hn hv hp) ⟨_, hC.1.1, _, _, rfl⟩ rfl rfl (by decide) (by decide) (by decide) (Nat.le_of_ble_eq_true rfl) ?_ ?_
  · rintro v9 h' ⟨q1, q2, q3⟩
    by_cases e : (opMov F v p).1 = 0
    · rw [if_pos e] at q1
      cases q1
      have hk' : kd h' ob = some (.inr (2, 1)) := ((q3.2 ob ho).1).trans hk
      refine aw_i2l dL_moveNode_8 rfl ?_
      refine aw_last dL_moveNode_9 hk' ⟨by omega, by omega⟩ (by omega) ?_
      refine aw_goto (tgt := 21) dL_moveNode_10 (by decide) ?_
      refine aw_iconst dL_moveNode_21 ?_
      exact aw_ireturn dL_moveNode_22 rfl (Or.inr (q3.1.trans hn)) (rL_ok e q2 q3 hn ho)
    · rw [if_neg e] at q1
      cases q1
  · rintro X h' ⟨q1, q2, q3⟩
    rcases cd_moveNode (F := F) (v := v) (p := p) with e | e | e
    · rw [if_pos e] at q1
      cases q1
    · have e0 : (opMov F v p).1 ≠ 0 := by omega
      rw [if_neg e0, e] at q1
      have eX : X = xnIO := Sum.inr.inj q1
      subst eX
      refine ⟨13, hd9 xnIO [] [(0, 10, 17, 23)] (0, 10, 13, 13) rfl rfl (fun _ h9 => absurd h9 List.not_mem_nil) lkIO rfl rfl, fun q => ?_⟩
      refine aw_astore dL_moveNode_13 (by decide) rfl ?_
      refine aw_iconst dL_moveNode_15 ?_
      exact aw_ireturn dL_moveNode_16 rfl (Or.inr (q3.1.trans hn)) (rL_x e (by decide) q2 q3 hn ho)
    · have e0 : (opMov F v p).1 ≠ 0 := by omega
      rw [if_neg e0, e] at q1
      have eX : X = xnUO := Sum.inr.inj q1
      subst eX
      refine ⟨17, hd9 xnUO [(0, 10, 13, 13)] [] (0, 10, 17, 23) rfl rfl (List.forall_mem_cons.mpr ⟨⟨xnIO, lkIO, ncUOIO⟩, fun _ h9 => absurd h9 List.not_mem_nil⟩) lkUO rfl rfl, fun q => ?_⟩
      refine aw_astore dL_moveNode_17 (by decide) rfl ?_
      refine aw_iconst dL_moveNode_19 ?_
      exact aw_ireturn dL_moveNode_20 rfl (Or.inr (q3.1.trans hn)) (rL_x e (by decide) q2 q3 hn ho)
theorem sL_setNode : mSH mL_setNode 5 := ⟨by decide, by decide +kernel, by decide +kernel, by decide +kernel, by decide +kernel, List.mem_append_right _ (List.mem_of_getElem? (i := 873) (by decide +kernel)), zL, by decide, List.mem_append_right _ (List.mem_of_getElem? (i := 872) (by decide +kernel))⟩
theorem cd_setNode {F : FS} {v x y : Int} : (opSet F v x y).1 = 0 ∨ (opSet F v x y).1 = 1 ∨ (opSet F v x y).1 = 2 := by
  unfold opSet
  repeat' split
  all_goals simp
theorem w_setNode {γ : GG} {h : AH} {c ob : Nat} {F : FS} {v x y : Int} (hC : isCl h c F) (hn : nx h = none) (hk : kd h ob = some (.inr (2, 1))) (ho : ob < c ∨ c + 1704 ≤ ob) (hv : (-2147483648 ≤ v ∧ v ≤ 2147483647)) (hx : (-2147483648 ≤ x ∧ x ≤ 2147483647)) (hy : (-2147483648 ≤ y ∧ y ≤ 2147483647)) : CallH γ mL_setNode 9 1 6 [vr (some c), vi v, vi x, vi y, vr (some ob)] h (rL h c ob (opSet F v x y)) := by
  refine CallH.of (ls := [(0, vr (some c)), (1, vi v), (2, vi x), (3, vi y), (4, vr (some ob))]) sL_setNode (Nat.le_of_ble_eq_true rfl) rfl ?_
  refine ap_aload dL_setNode_0 rfl ?_
  refine ap_iconst dL_setNode_2 ?_
  refine ap_aload_n dL_setNode_3 rfl ?_
  refine ap_iload_n dL_setNode_4 rfl ?_
  refine ap_iload_n dL_setNode_5 rfl ?_
  refine ap_iload_n dL_setNode_6 rfl ?_
  refine ap_invVC dL_setNode_7 vX11_setNode kL_29 (c_setNode (γ := γ) hC hn hv hx hy) ⟨_, hC.1.1, _, _, rfl⟩ rfl rfl (by decide) (by decide) (by decide) (Nat.le_of_ble_eq_true rfl) ?_ ?_
  · rintro v9 h' ⟨q1, q2, q3⟩
    by_cases e : (opSet F v x y).1 = 0
    · rw [if_pos e] at q1
      cases q1
      have hk' : kd h' ob = some (.inr (2, 1)) := ((q3.2 ob ho).1).trans hk
      refine aw_i2l dL_setNode_10 rfl ?_
      refine aw_last dL_setNode_11 hk' ⟨by omega, by omega⟩ (by omega) ?_
      refine aw_goto (tgt := 23) dL_setNode_12 (by decide) ?_
      refine aw_iconst dL_setNode_23 ?_
      exact aw_ireturn dL_setNode_24 rfl (Or.inr (q3.1.trans hn)) (rL_ok e q2 q3 hn ho)
    · rw [if_neg e] at q1
      cases q1
  · rintro X h' ⟨q1, q2, q3⟩
    rcases cd_setNode (F := F) (v := v) (x := x) (y := y) with e | e | e
    · rw [if_pos e] at q1
      cases q1
    · have e0 : (opSet F v x y).1 ≠ 0 := by omega
      rw [if_neg e0, e] at q1
      have eX : X = xnIO := Sum.inr.inj q1
      subst eX
      refine ⟨15, hd9 xnIO [] [(0, 12, 19, 15)] (0, 12, 15, 13) rfl rfl (fun _ h9 => absurd h9 List.not_mem_nil) lkIO rfl rfl, fun q => ?_⟩
      refine aw_astore dL_setNode_15 (by decide) rfl ?_
      refine aw_iconst dL_setNode_17 ?_
      exact aw_ireturn dL_setNode_18 rfl (Or.inr (q3.1.trans hn)) (rL_x e (by decide) q2 q3 hn ho)
    · have e0 : (opSet F v x y).1 ≠ 0 := by omega
      rw [if_neg e0, e] at q1
      have eX : X = xnIA := Sum.inr.inj q1
      subst eX
      refine ⟨19, hd9 xnIA [(0, 12, 15, 13)] [] (0, 12, 19, 15) rfl rfl (List.forall_mem_cons.mpr ⟨⟨xnIO, lkIO, ncIAIO⟩, fun _ h9 => absurd h9 List.not_mem_nil⟩) lkIA rfl rfl, fun q => ?_⟩
      refine aw_astore dL_setNode_19 (by decide) rfl ?_
      refine aw_iconst dL_setNode_21 ?_
      exact aw_ireturn dL_setNode_22 rfl (Or.inr (q3.1.trans hn)) (rL_x e (by decide) q2 q3 hn ho)
theorem sL_node : mSH mL_node 4 := ⟨by decide, by decide +kernel, by decide +kernel, by decide +kernel, by decide +kernel, List.mem_append_right _ (List.mem_of_getElem? (i := 880) (by decide +kernel)), zL, by decide, List.mem_append_right _ (List.mem_of_getElem? (i := 879) (by decide +kernel))⟩
theorem cd_node {F : FS} {v x : Int} : (opNod F v x).1 = 0 ∨ (opNod F v x).1 = 1 ∨ (opNod F v x).1 = 2 := by
  unfold opNod
  repeat' split
  all_goals simp
theorem w_node {γ : GG} {h : AH} {c ob : Nat} {F : FS} {v x : Int} (hC : isCl h c F) (hn : nx h = none) (hk : kd h ob = some (.inr (2, 1))) (ho : ob < c ∨ c + 1704 ≤ ob) (hv : (-2147483648 ≤ v ∧ v ≤ 2147483647)) (hx : (-2147483648 ≤ x ∧ x ≤ 2147483647)) : CallH γ mL_node 8 1 6 [vr (some c), vi v, vi x, vr (some ob)] h (rL h c ob (opNod F v x)) := by
  refine CallH.of (ls := [(0, vr (some c)), (1, vi v), (2, vi x), (3, vr (some ob))]) sL_node (Nat.le_of_ble_eq_true rfl) rfl ?_
  refine ap_aload_n dL_node_0 rfl ?_
  refine ap_iconst dL_node_1 ?_
  refine ap_aload_n dL_node_2 rfl ?_
  refine ap_iload_n dL_node_3 rfl ?_
  refine ap_iload_n dL_node_4 rfl ?_
  refine ap_invVC dL_node_5 vX11_node kL_32 (c_node (γ := γ) hC hn hv hx) ⟨_, hC.1.1, _, _, rfl⟩ rfl rfl (by decide) (by decide) (by decide) (Nat.le_of_ble_eq_true rfl) ?_ ?_
  · rintro v9 h' ⟨q1, q2, q3⟩
    by_cases e : (opNod F v x).1 = 0
    · rw [if_pos e] at q1
      cases q1
      have hk' : kd h' ob = some (.inr (2, 1)) := ((q3.2 ob ho).1).trans hk
      refine aw_i2l dL_node_8 rfl ?_
      refine aw_last dL_node_9 hk' ⟨by omega, by omega⟩ (by omega) ?_
      refine aw_goto (tgt := 21) dL_node_10 (by decide) ?_
      refine aw_iconst dL_node_21 ?_
      exact aw_ireturn dL_node_22 rfl (Or.inr (q3.1.trans hn)) (rL_ok e q2 q3 hn ho)
    · rw [if_neg e] at q1
      cases q1
  · rintro X h' ⟨q1, q2, q3⟩
    rcases cd_node (F := F) (v := v) (x := x) with e | e | e
    · rw [if_pos e] at q1
      cases q1
    · have e0 : (opNod F v x).1 ≠ 0 := by omega
      rw [if_neg e0, e] at q1
      have eX : X = xnIO := Sum.inr.inj q1
      subst eX
      refine ⟨13, hd9 xnIO [] [(0, 10, 17, 15)] (0, 10, 13, 13) rfl rfl (fun _ h9 => absurd h9 List.not_mem_nil) lkIO rfl rfl, fun q => ?_⟩
      refine aw_astore dL_node_13 (by decide) rfl ?_
      refine aw_iconst dL_node_15 ?_
      exact aw_ireturn dL_node_16 rfl (Or.inr (q3.1.trans hn)) (rL_x e (by decide) q2 q3 hn ho)
    · have e0 : (opNod F v x).1 ≠ 0 := by omega
      rw [if_neg e0, e] at q1
      have eX : X = xnIA := Sum.inr.inj q1
      subst eX
      refine ⟨17, hd9 xnIA [(0, 10, 13, 13)] [] (0, 10, 17, 15) rfl rfl (List.forall_mem_cons.mpr ⟨⟨xnIO, lkIO, ncIAIO⟩, fun _ h9 => absurd h9 List.not_mem_nil⟩) lkIA rfl rfl, fun q => ?_⟩
      refine aw_astore dL_node_17 (by decide) rfl ?_
      refine aw_iconst dL_node_19 ?_
      exact aw_ireturn dL_node_20 rfl (Or.inr (q3.1.trans hn)) (rL_x e (by decide) q2 q3 hn ho)
theorem sL_axis : mSH mL_axis 5 := ⟨by decide, by decide +kernel, by decide +kernel, by decide +kernel, by decide +kernel, List.mem_append_right _ (List.mem_of_getElem? (i := 887) (by decide +kernel)), zL, by decide, List.mem_append_right _ (List.mem_of_getElem? (i := 886) (by decide +kernel))⟩
theorem cd_axis {F : FS} {v x i : Int} : (opAxi F v x i).1 = 0 ∨ (opAxi F v x i).1 = 1 ∨ (opAxi F v x i).1 = 2 := by
  unfold opAxi
  repeat' split
  all_goals simp
theorem w_axis {γ : GG} {h : AH} {c ob : Nat} {F : FS} {v x i : Int} (hC : isCl h c F) (hn : nx h = none) (hk : kd h ob = some (.inr (2, 1))) (ho : ob < c ∨ c + 1704 ≤ ob) (hv : (-2147483648 ≤ v ∧ v ≤ 2147483647)) (hx : (-2147483648 ≤ x ∧ x ≤ 2147483647)) (hi : (-2147483648 ≤ i ∧ i ≤ 2147483647)) : CallH γ mL_axis 8 1 6 [vr (some c), vi v, vi x, vi i, vr (some ob)] h (rL h c ob (opAxi F v x i)) := by
  refine CallH.of (ls := [(0, vr (some c)), (1, vi v), (2, vi x), (3, vi i), (4, vr (some ob))]) sL_axis (Nat.le_of_ble_eq_true rfl) rfl ?_
  refine ap_aload dL_axis_0 rfl ?_
  refine ap_iconst dL_axis_2 ?_
  refine ap_aload_n dL_axis_3 rfl ?_
  refine ap_iload_n dL_axis_4 rfl ?_
  refine ap_iload_n dL_axis_5 rfl ?_
  refine ap_iload_n dL_axis_6 rfl ?_
  refine ap_invVC dL_axis_7 vX11_axis kL_35 (c_axis (γ := γ) hC hn hv hx hi) ⟨_, hC.1.1, _, _, rfl⟩ rfl rfl (by decide) (by decide) (by decide) (Nat.le_of_ble_eq_true rfl) ?_ ?_
  · rintro v9 h' ⟨q1, q2, q3⟩
    by_cases e : (opAxi F v x i).1 = 0
    · rw [if_pos e] at q1
      cases q1
      have hk' : kd h' ob = some (.inr (2, 1)) := ((q3.2 ob ho).1).trans hk
      refine aw_i2l dL_axis_10 rfl ?_
      refine aw_last dL_axis_11 hk' ⟨by omega, by omega⟩ (by omega) ?_
      refine aw_goto (tgt := 23) dL_axis_12 (by decide) ?_
      refine aw_iconst dL_axis_23 ?_
      exact aw_ireturn dL_axis_24 rfl (Or.inr (q3.1.trans hn)) (rL_ok e q2 q3 hn ho)
    · rw [if_neg e] at q1
      cases q1
  · rintro X h' ⟨q1, q2, q3⟩
    rcases cd_axis (F := F) (v := v) (x := x) (i := i) with e | e | e
    · rw [if_pos e] at q1
      cases q1
    · have e0 : (opAxi F v x i).1 ≠ 0 := by omega
      rw [if_neg e0, e] at q1
      have eX : X = xnIO := Sum.inr.inj q1
      subst eX
      refine ⟨15, hd9 xnIO [] [(0, 12, 19, 15)] (0, 12, 15, 13) rfl rfl (fun _ h9 => absurd h9 List.not_mem_nil) lkIO rfl rfl, fun q => ?_⟩
      refine aw_astore dL_axis_15 (by decide) rfl ?_
      refine aw_iconst dL_axis_17 ?_
      exact aw_ireturn dL_axis_18 rfl (Or.inr (q3.1.trans hn)) (rL_x e (by decide) q2 q3 hn ho)
    · have e0 : (opAxi F v x i).1 ≠ 0 := by omega
      rw [if_neg e0, e] at q1
      have eX : X = xnIA := Sum.inr.inj q1
      subst eX
      refine ⟨19, hd9 xnIA [(0, 12, 15, 13)] [] (0, 12, 19, 15) rfl rfl (List.forall_mem_cons.mpr ⟨⟨xnIO, lkIO, ncIAIO⟩, fun _ h9 => absurd h9 List.not_mem_nil⟩) lkIA rfl rfl, fun q => ?_⟩
      refine aw_astore dL_axis_19 (by decide) rfl ?_
      refine aw_iconst dL_axis_21 ?_
      exact aw_ireturn dL_axis_22 rfl (Or.inr (q3.1.trans hn)) (rL_x e (by decide) q2 q3 hn ho)
theorem sL_type : mSH mL_type 3 := ⟨by decide, by decide +kernel, by decide +kernel, by decide +kernel, by decide +kernel, List.mem_append_right _ (List.mem_of_getElem? (i := 903) (by decide +kernel)), zL, by decide, List.mem_append_right _ (List.mem_of_getElem? (i := 902) (by decide +kernel))⟩
theorem cd_type {F : FS} {x : Int} : (opTyp F x).1 = 0 ∨ (opTyp F x).1 = 1 ∨ (opTyp F x).1 = 2 := by
  unfold opTyp
  repeat' split
  all_goals simp
theorem w_type {γ : GG} {h : AH} {c ob : Nat} {F : FS} {x : Int} (hC : isCl h c F) (hn : nx h = none) (hk : kd h ob = some (.inr (2, 1))) (ho : ob < c ∨ c + 1704 ≤ ob) (hx : (-2147483648 ≤ x ∧ x ≤ 2147483647)) : CallH γ mL_type 8 1 6 [vr (some c), vi x, vr (some ob)] h (rL h c ob (opTyp F x)) := by
  refine CallH.of (ls := [(0, vr (some c)), (1, vi x), (2, vr (some ob))]) sL_type (Nat.le_of_ble_eq_true rfl) rfl ?_
  refine ap_aload_n dL_type_0 rfl ?_
  refine ap_iconst dL_type_1 ?_
  refine ap_aload_n dL_type_2 rfl ?_
  refine ap_iload_n dL_type_3 rfl ?_
  refine ap_invVC dL_type_4 vX11_type kL_38 (c_type (γ := γ) hC hn hx) ⟨_, hC.1.1, _, _, rfl⟩ rfl rfl (by decide) (by decide) (by decide) (Nat.le_of_ble_eq_true rfl) ?_ ?_
  · rintro v9 h' ⟨q1, q2, q3⟩
    by_cases e : (opTyp F x).1 = 0
    · rw [if_pos e] at q1
      cases q1
      have hk' : kd h' ob = some (.inr (2, 1)) := ((q3.2 ob ho).1).trans hk
      refine aw_i2l dL_type_7 rfl ?_
      refine aw_last dL_type_8 hk' ⟨by omega, by omega⟩ (by omega) ?_
      refine aw_goto (tgt := 18) dL_type_9 (by decide) ?_
      refine aw_iconst dL_type_18 ?_
      exact aw_ireturn dL_type_19 rfl (Or.inr (q3.1.trans hn)) (rL_ok e q2 q3 hn ho)
    · rw [if_neg e] at q1
      cases q1
  · rintro X h' ⟨q1, q2, q3⟩
    rcases cd_type (F := F) (x := x) with e | e | e
    · rw [if_pos e] at q1
      cases q1
    · have e0 : (opTyp F x).1 ≠ 0 := by omega
      rw [if_neg e0, e] at q1
      have eX : X = xnIA := Sum.inr.inj q1
      subst eX
      refine ⟨12, hd9 xnIA [] [(0, 9, 15, 17)] (0, 9, 12, 15) rfl rfl (fun _ h9 => absurd h9 List.not_mem_nil) lkIA rfl rfl, fun q => ?_⟩
      refine aw_astore_n dL_type_12 (by decide) rfl ?_
      refine aw_iconst dL_type_13 ?_
      exact aw_ireturn dL_type_14 rfl (Or.inr (q3.1.trans hn)) (rL_x e (by decide) q2 q3 hn ho)
    · have e0 : (opTyp F x).1 ≠ 0 := by omega
      rw [if_neg e0, e] at q1
      have eX : X = xnIS := Sum.inr.inj q1
      subst eX
      refine ⟨15, hd9 xnIS [(0, 9, 12, 15)] [] (0, 9, 15, 17) rfl rfl (List.forall_mem_cons.mpr ⟨⟨xnIA, lkIA, ncISIA⟩, fun _ h9 => absurd h9 List.not_mem_nil⟩) lkIS rfl rfl, fun q => ?_⟩
      refine aw_astore_n dL_type_15 (by decide) rfl ?_
      refine aw_iconst dL_type_16 ?_
      exact aw_ireturn dL_type_17 rfl (Or.inr (q3.1.trans hn)) (rL_x e (by decide) q2 q3 hn ho)
theorem sL_read : mSH mL_read 3 := ⟨by decide, by decide +kernel, by decide +kernel, by decide +kernel, by decide +kernel, List.mem_append_right _ (List.mem_of_getElem? (i := 912) (by decide +kernel)), zL, by decide, List.mem_append_right _ (List.mem_of_getElem? (i := 911) (by decide +kernel))⟩
theorem cd_read {F : FS} {p : Int} : (opRd F p).1 = 0 ∨ (opRd F p).1 = 1 := by
  unfold opRd
  repeat' split
  all_goals simp
theorem w_read {γ : GG} {h : AH} {c ob : Nat} {F : FS} {p : Int} (hC : isCl h c F) (hn : nx h = none) (hk : kd h ob = some (.inr (2, 1))) (ho : ob < c ∨ c + 1704 ≤ ob) (hp : (-2147483648 ≤ p ∧ p ≤ 2147483647)) : CallH γ mL_read 9 1 6 [vr (some c), vi p, vr (some ob)] h (rL h c ob (opRd F p)) := by
  refine CallH.of (ls := [(0, vr (some c)), (1, vi p), (2, vr (some ob))]) sL_read (Nat.le_of_ble_eq_true rfl) rfl ?_
  refine ap_aload_n dL_read_0 rfl ?_
  refine ap_iconst dL_read_1 ?_
  refine ap_aload_n dL_read_2 rfl ?_
  refine ap_iload_n dL_read_3 rfl ?_
  refine ap_invVC dL_read_4 vX11_read kL_41 (c_read (γ := γ) hC hn hp) ⟨_, hC.1.1, _, _, rfl⟩ rfl rfl (by decide) (by decide) (by decide) (Nat.le_of_ble_eq_true rfl) ?_ ?_
  · rintro v9 h' ⟨q1, q2, q3⟩
    by_cases e : (opRd F p).1 = 0
    · rw [if_pos e] at q1
      cases q1
      have hk' : kd h' ob = some (.inr (2, 1)) := ((q3.2 ob ho).1).trans hk
      refine aw_i2l dL_read_7 rfl ?_
      refine aw_last dL_read_8 hk' ⟨by omega, by omega⟩ (by omega) ?_
      refine aw_goto (tgt := 15) dL_read_9 (by decide) ?_
      refine aw_iconst dL_read_15 ?_
      exact aw_ireturn dL_read_16 rfl (Or.inr (q3.1.trans hn)) (rL_ok e q2 q3 hn ho)
    · rw [if_neg e] at q1
      cases q1
  · rintro X h' ⟨q1, q2, q3⟩
    rcases cd_read (F := F) (p := p) with e | e
    · rw [if_pos e] at q1
      cases q1
    · have e0 : (opRd F p).1 ≠ 0 := by omega
      rw [if_neg e0, e] at q1
      have eX : X = xnIO := Sum.inr.inj q1
      subst eX
      refine ⟨12, hd9 xnIO [] [] (0, 9, 12, 13) rfl rfl (fun _ h9 => absurd h9 List.not_mem_nil) lkIO rfl rfl, fun q => ?_⟩
      refine aw_astore_n dL_read_12 (by decide) rfl ?_
      refine aw_iconst dL_read_13 ?_
      exact aw_ireturn dL_read_14 rfl (Or.inr (q3.1.trans hn)) (rL_x e (by decide) q2 q3 hn ho)
theorem sL_written : mSH mL_written 4 := ⟨by decide, by decide +kernel, by decide +kernel, by decide +kernel, by decide +kernel, List.mem_append_right _ (List.mem_of_getElem? (i := 1081) (by decide +kernel)), zL, by decide, List.mem_append_right _ (List.mem_of_getElem? (i := 1080) (by decide +kernel))⟩
theorem cd_written {F : FS} {p i : Int} : (opWri F p i).1 = 0 ∨ (opWri F p i).1 = 1 ∨ (opWri F p i).1 = 2 ∨ (opWri F p i).1 = 3 := by
  unfold opWri
  repeat' split
  all_goals simp
theorem w_written {γ : GG} {h : AH} {c ob : Nat} {F : FS} {p i : Int} (hC : isCl h c F) (hn : nx h = none) (hk : kd h ob = some (.inr (2, 1))) (ho : ob < c ∨ c + 1704 ≤ ob) (hp : (-2147483648 ≤ p ∧ p ≤ 2147483647)) (hi : (-2147483648 ≤ i ∧ i ≤ 2147483647)) : CallH γ mL_written 9 1 6 [vr (some c), vi p, vi i, vr (some ob)] h (rL h c ob (opWri F p i)) := by
  refine CallH.of (ls := [(0, vr (some c)), (1, vi p), (2, vi i), (3, vr (some ob))]) sL_written (Nat.le_of_ble_eq_true rfl) rfl ?_
  refine ap_aload_n dL_written_0 rfl ?_
  refine ap_iconst dL_written_1 ?_
  refine ap_aload_n dL_written_2 rfl ?_
  refine ap_iload_n dL_written_3 rfl ?_
  refine ap_iload_n dL_written_4 rfl ?_
  refine ap_invVC dL_written_5 vX11_written kL_44 (c_written (γ := γ) hC hn hp hi) ⟨_, hC.1.1, _, _, rfl⟩ rfl rfl (by decide) (by decide) (by decide) (Nat.le_of_ble_eq_true rfl) ?_ ?_
  · rintro v9 h' ⟨q1, q2, q3⟩
    by_cases e : (opWri F p i).1 = 0
    · rw [if_pos e] at q1
      cases q1
      have hk' : kd h' ob = some (.inr (2, 1)) := ((q3.2 ob ho).1).trans hk
      refine aw_i2l dL_written_8 rfl ?_
      refine aw_last dL_written_9 hk' ⟨by omega, by omega⟩ (by omega) ?_
      refine aw_goto (tgt := 25) dL_written_10 (by decide) ?_
      refine aw_iconst dL_written_25 ?_
      exact aw_ireturn dL_written_26 rfl (Or.inr (q3.1.trans hn)) (rL_ok e q2 q3 hn ho)
    · rw [if_neg e] at q1
      cases q1
  · rintro X h' ⟨q1, q2, q3⟩
    rcases cd_written (F := F) (p := p) (i := i) with e | e | e | e
    · rw [if_pos e] at q1
      cases q1
    · have e0 : (opWri F p i).1 ≠ 0 := by omega
      rw [if_neg e0, e] at q1
      have eX : X = xnIO := Sum.inr.inj q1
      subst eX
      refine ⟨13, hd9 xnIO [] [(0, 10, 17, 15), (0, 10, 21, 17)] (0, 10, 13, 13) rfl rfl (fun _ h9 => absurd h9 List.not_mem_nil) lkIO rfl rfl, fun q => ?_⟩
      refine aw_astore dL_written_13 (by decide) rfl ?_
      refine aw_iconst dL_written_15 ?_
      exact aw_ireturn dL_written_16 rfl (Or.inr (q3.1.trans hn)) (rL_x e (by decide) q2 q3 hn ho)
    · have e0 : (opWri F p i).1 ≠ 0 := by omega
      rw [if_neg e0, e] at q1
      have eX : X = xnIA := Sum.inr.inj q1
      subst eX
      refine ⟨17, hd9 xnIA [(0, 10, 13, 13)] [(0, 10, 21, 17)] (0, 10, 17, 15) rfl rfl (List.forall_mem_cons.mpr ⟨⟨xnIO, lkIO, ncIAIO⟩, fun _ h9 => absurd h9 List.not_mem_nil⟩) lkIA rfl rfl, fun q => ?_⟩
      refine aw_astore dL_written_17 (by decide) rfl ?_
      refine aw_iconst dL_written_19 ?_
      exact aw_ireturn dL_written_20 rfl (Or.inr (q3.1.trans hn)) (rL_x e (by decide) q2 q3 hn ho)
    · have e0 : (opWri F p i).1 ≠ 0 := by omega
      rw [if_neg e0, e] at q1
      have eX : X = xnIS := Sum.inr.inj q1
      subst eX
      refine ⟨21, hd9 xnIS [(0, 10, 13, 13), (0, 10, 17, 15)] [] (0, 10, 21, 17) rfl rfl (List.forall_mem_cons.mpr ⟨⟨xnIO, lkIO, ncISIO⟩, List.forall_mem_cons.mpr ⟨⟨xnIA, lkIA, ncISIA⟩, fun _ h9 => absurd h9 List.not_mem_nil⟩⟩) lkIS rfl rfl, fun q => ?_⟩
      refine aw_astore dL_written_21 (by decide) rfl ?_
      refine aw_iconst dL_written_23 ?_
      exact aw_ireturn dL_written_24 rfl (Or.inr (q3.1.trans hn)) (rL_x e (by decide) q2 q3 hn ho)
theorem sL_size : mSH mL_size 4 := ⟨by decide, by decide +kernel, by decide +kernel, by decide +kernel, by decide +kernel, List.mem_append_right _ (List.mem_of_getElem? (i := 1093) (by decide +kernel)), zL, by decide, List.mem_append_right _ (List.mem_of_getElem? (i := 1092) (by decide +kernel))⟩
theorem cd_size {F : FS} {p x : Int} : (opSiz F p x).1 = 0 ∨ (opSiz F p x).1 = 1 ∨ (opSiz F p x).1 = 2 ∨ (opSiz F p x).1 = 3 := by
  unfold opSiz
  repeat' split
  all_goals simp
theorem w_size {γ : GG} {h : AH} {c ob : Nat} {F : FS} {p x : Int} (hC : isCl h c F) (hn : nx h = none) (hk : kd h ob = some (.inr (2, 1))) (ho : ob < c ∨ c + 1704 ≤ ob) (hp : (-2147483648 ≤ p ∧ p ≤ 2147483647)) (hx : (-2147483648 ≤ x ∧ x ≤ 2147483647)) : CallH γ mL_size 10 1 6 [vr (some c), vi p, vi x, vr (some ob)] h (rL h c ob (opSiz F p x)) := by
  refine CallH.of (ls := [(0, vr (some c)), (1, vi p), (2, vi x), (3, vr (some ob))]) sL_size (Nat.le_of_ble_eq_true rfl) rfl ?_
  refine ap_aload_n dL_size_0 rfl ?_
  refine ap_iconst dL_size_1 ?_
  refine ap_aload_n dL_size_2 rfl ?_
  refine ap_iload_n dL_size_3 rfl ?_
  refine ap_iload_n dL_size_4 rfl ?_
  refine ap_invVC dL_size_5 vX11_size kL_47 (c_size (γ := γ) hC hn hp hx) ⟨_, hC.1.1, _, _, rfl⟩ rfl rfl (by decide) (by decide) (by decide) (Nat.le_of_ble_eq_true rfl) ?_ ?_
  · rintro v9 h' ⟨q1, q2, q3⟩
    by_cases e : (opSiz F p x).1 = 0
    · rw [if_pos e] at q1
      cases q1
      have hk' : kd h' ob = some (.inr (2, 1)) := ((q3.2 ob ho).1).trans hk
      refine aw_i2l dL_size_8 rfl ?_
      refine aw_last dL_size_9 hk' ⟨by omega, by omega⟩ (by omega) ?_
      refine aw_goto (tgt := 25) dL_size_10 (by decide) ?_
      refine aw_iconst dL_size_25 ?_
      exact aw_ireturn dL_size_26 rfl (Or.inr (q3.1.trans hn)) (rL_ok e q2 q3 hn ho)
    · rw [if_neg e] at q1
      cases q1
  · rintro X h' ⟨q1, q2, q3⟩
    rcases cd_size (F := F) (p := p) (x := x) with e | e | e | e
    · rw [if_pos e] at q1
      cases q1
    · have e0 : (opSiz F p x).1 ≠ 0 := by omega
      rw [if_neg e0, e] at q1
      have eX : X = xnIO := Sum.inr.inj q1
      subst eX
      refine ⟨13, hd9 xnIO [] [(0, 10, 17, 15), (0, 10, 21, 17)] (0, 10, 13, 13) rfl rfl (fun _ h9 => absurd h9 List.not_mem_nil) lkIO rfl rfl, fun q => ?_⟩
      refine aw_astore dL_size_13 (by decide) rfl ?_
      refine aw_iconst dL_size_15 ?_
      exact aw_ireturn dL_size_16 rfl (Or.inr (q3.1.trans hn)) (rL_x e (by decide) q2 q3 hn ho)
    · have e0 : (opSiz F p x).1 ≠ 0 := by omega
      rw [if_neg e0, e] at q1
      have eX : X = xnIA := Sum.inr.inj q1
      subst eX
      refine ⟨17, hd9 xnIA [(0, 10, 13, 13)] [(0, 10, 21, 17)] (0, 10, 17, 15) rfl rfl (List.forall_mem_cons.mpr ⟨⟨xnIO, lkIO, ncIAIO⟩, fun _ h9 => absurd h9 List.not_mem_nil⟩) lkIA rfl rfl, fun q => ?_⟩
      refine aw_astore dL_size_17 (by decide) rfl ?_
      refine aw_iconst dL_size_19 ?_
      exact aw_ireturn dL_size_20 rfl (Or.inr (q3.1.trans hn)) (rL_x e (by decide) q2 q3 hn ho)
    · have e0 : (opSiz F p x).1 ≠ 0 := by omega
      rw [if_neg e0, e] at q1
      have eX : X = xnIS := Sum.inr.inj q1
      subst eX
      refine ⟨21, hd9 xnIS [(0, 10, 13, 13), (0, 10, 17, 15)] [] (0, 10, 21, 17) rfl rfl (List.forall_mem_cons.mpr ⟨⟨xnIO, lkIO, ncISIO⟩, List.forall_mem_cons.mpr ⟨⟨xnIA, lkIA, ncISIA⟩, fun _ h9 => absurd h9 List.not_mem_nil⟩⟩) lkIS rfl rfl, fun q => ?_⟩
      refine aw_astore dL_size_21 (by decide) rfl ?_
      refine aw_iconst dL_size_23 ?_
      exact aw_ireturn dL_size_24 rfl (Or.inr (q3.1.trans hn)) (rL_x e (by decide) q2 q3 hn ho)
theorem sL_unite : mSH mL_unite 5 := ⟨by decide, by decide +kernel, by decide +kernel, by decide +kernel, by decide +kernel, List.mem_append_right _ (List.mem_of_getElem? (i := 1100) (by decide +kernel)), zL, by decide, List.mem_append_right _ (List.mem_of_getElem? (i := 1099) (by decide +kernel))⟩
theorem cd_unite {F : FS} {p r s : Int} : (opUni F p r s).1 = 0 ∨ (opUni F p r s).1 = 1 ∨ (opUni F p r s).1 = 2 := by
  unfold opUni
  repeat' split
  all_goals simp
theorem w_unite {γ : GG} {h : AH} {c ob : Nat} {F : FS} {p r s : Int} (hC : isCl h c F) (hn : nx h = none) (hk : kd h ob = some (.inr (2, 1))) (ho : ob < c ∨ c + 1704 ≤ ob) (hp : (-2147483648 ≤ p ∧ p ≤ 2147483647)) (hr : (-2147483648 ≤ r ∧ r ≤ 2147483647)) (hs : (-2147483648 ≤ s ∧ s ≤ 2147483647)) : CallH γ mL_unite 9 1 6 [vr (some c), vi p, vi r, vi s, vr (some ob)] h (rL h c ob (opUni F p r s)) := by
  refine CallH.of (ls := [(0, vr (some c)), (1, vi p), (2, vi r), (3, vi s), (4, vr (some ob))]) sL_unite (Nat.le_of_ble_eq_true rfl) rfl ?_
  refine ap_aload dL_unite_0 rfl ?_
  refine ap_iconst dL_unite_2 ?_
  refine ap_aload_n dL_unite_3 rfl ?_
  refine ap_iload_n dL_unite_4 rfl ?_
  refine ap_iload_n dL_unite_5 rfl ?_
  refine ap_iload_n dL_unite_6 rfl ?_
  refine ap_invVC dL_unite_7 vX11_unite kL_50 (c_unite (γ := γ) hC hn hp hr hs) ⟨_, hC.1.1, _, _, rfl⟩ rfl rfl (by decide) (by decide) (by decide) (Nat.le_of_ble_eq_true rfl) ?_ ?_
  · rintro v9 h' ⟨q1, q2, q3⟩
    by_cases e : (opUni F p r s).1 = 0
    · rw [if_pos e] at q1
      cases q1
      have hk' : kd h' ob = some (.inr (2, 1)) := ((q3.2 ob ho).1).trans hk
      refine aw_i2l dL_unite_10 rfl ?_
      refine aw_last dL_unite_11 hk' ⟨by omega, by omega⟩ (by omega) ?_
      refine aw_goto (tgt := 23) dL_unite_12 (by decide) ?_
      refine aw_iconst dL_unite_23 ?_
      exact aw_ireturn dL_unite_24 rfl (Or.inr (q3.1.trans hn)) (rL_ok e q2 q3 hn ho)
    · rw [if_neg e] at q1
      cases q1
  · rintro X h' ⟨q1, q2, q3⟩
    rcases cd_unite (F := F) (p := p) (r := r) (s := s) with e | e | e
    · rw [if_pos e] at q1
      cases q1
    · have e0 : (opUni F p r s).1 ≠ 0 := by omega
      rw [if_neg e0, e] at q1
      have eX : X = xnIO := Sum.inr.inj q1
      subst eX
      refine ⟨15, hd9 xnIO [] [(0, 12, 19, 17)] (0, 12, 15, 13) rfl rfl (fun _ h9 => absurd h9 List.not_mem_nil) lkIO rfl rfl, fun q => ?_⟩
      refine aw_astore dL_unite_15 (by decide) rfl ?_
      refine aw_iconst dL_unite_17 ?_
      exact aw_ireturn dL_unite_18 rfl (Or.inr (q3.1.trans hn)) (rL_x e (by decide) q2 q3 hn ho)
    · have e0 : (opUni F p r s).1 ≠ 0 := by omega
      rw [if_neg e0, e] at q1
      have eX : X = xnIS := Sum.inr.inj q1
      subst eX
      refine ⟨19, hd9 xnIS [(0, 12, 15, 13)] [] (0, 12, 19, 17) rfl rfl (List.forall_mem_cons.mpr ⟨⟨xnIO, lkIO, ncISIO⟩, fun _ h9 => absurd h9 List.not_mem_nil⟩) lkIS rfl rfl, fun q => ?_⟩
      refine aw_astore dL_unite_19 (by decide) rfl ?_
      refine aw_iconst dL_unite_21 ?_
      exact aw_ireturn dL_unite_22 rfl (Or.inr (q3.1.trans hn)) (rL_x e (by decide) q2 q3 hn ho)
theorem sL_drop : mSH mL_drop 3 := ⟨by decide, by decide +kernel, by decide +kernel, by decide +kernel, by decide +kernel, List.mem_append_right _ (List.mem_of_getElem? (i := 1109) (by decide +kernel)), zL, by decide, List.mem_append_right _ (List.mem_of_getElem? (i := 1108) (by decide +kernel))⟩
theorem cd_drop {F : FS} {p : Int} : (opDrp F p).1 = 0 ∨ (opDrp F p).1 = 1 := by
  unfold opDrp
  repeat' split
  all_goals simp
theorem w_drop {γ : GG} {h : AH} {c ob : Nat} {F : FS} {p : Int} (hC : isCl h c F) (hn : nx h = none) (hk : kd h ob = some (.inr (2, 1))) (ho : ob < c ∨ c + 1704 ≤ ob) (hp : (-2147483648 ≤ p ∧ p ≤ 2147483647)) : CallH γ mL_drop 9 1 6 [vr (some c), vi p, vr (some ob)] h (rL h c ob (opDrp F p)) := by
  refine CallH.of (ls := [(0, vr (some c)), (1, vi p), (2, vr (some ob))]) sL_drop (Nat.le_of_ble_eq_true rfl) rfl ?_
  refine ap_aload_n dL_drop_0 rfl ?_
  refine ap_iconst dL_drop_1 ?_
  refine ap_aload_n dL_drop_2 rfl ?_
  refine ap_iload_n dL_drop_3 rfl ?_
  refine ap_invVC dL_drop_4 vX11_drop kL_53 (c_drop (γ := γ) hC hn hp) ⟨_, hC.1.1, _, _, rfl⟩ rfl rfl (by decide) (by decide) (by decide) (Nat.le_of_ble_eq_true rfl) ?_ ?_
  · rintro v9 h' ⟨q1, q2, q3⟩
    by_cases e : (opDrp F p).1 = 0
    · rw [if_pos e] at q1
      cases q1
      have hk' : kd h' ob = some (.inr (2, 1)) := ((q3.2 ob ho).1).trans hk
      refine aw_i2l dL_drop_7 rfl ?_
      refine aw_last dL_drop_8 hk' ⟨by omega, by omega⟩ (by omega) ?_
      refine aw_goto (tgt := 15) dL_drop_9 (by decide) ?_
      refine aw_iconst dL_drop_15 ?_
      exact aw_ireturn dL_drop_16 rfl (Or.inr (q3.1.trans hn)) (rL_ok e q2 q3 hn ho)
    · rw [if_neg e] at q1
      cases q1
  · rintro X h' ⟨q1, q2, q3⟩
    rcases cd_drop (F := F) (p := p) with e | e
    · rw [if_pos e] at q1
      cases q1
    · have e0 : (opDrp F p).1 ≠ 0 := by omega
      rw [if_neg e0, e] at q1
      have eX : X = xnIO := Sum.inr.inj q1
      subst eX
      refine ⟨12, hd9 xnIO [] [] (0, 9, 12, 13) rfl rfl (fun _ h9 => absurd h9 List.not_mem_nil) lkIO rfl rfl, fun q => ?_⟩
      refine aw_astore_n dL_drop_12 (by decide) rfl ?_
      refine aw_iconst dL_drop_13 ?_
      exact aw_ireturn dL_drop_14 rfl (Or.inr (q3.1.trans hn)) (rL_x e (by decide) q2 q3 hn ho)
theorem sL_count : mSH mL_count 4 := ⟨by decide, by decide +kernel, by decide +kernel, by decide +kernel, by decide +kernel, List.mem_append_right _ (List.mem_of_getElem? (i := 1116) (by decide +kernel)), zL, by decide, List.mem_append_right _ (List.mem_of_getElem? (i := 1115) (by decide +kernel))⟩
theorem cd_count {F : FS} {p v : Int} : (opCnt F p v).1 = 0 ∨ (opCnt F p v).1 = 1 ∨ (opCnt F p v).1 = 2 := by
  unfold opCnt
  repeat' split
  all_goals simp
theorem w_count {γ : GG} {h : AH} {c ob : Nat} {F : FS} {p v : Int} (hC : isCl h c F) (hn : nx h = none) (hk : kd h ob = some (.inr (2, 1))) (ho : ob < c ∨ c + 1704 ≤ ob) (hp : (-2147483648 ≤ p ∧ p ≤ 2147483647)) (hv : (-2147483648 ≤ v ∧ v ≤ 2147483647)) : CallH γ mL_count 9 1 6 [vr (some c), vi p, vi v, vr (some ob)] h (rL h c ob (opCnt F p v)) := by
  refine CallH.of (ls := [(0, vr (some c)), (1, vi p), (2, vi v), (3, vr (some ob))]) sL_count (Nat.le_of_ble_eq_true rfl) rfl ?_
  refine ap_aload_n dL_count_0 rfl ?_
  refine ap_iconst dL_count_1 ?_
  refine ap_aload_n dL_count_2 rfl ?_
  refine ap_iload_n dL_count_3 rfl ?_
  refine ap_iload_n dL_count_4 rfl ?_
  refine ap_invVC dL_count_5 vX11_count kL_56 (c_count (γ := γ) hC hn hp hv) ⟨_, hC.1.1, _, _, rfl⟩ rfl rfl (by decide) (by decide) (by decide) (Nat.le_of_ble_eq_true rfl) ?_ ?_
  · rintro v9 h' ⟨q1, q2, q3⟩
    by_cases e : (opCnt F p v).1 = 0
    · rw [if_pos e] at q1
      cases q1
      have hk' : kd h' ob = some (.inr (2, 1)) := ((q3.2 ob ho).1).trans hk
      refine aw_i2l dL_count_8 rfl ?_
      refine aw_last dL_count_9 hk' ⟨by omega, by omega⟩ (by omega) ?_
      refine aw_goto (tgt := 21) dL_count_10 (by decide) ?_
      refine aw_iconst dL_count_21 ?_
      exact aw_ireturn dL_count_22 rfl (Or.inr (q3.1.trans hn)) (rL_ok e q2 q3 hn ho)
    · rw [if_neg e] at q1
      cases q1
  · rintro X h' ⟨q1, q2, q3⟩
    rcases cd_count (F := F) (p := p) (v := v) with e | e | e
    · rw [if_pos e] at q1
      cases q1
    · have e0 : (opCnt F p v).1 ≠ 0 := by omega
      rw [if_neg e0, e] at q1
      have eX : X = xnIO := Sum.inr.inj q1
      subst eX
      refine ⟨13, hd9 xnIO [] [(0, 10, 17, 17)] (0, 10, 13, 13) rfl rfl (fun _ h9 => absurd h9 List.not_mem_nil) lkIO rfl rfl, fun q => ?_⟩
      refine aw_astore dL_count_13 (by decide) rfl ?_
      refine aw_iconst dL_count_15 ?_
      exact aw_ireturn dL_count_16 rfl (Or.inr (q3.1.trans hn)) (rL_x e (by decide) q2 q3 hn ho)
    · have e0 : (opCnt F p v).1 ≠ 0 := by omega
      rw [if_neg e0, e] at q1
      have eX : X = xnIS := Sum.inr.inj q1
      subst eX
      refine ⟨17, hd9 xnIS [(0, 10, 13, 13)] [] (0, 10, 17, 17) rfl rfl (List.forall_mem_cons.mpr ⟨⟨xnIO, lkIO, ncISIO⟩, fun _ h9 => absurd h9 List.not_mem_nil⟩) lkIS rfl rfl, fun q => ?_⟩
      refine aw_astore dL_count_17 (by decide) rfl ?_
      refine aw_iconst dL_count_19 ?_
      exact aw_ireturn dL_count_20 rfl (Or.inr (q3.1.trans hn)) (rL_x e (by decide) q2 q3 hn ho)
theorem sL_selected : mSH mL_selected 5 := ⟨by decide, by decide +kernel, by decide +kernel, by decide +kernel, by decide +kernel, List.mem_append_right _ (List.mem_of_getElem? (i := 1127) (by decide +kernel)), zL, by decide, List.mem_append_right _ (List.mem_of_getElem? (i := 1126) (by decide +kernel))⟩
theorem cd_selected {F : FS} {p v i : Int} : (opSel F p v i).1 = 0 ∨ (opSel F p v i).1 = 1 ∨ (opSel F p v i).1 = 2 ∨ (opSel F p v i).1 = 3 := by
  unfold opSel
  repeat' split
  all_goals simp
theorem w_selected {γ : GG} {h : AH} {c ob : Nat} {F : FS} {p v i : Int} (hC : isCl h c F) (hn : nx h = none) (hk : kd h ob = some (.inr (2, 1))) (ho : ob < c ∨ c + 1704 ≤ ob) (hp : (-2147483648 ≤ p ∧ p ≤ 2147483647)) (hv : (-2147483648 ≤ v ∧ v ≤ 2147483647)) (hi : (-2147483648 ≤ i ∧ i ≤ 2147483647)) : CallH γ mL_selected 9 1 6 [vr (some c), vi p, vi v, vi i, vr (some ob)] h (rL h c ob (opSel F p v i)) := by
  refine CallH.of (ls := [(0, vr (some c)), (1, vi p), (2, vi v), (3, vi i), (4, vr (some ob))]) sL_selected (Nat.le_of_ble_eq_true rfl) rfl ?_
  refine ap_aload dL_selected_0 rfl ?_
  refine ap_iconst dL_selected_2 ?_
  refine ap_aload_n dL_selected_3 rfl ?_
  refine ap_iload_n dL_selected_4 rfl ?_
  refine ap_iload_n dL_selected_5 rfl ?_
  refine ap_iload_n dL_selected_6 rfl ?_
  refine ap_invVC dL_selected_7 vX11_selected kL_59 (c_selected (γ := γ) hC hn hp hv hi) ⟨_, hC.1.1, _, _, rfl⟩ rfl rfl (by decide) (by decide) (by decide) (Nat.le_of_ble_eq_true rfl) ?_ ?_
  · rintro v9 h' ⟨q1, q2, q3⟩
    by_cases e : (opSel F p v i).1 = 0
    · rw [if_pos e] at q1
      cases q1
      have hk' : kd h' ob = some (.inr (2, 1)) := ((q3.2 ob ho).1).trans hk
      refine aw_i2l dL_selected_10 rfl ?_
      refine aw_last dL_selected_11 hk' ⟨by omega, by omega⟩ (by omega) ?_
      refine aw_goto (tgt := 27) dL_selected_12 (by decide) ?_
      refine aw_iconst dL_selected_27 ?_
      exact aw_ireturn dL_selected_28 rfl (Or.inr (q3.1.trans hn)) (rL_ok e q2 q3 hn ho)
    · rw [if_neg e] at q1
      cases q1
  · rintro X h' ⟨q1, q2, q3⟩
    rcases cd_selected (F := F) (p := p) (v := v) (i := i) with e | e | e | e
    · rw [if_pos e] at q1
      cases q1
    · have e0 : (opSel F p v i).1 ≠ 0 := by omega
      rw [if_neg e0, e] at q1
      have eX : X = xnIO := Sum.inr.inj q1
      subst eX
      refine ⟨15, hd9 xnIO [] [(0, 12, 19, 15), (0, 12, 23, 17)] (0, 12, 15, 13) rfl rfl (fun _ h9 => absurd h9 List.not_mem_nil) lkIO rfl rfl, fun q => ?_⟩
      refine aw_astore dL_selected_15 (by decide) rfl ?_
      refine aw_iconst dL_selected_17 ?_
      exact aw_ireturn dL_selected_18 rfl (Or.inr (q3.1.trans hn)) (rL_x e (by decide) q2 q3 hn ho)
    · have e0 : (opSel F p v i).1 ≠ 0 := by omega
      rw [if_neg e0, e] at q1
      have eX : X = xnIA := Sum.inr.inj q1
      subst eX
      refine ⟨19, hd9 xnIA [(0, 12, 15, 13)] [(0, 12, 23, 17)] (0, 12, 19, 15) rfl rfl (List.forall_mem_cons.mpr ⟨⟨xnIO, lkIO, ncIAIO⟩, fun _ h9 => absurd h9 List.not_mem_nil⟩) lkIA rfl rfl, fun q => ?_⟩
      refine aw_astore dL_selected_19 (by decide) rfl ?_
      refine aw_iconst dL_selected_21 ?_
      exact aw_ireturn dL_selected_22 rfl (Or.inr (q3.1.trans hn)) (rL_x e (by decide) q2 q3 hn ho)
    · have e0 : (opSel F p v i).1 ≠ 0 := by omega
      rw [if_neg e0, e] at q1
      have eX : X = xnIS := Sum.inr.inj q1
      subst eX
      refine ⟨23, hd9 xnIS [(0, 12, 15, 13), (0, 12, 19, 15)] [] (0, 12, 23, 17) rfl rfl (List.forall_mem_cons.mpr ⟨⟨xnIO, lkIO, ncISIO⟩, List.forall_mem_cons.mpr ⟨⟨xnIA, lkIA, ncISIA⟩, fun _ h9 => absurd h9 List.not_mem_nil⟩⟩) lkIS rfl rfl, fun q => ?_⟩
      refine aw_astore dL_selected_23 (by decide) rfl ?_
      refine aw_iconst dL_selected_25 ?_
      exact aw_ireturn dL_selected_26 rfl (Or.inr (q3.1.trans hn)) (rL_x e (by decide) q2 q3 hn ho)
theorem sL_sum : mSH mL_sum 4 := ⟨by decide, by decide +kernel, by decide +kernel, by decide +kernel, by decide +kernel, List.mem_append_right _ (List.mem_of_getElem? (i := 1134) (by decide +kernel)), zL, by decide, List.mem_append_right _ (List.mem_of_getElem? (i := 1133) (by decide +kernel))⟩
theorem cd_sum {F : FS} {p v : Int} : (opSum F p v).1 = 0 ∨ (opSum F p v).1 = 1 ∨ (opSum F p v).1 = 2 := by
  unfold opSum
  repeat' split
  all_goals simp
theorem w_sum {γ : GG} {h : AH} {c ob : Nat} {F : FS} {p v : Int} (hC : isCl h c F) (hn : nx h = none) (hk : kd h ob = some (.inr (2, 1))) (ho : ob < c ∨ c + 1704 ≤ ob) (hp : (-2147483648 ≤ p ∧ p ≤ 2147483647)) (hv : (-2147483648 ≤ v ∧ v ≤ 2147483647)) : CallH γ mL_sum 9 1 6 [vr (some c), vi p, vi v, vr (some ob)] h (rL h c ob (opSum F p v)) := by
  refine CallH.of (ls := [(0, vr (some c)), (1, vi p), (2, vi v), (3, vr (some ob))]) sL_sum (Nat.le_of_ble_eq_true rfl) rfl ?_
  refine ap_aload_n dL_sum_0 rfl ?_
  refine ap_iconst dL_sum_1 ?_
  refine ap_aload_n dL_sum_2 rfl ?_
  refine ap_iload_n dL_sum_3 rfl ?_
  refine ap_iload_n dL_sum_4 rfl ?_
  refine ap_invVC dL_sum_5 vX11_sum kL_62 (c_sum (γ := γ) hC hn hp hv) ⟨_, hC.1.1, _, _, rfl⟩ rfl rfl (by decide) (by decide) (by decide) (Nat.le_of_ble_eq_true rfl) ?_ ?_
  · rintro v9 h' ⟨q1, q2, q3⟩
    by_cases e : (opSum F p v).1 = 0
    · rw [if_pos e] at q1
      cases q1
      have hk' : kd h' ob = some (.inr (2, 1)) := ((q3.2 ob ho).1).trans hk
      refine aw_i2l dL_sum_8 rfl ?_
      refine aw_last dL_sum_9 hk' ⟨by omega, by omega⟩ (by omega) ?_
      refine aw_goto (tgt := 21) dL_sum_10 (by decide) ?_
      refine aw_iconst dL_sum_21 ?_
      exact aw_ireturn dL_sum_22 rfl (Or.inr (q3.1.trans hn)) (rL_ok e q2 q3 hn ho)
    · rw [if_neg e] at q1
      cases q1
  · rintro X h' ⟨q1, q2, q3⟩
    rcases cd_sum (F := F) (p := p) (v := v) with e | e | e
    · rw [if_pos e] at q1
      cases q1
    · have e0 : (opSum F p v).1 ≠ 0 := by omega
      rw [if_neg e0, e] at q1
      have eX : X = xnIO := Sum.inr.inj q1
      subst eX
      refine ⟨13, hd9 xnIO [] [(0, 10, 17, 17)] (0, 10, 13, 13) rfl rfl (fun _ h9 => absurd h9 List.not_mem_nil) lkIO rfl rfl, fun q => ?_⟩
      refine aw_astore dL_sum_13 (by decide) rfl ?_
      refine aw_iconst dL_sum_15 ?_
      exact aw_ireturn dL_sum_16 rfl (Or.inr (q3.1.trans hn)) (rL_x e (by decide) q2 q3 hn ho)
    · have e0 : (opSum F p v).1 ≠ 0 := by omega
      rw [if_neg e0, e] at q1
      have eX : X = xnIS := Sum.inr.inj q1
      subst eX
      refine ⟨17, hd9 xnIS [(0, 10, 13, 13)] [] (0, 10, 17, 17) rfl rfl (List.forall_mem_cons.mpr ⟨⟨xnIO, lkIO, ncISIO⟩, fun _ h9 => absurd h9 List.not_mem_nil⟩) lkIS rfl rfl, fun q => ?_⟩
      refine aw_astore dL_sum_17 (by decide) rfl ?_
      refine aw_iconst dL_sum_19 ?_
      exact aw_ireturn dL_sum_20 rfl (Or.inr (q3.1.trans hn)) (rL_x e (by decide) q2 q3 hn ho)
theorem sL_given : mSH mL_given 6 := ⟨by decide, by decide +kernel, by decide +kernel, by decide +kernel, by decide +kernel, List.mem_append_right _ (List.mem_of_getElem? (i := 1141) (by decide +kernel)), zL, by decide, List.mem_append_right _ (List.mem_of_getElem? (i := 1140) (by decide +kernel))⟩
theorem cd_given {F : FS} {p pa st v : Int} : (opGiv F p pa st v).1 = 0 ∨ (opGiv F p pa st v).1 = 1 ∨ (opGiv F p pa st v).1 = 2 ∨ (opGiv F p pa st v).1 = 3 := by
  unfold opGiv
  repeat' split
  all_goals simp
theorem w_given {γ : GG} {h : AH} {c ob : Nat} {F : FS} {p pa st v : Int} (hC : isCl h c F) (hn : nx h = none) (hk : kd h ob = some (.inr (2, 1))) (ho : ob < c ∨ c + 1704 ≤ ob) (hp : (-2147483648 ≤ p ∧ p ≤ 2147483647)) (hpa : (-2147483648 ≤ pa ∧ pa ≤ 2147483647)) (hst : (-2147483648 ≤ st ∧ st ≤ 2147483647)) (hv : (-2147483648 ≤ v ∧ v ≤ 2147483647)) : CallH γ mL_given 8 1 6 [vr (some c), vi p, vi pa, vi st, vi v, vr (some ob)] h (rL h c ob (opGiv F p pa st v)) := by
  refine CallH.of (ls := [(0, vr (some c)), (1, vi p), (2, vi pa), (3, vi st), (4, vi v), (5, vr (some ob))]) sL_given (Nat.le_of_ble_eq_true rfl) rfl ?_
  refine ap_aload dL_given_0 rfl ?_
  refine ap_iconst dL_given_2 ?_
  refine ap_aload_n dL_given_3 rfl ?_
  refine ap_iload_n dL_given_4 rfl ?_
  refine ap_iload_n dL_given_5 rfl ?_
  refine ap_iload_n dL_given_6 rfl ?_
  refine ap_iload dL_given_7 rfl ?_
  refine ap_invVC dL_given_9 vX11_given kL_65 (c_given (γ := γ) hC hn hp hpa hst hv) ⟨_, hC.1.1, _, _, rfl⟩ rfl rfl (by decide) (by decide) (by decide) (Nat.le_of_ble_eq_true rfl) ?_ ?_
  · rintro v9 h' ⟨q1, q2, q3⟩
    by_cases e : (opGiv F p pa st v).1 = 0
    · rw [if_pos e] at q1
      cases q1
      have hk' : kd h' ob = some (.inr (2, 1)) := ((q3.2 ob ho).1).trans hk
      refine aw_i2l dL_given_12 rfl ?_
      refine aw_last dL_given_13 hk' ⟨by omega, by omega⟩ (by omega) ?_
      refine aw_goto (tgt := 29) dL_given_14 (by decide) ?_
      refine aw_iconst dL_given_29 ?_
      exact aw_ireturn dL_given_30 rfl (Or.inr (q3.1.trans hn)) (rL_ok e q2 q3 hn ho)
    · rw [if_neg e] at q1
      cases q1
  · rintro X h' ⟨q1, q2, q3⟩
    rcases cd_given (F := F) (p := p) (pa := pa) (st := st) (v := v) with e | e | e | e
    · rw [if_pos e] at q1
      cases q1
    · have e0 : (opGiv F p pa st v).1 ≠ 0 := by omega
      rw [if_neg e0, e] at q1
      have eX : X = xnIO := Sum.inr.inj q1
      subst eX
      refine ⟨17, hd9 xnIO [] [(0, 14, 21, 17), (0, 14, 25, 15)] (0, 14, 17, 13) rfl rfl (fun _ h9 => absurd h9 List.not_mem_nil) lkIO rfl rfl, fun q => ?_⟩
      refine aw_astore dL_given_17 (by decide) rfl ?_
      refine aw_iconst dL_given_19 ?_
      exact aw_ireturn dL_given_20 rfl (Or.inr (q3.1.trans hn)) (rL_x e (by decide) q2 q3 hn ho)
    · have e0 : (opGiv F p pa st v).1 ≠ 0 := by omega
      rw [if_neg e0, e] at q1
      have eX : X = xnIS := Sum.inr.inj q1
      subst eX
      refine ⟨21, hd9 xnIS [(0, 14, 17, 13)] [(0, 14, 25, 15)] (0, 14, 21, 17) rfl rfl (List.forall_mem_cons.mpr ⟨⟨xnIO, lkIO, ncISIO⟩, fun _ h9 => absurd h9 List.not_mem_nil⟩) lkIS rfl rfl, fun q => ?_⟩
      refine aw_astore dL_given_21 (by decide) rfl ?_
      refine aw_iconst dL_given_23 ?_
      exact aw_ireturn dL_given_24 rfl (Or.inr (q3.1.trans hn)) (rL_x e (by decide) q2 q3 hn ho)
    · have e0 : (opGiv F p pa st v).1 ≠ 0 := by omega
      rw [if_neg e0, e] at q1
      have eX : X = xnIA := Sum.inr.inj q1
      subst eX
      refine ⟨25, hd9 xnIA [(0, 14, 17, 13), (0, 14, 21, 17)] [] (0, 14, 25, 15) rfl rfl (List.forall_mem_cons.mpr ⟨⟨xnIO, lkIO, ncIAIO⟩, List.forall_mem_cons.mpr ⟨⟨xnIS, lkIS, ncIAIS⟩, fun _ h9 => absurd h9 List.not_mem_nil⟩⟩) lkIA rfl rfl, fun q => ?_⟩
      refine aw_astore dL_given_25 (by decide) rfl ?_
      refine aw_iconst dL_given_27 ?_
      exact aw_ireturn dL_given_28 rfl (Or.inr (q3.1.trans hn)) (rL_x e (by decide) q2 q3 hn ho)
theorem sL_differences : mSH mL_differences 4 := ⟨by decide, by decide +kernel, by decide +kernel, by decide +kernel, by decide +kernel, List.mem_append_right _ (List.mem_of_getElem? (i := 1152) (by decide +kernel)), zL, by decide, List.mem_append_right _ (List.mem_of_getElem? (i := 1151) (by decide +kernel))⟩
theorem cd_differences {F : FS} {p r : Int} : (opDif F p r).1 = 0 ∨ (opDif F p r).1 = 1 ∨ (opDif F p r).1 = 2 := by
  unfold opDif
  repeat' split
  all_goals simp
theorem w_differences {γ : GG} {h : AH} {c ob : Nat} {F : FS} {p r : Int} (hC : isCl h c F) (hn : nx h = none) (hk : kd h ob = some (.inr (2, 1))) (ho : ob < c ∨ c + 1704 ≤ ob) (hp : (-2147483648 ≤ p ∧ p ≤ 2147483647)) (hr : (-2147483648 ≤ r ∧ r ≤ 2147483647)) : CallH γ mL_differences 8 1 6 [vr (some c), vi p, vi r, vr (some ob)] h (rL h c ob (opDif F p r)) := by
  refine CallH.of (ls := [(0, vr (some c)), (1, vi p), (2, vi r), (3, vr (some ob))]) sL_differences (Nat.le_of_ble_eq_true rfl) rfl ?_
  refine ap_aload_n dL_differences_0 rfl ?_
  refine ap_iconst dL_differences_1 ?_
  refine ap_aload_n dL_differences_2 rfl ?_
  refine ap_iload_n dL_differences_3 rfl ?_
  refine ap_iload_n dL_differences_4 rfl ?_
  refine ap_invVC dL_differences_5 vX11_differences kL_69 (c_differences (γ := γ) hC hn hp hr) ⟨_, hC.1.1, _, _, rfl⟩ rfl rfl (by decide) (by decide) (by decide) (Nat.le_of_ble_eq_true rfl) ?_ ?_
  · rintro v9 h' ⟨q1, q2, q3⟩
    by_cases e : (opDif F p r).1 = 0
    · rw [if_pos e] at q1
      cases q1
      have hk' : kd h' ob = some (.inr (2, 1)) := ((q3.2 ob ho).1).trans hk
      refine aw_i2l dL_differences_8 rfl ?_
      refine aw_last dL_differences_9 hk' ⟨by omega, by omega⟩ (by omega) ?_
      refine aw_goto (tgt := 21) dL_differences_10 (by decide) ?_
      refine aw_iconst dL_differences_21 ?_
      exact aw_ireturn dL_differences_22 rfl (Or.inr (q3.1.trans hn)) (rL_ok e q2 q3 hn ho)
    · rw [if_neg e] at q1
      cases q1
  · rintro X h' ⟨q1, q2, q3⟩
    rcases cd_differences (F := F) (p := p) (r := r) with e | e | e
    · rw [if_pos e] at q1
      cases q1
    · have e0 : (opDif F p r).1 ≠ 0 := by omega
      rw [if_neg e0, e] at q1
      have eX : X = xnIO := Sum.inr.inj q1
      subst eX
      refine ⟨13, hd9 xnIO [] [(0, 10, 17, 17)] (0, 10, 13, 13) rfl rfl (fun _ h9 => absurd h9 List.not_mem_nil) lkIO rfl rfl, fun q => ?_⟩
      refine aw_astore dL_differences_13 (by decide) rfl ?_
      refine aw_iconst dL_differences_15 ?_
      exact aw_ireturn dL_differences_16 rfl (Or.inr (q3.1.trans hn)) (rL_x e (by decide) q2 q3 hn ho)
    · have e0 : (opDif F p r).1 ≠ 0 := by omega
      rw [if_neg e0, e] at q1
      have eX : X = xnIS := Sum.inr.inj q1
      subst eX
      refine ⟨17, hd9 xnIS [(0, 10, 13, 13)] [] (0, 10, 17, 17) rfl rfl (List.forall_mem_cons.mpr ⟨⟨xnIO, lkIO, ncISIO⟩, fun _ h9 => absurd h9 List.not_mem_nil⟩) lkIS rfl rfl, fun q => ?_⟩
      refine aw_astore dL_differences_17 (by decide) rfl ?_
      refine aw_iconst dL_differences_19 ?_
      exact aw_ireturn dL_differences_20 rfl (Or.inr (q3.1.trans hn)) (rL_x e (by decide) q2 q3 hn ho)
theorem sL_rewrite : mSH mL_rewrite 3 := ⟨by decide, by decide +kernel, by decide +kernel, by decide +kernel, by decide +kernel, List.mem_append_right _ (List.mem_of_getElem? (i := 1159) (by decide +kernel)), zL, by decide, List.mem_append_right _ (List.mem_of_getElem? (i := 1158) (by decide +kernel))⟩
theorem cd_rewrite {F : FS} {p : Int} : (opRew F p).1 = 0 ∨ (opRew F p).1 = 1 ∨ (opRew F p).1 = 2 := by
  unfold opRew
  repeat' split
  all_goals simp
theorem w_rewrite {γ : GG} {h : AH} {c ob : Nat} {F : FS} {p : Int} (hC : isCl h c F) (hn : nx h = none) (hk : kd h ob = some (.inr (2, 1))) (ho : ob < c ∨ c + 1704 ≤ ob) (hp : (-2147483648 ≤ p ∧ p ≤ 2147483647)) : CallH γ mL_rewrite 9 1 6 [vr (some c), vi p, vr (some ob)] h (rL h c ob (opRew F p)) := by
  refine CallH.of (ls := [(0, vr (some c)), (1, vi p), (2, vr (some ob))]) sL_rewrite (Nat.le_of_ble_eq_true rfl) rfl ?_
  refine ap_aload_n dL_rewrite_0 rfl ?_
  refine ap_iconst dL_rewrite_1 ?_
  refine ap_aload_n dL_rewrite_2 rfl ?_
  refine ap_iload_n dL_rewrite_3 rfl ?_
  refine ap_invVC dL_rewrite_4 vX11_rewrite kL_72 (c_rewrite (γ := γ) hC hn hp) ⟨_, hC.1.1, _, _, rfl⟩ rfl rfl (by decide) (by decide) (by decide) (Nat.le_of_ble_eq_true rfl) ?_ ?_
  · rintro v9 h' ⟨q1, q2, q3⟩
    by_cases e : (opRew F p).1 = 0
    · rw [if_pos e] at q1
      cases q1
      have hk' : kd h' ob = some (.inr (2, 1)) := ((q3.2 ob ho).1).trans hk
      refine aw_i2l dL_rewrite_7 rfl ?_
      refine aw_last dL_rewrite_8 hk' ⟨by omega, by omega⟩ (by omega) ?_
      refine aw_goto (tgt := 18) dL_rewrite_9 (by decide) ?_
      refine aw_iconst dL_rewrite_18 ?_
      exact aw_ireturn dL_rewrite_19 rfl (Or.inr (q3.1.trans hn)) (rL_ok e q2 q3 hn ho)
    · rw [if_neg e] at q1
      cases q1
  · rintro X h' ⟨q1, q2, q3⟩
    rcases cd_rewrite (F := F) (p := p) with e | e | e
    · rw [if_pos e] at q1
      cases q1
    · have e0 : (opRew F p).1 ≠ 0 := by omega
      rw [if_neg e0, e] at q1
      have eX : X = xnIO := Sum.inr.inj q1
      subst eX
      refine ⟨12, hd9 xnIO [] [(0, 9, 15, 17)] (0, 9, 12, 13) rfl rfl (fun _ h9 => absurd h9 List.not_mem_nil) lkIO rfl rfl, fun q => ?_⟩
      refine aw_astore_n dL_rewrite_12 (by decide) rfl ?_
      refine aw_iconst dL_rewrite_13 ?_
      exact aw_ireturn dL_rewrite_14 rfl (Or.inr (q3.1.trans hn)) (rL_x e (by decide) q2 q3 hn ho)
    · have e0 : (opRew F p).1 ≠ 0 := by omega
      rw [if_neg e0, e] at q1
      have eX : X = xnIS := Sum.inr.inj q1
      subst eX
      refine ⟨15, hd9 xnIS [(0, 9, 12, 13)] [] (0, 9, 15, 17) rfl rfl (List.forall_mem_cons.mpr ⟨⟨xnIO, lkIO, ncISIO⟩, fun _ h9 => absurd h9 List.not_mem_nil⟩) lkIS rfl rfl, fun q => ?_⟩
      refine aw_astore_n dL_rewrite_15 (by decide) rfl ?_
      refine aw_iconst dL_rewrite_16 ?_
      exact aw_ireturn dL_rewrite_17 rfl (Or.inr (q3.1.trans hn)) (rL_x e (by decide) q2 q3 hn ho)
theorem sL_uses : mSH mL_uses 4 := ⟨by decide, by decide +kernel, by decide +kernel, by decide +kernel, by decide +kernel, List.mem_append_right _ (List.mem_of_getElem? (i := 1170) (by decide +kernel)), zL, by decide, List.mem_append_right _ (List.mem_of_getElem? (i := 1169) (by decide +kernel))⟩
theorem cd_uses {F : FS} {p r : Int} : (opUse F p r).1 = 0 ∨ (opUse F p r).1 = 1 ∨ (opUse F p r).1 = 2 ∨ (opUse F p r).1 = 3 := by
  unfold opUse
  repeat' split
  all_goals simp
theorem w_uses {γ : GG} {h : AH} {c ob : Nat} {F : FS} {p r : Int} (hC : isCl h c F) (hn : nx h = none) (hk : kd h ob = some (.inr (2, 1))) (ho : ob < c ∨ c + 1704 ≤ ob) (hp : (-2147483648 ≤ p ∧ p ≤ 2147483647)) (hr : (-2147483648 ≤ r ∧ r ≤ 2147483647)) : CallH γ mL_uses 9 1 6 [vr (some c), vi p, vi r, vr (some ob)] h (rL h c ob (opUse F p r)) := by
  refine CallH.of (ls := [(0, vr (some c)), (1, vi p), (2, vi r), (3, vr (some ob))]) sL_uses (Nat.le_of_ble_eq_true rfl) rfl ?_
  refine ap_aload_n dL_uses_0 rfl ?_
  refine ap_iconst dL_uses_1 ?_
  refine ap_aload_n dL_uses_2 rfl ?_
  refine ap_iload_n dL_uses_3 rfl ?_
  refine ap_iload_n dL_uses_4 rfl ?_
  refine ap_invVC dL_uses_5 vX11_uses kL_75 (c_uses (γ := γ) hC hn hp hr) ⟨_, hC.1.1, _, _, rfl⟩ rfl rfl (by decide) (by decide) (by decide) (Nat.le_of_ble_eq_true rfl) ?_ ?_
  · rintro v9 h' ⟨q1, q2, q3⟩
    by_cases e : (opUse F p r).1 = 0
    · rw [if_pos e] at q1
      cases q1
      have hk' : kd h' ob = some (.inr (2, 1)) := ((q3.2 ob ho).1).trans hk
      refine aw_i2l dL_uses_8 rfl ?_
      refine aw_last dL_uses_9 hk' ⟨by omega, by omega⟩ (by omega) ?_
      refine aw_goto (tgt := 25) dL_uses_10 (by decide) ?_
      refine aw_iconst dL_uses_25 ?_
      exact aw_ireturn dL_uses_26 rfl (Or.inr (q3.1.trans hn)) (rL_ok e q2 q3 hn ho)
    · rw [if_neg e] at q1
      cases q1
  · rintro X h' ⟨q1, q2, q3⟩
    rcases cd_uses (F := F) (p := p) (r := r) with e | e | e | e
    · rw [if_pos e] at q1
      cases q1
    · have e0 : (opUse F p r).1 ≠ 0 := by omega
      rw [if_neg e0, e] at q1
      have eX : X = xnIO := Sum.inr.inj q1
      subst eX
      refine ⟨13, hd9 xnIO [] [(0, 10, 17, 15), (0, 10, 21, 17)] (0, 10, 13, 13) rfl rfl (fun _ h9 => absurd h9 List.not_mem_nil) lkIO rfl rfl, fun q => ?_⟩
      refine aw_astore dL_uses_13 (by decide) rfl ?_
      refine aw_iconst dL_uses_15 ?_
      exact aw_ireturn dL_uses_16 rfl (Or.inr (q3.1.trans hn)) (rL_x e (by decide) q2 q3 hn ho)
    · have e0 : (opUse F p r).1 ≠ 0 := by omega
      rw [if_neg e0, e] at q1
      have eX : X = xnIA := Sum.inr.inj q1
      subst eX
      refine ⟨17, hd9 xnIA [(0, 10, 13, 13)] [(0, 10, 21, 17)] (0, 10, 17, 15) rfl rfl (List.forall_mem_cons.mpr ⟨⟨xnIO, lkIO, ncIAIO⟩, fun _ h9 => absurd h9 List.not_mem_nil⟩) lkIA rfl rfl, fun q => ?_⟩
      refine aw_astore dL_uses_17 (by decide) rfl ?_
      refine aw_iconst dL_uses_19 ?_
      exact aw_ireturn dL_uses_20 rfl (Or.inr (q3.1.trans hn)) (rL_x e (by decide) q2 q3 hn ho)
    · have e0 : (opUse F p r).1 ≠ 0 := by omega
      rw [if_neg e0, e] at q1
      have eX : X = xnIS := Sum.inr.inj q1
      subst eX
      refine ⟨21, hd9 xnIS [(0, 10, 13, 13), (0, 10, 17, 15)] [] (0, 10, 21, 17) rfl rfl (List.forall_mem_cons.mpr ⟨⟨xnIO, lkIO, ncISIO⟩, List.forall_mem_cons.mpr ⟨⟨xnIA, lkIA, ncISIA⟩, fun _ h9 => absurd h9 List.not_mem_nil⟩⟩) lkIS rfl rfl, fun q => ?_⟩
      refine aw_astore dL_uses_21 (by decide) rfl ?_
      refine aw_iconst dL_uses_23 ?_
      exact aw_ireturn dL_uses_24 rfl (Or.inr (q3.1.trans hn)) (rL_x e (by decide) q2 q3 hn ho)
theorem sL_undo : mSH mL_undo 2 := ⟨by decide, by decide +kernel, by decide +kernel, by decide +kernel, by decide +kernel, List.mem_append_right _ (List.mem_of_getElem? (i := 1178) (by decide +kernel)), zL, by decide, List.mem_append_right _ (List.mem_of_getElem? (i := 1177) (by decide +kernel))⟩
theorem cd_undo {F : FS} : (opUnd F).1 = 0 ∨ (opUnd F).1 = 1 := by
  unfold opUnd
  repeat' split
  all_goals simp
theorem w_undo {γ : GG} {h : AH} {c ob : Nat} {F : FS} (hC : isCl h c F) (hn : nx h = none) (hk : kd h ob = some (.inr (2, 1))) (ho : ob < c ∨ c + 1704 ≤ ob) : CallH γ mL_undo 8 1 6 [vr (some c), vr (some ob)] h (rL h c ob (opUnd F)) := by
  refine CallH.of (ls := [(0, vr (some c)), (1, vr (some ob))]) sL_undo (Nat.le_of_ble_eq_true rfl) rfl ?_
  refine ap_aload_n dL_undo_0 rfl ?_
  refine ap_iconst dL_undo_1 ?_
  refine ap_aload_n dL_undo_2 rfl ?_
  refine ap_invVC dL_undo_3 vX11_undo kL_78 (c_undo (γ := γ) hC hn) ⟨_, hC.1.1, _, _, rfl⟩ rfl rfl (by decide) (by decide) (by decide) (Nat.le_of_ble_eq_true rfl) ?_ ?_
  · rintro v9 h' ⟨q1, q2, q3⟩
    by_cases e : (opUnd F).1 = 0
    · rw [if_pos e] at q1
      cases q1
      have hk' : kd h' ob = some (.inr (2, 1)) := ((q3.2 ob ho).1).trans hk
      refine aw_i2l dL_undo_6 rfl ?_
      refine aw_last dL_undo_7 hk' ⟨by omega, by omega⟩ (by omega) ?_
      refine aw_goto (tgt := 14) dL_undo_8 (by decide) ?_
      refine aw_iconst dL_undo_14 ?_
      exact aw_ireturn dL_undo_15 rfl (Or.inr (q3.1.trans hn)) (rL_ok e q2 q3 hn ho)
    · rw [if_neg e] at q1
      cases q1
  · rintro X h' ⟨q1, q2, q3⟩
    rcases cd_undo (F := F) with e | e
    · rw [if_pos e] at q1
      cases q1
    · have e0 : (opUnd F).1 ≠ 0 := by omega
      rw [if_neg e0, e] at q1
      have eX : X = xnIS := Sum.inr.inj q1
      subst eX
      refine ⟨11, hd9 xnIS [] [] (0, 8, 11, 17) rfl rfl (fun _ h9 => absurd h9 List.not_mem_nil) lkIS rfl rfl, fun q => ?_⟩
      refine aw_astore_n dL_undo_11 (by decide) rfl ?_
      refine aw_iconst dL_undo_12 ?_
      exact aw_ireturn dL_undo_13 rfl (Or.inr (q3.1.trans hn)) (rL_x e (by decide) q2 q3 hn ho)
