section AWJ
variable {γ : GG} {M : MD} {d kc ks pc : Nat} {ls : List (Nat × AV)} {st : List AV} {h : AH} {Q : AR → AH → Prop}
/-- ends: a value and a heap; nothing and a heap -/
def rV (v : AV) (h1 : AH) : AR → AH → Prop := fun r h' => r = .inl (some v) ∧ h' = h1
def rN (h1 : AH) : AR → AH → Prop := fun r h' => r = .inl none ∧ h' = h1
/-- reads with the value told -/
theorem aw_geti' {a idx ci k : Nat} {fin : Bool} {z : Int} {j : Int} (hd : decode M.2.1 pc = .ok (.getfield idx, 3)) (hf : FG M.1.cls idx ci k fin) (ht : fk ci k = 0) (hk : kd h a = some (.inl ci)) (hj : (k : Int) = j) (hv : gi h a j = z) (kk : AW γ M d kc ks (pc + 3) ls (vi z :: st) h Q) : AW γ M d kc ks pc ls (vr (some a) :: st) h Q := aw_geti hd hf ht hk (by rw [hj, hv]; exact kk)
theorem aw_getl' {a idx ci k : Nat} {fin : Bool} {z : Int64} {j : Int} (hd : decode M.2.1 pc = .ok (.getfield idx, 3)) (hf : FG M.1.cls idx ci k fin) (ht : fk ci k = 1) (hk : kd h a = some (.inl ci)) (hj : (k : Int) = j) (hv : gl h a j = z) (kk : AW γ M d kc ks (pc + 3) ls (vl z :: st) h Q) : AW γ M d kc ks pc ls (vr (some a) :: st) h Q := aw_getl hd hf ht hk (by rw [hj, hv]; exact kk)
theorem aw_getr' {a idx ci k : Nat} {fin : Bool} {z : Option Nat} {j : Int} (hd : decode M.2.1 pc = .ok (.getfield idx, 3)) (hf : FG M.1.cls idx ci k fin) (ht : fk ci k = 2) (hk : kd h a = some (.inl ci)) (hj : (k : Int) = j) (hv : gr h a j = z) (kk : AW γ M d kc ks (pc + 3) ls (vr z :: st) h Q) : AW γ M d kc ks pc ls (vr (some a) :: st) h Q := aw_getr hd hf ht hk (by rw [hj, hv]; exact kk)
theorem aw_puti' {a idx ci k : Nat} {z j : Int} (ht : fty ci k = .int) (hd : decode M.2.1 pc = .ok (.putfield idx, 3)) (hf : FG M.1.cls idx ci k false) (hk : kd h a = some (.inl ci)) (hj : (k : Int) = j) (kk : AW γ M d kc ks (pc + 3) ls st (si h a j z) Q) : AW γ M d kc ks pc ls (vi z :: vr (some a) :: st) h Q := aw_puti ht hd hf hk (by rw [hj]; exact kk)
theorem aw_putz' {a idx ci k : Nat} {z j : Int} (ht : fty ci k = .boolean) (hz : z = 0 ∨ z = 1) (hd : decode M.2.1 pc = .ok (.putfield idx, 3)) (hf : FG M.1.cls idx ci k false) (hk : kd h a = some (.inl ci)) (hj : (k : Int) = j) (kk : AW γ M d kc ks (pc + 3) ls st (si h a j z) Q) : AW γ M d kc ks pc ls (vi z :: vr (some a) :: st) h Q := aw_putz ht hz hd hf hk (by rw [hj]; exact kk)
theorem aw_putl' {a idx ci k : Nat} {z : Int64} {j : Int} (ht : fty ci k = .long) (hd : decode M.2.1 pc = .ok (.putfield idx, 3)) (hf : FG M.1.cls idx ci k false) (hk : kd h a = some (.inl ci)) (hj : (k : Int) = j) (kk : AW γ M d kc ks (pc + 3) ls st (sl h a j z) Q) : AW γ M d kc ks pc ls (vl z :: vr (some a) :: st) h Q := aw_putl ht hd hf hk (by rw [hj]; exact kk)
theorem aw_putr' {a idx ci k : Nat} {z : Option Nat} {j : Int} (ht : isRT (fty ci k) = true) (hd : decode M.2.1 pc = .ok (.putfield idx, 3)) (hf : FG M.1.cls idx ci k false) (hk : kd h a = some (.inl ci)) (hj : (k : Int) = j) (kk : AW γ M d kc ks (pc + 3) ls st (sr h a j z) Q) : AW γ M d kc ks pc ls (vr z :: vr (some a) :: st) h Q := aw_putr ht hd hf hk (by rw [hj]; exact kk)
theorem aw_putF' {a idx ci k : Nat} {z : Option Nat} {j : Int} (ht : isRT (fty ci k) = true) (hin9 : M.1.name = "<init>") (hown9 : vwCl[ci]?.map (fun q => q.1) = some M.1.cls) (hd : decode M.2.1 pc = .ok (.putfield idx, 3)) (hf : FF M.1.cls idx ci k) (hk : kd h a = some (.inl ci)) (hj : (k : Int) = j) (kk : AW γ M d kc ks (pc + 3) ls st (sr h a j z) Q) : AW γ M d kc ks pc ls (vr z :: vr (some a) :: st) h Q := aw_putF ht hin9 hown9 hd hf hk (by rw [hj]; exact kk)
theorem aw_iald' {a n : Nat} {j z : Int} (hd : decode M.2.1 pc = .ok (.iaload, 1)) (hk : kd h a = some (.inr (1, n))) (hj : 0 ≤ j ∧ j < n) (hn : n ≤ 2147483647) (hv : gi h a j = z) (kk : AW γ M d kc ks (pc + 1) ls (vi z :: st) h Q) : AW γ M d kc ks pc ls (vi j :: vr (some a) :: st) h Q := aw_iald hd hk hj hn (by rw [hv]; exact kk)
theorem aw_bald' {a n : Nat} {j z : Int} (hd : decode M.2.1 pc = .ok (.baload, 1)) (hk : kd h a = some (.inr (0, n))) (hj : 0 ≤ j ∧ j < n) (hn : n ≤ 2147483647) (hv : gi h a j = z) (kk : AW γ M d kc ks (pc + 1) ls (vi z :: st) h Q) : AW γ M d kc ks pc ls (vi j :: vr (some a) :: st) h Q := aw_bald hd hk hj hn (by rw [hv]; exact kk)
theorem aw_zald' {a n : Nat} {j z : Int} (hd : decode M.2.1 pc = .ok (.baload, 1)) (hk : kd h a = some (.inr (3, n))) (hj : 0 ≤ j ∧ j < n) (hn : n ≤ 2147483647) (hv : gi h a j = z) (kk : AW γ M d kc ks (pc + 1) ls (vi z :: st) h Q) : AW γ M d kc ks pc ls (vi j :: vr (some a) :: st) h Q := aw_zald hd hk hj hn (by rw [hv]; exact kk)
theorem aw_lald' {a n : Nat} {j : Int} {z : Int64} (hd : decode M.2.1 pc = .ok (.laload, 1)) (hk : kd h a = some (.inr (2, n))) (hj : 0 ≤ j ∧ j < n) (hn : n ≤ 2147483647) (hv : gl h a j = z) (kk : AW γ M d kc ks (pc + 1) ls (vl z :: st) h Q) : AW γ M d kc ks pc ls (vi j :: vr (some a) :: st) h Q := aw_lald hd hk hj hn (by rw [hv]; exact kk)
theorem aw_aald4' {a n : Nat} {j : Int} {z : Option Nat} (hd : decode M.2.1 pc = .ok (.aaload, 1)) (hk : kd h a = some (.inr (4, n))) (hj : 0 ≤ j ∧ j < n) (hn : n ≤ 2147483647) (hv : gr h a j = z) (kk : AW γ M d kc ks (pc + 1) ls (vr z :: st) h Q) : AW γ M d kc ks pc ls (vi j :: vr (some a) :: st) h Q := aw_aald4 hd hk hj hn (by rw [hv]; exact kk)
theorem aw_aald5' {a n : Nat} {j : Int} {z : Option Nat} (hd : decode M.2.1 pc = .ok (.aaload, 1)) (hk : kd h a = some (.inr (5, n))) (hj : 0 ≤ j ∧ j < n) (hn : n ≤ 2147483647) (hv : gr h a j = z) (kk : AW γ M d kc ks (pc + 1) ls (vr z :: st) h Q) : AW γ M d kc ks pc ls (vi j :: vr (some a) :: st) h Q := aw_aald5 hd hk hj hn (by rw [hv]; exact kk)
theorem aw_aald6' {a n : Nat} {j : Int} {z : Option Nat} (hd : decode M.2.1 pc = .ok (.aaload, 1)) (hk : kd h a = some (.inr (6, n))) (hj : 0 ≤ j ∧ j < n) (hn : n ≤ 2147483647) (hv : gr h a j = z) (kk : AW γ M d kc ks (pc + 1) ls (vr z :: st) h Q) : AW γ M d kc ks pc ls (vi j :: vr (some a) :: st) h Q := aw_aald6 hd hk hj hn (by rw [hv]; exact kk)
theorem aw_aald7' {a n : Nat} {j : Int} {z : Option Nat} (hd : decode M.2.1 pc = .ok (.aaload, 1)) (hk : kd h a = some (.inr (7, n))) (hj : 0 ≤ j ∧ j < n) (hn : n ≤ 2147483647) (hv : gr h a j = z) (kk : AW γ M d kc ks (pc + 1) ls (vr z :: st) h Q) : AW γ M d kc ks pc ls (vi j :: vr (some a) :: st) h Q := aw_aald7 hd hk hj hn (by rw [hv]; exact kk)
theorem aw_invV_r {M' : MD} {d' kc' ks' n idx : Nat} {a : Nat} {as st0 : List AV} {v : AV} {h1 : AH} (hd : decode M.2.1 pc = .ok (.invokevirtual idx, 3)) (hm : mV M' n) (hlk : Cond.methodLink M.1.cls idx M'.1 ∈ lw_tbl) (ht0 : M.2.2.2.2 = []) (hC : Call γ M' d' kc' ks' (vr (some a) :: as) h (rV v h1)) (ho : isO h a M'.1.cls) (has : st0 = as.reverse ++ vr (some a) :: st) (hn : as.length = n) (hd' : d' + 1 ≤ d) (h1' : kc' ≤ kc) (h2' : ks' ≤ ks) (hst : st.length ≤ 4) (kk : AW γ M d (kc - kc') (ks - ks') (pc + 3) ls (v :: st) h1 Q) : AW γ M d kc ks pc ls st0 h Q := by
  rw [has]
  exact aw_invV hd hm hlk ht0 hC ho rfl hn hd' h1' h2' hst (fun v9 h' hq => by obtain ⟨e, rfl⟩ := hq; cases e; exact kk) (fun X h' hq => by obtain ⟨e, -⟩ := hq; cases e)
theorem aw_invV_n {M' : MD} {d' kc' ks' n idx : Nat} {a : Nat} {as st0 : List AV} {h1 : AH} (hd : decode M.2.1 pc = .ok (.invokevirtual idx, 3)) (hm : mV M' n) (hlk : Cond.methodLink M.1.cls idx M'.1 ∈ lw_tbl) (ht0 : M.2.2.2.2 = []) (hC : Call γ M' d' kc' ks' (vr (some a) :: as) h (rN h1)) (ho : isO h a M'.1.cls) (has : st0 = as.reverse ++ vr (some a) :: st) (hn : as.length = n) (hd' : d' + 1 ≤ d) (h1' : kc' ≤ kc) (h2' : ks' ≤ ks) (hst : st.length ≤ 4) (kk : AW γ M d (kc - kc') (ks - ks') (pc + 3) ls (st) h1 Q) : AW γ M d kc ks pc ls st0 h Q := by
  rw [has]
  exact aw_invV hd hm hlk ht0 hC ho rfl hn hd' h1' h2' hst (fun v9 h' hq => by obtain ⟨e, rfl⟩ := hq; cases e; exact kk) (fun X h' hq => by obtain ⟨e, -⟩ := hq; cases e)
theorem aw_invV_q {M' : MD} {d' kc' ks' n idx : Nat} {a : Nat} {as st0 : List AV} {Q' : AR → AH → Prop} (hd : decode M.2.1 pc = .ok (.invokevirtual idx, 3)) (hm : mV M' n) (hlk : Cond.methodLink M.1.cls idx M'.1 ∈ lw_tbl) (ht0 : M.2.2.2.2 = []) (hC : Call γ M' d' kc' ks' (vr (some a) :: as) h Q') (ho : isO h a M'.1.cls) (has : st0 = as.reverse ++ vr (some a) :: st) (hn : as.length = n) (hd' : d' + 1 ≤ d) (h1' : kc' ≤ kc) (h2' : ks' ≤ ks) (hst : st.length ≤ 4) (kk : ∀ (v : Option AV) (h' : AH), Q' (.inl v) h' → AW γ M d (kc - kc') (ks - ks') (pc + 3) ls (v.toList ++ st) h' Q) (kx : ∀ (X : String) (h' : AH), Q' (.inr X) h' → Q (.inr X) h') : AW γ M d kc ks pc ls st0 h Q := by
  rw [has]
  exact aw_invV hd hm hlk ht0 hC ho rfl hn hd' h1' h2' hst kk kx
theorem aw_invS_r {M' : MD} {d' kc' ks' n idx : Nat} {as st0 : List AV} {v : AV} {h1 : AH} (hd : decode M.2.1 pc = .ok (.invokestatic idx, 3)) (hm : mS M' n) (hlk : Cond.methodLink M.1.cls idx M'.1 ∈ lw_tbl) (ht0 : M.2.2.2.2 = []) (hC : Call γ M' d' kc' ks' (as) h (rV v h1)) (has : st0 = as.reverse ++ st) (hn : as.length = n) (hd' : d' + 1 ≤ d) (h1' : kc' ≤ kc) (h2' : ks' ≤ ks) (hst : st.length ≤ 4) (kk : AW γ M d (kc - kc') (ks - ks') (pc + 3) ls (v :: st) h1 Q) : AW γ M d kc ks pc ls st0 h Q := by
  rw [has]
  exact aw_invS hd hm hlk ht0 hC rfl hn hd' h1' h2' hst (fun v9 h' hq => by obtain ⟨e, rfl⟩ := hq; cases e; exact kk) (fun X h' hq => by obtain ⟨e, -⟩ := hq; cases e)
theorem aw_invS_n {M' : MD} {d' kc' ks' n idx : Nat} {as st0 : List AV} {h1 : AH} (hd : decode M.2.1 pc = .ok (.invokestatic idx, 3)) (hm : mS M' n) (hlk : Cond.methodLink M.1.cls idx M'.1 ∈ lw_tbl) (ht0 : M.2.2.2.2 = []) (hC : Call γ M' d' kc' ks' (as) h (rN h1)) (has : st0 = as.reverse ++ st) (hn : as.length = n) (hd' : d' + 1 ≤ d) (h1' : kc' ≤ kc) (h2' : ks' ≤ ks) (hst : st.length ≤ 4) (kk : AW γ M d (kc - kc') (ks - ks') (pc + 3) ls (st) h1 Q) : AW γ M d kc ks pc ls st0 h Q := by
  rw [has]
  exact aw_invS hd hm hlk ht0 hC rfl hn hd' h1' h2' hst (fun v9 h' hq => by obtain ⟨e, rfl⟩ := hq; cases e; exact kk) (fun X h' hq => by obtain ⟨e, -⟩ := hq; cases e)
theorem aw_invS_q {M' : MD} {d' kc' ks' n idx : Nat} {as st0 : List AV} {Q' : AR → AH → Prop} (hd : decode M.2.1 pc = .ok (.invokestatic idx, 3)) (hm : mS M' n) (hlk : Cond.methodLink M.1.cls idx M'.1 ∈ lw_tbl) (ht0 : M.2.2.2.2 = []) (hC : Call γ M' d' kc' ks' (as) h Q') (has : st0 = as.reverse ++ st) (hn : as.length = n) (hd' : d' + 1 ≤ d) (h1' : kc' ≤ kc) (h2' : ks' ≤ ks) (hst : st.length ≤ 4) (kk : ∀ (v : Option AV) (h' : AH), Q' (.inl v) h' → AW γ M d (kc - kc') (ks - ks') (pc + 3) ls (v.toList ++ st) h' Q) (kx : ∀ (X : String) (h' : AH), Q' (.inr X) h' → Q (.inr X) h') : AW γ M d kc ks pc ls st0 h Q := by
  rw [has]
  exact aw_invS hd hm hlk ht0 hC rfl hn hd' h1' h2' hst kk kx
theorem aw_invI_r {M' : MD} {d' kc' ks' n idx : Nat} {a : Nat} {as st0 : List AV} {v : AV} {h1 : AH} (hd : decode M.2.1 pc = .ok (.invokespecial idx, 3)) (hm : mI M' n) (hlk : Cond.methodLink M.1.cls idx M'.1 ∈ lw_tbl) (ht0 : M.2.2.2.2 = []) (hC : Call γ M' d' kc' ks' (vr (some a) :: as) h (rV v h1)) (has : st0 = as.reverse ++ vr (some a) :: st) (hn : as.length = n) (hd' : d' + 1 ≤ d) (h1' : kc' ≤ kc) (h2' : ks' ≤ ks) (hst : st.length ≤ 4) (kk : AW γ M d (kc - kc') (ks - ks') (pc + 3) ls (v :: st) h1 Q) : AW γ M d kc ks pc ls st0 h Q := by
  rw [has]
  exact aw_invI hd hm hlk ht0 hC rfl hn hd' h1' h2' hst (fun v9 h' hq => by obtain ⟨e, rfl⟩ := hq; cases e; exact kk) (fun X h' hq => by obtain ⟨e, -⟩ := hq; cases e)
theorem aw_invI_n {M' : MD} {d' kc' ks' n idx : Nat} {a : Nat} {as st0 : List AV} {h1 : AH} (hd : decode M.2.1 pc = .ok (.invokespecial idx, 3)) (hm : mI M' n) (hlk : Cond.methodLink M.1.cls idx M'.1 ∈ lw_tbl) (ht0 : M.2.2.2.2 = []) (hC : Call γ M' d' kc' ks' (vr (some a) :: as) h (rN h1)) (has : st0 = as.reverse ++ vr (some a) :: st) (hn : as.length = n) (hd' : d' + 1 ≤ d) (h1' : kc' ≤ kc) (h2' : ks' ≤ ks) (hst : st.length ≤ 4) (kk : AW γ M d (kc - kc') (ks - ks') (pc + 3) ls (st) h1 Q) : AW γ M d kc ks pc ls st0 h Q := by
  rw [has]
  exact aw_invI hd hm hlk ht0 hC rfl hn hd' h1' h2' hst (fun v9 h' hq => by obtain ⟨e, rfl⟩ := hq; cases e; exact kk) (fun X h' hq => by obtain ⟨e, -⟩ := hq; cases e)
theorem aw_invI_q {M' : MD} {d' kc' ks' n idx : Nat} {a : Nat} {as st0 : List AV} {Q' : AR → AH → Prop} (hd : decode M.2.1 pc = .ok (.invokespecial idx, 3)) (hm : mI M' n) (hlk : Cond.methodLink M.1.cls idx M'.1 ∈ lw_tbl) (ht0 : M.2.2.2.2 = []) (hC : Call γ M' d' kc' ks' (vr (some a) :: as) h Q') (has : st0 = as.reverse ++ vr (some a) :: st) (hn : as.length = n) (hd' : d' + 1 ≤ d) (h1' : kc' ≤ kc) (h2' : ks' ≤ ks) (hst : st.length ≤ 4) (kk : ∀ (v : Option AV) (h' : AH), Q' (.inl v) h' → AW γ M d (kc - kc') (ks - ks') (pc + 3) ls (v.toList ++ st) h' Q) (kx : ∀ (X : String) (h' : AH), Q' (.inr X) h' → Q (.inr X) h') : AW γ M d kc ks pc ls st0 h Q := by
  rw [has]
  exact aw_invI hd hm hlk ht0 hC rfl hn hd' h1' h2' hst kk kx
theorem aw_invIN_r {M' : MD} {d' kc' ks' n idx : Nat} {a : Nat} {host : String} {as st0 : List AV} {v : AV} {h1 : AH} (hd : decode M.2.1 pc = .ok (.invokespecial idx, 3)) (hm : mI M' n) (hlk : Cond.methodLinkNest M.1.cls idx M'.1 host ∈ lw_tbl) (ht0 : M.2.2.2.2 = []) (hC : Call γ M' d' kc' ks' (vr (some a) :: as) h (rV v h1)) (has : st0 = as.reverse ++ vr (some a) :: st) (hn : as.length = n) (hd' : d' + 1 ≤ d) (h1' : kc' ≤ kc) (h2' : ks' ≤ ks) (hst : st.length ≤ 4) (kk : AW γ M d (kc - kc') (ks - ks') (pc + 3) ls (v :: st) h1 Q) : AW γ M d kc ks pc ls st0 h Q := by
  rw [has]
  exact aw_invIN hd hm hlk ht0 hC rfl hn hd' h1' h2' hst (fun v9 h' hq => by obtain ⟨e, rfl⟩ := hq; cases e; exact kk) (fun X h' hq => by obtain ⟨e, -⟩ := hq; cases e)
theorem aw_invIN_n {M' : MD} {d' kc' ks' n idx : Nat} {a : Nat} {host : String} {as st0 : List AV} {h1 : AH} (hd : decode M.2.1 pc = .ok (.invokespecial idx, 3)) (hm : mI M' n) (hlk : Cond.methodLinkNest M.1.cls idx M'.1 host ∈ lw_tbl) (ht0 : M.2.2.2.2 = []) (hC : Call γ M' d' kc' ks' (vr (some a) :: as) h (rN h1)) (has : st0 = as.reverse ++ vr (some a) :: st) (hn : as.length = n) (hd' : d' + 1 ≤ d) (h1' : kc' ≤ kc) (h2' : ks' ≤ ks) (hst : st.length ≤ 4) (kk : AW γ M d (kc - kc') (ks - ks') (pc + 3) ls (st) h1 Q) : AW γ M d kc ks pc ls st0 h Q := by
  rw [has]
  exact aw_invIN hd hm hlk ht0 hC rfl hn hd' h1' h2' hst (fun v9 h' hq => by obtain ⟨e, rfl⟩ := hq; cases e; exact kk) (fun X h' hq => by obtain ⟨e, -⟩ := hq; cases e)
theorem aw_invIN_q {M' : MD} {d' kc' ks' n idx : Nat} {a : Nat} {host : String} {as st0 : List AV} {Q' : AR → AH → Prop} (hd : decode M.2.1 pc = .ok (.invokespecial idx, 3)) (hm : mI M' n) (hlk : Cond.methodLinkNest M.1.cls idx M'.1 host ∈ lw_tbl) (ht0 : M.2.2.2.2 = []) (hC : Call γ M' d' kc' ks' (vr (some a) :: as) h Q') (has : st0 = as.reverse ++ vr (some a) :: st) (hn : as.length = n) (hd' : d' + 1 ≤ d) (h1' : kc' ≤ kc) (h2' : ks' ≤ ks) (hst : st.length ≤ 4) (kk : ∀ (v : Option AV) (h' : AH), Q' (.inl v) h' → AW γ M d (kc - kc') (ks - ks') (pc + 3) ls (v.toList ++ st) h' Q) (kx : ∀ (X : String) (h' : AH), Q' (.inr X) h' → Q (.inr X) h') : AW γ M d kc ks pc ls st0 h Q := by
  rw [has]
  exact aw_invIN hd hm hlk ht0 hC rfl hn hd' h1' h2' hst kk kx
def wmax (own : String) (idx : Nat) : Prop := Cond.methodLink own idx Lib.Math.max.name ∈ lw_tbl ∧ Cond.static Lib.Math.max.name ∈ lw_tbl ∧ Cond.initialized "java/lang/Math" ∈ lw_tbl ∧ Cond.code Lib.Math.max.name Lib.Math.max.code 2 (some .int) ∈ lw_tbl
theorem aw_max {idx : Nat} {a b : Int} (hd : decode M.2.1 pc = .ok (.invokestatic idx, 3)) (hw : wmax M.1.cls idx) (ha : -2147483648 ≤ a ∧ a ≤ 2147483647) (hb0 : -2147483648 ≤ b ∧ b ≤ 2147483647) (hd' : 1 ≤ d) (hst : st.length ≤ 4) (kk : AW γ M d kc ks (pc + 3) ls (vi (max a b) :: st) h Q) : AW γ M d kc ks pc ls (vi b :: vi a :: st) h Q := by
  intro p l e R s m args below meth c D E Zn mc ms H locs cells slots lsM F V
  obtain ⟨hx, hb, hr, hml, hown, hlocks, hname, htab, htr, hG, hfr, hlo, hmc, hms, hK, hsz⟩ := id F
  obtain ⟨hc1, hc2, hR, hS, hl, hN⟩ := id V
  have hss := st_sum st
  refine va_mmax hx hb (hml.trans hl.1.symm) hown (F.ts hw.1 rfl) (F.ts hw.2.1 rfl) (F.ts hw.2.2.1 rfl) (F.ts hw.2.2.2 rfl) (by omega) (by omega) (by omega) (by omega) hd ?_
  have e8 : (if Int32.ofInt a < Int32.ofInt b then Int32.ofInt b else Int32.ofInt a) = Int32.ofInt (max a b) := by
    by_cases q : a < b
    · rw [if_pos ((i32_lt ha hb0).mpr q)]
      congr 1
      omega
    · rw [if_neg (fun z => q ((i32_lt ha hb0).mp z))]
      congr 1
      omega
  rw [e8]
  exact kk p l e R s m args below meth c D E Zn mc ms H locs cells slots lsM F V
def wmin (own : String) (idx : Nat) : Prop := Cond.methodLink own idx Lib.Math.min.name ∈ lw_tbl ∧ Cond.static Lib.Math.min.name ∈ lw_tbl ∧ Cond.initialized "java/lang/Math" ∈ lw_tbl ∧ Cond.code Lib.Math.min.name Lib.Math.min.code 2 (some .int) ∈ lw_tbl
theorem aw_min {idx : Nat} {a b : Int} (hd : decode M.2.1 pc = .ok (.invokestatic idx, 3)) (hw : wmin M.1.cls idx) (ha : -2147483648 ≤ a ∧ a ≤ 2147483647) (hb0 : -2147483648 ≤ b ∧ b ≤ 2147483647) (hd' : 1 ≤ d) (hst : st.length ≤ 4) (kk : AW γ M d kc ks (pc + 3) ls (vi (min a b) :: st) h Q) : AW γ M d kc ks pc ls (vi b :: vi a :: st) h Q := by
  intro p l e R s m args below meth c D E Zn mc ms H locs cells slots lsM F V
  obtain ⟨hx, hb, hr, hml, hown, hlocks, hname, htab, htr, hG, hfr, hlo, hmc, hms, hK, hsz⟩ := id F
  obtain ⟨hc1, hc2, hR, hS, hl, hN⟩ := id V
  have hss := st_sum st
  refine va_mmin hx hb (hml.trans hl.1.symm) hown (F.ts hw.1 rfl) (F.ts hw.2.1 rfl) (F.ts hw.2.2.1 rfl) (F.ts hw.2.2.2 rfl) (by omega) (by omega) (by omega) (by omega) hd ?_
  have e8 : (if Int32.ofInt b < Int32.ofInt a then Int32.ofInt b else Int32.ofInt a) = Int32.ofInt (min a b) := by
    by_cases q : b < a
    · rw [if_pos ((i32_lt hb0 ha).mpr q)]
      congr 1
      omega
    · rw [if_neg (fun z => q ((i32_lt hb0 ha).mp z))]
      congr 1
      omega
  rw [e8]
  exact kk p l e R s m args below meth c D E Zn mc ms H locs cells slots lsM F V
theorem uX2_29 : wmin RX2 29 := ⟨List.mem_append_right _ (List.mem_of_getElem? (i := 805) (by decide +kernel)), List.mem_append_right _ (List.mem_of_getElem? (i := 806) (by decide +kernel)), List.mem_append_right _ (List.mem_of_getElem? (i := 20) (by decide +kernel)), List.mem_append_right _ (List.mem_of_getElem? (i := 807) (by decide +kernel))⟩
theorem uX4_30 : wmin RX4 30 := ⟨List.mem_append_right _ (List.mem_of_getElem? (i := 1029) (by decide +kernel)), List.mem_append_right _ (List.mem_of_getElem? (i := 806) (by decide +kernel)), List.mem_append_right _ (List.mem_of_getElem? (i := 20) (by decide +kernel)), List.mem_append_right _ (List.mem_of_getElem? (i := 807) (by decide +kernel))⟩
theorem uX5_30 : wmin RX5 30 := ⟨List.mem_append_right _ (List.mem_of_getElem? (i := 930) (by decide +kernel)), List.mem_append_right _ (List.mem_of_getElem? (i := 806) (by decide +kernel)), List.mem_append_right _ (List.mem_of_getElem? (i := 20) (by decide +kernel)), List.mem_append_right _ (List.mem_of_getElem? (i := 807) (by decide +kernel))⟩
theorem uX10_66 : wmax RX10 66 := ⟨List.mem_append_right _ (List.mem_of_getElem? (i := 828) (by decide +kernel)), List.mem_append_right _ (List.mem_of_getElem? (i := 829) (by decide +kernel)), List.mem_append_right _ (List.mem_of_getElem? (i := 20) (by decide +kernel)), List.mem_append_right _ (List.mem_of_getElem? (i := 830) (by decide +kernel))⟩
theorem uJ1_38 : wmin RJ1 38 := ⟨List.mem_append_right _ (List.mem_of_getElem? (i := 979) (by decide +kernel)), List.mem_append_right _ (List.mem_of_getElem? (i := 806) (by decide +kernel)), List.mem_append_right _ (List.mem_of_getElem? (i := 20) (by decide +kernel)), List.mem_append_right _ (List.mem_of_getElem? (i := 807) (by decide +kernel))⟩
theorem uJ1_92 : wmax RJ1 92 := ⟨List.mem_append_right _ (List.mem_of_getElem? (i := 978) (by decide +kernel)), List.mem_append_right _ (List.mem_of_getElem? (i := 829) (by decide +kernel)), List.mem_append_right _ (List.mem_of_getElem? (i := 20) (by decide +kernel)), List.mem_append_right _ (List.mem_of_getElem? (i := 830) (by decide +kernel))⟩
theorem uJ2_183 : wmin RJ2 183 := ⟨List.mem_append_right _ (List.mem_of_getElem? (i := 987) (by decide +kernel)), List.mem_append_right _ (List.mem_of_getElem? (i := 806) (by decide +kernel)), List.mem_append_right _ (List.mem_of_getElem? (i := 20) (by decide +kernel)), List.mem_append_right _ (List.mem_of_getElem? (i := 807) (by decide +kernel))⟩
theorem uJ2_224 : wmax RJ2 224 := ⟨List.mem_append_right _ (List.mem_of_getElem? (i := 986) (by decide +kernel)), List.mem_append_right _ (List.mem_of_getElem? (i := 829) (by decide +kernel)), List.mem_append_right _ (List.mem_of_getElem? (i := 20) (by decide +kernel)), List.mem_append_right _ (List.mem_of_getElem? (i := 830) (by decide +kernel))⟩
theorem aw_lcmp {a b : Int64} (hd : decode M.2.1 pc = .ok (.lcmp, 1)) (k0 : a = b → AW γ M d kc ks (pc + 1) ls (vi 0 :: st) h Q) (k1 : ∀ z : Int, (z = 1 ∨ z = -1) → a ≠ b → AW γ M d kc ks (pc + 1) ls (vi z :: st) h Q) : AW γ M d kc ks pc ls (vl b :: vl a :: st) h Q := by
  intro p l e R s m args below meth c D E Zn mc ms H locs cells slots lsM F V
  obtain ⟨hx, hb, hr, hml, hown, hlocks, hname, htab, htr, hG, hfr, hlo, hmc, hms, hK, hsz⟩ := id F
  obtain ⟨hc1, hc2, hR, hS, hl, hN⟩ := id V
  refine W.lcmp hx hb hd ?_
  by_cases q1 : a = b
  · have e8 : lg_cmp a b = Int32.ofInt 0 := by rw [q1]; simp [lg_cmp]
    rw [e8]
    exact k0 q1 p l e R s m args below meth c D E Zn mc ms H locs cells slots lsM F V
  · by_cases q2 : b < a
    · have e8 : lg_cmp a b = Int32.ofInt 1 := by simp [lg_cmp, q2]
      rw [e8]
      exact k1 1 (Or.inl rfl) q1 p l e R s m args below meth c D E Zn mc ms H locs cells slots lsM F V
    · have e8 : lg_cmp a b = Int32.ofInt (-1) := by simp [lg_cmp, q1, q2]
      rw [e8]
      exact k1 (-1) (Or.inr rfl) q1 p l e R s m args below meth c D E Zn mc ms H locs cells slots lsM F V
/-- ldc of the axes' signs -/
theorem aw_ldct {idx : Nat} (hd : decode M.2.1 pc = .ok (.ldc idx, 2)) (hw : (M.1.cls = RX9 ∧ idx = 19) ∨ (M.1.cls = RX3 ∧ idx = 152)) (kk : AW γ M d kc ks (pc + 2) ls (vr (some (γ.2.1 0)) :: st) h Q) : AW γ M d kc ks pc ls st h Q := by
  intro p l e R s m args below meth c D E Zn mc ms H locs cells slots lsM F V
  obtain ⟨hx, hb, hr, hml, hown, hlocks, hname, htab, htr, hG, hfr, hlo, hmc, hms, hK, hsz⟩ := id F
  obtain ⟨hc1, hc2, hR, hS, hl, hN⟩ := id V
  rcases hw with ⟨h1, rfl⟩ | ⟨h1, rfl⟩
  · rw [h1] at hown
    exact va_ldcS hx hb hown hG.2.2.2.2.2.2.2.1 hd (kk p l e R s m args below meth c D E Zn mc ms H locs cells slots lsM F V)
  · rw [h1] at hown
    exact va_ldcS hx hb hown hG.2.2.2.2.2.2.2.2.1 hd (kk p l e R s m args below meth c D E Zn mc ms H locs cells slots lsM F V)
theorem aw_tcoder {idx : Nat} (hd : decode M.2.1 pc = .ok (.getfield idx, 3)) (hw : Cond.fieldLink M.1.cls idx "java/lang/String" "coder" "B" ∈ lw_tbl) (kk : AW γ M d kc ks (pc + 3) ls (vi 0 :: st) h Q) : AW γ M d kc ks pc ls (vr (some (γ.2.1 0)) :: st) h Q := by
  intro p l e R s m args below meth c D E Zn mc ms H locs cells slots lsM F V
  obtain ⟨hx, hb, hr, hml, hown, hlocks, hname, htab, htr, hG, hfr, hlo, hmc, hms, hK, hsz⟩ := id F
  obtain ⟨hc1, hc2, hR, hS, hl, hN⟩ := id V
  exact vk_getf hx hb (hG.2.2.2.2.2.2.1.1 0 (by decide)).2.1 hS hown (F.ts hw rfl) (fun x hx => hx) hd (kk p l e R s m args below meth c D E Zn mc ms H locs cells slots lsM F V)
theorem aw_tvalue {idx : Nat} (hd : decode M.2.1 pc = .ok (.getfield idx, 3)) (hw : Cond.fieldLink M.1.cls idx "java/lang/String" "value" "[B" ∈ lw_tbl) (kk : AW γ M d kc ks (pc + 3) ls (vr (some (γ.2.2 0)) :: st) h Q) : AW γ M d kc ks pc ls (vr (some (γ.2.1 0)) :: st) h Q := by
  intro p l e R s m args below meth c D E Zn mc ms H locs cells slots lsM F V
  obtain ⟨hx, hb, hr, hml, hown, hlocks, hname, htab, htr, hG, hfr, hlo, hmc, hms, hK, hsz⟩ := id F
  obtain ⟨hc1, hc2, hR, hS, hl, hN⟩ := id V
  exact vk_getf hx hb (hG.2.2.2.2.2.2.1.1 0 (by decide)).2.2.1 hS hown (F.ts hw rfl) (fun x hx => hx) hd (kk p l e R s m args below meth c D E Zn mc ms H locs cells slots lsM F V)
theorem aw_compact {idx : Nat} (hd : decode M.2.1 pc = .ok (.getstatic idx, 3)) (hw : Cond.fieldLink M.1.cls idx "java/lang/String" "COMPACT_STRINGS" "Z" ∈ lw_tbl) (kk : AW γ M d kc ks (pc + 3) ls (vi 1 :: st) h Q) : AW γ M d kc ks pc ls st h Q := by
  intro p l e R s m args below meth c D E Zn mc ms H locs cells slots lsM F V
  obtain ⟨hx, hb, hr, hml, hown, hlocks, hname, htab, htr, hG, hfr, hlo, hmc, hms, hK, hsz⟩ := id F
  obtain ⟨hc1, hc2, hR, hS, hl, hN⟩ := id V
  exact va_gets hx hb hG.2.2.2.2.1 hS hown (F.ts hw rfl) (fun x hx => hx) hd (kk p l e R s m args below meth c D E Zn mc ms H locs cells slots lsM F V)
theorem aw_sioobe {idx : Nat} (hd : decode M.2.1 pc = .ok (.getstatic idx, 3)) (hw3 : Cond.fieldLink M.1.cls idx "jdk/internal/util/Preconditions" "SIOOBE_FORMATTER" "Ljava/util/function/BiFunction;" ∈ lw_tbl) (kk : ∀ o : Option Nat, AW γ M d kc ks (pc + 3) ls (vr o :: st) h Q) : AW γ M d kc ks pc ls st h Q := by
  intro p l e R s m args below meth c D E Zn mc ms H locs cells slots lsM F V
  obtain ⟨hx, hb, hr, hml, hown, hlocks, hname, htab, htr, hG, hfr, hlo, hmc, hms, hK, hsz⟩ := id F
  obtain ⟨hc1, hc2, hR, hS, hl, hN⟩ := id V
  rcases hG.2.2.2.2.2.1 with hz | ⟨t, hz⟩
  · exact va_gets hx hb hz hS hown (F.ts hw3 rfl) (fun x hx => hx) hd (kk none p l e R s m args below meth c D E Zn mc ms H locs cells slots lsM F V)
  · exact va_gets hx hb hz hS hown (F.ts hw3 rfl) (fun x hx => hx) hd (kk (some t) p l e R s m args below meth c D E Zn mc ms H locs cells slots lsM F V)
theorem aw_tlen (hd : decode M.2.1 pc = .ok (.arraylength, 1)) (kk : AW γ M d kc ks (pc + 1) ls (vi 9 :: st) h Q) : AW γ M d kc ks pc ls (vr (some (γ.2.2 0)) :: st) h Q := by
  intro p l e R s m args below meth c D E Zn mc ms H locs cells slots lsM F V
  obtain ⟨hx, hb, hr, hml, hown, hlocks, hname, htab, htr, hG, hfr, hlo, hmc, hms, hK, hsz⟩ := id F
  obtain ⟨hc1, hc2, hR, hS, hl, hN⟩ := id V
  exact va_tlen hx hb (hG.2.2.2.2.2.2.1.1 0 (by decide)).2.2.2 hS (v := Int32.ofInt 9) rfl hd (kk p l e R s m args below meth c D E Zn mc ms H locs cells slots lsM F V)
def ax_s : List Int := [46, 37, 35, 62, 125, 94, 126, 60, 123]
theorem aw_tbyte {j : Int} (hd : decode M.2.1 pc = .ok (.baload, 1)) (hj : 0 ≤ j ∧ j < 9) (kk : AW γ M d kc ks (pc + 1) ls (vi (ax_s.getD j.toNat 0) :: st) h Q) : AW γ M d kc ks pc ls (vi j :: vr (some (γ.2.2 0)) :: st) h Q := by
  intro p l e R s m args below meth c D E Zn mc ms H locs cells slots lsM F V
  obtain ⟨hx, hb, hr, hml, hown, hlocks, hname, htab, htr, hG, hfr, hlo, hmc, hms, hK, hsz⟩ := id F
  obtain ⟨hc1, hc2, hR, hS, hl, hN⟩ := id V
  obtain ⟨g1, g2⟩ := i32_clamp (n := 9) hj.1 hj.2 (by decide)
  refine va_tb (v := cV (vi (ax_s.getD j.toNat 0))) hx hb (hG.2.2.2.2.2.2.1.1 0 (by decide)).2.2.2 hS g1 ?_ hd (kk p l e R s m args below meth c D E Zn mc ms H locs cells slots lsM F V)
  have e8 : (Int32.ofInt j).toNatClampNeg = j.toNat := by omega
  rw [e8]
  have hlt : j.toNat < 9 := by omega
  generalize j.toNat = q at hlt
  match q, hlt with
  | 0, _ => rfl
  | 1, _ => rfl
  | 2, _ => rfl
  | 3, _ => rfl
  | 4, _ => rfl
  | 5, _ => rfl
  | 6, _ => rfl
  | 7, _ => rfl
  | 8, _ => rfl
  | q + 9, hlt => exact absurd hlt (by omega)
/-- a call on the text -/
theorem aw_invT {M' : MD} {d' kc' ks' n idx : Nat} {as st0 : List AV} {v : AV} {h1 : AH} (hd : decode M.2.1 pc = .ok (.invokevirtual idx, 3)) (hm : mV M' n) (hlk : Cond.methodLink M.1.cls idx M'.1 ∈ lw_tbl) (ht0 : M.2.2.2.2 = []) (hcl : M'.1.cls = "java/lang/String")
    (hC : Call γ M' d' kc' ks' (vr (some (γ.2.1 0)) :: as) h (rV v h1)) (has : st0 = as.reverse ++ vr (some (γ.2.1 0)) :: st) (hn : as.length = n) (hd' : d' + 1 ≤ d) (h1' : kc' ≤ kc) (h2' : ks' ≤ ks) (hst : st.length ≤ 4)
    (kk : AW γ M d (kc - kc') (ks - ks') (pc + 3) ls (v :: st) h1 Q) : AW γ M d kc ks pc ls st0 h Q := by
  intro p l e R s m args below meth c D E Zn mc ms H locs cells slots lsM F V
  obtain ⟨hx, hb, hr, hml, hown, hlocks, hname, htab, htr, hG, hfr, hlo, hmc, hms, hK, hsz⟩ := id F
  obtain ⟨hc1, hc2, hR, hS, hl, hN⟩ := id V
  subst has
  have hss := st_sum st
  have hrv : (List.map cV (as.reverse ++ vr (some (γ.2.1 0)) :: st)) = (as.map cV).reverse ++ .ref (γ.2.1 0) :: st.map cV := by
    rw [List.map_append, List.map_reverse]; rfl
  rw [hrv]
  refine aw_run (M' := M') (d' := d') F V ht0 h1' h2' (fun hN9 => vx_runV (As := as.map cV) (Ts := []) (n := n) (C := M'.1.cls) ⟨hx, hb, hml, hown, fun w hw => by cases hw⟩ (hC l D E htr) ⟨call_B F hm.1 hlk hd', F.ts hm.2.1 rfl, F.ts hm.2.2 rfl⟩ ⟨PcO.blind, by rw [hcl]; exact vk_recv hG.2.2.2.2.2.2.1 (by decide) hS, ?_⟩ rfl (by rw [List.length_map]; exact hn) hl.1 rfl (lv_room (by omega)) hd ⟨by omega, by omega⟩) (fun v9 h' hq => by obtain ⟨e, rfl⟩ := hq; cases e; exact kk) (fun X h' hq => by obtain ⟨e, -⟩ := hq; cases e)
  exact PcO.of (as := vr (some (γ.2.1 0)) :: as) hG hK hR hS hsz hN9
theorem fJ0_38 : Cond.fieldLink RJ0 38 "java/lang/String" "COMPACT_STRINGS" "Z" ∈ lw_tbl := List.mem_append_right _ (List.mem_of_getElem? (i := 386) (by decide +kernel))
theorem fJ0_1053 : Cond.fieldLink RJ0 1053 "jdk/internal/util/Preconditions" "SIOOBE_FORMATTER" "Ljava/util/function/BiFunction;" ∈ lw_tbl := List.mem_append_right _ (List.mem_of_getElem? (i := 394) (by decide +kernel))
theorem fJ0_15 : Cond.fieldLink RJ0 15 "java/lang/String" "coder" "B" ∈ lw_tbl := List.mem_append_right _ (List.mem_of_getElem? (i := 1687) (by decide +kernel))
theorem fJ0_9 : Cond.fieldLink RJ0 9 "java/lang/String" "value" "[B" ∈ lw_tbl := List.mem_append_right _ (List.mem_of_getElem? (i := 1688) (by decide +kernel))
end AWJ
