section AWH
variable {γ : GG} {M : MD} {d kc ks pc : Nat} {ls : List (Nat × AV)} {st : List AV} {h : AH} {Q : AR → AH → Prop}
/-- a class of ours by its number: its name, fields, how many -/
def CI (ci : Nat) (C : String) (T : u_T) (N : Nat) : Prop := vwCl[ci]? = some (C, T, N) ∧ (∀ w ∈ u_ws C T N, w ∈ lw_tbl) ∧ (∀ k, k < N → parseFieldDescriptor (T k).2.2.1 = some (fty ci k)) ∧ (∀ a, a < N → ∀ b, b < N → a ≠ b → (T a).2.1 ≠ (T b).2.1)
def FG (own : String) (idx ci k : Nat) (fin : Bool) : Prop := ∃ (C : String) (T : u_T) (N : Nat), CI ci C T N ∧ k < N ∧ (T k).2.2.2 = fin ∧ (T k).1 = C ∧ (Cond.fieldLink own idx (T k).1 (T k).2.1 (T k).2.2.1 ∈ lw_tbl ∨ ∃ host, Cond.fieldLinkNest own idx (T k).1 (T k).2.1 (T k).2.2.1 host ∈ lw_tbl)
theorem ci_nf {ci N : Nat} {C : String} {T : u_T} (h : CI ci C T N) : nf ci = N := by
  unfold nf
  rw [h.1]
theorem okw_lay {C : String} {T : u_T} {N : Nat} : ∀ w ∈ u_ws C T N, okw w = true := by
  intro w hw
  obtain ⟨k, -, rfl⟩ := List.mem_map.mp hw
  unfold u_lay
  split <;> rfl
theorem fv_l {ty : FieldType} {z : Int} {x : Int64} {o : Option Nat} (ht : ty = .long) : fv ty z x o = cV (vl x) := by subst ht; rfl
theorem fv_r {ty : FieldType} {z : Int} {x : Int64} {o : Option Nat} (ht : isRT ty = true) : fv ty z x o = cV (vr o) := by
  cases ty <;> first | rfl | cases ht
theorem fv_i {ty : FieldType} {z : Int} {x : Int64} {o : Option Nat} (h1 : isRT ty = false) (h2 : ty ≠ .long) : fv ty z x o = cV (vi z) := by
  unfold fv
  rw [if_neg h2, if_neg (by rw [h1]; decide)]
  rfl
/-- how a field's value is told: 0 an int, 1 a long, 2 a reference -/
def fk (ci k : Nat) : Nat := if isRT (fty ci k) = true then 2 else if fty ci k = .long then 1 else 0
theorem fk_0 {ci k : Nat} (hk : fk ci k = 0) : isRT (fty ci k) = false ∧ fty ci k ≠ .long := by
  unfold fk at hk
  split at hk
  · cases hk
  · split at hk
    · cases hk
    · exact ⟨by simpa using ‹¬ isRT (fty ci k) = true›, ‹_›⟩
theorem fk_1 {ci k : Nat} (hk : fk ci k = 1) : fty ci k = .long := by
  unfold fk at hk
  split at hk
  · cases hk
  · split at hk
    · assumption
    · cases hk
theorem fk_2 {ci k : Nat} (hk : fk ci k = 2) : isRT (fty ci k) = true := by
  unfold fk at hk
  split at hk
  · assumption
  · split at hk <;> cases hk

theorem aw_geti {a idx ci k : Nat} {fin : Bool} (hd : decode M.2.1 pc = .ok (.getfield idx, 3)) (hf : FG M.1.cls idx ci k fin) (ht : fk ci k = 0) (hk : kd h a = some (.inl ci)) (kk : AW γ M d kc ks (pc + 3) ls (vi (gi h a k) :: st) h Q) : AW γ M d kc ks pc ls (vr (some a) :: st) h Q := by
  intro p l e R s m args below meth c D E Zn mc ms H locs cells slots lsM F V
  obtain ⟨hx, hb, hr, hml, hown, hlocks, hname, htab, htr, hG, hfr, hlo, hmc, hms, hK, hsz⟩ := id F
  obtain ⟨hc1, hc2, hR, hS, hl, hN⟩ := id V
  obtain ⟨C, T, N, hci, hkN, -, -, hlink⟩ := hf
  obtain ⟨L, q0, h1, h2, h3, hm, hq⟩ := hR.get hk
  rw [conc_obj hk] at hq
  have hv : (objE h ci a)[k]? = some (cV (vi (gi h a k))) := by rw [objE_get (by rw [ci_nf hci]; exact hkN), fv_i (fk_0 ht).1 (fk_0 ht).2]
  have hts : ∀ w ∈ u_ws C T N, w.before args s = true := fun w hw => F.ts (hci.2.1 w hw) (okw_lay w hw)
  rcases hlink with hl9 | ⟨host, hl9⟩
  · exact va_get hx hb hts (fun w hw => hw) hown hK h2 q0 hq hci.1 k hkN (F.ts hl9 rfl) (fun x hx => hx) hv hd (kk p l e R s m args below meth c D E Zn mc ms H locs cells slots lsM F V)
  · exact va_getN hx hb hts (fun w hw => hw) hown hK h2 q0 hq hci.1 k hkN (F.ts hl9 rfl) (fun x hx => hx) hv hd (kk p l e R s m args below meth c D E Zn mc ms H locs cells slots lsM F V)
theorem aw_getl {a idx ci k : Nat} {fin : Bool} (hd : decode M.2.1 pc = .ok (.getfield idx, 3)) (hf : FG M.1.cls idx ci k fin) (ht : fk ci k = 1) (hk : kd h a = some (.inl ci)) (kk : AW γ M d kc ks (pc + 3) ls (vl (gl h a k) :: st) h Q) : AW γ M d kc ks pc ls (vr (some a) :: st) h Q := by
  intro p l e R s m args below meth c D E Zn mc ms H locs cells slots lsM F V
  obtain ⟨hx, hb, hr, hml, hown, hlocks, hname, htab, htr, hG, hfr, hlo, hmc, hms, hK, hsz⟩ := id F
  obtain ⟨hc1, hc2, hR, hS, hl, hN⟩ := id V
  obtain ⟨C, T, N, hci, hkN, -, -, hlink⟩ := hf
  obtain ⟨L, q0, h1, h2, h3, hm, hq⟩ := hR.get hk
  rw [conc_obj hk] at hq
  have hv : (objE h ci a)[k]? = some (cV (vl (gl h a k))) := by rw [objE_get (by rw [ci_nf hci]; exact hkN), fv_l (fk_1 ht)]
  have hts : ∀ w ∈ u_ws C T N, w.before args s = true := fun w hw => F.ts (hci.2.1 w hw) (okw_lay w hw)
  rcases hlink with hl9 | ⟨host, hl9⟩
  · exact va_get hx hb hts (fun w hw => hw) hown hK h2 q0 hq hci.1 k hkN (F.ts hl9 rfl) (fun x hx => hx) hv hd (kk p l e R s m args below meth c D E Zn mc ms H locs cells slots lsM F V)
  · exact va_getN hx hb hts (fun w hw => hw) hown hK h2 q0 hq hci.1 k hkN (F.ts hl9 rfl) (fun x hx => hx) hv hd (kk p l e R s m args below meth c D E Zn mc ms H locs cells slots lsM F V)
theorem aw_getr {a idx ci k : Nat} {fin : Bool} (hd : decode M.2.1 pc = .ok (.getfield idx, 3)) (hf : FG M.1.cls idx ci k fin) (ht : fk ci k = 2) (hk : kd h a = some (.inl ci)) (kk : AW γ M d kc ks (pc + 3) ls (vr (gr h a k) :: st) h Q) : AW γ M d kc ks pc ls (vr (some a) :: st) h Q := by
  intro p l e R s m args below meth c D E Zn mc ms H locs cells slots lsM F V
  obtain ⟨hx, hb, hr, hml, hown, hlocks, hname, htab, htr, hG, hfr, hlo, hmc, hms, hK, hsz⟩ := id F
  obtain ⟨hc1, hc2, hR, hS, hl, hN⟩ := id V
  obtain ⟨C, T, N, hci, hkN, -, -, hlink⟩ := hf
  obtain ⟨L, q0, h1, h2, h3, hm, hq⟩ := hR.get hk
  rw [conc_obj hk] at hq
  have hv : (objE h ci a)[k]? = some (cV (vr (gr h a k))) := by rw [objE_get (by rw [ci_nf hci]; exact hkN), fv_r (fk_2 ht)]
  have hts : ∀ w ∈ u_ws C T N, w.before args s = true := fun w hw => F.ts (hci.2.1 w hw) (okw_lay w hw)
  rcases hlink with hl9 | ⟨host, hl9⟩
  · exact va_get hx hb hts (fun w hw => hw) hown hK h2 q0 hq hci.1 k hkN (F.ts hl9 rfl) (fun x hx => hx) hv hd (kk p l e R s m args below meth c D E Zn mc ms H locs cells slots lsM F V)
  · exact va_getN hx hb hts (fun w hw => hw) hown hK h2 q0 hq hci.1 k hkN (F.ts hl9 rfl) (fun x hx => hx) hv hd (kk p l e R s m args below meth c D E Zn mc ms H locs cells slots lsM F V)
theorem RelH.puto {D : va_G} {E : Nat → ClassId} {base : Nat} {h h' : AH} {H1 : Heap} {L : List Nat} {q0 a ci k : Nat} {v : Value} (hk : kd h a = some (.inl ci)) (hL : ∀ a, a ∈ L ↔ (kd h a).isSome = true) (hD0 : va_D (fun q => base ≤ q) ([] ++ va_pl L (conc E h))) (hm : a ∈ L) (hq : ([] ++ va_pl L (conc E h))[q0]? = some (a, .inr (ci, objE h ci a)))
    (hP : va_P D vwCl (([] ++ va_pl L (conc E h)).set q0 (a, .inr (ci, (objE h ci a).set k v))) H1) (hD : va_D (fun q => base ≤ q) (([] ++ va_pl L (conc E h)).set q0 (a, .inr (ci, (objE h ci a).set k v)))) (hkN : k < nf ci)
    (hkd : ∀ b, kd h' b = kd h b) (hv : fv (fty ci k) (gi h' a k) (gl h' a k) (gr h' a k) = v) (hne : ∀ (b : Nat) (j : Int), ¬ (b = a ∧ j = k) → gi h' b j = gi h b j ∧ gl h' b j = gl h b j ∧ gr h' b j = gr h b j) : RelH D E base h' H1 := by
  refine RelH.put hL hD0 hm (by rw [conc_obj hk]; exact hq) hP hD hkd ?_ (fun b hb => ⟨fun j => (hne b j (fun z => hb z.1)).1, fun j => (hne b j (fun z => hb z.1)).2.1, fun j => (hne b j (fun z => hb z.1)).2.2⟩)
  rw [conc_obj ((hkd a).trans hk), objE_set v hkN hv (fun j hj => hne a j (fun z => hj (by have := z.2; omega)))]
theorem aw_puti {a idx ci k : Nat} {z : Int} (ht : fty ci k = .int) (hd : decode M.2.1 pc = .ok (.putfield idx, 3)) (hf : FG M.1.cls idx ci k false) (hk : kd h a = some (.inl ci)) (kk : AW γ M d kc ks (pc + 3) ls st (si h a k z) Q) : AW γ M d kc ks pc ls (vi z :: vr (some a) :: st) h Q := by
  intro p l e R s m args below meth c D E Zn mc ms H locs cells slots lsM F V
  obtain ⟨hx, hb, hr, hml, hown, hlocks, hname, htab, htr, hG, hfr, hlo, hmc, hms, hK, hsz⟩ := id F
  obtain ⟨hc1, hc2, hR, hS, hl, hN⟩ := id V
  obtain ⟨C, T, N, hci, hkN, hfin, hdecl, hlink⟩ := hf
  have hkn : k < nf ci := by rw [ci_nf hci]; exact hkN
  obtain ⟨L, q0, h1, h2, h3, hm, hq⟩ := hR.get hk
  rw [conc_obj hk] at hq
  have hts : ∀ w ∈ u_ws C T N, w.before args s = true := fun w hw => F.ts (hci.2.1 w hw) (okw_lay w hw)
  have hn9 : narrow (fty ci k) (cV (vi z)) = cV (vi z) := (by rw [ht]; rfl)
  have hf9 : fits (fty ci k) (cV (vi z)) = true := (by rw [ht]; rfl)
  have fin9 : ∀ (H1 : Heap) (locs1 : List Loc), va_P D vwCl (([] ++ va_pl L (conc E h)).set q0 (a, .inr (ci, (objE h ci a).set k (cV (vi z))))) H1 → va_D (fun q => γ.1 ≤ q) (([] ++ va_pl L (conc E h)).set q0 (a, .inr (ci, (objE h ci a).set k (cV (vi z))))) → va_S (fun q => γ.1 ≤ q) s.heap H1 locs1 → W p l e R s m args below meth c H1 locs1 cells slots (vx_MQ below (QcO γ D E mc Zn Q) (XcO γ D E Q) args s mc ms (fun q => γ.1 ≤ q)) (F0 m (pc + 3) lsM (st.map cV)) := by
    intro H1 locs1 hP1 hD1 hS1
    exact kk p l e R s m args below meth c D E Zn mc ms H1 locs1 cells slots lsM F ⟨hc1, hc2, (RelH.puto (h' := si h a k z) hk h1 h3 hm hq hP1 hD1 hkn (fun b => rfl) (by rw [gi_si, if_pos ⟨rfl, rfl⟩, fv_i (by rw [ht]; rfl) (by rw [ht]; decide)]) (fun b j hj => ⟨by rw [gi_si, if_neg hj], rfl, rfl⟩)), hS1, hl, hN⟩
  rcases hlink with hl9 | ⟨host, hl9⟩
  · exact va_put hx hb hts (fun w hw => hw) (fty ci) hci.2.2.1 hci.2.2.2 hown hK h2 h3 hS q0 hq hci.1 k hkN (F.ts hl9 rfl) (fun x hx => hx) hfin (hci.2.2.1 k hkN) hn9 hf9 (by rw [objE_len]; exact hkn) hd fin9
  · exact va_putN hx hb hts (fun w hw => hw) (fty ci) hci.2.2.1 hci.2.2.2 hown hK h2 h3 hS q0 hq hci.1 k hkN (F.ts hl9 rfl) (fun x hx => hx) hfin (hci.2.2.1 k hkN) hn9 hf9 (by rw [objE_len]; exact hkn) hd fin9
theorem aw_putz {a idx ci k : Nat} {z : Int} (ht : fty ci k = .boolean) (hz : z = 0 ∨ z = 1) (hd : decode M.2.1 pc = .ok (.putfield idx, 3)) (hf : FG M.1.cls idx ci k false) (hk : kd h a = some (.inl ci)) (kk : AW γ M d kc ks (pc + 3) ls st (si h a k z) Q) : AW γ M d kc ks pc ls (vi z :: vr (some a) :: st) h Q := by
  intro p l e R s m args below meth c D E Zn mc ms H locs cells slots lsM F V
  obtain ⟨hx, hb, hr, hml, hown, hlocks, hname, htab, htr, hG, hfr, hlo, hmc, hms, hK, hsz⟩ := id F
  obtain ⟨hc1, hc2, hR, hS, hl, hN⟩ := id V
  obtain ⟨C, T, N, hci, hkN, hfin, hdecl, hlink⟩ := hf
  have hkn : k < nf ci := by rw [ci_nf hci]; exact hkN
  obtain ⟨L, q0, h1, h2, h3, hm, hq⟩ := hR.get hk
  rw [conc_obj hk] at hq
  have hts : ∀ w ∈ u_ws C T N, w.before args s = true := fun w hw => F.ts (hci.2.1 w hw) (okw_lay w hw)
  have hn9 : narrow (fty ci k) (cV (vi z)) = cV (vi z) := (by rw [ht]; rcases hz with rfl | rfl <;> rfl)
  have hf9 : fits (fty ci k) (cV (vi z)) = true := (by rw [ht]; rcases hz with rfl | rfl <;> rfl)
  have fin9 : ∀ (H1 : Heap) (locs1 : List Loc), va_P D vwCl (([] ++ va_pl L (conc E h)).set q0 (a, .inr (ci, (objE h ci a).set k (cV (vi z))))) H1 → va_D (fun q => γ.1 ≤ q) (([] ++ va_pl L (conc E h)).set q0 (a, .inr (ci, (objE h ci a).set k (cV (vi z))))) → va_S (fun q => γ.1 ≤ q) s.heap H1 locs1 → W p l e R s m args below meth c H1 locs1 cells slots (vx_MQ below (QcO γ D E mc Zn Q) (XcO γ D E Q) args s mc ms (fun q => γ.1 ≤ q)) (F0 m (pc + 3) lsM (st.map cV)) := by
    intro H1 locs1 hP1 hD1 hS1
    exact kk p l e R s m args below meth c D E Zn mc ms H1 locs1 cells slots lsM F ⟨hc1, hc2, (RelH.puto (h' := si h a k z) hk h1 h3 hm hq hP1 hD1 hkn (fun b => rfl) (by rw [gi_si, if_pos ⟨rfl, rfl⟩, fv_i (by rw [ht]; rfl) (by rw [ht]; decide)]) (fun b j hj => ⟨by rw [gi_si, if_neg hj], rfl, rfl⟩)), hS1, hl, hN⟩
  rcases hlink with hl9 | ⟨host, hl9⟩
  · exact va_put hx hb hts (fun w hw => hw) (fty ci) hci.2.2.1 hci.2.2.2 hown hK h2 h3 hS q0 hq hci.1 k hkN (F.ts hl9 rfl) (fun x hx => hx) hfin (hci.2.2.1 k hkN) hn9 hf9 (by rw [objE_len]; exact hkn) hd fin9
  · exact va_putN hx hb hts (fun w hw => hw) (fty ci) hci.2.2.1 hci.2.2.2 hown hK h2 h3 hS q0 hq hci.1 k hkN (F.ts hl9 rfl) (fun x hx => hx) hfin (hci.2.2.1 k hkN) hn9 hf9 (by rw [objE_len]; exact hkn) hd fin9
theorem aw_putl {a idx ci k : Nat} {z : Int64} (ht : fty ci k = .long) (hd : decode M.2.1 pc = .ok (.putfield idx, 3)) (hf : FG M.1.cls idx ci k false) (hk : kd h a = some (.inl ci)) (kk : AW γ M d kc ks (pc + 3) ls st (sl h a k z) Q) : AW γ M d kc ks pc ls (vl z :: vr (some a) :: st) h Q := by
  intro p l e R s m args below meth c D E Zn mc ms H locs cells slots lsM F V
  obtain ⟨hx, hb, hr, hml, hown, hlocks, hname, htab, htr, hG, hfr, hlo, hmc, hms, hK, hsz⟩ := id F
  obtain ⟨hc1, hc2, hR, hS, hl, hN⟩ := id V
  obtain ⟨C, T, N, hci, hkN, hfin, hdecl, hlink⟩ := hf
  have hkn : k < nf ci := by rw [ci_nf hci]; exact hkN
  obtain ⟨L, q0, h1, h2, h3, hm, hq⟩ := hR.get hk
  rw [conc_obj hk] at hq
  have hts : ∀ w ∈ u_ws C T N, w.before args s = true := fun w hw => F.ts (hci.2.1 w hw) (okw_lay w hw)
  have hn9 : narrow (fty ci k) (cV (vl z)) = cV (vl z) := (by rw [ht]; rfl)
  have hf9 : fits (fty ci k) (cV (vl z)) = true := (by rw [ht]; rfl)
  have fin9 : ∀ (H1 : Heap) (locs1 : List Loc), va_P D vwCl (([] ++ va_pl L (conc E h)).set q0 (a, .inr (ci, (objE h ci a).set k (cV (vl z))))) H1 → va_D (fun q => γ.1 ≤ q) (([] ++ va_pl L (conc E h)).set q0 (a, .inr (ci, (objE h ci a).set k (cV (vl z))))) → va_S (fun q => γ.1 ≤ q) s.heap H1 locs1 → W p l e R s m args below meth c H1 locs1 cells slots (vx_MQ below (QcO γ D E mc Zn Q) (XcO γ D E Q) args s mc ms (fun q => γ.1 ≤ q)) (F0 m (pc + 3) lsM (st.map cV)) := by
    intro H1 locs1 hP1 hD1 hS1
    exact kk p l e R s m args below meth c D E Zn mc ms H1 locs1 cells slots lsM F ⟨hc1, hc2, (RelH.puto (h' := sl h a k z) hk h1 h3 hm hq hP1 hD1 hkn (fun b => rfl) (by rw [gl_sl, if_pos ⟨rfl, rfl⟩, fv_l ht]) (fun b j hj => ⟨rfl, by rw [gl_sl, if_neg hj], rfl⟩)), hS1, hl, hN⟩
  rcases hlink with hl9 | ⟨host, hl9⟩
  · exact va_put hx hb hts (fun w hw => hw) (fty ci) hci.2.2.1 hci.2.2.2 hown hK h2 h3 hS q0 hq hci.1 k hkN (F.ts hl9 rfl) (fun x hx => hx) hfin (hci.2.2.1 k hkN) hn9 hf9 (by rw [objE_len]; exact hkn) hd fin9
  · exact va_putN hx hb hts (fun w hw => hw) (fty ci) hci.2.2.1 hci.2.2.2 hown hK h2 h3 hS q0 hq hci.1 k hkN (F.ts hl9 rfl) (fun x hx => hx) hfin (hci.2.2.1 k hkN) hn9 hf9 (by rw [objE_len]; exact hkn) hd fin9
theorem aw_putr {a idx ci k : Nat} {z : Option Nat} (ht : isRT (fty ci k) = true) (hd : decode M.2.1 pc = .ok (.putfield idx, 3)) (hf : FG M.1.cls idx ci k false) (hk : kd h a = some (.inl ci)) (kk : AW γ M d kc ks (pc + 3) ls st (sr h a k z) Q) : AW γ M d kc ks pc ls (vr z :: vr (some a) :: st) h Q := by
  intro p l e R s m args below meth c D E Zn mc ms H locs cells slots lsM F V
  obtain ⟨hx, hb, hr, hml, hown, hlocks, hname, htab, htr, hG, hfr, hlo, hmc, hms, hK, hsz⟩ := id F
  obtain ⟨hc1, hc2, hR, hS, hl, hN⟩ := id V
  obtain ⟨C, T, N, hci, hkN, hfin, hdecl, hlink⟩ := hf
  have hkn : k < nf ci := by rw [ci_nf hci]; exact hkN
  obtain ⟨L, q0, h1, h2, h3, hm, hq⟩ := hR.get hk
  rw [conc_obj hk] at hq
  have hts : ∀ w ∈ u_ws C T N, w.before args s = true := fun w hw => F.ts (hci.2.1 w hw) (okw_lay w hw)
  have hn9 : narrow (fty ci k) (cV (vr z)) = cV (vr z) := (by revert ht; generalize fty ci k = ty; intro ht; cases ty <;> first | (cases ht; done) | (cases z <;> rfl))
  have hf9 : fits (fty ci k) (cV (vr z)) = true := (by revert ht; generalize fty ci k = ty; intro ht; cases ty <;> first | (cases ht; done) | (cases z <;> rfl))
  have fin9 : ∀ (H1 : Heap) (locs1 : List Loc), va_P D vwCl (([] ++ va_pl L (conc E h)).set q0 (a, .inr (ci, (objE h ci a).set k (cV (vr z))))) H1 → va_D (fun q => γ.1 ≤ q) (([] ++ va_pl L (conc E h)).set q0 (a, .inr (ci, (objE h ci a).set k (cV (vr z))))) → va_S (fun q => γ.1 ≤ q) s.heap H1 locs1 → W p l e R s m args below meth c H1 locs1 cells slots (vx_MQ below (QcO γ D E mc Zn Q) (XcO γ D E Q) args s mc ms (fun q => γ.1 ≤ q)) (F0 m (pc + 3) lsM (st.map cV)) := by
    intro H1 locs1 hP1 hD1 hS1
    exact kk p l e R s m args below meth c D E Zn mc ms H1 locs1 cells slots lsM F ⟨hc1, hc2, (RelH.puto (h' := sr h a k z) hk h1 h3 hm hq hP1 hD1 hkn (fun b => rfl) (by rw [gr_sr, if_pos ⟨rfl, rfl⟩, fv_r ht]) (fun b j hj => ⟨rfl, rfl, by rw [gr_sr, if_neg hj]⟩)), hS1, hl, hN⟩
  rcases hlink with hl9 | ⟨host, hl9⟩
  · exact va_put hx hb hts (fun w hw => hw) (fty ci) hci.2.2.1 hci.2.2.2 hown hK h2 h3 hS q0 hq hci.1 k hkN (F.ts hl9 rfl) (fun x hx => hx) hfin (hci.2.2.1 k hkN) hn9 hf9 (by rw [objE_len]; exact hkn) hd fin9
  · exact va_putN hx hb hts (fun w hw => hw) (fty ci) hci.2.2.1 hci.2.2.2 hown hK h2 h3 hS q0 hq hci.1 k hkN (F.ts hl9 rfl) (fun x hx => hx) hfin (hci.2.2.1 k hkN) hn9 hf9 (by rw [objE_len]; exact hkn) hd fin9
def FF (own : String) (idx ci k : Nat) : Prop := ∃ (C : String) (T : u_T) (N : Nat), CI ci C T N ∧ k < N ∧ (T k).2.2.2 = true ∧ (T k).1 = C ∧ Cond.fieldLink own idx (T k).1 (T k).2.1 (T k).2.2.1 ∈ lw_tbl
theorem aw_putF {a idx ci k : Nat} {z : Option Nat} (ht : isRT (fty ci k) = true) (hin9 : M.1.name = "<init>") (hown9 : vwCl[ci]?.map (fun q => q.1) = some M.1.cls) (hd : decode M.2.1 pc = .ok (.putfield idx, 3)) (hf : FF M.1.cls idx ci k) (hk : kd h a = some (.inl ci)) (kk : AW γ M d kc ks (pc + 3) ls st (sr h a k z) Q) : AW γ M d kc ks pc ls (vr z :: vr (some a) :: st) h Q := by
  intro p l e R s m args below meth c D E Zn mc ms H locs cells slots lsM F V
  obtain ⟨hx, hb, hr, hml, hown, hlocks, hname, htab, htr, hG, hfr, hlo, hmc, hms, hK, hsz⟩ := id F
  obtain ⟨hc1, hc2, hR, hS, hl, hN⟩ := id V
  obtain ⟨C, T, N, hci, hkN, hfin, hdecl, hl9⟩ := hf
  have hkn : k < nf ci := by rw [ci_nf hci]; exact hkN
  obtain ⟨L, q0, h1, h2, h3, hm, hq⟩ := hR.get hk
  rw [conc_obj hk] at hq
  have hts : ∀ w ∈ u_ws C T N, w.before args s = true := fun w hw => F.ts (hci.2.1 w hw) (okw_lay w hw)
  have hn9 : narrow (fty ci k) (cV (vr z)) = cV (vr z) := (by revert ht; generalize fty ci k = ty; intro ht; cases ty <;> first | (cases ht; done) | (cases z <;> rfl))
  have hf9 : fits (fty ci k) (cV (vr z)) = true := (by revert ht; generalize fty ci k = ty; intro ht; cases ty <;> first | (cases ht; done) | (cases z <;> rfl))
  have fin9 : ∀ (H1 : Heap) (locs1 : List Loc), va_P D vwCl (([] ++ va_pl L (conc E h)).set q0 (a, .inr (ci, (objE h ci a).set k (cV (vr z))))) H1 → va_D (fun q => γ.1 ≤ q) (([] ++ va_pl L (conc E h)).set q0 (a, .inr (ci, (objE h ci a).set k (cV (vr z))))) → va_S (fun q => γ.1 ≤ q) s.heap H1 locs1 → W p l e R s m args below meth c H1 locs1 cells slots (vx_MQ below (QcO γ D E mc Zn Q) (XcO γ D E Q) args s mc ms (fun q => γ.1 ≤ q)) (F0 m (pc + 3) lsM (st.map cV)) := by
    intro H1 locs1 hP1 hD1 hS1
    exact kk p l e R s m args below meth c D E Zn mc ms H1 locs1 cells slots lsM F ⟨hc1, hc2, (RelH.puto (h' := sr h a k z) hk h1 h3 hm hq hP1 hD1 hkn (fun b => rfl) (by rw [gr_sr, if_pos ⟨rfl, rfl⟩, fv_r ht]) (fun b j hj => ⟨rfl, rfl, by rw [gr_sr, if_neg hj]⟩)), hS1, hl, hN⟩
  exact va_putF hx hb hts (fun w hw => hw) (fty ci) hci.2.2.1 hci.2.2.2 hown hK h2 h3 hS q0 hq hci.1 k hkN (F.ts hl9 rfl) (fun x hx => hx) hfin (hname.trans hin9) (by rw [hdecl]; have h9 := hown9; rw [hci.1] at h9; exact Option.some.inj h9) (hci.2.2.1 k hkN) hn9 hf9 (by rw [objE_len]; exact hkn) hd fin9
theorem tysE_at {E : Nat → ClassId} {t : Nat} (ht : t < 8) : (tysE E)[t]? = some (E t, atl.getD t .int) := by
  simp [tysE, ht]
theorem aw_iald {a n : Nat} {j : Int} (hd : decode M.2.1 pc = .ok (.iaload, 1)) (hk : kd h a = some (.inr (1, n))) (hj : 0 ≤ j ∧ j < n) (hn : n ≤ 2147483647) (kk : AW γ M d kc ks (pc + 1) ls (vi (gi h a j) :: st) h Q) : AW γ M d kc ks pc ls (vi j :: vr (some a) :: st) h Q := by
  intro p l e R s m args below meth c D E Zn mc ms H locs cells slots lsM F V
  obtain ⟨hx, hb, hr, hml, hown, hlocks, hname, htab, htr, hG, hfr, hlo, hmc, hms, hK, hsz⟩ := id F
  obtain ⟨hc1, hc2, hR, hS, hl, hN⟩ := id V
  obtain ⟨L, q0, h1, h2, h3, hm, hq⟩ := hR.get hk
  rw [conc_arr hk] at hq
  obtain ⟨g1, g2⟩ := i32_clamp hj.1 hj.2 hn
  refine va_iald (f := fun j => Int32.ofInt (gi h a j)) hx hb hK h2 q0 1 hq (tysE_at (by decide)) g1 hd ?_
  rw [g2]
  exact kk p l e R s m args below meth c D E Zn mc ms H locs cells slots lsM F V
theorem aw_bald {a n : Nat} {j : Int} (hd : decode M.2.1 pc = .ok (.baload, 1)) (hk : kd h a = some (.inr (0, n))) (hj : 0 ≤ j ∧ j < n) (hn : n ≤ 2147483647) (kk : AW γ M d kc ks (pc + 1) ls (vi (gi h a j) :: st) h Q) : AW γ M d kc ks pc ls (vi j :: vr (some a) :: st) h Q := by
  intro p l e R s m args below meth c D E Zn mc ms H locs cells slots lsM F V
  obtain ⟨hx, hb, hr, hml, hown, hlocks, hname, htab, htr, hG, hfr, hlo, hmc, hms, hK, hsz⟩ := id F
  obtain ⟨hc1, hc2, hR, hS, hl, hN⟩ := id V
  obtain ⟨L, q0, h1, h2, h3, hm, hq⟩ := hR.get hk
  rw [conc_arr hk] at hq
  obtain ⟨g1, g2⟩ := i32_clamp hj.1 hj.2 hn
  refine va_bald (f := fun j => Int32.ofInt (gi h a j)) hx hb hK h2 q0 0 hq (tysE_at (by decide)) g1 hd ?_
  rw [g2]
  exact kk p l e R s m args below meth c D E Zn mc ms H locs cells slots lsM F V
theorem aw_zald {a n : Nat} {j : Int} (hd : decode M.2.1 pc = .ok (.baload, 1)) (hk : kd h a = some (.inr (3, n))) (hj : 0 ≤ j ∧ j < n) (hn : n ≤ 2147483647) (kk : AW γ M d kc ks (pc + 1) ls (vi (gi h a j) :: st) h Q) : AW γ M d kc ks pc ls (vi j :: vr (some a) :: st) h Q := by
  intro p l e R s m args below meth c D E Zn mc ms H locs cells slots lsM F V
  obtain ⟨hx, hb, hr, hml, hown, hlocks, hname, htab, htr, hG, hfr, hlo, hmc, hms, hK, hsz⟩ := id F
  obtain ⟨hc1, hc2, hR, hS, hl, hN⟩ := id V
  obtain ⟨L, q0, h1, h2, h3, hm, hq⟩ := hR.get hk
  rw [conc_arr hk] at hq
  obtain ⟨g1, g2⟩ := i32_clamp hj.1 hj.2 hn
  refine va_zald (f := fun j => Int32.ofInt (gi h a j)) hx hb hK h2 q0 3 hq (tysE_at (by decide)) g1 hd ?_
  rw [g2]
  exact kk p l e R s m args below meth c D E Zn mc ms H locs cells slots lsM F V
theorem aw_lald {a n : Nat} {j : Int} (hd : decode M.2.1 pc = .ok (.laload, 1)) (hk : kd h a = some (.inr (2, n))) (hj : 0 ≤ j ∧ j < n) (hn : n ≤ 2147483647) (kk : AW γ M d kc ks (pc + 1) ls (vl (gl h a j) :: st) h Q) : AW γ M d kc ks pc ls (vi j :: vr (some a) :: st) h Q := by
  intro p l e R s m args below meth c D E Zn mc ms H locs cells slots lsM F V
  obtain ⟨hx, hb, hr, hml, hown, hlocks, hname, htab, htr, hG, hfr, hlo, hmc, hms, hK, hsz⟩ := id F
  obtain ⟨hc1, hc2, hR, hS, hl, hN⟩ := id V
  obtain ⟨L, q0, h1, h2, h3, hm, hq⟩ := hR.get hk
  rw [conc_arr hk] at hq
  obtain ⟨g1, g2⟩ := i32_clamp hj.1 hj.2 hn
  refine va_lald (f := fun j => gl h a j) hx hb hK h2 q0 2 hq (tysE_at (by decide)) g1 hd ?_
  rw [g2]
  exact kk p l e R s m args below meth c D E Zn mc ms H locs cells slots lsM F V
theorem aw_aald4 {a n : Nat} {j : Int} (hd : decode M.2.1 pc = .ok (.aaload, 1)) (hk : kd h a = some (.inr (4, n))) (hj : 0 ≤ j ∧ j < n) (hn : n ≤ 2147483647) (kk : AW γ M d kc ks (pc + 1) ls (vr (gr h a j) :: st) h Q) : AW γ M d kc ks pc ls (vi j :: vr (some a) :: st) h Q := by
  intro p l e R s m args below meth c D E Zn mc ms H locs cells slots lsM F V
  obtain ⟨hx, hb, hr, hml, hown, hlocks, hname, htab, htr, hG, hfr, hlo, hmc, hms, hK, hsz⟩ := id F
  obtain ⟨hc1, hc2, hR, hS, hl, hN⟩ := id V
  obtain ⟨L, q0, h1, h2, h3, hm, hq⟩ := hR.get hk
  rw [conc_arr hk] at hq
  obtain ⟨g1, g2⟩ := i32_clamp hj.1 hj.2 hn
  refine va_aldq (C := "TreeQueries$Path") (f := fun j => gr h a j) hx hb hK h2 q0 4 hq (tysE_at (by decide)) g1 hd ?_
  rw [g2]
  exact kk p l e R s m args below meth c D E Zn mc ms H locs cells slots lsM F V
theorem aw_aald5 {a n : Nat} {j : Int} (hd : decode M.2.1 pc = .ok (.aaload, 1)) (hk : kd h a = some (.inr (5, n))) (hj : 0 ≤ j ∧ j < n) (hn : n ≤ 2147483647) (kk : AW γ M d kc ks (pc + 1) ls (vr (gr h a j) :: st) h Q) : AW γ M d kc ks pc ls (vi j :: vr (some a) :: st) h Q := by
  intro p l e R s m args below meth c D E Zn mc ms H locs cells slots lsM F V
  obtain ⟨hx, hb, hr, hml, hown, hlocks, hname, htab, htr, hG, hfr, hlo, hmc, hms, hK, hsz⟩ := id F
  obtain ⟨hc1, hc2, hR, hS, hl, hN⟩ := id V
  obtain ⟨L, q0, h1, h2, h3, hm, hq⟩ := hR.get hk
  rw [conc_arr hk] at hq
  obtain ⟨g1, g2⟩ := i32_clamp hj.1 hj.2 hn
  refine va_aldq (C := "TreeQueries$Query") (f := fun j => gr h a j) hx hb hK h2 q0 5 hq (tysE_at (by decide)) g1 hd ?_
  rw [g2]
  exact kk p l e R s m args below meth c D E Zn mc ms H locs cells slots lsM F V
theorem aw_aald6 {a n : Nat} {j : Int} (hd : decode M.2.1 pc = .ok (.aaload, 1)) (hk : kd h a = some (.inr (6, n))) (hj : 0 ≤ j ∧ j < n) (hn : n ≤ 2147483647) (kk : AW γ M d kc ks (pc + 1) ls (vr (gr h a j) :: st) h Q) : AW γ M d kc ks pc ls (vi j :: vr (some a) :: st) h Q := by
  intro p l e R s m args below meth c D E Zn mc ms H locs cells slots lsM F V
  obtain ⟨hx, hb, hr, hml, hown, hlocks, hname, htab, htr, hG, hfr, hlo, hmc, hms, hK, hsz⟩ := id F
  obtain ⟨hc1, hc2, hR, hS, hl, hN⟩ := id V
  obtain ⟨L, q0, h1, h2, h3, hm, hq⟩ := hR.get hk
  rw [conc_arr hk] at hq
  obtain ⟨g1, g2⟩ := i32_clamp hj.1 hj.2 hn
  refine va_aldq (C := "TreeQueries$State") (f := fun j => gr h a j) hx hb hK h2 q0 6 hq (tysE_at (by decide)) g1 hd ?_
  rw [g2]
  exact kk p l e R s m args below meth c D E Zn mc ms H locs cells slots lsM F V
theorem aw_aald7 {a n : Nat} {j : Int} (hd : decode M.2.1 pc = .ok (.aaload, 1)) (hk : kd h a = some (.inr (7, n))) (hj : 0 ≤ j ∧ j < n) (hn : n ≤ 2147483647) (kk : AW γ M d kc ks (pc + 1) ls (vr (gr h a j) :: st) h Q) : AW γ M d kc ks pc ls (vi j :: vr (some a) :: st) h Q := by
  intro p l e R s m args below meth c D E Zn mc ms H locs cells slots lsM F V
  obtain ⟨hx, hb, hr, hml, hown, hlocks, hname, htab, htr, hG, hfr, hlo, hmc, hms, hK, hsz⟩ := id F
  obtain ⟨hc1, hc2, hR, hS, hl, hN⟩ := id V
  obtain ⟨L, q0, h1, h2, h3, hm, hq⟩ := hR.get hk
  rw [conc_arr hk] at hq
  obtain ⟨g1, g2⟩ := i32_clamp hj.1 hj.2 hn
  refine va_aldq (C := "TreeQueries$Step") (f := fun j => gr h a j) hx hb hK h2 q0 7 hq (tysE_at (by decide)) g1 hd ?_
  rw [g2]
  exact kk p l e R s m args below meth c D E Zn mc ms H locs cells slots lsM F V
theorem aw_alen {a n ti : Nat} (hd : decode M.2.1 pc = .ok (.arraylength, 1)) (hk : kd h a = some (.inr (ti, n))) (ht : ti < 8) (kk : AW γ M d kc ks (pc + 1) ls (vi (n : Int) :: st) h Q) : AW γ M d kc ks pc ls (vr (some a) :: st) h Q := by
  intro p l e R s m args below meth c D E Zn mc ms H locs cells slots lsM F V
  obtain ⟨hx, hb, hr, hml, hown, hlocks, hname, htab, htr, hG, hfr, hlo, hmc, hms, hK, hsz⟩ := id F
  obtain ⟨hc1, hc2, hR, hS, hl, hN⟩ := id V
  obtain ⟨L, q0, h1, h2, h3, hm, hq⟩ := hR.get hk
  rw [conc_arr hk] at hq
  exact va_alen hx hb hK h2 q0 ti hq (tysE_at ht) (v := Int32.ofInt (n : Int)) rfl hd (kk p l e R s m args below meth c D E Zn mc ms H locs cells slots lsM F V)
theorem RelH.puta {D : va_G} {E : Nat → ClassId} {base : Nat} {h h' : AH} {H1 : Heap} {L : List Nat} {q0 a ti n : Nat} {x : vp_A} (hk : kd h a = some (.inr (ti, n))) (hL : ∀ a, a ∈ L ↔ (kd h a).isSome = true) (hD0 : va_D (fun q => base ≤ q) ([] ++ va_pl L (conc E h))) (hm : a ∈ L) (hq : ([] ++ va_pl L (conc E h))[q0]? = some (a, .inl (E ti, arrE h ti n a)))
    (hP : va_P D vwCl (([] ++ va_pl L (conc E h)).set q0 (a, .inl (E ti, x))) H1) (hD : va_D (fun q => base ≤ q) (([] ++ va_pl L (conc E h)).set q0 (a, .inl (E ti, x))))
    (hkd : ∀ b, kd h' b = kd h b) (hv : arrE h' ti n a = x) (hne : ∀ (b : Nat) (j : Int), ¬ (b = a) → gi h' b j = gi h b j ∧ gl h' b j = gl h b j ∧ gr h' b j = gr h b j) : RelH D E base h' H1 := by
  refine RelH.put hL hD0 hm (by rw [conc_arr hk]; exact hq) hP hD hkd ?_ (fun b hb => ⟨fun j => (hne b j hb).1, fun j => (hne b j hb).2.1, fun j => (hne b j hb).2.2⟩)
  rw [conc_arr ((hkd a).trans hk), hv]
theorem upd_i {h : AH} {a i : Nat} {j z : Int} (hj : (i : Int) = j) : (fun k : Nat => Int32.ofInt (gi (si h a j z) a k)) = upd (fun k : Nat => Int32.ofInt (gi h a k)) i (Int32.ofInt z) := by
  funext q
  simp only [gi_si, upd]
  by_cases hq : q = i
  · subst hq
    simp [hj]
  · rw [if_neg hq, if_neg]
    rintro ⟨-, z⟩
    omega
theorem upd_l {h : AH} {a i : Nat} {j : Int} {z : Int64} (hj : (i : Int) = j) : (fun k : Nat => gl (sl h a j z) a k) = vp_updL (fun k : Nat => gl h a k) i z := by
  funext q
  simp only [gl_sl, vp_updL]
  by_cases hq : q = i
  · subst hq
    simp [hj]
  · rw [if_neg hq, if_neg]
    rintro ⟨-, z⟩
    omega
theorem upd_r {h : AH} {a i : Nat} {j : Int} {z : Option Nat} (hj : (i : Int) = j) : (fun k : Nat => gr (sr h a j z) a k) = va_up (fun k : Nat => gr h a k) i z := by
  funext q
  simp only [gr_sr, va_up]
  by_cases hq : q = i
  · subst hq
    simp [hj]
  · rw [if_neg hq, if_neg]
    rintro ⟨-, z⟩
    omega
theorem aw_iast {a n : Nat} {j z : Int} (hd : decode M.2.1 pc = .ok (.iastore, 1)) (hk : kd h a = some (.inr (1, n))) (hj : 0 ≤ j ∧ j < n) (hn : n ≤ 2147483647) (kk : AW γ M d kc ks (pc + 1) ls st (si h a j z) Q) : AW γ M d kc ks pc ls (vi z :: vi j :: vr (some a) :: st) h Q := by
  intro p l e R s m args below meth c D E Zn mc ms H locs cells slots lsM F V
  obtain ⟨hx, hb, hr, hml, hown, hlocks, hname, htab, htr, hG, hfr, hlo, hmc, hms, hK, hsz⟩ := id F
  obtain ⟨hc1, hc2, hR, hS, hl, hN⟩ := id V
  obtain ⟨L, q0, h1, h2, h3, hm, hq⟩ := hR.get hk
  rw [conc_arr hk] at hq
  obtain ⟨g1, g2⟩ := i32_clamp hj.1 hj.2 hn
  refine va_iast (f := fun j => Int32.ofInt (gi h a j)) hx hb hK h2 h3 hS q0 1 hq (tysE_at (by decide)) g1 hd (fun H1 locs1 hP1 hD1 hS1 => ?_)
  rw [← upd_i g2] at hP1 hD1
  exact kk p l e R s m args below meth c D E Zn mc ms H1 locs1 cells slots lsM F ⟨hc1, hc2, RelH.puta (h' := si h a j z) hk h1 h3 hm hq hP1 hD1 (fun b => rfl) rfl (fun b j9 hb9 => ⟨by rw [gi_si, if_neg (fun z => hb9 z.1)], rfl, rfl⟩), hS1, hl, hN⟩
theorem nar_b {z : Int} (hz : -128 ≤ z ∧ z ≤ 127) : vp_nar .byte (Int32.ofInt z) = Int32.ofInt z := by
  show (Int32.ofInt z).toInt8.toInt32 = _
  apply Int32.toInt_inj.mp
  rw [Int8.toInt_toInt32]
  rw [Int32.toInt8_ofInt, Int8.toInt_ofInt_of_le (by simpa using hz.1) (by have := hz.2; omega), i32_in ⟨by omega, by omega⟩]
theorem aw_bast {a n : Nat} {j z : Int} (hd : decode M.2.1 pc = .ok (.bastore, 1)) (hk : kd h a = some (.inr (0, n))) (hj : 0 ≤ j ∧ j < n) (hn : n ≤ 2147483647) (hz : -128 ≤ z ∧ z ≤ 127) (kk : AW γ M d kc ks (pc + 1) ls st (si h a j z) Q) : AW γ M d kc ks pc ls (vi z :: vi j :: vr (some a) :: st) h Q := by
  intro p l e R s m args below meth c D E Zn mc ms H locs cells slots lsM F V
  obtain ⟨hx, hb, hr, hml, hown, hlocks, hname, htab, htr, hG, hfr, hlo, hmc, hms, hK, hsz⟩ := id F
  obtain ⟨hc1, hc2, hR, hS, hl, hN⟩ := id V
  obtain ⟨L, q0, h1, h2, h3, hm, hq⟩ := hR.get hk
  rw [conc_arr hk] at hq
  obtain ⟨g1, g2⟩ := i32_clamp hj.1 hj.2 hn
  have hz9 : vp_nar .byte (Int32.ofInt z) = Int32.ofInt z := nar_b hz
  refine va_bast (f := fun j => Int32.ofInt (gi h a j)) hx hb hK h2 h3 hS q0 0 hq (tysE_at (by decide)) g1 hd (fun H1 locs1 hP1 hD1 hS1 => ?_)
  rw [hz9] at hP1 hD1
  rw [← upd_i g2] at hP1 hD1
  exact kk p l e R s m args below meth c D E Zn mc ms H1 locs1 cells slots lsM F ⟨hc1, hc2, RelH.puta (h' := si h a j z) hk h1 h3 hm hq hP1 hD1 (fun b => rfl) rfl (fun b j9 hb9 => ⟨by rw [gi_si, if_neg (fun z => hb9 z.1)], rfl, rfl⟩), hS1, hl, hN⟩
theorem aw_zast {a n : Nat} {j z : Int} (hd : decode M.2.1 pc = .ok (.bastore, 1)) (hk : kd h a = some (.inr (3, n))) (hj : 0 ≤ j ∧ j < n) (hn : n ≤ 2147483647) (hz : z = 0 ∨ z = 1) (kk : AW γ M d kc ks (pc + 1) ls st (si h a j z) Q) : AW γ M d kc ks pc ls (vi z :: vi j :: vr (some a) :: st) h Q := by
  intro p l e R s m args below meth c D E Zn mc ms H locs cells slots lsM F V
  obtain ⟨hx, hb, hr, hml, hown, hlocks, hname, htab, htr, hG, hfr, hlo, hmc, hms, hK, hsz⟩ := id F
  obtain ⟨hc1, hc2, hR, hS, hl, hN⟩ := id V
  obtain ⟨L, q0, h1, h2, h3, hm, hq⟩ := hR.get hk
  rw [conc_arr hk] at hq
  obtain ⟨g1, g2⟩ := i32_clamp hj.1 hj.2 hn
  have hz9 : vp_nar .boolean (Int32.ofInt z) = Int32.ofInt z := by rcases hz with rfl | rfl <;> rfl
  refine va_zast (f := fun j => Int32.ofInt (gi h a j)) hx hb hK h2 h3 hS q0 3 hq (tysE_at (by decide)) g1 hd (fun H1 locs1 hP1 hD1 hS1 => ?_)
  rw [hz9] at hP1 hD1
  rw [← upd_i g2] at hP1 hD1
  exact kk p l e R s m args below meth c D E Zn mc ms H1 locs1 cells slots lsM F ⟨hc1, hc2, RelH.puta (h' := si h a j z) hk h1 h3 hm hq hP1 hD1 (fun b => rfl) rfl (fun b j9 hb9 => ⟨by rw [gi_si, if_neg (fun z => hb9 z.1)], rfl, rfl⟩), hS1, hl, hN⟩
theorem aw_last {a n : Nat} {j : Int} {z : Int64} (hd : decode M.2.1 pc = .ok (.lastore, 1)) (hk : kd h a = some (.inr (2, n))) (hj : 0 ≤ j ∧ j < n) (hn : n ≤ 2147483647) (kk : AW γ M d kc ks (pc + 1) ls st (sl h a j z) Q) : AW γ M d kc ks pc ls (vl z :: vi j :: vr (some a) :: st) h Q := by
  intro p l e R s m args below meth c D E Zn mc ms H locs cells slots lsM F V
  obtain ⟨hx, hb, hr, hml, hown, hlocks, hname, htab, htr, hG, hfr, hlo, hmc, hms, hK, hsz⟩ := id F
  obtain ⟨hc1, hc2, hR, hS, hl, hN⟩ := id V
  obtain ⟨L, q0, h1, h2, h3, hm, hq⟩ := hR.get hk
  rw [conc_arr hk] at hq
  obtain ⟨g1, g2⟩ := i32_clamp hj.1 hj.2 hn
  refine va_last (f := fun j => gl h a j) hx hb hK h2 h3 hS q0 2 hq (tysE_at (by decide)) g1 hd (fun H1 locs1 hP1 hD1 hS1 => ?_)
  rw [← upd_l g2] at hP1 hD1
  exact kk p l e R s m args below meth c D E Zn mc ms H1 locs1 cells slots lsM F ⟨hc1, hc2, RelH.puta (h' := sl h a j z) hk h1 h3 hm hq hP1 hD1 (fun b => rfl) rfl (fun b j9 hb9 => ⟨rfl, by rw [gl_sl, if_neg (fun z => hb9 z.1)], rfl⟩), hS1, hl, hN⟩
theorem aw_aast4 {a n v : Nat} {j : Int} (hd : decode M.2.1 pc = .ok (.aastore, 1)) (hk : kd h a = some (.inr (4, n))) (hj : 0 ≤ j ∧ j < n) (hn : n ≤ 2147483647) (hv : kd h v = some (.inl 3)) (kk : AW γ M d kc ks (pc + 1) ls st (sr h a j (some v)) Q) : AW γ M d kc ks pc ls (vr (some v) :: vi j :: vr (some a) :: st) h Q := by
  intro p l e R s m args below meth c D E Zn mc ms H locs cells slots lsM F V
  obtain ⟨hx, hb, hr, hml, hown, hlocks, hname, htab, htr, hG, hfr, hlo, hmc, hms, hK, hsz⟩ := id F
  obtain ⟨hc1, hc2, hR, hS, hl, hN⟩ := id V
  obtain ⟨L, q0, h1, h2, h3, hm, hq⟩ := hR.get hk
  obtain ⟨qk, hqk⟩ := va_pl_get (X := []) (f := conc E h) ((h1 v).mpr (by rw [hv]; rfl))
  rw [conc_arr hk] at hq
  rw [conc_obj hv] at hqk
  obtain ⟨g1, g2⟩ := i32_clamp hj.1 hj.2 hn
  refine va_astq (f := fun j => gr h a j) (r := vwCl.getD 3 ("", TX0, 0)) hx hb hK h2 h3 hS q0 4 qk 3 hq (tysE_at (by decide)) hqk rfl g1 hd (fun H1 locs1 hP1 hD1 hS1 => ?_)
  rw [← upd_r g2] at hP1 hD1
  exact kk p l e R s m args below meth c D E Zn mc ms H1 locs1 cells slots lsM F ⟨hc1, hc2, RelH.puta (h' := sr h a j (some v)) hk h1 h3 hm hq hP1 hD1 (fun b => rfl) rfl (fun b j9 hb9 => ⟨rfl, rfl, by rw [gr_sr, if_neg (fun z => hb9 z.1)]⟩), hS1, hl, hN⟩
theorem aw_aast5 {a n v : Nat} {j : Int} (hd : decode M.2.1 pc = .ok (.aastore, 1)) (hk : kd h a = some (.inr (5, n))) (hj : 0 ≤ j ∧ j < n) (hn : n ≤ 2147483647) (hv : kd h v = some (.inl 4)) (kk : AW γ M d kc ks (pc + 1) ls st (sr h a j (some v)) Q) : AW γ M d kc ks pc ls (vr (some v) :: vi j :: vr (some a) :: st) h Q := by
  intro p l e R s m args below meth c D E Zn mc ms H locs cells slots lsM F V
  obtain ⟨hx, hb, hr, hml, hown, hlocks, hname, htab, htr, hG, hfr, hlo, hmc, hms, hK, hsz⟩ := id F
  obtain ⟨hc1, hc2, hR, hS, hl, hN⟩ := id V
  obtain ⟨L, q0, h1, h2, h3, hm, hq⟩ := hR.get hk
  obtain ⟨qk, hqk⟩ := va_pl_get (X := []) (f := conc E h) ((h1 v).mpr (by rw [hv]; rfl))
  rw [conc_arr hk] at hq
  rw [conc_obj hv] at hqk
  obtain ⟨g1, g2⟩ := i32_clamp hj.1 hj.2 hn
  refine va_astq (f := fun j => gr h a j) (r := vwCl.getD 4 ("", TX0, 0)) hx hb hK h2 h3 hS q0 5 qk 4 hq (tysE_at (by decide)) hqk rfl g1 hd (fun H1 locs1 hP1 hD1 hS1 => ?_)
  rw [← upd_r g2] at hP1 hD1
  exact kk p l e R s m args below meth c D E Zn mc ms H1 locs1 cells slots lsM F ⟨hc1, hc2, RelH.puta (h' := sr h a j (some v)) hk h1 h3 hm hq hP1 hD1 (fun b => rfl) rfl (fun b j9 hb9 => ⟨rfl, rfl, by rw [gr_sr, if_neg (fun z => hb9 z.1)]⟩), hS1, hl, hN⟩
theorem aw_aast6 {a n v : Nat} {j : Int} (hd : decode M.2.1 pc = .ok (.aastore, 1)) (hk : kd h a = some (.inr (6, n))) (hj : 0 ≤ j ∧ j < n) (hn : n ≤ 2147483647) (hv : kd h v = some (.inl 6)) (kk : AW γ M d kc ks (pc + 1) ls st (sr h a j (some v)) Q) : AW γ M d kc ks pc ls (vr (some v) :: vi j :: vr (some a) :: st) h Q := by
  intro p l e R s m args below meth c D E Zn mc ms H locs cells slots lsM F V
  obtain ⟨hx, hb, hr, hml, hown, hlocks, hname, htab, htr, hG, hfr, hlo, hmc, hms, hK, hsz⟩ := id F
  obtain ⟨hc1, hc2, hR, hS, hl, hN⟩ := id V
  obtain ⟨L, q0, h1, h2, h3, hm, hq⟩ := hR.get hk
  obtain ⟨qk, hqk⟩ := va_pl_get (X := []) (f := conc E h) ((h1 v).mpr (by rw [hv]; rfl))
  rw [conc_arr hk] at hq
  rw [conc_obj hv] at hqk
  obtain ⟨g1, g2⟩ := i32_clamp hj.1 hj.2 hn
  refine va_astq (f := fun j => gr h a j) (r := vwCl.getD 6 ("", TX0, 0)) hx hb hK h2 h3 hS q0 6 qk 6 hq (tysE_at (by decide)) hqk rfl g1 hd (fun H1 locs1 hP1 hD1 hS1 => ?_)
  rw [← upd_r g2] at hP1 hD1
  exact kk p l e R s m args below meth c D E Zn mc ms H1 locs1 cells slots lsM F ⟨hc1, hc2, RelH.puta (h' := sr h a j (some v)) hk h1 h3 hm hq hP1 hD1 (fun b => rfl) rfl (fun b j9 hb9 => ⟨rfl, rfl, by rw [gr_sr, if_neg (fun z => hb9 z.1)]⟩), hS1, hl, hN⟩
theorem aw_aast7 {a n v : Nat} {j : Int} (hd : decode M.2.1 pc = .ok (.aastore, 1)) (hk : kd h a = some (.inr (7, n))) (hj : 0 ≤ j ∧ j < n) (hn : n ≤ 2147483647) (hv : kd h v = some (.inl 7)) (kk : AW γ M d kc ks (pc + 1) ls st (sr h a j (some v)) Q) : AW γ M d kc ks pc ls (vr (some v) :: vi j :: vr (some a) :: st) h Q := by
  intro p l e R s m args below meth c D E Zn mc ms H locs cells slots lsM F V
  obtain ⟨hx, hb, hr, hml, hown, hlocks, hname, htab, htr, hG, hfr, hlo, hmc, hms, hK, hsz⟩ := id F
  obtain ⟨hc1, hc2, hR, hS, hl, hN⟩ := id V
  obtain ⟨L, q0, h1, h2, h3, hm, hq⟩ := hR.get hk
  obtain ⟨qk, hqk⟩ := va_pl_get (X := []) (f := conc E h) ((h1 v).mpr (by rw [hv]; rfl))
  rw [conc_arr hk] at hq
  rw [conc_obj hv] at hqk
  obtain ⟨g1, g2⟩ := i32_clamp hj.1 hj.2 hn
  refine va_astq (f := fun j => gr h a j) (r := vwCl.getD 7 ("", TX0, 0)) hx hb hK h2 h3 hS q0 7 qk 7 hq (tysE_at (by decide)) hqk rfl g1 hd (fun H1 locs1 hP1 hD1 hS1 => ?_)
  rw [← upd_r g2] at hP1 hD1
  exact kk p l e R s m args below meth c D E Zn mc ms H1 locs1 cells slots lsM F ⟨hc1, hc2, RelH.puta (h' := sr h a j (some v)) hk h1 h3 hm hq hP1 hD1 (fun b => rfl) rfl (fun b j9 hb9 => ⟨rfl, rfl, by rw [gr_sr, if_neg (fun z => hb9 z.1)]⟩), hS1, hl, hN⟩
theorem W_bound {p : Program} {l : Launch} {e : Env} {R : Room} {s : State} {m : MethodId} {args : Array Value} {below : List Frame} {meth : Method} {c : Code} {H : Heap} {locs : List Loc} {cells slots : Nat} {Q : State → Prop} {g : JFrame} (k : H.size ≤ s.heap.size + cells → W p l e R s m args below meth c H locs cells slots Q g) : W p l e R s m args below meth c H locs cells slots Q g := by
  intro T hT X
  subst hT
  exact k X.heapSize T rfl X
/-- the next cell's place -/
theorem nx_at {γ : GG} {h : AH} {Zn : Prop} {s : State} {H : Heap} {locs : List Loc} {D : va_G} {E : Nat → ClassId} {cells kc mc : Nat} (hN : NX γ h (s.heap.size + mc) kc Zn) (hc1 : cells + kc ≤ mc) (hR : RelH D E γ.1 h H) (hS : va_S (fun q => γ.1 ≤ q) s.heap H locs) (hsz : γ.1 ≤ s.heap.size) (hb9 : H.size ≤ s.heap.size + cells) : ∀ n, nx h = some n → H.size = n := by
  intro n hn
  obtain ⟨h1, h2⟩ := hN.1 n hn
  have h3 : n ≤ H.size := by
    rcases h1 with h1 | h1
    · have := hS.1
      omega
    · obtain ⟨k, hk⟩ := Option.isSome_iff_exists.mp h1
      have := (hR.lt hk).1
      omega
  omega
theorem NX.mk {γ : GG} {h : AH} {Zn : Prop} {b kc q : Nat} {k : AK} (hN : NX γ h b kc Zn) (hkc : 1 ≤ kc) (hq : ∀ n, nx h = some n → q = n) : NX γ (mk h q k) b (kc - 1) Zn := by
  refine ⟨?_, fun z => by rw [nx_mk, hN.2 z]; rfl⟩
  intro n hn
  rw [nx_mk] at hn
  cases hx : nx h with
  | none => rw [hx] at hn; cases hn
  | some n0 =>
    rw [hx] at hn
    have hn2 : n0 + 1 = n := Option.some.inj hn
    subst hn2
    have h1 := hq n0 hx
    obtain ⟨-, h2⟩ := hN.1 n0 hx
    refine ⟨Or.inr ?_, by omega⟩
    rw [kd_mk, if_pos (by omega)]
    rfl
theorem mk_objE (h : AH) (a ci : Nat) (x : AK) : objE (mk h a x) ci a = (List.range (nf ci)).map fun k => fv (fty ci k) 0 0 none := by
  unfold objE
  simp [gi_mk, gl_mk, gr_mk]
theorem fv_0 (ty : FieldType) (hty : ty ≠ .float ∧ ty ≠ .double) : fv ty 0 0 none = defaultValue ty := by
  cases ty <;> first | rfl | exact absurd rfl hty.1 | exact absurd rfl hty.2
theorem aw_new {idx ci N : Nat} {C : String} {T : u_T} (hd : decode M.2.1 pc = .ok (.new idx, 3)) (hci : CI ci C T N) (hl9 : Cond.classLink M.1.cls idx C ∈ lw_tbl) (hi9 : Cond.instantiable C N ∈ lw_tbl) (hn9 : Cond.initialized C ∈ lw_tbl) (hty : ∀ k, k < N → fty ci k ≠ .float ∧ fty ci k ≠ .double) (hkc : 1 ≤ kc) (hks : N ≤ ks) (kk : ∀ q : Nat, kd h q = none → γ.1 ≤ q → (∀ n, nx h = some n → q = n) → AW γ M d (kc - 1) (ks - N) (pc + 3) ls (vr (some q) :: st) (mk h q (.inl ci)) Q) : AW γ M d kc ks pc ls st h Q := by
  intro p l e R s m args below meth c D E Zn mc ms H locs cells slots lsM F V
  obtain ⟨hx, hb, hr, hml, hown, hlocks, hname, htab, htr, hG, hfr, hlo, hmc, hms, hK, hsz⟩ := id F
  obtain ⟨hc1, hc2, hR, hS, hl, hN⟩ := id V
  obtain ⟨L, h1, h2, h3⟩ := id hR
  have hts : ∀ w ∈ u_ws C T N, w.before args s = true := fun w hw => F.ts (hci.2.1 w hw) (okw_lay w hw)
  have hA : ∀ q, s.heap.size ≤ q → γ.1 ≤ q := fun q hq => Nat.le_trans hsz hq
  refine W_bound (fun hb9 => ?_)
  have hnx := nx_at hN hc1 hR hS hsz hb9
  have hKn := hK.1 ci _ hci.1
  refine W.newcK hx hb hown (F.ts hl9 rfl) (F.ts hi9 rfl) (F.ts hn9 rfl) rfl hd (by omega) (by omega) hKn.2.1 rfl (fun H1 kC hkC e1 z1 o1 => ?_)
  have hP1 : va_P D vwCl (([] ++ va_pl L (conc E h)) ++ [(H.size, .inr (ci, (List.range (nf ci)).map fun k => fv (fty ci k) 0 0 none))]) H1 := by
    refine va_P.app (h2.kept (fun k q hk9 => o1 q.1 (h2 k q hk9).lt)) (fun k q hk9 => ?_)
    have hz : k < 1 := (List.getElem?_eq_some_iff.mp hk9).1
    rw [show k = 0 by omega] at hk9
    cases hk9
    refine ⟨_, hci.1, (u_born (fty ci) hts (fun w hw => hw) hKn hkC e1 hci.2.2.1).to (fun j hj => ?_)⟩
    rw [vp_V, List.getD_eq_getElem?_getD, List.getElem?_map, List.getElem?_range (by rw [ci_nf hci]; exact hj)]
    exact (fv_0 _ (hty j hj)).symm
  have hD1 := h3.push (e := .inr (ci, (List.range (nf ci)).map fun k => fv (fty ci k) 0 0 none)) h2 rfl (hA _ hS.1)
  obtain ⟨hkn, hR1⟩ := RelH.push (k := .inl ci) h1 h2 hD1 hP1 (by rw [conc_obj (by rw [kd_mk, if_pos rfl]), mk_objE])
  exact kk H.size hkn (hA _ hS.1) hnx p l e R s m args below meth c D E Zn mc ms H1 locs (cells + 1) (slots + N) lsM F ⟨by omega, by omega, hR1, ⟨Nat.le_trans hS.1 (by omega), fun x g1 g2 => (o1 x (Nat.lt_of_lt_of_le g1 hS.1)).trans (hS.2.1 x g1 g2), hS.2.2⟩, hl, hN.mk hkc hnx⟩
theorem RA_inj {U : State} {c1 c2 : ClassId} {ty : FieldType} (h1 : va_RA U c1 ty) (h2 : va_RA U c2 ty) : c1 = c2 := by
  cases ty with
  | object C =>
    obtain ⟨_, _, _, _, _, e1⟩ := h1
    obtain ⟨_, _, _, _, _, e2⟩ := h2
    exact Option.some.inj (e1.symm.trans e2)
  | _ => exact Option.some.inj (Eq.trans (Eq.symm h1) h2)
theorem tysE_inj {D : va_G} {E : Nat → ClassId} {cA : ClassId} {ty : FieldType} {s : State} {t : Nat} (h : va_K D vwCl (tysE E ++ [(cA, ty)]) s) (ht : t < 8) (hty : atl.getD t .int = ty) : cA = E t := by
  have h1 := (h.2 8 (cA, ty) (by simp [tysE])).2
  have h2 := (h.2 t (E t, atl.getD t .int) (by rw [List.getElem?_append_left (by simp [tysE]; exact ht)]; exact tysE_at ht)).2
  rw [hty] at h2
  exact RA_inj h1 h2
theorem i32_len {n : Nat} (hn : n ≤ 65536) : ¬ Int32.ofInt (n : Int) < 0 ∧ (Int32.ofInt (n : Int)).toNatClampNeg = n := by
  have e : (Int32.ofInt (n : Int)).toInt = n := i32_in ⟨by omega, by omega⟩
  refine ⟨?_, ?_⟩
  · rw [i32_z, i32_lt ⟨by omega, by omega⟩ ⟨by omega, by omega⟩]
    omega
  · show (Int32.ofInt (n : Int)).toInt.toNat = n
    rw [e]
    rfl
theorem aw_newab {n : Nat} (hd : decode M.2.1 pc = .ok (.newarray .byte, 2)) (hw : Cond.arrayClass .byte ∈ lw_tbl) (hn : n ≤ 65536) (hkc : 1 ≤ kc) (hks : n ≤ ks) (kk : ∀ q : Nat, kd h q = none → γ.1 ≤ q → (∀ n, nx h = some n → q = n) → AW γ M d (kc - 1) (ks - n) (pc + 2) ls (vr (some q) :: st) (mk h q (.inr (0, n))) Q) : AW γ M d kc ks pc ls (vi (n : Int) :: st) h Q := by
  intro p l e R s m args below meth c D E Zn mc ms H locs cells slots lsM F V
  obtain ⟨hx, hb, hr, hml, hown, hlocks, hname, htab, htr, hG, hfr, hlo, hmc, hms, hK, hsz⟩ := id F
  obtain ⟨hc1, hc2, hR, hS, hl, hN⟩ := id V
  obtain ⟨L, h1, h2, h3⟩ := id hR
  have hA : ∀ q, s.heap.size ≤ q → γ.1 ≤ q := fun q hq => Nat.le_trans hsz hq
  obtain ⟨g1, g2⟩ := i32_len hn
  refine W_bound (fun hb9 => ?_)
  have hnx := nx_at hN hc1 hR hS hsz hb9
  refine va_newaK (atype := .byte) (N := n) hx hb (F.ts hw rfl) rfl hd rfl g1 g2 (by show n * 1 ≤ 536870912; omega) (by omega) (by omega) rfl (fun H1 cA e1 z1 o1 hAr hNm => ?_)
  have hcA : cA = E 0 := RA_inj (ty := .byte) (U := s) hNm ((hK.2 0 _ (tysE_at (by decide))).2)
  subst hcA
  have hP1 : va_P D vwCl (([] ++ va_pl L (conc E h)) ++ [(H.size, .inl (E 0, (n, .inl fun _ => 0)))]) H1 := by
    refine va_P.app (h2.kept (fun k q hk9 => o1 q.1 (h2 k q hk9).lt)) (fun k q hk9 => ?_)
    have hz : k < 1 := (List.getElem?_eq_some_iff.mp hk9).1
    rw [show k = 0 by omega] at hk9
    cases hk9
    exact e1
  have hD1 := h3.push (e := .inl (E 0, (n, .inl fun _ => 0))) h2 rfl (hA _ hS.1)
  obtain ⟨hkn, hR1⟩ := RelH.push (k := .inr (0, n)) h1 h2 hD1 hP1 (by rw [conc_arr (by rw [kd_mk, if_pos rfl])]; simp [arrE, gi_mk, gl_mk]; try rfl)
  exact kk H.size hkn (hA _ hS.1) hnx p l e R s m args below meth c D E Zn mc ms H1 locs (cells + 1) (slots + n) lsM F ⟨by omega, by omega, hR1, ⟨Nat.le_trans hS.1 (by omega), fun x g1 g2 => (o1 x (Nat.lt_of_lt_of_le g1 hS.1)).trans (hS.2.1 x g1 g2), hS.2.2⟩, hl, hN.mk hkc hnx⟩
theorem aw_newai {n : Nat} (hd : decode M.2.1 pc = .ok (.newarray .int, 2)) (hw : Cond.arrayClass .int ∈ lw_tbl) (hn : n ≤ 65536) (hkc : 1 ≤ kc) (hks : n ≤ ks) (kk : ∀ q : Nat, kd h q = none → γ.1 ≤ q → (∀ n, nx h = some n → q = n) → AW γ M d (kc - 1) (ks - n) (pc + 2) ls (vr (some q) :: st) (mk h q (.inr (1, n))) Q) : AW γ M d kc ks pc ls (vi (n : Int) :: st) h Q := by
  intro p l e R s m args below meth c D E Zn mc ms H locs cells slots lsM F V
  obtain ⟨hx, hb, hr, hml, hown, hlocks, hname, htab, htr, hG, hfr, hlo, hmc, hms, hK, hsz⟩ := id F
  obtain ⟨hc1, hc2, hR, hS, hl, hN⟩ := id V
  obtain ⟨L, h1, h2, h3⟩ := id hR
  have hA : ∀ q, s.heap.size ≤ q → γ.1 ≤ q := fun q hq => Nat.le_trans hsz hq
  obtain ⟨g1, g2⟩ := i32_len hn
  refine W_bound (fun hb9 => ?_)
  have hnx := nx_at hN hc1 hR hS hsz hb9
  refine va_newaK (atype := .int) (N := n) hx hb (F.ts hw rfl) rfl hd rfl g1 g2 (by show n * 4 ≤ 536870912; omega) (by omega) (by omega) rfl (fun H1 cA e1 z1 o1 hAr hNm => ?_)
  have hcA : cA = E 1 := RA_inj (ty := .int) (U := s) hNm ((hK.2 1 _ (tysE_at (by decide))).2)
  subst hcA
  have hP1 : va_P D vwCl (([] ++ va_pl L (conc E h)) ++ [(H.size, .inl (E 1, (n, .inl fun _ => 0)))]) H1 := by
    refine va_P.app (h2.kept (fun k q hk9 => o1 q.1 (h2 k q hk9).lt)) (fun k q hk9 => ?_)
    have hz : k < 1 := (List.getElem?_eq_some_iff.mp hk9).1
    rw [show k = 0 by omega] at hk9
    cases hk9
    exact e1
  have hD1 := h3.push (e := .inl (E 1, (n, .inl fun _ => 0))) h2 rfl (hA _ hS.1)
  obtain ⟨hkn, hR1⟩ := RelH.push (k := .inr (1, n)) h1 h2 hD1 hP1 (by rw [conc_arr (by rw [kd_mk, if_pos rfl])]; simp [arrE, gi_mk, gl_mk]; try rfl)
  exact kk H.size hkn (hA _ hS.1) hnx p l e R s m args below meth c D E Zn mc ms H1 locs (cells + 1) (slots + n) lsM F ⟨by omega, by omega, hR1, ⟨Nat.le_trans hS.1 (by omega), fun x g1 g2 => (o1 x (Nat.lt_of_lt_of_le g1 hS.1)).trans (hS.2.1 x g1 g2), hS.2.2⟩, hl, hN.mk hkc hnx⟩
theorem aw_newal {n : Nat} (hd : decode M.2.1 pc = .ok (.newarray .long, 2)) (hw : Cond.arrayClass .long ∈ lw_tbl) (hn : n ≤ 65536) (hkc : 1 ≤ kc) (hks : n ≤ ks) (kk : ∀ q : Nat, kd h q = none → γ.1 ≤ q → (∀ n, nx h = some n → q = n) → AW γ M d (kc - 1) (ks - n) (pc + 2) ls (vr (some q) :: st) (mk h q (.inr (2, n))) Q) : AW γ M d kc ks pc ls (vi (n : Int) :: st) h Q := by
  intro p l e R s m args below meth c D E Zn mc ms H locs cells slots lsM F V
  obtain ⟨hx, hb, hr, hml, hown, hlocks, hname, htab, htr, hG, hfr, hlo, hmc, hms, hK, hsz⟩ := id F
  obtain ⟨hc1, hc2, hR, hS, hl, hN⟩ := id V
  obtain ⟨L, h1, h2, h3⟩ := id hR
  have hA : ∀ q, s.heap.size ≤ q → γ.1 ≤ q := fun q hq => Nat.le_trans hsz hq
  obtain ⟨g1, g2⟩ := i32_len hn
  refine W_bound (fun hb9 => ?_)
  have hnx := nx_at hN hc1 hR hS hsz hb9
  refine va_newaK (atype := .long) (N := n) hx hb (F.ts hw rfl) rfl hd rfl g1 g2 (by show n * 8 ≤ 536870912; omega) (by omega) (by omega) rfl (fun H1 cA e1 z1 o1 hAr hNm => ?_)
  have hcA : cA = E 2 := RA_inj (ty := .long) (U := s) hNm ((hK.2 2 _ (tysE_at (by decide))).2)
  subst hcA
  have hP1 : va_P D vwCl (([] ++ va_pl L (conc E h)) ++ [(H.size, .inl (E 2, (n, .inr (.inl fun _ => 0))))]) H1 := by
    refine va_P.app (h2.kept (fun k q hk9 => o1 q.1 (h2 k q hk9).lt)) (fun k q hk9 => ?_)
    have hz : k < 1 := (List.getElem?_eq_some_iff.mp hk9).1
    rw [show k = 0 by omega] at hk9
    cases hk9
    exact e1
  have hD1 := h3.push (e := .inl (E 2, (n, .inr (.inl fun _ => 0)))) h2 rfl (hA _ hS.1)
  obtain ⟨hkn, hR1⟩ := RelH.push (k := .inr (2, n)) h1 h2 hD1 hP1 (by rw [conc_arr (by rw [kd_mk, if_pos rfl])]; simp [arrE, gi_mk, gl_mk]; try rfl)
  exact kk H.size hkn (hA _ hS.1) hnx p l e R s m args below meth c D E Zn mc ms H1 locs (cells + 1) (slots + n) lsM F ⟨by omega, by omega, hR1, ⟨Nat.le_trans hS.1 (by omega), fun x g1 g2 => (o1 x (Nat.lt_of_lt_of_le g1 hS.1)).trans (hS.2.1 x g1 g2), hS.2.2⟩, hl, hN.mk hkc hnx⟩
theorem aw_newaz {n : Nat} (hd : decode M.2.1 pc = .ok (.newarray .boolean, 2)) (hw : Cond.arrayClass .boolean ∈ lw_tbl) (hn : n ≤ 65536) (hkc : 1 ≤ kc) (hks : n ≤ ks) (kk : ∀ q : Nat, kd h q = none → γ.1 ≤ q → (∀ n, nx h = some n → q = n) → AW γ M d (kc - 1) (ks - n) (pc + 2) ls (vr (some q) :: st) (mk h q (.inr (3, n))) Q) : AW γ M d kc ks pc ls (vi (n : Int) :: st) h Q := by
  intro p l e R s m args below meth c D E Zn mc ms H locs cells slots lsM F V
  obtain ⟨hx, hb, hr, hml, hown, hlocks, hname, htab, htr, hG, hfr, hlo, hmc, hms, hK, hsz⟩ := id F
  obtain ⟨hc1, hc2, hR, hS, hl, hN⟩ := id V
  obtain ⟨L, h1, h2, h3⟩ := id hR
  have hA : ∀ q, s.heap.size ≤ q → γ.1 ≤ q := fun q hq => Nat.le_trans hsz hq
  obtain ⟨g1, g2⟩ := i32_len hn
  refine W_bound (fun hb9 => ?_)
  have hnx := nx_at hN hc1 hR hS hsz hb9
  refine va_newaK (atype := .boolean) (N := n) hx hb (F.ts hw rfl) rfl hd rfl g1 g2 (by show n * 1 ≤ 536870912; omega) (by omega) (by omega) rfl (fun H1 cA e1 z1 o1 hAr hNm => ?_)
  have hcA : cA = E 3 := RA_inj (ty := .boolean) (U := s) hNm ((hK.2 3 _ (tysE_at (by decide))).2)
  subst hcA
  have hP1 : va_P D vwCl (([] ++ va_pl L (conc E h)) ++ [(H.size, .inl (E 3, (n, .inl fun _ => 0)))]) H1 := by
    refine va_P.app (h2.kept (fun k q hk9 => o1 q.1 (h2 k q hk9).lt)) (fun k q hk9 => ?_)
    have hz : k < 1 := (List.getElem?_eq_some_iff.mp hk9).1
    rw [show k = 0 by omega] at hk9
    cases hk9
    exact e1
  have hD1 := h3.push (e := .inl (E 3, (n, .inl fun _ => 0))) h2 rfl (hA _ hS.1)
  obtain ⟨hkn, hR1⟩ := RelH.push (k := .inr (3, n)) h1 h2 hD1 hP1 (by rw [conc_arr (by rw [kd_mk, if_pos rfl])]; simp [arrE, gi_mk, gl_mk]; try rfl)
  exact kk H.size hkn (hA _ hS.1) hnx p l e R s m args below meth c D E Zn mc ms H1 locs (cells + 1) (slots + n) lsM F ⟨by omega, by omega, hR1, ⟨Nat.le_trans hS.1 (by omega), fun x g1 g2 => (o1 x (Nat.lt_of_lt_of_le g1 hS.1)).trans (hS.2.1 x g1 g2), hS.2.2⟩, hl, hN.mk hkc hnx⟩
theorem aw_newq4 {idx n : Nat} (hd : decode M.2.1 pc = .ok (.anewarray idx, 3)) (hw : Cond.classLink M.1.cls idx "TreeQueries$Path" ∈ lw_tbl) (hn : n ≤ 65536) (hkc : 1 ≤ kc) (hks : n ≤ ks) (kk : ∀ q : Nat, kd h q = none → γ.1 ≤ q → (∀ n, nx h = some n → q = n) → AW γ M d (kc - 1) (ks - n) (pc + 3) ls (vr (some q) :: st) (mk h q (.inr (4, n))) Q) : AW γ M d kc ks pc ls (vi (n : Int) :: st) h Q := by
  intro p l e R s m args below meth c D E Zn mc ms H locs cells slots lsM F V
  obtain ⟨hx, hb, hr, hml, hown, hlocks, hname, htab, htr, hG, hfr, hlo, hmc, hms, hK, hsz⟩ := id F
  obtain ⟨hc1, hc2, hR, hS, hl, hN⟩ := id V
  obtain ⟨L, h1, h2, h3⟩ := id hR
  have hA : ∀ q, s.heap.size ≤ q → γ.1 ≤ q := fun q hq => Nat.le_trans hsz hq
  obtain ⟨g1, g2⟩ := i32_len hn
  refine W_bound (fun hb9 => ?_)
  have hnx := nx_at hN hc1 hR hS hsz hb9
  refine W.anew hx hb hown (F.ts hw rfl) (va_AO.use hG.2.2.2.2.2.2.2.2.2.1) rfl hd rfl g1 (by omega) (by omega) (by omega) (fun cA kA comp f1 f2 f3 f4 => ?_)
  have hcA : cA = E 4 := RA_inj (ty := .object "TreeQueries$Path") (U := s) ⟨kA, comp, f2, f3, f4, f1⟩ ((hK.2 4 _ (tysE_at (by decide))).2)
  subst hcA
  rw [g2]
  generalize hH1 : H.push ({ cls := E 4, slots := Array.replicate n .null, vm := .none } : Cell) = H1
  have z1 : H1.size = H.size + 1 := by rw [← hH1, Array.size_push]
  have e1 : H1[H.size]? = some (arrV (E 4) n (fun _ => .null)) := by rw [← hH1, Array.getElem?_push_size, ← arrV_new]
  have o1 : ∀ q : Nat, q < H.size → H1[q]? = H[q]? := fun q hq => by rw [← hH1, Array.getElem?_push, if_neg (Nat.ne_of_lt hq)]
  have hP1 : va_P D vwCl (([] ++ va_pl L (conc E h)) ++ [(H.size, .inl (E 4, (n, .inr (.inr (.inr (.inr fun _ => none))))))]) H1 := by
    refine va_P.app (h2.kept (fun k q hk9 => o1 q.1 (h2 k q hk9).lt)) (fun k q hk9 => ?_)
    have hz : k < 1 := (List.getElem?_eq_some_iff.mp hk9).1
    rw [show k = 0 by omega] at hk9
    cases hk9
    exact e1
  have hD1 := h3.push (e := .inl (E 4, (n, .inr (.inr (.inr (.inr fun _ => none)))))) h2 rfl (hA _ hS.1)
  obtain ⟨hkn, hR1⟩ := RelH.push (k := .inr (4, n)) h1 h2 hD1 hP1 (by rw [conc_arr (by rw [kd_mk, if_pos rfl])]; simp [arrE, gr_mk]; try rfl)
  exact kk H.size hkn (hA _ hS.1) hnx p l e R s m args below meth c D E Zn mc ms H1 locs (cells + 1) (slots + n) lsM F ⟨by omega, by omega, hR1, ⟨Nat.le_trans hS.1 (by omega), fun x g1 g2 => (o1 x (Nat.lt_of_lt_of_le g1 hS.1)).trans (hS.2.1 x g1 g2), hS.2.2⟩, hl, hN.mk hkc hnx⟩
theorem aw_newq5 {idx n : Nat} (hd : decode M.2.1 pc = .ok (.anewarray idx, 3)) (hw : Cond.classLink M.1.cls idx "TreeQueries$Query" ∈ lw_tbl) (hn : n ≤ 65536) (hkc : 1 ≤ kc) (hks : n ≤ ks) (kk : ∀ q : Nat, kd h q = none → γ.1 ≤ q → (∀ n, nx h = some n → q = n) → AW γ M d (kc - 1) (ks - n) (pc + 3) ls (vr (some q) :: st) (mk h q (.inr (5, n))) Q) : AW γ M d kc ks pc ls (vi (n : Int) :: st) h Q := by
  intro p l e R s m args below meth c D E Zn mc ms H locs cells slots lsM F V
  obtain ⟨hx, hb, hr, hml, hown, hlocks, hname, htab, htr, hG, hfr, hlo, hmc, hms, hK, hsz⟩ := id F
  obtain ⟨hc1, hc2, hR, hS, hl, hN⟩ := id V
  obtain ⟨L, h1, h2, h3⟩ := id hR
  have hA : ∀ q, s.heap.size ≤ q → γ.1 ≤ q := fun q hq => Nat.le_trans hsz hq
  obtain ⟨g1, g2⟩ := i32_len hn
  refine W_bound (fun hb9 => ?_)
  have hnx := nx_at hN hc1 hR hS hsz hb9
  refine W.anew hx hb hown (F.ts hw rfl) (va_AO.use hG.2.2.2.2.2.2.2.2.2.2.1) rfl hd rfl g1 (by omega) (by omega) (by omega) (fun cA kA comp f1 f2 f3 f4 => ?_)
  have hcA : cA = E 5 := RA_inj (ty := .object "TreeQueries$Query") (U := s) ⟨kA, comp, f2, f3, f4, f1⟩ ((hK.2 5 _ (tysE_at (by decide))).2)
  subst hcA
  rw [g2]
  generalize hH1 : H.push ({ cls := E 5, slots := Array.replicate n .null, vm := .none } : Cell) = H1
  have z1 : H1.size = H.size + 1 := by rw [← hH1, Array.size_push]
  have e1 : H1[H.size]? = some (arrV (E 5) n (fun _ => .null)) := by rw [← hH1, Array.getElem?_push_size, ← arrV_new]
  have o1 : ∀ q : Nat, q < H.size → H1[q]? = H[q]? := fun q hq => by rw [← hH1, Array.getElem?_push, if_neg (Nat.ne_of_lt hq)]
  have hP1 : va_P D vwCl (([] ++ va_pl L (conc E h)) ++ [(H.size, .inl (E 5, (n, .inr (.inr (.inr (.inr fun _ => none))))))]) H1 := by
    refine va_P.app (h2.kept (fun k q hk9 => o1 q.1 (h2 k q hk9).lt)) (fun k q hk9 => ?_)
    have hz : k < 1 := (List.getElem?_eq_some_iff.mp hk9).1
    rw [show k = 0 by omega] at hk9
    cases hk9
    exact e1
  have hD1 := h3.push (e := .inl (E 5, (n, .inr (.inr (.inr (.inr fun _ => none)))))) h2 rfl (hA _ hS.1)
  obtain ⟨hkn, hR1⟩ := RelH.push (k := .inr (5, n)) h1 h2 hD1 hP1 (by rw [conc_arr (by rw [kd_mk, if_pos rfl])]; simp [arrE, gr_mk]; try rfl)
  exact kk H.size hkn (hA _ hS.1) hnx p l e R s m args below meth c D E Zn mc ms H1 locs (cells + 1) (slots + n) lsM F ⟨by omega, by omega, hR1, ⟨Nat.le_trans hS.1 (by omega), fun x g1 g2 => (o1 x (Nat.lt_of_lt_of_le g1 hS.1)).trans (hS.2.1 x g1 g2), hS.2.2⟩, hl, hN.mk hkc hnx⟩
theorem aw_newq6 {idx n : Nat} (hd : decode M.2.1 pc = .ok (.anewarray idx, 3)) (hw : Cond.classLink M.1.cls idx "TreeQueries$State" ∈ lw_tbl) (hn : n ≤ 65536) (hkc : 1 ≤ kc) (hks : n ≤ ks) (kk : ∀ q : Nat, kd h q = none → γ.1 ≤ q → (∀ n, nx h = some n → q = n) → AW γ M d (kc - 1) (ks - n) (pc + 3) ls (vr (some q) :: st) (mk h q (.inr (6, n))) Q) : AW γ M d kc ks pc ls (vi (n : Int) :: st) h Q := by
  intro p l e R s m args below meth c D E Zn mc ms H locs cells slots lsM F V
  obtain ⟨hx, hb, hr, hml, hown, hlocks, hname, htab, htr, hG, hfr, hlo, hmc, hms, hK, hsz⟩ := id F
  obtain ⟨hc1, hc2, hR, hS, hl, hN⟩ := id V
  obtain ⟨L, h1, h2, h3⟩ := id hR
  have hA : ∀ q, s.heap.size ≤ q → γ.1 ≤ q := fun q hq => Nat.le_trans hsz hq
  obtain ⟨g1, g2⟩ := i32_len hn
  refine W_bound (fun hb9 => ?_)
  have hnx := nx_at hN hc1 hR hS hsz hb9
  refine W.anew hx hb hown (F.ts hw rfl) (va_AO.use hG.2.2.2.2.2.2.2.2.2.2.2.1) rfl hd rfl g1 (by omega) (by omega) (by omega) (fun cA kA comp f1 f2 f3 f4 => ?_)
  have hcA : cA = E 6 := RA_inj (ty := .object "TreeQueries$State") (U := s) ⟨kA, comp, f2, f3, f4, f1⟩ ((hK.2 6 _ (tysE_at (by decide))).2)
  subst hcA
  rw [g2]
  generalize hH1 : H.push ({ cls := E 6, slots := Array.replicate n .null, vm := .none } : Cell) = H1
  have z1 : H1.size = H.size + 1 := by rw [← hH1, Array.size_push]
  have e1 : H1[H.size]? = some (arrV (E 6) n (fun _ => .null)) := by rw [← hH1, Array.getElem?_push_size, ← arrV_new]
  have o1 : ∀ q : Nat, q < H.size → H1[q]? = H[q]? := fun q hq => by rw [← hH1, Array.getElem?_push, if_neg (Nat.ne_of_lt hq)]
  have hP1 : va_P D vwCl (([] ++ va_pl L (conc E h)) ++ [(H.size, .inl (E 6, (n, .inr (.inr (.inr (.inr fun _ => none))))))]) H1 := by
    refine va_P.app (h2.kept (fun k q hk9 => o1 q.1 (h2 k q hk9).lt)) (fun k q hk9 => ?_)
    have hz : k < 1 := (List.getElem?_eq_some_iff.mp hk9).1
    rw [show k = 0 by omega] at hk9
    cases hk9
    exact e1
  have hD1 := h3.push (e := .inl (E 6, (n, .inr (.inr (.inr (.inr fun _ => none)))))) h2 rfl (hA _ hS.1)
  obtain ⟨hkn, hR1⟩ := RelH.push (k := .inr (6, n)) h1 h2 hD1 hP1 (by rw [conc_arr (by rw [kd_mk, if_pos rfl])]; simp [arrE, gr_mk]; try rfl)
  exact kk H.size hkn (hA _ hS.1) hnx p l e R s m args below meth c D E Zn mc ms H1 locs (cells + 1) (slots + n) lsM F ⟨by omega, by omega, hR1, ⟨Nat.le_trans hS.1 (by omega), fun x g1 g2 => (o1 x (Nat.lt_of_lt_of_le g1 hS.1)).trans (hS.2.1 x g1 g2), hS.2.2⟩, hl, hN.mk hkc hnx⟩
theorem aw_newq7 {idx n : Nat} (hd : decode M.2.1 pc = .ok (.anewarray idx, 3)) (hw : Cond.classLink M.1.cls idx "TreeQueries$Step" ∈ lw_tbl) (hn : n ≤ 65536) (hkc : 1 ≤ kc) (hks : n ≤ ks) (kk : ∀ q : Nat, kd h q = none → γ.1 ≤ q → (∀ n, nx h = some n → q = n) → AW γ M d (kc - 1) (ks - n) (pc + 3) ls (vr (some q) :: st) (mk h q (.inr (7, n))) Q) : AW γ M d kc ks pc ls (vi (n : Int) :: st) h Q := by
  intro p l e R s m args below meth c D E Zn mc ms H locs cells slots lsM F V
  obtain ⟨hx, hb, hr, hml, hown, hlocks, hname, htab, htr, hG, hfr, hlo, hmc, hms, hK, hsz⟩ := id F
  obtain ⟨hc1, hc2, hR, hS, hl, hN⟩ := id V
  obtain ⟨L, h1, h2, h3⟩ := id hR
  have hA : ∀ q, s.heap.size ≤ q → γ.1 ≤ q := fun q hq => Nat.le_trans hsz hq
  obtain ⟨g1, g2⟩ := i32_len hn
  refine W_bound (fun hb9 => ?_)
  have hnx := nx_at hN hc1 hR hS hsz hb9
  refine W.anew hx hb hown (F.ts hw rfl) (va_AO.use hG.2.2.2.2.2.2.2.2.2.2.2.2) rfl hd rfl g1 (by omega) (by omega) (by omega) (fun cA kA comp f1 f2 f3 f4 => ?_)
  have hcA : cA = E 7 := RA_inj (ty := .object "TreeQueries$Step") (U := s) ⟨kA, comp, f2, f3, f4, f1⟩ ((hK.2 7 _ (tysE_at (by decide))).2)
  subst hcA
  rw [g2]
  generalize hH1 : H.push ({ cls := E 7, slots := Array.replicate n .null, vm := .none } : Cell) = H1
  have z1 : H1.size = H.size + 1 := by rw [← hH1, Array.size_push]
  have e1 : H1[H.size]? = some (arrV (E 7) n (fun _ => .null)) := by rw [← hH1, Array.getElem?_push_size, ← arrV_new]
  have o1 : ∀ q : Nat, q < H.size → H1[q]? = H[q]? := fun q hq => by rw [← hH1, Array.getElem?_push, if_neg (Nat.ne_of_lt hq)]
  have hP1 : va_P D vwCl (([] ++ va_pl L (conc E h)) ++ [(H.size, .inl (E 7, (n, .inr (.inr (.inr (.inr fun _ => none))))))]) H1 := by
    refine va_P.app (h2.kept (fun k q hk9 => o1 q.1 (h2 k q hk9).lt)) (fun k q hk9 => ?_)
    have hz : k < 1 := (List.getElem?_eq_some_iff.mp hk9).1
    rw [show k = 0 by omega] at hk9
    cases hk9
    exact e1
  have hD1 := h3.push (e := .inl (E 7, (n, .inr (.inr (.inr (.inr fun _ => none)))))) h2 rfl (hA _ hS.1)
  obtain ⟨hkn, hR1⟩ := RelH.push (k := .inr (7, n)) h1 h2 hD1 hP1 (by rw [conc_arr (by rw [kd_mk, if_pos rfl])]; simp [arrE, gr_mk]; try rfl)
  exact kk H.size hkn (hA _ hS.1) hnx p l e R s m args below meth c D E Zn mc ms H1 locs (cells + 1) (slots + n) lsM F ⟨by omega, by omega, hR1, ⟨Nat.le_trans hS.1 (by omega), fun x g1 g2 => (o1 x (Nat.lt_of_lt_of_le g1 hS.1)).trans (hS.2.1 x g1 g2), hS.2.2⟩, hl, hN.mk hkc hnx⟩
/-- System.arraycopy between int arrays, between long arrays -/
def cpI (h : AH) (a0 : Nat) (sp : Int) (a1 : Nat) (dp n : Int) : AH := (h.1, (fun b k => if b = a1 ∧ dp ≤ k ∧ k < dp + n then h.2.1 a0 (sp + (k - dp)) else h.2.1 b k), h.2.2.1, h.2.2.2)
def cpL (h : AH) (a0 : Nat) (sp : Int) (a1 : Nat) (dp n : Int) : AH := (h.1, h.2.1, (fun b k => if b = a1 ∧ dp ≤ k ∧ k < dp + n then h.2.2.1 a0 (sp + (k - dp)) else h.2.2.1 b k), h.2.2.2)
theorem kd_cpI (h : AH) (a0 : Nat) (sp : Int) (a1 : Nat) (dp n : Int) (b : Nat) : kd (cpI h a0 sp a1 dp n) b = kd h b := rfl
theorem gi_cpI (h : AH) (a0 : Nat) (sp : Int) (a1 : Nat) (dp n : Int) (b : Nat) (k : Int) : gi (cpI h a0 sp a1 dp n) b k = if b = a1 ∧ dp ≤ k ∧ k < dp + n then gi h a0 (sp + (k - dp)) else gi h b k := rfl
theorem gl_cpI (h : AH) (a0 : Nat) (sp : Int) (a1 : Nat) (dp n : Int) (b : Nat) (k : Int) : gl (cpI h a0 sp a1 dp n) b k = gl h b k := rfl
theorem gr_cpI (h : AH) (a0 : Nat) (sp : Int) (a1 : Nat) (dp n : Int) (b : Nat) (k : Int) : gr (cpI h a0 sp a1 dp n) b k = gr h b k := rfl
theorem kd_cpL (h : AH) (a0 : Nat) (sp : Int) (a1 : Nat) (dp n : Int) (b : Nat) : kd (cpL h a0 sp a1 dp n) b = kd h b := rfl
theorem gi_cpL (h : AH) (a0 : Nat) (sp : Int) (a1 : Nat) (dp n : Int) (b : Nat) (k : Int) : gi (cpL h a0 sp a1 dp n) b k = gi h b k := rfl
theorem gl_cpL (h : AH) (a0 : Nat) (sp : Int) (a1 : Nat) (dp n : Int) (b : Nat) (k : Int) : gl (cpL h a0 sp a1 dp n) b k = if b = a1 ∧ dp ≤ k ∧ k < dp + n then gl h a0 (sp + (k - dp)) else gl h b k := rfl
theorem gr_cpL (h : AH) (a0 : Nat) (sp : Int) (a1 : Nat) (dp n : Int) (b : Nat) (k : Int) : gr (cpL h a0 sp a1 dp n) b k = gr h b k := rfl
def cpW (own : String) (idx : Nat) : Prop := Cond.methodLink own idx arraycopyName ∈ lw_tbl ∧ Cond.native arraycopyName ∈ lw_tbl ∧ Cond.static arraycopyName ∈ lw_tbl ∧ Cond.initialized "java/lang/System" ∈ lw_tbl
theorem cp_i {h : AH} {a0 a1 sp dp n : Nat} {S D9 N9 : Int} (e1 : (sp : Int) = S) (e2 : (dp : Int) = D9) (e3 : (n : Int) = N9) : (fun k : Nat => Int32.ofInt (gi (cpI h a0 S a1 D9 N9) a1 k)) = va_cpy (fun k : Nat => Int32.ofInt (gi h a0 k)) (fun k : Nat => Int32.ofInt (gi h a1 k)) sp dp n := by
  funext q
  subst e1; subst e2; subst e3
  simp only [gi_cpI, va_cpy]
  by_cases hq : dp ≤ q ∧ q < dp + n
  · rw [if_pos hq, if_pos ⟨trivial, by omega, by omega⟩]
    congr 2
    omega
  · rw [if_neg hq, if_neg]
    rintro ⟨-, z1, z2⟩
    omega
theorem cp_l {h : AH} {a0 a1 sp dp n : Nat} {S D9 N9 : Int} (e1 : (sp : Int) = S) (e2 : (dp : Int) = D9) (e3 : (n : Int) = N9) : (fun k : Nat => gl (cpL h a0 S a1 D9 N9) a1 k) = va_cpy (fun k : Nat => gl h a0 k) (fun k : Nat => gl h a1 k) sp dp n := by
  funext q
  subst e1; subst e2; subst e3
  simp only [gl_cpL, va_cpy]
  by_cases hq : dp ≤ q ∧ q < dp + n
  · rw [if_pos hq, if_pos ⟨trivial, by omega, by omega⟩]
    congr 1
    omega
  · rw [if_neg hq, if_neg]
    rintro ⟨-, z1, z2⟩
    omega
theorem i32_nn {z : Int} (h0 : 0 ≤ z) (h1 : z ≤ 2147483647) : ¬ Int32.ofInt z < 0 ∧ ((Int32.ofInt z).toNatClampNeg : Int) = z := by
  have e : (Int32.ofInt z).toInt = z := i32_in ⟨by omega, by omega⟩
  refine ⟨?_, ?_⟩
  · rw [i32_z, i32_lt ⟨by omega, by omega⟩ ⟨by omega, by omega⟩]
    omega
  · show ((Int32.ofInt z).toInt.toNat : Int) = z
    rw [e]
    omega
theorem cV_cat (v : AV) : (cV v).category ≤ 2 := by
  rcases v with z | x | o
  · exact Nat.le_succ 1
  · exact Nat.le_refl 2
  · cases o <;> exact Nat.le_succ 1
theorem st_sum (st : List AV) : ((st.map cV).map fun v => v.category).sum ≤ 2 * st.length := by
  induction st with
  | nil => exact Nat.le_refl 0
  | cons a l ih =>
    have := cV_cat a
    simp only [List.map_cons, List.sum_cons, List.length_cons]
    omega
theorem st_room {st : List AV} {d n : Nat} (hst : st.length ≤ 4) (hd : 1 ≤ d) (hlo : 40 * d ≤ n) : ((st.map cV).map fun v => v.category).sum + (nativeFrameWords "java/lang/System" "arraycopy" 5 + 11) ≤ n := by
  have h1 := st_sum st
  have h2 : nativeFrameWords "java/lang/System" "arraycopy" 5 ≤ 20 := by decide
  omega
theorem aw_copyI {idx a0 a1 n0 n1 : Nat} {sp dp n : Int} (hd : decode M.2.1 pc = .ok (.invokestatic idx, 3)) (hw : cpW M.1.cls idx) (hk0 : kd h a0 = some (.inr (1, n0))) (hk1 : kd h a1 = some (.inr (1, n1))) (hn0 : n0 ≤ 2147483647) (hn1 : n1 ≤ 2147483647) (hr9 : 0 ≤ sp ∧ 0 ≤ dp ∧ 0 ≤ n ∧ sp + n ≤ n0 ∧ dp + n ≤ n1) (hdp : 1 ≤ d) (hst : st.length ≤ 4) (kk : AW γ M d kc ks (pc + 3) ls st (cpI h a0 sp a1 dp n) Q) : AW γ M d kc ks pc ls (vi n :: vi dp :: vr (some a1) :: vi sp :: vr (some a0) :: st) h Q := by
  intro p l e R s m args below meth c D E Zn mc ms H locs cells slots lsM F V
  obtain ⟨hx, hb, hr, hml, hown, hlocks, hname, htab, htr, hG, hfr, hlo, hmc, hms, hK, hsz⟩ := id F
  obtain ⟨hc1, hc2, hR, hS, hl, hN⟩ := id V
  obtain ⟨L, q0, h1, h2, h3, hm, hq⟩ := hR.get hk1
  obtain ⟨qk, hqk⟩ := va_pl_get (X := []) (f := conc E h) ((h1 a0).mpr (by rw [hk0]; rfl))
  rw [conc_arr hk1] at hq
  rw [conc_arr hk0] at hqk
  obtain ⟨g1, g2⟩ := i32_nn (z := sp) hr9.1 (by omega)
  obtain ⟨g3, g4⟩ := i32_nn (z := dp) hr9.2.1 (by omega)
  obtain ⟨g5, g6⟩ := i32_nn (z := n) hr9.2.2.1 (by omega)
  refine va_copyi (f := fun j => Int32.ofInt (gi h a0 j)) (g := fun j => Int32.ofInt (gi h a1 j)) (ty := .int) hx hb (hml.trans hl.1.symm) hown (F.ts hw.1 rfl) (F.ts hw.2.1 rfl) (F.ts hw.2.2.1 rfl) (F.ts hw.2.2.2 rfl) hK h2 h3 hS qk q0 1 1 hqk hq (tysE_at (by decide)) (tysE_at (by decide)) rfl g1 g3 g5 (by omega) (by omega) (fun i hi => rfl) (by omega) (st_room hst hdp hlo) hd (fun H1 locs1 hP1 hD1 hS1 => ?_)
  rw [← cp_i g2 g4 g6] at hP1 hD1
  exact kk p l e R s m args below meth c D E Zn mc ms H1 locs1 cells slots lsM F ⟨hc1, hc2, RelH.puta (h' := cpI h a0 sp a1 dp n) hk1 h1 h3 hm hq hP1 hD1 (fun b => rfl) rfl (fun b j9 hb9 => ⟨by rw [gi_cpI, if_neg (fun z => hb9 z.1)], rfl, rfl⟩), hS1, hl, hN⟩
theorem aw_copyL {idx a0 a1 n0 n1 : Nat} {sp dp n : Int} (hd : decode M.2.1 pc = .ok (.invokestatic idx, 3)) (hw : cpW M.1.cls idx) (hk0 : kd h a0 = some (.inr (2, n0))) (hk1 : kd h a1 = some (.inr (2, n1))) (hn0 : n0 ≤ 2147483647) (hn1 : n1 ≤ 2147483647) (hr9 : 0 ≤ sp ∧ 0 ≤ dp ∧ 0 ≤ n ∧ sp + n ≤ n0 ∧ dp + n ≤ n1) (hdp : 1 ≤ d) (hst : st.length ≤ 4) (kk : AW γ M d kc ks (pc + 3) ls st (cpL h a0 sp a1 dp n) Q) : AW γ M d kc ks pc ls (vi n :: vi dp :: vr (some a1) :: vi sp :: vr (some a0) :: st) h Q := by
  intro p l e R s m args below meth c D E Zn mc ms H locs cells slots lsM F V
  obtain ⟨hx, hb, hr, hml, hown, hlocks, hname, htab, htr, hG, hfr, hlo, hmc, hms, hK, hsz⟩ := id F
  obtain ⟨hc1, hc2, hR, hS, hl, hN⟩ := id V
  obtain ⟨L, q0, h1, h2, h3, hm, hq⟩ := hR.get hk1
  obtain ⟨qk, hqk⟩ := va_pl_get (X := []) (f := conc E h) ((h1 a0).mpr (by rw [hk0]; rfl))
  rw [conc_arr hk1] at hq
  rw [conc_arr hk0] at hqk
  obtain ⟨g1, g2⟩ := i32_nn (z := sp) hr9.1 (by omega)
  obtain ⟨g3, g4⟩ := i32_nn (z := dp) hr9.2.1 (by omega)
  obtain ⟨g5, g6⟩ := i32_nn (z := n) hr9.2.2.1 (by omega)
  refine va_copyl (f := fun j => gl h a0 j) (g := fun j => gl h a1 j) (ty := .long) hx hb (hml.trans hl.1.symm) hown (F.ts hw.1 rfl) (F.ts hw.2.1 rfl) (F.ts hw.2.2.1 rfl) (F.ts hw.2.2.2 rfl) hK h2 h3 hS qk q0 2 2 hqk hq (tysE_at (by decide)) (tysE_at (by decide)) rfl g1 g3 g5 (by omega) (by omega) (fun i hi => rfl) (by omega) (st_room hst hdp hlo) hd (fun H1 locs1 hP1 hD1 hS1 => ?_)
  rw [← cp_l g2 g4 g6] at hP1 hD1
  exact kk p l e R s m args below meth c D E Zn mc ms H1 locs1 cells slots lsM F ⟨hc1, hc2, RelH.puta (h' := cpL h a0 sp a1 dp n) hk1 h1 h3 hm hq hP1 hD1 (fun b => rfl) rfl (fun b j9 hb9 => ⟨rfl, by rw [gl_cpL, if_neg (fun z => hb9 z.1)], rfl⟩), hS1, hl, hN⟩
end AWH
