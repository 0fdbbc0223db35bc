/-! what the start gives: the texts, the constants, the classes, the arrays -/
theorem st_same {args : Array Value} {s : State} {t1 t2 : Term} {a1 a2 : Nat} (h : (Cond.eq t1 t2).before args s = true) (h1 : t1.eval args s none [] s = some (.ref a1)) (h2 : t2.eval args s none [] s = some (.ref a2)) : a1 = a2 := by
  simpa [Cond.before, Cond.holds, Cond.value, h1, h2] using h
theorem st_ev {args : Array Value} {s : State} {t : Term} {C : String} (h : (Cond.exactly t C).before args s = true) : ∃ a : Nat, t.eval args s none [] s = some (.ref a) := by
  obtain ⟨a, c, cA, kA, q1, -⟩ := Cond.exactly_spec (args := args) (first := s) (o := none) (s := s) (idx := []) (t := t) (cls := C) h
  exact ⟨a, q1⟩
theorem st_ref {args : Array Value} {s : State} {own tx : String} {k : Nat} (h1 : (Cond.stringRef own k tx).before args s = true) (h2 : (Cond.exactly (.string own k) "java/lang/String").before args s = true) : ∃ a, vk_R own k tx a s := by
  obtain ⟨a, q⟩ := st_ev h2
  exact ⟨a, vk_R.of h1 q⟩
theorem gb_of {s : State} {b : Nat} (hts : ∀ w ∈ lw_tbl, w.before #[Value.ref b] s = true) (hgv : (Jvm.Cond.and given_1 narrow_1).before #[Value.ref b] s = true) : ∃ adK adV : Nat → Nat, Gb (s.heap.size, adK, adV) s := by
  have hs := flat_of_before _ hgv
  have hA : ∀ a : Nat, a < s.heap.size → ¬ (fun q : Nat => s.heap.size ≤ q) a := fun a h => Nat.not_le.mpr h
  obtain ⟨adK, adV, hS, hE⟩ := vk_Sof (args := #[Value.ref b]) (s := s) (N := 1) (tm := fun _ => .string RX9 19) (len := ax_len) (byt := ax_byt) (A := fun q => s.heap.size ≤ q) (fun i hi => by
    obtain rfl : i = 0 := by omega
    decide) (fun i _ => (hs _ (List.mem_of_getElem? (i := 139) (by decide +kernel)))) (fun i _ => (hs _ (List.mem_of_getElem? (i := 140) (by decide +kernel)))) (fun i _ => (hs _ (List.mem_of_getElem? (i := 141) (by decide +kernel)))) (fun i hi => by
    obtain rfl : i = 0 := by omega
    exact (hs _ (List.mem_of_getElem? (i := 142) (by decide +kernel)))) (fun i hi j hj => by
    obtain rfl : i = 0 := by omega
    match j, hj with
    | 0, _ => exact (hs _ (List.mem_of_getElem? (i := 143) (by decide +kernel)))
    | 1, _ => exact (hs _ (List.mem_of_getElem? (i := 144) (by decide +kernel)))
    | 2, _ => exact (hs _ (List.mem_of_getElem? (i := 145) (by decide +kernel)))
    | 3, _ => exact (hs _ (List.mem_of_getElem? (i := 146) (by decide +kernel)))
    | 4, _ => exact (hs _ (List.mem_of_getElem? (i := 147) (by decide +kernel)))
    | 5, _ => exact (hs _ (List.mem_of_getElem? (i := 148) (by decide +kernel)))
    | 6, _ => exact (hs _ (List.mem_of_getElem? (i := 149) (by decide +kernel)))
    | 7, _ => exact (hs _ (List.mem_of_getElem? (i := 150) (by decide +kernel)))
    | 8, _ => exact (hs _ (List.mem_of_getElem? (i := 151) (by decide +kernel)))
    | j + 9, hj => exact absurd hj (by show ¬ j + 9 < 9; omega)) (fun i j hi hj hne => absurd (show i = j by omega) hne) hA
  refine ⟨adK, adV, fun w hw ho => okw_use ho (hts w hw), vx_Zqof (hts _ (List.mem_append_right _ (List.mem_of_getElem? (i := 714) (by decide +kernel)))) (hts _ (List.mem_append_right _ (List.mem_of_getElem? (i := 13) (by decide +kernel)))) (hs _ (List.mem_of_getElem? (i := 9) (by decide +kernel))) hA, vx_Zqof (hts _ (List.mem_append_right _ (List.mem_of_getElem? (i := 716) (by decide +kernel)))) (hts _ (List.mem_append_right _ (List.mem_of_getElem? (i := 13) (by decide +kernel)))) (hs _ (List.mem_of_getElem? (i := 10) (by decide +kernel))) hA, List.forall_mem_cons.mpr ⟨st_ref (hts _ (List.mem_append_right _ (List.mem_of_getElem? (i := 729) (by decide +kernel)))) (hs _ (List.mem_of_getElem? (i := 152) (by decide +kernel))), List.forall_mem_cons.mpr ⟨st_ref (hts _ (List.mem_append_right _ (List.mem_of_getElem? (i := 768) (by decide +kernel)))) (hs _ (List.mem_of_getElem? (i := 169) (by decide +kernel))), List.forall_mem_cons.mpr ⟨st_ref (hts _ (List.mem_append_right _ (List.mem_of_getElem? (i := 784) (by decide +kernel)))) (hs _ (List.mem_of_getElem? (i := 187) (by decide +kernel))), List.forall_mem_cons.mpr ⟨st_ref (hts _ (List.mem_append_right _ (List.mem_of_getElem? (i := 848) (by decide +kernel)))) (hs _ (List.mem_of_getElem? (i := 210) (by decide +kernel))), List.forall_mem_cons.mpr ⟨st_ref (hts _ (List.mem_append_right _ (List.mem_of_getElem? (i := 866) (by decide +kernel)))) (hs _ (List.mem_of_getElem? (i := 232) (by decide +kernel))), List.forall_mem_cons.mpr ⟨st_ref (hts _ (List.mem_append_right _ (List.mem_of_getElem? (i := 896) (by decide +kernel)))) (hs _ (List.mem_of_getElem? (i := 275) (by decide +kernel))), List.forall_mem_cons.mpr ⟨st_ref (hts _ (List.mem_append_right _ (List.mem_of_getElem? (i := 908) (by decide +kernel)))) (hs _ (List.mem_of_getElem? (i := 306) (by decide +kernel))), List.forall_mem_cons.mpr ⟨st_ref (hts _ (List.mem_append_right _ (List.mem_of_getElem? (i := 921) (by decide +kernel)))) (hs _ (List.mem_of_getElem? (i := 333) (by decide +kernel))), List.forall_mem_cons.mpr ⟨st_ref (hts _ (List.mem_append_right _ (List.mem_of_getElem? (i := 1090) (by decide +kernel)))) (hs _ (List.mem_of_getElem? (i := 380) (by decide +kernel))), List.forall_mem_cons.mpr ⟨st_ref (hts _ (List.mem_append_right _ (List.mem_of_getElem? (i := 1105) (by decide +kernel)))) (hs _ (List.mem_of_getElem? (i := 416) (by decide +kernel))), List.forall_mem_cons.mpr ⟨st_ref (hts _ (List.mem_append_right _ (List.mem_of_getElem? (i := 1175) (by decide +kernel)))) (hs _ (List.mem_of_getElem? (i := 445) (by decide +kernel))), List.forall_mem_cons.mpr ⟨st_ref (hts _ (List.mem_append_right _ (List.mem_of_getElem? (i := 1183) (by decide +kernel)))) (hs _ (List.mem_of_getElem? (i := 473) (by decide +kernel))), fun _ h9 => absurd h9 List.not_mem_nil⟩⟩⟩⟩⟩⟩⟩⟩⟩⟩⟩⟩, va_Zof (hts _ (List.mem_append_right _ (List.mem_of_getElem? (i := 387) (by decide +kernel)))) (hts _ (List.mem_append_right _ (List.mem_of_getElem? (i := 23) (by decide +kernel)))) (va_eqt (hs _ (List.mem_of_getElem? (i := 4) (by decide +kernel)))) hA, va_Zqof (hts _ (List.mem_append_right _ (List.mem_of_getElem? (i := 395) (by decide +kernel)))) (hts _ (List.mem_append_right _ (List.mem_of_getElem? (i := 26) (by decide +kernel)))) (hs _ (List.mem_of_getElem? (i := 5) (by decide +kernel))) hA, hS, vk_R.of (hts _ (List.mem_append_right _ (List.mem_of_getElem? (i := 377) (by decide +kernel)))) (hE 0 (by decide)), ?_, va_AO.of (hts _ (List.mem_append_right _ (List.mem_of_getElem? (i := 96) (by decide +kernel)))), va_AO.of (hts _ (List.mem_append_right _ (List.mem_of_getElem? (i := 89) (by decide +kernel)))), va_AO.of (hts _ (List.mem_append_right _ (List.mem_of_getElem? (i := 183) (by decide +kernel)))), va_AO.of (hts _ (List.mem_append_right _ (List.mem_of_getElem? (i := 103) (by decide +kernel))))⟩
  obtain ⟨a2, q2⟩ := st_ev (t := .string RX3 152) (C := "java/lang/String") (hs _ (List.mem_of_getElem? (i := 358) (by decide +kernel)))
  obtain rfl := st_same (hs _ (List.mem_of_getElem? (i := 371) (by decide +kernel))) (hE 0 (by decide)) q2
  exact vk_R.of (hts _ (List.mem_append_right _ (List.mem_of_getElem? (i := 955) (by decide +kernel)))) q2
theorem ar_prim {args : Array Value} {s : State} {ty : FieldType} (h : (Cond.arrayClass ty).before args s = true) (hr : ∀ cA : ClassId, s.vm.findClass ("[" ++ ty.toString) = some cA → va_RA s cA ty) : ∃ cA : ClassId, ArrOfT s cA ty ∧ va_RA s cA ty := by
  obtain ⟨c, k, comp, h1, h2, h3⟩ := Cond.arrayClass_spec h
  exact ⟨c, fun N z => ⟨fun k h => (by cases h), k, h2, comp, h3⟩, hr c h1⟩
theorem ar_obj {args : Array Value} {s : State} {C : String} (h : (Cond.arrayOver (.object C)).before args s = true) : ∃ cA : ClassId, ArrOfT s cA (.object C) ∧ va_RA s cA (.object C) := by
  obtain ⟨comp, c, k, h1, h2, h3, h4, h5⟩ := Cond.arrayOver_spec h
  exact ⟨c, fun N z => ⟨fun k h => (by cases h), k, h3, comp, h4⟩, k, comp, h3, h4, h1, h5⟩
theorem vk_of {s : State} {b : Nat} (hts : ∀ w ∈ lw_tbl, w.before #[Value.ref b] s = true) : ∃ (D : va_G) (E : Nat → ClassId), va_K D vwCl (tysE E) s := by
  have h0 : ∀ k : Nat, ∃ r : ClassId × (Nat → Nat), ∀ q : vw_C, vwCl[k]? = some q → u_Kn s q.1 q.2.1 q.2.2 r.1 r.2 := by
    intro k
    match k with
    | 0 => obtain ⟨c9, i9, h9⟩ := u_known (C := RX1) (T := TX1) (N := 2) (n := 2) hts ciX1.2.1 (hts _ (List.mem_append_right _ (List.mem_of_getElem? (i := 258) (by decide +kernel)))); exact ⟨(c9, i9), fun q hq => by cases hq; exact h9⟩
    | 1 => obtain ⟨c9, i9, h9⟩ := u_known (C := RX2) (T := TX2) (N := 3) (n := 3) hts ciX2.2.1 (hts _ (List.mem_append_right _ (List.mem_of_getElem? (i := 177) (by decide +kernel)))); exact ⟨(c9, i9), fun q hq => by cases hq; exact h9⟩
    | 2 => obtain ⟨c9, i9, h9⟩ := u_known (C := RX3) (T := TX3) (N := 7) (n := 7) hts ciX3.2.1 (hts _ (List.mem_append_right _ (List.mem_of_getElem? (i := 216) (by decide +kernel)))); exact ⟨(c9, i9), fun q hq => by cases hq; exact h9⟩
    | 3 => obtain ⟨c9, i9, h9⟩ := u_known (C := RX4) (T := TX4) (N := 3) (n := 3) hts ciX4.2.1 (hts _ (List.mem_append_right _ (List.mem_of_getElem? (i := 97) (by decide +kernel)))); exact ⟨(c9, i9), fun q hq => by cases hq; exact h9⟩
    | 4 => obtain ⟨c9, i9, h9⟩ := u_known (C := RX5) (T := TX5) (N := 2) (n := 2) hts ciX5.2.1 (hts _ (List.mem_append_right _ (List.mem_of_getElem? (i := 90) (by decide +kernel)))); exact ⟨(c9, i9), fun q hq => by cases hq; exact h9⟩
    | 5 => obtain ⟨c9, i9, h9⟩ := u_known (C := RX6) (T := TX6) (N := 1) (n := 1) hts ciX6.2.1 (hts _ (List.mem_append_right _ (List.mem_of_getElem? (i := 247) (by decide +kernel)))); exact ⟨(c9, i9), fun q hq => by cases hq; exact h9⟩
    | 6 => obtain ⟨c9, i9, h9⟩ := u_known (C := RX7) (T := TX7) (N := 2) (n := 2) hts ciX7.2.1 (hts _ (List.mem_append_right _ (List.mem_of_getElem? (i := 39) (by decide +kernel)))); exact ⟨(c9, i9), fun q hq => by cases hq; exact h9⟩
    | 7 => obtain ⟨c9, i9, h9⟩ := u_known (C := RX8) (T := TX8) (N := 4) (n := 4) hts ciX8.2.1 (hts _ (List.mem_append_right _ (List.mem_of_getElem? (i := 104) (by decide +kernel)))); exact ⟨(c9, i9), fun q hq => by cases hq; exact h9⟩
    | 8 => obtain ⟨c9, i9, h9⟩ := u_known (C := RX9) (T := TX9) (N := 2) (n := 2) hts ciX9.2.1 (hts _ (List.mem_append_right _ (List.mem_of_getElem? (i := 197) (by decide +kernel)))); exact ⟨(c9, i9), fun q hq => by cases hq; exact h9⟩
    | 9 => obtain ⟨c9, i9, h9⟩ := u_known (C := RX10) (T := TX10) (N := 10) (n := 10) hts ciX10.2.1 (hts _ (List.mem_append_right _ (List.mem_of_getElem? (i := 45) (by decide +kernel)))); exact ⟨(c9, i9), fun q hq => by cases hq; exact h9⟩
    | 10 => obtain ⟨c9, i9, h9⟩ := u_known (C := RX11) (T := TX11) (N := 9) (n := 9) hts ciX11.2.1 (hts _ (List.mem_append_right _ (List.mem_of_getElem? (i := 31) (by decide +kernel)))); exact ⟨(c9, i9), fun q hq => by cases hq; exact h9⟩
    | 11 => obtain ⟨c9, i9, h9⟩ := u_known (C := RX12) (T := TX12) (N := 26) (n := 26) hts ciX12.2.1 (hts _ (List.mem_append_right _ (List.mem_of_getElem? (i := 1189) (by decide +kernel)))); exact ⟨(c9, i9), fun q hq => by cases hq; exact h9⟩
    | k + 12 => exact ⟨((Classical.choice ⟨(u_known (C := RX1) (T := TX1) (N := 2) (n := 2) hts ciX1.2.1 (hts _ (List.mem_append_right _ (List.mem_of_getElem? (i := 258) (by decide +kernel))))).choose⟩), fun _ => 0), fun q hq => by simp [vwCl] at hq⟩
  have h1 : ∀ t : Nat, ∃ cA : ClassId, t < 8 → ArrOfT s cA (atl.getD t .int) ∧ va_RA s cA (atl.getD t .int) := by
    intro t
    match t with
    | 0 => obtain ⟨c9, h9⟩ := ar_prim (ty := .byte) (hts _ (List.mem_append_right _ (List.mem_of_getElem? (i := 212) (by decide +kernel)))) (fun c9 h9 => h9); exact ⟨c9, fun _ => h9⟩
    | 1 => obtain ⟨c9, h9⟩ := ar_prim (ty := .int) (hts _ (List.mem_append_right _ (List.mem_of_getElem? (i := 86) (by decide +kernel)))) (fun c9 h9 => h9); exact ⟨c9, fun _ => h9⟩
    | 2 => obtain ⟨c9, h9⟩ := ar_prim (ty := .long) (hts _ (List.mem_append_right _ (List.mem_of_getElem? (i := 87) (by decide +kernel)))) (fun c9 h9 => h9); exact ⟨c9, fun _ => h9⟩
    | 3 => obtain ⟨c9, h9⟩ := ar_prim (ty := .boolean) (hts _ (List.mem_append_right _ (List.mem_of_getElem? (i := 1273) (by decide +kernel)))) (fun c9 h9 => h9); exact ⟨c9, fun _ => h9⟩
    | 4 => obtain ⟨c9, h9⟩ := ar_obj (C := "TreeQueries$Path") (hts _ (List.mem_append_right _ (List.mem_of_getElem? (i := 96) (by decide +kernel)))); exact ⟨c9, fun _ => h9⟩
    | 5 => obtain ⟨c9, h9⟩ := ar_obj (C := "TreeQueries$Query") (hts _ (List.mem_append_right _ (List.mem_of_getElem? (i := 89) (by decide +kernel)))); exact ⟨c9, fun _ => h9⟩
    | 6 => obtain ⟨c9, h9⟩ := ar_obj (C := "TreeQueries$State") (hts _ (List.mem_append_right _ (List.mem_of_getElem? (i := 183) (by decide +kernel)))); exact ⟨c9, fun _ => h9⟩
    | 7 => obtain ⟨c9, h9⟩ := ar_obj (C := "TreeQueries$Step") (hts _ (List.mem_append_right _ (List.mem_of_getElem? (i := 103) (by decide +kernel)))); exact ⟨c9, fun _ => h9⟩
    | t + 8 => exact ⟨((Classical.choice ⟨(u_known (C := RX1) (T := TX1) (N := 2) (n := 2) hts ciX1.2.1 (hts _ (List.mem_append_right _ (List.mem_of_getElem? (i := 258) (by decide +kernel))))).choose⟩)), fun z => absurd z (by omega)⟩
  obtain ⟨f, hf⟩ := Classical.axiomOfChoice h0
  obtain ⟨E, hE⟩ := Classical.axiomOfChoice h1
  refine ⟨(fun k => (f k).1, fun k => (f k).2), E, fun k q hq => hf k q hq, fun k q hk => ?_⟩
  match k with
  | 0 => cases hk; exact hE 0 (by decide)
  | 1 => cases hk; exact hE 1 (by decide)
  | 2 => cases hk; exact hE 2 (by decide)
  | 3 => cases hk; exact hE 3 (by decide)
  | 4 => cases hk; exact hE 4 (by decide)
  | 5 => cases hk; exact hE 5 (by decide)
  | 6 => cases hk; exact hE 6 (by decide)
  | 7 => cases hk; exact hE 7 (by decide)
  | k + 8 => exact absurd hk (by simp [tysE])
def h00 (n : Nat) : AH := (fun _ => none, fun _ _ => 0, fun _ _ => 0, fun _ _ => none, some n)
theorem rel00 {D : va_G} {E : Nat → ClassId} {n : Nat} {H : Heap} : RelH D E n (h00 n) H := ⟨[], fun a => ⟨fun h => absurd h List.not_mem_nil, fun h => absurd h (by show ¬ (none : Option AK).isSome = true; exact nofun)⟩, fun k q h => by simp [va_pl] at h, ⟨fun i j p q h => by simp [va_pl] at h, fun k q h => by simp [va_pl] at h⟩⟩
theorem nc_of {s : State} {b : Nat} (hgv : (Jvm.Cond.and given_1 narrow_1).before #[Value.ref b] s = true) : Nc9 s := by
  have hs := flat_of_before _ hgv
  exact List.forall_mem_cons.mpr ⟨va_Nc.of (hs _ (List.mem_of_getElem? (i := 23) (by decide +kernel))), List.forall_mem_cons.mpr ⟨va_Nc.of (hs _ (List.mem_of_getElem? (i := 24) (by decide +kernel))), List.forall_mem_cons.mpr ⟨va_Nc.of (hs _ (List.mem_of_getElem? (i := 25) (by decide +kernel))), List.forall_mem_cons.mpr ⟨va_Nc.of (hs _ (List.mem_of_getElem? (i := 39) (by decide +kernel))), List.forall_mem_cons.mpr ⟨va_Nc.of (hs _ (List.mem_of_getElem? (i := 54) (by decide +kernel))), fun _ h9 => absurd h9 List.not_mem_nil⟩⟩⟩⟩⟩
