/-! the same judgement with a fact of the first state carried along -/
def AP (Pp : State → Prop) (γ : GG) (M : MD) (d kc ks pc : Nat) (ls : List (Nat × AV)) (st : List AV) (h : AH) (Q : AR → AH → Prop) : Prop :=
  ∀ (p : Program) (l : Launch) (e : Env) (R : Room) (s : State) (m : MethodId) (args : Array Value) (below : List Frame) (meth : Method) (c : Code) (D : va_G) (E : Nat → ClassId) (Zn : Prop) (mc ms : Nat) (H : Heap) (locs : List Loc) (cells slots : Nat) (lsM : Array Slot),
    Pp s → Fx γ M d p l R s m meth c D E Zn mc ms → Mv γ M kc ks ls h s H locs cells slots lsM D E Zn mc ms → W p l e R s m args below meth c H locs cells slots (vx_MQ below (QcO γ D E mc Zn Q) (XcO γ D E Q) args s mc ms (fun q => γ.1 ≤ q)) (F0 m pc lsM (st.map cV))
theorem AP.of {Pp : State → Prop} {γ : GG} {M : MD} {d kc ks pc : Nat} {ls : List (Nat × AV)} {st : List AV} {h : AH} {Q : AR → AH → Prop} (k : AW γ M d kc ks pc ls st h Q) : AP Pp γ M d kc ks pc ls st h Q := by
  intro p l e R s m args below meth c D E Zn mc ms H locs cells slots lsM N F V
  exact k p l e R s m args below meth c D E Zn mc ms H locs cells slots lsM F V
theorem ap_eq {Pp : State → Prop} {γ : GG} {M : MD} {d kc ks pc : Nat} {ls : List (Nat × AV)} {st : List AV} {h : AH} {Q : AR → AH → Prop} {st' : List AV} (e : st = st') (k : AP Pp γ M d kc ks pc ls st' h Q) : AP Pp γ M d kc ks pc ls st h Q := e ▸ k
theorem ap_gen {Pp : State → Prop} {γ : GG} {M : MD} {d kc ks pc : Nat} {ls : List (Nat × AV)} {st : List AV} {h : AH} {Q : AR → AH → Prop} {P : AH → Prop} (hP : P h) (k : ∀ H, P H → AP Pp γ M d kc ks pc ls st H Q) : AP Pp γ M d kc ks pc ls st h Q := k h hP
theorem ap_iconst {Pp : State → Prop} {γ : GG} {M : MD} {d kc ks pc : Nat} {ls : List (Nat × AV)} {st : List AV} {h : AH} {Q : AR → AH → Prop} {n : Int} (hd : decode M.2.1 pc = .ok (.iconst n, 1)) (k : AP Pp γ M d kc ks (pc + 1) ls (vi n :: st) h Q) : AP Pp γ M d kc ks pc ls st h Q := by
  intro p l e R s m args below meth c D E Zn mc ms H locs cells slots lsM N9 F V
  exact lv_iconst F.1 F.2.1 hd rfl (k p l e R s m args below meth c D E Zn mc ms H locs cells slots lsM N9 F V)
theorem ap_bipush {Pp : State → Prop} {γ : GG} {M : MD} {d kc ks pc : Nat} {ls : List (Nat × AV)} {st : List AV} {h : AH} {Q : AR → AH → Prop} {n : Int} (hd : decode M.2.1 pc = .ok (.bipush n, 2)) (hn : (Int8.ofInt n).toInt32 = Int32.ofInt n) (k : AP Pp γ M d kc ks (pc + 2) ls (vi n :: st) h Q) : AP Pp γ M d kc ks pc ls st h Q := by
  intro p l e R s m args below meth c D E Zn mc ms H locs cells slots lsM N9 F V
  exact lv_bipush F.1 F.2.1 hd hn (k p l e R s m args below meth c D E Zn mc ms H locs cells slots lsM N9 F V)
theorem ap_iload {Pp : State → Prop} {γ : GG} {M : MD} {d kc ks pc : Nat} {ls : List (Nat × AV)} {st : List AV} {h : AH} {Q : AR → AH → Prop} {i : Nat} {x : Int} (hd : decode M.2.1 pc = .ok (.iload i, 2)) (hi : (ls.find? (fun q => q.1 == i)).map (fun q => q.2) = some (vi x)) (k : AP Pp γ M d kc ks (pc + 2) ls ((vi x) :: st) h Q) : AP Pp γ M d kc ks pc ls st h Q := by
  intro p l e R s m args below meth c D E Zn mc ms H locs cells slots lsM N9 F V
  exact lv_iload F.1 F.2.1 hd (lc_get V.2.2.2.2.1 hi) (k p l e R s m args below meth c D E Zn mc ms H locs cells slots lsM N9 F V)
theorem ap_iload_n {Pp : State → Prop} {γ : GG} {M : MD} {d kc ks pc : Nat} {ls : List (Nat × AV)} {st : List AV} {h : AH} {Q : AR → AH → Prop} {k4 : Fin 4} {x : Int} (hd : decode M.2.1 pc = .ok (.iload_n k4, 1)) (hi : (ls.find? (fun q => q.1 == (k4 : Nat))).map (fun q => q.2) = some (vi x)) (k : AP Pp γ M d kc ks (pc + 1) ls ((vi x) :: st) h Q) : AP Pp γ M d kc ks pc ls st h Q := by
  intro p l e R s m args below meth c D E Zn mc ms H locs cells slots lsM N9 F V
  exact lv_iload_n F.1 F.2.1 hd rfl (lc_get V.2.2.2.2.1 hi) (k p l e R s m args below meth c D E Zn mc ms H locs cells slots lsM N9 F V)
theorem ap_aload {Pp : State → Prop} {γ : GG} {M : MD} {d kc ks pc : Nat} {ls : List (Nat × AV)} {st : List AV} {h : AH} {Q : AR → AH → Prop} {i : Nat} {x : Nat} (hd : decode M.2.1 pc = .ok (.aload i, 2)) (hi : (ls.find? (fun q => q.1 == i)).map (fun q => q.2) = some (vr (some x))) (k : AP Pp γ M d kc ks (pc + 2) ls ((vr (some x)) :: st) h Q) : AP Pp γ M d kc ks pc ls st h Q := by
  intro p l e R s m args below meth c D E Zn mc ms H locs cells slots lsM N9 F V
  exact lv_aload F.1 F.2.1 hd (lc_get V.2.2.2.2.1 hi) (k p l e R s m args below meth c D E Zn mc ms H locs cells slots lsM N9 F V)
theorem ap_aload_n {Pp : State → Prop} {γ : GG} {M : MD} {d kc ks pc : Nat} {ls : List (Nat × AV)} {st : List AV} {h : AH} {Q : AR → AH → Prop} {k4 : Fin 4} {x : Nat} (hd : decode M.2.1 pc = .ok (.aload_n k4, 1)) (hi : (ls.find? (fun q => q.1 == (k4 : Nat))).map (fun q => q.2) = some (vr (some x))) (k : AP Pp γ M d kc ks (pc + 1) ls ((vr (some x)) :: st) h Q) : AP Pp γ M d kc ks pc ls st h Q := by
  intro p l e R s m args below meth c D E Zn mc ms H locs cells slots lsM N9 F V
  exact lv_aload_n F.1 F.2.1 hd rfl (lc_get V.2.2.2.2.1 hi) (k p l e R s m args below meth c D E Zn mc ms H locs cells slots lsM N9 F V)
theorem ap_istore {Pp : State → Prop} {γ : GG} {M : MD} {d kc ks pc : Nat} {ls : List (Nat × AV)} {st : List AV} {h : AH} {Q : AR → AH → Prop} {i : Nat} {x : Int} {ls1 : List (Nat × AV)} (hd : decode M.2.1 pc = .ok (.istore i, 2)) (hn : i < M.2.2.1) (he : (i, (vi x)) :: ls.filter (fun q => !(q.1 == i) && !(q.1 + 1 == i && isL q.2)) = ls1) (k : AP Pp γ M d kc ks (pc + 2) ls1 st h Q) : AP Pp γ M d kc ks pc ls ((vi x) :: st) h Q := by
  intro p l e R s m args below meth c D E Zn mc ms H locs cells slots lsM N9 F V
  exact lv_istore F.1 F.2.1 hd V.2.2.2.2.1 hn (lc_set1 i (vi x)) (fun ls9 hl9 => by subst he; exact k p l e R s m args below meth c D E Zn mc ms H locs cells slots ls9 N9 F ⟨V.1, V.2.1, V.2.2.1, V.2.2.2.1, hl9, V.2.2.2.2.2⟩)
theorem ap_astore {Pp : State → Prop} {γ : GG} {M : MD} {d kc ks pc : Nat} {ls : List (Nat × AV)} {st : List AV} {h : AH} {Q : AR → AH → Prop} {i : Nat} {x : Nat} {ls1 : List (Nat × AV)} (hd : decode M.2.1 pc = .ok (.astore i, 2)) (hn : i < M.2.2.1) (he : (i, (vr (some x))) :: ls.filter (fun q => !(q.1 == i) && !(q.1 + 1 == i && isL q.2)) = ls1) (k : AP Pp γ M d kc ks (pc + 2) ls1 st h Q) : AP Pp γ M d kc ks pc ls ((vr (some x)) :: st) h Q := by
  intro p l e R s m args below meth c D E Zn mc ms H locs cells slots lsM N9 F V
  exact lv_astore F.1 F.2.1 hd V.2.2.2.2.1 hn (lc_set1 i (vr (some x))) (fun ls9 hl9 => by subst he; exact k p l e R s m args below meth c D E Zn mc ms H locs cells slots ls9 N9 F ⟨V.1, V.2.1, V.2.2.1, V.2.2.2.1, hl9, V.2.2.2.2.2⟩)
theorem ap_astore_n {Pp : State → Prop} {γ : GG} {M : MD} {d kc ks pc : Nat} {ls : List (Nat × AV)} {st : List AV} {h : AH} {Q : AR → AH → Prop} {k4 : Fin 4} {x : Nat} {ls1 : List (Nat × AV)} (hd : decode M.2.1 pc = .ok (.astore_n k4, 1)) (hn : (k4 : Nat) < M.2.2.1) (he : ((k4 : Nat), (vr (some x))) :: ls.filter (fun q => !(q.1 == (k4 : Nat)) && !(q.1 + 1 == (k4 : Nat) && isL q.2)) = ls1) (k : AP Pp γ M d kc ks (pc + 1) ls1 st h Q) : AP Pp γ M d kc ks pc ls ((vr (some x)) :: st) h Q := by
  intro p l e R s m args below meth c D E Zn mc ms H locs cells slots lsM N9 F V
  exact lv_astore_n F.1 F.2.1 hd rfl V.2.2.2.2.1 hn (lc_set1 (k4 : Nat) (vr (some x))) (fun ls9 hl9 => by subst he; exact k p l e R s m args below meth c D E Zn mc ms H locs cells slots ls9 N9 F ⟨V.1, V.2.1, V.2.2.1, V.2.2.2.1, hl9, V.2.2.2.2.2⟩)
theorem ap_iinc {Pp : State → Prop} {γ : GG} {M : MD} {d kc ks pc : Nat} {ls : List (Nat × AV)} {st : List AV} {h : AH} {Q : AR → AH → Prop} {i k9 : Nat} {n x : Int} {ls1 : List (Nat × AV)} (hd : decode M.2.1 pc = .ok (.iinc i n, 3)) (hk : ls[k9]? = some (i, vi x)) (hn : i < M.2.2.1) (he : (i, vi (x + n)) :: ls.filter (fun q => !(q.1 == i) && !(q.1 + 1 == i && isL q.2)) = ls1) (k : AP Pp γ M d kc ks (pc + 3) ls1 st h Q) : AP Pp γ M d kc ks pc ls st h Q := by
  intro p l e R s m args below meth c D E Zn mc ms H locs cells slots lsM N9 F V
  refine lv_iinc F.1 F.2.1 hd V.2.2.2.2.1 (k := k9) (x := Int32.ofInt x) (v := Int32.ofInt (x + n)) (by rw [List.getElem?_map, hk]; rfl) (Int32.ofInt_add x n).symm hn (lc_set1 i (vi (x + n))) (fun ls9 hl9 => by subst he; exact k p l e R s m args below meth c D E Zn mc ms H locs cells slots ls9 N9 F ⟨V.1, V.2.1, V.2.2.1, V.2.2.2.1, hl9, V.2.2.2.2.2⟩)
theorem ap_sub {Pp : State → Prop} {γ : GG} {M : MD} {d kc ks pc : Nat} {ls : List (Nat × AV)} {st : List AV} {h : AH} {Q : AR → AH → Prop} {ls1 : List (Nat × AV)} (ks9 : List Nat) (hs : ks9.filterMap (fun i => ls[i]?) = ls1) (k : AP Pp γ M d kc ks pc ls1 st h Q) : AP Pp γ M d kc ks pc ls st h Q := by
  intro p l e R s m args below meth c D E Zn mc ms H locs cells slots lsM N9 F V
  refine k p l e R s m args below meth c D E Zn mc ms H locs cells slots lsM N9 F ⟨V.1, V.2.1, V.2.2.1, V.2.2.2.1, lc_sub V.2.2.2.2.1 fun q hq => ?_, V.2.2.2.2.2⟩
  rw [← hs] at hq
  obtain ⟨i, -, hi⟩ := List.mem_filterMap.mp hq
  exact List.mem_of_getElem? hi
theorem ap_dup {Pp : State → Prop} {γ : GG} {M : MD} {d kc ks pc : Nat} {ls : List (Nat × AV)} {st : List AV} {h : AH} {Q : AR → AH → Prop} {v : AV} (hd : decode M.2.1 pc = .ok (.dup, 1)) (hv : isL v = false) (k : AP Pp γ M d kc ks (pc + 1) ls (v :: v :: st) h Q) : AP Pp γ M d kc ks pc ls (v :: st) h Q := by
  intro p l e R s m args below meth c D E Zn mc ms H locs cells slots lsM N9 F V
  exact lv_dup F.1 F.2.1 hd (lc_c1 hv) (k p l e R s m args below meth c D E Zn mc ms H locs cells slots lsM N9 F V)
theorem ap_iadd {Pp : State → Prop} {γ : GG} {M : MD} {d kc ks pc : Nat} {ls : List (Nat × AV)} {st : List AV} {h : AH} {Q : AR → AH → Prop} {a b : Int} (hd : decode M.2.1 pc = .ok (.iadd, 1)) (k : AP Pp γ M d kc ks (pc + 1) ls (vi (a + b) :: st) h Q) : AP Pp γ M d kc ks pc ls (vi b :: vi a :: st) h Q := by
  intro p l e R s m args below meth c D E Zn mc ms H locs cells slots lsM N9 F V
  refine lv_iadd F.1 F.2.1 hd ?_
  rw [← Int32.ofInt_add]
  exact k p l e R s m args below meth c D E Zn mc ms H locs cells slots lsM N9 F V
theorem ap_isub {Pp : State → Prop} {γ : GG} {M : MD} {d kc ks pc : Nat} {ls : List (Nat × AV)} {st : List AV} {h : AH} {Q : AR → AH → Prop} {a b : Int} (hd : decode M.2.1 pc = .ok (.isub, 1)) (k : AP Pp γ M d kc ks (pc + 1) ls (vi (a - b) :: st) h Q) : AP Pp γ M d kc ks pc ls (vi b :: vi a :: st) h Q := by
  intro p l e R s m args below meth c D E Zn mc ms H locs cells slots lsM N9 F V
  refine lv_isub F.1 F.2.1 hd ?_
  rw [← Int32.ofInt_sub]
  exact k p l e R s m args below meth c D E Zn mc ms H locs cells slots lsM N9 F V
theorem ap_iand {Pp : State → Prop} {γ : GG} {M : MD} {d kc ks pc : Nat} {ls : List (Nat × AV)} {st : List AV} {h : AH} {Q : AR → AH → Prop} {a b v : Int} (hd : decode M.2.1 pc = .ok (.iand, 1)) (hv : Int32.ofInt a &&& Int32.ofInt b = Int32.ofInt v) (k : AP Pp γ M d kc ks (pc + 1) ls (vi v :: st) h Q) : AP Pp γ M d kc ks pc ls (vi b :: vi a :: st) h Q := by
  intro p l e R s m args below meth c D E Zn mc ms H locs cells slots lsM N9 F V
  refine lv_iand F.1 F.2.1 hd ?_
  rw [hv]
  exact k p l e R s m args below meth c D E Zn mc ms H locs cells slots lsM N9 F V
theorem ap_i2l {Pp : State → Prop} {γ : GG} {M : MD} {d kc ks pc : Nat} {ls : List (Nat × AV)} {st : List AV} {h : AH} {Q : AR → AH → Prop} {a : Int} {v : Int64} (hd : decode M.2.1 pc = .ok (.i2l, 1)) (hv : (Int32.ofInt a).toInt64 = v) (k : AP Pp γ M d kc ks (pc + 1) ls (vl v :: st) h Q) : AP Pp γ M d kc ks pc ls (vi a :: st) h Q := by
  intro p l e R s m args below meth c D E Zn mc ms H locs cells slots lsM N9 F V
  exact lv_i2l F.1 F.2.1 hd hv (k p l e R s m args below meth c D E Zn mc ms H locs cells slots lsM N9 F V)
theorem ap_if_eq {Pp : State → Prop} {γ : GG} {M : MD} {d kc ks pc : Nat} {ls : List (Nat × AV)} {st : List AV} {h : AH} {Q : AR → AH → Prop} {a : Int} {off : Int} {tgt : Nat} (hd : decode M.2.1 pc = .ok (.ifCond .eq off, 3)) (ht : (pc : Int) + off = (tgt : Int)) (ha : -2147483648 ≤ a ∧ a ≤ 2147483647) (kt : a = 0 → AP Pp γ M d kc ks tgt ls st h Q) (kf : ¬ (a = 0) → AP Pp γ M d kc ks (pc + 3) ls st h Q) : AP Pp γ M d kc ks pc ls (vi a :: st) h Q := by
  intro p l e R s m args below meth c D E Zn mc ms H locs cells slots lsM N9 F V
  have hz : -2147483648 ≤ (0 : Int) ∧ (0 : Int) ≤ 2147483647 := by omega
  refine lv_if_eq F.1 F.2.1 hd ht (fun q => kt ?_ p l e R s m args below meth c D E Zn mc ms H locs cells slots lsM N9 F V) (fun q => kf ?_ p l e R s m args below meth c D E Zn mc ms H locs cells slots lsM N9 F V)
  all_goals (simp only [i32_z, i32_eq ha hz, i32_eq hz ha] at q; first | exact q | (intro z; exact q z) | omega)
theorem ap_if_ne {Pp : State → Prop} {γ : GG} {M : MD} {d kc ks pc : Nat} {ls : List (Nat × AV)} {st : List AV} {h : AH} {Q : AR → AH → Prop} {a : Int} {off : Int} {tgt : Nat} (hd : decode M.2.1 pc = .ok (.ifCond .ne off, 3)) (ht : (pc : Int) + off = (tgt : Int)) (ha : -2147483648 ≤ a ∧ a ≤ 2147483647) (kt : ¬ a = 0 → AP Pp γ M d kc ks tgt ls st h Q) (kf : ¬ (¬ a = 0) → AP Pp γ M d kc ks (pc + 3) ls st h Q) : AP Pp γ M d kc ks pc ls (vi a :: st) h Q := by
  intro p l e R s m args below meth c D E Zn mc ms H locs cells slots lsM N9 F V
  have hz : -2147483648 ≤ (0 : Int) ∧ (0 : Int) ≤ 2147483647 := by omega
  refine lv_if_ne F.1 F.2.1 hd ht (fun q => kt ?_ p l e R s m args below meth c D E Zn mc ms H locs cells slots lsM N9 F V) (fun q => kf ?_ p l e R s m args below meth c D E Zn mc ms H locs cells slots lsM N9 F V)
  all_goals (simp only [i32_z, i32_eq ha hz, i32_eq hz ha] at q; first | exact q | (intro z; exact q z) | omega)
theorem ap_ic_eq {Pp : State → Prop} {γ : GG} {M : MD} {d kc ks pc : Nat} {ls : List (Nat × AV)} {st : List AV} {h : AH} {Q : AR → AH → Prop} {a b : Int} {off : Int} {tgt : Nat} (hd : decode M.2.1 pc = .ok (.if_icmp .eq off, 3)) (ht : (pc : Int) + off = (tgt : Int)) (ha : -2147483648 ≤ a ∧ a ≤ 2147483647) (hb0 : -2147483648 ≤ b ∧ b ≤ 2147483647) (kt : a = b → AP Pp γ M d kc ks tgt ls st h Q) (kf : ¬ (a = b) → AP Pp γ M d kc ks (pc + 3) ls st h Q) : AP Pp γ M d kc ks pc ls (vi b :: vi a :: st) h Q := by
  intro p l e R s m args below meth c D E Zn mc ms H locs cells slots lsM N9 F V
  refine lv_icmp_eq F.1 F.2.1 hd ht (fun q => kt ?_ p l e R s m args below meth c D E Zn mc ms H locs cells slots lsM N9 F V) (fun q => kf ?_ p l e R s m args below meth c D E Zn mc ms H locs cells slots lsM N9 F V)
  all_goals (simp only [i32_eq ha hb0, i32_eq hb0 ha] at q; first | exact q | (intro z; exact q z) | omega)
theorem ap_ic_gt {Pp : State → Prop} {γ : GG} {M : MD} {d kc ks pc : Nat} {ls : List (Nat × AV)} {st : List AV} {h : AH} {Q : AR → AH → Prop} {a b : Int} {off : Int} {tgt : Nat} (hd : decode M.2.1 pc = .ok (.if_icmp .gt off, 3)) (ht : (pc : Int) + off = (tgt : Int)) (ha : -2147483648 ≤ a ∧ a ≤ 2147483647) (hb0 : -2147483648 ≤ b ∧ b ≤ 2147483647) (kt : b < a → AP Pp γ M d kc ks tgt ls st h Q) (kf : ¬ (b < a) → AP Pp γ M d kc ks (pc + 3) ls st h Q) : AP Pp γ M d kc ks pc ls (vi b :: vi a :: st) h Q := by
  intro p l e R s m args below meth c D E Zn mc ms H locs cells slots lsM N9 F V
  refine lv_icmp_gt F.1 F.2.1 hd ht (fun q => kt ?_ p l e R s m args below meth c D E Zn mc ms H locs cells slots lsM N9 F V) (fun q => kf ?_ p l e R s m args below meth c D E Zn mc ms H locs cells slots lsM N9 F V)
  all_goals (simp only [i32_lt ha hb0, i32_lt hb0 ha] at q; first | exact q | (intro z; exact q z) | omega)
theorem ap_goto {Pp : State → Prop} {γ : GG} {M : MD} {d kc ks pc : Nat} {ls : List (Nat × AV)} {st : List AV} {h : AH} {Q : AR → AH → Prop} {off : Int} {tgt : Nat} (hd : decode M.2.1 pc = .ok (.goto off, 3)) (ht : (pc : Int) + off = (tgt : Int)) (k : AP Pp γ M d kc ks tgt ls st h Q) : AP Pp γ M d kc ks pc ls st h Q := by
  intro p l e R s m args below meth c D E Zn mc ms H locs cells slots lsM N9 F V
  exact lv_goto F.1 F.2.1 hd ht (k p l e R s m args below meth c D E Zn mc ms H locs cells slots lsM N9 F V)
theorem ap_tableOut {Pp : State → Prop} {γ : GG} {M : MD} {d kc ks pc : Nat} {ls : List (Nat × AV)} {st : List AV} {h : AH} {Q : AR → AH → Prop} {dflt lo hi : Int} {offs : Array Int} {len : Nat} {a : Int} {tgt : Nat} (hd : decode M.2.1 pc = .ok (.tableswitch dflt lo hi offs, len)) (ha : -2147483648 ≤ a ∧ a ≤ 2147483647) (ho : a < lo ∨ hi < a) (ht : (pc : Int) + dflt = (tgt : Int)) (k : AP Pp γ M d kc ks tgt ls st h Q) : AP Pp γ M d kc ks pc ls (vi a :: st) h Q := by
  intro p l e R s m args below meth c D E Zn mc ms H locs cells slots lsM N9 F V
  exact lv_tableOut F.1 F.2.1 hd (by rw [i32_in ha]; exact ho) ht (k p l e R s m args below meth c D E Zn mc ms H locs cells slots lsM N9 F V)
theorem ap_tableIn {Pp : State → Prop} {γ : GG} {M : MD} {d kc ks pc : Nat} {ls : List (Nat × AV)} {st : List AV} {h : AH} {Q : AR → AH → Prop} {dflt lo hi : Int} {offs : Array Int} {len : Nat} {a off : Int} {tgt : Nat} (hd : decode M.2.1 pc = .ok (.tableswitch dflt lo hi offs, len)) (ha : -2147483648 ≤ a ∧ a ≤ 2147483647) (h1 : ¬ a < lo) (h2 : ¬ hi < a) (ho : offs[(a - lo).toNat]? = some off) (ht : (pc : Int) + off = (tgt : Int)) (k : AP Pp γ M d kc ks tgt ls st h Q) : AP Pp γ M d kc ks pc ls (vi a :: st) h Q := by
  intro p l e R s m args below meth c D E Zn mc ms H locs cells slots lsM N9 F V
  exact lv_tableIn F.1 F.2.1 hd (by rw [i32_in ha]; exact h1) (by rw [i32_in ha]; exact h2) (by rw [i32_in ha]; exact ho) ht (k p l e R s m args below meth c D E Zn mc ms H locs cells slots lsM N9 F V)
theorem ap_new {Pp : State → Prop} {γ : GG} {M : MD} {d kc ks pc : Nat} {ls : List (Nat × AV)} {st : List AV} {h : AH} {Q : AR → AH → Prop} {idx ci N : Nat} {C : String} {T : u_T} (hd : decode M.2.1 pc = .ok (.new idx, 3)) (hci : CI ci C T N) (hl9 : Cond.classLink M.1.cls idx C ∈ lw_tbl) (hi9 : Cond.instantiable C N ∈ lw_tbl) (hn9 : Cond.initialized C ∈ lw_tbl) (hty : ∀ k, k < N → fty ci k ≠ .float ∧ fty ci k ≠ .double) (hkc : 1 ≤ kc) (hks : N ≤ ks) (kk : ∀ q : Nat, kd h q = none → γ.1 ≤ q → (∀ n, nx h = some n → q = n) → AP Pp γ M d (kc - 1) (ks - N) (pc + 3) ls (vr (some q) :: st) (mk h q (.inl ci)) Q) : AP Pp γ M d kc ks pc ls st h Q := by
  intro p l e R s m args below meth c D E Zn mc ms H locs cells slots lsM N9 F V
  obtain ⟨hx, hb, hr, hml, hown, hlocks, hname, htab, htr, hG, hfr, hlo, hmc, hms, hK, hsz⟩ := id F
  obtain ⟨hc1, hc2, hR, hS, hl, hN⟩ := id V
  obtain ⟨L, h1, h2, h3⟩ := id hR
  have hts : ∀ w ∈ u_ws C T N, w.before args s = true := fun w hw => F.ts (hci.2.1 w hw) (okw_lay w hw)
  have hA : ∀ q, s.heap.size ≤ q → γ.1 ≤ q := fun q hq => Nat.le_trans hsz hq
  refine W_bound (fun hb9 => ?_)
  have hnx := nx_at hN hc1 hR hS hsz hb9
  have hKn := hK.1 ci _ hci.1
  refine W.newcK hx hb hown (F.ts hl9 rfl) (F.ts hi9 rfl) (F.ts hn9 rfl) rfl hd (by omega) (by omega) hKn.2.1 rfl (fun H1 kC hkC e1 z1 o1 => ?_)
  have hP1 : va_P D vwCl (([] ++ va_pl L (conc E h)) ++ [(H.size, .inr (ci, (List.range (nf ci)).map fun k => fv (fty ci k) 0 0 none))]) H1 := by
    refine va_P.app (h2.kept (fun k q hk9 => o1 q.1 (h2 k q hk9).lt)) (fun k q hk9 => ?_)
    have hz : k < 1 := (List.getElem?_eq_some_iff.mp hk9).1
    rw [show k = 0 by omega] at hk9
    cases hk9
    refine ⟨_, hci.1, (u_born (fty ci) hts (fun w hw => hw) hKn hkC e1 hci.2.2.1).to (fun j hj => ?_)⟩
    rw [vp_V, List.getD_eq_getElem?_getD, List.getElem?_map, List.getElem?_range (by rw [ci_nf hci]; exact hj)]
    exact (fv_0 _ (hty j hj)).symm
  have hD1 := h3.push (e := .inr (ci, (List.range (nf ci)).map fun k => fv (fty ci k) 0 0 none)) h2 rfl (hA _ hS.1)
  obtain ⟨hkn, hR1⟩ := RelH.push (k := .inl ci) h1 h2 hD1 hP1 (by rw [conc_obj (by rw [kd_mk, if_pos rfl]), mk_objE])
  exact kk H.size hkn (hA _ hS.1) hnx p l e R s m args below meth c D E Zn mc ms H1 locs (cells + 1) (slots + N) lsM N9 F ⟨by omega, by omega, hR1, ⟨Nat.le_trans hS.1 (by omega), fun x g1 g2 => (o1 x (Nat.lt_of_lt_of_le g1 hS.1)).trans (hS.2.1 x g1 g2), hS.2.2⟩, hl, hN.mk hkc hnx⟩
theorem ap_newal {Pp : State → Prop} {γ : GG} {M : MD} {d kc ks pc : Nat} {ls : List (Nat × AV)} {st : List AV} {h : AH} {Q : AR → AH → Prop} {n : Nat} (hd : decode M.2.1 pc = .ok (.newarray .long, 2)) (hw : Cond.arrayClass .long ∈ lw_tbl) (hn : n ≤ 65536) (hkc : 1 ≤ kc) (hks : n ≤ ks) (kk : ∀ q : Nat, kd h q = none → γ.1 ≤ q → (∀ n, nx h = some n → q = n) → AP Pp γ M d (kc - 1) (ks - n) (pc + 2) ls (vr (some q) :: st) (mk h q (.inr (2, n))) Q) : AP Pp γ M d kc ks pc ls (vi (n : Int) :: st) h Q := by
  intro p l e R s m args below meth c D E Zn mc ms H locs cells slots lsM N9 F V
  obtain ⟨hx, hb, hr, hml, hown, hlocks, hname, htab, htr, hG, hfr, hlo, hmc, hms, hK, hsz⟩ := id F
  obtain ⟨hc1, hc2, hR, hS, hl, hN⟩ := id V
  obtain ⟨L, h1, h2, h3⟩ := id hR
  have hA : ∀ q, s.heap.size ≤ q → γ.1 ≤ q := fun q hq => Nat.le_trans hsz hq
  obtain ⟨g1, g2⟩ := i32_len hn
  refine W_bound (fun hb9 => ?_)
  have hnx := nx_at hN hc1 hR hS hsz hb9
  refine va_newaK (atype := .long) (N := n) hx hb (F.ts hw rfl) rfl hd rfl g1 g2 (by show n * 8 ≤ 536870912; omega) (by omega) (by omega) rfl (fun H1 cA e1 z1 o1 hAr hNm => ?_)
  have hcA : cA = E 2 := RA_inj (ty := .long) (U := s) hNm ((hK.2 2 _ (tysE_at (by decide))).2)
  subst hcA
  have hP1 : va_P D vwCl (([] ++ va_pl L (conc E h)) ++ [(H.size, .inl (E 2, (n, .inr (.inl fun _ => 0))))]) H1 := by
    refine va_P.app (h2.kept (fun k q hk9 => o1 q.1 (h2 k q hk9).lt)) (fun k q hk9 => ?_)
    have hz : k < 1 := (List.getElem?_eq_some_iff.mp hk9).1
    rw [show k = 0 by omega] at hk9
    cases hk9
    exact e1
  have hD1 := h3.push (e := .inl (E 2, (n, .inr (.inl fun _ => 0)))) h2 rfl (hA _ hS.1)
  obtain ⟨hkn, hR1⟩ := RelH.push (k := .inr (2, n)) h1 h2 hD1 hP1 (by rw [conc_arr (by rw [kd_mk, if_pos rfl])]; simp [arrE, gi_mk, gl_mk]; try rfl)
  exact kk H.size hkn (hA _ hS.1) hnx p l e R s m args below meth c D E Zn mc ms H1 locs (cells + 1) (slots + n) lsM N9 F ⟨by omega, by omega, hR1, ⟨Nat.le_trans hS.1 (by omega), fun x g1 g2 => (o1 x (Nat.lt_of_lt_of_le g1 hS.1)).trans (hS.2.1 x g1 g2), hS.2.2⟩, hl, hN.mk hkc hnx⟩
theorem ap_lald {Pp : State → Prop} {γ : GG} {M : MD} {d kc ks pc : Nat} {ls : List (Nat × AV)} {st : List AV} {h : AH} {Q : AR → AH → Prop} {a n : Nat} {j : Int} (hd : decode M.2.1 pc = .ok (.laload, 1)) (hk : kd h a = some (.inr (2, n))) (hj : 0 ≤ j ∧ j < n) (hn : n ≤ 2147483647) (kk : AP Pp γ M d kc ks (pc + 1) ls (vl (gl h a j) :: st) h Q) : AP Pp γ M d kc ks pc ls (vi j :: vr (some a) :: st) h Q := by
  intro p l e R s m args below meth c D E Zn mc ms H locs cells slots lsM N9 F V
  obtain ⟨hx, hb, hr, hml, hown, hlocks, hname, htab, htr, hG, hfr, hlo, hmc, hms, hK, hsz⟩ := id F
  obtain ⟨hc1, hc2, hR, hS, hl, hN⟩ := id V
  obtain ⟨L, q0, h1, h2, h3, hm, hq⟩ := hR.get hk
  rw [conc_arr hk] at hq
  obtain ⟨g1, g2⟩ := i32_clamp hj.1 hj.2 hn
  refine va_lald (f := fun j => gl h a j) hx hb hK h2 q0 2 hq (tysE_at (by decide)) g1 hd ?_
  rw [g2]
  exact kk p l e R s m args below meth c D E Zn mc ms H locs cells slots lsM N9 F V
theorem ap_last {Pp : State → Prop} {γ : GG} {M : MD} {d kc ks pc : Nat} {ls : List (Nat × AV)} {st : List AV} {h : AH} {Q : AR → AH → Prop} {a n : Nat} {j : Int} {z : Int64} (hd : decode M.2.1 pc = .ok (.lastore, 1)) (hk : kd h a = some (.inr (2, n))) (hj : 0 ≤ j ∧ j < n) (hn : n ≤ 2147483647) (kk : AP Pp γ M d kc ks (pc + 1) ls st (sl h a j z) Q) : AP Pp γ M d kc ks pc ls (vl z :: vi j :: vr (some a) :: st) h Q := by
  intro p l e R s m args below meth c D E Zn mc ms H locs cells slots lsM N9 F V
  obtain ⟨hx, hb, hr, hml, hown, hlocks, hname, htab, htr, hG, hfr, hlo, hmc, hms, hK, hsz⟩ := id F
  obtain ⟨hc1, hc2, hR, hS, hl, hN⟩ := id V
  obtain ⟨L, q0, h1, h2, h3, hm, hq⟩ := hR.get hk
  rw [conc_arr hk] at hq
  obtain ⟨g1, g2⟩ := i32_clamp hj.1 hj.2 hn
  refine va_last (f := fun j => gl h a j) hx hb hK h2 h3 hS q0 2 hq (tysE_at (by decide)) g1 hd (fun H1 locs1 hP1 hD1 hS1 => ?_)
  rw [← upd_l g2] at hP1 hD1
  exact kk p l e R s m args below meth c D E Zn mc ms H1 locs1 cells slots lsM N9 F ⟨hc1, hc2, RelH.puta (h' := sl h a j z) hk h1 h3 hm hq hP1 hD1 (fun b => rfl) rfl (fun b j9 hb9 => ⟨rfl, by rw [gl_sl, if_neg (fun z => hb9 z.1)], rfl⟩), hS1, hl, hN⟩
theorem ap_lcmp {Pp : State → Prop} {γ : GG} {M : MD} {d kc ks pc : Nat} {ls : List (Nat × AV)} {st : List AV} {h : AH} {Q : AR → AH → Prop} {a b : Int64} (hd : decode M.2.1 pc = .ok (.lcmp, 1)) (k0 : a = b → AP Pp γ M d kc ks (pc + 1) ls (vi 0 :: st) h Q) (k1 : ∀ z : Int, (z = 1 ∨ z = -1) → a ≠ b → AP Pp γ M d kc ks (pc + 1) ls (vi z :: st) h Q) : AP Pp γ M d kc ks pc ls (vl b :: vl a :: st) h Q := by
  intro p l e R s m args below meth c D E Zn mc ms H locs cells slots lsM N9 F V
  obtain ⟨hx, hb, hr, hml, hown, hlocks, hname, htab, htr, hG, hfr, hlo, hmc, hms, hK, hsz⟩ := id F
  obtain ⟨hc1, hc2, hR, hS, hl, hN⟩ := id V
  refine W.lcmp hx hb hd ?_
  by_cases q1 : a = b
  · have e8 : lg_cmp a b = Int32.ofInt 0 := by rw [q1]; simp [lg_cmp]
    rw [e8]
    exact k0 q1 p l e R s m args below meth c D E Zn mc ms H locs cells slots lsM N9 F V
  · by_cases q2 : b < a
    · have e8 : lg_cmp a b = Int32.ofInt 1 := by simp [lg_cmp, q2]
      rw [e8]
      exact k1 1 (Or.inl rfl) q1 p l e R s m args below meth c D E Zn mc ms H locs cells slots lsM N9 F V
    · have e8 : lg_cmp a b = Int32.ofInt (-1) := by simp [lg_cmp, q1, q2]
      rw [e8]
      exact k1 (-1) (Or.inr rfl) q1 p l e R s m args below meth c D E Zn mc ms H locs cells slots lsM N9 F V
theorem ap_run {Pp : State → Prop} {γ : GG} {M : MD} {d kc ks pc : Nat} {ls : List (Nat × AV)} {st : List AV} {h : AH} {Q : AR → AH → Prop} {M' : MD} {d' kc' ks' : Nat} {Q' : AR → AH → Prop} {p : Program} {l : Launch} {e : Env} {R : Room} {s : State} {m : MethodId} {args : Array Value} {below : List Frame} {meth : Method} {c : Code} {D : va_G} {E : Nat → ClassId} {Zn : Prop} {mc ms : Nat} {H : Heap} {locs : List Loc} {cells slots : Nat} {lsM : Array Slot} {st0 : List Value} {a9 : Array Value}
    (N9 : Pp s) (F : Fx γ M d p l R s m meth c D E Zn mc ms) (V : Mv γ M kc ks ls h s H locs cells slots lsM D E Zn mc ms) (ht0 : M.2.2.2.2 = []) (h1 : kc' ≤ kc) (h2 : ks' ≤ ks)
    (hrun : NX γ h H.size 0 False → vx_Run p l e R s m args below meth c H locs cells slots kc' ks' (F0 m pc lsM st0) (st.map cV) (QcO γ D E kc' (nx h = none) Q' a9) (XcO γ D E Q') (fun q => γ.1 ≤ q))
    (kk : ∀ (v : Option AV) (h' : AH), Q' (.inl v) h' → AP Pp γ M d (kc - kc') (ks - ks') (pc + 3) ls (v.toList ++ st) h' Q) (kx : ∀ (X : String) (h' : AH), Q' (.inr X) h' → Q (.inr X) h') :
    W p l e R s m args below meth c H locs cells slots (vx_MQ below (QcO γ D E mc Zn Q) (XcO γ D E Q) args s mc ms (fun q => γ.1 ≤ q)) (F0 m pc lsM st0) := by
  obtain ⟨hx, hb, hr, hml, hown, hlocks, hname, htab, htr, hG, hfr, hlo, hmc, hms, hK, hsz⟩ := id F
  obtain ⟨hc1, hc2, hR, hS, hl, hN⟩ := id V
  intro T hT X
  have hb9 : H.size ≤ s.heap.size + cells := by rw [← hT]; exact X.heapSize
  have hN9 : NX γ h H.size 0 False := ⟨fun n hn => ⟨(hN.1 n hn).1, by have := (hN.1 n hn).2; omega⟩, fun z => z.elim⟩
  rcases hrun hN9 T hT X with ⟨v, st₀, t, T', L, h0, X', hL, e1, e2, ⟨v', h', ev, hq, hR', hF, hN'⟩, go⟩ | ⟨q, st₀, t, T', L, X9, ce, h0, X', hL, e1, e2, ⟨h', hq, hR', hF, hN'⟩, hce, hcv, hcl, go⟩
  · obtain ⟨k1, k2, k3⟩ := vx_keep (A0 := fun q => γ.1 ≤ q) (A1 := fun q => γ.1 ≤ q) h0 e1 hS (fun _ _ z => z) (fun _ z => z) hL hF
    have ev' : v = v'.map cV := by cases ev; rfl
    have hNN : NX γ h' (s.heap.size + mc) (kc - kc') Zn := by
      refine ⟨fun n' hn' => ⟨(hN'.1 n' hn').1, ?_⟩, fun z => hN'.2 (hN.2 z)⟩
      cases hx : nx h with
      | none => rw [hN'.2 hx] at hn'; cases hn'
      | some n =>
        have q1 := (hN'.1 n' hn').2
        have q2 := (hN.1 n hx).2
        have q3 := nx_at hN hc1 hR hS hsz hb9 n hx
        rw [h0] at q1
        omega
    have K := kk v' h' hq p l e R s m args below meth c D E Zn mc ms T'.heap (locs ++ L) (cells + kc') (slots + ks') lsM N9 F ⟨by omega, by omega, by rw [e1]; exact hR', k3, hl, hNN⟩ T' rfl X'
    obtain ⟨t2, a1, b1⟩ := K
    refine ⟨t2, go t2 ?_, b1⟩
    have es : v.toList ++ st.map cV = (v'.toList ++ st).map cV := by
      rw [ev', List.map_append]
      cases v' <;> rfl
    show Steps p.tables e below (T'.setTop (F0 m (pc + 3) lsM (v.toList ++ st.map cV))) t2
    rw [es]
    exact a1
  · obtain ⟨k1, k2, k3⟩ := vx_keep (A0 := fun q => γ.1 ≤ q) (A1 := fun q => γ.1 ≤ q) h0 e1 hS (fun _ _ z => z) (fun _ z => z) hL hF
    have hout : ∀ x ∈ c.exceptionTable.toList, covers x pc = false := by
      intro x hx
      rw [htab, ht0] at hx
      cases hx
    have K := vx_out (ls := lsM) (rest := st.map cV) (below := below) (args := args) (l := l) (p := p) (e := e) (R := R) (Qc := QcO γ D E mc Zn Q) (XC := XcO γ D E Q) (free := fun q => γ.1 ≤ q) (locs := locs ++ L) (cells := cells + kc') (slots := slots + ks') (mc := mc) (ms := ms) hout hlocks (by rw [e1]; exact hce) hcv hcl (fun t9 ht9 hal => ⟨h', kx _ _ hq, by rw [ht9, e1]; exact hR', k3.F ht9, hN'⟩) k3.2.2 (by omega) (by omega) T' rfl X'
    obtain ⟨t2, a1, b1⟩ := K
    exact ⟨t2, go.trans a1, b1⟩
theorem ap_invV {Pp : State → Prop} {γ : GG} {M : MD} {d kc ks pc : Nat} {ls : List (Nat × AV)} {st : List AV} {h : AH} {Q : AR → AH → Prop} {M' : MD} {d' kc' ks' n idx a : Nat} {as as' : List AV} {Q' : AR → AH → Prop} (hd : decode M.2.1 pc = .ok (.invokevirtual idx, 3)) (hm : mV M' n) (hlk : Cond.methodLink M.1.cls idx M'.1 ∈ lw_tbl) (ht0 : M.2.2.2.2 = [])
    (hC : Call γ M' d' kc' ks' (vr (some a) :: as) h Q') (ho : isO h a M'.1.cls) (has : as' = as.reverse) (hn : as.length = n) (hd' : d' + 1 ≤ d) (h1 : kc' ≤ kc) (h2 : ks' ≤ ks) (hst : st.length ≤ 4)
    (kk : ∀ (v : Option AV) (h' : AH), Q' (.inl v) h' → AP Pp γ M d (kc - kc') (ks - ks') (pc + 3) ls (v.toList ++ st) h' Q) (kx : ∀ (X : String) (h' : AH), Q' (.inr X) h' → Q (.inr X) h') : AP Pp γ M d kc ks pc ls (as' ++ vr (some a) :: st) h Q := by
  intro p l e R s m args below meth c D E Zn mc ms H locs cells slots lsM N9 F V
  obtain ⟨hx, hb, hr, hml, hown, hlocks, hname, htab, htr, hG, hfr, hlo, hmc, hms, hK, hsz⟩ := id F
  obtain ⟨hc1, hc2, hR, hS, hl, hN⟩ := id V
  subst has
  have hss := st_sum st
  have hrv : (List.map cV (as.reverse ++ vr (some a) :: st)) = (as.map cV).reverse ++ .ref a :: st.map cV := by
    rw [List.map_append, List.map_reverse]; rfl
  rw [hrv]
  obtain ⟨ci, hk9, T9, N99, hc9⟩ := ho
  obtain ⟨L, q0, g1, g2, g3, g4, g5⟩ := hR.get hk9
  rw [conc_obj hk9] at g5
  refine ap_run (M' := M') (d' := d') N9 F V ht0 h1 h2 (fun hN9 => vx_runV (As := as.map cV) (Ts := []) (n := n) ⟨hx, hb, hml, hown, fun w hw => by cases hw⟩ (hC l D E htr) ⟨call_B F hm.1 hlk hd', F.ts hm.2.1 rfl, F.ts hm.2.2 rfl⟩ ⟨PcO.blind, va_recv hK g2 hc9 g5, ?_⟩ rfl (by rw [List.length_map]; exact hn) hl.1 rfl (lv_room (by omega)) hd ⟨by omega, by omega⟩) kk kx
  exact PcO.of (as := vr (some a) :: as) hG hK hR hS hsz hN9
theorem ap_invI {Pp : State → Prop} {γ : GG} {M : MD} {d kc ks pc : Nat} {ls : List (Nat × AV)} {st : List AV} {h : AH} {Q : AR → AH → Prop} {M' : MD} {d' kc' ks' n idx a : Nat} {as as' : List AV} {Q' : AR → AH → Prop} (hd : decode M.2.1 pc = .ok (.invokespecial idx, 3)) (hm : mI M' n) (hlk : Cond.methodLink M.1.cls idx M'.1 ∈ lw_tbl) (ht0 : M.2.2.2.2 = [])
    (hC : Call γ M' d' kc' ks' (vr (some a) :: as) h Q') (has : as' = as.reverse) (hn : as.length = n) (hd' : d' + 1 ≤ d) (h1 : kc' ≤ kc) (h2 : ks' ≤ ks) (hst : st.length ≤ 4)
    (kk : ∀ (v : Option AV) (h' : AH), Q' (.inl v) h' → AP Pp γ M d (kc - kc') (ks - ks') (pc + 3) ls (v.toList ++ st) h' Q) (kx : ∀ (X : String) (h' : AH), Q' (.inr X) h' → Q (.inr X) h') : AP Pp γ M d kc ks pc ls (as' ++ vr (some a) :: st) h Q := by
  intro p l e R s m args below meth c D E Zn mc ms H locs cells slots lsM N9 F V
  obtain ⟨hx, hb, hr, hml, hown, hlocks, hname, htab, htr, hG, hfr, hlo, hmc, hms, hK, hsz⟩ := id F
  obtain ⟨hc1, hc2, hR, hS, hl, hN⟩ := id V
  subst has
  have hss := st_sum st
  have hrv : (List.map cV (as.reverse ++ vr (some a) :: st)) = (as.map cV).reverse ++ .ref a :: st.map cV := by
    rw [List.map_append, List.map_reverse]; rfl
  rw [hrv]
  have hB := call_B (args := args) (kc' := kc') (ks' := ks') F hm.1 hlk hd'
  rw [hm.2.2.2] at hB
  refine ap_run (M' := M') (d' := d') N9 F V ht0 h1 h2 (fun hN9 => vx_runI (As := as.map cV) (Ts := []) (n := n) ⟨hx, hb, hml, hown, fun w hw => by cases hw⟩ (hC l D E htr) ⟨hB, hm.2.2.1, F.ts hm.2.1 rfl⟩ ⟨PcO.blind, ?_⟩ rfl (by rw [List.length_map]; exact hn) hl.1 rfl (lv_room (by omega)) hd ⟨by omega, by omega⟩) kk kx
  exact PcO.of (as := vr (some a) :: as) hG hK hR hS hsz hN9
theorem ap_invV_e {Pp : State → Prop} {γ : GG} {M : MD} {d kc ks pc : Nat} {ls : List (Nat × AV)} {st : List AV} {h : AH} {Q : AR → AH → Prop} {M' : MD} {d' kc' ks' n idx : Nat} {a : Nat} {as st0 : List AV} {v : AV} {P : AH → Prop} (hd : decode M.2.1 pc = .ok (.invokevirtual idx, 3)) (hm : mV M' n) (hlk : Cond.methodLink M.1.cls idx M'.1 ∈ lw_tbl) (ht0 : M.2.2.2.2 = []) (hC : Call γ M' d' kc' ks' (vr (some a) :: as) h (rE v P)) (ho : isO h a M'.1.cls) (has : st0 = as.reverse ++ vr (some a) :: st) (hn : as.length = n) (hd' : d' + 1 ≤ d) (h1' : kc' ≤ kc) (h2' : ks' ≤ ks) (hst : st.length ≤ 4) (kk : ∀ h1 : AH, P h1 → AP Pp γ M d (kc - kc') (ks - ks') (pc + 3) ls (v :: st) h1 Q) : AP Pp γ M d kc ks pc ls st0 h Q := by
  rw [has]
  exact ap_invV hd hm hlk ht0 hC ho rfl hn hd' h1' h2' hst (fun v9 h' hq => by obtain ⟨e, hp⟩ := hq; cases e; exact kk _ hp) (fun X h' hq => by obtain ⟨e, -⟩ := hq; cases e)
theorem ap_invV_r {Pp : State → Prop} {γ : GG} {M : MD} {d kc ks pc : Nat} {ls : List (Nat × AV)} {st : List AV} {h : AH} {Q : AR → AH → Prop} {M' : MD} {d' kc' ks' n idx : Nat} {a : Nat} {as st0 : List AV} {v : AV} {h1 : AH} (hd : decode M.2.1 pc = .ok (.invokevirtual idx, 3)) (hm : mV M' n) (hlk : Cond.methodLink M.1.cls idx M'.1 ∈ lw_tbl) (ht0 : M.2.2.2.2 = []) (hC : Call γ M' d' kc' ks' (vr (some a) :: as) h (rV v h1)) (ho : isO h a M'.1.cls) (has : st0 = as.reverse ++ vr (some a) :: st) (hn : as.length = n) (hd' : d' + 1 ≤ d) (h1' : kc' ≤ kc) (h2' : ks' ≤ ks) (hst : st.length ≤ 4) (kk : AP Pp γ M d (kc - kc') (ks - ks') (pc + 3) ls (v :: st) h1 Q) : AP Pp γ M d kc ks pc ls st0 h Q := by
  rw [has]
  exact ap_invV hd hm hlk ht0 hC ho rfl hn hd' h1' h2' hst (fun v9 h' hq => by obtain ⟨e, rfl⟩ := hq; cases e; exact kk) (fun X h' hq => by obtain ⟨e, -⟩ := hq; cases e)
theorem ap_invI_f {Pp : State → Prop} {γ : GG} {M : MD} {d kc ks pc : Nat} {ls : List (Nat × AV)} {st : List AV} {h : AH} {Q : AR → AH → Prop} {M' : MD} {d' kc' ks' n idx : Nat} {a : Nat} {as st0 : List AV} {P : AH → Prop} (hd : decode M.2.1 pc = .ok (.invokespecial idx, 3)) (hm : mI M' n) (hlk : Cond.methodLink M.1.cls idx M'.1 ∈ lw_tbl) (ht0 : M.2.2.2.2 = []) (hC : Call γ M' d' kc' ks' (vr (some a) :: as) h (rF P)) (has : st0 = as.reverse ++ vr (some a) :: st) (hn : as.length = n) (hd' : d' + 1 ≤ d) (h1' : kc' ≤ kc) (h2' : ks' ≤ ks) (hst : st.length ≤ 4) (kk : ∀ h1 : AH, P h1 → AP Pp γ M d (kc - kc') (ks - ks') (pc + 3) ls (st) h1 Q) : AP Pp γ M d kc ks pc ls st0 h Q := by
  rw [has]
  exact ap_invI hd hm hlk ht0 hC rfl hn hd' h1' h2' hst (fun v9 h' hq => by obtain ⟨e, hp⟩ := hq; cases e; exact kk _ hp) (fun X h' hq => by obtain ⟨e, -⟩ := hq; cases e)
/-! the law's calls of the class with its exceptions caught -/
def nc9 : List (String × String) := [(xnIA, xnIO), (xnIS, xnIO), (xnUO, xnIO), (xnIS, xnIA), (xnIA, xnIS)]
def Nc9 (s : State) : Prop := ∀ q ∈ nc9, va_Nc q.1 q.2 s
theorem Nc9.moved {u U : State} (hvm : u.vm.Alike U.vm) (h : Nc9 u) : Nc9 U := fun q hq => (h q hq).moved hvm
def CallH (γ : GG) (M : MD) (d kc ks : Nat) (as : List AV) (h : AH) (Q : AR → AH → Prop) : Prop :=
  ∀ (l : Launch) (D : va_G) (E : Nat → ClassId), l.stackTraces = false → vx_Met l M.1 [mCode M] (rmO d kc ks) (fun v U => Nc9 U ∧ PcO γ D E as h v U) (QcO γ D E kc (nx h = none) Q) (XcO γ D E Q) kc ks (fun q => γ.1 ≤ q)
def mSH (M : MD) (n : Nat) : Prop := M.2.2.2.2 ≠ [] ∧ plainName M.1.cls = true ∧ M.1.cls ≠ "java/lang/invoke/MethodHandle" ∧ M.1.cls ≠ "java/lang/invoke/VarHandle" ∧ (parseMethodDescriptor M.1.desc).map (fun d => d.parameters.length) = some n ∧ Cond.codeWith M.1 M.2.1 M.2.2.1 M.2.2.2.1 M.2.2.2.2 ∈ lw_tbl ∧ Cond.initialized M.1.cls ∈ lw_tbl ∧ M.2.2.1 ≤ 21 ∧ Cond.static M.1 ∈ lw_tbl
theorem callH_words {M' : MD} {n : Nat} (hm : mSH M' n) : mCode M' = .codeWith M'.1 M'.2.1 M'.2.2.1 M'.2.2.2.1 M'.2.2.2.2 := by
  unfold mCode
  rw [if_neg hm.1]
theorem PcH.of {γ : GG} {D : va_G} {E : Nat → ClassId} {as : List AV} {h : AH} {s : State} {H : Heap} {locs : List Loc} (hC : Nc9 s) (hG : Gb γ s) (hK : va_K D vwCl (tysE E) s) (hR : RelH D E γ.1 h H) (hS : va_S (fun q => γ.1 ≤ q) s.heap H locs) (hsz : γ.1 ≤ s.heap.size) (hN9 : NX γ h H.size 0 False) : ∀ U : State, U.heap = H → s.WarmedH U.vm → Nc9 U ∧ PcO γ D E as h (as.map cV).toArray U := fun U hU hW => ⟨hC.moved hW.alike, PcO.of hG hK hR hS hsz hN9 U hU hW⟩
theorem PcH.blind {γ : GG} {D : va_G} {E : Nat → ClassId} {as : List AV} {h : AH} : FrameBlind (fun v U => Nc9 U ∧ PcO γ D E as h v U) := by
  intro a U g mk q
  exact ⟨Nc9.moved (u := U) (U := U.calling g mk a) (Vm.Alike.refl U.vm) q.1, PcO.blind a U g mk q.2⟩
theorem CallH.of {γ : GG} {M : MD} {d kc ks : Nat} {ls : List (Nat × AV)} {h : AH} {Q : AR → AH → Prop} {n : Nat} {as : List AV} (hm : mSH M n) (hlen : (lg_sl (as.map cV)).length ≤ M.2.2.1) (hls : lv_args 0 (as.map cV) = ls.map lc) (k : AP Nc9 γ M d kc ks 0 ls [] h Q) : CallH γ M d kc ks as h Q := by
  intro l D E htr
  refine vx_ofWH (cc := M.2.1) (maxL := M.2.2.1) (ret := M.2.2.2.1) (hh := M.2.2.2.2) (ws' := []) hm.2.1 (by rw [callH_words hm]) ?_
  intro p e s m args below meth c s₁ B hml hv
  obtain ⟨hNc, rfl, hG, hK, hR, hsz, hN9⟩ := hv
  have hl := lv_entry (as.map cV) (n := M.2.2.1) hlen
  rw [lg_entry_eq]
  rw [hls] at hl
  have hw9 : (Cond.codeWith M.1 M.2.1 M.2.2.1 M.2.2.2.1 M.2.2.2.2).before (as.map cV).toArray s = true := hG.1.use hm.2.2.2.2.2.1 rfl
  exact k p l e _ s m _ below meth c D E (nx h = none) kc ks s.heap [] 0 0 _ hNc ⟨B.exec, B.bytes, B.returns, hml, findClass_of_methodNamed B.named, B.notSynchronized, (name_of_methodNamed B.named B.method).1, vx_table (x := M.1) B hw9, htr, hG, Nat.le_refl d, Nat.le_refl (40 * d), Nat.le_refl kc, Nat.le_refl ks, hK, hsz⟩ ⟨Nat.le_of_eq (Nat.zero_add kc), Nat.le_of_eq (Nat.zero_add ks), hR, va_S.rf, hl, ⟨fun n hn => ⟨(hN9.1 n hn).1, by have := (hN9.1 n hn).2; omega⟩, fun z => z⟩⟩
theorem ap_invSH {Pp : State → Prop} {γ : GG} {M : MD} {d kc ks pc : Nat} {ls : List (Nat × AV)} {st : List AV} {h : AH} {Q : AR → AH → Prop} {M' : MD} {d' kc' ks' n idx : Nat} {as as' : List AV} {v : AV} {P : AH → Prop} (hPN : ∀ s, Pp s → Nc9 s) (hd : decode M.2.1 pc = .ok (.invokestatic idx, 3)) (hm : mSH M' n) (hlk : Cond.methodLink M.1.cls idx M'.1 ∈ lw_tbl) (ht0 : M.2.2.2.2 = [])
    (hC : CallH γ M' d' kc' ks' as h (rE v P)) (has : as' = as.reverse ++ st) (hn : as.length = n) (hd' : d' + 1 ≤ d) (h1 : kc' ≤ kc) (h2 : ks' ≤ ks) (hst : st.length ≤ 4)
    (kk : ∀ h' : AH, P h' → AP Pp γ M d (kc - kc') (ks - ks') (pc + 3) ls (v :: st) h' Q) : AP Pp γ M d kc ks pc ls as' h Q := by
  intro p l e R s m args below meth c D E Zn mc ms H locs cells slots lsM N9 F V
  obtain ⟨hx, hb, hr, hml, hown, hlocks, hname, htab, htr, hG, hfr, hlo, hmc, hms, hK, hsz⟩ := id F
  obtain ⟨hc1, hc2, hR, hS, hl, hN⟩ := id V
  subst has
  have hss := st_sum st
  rw [List.map_append, List.map_reverse]
  refine ap_run (M' := M') (d' := d') (Q' := rE v P) N9 F V ht0 h1 h2 (fun hN9 => vx_runSX (hh := M'.2.2.2.2) (bytes := M'.2.1) (maxL := M'.2.2.1) (ret := M'.2.2.2.1) (As := as.map cV) (Ts := []) (n := n) ⟨hx, hb, hml, hown, fun w hw => by cases hw⟩ (hC l D E htr) ⟨⟨rfl, rfl, by show d' + 1 ≤ _; omega, by show 8 + (_ + 11) + 40 * d' ≤ _; have := hm.2.2.2.2.2.2.2.1; omega, ?_, ?_⟩, F.ts hm.2.2.2.2.2.1 rfl, F.ts hm.2.2.2.2.2.2.1 rfl, ⟨hm.2.2.1, hm.2.2.2.1⟩, fun sig h9 => ?_, F.ts hlk rfl, F.ts hm.2.2.2.2.2.2.2.2 rfl⟩ ⟨PcH.blind, ?_⟩ rfl (by rw [List.length_map]; exact hn) hl.1 rfl (lv_room (by omega)) hd ⟨by omega, by omega⟩) (fun v9 h' hq => by obtain ⟨e9, hp⟩ := hq; cases e9; exact kk _ hp) (fun X h' hq => by obtain ⟨e9, -⟩ := hq; cases e9)
  · intro w hw a' U hW
    rw [List.mem_singleton.mp hw, callH_words hm]
    exact (hG.1.warm hW).use hm.2.2.2.2.2.1 rfl
  · rw [callH_words hm]
    exact List.mem_cons_self
  · have h2 := hm.2.2.2.2.1
    rw [h9] at h2
    exact (Option.some.inj h2).symm
  · exact PcH.of (as := as) (hPN s N9) hG hK hR hS hsz hN9
/-- where a thrown exception goes: the handler that the table names first -/
def Hd9 (M : MD) (pc : Nat) (X : String) (hp : Nat) : Prop := ∃ (pre : List ExceptionTableEntry) (x : ExceptionTableEntry) (suf : List ExceptionTableEntry) (nm : String), tableOf M.2.2.2.2 = pre ++ x :: suf ∧ (∀ z ∈ pre, covers z pc = false ∨ (z.catchType ≠ 0 ∧ ∃ n9 : String, Cond.classLink M.1.cls z.catchType n9 ∈ lw_tbl ∧ (X, n9) ∈ nc9)) ∧ covers x pc = true ∧ x.catchType ≠ 0 ∧ Cond.classLink M.1.cls x.catchType nm ∈ lw_tbl ∧ Cond.castable X nm ∈ lw_tbl ∧ x.handlerPc = hp
theorem ap_invVC {γ : GG} {M : MD} {d kc ks pc : Nat} {ls : List (Nat × AV)} {st : List AV} {h : AH} {Q : AR → AH → Prop} {M' : MD} {d' kc' ks' n idx a : Nat} {as as' : List AV} {Q' : AR → AH → Prop} (hd : decode M.2.1 pc = .ok (.invokevirtual idx, 3)) (hm : mV M' n) (hlk : Cond.methodLink M.1.cls idx M'.1 ∈ lw_tbl)
    (hC : Call γ M' d' kc' ks' (vr (some a) :: as) h Q') (ho : isO h a M'.1.cls) (has : as' = as.reverse ++ vr (some a) :: st) (hn : as.length = n) (hd' : d' + 1 ≤ d) (h1 : kc' ≤ kc) (h2 : ks' ≤ ks) (hst : st.length ≤ 4)
    (kk : ∀ (v : Option AV) (h' : AH), Q' (.inl v) h' → AW γ M d (kc - kc') (ks - ks') (pc + 3) ls (v.toList ++ st) h' Q) (kx : ∀ (X : String) (h' : AH), Q' (.inr X) h' → ∃ hp : Nat, Hd9 M pc X hp ∧ ∀ q : Nat, AW γ M d (kc - kc') (ks - ks') hp ls [vr (some q)] h' Q) : AP Nc9 γ M d kc ks pc ls as' h Q := by
  intro p l e R s m args below meth c D E Zn mc ms H locs cells slots lsM N9 F V
  obtain ⟨hx, hb, hr, hml, hown, hlocks, hname, htab, htr, hG, hfr, hlo, hmc, hms, hK, hsz⟩ := id F
  obtain ⟨hc1, hc2, hR, hS, hl, hN⟩ := id V
  subst has
  have hss := st_sum st
  have hrv : (List.map cV (as.reverse ++ vr (some a) :: st)) = (as.map cV).reverse ++ .ref a :: st.map cV := by
    rw [List.map_append, List.map_reverse]; rfl
  rw [hrv]
  obtain ⟨ci, hk9, T9, N10, hc9⟩ := ho
  obtain ⟨L0, q0, g1, g2, g3, g4, g5⟩ := hR.get hk9
  rw [conc_obj hk9] at g5
  intro T hT X
  have hb9 : H.size ≤ s.heap.size + cells := by rw [← hT]; exact X.heapSize
  have hN9 : NX γ h H.size 0 False := ⟨fun n hn => ⟨(hN.1 n hn).1, by have := (hN.1 n hn).2; omega⟩, fun z => z.elim⟩
  have hrun := vx_runV (p := p) (l := l) (e := e) (R := R) (c := c) (s := s) (args := args) (below := below) (meth := meth) (g := F0 m pc lsM ((as.map cV).reverse ++ .ref a :: st.map cV)) (locs := locs) (cells := cells) (slots := slots) (As := as.map cV) (rest := st.map cV) (Ts := []) (n := n) ⟨hx, hb, hml, hown, fun w hw => by cases hw⟩ (hC l D E htr) ⟨call_B F hm.1 hlk hd', F.ts hm.2.1 rfl, F.ts hm.2.2 rfl⟩ ⟨PcO.blind, va_recv hK g2 hc9 g5, PcO.of (as := vr (some a) :: as) hG hK hR hS hsz hN9⟩ rfl (by rw [List.length_map]; exact hn) hl.1 rfl (lv_room (by omega)) hd ⟨by omega, by omega⟩
  rcases hrun T hT X with ⟨v, st₀, t, T', L, h0, X', hL, e1, e2, ⟨v', h', ev, hq, hR', hF, hN'⟩, go⟩ | ⟨q, st₀, t, T', L, X9, ce, h0, X', hL, e1, e2, ⟨h', hq, hR', hF, hN'⟩, hce, hcv, hcl, go⟩
  · obtain ⟨k1, k2, k3⟩ := vx_keep (A0 := fun q => γ.1 ≤ q) (A1 := fun q => γ.1 ≤ q) h0 e1 hS (fun _ _ z => z) (fun _ z => z) hL hF
    have ev' : v = v'.map cV := by cases ev; rfl
    have hNN : NX γ h' (s.heap.size + mc) (kc - kc') Zn := by
      refine ⟨fun n' hn' => ⟨(hN'.1 n' hn').1, ?_⟩, fun z => hN'.2 (hN.2 z)⟩
      cases hx : nx h with
      | none => rw [hN'.2 hx] at hn'; cases hn'
      | some n =>
        have q1 := (hN'.1 n' hn').2
        have q2 := (hN.1 n hx).2
        have q3 := nx_at hN hc1 hR hS hsz hb9 n hx
        rw [h0] at q1
        omega
    have K := kk v' h' hq p l e R s m args below meth c D E Zn mc ms T'.heap (locs ++ L) (cells + kc') (slots + ks') lsM F ⟨by omega, by omega, by rw [e1]; exact hR', k3, hl, hNN⟩ T' rfl X'
    obtain ⟨t2, a1, b1⟩ := K
    refine ⟨t2, go t2 ?_, b1⟩
    have es : v.toList ++ st.map cV = (v'.toList ++ st).map cV := by
      rw [ev', List.map_append]
      cases v' <;> rfl
    show Steps p.tables e below (T'.setTop (F0 m (pc + 3) lsM (v.toList ++ st.map cV))) t2
    rw [es]
    exact a1
  · obtain ⟨k1, k2, k3⟩ := vx_keep (A0 := fun q => γ.1 ≤ q) (A1 := fun q => γ.1 ≤ q) h0 e1 hS (fun _ _ z => z) (fun _ z => z) hL hF
    obtain ⟨hp, ⟨pre, x, suf, nm, w1, w2, w3, w4, w5, w6, rfl⟩, hk⟩ := kx X9 h' hq
    have hNN : NX γ h' (s.heap.size + mc) (kc - kc') Zn := ⟨fun n' hn' => absurd hn' (by rw [hN']; exact nofun), fun _ => hN'⟩
    have K := vx_catch (ls := lsM) (rest := st.map cV) (below := below) (args := args) (l := l) (p := p) (e := e) (R := R) (locs := locs ++ L) (cells := cells + kc') (slots := slots + ks') (pc := pc) hown pre x suf (by rw [htab]; exact w1) (fun z hz => by
      rcases w2 z hz with g | ⟨g, n9, g2, g3⟩
      · exact Or.inl g
      · exact Or.inr ⟨g, n9, F.ts g2 rfl, N9 _ g3⟩) w3 w4 (F.ts w5 rfl) (F.ts w6 rfl) (by rw [e1]; exact hce) hcv hcl (hk q p l e R s m args below meth c D E Zn mc ms T'.heap (locs ++ L) (cells + kc') (slots + ks') lsM F ⟨by omega, by omega, by rw [e1]; exact hR', k3, hl, hNN⟩) T' rfl X'
    obtain ⟨t2, a1, b1⟩ := K
    exact ⟨t2, go.trans a1, b1⟩
