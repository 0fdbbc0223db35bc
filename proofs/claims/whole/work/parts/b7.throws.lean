/-! ===== the words of the throws ===== -/
theorem mem_all9 {L T : List Cond} (ix : List Nat) (h : ix.map (fun i => T[i]?) = L.map some) : ∀ w ∈ L, w ∈ T := by
  intro w hw
  have : some w ∈ ix.map (fun i => T[i]?) := by rw [h]; exact List.mem_map.mpr ⟨w, hw, rfl⟩
  obtain ⟨i, -, hi⟩ := List.mem_map.mp this
  exact List.mem_of_getElem? hi
def xnIO : String := "java/lang/IndexOutOfBoundsException"
theorem atIO : ∀ w ∈ vx_atS RX11 274 xnIO ["java/lang/RuntimeException", "java/lang/Exception"], w ∈ tables_1 := mem_all9 [13, 709, 718, 723, 726, 728, 710, 711, 36, 37, 712, 717, 724, 744, 699, 745, 701, 746, 703, 713, 715, 705, 740, 741, 743, 705, 731, 732, 733, 734, 691, 734, 735, 736, 737, 693, 737, 738, 739, 740, 695, 730, 688, 689, 696, 697, 698, 700, 702, 704, 708, 707, 706] (by decide +kernel)
theorem akIO : ∀ w ∈ vx_atS RX11 274 xnIO ["java/lang/RuntimeException", "java/lang/Exception"], okw w = true := by decide +kernel
theorem twIO (is : Nat) : tW RX11 270 is 274 xnIO := ⟨by decide +kernel, List.mem_append_right _ (List.mem_of_getElem? (i := 687) (by decide +kernel)), List.mem_append_right _ (List.mem_of_getElem? (i := 16) (by decide +kernel)), fun w hw => ⟨List.mem_append_right _ (atIO w hw), akIO w hw⟩, by decide +kernel⟩
def xnIA : String := "java/lang/IllegalArgumentException"
theorem atIA : ∀ w ∈ vx_atS RX11 229 xnIA ["java/lang/RuntimeException", "java/lang/Exception"], w ∈ tables_1 := mem_all9 [13, 709, 718, 723, 726, 728, 710, 711, 36, 37, 712, 717, 724, 744, 699, 745, 701, 746, 703, 713, 715, 705, 740, 741, 743, 705, 770, 771, 772, 734, 691, 734, 735, 736, 737, 693, 737, 738, 739, 740, 695, 769, 760, 761, 762, 720, 763, 764, 765, 766, 708, 707, 767] (by decide +kernel)
theorem akIA : ∀ w ∈ vx_atS RX11 229 xnIA ["java/lang/RuntimeException", "java/lang/Exception"], okw w = true := by decide +kernel
theorem twIA (is : Nat) : tW RX11 225 is 229 xnIA := ⟨by decide +kernel, List.mem_append_right _ (List.mem_of_getElem? (i := 759) (by decide +kernel)), List.mem_append_right _ (List.mem_of_getElem? (i := 17) (by decide +kernel)), fun w hw => ⟨List.mem_append_right _ (atIA w hw), akIA w hw⟩, by decide +kernel⟩
def xnIS : String := "java/lang/IllegalStateException"
theorem atIS : ∀ w ∈ vx_atS RX11 87 xnIS ["java/lang/RuntimeException", "java/lang/Exception"], w ∈ tables_1 := mem_all9 [13, 709, 718, 723, 726, 728, 710, 711, 36, 37, 712, 717, 724, 744, 699, 745, 701, 746, 703, 713, 715, 705, 740, 741, 743, 705, 786, 787, 788, 734, 691, 734, 735, 736, 737, 693, 737, 738, 739, 740, 695, 785, 776, 777, 778, 721, 779, 780, 781, 782, 708, 707, 783] (by decide +kernel)
theorem akIS : ∀ w ∈ vx_atS RX11 87 xnIS ["java/lang/RuntimeException", "java/lang/Exception"], okw w = true := by decide +kernel
theorem twIS (is : Nat) : tW RX11 83 is 87 xnIS := ⟨by decide +kernel, List.mem_append_right _ (List.mem_of_getElem? (i := 775) (by decide +kernel)), List.mem_append_right _ (List.mem_of_getElem? (i := 18) (by decide +kernel)), fun w hw => ⟨List.mem_append_right _ (atIS w hw), akIS w hw⟩, by decide +kernel⟩
def xnUO : String := "java/lang/UnsupportedOperationException"
theorem atUO : ∀ w ∈ vx_atS RX11 102 xnUO ["java/lang/RuntimeException", "java/lang/Exception"], w ∈ tables_1 := mem_all9 [13, 709, 718, 723, 726, 728, 710, 711, 36, 37, 712, 717, 724, 744, 699, 745, 701, 746, 703, 713, 715, 705, 740, 741, 743, 705, 850, 851, 852, 734, 691, 734, 735, 736, 737, 693, 737, 738, 739, 740, 695, 849, 840, 841, 842, 722, 843, 844, 845, 846, 708, 707, 847] (by decide +kernel)
theorem akUO : ∀ w ∈ vx_atS RX11 102 xnUO ["java/lang/RuntimeException", "java/lang/Exception"], okw w = true := by decide +kernel
theorem twUO (is : Nat) : tW RX11 98 is 102 xnUO := ⟨by decide +kernel, List.mem_append_right _ (List.mem_of_getElem? (i := 839) (by decide +kernel)), List.mem_append_right _ (List.mem_of_getElem? (i := 21) (by decide +kernel)), fun w hw => ⟨List.mem_append_right _ (atUO w hw), akUO w hw⟩, by decide +kernel⟩
