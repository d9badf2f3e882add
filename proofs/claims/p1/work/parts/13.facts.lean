/-! what the tables say is among the words of the Statement -/
set_option maxHeartbeats 400000 in
theorem mA {w : Cond} (i : Nat) (h : lwB[i]? = some w) : w ∈ lwA := List.mem_append_left _ (List.mem_of_getElem? h)
set_option maxHeartbeats 400000 in
theorem mem_p {big ws : List Cond} (ps : List Nat) (hp : ws = ps.filterMap (fun i => big[i]?)) : ∀ w ∈ ws, w ∈ big := by
  intro w hw
  rw [hp] at hw
  obtain ⟨i, -, hi⟩ := List.mem_filterMap.mp hw
  exact List.mem_of_getElem? hi
set_option maxHeartbeats 400000 in
theorem pickG_in : ∀ (gs : List Nat) (l : List Cond), ∀ w ∈ pickG gs l, w ∈ l
  | [], _ => fun w h => by cases h
  | g :: gs, l => fun w h => by
    unfold pickG at h
    split at h
    · cases h
    · rename_i c r e
      have hs : ∀ x ∈ c :: r, x ∈ l := fun x hx => List.mem_of_mem_drop (e ▸ hx)
      rcases List.mem_cons.mp h with rfl | h
      · exact hs _ List.mem_cons_self
      · exact hs _ (List.mem_cons_of_mem _ (pickG_in gs r w h))
set_option maxHeartbeats 400000 in
theorem lwB_in : ∀ w ∈ lwB, w ∈ lw_tbl := pickG_in _ _
set_option maxHeartbeats 400000 in
theorem at_in0 : ∀ w ∈ vx_atS RX9 69 "java/lang/IllegalArgumentException" ["java/lang/RuntimeException", "java/lang/Exception"], w ∈ lw_tbl := by decide +kernel
set_option maxHeartbeats 400000 in
theorem at_in1 : ∀ w ∈ vx_atS RX9 360 "java/lang/IndexOutOfBoundsException" ["java/lang/RuntimeException", "java/lang/Exception"], w ∈ lw_tbl := by decide +kernel
set_option maxHeartbeats 400000 in
theorem at_in2 : ∀ w ∈ vx_atS RX9 80 "java/lang/IllegalStateException" ["java/lang/RuntimeException", "java/lang/Exception"], w ∈ lw_tbl := by decide +kernel
set_option maxHeartbeats 400000 in
theorem at_in3 : ∀ w ∈ vx_atS RX9 435 "java/lang/ArithmeticException" ["java/lang/RuntimeException", "java/lang/Exception"], w ∈ lw_tbl := by decide +kernel
set_option maxHeartbeats 400000 in
theorem at_lw0 : ∀ w ∈ vx_atS RX9 69 "java/lang/IllegalArgumentException" ["java/lang/RuntimeException", "java/lang/Exception"], w ∈ lwA := fun w h => List.mem_append_right _ (List.mem_append_left _ (List.mem_append_left _ (List.mem_append_left _ (h))))
set_option maxHeartbeats 400000 in
theorem at_lw1 : ∀ w ∈ vx_atS RX9 360 "java/lang/IndexOutOfBoundsException" ["java/lang/RuntimeException", "java/lang/Exception"], w ∈ lwA := fun w h => List.mem_append_right _ (List.mem_append_left _ (List.mem_append_left _ (List.mem_append_right _ (h))))
set_option maxHeartbeats 400000 in
theorem at_lw2 : ∀ w ∈ vx_atS RX9 80 "java/lang/IllegalStateException" ["java/lang/RuntimeException", "java/lang/Exception"], w ∈ lwA := fun w h => List.mem_append_right _ (List.mem_append_left _ (List.mem_append_right _ (h)))
set_option maxHeartbeats 400000 in
theorem at_lw3 : ∀ w ∈ vx_atS RX9 435 "java/lang/ArithmeticException" ["java/lang/RuntimeException", "java/lang/Exception"], w ∈ lwA := fun w h => List.mem_append_right _ (List.mem_append_right _ (h))
set_option maxHeartbeats 400000 in
theorem lwA_in : ∀ w ∈ lwA, w ∈ lw_tbl := fun w h => (List.mem_append.mp h).elim (fun h => lwB_in w h) (fun h => (List.mem_append.mp h).elim (fun h => (List.mem_append.mp h).elim (fun h => (List.mem_append.mp h).elim (fun h => at_in0 w h) (fun h => at_in1 w h)) (fun h => at_in2 w h)) (fun h => at_in3 w h))
set_option maxHeartbeats 400000 in
theorem lwA_okw : ∀ w ∈ lwA, okw w = true := by
  have h : lwA.all okw = true := by decide +kernel
  exact fun w hw => List.all_eq_true.mp h w hw
set_option maxHeartbeats 400000 in
theorem inl_Jx35411 : ∀ w ∈ u_ws RJx35411 TJx35411 4, w ∈ lwA := fun w h => List.mem_append_left _ (mem_p (big := lwB) [657, 658, 659, 660] (by decide +kernel) w h)
set_option maxHeartbeats 400000 in
theorem inl_Jx4a65c : ∀ w ∈ u_ws RJx4a65c TJx4a65c 3, w ∈ lwA := fun w h => List.mem_append_left _ (mem_p (big := lwB) [82, 80, 81] (by decide +kernel) w h)
set_option maxHeartbeats 400000 in
theorem inl_X0 : ∀ w ∈ u_ws RX0 TX0 6, w ∈ lwA := fun w h => List.mem_append_left _ (mem_p (big := lwB) [98, 99, 100, 101, 102, 103] (by decide +kernel) w h)
set_option maxHeartbeats 400000 in
theorem inl_X2 : ∀ w ∈ u_ws RX2 TX2 15, w ∈ lwA := fun w h => List.mem_append_left _ (mem_p (big := lwB) [225, 226, 227, 228, 229, 230, 231, 232, 233, 234, 235, 236, 237, 238, 239] (by decide +kernel) w h)
set_option maxHeartbeats 400000 in
theorem inl_X3 : ∀ w ∈ u_ws RX3 TX3 6, w ∈ lwA := fun w h => List.mem_append_left _ (mem_p (big := lwB) [390, 391, 392, 393, 394, 395] (by decide +kernel) w h)
set_option maxHeartbeats 400000 in
theorem inl_X5 : ∀ w ∈ u_ws RX5 TX5 7, w ∈ lwA := fun w h => List.mem_append_left _ (mem_p (big := lwB) [119, 120, 121, 122, 123, 124, 125] (by decide +kernel) w h)
set_option maxHeartbeats 400000 in
theorem inl_X8 : ∀ w ∈ u_ws RX8 TX8 1, w ∈ lwA := fun w h => List.mem_append_left _ (mem_p (big := lwB) [136] (by decide +kernel) w h)
set_option maxHeartbeats 400000 in
theorem inl_X9 : ∀ w ∈ u_ws RX9 TX9 10, w ∈ lwA := fun w h => List.mem_append_left _ (mem_p (big := lwB) [147, 148, 149, 150, 151, 152, 153, 154, 155, 156] (by decide +kernel) w h)
set_option maxHeartbeats 400000 in
theorem inl_X11 : ∀ w ∈ u_ws RX11 TX11 6, w ∈ lwA := fun w h => List.mem_append_left _ (mem_p (big := lwB) [688, 689, 690, 691, 692, 693] (by decide +kernel) w h)
set_option maxHeartbeats 400000 in
theorem inl_X12 : ∀ w ∈ u_ws RX12 TX12 5, w ∈ lwA := fun w h => List.mem_append_left _ (mem_p (big := lwB) [785, 786, 787, 788, 789] (by decide +kernel) w h)
set_option maxHeartbeats 400000 in
theorem inl_X15 : ∀ w ∈ u_ws RX15 TX15 13, w ∈ lwA := fun w h => List.mem_append_left _ (mem_p (big := lwB) [606, 607, 608, 609, 610, 611, 612, 613, 614, 615, 616, 617, 618] (by decide +kernel) w h)
set_option maxHeartbeats 400000 in
theorem fT_0 : rFld (1, 25, 0, 0, 0, false) := ⟨RJx35411, "java/util/ArrayList$Itr", RJx35411, TJx35411, 4, tyJx35411, rfl, rfl, inl_Jx35411, by decide, mA 653 (by decide +kernel), Or.inl rfl, tyJx35411_ok, nmJx35411, (by first | exact trivial | exact rfl | exact Or.inl ⟨_, rfl⟩ | exact Or.inr ⟨_, rfl⟩), rfl, fun h => (by first | exact Or.inr rfl | exact Or.inl rfl | cases h)⟩
set_option maxHeartbeats 400000 in
theorem fT_1 : rFld (1, 1, 0, 3, 4, true) := ⟨RJx35411, "java/util/ArrayList$Itr", RJx35411, TJx35411, 4, tyJx35411, rfl, rfl, inl_Jx35411, by decide, mA 656 (by decide +kernel), Or.inl rfl, tyJx35411_ok, nmJx35411, (by first | exact trivial | exact rfl | exact Or.inl ⟨_, rfl⟩ | exact Or.inr ⟨_, rfl⟩), rfl, fun h => (by first | exact Or.inr rfl | exact Or.inl rfl | cases h)⟩
set_option maxHeartbeats 400000 in
theorem fT_2 : rFld (1, 13, 0, 1, 0, false) := ⟨RJx35411, "java/util/ArrayList$Itr", RJx35411, TJx35411, 4, tyJx35411, rfl, rfl, inl_Jx35411, by decide, mA 654 (by decide +kernel), Or.inl rfl, tyJx35411_ok, nmJx35411, (by first | exact trivial | exact rfl | exact Or.inl ⟨_, rfl⟩ | exact Or.inr ⟨_, rfl⟩), rfl, fun h => (by first | exact Or.inr rfl | exact Or.inl rfl | cases h)⟩
set_option maxHeartbeats 400000 in
theorem fT_3 : rFld (1, 17, 1, 0, 0, false) := ⟨RJx35411, "java/util/ArrayList", RJx4a65c, TJx4a65c, 3, tyJx4a65c, rfl, rfl, inl_Jx4a65c, by decide, mA 77 (by decide +kernel), Or.inr (mA 78 (by decide +kernel)), tyJx4a65c_ok, nmJx4a65c, (by first | exact trivial | exact rfl | exact Or.inl ⟨_, rfl⟩ | exact Or.inr ⟨_, rfl⟩), rfl, fun h => (by first | exact Or.inr rfl | exact Or.inl rfl | cases h)⟩
set_option maxHeartbeats 400000 in
theorem fT_4 : rFld (1, 22, 0, 2, 0, false) := ⟨RJx35411, "java/util/ArrayList$Itr", RJx35411, TJx35411, 4, tyJx35411, rfl, rfl, inl_Jx35411, by decide, mA 655 (by decide +kernel), Or.inl rfl, tyJx35411_ok, nmJx35411, (by first | exact trivial | exact rfl | exact Or.inl ⟨_, rfl⟩ | exact Or.inr ⟨_, rfl⟩), rfl, fun h => (by first | exact Or.inr rfl | exact Or.inl rfl | cases h)⟩
set_option maxHeartbeats 400000 in
theorem fT_5 : rFld (2, 48, 1, 2, 0, false) := ⟨RJx4a65c, "java/util/ArrayList", RJx4a65c, TJx4a65c, 3, tyJx4a65c, rfl, rfl, inl_Jx4a65c, by decide, mA 75 (by decide +kernel), Or.inl rfl, tyJx4a65c_ok, nmJx4a65c, (by first | exact trivial | exact rfl | exact Or.inl ⟨_, rfl⟩ | exact Or.inr ⟨_, rfl⟩), rfl, fun h => (by first | exact Or.inr rfl | exact Or.inl rfl | cases h)⟩
set_option maxHeartbeats 400000 in
theorem fT_6 : rFld (2, 63, 1, 0, 0, false) := ⟨RJx4a65c, "java/util/ArrayList", RJx4a65c, TJx4a65c, 3, tyJx4a65c, rfl, rfl, inl_Jx4a65c, by decide, mA 79 (by decide +kernel), Or.inr (mA 78 (by decide +kernel)), tyJx4a65c_ok, nmJx4a65c, (by first | exact trivial | exact rfl | exact Or.inl ⟨_, rfl⟩ | exact Or.inr ⟨_, rfl⟩), rfl, fun h => (by first | exact Or.inr rfl | exact Or.inl rfl | cases h)⟩
set_option maxHeartbeats 400000 in
theorem fT_7 : rFld (2, 9, 1, 1, 4, false) := ⟨RJx4a65c, "java/util/ArrayList", RJx4a65c, TJx4a65c, 3, tyJx4a65c, rfl, rfl, inl_Jx4a65c, by decide, mA 73 (by decide +kernel), Or.inl rfl, tyJx4a65c_ok, nmJx4a65c, (by first | exact trivial | exact rfl | exact Or.inl ⟨_, rfl⟩ | exact Or.inr ⟨_, rfl⟩), rfl, fun h => (by first | exact Or.inr rfl | exact Or.inl rfl | cases h)⟩
set_option maxHeartbeats 400000 in
theorem fT_8 : rFld (4, 7, 1, 0, 0, false) := ⟨RJxc12de, "java/util/AbstractList", RJx4a65c, TJx4a65c, 3, tyJx4a65c, rfl, rfl, inl_Jx4a65c, by decide, mA 76 (by decide +kernel), Or.inl rfl, tyJx4a65c_ok, nmJx4a65c, (by first | exact trivial | exact rfl | exact Or.inl ⟨_, rfl⟩ | exact Or.inr ⟨_, rfl⟩), rfl, fun h => (by first | exact Or.inr rfl | exact Or.inl rfl | cases h)⟩
set_option maxHeartbeats 400000 in
theorem fT_9 : rFld (6, 77, 4, 0, 3, true) := ⟨RX0, "Goalmouth$Event", RX3, TX3, 6, tyX3, rfl, rfl, inl_X3, by decide, mA 386 (by decide +kernel), Or.inl rfl, tyX3_ok, nmX3, (by first | exact trivial | exact rfl | exact Or.inl ⟨_, rfl⟩ | exact Or.inr ⟨_, rfl⟩), rfl, fun h => (by first | exact Or.inr rfl | exact Or.inl rfl | cases h)⟩
set_option maxHeartbeats 400000 in
theorem fT_10 : rFld (6, 25, 2, 3, 4, true) := ⟨RX0, "Goalmouth$Book", RX0, TX0, 6, tyX0, rfl, rfl, inl_X0, by decide, mA 95 (by decide +kernel), Or.inl rfl, tyX0_ok, nmX0, (by first | exact trivial | exact rfl | exact Or.inl ⟨_, rfl⟩ | exact Or.inr ⟨_, rfl⟩), rfl, fun h => (by first | exact Or.inr rfl | exact Or.inl rfl | cases h)⟩
set_option maxHeartbeats 400000 in
theorem fT_11 : rFld (6, 21, 2, 2, 4, true) := ⟨RX0, "Goalmouth$Book", RX0, TX0, 6, tyX0, rfl, rfl, inl_X0, by decide, mA 94 (by decide +kernel), Or.inl rfl, tyX0_ok, nmX0, (by first | exact trivial | exact rfl | exact Or.inl ⟨_, rfl⟩ | exact Or.inr ⟨_, rfl⟩), rfl, fun h => (by first | exact Or.inr rfl | exact Or.inl rfl | cases h)⟩
set_option maxHeartbeats 400000 in
theorem fT_12 : rFld (6, 12, 2, 0, 4, true) := ⟨RX0, "Goalmouth$Book", RX0, TX0, 6, tyX0, rfl, rfl, inl_X0, by decide, mA 91 (by decide +kernel), Or.inl rfl, tyX0_ok, nmX0, (by first | exact trivial | exact rfl | exact Or.inl ⟨_, rfl⟩ | exact Or.inr ⟨_, rfl⟩), rfl, fun h => (by first | exact Or.inr rfl | exact Or.inl rfl | cases h)⟩
set_option maxHeartbeats 400000 in
theorem fT_13 : rFld (6, 18, 2, 1, 4, true) := ⟨RX0, "Goalmouth$Book", RX0, TX0, 6, tyX0, rfl, rfl, inl_X0, by decide, mA 92 (by decide +kernel), Or.inl rfl, tyX0_ok, nmX0, (by first | exact trivial | exact rfl | exact Or.inl ⟨_, rfl⟩ | exact Or.inr ⟨_, rfl⟩), rfl, fun h => (by first | exact Or.inr rfl | exact Or.inl rfl | cases h)⟩
set_option maxHeartbeats 400000 in
theorem fT_14 : rFld (6, 28, 2, 4, 4, true) := ⟨RX0, "Goalmouth$Book", RX0, TX0, 6, tyX0, rfl, rfl, inl_X0, by decide, mA 96 (by decide +kernel), Or.inl rfl, tyX0_ok, nmX0, (by first | exact trivial | exact rfl | exact Or.inl ⟨_, rfl⟩ | exact Or.inr ⟨_, rfl⟩), rfl, fun h => (by first | exact Or.inr rfl | exact Or.inl rfl | cases h)⟩
set_option maxHeartbeats 400000 in
theorem fT_15 : rFld (6, 31, 2, 5, 4, true) := ⟨RX0, "Goalmouth$Book", RX0, TX0, 6, tyX0, rfl, rfl, inl_X0, by decide, mA 97 (by decide +kernel), Or.inl rfl, tyX0_ok, nmX0, (by first | exact trivial | exact rfl | exact Or.inl ⟨_, rfl⟩ | exact Or.inr ⟨_, rfl⟩), rfl, fun h => (by first | exact Or.inr rfl | exact Or.inl rfl | cases h)⟩
set_option maxHeartbeats 400000 in
theorem fT_16 : rFld (7, 7, 8, 3, 0, false) := ⟨RX11, "GoalmouthModel$Club", RX11, TX11, 6, tyX11, rfl, rfl, inl_X11, by decide, mA 685 (by decide +kernel), Or.inl rfl, tyX11_ok, nmX11, (by first | exact trivial | exact rfl | exact Or.inl ⟨_, rfl⟩ | exact Or.inr ⟨_, rfl⟩), rfl, fun h => (by first | exact Or.inr rfl | exact Or.inl rfl | cases h)⟩
set_option maxHeartbeats 400000 in
theorem fT_17 : rFld (7, 13, 8, 4, 0, false) := ⟨RX11, "GoalmouthModel$Club", RX11, TX11, 6, tyX11, rfl, rfl, inl_X11, by decide, mA 686 (by decide +kernel), Or.inl rfl, tyX11_ok, nmX11, (by first | exact trivial | exact rfl | exact Or.inl ⟨_, rfl⟩ | exact Or.inr ⟨_, rfl⟩), rfl, fun h => (by first | exact Or.inr rfl | exact Or.inl rfl | cases h)⟩
set_option maxHeartbeats 400000 in
theorem fT_18 : rFld (7, 16, 8, 5, 1, false) := ⟨RX11, "GoalmouthModel$Club", RX11, TX11, 6, tyX11, rfl, rfl, inl_X11, by decide, mA 687 (by decide +kernel), Or.inl rfl, tyX11_ok, nmX11, (by first | exact trivial | exact rfl | exact Or.inl ⟨_, rfl⟩ | exact Or.inr ⟨_, rfl⟩), rfl, fun h => (by first | exact Or.inr rfl | exact Or.inl rfl | cases h)⟩
set_option maxHeartbeats 400000 in
theorem fT_19 : rFld (7, 20, 8, 2, 0, false) := ⟨RX11, "GoalmouthModel$Club", RX11, TX11, 6, tyX11, rfl, rfl, inl_X11, by decide, mA 684 (by decide +kernel), Or.inl rfl, tyX11_ok, nmX11, (by first | exact trivial | exact rfl | exact Or.inl ⟨_, rfl⟩ | exact Or.inr ⟨_, rfl⟩), rfl, fun h => (by first | exact Or.inr rfl | exact Or.inl rfl | cases h)⟩
set_option maxHeartbeats 400000 in
theorem fT_20 : rFld (7, 23, 8, 0, 0, true) := ⟨RX11, "GoalmouthModel$Club", RX11, TX11, 6, tyX11, rfl, rfl, inl_X11, by decide, mA 682 (by decide +kernel), Or.inl rfl, tyX11_ok, nmX11, (by first | exact trivial | exact rfl | exact Or.inl ⟨_, rfl⟩ | exact Or.inr ⟨_, rfl⟩), rfl, fun h => (by first | exact Or.inr rfl | exact Or.inl rfl | cases h)⟩
set_option maxHeartbeats 400000 in
theorem fT_21 : rFld (7, 26, 8, 1, 0, true) := ⟨RX11, "GoalmouthModel$Club", RX11, TX11, 6, tyX11, rfl, rfl, inl_X11, by decide, mA 683 (by decide +kernel), Or.inl rfl, tyX11_ok, nmX11, (by first | exact trivial | exact rfl | exact Or.inl ⟨_, rfl⟩ | exact Or.inr ⟨_, rfl⟩), rfl, fun h => (by first | exact Or.inr rfl | exact Or.inl rfl | cases h)⟩
set_option maxHeartbeats 400000 in
theorem fT_22 : rFld (8, 10, 9, 4, 4, true) := ⟨RX12, "GoalmouthModel$Event", RX12, TX12, 5, tyX12, rfl, rfl, inl_X12, by decide, mA 784 (by decide +kernel), Or.inl rfl, tyX12_ok, nmX12, (by first | exact trivial | exact rfl | exact Or.inl ⟨_, rfl⟩ | exact Or.inr ⟨_, rfl⟩), rfl, fun h => (by first | exact Or.inr rfl | exact Or.inl rfl | cases h)⟩
set_option maxHeartbeats 400000 in
theorem fT_23 : rFld (8, 16, 9, 0, 2, true) := ⟨RX12, "GoalmouthModel$Event", RX12, TX12, 5, tyX12, rfl, rfl, inl_X12, by decide, mA 780 (by decide +kernel), Or.inl rfl, tyX12_ok, nmX12, (by first | exact trivial | exact rfl | exact Or.inl ⟨_, rfl⟩ | exact Or.inr ⟨_, rfl⟩), rfl, fun h => (by first | exact Or.inr rfl | exact Or.inl rfl | cases h)⟩
set_option maxHeartbeats 400000 in
theorem fT_24 : rFld (8, 20, 9, 1, 4, true) := ⟨RX12, "GoalmouthModel$Event", RX12, TX12, 5, tyX12, rfl, rfl, inl_X12, by decide, mA 781 (by decide +kernel), Or.inl rfl, tyX12_ok, nmX12, (by first | exact trivial | exact rfl | exact Or.inl ⟨_, rfl⟩ | exact Or.inr ⟨_, rfl⟩), rfl, fun h => (by first | exact Or.inr rfl | exact Or.inl rfl | cases h)⟩
set_option maxHeartbeats 400000 in
theorem fT_25 : rFld (8, 24, 9, 2, 0, true) := ⟨RX12, "GoalmouthModel$Event", RX12, TX12, 5, tyX12, rfl, rfl, inl_X12, by decide, mA 782 (by decide +kernel), Or.inl rfl, tyX12_ok, nmX12, (by first | exact trivial | exact rfl | exact Or.inl ⟨_, rfl⟩ | exact Or.inr ⟨_, rfl⟩), rfl, fun h => (by first | exact Or.inr rfl | exact Or.inl rfl | cases h)⟩
set_option maxHeartbeats 400000 in
theorem fT_26 : rFld (8, 28, 9, 3, 1, true) := ⟨RX12, "GoalmouthModel$Event", RX12, TX12, 5, tyX12, rfl, rfl, inl_X12, by decide, mA 783 (by decide +kernel), Or.inl rfl, tyX12_ok, nmX12, (by first | exact trivial | exact rfl | exact Or.inl ⟨_, rfl⟩ | exact Or.inr ⟨_, rfl⟩), rfl, fun h => (by first | exact Or.inr rfl | exact Or.inl rfl | cases h)⟩
set_option maxHeartbeats 400000 in
theorem fT_27 : rFld (9, 46, 10, 12, 4, false) := ⟨RX15, "GoalmouthModel", RX15, TX15, 13, tyX15, rfl, rfl, inl_X15, by decide, mA 605 (by decide +kernel), Or.inl rfl, tyX15_ok, nmX15, (by first | exact trivial | exact rfl | exact Or.inl ⟨_, rfl⟩ | exact Or.inr ⟨_, rfl⟩), rfl, fun h => (by first | exact Or.inr rfl | exact Or.inl rfl | cases h)⟩
set_option maxHeartbeats 400000 in
theorem fT_28 : rFld (9, 10, 10, 0, 4, true) := ⟨RX15, "GoalmouthModel", RX15, TX15, 13, tyX15, rfl, rfl, inl_X15, by decide, mA 593 (by decide +kernel), Or.inl rfl, tyX15_ok, nmX15, (by first | exact trivial | exact rfl | exact Or.inl ⟨_, rfl⟩ | exact Or.inr ⟨_, rfl⟩), rfl, fun h => (by first | exact Or.inr rfl | exact Or.inl rfl | cases h)⟩
set_option maxHeartbeats 400000 in
theorem fT_29 : rFld (9, 22, 10, 3, 4, true) := ⟨RX15, "GoalmouthModel", RX15, TX15, 13, tyX15, rfl, rfl, inl_X15, by decide, mA 596 (by decide +kernel), Or.inl rfl, tyX15_ok, nmX15, (by first | exact trivial | exact rfl | exact Or.inl ⟨_, rfl⟩ | exact Or.inr ⟨_, rfl⟩), rfl, fun h => (by first | exact Or.inr rfl | exact Or.inl rfl | cases h)⟩
set_option maxHeartbeats 400000 in
theorem fT_30 : rFld (9, 19, 10, 2, 4, true) := ⟨RX15, "GoalmouthModel", RX15, TX15, 13, tyX15, rfl, rfl, inl_X15, by decide, mA 595 (by decide +kernel), Or.inl rfl, tyX15_ok, nmX15, (by first | exact trivial | exact rfl | exact Or.inl ⟨_, rfl⟩ | exact Or.inr ⟨_, rfl⟩), rfl, fun h => (by first | exact Or.inr rfl | exact Or.inl rfl | cases h)⟩
set_option maxHeartbeats 400000 in
theorem fT_31 : rFld (9, 25, 10, 4, 4, true) := ⟨RX15, "GoalmouthModel", RX15, TX15, 13, tyX15, rfl, rfl, inl_X15, by decide, mA 597 (by decide +kernel), Or.inl rfl, tyX15_ok, nmX15, (by first | exact trivial | exact rfl | exact Or.inl ⟨_, rfl⟩ | exact Or.inr ⟨_, rfl⟩), rfl, fun h => (by first | exact Or.inr rfl | exact Or.inl rfl | cases h)⟩
set_option maxHeartbeats 400000 in
theorem fT_32 : rFld (9, 174, 10, 9, 0, false) := ⟨RX15, "GoalmouthModel", RX15, TX15, 13, tyX15, rfl, rfl, inl_X15, by decide, mA 602 (by decide +kernel), Or.inl rfl, tyX15_ok, nmX15, (by first | exact trivial | exact rfl | exact Or.inl ⟨_, rfl⟩ | exact Or.inr ⟨_, rfl⟩), rfl, fun h => (by first | exact Or.inr rfl | exact Or.inl rfl | cases h)⟩
set_option maxHeartbeats 400000 in
theorem fT_33 : rFld (9, 32, 10, 6, 4, true) := ⟨RX15, "GoalmouthModel", RX15, TX15, 13, tyX15, rfl, rfl, inl_X15, by decide, mA 599 (by decide +kernel), Or.inl rfl, tyX15_ok, nmX15, (by first | exact trivial | exact rfl | exact Or.inl ⟨_, rfl⟩ | exact Or.inr ⟨_, rfl⟩), rfl, fun h => (by first | exact Or.inr rfl | exact Or.inl rfl | cases h)⟩
set_option maxHeartbeats 400000 in
theorem fT_34 : rFld (9, 36, 10, 7, 4, true) := ⟨RX15, "GoalmouthModel", RX15, TX15, 13, tyX15, rfl, rfl, inl_X15, by decide, mA 600 (by decide +kernel), Or.inl rfl, tyX15_ok, nmX15, (by first | exact trivial | exact rfl | exact Or.inl ⟨_, rfl⟩ | exact Or.inr ⟨_, rfl⟩), rfl, fun h => (by first | exact Or.inr rfl | exact Or.inl rfl | cases h)⟩
set_option maxHeartbeats 400000 in
theorem fT_35 : rFld (9, 16, 10, 1, 4, true) := ⟨RX15, "GoalmouthModel", RX15, TX15, 13, tyX15, rfl, rfl, inl_X15, by decide, mA 594 (by decide +kernel), Or.inl rfl, tyX15_ok, nmX15, (by first | exact trivial | exact rfl | exact Or.inl ⟨_, rfl⟩ | exact Or.inr ⟨_, rfl⟩), rfl, fun h => (by first | exact Or.inr rfl | exact Or.inl rfl | cases h)⟩
set_option maxHeartbeats 400000 in
theorem fT_36 : rFld (9, 28, 10, 5, 4, true) := ⟨RX15, "GoalmouthModel", RX15, TX15, 13, tyX15, rfl, rfl, inl_X15, by decide, mA 598 (by decide +kernel), Or.inl rfl, tyX15_ok, nmX15, (by first | exact trivial | exact rfl | exact Or.inl ⟨_, rfl⟩ | exact Or.inr ⟨_, rfl⟩), rfl, fun h => (by first | exact Or.inr rfl | exact Or.inl rfl | cases h)⟩
set_option maxHeartbeats 400000 in
theorem fT_37 : rFld (9, 39, 10, 10, 0, false) := ⟨RX15, "GoalmouthModel", RX15, TX15, 13, tyX15, rfl, rfl, inl_X15, by decide, mA 603 (by decide +kernel), Or.inl rfl, tyX15_ok, nmX15, (by first | exact trivial | exact rfl | exact Or.inl ⟨_, rfl⟩ | exact Or.inr ⟨_, rfl⟩), rfl, fun h => (by first | exact Or.inr rfl | exact Or.inl rfl | cases h)⟩
set_option maxHeartbeats 400000 in
theorem fT_38 : rFld (9, 43, 10, 11, 0, false) := ⟨RX15, "GoalmouthModel", RX15, TX15, 13, tyX15, rfl, rfl, inl_X15, by decide, mA 604 (by decide +kernel), Or.inl rfl, tyX15_ok, nmX15, (by first | exact trivial | exact rfl | exact Or.inl ⟨_, rfl⟩ | exact Or.inr ⟨_, rfl⟩), rfl, fun h => (by first | exact Or.inr rfl | exact Or.inl rfl | cases h)⟩
set_option maxHeartbeats 400000 in
theorem fT_39 : rFld (9, 50, 10, 8, 0, false) := ⟨RX15, "GoalmouthModel", RX15, TX15, 13, tyX15, rfl, rfl, inl_X15, by decide, mA 601 (by decide +kernel), Or.inl rfl, tyX15_ok, nmX15, (by first | exact trivial | exact rfl | exact Or.inl ⟨_, rfl⟩ | exact Or.inr ⟨_, rfl⟩), rfl, fun h => (by first | exact Or.inr rfl | exact Or.inl rfl | cases h)⟩
set_option maxHeartbeats 400000 in
theorem fT_40 : rFld (10, 9, 3, 0, 0, true) := ⟨RX2, "Goalmouth$Club", RX2, TX2, 15, tyX2, rfl, rfl, inl_X2, by decide, mA 219 (by decide +kernel), Or.inl rfl, tyX2_ok, nmX2, (by first | exact trivial | exact rfl | exact Or.inl ⟨_, rfl⟩ | exact Or.inr ⟨_, rfl⟩), rfl, fun h => (by first | exact Or.inr rfl | exact Or.inl rfl | cases h)⟩
set_option maxHeartbeats 400000 in
theorem fT_41 : rFld (10, 15, 3, 3, 0, false) := ⟨RX2, "Goalmouth$Club", RX2, TX2, 15, tyX2, rfl, rfl, inl_X2, by decide, mA 223 (by decide +kernel), Or.inl rfl, tyX2_ok, nmX2, (by first | exact trivial | exact rfl | exact Or.inl ⟨_, rfl⟩ | exact Or.inr ⟨_, rfl⟩), rfl, fun h => (by first | exact Or.inr rfl | exact Or.inl rfl | cases h)⟩
set_option maxHeartbeats 400000 in
theorem fT_42 : rFld (10, 18, 3, 1, 0, true) := ⟨RX2, "Goalmouth$Club", RX2, TX2, 15, tyX2, rfl, rfl, inl_X2, by decide, mA 221 (by decide +kernel), Or.inl rfl, tyX2_ok, nmX2, (by first | exact trivial | exact rfl | exact Or.inl ⟨_, rfl⟩ | exact Or.inr ⟨_, rfl⟩), rfl, fun h => (by first | exact Or.inr rfl | exact Or.inl rfl | cases h)⟩
set_option maxHeartbeats 400000 in
theorem fT_43 : rFld (10, 21, 3, 2, 0, true) := ⟨RX2, "Goalmouth$Club", RX2, TX2, 15, tyX2, rfl, rfl, inl_X2, by decide, mA 222 (by decide +kernel), Or.inl rfl, tyX2_ok, nmX2, (by first | exact trivial | exact rfl | exact Or.inl ⟨_, rfl⟩ | exact Or.inr ⟨_, rfl⟩), rfl, fun h => (by first | exact Or.inr rfl | exact Or.inl rfl | cases h)⟩
set_option maxHeartbeats 400000 in
theorem fT_44 : rFld (10, 24, 3, 4, 0, false) := ⟨RX2, "Goalmouth$Club", RX2, TX2, 15, tyX2, rfl, rfl, inl_X2, by decide, mA 224 (by decide +kernel), Or.inl rfl, tyX2_ok, nmX2, (by first | exact trivial | exact rfl | exact Or.inl ⟨_, rfl⟩ | exact Or.inr ⟨_, rfl⟩), rfl, fun h => (by first | exact Or.inr rfl | exact Or.inl rfl | cases h)⟩
set_option maxHeartbeats 400000 in
theorem fT_45 : rFld (11, 7, 4, 0, 0, true) := ⟨RX3, "Goalmouth$Event", RX3, TX3, 6, tyX3, rfl, rfl, inl_X3, by decide, mA 385 (by decide +kernel), Or.inl rfl, tyX3_ok, nmX3, (by first | exact trivial | exact rfl | exact Or.inl ⟨_, rfl⟩ | exact Or.inr ⟨_, rfl⟩), rfl, fun h => (by first | exact Or.inr rfl | exact Or.inl rfl | cases h)⟩
set_option maxHeartbeats 400000 in
theorem fT_46 : rFld (11, 13, 4, 1, 4, true) := ⟨RX3, "Goalmouth$Event", RX3, TX3, 6, tyX3, rfl, rfl, inl_X3, by decide, mA 387 (by decide +kernel), Or.inl rfl, tyX3_ok, nmX3, (by first | exact trivial | exact rfl | exact Or.inl ⟨_, rfl⟩ | exact Or.inr ⟨_, rfl⟩), rfl, fun h => (by first | exact Or.inr rfl | exact Or.inl rfl | cases h)⟩
set_option maxHeartbeats 400000 in
theorem fT_47 : rFld (11, 17, 4, 2, 0, true) := ⟨RX3, "Goalmouth$Event", RX3, TX3, 6, tyX3, rfl, rfl, inl_X3, by decide, mA 388 (by decide +kernel), Or.inl rfl, tyX3_ok, nmX3, (by first | exact trivial | exact rfl | exact Or.inl ⟨_, rfl⟩ | exact Or.inr ⟨_, rfl⟩), rfl, fun h => (by first | exact Or.inr rfl | exact Or.inl rfl | cases h)⟩
set_option maxHeartbeats 400000 in
theorem fT_48 : rFld (11, 20, 4, 3, 0, true) := ⟨RX3, "Goalmouth$Event", RX3, TX3, 6, tyX3, rfl, rfl, inl_X3, by decide, mA 389 (by decide +kernel), Or.inl rfl, tyX3_ok, nmX3, (by first | exact trivial | exact rfl | exact Or.inl ⟨_, rfl⟩ | exact Or.inr ⟨_, rfl⟩), rfl, fun h => (by first | exact Or.inr rfl | exact Or.inl rfl | cases h)⟩
set_option maxHeartbeats 400000 in
theorem fT_49 : rFld (12, 12, 5, 0, 4, true) := ⟨RX5, "Goalmouth$Planner", RX5, TX5, 7, tyX5, rfl, rfl, inl_X5, by decide, mA 113 (by decide +kernel), Or.inl rfl, tyX5_ok, nmX5, (by first | exact trivial | exact rfl | exact Or.inl ⟨_, rfl⟩ | exact Or.inr ⟨_, rfl⟩), rfl, fun h => (by first | exact Or.inr rfl | exact Or.inl rfl | cases h)⟩
set_option maxHeartbeats 400000 in
theorem fT_50 : rFld (12, 18, 5, 1, 4, true) := ⟨RX5, "Goalmouth$Planner", RX5, TX5, 7, tyX5, rfl, rfl, inl_X5, by decide, mA 114 (by decide +kernel), Or.inl rfl, tyX5_ok, nmX5, (by first | exact trivial | exact rfl | exact Or.inl ⟨_, rfl⟩ | exact Or.inr ⟨_, rfl⟩), rfl, fun h => (by first | exact Or.inr rfl | exact Or.inl rfl | cases h)⟩
set_option maxHeartbeats 400000 in
theorem fT_51 : rFld (12, 21, 5, 2, 4, true) := ⟨RX5, "Goalmouth$Planner", RX5, TX5, 7, tyX5, rfl, rfl, inl_X5, by decide, mA 115 (by decide +kernel), Or.inl rfl, tyX5_ok, nmX5, (by first | exact trivial | exact rfl | exact Or.inl ⟨_, rfl⟩ | exact Or.inr ⟨_, rfl⟩), rfl, fun h => (by first | exact Or.inr rfl | exact Or.inl rfl | cases h)⟩
set_option maxHeartbeats 400000 in
theorem fT_52 : rFld (12, 25, 5, 3, 4, true) := ⟨RX5, "Goalmouth$Planner", RX5, TX5, 7, tyX5, rfl, rfl, inl_X5, by decide, mA 116 (by decide +kernel), Or.inl rfl, tyX5_ok, nmX5, (by first | exact trivial | exact rfl | exact Or.inl ⟨_, rfl⟩ | exact Or.inr ⟨_, rfl⟩), rfl, fun h => (by first | exact Or.inr rfl | exact Or.inl rfl | cases h)⟩
set_option maxHeartbeats 400000 in
theorem fT_53 : rFld (12, 28, 5, 4, 4, true) := ⟨RX5, "Goalmouth$Planner", RX5, TX5, 7, tyX5, rfl, rfl, inl_X5, by decide, mA 117 (by decide +kernel), Or.inl rfl, tyX5_ok, nmX5, (by first | exact trivial | exact rfl | exact Or.inl ⟨_, rfl⟩ | exact Or.inr ⟨_, rfl⟩), rfl, fun h => (by first | exact Or.inr rfl | exact Or.inl rfl | cases h)⟩
set_option maxHeartbeats 400000 in
theorem fT_54 : rFld (12, 31, 5, 5, 4, true) := ⟨RX5, "Goalmouth$Planner", RX5, TX5, 7, tyX5, rfl, rfl, inl_X5, by decide, mA 118 (by decide +kernel), Or.inl rfl, tyX5_ok, nmX5, (by first | exact trivial | exact rfl | exact Or.inl ⟨_, rfl⟩ | exact Or.inr ⟨_, rfl⟩), rfl, fun h => (by first | exact Or.inr rfl | exact Or.inl rfl | cases h)⟩
set_option maxHeartbeats 400000 in
theorem fT_55 : rFld (13, 12, 6, 0, 4, true) := ⟨RX8, "Goalmouth$Table", RX8, TX8, 1, tyX8, rfl, rfl, inl_X8, by decide, mA 135 (by decide +kernel), Or.inl rfl, tyX8_ok, nmX8, (by first | exact trivial | exact rfl | exact Or.inl ⟨_, rfl⟩ | exact Or.inr ⟨_, rfl⟩), rfl, fun h => (by first | exact Or.inr rfl | exact Or.inl rfl | cases h)⟩
set_option maxHeartbeats 400000 in
theorem fT_56 : rFld (14, 10, 7, 0, 4, true) := ⟨RX9, "Goalmouth", RX9, TX9, 10, tyX9, rfl, rfl, inl_X9, by decide, mA 137 (by decide +kernel), Or.inl rfl, tyX9_ok, nmX9, (by first | exact trivial | exact rfl | exact Or.inl ⟨_, rfl⟩ | exact Or.inr ⟨_, rfl⟩), rfl, fun h => (by first | exact Or.inr rfl | exact Or.inl rfl | cases h)⟩
set_option maxHeartbeats 400000 in
theorem fT_57 : rFld (14, 94, 3, 0, 3, true) := ⟨RX9, "Goalmouth$Club", RX2, TX2, 15, tyX2, rfl, rfl, inl_X2, by decide, mA 220 (by decide +kernel), Or.inl rfl, tyX2_ok, nmX2, (by first | exact trivial | exact rfl | exact Or.inl ⟨_, rfl⟩ | exact Or.inr ⟨_, rfl⟩), rfl, fun h => (by first | exact Or.inr rfl | exact Or.inl rfl | cases h)⟩
set_option maxHeartbeats 400000 in
theorem fT_58 : rFld (14, 25, 7, 3, 4, true) := ⟨RX9, "Goalmouth", RX9, TX9, 10, tyX9, rfl, rfl, inl_X9, by decide, mA 140 (by decide +kernel), Or.inl rfl, tyX9_ok, nmX9, (by first | exact trivial | exact rfl | exact Or.inl ⟨_, rfl⟩ | exact Or.inr ⟨_, rfl⟩), rfl, fun h => (by first | exact Or.inr rfl | exact Or.inl rfl | cases h)⟩
set_option maxHeartbeats 400000 in
theorem fT_59 : rFld (14, 268, 2, 1, 3, true) := ⟨RX9, "Goalmouth$Book", RX0, TX0, 6, tyX0, rfl, rfl, inl_X0, by decide, mA 93 (by decide +kernel), Or.inl rfl, tyX0_ok, nmX0, (by first | exact trivial | exact rfl | exact Or.inl ⟨_, rfl⟩ | exact Or.inr ⟨_, rfl⟩), rfl, fun h => (by first | exact Or.inr rfl | exact Or.inl rfl | cases h)⟩
set_option maxHeartbeats 400000 in
theorem fT_60 : rFld (14, 19, 7, 2, 4, true) := ⟨RX9, "Goalmouth", RX9, TX9, 10, tyX9, rfl, rfl, inl_X9, by decide, mA 139 (by decide +kernel), Or.inl rfl, tyX9_ok, nmX9, (by first | exact trivial | exact rfl | exact Or.inl ⟨_, rfl⟩ | exact Or.inr ⟨_, rfl⟩), rfl, fun h => (by first | exact Or.inr rfl | exact Or.inl rfl | cases h)⟩
set_option maxHeartbeats 400000 in
theorem fT_61 : rFld (14, 53, 7, 9, 4, false) := ⟨RX9, "Goalmouth", RX9, TX9, 10, tyX9, rfl, rfl, inl_X9, by decide, mA 146 (by decide +kernel), Or.inl rfl, tyX9_ok, nmX9, (by first | exact trivial | exact rfl | exact Or.inl ⟨_, rfl⟩ | exact Or.inr ⟨_, rfl⟩), rfl, fun h => (by first | exact Or.inr rfl | exact Or.inl rfl | cases h)⟩
set_option maxHeartbeats 400000 in
theorem fT_62 : rFld (14, 39, 7, 5, 4, true) := ⟨RX9, "Goalmouth", RX9, TX9, 10, tyX9, rfl, rfl, inl_X9, by decide, mA 142 (by decide +kernel), Or.inl rfl, tyX9_ok, nmX9, (by first | exact trivial | exact rfl | exact Or.inl ⟨_, rfl⟩ | exact Or.inr ⟨_, rfl⟩), rfl, fun h => (by first | exact Or.inr rfl | exact Or.inl rfl | cases h)⟩
set_option maxHeartbeats 400000 in
theorem fT_63 : rFld (14, 43, 7, 6, 0, false) := ⟨RX9, "Goalmouth", RX9, TX9, 10, tyX9, rfl, rfl, inl_X9, by decide, mA 143 (by decide +kernel), Or.inl rfl, tyX9_ok, nmX9, (by first | exact trivial | exact rfl | exact Or.inl ⟨_, rfl⟩ | exact Or.inr ⟨_, rfl⟩), rfl, fun h => (by first | exact Or.inr rfl | exact Or.inl rfl | cases h)⟩
set_option maxHeartbeats 400000 in
theorem fT_64 : rFld (14, 16, 7, 1, 4, true) := ⟨RX9, "Goalmouth", RX9, TX9, 10, tyX9, rfl, rfl, inl_X9, by decide, mA 138 (by decide +kernel), Or.inl rfl, tyX9_ok, nmX9, (by first | exact trivial | exact rfl | exact Or.inl ⟨_, rfl⟩ | exact Or.inr ⟨_, rfl⟩), rfl, fun h => (by first | exact Or.inr rfl | exact Or.inl rfl | cases h)⟩
set_option maxHeartbeats 400000 in
theorem fT_65 : rFld (14, 32, 7, 4, 4, true) := ⟨RX9, "Goalmouth", RX9, TX9, 10, tyX9, rfl, rfl, inl_X9, by decide, mA 141 (by decide +kernel), Or.inl rfl, tyX9_ok, nmX9, (by first | exact trivial | exact rfl | exact Or.inl ⟨_, rfl⟩ | exact Or.inr ⟨_, rfl⟩), rfl, fun h => (by first | exact Or.inr rfl | exact Or.inl rfl | cases h)⟩
set_option maxHeartbeats 400000 in
theorem fT_66 : rFld (14, 47, 7, 7, 0, false) := ⟨RX9, "Goalmouth", RX9, TX9, 10, tyX9, rfl, rfl, inl_X9, by decide, mA 144 (by decide +kernel), Or.inl rfl, tyX9_ok, nmX9, (by first | exact trivial | exact rfl | exact Or.inl ⟨_, rfl⟩ | exact Or.inr ⟨_, rfl⟩), rfl, fun h => (by first | exact Or.inr rfl | exact Or.inl rfl | cases h)⟩
set_option maxHeartbeats 400000 in
theorem fT_67 : rFld (14, 50, 7, 8, 0, false) := ⟨RX9, "Goalmouth", RX9, TX9, 10, tyX9, rfl, rfl, inl_X9, by decide, mA 145 (by decide +kernel), Or.inl rfl, tyX9_ok, nmX9, (by first | exact trivial | exact rfl | exact Or.inl ⟨_, rfl⟩ | exact Or.inr ⟨_, rfl⟩), rfl, fun h => (by first | exact Or.inr rfl | exact Or.inl rfl | cases h)⟩
set_option maxHeartbeats 400000 in
theorem fT_ok : ∀ q ∈ fT, rFld q := List.forall_mem_cons.mpr ⟨fT_0, List.forall_mem_cons.mpr ⟨fT_1, List.forall_mem_cons.mpr ⟨fT_2, List.forall_mem_cons.mpr ⟨fT_3, List.forall_mem_cons.mpr ⟨fT_4, List.forall_mem_cons.mpr ⟨fT_5, List.forall_mem_cons.mpr ⟨fT_6, List.forall_mem_cons.mpr ⟨fT_7, List.forall_mem_cons.mpr ⟨fT_8, List.forall_mem_cons.mpr ⟨fT_9, List.forall_mem_cons.mpr ⟨fT_10, List.forall_mem_cons.mpr ⟨fT_11, List.forall_mem_cons.mpr ⟨fT_12, List.forall_mem_cons.mpr ⟨fT_13, List.forall_mem_cons.mpr ⟨fT_14, List.forall_mem_cons.mpr ⟨fT_15, List.forall_mem_cons.mpr ⟨fT_16, List.forall_mem_cons.mpr ⟨fT_17, List.forall_mem_cons.mpr ⟨fT_18, List.forall_mem_cons.mpr ⟨fT_19, List.forall_mem_cons.mpr ⟨fT_20, List.forall_mem_cons.mpr ⟨fT_21, List.forall_mem_cons.mpr ⟨fT_22, List.forall_mem_cons.mpr ⟨fT_23, List.forall_mem_cons.mpr ⟨fT_24, List.forall_mem_cons.mpr ⟨fT_25, List.forall_mem_cons.mpr ⟨fT_26, List.forall_mem_cons.mpr ⟨fT_27, List.forall_mem_cons.mpr ⟨fT_28, List.forall_mem_cons.mpr ⟨fT_29, List.forall_mem_cons.mpr ⟨fT_30, List.forall_mem_cons.mpr ⟨fT_31, List.forall_mem_cons.mpr ⟨fT_32, List.forall_mem_cons.mpr ⟨fT_33, List.forall_mem_cons.mpr ⟨fT_34, List.forall_mem_cons.mpr ⟨fT_35, List.forall_mem_cons.mpr ⟨fT_36, List.forall_mem_cons.mpr ⟨fT_37, List.forall_mem_cons.mpr ⟨fT_38, List.forall_mem_cons.mpr ⟨fT_39, List.forall_mem_cons.mpr ⟨fT_40, List.forall_mem_cons.mpr ⟨fT_41, List.forall_mem_cons.mpr ⟨fT_42, List.forall_mem_cons.mpr ⟨fT_43, List.forall_mem_cons.mpr ⟨fT_44, List.forall_mem_cons.mpr ⟨fT_45, List.forall_mem_cons.mpr ⟨fT_46, List.forall_mem_cons.mpr ⟨fT_47, List.forall_mem_cons.mpr ⟨fT_48, List.forall_mem_cons.mpr ⟨fT_49, List.forall_mem_cons.mpr ⟨fT_50, List.forall_mem_cons.mpr ⟨fT_51, List.forall_mem_cons.mpr ⟨fT_52, List.forall_mem_cons.mpr ⟨fT_53, List.forall_mem_cons.mpr ⟨fT_54, List.forall_mem_cons.mpr ⟨fT_55, List.forall_mem_cons.mpr ⟨fT_56, List.forall_mem_cons.mpr ⟨fT_57, List.forall_mem_cons.mpr ⟨fT_58, List.forall_mem_cons.mpr ⟨fT_59, List.forall_mem_cons.mpr ⟨fT_60, List.forall_mem_cons.mpr ⟨fT_61, List.forall_mem_cons.mpr ⟨fT_62, List.forall_mem_cons.mpr ⟨fT_63, List.forall_mem_cons.mpr ⟨fT_64, List.forall_mem_cons.mpr ⟨fT_65, List.forall_mem_cons.mpr ⟨fT_66, List.forall_mem_cons.mpr ⟨fT_67, fun _ h => absurd h List.not_mem_nil⟩⟩⟩⟩⟩⟩⟩⟩⟩⟩⟩⟩⟩⟩⟩⟩⟩⟩⟩⟩⟩⟩⟩⟩⟩⟩⟩⟩⟩⟩⟩⟩⟩⟩⟩⟩⟩⟩⟩⟩⟩⟩⟩⟩⟩⟩⟩⟩⟩⟩⟩⟩⟩⟩⟩⟩⟩⟩⟩⟩⟩⟩⟩⟩⟩⟩⟩⟩
set_option maxHeartbeats 400000 in
theorem fnT_ok : ∀ q ∈ fnT, rFldN q := List.forall_mem_cons.mpr ⟨⟨RJx35411, "java/util/ArrayList", RJx4a65c, "java/util/ArrayList", TJx4a65c, 3, rfl, rfl, inl_Jx4a65c, by decide, mA 74 (by decide +kernel), rfl⟩, fun _ h => absurd h List.not_mem_nil⟩
set_option maxHeartbeats 400000 in
theorem newT_0 : rNew (5, 8, 7, 10, [.inl .null, .inl .null, .inl .null, .inl .null, .inl .null, .inl .null, .inl (.int 0), .inl (.int 0), .inl (.int 0), .inl .null]) := ⟨RL, RX9, TX9, tyX9, rfl, rfl, inl_X9, tyX9_ok, mA 52 (by decide +kernel), mA 53 (by decide +kernel), mA 32 (by decide +kernel), fun ρ σ j hj => by
  have h9 : j = 0 ∨ j = 1 ∨ j = 2 ∨ j = 3 ∨ j = 4 ∨ j = 5 ∨ j = 6 ∨ j = 7 ∨ j = 8 ∨ j = 9 := by have hj : j < 10 := hj; omega
  rcases h9 with rfl | rfl | rfl | rfl | rfl | rfl | rfl | rfl | rfl | rfl <;> rfl⟩
set_option maxHeartbeats 400000 in
theorem newT_1 : rNew (5, 138, 10, 13, [.inl .null, .inl .null, .inl .null, .inl .null, .inl .null, .inl .null, .inl .null, .inl .null, .inl (.int 0), .inl (.int 0), .inl (.int 0), .inl (.int 0), .inl .null]) := ⟨RL, RX15, TX15, tyX15, rfl, rfl, inl_X15, tyX15_ok, mA 585 (by decide +kernel), mA 586 (by decide +kernel), mA 39 (by decide +kernel), fun ρ σ j hj => by
  have h9 : j = 0 ∨ j = 1 ∨ j = 2 ∨ j = 3 ∨ j = 4 ∨ j = 5 ∨ j = 6 ∨ j = 7 ∨ j = 8 ∨ j = 9 ∨ j = 10 ∨ j = 11 ∨ j = 12 := by have hj : j < 13 := hj; omega
  rcases h9 with rfl | rfl | rfl | rfl | rfl | rfl | rfl | rfl | rfl | rfl | rfl | rfl | rfl <;> rfl⟩
set_option maxHeartbeats 400000 in
theorem newT_2 : rNew (2, 267, 0, 4, [.inl (.int 0), .inl (.int 0), .inl (.int 0), .inl .null]) := ⟨RJx4a65c, RJx35411, TJx35411, tyJx35411, rfl, rfl, inl_Jx35411, tyJx35411_ok, mA 647 (by decide +kernel), mA 648 (by decide +kernel), mA 46 (by decide +kernel), fun ρ σ j hj => by
  have h9 : j = 0 ∨ j = 1 ∨ j = 2 ∨ j = 3 := by have hj : j < 4 := hj; omega
  rcases h9 with rfl | rfl | rfl | rfl <;> rfl⟩
set_option maxHeartbeats 400000 in
theorem newT_3 : rNew (6, 9, 1, 3, [.inl (.int 0), .inl .null, .inl (.int 0)]) := ⟨RX0, RJx4a65c, TJx4a65c, tyJx4a65c, rfl, rfl, inl_Jx4a65c, tyJx4a65c_ok, mA 89 (by decide +kernel), mA 61 (by decide +kernel), mA 35 (by decide +kernel), fun ρ σ j hj => by
  have h9 : j = 0 ∨ j = 1 ∨ j = 2 := by have hj : j < 3 := hj; omega
  rcases h9 with rfl | rfl | rfl <;> rfl⟩
set_option maxHeartbeats 400000 in
theorem newT_4 : rNew (8, 7, 1, 3, [.inl (.int 0), .inl .null, .inl (.int 0)]) := ⟨RX12, RJx4a65c, TJx4a65c, tyJx4a65c, rfl, rfl, inl_Jx4a65c, tyJx4a65c_ok, mA 778 (by decide +kernel), mA 61 (by decide +kernel), mA 35 (by decide +kernel), fun ρ σ j hj => by
  have h9 : j = 0 ∨ j = 1 ∨ j = 2 := by have hj : j < 3 := hj; omega
  rcases h9 with rfl | rfl | rfl <;> rfl⟩
set_option maxHeartbeats 400000 in
theorem newT_5 : rNew (9, 146, 8, 6, [.inl (.int 0), .inl (.int 0), .inl (.int 0), .inl (.int 0), .inl (.int 0), .inl (.int 0)]) := ⟨RX15, RX11, TX11, tyX11, rfl, rfl, inl_X11, tyX11_ok, mA 670 (by decide +kernel), mA 677 (by decide +kernel), mA 47 (by decide +kernel), fun ρ σ j hj => by
  have h9 : j = 0 ∨ j = 1 ∨ j = 2 ∨ j = 3 ∨ j = 4 ∨ j = 5 := by have hj : j < 6 := hj; omega
  rcases h9 with rfl | rfl | rfl | rfl | rfl | rfl <;> rfl⟩
set_option maxHeartbeats 400000 in
theorem newT_6 : rNew (9, 7, 1, 3, [.inl (.int 0), .inl .null, .inl (.int 0)]) := ⟨RX15, RJx4a65c, TJx4a65c, tyJx4a65c, rfl, rfl, inl_Jx4a65c, tyJx4a65c_ok, mA 591 (by decide +kernel), mA 61 (by decide +kernel), mA 35 (by decide +kernel), fun ρ σ j hj => by
  have h9 : j = 0 ∨ j = 1 ∨ j = 2 := by have hj : j < 3 := hj; omega
  rcases h9 with rfl | rfl | rfl <;> rfl⟩
set_option maxHeartbeats 400000 in
theorem newT_7 : rNew (9, 81, 9, 5, [.inl (.int 0), .inl .null, .inl (.int 0), .inl (.int 0), .inl .null]) := ⟨RX15, RX12, TX12, tyX12, rfl, rfl, inl_X12, tyX12_ok, mA 772 (by decide +kernel), mA 773 (by decide +kernel), mA 50 (by decide +kernel), fun ρ σ j hj => by
  have h9 : j = 0 ∨ j = 1 ∨ j = 2 ∨ j = 3 ∨ j = 4 := by have hj : j < 5 := hj; omega
  rcases h9 with rfl | rfl | rfl | rfl | rfl <;> rfl⟩
set_option maxHeartbeats 400000 in
theorem newT_8 : rNew (12, 9, 1, 3, [.inl (.int 0), .inl .null, .inl (.int 0)]) := ⟨RX5, RJx4a65c, TJx4a65c, tyJx4a65c, rfl, rfl, inl_Jx4a65c, tyJx4a65c_ok, mA 111 (by decide +kernel), mA 61 (by decide +kernel), mA 35 (by decide +kernel), fun ρ σ j hj => by
  have h9 : j = 0 ∨ j = 1 ∨ j = 2 := by have hj : j < 3 := hj; omega
  rcases h9 with rfl | rfl | rfl <;> rfl⟩
set_option maxHeartbeats 400000 in
theorem newT_9 : rNew (13, 9, 1, 3, [.inl (.int 0), .inl .null, .inl (.int 0)]) := ⟨RX8, RJx4a65c, TJx4a65c, tyJx4a65c, rfl, rfl, inl_Jx4a65c, tyJx4a65c_ok, mA 133 (by decide +kernel), mA 61 (by decide +kernel), mA 35 (by decide +kernel), fun ρ σ j hj => by
  have h9 : j = 0 ∨ j = 1 ∨ j = 2 := by have hj : j < 3 := hj; omega
  rcases h9 with rfl | rfl | rfl <;> rfl⟩
set_option maxHeartbeats 400000 in
theorem newT_10 : rNew (14, 81, 3, 15, [.inl (.int 0), .inl (.int 0), .inl (.int 0), .inl (.int 0), .inl (.int 0), .inl (.int 0), .inl (.int 0), .inl (.int 0), .inl (.int 0), .inl (.int 0), .inl (.int 0), .inl (.int 0), .inl (.int 0), .inl (.int 0), .inl (.int 0)]) := ⟨RX9, RX2, TX2, tyX2, rfl, rfl, inl_X2, tyX2_ok, mA 165 (by decide +kernel), mA 214 (by decide +kernel), mA 42 (by decide +kernel), fun ρ σ j hj => by
  have h9 : j = 0 ∨ j = 1 ∨ j = 2 ∨ j = 3 ∨ j = 4 ∨ j = 5 ∨ j = 6 ∨ j = 7 ∨ j = 8 ∨ j = 9 ∨ j = 10 ∨ j = 11 ∨ j = 12 ∨ j = 13 ∨ j = 14 := by have hj : j < 15 := hj; omega
  rcases h9 with rfl | rfl | rfl | rfl | rfl | rfl | rfl | rfl | rfl | rfl | rfl | rfl | rfl | rfl | rfl <;> rfl⟩
set_option maxHeartbeats 400000 in
theorem newT_11 : rNew (14, 288, 4, 6, [.inl (.int 0), .inl .null, .inl (.int 0), .inl (.int 0), .inl (.int 0), .inl (.int 0)]) := ⟨RX9, RX3, TX3, tyX3, rfl, rfl, inl_X3, tyX3_ok, mA 379 (by decide +kernel), mA 380 (by decide +kernel), mA 49 (by decide +kernel), fun ρ σ j hj => by
  have h9 : j = 0 ∨ j = 1 ∨ j = 2 ∨ j = 3 ∨ j = 4 ∨ j = 5 := by have hj : j < 6 := hj; omega
  rcases h9 with rfl | rfl | rfl | rfl | rfl | rfl <;> rfl⟩
set_option maxHeartbeats 400000 in
theorem newT_12 : rNew (14, 7, 1, 3, [.inl (.int 0), .inl .null, .inl (.int 0)]) := ⟨RX9, RJx4a65c, TJx4a65c, tyJx4a65c, rfl, rfl, inl_Jx4a65c, tyJx4a65c_ok, mA 60 (by decide +kernel), mA 61 (by decide +kernel), mA 35 (by decide +kernel), fun ρ σ j hj => by
  have h9 : j = 0 ∨ j = 1 ∨ j = 2 := by have hj : j < 3 := hj; omega
  rcases h9 with rfl | rfl | rfl <;> rfl⟩
set_option maxHeartbeats 400000 in
theorem newT_13 : rNew (14, 22, 2, 6, [.inl .null, .inl .null, .inl .null, .inl .null, .inl .null, .inl .null]) := ⟨RX9, RX0, TX0, tyX0, rfl, rfl, inl_X0, tyX0_ok, mA 83 (by decide +kernel), mA 84 (by decide +kernel), mA 36 (by decide +kernel), fun ρ σ j hj => by
  have h9 : j = 0 ∨ j = 1 ∨ j = 2 ∨ j = 3 ∨ j = 4 ∨ j = 5 := by have hj : j < 6 := hj; omega
  rcases h9 with rfl | rfl | rfl | rfl | rfl | rfl <;> rfl⟩
set_option maxHeartbeats 400000 in
theorem newT_14 : rNew (14, 29, 5, 7, [.inl .null, .inl .null, .inl .null, .inl .null, .inl .null, .inl .null, .inl (.int 0)]) := ⟨RX9, RX5, TX5, tyX5, rfl, rfl, inl_X5, tyX5_ok, mA 105 (by decide +kernel), mA 106 (by decide +kernel), mA 37 (by decide +kernel), fun ρ σ j hj => by
  have h9 : j = 0 ∨ j = 1 ∨ j = 2 ∨ j = 3 ∨ j = 4 ∨ j = 5 ∨ j = 6 := by have hj : j < 7 := hj; omega
  rcases h9 with rfl | rfl | rfl | rfl | rfl | rfl | rfl <;> rfl⟩
set_option maxHeartbeats 400000 in
theorem newT_15 : rNew (14, 36, 6, 1, [.inl .null]) := ⟨RX9, RX8, TX8, tyX8, rfl, rfl, inl_X8, tyX8_ok, mA 127 (by decide +kernel), mA 128 (by decide +kernel), mA 38 (by decide +kernel), fun ρ σ j hj => by
  have h9 : j = 0 := by have hj : j < 1 := hj; omega
  rcases h9 with rfl <;> rfl⟩
set_option maxHeartbeats 400000 in
theorem newT_ok : ∀ q ∈ newT, rNew q := List.forall_mem_cons.mpr ⟨newT_0, List.forall_mem_cons.mpr ⟨newT_1, List.forall_mem_cons.mpr ⟨newT_2, List.forall_mem_cons.mpr ⟨newT_3, List.forall_mem_cons.mpr ⟨newT_4, List.forall_mem_cons.mpr ⟨newT_5, List.forall_mem_cons.mpr ⟨newT_6, List.forall_mem_cons.mpr ⟨newT_7, List.forall_mem_cons.mpr ⟨newT_8, List.forall_mem_cons.mpr ⟨newT_9, List.forall_mem_cons.mpr ⟨newT_10, List.forall_mem_cons.mpr ⟨newT_11, List.forall_mem_cons.mpr ⟨newT_12, List.forall_mem_cons.mpr ⟨newT_13, List.forall_mem_cons.mpr ⟨newT_14, List.forall_mem_cons.mpr ⟨newT_15, fun _ h => absurd h List.not_mem_nil⟩⟩⟩⟩⟩⟩⟩⟩⟩⟩⟩⟩⟩⟩⟩⟩
set_option maxHeartbeats 400000 in
theorem newT_fs : ∀ q ∈ newT, q.2.2.2.2.all (fun v => decide (v = .inl .null) || decide (v = .inl (.int 0))) = true := by decide +kernel
set_option maxHeartbeats 400000 in
theorem anT_ok : ∀ q ∈ anT, rAn q := List.forall_mem_cons.mpr ⟨⟨RJx4a65c, rfl, mA 255 (by decide +kernel), mA 253 (by decide +kernel)⟩, fun _ h => absurd h List.not_mem_nil⟩
set_option maxHeartbeats 400000 in
theorem gsT_ok : ∀ q ∈ gsT, rGs q := List.forall_mem_cons.mpr ⟨⟨RJx4a65c, rfl, mA 72 (by decide +kernel)⟩, fun _ h => absurd h List.not_mem_nil⟩
set_option maxHeartbeats 400000 in
theorem oiT_ok : ∀ q ∈ oiT, rOi q := List.forall_mem_cons.mpr ⟨⟨RJx35411, rfl, mA 652 (by decide +kernel), mA 58 (by decide +kernel), mA 59 (by decide +kernel)⟩, List.forall_mem_cons.mpr ⟨⟨RJxa1e45, rfl, mA 71 (by decide +kernel), mA 58 (by decide +kernel), mA 59 (by decide +kernel)⟩, List.forall_mem_cons.mpr ⟨⟨RX0, rfl, mA 88 (by decide +kernel), mA 58 (by decide +kernel), mA 59 (by decide +kernel)⟩, List.forall_mem_cons.mpr ⟨⟨RX11, rfl, mA 681 (by decide +kernel), mA 58 (by decide +kernel), mA 59 (by decide +kernel)⟩, List.forall_mem_cons.mpr ⟨⟨RX12, rfl, mA 777 (by decide +kernel), mA 58 (by decide +kernel), mA 59 (by decide +kernel)⟩, List.forall_mem_cons.mpr ⟨⟨RX15, rfl, mA 590 (by decide +kernel), mA 58 (by decide +kernel), mA 59 (by decide +kernel)⟩, List.forall_mem_cons.mpr ⟨⟨RX2, rfl, mA 218 (by decide +kernel), mA 58 (by decide +kernel), mA 59 (by decide +kernel)⟩, List.forall_mem_cons.mpr ⟨⟨RX3, rfl, mA 384 (by decide +kernel), mA 58 (by decide +kernel), mA 59 (by decide +kernel)⟩, List.forall_mem_cons.mpr ⟨⟨RX5, rfl, mA 110 (by decide +kernel), mA 58 (by decide +kernel), mA 59 (by decide +kernel)⟩, List.forall_mem_cons.mpr ⟨⟨RX8, rfl, mA 132 (by decide +kernel), mA 58 (by decide +kernel), mA 59 (by decide +kernel)⟩, List.forall_mem_cons.mpr ⟨⟨RX9, rfl, mA 57 (by decide +kernel), mA 58 (by decide +kernel), mA 59 (by decide +kernel)⟩, fun _ h => absurd h List.not_mem_nil⟩⟩⟩⟩⟩⟩⟩⟩⟩⟩⟩
set_option maxHeartbeats 400000 in
theorem mxT_ok : ∀ q ∈ mxT, rMx q := List.forall_mem_cons.mpr ⟨⟨RJx4a65c, rfl, mA 254 (by decide +kernel), mA 188 (by decide +kernel), mA 43 (by decide +kernel), mA 189 (by decide +kernel)⟩, fun _ h => absurd h List.not_mem_nil⟩
set_option maxHeartbeats 400000 in
theorem acT_ok : ∀ q ∈ acT, rAc q := List.forall_mem_cons.mpr ⟨⟨RX0, rfl, mA 174 (by decide +kernel), mA 176 (by decide +kernel), mA 175 (by decide +kernel), mA 45 (by decide +kernel)⟩, fun _ h => absurd h List.not_mem_nil⟩
set_option maxHeartbeats 400000 in
theorem ldT_ok : ∀ q ∈ ldT, rLd q := List.forall_mem_cons.mpr ⟨⟨RX15, rfl, mA 630 (by decide +kernel)⟩, List.forall_mem_cons.mpr ⟨⟨RX15, rfl, mA 631 (by decide +kernel)⟩, List.forall_mem_cons.mpr ⟨⟨RX15, rfl, mA 719 (by decide +kernel)⟩, List.forall_mem_cons.mpr ⟨⟨RX15, rfl, mA 711 (by decide +kernel)⟩, List.forall_mem_cons.mpr ⟨⟨RX9, rfl, mA 190 (by decide +kernel)⟩, fun _ h => absurd h List.not_mem_nil⟩⟩⟩⟩⟩
set_option maxHeartbeats 400000 in
theorem caT_ok : ∀ ci ∈ caT, rCa ci := List.forall_mem_cons.mpr ⟨⟨(RX2, TX2, 15), rfl, mA 904 (by decide +kernel)⟩, List.forall_mem_cons.mpr ⟨⟨(RX3, TX3, 6), rfl, mA 906 (by decide +kernel)⟩, List.forall_mem_cons.mpr ⟨⟨(RX11, TX11, 6), rfl, mA 905 (by decide +kernel)⟩, List.forall_mem_cons.mpr ⟨⟨(RX12, TX12, 5), rfl, mA 907 (by decide +kernel)⟩, fun _ h => absurd h List.not_mem_nil⟩⟩⟩⟩
set_option maxHeartbeats 400000 in
theorem opT_ok : ∀ t ∈ opT, rOk t.1 t.2 := List.forall_mem_cons.mpr ⟨ok_iload_n, List.forall_mem_cons.mpr ⟨ok_iload, List.forall_mem_cons.mpr ⟨ok_lload_n, List.forall_mem_cons.mpr ⟨ok_lload, List.forall_mem_cons.mpr ⟨ok_aload_n, List.forall_mem_cons.mpr ⟨ok_aload, List.forall_mem_cons.mpr ⟨ok_aload_nN, List.forall_mem_cons.mpr ⟨ok_istore_n, List.forall_mem_cons.mpr ⟨ok_istore, List.forall_mem_cons.mpr ⟨ok_astore_n, List.forall_mem_cons.mpr ⟨ok_astore, List.forall_mem_cons.mpr ⟨ok_astore_nN, List.forall_mem_cons.mpr ⟨ok_lstore_n, List.forall_mem_cons.mpr ⟨ok_fstore, List.forall_mem_cons.mpr ⟨ok_dstore, List.forall_mem_cons.mpr ⟨ok_iconst, List.forall_mem_cons.mpr ⟨ok_bipush, List.forall_mem_cons.mpr ⟨ok_sipush, List.forall_mem_cons.mpr ⟨ok_lconst, List.forall_mem_cons.mpr ⟨ok_fconst, List.forall_mem_cons.mpr ⟨ok_dconst, List.forall_mem_cons.mpr ⟨ok_null, List.forall_mem_cons.mpr ⟨ok_dup, List.forall_mem_cons.mpr ⟨ok_dup_x1, List.forall_mem_cons.mpr ⟨ok_pop, List.forall_mem_cons.mpr ⟨ok_iadd, List.forall_mem_cons.mpr ⟨ok_isub, List.forall_mem_cons.mpr ⟨ok_iand, List.forall_mem_cons.mpr ⟨ok_lmul, List.forall_mem_cons.mpr ⟨ok_iinc, List.forall_mem_cons.mpr ⟨ok_i2l, List.forall_mem_cons.mpr ⟨ok_i2c, List.forall_mem_cons.mpr ⟨ok_if_eq, List.forall_mem_cons.mpr ⟨ok_if_ne, List.forall_mem_cons.mpr ⟨ok_if_lt, List.forall_mem_cons.mpr ⟨ok_if_ge, List.forall_mem_cons.mpr ⟨ok_if_gt, List.forall_mem_cons.mpr ⟨ok_if_le, List.forall_mem_cons.mpr ⟨ok_icmp_eq, List.forall_mem_cons.mpr ⟨ok_icmp_ne, List.forall_mem_cons.mpr ⟨ok_icmp_lt, List.forall_mem_cons.mpr ⟨ok_icmp_ge, List.forall_mem_cons.mpr ⟨ok_icmp_gt, List.forall_mem_cons.mpr ⟨ok_icmp_le, List.forall_mem_cons.mpr ⟨ok_lc_eq, List.forall_mem_cons.mpr ⟨ok_lc_ne, List.forall_mem_cons.mpr ⟨ok_lc_lt, List.forall_mem_cons.mpr ⟨ok_lc_ge, List.forall_mem_cons.mpr ⟨ok_lc_gt, List.forall_mem_cons.mpr ⟨ok_lc_le, List.forall_mem_cons.mpr ⟨ok_acmp_eq, List.forall_mem_cons.mpr ⟨ok_ifnull, List.forall_mem_cons.mpr ⟨ok_ifnonnull, List.forall_mem_cons.mpr ⟨ok_goto, List.forall_mem_cons.mpr ⟨ok_switch, List.forall_mem_cons.mpr ⟨ok_iaload, List.forall_mem_cons.mpr ⟨ok_xaload, List.forall_mem_cons.mpr ⟨ok_laload, List.forall_mem_cons.mpr ⟨ok_iastore, List.forall_mem_cons.mpr ⟨ok_lastore, List.forall_mem_cons.mpr ⟨ok_aastore caT_ok, List.forall_mem_cons.mpr ⟨ok_alen, List.forall_mem_cons.mpr ⟨ok_alenS, List.forall_mem_cons.mpr ⟨ok_alenX, List.forall_mem_cons.mpr ⟨ok_newI (mA 104 (by decide +kernel)), List.forall_mem_cons.mpr ⟨ok_newZ (mA 126 (by decide +kernel)), List.forall_mem_cons.mpr ⟨ok_newJ (mA 902 (by decide +kernel)), List.forall_mem_cons.mpr ⟨ok_newD (mA 903 (by decide +kernel)), List.forall_mem_cons.mpr ⟨ok_anew anT_ok, List.forall_mem_cons.mpr ⟨ok_new newT_ok newT_fs, List.forall_mem_cons.mpr ⟨ok_getf fT_ok, List.forall_mem_cons.mpr ⟨ok_getN fnT_ok, List.forall_mem_cons.mpr ⟨ok_putf fT_ok, List.forall_mem_cons.mpr ⟨ok_putF fT_ok, List.forall_mem_cons.mpr ⟨ok_gets gsT_ok, List.forall_mem_cons.mpr ⟨ok_oinit oiT_ok, List.forall_mem_cons.mpr ⟨ok_max mxT_ok, List.forall_mem_cons.mpr ⟨ok_acopy acT_ok, List.forall_mem_cons.mpr ⟨ok_ldc2 ldT_ok, fun _ h => absurd h List.not_mem_nil⟩⟩⟩⟩⟩⟩⟩⟩⟩⟩⟩⟩⟩⟩⟩⟩⟩⟩⟩⟩⟩⟩⟩⟩⟩⟩⟩⟩⟩⟩⟩⟩⟩⟩⟩⟩⟩⟩⟩⟩⟩⟩⟩⟩⟩⟩⟩⟩⟩⟩⟩⟩⟩⟩⟩⟩⟩⟩⟩⟩⟩⟩⟩⟩⟩⟩⟩⟩⟩⟩⟩⟩⟩⟩⟩⟩⟩⟩⟩
set_option maxHeartbeats 400000 in
theorem tT_0 : rThF (14, 65, 67, 69, 0, false) := ⟨RX9, "java/lang/IllegalArgumentException", ["java/lang/RuntimeException", "java/lang/Exception"], rfl, rfl, rfl, by decide +kernel, by decide +kernel, mA 207 (by decide +kernel), mA 40 (by decide +kernel), at_lw0, by decide +kernel⟩
set_option maxHeartbeats 400000 in
theorem tT_1 : rThF (14, 356, 358, 360, 2, true) := ⟨RX9, "java/lang/IndexOutOfBoundsException", ["java/lang/RuntimeException", "java/lang/Exception"], rfl, rfl, rfl, by decide +kernel, by decide +kernel, mA 267 (by decide +kernel), mA 48 (by decide +kernel), at_lw1, by decide +kernel⟩
set_option maxHeartbeats 400000 in
theorem tT_2 : rThF (14, 65, 165, 69, 0, false) := ⟨RX9, "java/lang/IllegalArgumentException", ["java/lang/RuntimeException", "java/lang/Exception"], rfl, rfl, rfl, by decide +kernel, by decide +kernel, mA 207 (by decide +kernel), mA 40 (by decide +kernel), at_lw0, by decide +kernel⟩
set_option maxHeartbeats 400000 in
theorem tT_3 : rThF (14, 356, 395, 360, 2, true) := ⟨RX9, "java/lang/IndexOutOfBoundsException", ["java/lang/RuntimeException", "java/lang/Exception"], rfl, rfl, rfl, by decide +kernel, by decide +kernel, mA 267 (by decide +kernel), mA 48 (by decide +kernel), at_lw1, by decide +kernel⟩
set_option maxHeartbeats 400000 in
theorem tT_4 : rThF (14, 65, 114, 69, 0, false) := ⟨RX9, "java/lang/IllegalArgumentException", ["java/lang/RuntimeException", "java/lang/Exception"], rfl, rfl, rfl, by decide +kernel, by decide +kernel, mA 207 (by decide +kernel), mA 40 (by decide +kernel), at_lw0, by decide +kernel⟩
set_option maxHeartbeats 400000 in
theorem tT_5 : rThF (14, 356, 459, 360, 2, true) := ⟨RX9, "java/lang/IndexOutOfBoundsException", ["java/lang/RuntimeException", "java/lang/Exception"], rfl, rfl, rfl, by decide +kernel, by decide +kernel, mA 267 (by decide +kernel), mA 48 (by decide +kernel), at_lw1, by decide +kernel⟩
set_option maxHeartbeats 400000 in
theorem tT_6 : rThF (14, 356, 463, 360, 2, true) := ⟨RX9, "java/lang/IndexOutOfBoundsException", ["java/lang/RuntimeException", "java/lang/Exception"], rfl, rfl, rfl, by decide +kernel, by decide +kernel, mA 267 (by decide +kernel), mA 48 (by decide +kernel), at_lw1, by decide +kernel⟩
set_option maxHeartbeats 400000 in
theorem tT_7 : rThF (14, 76, 465, 80, 1, true) := ⟨RX9, "java/lang/IllegalStateException", ["java/lang/RuntimeException", "java/lang/Exception"], rfl, rfl, rfl, by decide +kernel, by decide +kernel, mA 212 (by decide +kernel), mA 41 (by decide +kernel), at_lw2, by decide +kernel⟩
set_option maxHeartbeats 400000 in
theorem tT_8 : rThF (14, 356, 461, 360, 2, true) := ⟨RX9, "java/lang/IndexOutOfBoundsException", ["java/lang/RuntimeException", "java/lang/Exception"], rfl, rfl, rfl, by decide +kernel, by decide +kernel, mA 267 (by decide +kernel), mA 48 (by decide +kernel), at_lw1, by decide +kernel⟩
set_option maxHeartbeats 400000 in
theorem tT_9 : rThF (14, 431, 439, 435, 3, true) := ⟨RX9, "java/lang/ArithmeticException", ["java/lang/RuntimeException", "java/lang/Exception"], rfl, rfl, rfl, by decide +kernel, by decide +kernel, mA 574 (by decide +kernel), mA 51 (by decide +kernel), at_lw3, by decide +kernel⟩
set_option maxHeartbeats 400000 in
theorem tT_10 : rThF (14, 431, 433, 435, 3, true) := ⟨RX9, "java/lang/ArithmeticException", ["java/lang/RuntimeException", "java/lang/Exception"], rfl, rfl, rfl, by decide +kernel, by decide +kernel, mA 574 (by decide +kernel), mA 51 (by decide +kernel), at_lw3, by decide +kernel⟩
set_option maxHeartbeats 400000 in
theorem tT_11 : rThF (14, 76, 170, 80, 1, false) := ⟨RX9, "java/lang/IllegalStateException", ["java/lang/RuntimeException", "java/lang/Exception"], rfl, rfl, rfl, by decide +kernel, by decide +kernel, mA 212 (by decide +kernel), mA 41 (by decide +kernel), at_lw2, by decide +kernel⟩
set_option maxHeartbeats 400000 in
theorem tT_12 : rThF (14, 65, 108, 69, 0, false) := ⟨RX9, "java/lang/IllegalArgumentException", ["java/lang/RuntimeException", "java/lang/Exception"], rfl, rfl, rfl, by decide +kernel, by decide +kernel, mA 207 (by decide +kernel), mA 40 (by decide +kernel), at_lw0, by decide +kernel⟩
set_option maxHeartbeats 400000 in
theorem tT_ok : ∀ q ∈ tT, rThF q := List.forall_mem_cons.mpr ⟨tT_0, List.forall_mem_cons.mpr ⟨tT_1, List.forall_mem_cons.mpr ⟨tT_2, List.forall_mem_cons.mpr ⟨tT_3, List.forall_mem_cons.mpr ⟨tT_4, List.forall_mem_cons.mpr ⟨tT_5, List.forall_mem_cons.mpr ⟨tT_6, List.forall_mem_cons.mpr ⟨tT_7, List.forall_mem_cons.mpr ⟨tT_8, List.forall_mem_cons.mpr ⟨tT_9, List.forall_mem_cons.mpr ⟨tT_10, List.forall_mem_cons.mpr ⟨tT_11, List.forall_mem_cons.mpr ⟨tT_12, fun _ h => absurd h List.not_mem_nil⟩⟩⟩⟩⟩⟩⟩⟩⟩⟩⟩⟩⟩
