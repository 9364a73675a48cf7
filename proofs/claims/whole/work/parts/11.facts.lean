/-! the tables' facts, by program (wip/whole/gen2.py) -/
theorem wa_all {l : List Jvm.Cond} (h : l.all (fun w => decide (w ∈ lw_tbl) && goodWord w) = true) : ∀ x ∈ l, x ∈ WA := fun x hx => by
  have h1 := List.all_eq_true.mp h x hx
  simp only [Bool.and_eq_true, decide_eq_true_eq] at h1
  exact List.mem_filter.mpr h1
theorem inX0 : ∀ x ∈ u_ws RX0 TX0 8, x ∈ WA := wa_all (by decide +kernel)
theorem inX1 : ∀ x ∈ u_ws RX1 TX1 4, x ∈ WA := wa_all (by decide +kernel)
theorem inX2 : ∀ x ∈ u_ws RX2 TX2 5, x ∈ WA := wa_all (by decide +kernel)
theorem inX3 : ∀ x ∈ u_ws RX3 TX3 7, x ∈ WA := wa_all (by decide +kernel)
theorem inX4 : ∀ x ∈ u_ws RX4 TX4 18, x ∈ WA := wa_all (by decide +kernel)
theorem fd_X3_12 : mFd RX3 12 3 0 := ⟨RX3, TX3, 7, rfl, inX3, by decide, wa_m 175 (by decide +kernel) rfl⟩
theorem fp_X3_12 : mFp RX3 12 3 0 (.object "Copperleaf$Pages") true := ⟨RX3, TX3, 7, tyX3, rfl, inX3, by decide, wa_m 175 (by decide +kernel) rfl, tyX3_ok, nmX3, rfl, by decide +kernel, fun h => by first | rfl | cases h⟩
theorem fd_X3_19 : mFd RX3 19 3 1 := ⟨RX3, TX3, 7, rfl, inX3, by decide, wa_m 176 (by decide +kernel) rfl⟩
theorem fp_X3_19 : mFp RX3 19 3 1 (.object "Copperleaf$State") true := ⟨RX3, TX3, 7, tyX3, rfl, inX3, by decide, wa_m 176 (by decide +kernel) rfl, tyX3_ok, nmX3, rfl, by decide +kernel, fun h => by first | rfl | cases h⟩
theorem fd_X3_23 : mFd RX3 23 3 2 := ⟨RX3, TX3, 7, rfl, inX3, by decide, wa_m 177 (by decide +kernel) rfl⟩
theorem fp_X3_23 : mFp RX3 23 3 2 (.object "Copperleaf$State") true := ⟨RX3, TX3, 7, tyX3, rfl, inX3, by decide, wa_m 177 (by decide +kernel) rfl, tyX3_ok, nmX3, rfl, by decide +kernel, fun h => by first | rfl | cases h⟩
theorem fd_X3_31 : mFd RX3 31 3 3 := ⟨RX3, TX3, 7, rfl, inX3, by decide, wa_m 178 (by decide +kernel) rfl⟩
theorem fp_X3_31 : mFp RX3 31 3 3 (.object "Copperleaf$Writer") true := ⟨RX3, TX3, 7, tyX3, rfl, inX3, by decide, wa_m 178 (by decide +kernel) rfl, tyX3_ok, nmX3, rfl, by decide +kernel, fun h => by first | rfl | cases h⟩
theorem fd_X3_35 : mFd RX3 35 3 4 := ⟨RX3, TX3, 7, rfl, inX3, by decide, wa_m 179 (by decide +kernel) rfl⟩
theorem fp_X3_35 : mFp RX3 35 3 4 (.array (.object "Copperleaf$State")) true := ⟨RX3, TX3, 7, tyX3, rfl, inX3, by decide, wa_m 179 (by decide +kernel) rfl, tyX3_ok, nmX3, rfl, by decide +kernel, fun h => by first | rfl | cases h⟩
theorem fd_X3_39 : mFd RX3 39 3 5 := ⟨RX3, TX3, 7, rfl, inX3, by decide, wa_m 180 (by decide +kernel) rfl⟩
theorem fp_X3_39 : mFp RX3 39 3 5 (.array .long) true := ⟨RX3, TX3, 7, tyX3, rfl, inX3, by decide, wa_m 180 (by decide +kernel) rfl, tyX3_ok, nmX3, rfl, by decide +kernel, fun h => by first | rfl | cases h⟩
theorem fd_X3_43 : mFd RX3 43 3 6 := ⟨RX3, TX3, 7, rfl, inX3, by decide, wa_m 181 (by decide +kernel) rfl⟩
theorem fp_X3_43 : mFp RX3 43 3 6 .int false := ⟨RX3, TX3, 7, tyX3, rfl, inX3, by decide, wa_m 181 (by decide +kernel) rfl, tyX3_ok, nmX3, rfl, by decide +kernel, fun h => by first | rfl | cases h⟩
theorem fd_X3_47 : mFd RX3 47 0 4 := ⟨RX0, TX0, 8, rfl, inX0, by decide, wa_m 82 (by decide +kernel) rfl⟩
theorem fd_X3_51 : mFd RX3 51 1 1 := ⟨RX1, TX1, 4, rfl, inX1, by decide, wa_m 115 (by decide +kernel) rfl⟩
theorem fp_X3_51 : mFp RX3 51 1 1 .int false := ⟨RX1, TX1, 4, tyX1, rfl, inX1, by decide, wa_m 115 (by decide +kernel) rfl, tyX1_ok, nmX1, rfl, by decide +kernel, fun h => by first | rfl | cases h⟩
theorem fd_X3_58 : mFd RX3 58 1 3 := ⟨RX1, TX1, 4, rfl, inX1, by decide, wa_m 121 (by decide +kernel) rfl⟩
theorem fp_X3_58 : mFp RX3 58 1 3 .boolean false := ⟨RX1, TX1, 4, tyX1, rfl, inX1, by decide, wa_m 121 (by decide +kernel) rfl, tyX1_ok, nmX1, rfl, by decide +kernel, fun h => by first | rfl | cases h⟩
theorem fd_X3_73 : mFd RX3 73 1 0 := ⟨RX1, TX1, 4, rfl, inX1, by decide, wa_m 114 (by decide +kernel) rfl⟩
theorem fp_X3_73 : mFp RX3 73 1 0 .int false := ⟨RX1, TX1, 4, tyX1, rfl, inX1, by decide, wa_m 114 (by decide +kernel) rfl, tyX1_ok, nmX1, rfl, by decide +kernel, fun h => by first | rfl | cases h⟩
theorem fd_X3_121 : mFd RX3 121 0 6 := ⟨RX0, TX0, 8, rfl, inX0, by decide, wa_m 86 (by decide +kernel) rfl⟩
theorem fd_X3_135 : mFd RX3 135 1 2 := ⟨RX1, TX1, 4, rfl, inX1, by decide, wa_m 120 (by decide +kernel) rfl⟩
theorem fp_X3_135 : mFp RX3 135 1 2 .int false := ⟨RX1, TX1, 4, tyX1, rfl, inX1, by decide, wa_m 120 (by decide +kernel) rfl, tyX1_ok, nmX1, rfl, by decide +kernel, fun h => by first | rfl | cases h⟩
theorem fd_X3_233 : mFd RX3 233 0 5 := ⟨RX0, TX0, 8, rfl, inX0, by decide, wa_m 84 (by decide +kernel) rfl⟩
theorem fd_X0_9 : mFd RX0 9 0 0 := ⟨RX0, TX0, 8, rfl, inX0, by decide, wa_m 77 (by decide +kernel) rfl⟩
theorem fp_X0_9 : mFp RX0 9 0 0 (.array .int) true := ⟨RX0, TX0, 8, tyX0, rfl, inX0, by decide, wa_m 77 (by decide +kernel) rfl, tyX0_ok, nmX0, rfl, by decide +kernel, fun h => by first | rfl | cases h⟩
theorem fd_X0_15 : mFd RX0 15 0 1 := ⟨RX0, TX0, 8, rfl, inX0, by decide, wa_m 78 (by decide +kernel) rfl⟩
theorem fp_X0_15 : mFp RX0 15 0 1 (.array .boolean) true := ⟨RX0, TX0, 8, tyX0, rfl, inX0, by decide, wa_m 78 (by decide +kernel) rfl, tyX0_ok, nmX0, rfl, by decide +kernel, fun h => by first | rfl | cases h⟩
theorem fd_X0_19 : mFd RX0 19 0 2 := ⟨RX0, TX0, 8, rfl, inX0, by decide, wa_m 79 (by decide +kernel) rfl⟩
theorem fp_X0_19 : mFp RX0 19 0 2 (.array .int) true := ⟨RX0, TX0, 8, tyX0, rfl, inX0, by decide, wa_m 79 (by decide +kernel) rfl, tyX0_ok, nmX0, rfl, by decide +kernel, fun h => by first | rfl | cases h⟩
theorem fd_X0_22 : mFd RX0 22 0 3 := ⟨RX0, TX0, 8, rfl, inX0, by decide, wa_m 80 (by decide +kernel) rfl⟩
theorem fp_X0_22 : mFp RX0 22 0 3 (.array .int) true := ⟨RX0, TX0, 8, tyX0, rfl, inX0, by decide, wa_m 80 (by decide +kernel) rfl, tyX0_ok, nmX0, rfl, by decide +kernel, fun h => by first | rfl | cases h⟩
theorem fd_X0_25 : mFd RX0 25 0 4 := ⟨RX0, TX0, 8, rfl, inX0, by decide, wa_m 81 (by decide +kernel) rfl⟩
theorem fp_X0_25 : mFp RX0 25 0 4 (.array .boolean) true := ⟨RX0, TX0, 8, tyX0, rfl, inX0, by decide, wa_m 81 (by decide +kernel) rfl, tyX0_ok, nmX0, rfl, by decide +kernel, fun h => by first | rfl | cases h⟩
theorem fd_X0_28 : mFd RX0 28 0 5 := ⟨RX0, TX0, 8, rfl, inX0, by decide, wa_m 83 (by decide +kernel) rfl⟩
theorem fp_X0_28 : mFp RX0 28 0 5 (.array .boolean) true := ⟨RX0, TX0, 8, tyX0, rfl, inX0, by decide, wa_m 83 (by decide +kernel) rfl, tyX0_ok, nmX0, rfl, by decide +kernel, fun h => by first | rfl | cases h⟩
theorem fd_X0_31 : mFd RX0 31 0 6 := ⟨RX0, TX0, 8, rfl, inX0, by decide, wa_m 85 (by decide +kernel) rfl⟩
theorem fp_X0_31 : mFp RX0 31 0 6 (.array .boolean) true := ⟨RX0, TX0, 8, tyX0, rfl, inX0, by decide, wa_m 85 (by decide +kernel) rfl, tyX0_ok, nmX0, rfl, by decide +kernel, fun h => by first | rfl | cases h⟩
theorem fd_X0_34 : mFd RX0 34 0 7 := ⟨RX0, TX0, 8, rfl, inX0, by decide, wa_m 87 (by decide +kernel) rfl⟩
theorem fp_X0_34 : mFp RX0 34 0 7 (.array .int) true := ⟨RX0, TX0, 8, tyX0, rfl, inX0, by decide, wa_m 87 (by decide +kernel) rfl, tyX0_ok, nmX0, rfl, by decide +kernel, fun h => by first | rfl | cases h⟩
theorem fd_X1_7 : mFd RX1 7 1 0 := ⟨RX1, TX1, 4, rfl, inX1, by decide, wa_m 113 (by decide +kernel) rfl⟩
theorem fp_X1_7 : mFp RX1 7 1 0 .int false := ⟨RX1, TX1, 4, tyX1, rfl, inX1, by decide, wa_m 113 (by decide +kernel) rfl, tyX1_ok, nmX1, rfl, by decide +kernel, fun h => by first | rfl | cases h⟩
theorem fd_X1_13 : mFd RX1 13 1 1 := ⟨RX1, TX1, 4, rfl, inX1, by decide, wa_m 116 (by decide +kernel) rfl⟩
theorem fp_X1_13 : mFp RX1 13 1 1 .int false := ⟨RX1, TX1, 4, tyX1, rfl, inX1, by decide, wa_m 116 (by decide +kernel) rfl, tyX1_ok, nmX1, rfl, by decide +kernel, fun h => by first | rfl | cases h⟩
theorem fd_X1_16 : mFd RX1 16 1 2 := ⟨RX1, TX1, 4, rfl, inX1, by decide, wa_m 118 (by decide +kernel) rfl⟩
theorem fp_X1_16 : mFp RX1 16 1 2 .int false := ⟨RX1, TX1, 4, tyX1, rfl, inX1, by decide, wa_m 118 (by decide +kernel) rfl, tyX1_ok, nmX1, rfl, by decide +kernel, fun h => by first | rfl | cases h⟩
theorem fp_X1_19 : mFp RX1 19 1 3 .boolean false := ⟨RX1, TX1, 4, tyX1, rfl, inX1, by decide, wa_m 122 (by decide +kernel) rfl, tyX1_ok, nmX1, rfl, by decide +kernel, fun h => by first | rfl | cases h⟩
theorem fd_X2_9 : mFd RX2 9 2 2 := ⟨RX2, TX2, 5, rfl, inX2, by decide, wa_m 140 (by decide +kernel) rfl⟩
theorem fp_X2_9 : mFp RX2 9 2 2 (.array .int) true := ⟨RX2, TX2, 5, tyX2, rfl, inX2, by decide, wa_m 140 (by decide +kernel) rfl, tyX2_ok, nmX2, rfl, by decide +kernel, fun h => by first | rfl | cases h⟩
theorem fd_X2_15 : mFd RX2 15 2 3 := ⟨RX2, TX2, 5, rfl, inX2, by decide, wa_m 141 (by decide +kernel) rfl⟩
theorem fp_X2_15 : mFp RX2 15 2 3 (.array .int) true := ⟨RX2, TX2, 5, tyX2, rfl, inX2, by decide, wa_m 141 (by decide +kernel) rfl, tyX2_ok, nmX2, rfl, by decide +kernel, fun h => by first | rfl | cases h⟩
theorem fd_X2_18 : mFd RX2 18 2 0 := ⟨RX2, TX2, 5, rfl, inX2, by decide, wa_m 138 (by decide +kernel) rfl⟩
theorem fp_X2_18 : mFp RX2 18 2 0 (.object "Copperleaf$Pages") true := ⟨RX2, TX2, 5, tyX2, rfl, inX2, by decide, wa_m 138 (by decide +kernel) rfl, tyX2_ok, nmX2, rfl, by decide +kernel, fun h => by first | rfl | cases h⟩
theorem fd_X2_22 : mFd RX2 22 2 1 := ⟨RX2, TX2, 5, rfl, inX2, by decide, wa_m 139 (by decide +kernel) rfl⟩
theorem fp_X2_22 : mFp RX2 22 2 1 (.object "Copperleaf$State") true := ⟨RX2, TX2, 5, tyX2, rfl, inX2, by decide, wa_m 139 (by decide +kernel) rfl, tyX2_ok, nmX2, rfl, by decide +kernel, fun h => by first | rfl | cases h⟩
theorem fd_X2_48 : mFd RX2 48 1 2 := ⟨RX1, TX1, 4, rfl, inX1, by decide, wa_m 119 (by decide +kernel) rfl⟩
theorem fp_X2_48 : mFp RX2 48 1 2 .int false := ⟨RX1, TX1, 4, tyX1, rfl, inX1, by decide, wa_m 119 (by decide +kernel) rfl, tyX1_ok, nmX1, rfl, by decide +kernel, fun h => by first | rfl | cases h⟩
theorem fd_X2_61 : mFd RX2 61 2 4 := ⟨RX2, TX2, 5, rfl, inX2, by decide, wa_m 142 (by decide +kernel) rfl⟩
theorem fp_X2_61 : mFp RX2 61 2 4 .int false := ⟨RX2, TX2, 5, tyX2, rfl, inX2, by decide, wa_m 142 (by decide +kernel) rfl, tyX2_ok, nmX2, rfl, by decide +kernel, fun h => by first | rfl | cases h⟩
theorem fd_X2_73 : mFd RX2 73 1 1 := ⟨RX1, TX1, 4, rfl, inX1, by decide, wa_m 117 (by decide +kernel) rfl⟩
theorem fp_X2_73 : mFp RX2 73 1 1 .int false := ⟨RX1, TX1, 4, tyX1, rfl, inX1, by decide, wa_m 117 (by decide +kernel) rfl, tyX1_ok, nmX1, rfl, by decide +kernel, fun h => by first | rfl | cases h⟩
theorem fd_X4_7 : mFd RX4 7 4 0 := ⟨RX4, TX4, 18, rfl, inX4, by decide, wa_m 750 (by decide +kernel) rfl⟩
theorem fp_X4_7 : mFp RX4 7 4 0 (.array .int) true := ⟨RX4, TX4, 18, tyX4, rfl, inX4, by decide, wa_m 750 (by decide +kernel) rfl, tyX4_ok, nmX4, rfl, by decide +kernel, fun h => by first | rfl | cases h⟩
theorem fd_X4_13 : mFd RX4 13 4 1 := ⟨RX4, TX4, 18, rfl, inX4, by decide, wa_m 751 (by decide +kernel) rfl⟩
theorem fp_X4_13 : mFp RX4 13 4 1 (.array .boolean) true := ⟨RX4, TX4, 18, tyX4, rfl, inX4, by decide, wa_m 751 (by decide +kernel) rfl, tyX4_ok, nmX4, rfl, by decide +kernel, fun h => by first | rfl | cases h⟩
theorem fd_X4_17 : mFd RX4 17 4 2 := ⟨RX4, TX4, 18, rfl, inX4, by decide, wa_m 752 (by decide +kernel) rfl⟩
theorem fp_X4_17 : mFp RX4 17 4 2 (.array .int) true := ⟨RX4, TX4, 18, tyX4, rfl, inX4, by decide, wa_m 752 (by decide +kernel) rfl, tyX4_ok, nmX4, rfl, by decide +kernel, fun h => by first | rfl | cases h⟩
theorem fd_X4_20 : mFd RX4 20 4 3 := ⟨RX4, TX4, 18, rfl, inX4, by decide, wa_m 753 (by decide +kernel) rfl⟩
theorem fp_X4_20 : mFp RX4 20 4 3 (.array .int) true := ⟨RX4, TX4, 18, tyX4, rfl, inX4, by decide, wa_m 753 (by decide +kernel) rfl, tyX4_ok, nmX4, rfl, by decide +kernel, fun h => by first | rfl | cases h⟩
theorem fd_X4_23 : mFd RX4 23 4 4 := ⟨RX4, TX4, 18, rfl, inX4, by decide, wa_m 754 (by decide +kernel) rfl⟩
theorem fp_X4_23 : mFp RX4 23 4 4 (.array .boolean) true := ⟨RX4, TX4, 18, tyX4, rfl, inX4, by decide, wa_m 754 (by decide +kernel) rfl, tyX4_ok, nmX4, rfl, by decide +kernel, fun h => by first | rfl | cases h⟩
theorem fd_X4_26 : mFd RX4 26 4 5 := ⟨RX4, TX4, 18, rfl, inX4, by decide, wa_m 755 (by decide +kernel) rfl⟩
theorem fp_X4_26 : mFp RX4 26 4 5 (.array .boolean) true := ⟨RX4, TX4, 18, tyX4, rfl, inX4, by decide, wa_m 755 (by decide +kernel) rfl, tyX4_ok, nmX4, rfl, by decide +kernel, fun h => by first | rfl | cases h⟩
theorem fd_X4_29 : mFd RX4 29 4 6 := ⟨RX4, TX4, 18, rfl, inX4, by decide, wa_m 756 (by decide +kernel) rfl⟩
theorem fp_X4_29 : mFp RX4 29 4 6 (.array .int) true := ⟨RX4, TX4, 18, tyX4, rfl, inX4, by decide, wa_m 756 (by decide +kernel) rfl, tyX4_ok, nmX4, rfl, by decide +kernel, fun h => by first | rfl | cases h⟩
theorem fd_X4_32 : mFd RX4 32 4 9 := ⟨RX4, TX4, 18, rfl, inX4, by decide, wa_m 759 (by decide +kernel) rfl⟩
theorem fp_X4_32 : mFp RX4 32 4 9 .int false := ⟨RX4, TX4, 18, tyX4, rfl, inX4, by decide, wa_m 759 (by decide +kernel) rfl, tyX4_ok, nmX4, rfl, by decide +kernel, fun h => by first | rfl | cases h⟩
theorem fd_X4_36 : mFd RX4 36 4 11 := ⟨RX4, TX4, 18, rfl, inX4, by decide, wa_m 761 (by decide +kernel) rfl⟩
theorem fp_X4_36 : mFp RX4 36 4 11 (.array .long) true := ⟨RX4, TX4, 18, tyX4, rfl, inX4, by decide, wa_m 761 (by decide +kernel) rfl, tyX4_ok, nmX4, rfl, by decide +kernel, fun h => by first | rfl | cases h⟩
theorem fd_X4_40 : mFd RX4 40 4 12 := ⟨RX4, TX4, 18, rfl, inX4, by decide, wa_m 762 (by decide +kernel) rfl⟩
theorem fp_X4_40 : mFp RX4 40 4 12 (.array .int) true := ⟨RX4, TX4, 18, tyX4, rfl, inX4, by decide, wa_m 762 (by decide +kernel) rfl, tyX4_ok, nmX4, rfl, by decide +kernel, fun h => by first | rfl | cases h⟩
theorem fd_X4_43 : mFd RX4 43 4 13 := ⟨RX4, TX4, 18, rfl, inX4, by decide, wa_m 763 (by decide +kernel) rfl⟩
theorem fp_X4_43 : mFp RX4 43 4 13 (.array .int) true := ⟨RX4, TX4, 18, tyX4, rfl, inX4, by decide, wa_m 763 (by decide +kernel) rfl, tyX4_ok, nmX4, rfl, by decide +kernel, fun h => by first | rfl | cases h⟩
theorem fd_X4_46 : mFd RX4 46 4 15 := ⟨RX4, TX4, 18, rfl, inX4, by decide, wa_m 765 (by decide +kernel) rfl⟩
theorem fp_X4_46 : mFp RX4 46 4 15 (.array .int) true := ⟨RX4, TX4, 18, tyX4, rfl, inX4, by decide, wa_m 765 (by decide +kernel) rfl, tyX4_ok, nmX4, rfl, by decide +kernel, fun h => by first | rfl | cases h⟩
theorem fd_X4_49 : mFd RX4 49 4 16 := ⟨RX4, TX4, 18, rfl, inX4, by decide, wa_m 766 (by decide +kernel) rfl⟩
theorem fp_X4_49 : mFp RX4 49 4 16 (.array .int) true := ⟨RX4, TX4, 18, tyX4, rfl, inX4, by decide, wa_m 766 (by decide +kernel) rfl, tyX4_ok, nmX4, rfl, by decide +kernel, fun h => by first | rfl | cases h⟩
theorem fd_X4_55 : mFd RX4 55 4 14 := ⟨RX4, TX4, 18, rfl, inX4, by decide, wa_m 764 (by decide +kernel) rfl⟩
theorem fp_X4_55 : mFp RX4 55 4 14 .int false := ⟨RX4, TX4, 18, tyX4, rfl, inX4, by decide, wa_m 764 (by decide +kernel) rfl, tyX4_ok, nmX4, rfl, by decide +kernel, fun h => by first | rfl | cases h⟩
theorem fd_X4_61 : mFd RX4 61 4 8 := ⟨RX4, TX4, 18, rfl, inX4, by decide, wa_m 758 (by decide +kernel) rfl⟩
theorem fp_X4_61 : mFp RX4 61 4 8 .int false := ⟨RX4, TX4, 18, tyX4, rfl, inX4, by decide, wa_m 758 (by decide +kernel) rfl, tyX4_ok, nmX4, rfl, by decide +kernel, fun h => by first | rfl | cases h⟩
theorem fd_X4_91 : mFd RX4 91 4 17 := ⟨RX4, TX4, 18, rfl, inX4, by decide, wa_m 767 (by decide +kernel) rfl⟩
theorem fp_X4_91 : mFp RX4 91 4 17 .int false := ⟨RX4, TX4, 18, tyX4, rfl, inX4, by decide, wa_m 767 (by decide +kernel) rfl, tyX4_ok, nmX4, rfl, by decide +kernel, fun h => by first | rfl | cases h⟩
theorem fd_X4_122 : mFd RX4 122 4 7 := ⟨RX4, TX4, 18, rfl, inX4, by decide, wa_m 757 (by decide +kernel) rfl⟩
theorem fp_X4_122 : mFp RX4 122 4 7 .int false := ⟨RX4, TX4, 18, tyX4, rfl, inX4, by decide, wa_m 757 (by decide +kernel) rfl, tyX4_ok, nmX4, rfl, by decide +kernel, fun h => by first | rfl | cases h⟩
theorem fd_X4_150 : mFd RX4 150 4 10 := ⟨RX4, TX4, 18, rfl, inX4, by decide, wa_m 760 (by decide +kernel) rfl⟩
theorem fp_X4_150 : mFp RX4 150 4 10 .int false := ⟨RX4, TX4, 18, tyX4, rfl, inX4, by decide, wa_m 760 (by decide +kernel) rfl, tyX4_ok, nmX4, rfl, by decide +kernel, fun h => by first | rfl | cases h⟩
def m_X0_init : mM := (yX0_init, cX0_init, 1, none, { frames := 1, cells := 8, slots := 12800, locals := 12 }, [], true, some 2, none)
theorem ok_X0_init : mOk m_X0_init := wa_m 75 (by decide +kernel) rfl
def m_X0_isCell : mM := (yX0_isCell, cX0_isCell, 2, (some .boolean), { frames := 0, cells := 0, slots := 0, locals := 0 }, [], false, none, none)
theorem ok_X0_isCell : mOk m_X0_isCell := wa_m 398 (by decide +kernel) rfl
def m_X0_isVacant : mM := (yX0_isVacant, cX0_isVacant, 2, (some .boolean), { frames := 0, cells := 0, slots := 0, locals := 0 }, [], false, none, none)
theorem ok_X0_isVacant : mOk m_X0_isVacant := wa_m 217 (by decide +kernel) rfl
def m_X0_leastVacant : mM := (yX0_leastVacant, cX0_leastVacant, 2, (some .int), { frames := 0, cells := 0, slots := 0, locals := 0 }, [], false, none, none)
theorem ok_X0_leastVacant : mOk m_X0_leastVacant := wa_m 225 (by decide +kernel) rfl
def m_X0_countOf : mM := (yX0_countOf, cX0_countOf, 2, (some .int), { frames := 0, cells := 0, slots := 0, locals := 0 }, [], false, none, none)
theorem ok_X0_countOf : mOk m_X0_countOf := wa_m 170 (by decide +kernel) rfl
def m_X0_isLeaf : mM := (yX0_isLeaf, cX0_isLeaf, 2, (some .boolean), { frames := 0, cells := 0, slots := 0, locals := 0 }, [], false, none, none)
theorem ok_X0_isLeaf : mOk m_X0_isLeaf := wa_m 166 (by decide +kernel) rfl
def m_X0_wordOf : mM := (yX0_wordOf, cX0_wordOf, 4, (some .int), { frames := 0, cells := 0, slots := 0, locals := 0 }, [], false, none, none)
theorem ok_X0_wordOf : mOk m_X0_wordOf := wa_m 174 (by decide +kernel) rfl
def m_X0_setWord : mM := (yX0_setWord, cX0_setWord, 4, none, { frames := 1, cells := 0, slots := 0, locals := 21 }, [], false, none, none)
theorem ok_X0_setWord : mOk m_X0_setWord := wa_m 416 (by decide +kernel) rfl
def m_X0_keyOf : mM := (yX0_keyOf, cX0_keyOf, 6, (some .int), { frames := 1, cells := 0, slots := 0, locals := 23 }, [], false, none, none)
theorem ok_X0_keyOf : mOk m_X0_keyOf := wa_m 407 (by decide +kernel) rfl
def m_X0_placeOf : mM := (yX0_placeOf, cX0_placeOf, 4, (some .int), { frames := 2, cells := 0, slots := 0, locals := 48 }, [], false, none, none)
theorem ok_X0_placeOf : mOk m_X0_placeOf := wa_m 420 (by decide +kernel) rfl
def m_X0_holds : mM := (yX0_holds, cX0_holds, 4, (some .boolean), { frames := 2, cells := 0, slots := 0, locals := 48 }, [], false, none, none)
theorem ok_X0_holds : mOk m_X0_holds := wa_m 424 (by decide +kernel) rfl
def m_X0_entryFor : mM := (yX0_entryFor, cX0_entryFor, 4, (some .int), { frames := 2, cells := 0, slots := 0, locals := 48 }, [], false, none, none)
theorem ok_X0_entryFor : mOk m_X0_entryFor := wa_m 403 (by decide +kernel) rfl
def m_X0_leafFor : mM := (yX0_leafFor, cX0_leafFor, 5, (some .int), { frames := 3, cells := 0, slots := 0, locals := 71 }, [], false, none, none)
theorem ok_X0_leafFor : mOk m_X0_leafFor := wa_m 467 (by decide +kernel) rfl
def m_X0_levelsFrom : mM := (yX0_levelsFrom, cX0_levelsFrom, 4, (some .int), { frames := 1, cells := 0, slots := 0, locals := 23 }, [], false, none, none)
theorem ok_X0_levelsFrom : mOk m_X0_levelsFrom := wa_m 641 (by decide +kernel) rfl
def m_X0_listTree : mM := (yX0_listTree, cX0_listTree, 7, (some .int), { frames := 1, cells := 0, slots := 0, locals := 23 }, [], false, none, none)
theorem ok_X0_listTree : mOk m_X0_listTree := wa_m 162 (by decide +kernel) rfl
def m_X0_unmark : mM := (yX0_unmark, cX0_unmark, 2, none, { frames := 0, cells := 0, slots := 0, locals := 0 }, [], false, none, none)
theorem ok_X0_unmark : mOk m_X0_unmark := wa_m 257 (by decide +kernel) rfl
def m_X0_markTree : mM := (yX0_markTree, cX0_markTree, 6, none, { frames := 2, cells := 0, slots := 0, locals := 49 }, [], false, none, none)
theorem ok_X0_markTree : mOk m_X0_markTree := wa_m 158 (by decide +kernel) rfl
def m_X0_countMarked : mM := (yX0_countMarked, cX0_countMarked, 6, (some .int), { frames := 2, cells := 0, slots := 0, locals := 49 }, [], false, none, none)
theorem ok_X0_countMarked : mOk m_X0_countMarked := wa_m 659 (by decide +kernel) rfl
def m_X0_leastKeyFrom : mM := (yX0_leastKeyFrom, cX0_leastKeyFrom, 7, (some .int), { frames := 3, cells := 0, slots := 0, locals := 71 }, [], false, none, none)
theorem ok_X0_leastKeyFrom : mOk m_X0_leastKeyFrom := wa_m 611 (by decide +kernel) rfl
def m_X0_keysBelow : mM := (yX0_keysBelow, cX0_keysBelow, 6, (some .int), { frames := 3, cells := 0, slots := 0, locals := 71 }, [], false, none, none)
theorem ok_X0_keysBelow : mOk m_X0_keysBelow := wa_m 623 (by decide +kernel) rfl
def m_X0_take : mM := (yX0_take, cX0_take, 3, (some .int), { frames := 1, cells := 0, slots := 0, locals := 21 }, [], false, none, none)
theorem ok_X0_take : mOk m_X0_take := wa_m 390 (by decide +kernel) rfl
def m_X0_leave : mM := (yX0_leave, cX0_leave, 2, none, { frames := 0, cells := 0, slots := 0, locals := 0 }, [], false, none, none)
theorem ok_X0_leave : mOk m_X0_leave := wa_m 509 (by decide +kernel) rfl
def m_X0_writeAnew : mM := (yX0_writeAnew, cX0_writeAnew, 3, (some .int), { frames := 2, cells := 0, slots := 0, locals := 46 }, [], false, none, none)
theorem ok_X0_writeAnew : mOk m_X0_writeAnew := wa_m 386 (by decide +kernel) rfl
def m_X0_insert : mM := (yX0_insert, cX0_insert, 8, none, { frames := 1, cells := 0, slots := 0, locals := 21 }, [], false, none, none)
theorem ok_X0_insert : mOk m_X0_insert := wa_m 428 (by decide +kernel) rfl
def m_X0_remove : mM := (yX0_remove, cX0_remove, 6, none, { frames := 1, cells := 0, slots := 0, locals := 21 }, [], false, none, none)
theorem ok_X0_remove : mOk m_X0_remove := wa_m 447 (by decide +kernel) rfl
def m_X0_append : mM := (yX0_append, cX0_append, 6, none, { frames := 1, cells := 0, slots := 0, locals := 21 }, [], false, none, none)
theorem ok_X0_append : mOk m_X0_append := wa_m 395 (by decide +kernel) rfl
def m_X0_move : mM := (yX0_move, cX0_move, 5, none, { frames := 2, cells := 0, slots := 0, locals := 48 }, [], false, none, none)
theorem ok_X0_move : mOk m_X0_move := wa_m 442 (by decide +kernel) rfl
def m_X1_init : mM := (yX1_init, cX1_init, 1, none, { frames := 1, cells := 0, slots := 0, locals := 12 }, [], true, none, none)
theorem ok_X1_init : mOk m_X1_init := wa_m 111 (by decide +kernel) rfl
def m_X1_become : mM := (yX1_become, cX1_become, 2, none, { frames := 0, cells := 0, slots := 0, locals := 0 }, [], false, none, none)
theorem ok_X1_become : mOk m_X1_become := wa_m 342 (by decide +kernel) rfl
def m_X2_init : mM := (yX2_init, cX2_init, 3, none, { frames := 1, cells := 2, slots := 16, locals := 12 }, [], true, some 13, none)
theorem ok_X2_init : mOk m_X2_init := wa_m 136 (by decide +kernel) rfl
def m_X2_store : mM := (yX2_store, cX2_store, 5, (some .boolean), { frames := 5, cells := 0, slots := 0, locals := 118 }, [], false, none, none)
theorem ok_X2_store : mOk m_X2_store := wa_m 378 (by decide +kernel) rfl
def m_X2_drop : mM := (yX2_drop, cX2_drop, 4, none, { frames := 5, cells := 0, slots := 0, locals := 121 }, [], false, none, none)
theorem ok_X2_drop : mOk m_X2_drop := wa_m 491 (by decide +kernel) rfl
def m_X2_writePath : mM := (yX2_writePath, cX2_writePath, 5, (some .int), { frames := 4, cells := 0, slots := 0, locals := 90 }, [], false, none, none)
theorem ok_X2_writePath : mOk m_X2_writePath := wa_m 382 (by decide +kernel) rfl
def m_X2_splitUpwards : mM := (yX2_splitUpwards, cX2_splitUpwards, 4, none, { frames := 4, cells := 0, slots := 0, locals := 95 }, [], false, none, none)
theorem ok_X2_splitUpwards : mOk m_X2_splitUpwards := wa_m 432 (by decide +kernel) rfl
def m_X2_splitOff : mM := (yX2_splitOff, cX2_splitOff, 4, (some .int), { frames := 3, cells := 0, slots := 0, locals := 72 }, [], false, none, none)
theorem ok_X2_splitOff : mOk m_X2_splitOff := wa_m 437 (by decide +kernel) rfl
def m_X2_growRoot : mM := (yX2_growRoot, cX2_growRoot, 4, none, { frames := 2, cells := 0, slots := 0, locals := 48 }, [], false, none, none)
theorem ok_X2_growRoot : mOk m_X2_growRoot := wa_m 451 (by decide +kernel) rfl
def m_X2_mend : mM := (yX2_mend, cX2_mend, 5, none, { frames := 4, cells := 0, slots := 0, locals := 97 }, [], false, none, none)
theorem ok_X2_mend : mOk m_X2_mend := wa_m 496 (by decide +kernel) rfl
def m_X2_writeBelow : mM := (yX2_writeBelow, cX2_writeBelow, 3, none, { frames := 3, cells := 0, slots := 0, locals := 68 }, [], false, none, none)
theorem ok_X2_writeBelow : mOk m_X2_writeBelow := wa_m 411 (by decide +kernel) rfl
def m_X2_lend : mM := (yX2_lend, cX2_lend, 6, none, { frames := 3, cells := 0, slots := 0, locals := 72 }, [], false, none, none)
theorem ok_X2_lend : mOk m_X2_lend := wa_m 500 (by decide +kernel) rfl
def m_X2_join : mM := (yX2_join, cX2_join, 4, none, { frames := 2, cells := 0, slots := 0, locals := 46 }, [], false, none, none)
theorem ok_X2_join : mOk m_X2_join := wa_m 504 (by decide +kernel) rfl
def m_X2_shrinkRoot : mM := (yX2_shrinkRoot, cX2_shrinkRoot, 2, none, { frames := 1, cells := 0, slots := 0, locals := 23 }, [], false, none, none)
theorem ok_X2_shrinkRoot : mOk m_X2_shrinkRoot := wa_m 513 (by decide +kernel) rfl
def m_X3_init : mM := (yX3_init, cX3_init, 2, none, { frames := 3, cells := 20, slots := 12865, locals := 74 }, [], true, some 1, none)
theorem ok_X3_init : mOk m_X3_init := wa_m 67 (by decide +kernel) rfl
def m_X3_beginBatch : mM := (yX3_beginBatch, cX3_beginBatch, 1, (some .int), { frames := 6, cells := 1, slots := 6, locals := 82 }, [], false, none, none)
theorem ok_X3_beginBatch : mOk m_X3_beginBatch := wa_m 269 (by decide +kernel) rfl
def m_X3_hasBatch : mM := (yX3_hasBatch, cX3_hasBatch, 1, (some .boolean), { frames := 0, cells := 0, slots := 0, locals := 0 }, [], false, none, none)
theorem ok_X3_hasBatch : mOk m_X3_hasBatch := wa_m 201 (by decide +kernel) rfl
def m_X3_put : mM := (yX3_put, cX3_put, 3, (some .boolean), { frames := 7, cells := 2, slots := 12, locals := 142 }, [], false, none, none)
theorem ok_X3_put : mOk m_X3_put := wa_m 350 (by decide +kernel) rfl
def m_X3_delete : mM := (yX3_delete, cX3_delete, 3, (some .int), { frames := 7, cells := 3, slots := 18, locals := 144 }, [], false, none, none)
theorem ok_X3_delete : mOk m_X3_delete := wa_m 459 (by decide +kernel) rfl
def m_X3_commit : mM := (yX3_commit, cX3_commit, 2, (some .int), { frames := 7, cells := 1, slots := 6, locals := 117 }, [], false, none, none)
theorem ok_X3_commit : mOk m_X3_commit := wa_m 520 (by decide +kernel) rfl
def m_X3_abandon : mM := (yX3_abandon, cX3_abandon, 2, (some .int), { frames := 7, cells := 1, slots := 6, locals := 117 }, [], false, none, none)
theorem ok_X3_abandon : mOk m_X3_abandon := wa_m 538 (by decide +kernel) rfl
def m_X3_openReader : mM := (yX3_openReader, cX3_openReader, 2, (some .int), { frames := 6, cells := 1, slots := 6, locals := 82 }, [], false, none, none)
theorem ok_X3_openReader : mOk m_X3_openReader := wa_m 546 (by decide +kernel) rfl
def m_X3_closeReader : mM := (yX3_closeReader, cX3_closeReader, 3, (some .int), { frames := 7, cells := 1, slots := 6, locals := 103 }, [], false, none, none)
theorem ok_X3_closeReader : mOk m_X3_closeReader := wa_m 555 (by decide +kernel) rfl
def m_X3_readers : mM := (yX3_readers, cX3_readers, 3, (some .int), { frames := 1, cells := 0, slots := 0, locals := 21 }, [], false, none, none)
theorem ok_X3_readers : mOk m_X3_readers := wa_m 205 (by decide +kernel) rfl
def m_X3_heldBy : mM := (yX3_heldBy, cX3_heldBy, 4, (some .int), { frames := 7, cells := 1, slots := 6, locals := 103 }, [], false, none, none)
theorem ok_X3_heldBy : mOk m_X3_heldBy := wa_m 582 (by decide +kernel) rfl
def m_X3_epochOf : mM := (yX3_epochOf, cX3_epochOf, 2, (some .int), { frames := 8, cells := 1, slots := 6, locals := 124 }, [], false, none, none)
theorem ok_X3_epochOf : mOk m_X3_epochOf := wa_m 589 (by decide +kernel) rfl
def m_X3_get : mM := (yX3_get, cX3_get, 4, (some .int), { frames := 8, cells := 3, slots := 18, locals := 124 }, [], false, none, none)
theorem ok_X3_get : mOk m_X3_get := wa_m 600 (by decide +kernel) rfl
def m_X3_next : mM := (yX3_next, cX3_next, 3, (some .int), { frames := 8, cells := 1, slots := 6, locals := 124 }, [], false, none, none)
theorem ok_X3_next : mOk m_X3_next := wa_m 607 (by decide +kernel) rfl
def m_X3_rank : mM := (yX3_rank, cX3_rank, 3, (some .int), { frames := 8, cells := 1, slots := 6, locals := 124 }, [], false, none, none)
theorem ok_X3_rank : mOk m_X3_rank := wa_m 619 (by decide +kernel) rfl
def m_X3_size : mM := (yX3_size, cX3_size, 2, (some .int), { frames := 8, cells := 1, slots := 6, locals := 124 }, [], false, none, none)
theorem ok_X3_size : mOk m_X3_size := wa_m 630 (by decide +kernel) rfl
def m_X3_depth : mM := (yX3_depth, cX3_depth, 2, (some .int), { frames := 8, cells := 1, slots := 6, locals := 124 }, [], false, none, none)
theorem ok_X3_depth : mOk m_X3_depth := wa_m 637 (by decide +kernel) rfl
def m_X3_rootOf : mM := (yX3_rootOf, cX3_rootOf, 2, (some .int), { frames := 8, cells := 1, slots := 6, locals := 124 }, [], false, none, none)
theorem ok_X3_rootOf : mOk m_X3_rootOf := wa_m 648 (by decide +kernel) rfl
def m_X3_sharedPages : mM := (yX3_sharedPages, cX3_sharedPages, 5, (some .int), { frames := 8, cells := 2, slots := 12, locals := 124 }, [], false, none, none)
theorem ok_X3_sharedPages : mOk m_X3_sharedPages := wa_m 655 (by decide +kernel) rfl
def m_X3_isFree : mM := (yX3_isFree, cX3_isFree, 2, (some .boolean), { frames := 6, cells := 1, slots := 6, locals := 82 }, [], false, none, none)
theorem ok_X3_isFree : mOk m_X3_isFree := wa_m 666 (by decide +kernel) rfl
def m_X3_pagesInUse : mM := (yX3_pagesInUse, cX3_pagesInUse, 3, (some .int), { frames := 1, cells := 0, slots := 0, locals := 21 }, [], false, none, none)
theorem ok_X3_pagesInUse : mOk m_X3_pagesInUse := wa_m 213 (by decide +kernel) rfl
def m_X3_leastFree : mM := (yX3_leastFree, cX3_leastFree, 1, (some .int), { frames := 1, cells := 0, slots := 0, locals := 21 }, [], false, none, none)
theorem ok_X3_leastFree : mOk m_X3_leastFree := wa_m 221 (by decide +kernel) rfl
def m_X3_entries : mM := (yX3_entries, cX3_entries, 2, (some .int), { frames := 7, cells := 1, slots := 6, locals := 103 }, [], false, none, none)
theorem ok_X3_entries : mOk m_X3_entries := wa_m 674 (by decide +kernel) rfl
def m_X3_keyAt : mM := (yX3_keyAt, cX3_keyAt, 3, (some .int), { frames := 8, cells := 2, slots := 12, locals := 125 }, [], false, none, none)
theorem ok_X3_keyAt : mOk m_X3_keyAt := wa_m 687 (by decide +kernel) rfl
def m_X3_pageAt : mM := (yX3_pageAt, cX3_pageAt, 3, (some .int), { frames := 8, cells := 2, slots := 12, locals := 125 }, [], false, none, none)
theorem ok_X3_pageAt : mOk m_X3_pageAt := wa_m 700 (by decide +kernel) rfl
def m_X3_currentSlot : mM := (yX3_currentSlot, cX3_currentSlot, 1, (some .int), { frames := 0, cells := 0, slots := 0, locals := 0 }, [], false, none, none)
theorem ok_X3_currentSlot : mOk m_X3_currentSlot := wa_m 229 (by decide +kernel) rfl
def m_X3_slotWord : mM := (yX3_slotWord, cX3_slotWord, 3, (some .long), { frames := 7, cells := 2, slots := 12, locals := 102 }, [], false, none, none)
theorem ok_X3_slotWord : mOk m_X3_slotWord := wa_m 708 (by decide +kernel) rfl
def m_X3_isWhole : mM := (yX3_isWhole, cX3_isWhole, 2, (some .boolean), { frames := 7, cells := 1, slots := 6, locals := 102 }, [], false, none, none)
theorem ok_X3_isWhole : mOk m_X3_isWhole := wa_m 720 (by decide +kernel) rfl
def m_X3_tear : mM := (yX3_tear, cX3_tear, 3, (some .int), { frames := 7, cells := 2, slots := 12, locals := 102 }, [], false, none, none)
theorem ok_X3_tear : mOk m_X3_tear := wa_m 727 (by decide +kernel) rfl
def m_X3_crash : mM := (yX3_crash, cX3_crash, 2, (some .int), { frames := 5, cells := 0, slots := 0, locals := 117 }, [], false, none, none)
theorem ok_X3_crash : mOk m_X3_crash := wa_m 233 (by decide +kernel) rfl
def m_X3_crashInCommit : mM := (yX3_crashInCommit, cX3_crashInCommit, 2, (some .int), { frames := 7, cells := 3, slots := 18, locals := 138 }, [], false, none, none)
theorem ok_X3_crashInCommit : mOk m_X3_crashInCommit := wa_m 736 (by decide +kernel) rfl
def m_X3_requireKey : mM := (yX3_requireKey, cX3_requireKey, 1, none, { frames := 6, cells := 1, slots := 6, locals := 82 }, [], false, none, none)
theorem ok_X3_requireKey : mOk m_X3_requireKey := wa_m 353 (by decide +kernel) rfl
def m_X3_requireBatch : mM := (yX3_requireBatch, cX3_requireBatch, 1, none, { frames := 6, cells := 1, slots := 6, locals := 82 }, [], false, none, none)
theorem ok_X3_requireBatch : mOk m_X3_requireBatch := wa_m 373 (by decide +kernel) rfl
def m_X3_requireReader : mM := (yX3_requireReader, cX3_requireReader, 2, none, { frames := 6, cells := 1, slots := 6, locals := 82 }, [], false, none, none)
theorem ok_X3_requireReader : mOk m_X3_requireReader := wa_m 559 (by decide +kernel) rfl
def m_X3_requirePage : mM := (yX3_requirePage, cX3_requirePage, 2, none, { frames := 6, cells := 1, slots := 6, locals := 82 }, [], false, none, none)
theorem ok_X3_requirePage : mOk m_X3_requirePage := wa_m 678 (by decide +kernel) rfl
def m_X3_requireEntry : mM := (yX3_requireEntry, cX3_requireEntry, 3, none, { frames := 7, cells := 2, slots := 12, locals := 103 }, [], false, none, none)
theorem ok_X3_requireEntry : mOk m_X3_requireEntry := wa_m 691 (by decide +kernel) rfl
def m_X3_requireSlot : mM := (yX3_requireSlot, cX3_requireSlot, 1, none, { frames := 6, cells := 1, slots := 6, locals := 82 }, [], false, none, none)
theorem ok_X3_requireSlot : mOk m_X3_requireSlot := wa_m 711 (by decide +kernel) rfl
def m_X3_viewed : mM := (yX3_viewed, cX3_viewed, 2, (some (.object "Copperleaf$State")), { frames := 7, cells := 1, slots := 6, locals := 103 }, [], false, none, none)
theorem ok_X3_viewed : mOk m_X3_viewed := wa_m 593 (by decide +kernel) rfl
def m_X3_valueIn : mM := (yX3_valueIn, cX3_valueIn, 5, (some .int), { frames := 6, cells := 1, slots := 6, locals := 95 }, [], false, none, none)
theorem ok_X3_valueIn : mOk m_X3_valueIn := wa_m 463 (by decide +kernel) rfl
def m_X3_isOpen : mM := (yX3_isOpen, cX3_isOpen, 2, (some .boolean), { frames := 0, cells := 0, slots := 0, locals := 0 }, [], false, none, none)
theorem ok_X3_isOpen : mOk m_X3_isOpen := wa_m 209 (by decide +kernel) rfl
def m_X3_endBatch : mM := (yX3_endBatch, cX3_endBatch, 1, none, { frames := 4, cells := 0, slots := 0, locals := 97 }, [], false, none, none)
theorem ok_X3_endBatch : mOk m_X3_endBatch := wa_m 254 (by decide +kernel) rfl
def m_X3_keepStates : mM := (yX3_keepStates, cX3_keepStates, 4, none, { frames := 3, cells := 0, slots := 0, locals := 74 }, [], false, none, none)
theorem ok_X3_keepStates : mOk m_X3_keepStates := wa_m 261 (by decide +kernel) rfl
def m_X3_otherSlot : mM := (yX3_otherSlot, cX3_otherSlot, 1, (some .int), { frames := 0, cells := 0, slots := 0, locals := 0 }, [], false, none, none)
theorem ok_X3_otherSlot : mOk m_X3_otherSlot := wa_m 523 (by decide +kernel) rfl
def m_X3_wordIn : mM := (yX3_wordIn, cX3_wordIn, 4, (some .long), { frames := 0, cells := 0, slots := 0, locals := 0 }, [], false, none, none)
theorem ok_X3_wordIn : mOk m_X3_wordIn := wa_m 245 (by decide +kernel) rfl
def m_X3_sumsUp : mM := (yX3_sumsUp, cX3_sumsUp, 4, (some .boolean), { frames := 1, cells := 0, slots := 0, locals := 25 }, [], false, none, none)
theorem ok_X3_sumsUp : mOk m_X3_sumsUp := wa_m 241 (by decide +kernel) rfl
def m_X3_sumOf : mM := (yX3_sumOf, cX3_sumOf, 6, (some .long), { frames := 0, cells := 0, slots := 0, locals := 0 }, [], false, none, none)
theorem ok_X3_sumOf : mOk m_X3_sumOf := wa_m 248 (by decide +kernel) rfl
def m_X3_writeSlot : mM := (yX3_writeSlot, cX3_writeSlot, 5, none, { frames := 2, cells := 0, slots := 0, locals := 46 }, [], false, none, none)
theorem ok_X3_writeSlot : mOk m_X3_writeSlot := wa_m 527 (by decide +kernel) rfl
def m_X3_wordOfBatch : mM := (yX3_wordOfBatch, cX3_wordOfBatch, 2, (some .long), { frames := 1, cells := 0, slots := 0, locals := 25 }, [], false, none, none)
theorem ok_X3_wordOfBatch : mOk m_X3_wordOfBatch := wa_m 531 (by decide +kernel) rfl
def m_X3_latestWholeSlot : mM := (yX3_latestWholeSlot, cX3_latestWholeSlot, 1, (some .int), { frames := 2, cells := 0, slots := 0, locals := 48 }, [], false, none, none)
theorem ok_X3_latestWholeSlot : mOk m_X3_latestWholeSlot := wa_m 237 (by decide +kernel) rfl
def m_X4_init : mM := (yX4_init, cX4_init, 1, none, { frames := 1, cells := 12, slots := 10840, locals := 21 }, [], true, some 22, none)
theorem ok_X4_init : mOk m_X4_init := wa_m 744 (by decide +kernel) rfl
def m_X4_thrown : mM := (yX4_thrown, cX4_thrown, 1, (some .int), { frames := 0, cells := 0, slots := 0, locals := 0 }, [], false, none, none)
theorem ok_X4_thrown : mOk m_X4_thrown := wa_m 808 (by decide +kernel) rfl
def m_X4_in : mM := (yX4_in, cX4_in, 3, (some .boolean), { frames := 0, cells := 0, slots := 0, locals := 0 }, [], false, none, none)
theorem ok_X4_in : mOk m_X4_in := wa_m 827 (by decide +kernel) rfl
def m_X4_goes : mM := (yX4_goes, cX4_goes, 4, (some .boolean), { frames := 0, cells := 0, slots := 0, locals := 0 }, [], false, none, none)
theorem ok_X4_goes : mOk m_X4_goes := wa_m 816 (by decide +kernel) rfl
def m_X4_closesAll : mM := (yX4_closesAll, cX4_closesAll, 2, none, { frames := 0, cells := 0, slots := 0, locals := 0 }, [], false, none, none)
theorem ok_X4_closesAll : mOk m_X4_closesAll := wa_m 749 (by decide +kernel) rfl
def m_X4_meets : mM := (yX4_meets, cX4_meets, 6, none, { frames := 0, cells := 0, slots := 0, locals := 0 }, [], false, none, none)
theorem ok_X4_meets : mOk m_X4_meets := wa_m 859 (by decide +kernel) rfl
def m_X4_forgets : mM := (yX4_forgets, cX4_forgets, 2, none, { frames := 0, cells := 0, slots := 0, locals := 0 }, [], false, none, none)
theorem ok_X4_forgets : mOk m_X4_forgets := wa_m 855 (by decide +kernel) rfl
def m_X4_meetsAll : mM := (yX4_meetsAll, cX4_meetsAll, 4, (some .int), { frames := 1, cells := 0, slots := 0, locals := 25 }, [], false, none, none)
theorem ok_X4_meetsAll : mOk m_X4_meetsAll := wa_m 851 (by decide +kernel) rfl
def m_X4_leastNotMet : mM := (yX4_leastNotMet, cX4_leastNotMet, 2, (some .int), { frames := 0, cells := 0, slots := 0, locals := 0 }, [], false, none, none)
theorem ok_X4_leastNotMet : mOk m_X4_leastNotMet := wa_m 869 (by decide +kernel) rfl
def m_X4_inUse : mM := (yX4_inUse, cX4_inUse, 2, (some .boolean), { frames := 2, cells := 0, slots := 0, locals := 48 }, [], false, none, none)
theorem ok_X4_inUse : mOk m_X4_inUse := wa_m 1017 (by decide +kernel) rfl
def m_X4_takes : mM := (yX4_takes, cX4_takes, 3, (some .int), { frames := 2, cells := 0, slots := 0, locals := 48 }, [], false, none, none)
theorem ok_X4_takes : mOk m_X4_takes := wa_m 847 (by decide +kernel) rfl
def m_X4_copies : mM := (yX4_copies, cX4_copies, 4, none, { frames := 0, cells := 0, slots := 0, locals := 0 }, [], false, none, none)
theorem ok_X4_copies : mOk m_X4_copies := wa_m 873 (by decide +kernel) rfl
def m_X4_lays : mM := (yX4_lays, cX4_lays, 6, none, { frames := 0, cells := 0, slots := 0, locals := 0 }, [], false, none, none)
theorem ok_X4_lays : mOk m_X4_lays := wa_m 889 (by decide +kernel) rfl
def m_X4_drops : mM := (yX4_drops, cX4_drops, 4, none, { frames := 0, cells := 0, slots := 0, locals := 0 }, [], false, none, none)
theorem ok_X4_drops : mOk m_X4_drops := wa_m 905 (by decide +kernel) rfl
def m_X4_moves : mM := (yX4_moves, cX4_moves, 5, none, { frames := 1, cells := 0, slots := 0, locals := 25 }, [], false, none, none)
theorem ok_X4_moves : mOk m_X4_moves := wa_m 897 (by decide +kernel) rfl
def m_X4_leastKey : mM := (yX4_leastKey, cX4_leastKey, 3, (some .int), { frames := 0, cells := 0, slots := 0, locals := 0 }, [], false, none, none)
theorem ok_X4_leastKey : mOk m_X4_leastKey := wa_m 839 (by decide +kernel) rfl
def m_X4_keyOf : mM := (yX4_keyOf, cX4_keyOf, 3, (some .int), { frames := 1, cells := 0, slots := 0, locals := 22 }, [], false, none, none)
theorem ok_X4_keyOf : mOk m_X4_keyOf := wa_m 835 (by decide +kernel) rfl
def m_X4_finds : mM := (yX4_finds, cX4_finds, 5, none, { frames := 2, cells := 0, slots := 0, locals := 44 }, [], false, none, none)
theorem ok_X4_finds : mOk m_X4_finds := wa_m 831 (by decide +kernel) rfl
def m_X4_place : mM := (yX4_place, cX4_place, 4, (some .int), { frames := 0, cells := 0, slots := 0, locals := 0 }, [], false, none, none)
theorem ok_X4_place : mOk m_X4_place := wa_m 881 (by decide +kernel) rfl
def m_X4_has : mM := (yX4_has, cX4_has, 4, (some .boolean), { frames := 0, cells := 0, slots := 0, locals := 0 }, [], false, none, none)
theorem ok_X4_has : mOk m_X4_has := wa_m 885 (by decide +kernel) rfl
def m_X4_own : mM := (yX4_own, cX4_own, 5, (some .int), { frames := 3, cells := 0, slots := 0, locals := 70 }, [], false, none, none)
theorem ok_X4_own : mOk m_X4_own := wa_m 877 (by decide +kernel) rfl
def m_X4_writesWay : mM := (yX4_writesWay, cX4_writesWay, 2, none, { frames := 4, cells := 0, slots := 0, locals := 94 }, [], false, none, none)
theorem ok_X4_writesWay : mOk m_X4_writesWay := wa_m 843 (by decide +kernel) rfl
def m_X4_splits : mM := (yX4_splits, cX4_splits, 5, none, { frames := 3, cells := 0, slots := 0, locals := 70 }, [], false, none, none)
theorem ok_X4_splits : mOk m_X4_splits := wa_m 893 (by decide +kernel) rfl
def m_X4_mends : mM := (yX4_mends, cX4_mends, 8, none, { frames := 4, cells := 0, slots := 0, locals := 94 }, [], false, none, none)
theorem ok_X4_mends : mOk m_X4_mends := wa_m 913 (by decide +kernel) rfl
def m_X4_joins : mM := (yX4_joins, cX4_joins, 2, none, { frames := 5, cells := 0, slots := 0, locals := 121 }, [], false, none, none)
theorem ok_X4_joins : mOk m_X4_joins := wa_m 909 (by decide +kernel) rfl
def m_X4_beginBatch : mM := (yX4_beginBatch, cX4_beginBatch, 2, (some .int), { frames := 1, cells := 0, slots := 0, locals := 23 }, [], false, none, none)
theorem ok_X4_beginBatch : mOk m_X4_beginBatch := wa_m 812 (by decide +kernel) rfl
def m_X4_hasBatch : mM := (yX4_hasBatch, cX4_hasBatch, 1, (some .boolean), { frames := 0, cells := 0, slots := 0, locals := 0 }, [], false, none, none)
theorem ok_X4_hasBatch : mOk m_X4_hasBatch := wa_m 820 (by decide +kernel) rfl
def m_X4_put : mM := (yX4_put, cX4_put, 5, (some .boolean), { frames := 5, cells := 0, slots := 0, locals := 115 }, [], false, none, none)
theorem ok_X4_put : mOk m_X4_put := wa_m 824 (by decide +kernel) rfl
def m_X4_delete : mM := (yX4_delete, cX4_delete, 5, (some .int), { frames := 6, cells := 0, slots := 0, locals := 142 }, [], false, none, none)
theorem ok_X4_delete : mOk m_X4_delete := wa_m 901 (by decide +kernel) rfl
def m_X4_word : mM := (yX4_word, cX4_word, 6, (some .long), { frames := 2, cells := 0, slots := 0, locals := 48 }, [], false, none, none)
theorem ok_X4_word : mOk m_X4_word := wa_m 925 (by decide +kernel) rfl
def m_X4_writes : mM := (yX4_writes, cX4_writes, 3, none, { frames := 3, cells := 0, slots := 0, locals := 73 }, [], false, none, none)
theorem ok_X4_writes : mOk m_X4_writes := wa_m 921 (by decide +kernel) rfl
def m_X4_reads : mM := (yX4_reads, cX4_reads, 2, (some .int), { frames := 0, cells := 0, slots := 0, locals := 0 }, [], false, none, none)
theorem ok_X4_reads : mOk m_X4_reads := wa_m 937 (by decide +kernel) rfl
def m_X4_commit : mM := (yX4_commit, cX4_commit, 1, (some .int), { frames := 4, cells := 0, slots := 0, locals := 95 }, [], false, none, none)
theorem ok_X4_commit : mOk m_X4_commit := wa_m 917 (by decide +kernel) rfl
def m_X4_abandon : mM := (yX4_abandon, cX4_abandon, 2, (some .int), { frames := 2, cells := 0, slots := 0, locals := 48 }, [], false, none, none)
theorem ok_X4_abandon : mOk m_X4_abandon := wa_m 941 (by decide +kernel) rfl
def m_X4_isReader : mM := (yX4_isReader, cX4_isReader, 2, (some .boolean), { frames := 1, cells := 0, slots := 0, locals := 22 }, [], false, none, none)
theorem ok_X4_isReader : mOk m_X4_isReader := wa_m 953 (by decide +kernel) rfl
def m_X4_openReader : mM := (yX4_openReader, cX4_openReader, 2, (some .int), { frames := 1, cells := 0, slots := 0, locals := 23 }, [], false, none, none)
theorem ok_X4_openReader : mOk m_X4_openReader := wa_m 945 (by decide +kernel) rfl
def m_X4_held : mM := (yX4_held, cX4_held, 3, (some .int), { frames := 2, cells := 0, slots := 0, locals := 48 }, [], false, none, none)
theorem ok_X4_held : mOk m_X4_held := wa_m 957 (by decide +kernel) rfl
def m_X4_closeReader : mM := (yX4_closeReader, cX4_closeReader, 3, (some .int), { frames := 3, cells := 0, slots := 0, locals := 70 }, [], false, none, none)
theorem ok_X4_closeReader : mOk m_X4_closeReader := wa_m 949 (by decide +kernel) rfl
def m_X4_readers : mM := (yX4_readers, cX4_readers, 3, (some .int), { frames := 0, cells := 0, slots := 0, locals := 0 }, [], false, none, none)
theorem ok_X4_readers : mOk m_X4_readers := wa_m 961 (by decide +kernel) rfl
def m_X4_heldBy : mM := (yX4_heldBy, cX4_heldBy, 2, (some .int), { frames := 3, cells := 0, slots := 0, locals := 70 }, [], false, none, none)
theorem ok_X4_heldBy : mOk m_X4_heldBy := wa_m 965 (by decide +kernel) rfl
def m_X4_isView : mM := (yX4_isView, cX4_isView, 2, (some .boolean), { frames := 2, cells := 0, slots := 0, locals := 43 }, [], false, none, none)
theorem ok_X4_isView : mOk m_X4_isView := wa_m 973 (by decide +kernel) rfl
def m_X4_top : mM := (yX4_top, cX4_top, 2, (some .int), { frames := 0, cells := 0, slots := 0, locals := 0 }, [], false, none, none)
theorem ok_X4_top : mOk m_X4_top := wa_m 981 (by decide +kernel) rfl
def m_X4_below : mM := (yX4_below, cX4_below, 8, (some .int), { frames := 0, cells := 0, slots := 0, locals := 0 }, [], false, none, none)
theorem ok_X4_below : mOk m_X4_below := wa_m 933 (by decide +kernel) rfl
def m_X4_keys : mM := (yX4_keys, cX4_keys, 2, (some .int), { frames := 1, cells := 0, slots := 0, locals := 27 }, [], false, none, none)
theorem ok_X4_keys : mOk m_X4_keys := wa_m 929 (by decide +kernel) rfl
def m_X4_epochOf : mM := (yX4_epochOf, cX4_epochOf, 2, (some .int), { frames := 3, cells := 0, slots := 0, locals := 64 }, [], false, none, none)
theorem ok_X4_epochOf : mOk m_X4_epochOf := wa_m 969 (by decide +kernel) rfl
def m_X4_get : mM := (yX4_get, cX4_get, 6, (some .int), { frames := 3, cells := 0, slots := 0, locals := 68 }, [], false, none, none)
theorem ok_X4_get : mOk m_X4_get := wa_m 977 (by decide +kernel) rfl
def m_X4_next : mM := (yX4_next, cX4_next, 4, (some .int), { frames := 3, cells := 0, slots := 0, locals := 68 }, [], false, none, none)
theorem ok_X4_next : mOk m_X4_next := wa_m 985 (by decide +kernel) rfl
def m_X4_rank : mM := (yX4_rank, cX4_rank, 3, (some .int), { frames := 3, cells := 0, slots := 0, locals := 64 }, [], false, none, none)
theorem ok_X4_rank : mOk m_X4_rank := wa_m 989 (by decide +kernel) rfl
def m_X4_size : mM := (yX4_size, cX4_size, 2, (some .int), { frames := 3, cells := 0, slots := 0, locals := 64 }, [], false, none, none)
theorem ok_X4_size : mOk m_X4_size := wa_m 993 (by decide +kernel) rfl
def m_X4_depth : mM := (yX4_depth, cX4_depth, 2, (some .int), { frames := 3, cells := 0, slots := 0, locals := 68 }, [], false, none, none)
theorem ok_X4_depth : mOk m_X4_depth := wa_m 997 (by decide +kernel) rfl
def m_X4_rootOf : mM := (yX4_rootOf, cX4_rootOf, 2, (some .int), { frames := 3, cells := 0, slots := 0, locals := 64 }, [], false, none, none)
theorem ok_X4_rootOf : mOk m_X4_rootOf := wa_m 1001 (by decide +kernel) rfl
def m_X4_shared : mM := (yX4_shared, cX4_shared, 6, (some .int), { frames := 0, cells := 0, slots := 0, locals := 0 }, [], false, none, none)
theorem ok_X4_shared : mOk m_X4_shared := wa_m 1009 (by decide +kernel) rfl
def m_X4_sharedPages : mM := (yX4_sharedPages, cX4_sharedPages, 3, (some .int), { frames := 3, cells := 0, slots := 0, locals := 64 }, [], false, none, none)
theorem ok_X4_sharedPages : mOk m_X4_sharedPages := wa_m 1005 (by decide +kernel) rfl
def m_X4_isFree : mM := (yX4_isFree, cX4_isFree, 2, (some .boolean), { frames := 3, cells := 0, slots := 0, locals := 69 }, [], false, none, none)
theorem ok_X4_isFree : mOk m_X4_isFree := wa_m 1013 (by decide +kernel) rfl
def m_X4_pagesInUse : mM := (yX4_pagesInUse, cX4_pagesInUse, 1, (some .int), { frames := 2, cells := 0, slots := 0, locals := 48 }, [], false, none, none)
theorem ok_X4_pagesInUse : mOk m_X4_pagesInUse := wa_m 1021 (by decide +kernel) rfl
def m_X4_leastFree : mM := (yX4_leastFree, cX4_leastFree, 1, (some .int), { frames := 2, cells := 0, slots := 0, locals := 48 }, [], false, none, none)
theorem ok_X4_leastFree : mOk m_X4_leastFree := wa_m 1025 (by decide +kernel) rfl
def m_X4_entries : mM := (yX4_entries, cX4_entries, 2, (some .int), { frames := 3, cells := 0, slots := 0, locals := 69 }, [], false, none, none)
theorem ok_X4_entries : mOk m_X4_entries := wa_m 1029 (by decide +kernel) rfl
def m_X4_isEntry : mM := (yX4_isEntry, cX4_isEntry, 3, (some .boolean), { frames := 3, cells := 0, slots := 0, locals := 69 }, [], false, none, none)
theorem ok_X4_isEntry : mOk m_X4_isEntry := wa_m 1037 (by decide +kernel) rfl
def m_X4_keyAt : mM := (yX4_keyAt, cX4_keyAt, 3, (some .int), { frames := 4, cells := 0, slots := 0, locals := 91 }, [], false, none, none)
theorem ok_X4_keyAt : mOk m_X4_keyAt := wa_m 1033 (by decide +kernel) rfl
def m_X4_pageAt : mM := (yX4_pageAt, cX4_pageAt, 3, (some .int), { frames := 4, cells := 0, slots := 0, locals := 91 }, [], false, none, none)
theorem ok_X4_pageAt : mOk m_X4_pageAt := wa_m 1041 (by decide +kernel) rfl
def m_X4_whole : mM := (yX4_whole, cX4_whole, 3, (some .boolean), { frames := 0, cells := 0, slots := 0, locals := 0 }, [], false, none, none)
theorem ok_X4_whole : mOk m_X4_whole := wa_m 863 (by decide +kernel) rfl
def m_X4_currentSlot : mM := (yX4_currentSlot, cX4_currentSlot, 1, (some .int), { frames := 0, cells := 0, slots := 0, locals := 0 }, [], false, none, none)
theorem ok_X4_currentSlot : mOk m_X4_currentSlot := wa_m 1045 (by decide +kernel) rfl
def m_X4_slotWord : mM := (yX4_slotWord, cX4_slotWord, 3, (some .long), { frames := 1, cells := 0, slots := 0, locals := 23 }, [], false, none, none)
theorem ok_X4_slotWord : mOk m_X4_slotWord := wa_m 1049 (by decide +kernel) rfl
def m_X4_isWhole : mM := (yX4_isWhole, cX4_isWhole, 2, (some .boolean), { frames := 1, cells := 0, slots := 0, locals := 23 }, [], false, none, none)
theorem ok_X4_isWhole : mOk m_X4_isWhole := wa_m 1053 (by decide +kernel) rfl
def m_X4_tear : mM := (yX4_tear, cX4_tear, 4, (some .int), { frames := 2, cells := 0, slots := 0, locals := 48 }, [], false, none, none)
theorem ok_X4_tear : mOk m_X4_tear := wa_m 1057 (by decide +kernel) rfl
def m_X4_restarts : mM := (yX4_restarts, cX4_restarts, 2, (some .int), { frames := 1, cells := 0, slots := 0, locals := 22 }, [], false, none, none)
theorem ok_X4_restarts : mOk m_X4_restarts := wa_m 1066 (by decide +kernel) rfl
def m_X4_crash : mM := (yX4_crash, cX4_crash, 1, (some .int), { frames := 2, cells := 0, slots := 0, locals := 43 }, [], false, none, none)
theorem ok_X4_crash : mOk m_X4_crash := wa_m 1062 (by decide +kernel) rfl
def m_X4_crashInCommit : mM := (yX4_crashInCommit, cX4_crashInCommit, 3, (some .int), { frames := 4, cells := 0, slots := 0, locals := 95 }, [], false, none, none)
theorem ok_X4_crashInCommit : mOk m_X4_crashInCommit := wa_m 1070 (by decide +kernel) rfl
def m_L_beginBatch : mM := (yL_beginBatch, cL_beginBatch, 3, (some .int), { frames := 7, cells := 1, slots := 6, locals := 102 }, [(0, 8, 11, 13)], false, none, none)
theorem ok_L_beginBatch : mOk m_L_beginBatch := wa_m 264 (by decide +kernel) rfl
def m_L_put : mM := (yL_put, cL_put, 5, (some .int), { frames := 8, cells := 2, slots := 12, locals := 164 }, [(0, 17, 20, 19), (0, 17, 24, 13)], false, none, none)
theorem ok_L_put : mOk m_L_put := wa_m 345 (by decide +kernel) rfl
def m_L_delete : mM := (yL_delete, cL_delete, 4, (some .int), { frames := 8, cells := 3, slots := 18, locals := 166 }, [(0, 9, 12, 19), (0, 9, 15, 13), (0, 9, 18, 25)], false, none, none)
theorem ok_L_delete : mOk m_L_delete := wa_m 454 (by decide +kernel) rfl
def m_L_commit : mM := (yL_commit, cL_commit, 3, (some .int), { frames := 8, cells := 1, slots := 6, locals := 138 }, [(0, 8, 11, 13)], false, none, none)
theorem ok_L_commit : mOk m_L_commit := wa_m 516 (by decide +kernel) rfl
def m_L_abandon : mM := (yL_abandon, cL_abandon, 3, (some .int), { frames := 8, cells := 1, slots := 6, locals := 138 }, [(0, 8, 11, 13)], false, none, none)
theorem ok_L_abandon : mOk m_L_abandon := wa_m 534 (by decide +kernel) rfl
def m_L_openReader : mM := (yL_openReader, cL_openReader, 3, (some .int), { frames := 7, cells := 1, slots := 6, locals := 103 }, [(0, 8, 11, 13)], false, none, none)
theorem ok_L_openReader : mOk m_L_openReader := wa_m 542 (by decide +kernel) rfl
def m_L_closeReader : mM := (yL_closeReader, cL_closeReader, 4, (some .int), { frames := 8, cells := 1, slots := 6, locals := 125 }, [(0, 9, 12, 39)], false, none, none)
theorem ok_L_closeReader : mOk m_L_closeReader := wa_m 550 (by decide +kernel) rfl
def m_L_heldBy : mM := (yL_heldBy, cL_heldBy, 4, (some .int), { frames := 8, cells := 1, slots := 6, locals := 126 }, [(0, 9, 12, 39)], false, none, none)
theorem ok_L_heldBy : mOk m_L_heldBy := wa_m 578 (by decide +kernel) rfl
def m_L_epochOf : mM := (yL_epochOf, cL_epochOf, 4, (some .int), { frames := 9, cells := 1, slots := 6, locals := 145 }, [(0, 9, 12, 39)], false, none, none)
theorem ok_L_epochOf : mOk m_L_epochOf := wa_m 585 (by decide +kernel) rfl
def m_L_get : mM := (yL_get, cL_get, 5, (some .int), { frames := 9, cells := 3, slots := 18, locals := 147 }, [(0, 10, 13, 39), (0, 10, 17, 19), (0, 10, 21, 25)], false, none, none)
theorem ok_L_get : mOk m_L_get := wa_m 596 (by decide +kernel) rfl
def m_L_next : mM := (yL_next, cL_next, 5, (some .int), { frames := 9, cells := 1, slots := 6, locals := 146 }, [(0, 10, 13, 39)], false, none, none)
theorem ok_L_next : mOk m_L_next := wa_m 603 (by decide +kernel) rfl
def m_L_rank : mM := (yL_rank, cL_rank, 5, (some .int), { frames := 9, cells := 1, slots := 6, locals := 146 }, [(0, 10, 13, 39)], false, none, none)
theorem ok_L_rank : mOk m_L_rank := wa_m 615 (by decide +kernel) rfl
def m_L_size : mM := (yL_size, cL_size, 4, (some .int), { frames := 9, cells := 1, slots := 6, locals := 145 }, [(0, 9, 12, 39)], false, none, none)
theorem ok_L_size : mOk m_L_size := wa_m 626 (by decide +kernel) rfl
def m_L_depth : mM := (yL_depth, cL_depth, 4, (some .int), { frames := 9, cells := 1, slots := 6, locals := 145 }, [(0, 9, 12, 39)], false, none, none)
theorem ok_L_depth : mOk m_L_depth := wa_m 633 (by decide +kernel) rfl
def m_L_rootOf : mM := (yL_rootOf, cL_rootOf, 4, (some .int), { frames := 9, cells := 1, slots := 6, locals := 145 }, [(0, 9, 12, 39)], false, none, none)
theorem ok_L_rootOf : mOk m_L_rootOf := wa_m 644 (by decide +kernel) rfl
def m_L_sharedPages : mM := (yL_sharedPages, cL_sharedPages, 5, (some .int), { frames := 9, cells := 2, slots := 12, locals := 148 }, [(0, 10, 13, 39)], false, none, none)
theorem ok_L_sharedPages : mOk m_L_sharedPages := wa_m 651 (by decide +kernel) rfl
def m_L_isFree : mM := (yL_isFree, cL_isFree, 4, (some .int), { frames := 7, cells := 1, slots := 6, locals := 103 }, [(0, 16, 19, 39)], false, none, none)
theorem ok_L_isFree : mOk m_L_isFree := wa_m 662 (by decide +kernel) rfl
def m_L_entries : mM := (yL_entries, cL_entries, 4, (some .int), { frames := 8, cells := 1, slots := 6, locals := 124 }, [(0, 9, 12, 39)], false, none, none)
theorem ok_L_entries : mOk m_L_entries := wa_m 670 (by decide +kernel) rfl
def m_L_keyAt : mM := (yL_keyAt, cL_keyAt, 5, (some .int), { frames := 9, cells := 2, slots := 12, locals := 147 }, [(0, 10, 13, 39)], false, none, none)
theorem ok_L_keyAt : mOk m_L_keyAt := wa_m 683 (by decide +kernel) rfl
def m_L_pageAt : mM := (yL_pageAt, cL_pageAt, 5, (some .int), { frames := 9, cells := 2, slots := 12, locals := 147 }, [(0, 10, 13, 39)], false, none, none)
theorem ok_L_pageAt : mOk m_L_pageAt := wa_m 696 (by decide +kernel) rfl
def m_L_slotWord : mM := (yL_slotWord, cL_slotWord, 5, (some .int), { frames := 8, cells := 2, slots := 12, locals := 124 }, [(0, 9, 12, 39)], false, none, none)
theorem ok_L_slotWord : mOk m_L_slotWord := wa_m 704 (by decide +kernel) rfl
def m_L_isWhole : mM := (yL_isWhole, cL_isWhole, 4, (some .int), { frames := 8, cells := 1, slots := 6, locals := 123 }, [(0, 16, 19, 39)], false, none, none)
theorem ok_L_isWhole : mOk m_L_isWhole := wa_m 716 (by decide +kernel) rfl
def m_L_tear : mM := (yL_tear, cL_tear, 4, (some .int), { frames := 8, cells := 2, slots := 12, locals := 124 }, [(0, 9, 12, 39), (0, 9, 15, 13)], false, none, none)
theorem ok_L_tear : mOk m_L_tear := wa_m 723 (by decide +kernel) rfl
def m_L_crashInCommit : mM := (yL_crashInCommit, cL_crashInCommit, 4, (some .int), { frames := 8, cells := 3, slots := 18, locals := 159 }, [(0, 9, 12, 19), (0, 9, 15, 13)], false, none, none)
theorem ok_L_crashInCommit : mOk m_L_crashInCommit := wa_m 732 (by decide +kernel) rfl
def m_L_law (q : Nat × (Nat → Int32)) : mM := (yL_law, cL_law, 8, some .boolean, room_1, [], false, some 0, some q)
theorem ci_X3_28 : mCi RX3 28 yX2_init 2 := ⟨wa_m 134 (by decide +kernel) rfl, wa_m 135 (by decide +kernel) rfl, wa_m 54 (by decide +kernel) rfl, by decide +kernel, by decide +kernel, by decide +kernel, by decide +kernel⟩
theorem cv_X3_54 : mCv RX3 54 yX0_markTree 2 := ⟨wa_m 155 (by decide +kernel) rfl, wa_m 156 (by decide +kernel) rfl, wa_m 157 (by decide +kernel) rfl, wa_m 52 (by decide +kernel) rfl, by decide +kernel, by decide +kernel, by decide +kernel⟩
theorem cv_X3_69 : mCv RX3 69 yX1_become 1 := ⟨wa_m 339 (by decide +kernel) rfl, wa_m 340 (by decide +kernel) rfl, wa_m 341 (by decide +kernel) rfl, wa_m 53 (by decide +kernel) rfl, by decide +kernel, by decide +kernel, by decide +kernel⟩
theorem cs_X3_76 : mCs RX3 76 yX3_requireKey 1 := ⟨wa_m 351 (by decide +kernel) rfl, wa_m 352 (by decide +kernel) rfl, wa_m 51 (by decide +kernel) rfl, by decide +kernel, by decide +kernel, by decide +kernel⟩
theorem cv_X3_80 : mCv RX3 80 yX3_requireBatch 0 := ⟨wa_m 370 (by decide +kernel) rfl, wa_m 372 (by decide +kernel) rfl, wa_m 7 (by decide +kernel) rfl, wa_m 51 (by decide +kernel) rfl, by decide +kernel, by decide +kernel, by decide +kernel⟩
theorem cv_X3_83 : mCv RX3 83 yX2_store 2 := ⟨wa_m 375 (by decide +kernel) rfl, wa_m 376 (by decide +kernel) rfl, wa_m 377 (by decide +kernel) rfl, wa_m 54 (by decide +kernel) rfl, by decide +kernel, by decide +kernel, by decide +kernel⟩
theorem cv_X3_87 : mCv RX3 87 yX3_valueIn 2 := ⟨wa_m 460 (by decide +kernel) rfl, wa_m 462 (by decide +kernel) rfl, wa_m 8 (by decide +kernel) rfl, wa_m 51 (by decide +kernel) rfl, by decide +kernel, by decide +kernel, by decide +kernel⟩
theorem cv_X3_91 : mCv RX3 91 yX2_drop 1 := ⟨wa_m 488 (by decide +kernel) rfl, wa_m 489 (by decide +kernel) rfl, wa_m 490 (by decide +kernel) rfl, wa_m 54 (by decide +kernel) rfl, by decide +kernel, by decide +kernel, by decide +kernel⟩
theorem cs_X3_94 : mCs RX3 94 yX3_otherSlot 1 := ⟨wa_m 521 (by decide +kernel) rfl, wa_m 522 (by decide +kernel) rfl, wa_m 51 (by decide +kernel) rfl, by decide +kernel, by decide +kernel, by decide +kernel⟩
theorem cv_X3_98 : mCv RX3 98 yX3_writeSlot 2 := ⟨wa_m 524 (by decide +kernel) rfl, wa_m 526 (by decide +kernel) rfl, wa_m 9 (by decide +kernel) rfl, wa_m 51 (by decide +kernel) rfl, by decide +kernel, by decide +kernel, by decide +kernel⟩
theorem cv_X3_102 : mCv RX3 102 yX3_endBatch 0 := ⟨wa_m 251 (by decide +kernel) rfl, wa_m 253 (by decide +kernel) rfl, wa_m 4 (by decide +kernel) rfl, wa_m 51 (by decide +kernel) rfl, by decide +kernel, by decide +kernel, by decide +kernel⟩
theorem cv_X3_105 : mCv RX3 105 yX3_pagesInUse 0 := ⟨wa_m 539 (by decide +kernel) rfl, wa_m 211 (by decide +kernel) rfl, wa_m 212 (by decide +kernel) rfl, wa_m 51 (by decide +kernel) rfl, by decide +kernel, by decide +kernel, by decide +kernel⟩
theorem cv_X3_109 : mCv RX3 109 yX3_isOpen 1 := ⟨wa_m 206 (by decide +kernel) rfl, wa_m 208 (by decide +kernel) rfl, wa_m 0 (by decide +kernel) rfl, wa_m 51 (by decide +kernel) rfl, by decide +kernel, by decide +kernel, by decide +kernel⟩
theorem cv_X3_115 : mCv RX3 115 yX3_requireReader 1 := ⟨wa_m 556 (by decide +kernel) rfl, wa_m 558 (by decide +kernel) rfl, wa_m 11 (by decide +kernel) rfl, wa_m 51 (by decide +kernel) rfl, by decide +kernel, by decide +kernel, by decide +kernel⟩
theorem cv_X3_118 : mCv RX3 118 yX3_keepStates 2 := ⟨wa_m 258 (by decide +kernel) rfl, wa_m 260 (by decide +kernel) rfl, wa_m 5 (by decide +kernel) rfl, wa_m 51 (by decide +kernel) rfl, by decide +kernel, by decide +kernel, by decide +kernel⟩
theorem cv_X3_124 : mCv RX3 124 yX3_viewed 1 := ⟨wa_m 590 (by decide +kernel) rfl, wa_m 592 (by decide +kernel) rfl, wa_m 12 (by decide +kernel) rfl, wa_m 51 (by decide +kernel) rfl, by decide +kernel, by decide +kernel, by decide +kernel⟩
theorem cv_X3_128 : mCv RX3 128 yX0_leastKeyFrom 2 := ⟨wa_m 608 (by decide +kernel) rfl, wa_m 609 (by decide +kernel) rfl, wa_m 610 (by decide +kernel) rfl, wa_m 52 (by decide +kernel) rfl, by decide +kernel, by decide +kernel, by decide +kernel⟩
theorem cv_X3_132 : mCv RX3 132 yX0_keysBelow 2 := ⟨wa_m 620 (by decide +kernel) rfl, wa_m 621 (by decide +kernel) rfl, wa_m 622 (by decide +kernel) rfl, wa_m 52 (by decide +kernel) rfl, by decide +kernel, by decide +kernel, by decide +kernel⟩
theorem cv_X3_138 : mCv RX3 138 yX0_levelsFrom 1 := ⟨wa_m 638 (by decide +kernel) rfl, wa_m 639 (by decide +kernel) rfl, wa_m 640 (by decide +kernel) rfl, wa_m 52 (by decide +kernel) rfl, by decide +kernel, by decide +kernel, by decide +kernel⟩
theorem cs_X3_141 : mCs RX3 141 yX0_unmark 1 := ⟨wa_m 255 (by decide +kernel) rfl, wa_m 256 (by decide +kernel) rfl, wa_m 52 (by decide +kernel) rfl, by decide +kernel, by decide +kernel, by decide +kernel⟩
theorem cv_X3_145 : mCv RX3 145 yX0_countMarked 1 := ⟨wa_m 656 (by decide +kernel) rfl, wa_m 657 (by decide +kernel) rfl, wa_m 658 (by decide +kernel) rfl, wa_m 52 (by decide +kernel) rfl, by decide +kernel, by decide +kernel, by decide +kernel⟩
theorem cv_X3_153 : mCv RX3 153 yX0_isVacant 1 := ⟨wa_m 214 (by decide +kernel) rfl, wa_m 215 (by decide +kernel) rfl, wa_m 216 (by decide +kernel) rfl, wa_m 52 (by decide +kernel) rfl, by decide +kernel, by decide +kernel, by decide +kernel⟩
theorem cv_X3_156 : mCv RX3 156 yX0_leastVacant 0 := ⟨wa_m 222 (by decide +kernel) rfl, wa_m 223 (by decide +kernel) rfl, wa_m 224 (by decide +kernel) rfl, wa_m 52 (by decide +kernel) rfl, by decide +kernel, by decide +kernel, by decide +kernel⟩
theorem cv_X3_159 : mCv RX3 159 yX3_requirePage 1 := ⟨wa_m 675 (by decide +kernel) rfl, wa_m 677 (by decide +kernel) rfl, wa_m 13 (by decide +kernel) rfl, wa_m 51 (by decide +kernel) rfl, by decide +kernel, by decide +kernel, by decide +kernel⟩
theorem cv_X3_162 : mCv RX3 162 yX0_countOf 1 := ⟨wa_m 680 (by decide +kernel) rfl, wa_m 168 (by decide +kernel) rfl, wa_m 169 (by decide +kernel) rfl, wa_m 52 (by decide +kernel) rfl, by decide +kernel, by decide +kernel, by decide +kernel⟩
theorem cv_X3_165 : mCv RX3 165 yX3_requireEntry 2 := ⟨wa_m 688 (by decide +kernel) rfl, wa_m 690 (by decide +kernel) rfl, wa_m 14 (by decide +kernel) rfl, wa_m 51 (by decide +kernel) rfl, by decide +kernel, by decide +kernel, by decide +kernel⟩
theorem cv_X3_168 : mCv RX3 168 yX0_keyOf 2 := ⟨wa_m 693 (by decide +kernel) rfl, wa_m 405 (by decide +kernel) rfl, wa_m 406 (by decide +kernel) rfl, wa_m 52 (by decide +kernel) rfl, by decide +kernel, by decide +kernel, by decide +kernel⟩
theorem cv_X3_171 : mCv RX3 171 yX0_isLeaf 1 := ⟨wa_m 701 (by decide +kernel) rfl, wa_m 164 (by decide +kernel) rfl, wa_m 165 (by decide +kernel) rfl, wa_m 52 (by decide +kernel) rfl, by decide +kernel, by decide +kernel, by decide +kernel⟩
theorem cv_X3_174 : mCv RX3 174 yX0_wordOf 2 := ⟨wa_m 487 (by decide +kernel) rfl, wa_m 172 (by decide +kernel) rfl, wa_m 173 (by decide +kernel) rfl, wa_m 52 (by decide +kernel) rfl, by decide +kernel, by decide +kernel, by decide +kernel⟩
theorem cs_X3_177 : mCs RX3 177 yX3_requireSlot 1 := ⟨wa_m 709 (by decide +kernel) rfl, wa_m 710 (by decide +kernel) rfl, wa_m 51 (by decide +kernel) rfl, by decide +kernel, by decide +kernel, by decide +kernel⟩
theorem cv_X3_182 : mCv RX3 182 yX3_wordIn 2 := ⟨wa_m 242 (by decide +kernel) rfl, wa_m 244 (by decide +kernel) rfl, wa_m 3 (by decide +kernel) rfl, wa_m 51 (by decide +kernel) rfl, by decide +kernel, by decide +kernel, by decide +kernel⟩
theorem cv_X3_186 : mCv RX3 186 yX3_sumsUp 1 := ⟨wa_m 238 (by decide +kernel) rfl, wa_m 240 (by decide +kernel) rfl, wa_m 2 (by decide +kernel) rfl, wa_m 51 (by decide +kernel) rfl, by decide +kernel, by decide +kernel, by decide +kernel⟩
theorem cv_X3_193 : mCv RX3 193 yX3_latestWholeSlot 0 := ⟨wa_m 234 (by decide +kernel) rfl, wa_m 236 (by decide +kernel) rfl, wa_m 1 (by decide +kernel) rfl, wa_m 51 (by decide +kernel) rfl, by decide +kernel, by decide +kernel, by decide +kernel⟩
theorem cv_X3_203 : mCv RX3 203 yX3_crash 0 := ⟨wa_m 739 (by decide +kernel) rfl, wa_m 231 (by decide +kernel) rfl, wa_m 232 (by decide +kernel) rfl, wa_m 51 (by decide +kernel) rfl, by decide +kernel, by decide +kernel, by decide +kernel⟩
theorem cv_X3_218 : mCv RX3 218 yX0_leafFor 2 := ⟨wa_m 464 (by decide +kernel) rfl, wa_m 465 (by decide +kernel) rfl, wa_m 466 (by decide +kernel) rfl, wa_m 52 (by decide +kernel) rfl, by decide +kernel, by decide +kernel, by decide +kernel⟩
theorem cv_X3_221 : mCv RX3 221 yX0_placeOf 2 := ⟨wa_m 469 (by decide +kernel) rfl, wa_m 418 (by decide +kernel) rfl, wa_m 419 (by decide +kernel) rfl, wa_m 52 (by decide +kernel) rfl, by decide +kernel, by decide +kernel, by decide +kernel⟩
theorem cv_X3_224 : mCv RX3 224 yX0_holds 3 := ⟨wa_m 470 (by decide +kernel) rfl, wa_m 422 (by decide +kernel) rfl, wa_m 423 (by decide +kernel) rfl, wa_m 52 (by decide +kernel) rfl, by decide +kernel, by decide +kernel, by decide +kernel⟩
theorem cs_X3_236 : mCs RX3 236 yX3_sumOf 3 := ⟨wa_m 246 (by decide +kernel) rfl, wa_m 247 (by decide +kernel) rfl, wa_m 51 (by decide +kernel) rfl, by decide +kernel, by decide +kernel, by decide +kernel⟩
theorem cv_X3_244 : mCv RX3 244 yX3_wordOfBatch 1 := ⟨wa_m 528 (by decide +kernel) rfl, wa_m 530 (by decide +kernel) rfl, wa_m 10 (by decide +kernel) rfl, wa_m 51 (by decide +kernel) rfl, by decide +kernel, by decide +kernel, by decide +kernel⟩
theorem cs_X0_37 : mCs RX0 37 yX0_isCell 2 := ⟨wa_m 396 (by decide +kernel) rfl, wa_m 397 (by decide +kernel) rfl, wa_m 52 (by decide +kernel) rfl, by decide +kernel, by decide +kernel, by decide +kernel⟩
theorem cv_X0_41 : mCv RX0 41 yX0_isLeaf 1 := ⟨wa_m 163 (by decide +kernel) rfl, wa_m 164 (by decide +kernel) rfl, wa_m 165 (by decide +kernel) rfl, wa_m 52 (by decide +kernel) rfl, by decide +kernel, by decide +kernel, by decide +kernel⟩
theorem cv_X0_45 : mCv RX0 45 yX0_wordOf 2 := ⟨wa_m 171 (by decide +kernel) rfl, wa_m 172 (by decide +kernel) rfl, wa_m 173 (by decide +kernel) rfl, wa_m 52 (by decide +kernel) rfl, by decide +kernel, by decide +kernel, by decide +kernel⟩
theorem cv_X0_49 : mCv RX0 49 yX0_countOf 1 := ⟨wa_m 167 (by decide +kernel) rfl, wa_m 168 (by decide +kernel) rfl, wa_m 169 (by decide +kernel) rfl, wa_m 52 (by decide +kernel) rfl, by decide +kernel, by decide +kernel, by decide +kernel⟩
theorem cv_X0_53 : mCv RX0 53 yX0_keyOf 2 := ⟨wa_m 404 (by decide +kernel) rfl, wa_m 405 (by decide +kernel) rfl, wa_m 406 (by decide +kernel) rfl, wa_m 52 (by decide +kernel) rfl, by decide +kernel, by decide +kernel, by decide +kernel⟩
theorem cv_X0_56 : mCv RX0 56 yX0_entryFor 2 := ⟨wa_m 468 (by decide +kernel) rfl, wa_m 401 (by decide +kernel) rfl, wa_m 402 (by decide +kernel) rfl, wa_m 52 (by decide +kernel) rfl, by decide +kernel, by decide +kernel, by decide +kernel⟩
theorem cv_X0_59 : mCv RX0 59 yX0_listTree 1 := ⟨wa_m 159 (by decide +kernel) rfl, wa_m 160 (by decide +kernel) rfl, wa_m 161 (by decide +kernel) rfl, wa_m 52 (by decide +kernel) rfl, by decide +kernel, by decide +kernel, by decide +kernel⟩
theorem cv_X0_62 : mCv RX0 62 yX0_placeOf 2 := ⟨wa_m 612 (by decide +kernel) rfl, wa_m 418 (by decide +kernel) rfl, wa_m 419 (by decide +kernel) rfl, wa_m 52 (by decide +kernel) rfl, by decide +kernel, by decide +kernel, by decide +kernel⟩
theorem cv_X0_65 : mCv RX0 65 yX0_leastVacant 0 := ⟨wa_m 391 (by decide +kernel) rfl, wa_m 223 (by decide +kernel) rfl, wa_m 224 (by decide +kernel) rfl, wa_m 52 (by decide +kernel) rfl, by decide +kernel, by decide +kernel, by decide +kernel⟩
theorem cv_X0_69 : mCv RX0 69 yX0_take 1 := ⟨wa_m 387 (by decide +kernel) rfl, wa_m 388 (by decide +kernel) rfl, wa_m 389 (by decide +kernel) rfl, wa_m 52 (by decide +kernel) rfl, by decide +kernel, by decide +kernel, by decide +kernel⟩
theorem cv_X0_73 : mCv RX0 73 yX0_append 2 := ⟨wa_m 392 (by decide +kernel) rfl, wa_m 393 (by decide +kernel) rfl, wa_m 394 (by decide +kernel) rfl, wa_m 52 (by decide +kernel) rfl, by decide +kernel, by decide +kernel, by decide +kernel⟩
theorem cv_X0_77 : mCv RX0 77 yX0_insert 4 := ⟨wa_m 443 (by decide +kernel) rfl, wa_m 426 (by decide +kernel) rfl, wa_m 427 (by decide +kernel) rfl, wa_m 52 (by decide +kernel) rfl, by decide +kernel, by decide +kernel, by decide +kernel⟩
theorem cv_X0_81 : mCv RX0 81 yX0_remove 2 := ⟨wa_m 444 (by decide +kernel) rfl, wa_m 445 (by decide +kernel) rfl, wa_m 446 (by decide +kernel) rfl, wa_m 52 (by decide +kernel) rfl, by decide +kernel, by decide +kernel, by decide +kernel⟩
theorem cv_X2_26 : mCv RX2 26 yX2_writePath 1 := ⟨wa_m 379 (by decide +kernel) rfl, wa_m 380 (by decide +kernel) rfl, wa_m 381 (by decide +kernel) rfl, wa_m 54 (by decide +kernel) rfl, by decide +kernel, by decide +kernel, by decide +kernel⟩
theorem cv_X2_30 : mCv RX2 30 yX0_placeOf 2 := ⟨wa_m 417 (by decide +kernel) rfl, wa_m 418 (by decide +kernel) rfl, wa_m 419 (by decide +kernel) rfl, wa_m 52 (by decide +kernel) rfl, by decide +kernel, by decide +kernel, by decide +kernel⟩
theorem cv_X2_36 : mCv RX2 36 yX0_holds 3 := ⟨wa_m 421 (by decide +kernel) rfl, wa_m 422 (by decide +kernel) rfl, wa_m 423 (by decide +kernel) rfl, wa_m 52 (by decide +kernel) rfl, by decide +kernel, by decide +kernel, by decide +kernel⟩
theorem cv_X2_40 : mCv RX2 40 yX0_setWord 3 := ⟨wa_m 413 (by decide +kernel) rfl, wa_m 414 (by decide +kernel) rfl, wa_m 415 (by decide +kernel) rfl, wa_m 52 (by decide +kernel) rfl, by decide +kernel, by decide +kernel, by decide +kernel⟩
theorem cv_X2_44 : mCv RX2 44 yX0_insert 4 := ⟨wa_m 425 (by decide +kernel) rfl, wa_m 426 (by decide +kernel) rfl, wa_m 427 (by decide +kernel) rfl, wa_m 52 (by decide +kernel) rfl, by decide +kernel, by decide +kernel, by decide +kernel⟩
theorem cv_X2_54 : mCv RX2 54 yX2_splitUpwards 0 := ⟨wa_m 429 (by decide +kernel) rfl, wa_m 430 (by decide +kernel) rfl, wa_m 431 (by decide +kernel) rfl, wa_m 54 (by decide +kernel) rfl, by decide +kernel, by decide +kernel, by decide +kernel⟩
theorem cv_X2_57 : mCv RX2 57 yX0_remove 2 := ⟨wa_m 492 (by decide +kernel) rfl, wa_m 445 (by decide +kernel) rfl, wa_m 446 (by decide +kernel) rfl, wa_m 52 (by decide +kernel) rfl, by decide +kernel, by decide +kernel, by decide +kernel⟩
theorem cv_X2_64 : mCv RX2 64 yX0_countOf 1 := ⟨wa_m 433 (by decide +kernel) rfl, wa_m 168 (by decide +kernel) rfl, wa_m 169 (by decide +kernel) rfl, wa_m 52 (by decide +kernel) rfl, by decide +kernel, by decide +kernel, by decide +kernel⟩
theorem cv_X2_67 : mCv RX2 67 yX2_mend 2 := ⟨wa_m 493 (by decide +kernel) rfl, wa_m 494 (by decide +kernel) rfl, wa_m 495 (by decide +kernel) rfl, wa_m 54 (by decide +kernel) rfl, by decide +kernel, by decide +kernel, by decide +kernel⟩
theorem cv_X2_70 : mCv RX2 70 yX2_shrinkRoot 0 := ⟨wa_m 510 (by decide +kernel) rfl, wa_m 511 (by decide +kernel) rfl, wa_m 512 (by decide +kernel) rfl, wa_m 54 (by decide +kernel) rfl, by decide +kernel, by decide +kernel, by decide +kernel⟩
theorem cv_X2_76 : mCv RX2 76 yX0_writeAnew 1 := ⟨wa_m 383 (by decide +kernel) rfl, wa_m 384 (by decide +kernel) rfl, wa_m 385 (by decide +kernel) rfl, wa_m 52 (by decide +kernel) rfl, by decide +kernel, by decide +kernel, by decide +kernel⟩
theorem cv_X2_79 : mCv RX2 79 yX0_isLeaf 1 := ⟨wa_m 399 (by decide +kernel) rfl, wa_m 164 (by decide +kernel) rfl, wa_m 165 (by decide +kernel) rfl, wa_m 52 (by decide +kernel) rfl, by decide +kernel, by decide +kernel, by decide +kernel⟩
theorem cv_X2_83 : mCv RX2 83 yX0_entryFor 2 := ⟨wa_m 400 (by decide +kernel) rfl, wa_m 401 (by decide +kernel) rfl, wa_m 402 (by decide +kernel) rfl, wa_m 52 (by decide +kernel) rfl, by decide +kernel, by decide +kernel, by decide +kernel⟩
theorem cv_X2_86 : mCv RX2 86 yX2_writeBelow 2 := ⟨wa_m 408 (by decide +kernel) rfl, wa_m 409 (by decide +kernel) rfl, wa_m 410 (by decide +kernel) rfl, wa_m 54 (by decide +kernel) rfl, by decide +kernel, by decide +kernel, by decide +kernel⟩
theorem cv_X2_89 : mCv RX2 89 yX0_wordOf 2 := ⟨wa_m 412 (by decide +kernel) rfl, wa_m 172 (by decide +kernel) rfl, wa_m 173 (by decide +kernel) rfl, wa_m 52 (by decide +kernel) rfl, by decide +kernel, by decide +kernel, by decide +kernel⟩
theorem cv_X2_92 : mCv RX2 92 yX2_splitOff 1 := ⟨wa_m 434 (by decide +kernel) rfl, wa_m 435 (by decide +kernel) rfl, wa_m 436 (by decide +kernel) rfl, wa_m 54 (by decide +kernel) rfl, by decide +kernel, by decide +kernel, by decide +kernel⟩
theorem cv_X2_95 : mCv RX2 95 yX2_growRoot 2 := ⟨wa_m 448 (by decide +kernel) rfl, wa_m 449 (by decide +kernel) rfl, wa_m 450 (by decide +kernel) rfl, wa_m 54 (by decide +kernel) rfl, by decide +kernel, by decide +kernel, by decide +kernel⟩
theorem cv_X2_98 : mCv RX2 98 yX0_take 1 := ⟨wa_m 438 (by decide +kernel) rfl, wa_m 388 (by decide +kernel) rfl, wa_m 389 (by decide +kernel) rfl, wa_m 52 (by decide +kernel) rfl, by decide +kernel, by decide +kernel, by decide +kernel⟩
theorem cv_X2_102 : mCv RX2 102 yX0_move 4 := ⟨wa_m 439 (by decide +kernel) rfl, wa_m 440 (by decide +kernel) rfl, wa_m 441 (by decide +kernel) rfl, wa_m 52 (by decide +kernel) rfl, by decide +kernel, by decide +kernel, by decide +kernel⟩
theorem cv_X2_105 : mCv RX2 105 yX2_lend 3 := ⟨wa_m 497 (by decide +kernel) rfl, wa_m 498 (by decide +kernel) rfl, wa_m 499 (by decide +kernel) rfl, wa_m 54 (by decide +kernel) rfl, by decide +kernel, by decide +kernel, by decide +kernel⟩
theorem cv_X2_108 : mCv RX2 108 yX2_join 2 := ⟨wa_m 501 (by decide +kernel) rfl, wa_m 502 (by decide +kernel) rfl, wa_m 503 (by decide +kernel) rfl, wa_m 54 (by decide +kernel) rfl, by decide +kernel, by decide +kernel, by decide +kernel⟩
theorem cv_X2_111 : mCv RX2 111 yX0_append 2 := ⟨wa_m 505 (by decide +kernel) rfl, wa_m 393 (by decide +kernel) rfl, wa_m 394 (by decide +kernel) rfl, wa_m 52 (by decide +kernel) rfl, by decide +kernel, by decide +kernel, by decide +kernel⟩
theorem cv_X2_114 : mCv RX2 114 yX0_leave 1 := ⟨wa_m 506 (by decide +kernel) rfl, wa_m 507 (by decide +kernel) rfl, wa_m 508 (by decide +kernel) rfl, wa_m 52 (by decide +kernel) rfl, by decide +kernel, by decide +kernel, by decide +kernel⟩
theorem cv_L_7 : mCv RL 7 yX3_beginBatch 0 := ⟨wa_m 266 (by decide +kernel) rfl, wa_m 267 (by decide +kernel) rfl, wa_m 268 (by decide +kernel) rfl, wa_m 51 (by decide +kernel) rfl, by decide +kernel, by decide +kernel, by decide +kernel⟩
theorem cv_L_15 : mCv RL 15 yX3_put 2 := ⟨wa_m 347 (by decide +kernel) rfl, wa_m 348 (by decide +kernel) rfl, wa_m 349 (by decide +kernel) rfl, wa_m 51 (by decide +kernel) rfl, by decide +kernel, by decide +kernel, by decide +kernel⟩
theorem cv_L_21 : mCv RL 21 yX3_delete 1 := ⟨wa_m 456 (by decide +kernel) rfl, wa_m 457 (by decide +kernel) rfl, wa_m 458 (by decide +kernel) rfl, wa_m 51 (by decide +kernel) rfl, by decide +kernel, by decide +kernel, by decide +kernel⟩
theorem cv_L_27 : mCv RL 27 yX3_commit 0 := ⟨wa_m 517 (by decide +kernel) rfl, wa_m 518 (by decide +kernel) rfl, wa_m 519 (by decide +kernel) rfl, wa_m 51 (by decide +kernel) rfl, by decide +kernel, by decide +kernel, by decide +kernel⟩
theorem cv_L_30 : mCv RL 30 yX3_abandon 0 := ⟨wa_m 535 (by decide +kernel) rfl, wa_m 536 (by decide +kernel) rfl, wa_m 537 (by decide +kernel) rfl, wa_m 51 (by decide +kernel) rfl, by decide +kernel, by decide +kernel, by decide +kernel⟩
theorem cv_L_33 : mCv RL 33 yX3_openReader 0 := ⟨wa_m 543 (by decide +kernel) rfl, wa_m 544 (by decide +kernel) rfl, wa_m 545 (by decide +kernel) rfl, wa_m 51 (by decide +kernel) rfl, by decide +kernel, by decide +kernel, by decide +kernel⟩
theorem cv_L_36 : mCv RL 36 yX3_closeReader 1 := ⟨wa_m 552 (by decide +kernel) rfl, wa_m 553 (by decide +kernel) rfl, wa_m 554 (by decide +kernel) rfl, wa_m 51 (by decide +kernel) rfl, by decide +kernel, by decide +kernel, by decide +kernel⟩
theorem cv_L_41 : mCv RL 41 yX3_heldBy 1 := ⟨wa_m 579 (by decide +kernel) rfl, wa_m 580 (by decide +kernel) rfl, wa_m 581 (by decide +kernel) rfl, wa_m 51 (by decide +kernel) rfl, by decide +kernel, by decide +kernel, by decide +kernel⟩
theorem cv_L_44 : mCv RL 44 yX3_epochOf 1 := ⟨wa_m 586 (by decide +kernel) rfl, wa_m 587 (by decide +kernel) rfl, wa_m 588 (by decide +kernel) rfl, wa_m 51 (by decide +kernel) rfl, by decide +kernel, by decide +kernel, by decide +kernel⟩
theorem cv_L_47 : mCv RL 47 yX3_get 2 := ⟨wa_m 597 (by decide +kernel) rfl, wa_m 598 (by decide +kernel) rfl, wa_m 599 (by decide +kernel) rfl, wa_m 51 (by decide +kernel) rfl, by decide +kernel, by decide +kernel, by decide +kernel⟩
theorem cv_L_51 : mCv RL 51 yX3_next 2 := ⟨wa_m 604 (by decide +kernel) rfl, wa_m 605 (by decide +kernel) rfl, wa_m 606 (by decide +kernel) rfl, wa_m 51 (by decide +kernel) rfl, by decide +kernel, by decide +kernel, by decide +kernel⟩
theorem cv_L_54 : mCv RL 54 yX3_rank 2 := ⟨wa_m 616 (by decide +kernel) rfl, wa_m 617 (by decide +kernel) rfl, wa_m 618 (by decide +kernel) rfl, wa_m 51 (by decide +kernel) rfl, by decide +kernel, by decide +kernel, by decide +kernel⟩
theorem cv_L_57 : mCv RL 57 yX3_size 1 := ⟨wa_m 627 (by decide +kernel) rfl, wa_m 628 (by decide +kernel) rfl, wa_m 629 (by decide +kernel) rfl, wa_m 51 (by decide +kernel) rfl, by decide +kernel, by decide +kernel, by decide +kernel⟩
theorem cv_L_60 : mCv RL 60 yX3_depth 1 := ⟨wa_m 634 (by decide +kernel) rfl, wa_m 635 (by decide +kernel) rfl, wa_m 636 (by decide +kernel) rfl, wa_m 51 (by decide +kernel) rfl, by decide +kernel, by decide +kernel, by decide +kernel⟩
theorem cv_L_63 : mCv RL 63 yX3_rootOf 1 := ⟨wa_m 645 (by decide +kernel) rfl, wa_m 646 (by decide +kernel) rfl, wa_m 647 (by decide +kernel) rfl, wa_m 51 (by decide +kernel) rfl, by decide +kernel, by decide +kernel, by decide +kernel⟩
theorem cv_L_66 : mCv RL 66 yX3_sharedPages 2 := ⟨wa_m 652 (by decide +kernel) rfl, wa_m 653 (by decide +kernel) rfl, wa_m 654 (by decide +kernel) rfl, wa_m 51 (by decide +kernel) rfl, by decide +kernel, by decide +kernel, by decide +kernel⟩
theorem cv_L_69 : mCv RL 69 yX3_isFree 1 := ⟨wa_m 663 (by decide +kernel) rfl, wa_m 664 (by decide +kernel) rfl, wa_m 665 (by decide +kernel) rfl, wa_m 51 (by decide +kernel) rfl, by decide +kernel, by decide +kernel, by decide +kernel⟩
theorem cv_L_73 : mCv RL 73 yX3_entries 1 := ⟨wa_m 671 (by decide +kernel) rfl, wa_m 672 (by decide +kernel) rfl, wa_m 673 (by decide +kernel) rfl, wa_m 51 (by decide +kernel) rfl, by decide +kernel, by decide +kernel, by decide +kernel⟩
theorem cv_L_76 : mCv RL 76 yX3_keyAt 2 := ⟨wa_m 684 (by decide +kernel) rfl, wa_m 685 (by decide +kernel) rfl, wa_m 686 (by decide +kernel) rfl, wa_m 51 (by decide +kernel) rfl, by decide +kernel, by decide +kernel, by decide +kernel⟩
theorem cv_L_79 : mCv RL 79 yX3_pageAt 2 := ⟨wa_m 697 (by decide +kernel) rfl, wa_m 698 (by decide +kernel) rfl, wa_m 699 (by decide +kernel) rfl, wa_m 51 (by decide +kernel) rfl, by decide +kernel, by decide +kernel, by decide +kernel⟩
theorem cv_L_82 : mCv RL 82 yX3_slotWord 2 := ⟨wa_m 705 (by decide +kernel) rfl, wa_m 706 (by decide +kernel) rfl, wa_m 707 (by decide +kernel) rfl, wa_m 51 (by decide +kernel) rfl, by decide +kernel, by decide +kernel, by decide +kernel⟩
theorem cv_L_86 : mCv RL 86 yX3_isWhole 1 := ⟨wa_m 717 (by decide +kernel) rfl, wa_m 718 (by decide +kernel) rfl, wa_m 719 (by decide +kernel) rfl, wa_m 51 (by decide +kernel) rfl, by decide +kernel, by decide +kernel, by decide +kernel⟩
theorem cv_L_89 : mCv RL 89 yX3_tear 1 := ⟨wa_m 724 (by decide +kernel) rfl, wa_m 725 (by decide +kernel) rfl, wa_m 726 (by decide +kernel) rfl, wa_m 51 (by decide +kernel) rfl, by decide +kernel, by decide +kernel, by decide +kernel⟩
theorem cv_L_92 : mCv RL 92 yX3_crashInCommit 1 := ⟨wa_m 733 (by decide +kernel) rfl, wa_m 734 (by decide +kernel) rfl, wa_m 735 (by decide +kernel) rfl, wa_m 51 (by decide +kernel) rfl, by decide +kernel, by decide +kernel, by decide +kernel⟩
theorem ci_L_95 : mCi RL 95 yX3_init 0 := ⟨wa_m 65 (by decide +kernel) rfl, wa_m 66 (by decide +kernel) rfl, wa_m 51 (by decide +kernel) rfl, by decide +kernel, by decide +kernel, by decide +kernel, by decide +kernel⟩
theorem ci_L_98 : mCi RL 98 yX4_init 0 := ⟨wa_m 742 (by decide +kernel) rfl, wa_m 743 (by decide +kernel) rfl, wa_m 55 (by decide +kernel) rfl, by decide +kernel, by decide +kernel, by decide +kernel, by decide +kernel⟩
theorem cs_L_99 : mCs RL 99 yL_beginBatch 2 := ⟨wa_m 262 (by decide +kernel) rfl, wa_m 263 (by decide +kernel) rfl, wa_m 50 (by decide +kernel) rfl, by decide +kernel, by decide +kernel, by decide +kernel⟩
theorem cv_L_104 : mCv RL 104 yX4_beginBatch 0 := ⟨wa_m 809 (by decide +kernel) rfl, wa_m 810 (by decide +kernel) rfl, wa_m 811 (by decide +kernel) rfl, wa_m 55 (by decide +kernel) rfl, by decide +kernel, by decide +kernel, by decide +kernel⟩
theorem cv_L_105 : mCv RL 105 yX4_thrown 0 := ⟨wa_m 805 (by decide +kernel) rfl, wa_m 806 (by decide +kernel) rfl, wa_m 807 (by decide +kernel) rfl, wa_m 55 (by decide +kernel) rfl, by decide +kernel, by decide +kernel, by decide +kernel⟩
theorem cv_L_108 : mCv RL 108 yX3_hasBatch 0 := ⟨wa_m 198 (by decide +kernel) rfl, wa_m 199 (by decide +kernel) rfl, wa_m 200 (by decide +kernel) rfl, wa_m 51 (by decide +kernel) rfl, by decide +kernel, by decide +kernel, by decide +kernel⟩
theorem cv_L_112 : mCv RL 112 yX4_hasBatch 0 := ⟨wa_m 817 (by decide +kernel) rfl, wa_m 818 (by decide +kernel) rfl, wa_m 819 (by decide +kernel) rfl, wa_m 55 (by decide +kernel) rfl, by decide +kernel, by decide +kernel, by decide +kernel⟩
theorem cs_L_113 : mCs RL 113 yL_put 4 := ⟨wa_m 343 (by decide +kernel) rfl, wa_m 344 (by decide +kernel) rfl, wa_m 50 (by decide +kernel) rfl, by decide +kernel, by decide +kernel, by decide +kernel⟩
theorem cv_L_116 : mCv RL 116 yX4_put 2 := ⟨wa_m 821 (by decide +kernel) rfl, wa_m 822 (by decide +kernel) rfl, wa_m 823 (by decide +kernel) rfl, wa_m 55 (by decide +kernel) rfl, by decide +kernel, by decide +kernel, by decide +kernel⟩
theorem cs_L_117 : mCs RL 117 yL_delete 3 := ⟨wa_m 452 (by decide +kernel) rfl, wa_m 453 (by decide +kernel) rfl, wa_m 50 (by decide +kernel) rfl, by decide +kernel, by decide +kernel, by decide +kernel⟩
theorem cv_L_120 : mCv RL 120 yX4_delete 1 := ⟨wa_m 898 (by decide +kernel) rfl, wa_m 899 (by decide +kernel) rfl, wa_m 900 (by decide +kernel) rfl, wa_m 55 (by decide +kernel) rfl, by decide +kernel, by decide +kernel, by decide +kernel⟩
theorem cs_L_121 : mCs RL 121 yL_commit 2 := ⟨wa_m 514 (by decide +kernel) rfl, wa_m 515 (by decide +kernel) rfl, wa_m 50 (by decide +kernel) rfl, by decide +kernel, by decide +kernel, by decide +kernel⟩
theorem cv_L_123 : mCv RL 123 yX4_commit 0 := ⟨wa_m 914 (by decide +kernel) rfl, wa_m 915 (by decide +kernel) rfl, wa_m 916 (by decide +kernel) rfl, wa_m 55 (by decide +kernel) rfl, by decide +kernel, by decide +kernel, by decide +kernel⟩
theorem cs_L_124 : mCs RL 124 yL_abandon 2 := ⟨wa_m 532 (by decide +kernel) rfl, wa_m 533 (by decide +kernel) rfl, wa_m 50 (by decide +kernel) rfl, by decide +kernel, by decide +kernel, by decide +kernel⟩
theorem cv_L_126 : mCv RL 126 yX4_abandon 0 := ⟨wa_m 938 (by decide +kernel) rfl, wa_m 939 (by decide +kernel) rfl, wa_m 940 (by decide +kernel) rfl, wa_m 55 (by decide +kernel) rfl, by decide +kernel, by decide +kernel, by decide +kernel⟩
theorem cs_L_127 : mCs RL 127 yL_openReader 2 := ⟨wa_m 540 (by decide +kernel) rfl, wa_m 541 (by decide +kernel) rfl, wa_m 50 (by decide +kernel) rfl, by decide +kernel, by decide +kernel, by decide +kernel⟩
theorem cv_L_129 : mCv RL 129 yX4_openReader 0 := ⟨wa_m 942 (by decide +kernel) rfl, wa_m 943 (by decide +kernel) rfl, wa_m 944 (by decide +kernel) rfl, wa_m 55 (by decide +kernel) rfl, by decide +kernel, by decide +kernel, by decide +kernel⟩
theorem cs_L_130 : mCs RL 130 yL_closeReader 3 := ⟨wa_m 548 (by decide +kernel) rfl, wa_m 549 (by decide +kernel) rfl, wa_m 50 (by decide +kernel) rfl, by decide +kernel, by decide +kernel, by decide +kernel⟩
theorem cv_L_132 : mCv RL 132 yX4_closeReader 1 := ⟨wa_m 946 (by decide +kernel) rfl, wa_m 947 (by decide +kernel) rfl, wa_m 948 (by decide +kernel) rfl, wa_m 55 (by decide +kernel) rfl, by decide +kernel, by decide +kernel, by decide +kernel⟩
theorem cv_L_133 : mCv RL 133 yX3_readers 0 := ⟨wa_m 202 (by decide +kernel) rfl, wa_m 203 (by decide +kernel) rfl, wa_m 204 (by decide +kernel) rfl, wa_m 51 (by decide +kernel) rfl, by decide +kernel, by decide +kernel, by decide +kernel⟩
theorem cv_L_136 : mCv RL 136 yX4_readers 0 := ⟨wa_m 958 (by decide +kernel) rfl, wa_m 959 (by decide +kernel) rfl, wa_m 960 (by decide +kernel) rfl, wa_m 55 (by decide +kernel) rfl, by decide +kernel, by decide +kernel, by decide +kernel⟩
theorem cs_L_137 : mCs RL 137 yL_heldBy 3 := ⟨wa_m 576 (by decide +kernel) rfl, wa_m 577 (by decide +kernel) rfl, wa_m 50 (by decide +kernel) rfl, by decide +kernel, by decide +kernel, by decide +kernel⟩
theorem cv_L_139 : mCv RL 139 yX4_heldBy 1 := ⟨wa_m 962 (by decide +kernel) rfl, wa_m 963 (by decide +kernel) rfl, wa_m 964 (by decide +kernel) rfl, wa_m 55 (by decide +kernel) rfl, by decide +kernel, by decide +kernel, by decide +kernel⟩
theorem cs_L_140 : mCs RL 140 yL_epochOf 3 := ⟨wa_m 583 (by decide +kernel) rfl, wa_m 584 (by decide +kernel) rfl, wa_m 50 (by decide +kernel) rfl, by decide +kernel, by decide +kernel, by decide +kernel⟩
theorem cv_L_142 : mCv RL 142 yX4_epochOf 1 := ⟨wa_m 966 (by decide +kernel) rfl, wa_m 967 (by decide +kernel) rfl, wa_m 968 (by decide +kernel) rfl, wa_m 55 (by decide +kernel) rfl, by decide +kernel, by decide +kernel, by decide +kernel⟩
theorem cs_L_143 : mCs RL 143 yL_get 4 := ⟨wa_m 594 (by decide +kernel) rfl, wa_m 595 (by decide +kernel) rfl, wa_m 50 (by decide +kernel) rfl, by decide +kernel, by decide +kernel, by decide +kernel⟩
theorem cv_L_145 : mCv RL 145 yX4_get 2 := ⟨wa_m 974 (by decide +kernel) rfl, wa_m 975 (by decide +kernel) rfl, wa_m 976 (by decide +kernel) rfl, wa_m 55 (by decide +kernel) rfl, by decide +kernel, by decide +kernel, by decide +kernel⟩
theorem cs_L_146 : mCs RL 146 yL_next 4 := ⟨wa_m 601 (by decide +kernel) rfl, wa_m 602 (by decide +kernel) rfl, wa_m 50 (by decide +kernel) rfl, by decide +kernel, by decide +kernel, by decide +kernel⟩
theorem cv_L_148 : mCv RL 148 yX4_next 2 := ⟨wa_m 982 (by decide +kernel) rfl, wa_m 983 (by decide +kernel) rfl, wa_m 984 (by decide +kernel) rfl, wa_m 55 (by decide +kernel) rfl, by decide +kernel, by decide +kernel, by decide +kernel⟩
theorem cs_L_149 : mCs RL 149 yL_rank 4 := ⟨wa_m 613 (by decide +kernel) rfl, wa_m 614 (by decide +kernel) rfl, wa_m 50 (by decide +kernel) rfl, by decide +kernel, by decide +kernel, by decide +kernel⟩
theorem cv_L_151 : mCv RL 151 yX4_rank 2 := ⟨wa_m 986 (by decide +kernel) rfl, wa_m 987 (by decide +kernel) rfl, wa_m 988 (by decide +kernel) rfl, wa_m 55 (by decide +kernel) rfl, by decide +kernel, by decide +kernel, by decide +kernel⟩
theorem cs_L_152 : mCs RL 152 yL_size 3 := ⟨wa_m 624 (by decide +kernel) rfl, wa_m 625 (by decide +kernel) rfl, wa_m 50 (by decide +kernel) rfl, by decide +kernel, by decide +kernel, by decide +kernel⟩
theorem cv_L_154 : mCv RL 154 yX4_size 1 := ⟨wa_m 990 (by decide +kernel) rfl, wa_m 991 (by decide +kernel) rfl, wa_m 992 (by decide +kernel) rfl, wa_m 55 (by decide +kernel) rfl, by decide +kernel, by decide +kernel, by decide +kernel⟩
theorem cs_L_155 : mCs RL 155 yL_depth 3 := ⟨wa_m 631 (by decide +kernel) rfl, wa_m 632 (by decide +kernel) rfl, wa_m 50 (by decide +kernel) rfl, by decide +kernel, by decide +kernel, by decide +kernel⟩
theorem cv_L_157 : mCv RL 157 yX4_depth 1 := ⟨wa_m 994 (by decide +kernel) rfl, wa_m 995 (by decide +kernel) rfl, wa_m 996 (by decide +kernel) rfl, wa_m 55 (by decide +kernel) rfl, by decide +kernel, by decide +kernel, by decide +kernel⟩
theorem cs_L_158 : mCs RL 158 yL_rootOf 3 := ⟨wa_m 642 (by decide +kernel) rfl, wa_m 643 (by decide +kernel) rfl, wa_m 50 (by decide +kernel) rfl, by decide +kernel, by decide +kernel, by decide +kernel⟩
theorem cv_L_160 : mCv RL 160 yX4_rootOf 1 := ⟨wa_m 998 (by decide +kernel) rfl, wa_m 999 (by decide +kernel) rfl, wa_m 1000 (by decide +kernel) rfl, wa_m 55 (by decide +kernel) rfl, by decide +kernel, by decide +kernel, by decide +kernel⟩
theorem cs_L_161 : mCs RL 161 yL_sharedPages 4 := ⟨wa_m 649 (by decide +kernel) rfl, wa_m 650 (by decide +kernel) rfl, wa_m 50 (by decide +kernel) rfl, by decide +kernel, by decide +kernel, by decide +kernel⟩
theorem cv_L_163 : mCv RL 163 yX4_sharedPages 2 := ⟨wa_m 1002 (by decide +kernel) rfl, wa_m 1003 (by decide +kernel) rfl, wa_m 1004 (by decide +kernel) rfl, wa_m 55 (by decide +kernel) rfl, by decide +kernel, by decide +kernel, by decide +kernel⟩
theorem cs_L_164 : mCs RL 164 yL_isFree 3 := ⟨wa_m 660 (by decide +kernel) rfl, wa_m 661 (by decide +kernel) rfl, wa_m 50 (by decide +kernel) rfl, by decide +kernel, by decide +kernel, by decide +kernel⟩
theorem cv_L_166 : mCv RL 166 yX4_isFree 1 := ⟨wa_m 1010 (by decide +kernel) rfl, wa_m 1011 (by decide +kernel) rfl, wa_m 1012 (by decide +kernel) rfl, wa_m 55 (by decide +kernel) rfl, by decide +kernel, by decide +kernel, by decide +kernel⟩
theorem cv_L_167 : mCv RL 167 yX3_pagesInUse 0 := ⟨wa_m 210 (by decide +kernel) rfl, wa_m 211 (by decide +kernel) rfl, wa_m 212 (by decide +kernel) rfl, wa_m 51 (by decide +kernel) rfl, by decide +kernel, by decide +kernel, by decide +kernel⟩
theorem cv_L_170 : mCv RL 170 yX4_pagesInUse 0 := ⟨wa_m 1018 (by decide +kernel) rfl, wa_m 1019 (by decide +kernel) rfl, wa_m 1020 (by decide +kernel) rfl, wa_m 55 (by decide +kernel) rfl, by decide +kernel, by decide +kernel, by decide +kernel⟩
theorem cv_L_171 : mCv RL 171 yX3_leastFree 0 := ⟨wa_m 218 (by decide +kernel) rfl, wa_m 219 (by decide +kernel) rfl, wa_m 220 (by decide +kernel) rfl, wa_m 51 (by decide +kernel) rfl, by decide +kernel, by decide +kernel, by decide +kernel⟩
theorem cv_L_174 : mCv RL 174 yX4_leastFree 0 := ⟨wa_m 1022 (by decide +kernel) rfl, wa_m 1023 (by decide +kernel) rfl, wa_m 1024 (by decide +kernel) rfl, wa_m 55 (by decide +kernel) rfl, by decide +kernel, by decide +kernel, by decide +kernel⟩
theorem cs_L_175 : mCs RL 175 yL_entries 3 := ⟨wa_m 668 (by decide +kernel) rfl, wa_m 669 (by decide +kernel) rfl, wa_m 50 (by decide +kernel) rfl, by decide +kernel, by decide +kernel, by decide +kernel⟩
theorem cv_L_177 : mCv RL 177 yX4_entries 1 := ⟨wa_m 1026 (by decide +kernel) rfl, wa_m 1027 (by decide +kernel) rfl, wa_m 1028 (by decide +kernel) rfl, wa_m 55 (by decide +kernel) rfl, by decide +kernel, by decide +kernel, by decide +kernel⟩
theorem cs_L_178 : mCs RL 178 yL_keyAt 4 := ⟨wa_m 681 (by decide +kernel) rfl, wa_m 682 (by decide +kernel) rfl, wa_m 50 (by decide +kernel) rfl, by decide +kernel, by decide +kernel, by decide +kernel⟩
theorem cv_L_180 : mCv RL 180 yX4_keyAt 2 := ⟨wa_m 1030 (by decide +kernel) rfl, wa_m 1031 (by decide +kernel) rfl, wa_m 1032 (by decide +kernel) rfl, wa_m 55 (by decide +kernel) rfl, by decide +kernel, by decide +kernel, by decide +kernel⟩
theorem cs_L_181 : mCs RL 181 yL_pageAt 4 := ⟨wa_m 694 (by decide +kernel) rfl, wa_m 695 (by decide +kernel) rfl, wa_m 50 (by decide +kernel) rfl, by decide +kernel, by decide +kernel, by decide +kernel⟩
theorem cv_L_183 : mCv RL 183 yX4_pageAt 2 := ⟨wa_m 1038 (by decide +kernel) rfl, wa_m 1039 (by decide +kernel) rfl, wa_m 1040 (by decide +kernel) rfl, wa_m 55 (by decide +kernel) rfl, by decide +kernel, by decide +kernel, by decide +kernel⟩
theorem cv_L_184 : mCv RL 184 yX3_currentSlot 0 := ⟨wa_m 226 (by decide +kernel) rfl, wa_m 227 (by decide +kernel) rfl, wa_m 228 (by decide +kernel) rfl, wa_m 51 (by decide +kernel) rfl, by decide +kernel, by decide +kernel, by decide +kernel⟩
theorem cv_L_187 : mCv RL 187 yX4_currentSlot 0 := ⟨wa_m 1042 (by decide +kernel) rfl, wa_m 1043 (by decide +kernel) rfl, wa_m 1044 (by decide +kernel) rfl, wa_m 55 (by decide +kernel) rfl, by decide +kernel, by decide +kernel, by decide +kernel⟩
theorem cs_L_188 : mCs RL 188 yL_slotWord 4 := ⟨wa_m 702 (by decide +kernel) rfl, wa_m 703 (by decide +kernel) rfl, wa_m 50 (by decide +kernel) rfl, by decide +kernel, by decide +kernel, by decide +kernel⟩
theorem cv_L_190 : mCv RL 190 yX4_slotWord 2 := ⟨wa_m 1046 (by decide +kernel) rfl, wa_m 1047 (by decide +kernel) rfl, wa_m 1048 (by decide +kernel) rfl, wa_m 55 (by decide +kernel) rfl, by decide +kernel, by decide +kernel, by decide +kernel⟩
theorem cs_L_191 : mCs RL 191 yL_isWhole 3 := ⟨wa_m 714 (by decide +kernel) rfl, wa_m 715 (by decide +kernel) rfl, wa_m 50 (by decide +kernel) rfl, by decide +kernel, by decide +kernel, by decide +kernel⟩
theorem cv_L_193 : mCv RL 193 yX4_isWhole 1 := ⟨wa_m 1050 (by decide +kernel) rfl, wa_m 1051 (by decide +kernel) rfl, wa_m 1052 (by decide +kernel) rfl, wa_m 55 (by decide +kernel) rfl, by decide +kernel, by decide +kernel, by decide +kernel⟩
theorem cs_L_194 : mCs RL 194 yL_tear 3 := ⟨wa_m 721 (by decide +kernel) rfl, wa_m 722 (by decide +kernel) rfl, wa_m 50 (by decide +kernel) rfl, by decide +kernel, by decide +kernel, by decide +kernel⟩
theorem cv_L_196 : mCv RL 196 yX4_tear 1 := ⟨wa_m 1054 (by decide +kernel) rfl, wa_m 1055 (by decide +kernel) rfl, wa_m 1056 (by decide +kernel) rfl, wa_m 55 (by decide +kernel) rfl, by decide +kernel, by decide +kernel, by decide +kernel⟩
theorem cv_L_197 : mCv RL 197 yX3_crash 0 := ⟨wa_m 230 (by decide +kernel) rfl, wa_m 231 (by decide +kernel) rfl, wa_m 232 (by decide +kernel) rfl, wa_m 51 (by decide +kernel) rfl, by decide +kernel, by decide +kernel, by decide +kernel⟩
theorem cv_L_200 : mCv RL 200 yX4_crash 0 := ⟨wa_m 1059 (by decide +kernel) rfl, wa_m 1060 (by decide +kernel) rfl, wa_m 1061 (by decide +kernel) rfl, wa_m 55 (by decide +kernel) rfl, by decide +kernel, by decide +kernel, by decide +kernel⟩
theorem cs_L_201 : mCs RL 201 yL_crashInCommit 3 := ⟨wa_m 730 (by decide +kernel) rfl, wa_m 731 (by decide +kernel) rfl, wa_m 50 (by decide +kernel) rfl, by decide +kernel, by decide +kernel, by decide +kernel⟩
theorem cv_L_203 : mCv RL 203 yX4_crashInCommit 1 := ⟨wa_m 1067 (by decide +kernel) rfl, wa_m 1068 (by decide +kernel) rfl, wa_m 1069 (by decide +kernel) rfl, wa_m 55 (by decide +kernel) rfl, by decide +kernel, by decide +kernel, by decide +kernel⟩
theorem cv_X4_52 : mCv RX4 52 yX4_closesAll 0 := ⟨wa_m 746 (by decide +kernel) rfl, wa_m 748 (by decide +kernel) rfl, wa_m 15 (by decide +kernel) rfl, wa_m 55 (by decide +kernel) rfl, by decide +kernel, by decide +kernel, by decide +kernel⟩
theorem cv_X4_58 : mCv RX4 58 yX4_forgets 0 := ⟨wa_m 852 (by decide +kernel) rfl, wa_m 854 (by decide +kernel) rfl, wa_m 23 (by decide +kernel) rfl, wa_m 55 (by decide +kernel) rfl, by decide +kernel, by decide +kernel, by decide +kernel⟩
theorem cv_X4_64 : mCv RX4 64 yX4_meets 1 := ⟨wa_m 856 (by decide +kernel) rfl, wa_m 858 (by decide +kernel) rfl, wa_m 24 (by decide +kernel) rfl, wa_m 55 (by decide +kernel) rfl, by decide +kernel, by decide +kernel, by decide +kernel⟩
theorem cv_X4_68 : mCv RX4 68 yX4_whole 1 := ⟨wa_m 860 (by decide +kernel) rfl, wa_m 862 (by decide +kernel) rfl, wa_m 25 (by decide +kernel) rfl, wa_m 55 (by decide +kernel) rfl, by decide +kernel, by decide +kernel, by decide +kernel⟩
theorem cv_X4_72 : mCv RX4 72 yX4_meetsAll 1 := ⟨wa_m 848 (by decide +kernel) rfl, wa_m 850 (by decide +kernel) rfl, wa_m 22 (by decide +kernel) rfl, wa_m 55 (by decide +kernel) rfl, by decide +kernel, by decide +kernel, by decide +kernel⟩
theorem cs_X4_76 : mCs RX4 76 yX4_in 3 := ⟨wa_m 825 (by decide +kernel) rfl, wa_m 826 (by decide +kernel) rfl, wa_m 55 (by decide +kernel) rfl, by decide +kernel, by decide +kernel, by decide +kernel⟩
theorem cv_X4_80 : mCv RX4 80 yX4_leastNotMet 0 := ⟨wa_m 866 (by decide +kernel) rfl, wa_m 868 (by decide +kernel) rfl, wa_m 26 (by decide +kernel) rfl, wa_m 55 (by decide +kernel) rfl, by decide +kernel, by decide +kernel, by decide +kernel⟩
theorem cv_X4_84 : mCv RX4 84 yX4_lays 4 := ⟨wa_m 886 (by decide +kernel) rfl, wa_m 888 (by decide +kernel) rfl, wa_m 31 (by decide +kernel) rfl, wa_m 55 (by decide +kernel) rfl, by decide +kernel, by decide +kernel, by decide +kernel⟩
theorem cv_X4_88 : mCv RX4 88 yX4_leastKey 1 := ⟨wa_m 836 (by decide +kernel) rfl, wa_m 838 (by decide +kernel) rfl, wa_m 19 (by decide +kernel) rfl, wa_m 55 (by decide +kernel) rfl, by decide +kernel, by decide +kernel, by decide +kernel⟩
theorem cv_X4_94 : mCv RX4 94 yX4_keyOf 2 := ⟨wa_m 832 (by decide +kernel) rfl, wa_m 834 (by decide +kernel) rfl, wa_m 18 (by decide +kernel) rfl, wa_m 55 (by decide +kernel) rfl, by decide +kernel, by decide +kernel, by decide +kernel⟩
theorem cv_X4_98 : mCv RX4 98 yX4_takes 1 := ⟨wa_m 844 (by decide +kernel) rfl, wa_m 846 (by decide +kernel) rfl, wa_m 21 (by decide +kernel) rfl, wa_m 55 (by decide +kernel) rfl, by decide +kernel, by decide +kernel, by decide +kernel⟩
theorem cv_X4_101 : mCv RX4 101 yX4_copies 2 := ⟨wa_m 870 (by decide +kernel) rfl, wa_m 872 (by decide +kernel) rfl, wa_m 27 (by decide +kernel) rfl, wa_m 55 (by decide +kernel) rfl, by decide +kernel, by decide +kernel, by decide +kernel⟩
theorem cv_X4_105 : mCv RX4 105 yX4_own 2 := ⟨wa_m 874 (by decide +kernel) rfl, wa_m 876 (by decide +kernel) rfl, wa_m 28 (by decide +kernel) rfl, wa_m 55 (by decide +kernel) rfl, by decide +kernel, by decide +kernel, by decide +kernel⟩
theorem cv_X4_108 : mCv RX4 108 yX4_moves 3 := ⟨wa_m 894 (by decide +kernel) rfl, wa_m 896 (by decide +kernel) rfl, wa_m 33 (by decide +kernel) rfl, wa_m 55 (by decide +kernel) rfl, by decide +kernel, by decide +kernel, by decide +kernel⟩
theorem cv_X4_112 : mCv RX4 112 yX4_drops 2 := ⟨wa_m 902 (by decide +kernel) rfl, wa_m 904 (by decide +kernel) rfl, wa_m 34 (by decide +kernel) rfl, wa_m 55 (by decide +kernel) rfl, by decide +kernel, by decide +kernel, by decide +kernel⟩
theorem cv_X4_115 : mCv RX4 115 yX4_mends 1 := ⟨wa_m 910 (by decide +kernel) rfl, wa_m 912 (by decide +kernel) rfl, wa_m 36 (by decide +kernel) rfl, wa_m 55 (by decide +kernel) rfl, by decide +kernel, by decide +kernel, by decide +kernel⟩
theorem cv_X4_118 : mCv RX4 118 yX4_goes 3 := ⟨wa_m 813 (by decide +kernel) rfl, wa_m 815 (by decide +kernel) rfl, wa_m 16 (by decide +kernel) rfl, wa_m 55 (by decide +kernel) rfl, by decide +kernel, by decide +kernel, by decide +kernel⟩
theorem cv_X4_125 : mCv RX4 125 yX4_finds 2 := ⟨wa_m 828 (by decide +kernel) rfl, wa_m 830 (by decide +kernel) rfl, wa_m 17 (by decide +kernel) rfl, wa_m 55 (by decide +kernel) rfl, by decide +kernel, by decide +kernel, by decide +kernel⟩
theorem cv_X4_128 : mCv RX4 128 yX4_writesWay 0 := ⟨wa_m 840 (by decide +kernel) rfl, wa_m 842 (by decide +kernel) rfl, wa_m 20 (by decide +kernel) rfl, wa_m 55 (by decide +kernel) rfl, by decide +kernel, by decide +kernel, by decide +kernel⟩
theorem cv_X4_131 : mCv RX4 131 yX4_place 2 := ⟨wa_m 878 (by decide +kernel) rfl, wa_m 880 (by decide +kernel) rfl, wa_m 29 (by decide +kernel) rfl, wa_m 55 (by decide +kernel) rfl, by decide +kernel, by decide +kernel, by decide +kernel⟩
theorem cv_X4_134 : mCv RX4 134 yX4_has 3 := ⟨wa_m 882 (by decide +kernel) rfl, wa_m 884 (by decide +kernel) rfl, wa_m 30 (by decide +kernel) rfl, wa_m 55 (by decide +kernel) rfl, by decide +kernel, by decide +kernel, by decide +kernel⟩
theorem cv_X4_137 : mCv RX4 137 yX4_splits 0 := ⟨wa_m 890 (by decide +kernel) rfl, wa_m 892 (by decide +kernel) rfl, wa_m 32 (by decide +kernel) rfl, wa_m 55 (by decide +kernel) rfl, by decide +kernel, by decide +kernel, by decide +kernel⟩
theorem cv_X4_140 : mCv RX4 140 yX4_joins 0 := ⟨wa_m 906 (by decide +kernel) rfl, wa_m 908 (by decide +kernel) rfl, wa_m 35 (by decide +kernel) rfl, wa_m 55 (by decide +kernel) rfl, by decide +kernel, by decide +kernel, by decide +kernel⟩
theorem cv_X4_147 : mCv RX4 147 yX4_keys 1 := ⟨wa_m 926 (by decide +kernel) rfl, wa_m 928 (by decide +kernel) rfl, wa_m 39 (by decide +kernel) rfl, wa_m 55 (by decide +kernel) rfl, by decide +kernel, by decide +kernel, by decide +kernel⟩
theorem cv_X4_153 : mCv RX4 153 yX4_word 1 := ⟨wa_m 922 (by decide +kernel) rfl, wa_m 924 (by decide +kernel) rfl, wa_m 38 (by decide +kernel) rfl, wa_m 55 (by decide +kernel) rfl, by decide +kernel, by decide +kernel, by decide +kernel⟩
theorem cv_X4_157 : mCv RX4 157 yX4_writes 1 := ⟨wa_m 918 (by decide +kernel) rfl, wa_m 920 (by decide +kernel) rfl, wa_m 37 (by decide +kernel) rfl, wa_m 55 (by decide +kernel) rfl, by decide +kernel, by decide +kernel, by decide +kernel⟩
theorem cv_X4_160 : mCv RX4 160 yX4_reads 1 := ⟨wa_m 934 (by decide +kernel) rfl, wa_m 936 (by decide +kernel) rfl, wa_m 41 (by decide +kernel) rfl, wa_m 55 (by decide +kernel) rfl, by decide +kernel, by decide +kernel, by decide +kernel⟩
theorem cv_X4_163 : mCv RX4 163 yX4_isReader 1 := ⟨wa_m 950 (by decide +kernel) rfl, wa_m 952 (by decide +kernel) rfl, wa_m 42 (by decide +kernel) rfl, wa_m 55 (by decide +kernel) rfl, by decide +kernel, by decide +kernel, by decide +kernel⟩
theorem cv_X4_166 : mCv RX4 166 yX4_held 1 := ⟨wa_m 954 (by decide +kernel) rfl, wa_m 956 (by decide +kernel) rfl, wa_m 43 (by decide +kernel) rfl, wa_m 55 (by decide +kernel) rfl, by decide +kernel, by decide +kernel, by decide +kernel⟩
theorem cv_X4_169 : mCv RX4 169 yX4_below 2 := ⟨wa_m 930 (by decide +kernel) rfl, wa_m 932 (by decide +kernel) rfl, wa_m 40 (by decide +kernel) rfl, wa_m 55 (by decide +kernel) rfl, by decide +kernel, by decide +kernel, by decide +kernel⟩
theorem cv_X4_172 : mCv RX4 172 yX4_isView 1 := ⟨wa_m 970 (by decide +kernel) rfl, wa_m 972 (by decide +kernel) rfl, wa_m 44 (by decide +kernel) rfl, wa_m 55 (by decide +kernel) rfl, by decide +kernel, by decide +kernel, by decide +kernel⟩
theorem cv_X4_175 : mCv RX4 175 yX4_top 1 := ⟨wa_m 978 (by decide +kernel) rfl, wa_m 980 (by decide +kernel) rfl, wa_m 45 (by decide +kernel) rfl, wa_m 55 (by decide +kernel) rfl, by decide +kernel, by decide +kernel, by decide +kernel⟩
theorem cv_X4_178 : mCv RX4 178 yX4_shared 1 := ⟨wa_m 1006 (by decide +kernel) rfl, wa_m 1008 (by decide +kernel) rfl, wa_m 46 (by decide +kernel) rfl, wa_m 55 (by decide +kernel) rfl, by decide +kernel, by decide +kernel, by decide +kernel⟩
theorem cv_X4_181 : mCv RX4 181 yX4_inUse 1 := ⟨wa_m 1014 (by decide +kernel) rfl, wa_m 1016 (by decide +kernel) rfl, wa_m 47 (by decide +kernel) rfl, wa_m 55 (by decide +kernel) rfl, by decide +kernel, by decide +kernel, by decide +kernel⟩
theorem cv_X4_184 : mCv RX4 184 yX4_isEntry 2 := ⟨wa_m 1034 (by decide +kernel) rfl, wa_m 1036 (by decide +kernel) rfl, wa_m 48 (by decide +kernel) rfl, wa_m 55 (by decide +kernel) rfl, by decide +kernel, by decide +kernel, by decide +kernel⟩
theorem cv_X4_190 : mCv RX4 190 yX4_restarts 0 := ⟨wa_m 1063 (by decide +kernel) rfl, wa_m 1065 (by decide +kernel) rfl, wa_m 49 (by decide +kernel) rfl, wa_m 55 (by decide +kernel) rfl, by decide +kernel, by decide +kernel, by decide +kernel⟩
theorem ta_of {l : List Jvm.Cond} {u : Jvm.Cond} (h : l.all (fun w => (decide (w = u) || decide (w ∈ mDe)) || (decide (w ∈ lw_tbl) && goodWord w)) = true) : ∀ x ∈ l, x ∈ WA ∨ x = u ∨ x ∈ mDe := fun x hx => by
  have h1 := List.all_eq_true.mp h x hx
  simp only [Bool.or_eq_true, Bool.and_eq_true, decide_eq_true_eq] at h1
  rcases h1 with (h1 | h1) | h1
  · exact Or.inr (Or.inl h1)
  · exact Or.inr (Or.inr h1)
  · exact Or.inl (List.mem_filter.mpr h1)
theorem ta_66 : ∀ x ∈ vx_atS RX3 66 "java/lang/IllegalStateException" mNm, x ∈ WA ∨ x = .castable "java/lang/IllegalStateException" "java/lang/IllegalStateException" ∨ x ∈ mDe := ta_of (by decide +kernel)
theorem ta_152 : ∀ x ∈ vx_atS RX3 152 "java/lang/IndexOutOfBoundsException" mNm, x ∈ WA ∨ x = .castable "java/lang/IndexOutOfBoundsException" "java/lang/IndexOutOfBoundsException" ∨ x ∈ mDe := ta_of (by decide +kernel)
theorem ta_200 : ∀ x ∈ vx_atS RX3 200 "java/lang/IllegalArgumentException" mNm, x ∈ WA ∨ x = .castable "java/lang/IllegalArgumentException" "java/lang/IllegalArgumentException" ∨ x ∈ mDe := ta_of (by decide +kernel)
theorem ta_232 : ∀ x ∈ (nAll RX3 232).filter vx_no, x ∈ WA ∨ x = .castable nX nX ∨ x ∈ mDe := ta_of (by decide +kernel)
theorem th_X3_64 : mTh RX3 62 64 66 "java/lang/IllegalStateException" "there is a batch" := ⟨by decide +kernel, by decide +kernel, rfl, by decide +kernel, wa_m 270 (by decide +kernel) rfl, wa_m 59 (by decide +kernel) rfl, ta_66, by decide +kernel⟩
theorem th_X3_113 : mTh RX3 62 113 66 "java/lang/IllegalStateException" "all readers are open" := ⟨by decide +kernel, by decide +kernel, rfl, by decide +kernel, wa_m 270 (by decide +kernel) rfl, wa_m 59 (by decide +kernel) rfl, ta_66, by decide +kernel⟩
theorem th_X3_189 : mTh RX3 62 189 66 "java/lang/IllegalStateException" "the other slot is torn" := ⟨by decide +kernel, by decide +kernel, rfl, by decide +kernel, wa_m 270 (by decide +kernel) rfl, wa_m 59 (by decide +kernel) rfl, ta_66, by decide +kernel⟩
theorem th_X3_201 : mTh RX3 62 201 66 "java/lang/IllegalStateException" "no slot would be whole" := ⟨by decide +kernel, by decide +kernel, rfl, by decide +kernel, wa_m 270 (by decide +kernel) rfl, wa_m 59 (by decide +kernel) rfl, ta_66, by decide +kernel⟩
theorem th_X3_208 : mTh RX3 62 208 66 "java/lang/IllegalStateException" "there is no batch" := ⟨by decide +kernel, by decide +kernel, rfl, by decide +kernel, wa_m 270 (by decide +kernel) rfl, wa_m 59 (by decide +kernel) rfl, ta_66, by decide +kernel⟩
theorem th_X3_150 : mTh RX3 148 150 152 "java/lang/IndexOutOfBoundsException" "no such page" := ⟨by decide +kernel, by decide +kernel, rfl, by decide +kernel, wa_m 560 (by decide +kernel) rfl, wa_m 62 (by decide +kernel) rfl, ta_152, by decide +kernel⟩
theorem th_X3_180 : mTh RX3 148 180 152 "java/lang/IndexOutOfBoundsException" "no such word" := ⟨by decide +kernel, by decide +kernel, rfl, by decide +kernel, wa_m 560 (by decide +kernel) rfl, wa_m 62 (by decide +kernel) rfl, ta_152, by decide +kernel⟩
theorem th_X3_210 : mTh RX3 148 210 152 "java/lang/IndexOutOfBoundsException" "no open reader has this number" := ⟨by decide +kernel, by decide +kernel, rfl, by decide +kernel, wa_m 560 (by decide +kernel) rfl, wa_m 62 (by decide +kernel) rfl, ta_152, by decide +kernel⟩
theorem th_X3_212 : mTh RX3 148 212 152 "java/lang/IndexOutOfBoundsException" "no such page in use" := ⟨by decide +kernel, by decide +kernel, rfl, by decide +kernel, wa_m 560 (by decide +kernel) rfl, wa_m 62 (by decide +kernel) rfl, ta_152, by decide +kernel⟩
theorem th_X3_214 : mTh RX3 148 214 152 "java/lang/IndexOutOfBoundsException" "no such entry" := ⟨by decide +kernel, by decide +kernel, rfl, by decide +kernel, wa_m 560 (by decide +kernel) rfl, wa_m 62 (by decide +kernel) rfl, ta_152, by decide +kernel⟩
theorem th_X3_216 : mTh RX3 148 216 152 "java/lang/IndexOutOfBoundsException" "no such slot" := ⟨by decide +kernel, by decide +kernel, rfl, by decide +kernel, wa_m 560 (by decide +kernel) rfl, wa_m 62 (by decide +kernel) rfl, ta_152, by decide +kernel⟩
theorem th_X3_198 : mTh RX3 196 198 200 "java/lang/IllegalArgumentException" "words is out of range" := ⟨by decide +kernel, by decide +kernel, rfl, by decide +kernel, wa_m 354 (by decide +kernel) rfl, wa_m 60 (by decide +kernel) rfl, ta_200, by decide +kernel⟩
theorem th_X3_206 : mTh RX3 196 206 200 "java/lang/IllegalArgumentException" "key is not 0 to 99" := ⟨by decide +kernel, by decide +kernel, rfl, by decide +kernel, wa_m 354 (by decide +kernel) rfl, wa_m 60 (by decide +kernel) rfl, ta_200, by decide +kernel⟩
theorem tn_X3_230 : mTn RX3 228 230 232 "the tree does not have the key" := ⟨by decide +kernel, rfl, wa_m 471 (by decide +kernel) rfl, wa_m 61 (by decide +kernel) rfl, ta_232, by decide +kernel⟩
theorem ka_boolean : Jvm.Cond.arrayClass .boolean ∈ WA := wa_m 106 (by decide +kernel) rfl
theorem ka_byte : Jvm.Cond.arrayClass .byte ∈ WA := wa_m 338 (by decide +kernel) rfl
theorem ka_int : Jvm.Cond.arrayClass .int ∈ WA := wa_m 105 (by decide +kernel) rfl
theorem ka_long : Jvm.Cond.arrayClass .long ∈ WA := wa_m 197 (by decide +kernel) rfl
theorem kc_X3_148 : Jvm.Cond.classLink RX3 148 "java/lang/IndexOutOfBoundsException" ∈ WA := wa_m 560 (by decide +kernel) rfl
theorem kc_X3_16 : Jvm.Cond.classLink RX3 16 "Copperleaf$State" ∈ WA := wa_m 107 (by decide +kernel) rfl
theorem kc_X3_196 : Jvm.Cond.classLink RX3 196 "java/lang/IllegalArgumentException" ∈ WA := wa_m 354 (by decide +kernel) rfl
theorem kc_X3_228 : Jvm.Cond.classLink RX3 228 "java/util/NoSuchElementException" ∈ WA := wa_m 471 (by decide +kernel) rfl
theorem kc_X3_26 : Jvm.Cond.classLink RX3 26 "Copperleaf$Writer" ∈ WA := wa_m 132 (by decide +kernel) rfl
theorem kc_X3_62 : Jvm.Cond.classLink RX3 62 "java/lang/IllegalStateException" ∈ WA := wa_m 270 (by decide +kernel) rfl
theorem kc_X3_9 : Jvm.Cond.classLink RX3 9 "Copperleaf$Pages" ∈ WA := wa_m 71 (by decide +kernel) rfl
theorem kc_L_13 : Jvm.Cond.classLink RL 13 "java/lang/IllegalStateException" ∈ WA := wa_m 265 (by decide +kernel) rfl
theorem kc_L_19 : Jvm.Cond.classLink RL 19 "java/lang/IllegalArgumentException" ∈ WA := wa_m 346 (by decide +kernel) rfl
theorem kc_L_25 : Jvm.Cond.classLink RL 25 "java/util/NoSuchElementException" ∈ WA := wa_m 455 (by decide +kernel) rfl
theorem kc_L_39 : Jvm.Cond.classLink RL 39 "java/lang/IndexOutOfBoundsException" ∈ WA := wa_m 551 (by decide +kernel) rfl
theorem kc_L_8 : Jvm.Cond.classLink RL 8 "Copperleaf" ∈ WA := wa_m 63 (by decide +kernel) rfl
theorem kc_L_96 : Jvm.Cond.classLink RL 96 "CopperleafModel" ∈ WA := wa_m 740 (by decide +kernel) rfl
theorem kl_X3_191 : Jvm.Cond.constantLong RX3 191 (-1 : Int64) ∈ WA := wa_m 729 (by decide +kernel) rfl
theorem kl_X3_240 : Jvm.Cond.constantLong RX3 240 (1000003 : Int64) ∈ WA := wa_m 249 (by decide +kernel) rfl
theorem kl_X3_242 : Jvm.Cond.constantLong RX3 242 (1009 : Int64) ∈ WA := wa_m 250 (by decide +kernel) rfl
theorem kl_X4_143 : Jvm.Cond.constantLong RX4 143 (1000003 : Int64) ∈ WA := wa_m 864 (by decide +kernel) rfl
theorem kl_X4_145 : Jvm.Cond.constantLong RX4 145 (1009 : Int64) ∈ WA := wa_m 865 (by decide +kernel) rfl
theorem kl_X4_188 : Jvm.Cond.constantLong RX4 188 (-1 : Int64) ∈ WA := wa_m 1058 (by decide +kernel) rfl
theorem kj_X0 : Jvm.Cond.initialized RX0 ∈ WA := wa_m 52 (by decide +kernel) rfl
theorem kj_X1 : Jvm.Cond.initialized RX1 ∈ WA := wa_m 53 (by decide +kernel) rfl
theorem kj_X2 : Jvm.Cond.initialized RX2 ∈ WA := wa_m 54 (by decide +kernel) rfl
theorem kj_X3 : Jvm.Cond.initialized RX3 ∈ WA := wa_m 51 (by decide +kernel) rfl
theorem kj_L : Jvm.Cond.initialized RL ∈ WA := wa_m 50 (by decide +kernel) rfl
theorem kj_X4 : Jvm.Cond.initialized RX4 ∈ WA := wa_m 55 (by decide +kernel) rfl
theorem kn_X0 : Jvm.Cond.instantiable RX0 8 ∈ WA := wa_m 72 (by decide +kernel) rfl
theorem kn_X1 : Jvm.Cond.instantiable RX1 4 ∈ WA := wa_m 108 (by decide +kernel) rfl
theorem kn_X2 : Jvm.Cond.instantiable RX2 5 ∈ WA := wa_m 133 (by decide +kernel) rfl
theorem kn_X3 : Jvm.Cond.instantiable RX3 7 ∈ WA := wa_m 64 (by decide +kernel) rfl
theorem kn_X4 : Jvm.Cond.instantiable RX4 18 ∈ WA := wa_m 741 (by decide +kernel) rfl
theorem ko_X0 : Jvm.Cond.methodLink RX0 3 objectInit ∈ WA := wa_m 76 (by decide +kernel) rfl
theorem ko_X1 : Jvm.Cond.methodLink RX1 1 objectInit ∈ WA := wa_m 112 (by decide +kernel) rfl
theorem ko_X2 : Jvm.Cond.methodLink RX2 3 objectInit ∈ WA := wa_m 137 (by decide +kernel) rfl
theorem ko_X3 : Jvm.Cond.methodLink RX3 3 objectInit ∈ WA := wa_m 68 (by decide +kernel) rfl
theorem ko_X4 : Jvm.Cond.methodLink RX4 1 objectInit ∈ WA := wa_m 745 (by decide +kernel) rfl
theorem ko_i : Jvm.Cond.instanceMethod objectInit ∈ WA := wa_m 69 (by decide +kernel) rfl
theorem ko_c : Jvm.Cond.code objectInit ⟨#[0xb1]⟩ 1 none ∈ WA := wa_m 70 (by decide +kernel) rfl
