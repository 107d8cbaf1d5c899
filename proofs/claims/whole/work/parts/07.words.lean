theorem gt_1 {w : Cond} (h : w ∈ tables_1_1) (ok : nl_ok w = true) : w ∈ GT := List.mem_filter.mpr ⟨List.mem_append_right _ (List.mem_append_left _ h), ok⟩
theorem gt_2 {w : Cond} (h : w ∈ tables_1_2) (ok : nl_ok w = true) : w ∈ GT := List.mem_filter.mpr ⟨List.mem_append_right _ (List.mem_append_right _ (List.mem_append_left _ h)), ok⟩
theorem gt_3 {w : Cond} (h : w ∈ tables_1_3) (ok : nl_ok w = true) : w ∈ GT := List.mem_filter.mpr ⟨List.mem_append_right _ (List.mem_append_right _ (List.mem_append_right _ (List.mem_append_left _ h))), ok⟩
theorem gt_4 {w : Cond} (h : w ∈ tables_1_4) (ok : nl_ok w = true) : w ∈ GT := List.mem_filter.mpr ⟨List.mem_append_right _ (List.mem_append_right _ (List.mem_append_right _ (List.mem_append_right _ (List.mem_append_left _ h)))), ok⟩
theorem gt_5 {w : Cond} (h : w ∈ tables_1_5) (ok : nl_ok w = true) : w ∈ GT := List.mem_filter.mpr ⟨List.mem_append_right _ (List.mem_append_right _ (List.mem_append_right _ (List.mem_append_right _ (List.mem_append_right _ (List.mem_append_left _ h))))), ok⟩
theorem gt_6 {w : Cond} (h : w ∈ tables_1_6) (ok : nl_ok w = true) : w ∈ GT := List.mem_filter.mpr ⟨List.mem_append_right _ (List.mem_append_right _ (List.mem_append_right _ (List.mem_append_right _ (List.mem_append_right _ (List.mem_append_right _ (List.mem_append_left _ h)))))), ok⟩
theorem gt_7 {w : Cond} (h : w ∈ tables_1_7) (ok : nl_ok w = true) : w ∈ GT := List.mem_filter.mpr ⟨List.mem_append_right _ (List.mem_append_right _ (List.mem_append_right _ (List.mem_append_right _ (List.mem_append_right _ (List.mem_append_right _ (List.mem_append_right _ (List.mem_append_left _ h))))))), ok⟩
theorem gt_8 {w : Cond} (h : w ∈ tables_1_8) (ok : nl_ok w = true) : w ∈ GT := List.mem_filter.mpr ⟨List.mem_append_right _ (List.mem_append_right _ (List.mem_append_right _ (List.mem_append_right _ (List.mem_append_right _ (List.mem_append_right _ (List.mem_append_right _ (List.mem_append_right _ (h)))))))), ok⟩
theorem gt_all {ws : List Cond} (h : ws.all (fun w => tables_1.contains w && nl_ok w) = true) : ∀ w ∈ ws, w ∈ GT := by
  intro w hw
  have h2 := (Bool.and_eq_true _ _).mp (List.all_eq_true.mp h w hw)
  exact List.mem_filter.mpr ⟨List.mem_append_right _ (List.contains_iff_mem.mp h2.1), h2.2⟩
theorem wi_X0 : ∀ w ∈ u_ws RX0 TX0 7, w ∈ GT := gt_all (by decide +kernel)
theorem wi_X1 : ∀ w ∈ u_ws RX1 TX1 3, w ∈ GT := gt_all (by decide +kernel)
theorem wi_X2 : ∀ w ∈ u_ws RX2 TX2 4, w ∈ GT := gt_all (by decide +kernel)
theorem wi_X3 : ∀ w ∈ u_ws RX3 TX3 4, w ∈ GT := gt_all (by decide +kernel)
theorem wi_X4 : ∀ w ∈ u_ws RX4 TX4 11, w ∈ GT := gt_all (by decide +kernel)
theorem wi_X5 : ∀ w ∈ u_ws RX5 TX5 3, w ∈ GT := gt_all (by decide +kernel)
theorem wi_X6 : ∀ w ∈ u_ws RX6 TX6 2, w ∈ GT := gt_all (by decide +kernel)
theorem wi_X7 : ∀ w ∈ u_ws RX7 TX7 2, w ∈ GT := gt_all (by decide +kernel)
theorem wi_X8 : ∀ w ∈ u_ws RX8 TX8 7, w ∈ GT := gt_all (by decide +kernel)
theorem wi_X9 : ∀ w ∈ u_ws RX9 TX9 17, w ∈ GT := gt_all (by decide +kernel)
theorem wi_X10 : ∀ w ∈ u_ws RX10 TX10 4, w ∈ GT := gt_all (by decide +kernel)
theorem wi_X11 : ∀ w ∈ u_ws RX11 TX11 11, w ∈ GT := gt_all (by decide +kernel)
theorem wi_X12 : ∀ w ∈ u_ws RX12 TX12 73, w ∈ GT := gt_all (by decide +kernel)
theorem fk_X7_9 : FLk RX7 9 7 0 (.array .byte) true := ⟨_, _, _, tyX7, rfl, by decide, gt_1 (List.mem_of_getElem? (i := 40) rfl) rfl, wi_X7, tyX7_ok, nmX7, rfl, by decide +kernel, rfl⟩
theorem fk_X8_45 : FLk RX8 45 7 0 (.array .byte) true := ⟨_, _, _, tyX7, rfl, by decide, gt_1 (List.mem_of_getElem? (i := 41) rfl) rfl, wi_X7, tyX7_ok, nmX7, rfl, by decide +kernel, rfl⟩
theorem fk_X11_84 : FLk RX11 84 7 1 (.int) false := ⟨_, _, _, tyX7, rfl, by decide, gt_1 (List.mem_of_getElem? (i := 42) rfl) rfl, wi_X7, tyX7_ok, nmX7, rfl, by decide +kernel, rfl⟩
theorem fk_X7_15 : FLk RX7 15 7 1 (.int) false := ⟨_, _, _, tyX7, rfl, by decide, gt_1 (List.mem_of_getElem? (i := 43) rfl) rfl, wi_X7, tyX7_ok, nmX7, rfl, by decide +kernel, rfl⟩
theorem fk_X8_41 : FLk RX8 41 7 1 (.int) false := ⟨_, _, _, tyX7, rfl, by decide, gt_1 (List.mem_of_getElem? (i := 44) rfl) rfl, wi_X7, tyX7_ok, nmX7, rfl, by decide +kernel, rfl⟩
theorem fk_X8_15 : FLk RX8 15 8 0 (.object "NextLight$Tape") true := ⟨_, _, _, tyX8, rfl, by decide, gt_1 (List.mem_of_getElem? (i := 112) rfl) rfl, wi_X8, tyX8_ok, nmX8, rfl, by decide +kernel, rfl⟩
theorem fk_X8_11 : FLk RX8 11 8 1 (.array .long) true := ⟨_, _, _, tyX8, rfl, by decide, gt_1 (List.mem_of_getElem? (i := 113) rfl) rfl, wi_X8, tyX8_ok, nmX8, rfl, by decide +kernel, rfl⟩
theorem fk_X6_34 : FLk RX6 34 8 2 (.int) false := ⟨_, _, _, tyX8, rfl, by decide, gt_1 (List.mem_of_getElem? (i := 114) rfl) rfl, wi_X8, tyX8_ok, nmX8, rfl, by decide +kernel, rfl⟩
theorem fk_X8_49 : FLk RX8 49 8 2 (.int) false := ⟨_, _, _, tyX8, rfl, by decide, gt_1 (List.mem_of_getElem? (i := 115) rfl) rfl, wi_X8, tyX8_ok, nmX8, rfl, by decide +kernel, rfl⟩
theorem fk_X8_38 : FLk RX8 38 8 3 (.int) false := ⟨_, _, _, tyX8, rfl, by decide, gt_1 (List.mem_of_getElem? (i := 116) rfl) rfl, wi_X8, tyX8_ok, nmX8, rfl, by decide +kernel, rfl⟩
theorem fk_X6_72 : FLk RX6 72 8 3 (.int) false := ⟨_, _, _, tyX8, rfl, by decide, gt_1 (List.mem_of_getElem? (i := 117) rfl) rfl, wi_X8, tyX8_ok, nmX8, rfl, by decide +kernel, rfl⟩
theorem fk_X8_31 : FLk RX8 31 8 4 (.int) false := ⟨_, _, _, tyX8, rfl, by decide, gt_1 (List.mem_of_getElem? (i := 118) rfl) rfl, wi_X8, tyX8_ok, nmX8, rfl, by decide +kernel, rfl⟩
theorem fk_X6_85 : FLk RX6 85 8 5 (.long) false := ⟨_, _, _, tyX8, rfl, by decide, gt_1 (List.mem_of_getElem? (i := 119) rfl) rfl, wi_X8, tyX8_ok, nmX8, rfl, by decide +kernel, rfl⟩
theorem fk_X8_67 : FLk RX8 67 8 5 (.long) false := ⟨_, _, _, tyX8, rfl, by decide, gt_1 (List.mem_of_getElem? (i := 120) rfl) rfl, wi_X8, tyX8_ok, nmX8, rfl, by decide +kernel, rfl⟩
theorem fk_X6_37 : FLk RX6 37 8 6 (.int) false := ⟨_, _, _, tyX8, rfl, by decide, gt_1 (List.mem_of_getElem? (i := 121) rfl) rfl, wi_X8, tyX8_ok, nmX8, rfl, by decide +kernel, rfl⟩
theorem fk_X8_64 : FLk RX8 64 8 6 (.int) false := ⟨_, _, _, tyX8, rfl, by decide, gt_1 (List.mem_of_getElem? (i := 122) rfl) rfl, wi_X8, tyX8_ok, nmX8, rfl, by decide +kernel, rfl⟩
theorem fk_X6_14 : FLk RX6 14 6 0 (.object "NextLight$Tokens") true := ⟨_, _, _, tyX6, rfl, by decide, gt_1 (List.mem_of_getElem? (i := 139) rfl) rfl, wi_X6, tyX6_ok, nmX6, rfl, by decide +kernel, rfl⟩
theorem fk_X6_25 : FLk RX6 25 6 1 (.int) false := ⟨_, _, _, tyX6, rfl, by decide, gt_1 (List.mem_of_getElem? (i := 140) rfl) rfl, wi_X6, tyX6_ok, nmX6, rfl, by decide +kernel, rfl⟩
theorem fk_X4_30 : FLk RX4 30 4 0 (.int) false := ⟨_, _, _, tyX4, rfl, by decide, gt_1 (List.mem_of_getElem? (i := 152) rfl) rfl, wi_X4, tyX4_ok, nmX4, rfl, by decide +kernel, rfl⟩
theorem fk_X0_78 : FLk RX0 78 4 0 (.int) false := ⟨_, _, _, tyX4, rfl, by decide, gt_1 (List.mem_of_getElem? (i := 153) rfl) rfl, wi_X4, tyX4_ok, nmX4, rfl, by decide +kernel, rfl⟩
theorem fk_X11_306 : FLk RX11 306 4 0 (.int) false := ⟨_, _, _, tyX4, rfl, by decide, gt_1 (List.mem_of_getElem? (i := 154) rfl) rfl, wi_X4, tyX4_ok, nmX4, rfl, by decide +kernel, rfl⟩
theorem fk_X4_34 : FLk RX4 34 4 1 (.int) false := ⟨_, _, _, tyX4, rfl, by decide, gt_1 (List.mem_of_getElem? (i := 155) rfl) rfl, wi_X4, tyX4_ok, nmX4, rfl, by decide +kernel, rfl⟩
theorem fk_X11_312 : FLk RX11 312 4 1 (.int) false := ⟨_, _, _, tyX4, rfl, by decide, gt_1 (List.mem_of_getElem? (i := 156) rfl) rfl, wi_X4, tyX4_ok, nmX4, rfl, by decide +kernel, rfl⟩
theorem fk_X4_37 : FLk RX4 37 4 2 (.int) false := ⟨_, _, _, tyX4, rfl, by decide, gt_1 (List.mem_of_getElem? (i := 157) rfl) rfl, wi_X4, tyX4_ok, nmX4, rfl, by decide +kernel, rfl⟩
theorem fk_X0_42 : FLk RX0 42 4 2 (.int) false := ⟨_, _, _, tyX4, rfl, by decide, gt_1 (List.mem_of_getElem? (i := 158) rfl) rfl, wi_X4, tyX4_ok, nmX4, rfl, by decide +kernel, rfl⟩
theorem fk_X11_315 : FLk RX11 315 4 2 (.int) false := ⟨_, _, _, tyX4, rfl, by decide, gt_1 (List.mem_of_getElem? (i := 159) rfl) rfl, wi_X4, tyX4_ok, nmX4, rfl, by decide +kernel, rfl⟩
theorem fk_X4_9 : FLk RX4 9 4 3 (.array .int) true := ⟨_, _, _, tyX4, rfl, by decide, gt_1 (List.mem_of_getElem? (i := 160) rfl) rfl, wi_X4, tyX4_ok, nmX4, rfl, by decide +kernel, rfl⟩
theorem fk_X11_126 : FLk RX11 126 4 3 (.array .int) true := ⟨_, _, _, tyX4, rfl, by decide, gt_1 (List.mem_of_getElem? (i := 161) rfl) rfl, wi_X4, tyX4_ok, nmX4, rfl, by decide +kernel, rfl⟩
theorem fk_X0_91 : FLk RX0 91 4 3 (.array .int) true := ⟨_, _, _, tyX4, rfl, by decide, gt_1 (List.mem_of_getElem? (i := 162) rfl) rfl, wi_X4, tyX4_ok, nmX4, rfl, by decide +kernel, rfl⟩
theorem fk_X4_15 : FLk RX4 15 4 4 (.array .int) true := ⟨_, _, _, tyX4, rfl, by decide, gt_1 (List.mem_of_getElem? (i := 163) rfl) rfl, wi_X4, tyX4_ok, nmX4, rfl, by decide +kernel, rfl⟩
theorem fk_X4_18 : FLk RX4 18 4 5 (.array .int) true := ⟨_, _, _, tyX4, rfl, by decide, gt_1 (List.mem_of_getElem? (i := 164) rfl) rfl, wi_X4, tyX4_ok, nmX4, rfl, by decide +kernel, rfl⟩
theorem fk_X11_139 : FLk RX11 139 4 5 (.array .int) true := ⟨_, _, _, tyX4, rfl, by decide, gt_1 (List.mem_of_getElem? (i := 165) rfl) rfl, wi_X4, tyX4_ok, nmX4, rfl, by decide +kernel, rfl⟩
theorem fk_X4_21 : FLk RX4 21 4 6 (.array .int) true := ⟨_, _, _, tyX4, rfl, by decide, gt_1 (List.mem_of_getElem? (i := 166) rfl) rfl, wi_X4, tyX4_ok, nmX4, rfl, by decide +kernel, rfl⟩
theorem fk_X11_142 : FLk RX11 142 4 6 (.array .int) true := ⟨_, _, _, tyX4, rfl, by decide, gt_1 (List.mem_of_getElem? (i := 167) rfl) rfl, wi_X4, tyX4_ok, nmX4, rfl, by decide +kernel, rfl⟩
theorem fk_X0_180 : FLk RX0 180 4 6 (.array .int) true := ⟨_, _, _, tyX4, rfl, by decide, gt_1 (List.mem_of_getElem? (i := 168) rfl) rfl, wi_X4, tyX4_ok, nmX4, rfl, by decide +kernel, rfl⟩
theorem fk_X4_24 : FLk RX4 24 4 7 (.array .int) true := ⟨_, _, _, tyX4, rfl, by decide, gt_1 (List.mem_of_getElem? (i := 169) rfl) rfl, wi_X4, tyX4_ok, nmX4, rfl, by decide +kernel, rfl⟩
theorem fk_X4_27 : FLk RX4 27 4 8 (.array .int) true := ⟨_, _, _, tyX4, rfl, by decide, gt_1 (List.mem_of_getElem? (i := 170) rfl) rfl, wi_X4, tyX4_ok, nmX4, rfl, by decide +kernel, rfl⟩
theorem fk_X0_71 : FLk RX0 71 4 9 (.int) false := ⟨_, _, _, tyX4, rfl, by decide, gt_1 (List.mem_of_getElem? (i := 171) rfl) rfl, wi_X4, tyX4_ok, nmX4, rfl, by decide +kernel, rfl⟩
theorem fk_X11_166 : FLk RX11 166 4 9 (.int) false := ⟨_, _, _, tyX4, rfl, by decide, gt_1 (List.mem_of_getElem? (i := 172) rfl) rfl, wi_X4, tyX4_ok, nmX4, rfl, by decide +kernel, rfl⟩
theorem fk_X4_74 : FLk RX4 74 4 9 (.int) false := ⟨_, _, _, tyX4, rfl, by decide, gt_1 (List.mem_of_getElem? (i := 173) rfl) rfl, wi_X4, tyX4_ok, nmX4, rfl, by decide +kernel, rfl⟩
theorem fk_X4_77 : FLk RX4 77 4 10 (.int) false := ⟨_, _, _, tyX4, rfl, by decide, gt_1 (List.mem_of_getElem? (i := 174) rfl) rfl, wi_X4, tyX4_ok, nmX4, rfl, by decide +kernel, rfl⟩
theorem fk_X0_134 : FLk RX0 134 4 10 (.int) false := ⟨_, _, _, tyX4, rfl, by decide, gt_1 (List.mem_of_getElem? (i := 175) rfl) rfl, wi_X4, tyX4_ok, nmX4, rfl, by decide +kernel, rfl⟩
theorem fk_X5_11 : FLk RX5 11 5 0 (.array (.object "NextLight$Night")) true := ⟨_, _, _, tyX5, rfl, by decide, gt_1 (List.mem_of_getElem? (i := 209) rfl) rfl, wi_X5, tyX5_ok, nmX5, rfl, by decide +kernel, rfl⟩
theorem fk_X5_16 : FLk RX5 16 5 1 (.int) false := ⟨_, _, _, tyX5, rfl, by decide, gt_1 (List.mem_of_getElem? (i := 210) rfl) rfl, wi_X5, tyX5_ok, nmX5, rfl, by decide +kernel, rfl⟩
theorem fk_X11_318 : FLk RX11 318 5 1 (.int) false := ⟨_, _, _, tyX5, rfl, by decide, gt_1 (List.mem_of_getElem? (i := 211) rfl) rfl, wi_X5, tyX5_ok, nmX5, rfl, by decide +kernel, rfl⟩
theorem fk_X5_20 : FLk RX5 20 5 2 (.int) false := ⟨_, _, _, tyX5, rfl, by decide, gt_1 (List.mem_of_getElem? (i := 212) rfl) rfl, wi_X5, tyX5_ok, nmX5, rfl, by decide +kernel, rfl⟩
theorem fk_X10_20 : FLk RX10 20 10 0 (.int) false := ⟨_, _, _, tyX10, rfl, by decide, gt_1 (List.mem_of_getElem? (i := 226) rfl) rfl, wi_X10, tyX10_ok, nmX10, rfl, by decide +kernel, rfl⟩
theorem fk_X11_99 : FLk RX11 99 10 0 (.int) false := ⟨_, _, _, tyX10, rfl, by decide, gt_1 (List.mem_of_getElem? (i := 227) rfl) rfl, wi_X10, tyX10_ok, nmX10, rfl, by decide +kernel, rfl⟩
theorem fk_X10_9 : FLk RX10 9 10 1 (.array .int) true := ⟨_, _, _, tyX10, rfl, by decide, gt_1 (List.mem_of_getElem? (i := 228) rfl) rfl, wi_X10, tyX10_ok, nmX10, rfl, by decide +kernel, rfl⟩
theorem fk_X10_13 : FLk RX10 13 10 2 (.array .int) true := ⟨_, _, _, tyX10, rfl, by decide, gt_1 (List.mem_of_getElem? (i := 229) rfl) rfl, wi_X10, tyX10_ok, nmX10, rfl, by decide +kernel, rfl⟩
theorem fk_X10_16 : FLk RX10 16 10 3 (.array .boolean) true := ⟨_, _, _, tyX10, rfl, by decide, gt_1 (List.mem_of_getElem? (i := 230) rfl) rfl, wi_X10, tyX10_ok, nmX10, rfl, by decide +kernel, rfl⟩
theorem fk_X2_19 : FLk RX2 19 2 0 (.int) false := ⟨_, _, _, tyX2, rfl, by decide, gt_2 (List.mem_of_getElem? (i := 16) rfl) rfl, wi_X2, tyX2_ok, nmX2, rfl, by decide +kernel, rfl⟩
theorem fk_X6_63 : FLk RX6 63 2 0 (.int) false := ⟨_, _, _, tyX2, rfl, by decide, gt_2 (List.mem_of_getElem? (i := 17) rfl) rfl, wi_X2, tyX2_ok, nmX2, rfl, by decide +kernel, rfl⟩
theorem fk_X0_36 : FLk RX0 36 2 0 (.int) false := ⟨_, _, _, tyX2, rfl, by decide, gt_2 (List.mem_of_getElem? (i := 18) rfl) rfl, wi_X2, tyX2_ok, nmX2, rfl, by decide +kernel, rfl⟩
theorem fk_X11_96 : FLk RX11 96 2 0 (.int) false := ⟨_, _, _, tyX2, rfl, by decide, gt_2 (List.mem_of_getElem? (i := 19) rfl) rfl, wi_X2, tyX2_ok, nmX2, rfl, by decide +kernel, rfl⟩
theorem fk_X2_9 : FLk RX2 9 2 1 (.array .byte) true := ⟨_, _, _, tyX2, rfl, by decide, gt_2 (List.mem_of_getElem? (i := 20) rfl) rfl, wi_X2, tyX2_ok, nmX2, rfl, by decide +kernel, rfl⟩
theorem fk_X0_45 : FLk RX0 45 2 1 (.array .byte) true := ⟨_, _, _, tyX2, rfl, by decide, gt_2 (List.mem_of_getElem? (i := 21) rfl) rfl, wi_X2, tyX2_ok, nmX2, rfl, by decide +kernel, rfl⟩
theorem fk_X2_13 : FLk RX2 13 2 2 (.array .byte) true := ⟨_, _, _, tyX2, rfl, by decide, gt_2 (List.mem_of_getElem? (i := 22) rfl) rfl, wi_X2, tyX2_ok, nmX2, rfl, by decide +kernel, rfl⟩
theorem fk_X0_49 : FLk RX0 49 2 2 (.array .byte) true := ⟨_, _, _, tyX2, rfl, by decide, gt_2 (List.mem_of_getElem? (i := 23) rfl) rfl, wi_X2, tyX2_ok, nmX2, rfl, by decide +kernel, rfl⟩
theorem fk_X2_16 : FLk RX2 16 2 3 (.array .byte) true := ⟨_, _, _, tyX2, rfl, by decide, gt_2 (List.mem_of_getElem? (i := 24) rfl) rfl, wi_X2, tyX2_ok, nmX2, rfl, by decide +kernel, rfl⟩
theorem fk_X0_52 : FLk RX0 52 2 3 (.array .byte) true := ⟨_, _, _, tyX2, rfl, by decide, gt_2 (List.mem_of_getElem? (i := 25) rfl) rfl, wi_X2, tyX2_ok, nmX2, rfl, by decide +kernel, rfl⟩
theorem fk_X3_30 : FLk RX3 30 3 0 (.boolean) false := ⟨_, _, _, tyX3, rfl, by decide, gt_2 (List.mem_of_getElem? (i := 37) rfl) rfl, wi_X3, tyX3_ok, nmX3, rfl, by decide +kernel, rfl⟩
theorem fk_X11_104 : FLk RX11 104 3 0 (.boolean) false := ⟨_, _, _, tyX3, rfl, by decide, gt_2 (List.mem_of_getElem? (i := 38) rfl) rfl, wi_X3, tyX3_ok, nmX3, rfl, by decide +kernel, rfl⟩
theorem fk_X3_10 : FLk RX3 10 3 1 (.object "NextLight$Night") true := ⟨_, _, _, tyX3, rfl, by decide, gt_2 (List.mem_of_getElem? (i := 39) rfl) rfl, wi_X3, tyX3_ok, nmX3, rfl, by decide +kernel, rfl⟩
theorem fk_X11_285 : FLk RX11 285 3 1 (.object "NextLight$Night") true := ⟨_, _, _, tyX3, rfl, by decide, gt_2 (List.mem_of_getElem? (i := 40) rfl) rfl, wi_X3, tyX3_ok, nmX3, rfl, by decide +kernel, rfl⟩
theorem fk_X3_19 : FLk RX3 19 3 2 (.object "NextLight$Lines") true := ⟨_, _, _, tyX3, rfl, by decide, gt_2 (List.mem_of_getElem? (i := 41) rfl) rfl, wi_X3, tyX3_ok, nmX3, rfl, by decide +kernel, rfl⟩
theorem fk_X11_292 : FLk RX11 292 3 2 (.object "NextLight$Lines") true := ⟨_, _, _, tyX3, rfl, by decide, gt_2 (List.mem_of_getElem? (i := 42) rfl) rfl, wi_X3, tyX3_ok, nmX3, rfl, by decide +kernel, rfl⟩
theorem fk_X3_26 : FLk RX3 26 3 3 (.object "NextLight$Watched") true := ⟨_, _, _, tyX3, rfl, by decide, gt_2 (List.mem_of_getElem? (i := 43) rfl) rfl, wi_X3, tyX3_ok, nmX3, rfl, by decide +kernel, rfl⟩
theorem fk_X11_296 : FLk RX11 296 3 3 (.object "NextLight$Watched") true := ⟨_, _, _, tyX3, rfl, by decide, gt_2 (List.mem_of_getElem? (i := 44) rfl) rfl, wi_X3, tyX3_ok, nmX3, rfl, by decide +kernel, rfl⟩
theorem fk_X0_12 : FLk RX0 12 0 0 (.object "NextLight$Night") true := ⟨_, _, _, tyX0, rfl, by decide, gt_2 (List.mem_of_getElem? (i := 62) rfl) rfl, wi_X0, tyX0_ok, nmX0, rfl, by decide +kernel, rfl⟩
theorem fk_X0_18 : FLk RX0 18 0 1 (.array .int) true := ⟨_, _, _, tyX0, rfl, by decide, gt_2 (List.mem_of_getElem? (i := 63) rfl) rfl, wi_X0, tyX0_ok, nmX0, rfl, by decide +kernel, rfl⟩
theorem fk_X0_22 : FLk RX0 22 0 2 (.array .int) true := ⟨_, _, _, tyX0, rfl, by decide, gt_2 (List.mem_of_getElem? (i := 64) rfl) rfl, wi_X0, tyX0_ok, nmX0, rfl, by decide +kernel, rfl⟩
theorem fk_X0_28 : FLk RX0 28 0 3 (.boolean) false := ⟨_, _, _, tyX0, rfl, by decide, gt_2 (List.mem_of_getElem? (i := 65) rfl) rfl, wi_X0, tyX0_ok, nmX0, rfl, by decide +kernel, rfl⟩
theorem fk_X0_103 : FLk RX0 103 0 4 (.int) false := ⟨_, _, _, tyX0, rfl, by decide, gt_2 (List.mem_of_getElem? (i := 66) rfl) rfl, wi_X0, tyX0_ok, nmX0, rfl, by decide +kernel, rfl⟩
theorem fk_X11_218 : FLk RX11 218 0 4 (.int) false := ⟨_, _, _, tyX0, rfl, by decide, gt_2 (List.mem_of_getElem? (i := 67) rfl) rfl, wi_X0, tyX0_ok, nmX0, rfl, by decide +kernel, rfl⟩
theorem fk_X0_106 : FLk RX0 106 0 5 (.int) false := ⟨_, _, _, tyX0, rfl, by decide, gt_2 (List.mem_of_getElem? (i := 68) rfl) rfl, wi_X0, tyX0_ok, nmX0, rfl, by decide +kernel, rfl⟩
theorem fk_X0_25 : FLk RX0 25 0 6 (.array .int) true := ⟨_, _, _, tyX0, rfl, by decide, gt_2 (List.mem_of_getElem? (i := 69) rfl) rfl, wi_X0, tyX0_ok, nmX0, rfl, by decide +kernel, rfl⟩
theorem fk_X11_221 : FLk RX11 221 0 6 (.array .int) true := ⟨_, _, _, tyX0, rfl, by decide, gt_2 (List.mem_of_getElem? (i := 70) rfl) rfl, wi_X0, tyX0_ok, nmX0, rfl, by decide +kernel, rfl⟩
theorem fk_X1_9 : FLk RX1 9 1 0 (.array .short) true := ⟨_, _, _, tyX1, rfl, by decide, gt_2 (List.mem_of_getElem? (i := 98) rfl) rfl, wi_X1, tyX1_ok, nmX1, rfl, by decide +kernel, rfl⟩
theorem fk_X1_15 : FLk RX1 15 1 1 (.array .int) true := ⟨_, _, _, tyX1, rfl, by decide, gt_2 (List.mem_of_getElem? (i := 99) rfl) rfl, wi_X1, tyX1_ok, nmX1, rfl, by decide +kernel, rfl⟩
theorem fk_X1_19 : FLk RX1 19 1 2 (.int) false := ⟨_, _, _, tyX1, rfl, by decide, gt_2 (List.mem_of_getElem? (i := 100) rfl) rfl, wi_X1, tyX1_ok, nmX1, rfl, by decide +kernel, rfl⟩
theorem fk_X9_70 : FLk RX9 70 1 2 (.int) false := ⟨_, _, _, tyX1, rfl, by decide, gt_2 (List.mem_of_getElem? (i := 101) rfl) rfl, wi_X1, tyX1_ok, nmX1, rfl, by decide +kernel, rfl⟩
theorem fk_X6_148 : FLk RX6 148 1 2 (.int) false := ⟨_, _, _, tyX1, rfl, by decide, gt_2 (List.mem_of_getElem? (i := 102) rfl) rfl, wi_X1, tyX1_ok, nmX1, rfl, by decide +kernel, rfl⟩
theorem fk_X9_57 : FLk RX9 57 9 0 (.int) false := ⟨_, _, _, tyX9, rfl, by decide, gt_2 (List.mem_of_getElem? (i := 111) rfl) rfl, wi_X9, tyX9_ok, nmX9, rfl, by decide +kernel, rfl⟩
theorem fk_X6_75 : FLk RX6 75 9 0 (.int) false := ⟨_, _, _, tyX9, rfl, by decide, gt_2 (List.mem_of_getElem? (i := 112) rfl) rfl, wi_X9, tyX9_ok, nmX9, rfl, by decide +kernel, rfl⟩
theorem fk_X11_300 : FLk RX11 300 9 0 (.int) false := ⟨_, _, _, tyX9, rfl, by decide, gt_2 (List.mem_of_getElem? (i := 113) rfl) rfl, wi_X9, tyX9_ok, nmX9, rfl, by decide +kernel, rfl⟩
theorem fk_X9_60 : FLk RX9 60 9 1 (.int) false := ⟨_, _, _, tyX9, rfl, by decide, gt_2 (List.mem_of_getElem? (i := 114) rfl) rfl, wi_X9, tyX9_ok, nmX9, rfl, by decide +kernel, rfl⟩
theorem fk_X6_97 : FLk RX6 97 9 1 (.int) false := ⟨_, _, _, tyX9, rfl, by decide, gt_2 (List.mem_of_getElem? (i := 115) rfl) rfl, wi_X9, tyX9_ok, nmX9, rfl, by decide +kernel, rfl⟩
theorem fk_X4_68 : FLk RX4 68 9 1 (.int) false := ⟨_, _, _, tyX9, rfl, by decide, gt_2 (List.mem_of_getElem? (i := 116) rfl) rfl, wi_X9, tyX9_ok, nmX9, rfl, by decide +kernel, rfl⟩
theorem fk_X0_124 : FLk RX0 124 9 1 (.int) false := ⟨_, _, _, tyX9, rfl, by decide, gt_2 (List.mem_of_getElem? (i := 117) rfl) rfl, wi_X9, tyX9_ok, nmX9, rfl, by decide +kernel, rfl⟩
theorem fk_X11_303 : FLk RX11 303 9 1 (.int) false := ⟨_, _, _, tyX9, rfl, by decide, gt_2 (List.mem_of_getElem? (i := 118) rfl) rfl, wi_X9, tyX9_ok, nmX9, rfl, by decide +kernel, rfl⟩
theorem fk_X9_63 : FLk RX9 63 9 2 (.int) false := ⟨_, _, _, tyX9, rfl, by decide, gt_2 (List.mem_of_getElem? (i := 119) rfl) rfl, wi_X9, tyX9_ok, nmX9, rfl, by decide +kernel, rfl⟩
theorem fk_X4_40 : FLk RX4 40 9 2 (.int) false := ⟨_, _, _, tyX9, rfl, by decide, gt_2 (List.mem_of_getElem? (i := 120) rfl) rfl, wi_X9, tyX9_ok, nmX9, rfl, by decide +kernel, rfl⟩
theorem fk_X6_126 : FLk RX6 126 9 2 (.int) false := ⟨_, _, _, tyX9, rfl, by decide, gt_2 (List.mem_of_getElem? (i := 121) rfl) rfl, wi_X9, tyX9_ok, nmX9, rfl, by decide +kernel, rfl⟩
theorem fk_X0_97 : FLk RX0 97 9 2 (.int) false := ⟨_, _, _, tyX9, rfl, by decide, gt_2 (List.mem_of_getElem? (i := 122) rfl) rfl, wi_X9, tyX9_ok, nmX9, rfl, by decide +kernel, rfl⟩
theorem fk_X11_227 : FLk RX11 227 9 2 (.int) false := ⟨_, _, _, tyX9, rfl, by decide, gt_2 (List.mem_of_getElem? (i := 123) rfl) rfl, wi_X9, tyX9_ok, nmX9, rfl, by decide +kernel, rfl⟩
theorem fk_X9_11 : FLk RX9 11 9 3 (.int) false := ⟨_, _, _, tyX9, rfl, by decide, gt_2 (List.mem_of_getElem? (i := 124) rfl) rfl, wi_X9, tyX9_ok, nmX9, rfl, by decide +kernel, rfl⟩
theorem fk_X6_141 : FLk RX6 141 9 3 (.int) false := ⟨_, _, _, tyX9, rfl, by decide, gt_2 (List.mem_of_getElem? (i := 125) rfl) rfl, wi_X9, tyX9_ok, nmX9, rfl, by decide +kernel, rfl⟩
theorem fk_X4_118 : FLk RX4 118 9 3 (.int) false := ⟨_, _, _, tyX9, rfl, by decide, gt_2 (List.mem_of_getElem? (i := 126) rfl) rfl, wi_X9, tyX9_ok, nmX9, rfl, by decide +kernel, rfl⟩
theorem fk_X9_66 : FLk RX9 66 9 4 (.boolean) false := ⟨_, _, _, tyX9, rfl, by decide, gt_2 (List.mem_of_getElem? (i := 127) rfl) rfl, wi_X9, tyX9_ok, nmX9, rfl, by decide +kernel, rfl⟩
theorem fk_X6_137 : FLk RX6 137 9 4 (.boolean) false := ⟨_, _, _, tyX9, rfl, by decide, gt_2 (List.mem_of_getElem? (i := 128) rfl) rfl, wi_X9, tyX9_ok, nmX9, rfl, by decide +kernel, rfl⟩
theorem fk_X9_18 : FLk RX9 18 9 5 (.object "NextLight$Law") true := ⟨_, _, _, tyX9, rfl, by decide, gt_2 (List.mem_of_getElem? (i := 129) rfl) rfl, wi_X9, tyX9_ok, nmX9, rfl, by decide +kernel, rfl⟩
theorem fk_X6_144 : FLk RX6 144 9 5 (.object "NextLight$Law") true := ⟨_, _, _, tyX9, rfl, by decide, gt_2 (List.mem_of_getElem? (i := 130) rfl) rfl, wi_X9, tyX9_ok, nmX9, rfl, by decide +kernel, rfl⟩
theorem fk_X4_105 : FLk RX4 105 9 5 (.object "NextLight$Law") true := ⟨_, _, _, tyX9, rfl, by decide, gt_2 (List.mem_of_getElem? (i := 131) rfl) rfl, wi_X9, tyX9_ok, nmX9, rfl, by decide +kernel, rfl⟩
theorem fk_X9_22 : FLk RX9 22 9 6 (.array .long) true := ⟨_, _, _, tyX9, rfl, by decide, gt_2 (List.mem_of_getElem? (i := 132) rfl) rfl, wi_X9, tyX9_ok, nmX9, rfl, by decide +kernel, rfl⟩
theorem fk_X9_26 : FLk RX9 26 9 7 (.array .int) true := ⟨_, _, _, tyX9, rfl, by decide, gt_2 (List.mem_of_getElem? (i := 133) rfl) rfl, wi_X9, tyX9_ok, nmX9, rfl, by decide +kernel, rfl⟩
theorem fk_X11_116 : FLk RX11 116 9 7 (.array .int) true := ⟨_, _, _, tyX9, rfl, by decide, gt_2 (List.mem_of_getElem? (i := 134) rfl) rfl, wi_X9, tyX9_ok, nmX9, rfl, by decide +kernel, rfl⟩
theorem fk_X9_30 : FLk RX9 30 9 8 (.array .int) true := ⟨_, _, _, tyX9, rfl, by decide, gt_2 (List.mem_of_getElem? (i := 135) rfl) rfl, wi_X9, tyX9_ok, nmX9, rfl, by decide +kernel, rfl⟩
theorem fk_X11_120 : FLk RX11 120 9 8 (.array .int) true := ⟨_, _, _, tyX9, rfl, by decide, gt_2 (List.mem_of_getElem? (i := 136) rfl) rfl, wi_X9, tyX9_ok, nmX9, rfl, by decide +kernel, rfl⟩
theorem fk_X9_33 : FLk RX9 33 9 9 (.array .int) true := ⟨_, _, _, tyX9, rfl, by decide, gt_2 (List.mem_of_getElem? (i := 137) rfl) rfl, wi_X9, tyX9_ok, nmX9, rfl, by decide +kernel, rfl⟩
theorem fk_X11_123 : FLk RX11 123 9 9 (.array .int) true := ⟨_, _, _, tyX9, rfl, by decide, gt_2 (List.mem_of_getElem? (i := 138) rfl) rfl, wi_X9, tyX9_ok, nmX9, rfl, by decide +kernel, rfl⟩
theorem fk_X4_109 : FLk RX4 109 9 9 (.array .int) true := ⟨_, _, _, tyX9, rfl, by decide, gt_2 (List.mem_of_getElem? (i := 139) rfl) rfl, wi_X9, tyX9_ok, nmX9, rfl, by decide +kernel, rfl⟩
theorem fk_X9_36 : FLk RX9 36 9 10 (.array .long) true := ⟨_, _, _, tyX9, rfl, by decide, gt_2 (List.mem_of_getElem? (i := 140) rfl) rfl, wi_X9, tyX9_ok, nmX9, rfl, by decide +kernel, rfl⟩
theorem fk_X9_39 : FLk RX9 39 9 11 (.array .int) true := ⟨_, _, _, tyX9, rfl, by decide, gt_2 (List.mem_of_getElem? (i := 141) rfl) rfl, wi_X9, tyX9_ok, nmX9, rfl, by decide +kernel, rfl⟩
theorem fk_X11_132 : FLk RX11 132 9 11 (.array .int) true := ⟨_, _, _, tyX9, rfl, by decide, gt_2 (List.mem_of_getElem? (i := 142) rfl) rfl, wi_X9, tyX9_ok, nmX9, rfl, by decide +kernel, rfl⟩
theorem fk_X4_102 : FLk RX4 102 9 11 (.array .int) true := ⟨_, _, _, tyX9, rfl, by decide, gt_2 (List.mem_of_getElem? (i := 143) rfl) rfl, wi_X9, tyX9_ok, nmX9, rfl, by decide +kernel, rfl⟩
theorem fk_X9_42 : FLk RX9 42 9 12 (.array .int) true := ⟨_, _, _, tyX9, rfl, by decide, gt_2 (List.mem_of_getElem? (i := 144) rfl) rfl, wi_X9, tyX9_ok, nmX9, rfl, by decide +kernel, rfl⟩
theorem fk_X4_45 : FLk RX4 45 9 12 (.array .int) true := ⟨_, _, _, tyX9, rfl, by decide, gt_2 (List.mem_of_getElem? (i := 145) rfl) rfl, wi_X9, tyX9_ok, nmX9, rfl, by decide +kernel, rfl⟩
theorem fk_X9_45 : FLk RX9 45 9 13 (.array .int) true := ⟨_, _, _, tyX9, rfl, by decide, gt_2 (List.mem_of_getElem? (i := 146) rfl) rfl, wi_X9, tyX9_ok, nmX9, rfl, by decide +kernel, rfl⟩
theorem fk_X4_48 : FLk RX4 48 9 13 (.array .int) true := ⟨_, _, _, tyX9, rfl, by decide, gt_2 (List.mem_of_getElem? (i := 147) rfl) rfl, wi_X9, tyX9_ok, nmX9, rfl, by decide +kernel, rfl⟩
theorem fk_X9_48 : FLk RX9 48 9 14 (.array .int) true := ⟨_, _, _, tyX9, rfl, by decide, gt_2 (List.mem_of_getElem? (i := 148) rfl) rfl, wi_X9, tyX9_ok, nmX9, rfl, by decide +kernel, rfl⟩
theorem fk_X4_51 : FLk RX4 51 9 14 (.array .int) true := ⟨_, _, _, tyX9, rfl, by decide, gt_2 (List.mem_of_getElem? (i := 149) rfl) rfl, wi_X9, tyX9_ok, nmX9, rfl, by decide +kernel, rfl⟩
theorem fk_X9_51 : FLk RX9 51 9 15 (.array .int) true := ⟨_, _, _, tyX9, rfl, by decide, gt_2 (List.mem_of_getElem? (i := 150) rfl) rfl, wi_X9, tyX9_ok, nmX9, rfl, by decide +kernel, rfl⟩
theorem fk_X9_54 : FLk RX9 54 9 16 (.array .int) true := ⟨_, _, _, tyX9, rfl, by decide, gt_2 (List.mem_of_getElem? (i := 151) rfl) rfl, wi_X9, tyX9_ok, nmX9, rfl, by decide +kernel, rfl⟩
theorem fk_X11_10 : FLk RX11 10 11 0 (.object "NextLight$Tape") true := ⟨_, _, _, tyX11, rfl, by decide, gt_2 (List.mem_of_getElem? (i := 189) rfl) rfl, wi_X11, tyX11_ok, nmX11, rfl, by decide +kernel, rfl⟩
theorem fk_X11_21 : FLk RX11 21 11 1 (.object "NextLight$Reader") true := ⟨_, _, _, tyX11, rfl, by decide, gt_2 (List.mem_of_getElem? (i := 190) rfl) rfl, wi_X11, tyX11_ok, nmX11, rfl, by decide +kernel, rfl⟩
theorem fk_X11_28 : FLk RX11 28 11 2 (.object "NextLight$Night") true := ⟨_, _, _, tyX11, rfl, by decide, gt_2 (List.mem_of_getElem? (i := 191) rfl) rfl, wi_X11, tyX11_ok, nmX11, rfl, by decide +kernel, rfl⟩
theorem fk_X11_35 : FLk RX11 35 11 3 (.object "NextLight$Past") true := ⟨_, _, _, tyX11, rfl, by decide, gt_2 (List.mem_of_getElem? (i := 192) rfl) rfl, wi_X11, tyX11_ok, nmX11, rfl, by decide +kernel, rfl⟩
theorem fk_X11_42 : FLk RX11 42 11 4 (.object "NextLight$Watched") true := ⟨_, _, _, tyX11, rfl, by decide, gt_2 (List.mem_of_getElem? (i := 193) rfl) rfl, wi_X11, tyX11_ok, nmX11, rfl, by decide +kernel, rfl⟩
theorem fk_X11_48 : FLk RX11 48 11 5 (.array (.object "NextLight$Mark")) true := ⟨_, _, _, tyX11, rfl, by decide, gt_2 (List.mem_of_getElem? (i := 194) rfl) rfl, wi_X11, tyX11_ok, nmX11, rfl, by decide +kernel, rfl⟩
theorem fk_X11_56 : FLk RX11 56 11 6 (.object "NextLight$Ahead") true := ⟨_, _, _, tyX11, rfl, by decide, gt_2 (List.mem_of_getElem? (i := 195) rfl) rfl, wi_X11, tyX11_ok, nmX11, rfl, by decide +kernel, rfl⟩
theorem fk_X11_63 : FLk RX11 63 11 7 (.object "NextLight$Town") false := ⟨_, _, _, tyX11, rfl, by decide, gt_2 (List.mem_of_getElem? (i := 196) rfl) rfl, wi_X11, tyX11_ok, nmX11, rfl, by decide +kernel, rfl⟩
theorem fk_X11_67 : FLk RX11 67 11 8 (.object "NextLight$Town") false := ⟨_, _, _, tyX11, rfl, by decide, gt_2 (List.mem_of_getElem? (i := 197) rfl) rfl, wi_X11, tyX11_ok, nmX11, rfl, by decide +kernel, rfl⟩
theorem fk_X11_73 : FLk RX11 73 11 9 (.object "NextLight$Lines") false := ⟨_, _, _, tyX11, rfl, by decide, gt_2 (List.mem_of_getElem? (i := 198) rfl) rfl, wi_X11, tyX11_ok, nmX11, rfl, by decide +kernel, rfl⟩
theorem fk_X11_77 : FLk RX11 77 11 10 (.object "NextLight$Lines") false := ⟨_, _, _, tyX11, rfl, by decide, gt_2 (List.mem_of_getElem? (i := 199) rfl) rfl, wi_X11, tyX11_ok, nmX11, rfl, by decide +kernel, rfl⟩
theorem fk_X12_169 : FLk RX12 169 12 0 (.int) false := ⟨_, _, _, tyX12, rfl, by decide, gt_6 (List.mem_of_getElem? (i := 11) rfl) rfl, wi_X12, tyX12_ok, nmX12, rfl, by decide +kernel, rfl⟩
theorem fk_X12_174 : FLk RX12 174 12 1 (.int) false := ⟨_, _, _, tyX12, rfl, by decide, gt_6 (List.mem_of_getElem? (i := 12) rfl) rfl, wi_X12, tyX12_ok, nmX12, rfl, by decide +kernel, rfl⟩
theorem fk_X12_7 : FLk RX12 7 12 2 (.array .int) true := ⟨_, _, _, tyX12, rfl, by decide, gt_6 (List.mem_of_getElem? (i := 13) rfl) rfl, wi_X12, tyX12_ok, nmX12, rfl, by decide +kernel, rfl⟩
theorem fk_X12_177 : FLk RX12 177 12 3 (.int) false := ⟨_, _, _, tyX12, rfl, by decide, gt_6 (List.mem_of_getElem? (i := 14) rfl) rfl, wi_X12, tyX12_ok, nmX12, rfl, by decide +kernel, rfl⟩
theorem fk_X12_180 : FLk RX12 180 12 4 (.int) false := ⟨_, _, _, tyX12, rfl, by decide, gt_6 (List.mem_of_getElem? (i := 15) rfl) rfl, wi_X12, tyX12_ok, nmX12, rfl, by decide +kernel, rfl⟩
theorem fk_X12_183 : FLk RX12 183 12 5 (.int) false := ⟨_, _, _, tyX12, rfl, by decide, gt_6 (List.mem_of_getElem? (i := 16) rfl) rfl, wi_X12, tyX12_ok, nmX12, rfl, by decide +kernel, rfl⟩
theorem fk_X12_193 : FLk RX12 193 12 6 (.int) false := ⟨_, _, _, tyX12, rfl, by decide, gt_6 (List.mem_of_getElem? (i := 17) rfl) rfl, wi_X12, tyX12_ok, nmX12, rfl, by decide +kernel, rfl⟩
theorem fk_X12_186 : FLk RX12 186 12 7 (.long) false := ⟨_, _, _, tyX12, rfl, by decide, gt_6 (List.mem_of_getElem? (i := 18) rfl) rfl, wi_X12, tyX12_ok, nmX12, rfl, by decide +kernel, rfl⟩
theorem fk_X12_190 : FLk RX12 190 12 8 (.int) false := ⟨_, _, _, tyX12, rfl, by decide, gt_6 (List.mem_of_getElem? (i := 19) rfl) rfl, wi_X12, tyX12_ok, nmX12, rfl, by decide +kernel, rfl⟩
theorem fk_X12_204 : FLk RX12 204 12 9 (.int) false := ⟨_, _, _, tyX12, rfl, by decide, gt_6 (List.mem_of_getElem? (i := 20) rfl) rfl, wi_X12, tyX12_ok, nmX12, rfl, by decide +kernel, rfl⟩
theorem fk_X12_13 : FLk RX12 13 12 10 (.array .int) true := ⟨_, _, _, tyX12, rfl, by decide, gt_6 (List.mem_of_getElem? (i := 21) rfl) rfl, wi_X12, tyX12_ok, nmX12, rfl, by decide +kernel, rfl⟩
theorem fk_X12_16 : FLk RX12 16 12 11 (.array .long) true := ⟨_, _, _, tyX12, rfl, by decide, gt_6 (List.mem_of_getElem? (i := 22) rfl) rfl, wi_X12, tyX12_ok, nmX12, rfl, by decide +kernel, rfl⟩
theorem fk_X12_20 : FLk RX12 20 12 12 (.array .long) true := ⟨_, _, _, tyX12, rfl, by decide, gt_6 (List.mem_of_getElem? (i := 23) rfl) rfl, wi_X12, tyX12_ok, nmX12, rfl, by decide +kernel, rfl⟩
theorem fk_X12_23 : FLk RX12 23 12 13 (.array .int) true := ⟨_, _, _, tyX12, rfl, by decide, gt_6 (List.mem_of_getElem? (i := 24) rfl) rfl, wi_X12, tyX12_ok, nmX12, rfl, by decide +kernel, rfl⟩
theorem fk_X12_26 : FLk RX12 26 12 14 (.array .int) true := ⟨_, _, _, tyX12, rfl, by decide, gt_6 (List.mem_of_getElem? (i := 25) rfl) rfl, wi_X12, tyX12_ok, nmX12, rfl, by decide +kernel, rfl⟩
theorem fk_X12_29 : FLk RX12 29 12 15 (.array .int) true := ⟨_, _, _, tyX12, rfl, by decide, gt_6 (List.mem_of_getElem? (i := 26) rfl) rfl, wi_X12, tyX12_ok, nmX12, rfl, by decide +kernel, rfl⟩
theorem fk_X12_32 : FLk RX12 32 12 16 (.array .int) true := ⟨_, _, _, tyX12, rfl, by decide, gt_6 (List.mem_of_getElem? (i := 27) rfl) rfl, wi_X12, tyX12_ok, nmX12, rfl, by decide +kernel, rfl⟩
theorem fk_X12_35 : FLk RX12 35 12 17 (.array .int) true := ⟨_, _, _, tyX12, rfl, by decide, gt_6 (List.mem_of_getElem? (i := 28) rfl) rfl, wi_X12, tyX12_ok, nmX12, rfl, by decide +kernel, rfl⟩
theorem fk_X12_38 : FLk RX12 38 12 18 (.array .int) true := ⟨_, _, _, tyX12, rfl, by decide, gt_6 (List.mem_of_getElem? (i := 29) rfl) rfl, wi_X12, tyX12_ok, nmX12, rfl, by decide +kernel, rfl⟩
theorem fk_X12_41 : FLk RX12 41 12 19 (.array .int) true := ⟨_, _, _, tyX12, rfl, by decide, gt_6 (List.mem_of_getElem? (i := 30) rfl) rfl, wi_X12, tyX12_ok, nmX12, rfl, by decide +kernel, rfl⟩
theorem fk_X12_44 : FLk RX12 44 12 20 (.array .int) true := ⟨_, _, _, tyX12, rfl, by decide, gt_6 (List.mem_of_getElem? (i := 31) rfl) rfl, wi_X12, tyX12_ok, nmX12, rfl, by decide +kernel, rfl⟩
theorem fk_X12_47 : FLk RX12 47 12 21 (.array .int) true := ⟨_, _, _, tyX12, rfl, by decide, gt_6 (List.mem_of_getElem? (i := 32) rfl) rfl, wi_X12, tyX12_ok, nmX12, rfl, by decide +kernel, rfl⟩
theorem fk_X12_50 : FLk RX12 50 12 22 (.array .int) true := ⟨_, _, _, tyX12, rfl, by decide, gt_6 (List.mem_of_getElem? (i := 33) rfl) rfl, wi_X12, tyX12_ok, nmX12, rfl, by decide +kernel, rfl⟩
theorem fk_X12_207 : FLk RX12 207 12 23 (.int) false := ⟨_, _, _, tyX12, rfl, by decide, gt_6 (List.mem_of_getElem? (i := 34) rfl) rfl, wi_X12, tyX12_ok, nmX12, rfl, by decide +kernel, rfl⟩
theorem fk_X12_332 : FLk RX12 332 12 24 (.boolean) false := ⟨_, _, _, tyX12, rfl, by decide, gt_6 (List.mem_of_getElem? (i := 35) rfl) rfl, wi_X12, tyX12_ok, nmX12, rfl, by decide +kernel, rfl⟩
theorem fk_X12_53 : FLk RX12 53 12 25 (.array .int) true := ⟨_, _, _, tyX12, rfl, by decide, gt_6 (List.mem_of_getElem? (i := 36) rfl) rfl, wi_X12, tyX12_ok, nmX12, rfl, by decide +kernel, rfl⟩
theorem fk_X12_56 : FLk RX12 56 12 26 (.array .boolean) true := ⟨_, _, _, tyX12, rfl, by decide, gt_6 (List.mem_of_getElem? (i := 37) rfl) rfl, wi_X12, tyX12_ok, nmX12, rfl, by decide +kernel, rfl⟩
theorem fk_X12_60 : FLk RX12 60 12 27 (.array .int) true := ⟨_, _, _, tyX12, rfl, by decide, gt_6 (List.mem_of_getElem? (i := 38) rfl) rfl, wi_X12, tyX12_ok, nmX12, rfl, by decide +kernel, rfl⟩
theorem fk_X12_63 : FLk RX12 63 12 28 (.array .int) true := ⟨_, _, _, tyX12, rfl, by decide, gt_6 (List.mem_of_getElem? (i := 39) rfl) rfl, wi_X12, tyX12_ok, nmX12, rfl, by decide +kernel, rfl⟩
theorem fk_X12_66 : FLk RX12 66 12 29 (.array .int) true := ⟨_, _, _, tyX12, rfl, by decide, gt_6 (List.mem_of_getElem? (i := 40) rfl) rfl, wi_X12, tyX12_ok, nmX12, rfl, by decide +kernel, rfl⟩
theorem fk_X12_69 : FLk RX12 69 12 30 (.array .int) true := ⟨_, _, _, tyX12, rfl, by decide, gt_6 (List.mem_of_getElem? (i := 41) rfl) rfl, wi_X12, tyX12_ok, nmX12, rfl, by decide +kernel, rfl⟩
theorem fk_X12_72 : FLk RX12 72 12 31 (.array .int) true := ⟨_, _, _, tyX12, rfl, by decide, gt_6 (List.mem_of_getElem? (i := 42) rfl) rfl, wi_X12, tyX12_ok, nmX12, rfl, by decide +kernel, rfl⟩
theorem fk_X12_75 : FLk RX12 75 12 32 (.array .int) true := ⟨_, _, _, tyX12, rfl, by decide, gt_6 (List.mem_of_getElem? (i := 43) rfl) rfl, wi_X12, tyX12_ok, nmX12, rfl, by decide +kernel, rfl⟩
theorem fk_X12_78 : FLk RX12 78 12 33 (.array .int) true := ⟨_, _, _, tyX12, rfl, by decide, gt_6 (List.mem_of_getElem? (i := 44) rfl) rfl, wi_X12, tyX12_ok, nmX12, rfl, by decide +kernel, rfl⟩
theorem fk_X12_81 : FLk RX12 81 12 34 (.array .int) true := ⟨_, _, _, tyX12, rfl, by decide, gt_6 (List.mem_of_getElem? (i := 45) rfl) rfl, wi_X12, tyX12_ok, nmX12, rfl, by decide +kernel, rfl⟩
theorem fk_X12_84 : FLk RX12 84 12 35 (.array .int) true := ⟨_, _, _, tyX12, rfl, by decide, gt_6 (List.mem_of_getElem? (i := 46) rfl) rfl, wi_X12, tyX12_ok, nmX12, rfl, by decide +kernel, rfl⟩
theorem fk_X12_87 : FLk RX12 87 12 36 (.array .int) true := ⟨_, _, _, tyX12, rfl, by decide, gt_6 (List.mem_of_getElem? (i := 47) rfl) rfl, wi_X12, tyX12_ok, nmX12, rfl, by decide +kernel, rfl⟩
theorem fk_X12_291 : FLk RX12 291 12 37 (.int) false := ⟨_, _, _, tyX12, rfl, by decide, gt_6 (List.mem_of_getElem? (i := 48) rfl) rfl, wi_X12, tyX12_ok, nmX12, rfl, by decide +kernel, rfl⟩
theorem fk_X12_304 : FLk RX12 304 12 38 (.long) false := ⟨_, _, _, tyX12, rfl, by decide, gt_6 (List.mem_of_getElem? (i := 49) rfl) rfl, wi_X12, tyX12_ok, nmX12, rfl, by decide +kernel, rfl⟩
theorem fk_X12_309 : FLk RX12 309 12 39 (.int) false := ⟨_, _, _, tyX12, rfl, by decide, gt_6 (List.mem_of_getElem? (i := 50) rfl) rfl, wi_X12, tyX12_ok, nmX12, rfl, by decide +kernel, rfl⟩
theorem fk_X12_90 : FLk RX12 90 12 40 (.array .int) true := ⟨_, _, _, tyX12, rfl, by decide, gt_6 (List.mem_of_getElem? (i := 51) rfl) rfl, wi_X12, tyX12_ok, nmX12, rfl, by decide +kernel, rfl⟩
theorem fk_X12_93 : FLk RX12 93 12 41 (.array .int) true := ⟨_, _, _, tyX12, rfl, by decide, gt_6 (List.mem_of_getElem? (i := 52) rfl) rfl, wi_X12, tyX12_ok, nmX12, rfl, by decide +kernel, rfl⟩
theorem fk_X12_96 : FLk RX12 96 12 42 (.array .int) true := ⟨_, _, _, tyX12, rfl, by decide, gt_6 (List.mem_of_getElem? (i := 53) rfl) rfl, wi_X12, tyX12_ok, nmX12, rfl, by decide +kernel, rfl⟩
theorem fk_X12_99 : FLk RX12 99 12 43 (.array .int) true := ⟨_, _, _, tyX12, rfl, by decide, gt_6 (List.mem_of_getElem? (i := 54) rfl) rfl, wi_X12, tyX12_ok, nmX12, rfl, by decide +kernel, rfl⟩
theorem fk_X12_102 : FLk RX12 102 12 44 (.array .int) true := ⟨_, _, _, tyX12, rfl, by decide, gt_6 (List.mem_of_getElem? (i := 55) rfl) rfl, wi_X12, tyX12_ok, nmX12, rfl, by decide +kernel, rfl⟩
theorem fk_X12_105 : FLk RX12 105 12 45 (.array .int) true := ⟨_, _, _, tyX12, rfl, by decide, gt_6 (List.mem_of_getElem? (i := 56) rfl) rfl, wi_X12, tyX12_ok, nmX12, rfl, by decide +kernel, rfl⟩
theorem fk_X12_108 : FLk RX12 108 12 46 (.array .int) true := ⟨_, _, _, tyX12, rfl, by decide, gt_6 (List.mem_of_getElem? (i := 57) rfl) rfl, wi_X12, tyX12_ok, nmX12, rfl, by decide +kernel, rfl⟩
theorem fk_X12_111 : FLk RX12 111 12 47 (.array .int) true := ⟨_, _, _, tyX12, rfl, by decide, gt_6 (List.mem_of_getElem? (i := 58) rfl) rfl, wi_X12, tyX12_ok, nmX12, rfl, by decide +kernel, rfl⟩
theorem fk_X12_114 : FLk RX12 114 12 48 (.array .boolean) true := ⟨_, _, _, tyX12, rfl, by decide, gt_6 (List.mem_of_getElem? (i := 59) rfl) rfl, wi_X12, tyX12_ok, nmX12, rfl, by decide +kernel, rfl⟩
theorem fk_X12_117 : FLk RX12 117 12 49 (.array .int) true := ⟨_, _, _, tyX12, rfl, by decide, gt_6 (List.mem_of_getElem? (i := 60) rfl) rfl, wi_X12, tyX12_ok, nmX12, rfl, by decide +kernel, rfl⟩
theorem fk_X12_120 : FLk RX12 120 12 50 (.array .int) true := ⟨_, _, _, tyX12, rfl, by decide, gt_6 (List.mem_of_getElem? (i := 61) rfl) rfl, wi_X12, tyX12_ok, nmX12, rfl, by decide +kernel, rfl⟩
theorem fk_X12_123 : FLk RX12 123 12 51 (.array .int) true := ⟨_, _, _, tyX12, rfl, by decide, gt_6 (List.mem_of_getElem? (i := 62) rfl) rfl, wi_X12, tyX12_ok, nmX12, rfl, by decide +kernel, rfl⟩
theorem fk_X12_126 : FLk RX12 126 12 52 (.array .int) true := ⟨_, _, _, tyX12, rfl, by decide, gt_6 (List.mem_of_getElem? (i := 63) rfl) rfl, wi_X12, tyX12_ok, nmX12, rfl, by decide +kernel, rfl⟩
theorem fk_X12_129 : FLk RX12 129 12 53 (.array .int) true := ⟨_, _, _, tyX12, rfl, by decide, gt_6 (List.mem_of_getElem? (i := 64) rfl) rfl, wi_X12, tyX12_ok, nmX12, rfl, by decide +kernel, rfl⟩
theorem fk_X12_132 : FLk RX12 132 12 54 (.array .boolean) true := ⟨_, _, _, tyX12, rfl, by decide, gt_6 (List.mem_of_getElem? (i := 65) rfl) rfl, wi_X12, tyX12_ok, nmX12, rfl, by decide +kernel, rfl⟩
theorem fk_X12_377 : FLk RX12 377 12 55 (.int) false := ⟨_, _, _, tyX12, rfl, by decide, gt_6 (List.mem_of_getElem? (i := 66) rfl) rfl, wi_X12, tyX12_ok, nmX12, rfl, by decide +kernel, rfl⟩
theorem fk_X12_396 : FLk RX12 396 12 56 (.int) false := ⟨_, _, _, tyX12, rfl, by decide, gt_6 (List.mem_of_getElem? (i := 67) rfl) rfl, wi_X12, tyX12_ok, nmX12, rfl, by decide +kernel, rfl⟩
theorem fk_X12_135 : FLk RX12 135 12 57 (.int) false := ⟨_, _, _, tyX12, rfl, by decide, gt_6 (List.mem_of_getElem? (i := 68) rfl) rfl, wi_X12, tyX12_ok, nmX12, rfl, by decide +kernel, rfl⟩
theorem fk_X12_139 : FLk RX12 139 12 58 (.array .int) true := ⟨_, _, _, tyX12, rfl, by decide, gt_6 (List.mem_of_getElem? (i := 69) rfl) rfl, wi_X12, tyX12_ok, nmX12, rfl, by decide +kernel, rfl⟩
theorem fk_X12_142 : FLk RX12 142 12 59 (.array .int) true := ⟨_, _, _, tyX12, rfl, by decide, gt_6 (List.mem_of_getElem? (i := 70) rfl) rfl, wi_X12, tyX12_ok, nmX12, rfl, by decide +kernel, rfl⟩
theorem fk_X12_454 : FLk RX12 454 12 60 (.int) false := ⟨_, _, _, tyX12, rfl, by decide, gt_6 (List.mem_of_getElem? (i := 71) rfl) rfl, wi_X12, tyX12_ok, nmX12, rfl, by decide +kernel, rfl⟩
theorem fk_X12_457 : FLk RX12 457 12 61 (.int) false := ⟨_, _, _, tyX12, rfl, by decide, gt_6 (List.mem_of_getElem? (i := 72) rfl) rfl, wi_X12, tyX12_ok, nmX12, rfl, by decide +kernel, rfl⟩
theorem fk_X12_460 : FLk RX12 460 12 62 (.int) false := ⟨_, _, _, tyX12, rfl, by decide, gt_6 (List.mem_of_getElem? (i := 73) rfl) rfl, wi_X12, tyX12_ok, nmX12, rfl, by decide +kernel, rfl⟩
theorem fk_X12_463 : FLk RX12 463 12 63 (.int) false := ⟨_, _, _, tyX12, rfl, by decide, gt_6 (List.mem_of_getElem? (i := 74) rfl) rfl, wi_X12, tyX12_ok, nmX12, rfl, by decide +kernel, rfl⟩
theorem fk_X12_145 : FLk RX12 145 12 64 (.array .int) true := ⟨_, _, _, tyX12, rfl, by decide, gt_6 (List.mem_of_getElem? (i := 75) rfl) rfl, wi_X12, tyX12_ok, nmX12, rfl, by decide +kernel, rfl⟩
theorem fk_X12_148 : FLk RX12 148 12 65 (.array .int) true := ⟨_, _, _, tyX12, rfl, by decide, gt_6 (List.mem_of_getElem? (i := 76) rfl) rfl, wi_X12, tyX12_ok, nmX12, rfl, by decide +kernel, rfl⟩
theorem fk_X12_151 : FLk RX12 151 12 66 (.array .int) true := ⟨_, _, _, tyX12, rfl, by decide, gt_6 (List.mem_of_getElem? (i := 77) rfl) rfl, wi_X12, tyX12_ok, nmX12, rfl, by decide +kernel, rfl⟩
theorem fk_X12_154 : FLk RX12 154 12 67 (.array .int) true := ⟨_, _, _, tyX12, rfl, by decide, gt_6 (List.mem_of_getElem? (i := 78) rfl) rfl, wi_X12, tyX12_ok, nmX12, rfl, by decide +kernel, rfl⟩
theorem fk_X12_157 : FLk RX12 157 12 68 (.array .int) true := ⟨_, _, _, tyX12, rfl, by decide, gt_6 (List.mem_of_getElem? (i := 79) rfl) rfl, wi_X12, tyX12_ok, nmX12, rfl, by decide +kernel, rfl⟩
theorem fk_X12_481 : FLk RX12 481 12 69 (.int) false := ⟨_, _, _, tyX12, rfl, by decide, gt_6 (List.mem_of_getElem? (i := 80) rfl) rfl, wi_X12, tyX12_ok, nmX12, rfl, by decide +kernel, rfl⟩
theorem fk_X12_484 : FLk RX12 484 12 70 (.int) false := ⟨_, _, _, tyX12, rfl, by decide, gt_6 (List.mem_of_getElem? (i := 81) rfl) rfl, wi_X12, tyX12_ok, nmX12, rfl, by decide +kernel, rfl⟩
theorem fk_X12_160 : FLk RX12 160 12 71 (.array .int) true := ⟨_, _, _, tyX12, rfl, by decide, gt_6 (List.mem_of_getElem? (i := 82) rfl) rfl, wi_X12, tyX12_ok, nmX12, rfl, by decide +kernel, rfl⟩
theorem fk_X12_506 : FLk RX12 506 12 72 (.long) false := ⟨_, _, _, tyX12, rfl, by decide, gt_6 (List.mem_of_getElem? (i := 83) rfl) rfl, wi_X12, tyX12_ok, nmX12, rfl, by decide +kernel, rfl⟩
theorem lk_L_19 : Cond.methodLink RL 19 yX11_init ∈ GT := gt_1 (List.mem_of_getElem? (i := 28) rfl) rfl
theorem lk_X11_18 : Cond.methodLink RX11 18 yX6_init ∈ GT := gt_1 (List.mem_of_getElem? (i := 53) rfl) rfl
theorem lk_X6_11 : Cond.methodLink RX6 11 yX8_init ∈ GT := gt_1 (List.mem_of_getElem? (i := 59) rfl) rfl
theorem lk_X8_21 : Cond.methodLink RX8 21 yJ0_length_8abf5 ∈ GT := gt_1 (List.mem_of_getElem? (i := 64) rfl) rfl
theorem lk_X8_27 : Cond.methodLink RX8 27 yJ0_charAt_5068e ∈ GT := gt_1 (List.mem_of_getElem? (i := 74) rfl) rfl
theorem lk_X11_34 : Cond.methodLink RX11 34 yX5_init ∈ GT := gt_1 (List.mem_of_getElem? (i := 202) rfl) rfl
theorem lk_L_25 : Cond.methodLink RL 25 yX11_feed ∈ GT := gt_2 (List.mem_of_getElem? (i := 223) rfl) rfl
theorem mkX11_feed : MkV yX11_feed cX11_feed 7 (some .int) 3 11 := ⟨gt_2 (List.mem_of_getElem? (i := 224) rfl) rfl, gt_2 (List.mem_of_getElem? (i := 225) rfl) rfl, gt_1 (List.mem_of_getElem? (i := 1) rfl) rfl, gt_2 (List.mem_of_getElem? (i := 226) rfl) rfl, ⟨by decide +kernel, by decide +kernel, by decide +kernel⟩, ⟨_, _, rfl⟩, by decide⟩
theorem lk_X11_80 : Cond.methodLink RX11 80 yX7_addBytes ∈ GT := gt_2 (List.mem_of_getElem? (i := 227) rfl) rfl
theorem mkX7_addBytes : MkV yX7_addBytes cX7_addBytes 6 none 1 7 := ⟨gt_2 (List.mem_of_getElem? (i := 228) rfl) rfl, gt_2 (List.mem_of_getElem? (i := 229) rfl) rfl, gt_1 (List.mem_of_getElem? (i := 2) rfl) rfl, gt_2 (List.mem_of_getElem? (i := 230) rfl) rfl, ⟨by decide +kernel, by decide +kernel, by decide +kernel⟩, ⟨_, _, rfl⟩, by decide⟩
theorem cn_X7_13 : Cond.constantLong RX7 13 (255) ∈ GT := gt_2 (List.mem_of_getElem? (i := 231) rfl) rfl
theorem lk_L_30 : Cond.methodLink RL 30 yX11_town ∈ GT := gt_2 (List.mem_of_getElem? (i := 232) rfl) rfl
theorem mkX11_town : MkV yX11_town cX11_town 4 (some .int) 0 11 := ⟨gt_2 (List.mem_of_getElem? (i := 233) rfl) rfl, gt_2 (List.mem_of_getElem? (i := 234) rfl) rfl, gt_1 (List.mem_of_getElem? (i := 1) rfl) rfl, gt_2 (List.mem_of_getElem? (i := 235) rfl) rfl, ⟨by decide +kernel, by decide +kernel, by decide +kernel⟩, ⟨_, _, rfl⟩, by decide⟩
theorem lk_X11_88 : Cond.methodLink RX11 88 yX6_readTown ∈ GT := gt_2 (List.mem_of_getElem? (i := 236) rfl) rfl
theorem mkX6_readTown : MkV yX6_readTown cX6_readTown 3 (some .int) 1 6 := ⟨gt_2 (List.mem_of_getElem? (i := 237) rfl) rfl, gt_2 (List.mem_of_getElem? (i := 238) rfl) rfl, gt_1 (List.mem_of_getElem? (i := 3) rfl) rfl, gt_2 (List.mem_of_getElem? (i := 239) rfl) rfl, ⟨by decide +kernel, by decide +kernel, by decide +kernel⟩, ⟨_, _, rfl⟩, by decide⟩
theorem lk_X6_20 : Cond.methodLink RX6 20 yX9_empty ∈ GT := gt_3 (List.mem_of_getElem? (i := 0) rfl) rfl
theorem mkX9_empty : MkV yX9_empty cX9_empty 1 none 0 9 := ⟨gt_3 (List.mem_of_getElem? (i := 1) rfl) rfl, gt_3 (List.mem_of_getElem? (i := 2) rfl) rfl, gt_1 (List.mem_of_getElem? (i := 15) rfl) rfl, gt_3 (List.mem_of_getElem? (i := 3) rfl) rfl, ⟨by decide +kernel, by decide +kernel, by decide +kernel⟩, ⟨_, _, rfl⟩, by decide⟩
theorem lk_X6_29 : Cond.methodLink RX6 29 yX8_restart ∈ GT := gt_3 (List.mem_of_getElem? (i := 4) rfl) rfl
theorem mkX8_restart : MkV yX8_restart cX8_restart 1 none 0 8 := ⟨gt_3 (List.mem_of_getElem? (i := 5) rfl) rfl, gt_3 (List.mem_of_getElem? (i := 6) rfl) rfl, gt_1 (List.mem_of_getElem? (i := 4) rfl) rfl, gt_3 (List.mem_of_getElem? (i := 7) rfl) rfl, ⟨by decide +kernel, by decide +kernel, by decide +kernel⟩, ⟨_, _, rfl⟩, by decide⟩
theorem lk_X8_35 : Cond.methodLink RX8 35 yX8_advance ∈ GT := gt_3 (List.mem_of_getElem? (i := 8) rfl) rfl
theorem mkX8_advance : MkV yX8_advance cX8_advance 2 none 0 8 := ⟨gt_3 (List.mem_of_getElem? (i := 9) rfl) rfl, gt_3 (List.mem_of_getElem? (i := 10) rfl) rfl, gt_1 (List.mem_of_getElem? (i := 4) rfl) rfl, gt_3 (List.mem_of_getElem? (i := 11) rfl) rfl, ⟨by decide +kernel, by decide +kernel, by decide +kernel⟩, ⟨_, _, rfl⟩, by decide⟩
theorem lk_X8_52 : Cond.methodLink RX8 52 yX8_takeWord ∈ GT := gt_3 (List.mem_of_getElem? (i := 12) rfl) rfl
theorem mkX8_takeWord : MkV yX8_takeWord cX8_takeWord 2 none 0 8 := ⟨gt_3 (List.mem_of_getElem? (i := 14) rfl) rfl, gt_p 0 rfl rfl, gt_1 (List.mem_of_getElem? (i := 4) rfl) rfl, gt_3 (List.mem_of_getElem? (i := 15) rfl) rfl, ⟨by decide +kernel, by decide +kernel, by decide +kernel⟩, ⟨_, _, rfl⟩, by decide⟩
theorem lk_X8_55 : Cond.methodLink RX8 55 yX8_takeNumber ∈ GT := gt_3 (List.mem_of_getElem? (i := 16) rfl) rfl
theorem mkX8_takeNumber : MkV yX8_takeNumber cX8_takeNumber 1 none 0 8 := ⟨gt_3 (List.mem_of_getElem? (i := 18) rfl) rfl, gt_p 1 rfl rfl, gt_1 (List.mem_of_getElem? (i := 4) rfl) rfl, gt_3 (List.mem_of_getElem? (i := 19) rfl) rfl, ⟨by decide +kernel, by decide +kernel, by decide +kernel⟩, ⟨_, _, rfl⟩, by decide⟩
theorem lk_X8_60 : Cond.methodLink RX8 60 yJ0_indexOf_0f7a4 ∈ GT := gt_3 (List.mem_of_getElem? (i := 21) rfl) rfl
theorem cn_J2_227 : Cond.constant RJ2 227 (65536) ∈ GT := gt_3 (List.mem_of_getElem? (i := 50) rfl) rfl
theorem cn_J11_110 : Cond.constant RJ11 110 (55232) ∈ GT := gt_3 (List.mem_of_getElem? (i := 75) rfl) rfl
theorem cn_J11_76 : Cond.constant RJ11 76 (56320) ∈ GT := gt_3 (List.mem_of_getElem? (i := 79) rfl) rfl
theorem lk_X6_40 : Cond.methodLink RX6 40 yX6_readPlace ∈ GT := gt_3 (List.mem_of_getElem? (i := 80) rfl) rfl
theorem mkX6_readPlace : MkV yX6_readPlace cX6_readPlace 4 none 1 6 := ⟨gt_3 (List.mem_of_getElem? (i := 82) rfl) rfl, gt_p 2 rfl rfl, gt_1 (List.mem_of_getElem? (i := 3) rfl) rfl, gt_3 (List.mem_of_getElem? (i := 83) rfl) rfl, ⟨by decide +kernel, by decide +kernel, by decide +kernel⟩, ⟨_, _, rfl⟩, by decide⟩
theorem lk_X6_56 : Cond.methodLink RX6 56 yX6_wrong ∈ GT := gt_3 (List.mem_of_getElem? (i := 84) rfl) rfl
theorem mkX6_wrong : MkV yX6_wrong cX6_wrong 2 (some .boolean) 1 6 := ⟨gt_3 (List.mem_of_getElem? (i := 86) rfl) rfl, gt_p 3 rfl rfl, gt_1 (List.mem_of_getElem? (i := 3) rfl) rfl, gt_3 (List.mem_of_getElem? (i := 87) rfl) rfl, ⟨by decide +kernel, by decide +kernel, by decide +kernel⟩, ⟨_, _, rfl⟩, by decide⟩
theorem lk_X6_78 : Cond.methodLink RX6 78 yX8_advance ∈ GT := gt_3 (List.mem_of_getElem? (i := 88) rfl) rfl
theorem lk_X6_81 : Cond.methodLink RX6 81 yX6_isNewName ∈ GT := gt_3 (List.mem_of_getElem? (i := 89) rfl) rfl
theorem mkX6_isNewName : MkV yX6_isNewName cX6_isNewName 2 (some .boolean) 1 6 := ⟨gt_3 (List.mem_of_getElem? (i := 91) rfl) rfl, gt_p 4 rfl rfl, gt_1 (List.mem_of_getElem? (i := 3) rfl) rfl, gt_3 (List.mem_of_getElem? (i := 92) rfl) rfl, ⟨by decide +kernel, by decide +kernel, by decide +kernel⟩, ⟨_, _, rfl⟩, by decide⟩
theorem lk_X6_179 : Cond.methodLink RX6 179 yX8_isName ∈ GT := gt_3 (List.mem_of_getElem? (i := 93) rfl) rfl
theorem mkX8_isName : MkV yX8_isName cX8_isName 1 (some .boolean) 0 8 := ⟨gt_3 (List.mem_of_getElem? (i := 94) rfl) rfl, gt_3 (List.mem_of_getElem? (i := 95) rfl) rfl, gt_1 (List.mem_of_getElem? (i := 4) rfl) rfl, gt_3 (List.mem_of_getElem? (i := 96) rfl) rfl, ⟨by decide +kernel, by decide +kernel, by decide +kernel⟩, ⟨_, _, rfl⟩, by decide⟩
theorem lk_X6_107 : Cond.methodLink RX6 107 yX9_placeNamed ∈ GT := gt_3 (List.mem_of_getElem? (i := 97) rfl) rfl
theorem mkX9_placeNamed : MkV yX9_placeNamed cX9_placeNamed 4 (some .int) 1 9 := ⟨gt_3 (List.mem_of_getElem? (i := 98) rfl) rfl, gt_3 (List.mem_of_getElem? (i := 99) rfl) rfl, gt_1 (List.mem_of_getElem? (i := 15) rfl) rfl, gt_3 (List.mem_of_getElem? (i := 100) rfl) rfl, ⟨by decide +kernel, by decide +kernel, by decide +kernel⟩, ⟨_, _, rfl⟩, by decide⟩
theorem lk_X6_183 : Cond.methodLink RX6 183 yX9_walkerNamed ∈ GT := gt_3 (List.mem_of_getElem? (i := 101) rfl) rfl
theorem mkX9_walkerNamed : MkV yX9_walkerNamed cX9_walkerNamed 4 (some .int) 1 9 := ⟨gt_3 (List.mem_of_getElem? (i := 102) rfl) rfl, gt_3 (List.mem_of_getElem? (i := 103) rfl) rfl, gt_1 (List.mem_of_getElem? (i := 15) rfl) rfl, gt_3 (List.mem_of_getElem? (i := 104) rfl) rfl, ⟨by decide +kernel, by decide +kernel, by decide +kernel⟩, ⟨_, _, rfl⟩, by decide⟩
theorem lk_X6_89 : Cond.methodLink RX6 89 yX6_readSign ∈ GT := gt_3 (List.mem_of_getElem? (i := 105) rfl) rfl
theorem mkX6_readSign : MkV yX6_readSign cX6_readSign 2 (some .boolean) 1 6 := ⟨gt_3 (List.mem_of_getElem? (i := 107) rfl) rfl, gt_p 5 rfl rfl, gt_1 (List.mem_of_getElem? (i := 3) rfl) rfl, gt_3 (List.mem_of_getElem? (i := 108) rfl) rfl, ⟨by decide +kernel, by decide +kernel, by decide +kernel⟩, ⟨_, _, rfl⟩, by decide⟩
theorem lk_X6_171 : Cond.methodLink RX6 171 yX8_isSign ∈ GT := gt_3 (List.mem_of_getElem? (i := 109) rfl) rfl
theorem mkX8_isSign : MkV yX8_isSign cX8_isSign 2 (some .boolean) 1 8 := ⟨gt_3 (List.mem_of_getElem? (i := 110) rfl) rfl, gt_3 (List.mem_of_getElem? (i := 111) rfl) rfl, gt_1 (List.mem_of_getElem? (i := 4) rfl) rfl, gt_3 (List.mem_of_getElem? (i := 112) rfl) rfl, ⟨by decide +kernel, by decide +kernel, by decide +kernel⟩, ⟨_, _, rfl⟩, by decide⟩
theorem lk_X6_93 : Cond.methodLink RX6 93 yX9_addPlace ∈ GT := gt_3 (List.mem_of_getElem? (i := 113) rfl) rfl
theorem mkX9_addPlace : MkV yX9_addPlace cX9_addPlace 3 none 1 9 := ⟨gt_3 (List.mem_of_getElem? (i := 114) rfl) rfl, gt_3 (List.mem_of_getElem? (i := 115) rfl) rfl, gt_1 (List.mem_of_getElem? (i := 15) rfl) rfl, gt_3 (List.mem_of_getElem? (i := 116) rfl) rfl, ⟨by decide +kernel, by decide +kernel, by decide +kernel⟩, ⟨_, _, rfl⟩, by decide⟩
theorem lk_X6_44 : Cond.methodLink RX6 44 yX6_readLane ∈ GT := gt_3 (List.mem_of_getElem? (i := 117) rfl) rfl
theorem mkX6_readLane : MkV yX6_readLane cX6_readLane 5 none 1 6 := ⟨gt_3 (List.mem_of_getElem? (i := 119) rfl) rfl, gt_p 6 rfl rfl, gt_1 (List.mem_of_getElem? (i := 3) rfl) rfl, gt_3 (List.mem_of_getElem? (i := 120) rfl) rfl, ⟨by decide +kernel, by decide +kernel, by decide +kernel⟩, ⟨_, _, rfl⟩, by decide⟩
theorem lk_X6_100 : Cond.methodLink RX6 100 yX6_readPlaceName ∈ GT := gt_3 (List.mem_of_getElem? (i := 121) rfl) rfl
theorem mkX6_readPlaceName : MkV yX6_readPlaceName cX6_readPlaceName 2 (some .int) 1 6 := ⟨gt_3 (List.mem_of_getElem? (i := 123) rfl) rfl, gt_p 7 rfl rfl, gt_1 (List.mem_of_getElem? (i := 3) rfl) rfl, gt_3 (List.mem_of_getElem? (i := 124) rfl) rfl, ⟨by decide +kernel, by decide +kernel, by decide +kernel⟩, ⟨_, _, rfl⟩, by decide⟩
theorem lk_X6_186 : Cond.methodLink RX6 186 yX6_readTold ∈ GT := gt_3 (List.mem_of_getElem? (i := 125) rfl) rfl
theorem mkX6_readTold : MkV yX6_readTold cX6_readTold 2 (some .int) 1 6 := ⟨gt_3 (List.mem_of_getElem? (i := 127) rfl) rfl, gt_p 8 rfl rfl, gt_1 (List.mem_of_getElem? (i := 3) rfl) rfl, gt_3 (List.mem_of_getElem? (i := 128) rfl) rfl, ⟨by decide +kernel, by decide +kernel, by decide +kernel⟩, ⟨_, _, rfl⟩, by decide⟩
theorem lk_X6_104 : Cond.methodLink RX6 104 yX6_isPlaceName ∈ GT := gt_3 (List.mem_of_getElem? (i := 129) rfl) rfl
theorem mkX6_isPlaceName : MkV yX6_isPlaceName cX6_isPlaceName 2 (some .boolean) 1 6 := ⟨gt_3 (List.mem_of_getElem? (i := 131) rfl) rfl, gt_p 9 rfl rfl, gt_1 (List.mem_of_getElem? (i := 3) rfl) rfl, gt_3 (List.mem_of_getElem? (i := 132) rfl) rfl, ⟨by decide +kernel, by decide +kernel, by decide +kernel⟩, ⟨_, _, rfl⟩, by decide⟩
theorem lk_X6_111 : Cond.methodLink RX6 111 yX9_laneBetween ∈ GT := gt_3 (List.mem_of_getElem? (i := 133) rfl) rfl
theorem mkX9_laneBetween : MkV yX9_laneBetween cX9_laneBetween 4 (some .int) 2 9 := ⟨gt_3 (List.mem_of_getElem? (i := 134) rfl) rfl, gt_3 (List.mem_of_getElem? (i := 135) rfl) rfl, gt_1 (List.mem_of_getElem? (i := 15) rfl) rfl, gt_3 (List.mem_of_getElem? (i := 136) rfl) rfl, ⟨by decide +kernel, by decide +kernel, by decide +kernel⟩, ⟨_, _, rfl⟩, by decide⟩
theorem lk_X6_115 : Cond.methodLink RX6 115 yX6_readWord ∈ GT := gt_3 (List.mem_of_getElem? (i := 137) rfl) rfl
theorem mkX6_readWord : MkV yX6_readWord cX6_readWord 2 (some .boolean) 1 6 := ⟨gt_3 (List.mem_of_getElem? (i := 139) rfl) rfl, gt_p 10 rfl rfl, gt_1 (List.mem_of_getElem? (i := 3) rfl) rfl, gt_3 (List.mem_of_getElem? (i := 140) rfl) rfl, ⟨by decide +kernel, by decide +kernel, by decide +kernel⟩, ⟨_, _, rfl⟩, by decide⟩
theorem lk_X6_168 : Cond.methodLink RX6 168 yX8_isWord ∈ GT := gt_3 (List.mem_of_getElem? (i := 141) rfl) rfl
theorem mkX8_isWord : MkV yX8_isWord cX8_isWord 2 (some .boolean) 1 8 := ⟨gt_3 (List.mem_of_getElem? (i := 142) rfl) rfl, gt_3 (List.mem_of_getElem? (i := 143) rfl) rfl, gt_1 (List.mem_of_getElem? (i := 4) rfl) rfl, gt_3 (List.mem_of_getElem? (i := 144) rfl) rfl, ⟨by decide +kernel, by decide +kernel, by decide +kernel⟩, ⟨_, _, rfl⟩, by decide⟩
theorem lk_X6_118 : Cond.methodLink RX6 118 yX6_readNumber ∈ GT := gt_3 (List.mem_of_getElem? (i := 145) rfl) rfl
theorem mkX6_readNumber : MkV yX6_readNumber cX6_readNumber 3 (some .int) 1 6 := ⟨gt_3 (List.mem_of_getElem? (i := 147) rfl) rfl, gt_p 11 rfl rfl, gt_1 (List.mem_of_getElem? (i := 3) rfl) rfl, gt_3 (List.mem_of_getElem? (i := 148) rfl) rfl, ⟨by decide +kernel, by decide +kernel, by decide +kernel⟩, ⟨_, _, rfl⟩, by decide⟩
theorem lk_X6_122 : Cond.methodLink RX6 122 yX9_addLane ∈ GT := gt_3 (List.mem_of_getElem? (i := 149) rfl) rfl
theorem mkX9_addLane : MkV yX9_addLane cX9_addLane 4 none 3 9 := ⟨gt_3 (List.mem_of_getElem? (i := 150) rfl) rfl, gt_3 (List.mem_of_getElem? (i := 151) rfl) rfl, gt_1 (List.mem_of_getElem? (i := 15) rfl) rfl, gt_3 (List.mem_of_getElem? (i := 152) rfl) rfl, ⟨by decide +kernel, by decide +kernel, by decide +kernel⟩, ⟨_, _, rfl⟩, by decide⟩
theorem lk_X6_47 : Cond.methodLink RX6 47 yX6_readWalker ∈ GT := gt_3 (List.mem_of_getElem? (i := 153) rfl) rfl
theorem mkX6_readWalker : MkV yX6_readWalker cX6_readWalker 8 none 1 6 := ⟨gt_3 (List.mem_of_getElem? (i := 155) rfl) rfl, gt_p 12 rfl rfl, gt_1 (List.mem_of_getElem? (i := 3) rfl) rfl, gt_3 (List.mem_of_getElem? (i := 156) rfl) rfl, ⟨by decide +kernel, by decide +kernel, by decide +kernel⟩, ⟨_, _, rfl⟩, by decide⟩
theorem lk_X6_129 : Cond.methodLink RX6 129 yX6_readKind ∈ GT := gt_3 (List.mem_of_getElem? (i := 157) rfl) rfl
theorem mkX6_readKind : MkV yX6_readKind cX6_readKind 2 (some .int) 0 6 := ⟨gt_3 (List.mem_of_getElem? (i := 159) rfl) rfl, gt_p 13 rfl rfl, gt_1 (List.mem_of_getElem? (i := 3) rfl) rfl, gt_3 (List.mem_of_getElem? (i := 160) rfl) rfl, ⟨by decide +kernel, by decide +kernel, by decide +kernel⟩, ⟨_, _, rfl⟩, by decide⟩
theorem lk_X6_133 : Cond.methodLink RX6 133 yX9_addWalker ∈ GT := gt_3 (List.mem_of_getElem? (i := 161) rfl) rfl
theorem mkX9_addWalker : MkV yX9_addWalker cX9_addWalker 7 none 5 9 := ⟨gt_3 (List.mem_of_getElem? (i := 162) rfl) rfl, gt_3 (List.mem_of_getElem? (i := 163) rfl) rfl, gt_1 (List.mem_of_getElem? (i := 15) rfl) rfl, gt_3 (List.mem_of_getElem? (i := 164) rfl) rfl, ⟨by decide +kernel, by decide +kernel, by decide +kernel⟩, ⟨_, _, rfl⟩, by decide⟩
theorem lk_X6_50 : Cond.methodLink RX6 50 yX6_readBoy ∈ GT := gt_3 (List.mem_of_getElem? (i := 165) rfl) rfl
theorem mkX6_readBoy : MkV yX6_readBoy cX6_readBoy 3 none 1 6 := ⟨gt_3 (List.mem_of_getElem? (i := 167) rfl) rfl, gt_p 14 rfl rfl, gt_1 (List.mem_of_getElem? (i := 3) rfl) rfl, gt_3 (List.mem_of_getElem? (i := 168) rfl) rfl, ⟨by decide +kernel, by decide +kernel, by decide +kernel⟩, ⟨_, _, rfl⟩, by decide⟩
theorem lk_X6_53 : Cond.methodLink RX6 53 yX6_readLaw ∈ GT := gt_3 (List.mem_of_getElem? (i := 169) rfl) rfl
theorem mkX6_readLaw : MkV yX6_readLaw cX6_readLaw 2 none 1 6 := ⟨gt_3 (List.mem_of_getElem? (i := 171) rfl) rfl, gt_p 15 rfl rfl, gt_1 (List.mem_of_getElem? (i := 3) rfl) rfl, gt_3 (List.mem_of_getElem? (i := 172) rfl) rfl, ⟨by decide +kernel, by decide +kernel, by decide +kernel⟩, ⟨_, _, rfl⟩, by decide⟩
theorem lk_X6_153 : Cond.methodLink RX6 153 yX6_readLevel ∈ GT := gt_3 (List.mem_of_getElem? (i := 173) rfl) rfl
theorem mkX6_readLevel : MkV yX6_readLevel cX6_readLevel 6 (some .boolean) 3 6 := ⟨gt_3 (List.mem_of_getElem? (i := 175) rfl) rfl, gt_p 16 rfl rfl, gt_1 (List.mem_of_getElem? (i := 3) rfl) rfl, gt_3 (List.mem_of_getElem? (i := 176) rfl) rfl, ⟨by decide +kernel, by decide +kernel, by decide +kernel⟩, ⟨_, _, rfl⟩, by decide⟩
theorem lk_X6_157 : Cond.methodLink RX6 157 yX6_readPart ∈ GT := gt_3 (List.mem_of_getElem? (i := 177) rfl) rfl
theorem mkX6_readPart : MkV yX6_readPart cX6_readPart 7 (some .boolean) 2 6 := ⟨gt_3 (List.mem_of_getElem? (i := 179) rfl) rfl, gt_p 17 rfl rfl, gt_1 (List.mem_of_getElem? (i := 3) rfl) rfl, gt_3 (List.mem_of_getElem? (i := 180) rfl) rfl, ⟨by decide +kernel, by decide +kernel, by decide +kernel⟩, ⟨_, _, rfl⟩, by decide⟩
theorem lk_X6_164 : Cond.methodLink RX6 164 yX1_add ∈ GT := gt_3 (List.mem_of_getElem? (i := 181) rfl) rfl
theorem mkX1_add : MkV yX1_add cX1_add 2 none 1 1 := ⟨gt_3 (List.mem_of_getElem? (i := 182) rfl) rfl, gt_3 (List.mem_of_getElem? (i := 183) rfl) rfl, gt_1 (List.mem_of_getElem? (i := 16) rfl) rfl, gt_3 (List.mem_of_getElem? (i := 184) rfl) rfl, ⟨by decide +kernel, by decide +kernel, by decide +kernel⟩, ⟨_, _, rfl⟩, by decide⟩
theorem lk_X6_161 : Cond.methodLink RX6 161 yX6_operationHere ∈ GT := gt_3 (List.mem_of_getElem? (i := 185) rfl) rfl
theorem mkX6_operationHere : MkV yX6_operationHere cX6_operationHere 2 (some .int) 1 6 := ⟨gt_3 (List.mem_of_getElem? (i := 187) rfl) rfl, gt_p 18 rfl rfl, gt_1 (List.mem_of_getElem? (i := 3) rfl) rfl, gt_3 (List.mem_of_getElem? (i := 188) rfl) rfl, ⟨by decide +kernel, by decide +kernel, by decide +kernel⟩, ⟨_, _, rfl⟩, by decide⟩
theorem lk_X6_60 : Cond.methodLink RX6 60 yX9_findWays ∈ GT := gt_3 (List.mem_of_getElem? (i := 189) rfl) rfl
theorem mkX9_findWays : MkV yX9_findWays cX9_findWays 3 none 0 9 := ⟨gt_3 (List.mem_of_getElem? (i := 190) rfl) rfl, gt_3 (List.mem_of_getElem? (i := 191) rfl) rfl, gt_1 (List.mem_of_getElem? (i := 15) rfl) rfl, gt_3 (List.mem_of_getElem? (i := 192) rfl) rfl, ⟨by decide +kernel, by decide +kernel, by decide +kernel⟩, ⟨_, _, rfl⟩, by decide⟩
theorem lk_X9_80 : Cond.methodLink RX9 80 yX9_findWaysOfLength ∈ GT := gt_3 (List.mem_of_getElem? (i := 193) rfl) rfl
theorem mkX9_findWaysOfLength : MkV yX9_findWaysOfLength cX9_findWaysOfLength 5 none 2 9 := ⟨gt_3 (List.mem_of_getElem? (i := 195) rfl) rfl, gt_p 19 rfl rfl, gt_1 (List.mem_of_getElem? (i := 15) rfl) rfl, gt_3 (List.mem_of_getElem? (i := 196) rfl) rfl, ⟨by decide +kernel, by decide +kernel, by decide +kernel⟩, ⟨_, _, rfl⟩, by decide⟩
theorem lk_X9_84 : Cond.methodLink RX9 84 yX9_lanesOfWay ∈ GT := gt_3 (List.mem_of_getElem? (i := 197) rfl) rfl
theorem mkX9_lanesOfWay : MkV yX9_lanesOfWay cX9_lanesOfWay 3 (some .int) 2 9 := ⟨gt_3 (List.mem_of_getElem? (i := 198) rfl) rfl, gt_3 (List.mem_of_getElem? (i := 199) rfl) rfl, gt_1 (List.mem_of_getElem? (i := 15) rfl) rfl, gt_3 (List.mem_of_getElem? (i := 200) rfl) rfl, ⟨by decide +kernel, by decide +kernel, by decide +kernel⟩, ⟨_, _, rfl⟩, by decide⟩
theorem lk_X9_77 : Cond.methodLink RX9 77 yX9_hasPlace ∈ GT := gt_3 (List.mem_of_getElem? (i := 201) rfl) rfl
theorem mkX9_hasPlace : MkV yX9_hasPlace cX9_hasPlace 2 (some .boolean) 1 9 := ⟨gt_3 (List.mem_of_getElem? (i := 202) rfl) rfl, gt_3 (List.mem_of_getElem? (i := 203) rfl) rfl, gt_1 (List.mem_of_getElem? (i := 15) rfl) rfl, gt_3 (List.mem_of_getElem? (i := 204) rfl) rfl, ⟨by decide +kernel, by decide +kernel, by decide +kernel⟩, ⟨_, _, rfl⟩, by decide⟩
theorem lk_X9_88 : Cond.methodLink RX9 88 yX9_laneNearer ∈ GT := gt_3 (List.mem_of_getElem? (i := 205) rfl) rfl
theorem mkX9_laneNearer : MkV yX9_laneNearer cX9_laneNearer 6 (some .int) 3 9 := ⟨gt_3 (List.mem_of_getElem? (i := 207) rfl) rfl, gt_p 20 rfl rfl, gt_1 (List.mem_of_getElem? (i := 15) rfl) rfl, gt_3 (List.mem_of_getElem? (i := 208) rfl) rfl, ⟨by decide +kernel, by decide +kernel, by decide +kernel⟩, ⟨_, _, rfl⟩, by decide⟩
theorem lk_X9_92 : Cond.methodLink RX9 92 yX9_laneBetween ∈ GT := gt_3 (List.mem_of_getElem? (i := 209) rfl) rfl
theorem lk_X11_92 : Cond.methodLink RX11 92 yX4_begin ∈ GT := gt_3 (List.mem_of_getElem? (i := 210) rfl) rfl
theorem mkX4_begin : MkV yX4_begin cX4_begin 3 none 1 4 := ⟨gt_3 (List.mem_of_getElem? (i := 211) rfl) rfl, gt_3 (List.mem_of_getElem? (i := 212) rfl) rfl, gt_1 (List.mem_of_getElem? (i := 9) rfl) rfl, gt_3 (List.mem_of_getElem? (i := 213) rfl) rfl, ⟨by decide +kernel, by decide +kernel, by decide +kernel⟩, ⟨_, _, rfl⟩, by decide⟩
theorem lk_X11_100 : Cond.methodLink RX11 100 yX5_forget ∈ GT := gt_3 (List.mem_of_getElem? (i := 214) rfl) rfl
theorem mkX5_forget : MkV yX5_forget cX5_forget 1 none 0 5 := ⟨gt_3 (List.mem_of_getElem? (i := 215) rfl) rfl, gt_3 (List.mem_of_getElem? (i := 216) rfl) rfl, gt_1 (List.mem_of_getElem? (i := 10) rfl) rfl, gt_3 (List.mem_of_getElem? (i := 217) rfl) rfl, ⟨by decide +kernel, by decide +kernel, by decide +kernel⟩, ⟨_, _, rfl⟩, by decide⟩
theorem lk_X11_103 : Cond.methodLink RX11 103 yX0_forget ∈ GT := gt_3 (List.mem_of_getElem? (i := 218) rfl) rfl
theorem mkX0_forget : MkV yX0_forget cX0_forget 1 none 0 0 := ⟨gt_3 (List.mem_of_getElem? (i := 219) rfl) rfl, gt_3 (List.mem_of_getElem? (i := 220) rfl) rfl, gt_1 (List.mem_of_getElem? (i := 14) rfl) rfl, gt_3 (List.mem_of_getElem? (i := 221) rfl) rfl, ⟨by decide +kernel, by decide +kernel, by decide +kernel⟩, ⟨_, _, rfl⟩, by decide⟩
theorem lk_L_35 : Cond.methodLink RL 35 yX11_evening ∈ GT := gt_3 (List.mem_of_getElem? (i := 222) rfl) rfl
theorem mkX11_evening : MkV yX11_evening cX11_evening 3 (some .int) 0 11 := ⟨gt_3 (List.mem_of_getElem? (i := 223) rfl) rfl, gt_3 (List.mem_of_getElem? (i := 224) rfl) rfl, gt_1 (List.mem_of_getElem? (i := 1) rfl) rfl, gt_3 (List.mem_of_getElem? (i := 225) rfl) rfl, ⟨by decide +kernel, by decide +kernel, by decide +kernel⟩, ⟨_, _, rfl⟩, by decide⟩
theorem lk_X11_108 : Cond.methodLink RX11 108 yX6_readEvening ∈ GT := gt_3 (List.mem_of_getElem? (i := 226) rfl) rfl
theorem mkX6_readEvening : MkV yX6_readEvening cX6_readEvening 4 (some .int) 2 6 := ⟨gt_3 (List.mem_of_getElem? (i := 227) rfl) rfl, gt_3 (List.mem_of_getElem? (i := 228) rfl) rfl, gt_1 (List.mem_of_getElem? (i := 3) rfl) rfl, gt_3 (List.mem_of_getElem? (i := 229) rfl) rfl, ⟨by decide +kernel, by decide +kernel, by decide +kernel⟩, ⟨_, _, rfl⟩, by decide⟩
theorem lk_X6_68 : Cond.methodLink RX6 68 yX6_readEveningLine ∈ GT := gt_3 (List.mem_of_getElem? (i := 230) rfl) rfl
theorem mkX6_readEveningLine : MkV yX6_readEveningLine cX6_readEveningLine 6 none 2 6 := ⟨gt_3 (List.mem_of_getElem? (i := 232) rfl) rfl, gt_p 21 rfl rfl, gt_1 (List.mem_of_getElem? (i := 3) rfl) rfl, gt_3 (List.mem_of_getElem? (i := 233) rfl) rfl, ⟨by decide +kernel, by decide +kernel, by decide +kernel⟩, ⟨_, _, rfl⟩, by decide⟩
theorem lk_X6_174 : Cond.methodLink RX6 174 yX6_readWalkerName ∈ GT := gt_3 (List.mem_of_getElem? (i := 234) rfl) rfl
theorem mkX6_readWalkerName : MkV yX6_readWalkerName cX6_readWalkerName 2 (some .int) 1 6 := ⟨gt_3 (List.mem_of_getElem? (i := 236) rfl) rfl, gt_p 22 rfl rfl, gt_1 (List.mem_of_getElem? (i := 3) rfl) rfl, gt_3 (List.mem_of_getElem? (i := 237) rfl) rfl, ⟨by decide +kernel, by decide +kernel, by decide +kernel⟩, ⟨_, _, rfl⟩, by decide⟩
theorem lk_X6_177 : Cond.methodLink RX6 177 yX2_add ∈ GT := gt_3 (List.mem_of_getElem? (i := 238) rfl) rfl
theorem mkX2_add : MkV yX2_add cX2_add 4 none 3 2 := ⟨gt_3 (List.mem_of_getElem? (i := 239) rfl) rfl, gt_4 (List.mem_of_getElem? (i := 0) rfl) rfl, gt_1 (List.mem_of_getElem? (i := 13) rfl) rfl, gt_4 (List.mem_of_getElem? (i := 1) rfl) rfl, ⟨by decide +kernel, by decide +kernel, by decide +kernel⟩, ⟨_, _, rfl⟩, by decide⟩
theorem lk_L_39 : Cond.methodLink RL 39 yX11_lane ∈ GT := gt_4 (List.mem_of_getElem? (i := 2) rfl) rfl
theorem mkX11_lane : MkV yX11_lane cX11_lane 3 (some .int) 2 11 := ⟨gt_4 (List.mem_of_getElem? (i := 3) rfl) rfl, gt_4 (List.mem_of_getElem? (i := 4) rfl) rfl, gt_1 (List.mem_of_getElem? (i := 1) rfl) rfl, gt_4 (List.mem_of_getElem? (i := 5) rfl) rfl, ⟨by decide +kernel, by decide +kernel, by decide +kernel⟩, ⟨_, _, rfl⟩, by decide⟩
theorem lk_X11_112 : Cond.methodLink RX11 112 yX9_hasLane ∈ GT := gt_4 (List.mem_of_getElem? (i := 6) rfl) rfl
theorem mkX9_hasLane : MkV yX9_hasLane cX9_hasLane 2 (some .boolean) 1 9 := ⟨gt_4 (List.mem_of_getElem? (i := 7) rfl) rfl, gt_4 (List.mem_of_getElem? (i := 8) rfl) rfl, gt_1 (List.mem_of_getElem? (i := 15) rfl) rfl, gt_4 (List.mem_of_getElem? (i := 9) rfl) rfl, ⟨by decide +kernel, by decide +kernel, by decide +kernel⟩, ⟨_, _, rfl⟩, by decide⟩
theorem lk_L_44 : Cond.methodLink RL 44 yX11_walker ∈ GT := gt_4 (List.mem_of_getElem? (i := 10) rfl) rfl
theorem mkX11_walker : MkV yX11_walker cX11_walker 3 (some .int) 2 11 := ⟨gt_4 (List.mem_of_getElem? (i := 11) rfl) rfl, gt_4 (List.mem_of_getElem? (i := 12) rfl) rfl, gt_1 (List.mem_of_getElem? (i := 1) rfl) rfl, gt_4 (List.mem_of_getElem? (i := 13) rfl) rfl, ⟨by decide +kernel, by decide +kernel, by decide +kernel⟩, ⟨_, _, rfl⟩, by decide⟩
theorem lk_X11_129 : Cond.methodLink RX11 129 yX9_hasWalker ∈ GT := gt_4 (List.mem_of_getElem? (i := 14) rfl) rfl
theorem mkX9_hasWalker : MkV yX9_hasWalker cX9_hasWalker 2 (some .boolean) 1 9 := ⟨gt_4 (List.mem_of_getElem? (i := 15) rfl) rfl, gt_4 (List.mem_of_getElem? (i := 16) rfl) rfl, gt_1 (List.mem_of_getElem? (i := 15) rfl) rfl, gt_4 (List.mem_of_getElem? (i := 17) rfl) rfl, ⟨by decide +kernel, by decide +kernel, by decide +kernel⟩, ⟨_, _, rfl⟩, by decide⟩
theorem lk_X11_135 : Cond.methodLink RX11 135 yX4_placeOf ∈ GT := gt_4 (List.mem_of_getElem? (i := 18) rfl) rfl
theorem mkX4_placeOf : MkV yX4_placeOf cX4_placeOf 4 (some .int) 2 4 := ⟨gt_4 (List.mem_of_getElem? (i := 19) rfl) rfl, gt_4 (List.mem_of_getElem? (i := 20) rfl) rfl, gt_1 (List.mem_of_getElem? (i := 9) rfl) rfl, gt_4 (List.mem_of_getElem? (i := 21) rfl) rfl, ⟨by decide +kernel, by decide +kernel, by decide +kernel⟩, ⟨_, _, rfl⟩, by decide⟩
theorem lk_X4_60 : Cond.methodLink RX4 60 yX9_firstLane ∈ GT := gt_4 (List.mem_of_getElem? (i := 22) rfl) rfl
theorem mkX9_firstLane : MkV yX9_firstLane cX9_firstLane 4 (some .int) 2 9 := ⟨gt_4 (List.mem_of_getElem? (i := 23) rfl) rfl, gt_4 (List.mem_of_getElem? (i := 24) rfl) rfl, gt_1 (List.mem_of_getElem? (i := 15) rfl) rfl, gt_4 (List.mem_of_getElem? (i := 25) rfl) rfl, ⟨by decide +kernel, by decide +kernel, by decide +kernel⟩, ⟨_, _, rfl⟩, by decide⟩
theorem lk_X4_71 : Cond.methodLink RX4 71 yX9_otherEnd ∈ GT := gt_4 (List.mem_of_getElem? (i := 26) rfl) rfl
theorem mkX9_otherEnd : MkV yX9_otherEnd cX9_otherEnd 3 (some .int) 2 9 := ⟨gt_4 (List.mem_of_getElem? (i := 27) rfl) rfl, gt_4 (List.mem_of_getElem? (i := 28) rfl) rfl, gt_1 (List.mem_of_getElem? (i := 15) rfl) rfl, gt_4 (List.mem_of_getElem? (i := 29) rfl) rfl, ⟨by decide +kernel, by decide +kernel, by decide +kernel⟩, ⟨_, _, rfl⟩, by decide⟩
theorem lk_X9_73 : Cond.methodLink RX9 73 yX9_hasLane ∈ GT := gt_4 (List.mem_of_getElem? (i := 30) rfl) rfl
theorem lk_X11_145 : Cond.methodLink RX11 145 yX4_isHome ∈ GT := gt_4 (List.mem_of_getElem? (i := 31) rfl) rfl
theorem mkX4_isHome : MkV yX4_isHome cX4_isHome 3 (some .boolean) 2 4 := ⟨gt_4 (List.mem_of_getElem? (i := 32) rfl) rfl, gt_4 (List.mem_of_getElem? (i := 33) rfl) rfl, gt_1 (List.mem_of_getElem? (i := 9) rfl) rfl, gt_4 (List.mem_of_getElem? (i := 34) rfl) rfl, ⟨by decide +kernel, by decide +kernel, by decide +kernel⟩, ⟨_, _, rfl⟩, by decide⟩
theorem lk_X11_149 : Cond.methodLink RX11 149 yX4_isOut ∈ GT := gt_4 (List.mem_of_getElem? (i := 35) rfl) rfl
theorem mkX4_isOut : MkV yX4_isOut cX4_isOut 3 (some .boolean) 2 4 := ⟨gt_4 (List.mem_of_getElem? (i := 36) rfl) rfl, gt_4 (List.mem_of_getElem? (i := 37) rfl) rfl, gt_1 (List.mem_of_getElem? (i := 9) rfl) rfl, gt_4 (List.mem_of_getElem? (i := 38) rfl) rfl, ⟨by decide +kernel, by decide +kernel, by decide +kernel⟩, ⟨_, _, rfl⟩, by decide⟩
theorem lk_X4_64 : Cond.methodLink RX4 64 yX4_isHome ∈ GT := gt_4 (List.mem_of_getElem? (i := 39) rfl) rfl
theorem lk_L_48 : Cond.methodLink RL 48 yX11_way ∈ GT := gt_4 (List.mem_of_getElem? (i := 40) rfl) rfl
theorem mkX11_way : MkV yX11_way cX11_way 3 (some .int) 2 11 := ⟨gt_4 (List.mem_of_getElem? (i := 41) rfl) rfl, gt_4 (List.mem_of_getElem? (i := 42) rfl) rfl, gt_1 (List.mem_of_getElem? (i := 1) rfl) rfl, gt_4 (List.mem_of_getElem? (i := 43) rfl) rfl, ⟨by decide +kernel, by decide +kernel, by decide +kernel⟩, ⟨_, _, rfl⟩, by decide⟩
theorem lk_X11_152 : Cond.methodLink RX11 152 yX9_lanesOfWay ∈ GT := gt_4 (List.mem_of_getElem? (i := 44) rfl) rfl
theorem lk_L_52 : Cond.methodLink RL 52 yX11_next ∈ GT := gt_4 (List.mem_of_getElem? (i := 45) rfl) rfl
theorem mkX11_next : MkV yX11_next cX11_next 2 (some .int) 1 11 := ⟨gt_4 (List.mem_of_getElem? (i := 46) rfl) rfl, gt_4 (List.mem_of_getElem? (i := 47) rfl) rfl, gt_1 (List.mem_of_getElem? (i := 1) rfl) rfl, gt_4 (List.mem_of_getElem? (i := 48) rfl) rfl, ⟨by decide +kernel, by decide +kernel, by decide +kernel⟩, ⟨_, _, rfl⟩, by decide⟩
theorem lk_X11_156 : Cond.methodLink RX11 156 yX4_laneAhead ∈ GT := gt_4 (List.mem_of_getElem? (i := 49) rfl) rfl
theorem mkX4_laneAhead : MkV yX4_laneAhead cX4_laneAhead 3 (some .int) 2 4 := ⟨gt_4 (List.mem_of_getElem? (i := 50) rfl) rfl, gt_4 (List.mem_of_getElem? (i := 51) rfl) rfl, gt_1 (List.mem_of_getElem? (i := 9) rfl) rfl, gt_4 (List.mem_of_getElem? (i := 52) rfl) rfl, ⟨by decide +kernel, by decide +kernel, by decide +kernel⟩, ⟨_, _, rfl⟩, by decide⟩
theorem lk_L_56 : Cond.methodLink RL 56 yX11_minute ∈ GT := gt_4 (List.mem_of_getElem? (i := 53) rfl) rfl
theorem mkX11_minute : MkV yX11_minute cX11_minute 1 (some .int) 0 11 := ⟨gt_4 (List.mem_of_getElem? (i := 54) rfl) rfl, gt_4 (List.mem_of_getElem? (i := 55) rfl) rfl, gt_1 (List.mem_of_getElem? (i := 1) rfl) rfl, gt_4 (List.mem_of_getElem? (i := 56) rfl) rfl, ⟨by decide +kernel, by decide +kernel, by decide +kernel⟩, ⟨_, _, rfl⟩, by decide⟩
theorem lk_X11_159 : Cond.methodLink RX11 159 yX11_keepPast ∈ GT := gt_4 (List.mem_of_getElem? (i := 57) rfl) rfl
theorem mkX11_keepPast : MkV yX11_keepPast cX11_keepPast 1 none 0 11 := ⟨gt_4 (List.mem_of_getElem? (i := 59) rfl) rfl, gt_p 23 rfl rfl, gt_1 (List.mem_of_getElem? (i := 1) rfl) rfl, gt_4 (List.mem_of_getElem? (i := 60) rfl) rfl, ⟨by decide +kernel, by decide +kernel, by decide +kernel⟩, ⟨_, _, rfl⟩, by decide⟩
theorem lk_X11_319 : Cond.methodLink RX11 319 yX5_keep ∈ GT := gt_4 (List.mem_of_getElem? (i := 61) rfl) rfl
theorem mkX5_keep : MkV yX5_keep cX5_keep 3 none 1 5 := ⟨gt_4 (List.mem_of_getElem? (i := 62) rfl) rfl, gt_4 (List.mem_of_getElem? (i := 63) rfl) rfl, gt_1 (List.mem_of_getElem? (i := 10) rfl) rfl, gt_4 (List.mem_of_getElem? (i := 64) rfl) rfl, ⟨by decide +kernel, by decide +kernel, by decide +kernel⟩, ⟨_, _, rfl⟩, by decide⟩
theorem lk_X5_23 : Cond.methodLink RX5 23 yX4_copyFrom ∈ GT := gt_4 (List.mem_of_getElem? (i := 65) rfl) rfl
theorem mkX4_copyFrom : MkV yX4_copyFrom cX4_copyFrom 2 none 1 4 := ⟨gt_4 (List.mem_of_getElem? (i := 66) rfl) rfl, gt_4 (List.mem_of_getElem? (i := 67) rfl) rfl, gt_1 (List.mem_of_getElem? (i := 9) rfl) rfl, gt_4 (List.mem_of_getElem? (i := 68) rfl) rfl, ⟨by decide +kernel, by decide +kernel, by decide +kernel⟩, ⟨_, _, rfl⟩, by decide⟩
theorem lk_X5_27 : Cond.methodLink RX5 27 yJ9_min_7cf53 ∈ GT := gt_4 (List.mem_of_getElem? (i := 72) rfl) rfl
theorem lk_X11_162 : Cond.methodLink RX11 162 yX4_pass ∈ GT := gt_4 (List.mem_of_getElem? (i := 73) rfl) rfl
theorem mkX4_pass : MkV yX4_pass cX4_pass 5 none 2 4 := ⟨gt_4 (List.mem_of_getElem? (i := 74) rfl) rfl, gt_4 (List.mem_of_getElem? (i := 75) rfl) rfl, gt_1 (List.mem_of_getElem? (i := 9) rfl) rfl, gt_4 (List.mem_of_getElem? (i := 76) rfl) rfl, ⟨by decide +kernel, by decide +kernel, by decide +kernel⟩, ⟨_, _, rfl⟩, by decide⟩
theorem lk_X4_80 : Cond.methodLink RX4 80 yX4_laneAhead ∈ GT := gt_4 (List.mem_of_getElem? (i := 77) rfl) rfl
theorem lk_X4_84 : Cond.methodLink RX4 84 yX9_hasLane ∈ GT := gt_4 (List.mem_of_getElem? (i := 78) rfl) rfl
theorem lk_X4_88 : Cond.methodLink RX4 88 yX4_goAlong ∈ GT := gt_4 (List.mem_of_getElem? (i := 79) rfl) rfl
theorem mkX4_goAlong : MkV yX4_goAlong cX4_goAlong 5 none 3 4 := ⟨gt_4 (List.mem_of_getElem? (i := 81) rfl) rfl, gt_p 24 rfl rfl, gt_1 (List.mem_of_getElem? (i := 9) rfl) rfl, gt_4 (List.mem_of_getElem? (i := 82) rfl) rfl, ⟨by decide +kernel, by decide +kernel, by decide +kernel⟩, ⟨_, _, rfl⟩, by decide⟩
theorem lk_X4_92 : Cond.methodLink RX4 92 yX4_lightUp ∈ GT := gt_4 (List.mem_of_getElem? (i := 83) rfl) rfl
theorem mkX4_lightUp : MkV yX4_lightUp cX4_lightUp 6 none 4 4 := ⟨gt_4 (List.mem_of_getElem? (i := 85) rfl) rfl, gt_p 25 rfl rfl, gt_1 (List.mem_of_getElem? (i := 9) rfl) rfl, gt_4 (List.mem_of_getElem? (i := 86) rfl) rfl, ⟨by decide +kernel, by decide +kernel, by decide +kernel⟩, ⟨_, _, rfl⟩, by decide⟩
theorem lk_X4_112 : Cond.methodLink RX4 112 yX1_tells ∈ GT := gt_4 (List.mem_of_getElem? (i := 87) rfl) rfl
theorem mkX1_tells : MkV yX1_tells cX1_tells 8 (some .int) 4 1 := ⟨gt_4 (List.mem_of_getElem? (i := 88) rfl) rfl, gt_4 (List.mem_of_getElem? (i := 89) rfl) rfl, gt_1 (List.mem_of_getElem? (i := 16) rfl) rfl, gt_4 (List.mem_of_getElem? (i := 90) rfl) rfl, ⟨by decide +kernel, by decide +kernel, by decide +kernel⟩, ⟨_, _, rfl⟩, by decide⟩
theorem lk_X1_23 : Cond.methodLink RX1 23 yJ9_min_7cf53 ∈ GT := gt_4 (List.mem_of_getElem? (i := 91) rfl) rfl
theorem lk_X1_29 : Cond.methodLink RX1 29 yX1_joined ∈ GT := gt_4 (List.mem_of_getElem? (i := 92) rfl) rfl
theorem mkX1_joined : MkS yX1_joined cX1_joined 3 (some .int) 3 := ⟨gt_4 (List.mem_of_getElem? (i := 93) rfl) rfl, gt_1 (List.mem_of_getElem? (i := 16) rfl) rfl, gt_4 (List.mem_of_getElem? (i := 94) rfl) rfl, ⟨by decide +kernel, by decide +kernel, by decide +kernel⟩, by decide⟩
theorem lk_X1_33 : Cond.methodLink RX1 33 yJ9_max_7cf53 ∈ GT := gt_4 (List.mem_of_getElem? (i := 95) rfl) rfl
theorem lk_X4_96 : Cond.methodLink RX4 96 yJ6_bitCount_0f7a4 ∈ GT := gt_4 (List.mem_of_getElem? (i := 96) rfl) rfl
theorem mkJ6_bitCount_0f7a4 : MkS yJ6_bitCount_0f7a4 cJ6_bitCount_0f7a4 1 (some .int) 1 := ⟨gt_4 (List.mem_of_getElem? (i := 97) rfl) rfl, gt_1 (List.mem_of_getElem? (i := 21) rfl) rfl, gt_4 (List.mem_of_getElem? (i := 98) rfl) rfl, ⟨by decide +kernel, by decide +kernel, by decide +kernel⟩, by decide⟩
theorem cn_J6_265 : Cond.constant RJ6 265 (1431655765) ∈ GT := gt_4 (List.mem_of_getElem? (i := 99) rfl) rfl
theorem cn_J6_266 : Cond.constant RJ6 266 (858993459) ∈ GT := gt_4 (List.mem_of_getElem? (i := 100) rfl) rfl
theorem cn_J6_267 : Cond.constant RJ6 267 (252645135) ∈ GT := gt_4 (List.mem_of_getElem? (i := 101) rfl) rfl
theorem lk_X11_169 : Cond.methodLink RX11 169 yJ6_bitCount_0f7a4 ∈ GT := gt_4 (List.mem_of_getElem? (i := 102) rfl) rfl
theorem lk_L_60 : Cond.methodLink RL 60 yX11_send ∈ GT := gt_4 (List.mem_of_getElem? (i := 103) rfl) rfl
theorem mkX11_send : MkV yX11_send cX11_send 4 (some .int) 2 11 := ⟨gt_4 (List.mem_of_getElem? (i := 104) rfl) rfl, gt_4 (List.mem_of_getElem? (i := 105) rfl) rfl, gt_1 (List.mem_of_getElem? (i := 1) rfl) rfl, gt_4 (List.mem_of_getElem? (i := 106) rfl) rfl, ⟨by decide +kernel, by decide +kernel, by decide +kernel⟩, ⟨_, _, rfl⟩, by decide⟩
theorem lk_X11_175 : Cond.methodLink RX11 175 yX9_laneBetween ∈ GT := gt_4 (List.mem_of_getElem? (i := 107) rfl) rfl
theorem lk_X11_178 : Cond.methodLink RX11 178 yX4_sendBoy ∈ GT := gt_4 (List.mem_of_getElem? (i := 108) rfl) rfl
theorem mkX4_sendBoy : MkV yX4_sendBoy cX4_sendBoy 3 none 2 4 := ⟨gt_4 (List.mem_of_getElem? (i := 109) rfl) rfl, gt_4 (List.mem_of_getElem? (i := 110) rfl) rfl, gt_1 (List.mem_of_getElem? (i := 9) rfl) rfl, gt_4 (List.mem_of_getElem? (i := 111) rfl) rfl, ⟨by decide +kernel, by decide +kernel, by decide +kernel⟩, ⟨_, _, rfl⟩, by decide⟩
theorem lk_L_64 : Cond.methodLink RL 64 yX11_waits ∈ GT := gt_4 (List.mem_of_getElem? (i := 112) rfl) rfl
theorem mkX11_waits : MkV yX11_waits cX11_waits 2 (some .int) 1 11 := ⟨gt_4 (List.mem_of_getElem? (i := 113) rfl) rfl, gt_4 (List.mem_of_getElem? (i := 114) rfl) rfl, gt_1 (List.mem_of_getElem? (i := 1) rfl) rfl, gt_4 (List.mem_of_getElem? (i := 115) rfl) rfl, ⟨by decide +kernel, by decide +kernel, by decide +kernel⟩, ⟨_, _, rfl⟩, by decide⟩
theorem lk_X11_181 : Cond.methodLink RX11 181 yX4_putOff ∈ GT := gt_4 (List.mem_of_getElem? (i := 116) rfl) rfl
theorem mkX4_putOff : MkV yX4_putOff cX4_putOff 2 none 1 4 := ⟨gt_4 (List.mem_of_getElem? (i := 117) rfl) rfl, gt_4 (List.mem_of_getElem? (i := 118) rfl) rfl, gt_1 (List.mem_of_getElem? (i := 9) rfl) rfl, gt_4 (List.mem_of_getElem? (i := 119) rfl) rfl, ⟨by decide +kernel, by decide +kernel, by decide +kernel⟩, ⟨_, _, rfl⟩, by decide⟩
theorem lk_X4_121 : Cond.methodLink RX4 121 yJ9_max_7cf53 ∈ GT := gt_4 (List.mem_of_getElem? (i := 120) rfl) rfl
theorem lk_L_68 : Cond.methodLink RL 68 yX11_back ∈ GT := gt_4 (List.mem_of_getElem? (i := 121) rfl) rfl
theorem mkX11_back : MkV yX11_back cX11_back 2 (some .boolean) 1 11 := ⟨gt_4 (List.mem_of_getElem? (i := 122) rfl) rfl, gt_4 (List.mem_of_getElem? (i := 123) rfl) rfl, gt_1 (List.mem_of_getElem? (i := 1) rfl) rfl, gt_4 (List.mem_of_getElem? (i := 124) rfl) rfl, ⟨by decide +kernel, by decide +kernel, by decide +kernel⟩, ⟨_, _, rfl⟩, by decide⟩
theorem lk_X11_185 : Cond.methodLink RX11 185 yX4_canTurn ∈ GT := gt_4 (List.mem_of_getElem? (i := 125) rfl) rfl
theorem mkX4_canTurn : MkV yX4_canTurn cX4_canTurn 3 (some .boolean) 2 4 := ⟨gt_4 (List.mem_of_getElem? (i := 126) rfl) rfl, gt_4 (List.mem_of_getElem? (i := 127) rfl) rfl, gt_1 (List.mem_of_getElem? (i := 9) rfl) rfl, gt_4 (List.mem_of_getElem? (i := 128) rfl) rfl, ⟨by decide +kernel, by decide +kernel, by decide +kernel⟩, ⟨_, _, rfl⟩, by decide⟩
theorem lk_X4_126 : Cond.methodLink RX4 126 yX4_isOut ∈ GT := gt_4 (List.mem_of_getElem? (i := 129) rfl) rfl
theorem lk_X11_188 : Cond.methodLink RX11 188 yX4_turn ∈ GT := gt_4 (List.mem_of_getElem? (i := 130) rfl) rfl
theorem mkX4_turn : MkV yX4_turn cX4_turn 3 none 2 4 := ⟨gt_4 (List.mem_of_getElem? (i := 131) rfl) rfl, gt_4 (List.mem_of_getElem? (i := 132) rfl) rfl, gt_1 (List.mem_of_getElem? (i := 9) rfl) rfl, gt_4 (List.mem_of_getElem? (i := 133) rfl) rfl, ⟨by decide +kernel, by decide +kernel, by decide +kernel⟩, ⟨_, _, rfl⟩, by decide⟩
theorem lk_L_73 : Cond.methodLink RL 73 yX11_undo ∈ GT := gt_4 (List.mem_of_getElem? (i := 134) rfl) rfl
theorem mkX11_undo : MkV yX11_undo cX11_undo 1 (some .boolean) 0 11 := ⟨gt_4 (List.mem_of_getElem? (i := 135) rfl) rfl, gt_4 (List.mem_of_getElem? (i := 136) rfl) rfl, gt_1 (List.mem_of_getElem? (i := 1) rfl) rfl, gt_4 (List.mem_of_getElem? (i := 137) rfl) rfl, ⟨by decide +kernel, by decide +kernel, by decide +kernel⟩, ⟨_, _, rfl⟩, by decide⟩
theorem lk_X11_191 : Cond.methodLink RX11 191 yX5_bringBack ∈ GT := gt_4 (List.mem_of_getElem? (i := 138) rfl) rfl
theorem mkX5_bringBack : MkV yX5_bringBack cX5_bringBack 3 (some .boolean) 1 5 := ⟨gt_4 (List.mem_of_getElem? (i := 139) rfl) rfl, gt_4 (List.mem_of_getElem? (i := 140) rfl) rfl, gt_1 (List.mem_of_getElem? (i := 10) rfl) rfl, gt_4 (List.mem_of_getElem? (i := 141) rfl) rfl, ⟨by decide +kernel, by decide +kernel, by decide +kernel⟩, ⟨_, _, rfl⟩, by decide⟩
theorem lk_L_78 : Cond.methodLink RL 78 yX11_judged ∈ GT := gt_4 (List.mem_of_getElem? (i := 142) rfl) rfl
theorem mkX11_judged : MkV yX11_judged cX11_judged 2 (some .int) 1 11 := ⟨gt_4 (List.mem_of_getElem? (i := 143) rfl) rfl, gt_4 (List.mem_of_getElem? (i := 144) rfl) rfl, gt_1 (List.mem_of_getElem? (i := 1) rfl) rfl, gt_4 (List.mem_of_getElem? (i := 145) rfl) rfl, ⟨by decide +kernel, by decide +kernel, by decide +kernel⟩, ⟨_, _, rfl⟩, by decide⟩
theorem lk_X11_195 : Cond.methodLink RX11 195 yX0_judge ∈ GT := gt_4 (List.mem_of_getElem? (i := 146) rfl) rfl
theorem mkX0_judge : MkV yX0_judge cX0_judge 9 (some .int) 3 0 := ⟨gt_4 (List.mem_of_getElem? (i := 147) rfl) rfl, gt_4 (List.mem_of_getElem? (i := 148) rfl) rfl, gt_1 (List.mem_of_getElem? (i := 14) rfl) rfl, gt_4 (List.mem_of_getElem? (i := 149) rfl) rfl, ⟨by decide +kernel, by decide +kernel, by decide +kernel⟩, ⟨_, _, rfl⟩, by decide⟩
theorem lk_X0_32 : Cond.methodLink RX0 32 yX4_begin ∈ GT := gt_4 (List.mem_of_getElem? (i := 150) rfl) rfl
theorem lk_X0_55 : Cond.methodLink RX0 55 yX4_obey ∈ GT := gt_4 (List.mem_of_getElem? (i := 151) rfl) rfl
theorem mkX4_obey : MkV yX4_obey cX4_obey 6 (some .boolean) 4 4 := ⟨gt_4 (List.mem_of_getElem? (i := 152) rfl) rfl, gt_4 (List.mem_of_getElem? (i := 153) rfl) rfl, gt_1 (List.mem_of_getElem? (i := 9) rfl) rfl, gt_4 (List.mem_of_getElem? (i := 154) rfl) rfl, ⟨by decide +kernel, by decide +kernel, by decide +kernel⟩, ⟨_, _, rfl⟩, by decide⟩
theorem lk_X4_131 : Cond.methodLink RX4 131 yX4_pass ∈ GT := gt_4 (List.mem_of_getElem? (i := 155) rfl) rfl
theorem lk_X4_135 : Cond.methodLink RX4 135 yX9_laneBetween ∈ GT := gt_4 (List.mem_of_getElem? (i := 156) rfl) rfl
theorem lk_X4_138 : Cond.methodLink RX4 138 yX4_sendBoy ∈ GT := gt_4 (List.mem_of_getElem? (i := 157) rfl) rfl
theorem lk_X4_141 : Cond.methodLink RX4 141 yX9_hasWalker ∈ GT := gt_4 (List.mem_of_getElem? (i := 158) rfl) rfl
theorem lk_X4_144 : Cond.methodLink RX4 144 yX4_putOff ∈ GT := gt_4 (List.mem_of_getElem? (i := 159) rfl) rfl
theorem lk_X4_148 : Cond.methodLink RX4 148 yX4_canTurn ∈ GT := gt_4 (List.mem_of_getElem? (i := 160) rfl) rfl
theorem lk_X4_151 : Cond.methodLink RX4 151 yX4_turn ∈ GT := gt_4 (List.mem_of_getElem? (i := 161) rfl) rfl
theorem lk_L_82 : Cond.methodLink RL 82 yX11_darks ∈ GT := gt_4 (List.mem_of_getElem? (i := 162) rfl) rfl
theorem mkX11_darks : MkV yX11_darks cX11_darks 2 (some .int) 1 11 := ⟨gt_4 (List.mem_of_getElem? (i := 163) rfl) rfl, gt_4 (List.mem_of_getElem? (i := 164) rfl) rfl, gt_1 (List.mem_of_getElem? (i := 1) rfl) rfl, gt_4 (List.mem_of_getElem? (i := 165) rfl) rfl, ⟨by decide +kernel, by decide +kernel, by decide +kernel⟩, ⟨_, _, rfl⟩, by decide⟩
theorem lk_X11_199 : Cond.methodLink RX11 199 yX0_darkTimesOf ∈ GT := gt_4 (List.mem_of_getElem? (i := 166) rfl) rfl
theorem mkX0_darkTimesOf : MkV yX0_darkTimesOf cX0_darkTimesOf 6 (some .int) 3 0 := ⟨gt_4 (List.mem_of_getElem? (i := 167) rfl) rfl, gt_4 (List.mem_of_getElem? (i := 168) rfl) rfl, gt_1 (List.mem_of_getElem? (i := 14) rfl) rfl, gt_4 (List.mem_of_getElem? (i := 169) rfl) rfl, ⟨by decide +kernel, by decide +kernel, by decide +kernel⟩, ⟨_, _, rfl⟩, by decide⟩
theorem lk_X0_59 : Cond.methodLink RX0 59 yX4_copyFrom ∈ GT := gt_4 (List.mem_of_getElem? (i := 170) rfl) rfl
theorem lk_X0_63 : Cond.methodLink RX0 63 yX4_isAllHome ∈ GT := gt_4 (List.mem_of_getElem? (i := 171) rfl) rfl
theorem mkX4_isAllHome : MkV yX4_isAllHome cX4_isAllHome 3 (some .boolean) 1 4 := ⟨gt_4 (List.mem_of_getElem? (i := 172) rfl) rfl, gt_4 (List.mem_of_getElem? (i := 173) rfl) rfl, gt_1 (List.mem_of_getElem? (i := 9) rfl) rfl, gt_4 (List.mem_of_getElem? (i := 174) rfl) rfl, ⟨by decide +kernel, by decide +kernel, by decide +kernel⟩, ⟨_, _, rfl⟩, by decide⟩
theorem lk_X0_67 : Cond.methodLink RX0 67 yX4_pass ∈ GT := gt_4 (List.mem_of_getElem? (i := 175) rfl) rfl
theorem lk_L_86 : Cond.methodLink RL 86 yX11_home ∈ GT := gt_4 (List.mem_of_getElem? (i := 176) rfl) rfl
theorem mkX11_home : MkV yX11_home cX11_home 2 (some .int) 1 11 := ⟨gt_4 (List.mem_of_getElem? (i := 177) rfl) rfl, gt_4 (List.mem_of_getElem? (i := 178) rfl) rfl, gt_1 (List.mem_of_getElem? (i := 1) rfl) rfl, gt_4 (List.mem_of_getElem? (i := 179) rfl) rfl, ⟨by decide +kernel, by decide +kernel, by decide +kernel⟩, ⟨_, _, rfl⟩, by decide⟩
theorem lk_X11_203 : Cond.methodLink RX11 203 yX0_minutesTillHome ∈ GT := gt_4 (List.mem_of_getElem? (i := 180) rfl) rfl
theorem mkX0_minutesTillHome : MkV yX0_minutesTillHome cX0_minutesTillHome 5 (some .int) 3 0 := ⟨gt_4 (List.mem_of_getElem? (i := 181) rfl) rfl, gt_4 (List.mem_of_getElem? (i := 182) rfl) rfl, gt_1 (List.mem_of_getElem? (i := 14) rfl) rfl, gt_4 (List.mem_of_getElem? (i := 183) rfl) rfl, ⟨by decide +kernel, by decide +kernel, by decide +kernel⟩, ⟨_, _, rfl⟩, by decide⟩
theorem lk_X0_74 : Cond.methodLink RX0 74 yX4_isHome ∈ GT := gt_4 (List.mem_of_getElem? (i := 184) rfl) rfl
theorem lk_L_90 : Cond.methodLink RL 90 yX11_glow ∈ GT := gt_4 (List.mem_of_getElem? (i := 185) rfl) rfl
theorem mkX11_glow : MkV yX11_glow cX11_glow 1 (some .int) 0 11 := ⟨gt_4 (List.mem_of_getElem? (i := 186) rfl) rfl, gt_4 (List.mem_of_getElem? (i := 187) rfl) rfl, gt_1 (List.mem_of_getElem? (i := 1) rfl) rfl, gt_4 (List.mem_of_getElem? (i := 188) rfl) rfl, ⟨by decide +kernel, by decide +kernel, by decide +kernel⟩, ⟨_, _, rfl⟩, by decide⟩
theorem lk_X11_206 : Cond.methodLink RX11 206 yX0_brightest ∈ GT := gt_4 (List.mem_of_getElem? (i := 189) rfl) rfl
theorem mkX0_brightest : MkV yX0_brightest cX0_brightest 7 (some .int) 2 0 := ⟨gt_4 (List.mem_of_getElem? (i := 190) rfl) rfl, gt_4 (List.mem_of_getElem? (i := 191) rfl) rfl, gt_1 (List.mem_of_getElem? (i := 14) rfl) rfl, gt_4 (List.mem_of_getElem? (i := 192) rfl) rfl, ⟨by decide +kernel, by decide +kernel, by decide +kernel⟩, ⟨_, _, rfl⟩, by decide⟩
theorem lk_X0_81 : Cond.methodLink RX0 81 yX4_litBits ∈ GT := gt_4 (List.mem_of_getElem? (i := 193) rfl) rfl
theorem mkX4_litBits : MkV yX4_litBits cX4_litBits 4 (some .int) 1 4 := ⟨gt_4 (List.mem_of_getElem? (i := 194) rfl) rfl, gt_4 (List.mem_of_getElem? (i := 195) rfl) rfl, gt_1 (List.mem_of_getElem? (i := 9) rfl) rfl, gt_4 (List.mem_of_getElem? (i := 196) rfl) rfl, ⟨by decide +kernel, by decide +kernel, by decide +kernel⟩, ⟨_, _, rfl⟩, by decide⟩
theorem lk_X0_85 : Cond.methodLink RX0 85 yJ6_bitCount_0f7a4 ∈ GT := gt_4 (List.mem_of_getElem? (i := 197) rfl) rfl
theorem lk_L_94 : Cond.methodLink RL 94 yX11_burns ∈ GT := gt_4 (List.mem_of_getElem? (i := 198) rfl) rfl
theorem mkX11_burns : MkV yX11_burns cX11_burns 3 (some .int) 2 11 := ⟨gt_4 (List.mem_of_getElem? (i := 199) rfl) rfl, gt_4 (List.mem_of_getElem? (i := 200) rfl) rfl, gt_1 (List.mem_of_getElem? (i := 1) rfl) rfl, gt_4 (List.mem_of_getElem? (i := 201) rfl) rfl, ⟨by decide +kernel, by decide +kernel, by decide +kernel⟩, ⟨_, _, rfl⟩, by decide⟩
theorem lk_X11_210 : Cond.methodLink RX11 210 yX0_litBehind ∈ GT := gt_4 (List.mem_of_getElem? (i := 202) rfl) rfl
theorem mkX0_litBehind : MkV yX0_litBehind cX0_litBehind 6 (some .int) 4 0 := ⟨gt_4 (List.mem_of_getElem? (i := 203) rfl) rfl, gt_4 (List.mem_of_getElem? (i := 204) rfl) rfl, gt_1 (List.mem_of_getElem? (i := 14) rfl) rfl, gt_4 (List.mem_of_getElem? (i := 205) rfl) rfl, ⟨by decide +kernel, by decide +kernel, by decide +kernel⟩, ⟨_, _, rfl⟩, by decide⟩
theorem lk_L_98 : Cond.methodLink RL 98 yX11_delay ∈ GT := gt_4 (List.mem_of_getElem? (i := 206) rfl) rfl
theorem mkX11_delay : MkV yX11_delay cX11_delay 2 (some .int) 1 11 := ⟨gt_4 (List.mem_of_getElem? (i := 207) rfl) rfl, gt_4 (List.mem_of_getElem? (i := 208) rfl) rfl, gt_1 (List.mem_of_getElem? (i := 1) rfl) rfl, gt_4 (List.mem_of_getElem? (i := 209) rfl) rfl, ⟨by decide +kernel, by decide +kernel, by decide +kernel⟩, ⟨_, _, rfl⟩, by decide⟩
theorem lk_X11_214 : Cond.methodLink RX11 214 yX0_findDelays ∈ GT := gt_4 (List.mem_of_getElem? (i := 210) rfl) rfl
theorem mkX0_findDelays : MkV yX0_findDelays cX0_findDelays 6 none 2 0 := ⟨gt_4 (List.mem_of_getElem? (i := 211) rfl) rfl, gt_4 (List.mem_of_getElem? (i := 212) rfl) rfl, gt_1 (List.mem_of_getElem? (i := 14) rfl) rfl, gt_4 (List.mem_of_getElem? (i := 213) rfl) rfl, ⟨by decide +kernel, by decide +kernel, by decide +kernel⟩, ⟨_, _, rfl⟩, by decide⟩
theorem lk_X0_94 : Cond.methodLink RX0 94 yX4_homeBits ∈ GT := gt_4 (List.mem_of_getElem? (i := 214) rfl) rfl
theorem mkX4_homeBits : MkV yX4_homeBits cX4_homeBits 4 (some .int) 1 4 := ⟨gt_4 (List.mem_of_getElem? (i := 215) rfl) rfl, gt_4 (List.mem_of_getElem? (i := 216) rfl) rfl, gt_1 (List.mem_of_getElem? (i := 9) rfl) rfl, gt_4 (List.mem_of_getElem? (i := 217) rfl) rfl, ⟨by decide +kernel, by decide +kernel, by decide +kernel⟩, ⟨_, _, rfl⟩, by decide⟩
theorem cn_X0_102 : Cond.constant RX0 102 (1000000) ∈ GT := gt_4 (List.mem_of_getElem? (i := 218) rfl) rfl
theorem lk_X0_109 : Cond.methodLink RX0 109 yX0_tryRow ∈ GT := gt_4 (List.mem_of_getElem? (i := 219) rfl) rfl
theorem mkX0_tryRow : MkV yX0_tryRow cX0_tryRow 8 none 4 0 := ⟨gt_4 (List.mem_of_getElem? (i := 221) rfl) rfl, gt_p 26 rfl rfl, gt_1 (List.mem_of_getElem? (i := 14) rfl) rfl, gt_4 (List.mem_of_getElem? (i := 222) rfl) rfl, ⟨by decide +kernel, by decide +kernel, by decide +kernel⟩, ⟨_, _, rfl⟩, by decide⟩
theorem lk_X0_113 : Cond.methodLink RX0 113 yX0_layRow ∈ GT := gt_4 (List.mem_of_getElem? (i := 223) rfl) rfl
theorem mkX0_layRow : MkV yX0_layRow cX0_layRow 7 (some .int) 3 0 := ⟨gt_4 (List.mem_of_getElem? (i := 225) rfl) rfl, gt_p 27 rfl rfl, gt_1 (List.mem_of_getElem? (i := 14) rfl) rfl, gt_4 (List.mem_of_getElem? (i := 226) rfl) rfl, ⟨by decide +kernel, by decide +kernel, by decide +kernel⟩, ⟨_, _, rfl⟩, by decide⟩
theorem lk_X0_117 : Cond.methodLink RX0 117 yX4_putOff ∈ GT := gt_4 (List.mem_of_getElem? (i := 227) rfl) rfl
theorem lk_X0_121 : Cond.methodLink RX0 121 yX0_darkTimesOfAll ∈ GT := gt_4 (List.mem_of_getElem? (i := 228) rfl) rfl
theorem mkX0_darkTimesOfAll : MkV yX0_darkTimesOfAll cX0_darkTimesOfAll 6 (some .int) 3 0 := ⟨gt_4 (List.mem_of_getElem? (i := 230) rfl) rfl, gt_p 28 rfl rfl, gt_1 (List.mem_of_getElem? (i := 14) rfl) rfl, gt_4 (List.mem_of_getElem? (i := 231) rfl) rfl, ⟨by decide +kernel, by decide +kernel, by decide +kernel⟩, ⟨_, _, rfl⟩, by decide⟩
theorem lk_L_102 : Cond.methodLink RL 102 yX11_boys ∈ GT := gt_4 (List.mem_of_getElem? (i := 232) rfl) rfl
theorem mkX11_boys : MkV yX11_boys cX11_boys 1 (some .int) 0 11 := ⟨gt_4 (List.mem_of_getElem? (i := 233) rfl) rfl, gt_4 (List.mem_of_getElem? (i := 234) rfl) rfl, gt_1 (List.mem_of_getElem? (i := 1) rfl) rfl, gt_4 (List.mem_of_getElem? (i := 235) rfl) rfl, ⟨by decide +kernel, by decide +kernel, by decide +kernel⟩, ⟨_, _, rfl⟩, by decide⟩
theorem lk_X11_224 : Cond.methodLink RX11 224 yX0_fewestBoys ∈ GT := gt_4 (List.mem_of_getElem? (i := 236) rfl) rfl
theorem mkX0_fewestBoys : MkV yX0_fewestBoys cX0_fewestBoys 6 (some .int) 2 0 := ⟨gt_4 (List.mem_of_getElem? (i := 237) rfl) rfl, gt_4 (List.mem_of_getElem? (i := 238) rfl) rfl, gt_1 (List.mem_of_getElem? (i := 14) rfl) rfl, gt_4 (List.mem_of_getElem? (i := 239) rfl) rfl, ⟨by decide +kernel, by decide +kernel, by decide +kernel⟩, ⟨_, _, rfl⟩, by decide⟩
theorem lk_X0_127 : Cond.methodLink RX0 127 yX0_isLightEnough ∈ GT := gt_5 (List.mem_of_getElem? (i := 0) rfl) rfl
theorem mkX0_isLightEnough : MkV yX0_isLightEnough cX0_isLightEnough 5 (some .boolean) 3 0 := ⟨gt_5 (List.mem_of_getElem? (i := 2) rfl) rfl, gt_p 29 rfl rfl, gt_1 (List.mem_of_getElem? (i := 14) rfl) rfl, gt_5 (List.mem_of_getElem? (i := 3) rfl) rfl, ⟨by decide +kernel, by decide +kernel, by decide +kernel⟩, ⟨_, _, rfl⟩, by decide⟩
theorem lk_X0_131 : Cond.methodLink RX0 131 yX4_sendBoy ∈ GT := gt_5 (List.mem_of_getElem? (i := 4) rfl) rfl
theorem lk_L_106 : Cond.methodLink RL 106 yX11_alarm ∈ GT := gt_5 (List.mem_of_getElem? (i := 5) rfl) rfl
theorem mkX11_alarm : MkV yX11_alarm cX11_alarm 4 (some .int) 0 11 := ⟨gt_5 (List.mem_of_getElem? (i := 6) rfl) rfl, gt_5 (List.mem_of_getElem? (i := 7) rfl) rfl, gt_1 (List.mem_of_getElem? (i := 1) rfl) rfl, gt_5 (List.mem_of_getElem? (i := 8) rfl) rfl, ⟨by decide +kernel, by decide +kernel, by decide +kernel⟩, ⟨_, _, rfl⟩, by decide⟩
theorem lk_X11_230 : Cond.methodLink RX11 230 yX4_litBits ∈ GT := gt_5 (List.mem_of_getElem? (i := 9) rfl) rfl
theorem lk_L_110 : Cond.methodLink RL 110 yX11_blind ∈ GT := gt_5 (List.mem_of_getElem? (i := 10) rfl) rfl
theorem mkX11_blind : MkV yX11_blind cX11_blind 1 (some .int) 0 11 := ⟨gt_5 (List.mem_of_getElem? (i := 11) rfl) rfl, gt_5 (List.mem_of_getElem? (i := 12) rfl) rfl, gt_1 (List.mem_of_getElem? (i := 1) rfl) rfl, gt_5 (List.mem_of_getElem? (i := 13) rfl) rfl, ⟨by decide +kernel, by decide +kernel, by decide +kernel⟩, ⟨_, _, rfl⟩, by decide⟩
theorem lk_X11_233 : Cond.methodLink RX11 233 yX0_neverWalked ∈ GT := gt_5 (List.mem_of_getElem? (i := 14) rfl) rfl
theorem mkX0_neverWalked : MkV yX0_neverWalked cX0_neverWalked 5 (some .int) 2 0 := ⟨gt_5 (List.mem_of_getElem? (i := 15) rfl) rfl, gt_5 (List.mem_of_getElem? (i := 16) rfl) rfl, gt_1 (List.mem_of_getElem? (i := 14) rfl) rfl, gt_5 (List.mem_of_getElem? (i := 17) rfl) rfl, ⟨by decide +kernel, by decide +kernel, by decide +kernel⟩, ⟨_, _, rfl⟩, by decide⟩
theorem lk_L_114 : Cond.methodLink RL 114 yX11_meet ∈ GT := gt_5 (List.mem_of_getElem? (i := 18) rfl) rfl
theorem mkX11_meet : MkV yX11_meet cX11_meet 3 (some .int) 2 11 := ⟨gt_5 (List.mem_of_getElem? (i := 19) rfl) rfl, gt_5 (List.mem_of_getElem? (i := 20) rfl) rfl, gt_1 (List.mem_of_getElem? (i := 1) rfl) rfl, gt_5 (List.mem_of_getElem? (i := 21) rfl) rfl, ⟨by decide +kernel, by decide +kernel, by decide +kernel⟩, ⟨_, _, rfl⟩, by decide⟩
theorem lk_X11_236 : Cond.methodLink RX11 236 yX0_minutesTillMet ∈ GT := gt_5 (List.mem_of_getElem? (i := 22) rfl) rfl
theorem mkX0_minutesTillMet : MkV yX0_minutesTillMet cX0_minutesTillMet 6 (some .int) 4 0 := ⟨gt_5 (List.mem_of_getElem? (i := 23) rfl) rfl, gt_5 (List.mem_of_getElem? (i := 24) rfl) rfl, gt_1 (List.mem_of_getElem? (i := 14) rfl) rfl, gt_5 (List.mem_of_getElem? (i := 25) rfl) rfl, ⟨by decide +kernel, by decide +kernel, by decide +kernel⟩, ⟨_, _, rfl⟩, by decide⟩
theorem lk_X0_137 : Cond.methodLink RX0 137 yX0_areTogether ∈ GT := gt_5 (List.mem_of_getElem? (i := 26) rfl) rfl
theorem mkX0_areTogether : MkV yX0_areTogether cX0_areTogether 4 (some .boolean) 3 0 := ⟨gt_5 (List.mem_of_getElem? (i := 28) rfl) rfl, gt_p 30 rfl rfl, gt_1 (List.mem_of_getElem? (i := 14) rfl) rfl, gt_5 (List.mem_of_getElem? (i := 29) rfl) rfl, ⟨by decide +kernel, by decide +kernel, by decide +kernel⟩, ⟨_, _, rfl⟩, by decide⟩
theorem lk_X0_141 : Cond.methodLink RX0 141 yX4_isOut ∈ GT := gt_5 (List.mem_of_getElem? (i := 30) rfl) rfl
theorem lk_X0_144 : Cond.methodLink RX0 144 yX4_placeOf ∈ GT := gt_5 (List.mem_of_getElem? (i := 31) rfl) rfl
theorem lk_L_118 : Cond.methodLink RL 118 yX11_thief ∈ GT := gt_5 (List.mem_of_getElem? (i := 32) rfl) rfl
theorem mkX11_thief : MkV yX11_thief cX11_thief 1 (some .int) 0 11 := ⟨gt_5 (List.mem_of_getElem? (i := 33) rfl) rfl, gt_5 (List.mem_of_getElem? (i := 34) rfl) rfl, gt_1 (List.mem_of_getElem? (i := 1) rfl) rfl, gt_5 (List.mem_of_getElem? (i := 35) rfl) rfl, ⟨by decide +kernel, by decide +kernel, by decide +kernel⟩, ⟨_, _, rfl⟩, by decide⟩
theorem lk_X11_239 : Cond.methodLink RX11 239 yX0_bestFollowed ∈ GT := gt_5 (List.mem_of_getElem? (i := 36) rfl) rfl
theorem mkX0_bestFollowed : MkV yX0_bestFollowed cX0_bestFollowed 11 (some .int) 2 0 := ⟨gt_5 (List.mem_of_getElem? (i := 37) rfl) rfl, gt_5 (List.mem_of_getElem? (i := 38) rfl) rfl, gt_1 (List.mem_of_getElem? (i := 14) rfl) rfl, gt_5 (List.mem_of_getElem? (i := 39) rfl) rfl, ⟨by decide +kernel, by decide +kernel, by decide +kernel⟩, ⟨_, _, rfl⟩, by decide⟩
theorem lk_L_122 : Cond.methodLink RL 122 yX11_watch ∈ GT := gt_5 (List.mem_of_getElem? (i := 40) rfl) rfl
theorem mkX11_watch : MkV yX11_watch cX11_watch 4 (some .boolean) 3 11 := ⟨gt_5 (List.mem_of_getElem? (i := 41) rfl) rfl, gt_5 (List.mem_of_getElem? (i := 42) rfl) rfl, gt_1 (List.mem_of_getElem? (i := 1) rfl) rfl, gt_5 (List.mem_of_getElem? (i := 43) rfl) rfl, ⟨by decide +kernel, by decide +kernel, by decide +kernel⟩, ⟨_, _, rfl⟩, by decide⟩
theorem lk_X11_242 : Cond.methodLink RX11 242 yX10_add ∈ GT := gt_5 (List.mem_of_getElem? (i := 44) rfl) rfl
theorem mkX10_add : MkV yX10_add cX10_add 4 (some .boolean) 3 10 := ⟨gt_5 (List.mem_of_getElem? (i := 45) rfl) rfl, gt_5 (List.mem_of_getElem? (i := 46) rfl) rfl, gt_1 (List.mem_of_getElem? (i := 11) rfl) rfl, gt_5 (List.mem_of_getElem? (i := 47) rfl) rfl, ⟨by decide +kernel, by decide +kernel, by decide +kernel⟩, ⟨_, _, rfl⟩, by decide⟩
theorem lk_L_127 : Cond.methodLink RL 127 yX11_sets ∈ GT := gt_5 (List.mem_of_getElem? (i := 48) rfl) rfl
theorem mkX11_sets : MkV yX11_sets cX11_sets 2 (some .int) 1 11 := ⟨gt_5 (List.mem_of_getElem? (i := 49) rfl) rfl, gt_5 (List.mem_of_getElem? (i := 50) rfl) rfl, gt_1 (List.mem_of_getElem? (i := 1) rfl) rfl, gt_5 (List.mem_of_getElem? (i := 51) rfl) rfl, ⟨by decide +kernel, by decide +kernel, by decide +kernel⟩, ⟨_, _, rfl⟩, by decide⟩
theorem lk_X11_246 : Cond.methodLink RX11 246 yX0_fittingSets ∈ GT := gt_5 (List.mem_of_getElem? (i := 52) rfl) rfl
theorem mkX0_fittingSets : MkV yX0_fittingSets cX0_fittingSets 10 (some .int) 4 0 := ⟨gt_5 (List.mem_of_getElem? (i := 53) rfl) rfl, gt_5 (List.mem_of_getElem? (i := 54) rfl) rfl, gt_1 (List.mem_of_getElem? (i := 14) rfl) rfl, gt_5 (List.mem_of_getElem? (i := 55) rfl) rfl, ⟨by decide +kernel, by decide +kernel, by decide +kernel⟩, ⟨_, _, rfl⟩, by decide⟩
theorem lk_X0_148 : Cond.methodLink RX0 148 yX0_litBySet ∈ GT := gt_5 (List.mem_of_getElem? (i := 56) rfl) rfl
theorem mkX0_litBySet : MkV yX0_litBySet cX0_litBySet 10 (some .int) 5 0 := ⟨gt_5 (List.mem_of_getElem? (i := 58) rfl) rfl, gt_p 31 rfl rfl, gt_1 (List.mem_of_getElem? (i := 14) rfl) rfl, gt_5 (List.mem_of_getElem? (i := 59) rfl) rfl, ⟨by decide +kernel, by decide +kernel, by decide +kernel⟩, ⟨_, _, rfl⟩, by decide⟩
theorem lk_X0_158 : Cond.methodLink RX0 158 yX4_bringHome ∈ GT := gt_5 (List.mem_of_getElem? (i := 60) rfl) rfl
theorem mkX4_bringHome : MkV yX4_bringHome cX4_bringHome 2 none 1 4 := ⟨gt_5 (List.mem_of_getElem? (i := 61) rfl) rfl, gt_5 (List.mem_of_getElem? (i := 62) rfl) rfl, gt_1 (List.mem_of_getElem? (i := 9) rfl) rfl, gt_5 (List.mem_of_getElem? (i := 63) rfl) rfl, ⟨by decide +kernel, by decide +kernel, by decide +kernel⟩, ⟨_, _, rfl⟩, by decide⟩
theorem lk_X0_161 : Cond.methodLink RX0 161 yX10_lastMinute ∈ GT := gt_5 (List.mem_of_getElem? (i := 64) rfl) rfl
theorem mkX10_lastMinute : MkV yX10_lastMinute cX10_lastMinute 3 (some .int) 0 10 := ⟨gt_5 (List.mem_of_getElem? (i := 65) rfl) rfl, gt_5 (List.mem_of_getElem? (i := 66) rfl) rfl, gt_1 (List.mem_of_getElem? (i := 11) rfl) rfl, gt_5 (List.mem_of_getElem? (i := 67) rfl) rfl, ⟨by decide +kernel, by decide +kernel, by decide +kernel⟩, ⟨_, _, rfl⟩, by decide⟩
theorem lk_X10_24 : Cond.methodLink RX10 24 yJ9_max_7cf53 ∈ GT := gt_5 (List.mem_of_getElem? (i := 68) rfl) rfl
theorem lk_X0_152 : Cond.methodLink RX0 152 yJ9_max_7cf53 ∈ GT := gt_5 (List.mem_of_getElem? (i := 69) rfl) rfl
theorem lk_X0_167 : Cond.methodLink RX0 167 yX10_isSo ∈ GT := gt_5 (List.mem_of_getElem? (i := 70) rfl) rfl
theorem mkX10_isSo : MkV yX10_isSo cX10_isSo 5 (some .boolean) 2 10 := ⟨gt_5 (List.mem_of_getElem? (i := 71) rfl) rfl, gt_5 (List.mem_of_getElem? (i := 72) rfl) rfl, gt_1 (List.mem_of_getElem? (i := 11) rfl) rfl, gt_5 (List.mem_of_getElem? (i := 73) rfl) rfl, ⟨by decide +kernel, by decide +kernel, by decide +kernel⟩, ⟨_, _, rfl⟩, by decide⟩
theorem lk_L_131 : Cond.methodLink RL 131 yX11_look ∈ GT := gt_5 (List.mem_of_getElem? (i := 74) rfl) rfl
theorem mkX11_look : MkV yX11_look cX11_look 2 (some .int) 1 11 := ⟨gt_5 (List.mem_of_getElem? (i := 75) rfl) rfl, gt_5 (List.mem_of_getElem? (i := 76) rfl) rfl, gt_1 (List.mem_of_getElem? (i := 1) rfl) rfl, gt_5 (List.mem_of_getElem? (i := 77) rfl) rfl, ⟨by decide +kernel, by decide +kernel, by decide +kernel⟩, ⟨_, _, rfl⟩, by decide⟩
theorem lk_X11_250 : Cond.methodLink RX11 250 yX0_laneToWatch ∈ GT := gt_5 (List.mem_of_getElem? (i := 78) rfl) rfl
theorem mkX0_laneToWatch : MkV yX0_laneToWatch cX0_laneToWatch 11 (some .int) 4 0 := ⟨gt_5 (List.mem_of_getElem? (i := 79) rfl) rfl, gt_5 (List.mem_of_getElem? (i := 80) rfl) rfl, gt_1 (List.mem_of_getElem? (i := 14) rfl) rfl, gt_5 (List.mem_of_getElem? (i := 81) rfl) rfl, ⟨by decide +kernel, by decide +kernel, by decide +kernel⟩, ⟨_, _, rfl⟩, by decide⟩
theorem lk_L_135 : Cond.methodLink RL 135 yX11_oil ∈ GT := gt_5 (List.mem_of_getElem? (i := 82) rfl) rfl
theorem mkX11_oil : MkV yX11_oil cX11_oil 1 (some .int) 0 11 := ⟨gt_5 (List.mem_of_getElem? (i := 83) rfl) rfl, gt_5 (List.mem_of_getElem? (i := 84) rfl) rfl, gt_1 (List.mem_of_getElem? (i := 1) rfl) rfl, gt_5 (List.mem_of_getElem? (i := 85) rfl) rfl, ⟨by decide +kernel, by decide +kernel, by decide +kernel⟩, ⟨_, _, rfl⟩, by decide⟩
theorem lk_X11_253 : Cond.methodLink RX11 253 yX0_oilWithout ∈ GT := gt_5 (List.mem_of_getElem? (i := 86) rfl) rfl
theorem mkX0_oilWithout : MkV yX0_oilWithout cX0_oilWithout 4 (some .int) 3 0 := ⟨gt_5 (List.mem_of_getElem? (i := 87) rfl) rfl, gt_5 (List.mem_of_getElem? (i := 88) rfl) rfl, gt_1 (List.mem_of_getElem? (i := 14) rfl) rfl, gt_5 (List.mem_of_getElem? (i := 89) rfl) rfl, ⟨by decide +kernel, by decide +kernel, by decide +kernel⟩, ⟨_, _, rfl⟩, by decide⟩
theorem lk_X0_171 : Cond.methodLink RX0 171 yX0_oilToTheEnd ∈ GT := gt_5 (List.mem_of_getElem? (i := 90) rfl) rfl
theorem mkX0_oilToTheEnd : MkV yX0_oilToTheEnd cX0_oilToTheEnd 4 (some .int) 1 0 := ⟨gt_5 (List.mem_of_getElem? (i := 92) rfl) rfl, gt_p 32 rfl rfl, gt_1 (List.mem_of_getElem? (i := 14) rfl) rfl, gt_5 (List.mem_of_getElem? (i := 93) rfl) rfl, ⟨by decide +kernel, by decide +kernel, by decide +kernel⟩, ⟨_, _, rfl⟩, by decide⟩
theorem lk_L_148 : Cond.methodLink RL 148 yX11_longer ∈ GT := gt_5 (List.mem_of_getElem? (i := 94) rfl) rfl
theorem mkX11_longer : MkV yX11_longer cX11_longer 2 (some .int) 1 11 := ⟨gt_5 (List.mem_of_getElem? (i := 95) rfl) rfl, gt_5 (List.mem_of_getElem? (i := 96) rfl) rfl, gt_1 (List.mem_of_getElem? (i := 1) rfl) rfl, gt_5 (List.mem_of_getElem? (i := 97) rfl) rfl, ⟨by decide +kernel, by decide +kernel, by decide +kernel⟩, ⟨_, _, rfl⟩, by decide⟩
theorem lk_X11_263 : Cond.methodLink RX11 263 yX0_darkTimesIfLonger ∈ GT := gt_5 (List.mem_of_getElem? (i := 98) rfl) rfl
theorem mkX0_darkTimesIfLonger : MkV yX0_darkTimesIfLonger cX0_darkTimesIfLonger 4 (some .int) 3 0 := ⟨gt_5 (List.mem_of_getElem? (i := 99) rfl) rfl, gt_5 (List.mem_of_getElem? (i := 100) rfl) rfl, gt_1 (List.mem_of_getElem? (i := 14) rfl) rfl, gt_5 (List.mem_of_getElem? (i := 101) rfl) rfl, ⟨by decide +kernel, by decide +kernel, by decide +kernel⟩, ⟨_, _, rfl⟩, by decide⟩
theorem lk_L_156 : Cond.methodLink RL 156 yX11_nights ∈ GT := gt_5 (List.mem_of_getElem? (i := 102) rfl) rfl
theorem mkX11_nights : MkV yX11_nights cX11_nights 4 (some .int) 3 11 := ⟨gt_5 (List.mem_of_getElem? (i := 103) rfl) rfl, gt_5 (List.mem_of_getElem? (i := 104) rfl) rfl, gt_1 (List.mem_of_getElem? (i := 1) rfl) rfl, gt_5 (List.mem_of_getElem? (i := 105) rfl) rfl, ⟨by decide +kernel, by decide +kernel, by decide +kernel⟩, ⟨_, _, rfl⟩, by decide⟩
theorem lk_X11_277 : Cond.methodLink RX11 277 yX0_drawnNights ∈ GT := gt_5 (List.mem_of_getElem? (i := 106) rfl) rfl
theorem mkX0_drawnNights : MkV yX0_drawnNights cX0_drawnNights 12 (some .int) 4 0 := ⟨gt_5 (List.mem_of_getElem? (i := 107) rfl) rfl, gt_5 (List.mem_of_getElem? (i := 108) rfl) rfl, gt_1 (List.mem_of_getElem? (i := 14) rfl) rfl, gt_5 (List.mem_of_getElem? (i := 109) rfl) rfl, ⟨by decide +kernel, by decide +kernel, by decide +kernel⟩, ⟨_, _, rfl⟩, by decide⟩
theorem cn_X0_174 : Cond.constantLong RX0 174 (1103515245) ∈ GT := gt_5 (List.mem_of_getElem? (i := 110) rfl) rfl
theorem cn_X0_176 : Cond.constantLong RX0 176 (12345) ∈ GT := gt_5 (List.mem_of_getElem? (i := 111) rfl) rfl
theorem cn_X0_178 : Cond.constantLong RX0 178 (2147483648) ∈ GT := gt_5 (List.mem_of_getElem? (i := 112) rfl) rfl
theorem cn_X0_183 : Cond.constantLong RX0 183 (65536) ∈ GT := gt_5 (List.mem_of_getElem? (i := 113) rfl) rfl
theorem cn_X0_185 : Cond.constantLong RX0 185 (31) ∈ GT := gt_5 (List.mem_of_getElem? (i := 114) rfl) rfl
theorem lk_L_161 : Cond.methodLink RL 161 yX11_mark ∈ GT := gt_5 (List.mem_of_getElem? (i := 115) rfl) rfl
theorem mkX11_mark : MkV yX11_mark cX11_mark 4 (some .boolean) 2 11 := ⟨gt_5 (List.mem_of_getElem? (i := 116) rfl) rfl, gt_5 (List.mem_of_getElem? (i := 117) rfl) rfl, gt_1 (List.mem_of_getElem? (i := 1) rfl) rfl, gt_5 (List.mem_of_getElem? (i := 118) rfl) rfl, ⟨by decide +kernel, by decide +kernel, by decide +kernel⟩, ⟨_, _, rfl⟩, by decide⟩
theorem lk_X11_281 : Cond.methodLink RX11 281 yX3_lay ∈ GT := gt_5 (List.mem_of_getElem? (i := 119) rfl) rfl
theorem mkX3_lay : MkV yX3_lay cX3_lay 4 none 3 3 := ⟨gt_5 (List.mem_of_getElem? (i := 120) rfl) rfl, gt_5 (List.mem_of_getElem? (i := 121) rfl) rfl, gt_1 (List.mem_of_getElem? (i := 12) rfl) rfl, gt_5 (List.mem_of_getElem? (i := 122) rfl) rfl, ⟨by decide +kernel, by decide +kernel, by decide +kernel⟩, ⟨_, _, rfl⟩, by decide⟩
theorem lk_X3_34 : Cond.methodLink RX3 34 yX4_copyFrom ∈ GT := gt_5 (List.mem_of_getElem? (i := 123) rfl) rfl
theorem lk_X3_38 : Cond.methodLink RX3 38 yX2_copyFrom ∈ GT := gt_5 (List.mem_of_getElem? (i := 124) rfl) rfl
theorem mkX2_copyFrom : MkV yX2_copyFrom cX2_copyFrom 2 none 1 2 := ⟨gt_5 (List.mem_of_getElem? (i := 125) rfl) rfl, gt_5 (List.mem_of_getElem? (i := 126) rfl) rfl, gt_1 (List.mem_of_getElem? (i := 13) rfl) rfl, gt_5 (List.mem_of_getElem? (i := 127) rfl) rfl, ⟨by decide +kernel, by decide +kernel, by decide +kernel⟩, ⟨_, _, rfl⟩, by decide⟩
theorem lk_X3_41 : Cond.methodLink RX3 41 yX10_copyFrom ∈ GT := gt_5 (List.mem_of_getElem? (i := 129) rfl) rfl
theorem mkX10_copyFrom : MkV yX10_copyFrom cX10_copyFrom 3 none 1 10 := ⟨gt_5 (List.mem_of_getElem? (i := 130) rfl) rfl, gt_5 (List.mem_of_getElem? (i := 131) rfl) rfl, gt_1 (List.mem_of_getElem? (i := 11) rfl) rfl, gt_5 (List.mem_of_getElem? (i := 132) rfl) rfl, ⟨by decide +kernel, by decide +kernel, by decide +kernel⟩, ⟨_, _, rfl⟩, by decide⟩
theorem lk_X11_288 : Cond.methodLink RX11 288 yX4_copyFrom ∈ GT := gt_5 (List.mem_of_getElem? (i := 133) rfl) rfl
theorem lk_X11_293 : Cond.methodLink RX11 293 yX2_copyFrom ∈ GT := gt_5 (List.mem_of_getElem? (i := 134) rfl) rfl
theorem lk_X11_297 : Cond.methodLink RX11 297 yX10_copyFrom ∈ GT := gt_5 (List.mem_of_getElem? (i := 135) rfl) rfl
theorem lk_L_166 : Cond.methodLink RL 166 yX11_count ∈ GT := gt_5 (List.mem_of_getElem? (i := 136) rfl) rfl
theorem mkX11_count : MkV yX11_count cX11_count 2 (some .int) 1 11 := ⟨gt_5 (List.mem_of_getElem? (i := 137) rfl) rfl, gt_5 (List.mem_of_getElem? (i := 138) rfl) rfl, gt_1 (List.mem_of_getElem? (i := 1) rfl) rfl, gt_5 (List.mem_of_getElem? (i := 139) rfl) rfl, ⟨by decide +kernel, by decide +kernel, by decide +kernel⟩, ⟨_, _, rfl⟩, by decide⟩
theorem lk_X11_309 : Cond.methodLink RX11 309 yX4_homeBits ∈ GT := gt_5 (List.mem_of_getElem? (i := 140) rfl) rfl
theorem lk_L_139 : Cond.methodLink RL 139 yL_share ∈ GT := gt_5 (List.mem_of_getElem? (i := 141) rfl) rfl
theorem lk_L_7 : Cond.methodLink RL 7 yX11_share ∈ GT := gt_5 (List.mem_of_getElem? (i := 145) rfl) rfl
theorem mkX11_share : MkV yX11_share cX11_share 2 (some .int) 1 11 := ⟨gt_5 (List.mem_of_getElem? (i := 146) rfl) rfl, gt_5 (List.mem_of_getElem? (i := 147) rfl) rfl, gt_1 (List.mem_of_getElem? (i := 1) rfl) rfl, gt_5 (List.mem_of_getElem? (i := 148) rfl) rfl, ⟨by decide +kernel, by decide +kernel, by decide +kernel⟩, ⟨_, _, rfl⟩, by decide⟩
theorem lk_L_152 : Cond.methodLink RL 152 yL_rests ∈ GT := gt_5 (List.mem_of_getElem? (i := 214) rfl) rfl
theorem lk_L_15 : Cond.methodLink RL 15 yX11_rests ∈ GT := gt_5 (List.mem_of_getElem? (i := 217) rfl) rfl
theorem mkX11_rests : MkV yX11_rests cX11_rests 7 (some .int) 4 11 := ⟨gt_5 (List.mem_of_getElem? (i := 218) rfl) rfl, gt_5 (List.mem_of_getElem? (i := 219) rfl) rfl, gt_1 (List.mem_of_getElem? (i := 1) rfl) rfl, gt_5 (List.mem_of_getElem? (i := 220) rfl) rfl, ⟨by decide +kernel, by decide +kernel, by decide +kernel⟩, ⟨_, _, rfl⟩, by decide⟩
theorem lk_X11_266 : Cond.methodLink RX11 266 yX11_isPay ∈ GT := gt_5 (List.mem_of_getElem? (i := 221) rfl) rfl
theorem mkX11_isPay : MkS yX11_isPay cX11_isPay 1 (some .boolean) 1 := ⟨gt_5 (List.mem_of_getElem? (i := 222) rfl) rfl, gt_1 (List.mem_of_getElem? (i := 1) rfl) rfl, gt_5 (List.mem_of_getElem? (i := 223) rfl) rfl, ⟨by decide +kernel, by decide +kernel, by decide +kernel⟩, by decide⟩
theorem lk_X11_271 : Cond.methodLink RX11 271 yX11_isRest ∈ GT := gt_5 (List.mem_of_getElem? (i := 225) rfl) rfl
theorem mkX11_isRest : MkS yX11_isRest cX11_isRest 6 (some .boolean) 4 := ⟨gt_5 (List.mem_of_getElem? (i := 226) rfl) rfl, gt_1 (List.mem_of_getElem? (i := 1) rfl) rfl, gt_5 (List.mem_of_getElem? (i := 227) rfl) rfl, ⟨by decide +kernel, by decide +kernel, by decide +kernel⟩, by decide⟩
theorem lk_X11_322 : Cond.methodLink RX11 322 yX11_gain ∈ GT := gt_5 (List.mem_of_getElem? (i := 228) rfl) rfl
theorem mkX11_gain : MkS yX11_gain cX11_gain 5 (some .int) 5 := ⟨gt_5 (List.mem_of_getElem? (i := 229) rfl) rfl, gt_1 (List.mem_of_getElem? (i := 1) rfl) rfl, gt_5 (List.mem_of_getElem? (i := 230) rfl) rfl, ⟨by decide +kernel, by decide +kernel, by decide +kernel⟩, by decide⟩
theorem lk_L_22 : Cond.methodLink RL 22 yX12_init ∈ GT := gt_5 (List.mem_of_getElem? (i := 234) rfl) rfl
theorem lk_X12_163 : Cond.methodLink RX12 163 yX12_lays0 ∈ GT := gt_5 (List.mem_of_getElem? (i := 238) rfl) rfl
theorem mkX12_lays0 : MkV yX12_lays0 cX12_lays0 3 none 0 12 := ⟨gt_6 (List.mem_of_getElem? (i := 0) rfl) rfl, gt_p 34 rfl rfl, gt_1 (List.mem_of_getElem? (i := 17) rfl) rfl, gt_6 (List.mem_of_getElem? (i := 1) rfl) rfl, ⟨by decide +kernel, by decide +kernel, by decide +kernel⟩, ⟨_, _, rfl⟩, by decide⟩
theorem lk_X12_321 : Cond.methodLink RX12 321 yX12_laneOf ∈ GT := gt_6 (List.mem_of_getElem? (i := 2) rfl) rfl
theorem mkX12_laneOf : MkV yX12_laneOf cX12_laneOf 5 (some .int) 3 12 := ⟨gt_6 (List.mem_of_getElem? (i := 4) rfl) rfl, gt_p 35 rfl rfl, gt_1 (List.mem_of_getElem? (i := 17) rfl) rfl, gt_6 (List.mem_of_getElem? (i := 5) rfl) rfl, ⟨by decide +kernel, by decide +kernel, by decide +kernel⟩, ⟨_, _, rfl⟩, by decide⟩
theorem lk_X12_365 : Cond.methodLink RX12 365 yJ9_min_7cf53 ∈ GT := gt_6 (List.mem_of_getElem? (i := 6) rfl) rfl
theorem lk_X12_166 : Cond.methodLink RX12 166 yX12_fresh ∈ GT := gt_6 (List.mem_of_getElem? (i := 7) rfl) rfl
theorem mkX12_fresh : MkV yX12_fresh cX12_fresh 2 none 0 12 := ⟨gt_6 (List.mem_of_getElem? (i := 9) rfl) rfl, gt_p 36 rfl rfl, gt_1 (List.mem_of_getElem? (i := 17) rfl) rfl, gt_6 (List.mem_of_getElem? (i := 10) rfl) rfl, ⟨by decide +kernel, by decide +kernel, by decide +kernel⟩, ⟨_, _, rfl⟩, by decide⟩
theorem lk_L_145 : Cond.methodLink RL 145 yX12_thrown ∈ GT := gt_6 (List.mem_of_getElem? (i := 231) rfl) rfl
theorem mkX12_thrown : MkV yX12_thrown cX12_thrown 1 (some .int) 0 12 := ⟨gt_6 (List.mem_of_getElem? (i := 232) rfl) rfl, gt_6 (List.mem_of_getElem? (i := 233) rfl) rfl, gt_1 (List.mem_of_getElem? (i := 17) rfl) rfl, gt_6 (List.mem_of_getElem? (i := 234) rfl) rfl, ⟨by decide +kernel, by decide +kernel, by decide +kernel⟩, ⟨_, _, rfl⟩, by decide⟩
theorem lk_L_29 : Cond.methodLink RL 29 yX12_feed ∈ GT := gt_6 (List.mem_of_getElem? (i := 235) rfl) rfl
theorem mkX12_feed : MkV yX12_feed cX12_feed 11 (some .int) 3 12 := ⟨gt_6 (List.mem_of_getElem? (i := 236) rfl) rfl, gt_6 (List.mem_of_getElem? (i := 237) rfl) rfl, gt_1 (List.mem_of_getElem? (i := 17) rfl) rfl, gt_6 (List.mem_of_getElem? (i := 238) rfl) rfl, ⟨by decide +kernel, by decide +kernel, by decide +kernel⟩, ⟨_, _, rfl⟩, by decide⟩
theorem cn_X12_172 : Cond.constantLong RX12 172 (255) ∈ GT := gt_6 (List.mem_of_getElem? (i := 239) rfl) rfl
theorem lk_L_34 : Cond.methodLink RL 34 yX12_town ∈ GT := gt_7 (List.mem_of_getElem? (i := 0) rfl) rfl
theorem mkX12_town : MkV yX12_town cX12_town 2 (some .int) 0 12 := ⟨gt_7 (List.mem_of_getElem? (i := 1) rfl) rfl, gt_7 (List.mem_of_getElem? (i := 2) rfl) rfl, gt_1 (List.mem_of_getElem? (i := 17) rfl) rfl, gt_7 (List.mem_of_getElem? (i := 3) rfl) rfl, ⟨by decide +kernel, by decide +kernel, by decide +kernel⟩, ⟨_, _, rfl⟩, by decide⟩
theorem lk_X12_371 : Cond.methodLink RX12 371 yX12_readsAll ∈ GT := gt_7 (List.mem_of_getElem? (i := 4) rfl) rfl
theorem mkX12_readsAll : MkV yX12_readsAll cX12_readsAll 2 (some .boolean) 0 12 := ⟨gt_7 (List.mem_of_getElem? (i := 6) rfl) rfl, gt_p 37 rfl rfl, gt_1 (List.mem_of_getElem? (i := 17) rfl) rfl, gt_7 (List.mem_of_getElem? (i := 7) rfl) rfl, ⟨by decide +kernel, by decide +kernel, by decide +kernel⟩, ⟨_, _, rfl⟩, by decide⟩
theorem lk_X12_339 : Cond.methodLink RX12 339 yX12_begins ∈ GT := gt_7 (List.mem_of_getElem? (i := 8) rfl) rfl
theorem mkX12_begins : MkV yX12_begins cX12_begins 1 none 0 12 := ⟨gt_7 (List.mem_of_getElem? (i := 10) rfl) rfl, gt_p 38 rfl rfl, gt_1 (List.mem_of_getElem? (i := 17) rfl) rfl, gt_7 (List.mem_of_getElem? (i := 11) rfl) rfl, ⟨by decide +kernel, by decide +kernel, by decide +kernel⟩, ⟨_, _, rfl⟩, by decide⟩
theorem lk_X12_239 : Cond.methodLink RX12 239 yX12_nextToken ∈ GT := gt_7 (List.mem_of_getElem? (i := 12) rfl) rfl
theorem mkX12_nextToken : MkV yX12_nextToken cX12_nextToken 2 none 0 12 := ⟨gt_7 (List.mem_of_getElem? (i := 14) rfl) rfl, gt_p 39 rfl rfl, gt_1 (List.mem_of_getElem? (i := 17) rfl) rfl, gt_7 (List.mem_of_getElem? (i := 15) rfl) rfl, ⟨by decide +kernel, by decide +kernel, by decide +kernel⟩, ⟨_, _, rfl⟩, by decide⟩
theorem lk_X12_196 : Cond.methodLink RX12 196 yX12_signAt ∈ GT := gt_7 (List.mem_of_getElem? (i := 16) rfl) rfl
theorem mkX12_signAt : MkV yX12_signAt cX12_signAt 2 (some .int) 1 12 := ⟨gt_7 (List.mem_of_getElem? (i := 18) rfl) rfl, gt_p 40 rfl rfl, gt_1 (List.mem_of_getElem? (i := 17) rfl) rfl, gt_7 (List.mem_of_getElem? (i := 19) rfl) rfl, ⟨by decide +kernel, by decide +kernel, by decide +kernel⟩, ⟨_, _, rfl⟩, by decide⟩
theorem cn_X12_200 : Cond.constantLong RX12 200 (27) ∈ GT := gt_7 (List.mem_of_getElem? (i := 20) rfl) rfl
theorem cn_X12_202 : Cond.constantLong RX12 202 (96) ∈ GT := gt_7 (List.mem_of_getElem? (i := 21) rfl) rfl
theorem cn_X12_255 : Cond.constantLong RX12 255 (8740067) ∈ GT := gt_7 (List.mem_of_getElem? (i := 22) rfl) rfl
theorem lk_X12_224 : Cond.methodLink RX12 224 yX12_isWord ∈ GT := gt_7 (List.mem_of_getElem? (i := 23) rfl) rfl
theorem mkX12_isWord : MkV yX12_isWord cX12_isWord 3 (some .boolean) 1 12 := ⟨gt_7 (List.mem_of_getElem? (i := 25) rfl) rfl, gt_p 41 rfl rfl, gt_1 (List.mem_of_getElem? (i := 17) rfl) rfl, gt_7 (List.mem_of_getElem? (i := 26) rfl) rfl, ⟨by decide +kernel, by decide +kernel, by decide +kernel⟩, ⟨_, _, rfl⟩, by decide⟩
theorem lk_X12_342 : Cond.methodLink RX12 342 yX12_readsPlace ∈ GT := gt_7 (List.mem_of_getElem? (i := 27) rfl) rfl
theorem mkX12_readsPlace : MkV yX12_readsPlace cX12_readsPlace 2 (some .boolean) 0 12 := ⟨gt_7 (List.mem_of_getElem? (i := 29) rfl) rfl, gt_p 42 rfl rfl, gt_1 (List.mem_of_getElem? (i := 17) rfl) rfl, gt_7 (List.mem_of_getElem? (i := 30) rfl) rfl, ⟨by decide +kernel, by decide +kernel, by decide +kernel⟩, ⟨_, _, rfl⟩, by decide⟩
theorem lk_X12_232 : Cond.methodLink RX12 232 yX12_fails ∈ GT := gt_7 (List.mem_of_getElem? (i := 31) rfl) rfl
theorem mkX12_fails : MkV yX12_fails cX12_fails 2 (some .boolean) 1 12 := ⟨gt_7 (List.mem_of_getElem? (i := 33) rfl) rfl, gt_p 43 rfl rfl, gt_1 (List.mem_of_getElem? (i := 17) rfl) rfl, gt_7 (List.mem_of_getElem? (i := 34) rfl) rfl, ⟨by decide +kernel, by decide +kernel, by decide +kernel⟩, ⟨_, _, rfl⟩, by decide⟩
theorem lk_X12_312 : Cond.methodLink RX12 312 yX12_needsNew ∈ GT := gt_7 (List.mem_of_getElem? (i := 35) rfl) rfl
theorem mkX12_needsNew : MkV yX12_needsNew cX12_needsNew 1 (some .boolean) 0 12 := ⟨gt_7 (List.mem_of_getElem? (i := 37) rfl) rfl, gt_p 44 rfl rfl, gt_1 (List.mem_of_getElem? (i := 17) rfl) rfl, gt_7 (List.mem_of_getElem? (i := 38) rfl) rfl, ⟨by decide +kernel, by decide +kernel, by decide +kernel⟩, ⟨_, _, rfl⟩, by decide⟩
theorem lk_X12_294 : Cond.methodLink RX12 294 yX12_isKept ∈ GT := gt_7 (List.mem_of_getElem? (i := 39) rfl) rfl
theorem mkX12_isKept : MkV yX12_isKept cX12_isKept 1 (some .boolean) 0 12 := ⟨gt_7 (List.mem_of_getElem? (i := 41) rfl) rfl, gt_p 45 rfl rfl, gt_1 (List.mem_of_getElem? (i := 17) rfl) rfl, gt_7 (List.mem_of_getElem? (i := 42) rfl) rfl, ⟨by decide +kernel, by decide +kernel, by decide +kernel⟩, ⟨_, _, rfl⟩, by decide⟩
theorem cn_X12_257 : Cond.constantLong RX12 257 (237308) ∈ GT := gt_7 (List.mem_of_getElem? (i := 43) rfl) rfl
theorem cn_X12_259 : Cond.constantLong RX12 259 (1489744) ∈ GT := gt_7 (List.mem_of_getElem? (i := 44) rfl) rfl
theorem cn_X12_261 : Cond.constantLong RX12 261 (330800670) ∈ GT := gt_7 (List.mem_of_getElem? (i := 45) rfl) rfl
theorem cn_X12_263 : Cond.constantLong RX12 263 (131638) ∈ GT := gt_7 (List.mem_of_getElem? (i := 46) rfl) rfl
theorem cn_X12_265 : Cond.constantLong RX12 265 (555) ∈ GT := gt_7 (List.mem_of_getElem? (i := 47) rfl) rfl
theorem cn_X12_267 : Cond.constantLong RX12 267 (47) ∈ GT := gt_7 (List.mem_of_getElem? (i := 48) rfl) rfl
theorem cn_X12_269 : Cond.constantLong RX12 269 (1888) ∈ GT := gt_7 (List.mem_of_getElem? (i := 49) rfl) rfl
theorem cn_X12_271 : Cond.constantLong RX12 271 (191610176) ∈ GT := gt_7 (List.mem_of_getElem? (i := 50) rfl) rfl
theorem cn_X12_273 : Cond.constantLong RX12 273 (378004) ∈ GT := gt_7 (List.mem_of_getElem? (i := 51) rfl) rfl
theorem cn_X12_275 : Cond.constantLong RX12 275 (453701) ∈ GT := gt_7 (List.mem_of_getElem? (i := 52) rfl) rfl
theorem cn_X12_277 : Cond.constantLong RX12 277 (40187) ∈ GT := gt_7 (List.mem_of_getElem? (i := 53) rfl) rfl
theorem cn_X12_279 : Cond.constantLong RX12 279 (8740238) ∈ GT := gt_7 (List.mem_of_getElem? (i := 54) rfl) rfl
theorem cn_X12_281 : Cond.constantLong RX12 281 (237292) ∈ GT := gt_7 (List.mem_of_getElem? (i := 55) rfl) rfl
theorem cn_X12_283 : Cond.constantLong RX12 283 (1306021) ∈ GT := gt_7 (List.mem_of_getElem? (i := 56) rfl) rfl
theorem cn_X12_285 : Cond.constantLong RX12 285 (2495756) ∈ GT := gt_7 (List.mem_of_getElem? (i := 57) rfl) rfl
theorem cn_X12_222 : Cond.constantLong RX12 222 (10631) ∈ GT := gt_7 (List.mem_of_getElem? (i := 58) rfl) rfl
theorem cn_X12_242 : Cond.constantLong RX12 242 (1111) ∈ GT := gt_7 (List.mem_of_getElem? (i := 59) rfl) rfl
theorem cn_X12_244 : Cond.constantLong RX12 244 (423) ∈ GT := gt_7 (List.mem_of_getElem? (i := 60) rfl) rfl
theorem lk_X12_298 : Cond.methodLink RX12 298 yX12_placeNamed ∈ GT := gt_7 (List.mem_of_getElem? (i := 61) rfl) rfl
theorem mkX12_placeNamed : MkV yX12_placeNamed cX12_placeNamed 3 (some .int) 1 12 := ⟨gt_7 (List.mem_of_getElem? (i := 63) rfl) rfl, gt_p 46 rfl rfl, gt_1 (List.mem_of_getElem? (i := 17) rfl) rfl, gt_7 (List.mem_of_getElem? (i := 64) rfl) rfl, ⟨by decide +kernel, by decide +kernel, by decide +kernel⟩, ⟨_, _, rfl⟩, by decide⟩
theorem lk_X12_301 : Cond.methodLink RX12 301 yX12_walkerNamed ∈ GT := gt_7 (List.mem_of_getElem? (i := 65) rfl) rfl
theorem mkX12_walkerNamed : MkV yX12_walkerNamed cX12_walkerNamed 3 (some .int) 1 12 := ⟨gt_7 (List.mem_of_getElem? (i := 67) rfl) rfl, gt_p 47 rfl rfl, gt_1 (List.mem_of_getElem? (i := 17) rfl) rfl, gt_7 (List.mem_of_getElem? (i := 68) rfl) rfl, ⟨by decide +kernel, by decide +kernel, by decide +kernel⟩, ⟨_, _, rfl⟩, by decide⟩
theorem lk_X12_315 : Cond.methodLink RX12 315 yX12_closes ∈ GT := gt_7 (List.mem_of_getElem? (i := 69) rfl) rfl
theorem mkX12_closes : MkV yX12_closes cX12_closes 1 (some .boolean) 0 12 := ⟨gt_7 (List.mem_of_getElem? (i := 71) rfl) rfl, gt_p 48 rfl rfl, gt_1 (List.mem_of_getElem? (i := 17) rfl) rfl, gt_7 (List.mem_of_getElem? (i := 72) rfl) rfl, ⟨by decide +kernel, by decide +kernel, by decide +kernel⟩, ⟨_, _, rfl⟩, by decide⟩
theorem lk_X12_228 : Cond.methodLink RX12 228 yX12_isSign ∈ GT := gt_7 (List.mem_of_getElem? (i := 73) rfl) rfl
theorem mkX12_isSign : MkV yX12_isSign cX12_isSign 2 (some .boolean) 1 12 := ⟨gt_7 (List.mem_of_getElem? (i := 75) rfl) rfl, gt_p 49 rfl rfl, gt_1 (List.mem_of_getElem? (i := 17) rfl) rfl, gt_7 (List.mem_of_getElem? (i := 76) rfl) rfl, ⟨by decide +kernel, by decide +kernel, by decide +kernel⟩, ⟨_, _, rfl⟩, by decide⟩
theorem lk_X12_345 : Cond.methodLink RX12 345 yX12_readsLane ∈ GT := gt_7 (List.mem_of_getElem? (i := 77) rfl) rfl
theorem mkX12_readsLane : MkV yX12_readsLane cX12_readsLane 2 (some .boolean) 0 12 := ⟨gt_7 (List.mem_of_getElem? (i := 79) rfl) rfl, gt_p 50 rfl rfl, gt_1 (List.mem_of_getElem? (i := 17) rfl) rfl, gt_7 (List.mem_of_getElem? (i := 80) rfl) rfl, ⟨by decide +kernel, by decide +kernel, by decide +kernel⟩, ⟨_, _, rfl⟩, by decide⟩
theorem lk_X12_318 : Cond.methodLink RX12 318 yX12_needsTwo ∈ GT := gt_7 (List.mem_of_getElem? (i := 81) rfl) rfl
theorem mkX12_needsTwo : MkV yX12_needsTwo cX12_needsTwo 2 (some .boolean) 1 12 := ⟨gt_7 (List.mem_of_getElem? (i := 83) rfl) rfl, gt_p 51 rfl rfl, gt_1 (List.mem_of_getElem? (i := 17) rfl) rfl, gt_7 (List.mem_of_getElem? (i := 84) rfl) rfl, ⟨by decide +kernel, by decide +kernel, by decide +kernel⟩, ⟨_, _, rfl⟩, by decide⟩
theorem lk_X12_306 : Cond.methodLink RX12 306 yX12_needsPlace ∈ GT := gt_7 (List.mem_of_getElem? (i := 85) rfl) rfl
theorem mkX12_needsPlace : MkV yX12_needsPlace cX12_needsPlace 2 (some .boolean) 1 12 := ⟨gt_7 (List.mem_of_getElem? (i := 87) rfl) rfl, gt_p 52 rfl rfl, gt_1 (List.mem_of_getElem? (i := 17) rfl) rfl, gt_7 (List.mem_of_getElem? (i := 88) rfl) rfl, ⟨by decide +kernel, by decide +kernel, by decide +kernel⟩, ⟨_, _, rfl⟩, by decide⟩
theorem lk_X12_325 : Cond.methodLink RX12 325 yX12_needsWord ∈ GT := gt_7 (List.mem_of_getElem? (i := 89) rfl) rfl
theorem mkX12_needsWord : MkV yX12_needsWord cX12_needsWord 3 (some .boolean) 1 12 := ⟨gt_7 (List.mem_of_getElem? (i := 91) rfl) rfl, gt_p 53 rfl rfl, gt_1 (List.mem_of_getElem? (i := 17) rfl) rfl, gt_7 (List.mem_of_getElem? (i := 92) rfl) rfl, ⟨by decide +kernel, by decide +kernel, by decide +kernel⟩, ⟨_, _, rfl⟩, by decide⟩
theorem lk_X12_328 : Cond.methodLink RX12 328 yX12_needsNumber ∈ GT := gt_7 (List.mem_of_getElem? (i := 93) rfl) rfl
theorem mkX12_needsNumber : MkV yX12_needsNumber cX12_needsNumber 3 (some .boolean) 2 12 := ⟨gt_7 (List.mem_of_getElem? (i := 95) rfl) rfl, gt_p 54 rfl rfl, gt_1 (List.mem_of_getElem? (i := 17) rfl) rfl, gt_7 (List.mem_of_getElem? (i := 96) rfl) rfl, ⟨by decide +kernel, by decide +kernel, by decide +kernel⟩, ⟨_, _, rfl⟩, by decide⟩
theorem lk_X12_287 : Cond.methodLink RX12 287 yX12_within ∈ GT := gt_7 (List.mem_of_getElem? (i := 97) rfl) rfl
theorem mkX12_within : MkS yX12_within cX12_within 3 (some .boolean) 3 := ⟨gt_7 (List.mem_of_getElem? (i := 98) rfl) rfl, gt_1 (List.mem_of_getElem? (i := 17) rfl) rfl, gt_7 (List.mem_of_getElem? (i := 99) rfl) rfl, ⟨by decide +kernel, by decide +kernel, by decide +kernel⟩, by decide⟩
theorem lk_X12_348 : Cond.methodLink RX12 348 yX12_readsWalker ∈ GT := gt_7 (List.mem_of_getElem? (i := 100) rfl) rfl
theorem mkX12_readsWalker : MkV yX12_readsWalker cX12_readsWalker 4 (some .boolean) 0 12 := ⟨gt_7 (List.mem_of_getElem? (i := 102) rfl) rfl, gt_p 55 rfl rfl, gt_1 (List.mem_of_getElem? (i := 17) rfl) rfl, gt_7 (List.mem_of_getElem? (i := 103) rfl) rfl, ⟨by decide +kernel, by decide +kernel, by decide +kernel⟩, ⟨_, _, rfl⟩, by decide⟩
theorem lk_X12_351 : Cond.methodLink RX12 351 yX12_readsBoy ∈ GT := gt_7 (List.mem_of_getElem? (i := 104) rfl) rfl
theorem mkX12_readsBoy : MkV yX12_readsBoy cX12_readsBoy 1 (some .boolean) 0 12 := ⟨gt_7 (List.mem_of_getElem? (i := 106) rfl) rfl, gt_p 56 rfl rfl, gt_1 (List.mem_of_getElem? (i := 17) rfl) rfl, gt_7 (List.mem_of_getElem? (i := 107) rfl) rfl, ⟨by decide +kernel, by decide +kernel, by decide +kernel⟩, ⟨_, _, rfl⟩, by decide⟩
theorem lk_X12_354 : Cond.methodLink RX12 354 yX12_readsBurns ∈ GT := gt_7 (List.mem_of_getElem? (i := 108) rfl) rfl
theorem mkX12_readsBurns : MkV yX12_readsBurns cX12_readsBurns 1 (some .boolean) 0 12 := ⟨gt_7 (List.mem_of_getElem? (i := 110) rfl) rfl, gt_p 57 rfl rfl, gt_1 (List.mem_of_getElem? (i := 17) rfl) rfl, gt_7 (List.mem_of_getElem? (i := 111) rfl) rfl, ⟨by decide +kernel, by decide +kernel, by decide +kernel⟩, ⟨_, _, rfl⟩, by decide⟩
theorem lk_X12_336 : Cond.methodLink RX12 336 yX12_reads ∈ GT := gt_7 (List.mem_of_getElem? (i := 112) rfl) rfl
theorem mkX12_reads : MkV yX12_reads cX12_reads 6 (some .boolean) 0 12 := ⟨gt_7 (List.mem_of_getElem? (i := 114) rfl) rfl, gt_p 58 rfl rfl, gt_1 (List.mem_of_getElem? (i := 17) rfl) rfl, gt_7 (List.mem_of_getElem? (i := 115) rfl) rfl, ⟨by decide +kernel, by decide +kernel, by decide +kernel⟩, ⟨_, _, rfl⟩, by decide⟩
theorem lk_X12_218 : Cond.methodLink RX12 218 yX12_fact ∈ GT := gt_7 (List.mem_of_getElem? (i := 116) rfl) rfl
theorem mkX12_fact : MkV yX12_fact cX12_fact 1 (some .int) 0 12 := ⟨gt_7 (List.mem_of_getElem? (i := 118) rfl) rfl, gt_p 59 rfl rfl, gt_1 (List.mem_of_getElem? (i := 17) rfl) rfl, gt_7 (List.mem_of_getElem? (i := 119) rfl) rfl, ⟨by decide +kernel, by decide +kernel, by decide +kernel⟩, ⟨_, _, rfl⟩, by decide⟩
theorem cn_X12_210 : Cond.constantLong RX12 210 (404923) ∈ GT := gt_7 (List.mem_of_getElem? (i := 120) rfl) rfl
theorem cn_X12_212 : Cond.constantLong RX12 212 (240023) ∈ GT := gt_7 (List.mem_of_getElem? (i := 121) rfl) rfl
theorem cn_X12_214 : Cond.constantLong RX12 214 (121898) ∈ GT := gt_7 (List.mem_of_getElem? (i := 122) rfl) rfl
theorem cn_X12_216 : Cond.constantLong RX12 216 (237470) ∈ GT := gt_7 (List.mem_of_getElem? (i := 123) rfl) rfl
theorem lk_X12_235 : Cond.methodLink RX12 235 yX12_puts ∈ GT := gt_7 (List.mem_of_getElem? (i := 124) rfl) rfl
theorem mkX12_puts : MkV yX12_puts cX12_puts 2 none 1 12 := ⟨gt_7 (List.mem_of_getElem? (i := 126) rfl) rfl, gt_p 60 rfl rfl, gt_1 (List.mem_of_getElem? (i := 17) rfl) rfl, gt_7 (List.mem_of_getElem? (i := 127) rfl) rfl, ⟨by decide +kernel, by decide +kernel, by decide +kernel⟩, ⟨_, _, rfl⟩, by decide⟩
theorem lk_X12_374 : Cond.methodLink RX12 374 yX12_lays ∈ GT := gt_7 (List.mem_of_getElem? (i := 128) rfl) rfl
theorem mkX12_lays : MkV yX12_lays cX12_lays 1 none 0 12 := ⟨gt_7 (List.mem_of_getElem? (i := 130) rfl) rfl, gt_p 61 rfl rfl, gt_1 (List.mem_of_getElem? (i := 17) rfl) rfl, gt_7 (List.mem_of_getElem? (i := 131) rfl) rfl, ⟨by decide +kernel, by decide +kernel, by decide +kernel⟩, ⟨_, _, rfl⟩, by decide⟩
theorem lk_X12_357 : Cond.methodLink RX12 357 yX12_shifts ∈ GT := gt_7 (List.mem_of_getElem? (i := 132) rfl) rfl
theorem mkX12_shifts : MkS yX12_shifts cX12_shifts 3 none 2 := ⟨gt_7 (List.mem_of_getElem? (i := 133) rfl) rfl, gt_1 (List.mem_of_getElem? (i := 17) rfl) rfl, gt_7 (List.mem_of_getElem? (i := 134) rfl) rfl, ⟨by decide +kernel, by decide +kernel, by decide +kernel⟩, by decide⟩
theorem lk_X12_361 : Cond.methodLink RX12 361 yX12_shiftsNames ∈ GT := gt_7 (List.mem_of_getElem? (i := 135) rfl) rfl
theorem mkX12_shiftsNames : MkS yX12_shiftsNames cX12_shiftsNames 3 none 2 := ⟨gt_7 (List.mem_of_getElem? (i := 136) rfl) rfl, gt_1 (List.mem_of_getElem? (i := 17) rfl) rfl, gt_7 (List.mem_of_getElem? (i := 137) rfl) rfl, ⟨by decide +kernel, by decide +kernel, by decide +kernel⟩, by decide⟩
theorem lk_L_38 : Cond.methodLink RL 38 yX12_evening ∈ GT := gt_7 (List.mem_of_getElem? (i := 138) rfl) rfl
theorem mkX12_evening : MkV yX12_evening cX12_evening 1 (some .int) 0 12 := ⟨gt_7 (List.mem_of_getElem? (i := 139) rfl) rfl, gt_7 (List.mem_of_getElem? (i := 140) rfl) rfl, gt_1 (List.mem_of_getElem? (i := 17) rfl) rfl, gt_7 (List.mem_of_getElem? (i := 141) rfl) rfl, ⟨by decide +kernel, by decide +kernel, by decide +kernel⟩, ⟨_, _, rfl⟩, by decide⟩
theorem lk_X12_380 : Cond.methodLink RX12 380 yX12_readsLine ∈ GT := gt_7 (List.mem_of_getElem? (i := 142) rfl) rfl
theorem mkX12_readsLine : MkV yX12_readsLine cX12_readsLine 3 (some .boolean) 0 12 := ⟨gt_7 (List.mem_of_getElem? (i := 144) rfl) rfl, gt_p 62 rfl rfl, gt_1 (List.mem_of_getElem? (i := 17) rfl) rfl, gt_7 (List.mem_of_getElem? (i := 145) rfl) rfl, ⟨by decide +kernel, by decide +kernel, by decide +kernel⟩, ⟨_, _, rfl⟩, by decide⟩
theorem lk_X12_383 : Cond.methodLink RX12 383 yX12_laysLines ∈ GT := gt_7 (List.mem_of_getElem? (i := 146) rfl) rfl
theorem mkX12_laysLines : MkV yX12_laysLines cX12_laysLines 4 none 2 12 := ⟨gt_7 (List.mem_of_getElem? (i := 148) rfl) rfl, gt_p 63 rfl rfl, gt_1 (List.mem_of_getElem? (i := 17) rfl) rfl, gt_7 (List.mem_of_getElem? (i := 149) rfl) rfl, ⟨by decide +kernel, by decide +kernel, by decide +kernel⟩, ⟨_, _, rfl⟩, by decide⟩
theorem lk_L_43 : Cond.methodLink RL 43 yX12_lane ∈ GT := gt_7 (List.mem_of_getElem? (i := 150) rfl) rfl
theorem mkX12_lane : MkV yX12_lane cX12_lane 3 (some .int) 2 12 := ⟨gt_7 (List.mem_of_getElem? (i := 151) rfl) rfl, gt_7 (List.mem_of_getElem? (i := 152) rfl) rfl, gt_1 (List.mem_of_getElem? (i := 17) rfl) rfl, gt_7 (List.mem_of_getElem? (i := 153) rfl) rfl, ⟨by decide +kernel, by decide +kernel, by decide +kernel⟩, ⟨_, _, rfl⟩, by decide⟩
theorem lk_X12_420 : Cond.methodLink RX12 420 yX12_isLane ∈ GT := gt_7 (List.mem_of_getElem? (i := 154) rfl) rfl
theorem mkX12_isLane : MkV yX12_isLane cX12_isLane 2 (some .boolean) 1 12 := ⟨gt_7 (List.mem_of_getElem? (i := 156) rfl) rfl, gt_p 64 rfl rfl, gt_1 (List.mem_of_getElem? (i := 17) rfl) rfl, gt_7 (List.mem_of_getElem? (i := 157) rfl) rfl, ⟨by decide +kernel, by decide +kernel, by decide +kernel⟩, ⟨_, _, rfl⟩, by decide⟩
theorem lk_L_47 : Cond.methodLink RL 47 yX12_walker ∈ GT := gt_7 (List.mem_of_getElem? (i := 158) rfl) rfl
theorem mkX12_walker : MkV yX12_walker cX12_walker 3 (some .int) 2 12 := ⟨gt_7 (List.mem_of_getElem? (i := 159) rfl) rfl, gt_7 (List.mem_of_getElem? (i := 160) rfl) rfl, gt_1 (List.mem_of_getElem? (i := 17) rfl) rfl, gt_7 (List.mem_of_getElem? (i := 161) rfl) rfl, ⟨by decide +kernel, by decide +kernel, by decide +kernel⟩, ⟨_, _, rfl⟩, by decide⟩
theorem lk_X12_423 : Cond.methodLink RX12 423 yX12_isWalker ∈ GT := gt_7 (List.mem_of_getElem? (i := 162) rfl) rfl
theorem mkX12_isWalker : MkV yX12_isWalker cX12_isWalker 2 (some .boolean) 1 12 := ⟨gt_7 (List.mem_of_getElem? (i := 164) rfl) rfl, gt_p 65 rfl rfl, gt_1 (List.mem_of_getElem? (i := 17) rfl) rfl, gt_7 (List.mem_of_getElem? (i := 165) rfl) rfl, ⟨by decide +kernel, by decide +kernel, by decide +kernel⟩, ⟨_, _, rfl⟩, by decide⟩
theorem lk_X12_387 : Cond.methodLink RX12 387 yX12_isHome ∈ GT := gt_7 (List.mem_of_getElem? (i := 166) rfl) rfl
theorem mkX12_isHome : MkV yX12_isHome cX12_isHome 2 (some .boolean) 1 12 := ⟨gt_7 (List.mem_of_getElem? (i := 168) rfl) rfl, gt_p 66 rfl rfl, gt_1 (List.mem_of_getElem? (i := 17) rfl) rfl, gt_7 (List.mem_of_getElem? (i := 169) rfl) rfl, ⟨by decide +kernel, by decide +kernel, by decide +kernel⟩, ⟨_, _, rfl⟩, by decide⟩
theorem lk_X12_408 : Cond.methodLink RX12 408 yX12_isOut ∈ GT := gt_7 (List.mem_of_getElem? (i := 170) rfl) rfl
theorem mkX12_isOut : MkV yX12_isOut cX12_isOut 2 (some .boolean) 1 12 := ⟨gt_7 (List.mem_of_getElem? (i := 172) rfl) rfl, gt_p 67 rfl rfl, gt_1 (List.mem_of_getElem? (i := 17) rfl) rfl, gt_7 (List.mem_of_getElem? (i := 173) rfl) rfl, ⟨by decide +kernel, by decide +kernel, by decide +kernel⟩, ⟨_, _, rfl⟩, by decide⟩
theorem lk_L_51 : Cond.methodLink RL 51 yX12_way ∈ GT := gt_7 (List.mem_of_getElem? (i := 174) rfl) rfl
theorem mkX12_way : MkV yX12_way cX12_way 3 (some .int) 2 12 := ⟨gt_7 (List.mem_of_getElem? (i := 175) rfl) rfl, gt_7 (List.mem_of_getElem? (i := 176) rfl) rfl, gt_1 (List.mem_of_getElem? (i := 17) rfl) rfl, gt_7 (List.mem_of_getElem? (i := 177) rfl) rfl, ⟨by decide +kernel, by decide +kernel, by decide +kernel⟩, ⟨_, _, rfl⟩, by decide⟩
theorem lk_X12_426 : Cond.methodLink RX12 426 yX12_isPlace ∈ GT := gt_7 (List.mem_of_getElem? (i := 178) rfl) rfl
theorem mkX12_isPlace : MkV yX12_isPlace cX12_isPlace 2 (some .boolean) 1 12 := ⟨gt_7 (List.mem_of_getElem? (i := 180) rfl) rfl, gt_p 68 rfl rfl, gt_1 (List.mem_of_getElem? (i := 17) rfl) rfl, gt_7 (List.mem_of_getElem? (i := 181) rfl) rfl, ⟨by decide +kernel, by decide +kernel, by decide +kernel⟩, ⟨_, _, rfl⟩, by decide⟩
theorem lk_L_55 : Cond.methodLink RL 55 yX12_next ∈ GT := gt_7 (List.mem_of_getElem? (i := 182) rfl) rfl
theorem mkX12_next : MkV yX12_next cX12_next 2 (some .int) 1 12 := ⟨gt_7 (List.mem_of_getElem? (i := 183) rfl) rfl, gt_7 (List.mem_of_getElem? (i := 184) rfl) rfl, gt_1 (List.mem_of_getElem? (i := 17) rfl) rfl, gt_7 (List.mem_of_getElem? (i := 185) rfl) rfl, ⟨by decide +kernel, by decide +kernel, by decide +kernel⟩, ⟨_, _, rfl⟩, by decide⟩
theorem lk_X12_411 : Cond.methodLink RX12 411 yX12_lanesAhead ∈ GT := gt_7 (List.mem_of_getElem? (i := 186) rfl) rfl
theorem mkX12_lanesAhead : MkV yX12_lanesAhead cX12_lanesAhead 2 (some .int) 1 12 := ⟨gt_7 (List.mem_of_getElem? (i := 188) rfl) rfl, gt_p 69 rfl rfl, gt_1 (List.mem_of_getElem? (i := 17) rfl) rfl, gt_7 (List.mem_of_getElem? (i := 189) rfl) rfl, ⟨by decide +kernel, by decide +kernel, by decide +kernel⟩, ⟨_, _, rfl⟩, by decide⟩
theorem lk_X12_393 : Cond.methodLink RX12 393 yX12_nextPlace ∈ GT := gt_7 (List.mem_of_getElem? (i := 190) rfl) rfl
theorem mkX12_nextPlace : MkV yX12_nextPlace cX12_nextPlace 4 (some .int) 2 12 := ⟨gt_7 (List.mem_of_getElem? (i := 192) rfl) rfl, gt_p 70 rfl rfl, gt_1 (List.mem_of_getElem? (i := 17) rfl) rfl, gt_7 (List.mem_of_getElem? (i := 193) rfl) rfl, ⟨by decide +kernel, by decide +kernel, by decide +kernel⟩, ⟨_, _, rfl⟩, by decide⟩
theorem lk_L_59 : Cond.methodLink RL 59 yX12_minute ∈ GT := gt_7 (List.mem_of_getElem? (i := 194) rfl) rfl
theorem mkX12_minute : MkV yX12_minute cX12_minute 1 (some .int) 0 12 := ⟨gt_7 (List.mem_of_getElem? (i := 195) rfl) rfl, gt_7 (List.mem_of_getElem? (i := 196) rfl) rfl, gt_1 (List.mem_of_getElem? (i := 17) rfl) rfl, gt_7 (List.mem_of_getElem? (i := 197) rfl) rfl, ⟨by decide +kernel, by decide +kernel, by decide +kernel⟩, ⟨_, _, rfl⟩, by decide⟩
theorem lk_X12_433 : Cond.methodLink RX12 433 yX12_keeps ∈ GT := gt_7 (List.mem_of_getElem? (i := 198) rfl) rfl
theorem mkX12_keeps : MkV yX12_keeps cX12_keeps 2 none 0 12 := ⟨gt_7 (List.mem_of_getElem? (i := 200) rfl) rfl, gt_p 71 rfl rfl, gt_1 (List.mem_of_getElem? (i := 17) rfl) rfl, gt_7 (List.mem_of_getElem? (i := 201) rfl) rfl, ⟨by decide +kernel, by decide +kernel, by decide +kernel⟩, ⟨_, _, rfl⟩, by decide⟩
theorem lk_X12_429 : Cond.methodLink RX12 429 yX12_copies ∈ GT := gt_7 (List.mem_of_getElem? (i := 202) rfl) rfl
theorem mkX12_copies : MkS yX12_copies cX12_copies 5 none 4 := ⟨gt_7 (List.mem_of_getElem? (i := 203) rfl) rfl, gt_1 (List.mem_of_getElem? (i := 17) rfl) rfl, gt_7 (List.mem_of_getElem? (i := 204) rfl) rfl, ⟨by decide +kernel, by decide +kernel, by decide +kernel⟩, by decide⟩
theorem lk_X12_436 : Cond.methodLink RX12 436 yX12_passes ∈ GT := gt_7 (List.mem_of_getElem? (i := 205) rfl) rfl
theorem mkX12_passes : MkV yX12_passes cX12_passes 4 (some .int) 0 12 := ⟨gt_7 (List.mem_of_getElem? (i := 207) rfl) rfl, gt_p 72 rfl rfl, gt_1 (List.mem_of_getElem? (i := 17) rfl) rfl, gt_7 (List.mem_of_getElem? (i := 208) rfl) rfl, ⟨by decide +kernel, by decide +kernel, by decide +kernel⟩, ⟨_, _, rfl⟩, by decide⟩
theorem lk_X12_414 : Cond.methodLink RX12 414 yX12_goesAlong ∈ GT := gt_7 (List.mem_of_getElem? (i := 209) rfl) rfl
theorem mkX12_goesAlong : MkV yX12_goesAlong cX12_goesAlong 3 none 2 12 := ⟨gt_7 (List.mem_of_getElem? (i := 211) rfl) rfl, gt_p 73 rfl rfl, gt_1 (List.mem_of_getElem? (i := 17) rfl) rfl, gt_7 (List.mem_of_getElem? (i := 212) rfl) rfl, ⟨by decide +kernel, by decide +kernel, by decide +kernel⟩, ⟨_, _, rfl⟩, by decide⟩
theorem lk_X12_405 : Cond.methodLink RX12 405 yJ9_max_7cf53 ∈ GT := gt_7 (List.mem_of_getElem? (i := 213) rfl) rfl
theorem lk_X12_417 : Cond.methodLink RX12 417 yX12_burnsBy ∈ GT := gt_7 (List.mem_of_getElem? (i := 214) rfl) rfl
theorem mkX12_burnsBy : MkV yX12_burnsBy cX12_burnsBy 5 (some .int) 3 12 := ⟨gt_7 (List.mem_of_getElem? (i := 216) rfl) rfl, gt_p 74 rfl rfl, gt_1 (List.mem_of_getElem? (i := 17) rfl) rfl, gt_7 (List.mem_of_getElem? (i := 217) rfl) rfl, ⟨by decide +kernel, by decide +kernel, by decide +kernel⟩, ⟨_, _, rfl⟩, by decide⟩
theorem lk_X12_399 : Cond.methodLink RX12 399 yX12_worked ∈ GT := gt_7 (List.mem_of_getElem? (i := 218) rfl) rfl
theorem mkX12_worked : MkV yX12_worked cX12_worked 6 (some .int) 1 12 := ⟨gt_7 (List.mem_of_getElem? (i := 220) rfl) rfl, gt_p 75 rfl rfl, gt_1 (List.mem_of_getElem? (i := 17) rfl) rfl, gt_7 (List.mem_of_getElem? (i := 221) rfl) rfl, ⟨by decide +kernel, by decide +kernel, by decide +kernel⟩, ⟨_, _, rfl⟩, by decide⟩
theorem lk_X12_249 : Cond.methodLink RX12 249 yX12_opens ∈ GT := gt_7 (List.mem_of_getElem? (i := 222) rfl) rfl
theorem mkX12_opens : MkV yX12_opens cX12_opens 2 none 1 12 := ⟨gt_7 (List.mem_of_getElem? (i := 224) rfl) rfl, gt_p 76 rfl rfl, gt_1 (List.mem_of_getElem? (i := 17) rfl) rfl, gt_7 (List.mem_of_getElem? (i := 225) rfl) rfl, ⟨by decide +kernel, by decide +kernel, by decide +kernel⟩, ⟨_, _, rfl⟩, by decide⟩
theorem lk_X12_246 : Cond.methodLink RX12 246 yX12_sums ∈ GT := gt_7 (List.mem_of_getElem? (i := 226) rfl) rfl
theorem mkX12_sums : MkV yX12_sums cX12_sums 2 none 1 12 := ⟨gt_7 (List.mem_of_getElem? (i := 228) rfl) rfl, gt_p 77 rfl rfl, gt_1 (List.mem_of_getElem? (i := 17) rfl) rfl, gt_7 (List.mem_of_getElem? (i := 229) rfl) rfl, ⟨by decide +kernel, by decide +kernel, by decide +kernel⟩, ⟨_, _, rfl⟩, by decide⟩
theorem lk_X12_252 : Cond.methodLink RX12 252 yX12_tests ∈ GT := gt_7 (List.mem_of_getElem? (i := 230) rfl) rfl
theorem mkX12_tests : MkV yX12_tests cX12_tests 3 none 1 12 := ⟨gt_7 (List.mem_of_getElem? (i := 232) rfl) rfl, gt_p 78 rfl rfl, gt_1 (List.mem_of_getElem? (i := 17) rfl) rfl, gt_7 (List.mem_of_getElem? (i := 233) rfl) rfl, ⟨by decide +kernel, by decide +kernel, by decide +kernel⟩, ⟨_, _, rfl⟩, by decide⟩
theorem lk_X12_402 : Cond.methodLink RX12 402 yX12_between ∈ GT := gt_7 (List.mem_of_getElem? (i := 234) rfl) rfl
theorem mkX12_between : MkS yX12_between cX12_between 3 (some .int) 3 := ⟨gt_7 (List.mem_of_getElem? (i := 235) rfl) rfl, gt_1 (List.mem_of_getElem? (i := 17) rfl) rfl, gt_7 (List.mem_of_getElem? (i := 236) rfl) rfl, ⟨by decide +kernel, by decide +kernel, by decide +kernel⟩, by decide⟩
theorem lk_L_63 : Cond.methodLink RL 63 yX12_send ∈ GT := gt_7 (List.mem_of_getElem? (i := 237) rfl) rfl
theorem mkX12_send : MkV yX12_send cX12_send 3 (some .int) 2 12 := ⟨gt_7 (List.mem_of_getElem? (i := 238) rfl) rfl, gt_7 (List.mem_of_getElem? (i := 239) rfl) rfl, gt_1 (List.mem_of_getElem? (i := 17) rfl) rfl, gt_8 (List.mem_of_getElem? (i := 0) rfl) rfl, ⟨by decide +kernel, by decide +kernel, by decide +kernel⟩, ⟨_, _, rfl⟩, by decide⟩
theorem lk_X12_439 : Cond.methodLink RX12 439 yX12_sends ∈ GT := gt_8 (List.mem_of_getElem? (i := 1) rfl) rfl
theorem mkX12_sends : MkV yX12_sends cX12_sends 2 none 1 12 := ⟨gt_8 (List.mem_of_getElem? (i := 3) rfl) rfl, gt_p 79 rfl rfl, gt_1 (List.mem_of_getElem? (i := 17) rfl) rfl, gt_8 (List.mem_of_getElem? (i := 4) rfl) rfl, ⟨by decide +kernel, by decide +kernel, by decide +kernel⟩, ⟨_, _, rfl⟩, by decide⟩
theorem lk_L_67 : Cond.methodLink RL 67 yX12_waits ∈ GT := gt_8 (List.mem_of_getElem? (i := 5) rfl) rfl
theorem mkX12_waits : MkV yX12_waits cX12_waits 2 (some .int) 1 12 := ⟨gt_8 (List.mem_of_getElem? (i := 6) rfl) rfl, gt_8 (List.mem_of_getElem? (i := 7) rfl) rfl, gt_1 (List.mem_of_getElem? (i := 17) rfl) rfl, gt_8 (List.mem_of_getElem? (i := 8) rfl) rfl, ⟨by decide +kernel, by decide +kernel, by decide +kernel⟩, ⟨_, _, rfl⟩, by decide⟩
theorem lk_X12_442 : Cond.methodLink RX12 442 yX12_waitsMore ∈ GT := gt_8 (List.mem_of_getElem? (i := 9) rfl) rfl
theorem mkX12_waitsMore : MkV yX12_waitsMore cX12_waitsMore 2 none 1 12 := ⟨gt_8 (List.mem_of_getElem? (i := 11) rfl) rfl, gt_p 80 rfl rfl, gt_1 (List.mem_of_getElem? (i := 17) rfl) rfl, gt_8 (List.mem_of_getElem? (i := 12) rfl) rfl, ⟨by decide +kernel, by decide +kernel, by decide +kernel⟩, ⟨_, _, rfl⟩, by decide⟩
theorem lk_L_72 : Cond.methodLink RL 72 yX12_back ∈ GT := gt_8 (List.mem_of_getElem? (i := 13) rfl) rfl
theorem mkX12_back : MkV yX12_back cX12_back 2 (some .boolean) 1 12 := ⟨gt_8 (List.mem_of_getElem? (i := 14) rfl) rfl, gt_8 (List.mem_of_getElem? (i := 15) rfl) rfl, gt_1 (List.mem_of_getElem? (i := 17) rfl) rfl, gt_8 (List.mem_of_getElem? (i := 16) rfl) rfl, ⟨by decide +kernel, by decide +kernel, by decide +kernel⟩, ⟨_, _, rfl⟩, by decide⟩
theorem lk_X12_445 : Cond.methodLink RX12 445 yX12_canTurn ∈ GT := gt_8 (List.mem_of_getElem? (i := 17) rfl) rfl
theorem mkX12_canTurn : MkV yX12_canTurn cX12_canTurn 2 (some .boolean) 1 12 := ⟨gt_8 (List.mem_of_getElem? (i := 19) rfl) rfl, gt_p 81 rfl rfl, gt_1 (List.mem_of_getElem? (i := 17) rfl) rfl, gt_8 (List.mem_of_getElem? (i := 20) rfl) rfl, ⟨by decide +kernel, by decide +kernel, by decide +kernel⟩, ⟨_, _, rfl⟩, by decide⟩
theorem lk_L_77 : Cond.methodLink RL 77 yX12_undo ∈ GT := gt_8 (List.mem_of_getElem? (i := 21) rfl) rfl
theorem mkX12_undo : MkV yX12_undo cX12_undo 1 (some .boolean) 0 12 := ⟨gt_8 (List.mem_of_getElem? (i := 22) rfl) rfl, gt_8 (List.mem_of_getElem? (i := 23) rfl) rfl, gt_1 (List.mem_of_getElem? (i := 17) rfl) rfl, gt_8 (List.mem_of_getElem? (i := 24) rfl) rfl, ⟨by decide +kernel, by decide +kernel, by decide +kernel⟩, ⟨_, _, rfl⟩, by decide⟩
theorem lk_L_81 : Cond.methodLink RL 81 yX12_judged ∈ GT := gt_8 (List.mem_of_getElem? (i := 25) rfl) rfl
theorem mkX12_judged : MkV yX12_judged cX12_judged 6 (some .int) 1 12 := ⟨gt_8 (List.mem_of_getElem? (i := 26) rfl) rfl, gt_8 (List.mem_of_getElem? (i := 27) rfl) rfl, gt_1 (List.mem_of_getElem? (i := 17) rfl) rfl, gt_8 (List.mem_of_getElem? (i := 28) rfl) rfl, ⟨by decide +kernel, by decide +kernel, by decide +kernel⟩, ⟨_, _, rfl⟩, by decide⟩
theorem lk_X12_448 : Cond.methodLink RX12 448 yX12_goes ∈ GT := gt_8 (List.mem_of_getElem? (i := 29) rfl) rfl
theorem mkX12_goes : MkV yX12_goes cX12_goes 4 (some .boolean) 1 12 := ⟨gt_8 (List.mem_of_getElem? (i := 31) rfl) rfl, gt_p 82 rfl rfl, gt_1 (List.mem_of_getElem? (i := 17) rfl) rfl, gt_8 (List.mem_of_getElem? (i := 32) rfl) rfl, ⟨by decide +kernel, by decide +kernel, by decide +kernel⟩, ⟨_, _, rfl⟩, by decide⟩
theorem lk_L_85 : Cond.methodLink RL 85 yX12_darks ∈ GT := gt_8 (List.mem_of_getElem? (i := 33) rfl) rfl
theorem mkX12_darks : MkV yX12_darks cX12_darks 2 (some .int) 1 12 := ⟨gt_8 (List.mem_of_getElem? (i := 34) rfl) rfl, gt_8 (List.mem_of_getElem? (i := 35) rfl) rfl, gt_1 (List.mem_of_getElem? (i := 17) rfl) rfl, gt_8 (List.mem_of_getElem? (i := 36) rfl) rfl, ⟨by decide +kernel, by decide +kernel, by decide +kernel⟩, ⟨_, _, rfl⟩, by decide⟩
theorem lk_X12_478 : Cond.methodLink RX12 478 yX12_tries ∈ GT := gt_8 (List.mem_of_getElem? (i := 37) rfl) rfl
theorem mkX12_tries : MkV yX12_tries cX12_tries 1 none 0 12 := ⟨gt_8 (List.mem_of_getElem? (i := 39) rfl) rfl, gt_p 83 rfl rfl, gt_1 (List.mem_of_getElem? (i := 17) rfl) rfl, gt_8 (List.mem_of_getElem? (i := 40) rfl) rfl, ⟨by decide +kernel, by decide +kernel, by decide +kernel⟩, ⟨_, _, rfl⟩, by decide⟩
theorem lk_X12_475 : Cond.methodLink RX12 475 yX12_goesHome ∈ GT := gt_8 (List.mem_of_getElem? (i := 41) rfl) rfl
theorem mkX12_goesHome : MkV yX12_goesHome cX12_goesHome 2 none 0 12 := ⟨gt_8 (List.mem_of_getElem? (i := 43) rfl) rfl, gt_p 84 rfl rfl, gt_1 (List.mem_of_getElem? (i := 17) rfl) rfl, gt_8 (List.mem_of_getElem? (i := 44) rfl) rfl, ⟨by decide +kernel, by decide +kernel, by decide +kernel⟩, ⟨_, _, rfl⟩, by decide⟩
theorem lk_X12_466 : Cond.methodLink RX12 466 yX12_notes ∈ GT := gt_8 (List.mem_of_getElem? (i := 45) rfl) rfl
theorem mkX12_notes : MkV yX12_notes cX12_notes 3 none 1 12 := ⟨gt_8 (List.mem_of_getElem? (i := 47) rfl) rfl, gt_p 85 rfl rfl, gt_1 (List.mem_of_getElem? (i := 17) rfl) rfl, gt_8 (List.mem_of_getElem? (i := 48) rfl) rfl, ⟨by decide +kernel, by decide +kernel, by decide +kernel⟩, ⟨_, _, rfl⟩, by decide⟩
theorem lk_X12_451 : Cond.methodLink RX12 451 yX12_burning ∈ GT := gt_8 (List.mem_of_getElem? (i := 49) rfl) rfl
theorem mkX12_burning : MkV yX12_burning cX12_burning 3 (some .int) 0 12 := ⟨gt_8 (List.mem_of_getElem? (i := 51) rfl) rfl, gt_p 86 rfl rfl, gt_1 (List.mem_of_getElem? (i := 17) rfl) rfl, gt_8 (List.mem_of_getElem? (i := 52) rfl) rfl, ⟨by decide +kernel, by decide +kernel, by decide +kernel⟩, ⟨_, _, rfl⟩, by decide⟩
theorem lk_X12_469 : Cond.methodLink RX12 469 yX12_areAllHome ∈ GT := gt_8 (List.mem_of_getElem? (i := 53) rfl) rfl
theorem mkX12_areAllHome : MkV yX12_areAllHome cX12_areAllHome 1 (some .boolean) 0 12 := ⟨gt_8 (List.mem_of_getElem? (i := 55) rfl) rfl, gt_p 87 rfl rfl, gt_1 (List.mem_of_getElem? (i := 17) rfl) rfl, gt_8 (List.mem_of_getElem? (i := 56) rfl) rfl, ⟨by decide +kernel, by decide +kernel, by decide +kernel⟩, ⟨_, _, rfl⟩, by decide⟩
theorem lk_X12_390 : Cond.methodLink RX12 390 yX12_homes ∈ GT := gt_8 (List.mem_of_getElem? (i := 57) rfl) rfl
theorem mkX12_homes : MkV yX12_homes cX12_homes 3 (some .int) 0 12 := ⟨gt_8 (List.mem_of_getElem? (i := 59) rfl) rfl, gt_p 88 rfl rfl, gt_1 (List.mem_of_getElem? (i := 17) rfl) rfl, gt_8 (List.mem_of_getElem? (i := 60) rfl) rfl, ⟨by decide +kernel, by decide +kernel, by decide +kernel⟩, ⟨_, _, rfl⟩, by decide⟩
theorem lk_X12_472 : Cond.methodLink RX12 472 yX12_bits ∈ GT := gt_8 (List.mem_of_getElem? (i := 61) rfl) rfl
theorem mkX12_bits : MkS yX12_bits cX12_bits 3 (some .int) 1 := ⟨gt_8 (List.mem_of_getElem? (i := 62) rfl) rfl, gt_1 (List.mem_of_getElem? (i := 17) rfl) rfl, gt_8 (List.mem_of_getElem? (i := 63) rfl) rfl, ⟨by decide +kernel, by decide +kernel, by decide +kernel⟩, by decide⟩
theorem lk_L_89 : Cond.methodLink RL 89 yX12_home ∈ GT := gt_8 (List.mem_of_getElem? (i := 64) rfl) rfl
theorem mkX12_home : MkV yX12_home cX12_home 2 (some .int) 1 12 := ⟨gt_8 (List.mem_of_getElem? (i := 65) rfl) rfl, gt_8 (List.mem_of_getElem? (i := 66) rfl) rfl, gt_1 (List.mem_of_getElem? (i := 17) rfl) rfl, gt_8 (List.mem_of_getElem? (i := 67) rfl) rfl, ⟨by decide +kernel, by decide +kernel, by decide +kernel⟩, ⟨_, _, rfl⟩, by decide⟩
theorem lk_L_93 : Cond.methodLink RL 93 yX12_glow ∈ GT := gt_8 (List.mem_of_getElem? (i := 68) rfl) rfl
theorem mkX12_glow : MkV yX12_glow cX12_glow 3 (some .int) 0 12 := ⟨gt_8 (List.mem_of_getElem? (i := 69) rfl) rfl, gt_8 (List.mem_of_getElem? (i := 70) rfl) rfl, gt_1 (List.mem_of_getElem? (i := 17) rfl) rfl, gt_8 (List.mem_of_getElem? (i := 71) rfl) rfl, ⟨by decide +kernel, by decide +kernel, by decide +kernel⟩, ⟨_, _, rfl⟩, by decide⟩
theorem lk_L_97 : Cond.methodLink RL 97 yX12_burns ∈ GT := gt_8 (List.mem_of_getElem? (i := 72) rfl) rfl
theorem mkX12_burns : MkV yX12_burns cX12_burns 4 (some .int) 2 12 := ⟨gt_8 (List.mem_of_getElem? (i := 73) rfl) rfl, gt_8 (List.mem_of_getElem? (i := 74) rfl) rfl, gt_1 (List.mem_of_getElem? (i := 17) rfl) rfl, gt_8 (List.mem_of_getElem? (i := 75) rfl) rfl, ⟨by decide +kernel, by decide +kernel, by decide +kernel⟩, ⟨_, _, rfl⟩, by decide⟩
theorem lk_L_101 : Cond.methodLink RL 101 yX12_delay ∈ GT := gt_8 (List.mem_of_getElem? (i := 76) rfl) rfl
theorem mkX12_delay : MkV yX12_delay cX12_delay 2 (some .int) 1 12 := ⟨gt_8 (List.mem_of_getElem? (i := 77) rfl) rfl, gt_8 (List.mem_of_getElem? (i := 78) rfl) rfl, gt_1 (List.mem_of_getElem? (i := 17) rfl) rfl, gt_8 (List.mem_of_getElem? (i := 79) rfl) rfl, ⟨by decide +kernel, by decide +kernel, by decide +kernel⟩, ⟨_, _, rfl⟩, by decide⟩
theorem lk_X12_487 : Cond.methodLink RX12 487 yX12_delays ∈ GT := gt_8 (List.mem_of_getElem? (i := 80) rfl) rfl
theorem mkX12_delays : MkV yX12_delays cX12_delays 5 none 2 12 := ⟨gt_8 (List.mem_of_getElem? (i := 82) rfl) rfl, gt_p 89 rfl rfl, gt_1 (List.mem_of_getElem? (i := 17) rfl) rfl, gt_8 (List.mem_of_getElem? (i := 83) rfl) rfl, ⟨by decide +kernel, by decide +kernel, by decide +kernel⟩, ⟨_, _, rfl⟩, by decide⟩
theorem lk_L_105 : Cond.methodLink RL 105 yX12_boys ∈ GT := gt_8 (List.mem_of_getElem? (i := 84) rfl) rfl
theorem mkX12_boys : MkV yX12_boys cX12_boys 3 (some .int) 0 12 := ⟨gt_8 (List.mem_of_getElem? (i := 85) rfl) rfl, gt_8 (List.mem_of_getElem? (i := 86) rfl) rfl, gt_1 (List.mem_of_getElem? (i := 17) rfl) rfl, gt_8 (List.mem_of_getElem? (i := 87) rfl) rfl, ⟨by decide +kernel, by decide +kernel, by decide +kernel⟩, ⟨_, _, rfl⟩, by decide⟩
theorem lk_X12_490 : Cond.methodLink RX12 490 yX12_isLightBy ∈ GT := gt_8 (List.mem_of_getElem? (i := 88) rfl) rfl
theorem mkX12_isLightBy : MkV yX12_isLightBy cX12_isLightBy 3 (some .boolean) 1 12 := ⟨gt_8 (List.mem_of_getElem? (i := 90) rfl) rfl, gt_p 90 rfl rfl, gt_1 (List.mem_of_getElem? (i := 17) rfl) rfl, gt_8 (List.mem_of_getElem? (i := 91) rfl) rfl, ⟨by decide +kernel, by decide +kernel, by decide +kernel⟩, ⟨_, _, rfl⟩, by decide⟩
theorem lk_L_109 : Cond.methodLink RL 109 yX12_alarm ∈ GT := gt_8 (List.mem_of_getElem? (i := 92) rfl) rfl
theorem mkX12_alarm : MkV yX12_alarm cX12_alarm 3 (some .int) 0 12 := ⟨gt_8 (List.mem_of_getElem? (i := 93) rfl) rfl, gt_8 (List.mem_of_getElem? (i := 94) rfl) rfl, gt_1 (List.mem_of_getElem? (i := 17) rfl) rfl, gt_8 (List.mem_of_getElem? (i := 95) rfl) rfl, ⟨by decide +kernel, by decide +kernel, by decide +kernel⟩, ⟨_, _, rfl⟩, by decide⟩
theorem lk_L_113 : Cond.methodLink RL 113 yX12_blind ∈ GT := gt_8 (List.mem_of_getElem? (i := 96) rfl) rfl
theorem mkX12_blind : MkV yX12_blind cX12_blind 1 (some .int) 0 12 := ⟨gt_8 (List.mem_of_getElem? (i := 97) rfl) rfl, gt_8 (List.mem_of_getElem? (i := 98) rfl) rfl, gt_1 (List.mem_of_getElem? (i := 17) rfl) rfl, gt_8 (List.mem_of_getElem? (i := 99) rfl) rfl, ⟨by decide +kernel, by decide +kernel, by decide +kernel⟩, ⟨_, _, rfl⟩, by decide⟩
theorem lk_L_117 : Cond.methodLink RL 117 yX12_meet ∈ GT := gt_8 (List.mem_of_getElem? (i := 100) rfl) rfl
theorem mkX12_meet : MkV yX12_meet cX12_meet 5 (some .int) 2 12 := ⟨gt_8 (List.mem_of_getElem? (i := 101) rfl) rfl, gt_8 (List.mem_of_getElem? (i := 102) rfl) rfl, gt_1 (List.mem_of_getElem? (i := 17) rfl) rfl, gt_8 (List.mem_of_getElem? (i := 103) rfl) rfl, ⟨by decide +kernel, by decide +kernel, by decide +kernel⟩, ⟨_, _, rfl⟩, by decide⟩
theorem lk_L_121 : Cond.methodLink RL 121 yX12_thief ∈ GT := gt_8 (List.mem_of_getElem? (i := 104) rfl) rfl
theorem mkX12_thief : MkV yX12_thief cX12_thief 4 (some .int) 0 12 := ⟨gt_8 (List.mem_of_getElem? (i := 105) rfl) rfl, gt_8 (List.mem_of_getElem? (i := 106) rfl) rfl, gt_1 (List.mem_of_getElem? (i := 17) rfl) rfl, gt_8 (List.mem_of_getElem? (i := 107) rfl) rfl, ⟨by decide +kernel, by decide +kernel, by decide +kernel⟩, ⟨_, _, rfl⟩, by decide⟩
theorem lk_L_126 : Cond.methodLink RL 126 yX12_watch ∈ GT := gt_8 (List.mem_of_getElem? (i := 108) rfl) rfl
theorem mkX12_watch : MkV yX12_watch cX12_watch 4 (some .boolean) 3 12 := ⟨gt_8 (List.mem_of_getElem? (i := 109) rfl) rfl, gt_8 (List.mem_of_getElem? (i := 110) rfl) rfl, gt_1 (List.mem_of_getElem? (i := 17) rfl) rfl, gt_8 (List.mem_of_getElem? (i := 111) rfl) rfl, ⟨by decide +kernel, by decide +kernel, by decide +kernel⟩, ⟨_, _, rfl⟩, by decide⟩
theorem lk_L_130 : Cond.methodLink RL 130 yX12_sets ∈ GT := gt_8 (List.mem_of_getElem? (i := 112) rfl) rfl
theorem mkX12_sets : MkV yX12_sets cX12_sets 7 (some .int) 1 12 := ⟨gt_8 (List.mem_of_getElem? (i := 113) rfl) rfl, gt_8 (List.mem_of_getElem? (i := 114) rfl) rfl, gt_1 (List.mem_of_getElem? (i := 17) rfl) rfl, gt_8 (List.mem_of_getElem? (i := 115) rfl) rfl, ⟨by decide +kernel, by decide +kernel, by decide +kernel⟩, ⟨_, _, rfl⟩, by decide⟩
theorem lk_X12_493 : Cond.methodLink RX12 493 yX12_laysLit ∈ GT := gt_8 (List.mem_of_getElem? (i := 116) rfl) rfl
theorem mkX12_laysLit : MkV yX12_laysLit cX12_laysLit 4 none 0 12 := ⟨gt_8 (List.mem_of_getElem? (i := 118) rfl) rfl, gt_p 91 rfl rfl, gt_1 (List.mem_of_getElem? (i := 17) rfl) rfl, gt_8 (List.mem_of_getElem? (i := 119) rfl) rfl, ⟨by decide +kernel, by decide +kernel, by decide +kernel⟩, ⟨_, _, rfl⟩, by decide⟩
theorem lk_X12_496 : Cond.methodLink RX12 496 yX12_isAsWatched ∈ GT := gt_8 (List.mem_of_getElem? (i := 120) rfl) rfl
theorem mkX12_isAsWatched : MkV yX12_isAsWatched cX12_isAsWatched 3 (some .boolean) 1 12 := ⟨gt_8 (List.mem_of_getElem? (i := 122) rfl) rfl, gt_p 92 rfl rfl, gt_1 (List.mem_of_getElem? (i := 17) rfl) rfl, gt_8 (List.mem_of_getElem? (i := 123) rfl) rfl, ⟨by decide +kernel, by decide +kernel, by decide +kernel⟩, ⟨_, _, rfl⟩, by decide⟩
theorem lk_L_134 : Cond.methodLink RL 134 yX12_look ∈ GT := gt_8 (List.mem_of_getElem? (i := 124) rfl) rfl
theorem mkX12_look : MkV yX12_look cX12_look 9 (some .int) 1 12 := ⟨gt_8 (List.mem_of_getElem? (i := 125) rfl) rfl, gt_8 (List.mem_of_getElem? (i := 126) rfl) rfl, gt_1 (List.mem_of_getElem? (i := 17) rfl) rfl, gt_8 (List.mem_of_getElem? (i := 127) rfl) rfl, ⟨by decide +kernel, by decide +kernel, by decide +kernel⟩, ⟨_, _, rfl⟩, by decide⟩
theorem lk_X12_499 : Cond.methodLink RX12 499 yX12_sets ∈ GT := gt_8 (List.mem_of_getElem? (i := 128) rfl) rfl
theorem lk_L_138 : Cond.methodLink RL 138 yX12_oil ∈ GT := gt_8 (List.mem_of_getElem? (i := 129) rfl) rfl
theorem mkX12_oil : MkV yX12_oil cX12_oil 1 (some .int) 0 12 := ⟨gt_8 (List.mem_of_getElem? (i := 130) rfl) rfl, gt_8 (List.mem_of_getElem? (i := 131) rfl) rfl, gt_1 (List.mem_of_getElem? (i := 17) rfl) rfl, gt_8 (List.mem_of_getElem? (i := 132) rfl) rfl, ⟨by decide +kernel, by decide +kernel, by decide +kernel⟩, ⟨_, _, rfl⟩, by decide⟩
theorem lk_L_144 : Cond.methodLink RL 144 yX12_share ∈ GT := gt_8 (List.mem_of_getElem? (i := 133) rfl) rfl
theorem mkX12_share : MkV yX12_share cX12_share 3 (some .int) 1 12 := ⟨gt_8 (List.mem_of_getElem? (i := 134) rfl) rfl, gt_8 (List.mem_of_getElem? (i := 135) rfl) rfl, gt_1 (List.mem_of_getElem? (i := 17) rfl) rfl, gt_8 (List.mem_of_getElem? (i := 136) rfl) rfl, ⟨by decide +kernel, by decide +kernel, by decide +kernel⟩, ⟨_, _, rfl⟩, by decide⟩
theorem lk_L_151 : Cond.methodLink RL 151 yX12_longer ∈ GT := gt_8 (List.mem_of_getElem? (i := 137) rfl) rfl
theorem mkX12_longer : MkV yX12_longer cX12_longer 2 (some .int) 1 12 := ⟨gt_8 (List.mem_of_getElem? (i := 138) rfl) rfl, gt_8 (List.mem_of_getElem? (i := 139) rfl) rfl, gt_1 (List.mem_of_getElem? (i := 17) rfl) rfl, gt_8 (List.mem_of_getElem? (i := 140) rfl) rfl, ⟨by decide +kernel, by decide +kernel, by decide +kernel⟩, ⟨_, _, rfl⟩, by decide⟩
theorem lk_L_155 : Cond.methodLink RL 155 yX12_rests ∈ GT := gt_8 (List.mem_of_getElem? (i := 141) rfl) rfl
theorem mkX12_rests : MkV yX12_rests cX12_rests 9 (some .int) 4 12 := ⟨gt_8 (List.mem_of_getElem? (i := 142) rfl) rfl, gt_8 (List.mem_of_getElem? (i := 143) rfl) rfl, gt_1 (List.mem_of_getElem? (i := 17) rfl) rfl, gt_8 (List.mem_of_getElem? (i := 144) rfl) rfl, ⟨by decide +kernel, by decide +kernel, by decide +kernel⟩, ⟨_, _, rfl⟩, by decide⟩
theorem lk_X12_502 : Cond.methodLink RX12 502 yX12_getsBy ∈ GT := gt_8 (List.mem_of_getElem? (i := 145) rfl) rfl
theorem mkX12_getsBy : MkS yX12_getsBy cX12_getsBy 5 (some .int) 5 := ⟨gt_8 (List.mem_of_getElem? (i := 146) rfl) rfl, gt_1 (List.mem_of_getElem? (i := 17) rfl) rfl, gt_8 (List.mem_of_getElem? (i := 147) rfl) rfl, ⟨by decide +kernel, by decide +kernel, by decide +kernel⟩, by decide⟩
theorem lk_L_160 : Cond.methodLink RL 160 yX12_nights ∈ GT := gt_8 (List.mem_of_getElem? (i := 148) rfl) rfl
theorem mkX12_nights : MkV yX12_nights cX12_nights 9 (some .int) 3 12 := ⟨gt_8 (List.mem_of_getElem? (i := 149) rfl) rfl, gt_8 (List.mem_of_getElem? (i := 150) rfl) rfl, gt_1 (List.mem_of_getElem? (i := 17) rfl) rfl, gt_8 (List.mem_of_getElem? (i := 151) rfl) rfl, ⟨by decide +kernel, by decide +kernel, by decide +kernel⟩, ⟨_, _, rfl⟩, by decide⟩
theorem lk_X12_517 : Cond.methodLink RX12 517 yX12_draws ∈ GT := gt_8 (List.mem_of_getElem? (i := 152) rfl) rfl
theorem mkX12_draws : MkV yX12_draws cX12_draws 2 (some .int) 1 12 := ⟨gt_8 (List.mem_of_getElem? (i := 154) rfl) rfl, gt_p 93 rfl rfl, gt_1 (List.mem_of_getElem? (i := 17) rfl) rfl, gt_8 (List.mem_of_getElem? (i := 155) rfl) rfl, ⟨by decide +kernel, by decide +kernel, by decide +kernel⟩, ⟨_, _, rfl⟩, by decide⟩
theorem cn_X12_509 : Cond.constantLong RX12 509 (1103515245) ∈ GT := gt_8 (List.mem_of_getElem? (i := 156) rfl) rfl
theorem cn_X12_511 : Cond.constantLong RX12 511 (12345) ∈ GT := gt_8 (List.mem_of_getElem? (i := 157) rfl) rfl
theorem cn_X12_513 : Cond.constantLong RX12 513 (2147483648) ∈ GT := gt_8 (List.mem_of_getElem? (i := 158) rfl) rfl
theorem cn_X12_515 : Cond.constantLong RX12 515 (65536) ∈ GT := gt_8 (List.mem_of_getElem? (i := 159) rfl) rfl
theorem lk_L_165 : Cond.methodLink RL 165 yX12_mark ∈ GT := gt_8 (List.mem_of_getElem? (i := 160) rfl) rfl
theorem mkX12_mark : MkV yX12_mark cX12_mark 5 (some .boolean) 2 12 := ⟨gt_8 (List.mem_of_getElem? (i := 161) rfl) rfl, gt_8 (List.mem_of_getElem? (i := 162) rfl) rfl, gt_1 (List.mem_of_getElem? (i := 17) rfl) rfl, gt_8 (List.mem_of_getElem? (i := 163) rfl) rfl, ⟨by decide +kernel, by decide +kernel, by decide +kernel⟩, ⟨_, _, rfl⟩, by decide⟩
theorem lk_X12_520 : Cond.methodLink RX12 520 yX12_laysWatched ∈ GT := gt_8 (List.mem_of_getElem? (i := 164) rfl) rfl
theorem mkX12_laysWatched : MkV yX12_laysWatched cX12_laysWatched 4 none 2 12 := ⟨gt_8 (List.mem_of_getElem? (i := 166) rfl) rfl, gt_p 94 rfl rfl, gt_1 (List.mem_of_getElem? (i := 17) rfl) rfl, gt_8 (List.mem_of_getElem? (i := 167) rfl) rfl, ⟨by decide +kernel, by decide +kernel, by decide +kernel⟩, ⟨_, _, rfl⟩, by decide⟩
theorem lk_L_169 : Cond.methodLink RL 169 yX12_count ∈ GT := gt_8 (List.mem_of_getElem? (i := 168) rfl) rfl
theorem mkX12_count : MkV yX12_count cX12_count 2 (some .int) 1 12 := ⟨gt_8 (List.mem_of_getElem? (i := 169) rfl) rfl, gt_8 (List.mem_of_getElem? (i := 170) rfl) rfl, gt_1 (List.mem_of_getElem? (i := 17) rfl) rfl, gt_8 (List.mem_of_getElem? (i := 171) rfl) rfl, ⟨by decide +kernel, by decide +kernel, by decide +kernel⟩, ⟨_, _, rfl⟩, by decide⟩
theorem cn_L_23 : Cond.constantLong RL 23 (4294967295) ∈ GT := gt_8 (List.mem_of_getElem? (i := 172) rfl) rfl
