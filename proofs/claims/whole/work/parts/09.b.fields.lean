theorem f_X0_9 : FLD RX0 9 0 0 (.array .char) true := ⟨_, _, _, _, cf0, by decide, Or.inl (gw_t 39 (by decide +kernel) rfl), rfl, rfl⟩
theorem ff_X0_9 : FLF RX0 9 0 0 (.array .char) := ⟨_, _, _, _, cf0, by decide, gw_t 39 (by decide +kernel) rfl, rfl, rfl, rfl⟩
theorem f_X0_15 : FLD RX0 15 0 1 (.int) false := ⟨_, _, _, _, cf0, by decide, Or.inl (gw_t 40 (by decide +kernel) rfl), rfl, rfl⟩
theorem f_X1_20 : FLD RX1 20 1 0 (.object "ChoiceParser$Node") false := ⟨_, _, _, _, cf1, by decide, Or.inl (gw_t 59 (by decide +kernel) rfl), rfl, rfl⟩
theorem f_X2_62 : FLD RX2 62 1 0 (.object "ChoiceParser$Node") false := ⟨_, _, _, _, cf1, by decide, Or.inr ⟨"ChoiceParser", List.mem_filter.mpr ⟨List.mem_append_right _ (List.mem_of_getElem? (i := 60) (by decide +kernel)), rfl⟩⟩, rfl, rfl⟩
theorem f_X1_14 : FLD RX1 14 1 1 (.object "ChoiceParser$Node") false := ⟨_, _, _, _, cf1, by decide, Or.inl (gw_t 61 (by decide +kernel) rfl), rfl, rfl⟩
theorem f_X3_61 : FLD RX3 61 1 1 (.object "ChoiceParser$Node") false := ⟨_, _, _, _, cf1, by decide, Or.inr ⟨"ChoiceParser", List.mem_filter.mpr ⟨List.mem_append_right _ (List.mem_of_getElem? (i := 62) (by decide +kernel)), rfl⟩⟩, rfl, rfl⟩
theorem f_X6_9 : FLD RX6 9 6 0 (.object "ChoiceParser$Characters") true := ⟨_, _, _, _, cf6, by decide, Or.inl (gw_t 68 (by decide +kernel) rfl), rfl, rfl⟩
theorem ff_X6_9 : FLF RX6 9 6 0 (.object "ChoiceParser$Characters") := ⟨_, _, _, _, cf6, by decide, gw_t 68 (by decide +kernel) rfl, rfl, rfl, rfl⟩
theorem f_X6_18 : FLD RX6 18 6 1 (.object "ChoiceParser$Expression") false := ⟨_, _, _, _, cf6, by decide, Or.inl (gw_t 69 (by decide +kernel) rfl), rfl, rfl⟩
theorem f_X6_22 : FLD RX6 22 6 2 (.int) false := ⟨_, _, _, _, cf6, by decide, Or.inl (gw_t 70 (by decide +kernel) rfl), rfl, rfl⟩
theorem f_X6_26 : FLD RX6 26 6 3 (.int) false := ⟨_, _, _, _, cf6, by decide, Or.inl (gw_t 71 (by decide +kernel) rfl), rfl, rfl⟩
theorem f_X2_11 : FLD RX2 11 2 0 (.array (.object "ChoiceParser$Expression")) true := ⟨_, _, _, _, cf2, by decide, Or.inl (gw_t 89 (by decide +kernel) rfl), rfl, rfl⟩
theorem ff_X2_11 : FLF RX2 11 2 0 (.array (.object "ChoiceParser$Expression")) := ⟨_, _, _, _, cf2, by decide, gw_t 89 (by decide +kernel) rfl, rfl, rfl, rfl⟩
theorem f_X2_17 : FLD RX2 17 2 1 (.int) false := ⟨_, _, _, _, cf2, by decide, Or.inl (gw_t 90 (by decide +kernel) rfl), rfl, rfl⟩
theorem f_X4_9 : FLD RX4 9 4 0 (.array .int) true := ⟨_, _, _, _, cf4, by decide, Or.inl (gw_t 105 (by decide +kernel) rfl), rfl, rfl⟩
theorem ff_X4_9 : FLF RX4 9 4 0 (.array .int) := ⟨_, _, _, _, cf4, by decide, gw_t 105 (by decide +kernel) rfl, rfl, rfl, rfl⟩
theorem f_X4_15 : FLD RX4 15 4 1 (.array .int) true := ⟨_, _, _, _, cf4, by decide, Or.inl (gw_t 106 (by decide +kernel) rfl), rfl, rfl⟩
theorem ff_X4_15 : FLF RX4 15 4 1 (.array .int) := ⟨_, _, _, _, cf4, by decide, gw_t 106 (by decide +kernel) rfl, rfl, rfl, rfl⟩
theorem f_X4_18 : FLD RX4 18 4 2 (.array .byte) true := ⟨_, _, _, _, cf4, by decide, Or.inl (gw_t 107 (by decide +kernel) rfl), rfl, rfl⟩
theorem ff_X4_18 : FLF RX4 18 4 2 (.array .byte) := ⟨_, _, _, _, cf4, by decide, gw_t 107 (by decide +kernel) rfl, rfl, rfl, rfl⟩
theorem f_X3_9 : FLD RX3 9 3 0 (.object "ChoiceParser$Grammar") true := ⟨_, _, _, _, cf3, by decide, Or.inl (gw_t 123 (by decide +kernel) rfl), rfl, rfl⟩
theorem ff_X3_9 : FLF RX3 9 3 0 (.object "ChoiceParser$Grammar") := ⟨_, _, _, _, cf3, by decide, gw_t 123 (by decide +kernel) rfl, rfl, rfl, rfl⟩
theorem f_X3_15 : FLD RX3 15 3 1 (.object "ChoiceParser$Characters") true := ⟨_, _, _, _, cf3, by decide, Or.inl (gw_t 124 (by decide +kernel) rfl), rfl, rfl⟩
theorem ff_X3_15 : FLF RX3 15 3 1 (.object "ChoiceParser$Characters") := ⟨_, _, _, _, cf3, by decide, gw_t 124 (by decide +kernel) rfl, rfl, rfl, rfl⟩
theorem f_X3_19 : FLD RX3 19 3 2 (.object "ChoiceParser$Memory") true := ⟨_, _, _, _, cf3, by decide, Or.inl (gw_t 125 (by decide +kernel) rfl), rfl, rfl⟩
theorem ff_X3_19 : FLF RX3 19 3 2 (.object "ChoiceParser$Memory") := ⟨_, _, _, _, cf3, by decide, gw_t 125 (by decide +kernel) rfl, rfl, rfl, rfl⟩
theorem f_X3_23 : FLD RX3 23 3 3 (.int) false := ⟨_, _, _, _, cf3, by decide, Or.inl (gw_t 126 (by decide +kernel) rfl), rfl, rfl⟩
theorem f_X3_27 : FLD RX3 27 3 4 (.int) false := ⟨_, _, _, _, cf3, by decide, Or.inl (gw_t 127 (by decide +kernel) rfl), rfl, rfl⟩
theorem f_X7_13 : FLD RX7 13 7 0 (.array (.array .int)) true := ⟨_, _, _, _, cf7, by decide, Or.inl (gw_t 147 (by decide +kernel) rfl), rfl, rfl⟩
theorem ff_X7_13 : FLF RX7 13 7 0 (.array (.array .int)) := ⟨_, _, _, _, cf7, by decide, gw_t 147 (by decide +kernel) rfl, rfl, rfl, rfl⟩
theorem f_X7_16 : FLD RX7 16 7 1 (.int) false := ⟨_, _, _, _, cf7, by decide, Or.inl (gw_t 148 (by decide +kernel) rfl), rfl, rfl⟩
theorem f_X8_14 : FLD RX8 14 8 0 (.object "ChoiceParser$Characters") true := ⟨_, _, _, _, cf8, by decide, Or.inl (gw_t 154 (by decide +kernel) rfl), rfl, rfl⟩
theorem ff_X8_14 : FLF RX8 14 8 0 (.object "ChoiceParser$Characters") := ⟨_, _, _, _, cf8, by decide, gw_t 154 (by decide +kernel) rfl, rfl, rfl, rfl⟩
theorem f_X8_18 : FLD RX8 18 8 1 (.object "ChoiceParser$Characters") true := ⟨_, _, _, _, cf8, by decide, Or.inl (gw_t 155 (by decide +kernel) rfl), rfl, rfl⟩
theorem ff_X8_18 : FLF RX8 18 8 1 (.object "ChoiceParser$Characters") := ⟨_, _, _, _, cf8, by decide, gw_t 155 (by decide +kernel) rfl, rfl, rfl, rfl⟩
theorem f_X8_26 : FLD RX8 26 8 2 (.object "ChoiceParser$TextReader") true := ⟨_, _, _, _, cf8, by decide, Or.inl (gw_t 156 (by decide +kernel) rfl), rfl, rfl⟩
theorem ff_X8_26 : FLF RX8 26 8 2 (.object "ChoiceParser$TextReader") := ⟨_, _, _, _, cf8, by decide, gw_t 156 (by decide +kernel) rfl, rfl, rfl, rfl⟩
theorem f_X8_33 : FLD RX8 33 8 3 (.object "ChoiceParser$Grammar") true := ⟨_, _, _, _, cf8, by decide, Or.inl (gw_t 157 (by decide +kernel) rfl), rfl, rfl⟩
theorem ff_X8_33 : FLF RX8 33 8 3 (.object "ChoiceParser$Grammar") := ⟨_, _, _, _, cf8, by decide, gw_t 157 (by decide +kernel) rfl, rfl, rfl, rfl⟩
theorem f_X8_40 : FLD RX8 40 8 4 (.object "ChoiceParser$Memory") true := ⟨_, _, _, _, cf8, by decide, Or.inl (gw_t 158 (by decide +kernel) rfl), rfl, rfl⟩
theorem ff_X8_40 : FLF RX8 40 8 4 (.object "ChoiceParser$Memory") := ⟨_, _, _, _, cf8, by decide, gw_t 158 (by decide +kernel) rfl, rfl, rfl, rfl⟩
theorem f_X8_49 : FLD RX8 49 8 5 (.object "ChoiceParser$Matcher") true := ⟨_, _, _, _, cf8, by decide, Or.inl (gw_t 159 (by decide +kernel) rfl), rfl, rfl⟩
theorem ff_X8_49 : FLF RX8 49 8 5 (.object "ChoiceParser$Matcher") := ⟨_, _, _, _, cf8, by decide, gw_t 159 (by decide +kernel) rfl, rfl, rfl, rfl⟩
theorem f_X8_56 : FLD RX8 56 8 6 (.object "ChoiceParser$Tree") true := ⟨_, _, _, _, cf8, by decide, Or.inl (gw_t 160 (by decide +kernel) rfl), rfl, rfl⟩
theorem ff_X8_56 : FLF RX8 56 8 6 (.object "ChoiceParser$Tree") := ⟨_, _, _, _, cf8, by decide, gw_t 160 (by decide +kernel) rfl, rfl, rfl, rfl⟩
theorem f_X5_7 : FLD RX5 7 5 0 (.int) true := ⟨_, _, _, _, cf5, by decide, Or.inl (gw_t 331 (by decide +kernel) rfl), rfl, rfl⟩
theorem ff_X5_7 : FLF RX5 7 5 0 (.int) := ⟨_, _, _, _, cf5, by decide, gw_t 331 (by decide +kernel) rfl, rfl, rfl, rfl⟩
theorem f_X1_34 : FLD RX1 34 5 0 (.int) true := ⟨_, _, _, _, cf5, by decide, Or.inr ⟨"ChoiceParser", List.mem_filter.mpr ⟨List.mem_append_right _ (List.mem_of_getElem? (i := 332) (by decide +kernel)), rfl⟩⟩, rfl, rfl⟩
theorem f_X3_74 : FLD RX3 74 5 0 (.int) true := ⟨_, _, _, _, cf5, by decide, Or.inr ⟨"ChoiceParser", List.mem_filter.mpr ⟨List.mem_append_right _ (List.mem_of_getElem? (i := 333) (by decide +kernel)), rfl⟩⟩, rfl, rfl⟩
theorem f_X2_78 : FLD RX2 78 5 0 (.int) true := ⟨_, _, _, _, cf5, by decide, Or.inr ⟨"ChoiceParser", List.mem_filter.mpr ⟨List.mem_append_right _ (List.mem_of_getElem? (i := 334) (by decide +kernel)), rfl⟩⟩, rfl, rfl⟩
theorem f_X5_13 : FLD RX5 13 5 1 (.int) true := ⟨_, _, _, _, cf5, by decide, Or.inl (gw_t 335 (by decide +kernel) rfl), rfl, rfl⟩
theorem ff_X5_13 : FLF RX5 13 5 1 (.int) := ⟨_, _, _, _, cf5, by decide, gw_t 335 (by decide +kernel) rfl, rfl, rfl, rfl⟩
theorem f_X1_37 : FLD RX1 37 5 1 (.int) true := ⟨_, _, _, _, cf5, by decide, Or.inr ⟨"ChoiceParser", List.mem_filter.mpr ⟨List.mem_append_right _ (List.mem_of_getElem? (i := 336) (by decide +kernel)), rfl⟩⟩, rfl, rfl⟩
theorem f_X3_83 : FLD RX3 83 5 1 (.int) true := ⟨_, _, _, _, cf5, by decide, Or.inr ⟨"ChoiceParser", List.mem_filter.mpr ⟨List.mem_append_right _ (List.mem_of_getElem? (i := 337) (by decide +kernel)), rfl⟩⟩, rfl, rfl⟩
theorem f_X2_81 : FLD RX2 81 5 1 (.int) true := ⟨_, _, _, _, cf5, by decide, Or.inr ⟨"ChoiceParser", List.mem_filter.mpr ⟨List.mem_append_right _ (List.mem_of_getElem? (i := 338) (by decide +kernel)), rfl⟩⟩, rfl, rfl⟩
theorem f_X5_16 : FLD RX5 16 5 2 (.int) true := ⟨_, _, _, _, cf5, by decide, Or.inl (gw_t 339 (by decide +kernel) rfl), rfl, rfl⟩
theorem ff_X5_16 : FLF RX5 16 5 2 (.int) := ⟨_, _, _, _, cf5, by decide, gw_t 339 (by decide +kernel) rfl, rfl, rfl, rfl⟩
theorem f_X3_107 : FLD RX3 107 5 2 (.int) true := ⟨_, _, _, _, cf5, by decide, Or.inr ⟨"ChoiceParser", List.mem_filter.mpr ⟨List.mem_append_right _ (List.mem_of_getElem? (i := 340) (by decide +kernel)), rfl⟩⟩, rfl, rfl⟩
theorem f_X5_19 : FLD RX5 19 5 3 (.object "ChoiceParser$Node") true := ⟨_, _, _, _, cf5, by decide, Or.inl (gw_t 341 (by decide +kernel) rfl), rfl, rfl⟩
theorem ff_X5_19 : FLF RX5 19 5 3 (.object "ChoiceParser$Node") := ⟨_, _, _, _, cf5, by decide, gw_t 341 (by decide +kernel) rfl, rfl, rfl, rfl⟩
theorem f_X3_89 : FLD RX3 89 5 3 (.object "ChoiceParser$Node") true := ⟨_, _, _, _, cf5, by decide, Or.inr ⟨"ChoiceParser", List.mem_filter.mpr ⟨List.mem_append_right _ (List.mem_of_getElem? (i := 342) (by decide +kernel)), rfl⟩⟩, rfl, rfl⟩
theorem f_X2_88 : FLD RX2 88 5 3 (.object "ChoiceParser$Node") true := ⟨_, _, _, _, cf5, by decide, Or.inr ⟨"ChoiceParser", List.mem_filter.mpr ⟨List.mem_append_right _ (List.mem_of_getElem? (i := 343) (by decide +kernel)), rfl⟩⟩, rfl, rfl⟩
theorem f_X6_52 : FLD RX6 52 5 4 (.object "ChoiceParser$Node") false := ⟨_, _, _, _, cf5, by decide, Or.inr ⟨"ChoiceParser", List.mem_filter.mpr ⟨List.mem_append_right _ (List.mem_of_getElem? (i := 344) (by decide +kernel)), rfl⟩⟩, rfl, rfl⟩
theorem f_X3_117 : FLD RX3 117 5 4 (.object "ChoiceParser$Node") false := ⟨_, _, _, _, cf5, by decide, Or.inr ⟨"ChoiceParser", List.mem_filter.mpr ⟨List.mem_append_right _ (List.mem_of_getElem? (i := 345) (by decide +kernel)), rfl⟩⟩, rfl, rfl⟩
theorem f_X2_101 : FLD RX2 101 5 4 (.object "ChoiceParser$Node") false := ⟨_, _, _, _, cf5, by decide, Or.inr ⟨"ChoiceParser", List.mem_filter.mpr ⟨List.mem_append_right _ (List.mem_of_getElem? (i := 346) (by decide +kernel)), rfl⟩⟩, rfl, rfl⟩
theorem f_X1_23 : FLD RX1 23 5 5 (.object "ChoiceParser$Node") false := ⟨_, _, _, _, cf5, by decide, Or.inr ⟨"ChoiceParser", List.mem_filter.mpr ⟨List.mem_append_right _ (List.mem_of_getElem? (i := 347) (by decide +kernel)), rfl⟩⟩, rfl, rfl⟩
theorem f_X2_75 : FLD RX2 75 5 5 (.object "ChoiceParser$Node") false := ⟨_, _, _, _, cf5, by decide, Or.inr ⟨"ChoiceParser", List.mem_filter.mpr ⟨List.mem_append_right _ (List.mem_of_getElem? (i := 348) (by decide +kernel)), rfl⟩⟩, rfl, rfl⟩
theorem f_X1_26 : FLD RX1 26 5 6 (.int) false := ⟨_, _, _, _, cf5, by decide, Or.inr ⟨"ChoiceParser", List.mem_filter.mpr ⟨List.mem_append_right _ (List.mem_of_getElem? (i := 349) (by decide +kernel)), rfl⟩⟩, rfl, rfl⟩
theorem f_X2_70 : FLD RX2 70 5 6 (.int) false := ⟨_, _, _, _, cf5, by decide, Or.inr ⟨"ChoiceParser", List.mem_filter.mpr ⟨List.mem_append_right _ (List.mem_of_getElem? (i := 350) (by decide +kernel)), rfl⟩⟩, rfl, rfl⟩
theorem f_X1_30 : FLD RX1 30 5 7 (.boolean) false := ⟨_, _, _, _, cf5, by decide, Or.inr ⟨"ChoiceParser", List.mem_filter.mpr ⟨List.mem_append_right _ (List.mem_of_getElem? (i := 351) (by decide +kernel)), rfl⟩⟩, rfl, rfl⟩
theorem f_X2_121 : FLD RX2 121 5 7 (.boolean) false := ⟨_, _, _, _, cf5, by decide, Or.inr ⟨"ChoiceParser", List.mem_filter.mpr ⟨List.mem_append_right _ (List.mem_of_getElem? (i := 352) (by decide +kernel)), rfl⟩⟩, rfl, rfl⟩
theorem f_X9_105 : FLD RX9 105 9 0 (.int) false := ⟨_, _, _, _, cf9, by decide, Or.inl (gw_t 831 (by decide +kernel) rfl), rfl, rfl⟩
theorem f_X9_120 : FLD RX9 120 9 1 (.int) false := ⟨_, _, _, _, cf9, by decide, Or.inl (gw_t 832 (by decide +kernel) rfl), rfl, rfl⟩
theorem f_X9_7 : FLD RX9 7 9 2 (.array .char) true := ⟨_, _, _, _, cf9, by decide, Or.inl (gw_t 833 (by decide +kernel) rfl), rfl, rfl⟩
theorem ff_X9_7 : FLF RX9 7 9 2 (.array .char) := ⟨_, _, _, _, cf9, by decide, gw_t 833 (by decide +kernel) rfl, rfl, rfl, rfl⟩
theorem f_X9_168 : FLD RX9 168 9 3 (.int) false := ⟨_, _, _, _, cf9, by decide, Or.inl (gw_t 834 (by decide +kernel) rfl), rfl, rfl⟩
theorem f_X9_13 : FLD RX9 13 9 4 (.array .int) true := ⟨_, _, _, _, cf9, by decide, Or.inl (gw_t 835 (by decide +kernel) rfl), rfl, rfl⟩
theorem ff_X9_13 : FLF RX9 13 9 4 (.array .int) := ⟨_, _, _, _, cf9, by decide, gw_t 835 (by decide +kernel) rfl, rfl, rfl, rfl⟩
theorem f_X9_17 : FLD RX9 17 9 5 (.array .int) true := ⟨_, _, _, _, cf9, by decide, Or.inl (gw_t 836 (by decide +kernel) rfl), rfl, rfl⟩
theorem ff_X9_17 : FLF RX9 17 9 5 (.array .int) := ⟨_, _, _, _, cf9, by decide, gw_t 836 (by decide +kernel) rfl, rfl, rfl, rfl⟩
theorem f_X9_20 : FLD RX9 20 9 6 (.array .int) true := ⟨_, _, _, _, cf9, by decide, Or.inl (gw_t 837 (by decide +kernel) rfl), rfl, rfl⟩
theorem ff_X9_20 : FLF RX9 20 9 6 (.array .int) := ⟨_, _, _, _, cf9, by decide, gw_t 837 (by decide +kernel) rfl, rfl, rfl, rfl⟩
theorem f_X9_23 : FLD RX9 23 9 7 (.array .int) true := ⟨_, _, _, _, cf9, by decide, Or.inl (gw_t 838 (by decide +kernel) rfl), rfl, rfl⟩
theorem ff_X9_23 : FLF RX9 23 9 7 (.array .int) := ⟨_, _, _, _, cf9, by decide, gw_t 838 (by decide +kernel) rfl, rfl, rfl, rfl⟩
theorem f_X9_26 : FLD RX9 26 9 8 (.array .int) true := ⟨_, _, _, _, cf9, by decide, Or.inl (gw_t 839 (by decide +kernel) rfl), rfl, rfl⟩
theorem ff_X9_26 : FLF RX9 26 9 8 (.array .int) := ⟨_, _, _, _, cf9, by decide, gw_t 839 (by decide +kernel) rfl, rfl, rfl, rfl⟩
theorem f_X9_29 : FLD RX9 29 9 9 (.array .boolean) true := ⟨_, _, _, _, cf9, by decide, Or.inl (gw_t 840 (by decide +kernel) rfl), rfl, rfl⟩
theorem ff_X9_29 : FLF RX9 29 9 9 (.array .boolean) := ⟨_, _, _, _, cf9, by decide, gw_t 840 (by decide +kernel) rfl, rfl, rfl, rfl⟩
theorem f_X9_33 : FLD RX9 33 9 10 (.array .int) true := ⟨_, _, _, _, cf9, by decide, Or.inl (gw_t 841 (by decide +kernel) rfl), rfl, rfl⟩
theorem ff_X9_33 : FLF RX9 33 9 10 (.array .int) := ⟨_, _, _, _, cf9, by decide, gw_t 841 (by decide +kernel) rfl, rfl, rfl, rfl⟩
theorem f_X9_36 : FLD RX9 36 9 11 (.array .int) true := ⟨_, _, _, _, cf9, by decide, Or.inl (gw_t 842 (by decide +kernel) rfl), rfl, rfl⟩
theorem ff_X9_36 : FLF RX9 36 9 11 (.array .int) := ⟨_, _, _, _, cf9, by decide, gw_t 842 (by decide +kernel) rfl, rfl, rfl, rfl⟩
theorem f_X9_39 : FLD RX9 39 9 12 (.array .boolean) true := ⟨_, _, _, _, cf9, by decide, Or.inl (gw_t 843 (by decide +kernel) rfl), rfl, rfl⟩
theorem ff_X9_39 : FLF RX9 39 9 12 (.array .boolean) := ⟨_, _, _, _, cf9, by decide, gw_t 843 (by decide +kernel) rfl, rfl, rfl, rfl⟩
theorem f_X9_42 : FLD RX9 42 9 13 (.array .int) true := ⟨_, _, _, _, cf9, by decide, Or.inl (gw_t 844 (by decide +kernel) rfl), rfl, rfl⟩
theorem ff_X9_42 : FLF RX9 42 9 13 (.array .int) := ⟨_, _, _, _, cf9, by decide, gw_t 844 (by decide +kernel) rfl, rfl, rfl, rfl⟩
theorem f_X9_231 : FLD RX9 231 9 14 (.int) false := ⟨_, _, _, _, cf9, by decide, Or.inl (gw_t 845 (by decide +kernel) rfl), rfl, rfl⟩
theorem f_X9_225 : FLD RX9 225 9 15 (.int) false := ⟨_, _, _, _, cf9, by decide, Or.inl (gw_t 846 (by decide +kernel) rfl), rfl, rfl⟩
theorem f_X9_207 : FLD RX9 207 9 16 (.int) false := ⟨_, _, _, _, cf9, by decide, Or.inl (gw_t 847 (by decide +kernel) rfl), rfl, rfl⟩
theorem f_X9_45 : FLD RX9 45 9 17 (.array .int) true := ⟨_, _, _, _, cf9, by decide, Or.inl (gw_t 848 (by decide +kernel) rfl), rfl, rfl⟩
theorem ff_X9_45 : FLF RX9 45 9 17 (.array .int) := ⟨_, _, _, _, cf9, by decide, gw_t 848 (by decide +kernel) rfl, rfl, rfl, rfl⟩
theorem f_X9_48 : FLD RX9 48 9 18 (.array .int) true := ⟨_, _, _, _, cf9, by decide, Or.inl (gw_t 849 (by decide +kernel) rfl), rfl, rfl⟩
theorem ff_X9_48 : FLF RX9 48 9 18 (.array .int) := ⟨_, _, _, _, cf9, by decide, gw_t 849 (by decide +kernel) rfl, rfl, rfl, rfl⟩
theorem f_X9_51 : FLD RX9 51 9 19 (.array .int) true := ⟨_, _, _, _, cf9, by decide, Or.inl (gw_t 850 (by decide +kernel) rfl), rfl, rfl⟩
theorem ff_X9_51 : FLF RX9 51 9 19 (.array .int) := ⟨_, _, _, _, cf9, by decide, gw_t 850 (by decide +kernel) rfl, rfl, rfl, rfl⟩
theorem f_X9_54 : FLD RX9 54 9 20 (.array .boolean) true := ⟨_, _, _, _, cf9, by decide, Or.inl (gw_t 851 (by decide +kernel) rfl), rfl, rfl⟩
theorem ff_X9_54 : FLF RX9 54 9 20 (.array .boolean) := ⟨_, _, _, _, cf9, by decide, gw_t 851 (by decide +kernel) rfl, rfl, rfl, rfl⟩
theorem f_X9_57 : FLD RX9 57 9 21 (.array .int) true := ⟨_, _, _, _, cf9, by decide, Or.inl (gw_t 852 (by decide +kernel) rfl), rfl, rfl⟩
theorem ff_X9_57 : FLF RX9 57 9 21 (.array .int) := ⟨_, _, _, _, cf9, by decide, gw_t 852 (by decide +kernel) rfl, rfl, rfl, rfl⟩
theorem f_X9_228 : FLD RX9 228 9 22 (.int) false := ⟨_, _, _, _, cf9, by decide, Or.inl (gw_t 853 (by decide +kernel) rfl), rfl, rfl⟩
theorem f_X9_217 : FLD RX9 217 9 23 (.boolean) false := ⟨_, _, _, _, cf9, by decide, Or.inl (gw_t 854 (by decide +kernel) rfl), rfl, rfl⟩
theorem f_X9_210 : FLD RX9 210 9 24 (.int) false := ⟨_, _, _, _, cf9, by decide, Or.inl (gw_t 855 (by decide +kernel) rfl), rfl, rfl⟩
theorem f_X9_60 : FLD RX9 60 9 25 (.array .int) true := ⟨_, _, _, _, cf9, by decide, Or.inl (gw_t 856 (by decide +kernel) rfl), rfl, rfl⟩
theorem ff_X9_60 : FLF RX9 60 9 25 (.array .int) := ⟨_, _, _, _, cf9, by decide, gw_t 856 (by decide +kernel) rfl, rfl, rfl, rfl⟩
theorem f_X9_63 : FLD RX9 63 9 26 (.array .int) true := ⟨_, _, _, _, cf9, by decide, Or.inl (gw_t 857 (by decide +kernel) rfl), rfl, rfl⟩
theorem ff_X9_63 : FLF RX9 63 9 26 (.array .int) := ⟨_, _, _, _, cf9, by decide, gw_t 857 (by decide +kernel) rfl, rfl, rfl, rfl⟩
theorem f_X9_66 : FLD RX9 66 9 27 (.array .int) true := ⟨_, _, _, _, cf9, by decide, Or.inl (gw_t 858 (by decide +kernel) rfl), rfl, rfl⟩
theorem ff_X9_66 : FLF RX9 66 9 27 (.array .int) := ⟨_, _, _, _, cf9, by decide, gw_t 858 (by decide +kernel) rfl, rfl, rfl, rfl⟩
theorem f_X9_246 : FLD RX9 246 9 28 (.int) false := ⟨_, _, _, _, cf9, by decide, Or.inl (gw_t 859 (by decide +kernel) rfl), rfl, rfl⟩
theorem f_X9_69 : FLD RX9 69 9 29 (.array .int) true := ⟨_, _, _, _, cf9, by decide, Or.inl (gw_t 860 (by decide +kernel) rfl), rfl, rfl⟩
theorem ff_X9_69 : FLF RX9 69 9 29 (.array .int) := ⟨_, _, _, _, cf9, by decide, gw_t 860 (by decide +kernel) rfl, rfl, rfl, rfl⟩
theorem f_X9_72 : FLD RX9 72 9 30 (.array .int) true := ⟨_, _, _, _, cf9, by decide, Or.inl (gw_t 861 (by decide +kernel) rfl), rfl, rfl⟩
theorem ff_X9_72 : FLF RX9 72 9 30 (.array .int) := ⟨_, _, _, _, cf9, by decide, gw_t 861 (by decide +kernel) rfl, rfl, rfl, rfl⟩
theorem f_X9_75 : FLD RX9 75 9 31 (.array .int) true := ⟨_, _, _, _, cf9, by decide, Or.inl (gw_t 862 (by decide +kernel) rfl), rfl, rfl⟩
theorem ff_X9_75 : FLF RX9 75 9 31 (.array .int) := ⟨_, _, _, _, cf9, by decide, gw_t 862 (by decide +kernel) rfl, rfl, rfl, rfl⟩
theorem f_X9_78 : FLD RX9 78 9 32 (.array .int) true := ⟨_, _, _, _, cf9, by decide, Or.inl (gw_t 863 (by decide +kernel) rfl), rfl, rfl⟩
theorem ff_X9_78 : FLF RX9 78 9 32 (.array .int) := ⟨_, _, _, _, cf9, by decide, gw_t 863 (by decide +kernel) rfl, rfl, rfl, rfl⟩
theorem f_X9_81 : FLD RX9 81 9 33 (.array .int) true := ⟨_, _, _, _, cf9, by decide, Or.inl (gw_t 864 (by decide +kernel) rfl), rfl, rfl⟩
theorem ff_X9_81 : FLF RX9 81 9 33 (.array .int) := ⟨_, _, _, _, cf9, by decide, gw_t 864 (by decide +kernel) rfl, rfl, rfl, rfl⟩
theorem f_X9_84 : FLD RX9 84 9 34 (.array .int) true := ⟨_, _, _, _, cf9, by decide, Or.inl (gw_t 865 (by decide +kernel) rfl), rfl, rfl⟩
theorem ff_X9_84 : FLF RX9 84 9 34 (.array .int) := ⟨_, _, _, _, cf9, by decide, gw_t 865 (by decide +kernel) rfl, rfl, rfl, rfl⟩
theorem f_X9_131 : FLD RX9 131 9 35 (.int) false := ⟨_, _, _, _, cf9, by decide, Or.inl (gw_t 866 (by decide +kernel) rfl), rfl, rfl⟩
theorem f_X9_134 : FLD RX9 134 9 36 (.int) false := ⟨_, _, _, _, cf9, by decide, Or.inl (gw_t 867 (by decide +kernel) rfl), rfl, rfl⟩
theorem f_X9_87 : FLD RX9 87 9 37 (.array .int) true := ⟨_, _, _, _, cf9, by decide, Or.inl (gw_t 868 (by decide +kernel) rfl), rfl, rfl⟩
theorem ff_X9_87 : FLF RX9 87 9 37 (.array .int) := ⟨_, _, _, _, cf9, by decide, gw_t 868 (by decide +kernel) rfl, rfl, rfl, rfl⟩
theorem f_X9_137 : FLD RX9 137 9 38 (.int) false := ⟨_, _, _, _, cf9, by decide, Or.inl (gw_t 869 (by decide +kernel) rfl), rfl, rfl⟩
theorem f_X9_90 : FLD RX9 90 9 39 (.array .int) true := ⟨_, _, _, _, cf9, by decide, Or.inl (gw_t 870 (by decide +kernel) rfl), rfl, rfl⟩
theorem ff_X9_90 : FLF RX9 90 9 39 (.array .int) := ⟨_, _, _, _, cf9, by decide, gw_t 870 (by decide +kernel) rfl, rfl, rfl, rfl⟩
theorem f_X9_93 : FLD RX9 93 9 40 (.array .int) true := ⟨_, _, _, _, cf9, by decide, Or.inl (gw_t 871 (by decide +kernel) rfl), rfl, rfl⟩
theorem ff_X9_93 : FLF RX9 93 9 40 (.array .int) := ⟨_, _, _, _, cf9, by decide, gw_t 871 (by decide +kernel) rfl, rfl, rfl, rfl⟩
theorem f_X9_96 : FLD RX9 96 9 41 (.array .int) true := ⟨_, _, _, _, cf9, by decide, Or.inl (gw_t 872 (by decide +kernel) rfl), rfl, rfl⟩
theorem ff_X9_96 : FLF RX9 96 9 41 (.array .int) := ⟨_, _, _, _, cf9, by decide, gw_t 872 (by decide +kernel) rfl, rfl, rfl, rfl⟩
theorem f_X9_99 : FLD RX9 99 9 42 (.array .char) true := ⟨_, _, _, _, cf9, by decide, Or.inl (gw_t 873 (by decide +kernel) rfl), rfl, rfl⟩
theorem ff_X9_99 : FLF RX9 99 9 42 (.array .char) := ⟨_, _, _, _, cf9, by decide, gw_t 873 (by decide +kernel) rfl, rfl, rfl, rfl⟩
