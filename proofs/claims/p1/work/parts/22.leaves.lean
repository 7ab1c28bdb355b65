theorem lf_5_0 : xfin (xev 114 20 xlaw 18 xlo0 [] xh0 [(.gt, .int 0, .sub (.arg 49) (.int 6), false), (.lt, .int 0, .arg 49, true), (.eq, .op2 .iand (.arg 0) (.int 63), .int 5, true), (.lt, .int 1, .arg 49, true), (.eq, .arg 1, .int 0, true), (.lt, .int 1, .arg 49, true), (.eq, .arg 1, .int 0, true), (.gt, .int 6, .sub (.arg 49) (.int 6), true)]) = true := by decide +kernel
theorem lf_5_1 : xfin (xev 113 20 xlaw 18 xlo0 [] xh0 [(.gt, .int 0, .sub (.arg 49) (.int 6), false), (.lt, .int 0, .arg 49, true), (.eq, .op2 .iand (.arg 0) (.int 63), .int 5, true), (.lt, .int 1, .arg 49, true), (.eq, .arg 1, .int 1, true), (.lt, .int 1, .arg 49, true), (.eq, .arg 1, .int 1, true), (.gt, .int 6, .sub (.arg 49) (.int 6), true)]) = true := by decide +kernel
theorem lf_5_2 : xfin (xev 114 20 xlaw 18 xlo0 [] xh0 [(.gt, .int 0, .sub (.arg 49) (.int 6), false), (.lt, .int 0, .arg 49, true), (.eq, .op2 .iand (.arg 0) (.int 63), .int 5, true), (.lt, .int 1, .arg 49, true), (.eq, .arg 1, .int 2, true), (.lt, .int 1, .arg 49, true), (.eq, .arg 1, .int 2, true), (.gt, .int 6, .sub (.arg 49) (.int 6), true)]) = true := by decide +kernel
theorem lf_5_3 : xfin (xev 113 20 xlaw 18 xlo0 [] xh0 [(.gt, .int 0, .sub (.arg 49) (.int 6), false), (.lt, .int 0, .arg 49, true), (.eq, .op2 .iand (.arg 0) (.int 63), .int 5, true), (.lt, .int 1, .arg 49, true), (.eq, .arg 1, .int 3, true), (.lt, .int 1, .arg 49, true), (.eq, .arg 1, .int 3, true), (.gt, .int 6, .sub (.arg 49) (.int 6), true)]) = true := by decide +kernel
theorem lf_5_4 : xfin (xev 114 20 xlaw 18 xlo0 [] xh0 [(.gt, .int 0, .sub (.arg 49) (.int 6), false), (.lt, .int 0, .arg 49, true), (.eq, .op2 .iand (.arg 0) (.int 63), .int 5, true), (.lt, .int 1, .arg 49, true), (.eq, .arg 1, .int 4, true), (.lt, .int 1, .arg 49, true), (.eq, .arg 1, .int 4, true), (.gt, .int 6, .sub (.arg 49) (.int 6), true)]) = true := by decide +kernel
theorem lf_5_5 : xfin (xev 113 20 xlaw 18 xlo0 [] xh0 [(.gt, .int 0, .sub (.arg 49) (.int 6), false), (.lt, .int 0, .arg 49, true), (.eq, .op2 .iand (.arg 0) (.int 63), .int 5, true), (.lt, .int 1, .arg 49, true), (.eq, .arg 1, .int 5, true), (.lt, .int 1, .arg 49, true), (.eq, .arg 1, .int 5, true), (.gt, .int 6, .sub (.arg 49) (.int 6), true)]) = true := by decide +kernel
theorem lf_5_6 : xfin (xev 114 20 xlaw 18 xlo0 [] xh0 [(.gt, .int 0, .sub (.arg 49) (.int 6), false), (.lt, .int 0, .arg 49, true), (.eq, .op2 .iand (.arg 0) (.int 63), .int 5, true), (.lt, .int 1, .arg 49, true), (.eq, .arg 1, .int 6, true), (.lt, .int 1, .arg 49, true), (.eq, .arg 1, .int 6, true), (.gt, .int 6, .sub (.arg 49) (.int 6), true)]) = true := by decide +kernel
theorem lf_5_7 : xfin (xev 113 20 xlaw 18 xlo0 [] xh0 [(.gt, .int 0, .sub (.arg 49) (.int 6), false), (.lt, .int 0, .arg 49, true), (.eq, .op2 .iand (.arg 0) (.int 63), .int 5, true), (.lt, .int 1, .arg 49, true), (.eq, .arg 1, .int 7, true), (.lt, .int 1, .arg 49, true), (.eq, .arg 1, .int 7, true), (.gt, .int 6, .sub (.arg 49) (.int 6), true)]) = true := by decide +kernel
theorem lf_5_8 : xfin (xev 114 20 xlaw 18 xlo0 [] xh0 [(.gt, .int 0, .sub (.arg 49) (.int 6), false), (.lt, .int 0, .arg 49, true), (.eq, .op2 .iand (.arg 0) (.int 63), .int 5, true), (.lt, .int 1, .arg 49, true), (.eq, .arg 1, .int 8, true), (.lt, .int 1, .arg 49, true), (.eq, .arg 1, .int 8, true), (.gt, .int 6, .sub (.arg 49) (.int 6), true)]) = true := by decide +kernel
theorem lf_5_9 : xfin (xev 113 20 xlaw 18 xlo0 [] xh0 [(.gt, .int 0, .sub (.arg 49) (.int 6), false), (.lt, .int 0, .arg 49, true), (.eq, .op2 .iand (.arg 0) (.int 63), .int 5, true), (.lt, .int 1, .arg 49, true), (.eq, .arg 1, .int 9, true), (.lt, .int 1, .arg 49, true), (.eq, .arg 1, .int 9, true), (.gt, .int 6, .sub (.arg 49) (.int 6), true)]) = true := by decide +kernel
theorem lf_5_10 : xfin (xev 114 20 xlaw 18 xlo0 [] xh0 [(.gt, .int 0, .sub (.arg 49) (.int 6), false), (.lt, .int 0, .arg 49, true), (.eq, .op2 .iand (.arg 0) (.int 63), .int 5, true), (.lt, .int 1, .arg 49, true), (.eq, .arg 1, .int 10, true), (.lt, .int 1, .arg 49, true), (.eq, .arg 1, .int 10, true), (.gt, .int 6, .sub (.arg 49) (.int 6), true)]) = true := by decide +kernel
theorem lf_5_11 : xfin (xev 113 20 xlaw 18 xlo0 [] xh0 [(.gt, .int 0, .sub (.arg 49) (.int 6), false), (.lt, .int 0, .arg 49, true), (.eq, .op2 .iand (.arg 0) (.int 63), .int 5, true), (.lt, .int 1, .arg 49, true), (.eq, .arg 1, .int 11, true), (.lt, .int 1, .arg 49, true), (.eq, .arg 1, .int 11, true), (.gt, .int 6, .sub (.arg 49) (.int 6), true)]) = true := by decide +kernel
theorem lf_5_12 : xfin (xev 114 20 xlaw 18 xlo0 [] xh0 [(.gt, .int 0, .sub (.arg 49) (.int 6), false), (.lt, .int 0, .arg 49, true), (.eq, .op2 .iand (.arg 0) (.int 63), .int 5, true), (.lt, .int 1, .arg 49, true), (.eq, .arg 1, .int 12, true), (.lt, .int 1, .arg 49, true), (.eq, .arg 1, .int 12, true), (.gt, .int 6, .sub (.arg 49) (.int 6), true)]) = true := by decide +kernel
theorem lf_5_13 : xfin (xev 113 20 xlaw 18 xlo0 [] xh0 [(.gt, .int 0, .sub (.arg 49) (.int 6), false), (.lt, .int 0, .arg 49, true), (.eq, .op2 .iand (.arg 0) (.int 63), .int 5, true), (.lt, .int 1, .arg 49, true), (.eq, .arg 1, .int 13, true), (.lt, .int 1, .arg 49, true), (.eq, .arg 1, .int 13, true), (.gt, .int 6, .sub (.arg 49) (.int 6), true)]) = true := by decide +kernel
theorem lf_5_14 : xfin (xev 114 20 xlaw 18 xlo0 [] xh0 [(.gt, .int 0, .sub (.arg 49) (.int 6), false), (.lt, .int 0, .arg 49, true), (.eq, .op2 .iand (.arg 0) (.int 63), .int 5, true), (.lt, .int 1, .arg 49, true), (.eq, .arg 1, .int 14, true), (.lt, .int 1, .arg 49, true), (.eq, .arg 1, .int 14, true), (.gt, .int 6, .sub (.arg 49) (.int 6), true)]) = true := by decide +kernel
theorem lf_5_15 : xfin (xev 113 20 xlaw 18 xlo0 [] xh0 [(.gt, .int 0, .sub (.arg 49) (.int 6), false), (.lt, .int 0, .arg 49, true), (.eq, .op2 .iand (.arg 0) (.int 63), .int 5, true), (.lt, .int 1, .arg 49, true), (.eq, .arg 1, .int 15, true), (.lt, .int 1, .arg 49, true), (.eq, .arg 1, .int 15, true), (.gt, .int 6, .sub (.arg 49) (.int 6), true)]) = true := by decide +kernel
theorem lf_5_16 : xfin (xev 114 20 xlaw 18 xlo0 [] xh0 [(.gt, .int 0, .sub (.arg 49) (.int 6), false), (.lt, .int 0, .arg 49, true), (.eq, .op2 .iand (.arg 0) (.int 63), .int 5, true), (.lt, .int 1, .arg 49, true), (.eq, .arg 1, .int 16, true), (.lt, .int 1, .arg 49, true), (.eq, .arg 1, .int 16, true), (.gt, .int 6, .sub (.arg 49) (.int 6), true)]) = true := by decide +kernel
theorem lf_5_17 : xfin (xev 113 20 xlaw 18 xlo0 [] xh0 [(.gt, .int 0, .sub (.arg 49) (.int 6), false), (.lt, .int 0, .arg 49, true), (.eq, .op2 .iand (.arg 0) (.int 63), .int 5, true), (.lt, .int 1, .arg 49, true), (.eq, .arg 1, .int 17, true), (.lt, .int 1, .arg 49, true), (.eq, .arg 1, .int 17, true), (.gt, .int 6, .sub (.arg 49) (.int 6), true)]) = true := by decide +kernel
theorem lf_5_18 : xfin (xev 114 20 xlaw 18 xlo0 [] xh0 [(.gt, .int 0, .sub (.arg 49) (.int 6), false), (.lt, .int 0, .arg 49, true), (.eq, .op2 .iand (.arg 0) (.int 63), .int 5, true), (.lt, .int 1, .arg 49, true), (.eq, .arg 1, .int 18, true), (.lt, .int 1, .arg 49, true), (.eq, .arg 1, .int 18, true), (.gt, .int 6, .sub (.arg 49) (.int 6), true)]) = true := by decide +kernel
theorem lf_5_19 : xfin (xev 113 20 xlaw 18 xlo0 [] xh0 [(.gt, .int 0, .sub (.arg 49) (.int 6), false), (.lt, .int 0, .arg 49, true), (.eq, .op2 .iand (.arg 0) (.int 63), .int 5, true), (.lt, .int 1, .arg 49, true), (.eq, .arg 1, .int 19, true), (.lt, .int 1, .arg 49, true), (.eq, .arg 1, .int 19, true), (.gt, .int 6, .sub (.arg 49) (.int 6), true)]) = true := by decide +kernel
theorem lf_5_20 : xfin (xev 114 20 xlaw 18 xlo0 [] xh0 [(.gt, .int 0, .sub (.arg 49) (.int 6), false), (.lt, .int 0, .arg 49, true), (.eq, .op2 .iand (.arg 0) (.int 63), .int 5, true), (.lt, .int 1, .arg 49, true), (.eq, .arg 1, .int 20, true), (.lt, .int 1, .arg 49, true), (.eq, .arg 1, .int 20, true), (.gt, .int 6, .sub (.arg 49) (.int 6), true)]) = true := by decide +kernel
theorem lf_5_21 : xfin (xev 113 20 xlaw 18 xlo0 [] xh0 [(.gt, .int 0, .sub (.arg 49) (.int 6), false), (.lt, .int 0, .arg 49, true), (.eq, .op2 .iand (.arg 0) (.int 63), .int 5, true), (.lt, .int 1, .arg 49, true), (.eq, .arg 1, .int 21, true), (.lt, .int 1, .arg 49, true), (.eq, .arg 1, .int 21, true), (.gt, .int 6, .sub (.arg 49) (.int 6), true)]) = true := by decide +kernel
theorem lf_5_22 : xfin (xev 114 20 xlaw 18 xlo0 [] xh0 [(.gt, .int 0, .sub (.arg 49) (.int 6), false), (.lt, .int 0, .arg 49, true), (.eq, .op2 .iand (.arg 0) (.int 63), .int 5, true), (.lt, .int 1, .arg 49, true), (.eq, .arg 1, .int 22, true), (.lt, .int 1, .arg 49, true), (.eq, .arg 1, .int 22, true), (.gt, .int 6, .sub (.arg 49) (.int 6), true)]) = true := by decide +kernel
theorem lf_5_23 : xfin (xev 113 20 xlaw 18 xlo0 [] xh0 [(.gt, .int 0, .sub (.arg 49) (.int 6), false), (.lt, .int 0, .arg 49, true), (.eq, .op2 .iand (.arg 0) (.int 63), .int 5, true), (.lt, .int 1, .arg 49, true), (.eq, .arg 1, .int 23, true), (.lt, .int 1, .arg 49, true), (.eq, .arg 1, .int 23, true), (.gt, .int 6, .sub (.arg 49) (.int 6), true)]) = true := by decide +kernel
theorem lf_5_24 : xfin (xev 114 20 xlaw 18 xlo0 [] xh0 [(.gt, .int 0, .sub (.arg 49) (.int 6), false), (.lt, .int 0, .arg 49, true), (.eq, .op2 .iand (.arg 0) (.int 63), .int 5, true), (.lt, .int 1, .arg 49, true), (.eq, .arg 1, .int 24, true), (.lt, .int 1, .arg 49, true), (.eq, .arg 1, .int 24, true), (.gt, .int 6, .sub (.arg 49) (.int 6), true)]) = true := by decide +kernel
theorem lf_5_25 : xfin (xev 113 20 xlaw 18 xlo0 [] xh0 [(.gt, .int 0, .sub (.arg 49) (.int 6), false), (.lt, .int 0, .arg 49, true), (.eq, .op2 .iand (.arg 0) (.int 63), .int 5, true), (.lt, .int 1, .arg 49, true), (.eq, .arg 1, .int 25, true), (.lt, .int 1, .arg 49, true), (.eq, .arg 1, .int 25, true), (.gt, .int 6, .sub (.arg 49) (.int 6), true)]) = true := by decide +kernel
theorem lf_5_26 : xfin (xev 114 20 xlaw 18 xlo0 [] xh0 [(.gt, .int 0, .sub (.arg 49) (.int 6), false), (.lt, .int 0, .arg 49, true), (.eq, .op2 .iand (.arg 0) (.int 63), .int 5, true), (.lt, .int 1, .arg 49, true), (.eq, .arg 1, .int 26, true), (.lt, .int 1, .arg 49, true), (.eq, .arg 1, .int 26, true), (.gt, .int 6, .sub (.arg 49) (.int 6), true)]) = true := by decide +kernel
theorem lf_5_27 : xfin (xev 113 20 xlaw 18 xlo0 [] xh0 [(.gt, .int 0, .sub (.arg 49) (.int 6), false), (.lt, .int 0, .arg 49, true), (.eq, .op2 .iand (.arg 0) (.int 63), .int 5, true), (.lt, .int 1, .arg 49, true), (.eq, .arg 1, .int 27, true), (.lt, .int 1, .arg 49, true), (.eq, .arg 1, .int 27, true), (.gt, .int 6, .sub (.arg 49) (.int 6), true)]) = true := by decide +kernel
theorem lf_5_28 : xfin (xev 114 20 xlaw 18 xlo0 [] xh0 [(.gt, .int 0, .sub (.arg 49) (.int 6), false), (.lt, .int 0, .arg 49, true), (.eq, .op2 .iand (.arg 0) (.int 63), .int 5, true), (.lt, .int 1, .arg 49, true), (.eq, .arg 1, .int 28, true), (.lt, .int 1, .arg 49, true), (.eq, .arg 1, .int 28, true), (.gt, .int 6, .sub (.arg 49) (.int 6), true)]) = true := by decide +kernel
theorem lf_5_29 : xfin (xev 113 20 xlaw 18 xlo0 [] xh0 [(.gt, .int 0, .sub (.arg 49) (.int 6), false), (.lt, .int 0, .arg 49, true), (.eq, .op2 .iand (.arg 0) (.int 63), .int 5, true), (.lt, .int 1, .arg 49, true), (.eq, .arg 1, .int 29, true), (.lt, .int 1, .arg 49, true), (.eq, .arg 1, .int 29, true), (.gt, .int 6, .sub (.arg 49) (.int 6), true)]) = true := by decide +kernel
theorem lf_5_30 : xfin (xev 114 20 xlaw 18 xlo0 [] xh0 [(.gt, .int 0, .sub (.arg 49) (.int 6), false), (.lt, .int 0, .arg 49, true), (.eq, .op2 .iand (.arg 0) (.int 63), .int 5, true), (.lt, .int 1, .arg 49, true), (.eq, .arg 1, .int 30, true), (.lt, .int 1, .arg 49, true), (.eq, .arg 1, .int 30, true), (.gt, .int 6, .sub (.arg 49) (.int 6), true)]) = true := by decide +kernel
theorem lf_5_31 : xfin (xev 113 20 xlaw 18 xlo0 [] xh0 [(.gt, .int 0, .sub (.arg 49) (.int 6), false), (.lt, .int 0, .arg 49, true), (.eq, .op2 .iand (.arg 0) (.int 63), .int 5, true), (.lt, .int 1, .arg 49, true), (.eq, .arg 1, .int 31, true), (.lt, .int 1, .arg 49, true), (.eq, .arg 1, .int 31, true), (.gt, .int 6, .sub (.arg 49) (.int 6), true)]) = true := by decide +kernel
theorem lf_5_32 : xfin (xev 114 20 xlaw 18 xlo0 [] xh0 [(.gt, .int 0, .sub (.arg 49) (.int 6), false), (.lt, .int 0, .arg 49, true), (.eq, .op2 .iand (.arg 0) (.int 63), .int 5, true), (.lt, .int 1, .arg 49, true), (.eq, .arg 1, .int 32, true), (.lt, .int 1, .arg 49, true), (.eq, .arg 1, .int 32, true), (.gt, .int 6, .sub (.arg 49) (.int 6), true)]) = true := by decide +kernel
theorem lf_5_33 : xfin (xev 113 20 xlaw 18 xlo0 [] xh0 [(.gt, .int 0, .sub (.arg 49) (.int 6), false), (.lt, .int 0, .arg 49, true), (.eq, .op2 .iand (.arg 0) (.int 63), .int 5, true), (.lt, .int 1, .arg 49, true), (.eq, .arg 1, .int 33, true), (.lt, .int 1, .arg 49, true), (.eq, .arg 1, .int 33, true), (.gt, .int 6, .sub (.arg 49) (.int 6), true)]) = true := by decide +kernel
theorem lf_5_34 : xfin (xev 114 20 xlaw 18 xlo0 [] xh0 [(.gt, .int 0, .sub (.arg 49) (.int 6), false), (.lt, .int 0, .arg 49, true), (.eq, .op2 .iand (.arg 0) (.int 63), .int 5, true), (.lt, .int 1, .arg 49, true), (.eq, .arg 1, .int 34, true), (.lt, .int 1, .arg 49, true), (.eq, .arg 1, .int 34, true), (.gt, .int 6, .sub (.arg 49) (.int 6), true)]) = true := by decide +kernel
theorem lf_5_35 : xfin (xev 113 20 xlaw 18 xlo0 [] xh0 [(.gt, .int 0, .sub (.arg 49) (.int 6), false), (.lt, .int 0, .arg 49, true), (.eq, .op2 .iand (.arg 0) (.int 63), .int 5, true), (.lt, .int 1, .arg 49, true), (.eq, .arg 1, .int 35, true), (.lt, .int 1, .arg 49, true), (.eq, .arg 1, .int 35, true), (.gt, .int 6, .sub (.arg 49) (.int 6), true)]) = true := by decide +kernel
theorem lf_5_36 : xfin (xev 114 20 xlaw 18 xlo0 [] xh0 [(.gt, .int 0, .sub (.arg 49) (.int 6), false), (.lt, .int 0, .arg 49, true), (.eq, .op2 .iand (.arg 0) (.int 63), .int 5, true), (.lt, .int 1, .arg 49, true), (.eq, .arg 1, .int 36, true), (.lt, .int 1, .arg 49, true), (.eq, .arg 1, .int 36, true), (.gt, .int 6, .sub (.arg 49) (.int 6), true)]) = true := by decide +kernel
theorem lf_5_37 : xfin (xev 113 20 xlaw 18 xlo0 [] xh0 [(.gt, .int 0, .sub (.arg 49) (.int 6), false), (.lt, .int 0, .arg 49, true), (.eq, .op2 .iand (.arg 0) (.int 63), .int 5, true), (.lt, .int 1, .arg 49, true), (.eq, .arg 1, .int 37, true), (.lt, .int 1, .arg 49, true), (.eq, .arg 1, .int 37, true), (.gt, .int 6, .sub (.arg 49) (.int 6), true)]) = true := by decide +kernel
theorem lf_5_38 : xfin (xev 114 20 xlaw 18 xlo0 [] xh0 [(.gt, .int 0, .sub (.arg 49) (.int 6), false), (.lt, .int 0, .arg 49, true), (.eq, .op2 .iand (.arg 0) (.int 63), .int 5, true), (.lt, .int 1, .arg 49, true), (.eq, .arg 1, .int 38, true), (.lt, .int 1, .arg 49, true), (.eq, .arg 1, .int 38, true), (.gt, .int 6, .sub (.arg 49) (.int 6), true)]) = true := by decide +kernel
theorem lf_5_39 : xfin (xev 113 20 xlaw 18 xlo0 [] xh0 [(.gt, .int 0, .sub (.arg 49) (.int 6), false), (.lt, .int 0, .arg 49, true), (.eq, .op2 .iand (.arg 0) (.int 63), .int 5, true), (.lt, .int 1, .arg 49, true), (.eq, .arg 1, .int 39, true), (.lt, .int 1, .arg 49, true), (.eq, .arg 1, .int 39, true), (.gt, .int 6, .sub (.arg 49) (.int 6), true)]) = true := by decide +kernel
theorem lf_5_40 : xfin (xev 123 20 xlaw 18 xlo0 [] xh0 [(.gt, .int 0, .sub (.arg 49) (.int 6), false), (.lt, .int 0, .arg 49, true), (.eq, .op2 .iand (.arg 0) (.int 63), .int 5, true), (.lt, .int 1, .arg 49, true), (.eq, .arg 1, .int 40, true), (.lt, .int 1, .arg 49, true), (.eq, .arg 1, .int 40, true), (.gt, .int 6, .sub (.arg 49) (.int 6), true)]) = true := by decide +kernel
theorem lf_5_41 : xfin (xev 123 20 xlaw 18 xlo0 [] xh0 [(.gt, .int 0, .sub (.arg 49) (.int 6), false), (.lt, .int 0, .arg 49, true), (.eq, .op2 .iand (.arg 0) (.int 63), .int 5, true), (.lt, .int 1, .arg 49, true), (.eq, .arg 1, .int 41, true), (.lt, .int 1, .arg 49, true), (.eq, .arg 1, .int 41, true), (.gt, .int 6, .sub (.arg 49) (.int 6), true)]) = true := by decide +kernel
theorem lf_5_42 : xfin (xev 123 20 xlaw 18 xlo0 [] xh0 [(.gt, .int 0, .sub (.arg 49) (.int 6), false), (.lt, .int 0, .arg 49, true), (.eq, .op2 .iand (.arg 0) (.int 63), .int 5, true), (.lt, .int 1, .arg 49, true), (.eq, .arg 1, .int 42, true), (.lt, .int 1, .arg 49, true), (.eq, .arg 1, .int 42, true), (.gt, .int 6, .sub (.arg 49) (.int 6), true)]) = true := by decide +kernel
theorem lf_5_43 : xfin (xev 123 20 xlaw 18 xlo0 [] xh0 [(.gt, .int 0, .sub (.arg 49) (.int 6), false), (.lt, .int 0, .arg 49, true), (.eq, .op2 .iand (.arg 0) (.int 63), .int 5, true), (.lt, .int 1, .arg 49, true), (.eq, .arg 1, .int 43, true), (.lt, .int 1, .arg 49, true), (.eq, .arg 1, .int 43, true), (.gt, .int 6, .sub (.arg 49) (.int 6), true)]) = true := by decide +kernel
theorem lf_5_44 : xfin (xev 123 20 xlaw 18 xlo0 [] xh0 [(.gt, .int 0, .sub (.arg 49) (.int 6), false), (.lt, .int 0, .arg 49, true), (.eq, .op2 .iand (.arg 0) (.int 63), .int 5, true), (.lt, .int 1, .arg 49, true), (.eq, .arg 1, .int 44, true), (.lt, .int 1, .arg 49, true), (.eq, .arg 1, .int 44, true), (.gt, .int 6, .sub (.arg 49) (.int 6), true)]) = true := by decide +kernel
theorem lf_5_45 : xfin (xev 123 20 xlaw 18 xlo0 [] xh0 [(.gt, .int 0, .sub (.arg 49) (.int 6), false), (.lt, .int 0, .arg 49, true), (.eq, .op2 .iand (.arg 0) (.int 63), .int 5, true), (.lt, .int 1, .arg 49, true), (.eq, .arg 1, .int 45, true), (.lt, .int 1, .arg 49, true), (.eq, .arg 1, .int 45, true), (.gt, .int 6, .sub (.arg 49) (.int 6), true)]) = true := by decide +kernel
theorem lf_5_46 : xfin (xev 123 20 xlaw 18 xlo0 [] xh0 [(.gt, .int 0, .sub (.arg 49) (.int 6), false), (.lt, .int 0, .arg 49, true), (.eq, .op2 .iand (.arg 0) (.int 63), .int 5, true), (.lt, .int 1, .arg 49, true), (.eq, .arg 1, .int 46, true), (.lt, .int 1, .arg 49, true), (.eq, .arg 1, .int 46, true), (.gt, .int 6, .sub (.arg 49) (.int 6), true)]) = true := by decide +kernel
theorem lf_5_47 : xfin (xev 123 20 xlaw 18 xlo0 [] xh0 [(.gt, .int 0, .sub (.arg 49) (.int 6), false), (.lt, .int 0, .arg 49, true), (.eq, .op2 .iand (.arg 0) (.int 63), .int 5, true), (.lt, .int 1, .arg 49, true), (.eq, .arg 1, .int 47, true), (.lt, .int 1, .arg 49, true), (.eq, .arg 1, .int 47, true), (.gt, .int 6, .sub (.arg 49) (.int 6), true)]) = true := by decide +kernel
theorem lf_5_48 : xfin (xev 123 20 xlaw 18 xlo0 [] xh0 [(.gt, .int 0, .sub (.arg 49) (.int 6), false), (.lt, .int 0, .arg 49, true), (.eq, .op2 .iand (.arg 0) (.int 63), .int 5, true), (.lt, .int 1, .arg 49, true), (.eq, .arg 1, .int 48, true), (.lt, .int 1, .arg 49, true), (.eq, .arg 1, .int 48, true), (.gt, .int 6, .sub (.arg 49) (.int 6), true)]) = true := by decide +kernel
theorem lf_5_49 : xfin (xev 123 20 xlaw 18 xlo0 [] xh0 [(.gt, .int 0, .sub (.arg 49) (.int 6), false), (.lt, .int 0, .arg 49, true), (.eq, .op2 .iand (.arg 0) (.int 63), .int 5, true), (.lt, .int 1, .arg 49, true), (.eq, .arg 1, .int 49, true), (.lt, .int 1, .arg 49, true), (.eq, .arg 1, .int 49, true), (.gt, .int 6, .sub (.arg 49) (.int 6), true)]) = true := by decide +kernel
theorem lf_5_50 : xfin (xev 112 20 xlaw 18 xlo0 [] xh0 [(.gt, .int 0, .sub (.arg 49) (.int 6), false), (.lt, .int 0, .arg 49, true), (.eq, .op2 .iand (.arg 0) (.int 63), .int 5, true), (.lt, .int 1, .arg 49, true), (.eq, .arg 1, .int 50, true), (.lt, .int 1, .arg 49, true), (.eq, .arg 1, .int 50, true), (.gt, .int 6, .sub (.arg 49) (.int 6), true)]) = true := by decide +kernel
theorem lf_5_51 : xfin (xev 118 20 xlaw 18 xlo0 [] xh0 [(.gt, .int 0, .sub (.arg 49) (.int 6), false), (.lt, .int 0, .arg 49, true), (.eq, .op2 .iand (.arg 0) (.int 63), .int 5, true), (.lt, .int 1, .arg 49, true), (.eq, .arg 1, .int 51, true), (.lt, .int 1, .arg 49, true), (.eq, .arg 1, .int 51, true), (.gt, .int 6, .sub (.arg 49) (.int 6), true)]) = true := by decide +kernel
theorem lf_5_52 : xfin (xev 123 20 xlaw 18 xlo0 [] xh0 [(.gt, .int 0, .sub (.arg 49) (.int 6), false), (.lt, .int 0, .arg 49, true), (.eq, .op2 .iand (.arg 0) (.int 63), .int 5, true), (.lt, .int 1, .arg 49, true), (.eq, .arg 1, .int 52, true), (.lt, .int 1, .arg 49, true), (.eq, .arg 1, .int 52, true), (.gt, .int 6, .sub (.arg 49) (.int 6), true)]) = true := by decide +kernel
theorem lf_5_53 : xfin (xev 123 20 xlaw 18 xlo0 [] xh0 [(.gt, .int 0, .sub (.arg 49) (.int 6), false), (.lt, .int 0, .arg 49, true), (.eq, .op2 .iand (.arg 0) (.int 63), .int 5, true), (.lt, .int 1, .arg 49, true), (.eq, .arg 1, .int 53, true), (.lt, .int 1, .arg 49, true), (.eq, .arg 1, .int 53, true), (.gt, .int 6, .sub (.arg 49) (.int 6), true)]) = true := by decide +kernel
theorem lf_5_54 : xfin (xev 142 20 xlaw 18 xlo0 [] xh0 [(.gt, .int 0, .sub (.arg 49) (.int 6), false), (.lt, .int 0, .arg 49, true), (.eq, .op2 .iand (.arg 0) (.int 63), .int 5, true), (.lt, .int 1, .arg 49, true), (.eq, .arg 1, .int 60, true), (.lt, .int 1, .arg 49, true), (.eq, .arg 1, .int 60, true), (.gt, .int 6, .sub (.arg 49) (.int 6), true)]) = true := by decide +kernel
theorem lf_5_55 : xfin (xev 148 20 xlaw 18 xlo0 [] xh0 [(.gt, .int 0, .sub (.arg 49) (.int 6), false), (.lt, .int 0, .arg 49, true), (.eq, .op2 .iand (.arg 0) (.int 63), .int 5, true), (.lt, .int 1, .arg 49, true), (.eq, .arg 1, .int 61, true), (.lt, .int 1, .arg 49, true), (.eq, .arg 1, .int 61, true), (.gt, .int 6, .sub (.arg 49) (.int 6), true)]) = true := by decide +kernel
theorem lf_5_56 : xfin (xev 148 20 xlaw 18 xlo0 [] xh0 [(.gt, .int 0, .sub (.arg 49) (.int 6), false), (.lt, .int 0, .arg 49, true), (.eq, .op2 .iand (.arg 0) (.int 63), .int 5, true), (.lt, .int 1, .arg 49, true), (.eq, .arg 1, .int 62, true), (.lt, .int 1, .arg 49, true), (.eq, .arg 1, .int 62, true), (.gt, .int 6, .sub (.arg 49) (.int 6), true)]) = true := by decide +kernel
theorem lf_5_57 : xfin (xev 148 20 xlaw 18 xlo0 [] xh0 [(.gt, .int 0, .sub (.arg 49) (.int 6), false), (.lt, .int 0, .arg 49, true), (.eq, .op2 .iand (.arg 0) (.int 63), .int 5, true), (.lt, .int 1, .arg 49, true), (.eq, .arg 1, .int 63, true), (.lt, .int 1, .arg 49, true), (.eq, .arg 1, .int 63, true), (.gt, .int 6, .sub (.arg 49) (.int 6), true)]) = true := by decide +kernel
theorem lf_5_58 : xfin (xev 148 20 xlaw 18 xlo0 [] xh0 [(.gt, .int 0, .sub (.arg 49) (.int 6), false), (.lt, .int 0, .arg 49, true), (.eq, .op2 .iand (.arg 0) (.int 63), .int 5, true), (.lt, .int 1, .arg 49, true), (.eq, .arg 1, .int 64, true), (.lt, .int 1, .arg 49, true), (.eq, .arg 1, .int 64, true), (.gt, .int 6, .sub (.arg 49) (.int 6), true)]) = true := by decide +kernel
theorem lf_5_59 : xfin (xev 148 20 xlaw 18 xlo0 [] xh0 [(.gt, .int 0, .sub (.arg 49) (.int 6), false), (.lt, .int 0, .arg 49, true), (.eq, .op2 .iand (.arg 0) (.int 63), .int 5, true), (.lt, .int 1, .arg 49, true), (.eq, .arg 1, .int 65, true), (.lt, .int 1, .arg 49, true), (.eq, .arg 1, .int 65, true), (.gt, .int 6, .sub (.arg 49) (.int 6), true)]) = true := by decide +kernel
theorem lf_5_60 : xfin (xev 148 20 xlaw 18 xlo0 [] xh0 [(.gt, .int 0, .sub (.arg 49) (.int 6), false), (.lt, .int 0, .arg 49, true), (.eq, .op2 .iand (.arg 0) (.int 63), .int 5, true), (.lt, .int 1, .arg 49, true), (.eq, .arg 1, .int 66, true), (.lt, .int 1, .arg 49, true), (.eq, .arg 1, .int 66, true), (.gt, .int 6, .sub (.arg 49) (.int 6), true)]) = true := by decide +kernel
theorem lf_5_61 : xfin (xev 148 20 xlaw 18 xlo0 [] xh0 [(.gt, .int 0, .sub (.arg 49) (.int 6), false), (.lt, .int 0, .arg 49, true), (.eq, .op2 .iand (.arg 0) (.int 63), .int 5, true), (.lt, .int 1, .arg 49, true), (.eq, .arg 1, .int 67, true), (.lt, .int 1, .arg 49, true), (.eq, .arg 1, .int 67, true), (.gt, .int 6, .sub (.arg 49) (.int 6), true)]) = true := by decide +kernel
theorem lf_5_62 : xfin (xev 148 20 xlaw 18 xlo0 [] xh0 [(.gt, .int 0, .sub (.arg 49) (.int 6), false), (.lt, .int 0, .arg 49, true), (.eq, .op2 .iand (.arg 0) (.int 63), .int 5, true), (.lt, .int 1, .arg 49, true), (.eq, .arg 1, .int 68, true), (.lt, .int 1, .arg 49, true), (.eq, .arg 1, .int 68, true), (.gt, .int 6, .sub (.arg 49) (.int 6), true)]) = true := by decide +kernel
theorem lf_5_63 : xfin (xev 148 20 xlaw 18 xlo0 [] xh0 [(.gt, .int 0, .sub (.arg 49) (.int 6), false), (.lt, .int 0, .arg 49, true), (.eq, .op2 .iand (.arg 0) (.int 63), .int 5, true), (.lt, .int 1, .arg 49, true), (.eq, .arg 1, .int 69, true), (.lt, .int 1, .arg 49, true), (.eq, .arg 1, .int 69, true), (.gt, .int 6, .sub (.arg 49) (.int 6), true)]) = true := by decide +kernel
theorem lf_5_64 : xfin (xev 148 20 xlaw 18 xlo0 [] xh0 [(.gt, .int 0, .sub (.arg 49) (.int 6), false), (.lt, .int 0, .arg 49, true), (.eq, .op2 .iand (.arg 0) (.int 63), .int 5, true), (.lt, .int 1, .arg 49, true), (.eq, .arg 1, .int 70, true), (.lt, .int 1, .arg 49, true), (.eq, .arg 1, .int 70, true), (.gt, .int 6, .sub (.arg 49) (.int 6), true)]) = true := by decide +kernel
theorem lf_5_65 : xfin (xev 148 20 xlaw 18 xlo0 [] xh0 [(.gt, .int 0, .sub (.arg 49) (.int 6), false), (.lt, .int 0, .arg 49, true), (.eq, .op2 .iand (.arg 0) (.int 63), .int 5, true), (.lt, .int 1, .arg 49, true), (.eq, .arg 1, .int 71, true), (.lt, .int 1, .arg 49, true), (.eq, .arg 1, .int 71, true), (.gt, .int 6, .sub (.arg 49) (.int 6), true)]) = true := by decide +kernel
theorem lf_5_66 : xfin (xev 148 20 xlaw 18 xlo0 [] xh0 [(.gt, .int 0, .sub (.arg 49) (.int 6), false), (.lt, .int 0, .arg 49, true), (.eq, .op2 .iand (.arg 0) (.int 63), .int 5, true), (.lt, .int 1, .arg 49, true), (.eq, .arg 1, .int 72, true), (.lt, .int 1, .arg 49, true), (.eq, .arg 1, .int 72, true), (.gt, .int 6, .sub (.arg 49) (.int 6), true)]) = true := by decide +kernel
theorem lf_5_67 : xfin (xev 148 20 xlaw 18 xlo0 [] xh0 [(.gt, .int 0, .sub (.arg 49) (.int 6), false), (.lt, .int 0, .arg 49, true), (.eq, .op2 .iand (.arg 0) (.int 63), .int 5, true), (.lt, .int 1, .arg 49, true), (.eq, .arg 1, .int 73, true), (.lt, .int 1, .arg 49, true), (.eq, .arg 1, .int 73, true), (.gt, .int 6, .sub (.arg 49) (.int 6), true)]) = true := by decide +kernel
theorem lf_5_68 : xfin (xev 148 20 xlaw 18 xlo0 [] xh0 [(.gt, .int 0, .sub (.arg 49) (.int 6), false), (.lt, .int 0, .arg 49, true), (.eq, .op2 .iand (.arg 0) (.int 63), .int 5, true), (.lt, .int 1, .arg 49, true), (.eq, .arg 1, .int 74, true), (.lt, .int 1, .arg 49, true), (.eq, .arg 1, .int 74, true), (.gt, .int 6, .sub (.arg 49) (.int 6), true)]) = true := by decide +kernel
theorem lf_5_69 : xfin (xev 148 20 xlaw 18 xlo0 [] xh0 [(.gt, .int 0, .sub (.arg 49) (.int 6), false), (.lt, .int 0, .arg 49, true), (.eq, .op2 .iand (.arg 0) (.int 63), .int 5, true), (.lt, .int 1, .arg 49, true), (.eq, .arg 1, .int 75, true), (.lt, .int 1, .arg 49, true), (.eq, .arg 1, .int 75, true), (.gt, .int 6, .sub (.arg 49) (.int 6), true)]) = true := by decide +kernel
theorem lf_5_70 : xfin (xev 148 20 xlaw 18 xlo0 [] xh0 [(.gt, .int 0, .sub (.arg 49) (.int 6), false), (.lt, .int 0, .arg 49, true), (.eq, .op2 .iand (.arg 0) (.int 63), .int 5, true), (.lt, .int 1, .arg 49, true), (.eq, .arg 1, .int 76, true), (.lt, .int 1, .arg 49, true), (.eq, .arg 1, .int 76, true), (.gt, .int 6, .sub (.arg 49) (.int 6), true)]) = true := by decide +kernel
theorem lf_5_71 : xfin (xev 148 20 xlaw 18 xlo0 [] xh0 [(.gt, .int 0, .sub (.arg 49) (.int 6), false), (.lt, .int 0, .arg 49, true), (.eq, .op2 .iand (.arg 0) (.int 63), .int 5, true), (.lt, .int 1, .arg 49, true), (.eq, .arg 1, .int 77, true), (.lt, .int 1, .arg 49, true), (.eq, .arg 1, .int 77, true), (.gt, .int 6, .sub (.arg 49) (.int 6), true)]) = true := by decide +kernel
theorem lf_5_72 : xfin (xev 148 20 xlaw 18 xlo0 [] xh0 [(.gt, .int 0, .sub (.arg 49) (.int 6), false), (.lt, .int 0, .arg 49, true), (.eq, .op2 .iand (.arg 0) (.int 63), .int 5, true), (.lt, .int 1, .arg 49, true), (.eq, .arg 1, .int 78, true), (.lt, .int 1, .arg 49, true), (.eq, .arg 1, .int 78, true), (.gt, .int 6, .sub (.arg 49) (.int 6), true)]) = true := by decide +kernel
theorem lf_5_73 : xfin (xev 148 20 xlaw 18 xlo0 [] xh0 [(.gt, .int 0, .sub (.arg 49) (.int 6), false), (.lt, .int 0, .arg 49, true), (.eq, .op2 .iand (.arg 0) (.int 63), .int 5, true), (.lt, .int 1, .arg 49, true), (.eq, .arg 1, .int 79, true), (.lt, .int 1, .arg 49, true), (.eq, .arg 1, .int 79, true), (.gt, .int 6, .sub (.arg 49) (.int 6), true)]) = true := by decide +kernel
theorem lf_5_74 : xfin (xev 148 20 xlaw 18 xlo0 [] xh0 [(.gt, .int 0, .sub (.arg 49) (.int 6), false), (.lt, .int 0, .arg 49, true), (.eq, .op2 .iand (.arg 0) (.int 63), .int 5, true), (.lt, .int 1, .arg 49, true), (.eq, .arg 1, .int 80, true), (.lt, .int 1, .arg 49, true), (.eq, .arg 1, .int 80, true), (.gt, .int 6, .sub (.arg 49) (.int 6), true)]) = true := by decide +kernel
theorem lf_5_75 : xfin (xev 148 20 xlaw 18 xlo0 [] xh0 [(.gt, .int 0, .sub (.arg 49) (.int 6), false), (.lt, .int 0, .arg 49, true), (.eq, .op2 .iand (.arg 0) (.int 63), .int 5, true), (.lt, .int 1, .arg 49, true), (.eq, .arg 1, .int 81, true), (.lt, .int 1, .arg 49, true), (.eq, .arg 1, .int 81, true), (.gt, .int 6, .sub (.arg 49) (.int 6), true)]) = true := by decide +kernel
theorem lf_5_76 : xfin (xev 148 20 xlaw 18 xlo0 [] xh0 [(.gt, .int 0, .sub (.arg 49) (.int 6), false), (.lt, .int 0, .arg 49, true), (.eq, .op2 .iand (.arg 0) (.int 63), .int 5, true), (.lt, .int 1, .arg 49, true), (.eq, .arg 1, .int 82, true), (.lt, .int 1, .arg 49, true), (.eq, .arg 1, .int 82, true), (.gt, .int 6, .sub (.arg 49) (.int 6), true)]) = true := by decide +kernel
theorem lf_5_77 : xfin (xev 148 20 xlaw 18 xlo0 [] xh0 [(.gt, .int 0, .sub (.arg 49) (.int 6), false), (.lt, .int 0, .arg 49, true), (.eq, .op2 .iand (.arg 0) (.int 63), .int 5, true), (.lt, .int 1, .arg 49, true), (.eq, .arg 1, .int 83, true), (.lt, .int 1, .arg 49, true), (.eq, .arg 1, .int 83, true), (.gt, .int 6, .sub (.arg 49) (.int 6), true)]) = true := by decide +kernel
theorem lf_5_78 : xfin (xev 148 20 xlaw 18 xlo0 [] xh0 [(.gt, .int 0, .sub (.arg 49) (.int 6), false), (.lt, .int 0, .arg 49, true), (.eq, .op2 .iand (.arg 0) (.int 63), .int 5, true), (.lt, .int 1, .arg 49, true), (.eq, .arg 1, .int 84, true), (.lt, .int 1, .arg 49, true), (.eq, .arg 1, .int 84, true), (.gt, .int 6, .sub (.arg 49) (.int 6), true)]) = true := by decide +kernel
theorem lf_5_79 : xfin (xev 148 20 xlaw 18 xlo0 [] xh0 [(.gt, .int 0, .sub (.arg 49) (.int 6), false), (.lt, .int 0, .arg 49, true), (.eq, .op2 .iand (.arg 0) (.int 63), .int 5, true), (.lt, .int 1, .arg 49, true), (.eq, .arg 1, .int 85, true), (.lt, .int 1, .arg 49, true), (.eq, .arg 1, .int 85, true), (.gt, .int 6, .sub (.arg 49) (.int 6), true)]) = true := by decide +kernel
theorem lf_5_80 : xfin (xev 148 20 xlaw 18 xlo0 [] xh0 [(.gt, .int 0, .sub (.arg 49) (.int 6), false), (.lt, .int 0, .arg 49, true), (.eq, .op2 .iand (.arg 0) (.int 63), .int 5, true), (.lt, .int 1, .arg 49, true), (.eq, .arg 1, .int 86, true), (.lt, .int 1, .arg 49, true), (.eq, .arg 1, .int 86, true), (.gt, .int 6, .sub (.arg 49) (.int 6), true)]) = true := by decide +kernel
theorem lf_5_81 : xfin (xev 148 20 xlaw 18 xlo0 [] xh0 [(.gt, .int 0, .sub (.arg 49) (.int 6), false), (.lt, .int 0, .arg 49, true), (.eq, .op2 .iand (.arg 0) (.int 63), .int 5, true), (.lt, .int 1, .arg 49, true), (.eq, .arg 1, .int 87, true), (.lt, .int 1, .arg 49, true), (.eq, .arg 1, .int 87, true), (.gt, .int 6, .sub (.arg 49) (.int 6), true)]) = true := by decide +kernel
theorem lf_5_82 : xfin (xev 148 20 xlaw 18 xlo0 [] xh0 [(.gt, .int 0, .sub (.arg 49) (.int 6), false), (.lt, .int 0, .arg 49, true), (.eq, .op2 .iand (.arg 0) (.int 63), .int 5, true), (.lt, .int 1, .arg 49, true), (.eq, .arg 1, .int 88, true), (.lt, .int 1, .arg 49, true), (.eq, .arg 1, .int 88, true), (.gt, .int 6, .sub (.arg 49) (.int 6), true)]) = true := by decide +kernel
theorem lf_5_83 : xfin (xev 148 20 xlaw 18 xlo0 [] xh0 [(.gt, .int 0, .sub (.arg 49) (.int 6), false), (.lt, .int 0, .arg 49, true), (.eq, .op2 .iand (.arg 0) (.int 63), .int 5, true), (.lt, .int 1, .arg 49, true), (.eq, .arg 1, .int 89, true), (.lt, .int 1, .arg 49, true), (.eq, .arg 1, .int 89, true), (.gt, .int 6, .sub (.arg 49) (.int 6), true)]) = true := by decide +kernel
theorem lf_5_84 : xfin (xev 148 20 xlaw 18 xlo0 [] xh0 [(.gt, .int 0, .sub (.arg 49) (.int 6), false), (.lt, .int 0, .arg 49, true), (.eq, .op2 .iand (.arg 0) (.int 63), .int 5, true), (.lt, .int 1, .arg 49, true), (.eq, .arg 1, .int 90, true), (.lt, .int 1, .arg 49, true), (.eq, .arg 1, .int 90, true), (.gt, .int 6, .sub (.arg 49) (.int 6), true)]) = true := by decide +kernel
theorem lf_5_85 : xfin (xev 148 20 xlaw 18 xlo0 [] xh0 [(.gt, .int 0, .sub (.arg 49) (.int 6), false), (.lt, .int 0, .arg 49, true), (.eq, .op2 .iand (.arg 0) (.int 63), .int 5, true), (.lt, .int 1, .arg 49, true), (.eq, .arg 1, .int 91, true), (.lt, .int 1, .arg 49, true), (.eq, .arg 1, .int 91, true), (.gt, .int 6, .sub (.arg 49) (.int 6), true)]) = true := by decide +kernel
theorem lf_5_86 : xfin (xev 148 20 xlaw 18 xlo0 [] xh0 [(.gt, .int 0, .sub (.arg 49) (.int 6), false), (.lt, .int 0, .arg 49, true), (.eq, .op2 .iand (.arg 0) (.int 63), .int 5, true), (.lt, .int 1, .arg 49, true), (.eq, .arg 1, .int 92, true), (.lt, .int 1, .arg 49, true), (.eq, .arg 1, .int 92, true), (.gt, .int 6, .sub (.arg 49) (.int 6), true)]) = true := by decide +kernel
theorem lf_5_87 : xfin (xev 148 20 xlaw 18 xlo0 [] xh0 [(.gt, .int 0, .sub (.arg 49) (.int 6), false), (.lt, .int 0, .arg 49, true), (.eq, .op2 .iand (.arg 0) (.int 63), .int 5, true), (.lt, .int 1, .arg 49, true), (.eq, .arg 1, .int 93, true), (.lt, .int 1, .arg 49, true), (.eq, .arg 1, .int 93, true), (.gt, .int 6, .sub (.arg 49) (.int 6), true)]) = true := by decide +kernel
theorem lf_5_88 : xfin (xev 148 20 xlaw 18 xlo0 [] xh0 [(.gt, .int 0, .sub (.arg 49) (.int 6), false), (.lt, .int 0, .arg 49, true), (.eq, .op2 .iand (.arg 0) (.int 63), .int 5, true), (.lt, .int 1, .arg 49, true), (.eq, .arg 1, .int 94, true), (.lt, .int 1, .arg 49, true), (.eq, .arg 1, .int 94, true), (.gt, .int 6, .sub (.arg 49) (.int 6), true)]) = true := by decide +kernel
theorem lf_5_89 : xfin (xev 148 20 xlaw 18 xlo0 [] xh0 [(.gt, .int 0, .sub (.arg 49) (.int 6), false), (.lt, .int 0, .arg 49, true), (.eq, .op2 .iand (.arg 0) (.int 63), .int 5, true), (.lt, .int 1, .arg 49, true), (.eq, .arg 1, .int 95, true), (.lt, .int 1, .arg 49, true), (.eq, .arg 1, .int 95, true), (.gt, .int 6, .sub (.arg 49) (.int 6), true)]) = true := by decide +kernel
theorem lf_5_90 : xfin (xev 148 20 xlaw 18 xlo0 [] xh0 [(.gt, .int 0, .sub (.arg 49) (.int 6), false), (.lt, .int 0, .arg 49, true), (.eq, .op2 .iand (.arg 0) (.int 63), .int 5, true), (.lt, .int 1, .arg 49, true), (.eq, .arg 1, .int 96, true), (.lt, .int 1, .arg 49, true), (.eq, .arg 1, .int 96, true), (.gt, .int 6, .sub (.arg 49) (.int 6), true)]) = true := by decide +kernel
theorem lf_5_91 : xfin (xev 148 20 xlaw 18 xlo0 [] xh0 [(.gt, .int 0, .sub (.arg 49) (.int 6), false), (.lt, .int 0, .arg 49, true), (.eq, .op2 .iand (.arg 0) (.int 63), .int 5, true), (.lt, .int 1, .arg 49, true), (.eq, .arg 1, .int 97, true), (.lt, .int 1, .arg 49, true), (.eq, .arg 1, .int 97, true), (.gt, .int 6, .sub (.arg 49) (.int 6), true)]) = true := by decide +kernel
theorem lf_5_92 : xfin (xev 148 20 xlaw 18 xlo0 [] xh0 [(.gt, .int 0, .sub (.arg 49) (.int 6), false), (.lt, .int 0, .arg 49, true), (.eq, .op2 .iand (.arg 0) (.int 63), .int 5, true), (.lt, .int 1, .arg 49, true), (.eq, .arg 1, .int 98, true), (.lt, .int 1, .arg 49, true), (.eq, .arg 1, .int 98, true), (.gt, .int 6, .sub (.arg 49) (.int 6), true)]) = true := by decide +kernel
theorem lf_5_93 : xfin (xev 148 20 xlaw 18 xlo0 [] xh0 [(.gt, .int 0, .sub (.arg 49) (.int 6), false), (.lt, .int 0, .arg 49, true), (.eq, .op2 .iand (.arg 0) (.int 63), .int 5, true), (.lt, .int 1, .arg 49, true), (.eq, .arg 1, .int 99, true), (.lt, .int 1, .arg 49, true), (.eq, .arg 1, .int 99, true), (.gt, .int 6, .sub (.arg 49) (.int 6), true)]) = true := by decide +kernel
theorem lf_5_94 : xfin (xev 124 20 xlaw 18 xlo0 [] xh0 [(.gt, .int 0, .sub (.arg 49) (.int 6), false), (.lt, .int 0, .arg 49, true), (.eq, .op2 .iand (.arg 0) (.int 63), .int 5, true), (.lt, .int 1, .arg 49, true), (.lt, .arg 1, .int 0, true), (.lt, .arg 1, .int 60, true), (.lt, .int 1, .arg 49, true), (.lt, .arg 1, .int 0, true), (.lt, .arg 1, .int 60, true), (.gt, .int 6, .sub (.arg 49) (.int 6), true)]) = true := by decide +kernel
theorem lf_5_95 : xfin (xev 130 20 xlaw 18 xlo0 [] xh0 [(.gt, .int 0, .sub (.arg 49) (.int 6), false), (.lt, .int 0, .arg 49, true), (.eq, .op2 .iand (.arg 0) (.int 63), .int 5, true), (.lt, .int 1, .arg 49, true), (.lt, .arg 1, .int 0, false), (.le, .arg 1, .int 53, false), (.lt, .arg 1, .int 60, true), (.lt, .int 1, .arg 49, true), (.lt, .arg 1, .int 0, false), (.gt, .arg 1, .int 53, true), (.lt, .arg 1, .int 60, true), (.gt, .int 6, .sub (.arg 49) (.int 6), true)]) = true := by decide +kernel
theorem lf_5_96 : xfin (xev 136 20 xlaw 18 xlo0 [] xh0 [(.gt, .int 0, .sub (.arg 49) (.int 6), false), (.lt, .int 0, .arg 49, true), (.eq, .op2 .iand (.arg 0) (.int 63), .int 5, true), (.lt, .int 1, .arg 49, true), (.lt, .arg 1, .int 0, false), (.le, .arg 1, .int 53, false), (.lt, .arg 1, .int 60, false), (.gt, .arg 1, .int 99, true), (.lt, .int 1, .arg 49, true), (.lt, .arg 1, .int 0, false), (.gt, .arg 1, .int 53, true), (.lt, .arg 1, .int 60, false), (.gt, .arg 1, .int 99, true), (.gt, .int 6, .sub (.arg 49) (.int 6), true)]) = true := by decide +kernel
set_option maxHeartbeats 4000000 in
theorem cv_5 {r : Nat → Value} (h49 : XI r (.arg 49) = 6) (hs : XI r (.sub (.arg 49) (.int 6)) = 0) (hk : XI r (.op2 .iand (.arg 0) (.int 63)) = 5) : ∃ (f : Nat) (E : List xB), (∀ q ∈ E, xhold r q) ∧ xfin (xev f 20 xlaw 18 xlo0 [] xh0 E) = true := by
  have h0 : ¬ (XI r (.sub (.arg 49) (.int 6)) < (0 : Int)) := by omega
  have h1 : (0 : Int) < XI r (.arg 49) := by omega
  have b0 : xhid (-2147483648 ≤ XI r (.arg 0)) := XI_lo r (.arg 0)
  have d0 : xhid (XI r (.arg 0) < 2147483648) := XI_hi r (.arg 0)
  have b1 : xhid (-2147483648 ≤ XI r (.arg 1)) := XI_lo r (.arg 1)
  have d1 : xhid (XI r (.arg 1) < 2147483648) := XI_hi r (.arg 1)
  have b2 : xhid (-2147483648 ≤ XI r (.arg 2)) := XI_lo r (.arg 2)
  have d2 : xhid (XI r (.arg 2) < 2147483648) := XI_hi r (.arg 2)
  have b3 : xhid (-2147483648 ≤ XI r (.arg 3)) := XI_lo r (.arg 3)
  have d3 : xhid (XI r (.arg 3) < 2147483648) := XI_hi r (.arg 3)
  have b4 : xhid (-2147483648 ≤ XI r (.arg 4)) := XI_lo r (.arg 4)
  have d4 : xhid (XI r (.arg 4) < 2147483648) := XI_hi r (.arg 4)
  have b5 : xhid (-2147483648 ≤ XI r (.arg 5)) := XI_lo r (.arg 5)
  have d5 : xhid (XI r (.arg 5) < 2147483648) := XI_hi r (.arg 5)
  have c1 : xhid ((1 : Int) < XI r (.arg 49)) := ((by have z0 : ¬ (XI r (.sub (.arg 49) (.int 6)) < (0 : Int)) := h0; omega) : (1 : Int) < XI r (.arg 49))
  refine (Classical.em (XI r (.arg 1) = (0 : Int))).elim (fun (c2 : xhid (XI r (.arg 1) = (0 : Int))) => ?_) (fun (c2 : xhid (¬ (XI r (.arg 1) = (0 : Int)))) => ?_)
  ·
    have c3 : xhid ((1 : Int) < XI r (.arg 49)) := ((by have z0 : (1 : Int) < XI r (.arg 49) := c1; omega) : (1 : Int) < XI r (.arg 49))
    have c4 : xhid (XI r (.sub (.arg 49) (.int 6)) < (6 : Int)) := ((by omega) : XI r (.sub (.arg 49) (.int 6)) < (6 : Int))
    refine ⟨114, _, ?_, lf_5_0⟩
    refine xc_cons (xh_gt_F (XI_lit (by decide +kernel)) rfl h0) ?_
    refine xc_cons (xh_lt_T (XI_lit (by decide +kernel)) rfl h1) ?_
    refine xc_cons (xh_eq_T rfl (XI_lit (by decide +kernel)) hk) ?_
    refine xc_cons (xh_lt_T (XI_lit (by decide +kernel)) rfl c1) ?_
    refine xc_cons (xh_eq_T rfl (XI_lit (by decide +kernel)) c2) ?_
    refine xc_cons (xh_lt_T (XI_lit (by decide +kernel)) rfl c3) ?_
    refine xc_cons (xh_eq_T rfl (XI_lit (by decide +kernel)) c2) ?_
    refine xc_cons (xh_gt_T (XI_lit (by decide +kernel)) rfl c4) ?_
    exact xc_nil
  refine (Classical.em (XI r (.arg 1) = (1 : Int))).elim (fun (c5 : xhid (XI r (.arg 1) = (1 : Int))) => ?_) (fun (c5 : xhid (¬ (XI r (.arg 1) = (1 : Int)))) => ?_)
  ·
    have c6 : xhid ((1 : Int) < XI r (.arg 49)) := ((by have z0 : (1 : Int) < XI r (.arg 49) := c1; omega) : (1 : Int) < XI r (.arg 49))
    have c7 : xhid (XI r (.sub (.arg 49) (.int 6)) < (6 : Int)) := ((by omega) : XI r (.sub (.arg 49) (.int 6)) < (6 : Int))
    refine ⟨113, _, ?_, lf_5_1⟩
    refine xc_cons (xh_gt_F (XI_lit (by decide +kernel)) rfl h0) ?_
    refine xc_cons (xh_lt_T (XI_lit (by decide +kernel)) rfl h1) ?_
    refine xc_cons (xh_eq_T rfl (XI_lit (by decide +kernel)) hk) ?_
    refine xc_cons (xh_lt_T (XI_lit (by decide +kernel)) rfl c1) ?_
    refine xc_cons (xh_eq_T rfl (XI_lit (by decide +kernel)) c5) ?_
    refine xc_cons (xh_lt_T (XI_lit (by decide +kernel)) rfl c6) ?_
    refine xc_cons (xh_eq_T rfl (XI_lit (by decide +kernel)) c5) ?_
    refine xc_cons (xh_gt_T (XI_lit (by decide +kernel)) rfl c7) ?_
    exact xc_nil
  refine (Classical.em (XI r (.arg 1) = (2 : Int))).elim (fun (c8 : xhid (XI r (.arg 1) = (2 : Int))) => ?_) (fun (c8 : xhid (¬ (XI r (.arg 1) = (2 : Int)))) => ?_)
  ·
    have c9 : xhid ((1 : Int) < XI r (.arg 49)) := ((by have z0 : (1 : Int) < XI r (.arg 49) := c1; omega) : (1 : Int) < XI r (.arg 49))
    have c10 : xhid (XI r (.sub (.arg 49) (.int 6)) < (6 : Int)) := ((by omega) : XI r (.sub (.arg 49) (.int 6)) < (6 : Int))
    refine ⟨114, _, ?_, lf_5_2⟩
    refine xc_cons (xh_gt_F (XI_lit (by decide +kernel)) rfl h0) ?_
    refine xc_cons (xh_lt_T (XI_lit (by decide +kernel)) rfl h1) ?_
    refine xc_cons (xh_eq_T rfl (XI_lit (by decide +kernel)) hk) ?_
    refine xc_cons (xh_lt_T (XI_lit (by decide +kernel)) rfl c1) ?_
    refine xc_cons (xh_eq_T rfl (XI_lit (by decide +kernel)) c8) ?_
    refine xc_cons (xh_lt_T (XI_lit (by decide +kernel)) rfl c9) ?_
    refine xc_cons (xh_eq_T rfl (XI_lit (by decide +kernel)) c8) ?_
    refine xc_cons (xh_gt_T (XI_lit (by decide +kernel)) rfl c10) ?_
    exact xc_nil
  refine (Classical.em (XI r (.arg 1) = (3 : Int))).elim (fun (c11 : xhid (XI r (.arg 1) = (3 : Int))) => ?_) (fun (c11 : xhid (¬ (XI r (.arg 1) = (3 : Int)))) => ?_)
  ·
    have c12 : xhid ((1 : Int) < XI r (.arg 49)) := ((by have z0 : (1 : Int) < XI r (.arg 49) := c1; omega) : (1 : Int) < XI r (.arg 49))
    have c13 : xhid (XI r (.sub (.arg 49) (.int 6)) < (6 : Int)) := ((by omega) : XI r (.sub (.arg 49) (.int 6)) < (6 : Int))
    refine ⟨113, _, ?_, lf_5_3⟩
    refine xc_cons (xh_gt_F (XI_lit (by decide +kernel)) rfl h0) ?_
    refine xc_cons (xh_lt_T (XI_lit (by decide +kernel)) rfl h1) ?_
    refine xc_cons (xh_eq_T rfl (XI_lit (by decide +kernel)) hk) ?_
    refine xc_cons (xh_lt_T (XI_lit (by decide +kernel)) rfl c1) ?_
    refine xc_cons (xh_eq_T rfl (XI_lit (by decide +kernel)) c11) ?_
    refine xc_cons (xh_lt_T (XI_lit (by decide +kernel)) rfl c12) ?_
    refine xc_cons (xh_eq_T rfl (XI_lit (by decide +kernel)) c11) ?_
    refine xc_cons (xh_gt_T (XI_lit (by decide +kernel)) rfl c13) ?_
    exact xc_nil
  refine (Classical.em (XI r (.arg 1) = (4 : Int))).elim (fun (c14 : xhid (XI r (.arg 1) = (4 : Int))) => ?_) (fun (c14 : xhid (¬ (XI r (.arg 1) = (4 : Int)))) => ?_)
  ·
    have c15 : xhid ((1 : Int) < XI r (.arg 49)) := ((by have z0 : (1 : Int) < XI r (.arg 49) := c1; omega) : (1 : Int) < XI r (.arg 49))
    have c16 : xhid (XI r (.sub (.arg 49) (.int 6)) < (6 : Int)) := ((by omega) : XI r (.sub (.arg 49) (.int 6)) < (6 : Int))
    refine ⟨114, _, ?_, lf_5_4⟩
    refine xc_cons (xh_gt_F (XI_lit (by decide +kernel)) rfl h0) ?_
    refine xc_cons (xh_lt_T (XI_lit (by decide +kernel)) rfl h1) ?_
    refine xc_cons (xh_eq_T rfl (XI_lit (by decide +kernel)) hk) ?_
    refine xc_cons (xh_lt_T (XI_lit (by decide +kernel)) rfl c1) ?_
    refine xc_cons (xh_eq_T rfl (XI_lit (by decide +kernel)) c14) ?_
    refine xc_cons (xh_lt_T (XI_lit (by decide +kernel)) rfl c15) ?_
    refine xc_cons (xh_eq_T rfl (XI_lit (by decide +kernel)) c14) ?_
    refine xc_cons (xh_gt_T (XI_lit (by decide +kernel)) rfl c16) ?_
    exact xc_nil
  refine (Classical.em (XI r (.arg 1) = (5 : Int))).elim (fun (c17 : xhid (XI r (.arg 1) = (5 : Int))) => ?_) (fun (c17 : xhid (¬ (XI r (.arg 1) = (5 : Int)))) => ?_)
  ·
    have c18 : xhid ((1 : Int) < XI r (.arg 49)) := ((by have z0 : (1 : Int) < XI r (.arg 49) := c1; omega) : (1 : Int) < XI r (.arg 49))
    have c19 : xhid (XI r (.sub (.arg 49) (.int 6)) < (6 : Int)) := ((by omega) : XI r (.sub (.arg 49) (.int 6)) < (6 : Int))
    refine ⟨113, _, ?_, lf_5_5⟩
    refine xc_cons (xh_gt_F (XI_lit (by decide +kernel)) rfl h0) ?_
    refine xc_cons (xh_lt_T (XI_lit (by decide +kernel)) rfl h1) ?_
    refine xc_cons (xh_eq_T rfl (XI_lit (by decide +kernel)) hk) ?_
    refine xc_cons (xh_lt_T (XI_lit (by decide +kernel)) rfl c1) ?_
    refine xc_cons (xh_eq_T rfl (XI_lit (by decide +kernel)) c17) ?_
    refine xc_cons (xh_lt_T (XI_lit (by decide +kernel)) rfl c18) ?_
    refine xc_cons (xh_eq_T rfl (XI_lit (by decide +kernel)) c17) ?_
    refine xc_cons (xh_gt_T (XI_lit (by decide +kernel)) rfl c19) ?_
    exact xc_nil
  refine (Classical.em (XI r (.arg 1) = (6 : Int))).elim (fun (c20 : xhid (XI r (.arg 1) = (6 : Int))) => ?_) (fun (c20 : xhid (¬ (XI r (.arg 1) = (6 : Int)))) => ?_)
  ·
    have c21 : xhid ((1 : Int) < XI r (.arg 49)) := ((by have z0 : (1 : Int) < XI r (.arg 49) := c1; omega) : (1 : Int) < XI r (.arg 49))
    have c22 : xhid (XI r (.sub (.arg 49) (.int 6)) < (6 : Int)) := ((by omega) : XI r (.sub (.arg 49) (.int 6)) < (6 : Int))
    refine ⟨114, _, ?_, lf_5_6⟩
    refine xc_cons (xh_gt_F (XI_lit (by decide +kernel)) rfl h0) ?_
    refine xc_cons (xh_lt_T (XI_lit (by decide +kernel)) rfl h1) ?_
    refine xc_cons (xh_eq_T rfl (XI_lit (by decide +kernel)) hk) ?_
    refine xc_cons (xh_lt_T (XI_lit (by decide +kernel)) rfl c1) ?_
    refine xc_cons (xh_eq_T rfl (XI_lit (by decide +kernel)) c20) ?_
    refine xc_cons (xh_lt_T (XI_lit (by decide +kernel)) rfl c21) ?_
    refine xc_cons (xh_eq_T rfl (XI_lit (by decide +kernel)) c20) ?_
    refine xc_cons (xh_gt_T (XI_lit (by decide +kernel)) rfl c22) ?_
    exact xc_nil
  refine (Classical.em (XI r (.arg 1) = (7 : Int))).elim (fun (c23 : xhid (XI r (.arg 1) = (7 : Int))) => ?_) (fun (c23 : xhid (¬ (XI r (.arg 1) = (7 : Int)))) => ?_)
  ·
    have c24 : xhid ((1 : Int) < XI r (.arg 49)) := ((by have z0 : (1 : Int) < XI r (.arg 49) := c1; omega) : (1 : Int) < XI r (.arg 49))
    have c25 : xhid (XI r (.sub (.arg 49) (.int 6)) < (6 : Int)) := ((by omega) : XI r (.sub (.arg 49) (.int 6)) < (6 : Int))
    refine ⟨113, _, ?_, lf_5_7⟩
    refine xc_cons (xh_gt_F (XI_lit (by decide +kernel)) rfl h0) ?_
    refine xc_cons (xh_lt_T (XI_lit (by decide +kernel)) rfl h1) ?_
    refine xc_cons (xh_eq_T rfl (XI_lit (by decide +kernel)) hk) ?_
    refine xc_cons (xh_lt_T (XI_lit (by decide +kernel)) rfl c1) ?_
    refine xc_cons (xh_eq_T rfl (XI_lit (by decide +kernel)) c23) ?_
    refine xc_cons (xh_lt_T (XI_lit (by decide +kernel)) rfl c24) ?_
    refine xc_cons (xh_eq_T rfl (XI_lit (by decide +kernel)) c23) ?_
    refine xc_cons (xh_gt_T (XI_lit (by decide +kernel)) rfl c25) ?_
    exact xc_nil
  refine (Classical.em (XI r (.arg 1) = (8 : Int))).elim (fun (c26 : xhid (XI r (.arg 1) = (8 : Int))) => ?_) (fun (c26 : xhid (¬ (XI r (.arg 1) = (8 : Int)))) => ?_)
  ·
    have c27 : xhid ((1 : Int) < XI r (.arg 49)) := ((by have z0 : (1 : Int) < XI r (.arg 49) := c1; omega) : (1 : Int) < XI r (.arg 49))
    have c28 : xhid (XI r (.sub (.arg 49) (.int 6)) < (6 : Int)) := ((by omega) : XI r (.sub (.arg 49) (.int 6)) < (6 : Int))
    refine ⟨114, _, ?_, lf_5_8⟩
    refine xc_cons (xh_gt_F (XI_lit (by decide +kernel)) rfl h0) ?_
    refine xc_cons (xh_lt_T (XI_lit (by decide +kernel)) rfl h1) ?_
    refine xc_cons (xh_eq_T rfl (XI_lit (by decide +kernel)) hk) ?_
    refine xc_cons (xh_lt_T (XI_lit (by decide +kernel)) rfl c1) ?_
    refine xc_cons (xh_eq_T rfl (XI_lit (by decide +kernel)) c26) ?_
    refine xc_cons (xh_lt_T (XI_lit (by decide +kernel)) rfl c27) ?_
    refine xc_cons (xh_eq_T rfl (XI_lit (by decide +kernel)) c26) ?_
    refine xc_cons (xh_gt_T (XI_lit (by decide +kernel)) rfl c28) ?_
    exact xc_nil
  refine (Classical.em (XI r (.arg 1) = (9 : Int))).elim (fun (c29 : xhid (XI r (.arg 1) = (9 : Int))) => ?_) (fun (c29 : xhid (¬ (XI r (.arg 1) = (9 : Int)))) => ?_)
  ·
    have c30 : xhid ((1 : Int) < XI r (.arg 49)) := ((by have z0 : (1 : Int) < XI r (.arg 49) := c1; omega) : (1 : Int) < XI r (.arg 49))
    have c31 : xhid (XI r (.sub (.arg 49) (.int 6)) < (6 : Int)) := ((by omega) : XI r (.sub (.arg 49) (.int 6)) < (6 : Int))
    refine ⟨113, _, ?_, lf_5_9⟩
    refine xc_cons (xh_gt_F (XI_lit (by decide +kernel)) rfl h0) ?_
    refine xc_cons (xh_lt_T (XI_lit (by decide +kernel)) rfl h1) ?_
    refine xc_cons (xh_eq_T rfl (XI_lit (by decide +kernel)) hk) ?_
    refine xc_cons (xh_lt_T (XI_lit (by decide +kernel)) rfl c1) ?_
    refine xc_cons (xh_eq_T rfl (XI_lit (by decide +kernel)) c29) ?_
    refine xc_cons (xh_lt_T (XI_lit (by decide +kernel)) rfl c30) ?_
    refine xc_cons (xh_eq_T rfl (XI_lit (by decide +kernel)) c29) ?_
    refine xc_cons (xh_gt_T (XI_lit (by decide +kernel)) rfl c31) ?_
    exact xc_nil
  refine (Classical.em (XI r (.arg 1) = (10 : Int))).elim (fun (c32 : xhid (XI r (.arg 1) = (10 : Int))) => ?_) (fun (c32 : xhid (¬ (XI r (.arg 1) = (10 : Int)))) => ?_)
  ·
    have c33 : xhid ((1 : Int) < XI r (.arg 49)) := ((by have z0 : (1 : Int) < XI r (.arg 49) := c1; omega) : (1 : Int) < XI r (.arg 49))
    have c34 : xhid (XI r (.sub (.arg 49) (.int 6)) < (6 : Int)) := ((by omega) : XI r (.sub (.arg 49) (.int 6)) < (6 : Int))
    refine ⟨114, _, ?_, lf_5_10⟩
    refine xc_cons (xh_gt_F (XI_lit (by decide +kernel)) rfl h0) ?_
    refine xc_cons (xh_lt_T (XI_lit (by decide +kernel)) rfl h1) ?_
    refine xc_cons (xh_eq_T rfl (XI_lit (by decide +kernel)) hk) ?_
    refine xc_cons (xh_lt_T (XI_lit (by decide +kernel)) rfl c1) ?_
    refine xc_cons (xh_eq_T rfl (XI_lit (by decide +kernel)) c32) ?_
    refine xc_cons (xh_lt_T (XI_lit (by decide +kernel)) rfl c33) ?_
    refine xc_cons (xh_eq_T rfl (XI_lit (by decide +kernel)) c32) ?_
    refine xc_cons (xh_gt_T (XI_lit (by decide +kernel)) rfl c34) ?_
    exact xc_nil
  refine (Classical.em (XI r (.arg 1) = (11 : Int))).elim (fun (c35 : xhid (XI r (.arg 1) = (11 : Int))) => ?_) (fun (c35 : xhid (¬ (XI r (.arg 1) = (11 : Int)))) => ?_)
  ·
    have c36 : xhid ((1 : Int) < XI r (.arg 49)) := ((by have z0 : (1 : Int) < XI r (.arg 49) := c1; omega) : (1 : Int) < XI r (.arg 49))
    have c37 : xhid (XI r (.sub (.arg 49) (.int 6)) < (6 : Int)) := ((by omega) : XI r (.sub (.arg 49) (.int 6)) < (6 : Int))
    refine ⟨113, _, ?_, lf_5_11⟩
    refine xc_cons (xh_gt_F (XI_lit (by decide +kernel)) rfl h0) ?_
    refine xc_cons (xh_lt_T (XI_lit (by decide +kernel)) rfl h1) ?_
    refine xc_cons (xh_eq_T rfl (XI_lit (by decide +kernel)) hk) ?_
    refine xc_cons (xh_lt_T (XI_lit (by decide +kernel)) rfl c1) ?_
    refine xc_cons (xh_eq_T rfl (XI_lit (by decide +kernel)) c35) ?_
    refine xc_cons (xh_lt_T (XI_lit (by decide +kernel)) rfl c36) ?_
    refine xc_cons (xh_eq_T rfl (XI_lit (by decide +kernel)) c35) ?_
    refine xc_cons (xh_gt_T (XI_lit (by decide +kernel)) rfl c37) ?_
    exact xc_nil
  refine (Classical.em (XI r (.arg 1) = (12 : Int))).elim (fun (c38 : xhid (XI r (.arg 1) = (12 : Int))) => ?_) (fun (c38 : xhid (¬ (XI r (.arg 1) = (12 : Int)))) => ?_)
  ·
    have c39 : xhid ((1 : Int) < XI r (.arg 49)) := ((by have z0 : (1 : Int) < XI r (.arg 49) := c1; omega) : (1 : Int) < XI r (.arg 49))
    have c40 : xhid (XI r (.sub (.arg 49) (.int 6)) < (6 : Int)) := ((by omega) : XI r (.sub (.arg 49) (.int 6)) < (6 : Int))
    refine ⟨114, _, ?_, lf_5_12⟩
    refine xc_cons (xh_gt_F (XI_lit (by decide +kernel)) rfl h0) ?_
    refine xc_cons (xh_lt_T (XI_lit (by decide +kernel)) rfl h1) ?_
    refine xc_cons (xh_eq_T rfl (XI_lit (by decide +kernel)) hk) ?_
    refine xc_cons (xh_lt_T (XI_lit (by decide +kernel)) rfl c1) ?_
    refine xc_cons (xh_eq_T rfl (XI_lit (by decide +kernel)) c38) ?_
    refine xc_cons (xh_lt_T (XI_lit (by decide +kernel)) rfl c39) ?_
    refine xc_cons (xh_eq_T rfl (XI_lit (by decide +kernel)) c38) ?_
    refine xc_cons (xh_gt_T (XI_lit (by decide +kernel)) rfl c40) ?_
    exact xc_nil
  refine (Classical.em (XI r (.arg 1) = (13 : Int))).elim (fun (c41 : xhid (XI r (.arg 1) = (13 : Int))) => ?_) (fun (c41 : xhid (¬ (XI r (.arg 1) = (13 : Int)))) => ?_)
  ·
    have c42 : xhid ((1 : Int) < XI r (.arg 49)) := ((by have z0 : (1 : Int) < XI r (.arg 49) := c1; omega) : (1 : Int) < XI r (.arg 49))
    have c43 : xhid (XI r (.sub (.arg 49) (.int 6)) < (6 : Int)) := ((by omega) : XI r (.sub (.arg 49) (.int 6)) < (6 : Int))
    refine ⟨113, _, ?_, lf_5_13⟩
    refine xc_cons (xh_gt_F (XI_lit (by decide +kernel)) rfl h0) ?_
    refine xc_cons (xh_lt_T (XI_lit (by decide +kernel)) rfl h1) ?_
    refine xc_cons (xh_eq_T rfl (XI_lit (by decide +kernel)) hk) ?_
    refine xc_cons (xh_lt_T (XI_lit (by decide +kernel)) rfl c1) ?_
    refine xc_cons (xh_eq_T rfl (XI_lit (by decide +kernel)) c41) ?_
    refine xc_cons (xh_lt_T (XI_lit (by decide +kernel)) rfl c42) ?_
    refine xc_cons (xh_eq_T rfl (XI_lit (by decide +kernel)) c41) ?_
    refine xc_cons (xh_gt_T (XI_lit (by decide +kernel)) rfl c43) ?_
    exact xc_nil
  refine (Classical.em (XI r (.arg 1) = (14 : Int))).elim (fun (c44 : xhid (XI r (.arg 1) = (14 : Int))) => ?_) (fun (c44 : xhid (¬ (XI r (.arg 1) = (14 : Int)))) => ?_)
  ·
    have c45 : xhid ((1 : Int) < XI r (.arg 49)) := ((by have z0 : (1 : Int) < XI r (.arg 49) := c1; omega) : (1 : Int) < XI r (.arg 49))
    have c46 : xhid (XI r (.sub (.arg 49) (.int 6)) < (6 : Int)) := ((by omega) : XI r (.sub (.arg 49) (.int 6)) < (6 : Int))
    refine ⟨114, _, ?_, lf_5_14⟩
    refine xc_cons (xh_gt_F (XI_lit (by decide +kernel)) rfl h0) ?_
    refine xc_cons (xh_lt_T (XI_lit (by decide +kernel)) rfl h1) ?_
    refine xc_cons (xh_eq_T rfl (XI_lit (by decide +kernel)) hk) ?_
    refine xc_cons (xh_lt_T (XI_lit (by decide +kernel)) rfl c1) ?_
    refine xc_cons (xh_eq_T rfl (XI_lit (by decide +kernel)) c44) ?_
    refine xc_cons (xh_lt_T (XI_lit (by decide +kernel)) rfl c45) ?_
    refine xc_cons (xh_eq_T rfl (XI_lit (by decide +kernel)) c44) ?_
    refine xc_cons (xh_gt_T (XI_lit (by decide +kernel)) rfl c46) ?_
    exact xc_nil
  refine (Classical.em (XI r (.arg 1) = (15 : Int))).elim (fun (c47 : xhid (XI r (.arg 1) = (15 : Int))) => ?_) (fun (c47 : xhid (¬ (XI r (.arg 1) = (15 : Int)))) => ?_)
  ·
    have c48 : xhid ((1 : Int) < XI r (.arg 49)) := ((by have z0 : (1 : Int) < XI r (.arg 49) := c1; omega) : (1 : Int) < XI r (.arg 49))
    have c49 : xhid (XI r (.sub (.arg 49) (.int 6)) < (6 : Int)) := ((by omega) : XI r (.sub (.arg 49) (.int 6)) < (6 : Int))
    refine ⟨113, _, ?_, lf_5_15⟩
    refine xc_cons (xh_gt_F (XI_lit (by decide +kernel)) rfl h0) ?_
    refine xc_cons (xh_lt_T (XI_lit (by decide +kernel)) rfl h1) ?_
    refine xc_cons (xh_eq_T rfl (XI_lit (by decide +kernel)) hk) ?_
    refine xc_cons (xh_lt_T (XI_lit (by decide +kernel)) rfl c1) ?_
    refine xc_cons (xh_eq_T rfl (XI_lit (by decide +kernel)) c47) ?_
    refine xc_cons (xh_lt_T (XI_lit (by decide +kernel)) rfl c48) ?_
    refine xc_cons (xh_eq_T rfl (XI_lit (by decide +kernel)) c47) ?_
    refine xc_cons (xh_gt_T (XI_lit (by decide +kernel)) rfl c49) ?_
    exact xc_nil
  refine (Classical.em (XI r (.arg 1) = (16 : Int))).elim (fun (c50 : xhid (XI r (.arg 1) = (16 : Int))) => ?_) (fun (c50 : xhid (¬ (XI r (.arg 1) = (16 : Int)))) => ?_)
  ·
    have c51 : xhid ((1 : Int) < XI r (.arg 49)) := ((by have z0 : (1 : Int) < XI r (.arg 49) := c1; omega) : (1 : Int) < XI r (.arg 49))
    have c52 : xhid (XI r (.sub (.arg 49) (.int 6)) < (6 : Int)) := ((by omega) : XI r (.sub (.arg 49) (.int 6)) < (6 : Int))
    refine ⟨114, _, ?_, lf_5_16⟩
    refine xc_cons (xh_gt_F (XI_lit (by decide +kernel)) rfl h0) ?_
    refine xc_cons (xh_lt_T (XI_lit (by decide +kernel)) rfl h1) ?_
    refine xc_cons (xh_eq_T rfl (XI_lit (by decide +kernel)) hk) ?_
    refine xc_cons (xh_lt_T (XI_lit (by decide +kernel)) rfl c1) ?_
    refine xc_cons (xh_eq_T rfl (XI_lit (by decide +kernel)) c50) ?_
    refine xc_cons (xh_lt_T (XI_lit (by decide +kernel)) rfl c51) ?_
    refine xc_cons (xh_eq_T rfl (XI_lit (by decide +kernel)) c50) ?_
    refine xc_cons (xh_gt_T (XI_lit (by decide +kernel)) rfl c52) ?_
    exact xc_nil
  refine (Classical.em (XI r (.arg 1) = (17 : Int))).elim (fun (c53 : xhid (XI r (.arg 1) = (17 : Int))) => ?_) (fun (c53 : xhid (¬ (XI r (.arg 1) = (17 : Int)))) => ?_)
  ·
    have c54 : xhid ((1 : Int) < XI r (.arg 49)) := ((by have z0 : (1 : Int) < XI r (.arg 49) := c1; omega) : (1 : Int) < XI r (.arg 49))
    have c55 : xhid (XI r (.sub (.arg 49) (.int 6)) < (6 : Int)) := ((by omega) : XI r (.sub (.arg 49) (.int 6)) < (6 : Int))
    refine ⟨113, _, ?_, lf_5_17⟩
    refine xc_cons (xh_gt_F (XI_lit (by decide +kernel)) rfl h0) ?_
    refine xc_cons (xh_lt_T (XI_lit (by decide +kernel)) rfl h1) ?_
    refine xc_cons (xh_eq_T rfl (XI_lit (by decide +kernel)) hk) ?_
    refine xc_cons (xh_lt_T (XI_lit (by decide +kernel)) rfl c1) ?_
    refine xc_cons (xh_eq_T rfl (XI_lit (by decide +kernel)) c53) ?_
    refine xc_cons (xh_lt_T (XI_lit (by decide +kernel)) rfl c54) ?_
    refine xc_cons (xh_eq_T rfl (XI_lit (by decide +kernel)) c53) ?_
    refine xc_cons (xh_gt_T (XI_lit (by decide +kernel)) rfl c55) ?_
    exact xc_nil
  refine (Classical.em (XI r (.arg 1) = (18 : Int))).elim (fun (c56 : xhid (XI r (.arg 1) = (18 : Int))) => ?_) (fun (c56 : xhid (¬ (XI r (.arg 1) = (18 : Int)))) => ?_)
  ·
    have c57 : xhid ((1 : Int) < XI r (.arg 49)) := ((by have z0 : (1 : Int) < XI r (.arg 49) := c1; omega) : (1 : Int) < XI r (.arg 49))
    have c58 : xhid (XI r (.sub (.arg 49) (.int 6)) < (6 : Int)) := ((by omega) : XI r (.sub (.arg 49) (.int 6)) < (6 : Int))
    refine ⟨114, _, ?_, lf_5_18⟩
    refine xc_cons (xh_gt_F (XI_lit (by decide +kernel)) rfl h0) ?_
    refine xc_cons (xh_lt_T (XI_lit (by decide +kernel)) rfl h1) ?_
    refine xc_cons (xh_eq_T rfl (XI_lit (by decide +kernel)) hk) ?_
    refine xc_cons (xh_lt_T (XI_lit (by decide +kernel)) rfl c1) ?_
    refine xc_cons (xh_eq_T rfl (XI_lit (by decide +kernel)) c56) ?_
    refine xc_cons (xh_lt_T (XI_lit (by decide +kernel)) rfl c57) ?_
    refine xc_cons (xh_eq_T rfl (XI_lit (by decide +kernel)) c56) ?_
    refine xc_cons (xh_gt_T (XI_lit (by decide +kernel)) rfl c58) ?_
    exact xc_nil
  refine (Classical.em (XI r (.arg 1) = (19 : Int))).elim (fun (c59 : xhid (XI r (.arg 1) = (19 : Int))) => ?_) (fun (c59 : xhid (¬ (XI r (.arg 1) = (19 : Int)))) => ?_)
  ·
    have c60 : xhid ((1 : Int) < XI r (.arg 49)) := ((by have z0 : (1 : Int) < XI r (.arg 49) := c1; omega) : (1 : Int) < XI r (.arg 49))
    have c61 : xhid (XI r (.sub (.arg 49) (.int 6)) < (6 : Int)) := ((by omega) : XI r (.sub (.arg 49) (.int 6)) < (6 : Int))
    refine ⟨113, _, ?_, lf_5_19⟩
    refine xc_cons (xh_gt_F (XI_lit (by decide +kernel)) rfl h0) ?_
    refine xc_cons (xh_lt_T (XI_lit (by decide +kernel)) rfl h1) ?_
    refine xc_cons (xh_eq_T rfl (XI_lit (by decide +kernel)) hk) ?_
    refine xc_cons (xh_lt_T (XI_lit (by decide +kernel)) rfl c1) ?_
    refine xc_cons (xh_eq_T rfl (XI_lit (by decide +kernel)) c59) ?_
    refine xc_cons (xh_lt_T (XI_lit (by decide +kernel)) rfl c60) ?_
    refine xc_cons (xh_eq_T rfl (XI_lit (by decide +kernel)) c59) ?_
    refine xc_cons (xh_gt_T (XI_lit (by decide +kernel)) rfl c61) ?_
    exact xc_nil
  refine (Classical.em (XI r (.arg 1) = (20 : Int))).elim (fun (c62 : xhid (XI r (.arg 1) = (20 : Int))) => ?_) (fun (c62 : xhid (¬ (XI r (.arg 1) = (20 : Int)))) => ?_)
  ·
    have c63 : xhid ((1 : Int) < XI r (.arg 49)) := ((by have z0 : (1 : Int) < XI r (.arg 49) := c1; omega) : (1 : Int) < XI r (.arg 49))
    have c64 : xhid (XI r (.sub (.arg 49) (.int 6)) < (6 : Int)) := ((by omega) : XI r (.sub (.arg 49) (.int 6)) < (6 : Int))
    refine ⟨114, _, ?_, lf_5_20⟩
    refine xc_cons (xh_gt_F (XI_lit (by decide +kernel)) rfl h0) ?_
    refine xc_cons (xh_lt_T (XI_lit (by decide +kernel)) rfl h1) ?_
    refine xc_cons (xh_eq_T rfl (XI_lit (by decide +kernel)) hk) ?_
    refine xc_cons (xh_lt_T (XI_lit (by decide +kernel)) rfl c1) ?_
    refine xc_cons (xh_eq_T rfl (XI_lit (by decide +kernel)) c62) ?_
    refine xc_cons (xh_lt_T (XI_lit (by decide +kernel)) rfl c63) ?_
    refine xc_cons (xh_eq_T rfl (XI_lit (by decide +kernel)) c62) ?_
    refine xc_cons (xh_gt_T (XI_lit (by decide +kernel)) rfl c64) ?_
    exact xc_nil
  refine (Classical.em (XI r (.arg 1) = (21 : Int))).elim (fun (c65 : xhid (XI r (.arg 1) = (21 : Int))) => ?_) (fun (c65 : xhid (¬ (XI r (.arg 1) = (21 : Int)))) => ?_)
  ·
    have c66 : xhid ((1 : Int) < XI r (.arg 49)) := ((by have z0 : (1 : Int) < XI r (.arg 49) := c1; omega) : (1 : Int) < XI r (.arg 49))
    have c67 : xhid (XI r (.sub (.arg 49) (.int 6)) < (6 : Int)) := ((by omega) : XI r (.sub (.arg 49) (.int 6)) < (6 : Int))
    refine ⟨113, _, ?_, lf_5_21⟩
    refine xc_cons (xh_gt_F (XI_lit (by decide +kernel)) rfl h0) ?_
    refine xc_cons (xh_lt_T (XI_lit (by decide +kernel)) rfl h1) ?_
    refine xc_cons (xh_eq_T rfl (XI_lit (by decide +kernel)) hk) ?_
    refine xc_cons (xh_lt_T (XI_lit (by decide +kernel)) rfl c1) ?_
    refine xc_cons (xh_eq_T rfl (XI_lit (by decide +kernel)) c65) ?_
    refine xc_cons (xh_lt_T (XI_lit (by decide +kernel)) rfl c66) ?_
    refine xc_cons (xh_eq_T rfl (XI_lit (by decide +kernel)) c65) ?_
    refine xc_cons (xh_gt_T (XI_lit (by decide +kernel)) rfl c67) ?_
    exact xc_nil
  refine (Classical.em (XI r (.arg 1) = (22 : Int))).elim (fun (c68 : xhid (XI r (.arg 1) = (22 : Int))) => ?_) (fun (c68 : xhid (¬ (XI r (.arg 1) = (22 : Int)))) => ?_)
  ·
    have c69 : xhid ((1 : Int) < XI r (.arg 49)) := ((by have z0 : (1 : Int) < XI r (.arg 49) := c1; omega) : (1 : Int) < XI r (.arg 49))
    have c70 : xhid (XI r (.sub (.arg 49) (.int 6)) < (6 : Int)) := ((by omega) : XI r (.sub (.arg 49) (.int 6)) < (6 : Int))
    refine ⟨114, _, ?_, lf_5_22⟩
    refine xc_cons (xh_gt_F (XI_lit (by decide +kernel)) rfl h0) ?_
    refine xc_cons (xh_lt_T (XI_lit (by decide +kernel)) rfl h1) ?_
    refine xc_cons (xh_eq_T rfl (XI_lit (by decide +kernel)) hk) ?_
    refine xc_cons (xh_lt_T (XI_lit (by decide +kernel)) rfl c1) ?_
    refine xc_cons (xh_eq_T rfl (XI_lit (by decide +kernel)) c68) ?_
    refine xc_cons (xh_lt_T (XI_lit (by decide +kernel)) rfl c69) ?_
    refine xc_cons (xh_eq_T rfl (XI_lit (by decide +kernel)) c68) ?_
    refine xc_cons (xh_gt_T (XI_lit (by decide +kernel)) rfl c70) ?_
    exact xc_nil
  refine (Classical.em (XI r (.arg 1) = (23 : Int))).elim (fun (c71 : xhid (XI r (.arg 1) = (23 : Int))) => ?_) (fun (c71 : xhid (¬ (XI r (.arg 1) = (23 : Int)))) => ?_)
  ·
    have c72 : xhid ((1 : Int) < XI r (.arg 49)) := ((by have z0 : (1 : Int) < XI r (.arg 49) := c1; omega) : (1 : Int) < XI r (.arg 49))
    have c73 : xhid (XI r (.sub (.arg 49) (.int 6)) < (6 : Int)) := ((by omega) : XI r (.sub (.arg 49) (.int 6)) < (6 : Int))
    refine ⟨113, _, ?_, lf_5_23⟩
    refine xc_cons (xh_gt_F (XI_lit (by decide +kernel)) rfl h0) ?_
    refine xc_cons (xh_lt_T (XI_lit (by decide +kernel)) rfl h1) ?_
    refine xc_cons (xh_eq_T rfl (XI_lit (by decide +kernel)) hk) ?_
    refine xc_cons (xh_lt_T (XI_lit (by decide +kernel)) rfl c1) ?_
    refine xc_cons (xh_eq_T rfl (XI_lit (by decide +kernel)) c71) ?_
    refine xc_cons (xh_lt_T (XI_lit (by decide +kernel)) rfl c72) ?_
    refine xc_cons (xh_eq_T rfl (XI_lit (by decide +kernel)) c71) ?_
    refine xc_cons (xh_gt_T (XI_lit (by decide +kernel)) rfl c73) ?_
    exact xc_nil
  refine (Classical.em (XI r (.arg 1) = (24 : Int))).elim (fun (c74 : xhid (XI r (.arg 1) = (24 : Int))) => ?_) (fun (c74 : xhid (¬ (XI r (.arg 1) = (24 : Int)))) => ?_)
  ·
    have c75 : xhid ((1 : Int) < XI r (.arg 49)) := ((by have z0 : (1 : Int) < XI r (.arg 49) := c1; omega) : (1 : Int) < XI r (.arg 49))
    have c76 : xhid (XI r (.sub (.arg 49) (.int 6)) < (6 : Int)) := ((by omega) : XI r (.sub (.arg 49) (.int 6)) < (6 : Int))
    refine ⟨114, _, ?_, lf_5_24⟩
    refine xc_cons (xh_gt_F (XI_lit (by decide +kernel)) rfl h0) ?_
    refine xc_cons (xh_lt_T (XI_lit (by decide +kernel)) rfl h1) ?_
    refine xc_cons (xh_eq_T rfl (XI_lit (by decide +kernel)) hk) ?_
    refine xc_cons (xh_lt_T (XI_lit (by decide +kernel)) rfl c1) ?_
    refine xc_cons (xh_eq_T rfl (XI_lit (by decide +kernel)) c74) ?_
    refine xc_cons (xh_lt_T (XI_lit (by decide +kernel)) rfl c75) ?_
    refine xc_cons (xh_eq_T rfl (XI_lit (by decide +kernel)) c74) ?_
    refine xc_cons (xh_gt_T (XI_lit (by decide +kernel)) rfl c76) ?_
    exact xc_nil
  refine (Classical.em (XI r (.arg 1) = (25 : Int))).elim (fun (c77 : xhid (XI r (.arg 1) = (25 : Int))) => ?_) (fun (c77 : xhid (¬ (XI r (.arg 1) = (25 : Int)))) => ?_)
  ·
    have c78 : xhid ((1 : Int) < XI r (.arg 49)) := ((by have z0 : (1 : Int) < XI r (.arg 49) := c1; omega) : (1 : Int) < XI r (.arg 49))
    have c79 : xhid (XI r (.sub (.arg 49) (.int 6)) < (6 : Int)) := ((by omega) : XI r (.sub (.arg 49) (.int 6)) < (6 : Int))
    refine ⟨113, _, ?_, lf_5_25⟩
    refine xc_cons (xh_gt_F (XI_lit (by decide +kernel)) rfl h0) ?_
    refine xc_cons (xh_lt_T (XI_lit (by decide +kernel)) rfl h1) ?_
    refine xc_cons (xh_eq_T rfl (XI_lit (by decide +kernel)) hk) ?_
    refine xc_cons (xh_lt_T (XI_lit (by decide +kernel)) rfl c1) ?_
    refine xc_cons (xh_eq_T rfl (XI_lit (by decide +kernel)) c77) ?_
    refine xc_cons (xh_lt_T (XI_lit (by decide +kernel)) rfl c78) ?_
    refine xc_cons (xh_eq_T rfl (XI_lit (by decide +kernel)) c77) ?_
    refine xc_cons (xh_gt_T (XI_lit (by decide +kernel)) rfl c79) ?_
    exact xc_nil
  refine (Classical.em (XI r (.arg 1) = (26 : Int))).elim (fun (c80 : xhid (XI r (.arg 1) = (26 : Int))) => ?_) (fun (c80 : xhid (¬ (XI r (.arg 1) = (26 : Int)))) => ?_)
  ·
    have c81 : xhid ((1 : Int) < XI r (.arg 49)) := ((by have z0 : (1 : Int) < XI r (.arg 49) := c1; omega) : (1 : Int) < XI r (.arg 49))
    have c82 : xhid (XI r (.sub (.arg 49) (.int 6)) < (6 : Int)) := ((by omega) : XI r (.sub (.arg 49) (.int 6)) < (6 : Int))
    refine ⟨114, _, ?_, lf_5_26⟩
    refine xc_cons (xh_gt_F (XI_lit (by decide +kernel)) rfl h0) ?_
    refine xc_cons (xh_lt_T (XI_lit (by decide +kernel)) rfl h1) ?_
    refine xc_cons (xh_eq_T rfl (XI_lit (by decide +kernel)) hk) ?_
    refine xc_cons (xh_lt_T (XI_lit (by decide +kernel)) rfl c1) ?_
    refine xc_cons (xh_eq_T rfl (XI_lit (by decide +kernel)) c80) ?_
    refine xc_cons (xh_lt_T (XI_lit (by decide +kernel)) rfl c81) ?_
    refine xc_cons (xh_eq_T rfl (XI_lit (by decide +kernel)) c80) ?_
    refine xc_cons (xh_gt_T (XI_lit (by decide +kernel)) rfl c82) ?_
    exact xc_nil
  refine (Classical.em (XI r (.arg 1) = (27 : Int))).elim (fun (c83 : xhid (XI r (.arg 1) = (27 : Int))) => ?_) (fun (c83 : xhid (¬ (XI r (.arg 1) = (27 : Int)))) => ?_)
  ·
    have c84 : xhid ((1 : Int) < XI r (.arg 49)) := ((by have z0 : (1 : Int) < XI r (.arg 49) := c1; omega) : (1 : Int) < XI r (.arg 49))
    have c85 : xhid (XI r (.sub (.arg 49) (.int 6)) < (6 : Int)) := ((by omega) : XI r (.sub (.arg 49) (.int 6)) < (6 : Int))
    refine ⟨113, _, ?_, lf_5_27⟩
    refine xc_cons (xh_gt_F (XI_lit (by decide +kernel)) rfl h0) ?_
    refine xc_cons (xh_lt_T (XI_lit (by decide +kernel)) rfl h1) ?_
    refine xc_cons (xh_eq_T rfl (XI_lit (by decide +kernel)) hk) ?_
    refine xc_cons (xh_lt_T (XI_lit (by decide +kernel)) rfl c1) ?_
    refine xc_cons (xh_eq_T rfl (XI_lit (by decide +kernel)) c83) ?_
    refine xc_cons (xh_lt_T (XI_lit (by decide +kernel)) rfl c84) ?_
    refine xc_cons (xh_eq_T rfl (XI_lit (by decide +kernel)) c83) ?_
    refine xc_cons (xh_gt_T (XI_lit (by decide +kernel)) rfl c85) ?_
    exact xc_nil
  refine (Classical.em (XI r (.arg 1) = (28 : Int))).elim (fun (c86 : xhid (XI r (.arg 1) = (28 : Int))) => ?_) (fun (c86 : xhid (¬ (XI r (.arg 1) = (28 : Int)))) => ?_)
  ·
    have c87 : xhid ((1 : Int) < XI r (.arg 49)) := ((by have z0 : (1 : Int) < XI r (.arg 49) := c1; omega) : (1 : Int) < XI r (.arg 49))
    have c88 : xhid (XI r (.sub (.arg 49) (.int 6)) < (6 : Int)) := ((by omega) : XI r (.sub (.arg 49) (.int 6)) < (6 : Int))
    refine ⟨114, _, ?_, lf_5_28⟩
    refine xc_cons (xh_gt_F (XI_lit (by decide +kernel)) rfl h0) ?_
    refine xc_cons (xh_lt_T (XI_lit (by decide +kernel)) rfl h1) ?_
    refine xc_cons (xh_eq_T rfl (XI_lit (by decide +kernel)) hk) ?_
    refine xc_cons (xh_lt_T (XI_lit (by decide +kernel)) rfl c1) ?_
    refine xc_cons (xh_eq_T rfl (XI_lit (by decide +kernel)) c86) ?_
    refine xc_cons (xh_lt_T (XI_lit (by decide +kernel)) rfl c87) ?_
    refine xc_cons (xh_eq_T rfl (XI_lit (by decide +kernel)) c86) ?_
    refine xc_cons (xh_gt_T (XI_lit (by decide +kernel)) rfl c88) ?_
    exact xc_nil
  refine (Classical.em (XI r (.arg 1) = (29 : Int))).elim (fun (c89 : xhid (XI r (.arg 1) = (29 : Int))) => ?_) (fun (c89 : xhid (¬ (XI r (.arg 1) = (29 : Int)))) => ?_)
  ·
    have c90 : xhid ((1 : Int) < XI r (.arg 49)) := ((by have z0 : (1 : Int) < XI r (.arg 49) := c1; omega) : (1 : Int) < XI r (.arg 49))
    have c91 : xhid (XI r (.sub (.arg 49) (.int 6)) < (6 : Int)) := ((by omega) : XI r (.sub (.arg 49) (.int 6)) < (6 : Int))
    refine ⟨113, _, ?_, lf_5_29⟩
    refine xc_cons (xh_gt_F (XI_lit (by decide +kernel)) rfl h0) ?_
    refine xc_cons (xh_lt_T (XI_lit (by decide +kernel)) rfl h1) ?_
    refine xc_cons (xh_eq_T rfl (XI_lit (by decide +kernel)) hk) ?_
    refine xc_cons (xh_lt_T (XI_lit (by decide +kernel)) rfl c1) ?_
    refine xc_cons (xh_eq_T rfl (XI_lit (by decide +kernel)) c89) ?_
    refine xc_cons (xh_lt_T (XI_lit (by decide +kernel)) rfl c90) ?_
    refine xc_cons (xh_eq_T rfl (XI_lit (by decide +kernel)) c89) ?_
    refine xc_cons (xh_gt_T (XI_lit (by decide +kernel)) rfl c91) ?_
    exact xc_nil
  refine (Classical.em (XI r (.arg 1) = (30 : Int))).elim (fun (c92 : xhid (XI r (.arg 1) = (30 : Int))) => ?_) (fun (c92 : xhid (¬ (XI r (.arg 1) = (30 : Int)))) => ?_)
  ·
    have c93 : xhid ((1 : Int) < XI r (.arg 49)) := ((by have z0 : (1 : Int) < XI r (.arg 49) := c1; omega) : (1 : Int) < XI r (.arg 49))
    have c94 : xhid (XI r (.sub (.arg 49) (.int 6)) < (6 : Int)) := ((by omega) : XI r (.sub (.arg 49) (.int 6)) < (6 : Int))
    refine ⟨114, _, ?_, lf_5_30⟩
    refine xc_cons (xh_gt_F (XI_lit (by decide +kernel)) rfl h0) ?_
    refine xc_cons (xh_lt_T (XI_lit (by decide +kernel)) rfl h1) ?_
    refine xc_cons (xh_eq_T rfl (XI_lit (by decide +kernel)) hk) ?_
    refine xc_cons (xh_lt_T (XI_lit (by decide +kernel)) rfl c1) ?_
    refine xc_cons (xh_eq_T rfl (XI_lit (by decide +kernel)) c92) ?_
    refine xc_cons (xh_lt_T (XI_lit (by decide +kernel)) rfl c93) ?_
    refine xc_cons (xh_eq_T rfl (XI_lit (by decide +kernel)) c92) ?_
    refine xc_cons (xh_gt_T (XI_lit (by decide +kernel)) rfl c94) ?_
    exact xc_nil
  refine (Classical.em (XI r (.arg 1) = (31 : Int))).elim (fun (c95 : xhid (XI r (.arg 1) = (31 : Int))) => ?_) (fun (c95 : xhid (¬ (XI r (.arg 1) = (31 : Int)))) => ?_)
  ·
    have c96 : xhid ((1 : Int) < XI r (.arg 49)) := ((by have z0 : (1 : Int) < XI r (.arg 49) := c1; omega) : (1 : Int) < XI r (.arg 49))
    have c97 : xhid (XI r (.sub (.arg 49) (.int 6)) < (6 : Int)) := ((by omega) : XI r (.sub (.arg 49) (.int 6)) < (6 : Int))
    refine ⟨113, _, ?_, lf_5_31⟩
    refine xc_cons (xh_gt_F (XI_lit (by decide +kernel)) rfl h0) ?_
    refine xc_cons (xh_lt_T (XI_lit (by decide +kernel)) rfl h1) ?_
    refine xc_cons (xh_eq_T rfl (XI_lit (by decide +kernel)) hk) ?_
    refine xc_cons (xh_lt_T (XI_lit (by decide +kernel)) rfl c1) ?_
    refine xc_cons (xh_eq_T rfl (XI_lit (by decide +kernel)) c95) ?_
    refine xc_cons (xh_lt_T (XI_lit (by decide +kernel)) rfl c96) ?_
    refine xc_cons (xh_eq_T rfl (XI_lit (by decide +kernel)) c95) ?_
    refine xc_cons (xh_gt_T (XI_lit (by decide +kernel)) rfl c97) ?_
    exact xc_nil
  refine (Classical.em (XI r (.arg 1) = (32 : Int))).elim (fun (c98 : xhid (XI r (.arg 1) = (32 : Int))) => ?_) (fun (c98 : xhid (¬ (XI r (.arg 1) = (32 : Int)))) => ?_)
  ·
    have c99 : xhid ((1 : Int) < XI r (.arg 49)) := ((by have z0 : (1 : Int) < XI r (.arg 49) := c1; omega) : (1 : Int) < XI r (.arg 49))
    have c100 : xhid (XI r (.sub (.arg 49) (.int 6)) < (6 : Int)) := ((by omega) : XI r (.sub (.arg 49) (.int 6)) < (6 : Int))
    refine ⟨114, _, ?_, lf_5_32⟩
    refine xc_cons (xh_gt_F (XI_lit (by decide +kernel)) rfl h0) ?_
    refine xc_cons (xh_lt_T (XI_lit (by decide +kernel)) rfl h1) ?_
    refine xc_cons (xh_eq_T rfl (XI_lit (by decide +kernel)) hk) ?_
    refine xc_cons (xh_lt_T (XI_lit (by decide +kernel)) rfl c1) ?_
    refine xc_cons (xh_eq_T rfl (XI_lit (by decide +kernel)) c98) ?_
    refine xc_cons (xh_lt_T (XI_lit (by decide +kernel)) rfl c99) ?_
    refine xc_cons (xh_eq_T rfl (XI_lit (by decide +kernel)) c98) ?_
    refine xc_cons (xh_gt_T (XI_lit (by decide +kernel)) rfl c100) ?_
    exact xc_nil
  refine (Classical.em (XI r (.arg 1) = (33 : Int))).elim (fun (c101 : xhid (XI r (.arg 1) = (33 : Int))) => ?_) (fun (c101 : xhid (¬ (XI r (.arg 1) = (33 : Int)))) => ?_)
  ·
    have c102 : xhid ((1 : Int) < XI r (.arg 49)) := ((by have z0 : (1 : Int) < XI r (.arg 49) := c1; omega) : (1 : Int) < XI r (.arg 49))
    have c103 : xhid (XI r (.sub (.arg 49) (.int 6)) < (6 : Int)) := ((by omega) : XI r (.sub (.arg 49) (.int 6)) < (6 : Int))
    refine ⟨113, _, ?_, lf_5_33⟩
    refine xc_cons (xh_gt_F (XI_lit (by decide +kernel)) rfl h0) ?_
    refine xc_cons (xh_lt_T (XI_lit (by decide +kernel)) rfl h1) ?_
    refine xc_cons (xh_eq_T rfl (XI_lit (by decide +kernel)) hk) ?_
    refine xc_cons (xh_lt_T (XI_lit (by decide +kernel)) rfl c1) ?_
    refine xc_cons (xh_eq_T rfl (XI_lit (by decide +kernel)) c101) ?_
    refine xc_cons (xh_lt_T (XI_lit (by decide +kernel)) rfl c102) ?_
    refine xc_cons (xh_eq_T rfl (XI_lit (by decide +kernel)) c101) ?_
    refine xc_cons (xh_gt_T (XI_lit (by decide +kernel)) rfl c103) ?_
    exact xc_nil
  refine (Classical.em (XI r (.arg 1) = (34 : Int))).elim (fun (c104 : xhid (XI r (.arg 1) = (34 : Int))) => ?_) (fun (c104 : xhid (¬ (XI r (.arg 1) = (34 : Int)))) => ?_)
  ·
    have c105 : xhid ((1 : Int) < XI r (.arg 49)) := ((by have z0 : (1 : Int) < XI r (.arg 49) := c1; omega) : (1 : Int) < XI r (.arg 49))
    have c106 : xhid (XI r (.sub (.arg 49) (.int 6)) < (6 : Int)) := ((by omega) : XI r (.sub (.arg 49) (.int 6)) < (6 : Int))
    refine ⟨114, _, ?_, lf_5_34⟩
    refine xc_cons (xh_gt_F (XI_lit (by decide +kernel)) rfl h0) ?_
    refine xc_cons (xh_lt_T (XI_lit (by decide +kernel)) rfl h1) ?_
    refine xc_cons (xh_eq_T rfl (XI_lit (by decide +kernel)) hk) ?_
    refine xc_cons (xh_lt_T (XI_lit (by decide +kernel)) rfl c1) ?_
    refine xc_cons (xh_eq_T rfl (XI_lit (by decide +kernel)) c104) ?_
    refine xc_cons (xh_lt_T (XI_lit (by decide +kernel)) rfl c105) ?_
    refine xc_cons (xh_eq_T rfl (XI_lit (by decide +kernel)) c104) ?_
    refine xc_cons (xh_gt_T (XI_lit (by decide +kernel)) rfl c106) ?_
    exact xc_nil
  refine (Classical.em (XI r (.arg 1) = (35 : Int))).elim (fun (c107 : xhid (XI r (.arg 1) = (35 : Int))) => ?_) (fun (c107 : xhid (¬ (XI r (.arg 1) = (35 : Int)))) => ?_)
  ·
    have c108 : xhid ((1 : Int) < XI r (.arg 49)) := ((by have z0 : (1 : Int) < XI r (.arg 49) := c1; omega) : (1 : Int) < XI r (.arg 49))
    have c109 : xhid (XI r (.sub (.arg 49) (.int 6)) < (6 : Int)) := ((by omega) : XI r (.sub (.arg 49) (.int 6)) < (6 : Int))
    refine ⟨113, _, ?_, lf_5_35⟩
    refine xc_cons (xh_gt_F (XI_lit (by decide +kernel)) rfl h0) ?_
    refine xc_cons (xh_lt_T (XI_lit (by decide +kernel)) rfl h1) ?_
    refine xc_cons (xh_eq_T rfl (XI_lit (by decide +kernel)) hk) ?_
    refine xc_cons (xh_lt_T (XI_lit (by decide +kernel)) rfl c1) ?_
    refine xc_cons (xh_eq_T rfl (XI_lit (by decide +kernel)) c107) ?_
    refine xc_cons (xh_lt_T (XI_lit (by decide +kernel)) rfl c108) ?_
    refine xc_cons (xh_eq_T rfl (XI_lit (by decide +kernel)) c107) ?_
    refine xc_cons (xh_gt_T (XI_lit (by decide +kernel)) rfl c109) ?_
    exact xc_nil
  refine (Classical.em (XI r (.arg 1) = (36 : Int))).elim (fun (c110 : xhid (XI r (.arg 1) = (36 : Int))) => ?_) (fun (c110 : xhid (¬ (XI r (.arg 1) = (36 : Int)))) => ?_)
  ·
    have c111 : xhid ((1 : Int) < XI r (.arg 49)) := ((by have z0 : (1 : Int) < XI r (.arg 49) := c1; omega) : (1 : Int) < XI r (.arg 49))
    have c112 : xhid (XI r (.sub (.arg 49) (.int 6)) < (6 : Int)) := ((by omega) : XI r (.sub (.arg 49) (.int 6)) < (6 : Int))
    refine ⟨114, _, ?_, lf_5_36⟩
    refine xc_cons (xh_gt_F (XI_lit (by decide +kernel)) rfl h0) ?_
    refine xc_cons (xh_lt_T (XI_lit (by decide +kernel)) rfl h1) ?_
    refine xc_cons (xh_eq_T rfl (XI_lit (by decide +kernel)) hk) ?_
    refine xc_cons (xh_lt_T (XI_lit (by decide +kernel)) rfl c1) ?_
    refine xc_cons (xh_eq_T rfl (XI_lit (by decide +kernel)) c110) ?_
    refine xc_cons (xh_lt_T (XI_lit (by decide +kernel)) rfl c111) ?_
    refine xc_cons (xh_eq_T rfl (XI_lit (by decide +kernel)) c110) ?_
    refine xc_cons (xh_gt_T (XI_lit (by decide +kernel)) rfl c112) ?_
    exact xc_nil
  refine (Classical.em (XI r (.arg 1) = (37 : Int))).elim (fun (c113 : xhid (XI r (.arg 1) = (37 : Int))) => ?_) (fun (c113 : xhid (¬ (XI r (.arg 1) = (37 : Int)))) => ?_)
  ·
    have c114 : xhid ((1 : Int) < XI r (.arg 49)) := ((by have z0 : (1 : Int) < XI r (.arg 49) := c1; omega) : (1 : Int) < XI r (.arg 49))
    have c115 : xhid (XI r (.sub (.arg 49) (.int 6)) < (6 : Int)) := ((by omega) : XI r (.sub (.arg 49) (.int 6)) < (6 : Int))
    refine ⟨113, _, ?_, lf_5_37⟩
    refine xc_cons (xh_gt_F (XI_lit (by decide +kernel)) rfl h0) ?_
    refine xc_cons (xh_lt_T (XI_lit (by decide +kernel)) rfl h1) ?_
    refine xc_cons (xh_eq_T rfl (XI_lit (by decide +kernel)) hk) ?_
    refine xc_cons (xh_lt_T (XI_lit (by decide +kernel)) rfl c1) ?_
    refine xc_cons (xh_eq_T rfl (XI_lit (by decide +kernel)) c113) ?_
    refine xc_cons (xh_lt_T (XI_lit (by decide +kernel)) rfl c114) ?_
    refine xc_cons (xh_eq_T rfl (XI_lit (by decide +kernel)) c113) ?_
    refine xc_cons (xh_gt_T (XI_lit (by decide +kernel)) rfl c115) ?_
    exact xc_nil
  refine (Classical.em (XI r (.arg 1) = (38 : Int))).elim (fun (c116 : xhid (XI r (.arg 1) = (38 : Int))) => ?_) (fun (c116 : xhid (¬ (XI r (.arg 1) = (38 : Int)))) => ?_)
  ·
    have c117 : xhid ((1 : Int) < XI r (.arg 49)) := ((by have z0 : (1 : Int) < XI r (.arg 49) := c1; omega) : (1 : Int) < XI r (.arg 49))
    have c118 : xhid (XI r (.sub (.arg 49) (.int 6)) < (6 : Int)) := ((by omega) : XI r (.sub (.arg 49) (.int 6)) < (6 : Int))
    refine ⟨114, _, ?_, lf_5_38⟩
    refine xc_cons (xh_gt_F (XI_lit (by decide +kernel)) rfl h0) ?_
    refine xc_cons (xh_lt_T (XI_lit (by decide +kernel)) rfl h1) ?_
    refine xc_cons (xh_eq_T rfl (XI_lit (by decide +kernel)) hk) ?_
    refine xc_cons (xh_lt_T (XI_lit (by decide +kernel)) rfl c1) ?_
    refine xc_cons (xh_eq_T rfl (XI_lit (by decide +kernel)) c116) ?_
    refine xc_cons (xh_lt_T (XI_lit (by decide +kernel)) rfl c117) ?_
    refine xc_cons (xh_eq_T rfl (XI_lit (by decide +kernel)) c116) ?_
    refine xc_cons (xh_gt_T (XI_lit (by decide +kernel)) rfl c118) ?_
    exact xc_nil
  refine (Classical.em (XI r (.arg 1) = (39 : Int))).elim (fun (c119 : xhid (XI r (.arg 1) = (39 : Int))) => ?_) (fun (c119 : xhid (¬ (XI r (.arg 1) = (39 : Int)))) => ?_)
  ·
    have c120 : xhid ((1 : Int) < XI r (.arg 49)) := ((by have z0 : (1 : Int) < XI r (.arg 49) := c1; omega) : (1 : Int) < XI r (.arg 49))
    have c121 : xhid (XI r (.sub (.arg 49) (.int 6)) < (6 : Int)) := ((by omega) : XI r (.sub (.arg 49) (.int 6)) < (6 : Int))
    refine ⟨113, _, ?_, lf_5_39⟩
    refine xc_cons (xh_gt_F (XI_lit (by decide +kernel)) rfl h0) ?_
    refine xc_cons (xh_lt_T (XI_lit (by decide +kernel)) rfl h1) ?_
    refine xc_cons (xh_eq_T rfl (XI_lit (by decide +kernel)) hk) ?_
    refine xc_cons (xh_lt_T (XI_lit (by decide +kernel)) rfl c1) ?_
    refine xc_cons (xh_eq_T rfl (XI_lit (by decide +kernel)) c119) ?_
    refine xc_cons (xh_lt_T (XI_lit (by decide +kernel)) rfl c120) ?_
    refine xc_cons (xh_eq_T rfl (XI_lit (by decide +kernel)) c119) ?_
    refine xc_cons (xh_gt_T (XI_lit (by decide +kernel)) rfl c121) ?_
    exact xc_nil
  refine (Classical.em (XI r (.arg 1) = (40 : Int))).elim (fun (c122 : xhid (XI r (.arg 1) = (40 : Int))) => ?_) (fun (c122 : xhid (¬ (XI r (.arg 1) = (40 : Int)))) => ?_)
  ·
    have c123 : xhid ((1 : Int) < XI r (.arg 49)) := ((by have z0 : (1 : Int) < XI r (.arg 49) := c1; omega) : (1 : Int) < XI r (.arg 49))
    have c124 : xhid (XI r (.sub (.arg 49) (.int 6)) < (6 : Int)) := ((by omega) : XI r (.sub (.arg 49) (.int 6)) < (6 : Int))
    refine ⟨123, _, ?_, lf_5_40⟩
    refine xc_cons (xh_gt_F (XI_lit (by decide +kernel)) rfl h0) ?_
    refine xc_cons (xh_lt_T (XI_lit (by decide +kernel)) rfl h1) ?_
    refine xc_cons (xh_eq_T rfl (XI_lit (by decide +kernel)) hk) ?_
    refine xc_cons (xh_lt_T (XI_lit (by decide +kernel)) rfl c1) ?_
    refine xc_cons (xh_eq_T rfl (XI_lit (by decide +kernel)) c122) ?_
    refine xc_cons (xh_lt_T (XI_lit (by decide +kernel)) rfl c123) ?_
    refine xc_cons (xh_eq_T rfl (XI_lit (by decide +kernel)) c122) ?_
    refine xc_cons (xh_gt_T (XI_lit (by decide +kernel)) rfl c124) ?_
    exact xc_nil
  refine (Classical.em (XI r (.arg 1) = (41 : Int))).elim (fun (c125 : xhid (XI r (.arg 1) = (41 : Int))) => ?_) (fun (c125 : xhid (¬ (XI r (.arg 1) = (41 : Int)))) => ?_)
  ·
    have c126 : xhid ((1 : Int) < XI r (.arg 49)) := ((by have z0 : (1 : Int) < XI r (.arg 49) := c1; omega) : (1 : Int) < XI r (.arg 49))
    have c127 : xhid (XI r (.sub (.arg 49) (.int 6)) < (6 : Int)) := ((by omega) : XI r (.sub (.arg 49) (.int 6)) < (6 : Int))
    refine ⟨123, _, ?_, lf_5_41⟩
    refine xc_cons (xh_gt_F (XI_lit (by decide +kernel)) rfl h0) ?_
    refine xc_cons (xh_lt_T (XI_lit (by decide +kernel)) rfl h1) ?_
    refine xc_cons (xh_eq_T rfl (XI_lit (by decide +kernel)) hk) ?_
    refine xc_cons (xh_lt_T (XI_lit (by decide +kernel)) rfl c1) ?_
    refine xc_cons (xh_eq_T rfl (XI_lit (by decide +kernel)) c125) ?_
    refine xc_cons (xh_lt_T (XI_lit (by decide +kernel)) rfl c126) ?_
    refine xc_cons (xh_eq_T rfl (XI_lit (by decide +kernel)) c125) ?_
    refine xc_cons (xh_gt_T (XI_lit (by decide +kernel)) rfl c127) ?_
    exact xc_nil
  refine (Classical.em (XI r (.arg 1) = (42 : Int))).elim (fun (c128 : xhid (XI r (.arg 1) = (42 : Int))) => ?_) (fun (c128 : xhid (¬ (XI r (.arg 1) = (42 : Int)))) => ?_)
  ·
    have c129 : xhid ((1 : Int) < XI r (.arg 49)) := ((by have z0 : (1 : Int) < XI r (.arg 49) := c1; omega) : (1 : Int) < XI r (.arg 49))
    have c130 : xhid (XI r (.sub (.arg 49) (.int 6)) < (6 : Int)) := ((by omega) : XI r (.sub (.arg 49) (.int 6)) < (6 : Int))
    refine ⟨123, _, ?_, lf_5_42⟩
    refine xc_cons (xh_gt_F (XI_lit (by decide +kernel)) rfl h0) ?_
    refine xc_cons (xh_lt_T (XI_lit (by decide +kernel)) rfl h1) ?_
    refine xc_cons (xh_eq_T rfl (XI_lit (by decide +kernel)) hk) ?_
    refine xc_cons (xh_lt_T (XI_lit (by decide +kernel)) rfl c1) ?_
    refine xc_cons (xh_eq_T rfl (XI_lit (by decide +kernel)) c128) ?_
    refine xc_cons (xh_lt_T (XI_lit (by decide +kernel)) rfl c129) ?_
    refine xc_cons (xh_eq_T rfl (XI_lit (by decide +kernel)) c128) ?_
    refine xc_cons (xh_gt_T (XI_lit (by decide +kernel)) rfl c130) ?_
    exact xc_nil
  refine (Classical.em (XI r (.arg 1) = (43 : Int))).elim (fun (c131 : xhid (XI r (.arg 1) = (43 : Int))) => ?_) (fun (c131 : xhid (¬ (XI r (.arg 1) = (43 : Int)))) => ?_)
  ·
    have c132 : xhid ((1 : Int) < XI r (.arg 49)) := ((by have z0 : (1 : Int) < XI r (.arg 49) := c1; omega) : (1 : Int) < XI r (.arg 49))
    have c133 : xhid (XI r (.sub (.arg 49) (.int 6)) < (6 : Int)) := ((by omega) : XI r (.sub (.arg 49) (.int 6)) < (6 : Int))
    refine ⟨123, _, ?_, lf_5_43⟩
    refine xc_cons (xh_gt_F (XI_lit (by decide +kernel)) rfl h0) ?_
    refine xc_cons (xh_lt_T (XI_lit (by decide +kernel)) rfl h1) ?_
    refine xc_cons (xh_eq_T rfl (XI_lit (by decide +kernel)) hk) ?_
    refine xc_cons (xh_lt_T (XI_lit (by decide +kernel)) rfl c1) ?_
    refine xc_cons (xh_eq_T rfl (XI_lit (by decide +kernel)) c131) ?_
    refine xc_cons (xh_lt_T (XI_lit (by decide +kernel)) rfl c132) ?_
    refine xc_cons (xh_eq_T rfl (XI_lit (by decide +kernel)) c131) ?_
    refine xc_cons (xh_gt_T (XI_lit (by decide +kernel)) rfl c133) ?_
    exact xc_nil
  refine (Classical.em (XI r (.arg 1) = (44 : Int))).elim (fun (c134 : xhid (XI r (.arg 1) = (44 : Int))) => ?_) (fun (c134 : xhid (¬ (XI r (.arg 1) = (44 : Int)))) => ?_)
  ·
    have c135 : xhid ((1 : Int) < XI r (.arg 49)) := ((by have z0 : (1 : Int) < XI r (.arg 49) := c1; omega) : (1 : Int) < XI r (.arg 49))
    have c136 : xhid (XI r (.sub (.arg 49) (.int 6)) < (6 : Int)) := ((by omega) : XI r (.sub (.arg 49) (.int 6)) < (6 : Int))
    refine ⟨123, _, ?_, lf_5_44⟩
    refine xc_cons (xh_gt_F (XI_lit (by decide +kernel)) rfl h0) ?_
    refine xc_cons (xh_lt_T (XI_lit (by decide +kernel)) rfl h1) ?_
    refine xc_cons (xh_eq_T rfl (XI_lit (by decide +kernel)) hk) ?_
    refine xc_cons (xh_lt_T (XI_lit (by decide +kernel)) rfl c1) ?_
    refine xc_cons (xh_eq_T rfl (XI_lit (by decide +kernel)) c134) ?_
    refine xc_cons (xh_lt_T (XI_lit (by decide +kernel)) rfl c135) ?_
    refine xc_cons (xh_eq_T rfl (XI_lit (by decide +kernel)) c134) ?_
    refine xc_cons (xh_gt_T (XI_lit (by decide +kernel)) rfl c136) ?_
    exact xc_nil
  refine (Classical.em (XI r (.arg 1) = (45 : Int))).elim (fun (c137 : xhid (XI r (.arg 1) = (45 : Int))) => ?_) (fun (c137 : xhid (¬ (XI r (.arg 1) = (45 : Int)))) => ?_)
  ·
    have c138 : xhid ((1 : Int) < XI r (.arg 49)) := ((by have z0 : (1 : Int) < XI r (.arg 49) := c1; omega) : (1 : Int) < XI r (.arg 49))
    have c139 : xhid (XI r (.sub (.arg 49) (.int 6)) < (6 : Int)) := ((by omega) : XI r (.sub (.arg 49) (.int 6)) < (6 : Int))
    refine ⟨123, _, ?_, lf_5_45⟩
    refine xc_cons (xh_gt_F (XI_lit (by decide +kernel)) rfl h0) ?_
    refine xc_cons (xh_lt_T (XI_lit (by decide +kernel)) rfl h1) ?_
    refine xc_cons (xh_eq_T rfl (XI_lit (by decide +kernel)) hk) ?_
    refine xc_cons (xh_lt_T (XI_lit (by decide +kernel)) rfl c1) ?_
    refine xc_cons (xh_eq_T rfl (XI_lit (by decide +kernel)) c137) ?_
    refine xc_cons (xh_lt_T (XI_lit (by decide +kernel)) rfl c138) ?_
    refine xc_cons (xh_eq_T rfl (XI_lit (by decide +kernel)) c137) ?_
    refine xc_cons (xh_gt_T (XI_lit (by decide +kernel)) rfl c139) ?_
    exact xc_nil
  refine (Classical.em (XI r (.arg 1) = (46 : Int))).elim (fun (c140 : xhid (XI r (.arg 1) = (46 : Int))) => ?_) (fun (c140 : xhid (¬ (XI r (.arg 1) = (46 : Int)))) => ?_)
  ·
    have c141 : xhid ((1 : Int) < XI r (.arg 49)) := ((by have z0 : (1 : Int) < XI r (.arg 49) := c1; omega) : (1 : Int) < XI r (.arg 49))
    have c142 : xhid (XI r (.sub (.arg 49) (.int 6)) < (6 : Int)) := ((by omega) : XI r (.sub (.arg 49) (.int 6)) < (6 : Int))
    refine ⟨123, _, ?_, lf_5_46⟩
    refine xc_cons (xh_gt_F (XI_lit (by decide +kernel)) rfl h0) ?_
    refine xc_cons (xh_lt_T (XI_lit (by decide +kernel)) rfl h1) ?_
    refine xc_cons (xh_eq_T rfl (XI_lit (by decide +kernel)) hk) ?_
    refine xc_cons (xh_lt_T (XI_lit (by decide +kernel)) rfl c1) ?_
    refine xc_cons (xh_eq_T rfl (XI_lit (by decide +kernel)) c140) ?_
    refine xc_cons (xh_lt_T (XI_lit (by decide +kernel)) rfl c141) ?_
    refine xc_cons (xh_eq_T rfl (XI_lit (by decide +kernel)) c140) ?_
    refine xc_cons (xh_gt_T (XI_lit (by decide +kernel)) rfl c142) ?_
    exact xc_nil
  refine (Classical.em (XI r (.arg 1) = (47 : Int))).elim (fun (c143 : xhid (XI r (.arg 1) = (47 : Int))) => ?_) (fun (c143 : xhid (¬ (XI r (.arg 1) = (47 : Int)))) => ?_)
  ·
    have c144 : xhid ((1 : Int) < XI r (.arg 49)) := ((by have z0 : (1 : Int) < XI r (.arg 49) := c1; omega) : (1 : Int) < XI r (.arg 49))
    have c145 : xhid (XI r (.sub (.arg 49) (.int 6)) < (6 : Int)) := ((by omega) : XI r (.sub (.arg 49) (.int 6)) < (6 : Int))
    refine ⟨123, _, ?_, lf_5_47⟩
    refine xc_cons (xh_gt_F (XI_lit (by decide +kernel)) rfl h0) ?_
    refine xc_cons (xh_lt_T (XI_lit (by decide +kernel)) rfl h1) ?_
    refine xc_cons (xh_eq_T rfl (XI_lit (by decide +kernel)) hk) ?_
    refine xc_cons (xh_lt_T (XI_lit (by decide +kernel)) rfl c1) ?_
    refine xc_cons (xh_eq_T rfl (XI_lit (by decide +kernel)) c143) ?_
    refine xc_cons (xh_lt_T (XI_lit (by decide +kernel)) rfl c144) ?_
    refine xc_cons (xh_eq_T rfl (XI_lit (by decide +kernel)) c143) ?_
    refine xc_cons (xh_gt_T (XI_lit (by decide +kernel)) rfl c145) ?_
    exact xc_nil
  refine (Classical.em (XI r (.arg 1) = (48 : Int))).elim (fun (c146 : xhid (XI r (.arg 1) = (48 : Int))) => ?_) (fun (c146 : xhid (¬ (XI r (.arg 1) = (48 : Int)))) => ?_)
  ·
    have c147 : xhid ((1 : Int) < XI r (.arg 49)) := ((by have z0 : (1 : Int) < XI r (.arg 49) := c1; omega) : (1 : Int) < XI r (.arg 49))
    have c148 : xhid (XI r (.sub (.arg 49) (.int 6)) < (6 : Int)) := ((by omega) : XI r (.sub (.arg 49) (.int 6)) < (6 : Int))
    refine ⟨123, _, ?_, lf_5_48⟩
    refine xc_cons (xh_gt_F (XI_lit (by decide +kernel)) rfl h0) ?_
    refine xc_cons (xh_lt_T (XI_lit (by decide +kernel)) rfl h1) ?_
    refine xc_cons (xh_eq_T rfl (XI_lit (by decide +kernel)) hk) ?_
    refine xc_cons (xh_lt_T (XI_lit (by decide +kernel)) rfl c1) ?_
    refine xc_cons (xh_eq_T rfl (XI_lit (by decide +kernel)) c146) ?_
    refine xc_cons (xh_lt_T (XI_lit (by decide +kernel)) rfl c147) ?_
    refine xc_cons (xh_eq_T rfl (XI_lit (by decide +kernel)) c146) ?_
    refine xc_cons (xh_gt_T (XI_lit (by decide +kernel)) rfl c148) ?_
    exact xc_nil
  refine (Classical.em (XI r (.arg 1) = (49 : Int))).elim (fun (c149 : xhid (XI r (.arg 1) = (49 : Int))) => ?_) (fun (c149 : xhid (¬ (XI r (.arg 1) = (49 : Int)))) => ?_)
  ·
    have c150 : xhid ((1 : Int) < XI r (.arg 49)) := ((by have z0 : (1 : Int) < XI r (.arg 49) := c1; omega) : (1 : Int) < XI r (.arg 49))
    have c151 : xhid (XI r (.sub (.arg 49) (.int 6)) < (6 : Int)) := ((by omega) : XI r (.sub (.arg 49) (.int 6)) < (6 : Int))
    refine ⟨123, _, ?_, lf_5_49⟩
    refine xc_cons (xh_gt_F (XI_lit (by decide +kernel)) rfl h0) ?_
    refine xc_cons (xh_lt_T (XI_lit (by decide +kernel)) rfl h1) ?_
    refine xc_cons (xh_eq_T rfl (XI_lit (by decide +kernel)) hk) ?_
    refine xc_cons (xh_lt_T (XI_lit (by decide +kernel)) rfl c1) ?_
    refine xc_cons (xh_eq_T rfl (XI_lit (by decide +kernel)) c149) ?_
    refine xc_cons (xh_lt_T (XI_lit (by decide +kernel)) rfl c150) ?_
    refine xc_cons (xh_eq_T rfl (XI_lit (by decide +kernel)) c149) ?_
    refine xc_cons (xh_gt_T (XI_lit (by decide +kernel)) rfl c151) ?_
    exact xc_nil
  refine (Classical.em (XI r (.arg 1) = (50 : Int))).elim (fun (c152 : xhid (XI r (.arg 1) = (50 : Int))) => ?_) (fun (c152 : xhid (¬ (XI r (.arg 1) = (50 : Int)))) => ?_)
  ·
    have c153 : xhid ((1 : Int) < XI r (.arg 49)) := ((by have z0 : (1 : Int) < XI r (.arg 49) := c1; omega) : (1 : Int) < XI r (.arg 49))
    have c154 : xhid (XI r (.sub (.arg 49) (.int 6)) < (6 : Int)) := ((by omega) : XI r (.sub (.arg 49) (.int 6)) < (6 : Int))
    refine ⟨112, _, ?_, lf_5_50⟩
    refine xc_cons (xh_gt_F (XI_lit (by decide +kernel)) rfl h0) ?_
    refine xc_cons (xh_lt_T (XI_lit (by decide +kernel)) rfl h1) ?_
    refine xc_cons (xh_eq_T rfl (XI_lit (by decide +kernel)) hk) ?_
    refine xc_cons (xh_lt_T (XI_lit (by decide +kernel)) rfl c1) ?_
    refine xc_cons (xh_eq_T rfl (XI_lit (by decide +kernel)) c152) ?_
    refine xc_cons (xh_lt_T (XI_lit (by decide +kernel)) rfl c153) ?_
    refine xc_cons (xh_eq_T rfl (XI_lit (by decide +kernel)) c152) ?_
    refine xc_cons (xh_gt_T (XI_lit (by decide +kernel)) rfl c154) ?_
    exact xc_nil
  refine (Classical.em (XI r (.arg 1) = (51 : Int))).elim (fun (c155 : xhid (XI r (.arg 1) = (51 : Int))) => ?_) (fun (c155 : xhid (¬ (XI r (.arg 1) = (51 : Int)))) => ?_)
  ·
    have c156 : xhid ((1 : Int) < XI r (.arg 49)) := ((by have z0 : (1 : Int) < XI r (.arg 49) := c1; omega) : (1 : Int) < XI r (.arg 49))
    have c157 : xhid (XI r (.sub (.arg 49) (.int 6)) < (6 : Int)) := ((by omega) : XI r (.sub (.arg 49) (.int 6)) < (6 : Int))
    refine ⟨118, _, ?_, lf_5_51⟩
    refine xc_cons (xh_gt_F (XI_lit (by decide +kernel)) rfl h0) ?_
    refine xc_cons (xh_lt_T (XI_lit (by decide +kernel)) rfl h1) ?_
    refine xc_cons (xh_eq_T rfl (XI_lit (by decide +kernel)) hk) ?_
    refine xc_cons (xh_lt_T (XI_lit (by decide +kernel)) rfl c1) ?_
    refine xc_cons (xh_eq_T rfl (XI_lit (by decide +kernel)) c155) ?_
    refine xc_cons (xh_lt_T (XI_lit (by decide +kernel)) rfl c156) ?_
    refine xc_cons (xh_eq_T rfl (XI_lit (by decide +kernel)) c155) ?_
    refine xc_cons (xh_gt_T (XI_lit (by decide +kernel)) rfl c157) ?_
    exact xc_nil
  refine (Classical.em (XI r (.arg 1) = (52 : Int))).elim (fun (c158 : xhid (XI r (.arg 1) = (52 : Int))) => ?_) (fun (c158 : xhid (¬ (XI r (.arg 1) = (52 : Int)))) => ?_)
  ·
    have c159 : xhid ((1 : Int) < XI r (.arg 49)) := ((by have z0 : (1 : Int) < XI r (.arg 49) := c1; omega) : (1 : Int) < XI r (.arg 49))
    have c160 : xhid (XI r (.sub (.arg 49) (.int 6)) < (6 : Int)) := ((by omega) : XI r (.sub (.arg 49) (.int 6)) < (6 : Int))
    refine ⟨123, _, ?_, lf_5_52⟩
    refine xc_cons (xh_gt_F (XI_lit (by decide +kernel)) rfl h0) ?_
    refine xc_cons (xh_lt_T (XI_lit (by decide +kernel)) rfl h1) ?_
    refine xc_cons (xh_eq_T rfl (XI_lit (by decide +kernel)) hk) ?_
    refine xc_cons (xh_lt_T (XI_lit (by decide +kernel)) rfl c1) ?_
    refine xc_cons (xh_eq_T rfl (XI_lit (by decide +kernel)) c158) ?_
    refine xc_cons (xh_lt_T (XI_lit (by decide +kernel)) rfl c159) ?_
    refine xc_cons (xh_eq_T rfl (XI_lit (by decide +kernel)) c158) ?_
    refine xc_cons (xh_gt_T (XI_lit (by decide +kernel)) rfl c160) ?_
    exact xc_nil
  refine (Classical.em (XI r (.arg 1) = (53 : Int))).elim (fun (c161 : xhid (XI r (.arg 1) = (53 : Int))) => ?_) (fun (c161 : xhid (¬ (XI r (.arg 1) = (53 : Int)))) => ?_)
  ·
    have c162 : xhid ((1 : Int) < XI r (.arg 49)) := ((by have z0 : (1 : Int) < XI r (.arg 49) := c1; omega) : (1 : Int) < XI r (.arg 49))
    have c163 : xhid (XI r (.sub (.arg 49) (.int 6)) < (6 : Int)) := ((by omega) : XI r (.sub (.arg 49) (.int 6)) < (6 : Int))
    refine ⟨123, _, ?_, lf_5_53⟩
    refine xc_cons (xh_gt_F (XI_lit (by decide +kernel)) rfl h0) ?_
    refine xc_cons (xh_lt_T (XI_lit (by decide +kernel)) rfl h1) ?_
    refine xc_cons (xh_eq_T rfl (XI_lit (by decide +kernel)) hk) ?_
    refine xc_cons (xh_lt_T (XI_lit (by decide +kernel)) rfl c1) ?_
    refine xc_cons (xh_eq_T rfl (XI_lit (by decide +kernel)) c161) ?_
    refine xc_cons (xh_lt_T (XI_lit (by decide +kernel)) rfl c162) ?_
    refine xc_cons (xh_eq_T rfl (XI_lit (by decide +kernel)) c161) ?_
    refine xc_cons (xh_gt_T (XI_lit (by decide +kernel)) rfl c163) ?_
    exact xc_nil
  refine (Classical.em (XI r (.arg 1) = (60 : Int))).elim (fun (c164 : xhid (XI r (.arg 1) = (60 : Int))) => ?_) (fun (c164 : xhid (¬ (XI r (.arg 1) = (60 : Int)))) => ?_)
  ·
    have c165 : xhid ((1 : Int) < XI r (.arg 49)) := ((by have z0 : (1 : Int) < XI r (.arg 49) := c1; omega) : (1 : Int) < XI r (.arg 49))
    have c166 : xhid (XI r (.sub (.arg 49) (.int 6)) < (6 : Int)) := ((by omega) : XI r (.sub (.arg 49) (.int 6)) < (6 : Int))
    refine ⟨142, _, ?_, lf_5_54⟩
    refine xc_cons (xh_gt_F (XI_lit (by decide +kernel)) rfl h0) ?_
    refine xc_cons (xh_lt_T (XI_lit (by decide +kernel)) rfl h1) ?_
    refine xc_cons (xh_eq_T rfl (XI_lit (by decide +kernel)) hk) ?_
    refine xc_cons (xh_lt_T (XI_lit (by decide +kernel)) rfl c1) ?_
    refine xc_cons (xh_eq_T rfl (XI_lit (by decide +kernel)) c164) ?_
    refine xc_cons (xh_lt_T (XI_lit (by decide +kernel)) rfl c165) ?_
    refine xc_cons (xh_eq_T rfl (XI_lit (by decide +kernel)) c164) ?_
    refine xc_cons (xh_gt_T (XI_lit (by decide +kernel)) rfl c166) ?_
    exact xc_nil
  refine (Classical.em (XI r (.arg 1) = (61 : Int))).elim (fun (c167 : xhid (XI r (.arg 1) = (61 : Int))) => ?_) (fun (c167 : xhid (¬ (XI r (.arg 1) = (61 : Int)))) => ?_)
  ·
    have c168 : xhid ((1 : Int) < XI r (.arg 49)) := ((by have z0 : (1 : Int) < XI r (.arg 49) := c1; omega) : (1 : Int) < XI r (.arg 49))
    have c169 : xhid (XI r (.sub (.arg 49) (.int 6)) < (6 : Int)) := ((by omega) : XI r (.sub (.arg 49) (.int 6)) < (6 : Int))
    refine ⟨148, _, ?_, lf_5_55⟩
    refine xc_cons (xh_gt_F (XI_lit (by decide +kernel)) rfl h0) ?_
    refine xc_cons (xh_lt_T (XI_lit (by decide +kernel)) rfl h1) ?_
    refine xc_cons (xh_eq_T rfl (XI_lit (by decide +kernel)) hk) ?_
    refine xc_cons (xh_lt_T (XI_lit (by decide +kernel)) rfl c1) ?_
    refine xc_cons (xh_eq_T rfl (XI_lit (by decide +kernel)) c167) ?_
    refine xc_cons (xh_lt_T (XI_lit (by decide +kernel)) rfl c168) ?_
    refine xc_cons (xh_eq_T rfl (XI_lit (by decide +kernel)) c167) ?_
    refine xc_cons (xh_gt_T (XI_lit (by decide +kernel)) rfl c169) ?_
    exact xc_nil
  refine (Classical.em (XI r (.arg 1) = (62 : Int))).elim (fun (c170 : xhid (XI r (.arg 1) = (62 : Int))) => ?_) (fun (c170 : xhid (¬ (XI r (.arg 1) = (62 : Int)))) => ?_)
  ·
    have c171 : xhid ((1 : Int) < XI r (.arg 49)) := ((by have z0 : (1 : Int) < XI r (.arg 49) := c1; omega) : (1 : Int) < XI r (.arg 49))
    have c172 : xhid (XI r (.sub (.arg 49) (.int 6)) < (6 : Int)) := ((by omega) : XI r (.sub (.arg 49) (.int 6)) < (6 : Int))
    refine ⟨148, _, ?_, lf_5_56⟩
    refine xc_cons (xh_gt_F (XI_lit (by decide +kernel)) rfl h0) ?_
    refine xc_cons (xh_lt_T (XI_lit (by decide +kernel)) rfl h1) ?_
    refine xc_cons (xh_eq_T rfl (XI_lit (by decide +kernel)) hk) ?_
    refine xc_cons (xh_lt_T (XI_lit (by decide +kernel)) rfl c1) ?_
    refine xc_cons (xh_eq_T rfl (XI_lit (by decide +kernel)) c170) ?_
    refine xc_cons (xh_lt_T (XI_lit (by decide +kernel)) rfl c171) ?_
    refine xc_cons (xh_eq_T rfl (XI_lit (by decide +kernel)) c170) ?_
    refine xc_cons (xh_gt_T (XI_lit (by decide +kernel)) rfl c172) ?_
    exact xc_nil
  refine (Classical.em (XI r (.arg 1) = (63 : Int))).elim (fun (c173 : xhid (XI r (.arg 1) = (63 : Int))) => ?_) (fun (c173 : xhid (¬ (XI r (.arg 1) = (63 : Int)))) => ?_)
  ·
    have c174 : xhid ((1 : Int) < XI r (.arg 49)) := ((by have z0 : (1 : Int) < XI r (.arg 49) := c1; omega) : (1 : Int) < XI r (.arg 49))
    have c175 : xhid (XI r (.sub (.arg 49) (.int 6)) < (6 : Int)) := ((by omega) : XI r (.sub (.arg 49) (.int 6)) < (6 : Int))
    refine ⟨148, _, ?_, lf_5_57⟩
    refine xc_cons (xh_gt_F (XI_lit (by decide +kernel)) rfl h0) ?_
    refine xc_cons (xh_lt_T (XI_lit (by decide +kernel)) rfl h1) ?_
    refine xc_cons (xh_eq_T rfl (XI_lit (by decide +kernel)) hk) ?_
    refine xc_cons (xh_lt_T (XI_lit (by decide +kernel)) rfl c1) ?_
    refine xc_cons (xh_eq_T rfl (XI_lit (by decide +kernel)) c173) ?_
    refine xc_cons (xh_lt_T (XI_lit (by decide +kernel)) rfl c174) ?_
    refine xc_cons (xh_eq_T rfl (XI_lit (by decide +kernel)) c173) ?_
    refine xc_cons (xh_gt_T (XI_lit (by decide +kernel)) rfl c175) ?_
    exact xc_nil
  refine (Classical.em (XI r (.arg 1) = (64 : Int))).elim (fun (c176 : xhid (XI r (.arg 1) = (64 : Int))) => ?_) (fun (c176 : xhid (¬ (XI r (.arg 1) = (64 : Int)))) => ?_)
  ·
    have c177 : xhid ((1 : Int) < XI r (.arg 49)) := ((by have z0 : (1 : Int) < XI r (.arg 49) := c1; omega) : (1 : Int) < XI r (.arg 49))
    have c178 : xhid (XI r (.sub (.arg 49) (.int 6)) < (6 : Int)) := ((by omega) : XI r (.sub (.arg 49) (.int 6)) < (6 : Int))
    refine ⟨148, _, ?_, lf_5_58⟩
    refine xc_cons (xh_gt_F (XI_lit (by decide +kernel)) rfl h0) ?_
    refine xc_cons (xh_lt_T (XI_lit (by decide +kernel)) rfl h1) ?_
    refine xc_cons (xh_eq_T rfl (XI_lit (by decide +kernel)) hk) ?_
    refine xc_cons (xh_lt_T (XI_lit (by decide +kernel)) rfl c1) ?_
    refine xc_cons (xh_eq_T rfl (XI_lit (by decide +kernel)) c176) ?_
    refine xc_cons (xh_lt_T (XI_lit (by decide +kernel)) rfl c177) ?_
    refine xc_cons (xh_eq_T rfl (XI_lit (by decide +kernel)) c176) ?_
    refine xc_cons (xh_gt_T (XI_lit (by decide +kernel)) rfl c178) ?_
    exact xc_nil
  refine (Classical.em (XI r (.arg 1) = (65 : Int))).elim (fun (c179 : xhid (XI r (.arg 1) = (65 : Int))) => ?_) (fun (c179 : xhid (¬ (XI r (.arg 1) = (65 : Int)))) => ?_)
  ·
    have c180 : xhid ((1 : Int) < XI r (.arg 49)) := ((by have z0 : (1 : Int) < XI r (.arg 49) := c1; omega) : (1 : Int) < XI r (.arg 49))
    have c181 : xhid (XI r (.sub (.arg 49) (.int 6)) < (6 : Int)) := ((by omega) : XI r (.sub (.arg 49) (.int 6)) < (6 : Int))
    refine ⟨148, _, ?_, lf_5_59⟩
    refine xc_cons (xh_gt_F (XI_lit (by decide +kernel)) rfl h0) ?_
    refine xc_cons (xh_lt_T (XI_lit (by decide +kernel)) rfl h1) ?_
    refine xc_cons (xh_eq_T rfl (XI_lit (by decide +kernel)) hk) ?_
    refine xc_cons (xh_lt_T (XI_lit (by decide +kernel)) rfl c1) ?_
    refine xc_cons (xh_eq_T rfl (XI_lit (by decide +kernel)) c179) ?_
    refine xc_cons (xh_lt_T (XI_lit (by decide +kernel)) rfl c180) ?_
    refine xc_cons (xh_eq_T rfl (XI_lit (by decide +kernel)) c179) ?_
    refine xc_cons (xh_gt_T (XI_lit (by decide +kernel)) rfl c181) ?_
    exact xc_nil
  refine (Classical.em (XI r (.arg 1) = (66 : Int))).elim (fun (c182 : xhid (XI r (.arg 1) = (66 : Int))) => ?_) (fun (c182 : xhid (¬ (XI r (.arg 1) = (66 : Int)))) => ?_)
  ·
    have c183 : xhid ((1 : Int) < XI r (.arg 49)) := ((by have z0 : (1 : Int) < XI r (.arg 49) := c1; omega) : (1 : Int) < XI r (.arg 49))
    have c184 : xhid (XI r (.sub (.arg 49) (.int 6)) < (6 : Int)) := ((by omega) : XI r (.sub (.arg 49) (.int 6)) < (6 : Int))
    refine ⟨148, _, ?_, lf_5_60⟩
    refine xc_cons (xh_gt_F (XI_lit (by decide +kernel)) rfl h0) ?_
    refine xc_cons (xh_lt_T (XI_lit (by decide +kernel)) rfl h1) ?_
    refine xc_cons (xh_eq_T rfl (XI_lit (by decide +kernel)) hk) ?_
    refine xc_cons (xh_lt_T (XI_lit (by decide +kernel)) rfl c1) ?_
    refine xc_cons (xh_eq_T rfl (XI_lit (by decide +kernel)) c182) ?_
    refine xc_cons (xh_lt_T (XI_lit (by decide +kernel)) rfl c183) ?_
    refine xc_cons (xh_eq_T rfl (XI_lit (by decide +kernel)) c182) ?_
    refine xc_cons (xh_gt_T (XI_lit (by decide +kernel)) rfl c184) ?_
    exact xc_nil
  refine (Classical.em (XI r (.arg 1) = (67 : Int))).elim (fun (c185 : xhid (XI r (.arg 1) = (67 : Int))) => ?_) (fun (c185 : xhid (¬ (XI r (.arg 1) = (67 : Int)))) => ?_)
  ·
    have c186 : xhid ((1 : Int) < XI r (.arg 49)) := ((by have z0 : (1 : Int) < XI r (.arg 49) := c1; omega) : (1 : Int) < XI r (.arg 49))
    have c187 : xhid (XI r (.sub (.arg 49) (.int 6)) < (6 : Int)) := ((by omega) : XI r (.sub (.arg 49) (.int 6)) < (6 : Int))
    refine ⟨148, _, ?_, lf_5_61⟩
    refine xc_cons (xh_gt_F (XI_lit (by decide +kernel)) rfl h0) ?_
    refine xc_cons (xh_lt_T (XI_lit (by decide +kernel)) rfl h1) ?_
    refine xc_cons (xh_eq_T rfl (XI_lit (by decide +kernel)) hk) ?_
    refine xc_cons (xh_lt_T (XI_lit (by decide +kernel)) rfl c1) ?_
    refine xc_cons (xh_eq_T rfl (XI_lit (by decide +kernel)) c185) ?_
    refine xc_cons (xh_lt_T (XI_lit (by decide +kernel)) rfl c186) ?_
    refine xc_cons (xh_eq_T rfl (XI_lit (by decide +kernel)) c185) ?_
    refine xc_cons (xh_gt_T (XI_lit (by decide +kernel)) rfl c187) ?_
    exact xc_nil
  refine (Classical.em (XI r (.arg 1) = (68 : Int))).elim (fun (c188 : xhid (XI r (.arg 1) = (68 : Int))) => ?_) (fun (c188 : xhid (¬ (XI r (.arg 1) = (68 : Int)))) => ?_)
  ·
    have c189 : xhid ((1 : Int) < XI r (.arg 49)) := ((by have z0 : (1 : Int) < XI r (.arg 49) := c1; omega) : (1 : Int) < XI r (.arg 49))
    have c190 : xhid (XI r (.sub (.arg 49) (.int 6)) < (6 : Int)) := ((by omega) : XI r (.sub (.arg 49) (.int 6)) < (6 : Int))
    refine ⟨148, _, ?_, lf_5_62⟩
    refine xc_cons (xh_gt_F (XI_lit (by decide +kernel)) rfl h0) ?_
    refine xc_cons (xh_lt_T (XI_lit (by decide +kernel)) rfl h1) ?_
    refine xc_cons (xh_eq_T rfl (XI_lit (by decide +kernel)) hk) ?_
    refine xc_cons (xh_lt_T (XI_lit (by decide +kernel)) rfl c1) ?_
    refine xc_cons (xh_eq_T rfl (XI_lit (by decide +kernel)) c188) ?_
    refine xc_cons (xh_lt_T (XI_lit (by decide +kernel)) rfl c189) ?_
    refine xc_cons (xh_eq_T rfl (XI_lit (by decide +kernel)) c188) ?_
    refine xc_cons (xh_gt_T (XI_lit (by decide +kernel)) rfl c190) ?_
    exact xc_nil
  refine (Classical.em (XI r (.arg 1) = (69 : Int))).elim (fun (c191 : xhid (XI r (.arg 1) = (69 : Int))) => ?_) (fun (c191 : xhid (¬ (XI r (.arg 1) = (69 : Int)))) => ?_)
  ·
    have c192 : xhid ((1 : Int) < XI r (.arg 49)) := ((by have z0 : (1 : Int) < XI r (.arg 49) := c1; omega) : (1 : Int) < XI r (.arg 49))
    have c193 : xhid (XI r (.sub (.arg 49) (.int 6)) < (6 : Int)) := ((by omega) : XI r (.sub (.arg 49) (.int 6)) < (6 : Int))
    refine ⟨148, _, ?_, lf_5_63⟩
    refine xc_cons (xh_gt_F (XI_lit (by decide +kernel)) rfl h0) ?_
    refine xc_cons (xh_lt_T (XI_lit (by decide +kernel)) rfl h1) ?_
    refine xc_cons (xh_eq_T rfl (XI_lit (by decide +kernel)) hk) ?_
    refine xc_cons (xh_lt_T (XI_lit (by decide +kernel)) rfl c1) ?_
    refine xc_cons (xh_eq_T rfl (XI_lit (by decide +kernel)) c191) ?_
    refine xc_cons (xh_lt_T (XI_lit (by decide +kernel)) rfl c192) ?_
    refine xc_cons (xh_eq_T rfl (XI_lit (by decide +kernel)) c191) ?_
    refine xc_cons (xh_gt_T (XI_lit (by decide +kernel)) rfl c193) ?_
    exact xc_nil
  refine (Classical.em (XI r (.arg 1) = (70 : Int))).elim (fun (c194 : xhid (XI r (.arg 1) = (70 : Int))) => ?_) (fun (c194 : xhid (¬ (XI r (.arg 1) = (70 : Int)))) => ?_)
  ·
    have c195 : xhid ((1 : Int) < XI r (.arg 49)) := ((by have z0 : (1 : Int) < XI r (.arg 49) := c1; omega) : (1 : Int) < XI r (.arg 49))
    have c196 : xhid (XI r (.sub (.arg 49) (.int 6)) < (6 : Int)) := ((by omega) : XI r (.sub (.arg 49) (.int 6)) < (6 : Int))
    refine ⟨148, _, ?_, lf_5_64⟩
    refine xc_cons (xh_gt_F (XI_lit (by decide +kernel)) rfl h0) ?_
    refine xc_cons (xh_lt_T (XI_lit (by decide +kernel)) rfl h1) ?_
    refine xc_cons (xh_eq_T rfl (XI_lit (by decide +kernel)) hk) ?_
    refine xc_cons (xh_lt_T (XI_lit (by decide +kernel)) rfl c1) ?_
    refine xc_cons (xh_eq_T rfl (XI_lit (by decide +kernel)) c194) ?_
    refine xc_cons (xh_lt_T (XI_lit (by decide +kernel)) rfl c195) ?_
    refine xc_cons (xh_eq_T rfl (XI_lit (by decide +kernel)) c194) ?_
    refine xc_cons (xh_gt_T (XI_lit (by decide +kernel)) rfl c196) ?_
    exact xc_nil
  refine (Classical.em (XI r (.arg 1) = (71 : Int))).elim (fun (c197 : xhid (XI r (.arg 1) = (71 : Int))) => ?_) (fun (c197 : xhid (¬ (XI r (.arg 1) = (71 : Int)))) => ?_)
  ·
    have c198 : xhid ((1 : Int) < XI r (.arg 49)) := ((by have z0 : (1 : Int) < XI r (.arg 49) := c1; omega) : (1 : Int) < XI r (.arg 49))
    have c199 : xhid (XI r (.sub (.arg 49) (.int 6)) < (6 : Int)) := ((by omega) : XI r (.sub (.arg 49) (.int 6)) < (6 : Int))
    refine ⟨148, _, ?_, lf_5_65⟩
    refine xc_cons (xh_gt_F (XI_lit (by decide +kernel)) rfl h0) ?_
    refine xc_cons (xh_lt_T (XI_lit (by decide +kernel)) rfl h1) ?_
    refine xc_cons (xh_eq_T rfl (XI_lit (by decide +kernel)) hk) ?_
    refine xc_cons (xh_lt_T (XI_lit (by decide +kernel)) rfl c1) ?_
    refine xc_cons (xh_eq_T rfl (XI_lit (by decide +kernel)) c197) ?_
    refine xc_cons (xh_lt_T (XI_lit (by decide +kernel)) rfl c198) ?_
    refine xc_cons (xh_eq_T rfl (XI_lit (by decide +kernel)) c197) ?_
    refine xc_cons (xh_gt_T (XI_lit (by decide +kernel)) rfl c199) ?_
    exact xc_nil
  refine (Classical.em (XI r (.arg 1) = (72 : Int))).elim (fun (c200 : xhid (XI r (.arg 1) = (72 : Int))) => ?_) (fun (c200 : xhid (¬ (XI r (.arg 1) = (72 : Int)))) => ?_)
  ·
    have c201 : xhid ((1 : Int) < XI r (.arg 49)) := ((by have z0 : (1 : Int) < XI r (.arg 49) := c1; omega) : (1 : Int) < XI r (.arg 49))
    have c202 : xhid (XI r (.sub (.arg 49) (.int 6)) < (6 : Int)) := ((by omega) : XI r (.sub (.arg 49) (.int 6)) < (6 : Int))
    refine ⟨148, _, ?_, lf_5_66⟩
    refine xc_cons (xh_gt_F (XI_lit (by decide +kernel)) rfl h0) ?_
    refine xc_cons (xh_lt_T (XI_lit (by decide +kernel)) rfl h1) ?_
    refine xc_cons (xh_eq_T rfl (XI_lit (by decide +kernel)) hk) ?_
    refine xc_cons (xh_lt_T (XI_lit (by decide +kernel)) rfl c1) ?_
    refine xc_cons (xh_eq_T rfl (XI_lit (by decide +kernel)) c200) ?_
    refine xc_cons (xh_lt_T (XI_lit (by decide +kernel)) rfl c201) ?_
    refine xc_cons (xh_eq_T rfl (XI_lit (by decide +kernel)) c200) ?_
    refine xc_cons (xh_gt_T (XI_lit (by decide +kernel)) rfl c202) ?_
    exact xc_nil
  refine (Classical.em (XI r (.arg 1) = (73 : Int))).elim (fun (c203 : xhid (XI r (.arg 1) = (73 : Int))) => ?_) (fun (c203 : xhid (¬ (XI r (.arg 1) = (73 : Int)))) => ?_)
  ·
    have c204 : xhid ((1 : Int) < XI r (.arg 49)) := ((by have z0 : (1 : Int) < XI r (.arg 49) := c1; omega) : (1 : Int) < XI r (.arg 49))
    have c205 : xhid (XI r (.sub (.arg 49) (.int 6)) < (6 : Int)) := ((by omega) : XI r (.sub (.arg 49) (.int 6)) < (6 : Int))
    refine ⟨148, _, ?_, lf_5_67⟩
    refine xc_cons (xh_gt_F (XI_lit (by decide +kernel)) rfl h0) ?_
    refine xc_cons (xh_lt_T (XI_lit (by decide +kernel)) rfl h1) ?_
    refine xc_cons (xh_eq_T rfl (XI_lit (by decide +kernel)) hk) ?_
    refine xc_cons (xh_lt_T (XI_lit (by decide +kernel)) rfl c1) ?_
    refine xc_cons (xh_eq_T rfl (XI_lit (by decide +kernel)) c203) ?_
    refine xc_cons (xh_lt_T (XI_lit (by decide +kernel)) rfl c204) ?_
    refine xc_cons (xh_eq_T rfl (XI_lit (by decide +kernel)) c203) ?_
    refine xc_cons (xh_gt_T (XI_lit (by decide +kernel)) rfl c205) ?_
    exact xc_nil
  refine (Classical.em (XI r (.arg 1) = (74 : Int))).elim (fun (c206 : xhid (XI r (.arg 1) = (74 : Int))) => ?_) (fun (c206 : xhid (¬ (XI r (.arg 1) = (74 : Int)))) => ?_)
  ·
    have c207 : xhid ((1 : Int) < XI r (.arg 49)) := ((by have z0 : (1 : Int) < XI r (.arg 49) := c1; omega) : (1 : Int) < XI r (.arg 49))
    have c208 : xhid (XI r (.sub (.arg 49) (.int 6)) < (6 : Int)) := ((by omega) : XI r (.sub (.arg 49) (.int 6)) < (6 : Int))
    refine ⟨148, _, ?_, lf_5_68⟩
    refine xc_cons (xh_gt_F (XI_lit (by decide +kernel)) rfl h0) ?_
    refine xc_cons (xh_lt_T (XI_lit (by decide +kernel)) rfl h1) ?_
    refine xc_cons (xh_eq_T rfl (XI_lit (by decide +kernel)) hk) ?_
    refine xc_cons (xh_lt_T (XI_lit (by decide +kernel)) rfl c1) ?_
    refine xc_cons (xh_eq_T rfl (XI_lit (by decide +kernel)) c206) ?_
    refine xc_cons (xh_lt_T (XI_lit (by decide +kernel)) rfl c207) ?_
    refine xc_cons (xh_eq_T rfl (XI_lit (by decide +kernel)) c206) ?_
    refine xc_cons (xh_gt_T (XI_lit (by decide +kernel)) rfl c208) ?_
    exact xc_nil
  refine (Classical.em (XI r (.arg 1) = (75 : Int))).elim (fun (c209 : xhid (XI r (.arg 1) = (75 : Int))) => ?_) (fun (c209 : xhid (¬ (XI r (.arg 1) = (75 : Int)))) => ?_)
  ·
    have c210 : xhid ((1 : Int) < XI r (.arg 49)) := ((by have z0 : (1 : Int) < XI r (.arg 49) := c1; omega) : (1 : Int) < XI r (.arg 49))
    have c211 : xhid (XI r (.sub (.arg 49) (.int 6)) < (6 : Int)) := ((by omega) : XI r (.sub (.arg 49) (.int 6)) < (6 : Int))
    refine ⟨148, _, ?_, lf_5_69⟩
    refine xc_cons (xh_gt_F (XI_lit (by decide +kernel)) rfl h0) ?_
    refine xc_cons (xh_lt_T (XI_lit (by decide +kernel)) rfl h1) ?_
    refine xc_cons (xh_eq_T rfl (XI_lit (by decide +kernel)) hk) ?_
    refine xc_cons (xh_lt_T (XI_lit (by decide +kernel)) rfl c1) ?_
    refine xc_cons (xh_eq_T rfl (XI_lit (by decide +kernel)) c209) ?_
    refine xc_cons (xh_lt_T (XI_lit (by decide +kernel)) rfl c210) ?_
    refine xc_cons (xh_eq_T rfl (XI_lit (by decide +kernel)) c209) ?_
    refine xc_cons (xh_gt_T (XI_lit (by decide +kernel)) rfl c211) ?_
    exact xc_nil
  refine (Classical.em (XI r (.arg 1) = (76 : Int))).elim (fun (c212 : xhid (XI r (.arg 1) = (76 : Int))) => ?_) (fun (c212 : xhid (¬ (XI r (.arg 1) = (76 : Int)))) => ?_)
  ·
    have c213 : xhid ((1 : Int) < XI r (.arg 49)) := ((by have z0 : (1 : Int) < XI r (.arg 49) := c1; omega) : (1 : Int) < XI r (.arg 49))
    have c214 : xhid (XI r (.sub (.arg 49) (.int 6)) < (6 : Int)) := ((by omega) : XI r (.sub (.arg 49) (.int 6)) < (6 : Int))
    refine ⟨148, _, ?_, lf_5_70⟩
    refine xc_cons (xh_gt_F (XI_lit (by decide +kernel)) rfl h0) ?_
    refine xc_cons (xh_lt_T (XI_lit (by decide +kernel)) rfl h1) ?_
    refine xc_cons (xh_eq_T rfl (XI_lit (by decide +kernel)) hk) ?_
    refine xc_cons (xh_lt_T (XI_lit (by decide +kernel)) rfl c1) ?_
    refine xc_cons (xh_eq_T rfl (XI_lit (by decide +kernel)) c212) ?_
    refine xc_cons (xh_lt_T (XI_lit (by decide +kernel)) rfl c213) ?_
    refine xc_cons (xh_eq_T rfl (XI_lit (by decide +kernel)) c212) ?_
    refine xc_cons (xh_gt_T (XI_lit (by decide +kernel)) rfl c214) ?_
    exact xc_nil
  refine (Classical.em (XI r (.arg 1) = (77 : Int))).elim (fun (c215 : xhid (XI r (.arg 1) = (77 : Int))) => ?_) (fun (c215 : xhid (¬ (XI r (.arg 1) = (77 : Int)))) => ?_)
  ·
    have c216 : xhid ((1 : Int) < XI r (.arg 49)) := ((by have z0 : (1 : Int) < XI r (.arg 49) := c1; omega) : (1 : Int) < XI r (.arg 49))
    have c217 : xhid (XI r (.sub (.arg 49) (.int 6)) < (6 : Int)) := ((by omega) : XI r (.sub (.arg 49) (.int 6)) < (6 : Int))
    refine ⟨148, _, ?_, lf_5_71⟩
    refine xc_cons (xh_gt_F (XI_lit (by decide +kernel)) rfl h0) ?_
    refine xc_cons (xh_lt_T (XI_lit (by decide +kernel)) rfl h1) ?_
    refine xc_cons (xh_eq_T rfl (XI_lit (by decide +kernel)) hk) ?_
    refine xc_cons (xh_lt_T (XI_lit (by decide +kernel)) rfl c1) ?_
    refine xc_cons (xh_eq_T rfl (XI_lit (by decide +kernel)) c215) ?_
    refine xc_cons (xh_lt_T (XI_lit (by decide +kernel)) rfl c216) ?_
    refine xc_cons (xh_eq_T rfl (XI_lit (by decide +kernel)) c215) ?_
    refine xc_cons (xh_gt_T (XI_lit (by decide +kernel)) rfl c217) ?_
    exact xc_nil
  refine (Classical.em (XI r (.arg 1) = (78 : Int))).elim (fun (c218 : xhid (XI r (.arg 1) = (78 : Int))) => ?_) (fun (c218 : xhid (¬ (XI r (.arg 1) = (78 : Int)))) => ?_)
  ·
    have c219 : xhid ((1 : Int) < XI r (.arg 49)) := ((by have z0 : (1 : Int) < XI r (.arg 49) := c1; omega) : (1 : Int) < XI r (.arg 49))
    have c220 : xhid (XI r (.sub (.arg 49) (.int 6)) < (6 : Int)) := ((by omega) : XI r (.sub (.arg 49) (.int 6)) < (6 : Int))
    refine ⟨148, _, ?_, lf_5_72⟩
    refine xc_cons (xh_gt_F (XI_lit (by decide +kernel)) rfl h0) ?_
    refine xc_cons (xh_lt_T (XI_lit (by decide +kernel)) rfl h1) ?_
    refine xc_cons (xh_eq_T rfl (XI_lit (by decide +kernel)) hk) ?_
    refine xc_cons (xh_lt_T (XI_lit (by decide +kernel)) rfl c1) ?_
    refine xc_cons (xh_eq_T rfl (XI_lit (by decide +kernel)) c218) ?_
    refine xc_cons (xh_lt_T (XI_lit (by decide +kernel)) rfl c219) ?_
    refine xc_cons (xh_eq_T rfl (XI_lit (by decide +kernel)) c218) ?_
    refine xc_cons (xh_gt_T (XI_lit (by decide +kernel)) rfl c220) ?_
    exact xc_nil
  refine (Classical.em (XI r (.arg 1) = (79 : Int))).elim (fun (c221 : xhid (XI r (.arg 1) = (79 : Int))) => ?_) (fun (c221 : xhid (¬ (XI r (.arg 1) = (79 : Int)))) => ?_)
  ·
    have c222 : xhid ((1 : Int) < XI r (.arg 49)) := ((by have z0 : (1 : Int) < XI r (.arg 49) := c1; omega) : (1 : Int) < XI r (.arg 49))
    have c223 : xhid (XI r (.sub (.arg 49) (.int 6)) < (6 : Int)) := ((by omega) : XI r (.sub (.arg 49) (.int 6)) < (6 : Int))
    refine ⟨148, _, ?_, lf_5_73⟩
    refine xc_cons (xh_gt_F (XI_lit (by decide +kernel)) rfl h0) ?_
    refine xc_cons (xh_lt_T (XI_lit (by decide +kernel)) rfl h1) ?_
    refine xc_cons (xh_eq_T rfl (XI_lit (by decide +kernel)) hk) ?_
    refine xc_cons (xh_lt_T (XI_lit (by decide +kernel)) rfl c1) ?_
    refine xc_cons (xh_eq_T rfl (XI_lit (by decide +kernel)) c221) ?_
    refine xc_cons (xh_lt_T (XI_lit (by decide +kernel)) rfl c222) ?_
    refine xc_cons (xh_eq_T rfl (XI_lit (by decide +kernel)) c221) ?_
    refine xc_cons (xh_gt_T (XI_lit (by decide +kernel)) rfl c223) ?_
    exact xc_nil
  refine (Classical.em (XI r (.arg 1) = (80 : Int))).elim (fun (c224 : xhid (XI r (.arg 1) = (80 : Int))) => ?_) (fun (c224 : xhid (¬ (XI r (.arg 1) = (80 : Int)))) => ?_)
  ·
    have c225 : xhid ((1 : Int) < XI r (.arg 49)) := ((by have z0 : (1 : Int) < XI r (.arg 49) := c1; omega) : (1 : Int) < XI r (.arg 49))
    have c226 : xhid (XI r (.sub (.arg 49) (.int 6)) < (6 : Int)) := ((by omega) : XI r (.sub (.arg 49) (.int 6)) < (6 : Int))
    refine ⟨148, _, ?_, lf_5_74⟩
    refine xc_cons (xh_gt_F (XI_lit (by decide +kernel)) rfl h0) ?_
    refine xc_cons (xh_lt_T (XI_lit (by decide +kernel)) rfl h1) ?_
    refine xc_cons (xh_eq_T rfl (XI_lit (by decide +kernel)) hk) ?_
    refine xc_cons (xh_lt_T (XI_lit (by decide +kernel)) rfl c1) ?_
    refine xc_cons (xh_eq_T rfl (XI_lit (by decide +kernel)) c224) ?_
    refine xc_cons (xh_lt_T (XI_lit (by decide +kernel)) rfl c225) ?_
    refine xc_cons (xh_eq_T rfl (XI_lit (by decide +kernel)) c224) ?_
    refine xc_cons (xh_gt_T (XI_lit (by decide +kernel)) rfl c226) ?_
    exact xc_nil
  refine (Classical.em (XI r (.arg 1) = (81 : Int))).elim (fun (c227 : xhid (XI r (.arg 1) = (81 : Int))) => ?_) (fun (c227 : xhid (¬ (XI r (.arg 1) = (81 : Int)))) => ?_)
  ·
    have c228 : xhid ((1 : Int) < XI r (.arg 49)) := ((by have z0 : (1 : Int) < XI r (.arg 49) := c1; omega) : (1 : Int) < XI r (.arg 49))
    have c229 : xhid (XI r (.sub (.arg 49) (.int 6)) < (6 : Int)) := ((by omega) : XI r (.sub (.arg 49) (.int 6)) < (6 : Int))
    refine ⟨148, _, ?_, lf_5_75⟩
    refine xc_cons (xh_gt_F (XI_lit (by decide +kernel)) rfl h0) ?_
    refine xc_cons (xh_lt_T (XI_lit (by decide +kernel)) rfl h1) ?_
    refine xc_cons (xh_eq_T rfl (XI_lit (by decide +kernel)) hk) ?_
    refine xc_cons (xh_lt_T (XI_lit (by decide +kernel)) rfl c1) ?_
    refine xc_cons (xh_eq_T rfl (XI_lit (by decide +kernel)) c227) ?_
    refine xc_cons (xh_lt_T (XI_lit (by decide +kernel)) rfl c228) ?_
    refine xc_cons (xh_eq_T rfl (XI_lit (by decide +kernel)) c227) ?_
    refine xc_cons (xh_gt_T (XI_lit (by decide +kernel)) rfl c229) ?_
    exact xc_nil
  refine (Classical.em (XI r (.arg 1) = (82 : Int))).elim (fun (c230 : xhid (XI r (.arg 1) = (82 : Int))) => ?_) (fun (c230 : xhid (¬ (XI r (.arg 1) = (82 : Int)))) => ?_)
  ·
    have c231 : xhid ((1 : Int) < XI r (.arg 49)) := ((by have z0 : (1 : Int) < XI r (.arg 49) := c1; omega) : (1 : Int) < XI r (.arg 49))
    have c232 : xhid (XI r (.sub (.arg 49) (.int 6)) < (6 : Int)) := ((by omega) : XI r (.sub (.arg 49) (.int 6)) < (6 : Int))
    refine ⟨148, _, ?_, lf_5_76⟩
    refine xc_cons (xh_gt_F (XI_lit (by decide +kernel)) rfl h0) ?_
    refine xc_cons (xh_lt_T (XI_lit (by decide +kernel)) rfl h1) ?_
    refine xc_cons (xh_eq_T rfl (XI_lit (by decide +kernel)) hk) ?_
    refine xc_cons (xh_lt_T (XI_lit (by decide +kernel)) rfl c1) ?_
    refine xc_cons (xh_eq_T rfl (XI_lit (by decide +kernel)) c230) ?_
    refine xc_cons (xh_lt_T (XI_lit (by decide +kernel)) rfl c231) ?_
    refine xc_cons (xh_eq_T rfl (XI_lit (by decide +kernel)) c230) ?_
    refine xc_cons (xh_gt_T (XI_lit (by decide +kernel)) rfl c232) ?_
    exact xc_nil
  refine (Classical.em (XI r (.arg 1) = (83 : Int))).elim (fun (c233 : xhid (XI r (.arg 1) = (83 : Int))) => ?_) (fun (c233 : xhid (¬ (XI r (.arg 1) = (83 : Int)))) => ?_)
  ·
    have c234 : xhid ((1 : Int) < XI r (.arg 49)) := ((by have z0 : (1 : Int) < XI r (.arg 49) := c1; omega) : (1 : Int) < XI r (.arg 49))
    have c235 : xhid (XI r (.sub (.arg 49) (.int 6)) < (6 : Int)) := ((by omega) : XI r (.sub (.arg 49) (.int 6)) < (6 : Int))
    refine ⟨148, _, ?_, lf_5_77⟩
    refine xc_cons (xh_gt_F (XI_lit (by decide +kernel)) rfl h0) ?_
    refine xc_cons (xh_lt_T (XI_lit (by decide +kernel)) rfl h1) ?_
    refine xc_cons (xh_eq_T rfl (XI_lit (by decide +kernel)) hk) ?_
    refine xc_cons (xh_lt_T (XI_lit (by decide +kernel)) rfl c1) ?_
    refine xc_cons (xh_eq_T rfl (XI_lit (by decide +kernel)) c233) ?_
    refine xc_cons (xh_lt_T (XI_lit (by decide +kernel)) rfl c234) ?_
    refine xc_cons (xh_eq_T rfl (XI_lit (by decide +kernel)) c233) ?_
    refine xc_cons (xh_gt_T (XI_lit (by decide +kernel)) rfl c235) ?_
    exact xc_nil
  refine (Classical.em (XI r (.arg 1) = (84 : Int))).elim (fun (c236 : xhid (XI r (.arg 1) = (84 : Int))) => ?_) (fun (c236 : xhid (¬ (XI r (.arg 1) = (84 : Int)))) => ?_)
  ·
    have c237 : xhid ((1 : Int) < XI r (.arg 49)) := ((by have z0 : (1 : Int) < XI r (.arg 49) := c1; omega) : (1 : Int) < XI r (.arg 49))
    have c238 : xhid (XI r (.sub (.arg 49) (.int 6)) < (6 : Int)) := ((by omega) : XI r (.sub (.arg 49) (.int 6)) < (6 : Int))
    refine ⟨148, _, ?_, lf_5_78⟩
    refine xc_cons (xh_gt_F (XI_lit (by decide +kernel)) rfl h0) ?_
    refine xc_cons (xh_lt_T (XI_lit (by decide +kernel)) rfl h1) ?_
    refine xc_cons (xh_eq_T rfl (XI_lit (by decide +kernel)) hk) ?_
    refine xc_cons (xh_lt_T (XI_lit (by decide +kernel)) rfl c1) ?_
    refine xc_cons (xh_eq_T rfl (XI_lit (by decide +kernel)) c236) ?_
    refine xc_cons (xh_lt_T (XI_lit (by decide +kernel)) rfl c237) ?_
    refine xc_cons (xh_eq_T rfl (XI_lit (by decide +kernel)) c236) ?_
    refine xc_cons (xh_gt_T (XI_lit (by decide +kernel)) rfl c238) ?_
    exact xc_nil
  refine (Classical.em (XI r (.arg 1) = (85 : Int))).elim (fun (c239 : xhid (XI r (.arg 1) = (85 : Int))) => ?_) (fun (c239 : xhid (¬ (XI r (.arg 1) = (85 : Int)))) => ?_)
  ·
    have c240 : xhid ((1 : Int) < XI r (.arg 49)) := ((by have z0 : (1 : Int) < XI r (.arg 49) := c1; omega) : (1 : Int) < XI r (.arg 49))
    have c241 : xhid (XI r (.sub (.arg 49) (.int 6)) < (6 : Int)) := ((by omega) : XI r (.sub (.arg 49) (.int 6)) < (6 : Int))
    refine ⟨148, _, ?_, lf_5_79⟩
    refine xc_cons (xh_gt_F (XI_lit (by decide +kernel)) rfl h0) ?_
    refine xc_cons (xh_lt_T (XI_lit (by decide +kernel)) rfl h1) ?_
    refine xc_cons (xh_eq_T rfl (XI_lit (by decide +kernel)) hk) ?_
    refine xc_cons (xh_lt_T (XI_lit (by decide +kernel)) rfl c1) ?_
    refine xc_cons (xh_eq_T rfl (XI_lit (by decide +kernel)) c239) ?_
    refine xc_cons (xh_lt_T (XI_lit (by decide +kernel)) rfl c240) ?_
    refine xc_cons (xh_eq_T rfl (XI_lit (by decide +kernel)) c239) ?_
    refine xc_cons (xh_gt_T (XI_lit (by decide +kernel)) rfl c241) ?_
    exact xc_nil
  refine (Classical.em (XI r (.arg 1) = (86 : Int))).elim (fun (c242 : xhid (XI r (.arg 1) = (86 : Int))) => ?_) (fun (c242 : xhid (¬ (XI r (.arg 1) = (86 : Int)))) => ?_)
  ·
    have c243 : xhid ((1 : Int) < XI r (.arg 49)) := ((by have z0 : (1 : Int) < XI r (.arg 49) := c1; omega) : (1 : Int) < XI r (.arg 49))
    have c244 : xhid (XI r (.sub (.arg 49) (.int 6)) < (6 : Int)) := ((by omega) : XI r (.sub (.arg 49) (.int 6)) < (6 : Int))
    refine ⟨148, _, ?_, lf_5_80⟩
    refine xc_cons (xh_gt_F (XI_lit (by decide +kernel)) rfl h0) ?_
    refine xc_cons (xh_lt_T (XI_lit (by decide +kernel)) rfl h1) ?_
    refine xc_cons (xh_eq_T rfl (XI_lit (by decide +kernel)) hk) ?_
    refine xc_cons (xh_lt_T (XI_lit (by decide +kernel)) rfl c1) ?_
    refine xc_cons (xh_eq_T rfl (XI_lit (by decide +kernel)) c242) ?_
    refine xc_cons (xh_lt_T (XI_lit (by decide +kernel)) rfl c243) ?_
    refine xc_cons (xh_eq_T rfl (XI_lit (by decide +kernel)) c242) ?_
    refine xc_cons (xh_gt_T (XI_lit (by decide +kernel)) rfl c244) ?_
    exact xc_nil
  refine (Classical.em (XI r (.arg 1) = (87 : Int))).elim (fun (c245 : xhid (XI r (.arg 1) = (87 : Int))) => ?_) (fun (c245 : xhid (¬ (XI r (.arg 1) = (87 : Int)))) => ?_)
  ·
    have c246 : xhid ((1 : Int) < XI r (.arg 49)) := ((by have z0 : (1 : Int) < XI r (.arg 49) := c1; omega) : (1 : Int) < XI r (.arg 49))
    have c247 : xhid (XI r (.sub (.arg 49) (.int 6)) < (6 : Int)) := ((by omega) : XI r (.sub (.arg 49) (.int 6)) < (6 : Int))
    refine ⟨148, _, ?_, lf_5_81⟩
    refine xc_cons (xh_gt_F (XI_lit (by decide +kernel)) rfl h0) ?_
    refine xc_cons (xh_lt_T (XI_lit (by decide +kernel)) rfl h1) ?_
    refine xc_cons (xh_eq_T rfl (XI_lit (by decide +kernel)) hk) ?_
    refine xc_cons (xh_lt_T (XI_lit (by decide +kernel)) rfl c1) ?_
    refine xc_cons (xh_eq_T rfl (XI_lit (by decide +kernel)) c245) ?_
    refine xc_cons (xh_lt_T (XI_lit (by decide +kernel)) rfl c246) ?_
    refine xc_cons (xh_eq_T rfl (XI_lit (by decide +kernel)) c245) ?_
    refine xc_cons (xh_gt_T (XI_lit (by decide +kernel)) rfl c247) ?_
    exact xc_nil
  refine (Classical.em (XI r (.arg 1) = (88 : Int))).elim (fun (c248 : xhid (XI r (.arg 1) = (88 : Int))) => ?_) (fun (c248 : xhid (¬ (XI r (.arg 1) = (88 : Int)))) => ?_)
  ·
    have c249 : xhid ((1 : Int) < XI r (.arg 49)) := ((by have z0 : (1 : Int) < XI r (.arg 49) := c1; omega) : (1 : Int) < XI r (.arg 49))
    have c250 : xhid (XI r (.sub (.arg 49) (.int 6)) < (6 : Int)) := ((by omega) : XI r (.sub (.arg 49) (.int 6)) < (6 : Int))
    refine ⟨148, _, ?_, lf_5_82⟩
    refine xc_cons (xh_gt_F (XI_lit (by decide +kernel)) rfl h0) ?_
    refine xc_cons (xh_lt_T (XI_lit (by decide +kernel)) rfl h1) ?_
    refine xc_cons (xh_eq_T rfl (XI_lit (by decide +kernel)) hk) ?_
    refine xc_cons (xh_lt_T (XI_lit (by decide +kernel)) rfl c1) ?_
    refine xc_cons (xh_eq_T rfl (XI_lit (by decide +kernel)) c248) ?_
    refine xc_cons (xh_lt_T (XI_lit (by decide +kernel)) rfl c249) ?_
    refine xc_cons (xh_eq_T rfl (XI_lit (by decide +kernel)) c248) ?_
    refine xc_cons (xh_gt_T (XI_lit (by decide +kernel)) rfl c250) ?_
    exact xc_nil
  refine (Classical.em (XI r (.arg 1) = (89 : Int))).elim (fun (c251 : xhid (XI r (.arg 1) = (89 : Int))) => ?_) (fun (c251 : xhid (¬ (XI r (.arg 1) = (89 : Int)))) => ?_)
  ·
    have c252 : xhid ((1 : Int) < XI r (.arg 49)) := ((by have z0 : (1 : Int) < XI r (.arg 49) := c1; omega) : (1 : Int) < XI r (.arg 49))
    have c253 : xhid (XI r (.sub (.arg 49) (.int 6)) < (6 : Int)) := ((by omega) : XI r (.sub (.arg 49) (.int 6)) < (6 : Int))
    refine ⟨148, _, ?_, lf_5_83⟩
    refine xc_cons (xh_gt_F (XI_lit (by decide +kernel)) rfl h0) ?_
    refine xc_cons (xh_lt_T (XI_lit (by decide +kernel)) rfl h1) ?_
    refine xc_cons (xh_eq_T rfl (XI_lit (by decide +kernel)) hk) ?_
    refine xc_cons (xh_lt_T (XI_lit (by decide +kernel)) rfl c1) ?_
    refine xc_cons (xh_eq_T rfl (XI_lit (by decide +kernel)) c251) ?_
    refine xc_cons (xh_lt_T (XI_lit (by decide +kernel)) rfl c252) ?_
    refine xc_cons (xh_eq_T rfl (XI_lit (by decide +kernel)) c251) ?_
    refine xc_cons (xh_gt_T (XI_lit (by decide +kernel)) rfl c253) ?_
    exact xc_nil
  refine (Classical.em (XI r (.arg 1) = (90 : Int))).elim (fun (c254 : xhid (XI r (.arg 1) = (90 : Int))) => ?_) (fun (c254 : xhid (¬ (XI r (.arg 1) = (90 : Int)))) => ?_)
  ·
    have c255 : xhid ((1 : Int) < XI r (.arg 49)) := ((by have z0 : (1 : Int) < XI r (.arg 49) := c1; omega) : (1 : Int) < XI r (.arg 49))
    have c256 : xhid (XI r (.sub (.arg 49) (.int 6)) < (6 : Int)) := ((by omega) : XI r (.sub (.arg 49) (.int 6)) < (6 : Int))
    refine ⟨148, _, ?_, lf_5_84⟩
    refine xc_cons (xh_gt_F (XI_lit (by decide +kernel)) rfl h0) ?_
    refine xc_cons (xh_lt_T (XI_lit (by decide +kernel)) rfl h1) ?_
    refine xc_cons (xh_eq_T rfl (XI_lit (by decide +kernel)) hk) ?_
    refine xc_cons (xh_lt_T (XI_lit (by decide +kernel)) rfl c1) ?_
    refine xc_cons (xh_eq_T rfl (XI_lit (by decide +kernel)) c254) ?_
    refine xc_cons (xh_lt_T (XI_lit (by decide +kernel)) rfl c255) ?_
    refine xc_cons (xh_eq_T rfl (XI_lit (by decide +kernel)) c254) ?_
    refine xc_cons (xh_gt_T (XI_lit (by decide +kernel)) rfl c256) ?_
    exact xc_nil
  refine (Classical.em (XI r (.arg 1) = (91 : Int))).elim (fun (c257 : xhid (XI r (.arg 1) = (91 : Int))) => ?_) (fun (c257 : xhid (¬ (XI r (.arg 1) = (91 : Int)))) => ?_)
  ·
    have c258 : xhid ((1 : Int) < XI r (.arg 49)) := ((by have z0 : (1 : Int) < XI r (.arg 49) := c1; omega) : (1 : Int) < XI r (.arg 49))
    have c259 : xhid (XI r (.sub (.arg 49) (.int 6)) < (6 : Int)) := ((by omega) : XI r (.sub (.arg 49) (.int 6)) < (6 : Int))
    refine ⟨148, _, ?_, lf_5_85⟩
    refine xc_cons (xh_gt_F (XI_lit (by decide +kernel)) rfl h0) ?_
    refine xc_cons (xh_lt_T (XI_lit (by decide +kernel)) rfl h1) ?_
    refine xc_cons (xh_eq_T rfl (XI_lit (by decide +kernel)) hk) ?_
    refine xc_cons (xh_lt_T (XI_lit (by decide +kernel)) rfl c1) ?_
    refine xc_cons (xh_eq_T rfl (XI_lit (by decide +kernel)) c257) ?_
    refine xc_cons (xh_lt_T (XI_lit (by decide +kernel)) rfl c258) ?_
    refine xc_cons (xh_eq_T rfl (XI_lit (by decide +kernel)) c257) ?_
    refine xc_cons (xh_gt_T (XI_lit (by decide +kernel)) rfl c259) ?_
    exact xc_nil
  refine (Classical.em (XI r (.arg 1) = (92 : Int))).elim (fun (c260 : xhid (XI r (.arg 1) = (92 : Int))) => ?_) (fun (c260 : xhid (¬ (XI r (.arg 1) = (92 : Int)))) => ?_)
  ·
    have c261 : xhid ((1 : Int) < XI r (.arg 49)) := ((by have z0 : (1 : Int) < XI r (.arg 49) := c1; omega) : (1 : Int) < XI r (.arg 49))
    have c262 : xhid (XI r (.sub (.arg 49) (.int 6)) < (6 : Int)) := ((by omega) : XI r (.sub (.arg 49) (.int 6)) < (6 : Int))
    refine ⟨148, _, ?_, lf_5_86⟩
    refine xc_cons (xh_gt_F (XI_lit (by decide +kernel)) rfl h0) ?_
    refine xc_cons (xh_lt_T (XI_lit (by decide +kernel)) rfl h1) ?_
    refine xc_cons (xh_eq_T rfl (XI_lit (by decide +kernel)) hk) ?_
    refine xc_cons (xh_lt_T (XI_lit (by decide +kernel)) rfl c1) ?_
    refine xc_cons (xh_eq_T rfl (XI_lit (by decide +kernel)) c260) ?_
    refine xc_cons (xh_lt_T (XI_lit (by decide +kernel)) rfl c261) ?_
    refine xc_cons (xh_eq_T rfl (XI_lit (by decide +kernel)) c260) ?_
    refine xc_cons (xh_gt_T (XI_lit (by decide +kernel)) rfl c262) ?_
    exact xc_nil
  refine (Classical.em (XI r (.arg 1) = (93 : Int))).elim (fun (c263 : xhid (XI r (.arg 1) = (93 : Int))) => ?_) (fun (c263 : xhid (¬ (XI r (.arg 1) = (93 : Int)))) => ?_)
  ·
    have c264 : xhid ((1 : Int) < XI r (.arg 49)) := ((by have z0 : (1 : Int) < XI r (.arg 49) := c1; omega) : (1 : Int) < XI r (.arg 49))
    have c265 : xhid (XI r (.sub (.arg 49) (.int 6)) < (6 : Int)) := ((by omega) : XI r (.sub (.arg 49) (.int 6)) < (6 : Int))
    refine ⟨148, _, ?_, lf_5_87⟩
    refine xc_cons (xh_gt_F (XI_lit (by decide +kernel)) rfl h0) ?_
    refine xc_cons (xh_lt_T (XI_lit (by decide +kernel)) rfl h1) ?_
    refine xc_cons (xh_eq_T rfl (XI_lit (by decide +kernel)) hk) ?_
    refine xc_cons (xh_lt_T (XI_lit (by decide +kernel)) rfl c1) ?_
    refine xc_cons (xh_eq_T rfl (XI_lit (by decide +kernel)) c263) ?_
    refine xc_cons (xh_lt_T (XI_lit (by decide +kernel)) rfl c264) ?_
    refine xc_cons (xh_eq_T rfl (XI_lit (by decide +kernel)) c263) ?_
    refine xc_cons (xh_gt_T (XI_lit (by decide +kernel)) rfl c265) ?_
    exact xc_nil
  refine (Classical.em (XI r (.arg 1) = (94 : Int))).elim (fun (c266 : xhid (XI r (.arg 1) = (94 : Int))) => ?_) (fun (c266 : xhid (¬ (XI r (.arg 1) = (94 : Int)))) => ?_)
  ·
    have c267 : xhid ((1 : Int) < XI r (.arg 49)) := ((by have z0 : (1 : Int) < XI r (.arg 49) := c1; omega) : (1 : Int) < XI r (.arg 49))
    have c268 : xhid (XI r (.sub (.arg 49) (.int 6)) < (6 : Int)) := ((by omega) : XI r (.sub (.arg 49) (.int 6)) < (6 : Int))
    refine ⟨148, _, ?_, lf_5_88⟩
    refine xc_cons (xh_gt_F (XI_lit (by decide +kernel)) rfl h0) ?_
    refine xc_cons (xh_lt_T (XI_lit (by decide +kernel)) rfl h1) ?_
    refine xc_cons (xh_eq_T rfl (XI_lit (by decide +kernel)) hk) ?_
    refine xc_cons (xh_lt_T (XI_lit (by decide +kernel)) rfl c1) ?_
    refine xc_cons (xh_eq_T rfl (XI_lit (by decide +kernel)) c266) ?_
    refine xc_cons (xh_lt_T (XI_lit (by decide +kernel)) rfl c267) ?_
    refine xc_cons (xh_eq_T rfl (XI_lit (by decide +kernel)) c266) ?_
    refine xc_cons (xh_gt_T (XI_lit (by decide +kernel)) rfl c268) ?_
    exact xc_nil
  refine (Classical.em (XI r (.arg 1) = (95 : Int))).elim (fun (c269 : xhid (XI r (.arg 1) = (95 : Int))) => ?_) (fun (c269 : xhid (¬ (XI r (.arg 1) = (95 : Int)))) => ?_)
  ·
    have c270 : xhid ((1 : Int) < XI r (.arg 49)) := ((by have z0 : (1 : Int) < XI r (.arg 49) := c1; omega) : (1 : Int) < XI r (.arg 49))
    have c271 : xhid (XI r (.sub (.arg 49) (.int 6)) < (6 : Int)) := ((by omega) : XI r (.sub (.arg 49) (.int 6)) < (6 : Int))
    refine ⟨148, _, ?_, lf_5_89⟩
    refine xc_cons (xh_gt_F (XI_lit (by decide +kernel)) rfl h0) ?_
    refine xc_cons (xh_lt_T (XI_lit (by decide +kernel)) rfl h1) ?_
    refine xc_cons (xh_eq_T rfl (XI_lit (by decide +kernel)) hk) ?_
    refine xc_cons (xh_lt_T (XI_lit (by decide +kernel)) rfl c1) ?_
    refine xc_cons (xh_eq_T rfl (XI_lit (by decide +kernel)) c269) ?_
    refine xc_cons (xh_lt_T (XI_lit (by decide +kernel)) rfl c270) ?_
    refine xc_cons (xh_eq_T rfl (XI_lit (by decide +kernel)) c269) ?_
    refine xc_cons (xh_gt_T (XI_lit (by decide +kernel)) rfl c271) ?_
    exact xc_nil
  refine (Classical.em (XI r (.arg 1) = (96 : Int))).elim (fun (c272 : xhid (XI r (.arg 1) = (96 : Int))) => ?_) (fun (c272 : xhid (¬ (XI r (.arg 1) = (96 : Int)))) => ?_)
  ·
    have c273 : xhid ((1 : Int) < XI r (.arg 49)) := ((by have z0 : (1 : Int) < XI r (.arg 49) := c1; omega) : (1 : Int) < XI r (.arg 49))
    have c274 : xhid (XI r (.sub (.arg 49) (.int 6)) < (6 : Int)) := ((by omega) : XI r (.sub (.arg 49) (.int 6)) < (6 : Int))
    refine ⟨148, _, ?_, lf_5_90⟩
    refine xc_cons (xh_gt_F (XI_lit (by decide +kernel)) rfl h0) ?_
    refine xc_cons (xh_lt_T (XI_lit (by decide +kernel)) rfl h1) ?_
    refine xc_cons (xh_eq_T rfl (XI_lit (by decide +kernel)) hk) ?_
    refine xc_cons (xh_lt_T (XI_lit (by decide +kernel)) rfl c1) ?_
    refine xc_cons (xh_eq_T rfl (XI_lit (by decide +kernel)) c272) ?_
    refine xc_cons (xh_lt_T (XI_lit (by decide +kernel)) rfl c273) ?_
    refine xc_cons (xh_eq_T rfl (XI_lit (by decide +kernel)) c272) ?_
    refine xc_cons (xh_gt_T (XI_lit (by decide +kernel)) rfl c274) ?_
    exact xc_nil
  refine (Classical.em (XI r (.arg 1) = (97 : Int))).elim (fun (c275 : xhid (XI r (.arg 1) = (97 : Int))) => ?_) (fun (c275 : xhid (¬ (XI r (.arg 1) = (97 : Int)))) => ?_)
  ·
    have c276 : xhid ((1 : Int) < XI r (.arg 49)) := ((by have z0 : (1 : Int) < XI r (.arg 49) := c1; omega) : (1 : Int) < XI r (.arg 49))
    have c277 : xhid (XI r (.sub (.arg 49) (.int 6)) < (6 : Int)) := ((by omega) : XI r (.sub (.arg 49) (.int 6)) < (6 : Int))
    refine ⟨148, _, ?_, lf_5_91⟩
    refine xc_cons (xh_gt_F (XI_lit (by decide +kernel)) rfl h0) ?_
    refine xc_cons (xh_lt_T (XI_lit (by decide +kernel)) rfl h1) ?_
    refine xc_cons (xh_eq_T rfl (XI_lit (by decide +kernel)) hk) ?_
    refine xc_cons (xh_lt_T (XI_lit (by decide +kernel)) rfl c1) ?_
    refine xc_cons (xh_eq_T rfl (XI_lit (by decide +kernel)) c275) ?_
    refine xc_cons (xh_lt_T (XI_lit (by decide +kernel)) rfl c276) ?_
    refine xc_cons (xh_eq_T rfl (XI_lit (by decide +kernel)) c275) ?_
    refine xc_cons (xh_gt_T (XI_lit (by decide +kernel)) rfl c277) ?_
    exact xc_nil
  refine (Classical.em (XI r (.arg 1) = (98 : Int))).elim (fun (c278 : xhid (XI r (.arg 1) = (98 : Int))) => ?_) (fun (c278 : xhid (¬ (XI r (.arg 1) = (98 : Int)))) => ?_)
  ·
    have c279 : xhid ((1 : Int) < XI r (.arg 49)) := ((by have z0 : (1 : Int) < XI r (.arg 49) := c1; omega) : (1 : Int) < XI r (.arg 49))
    have c280 : xhid (XI r (.sub (.arg 49) (.int 6)) < (6 : Int)) := ((by omega) : XI r (.sub (.arg 49) (.int 6)) < (6 : Int))
    refine ⟨148, _, ?_, lf_5_92⟩
    refine xc_cons (xh_gt_F (XI_lit (by decide +kernel)) rfl h0) ?_
    refine xc_cons (xh_lt_T (XI_lit (by decide +kernel)) rfl h1) ?_
    refine xc_cons (xh_eq_T rfl (XI_lit (by decide +kernel)) hk) ?_
    refine xc_cons (xh_lt_T (XI_lit (by decide +kernel)) rfl c1) ?_
    refine xc_cons (xh_eq_T rfl (XI_lit (by decide +kernel)) c278) ?_
    refine xc_cons (xh_lt_T (XI_lit (by decide +kernel)) rfl c279) ?_
    refine xc_cons (xh_eq_T rfl (XI_lit (by decide +kernel)) c278) ?_
    refine xc_cons (xh_gt_T (XI_lit (by decide +kernel)) rfl c280) ?_
    exact xc_nil
  refine (Classical.em (XI r (.arg 1) = (99 : Int))).elim (fun (c281 : xhid (XI r (.arg 1) = (99 : Int))) => ?_) (fun (c281 : xhid (¬ (XI r (.arg 1) = (99 : Int)))) => ?_)
  ·
    have c282 : xhid ((1 : Int) < XI r (.arg 49)) := ((by have z0 : (1 : Int) < XI r (.arg 49) := c1; omega) : (1 : Int) < XI r (.arg 49))
    have c283 : xhid (XI r (.sub (.arg 49) (.int 6)) < (6 : Int)) := ((by omega) : XI r (.sub (.arg 49) (.int 6)) < (6 : Int))
    refine ⟨148, _, ?_, lf_5_93⟩
    refine xc_cons (xh_gt_F (XI_lit (by decide +kernel)) rfl h0) ?_
    refine xc_cons (xh_lt_T (XI_lit (by decide +kernel)) rfl h1) ?_
    refine xc_cons (xh_eq_T rfl (XI_lit (by decide +kernel)) hk) ?_
    refine xc_cons (xh_lt_T (XI_lit (by decide +kernel)) rfl c1) ?_
    refine xc_cons (xh_eq_T rfl (XI_lit (by decide +kernel)) c281) ?_
    refine xc_cons (xh_lt_T (XI_lit (by decide +kernel)) rfl c282) ?_
    refine xc_cons (xh_eq_T rfl (XI_lit (by decide +kernel)) c281) ?_
    refine xc_cons (xh_gt_T (XI_lit (by decide +kernel)) rfl c283) ?_
    exact xc_nil
  refine (Classical.em (XI r (.arg 1) < (0 : Int))).elim (fun (c284 : xhid (XI r (.arg 1) < (0 : Int))) => ?_) (fun (c284 : xhid (¬ (XI r (.arg 1) < (0 : Int)))) => ?_)
  ·
    have c285 : xhid (XI r (.arg 1) < (60 : Int)) := ((by have z0 : XI r (.arg 1) < (0 : Int) := c284; have z1 : -2147483648 ≤ XI r (.arg 1) := b1; have z2 : XI r (.arg 1) < 2147483648 := d1; omega) : XI r (.arg 1) < (60 : Int))
    have c286 : xhid ((1 : Int) < XI r (.arg 49)) := ((by have z0 : (1 : Int) < XI r (.arg 49) := c1; omega) : (1 : Int) < XI r (.arg 49))
    have c287 : xhid (XI r (.arg 1) < (0 : Int)) := ((by have z0 : XI r (.arg 1) < (0 : Int) := c284; have z1 : -2147483648 ≤ XI r (.arg 1) := b1; have z2 : XI r (.arg 1) < 2147483648 := d1; omega) : XI r (.arg 1) < (0 : Int))
    have c288 : xhid (XI r (.arg 1) < (60 : Int)) := ((by have z0 : XI r (.arg 1) < (0 : Int) := c287; have z1 : -2147483648 ≤ XI r (.arg 1) := b1; have z2 : XI r (.arg 1) < 2147483648 := d1; omega) : XI r (.arg 1) < (60 : Int))
    have c289 : xhid (XI r (.sub (.arg 49) (.int 6)) < (6 : Int)) := ((by omega) : XI r (.sub (.arg 49) (.int 6)) < (6 : Int))
    refine ⟨124, _, ?_, lf_5_94⟩
    refine xc_cons (xh_gt_F (XI_lit (by decide +kernel)) rfl h0) ?_
    refine xc_cons (xh_lt_T (XI_lit (by decide +kernel)) rfl h1) ?_
    refine xc_cons (xh_eq_T rfl (XI_lit (by decide +kernel)) hk) ?_
    refine xc_cons (xh_lt_T (XI_lit (by decide +kernel)) rfl c1) ?_
    refine xc_cons (xh_lt_T rfl (XI_lit (by decide +kernel)) c284) ?_
    refine xc_cons (xh_lt_T rfl (XI_lit (by decide +kernel)) c285) ?_
    refine xc_cons (xh_lt_T (XI_lit (by decide +kernel)) rfl c286) ?_
    refine xc_cons (xh_lt_T rfl (XI_lit (by decide +kernel)) c287) ?_
    refine xc_cons (xh_lt_T rfl (XI_lit (by decide +kernel)) c288) ?_
    refine xc_cons (xh_gt_T (XI_lit (by decide +kernel)) rfl c289) ?_
    exact xc_nil
  ·
    have c290 : xhid (¬ (XI r (.arg 1) ≤ (53 : Int))) := ((by have z0 : ¬ (XI r (.arg 1) < (0 : Int)) := c284; have z1 : ¬ (XI r (.arg 1) = (0 : Int)) := c2; have z2 : ¬ (XI r (.arg 1) = (1 : Int)) := c5; have z3 : ¬ (XI r (.arg 1) = (2 : Int)) := c8; have z4 : ¬ (XI r (.arg 1) = (3 : Int)) := c11; have z5 : ¬ (XI r (.arg 1) = (4 : Int)) := c14; have z6 : ¬ (XI r (.arg 1) = (5 : Int)) := c17; have z7 : ¬ (XI r (.arg 1) = (6 : Int)) := c20; have z8 : ¬ (XI r (.arg 1) = (7 : Int)) := c23; have z9 : ¬ (XI r (.arg 1) = (8 : Int)) := c26; have z10 : ¬ (XI r (.arg 1) = (9 : Int)) := c29; have z11 : ¬ (XI r (.arg 1) = (10 : Int)) := c32; have z12 : ¬ (XI r (.arg 1) = (11 : Int)) := c35; have z13 : ¬ (XI r (.arg 1) = (12 : Int)) := c38; have z14 : ¬ (XI r (.arg 1) = (13 : Int)) := c41; have z15 : ¬ (XI r (.arg 1) = (14 : Int)) := c44; have z16 : ¬ (XI r (.arg 1) = (15 : Int)) := c47; have z17 : ¬ (XI r (.arg 1) = (16 : Int)) := c50; have z18 : ¬ (XI r (.arg 1) = (17 : Int)) := c53; have z19 : ¬ (XI r (.arg 1) = (18 : Int)) := c56; have z20 : ¬ (XI r (.arg 1) = (19 : Int)) := c59; have z21 : ¬ (XI r (.arg 1) = (20 : Int)) := c62; have z22 : ¬ (XI r (.arg 1) = (21 : Int)) := c65; have z23 : ¬ (XI r (.arg 1) = (22 : Int)) := c68; have z24 : ¬ (XI r (.arg 1) = (23 : Int)) := c71; have z25 : ¬ (XI r (.arg 1) = (24 : Int)) := c74; have z26 : ¬ (XI r (.arg 1) = (25 : Int)) := c77; have z27 : ¬ (XI r (.arg 1) = (26 : Int)) := c80; have z28 : ¬ (XI r (.arg 1) = (27 : Int)) := c83; have z29 : ¬ (XI r (.arg 1) = (28 : Int)) := c86; have z30 : ¬ (XI r (.arg 1) = (29 : Int)) := c89; have z31 : ¬ (XI r (.arg 1) = (30 : Int)) := c92; have z32 : ¬ (XI r (.arg 1) = (31 : Int)) := c95; have z33 : ¬ (XI r (.arg 1) = (32 : Int)) := c98; have z34 : ¬ (XI r (.arg 1) = (33 : Int)) := c101; have z35 : ¬ (XI r (.arg 1) = (34 : Int)) := c104; have z36 : ¬ (XI r (.arg 1) = (35 : Int)) := c107; have z37 : ¬ (XI r (.arg 1) = (36 : Int)) := c110; have z38 : ¬ (XI r (.arg 1) = (37 : Int)) := c113; have z39 : ¬ (XI r (.arg 1) = (38 : Int)) := c116; have z40 : ¬ (XI r (.arg 1) = (39 : Int)) := c119; have z41 : ¬ (XI r (.arg 1) = (40 : Int)) := c122; have z42 : ¬ (XI r (.arg 1) = (41 : Int)) := c125; have z43 : ¬ (XI r (.arg 1) = (42 : Int)) := c128; have z44 : ¬ (XI r (.arg 1) = (43 : Int)) := c131; have z45 : ¬ (XI r (.arg 1) = (44 : Int)) := c134; have z46 : ¬ (XI r (.arg 1) = (45 : Int)) := c137; have z47 : ¬ (XI r (.arg 1) = (46 : Int)) := c140; have z48 : ¬ (XI r (.arg 1) = (47 : Int)) := c143; have z49 : ¬ (XI r (.arg 1) = (48 : Int)) := c146; have z50 : ¬ (XI r (.arg 1) = (49 : Int)) := c149; have z51 : ¬ (XI r (.arg 1) = (50 : Int)) := c152; have z52 : ¬ (XI r (.arg 1) = (51 : Int)) := c155; have z53 : ¬ (XI r (.arg 1) = (52 : Int)) := c158; have z54 : ¬ (XI r (.arg 1) = (53 : Int)) := c161; have z55 : -2147483648 ≤ XI r (.arg 1) := b1; have z56 : XI r (.arg 1) < 2147483648 := d1; omega) : ¬ (XI r (.arg 1) ≤ (53 : Int)))
    refine (Classical.em (XI r (.arg 1) < (60 : Int))).elim (fun (c291 : xhid (XI r (.arg 1) < (60 : Int))) => ?_) (fun (c291 : xhid (¬ (XI r (.arg 1) < (60 : Int)))) => ?_)
    ·
      have c292 : xhid ((1 : Int) < XI r (.arg 49)) := ((by have z0 : (1 : Int) < XI r (.arg 49) := c1; omega) : (1 : Int) < XI r (.arg 49))
      have c293 : xhid (¬ (XI r (.arg 1) < (0 : Int))) := ((by have z0 : ¬ (XI r (.arg 1) ≤ (53 : Int)) := c290; have z1 : -2147483648 ≤ XI r (.arg 1) := b1; have z2 : XI r (.arg 1) < 2147483648 := d1; omega) : ¬ (XI r (.arg 1) < (0 : Int)))
      have c294 : xhid ((53 : Int) < XI r (.arg 1)) := ((by have z0 : ¬ (XI r (.arg 1) < (0 : Int)) := c293; have z1 : ¬ (XI r (.arg 1) = (0 : Int)) := c2; have z2 : ¬ (XI r (.arg 1) = (1 : Int)) := c5; have z3 : ¬ (XI r (.arg 1) = (2 : Int)) := c8; have z4 : ¬ (XI r (.arg 1) = (3 : Int)) := c11; have z5 : ¬ (XI r (.arg 1) = (4 : Int)) := c14; have z6 : ¬ (XI r (.arg 1) = (5 : Int)) := c17; have z7 : ¬ (XI r (.arg 1) = (6 : Int)) := c20; have z8 : ¬ (XI r (.arg 1) = (7 : Int)) := c23; have z9 : ¬ (XI r (.arg 1) = (8 : Int)) := c26; have z10 : ¬ (XI r (.arg 1) = (9 : Int)) := c29; have z11 : ¬ (XI r (.arg 1) = (10 : Int)) := c32; have z12 : ¬ (XI r (.arg 1) = (11 : Int)) := c35; have z13 : ¬ (XI r (.arg 1) = (12 : Int)) := c38; have z14 : ¬ (XI r (.arg 1) = (13 : Int)) := c41; have z15 : ¬ (XI r (.arg 1) = (14 : Int)) := c44; have z16 : ¬ (XI r (.arg 1) = (15 : Int)) := c47; have z17 : ¬ (XI r (.arg 1) = (16 : Int)) := c50; have z18 : ¬ (XI r (.arg 1) = (17 : Int)) := c53; have z19 : ¬ (XI r (.arg 1) = (18 : Int)) := c56; have z20 : ¬ (XI r (.arg 1) = (19 : Int)) := c59; have z21 : ¬ (XI r (.arg 1) = (20 : Int)) := c62; have z22 : ¬ (XI r (.arg 1) = (21 : Int)) := c65; have z23 : ¬ (XI r (.arg 1) = (22 : Int)) := c68; have z24 : ¬ (XI r (.arg 1) = (23 : Int)) := c71; have z25 : ¬ (XI r (.arg 1) = (24 : Int)) := c74; have z26 : ¬ (XI r (.arg 1) = (25 : Int)) := c77; have z27 : ¬ (XI r (.arg 1) = (26 : Int)) := c80; have z28 : ¬ (XI r (.arg 1) = (27 : Int)) := c83; have z29 : ¬ (XI r (.arg 1) = (28 : Int)) := c86; have z30 : ¬ (XI r (.arg 1) = (29 : Int)) := c89; have z31 : ¬ (XI r (.arg 1) = (30 : Int)) := c92; have z32 : ¬ (XI r (.arg 1) = (31 : Int)) := c95; have z33 : ¬ (XI r (.arg 1) = (32 : Int)) := c98; have z34 : ¬ (XI r (.arg 1) = (33 : Int)) := c101; have z35 : ¬ (XI r (.arg 1) = (34 : Int)) := c104; have z36 : ¬ (XI r (.arg 1) = (35 : Int)) := c107; have z37 : ¬ (XI r (.arg 1) = (36 : Int)) := c110; have z38 : ¬ (XI r (.arg 1) = (37 : Int)) := c113; have z39 : ¬ (XI r (.arg 1) = (38 : Int)) := c116; have z40 : ¬ (XI r (.arg 1) = (39 : Int)) := c119; have z41 : ¬ (XI r (.arg 1) = (40 : Int)) := c122; have z42 : ¬ (XI r (.arg 1) = (41 : Int)) := c125; have z43 : ¬ (XI r (.arg 1) = (42 : Int)) := c128; have z44 : ¬ (XI r (.arg 1) = (43 : Int)) := c131; have z45 : ¬ (XI r (.arg 1) = (44 : Int)) := c134; have z46 : ¬ (XI r (.arg 1) = (45 : Int)) := c137; have z47 : ¬ (XI r (.arg 1) = (46 : Int)) := c140; have z48 : ¬ (XI r (.arg 1) = (47 : Int)) := c143; have z49 : ¬ (XI r (.arg 1) = (48 : Int)) := c146; have z50 : ¬ (XI r (.arg 1) = (49 : Int)) := c149; have z51 : ¬ (XI r (.arg 1) = (50 : Int)) := c152; have z52 : ¬ (XI r (.arg 1) = (51 : Int)) := c155; have z53 : ¬ (XI r (.arg 1) = (52 : Int)) := c158; have z54 : ¬ (XI r (.arg 1) = (53 : Int)) := c161; have z55 : -2147483648 ≤ XI r (.arg 1) := b1; have z56 : XI r (.arg 1) < 2147483648 := d1; omega) : (53 : Int) < XI r (.arg 1))
      have c295 : xhid (XI r (.arg 1) < (60 : Int)) := ((by have z0 : XI r (.arg 1) < (60 : Int) := c291; have z1 : -2147483648 ≤ XI r (.arg 1) := b1; have z2 : XI r (.arg 1) < 2147483648 := d1; omega) : XI r (.arg 1) < (60 : Int))
      have c296 : xhid (XI r (.sub (.arg 49) (.int 6)) < (6 : Int)) := ((by omega) : XI r (.sub (.arg 49) (.int 6)) < (6 : Int))
      refine ⟨130, _, ?_, lf_5_95⟩
      refine xc_cons (xh_gt_F (XI_lit (by decide +kernel)) rfl h0) ?_
      refine xc_cons (xh_lt_T (XI_lit (by decide +kernel)) rfl h1) ?_
      refine xc_cons (xh_eq_T rfl (XI_lit (by decide +kernel)) hk) ?_
      refine xc_cons (xh_lt_T (XI_lit (by decide +kernel)) rfl c1) ?_
      refine xc_cons (xh_lt_F rfl (XI_lit (by decide +kernel)) c284) ?_
      refine xc_cons (xh_le_F rfl (XI_lit (by decide +kernel)) c290) ?_
      refine xc_cons (xh_lt_T rfl (XI_lit (by decide +kernel)) c291) ?_
      refine xc_cons (xh_lt_T (XI_lit (by decide +kernel)) rfl c292) ?_
      refine xc_cons (xh_lt_F rfl (XI_lit (by decide +kernel)) c293) ?_
      refine xc_cons (xh_gt_T rfl (XI_lit (by decide +kernel)) c294) ?_
      refine xc_cons (xh_lt_T rfl (XI_lit (by decide +kernel)) c295) ?_
      refine xc_cons (xh_gt_T (XI_lit (by decide +kernel)) rfl c296) ?_
      exact xc_nil
    ·
      have c297 : xhid ((99 : Int) < XI r (.arg 1)) := ((by have z0 : ¬ (XI r (.arg 1) < (60 : Int)) := c291; have z1 : ¬ (XI r (.arg 1) = (60 : Int)) := c164; have z2 : ¬ (XI r (.arg 1) = (61 : Int)) := c167; have z3 : ¬ (XI r (.arg 1) = (62 : Int)) := c170; have z4 : ¬ (XI r (.arg 1) = (63 : Int)) := c173; have z5 : ¬ (XI r (.arg 1) = (64 : Int)) := c176; have z6 : ¬ (XI r (.arg 1) = (65 : Int)) := c179; have z7 : ¬ (XI r (.arg 1) = (66 : Int)) := c182; have z8 : ¬ (XI r (.arg 1) = (67 : Int)) := c185; have z9 : ¬ (XI r (.arg 1) = (68 : Int)) := c188; have z10 : ¬ (XI r (.arg 1) = (69 : Int)) := c191; have z11 : ¬ (XI r (.arg 1) = (70 : Int)) := c194; have z12 : ¬ (XI r (.arg 1) = (71 : Int)) := c197; have z13 : ¬ (XI r (.arg 1) = (72 : Int)) := c200; have z14 : ¬ (XI r (.arg 1) = (73 : Int)) := c203; have z15 : ¬ (XI r (.arg 1) = (74 : Int)) := c206; have z16 : ¬ (XI r (.arg 1) = (75 : Int)) := c209; have z17 : ¬ (XI r (.arg 1) = (76 : Int)) := c212; have z18 : ¬ (XI r (.arg 1) = (77 : Int)) := c215; have z19 : ¬ (XI r (.arg 1) = (78 : Int)) := c218; have z20 : ¬ (XI r (.arg 1) = (79 : Int)) := c221; have z21 : ¬ (XI r (.arg 1) = (80 : Int)) := c224; have z22 : ¬ (XI r (.arg 1) = (81 : Int)) := c227; have z23 : ¬ (XI r (.arg 1) = (82 : Int)) := c230; have z24 : ¬ (XI r (.arg 1) = (83 : Int)) := c233; have z25 : ¬ (XI r (.arg 1) = (84 : Int)) := c236; have z26 : ¬ (XI r (.arg 1) = (85 : Int)) := c239; have z27 : ¬ (XI r (.arg 1) = (86 : Int)) := c242; have z28 : ¬ (XI r (.arg 1) = (87 : Int)) := c245; have z29 : ¬ (XI r (.arg 1) = (88 : Int)) := c248; have z30 : ¬ (XI r (.arg 1) = (89 : Int)) := c251; have z31 : ¬ (XI r (.arg 1) = (90 : Int)) := c254; have z32 : ¬ (XI r (.arg 1) = (91 : Int)) := c257; have z33 : ¬ (XI r (.arg 1) = (92 : Int)) := c260; have z34 : ¬ (XI r (.arg 1) = (93 : Int)) := c263; have z35 : ¬ (XI r (.arg 1) = (94 : Int)) := c266; have z36 : ¬ (XI r (.arg 1) = (95 : Int)) := c269; have z37 : ¬ (XI r (.arg 1) = (96 : Int)) := c272; have z38 : ¬ (XI r (.arg 1) = (97 : Int)) := c275; have z39 : ¬ (XI r (.arg 1) = (98 : Int)) := c278; have z40 : ¬ (XI r (.arg 1) = (99 : Int)) := c281; have z41 : -2147483648 ≤ XI r (.arg 1) := b1; have z42 : XI r (.arg 1) < 2147483648 := d1; omega) : (99 : Int) < XI r (.arg 1))
      have c298 : xhid ((1 : Int) < XI r (.arg 49)) := ((by have z0 : (1 : Int) < XI r (.arg 49) := c1; omega) : (1 : Int) < XI r (.arg 49))
      have c299 : xhid (¬ (XI r (.arg 1) < (0 : Int))) := ((by have z0 : (99 : Int) < XI r (.arg 1) := c297; have z1 : -2147483648 ≤ XI r (.arg 1) := b1; have z2 : XI r (.arg 1) < 2147483648 := d1; omega) : ¬ (XI r (.arg 1) < (0 : Int)))
      have c300 : xhid ((53 : Int) < XI r (.arg 1)) := ((by have z0 : ¬ (XI r (.arg 1) < (0 : Int)) := c299; have z1 : ¬ (XI r (.arg 1) = (0 : Int)) := c2; have z2 : ¬ (XI r (.arg 1) = (1 : Int)) := c5; have z3 : ¬ (XI r (.arg 1) = (2 : Int)) := c8; have z4 : ¬ (XI r (.arg 1) = (3 : Int)) := c11; have z5 : ¬ (XI r (.arg 1) = (4 : Int)) := c14; have z6 : ¬ (XI r (.arg 1) = (5 : Int)) := c17; have z7 : ¬ (XI r (.arg 1) = (6 : Int)) := c20; have z8 : ¬ (XI r (.arg 1) = (7 : Int)) := c23; have z9 : ¬ (XI r (.arg 1) = (8 : Int)) := c26; have z10 : ¬ (XI r (.arg 1) = (9 : Int)) := c29; have z11 : ¬ (XI r (.arg 1) = (10 : Int)) := c32; have z12 : ¬ (XI r (.arg 1) = (11 : Int)) := c35; have z13 : ¬ (XI r (.arg 1) = (12 : Int)) := c38; have z14 : ¬ (XI r (.arg 1) = (13 : Int)) := c41; have z15 : ¬ (XI r (.arg 1) = (14 : Int)) := c44; have z16 : ¬ (XI r (.arg 1) = (15 : Int)) := c47; have z17 : ¬ (XI r (.arg 1) = (16 : Int)) := c50; have z18 : ¬ (XI r (.arg 1) = (17 : Int)) := c53; have z19 : ¬ (XI r (.arg 1) = (18 : Int)) := c56; have z20 : ¬ (XI r (.arg 1) = (19 : Int)) := c59; have z21 : ¬ (XI r (.arg 1) = (20 : Int)) := c62; have z22 : ¬ (XI r (.arg 1) = (21 : Int)) := c65; have z23 : ¬ (XI r (.arg 1) = (22 : Int)) := c68; have z24 : ¬ (XI r (.arg 1) = (23 : Int)) := c71; have z25 : ¬ (XI r (.arg 1) = (24 : Int)) := c74; have z26 : ¬ (XI r (.arg 1) = (25 : Int)) := c77; have z27 : ¬ (XI r (.arg 1) = (26 : Int)) := c80; have z28 : ¬ (XI r (.arg 1) = (27 : Int)) := c83; have z29 : ¬ (XI r (.arg 1) = (28 : Int)) := c86; have z30 : ¬ (XI r (.arg 1) = (29 : Int)) := c89; have z31 : ¬ (XI r (.arg 1) = (30 : Int)) := c92; have z32 : ¬ (XI r (.arg 1) = (31 : Int)) := c95; have z33 : ¬ (XI r (.arg 1) = (32 : Int)) := c98; have z34 : ¬ (XI r (.arg 1) = (33 : Int)) := c101; have z35 : ¬ (XI r (.arg 1) = (34 : Int)) := c104; have z36 : ¬ (XI r (.arg 1) = (35 : Int)) := c107; have z37 : ¬ (XI r (.arg 1) = (36 : Int)) := c110; have z38 : ¬ (XI r (.arg 1) = (37 : Int)) := c113; have z39 : ¬ (XI r (.arg 1) = (38 : Int)) := c116; have z40 : ¬ (XI r (.arg 1) = (39 : Int)) := c119; have z41 : ¬ (XI r (.arg 1) = (40 : Int)) := c122; have z42 : ¬ (XI r (.arg 1) = (41 : Int)) := c125; have z43 : ¬ (XI r (.arg 1) = (42 : Int)) := c128; have z44 : ¬ (XI r (.arg 1) = (43 : Int)) := c131; have z45 : ¬ (XI r (.arg 1) = (44 : Int)) := c134; have z46 : ¬ (XI r (.arg 1) = (45 : Int)) := c137; have z47 : ¬ (XI r (.arg 1) = (46 : Int)) := c140; have z48 : ¬ (XI r (.arg 1) = (47 : Int)) := c143; have z49 : ¬ (XI r (.arg 1) = (48 : Int)) := c146; have z50 : ¬ (XI r (.arg 1) = (49 : Int)) := c149; have z51 : ¬ (XI r (.arg 1) = (50 : Int)) := c152; have z52 : ¬ (XI r (.arg 1) = (51 : Int)) := c155; have z53 : ¬ (XI r (.arg 1) = (52 : Int)) := c158; have z54 : ¬ (XI r (.arg 1) = (53 : Int)) := c161; have z55 : -2147483648 ≤ XI r (.arg 1) := b1; have z56 : XI r (.arg 1) < 2147483648 := d1; omega) : (53 : Int) < XI r (.arg 1))
      have c301 : xhid (¬ (XI r (.arg 1) < (60 : Int))) := ((by have z0 : (99 : Int) < XI r (.arg 1) := c297; have z1 : -2147483648 ≤ XI r (.arg 1) := b1; have z2 : XI r (.arg 1) < 2147483648 := d1; omega) : ¬ (XI r (.arg 1) < (60 : Int)))
      have c302 : xhid ((99 : Int) < XI r (.arg 1)) := ((by have z0 : ¬ (XI r (.arg 1) < (60 : Int)) := c301; have z1 : ¬ (XI r (.arg 1) = (60 : Int)) := c164; have z2 : ¬ (XI r (.arg 1) = (61 : Int)) := c167; have z3 : ¬ (XI r (.arg 1) = (62 : Int)) := c170; have z4 : ¬ (XI r (.arg 1) = (63 : Int)) := c173; have z5 : ¬ (XI r (.arg 1) = (64 : Int)) := c176; have z6 : ¬ (XI r (.arg 1) = (65 : Int)) := c179; have z7 : ¬ (XI r (.arg 1) = (66 : Int)) := c182; have z8 : ¬ (XI r (.arg 1) = (67 : Int)) := c185; have z9 : ¬ (XI r (.arg 1) = (68 : Int)) := c188; have z10 : ¬ (XI r (.arg 1) = (69 : Int)) := c191; have z11 : ¬ (XI r (.arg 1) = (70 : Int)) := c194; have z12 : ¬ (XI r (.arg 1) = (71 : Int)) := c197; have z13 : ¬ (XI r (.arg 1) = (72 : Int)) := c200; have z14 : ¬ (XI r (.arg 1) = (73 : Int)) := c203; have z15 : ¬ (XI r (.arg 1) = (74 : Int)) := c206; have z16 : ¬ (XI r (.arg 1) = (75 : Int)) := c209; have z17 : ¬ (XI r (.arg 1) = (76 : Int)) := c212; have z18 : ¬ (XI r (.arg 1) = (77 : Int)) := c215; have z19 : ¬ (XI r (.arg 1) = (78 : Int)) := c218; have z20 : ¬ (XI r (.arg 1) = (79 : Int)) := c221; have z21 : ¬ (XI r (.arg 1) = (80 : Int)) := c224; have z22 : ¬ (XI r (.arg 1) = (81 : Int)) := c227; have z23 : ¬ (XI r (.arg 1) = (82 : Int)) := c230; have z24 : ¬ (XI r (.arg 1) = (83 : Int)) := c233; have z25 : ¬ (XI r (.arg 1) = (84 : Int)) := c236; have z26 : ¬ (XI r (.arg 1) = (85 : Int)) := c239; have z27 : ¬ (XI r (.arg 1) = (86 : Int)) := c242; have z28 : ¬ (XI r (.arg 1) = (87 : Int)) := c245; have z29 : ¬ (XI r (.arg 1) = (88 : Int)) := c248; have z30 : ¬ (XI r (.arg 1) = (89 : Int)) := c251; have z31 : ¬ (XI r (.arg 1) = (90 : Int)) := c254; have z32 : ¬ (XI r (.arg 1) = (91 : Int)) := c257; have z33 : ¬ (XI r (.arg 1) = (92 : Int)) := c260; have z34 : ¬ (XI r (.arg 1) = (93 : Int)) := c263; have z35 : ¬ (XI r (.arg 1) = (94 : Int)) := c266; have z36 : ¬ (XI r (.arg 1) = (95 : Int)) := c269; have z37 : ¬ (XI r (.arg 1) = (96 : Int)) := c272; have z38 : ¬ (XI r (.arg 1) = (97 : Int)) := c275; have z39 : ¬ (XI r (.arg 1) = (98 : Int)) := c278; have z40 : ¬ (XI r (.arg 1) = (99 : Int)) := c281; have z41 : -2147483648 ≤ XI r (.arg 1) := b1; have z42 : XI r (.arg 1) < 2147483648 := d1; omega) : (99 : Int) < XI r (.arg 1))
      have c303 : xhid (XI r (.sub (.arg 49) (.int 6)) < (6 : Int)) := ((by omega) : XI r (.sub (.arg 49) (.int 6)) < (6 : Int))
      refine ⟨136, _, ?_, lf_5_96⟩
      refine xc_cons (xh_gt_F (XI_lit (by decide +kernel)) rfl h0) ?_
      refine xc_cons (xh_lt_T (XI_lit (by decide +kernel)) rfl h1) ?_
      refine xc_cons (xh_eq_T rfl (XI_lit (by decide +kernel)) hk) ?_
      refine xc_cons (xh_lt_T (XI_lit (by decide +kernel)) rfl c1) ?_
      refine xc_cons (xh_lt_F rfl (XI_lit (by decide +kernel)) c284) ?_
      refine xc_cons (xh_le_F rfl (XI_lit (by decide +kernel)) c290) ?_
      refine xc_cons (xh_lt_F rfl (XI_lit (by decide +kernel)) c291) ?_
      refine xc_cons (xh_gt_T rfl (XI_lit (by decide +kernel)) c297) ?_
      refine xc_cons (xh_lt_T (XI_lit (by decide +kernel)) rfl c298) ?_
      refine xc_cons (xh_lt_F rfl (XI_lit (by decide +kernel)) c299) ?_
      refine xc_cons (xh_gt_T rfl (XI_lit (by decide +kernel)) c300) ?_
      refine xc_cons (xh_lt_F rfl (XI_lit (by decide +kernel)) c301) ?_
      refine xc_cons (xh_gt_T rfl (XI_lit (by decide +kernel)) c302) ?_
      refine xc_cons (xh_gt_T (XI_lit (by decide +kernel)) rfl c303) ?_
      exact xc_nil
