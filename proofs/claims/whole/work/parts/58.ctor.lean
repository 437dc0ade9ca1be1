/-! constructors: links, the first state -/
theorem oi_inst : Cond.instanceMethod objectInit ∈ qTbl := qin 65 (by decide +kernel) rfl
theorem oi_code : Cond.code objectInit ⟨#[0xb1]⟩ 1 none ∈ qTbl := qin 66 (by decide +kernel) rfl
theorem ac_int : Cond.arrayClass .int ∈ qTbl := qin 100 (by decide +kernel) rfl
theorem ac_long : Cond.arrayClass .long ∈ qTbl := qin 822 (by decide +kernel) rfl
theorem nw_L_7 : qNw RL 7 9 10 13 yX10_init cX10_init 2 := ⟨⟨_, qc_10⟩, qin 59 (by decide +kernel) rfl, qin 60 (by decide +kernel) rfl, qin 44 (by decide +kernel) rfl, Or.inl (qin 61 (by decide +kernel) rfl), qin 62 (by decide +kernel) rfl, qin 63 (by decide +kernel) rfl, rfl, by decide +kernel, by decide +kernel, by decide +kernel, by decide⟩
theorem oi_X10_1 : Cond.methodLink RX10 1 objectInit ∈ qTbl := qin 64 (by decide +kernel) rfl
theorem nw_X10_27 : qNw RX10 27 29 4 6 yX4_init cX4_init 2 := ⟨⟨_, qc_4⟩, qin 73 (by decide +kernel) rfl, qin 74 (by decide +kernel) rfl, qin 45 (by decide +kernel) rfl, Or.inl (qin 75 (by decide +kernel) rfl), qin 76 (by decide +kernel) rfl, qin 77 (by decide +kernel) rfl, rfl, by decide +kernel, by decide +kernel, by decide +kernel, by decide⟩
theorem oi_X4_3 : Cond.methodLink RX4 3 objectInit ∈ qTbl := qin 78 (by decide +kernel) rfl
theorem nw_X10_34 : qNw RX10 34 36 1 5 yX1_init cX1_init 2 := ⟨⟨_, qc_1⟩, qin 101 (by decide +kernel) rfl, qin 102 (by decide +kernel) rfl, qin 46 (by decide +kernel) rfl, Or.inl (qin 103 (by decide +kernel) rfl), qin 104 (by decide +kernel) rfl, qin 105 (by decide +kernel) rfl, rfl, by decide +kernel, by decide +kernel, by decide +kernel, by decide⟩
theorem oi_X1_3 : Cond.methodLink RX1 3 objectInit ∈ qTbl := qin 106 (by decide +kernel) rfl
theorem nw_X10_41 : qNw RX10 41 43 7 11 yX7_init cX7_init 1 := ⟨⟨_, qc_7⟩, qin 131 (by decide +kernel) rfl, qin 132 (by decide +kernel) rfl, qin 47 (by decide +kernel) rfl, Or.inr ⟨RX10, by decide +kernel⟩, qin 134 (by decide +kernel) rfl, qin 135 (by decide +kernel) rfl, rfl, by decide +kernel, by decide +kernel, by decide +kernel, by decide⟩
theorem oi_X7_3 : Cond.methodLink RX7 3 objectInit ∈ qTbl := qin 136 (by decide +kernel) rfl
theorem nw_X10_48 : qNw RX10 48 50 2 5 yX2_init cX2_init 1 := ⟨⟨_, qc_2⟩, qin 175 (by decide +kernel) rfl, qin 176 (by decide +kernel) rfl, qin 48 (by decide +kernel) rfl, Or.inr ⟨RX10, by decide +kernel⟩, qin 178 (by decide +kernel) rfl, qin 179 (by decide +kernel) rfl, rfl, by decide +kernel, by decide +kernel, by decide +kernel, by decide⟩
theorem oi_X2_3 : Cond.methodLink RX2 3 objectInit ∈ qTbl := qin 180 (by decide +kernel) rfl
theorem nw_X10_55 : qNw RX10 55 57 6 1 yX6_init cX6_init 1 := ⟨⟨_, qc_6⟩, qin 202 (by decide +kernel) rfl, qin 203 (by decide +kernel) rfl, qin 49 (by decide +kernel) rfl, Or.inr ⟨RX10, by decide +kernel⟩, qin 205 (by decide +kernel) rfl, qin 206 (by decide +kernel) rfl, rfl, by decide +kernel, by decide +kernel, by decide +kernel, by decide⟩
theorem oi_X6_3 : Cond.methodLink RX6 3 objectInit ∈ qTbl := qin 207 (by decide +kernel) rfl
theorem nw_X10_62 : qNw RX10 62 64 3 3 yX3_init cX3_init 2 := ⟨⟨_, qc_3⟩, qin 212 (by decide +kernel) rfl, qin 213 (by decide +kernel) rfl, qin 50 (by decide +kernel) rfl, Or.inl (qin 214 (by decide +kernel) rfl), qin 215 (by decide +kernel) rfl, qin 216 (by decide +kernel) rfl, rfl, by decide +kernel, by decide +kernel, by decide +kernel, by decide⟩
theorem oi_X3_3 : Cond.methodLink RX3 3 objectInit ∈ qTbl := qin 217 (by decide +kernel) rfl
theorem nw_X3_9 : qNw RX3 9 24 0 5 yX0_init cX0_init 1 := ⟨⟨_, qc_0⟩, qin 218 (by decide +kernel) rfl, qin 220 (by decide +kernel) rfl, qin 51 (by decide +kernel) rfl, Or.inr ⟨RX10, by decide +kernel⟩, qin 222 (by decide +kernel) rfl, qin 223 (by decide +kernel) rfl, rfl, by decide +kernel, by decide +kernel, by decide +kernel, by decide⟩
theorem oi_X0_3 : Cond.methodLink RX0 3 objectInit ∈ qTbl := qin 224 (by decide +kernel) rfl
theorem nw_X10_9 : qNw RX10 9 83 5 3 yX5_init cX5_init 1 := ⟨⟨_, qc_5⟩, qin 67 (by decide +kernel) rfl, qin 260 (by decide +kernel) rfl, qin 52 (by decide +kernel) rfl, Or.inr ⟨RX10, by decide +kernel⟩, qin 262 (by decide +kernel) rfl, qin 263 (by decide +kernel) rfl, rfl, by decide +kernel, by decide +kernel, by decide +kernel, by decide⟩
theorem oi_X5_3 : Cond.methodLink RX5 3 objectInit ∈ qTbl := qin 264 (by decide +kernel) rfl
theorem nw_X10_15 : qNw RX10 15 84 9 8 yX9_init cX9_init 1 := ⟨⟨_, qc_9⟩, qin 69 (by decide +kernel) rfl, qin 283 (by decide +kernel) rfl, qin 53 (by decide +kernel) rfl, Or.inr ⟨RX10, by decide +kernel⟩, qin 285 (by decide +kernel) rfl, qin 286 (by decide +kernel) rfl, rfl, by decide +kernel, by decide +kernel, by decide +kernel, by decide⟩
theorem oi_X9_3 : Cond.methodLink RX9 3 objectInit ∈ qTbl := qin 287 (by decide +kernel) rfl
theorem nw_X10_21 : qNw RX10 21 85 8 3 yX8_init cX8_init 1 := ⟨⟨_, qc_8⟩, qin 71 (by decide +kernel) rfl, qin 326 (by decide +kernel) rfl, qin 54 (by decide +kernel) rfl, Or.inr ⟨RX10, by decide +kernel⟩, qin 328 (by decide +kernel) rfl, qin 329 (by decide +kernel) rfl, rfl, by decide +kernel, by decide +kernel, by decide +kernel, by decide⟩
theorem oi_X8_3 : Cond.methodLink RX8 3 objectInit ∈ qTbl := qin 330 (by decide +kernel) rfl
theorem nw_L_10 : qNw RL 10 12 11 21 yX11_init cX11_init 2 := ⟨⟨_, qc_11⟩, qin 752 (by decide +kernel) rfl, qin 753 (by decide +kernel) rfl, qin 55 (by decide +kernel) rfl, Or.inl (qin 754 (by decide +kernel) rfl), qin 755 (by decide +kernel) rfl, qin 756 (by decide +kernel) rfl, rfl, by decide +kernel, by decide +kernel, by decide +kernel, by decide⟩
theorem oi_X11_1 : Cond.methodLink RX11 1 objectInit ∈ qTbl := qin 757 (by decide +kernel) rfl
theorem cl_X10_9 : Cond.classLink RX10 9 RX5 ∈ qTbl := qin 67 (by decide +kernel) rfl
theorem cl_X10_15 : Cond.classLink RX10 15 RX9 ∈ qTbl := qin 69 (by decide +kernel) rfl
theorem cl_X10_21 : Cond.classLink RX10 21 RX8 ∈ qTbl := qin 71 (by decide +kernel) rfl
theorem cl_X10_27 : Cond.classLink RX10 27 RX4 ∈ qTbl := qin 73 (by decide +kernel) rfl
theorem cl_X10_34 : Cond.classLink RX10 34 RX1 ∈ qTbl := qin 101 (by decide +kernel) rfl
theorem cl_X10_41 : Cond.classLink RX10 41 RX7 ∈ qTbl := qin 131 (by decide +kernel) rfl
theorem cl_X10_48 : Cond.classLink RX10 48 RX2 ∈ qTbl := qin 175 (by decide +kernel) rfl
theorem cl_X10_55 : Cond.classLink RX10 55 RX6 ∈ qTbl := qin 202 (by decide +kernel) rfl
theorem cl_X10_62 : Cond.classLink RX10 62 RX3 ∈ qTbl := qin 212 (by decide +kernel) rfl
theorem cl_X3_9 : Cond.classLink RX3 9 RX0 ∈ qTbl := qin 218 (by decide +kernel) rfl
theorem cl_grid : Cond.classLink RX2 9 "[[I" ∈ qTbl := qin 181 (by decide +kernel) rfl
theorem ff_X4_9 : qFf RX4 9 4 0 (.array .int) := ⟨_, _, qc_4, by decide, rfl, qin 79 (by decide +kernel) rfl, rfl, by decide +kernel⟩
theorem ff_X4_15 : qFf RX4 15 4 1 (.array .int) := ⟨_, _, qc_4, by decide, rfl, qin 81 (by decide +kernel) rfl, rfl, by decide +kernel⟩
theorem ff_X4_18 : qFf RX4 18 4 2 (.array .int) := ⟨_, _, qc_4, by decide, rfl, qin 82 (by decide +kernel) rfl, rfl, by decide +kernel⟩
theorem ff_X4_21 : qFf RX4 21 4 3 (.array .int) := ⟨_, _, qc_4, by decide, rfl, qin 83 (by decide +kernel) rfl, rfl, by decide +kernel⟩
theorem ff_X4_24 : qFf RX4 24 4 4 (.array .int) := ⟨_, _, qc_4, by decide, rfl, qin 84 (by decide +kernel) rfl, rfl, by decide +kernel⟩
theorem ff_X1_9 : qFf RX1 9 1 0 (.array .int) := ⟨_, _, qc_1, by decide, rfl, qin 107 (by decide +kernel) rfl, rfl, by decide +kernel⟩
theorem ff_X1_15 : qFf RX1 15 1 1 (.array .int) := ⟨_, _, qc_1, by decide, rfl, qin 109 (by decide +kernel) rfl, rfl, by decide +kernel⟩
theorem ff_X1_18 : qFf RX1 18 1 2 (.array .int) := ⟨_, _, qc_1, by decide, rfl, qin 111 (by decide +kernel) rfl, rfl, by decide +kernel⟩
theorem ff_X1_21 : qFf RX1 21 1 3 (.array .int) := ⟨_, _, qc_1, by decide, rfl, qin 114 (by decide +kernel) rfl, rfl, by decide +kernel⟩
theorem ff_X7_9 : qFf RX7 9 7 0 (.array .int) := ⟨_, _, qc_7, by decide, rfl, qin 137 (by decide +kernel) rfl, rfl, by decide +kernel⟩
theorem ff_X7_15 : qFf RX7 15 7 1 (.array .int) := ⟨_, _, qc_7, by decide, rfl, qin 138 (by decide +kernel) rfl, rfl, by decide +kernel⟩
theorem ff_X7_18 : qFf RX7 18 7 2 (.array .int) := ⟨_, _, qc_7, by decide, rfl, qin 139 (by decide +kernel) rfl, rfl, by decide +kernel⟩
theorem ff_X7_21 : qFf RX7 21 7 3 (.array .int) := ⟨_, _, qc_7, by decide, rfl, qin 140 (by decide +kernel) rfl, rfl, by decide +kernel⟩
theorem ff_X7_24 : qFf RX7 24 7 4 (.array .int) := ⟨_, _, qc_7, by decide, rfl, qin 141 (by decide +kernel) rfl, rfl, by decide +kernel⟩
theorem ff_X7_27 : qFf RX7 27 7 5 (.array .int) := ⟨_, _, qc_7, by decide, rfl, qin 142 (by decide +kernel) rfl, rfl, by decide +kernel⟩
theorem ff_X7_30 : qFf RX7 30 7 6 (.array .int) := ⟨_, _, qc_7, by decide, rfl, qin 143 (by decide +kernel) rfl, rfl, by decide +kernel⟩
theorem ff_X2_11 : qFf RX2 11 2 0 (.array (.array .int)) := ⟨_, _, qc_2, by decide, rfl, qin 183 (by decide +kernel) rfl, rfl, by decide +kernel⟩
theorem ff_X2_16 : qFf RX2 16 2 1 (.array .int) := ⟨_, _, qc_2, by decide, rfl, qin 184 (by decide +kernel) rfl, rfl, by decide +kernel⟩
theorem ff_X2_20 : qFf RX2 20 2 2 (.array .int) := ⟨_, _, qc_2, by decide, rfl, qin 186 (by decide +kernel) rfl, rfl, by decide +kernel⟩
theorem ff_X6_9 : qFf RX6 9 6 0 (.array .int) := ⟨_, _, qc_6, by decide, rfl, qin 208 (by decide +kernel) rfl, rfl, by decide +kernel⟩
theorem ff_X0_9 : qFf RX0 9 0 0 (.array .int) := ⟨_, _, qc_0, by decide, rfl, qin 225 (by decide +kernel) rfl, rfl, by decide +kernel⟩
theorem ff_X3_11 : qFf RX3 11 3 0 (.array (.object "DubDesk$Act")) := ⟨_, _, qc_3, by decide, rfl, qin 249 (by decide +kernel) rfl, rfl, by decide +kernel⟩
theorem ff_X5_9 : qFf RX5 9 5 0 (.array .int) := ⟨_, _, qc_5, by decide, rfl, qin 265 (by decide +kernel) rfl, rfl, by decide +kernel⟩
theorem ff_X9_9 : qFf RX9 9 9 0 (.array .int) := ⟨_, _, qc_9, by decide, rfl, qin 288 (by decide +kernel) rfl, rfl, by decide +kernel⟩
theorem ff_X9_15 : qFf RX9 15 9 1 (.array .int) := ⟨_, _, qc_9, by decide, rfl, qin 290 (by decide +kernel) rfl, rfl, by decide +kernel⟩
theorem ff_X9_18 : qFf RX9 18 9 2 (.array .int) := ⟨_, _, qc_9, by decide, rfl, qin 293 (by decide +kernel) rfl, rfl, by decide +kernel⟩
theorem ff_X9_21 : qFf RX9 21 9 3 (.array .int) := ⟨_, _, qc_9, by decide, rfl, qin 295 (by decide +kernel) rfl, rfl, by decide +kernel⟩
theorem ff_X8_9 : qFf RX8 9 8 0 (.array .int) := ⟨_, _, qc_8, by decide, rfl, qin 331 (by decide +kernel) rfl, rfl, by decide +kernel⟩
theorem ff_X10_11 : qFf RX10 11 10 0 (.array (.object "DubDesk$Line")) := ⟨_, _, qc_10, by decide, rfl, qin 344 (by decide +kernel) rfl, rfl, by decide +kernel⟩
theorem ff_X10_17 : qFf RX10 17 10 1 (.array (.object "DubDesk$Wording")) := ⟨_, _, qc_10, by decide, rfl, qin 345 (by decide +kernel) rfl, rfl, by decide +kernel⟩
theorem ff_X10_23 : qFf RX10 23 10 2 (.array (.object "DubDesk$Sheet")) := ⟨_, _, qc_10, by decide, rfl, qin 346 (by decide +kernel) rfl, rfl, by decide +kernel⟩
theorem ff_X10_30 : qFf RX10 30 10 3 (.object "DubDesk$LawBook") := ⟨_, _, qc_10, by decide, rfl, qin 347 (by decide +kernel) rfl, rfl, by decide +kernel⟩
theorem ff_X10_37 : qFf RX10 37 10 4 (.object "DubDesk$Crew") := ⟨_, _, qc_10, by decide, rfl, qin 348 (by decide +kernel) rfl, rfl, by decide +kernel⟩
theorem ff_X10_44 : qFf RX10 44 10 5 (.object "DubDesk$Planner") := ⟨_, _, qc_10, by decide, rfl, qin 349 (by decide +kernel) rfl, rfl, by decide +kernel⟩
theorem ff_X10_51 : qFf RX10 51 10 6 (.object "DubDesk$Fit") := ⟨_, _, qc_10, by decide, rfl, qin 350 (by decide +kernel) rfl, rfl, by decide +kernel⟩
theorem ff_X10_58 : qFf RX10 58 10 7 (.object "DubDesk$Match") := ⟨_, _, qc_10, by decide, rfl, qin 351 (by decide +kernel) rfl, rfl, by decide +kernel⟩
theorem ff_X10_65 : qFf RX10 65 10 8 (.object "DubDesk$History") := ⟨_, _, qc_10, by decide, rfl, qin 352 (by decide +kernel) rfl, rfl, by decide +kernel⟩
theorem ff_X10_69 : qFf RX10 69 10 9 (.array .int) := ⟨_, _, qc_10, by decide, rfl, qin 353 (by decide +kernel) rfl, rfl, by decide +kernel⟩
theorem ff_X11_9 : qFf RX11 9 11 0 (.array .int) := ⟨_, _, qc_11, by decide, rfl, qin 758 (by decide +kernel) rfl, rfl, by decide +kernel⟩
theorem ff_X11_13 : qFf RX11 13 11 1 (.array .long) := ⟨_, _, qc_11, by decide, rfl, qin 759 (by decide +kernel) rfl, rfl, by decide +kernel⟩
theorem ff_X11_17 : qFf RX11 17 11 2 (.array .int) := ⟨_, _, qc_11, by decide, rfl, qin 760 (by decide +kernel) rfl, rfl, by decide +kernel⟩
theorem ff_X11_20 : qFf RX11 20 11 3 (.array .long) := ⟨_, _, qc_11, by decide, rfl, qin 761 (by decide +kernel) rfl, rfl, by decide +kernel⟩
theorem ff_X11_23 : qFf RX11 23 11 6 (.array .int) := ⟨_, _, qc_11, by decide, rfl, qin 764 (by decide +kernel) rfl, rfl, by decide +kernel⟩
theorem ff_X11_26 : qFf RX11 26 11 7 (.array .int) := ⟨_, _, qc_11, by decide, rfl, qin 765 (by decide +kernel) rfl, rfl, by decide +kernel⟩
theorem ff_X11_29 : qFf RX11 29 11 8 (.array .int) := ⟨_, _, qc_11, by decide, rfl, qin 766 (by decide +kernel) rfl, rfl, by decide +kernel⟩
theorem ff_X11_32 : qFf RX11 32 11 9 (.array .int) := ⟨_, _, qc_11, by decide, rfl, qin 767 (by decide +kernel) rfl, rfl, by decide +kernel⟩
theorem ff_X11_35 : qFf RX11 35 11 10 (.array .int) := ⟨_, _, qc_11, by decide, rfl, qin 768 (by decide +kernel) rfl, rfl, by decide +kernel⟩
theorem ff_X11_38 : qFf RX11 38 11 11 (.array .int) := ⟨_, _, qc_11, by decide, rfl, qin 769 (by decide +kernel) rfl, rfl, by decide +kernel⟩
theorem ff_X11_41 : qFf RX11 41 11 13 (.array .int) := ⟨_, _, qc_11, by decide, rfl, qin 771 (by decide +kernel) rfl, rfl, by decide +kernel⟩
theorem ff_X11_44 : qFf RX11 44 11 14 (.array .int) := ⟨_, _, qc_11, by decide, rfl, qin 772 (by decide +kernel) rfl, rfl, by decide +kernel⟩
theorem ff_X11_47 : qFf RX11 47 11 15 (.array .int) := ⟨_, _, qc_11, by decide, rfl, qin 773 (by decide +kernel) rfl, rfl, by decide +kernel⟩
theorem ff_X11_50 : qFf RX11 50 11 19 (.array .int) := ⟨_, _, qc_11, by decide, rfl, qin 777 (by decide +kernel) rfl, rfl, by decide +kernel⟩
theorem ff_X11_53 : qFf RX11 53 11 20 (.array .int) := ⟨_, _, qc_11, by decide, rfl, qin 778 (by decide +kernel) rfl, rfl, by decide +kernel⟩
def gfs_0 : List Value := [.null, .int (Int32.ofInt 0), .int (Int32.ofInt 0), .int (Int32.ofInt 0), .int (Int32.ofInt 0)]
theorem df_0 : qDf 0 5 gfs_0 := ⟨_, _, tyX0, rfl, tyX0_ok, fun j hj => by rcases (show j = 0 ∨ j = 1 ∨ j = 2 ∨ j = 3 ∨ j = 4 by omega) with rfl | rfl | rfl | rfl | rfl <;> rfl⟩
def gfs_1 : List Value := [.null, .null, .null, .null, .int (Int32.ofInt 0)]
theorem df_1 : qDf 1 5 gfs_1 := ⟨_, _, tyX1, rfl, tyX1_ok, fun j hj => by rcases (show j = 0 ∨ j = 1 ∨ j = 2 ∨ j = 3 ∨ j = 4 by omega) with rfl | rfl | rfl | rfl | rfl <;> rfl⟩
def gfs_2 : List Value := [.null, .null, .null, .int (Int32.ofInt 0), .int (Int32.ofInt 0)]
theorem df_2 : qDf 2 5 gfs_2 := ⟨_, _, tyX2, rfl, tyX2_ok, fun j hj => by rcases (show j = 0 ∨ j = 1 ∨ j = 2 ∨ j = 3 ∨ j = 4 by omega) with rfl | rfl | rfl | rfl | rfl <;> rfl⟩
def gfs_3 : List Value := [.null, .int (Int32.ofInt 0), .int (Int32.ofInt 0)]
theorem df_3 : qDf 3 3 gfs_3 := ⟨_, _, tyX3, rfl, tyX3_ok, fun j hj => by rcases (show j = 0 ∨ j = 1 ∨ j = 2 by omega) with rfl | rfl | rfl <;> rfl⟩
def gfs_4 : List Value := [.null, .null, .null, .null, .null, .int (Int32.ofInt 0)]
theorem df_4 : qDf 4 6 gfs_4 := ⟨_, _, tyX4, rfl, tyX4_ok, fun j hj => by rcases (show j = 0 ∨ j = 1 ∨ j = 2 ∨ j = 3 ∨ j = 4 ∨ j = 5 by omega) with rfl | rfl | rfl | rfl | rfl | rfl <;> rfl⟩
def gfs_5 : List Value := [.null, .int (Int32.ofInt 0), .int (Int32.ofInt 0)]
theorem df_5 : qDf 5 3 gfs_5 := ⟨_, _, tyX5, rfl, tyX5_ok, fun j hj => by rcases (show j = 0 ∨ j = 1 ∨ j = 2 by omega) with rfl | rfl | rfl <;> rfl⟩
def gfs_6 : List Value := [.null]
theorem df_6 : qDf 6 1 gfs_6 := ⟨_, _, tyX6, rfl, tyX6_ok, fun j hj => by rcases (show j = 0 by omega) with rfl <;> rfl⟩
def gfs_7 : List Value := [.null, .null, .null, .null, .null, .null, .null, .int (Int32.ofInt 0), .int (Int32.ofInt 0), .int (Int32.ofInt 0), .int (Int32.ofInt 0)]
theorem df_7 : qDf 7 11 gfs_7 := ⟨_, _, tyX7, rfl, tyX7_ok, fun j hj => by rcases (show j = 0 ∨ j = 1 ∨ j = 2 ∨ j = 3 ∨ j = 4 ∨ j = 5 ∨ j = 6 ∨ j = 7 ∨ j = 8 ∨ j = 9 ∨ j = 10 by omega) with rfl | rfl | rfl | rfl | rfl | rfl | rfl | rfl | rfl | rfl | rfl <;> rfl⟩
def gfs_8 : List Value := [.null, .int (Int32.ofInt 0), .int (Int32.ofInt 0)]
theorem df_8 : qDf 8 3 gfs_8 := ⟨_, _, tyX8, rfl, tyX8_ok, fun j hj => by rcases (show j = 0 ∨ j = 1 ∨ j = 2 by omega) with rfl | rfl | rfl <;> rfl⟩
def gfs_9 : List Value := [.null, .null, .null, .null, .int (Int32.ofInt 0), .int (Int32.ofInt 0), .int (Int32.ofInt 0), .int (Int32.ofInt 0)]
theorem df_9 : qDf 9 8 gfs_9 := ⟨_, _, tyX9, rfl, tyX9_ok, fun j hj => by rcases (show j = 0 ∨ j = 1 ∨ j = 2 ∨ j = 3 ∨ j = 4 ∨ j = 5 ∨ j = 6 ∨ j = 7 by omega) with rfl | rfl | rfl | rfl | rfl | rfl | rfl | rfl <;> rfl⟩
def gfs_10 : List Value := [.null, .null, .null, .null, .null, .null, .null, .null, .null, .null, .int (Int32.ofInt 0), .int (Int32.ofInt 0), .int (Int32.ofInt 0)]
theorem df_10 : qDf 10 13 gfs_10 := ⟨_, _, tyX10, rfl, tyX10_ok, fun j hj => by rcases (show j = 0 ∨ j = 1 ∨ j = 2 ∨ j = 3 ∨ j = 4 ∨ j = 5 ∨ j = 6 ∨ j = 7 ∨ j = 8 ∨ j = 9 ∨ j = 10 ∨ j = 11 ∨ j = 12 by omega) with rfl | rfl | rfl | rfl | rfl | rfl | rfl | rfl | rfl | rfl | rfl | rfl | rfl <;> rfl⟩
def gfs_11 : List Value := [.null, .null, .null, .null, .int (Int32.ofInt 0), .int (Int32.ofInt 0), .null, .null, .null, .null, .null, .null, .int (Int32.ofInt 0), .null, .null, .null, .int (Int32.ofInt 0), .int (Int32.ofInt 0), .int (Int32.ofInt 0), .null, .null]
theorem df_11 : qDf 11 21 gfs_11 := ⟨_, _, tyX11, rfl, tyX11_ok, fun j hj => by rcases (show j = 0 ∨ j = 1 ∨ j = 2 ∨ j = 3 ∨ j = 4 ∨ j = 5 ∨ j = 6 ∨ j = 7 ∨ j = 8 ∨ j = 9 ∨ j = 10 ∨ j = 11 ∨ j = 12 ∨ j = 13 ∨ j = 14 ∨ j = 15 ∨ j = 16 ∨ j = 17 ∨ j = 18 ∨ j = 19 ∨ j = 20 by omega) with rfl | rfl | rfl | rfl | rfl | rfl | rfl | rfl | rfl | rfl | rfl | rfl | rfl | rfl | rfl | rfl | rfl | rfl | rfl | rfl | rfl <;> rfl⟩
def s0D : qSt := fun k _ _ => if k = 5 then -1 else if k = 11 then -1 else if k = 12 then 15 else if k = 13 then 60 else 0
def s0M : qSt := fun k _ j => if k = 1 then (if 308 ≤ j ∧ j < 346 then -1 else if 346 ≤ j ∧ j < 354 then 15 else if 354 ≤ j ∧ j < 358 then 60 else 0) else 0
theorem gF_ar {E : qE} {σ : qSt} {N k i L x : Nat} (hT : qTok (eT E)) (hq : qad (eT E) k i = N) (hi : i < qcn (eT E) k) (hs : qsh (eT E) k = .inr (L, 0, x)) : gF E σ N = gAr E L (σ k i) := by
  rw [← hq, gF_at hT hi]
  unfold qCell
  rw [hs]
  rfl
theorem gF_a0 {E : qE} {σ : qSt} {N k i L x : Nat} (hT : qTok (eT E)) (hq : qad (eT E) k i = N) (hi : i < qcn (eT E) k) (hs : qsh (eT E) k = .inr (L, 0, x)) (h0 : ∀ j, σ k i j = 0) : gF E σ N = gAr E L (fun _ => 0) := by
  rw [gF_ar hT hq hi hs]
  congr 1
  funext j
  exact h0 j
theorem gF_l0 {E : qE} {σ : qSt} {N k i L x : Nat} (hT : qTok (eT E)) (hq : qad (eT E) k i = N) (hi : i < qcn (eT E) k) (hs : qsh (eT E) k = .inr (L, 1, x)) (h0 : ∀ j, σ k i j = 0) : gF E σ N = gLr E L := by
  rw [← hq, gF_at hT hi]
  unfold qCell
  rw [hs]
  simp only [qCellS, gLr, h0]
theorem gF_ob {E : qE} {σ : qSt} {N k i ci : Nat} {fl : List (Option Nat)} (hT : qTok (eT E)) (hq : qad (eT E) k i = N) (hi : i < qcn (eT E) k) (hs : qsh (eT E) k = .inl (ci, fl)) : gF E σ N = .inr (ci, qFld E (σ k i) i fl 0) := by
  rw [← hq, gF_at hT hi]
  unfold qCell
  rw [hs]
  rfl
theorem gF_rf {E : qE} {σ : qSt} {N k i L ek tk : Nat} (hT : qTok (eT E)) (hq : qad (eT E) k i = N) (hi : i < qcn (eT E) k) (hs : qsh (eT E) k = .inr (L, ek + 2, tk)) : gF E σ N = gRf E (ek + 2) L (fun j => some (eo E + qad (eT E) tk j)) := by
  rw [← hq, gF_at hT hi]
  unfold qCell
  rw [hs]
  rfl
def gE (c c' : va_E) : Prop := ∀ (D : va_G) (a : Nat) (H : Heap), va_at D clz (a, c) H → va_at D clz (a, c') H
theorem gE_eq {c c' : va_E} (h : c = c') : gE c c' := by subst h; exact fun _ _ _ h => h
theorem arrV_cg {cI : ClassId} {N : Nat} {f g : Nat → Value} (h : ∀ j, j < N → f j = g j) : arrV cI N f = arrV cI N g := by
  unfold arrV
  congr 1
  congr 1
  funext j
  exact h j.val j.isLt
theorem gE_ar {E : qE} {L : Nat} {g g' : Int → Int} {c : va_E} (hc : c = gAr E L g') (h : ∀ j : Nat, j < L → g j = g' j) : gE (gAr E L g) c := by
  subst hc
  intro D a H hh
  have e : vp_cell (eca E 0) (L, .inl fun j : Nat => Int32.ofInt (g j)) = vp_cell (eca E 0) (L, .inl fun j : Nat => Int32.ofInt (g' j)) := by
    show arrV (eca E 0) L (fun j => .int (Int32.ofInt (g j))) = arrV (eca E 0) L (fun j => .int (Int32.ofInt (g' j)))
    exact arrV_cg (fun j hj => by rw [h j hj])
  show H[a]? = some (vp_cell (eca E 0) (L, .inl fun j : Nat => Int32.ofInt (g' j)))
  rw [← e]
  exact hh
theorem gE_rf {E : qE} {ek L : Nat} {f f' : Nat → Option Nat} {c : va_E} (hc : c = gRf E ek L f') (h : ∀ j : Nat, j < L → f j = f' j) : gE (gRf E ek L f) c := by
  subst hc
  intro D a H hh
  have e : vp_cell (eca E ek) (L, .inr (.inr (.inr (.inr f)))) = vp_cell (eca E ek) (L, .inr (.inr (.inr (.inr f')))) := by
    show arrV (eca E ek) L (fun j => va_rf (f j)) = arrV (eca E ek) L (fun j => va_rf (f' j))
    exact arrV_cg (fun j hj => by rw [h j hj])
  show H[a]? = some (vp_cell (eca E ek) (L, .inr (.inr (.inr (.inr f')))))
  rw [← e]
  exact hh
def gEs (E : qE) (σ : qSt) : Nat → List va_E → Prop
  | _, [] => True
  | B, c :: r => gE c (gF E σ B) ∧ gEs E σ (B + 1) r
theorem gEs_ok {E : qE} {σ : qSt} : ∀ (pre : List va_E) (B : Nat), gEs E σ B pre → ∀ (j : Nat) (c : va_E) (H : Heap), pre[j]? = some c → va_at (eD E) clz (eo E + (B + j), c) H → va_at (eD E) clz (eo E + (B + j), gF E σ (B + j)) H
  | [], _, _, j, c, H, h, _ => by simp at h
  | c0 :: r, B, h, 0, c, H, hc, ha => by
    simp at hc
    subst hc
    exact h.1 _ _ _ ha
  | c0 :: r, B, h, j + 1, c, H, hc, ha => by
    have := gEs_ok r (B + 1) h.2 j c H (by simpa using hc) (by rw [show B + 1 + j = B + (j + 1) by omega]; exact ha)
    rw [show B + 1 + j = B + (j + 1) by omega] at this
    exact this
def fillF (g : Int → Int) (lo m v : Int) : Int → Int := fun c => if lo ≤ c ∧ c < lo + m then v else g c
theorem fill_0 (g : Int → Int) (lo v : Int) : fillF g lo 0 v = g := by
  funext c
  unfold fillF
  rw [if_neg (by omega)]
theorem fill_s {g : Int → Int} {lo m v : Int} (hm : 0 ≤ m) : updF (fillF g lo m v) (lo + m) v = fillF g lo (m + 1) v := by
  funext c
  unfold fillF updF
  by_cases h : c = lo + m
  · rw [if_pos h, if_pos (by omega)]
  · rw [if_neg h]
    dsimp only
    by_cases h2 : lo ≤ c ∧ c < lo + m
    · rw [if_pos h2, if_pos (by omega)]
    · rw [if_neg h2, if_neg (by omega)]
def rfF (E : qE) (tk m : Nat) : Nat → Option Nat := fun j => if j < m then some (eo E + qad (eT E) tk j) else none
theorem rfF_0 (E : qE) (tk : Nat) : rfF E tk 0 = fun _ => none := by
  funext j
  unfold rfF
  rw [if_neg (by omega)]
theorem rfF_s {E : qE} {tk m a : Nat} (h : qad (eT E) tk m = a) : va_up (rfF E tk m) m (some (eo E + a)) = rfF E tk (m + 1) := by
  funext j
  unfold rfF va_up
  by_cases e : j = m
  · subst e
    rw [if_pos rfl, if_pos (by omega), h]
  · rw [if_neg e]
    dsimp only
    by_cases e2 : j < m
    · rw [if_pos e2, if_pos (by omega)]
    · rw [if_neg e2, if_neg (by omega)]
