/-! WHAT THE CONSTRUCTORS NAME -/
theorem cl_L_8 : Cond.classLink RL 8 RX5 ∈ WW := (inW 68 (by decide +kernel) (by decide +kernel))
theorem nw_L_8 : NW RL 8 5 := ⟨(RX5, TX5, 11), tyX5, rfl, (inW 68 (by decide +kernel) (by decide +kernel)), (inW 69 (by decide +kernel) (by decide +kernel)), (inW 46 (by decide +kernel) (by decide +kernel)), uw_5, tyX5_ok, rfl, fun j hj => by
  have hj2 : j < 11 := hj
  rcases (show j = 0 ∨ j = 1 ∨ j = 2 ∨ j = 3 ∨ j = 4 ∨ j = 5 ∨ j = 6 ∨ j = 7 ∨ j = 8 ∨ j = 9 ∨ j = 10 by omega) with rfl | rfl | rfl | rfl | rfl | rfl | rfl | rfl | rfl | rfl | rfl <;> rfl⟩
theorem cl_L_72 : Cond.classLink RL 72 RX6 ∈ WW := (inW 773 (by decide +kernel) (by decide +kernel))
theorem nw_L_72 : NW RL 72 6 := ⟨(RX6, TX6, 34), tyX6, rfl, (inW 773 (by decide +kernel) (by decide +kernel)), (inW 774 (by decide +kernel) (by decide +kernel)), (inW 52 (by decide +kernel) (by decide +kernel)), uw_6, tyX6_ok, rfl, fun j hj => by
  have hj2 : j < 34 := hj
  rcases (show j = 0 ∨ j = 1 ∨ j = 2 ∨ j = 3 ∨ j = 4 ∨ j = 5 ∨ j = 6 ∨ j = 7 ∨ j = 8 ∨ j = 9 ∨ j = 10 ∨ j = 11 ∨ j = 12 ∨ j = 13 ∨ j = 14 ∨ j = 15 ∨ j = 16 ∨ j = 17 ∨ j = 18 ∨ j = 19 ∨ j = 20 ∨ j = 21 ∨ j = 22 ∨ j = 23 ∨ j = 24 ∨ j = 25 ∨ j = 26 ∨ j = 27 ∨ j = 28 ∨ j = 29 ∨ j = 30 ∨ j = 31 ∨ j = 32 ∨ j = 33 by omega) with rfl | rfl | rfl | rfl | rfl | rfl | rfl | rfl | rfl | rfl | rfl | rfl | rfl | rfl | rfl | rfl | rfl | rfl | rfl | rfl | rfl | rfl | rfl | rfl | rfl | rfl | rfl | rfl | rfl | rfl | rfl | rfl | rfl | rfl <;> rfl⟩
theorem cl_X5_7 : Cond.classLink RX5 7 RX4 ∈ WW := (inW 76 (by decide +kernel) (by decide +kernel))
theorem nw_X5_7 : NW RX5 7 4 := ⟨(RX4, TX4, 2), tyX4, rfl, (inW 76 (by decide +kernel) (by decide +kernel)), (inW 77 (by decide +kernel) (by decide +kernel)), (inW 47 (by decide +kernel) (by decide +kernel)), uw_4, tyX4_ok, rfl, fun j hj => by
  have hj2 : j < 2 := hj
  rcases (show j = 0 ∨ j = 1 by omega) with rfl | rfl <;> rfl⟩
theorem cl_X5_24 : Cond.classLink RX5 24 RX2 ∈ WW := (inW 94 (by decide +kernel) (by decide +kernel))
theorem nw_X5_24 : NW RX5 24 2 := ⟨(RX2, TX2, 4), tyX2, rfl, (inW 94 (by decide +kernel) (by decide +kernel)), (inW 161 (by decide +kernel) (by decide +kernel)), (inW 50 (by decide +kernel) (by decide +kernel)), uw_2, tyX2_ok, rfl, fun j hj => by
  have hj2 : j < 4 := hj
  rcases (show j = 0 ∨ j = 1 ∨ j = 2 ∨ j = 3 by omega) with rfl | rfl | rfl | rfl <;> rfl⟩
theorem cl_X5_30 : Cond.classLink RX5 30 RX0 ∈ WW := (inW 96 (by decide +kernel) (by decide +kernel))
theorem nw_X5_30 : NW RX5 30 0 := ⟨(RX0, TX0, 5), tyX0, rfl, (inW 96 (by decide +kernel) (by decide +kernel)), (inW 183 (by decide +kernel) (by decide +kernel)), (inW 51 (by decide +kernel) (by decide +kernel)), uw_0, tyX0_ok, rfl, fun j hj => by
  have hj2 : j < 5 := hj
  rcases (show j = 0 ∨ j = 1 ∨ j = 2 ∨ j = 3 ∨ j = 4 by omega) with rfl | rfl | rfl | rfl | rfl <;> rfl⟩
theorem cl_X5_36 : Cond.classLink RX5 36 RX1 ∈ WW := (inW 98 (by decide +kernel) (by decide +kernel))
theorem nw_X5_36 : NW RX5 36 1 := ⟨(RX1, TX1, 9), tyX1, rfl, (inW 98 (by decide +kernel) (by decide +kernel)), (inW 99 (by decide +kernel) (by decide +kernel)), (inW 48 (by decide +kernel) (by decide +kernel)), uw_1, tyX1_ok, rfl, fun j hj => by
  have hj2 : j < 9 := hj
  rcases (show j = 0 ∨ j = 1 ∨ j = 2 ∨ j = 3 ∨ j = 4 ∨ j = 5 ∨ j = 6 ∨ j = 7 ∨ j = 8 by omega) with rfl | rfl | rfl | rfl | rfl | rfl | rfl | rfl | rfl <;> rfl⟩
theorem cl_X1_21 : Cond.classLink RX1 21 RX4 ∈ WW := (inW 106 (by decide +kernel) (by decide +kernel))
theorem nw_X1_21 : NW RX1 21 4 := ⟨(RX4, TX4, 2), tyX4, rfl, (inW 106 (by decide +kernel) (by decide +kernel)), (inW 77 (by decide +kernel) (by decide +kernel)), (inW 47 (by decide +kernel) (by decide +kernel)), uw_4, tyX4_ok, rfl, fun j hj => by
  have hj2 : j < 2 := hj
  rcases (show j = 0 ∨ j = 1 by omega) with rfl | rfl <;> rfl⟩
theorem cl_X1_9 : Cond.classLink RX1 9 RX3 ∈ WW := (inW 104 (by decide +kernel) (by decide +kernel))
theorem nw_X1_9 : NW RX1 9 3 := ⟨(RX3, TX3, 4), tyX3, rfl, (inW 104 (by decide +kernel) (by decide +kernel)), (inW 108 (by decide +kernel) (by decide +kernel)), (inW 49 (by decide +kernel) (by decide +kernel)), uw_3, tyX3_ok, rfl, fun j hj => by
  have hj2 : j < 4 := hj
  rcases (show j = 0 ∨ j = 1 ∨ j = 2 ∨ j = 3 by omega) with rfl | rfl | rfl | rfl <;> rfl⟩
theorem fpf_X4_9 : FPF RX4 9 4 0 (.array .char) := ⟨(RX4, TX4, 2), rfl, by decide, (inW 82 (by decide +kernel) (by decide +kernel)), uw_4, rfl, rfl, by decide +kernel, ⟨tyX4, tyX4_ok⟩, nmX4⟩
theorem fpf_X3_9 : FPF RX3 9 3 0 (.array .int) := ⟨(RX3, TX3, 4), rfl, by decide, (inW 113 (by decide +kernel) (by decide +kernel)), uw_3, rfl, rfl, by decide +kernel, ⟨tyX3, tyX3_ok⟩, nmX3⟩
theorem fpf_X3_13 : FPF RX3 13 3 1 (.array .int) := ⟨(RX3, TX3, 4), rfl, by decide, (inW 114 (by decide +kernel) (by decide +kernel)), uw_3, rfl, rfl, by decide +kernel, ⟨tyX3, tyX3_ok⟩, nmX3⟩
theorem fpf_X1_11 : FPF RX1 11 1 0 (.array (.object "FormOffice$Table")) := ⟨(RX1, TX1, 9), rfl, by decide, (inW 130 (by decide +kernel) (by decide +kernel)), uw_1, rfl, rfl, by decide +kernel, ⟨tyX1, tyX1_ok⟩, nmX1⟩
theorem fpf_X1_17 : FPF RX1 17 1 1 (.array .long) := ⟨(RX1, TX1, 9), rfl, by decide, (inW 132 (by decide +kernel) (by decide +kernel)), uw_1, rfl, rfl, by decide +kernel, ⟨tyX1, tyX1_ok⟩, nmX1⟩
theorem fpf_X2_9 : FPF RX2 9 2 0 (.array .int) := ⟨(RX2, TX2, 4), rfl, by decide, (inW 166 (by decide +kernel) (by decide +kernel)), uw_2, rfl, rfl, by decide +kernel, ⟨tyX2, tyX2_ok⟩, nmX2⟩
theorem fpf_X2_15 : FPF RX2 15 2 1 (.array .long) := ⟨(RX2, TX2, 4), rfl, by decide, (inW 168 (by decide +kernel) (by decide +kernel)), uw_2, rfl, rfl, by decide +kernel, ⟨tyX2, tyX2_ok⟩, nmX2⟩
theorem fpf_X0_9 : FPF RX0 9 0 0 (.array .int) := ⟨(RX0, TX0, 5), rfl, by decide, (inW 188 (by decide +kernel) (by decide +kernel)), uw_0, rfl, rfl, by decide +kernel, ⟨tyX0, tyX0_ok⟩, nmX0⟩
theorem fpf_X0_13 : FPF RX0 13 0 1 (.array .int) := ⟨(RX0, TX0, 5), rfl, by decide, (inW 190 (by decide +kernel) (by decide +kernel)), uw_0, rfl, rfl, by decide +kernel, ⟨tyX0, tyX0_ok⟩, nmX0⟩
theorem fpf_X0_16 : FPF RX0 16 0 2 (.array .long) := ⟨(RX0, TX0, 5), rfl, by decide, (inW 192 (by decide +kernel) (by decide +kernel)), uw_0, rfl, rfl, by decide +kernel, ⟨tyX0, tyX0_ok⟩, nmX0⟩
theorem fpf_X5_10 : FPF RX5 10 5 0 (.object "FormOffice$Text") := ⟨(RX5, TX5, 11), rfl, by decide, (inW 209 (by decide +kernel) (by decide +kernel)), uw_5, rfl, rfl, by decide +kernel, ⟨tyX5, tyX5_ok⟩, nmX5⟩
theorem fpf_X5_16 : FPF RX5 16 5 1 (.array (.object "FormOffice$Text")) := ⟨(RX5, TX5, 11), rfl, by decide, (inW 210 (by decide +kernel) (by decide +kernel)), uw_5, rfl, rfl, by decide +kernel, ⟨tyX5, tyX5_ok⟩, nmX5⟩
theorem fpf_X5_20 : FPF RX5 20 5 2 (.array .int) := ⟨(RX5, TX5, 11), rfl, by decide, (inW 211 (by decide +kernel) (by decide +kernel)), uw_5, rfl, rfl, by decide +kernel, ⟨tyX5, tyX5_ok⟩, nmX5⟩
theorem fpf_X5_26 : FPF RX5 26 5 3 (.array (.object "FormOffice$Return")) := ⟨(RX5, TX5, 11), rfl, by decide, (inW 212 (by decide +kernel) (by decide +kernel)), uw_5, rfl, rfl, by decide +kernel, ⟨tyX5, tyX5_ok⟩, nmX5⟩
theorem fpf_X5_32 : FPF RX5 32 5 4 (.array (.object "FormOffice$Account")) := ⟨(RX5, TX5, 11), rfl, by decide, (inW 213 (by decide +kernel) (by decide +kernel)), uw_5, rfl, rfl, by decide +kernel, ⟨tyX5, tyX5_ok⟩, nmX5⟩
theorem fpf_X5_39 : FPF RX5 39 5 5 (.object "FormOffice$Calculator") := ⟨(RX5, TX5, 11), rfl, by decide, (inW 214 (by decide +kernel) (by decide +kernel)), uw_5, rfl, rfl, by decide +kernel, ⟨tyX5, tyX5_ok⟩, nmX5⟩
theorem fpf_X5_43 : FPF RX5 43 5 6 (.array .int) := ⟨(RX5, TX5, 11), rfl, by decide, (inW 215 (by decide +kernel) (by decide +kernel)), uw_5, rfl, rfl, by decide +kernel, ⟨tyX5, tyX5_ok⟩, nmX5⟩
theorem fpf_X5_46 : FPF RX5 46 5 7 (.array .long) := ⟨(RX5, TX5, 11), rfl, by decide, (inW 216 (by decide +kernel) (by decide +kernel)), uw_5, rfl, rfl, by decide +kernel, ⟨tyX5, tyX5_ok⟩, nmX5⟩
theorem fpf_X5_50 : FPF RX5 50 5 8 (.array .long) := ⟨(RX5, TX5, 11), rfl, by decide, (inW 217 (by decide +kernel) (by decide +kernel)), uw_5, rfl, rfl, by decide +kernel, ⟨tyX5, tyX5_ok⟩, nmX5⟩
theorem fpf_X6_7 : FPF RX6 7 6 1 (.array .int) := ⟨(RX6, TX6, 34), rfl, by decide, (inW 780 (by decide +kernel) (by decide +kernel)), uw_6, rfl, rfl, by decide +kernel, ⟨tyX6, tyX6_ok⟩, nmX6⟩
theorem fpf_X6_13 : FPF RX6 13 6 3 (.array .boolean) := ⟨(RX6, TX6, 34), rfl, by decide, (inW 782 (by decide +kernel) (by decide +kernel)), uw_6, rfl, rfl, by decide +kernel, ⟨tyX6, tyX6_ok⟩, nmX6⟩
theorem fpf_X6_17 : FPF RX6 17 6 4 (.array .int) := ⟨(RX6, TX6, 34), rfl, by decide, (inW 783 (by decide +kernel) (by decide +kernel)), uw_6, rfl, rfl, by decide +kernel, ⟨tyX6, tyX6_ok⟩, nmX6⟩
theorem fpf_X6_20 : FPF RX6 20 6 5 (.array .int) := ⟨(RX6, TX6, 34), rfl, by decide, (inW 784 (by decide +kernel) (by decide +kernel)), uw_6, rfl, rfl, by decide +kernel, ⟨tyX6, tyX6_ok⟩, nmX6⟩
theorem fpf_X6_23 : FPF RX6 23 6 6 (.array .int) := ⟨(RX6, TX6, 34), rfl, by decide, (inW 785 (by decide +kernel) (by decide +kernel)), uw_6, rfl, rfl, by decide +kernel, ⟨tyX6, tyX6_ok⟩, nmX6⟩
theorem fpf_X6_26 : FPF RX6 26 6 7 (.array .int) := ⟨(RX6, TX6, 34), rfl, by decide, (inW 786 (by decide +kernel) (by decide +kernel)), uw_6, rfl, rfl, by decide +kernel, ⟨tyX6, tyX6_ok⟩, nmX6⟩
theorem fpf_X6_33 : FPF RX6 33 6 9 (.array .int) := ⟨(RX6, TX6, 34), rfl, by decide, (inW 788 (by decide +kernel) (by decide +kernel)), uw_6, rfl, rfl, by decide +kernel, ⟨tyX6, tyX6_ok⟩, nmX6⟩
theorem fpf_X6_36 : FPF RX6 36 6 10 (.array .int) := ⟨(RX6, TX6, 34), rfl, by decide, (inW 789 (by decide +kernel) (by decide +kernel)), uw_6, rfl, rfl, by decide +kernel, ⟨tyX6, tyX6_ok⟩, nmX6⟩
theorem fpf_X6_39 : FPF RX6 39 6 11 (.array .int) := ⟨(RX6, TX6, 34), rfl, by decide, (inW 790 (by decide +kernel) (by decide +kernel)), uw_6, rfl, rfl, by decide +kernel, ⟨tyX6, tyX6_ok⟩, nmX6⟩
theorem fpf_X6_42 : FPF RX6 42 6 12 (.array .int) := ⟨(RX6, TX6, 34), rfl, by decide, (inW 791 (by decide +kernel) (by decide +kernel)), uw_6, rfl, rfl, by decide +kernel, ⟨tyX6, tyX6_ok⟩, nmX6⟩
theorem fpf_X6_45 : FPF RX6 45 6 13 (.array .int) := ⟨(RX6, TX6, 34), rfl, by decide, (inW 792 (by decide +kernel) (by decide +kernel)), uw_6, rfl, rfl, by decide +kernel, ⟨tyX6, tyX6_ok⟩, nmX6⟩
theorem fpf_X6_48 : FPF RX6 48 6 14 (.array .boolean) := ⟨(RX6, TX6, 34), rfl, by decide, (inW 793 (by decide +kernel) (by decide +kernel)), uw_6, rfl, rfl, by decide +kernel, ⟨tyX6, tyX6_ok⟩, nmX6⟩
theorem fpf_X6_51 : FPF RX6 51 6 15 (.array .long) := ⟨(RX6, TX6, 34), rfl, by decide, (inW 794 (by decide +kernel) (by decide +kernel)), uw_6, rfl, rfl, by decide +kernel, ⟨tyX6, tyX6_ok⟩, nmX6⟩
theorem fpf_X6_55 : FPF RX6 55 6 16 (.array .long) := ⟨(RX6, TX6, 34), rfl, by decide, (inW 795 (by decide +kernel) (by decide +kernel)), uw_6, rfl, rfl, by decide +kernel, ⟨tyX6, tyX6_ok⟩, nmX6⟩
theorem fpf_X6_58 : FPF RX6 58 6 18 (.array .int) := ⟨(RX6, TX6, 34), rfl, by decide, (inW 797 (by decide +kernel) (by decide +kernel)), uw_6, rfl, rfl, by decide +kernel, ⟨tyX6, tyX6_ok⟩, nmX6⟩
theorem fpf_X6_61 : FPF RX6 61 6 19 (.array .int) := ⟨(RX6, TX6, 34), rfl, by decide, (inW 798 (by decide +kernel) (by decide +kernel)), uw_6, rfl, rfl, by decide +kernel, ⟨tyX6, tyX6_ok⟩, nmX6⟩
theorem fpf_X6_64 : FPF RX6 64 6 20 (.array .int) := ⟨(RX6, TX6, 34), rfl, by decide, (inW 799 (by decide +kernel) (by decide +kernel)), uw_6, rfl, rfl, by decide +kernel, ⟨tyX6, tyX6_ok⟩, nmX6⟩
theorem fpf_X6_67 : FPF RX6 67 6 21 (.array .long) := ⟨(RX6, TX6, 34), rfl, by decide, (inW 800 (by decide +kernel) (by decide +kernel)), uw_6, rfl, rfl, by decide +kernel, ⟨tyX6, tyX6_ok⟩, nmX6⟩
theorem fpf_X6_70 : FPF RX6 70 6 24 (.array .int) := ⟨(RX6, TX6, 34), rfl, by decide, (inW 803 (by decide +kernel) (by decide +kernel)), uw_6, rfl, rfl, by decide +kernel, ⟨tyX6, tyX6_ok⟩, nmX6⟩
theorem fpf_X6_73 : FPF RX6 73 6 25 (.array .int) := ⟨(RX6, TX6, 34), rfl, by decide, (inW 804 (by decide +kernel) (by decide +kernel)), uw_6, rfl, rfl, by decide +kernel, ⟨tyX6, tyX6_ok⟩, nmX6⟩
theorem fpf_X6_76 : FPF RX6 76 6 28 (.array .int) := ⟨(RX6, TX6, 34), rfl, by decide, (inW 807 (by decide +kernel) (by decide +kernel)), uw_6, rfl, rfl, by decide +kernel, ⟨tyX6, tyX6_ok⟩, nmX6⟩
theorem fpf_X6_79 : FPF RX6 79 6 29 (.array .int) := ⟨(RX6, TX6, 34), rfl, by decide, (inW 808 (by decide +kernel) (by decide +kernel)), uw_6, rfl, rfl, by decide +kernel, ⟨tyX6, tyX6_ok⟩, nmX6⟩
theorem fpf_X6_82 : FPF RX6 82 6 30 (.array .int) := ⟨(RX6, TX6, 34), rfl, by decide, (inW 809 (by decide +kernel) (by decide +kernel)), uw_6, rfl, rfl, by decide +kernel, ⟨tyX6, tyX6_ok⟩, nmX6⟩
theorem fpf_X6_85 : FPF RX6 85 6 31 (.array .long) := ⟨(RX6, TX6, 34), rfl, by decide, (inW 810 (by decide +kernel) (by decide +kernel)), uw_6, rfl, rfl, by decide +kernel, ⟨tyX6, tyX6_ok⟩, nmX6⟩
theorem fpf_X6_88 : FPF RX6 88 6 33 (.array .long) := ⟨(RX6, TX6, 34), rfl, by decide, (inW 812 (by decide +kernel) (by decide +kernel)), uw_6, rfl, rfl, by decide +kernel, ⟨tyX6, tyX6_ok⟩, nmX6⟩
theorem ol_X0 : Cond.methodLink RX0 1 Lib.objectInit ∈ WW := (inW 187 (by decide +kernel) (by decide +kernel))
theorem ol_X1 : Cond.methodLink RX1 3 Lib.objectInit ∈ WW := (inW 103 (by decide +kernel) (by decide +kernel))
theorem ol_X2 : Cond.methodLink RX2 3 Lib.objectInit ∈ WW := (inW 165 (by decide +kernel) (by decide +kernel))
theorem ol_X3 : Cond.methodLink RX3 1 Lib.objectInit ∈ WW := (inW 112 (by decide +kernel) (by decide +kernel))
theorem ol_X4 : Cond.methodLink RX4 3 Lib.objectInit ∈ WW := (inW 81 (by decide +kernel) (by decide +kernel))
theorem ol_X5 : Cond.methodLink RX5 1 Lib.objectInit ∈ WW := (inW 73 (by decide +kernel) (by decide +kernel))
theorem ol_X6 : Cond.methodLink RX6 1 Lib.objectInit ∈ WW := (inW 778 (by decide +kernel) (by decide +kernel))
theorem ac_char : Cond.arrayClass .char ∈ WW := (inW 92 (by decide +kernel) (by decide +kernel))
theorem ac_int : Cond.arrayClass .int ∈ WW := (inW 128 (by decide +kernel) (by decide +kernel))
theorem ac_long : Cond.arrayClass .long ∈ WW := (inW 129 (by decide +kernel) (by decide +kernel))
theorem ac_boolean : Cond.arrayClass .boolean ∈ WW := (inW 882 (by decide +kernel) (by decide +kernel))
theorem ac_double : Cond.arrayClass .double ∈ WW := (inW 1066 (by decide +kernel) (by decide +kernel))
abbrev wX0_init : Cond := Cond.code yX0_init cX0_init 1 none
abbrev wX1_init : Cond := Cond.code yX1_init cX1_init 2 none
abbrev wX2_init : Cond := Cond.code yX2_init cX2_init 1 none
abbrev wX3_init : Cond := Cond.code yX3_init cX3_init 1 none
abbrev wX4_init : Cond := Cond.code yX4_init cX4_init 1 none
abbrev wX5_init : Cond := Cond.code yX5_init cX5_init 2 none
abbrev wX6_init : Cond := Cond.code yX6_init cX6_init 1 none
theorem cin_X5_9 : CIn RX5 9 yX4_init wX4_init := ⟨cX4_init, 1, rfl, by decide, rfl, ⟨by decide +kernel, by decide +kernel, by decide +kernel⟩, List.mem_of_getElem? (i := 0) rfl, (inW 79 (by decide +kernel) (by decide +kernel)), (inW 47 (by decide +kernel) (by decide +kernel)), inW 80 (by decide +kernel) (by decide +kernel)⟩
theorem cin_X1_23 : CIn RX1 23 yX4_init wX4_init := ⟨cX4_init, 1, rfl, by decide, rfl, ⟨by decide +kernel, by decide +kernel, by decide +kernel⟩, List.mem_of_getElem? (i := 1) rfl, (inW 79 (by decide +kernel) (by decide +kernel)), (inW 47 (by decide +kernel) (by decide +kernel)), inW 80 (by decide +kernel) (by decide +kernel)⟩
theorem cin_X1_48 : CIn RX1 48 yX3_init wX3_init := ⟨cX3_init, 1, rfl, by decide, rfl, ⟨by decide +kernel, by decide +kernel, by decide +kernel⟩, List.mem_of_getElem? (i := 2) rfl, (inW 110 (by decide +kernel) (by decide +kernel)), (inW 49 (by decide +kernel) (by decide +kernel)), inW 111 (by decide +kernel) (by decide +kernel)⟩
theorem cin_X5_60 : CIn RX5 60 yX2_init wX2_init := ⟨cX2_init, 1, rfl, by decide, rfl, ⟨by decide +kernel, by decide +kernel, by decide +kernel⟩, List.mem_of_getElem? (i := 3) rfl, (inW 163 (by decide +kernel) (by decide +kernel)), (inW 50 (by decide +kernel) (by decide +kernel)), inW 164 (by decide +kernel) (by decide +kernel)⟩
theorem cin_X5_61 : CIn RX5 61 yX0_init wX0_init := ⟨cX0_init, 1, rfl, by decide, rfl, ⟨by decide +kernel, by decide +kernel, by decide +kernel⟩, List.mem_of_getElem? (i := 4) rfl, (inW 185 (by decide +kernel) (by decide +kernel)), (inW 51 (by decide +kernel) (by decide +kernel)), inW 186 (by decide +kernel) (by decide +kernel)⟩
theorem civ_X5_38 : CIv RX5 38 yX1_init wX1_init := ⟨cX1_init, 2, rfl, by decide, rfl, ⟨by decide +kernel, by decide +kernel, by decide +kernel⟩, (inW 100 (by decide +kernel) (by decide +kernel)), (inW 101 (by decide +kernel) (by decide +kernel)), (inW 48 (by decide +kernel) (by decide +kernel)), inW 102 (by decide +kernel) (by decide +kernel)⟩
theorem civ_L_71 : CIv RL 71 yX5_init wX5_init := ⟨cX5_init, 2, rfl, by decide, rfl, ⟨by decide +kernel, by decide +kernel, by decide +kernel⟩, (inW 70 (by decide +kernel) (by decide +kernel)), (inW 71 (by decide +kernel) (by decide +kernel)), (inW 46 (by decide +kernel) (by decide +kernel)), inW 72 (by decide +kernel) (by decide +kernel)⟩
theorem civ_L_74 : CIv RL 74 yX6_init wX6_init := ⟨cX6_init, 1, rfl, by decide, rfl, ⟨by decide +kernel, by decide +kernel, by decide +kernel⟩, (inW 775 (by decide +kernel) (by decide +kernel)), (inW 776 (by decide +kernel) (by decide +kernel)), (inW 52 (by decide +kernel) (by decide +kernel)), inW 777 (by decide +kernel) (by decide +kernel)⟩
theorem tI_0 {a k : Nat} : tI 0 a k = 0 := by
  unfold tI
  rw [if_neg (by omega)]
theorem tI_1 {a k : Nat} (h : a ≠ 0) : tI 1 a k = 0 := by
  unfold tI
  rw [if_neg (by omega)]
theorem tI_2 {a k : Nat} (h : a ≠ 0) (h' : a ≠ 96) : tI 2 a k = 0 := by
  unfold tI
  rw [if_neg (by omega)]
