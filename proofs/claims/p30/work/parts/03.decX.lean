theorem bdX0_init_0 : decode cX0_init 0 = .ok (.aload_n 0, 1) ∧ decode cX0_init 1 = .ok (.invokespecial 3, 3) ∧ decode cX0_init 4 = .ok (.aload_n 0, 1) ∧ decode cX0_init 5 = .ok (.iconst 3, 1) ∧ decode cX0_init 6 = .ok (.newarray .int, 2) ∧ decode cX0_init 8 = .ok (.putfield 9, 3) ∧ decode cX0_init 11 = .ok (.aload_n 0, 1) ∧ decode cX0_init 12 = .ok (.sipush 200, 3) ∧ decode cX0_init 15 = .ok (.newarray .int, 2) ∧ decode cX0_init 17 = .ok (.putfield 15, 3) ∧ decode cX0_init 20 = .ok (.return_, 1) := by decide +kernel
theorem dX0_init_0 : decode cX0_init 0 = .ok (.aload_n 0, 1) := bdX0_init_0.1
theorem dX0_init_1 : decode cX0_init 1 = .ok (.invokespecial 3, 3) := bdX0_init_0.2.1
theorem dX0_init_4 : decode cX0_init 4 = .ok (.aload_n 0, 1) := bdX0_init_0.2.2.1
theorem dX0_init_5 : decode cX0_init 5 = .ok (.iconst 3, 1) := bdX0_init_0.2.2.2.1
theorem dX0_init_6 : decode cX0_init 6 = .ok (.newarray .int, 2) := bdX0_init_0.2.2.2.2.1
theorem dX0_init_8 : decode cX0_init 8 = .ok (.putfield 9, 3) := bdX0_init_0.2.2.2.2.2.1
theorem dX0_init_11 : decode cX0_init 11 = .ok (.aload_n 0, 1) := bdX0_init_0.2.2.2.2.2.2.1
theorem dX0_init_12 : decode cX0_init 12 = .ok (.sipush 200, 3) := bdX0_init_0.2.2.2.2.2.2.2.1
theorem dX0_init_15 : decode cX0_init 15 = .ok (.newarray .int, 2) := bdX0_init_0.2.2.2.2.2.2.2.2.1
theorem dX0_init_17 : decode cX0_init 17 = .ok (.putfield 15, 3) := bdX0_init_0.2.2.2.2.2.2.2.2.2.1
theorem dX0_init_20 : decode cX0_init 20 = .ok (.return_, 1) := bdX0_init_0.2.2.2.2.2.2.2.2.2.2
theorem bdX0_begin_0 : decode cX0_begin 0 = .ok (.aload_n 0, 1) ∧ decode cX0_begin 1 = .ok (.iload_n 1, 1) ∧ decode cX0_begin 2 = .ok (.putfield 18, 3) ∧ decode cX0_begin 5 = .ok (.aload_n 0, 1) ∧ decode cX0_begin 6 = .ok (.iload_n 2, 1) ∧ decode cX0_begin 7 = .ok (.putfield 22, 3) ∧ decode cX0_begin 10 = .ok (.aload_n 0, 1) ∧ decode cX0_begin 11 = .ok (.iload_n 3, 1) ∧ decode cX0_begin 12 = .ok (.putfield 25, 3) ∧ decode cX0_begin 15 = .ok (.aload_n 0, 1) ∧ decode cX0_begin 16 = .ok (.iconst 0, 1) ∧ decode cX0_begin 17 = .ok (.putfield 28, 3) ∧ decode cX0_begin 20 = .ok (.aload_n 0, 1) ∧ decode cX0_begin 21 = .ok (.iconst 0, 1) ∧ decode cX0_begin 22 = .ok (.putfield 31, 3) ∧ decode cX0_begin 25 = .ok (.aload_n 0, 1) := by decide +kernel
theorem dX0_begin_0 : decode cX0_begin 0 = .ok (.aload_n 0, 1) := bdX0_begin_0.1
theorem dX0_begin_1 : decode cX0_begin 1 = .ok (.iload_n 1, 1) := bdX0_begin_0.2.1
theorem dX0_begin_2 : decode cX0_begin 2 = .ok (.putfield 18, 3) := bdX0_begin_0.2.2.1
theorem dX0_begin_5 : decode cX0_begin 5 = .ok (.aload_n 0, 1) := bdX0_begin_0.2.2.2.1
theorem dX0_begin_6 : decode cX0_begin 6 = .ok (.iload_n 2, 1) := bdX0_begin_0.2.2.2.2.1
theorem dX0_begin_7 : decode cX0_begin 7 = .ok (.putfield 22, 3) := bdX0_begin_0.2.2.2.2.2.1
theorem dX0_begin_10 : decode cX0_begin 10 = .ok (.aload_n 0, 1) := bdX0_begin_0.2.2.2.2.2.2.1
theorem dX0_begin_11 : decode cX0_begin 11 = .ok (.iload_n 3, 1) := bdX0_begin_0.2.2.2.2.2.2.2.1
theorem dX0_begin_12 : decode cX0_begin 12 = .ok (.putfield 25, 3) := bdX0_begin_0.2.2.2.2.2.2.2.2.1
theorem dX0_begin_15 : decode cX0_begin 15 = .ok (.aload_n 0, 1) := bdX0_begin_0.2.2.2.2.2.2.2.2.2.1
theorem dX0_begin_16 : decode cX0_begin 16 = .ok (.iconst 0, 1) := bdX0_begin_0.2.2.2.2.2.2.2.2.2.2.1
theorem dX0_begin_17 : decode cX0_begin 17 = .ok (.putfield 28, 3) := bdX0_begin_0.2.2.2.2.2.2.2.2.2.2.2.1
theorem dX0_begin_20 : decode cX0_begin 20 = .ok (.aload_n 0, 1) := bdX0_begin_0.2.2.2.2.2.2.2.2.2.2.2.2.1
theorem dX0_begin_21 : decode cX0_begin 21 = .ok (.iconst 0, 1) := bdX0_begin_0.2.2.2.2.2.2.2.2.2.2.2.2.2.1
theorem dX0_begin_22 : decode cX0_begin 22 = .ok (.putfield 31, 3) := bdX0_begin_0.2.2.2.2.2.2.2.2.2.2.2.2.2.2.1
theorem dX0_begin_25 : decode cX0_begin 25 = .ok (.aload_n 0, 1) := bdX0_begin_0.2.2.2.2.2.2.2.2.2.2.2.2.2.2.2
theorem bdX0_begin_26 : decode cX0_begin 26 = .ok (.iconst 0, 1) ∧ decode cX0_begin 27 = .ok (.putfield 34, 3) ∧ decode cX0_begin 30 = .ok (.aload_n 0, 1) ∧ decode cX0_begin 31 = .ok (.bipush (-6), 2) ∧ decode cX0_begin 33 = .ok (.putfield 38, 3) ∧ decode cX0_begin 36 = .ok (.aload_n 0, 1) ∧ decode cX0_begin 37 = .ok (.iconst 0, 1) ∧ decode cX0_begin 38 = .ok (.putfield 41, 3) ∧ decode cX0_begin 41 = .ok (.aload_n 0, 1) ∧ decode cX0_begin 42 = .ok (.lconst 0, 1) ∧ decode cX0_begin 43 = .ok (.putfield 44, 3) ∧ decode cX0_begin 46 = .ok (.aload_n 0, 1) ∧ decode cX0_begin 47 = .ok (.lconst 0, 1) ∧ decode cX0_begin 48 = .ok (.putfield 48, 3) ∧ decode cX0_begin 51 = .ok (.aload_n 0, 1) ∧ decode cX0_begin 52 = .ok (.lconst 0, 1) := by decide +kernel
theorem dX0_begin_26 : decode cX0_begin 26 = .ok (.iconst 0, 1) := bdX0_begin_26.1
theorem dX0_begin_27 : decode cX0_begin 27 = .ok (.putfield 34, 3) := bdX0_begin_26.2.1
theorem dX0_begin_30 : decode cX0_begin 30 = .ok (.aload_n 0, 1) := bdX0_begin_26.2.2.1
theorem dX0_begin_31 : decode cX0_begin 31 = .ok (.bipush (-6), 2) := bdX0_begin_26.2.2.2.1
theorem dX0_begin_33 : decode cX0_begin 33 = .ok (.putfield 38, 3) := bdX0_begin_26.2.2.2.2.1
theorem dX0_begin_36 : decode cX0_begin 36 = .ok (.aload_n 0, 1) := bdX0_begin_26.2.2.2.2.2.1
theorem dX0_begin_37 : decode cX0_begin 37 = .ok (.iconst 0, 1) := bdX0_begin_26.2.2.2.2.2.2.1
theorem dX0_begin_38 : decode cX0_begin 38 = .ok (.putfield 41, 3) := bdX0_begin_26.2.2.2.2.2.2.2.1
theorem dX0_begin_41 : decode cX0_begin 41 = .ok (.aload_n 0, 1) := bdX0_begin_26.2.2.2.2.2.2.2.2.1
theorem dX0_begin_42 : decode cX0_begin 42 = .ok (.lconst 0, 1) := bdX0_begin_26.2.2.2.2.2.2.2.2.2.1
theorem dX0_begin_43 : decode cX0_begin 43 = .ok (.putfield 44, 3) := bdX0_begin_26.2.2.2.2.2.2.2.2.2.2.1
theorem dX0_begin_46 : decode cX0_begin 46 = .ok (.aload_n 0, 1) := bdX0_begin_26.2.2.2.2.2.2.2.2.2.2.2.1
theorem dX0_begin_47 : decode cX0_begin 47 = .ok (.lconst 0, 1) := bdX0_begin_26.2.2.2.2.2.2.2.2.2.2.2.2.1
theorem dX0_begin_48 : decode cX0_begin 48 = .ok (.putfield 48, 3) := bdX0_begin_26.2.2.2.2.2.2.2.2.2.2.2.2.2.1
theorem dX0_begin_51 : decode cX0_begin 51 = .ok (.aload_n 0, 1) := bdX0_begin_26.2.2.2.2.2.2.2.2.2.2.2.2.2.2.1
theorem dX0_begin_52 : decode cX0_begin 52 = .ok (.lconst 0, 1) := bdX0_begin_26.2.2.2.2.2.2.2.2.2.2.2.2.2.2.2
theorem bdX0_begin_53 : decode cX0_begin 53 = .ok (.putfield 51, 3) ∧ decode cX0_begin 56 = .ok (.aload_n 0, 1) ∧ decode cX0_begin 57 = .ok (.lconst 0, 1) ∧ decode cX0_begin 58 = .ok (.putfield 54, 3) ∧ decode cX0_begin 61 = .ok (.aload_n 0, 1) ∧ decode cX0_begin 62 = .ok (.invokevirtual 57, 3) ∧ decode cX0_begin 65 = .ok (.aload_n 0, 1) ∧ decode cX0_begin 66 = .ok (.invokevirtual 60, 3) ∧ decode cX0_begin 69 = .ok (.return_, 1) := by decide +kernel
theorem dX0_begin_53 : decode cX0_begin 53 = .ok (.putfield 51, 3) := bdX0_begin_53.1
theorem dX0_begin_56 : decode cX0_begin 56 = .ok (.aload_n 0, 1) := bdX0_begin_53.2.1
theorem dX0_begin_57 : decode cX0_begin 57 = .ok (.lconst 0, 1) := bdX0_begin_53.2.2.1
theorem dX0_begin_58 : decode cX0_begin 58 = .ok (.putfield 54, 3) := bdX0_begin_53.2.2.2.1
theorem dX0_begin_61 : decode cX0_begin 61 = .ok (.aload_n 0, 1) := bdX0_begin_53.2.2.2.2.1
theorem dX0_begin_62 : decode cX0_begin 62 = .ok (.invokevirtual 57, 3) := bdX0_begin_53.2.2.2.2.2.1
theorem dX0_begin_65 : decode cX0_begin 65 = .ok (.aload_n 0, 1) := bdX0_begin_53.2.2.2.2.2.2.1
theorem dX0_begin_66 : decode cX0_begin 66 = .ok (.invokevirtual 60, 3) := bdX0_begin_53.2.2.2.2.2.2.2.1
theorem dX0_begin_69 : decode cX0_begin 69 = .ok (.return_, 1) := bdX0_begin_53.2.2.2.2.2.2.2.2
theorem bdX0_beginDay_0 : decode cX0_beginDay 0 = .ok (.aload_n 0, 1) ∧ decode cX0_beginDay 1 = .ok (.bipush (-6), 2) ∧ decode cX0_beginDay 3 = .ok (.putfield 63, 3) ∧ decode cX0_beginDay 6 = .ok (.aload_n 0, 1) ∧ decode cX0_beginDay 7 = .ok (.bipush (-6), 2) ∧ decode cX0_beginDay 9 = .ok (.putfield 66, 3) ∧ decode cX0_beginDay 12 = .ok (.aload_n 0, 1) ∧ decode cX0_beginDay 13 = .ok (.iconst 0, 1) ∧ decode cX0_beginDay 14 = .ok (.putfield 69, 3) ∧ decode cX0_beginDay 17 = .ok (.aload_n 0, 1) ∧ decode cX0_beginDay 18 = .ok (.bipush (-6), 2) ∧ decode cX0_beginDay 20 = .ok (.putfield 72, 3) ∧ decode cX0_beginDay 23 = .ok (.return_, 1) := by decide +kernel
theorem dX0_beginDay_0 : decode cX0_beginDay 0 = .ok (.aload_n 0, 1) := bdX0_beginDay_0.1
theorem dX0_beginDay_1 : decode cX0_beginDay 1 = .ok (.bipush (-6), 2) := bdX0_beginDay_0.2.1
theorem dX0_beginDay_3 : decode cX0_beginDay 3 = .ok (.putfield 63, 3) := bdX0_beginDay_0.2.2.1
theorem dX0_beginDay_6 : decode cX0_beginDay 6 = .ok (.aload_n 0, 1) := bdX0_beginDay_0.2.2.2.1
theorem dX0_beginDay_7 : decode cX0_beginDay 7 = .ok (.bipush (-6), 2) := bdX0_beginDay_0.2.2.2.2.1
theorem dX0_beginDay_9 : decode cX0_beginDay 9 = .ok (.putfield 66, 3) := bdX0_beginDay_0.2.2.2.2.2.1
theorem dX0_beginDay_12 : decode cX0_beginDay 12 = .ok (.aload_n 0, 1) := bdX0_beginDay_0.2.2.2.2.2.2.1
theorem dX0_beginDay_13 : decode cX0_beginDay 13 = .ok (.iconst 0, 1) := bdX0_beginDay_0.2.2.2.2.2.2.2.1
theorem dX0_beginDay_14 : decode cX0_beginDay 14 = .ok (.putfield 69, 3) := bdX0_beginDay_0.2.2.2.2.2.2.2.2.1
theorem dX0_beginDay_17 : decode cX0_beginDay 17 = .ok (.aload_n 0, 1) := bdX0_beginDay_0.2.2.2.2.2.2.2.2.2.1
theorem dX0_beginDay_18 : decode cX0_beginDay 18 = .ok (.bipush (-6), 2) := bdX0_beginDay_0.2.2.2.2.2.2.2.2.2.2.1
theorem dX0_beginDay_20 : decode cX0_beginDay 20 = .ok (.putfield 72, 3) := bdX0_beginDay_0.2.2.2.2.2.2.2.2.2.2.2.1
theorem dX0_beginDay_23 : decode cX0_beginDay 23 = .ok (.return_, 1) := bdX0_beginDay_0.2.2.2.2.2.2.2.2.2.2.2.2
theorem bdX0_copyFrom_0 : decode cX0_copyFrom 0 = .ok (.aload_n 0, 1) ∧ decode cX0_copyFrom 1 = .ok (.aload_n 1, 1) ∧ decode cX0_copyFrom 2 = .ok (.getfield 18, 3) ∧ decode cX0_copyFrom 5 = .ok (.putfield 18, 3) ∧ decode cX0_copyFrom 8 = .ok (.aload_n 0, 1) ∧ decode cX0_copyFrom 9 = .ok (.aload_n 1, 1) ∧ decode cX0_copyFrom 10 = .ok (.getfield 22, 3) ∧ decode cX0_copyFrom 13 = .ok (.putfield 22, 3) ∧ decode cX0_copyFrom 16 = .ok (.aload_n 0, 1) ∧ decode cX0_copyFrom 17 = .ok (.aload_n 1, 1) ∧ decode cX0_copyFrom 18 = .ok (.getfield 28, 3) ∧ decode cX0_copyFrom 21 = .ok (.putfield 28, 3) ∧ decode cX0_copyFrom 24 = .ok (.aload_n 0, 1) ∧ decode cX0_copyFrom 25 = .ok (.aload_n 1, 1) ∧ decode cX0_copyFrom 26 = .ok (.getfield 31, 3) ∧ decode cX0_copyFrom 29 = .ok (.putfield 31, 3) := by decide +kernel
theorem dX0_copyFrom_0 : decode cX0_copyFrom 0 = .ok (.aload_n 0, 1) := bdX0_copyFrom_0.1
theorem dX0_copyFrom_1 : decode cX0_copyFrom 1 = .ok (.aload_n 1, 1) := bdX0_copyFrom_0.2.1
theorem dX0_copyFrom_2 : decode cX0_copyFrom 2 = .ok (.getfield 18, 3) := bdX0_copyFrom_0.2.2.1
theorem dX0_copyFrom_5 : decode cX0_copyFrom 5 = .ok (.putfield 18, 3) := bdX0_copyFrom_0.2.2.2.1
theorem dX0_copyFrom_8 : decode cX0_copyFrom 8 = .ok (.aload_n 0, 1) := bdX0_copyFrom_0.2.2.2.2.1
theorem dX0_copyFrom_9 : decode cX0_copyFrom 9 = .ok (.aload_n 1, 1) := bdX0_copyFrom_0.2.2.2.2.2.1
theorem dX0_copyFrom_10 : decode cX0_copyFrom 10 = .ok (.getfield 22, 3) := bdX0_copyFrom_0.2.2.2.2.2.2.1
theorem dX0_copyFrom_13 : decode cX0_copyFrom 13 = .ok (.putfield 22, 3) := bdX0_copyFrom_0.2.2.2.2.2.2.2.1
theorem dX0_copyFrom_16 : decode cX0_copyFrom 16 = .ok (.aload_n 0, 1) := bdX0_copyFrom_0.2.2.2.2.2.2.2.2.1
theorem dX0_copyFrom_17 : decode cX0_copyFrom 17 = .ok (.aload_n 1, 1) := bdX0_copyFrom_0.2.2.2.2.2.2.2.2.2.1
theorem dX0_copyFrom_18 : decode cX0_copyFrom 18 = .ok (.getfield 28, 3) := bdX0_copyFrom_0.2.2.2.2.2.2.2.2.2.2.1
theorem dX0_copyFrom_21 : decode cX0_copyFrom 21 = .ok (.putfield 28, 3) := bdX0_copyFrom_0.2.2.2.2.2.2.2.2.2.2.2.1
theorem dX0_copyFrom_24 : decode cX0_copyFrom 24 = .ok (.aload_n 0, 1) := bdX0_copyFrom_0.2.2.2.2.2.2.2.2.2.2.2.2.1
theorem dX0_copyFrom_25 : decode cX0_copyFrom 25 = .ok (.aload_n 1, 1) := bdX0_copyFrom_0.2.2.2.2.2.2.2.2.2.2.2.2.2.1
theorem dX0_copyFrom_26 : decode cX0_copyFrom 26 = .ok (.getfield 31, 3) := bdX0_copyFrom_0.2.2.2.2.2.2.2.2.2.2.2.2.2.2.1
theorem dX0_copyFrom_29 : decode cX0_copyFrom 29 = .ok (.putfield 31, 3) := bdX0_copyFrom_0.2.2.2.2.2.2.2.2.2.2.2.2.2.2.2
theorem bdX0_copyFrom_32 : decode cX0_copyFrom 32 = .ok (.aload_n 0, 1) ∧ decode cX0_copyFrom 33 = .ok (.aload_n 1, 1) ∧ decode cX0_copyFrom 34 = .ok (.getfield 25, 3) ∧ decode cX0_copyFrom 37 = .ok (.putfield 25, 3) ∧ decode cX0_copyFrom 40 = .ok (.aload_n 0, 1) ∧ decode cX0_copyFrom 41 = .ok (.aload_n 1, 1) ∧ decode cX0_copyFrom 42 = .ok (.getfield 34, 3) ∧ decode cX0_copyFrom 45 = .ok (.putfield 34, 3) ∧ decode cX0_copyFrom 48 = .ok (.aload_n 0, 1) ∧ decode cX0_copyFrom 49 = .ok (.aload_n 1, 1) ∧ decode cX0_copyFrom 50 = .ok (.getfield 38, 3) ∧ decode cX0_copyFrom 53 = .ok (.putfield 38, 3) ∧ decode cX0_copyFrom 56 = .ok (.aload_n 0, 1) ∧ decode cX0_copyFrom 57 = .ok (.aload_n 1, 1) ∧ decode cX0_copyFrom 58 = .ok (.getfield 41, 3) ∧ decode cX0_copyFrom 61 = .ok (.putfield 41, 3) := by decide +kernel
theorem dX0_copyFrom_32 : decode cX0_copyFrom 32 = .ok (.aload_n 0, 1) := bdX0_copyFrom_32.1
theorem dX0_copyFrom_33 : decode cX0_copyFrom 33 = .ok (.aload_n 1, 1) := bdX0_copyFrom_32.2.1
theorem dX0_copyFrom_34 : decode cX0_copyFrom 34 = .ok (.getfield 25, 3) := bdX0_copyFrom_32.2.2.1
theorem dX0_copyFrom_37 : decode cX0_copyFrom 37 = .ok (.putfield 25, 3) := bdX0_copyFrom_32.2.2.2.1
theorem dX0_copyFrom_40 : decode cX0_copyFrom 40 = .ok (.aload_n 0, 1) := bdX0_copyFrom_32.2.2.2.2.1
theorem dX0_copyFrom_41 : decode cX0_copyFrom 41 = .ok (.aload_n 1, 1) := bdX0_copyFrom_32.2.2.2.2.2.1
theorem dX0_copyFrom_42 : decode cX0_copyFrom 42 = .ok (.getfield 34, 3) := bdX0_copyFrom_32.2.2.2.2.2.2.1
theorem dX0_copyFrom_45 : decode cX0_copyFrom 45 = .ok (.putfield 34, 3) := bdX0_copyFrom_32.2.2.2.2.2.2.2.1
theorem dX0_copyFrom_48 : decode cX0_copyFrom 48 = .ok (.aload_n 0, 1) := bdX0_copyFrom_32.2.2.2.2.2.2.2.2.1
theorem dX0_copyFrom_49 : decode cX0_copyFrom 49 = .ok (.aload_n 1, 1) := bdX0_copyFrom_32.2.2.2.2.2.2.2.2.2.1
theorem dX0_copyFrom_50 : decode cX0_copyFrom 50 = .ok (.getfield 38, 3) := bdX0_copyFrom_32.2.2.2.2.2.2.2.2.2.2.1
theorem dX0_copyFrom_53 : decode cX0_copyFrom 53 = .ok (.putfield 38, 3) := bdX0_copyFrom_32.2.2.2.2.2.2.2.2.2.2.2.1
theorem dX0_copyFrom_56 : decode cX0_copyFrom 56 = .ok (.aload_n 0, 1) := bdX0_copyFrom_32.2.2.2.2.2.2.2.2.2.2.2.2.1
theorem dX0_copyFrom_57 : decode cX0_copyFrom 57 = .ok (.aload_n 1, 1) := bdX0_copyFrom_32.2.2.2.2.2.2.2.2.2.2.2.2.2.1
theorem dX0_copyFrom_58 : decode cX0_copyFrom 58 = .ok (.getfield 41, 3) := bdX0_copyFrom_32.2.2.2.2.2.2.2.2.2.2.2.2.2.2.1
theorem dX0_copyFrom_61 : decode cX0_copyFrom 61 = .ok (.putfield 41, 3) := bdX0_copyFrom_32.2.2.2.2.2.2.2.2.2.2.2.2.2.2.2
theorem bdX0_copyFrom_64 : decode cX0_copyFrom 64 = .ok (.aload_n 0, 1) ∧ decode cX0_copyFrom 65 = .ok (.aload_n 1, 1) ∧ decode cX0_copyFrom 66 = .ok (.getfield 63, 3) ∧ decode cX0_copyFrom 69 = .ok (.putfield 63, 3) ∧ decode cX0_copyFrom 72 = .ok (.aload_n 0, 1) ∧ decode cX0_copyFrom 73 = .ok (.aload_n 1, 1) ∧ decode cX0_copyFrom 74 = .ok (.getfield 66, 3) ∧ decode cX0_copyFrom 77 = .ok (.putfield 66, 3) ∧ decode cX0_copyFrom 80 = .ok (.aload_n 0, 1) ∧ decode cX0_copyFrom 81 = .ok (.aload_n 1, 1) ∧ decode cX0_copyFrom 82 = .ok (.getfield 69, 3) ∧ decode cX0_copyFrom 85 = .ok (.putfield 69, 3) ∧ decode cX0_copyFrom 88 = .ok (.aload_n 0, 1) ∧ decode cX0_copyFrom 89 = .ok (.aload_n 1, 1) ∧ decode cX0_copyFrom 90 = .ok (.getfield 72, 3) ∧ decode cX0_copyFrom 93 = .ok (.putfield 72, 3) := by decide +kernel
theorem dX0_copyFrom_64 : decode cX0_copyFrom 64 = .ok (.aload_n 0, 1) := bdX0_copyFrom_64.1
theorem dX0_copyFrom_65 : decode cX0_copyFrom 65 = .ok (.aload_n 1, 1) := bdX0_copyFrom_64.2.1
theorem dX0_copyFrom_66 : decode cX0_copyFrom 66 = .ok (.getfield 63, 3) := bdX0_copyFrom_64.2.2.1
theorem dX0_copyFrom_69 : decode cX0_copyFrom 69 = .ok (.putfield 63, 3) := bdX0_copyFrom_64.2.2.2.1
theorem dX0_copyFrom_72 : decode cX0_copyFrom 72 = .ok (.aload_n 0, 1) := bdX0_copyFrom_64.2.2.2.2.1
theorem dX0_copyFrom_73 : decode cX0_copyFrom 73 = .ok (.aload_n 1, 1) := bdX0_copyFrom_64.2.2.2.2.2.1
theorem dX0_copyFrom_74 : decode cX0_copyFrom 74 = .ok (.getfield 66, 3) := bdX0_copyFrom_64.2.2.2.2.2.2.1
theorem dX0_copyFrom_77 : decode cX0_copyFrom 77 = .ok (.putfield 66, 3) := bdX0_copyFrom_64.2.2.2.2.2.2.2.1
theorem dX0_copyFrom_80 : decode cX0_copyFrom 80 = .ok (.aload_n 0, 1) := bdX0_copyFrom_64.2.2.2.2.2.2.2.2.1
theorem dX0_copyFrom_81 : decode cX0_copyFrom 81 = .ok (.aload_n 1, 1) := bdX0_copyFrom_64.2.2.2.2.2.2.2.2.2.1
theorem dX0_copyFrom_82 : decode cX0_copyFrom 82 = .ok (.getfield 69, 3) := bdX0_copyFrom_64.2.2.2.2.2.2.2.2.2.2.1
theorem dX0_copyFrom_85 : decode cX0_copyFrom 85 = .ok (.putfield 69, 3) := bdX0_copyFrom_64.2.2.2.2.2.2.2.2.2.2.2.1
theorem dX0_copyFrom_88 : decode cX0_copyFrom 88 = .ok (.aload_n 0, 1) := bdX0_copyFrom_64.2.2.2.2.2.2.2.2.2.2.2.2.1
theorem dX0_copyFrom_89 : decode cX0_copyFrom 89 = .ok (.aload_n 1, 1) := bdX0_copyFrom_64.2.2.2.2.2.2.2.2.2.2.2.2.2.1
theorem dX0_copyFrom_90 : decode cX0_copyFrom 90 = .ok (.getfield 72, 3) := bdX0_copyFrom_64.2.2.2.2.2.2.2.2.2.2.2.2.2.2.1
theorem dX0_copyFrom_93 : decode cX0_copyFrom 93 = .ok (.putfield 72, 3) := bdX0_copyFrom_64.2.2.2.2.2.2.2.2.2.2.2.2.2.2.2
theorem bdX0_copyFrom_96 : decode cX0_copyFrom 96 = .ok (.aload_n 0, 1) ∧ decode cX0_copyFrom 97 = .ok (.aload_n 1, 1) ∧ decode cX0_copyFrom 98 = .ok (.getfield 44, 3) ∧ decode cX0_copyFrom 101 = .ok (.putfield 44, 3) ∧ decode cX0_copyFrom 104 = .ok (.aload_n 0, 1) ∧ decode cX0_copyFrom 105 = .ok (.aload_n 1, 1) ∧ decode cX0_copyFrom 106 = .ok (.getfield 48, 3) ∧ decode cX0_copyFrom 109 = .ok (.putfield 48, 3) ∧ decode cX0_copyFrom 112 = .ok (.aload_n 0, 1) ∧ decode cX0_copyFrom 113 = .ok (.aload_n 1, 1) ∧ decode cX0_copyFrom 114 = .ok (.getfield 51, 3) ∧ decode cX0_copyFrom 117 = .ok (.putfield 51, 3) ∧ decode cX0_copyFrom 120 = .ok (.aload_n 0, 1) ∧ decode cX0_copyFrom 121 = .ok (.aload_n 1, 1) ∧ decode cX0_copyFrom 122 = .ok (.getfield 54, 3) ∧ decode cX0_copyFrom 125 = .ok (.putfield 54, 3) := by decide +kernel
theorem dX0_copyFrom_96 : decode cX0_copyFrom 96 = .ok (.aload_n 0, 1) := bdX0_copyFrom_96.1
theorem dX0_copyFrom_97 : decode cX0_copyFrom 97 = .ok (.aload_n 1, 1) := bdX0_copyFrom_96.2.1
theorem dX0_copyFrom_98 : decode cX0_copyFrom 98 = .ok (.getfield 44, 3) := bdX0_copyFrom_96.2.2.1
theorem dX0_copyFrom_101 : decode cX0_copyFrom 101 = .ok (.putfield 44, 3) := bdX0_copyFrom_96.2.2.2.1
theorem dX0_copyFrom_104 : decode cX0_copyFrom 104 = .ok (.aload_n 0, 1) := bdX0_copyFrom_96.2.2.2.2.1
theorem dX0_copyFrom_105 : decode cX0_copyFrom 105 = .ok (.aload_n 1, 1) := bdX0_copyFrom_96.2.2.2.2.2.1
theorem dX0_copyFrom_106 : decode cX0_copyFrom 106 = .ok (.getfield 48, 3) := bdX0_copyFrom_96.2.2.2.2.2.2.1
theorem dX0_copyFrom_109 : decode cX0_copyFrom 109 = .ok (.putfield 48, 3) := bdX0_copyFrom_96.2.2.2.2.2.2.2.1
theorem dX0_copyFrom_112 : decode cX0_copyFrom 112 = .ok (.aload_n 0, 1) := bdX0_copyFrom_96.2.2.2.2.2.2.2.2.1
theorem dX0_copyFrom_113 : decode cX0_copyFrom 113 = .ok (.aload_n 1, 1) := bdX0_copyFrom_96.2.2.2.2.2.2.2.2.2.1
theorem dX0_copyFrom_114 : decode cX0_copyFrom 114 = .ok (.getfield 51, 3) := bdX0_copyFrom_96.2.2.2.2.2.2.2.2.2.2.1
theorem dX0_copyFrom_117 : decode cX0_copyFrom 117 = .ok (.putfield 51, 3) := bdX0_copyFrom_96.2.2.2.2.2.2.2.2.2.2.2.1
theorem dX0_copyFrom_120 : decode cX0_copyFrom 120 = .ok (.aload_n 0, 1) := bdX0_copyFrom_96.2.2.2.2.2.2.2.2.2.2.2.2.1
theorem dX0_copyFrom_121 : decode cX0_copyFrom 121 = .ok (.aload_n 1, 1) := bdX0_copyFrom_96.2.2.2.2.2.2.2.2.2.2.2.2.2.1
theorem dX0_copyFrom_122 : decode cX0_copyFrom 122 = .ok (.getfield 54, 3) := bdX0_copyFrom_96.2.2.2.2.2.2.2.2.2.2.2.2.2.2.1
theorem dX0_copyFrom_125 : decode cX0_copyFrom 125 = .ok (.putfield 54, 3) := bdX0_copyFrom_96.2.2.2.2.2.2.2.2.2.2.2.2.2.2.2
theorem bdX0_copyFrom_128 : decode cX0_copyFrom 128 = .ok (.aload_n 1, 1) ∧ decode cX0_copyFrom 129 = .ok (.getfield 9, 3) ∧ decode cX0_copyFrom 132 = .ok (.iconst 0, 1) ∧ decode cX0_copyFrom 133 = .ok (.aload_n 0, 1) ∧ decode cX0_copyFrom 134 = .ok (.getfield 9, 3) ∧ decode cX0_copyFrom 137 = .ok (.iconst 0, 1) ∧ decode cX0_copyFrom 138 = .ok (.iconst 3, 1) ∧ decode cX0_copyFrom 139 = .ok (.invokestatic 75, 3) ∧ decode cX0_copyFrom 142 = .ok (.aload_n 1, 1) ∧ decode cX0_copyFrom 143 = .ok (.getfield 15, 3) ∧ decode cX0_copyFrom 146 = .ok (.iconst 0, 1) ∧ decode cX0_copyFrom 147 = .ok (.aload_n 0, 1) ∧ decode cX0_copyFrom 148 = .ok (.getfield 15, 3) ∧ decode cX0_copyFrom 151 = .ok (.iconst 0, 1) ∧ decode cX0_copyFrom 152 = .ok (.sipush 200, 3) ∧ decode cX0_copyFrom 155 = .ok (.invokestatic 75, 3) := by decide +kernel
theorem dX0_copyFrom_128 : decode cX0_copyFrom 128 = .ok (.aload_n 1, 1) := bdX0_copyFrom_128.1
theorem dX0_copyFrom_129 : decode cX0_copyFrom 129 = .ok (.getfield 9, 3) := bdX0_copyFrom_128.2.1
theorem dX0_copyFrom_132 : decode cX0_copyFrom 132 = .ok (.iconst 0, 1) := bdX0_copyFrom_128.2.2.1
theorem dX0_copyFrom_133 : decode cX0_copyFrom 133 = .ok (.aload_n 0, 1) := bdX0_copyFrom_128.2.2.2.1
theorem dX0_copyFrom_134 : decode cX0_copyFrom 134 = .ok (.getfield 9, 3) := bdX0_copyFrom_128.2.2.2.2.1
theorem dX0_copyFrom_137 : decode cX0_copyFrom 137 = .ok (.iconst 0, 1) := bdX0_copyFrom_128.2.2.2.2.2.1
theorem dX0_copyFrom_138 : decode cX0_copyFrom 138 = .ok (.iconst 3, 1) := bdX0_copyFrom_128.2.2.2.2.2.2.1
theorem dX0_copyFrom_139 : decode cX0_copyFrom 139 = .ok (.invokestatic 75, 3) := bdX0_copyFrom_128.2.2.2.2.2.2.2.1
theorem dX0_copyFrom_142 : decode cX0_copyFrom 142 = .ok (.aload_n 1, 1) := bdX0_copyFrom_128.2.2.2.2.2.2.2.2.1
theorem dX0_copyFrom_143 : decode cX0_copyFrom 143 = .ok (.getfield 15, 3) := bdX0_copyFrom_128.2.2.2.2.2.2.2.2.2.1
theorem dX0_copyFrom_146 : decode cX0_copyFrom 146 = .ok (.iconst 0, 1) := bdX0_copyFrom_128.2.2.2.2.2.2.2.2.2.2.1
theorem dX0_copyFrom_147 : decode cX0_copyFrom 147 = .ok (.aload_n 0, 1) := bdX0_copyFrom_128.2.2.2.2.2.2.2.2.2.2.2.1
theorem dX0_copyFrom_148 : decode cX0_copyFrom 148 = .ok (.getfield 15, 3) := bdX0_copyFrom_128.2.2.2.2.2.2.2.2.2.2.2.2.1
theorem dX0_copyFrom_151 : decode cX0_copyFrom 151 = .ok (.iconst 0, 1) := bdX0_copyFrom_128.2.2.2.2.2.2.2.2.2.2.2.2.2.1
theorem dX0_copyFrom_152 : decode cX0_copyFrom 152 = .ok (.sipush 200, 3) := bdX0_copyFrom_128.2.2.2.2.2.2.2.2.2.2.2.2.2.2.1
theorem dX0_copyFrom_155 : decode cX0_copyFrom 155 = .ok (.invokestatic 75, 3) := bdX0_copyFrom_128.2.2.2.2.2.2.2.2.2.2.2.2.2.2.2
theorem dX0_copyFrom_158 : decode cX0_copyFrom 158 = .ok (.return_, 1) := by decide +kernel
theorem bdX0_balance_0 : decode cX0_balance 0 = .ok (.aload_n 0, 1) ∧ decode cX0_balance 1 = .ok (.getfield 44, 3) ∧ decode cX0_balance 4 = .ok (.aload_n 0, 1) ∧ decode cX0_balance 5 = .ok (.getfield 48, 3) ∧ decode cX0_balance 8 = .ok (.lsub, 1) ∧ decode cX0_balance 9 = .ok (.aload_n 0, 1) ∧ decode cX0_balance 10 = .ok (.getfield 51, 3) ∧ decode cX0_balance 13 = .ok (.lsub, 1) ∧ decode cX0_balance 14 = .ok (.aload_n 0, 1) ∧ decode cX0_balance 15 = .ok (.getfield 54, 3) ∧ decode cX0_balance 18 = .ok (.lsub, 1) ∧ decode cX0_balance 19 = .ok (.lreturn, 1) := by decide +kernel
theorem dX0_balance_0 : decode cX0_balance 0 = .ok (.aload_n 0, 1) := bdX0_balance_0.1
theorem dX0_balance_1 : decode cX0_balance 1 = .ok (.getfield 44, 3) := bdX0_balance_0.2.1
theorem dX0_balance_4 : decode cX0_balance 4 = .ok (.aload_n 0, 1) := bdX0_balance_0.2.2.1
theorem dX0_balance_5 : decode cX0_balance 5 = .ok (.getfield 48, 3) := bdX0_balance_0.2.2.2.1
theorem dX0_balance_8 : decode cX0_balance 8 = .ok (.lsub, 1) := bdX0_balance_0.2.2.2.2.1
theorem dX0_balance_9 : decode cX0_balance 9 = .ok (.aload_n 0, 1) := bdX0_balance_0.2.2.2.2.2.1
theorem dX0_balance_10 : decode cX0_balance 10 = .ok (.getfield 51, 3) := bdX0_balance_0.2.2.2.2.2.2.1
theorem dX0_balance_13 : decode cX0_balance 13 = .ok (.lsub, 1) := bdX0_balance_0.2.2.2.2.2.2.2.1
theorem dX0_balance_14 : decode cX0_balance 14 = .ok (.aload_n 0, 1) := bdX0_balance_0.2.2.2.2.2.2.2.2.1
theorem dX0_balance_15 : decode cX0_balance 15 = .ok (.getfield 54, 3) := bdX0_balance_0.2.2.2.2.2.2.2.2.2.1
theorem dX0_balance_18 : decode cX0_balance 18 = .ok (.lsub, 1) := bdX0_balance_0.2.2.2.2.2.2.2.2.2.2.1
theorem dX0_balance_19 : decode cX0_balance 19 = .ok (.lreturn, 1) := bdX0_balance_0.2.2.2.2.2.2.2.2.2.2.2
theorem bdX0_wishAt_0 : decode cX0_wishAt 0 = .ok (.iload_n 1, 1) ∧ decode cX0_wishAt 1 = .ok (.ifCond .lt 25, 3) ∧ decode cX0_wishAt 4 = .ok (.iload_n 1, 1) ∧ decode cX0_wishAt 5 = .ok (.aload_n 0, 1) ∧ decode cX0_wishAt 6 = .ok (.getfield 28, 3) ∧ decode cX0_wishAt 9 = .ok (.if_icmp .ge 17, 3) ∧ decode cX0_wishAt 12 = .ok (.iload_n 1, 1) ∧ decode cX0_wishAt 13 = .ok (.iconst 3, 1) ∧ decode cX0_wishAt 14 = .ok (.if_icmp .ge 12, 3) ∧ decode cX0_wishAt 17 = .ok (.aload_n 0, 1) ∧ decode cX0_wishAt 18 = .ok (.getfield 9, 3) ∧ decode cX0_wishAt 21 = .ok (.iload_n 1, 1) ∧ decode cX0_wishAt 22 = .ok (.iaload, 1) ∧ decode cX0_wishAt 23 = .ok (.goto 5, 3) ∧ decode cX0_wishAt 26 = .ok (.bipush (-6), 2) ∧ decode cX0_wishAt 28 = .ok (.ireturn, 1) := by decide +kernel
theorem dX0_wishAt_0 : decode cX0_wishAt 0 = .ok (.iload_n 1, 1) := bdX0_wishAt_0.1
theorem dX0_wishAt_1 : decode cX0_wishAt 1 = .ok (.ifCond .lt 25, 3) := bdX0_wishAt_0.2.1
theorem dX0_wishAt_4 : decode cX0_wishAt 4 = .ok (.iload_n 1, 1) := bdX0_wishAt_0.2.2.1
theorem dX0_wishAt_5 : decode cX0_wishAt 5 = .ok (.aload_n 0, 1) := bdX0_wishAt_0.2.2.2.1
theorem dX0_wishAt_6 : decode cX0_wishAt 6 = .ok (.getfield 28, 3) := bdX0_wishAt_0.2.2.2.2.1
theorem dX0_wishAt_9 : decode cX0_wishAt 9 = .ok (.if_icmp .ge 17, 3) := bdX0_wishAt_0.2.2.2.2.2.1
theorem dX0_wishAt_12 : decode cX0_wishAt 12 = .ok (.iload_n 1, 1) := bdX0_wishAt_0.2.2.2.2.2.2.1
theorem dX0_wishAt_13 : decode cX0_wishAt 13 = .ok (.iconst 3, 1) := bdX0_wishAt_0.2.2.2.2.2.2.2.1
theorem dX0_wishAt_14 : decode cX0_wishAt 14 = .ok (.if_icmp .ge 12, 3) := bdX0_wishAt_0.2.2.2.2.2.2.2.2.1
theorem dX0_wishAt_17 : decode cX0_wishAt 17 = .ok (.aload_n 0, 1) := bdX0_wishAt_0.2.2.2.2.2.2.2.2.2.1
theorem dX0_wishAt_18 : decode cX0_wishAt 18 = .ok (.getfield 9, 3) := bdX0_wishAt_0.2.2.2.2.2.2.2.2.2.2.1
theorem dX0_wishAt_21 : decode cX0_wishAt 21 = .ok (.iload_n 1, 1) := bdX0_wishAt_0.2.2.2.2.2.2.2.2.2.2.2.1
theorem dX0_wishAt_22 : decode cX0_wishAt 22 = .ok (.iaload, 1) := bdX0_wishAt_0.2.2.2.2.2.2.2.2.2.2.2.2.1
theorem dX0_wishAt_23 : decode cX0_wishAt 23 = .ok (.goto 5, 3) := bdX0_wishAt_0.2.2.2.2.2.2.2.2.2.2.2.2.2.1
theorem dX0_wishAt_26 : decode cX0_wishAt 26 = .ok (.bipush (-6), 2) := bdX0_wishAt_0.2.2.2.2.2.2.2.2.2.2.2.2.2.2.1
theorem dX0_wishAt_28 : decode cX0_wishAt 28 = .ok (.ireturn, 1) := bdX0_wishAt_0.2.2.2.2.2.2.2.2.2.2.2.2.2.2.2
theorem bdX0_addPoints_0 : decode cX0_addPoints 0 = .ok (.iload_n 1, 1) ∧ decode cX0_addPoints 1 = .ok (.sipush 200, 3) ∧ decode cX0_addPoints 4 = .ok (.irem, 1) ∧ decode cX0_addPoints 5 = .ok (.istore_n 3, 1) ∧ decode cX0_addPoints 6 = .ok (.iload_n 3, 1) ∧ decode cX0_addPoints 7 = .ok (.ifCond .lt 13, 3) ∧ decode cX0_addPoints 10 = .ok (.aload_n 0, 1) ∧ decode cX0_addPoints 11 = .ok (.getfield 15, 3) ∧ decode cX0_addPoints 14 = .ok (.iload_n 3, 1) ∧ decode cX0_addPoints 15 = .ok (.dup2, 1) ∧ decode cX0_addPoints 16 = .ok (.iaload, 1) ∧ decode cX0_addPoints 17 = .ok (.iload_n 2, 1) ∧ decode cX0_addPoints 18 = .ok (.iadd, 1) ∧ decode cX0_addPoints 19 = .ok (.iastore, 1) ∧ decode cX0_addPoints 20 = .ok (.return_, 1) := by decide +kernel
theorem dX0_addPoints_0 : decode cX0_addPoints 0 = .ok (.iload_n 1, 1) := bdX0_addPoints_0.1
theorem dX0_addPoints_1 : decode cX0_addPoints 1 = .ok (.sipush 200, 3) := bdX0_addPoints_0.2.1
theorem dX0_addPoints_4 : decode cX0_addPoints 4 = .ok (.irem, 1) := bdX0_addPoints_0.2.2.1
theorem dX0_addPoints_5 : decode cX0_addPoints 5 = .ok (.istore_n 3, 1) := bdX0_addPoints_0.2.2.2.1
theorem dX0_addPoints_6 : decode cX0_addPoints 6 = .ok (.iload_n 3, 1) := bdX0_addPoints_0.2.2.2.2.1
theorem dX0_addPoints_7 : decode cX0_addPoints 7 = .ok (.ifCond .lt 13, 3) := bdX0_addPoints_0.2.2.2.2.2.1
theorem dX0_addPoints_10 : decode cX0_addPoints 10 = .ok (.aload_n 0, 1) := bdX0_addPoints_0.2.2.2.2.2.2.1
theorem dX0_addPoints_11 : decode cX0_addPoints 11 = .ok (.getfield 15, 3) := bdX0_addPoints_0.2.2.2.2.2.2.2.1
theorem dX0_addPoints_14 : decode cX0_addPoints 14 = .ok (.iload_n 3, 1) := bdX0_addPoints_0.2.2.2.2.2.2.2.2.1
theorem dX0_addPoints_15 : decode cX0_addPoints 15 = .ok (.dup2, 1) := bdX0_addPoints_0.2.2.2.2.2.2.2.2.2.1
theorem dX0_addPoints_16 : decode cX0_addPoints 16 = .ok (.iaload, 1) := bdX0_addPoints_0.2.2.2.2.2.2.2.2.2.2.1
theorem dX0_addPoints_17 : decode cX0_addPoints 17 = .ok (.iload_n 2, 1) := bdX0_addPoints_0.2.2.2.2.2.2.2.2.2.2.2.1
theorem dX0_addPoints_18 : decode cX0_addPoints 18 = .ok (.iadd, 1) := bdX0_addPoints_0.2.2.2.2.2.2.2.2.2.2.2.2.1
theorem dX0_addPoints_19 : decode cX0_addPoints 19 = .ok (.iastore, 1) := bdX0_addPoints_0.2.2.2.2.2.2.2.2.2.2.2.2.2.1
theorem dX0_addPoints_20 : decode cX0_addPoints 20 = .ok (.return_, 1) := bdX0_addPoints_0.2.2.2.2.2.2.2.2.2.2.2.2.2.2
theorem bdX0_dropPointsOfSameSpot_0 : decode cX0_dropPointsOfSameSpot 0 = .ok (.iload_n 1, 1) ∧ decode cX0_dropPointsOfSameSpot 1 = .ok (.sipush 200, 3) ∧ decode cX0_dropPointsOfSameSpot 4 = .ok (.irem, 1) ∧ decode cX0_dropPointsOfSameSpot 5 = .ok (.istore_n 2, 1) ∧ decode cX0_dropPointsOfSameSpot 6 = .ok (.iload_n 2, 1) ∧ decode cX0_dropPointsOfSameSpot 7 = .ok (.ifCond .lt 10, 3) ∧ decode cX0_dropPointsOfSameSpot 10 = .ok (.aload_n 0, 1) ∧ decode cX0_dropPointsOfSameSpot 11 = .ok (.getfield 15, 3) ∧ decode cX0_dropPointsOfSameSpot 14 = .ok (.iload_n 2, 1) ∧ decode cX0_dropPointsOfSameSpot 15 = .ok (.iconst 0, 1) ∧ decode cX0_dropPointsOfSameSpot 16 = .ok (.iastore, 1) ∧ decode cX0_dropPointsOfSameSpot 17 = .ok (.return_, 1) := by decide +kernel
theorem dX0_dropPointsOfSameSpot_0 : decode cX0_dropPointsOfSameSpot 0 = .ok (.iload_n 1, 1) := bdX0_dropPointsOfSameSpot_0.1
theorem dX0_dropPointsOfSameSpot_1 : decode cX0_dropPointsOfSameSpot 1 = .ok (.sipush 200, 3) := bdX0_dropPointsOfSameSpot_0.2.1
theorem dX0_dropPointsOfSameSpot_4 : decode cX0_dropPointsOfSameSpot 4 = .ok (.irem, 1) := bdX0_dropPointsOfSameSpot_0.2.2.1
theorem dX0_dropPointsOfSameSpot_5 : decode cX0_dropPointsOfSameSpot 5 = .ok (.istore_n 2, 1) := bdX0_dropPointsOfSameSpot_0.2.2.2.1
theorem dX0_dropPointsOfSameSpot_6 : decode cX0_dropPointsOfSameSpot 6 = .ok (.iload_n 2, 1) := bdX0_dropPointsOfSameSpot_0.2.2.2.2.1
theorem dX0_dropPointsOfSameSpot_7 : decode cX0_dropPointsOfSameSpot 7 = .ok (.ifCond .lt 10, 3) := bdX0_dropPointsOfSameSpot_0.2.2.2.2.2.1
theorem dX0_dropPointsOfSameSpot_10 : decode cX0_dropPointsOfSameSpot 10 = .ok (.aload_n 0, 1) := bdX0_dropPointsOfSameSpot_0.2.2.2.2.2.2.1
theorem dX0_dropPointsOfSameSpot_11 : decode cX0_dropPointsOfSameSpot 11 = .ok (.getfield 15, 3) := bdX0_dropPointsOfSameSpot_0.2.2.2.2.2.2.2.1
theorem dX0_dropPointsOfSameSpot_14 : decode cX0_dropPointsOfSameSpot 14 = .ok (.iload_n 2, 1) := bdX0_dropPointsOfSameSpot_0.2.2.2.2.2.2.2.2.1
theorem dX0_dropPointsOfSameSpot_15 : decode cX0_dropPointsOfSameSpot 15 = .ok (.iconst 0, 1) := bdX0_dropPointsOfSameSpot_0.2.2.2.2.2.2.2.2.2.1
theorem dX0_dropPointsOfSameSpot_16 : decode cX0_dropPointsOfSameSpot 16 = .ok (.iastore, 1) := bdX0_dropPointsOfSameSpot_0.2.2.2.2.2.2.2.2.2.2.1
theorem dX0_dropPointsOfSameSpot_17 : decode cX0_dropPointsOfSameSpot 17 = .ok (.return_, 1) := bdX0_dropPointsOfSameSpot_0.2.2.2.2.2.2.2.2.2.2.2
theorem bdX0_dropAllPoints_0 : decode cX0_dropAllPoints 0 = .ok (.iconst 0, 1) ∧ decode cX0_dropAllPoints 1 = .ok (.istore_n 1, 1) ∧ decode cX0_dropAllPoints 2 = .ok (.iload_n 1, 1) ∧ decode cX0_dropAllPoints 3 = .ok (.sipush 200, 3) ∧ decode cX0_dropAllPoints 6 = .ok (.if_icmp .ge 16, 3) ∧ decode cX0_dropAllPoints 9 = .ok (.aload_n 0, 1) ∧ decode cX0_dropAllPoints 10 = .ok (.getfield 15, 3) ∧ decode cX0_dropAllPoints 13 = .ok (.iload_n 1, 1) ∧ decode cX0_dropAllPoints 14 = .ok (.iconst 0, 1) ∧ decode cX0_dropAllPoints 15 = .ok (.iastore, 1) ∧ decode cX0_dropAllPoints 16 = .ok (.iinc 1 1, 3) ∧ decode cX0_dropAllPoints 19 = .ok (.goto (-17), 3) ∧ decode cX0_dropAllPoints 22 = .ok (.return_, 1) := by decide +kernel
theorem dX0_dropAllPoints_0 : decode cX0_dropAllPoints 0 = .ok (.iconst 0, 1) := bdX0_dropAllPoints_0.1
theorem dX0_dropAllPoints_1 : decode cX0_dropAllPoints 1 = .ok (.istore_n 1, 1) := bdX0_dropAllPoints_0.2.1
theorem dX0_dropAllPoints_2 : decode cX0_dropAllPoints 2 = .ok (.iload_n 1, 1) := bdX0_dropAllPoints_0.2.2.1
theorem dX0_dropAllPoints_3 : decode cX0_dropAllPoints 3 = .ok (.sipush 200, 3) := bdX0_dropAllPoints_0.2.2.2.1
theorem dX0_dropAllPoints_6 : decode cX0_dropAllPoints 6 = .ok (.if_icmp .ge 16, 3) := bdX0_dropAllPoints_0.2.2.2.2.1
theorem dX0_dropAllPoints_9 : decode cX0_dropAllPoints 9 = .ok (.aload_n 0, 1) := bdX0_dropAllPoints_0.2.2.2.2.2.1
theorem dX0_dropAllPoints_10 : decode cX0_dropAllPoints 10 = .ok (.getfield 15, 3) := bdX0_dropAllPoints_0.2.2.2.2.2.2.1
theorem dX0_dropAllPoints_13 : decode cX0_dropAllPoints 13 = .ok (.iload_n 1, 1) := bdX0_dropAllPoints_0.2.2.2.2.2.2.2.1
theorem dX0_dropAllPoints_14 : decode cX0_dropAllPoints 14 = .ok (.iconst 0, 1) := bdX0_dropAllPoints_0.2.2.2.2.2.2.2.2.1
theorem dX0_dropAllPoints_15 : decode cX0_dropAllPoints 15 = .ok (.iastore, 1) := bdX0_dropAllPoints_0.2.2.2.2.2.2.2.2.2.1
theorem dX0_dropAllPoints_16 : decode cX0_dropAllPoints 16 = .ok (.iinc 1 1, 3) := bdX0_dropAllPoints_0.2.2.2.2.2.2.2.2.2.2.1
theorem dX0_dropAllPoints_19 : decode cX0_dropAllPoints 19 = .ok (.goto (-17), 3) := bdX0_dropAllPoints_0.2.2.2.2.2.2.2.2.2.2.2.1
theorem dX0_dropAllPoints_22 : decode cX0_dropAllPoints 22 = .ok (.return_, 1) := bdX0_dropAllPoints_0.2.2.2.2.2.2.2.2.2.2.2.2
theorem bdX0_pointsLeft_0 : decode cX0_pointsLeft 0 = .ok (.iconst 0, 1) ∧ decode cX0_pointsLeft 1 = .ok (.istore 4, 2) ∧ decode cX0_pointsLeft 3 = .ok (.iconst 0, 1) ∧ decode cX0_pointsLeft 4 = .ok (.istore 5, 2) ∧ decode cX0_pointsLeft 6 = .ok (.iload 5, 2) ∧ decode cX0_pointsLeft 8 = .ok (.iload_n 3, 1) ∧ decode cX0_pointsLeft 9 = .ok (.if_icmp .ge 50, 3) ∧ decode cX0_pointsLeft 12 = .ok (.iload 5, 2) ∧ decode cX0_pointsLeft 14 = .ok (.sipush 200, 3) ∧ decode cX0_pointsLeft 17 = .ok (.if_icmp .ge 42, 3) ∧ decode cX0_pointsLeft 20 = .ok (.iload_n 1, 1) ∧ decode cX0_pointsLeft 21 = .ok (.iload 5, 2) ∧ decode cX0_pointsLeft 23 = .ok (.isub, 1) ∧ decode cX0_pointsLeft 24 = .ok (.istore 6, 2) ∧ decode cX0_pointsLeft 26 = .ok (.iload 6, 2) ∧ decode cX0_pointsLeft 28 = .ok (.ifCond .lt 25, 3) := by decide +kernel
theorem dX0_pointsLeft_0 : decode cX0_pointsLeft 0 = .ok (.iconst 0, 1) := bdX0_pointsLeft_0.1
theorem dX0_pointsLeft_1 : decode cX0_pointsLeft 1 = .ok (.istore 4, 2) := bdX0_pointsLeft_0.2.1
theorem dX0_pointsLeft_3 : decode cX0_pointsLeft 3 = .ok (.iconst 0, 1) := bdX0_pointsLeft_0.2.2.1
theorem dX0_pointsLeft_4 : decode cX0_pointsLeft 4 = .ok (.istore 5, 2) := bdX0_pointsLeft_0.2.2.2.1
theorem dX0_pointsLeft_6 : decode cX0_pointsLeft 6 = .ok (.iload 5, 2) := bdX0_pointsLeft_0.2.2.2.2.1
theorem dX0_pointsLeft_8 : decode cX0_pointsLeft 8 = .ok (.iload_n 3, 1) := bdX0_pointsLeft_0.2.2.2.2.2.1
theorem dX0_pointsLeft_9 : decode cX0_pointsLeft 9 = .ok (.if_icmp .ge 50, 3) := bdX0_pointsLeft_0.2.2.2.2.2.2.1
theorem dX0_pointsLeft_12 : decode cX0_pointsLeft 12 = .ok (.iload 5, 2) := bdX0_pointsLeft_0.2.2.2.2.2.2.2.1
theorem dX0_pointsLeft_14 : decode cX0_pointsLeft 14 = .ok (.sipush 200, 3) := bdX0_pointsLeft_0.2.2.2.2.2.2.2.2.1
theorem dX0_pointsLeft_17 : decode cX0_pointsLeft 17 = .ok (.if_icmp .ge 42, 3) := bdX0_pointsLeft_0.2.2.2.2.2.2.2.2.2.1
theorem dX0_pointsLeft_20 : decode cX0_pointsLeft 20 = .ok (.iload_n 1, 1) := bdX0_pointsLeft_0.2.2.2.2.2.2.2.2.2.2.1
theorem dX0_pointsLeft_21 : decode cX0_pointsLeft 21 = .ok (.iload 5, 2) := bdX0_pointsLeft_0.2.2.2.2.2.2.2.2.2.2.2.1
theorem dX0_pointsLeft_23 : decode cX0_pointsLeft 23 = .ok (.isub, 1) := bdX0_pointsLeft_0.2.2.2.2.2.2.2.2.2.2.2.2.1
theorem dX0_pointsLeft_24 : decode cX0_pointsLeft 24 = .ok (.istore 6, 2) := bdX0_pointsLeft_0.2.2.2.2.2.2.2.2.2.2.2.2.2.1
theorem dX0_pointsLeft_26 : decode cX0_pointsLeft 26 = .ok (.iload 6, 2) := bdX0_pointsLeft_0.2.2.2.2.2.2.2.2.2.2.2.2.2.2.1
theorem dX0_pointsLeft_28 : decode cX0_pointsLeft 28 = .ok (.ifCond .lt 25, 3) := bdX0_pointsLeft_0.2.2.2.2.2.2.2.2.2.2.2.2.2.2.2
theorem bdX0_pointsLeft_31 : decode cX0_pointsLeft 31 = .ok (.iload 6, 2) ∧ decode cX0_pointsLeft 33 = .ok (.iload_n 2, 1) ∧ decode cX0_pointsLeft 34 = .ok (.if_icmp .gt 19, 3) ∧ decode cX0_pointsLeft 37 = .ok (.iload 4, 2) ∧ decode cX0_pointsLeft 39 = .ok (.aload_n 0, 1) ∧ decode cX0_pointsLeft 40 = .ok (.getfield 15, 3) ∧ decode cX0_pointsLeft 43 = .ok (.iload 6, 2) ∧ decode cX0_pointsLeft 45 = .ok (.sipush 200, 3) ∧ decode cX0_pointsLeft 48 = .ok (.irem, 1) ∧ decode cX0_pointsLeft 49 = .ok (.iaload, 1) ∧ decode cX0_pointsLeft 50 = .ok (.iadd, 1) ∧ decode cX0_pointsLeft 51 = .ok (.istore 4, 2) ∧ decode cX0_pointsLeft 53 = .ok (.iinc 5 1, 3) ∧ decode cX0_pointsLeft 56 = .ok (.goto (-50), 3) ∧ decode cX0_pointsLeft 59 = .ok (.iload 4, 2) ∧ decode cX0_pointsLeft 61 = .ok (.ireturn, 1) := by decide +kernel
theorem dX0_pointsLeft_31 : decode cX0_pointsLeft 31 = .ok (.iload 6, 2) := bdX0_pointsLeft_31.1
theorem dX0_pointsLeft_33 : decode cX0_pointsLeft 33 = .ok (.iload_n 2, 1) := bdX0_pointsLeft_31.2.1
theorem dX0_pointsLeft_34 : decode cX0_pointsLeft 34 = .ok (.if_icmp .gt 19, 3) := bdX0_pointsLeft_31.2.2.1
theorem dX0_pointsLeft_37 : decode cX0_pointsLeft 37 = .ok (.iload 4, 2) := bdX0_pointsLeft_31.2.2.2.1
theorem dX0_pointsLeft_39 : decode cX0_pointsLeft 39 = .ok (.aload_n 0, 1) := bdX0_pointsLeft_31.2.2.2.2.1
theorem dX0_pointsLeft_40 : decode cX0_pointsLeft 40 = .ok (.getfield 15, 3) := bdX0_pointsLeft_31.2.2.2.2.2.1
theorem dX0_pointsLeft_43 : decode cX0_pointsLeft 43 = .ok (.iload 6, 2) := bdX0_pointsLeft_31.2.2.2.2.2.2.1
theorem dX0_pointsLeft_45 : decode cX0_pointsLeft 45 = .ok (.sipush 200, 3) := bdX0_pointsLeft_31.2.2.2.2.2.2.2.1
theorem dX0_pointsLeft_48 : decode cX0_pointsLeft 48 = .ok (.irem, 1) := bdX0_pointsLeft_31.2.2.2.2.2.2.2.2.1
theorem dX0_pointsLeft_49 : decode cX0_pointsLeft 49 = .ok (.iaload, 1) := bdX0_pointsLeft_31.2.2.2.2.2.2.2.2.2.1
theorem dX0_pointsLeft_50 : decode cX0_pointsLeft 50 = .ok (.iadd, 1) := bdX0_pointsLeft_31.2.2.2.2.2.2.2.2.2.2.1
theorem dX0_pointsLeft_51 : decode cX0_pointsLeft 51 = .ok (.istore 4, 2) := bdX0_pointsLeft_31.2.2.2.2.2.2.2.2.2.2.2.1
theorem dX0_pointsLeft_53 : decode cX0_pointsLeft 53 = .ok (.iinc 5 1, 3) := bdX0_pointsLeft_31.2.2.2.2.2.2.2.2.2.2.2.2.1
theorem dX0_pointsLeft_56 : decode cX0_pointsLeft 56 = .ok (.goto (-50), 3) := bdX0_pointsLeft_31.2.2.2.2.2.2.2.2.2.2.2.2.2.1
theorem dX0_pointsLeft_59 : decode cX0_pointsLeft 59 = .ok (.iload 4, 2) := bdX0_pointsLeft_31.2.2.2.2.2.2.2.2.2.2.2.2.2.2.1
theorem dX0_pointsLeft_61 : decode cX0_pointsLeft 61 = .ok (.ireturn, 1) := bdX0_pointsLeft_31.2.2.2.2.2.2.2.2.2.2.2.2.2.2.2
theorem bdX0_reasonBeforeLots_0 : decode cX0_reasonBeforeLots 0 = .ok (.aload_n 0, 1) ∧ decode cX0_reasonBeforeLots 1 = .ok (.getfield 28, 3) ∧ decode cX0_reasonBeforeLots 4 = .ok (.ifCond .ne 5, 3) ∧ decode cX0_reasonBeforeLots 7 = .ok (.iconst 1, 1) ∧ decode cX0_reasonBeforeLots 8 = .ok (.ireturn, 1) ∧ decode cX0_reasonBeforeLots 9 = .ok (.aload_n 0, 1) ∧ decode cX0_reasonBeforeLots 10 = .ok (.getfield 25, 3) ∧ decode cX0_reasonBeforeLots 13 = .ok (.iload_n 1, 1) ∧ decode cX0_reasonBeforeLots 14 = .ok (.if_icmp .ge 5, 3) ∧ decode cX0_reasonBeforeLots 17 = .ok (.iconst 2, 1) ∧ decode cX0_reasonBeforeLots 18 = .ok (.ireturn, 1) ∧ decode cX0_reasonBeforeLots 19 = .ok (.aload_n 0, 1) ∧ decode cX0_reasonBeforeLots 20 = .ok (.getfield 38, 3) ∧ decode cX0_reasonBeforeLots 23 = .ok (.iload_n 1, 1) ∧ decode cX0_reasonBeforeLots 24 = .ok (.if_icmp .lt 7, 3) ∧ decode cX0_reasonBeforeLots 27 = .ok (.iconst 3, 1) := by decide +kernel
theorem dX0_reasonBeforeLots_0 : decode cX0_reasonBeforeLots 0 = .ok (.aload_n 0, 1) := bdX0_reasonBeforeLots_0.1
theorem dX0_reasonBeforeLots_1 : decode cX0_reasonBeforeLots 1 = .ok (.getfield 28, 3) := bdX0_reasonBeforeLots_0.2.1
theorem dX0_reasonBeforeLots_4 : decode cX0_reasonBeforeLots 4 = .ok (.ifCond .ne 5, 3) := bdX0_reasonBeforeLots_0.2.2.1
theorem dX0_reasonBeforeLots_7 : decode cX0_reasonBeforeLots 7 = .ok (.iconst 1, 1) := bdX0_reasonBeforeLots_0.2.2.2.1
theorem dX0_reasonBeforeLots_8 : decode cX0_reasonBeforeLots 8 = .ok (.ireturn, 1) := bdX0_reasonBeforeLots_0.2.2.2.2.1
theorem dX0_reasonBeforeLots_9 : decode cX0_reasonBeforeLots 9 = .ok (.aload_n 0, 1) := bdX0_reasonBeforeLots_0.2.2.2.2.2.1
theorem dX0_reasonBeforeLots_10 : decode cX0_reasonBeforeLots 10 = .ok (.getfield 25, 3) := bdX0_reasonBeforeLots_0.2.2.2.2.2.2.1
theorem dX0_reasonBeforeLots_13 : decode cX0_reasonBeforeLots 13 = .ok (.iload_n 1, 1) := bdX0_reasonBeforeLots_0.2.2.2.2.2.2.2.1
theorem dX0_reasonBeforeLots_14 : decode cX0_reasonBeforeLots 14 = .ok (.if_icmp .ge 5, 3) := bdX0_reasonBeforeLots_0.2.2.2.2.2.2.2.2.1
theorem dX0_reasonBeforeLots_17 : decode cX0_reasonBeforeLots 17 = .ok (.iconst 2, 1) := bdX0_reasonBeforeLots_0.2.2.2.2.2.2.2.2.2.1
theorem dX0_reasonBeforeLots_18 : decode cX0_reasonBeforeLots 18 = .ok (.ireturn, 1) := bdX0_reasonBeforeLots_0.2.2.2.2.2.2.2.2.2.2.1
theorem dX0_reasonBeforeLots_19 : decode cX0_reasonBeforeLots 19 = .ok (.aload_n 0, 1) := bdX0_reasonBeforeLots_0.2.2.2.2.2.2.2.2.2.2.2.1
theorem dX0_reasonBeforeLots_20 : decode cX0_reasonBeforeLots 20 = .ok (.getfield 38, 3) := bdX0_reasonBeforeLots_0.2.2.2.2.2.2.2.2.2.2.2.2.1
theorem dX0_reasonBeforeLots_23 : decode cX0_reasonBeforeLots 23 = .ok (.iload_n 1, 1) := bdX0_reasonBeforeLots_0.2.2.2.2.2.2.2.2.2.2.2.2.2.1
theorem dX0_reasonBeforeLots_24 : decode cX0_reasonBeforeLots 24 = .ok (.if_icmp .lt 7, 3) := bdX0_reasonBeforeLots_0.2.2.2.2.2.2.2.2.2.2.2.2.2.2.1
theorem dX0_reasonBeforeLots_27 : decode cX0_reasonBeforeLots 27 = .ok (.iconst 3, 1) := bdX0_reasonBeforeLots_0.2.2.2.2.2.2.2.2.2.2.2.2.2.2.2
theorem bdX0_reasonBeforeLots_28 : decode cX0_reasonBeforeLots 28 = .ok (.goto 4, 3) ∧ decode cX0_reasonBeforeLots 31 = .ok (.iconst 4, 1) ∧ decode cX0_reasonBeforeLots 32 = .ok (.ireturn, 1) := by decide +kernel
theorem dX0_reasonBeforeLots_28 : decode cX0_reasonBeforeLots 28 = .ok (.goto 4, 3) := bdX0_reasonBeforeLots_28.1
theorem dX0_reasonBeforeLots_31 : decode cX0_reasonBeforeLots 31 = .ok (.iconst 4, 1) := bdX0_reasonBeforeLots_28.2.1
theorem dX0_reasonBeforeLots_32 : decode cX0_reasonBeforeLots 32 = .ok (.ireturn, 1) := bdX0_reasonBeforeLots_28.2.2
theorem bdX1_runChecks_0 : decode cX1_runChecks 0 = .ok (.iconst 0, 1) ∧ decode cX1_runChecks 1 = .ok (.istore_n 1, 1) ∧ decode cX1_runChecks 2 = .ok (.iload_n 1, 1) ∧ decode cX1_runChecks 3 = .ok (.aload_n 0, 1) ∧ decode cX1_runChecks 4 = .ok (.getfield 9, 3) ∧ decode cX1_runChecks 7 = .ok (.iconst 2, 1) ∧ decode cX1_runChecks 8 = .ok (.iaload, 1) ∧ decode cX1_runChecks 9 = .ok (.if_icmp .ge 39, 3) ∧ decode cX1_runChecks 12 = .ok (.aload_n 0, 1) ∧ decode cX1_runChecks 13 = .ok (.invokestatic 15, 3) ∧ decode cX1_runChecks 16 = .ok (.astore_n 2, 1) ∧ decode cX1_runChecks 17 = .ok (.aload_n 2, 1) ∧ decode cX1_runChecks 18 = .ok (.ifnonnull 4, 3) ∧ decode cX1_runChecks 21 = .ok (.return_, 1) ∧ decode cX1_runChecks 22 = .ok (.aload_n 2, 1) ∧ decode cX1_runChecks 23 = .ok (.aload_n 0, 1) := by decide +kernel
theorem dX1_runChecks_0 : decode cX1_runChecks 0 = .ok (.iconst 0, 1) := bdX1_runChecks_0.1
theorem dX1_runChecks_1 : decode cX1_runChecks 1 = .ok (.istore_n 1, 1) := bdX1_runChecks_0.2.1
theorem dX1_runChecks_2 : decode cX1_runChecks 2 = .ok (.iload_n 1, 1) := bdX1_runChecks_0.2.2.1
theorem dX1_runChecks_3 : decode cX1_runChecks 3 = .ok (.aload_n 0, 1) := bdX1_runChecks_0.2.2.2.1
theorem dX1_runChecks_4 : decode cX1_runChecks 4 = .ok (.getfield 9, 3) := bdX1_runChecks_0.2.2.2.2.1
theorem dX1_runChecks_7 : decode cX1_runChecks 7 = .ok (.iconst 2, 1) := bdX1_runChecks_0.2.2.2.2.2.1
theorem dX1_runChecks_8 : decode cX1_runChecks 8 = .ok (.iaload, 1) := bdX1_runChecks_0.2.2.2.2.2.2.1
theorem dX1_runChecks_9 : decode cX1_runChecks 9 = .ok (.if_icmp .ge 39, 3) := bdX1_runChecks_0.2.2.2.2.2.2.2.1
theorem dX1_runChecks_12 : decode cX1_runChecks 12 = .ok (.aload_n 0, 1) := bdX1_runChecks_0.2.2.2.2.2.2.2.2.1
theorem dX1_runChecks_13 : decode cX1_runChecks 13 = .ok (.invokestatic 15, 3) := bdX1_runChecks_0.2.2.2.2.2.2.2.2.2.1
theorem dX1_runChecks_16 : decode cX1_runChecks 16 = .ok (.astore_n 2, 1) := bdX1_runChecks_0.2.2.2.2.2.2.2.2.2.2.1
theorem dX1_runChecks_17 : decode cX1_runChecks 17 = .ok (.aload_n 2, 1) := bdX1_runChecks_0.2.2.2.2.2.2.2.2.2.2.2.1
theorem dX1_runChecks_18 : decode cX1_runChecks 18 = .ok (.ifnonnull 4, 3) := bdX1_runChecks_0.2.2.2.2.2.2.2.2.2.2.2.2.1
theorem dX1_runChecks_21 : decode cX1_runChecks 21 = .ok (.return_, 1) := bdX1_runChecks_0.2.2.2.2.2.2.2.2.2.2.2.2.2.1
theorem dX1_runChecks_22 : decode cX1_runChecks 22 = .ok (.aload_n 2, 1) := bdX1_runChecks_0.2.2.2.2.2.2.2.2.2.2.2.2.2.2.1
theorem dX1_runChecks_23 : decode cX1_runChecks 23 = .ok (.aload_n 0, 1) := bdX1_runChecks_0.2.2.2.2.2.2.2.2.2.2.2.2.2.2.2
theorem bdX1_runChecks_24 : decode cX1_runChecks 24 = .ok (.getfield 21, 3) ∧ decode cX1_runChecks 27 = .ok (.aload_n 0, 1) ∧ decode cX1_runChecks 28 = .ok (.getfield 9, 3) ∧ decode cX1_runChecks 31 = .ok (.iconst 1, 1) ∧ decode cX1_runChecks 32 = .ok (.iaload, 1) ∧ decode cX1_runChecks 33 = .ok (.iadd, 1) ∧ decode cX1_runChecks 34 = .ok (.putfield 25, 3) ∧ decode cX1_runChecks 37 = .ok (.aload_n 2, 1) ∧ decode cX1_runChecks 38 = .ok (.iconst 0, 1) ∧ decode cX1_runChecks 39 = .ok (.putfield 30, 3) ∧ decode cX1_runChecks 42 = .ok (.iinc 1 1, 3) ∧ decode cX1_runChecks 45 = .ok (.goto (-43), 3) ∧ decode cX1_runChecks 48 = .ok (.return_, 1) := by decide +kernel
theorem dX1_runChecks_24 : decode cX1_runChecks 24 = .ok (.getfield 21, 3) := bdX1_runChecks_24.1
theorem dX1_runChecks_27 : decode cX1_runChecks 27 = .ok (.aload_n 0, 1) := bdX1_runChecks_24.2.1
theorem dX1_runChecks_28 : decode cX1_runChecks 28 = .ok (.getfield 9, 3) := bdX1_runChecks_24.2.2.1
theorem dX1_runChecks_31 : decode cX1_runChecks 31 = .ok (.iconst 1, 1) := bdX1_runChecks_24.2.2.2.1
theorem dX1_runChecks_32 : decode cX1_runChecks 32 = .ok (.iaload, 1) := bdX1_runChecks_24.2.2.2.2.1
theorem dX1_runChecks_33 : decode cX1_runChecks 33 = .ok (.iadd, 1) := bdX1_runChecks_24.2.2.2.2.2.1
theorem dX1_runChecks_34 : decode cX1_runChecks 34 = .ok (.putfield 25, 3) := bdX1_runChecks_24.2.2.2.2.2.2.1
theorem dX1_runChecks_37 : decode cX1_runChecks 37 = .ok (.aload_n 2, 1) := bdX1_runChecks_24.2.2.2.2.2.2.2.1
theorem dX1_runChecks_38 : decode cX1_runChecks 38 = .ok (.iconst 0, 1) := bdX1_runChecks_24.2.2.2.2.2.2.2.2.1
theorem dX1_runChecks_39 : decode cX1_runChecks 39 = .ok (.putfield 30, 3) := bdX1_runChecks_24.2.2.2.2.2.2.2.2.2.1
theorem dX1_runChecks_42 : decode cX1_runChecks 42 = .ok (.iinc 1 1, 3) := bdX1_runChecks_24.2.2.2.2.2.2.2.2.2.2.1
theorem dX1_runChecks_45 : decode cX1_runChecks 45 = .ok (.goto (-43), 3) := bdX1_runChecks_24.2.2.2.2.2.2.2.2.2.2.2.1
theorem dX1_runChecks_48 : decode cX1_runChecks 48 = .ok (.return_, 1) := bdX1_runChecks_24.2.2.2.2.2.2.2.2.2.2.2.2
theorem bdX1_nextToCheck_0 : decode cX1_nextToCheck 0 = .ok (.aconst_null, 1) ∧ decode cX1_nextToCheck 1 = .ok (.astore_n 1, 1) ∧ decode cX1_nextToCheck 2 = .ok (.iconst 0, 1) ∧ decode cX1_nextToCheck 3 = .ok (.istore_n 2, 1) ∧ decode cX1_nextToCheck 4 = .ok (.iload_n 2, 1) ∧ decode cX1_nextToCheck 5 = .ok (.aload_n 0, 1) ∧ decode cX1_nextToCheck 6 = .ok (.getfield 34, 3) ∧ decode cX1_nextToCheck 9 = .ok (.if_icmp .ge 40, 3) ∧ decode cX1_nextToCheck 12 = .ok (.aload_n 0, 1) ∧ decode cX1_nextToCheck 13 = .ok (.getfield 37, 3) ∧ decode cX1_nextToCheck 16 = .ok (.iload_n 2, 1) ∧ decode cX1_nextToCheck 17 = .ok (.aaload, 1) ∧ decode cX1_nextToCheck 18 = .ok (.astore_n 3, 1) ∧ decode cX1_nextToCheck 19 = .ok (.aload_n 3, 1) ∧ decode cX1_nextToCheck 20 = .ok (.getfield 30, 3) ∧ decode cX1_nextToCheck 23 = .ok (.ifCond .eq 20, 3) := by decide +kernel
theorem dX1_nextToCheck_0 : decode cX1_nextToCheck 0 = .ok (.aconst_null, 1) := bdX1_nextToCheck_0.1
theorem dX1_nextToCheck_1 : decode cX1_nextToCheck 1 = .ok (.astore_n 1, 1) := bdX1_nextToCheck_0.2.1
theorem dX1_nextToCheck_2 : decode cX1_nextToCheck 2 = .ok (.iconst 0, 1) := bdX1_nextToCheck_0.2.2.1
theorem dX1_nextToCheck_3 : decode cX1_nextToCheck 3 = .ok (.istore_n 2, 1) := bdX1_nextToCheck_0.2.2.2.1
theorem dX1_nextToCheck_4 : decode cX1_nextToCheck 4 = .ok (.iload_n 2, 1) := bdX1_nextToCheck_0.2.2.2.2.1
theorem dX1_nextToCheck_5 : decode cX1_nextToCheck 5 = .ok (.aload_n 0, 1) := bdX1_nextToCheck_0.2.2.2.2.2.1
theorem dX1_nextToCheck_6 : decode cX1_nextToCheck 6 = .ok (.getfield 34, 3) := bdX1_nextToCheck_0.2.2.2.2.2.2.1
theorem dX1_nextToCheck_9 : decode cX1_nextToCheck 9 = .ok (.if_icmp .ge 40, 3) := bdX1_nextToCheck_0.2.2.2.2.2.2.2.1
theorem dX1_nextToCheck_12 : decode cX1_nextToCheck 12 = .ok (.aload_n 0, 1) := bdX1_nextToCheck_0.2.2.2.2.2.2.2.2.1
theorem dX1_nextToCheck_13 : decode cX1_nextToCheck 13 = .ok (.getfield 37, 3) := bdX1_nextToCheck_0.2.2.2.2.2.2.2.2.2.1
theorem dX1_nextToCheck_16 : decode cX1_nextToCheck 16 = .ok (.iload_n 2, 1) := bdX1_nextToCheck_0.2.2.2.2.2.2.2.2.2.2.1
theorem dX1_nextToCheck_17 : decode cX1_nextToCheck 17 = .ok (.aaload, 1) := bdX1_nextToCheck_0.2.2.2.2.2.2.2.2.2.2.2.1
theorem dX1_nextToCheck_18 : decode cX1_nextToCheck 18 = .ok (.astore_n 3, 1) := bdX1_nextToCheck_0.2.2.2.2.2.2.2.2.2.2.2.2.1
theorem dX1_nextToCheck_19 : decode cX1_nextToCheck 19 = .ok (.aload_n 3, 1) := bdX1_nextToCheck_0.2.2.2.2.2.2.2.2.2.2.2.2.2.1
theorem dX1_nextToCheck_20 : decode cX1_nextToCheck 20 = .ok (.getfield 30, 3) := bdX1_nextToCheck_0.2.2.2.2.2.2.2.2.2.2.2.2.2.2.1
theorem dX1_nextToCheck_23 : decode cX1_nextToCheck 23 = .ok (.ifCond .eq 20, 3) := bdX1_nextToCheck_0.2.2.2.2.2.2.2.2.2.2.2.2.2.2.2
theorem bdX1_nextToCheck_26 : decode cX1_nextToCheck 26 = .ok (.aload_n 1, 1) ∧ decode cX1_nextToCheck 27 = .ok (.ifnull 14, 3) ∧ decode cX1_nextToCheck 30 = .ok (.aload_n 3, 1) ∧ decode cX1_nextToCheck 31 = .ok (.getfield 25, 3) ∧ decode cX1_nextToCheck 34 = .ok (.aload_n 1, 1) ∧ decode cX1_nextToCheck 35 = .ok (.getfield 25, 3) ∧ decode cX1_nextToCheck 38 = .ok (.if_icmp .ge 5, 3) ∧ decode cX1_nextToCheck 41 = .ok (.aload_n 3, 1) ∧ decode cX1_nextToCheck 42 = .ok (.astore_n 1, 1) ∧ decode cX1_nextToCheck 43 = .ok (.iinc 2 1, 3) ∧ decode cX1_nextToCheck 46 = .ok (.goto (-42), 3) ∧ decode cX1_nextToCheck 49 = .ok (.aload_n 1, 1) ∧ decode cX1_nextToCheck 50 = .ok (.areturn, 1) := by decide +kernel
theorem dX1_nextToCheck_26 : decode cX1_nextToCheck 26 = .ok (.aload_n 1, 1) := bdX1_nextToCheck_26.1
theorem dX1_nextToCheck_27 : decode cX1_nextToCheck 27 = .ok (.ifnull 14, 3) := bdX1_nextToCheck_26.2.1
theorem dX1_nextToCheck_30 : decode cX1_nextToCheck 30 = .ok (.aload_n 3, 1) := bdX1_nextToCheck_26.2.2.1
theorem dX1_nextToCheck_31 : decode cX1_nextToCheck 31 = .ok (.getfield 25, 3) := bdX1_nextToCheck_26.2.2.2.1
theorem dX1_nextToCheck_34 : decode cX1_nextToCheck 34 = .ok (.aload_n 1, 1) := bdX1_nextToCheck_26.2.2.2.2.1
theorem dX1_nextToCheck_35 : decode cX1_nextToCheck 35 = .ok (.getfield 25, 3) := bdX1_nextToCheck_26.2.2.2.2.2.1
theorem dX1_nextToCheck_38 : decode cX1_nextToCheck 38 = .ok (.if_icmp .ge 5, 3) := bdX1_nextToCheck_26.2.2.2.2.2.2.1
theorem dX1_nextToCheck_41 : decode cX1_nextToCheck 41 = .ok (.aload_n 3, 1) := bdX1_nextToCheck_26.2.2.2.2.2.2.2.1
theorem dX1_nextToCheck_42 : decode cX1_nextToCheck 42 = .ok (.astore_n 1, 1) := bdX1_nextToCheck_26.2.2.2.2.2.2.2.2.1
theorem dX1_nextToCheck_43 : decode cX1_nextToCheck 43 = .ok (.iinc 2 1, 3) := bdX1_nextToCheck_26.2.2.2.2.2.2.2.2.2.1
theorem dX1_nextToCheck_46 : decode cX1_nextToCheck 46 = .ok (.goto (-42), 3) := bdX1_nextToCheck_26.2.2.2.2.2.2.2.2.2.2.1
theorem dX1_nextToCheck_49 : decode cX1_nextToCheck 49 = .ok (.aload_n 1, 1) := bdX1_nextToCheck_26.2.2.2.2.2.2.2.2.2.2.2.1
theorem dX1_nextToCheck_50 : decode cX1_nextToCheck 50 = .ok (.areturn, 1) := bdX1_nextToCheck_26.2.2.2.2.2.2.2.2.2.2.2.2
theorem bdX1_clearLastDay_0 : decode cX1_clearLastDay 0 = .ok (.iconst 0, 1) ∧ decode cX1_clearLastDay 1 = .ok (.istore_n 1, 1) ∧ decode cX1_clearLastDay 2 = .ok (.iload_n 1, 1) ∧ decode cX1_clearLastDay 3 = .ok (.aload_n 0, 1) ∧ decode cX1_clearLastDay 4 = .ok (.getfield 41, 3) ∧ decode cX1_clearLastDay 7 = .ok (.if_icmp .ge 20, 3) ∧ decode cX1_clearLastDay 10 = .ok (.aload_n 0, 1) ∧ decode cX1_clearLastDay 11 = .ok (.getfield 44, 3) ∧ decode cX1_clearLastDay 14 = .ok (.iload_n 1, 1) ∧ decode cX1_clearLastDay 15 = .ok (.aaload, 1) ∧ decode cX1_clearLastDay 16 = .ok (.bipush (-6), 2) ∧ decode cX1_clearLastDay 18 = .ok (.putfield 48, 3) ∧ decode cX1_clearLastDay 21 = .ok (.iinc 1 1, 3) ∧ decode cX1_clearLastDay 24 = .ok (.goto (-22), 3) ∧ decode cX1_clearLastDay 27 = .ok (.iconst 0, 1) ∧ decode cX1_clearLastDay 28 = .ok (.istore_n 1, 1) := by decide +kernel
theorem dX1_clearLastDay_0 : decode cX1_clearLastDay 0 = .ok (.iconst 0, 1) := bdX1_clearLastDay_0.1
theorem dX1_clearLastDay_1 : decode cX1_clearLastDay 1 = .ok (.istore_n 1, 1) := bdX1_clearLastDay_0.2.1
theorem dX1_clearLastDay_2 : decode cX1_clearLastDay 2 = .ok (.iload_n 1, 1) := bdX1_clearLastDay_0.2.2.1
theorem dX1_clearLastDay_3 : decode cX1_clearLastDay 3 = .ok (.aload_n 0, 1) := bdX1_clearLastDay_0.2.2.2.1
theorem dX1_clearLastDay_4 : decode cX1_clearLastDay 4 = .ok (.getfield 41, 3) := bdX1_clearLastDay_0.2.2.2.2.1
theorem dX1_clearLastDay_7 : decode cX1_clearLastDay 7 = .ok (.if_icmp .ge 20, 3) := bdX1_clearLastDay_0.2.2.2.2.2.1
theorem dX1_clearLastDay_10 : decode cX1_clearLastDay 10 = .ok (.aload_n 0, 1) := bdX1_clearLastDay_0.2.2.2.2.2.2.1
theorem dX1_clearLastDay_11 : decode cX1_clearLastDay 11 = .ok (.getfield 44, 3) := bdX1_clearLastDay_0.2.2.2.2.2.2.2.1
theorem dX1_clearLastDay_14 : decode cX1_clearLastDay 14 = .ok (.iload_n 1, 1) := bdX1_clearLastDay_0.2.2.2.2.2.2.2.2.1
theorem dX1_clearLastDay_15 : decode cX1_clearLastDay 15 = .ok (.aaload, 1) := bdX1_clearLastDay_0.2.2.2.2.2.2.2.2.2.1
theorem dX1_clearLastDay_16 : decode cX1_clearLastDay 16 = .ok (.bipush (-6), 2) := bdX1_clearLastDay_0.2.2.2.2.2.2.2.2.2.2.1
theorem dX1_clearLastDay_18 : decode cX1_clearLastDay 18 = .ok (.putfield 48, 3) := bdX1_clearLastDay_0.2.2.2.2.2.2.2.2.2.2.2.1
theorem dX1_clearLastDay_21 : decode cX1_clearLastDay 21 = .ok (.iinc 1 1, 3) := bdX1_clearLastDay_0.2.2.2.2.2.2.2.2.2.2.2.2.1
theorem dX1_clearLastDay_24 : decode cX1_clearLastDay 24 = .ok (.goto (-22), 3) := bdX1_clearLastDay_0.2.2.2.2.2.2.2.2.2.2.2.2.2.1
theorem dX1_clearLastDay_27 : decode cX1_clearLastDay 27 = .ok (.iconst 0, 1) := bdX1_clearLastDay_0.2.2.2.2.2.2.2.2.2.2.2.2.2.2.1
theorem dX1_clearLastDay_28 : decode cX1_clearLastDay 28 = .ok (.istore_n 1, 1) := bdX1_clearLastDay_0.2.2.2.2.2.2.2.2.2.2.2.2.2.2.2
theorem bdX1_clearLastDay_29 : decode cX1_clearLastDay 29 = .ok (.iload_n 1, 1) ∧ decode cX1_clearLastDay 30 = .ok (.aload_n 0, 1) ∧ decode cX1_clearLastDay 31 = .ok (.getfield 34, 3) ∧ decode cX1_clearLastDay 34 = .ok (.if_icmp .ge 18, 3) ∧ decode cX1_clearLastDay 37 = .ok (.aload_n 0, 1) ∧ decode cX1_clearLastDay 38 = .ok (.getfield 37, 3) ∧ decode cX1_clearLastDay 41 = .ok (.iload_n 1, 1) ∧ decode cX1_clearLastDay 42 = .ok (.aaload, 1) ∧ decode cX1_clearLastDay 43 = .ok (.invokevirtual 53, 3) ∧ decode cX1_clearLastDay 46 = .ok (.iinc 1 1, 3) ∧ decode cX1_clearLastDay 49 = .ok (.goto (-20), 3) ∧ decode cX1_clearLastDay 52 = .ok (.return_, 1) := by decide +kernel
theorem dX1_clearLastDay_29 : decode cX1_clearLastDay 29 = .ok (.iload_n 1, 1) := bdX1_clearLastDay_29.1
theorem dX1_clearLastDay_30 : decode cX1_clearLastDay 30 = .ok (.aload_n 0, 1) := bdX1_clearLastDay_29.2.1
theorem dX1_clearLastDay_31 : decode cX1_clearLastDay 31 = .ok (.getfield 34, 3) := bdX1_clearLastDay_29.2.2.1
theorem dX1_clearLastDay_34 : decode cX1_clearLastDay 34 = .ok (.if_icmp .ge 18, 3) := bdX1_clearLastDay_29.2.2.2.1
theorem dX1_clearLastDay_37 : decode cX1_clearLastDay 37 = .ok (.aload_n 0, 1) := bdX1_clearLastDay_29.2.2.2.2.1
theorem dX1_clearLastDay_38 : decode cX1_clearLastDay 38 = .ok (.getfield 37, 3) := bdX1_clearLastDay_29.2.2.2.2.2.1
theorem dX1_clearLastDay_41 : decode cX1_clearLastDay 41 = .ok (.iload_n 1, 1) := bdX1_clearLastDay_29.2.2.2.2.2.2.1
theorem dX1_clearLastDay_42 : decode cX1_clearLastDay 42 = .ok (.aaload, 1) := bdX1_clearLastDay_29.2.2.2.2.2.2.2.1
theorem dX1_clearLastDay_43 : decode cX1_clearLastDay 43 = .ok (.invokevirtual 53, 3) := bdX1_clearLastDay_29.2.2.2.2.2.2.2.2.1
theorem dX1_clearLastDay_46 : decode cX1_clearLastDay 46 = .ok (.iinc 1 1, 3) := bdX1_clearLastDay_29.2.2.2.2.2.2.2.2.2.1
theorem dX1_clearLastDay_49 : decode cX1_clearLastDay 49 = .ok (.goto (-20), 3) := bdX1_clearLastDay_29.2.2.2.2.2.2.2.2.2.2.1
theorem dX1_clearLastDay_52 : decode cX1_clearLastDay 52 = .ok (.return_, 1) := bdX1_clearLastDay_29.2.2.2.2.2.2.2.2.2.2.2
theorem bdX1_drawLots_0 : decode cX1_drawLots 0 = .ok (.aload_n 0, 1) ∧ decode cX1_drawLots 1 = .ok (.invokestatic 56, 3) ∧ decode cX1_drawLots 4 = .ok (.istore_n 1, 1) ∧ decode cX1_drawLots 5 = .ok (.aload_n 0, 1) ∧ decode cX1_drawLots 6 = .ok (.iconst 0, 1) ∧ decode cX1_drawLots 7 = .ok (.putfield 60, 3) ∧ decode cX1_drawLots 10 = .ok (.iconst 0, 1) ∧ decode cX1_drawLots 11 = .ok (.istore_n 2, 1) ∧ decode cX1_drawLots 12 = .ok (.iload_n 1, 1) ∧ decode cX1_drawLots 13 = .ok (.ifCond .le 99, 3) ∧ decode cX1_drawLots 16 = .ok (.iload_n 2, 1) ∧ decode cX1_drawLots 17 = .ok (.aload_n 0, 1) ∧ decode cX1_drawLots 18 = .ok (.getfield 34, 3) ∧ decode cX1_drawLots 21 = .ok (.if_icmp .ge 91, 3) ∧ decode cX1_drawLots 24 = .ok (.aload_n 0, 1) ∧ decode cX1_drawLots 25 = .ok (.bipush 75, 2) := by decide +kernel
theorem dX1_drawLots_0 : decode cX1_drawLots 0 = .ok (.aload_n 0, 1) := bdX1_drawLots_0.1
theorem dX1_drawLots_1 : decode cX1_drawLots 1 = .ok (.invokestatic 56, 3) := bdX1_drawLots_0.2.1
theorem dX1_drawLots_4 : decode cX1_drawLots 4 = .ok (.istore_n 1, 1) := bdX1_drawLots_0.2.2.1
theorem dX1_drawLots_5 : decode cX1_drawLots 5 = .ok (.aload_n 0, 1) := bdX1_drawLots_0.2.2.2.1
theorem dX1_drawLots_6 : decode cX1_drawLots 6 = .ok (.iconst 0, 1) := bdX1_drawLots_0.2.2.2.2.1
theorem dX1_drawLots_7 : decode cX1_drawLots 7 = .ok (.putfield 60, 3) := bdX1_drawLots_0.2.2.2.2.2.1
theorem dX1_drawLots_10 : decode cX1_drawLots 10 = .ok (.iconst 0, 1) := bdX1_drawLots_0.2.2.2.2.2.2.1
theorem dX1_drawLots_11 : decode cX1_drawLots 11 = .ok (.istore_n 2, 1) := bdX1_drawLots_0.2.2.2.2.2.2.2.1
theorem dX1_drawLots_12 : decode cX1_drawLots 12 = .ok (.iload_n 1, 1) := bdX1_drawLots_0.2.2.2.2.2.2.2.2.1
theorem dX1_drawLots_13 : decode cX1_drawLots 13 = .ok (.ifCond .le 99, 3) := bdX1_drawLots_0.2.2.2.2.2.2.2.2.2.1
theorem dX1_drawLots_16 : decode cX1_drawLots 16 = .ok (.iload_n 2, 1) := bdX1_drawLots_0.2.2.2.2.2.2.2.2.2.2.1
theorem dX1_drawLots_17 : decode cX1_drawLots 17 = .ok (.aload_n 0, 1) := bdX1_drawLots_0.2.2.2.2.2.2.2.2.2.2.2.1
theorem dX1_drawLots_18 : decode cX1_drawLots 18 = .ok (.getfield 34, 3) := bdX1_drawLots_0.2.2.2.2.2.2.2.2.2.2.2.2.1
theorem dX1_drawLots_21 : decode cX1_drawLots 21 = .ok (.if_icmp .ge 91, 3) := bdX1_drawLots_0.2.2.2.2.2.2.2.2.2.2.2.2.2.1
theorem dX1_drawLots_24 : decode cX1_drawLots 24 = .ok (.aload_n 0, 1) := bdX1_drawLots_0.2.2.2.2.2.2.2.2.2.2.2.2.2.2.1
theorem dX1_drawLots_25 : decode cX1_drawLots 25 = .ok (.bipush 75, 2) := bdX1_drawLots_0.2.2.2.2.2.2.2.2.2.2.2.2.2.2.2
theorem bdX1_drawLots_27 : decode cX1_drawLots 27 = .ok (.aload_n 0, 1) ∧ decode cX1_drawLots 28 = .ok (.getfield 63, 3) ∧ decode cX1_drawLots 31 = .ok (.imul, 1) ∧ decode cX1_drawLots 32 = .ok (.bipush 74, 2) ∧ decode cX1_drawLots 34 = .ok (.iadd, 1) ∧ decode cX1_drawLots 35 = .ok (.ldc 66, 2) ∧ decode cX1_drawLots 37 = .ok (.irem, 1) ∧ decode cX1_drawLots 38 = .ok (.putfield 63, 3) ∧ decode cX1_drawLots 41 = .ok (.aload_n 0, 1) ∧ decode cX1_drawLots 42 = .ok (.aload_n 0, 1) ∧ decode cX1_drawLots 43 = .ok (.getfield 63, 3) ∧ decode cX1_drawLots 46 = .ok (.iload_n 1, 1) ∧ decode cX1_drawLots 47 = .ok (.irem, 1) ∧ decode cX1_drawLots 48 = .ok (.invokestatic 67, 3) ∧ decode cX1_drawLots 51 = .ok (.istore_n 3, 1) ∧ decode cX1_drawLots 52 = .ok (.aload_n 0, 1) := by decide +kernel
theorem dX1_drawLots_27 : decode cX1_drawLots 27 = .ok (.aload_n 0, 1) := bdX1_drawLots_27.1
theorem dX1_drawLots_28 : decode cX1_drawLots 28 = .ok (.getfield 63, 3) := bdX1_drawLots_27.2.1
theorem dX1_drawLots_31 : decode cX1_drawLots 31 = .ok (.imul, 1) := bdX1_drawLots_27.2.2.1
theorem dX1_drawLots_32 : decode cX1_drawLots 32 = .ok (.bipush 74, 2) := bdX1_drawLots_27.2.2.2.1
theorem dX1_drawLots_34 : decode cX1_drawLots 34 = .ok (.iadd, 1) := bdX1_drawLots_27.2.2.2.2.1
theorem dX1_drawLots_35 : decode cX1_drawLots 35 = .ok (.ldc 66, 2) := bdX1_drawLots_27.2.2.2.2.2.1
theorem dX1_drawLots_37 : decode cX1_drawLots 37 = .ok (.irem, 1) := bdX1_drawLots_27.2.2.2.2.2.2.1
theorem dX1_drawLots_38 : decode cX1_drawLots 38 = .ok (.putfield 63, 3) := bdX1_drawLots_27.2.2.2.2.2.2.2.1
theorem dX1_drawLots_41 : decode cX1_drawLots 41 = .ok (.aload_n 0, 1) := bdX1_drawLots_27.2.2.2.2.2.2.2.2.1
theorem dX1_drawLots_42 : decode cX1_drawLots 42 = .ok (.aload_n 0, 1) := bdX1_drawLots_27.2.2.2.2.2.2.2.2.2.1
theorem dX1_drawLots_43 : decode cX1_drawLots 43 = .ok (.getfield 63, 3) := bdX1_drawLots_27.2.2.2.2.2.2.2.2.2.2.1
theorem dX1_drawLots_46 : decode cX1_drawLots 46 = .ok (.iload_n 1, 1) := bdX1_drawLots_27.2.2.2.2.2.2.2.2.2.2.2.1
theorem dX1_drawLots_47 : decode cX1_drawLots 47 = .ok (.irem, 1) := bdX1_drawLots_27.2.2.2.2.2.2.2.2.2.2.2.2.1
theorem dX1_drawLots_48 : decode cX1_drawLots 48 = .ok (.invokestatic 67, 3) := bdX1_drawLots_27.2.2.2.2.2.2.2.2.2.2.2.2.2.1
theorem dX1_drawLots_51 : decode cX1_drawLots 51 = .ok (.istore_n 3, 1) := bdX1_drawLots_27.2.2.2.2.2.2.2.2.2.2.2.2.2.2.1
theorem dX1_drawLots_52 : decode cX1_drawLots 52 = .ok (.aload_n 0, 1) := bdX1_drawLots_27.2.2.2.2.2.2.2.2.2.2.2.2.2.2.2
theorem bdX1_drawLots_53 : decode cX1_drawLots 53 = .ok (.iload_n 3, 1) ∧ decode cX1_drawLots 54 = .ok (.invokevirtual 71, 3) ∧ decode cX1_drawLots 57 = .ok (.ifCond .ne 4, 3) ∧ decode cX1_drawLots 60 = .ok (.return_, 1) ∧ decode cX1_drawLots 61 = .ok (.iload_n 1, 1) ∧ decode cX1_drawLots 62 = .ok (.aload_n 0, 1) ∧ decode cX1_drawLots 63 = .ok (.getfield 75, 3) ∧ decode cX1_drawLots 66 = .ok (.iload_n 3, 1) ∧ decode cX1_drawLots 67 = .ok (.iaload, 1) ∧ decode cX1_drawLots 68 = .ok (.isub, 1) ∧ decode cX1_drawLots 69 = .ok (.istore_n 1, 1) ∧ decode cX1_drawLots 70 = .ok (.aload_n 0, 1) ∧ decode cX1_drawLots 71 = .ok (.getfield 75, 3) ∧ decode cX1_drawLots 74 = .ok (.iload_n 3, 1) ∧ decode cX1_drawLots 75 = .ok (.iconst 0, 1) ∧ decode cX1_drawLots 76 = .ok (.iastore, 1) := by decide +kernel
theorem dX1_drawLots_53 : decode cX1_drawLots 53 = .ok (.iload_n 3, 1) := bdX1_drawLots_53.1
theorem dX1_drawLots_54 : decode cX1_drawLots 54 = .ok (.invokevirtual 71, 3) := bdX1_drawLots_53.2.1
theorem dX1_drawLots_57 : decode cX1_drawLots 57 = .ok (.ifCond .ne 4, 3) := bdX1_drawLots_53.2.2.1
theorem dX1_drawLots_60 : decode cX1_drawLots 60 = .ok (.return_, 1) := bdX1_drawLots_53.2.2.2.1
theorem dX1_drawLots_61 : decode cX1_drawLots 61 = .ok (.iload_n 1, 1) := bdX1_drawLots_53.2.2.2.2.1
theorem dX1_drawLots_62 : decode cX1_drawLots 62 = .ok (.aload_n 0, 1) := bdX1_drawLots_53.2.2.2.2.2.1
theorem dX1_drawLots_63 : decode cX1_drawLots 63 = .ok (.getfield 75, 3) := bdX1_drawLots_53.2.2.2.2.2.2.1
theorem dX1_drawLots_66 : decode cX1_drawLots 66 = .ok (.iload_n 3, 1) := bdX1_drawLots_53.2.2.2.2.2.2.2.1
theorem dX1_drawLots_67 : decode cX1_drawLots 67 = .ok (.iaload, 1) := bdX1_drawLots_53.2.2.2.2.2.2.2.2.1
theorem dX1_drawLots_68 : decode cX1_drawLots 68 = .ok (.isub, 1) := bdX1_drawLots_53.2.2.2.2.2.2.2.2.2.1
theorem dX1_drawLots_69 : decode cX1_drawLots 69 = .ok (.istore_n 1, 1) := bdX1_drawLots_53.2.2.2.2.2.2.2.2.2.2.1
theorem dX1_drawLots_70 : decode cX1_drawLots 70 = .ok (.aload_n 0, 1) := bdX1_drawLots_53.2.2.2.2.2.2.2.2.2.2.2.1
theorem dX1_drawLots_71 : decode cX1_drawLots 71 = .ok (.getfield 75, 3) := bdX1_drawLots_53.2.2.2.2.2.2.2.2.2.2.2.2.1
theorem dX1_drawLots_74 : decode cX1_drawLots 74 = .ok (.iload_n 3, 1) := bdX1_drawLots_53.2.2.2.2.2.2.2.2.2.2.2.2.2.1
theorem dX1_drawLots_75 : decode cX1_drawLots 75 = .ok (.iconst 0, 1) := bdX1_drawLots_53.2.2.2.2.2.2.2.2.2.2.2.2.2.2.1
theorem dX1_drawLots_76 : decode cX1_drawLots 76 = .ok (.iastore, 1) := bdX1_drawLots_53.2.2.2.2.2.2.2.2.2.2.2.2.2.2.2
theorem bdX1_drawLots_77 : decode cX1_drawLots 77 = .ok (.aload_n 0, 1) ∧ decode cX1_drawLots 78 = .ok (.getfield 78, 3) ∧ decode cX1_drawLots 81 = .ok (.iload_n 2, 1) ∧ decode cX1_drawLots 82 = .ok (.iload_n 3, 1) ∧ decode cX1_drawLots 83 = .ok (.iastore, 1) ∧ decode cX1_drawLots 84 = .ok (.aload_n 0, 1) ∧ decode cX1_drawLots 85 = .ok (.iload_n 2, 1) ∧ decode cX1_drawLots 86 = .ok (.iconst 1, 1) ∧ decode cX1_drawLots 87 = .ok (.iadd, 1) ∧ decode cX1_drawLots 88 = .ok (.putfield 60, 3) ∧ decode cX1_drawLots 91 = .ok (.aload_n 0, 1) ∧ decode cX1_drawLots 92 = .ok (.getfield 37, 3) ∧ decode cX1_drawLots 95 = .ok (.iload_n 3, 1) ∧ decode cX1_drawLots 96 = .ok (.aaload, 1) ∧ decode cX1_drawLots 97 = .ok (.iload_n 2, 1) ∧ decode cX1_drawLots 98 = .ok (.putfield 81, 3) := by decide +kernel
theorem dX1_drawLots_77 : decode cX1_drawLots 77 = .ok (.aload_n 0, 1) := bdX1_drawLots_77.1
theorem dX1_drawLots_78 : decode cX1_drawLots 78 = .ok (.getfield 78, 3) := bdX1_drawLots_77.2.1
theorem dX1_drawLots_81 : decode cX1_drawLots 81 = .ok (.iload_n 2, 1) := bdX1_drawLots_77.2.2.1
theorem dX1_drawLots_82 : decode cX1_drawLots 82 = .ok (.iload_n 3, 1) := bdX1_drawLots_77.2.2.2.1
theorem dX1_drawLots_83 : decode cX1_drawLots 83 = .ok (.iastore, 1) := bdX1_drawLots_77.2.2.2.2.1
theorem dX1_drawLots_84 : decode cX1_drawLots 84 = .ok (.aload_n 0, 1) := bdX1_drawLots_77.2.2.2.2.2.1
theorem dX1_drawLots_85 : decode cX1_drawLots 85 = .ok (.iload_n 2, 1) := bdX1_drawLots_77.2.2.2.2.2.2.1
theorem dX1_drawLots_86 : decode cX1_drawLots 86 = .ok (.iconst 1, 1) := bdX1_drawLots_77.2.2.2.2.2.2.2.1
theorem dX1_drawLots_87 : decode cX1_drawLots 87 = .ok (.iadd, 1) := bdX1_drawLots_77.2.2.2.2.2.2.2.2.1
theorem dX1_drawLots_88 : decode cX1_drawLots 88 = .ok (.putfield 60, 3) := bdX1_drawLots_77.2.2.2.2.2.2.2.2.2.1
theorem dX1_drawLots_91 : decode cX1_drawLots 91 = .ok (.aload_n 0, 1) := bdX1_drawLots_77.2.2.2.2.2.2.2.2.2.2.1
theorem dX1_drawLots_92 : decode cX1_drawLots 92 = .ok (.getfield 37, 3) := bdX1_drawLots_77.2.2.2.2.2.2.2.2.2.2.2.1
theorem dX1_drawLots_95 : decode cX1_drawLots 95 = .ok (.iload_n 3, 1) := bdX1_drawLots_77.2.2.2.2.2.2.2.2.2.2.2.2.1
theorem dX1_drawLots_96 : decode cX1_drawLots 96 = .ok (.aaload, 1) := bdX1_drawLots_77.2.2.2.2.2.2.2.2.2.2.2.2.2.1
theorem dX1_drawLots_97 : decode cX1_drawLots 97 = .ok (.iload_n 2, 1) := bdX1_drawLots_77.2.2.2.2.2.2.2.2.2.2.2.2.2.2.1
theorem dX1_drawLots_98 : decode cX1_drawLots 98 = .ok (.putfield 81, 3) := bdX1_drawLots_77.2.2.2.2.2.2.2.2.2.2.2.2.2.2.2
theorem bdX1_drawLots_101 : decode cX1_drawLots 101 = .ok (.aload_n 0, 1) ∧ decode cX1_drawLots 102 = .ok (.iload_n 3, 1) ∧ decode cX1_drawLots 103 = .ok (.invokestatic 84, 3) ∧ decode cX1_drawLots 106 = .ok (.iinc 2 1, 3) ∧ decode cX1_drawLots 109 = .ok (.goto (-97), 3) ∧ decode cX1_drawLots 112 = .ok (.return_, 1) := by decide +kernel
theorem dX1_drawLots_101 : decode cX1_drawLots 101 = .ok (.aload_n 0, 1) := bdX1_drawLots_101.1
theorem dX1_drawLots_102 : decode cX1_drawLots 102 = .ok (.iload_n 3, 1) := bdX1_drawLots_101.2.1
theorem dX1_drawLots_103 : decode cX1_drawLots 103 = .ok (.invokestatic 84, 3) := bdX1_drawLots_101.2.2.1
theorem dX1_drawLots_106 : decode cX1_drawLots 106 = .ok (.iinc 2 1, 3) := bdX1_drawLots_101.2.2.2.1
theorem dX1_drawLots_109 : decode cX1_drawLots 109 = .ok (.goto (-97), 3) := bdX1_drawLots_101.2.2.2.2.1
theorem dX1_drawLots_112 : decode cX1_drawLots 112 = .ok (.return_, 1) := bdX1_drawLots_101.2.2.2.2.2
theorem bdX1_handOutTickets_0 : decode cX1_handOutTickets 0 = .ok (.iconst 0, 1) ∧ decode cX1_handOutTickets 1 = .ok (.istore_n 1, 1) ∧ decode cX1_handOutTickets 2 = .ok (.iconst 0, 1) ∧ decode cX1_handOutTickets 3 = .ok (.istore_n 2, 1) ∧ decode cX1_handOutTickets 4 = .ok (.iload_n 2, 1) ∧ decode cX1_handOutTickets 5 = .ok (.aload_n 0, 1) ∧ decode cX1_handOutTickets 6 = .ok (.getfield 34, 3) ∧ decode cX1_handOutTickets 9 = .ok (.if_icmp .ge 82, 3) ∧ decode cX1_handOutTickets 12 = .ok (.aload_n 0, 1) ∧ decode cX1_handOutTickets 13 = .ok (.getfield 37, 3) ∧ decode cX1_handOutTickets 16 = .ok (.iload_n 2, 1) ∧ decode cX1_handOutTickets 17 = .ok (.aaload, 1) ∧ decode cX1_handOutTickets 18 = .ok (.astore_n 3, 1) ∧ decode cX1_handOutTickets 19 = .ok (.aload_n 3, 1) ∧ decode cX1_handOutTickets 20 = .ok (.aload_n 3, 1) ∧ decode cX1_handOutTickets 21 = .ok (.aload_n 0, 1) := by decide +kernel
theorem dX1_handOutTickets_0 : decode cX1_handOutTickets 0 = .ok (.iconst 0, 1) := bdX1_handOutTickets_0.1
theorem dX1_handOutTickets_1 : decode cX1_handOutTickets 1 = .ok (.istore_n 1, 1) := bdX1_handOutTickets_0.2.1
theorem dX1_handOutTickets_2 : decode cX1_handOutTickets 2 = .ok (.iconst 0, 1) := bdX1_handOutTickets_0.2.2.1
theorem dX1_handOutTickets_3 : decode cX1_handOutTickets 3 = .ok (.istore_n 2, 1) := bdX1_handOutTickets_0.2.2.2.1
theorem dX1_handOutTickets_4 : decode cX1_handOutTickets 4 = .ok (.iload_n 2, 1) := bdX1_handOutTickets_0.2.2.2.2.1
theorem dX1_handOutTickets_5 : decode cX1_handOutTickets 5 = .ok (.aload_n 0, 1) := bdX1_handOutTickets_0.2.2.2.2.2.1
theorem dX1_handOutTickets_6 : decode cX1_handOutTickets 6 = .ok (.getfield 34, 3) := bdX1_handOutTickets_0.2.2.2.2.2.2.1
theorem dX1_handOutTickets_9 : decode cX1_handOutTickets 9 = .ok (.if_icmp .ge 82, 3) := bdX1_handOutTickets_0.2.2.2.2.2.2.2.1
theorem dX1_handOutTickets_12 : decode cX1_handOutTickets 12 = .ok (.aload_n 0, 1) := bdX1_handOutTickets_0.2.2.2.2.2.2.2.2.1
theorem dX1_handOutTickets_13 : decode cX1_handOutTickets 13 = .ok (.getfield 37, 3) := bdX1_handOutTickets_0.2.2.2.2.2.2.2.2.2.1
theorem dX1_handOutTickets_16 : decode cX1_handOutTickets 16 = .ok (.iload_n 2, 1) := bdX1_handOutTickets_0.2.2.2.2.2.2.2.2.2.2.1
theorem dX1_handOutTickets_17 : decode cX1_handOutTickets 17 = .ok (.aaload, 1) := bdX1_handOutTickets_0.2.2.2.2.2.2.2.2.2.2.2.1
theorem dX1_handOutTickets_18 : decode cX1_handOutTickets 18 = .ok (.astore_n 3, 1) := bdX1_handOutTickets_0.2.2.2.2.2.2.2.2.2.2.2.2.1
theorem dX1_handOutTickets_19 : decode cX1_handOutTickets 19 = .ok (.aload_n 3, 1) := bdX1_handOutTickets_0.2.2.2.2.2.2.2.2.2.2.2.2.2.1
theorem dX1_handOutTickets_20 : decode cX1_handOutTickets 20 = .ok (.aload_n 3, 1) := bdX1_handOutTickets_0.2.2.2.2.2.2.2.2.2.2.2.2.2.2.1
theorem dX1_handOutTickets_21 : decode cX1_handOutTickets 21 = .ok (.aload_n 0, 1) := bdX1_handOutTickets_0.2.2.2.2.2.2.2.2.2.2.2.2.2.2.2
theorem bdX1_handOutTickets_22 : decode cX1_handOutTickets 22 = .ok (.getfield 21, 3) ∧ decode cX1_handOutTickets 25 = .ok (.invokevirtual 88, 3) ∧ decode cX1_handOutTickets 28 = .ok (.putfield 92, 3) ∧ decode cX1_handOutTickets 31 = .ok (.aload_n 3, 1) ∧ decode cX1_handOutTickets 32 = .ok (.getfield 92, 3) ∧ decode cX1_handOutTickets 35 = .ok (.iconst 4, 1) ∧ decode cX1_handOutTickets 36 = .ok (.if_icmp .ne 7, 3) ∧ decode cX1_handOutTickets 39 = .ok (.iconst 1, 1) ∧ decode cX1_handOutTickets 40 = .ok (.goto 4, 3) ∧ decode cX1_handOutTickets 43 = .ok (.iconst 0, 1) ∧ decode cX1_handOutTickets 44 = .ok (.istore 4, 2) ∧ decode cX1_handOutTickets 46 = .ok (.aload_n 0, 1) ∧ decode cX1_handOutTickets 47 = .ok (.getfield 75, 3) ∧ decode cX1_handOutTickets 50 = .ok (.iload_n 2, 1) ∧ decode cX1_handOutTickets 51 = .ok (.iload 4, 2) ∧ decode cX1_handOutTickets 53 = .ok (.ifCond .eq 21, 3) := by decide +kernel
theorem dX1_handOutTickets_22 : decode cX1_handOutTickets 22 = .ok (.getfield 21, 3) := bdX1_handOutTickets_22.1
theorem dX1_handOutTickets_25 : decode cX1_handOutTickets 25 = .ok (.invokevirtual 88, 3) := bdX1_handOutTickets_22.2.1
theorem dX1_handOutTickets_28 : decode cX1_handOutTickets 28 = .ok (.putfield 92, 3) := bdX1_handOutTickets_22.2.2.1
theorem dX1_handOutTickets_31 : decode cX1_handOutTickets 31 = .ok (.aload_n 3, 1) := bdX1_handOutTickets_22.2.2.2.1
theorem dX1_handOutTickets_32 : decode cX1_handOutTickets 32 = .ok (.getfield 92, 3) := bdX1_handOutTickets_22.2.2.2.2.1
theorem dX1_handOutTickets_35 : decode cX1_handOutTickets 35 = .ok (.iconst 4, 1) := bdX1_handOutTickets_22.2.2.2.2.2.1
theorem dX1_handOutTickets_36 : decode cX1_handOutTickets 36 = .ok (.if_icmp .ne 7, 3) := bdX1_handOutTickets_22.2.2.2.2.2.2.1
theorem dX1_handOutTickets_39 : decode cX1_handOutTickets 39 = .ok (.iconst 1, 1) := bdX1_handOutTickets_22.2.2.2.2.2.2.2.1
theorem dX1_handOutTickets_40 : decode cX1_handOutTickets 40 = .ok (.goto 4, 3) := bdX1_handOutTickets_22.2.2.2.2.2.2.2.2.1
theorem dX1_handOutTickets_43 : decode cX1_handOutTickets 43 = .ok (.iconst 0, 1) := bdX1_handOutTickets_22.2.2.2.2.2.2.2.2.2.1
theorem dX1_handOutTickets_44 : decode cX1_handOutTickets 44 = .ok (.istore 4, 2) := bdX1_handOutTickets_22.2.2.2.2.2.2.2.2.2.2.1
theorem dX1_handOutTickets_46 : decode cX1_handOutTickets 46 = .ok (.aload_n 0, 1) := bdX1_handOutTickets_22.2.2.2.2.2.2.2.2.2.2.2.1
theorem dX1_handOutTickets_47 : decode cX1_handOutTickets 47 = .ok (.getfield 75, 3) := bdX1_handOutTickets_22.2.2.2.2.2.2.2.2.2.2.2.2.1
theorem dX1_handOutTickets_50 : decode cX1_handOutTickets 50 = .ok (.iload_n 2, 1) := bdX1_handOutTickets_22.2.2.2.2.2.2.2.2.2.2.2.2.2.1
theorem dX1_handOutTickets_51 : decode cX1_handOutTickets 51 = .ok (.iload 4, 2) := bdX1_handOutTickets_22.2.2.2.2.2.2.2.2.2.2.2.2.2.2.1
theorem dX1_handOutTickets_53 : decode cX1_handOutTickets 53 = .ok (.ifCond .eq 21, 3) := bdX1_handOutTickets_22.2.2.2.2.2.2.2.2.2.2.2.2.2.2.2
theorem bdX1_handOutTickets_56 : decode cX1_handOutTickets 56 = .ok (.iconst 1, 1) ∧ decode cX1_handOutTickets 57 = .ok (.aload_n 3, 1) ∧ decode cX1_handOutTickets 58 = .ok (.getfield 95, 3) ∧ decode cX1_handOutTickets 61 = .ok (.iadd, 1) ∧ decode cX1_handOutTickets 62 = .ok (.aload_n 0, 1) ∧ decode cX1_handOutTickets 63 = .ok (.getfield 9, 3) ∧ decode cX1_handOutTickets 66 = .ok (.iconst 0, 1) ∧ decode cX1_handOutTickets 67 = .ok (.iaload, 1) ∧ decode cX1_handOutTickets 68 = .ok (.invokestatic 98, 3) ∧ decode cX1_handOutTickets 71 = .ok (.goto 4, 3) ∧ decode cX1_handOutTickets 74 = .ok (.iconst 0, 1) ∧ decode cX1_handOutTickets 75 = .ok (.iastore, 1) ∧ decode cX1_handOutTickets 76 = .ok (.iload_n 1, 1) ∧ decode cX1_handOutTickets 77 = .ok (.aload_n 0, 1) ∧ decode cX1_handOutTickets 78 = .ok (.getfield 75, 3) ∧ decode cX1_handOutTickets 81 = .ok (.iload_n 2, 1) := by decide +kernel
theorem dX1_handOutTickets_56 : decode cX1_handOutTickets 56 = .ok (.iconst 1, 1) := bdX1_handOutTickets_56.1
theorem dX1_handOutTickets_57 : decode cX1_handOutTickets 57 = .ok (.aload_n 3, 1) := bdX1_handOutTickets_56.2.1
theorem dX1_handOutTickets_58 : decode cX1_handOutTickets 58 = .ok (.getfield 95, 3) := bdX1_handOutTickets_56.2.2.1
theorem dX1_handOutTickets_61 : decode cX1_handOutTickets 61 = .ok (.iadd, 1) := bdX1_handOutTickets_56.2.2.2.1
theorem dX1_handOutTickets_62 : decode cX1_handOutTickets 62 = .ok (.aload_n 0, 1) := bdX1_handOutTickets_56.2.2.2.2.1
theorem dX1_handOutTickets_63 : decode cX1_handOutTickets 63 = .ok (.getfield 9, 3) := bdX1_handOutTickets_56.2.2.2.2.2.1
theorem dX1_handOutTickets_66 : decode cX1_handOutTickets 66 = .ok (.iconst 0, 1) := bdX1_handOutTickets_56.2.2.2.2.2.2.1
theorem dX1_handOutTickets_67 : decode cX1_handOutTickets 67 = .ok (.iaload, 1) := bdX1_handOutTickets_56.2.2.2.2.2.2.2.1
theorem dX1_handOutTickets_68 : decode cX1_handOutTickets 68 = .ok (.invokestatic 98, 3) := bdX1_handOutTickets_56.2.2.2.2.2.2.2.2.1
theorem dX1_handOutTickets_71 : decode cX1_handOutTickets 71 = .ok (.goto 4, 3) := bdX1_handOutTickets_56.2.2.2.2.2.2.2.2.2.1
theorem dX1_handOutTickets_74 : decode cX1_handOutTickets 74 = .ok (.iconst 0, 1) := bdX1_handOutTickets_56.2.2.2.2.2.2.2.2.2.2.1
theorem dX1_handOutTickets_75 : decode cX1_handOutTickets 75 = .ok (.iastore, 1) := bdX1_handOutTickets_56.2.2.2.2.2.2.2.2.2.2.2.1
theorem dX1_handOutTickets_76 : decode cX1_handOutTickets 76 = .ok (.iload_n 1, 1) := bdX1_handOutTickets_56.2.2.2.2.2.2.2.2.2.2.2.2.1
theorem dX1_handOutTickets_77 : decode cX1_handOutTickets 77 = .ok (.aload_n 0, 1) := bdX1_handOutTickets_56.2.2.2.2.2.2.2.2.2.2.2.2.2.1
theorem dX1_handOutTickets_78 : decode cX1_handOutTickets 78 = .ok (.getfield 75, 3) := bdX1_handOutTickets_56.2.2.2.2.2.2.2.2.2.2.2.2.2.2.1
theorem dX1_handOutTickets_81 : decode cX1_handOutTickets 81 = .ok (.iload_n 2, 1) := bdX1_handOutTickets_56.2.2.2.2.2.2.2.2.2.2.2.2.2.2.2
theorem bdX1_handOutTickets_82 : decode cX1_handOutTickets 82 = .ok (.iaload, 1) ∧ decode cX1_handOutTickets 83 = .ok (.iadd, 1) ∧ decode cX1_handOutTickets 84 = .ok (.istore_n 1, 1) ∧ decode cX1_handOutTickets 85 = .ok (.iinc 2 1, 3) ∧ decode cX1_handOutTickets 88 = .ok (.goto (-84), 3) ∧ decode cX1_handOutTickets 91 = .ok (.iload_n 1, 1) ∧ decode cX1_handOutTickets 92 = .ok (.ireturn, 1) := by decide +kernel
theorem dX1_handOutTickets_82 : decode cX1_handOutTickets 82 = .ok (.iaload, 1) := bdX1_handOutTickets_82.1
theorem dX1_handOutTickets_83 : decode cX1_handOutTickets 83 = .ok (.iadd, 1) := bdX1_handOutTickets_82.2.1
theorem dX1_handOutTickets_84 : decode cX1_handOutTickets 84 = .ok (.istore_n 1, 1) := bdX1_handOutTickets_82.2.2.1
theorem dX1_handOutTickets_85 : decode cX1_handOutTickets 85 = .ok (.iinc 2 1, 3) := bdX1_handOutTickets_82.2.2.2.1
theorem dX1_handOutTickets_88 : decode cX1_handOutTickets 88 = .ok (.goto (-84), 3) := bdX1_handOutTickets_82.2.2.2.2.1
theorem dX1_handOutTickets_91 : decode cX1_handOutTickets 91 = .ok (.iload_n 1, 1) := bdX1_handOutTickets_82.2.2.2.2.2.1
theorem dX1_handOutTickets_92 : decode cX1_handOutTickets 92 = .ok (.ireturn, 1) := bdX1_handOutTickets_82.2.2.2.2.2.2
theorem bdX1_holderOfTicket_0 : decode cX1_holderOfTicket 0 = .ok (.iconst 0, 1) ∧ decode cX1_holderOfTicket 1 = .ok (.istore_n 2, 1) ∧ decode cX1_holderOfTicket 2 = .ok (.iconst 0, 1) ∧ decode cX1_holderOfTicket 3 = .ok (.istore_n 3, 1) ∧ decode cX1_holderOfTicket 4 = .ok (.iload_n 3, 1) ∧ decode cX1_holderOfTicket 5 = .ok (.aload_n 0, 1) ∧ decode cX1_holderOfTicket 6 = .ok (.getfield 34, 3) ∧ decode cX1_holderOfTicket 9 = .ok (.if_icmp .ge 25, 3) ∧ decode cX1_holderOfTicket 12 = .ok (.iload_n 2, 1) ∧ decode cX1_holderOfTicket 13 = .ok (.aload_n 0, 1) ∧ decode cX1_holderOfTicket 14 = .ok (.getfield 75, 3) ∧ decode cX1_holderOfTicket 17 = .ok (.iload_n 3, 1) ∧ decode cX1_holderOfTicket 18 = .ok (.iaload, 1) ∧ decode cX1_holderOfTicket 19 = .ok (.iadd, 1) ∧ decode cX1_holderOfTicket 20 = .ok (.istore_n 2, 1) ∧ decode cX1_holderOfTicket 21 = .ok (.iload_n 1, 1) := by decide +kernel
theorem dX1_holderOfTicket_0 : decode cX1_holderOfTicket 0 = .ok (.iconst 0, 1) := bdX1_holderOfTicket_0.1
theorem dX1_holderOfTicket_1 : decode cX1_holderOfTicket 1 = .ok (.istore_n 2, 1) := bdX1_holderOfTicket_0.2.1
theorem dX1_holderOfTicket_2 : decode cX1_holderOfTicket 2 = .ok (.iconst 0, 1) := bdX1_holderOfTicket_0.2.2.1
theorem dX1_holderOfTicket_3 : decode cX1_holderOfTicket 3 = .ok (.istore_n 3, 1) := bdX1_holderOfTicket_0.2.2.2.1
theorem dX1_holderOfTicket_4 : decode cX1_holderOfTicket 4 = .ok (.iload_n 3, 1) := bdX1_holderOfTicket_0.2.2.2.2.1
theorem dX1_holderOfTicket_5 : decode cX1_holderOfTicket 5 = .ok (.aload_n 0, 1) := bdX1_holderOfTicket_0.2.2.2.2.2.1
theorem dX1_holderOfTicket_6 : decode cX1_holderOfTicket 6 = .ok (.getfield 34, 3) := bdX1_holderOfTicket_0.2.2.2.2.2.2.1
theorem dX1_holderOfTicket_9 : decode cX1_holderOfTicket 9 = .ok (.if_icmp .ge 25, 3) := bdX1_holderOfTicket_0.2.2.2.2.2.2.2.1
theorem dX1_holderOfTicket_12 : decode cX1_holderOfTicket 12 = .ok (.iload_n 2, 1) := bdX1_holderOfTicket_0.2.2.2.2.2.2.2.2.1
theorem dX1_holderOfTicket_13 : decode cX1_holderOfTicket 13 = .ok (.aload_n 0, 1) := bdX1_holderOfTicket_0.2.2.2.2.2.2.2.2.2.1
theorem dX1_holderOfTicket_14 : decode cX1_holderOfTicket 14 = .ok (.getfield 75, 3) := bdX1_holderOfTicket_0.2.2.2.2.2.2.2.2.2.2.1
theorem dX1_holderOfTicket_17 : decode cX1_holderOfTicket 17 = .ok (.iload_n 3, 1) := bdX1_holderOfTicket_0.2.2.2.2.2.2.2.2.2.2.2.1
theorem dX1_holderOfTicket_18 : decode cX1_holderOfTicket 18 = .ok (.iaload, 1) := bdX1_holderOfTicket_0.2.2.2.2.2.2.2.2.2.2.2.2.1
theorem dX1_holderOfTicket_19 : decode cX1_holderOfTicket 19 = .ok (.iadd, 1) := bdX1_holderOfTicket_0.2.2.2.2.2.2.2.2.2.2.2.2.2.1
theorem dX1_holderOfTicket_20 : decode cX1_holderOfTicket 20 = .ok (.istore_n 2, 1) := bdX1_holderOfTicket_0.2.2.2.2.2.2.2.2.2.2.2.2.2.2.1
theorem dX1_holderOfTicket_21 : decode cX1_holderOfTicket 21 = .ok (.iload_n 1, 1) := bdX1_holderOfTicket_0.2.2.2.2.2.2.2.2.2.2.2.2.2.2.2
theorem bdX1_holderOfTicket_22 : decode cX1_holderOfTicket 22 = .ok (.iload_n 2, 1) ∧ decode cX1_holderOfTicket 23 = .ok (.if_icmp .ge 5, 3) ∧ decode cX1_holderOfTicket 26 = .ok (.iload_n 3, 1) ∧ decode cX1_holderOfTicket 27 = .ok (.ireturn, 1) ∧ decode cX1_holderOfTicket 28 = .ok (.iinc 3 1, 3) ∧ decode cX1_holderOfTicket 31 = .ok (.goto (-27), 3) ∧ decode cX1_holderOfTicket 34 = .ok (.bipush (-6), 2) ∧ decode cX1_holderOfTicket 36 = .ok (.ireturn, 1) := by decide +kernel
theorem dX1_holderOfTicket_22 : decode cX1_holderOfTicket 22 = .ok (.iload_n 2, 1) := bdX1_holderOfTicket_22.1
theorem dX1_holderOfTicket_23 : decode cX1_holderOfTicket 23 = .ok (.if_icmp .ge 5, 3) := bdX1_holderOfTicket_22.2.1
theorem dX1_holderOfTicket_26 : decode cX1_holderOfTicket 26 = .ok (.iload_n 3, 1) := bdX1_holderOfTicket_22.2.2.1
theorem dX1_holderOfTicket_27 : decode cX1_holderOfTicket 27 = .ok (.ireturn, 1) := bdX1_holderOfTicket_22.2.2.2.1
theorem dX1_holderOfTicket_28 : decode cX1_holderOfTicket 28 = .ok (.iinc 3 1, 3) := bdX1_holderOfTicket_22.2.2.2.2.1
theorem dX1_holderOfTicket_31 : decode cX1_holderOfTicket 31 = .ok (.goto (-27), 3) := bdX1_holderOfTicket_22.2.2.2.2.2.1
theorem dX1_holderOfTicket_34 : decode cX1_holderOfTicket 34 = .ok (.bipush (-6), 2) := bdX1_holderOfTicket_22.2.2.2.2.2.2.1
theorem dX1_holderOfTicket_36 : decode cX1_holderOfTicket 36 = .ok (.ireturn, 1) := bdX1_holderOfTicket_22.2.2.2.2.2.2.2
theorem bdX1_choosePitch_0 : decode cX1_choosePitch 0 = .ok (.aload_n 0, 1) ∧ decode cX1_choosePitch 1 = .ok (.iload_n 1, 1) ∧ decode cX1_choosePitch 2 = .ok (.invokevirtual 71, 3) ∧ decode cX1_choosePitch 5 = .ok (.ifCond .ne 4, 3) ∧ decode cX1_choosePitch 8 = .ok (.return_, 1) ∧ decode cX1_choosePitch 9 = .ok (.aload_n 0, 1) ∧ decode cX1_choosePitch 10 = .ok (.getfield 37, 3) ∧ decode cX1_choosePitch 13 = .ok (.iload_n 1, 1) ∧ decode cX1_choosePitch 14 = .ok (.aaload, 1) ∧ decode cX1_choosePitch 15 = .ok (.astore_n 2, 1) ∧ decode cX1_choosePitch 16 = .ok (.iconst 0, 1) ∧ decode cX1_choosePitch 17 = .ok (.istore_n 3, 1) ∧ decode cX1_choosePitch 18 = .ok (.iload_n 3, 1) ∧ decode cX1_choosePitch 19 = .ok (.aload_n 2, 1) ∧ decode cX1_choosePitch 20 = .ok (.getfield 104, 3) ∧ decode cX1_choosePitch 23 = .ok (.if_icmp .ge 63, 3) := by decide +kernel
theorem dX1_choosePitch_0 : decode cX1_choosePitch 0 = .ok (.aload_n 0, 1) := bdX1_choosePitch_0.1
theorem dX1_choosePitch_1 : decode cX1_choosePitch 1 = .ok (.iload_n 1, 1) := bdX1_choosePitch_0.2.1
theorem dX1_choosePitch_2 : decode cX1_choosePitch 2 = .ok (.invokevirtual 71, 3) := bdX1_choosePitch_0.2.2.1
theorem dX1_choosePitch_5 : decode cX1_choosePitch 5 = .ok (.ifCond .ne 4, 3) := bdX1_choosePitch_0.2.2.2.1
theorem dX1_choosePitch_8 : decode cX1_choosePitch 8 = .ok (.return_, 1) := bdX1_choosePitch_0.2.2.2.2.1
theorem dX1_choosePitch_9 : decode cX1_choosePitch 9 = .ok (.aload_n 0, 1) := bdX1_choosePitch_0.2.2.2.2.2.1
theorem dX1_choosePitch_10 : decode cX1_choosePitch 10 = .ok (.getfield 37, 3) := bdX1_choosePitch_0.2.2.2.2.2.2.1
theorem dX1_choosePitch_13 : decode cX1_choosePitch 13 = .ok (.iload_n 1, 1) := bdX1_choosePitch_0.2.2.2.2.2.2.2.1
theorem dX1_choosePitch_14 : decode cX1_choosePitch 14 = .ok (.aaload, 1) := bdX1_choosePitch_0.2.2.2.2.2.2.2.2.1
theorem dX1_choosePitch_15 : decode cX1_choosePitch 15 = .ok (.astore_n 2, 1) := bdX1_choosePitch_0.2.2.2.2.2.2.2.2.2.1
theorem dX1_choosePitch_16 : decode cX1_choosePitch 16 = .ok (.iconst 0, 1) := bdX1_choosePitch_0.2.2.2.2.2.2.2.2.2.2.1
theorem dX1_choosePitch_17 : decode cX1_choosePitch 17 = .ok (.istore_n 3, 1) := bdX1_choosePitch_0.2.2.2.2.2.2.2.2.2.2.2.1
theorem dX1_choosePitch_18 : decode cX1_choosePitch 18 = .ok (.iload_n 3, 1) := bdX1_choosePitch_0.2.2.2.2.2.2.2.2.2.2.2.2.1
theorem dX1_choosePitch_19 : decode cX1_choosePitch 19 = .ok (.aload_n 2, 1) := bdX1_choosePitch_0.2.2.2.2.2.2.2.2.2.2.2.2.2.1
theorem dX1_choosePitch_20 : decode cX1_choosePitch 20 = .ok (.getfield 104, 3) := bdX1_choosePitch_0.2.2.2.2.2.2.2.2.2.2.2.2.2.2.1
theorem dX1_choosePitch_23 : decode cX1_choosePitch 23 = .ok (.if_icmp .ge 63, 3) := bdX1_choosePitch_0.2.2.2.2.2.2.2.2.2.2.2.2.2.2.2
theorem bdX1_choosePitch_26 : decode cX1_choosePitch 26 = .ok (.aload_n 2, 1) ∧ decode cX1_choosePitch 27 = .ok (.iload_n 3, 1) ∧ decode cX1_choosePitch 28 = .ok (.invokevirtual 107, 3) ∧ decode cX1_choosePitch 31 = .ok (.istore 4, 2) ∧ decode cX1_choosePitch 33 = .ok (.aload_n 0, 1) ∧ decode cX1_choosePitch 34 = .ok (.iload 4, 2) ∧ decode cX1_choosePitch 36 = .ok (.invokevirtual 110, 3) ∧ decode cX1_choosePitch 39 = .ok (.ifCond .eq 41, 3) ∧ decode cX1_choosePitch 42 = .ok (.aload_n 0, 1) ∧ decode cX1_choosePitch 43 = .ok (.getfield 44, 3) ∧ decode cX1_choosePitch 46 = .ok (.iload 4, 2) ∧ decode cX1_choosePitch 48 = .ok (.aaload, 1) ∧ decode cX1_choosePitch 49 = .ok (.getfield 48, 3) ∧ decode cX1_choosePitch 52 = .ok (.bipush (-6), 2) ∧ decode cX1_choosePitch 54 = .ok (.if_icmp .ne 26, 3) ∧ decode cX1_choosePitch 57 = .ok (.aload_n 0, 1) := by decide +kernel
theorem dX1_choosePitch_26 : decode cX1_choosePitch 26 = .ok (.aload_n 2, 1) := bdX1_choosePitch_26.1
theorem dX1_choosePitch_27 : decode cX1_choosePitch 27 = .ok (.iload_n 3, 1) := bdX1_choosePitch_26.2.1
theorem dX1_choosePitch_28 : decode cX1_choosePitch 28 = .ok (.invokevirtual 107, 3) := bdX1_choosePitch_26.2.2.1
theorem dX1_choosePitch_31 : decode cX1_choosePitch 31 = .ok (.istore 4, 2) := bdX1_choosePitch_26.2.2.2.1
theorem dX1_choosePitch_33 : decode cX1_choosePitch 33 = .ok (.aload_n 0, 1) := bdX1_choosePitch_26.2.2.2.2.1
theorem dX1_choosePitch_34 : decode cX1_choosePitch 34 = .ok (.iload 4, 2) := bdX1_choosePitch_26.2.2.2.2.2.1
theorem dX1_choosePitch_36 : decode cX1_choosePitch 36 = .ok (.invokevirtual 110, 3) := bdX1_choosePitch_26.2.2.2.2.2.2.1
theorem dX1_choosePitch_39 : decode cX1_choosePitch 39 = .ok (.ifCond .eq 41, 3) := bdX1_choosePitch_26.2.2.2.2.2.2.2.1
theorem dX1_choosePitch_42 : decode cX1_choosePitch 42 = .ok (.aload_n 0, 1) := bdX1_choosePitch_26.2.2.2.2.2.2.2.2.1
theorem dX1_choosePitch_43 : decode cX1_choosePitch 43 = .ok (.getfield 44, 3) := bdX1_choosePitch_26.2.2.2.2.2.2.2.2.2.1
theorem dX1_choosePitch_46 : decode cX1_choosePitch 46 = .ok (.iload 4, 2) := bdX1_choosePitch_26.2.2.2.2.2.2.2.2.2.2.1
theorem dX1_choosePitch_48 : decode cX1_choosePitch 48 = .ok (.aaload, 1) := bdX1_choosePitch_26.2.2.2.2.2.2.2.2.2.2.2.1
theorem dX1_choosePitch_49 : decode cX1_choosePitch 49 = .ok (.getfield 48, 3) := bdX1_choosePitch_26.2.2.2.2.2.2.2.2.2.2.2.2.1
theorem dX1_choosePitch_52 : decode cX1_choosePitch 52 = .ok (.bipush (-6), 2) := bdX1_choosePitch_26.2.2.2.2.2.2.2.2.2.2.2.2.2.1
theorem dX1_choosePitch_54 : decode cX1_choosePitch 54 = .ok (.if_icmp .ne 26, 3) := bdX1_choosePitch_26.2.2.2.2.2.2.2.2.2.2.2.2.2.2.1
theorem dX1_choosePitch_57 : decode cX1_choosePitch 57 = .ok (.aload_n 0, 1) := bdX1_choosePitch_26.2.2.2.2.2.2.2.2.2.2.2.2.2.2.2
theorem bdX1_choosePitch_58 : decode cX1_choosePitch 58 = .ok (.iload_n 1, 1) ∧ decode cX1_choosePitch 59 = .ok (.iload 4, 2) ∧ decode cX1_choosePitch 61 = .ok (.invokevirtual 113, 3) ∧ decode cX1_choosePitch 64 = .ok (.ifCond .ne 16, 3) ∧ decode cX1_choosePitch 67 = .ok (.aload_n 0, 1) ∧ decode cX1_choosePitch 68 = .ok (.iload_n 1, 1) ∧ decode cX1_choosePitch 69 = .ok (.iload 4, 2) ∧ decode cX1_choosePitch 71 = .ok (.invokevirtual 117, 3) ∧ decode cX1_choosePitch 74 = .ok (.aload_n 2, 1) ∧ decode cX1_choosePitch 75 = .ok (.iconst 0, 1) ∧ decode cX1_choosePitch 76 = .ok (.putfield 92, 3) ∧ decode cX1_choosePitch 79 = .ok (.return_, 1) ∧ decode cX1_choosePitch 80 = .ok (.iinc 3 1, 3) ∧ decode cX1_choosePitch 83 = .ok (.goto (-65), 3) ∧ decode cX1_choosePitch 86 = .ok (.return_, 1) := by decide +kernel
theorem dX1_choosePitch_58 : decode cX1_choosePitch 58 = .ok (.iload_n 1, 1) := bdX1_choosePitch_58.1
theorem dX1_choosePitch_59 : decode cX1_choosePitch 59 = .ok (.iload 4, 2) := bdX1_choosePitch_58.2.1
theorem dX1_choosePitch_61 : decode cX1_choosePitch 61 = .ok (.invokevirtual 113, 3) := bdX1_choosePitch_58.2.2.1
theorem dX1_choosePitch_64 : decode cX1_choosePitch 64 = .ok (.ifCond .ne 16, 3) := bdX1_choosePitch_58.2.2.2.1
theorem dX1_choosePitch_67 : decode cX1_choosePitch 67 = .ok (.aload_n 0, 1) := bdX1_choosePitch_58.2.2.2.2.1
theorem dX1_choosePitch_68 : decode cX1_choosePitch 68 = .ok (.iload_n 1, 1) := bdX1_choosePitch_58.2.2.2.2.2.1
theorem dX1_choosePitch_69 : decode cX1_choosePitch 69 = .ok (.iload 4, 2) := bdX1_choosePitch_58.2.2.2.2.2.2.1
theorem dX1_choosePitch_71 : decode cX1_choosePitch 71 = .ok (.invokevirtual 117, 3) := bdX1_choosePitch_58.2.2.2.2.2.2.2.1
theorem dX1_choosePitch_74 : decode cX1_choosePitch 74 = .ok (.aload_n 2, 1) := bdX1_choosePitch_58.2.2.2.2.2.2.2.2.1
theorem dX1_choosePitch_75 : decode cX1_choosePitch 75 = .ok (.iconst 0, 1) := bdX1_choosePitch_58.2.2.2.2.2.2.2.2.2.1
theorem dX1_choosePitch_76 : decode cX1_choosePitch 76 = .ok (.putfield 92, 3) := bdX1_choosePitch_58.2.2.2.2.2.2.2.2.2.2.1
theorem dX1_choosePitch_79 : decode cX1_choosePitch 79 = .ok (.return_, 1) := bdX1_choosePitch_58.2.2.2.2.2.2.2.2.2.2.2.1
theorem dX1_choosePitch_80 : decode cX1_choosePitch 80 = .ok (.iinc 3 1, 3) := bdX1_choosePitch_58.2.2.2.2.2.2.2.2.2.2.2.2.1
theorem dX1_choosePitch_83 : decode cX1_choosePitch 83 = .ok (.goto (-65), 3) := bdX1_choosePitch_58.2.2.2.2.2.2.2.2.2.2.2.2.2.1
theorem dX1_choosePitch_86 : decode cX1_choosePitch 86 = .ok (.return_, 1) := bdX1_choosePitch_58.2.2.2.2.2.2.2.2.2.2.2.2.2.2
theorem bdX1_shareKitchens_0 : decode cX1_shareKitchens 0 = .ok (.iconst 0, 1) ∧ decode cX1_shareKitchens 1 = .ok (.istore_n 1, 1) ∧ decode cX1_shareKitchens 2 = .ok (.iconst 0, 1) ∧ decode cX1_shareKitchens 3 = .ok (.istore_n 2, 1) ∧ decode cX1_shareKitchens 4 = .ok (.iconst 0, 1) ∧ decode cX1_shareKitchens 5 = .ok (.istore_n 3, 1) ∧ decode cX1_shareKitchens 6 = .ok (.iload_n 3, 1) ∧ decode cX1_shareKitchens 7 = .ok (.aload_n 0, 1) ∧ decode cX1_shareKitchens 8 = .ok (.getfield 60, 3) ∧ decode cX1_shareKitchens 11 = .ok (.if_icmp .ge 149, 3) ∧ decode cX1_shareKitchens 14 = .ok (.aload_n 0, 1) ∧ decode cX1_shareKitchens 15 = .ok (.getfield 78, 3) ∧ decode cX1_shareKitchens 18 = .ok (.iload_n 3, 1) ∧ decode cX1_shareKitchens 19 = .ok (.iaload, 1) ∧ decode cX1_shareKitchens 20 = .ok (.istore 4, 2) ∧ decode cX1_shareKitchens 22 = .ok (.aload_n 0, 1) := by decide +kernel
theorem dX1_shareKitchens_0 : decode cX1_shareKitchens 0 = .ok (.iconst 0, 1) := bdX1_shareKitchens_0.1
theorem dX1_shareKitchens_1 : decode cX1_shareKitchens 1 = .ok (.istore_n 1, 1) := bdX1_shareKitchens_0.2.1
theorem dX1_shareKitchens_2 : decode cX1_shareKitchens 2 = .ok (.iconst 0, 1) := bdX1_shareKitchens_0.2.2.1
theorem dX1_shareKitchens_3 : decode cX1_shareKitchens 3 = .ok (.istore_n 2, 1) := bdX1_shareKitchens_0.2.2.2.1
theorem dX1_shareKitchens_4 : decode cX1_shareKitchens 4 = .ok (.iconst 0, 1) := bdX1_shareKitchens_0.2.2.2.2.1
theorem dX1_shareKitchens_5 : decode cX1_shareKitchens 5 = .ok (.istore_n 3, 1) := bdX1_shareKitchens_0.2.2.2.2.2.1
theorem dX1_shareKitchens_6 : decode cX1_shareKitchens 6 = .ok (.iload_n 3, 1) := bdX1_shareKitchens_0.2.2.2.2.2.2.1
theorem dX1_shareKitchens_7 : decode cX1_shareKitchens 7 = .ok (.aload_n 0, 1) := bdX1_shareKitchens_0.2.2.2.2.2.2.2.1
theorem dX1_shareKitchens_8 : decode cX1_shareKitchens 8 = .ok (.getfield 60, 3) := bdX1_shareKitchens_0.2.2.2.2.2.2.2.2.1
theorem dX1_shareKitchens_11 : decode cX1_shareKitchens 11 = .ok (.if_icmp .ge 149, 3) := bdX1_shareKitchens_0.2.2.2.2.2.2.2.2.2.1
theorem dX1_shareKitchens_14 : decode cX1_shareKitchens 14 = .ok (.aload_n 0, 1) := bdX1_shareKitchens_0.2.2.2.2.2.2.2.2.2.2.1
theorem dX1_shareKitchens_15 : decode cX1_shareKitchens 15 = .ok (.getfield 78, 3) := bdX1_shareKitchens_0.2.2.2.2.2.2.2.2.2.2.2.1
theorem dX1_shareKitchens_18 : decode cX1_shareKitchens 18 = .ok (.iload_n 3, 1) := bdX1_shareKitchens_0.2.2.2.2.2.2.2.2.2.2.2.2.1
theorem dX1_shareKitchens_19 : decode cX1_shareKitchens 19 = .ok (.iaload, 1) := bdX1_shareKitchens_0.2.2.2.2.2.2.2.2.2.2.2.2.2.1
theorem dX1_shareKitchens_20 : decode cX1_shareKitchens 20 = .ok (.istore 4, 2) := bdX1_shareKitchens_0.2.2.2.2.2.2.2.2.2.2.2.2.2.2.1
theorem dX1_shareKitchens_22 : decode cX1_shareKitchens 22 = .ok (.aload_n 0, 1) := bdX1_shareKitchens_0.2.2.2.2.2.2.2.2.2.2.2.2.2.2.2
theorem bdX1_shareKitchens_23 : decode cX1_shareKitchens 23 = .ok (.iload 4, 2) ∧ decode cX1_shareKitchens 25 = .ok (.invokevirtual 71, 3) ∧ decode cX1_shareKitchens 28 = .ok (.ifCond .eq 126, 3) ∧ decode cX1_shareKitchens 31 = .ok (.aload_n 0, 1) ∧ decode cX1_shareKitchens 32 = .ok (.getfield 37, 3) ∧ decode cX1_shareKitchens 35 = .ok (.iload 4, 2) ∧ decode cX1_shareKitchens 37 = .ok (.aaload, 1) ∧ decode cX1_shareKitchens 38 = .ok (.getfield 121, 3) ∧ decode cX1_shareKitchens 41 = .ok (.bipush (-6), 2) ∧ decode cX1_shareKitchens 43 = .ok (.if_icmp .ne 6, 3) ∧ decode cX1_shareKitchens 46 = .ok (.goto 108, 3) ∧ decode cX1_shareKitchens 49 = .ok (.aload_n 0, 1) ∧ decode cX1_shareKitchens 50 = .ok (.getfield 37, 3) ∧ decode cX1_shareKitchens 53 = .ok (.iload 4, 2) ∧ decode cX1_shareKitchens 55 = .ok (.aaload, 1) ∧ decode cX1_shareKitchens 56 = .ok (.astore 5, 2) := by decide +kernel
theorem dX1_shareKitchens_23 : decode cX1_shareKitchens 23 = .ok (.iload 4, 2) := bdX1_shareKitchens_23.1
theorem dX1_shareKitchens_25 : decode cX1_shareKitchens 25 = .ok (.invokevirtual 71, 3) := bdX1_shareKitchens_23.2.1
theorem dX1_shareKitchens_28 : decode cX1_shareKitchens 28 = .ok (.ifCond .eq 126, 3) := bdX1_shareKitchens_23.2.2.1
theorem dX1_shareKitchens_31 : decode cX1_shareKitchens 31 = .ok (.aload_n 0, 1) := bdX1_shareKitchens_23.2.2.2.1
theorem dX1_shareKitchens_32 : decode cX1_shareKitchens 32 = .ok (.getfield 37, 3) := bdX1_shareKitchens_23.2.2.2.2.1
theorem dX1_shareKitchens_35 : decode cX1_shareKitchens 35 = .ok (.iload 4, 2) := bdX1_shareKitchens_23.2.2.2.2.2.1
theorem dX1_shareKitchens_37 : decode cX1_shareKitchens 37 = .ok (.aaload, 1) := bdX1_shareKitchens_23.2.2.2.2.2.2.1
theorem dX1_shareKitchens_38 : decode cX1_shareKitchens 38 = .ok (.getfield 121, 3) := bdX1_shareKitchens_23.2.2.2.2.2.2.2.1
theorem dX1_shareKitchens_41 : decode cX1_shareKitchens 41 = .ok (.bipush (-6), 2) := bdX1_shareKitchens_23.2.2.2.2.2.2.2.2.1
theorem dX1_shareKitchens_43 : decode cX1_shareKitchens 43 = .ok (.if_icmp .ne 6, 3) := bdX1_shareKitchens_23.2.2.2.2.2.2.2.2.2.1
theorem dX1_shareKitchens_46 : decode cX1_shareKitchens 46 = .ok (.goto 108, 3) := bdX1_shareKitchens_23.2.2.2.2.2.2.2.2.2.2.1
theorem dX1_shareKitchens_49 : decode cX1_shareKitchens 49 = .ok (.aload_n 0, 1) := bdX1_shareKitchens_23.2.2.2.2.2.2.2.2.2.2.2.1
theorem dX1_shareKitchens_50 : decode cX1_shareKitchens 50 = .ok (.getfield 37, 3) := bdX1_shareKitchens_23.2.2.2.2.2.2.2.2.2.2.2.2.1
theorem dX1_shareKitchens_53 : decode cX1_shareKitchens 53 = .ok (.iload 4, 2) := bdX1_shareKitchens_23.2.2.2.2.2.2.2.2.2.2.2.2.2.1
theorem dX1_shareKitchens_55 : decode cX1_shareKitchens 55 = .ok (.aaload, 1) := bdX1_shareKitchens_23.2.2.2.2.2.2.2.2.2.2.2.2.2.2.1
theorem dX1_shareKitchens_56 : decode cX1_shareKitchens 56 = .ok (.astore 5, 2) := bdX1_shareKitchens_23.2.2.2.2.2.2.2.2.2.2.2.2.2.2.2
theorem bdX1_shareKitchens_58 : decode cX1_shareKitchens 58 = .ok (.iload_n 1, 1) ∧ decode cX1_shareKitchens 59 = .ok (.iload_n 2, 1) ∧ decode cX1_shareKitchens 60 = .ok (.invokestatic 98, 3) ∧ decode cX1_shareKitchens 63 = .ok (.istore 6, 2) ∧ decode cX1_shareKitchens 65 = .ok (.iload 6, 2) ∧ decode cX1_shareKitchens 67 = .ok (.aload 5, 2) ∧ decode cX1_shareKitchens 69 = .ok (.getfield 124, 3) ∧ decode cX1_shareKitchens 72 = .ok (.iadd, 1) ∧ decode cX1_shareKitchens 73 = .ok (.aload_n 0, 1) ∧ decode cX1_shareKitchens 74 = .ok (.getfield 9, 3) ∧ decode cX1_shareKitchens 77 = .ok (.bipush 8, 2) ∧ decode cX1_shareKitchens 79 = .ok (.iaload, 1) ∧ decode cX1_shareKitchens 80 = .ok (.if_icmp .le 42, 3) ∧ decode cX1_shareKitchens 83 = .ok (.aload_n 0, 1) ∧ decode cX1_shareKitchens 84 = .ok (.aload 5, 2) ∧ decode cX1_shareKitchens 86 = .ok (.invokevirtual 127, 3) := by decide +kernel
theorem dX1_shareKitchens_58 : decode cX1_shareKitchens 58 = .ok (.iload_n 1, 1) := bdX1_shareKitchens_58.1
theorem dX1_shareKitchens_59 : decode cX1_shareKitchens 59 = .ok (.iload_n 2, 1) := bdX1_shareKitchens_58.2.1
theorem dX1_shareKitchens_60 : decode cX1_shareKitchens 60 = .ok (.invokestatic 98, 3) := bdX1_shareKitchens_58.2.2.1
theorem dX1_shareKitchens_63 : decode cX1_shareKitchens 63 = .ok (.istore 6, 2) := bdX1_shareKitchens_58.2.2.2.1
theorem dX1_shareKitchens_65 : decode cX1_shareKitchens 65 = .ok (.iload 6, 2) := bdX1_shareKitchens_58.2.2.2.2.1
theorem dX1_shareKitchens_67 : decode cX1_shareKitchens 67 = .ok (.aload 5, 2) := bdX1_shareKitchens_58.2.2.2.2.2.1
theorem dX1_shareKitchens_69 : decode cX1_shareKitchens 69 = .ok (.getfield 124, 3) := bdX1_shareKitchens_58.2.2.2.2.2.2.1
theorem dX1_shareKitchens_72 : decode cX1_shareKitchens 72 = .ok (.iadd, 1) := bdX1_shareKitchens_58.2.2.2.2.2.2.2.1
theorem dX1_shareKitchens_73 : decode cX1_shareKitchens 73 = .ok (.aload_n 0, 1) := bdX1_shareKitchens_58.2.2.2.2.2.2.2.2.1
theorem dX1_shareKitchens_74 : decode cX1_shareKitchens 74 = .ok (.getfield 9, 3) := bdX1_shareKitchens_58.2.2.2.2.2.2.2.2.2.1
theorem dX1_shareKitchens_77 : decode cX1_shareKitchens 77 = .ok (.bipush 8, 2) := bdX1_shareKitchens_58.2.2.2.2.2.2.2.2.2.2.1
theorem dX1_shareKitchens_79 : decode cX1_shareKitchens 79 = .ok (.iaload, 1) := bdX1_shareKitchens_58.2.2.2.2.2.2.2.2.2.2.2.1
theorem dX1_shareKitchens_80 : decode cX1_shareKitchens 80 = .ok (.if_icmp .le 42, 3) := bdX1_shareKitchens_58.2.2.2.2.2.2.2.2.2.2.2.2.1
theorem dX1_shareKitchens_83 : decode cX1_shareKitchens 83 = .ok (.aload_n 0, 1) := bdX1_shareKitchens_58.2.2.2.2.2.2.2.2.2.2.2.2.2.1
theorem dX1_shareKitchens_84 : decode cX1_shareKitchens 84 = .ok (.aload 5, 2) := bdX1_shareKitchens_58.2.2.2.2.2.2.2.2.2.2.2.2.2.2.1
theorem dX1_shareKitchens_86 : decode cX1_shareKitchens 86 = .ok (.invokevirtual 127, 3) := bdX1_shareKitchens_58.2.2.2.2.2.2.2.2.2.2.2.2.2.2.2
theorem bdX1_shareKitchens_89 : decode cX1_shareKitchens 89 = .ok (.aload 5, 2) ∧ decode cX1_shareKitchens 91 = .ok (.iconst 5, 1) ∧ decode cX1_shareKitchens 92 = .ok (.putfield 92, 3) ∧ decode cX1_shareKitchens 95 = .ok (.aload_n 0, 1) ∧ decode cX1_shareKitchens 96 = .ok (.getfield 9, 3) ∧ decode cX1_shareKitchens 99 = .ok (.bipush 7, 2) ∧ decode cX1_shareKitchens 101 = .ok (.iaload, 1) ∧ decode cX1_shareKitchens 102 = .ok (.ifCond .le 52, 3) ∧ decode cX1_shareKitchens 105 = .ok (.aload_n 0, 1) ∧ decode cX1_shareKitchens 106 = .ok (.aload 5, 2) ∧ decode cX1_shareKitchens 108 = .ok (.aload_n 0, 1) ∧ decode cX1_shareKitchens 109 = .ok (.getfield 9, 3) ∧ decode cX1_shareKitchens 112 = .ok (.bipush 7, 2) ∧ decode cX1_shareKitchens 114 = .ok (.iaload, 1) ∧ decode cX1_shareKitchens 115 = .ok (.invokevirtual 131, 3) ∧ decode cX1_shareKitchens 118 = .ok (.pop, 1) := by decide +kernel
theorem dX1_shareKitchens_89 : decode cX1_shareKitchens 89 = .ok (.aload 5, 2) := bdX1_shareKitchens_89.1
theorem dX1_shareKitchens_91 : decode cX1_shareKitchens 91 = .ok (.iconst 5, 1) := bdX1_shareKitchens_89.2.1
theorem dX1_shareKitchens_92 : decode cX1_shareKitchens 92 = .ok (.putfield 92, 3) := bdX1_shareKitchens_89.2.2.1
theorem dX1_shareKitchens_95 : decode cX1_shareKitchens 95 = .ok (.aload_n 0, 1) := bdX1_shareKitchens_89.2.2.2.1
theorem dX1_shareKitchens_96 : decode cX1_shareKitchens 96 = .ok (.getfield 9, 3) := bdX1_shareKitchens_89.2.2.2.2.1
theorem dX1_shareKitchens_99 : decode cX1_shareKitchens 99 = .ok (.bipush 7, 2) := bdX1_shareKitchens_89.2.2.2.2.2.1
theorem dX1_shareKitchens_101 : decode cX1_shareKitchens 101 = .ok (.iaload, 1) := bdX1_shareKitchens_89.2.2.2.2.2.2.1
theorem dX1_shareKitchens_102 : decode cX1_shareKitchens 102 = .ok (.ifCond .le 52, 3) := bdX1_shareKitchens_89.2.2.2.2.2.2.2.1
theorem dX1_shareKitchens_105 : decode cX1_shareKitchens 105 = .ok (.aload_n 0, 1) := bdX1_shareKitchens_89.2.2.2.2.2.2.2.2.1
theorem dX1_shareKitchens_106 : decode cX1_shareKitchens 106 = .ok (.aload 5, 2) := bdX1_shareKitchens_89.2.2.2.2.2.2.2.2.2.1
theorem dX1_shareKitchens_108 : decode cX1_shareKitchens 108 = .ok (.aload_n 0, 1) := bdX1_shareKitchens_89.2.2.2.2.2.2.2.2.2.2.1
theorem dX1_shareKitchens_109 : decode cX1_shareKitchens 109 = .ok (.getfield 9, 3) := bdX1_shareKitchens_89.2.2.2.2.2.2.2.2.2.2.2.1
theorem dX1_shareKitchens_112 : decode cX1_shareKitchens 112 = .ok (.bipush 7, 2) := bdX1_shareKitchens_89.2.2.2.2.2.2.2.2.2.2.2.2.1
theorem dX1_shareKitchens_114 : decode cX1_shareKitchens 114 = .ok (.iaload, 1) := bdX1_shareKitchens_89.2.2.2.2.2.2.2.2.2.2.2.2.2.1
theorem dX1_shareKitchens_115 : decode cX1_shareKitchens 115 = .ok (.invokevirtual 131, 3) := bdX1_shareKitchens_89.2.2.2.2.2.2.2.2.2.2.2.2.2.2.1
theorem dX1_shareKitchens_118 : decode cX1_shareKitchens 118 = .ok (.pop, 1) := bdX1_shareKitchens_89.2.2.2.2.2.2.2.2.2.2.2.2.2.2.2
theorem bdX1_shareKitchens_119 : decode cX1_shareKitchens 119 = .ok (.goto 35, 3) ∧ decode cX1_shareKitchens 122 = .ok (.aload 5, 2) ∧ decode cX1_shareKitchens 124 = .ok (.iload 6, 2) ∧ decode cX1_shareKitchens 126 = .ok (.putfield 135, 3) ∧ decode cX1_shareKitchens 129 = .ok (.iload 6, 2) ∧ decode cX1_shareKitchens 131 = .ok (.iload_n 1, 1) ∧ decode cX1_shareKitchens 132 = .ok (.if_icmp .ne 14, 3) ∧ decode cX1_shareKitchens 135 = .ok (.iload_n 1, 1) ∧ decode cX1_shareKitchens 136 = .ok (.aload 5, 2) ∧ decode cX1_shareKitchens 138 = .ok (.getfield 124, 3) ∧ decode cX1_shareKitchens 141 = .ok (.iadd, 1) ∧ decode cX1_shareKitchens 142 = .ok (.istore_n 1, 1) ∧ decode cX1_shareKitchens 143 = .ok (.goto 11, 3) ∧ decode cX1_shareKitchens 146 = .ok (.iload_n 2, 1) ∧ decode cX1_shareKitchens 147 = .ok (.aload 5, 2) ∧ decode cX1_shareKitchens 149 = .ok (.getfield 124, 3) := by decide +kernel
theorem dX1_shareKitchens_119 : decode cX1_shareKitchens 119 = .ok (.goto 35, 3) := bdX1_shareKitchens_119.1
theorem dX1_shareKitchens_122 : decode cX1_shareKitchens 122 = .ok (.aload 5, 2) := bdX1_shareKitchens_119.2.1
theorem dX1_shareKitchens_124 : decode cX1_shareKitchens 124 = .ok (.iload 6, 2) := bdX1_shareKitchens_119.2.2.1
theorem dX1_shareKitchens_126 : decode cX1_shareKitchens 126 = .ok (.putfield 135, 3) := bdX1_shareKitchens_119.2.2.2.1
theorem dX1_shareKitchens_129 : decode cX1_shareKitchens 129 = .ok (.iload 6, 2) := bdX1_shareKitchens_119.2.2.2.2.1
theorem dX1_shareKitchens_131 : decode cX1_shareKitchens 131 = .ok (.iload_n 1, 1) := bdX1_shareKitchens_119.2.2.2.2.2.1
theorem dX1_shareKitchens_132 : decode cX1_shareKitchens 132 = .ok (.if_icmp .ne 14, 3) := bdX1_shareKitchens_119.2.2.2.2.2.2.1
theorem dX1_shareKitchens_135 : decode cX1_shareKitchens 135 = .ok (.iload_n 1, 1) := bdX1_shareKitchens_119.2.2.2.2.2.2.2.1
theorem dX1_shareKitchens_136 : decode cX1_shareKitchens 136 = .ok (.aload 5, 2) := bdX1_shareKitchens_119.2.2.2.2.2.2.2.2.1
theorem dX1_shareKitchens_138 : decode cX1_shareKitchens 138 = .ok (.getfield 124, 3) := bdX1_shareKitchens_119.2.2.2.2.2.2.2.2.2.1
theorem dX1_shareKitchens_141 : decode cX1_shareKitchens 141 = .ok (.iadd, 1) := bdX1_shareKitchens_119.2.2.2.2.2.2.2.2.2.2.1
theorem dX1_shareKitchens_142 : decode cX1_shareKitchens 142 = .ok (.istore_n 1, 1) := bdX1_shareKitchens_119.2.2.2.2.2.2.2.2.2.2.2.1
theorem dX1_shareKitchens_143 : decode cX1_shareKitchens 143 = .ok (.goto 11, 3) := bdX1_shareKitchens_119.2.2.2.2.2.2.2.2.2.2.2.2.1
theorem dX1_shareKitchens_146 : decode cX1_shareKitchens 146 = .ok (.iload_n 2, 1) := bdX1_shareKitchens_119.2.2.2.2.2.2.2.2.2.2.2.2.2.1
theorem dX1_shareKitchens_147 : decode cX1_shareKitchens 147 = .ok (.aload 5, 2) := bdX1_shareKitchens_119.2.2.2.2.2.2.2.2.2.2.2.2.2.2.1
theorem dX1_shareKitchens_149 : decode cX1_shareKitchens 149 = .ok (.getfield 124, 3) := bdX1_shareKitchens_119.2.2.2.2.2.2.2.2.2.2.2.2.2.2.2
theorem bdX1_shareKitchens_152 : decode cX1_shareKitchens 152 = .ok (.iadd, 1) ∧ decode cX1_shareKitchens 153 = .ok (.istore_n 2, 1) ∧ decode cX1_shareKitchens 154 = .ok (.iinc 3 1, 3) ∧ decode cX1_shareKitchens 157 = .ok (.goto (-151), 3) ∧ decode cX1_shareKitchens 160 = .ok (.return_, 1) := by decide +kernel
theorem dX1_shareKitchens_152 : decode cX1_shareKitchens 152 = .ok (.iadd, 1) := bdX1_shareKitchens_152.1
theorem dX1_shareKitchens_153 : decode cX1_shareKitchens 153 = .ok (.istore_n 2, 1) := bdX1_shareKitchens_152.2.1
theorem dX1_shareKitchens_154 : decode cX1_shareKitchens 154 = .ok (.iinc 3 1, 3) := bdX1_shareKitchens_152.2.2.1
theorem dX1_shareKitchens_157 : decode cX1_shareKitchens 157 = .ok (.goto (-151), 3) := bdX1_shareKitchens_152.2.2.2.1
theorem dX1_shareKitchens_160 : decode cX1_shareKitchens 160 = .ok (.return_, 1) := bdX1_shareKitchens_152.2.2.2.2
theorem bdX1_makeSwaps_0 : decode cX1_makeSwaps 0 = .ok (.iconst 0, 1) ∧ decode cX1_makeSwaps 1 = .ok (.istore_n 1, 1) ∧ decode cX1_makeSwaps 2 = .ok (.iload_n 1, 1) ∧ decode cX1_makeSwaps 3 = .ok (.aload_n 0, 1) ∧ decode cX1_makeSwaps 4 = .ok (.getfield 138, 3) ∧ decode cX1_makeSwaps 7 = .ok (.if_icmp .ge 86, 3) ∧ decode cX1_makeSwaps 10 = .ok (.aload_n 0, 1) ∧ decode cX1_makeSwaps 11 = .ok (.getfield 141, 3) ∧ decode cX1_makeSwaps 14 = .ok (.iload_n 1, 1) ∧ decode cX1_makeSwaps 15 = .ok (.iaload, 1) ∧ decode cX1_makeSwaps 16 = .ok (.istore_n 2, 1) ∧ decode cX1_makeSwaps 17 = .ok (.aload_n 0, 1) ∧ decode cX1_makeSwaps 18 = .ok (.getfield 144, 3) ∧ decode cX1_makeSwaps 21 = .ok (.iload_n 1, 1) ∧ decode cX1_makeSwaps 22 = .ok (.iaload, 1) ∧ decode cX1_makeSwaps 23 = .ok (.istore_n 3, 1) := by decide +kernel
theorem dX1_makeSwaps_0 : decode cX1_makeSwaps 0 = .ok (.iconst 0, 1) := bdX1_makeSwaps_0.1
theorem dX1_makeSwaps_1 : decode cX1_makeSwaps 1 = .ok (.istore_n 1, 1) := bdX1_makeSwaps_0.2.1
theorem dX1_makeSwaps_2 : decode cX1_makeSwaps 2 = .ok (.iload_n 1, 1) := bdX1_makeSwaps_0.2.2.1
theorem dX1_makeSwaps_3 : decode cX1_makeSwaps 3 = .ok (.aload_n 0, 1) := bdX1_makeSwaps_0.2.2.2.1
theorem dX1_makeSwaps_4 : decode cX1_makeSwaps 4 = .ok (.getfield 138, 3) := bdX1_makeSwaps_0.2.2.2.2.1
theorem dX1_makeSwaps_7 : decode cX1_makeSwaps 7 = .ok (.if_icmp .ge 86, 3) := bdX1_makeSwaps_0.2.2.2.2.2.1
theorem dX1_makeSwaps_10 : decode cX1_makeSwaps 10 = .ok (.aload_n 0, 1) := bdX1_makeSwaps_0.2.2.2.2.2.2.1
theorem dX1_makeSwaps_11 : decode cX1_makeSwaps 11 = .ok (.getfield 141, 3) := bdX1_makeSwaps_0.2.2.2.2.2.2.2.1
theorem dX1_makeSwaps_14 : decode cX1_makeSwaps 14 = .ok (.iload_n 1, 1) := bdX1_makeSwaps_0.2.2.2.2.2.2.2.2.1
theorem dX1_makeSwaps_15 : decode cX1_makeSwaps 15 = .ok (.iaload, 1) := bdX1_makeSwaps_0.2.2.2.2.2.2.2.2.2.1
theorem dX1_makeSwaps_16 : decode cX1_makeSwaps 16 = .ok (.istore_n 2, 1) := bdX1_makeSwaps_0.2.2.2.2.2.2.2.2.2.2.1
theorem dX1_makeSwaps_17 : decode cX1_makeSwaps 17 = .ok (.aload_n 0, 1) := bdX1_makeSwaps_0.2.2.2.2.2.2.2.2.2.2.2.1
theorem dX1_makeSwaps_18 : decode cX1_makeSwaps 18 = .ok (.getfield 144, 3) := bdX1_makeSwaps_0.2.2.2.2.2.2.2.2.2.2.2.2.1
theorem dX1_makeSwaps_21 : decode cX1_makeSwaps 21 = .ok (.iload_n 1, 1) := bdX1_makeSwaps_0.2.2.2.2.2.2.2.2.2.2.2.2.2.1
theorem dX1_makeSwaps_22 : decode cX1_makeSwaps 22 = .ok (.iaload, 1) := bdX1_makeSwaps_0.2.2.2.2.2.2.2.2.2.2.2.2.2.2.1
theorem dX1_makeSwaps_23 : decode cX1_makeSwaps 23 = .ok (.istore_n 3, 1) := bdX1_makeSwaps_0.2.2.2.2.2.2.2.2.2.2.2.2.2.2.2
theorem bdX1_makeSwaps_24 : decode cX1_makeSwaps 24 = .ok (.aload_n 0, 1) ∧ decode cX1_makeSwaps 25 = .ok (.iload_n 2, 1) ∧ decode cX1_makeSwaps 26 = .ok (.iload_n 3, 1) ∧ decode cX1_makeSwaps 27 = .ok (.invokestatic 147, 3) ∧ decode cX1_makeSwaps 30 = .ok (.ifCond .eq 57, 3) ∧ decode cX1_makeSwaps 33 = .ok (.aload_n 0, 1) ∧ decode cX1_makeSwaps 34 = .ok (.getfield 37, 3) ∧ decode cX1_makeSwaps 37 = .ok (.iload_n 2, 1) ∧ decode cX1_makeSwaps 38 = .ok (.aaload, 1) ∧ decode cX1_makeSwaps 39 = .ok (.dup, 1) ∧ decode cX1_makeSwaps 40 = .ok (.getfield 151, 3) ∧ decode cX1_makeSwaps 43 = .ok (.aload_n 0, 1) ∧ decode cX1_makeSwaps 44 = .ok (.getfield 9, 3) ∧ decode cX1_makeSwaps 47 = .ok (.bipush 9, 2) ∧ decode cX1_makeSwaps 49 = .ok (.iaload, 1) ∧ decode cX1_makeSwaps 50 = .ok (.i2l, 1) := by decide +kernel
theorem dX1_makeSwaps_24 : decode cX1_makeSwaps 24 = .ok (.aload_n 0, 1) := bdX1_makeSwaps_24.1
theorem dX1_makeSwaps_25 : decode cX1_makeSwaps 25 = .ok (.iload_n 2, 1) := bdX1_makeSwaps_24.2.1
theorem dX1_makeSwaps_26 : decode cX1_makeSwaps 26 = .ok (.iload_n 3, 1) := bdX1_makeSwaps_24.2.2.1
theorem dX1_makeSwaps_27 : decode cX1_makeSwaps 27 = .ok (.invokestatic 147, 3) := bdX1_makeSwaps_24.2.2.2.1
theorem dX1_makeSwaps_30 : decode cX1_makeSwaps 30 = .ok (.ifCond .eq 57, 3) := bdX1_makeSwaps_24.2.2.2.2.1
theorem dX1_makeSwaps_33 : decode cX1_makeSwaps 33 = .ok (.aload_n 0, 1) := bdX1_makeSwaps_24.2.2.2.2.2.1
theorem dX1_makeSwaps_34 : decode cX1_makeSwaps 34 = .ok (.getfield 37, 3) := bdX1_makeSwaps_24.2.2.2.2.2.2.1
theorem dX1_makeSwaps_37 : decode cX1_makeSwaps 37 = .ok (.iload_n 2, 1) := bdX1_makeSwaps_24.2.2.2.2.2.2.2.1
theorem dX1_makeSwaps_38 : decode cX1_makeSwaps 38 = .ok (.aaload, 1) := bdX1_makeSwaps_24.2.2.2.2.2.2.2.2.1
theorem dX1_makeSwaps_39 : decode cX1_makeSwaps 39 = .ok (.dup, 1) := bdX1_makeSwaps_24.2.2.2.2.2.2.2.2.2.1
theorem dX1_makeSwaps_40 : decode cX1_makeSwaps 40 = .ok (.getfield 151, 3) := bdX1_makeSwaps_24.2.2.2.2.2.2.2.2.2.2.1
theorem dX1_makeSwaps_43 : decode cX1_makeSwaps 43 = .ok (.aload_n 0, 1) := bdX1_makeSwaps_24.2.2.2.2.2.2.2.2.2.2.2.1
theorem dX1_makeSwaps_44 : decode cX1_makeSwaps 44 = .ok (.getfield 9, 3) := bdX1_makeSwaps_24.2.2.2.2.2.2.2.2.2.2.2.2.1
theorem dX1_makeSwaps_47 : decode cX1_makeSwaps 47 = .ok (.bipush 9, 2) := bdX1_makeSwaps_24.2.2.2.2.2.2.2.2.2.2.2.2.2.1
theorem dX1_makeSwaps_49 : decode cX1_makeSwaps 49 = .ok (.iaload, 1) := bdX1_makeSwaps_24.2.2.2.2.2.2.2.2.2.2.2.2.2.2.1
theorem dX1_makeSwaps_50 : decode cX1_makeSwaps 50 = .ok (.i2l, 1) := bdX1_makeSwaps_24.2.2.2.2.2.2.2.2.2.2.2.2.2.2.2
theorem bdX1_makeSwaps_51 : decode cX1_makeSwaps 51 = .ok (.ladd, 1) ∧ decode cX1_makeSwaps 52 = .ok (.putfield 151, 3) ∧ decode cX1_makeSwaps 55 = .ok (.aload_n 0, 1) ∧ decode cX1_makeSwaps 56 = .ok (.getfield 37, 3) ∧ decode cX1_makeSwaps 59 = .ok (.iload_n 3, 1) ∧ decode cX1_makeSwaps 60 = .ok (.aaload, 1) ∧ decode cX1_makeSwaps 61 = .ok (.dup, 1) ∧ decode cX1_makeSwaps 62 = .ok (.getfield 151, 3) ∧ decode cX1_makeSwaps 65 = .ok (.aload_n 0, 1) ∧ decode cX1_makeSwaps 66 = .ok (.getfield 9, 3) ∧ decode cX1_makeSwaps 69 = .ok (.bipush 9, 2) ∧ decode cX1_makeSwaps 71 = .ok (.iaload, 1) ∧ decode cX1_makeSwaps 72 = .ok (.i2l, 1) ∧ decode cX1_makeSwaps 73 = .ok (.ladd, 1) ∧ decode cX1_makeSwaps 74 = .ok (.putfield 151, 3) ∧ decode cX1_makeSwaps 77 = .ok (.aload_n 0, 1) := by decide +kernel
theorem dX1_makeSwaps_51 : decode cX1_makeSwaps 51 = .ok (.ladd, 1) := bdX1_makeSwaps_51.1
theorem dX1_makeSwaps_52 : decode cX1_makeSwaps 52 = .ok (.putfield 151, 3) := bdX1_makeSwaps_51.2.1
theorem dX1_makeSwaps_55 : decode cX1_makeSwaps 55 = .ok (.aload_n 0, 1) := bdX1_makeSwaps_51.2.2.1
theorem dX1_makeSwaps_56 : decode cX1_makeSwaps 56 = .ok (.getfield 37, 3) := bdX1_makeSwaps_51.2.2.2.1
theorem dX1_makeSwaps_59 : decode cX1_makeSwaps 59 = .ok (.iload_n 3, 1) := bdX1_makeSwaps_51.2.2.2.2.1
theorem dX1_makeSwaps_60 : decode cX1_makeSwaps 60 = .ok (.aaload, 1) := bdX1_makeSwaps_51.2.2.2.2.2.1
theorem dX1_makeSwaps_61 : decode cX1_makeSwaps 61 = .ok (.dup, 1) := bdX1_makeSwaps_51.2.2.2.2.2.2.1
theorem dX1_makeSwaps_62 : decode cX1_makeSwaps 62 = .ok (.getfield 151, 3) := bdX1_makeSwaps_51.2.2.2.2.2.2.2.1
theorem dX1_makeSwaps_65 : decode cX1_makeSwaps 65 = .ok (.aload_n 0, 1) := bdX1_makeSwaps_51.2.2.2.2.2.2.2.2.1
theorem dX1_makeSwaps_66 : decode cX1_makeSwaps 66 = .ok (.getfield 9, 3) := bdX1_makeSwaps_51.2.2.2.2.2.2.2.2.2.1
theorem dX1_makeSwaps_69 : decode cX1_makeSwaps 69 = .ok (.bipush 9, 2) := bdX1_makeSwaps_51.2.2.2.2.2.2.2.2.2.2.1
theorem dX1_makeSwaps_71 : decode cX1_makeSwaps 71 = .ok (.iaload, 1) := bdX1_makeSwaps_51.2.2.2.2.2.2.2.2.2.2.2.1
theorem dX1_makeSwaps_72 : decode cX1_makeSwaps 72 = .ok (.i2l, 1) := bdX1_makeSwaps_51.2.2.2.2.2.2.2.2.2.2.2.2.1
theorem dX1_makeSwaps_73 : decode cX1_makeSwaps 73 = .ok (.ladd, 1) := bdX1_makeSwaps_51.2.2.2.2.2.2.2.2.2.2.2.2.2.1
theorem dX1_makeSwaps_74 : decode cX1_makeSwaps 74 = .ok (.putfield 151, 3) := bdX1_makeSwaps_51.2.2.2.2.2.2.2.2.2.2.2.2.2.2.1
theorem dX1_makeSwaps_77 : decode cX1_makeSwaps 77 = .ok (.aload_n 0, 1) := bdX1_makeSwaps_51.2.2.2.2.2.2.2.2.2.2.2.2.2.2.2
theorem bdX1_makeSwaps_78 : decode cX1_makeSwaps 78 = .ok (.dup, 1) ∧ decode cX1_makeSwaps 79 = .ok (.getfield 155, 3) ∧ decode cX1_makeSwaps 82 = .ok (.iconst 1, 1) ∧ decode cX1_makeSwaps 83 = .ok (.iadd, 1) ∧ decode cX1_makeSwaps 84 = .ok (.putfield 155, 3) ∧ decode cX1_makeSwaps 87 = .ok (.iinc 1 1, 3) ∧ decode cX1_makeSwaps 90 = .ok (.goto (-88), 3) ∧ decode cX1_makeSwaps 93 = .ok (.aload_n 0, 1) ∧ decode cX1_makeSwaps 94 = .ok (.iconst 0, 1) ∧ decode cX1_makeSwaps 95 = .ok (.putfield 138, 3) ∧ decode cX1_makeSwaps 98 = .ok (.return_, 1) := by decide +kernel
theorem dX1_makeSwaps_78 : decode cX1_makeSwaps 78 = .ok (.dup, 1) := bdX1_makeSwaps_78.1
theorem dX1_makeSwaps_79 : decode cX1_makeSwaps 79 = .ok (.getfield 155, 3) := bdX1_makeSwaps_78.2.1
theorem dX1_makeSwaps_82 : decode cX1_makeSwaps 82 = .ok (.iconst 1, 1) := bdX1_makeSwaps_78.2.2.1
theorem dX1_makeSwaps_83 : decode cX1_makeSwaps 83 = .ok (.iadd, 1) := bdX1_makeSwaps_78.2.2.2.1
theorem dX1_makeSwaps_84 : decode cX1_makeSwaps 84 = .ok (.putfield 155, 3) := bdX1_makeSwaps_78.2.2.2.2.1
theorem dX1_makeSwaps_87 : decode cX1_makeSwaps 87 = .ok (.iinc 1 1, 3) := bdX1_makeSwaps_78.2.2.2.2.2.1
theorem dX1_makeSwaps_90 : decode cX1_makeSwaps 90 = .ok (.goto (-88), 3) := bdX1_makeSwaps_78.2.2.2.2.2.2.1
theorem dX1_makeSwaps_93 : decode cX1_makeSwaps 93 = .ok (.aload_n 0, 1) := bdX1_makeSwaps_78.2.2.2.2.2.2.2.1
theorem dX1_makeSwaps_94 : decode cX1_makeSwaps 94 = .ok (.iconst 0, 1) := bdX1_makeSwaps_78.2.2.2.2.2.2.2.2.1
theorem dX1_makeSwaps_95 : decode cX1_makeSwaps 95 = .ok (.putfield 138, 3) := bdX1_makeSwaps_78.2.2.2.2.2.2.2.2.2.1
theorem dX1_makeSwaps_98 : decode cX1_makeSwaps 98 = .ok (.return_, 1) := bdX1_makeSwaps_78.2.2.2.2.2.2.2.2.2.2
theorem bdX1_exchange_0 : decode cX1_exchange 0 = .ok (.aload_n 0, 1) ∧ decode cX1_exchange 1 = .ok (.iload_n 1, 1) ∧ decode cX1_exchange 2 = .ok (.invokevirtual 71, 3) ∧ decode cX1_exchange 5 = .ok (.ifCond .eq 11, 3) ∧ decode cX1_exchange 8 = .ok (.aload_n 0, 1) ∧ decode cX1_exchange 9 = .ok (.iload_n 2, 1) ∧ decode cX1_exchange 10 = .ok (.invokevirtual 71, 3) ∧ decode cX1_exchange 13 = .ok (.ifCond .ne 5, 3) ∧ decode cX1_exchange 16 = .ok (.iconst 0, 1) ∧ decode cX1_exchange 17 = .ok (.ireturn, 1) ∧ decode cX1_exchange 18 = .ok (.aload_n 0, 1) ∧ decode cX1_exchange 19 = .ok (.getfield 37, 3) ∧ decode cX1_exchange 22 = .ok (.iload_n 1, 1) ∧ decode cX1_exchange 23 = .ok (.aaload, 1) ∧ decode cX1_exchange 24 = .ok (.getfield 121, 3) ∧ decode cX1_exchange 27 = .ok (.istore_n 3, 1) := by decide +kernel
theorem dX1_exchange_0 : decode cX1_exchange 0 = .ok (.aload_n 0, 1) := bdX1_exchange_0.1
theorem dX1_exchange_1 : decode cX1_exchange 1 = .ok (.iload_n 1, 1) := bdX1_exchange_0.2.1
theorem dX1_exchange_2 : decode cX1_exchange 2 = .ok (.invokevirtual 71, 3) := bdX1_exchange_0.2.2.1
theorem dX1_exchange_5 : decode cX1_exchange 5 = .ok (.ifCond .eq 11, 3) := bdX1_exchange_0.2.2.2.1
theorem dX1_exchange_8 : decode cX1_exchange 8 = .ok (.aload_n 0, 1) := bdX1_exchange_0.2.2.2.2.1
theorem dX1_exchange_9 : decode cX1_exchange 9 = .ok (.iload_n 2, 1) := bdX1_exchange_0.2.2.2.2.2.1
theorem dX1_exchange_10 : decode cX1_exchange 10 = .ok (.invokevirtual 71, 3) := bdX1_exchange_0.2.2.2.2.2.2.1
theorem dX1_exchange_13 : decode cX1_exchange 13 = .ok (.ifCond .ne 5, 3) := bdX1_exchange_0.2.2.2.2.2.2.2.1
theorem dX1_exchange_16 : decode cX1_exchange 16 = .ok (.iconst 0, 1) := bdX1_exchange_0.2.2.2.2.2.2.2.2.1
theorem dX1_exchange_17 : decode cX1_exchange 17 = .ok (.ireturn, 1) := bdX1_exchange_0.2.2.2.2.2.2.2.2.2.1
theorem dX1_exchange_18 : decode cX1_exchange 18 = .ok (.aload_n 0, 1) := bdX1_exchange_0.2.2.2.2.2.2.2.2.2.2.1
theorem dX1_exchange_19 : decode cX1_exchange 19 = .ok (.getfield 37, 3) := bdX1_exchange_0.2.2.2.2.2.2.2.2.2.2.2.1
theorem dX1_exchange_22 : decode cX1_exchange 22 = .ok (.iload_n 1, 1) := bdX1_exchange_0.2.2.2.2.2.2.2.2.2.2.2.2.1
theorem dX1_exchange_23 : decode cX1_exchange 23 = .ok (.aaload, 1) := bdX1_exchange_0.2.2.2.2.2.2.2.2.2.2.2.2.2.1
theorem dX1_exchange_24 : decode cX1_exchange 24 = .ok (.getfield 121, 3) := bdX1_exchange_0.2.2.2.2.2.2.2.2.2.2.2.2.2.2.1
theorem dX1_exchange_27 : decode cX1_exchange 27 = .ok (.istore_n 3, 1) := bdX1_exchange_0.2.2.2.2.2.2.2.2.2.2.2.2.2.2.2
theorem bdX1_exchange_28 : decode cX1_exchange 28 = .ok (.aload_n 0, 1) ∧ decode cX1_exchange 29 = .ok (.getfield 37, 3) ∧ decode cX1_exchange 32 = .ok (.iload_n 2, 1) ∧ decode cX1_exchange 33 = .ok (.aaload, 1) ∧ decode cX1_exchange 34 = .ok (.getfield 121, 3) ∧ decode cX1_exchange 37 = .ok (.istore 4, 2) ∧ decode cX1_exchange 39 = .ok (.aload_n 0, 1) ∧ decode cX1_exchange 40 = .ok (.iload_n 3, 1) ∧ decode cX1_exchange 41 = .ok (.invokevirtual 110, 3) ∧ decode cX1_exchange 44 = .ok (.ifCond .eq 12, 3) ∧ decode cX1_exchange 47 = .ok (.aload_n 0, 1) ∧ decode cX1_exchange 48 = .ok (.iload 4, 2) ∧ decode cX1_exchange 50 = .ok (.invokevirtual 110, 3) ∧ decode cX1_exchange 53 = .ok (.ifCond .ne 5, 3) ∧ decode cX1_exchange 56 = .ok (.iconst 0, 1) ∧ decode cX1_exchange 57 = .ok (.ireturn, 1) := by decide +kernel
theorem dX1_exchange_28 : decode cX1_exchange 28 = .ok (.aload_n 0, 1) := bdX1_exchange_28.1
theorem dX1_exchange_29 : decode cX1_exchange 29 = .ok (.getfield 37, 3) := bdX1_exchange_28.2.1
theorem dX1_exchange_32 : decode cX1_exchange 32 = .ok (.iload_n 2, 1) := bdX1_exchange_28.2.2.1
theorem dX1_exchange_33 : decode cX1_exchange 33 = .ok (.aaload, 1) := bdX1_exchange_28.2.2.2.1
theorem dX1_exchange_34 : decode cX1_exchange 34 = .ok (.getfield 121, 3) := bdX1_exchange_28.2.2.2.2.1
theorem dX1_exchange_37 : decode cX1_exchange 37 = .ok (.istore 4, 2) := bdX1_exchange_28.2.2.2.2.2.1
theorem dX1_exchange_39 : decode cX1_exchange 39 = .ok (.aload_n 0, 1) := bdX1_exchange_28.2.2.2.2.2.2.1
theorem dX1_exchange_40 : decode cX1_exchange 40 = .ok (.iload_n 3, 1) := bdX1_exchange_28.2.2.2.2.2.2.2.1
theorem dX1_exchange_41 : decode cX1_exchange 41 = .ok (.invokevirtual 110, 3) := bdX1_exchange_28.2.2.2.2.2.2.2.2.1
theorem dX1_exchange_44 : decode cX1_exchange 44 = .ok (.ifCond .eq 12, 3) := bdX1_exchange_28.2.2.2.2.2.2.2.2.2.1
theorem dX1_exchange_47 : decode cX1_exchange 47 = .ok (.aload_n 0, 1) := bdX1_exchange_28.2.2.2.2.2.2.2.2.2.2.1
theorem dX1_exchange_48 : decode cX1_exchange 48 = .ok (.iload 4, 2) := bdX1_exchange_28.2.2.2.2.2.2.2.2.2.2.2.1
theorem dX1_exchange_50 : decode cX1_exchange 50 = .ok (.invokevirtual 110, 3) := bdX1_exchange_28.2.2.2.2.2.2.2.2.2.2.2.2.1
theorem dX1_exchange_53 : decode cX1_exchange 53 = .ok (.ifCond .ne 5, 3) := bdX1_exchange_28.2.2.2.2.2.2.2.2.2.2.2.2.2.1
theorem dX1_exchange_56 : decode cX1_exchange 56 = .ok (.iconst 0, 1) := bdX1_exchange_28.2.2.2.2.2.2.2.2.2.2.2.2.2.2.1
theorem dX1_exchange_57 : decode cX1_exchange 57 = .ok (.ireturn, 1) := bdX1_exchange_28.2.2.2.2.2.2.2.2.2.2.2.2.2.2.2
theorem bdX1_exchange_58 : decode cX1_exchange 58 = .ok (.aload_n 0, 1) ∧ decode cX1_exchange 59 = .ok (.iload_n 1, 1) ∧ decode cX1_exchange 60 = .ok (.iload 4, 2) ∧ decode cX1_exchange 62 = .ok (.invokevirtual 117, 3) ∧ decode cX1_exchange 65 = .ok (.aload_n 0, 1) ∧ decode cX1_exchange 66 = .ok (.iload_n 2, 1) ∧ decode cX1_exchange 67 = .ok (.iload_n 3, 1) ∧ decode cX1_exchange 68 = .ok (.invokevirtual 117, 3) ∧ decode cX1_exchange 71 = .ok (.aload_n 0, 1) ∧ decode cX1_exchange 72 = .ok (.iload_n 1, 1) ∧ decode cX1_exchange 73 = .ok (.iload 4, 2) ∧ decode cX1_exchange 75 = .ok (.invokevirtual 113, 3) ∧ decode cX1_exchange 78 = .ok (.ifCond .ne 12, 3) ∧ decode cX1_exchange 81 = .ok (.aload_n 0, 1) ∧ decode cX1_exchange 82 = .ok (.iload_n 2, 1) ∧ decode cX1_exchange 83 = .ok (.iload_n 3, 1) := by decide +kernel
theorem dX1_exchange_58 : decode cX1_exchange 58 = .ok (.aload_n 0, 1) := bdX1_exchange_58.1
theorem dX1_exchange_59 : decode cX1_exchange 59 = .ok (.iload_n 1, 1) := bdX1_exchange_58.2.1
theorem dX1_exchange_60 : decode cX1_exchange 60 = .ok (.iload 4, 2) := bdX1_exchange_58.2.2.1
theorem dX1_exchange_62 : decode cX1_exchange 62 = .ok (.invokevirtual 117, 3) := bdX1_exchange_58.2.2.2.1
theorem dX1_exchange_65 : decode cX1_exchange 65 = .ok (.aload_n 0, 1) := bdX1_exchange_58.2.2.2.2.1
theorem dX1_exchange_66 : decode cX1_exchange 66 = .ok (.iload_n 2, 1) := bdX1_exchange_58.2.2.2.2.2.1
theorem dX1_exchange_67 : decode cX1_exchange 67 = .ok (.iload_n 3, 1) := bdX1_exchange_58.2.2.2.2.2.2.1
theorem dX1_exchange_68 : decode cX1_exchange 68 = .ok (.invokevirtual 117, 3) := bdX1_exchange_58.2.2.2.2.2.2.2.1
theorem dX1_exchange_71 : decode cX1_exchange 71 = .ok (.aload_n 0, 1) := bdX1_exchange_58.2.2.2.2.2.2.2.2.1
theorem dX1_exchange_72 : decode cX1_exchange 72 = .ok (.iload_n 1, 1) := bdX1_exchange_58.2.2.2.2.2.2.2.2.2.1
theorem dX1_exchange_73 : decode cX1_exchange 73 = .ok (.iload 4, 2) := bdX1_exchange_58.2.2.2.2.2.2.2.2.2.2.1
theorem dX1_exchange_75 : decode cX1_exchange 75 = .ok (.invokevirtual 113, 3) := bdX1_exchange_58.2.2.2.2.2.2.2.2.2.2.2.1
theorem dX1_exchange_78 : decode cX1_exchange 78 = .ok (.ifCond .ne 12, 3) := bdX1_exchange_58.2.2.2.2.2.2.2.2.2.2.2.2.1
theorem dX1_exchange_81 : decode cX1_exchange 81 = .ok (.aload_n 0, 1) := bdX1_exchange_58.2.2.2.2.2.2.2.2.2.2.2.2.2.1
theorem dX1_exchange_82 : decode cX1_exchange 82 = .ok (.iload_n 2, 1) := bdX1_exchange_58.2.2.2.2.2.2.2.2.2.2.2.2.2.2.1
theorem dX1_exchange_83 : decode cX1_exchange 83 = .ok (.iload_n 3, 1) := bdX1_exchange_58.2.2.2.2.2.2.2.2.2.2.2.2.2.2.2
theorem bdX1_exchange_84 : decode cX1_exchange 84 = .ok (.invokevirtual 113, 3) ∧ decode cX1_exchange 87 = .ok (.ifCond .eq 18, 3) ∧ decode cX1_exchange 90 = .ok (.aload_n 0, 1) ∧ decode cX1_exchange 91 = .ok (.iload_n 1, 1) ∧ decode cX1_exchange 92 = .ok (.iload_n 3, 1) ∧ decode cX1_exchange 93 = .ok (.invokevirtual 117, 3) ∧ decode cX1_exchange 96 = .ok (.aload_n 0, 1) ∧ decode cX1_exchange 97 = .ok (.iload_n 2, 1) ∧ decode cX1_exchange 98 = .ok (.iload 4, 2) ∧ decode cX1_exchange 100 = .ok (.invokevirtual 117, 3) ∧ decode cX1_exchange 103 = .ok (.iconst 0, 1) ∧ decode cX1_exchange 104 = .ok (.ireturn, 1) ∧ decode cX1_exchange 105 = .ok (.iconst 1, 1) ∧ decode cX1_exchange 106 = .ok (.ireturn, 1) := by decide +kernel
theorem dX1_exchange_84 : decode cX1_exchange 84 = .ok (.invokevirtual 113, 3) := bdX1_exchange_84.1
theorem dX1_exchange_87 : decode cX1_exchange 87 = .ok (.ifCond .eq 18, 3) := bdX1_exchange_84.2.1
theorem dX1_exchange_90 : decode cX1_exchange 90 = .ok (.aload_n 0, 1) := bdX1_exchange_84.2.2.1
theorem dX1_exchange_91 : decode cX1_exchange 91 = .ok (.iload_n 1, 1) := bdX1_exchange_84.2.2.2.1
theorem dX1_exchange_92 : decode cX1_exchange 92 = .ok (.iload_n 3, 1) := bdX1_exchange_84.2.2.2.2.1
theorem dX1_exchange_93 : decode cX1_exchange 93 = .ok (.invokevirtual 117, 3) := bdX1_exchange_84.2.2.2.2.2.1
theorem dX1_exchange_96 : decode cX1_exchange 96 = .ok (.aload_n 0, 1) := bdX1_exchange_84.2.2.2.2.2.2.1
theorem dX1_exchange_97 : decode cX1_exchange 97 = .ok (.iload_n 2, 1) := bdX1_exchange_84.2.2.2.2.2.2.2.1
theorem dX1_exchange_98 : decode cX1_exchange 98 = .ok (.iload 4, 2) := bdX1_exchange_84.2.2.2.2.2.2.2.2.1
theorem dX1_exchange_100 : decode cX1_exchange 100 = .ok (.invokevirtual 117, 3) := bdX1_exchange_84.2.2.2.2.2.2.2.2.2.1
theorem dX1_exchange_103 : decode cX1_exchange 103 = .ok (.iconst 0, 1) := bdX1_exchange_84.2.2.2.2.2.2.2.2.2.2.1
theorem dX1_exchange_104 : decode cX1_exchange 104 = .ok (.ireturn, 1) := bdX1_exchange_84.2.2.2.2.2.2.2.2.2.2.2.1
theorem dX1_exchange_105 : decode cX1_exchange 105 = .ok (.iconst 1, 1) := bdX1_exchange_84.2.2.2.2.2.2.2.2.2.2.2.2.1
theorem dX1_exchange_106 : decode cX1_exchange 106 = .ok (.ireturn, 1) := bdX1_exchange_84.2.2.2.2.2.2.2.2.2.2.2.2.2
theorem bdX1_trade_0 : decode cX1_trade 0 = .ok (.iconst 0, 1) ∧ decode cX1_trade 1 = .ok (.istore_n 1, 1) ∧ decode cX1_trade 2 = .ok (.iload_n 1, 1) ∧ decode cX1_trade 3 = .ok (.aload_n 0, 1) ∧ decode cX1_trade 4 = .ok (.getfield 34, 3) ∧ decode cX1_trade 7 = .ok (.if_icmp .ge 111, 3) ∧ decode cX1_trade 10 = .ok (.aload_n 0, 1) ∧ decode cX1_trade 11 = .ok (.getfield 37, 3) ∧ decode cX1_trade 14 = .ok (.iload_n 1, 1) ∧ decode cX1_trade 15 = .ok (.aaload, 1) ∧ decode cX1_trade 16 = .ok (.astore_n 2, 1) ∧ decode cX1_trade 17 = .ok (.aload_n 0, 1) ∧ decode cX1_trade 18 = .ok (.aload_n 2, 1) ∧ decode cX1_trade 19 = .ok (.getfield 121, 3) ∧ decode cX1_trade 22 = .ok (.invokevirtual 110, 3) ∧ decode cX1_trade 25 = .ok (.ifCond .eq 68, 3) := by decide +kernel
theorem dX1_trade_0 : decode cX1_trade 0 = .ok (.iconst 0, 1) := bdX1_trade_0.1
theorem dX1_trade_1 : decode cX1_trade 1 = .ok (.istore_n 1, 1) := bdX1_trade_0.2.1
theorem dX1_trade_2 : decode cX1_trade 2 = .ok (.iload_n 1, 1) := bdX1_trade_0.2.2.1
theorem dX1_trade_3 : decode cX1_trade 3 = .ok (.aload_n 0, 1) := bdX1_trade_0.2.2.2.1
theorem dX1_trade_4 : decode cX1_trade 4 = .ok (.getfield 34, 3) := bdX1_trade_0.2.2.2.2.1
theorem dX1_trade_7 : decode cX1_trade 7 = .ok (.if_icmp .ge 111, 3) := bdX1_trade_0.2.2.2.2.2.1
theorem dX1_trade_10 : decode cX1_trade 10 = .ok (.aload_n 0, 1) := bdX1_trade_0.2.2.2.2.2.2.1
theorem dX1_trade_11 : decode cX1_trade 11 = .ok (.getfield 37, 3) := bdX1_trade_0.2.2.2.2.2.2.2.1
theorem dX1_trade_14 : decode cX1_trade 14 = .ok (.iload_n 1, 1) := bdX1_trade_0.2.2.2.2.2.2.2.2.1
theorem dX1_trade_15 : decode cX1_trade 15 = .ok (.aaload, 1) := bdX1_trade_0.2.2.2.2.2.2.2.2.2.1
theorem dX1_trade_16 : decode cX1_trade 16 = .ok (.astore_n 2, 1) := bdX1_trade_0.2.2.2.2.2.2.2.2.2.2.1
theorem dX1_trade_17 : decode cX1_trade 17 = .ok (.aload_n 0, 1) := bdX1_trade_0.2.2.2.2.2.2.2.2.2.2.2.1
theorem dX1_trade_18 : decode cX1_trade 18 = .ok (.aload_n 2, 1) := bdX1_trade_0.2.2.2.2.2.2.2.2.2.2.2.2.1
theorem dX1_trade_19 : decode cX1_trade 19 = .ok (.getfield 121, 3) := bdX1_trade_0.2.2.2.2.2.2.2.2.2.2.2.2.2.1
theorem dX1_trade_22 : decode cX1_trade 22 = .ok (.invokevirtual 110, 3) := bdX1_trade_0.2.2.2.2.2.2.2.2.2.2.2.2.2.2.1
theorem dX1_trade_25 : decode cX1_trade 25 = .ok (.ifCond .eq 68, 3) := bdX1_trade_0.2.2.2.2.2.2.2.2.2.2.2.2.2.2.2
theorem bdX1_trade_28 : decode cX1_trade 28 = .ok (.aload_n 0, 1) ∧ decode cX1_trade 29 = .ok (.getfield 44, 3) ∧ decode cX1_trade 32 = .ok (.aload_n 2, 1) ∧ decode cX1_trade 33 = .ok (.getfield 121, 3) ∧ decode cX1_trade 36 = .ok (.aaload, 1) ∧ decode cX1_trade 37 = .ok (.astore_n 3, 1) ∧ decode cX1_trade 38 = .ok (.aload_n 2, 1) ∧ decode cX1_trade 39 = .ok (.dup, 1) ∧ decode cX1_trade 40 = .ok (.getfield 158, 3) ∧ decode cX1_trade 43 = .ok (.aload_n 3, 1) ∧ decode cX1_trade 44 = .ok (.getfield 161, 3) ∧ decode cX1_trade 47 = .ok (.i2l, 1) ∧ decode cX1_trade 48 = .ok (.ladd, 1) ∧ decode cX1_trade 49 = .ok (.putfield 158, 3) ∧ decode cX1_trade 52 = .ok (.aload_n 2, 1) ∧ decode cX1_trade 53 = .ok (.dup, 1) := by decide +kernel
theorem dX1_trade_28 : decode cX1_trade 28 = .ok (.aload_n 0, 1) := bdX1_trade_28.1
theorem dX1_trade_29 : decode cX1_trade 29 = .ok (.getfield 44, 3) := bdX1_trade_28.2.1
theorem dX1_trade_32 : decode cX1_trade 32 = .ok (.aload_n 2, 1) := bdX1_trade_28.2.2.1
theorem dX1_trade_33 : decode cX1_trade 33 = .ok (.getfield 121, 3) := bdX1_trade_28.2.2.2.1
theorem dX1_trade_36 : decode cX1_trade 36 = .ok (.aaload, 1) := bdX1_trade_28.2.2.2.2.1
theorem dX1_trade_37 : decode cX1_trade 37 = .ok (.astore_n 3, 1) := bdX1_trade_28.2.2.2.2.2.1
theorem dX1_trade_38 : decode cX1_trade 38 = .ok (.aload_n 2, 1) := bdX1_trade_28.2.2.2.2.2.2.1
theorem dX1_trade_39 : decode cX1_trade 39 = .ok (.dup, 1) := bdX1_trade_28.2.2.2.2.2.2.2.1
theorem dX1_trade_40 : decode cX1_trade 40 = .ok (.getfield 158, 3) := bdX1_trade_28.2.2.2.2.2.2.2.2.1
theorem dX1_trade_43 : decode cX1_trade 43 = .ok (.aload_n 3, 1) := bdX1_trade_28.2.2.2.2.2.2.2.2.2.1
theorem dX1_trade_44 : decode cX1_trade 44 = .ok (.getfield 161, 3) := bdX1_trade_28.2.2.2.2.2.2.2.2.2.2.1
theorem dX1_trade_47 : decode cX1_trade 47 = .ok (.i2l, 1) := bdX1_trade_28.2.2.2.2.2.2.2.2.2.2.2.1
theorem dX1_trade_48 : decode cX1_trade 48 = .ok (.ladd, 1) := bdX1_trade_28.2.2.2.2.2.2.2.2.2.2.2.2.1
theorem dX1_trade_49 : decode cX1_trade 49 = .ok (.putfield 158, 3) := bdX1_trade_28.2.2.2.2.2.2.2.2.2.2.2.2.2.1
theorem dX1_trade_52 : decode cX1_trade 52 = .ok (.aload_n 2, 1) := bdX1_trade_28.2.2.2.2.2.2.2.2.2.2.2.2.2.2.1
theorem dX1_trade_53 : decode cX1_trade 53 = .ok (.dup, 1) := bdX1_trade_28.2.2.2.2.2.2.2.2.2.2.2.2.2.2.2
theorem bdX1_trade_54 : decode cX1_trade 54 = .ok (.getfield 164, 3) ∧ decode cX1_trade 57 = .ok (.iconst 1, 1) ∧ decode cX1_trade 58 = .ok (.iadd, 1) ∧ decode cX1_trade 59 = .ok (.putfield 164, 3) ∧ decode cX1_trade 62 = .ok (.aload_n 2, 1) ∧ decode cX1_trade 63 = .ok (.iconst 0, 1) ∧ decode cX1_trade 64 = .ok (.putfield 95, 3) ∧ decode cX1_trade 67 = .ok (.aload_n 3, 1) ∧ decode cX1_trade 68 = .ok (.dup, 1) ∧ decode cX1_trade 69 = .ok (.getfield 167, 3) ∧ decode cX1_trade 72 = .ok (.aload_n 3, 1) ∧ decode cX1_trade 73 = .ok (.getfield 161, 3) ∧ decode cX1_trade 76 = .ok (.iadd, 1) ∧ decode cX1_trade 77 = .ok (.putfield 167, 3) ∧ decode cX1_trade 80 = .ok (.aload_n 3, 1) ∧ decode cX1_trade 81 = .ok (.dup, 1) := by decide +kernel
theorem dX1_trade_54 : decode cX1_trade 54 = .ok (.getfield 164, 3) := bdX1_trade_54.1
theorem dX1_trade_57 : decode cX1_trade 57 = .ok (.iconst 1, 1) := bdX1_trade_54.2.1
theorem dX1_trade_58 : decode cX1_trade 58 = .ok (.iadd, 1) := bdX1_trade_54.2.2.1
theorem dX1_trade_59 : decode cX1_trade 59 = .ok (.putfield 164, 3) := bdX1_trade_54.2.2.2.1
theorem dX1_trade_62 : decode cX1_trade 62 = .ok (.aload_n 2, 1) := bdX1_trade_54.2.2.2.2.1
theorem dX1_trade_63 : decode cX1_trade 63 = .ok (.iconst 0, 1) := bdX1_trade_54.2.2.2.2.2.1
theorem dX1_trade_64 : decode cX1_trade 64 = .ok (.putfield 95, 3) := bdX1_trade_54.2.2.2.2.2.2.1
theorem dX1_trade_67 : decode cX1_trade 67 = .ok (.aload_n 3, 1) := bdX1_trade_54.2.2.2.2.2.2.2.1
theorem dX1_trade_68 : decode cX1_trade 68 = .ok (.dup, 1) := bdX1_trade_54.2.2.2.2.2.2.2.2.1
theorem dX1_trade_69 : decode cX1_trade 69 = .ok (.getfield 167, 3) := bdX1_trade_54.2.2.2.2.2.2.2.2.2.1
theorem dX1_trade_72 : decode cX1_trade 72 = .ok (.aload_n 3, 1) := bdX1_trade_54.2.2.2.2.2.2.2.2.2.2.1
theorem dX1_trade_73 : decode cX1_trade 73 = .ok (.getfield 161, 3) := bdX1_trade_54.2.2.2.2.2.2.2.2.2.2.2.1
theorem dX1_trade_76 : decode cX1_trade 76 = .ok (.iadd, 1) := bdX1_trade_54.2.2.2.2.2.2.2.2.2.2.2.2.1
theorem dX1_trade_77 : decode cX1_trade 77 = .ok (.putfield 167, 3) := bdX1_trade_54.2.2.2.2.2.2.2.2.2.2.2.2.2.1
theorem dX1_trade_80 : decode cX1_trade 80 = .ok (.aload_n 3, 1) := bdX1_trade_54.2.2.2.2.2.2.2.2.2.2.2.2.2.2.1
theorem dX1_trade_81 : decode cX1_trade 81 = .ok (.dup, 1) := bdX1_trade_54.2.2.2.2.2.2.2.2.2.2.2.2.2.2.2
theorem bdX1_trade_82 : decode cX1_trade 82 = .ok (.getfield 170, 3) ∧ decode cX1_trade 85 = .ok (.iconst 1, 1) ∧ decode cX1_trade 86 = .ok (.iadd, 1) ∧ decode cX1_trade 87 = .ok (.putfield 170, 3) ∧ decode cX1_trade 90 = .ok (.goto 22, 3) ∧ decode cX1_trade 93 = .ok (.aload_n 2, 1) ∧ decode cX1_trade 94 = .ok (.getfield 81, 3) ∧ decode cX1_trade 97 = .ok (.bipush (-6), 2) ∧ decode cX1_trade 99 = .ok (.if_icmp .eq 13, 3) ∧ decode cX1_trade 102 = .ok (.aload_n 2, 1) ∧ decode cX1_trade 103 = .ok (.dup, 1) ∧ decode cX1_trade 104 = .ok (.getfield 95, 3) ∧ decode cX1_trade 107 = .ok (.iconst 1, 1) ∧ decode cX1_trade 108 = .ok (.iadd, 1) ∧ decode cX1_trade 109 = .ok (.putfield 95, 3) ∧ decode cX1_trade 112 = .ok (.iinc 1 1, 3) := by decide +kernel
theorem dX1_trade_82 : decode cX1_trade 82 = .ok (.getfield 170, 3) := bdX1_trade_82.1
theorem dX1_trade_85 : decode cX1_trade 85 = .ok (.iconst 1, 1) := bdX1_trade_82.2.1
theorem dX1_trade_86 : decode cX1_trade 86 = .ok (.iadd, 1) := bdX1_trade_82.2.2.1
theorem dX1_trade_87 : decode cX1_trade 87 = .ok (.putfield 170, 3) := bdX1_trade_82.2.2.2.1
theorem dX1_trade_90 : decode cX1_trade 90 = .ok (.goto 22, 3) := bdX1_trade_82.2.2.2.2.1
theorem dX1_trade_93 : decode cX1_trade 93 = .ok (.aload_n 2, 1) := bdX1_trade_82.2.2.2.2.2.1
theorem dX1_trade_94 : decode cX1_trade 94 = .ok (.getfield 81, 3) := bdX1_trade_82.2.2.2.2.2.2.1
theorem dX1_trade_97 : decode cX1_trade 97 = .ok (.bipush (-6), 2) := bdX1_trade_82.2.2.2.2.2.2.2.1
theorem dX1_trade_99 : decode cX1_trade 99 = .ok (.if_icmp .eq 13, 3) := bdX1_trade_82.2.2.2.2.2.2.2.2.1
theorem dX1_trade_102 : decode cX1_trade 102 = .ok (.aload_n 2, 1) := bdX1_trade_82.2.2.2.2.2.2.2.2.2.1
theorem dX1_trade_103 : decode cX1_trade 103 = .ok (.dup, 1) := bdX1_trade_82.2.2.2.2.2.2.2.2.2.2.1
theorem dX1_trade_104 : decode cX1_trade 104 = .ok (.getfield 95, 3) := bdX1_trade_82.2.2.2.2.2.2.2.2.2.2.2.1
theorem dX1_trade_107 : decode cX1_trade 107 = .ok (.iconst 1, 1) := bdX1_trade_82.2.2.2.2.2.2.2.2.2.2.2.2.1
theorem dX1_trade_108 : decode cX1_trade 108 = .ok (.iadd, 1) := bdX1_trade_82.2.2.2.2.2.2.2.2.2.2.2.2.2.1
theorem dX1_trade_109 : decode cX1_trade 109 = .ok (.putfield 95, 3) := bdX1_trade_82.2.2.2.2.2.2.2.2.2.2.2.2.2.2.1
theorem dX1_trade_112 : decode cX1_trade 112 = .ok (.iinc 1 1, 3) := bdX1_trade_82.2.2.2.2.2.2.2.2.2.2.2.2.2.2.2
theorem bdX1_trade_115 : decode cX1_trade 115 = .ok (.goto (-113), 3) ∧ decode cX1_trade 118 = .ok (.return_, 1) := by decide +kernel
theorem dX1_trade_115 : decode cX1_trade 115 = .ok (.goto (-113), 3) := bdX1_trade_115.1
theorem dX1_trade_118 : decode cX1_trade 118 = .ok (.return_, 1) := bdX1_trade_115.2
theorem bdX2_init_0 : decode cX2_init 0 = .ok (.aload_n 0, 1) ∧ decode cX2_init 1 = .ok (.invokespecial 3, 3) ∧ decode cX2_init 4 = .ok (.aload_n 0, 1) ∧ decode cX2_init 5 = .ok (.bipush 7, 2) ∧ decode cX2_init 7 = .ok (.anewarray 11, 3) ∧ decode cX2_init 10 = .ok (.putfield 13, 3) ∧ decode cX2_init 13 = .ok (.iconst 0, 1) ∧ decode cX2_init 14 = .ok (.istore_n 1, 1) ∧ decode cX2_init 15 = .ok (.iload_n 1, 1) ∧ decode cX2_init 16 = .ok (.bipush 7, 2) ∧ decode cX2_init 18 = .ok (.if_icmp .ge 22, 3) ∧ decode cX2_init 21 = .ok (.aload_n 0, 1) ∧ decode cX2_init 22 = .ok (.getfield 13, 3) ∧ decode cX2_init 25 = .ok (.iload_n 1, 1) ∧ decode cX2_init 26 = .ok (.new 11, 3) ∧ decode cX2_init 29 = .ok (.dup, 1) := by decide +kernel
theorem dX2_init_0 : decode cX2_init 0 = .ok (.aload_n 0, 1) := bdX2_init_0.1
theorem dX2_init_1 : decode cX2_init 1 = .ok (.invokespecial 3, 3) := bdX2_init_0.2.1
theorem dX2_init_4 : decode cX2_init 4 = .ok (.aload_n 0, 1) := bdX2_init_0.2.2.1
theorem dX2_init_5 : decode cX2_init 5 = .ok (.bipush 7, 2) := bdX2_init_0.2.2.2.1
theorem dX2_init_7 : decode cX2_init 7 = .ok (.anewarray 11, 3) := bdX2_init_0.2.2.2.2.1
theorem dX2_init_10 : decode cX2_init 10 = .ok (.putfield 13, 3) := bdX2_init_0.2.2.2.2.2.1
theorem dX2_init_13 : decode cX2_init 13 = .ok (.iconst 0, 1) := bdX2_init_0.2.2.2.2.2.2.1
theorem dX2_init_14 : decode cX2_init 14 = .ok (.istore_n 1, 1) := bdX2_init_0.2.2.2.2.2.2.2.1
theorem dX2_init_15 : decode cX2_init 15 = .ok (.iload_n 1, 1) := bdX2_init_0.2.2.2.2.2.2.2.2.1
theorem dX2_init_16 : decode cX2_init 16 = .ok (.bipush 7, 2) := bdX2_init_0.2.2.2.2.2.2.2.2.2.1
theorem dX2_init_18 : decode cX2_init 18 = .ok (.if_icmp .ge 22, 3) := bdX2_init_0.2.2.2.2.2.2.2.2.2.2.1
theorem dX2_init_21 : decode cX2_init 21 = .ok (.aload_n 0, 1) := bdX2_init_0.2.2.2.2.2.2.2.2.2.2.2.1
theorem dX2_init_22 : decode cX2_init 22 = .ok (.getfield 13, 3) := bdX2_init_0.2.2.2.2.2.2.2.2.2.2.2.2.1
theorem dX2_init_25 : decode cX2_init 25 = .ok (.iload_n 1, 1) := bdX2_init_0.2.2.2.2.2.2.2.2.2.2.2.2.2.1
theorem dX2_init_26 : decode cX2_init 26 = .ok (.new 11, 3) := bdX2_init_0.2.2.2.2.2.2.2.2.2.2.2.2.2.2.1
theorem dX2_init_29 : decode cX2_init 29 = .ok (.dup, 1) := bdX2_init_0.2.2.2.2.2.2.2.2.2.2.2.2.2.2.2
theorem bdX2_init_30 : decode cX2_init 30 = .ok (.invokespecial 17, 3) ∧ decode cX2_init 33 = .ok (.aastore, 1) ∧ decode cX2_init 34 = .ok (.iinc 1 1, 3) ∧ decode cX2_init 37 = .ok (.goto (-22), 3) ∧ decode cX2_init 40 = .ok (.return_, 1) := by decide +kernel
theorem dX2_init_30 : decode cX2_init 30 = .ok (.invokespecial 17, 3) := bdX2_init_30.1
theorem dX2_init_33 : decode cX2_init 33 = .ok (.aastore, 1) := bdX2_init_30.2.1
theorem dX2_init_34 : decode cX2_init 34 = .ok (.iinc 1 1, 3) := bdX2_init_30.2.2.1
theorem dX2_init_37 : decode cX2_init 37 = .ok (.goto (-22), 3) := bdX2_init_30.2.2.2.1
theorem dX2_init_40 : decode cX2_init 40 = .ok (.return_, 1) := bdX2_init_30.2.2.2.2
theorem bdX2_prepare_0 : decode cX2_prepare 0 = .ok (.aload_n 0, 1) ∧ decode cX2_prepare 1 = .ok (.getfield 13, 3) ∧ decode cX2_prepare 4 = .ok (.aload_n 0, 1) ∧ decode cX2_prepare 5 = .ok (.getfield 18, 3) ∧ decode cX2_prepare 8 = .ok (.aload_n 0, 1) ∧ decode cX2_prepare 9 = .ok (.getfield 22, 3) ∧ decode cX2_prepare 12 = .ok (.iadd, 1) ∧ decode cX2_prepare 13 = .ok (.bipush 7, 2) ∧ decode cX2_prepare 15 = .ok (.irem, 1) ∧ decode cX2_prepare 16 = .ok (.aaload, 1) ∧ decode cX2_prepare 17 = .ok (.aload_n 1, 1) ∧ decode cX2_prepare 18 = .ok (.invokevirtual 25, 3) ∧ decode cX2_prepare 21 = .ok (.return_, 1) := by decide +kernel
theorem dX2_prepare_0 : decode cX2_prepare 0 = .ok (.aload_n 0, 1) := bdX2_prepare_0.1
theorem dX2_prepare_1 : decode cX2_prepare 1 = .ok (.getfield 13, 3) := bdX2_prepare_0.2.1
theorem dX2_prepare_4 : decode cX2_prepare 4 = .ok (.aload_n 0, 1) := bdX2_prepare_0.2.2.1
theorem dX2_prepare_5 : decode cX2_prepare 5 = .ok (.getfield 18, 3) := bdX2_prepare_0.2.2.2.1
theorem dX2_prepare_8 : decode cX2_prepare 8 = .ok (.aload_n 0, 1) := bdX2_prepare_0.2.2.2.2.1
theorem dX2_prepare_9 : decode cX2_prepare 9 = .ok (.getfield 22, 3) := bdX2_prepare_0.2.2.2.2.2.1
theorem dX2_prepare_12 : decode cX2_prepare 12 = .ok (.iadd, 1) := bdX2_prepare_0.2.2.2.2.2.2.1
theorem dX2_prepare_13 : decode cX2_prepare 13 = .ok (.bipush 7, 2) := bdX2_prepare_0.2.2.2.2.2.2.2.1
theorem dX2_prepare_15 : decode cX2_prepare 15 = .ok (.irem, 1) := bdX2_prepare_0.2.2.2.2.2.2.2.2.1
theorem dX2_prepare_16 : decode cX2_prepare 16 = .ok (.aaload, 1) := bdX2_prepare_0.2.2.2.2.2.2.2.2.2.1
theorem dX2_prepare_17 : decode cX2_prepare 17 = .ok (.aload_n 1, 1) := bdX2_prepare_0.2.2.2.2.2.2.2.2.2.2.1
theorem dX2_prepare_18 : decode cX2_prepare 18 = .ok (.invokevirtual 25, 3) := bdX2_prepare_0.2.2.2.2.2.2.2.2.2.2.2.1
theorem dX2_prepare_21 : decode cX2_prepare 21 = .ok (.return_, 1) := bdX2_prepare_0.2.2.2.2.2.2.2.2.2.2.2.2
theorem bdX2_keepPrepared_0 : decode cX2_keepPrepared 0 = .ok (.aload_n 0, 1) ∧ decode cX2_keepPrepared 1 = .ok (.getfield 22, 3) ∧ decode cX2_keepPrepared 4 = .ok (.bipush 6, 2) ∧ decode cX2_keepPrepared 6 = .ok (.if_icmp .ge 16, 3) ∧ decode cX2_keepPrepared 9 = .ok (.aload_n 0, 1) ∧ decode cX2_keepPrepared 10 = .ok (.dup, 1) ∧ decode cX2_keepPrepared 11 = .ok (.getfield 22, 3) ∧ decode cX2_keepPrepared 14 = .ok (.iconst 1, 1) ∧ decode cX2_keepPrepared 15 = .ok (.iadd, 1) ∧ decode cX2_keepPrepared 16 = .ok (.putfield 22, 3) ∧ decode cX2_keepPrepared 19 = .ok (.goto 16, 3) ∧ decode cX2_keepPrepared 22 = .ok (.aload_n 0, 1) ∧ decode cX2_keepPrepared 23 = .ok (.aload_n 0, 1) ∧ decode cX2_keepPrepared 24 = .ok (.getfield 18, 3) ∧ decode cX2_keepPrepared 27 = .ok (.iconst 1, 1) ∧ decode cX2_keepPrepared 28 = .ok (.iadd, 1) := by decide +kernel
theorem dX2_keepPrepared_0 : decode cX2_keepPrepared 0 = .ok (.aload_n 0, 1) := bdX2_keepPrepared_0.1
theorem dX2_keepPrepared_1 : decode cX2_keepPrepared 1 = .ok (.getfield 22, 3) := bdX2_keepPrepared_0.2.1
theorem dX2_keepPrepared_4 : decode cX2_keepPrepared 4 = .ok (.bipush 6, 2) := bdX2_keepPrepared_0.2.2.1
theorem dX2_keepPrepared_6 : decode cX2_keepPrepared 6 = .ok (.if_icmp .ge 16, 3) := bdX2_keepPrepared_0.2.2.2.1
theorem dX2_keepPrepared_9 : decode cX2_keepPrepared 9 = .ok (.aload_n 0, 1) := bdX2_keepPrepared_0.2.2.2.2.1
theorem dX2_keepPrepared_10 : decode cX2_keepPrepared 10 = .ok (.dup, 1) := bdX2_keepPrepared_0.2.2.2.2.2.1
theorem dX2_keepPrepared_11 : decode cX2_keepPrepared 11 = .ok (.getfield 22, 3) := bdX2_keepPrepared_0.2.2.2.2.2.2.1
theorem dX2_keepPrepared_14 : decode cX2_keepPrepared 14 = .ok (.iconst 1, 1) := bdX2_keepPrepared_0.2.2.2.2.2.2.2.1
theorem dX2_keepPrepared_15 : decode cX2_keepPrepared 15 = .ok (.iadd, 1) := bdX2_keepPrepared_0.2.2.2.2.2.2.2.2.1
theorem dX2_keepPrepared_16 : decode cX2_keepPrepared 16 = .ok (.putfield 22, 3) := bdX2_keepPrepared_0.2.2.2.2.2.2.2.2.2.1
theorem dX2_keepPrepared_19 : decode cX2_keepPrepared 19 = .ok (.goto 16, 3) := bdX2_keepPrepared_0.2.2.2.2.2.2.2.2.2.2.1
theorem dX2_keepPrepared_22 : decode cX2_keepPrepared 22 = .ok (.aload_n 0, 1) := bdX2_keepPrepared_0.2.2.2.2.2.2.2.2.2.2.2.1
theorem dX2_keepPrepared_23 : decode cX2_keepPrepared 23 = .ok (.aload_n 0, 1) := bdX2_keepPrepared_0.2.2.2.2.2.2.2.2.2.2.2.2.1
theorem dX2_keepPrepared_24 : decode cX2_keepPrepared 24 = .ok (.getfield 18, 3) := bdX2_keepPrepared_0.2.2.2.2.2.2.2.2.2.2.2.2.2.1
theorem dX2_keepPrepared_27 : decode cX2_keepPrepared 27 = .ok (.iconst 1, 1) := bdX2_keepPrepared_0.2.2.2.2.2.2.2.2.2.2.2.2.2.2.1
theorem dX2_keepPrepared_28 : decode cX2_keepPrepared 28 = .ok (.iadd, 1) := bdX2_keepPrepared_0.2.2.2.2.2.2.2.2.2.2.2.2.2.2.2
theorem bdX2_keepPrepared_29 : decode cX2_keepPrepared 29 = .ok (.bipush 7, 2) ∧ decode cX2_keepPrepared 31 = .ok (.irem, 1) ∧ decode cX2_keepPrepared 32 = .ok (.putfield 18, 3) ∧ decode cX2_keepPrepared 35 = .ok (.return_, 1) := by decide +kernel
theorem dX2_keepPrepared_29 : decode cX2_keepPrepared 29 = .ok (.bipush 7, 2) := bdX2_keepPrepared_29.1
theorem dX2_keepPrepared_31 : decode cX2_keepPrepared 31 = .ok (.irem, 1) := bdX2_keepPrepared_29.2.1
theorem dX2_keepPrepared_32 : decode cX2_keepPrepared 32 = .ok (.putfield 18, 3) := bdX2_keepPrepared_29.2.2.1
theorem dX2_keepPrepared_35 : decode cX2_keepPrepared 35 = .ok (.return_, 1) := bdX2_keepPrepared_29.2.2.2
theorem bdX2_takeBack_0 : decode cX2_takeBack 0 = .ok (.aload_n 0, 1) ∧ decode cX2_takeBack 1 = .ok (.getfield 22, 3) ∧ decode cX2_takeBack 4 = .ok (.ifCond .le 34, 3) ∧ decode cX2_takeBack 7 = .ok (.aload_n 0, 1) ∧ decode cX2_takeBack 8 = .ok (.dup, 1) ∧ decode cX2_takeBack 9 = .ok (.getfield 22, 3) ∧ decode cX2_takeBack 12 = .ok (.iconst 1, 1) ∧ decode cX2_takeBack 13 = .ok (.isub, 1) ∧ decode cX2_takeBack 14 = .ok (.putfield 22, 3) ∧ decode cX2_takeBack 17 = .ok (.aload_n 1, 1) ∧ decode cX2_takeBack 18 = .ok (.aload_n 0, 1) ∧ decode cX2_takeBack 19 = .ok (.getfield 13, 3) ∧ decode cX2_takeBack 22 = .ok (.aload_n 0, 1) ∧ decode cX2_takeBack 23 = .ok (.getfield 18, 3) ∧ decode cX2_takeBack 26 = .ok (.aload_n 0, 1) ∧ decode cX2_takeBack 27 = .ok (.getfield 22, 3) := by decide +kernel
theorem dX2_takeBack_0 : decode cX2_takeBack 0 = .ok (.aload_n 0, 1) := bdX2_takeBack_0.1
theorem dX2_takeBack_1 : decode cX2_takeBack 1 = .ok (.getfield 22, 3) := bdX2_takeBack_0.2.1
theorem dX2_takeBack_4 : decode cX2_takeBack 4 = .ok (.ifCond .le 34, 3) := bdX2_takeBack_0.2.2.1
theorem dX2_takeBack_7 : decode cX2_takeBack 7 = .ok (.aload_n 0, 1) := bdX2_takeBack_0.2.2.2.1
theorem dX2_takeBack_8 : decode cX2_takeBack 8 = .ok (.dup, 1) := bdX2_takeBack_0.2.2.2.2.1
theorem dX2_takeBack_9 : decode cX2_takeBack 9 = .ok (.getfield 22, 3) := bdX2_takeBack_0.2.2.2.2.2.1
theorem dX2_takeBack_12 : decode cX2_takeBack 12 = .ok (.iconst 1, 1) := bdX2_takeBack_0.2.2.2.2.2.2.1
theorem dX2_takeBack_13 : decode cX2_takeBack 13 = .ok (.isub, 1) := bdX2_takeBack_0.2.2.2.2.2.2.2.1
theorem dX2_takeBack_14 : decode cX2_takeBack 14 = .ok (.putfield 22, 3) := bdX2_takeBack_0.2.2.2.2.2.2.2.2.1
theorem dX2_takeBack_17 : decode cX2_takeBack 17 = .ok (.aload_n 1, 1) := bdX2_takeBack_0.2.2.2.2.2.2.2.2.2.1
theorem dX2_takeBack_18 : decode cX2_takeBack 18 = .ok (.aload_n 0, 1) := bdX2_takeBack_0.2.2.2.2.2.2.2.2.2.2.1
theorem dX2_takeBack_19 : decode cX2_takeBack 19 = .ok (.getfield 13, 3) := bdX2_takeBack_0.2.2.2.2.2.2.2.2.2.2.2.1
theorem dX2_takeBack_22 : decode cX2_takeBack 22 = .ok (.aload_n 0, 1) := bdX2_takeBack_0.2.2.2.2.2.2.2.2.2.2.2.2.1
theorem dX2_takeBack_23 : decode cX2_takeBack 23 = .ok (.getfield 18, 3) := bdX2_takeBack_0.2.2.2.2.2.2.2.2.2.2.2.2.2.1
theorem dX2_takeBack_26 : decode cX2_takeBack 26 = .ok (.aload_n 0, 1) := bdX2_takeBack_0.2.2.2.2.2.2.2.2.2.2.2.2.2.2.1
theorem dX2_takeBack_27 : decode cX2_takeBack 27 = .ok (.getfield 22, 3) := bdX2_takeBack_0.2.2.2.2.2.2.2.2.2.2.2.2.2.2.2
theorem bdX2_takeBack_30 : decode cX2_takeBack 30 = .ok (.iadd, 1) ∧ decode cX2_takeBack 31 = .ok (.bipush 7, 2) ∧ decode cX2_takeBack 33 = .ok (.irem, 1) ∧ decode cX2_takeBack 34 = .ok (.aaload, 1) ∧ decode cX2_takeBack 35 = .ok (.invokevirtual 25, 3) ∧ decode cX2_takeBack 38 = .ok (.return_, 1) := by decide +kernel
theorem dX2_takeBack_30 : decode cX2_takeBack 30 = .ok (.iadd, 1) := bdX2_takeBack_30.1
theorem dX2_takeBack_31 : decode cX2_takeBack 31 = .ok (.bipush 7, 2) := bdX2_takeBack_30.2.1
theorem dX2_takeBack_33 : decode cX2_takeBack 33 = .ok (.irem, 1) := bdX2_takeBack_30.2.2.1
theorem dX2_takeBack_34 : decode cX2_takeBack 34 = .ok (.aaload, 1) := bdX2_takeBack_30.2.2.2.1
theorem dX2_takeBack_35 : decode cX2_takeBack 35 = .ok (.invokevirtual 25, 3) := bdX2_takeBack_30.2.2.2.2.1
theorem dX2_takeBack_38 : decode cX2_takeBack 38 = .ok (.return_, 1) := bdX2_takeBack_30.2.2.2.2.2
theorem bdX3_init_0 : decode cX3_init 0 = .ok (.aload_n 0, 1) ∧ decode cX3_init 1 = .ok (.invokespecial 3, 3) ∧ decode cX3_init 4 = .ok (.aload_n 0, 1) ∧ decode cX3_init 5 = .ok (.bipush 80, 2) ∧ decode cX3_init 7 = .ok (.newarray .char, 2) ∧ decode cX3_init 9 = .ok (.putfield 9, 3) ∧ decode cX3_init 12 = .ok (.return_, 1) := by decide +kernel
theorem dX3_init_0 : decode cX3_init 0 = .ok (.aload_n 0, 1) := bdX3_init_0.1
theorem dX3_init_1 : decode cX3_init 1 = .ok (.invokespecial 3, 3) := bdX3_init_0.2.1
theorem dX3_init_4 : decode cX3_init 4 = .ok (.aload_n 0, 1) := bdX3_init_0.2.2.1
theorem dX3_init_5 : decode cX3_init 5 = .ok (.bipush 80, 2) := bdX3_init_0.2.2.2.1
theorem dX3_init_7 : decode cX3_init 7 = .ok (.newarray .char, 2) := bdX3_init_0.2.2.2.2.1
theorem dX3_init_9 : decode cX3_init 9 = .ok (.putfield 9, 3) := bdX3_init_0.2.2.2.2.2.1
theorem dX3_init_12 : decode cX3_init 12 = .ok (.return_, 1) := bdX3_init_0.2.2.2.2.2.2
theorem bdX3_append_0 : decode cX3_append 0 = .ok (.lload_n 1, 1) ∧ decode cX3_append 1 = .ok (.invokestatic 15, 3) ∧ decode cX3_append 4 = .ok (.istore_n 3, 1) ∧ decode cX3_append 5 = .ok (.iload_n 3, 1) ∧ decode cX3_append 6 = .ok (.iconst 1, 1) ∧ decode cX3_append 7 = .ok (.if_icmp .ge 6, 3) ∧ decode cX3_append 10 = .ok (.bipush (-2), 2) ∧ decode cX3_append 12 = .ok (.ireturn, 1) ∧ decode cX3_append 13 = .ok (.aload_n 0, 1) ∧ decode cX3_append 14 = .ok (.getfield 19, 3) ∧ decode cX3_append 17 = .ok (.iload_n 3, 1) ∧ decode cX3_append 18 = .ok (.iadd, 1) ∧ decode cX3_append 19 = .ok (.bipush 80, 2) ∧ decode cX3_append 21 = .ok (.if_icmp .le 6, 3) ∧ decode cX3_append 24 = .ok (.bipush (-4), 2) ∧ decode cX3_append 26 = .ok (.ireturn, 1) := by decide +kernel
theorem dX3_append_0 : decode cX3_append 0 = .ok (.lload_n 1, 1) := bdX3_append_0.1
theorem dX3_append_1 : decode cX3_append 1 = .ok (.invokestatic 15, 3) := bdX3_append_0.2.1
theorem dX3_append_4 : decode cX3_append 4 = .ok (.istore_n 3, 1) := bdX3_append_0.2.2.1
theorem dX3_append_5 : decode cX3_append 5 = .ok (.iload_n 3, 1) := bdX3_append_0.2.2.2.1
theorem dX3_append_6 : decode cX3_append 6 = .ok (.iconst 1, 1) := bdX3_append_0.2.2.2.2.1
theorem dX3_append_7 : decode cX3_append 7 = .ok (.if_icmp .ge 6, 3) := bdX3_append_0.2.2.2.2.2.1
theorem dX3_append_10 : decode cX3_append 10 = .ok (.bipush (-2), 2) := bdX3_append_0.2.2.2.2.2.2.1
theorem dX3_append_12 : decode cX3_append 12 = .ok (.ireturn, 1) := bdX3_append_0.2.2.2.2.2.2.2.1
theorem dX3_append_13 : decode cX3_append 13 = .ok (.aload_n 0, 1) := bdX3_append_0.2.2.2.2.2.2.2.2.1
theorem dX3_append_14 : decode cX3_append 14 = .ok (.getfield 19, 3) := bdX3_append_0.2.2.2.2.2.2.2.2.2.1
theorem dX3_append_17 : decode cX3_append 17 = .ok (.iload_n 3, 1) := bdX3_append_0.2.2.2.2.2.2.2.2.2.2.1
theorem dX3_append_18 : decode cX3_append 18 = .ok (.iadd, 1) := bdX3_append_0.2.2.2.2.2.2.2.2.2.2.2.1
theorem dX3_append_19 : decode cX3_append 19 = .ok (.bipush 80, 2) := bdX3_append_0.2.2.2.2.2.2.2.2.2.2.2.2.1
theorem dX3_append_21 : decode cX3_append 21 = .ok (.if_icmp .le 6, 3) := bdX3_append_0.2.2.2.2.2.2.2.2.2.2.2.2.2.1
theorem dX3_append_24 : decode cX3_append 24 = .ok (.bipush (-4), 2) := bdX3_append_0.2.2.2.2.2.2.2.2.2.2.2.2.2.2.1
theorem dX3_append_26 : decode cX3_append 26 = .ok (.ireturn, 1) := bdX3_append_0.2.2.2.2.2.2.2.2.2.2.2.2.2.2.2
theorem bdX3_append_27 : decode cX3_append 27 = .ok (.iload_n 3, 1) ∧ decode cX3_append 28 = .ok (.iconst 1, 1) ∧ decode cX3_append 29 = .ok (.isub, 1) ∧ decode cX3_append 30 = .ok (.istore 4, 2) ∧ decode cX3_append 32 = .ok (.iload 4, 2) ∧ decode cX3_append 34 = .ok (.ifCond .lt 35, 3) ∧ decode cX3_append 37 = .ok (.aload_n 0, 1) ∧ decode cX3_append 38 = .ok (.getfield 9, 3) ∧ decode cX3_append 41 = .ok (.aload_n 0, 1) ∧ decode cX3_append 42 = .ok (.getfield 19, 3) ∧ decode cX3_append 45 = .ok (.lload_n 1, 1) ∧ decode cX3_append 46 = .ok (.iload 4, 2) ∧ decode cX3_append 48 = .ok (.invokestatic 23, 3) ∧ decode cX3_append 51 = .ok (.i2c, 1) ∧ decode cX3_append 52 = .ok (.castore, 1) ∧ decode cX3_append 53 = .ok (.aload_n 0, 1) := by decide +kernel
theorem dX3_append_27 : decode cX3_append 27 = .ok (.iload_n 3, 1) := bdX3_append_27.1
theorem dX3_append_28 : decode cX3_append 28 = .ok (.iconst 1, 1) := bdX3_append_27.2.1
theorem dX3_append_29 : decode cX3_append 29 = .ok (.isub, 1) := bdX3_append_27.2.2.1
theorem dX3_append_30 : decode cX3_append 30 = .ok (.istore 4, 2) := bdX3_append_27.2.2.2.1
theorem dX3_append_32 : decode cX3_append 32 = .ok (.iload 4, 2) := bdX3_append_27.2.2.2.2.1
theorem dX3_append_34 : decode cX3_append 34 = .ok (.ifCond .lt 35, 3) := bdX3_append_27.2.2.2.2.2.1
theorem dX3_append_37 : decode cX3_append 37 = .ok (.aload_n 0, 1) := bdX3_append_27.2.2.2.2.2.2.1
theorem dX3_append_38 : decode cX3_append 38 = .ok (.getfield 9, 3) := bdX3_append_27.2.2.2.2.2.2.2.1
theorem dX3_append_41 : decode cX3_append 41 = .ok (.aload_n 0, 1) := bdX3_append_27.2.2.2.2.2.2.2.2.1
theorem dX3_append_42 : decode cX3_append 42 = .ok (.getfield 19, 3) := bdX3_append_27.2.2.2.2.2.2.2.2.2.1
theorem dX3_append_45 : decode cX3_append 45 = .ok (.lload_n 1, 1) := bdX3_append_27.2.2.2.2.2.2.2.2.2.2.1
theorem dX3_append_46 : decode cX3_append 46 = .ok (.iload 4, 2) := bdX3_append_27.2.2.2.2.2.2.2.2.2.2.2.1
theorem dX3_append_48 : decode cX3_append 48 = .ok (.invokestatic 23, 3) := bdX3_append_27.2.2.2.2.2.2.2.2.2.2.2.2.1
theorem dX3_append_51 : decode cX3_append 51 = .ok (.i2c, 1) := bdX3_append_27.2.2.2.2.2.2.2.2.2.2.2.2.2.1
theorem dX3_append_52 : decode cX3_append 52 = .ok (.castore, 1) := bdX3_append_27.2.2.2.2.2.2.2.2.2.2.2.2.2.2.1
theorem dX3_append_53 : decode cX3_append 53 = .ok (.aload_n 0, 1) := bdX3_append_27.2.2.2.2.2.2.2.2.2.2.2.2.2.2.2
theorem bdX3_append_54 : decode cX3_append 54 = .ok (.dup, 1) ∧ decode cX3_append 55 = .ok (.getfield 19, 3) ∧ decode cX3_append 58 = .ok (.iconst 1, 1) ∧ decode cX3_append 59 = .ok (.iadd, 1) ∧ decode cX3_append 60 = .ok (.putfield 19, 3) ∧ decode cX3_append 63 = .ok (.iinc 4 (-1), 3) ∧ decode cX3_append 66 = .ok (.goto (-34), 3) ∧ decode cX3_append 69 = .ok (.aload_n 0, 1) ∧ decode cX3_append 70 = .ok (.getfield 19, 3) ∧ decode cX3_append 73 = .ok (.ireturn, 1) := by decide +kernel
theorem dX3_append_54 : decode cX3_append 54 = .ok (.dup, 1) := bdX3_append_54.1
theorem dX3_append_55 : decode cX3_append 55 = .ok (.getfield 19, 3) := bdX3_append_54.2.1
theorem dX3_append_58 : decode cX3_append 58 = .ok (.iconst 1, 1) := bdX3_append_54.2.2.1
theorem dX3_append_59 : decode cX3_append 59 = .ok (.iadd, 1) := bdX3_append_54.2.2.2.1
theorem dX3_append_60 : decode cX3_append 60 = .ok (.putfield 19, 3) := bdX3_append_54.2.2.2.2.1
theorem dX3_append_63 : decode cX3_append 63 = .ok (.iinc 4 (-1), 3) := bdX3_append_54.2.2.2.2.2.1
theorem dX3_append_66 : decode cX3_append 66 = .ok (.goto (-34), 3) := bdX3_append_54.2.2.2.2.2.2.1
theorem dX3_append_69 : decode cX3_append 69 = .ok (.aload_n 0, 1) := bdX3_append_54.2.2.2.2.2.2.2.1
theorem dX3_append_70 : decode cX3_append 70 = .ok (.getfield 19, 3) := bdX3_append_54.2.2.2.2.2.2.2.2.1
theorem dX3_append_73 : decode cX3_append 73 = .ok (.ireturn, 1) := bdX3_append_54.2.2.2.2.2.2.2.2.2
theorem bdX3_countGiven_0 : decode cX3_countGiven 0 = .ok (.iconst 0, 1) ∧ decode cX3_countGiven 1 = .ok (.istore_n 2, 1) ∧ decode cX3_countGiven 2 = .ok (.iconst 0, 1) ∧ decode cX3_countGiven 3 = .ok (.istore_n 3, 1) ∧ decode cX3_countGiven 4 = .ok (.iload_n 3, 1) ∧ decode cX3_countGiven 5 = .ok (.bipush 8, 2) ∧ decode cX3_countGiven 7 = .ok (.if_icmp .ge 49, 3) ∧ decode cX3_countGiven 10 = .ok (.lload_n 0, 1) ∧ decode cX3_countGiven 11 = .ok (.iload_n 3, 1) ∧ decode cX3_countGiven 12 = .ok (.invokestatic 23, 3) ∧ decode cX3_countGiven 15 = .ok (.istore 4, 2) ∧ decode cX3_countGiven 17 = .ok (.iload 4, 2) ∧ decode cX3_countGiven 19 = .ok (.ifCond .ne 6, 3) ∧ decode cX3_countGiven 22 = .ok (.goto 28, 3) ∧ decode cX3_countGiven 25 = .ok (.iload 4, 2) ∧ decode cX3_countGiven 27 = .ok (.bipush 33, 2) := by decide +kernel
theorem dX3_countGiven_0 : decode cX3_countGiven 0 = .ok (.iconst 0, 1) := bdX3_countGiven_0.1
theorem dX3_countGiven_1 : decode cX3_countGiven 1 = .ok (.istore_n 2, 1) := bdX3_countGiven_0.2.1
theorem dX3_countGiven_2 : decode cX3_countGiven 2 = .ok (.iconst 0, 1) := bdX3_countGiven_0.2.2.1
theorem dX3_countGiven_3 : decode cX3_countGiven 3 = .ok (.istore_n 3, 1) := bdX3_countGiven_0.2.2.2.1
theorem dX3_countGiven_4 : decode cX3_countGiven 4 = .ok (.iload_n 3, 1) := bdX3_countGiven_0.2.2.2.2.1
theorem dX3_countGiven_5 : decode cX3_countGiven 5 = .ok (.bipush 8, 2) := bdX3_countGiven_0.2.2.2.2.2.1
theorem dX3_countGiven_7 : decode cX3_countGiven 7 = .ok (.if_icmp .ge 49, 3) := bdX3_countGiven_0.2.2.2.2.2.2.1
theorem dX3_countGiven_10 : decode cX3_countGiven 10 = .ok (.lload_n 0, 1) := bdX3_countGiven_0.2.2.2.2.2.2.2.1
theorem dX3_countGiven_11 : decode cX3_countGiven 11 = .ok (.iload_n 3, 1) := bdX3_countGiven_0.2.2.2.2.2.2.2.2.1
theorem dX3_countGiven_12 : decode cX3_countGiven 12 = .ok (.invokestatic 23, 3) := bdX3_countGiven_0.2.2.2.2.2.2.2.2.2.1
theorem dX3_countGiven_15 : decode cX3_countGiven 15 = .ok (.istore 4, 2) := bdX3_countGiven_0.2.2.2.2.2.2.2.2.2.2.1
theorem dX3_countGiven_17 : decode cX3_countGiven 17 = .ok (.iload 4, 2) := bdX3_countGiven_0.2.2.2.2.2.2.2.2.2.2.2.1
theorem dX3_countGiven_19 : decode cX3_countGiven 19 = .ok (.ifCond .ne 6, 3) := bdX3_countGiven_0.2.2.2.2.2.2.2.2.2.2.2.2.1
theorem dX3_countGiven_22 : decode cX3_countGiven 22 = .ok (.goto 28, 3) := bdX3_countGiven_0.2.2.2.2.2.2.2.2.2.2.2.2.2.1
theorem dX3_countGiven_25 : decode cX3_countGiven 25 = .ok (.iload 4, 2) := bdX3_countGiven_0.2.2.2.2.2.2.2.2.2.2.2.2.2.2.1
theorem dX3_countGiven_27 : decode cX3_countGiven 27 = .ok (.bipush 33, 2) := bdX3_countGiven_0.2.2.2.2.2.2.2.2.2.2.2.2.2.2.2
theorem bdX3_countGiven_29 : decode cX3_countGiven 29 = .ok (.if_icmp .lt 15, 3) ∧ decode cX3_countGiven 32 = .ok (.iload 4, 2) ∧ decode cX3_countGiven 34 = .ok (.bipush 126, 2) ∧ decode cX3_countGiven 36 = .ok (.if_icmp .gt 8, 3) ∧ decode cX3_countGiven 39 = .ok (.iload_n 2, 1) ∧ decode cX3_countGiven 40 = .ok (.iload_n 3, 1) ∧ decode cX3_countGiven 41 = .ok (.if_icmp .ge 6, 3) ∧ decode cX3_countGiven 44 = .ok (.bipush (-2), 2) ∧ decode cX3_countGiven 46 = .ok (.ireturn, 1) ∧ decode cX3_countGiven 47 = .ok (.iinc 2 1, 3) ∧ decode cX3_countGiven 50 = .ok (.iinc 3 1, 3) ∧ decode cX3_countGiven 53 = .ok (.goto (-49), 3) ∧ decode cX3_countGiven 56 = .ok (.iload_n 2, 1) ∧ decode cX3_countGiven 57 = .ok (.ireturn, 1) := by decide +kernel
theorem dX3_countGiven_29 : decode cX3_countGiven 29 = .ok (.if_icmp .lt 15, 3) := bdX3_countGiven_29.1
theorem dX3_countGiven_32 : decode cX3_countGiven 32 = .ok (.iload 4, 2) := bdX3_countGiven_29.2.1
theorem dX3_countGiven_34 : decode cX3_countGiven 34 = .ok (.bipush 126, 2) := bdX3_countGiven_29.2.2.1
theorem dX3_countGiven_36 : decode cX3_countGiven 36 = .ok (.if_icmp .gt 8, 3) := bdX3_countGiven_29.2.2.2.1
theorem dX3_countGiven_39 : decode cX3_countGiven 39 = .ok (.iload_n 2, 1) := bdX3_countGiven_29.2.2.2.2.1
theorem dX3_countGiven_40 : decode cX3_countGiven 40 = .ok (.iload_n 3, 1) := bdX3_countGiven_29.2.2.2.2.2.1
theorem dX3_countGiven_41 : decode cX3_countGiven 41 = .ok (.if_icmp .ge 6, 3) := bdX3_countGiven_29.2.2.2.2.2.2.1
theorem dX3_countGiven_44 : decode cX3_countGiven 44 = .ok (.bipush (-2), 2) := bdX3_countGiven_29.2.2.2.2.2.2.2.1
theorem dX3_countGiven_46 : decode cX3_countGiven 46 = .ok (.ireturn, 1) := bdX3_countGiven_29.2.2.2.2.2.2.2.2.1
theorem dX3_countGiven_47 : decode cX3_countGiven 47 = .ok (.iinc 2 1, 3) := bdX3_countGiven_29.2.2.2.2.2.2.2.2.2.1
theorem dX3_countGiven_50 : decode cX3_countGiven 50 = .ok (.iinc 3 1, 3) := bdX3_countGiven_29.2.2.2.2.2.2.2.2.2.2.1
theorem dX3_countGiven_53 : decode cX3_countGiven 53 = .ok (.goto (-49), 3) := bdX3_countGiven_29.2.2.2.2.2.2.2.2.2.2.2.1
theorem dX3_countGiven_56 : decode cX3_countGiven 56 = .ok (.iload_n 2, 1) := bdX3_countGiven_29.2.2.2.2.2.2.2.2.2.2.2.2.1
theorem dX3_countGiven_57 : decode cX3_countGiven 57 = .ok (.ireturn, 1) := bdX3_countGiven_29.2.2.2.2.2.2.2.2.2.2.2.2.2
theorem bdX3_codeAt_0 : decode cX3_codeAt 0 = .ok (.lload_n 0, 1) ∧ decode cX3_codeAt 1 = .ok (.bipush 8, 2) ∧ decode cX3_codeAt 3 = .ok (.iload_n 2, 1) ∧ decode cX3_codeAt 4 = .ok (.imul, 1) ∧ decode cX3_codeAt 5 = .ok (.lushr, 1) ∧ decode cX3_codeAt 6 = .ok (.l2i, 1) ∧ decode cX3_codeAt 7 = .ok (.sipush 255, 3) ∧ decode cX3_codeAt 10 = .ok (.iand, 1) ∧ decode cX3_codeAt 11 = .ok (.ireturn, 1) := by decide +kernel
theorem dX3_codeAt_0 : decode cX3_codeAt 0 = .ok (.lload_n 0, 1) := bdX3_codeAt_0.1
theorem dX3_codeAt_1 : decode cX3_codeAt 1 = .ok (.bipush 8, 2) := bdX3_codeAt_0.2.1
theorem dX3_codeAt_3 : decode cX3_codeAt 3 = .ok (.iload_n 2, 1) := bdX3_codeAt_0.2.2.1
theorem dX3_codeAt_4 : decode cX3_codeAt 4 = .ok (.imul, 1) := bdX3_codeAt_0.2.2.2.1
theorem dX3_codeAt_5 : decode cX3_codeAt 5 = .ok (.lushr, 1) := bdX3_codeAt_0.2.2.2.2.1
theorem dX3_codeAt_6 : decode cX3_codeAt 6 = .ok (.l2i, 1) := bdX3_codeAt_0.2.2.2.2.2.1
theorem dX3_codeAt_7 : decode cX3_codeAt 7 = .ok (.sipush 255, 3) := bdX3_codeAt_0.2.2.2.2.2.2.1
theorem dX3_codeAt_10 : decode cX3_codeAt 10 = .ok (.iand, 1) := bdX3_codeAt_0.2.2.2.2.2.2.2.1
theorem dX3_codeAt_11 : decode cX3_codeAt 11 = .ok (.ireturn, 1) := bdX3_codeAt_0.2.2.2.2.2.2.2.2
theorem bdX3_signAt_0 : decode cX3_signAt 0 = .ok (.iload_n 1, 1) ∧ decode cX3_signAt 1 = .ok (.ifCond .lt 26, 3) ∧ decode cX3_signAt 4 = .ok (.iload_n 1, 1) ∧ decode cX3_signAt 5 = .ok (.aload_n 0, 1) ∧ decode cX3_signAt 6 = .ok (.getfield 19, 3) ∧ decode cX3_signAt 9 = .ok (.if_icmp .ge 18, 3) ∧ decode cX3_signAt 12 = .ok (.iload_n 1, 1) ∧ decode cX3_signAt 13 = .ok (.bipush 80, 2) ∧ decode cX3_signAt 15 = .ok (.if_icmp .ge 12, 3) ∧ decode cX3_signAt 18 = .ok (.aload_n 0, 1) ∧ decode cX3_signAt 19 = .ok (.getfield 9, 3) ∧ decode cX3_signAt 22 = .ok (.iload_n 1, 1) ∧ decode cX3_signAt 23 = .ok (.caload, 1) ∧ decode cX3_signAt 24 = .ok (.goto 4, 3) ∧ decode cX3_signAt 27 = .ok (.iconst 0, 1) ∧ decode cX3_signAt 28 = .ok (.ireturn, 1) := by decide +kernel
theorem dX3_signAt_0 : decode cX3_signAt 0 = .ok (.iload_n 1, 1) := bdX3_signAt_0.1
theorem dX3_signAt_1 : decode cX3_signAt 1 = .ok (.ifCond .lt 26, 3) := bdX3_signAt_0.2.1
theorem dX3_signAt_4 : decode cX3_signAt 4 = .ok (.iload_n 1, 1) := bdX3_signAt_0.2.2.1
theorem dX3_signAt_5 : decode cX3_signAt 5 = .ok (.aload_n 0, 1) := bdX3_signAt_0.2.2.2.1
theorem dX3_signAt_6 : decode cX3_signAt 6 = .ok (.getfield 19, 3) := bdX3_signAt_0.2.2.2.2.1
theorem dX3_signAt_9 : decode cX3_signAt 9 = .ok (.if_icmp .ge 18, 3) := bdX3_signAt_0.2.2.2.2.2.1
theorem dX3_signAt_12 : decode cX3_signAt 12 = .ok (.iload_n 1, 1) := bdX3_signAt_0.2.2.2.2.2.2.1
theorem dX3_signAt_13 : decode cX3_signAt 13 = .ok (.bipush 80, 2) := bdX3_signAt_0.2.2.2.2.2.2.2.1
theorem dX3_signAt_15 : decode cX3_signAt 15 = .ok (.if_icmp .ge 12, 3) := bdX3_signAt_0.2.2.2.2.2.2.2.2.1
theorem dX3_signAt_18 : decode cX3_signAt 18 = .ok (.aload_n 0, 1) := bdX3_signAt_0.2.2.2.2.2.2.2.2.2.1
theorem dX3_signAt_19 : decode cX3_signAt 19 = .ok (.getfield 9, 3) := bdX3_signAt_0.2.2.2.2.2.2.2.2.2.2.1
theorem dX3_signAt_22 : decode cX3_signAt 22 = .ok (.iload_n 1, 1) := bdX3_signAt_0.2.2.2.2.2.2.2.2.2.2.2.1
theorem dX3_signAt_23 : decode cX3_signAt 23 = .ok (.caload, 1) := bdX3_signAt_0.2.2.2.2.2.2.2.2.2.2.2.2.1
theorem dX3_signAt_24 : decode cX3_signAt 24 = .ok (.goto 4, 3) := bdX3_signAt_0.2.2.2.2.2.2.2.2.2.2.2.2.2.1
theorem dX3_signAt_27 : decode cX3_signAt 27 = .ok (.iconst 0, 1) := bdX3_signAt_0.2.2.2.2.2.2.2.2.2.2.2.2.2.2.1
theorem dX3_signAt_28 : decode cX3_signAt 28 = .ok (.ireturn, 1) := bdX3_signAt_0.2.2.2.2.2.2.2.2.2.2.2.2.2.2.2
theorem bdX3_findFault_0 : decode cX3_findFault 0 = .ok (.iconst 4, 1) ∧ decode cX3_findFault 1 = .ok (.istore_n 1, 1) ∧ decode cX3_findFault 2 = .ok (.iconst 0, 1) ∧ decode cX3_findFault 3 = .ok (.istore_n 2, 1) ∧ decode cX3_findFault 4 = .ok (.iload_n 2, 1) ∧ decode cX3_findFault 5 = .ok (.aload_n 0, 1) ∧ decode cX3_findFault 6 = .ok (.getfield 19, 3) ∧ decode cX3_findFault 9 = .ok (.if_icmp .ge 27, 3) ∧ decode cX3_findFault 12 = .ok (.iload_n 1, 1) ∧ decode cX3_findFault 13 = .ok (.aload_n 0, 1) ∧ decode cX3_findFault 14 = .ok (.iload_n 2, 1) ∧ decode cX3_findFault 15 = .ok (.invokevirtual 27, 3) ∧ decode cX3_findFault 18 = .ok (.invokestatic 31, 3) ∧ decode cX3_findFault 21 = .ok (.istore_n 1, 1) ∧ decode cX3_findFault 22 = .ok (.iload_n 1, 1) ∧ decode cX3_findFault 23 = .ok (.bipush 11, 2) := by decide +kernel
theorem dX3_findFault_0 : decode cX3_findFault 0 = .ok (.iconst 4, 1) := bdX3_findFault_0.1
theorem dX3_findFault_1 : decode cX3_findFault 1 = .ok (.istore_n 1, 1) := bdX3_findFault_0.2.1
theorem dX3_findFault_2 : decode cX3_findFault 2 = .ok (.iconst 0, 1) := bdX3_findFault_0.2.2.1
theorem dX3_findFault_3 : decode cX3_findFault 3 = .ok (.istore_n 2, 1) := bdX3_findFault_0.2.2.2.1
theorem dX3_findFault_4 : decode cX3_findFault 4 = .ok (.iload_n 2, 1) := bdX3_findFault_0.2.2.2.2.1
theorem dX3_findFault_5 : decode cX3_findFault 5 = .ok (.aload_n 0, 1) := bdX3_findFault_0.2.2.2.2.2.1
theorem dX3_findFault_6 : decode cX3_findFault 6 = .ok (.getfield 19, 3) := bdX3_findFault_0.2.2.2.2.2.2.1
theorem dX3_findFault_9 : decode cX3_findFault 9 = .ok (.if_icmp .ge 27, 3) := bdX3_findFault_0.2.2.2.2.2.2.2.1
theorem dX3_findFault_12 : decode cX3_findFault 12 = .ok (.iload_n 1, 1) := bdX3_findFault_0.2.2.2.2.2.2.2.2.1
theorem dX3_findFault_13 : decode cX3_findFault 13 = .ok (.aload_n 0, 1) := bdX3_findFault_0.2.2.2.2.2.2.2.2.2.1
theorem dX3_findFault_14 : decode cX3_findFault 14 = .ok (.iload_n 2, 1) := bdX3_findFault_0.2.2.2.2.2.2.2.2.2.2.1
theorem dX3_findFault_15 : decode cX3_findFault 15 = .ok (.invokevirtual 27, 3) := bdX3_findFault_0.2.2.2.2.2.2.2.2.2.2.2.1
theorem dX3_findFault_18 : decode cX3_findFault 18 = .ok (.invokestatic 31, 3) := bdX3_findFault_0.2.2.2.2.2.2.2.2.2.2.2.2.1
theorem dX3_findFault_21 : decode cX3_findFault 21 = .ok (.istore_n 1, 1) := bdX3_findFault_0.2.2.2.2.2.2.2.2.2.2.2.2.2.1
theorem dX3_findFault_22 : decode cX3_findFault 22 = .ok (.iload_n 1, 1) := bdX3_findFault_0.2.2.2.2.2.2.2.2.2.2.2.2.2.2.1
theorem dX3_findFault_23 : decode cX3_findFault 23 = .ok (.bipush 11, 2) := bdX3_findFault_0.2.2.2.2.2.2.2.2.2.2.2.2.2.2.2
theorem bdX3_findFault_25 : decode cX3_findFault 25 = .ok (.if_icmp .ne 5, 3) ∧ decode cX3_findFault 28 = .ok (.iload_n 2, 1) ∧ decode cX3_findFault 29 = .ok (.ireturn, 1) ∧ decode cX3_findFault 30 = .ok (.iinc 2 1, 3) ∧ decode cX3_findFault 33 = .ok (.goto (-29), 3) ∧ decode cX3_findFault 36 = .ok (.iload_n 1, 1) ∧ decode cX3_findFault 37 = .ok (.iconst 3, 1) ∧ decode cX3_findFault 38 = .ok (.if_icmp .gt 8, 3) ∧ decode cX3_findFault 41 = .ok (.bipush (-6), 2) ∧ decode cX3_findFault 43 = .ok (.goto 7, 3) ∧ decode cX3_findFault 46 = .ok (.aload_n 0, 1) ∧ decode cX3_findFault 47 = .ok (.getfield 19, 3) ∧ decode cX3_findFault 50 = .ok (.ireturn, 1) := by decide +kernel
theorem dX3_findFault_25 : decode cX3_findFault 25 = .ok (.if_icmp .ne 5, 3) := bdX3_findFault_25.1
theorem dX3_findFault_28 : decode cX3_findFault 28 = .ok (.iload_n 2, 1) := bdX3_findFault_25.2.1
theorem dX3_findFault_29 : decode cX3_findFault 29 = .ok (.ireturn, 1) := bdX3_findFault_25.2.2.1
theorem dX3_findFault_30 : decode cX3_findFault 30 = .ok (.iinc 2 1, 3) := bdX3_findFault_25.2.2.2.1
theorem dX3_findFault_33 : decode cX3_findFault 33 = .ok (.goto (-29), 3) := bdX3_findFault_25.2.2.2.2.1
theorem dX3_findFault_36 : decode cX3_findFault 36 = .ok (.iload_n 1, 1) := bdX3_findFault_25.2.2.2.2.2.1
theorem dX3_findFault_37 : decode cX3_findFault 37 = .ok (.iconst 3, 1) := bdX3_findFault_25.2.2.2.2.2.2.1
theorem dX3_findFault_38 : decode cX3_findFault 38 = .ok (.if_icmp .gt 8, 3) := bdX3_findFault_25.2.2.2.2.2.2.2.1
theorem dX3_findFault_41 : decode cX3_findFault 41 = .ok (.bipush (-6), 2) := bdX3_findFault_25.2.2.2.2.2.2.2.2.1
theorem dX3_findFault_43 : decode cX3_findFault 43 = .ok (.goto 7, 3) := bdX3_findFault_25.2.2.2.2.2.2.2.2.2.1
theorem dX3_findFault_46 : decode cX3_findFault 46 = .ok (.aload_n 0, 1) := bdX3_findFault_25.2.2.2.2.2.2.2.2.2.2.1
theorem dX3_findFault_47 : decode cX3_findFault 47 = .ok (.getfield 19, 3) := bdX3_findFault_25.2.2.2.2.2.2.2.2.2.2.2.1
theorem dX3_findFault_50 : decode cX3_findFault 50 = .ok (.ireturn, 1) := bdX3_findFault_25.2.2.2.2.2.2.2.2.2.2.2.2
theorem bdX3_awaitedBehind_0 : decode cX3_awaitedBehind 0 = .ok (.iload_n 0, 1) ∧ decode cX3_awaitedBehind 1 = .ok (.tableswitch 149 4 10 #[43, 48, 62, 77, 96, 111, 125], 43) ∧ decode cX3_awaitedBehind 44 = .ok (.iload_n 1, 1) ∧ decode cX3_awaitedBehind 45 = .ok (.invokestatic 35, 3) ∧ decode cX3_awaitedBehind 48 = .ok (.ireturn, 1) ∧ decode cX3_awaitedBehind 49 = .ok (.iload_n 1, 1) ∧ decode cX3_awaitedBehind 50 = .ok (.invokestatic 38, 3) ∧ decode cX3_awaitedBehind 53 = .ok (.ifCond .eq 7, 3) ∧ decode cX3_awaitedBehind 56 = .ok (.iconst 3, 1) ∧ decode cX3_awaitedBehind 57 = .ok (.goto 5, 3) ∧ decode cX3_awaitedBehind 60 = .ok (.bipush 11, 2) ∧ decode cX3_awaitedBehind 62 = .ok (.ireturn, 1) ∧ decode cX3_awaitedBehind 63 = .ok (.iload_n 1, 1) ∧ decode cX3_awaitedBehind 64 = .ok (.invokestatic 38, 3) ∧ decode cX3_awaitedBehind 67 = .ok (.ifCond .eq 8, 3) ∧ decode cX3_awaitedBehind 70 = .ok (.bipush 7, 2) := by decide +kernel
theorem dX3_awaitedBehind_0 : decode cX3_awaitedBehind 0 = .ok (.iload_n 0, 1) := bdX3_awaitedBehind_0.1
theorem dX3_awaitedBehind_1 : decode cX3_awaitedBehind 1 = .ok (.tableswitch 149 4 10 #[43, 48, 62, 77, 96, 111, 125], 43) := bdX3_awaitedBehind_0.2.1
theorem dX3_awaitedBehind_44 : decode cX3_awaitedBehind 44 = .ok (.iload_n 1, 1) := bdX3_awaitedBehind_0.2.2.1
theorem dX3_awaitedBehind_45 : decode cX3_awaitedBehind 45 = .ok (.invokestatic 35, 3) := bdX3_awaitedBehind_0.2.2.2.1
theorem dX3_awaitedBehind_48 : decode cX3_awaitedBehind 48 = .ok (.ireturn, 1) := bdX3_awaitedBehind_0.2.2.2.2.1
theorem dX3_awaitedBehind_49 : decode cX3_awaitedBehind 49 = .ok (.iload_n 1, 1) := bdX3_awaitedBehind_0.2.2.2.2.2.1
theorem dX3_awaitedBehind_50 : decode cX3_awaitedBehind 50 = .ok (.invokestatic 38, 3) := bdX3_awaitedBehind_0.2.2.2.2.2.2.1
theorem dX3_awaitedBehind_53 : decode cX3_awaitedBehind 53 = .ok (.ifCond .eq 7, 3) := bdX3_awaitedBehind_0.2.2.2.2.2.2.2.1
theorem dX3_awaitedBehind_56 : decode cX3_awaitedBehind 56 = .ok (.iconst 3, 1) := bdX3_awaitedBehind_0.2.2.2.2.2.2.2.2.1
theorem dX3_awaitedBehind_57 : decode cX3_awaitedBehind 57 = .ok (.goto 5, 3) := bdX3_awaitedBehind_0.2.2.2.2.2.2.2.2.2.1
theorem dX3_awaitedBehind_60 : decode cX3_awaitedBehind 60 = .ok (.bipush 11, 2) := bdX3_awaitedBehind_0.2.2.2.2.2.2.2.2.2.2.1
theorem dX3_awaitedBehind_62 : decode cX3_awaitedBehind 62 = .ok (.ireturn, 1) := bdX3_awaitedBehind_0.2.2.2.2.2.2.2.2.2.2.2.1
theorem dX3_awaitedBehind_63 : decode cX3_awaitedBehind 63 = .ok (.iload_n 1, 1) := bdX3_awaitedBehind_0.2.2.2.2.2.2.2.2.2.2.2.2.1
theorem dX3_awaitedBehind_64 : decode cX3_awaitedBehind 64 = .ok (.invokestatic 38, 3) := bdX3_awaitedBehind_0.2.2.2.2.2.2.2.2.2.2.2.2.2.1
theorem dX3_awaitedBehind_67 : decode cX3_awaitedBehind 67 = .ok (.ifCond .eq 8, 3) := bdX3_awaitedBehind_0.2.2.2.2.2.2.2.2.2.2.2.2.2.2.1
theorem dX3_awaitedBehind_70 : decode cX3_awaitedBehind 70 = .ok (.bipush 7, 2) := bdX3_awaitedBehind_0.2.2.2.2.2.2.2.2.2.2.2.2.2.2.2
theorem bdX3_awaitedBehind_72 : decode cX3_awaitedBehind 72 = .ok (.goto 5, 3) ∧ decode cX3_awaitedBehind 75 = .ok (.bipush 11, 2) ∧ decode cX3_awaitedBehind 77 = .ok (.ireturn, 1) ∧ decode cX3_awaitedBehind 78 = .ok (.iload_n 1, 1) ∧ decode cX3_awaitedBehind 79 = .ok (.bipush 49, 2) ∧ decode cX3_awaitedBehind 81 = .ok (.if_icmp .lt 13, 3) ∧ decode cX3_awaitedBehind 84 = .ok (.iload_n 1, 1) ∧ decode cX3_awaitedBehind 85 = .ok (.bipush 57, 2) ∧ decode cX3_awaitedBehind 87 = .ok (.if_icmp .gt 7, 3) ∧ decode cX3_awaitedBehind 90 = .ok (.iconst 0, 1) ∧ decode cX3_awaitedBehind 91 = .ok (.goto 5, 3) ∧ decode cX3_awaitedBehind 94 = .ok (.bipush 11, 2) ∧ decode cX3_awaitedBehind 96 = .ok (.ireturn, 1) ∧ decode cX3_awaitedBehind 97 = .ok (.iload_n 1, 1) ∧ decode cX3_awaitedBehind 98 = .ok (.invokestatic 38, 3) ∧ decode cX3_awaitedBehind 101 = .ok (.ifCond .eq 8, 3) := by decide +kernel
theorem dX3_awaitedBehind_72 : decode cX3_awaitedBehind 72 = .ok (.goto 5, 3) := bdX3_awaitedBehind_72.1
theorem dX3_awaitedBehind_75 : decode cX3_awaitedBehind 75 = .ok (.bipush 11, 2) := bdX3_awaitedBehind_72.2.1
theorem dX3_awaitedBehind_77 : decode cX3_awaitedBehind 77 = .ok (.ireturn, 1) := bdX3_awaitedBehind_72.2.2.1
theorem dX3_awaitedBehind_78 : decode cX3_awaitedBehind 78 = .ok (.iload_n 1, 1) := bdX3_awaitedBehind_72.2.2.2.1
theorem dX3_awaitedBehind_79 : decode cX3_awaitedBehind 79 = .ok (.bipush 49, 2) := bdX3_awaitedBehind_72.2.2.2.2.1
theorem dX3_awaitedBehind_81 : decode cX3_awaitedBehind 81 = .ok (.if_icmp .lt 13, 3) := bdX3_awaitedBehind_72.2.2.2.2.2.1
theorem dX3_awaitedBehind_84 : decode cX3_awaitedBehind 84 = .ok (.iload_n 1, 1) := bdX3_awaitedBehind_72.2.2.2.2.2.2.1
theorem dX3_awaitedBehind_85 : decode cX3_awaitedBehind 85 = .ok (.bipush 57, 2) := bdX3_awaitedBehind_72.2.2.2.2.2.2.2.1
theorem dX3_awaitedBehind_87 : decode cX3_awaitedBehind 87 = .ok (.if_icmp .gt 7, 3) := bdX3_awaitedBehind_72.2.2.2.2.2.2.2.2.1
theorem dX3_awaitedBehind_90 : decode cX3_awaitedBehind 90 = .ok (.iconst 0, 1) := bdX3_awaitedBehind_72.2.2.2.2.2.2.2.2.2.1
theorem dX3_awaitedBehind_91 : decode cX3_awaitedBehind 91 = .ok (.goto 5, 3) := bdX3_awaitedBehind_72.2.2.2.2.2.2.2.2.2.2.1
theorem dX3_awaitedBehind_94 : decode cX3_awaitedBehind 94 = .ok (.bipush 11, 2) := bdX3_awaitedBehind_72.2.2.2.2.2.2.2.2.2.2.2.1
theorem dX3_awaitedBehind_96 : decode cX3_awaitedBehind 96 = .ok (.ireturn, 1) := bdX3_awaitedBehind_72.2.2.2.2.2.2.2.2.2.2.2.2.1
theorem dX3_awaitedBehind_97 : decode cX3_awaitedBehind 97 = .ok (.iload_n 1, 1) := bdX3_awaitedBehind_72.2.2.2.2.2.2.2.2.2.2.2.2.2.1
theorem dX3_awaitedBehind_98 : decode cX3_awaitedBehind 98 = .ok (.invokestatic 38, 3) := bdX3_awaitedBehind_72.2.2.2.2.2.2.2.2.2.2.2.2.2.2.1
theorem dX3_awaitedBehind_101 : decode cX3_awaitedBehind 101 = .ok (.ifCond .eq 8, 3) := bdX3_awaitedBehind_72.2.2.2.2.2.2.2.2.2.2.2.2.2.2.2
theorem bdX3_awaitedBehind_104 : decode cX3_awaitedBehind 104 = .ok (.bipush 9, 2) ∧ decode cX3_awaitedBehind 106 = .ok (.goto 5, 3) ∧ decode cX3_awaitedBehind 109 = .ok (.bipush 11, 2) ∧ decode cX3_awaitedBehind 111 = .ok (.ireturn, 1) ∧ decode cX3_awaitedBehind 112 = .ok (.iload_n 1, 1) ∧ decode cX3_awaitedBehind 113 = .ok (.invokestatic 38, 3) ∧ decode cX3_awaitedBehind 116 = .ok (.ifCond .eq 7, 3) ∧ decode cX3_awaitedBehind 119 = .ok (.iconst 0, 1) ∧ decode cX3_awaitedBehind 120 = .ok (.goto 5, 3) ∧ decode cX3_awaitedBehind 123 = .ok (.bipush 11, 2) ∧ decode cX3_awaitedBehind 125 = .ok (.ireturn, 1) ∧ decode cX3_awaitedBehind 126 = .ok (.iload_n 1, 1) ∧ decode cX3_awaitedBehind 127 = .ok (.invokestatic 42, 3) ∧ decode cX3_awaitedBehind 130 = .ok (.ifCond .ne 8, 3) ∧ decode cX3_awaitedBehind 133 = .ok (.bipush 11, 2) ∧ decode cX3_awaitedBehind 135 = .ok (.goto 14, 3) := by decide +kernel
theorem dX3_awaitedBehind_104 : decode cX3_awaitedBehind 104 = .ok (.bipush 9, 2) := bdX3_awaitedBehind_104.1
theorem dX3_awaitedBehind_106 : decode cX3_awaitedBehind 106 = .ok (.goto 5, 3) := bdX3_awaitedBehind_104.2.1
theorem dX3_awaitedBehind_109 : decode cX3_awaitedBehind 109 = .ok (.bipush 11, 2) := bdX3_awaitedBehind_104.2.2.1
theorem dX3_awaitedBehind_111 : decode cX3_awaitedBehind 111 = .ok (.ireturn, 1) := bdX3_awaitedBehind_104.2.2.2.1
theorem dX3_awaitedBehind_112 : decode cX3_awaitedBehind 112 = .ok (.iload_n 1, 1) := bdX3_awaitedBehind_104.2.2.2.2.1
theorem dX3_awaitedBehind_113 : decode cX3_awaitedBehind 113 = .ok (.invokestatic 38, 3) := bdX3_awaitedBehind_104.2.2.2.2.2.1
theorem dX3_awaitedBehind_116 : decode cX3_awaitedBehind 116 = .ok (.ifCond .eq 7, 3) := bdX3_awaitedBehind_104.2.2.2.2.2.2.1
theorem dX3_awaitedBehind_119 : decode cX3_awaitedBehind 119 = .ok (.iconst 0, 1) := bdX3_awaitedBehind_104.2.2.2.2.2.2.2.1
theorem dX3_awaitedBehind_120 : decode cX3_awaitedBehind 120 = .ok (.goto 5, 3) := bdX3_awaitedBehind_104.2.2.2.2.2.2.2.2.1
theorem dX3_awaitedBehind_123 : decode cX3_awaitedBehind 123 = .ok (.bipush 11, 2) := bdX3_awaitedBehind_104.2.2.2.2.2.2.2.2.2.1
theorem dX3_awaitedBehind_125 : decode cX3_awaitedBehind 125 = .ok (.ireturn, 1) := bdX3_awaitedBehind_104.2.2.2.2.2.2.2.2.2.2.1
theorem dX3_awaitedBehind_126 : decode cX3_awaitedBehind 126 = .ok (.iload_n 1, 1) := bdX3_awaitedBehind_104.2.2.2.2.2.2.2.2.2.2.2.1
theorem dX3_awaitedBehind_127 : decode cX3_awaitedBehind 127 = .ok (.invokestatic 42, 3) := bdX3_awaitedBehind_104.2.2.2.2.2.2.2.2.2.2.2.2.1
theorem dX3_awaitedBehind_130 : decode cX3_awaitedBehind 130 = .ok (.ifCond .ne 8, 3) := bdX3_awaitedBehind_104.2.2.2.2.2.2.2.2.2.2.2.2.2.1
theorem dX3_awaitedBehind_133 : decode cX3_awaitedBehind 133 = .ok (.bipush 11, 2) := bdX3_awaitedBehind_104.2.2.2.2.2.2.2.2.2.2.2.2.2.2.1
theorem dX3_awaitedBehind_135 : decode cX3_awaitedBehind 135 = .ok (.goto 14, 3) := bdX3_awaitedBehind_104.2.2.2.2.2.2.2.2.2.2.2.2.2.2.2
theorem bdX3_awaitedBehind_138 : decode cX3_awaitedBehind 138 = .ok (.iload_n 1, 1) ∧ decode cX3_awaitedBehind 139 = .ok (.bipush 48, 2) ∧ decode cX3_awaitedBehind 141 = .ok (.if_icmp .ne 7, 3) ∧ decode cX3_awaitedBehind 144 = .ok (.iconst 0, 1) ∧ decode cX3_awaitedBehind 145 = .ok (.goto 4, 3) ∧ decode cX3_awaitedBehind 148 = .ok (.iconst 1, 1) ∧ decode cX3_awaitedBehind 149 = .ok (.ireturn, 1) ∧ decode cX3_awaitedBehind 150 = .ok (.iload_n 1, 1) ∧ decode cX3_awaitedBehind 151 = .ok (.bipush 59, 2) ∧ decode cX3_awaitedBehind 153 = .ok (.if_icmp .ne 7, 3) ∧ decode cX3_awaitedBehind 156 = .ok (.iconst 4, 1) ∧ decode cX3_awaitedBehind 157 = .ok (.goto 22, 3) ∧ decode cX3_awaitedBehind 160 = .ok (.iload_n 0, 1) ∧ decode cX3_awaitedBehind 161 = .ok (.ifCond .le 16, 3) ∧ decode cX3_awaitedBehind 164 = .ok (.iload_n 1, 1) ∧ decode cX3_awaitedBehind 165 = .ok (.invokestatic 42, 3) := by decide +kernel
theorem dX3_awaitedBehind_138 : decode cX3_awaitedBehind 138 = .ok (.iload_n 1, 1) := bdX3_awaitedBehind_138.1
theorem dX3_awaitedBehind_139 : decode cX3_awaitedBehind 139 = .ok (.bipush 48, 2) := bdX3_awaitedBehind_138.2.1
theorem dX3_awaitedBehind_141 : decode cX3_awaitedBehind 141 = .ok (.if_icmp .ne 7, 3) := bdX3_awaitedBehind_138.2.2.1
theorem dX3_awaitedBehind_144 : decode cX3_awaitedBehind 144 = .ok (.iconst 0, 1) := bdX3_awaitedBehind_138.2.2.2.1
theorem dX3_awaitedBehind_145 : decode cX3_awaitedBehind 145 = .ok (.goto 4, 3) := bdX3_awaitedBehind_138.2.2.2.2.1
theorem dX3_awaitedBehind_148 : decode cX3_awaitedBehind 148 = .ok (.iconst 1, 1) := bdX3_awaitedBehind_138.2.2.2.2.2.1
theorem dX3_awaitedBehind_149 : decode cX3_awaitedBehind 149 = .ok (.ireturn, 1) := bdX3_awaitedBehind_138.2.2.2.2.2.2.1
theorem dX3_awaitedBehind_150 : decode cX3_awaitedBehind 150 = .ok (.iload_n 1, 1) := bdX3_awaitedBehind_138.2.2.2.2.2.2.2.1
theorem dX3_awaitedBehind_151 : decode cX3_awaitedBehind 151 = .ok (.bipush 59, 2) := bdX3_awaitedBehind_138.2.2.2.2.2.2.2.2.1
theorem dX3_awaitedBehind_153 : decode cX3_awaitedBehind 153 = .ok (.if_icmp .ne 7, 3) := bdX3_awaitedBehind_138.2.2.2.2.2.2.2.2.2.1
theorem dX3_awaitedBehind_156 : decode cX3_awaitedBehind 156 = .ok (.iconst 4, 1) := bdX3_awaitedBehind_138.2.2.2.2.2.2.2.2.2.2.1
theorem dX3_awaitedBehind_157 : decode cX3_awaitedBehind 157 = .ok (.goto 22, 3) := bdX3_awaitedBehind_138.2.2.2.2.2.2.2.2.2.2.2.1
theorem dX3_awaitedBehind_160 : decode cX3_awaitedBehind 160 = .ok (.iload_n 0, 1) := bdX3_awaitedBehind_138.2.2.2.2.2.2.2.2.2.2.2.2.1
theorem dX3_awaitedBehind_161 : decode cX3_awaitedBehind 161 = .ok (.ifCond .le 16, 3) := bdX3_awaitedBehind_138.2.2.2.2.2.2.2.2.2.2.2.2.2.1
theorem dX3_awaitedBehind_164 : decode cX3_awaitedBehind 164 = .ok (.iload_n 1, 1) := bdX3_awaitedBehind_138.2.2.2.2.2.2.2.2.2.2.2.2.2.2.1
theorem dX3_awaitedBehind_165 : decode cX3_awaitedBehind 165 = .ok (.invokestatic 42, 3) := bdX3_awaitedBehind_138.2.2.2.2.2.2.2.2.2.2.2.2.2.2.2
theorem bdX3_awaitedBehind_168 : decode cX3_awaitedBehind 168 = .ok (.ifCond .eq 9, 3) ∧ decode cX3_awaitedBehind 171 = .ok (.iload_n 0, 1) ∧ decode cX3_awaitedBehind 172 = .ok (.iconst 1, 1) ∧ decode cX3_awaitedBehind 173 = .ok (.isub, 1) ∧ decode cX3_awaitedBehind 174 = .ok (.goto 5, 3) ∧ decode cX3_awaitedBehind 177 = .ok (.bipush 11, 2) ∧ decode cX3_awaitedBehind 179 = .ok (.ireturn, 1) := by decide +kernel
theorem dX3_awaitedBehind_168 : decode cX3_awaitedBehind 168 = .ok (.ifCond .eq 9, 3) := bdX3_awaitedBehind_168.1
theorem dX3_awaitedBehind_171 : decode cX3_awaitedBehind 171 = .ok (.iload_n 0, 1) := bdX3_awaitedBehind_168.2.1
theorem dX3_awaitedBehind_172 : decode cX3_awaitedBehind 172 = .ok (.iconst 1, 1) := bdX3_awaitedBehind_168.2.2.1
theorem dX3_awaitedBehind_173 : decode cX3_awaitedBehind 173 = .ok (.isub, 1) := bdX3_awaitedBehind_168.2.2.2.1
theorem dX3_awaitedBehind_174 : decode cX3_awaitedBehind 174 = .ok (.goto 5, 3) := bdX3_awaitedBehind_168.2.2.2.2.1
theorem dX3_awaitedBehind_177 : decode cX3_awaitedBehind 177 = .ok (.bipush 11, 2) := bdX3_awaitedBehind_168.2.2.2.2.2.1
theorem dX3_awaitedBehind_179 : decode cX3_awaitedBehind 179 = .ok (.ireturn, 1) := bdX3_awaitedBehind_168.2.2.2.2.2.2
theorem bdX3_awaitedBehindOrder_0 : decode cX3_awaitedBehindOrder 0 = .ok (.iload_n 0, 1) ∧ decode cX3_awaitedBehindOrder 1 = .ok (.lookupswitch 65 #[(99, 56), (100, 62), (102, 53), (115, 59), (119, 51)], 51) ∧ decode cX3_awaitedBehindOrder 52 = .ok (.iconst 5, 1) ∧ decode cX3_awaitedBehindOrder 53 = .ok (.ireturn, 1) ∧ decode cX3_awaitedBehindOrder 54 = .ok (.bipush 6, 2) ∧ decode cX3_awaitedBehindOrder 56 = .ok (.ireturn, 1) ∧ decode cX3_awaitedBehindOrder 57 = .ok (.bipush 9, 2) ∧ decode cX3_awaitedBehindOrder 59 = .ok (.ireturn, 1) ∧ decode cX3_awaitedBehindOrder 60 = .ok (.bipush 8, 2) ∧ decode cX3_awaitedBehindOrder 62 = .ok (.ireturn, 1) ∧ decode cX3_awaitedBehindOrder 63 = .ok (.bipush 10, 2) ∧ decode cX3_awaitedBehindOrder 65 = .ok (.ireturn, 1) ∧ decode cX3_awaitedBehindOrder 66 = .ok (.bipush 11, 2) ∧ decode cX3_awaitedBehindOrder 68 = .ok (.ireturn, 1) := by decide +kernel
theorem dX3_awaitedBehindOrder_0 : decode cX3_awaitedBehindOrder 0 = .ok (.iload_n 0, 1) := bdX3_awaitedBehindOrder_0.1
theorem dX3_awaitedBehindOrder_1 : decode cX3_awaitedBehindOrder 1 = .ok (.lookupswitch 65 #[(99, 56), (100, 62), (102, 53), (115, 59), (119, 51)], 51) := bdX3_awaitedBehindOrder_0.2.1
theorem dX3_awaitedBehindOrder_52 : decode cX3_awaitedBehindOrder 52 = .ok (.iconst 5, 1) := bdX3_awaitedBehindOrder_0.2.2.1
theorem dX3_awaitedBehindOrder_53 : decode cX3_awaitedBehindOrder 53 = .ok (.ireturn, 1) := bdX3_awaitedBehindOrder_0.2.2.2.1
theorem dX3_awaitedBehindOrder_54 : decode cX3_awaitedBehindOrder 54 = .ok (.bipush 6, 2) := bdX3_awaitedBehindOrder_0.2.2.2.2.1
theorem dX3_awaitedBehindOrder_56 : decode cX3_awaitedBehindOrder 56 = .ok (.ireturn, 1) := bdX3_awaitedBehindOrder_0.2.2.2.2.2.1
theorem dX3_awaitedBehindOrder_57 : decode cX3_awaitedBehindOrder 57 = .ok (.bipush 9, 2) := bdX3_awaitedBehindOrder_0.2.2.2.2.2.2.1
theorem dX3_awaitedBehindOrder_59 : decode cX3_awaitedBehindOrder 59 = .ok (.ireturn, 1) := bdX3_awaitedBehindOrder_0.2.2.2.2.2.2.2.1
theorem dX3_awaitedBehindOrder_60 : decode cX3_awaitedBehindOrder 60 = .ok (.bipush 8, 2) := bdX3_awaitedBehindOrder_0.2.2.2.2.2.2.2.2.1
theorem dX3_awaitedBehindOrder_62 : decode cX3_awaitedBehindOrder 62 = .ok (.ireturn, 1) := bdX3_awaitedBehindOrder_0.2.2.2.2.2.2.2.2.2.1
theorem dX3_awaitedBehindOrder_63 : decode cX3_awaitedBehindOrder 63 = .ok (.bipush 10, 2) := bdX3_awaitedBehindOrder_0.2.2.2.2.2.2.2.2.2.2.1
theorem dX3_awaitedBehindOrder_65 : decode cX3_awaitedBehindOrder 65 = .ok (.ireturn, 1) := bdX3_awaitedBehindOrder_0.2.2.2.2.2.2.2.2.2.2.2.1
theorem dX3_awaitedBehindOrder_66 : decode cX3_awaitedBehindOrder 66 = .ok (.bipush 11, 2) := bdX3_awaitedBehindOrder_0.2.2.2.2.2.2.2.2.2.2.2.2.1
theorem dX3_awaitedBehindOrder_68 : decode cX3_awaitedBehindOrder 68 = .ok (.ireturn, 1) := bdX3_awaitedBehindOrder_0.2.2.2.2.2.2.2.2.2.2.2.2.2
theorem bdX3_isCart_0 : decode cX3_isCart 0 = .ok (.iload_n 0, 1) ∧ decode cX3_isCart 1 = .ok (.bipush 65, 2) ∧ decode cX3_isCart 3 = .ok (.if_icmp .lt 13, 3) ∧ decode cX3_isCart 6 = .ok (.iload_n 0, 1) ∧ decode cX3_isCart 7 = .ok (.bipush 80, 2) ∧ decode cX3_isCart 9 = .ok (.if_icmp .gt 7, 3) ∧ decode cX3_isCart 12 = .ok (.iconst 1, 1) ∧ decode cX3_isCart 13 = .ok (.goto 4, 3) ∧ decode cX3_isCart 16 = .ok (.iconst 0, 1) ∧ decode cX3_isCart 17 = .ok (.ireturn, 1) := by decide +kernel
theorem dX3_isCart_0 : decode cX3_isCart 0 = .ok (.iload_n 0, 1) := bdX3_isCart_0.1
theorem dX3_isCart_1 : decode cX3_isCart 1 = .ok (.bipush 65, 2) := bdX3_isCart_0.2.1
theorem dX3_isCart_3 : decode cX3_isCart 3 = .ok (.if_icmp .lt 13, 3) := bdX3_isCart_0.2.2.1
theorem dX3_isCart_6 : decode cX3_isCart 6 = .ok (.iload_n 0, 1) := bdX3_isCart_0.2.2.2.1
theorem dX3_isCart_7 : decode cX3_isCart 7 = .ok (.bipush 80, 2) := bdX3_isCart_0.2.2.2.2.1
theorem dX3_isCart_9 : decode cX3_isCart 9 = .ok (.if_icmp .gt 7, 3) := bdX3_isCart_0.2.2.2.2.2.1
theorem dX3_isCart_12 : decode cX3_isCart 12 = .ok (.iconst 1, 1) := bdX3_isCart_0.2.2.2.2.2.2.1
theorem dX3_isCart_13 : decode cX3_isCart 13 = .ok (.goto 4, 3) := bdX3_isCart_0.2.2.2.2.2.2.2.1
theorem dX3_isCart_16 : decode cX3_isCart 16 = .ok (.iconst 0, 1) := bdX3_isCart_0.2.2.2.2.2.2.2.2.1
theorem dX3_isCart_17 : decode cX3_isCart 17 = .ok (.ireturn, 1) := bdX3_isCart_0.2.2.2.2.2.2.2.2.2
theorem bdX3_isDigit_0 : decode cX3_isDigit 0 = .ok (.iload_n 0, 1) ∧ decode cX3_isDigit 1 = .ok (.bipush 48, 2) ∧ decode cX3_isDigit 3 = .ok (.if_icmp .lt 13, 3) ∧ decode cX3_isDigit 6 = .ok (.iload_n 0, 1) ∧ decode cX3_isDigit 7 = .ok (.bipush 57, 2) ∧ decode cX3_isDigit 9 = .ok (.if_icmp .gt 7, 3) ∧ decode cX3_isDigit 12 = .ok (.iconst 1, 1) ∧ decode cX3_isDigit 13 = .ok (.goto 4, 3) ∧ decode cX3_isDigit 16 = .ok (.iconst 0, 1) ∧ decode cX3_isDigit 17 = .ok (.ireturn, 1) := by decide +kernel
theorem dX3_isDigit_0 : decode cX3_isDigit 0 = .ok (.iload_n 0, 1) := bdX3_isDigit_0.1
theorem dX3_isDigit_1 : decode cX3_isDigit 1 = .ok (.bipush 48, 2) := bdX3_isDigit_0.2.1
theorem dX3_isDigit_3 : decode cX3_isDigit 3 = .ok (.if_icmp .lt 13, 3) := bdX3_isDigit_0.2.2.1
theorem dX3_isDigit_6 : decode cX3_isDigit 6 = .ok (.iload_n 0, 1) := bdX3_isDigit_0.2.2.2.1
theorem dX3_isDigit_7 : decode cX3_isDigit 7 = .ok (.bipush 57, 2) := bdX3_isDigit_0.2.2.2.2.1
theorem dX3_isDigit_9 : decode cX3_isDigit 9 = .ok (.if_icmp .gt 7, 3) := bdX3_isDigit_0.2.2.2.2.2.1
theorem dX3_isDigit_12 : decode cX3_isDigit 12 = .ok (.iconst 1, 1) := bdX3_isDigit_0.2.2.2.2.2.2.1
theorem dX3_isDigit_13 : decode cX3_isDigit 13 = .ok (.goto 4, 3) := bdX3_isDigit_0.2.2.2.2.2.2.2.1
theorem dX3_isDigit_16 : decode cX3_isDigit 16 = .ok (.iconst 0, 1) := bdX3_isDigit_0.2.2.2.2.2.2.2.2.1
theorem dX3_isDigit_17 : decode cX3_isDigit 17 = .ok (.ireturn, 1) := bdX3_isDigit_0.2.2.2.2.2.2.2.2.2
theorem bdX3_endsOrder_0 : decode cX3_endsOrder 0 = .ok (.iload_n 1, 1) ∧ decode cX3_endsOrder 1 = .ok (.aload_n 0, 1) ∧ decode cX3_endsOrder 2 = .ok (.getfield 19, 3) ∧ decode cX3_endsOrder 5 = .ok (.if_icmp .eq 13, 3) ∧ decode cX3_endsOrder 8 = .ok (.aload_n 0, 1) ∧ decode cX3_endsOrder 9 = .ok (.iload_n 1, 1) ∧ decode cX3_endsOrder 10 = .ok (.invokevirtual 27, 3) ∧ decode cX3_endsOrder 13 = .ok (.bipush 59, 2) ∧ decode cX3_endsOrder 15 = .ok (.if_icmp .ne 7, 3) ∧ decode cX3_endsOrder 18 = .ok (.iconst 1, 1) ∧ decode cX3_endsOrder 19 = .ok (.goto 4, 3) ∧ decode cX3_endsOrder 22 = .ok (.iconst 0, 1) ∧ decode cX3_endsOrder 23 = .ok (.ireturn, 1) := by decide +kernel
theorem dX3_endsOrder_0 : decode cX3_endsOrder 0 = .ok (.iload_n 1, 1) := bdX3_endsOrder_0.1
theorem dX3_endsOrder_1 : decode cX3_endsOrder 1 = .ok (.aload_n 0, 1) := bdX3_endsOrder_0.2.1
theorem dX3_endsOrder_2 : decode cX3_endsOrder 2 = .ok (.getfield 19, 3) := bdX3_endsOrder_0.2.2.1
theorem dX3_endsOrder_5 : decode cX3_endsOrder 5 = .ok (.if_icmp .eq 13, 3) := bdX3_endsOrder_0.2.2.2.1
theorem dX3_endsOrder_8 : decode cX3_endsOrder 8 = .ok (.aload_n 0, 1) := bdX3_endsOrder_0.2.2.2.2.1
theorem dX3_endsOrder_9 : decode cX3_endsOrder 9 = .ok (.iload_n 1, 1) := bdX3_endsOrder_0.2.2.2.2.2.1
theorem dX3_endsOrder_10 : decode cX3_endsOrder 10 = .ok (.invokevirtual 27, 3) := bdX3_endsOrder_0.2.2.2.2.2.2.1
theorem dX3_endsOrder_13 : decode cX3_endsOrder 13 = .ok (.bipush 59, 2) := bdX3_endsOrder_0.2.2.2.2.2.2.2.1
theorem dX3_endsOrder_15 : decode cX3_endsOrder 15 = .ok (.if_icmp .ne 7, 3) := bdX3_endsOrder_0.2.2.2.2.2.2.2.2.1
theorem dX3_endsOrder_18 : decode cX3_endsOrder 18 = .ok (.iconst 1, 1) := bdX3_endsOrder_0.2.2.2.2.2.2.2.2.2.1
theorem dX3_endsOrder_19 : decode cX3_endsOrder 19 = .ok (.goto 4, 3) := bdX3_endsOrder_0.2.2.2.2.2.2.2.2.2.2.1
theorem dX3_endsOrder_22 : decode cX3_endsOrder 22 = .ok (.iconst 0, 1) := bdX3_endsOrder_0.2.2.2.2.2.2.2.2.2.2.2.1
theorem dX3_endsOrder_23 : decode cX3_endsOrder 23 = .ok (.ireturn, 1) := bdX3_endsOrder_0.2.2.2.2.2.2.2.2.2.2.2.2
theorem bdX3_wishAt_0 : decode cX3_wishAt 0 = .ok (.iload_n 1, 1) ∧ decode cX3_wishAt 1 = .ok (.iload_n 2, 1) ∧ decode cX3_wishAt 2 = .ok (.if_icmp .ge 14, 3) ∧ decode cX3_wishAt 5 = .ok (.aload_n 0, 1) ∧ decode cX3_wishAt 6 = .ok (.iload_n 1, 1) ∧ decode cX3_wishAt 7 = .ok (.invokevirtual 27, 3) ∧ decode cX3_wishAt 10 = .ok (.bipush 48, 2) ∧ decode cX3_wishAt 12 = .ok (.isub, 1) ∧ decode cX3_wishAt 13 = .ok (.goto 5, 3) ∧ decode cX3_wishAt 16 = .ok (.bipush (-6), 2) ∧ decode cX3_wishAt 18 = .ok (.ireturn, 1) := by decide +kernel
theorem dX3_wishAt_0 : decode cX3_wishAt 0 = .ok (.iload_n 1, 1) := bdX3_wishAt_0.1
theorem dX3_wishAt_1 : decode cX3_wishAt 1 = .ok (.iload_n 2, 1) := bdX3_wishAt_0.2.1
theorem dX3_wishAt_2 : decode cX3_wishAt 2 = .ok (.if_icmp .ge 14, 3) := bdX3_wishAt_0.2.2.1
theorem dX3_wishAt_5 : decode cX3_wishAt 5 = .ok (.aload_n 0, 1) := bdX3_wishAt_0.2.2.2.1
theorem dX3_wishAt_6 : decode cX3_wishAt 6 = .ok (.iload_n 1, 1) := bdX3_wishAt_0.2.2.2.2.1
theorem dX3_wishAt_7 : decode cX3_wishAt 7 = .ok (.invokevirtual 27, 3) := bdX3_wishAt_0.2.2.2.2.2.1
theorem dX3_wishAt_10 : decode cX3_wishAt 10 = .ok (.bipush 48, 2) := bdX3_wishAt_0.2.2.2.2.2.2.1
theorem dX3_wishAt_12 : decode cX3_wishAt 12 = .ok (.isub, 1) := bdX3_wishAt_0.2.2.2.2.2.2.2.1
theorem dX3_wishAt_13 : decode cX3_wishAt 13 = .ok (.goto 5, 3) := bdX3_wishAt_0.2.2.2.2.2.2.2.2.1
theorem dX3_wishAt_16 : decode cX3_wishAt 16 = .ok (.bipush (-6), 2) := bdX3_wishAt_0.2.2.2.2.2.2.2.2.2.1
theorem dX3_wishAt_18 : decode cX3_wishAt 18 = .ok (.ireturn, 1) := bdX3_wishAt_0.2.2.2.2.2.2.2.2.2.2
theorem bdX3_numberAt_0 : decode cX3_numberAt 0 = .ok (.iconst 0, 1) ∧ decode cX3_numberAt 1 = .ok (.istore_n 3, 1) ∧ decode cX3_numberAt 2 = .ok (.iload_n 1, 1) ∧ decode cX3_numberAt 3 = .ok (.istore 4, 2) ∧ decode cX3_numberAt 5 = .ok (.iload 4, 2) ∧ decode cX3_numberAt 7 = .ok (.iload_n 2, 1) ∧ decode cX3_numberAt 8 = .ok (.if_icmp .ge 24, 3) ∧ decode cX3_numberAt 11 = .ok (.bipush 10, 2) ∧ decode cX3_numberAt 13 = .ok (.iload_n 3, 1) ∧ decode cX3_numberAt 14 = .ok (.imul, 1) ∧ decode cX3_numberAt 15 = .ok (.aload_n 0, 1) ∧ decode cX3_numberAt 16 = .ok (.iload 4, 2) ∧ decode cX3_numberAt 18 = .ok (.invokevirtual 27, 3) ∧ decode cX3_numberAt 21 = .ok (.iadd, 1) ∧ decode cX3_numberAt 22 = .ok (.bipush 48, 2) ∧ decode cX3_numberAt 24 = .ok (.isub, 1) := by decide +kernel
theorem dX3_numberAt_0 : decode cX3_numberAt 0 = .ok (.iconst 0, 1) := bdX3_numberAt_0.1
theorem dX3_numberAt_1 : decode cX3_numberAt 1 = .ok (.istore_n 3, 1) := bdX3_numberAt_0.2.1
theorem dX3_numberAt_2 : decode cX3_numberAt 2 = .ok (.iload_n 1, 1) := bdX3_numberAt_0.2.2.1
theorem dX3_numberAt_3 : decode cX3_numberAt 3 = .ok (.istore 4, 2) := bdX3_numberAt_0.2.2.2.1
theorem dX3_numberAt_5 : decode cX3_numberAt 5 = .ok (.iload 4, 2) := bdX3_numberAt_0.2.2.2.2.1
theorem dX3_numberAt_7 : decode cX3_numberAt 7 = .ok (.iload_n 2, 1) := bdX3_numberAt_0.2.2.2.2.2.1
theorem dX3_numberAt_8 : decode cX3_numberAt 8 = .ok (.if_icmp .ge 24, 3) := bdX3_numberAt_0.2.2.2.2.2.2.1
theorem dX3_numberAt_11 : decode cX3_numberAt 11 = .ok (.bipush 10, 2) := bdX3_numberAt_0.2.2.2.2.2.2.2.1
theorem dX3_numberAt_13 : decode cX3_numberAt 13 = .ok (.iload_n 3, 1) := bdX3_numberAt_0.2.2.2.2.2.2.2.2.1
theorem dX3_numberAt_14 : decode cX3_numberAt 14 = .ok (.imul, 1) := bdX3_numberAt_0.2.2.2.2.2.2.2.2.2.1
theorem dX3_numberAt_15 : decode cX3_numberAt 15 = .ok (.aload_n 0, 1) := bdX3_numberAt_0.2.2.2.2.2.2.2.2.2.2.1
theorem dX3_numberAt_16 : decode cX3_numberAt 16 = .ok (.iload 4, 2) := bdX3_numberAt_0.2.2.2.2.2.2.2.2.2.2.2.1
theorem dX3_numberAt_18 : decode cX3_numberAt 18 = .ok (.invokevirtual 27, 3) := bdX3_numberAt_0.2.2.2.2.2.2.2.2.2.2.2.2.1
theorem dX3_numberAt_21 : decode cX3_numberAt 21 = .ok (.iadd, 1) := bdX3_numberAt_0.2.2.2.2.2.2.2.2.2.2.2.2.2.1
theorem dX3_numberAt_22 : decode cX3_numberAt 22 = .ok (.bipush 48, 2) := bdX3_numberAt_0.2.2.2.2.2.2.2.2.2.2.2.2.2.2.1
theorem dX3_numberAt_24 : decode cX3_numberAt 24 = .ok (.isub, 1) := bdX3_numberAt_0.2.2.2.2.2.2.2.2.2.2.2.2.2.2.2
theorem bdX3_numberAt_25 : decode cX3_numberAt 25 = .ok (.istore_n 3, 1) ∧ decode cX3_numberAt 26 = .ok (.iinc 4 1, 3) ∧ decode cX3_numberAt 29 = .ok (.goto (-24), 3) ∧ decode cX3_numberAt 32 = .ok (.iload_n 3, 1) ∧ decode cX3_numberAt 33 = .ok (.ireturn, 1) := by decide +kernel
theorem dX3_numberAt_25 : decode cX3_numberAt 25 = .ok (.istore_n 3, 1) := bdX3_numberAt_25.1
theorem dX3_numberAt_26 : decode cX3_numberAt 26 = .ok (.iinc 4 1, 3) := bdX3_numberAt_25.2.1
theorem dX3_numberAt_29 : decode cX3_numberAt 29 = .ok (.goto (-24), 3) := bdX3_numberAt_25.2.2.1
theorem dX3_numberAt_32 : decode cX3_numberAt 32 = .ok (.iload_n 3, 1) := bdX3_numberAt_25.2.2.2.1
theorem dX3_numberAt_33 : decode cX3_numberAt 33 = .ok (.ireturn, 1) := bdX3_numberAt_25.2.2.2.2
theorem bdX4_init_0 : decode cX4_init 0 = .ok (.aload_n 0, 1) ∧ decode cX4_init 1 = .ok (.invokespecial 3, 3) ∧ decode cX4_init 4 = .ok (.return_, 1) := by decide +kernel
theorem dX4_init_0 : decode cX4_init 0 = .ok (.aload_n 0, 1) := bdX4_init_0.1
theorem dX4_init_1 : decode cX4_init 1 = .ok (.invokespecial 3, 3) := bdX4_init_0.2.1
theorem dX4_init_4 : decode cX4_init 4 = .ok (.return_, 1) := bdX4_init_0.2.2
theorem bdX4_begin_0 : decode cX4_begin 0 = .ok (.aload_n 0, 1) ∧ decode cX4_begin 1 = .ok (.iload_n 1, 1) ∧ decode cX4_begin 2 = .ok (.putfield 9, 3) ∧ decode cX4_begin 5 = .ok (.aload_n 0, 1) ∧ decode cX4_begin 6 = .ok (.iconst 0, 1) ∧ decode cX4_begin 7 = .ok (.putfield 15, 3) ∧ decode cX4_begin 10 = .ok (.aload_n 0, 1) ∧ decode cX4_begin 11 = .ok (.iconst 0, 1) ∧ decode cX4_begin 12 = .ok (.putfield 18, 3) ∧ decode cX4_begin 15 = .ok (.aload_n 0, 1) ∧ decode cX4_begin 16 = .ok (.bipush (-6), 2) ∧ decode cX4_begin 18 = .ok (.putfield 21, 3) ∧ decode cX4_begin 21 = .ok (.return_, 1) := by decide +kernel
theorem dX4_begin_0 : decode cX4_begin 0 = .ok (.aload_n 0, 1) := bdX4_begin_0.1
theorem dX4_begin_1 : decode cX4_begin 1 = .ok (.iload_n 1, 1) := bdX4_begin_0.2.1
theorem dX4_begin_2 : decode cX4_begin 2 = .ok (.putfield 9, 3) := bdX4_begin_0.2.2.1
theorem dX4_begin_5 : decode cX4_begin 5 = .ok (.aload_n 0, 1) := bdX4_begin_0.2.2.2.1
theorem dX4_begin_6 : decode cX4_begin 6 = .ok (.iconst 0, 1) := bdX4_begin_0.2.2.2.2.1
theorem dX4_begin_7 : decode cX4_begin 7 = .ok (.putfield 15, 3) := bdX4_begin_0.2.2.2.2.2.1
theorem dX4_begin_10 : decode cX4_begin 10 = .ok (.aload_n 0, 1) := bdX4_begin_0.2.2.2.2.2.2.1
theorem dX4_begin_11 : decode cX4_begin 11 = .ok (.iconst 0, 1) := bdX4_begin_0.2.2.2.2.2.2.2.1
theorem dX4_begin_12 : decode cX4_begin 12 = .ok (.putfield 18, 3) := bdX4_begin_0.2.2.2.2.2.2.2.2.1
theorem dX4_begin_15 : decode cX4_begin 15 = .ok (.aload_n 0, 1) := bdX4_begin_0.2.2.2.2.2.2.2.2.2.1
theorem dX4_begin_16 : decode cX4_begin 16 = .ok (.bipush (-6), 2) := bdX4_begin_0.2.2.2.2.2.2.2.2.2.2.1
theorem dX4_begin_18 : decode cX4_begin 18 = .ok (.putfield 21, 3) := bdX4_begin_0.2.2.2.2.2.2.2.2.2.2.2.1
theorem dX4_begin_21 : decode cX4_begin 21 = .ok (.return_, 1) := bdX4_begin_0.2.2.2.2.2.2.2.2.2.2.2.2
theorem bdX4_copyFrom_0 : decode cX4_copyFrom 0 = .ok (.aload_n 0, 1) ∧ decode cX4_copyFrom 1 = .ok (.aload_n 1, 1) ∧ decode cX4_copyFrom 2 = .ok (.getfield 9, 3) ∧ decode cX4_copyFrom 5 = .ok (.putfield 9, 3) ∧ decode cX4_copyFrom 8 = .ok (.aload_n 0, 1) ∧ decode cX4_copyFrom 9 = .ok (.aload_n 1, 1) ∧ decode cX4_copyFrom 10 = .ok (.getfield 15, 3) ∧ decode cX4_copyFrom 13 = .ok (.putfield 15, 3) ∧ decode cX4_copyFrom 16 = .ok (.aload_n 0, 1) ∧ decode cX4_copyFrom 17 = .ok (.aload_n 1, 1) ∧ decode cX4_copyFrom 18 = .ok (.getfield 18, 3) ∧ decode cX4_copyFrom 21 = .ok (.putfield 18, 3) ∧ decode cX4_copyFrom 24 = .ok (.aload_n 0, 1) ∧ decode cX4_copyFrom 25 = .ok (.aload_n 1, 1) ∧ decode cX4_copyFrom 26 = .ok (.getfield 21, 3) ∧ decode cX4_copyFrom 29 = .ok (.putfield 21, 3) := by decide +kernel
theorem dX4_copyFrom_0 : decode cX4_copyFrom 0 = .ok (.aload_n 0, 1) := bdX4_copyFrom_0.1
theorem dX4_copyFrom_1 : decode cX4_copyFrom 1 = .ok (.aload_n 1, 1) := bdX4_copyFrom_0.2.1
theorem dX4_copyFrom_2 : decode cX4_copyFrom 2 = .ok (.getfield 9, 3) := bdX4_copyFrom_0.2.2.1
theorem dX4_copyFrom_5 : decode cX4_copyFrom 5 = .ok (.putfield 9, 3) := bdX4_copyFrom_0.2.2.2.1
theorem dX4_copyFrom_8 : decode cX4_copyFrom 8 = .ok (.aload_n 0, 1) := bdX4_copyFrom_0.2.2.2.2.1
theorem dX4_copyFrom_9 : decode cX4_copyFrom 9 = .ok (.aload_n 1, 1) := bdX4_copyFrom_0.2.2.2.2.2.1
theorem dX4_copyFrom_10 : decode cX4_copyFrom 10 = .ok (.getfield 15, 3) := bdX4_copyFrom_0.2.2.2.2.2.2.1
theorem dX4_copyFrom_13 : decode cX4_copyFrom 13 = .ok (.putfield 15, 3) := bdX4_copyFrom_0.2.2.2.2.2.2.2.1
theorem dX4_copyFrom_16 : decode cX4_copyFrom 16 = .ok (.aload_n 0, 1) := bdX4_copyFrom_0.2.2.2.2.2.2.2.2.1
theorem dX4_copyFrom_17 : decode cX4_copyFrom 17 = .ok (.aload_n 1, 1) := bdX4_copyFrom_0.2.2.2.2.2.2.2.2.2.1
theorem dX4_copyFrom_18 : decode cX4_copyFrom 18 = .ok (.getfield 18, 3) := bdX4_copyFrom_0.2.2.2.2.2.2.2.2.2.2.1
theorem dX4_copyFrom_21 : decode cX4_copyFrom 21 = .ok (.putfield 18, 3) := bdX4_copyFrom_0.2.2.2.2.2.2.2.2.2.2.2.1
theorem dX4_copyFrom_24 : decode cX4_copyFrom 24 = .ok (.aload_n 0, 1) := bdX4_copyFrom_0.2.2.2.2.2.2.2.2.2.2.2.2.1
theorem dX4_copyFrom_25 : decode cX4_copyFrom 25 = .ok (.aload_n 1, 1) := bdX4_copyFrom_0.2.2.2.2.2.2.2.2.2.2.2.2.2.1
theorem dX4_copyFrom_26 : decode cX4_copyFrom 26 = .ok (.getfield 21, 3) := bdX4_copyFrom_0.2.2.2.2.2.2.2.2.2.2.2.2.2.2.1
theorem dX4_copyFrom_29 : decode cX4_copyFrom 29 = .ok (.putfield 21, 3) := bdX4_copyFrom_0.2.2.2.2.2.2.2.2.2.2.2.2.2.2.2
theorem dX4_copyFrom_32 : decode cX4_copyFrom 32 = .ok (.return_, 1) := by decide +kernel
theorem bdX5_init_0 : decode cX5_init 0 = .ok (.aload_n 0, 1) ∧ decode cX5_init 1 = .ok (.invokespecial 3, 3) ∧ decode cX5_init 4 = .ok (.aload_n 0, 1) ∧ decode cX5_init 5 = .ok (.iconst 1, 1) ∧ decode cX5_init 6 = .ok (.putfield 9, 3) ∧ decode cX5_init 9 = .ok (.aload_n 0, 1) ∧ decode cX5_init 10 = .ok (.bipush 10, 2) ∧ decode cX5_init 12 = .ok (.newarray .int, 2) ∧ decode cX5_init 14 = .ok (.putfield 15, 3) ∧ decode cX5_init 17 = .ok (.aload_n 0, 1) ∧ decode cX5_init 18 = .ok (.bipush 10, 2) ∧ decode cX5_init 20 = .ok (.anewarray 19, 3) ∧ decode cX5_init 23 = .ok (.putfield 21, 3) ∧ decode cX5_init 26 = .ok (.aload_n 0, 1) ∧ decode cX5_init 27 = .ok (.bipush 16, 2) ∧ decode cX5_init 29 = .ok (.anewarray 25, 3) := by decide +kernel
theorem dX5_init_0 : decode cX5_init 0 = .ok (.aload_n 0, 1) := bdX5_init_0.1
theorem dX5_init_1 : decode cX5_init 1 = .ok (.invokespecial 3, 3) := bdX5_init_0.2.1
theorem dX5_init_4 : decode cX5_init 4 = .ok (.aload_n 0, 1) := bdX5_init_0.2.2.1
theorem dX5_init_5 : decode cX5_init 5 = .ok (.iconst 1, 1) := bdX5_init_0.2.2.2.1
theorem dX5_init_6 : decode cX5_init 6 = .ok (.putfield 9, 3) := bdX5_init_0.2.2.2.2.1
theorem dX5_init_9 : decode cX5_init 9 = .ok (.aload_n 0, 1) := bdX5_init_0.2.2.2.2.2.1
theorem dX5_init_10 : decode cX5_init 10 = .ok (.bipush 10, 2) := bdX5_init_0.2.2.2.2.2.2.1
theorem dX5_init_12 : decode cX5_init 12 = .ok (.newarray .int, 2) := bdX5_init_0.2.2.2.2.2.2.2.1
theorem dX5_init_14 : decode cX5_init 14 = .ok (.putfield 15, 3) := bdX5_init_0.2.2.2.2.2.2.2.2.1
theorem dX5_init_17 : decode cX5_init 17 = .ok (.aload_n 0, 1) := bdX5_init_0.2.2.2.2.2.2.2.2.2.1
theorem dX5_init_18 : decode cX5_init 18 = .ok (.bipush 10, 2) := bdX5_init_0.2.2.2.2.2.2.2.2.2.2.1
theorem dX5_init_20 : decode cX5_init 20 = .ok (.anewarray 19, 3) := bdX5_init_0.2.2.2.2.2.2.2.2.2.2.2.1
theorem dX5_init_23 : decode cX5_init 23 = .ok (.putfield 21, 3) := bdX5_init_0.2.2.2.2.2.2.2.2.2.2.2.2.1
theorem dX5_init_26 : decode cX5_init 26 = .ok (.aload_n 0, 1) := bdX5_init_0.2.2.2.2.2.2.2.2.2.2.2.2.2.1
theorem dX5_init_27 : decode cX5_init 27 = .ok (.bipush 16, 2) := bdX5_init_0.2.2.2.2.2.2.2.2.2.2.2.2.2.2.1
theorem dX5_init_29 : decode cX5_init 29 = .ok (.anewarray 25, 3) := bdX5_init_0.2.2.2.2.2.2.2.2.2.2.2.2.2.2.2
theorem bdX5_init_32 : decode cX5_init 32 = .ok (.putfield 27, 3) ∧ decode cX5_init 35 = .ok (.aload_n 0, 1) ∧ decode cX5_init 36 = .ok (.bipush 8, 2) ∧ decode cX5_init 38 = .ok (.newarray .int, 2) ∧ decode cX5_init 40 = .ok (.putfield 31, 3) ∧ decode cX5_init 43 = .ok (.aload_n 0, 1) ∧ decode cX5_init 44 = .ok (.bipush 8, 2) ∧ decode cX5_init 46 = .ok (.newarray .int, 2) ∧ decode cX5_init 48 = .ok (.putfield 34, 3) ∧ decode cX5_init 51 = .ok (.aload_n 0, 1) ∧ decode cX5_init 52 = .ok (.bipush 16, 2) ∧ decode cX5_init 54 = .ok (.newarray .int, 2) ∧ decode cX5_init 56 = .ok (.putfield 37, 3) ∧ decode cX5_init 59 = .ok (.aload_n 0, 1) ∧ decode cX5_init 60 = .ok (.bipush 16, 2) ∧ decode cX5_init 62 = .ok (.newarray .int, 2) := by decide +kernel
theorem dX5_init_32 : decode cX5_init 32 = .ok (.putfield 27, 3) := bdX5_init_32.1
theorem dX5_init_35 : decode cX5_init 35 = .ok (.aload_n 0, 1) := bdX5_init_32.2.1
theorem dX5_init_36 : decode cX5_init 36 = .ok (.bipush 8, 2) := bdX5_init_32.2.2.1
theorem dX5_init_38 : decode cX5_init 38 = .ok (.newarray .int, 2) := bdX5_init_32.2.2.2.1
theorem dX5_init_40 : decode cX5_init 40 = .ok (.putfield 31, 3) := bdX5_init_32.2.2.2.2.1
theorem dX5_init_43 : decode cX5_init 43 = .ok (.aload_n 0, 1) := bdX5_init_32.2.2.2.2.2.1
theorem dX5_init_44 : decode cX5_init 44 = .ok (.bipush 8, 2) := bdX5_init_32.2.2.2.2.2.2.1
theorem dX5_init_46 : decode cX5_init 46 = .ok (.newarray .int, 2) := bdX5_init_32.2.2.2.2.2.2.2.1
theorem dX5_init_48 : decode cX5_init 48 = .ok (.putfield 34, 3) := bdX5_init_32.2.2.2.2.2.2.2.2.1
theorem dX5_init_51 : decode cX5_init 51 = .ok (.aload_n 0, 1) := bdX5_init_32.2.2.2.2.2.2.2.2.2.1
theorem dX5_init_52 : decode cX5_init 52 = .ok (.bipush 16, 2) := bdX5_init_32.2.2.2.2.2.2.2.2.2.2.1
theorem dX5_init_54 : decode cX5_init 54 = .ok (.newarray .int, 2) := bdX5_init_32.2.2.2.2.2.2.2.2.2.2.2.1
theorem dX5_init_56 : decode cX5_init 56 = .ok (.putfield 37, 3) := bdX5_init_32.2.2.2.2.2.2.2.2.2.2.2.2.1
theorem dX5_init_59 : decode cX5_init 59 = .ok (.aload_n 0, 1) := bdX5_init_32.2.2.2.2.2.2.2.2.2.2.2.2.2.1
theorem dX5_init_60 : decode cX5_init 60 = .ok (.bipush 16, 2) := bdX5_init_32.2.2.2.2.2.2.2.2.2.2.2.2.2.2.1
theorem dX5_init_62 : decode cX5_init 62 = .ok (.newarray .int, 2) := bdX5_init_32.2.2.2.2.2.2.2.2.2.2.2.2.2.2.2
theorem bdX5_init_64 : decode cX5_init 64 = .ok (.putfield 40, 3) ∧ decode cX5_init 67 = .ok (.iconst 0, 1) ∧ decode cX5_init 68 = .ok (.istore_n 1, 1) ∧ decode cX5_init 69 = .ok (.iload_n 1, 1) ∧ decode cX5_init 70 = .ok (.bipush 10, 2) ∧ decode cX5_init 72 = .ok (.if_icmp .ge 20, 3) ∧ decode cX5_init 75 = .ok (.aload_n 0, 1) ∧ decode cX5_init 76 = .ok (.getfield 15, 3) ∧ decode cX5_init 79 = .ok (.iload_n 1, 1) ∧ decode cX5_init 80 = .ok (.getstatic 43, 3) ∧ decode cX5_init 83 = .ok (.iload_n 1, 1) ∧ decode cX5_init 84 = .ok (.iaload, 1) ∧ decode cX5_init 85 = .ok (.iastore, 1) ∧ decode cX5_init 86 = .ok (.iinc 1 1, 3) ∧ decode cX5_init 89 = .ok (.goto (-20), 3) ∧ decode cX5_init 92 = .ok (.iconst 0, 1) := by decide +kernel
theorem dX5_init_64 : decode cX5_init 64 = .ok (.putfield 40, 3) := bdX5_init_64.1
theorem dX5_init_67 : decode cX5_init 67 = .ok (.iconst 0, 1) := bdX5_init_64.2.1
theorem dX5_init_68 : decode cX5_init 68 = .ok (.istore_n 1, 1) := bdX5_init_64.2.2.1
theorem dX5_init_69 : decode cX5_init 69 = .ok (.iload_n 1, 1) := bdX5_init_64.2.2.2.1
theorem dX5_init_70 : decode cX5_init 70 = .ok (.bipush 10, 2) := bdX5_init_64.2.2.2.2.1
theorem dX5_init_72 : decode cX5_init 72 = .ok (.if_icmp .ge 20, 3) := bdX5_init_64.2.2.2.2.2.1
theorem dX5_init_75 : decode cX5_init 75 = .ok (.aload_n 0, 1) := bdX5_init_64.2.2.2.2.2.2.1
theorem dX5_init_76 : decode cX5_init 76 = .ok (.getfield 15, 3) := bdX5_init_64.2.2.2.2.2.2.2.1
theorem dX5_init_79 : decode cX5_init 79 = .ok (.iload_n 1, 1) := bdX5_init_64.2.2.2.2.2.2.2.2.1
theorem dX5_init_80 : decode cX5_init 80 = .ok (.getstatic 43, 3) := bdX5_init_64.2.2.2.2.2.2.2.2.2.1
theorem dX5_init_83 : decode cX5_init 83 = .ok (.iload_n 1, 1) := bdX5_init_64.2.2.2.2.2.2.2.2.2.2.1
theorem dX5_init_84 : decode cX5_init 84 = .ok (.iaload, 1) := bdX5_init_64.2.2.2.2.2.2.2.2.2.2.2.1
theorem dX5_init_85 : decode cX5_init 85 = .ok (.iastore, 1) := bdX5_init_64.2.2.2.2.2.2.2.2.2.2.2.2.1
theorem dX5_init_86 : decode cX5_init 86 = .ok (.iinc 1 1, 3) := bdX5_init_64.2.2.2.2.2.2.2.2.2.2.2.2.2.1
theorem dX5_init_89 : decode cX5_init 89 = .ok (.goto (-20), 3) := bdX5_init_64.2.2.2.2.2.2.2.2.2.2.2.2.2.2.1
theorem dX5_init_92 : decode cX5_init 92 = .ok (.iconst 0, 1) := bdX5_init_64.2.2.2.2.2.2.2.2.2.2.2.2.2.2.2
theorem bdX5_init_93 : decode cX5_init 93 = .ok (.istore_n 1, 1) ∧ decode cX5_init 94 = .ok (.iload_n 1, 1) ∧ decode cX5_init 95 = .ok (.bipush 10, 2) ∧ decode cX5_init 97 = .ok (.if_icmp .ge 22, 3) ∧ decode cX5_init 100 = .ok (.aload_n 0, 1) ∧ decode cX5_init 101 = .ok (.getfield 21, 3) ∧ decode cX5_init 104 = .ok (.iload_n 1, 1) ∧ decode cX5_init 105 = .ok (.new 19, 3) ∧ decode cX5_init 108 = .ok (.dup, 1) ∧ decode cX5_init 109 = .ok (.invokespecial 46, 3) ∧ decode cX5_init 112 = .ok (.aastore, 1) ∧ decode cX5_init 113 = .ok (.iinc 1 1, 3) ∧ decode cX5_init 116 = .ok (.goto (-22), 3) ∧ decode cX5_init 119 = .ok (.iconst 0, 1) ∧ decode cX5_init 120 = .ok (.istore_n 1, 1) ∧ decode cX5_init 121 = .ok (.iload_n 1, 1) := by decide +kernel
theorem dX5_init_93 : decode cX5_init 93 = .ok (.istore_n 1, 1) := bdX5_init_93.1
theorem dX5_init_94 : decode cX5_init 94 = .ok (.iload_n 1, 1) := bdX5_init_93.2.1
theorem dX5_init_95 : decode cX5_init 95 = .ok (.bipush 10, 2) := bdX5_init_93.2.2.1
theorem dX5_init_97 : decode cX5_init 97 = .ok (.if_icmp .ge 22, 3) := bdX5_init_93.2.2.2.1
theorem dX5_init_100 : decode cX5_init 100 = .ok (.aload_n 0, 1) := bdX5_init_93.2.2.2.2.1
theorem dX5_init_101 : decode cX5_init 101 = .ok (.getfield 21, 3) := bdX5_init_93.2.2.2.2.2.1
theorem dX5_init_104 : decode cX5_init 104 = .ok (.iload_n 1, 1) := bdX5_init_93.2.2.2.2.2.2.1
theorem dX5_init_105 : decode cX5_init 105 = .ok (.new 19, 3) := bdX5_init_93.2.2.2.2.2.2.2.1
theorem dX5_init_108 : decode cX5_init 108 = .ok (.dup, 1) := bdX5_init_93.2.2.2.2.2.2.2.2.1
theorem dX5_init_109 : decode cX5_init 109 = .ok (.invokespecial 46, 3) := bdX5_init_93.2.2.2.2.2.2.2.2.2.1
theorem dX5_init_112 : decode cX5_init 112 = .ok (.aastore, 1) := bdX5_init_93.2.2.2.2.2.2.2.2.2.2.1
theorem dX5_init_113 : decode cX5_init 113 = .ok (.iinc 1 1, 3) := bdX5_init_93.2.2.2.2.2.2.2.2.2.2.2.1
theorem dX5_init_116 : decode cX5_init 116 = .ok (.goto (-22), 3) := bdX5_init_93.2.2.2.2.2.2.2.2.2.2.2.2.1
theorem dX5_init_119 : decode cX5_init 119 = .ok (.iconst 0, 1) := bdX5_init_93.2.2.2.2.2.2.2.2.2.2.2.2.2.1
theorem dX5_init_120 : decode cX5_init 120 = .ok (.istore_n 1, 1) := bdX5_init_93.2.2.2.2.2.2.2.2.2.2.2.2.2.2.1
theorem dX5_init_121 : decode cX5_init 121 = .ok (.iload_n 1, 1) := bdX5_init_93.2.2.2.2.2.2.2.2.2.2.2.2.2.2.2
theorem bdX5_init_122 : decode cX5_init 122 = .ok (.bipush 16, 2) ∧ decode cX5_init 124 = .ok (.if_icmp .ge 22, 3) ∧ decode cX5_init 127 = .ok (.aload_n 0, 1) ∧ decode cX5_init 128 = .ok (.getfield 27, 3) ∧ decode cX5_init 131 = .ok (.iload_n 1, 1) ∧ decode cX5_init 132 = .ok (.new 25, 3) ∧ decode cX5_init 135 = .ok (.dup, 1) ∧ decode cX5_init 136 = .ok (.invokespecial 47, 3) ∧ decode cX5_init 139 = .ok (.aastore, 1) ∧ decode cX5_init 140 = .ok (.iinc 1 1, 3) ∧ decode cX5_init 143 = .ok (.goto (-22), 3) ∧ decode cX5_init 146 = .ok (.return_, 1) := by decide +kernel
theorem dX5_init_122 : decode cX5_init 122 = .ok (.bipush 16, 2) := bdX5_init_122.1
theorem dX5_init_124 : decode cX5_init 124 = .ok (.if_icmp .ge 22, 3) := bdX5_init_122.2.1
theorem dX5_init_127 : decode cX5_init 127 = .ok (.aload_n 0, 1) := bdX5_init_122.2.2.1
theorem dX5_init_128 : decode cX5_init 128 = .ok (.getfield 27, 3) := bdX5_init_122.2.2.2.1
theorem dX5_init_131 : decode cX5_init 131 = .ok (.iload_n 1, 1) := bdX5_init_122.2.2.2.2.1
theorem dX5_init_132 : decode cX5_init 132 = .ok (.new 25, 3) := bdX5_init_122.2.2.2.2.2.1
theorem dX5_init_135 : decode cX5_init 135 = .ok (.dup, 1) := bdX5_init_122.2.2.2.2.2.2.1
theorem dX5_init_136 : decode cX5_init 136 = .ok (.invokespecial 47, 3) := bdX5_init_122.2.2.2.2.2.2.2.1
theorem dX5_init_139 : decode cX5_init 139 = .ok (.aastore, 1) := bdX5_init_122.2.2.2.2.2.2.2.2.1
theorem dX5_init_140 : decode cX5_init 140 = .ok (.iinc 1 1, 3) := bdX5_init_122.2.2.2.2.2.2.2.2.2.1
theorem dX5_init_143 : decode cX5_init 143 = .ok (.goto (-22), 3) := bdX5_init_122.2.2.2.2.2.2.2.2.2.2.1
theorem dX5_init_146 : decode cX5_init 146 = .ok (.return_, 1) := bdX5_init_122.2.2.2.2.2.2.2.2.2.2.2
theorem bdX5_copyFrom_0 : decode cX5_copyFrom 0 = .ok (.aload_n 0, 1) ∧ decode cX5_copyFrom 1 = .ok (.aload_n 1, 1) ∧ decode cX5_copyFrom 2 = .ok (.getfield 48, 3) ∧ decode cX5_copyFrom 5 = .ok (.putfield 48, 3) ∧ decode cX5_copyFrom 8 = .ok (.aload_n 0, 1) ∧ decode cX5_copyFrom 9 = .ok (.aload_n 1, 1) ∧ decode cX5_copyFrom 10 = .ok (.getfield 9, 3) ∧ decode cX5_copyFrom 13 = .ok (.putfield 9, 3) ∧ decode cX5_copyFrom 16 = .ok (.aload_n 0, 1) ∧ decode cX5_copyFrom 17 = .ok (.aload_n 1, 1) ∧ decode cX5_copyFrom 18 = .ok (.getfield 51, 3) ∧ decode cX5_copyFrom 21 = .ok (.putfield 51, 3) ∧ decode cX5_copyFrom 24 = .ok (.aload_n 0, 1) ∧ decode cX5_copyFrom 25 = .ok (.aload_n 1, 1) ∧ decode cX5_copyFrom 26 = .ok (.getfield 54, 3) ∧ decode cX5_copyFrom 29 = .ok (.putfield 54, 3) := by decide +kernel
theorem dX5_copyFrom_0 : decode cX5_copyFrom 0 = .ok (.aload_n 0, 1) := bdX5_copyFrom_0.1
theorem dX5_copyFrom_1 : decode cX5_copyFrom 1 = .ok (.aload_n 1, 1) := bdX5_copyFrom_0.2.1
theorem dX5_copyFrom_2 : decode cX5_copyFrom 2 = .ok (.getfield 48, 3) := bdX5_copyFrom_0.2.2.1
theorem dX5_copyFrom_5 : decode cX5_copyFrom 5 = .ok (.putfield 48, 3) := bdX5_copyFrom_0.2.2.2.1
theorem dX5_copyFrom_8 : decode cX5_copyFrom 8 = .ok (.aload_n 0, 1) := bdX5_copyFrom_0.2.2.2.2.1
theorem dX5_copyFrom_9 : decode cX5_copyFrom 9 = .ok (.aload_n 1, 1) := bdX5_copyFrom_0.2.2.2.2.2.1
theorem dX5_copyFrom_10 : decode cX5_copyFrom 10 = .ok (.getfield 9, 3) := bdX5_copyFrom_0.2.2.2.2.2.2.1
theorem dX5_copyFrom_13 : decode cX5_copyFrom 13 = .ok (.putfield 9, 3) := bdX5_copyFrom_0.2.2.2.2.2.2.2.1
theorem dX5_copyFrom_16 : decode cX5_copyFrom 16 = .ok (.aload_n 0, 1) := bdX5_copyFrom_0.2.2.2.2.2.2.2.2.1
theorem dX5_copyFrom_17 : decode cX5_copyFrom 17 = .ok (.aload_n 1, 1) := bdX5_copyFrom_0.2.2.2.2.2.2.2.2.2.1
theorem dX5_copyFrom_18 : decode cX5_copyFrom 18 = .ok (.getfield 51, 3) := bdX5_copyFrom_0.2.2.2.2.2.2.2.2.2.2.1
theorem dX5_copyFrom_21 : decode cX5_copyFrom 21 = .ok (.putfield 51, 3) := bdX5_copyFrom_0.2.2.2.2.2.2.2.2.2.2.2.1
theorem dX5_copyFrom_24 : decode cX5_copyFrom 24 = .ok (.aload_n 0, 1) := bdX5_copyFrom_0.2.2.2.2.2.2.2.2.2.2.2.2.1
theorem dX5_copyFrom_25 : decode cX5_copyFrom 25 = .ok (.aload_n 1, 1) := bdX5_copyFrom_0.2.2.2.2.2.2.2.2.2.2.2.2.2.1
theorem dX5_copyFrom_26 : decode cX5_copyFrom 26 = .ok (.getfield 54, 3) := bdX5_copyFrom_0.2.2.2.2.2.2.2.2.2.2.2.2.2.2.1
theorem dX5_copyFrom_29 : decode cX5_copyFrom 29 = .ok (.putfield 54, 3) := bdX5_copyFrom_0.2.2.2.2.2.2.2.2.2.2.2.2.2.2.2
theorem bdX5_copyFrom_32 : decode cX5_copyFrom 32 = .ok (.aload_n 0, 1) ∧ decode cX5_copyFrom 33 = .ok (.aload_n 1, 1) ∧ decode cX5_copyFrom 34 = .ok (.getfield 57, 3) ∧ decode cX5_copyFrom 37 = .ok (.putfield 57, 3) ∧ decode cX5_copyFrom 40 = .ok (.aload_n 0, 1) ∧ decode cX5_copyFrom 41 = .ok (.aload_n 1, 1) ∧ decode cX5_copyFrom 42 = .ok (.getfield 60, 3) ∧ decode cX5_copyFrom 45 = .ok (.putfield 60, 3) ∧ decode cX5_copyFrom 48 = .ok (.aload_n 1, 1) ∧ decode cX5_copyFrom 49 = .ok (.getfield 15, 3) ∧ decode cX5_copyFrom 52 = .ok (.iconst 0, 1) ∧ decode cX5_copyFrom 53 = .ok (.aload_n 0, 1) ∧ decode cX5_copyFrom 54 = .ok (.getfield 15, 3) ∧ decode cX5_copyFrom 57 = .ok (.iconst 0, 1) ∧ decode cX5_copyFrom 58 = .ok (.bipush 10, 2) ∧ decode cX5_copyFrom 60 = .ok (.invokestatic 63, 3) := by decide +kernel
theorem dX5_copyFrom_32 : decode cX5_copyFrom 32 = .ok (.aload_n 0, 1) := bdX5_copyFrom_32.1
theorem dX5_copyFrom_33 : decode cX5_copyFrom 33 = .ok (.aload_n 1, 1) := bdX5_copyFrom_32.2.1
theorem dX5_copyFrom_34 : decode cX5_copyFrom 34 = .ok (.getfield 57, 3) := bdX5_copyFrom_32.2.2.1
theorem dX5_copyFrom_37 : decode cX5_copyFrom 37 = .ok (.putfield 57, 3) := bdX5_copyFrom_32.2.2.2.1
theorem dX5_copyFrom_40 : decode cX5_copyFrom 40 = .ok (.aload_n 0, 1) := bdX5_copyFrom_32.2.2.2.2.1
theorem dX5_copyFrom_41 : decode cX5_copyFrom 41 = .ok (.aload_n 1, 1) := bdX5_copyFrom_32.2.2.2.2.2.1
theorem dX5_copyFrom_42 : decode cX5_copyFrom 42 = .ok (.getfield 60, 3) := bdX5_copyFrom_32.2.2.2.2.2.2.1
theorem dX5_copyFrom_45 : decode cX5_copyFrom 45 = .ok (.putfield 60, 3) := bdX5_copyFrom_32.2.2.2.2.2.2.2.1
theorem dX5_copyFrom_48 : decode cX5_copyFrom 48 = .ok (.aload_n 1, 1) := bdX5_copyFrom_32.2.2.2.2.2.2.2.2.1
theorem dX5_copyFrom_49 : decode cX5_copyFrom 49 = .ok (.getfield 15, 3) := bdX5_copyFrom_32.2.2.2.2.2.2.2.2.2.1
theorem dX5_copyFrom_52 : decode cX5_copyFrom 52 = .ok (.iconst 0, 1) := bdX5_copyFrom_32.2.2.2.2.2.2.2.2.2.2.1
theorem dX5_copyFrom_53 : decode cX5_copyFrom 53 = .ok (.aload_n 0, 1) := bdX5_copyFrom_32.2.2.2.2.2.2.2.2.2.2.2.1
theorem dX5_copyFrom_54 : decode cX5_copyFrom 54 = .ok (.getfield 15, 3) := bdX5_copyFrom_32.2.2.2.2.2.2.2.2.2.2.2.2.1
theorem dX5_copyFrom_57 : decode cX5_copyFrom 57 = .ok (.iconst 0, 1) := bdX5_copyFrom_32.2.2.2.2.2.2.2.2.2.2.2.2.2.1
theorem dX5_copyFrom_58 : decode cX5_copyFrom 58 = .ok (.bipush 10, 2) := bdX5_copyFrom_32.2.2.2.2.2.2.2.2.2.2.2.2.2.2.1
theorem dX5_copyFrom_60 : decode cX5_copyFrom 60 = .ok (.invokestatic 63, 3) := bdX5_copyFrom_32.2.2.2.2.2.2.2.2.2.2.2.2.2.2.2
theorem bdX5_copyFrom_63 : decode cX5_copyFrom 63 = .ok (.aload_n 1, 1) ∧ decode cX5_copyFrom 64 = .ok (.getfield 31, 3) ∧ decode cX5_copyFrom 67 = .ok (.iconst 0, 1) ∧ decode cX5_copyFrom 68 = .ok (.aload_n 0, 1) ∧ decode cX5_copyFrom 69 = .ok (.getfield 31, 3) ∧ decode cX5_copyFrom 72 = .ok (.iconst 0, 1) ∧ decode cX5_copyFrom 73 = .ok (.bipush 8, 2) ∧ decode cX5_copyFrom 75 = .ok (.invokestatic 63, 3) ∧ decode cX5_copyFrom 78 = .ok (.aload_n 1, 1) ∧ decode cX5_copyFrom 79 = .ok (.getfield 34, 3) ∧ decode cX5_copyFrom 82 = .ok (.iconst 0, 1) ∧ decode cX5_copyFrom 83 = .ok (.aload_n 0, 1) ∧ decode cX5_copyFrom 84 = .ok (.getfield 34, 3) ∧ decode cX5_copyFrom 87 = .ok (.iconst 0, 1) ∧ decode cX5_copyFrom 88 = .ok (.bipush 8, 2) ∧ decode cX5_copyFrom 90 = .ok (.invokestatic 63, 3) := by decide +kernel
theorem dX5_copyFrom_63 : decode cX5_copyFrom 63 = .ok (.aload_n 1, 1) := bdX5_copyFrom_63.1
theorem dX5_copyFrom_64 : decode cX5_copyFrom 64 = .ok (.getfield 31, 3) := bdX5_copyFrom_63.2.1
theorem dX5_copyFrom_67 : decode cX5_copyFrom 67 = .ok (.iconst 0, 1) := bdX5_copyFrom_63.2.2.1
theorem dX5_copyFrom_68 : decode cX5_copyFrom 68 = .ok (.aload_n 0, 1) := bdX5_copyFrom_63.2.2.2.1
theorem dX5_copyFrom_69 : decode cX5_copyFrom 69 = .ok (.getfield 31, 3) := bdX5_copyFrom_63.2.2.2.2.1
theorem dX5_copyFrom_72 : decode cX5_copyFrom 72 = .ok (.iconst 0, 1) := bdX5_copyFrom_63.2.2.2.2.2.1
theorem dX5_copyFrom_73 : decode cX5_copyFrom 73 = .ok (.bipush 8, 2) := bdX5_copyFrom_63.2.2.2.2.2.2.1
theorem dX5_copyFrom_75 : decode cX5_copyFrom 75 = .ok (.invokestatic 63, 3) := bdX5_copyFrom_63.2.2.2.2.2.2.2.1
theorem dX5_copyFrom_78 : decode cX5_copyFrom 78 = .ok (.aload_n 1, 1) := bdX5_copyFrom_63.2.2.2.2.2.2.2.2.1
theorem dX5_copyFrom_79 : decode cX5_copyFrom 79 = .ok (.getfield 34, 3) := bdX5_copyFrom_63.2.2.2.2.2.2.2.2.2.1
theorem dX5_copyFrom_82 : decode cX5_copyFrom 82 = .ok (.iconst 0, 1) := bdX5_copyFrom_63.2.2.2.2.2.2.2.2.2.2.1
theorem dX5_copyFrom_83 : decode cX5_copyFrom 83 = .ok (.aload_n 0, 1) := bdX5_copyFrom_63.2.2.2.2.2.2.2.2.2.2.2.1
theorem dX5_copyFrom_84 : decode cX5_copyFrom 84 = .ok (.getfield 34, 3) := bdX5_copyFrom_63.2.2.2.2.2.2.2.2.2.2.2.2.1
theorem dX5_copyFrom_87 : decode cX5_copyFrom 87 = .ok (.iconst 0, 1) := bdX5_copyFrom_63.2.2.2.2.2.2.2.2.2.2.2.2.2.1
theorem dX5_copyFrom_88 : decode cX5_copyFrom 88 = .ok (.bipush 8, 2) := bdX5_copyFrom_63.2.2.2.2.2.2.2.2.2.2.2.2.2.2.1
theorem dX5_copyFrom_90 : decode cX5_copyFrom 90 = .ok (.invokestatic 63, 3) := bdX5_copyFrom_63.2.2.2.2.2.2.2.2.2.2.2.2.2.2.2
theorem bdX5_copyFrom_93 : decode cX5_copyFrom 93 = .ok (.iconst 0, 1) ∧ decode cX5_copyFrom 94 = .ok (.istore_n 2, 1) ∧ decode cX5_copyFrom 95 = .ok (.iload_n 2, 1) ∧ decode cX5_copyFrom 96 = .ok (.aload_n 0, 1) ∧ decode cX5_copyFrom 97 = .ok (.getfield 51, 3) ∧ decode cX5_copyFrom 100 = .ok (.if_icmp .ge 24, 3) ∧ decode cX5_copyFrom 103 = .ok (.aload_n 0, 1) ∧ decode cX5_copyFrom 104 = .ok (.getfield 21, 3) ∧ decode cX5_copyFrom 107 = .ok (.iload_n 2, 1) ∧ decode cX5_copyFrom 108 = .ok (.aaload, 1) ∧ decode cX5_copyFrom 109 = .ok (.aload_n 1, 1) ∧ decode cX5_copyFrom 110 = .ok (.getfield 21, 3) ∧ decode cX5_copyFrom 113 = .ok (.iload_n 2, 1) ∧ decode cX5_copyFrom 114 = .ok (.aaload, 1) ∧ decode cX5_copyFrom 115 = .ok (.invokevirtual 69, 3) ∧ decode cX5_copyFrom 118 = .ok (.iinc 2 1, 3) := by decide +kernel
theorem dX5_copyFrom_93 : decode cX5_copyFrom 93 = .ok (.iconst 0, 1) := bdX5_copyFrom_93.1
theorem dX5_copyFrom_94 : decode cX5_copyFrom 94 = .ok (.istore_n 2, 1) := bdX5_copyFrom_93.2.1
theorem dX5_copyFrom_95 : decode cX5_copyFrom 95 = .ok (.iload_n 2, 1) := bdX5_copyFrom_93.2.2.1
theorem dX5_copyFrom_96 : decode cX5_copyFrom 96 = .ok (.aload_n 0, 1) := bdX5_copyFrom_93.2.2.2.1
theorem dX5_copyFrom_97 : decode cX5_copyFrom 97 = .ok (.getfield 51, 3) := bdX5_copyFrom_93.2.2.2.2.1
theorem dX5_copyFrom_100 : decode cX5_copyFrom 100 = .ok (.if_icmp .ge 24, 3) := bdX5_copyFrom_93.2.2.2.2.2.1
theorem dX5_copyFrom_103 : decode cX5_copyFrom 103 = .ok (.aload_n 0, 1) := bdX5_copyFrom_93.2.2.2.2.2.2.1
theorem dX5_copyFrom_104 : decode cX5_copyFrom 104 = .ok (.getfield 21, 3) := bdX5_copyFrom_93.2.2.2.2.2.2.2.1
theorem dX5_copyFrom_107 : decode cX5_copyFrom 107 = .ok (.iload_n 2, 1) := bdX5_copyFrom_93.2.2.2.2.2.2.2.2.1
theorem dX5_copyFrom_108 : decode cX5_copyFrom 108 = .ok (.aaload, 1) := bdX5_copyFrom_93.2.2.2.2.2.2.2.2.2.1
theorem dX5_copyFrom_109 : decode cX5_copyFrom 109 = .ok (.aload_n 1, 1) := bdX5_copyFrom_93.2.2.2.2.2.2.2.2.2.2.1
theorem dX5_copyFrom_110 : decode cX5_copyFrom 110 = .ok (.getfield 21, 3) := bdX5_copyFrom_93.2.2.2.2.2.2.2.2.2.2.2.1
theorem dX5_copyFrom_113 : decode cX5_copyFrom 113 = .ok (.iload_n 2, 1) := bdX5_copyFrom_93.2.2.2.2.2.2.2.2.2.2.2.2.1
theorem dX5_copyFrom_114 : decode cX5_copyFrom 114 = .ok (.aaload, 1) := bdX5_copyFrom_93.2.2.2.2.2.2.2.2.2.2.2.2.2.1
theorem dX5_copyFrom_115 : decode cX5_copyFrom 115 = .ok (.invokevirtual 69, 3) := bdX5_copyFrom_93.2.2.2.2.2.2.2.2.2.2.2.2.2.2.1
theorem dX5_copyFrom_118 : decode cX5_copyFrom 118 = .ok (.iinc 2 1, 3) := bdX5_copyFrom_93.2.2.2.2.2.2.2.2.2.2.2.2.2.2.2
theorem bdX5_copyFrom_121 : decode cX5_copyFrom 121 = .ok (.goto (-26), 3) ∧ decode cX5_copyFrom 124 = .ok (.iconst 0, 1) ∧ decode cX5_copyFrom 125 = .ok (.istore_n 2, 1) ∧ decode cX5_copyFrom 126 = .ok (.iload_n 2, 1) ∧ decode cX5_copyFrom 127 = .ok (.aload_n 0, 1) ∧ decode cX5_copyFrom 128 = .ok (.getfield 54, 3) ∧ decode cX5_copyFrom 131 = .ok (.if_icmp .ge 24, 3) ∧ decode cX5_copyFrom 134 = .ok (.aload_n 0, 1) ∧ decode cX5_copyFrom 135 = .ok (.getfield 27, 3) ∧ decode cX5_copyFrom 138 = .ok (.iload_n 2, 1) ∧ decode cX5_copyFrom 139 = .ok (.aaload, 1) ∧ decode cX5_copyFrom 140 = .ok (.aload_n 1, 1) ∧ decode cX5_copyFrom 141 = .ok (.getfield 27, 3) ∧ decode cX5_copyFrom 144 = .ok (.iload_n 2, 1) ∧ decode cX5_copyFrom 145 = .ok (.aaload, 1) ∧ decode cX5_copyFrom 146 = .ok (.invokevirtual 73, 3) := by decide +kernel
theorem dX5_copyFrom_121 : decode cX5_copyFrom 121 = .ok (.goto (-26), 3) := bdX5_copyFrom_121.1
theorem dX5_copyFrom_124 : decode cX5_copyFrom 124 = .ok (.iconst 0, 1) := bdX5_copyFrom_121.2.1
theorem dX5_copyFrom_125 : decode cX5_copyFrom 125 = .ok (.istore_n 2, 1) := bdX5_copyFrom_121.2.2.1
theorem dX5_copyFrom_126 : decode cX5_copyFrom 126 = .ok (.iload_n 2, 1) := bdX5_copyFrom_121.2.2.2.1
theorem dX5_copyFrom_127 : decode cX5_copyFrom 127 = .ok (.aload_n 0, 1) := bdX5_copyFrom_121.2.2.2.2.1
theorem dX5_copyFrom_128 : decode cX5_copyFrom 128 = .ok (.getfield 54, 3) := bdX5_copyFrom_121.2.2.2.2.2.1
theorem dX5_copyFrom_131 : decode cX5_copyFrom 131 = .ok (.if_icmp .ge 24, 3) := bdX5_copyFrom_121.2.2.2.2.2.2.1
theorem dX5_copyFrom_134 : decode cX5_copyFrom 134 = .ok (.aload_n 0, 1) := bdX5_copyFrom_121.2.2.2.2.2.2.2.1
theorem dX5_copyFrom_135 : decode cX5_copyFrom 135 = .ok (.getfield 27, 3) := bdX5_copyFrom_121.2.2.2.2.2.2.2.2.1
theorem dX5_copyFrom_138 : decode cX5_copyFrom 138 = .ok (.iload_n 2, 1) := bdX5_copyFrom_121.2.2.2.2.2.2.2.2.2.1
theorem dX5_copyFrom_139 : decode cX5_copyFrom 139 = .ok (.aaload, 1) := bdX5_copyFrom_121.2.2.2.2.2.2.2.2.2.2.1
theorem dX5_copyFrom_140 : decode cX5_copyFrom 140 = .ok (.aload_n 1, 1) := bdX5_copyFrom_121.2.2.2.2.2.2.2.2.2.2.2.1
theorem dX5_copyFrom_141 : decode cX5_copyFrom 141 = .ok (.getfield 27, 3) := bdX5_copyFrom_121.2.2.2.2.2.2.2.2.2.2.2.2.1
theorem dX5_copyFrom_144 : decode cX5_copyFrom 144 = .ok (.iload_n 2, 1) := bdX5_copyFrom_121.2.2.2.2.2.2.2.2.2.2.2.2.2.1
theorem dX5_copyFrom_145 : decode cX5_copyFrom 145 = .ok (.aaload, 1) := bdX5_copyFrom_121.2.2.2.2.2.2.2.2.2.2.2.2.2.2.1
theorem dX5_copyFrom_146 : decode cX5_copyFrom 146 = .ok (.invokevirtual 73, 3) := bdX5_copyFrom_121.2.2.2.2.2.2.2.2.2.2.2.2.2.2.2
theorem bdX5_copyFrom_149 : decode cX5_copyFrom 149 = .ok (.iinc 2 1, 3) ∧ decode cX5_copyFrom 152 = .ok (.goto (-26), 3) ∧ decode cX5_copyFrom 155 = .ok (.return_, 1) := by decide +kernel
theorem dX5_copyFrom_149 : decode cX5_copyFrom 149 = .ok (.iinc 2 1, 3) := bdX5_copyFrom_149.1
theorem dX5_copyFrom_152 : decode cX5_copyFrom 152 = .ok (.goto (-26), 3) := bdX5_copyFrom_149.2.1
theorem dX5_copyFrom_155 : decode cX5_copyFrom 155 = .ok (.return_, 1) := bdX5_copyFrom_149.2.2
theorem bdX5_hasCart_0 : decode cX5_hasCart 0 = .ok (.iload_n 1, 1) ∧ decode cX5_hasCart 1 = .ok (.ifCond .lt 21, 3) ∧ decode cX5_hasCart 4 = .ok (.iload_n 1, 1) ∧ decode cX5_hasCart 5 = .ok (.aload_n 0, 1) ∧ decode cX5_hasCart 6 = .ok (.getfield 54, 3) ∧ decode cX5_hasCart 9 = .ok (.if_icmp .ge 13, 3) ∧ decode cX5_hasCart 12 = .ok (.iload_n 1, 1) ∧ decode cX5_hasCart 13 = .ok (.bipush 16, 2) ∧ decode cX5_hasCart 15 = .ok (.if_icmp .ge 7, 3) ∧ decode cX5_hasCart 18 = .ok (.iconst 1, 1) ∧ decode cX5_hasCart 19 = .ok (.goto 4, 3) ∧ decode cX5_hasCart 22 = .ok (.iconst 0, 1) ∧ decode cX5_hasCart 23 = .ok (.ireturn, 1) := by decide +kernel
theorem dX5_hasCart_0 : decode cX5_hasCart 0 = .ok (.iload_n 1, 1) := bdX5_hasCart_0.1
theorem dX5_hasCart_1 : decode cX5_hasCart 1 = .ok (.ifCond .lt 21, 3) := bdX5_hasCart_0.2.1
theorem dX5_hasCart_4 : decode cX5_hasCart 4 = .ok (.iload_n 1, 1) := bdX5_hasCart_0.2.2.1
theorem dX5_hasCart_5 : decode cX5_hasCart 5 = .ok (.aload_n 0, 1) := bdX5_hasCart_0.2.2.2.1
theorem dX5_hasCart_6 : decode cX5_hasCart 6 = .ok (.getfield 54, 3) := bdX5_hasCart_0.2.2.2.2.1
theorem dX5_hasCart_9 : decode cX5_hasCart 9 = .ok (.if_icmp .ge 13, 3) := bdX5_hasCart_0.2.2.2.2.2.1
theorem dX5_hasCart_12 : decode cX5_hasCart 12 = .ok (.iload_n 1, 1) := bdX5_hasCart_0.2.2.2.2.2.2.1
theorem dX5_hasCart_13 : decode cX5_hasCart 13 = .ok (.bipush 16, 2) := bdX5_hasCart_0.2.2.2.2.2.2.2.1
theorem dX5_hasCart_15 : decode cX5_hasCart 15 = .ok (.if_icmp .ge 7, 3) := bdX5_hasCart_0.2.2.2.2.2.2.2.2.1
theorem dX5_hasCart_18 : decode cX5_hasCart 18 = .ok (.iconst 1, 1) := bdX5_hasCart_0.2.2.2.2.2.2.2.2.2.1
theorem dX5_hasCart_19 : decode cX5_hasCart 19 = .ok (.goto 4, 3) := bdX5_hasCart_0.2.2.2.2.2.2.2.2.2.2.1
theorem dX5_hasCart_22 : decode cX5_hasCart 22 = .ok (.iconst 0, 1) := bdX5_hasCart_0.2.2.2.2.2.2.2.2.2.2.2.1
theorem dX5_hasCart_23 : decode cX5_hasCart 23 = .ok (.ireturn, 1) := bdX5_hasCart_0.2.2.2.2.2.2.2.2.2.2.2.2
theorem bdX5_hasPitch_0 : decode cX5_hasPitch 0 = .ok (.iload_n 1, 1) ∧ decode cX5_hasPitch 1 = .ok (.ifCond .lt 21, 3) ∧ decode cX5_hasPitch 4 = .ok (.iload_n 1, 1) ∧ decode cX5_hasPitch 5 = .ok (.aload_n 0, 1) ∧ decode cX5_hasPitch 6 = .ok (.getfield 51, 3) ∧ decode cX5_hasPitch 9 = .ok (.if_icmp .ge 13, 3) ∧ decode cX5_hasPitch 12 = .ok (.iload_n 1, 1) ∧ decode cX5_hasPitch 13 = .ok (.bipush 10, 2) ∧ decode cX5_hasPitch 15 = .ok (.if_icmp .ge 7, 3) ∧ decode cX5_hasPitch 18 = .ok (.iconst 1, 1) ∧ decode cX5_hasPitch 19 = .ok (.goto 4, 3) ∧ decode cX5_hasPitch 22 = .ok (.iconst 0, 1) ∧ decode cX5_hasPitch 23 = .ok (.ireturn, 1) := by decide +kernel
theorem dX5_hasPitch_0 : decode cX5_hasPitch 0 = .ok (.iload_n 1, 1) := bdX5_hasPitch_0.1
theorem dX5_hasPitch_1 : decode cX5_hasPitch 1 = .ok (.ifCond .lt 21, 3) := bdX5_hasPitch_0.2.1
theorem dX5_hasPitch_4 : decode cX5_hasPitch 4 = .ok (.iload_n 1, 1) := bdX5_hasPitch_0.2.2.1
theorem dX5_hasPitch_5 : decode cX5_hasPitch 5 = .ok (.aload_n 0, 1) := bdX5_hasPitch_0.2.2.2.1
theorem dX5_hasPitch_6 : decode cX5_hasPitch 6 = .ok (.getfield 51, 3) := bdX5_hasPitch_0.2.2.2.2.1
theorem dX5_hasPitch_9 : decode cX5_hasPitch 9 = .ok (.if_icmp .ge 13, 3) := bdX5_hasPitch_0.2.2.2.2.2.1
theorem dX5_hasPitch_12 : decode cX5_hasPitch 12 = .ok (.iload_n 1, 1) := bdX5_hasPitch_0.2.2.2.2.2.2.1
theorem dX5_hasPitch_13 : decode cX5_hasPitch 13 = .ok (.bipush 10, 2) := bdX5_hasPitch_0.2.2.2.2.2.2.2.1
theorem dX5_hasPitch_15 : decode cX5_hasPitch 15 = .ok (.if_icmp .ge 7, 3) := bdX5_hasPitch_0.2.2.2.2.2.2.2.2.1
theorem dX5_hasPitch_18 : decode cX5_hasPitch 18 = .ok (.iconst 1, 1) := bdX5_hasPitch_0.2.2.2.2.2.2.2.2.2.1
theorem dX5_hasPitch_19 : decode cX5_hasPitch 19 = .ok (.goto 4, 3) := bdX5_hasPitch_0.2.2.2.2.2.2.2.2.2.2.1
theorem dX5_hasPitch_22 : decode cX5_hasPitch 22 = .ok (.iconst 0, 1) := bdX5_hasPitch_0.2.2.2.2.2.2.2.2.2.2.2.1
theorem dX5_hasPitch_23 : decode cX5_hasPitch 23 = .ok (.ireturn, 1) := bdX5_hasPitch_0.2.2.2.2.2.2.2.2.2.2.2.2
theorem bdX5_changeSetting_0 : decode cX5_changeSetting 0 = .ok (.iload_n 1, 1) ∧ decode cX5_changeSetting 1 = .ok (.ifCond .lt 27, 3) ∧ decode cX5_changeSetting 4 = .ok (.iload_n 1, 1) ∧ decode cX5_changeSetting 5 = .ok (.bipush 10, 2) ∧ decode cX5_changeSetting 7 = .ok (.if_icmp .ge 21, 3) ∧ decode cX5_changeSetting 10 = .ok (.iload_n 2, 1) ∧ decode cX5_changeSetting 11 = .ok (.getstatic 76, 3) ∧ decode cX5_changeSetting 14 = .ok (.iload_n 1, 1) ∧ decode cX5_changeSetting 15 = .ok (.iaload, 1) ∧ decode cX5_changeSetting 16 = .ok (.if_icmp .lt 12, 3) ∧ decode cX5_changeSetting 19 = .ok (.iload_n 2, 1) ∧ decode cX5_changeSetting 20 = .ok (.getstatic 79, 3) ∧ decode cX5_changeSetting 23 = .ok (.iload_n 1, 1) ∧ decode cX5_changeSetting 24 = .ok (.iaload, 1) ∧ decode cX5_changeSetting 25 = .ok (.if_icmp .le 6, 3) ∧ decode cX5_changeSetting 28 = .ok (.bipush (-2), 2) := by decide +kernel
theorem dX5_changeSetting_0 : decode cX5_changeSetting 0 = .ok (.iload_n 1, 1) := bdX5_changeSetting_0.1
theorem dX5_changeSetting_1 : decode cX5_changeSetting 1 = .ok (.ifCond .lt 27, 3) := bdX5_changeSetting_0.2.1
theorem dX5_changeSetting_4 : decode cX5_changeSetting 4 = .ok (.iload_n 1, 1) := bdX5_changeSetting_0.2.2.1
theorem dX5_changeSetting_5 : decode cX5_changeSetting 5 = .ok (.bipush 10, 2) := bdX5_changeSetting_0.2.2.2.1
theorem dX5_changeSetting_7 : decode cX5_changeSetting 7 = .ok (.if_icmp .ge 21, 3) := bdX5_changeSetting_0.2.2.2.2.1
theorem dX5_changeSetting_10 : decode cX5_changeSetting 10 = .ok (.iload_n 2, 1) := bdX5_changeSetting_0.2.2.2.2.2.1
theorem dX5_changeSetting_11 : decode cX5_changeSetting 11 = .ok (.getstatic 76, 3) := bdX5_changeSetting_0.2.2.2.2.2.2.1
theorem dX5_changeSetting_14 : decode cX5_changeSetting 14 = .ok (.iload_n 1, 1) := bdX5_changeSetting_0.2.2.2.2.2.2.2.1
theorem dX5_changeSetting_15 : decode cX5_changeSetting 15 = .ok (.iaload, 1) := bdX5_changeSetting_0.2.2.2.2.2.2.2.2.1
theorem dX5_changeSetting_16 : decode cX5_changeSetting 16 = .ok (.if_icmp .lt 12, 3) := bdX5_changeSetting_0.2.2.2.2.2.2.2.2.2.1
theorem dX5_changeSetting_19 : decode cX5_changeSetting 19 = .ok (.iload_n 2, 1) := bdX5_changeSetting_0.2.2.2.2.2.2.2.2.2.2.1
theorem dX5_changeSetting_20 : decode cX5_changeSetting 20 = .ok (.getstatic 79, 3) := bdX5_changeSetting_0.2.2.2.2.2.2.2.2.2.2.2.1
theorem dX5_changeSetting_23 : decode cX5_changeSetting 23 = .ok (.iload_n 1, 1) := bdX5_changeSetting_0.2.2.2.2.2.2.2.2.2.2.2.2.1
theorem dX5_changeSetting_24 : decode cX5_changeSetting 24 = .ok (.iaload, 1) := bdX5_changeSetting_0.2.2.2.2.2.2.2.2.2.2.2.2.2.1
theorem dX5_changeSetting_25 : decode cX5_changeSetting 25 = .ok (.if_icmp .le 6, 3) := bdX5_changeSetting_0.2.2.2.2.2.2.2.2.2.2.2.2.2.2.1
theorem dX5_changeSetting_28 : decode cX5_changeSetting 28 = .ok (.bipush (-2), 2) := bdX5_changeSetting_0.2.2.2.2.2.2.2.2.2.2.2.2.2.2.2
theorem bdX5_changeSetting_30 : decode cX5_changeSetting 30 = .ok (.ireturn, 1) ∧ decode cX5_changeSetting 31 = .ok (.aload_n 0, 1) ∧ decode cX5_changeSetting 32 = .ok (.getfield 15, 3) ∧ decode cX5_changeSetting 35 = .ok (.iload_n 1, 1) ∧ decode cX5_changeSetting 36 = .ok (.iaload, 1) ∧ decode cX5_changeSetting 37 = .ok (.istore_n 3, 1) ∧ decode cX5_changeSetting 38 = .ok (.aload_n 0, 1) ∧ decode cX5_changeSetting 39 = .ok (.getfield 15, 3) ∧ decode cX5_changeSetting 42 = .ok (.iload_n 1, 1) ∧ decode cX5_changeSetting 43 = .ok (.iload_n 2, 1) ∧ decode cX5_changeSetting 44 = .ok (.iastore, 1) ∧ decode cX5_changeSetting 45 = .ok (.iload_n 3, 1) ∧ decode cX5_changeSetting 46 = .ok (.ireturn, 1) := by decide +kernel
theorem dX5_changeSetting_30 : decode cX5_changeSetting 30 = .ok (.ireturn, 1) := bdX5_changeSetting_30.1
theorem dX5_changeSetting_31 : decode cX5_changeSetting 31 = .ok (.aload_n 0, 1) := bdX5_changeSetting_30.2.1
theorem dX5_changeSetting_32 : decode cX5_changeSetting 32 = .ok (.getfield 15, 3) := bdX5_changeSetting_30.2.2.1
theorem dX5_changeSetting_35 : decode cX5_changeSetting 35 = .ok (.iload_n 1, 1) := bdX5_changeSetting_30.2.2.2.1
theorem dX5_changeSetting_36 : decode cX5_changeSetting 36 = .ok (.iaload, 1) := bdX5_changeSetting_30.2.2.2.2.1
theorem dX5_changeSetting_37 : decode cX5_changeSetting 37 = .ok (.istore_n 3, 1) := bdX5_changeSetting_30.2.2.2.2.2.1
theorem dX5_changeSetting_38 : decode cX5_changeSetting 38 = .ok (.aload_n 0, 1) := bdX5_changeSetting_30.2.2.2.2.2.2.1
theorem dX5_changeSetting_39 : decode cX5_changeSetting 39 = .ok (.getfield 15, 3) := bdX5_changeSetting_30.2.2.2.2.2.2.2.1
theorem dX5_changeSetting_42 : decode cX5_changeSetting 42 = .ok (.iload_n 1, 1) := bdX5_changeSetting_30.2.2.2.2.2.2.2.2.1
theorem dX5_changeSetting_43 : decode cX5_changeSetting 43 = .ok (.iload_n 2, 1) := bdX5_changeSetting_30.2.2.2.2.2.2.2.2.2.1
theorem dX5_changeSetting_44 : decode cX5_changeSetting 44 = .ok (.iastore, 1) := bdX5_changeSetting_30.2.2.2.2.2.2.2.2.2.2.1
theorem dX5_changeSetting_45 : decode cX5_changeSetting 45 = .ok (.iload_n 3, 1) := bdX5_changeSetting_30.2.2.2.2.2.2.2.2.2.2.2.1
theorem dX5_changeSetting_46 : decode cX5_changeSetting 46 = .ok (.ireturn, 1) := bdX5_changeSetting_30.2.2.2.2.2.2.2.2.2.2.2.2
theorem bdX5_changeLots_0 : decode cX5_changeLots 0 = .ok (.iload_n 1, 1) ∧ decode cX5_changeLots 1 = .ok (.ifCond .lt 9, 3) ∧ decode cX5_changeLots 4 = .ok (.iload_n 1, 1) ∧ decode cX5_changeLots 5 = .ok (.ldc 82, 2) ∧ decode cX5_changeLots 7 = .ok (.if_icmp .lt 6, 3) ∧ decode cX5_changeLots 10 = .ok (.bipush (-2), 2) ∧ decode cX5_changeLots 12 = .ok (.ireturn, 1) ∧ decode cX5_changeLots 13 = .ok (.aload_n 0, 1) ∧ decode cX5_changeLots 14 = .ok (.getfield 9, 3) ∧ decode cX5_changeLots 17 = .ok (.istore_n 2, 1) ∧ decode cX5_changeLots 18 = .ok (.aload_n 0, 1) ∧ decode cX5_changeLots 19 = .ok (.iload_n 1, 1) ∧ decode cX5_changeLots 20 = .ok (.putfield 9, 3) ∧ decode cX5_changeLots 23 = .ok (.iload_n 2, 1) ∧ decode cX5_changeLots 24 = .ok (.ireturn, 1) := by decide +kernel
theorem dX5_changeLots_0 : decode cX5_changeLots 0 = .ok (.iload_n 1, 1) := bdX5_changeLots_0.1
theorem dX5_changeLots_1 : decode cX5_changeLots 1 = .ok (.ifCond .lt 9, 3) := bdX5_changeLots_0.2.1
theorem dX5_changeLots_4 : decode cX5_changeLots 4 = .ok (.iload_n 1, 1) := bdX5_changeLots_0.2.2.1
theorem dX5_changeLots_5 : decode cX5_changeLots 5 = .ok (.ldc 82, 2) := bdX5_changeLots_0.2.2.2.1
theorem dX5_changeLots_7 : decode cX5_changeLots 7 = .ok (.if_icmp .lt 6, 3) := bdX5_changeLots_0.2.2.2.2.1
theorem dX5_changeLots_10 : decode cX5_changeLots 10 = .ok (.bipush (-2), 2) := bdX5_changeLots_0.2.2.2.2.2.1
theorem dX5_changeLots_12 : decode cX5_changeLots 12 = .ok (.ireturn, 1) := bdX5_changeLots_0.2.2.2.2.2.2.1
theorem dX5_changeLots_13 : decode cX5_changeLots 13 = .ok (.aload_n 0, 1) := bdX5_changeLots_0.2.2.2.2.2.2.2.1
theorem dX5_changeLots_14 : decode cX5_changeLots 14 = .ok (.getfield 9, 3) := bdX5_changeLots_0.2.2.2.2.2.2.2.2.1
theorem dX5_changeLots_17 : decode cX5_changeLots 17 = .ok (.istore_n 2, 1) := bdX5_changeLots_0.2.2.2.2.2.2.2.2.2.1
theorem dX5_changeLots_18 : decode cX5_changeLots 18 = .ok (.aload_n 0, 1) := bdX5_changeLots_0.2.2.2.2.2.2.2.2.2.2.1
theorem dX5_changeLots_19 : decode cX5_changeLots 19 = .ok (.iload_n 1, 1) := bdX5_changeLots_0.2.2.2.2.2.2.2.2.2.2.2.1
theorem dX5_changeLots_20 : decode cX5_changeLots 20 = .ok (.putfield 9, 3) := bdX5_changeLots_0.2.2.2.2.2.2.2.2.2.2.2.2.1
theorem dX5_changeLots_23 : decode cX5_changeLots 23 = .ok (.iload_n 2, 1) := bdX5_changeLots_0.2.2.2.2.2.2.2.2.2.2.2.2.2.1
theorem dX5_changeLots_24 : decode cX5_changeLots 24 = .ok (.ireturn, 1) := bdX5_changeLots_0.2.2.2.2.2.2.2.2.2.2.2.2.2.2
theorem bdX5_addPitch_0 : decode cX5_addPitch 0 = .ok (.iload_n 1, 1) ∧ decode cX5_addPitch 1 = .ok (.ifCond .lt 10, 3) ∧ decode cX5_addPitch 4 = .ok (.iload_n 1, 1) ∧ decode cX5_addPitch 5 = .ok (.sipush 20000, 3) ∧ decode cX5_addPitch 8 = .ok (.if_icmp .le 6, 3) ∧ decode cX5_addPitch 11 = .ok (.bipush (-2), 2) ∧ decode cX5_addPitch 13 = .ok (.ireturn, 1) ∧ decode cX5_addPitch 14 = .ok (.aload_n 0, 1) ∧ decode cX5_addPitch 15 = .ok (.getfield 51, 3) ∧ decode cX5_addPitch 18 = .ok (.bipush 10, 2) ∧ decode cX5_addPitch 20 = .ok (.if_icmp .lt 6, 3) ∧ decode cX5_addPitch 23 = .ok (.bipush (-4), 2) ∧ decode cX5_addPitch 25 = .ok (.ireturn, 1) ∧ decode cX5_addPitch 26 = .ok (.aload_n 0, 1) ∧ decode cX5_addPitch 27 = .ok (.getfield 21, 3) ∧ decode cX5_addPitch 30 = .ok (.aload_n 0, 1) := by decide +kernel
theorem dX5_addPitch_0 : decode cX5_addPitch 0 = .ok (.iload_n 1, 1) := bdX5_addPitch_0.1
theorem dX5_addPitch_1 : decode cX5_addPitch 1 = .ok (.ifCond .lt 10, 3) := bdX5_addPitch_0.2.1
theorem dX5_addPitch_4 : decode cX5_addPitch 4 = .ok (.iload_n 1, 1) := bdX5_addPitch_0.2.2.1
theorem dX5_addPitch_5 : decode cX5_addPitch 5 = .ok (.sipush 20000, 3) := bdX5_addPitch_0.2.2.2.1
theorem dX5_addPitch_8 : decode cX5_addPitch 8 = .ok (.if_icmp .le 6, 3) := bdX5_addPitch_0.2.2.2.2.1
theorem dX5_addPitch_11 : decode cX5_addPitch 11 = .ok (.bipush (-2), 2) := bdX5_addPitch_0.2.2.2.2.2.1
theorem dX5_addPitch_13 : decode cX5_addPitch 13 = .ok (.ireturn, 1) := bdX5_addPitch_0.2.2.2.2.2.2.1
theorem dX5_addPitch_14 : decode cX5_addPitch 14 = .ok (.aload_n 0, 1) := bdX5_addPitch_0.2.2.2.2.2.2.2.1
theorem dX5_addPitch_15 : decode cX5_addPitch 15 = .ok (.getfield 51, 3) := bdX5_addPitch_0.2.2.2.2.2.2.2.2.1
theorem dX5_addPitch_18 : decode cX5_addPitch 18 = .ok (.bipush 10, 2) := bdX5_addPitch_0.2.2.2.2.2.2.2.2.2.1
theorem dX5_addPitch_20 : decode cX5_addPitch 20 = .ok (.if_icmp .lt 6, 3) := bdX5_addPitch_0.2.2.2.2.2.2.2.2.2.2.1
theorem dX5_addPitch_23 : decode cX5_addPitch 23 = .ok (.bipush (-4), 2) := bdX5_addPitch_0.2.2.2.2.2.2.2.2.2.2.2.1
theorem dX5_addPitch_25 : decode cX5_addPitch 25 = .ok (.ireturn, 1) := bdX5_addPitch_0.2.2.2.2.2.2.2.2.2.2.2.2.1
theorem dX5_addPitch_26 : decode cX5_addPitch 26 = .ok (.aload_n 0, 1) := bdX5_addPitch_0.2.2.2.2.2.2.2.2.2.2.2.2.2.1
theorem dX5_addPitch_27 : decode cX5_addPitch 27 = .ok (.getfield 21, 3) := bdX5_addPitch_0.2.2.2.2.2.2.2.2.2.2.2.2.2.2.1
theorem dX5_addPitch_30 : decode cX5_addPitch 30 = .ok (.aload_n 0, 1) := bdX5_addPitch_0.2.2.2.2.2.2.2.2.2.2.2.2.2.2.2
theorem bdX5_addPitch_31 : decode cX5_addPitch 31 = .ok (.getfield 51, 3) ∧ decode cX5_addPitch 34 = .ok (.aaload, 1) ∧ decode cX5_addPitch 35 = .ok (.iload_n 1, 1) ∧ decode cX5_addPitch 36 = .ok (.invokevirtual 83, 3) ∧ decode cX5_addPitch 39 = .ok (.aload_n 0, 1) ∧ decode cX5_addPitch 40 = .ok (.dup, 1) ∧ decode cX5_addPitch 41 = .ok (.getfield 51, 3) ∧ decode cX5_addPitch 44 = .ok (.iconst 1, 1) ∧ decode cX5_addPitch 45 = .ok (.iadd, 1) ∧ decode cX5_addPitch 46 = .ok (.putfield 51, 3) ∧ decode cX5_addPitch 49 = .ok (.aload_n 0, 1) ∧ decode cX5_addPitch 50 = .ok (.getfield 51, 3) ∧ decode cX5_addPitch 53 = .ok (.iconst 1, 1) ∧ decode cX5_addPitch 54 = .ok (.isub, 1) ∧ decode cX5_addPitch 55 = .ok (.ireturn, 1) := by decide +kernel
theorem dX5_addPitch_31 : decode cX5_addPitch 31 = .ok (.getfield 51, 3) := bdX5_addPitch_31.1
theorem dX5_addPitch_34 : decode cX5_addPitch 34 = .ok (.aaload, 1) := bdX5_addPitch_31.2.1
theorem dX5_addPitch_35 : decode cX5_addPitch 35 = .ok (.iload_n 1, 1) := bdX5_addPitch_31.2.2.1
theorem dX5_addPitch_36 : decode cX5_addPitch 36 = .ok (.invokevirtual 83, 3) := bdX5_addPitch_31.2.2.2.1
theorem dX5_addPitch_39 : decode cX5_addPitch 39 = .ok (.aload_n 0, 1) := bdX5_addPitch_31.2.2.2.2.1
theorem dX5_addPitch_40 : decode cX5_addPitch 40 = .ok (.dup, 1) := bdX5_addPitch_31.2.2.2.2.2.1
theorem dX5_addPitch_41 : decode cX5_addPitch 41 = .ok (.getfield 51, 3) := bdX5_addPitch_31.2.2.2.2.2.2.1
theorem dX5_addPitch_44 : decode cX5_addPitch 44 = .ok (.iconst 1, 1) := bdX5_addPitch_31.2.2.2.2.2.2.2.1
theorem dX5_addPitch_45 : decode cX5_addPitch 45 = .ok (.iadd, 1) := bdX5_addPitch_31.2.2.2.2.2.2.2.2.1
theorem dX5_addPitch_46 : decode cX5_addPitch 46 = .ok (.putfield 51, 3) := bdX5_addPitch_31.2.2.2.2.2.2.2.2.2.1
theorem dX5_addPitch_49 : decode cX5_addPitch 49 = .ok (.aload_n 0, 1) := bdX5_addPitch_31.2.2.2.2.2.2.2.2.2.2.1
theorem dX5_addPitch_50 : decode cX5_addPitch 50 = .ok (.getfield 51, 3) := bdX5_addPitch_31.2.2.2.2.2.2.2.2.2.2.2.1
theorem dX5_addPitch_53 : decode cX5_addPitch 53 = .ok (.iconst 1, 1) := bdX5_addPitch_31.2.2.2.2.2.2.2.2.2.2.2.2.1
theorem dX5_addPitch_54 : decode cX5_addPitch 54 = .ok (.isub, 1) := bdX5_addPitch_31.2.2.2.2.2.2.2.2.2.2.2.2.2.1
theorem dX5_addPitch_55 : decode cX5_addPitch 55 = .ok (.ireturn, 1) := bdX5_addPitch_31.2.2.2.2.2.2.2.2.2.2.2.2.2.2
theorem bdX5_changeRent_0 : decode cX5_changeRent 0 = .ok (.aload_n 0, 1) ∧ decode cX5_changeRent 1 = .ok (.iload_n 1, 1) ∧ decode cX5_changeRent 2 = .ok (.invokevirtual 87, 3) ∧ decode cX5_changeRent 5 = .ok (.ifCond .ne 5, 3) ∧ decode cX5_changeRent 8 = .ok (.iconst (-1), 1) ∧ decode cX5_changeRent 9 = .ok (.ireturn, 1) ∧ decode cX5_changeRent 10 = .ok (.iload_n 2, 1) ∧ decode cX5_changeRent 11 = .ok (.ifCond .lt 10, 3) ∧ decode cX5_changeRent 14 = .ok (.iload_n 2, 1) ∧ decode cX5_changeRent 15 = .ok (.sipush 20000, 3) ∧ decode cX5_changeRent 18 = .ok (.if_icmp .le 6, 3) ∧ decode cX5_changeRent 21 = .ok (.bipush (-2), 2) ∧ decode cX5_changeRent 23 = .ok (.ireturn, 1) ∧ decode cX5_changeRent 24 = .ok (.aload_n 0, 1) ∧ decode cX5_changeRent 25 = .ok (.getfield 21, 3) ∧ decode cX5_changeRent 28 = .ok (.iload_n 1, 1) := by decide +kernel
theorem dX5_changeRent_0 : decode cX5_changeRent 0 = .ok (.aload_n 0, 1) := bdX5_changeRent_0.1
theorem dX5_changeRent_1 : decode cX5_changeRent 1 = .ok (.iload_n 1, 1) := bdX5_changeRent_0.2.1
theorem dX5_changeRent_2 : decode cX5_changeRent 2 = .ok (.invokevirtual 87, 3) := bdX5_changeRent_0.2.2.1
theorem dX5_changeRent_5 : decode cX5_changeRent 5 = .ok (.ifCond .ne 5, 3) := bdX5_changeRent_0.2.2.2.1
theorem dX5_changeRent_8 : decode cX5_changeRent 8 = .ok (.iconst (-1), 1) := bdX5_changeRent_0.2.2.2.2.1
theorem dX5_changeRent_9 : decode cX5_changeRent 9 = .ok (.ireturn, 1) := bdX5_changeRent_0.2.2.2.2.2.1
theorem dX5_changeRent_10 : decode cX5_changeRent 10 = .ok (.iload_n 2, 1) := bdX5_changeRent_0.2.2.2.2.2.2.1
theorem dX5_changeRent_11 : decode cX5_changeRent 11 = .ok (.ifCond .lt 10, 3) := bdX5_changeRent_0.2.2.2.2.2.2.2.1
theorem dX5_changeRent_14 : decode cX5_changeRent 14 = .ok (.iload_n 2, 1) := bdX5_changeRent_0.2.2.2.2.2.2.2.2.1
theorem dX5_changeRent_15 : decode cX5_changeRent 15 = .ok (.sipush 20000, 3) := bdX5_changeRent_0.2.2.2.2.2.2.2.2.2.1
theorem dX5_changeRent_18 : decode cX5_changeRent 18 = .ok (.if_icmp .le 6, 3) := bdX5_changeRent_0.2.2.2.2.2.2.2.2.2.2.1
theorem dX5_changeRent_21 : decode cX5_changeRent 21 = .ok (.bipush (-2), 2) := bdX5_changeRent_0.2.2.2.2.2.2.2.2.2.2.2.1
theorem dX5_changeRent_23 : decode cX5_changeRent 23 = .ok (.ireturn, 1) := bdX5_changeRent_0.2.2.2.2.2.2.2.2.2.2.2.2.1
theorem dX5_changeRent_24 : decode cX5_changeRent 24 = .ok (.aload_n 0, 1) := bdX5_changeRent_0.2.2.2.2.2.2.2.2.2.2.2.2.2.1
theorem dX5_changeRent_25 : decode cX5_changeRent 25 = .ok (.getfield 21, 3) := bdX5_changeRent_0.2.2.2.2.2.2.2.2.2.2.2.2.2.2.1
theorem dX5_changeRent_28 : decode cX5_changeRent 28 = .ok (.iload_n 1, 1) := bdX5_changeRent_0.2.2.2.2.2.2.2.2.2.2.2.2.2.2.2
theorem bdX5_changeRent_29 : decode cX5_changeRent 29 = .ok (.aaload, 1) ∧ decode cX5_changeRent 30 = .ok (.getfield 91, 3) ∧ decode cX5_changeRent 33 = .ok (.istore_n 3, 1) ∧ decode cX5_changeRent 34 = .ok (.aload_n 0, 1) ∧ decode cX5_changeRent 35 = .ok (.getfield 21, 3) ∧ decode cX5_changeRent 38 = .ok (.iload_n 1, 1) ∧ decode cX5_changeRent 39 = .ok (.aaload, 1) ∧ decode cX5_changeRent 40 = .ok (.iload_n 2, 1) ∧ decode cX5_changeRent 41 = .ok (.putfield 91, 3) ∧ decode cX5_changeRent 44 = .ok (.iload_n 3, 1) ∧ decode cX5_changeRent 45 = .ok (.ireturn, 1) := by decide +kernel
theorem dX5_changeRent_29 : decode cX5_changeRent 29 = .ok (.aaload, 1) := bdX5_changeRent_29.1
theorem dX5_changeRent_30 : decode cX5_changeRent 30 = .ok (.getfield 91, 3) := bdX5_changeRent_29.2.1
theorem dX5_changeRent_33 : decode cX5_changeRent 33 = .ok (.istore_n 3, 1) := bdX5_changeRent_29.2.2.1
theorem dX5_changeRent_34 : decode cX5_changeRent 34 = .ok (.aload_n 0, 1) := bdX5_changeRent_29.2.2.2.1
theorem dX5_changeRent_35 : decode cX5_changeRent 35 = .ok (.getfield 21, 3) := bdX5_changeRent_29.2.2.2.2.1
theorem dX5_changeRent_38 : decode cX5_changeRent 38 = .ok (.iload_n 1, 1) := bdX5_changeRent_29.2.2.2.2.2.1
theorem dX5_changeRent_39 : decode cX5_changeRent 39 = .ok (.aaload, 1) := bdX5_changeRent_29.2.2.2.2.2.2.1
theorem dX5_changeRent_40 : decode cX5_changeRent 40 = .ok (.iload_n 2, 1) := bdX5_changeRent_29.2.2.2.2.2.2.2.1
theorem dX5_changeRent_41 : decode cX5_changeRent 41 = .ok (.putfield 91, 3) := bdX5_changeRent_29.2.2.2.2.2.2.2.2.1
theorem dX5_changeRent_44 : decode cX5_changeRent 44 = .ok (.iload_n 3, 1) := bdX5_changeRent_29.2.2.2.2.2.2.2.2.2.1
theorem dX5_changeRent_45 : decode cX5_changeRent 45 = .ok (.ireturn, 1) := bdX5_changeRent_29.2.2.2.2.2.2.2.2.2.2
theorem bdX5_addCart_0 : decode cX5_addCart 0 = .ok (.iload_n 1, 1) ∧ decode cX5_addCart 1 = .ok (.ifCond .lt 19, 3) ∧ decode cX5_addCart 4 = .ok (.iload_n 1, 1) ∧ decode cX5_addCart 5 = .ok (.iconst 5, 1) ∧ decode cX5_addCart 6 = .ok (.if_icmp .gt 14, 3) ∧ decode cX5_addCart 9 = .ok (.iload_n 2, 1) ∧ decode cX5_addCart 10 = .ok (.iconst 1, 1) ∧ decode cX5_addCart 11 = .ok (.if_icmp .lt 9, 3) ∧ decode cX5_addCart 14 = .ok (.iload_n 2, 1) ∧ decode cX5_addCart 15 = .ok (.bipush 6, 2) ∧ decode cX5_addCart 17 = .ok (.if_icmp .le 6, 3) ∧ decode cX5_addCart 20 = .ok (.bipush (-2), 2) ∧ decode cX5_addCart 22 = .ok (.ireturn, 1) ∧ decode cX5_addCart 23 = .ok (.aload_n 0, 1) ∧ decode cX5_addCart 24 = .ok (.getfield 54, 3) ∧ decode cX5_addCart 27 = .ok (.bipush 16, 2) := by decide +kernel
theorem dX5_addCart_0 : decode cX5_addCart 0 = .ok (.iload_n 1, 1) := bdX5_addCart_0.1
theorem dX5_addCart_1 : decode cX5_addCart 1 = .ok (.ifCond .lt 19, 3) := bdX5_addCart_0.2.1
theorem dX5_addCart_4 : decode cX5_addCart 4 = .ok (.iload_n 1, 1) := bdX5_addCart_0.2.2.1
theorem dX5_addCart_5 : decode cX5_addCart 5 = .ok (.iconst 5, 1) := bdX5_addCart_0.2.2.2.1
theorem dX5_addCart_6 : decode cX5_addCart 6 = .ok (.if_icmp .gt 14, 3) := bdX5_addCart_0.2.2.2.2.1
theorem dX5_addCart_9 : decode cX5_addCart 9 = .ok (.iload_n 2, 1) := bdX5_addCart_0.2.2.2.2.2.1
theorem dX5_addCart_10 : decode cX5_addCart 10 = .ok (.iconst 1, 1) := bdX5_addCart_0.2.2.2.2.2.2.1
theorem dX5_addCart_11 : decode cX5_addCart 11 = .ok (.if_icmp .lt 9, 3) := bdX5_addCart_0.2.2.2.2.2.2.2.1
theorem dX5_addCart_14 : decode cX5_addCart 14 = .ok (.iload_n 2, 1) := bdX5_addCart_0.2.2.2.2.2.2.2.2.1
theorem dX5_addCart_15 : decode cX5_addCart 15 = .ok (.bipush 6, 2) := bdX5_addCart_0.2.2.2.2.2.2.2.2.2.1
theorem dX5_addCart_17 : decode cX5_addCart 17 = .ok (.if_icmp .le 6, 3) := bdX5_addCart_0.2.2.2.2.2.2.2.2.2.2.1
theorem dX5_addCart_20 : decode cX5_addCart 20 = .ok (.bipush (-2), 2) := bdX5_addCart_0.2.2.2.2.2.2.2.2.2.2.2.1
theorem dX5_addCart_22 : decode cX5_addCart 22 = .ok (.ireturn, 1) := bdX5_addCart_0.2.2.2.2.2.2.2.2.2.2.2.2.1
theorem dX5_addCart_23 : decode cX5_addCart 23 = .ok (.aload_n 0, 1) := bdX5_addCart_0.2.2.2.2.2.2.2.2.2.2.2.2.2.1
theorem dX5_addCart_24 : decode cX5_addCart 24 = .ok (.getfield 54, 3) := bdX5_addCart_0.2.2.2.2.2.2.2.2.2.2.2.2.2.2.1
theorem dX5_addCart_27 : decode cX5_addCart 27 = .ok (.bipush 16, 2) := bdX5_addCart_0.2.2.2.2.2.2.2.2.2.2.2.2.2.2.2
theorem bdX5_addCart_29 : decode cX5_addCart 29 = .ok (.if_icmp .lt 6, 3) ∧ decode cX5_addCart 32 = .ok (.bipush (-4), 2) ∧ decode cX5_addCart 34 = .ok (.ireturn, 1) ∧ decode cX5_addCart 35 = .ok (.aload_n 0, 1) ∧ decode cX5_addCart 36 = .ok (.getfield 27, 3) ∧ decode cX5_addCart 39 = .ok (.aload_n 0, 1) ∧ decode cX5_addCart 40 = .ok (.getfield 54, 3) ∧ decode cX5_addCart 43 = .ok (.aaload, 1) ∧ decode cX5_addCart 44 = .ok (.iload_n 1, 1) ∧ decode cX5_addCart 45 = .ok (.iload_n 2, 1) ∧ decode cX5_addCart 46 = .ok (.aload_n 0, 1) ∧ decode cX5_addCart 47 = .ok (.getfield 48, 3) ∧ decode cX5_addCart 50 = .ok (.aload_n 0, 1) ∧ decode cX5_addCart 51 = .ok (.getfield 15, 3) ∧ decode cX5_addCart 54 = .ok (.iconst 1, 1) ∧ decode cX5_addCart 55 = .ok (.iaload, 1) := by decide +kernel
theorem dX5_addCart_29 : decode cX5_addCart 29 = .ok (.if_icmp .lt 6, 3) := bdX5_addCart_29.1
theorem dX5_addCart_32 : decode cX5_addCart 32 = .ok (.bipush (-4), 2) := bdX5_addCart_29.2.1
theorem dX5_addCart_34 : decode cX5_addCart 34 = .ok (.ireturn, 1) := bdX5_addCart_29.2.2.1
theorem dX5_addCart_35 : decode cX5_addCart 35 = .ok (.aload_n 0, 1) := bdX5_addCart_29.2.2.2.1
theorem dX5_addCart_36 : decode cX5_addCart 36 = .ok (.getfield 27, 3) := bdX5_addCart_29.2.2.2.2.1
theorem dX5_addCart_39 : decode cX5_addCart 39 = .ok (.aload_n 0, 1) := bdX5_addCart_29.2.2.2.2.2.1
theorem dX5_addCart_40 : decode cX5_addCart 40 = .ok (.getfield 54, 3) := bdX5_addCart_29.2.2.2.2.2.2.1
theorem dX5_addCart_43 : decode cX5_addCart 43 = .ok (.aaload, 1) := bdX5_addCart_29.2.2.2.2.2.2.2.1
theorem dX5_addCart_44 : decode cX5_addCart 44 = .ok (.iload_n 1, 1) := bdX5_addCart_29.2.2.2.2.2.2.2.2.1
theorem dX5_addCart_45 : decode cX5_addCart 45 = .ok (.iload_n 2, 1) := bdX5_addCart_29.2.2.2.2.2.2.2.2.2.1
theorem dX5_addCart_46 : decode cX5_addCart 46 = .ok (.aload_n 0, 1) := bdX5_addCart_29.2.2.2.2.2.2.2.2.2.2.1
theorem dX5_addCart_47 : decode cX5_addCart 47 = .ok (.getfield 48, 3) := bdX5_addCart_29.2.2.2.2.2.2.2.2.2.2.2.1
theorem dX5_addCart_50 : decode cX5_addCart 50 = .ok (.aload_n 0, 1) := bdX5_addCart_29.2.2.2.2.2.2.2.2.2.2.2.2.1
theorem dX5_addCart_51 : decode cX5_addCart 51 = .ok (.getfield 15, 3) := bdX5_addCart_29.2.2.2.2.2.2.2.2.2.2.2.2.2.1
theorem dX5_addCart_54 : decode cX5_addCart 54 = .ok (.iconst 1, 1) := bdX5_addCart_29.2.2.2.2.2.2.2.2.2.2.2.2.2.2.1
theorem dX5_addCart_55 : decode cX5_addCart 55 = .ok (.iaload, 1) := bdX5_addCart_29.2.2.2.2.2.2.2.2.2.2.2.2.2.2.2
theorem bdX5_addCart_56 : decode cX5_addCart 56 = .ok (.iadd, 1) ∧ decode cX5_addCart 57 = .ok (.invokevirtual 94, 3) ∧ decode cX5_addCart 60 = .ok (.aload_n 0, 1) ∧ decode cX5_addCart 61 = .ok (.dup, 1) ∧ decode cX5_addCart 62 = .ok (.getfield 54, 3) ∧ decode cX5_addCart 65 = .ok (.iconst 1, 1) ∧ decode cX5_addCart 66 = .ok (.iadd, 1) ∧ decode cX5_addCart 67 = .ok (.putfield 54, 3) ∧ decode cX5_addCart 70 = .ok (.aload_n 0, 1) ∧ decode cX5_addCart 71 = .ok (.getfield 54, 3) ∧ decode cX5_addCart 74 = .ok (.iconst 1, 1) ∧ decode cX5_addCart 75 = .ok (.isub, 1) ∧ decode cX5_addCart 76 = .ok (.ireturn, 1) := by decide +kernel
theorem dX5_addCart_56 : decode cX5_addCart 56 = .ok (.iadd, 1) := bdX5_addCart_56.1
theorem dX5_addCart_57 : decode cX5_addCart 57 = .ok (.invokevirtual 94, 3) := bdX5_addCart_56.2.1
theorem dX5_addCart_60 : decode cX5_addCart 60 = .ok (.aload_n 0, 1) := bdX5_addCart_56.2.2.1
theorem dX5_addCart_61 : decode cX5_addCart 61 = .ok (.dup, 1) := bdX5_addCart_56.2.2.2.1
theorem dX5_addCart_62 : decode cX5_addCart 62 = .ok (.getfield 54, 3) := bdX5_addCart_56.2.2.2.2.1
theorem dX5_addCart_65 : decode cX5_addCart 65 = .ok (.iconst 1, 1) := bdX5_addCart_56.2.2.2.2.2.1
theorem dX5_addCart_66 : decode cX5_addCart 66 = .ok (.iadd, 1) := bdX5_addCart_56.2.2.2.2.2.2.1
theorem dX5_addCart_67 : decode cX5_addCart 67 = .ok (.putfield 54, 3) := bdX5_addCart_56.2.2.2.2.2.2.2.1
theorem dX5_addCart_70 : decode cX5_addCart 70 = .ok (.aload_n 0, 1) := bdX5_addCart_56.2.2.2.2.2.2.2.2.1
theorem dX5_addCart_71 : decode cX5_addCart 71 = .ok (.getfield 54, 3) := bdX5_addCart_56.2.2.2.2.2.2.2.2.2.1
theorem dX5_addCart_74 : decode cX5_addCart 74 = .ok (.iconst 1, 1) := bdX5_addCart_56.2.2.2.2.2.2.2.2.2.2.1
theorem dX5_addCart_75 : decode cX5_addCart 75 = .ok (.isub, 1) := bdX5_addCart_56.2.2.2.2.2.2.2.2.2.2.2.1
theorem dX5_addCart_76 : decode cX5_addCart 76 = .ok (.ireturn, 1) := bdX5_addCart_56.2.2.2.2.2.2.2.2.2.2.2.2
theorem bdX5_tellWishes_0 : decode cX5_tellWishes 0 = .ok (.aload_n 0, 1) ∧ decode cX5_tellWishes 1 = .ok (.iload_n 1, 1) ∧ decode cX5_tellWishes 2 = .ok (.invokevirtual 97, 3) ∧ decode cX5_tellWishes 5 = .ok (.ifCond .ne 5, 3) ∧ decode cX5_tellWishes 8 = .ok (.iconst (-1), 1) ∧ decode cX5_tellWishes 9 = .ok (.ireturn, 1) ∧ decode cX5_tellWishes 10 = .ok (.aload_n 0, 1) ∧ decode cX5_tellWishes 11 = .ok (.iload_n 2, 1) ∧ decode cX5_tellWishes 12 = .ok (.invokevirtual 100, 3) ∧ decode cX5_tellWishes 15 = .ok (.ifCond .eq 20, 3) ∧ decode cX5_tellWishes 18 = .ok (.aload_n 0, 1) ∧ decode cX5_tellWishes 19 = .ok (.iload_n 3, 1) ∧ decode cX5_tellWishes 20 = .ok (.invokevirtual 100, 3) ∧ decode cX5_tellWishes 23 = .ok (.ifCond .eq 12, 3) ∧ decode cX5_tellWishes 26 = .ok (.aload_n 0, 1) ∧ decode cX5_tellWishes 27 = .ok (.iload 4, 2) := by decide +kernel
theorem dX5_tellWishes_0 : decode cX5_tellWishes 0 = .ok (.aload_n 0, 1) := bdX5_tellWishes_0.1
theorem dX5_tellWishes_1 : decode cX5_tellWishes 1 = .ok (.iload_n 1, 1) := bdX5_tellWishes_0.2.1
theorem dX5_tellWishes_2 : decode cX5_tellWishes 2 = .ok (.invokevirtual 97, 3) := bdX5_tellWishes_0.2.2.1
theorem dX5_tellWishes_5 : decode cX5_tellWishes 5 = .ok (.ifCond .ne 5, 3) := bdX5_tellWishes_0.2.2.2.1
theorem dX5_tellWishes_8 : decode cX5_tellWishes 8 = .ok (.iconst (-1), 1) := bdX5_tellWishes_0.2.2.2.2.1
theorem dX5_tellWishes_9 : decode cX5_tellWishes 9 = .ok (.ireturn, 1) := bdX5_tellWishes_0.2.2.2.2.2.1
theorem dX5_tellWishes_10 : decode cX5_tellWishes 10 = .ok (.aload_n 0, 1) := bdX5_tellWishes_0.2.2.2.2.2.2.1
theorem dX5_tellWishes_11 : decode cX5_tellWishes 11 = .ok (.iload_n 2, 1) := bdX5_tellWishes_0.2.2.2.2.2.2.2.1
theorem dX5_tellWishes_12 : decode cX5_tellWishes 12 = .ok (.invokevirtual 100, 3) := bdX5_tellWishes_0.2.2.2.2.2.2.2.2.1
theorem dX5_tellWishes_15 : decode cX5_tellWishes 15 = .ok (.ifCond .eq 20, 3) := bdX5_tellWishes_0.2.2.2.2.2.2.2.2.2.1
theorem dX5_tellWishes_18 : decode cX5_tellWishes 18 = .ok (.aload_n 0, 1) := bdX5_tellWishes_0.2.2.2.2.2.2.2.2.2.2.1
theorem dX5_tellWishes_19 : decode cX5_tellWishes 19 = .ok (.iload_n 3, 1) := bdX5_tellWishes_0.2.2.2.2.2.2.2.2.2.2.2.1
theorem dX5_tellWishes_20 : decode cX5_tellWishes 20 = .ok (.invokevirtual 100, 3) := bdX5_tellWishes_0.2.2.2.2.2.2.2.2.2.2.2.2.1
theorem dX5_tellWishes_23 : decode cX5_tellWishes 23 = .ok (.ifCond .eq 12, 3) := bdX5_tellWishes_0.2.2.2.2.2.2.2.2.2.2.2.2.2.1
theorem dX5_tellWishes_26 : decode cX5_tellWishes 26 = .ok (.aload_n 0, 1) := bdX5_tellWishes_0.2.2.2.2.2.2.2.2.2.2.2.2.2.2.1
theorem dX5_tellWishes_27 : decode cX5_tellWishes 27 = .ok (.iload 4, 2) := bdX5_tellWishes_0.2.2.2.2.2.2.2.2.2.2.2.2.2.2.2
theorem bdX5_tellWishes_29 : decode cX5_tellWishes 29 = .ok (.invokevirtual 100, 3) ∧ decode cX5_tellWishes 32 = .ok (.ifCond .ne 6, 3) ∧ decode cX5_tellWishes 35 = .ok (.bipush (-2), 2) ∧ decode cX5_tellWishes 37 = .ok (.ireturn, 1) ∧ decode cX5_tellWishes 38 = .ok (.iload_n 2, 1) ∧ decode cX5_tellWishes 39 = .ok (.bipush (-6), 2) ∧ decode cX5_tellWishes 41 = .ok (.if_icmp .ne 7, 3) ∧ decode cX5_tellWishes 44 = .ok (.iconst 0, 1) ∧ decode cX5_tellWishes 45 = .ok (.goto 25, 3) ∧ decode cX5_tellWishes 48 = .ok (.iload_n 3, 1) ∧ decode cX5_tellWishes 49 = .ok (.bipush (-6), 2) ∧ decode cX5_tellWishes 51 = .ok (.if_icmp .ne 7, 3) ∧ decode cX5_tellWishes 54 = .ok (.iconst 1, 1) ∧ decode cX5_tellWishes 55 = .ok (.goto 15, 3) ∧ decode cX5_tellWishes 58 = .ok (.iload 4, 2) ∧ decode cX5_tellWishes 60 = .ok (.bipush (-6), 2) := by decide +kernel
theorem dX5_tellWishes_29 : decode cX5_tellWishes 29 = .ok (.invokevirtual 100, 3) := bdX5_tellWishes_29.1
theorem dX5_tellWishes_32 : decode cX5_tellWishes 32 = .ok (.ifCond .ne 6, 3) := bdX5_tellWishes_29.2.1
theorem dX5_tellWishes_35 : decode cX5_tellWishes 35 = .ok (.bipush (-2), 2) := bdX5_tellWishes_29.2.2.1
theorem dX5_tellWishes_37 : decode cX5_tellWishes 37 = .ok (.ireturn, 1) := bdX5_tellWishes_29.2.2.2.1
theorem dX5_tellWishes_38 : decode cX5_tellWishes 38 = .ok (.iload_n 2, 1) := bdX5_tellWishes_29.2.2.2.2.1
theorem dX5_tellWishes_39 : decode cX5_tellWishes 39 = .ok (.bipush (-6), 2) := bdX5_tellWishes_29.2.2.2.2.2.1
theorem dX5_tellWishes_41 : decode cX5_tellWishes 41 = .ok (.if_icmp .ne 7, 3) := bdX5_tellWishes_29.2.2.2.2.2.2.1
theorem dX5_tellWishes_44 : decode cX5_tellWishes 44 = .ok (.iconst 0, 1) := bdX5_tellWishes_29.2.2.2.2.2.2.2.1
theorem dX5_tellWishes_45 : decode cX5_tellWishes 45 = .ok (.goto 25, 3) := bdX5_tellWishes_29.2.2.2.2.2.2.2.2.1
theorem dX5_tellWishes_48 : decode cX5_tellWishes 48 = .ok (.iload_n 3, 1) := bdX5_tellWishes_29.2.2.2.2.2.2.2.2.2.1
theorem dX5_tellWishes_49 : decode cX5_tellWishes 49 = .ok (.bipush (-6), 2) := bdX5_tellWishes_29.2.2.2.2.2.2.2.2.2.2.1
theorem dX5_tellWishes_51 : decode cX5_tellWishes 51 = .ok (.if_icmp .ne 7, 3) := bdX5_tellWishes_29.2.2.2.2.2.2.2.2.2.2.2.1
theorem dX5_tellWishes_54 : decode cX5_tellWishes 54 = .ok (.iconst 1, 1) := bdX5_tellWishes_29.2.2.2.2.2.2.2.2.2.2.2.2.1
theorem dX5_tellWishes_55 : decode cX5_tellWishes 55 = .ok (.goto 15, 3) := bdX5_tellWishes_29.2.2.2.2.2.2.2.2.2.2.2.2.2.1
theorem dX5_tellWishes_58 : decode cX5_tellWishes 58 = .ok (.iload 4, 2) := bdX5_tellWishes_29.2.2.2.2.2.2.2.2.2.2.2.2.2.2.1
theorem dX5_tellWishes_60 : decode cX5_tellWishes 60 = .ok (.bipush (-6), 2) := bdX5_tellWishes_29.2.2.2.2.2.2.2.2.2.2.2.2.2.2.2
theorem bdX5_tellWishes_62 : decode cX5_tellWishes 62 = .ok (.if_icmp .ne 7, 3) ∧ decode cX5_tellWishes 65 = .ok (.iconst 2, 1) ∧ decode cX5_tellWishes 66 = .ok (.goto 4, 3) ∧ decode cX5_tellWishes 69 = .ok (.iconst 3, 1) ∧ decode cX5_tellWishes 70 = .ok (.istore 5, 2) ∧ decode cX5_tellWishes 72 = .ok (.iload 5, 2) ∧ decode cX5_tellWishes 74 = .ok (.iconst 2, 1) ∧ decode cX5_tellWishes 75 = .ok (.if_icmp .lt 8, 3) ∧ decode cX5_tellWishes 78 = .ok (.iload_n 2, 1) ∧ decode cX5_tellWishes 79 = .ok (.iload_n 3, 1) ∧ decode cX5_tellWishes 80 = .ok (.if_icmp .eq 21, 3) ∧ decode cX5_tellWishes 83 = .ok (.iload 5, 2) ∧ decode cX5_tellWishes 85 = .ok (.iconst 3, 1) ∧ decode cX5_tellWishes 86 = .ok (.if_icmp .ne 18, 3) ∧ decode cX5_tellWishes 89 = .ok (.iload_n 2, 1) ∧ decode cX5_tellWishes 90 = .ok (.iload 4, 2) := by decide +kernel
theorem dX5_tellWishes_62 : decode cX5_tellWishes 62 = .ok (.if_icmp .ne 7, 3) := bdX5_tellWishes_62.1
theorem dX5_tellWishes_65 : decode cX5_tellWishes 65 = .ok (.iconst 2, 1) := bdX5_tellWishes_62.2.1
theorem dX5_tellWishes_66 : decode cX5_tellWishes 66 = .ok (.goto 4, 3) := bdX5_tellWishes_62.2.2.1
theorem dX5_tellWishes_69 : decode cX5_tellWishes 69 = .ok (.iconst 3, 1) := bdX5_tellWishes_62.2.2.2.1
theorem dX5_tellWishes_70 : decode cX5_tellWishes 70 = .ok (.istore 5, 2) := bdX5_tellWishes_62.2.2.2.2.1
theorem dX5_tellWishes_72 : decode cX5_tellWishes 72 = .ok (.iload 5, 2) := bdX5_tellWishes_62.2.2.2.2.2.1
theorem dX5_tellWishes_74 : decode cX5_tellWishes 74 = .ok (.iconst 2, 1) := bdX5_tellWishes_62.2.2.2.2.2.2.1
theorem dX5_tellWishes_75 : decode cX5_tellWishes 75 = .ok (.if_icmp .lt 8, 3) := bdX5_tellWishes_62.2.2.2.2.2.2.2.1
theorem dX5_tellWishes_78 : decode cX5_tellWishes 78 = .ok (.iload_n 2, 1) := bdX5_tellWishes_62.2.2.2.2.2.2.2.2.1
theorem dX5_tellWishes_79 : decode cX5_tellWishes 79 = .ok (.iload_n 3, 1) := bdX5_tellWishes_62.2.2.2.2.2.2.2.2.2.1
theorem dX5_tellWishes_80 : decode cX5_tellWishes 80 = .ok (.if_icmp .eq 21, 3) := bdX5_tellWishes_62.2.2.2.2.2.2.2.2.2.2.1
theorem dX5_tellWishes_83 : decode cX5_tellWishes 83 = .ok (.iload 5, 2) := bdX5_tellWishes_62.2.2.2.2.2.2.2.2.2.2.2.1
theorem dX5_tellWishes_85 : decode cX5_tellWishes 85 = .ok (.iconst 3, 1) := bdX5_tellWishes_62.2.2.2.2.2.2.2.2.2.2.2.2.1
theorem dX5_tellWishes_86 : decode cX5_tellWishes 86 = .ok (.if_icmp .ne 18, 3) := bdX5_tellWishes_62.2.2.2.2.2.2.2.2.2.2.2.2.2.1
theorem dX5_tellWishes_89 : decode cX5_tellWishes 89 = .ok (.iload_n 2, 1) := bdX5_tellWishes_62.2.2.2.2.2.2.2.2.2.2.2.2.2.2.1
theorem dX5_tellWishes_90 : decode cX5_tellWishes 90 = .ok (.iload 4, 2) := bdX5_tellWishes_62.2.2.2.2.2.2.2.2.2.2.2.2.2.2.2
theorem bdX5_tellWishes_92 : decode cX5_tellWishes 92 = .ok (.if_icmp .eq 9, 3) ∧ decode cX5_tellWishes 95 = .ok (.iload_n 3, 1) ∧ decode cX5_tellWishes 96 = .ok (.iload 4, 2) ∧ decode cX5_tellWishes 98 = .ok (.if_icmp .ne 6, 3) ∧ decode cX5_tellWishes 101 = .ok (.bipush (-2), 2) ∧ decode cX5_tellWishes 103 = .ok (.ireturn, 1) ∧ decode cX5_tellWishes 104 = .ok (.aload_n 0, 1) ∧ decode cX5_tellWishes 105 = .ok (.getfield 27, 3) ∧ decode cX5_tellWishes 108 = .ok (.iload_n 1, 1) ∧ decode cX5_tellWishes 109 = .ok (.aaload, 1) ∧ decode cX5_tellWishes 110 = .ok (.astore 6, 2) ∧ decode cX5_tellWishes 112 = .ok (.aload 6, 2) ∧ decode cX5_tellWishes 114 = .ok (.iload 5, 2) ∧ decode cX5_tellWishes 116 = .ok (.putfield 103, 3) ∧ decode cX5_tellWishes 119 = .ok (.aload 6, 2) ∧ decode cX5_tellWishes 121 = .ok (.getfield 106, 3) := by decide +kernel
theorem dX5_tellWishes_92 : decode cX5_tellWishes 92 = .ok (.if_icmp .eq 9, 3) := bdX5_tellWishes_92.1
theorem dX5_tellWishes_95 : decode cX5_tellWishes 95 = .ok (.iload_n 3, 1) := bdX5_tellWishes_92.2.1
theorem dX5_tellWishes_96 : decode cX5_tellWishes 96 = .ok (.iload 4, 2) := bdX5_tellWishes_92.2.2.1
theorem dX5_tellWishes_98 : decode cX5_tellWishes 98 = .ok (.if_icmp .ne 6, 3) := bdX5_tellWishes_92.2.2.2.1
theorem dX5_tellWishes_101 : decode cX5_tellWishes 101 = .ok (.bipush (-2), 2) := bdX5_tellWishes_92.2.2.2.2.1
theorem dX5_tellWishes_103 : decode cX5_tellWishes 103 = .ok (.ireturn, 1) := bdX5_tellWishes_92.2.2.2.2.2.1
theorem dX5_tellWishes_104 : decode cX5_tellWishes 104 = .ok (.aload_n 0, 1) := bdX5_tellWishes_92.2.2.2.2.2.2.1
theorem dX5_tellWishes_105 : decode cX5_tellWishes 105 = .ok (.getfield 27, 3) := bdX5_tellWishes_92.2.2.2.2.2.2.2.1
theorem dX5_tellWishes_108 : decode cX5_tellWishes 108 = .ok (.iload_n 1, 1) := bdX5_tellWishes_92.2.2.2.2.2.2.2.2.1
theorem dX5_tellWishes_109 : decode cX5_tellWishes 109 = .ok (.aaload, 1) := bdX5_tellWishes_92.2.2.2.2.2.2.2.2.2.1
theorem dX5_tellWishes_110 : decode cX5_tellWishes 110 = .ok (.astore 6, 2) := bdX5_tellWishes_92.2.2.2.2.2.2.2.2.2.2.1
theorem dX5_tellWishes_112 : decode cX5_tellWishes 112 = .ok (.aload 6, 2) := bdX5_tellWishes_92.2.2.2.2.2.2.2.2.2.2.2.1
theorem dX5_tellWishes_114 : decode cX5_tellWishes 114 = .ok (.iload 5, 2) := bdX5_tellWishes_92.2.2.2.2.2.2.2.2.2.2.2.2.1
theorem dX5_tellWishes_116 : decode cX5_tellWishes 116 = .ok (.putfield 103, 3) := bdX5_tellWishes_92.2.2.2.2.2.2.2.2.2.2.2.2.2.1
theorem dX5_tellWishes_119 : decode cX5_tellWishes 119 = .ok (.aload 6, 2) := bdX5_tellWishes_92.2.2.2.2.2.2.2.2.2.2.2.2.2.2.1
theorem dX5_tellWishes_121 : decode cX5_tellWishes 121 = .ok (.getfield 106, 3) := bdX5_tellWishes_92.2.2.2.2.2.2.2.2.2.2.2.2.2.2.2
theorem bdX5_tellWishes_124 : decode cX5_tellWishes 124 = .ok (.iconst 0, 1) ∧ decode cX5_tellWishes 125 = .ok (.iload_n 2, 1) ∧ decode cX5_tellWishes 126 = .ok (.iastore, 1) ∧ decode cX5_tellWishes 127 = .ok (.aload 6, 2) ∧ decode cX5_tellWishes 129 = .ok (.getfield 106, 3) ∧ decode cX5_tellWishes 132 = .ok (.iconst 1, 1) ∧ decode cX5_tellWishes 133 = .ok (.iload_n 3, 1) ∧ decode cX5_tellWishes 134 = .ok (.iastore, 1) ∧ decode cX5_tellWishes 135 = .ok (.aload 6, 2) ∧ decode cX5_tellWishes 137 = .ok (.getfield 106, 3) ∧ decode cX5_tellWishes 140 = .ok (.iconst 2, 1) ∧ decode cX5_tellWishes 141 = .ok (.iload 4, 2) ∧ decode cX5_tellWishes 143 = .ok (.iastore, 1) ∧ decode cX5_tellWishes 144 = .ok (.iload 5, 2) ∧ decode cX5_tellWishes 146 = .ok (.ireturn, 1) := by decide +kernel
theorem dX5_tellWishes_124 : decode cX5_tellWishes 124 = .ok (.iconst 0, 1) := bdX5_tellWishes_124.1
theorem dX5_tellWishes_125 : decode cX5_tellWishes 125 = .ok (.iload_n 2, 1) := bdX5_tellWishes_124.2.1
theorem dX5_tellWishes_126 : decode cX5_tellWishes 126 = .ok (.iastore, 1) := bdX5_tellWishes_124.2.2.1
theorem dX5_tellWishes_127 : decode cX5_tellWishes 127 = .ok (.aload 6, 2) := bdX5_tellWishes_124.2.2.2.1
theorem dX5_tellWishes_129 : decode cX5_tellWishes 129 = .ok (.getfield 106, 3) := bdX5_tellWishes_124.2.2.2.2.1
theorem dX5_tellWishes_132 : decode cX5_tellWishes 132 = .ok (.iconst 1, 1) := bdX5_tellWishes_124.2.2.2.2.2.1
theorem dX5_tellWishes_133 : decode cX5_tellWishes 133 = .ok (.iload_n 3, 1) := bdX5_tellWishes_124.2.2.2.2.2.2.1
theorem dX5_tellWishes_134 : decode cX5_tellWishes 134 = .ok (.iastore, 1) := bdX5_tellWishes_124.2.2.2.2.2.2.2.1
theorem dX5_tellWishes_135 : decode cX5_tellWishes 135 = .ok (.aload 6, 2) := bdX5_tellWishes_124.2.2.2.2.2.2.2.2.1
theorem dX5_tellWishes_137 : decode cX5_tellWishes 137 = .ok (.getfield 106, 3) := bdX5_tellWishes_124.2.2.2.2.2.2.2.2.2.1
theorem dX5_tellWishes_140 : decode cX5_tellWishes 140 = .ok (.iconst 2, 1) := bdX5_tellWishes_124.2.2.2.2.2.2.2.2.2.2.1
theorem dX5_tellWishes_141 : decode cX5_tellWishes 141 = .ok (.iload 4, 2) := bdX5_tellWishes_124.2.2.2.2.2.2.2.2.2.2.2.1
theorem dX5_tellWishes_143 : decode cX5_tellWishes 143 = .ok (.iastore, 1) := bdX5_tellWishes_124.2.2.2.2.2.2.2.2.2.2.2.2.1
theorem dX5_tellWishes_144 : decode cX5_tellWishes 144 = .ok (.iload 5, 2) := bdX5_tellWishes_124.2.2.2.2.2.2.2.2.2.2.2.2.2.1
theorem dX5_tellWishes_146 : decode cX5_tellWishes 146 = .ok (.ireturn, 1) := bdX5_tellWishes_124.2.2.2.2.2.2.2.2.2.2.2.2.2.2
theorem bdX5_isPitchOrNone_0 : decode cX5_isPitchOrNone 0 = .ok (.iload_n 1, 1) ∧ decode cX5_isPitchOrNone 1 = .ok (.bipush (-6), 2) ∧ decode cX5_isPitchOrNone 3 = .ok (.if_icmp .eq 11, 3) ∧ decode cX5_isPitchOrNone 6 = .ok (.aload_n 0, 1) ∧ decode cX5_isPitchOrNone 7 = .ok (.iload_n 1, 1) ∧ decode cX5_isPitchOrNone 8 = .ok (.invokevirtual 87, 3) ∧ decode cX5_isPitchOrNone 11 = .ok (.ifCond .eq 7, 3) ∧ decode cX5_isPitchOrNone 14 = .ok (.iconst 1, 1) ∧ decode cX5_isPitchOrNone 15 = .ok (.goto 4, 3) ∧ decode cX5_isPitchOrNone 18 = .ok (.iconst 0, 1) ∧ decode cX5_isPitchOrNone 19 = .ok (.ireturn, 1) := by decide +kernel
theorem dX5_isPitchOrNone_0 : decode cX5_isPitchOrNone 0 = .ok (.iload_n 1, 1) := bdX5_isPitchOrNone_0.1
theorem dX5_isPitchOrNone_1 : decode cX5_isPitchOrNone 1 = .ok (.bipush (-6), 2) := bdX5_isPitchOrNone_0.2.1
theorem dX5_isPitchOrNone_3 : decode cX5_isPitchOrNone 3 = .ok (.if_icmp .eq 11, 3) := bdX5_isPitchOrNone_0.2.2.1
theorem dX5_isPitchOrNone_6 : decode cX5_isPitchOrNone 6 = .ok (.aload_n 0, 1) := bdX5_isPitchOrNone_0.2.2.2.1
theorem dX5_isPitchOrNone_7 : decode cX5_isPitchOrNone 7 = .ok (.iload_n 1, 1) := bdX5_isPitchOrNone_0.2.2.2.2.1
theorem dX5_isPitchOrNone_8 : decode cX5_isPitchOrNone 8 = .ok (.invokevirtual 87, 3) := bdX5_isPitchOrNone_0.2.2.2.2.2.1
theorem dX5_isPitchOrNone_11 : decode cX5_isPitchOrNone 11 = .ok (.ifCond .eq 7, 3) := bdX5_isPitchOrNone_0.2.2.2.2.2.2.1
theorem dX5_isPitchOrNone_14 : decode cX5_isPitchOrNone 14 = .ok (.iconst 1, 1) := bdX5_isPitchOrNone_0.2.2.2.2.2.2.2.1
theorem dX5_isPitchOrNone_15 : decode cX5_isPitchOrNone 15 = .ok (.goto 4, 3) := bdX5_isPitchOrNone_0.2.2.2.2.2.2.2.2.1
theorem dX5_isPitchOrNone_18 : decode cX5_isPitchOrNone 18 = .ok (.iconst 0, 1) := bdX5_isPitchOrNone_0.2.2.2.2.2.2.2.2.2.1
theorem dX5_isPitchOrNone_19 : decode cX5_isPitchOrNone 19 = .ok (.ireturn, 1) := bdX5_isPitchOrNone_0.2.2.2.2.2.2.2.2.2.2
theorem bdX5_punish_0 : decode cX5_punish 0 = .ok (.aload_n 0, 1) ∧ decode cX5_punish 1 = .ok (.iload_n 1, 1) ∧ decode cX5_punish 2 = .ok (.invokevirtual 97, 3) ∧ decode cX5_punish 5 = .ok (.ifCond .ne 5, 3) ∧ decode cX5_punish 8 = .ok (.iconst (-1), 1) ∧ decode cX5_punish 9 = .ok (.ireturn, 1) ∧ decode cX5_punish 10 = .ok (.iload_n 2, 1) ∧ decode cX5_punish 11 = .ok (.iconst 1, 1) ∧ decode cX5_punish 12 = .ok (.if_icmp .lt 9, 3) ∧ decode cX5_punish 15 = .ok (.iload_n 2, 1) ∧ decode cX5_punish 16 = .ok (.bipush 9, 2) ∧ decode cX5_punish 18 = .ok (.if_icmp .le 6, 3) ∧ decode cX5_punish 21 = .ok (.bipush (-2), 2) ∧ decode cX5_punish 23 = .ok (.ireturn, 1) ∧ decode cX5_punish 24 = .ok (.aload_n 0, 1) ∧ decode cX5_punish 25 = .ok (.aload_n 0, 1) := by decide +kernel
theorem dX5_punish_0 : decode cX5_punish 0 = .ok (.aload_n 0, 1) := bdX5_punish_0.1
theorem dX5_punish_1 : decode cX5_punish 1 = .ok (.iload_n 1, 1) := bdX5_punish_0.2.1
theorem dX5_punish_2 : decode cX5_punish 2 = .ok (.invokevirtual 97, 3) := bdX5_punish_0.2.2.1
theorem dX5_punish_5 : decode cX5_punish 5 = .ok (.ifCond .ne 5, 3) := bdX5_punish_0.2.2.2.1
theorem dX5_punish_8 : decode cX5_punish 8 = .ok (.iconst (-1), 1) := bdX5_punish_0.2.2.2.2.1
theorem dX5_punish_9 : decode cX5_punish 9 = .ok (.ireturn, 1) := bdX5_punish_0.2.2.2.2.2.1
theorem dX5_punish_10 : decode cX5_punish 10 = .ok (.iload_n 2, 1) := bdX5_punish_0.2.2.2.2.2.2.1
theorem dX5_punish_11 : decode cX5_punish 11 = .ok (.iconst 1, 1) := bdX5_punish_0.2.2.2.2.2.2.2.1
theorem dX5_punish_12 : decode cX5_punish 12 = .ok (.if_icmp .lt 9, 3) := bdX5_punish_0.2.2.2.2.2.2.2.2.1
theorem dX5_punish_15 : decode cX5_punish 15 = .ok (.iload_n 2, 1) := bdX5_punish_0.2.2.2.2.2.2.2.2.2.1
theorem dX5_punish_16 : decode cX5_punish 16 = .ok (.bipush 9, 2) := bdX5_punish_0.2.2.2.2.2.2.2.2.2.2.1
theorem dX5_punish_18 : decode cX5_punish 18 = .ok (.if_icmp .le 6, 3) := bdX5_punish_0.2.2.2.2.2.2.2.2.2.2.2.1
theorem dX5_punish_21 : decode cX5_punish 21 = .ok (.bipush (-2), 2) := bdX5_punish_0.2.2.2.2.2.2.2.2.2.2.2.2.1
theorem dX5_punish_23 : decode cX5_punish 23 = .ok (.ireturn, 1) := bdX5_punish_0.2.2.2.2.2.2.2.2.2.2.2.2.2.1
theorem dX5_punish_24 : decode cX5_punish 24 = .ok (.aload_n 0, 1) := bdX5_punish_0.2.2.2.2.2.2.2.2.2.2.2.2.2.2.1
theorem dX5_punish_25 : decode cX5_punish 25 = .ok (.aload_n 0, 1) := bdX5_punish_0.2.2.2.2.2.2.2.2.2.2.2.2.2.2.2
theorem bdX5_punish_26 : decode cX5_punish 26 = .ok (.getfield 27, 3) ∧ decode cX5_punish 29 = .ok (.iload_n 1, 1) ∧ decode cX5_punish 30 = .ok (.aaload, 1) ∧ decode cX5_punish 31 = .ok (.iload_n 2, 1) ∧ decode cX5_punish 32 = .ok (.invokevirtual 109, 3) ∧ decode cX5_punish 35 = .ok (.ireturn, 1) := by decide +kernel
theorem dX5_punish_26 : decode cX5_punish 26 = .ok (.getfield 27, 3) := bdX5_punish_26.1
theorem dX5_punish_29 : decode cX5_punish 29 = .ok (.iload_n 1, 1) := bdX5_punish_26.2.1
theorem dX5_punish_30 : decode cX5_punish 30 = .ok (.aaload, 1) := bdX5_punish_26.2.2.1
theorem dX5_punish_31 : decode cX5_punish 31 = .ok (.iload_n 2, 1) := bdX5_punish_26.2.2.2.1
theorem dX5_punish_32 : decode cX5_punish 32 = .ok (.invokevirtual 109, 3) := bdX5_punish_26.2.2.2.2.1
theorem dX5_punish_35 : decode cX5_punish 35 = .ok (.ireturn, 1) := bdX5_punish_26.2.2.2.2.2
theorem bdX5_givePoints_0 : decode cX5_givePoints 0 = .ok (.aload_n 1, 1) ∧ decode cX5_givePoints 1 = .ok (.dup, 1) ∧ decode cX5_givePoints 2 = .ok (.getfield 113, 3) ∧ decode cX5_givePoints 5 = .ok (.iload_n 2, 1) ∧ decode cX5_givePoints 6 = .ok (.i2l, 1) ∧ decode cX5_givePoints 7 = .ok (.aload_n 0, 1) ∧ decode cX5_givePoints 8 = .ok (.getfield 15, 3) ∧ decode cX5_givePoints 11 = .ok (.bipush 6, 2) ∧ decode cX5_givePoints 13 = .ok (.iaload, 1) ∧ decode cX5_givePoints 14 = .ok (.i2l, 1) ∧ decode cX5_givePoints 15 = .ok (.lmul, 1) ∧ decode cX5_givePoints 16 = .ok (.ladd, 1) ∧ decode cX5_givePoints 17 = .ok (.putfield 113, 3) ∧ decode cX5_givePoints 20 = .ok (.aload_n 1, 1) ∧ decode cX5_givePoints 21 = .ok (.aload_n 0, 1) ∧ decode cX5_givePoints 22 = .ok (.getfield 48, 3) := by decide +kernel
theorem dX5_givePoints_0 : decode cX5_givePoints 0 = .ok (.aload_n 1, 1) := bdX5_givePoints_0.1
theorem dX5_givePoints_1 : decode cX5_givePoints 1 = .ok (.dup, 1) := bdX5_givePoints_0.2.1
theorem dX5_givePoints_2 : decode cX5_givePoints 2 = .ok (.getfield 113, 3) := bdX5_givePoints_0.2.2.1
theorem dX5_givePoints_5 : decode cX5_givePoints 5 = .ok (.iload_n 2, 1) := bdX5_givePoints_0.2.2.2.1
theorem dX5_givePoints_6 : decode cX5_givePoints 6 = .ok (.i2l, 1) := bdX5_givePoints_0.2.2.2.2.1
theorem dX5_givePoints_7 : decode cX5_givePoints 7 = .ok (.aload_n 0, 1) := bdX5_givePoints_0.2.2.2.2.2.1
theorem dX5_givePoints_8 : decode cX5_givePoints 8 = .ok (.getfield 15, 3) := bdX5_givePoints_0.2.2.2.2.2.2.1
theorem dX5_givePoints_11 : decode cX5_givePoints 11 = .ok (.bipush 6, 2) := bdX5_givePoints_0.2.2.2.2.2.2.2.1
theorem dX5_givePoints_13 : decode cX5_givePoints 13 = .ok (.iaload, 1) := bdX5_givePoints_0.2.2.2.2.2.2.2.2.1
theorem dX5_givePoints_14 : decode cX5_givePoints 14 = .ok (.i2l, 1) := bdX5_givePoints_0.2.2.2.2.2.2.2.2.2.1
theorem dX5_givePoints_15 : decode cX5_givePoints 15 = .ok (.lmul, 1) := bdX5_givePoints_0.2.2.2.2.2.2.2.2.2.2.1
theorem dX5_givePoints_16 : decode cX5_givePoints 16 = .ok (.ladd, 1) := bdX5_givePoints_0.2.2.2.2.2.2.2.2.2.2.2.1
theorem dX5_givePoints_17 : decode cX5_givePoints 17 = .ok (.putfield 113, 3) := bdX5_givePoints_0.2.2.2.2.2.2.2.2.2.2.2.2.1
theorem dX5_givePoints_20 : decode cX5_givePoints 20 = .ok (.aload_n 1, 1) := bdX5_givePoints_0.2.2.2.2.2.2.2.2.2.2.2.2.2.1
theorem dX5_givePoints_21 : decode cX5_givePoints 21 = .ok (.aload_n 0, 1) := bdX5_givePoints_0.2.2.2.2.2.2.2.2.2.2.2.2.2.2.1
theorem dX5_givePoints_22 : decode cX5_givePoints 22 = .ok (.getfield 48, 3) := bdX5_givePoints_0.2.2.2.2.2.2.2.2.2.2.2.2.2.2.2
theorem bdX5_givePoints_25 : decode cX5_givePoints 25 = .ok (.iload_n 2, 1) ∧ decode cX5_givePoints 26 = .ok (.invokevirtual 117, 3) ∧ decode cX5_givePoints 29 = .ok (.aload_n 1, 1) ∧ decode cX5_givePoints 30 = .ok (.aload_n 0, 1) ∧ decode cX5_givePoints 31 = .ok (.getfield 48, 3) ∧ decode cX5_givePoints 34 = .ok (.aload_n 0, 1) ∧ decode cX5_givePoints 35 = .ok (.getfield 48, 3) ∧ decode cX5_givePoints 38 = .ok (.aload_n 0, 1) ∧ decode cX5_givePoints 39 = .ok (.getfield 15, 3) ∧ decode cX5_givePoints 42 = .ok (.iconst 5, 1) ∧ decode cX5_givePoints 43 = .ok (.iaload, 1) ∧ decode cX5_givePoints 44 = .ok (.invokevirtual 121, 3) ∧ decode cX5_givePoints 47 = .ok (.istore_n 3, 1) ∧ decode cX5_givePoints 48 = .ok (.iload_n 3, 1) ∧ decode cX5_givePoints 49 = .ok (.aload_n 0, 1) ∧ decode cX5_givePoints 50 = .ok (.getfield 15, 3) := by decide +kernel
theorem dX5_givePoints_25 : decode cX5_givePoints 25 = .ok (.iload_n 2, 1) := bdX5_givePoints_25.1
theorem dX5_givePoints_26 : decode cX5_givePoints 26 = .ok (.invokevirtual 117, 3) := bdX5_givePoints_25.2.1
theorem dX5_givePoints_29 : decode cX5_givePoints 29 = .ok (.aload_n 1, 1) := bdX5_givePoints_25.2.2.1
theorem dX5_givePoints_30 : decode cX5_givePoints 30 = .ok (.aload_n 0, 1) := bdX5_givePoints_25.2.2.2.1
theorem dX5_givePoints_31 : decode cX5_givePoints 31 = .ok (.getfield 48, 3) := bdX5_givePoints_25.2.2.2.2.1
theorem dX5_givePoints_34 : decode cX5_givePoints 34 = .ok (.aload_n 0, 1) := bdX5_givePoints_25.2.2.2.2.2.1
theorem dX5_givePoints_35 : decode cX5_givePoints 35 = .ok (.getfield 48, 3) := bdX5_givePoints_25.2.2.2.2.2.2.1
theorem dX5_givePoints_38 : decode cX5_givePoints 38 = .ok (.aload_n 0, 1) := bdX5_givePoints_25.2.2.2.2.2.2.2.1
theorem dX5_givePoints_39 : decode cX5_givePoints 39 = .ok (.getfield 15, 3) := bdX5_givePoints_25.2.2.2.2.2.2.2.2.1
theorem dX5_givePoints_42 : decode cX5_givePoints 42 = .ok (.iconst 5, 1) := bdX5_givePoints_25.2.2.2.2.2.2.2.2.2.1
theorem dX5_givePoints_43 : decode cX5_givePoints 43 = .ok (.iaload, 1) := bdX5_givePoints_25.2.2.2.2.2.2.2.2.2.2.1
theorem dX5_givePoints_44 : decode cX5_givePoints 44 = .ok (.invokevirtual 121, 3) := bdX5_givePoints_25.2.2.2.2.2.2.2.2.2.2.2.1
theorem dX5_givePoints_47 : decode cX5_givePoints 47 = .ok (.istore_n 3, 1) := bdX5_givePoints_25.2.2.2.2.2.2.2.2.2.2.2.2.1
theorem dX5_givePoints_48 : decode cX5_givePoints 48 = .ok (.iload_n 3, 1) := bdX5_givePoints_25.2.2.2.2.2.2.2.2.2.2.2.2.2.1
theorem dX5_givePoints_49 : decode cX5_givePoints 49 = .ok (.aload_n 0, 1) := bdX5_givePoints_25.2.2.2.2.2.2.2.2.2.2.2.2.2.2.1
theorem dX5_givePoints_50 : decode cX5_givePoints 50 = .ok (.getfield 15, 3) := bdX5_givePoints_25.2.2.2.2.2.2.2.2.2.2.2.2.2.2.2
theorem bdX5_givePoints_53 : decode cX5_givePoints 53 = .ok (.iconst 3, 1) ∧ decode cX5_givePoints 54 = .ok (.iaload, 1) ∧ decode cX5_givePoints 55 = .ok (.if_icmp .ge 5, 3) ∧ decode cX5_givePoints 58 = .ok (.iload_n 3, 1) ∧ decode cX5_givePoints 59 = .ok (.ireturn, 1) ∧ decode cX5_givePoints 60 = .ok (.aload_n 1, 1) ∧ decode cX5_givePoints 61 = .ok (.aload_n 0, 1) ∧ decode cX5_givePoints 62 = .ok (.getfield 48, 3) ∧ decode cX5_givePoints 65 = .ok (.aload_n 0, 1) ∧ decode cX5_givePoints 66 = .ok (.getfield 15, 3) ∧ decode cX5_givePoints 69 = .ok (.iconst 4, 1) ∧ decode cX5_givePoints 70 = .ok (.iaload, 1) ∧ decode cX5_givePoints 71 = .ok (.iadd, 1) ∧ decode cX5_givePoints 72 = .ok (.putfield 125, 3) ∧ decode cX5_givePoints 75 = .ok (.aload_n 1, 1) ∧ decode cX5_givePoints 76 = .ok (.invokevirtual 128, 3) := by decide +kernel
theorem dX5_givePoints_53 : decode cX5_givePoints 53 = .ok (.iconst 3, 1) := bdX5_givePoints_53.1
theorem dX5_givePoints_54 : decode cX5_givePoints 54 = .ok (.iaload, 1) := bdX5_givePoints_53.2.1
theorem dX5_givePoints_55 : decode cX5_givePoints 55 = .ok (.if_icmp .ge 5, 3) := bdX5_givePoints_53.2.2.1
theorem dX5_givePoints_58 : decode cX5_givePoints 58 = .ok (.iload_n 3, 1) := bdX5_givePoints_53.2.2.2.1
theorem dX5_givePoints_59 : decode cX5_givePoints 59 = .ok (.ireturn, 1) := bdX5_givePoints_53.2.2.2.2.1
theorem dX5_givePoints_60 : decode cX5_givePoints 60 = .ok (.aload_n 1, 1) := bdX5_givePoints_53.2.2.2.2.2.1
theorem dX5_givePoints_61 : decode cX5_givePoints 61 = .ok (.aload_n 0, 1) := bdX5_givePoints_53.2.2.2.2.2.2.1
theorem dX5_givePoints_62 : decode cX5_givePoints 62 = .ok (.getfield 48, 3) := bdX5_givePoints_53.2.2.2.2.2.2.2.1
theorem dX5_givePoints_65 : decode cX5_givePoints 65 = .ok (.aload_n 0, 1) := bdX5_givePoints_53.2.2.2.2.2.2.2.2.1
theorem dX5_givePoints_66 : decode cX5_givePoints 66 = .ok (.getfield 15, 3) := bdX5_givePoints_53.2.2.2.2.2.2.2.2.2.1
theorem dX5_givePoints_69 : decode cX5_givePoints 69 = .ok (.iconst 4, 1) := bdX5_givePoints_53.2.2.2.2.2.2.2.2.2.2.1
theorem dX5_givePoints_70 : decode cX5_givePoints 70 = .ok (.iaload, 1) := bdX5_givePoints_53.2.2.2.2.2.2.2.2.2.2.2.1
theorem dX5_givePoints_71 : decode cX5_givePoints 71 = .ok (.iadd, 1) := bdX5_givePoints_53.2.2.2.2.2.2.2.2.2.2.2.2.1
theorem dX5_givePoints_72 : decode cX5_givePoints 72 = .ok (.putfield 125, 3) := bdX5_givePoints_53.2.2.2.2.2.2.2.2.2.2.2.2.2.1
theorem dX5_givePoints_75 : decode cX5_givePoints 75 = .ok (.aload_n 1, 1) := bdX5_givePoints_53.2.2.2.2.2.2.2.2.2.2.2.2.2.2.1
theorem dX5_givePoints_76 : decode cX5_givePoints 76 = .ok (.invokevirtual 128, 3) := bdX5_givePoints_53.2.2.2.2.2.2.2.2.2.2.2.2.2.2.2
theorem bdX5_givePoints_79 : decode cX5_givePoints 79 = .ok (.iconst 0, 1) ∧ decode cX5_givePoints 80 = .ok (.ireturn, 1) := by decide +kernel
theorem dX5_givePoints_79 : decode cX5_givePoints 79 = .ok (.iconst 0, 1) := bdX5_givePoints_79.1
theorem dX5_givePoints_80 : decode cX5_givePoints 80 = .ok (.ireturn, 1) := bdX5_givePoints_79.2
theorem bdX5_askCheck_0 : decode cX5_askCheck 0 = .ok (.aload_n 0, 1) ∧ decode cX5_askCheck 1 = .ok (.iload_n 1, 1) ∧ decode cX5_askCheck 2 = .ok (.invokevirtual 97, 3) ∧ decode cX5_askCheck 5 = .ok (.ifCond .ne 5, 3) ∧ decode cX5_askCheck 8 = .ok (.iconst (-1), 1) ∧ decode cX5_askCheck 9 = .ok (.ireturn, 1) ∧ decode cX5_askCheck 10 = .ok (.aload_n 0, 1) ∧ decode cX5_askCheck 11 = .ok (.getfield 27, 3) ∧ decode cX5_askCheck 14 = .ok (.iload_n 1, 1) ∧ decode cX5_askCheck 15 = .ok (.aaload, 1) ∧ decode cX5_askCheck 16 = .ok (.getfield 131, 3) ∧ decode cX5_askCheck 19 = .ok (.ifCond .eq 6, 3) ∧ decode cX5_askCheck 22 = .ok (.bipush (-5), 2) ∧ decode cX5_askCheck 24 = .ok (.ireturn, 1) ∧ decode cX5_askCheck 25 = .ok (.aload_n 0, 1) ∧ decode cX5_askCheck 26 = .ok (.getfield 27, 3) := by decide +kernel
theorem dX5_askCheck_0 : decode cX5_askCheck 0 = .ok (.aload_n 0, 1) := bdX5_askCheck_0.1
theorem dX5_askCheck_1 : decode cX5_askCheck 1 = .ok (.iload_n 1, 1) := bdX5_askCheck_0.2.1
theorem dX5_askCheck_2 : decode cX5_askCheck 2 = .ok (.invokevirtual 97, 3) := bdX5_askCheck_0.2.2.1
theorem dX5_askCheck_5 : decode cX5_askCheck 5 = .ok (.ifCond .ne 5, 3) := bdX5_askCheck_0.2.2.2.1
theorem dX5_askCheck_8 : decode cX5_askCheck 8 = .ok (.iconst (-1), 1) := bdX5_askCheck_0.2.2.2.2.1
theorem dX5_askCheck_9 : decode cX5_askCheck 9 = .ok (.ireturn, 1) := bdX5_askCheck_0.2.2.2.2.2.1
theorem dX5_askCheck_10 : decode cX5_askCheck 10 = .ok (.aload_n 0, 1) := bdX5_askCheck_0.2.2.2.2.2.2.1
theorem dX5_askCheck_11 : decode cX5_askCheck 11 = .ok (.getfield 27, 3) := bdX5_askCheck_0.2.2.2.2.2.2.2.1
theorem dX5_askCheck_14 : decode cX5_askCheck 14 = .ok (.iload_n 1, 1) := bdX5_askCheck_0.2.2.2.2.2.2.2.2.1
theorem dX5_askCheck_15 : decode cX5_askCheck 15 = .ok (.aaload, 1) := bdX5_askCheck_0.2.2.2.2.2.2.2.2.2.1
theorem dX5_askCheck_16 : decode cX5_askCheck 16 = .ok (.getfield 131, 3) := bdX5_askCheck_0.2.2.2.2.2.2.2.2.2.2.1
theorem dX5_askCheck_19 : decode cX5_askCheck 19 = .ok (.ifCond .eq 6, 3) := bdX5_askCheck_0.2.2.2.2.2.2.2.2.2.2.2.1
theorem dX5_askCheck_22 : decode cX5_askCheck 22 = .ok (.bipush (-5), 2) := bdX5_askCheck_0.2.2.2.2.2.2.2.2.2.2.2.2.1
theorem dX5_askCheck_24 : decode cX5_askCheck 24 = .ok (.ireturn, 1) := bdX5_askCheck_0.2.2.2.2.2.2.2.2.2.2.2.2.2.1
theorem dX5_askCheck_25 : decode cX5_askCheck 25 = .ok (.aload_n 0, 1) := bdX5_askCheck_0.2.2.2.2.2.2.2.2.2.2.2.2.2.2.1
theorem dX5_askCheck_26 : decode cX5_askCheck 26 = .ok (.getfield 27, 3) := bdX5_askCheck_0.2.2.2.2.2.2.2.2.2.2.2.2.2.2.2
theorem bdX5_askCheck_29 : decode cX5_askCheck 29 = .ok (.iload_n 1, 1) ∧ decode cX5_askCheck 30 = .ok (.aaload, 1) ∧ decode cX5_askCheck 31 = .ok (.iconst 1, 1) ∧ decode cX5_askCheck 32 = .ok (.putfield 131, 3) ∧ decode cX5_askCheck 35 = .ok (.aload_n 0, 1) ∧ decode cX5_askCheck 36 = .ok (.invokevirtual 135, 3) ∧ decode cX5_askCheck 39 = .ok (.ireturn, 1) := by decide +kernel
theorem dX5_askCheck_29 : decode cX5_askCheck 29 = .ok (.iload_n 1, 1) := bdX5_askCheck_29.1
theorem dX5_askCheck_30 : decode cX5_askCheck 30 = .ok (.aaload, 1) := bdX5_askCheck_29.2.1
theorem dX5_askCheck_31 : decode cX5_askCheck 31 = .ok (.iconst 1, 1) := bdX5_askCheck_29.2.2.1
theorem dX5_askCheck_32 : decode cX5_askCheck 32 = .ok (.putfield 131, 3) := bdX5_askCheck_29.2.2.2.1
theorem dX5_askCheck_35 : decode cX5_askCheck 35 = .ok (.aload_n 0, 1) := bdX5_askCheck_29.2.2.2.2.1
theorem dX5_askCheck_36 : decode cX5_askCheck 36 = .ok (.invokevirtual 135, 3) := bdX5_askCheck_29.2.2.2.2.2.1
theorem dX5_askCheck_39 : decode cX5_askCheck 39 = .ok (.ireturn, 1) := bdX5_askCheck_29.2.2.2.2.2.2
theorem bdX5_askSwap_0 : decode cX5_askSwap 0 = .ok (.aload_n 0, 1) ∧ decode cX5_askSwap 1 = .ok (.iload_n 1, 1) ∧ decode cX5_askSwap 2 = .ok (.invokevirtual 97, 3) ∧ decode cX5_askSwap 5 = .ok (.ifCond .eq 16, 3) ∧ decode cX5_askSwap 8 = .ok (.aload_n 0, 1) ∧ decode cX5_askSwap 9 = .ok (.iload_n 2, 1) ∧ decode cX5_askSwap 10 = .ok (.invokevirtual 97, 3) ∧ decode cX5_askSwap 13 = .ok (.ifCond .eq 8, 3) ∧ decode cX5_askSwap 16 = .ok (.iload_n 1, 1) ∧ decode cX5_askSwap 17 = .ok (.iload_n 2, 1) ∧ decode cX5_askSwap 18 = .ok (.if_icmp .ne 5, 3) ∧ decode cX5_askSwap 21 = .ok (.iconst (-1), 1) ∧ decode cX5_askSwap 22 = .ok (.ireturn, 1) ∧ decode cX5_askSwap 23 = .ok (.aload_n 0, 1) ∧ decode cX5_askSwap 24 = .ok (.getfield 57, 3) ∧ decode cX5_askSwap 27 = .ok (.bipush 8, 2) := by decide +kernel
theorem dX5_askSwap_0 : decode cX5_askSwap 0 = .ok (.aload_n 0, 1) := bdX5_askSwap_0.1
theorem dX5_askSwap_1 : decode cX5_askSwap 1 = .ok (.iload_n 1, 1) := bdX5_askSwap_0.2.1
theorem dX5_askSwap_2 : decode cX5_askSwap 2 = .ok (.invokevirtual 97, 3) := bdX5_askSwap_0.2.2.1
theorem dX5_askSwap_5 : decode cX5_askSwap 5 = .ok (.ifCond .eq 16, 3) := bdX5_askSwap_0.2.2.2.1
theorem dX5_askSwap_8 : decode cX5_askSwap 8 = .ok (.aload_n 0, 1) := bdX5_askSwap_0.2.2.2.2.1
theorem dX5_askSwap_9 : decode cX5_askSwap 9 = .ok (.iload_n 2, 1) := bdX5_askSwap_0.2.2.2.2.2.1
theorem dX5_askSwap_10 : decode cX5_askSwap 10 = .ok (.invokevirtual 97, 3) := bdX5_askSwap_0.2.2.2.2.2.2.1
theorem dX5_askSwap_13 : decode cX5_askSwap 13 = .ok (.ifCond .eq 8, 3) := bdX5_askSwap_0.2.2.2.2.2.2.2.1
theorem dX5_askSwap_16 : decode cX5_askSwap 16 = .ok (.iload_n 1, 1) := bdX5_askSwap_0.2.2.2.2.2.2.2.2.1
theorem dX5_askSwap_17 : decode cX5_askSwap 17 = .ok (.iload_n 2, 1) := bdX5_askSwap_0.2.2.2.2.2.2.2.2.2.1
theorem dX5_askSwap_18 : decode cX5_askSwap 18 = .ok (.if_icmp .ne 5, 3) := bdX5_askSwap_0.2.2.2.2.2.2.2.2.2.2.1
theorem dX5_askSwap_21 : decode cX5_askSwap 21 = .ok (.iconst (-1), 1) := bdX5_askSwap_0.2.2.2.2.2.2.2.2.2.2.2.1
theorem dX5_askSwap_22 : decode cX5_askSwap 22 = .ok (.ireturn, 1) := bdX5_askSwap_0.2.2.2.2.2.2.2.2.2.2.2.2.1
theorem dX5_askSwap_23 : decode cX5_askSwap 23 = .ok (.aload_n 0, 1) := bdX5_askSwap_0.2.2.2.2.2.2.2.2.2.2.2.2.2.1
theorem dX5_askSwap_24 : decode cX5_askSwap 24 = .ok (.getfield 57, 3) := bdX5_askSwap_0.2.2.2.2.2.2.2.2.2.2.2.2.2.2.1
theorem dX5_askSwap_27 : decode cX5_askSwap 27 = .ok (.bipush 8, 2) := bdX5_askSwap_0.2.2.2.2.2.2.2.2.2.2.2.2.2.2.2
theorem bdX5_askSwap_29 : decode cX5_askSwap 29 = .ok (.if_icmp .lt 6, 3) ∧ decode cX5_askSwap 32 = .ok (.bipush (-4), 2) ∧ decode cX5_askSwap 34 = .ok (.ireturn, 1) ∧ decode cX5_askSwap 35 = .ok (.aload_n 0, 1) ∧ decode cX5_askSwap 36 = .ok (.getfield 31, 3) ∧ decode cX5_askSwap 39 = .ok (.aload_n 0, 1) ∧ decode cX5_askSwap 40 = .ok (.getfield 57, 3) ∧ decode cX5_askSwap 43 = .ok (.iload_n 1, 1) ∧ decode cX5_askSwap 44 = .ok (.iastore, 1) ∧ decode cX5_askSwap 45 = .ok (.aload_n 0, 1) ∧ decode cX5_askSwap 46 = .ok (.getfield 34, 3) ∧ decode cX5_askSwap 49 = .ok (.aload_n 0, 1) ∧ decode cX5_askSwap 50 = .ok (.getfield 57, 3) ∧ decode cX5_askSwap 53 = .ok (.iload_n 2, 1) ∧ decode cX5_askSwap 54 = .ok (.iastore, 1) ∧ decode cX5_askSwap 55 = .ok (.aload_n 0, 1) := by decide +kernel
theorem dX5_askSwap_29 : decode cX5_askSwap 29 = .ok (.if_icmp .lt 6, 3) := bdX5_askSwap_29.1
theorem dX5_askSwap_32 : decode cX5_askSwap 32 = .ok (.bipush (-4), 2) := bdX5_askSwap_29.2.1
theorem dX5_askSwap_34 : decode cX5_askSwap 34 = .ok (.ireturn, 1) := bdX5_askSwap_29.2.2.1
theorem dX5_askSwap_35 : decode cX5_askSwap 35 = .ok (.aload_n 0, 1) := bdX5_askSwap_29.2.2.2.1
theorem dX5_askSwap_36 : decode cX5_askSwap 36 = .ok (.getfield 31, 3) := bdX5_askSwap_29.2.2.2.2.1
theorem dX5_askSwap_39 : decode cX5_askSwap 39 = .ok (.aload_n 0, 1) := bdX5_askSwap_29.2.2.2.2.2.1
theorem dX5_askSwap_40 : decode cX5_askSwap 40 = .ok (.getfield 57, 3) := bdX5_askSwap_29.2.2.2.2.2.2.1
theorem dX5_askSwap_43 : decode cX5_askSwap 43 = .ok (.iload_n 1, 1) := bdX5_askSwap_29.2.2.2.2.2.2.2.1
theorem dX5_askSwap_44 : decode cX5_askSwap 44 = .ok (.iastore, 1) := bdX5_askSwap_29.2.2.2.2.2.2.2.2.1
theorem dX5_askSwap_45 : decode cX5_askSwap 45 = .ok (.aload_n 0, 1) := bdX5_askSwap_29.2.2.2.2.2.2.2.2.2.1
theorem dX5_askSwap_46 : decode cX5_askSwap 46 = .ok (.getfield 34, 3) := bdX5_askSwap_29.2.2.2.2.2.2.2.2.2.2.1
theorem dX5_askSwap_49 : decode cX5_askSwap 49 = .ok (.aload_n 0, 1) := bdX5_askSwap_29.2.2.2.2.2.2.2.2.2.2.2.1
theorem dX5_askSwap_50 : decode cX5_askSwap 50 = .ok (.getfield 57, 3) := bdX5_askSwap_29.2.2.2.2.2.2.2.2.2.2.2.2.1
theorem dX5_askSwap_53 : decode cX5_askSwap 53 = .ok (.iload_n 2, 1) := bdX5_askSwap_29.2.2.2.2.2.2.2.2.2.2.2.2.2.1
theorem dX5_askSwap_54 : decode cX5_askSwap 54 = .ok (.iastore, 1) := bdX5_askSwap_29.2.2.2.2.2.2.2.2.2.2.2.2.2.2.1
theorem dX5_askSwap_55 : decode cX5_askSwap 55 = .ok (.aload_n 0, 1) := bdX5_askSwap_29.2.2.2.2.2.2.2.2.2.2.2.2.2.2.2
theorem bdX5_askSwap_56 : decode cX5_askSwap 56 = .ok (.dup, 1) ∧ decode cX5_askSwap 57 = .ok (.getfield 57, 3) ∧ decode cX5_askSwap 60 = .ok (.iconst 1, 1) ∧ decode cX5_askSwap 61 = .ok (.iadd, 1) ∧ decode cX5_askSwap 62 = .ok (.putfield 57, 3) ∧ decode cX5_askSwap 65 = .ok (.aload_n 0, 1) ∧ decode cX5_askSwap 66 = .ok (.getfield 57, 3) ∧ decode cX5_askSwap 69 = .ok (.ireturn, 1) := by decide +kernel
theorem dX5_askSwap_56 : decode cX5_askSwap 56 = .ok (.dup, 1) := bdX5_askSwap_56.1
theorem dX5_askSwap_57 : decode cX5_askSwap 57 = .ok (.getfield 57, 3) := bdX5_askSwap_56.2.1
theorem dX5_askSwap_60 : decode cX5_askSwap 60 = .ok (.iconst 1, 1) := bdX5_askSwap_56.2.2.1
theorem dX5_askSwap_61 : decode cX5_askSwap 61 = .ok (.iadd, 1) := bdX5_askSwap_56.2.2.2.1
theorem dX5_askSwap_62 : decode cX5_askSwap 62 = .ok (.putfield 57, 3) := bdX5_askSwap_56.2.2.2.2.1
theorem dX5_askSwap_65 : decode cX5_askSwap 65 = .ok (.aload_n 0, 1) := bdX5_askSwap_56.2.2.2.2.2.1
theorem dX5_askSwap_66 : decode cX5_askSwap 66 = .ok (.getfield 57, 3) := bdX5_askSwap_56.2.2.2.2.2.2.1
theorem dX5_askSwap_69 : decode cX5_askSwap 69 = .ok (.ireturn, 1) := bdX5_askSwap_56.2.2.2.2.2.2.2
theorem bdX5_takeMoney_0 : decode cX5_takeMoney 0 = .ok (.aload_n 0, 1) ∧ decode cX5_takeMoney 1 = .ok (.iload_n 1, 1) ∧ decode cX5_takeMoney 2 = .ok (.invokevirtual 97, 3) ∧ decode cX5_takeMoney 5 = .ok (.ifCond .ne 5, 3) ∧ decode cX5_takeMoney 8 = .ok (.iconst (-1), 1) ∧ decode cX5_takeMoney 9 = .ok (.ireturn, 1) ∧ decode cX5_takeMoney 10 = .ok (.iload_n 2, 1) ∧ decode cX5_takeMoney 11 = .ok (.iconst 1, 1) ∧ decode cX5_takeMoney 12 = .ok (.if_icmp .lt 9, 3) ∧ decode cX5_takeMoney 15 = .ok (.iload_n 2, 1) ∧ decode cX5_takeMoney 16 = .ok (.ldc 139, 2) ∧ decode cX5_takeMoney 18 = .ok (.if_icmp .le 6, 3) ∧ decode cX5_takeMoney 21 = .ok (.bipush (-2), 2) ∧ decode cX5_takeMoney 23 = .ok (.ireturn, 1) ∧ decode cX5_takeMoney 24 = .ok (.aload_n 0, 1) ∧ decode cX5_takeMoney 25 = .ok (.getfield 27, 3) := by decide +kernel
theorem dX5_takeMoney_0 : decode cX5_takeMoney 0 = .ok (.aload_n 0, 1) := bdX5_takeMoney_0.1
theorem dX5_takeMoney_1 : decode cX5_takeMoney 1 = .ok (.iload_n 1, 1) := bdX5_takeMoney_0.2.1
theorem dX5_takeMoney_2 : decode cX5_takeMoney 2 = .ok (.invokevirtual 97, 3) := bdX5_takeMoney_0.2.2.1
theorem dX5_takeMoney_5 : decode cX5_takeMoney 5 = .ok (.ifCond .ne 5, 3) := bdX5_takeMoney_0.2.2.2.1
theorem dX5_takeMoney_8 : decode cX5_takeMoney 8 = .ok (.iconst (-1), 1) := bdX5_takeMoney_0.2.2.2.2.1
theorem dX5_takeMoney_9 : decode cX5_takeMoney 9 = .ok (.ireturn, 1) := bdX5_takeMoney_0.2.2.2.2.2.1
theorem dX5_takeMoney_10 : decode cX5_takeMoney 10 = .ok (.iload_n 2, 1) := bdX5_takeMoney_0.2.2.2.2.2.2.1
theorem dX5_takeMoney_11 : decode cX5_takeMoney 11 = .ok (.iconst 1, 1) := bdX5_takeMoney_0.2.2.2.2.2.2.2.1
theorem dX5_takeMoney_12 : decode cX5_takeMoney 12 = .ok (.if_icmp .lt 9, 3) := bdX5_takeMoney_0.2.2.2.2.2.2.2.2.1
theorem dX5_takeMoney_15 : decode cX5_takeMoney 15 = .ok (.iload_n 2, 1) := bdX5_takeMoney_0.2.2.2.2.2.2.2.2.2.1
theorem dX5_takeMoney_16 : decode cX5_takeMoney 16 = .ok (.ldc 139, 2) := bdX5_takeMoney_0.2.2.2.2.2.2.2.2.2.2.1
theorem dX5_takeMoney_18 : decode cX5_takeMoney 18 = .ok (.if_icmp .le 6, 3) := bdX5_takeMoney_0.2.2.2.2.2.2.2.2.2.2.2.1
theorem dX5_takeMoney_21 : decode cX5_takeMoney 21 = .ok (.bipush (-2), 2) := bdX5_takeMoney_0.2.2.2.2.2.2.2.2.2.2.2.2.1
theorem dX5_takeMoney_23 : decode cX5_takeMoney 23 = .ok (.ireturn, 1) := bdX5_takeMoney_0.2.2.2.2.2.2.2.2.2.2.2.2.2.1
theorem dX5_takeMoney_24 : decode cX5_takeMoney 24 = .ok (.aload_n 0, 1) := bdX5_takeMoney_0.2.2.2.2.2.2.2.2.2.2.2.2.2.2.1
theorem dX5_takeMoney_25 : decode cX5_takeMoney 25 = .ok (.getfield 27, 3) := bdX5_takeMoney_0.2.2.2.2.2.2.2.2.2.2.2.2.2.2.2
theorem bdX5_takeMoney_28 : decode cX5_takeMoney 28 = .ok (.iload_n 1, 1) ∧ decode cX5_takeMoney 29 = .ok (.aaload, 1) ∧ decode cX5_takeMoney 30 = .ok (.dup, 1) ∧ decode cX5_takeMoney 31 = .ok (.getfield 140, 3) ∧ decode cX5_takeMoney 34 = .ok (.iload_n 2, 1) ∧ decode cX5_takeMoney 35 = .ok (.i2l, 1) ∧ decode cX5_takeMoney 36 = .ok (.ladd, 1) ∧ decode cX5_takeMoney 37 = .ok (.putfield 140, 3) ∧ decode cX5_takeMoney 40 = .ok (.aload_n 0, 1) ∧ decode cX5_takeMoney 41 = .ok (.getfield 27, 3) ∧ decode cX5_takeMoney 44 = .ok (.iload_n 1, 1) ∧ decode cX5_takeMoney 45 = .ok (.aaload, 1) ∧ decode cX5_takeMoney 46 = .ok (.invokevirtual 143, 3) ∧ decode cX5_takeMoney 49 = .ok (.lconst 0, 1) ∧ decode cX5_takeMoney 50 = .ok (.lcmp, 1) ∧ decode cX5_takeMoney 51 = .ok (.ifCond .lt 7, 3) := by decide +kernel
theorem dX5_takeMoney_28 : decode cX5_takeMoney 28 = .ok (.iload_n 1, 1) := bdX5_takeMoney_28.1
theorem dX5_takeMoney_29 : decode cX5_takeMoney 29 = .ok (.aaload, 1) := bdX5_takeMoney_28.2.1
theorem dX5_takeMoney_30 : decode cX5_takeMoney 30 = .ok (.dup, 1) := bdX5_takeMoney_28.2.2.1
theorem dX5_takeMoney_31 : decode cX5_takeMoney 31 = .ok (.getfield 140, 3) := bdX5_takeMoney_28.2.2.2.1
theorem dX5_takeMoney_34 : decode cX5_takeMoney 34 = .ok (.iload_n 2, 1) := bdX5_takeMoney_28.2.2.2.2.1
theorem dX5_takeMoney_35 : decode cX5_takeMoney 35 = .ok (.i2l, 1) := bdX5_takeMoney_28.2.2.2.2.2.1
theorem dX5_takeMoney_36 : decode cX5_takeMoney 36 = .ok (.ladd, 1) := bdX5_takeMoney_28.2.2.2.2.2.2.1
theorem dX5_takeMoney_37 : decode cX5_takeMoney 37 = .ok (.putfield 140, 3) := bdX5_takeMoney_28.2.2.2.2.2.2.2.1
theorem dX5_takeMoney_40 : decode cX5_takeMoney 40 = .ok (.aload_n 0, 1) := bdX5_takeMoney_28.2.2.2.2.2.2.2.2.1
theorem dX5_takeMoney_41 : decode cX5_takeMoney 41 = .ok (.getfield 27, 3) := bdX5_takeMoney_28.2.2.2.2.2.2.2.2.2.1
theorem dX5_takeMoney_44 : decode cX5_takeMoney 44 = .ok (.iload_n 1, 1) := bdX5_takeMoney_28.2.2.2.2.2.2.2.2.2.2.1
theorem dX5_takeMoney_45 : decode cX5_takeMoney 45 = .ok (.aaload, 1) := bdX5_takeMoney_28.2.2.2.2.2.2.2.2.2.2.2.1
theorem dX5_takeMoney_46 : decode cX5_takeMoney 46 = .ok (.invokevirtual 143, 3) := bdX5_takeMoney_28.2.2.2.2.2.2.2.2.2.2.2.2.1
theorem dX5_takeMoney_49 : decode cX5_takeMoney 49 = .ok (.lconst 0, 1) := bdX5_takeMoney_28.2.2.2.2.2.2.2.2.2.2.2.2.2.1
theorem dX5_takeMoney_50 : decode cX5_takeMoney 50 = .ok (.lcmp, 1) := bdX5_takeMoney_28.2.2.2.2.2.2.2.2.2.2.2.2.2.2.1
theorem dX5_takeMoney_51 : decode cX5_takeMoney 51 = .ok (.ifCond .lt 7, 3) := bdX5_takeMoney_28.2.2.2.2.2.2.2.2.2.2.2.2.2.2.2
theorem bdX5_takeMoney_54 : decode cX5_takeMoney 54 = .ok (.iconst 1, 1) ∧ decode cX5_takeMoney 55 = .ok (.goto 4, 3) ∧ decode cX5_takeMoney 58 = .ok (.iconst 0, 1) ∧ decode cX5_takeMoney 59 = .ok (.ireturn, 1) := by decide +kernel
theorem dX5_takeMoney_54 : decode cX5_takeMoney 54 = .ok (.iconst 1, 1) := bdX5_takeMoney_54.1
theorem dX5_takeMoney_55 : decode cX5_takeMoney 55 = .ok (.goto 4, 3) := bdX5_takeMoney_54.2.1
theorem dX5_takeMoney_58 : decode cX5_takeMoney 58 = .ok (.iconst 0, 1) := bdX5_takeMoney_54.2.2.1
theorem dX5_takeMoney_59 : decode cX5_takeMoney 59 = .ok (.ireturn, 1) := bdX5_takeMoney_54.2.2.2
theorem bdX5_passDays_0 : decode cX5_passDays 0 = .ok (.iload_n 1, 1) ∧ decode cX5_passDays 1 = .ok (.iconst 1, 1) ∧ decode cX5_passDays 2 = .ok (.if_icmp .lt 9, 3) ∧ decode cX5_passDays 5 = .ok (.iload_n 1, 1) ∧ decode cX5_passDays 6 = .ok (.bipush 60, 2) ∧ decode cX5_passDays 8 = .ok (.if_icmp .le 6, 3) ∧ decode cX5_passDays 11 = .ok (.bipush (-2), 2) ∧ decode cX5_passDays 13 = .ok (.ireturn, 1) ∧ decode cX5_passDays 14 = .ok (.iconst 0, 1) ∧ decode cX5_passDays 15 = .ok (.istore_n 2, 1) ∧ decode cX5_passDays 16 = .ok (.iload_n 2, 1) ∧ decode cX5_passDays 17 = .ok (.iload_n 1, 1) ∧ decode cX5_passDays 18 = .ok (.if_icmp .ge 37, 3) ∧ decode cX5_passDays 21 = .ok (.aload_n 0, 1) ∧ decode cX5_passDays 22 = .ok (.invokestatic 147, 3) ∧ decode cX5_passDays 25 = .ok (.aload_n 0, 1) := by decide +kernel
theorem dX5_passDays_0 : decode cX5_passDays 0 = .ok (.iload_n 1, 1) := bdX5_passDays_0.1
theorem dX5_passDays_1 : decode cX5_passDays 1 = .ok (.iconst 1, 1) := bdX5_passDays_0.2.1
theorem dX5_passDays_2 : decode cX5_passDays 2 = .ok (.if_icmp .lt 9, 3) := bdX5_passDays_0.2.2.1
theorem dX5_passDays_5 : decode cX5_passDays 5 = .ok (.iload_n 1, 1) := bdX5_passDays_0.2.2.2.1
theorem dX5_passDays_6 : decode cX5_passDays 6 = .ok (.bipush 60, 2) := bdX5_passDays_0.2.2.2.2.1
theorem dX5_passDays_8 : decode cX5_passDays 8 = .ok (.if_icmp .le 6, 3) := bdX5_passDays_0.2.2.2.2.2.1
theorem dX5_passDays_11 : decode cX5_passDays 11 = .ok (.bipush (-2), 2) := bdX5_passDays_0.2.2.2.2.2.2.1
theorem dX5_passDays_13 : decode cX5_passDays 13 = .ok (.ireturn, 1) := bdX5_passDays_0.2.2.2.2.2.2.2.1
theorem dX5_passDays_14 : decode cX5_passDays 14 = .ok (.iconst 0, 1) := bdX5_passDays_0.2.2.2.2.2.2.2.2.1
theorem dX5_passDays_15 : decode cX5_passDays 15 = .ok (.istore_n 2, 1) := bdX5_passDays_0.2.2.2.2.2.2.2.2.2.1
theorem dX5_passDays_16 : decode cX5_passDays 16 = .ok (.iload_n 2, 1) := bdX5_passDays_0.2.2.2.2.2.2.2.2.2.2.1
theorem dX5_passDays_17 : decode cX5_passDays 17 = .ok (.iload_n 1, 1) := bdX5_passDays_0.2.2.2.2.2.2.2.2.2.2.2.1
theorem dX5_passDays_18 : decode cX5_passDays 18 = .ok (.if_icmp .ge 37, 3) := bdX5_passDays_0.2.2.2.2.2.2.2.2.2.2.2.2.1
theorem dX5_passDays_21 : decode cX5_passDays 21 = .ok (.aload_n 0, 1) := bdX5_passDays_0.2.2.2.2.2.2.2.2.2.2.2.2.2.1
theorem dX5_passDays_22 : decode cX5_passDays 22 = .ok (.invokestatic 147, 3) := bdX5_passDays_0.2.2.2.2.2.2.2.2.2.2.2.2.2.2.1
theorem dX5_passDays_25 : decode cX5_passDays 25 = .ok (.aload_n 0, 1) := bdX5_passDays_0.2.2.2.2.2.2.2.2.2.2.2.2.2.2.2
theorem bdX5_passDays_26 : decode cX5_passDays 26 = .ok (.invokestatic 153, 3) ∧ decode cX5_passDays 29 = .ok (.aload_n 0, 1) ∧ decode cX5_passDays 30 = .ok (.invokestatic 156, 3) ∧ decode cX5_passDays 33 = .ok (.aload_n 0, 1) ∧ decode cX5_passDays 34 = .ok (.invokestatic 159, 3) ∧ decode cX5_passDays 37 = .ok (.aload_n 0, 1) ∧ decode cX5_passDays 38 = .ok (.invokestatic 162, 3) ∧ decode cX5_passDays 41 = .ok (.aload_n 0, 1) ∧ decode cX5_passDays 42 = .ok (.invokestatic 165, 3) ∧ decode cX5_passDays 45 = .ok (.aload_n 0, 1) ∧ decode cX5_passDays 46 = .ok (.invokevirtual 168, 3) ∧ decode cX5_passDays 49 = .ok (.iinc 2 1, 3) ∧ decode cX5_passDays 52 = .ok (.goto (-36), 3) ∧ decode cX5_passDays 55 = .ok (.aload_n 0, 1) ∧ decode cX5_passDays 56 = .ok (.getfield 48, 3) ∧ decode cX5_passDays 59 = .ok (.ireturn, 1) := by decide +kernel
theorem dX5_passDays_26 : decode cX5_passDays 26 = .ok (.invokestatic 153, 3) := bdX5_passDays_26.1
theorem dX5_passDays_29 : decode cX5_passDays 29 = .ok (.aload_n 0, 1) := bdX5_passDays_26.2.1
theorem dX5_passDays_30 : decode cX5_passDays 30 = .ok (.invokestatic 156, 3) := bdX5_passDays_26.2.2.1
theorem dX5_passDays_33 : decode cX5_passDays 33 = .ok (.aload_n 0, 1) := bdX5_passDays_26.2.2.2.1
theorem dX5_passDays_34 : decode cX5_passDays 34 = .ok (.invokestatic 159, 3) := bdX5_passDays_26.2.2.2.2.1
theorem dX5_passDays_37 : decode cX5_passDays 37 = .ok (.aload_n 0, 1) := bdX5_passDays_26.2.2.2.2.2.1
theorem dX5_passDays_38 : decode cX5_passDays 38 = .ok (.invokestatic 162, 3) := bdX5_passDays_26.2.2.2.2.2.2.1
theorem dX5_passDays_41 : decode cX5_passDays 41 = .ok (.aload_n 0, 1) := bdX5_passDays_26.2.2.2.2.2.2.2.1
theorem dX5_passDays_42 : decode cX5_passDays 42 = .ok (.invokestatic 165, 3) := bdX5_passDays_26.2.2.2.2.2.2.2.2.1
theorem dX5_passDays_45 : decode cX5_passDays 45 = .ok (.aload_n 0, 1) := bdX5_passDays_26.2.2.2.2.2.2.2.2.2.1
theorem dX5_passDays_46 : decode cX5_passDays 46 = .ok (.invokevirtual 168, 3) := bdX5_passDays_26.2.2.2.2.2.2.2.2.2.2.1
theorem dX5_passDays_49 : decode cX5_passDays 49 = .ok (.iinc 2 1, 3) := bdX5_passDays_26.2.2.2.2.2.2.2.2.2.2.2.1
theorem dX5_passDays_52 : decode cX5_passDays 52 = .ok (.goto (-36), 3) := bdX5_passDays_26.2.2.2.2.2.2.2.2.2.2.2.2.1
theorem dX5_passDays_55 : decode cX5_passDays 55 = .ok (.aload_n 0, 1) := bdX5_passDays_26.2.2.2.2.2.2.2.2.2.2.2.2.2.1
theorem dX5_passDays_56 : decode cX5_passDays 56 = .ok (.getfield 48, 3) := bdX5_passDays_26.2.2.2.2.2.2.2.2.2.2.2.2.2.2.1
theorem dX5_passDays_59 : decode cX5_passDays 59 = .ok (.ireturn, 1) := bdX5_passDays_26.2.2.2.2.2.2.2.2.2.2.2.2.2.2.2
theorem bdX5_beginNextDay_0 : decode cX5_beginNextDay 0 = .ok (.aload_n 0, 1) ∧ decode cX5_beginNextDay 1 = .ok (.dup, 1) ∧ decode cX5_beginNextDay 2 = .ok (.getfield 48, 3) ∧ decode cX5_beginNextDay 5 = .ok (.iconst 1, 1) ∧ decode cX5_beginNextDay 6 = .ok (.iadd, 1) ∧ decode cX5_beginNextDay 7 = .ok (.putfield 48, 3) ∧ decode cX5_beginNextDay 10 = .ok (.iconst 0, 1) ∧ decode cX5_beginNextDay 11 = .ok (.istore_n 1, 1) ∧ decode cX5_beginNextDay 12 = .ok (.iload_n 1, 1) ∧ decode cX5_beginNextDay 13 = .ok (.aload_n 0, 1) ∧ decode cX5_beginNextDay 14 = .ok (.getfield 54, 3) ∧ decode cX5_beginNextDay 17 = .ok (.if_icmp .ge 22, 3) ∧ decode cX5_beginNextDay 20 = .ok (.aload_n 0, 1) ∧ decode cX5_beginNextDay 21 = .ok (.getfield 27, 3) ∧ decode cX5_beginNextDay 24 = .ok (.iload_n 1, 1) ∧ decode cX5_beginNextDay 25 = .ok (.aaload, 1) := by decide +kernel
theorem dX5_beginNextDay_0 : decode cX5_beginNextDay 0 = .ok (.aload_n 0, 1) := bdX5_beginNextDay_0.1
theorem dX5_beginNextDay_1 : decode cX5_beginNextDay 1 = .ok (.dup, 1) := bdX5_beginNextDay_0.2.1
theorem dX5_beginNextDay_2 : decode cX5_beginNextDay 2 = .ok (.getfield 48, 3) := bdX5_beginNextDay_0.2.2.1
theorem dX5_beginNextDay_5 : decode cX5_beginNextDay 5 = .ok (.iconst 1, 1) := bdX5_beginNextDay_0.2.2.2.1
theorem dX5_beginNextDay_6 : decode cX5_beginNextDay 6 = .ok (.iadd, 1) := bdX5_beginNextDay_0.2.2.2.2.1
theorem dX5_beginNextDay_7 : decode cX5_beginNextDay 7 = .ok (.putfield 48, 3) := bdX5_beginNextDay_0.2.2.2.2.2.1
theorem dX5_beginNextDay_10 : decode cX5_beginNextDay 10 = .ok (.iconst 0, 1) := bdX5_beginNextDay_0.2.2.2.2.2.2.1
theorem dX5_beginNextDay_11 : decode cX5_beginNextDay 11 = .ok (.istore_n 1, 1) := bdX5_beginNextDay_0.2.2.2.2.2.2.2.1
theorem dX5_beginNextDay_12 : decode cX5_beginNextDay 12 = .ok (.iload_n 1, 1) := bdX5_beginNextDay_0.2.2.2.2.2.2.2.2.1
theorem dX5_beginNextDay_13 : decode cX5_beginNextDay 13 = .ok (.aload_n 0, 1) := bdX5_beginNextDay_0.2.2.2.2.2.2.2.2.2.1
theorem dX5_beginNextDay_14 : decode cX5_beginNextDay 14 = .ok (.getfield 54, 3) := bdX5_beginNextDay_0.2.2.2.2.2.2.2.2.2.2.1
theorem dX5_beginNextDay_17 : decode cX5_beginNextDay 17 = .ok (.if_icmp .ge 22, 3) := bdX5_beginNextDay_0.2.2.2.2.2.2.2.2.2.2.2.1
theorem dX5_beginNextDay_20 : decode cX5_beginNextDay 20 = .ok (.aload_n 0, 1) := bdX5_beginNextDay_0.2.2.2.2.2.2.2.2.2.2.2.2.1
theorem dX5_beginNextDay_21 : decode cX5_beginNextDay 21 = .ok (.getfield 27, 3) := bdX5_beginNextDay_0.2.2.2.2.2.2.2.2.2.2.2.2.2.1
theorem dX5_beginNextDay_24 : decode cX5_beginNextDay 24 = .ok (.iload_n 1, 1) := bdX5_beginNextDay_0.2.2.2.2.2.2.2.2.2.2.2.2.2.2.1
theorem dX5_beginNextDay_25 : decode cX5_beginNextDay 25 = .ok (.aaload, 1) := bdX5_beginNextDay_0.2.2.2.2.2.2.2.2.2.2.2.2.2.2.2
theorem bdX5_beginNextDay_26 : decode cX5_beginNextDay 26 = .ok (.aload_n 0, 1) ∧ decode cX5_beginNextDay 27 = .ok (.getfield 48, 3) ∧ decode cX5_beginNextDay 30 = .ok (.invokevirtual 171, 3) ∧ decode cX5_beginNextDay 33 = .ok (.iinc 1 1, 3) ∧ decode cX5_beginNextDay 36 = .ok (.goto (-24), 3) ∧ decode cX5_beginNextDay 39 = .ok (.return_, 1) := by decide +kernel
theorem dX5_beginNextDay_26 : decode cX5_beginNextDay 26 = .ok (.aload_n 0, 1) := bdX5_beginNextDay_26.1
theorem dX5_beginNextDay_27 : decode cX5_beginNextDay 27 = .ok (.getfield 48, 3) := bdX5_beginNextDay_26.2.1
theorem dX5_beginNextDay_30 : decode cX5_beginNextDay 30 = .ok (.invokevirtual 171, 3) := bdX5_beginNextDay_26.2.2.1
theorem dX5_beginNextDay_33 : decode cX5_beginNextDay 33 = .ok (.iinc 1 1, 3) := bdX5_beginNextDay_26.2.2.2.1
theorem dX5_beginNextDay_36 : decode cX5_beginNextDay 36 = .ok (.goto (-24), 3) := bdX5_beginNextDay_26.2.2.2.2.1
theorem dX5_beginNextDay_39 : decode cX5_beginNextDay 39 = .ok (.return_, 1) := bdX5_beginNextDay_26.2.2.2.2.2
theorem bdX5_countWaiting_0 : decode cX5_countWaiting 0 = .ok (.iconst 0, 1) ∧ decode cX5_countWaiting 1 = .ok (.istore_n 1, 1) ∧ decode cX5_countWaiting 2 = .ok (.iconst 0, 1) ∧ decode cX5_countWaiting 3 = .ok (.istore_n 2, 1) ∧ decode cX5_countWaiting 4 = .ok (.iload_n 2, 1) ∧ decode cX5_countWaiting 5 = .ok (.aload_n 0, 1) ∧ decode cX5_countWaiting 6 = .ok (.getfield 54, 3) ∧ decode cX5_countWaiting 9 = .ok (.if_icmp .ge 24, 3) ∧ decode cX5_countWaiting 12 = .ok (.aload_n 0, 1) ∧ decode cX5_countWaiting 13 = .ok (.getfield 27, 3) ∧ decode cX5_countWaiting 16 = .ok (.iload_n 2, 1) ∧ decode cX5_countWaiting 17 = .ok (.aaload, 1) ∧ decode cX5_countWaiting 18 = .ok (.getfield 131, 3) ∧ decode cX5_countWaiting 21 = .ok (.ifCond .eq 6, 3) ∧ decode cX5_countWaiting 24 = .ok (.iinc 1 1, 3) ∧ decode cX5_countWaiting 27 = .ok (.iinc 2 1, 3) := by decide +kernel
theorem dX5_countWaiting_0 : decode cX5_countWaiting 0 = .ok (.iconst 0, 1) := bdX5_countWaiting_0.1
theorem dX5_countWaiting_1 : decode cX5_countWaiting 1 = .ok (.istore_n 1, 1) := bdX5_countWaiting_0.2.1
theorem dX5_countWaiting_2 : decode cX5_countWaiting 2 = .ok (.iconst 0, 1) := bdX5_countWaiting_0.2.2.1
theorem dX5_countWaiting_3 : decode cX5_countWaiting 3 = .ok (.istore_n 2, 1) := bdX5_countWaiting_0.2.2.2.1
theorem dX5_countWaiting_4 : decode cX5_countWaiting 4 = .ok (.iload_n 2, 1) := bdX5_countWaiting_0.2.2.2.2.1
theorem dX5_countWaiting_5 : decode cX5_countWaiting 5 = .ok (.aload_n 0, 1) := bdX5_countWaiting_0.2.2.2.2.2.1
theorem dX5_countWaiting_6 : decode cX5_countWaiting 6 = .ok (.getfield 54, 3) := bdX5_countWaiting_0.2.2.2.2.2.2.1
theorem dX5_countWaiting_9 : decode cX5_countWaiting 9 = .ok (.if_icmp .ge 24, 3) := bdX5_countWaiting_0.2.2.2.2.2.2.2.1
theorem dX5_countWaiting_12 : decode cX5_countWaiting 12 = .ok (.aload_n 0, 1) := bdX5_countWaiting_0.2.2.2.2.2.2.2.2.1
theorem dX5_countWaiting_13 : decode cX5_countWaiting 13 = .ok (.getfield 27, 3) := bdX5_countWaiting_0.2.2.2.2.2.2.2.2.2.1
theorem dX5_countWaiting_16 : decode cX5_countWaiting 16 = .ok (.iload_n 2, 1) := bdX5_countWaiting_0.2.2.2.2.2.2.2.2.2.2.1
theorem dX5_countWaiting_17 : decode cX5_countWaiting 17 = .ok (.aaload, 1) := bdX5_countWaiting_0.2.2.2.2.2.2.2.2.2.2.2.1
theorem dX5_countWaiting_18 : decode cX5_countWaiting 18 = .ok (.getfield 131, 3) := bdX5_countWaiting_0.2.2.2.2.2.2.2.2.2.2.2.2.1
theorem dX5_countWaiting_21 : decode cX5_countWaiting 21 = .ok (.ifCond .eq 6, 3) := bdX5_countWaiting_0.2.2.2.2.2.2.2.2.2.2.2.2.2.1
theorem dX5_countWaiting_24 : decode cX5_countWaiting 24 = .ok (.iinc 1 1, 3) := bdX5_countWaiting_0.2.2.2.2.2.2.2.2.2.2.2.2.2.2.1
theorem dX5_countWaiting_27 : decode cX5_countWaiting 27 = .ok (.iinc 2 1, 3) := bdX5_countWaiting_0.2.2.2.2.2.2.2.2.2.2.2.2.2.2.2
theorem bdX5_countWaiting_30 : decode cX5_countWaiting 30 = .ok (.goto (-26), 3) ∧ decode cX5_countWaiting 33 = .ok (.iload_n 1, 1) ∧ decode cX5_countWaiting 34 = .ok (.ireturn, 1) := by decide +kernel
theorem dX5_countWaiting_30 : decode cX5_countWaiting 30 = .ok (.goto (-26), 3) := bdX5_countWaiting_30.1
theorem dX5_countWaiting_33 : decode cX5_countWaiting 33 = .ok (.iload_n 1, 1) := bdX5_countWaiting_30.2.1
theorem dX5_countWaiting_34 : decode cX5_countWaiting 34 = .ok (.ireturn, 1) := bdX5_countWaiting_30.2.2
theorem bdX5_countOnPitches_0 : decode cX5_countOnPitches 0 = .ok (.iconst 0, 1) ∧ decode cX5_countOnPitches 1 = .ok (.istore_n 1, 1) ∧ decode cX5_countOnPitches 2 = .ok (.iconst 0, 1) ∧ decode cX5_countOnPitches 3 = .ok (.istore_n 2, 1) ∧ decode cX5_countOnPitches 4 = .ok (.iload_n 2, 1) ∧ decode cX5_countOnPitches 5 = .ok (.aload_n 0, 1) ∧ decode cX5_countOnPitches 6 = .ok (.getfield 54, 3) ∧ decode cX5_countOnPitches 9 = .ok (.if_icmp .ge 26, 3) ∧ decode cX5_countOnPitches 12 = .ok (.aload_n 0, 1) ∧ decode cX5_countOnPitches 13 = .ok (.getfield 27, 3) ∧ decode cX5_countOnPitches 16 = .ok (.iload_n 2, 1) ∧ decode cX5_countOnPitches 17 = .ok (.aaload, 1) ∧ decode cX5_countOnPitches 18 = .ok (.getfield 174, 3) ∧ decode cX5_countOnPitches 21 = .ok (.bipush (-6), 2) ∧ decode cX5_countOnPitches 23 = .ok (.if_icmp .eq 6, 3) ∧ decode cX5_countOnPitches 26 = .ok (.iinc 1 1, 3) := by decide +kernel
theorem dX5_countOnPitches_0 : decode cX5_countOnPitches 0 = .ok (.iconst 0, 1) := bdX5_countOnPitches_0.1
theorem dX5_countOnPitches_1 : decode cX5_countOnPitches 1 = .ok (.istore_n 1, 1) := bdX5_countOnPitches_0.2.1
theorem dX5_countOnPitches_2 : decode cX5_countOnPitches 2 = .ok (.iconst 0, 1) := bdX5_countOnPitches_0.2.2.1
theorem dX5_countOnPitches_3 : decode cX5_countOnPitches 3 = .ok (.istore_n 2, 1) := bdX5_countOnPitches_0.2.2.2.1
theorem dX5_countOnPitches_4 : decode cX5_countOnPitches 4 = .ok (.iload_n 2, 1) := bdX5_countOnPitches_0.2.2.2.2.1
theorem dX5_countOnPitches_5 : decode cX5_countOnPitches 5 = .ok (.aload_n 0, 1) := bdX5_countOnPitches_0.2.2.2.2.2.1
theorem dX5_countOnPitches_6 : decode cX5_countOnPitches 6 = .ok (.getfield 54, 3) := bdX5_countOnPitches_0.2.2.2.2.2.2.1
theorem dX5_countOnPitches_9 : decode cX5_countOnPitches 9 = .ok (.if_icmp .ge 26, 3) := bdX5_countOnPitches_0.2.2.2.2.2.2.2.1
theorem dX5_countOnPitches_12 : decode cX5_countOnPitches 12 = .ok (.aload_n 0, 1) := bdX5_countOnPitches_0.2.2.2.2.2.2.2.2.1
theorem dX5_countOnPitches_13 : decode cX5_countOnPitches 13 = .ok (.getfield 27, 3) := bdX5_countOnPitches_0.2.2.2.2.2.2.2.2.2.1
theorem dX5_countOnPitches_16 : decode cX5_countOnPitches 16 = .ok (.iload_n 2, 1) := bdX5_countOnPitches_0.2.2.2.2.2.2.2.2.2.2.1
theorem dX5_countOnPitches_17 : decode cX5_countOnPitches 17 = .ok (.aaload, 1) := bdX5_countOnPitches_0.2.2.2.2.2.2.2.2.2.2.2.1
theorem dX5_countOnPitches_18 : decode cX5_countOnPitches 18 = .ok (.getfield 174, 3) := bdX5_countOnPitches_0.2.2.2.2.2.2.2.2.2.2.2.2.1
theorem dX5_countOnPitches_21 : decode cX5_countOnPitches 21 = .ok (.bipush (-6), 2) := bdX5_countOnPitches_0.2.2.2.2.2.2.2.2.2.2.2.2.2.1
theorem dX5_countOnPitches_23 : decode cX5_countOnPitches 23 = .ok (.if_icmp .eq 6, 3) := bdX5_countOnPitches_0.2.2.2.2.2.2.2.2.2.2.2.2.2.2.1
theorem dX5_countOnPitches_26 : decode cX5_countOnPitches 26 = .ok (.iinc 1 1, 3) := bdX5_countOnPitches_0.2.2.2.2.2.2.2.2.2.2.2.2.2.2.2
theorem bdX5_countOnPitches_29 : decode cX5_countOnPitches 29 = .ok (.iinc 2 1, 3) ∧ decode cX5_countOnPitches 32 = .ok (.goto (-28), 3) ∧ decode cX5_countOnPitches 35 = .ok (.iload_n 1, 1) ∧ decode cX5_countOnPitches 36 = .ok (.ireturn, 1) := by decide +kernel
theorem dX5_countOnPitches_29 : decode cX5_countOnPitches 29 = .ok (.iinc 2 1, 3) := bdX5_countOnPitches_29.1
theorem dX5_countOnPitches_32 : decode cX5_countOnPitches 32 = .ok (.goto (-28), 3) := bdX5_countOnPitches_29.2.1
theorem dX5_countOnPitches_35 : decode cX5_countOnPitches 35 = .ok (.iload_n 1, 1) := bdX5_countOnPitches_29.2.2.1
theorem dX5_countOnPitches_36 : decode cX5_countOnPitches 36 = .ok (.ireturn, 1) := bdX5_countOnPitches_29.2.2.2
theorem bdX5_sameKindBeside_0 : decode cX5_sameKindBeside 0 = .ok (.aload_n 0, 1) ∧ decode cX5_sameKindBeside 1 = .ok (.iload_n 1, 1) ∧ decode cX5_sameKindBeside 2 = .ok (.invokevirtual 97, 3) ∧ decode cX5_sameKindBeside 5 = .ok (.ifCond .ne 5, 3) ∧ decode cX5_sameKindBeside 8 = .ok (.iconst 0, 1) ∧ decode cX5_sameKindBeside 9 = .ok (.ireturn, 1) ∧ decode cX5_sameKindBeside 10 = .ok (.iload_n 2, 1) ∧ decode cX5_sameKindBeside 11 = .ok (.iconst 1, 1) ∧ decode cX5_sameKindBeside 12 = .ok (.isub, 1) ∧ decode cX5_sameKindBeside 13 = .ok (.istore_n 3, 1) ∧ decode cX5_sameKindBeside 14 = .ok (.iload_n 3, 1) ∧ decode cX5_sameKindBeside 15 = .ok (.iload_n 2, 1) ∧ decode cX5_sameKindBeside 16 = .ok (.iconst 1, 1) ∧ decode cX5_sameKindBeside 17 = .ok (.iadd, 1) ∧ decode cX5_sameKindBeside 18 = .ok (.if_icmp .gt 72, 3) ∧ decode cX5_sameKindBeside 21 = .ok (.aload_n 0, 1) := by decide +kernel
theorem dX5_sameKindBeside_0 : decode cX5_sameKindBeside 0 = .ok (.aload_n 0, 1) := bdX5_sameKindBeside_0.1
theorem dX5_sameKindBeside_1 : decode cX5_sameKindBeside 1 = .ok (.iload_n 1, 1) := bdX5_sameKindBeside_0.2.1
theorem dX5_sameKindBeside_2 : decode cX5_sameKindBeside 2 = .ok (.invokevirtual 97, 3) := bdX5_sameKindBeside_0.2.2.1
theorem dX5_sameKindBeside_5 : decode cX5_sameKindBeside 5 = .ok (.ifCond .ne 5, 3) := bdX5_sameKindBeside_0.2.2.2.1
theorem dX5_sameKindBeside_8 : decode cX5_sameKindBeside 8 = .ok (.iconst 0, 1) := bdX5_sameKindBeside_0.2.2.2.2.1
theorem dX5_sameKindBeside_9 : decode cX5_sameKindBeside 9 = .ok (.ireturn, 1) := bdX5_sameKindBeside_0.2.2.2.2.2.1
theorem dX5_sameKindBeside_10 : decode cX5_sameKindBeside 10 = .ok (.iload_n 2, 1) := bdX5_sameKindBeside_0.2.2.2.2.2.2.1
theorem dX5_sameKindBeside_11 : decode cX5_sameKindBeside 11 = .ok (.iconst 1, 1) := bdX5_sameKindBeside_0.2.2.2.2.2.2.2.1
theorem dX5_sameKindBeside_12 : decode cX5_sameKindBeside 12 = .ok (.isub, 1) := bdX5_sameKindBeside_0.2.2.2.2.2.2.2.2.1
theorem dX5_sameKindBeside_13 : decode cX5_sameKindBeside 13 = .ok (.istore_n 3, 1) := bdX5_sameKindBeside_0.2.2.2.2.2.2.2.2.2.1
theorem dX5_sameKindBeside_14 : decode cX5_sameKindBeside 14 = .ok (.iload_n 3, 1) := bdX5_sameKindBeside_0.2.2.2.2.2.2.2.2.2.2.1
theorem dX5_sameKindBeside_15 : decode cX5_sameKindBeside 15 = .ok (.iload_n 2, 1) := bdX5_sameKindBeside_0.2.2.2.2.2.2.2.2.2.2.2.1
theorem dX5_sameKindBeside_16 : decode cX5_sameKindBeside 16 = .ok (.iconst 1, 1) := bdX5_sameKindBeside_0.2.2.2.2.2.2.2.2.2.2.2.2.1
theorem dX5_sameKindBeside_17 : decode cX5_sameKindBeside 17 = .ok (.iadd, 1) := bdX5_sameKindBeside_0.2.2.2.2.2.2.2.2.2.2.2.2.2.1
theorem dX5_sameKindBeside_18 : decode cX5_sameKindBeside 18 = .ok (.if_icmp .gt 72, 3) := bdX5_sameKindBeside_0.2.2.2.2.2.2.2.2.2.2.2.2.2.2.1
theorem dX5_sameKindBeside_21 : decode cX5_sameKindBeside 21 = .ok (.aload_n 0, 1) := bdX5_sameKindBeside_0.2.2.2.2.2.2.2.2.2.2.2.2.2.2.2
theorem bdX5_sameKindBeside_22 : decode cX5_sameKindBeside 22 = .ok (.iload_n 3, 1) ∧ decode cX5_sameKindBeside 23 = .ok (.invokevirtual 87, 3) ∧ decode cX5_sameKindBeside 26 = .ok (.ifCond .eq 15, 3) ∧ decode cX5_sameKindBeside 29 = .ok (.aload_n 0, 1) ∧ decode cX5_sameKindBeside 30 = .ok (.getfield 21, 3) ∧ decode cX5_sameKindBeside 33 = .ok (.iload_n 3, 1) ∧ decode cX5_sameKindBeside 34 = .ok (.aaload, 1) ∧ decode cX5_sameKindBeside 35 = .ok (.getfield 177, 3) ∧ decode cX5_sameKindBeside 38 = .ok (.goto 5, 3) ∧ decode cX5_sameKindBeside 41 = .ok (.bipush (-6), 2) ∧ decode cX5_sameKindBeside 43 = .ok (.istore 4, 2) ∧ decode cX5_sameKindBeside 45 = .ok (.iload 4, 2) ∧ decode cX5_sameKindBeside 47 = .ok (.iload_n 1, 1) ∧ decode cX5_sameKindBeside 48 = .ok (.if_icmp .eq 36, 3) ∧ decode cX5_sameKindBeside 51 = .ok (.aload_n 0, 1) ∧ decode cX5_sameKindBeside 52 = .ok (.iload 4, 2) := by decide +kernel
theorem dX5_sameKindBeside_22 : decode cX5_sameKindBeside 22 = .ok (.iload_n 3, 1) := bdX5_sameKindBeside_22.1
theorem dX5_sameKindBeside_23 : decode cX5_sameKindBeside 23 = .ok (.invokevirtual 87, 3) := bdX5_sameKindBeside_22.2.1
theorem dX5_sameKindBeside_26 : decode cX5_sameKindBeside 26 = .ok (.ifCond .eq 15, 3) := bdX5_sameKindBeside_22.2.2.1
theorem dX5_sameKindBeside_29 : decode cX5_sameKindBeside 29 = .ok (.aload_n 0, 1) := bdX5_sameKindBeside_22.2.2.2.1
theorem dX5_sameKindBeside_30 : decode cX5_sameKindBeside 30 = .ok (.getfield 21, 3) := bdX5_sameKindBeside_22.2.2.2.2.1
theorem dX5_sameKindBeside_33 : decode cX5_sameKindBeside 33 = .ok (.iload_n 3, 1) := bdX5_sameKindBeside_22.2.2.2.2.2.1
theorem dX5_sameKindBeside_34 : decode cX5_sameKindBeside 34 = .ok (.aaload, 1) := bdX5_sameKindBeside_22.2.2.2.2.2.2.1
theorem dX5_sameKindBeside_35 : decode cX5_sameKindBeside 35 = .ok (.getfield 177, 3) := bdX5_sameKindBeside_22.2.2.2.2.2.2.2.1
theorem dX5_sameKindBeside_38 : decode cX5_sameKindBeside 38 = .ok (.goto 5, 3) := bdX5_sameKindBeside_22.2.2.2.2.2.2.2.2.1
theorem dX5_sameKindBeside_41 : decode cX5_sameKindBeside 41 = .ok (.bipush (-6), 2) := bdX5_sameKindBeside_22.2.2.2.2.2.2.2.2.2.1
theorem dX5_sameKindBeside_43 : decode cX5_sameKindBeside 43 = .ok (.istore 4, 2) := bdX5_sameKindBeside_22.2.2.2.2.2.2.2.2.2.2.1
theorem dX5_sameKindBeside_45 : decode cX5_sameKindBeside 45 = .ok (.iload 4, 2) := bdX5_sameKindBeside_22.2.2.2.2.2.2.2.2.2.2.2.1
theorem dX5_sameKindBeside_47 : decode cX5_sameKindBeside 47 = .ok (.iload_n 1, 1) := bdX5_sameKindBeside_22.2.2.2.2.2.2.2.2.2.2.2.2.1
theorem dX5_sameKindBeside_48 : decode cX5_sameKindBeside 48 = .ok (.if_icmp .eq 36, 3) := bdX5_sameKindBeside_22.2.2.2.2.2.2.2.2.2.2.2.2.2.1
theorem dX5_sameKindBeside_51 : decode cX5_sameKindBeside 51 = .ok (.aload_n 0, 1) := bdX5_sameKindBeside_22.2.2.2.2.2.2.2.2.2.2.2.2.2.2.1
theorem dX5_sameKindBeside_52 : decode cX5_sameKindBeside 52 = .ok (.iload 4, 2) := bdX5_sameKindBeside_22.2.2.2.2.2.2.2.2.2.2.2.2.2.2.2
theorem bdX5_sameKindBeside_54 : decode cX5_sameKindBeside 54 = .ok (.invokevirtual 97, 3) ∧ decode cX5_sameKindBeside 57 = .ok (.ifCond .eq 27, 3) ∧ decode cX5_sameKindBeside 60 = .ok (.aload_n 0, 1) ∧ decode cX5_sameKindBeside 61 = .ok (.getfield 27, 3) ∧ decode cX5_sameKindBeside 64 = .ok (.iload 4, 2) ∧ decode cX5_sameKindBeside 66 = .ok (.aaload, 1) ∧ decode cX5_sameKindBeside 67 = .ok (.getfield 180, 3) ∧ decode cX5_sameKindBeside 70 = .ok (.aload_n 0, 1) ∧ decode cX5_sameKindBeside 71 = .ok (.getfield 27, 3) ∧ decode cX5_sameKindBeside 74 = .ok (.iload_n 1, 1) ∧ decode cX5_sameKindBeside 75 = .ok (.aaload, 1) ∧ decode cX5_sameKindBeside 76 = .ok (.getfield 180, 3) ∧ decode cX5_sameKindBeside 79 = .ok (.if_icmp .ne 5, 3) ∧ decode cX5_sameKindBeside 82 = .ok (.iconst 1, 1) ∧ decode cX5_sameKindBeside 83 = .ok (.ireturn, 1) ∧ decode cX5_sameKindBeside 84 = .ok (.iinc 3 2, 3) := by decide +kernel
theorem dX5_sameKindBeside_54 : decode cX5_sameKindBeside 54 = .ok (.invokevirtual 97, 3) := bdX5_sameKindBeside_54.1
theorem dX5_sameKindBeside_57 : decode cX5_sameKindBeside 57 = .ok (.ifCond .eq 27, 3) := bdX5_sameKindBeside_54.2.1
theorem dX5_sameKindBeside_60 : decode cX5_sameKindBeside 60 = .ok (.aload_n 0, 1) := bdX5_sameKindBeside_54.2.2.1
theorem dX5_sameKindBeside_61 : decode cX5_sameKindBeside 61 = .ok (.getfield 27, 3) := bdX5_sameKindBeside_54.2.2.2.1
theorem dX5_sameKindBeside_64 : decode cX5_sameKindBeside 64 = .ok (.iload 4, 2) := bdX5_sameKindBeside_54.2.2.2.2.1
theorem dX5_sameKindBeside_66 : decode cX5_sameKindBeside 66 = .ok (.aaload, 1) := bdX5_sameKindBeside_54.2.2.2.2.2.1
theorem dX5_sameKindBeside_67 : decode cX5_sameKindBeside 67 = .ok (.getfield 180, 3) := bdX5_sameKindBeside_54.2.2.2.2.2.2.1
theorem dX5_sameKindBeside_70 : decode cX5_sameKindBeside 70 = .ok (.aload_n 0, 1) := bdX5_sameKindBeside_54.2.2.2.2.2.2.2.1
theorem dX5_sameKindBeside_71 : decode cX5_sameKindBeside 71 = .ok (.getfield 27, 3) := bdX5_sameKindBeside_54.2.2.2.2.2.2.2.2.1
theorem dX5_sameKindBeside_74 : decode cX5_sameKindBeside 74 = .ok (.iload_n 1, 1) := bdX5_sameKindBeside_54.2.2.2.2.2.2.2.2.2.1
theorem dX5_sameKindBeside_75 : decode cX5_sameKindBeside 75 = .ok (.aaload, 1) := bdX5_sameKindBeside_54.2.2.2.2.2.2.2.2.2.2.1
theorem dX5_sameKindBeside_76 : decode cX5_sameKindBeside 76 = .ok (.getfield 180, 3) := bdX5_sameKindBeside_54.2.2.2.2.2.2.2.2.2.2.2.1
theorem dX5_sameKindBeside_79 : decode cX5_sameKindBeside 79 = .ok (.if_icmp .ne 5, 3) := bdX5_sameKindBeside_54.2.2.2.2.2.2.2.2.2.2.2.2.1
theorem dX5_sameKindBeside_82 : decode cX5_sameKindBeside 82 = .ok (.iconst 1, 1) := bdX5_sameKindBeside_54.2.2.2.2.2.2.2.2.2.2.2.2.2.1
theorem dX5_sameKindBeside_83 : decode cX5_sameKindBeside 83 = .ok (.ireturn, 1) := bdX5_sameKindBeside_54.2.2.2.2.2.2.2.2.2.2.2.2.2.2.1
theorem dX5_sameKindBeside_84 : decode cX5_sameKindBeside 84 = .ok (.iinc 3 2, 3) := bdX5_sameKindBeside_54.2.2.2.2.2.2.2.2.2.2.2.2.2.2.2
theorem bdX5_sameKindBeside_87 : decode cX5_sameKindBeside 87 = .ok (.goto (-73), 3) ∧ decode cX5_sameKindBeside 90 = .ok (.iconst 0, 1) ∧ decode cX5_sameKindBeside 91 = .ok (.ireturn, 1) := by decide +kernel
theorem dX5_sameKindBeside_87 : decode cX5_sameKindBeside 87 = .ok (.goto (-73), 3) := bdX5_sameKindBeside_87.1
theorem dX5_sameKindBeside_90 : decode cX5_sameKindBeside 90 = .ok (.iconst 0, 1) := bdX5_sameKindBeside_87.2.1
theorem dX5_sameKindBeside_91 : decode cX5_sameKindBeside 91 = .ok (.ireturn, 1) := bdX5_sameKindBeside_87.2.2
theorem bdX5_seat_0 : decode cX5_seat 0 = .ok (.aload_n 0, 1) ∧ decode cX5_seat 1 = .ok (.iload_n 1, 1) ∧ decode cX5_seat 2 = .ok (.invokevirtual 97, 3) ∧ decode cX5_seat 5 = .ok (.ifCond .eq 31, 3) ∧ decode cX5_seat 8 = .ok (.aload_n 0, 1) ∧ decode cX5_seat 9 = .ok (.iload_n 2, 1) ∧ decode cX5_seat 10 = .ok (.invokevirtual 87, 3) ∧ decode cX5_seat 13 = .ok (.ifCond .eq 23, 3) ∧ decode cX5_seat 16 = .ok (.aload_n 0, 1) ∧ decode cX5_seat 17 = .ok (.getfield 21, 3) ∧ decode cX5_seat 20 = .ok (.iload_n 2, 1) ∧ decode cX5_seat 21 = .ok (.aaload, 1) ∧ decode cX5_seat 22 = .ok (.iload_n 1, 1) ∧ decode cX5_seat 23 = .ok (.putfield 177, 3) ∧ decode cX5_seat 26 = .ok (.aload_n 0, 1) ∧ decode cX5_seat 27 = .ok (.getfield 27, 3) := by decide +kernel
theorem dX5_seat_0 : decode cX5_seat 0 = .ok (.aload_n 0, 1) := bdX5_seat_0.1
theorem dX5_seat_1 : decode cX5_seat 1 = .ok (.iload_n 1, 1) := bdX5_seat_0.2.1
theorem dX5_seat_2 : decode cX5_seat 2 = .ok (.invokevirtual 97, 3) := bdX5_seat_0.2.2.1
theorem dX5_seat_5 : decode cX5_seat 5 = .ok (.ifCond .eq 31, 3) := bdX5_seat_0.2.2.2.1
theorem dX5_seat_8 : decode cX5_seat 8 = .ok (.aload_n 0, 1) := bdX5_seat_0.2.2.2.2.1
theorem dX5_seat_9 : decode cX5_seat 9 = .ok (.iload_n 2, 1) := bdX5_seat_0.2.2.2.2.2.1
theorem dX5_seat_10 : decode cX5_seat 10 = .ok (.invokevirtual 87, 3) := bdX5_seat_0.2.2.2.2.2.2.1
theorem dX5_seat_13 : decode cX5_seat 13 = .ok (.ifCond .eq 23, 3) := bdX5_seat_0.2.2.2.2.2.2.2.1
theorem dX5_seat_16 : decode cX5_seat 16 = .ok (.aload_n 0, 1) := bdX5_seat_0.2.2.2.2.2.2.2.2.1
theorem dX5_seat_17 : decode cX5_seat 17 = .ok (.getfield 21, 3) := bdX5_seat_0.2.2.2.2.2.2.2.2.2.1
theorem dX5_seat_20 : decode cX5_seat 20 = .ok (.iload_n 2, 1) := bdX5_seat_0.2.2.2.2.2.2.2.2.2.2.1
theorem dX5_seat_21 : decode cX5_seat 21 = .ok (.aaload, 1) := bdX5_seat_0.2.2.2.2.2.2.2.2.2.2.2.1
theorem dX5_seat_22 : decode cX5_seat 22 = .ok (.iload_n 1, 1) := bdX5_seat_0.2.2.2.2.2.2.2.2.2.2.2.2.1
theorem dX5_seat_23 : decode cX5_seat 23 = .ok (.putfield 177, 3) := bdX5_seat_0.2.2.2.2.2.2.2.2.2.2.2.2.2.1
theorem dX5_seat_26 : decode cX5_seat 26 = .ok (.aload_n 0, 1) := bdX5_seat_0.2.2.2.2.2.2.2.2.2.2.2.2.2.2.1
theorem dX5_seat_27 : decode cX5_seat 27 = .ok (.getfield 27, 3) := bdX5_seat_0.2.2.2.2.2.2.2.2.2.2.2.2.2.2.2
theorem bdX5_seat_30 : decode cX5_seat 30 = .ok (.iload_n 1, 1) ∧ decode cX5_seat 31 = .ok (.aaload, 1) ∧ decode cX5_seat 32 = .ok (.iload_n 2, 1) ∧ decode cX5_seat 33 = .ok (.putfield 174, 3) ∧ decode cX5_seat 36 = .ok (.return_, 1) := by decide +kernel
theorem dX5_seat_30 : decode cX5_seat 30 = .ok (.iload_n 1, 1) := bdX5_seat_30.1
theorem dX5_seat_31 : decode cX5_seat 31 = .ok (.aaload, 1) := bdX5_seat_30.2.1
theorem dX5_seat_32 : decode cX5_seat 32 = .ok (.iload_n 2, 1) := bdX5_seat_30.2.2.1
theorem dX5_seat_33 : decode cX5_seat 33 = .ok (.putfield 174, 3) := bdX5_seat_30.2.2.2.1
theorem dX5_seat_36 : decode cX5_seat 36 = .ok (.return_, 1) := bdX5_seat_30.2.2.2.2
theorem bdX5_unseat_0 : decode cX5_unseat 0 = .ok (.aload_n 0, 1) ∧ decode cX5_unseat 1 = .ok (.aload_n 1, 1) ∧ decode cX5_unseat 2 = .ok (.getfield 174, 3) ∧ decode cX5_unseat 5 = .ok (.invokevirtual 87, 3) ∧ decode cX5_unseat 8 = .ok (.ifCond .eq 17, 3) ∧ decode cX5_unseat 11 = .ok (.aload_n 0, 1) ∧ decode cX5_unseat 12 = .ok (.getfield 21, 3) ∧ decode cX5_unseat 15 = .ok (.aload_n 1, 1) ∧ decode cX5_unseat 16 = .ok (.getfield 174, 3) ∧ decode cX5_unseat 19 = .ok (.aaload, 1) ∧ decode cX5_unseat 20 = .ok (.bipush (-6), 2) ∧ decode cX5_unseat 22 = .ok (.putfield 177, 3) ∧ decode cX5_unseat 25 = .ok (.aload_n 1, 1) ∧ decode cX5_unseat 26 = .ok (.bipush (-6), 2) ∧ decode cX5_unseat 28 = .ok (.putfield 174, 3) ∧ decode cX5_unseat 31 = .ok (.return_, 1) := by decide +kernel
theorem dX5_unseat_0 : decode cX5_unseat 0 = .ok (.aload_n 0, 1) := bdX5_unseat_0.1
theorem dX5_unseat_1 : decode cX5_unseat 1 = .ok (.aload_n 1, 1) := bdX5_unseat_0.2.1
theorem dX5_unseat_2 : decode cX5_unseat 2 = .ok (.getfield 174, 3) := bdX5_unseat_0.2.2.1
theorem dX5_unseat_5 : decode cX5_unseat 5 = .ok (.invokevirtual 87, 3) := bdX5_unseat_0.2.2.2.1
theorem dX5_unseat_8 : decode cX5_unseat 8 = .ok (.ifCond .eq 17, 3) := bdX5_unseat_0.2.2.2.2.1
theorem dX5_unseat_11 : decode cX5_unseat 11 = .ok (.aload_n 0, 1) := bdX5_unseat_0.2.2.2.2.2.1
theorem dX5_unseat_12 : decode cX5_unseat 12 = .ok (.getfield 21, 3) := bdX5_unseat_0.2.2.2.2.2.2.1
theorem dX5_unseat_15 : decode cX5_unseat 15 = .ok (.aload_n 1, 1) := bdX5_unseat_0.2.2.2.2.2.2.2.1
theorem dX5_unseat_16 : decode cX5_unseat 16 = .ok (.getfield 174, 3) := bdX5_unseat_0.2.2.2.2.2.2.2.2.1
theorem dX5_unseat_19 : decode cX5_unseat 19 = .ok (.aaload, 1) := bdX5_unseat_0.2.2.2.2.2.2.2.2.2.1
theorem dX5_unseat_20 : decode cX5_unseat 20 = .ok (.bipush (-6), 2) := bdX5_unseat_0.2.2.2.2.2.2.2.2.2.2.1
theorem dX5_unseat_22 : decode cX5_unseat 22 = .ok (.putfield 177, 3) := bdX5_unseat_0.2.2.2.2.2.2.2.2.2.2.2.1
theorem dX5_unseat_25 : decode cX5_unseat 25 = .ok (.aload_n 1, 1) := bdX5_unseat_0.2.2.2.2.2.2.2.2.2.2.2.2.1
theorem dX5_unseat_26 : decode cX5_unseat 26 = .ok (.bipush (-6), 2) := bdX5_unseat_0.2.2.2.2.2.2.2.2.2.2.2.2.2.1
theorem dX5_unseat_28 : decode cX5_unseat 28 = .ok (.putfield 174, 3) := bdX5_unseat_0.2.2.2.2.2.2.2.2.2.2.2.2.2.2.1
theorem dX5_unseat_31 : decode cX5_unseat 31 = .ok (.return_, 1) := bdX5_unseat_0.2.2.2.2.2.2.2.2.2.2.2.2.2.2.2
theorem bdX6_init_0 : decode cX6_init 0 = .ok (.aload_n 0, 1) ∧ decode cX6_init 1 = .ok (.invokespecial 1, 3) ∧ decode cX6_init 4 = .ok (.aload_n 0, 1) ∧ decode cX6_init 5 = .ok (.new 7, 3) ∧ decode cX6_init 8 = .ok (.dup, 1) ∧ decode cX6_init 9 = .ok (.invokespecial 9, 3) ∧ decode cX6_init 12 = .ok (.putfield 10, 3) ∧ decode cX6_init 15 = .ok (.aload_n 0, 1) ∧ decode cX6_init 16 = .ok (.new 7, 3) ∧ decode cX6_init 19 = .ok (.dup, 1) ∧ decode cX6_init 20 = .ok (.invokespecial 9, 3) ∧ decode cX6_init 23 = .ok (.putfield 16, 3) ∧ decode cX6_init 26 = .ok (.aload_n 0, 1) ∧ decode cX6_init 27 = .ok (.new 19, 3) ∧ decode cX6_init 30 = .ok (.dup, 1) ∧ decode cX6_init 31 = .ok (.invokespecial 21, 3) := by decide +kernel
theorem dX6_init_0 : decode cX6_init 0 = .ok (.aload_n 0, 1) := bdX6_init_0.1
theorem dX6_init_1 : decode cX6_init 1 = .ok (.invokespecial 1, 3) := bdX6_init_0.2.1
theorem dX6_init_4 : decode cX6_init 4 = .ok (.aload_n 0, 1) := bdX6_init_0.2.2.1
theorem dX6_init_5 : decode cX6_init 5 = .ok (.new 7, 3) := bdX6_init_0.2.2.2.1
theorem dX6_init_8 : decode cX6_init 8 = .ok (.dup, 1) := bdX6_init_0.2.2.2.2.1
theorem dX6_init_9 : decode cX6_init 9 = .ok (.invokespecial 9, 3) := bdX6_init_0.2.2.2.2.2.1
theorem dX6_init_12 : decode cX6_init 12 = .ok (.putfield 10, 3) := bdX6_init_0.2.2.2.2.2.2.1
theorem dX6_init_15 : decode cX6_init 15 = .ok (.aload_n 0, 1) := bdX6_init_0.2.2.2.2.2.2.2.1
theorem dX6_init_16 : decode cX6_init 16 = .ok (.new 7, 3) := bdX6_init_0.2.2.2.2.2.2.2.2.1
theorem dX6_init_19 : decode cX6_init 19 = .ok (.dup, 1) := bdX6_init_0.2.2.2.2.2.2.2.2.2.1
theorem dX6_init_20 : decode cX6_init 20 = .ok (.invokespecial 9, 3) := bdX6_init_0.2.2.2.2.2.2.2.2.2.2.1
theorem dX6_init_23 : decode cX6_init 23 = .ok (.putfield 16, 3) := bdX6_init_0.2.2.2.2.2.2.2.2.2.2.2.1
theorem dX6_init_26 : decode cX6_init 26 = .ok (.aload_n 0, 1) := bdX6_init_0.2.2.2.2.2.2.2.2.2.2.2.2.1
theorem dX6_init_27 : decode cX6_init 27 = .ok (.new 19, 3) := bdX6_init_0.2.2.2.2.2.2.2.2.2.2.2.2.2.1
theorem dX6_init_30 : decode cX6_init 30 = .ok (.dup, 1) := bdX6_init_0.2.2.2.2.2.2.2.2.2.2.2.2.2.2.1
theorem dX6_init_31 : decode cX6_init 31 = .ok (.invokespecial 21, 3) := bdX6_init_0.2.2.2.2.2.2.2.2.2.2.2.2.2.2.2
theorem bdX6_init_34 : decode cX6_init 34 = .ok (.putfield 22, 3) ∧ decode cX6_init 37 = .ok (.aload_n 0, 1) ∧ decode cX6_init 38 = .ok (.new 7, 3) ∧ decode cX6_init 41 = .ok (.dup, 1) ∧ decode cX6_init 42 = .ok (.invokespecial 9, 3) ∧ decode cX6_init 45 = .ok (.putfield 26, 3) ∧ decode cX6_init 48 = .ok (.aload_n 0, 1) ∧ decode cX6_init 49 = .ok (.new 7, 3) ∧ decode cX6_init 52 = .ok (.dup, 1) ∧ decode cX6_init 53 = .ok (.invokespecial 9, 3) ∧ decode cX6_init 56 = .ok (.putfield 29, 3) ∧ decode cX6_init 59 = .ok (.aload_n 0, 1) ∧ decode cX6_init 60 = .ok (.new 32, 3) ∧ decode cX6_init 63 = .ok (.dup, 1) ∧ decode cX6_init 64 = .ok (.invokespecial 34, 3) ∧ decode cX6_init 67 = .ok (.putfield 35, 3) := by decide +kernel
theorem dX6_init_34 : decode cX6_init 34 = .ok (.putfield 22, 3) := bdX6_init_34.1
theorem dX6_init_37 : decode cX6_init 37 = .ok (.aload_n 0, 1) := bdX6_init_34.2.1
theorem dX6_init_38 : decode cX6_init 38 = .ok (.new 7, 3) := bdX6_init_34.2.2.1
theorem dX6_init_41 : decode cX6_init 41 = .ok (.dup, 1) := bdX6_init_34.2.2.2.1
theorem dX6_init_42 : decode cX6_init 42 = .ok (.invokespecial 9, 3) := bdX6_init_34.2.2.2.2.1
theorem dX6_init_45 : decode cX6_init 45 = .ok (.putfield 26, 3) := bdX6_init_34.2.2.2.2.2.1
theorem dX6_init_48 : decode cX6_init 48 = .ok (.aload_n 0, 1) := bdX6_init_34.2.2.2.2.2.2.1
theorem dX6_init_49 : decode cX6_init 49 = .ok (.new 7, 3) := bdX6_init_34.2.2.2.2.2.2.2.1
theorem dX6_init_52 : decode cX6_init 52 = .ok (.dup, 1) := bdX6_init_34.2.2.2.2.2.2.2.2.1
theorem dX6_init_53 : decode cX6_init 53 = .ok (.invokespecial 9, 3) := bdX6_init_34.2.2.2.2.2.2.2.2.2.1
theorem dX6_init_56 : decode cX6_init 56 = .ok (.putfield 29, 3) := bdX6_init_34.2.2.2.2.2.2.2.2.2.2.1
theorem dX6_init_59 : decode cX6_init 59 = .ok (.aload_n 0, 1) := bdX6_init_34.2.2.2.2.2.2.2.2.2.2.2.1
theorem dX6_init_60 : decode cX6_init 60 = .ok (.new 32, 3) := bdX6_init_34.2.2.2.2.2.2.2.2.2.2.2.2.1
theorem dX6_init_63 : decode cX6_init 63 = .ok (.dup, 1) := bdX6_init_34.2.2.2.2.2.2.2.2.2.2.2.2.2.1
theorem dX6_init_64 : decode cX6_init 64 = .ok (.invokespecial 34, 3) := bdX6_init_34.2.2.2.2.2.2.2.2.2.2.2.2.2.2.1
theorem dX6_init_67 : decode cX6_init 67 = .ok (.putfield 35, 3) := bdX6_init_34.2.2.2.2.2.2.2.2.2.2.2.2.2.2.2
theorem dX6_init_70 : decode cX6_init 70 = .ok (.return_, 1) := by decide +kernel
theorem bdX6_set_0 : decode cX6_set 0 = .ok (.aload_n 0, 1) ∧ decode cX6_set 1 = .ok (.getfield 22, 3) ∧ decode cX6_set 4 = .ok (.aload_n 0, 1) ∧ decode cX6_set 5 = .ok (.getfield 10, 3) ∧ decode cX6_set 8 = .ok (.invokevirtual 39, 3) ∧ decode cX6_set 11 = .ok (.aload_n 0, 1) ∧ decode cX6_set 12 = .ok (.aload_n 0, 1) ∧ decode cX6_set 13 = .ok (.getfield 10, 3) ∧ decode cX6_set 16 = .ok (.iload_n 1, 1) ∧ decode cX6_set 17 = .ok (.iload_n 2, 1) ∧ decode cX6_set 18 = .ok (.invokevirtual 43, 3) ∧ decode cX6_set 21 = .ok (.invokevirtual 47, 3) ∧ decode cX6_set 24 = .ok (.ireturn, 1) := by decide +kernel
theorem dX6_set_0 : decode cX6_set 0 = .ok (.aload_n 0, 1) := bdX6_set_0.1
theorem dX6_set_1 : decode cX6_set 1 = .ok (.getfield 22, 3) := bdX6_set_0.2.1
theorem dX6_set_4 : decode cX6_set 4 = .ok (.aload_n 0, 1) := bdX6_set_0.2.2.1
theorem dX6_set_5 : decode cX6_set 5 = .ok (.getfield 10, 3) := bdX6_set_0.2.2.2.1
theorem dX6_set_8 : decode cX6_set 8 = .ok (.invokevirtual 39, 3) := bdX6_set_0.2.2.2.2.1
theorem dX6_set_11 : decode cX6_set 11 = .ok (.aload_n 0, 1) := bdX6_set_0.2.2.2.2.2.1
theorem dX6_set_12 : decode cX6_set 12 = .ok (.aload_n 0, 1) := bdX6_set_0.2.2.2.2.2.2.1
theorem dX6_set_13 : decode cX6_set 13 = .ok (.getfield 10, 3) := bdX6_set_0.2.2.2.2.2.2.2.1
theorem dX6_set_16 : decode cX6_set 16 = .ok (.iload_n 1, 1) := bdX6_set_0.2.2.2.2.2.2.2.2.1
theorem dX6_set_17 : decode cX6_set 17 = .ok (.iload_n 2, 1) := bdX6_set_0.2.2.2.2.2.2.2.2.2.1
theorem dX6_set_18 : decode cX6_set 18 = .ok (.invokevirtual 43, 3) := bdX6_set_0.2.2.2.2.2.2.2.2.2.2.1
theorem dX6_set_21 : decode cX6_set 21 = .ok (.invokevirtual 47, 3) := bdX6_set_0.2.2.2.2.2.2.2.2.2.2.2.1
theorem dX6_set_24 : decode cX6_set 24 = .ok (.ireturn, 1) := bdX6_set_0.2.2.2.2.2.2.2.2.2.2.2.2
theorem bdX6_seed_0 : decode cX6_seed 0 = .ok (.aload_n 0, 1) ∧ decode cX6_seed 1 = .ok (.getfield 22, 3) ∧ decode cX6_seed 4 = .ok (.aload_n 0, 1) ∧ decode cX6_seed 5 = .ok (.getfield 10, 3) ∧ decode cX6_seed 8 = .ok (.invokevirtual 39, 3) ∧ decode cX6_seed 11 = .ok (.aload_n 0, 1) ∧ decode cX6_seed 12 = .ok (.aload_n 0, 1) ∧ decode cX6_seed 13 = .ok (.getfield 10, 3) ∧ decode cX6_seed 16 = .ok (.iload_n 1, 1) ∧ decode cX6_seed 17 = .ok (.invokevirtual 51, 3) ∧ decode cX6_seed 20 = .ok (.invokevirtual 47, 3) ∧ decode cX6_seed 23 = .ok (.ireturn, 1) := by decide +kernel
theorem dX6_seed_0 : decode cX6_seed 0 = .ok (.aload_n 0, 1) := bdX6_seed_0.1
theorem dX6_seed_1 : decode cX6_seed 1 = .ok (.getfield 22, 3) := bdX6_seed_0.2.1
theorem dX6_seed_4 : decode cX6_seed 4 = .ok (.aload_n 0, 1) := bdX6_seed_0.2.2.1
theorem dX6_seed_5 : decode cX6_seed 5 = .ok (.getfield 10, 3) := bdX6_seed_0.2.2.2.1
theorem dX6_seed_8 : decode cX6_seed 8 = .ok (.invokevirtual 39, 3) := bdX6_seed_0.2.2.2.2.1
theorem dX6_seed_11 : decode cX6_seed 11 = .ok (.aload_n 0, 1) := bdX6_seed_0.2.2.2.2.2.1
theorem dX6_seed_12 : decode cX6_seed 12 = .ok (.aload_n 0, 1) := bdX6_seed_0.2.2.2.2.2.2.1
theorem dX6_seed_13 : decode cX6_seed 13 = .ok (.getfield 10, 3) := bdX6_seed_0.2.2.2.2.2.2.2.1
theorem dX6_seed_16 : decode cX6_seed 16 = .ok (.iload_n 1, 1) := bdX6_seed_0.2.2.2.2.2.2.2.2.1
theorem dX6_seed_17 : decode cX6_seed 17 = .ok (.invokevirtual 51, 3) := bdX6_seed_0.2.2.2.2.2.2.2.2.2.1
theorem dX6_seed_20 : decode cX6_seed 20 = .ok (.invokevirtual 47, 3) := bdX6_seed_0.2.2.2.2.2.2.2.2.2.2.1
theorem dX6_seed_23 : decode cX6_seed 23 = .ok (.ireturn, 1) := bdX6_seed_0.2.2.2.2.2.2.2.2.2.2.2
theorem bdX6_pitch_0 : decode cX6_pitch 0 = .ok (.aload_n 0, 1) ∧ decode cX6_pitch 1 = .ok (.getfield 22, 3) ∧ decode cX6_pitch 4 = .ok (.aload_n 0, 1) ∧ decode cX6_pitch 5 = .ok (.getfield 10, 3) ∧ decode cX6_pitch 8 = .ok (.invokevirtual 39, 3) ∧ decode cX6_pitch 11 = .ok (.aload_n 0, 1) ∧ decode cX6_pitch 12 = .ok (.aload_n 0, 1) ∧ decode cX6_pitch 13 = .ok (.getfield 10, 3) ∧ decode cX6_pitch 16 = .ok (.iload_n 1, 1) ∧ decode cX6_pitch 17 = .ok (.invokevirtual 54, 3) ∧ decode cX6_pitch 20 = .ok (.invokevirtual 47, 3) ∧ decode cX6_pitch 23 = .ok (.ireturn, 1) := by decide +kernel
theorem dX6_pitch_0 : decode cX6_pitch 0 = .ok (.aload_n 0, 1) := bdX6_pitch_0.1
theorem dX6_pitch_1 : decode cX6_pitch 1 = .ok (.getfield 22, 3) := bdX6_pitch_0.2.1
theorem dX6_pitch_4 : decode cX6_pitch 4 = .ok (.aload_n 0, 1) := bdX6_pitch_0.2.2.1
theorem dX6_pitch_5 : decode cX6_pitch 5 = .ok (.getfield 10, 3) := bdX6_pitch_0.2.2.2.1
theorem dX6_pitch_8 : decode cX6_pitch 8 = .ok (.invokevirtual 39, 3) := bdX6_pitch_0.2.2.2.2.1
theorem dX6_pitch_11 : decode cX6_pitch 11 = .ok (.aload_n 0, 1) := bdX6_pitch_0.2.2.2.2.2.1
theorem dX6_pitch_12 : decode cX6_pitch 12 = .ok (.aload_n 0, 1) := bdX6_pitch_0.2.2.2.2.2.2.1
theorem dX6_pitch_13 : decode cX6_pitch 13 = .ok (.getfield 10, 3) := bdX6_pitch_0.2.2.2.2.2.2.2.1
theorem dX6_pitch_16 : decode cX6_pitch 16 = .ok (.iload_n 1, 1) := bdX6_pitch_0.2.2.2.2.2.2.2.2.1
theorem dX6_pitch_17 : decode cX6_pitch 17 = .ok (.invokevirtual 54, 3) := bdX6_pitch_0.2.2.2.2.2.2.2.2.2.1
theorem dX6_pitch_20 : decode cX6_pitch 20 = .ok (.invokevirtual 47, 3) := bdX6_pitch_0.2.2.2.2.2.2.2.2.2.2.1
theorem dX6_pitch_23 : decode cX6_pitch 23 = .ok (.ireturn, 1) := bdX6_pitch_0.2.2.2.2.2.2.2.2.2.2.2
theorem bdX6_rent_0 : decode cX6_rent 0 = .ok (.aload_n 0, 1) ∧ decode cX6_rent 1 = .ok (.getfield 22, 3) ∧ decode cX6_rent 4 = .ok (.aload_n 0, 1) ∧ decode cX6_rent 5 = .ok (.getfield 10, 3) ∧ decode cX6_rent 8 = .ok (.invokevirtual 39, 3) ∧ decode cX6_rent 11 = .ok (.aload_n 0, 1) ∧ decode cX6_rent 12 = .ok (.aload_n 0, 1) ∧ decode cX6_rent 13 = .ok (.getfield 10, 3) ∧ decode cX6_rent 16 = .ok (.iload_n 1, 1) ∧ decode cX6_rent 17 = .ok (.iload_n 2, 1) ∧ decode cX6_rent 18 = .ok (.invokevirtual 57, 3) ∧ decode cX6_rent 21 = .ok (.invokevirtual 47, 3) ∧ decode cX6_rent 24 = .ok (.ireturn, 1) := by decide +kernel
theorem dX6_rent_0 : decode cX6_rent 0 = .ok (.aload_n 0, 1) := bdX6_rent_0.1
theorem dX6_rent_1 : decode cX6_rent 1 = .ok (.getfield 22, 3) := bdX6_rent_0.2.1
theorem dX6_rent_4 : decode cX6_rent 4 = .ok (.aload_n 0, 1) := bdX6_rent_0.2.2.1
theorem dX6_rent_5 : decode cX6_rent 5 = .ok (.getfield 10, 3) := bdX6_rent_0.2.2.2.1
theorem dX6_rent_8 : decode cX6_rent 8 = .ok (.invokevirtual 39, 3) := bdX6_rent_0.2.2.2.2.1
theorem dX6_rent_11 : decode cX6_rent 11 = .ok (.aload_n 0, 1) := bdX6_rent_0.2.2.2.2.2.1
theorem dX6_rent_12 : decode cX6_rent 12 = .ok (.aload_n 0, 1) := bdX6_rent_0.2.2.2.2.2.2.1
theorem dX6_rent_13 : decode cX6_rent 13 = .ok (.getfield 10, 3) := bdX6_rent_0.2.2.2.2.2.2.2.1
theorem dX6_rent_16 : decode cX6_rent 16 = .ok (.iload_n 1, 1) := bdX6_rent_0.2.2.2.2.2.2.2.2.1
theorem dX6_rent_17 : decode cX6_rent 17 = .ok (.iload_n 2, 1) := bdX6_rent_0.2.2.2.2.2.2.2.2.2.1
theorem dX6_rent_18 : decode cX6_rent 18 = .ok (.invokevirtual 57, 3) := bdX6_rent_0.2.2.2.2.2.2.2.2.2.2.1
theorem dX6_rent_21 : decode cX6_rent 21 = .ok (.invokevirtual 47, 3) := bdX6_rent_0.2.2.2.2.2.2.2.2.2.2.2.1
theorem dX6_rent_24 : decode cX6_rent 24 = .ok (.ireturn, 1) := bdX6_rent_0.2.2.2.2.2.2.2.2.2.2.2.2
theorem bdX6_cart_0 : decode cX6_cart 0 = .ok (.aload_n 0, 1) ∧ decode cX6_cart 1 = .ok (.getfield 22, 3) ∧ decode cX6_cart 4 = .ok (.aload_n 0, 1) ∧ decode cX6_cart 5 = .ok (.getfield 10, 3) ∧ decode cX6_cart 8 = .ok (.invokevirtual 39, 3) ∧ decode cX6_cart 11 = .ok (.aload_n 0, 1) ∧ decode cX6_cart 12 = .ok (.aload_n 0, 1) ∧ decode cX6_cart 13 = .ok (.getfield 10, 3) ∧ decode cX6_cart 16 = .ok (.iload_n 1, 1) ∧ decode cX6_cart 17 = .ok (.iload_n 2, 1) ∧ decode cX6_cart 18 = .ok (.invokevirtual 60, 3) ∧ decode cX6_cart 21 = .ok (.invokevirtual 47, 3) ∧ decode cX6_cart 24 = .ok (.ireturn, 1) := by decide +kernel
theorem dX6_cart_0 : decode cX6_cart 0 = .ok (.aload_n 0, 1) := bdX6_cart_0.1
theorem dX6_cart_1 : decode cX6_cart 1 = .ok (.getfield 22, 3) := bdX6_cart_0.2.1
theorem dX6_cart_4 : decode cX6_cart 4 = .ok (.aload_n 0, 1) := bdX6_cart_0.2.2.1
theorem dX6_cart_5 : decode cX6_cart 5 = .ok (.getfield 10, 3) := bdX6_cart_0.2.2.2.1
theorem dX6_cart_8 : decode cX6_cart 8 = .ok (.invokevirtual 39, 3) := bdX6_cart_0.2.2.2.2.1
theorem dX6_cart_11 : decode cX6_cart 11 = .ok (.aload_n 0, 1) := bdX6_cart_0.2.2.2.2.2.1
theorem dX6_cart_12 : decode cX6_cart 12 = .ok (.aload_n 0, 1) := bdX6_cart_0.2.2.2.2.2.2.1
theorem dX6_cart_13 : decode cX6_cart 13 = .ok (.getfield 10, 3) := bdX6_cart_0.2.2.2.2.2.2.2.1
theorem dX6_cart_16 : decode cX6_cart 16 = .ok (.iload_n 1, 1) := bdX6_cart_0.2.2.2.2.2.2.2.2.1
theorem dX6_cart_17 : decode cX6_cart 17 = .ok (.iload_n 2, 1) := bdX6_cart_0.2.2.2.2.2.2.2.2.2.1
theorem dX6_cart_18 : decode cX6_cart 18 = .ok (.invokevirtual 60, 3) := bdX6_cart_0.2.2.2.2.2.2.2.2.2.2.1
theorem dX6_cart_21 : decode cX6_cart 21 = .ok (.invokevirtual 47, 3) := bdX6_cart_0.2.2.2.2.2.2.2.2.2.2.2.1
theorem dX6_cart_24 : decode cX6_cart 24 = .ok (.ireturn, 1) := bdX6_cart_0.2.2.2.2.2.2.2.2.2.2.2.2
theorem bdX6_wish_0 : decode cX6_wish 0 = .ok (.aload_n 0, 1) ∧ decode cX6_wish 1 = .ok (.getfield 22, 3) ∧ decode cX6_wish 4 = .ok (.aload_n 0, 1) ∧ decode cX6_wish 5 = .ok (.getfield 10, 3) ∧ decode cX6_wish 8 = .ok (.invokevirtual 39, 3) ∧ decode cX6_wish 11 = .ok (.aload_n 0, 1) ∧ decode cX6_wish 12 = .ok (.aload_n 0, 1) ∧ decode cX6_wish 13 = .ok (.getfield 10, 3) ∧ decode cX6_wish 16 = .ok (.iload_n 1, 1) ∧ decode cX6_wish 17 = .ok (.iload_n 2, 1) ∧ decode cX6_wish 18 = .ok (.iload_n 3, 1) ∧ decode cX6_wish 19 = .ok (.iload 4, 2) ∧ decode cX6_wish 21 = .ok (.invokevirtual 63, 3) ∧ decode cX6_wish 24 = .ok (.invokevirtual 47, 3) ∧ decode cX6_wish 27 = .ok (.ireturn, 1) := by decide +kernel
theorem dX6_wish_0 : decode cX6_wish 0 = .ok (.aload_n 0, 1) := bdX6_wish_0.1
theorem dX6_wish_1 : decode cX6_wish 1 = .ok (.getfield 22, 3) := bdX6_wish_0.2.1
theorem dX6_wish_4 : decode cX6_wish 4 = .ok (.aload_n 0, 1) := bdX6_wish_0.2.2.1
theorem dX6_wish_5 : decode cX6_wish 5 = .ok (.getfield 10, 3) := bdX6_wish_0.2.2.2.1
theorem dX6_wish_8 : decode cX6_wish 8 = .ok (.invokevirtual 39, 3) := bdX6_wish_0.2.2.2.2.1
theorem dX6_wish_11 : decode cX6_wish 11 = .ok (.aload_n 0, 1) := bdX6_wish_0.2.2.2.2.2.1
theorem dX6_wish_12 : decode cX6_wish 12 = .ok (.aload_n 0, 1) := bdX6_wish_0.2.2.2.2.2.2.1
theorem dX6_wish_13 : decode cX6_wish 13 = .ok (.getfield 10, 3) := bdX6_wish_0.2.2.2.2.2.2.2.1
theorem dX6_wish_16 : decode cX6_wish 16 = .ok (.iload_n 1, 1) := bdX6_wish_0.2.2.2.2.2.2.2.2.1
theorem dX6_wish_17 : decode cX6_wish 17 = .ok (.iload_n 2, 1) := bdX6_wish_0.2.2.2.2.2.2.2.2.2.1
theorem dX6_wish_18 : decode cX6_wish 18 = .ok (.iload_n 3, 1) := bdX6_wish_0.2.2.2.2.2.2.2.2.2.2.1
theorem dX6_wish_19 : decode cX6_wish 19 = .ok (.iload 4, 2) := bdX6_wish_0.2.2.2.2.2.2.2.2.2.2.2.1
theorem dX6_wish_21 : decode cX6_wish 21 = .ok (.invokevirtual 63, 3) := bdX6_wish_0.2.2.2.2.2.2.2.2.2.2.2.2.1
theorem dX6_wish_24 : decode cX6_wish 24 = .ok (.invokevirtual 47, 3) := bdX6_wish_0.2.2.2.2.2.2.2.2.2.2.2.2.2.1
theorem dX6_wish_27 : decode cX6_wish 27 = .ok (.ireturn, 1) := bdX6_wish_0.2.2.2.2.2.2.2.2.2.2.2.2.2.2
theorem bdX6_fine_0 : decode cX6_fine 0 = .ok (.aload_n 0, 1) ∧ decode cX6_fine 1 = .ok (.getfield 22, 3) ∧ decode cX6_fine 4 = .ok (.aload_n 0, 1) ∧ decode cX6_fine 5 = .ok (.getfield 10, 3) ∧ decode cX6_fine 8 = .ok (.invokevirtual 39, 3) ∧ decode cX6_fine 11 = .ok (.aload_n 0, 1) ∧ decode cX6_fine 12 = .ok (.aload_n 0, 1) ∧ decode cX6_fine 13 = .ok (.getfield 10, 3) ∧ decode cX6_fine 16 = .ok (.iload_n 1, 1) ∧ decode cX6_fine 17 = .ok (.iload_n 2, 1) ∧ decode cX6_fine 18 = .ok (.invokevirtual 67, 3) ∧ decode cX6_fine 21 = .ok (.invokevirtual 47, 3) ∧ decode cX6_fine 24 = .ok (.ireturn, 1) := by decide +kernel
theorem dX6_fine_0 : decode cX6_fine 0 = .ok (.aload_n 0, 1) := bdX6_fine_0.1
theorem dX6_fine_1 : decode cX6_fine 1 = .ok (.getfield 22, 3) := bdX6_fine_0.2.1
theorem dX6_fine_4 : decode cX6_fine 4 = .ok (.aload_n 0, 1) := bdX6_fine_0.2.2.1
theorem dX6_fine_5 : decode cX6_fine 5 = .ok (.getfield 10, 3) := bdX6_fine_0.2.2.2.1
theorem dX6_fine_8 : decode cX6_fine 8 = .ok (.invokevirtual 39, 3) := bdX6_fine_0.2.2.2.2.1
theorem dX6_fine_11 : decode cX6_fine 11 = .ok (.aload_n 0, 1) := bdX6_fine_0.2.2.2.2.2.1
theorem dX6_fine_12 : decode cX6_fine 12 = .ok (.aload_n 0, 1) := bdX6_fine_0.2.2.2.2.2.2.1
theorem dX6_fine_13 : decode cX6_fine 13 = .ok (.getfield 10, 3) := bdX6_fine_0.2.2.2.2.2.2.2.1
theorem dX6_fine_16 : decode cX6_fine 16 = .ok (.iload_n 1, 1) := bdX6_fine_0.2.2.2.2.2.2.2.2.1
theorem dX6_fine_17 : decode cX6_fine 17 = .ok (.iload_n 2, 1) := bdX6_fine_0.2.2.2.2.2.2.2.2.2.1
theorem dX6_fine_18 : decode cX6_fine 18 = .ok (.invokevirtual 67, 3) := bdX6_fine_0.2.2.2.2.2.2.2.2.2.2.1
theorem dX6_fine_21 : decode cX6_fine 21 = .ok (.invokevirtual 47, 3) := bdX6_fine_0.2.2.2.2.2.2.2.2.2.2.2.1
theorem dX6_fine_24 : decode cX6_fine 24 = .ok (.ireturn, 1) := bdX6_fine_0.2.2.2.2.2.2.2.2.2.2.2.2
theorem bdX6_check_0 : decode cX6_check 0 = .ok (.aload_n 0, 1) ∧ decode cX6_check 1 = .ok (.getfield 22, 3) ∧ decode cX6_check 4 = .ok (.aload_n 0, 1) ∧ decode cX6_check 5 = .ok (.getfield 10, 3) ∧ decode cX6_check 8 = .ok (.invokevirtual 39, 3) ∧ decode cX6_check 11 = .ok (.aload_n 0, 1) ∧ decode cX6_check 12 = .ok (.aload_n 0, 1) ∧ decode cX6_check 13 = .ok (.getfield 10, 3) ∧ decode cX6_check 16 = .ok (.iload_n 1, 1) ∧ decode cX6_check 17 = .ok (.invokevirtual 70, 3) ∧ decode cX6_check 20 = .ok (.invokevirtual 47, 3) ∧ decode cX6_check 23 = .ok (.ireturn, 1) := by decide +kernel
theorem dX6_check_0 : decode cX6_check 0 = .ok (.aload_n 0, 1) := bdX6_check_0.1
theorem dX6_check_1 : decode cX6_check 1 = .ok (.getfield 22, 3) := bdX6_check_0.2.1
theorem dX6_check_4 : decode cX6_check 4 = .ok (.aload_n 0, 1) := bdX6_check_0.2.2.1
theorem dX6_check_5 : decode cX6_check 5 = .ok (.getfield 10, 3) := bdX6_check_0.2.2.2.1
theorem dX6_check_8 : decode cX6_check 8 = .ok (.invokevirtual 39, 3) := bdX6_check_0.2.2.2.2.1
theorem dX6_check_11 : decode cX6_check 11 = .ok (.aload_n 0, 1) := bdX6_check_0.2.2.2.2.2.1
theorem dX6_check_12 : decode cX6_check 12 = .ok (.aload_n 0, 1) := bdX6_check_0.2.2.2.2.2.2.1
theorem dX6_check_13 : decode cX6_check 13 = .ok (.getfield 10, 3) := bdX6_check_0.2.2.2.2.2.2.2.1
theorem dX6_check_16 : decode cX6_check 16 = .ok (.iload_n 1, 1) := bdX6_check_0.2.2.2.2.2.2.2.2.1
theorem dX6_check_17 : decode cX6_check 17 = .ok (.invokevirtual 70, 3) := bdX6_check_0.2.2.2.2.2.2.2.2.2.1
theorem dX6_check_20 : decode cX6_check 20 = .ok (.invokevirtual 47, 3) := bdX6_check_0.2.2.2.2.2.2.2.2.2.2.1
theorem dX6_check_23 : decode cX6_check 23 = .ok (.ireturn, 1) := bdX6_check_0.2.2.2.2.2.2.2.2.2.2.2
theorem bdX6_swap_0 : decode cX6_swap 0 = .ok (.aload_n 0, 1) ∧ decode cX6_swap 1 = .ok (.getfield 22, 3) ∧ decode cX6_swap 4 = .ok (.aload_n 0, 1) ∧ decode cX6_swap 5 = .ok (.getfield 10, 3) ∧ decode cX6_swap 8 = .ok (.invokevirtual 39, 3) ∧ decode cX6_swap 11 = .ok (.aload_n 0, 1) ∧ decode cX6_swap 12 = .ok (.aload_n 0, 1) ∧ decode cX6_swap 13 = .ok (.getfield 10, 3) ∧ decode cX6_swap 16 = .ok (.iload_n 1, 1) ∧ decode cX6_swap 17 = .ok (.iload_n 2, 1) ∧ decode cX6_swap 18 = .ok (.invokevirtual 73, 3) ∧ decode cX6_swap 21 = .ok (.invokevirtual 47, 3) ∧ decode cX6_swap 24 = .ok (.ireturn, 1) := by decide +kernel
theorem dX6_swap_0 : decode cX6_swap 0 = .ok (.aload_n 0, 1) := bdX6_swap_0.1
theorem dX6_swap_1 : decode cX6_swap 1 = .ok (.getfield 22, 3) := bdX6_swap_0.2.1
theorem dX6_swap_4 : decode cX6_swap 4 = .ok (.aload_n 0, 1) := bdX6_swap_0.2.2.1
theorem dX6_swap_5 : decode cX6_swap 5 = .ok (.getfield 10, 3) := bdX6_swap_0.2.2.2.1
theorem dX6_swap_8 : decode cX6_swap 8 = .ok (.invokevirtual 39, 3) := bdX6_swap_0.2.2.2.2.1
theorem dX6_swap_11 : decode cX6_swap 11 = .ok (.aload_n 0, 1) := bdX6_swap_0.2.2.2.2.2.1
theorem dX6_swap_12 : decode cX6_swap 12 = .ok (.aload_n 0, 1) := bdX6_swap_0.2.2.2.2.2.2.1
theorem dX6_swap_13 : decode cX6_swap 13 = .ok (.getfield 10, 3) := bdX6_swap_0.2.2.2.2.2.2.2.1
theorem dX6_swap_16 : decode cX6_swap 16 = .ok (.iload_n 1, 1) := bdX6_swap_0.2.2.2.2.2.2.2.2.1
theorem dX6_swap_17 : decode cX6_swap 17 = .ok (.iload_n 2, 1) := bdX6_swap_0.2.2.2.2.2.2.2.2.2.1
theorem dX6_swap_18 : decode cX6_swap 18 = .ok (.invokevirtual 73, 3) := bdX6_swap_0.2.2.2.2.2.2.2.2.2.2.1
theorem dX6_swap_21 : decode cX6_swap 21 = .ok (.invokevirtual 47, 3) := bdX6_swap_0.2.2.2.2.2.2.2.2.2.2.2.1
theorem dX6_swap_24 : decode cX6_swap 24 = .ok (.ireturn, 1) := bdX6_swap_0.2.2.2.2.2.2.2.2.2.2.2.2
theorem bdX6_pay_0 : decode cX6_pay 0 = .ok (.aload_n 0, 1) ∧ decode cX6_pay 1 = .ok (.getfield 22, 3) ∧ decode cX6_pay 4 = .ok (.aload_n 0, 1) ∧ decode cX6_pay 5 = .ok (.getfield 10, 3) ∧ decode cX6_pay 8 = .ok (.invokevirtual 39, 3) ∧ decode cX6_pay 11 = .ok (.aload_n 0, 1) ∧ decode cX6_pay 12 = .ok (.aload_n 0, 1) ∧ decode cX6_pay 13 = .ok (.getfield 10, 3) ∧ decode cX6_pay 16 = .ok (.iload_n 1, 1) ∧ decode cX6_pay 17 = .ok (.iload_n 2, 1) ∧ decode cX6_pay 18 = .ok (.invokevirtual 76, 3) ∧ decode cX6_pay 21 = .ok (.invokevirtual 47, 3) ∧ decode cX6_pay 24 = .ok (.ireturn, 1) := by decide +kernel
theorem dX6_pay_0 : decode cX6_pay 0 = .ok (.aload_n 0, 1) := bdX6_pay_0.1
theorem dX6_pay_1 : decode cX6_pay 1 = .ok (.getfield 22, 3) := bdX6_pay_0.2.1
theorem dX6_pay_4 : decode cX6_pay 4 = .ok (.aload_n 0, 1) := bdX6_pay_0.2.2.1
theorem dX6_pay_5 : decode cX6_pay 5 = .ok (.getfield 10, 3) := bdX6_pay_0.2.2.2.1
theorem dX6_pay_8 : decode cX6_pay 8 = .ok (.invokevirtual 39, 3) := bdX6_pay_0.2.2.2.2.1
theorem dX6_pay_11 : decode cX6_pay 11 = .ok (.aload_n 0, 1) := bdX6_pay_0.2.2.2.2.2.1
theorem dX6_pay_12 : decode cX6_pay 12 = .ok (.aload_n 0, 1) := bdX6_pay_0.2.2.2.2.2.2.1
theorem dX6_pay_13 : decode cX6_pay 13 = .ok (.getfield 10, 3) := bdX6_pay_0.2.2.2.2.2.2.2.1
theorem dX6_pay_16 : decode cX6_pay 16 = .ok (.iload_n 1, 1) := bdX6_pay_0.2.2.2.2.2.2.2.2.1
theorem dX6_pay_17 : decode cX6_pay 17 = .ok (.iload_n 2, 1) := bdX6_pay_0.2.2.2.2.2.2.2.2.2.1
theorem dX6_pay_18 : decode cX6_pay 18 = .ok (.invokevirtual 76, 3) := bdX6_pay_0.2.2.2.2.2.2.2.2.2.2.1
theorem dX6_pay_21 : decode cX6_pay 21 = .ok (.invokevirtual 47, 3) := bdX6_pay_0.2.2.2.2.2.2.2.2.2.2.2.1
theorem dX6_pay_24 : decode cX6_pay 24 = .ok (.ireturn, 1) := bdX6_pay_0.2.2.2.2.2.2.2.2.2.2.2.2
theorem bdX6_days_0 : decode cX6_days 0 = .ok (.aload_n 0, 1) ∧ decode cX6_days 1 = .ok (.getfield 22, 3) ∧ decode cX6_days 4 = .ok (.aload_n 0, 1) ∧ decode cX6_days 5 = .ok (.getfield 10, 3) ∧ decode cX6_days 8 = .ok (.invokevirtual 39, 3) ∧ decode cX6_days 11 = .ok (.aload_n 0, 1) ∧ decode cX6_days 12 = .ok (.aload_n 0, 1) ∧ decode cX6_days 13 = .ok (.getfield 10, 3) ∧ decode cX6_days 16 = .ok (.iload_n 1, 1) ∧ decode cX6_days 17 = .ok (.invokevirtual 79, 3) ∧ decode cX6_days 20 = .ok (.invokevirtual 47, 3) ∧ decode cX6_days 23 = .ok (.ireturn, 1) := by decide +kernel
theorem dX6_days_0 : decode cX6_days 0 = .ok (.aload_n 0, 1) := bdX6_days_0.1
theorem dX6_days_1 : decode cX6_days 1 = .ok (.getfield 22, 3) := bdX6_days_0.2.1
theorem dX6_days_4 : decode cX6_days 4 = .ok (.aload_n 0, 1) := bdX6_days_0.2.2.1
theorem dX6_days_5 : decode cX6_days 5 = .ok (.getfield 10, 3) := bdX6_days_0.2.2.2.1
theorem dX6_days_8 : decode cX6_days 8 = .ok (.invokevirtual 39, 3) := bdX6_days_0.2.2.2.2.1
theorem dX6_days_11 : decode cX6_days 11 = .ok (.aload_n 0, 1) := bdX6_days_0.2.2.2.2.2.1
theorem dX6_days_12 : decode cX6_days 12 = .ok (.aload_n 0, 1) := bdX6_days_0.2.2.2.2.2.2.1
theorem dX6_days_13 : decode cX6_days 13 = .ok (.getfield 10, 3) := bdX6_days_0.2.2.2.2.2.2.2.1
theorem dX6_days_16 : decode cX6_days 16 = .ok (.iload_n 1, 1) := bdX6_days_0.2.2.2.2.2.2.2.2.1
theorem dX6_days_17 : decode cX6_days 17 = .ok (.invokevirtual 79, 3) := bdX6_days_0.2.2.2.2.2.2.2.2.2.1
theorem dX6_days_20 : decode cX6_days 20 = .ok (.invokevirtual 47, 3) := bdX6_days_0.2.2.2.2.2.2.2.2.2.2.1
theorem dX6_days_23 : decode cX6_days 23 = .ok (.ireturn, 1) := bdX6_days_0.2.2.2.2.2.2.2.2.2.2.2
theorem bdX6_recorded_0 : decode cX6_recorded 0 = .ok (.iload_n 1, 1) ∧ decode cX6_recorded 1 = .ok (.ifCond .lt 10, 3) ∧ decode cX6_recorded 4 = .ok (.aload_n 0, 1) ∧ decode cX6_recorded 5 = .ok (.getfield 22, 3) ∧ decode cX6_recorded 8 = .ok (.invokevirtual 82, 3) ∧ decode cX6_recorded 11 = .ok (.iload_n 1, 1) ∧ decode cX6_recorded 12 = .ok (.ireturn, 1) := by decide +kernel
theorem dX6_recorded_0 : decode cX6_recorded 0 = .ok (.iload_n 1, 1) := bdX6_recorded_0.1
theorem dX6_recorded_1 : decode cX6_recorded 1 = .ok (.ifCond .lt 10, 3) := bdX6_recorded_0.2.1
theorem dX6_recorded_4 : decode cX6_recorded 4 = .ok (.aload_n 0, 1) := bdX6_recorded_0.2.2.1
theorem dX6_recorded_5 : decode cX6_recorded 5 = .ok (.getfield 22, 3) := bdX6_recorded_0.2.2.2.1
theorem dX6_recorded_8 : decode cX6_recorded 8 = .ok (.invokevirtual 82, 3) := bdX6_recorded_0.2.2.2.2.1
theorem dX6_recorded_11 : decode cX6_recorded 11 = .ok (.iload_n 1, 1) := bdX6_recorded_0.2.2.2.2.2.1
theorem dX6_recorded_12 : decode cX6_recorded 12 = .ok (.ireturn, 1) := bdX6_recorded_0.2.2.2.2.2.2
theorem bdX6_ofCart_0 : decode cX6_ofCart 0 = .ok (.aload_n 0, 1) ∧ decode cX6_ofCart 1 = .ok (.getfield 10, 3) ∧ decode cX6_ofCart 4 = .ok (.iload_n 1, 1) ∧ decode cX6_ofCart 5 = .ok (.invokevirtual 85, 3) ∧ decode cX6_ofCart 8 = .ok (.ifCond .ne 5, 3) ∧ decode cX6_ofCart 11 = .ok (.iconst (-1), 1) ∧ decode cX6_ofCart 12 = .ok (.ireturn, 1) ∧ decode cX6_ofCart 13 = .ok (.iload_n 2, 1) ∧ decode cX6_ofCart 14 = .ok (.ifCond .lt 9, 3) ∧ decode cX6_ofCart 17 = .ok (.iload_n 2, 1) ∧ decode cX6_ofCart 18 = .ok (.bipush 15, 2) ∧ decode cX6_ofCart 20 = .ok (.if_icmp .le 6, 3) ∧ decode cX6_ofCart 23 = .ok (.bipush (-2), 2) ∧ decode cX6_ofCart 25 = .ok (.ireturn, 1) ∧ decode cX6_ofCart 26 = .ok (.aload_n 0, 1) ∧ decode cX6_ofCart 27 = .ok (.getfield 10, 3) := by decide +kernel
theorem dX6_ofCart_0 : decode cX6_ofCart 0 = .ok (.aload_n 0, 1) := bdX6_ofCart_0.1
theorem dX6_ofCart_1 : decode cX6_ofCart 1 = .ok (.getfield 10, 3) := bdX6_ofCart_0.2.1
theorem dX6_ofCart_4 : decode cX6_ofCart 4 = .ok (.iload_n 1, 1) := bdX6_ofCart_0.2.2.1
theorem dX6_ofCart_5 : decode cX6_ofCart 5 = .ok (.invokevirtual 85, 3) := bdX6_ofCart_0.2.2.2.1
theorem dX6_ofCart_8 : decode cX6_ofCart 8 = .ok (.ifCond .ne 5, 3) := bdX6_ofCart_0.2.2.2.2.1
theorem dX6_ofCart_11 : decode cX6_ofCart 11 = .ok (.iconst (-1), 1) := bdX6_ofCart_0.2.2.2.2.2.1
theorem dX6_ofCart_12 : decode cX6_ofCart 12 = .ok (.ireturn, 1) := bdX6_ofCart_0.2.2.2.2.2.2.1
theorem dX6_ofCart_13 : decode cX6_ofCart 13 = .ok (.iload_n 2, 1) := bdX6_ofCart_0.2.2.2.2.2.2.2.1
theorem dX6_ofCart_14 : decode cX6_ofCart 14 = .ok (.ifCond .lt 9, 3) := bdX6_ofCart_0.2.2.2.2.2.2.2.2.1
theorem dX6_ofCart_17 : decode cX6_ofCart 17 = .ok (.iload_n 2, 1) := bdX6_ofCart_0.2.2.2.2.2.2.2.2.2.1
theorem dX6_ofCart_18 : decode cX6_ofCart 18 = .ok (.bipush 15, 2) := bdX6_ofCart_0.2.2.2.2.2.2.2.2.2.2.1
theorem dX6_ofCart_20 : decode cX6_ofCart 20 = .ok (.if_icmp .le 6, 3) := bdX6_ofCart_0.2.2.2.2.2.2.2.2.2.2.2.1
theorem dX6_ofCart_23 : decode cX6_ofCart 23 = .ok (.bipush (-2), 2) := bdX6_ofCart_0.2.2.2.2.2.2.2.2.2.2.2.2.1
theorem dX6_ofCart_25 : decode cX6_ofCart 25 = .ok (.ireturn, 1) := bdX6_ofCart_0.2.2.2.2.2.2.2.2.2.2.2.2.2.1
theorem dX6_ofCart_26 : decode cX6_ofCart 26 = .ok (.aload_n 0, 1) := bdX6_ofCart_0.2.2.2.2.2.2.2.2.2.2.2.2.2.2.1
theorem dX6_ofCart_27 : decode cX6_ofCart 27 = .ok (.getfield 10, 3) := bdX6_ofCart_0.2.2.2.2.2.2.2.2.2.2.2.2.2.2.2
theorem bdX6_ofCart_30 : decode cX6_ofCart 30 = .ok (.getfield 89, 3) ∧ decode cX6_ofCart 33 = .ok (.iload_n 1, 1) ∧ decode cX6_ofCart 34 = .ok (.aaload, 1) ∧ decode cX6_ofCart 35 = .ok (.astore_n 3, 1) ∧ decode cX6_ofCart 36 = .ok (.iload_n 2, 1) ∧ decode cX6_ofCart 37 = .ok (.bipush 9, 2) ∧ decode cX6_ofCart 39 = .ok (.if_icmp .ge 12, 3) ∧ decode cX6_ofCart 42 = .ok (.aload_n 0, 1) ∧ decode cX6_ofCart 43 = .ok (.aload_n 3, 1) ∧ decode cX6_ofCart 44 = .ok (.iload_n 2, 1) ∧ decode cX6_ofCart 45 = .ok (.invokevirtual 93, 3) ∧ decode cX6_ofCart 48 = .ok (.goto 9, 3) ∧ decode cX6_ofCart 51 = .ok (.aload_n 0, 1) ∧ decode cX6_ofCart 52 = .ok (.aload_n 3, 1) ∧ decode cX6_ofCart 53 = .ok (.iload_n 2, 1) ∧ decode cX6_ofCart 54 = .ok (.invokevirtual 97, 3) := by decide +kernel
theorem dX6_ofCart_30 : decode cX6_ofCart 30 = .ok (.getfield 89, 3) := bdX6_ofCart_30.1
theorem dX6_ofCart_33 : decode cX6_ofCart 33 = .ok (.iload_n 1, 1) := bdX6_ofCart_30.2.1
theorem dX6_ofCart_34 : decode cX6_ofCart 34 = .ok (.aaload, 1) := bdX6_ofCart_30.2.2.1
theorem dX6_ofCart_35 : decode cX6_ofCart 35 = .ok (.astore_n 3, 1) := bdX6_ofCart_30.2.2.2.1
theorem dX6_ofCart_36 : decode cX6_ofCart 36 = .ok (.iload_n 2, 1) := bdX6_ofCart_30.2.2.2.2.1
theorem dX6_ofCart_37 : decode cX6_ofCart 37 = .ok (.bipush 9, 2) := bdX6_ofCart_30.2.2.2.2.2.1
theorem dX6_ofCart_39 : decode cX6_ofCart 39 = .ok (.if_icmp .ge 12, 3) := bdX6_ofCart_30.2.2.2.2.2.2.1
theorem dX6_ofCart_42 : decode cX6_ofCart 42 = .ok (.aload_n 0, 1) := bdX6_ofCart_30.2.2.2.2.2.2.2.1
theorem dX6_ofCart_43 : decode cX6_ofCart 43 = .ok (.aload_n 3, 1) := bdX6_ofCart_30.2.2.2.2.2.2.2.2.1
theorem dX6_ofCart_44 : decode cX6_ofCart 44 = .ok (.iload_n 2, 1) := bdX6_ofCart_30.2.2.2.2.2.2.2.2.2.1
theorem dX6_ofCart_45 : decode cX6_ofCart 45 = .ok (.invokevirtual 93, 3) := bdX6_ofCart_30.2.2.2.2.2.2.2.2.2.2.1
theorem dX6_ofCart_48 : decode cX6_ofCart 48 = .ok (.goto 9, 3) := bdX6_ofCart_30.2.2.2.2.2.2.2.2.2.2.2.1
theorem dX6_ofCart_51 : decode cX6_ofCart 51 = .ok (.aload_n 0, 1) := bdX6_ofCart_30.2.2.2.2.2.2.2.2.2.2.2.2.1
theorem dX6_ofCart_52 : decode cX6_ofCart 52 = .ok (.aload_n 3, 1) := bdX6_ofCart_30.2.2.2.2.2.2.2.2.2.2.2.2.2.1
theorem dX6_ofCart_53 : decode cX6_ofCart 53 = .ok (.iload_n 2, 1) := bdX6_ofCart_30.2.2.2.2.2.2.2.2.2.2.2.2.2.2.1
theorem dX6_ofCart_54 : decode cX6_ofCart 54 = .ok (.invokevirtual 97, 3) := bdX6_ofCart_30.2.2.2.2.2.2.2.2.2.2.2.2.2.2.2
theorem dX6_ofCart_57 : decode cX6_ofCart 57 = .ok (.ireturn, 1) := by decide +kernel
theorem bdX6_aboutCart_0 : decode cX6_aboutCart 0 = .ok (.iload_n 2, 1) ∧ decode cX6_aboutCart 1 = .ok (.tableswitch 80 0 7 #[47, 52, 57, 62, 62, 62, 70, 75], 47) ∧ decode cX6_aboutCart 48 = .ok (.aload_n 1, 1) ∧ decode cX6_aboutCart 49 = .ok (.getfield 100, 3) ∧ decode cX6_aboutCart 52 = .ok (.ireturn, 1) ∧ decode cX6_aboutCart 53 = .ok (.aload_n 1, 1) ∧ decode cX6_aboutCart 54 = .ok (.getfield 106, 3) ∧ decode cX6_aboutCart 57 = .ok (.ireturn, 1) ∧ decode cX6_aboutCart 58 = .ok (.aload_n 1, 1) ∧ decode cX6_aboutCart 59 = .ok (.getfield 109, 3) ∧ decode cX6_aboutCart 62 = .ok (.ireturn, 1) ∧ decode cX6_aboutCart 63 = .ok (.aload_n 1, 1) ∧ decode cX6_aboutCart 64 = .ok (.iload_n 2, 1) ∧ decode cX6_aboutCart 65 = .ok (.iconst 3, 1) ∧ decode cX6_aboutCart 66 = .ok (.isub, 1) ∧ decode cX6_aboutCart 67 = .ok (.invokevirtual 112, 3) := by decide +kernel
theorem dX6_aboutCart_0 : decode cX6_aboutCart 0 = .ok (.iload_n 2, 1) := bdX6_aboutCart_0.1
theorem dX6_aboutCart_1 : decode cX6_aboutCart 1 = .ok (.tableswitch 80 0 7 #[47, 52, 57, 62, 62, 62, 70, 75], 47) := bdX6_aboutCart_0.2.1
theorem dX6_aboutCart_48 : decode cX6_aboutCart 48 = .ok (.aload_n 1, 1) := bdX6_aboutCart_0.2.2.1
theorem dX6_aboutCart_49 : decode cX6_aboutCart 49 = .ok (.getfield 100, 3) := bdX6_aboutCart_0.2.2.2.1
theorem dX6_aboutCart_52 : decode cX6_aboutCart 52 = .ok (.ireturn, 1) := bdX6_aboutCart_0.2.2.2.2.1
theorem dX6_aboutCart_53 : decode cX6_aboutCart 53 = .ok (.aload_n 1, 1) := bdX6_aboutCart_0.2.2.2.2.2.1
theorem dX6_aboutCart_54 : decode cX6_aboutCart 54 = .ok (.getfield 106, 3) := bdX6_aboutCart_0.2.2.2.2.2.2.1
theorem dX6_aboutCart_57 : decode cX6_aboutCart 57 = .ok (.ireturn, 1) := bdX6_aboutCart_0.2.2.2.2.2.2.2.1
theorem dX6_aboutCart_58 : decode cX6_aboutCart 58 = .ok (.aload_n 1, 1) := bdX6_aboutCart_0.2.2.2.2.2.2.2.2.1
theorem dX6_aboutCart_59 : decode cX6_aboutCart 59 = .ok (.getfield 109, 3) := bdX6_aboutCart_0.2.2.2.2.2.2.2.2.2.1
theorem dX6_aboutCart_62 : decode cX6_aboutCart 62 = .ok (.ireturn, 1) := bdX6_aboutCart_0.2.2.2.2.2.2.2.2.2.2.1
theorem dX6_aboutCart_63 : decode cX6_aboutCart 63 = .ok (.aload_n 1, 1) := bdX6_aboutCart_0.2.2.2.2.2.2.2.2.2.2.2.1
theorem dX6_aboutCart_64 : decode cX6_aboutCart 64 = .ok (.iload_n 2, 1) := bdX6_aboutCart_0.2.2.2.2.2.2.2.2.2.2.2.2.1
theorem dX6_aboutCart_65 : decode cX6_aboutCart 65 = .ok (.iconst 3, 1) := bdX6_aboutCart_0.2.2.2.2.2.2.2.2.2.2.2.2.2.1
theorem dX6_aboutCart_66 : decode cX6_aboutCart 66 = .ok (.isub, 1) := bdX6_aboutCart_0.2.2.2.2.2.2.2.2.2.2.2.2.2.2.1
theorem dX6_aboutCart_67 : decode cX6_aboutCart 67 = .ok (.invokevirtual 112, 3) := bdX6_aboutCart_0.2.2.2.2.2.2.2.2.2.2.2.2.2.2.2
theorem bdX6_aboutCart_70 : decode cX6_aboutCart 70 = .ok (.ireturn, 1) ∧ decode cX6_aboutCart 71 = .ok (.aload_n 1, 1) ∧ decode cX6_aboutCart 72 = .ok (.getfield 115, 3) ∧ decode cX6_aboutCart 75 = .ok (.ireturn, 1) ∧ decode cX6_aboutCart 76 = .ok (.aload_n 1, 1) ∧ decode cX6_aboutCart 77 = .ok (.getfield 118, 3) ∧ decode cX6_aboutCart 80 = .ok (.ireturn, 1) ∧ decode cX6_aboutCart 81 = .ok (.aload_n 1, 1) ∧ decode cX6_aboutCart 82 = .ok (.getfield 121, 3) ∧ decode cX6_aboutCart 85 = .ok (.ifCond .eq 7, 3) ∧ decode cX6_aboutCart 88 = .ok (.iconst 1, 1) ∧ decode cX6_aboutCart 89 = .ok (.goto 4, 3) ∧ decode cX6_aboutCart 92 = .ok (.iconst 0, 1) ∧ decode cX6_aboutCart 93 = .ok (.ireturn, 1) := by decide +kernel
theorem dX6_aboutCart_70 : decode cX6_aboutCart 70 = .ok (.ireturn, 1) := bdX6_aboutCart_70.1
theorem dX6_aboutCart_71 : decode cX6_aboutCart 71 = .ok (.aload_n 1, 1) := bdX6_aboutCart_70.2.1
theorem dX6_aboutCart_72 : decode cX6_aboutCart 72 = .ok (.getfield 115, 3) := bdX6_aboutCart_70.2.2.1
theorem dX6_aboutCart_75 : decode cX6_aboutCart 75 = .ok (.ireturn, 1) := bdX6_aboutCart_70.2.2.2.1
theorem dX6_aboutCart_76 : decode cX6_aboutCart 76 = .ok (.aload_n 1, 1) := bdX6_aboutCart_70.2.2.2.2.1
theorem dX6_aboutCart_77 : decode cX6_aboutCart 77 = .ok (.getfield 118, 3) := bdX6_aboutCart_70.2.2.2.2.2.1
theorem dX6_aboutCart_80 : decode cX6_aboutCart 80 = .ok (.ireturn, 1) := bdX6_aboutCart_70.2.2.2.2.2.2.1
theorem dX6_aboutCart_81 : decode cX6_aboutCart 81 = .ok (.aload_n 1, 1) := bdX6_aboutCart_70.2.2.2.2.2.2.2.1
theorem dX6_aboutCart_82 : decode cX6_aboutCart 82 = .ok (.getfield 121, 3) := bdX6_aboutCart_70.2.2.2.2.2.2.2.2.1
theorem dX6_aboutCart_85 : decode cX6_aboutCart 85 = .ok (.ifCond .eq 7, 3) := bdX6_aboutCart_70.2.2.2.2.2.2.2.2.2.1
theorem dX6_aboutCart_88 : decode cX6_aboutCart 88 = .ok (.iconst 1, 1) := bdX6_aboutCart_70.2.2.2.2.2.2.2.2.2.2.1
theorem dX6_aboutCart_89 : decode cX6_aboutCart 89 = .ok (.goto 4, 3) := bdX6_aboutCart_70.2.2.2.2.2.2.2.2.2.2.2.1
theorem dX6_aboutCart_92 : decode cX6_aboutCart 92 = .ok (.iconst 0, 1) := bdX6_aboutCart_70.2.2.2.2.2.2.2.2.2.2.2.2.1
theorem dX6_aboutCart_93 : decode cX6_aboutCart 93 = .ok (.ireturn, 1) := bdX6_aboutCart_70.2.2.2.2.2.2.2.2.2.2.2.2.2
theorem bdX6_aboutPastOfCart_0 : decode cX6_aboutPastOfCart 0 = .ok (.iload_n 2, 1) ∧ decode cX6_aboutPastOfCart 1 = .ok (.tableswitch 92 9 14 #[39, 67, 72, 77, 82, 87], 39) ∧ decode cX6_aboutPastOfCart 40 = .ok (.aload_n 1, 1) ∧ decode cX6_aboutPastOfCart 41 = .ok (.aload_n 0, 1) ∧ decode cX6_aboutPastOfCart 42 = .ok (.getfield 10, 3) ∧ decode cX6_aboutPastOfCart 45 = .ok (.getfield 125, 3) ∧ decode cX6_aboutPastOfCart 48 = .ok (.aload_n 0, 1) ∧ decode cX6_aboutPastOfCart 49 = .ok (.getfield 10, 3) ∧ decode cX6_aboutPastOfCart 52 = .ok (.getfield 125, 3) ∧ decode cX6_aboutPastOfCart 55 = .ok (.aload_n 0, 1) ∧ decode cX6_aboutPastOfCart 56 = .ok (.getfield 10, 3) ∧ decode cX6_aboutPastOfCart 59 = .ok (.getfield 128, 3) ∧ decode cX6_aboutPastOfCart 62 = .ok (.iconst 5, 1) ∧ decode cX6_aboutPastOfCart 63 = .ok (.iaload, 1) ∧ decode cX6_aboutPastOfCart 64 = .ok (.invokevirtual 132, 3) ∧ decode cX6_aboutPastOfCart 67 = .ok (.ireturn, 1) := by decide +kernel
theorem dX6_aboutPastOfCart_0 : decode cX6_aboutPastOfCart 0 = .ok (.iload_n 2, 1) := bdX6_aboutPastOfCart_0.1
theorem dX6_aboutPastOfCart_1 : decode cX6_aboutPastOfCart 1 = .ok (.tableswitch 92 9 14 #[39, 67, 72, 77, 82, 87], 39) := bdX6_aboutPastOfCart_0.2.1
theorem dX6_aboutPastOfCart_40 : decode cX6_aboutPastOfCart 40 = .ok (.aload_n 1, 1) := bdX6_aboutPastOfCart_0.2.2.1
theorem dX6_aboutPastOfCart_41 : decode cX6_aboutPastOfCart 41 = .ok (.aload_n 0, 1) := bdX6_aboutPastOfCart_0.2.2.2.1
theorem dX6_aboutPastOfCart_42 : decode cX6_aboutPastOfCart 42 = .ok (.getfield 10, 3) := bdX6_aboutPastOfCart_0.2.2.2.2.1
theorem dX6_aboutPastOfCart_45 : decode cX6_aboutPastOfCart 45 = .ok (.getfield 125, 3) := bdX6_aboutPastOfCart_0.2.2.2.2.2.1
theorem dX6_aboutPastOfCart_48 : decode cX6_aboutPastOfCart 48 = .ok (.aload_n 0, 1) := bdX6_aboutPastOfCart_0.2.2.2.2.2.2.1
theorem dX6_aboutPastOfCart_49 : decode cX6_aboutPastOfCart 49 = .ok (.getfield 10, 3) := bdX6_aboutPastOfCart_0.2.2.2.2.2.2.2.1
theorem dX6_aboutPastOfCart_52 : decode cX6_aboutPastOfCart 52 = .ok (.getfield 125, 3) := bdX6_aboutPastOfCart_0.2.2.2.2.2.2.2.2.1
theorem dX6_aboutPastOfCart_55 : decode cX6_aboutPastOfCart 55 = .ok (.aload_n 0, 1) := bdX6_aboutPastOfCart_0.2.2.2.2.2.2.2.2.2.1
theorem dX6_aboutPastOfCart_56 : decode cX6_aboutPastOfCart 56 = .ok (.getfield 10, 3) := bdX6_aboutPastOfCart_0.2.2.2.2.2.2.2.2.2.2.1
theorem dX6_aboutPastOfCart_59 : decode cX6_aboutPastOfCart 59 = .ok (.getfield 128, 3) := bdX6_aboutPastOfCart_0.2.2.2.2.2.2.2.2.2.2.2.1
theorem dX6_aboutPastOfCart_62 : decode cX6_aboutPastOfCart 62 = .ok (.iconst 5, 1) := bdX6_aboutPastOfCart_0.2.2.2.2.2.2.2.2.2.2.2.2.1
theorem dX6_aboutPastOfCart_63 : decode cX6_aboutPastOfCart 63 = .ok (.iaload, 1) := bdX6_aboutPastOfCart_0.2.2.2.2.2.2.2.2.2.2.2.2.2.1
theorem dX6_aboutPastOfCart_64 : decode cX6_aboutPastOfCart 64 = .ok (.invokevirtual 132, 3) := bdX6_aboutPastOfCart_0.2.2.2.2.2.2.2.2.2.2.2.2.2.2.1
theorem dX6_aboutPastOfCart_67 : decode cX6_aboutPastOfCart 67 = .ok (.ireturn, 1) := bdX6_aboutPastOfCart_0.2.2.2.2.2.2.2.2.2.2.2.2.2.2.2
theorem bdX6_aboutPastOfCart_68 : decode cX6_aboutPastOfCart 68 = .ok (.aload_n 1, 1) ∧ decode cX6_aboutPastOfCart 69 = .ok (.getfield 136, 3) ∧ decode cX6_aboutPastOfCart 72 = .ok (.ireturn, 1) ∧ decode cX6_aboutPastOfCart 73 = .ok (.aload_n 1, 1) ∧ decode cX6_aboutPastOfCart 74 = .ok (.getfield 139, 3) ∧ decode cX6_aboutPastOfCart 77 = .ok (.ireturn, 1) ∧ decode cX6_aboutPastOfCart 78 = .ok (.aload_n 1, 1) ∧ decode cX6_aboutPastOfCart 79 = .ok (.getfield 142, 3) ∧ decode cX6_aboutPastOfCart 82 = .ok (.ireturn, 1) ∧ decode cX6_aboutPastOfCart 83 = .ok (.aload_n 1, 1) ∧ decode cX6_aboutPastOfCart 84 = .ok (.getfield 145, 3) ∧ decode cX6_aboutPastOfCart 87 = .ok (.ireturn, 1) ∧ decode cX6_aboutPastOfCart 88 = .ok (.aload_n 1, 1) ∧ decode cX6_aboutPastOfCart 89 = .ok (.getfield 148, 3) ∧ decode cX6_aboutPastOfCart 92 = .ok (.ireturn, 1) ∧ decode cX6_aboutPastOfCart 93 = .ok (.aload_n 1, 1) := by decide +kernel
theorem dX6_aboutPastOfCart_68 : decode cX6_aboutPastOfCart 68 = .ok (.aload_n 1, 1) := bdX6_aboutPastOfCart_68.1
theorem dX6_aboutPastOfCart_69 : decode cX6_aboutPastOfCart 69 = .ok (.getfield 136, 3) := bdX6_aboutPastOfCart_68.2.1
theorem dX6_aboutPastOfCart_72 : decode cX6_aboutPastOfCart 72 = .ok (.ireturn, 1) := bdX6_aboutPastOfCart_68.2.2.1
theorem dX6_aboutPastOfCart_73 : decode cX6_aboutPastOfCart 73 = .ok (.aload_n 1, 1) := bdX6_aboutPastOfCart_68.2.2.2.1
theorem dX6_aboutPastOfCart_74 : decode cX6_aboutPastOfCart 74 = .ok (.getfield 139, 3) := bdX6_aboutPastOfCart_68.2.2.2.2.1
theorem dX6_aboutPastOfCart_77 : decode cX6_aboutPastOfCart 77 = .ok (.ireturn, 1) := bdX6_aboutPastOfCart_68.2.2.2.2.2.1
theorem dX6_aboutPastOfCart_78 : decode cX6_aboutPastOfCart 78 = .ok (.aload_n 1, 1) := bdX6_aboutPastOfCart_68.2.2.2.2.2.2.1
theorem dX6_aboutPastOfCart_79 : decode cX6_aboutPastOfCart 79 = .ok (.getfield 142, 3) := bdX6_aboutPastOfCart_68.2.2.2.2.2.2.2.1
theorem dX6_aboutPastOfCart_82 : decode cX6_aboutPastOfCart 82 = .ok (.ireturn, 1) := bdX6_aboutPastOfCart_68.2.2.2.2.2.2.2.2.1
theorem dX6_aboutPastOfCart_83 : decode cX6_aboutPastOfCart 83 = .ok (.aload_n 1, 1) := bdX6_aboutPastOfCart_68.2.2.2.2.2.2.2.2.2.1
theorem dX6_aboutPastOfCart_84 : decode cX6_aboutPastOfCart 84 = .ok (.getfield 145, 3) := bdX6_aboutPastOfCart_68.2.2.2.2.2.2.2.2.2.2.1
theorem dX6_aboutPastOfCart_87 : decode cX6_aboutPastOfCart 87 = .ok (.ireturn, 1) := bdX6_aboutPastOfCart_68.2.2.2.2.2.2.2.2.2.2.2.1
theorem dX6_aboutPastOfCart_88 : decode cX6_aboutPastOfCart 88 = .ok (.aload_n 1, 1) := bdX6_aboutPastOfCart_68.2.2.2.2.2.2.2.2.2.2.2.2.1
theorem dX6_aboutPastOfCart_89 : decode cX6_aboutPastOfCart 89 = .ok (.getfield 148, 3) := bdX6_aboutPastOfCart_68.2.2.2.2.2.2.2.2.2.2.2.2.2.1
theorem dX6_aboutPastOfCart_92 : decode cX6_aboutPastOfCart 92 = .ok (.ireturn, 1) := bdX6_aboutPastOfCart_68.2.2.2.2.2.2.2.2.2.2.2.2.2.2.1
theorem dX6_aboutPastOfCart_93 : decode cX6_aboutPastOfCart 93 = .ok (.aload_n 1, 1) := bdX6_aboutPastOfCart_68.2.2.2.2.2.2.2.2.2.2.2.2.2.2.2
theorem bdX6_aboutPastOfCart_94 : decode cX6_aboutPastOfCart 94 = .ok (.getfield 151, 3) ∧ decode cX6_aboutPastOfCart 97 = .ok (.ireturn, 1) := by decide +kernel
theorem dX6_aboutPastOfCart_94 : decode cX6_aboutPastOfCart 94 = .ok (.getfield 151, 3) := bdX6_aboutPastOfCart_94.1
theorem dX6_aboutPastOfCart_97 : decode cX6_aboutPastOfCart 97 = .ok (.ireturn, 1) := bdX6_aboutPastOfCart_94.2
theorem bdX6_money_0 : decode cX6_money 0 = .ok (.aload_n 0, 1) ∧ decode cX6_money 1 = .ok (.getfield 10, 3) ∧ decode cX6_money 4 = .ok (.iload_n 1, 1) ∧ decode cX6_money 5 = .ok (.invokevirtual 85, 3) ∧ decode cX6_money 8 = .ok (.ifCond .ne 7, 3) ∧ decode cX6_money 11 = .ok (.ldc2_w 154, 3) ∧ decode cX6_money 14 = .ok (.lreturn, 1) ∧ decode cX6_money 15 = .ok (.aload_n 0, 1) ∧ decode cX6_money 16 = .ok (.getfield 10, 3) ∧ decode cX6_money 19 = .ok (.getfield 89, 3) ∧ decode cX6_money 22 = .ok (.iload_n 1, 1) ∧ decode cX6_money 23 = .ok (.aaload, 1) ∧ decode cX6_money 24 = .ok (.astore_n 3, 1) ∧ decode cX6_money 25 = .ok (.iload_n 2, 1) ∧ decode cX6_money 26 = .ok (.tableswitch 59 0 4 #[34, 39, 44, 49, 54], 34) ∧ decode cX6_money 60 = .ok (.aload_n 3, 1) := by decide +kernel
theorem dX6_money_0 : decode cX6_money 0 = .ok (.aload_n 0, 1) := bdX6_money_0.1
theorem dX6_money_1 : decode cX6_money 1 = .ok (.getfield 10, 3) := bdX6_money_0.2.1
theorem dX6_money_4 : decode cX6_money 4 = .ok (.iload_n 1, 1) := bdX6_money_0.2.2.1
theorem dX6_money_5 : decode cX6_money 5 = .ok (.invokevirtual 85, 3) := bdX6_money_0.2.2.2.1
theorem dX6_money_8 : decode cX6_money 8 = .ok (.ifCond .ne 7, 3) := bdX6_money_0.2.2.2.2.1
theorem dX6_money_11 : decode cX6_money 11 = .ok (.ldc2_w 154, 3) := bdX6_money_0.2.2.2.2.2.1
theorem dX6_money_14 : decode cX6_money 14 = .ok (.lreturn, 1) := bdX6_money_0.2.2.2.2.2.2.1
theorem dX6_money_15 : decode cX6_money 15 = .ok (.aload_n 0, 1) := bdX6_money_0.2.2.2.2.2.2.2.1
theorem dX6_money_16 : decode cX6_money 16 = .ok (.getfield 10, 3) := bdX6_money_0.2.2.2.2.2.2.2.2.1
theorem dX6_money_19 : decode cX6_money 19 = .ok (.getfield 89, 3) := bdX6_money_0.2.2.2.2.2.2.2.2.2.1
theorem dX6_money_22 : decode cX6_money 22 = .ok (.iload_n 1, 1) := bdX6_money_0.2.2.2.2.2.2.2.2.2.2.1
theorem dX6_money_23 : decode cX6_money 23 = .ok (.aaload, 1) := bdX6_money_0.2.2.2.2.2.2.2.2.2.2.2.1
theorem dX6_money_24 : decode cX6_money 24 = .ok (.astore_n 3, 1) := bdX6_money_0.2.2.2.2.2.2.2.2.2.2.2.2.1
theorem dX6_money_25 : decode cX6_money 25 = .ok (.iload_n 2, 1) := bdX6_money_0.2.2.2.2.2.2.2.2.2.2.2.2.2.1
theorem dX6_money_26 : decode cX6_money 26 = .ok (.tableswitch 59 0 4 #[34, 39, 44, 49, 54], 34) := bdX6_money_0.2.2.2.2.2.2.2.2.2.2.2.2.2.2.1
theorem dX6_money_60 : decode cX6_money 60 = .ok (.aload_n 3, 1) := bdX6_money_0.2.2.2.2.2.2.2.2.2.2.2.2.2.2.2
theorem bdX6_money_61 : decode cX6_money 61 = .ok (.invokevirtual 156, 3) ∧ decode cX6_money 64 = .ok (.lreturn, 1) ∧ decode cX6_money 65 = .ok (.aload_n 3, 1) ∧ decode cX6_money 66 = .ok (.getfield 160, 3) ∧ decode cX6_money 69 = .ok (.lreturn, 1) ∧ decode cX6_money 70 = .ok (.aload_n 3, 1) ∧ decode cX6_money 71 = .ok (.getfield 164, 3) ∧ decode cX6_money 74 = .ok (.lreturn, 1) ∧ decode cX6_money 75 = .ok (.aload_n 3, 1) ∧ decode cX6_money 76 = .ok (.getfield 167, 3) ∧ decode cX6_money 79 = .ok (.lreturn, 1) ∧ decode cX6_money 80 = .ok (.aload_n 3, 1) ∧ decode cX6_money 81 = .ok (.getfield 170, 3) ∧ decode cX6_money 84 = .ok (.lreturn, 1) ∧ decode cX6_money 85 = .ok (.ldc2_w 173, 3) ∧ decode cX6_money 88 = .ok (.lreturn, 1) := by decide +kernel
theorem dX6_money_61 : decode cX6_money 61 = .ok (.invokevirtual 156, 3) := bdX6_money_61.1
theorem dX6_money_64 : decode cX6_money 64 = .ok (.lreturn, 1) := bdX6_money_61.2.1
theorem dX6_money_65 : decode cX6_money 65 = .ok (.aload_n 3, 1) := bdX6_money_61.2.2.1
theorem dX6_money_66 : decode cX6_money 66 = .ok (.getfield 160, 3) := bdX6_money_61.2.2.2.1
theorem dX6_money_69 : decode cX6_money 69 = .ok (.lreturn, 1) := bdX6_money_61.2.2.2.2.1
theorem dX6_money_70 : decode cX6_money 70 = .ok (.aload_n 3, 1) := bdX6_money_61.2.2.2.2.2.1
theorem dX6_money_71 : decode cX6_money 71 = .ok (.getfield 164, 3) := bdX6_money_61.2.2.2.2.2.2.1
theorem dX6_money_74 : decode cX6_money 74 = .ok (.lreturn, 1) := bdX6_money_61.2.2.2.2.2.2.2.1
theorem dX6_money_75 : decode cX6_money 75 = .ok (.aload_n 3, 1) := bdX6_money_61.2.2.2.2.2.2.2.2.1
theorem dX6_money_76 : decode cX6_money 76 = .ok (.getfield 167, 3) := bdX6_money_61.2.2.2.2.2.2.2.2.2.1
theorem dX6_money_79 : decode cX6_money 79 = .ok (.lreturn, 1) := bdX6_money_61.2.2.2.2.2.2.2.2.2.2.1
theorem dX6_money_80 : decode cX6_money 80 = .ok (.aload_n 3, 1) := bdX6_money_61.2.2.2.2.2.2.2.2.2.2.2.1
theorem dX6_money_81 : decode cX6_money 81 = .ok (.getfield 170, 3) := bdX6_money_61.2.2.2.2.2.2.2.2.2.2.2.2.1
theorem dX6_money_84 : decode cX6_money 84 = .ok (.lreturn, 1) := bdX6_money_61.2.2.2.2.2.2.2.2.2.2.2.2.2.1
theorem dX6_money_85 : decode cX6_money 85 = .ok (.ldc2_w 173, 3) := bdX6_money_61.2.2.2.2.2.2.2.2.2.2.2.2.2.2.1
theorem dX6_money_88 : decode cX6_money 88 = .ok (.lreturn, 1) := bdX6_money_61.2.2.2.2.2.2.2.2.2.2.2.2.2.2.2
theorem bdX6_ofPitch_0 : decode cX6_ofPitch 0 = .ok (.aload_n 0, 1) ∧ decode cX6_ofPitch 1 = .ok (.getfield 10, 3) ∧ decode cX6_ofPitch 4 = .ok (.iload_n 1, 1) ∧ decode cX6_ofPitch 5 = .ok (.invokevirtual 175, 3) ∧ decode cX6_ofPitch 8 = .ok (.ifCond .ne 5, 3) ∧ decode cX6_ofPitch 11 = .ok (.iconst (-1), 1) ∧ decode cX6_ofPitch 12 = .ok (.ireturn, 1) ∧ decode cX6_ofPitch 13 = .ok (.aload_n 0, 1) ∧ decode cX6_ofPitch 14 = .ok (.getfield 10, 3) ∧ decode cX6_ofPitch 17 = .ok (.getfield 178, 3) ∧ decode cX6_ofPitch 20 = .ok (.iload_n 1, 1) ∧ decode cX6_ofPitch 21 = .ok (.aaload, 1) ∧ decode cX6_ofPitch 22 = .ok (.astore_n 3, 1) ∧ decode cX6_ofPitch 23 = .ok (.iload_n 2, 1) ∧ decode cX6_ofPitch 24 = .ok (.tableswitch 52 0 3 #[32, 37, 42, 47], 32) ∧ decode cX6_ofPitch 56 = .ok (.aload_n 3, 1) := by decide +kernel
theorem dX6_ofPitch_0 : decode cX6_ofPitch 0 = .ok (.aload_n 0, 1) := bdX6_ofPitch_0.1
theorem dX6_ofPitch_1 : decode cX6_ofPitch 1 = .ok (.getfield 10, 3) := bdX6_ofPitch_0.2.1
theorem dX6_ofPitch_4 : decode cX6_ofPitch 4 = .ok (.iload_n 1, 1) := bdX6_ofPitch_0.2.2.1
theorem dX6_ofPitch_5 : decode cX6_ofPitch 5 = .ok (.invokevirtual 175, 3) := bdX6_ofPitch_0.2.2.2.1
theorem dX6_ofPitch_8 : decode cX6_ofPitch 8 = .ok (.ifCond .ne 5, 3) := bdX6_ofPitch_0.2.2.2.2.1
theorem dX6_ofPitch_11 : decode cX6_ofPitch 11 = .ok (.iconst (-1), 1) := bdX6_ofPitch_0.2.2.2.2.2.1
theorem dX6_ofPitch_12 : decode cX6_ofPitch 12 = .ok (.ireturn, 1) := bdX6_ofPitch_0.2.2.2.2.2.2.1
theorem dX6_ofPitch_13 : decode cX6_ofPitch 13 = .ok (.aload_n 0, 1) := bdX6_ofPitch_0.2.2.2.2.2.2.2.1
theorem dX6_ofPitch_14 : decode cX6_ofPitch 14 = .ok (.getfield 10, 3) := bdX6_ofPitch_0.2.2.2.2.2.2.2.2.1
theorem dX6_ofPitch_17 : decode cX6_ofPitch 17 = .ok (.getfield 178, 3) := bdX6_ofPitch_0.2.2.2.2.2.2.2.2.2.1
theorem dX6_ofPitch_20 : decode cX6_ofPitch 20 = .ok (.iload_n 1, 1) := bdX6_ofPitch_0.2.2.2.2.2.2.2.2.2.2.1
theorem dX6_ofPitch_21 : decode cX6_ofPitch 21 = .ok (.aaload, 1) := bdX6_ofPitch_0.2.2.2.2.2.2.2.2.2.2.2.1
theorem dX6_ofPitch_22 : decode cX6_ofPitch 22 = .ok (.astore_n 3, 1) := bdX6_ofPitch_0.2.2.2.2.2.2.2.2.2.2.2.2.1
theorem dX6_ofPitch_23 : decode cX6_ofPitch 23 = .ok (.iload_n 2, 1) := bdX6_ofPitch_0.2.2.2.2.2.2.2.2.2.2.2.2.2.1
theorem dX6_ofPitch_24 : decode cX6_ofPitch 24 = .ok (.tableswitch 52 0 3 #[32, 37, 42, 47], 32) := bdX6_ofPitch_0.2.2.2.2.2.2.2.2.2.2.2.2.2.2.1
theorem dX6_ofPitch_56 : decode cX6_ofPitch 56 = .ok (.aload_n 3, 1) := bdX6_ofPitch_0.2.2.2.2.2.2.2.2.2.2.2.2.2.2.2
theorem bdX6_ofPitch_57 : decode cX6_ofPitch 57 = .ok (.getfield 182, 3) ∧ decode cX6_ofPitch 60 = .ok (.ireturn, 1) ∧ decode cX6_ofPitch 61 = .ok (.aload_n 3, 1) ∧ decode cX6_ofPitch 62 = .ok (.getfield 187, 3) ∧ decode cX6_ofPitch 65 = .ok (.ireturn, 1) ∧ decode cX6_ofPitch 66 = .ok (.aload_n 3, 1) ∧ decode cX6_ofPitch 67 = .ok (.getfield 190, 3) ∧ decode cX6_ofPitch 70 = .ok (.ireturn, 1) ∧ decode cX6_ofPitch 71 = .ok (.aload_n 3, 1) ∧ decode cX6_ofPitch 72 = .ok (.getfield 193, 3) ∧ decode cX6_ofPitch 75 = .ok (.ireturn, 1) ∧ decode cX6_ofPitch 76 = .ok (.bipush (-2), 2) ∧ decode cX6_ofPitch 78 = .ok (.ireturn, 1) := by decide +kernel
theorem dX6_ofPitch_57 : decode cX6_ofPitch 57 = .ok (.getfield 182, 3) := bdX6_ofPitch_57.1
theorem dX6_ofPitch_60 : decode cX6_ofPitch 60 = .ok (.ireturn, 1) := bdX6_ofPitch_57.2.1
theorem dX6_ofPitch_61 : decode cX6_ofPitch 61 = .ok (.aload_n 3, 1) := bdX6_ofPitch_57.2.2.1
theorem dX6_ofPitch_62 : decode cX6_ofPitch 62 = .ok (.getfield 187, 3) := bdX6_ofPitch_57.2.2.2.1
theorem dX6_ofPitch_65 : decode cX6_ofPitch 65 = .ok (.ireturn, 1) := bdX6_ofPitch_57.2.2.2.2.1
theorem dX6_ofPitch_66 : decode cX6_ofPitch 66 = .ok (.aload_n 3, 1) := bdX6_ofPitch_57.2.2.2.2.2.1
theorem dX6_ofPitch_67 : decode cX6_ofPitch 67 = .ok (.getfield 190, 3) := bdX6_ofPitch_57.2.2.2.2.2.2.1
theorem dX6_ofPitch_70 : decode cX6_ofPitch 70 = .ok (.ireturn, 1) := bdX6_ofPitch_57.2.2.2.2.2.2.2.1
theorem dX6_ofPitch_71 : decode cX6_ofPitch 71 = .ok (.aload_n 3, 1) := bdX6_ofPitch_57.2.2.2.2.2.2.2.2.1
theorem dX6_ofPitch_72 : decode cX6_ofPitch 72 = .ok (.getfield 193, 3) := bdX6_ofPitch_57.2.2.2.2.2.2.2.2.2.1
theorem dX6_ofPitch_75 : decode cX6_ofPitch 75 = .ok (.ireturn, 1) := bdX6_ofPitch_57.2.2.2.2.2.2.2.2.2.2.1
theorem dX6_ofPitch_76 : decode cX6_ofPitch 76 = .ok (.bipush (-2), 2) := bdX6_ofPitch_57.2.2.2.2.2.2.2.2.2.2.2.1
theorem dX6_ofPitch_78 : decode cX6_ofPitch 78 = .ok (.ireturn, 1) := bdX6_ofPitch_57.2.2.2.2.2.2.2.2.2.2.2.2
theorem bdX6_count_0 : decode cX6_count 0 = .ok (.iload_n 1, 1) ∧ decode cX6_count 1 = .ok (.bipush 8, 2) ∧ decode cX6_count 3 = .ok (.if_icmp .lt 22, 3) ∧ decode cX6_count 6 = .ok (.iload_n 1, 1) ∧ decode cX6_count 7 = .ok (.bipush 18, 2) ∧ decode cX6_count 9 = .ok (.if_icmp .ge 16, 3) ∧ decode cX6_count 12 = .ok (.aload_n 0, 1) ∧ decode cX6_count 13 = .ok (.getfield 10, 3) ∧ decode cX6_count 16 = .ok (.getfield 128, 3) ∧ decode cX6_count 19 = .ok (.iload_n 1, 1) ∧ decode cX6_count 20 = .ok (.bipush 8, 2) ∧ decode cX6_count 22 = .ok (.isub, 1) ∧ decode cX6_count 23 = .ok (.iaload, 1) ∧ decode cX6_count 24 = .ok (.ireturn, 1) ∧ decode cX6_count 25 = .ok (.iload_n 1, 1) ∧ decode cX6_count 26 = .ok (.tableswitch 174 0 19 #[94, 102, 110, 118, 126, 134, 142, 150, 174, 174, 174, 174, 174, 174, 174, 174, 174, 174, 158, 166], 94) := by decide +kernel
theorem dX6_count_0 : decode cX6_count 0 = .ok (.iload_n 1, 1) := bdX6_count_0.1
theorem dX6_count_1 : decode cX6_count 1 = .ok (.bipush 8, 2) := bdX6_count_0.2.1
theorem dX6_count_3 : decode cX6_count 3 = .ok (.if_icmp .lt 22, 3) := bdX6_count_0.2.2.1
theorem dX6_count_6 : decode cX6_count 6 = .ok (.iload_n 1, 1) := bdX6_count_0.2.2.2.1
theorem dX6_count_7 : decode cX6_count 7 = .ok (.bipush 18, 2) := bdX6_count_0.2.2.2.2.1
theorem dX6_count_9 : decode cX6_count 9 = .ok (.if_icmp .ge 16, 3) := bdX6_count_0.2.2.2.2.2.1
theorem dX6_count_12 : decode cX6_count 12 = .ok (.aload_n 0, 1) := bdX6_count_0.2.2.2.2.2.2.1
theorem dX6_count_13 : decode cX6_count 13 = .ok (.getfield 10, 3) := bdX6_count_0.2.2.2.2.2.2.2.1
theorem dX6_count_16 : decode cX6_count 16 = .ok (.getfield 128, 3) := bdX6_count_0.2.2.2.2.2.2.2.2.1
theorem dX6_count_19 : decode cX6_count 19 = .ok (.iload_n 1, 1) := bdX6_count_0.2.2.2.2.2.2.2.2.2.1
theorem dX6_count_20 : decode cX6_count 20 = .ok (.bipush 8, 2) := bdX6_count_0.2.2.2.2.2.2.2.2.2.2.1
theorem dX6_count_22 : decode cX6_count 22 = .ok (.isub, 1) := bdX6_count_0.2.2.2.2.2.2.2.2.2.2.2.1
theorem dX6_count_23 : decode cX6_count 23 = .ok (.iaload, 1) := bdX6_count_0.2.2.2.2.2.2.2.2.2.2.2.2.1
theorem dX6_count_24 : decode cX6_count 24 = .ok (.ireturn, 1) := bdX6_count_0.2.2.2.2.2.2.2.2.2.2.2.2.2.1
theorem dX6_count_25 : decode cX6_count 25 = .ok (.iload_n 1, 1) := bdX6_count_0.2.2.2.2.2.2.2.2.2.2.2.2.2.2.1
theorem dX6_count_26 : decode cX6_count 26 = .ok (.tableswitch 174 0 19 #[94, 102, 110, 118, 126, 134, 142, 150, 174, 174, 174, 174, 174, 174, 174, 174, 174, 174, 158, 166], 94) := bdX6_count_0.2.2.2.2.2.2.2.2.2.2.2.2.2.2.2
theorem bdX6_count_120 : decode cX6_count 120 = .ok (.aload_n 0, 1) ∧ decode cX6_count 121 = .ok (.getfield 10, 3) ∧ decode cX6_count 124 = .ok (.getfield 125, 3) ∧ decode cX6_count 127 = .ok (.ireturn, 1) ∧ decode cX6_count 128 = .ok (.aload_n 0, 1) ∧ decode cX6_count 129 = .ok (.getfield 10, 3) ∧ decode cX6_count 132 = .ok (.getfield 196, 3) ∧ decode cX6_count 135 = .ok (.ireturn, 1) ∧ decode cX6_count 136 = .ok (.aload_n 0, 1) ∧ decode cX6_count 137 = .ok (.getfield 10, 3) ∧ decode cX6_count 140 = .ok (.getfield 199, 3) ∧ decode cX6_count 143 = .ok (.ireturn, 1) ∧ decode cX6_count 144 = .ok (.aload_n 0, 1) ∧ decode cX6_count 145 = .ok (.getfield 10, 3) ∧ decode cX6_count 148 = .ok (.getfield 202, 3) ∧ decode cX6_count 151 = .ok (.ireturn, 1) := by decide +kernel
theorem dX6_count_120 : decode cX6_count 120 = .ok (.aload_n 0, 1) := bdX6_count_120.1
theorem dX6_count_121 : decode cX6_count 121 = .ok (.getfield 10, 3) := bdX6_count_120.2.1
theorem dX6_count_124 : decode cX6_count 124 = .ok (.getfield 125, 3) := bdX6_count_120.2.2.1
theorem dX6_count_127 : decode cX6_count 127 = .ok (.ireturn, 1) := bdX6_count_120.2.2.2.1
theorem dX6_count_128 : decode cX6_count 128 = .ok (.aload_n 0, 1) := bdX6_count_120.2.2.2.2.1
theorem dX6_count_129 : decode cX6_count 129 = .ok (.getfield 10, 3) := bdX6_count_120.2.2.2.2.2.1
theorem dX6_count_132 : decode cX6_count 132 = .ok (.getfield 196, 3) := bdX6_count_120.2.2.2.2.2.2.1
theorem dX6_count_135 : decode cX6_count 135 = .ok (.ireturn, 1) := bdX6_count_120.2.2.2.2.2.2.2.1
theorem dX6_count_136 : decode cX6_count 136 = .ok (.aload_n 0, 1) := bdX6_count_120.2.2.2.2.2.2.2.2.1
theorem dX6_count_137 : decode cX6_count 137 = .ok (.getfield 10, 3) := bdX6_count_120.2.2.2.2.2.2.2.2.2.1
theorem dX6_count_140 : decode cX6_count 140 = .ok (.getfield 199, 3) := bdX6_count_120.2.2.2.2.2.2.2.2.2.2.1
theorem dX6_count_143 : decode cX6_count 143 = .ok (.ireturn, 1) := bdX6_count_120.2.2.2.2.2.2.2.2.2.2.2.1
theorem dX6_count_144 : decode cX6_count 144 = .ok (.aload_n 0, 1) := bdX6_count_120.2.2.2.2.2.2.2.2.2.2.2.2.1
theorem dX6_count_145 : decode cX6_count 145 = .ok (.getfield 10, 3) := bdX6_count_120.2.2.2.2.2.2.2.2.2.2.2.2.2.1
theorem dX6_count_148 : decode cX6_count 148 = .ok (.getfield 202, 3) := bdX6_count_120.2.2.2.2.2.2.2.2.2.2.2.2.2.2.1
theorem dX6_count_151 : decode cX6_count 151 = .ok (.ireturn, 1) := bdX6_count_120.2.2.2.2.2.2.2.2.2.2.2.2.2.2.2
theorem bdX6_count_152 : decode cX6_count 152 = .ok (.aload_n 0, 1) ∧ decode cX6_count 153 = .ok (.getfield 10, 3) ∧ decode cX6_count 156 = .ok (.invokevirtual 205, 3) ∧ decode cX6_count 159 = .ok (.ireturn, 1) ∧ decode cX6_count 160 = .ok (.aload_n 0, 1) ∧ decode cX6_count 161 = .ok (.getfield 10, 3) ∧ decode cX6_count 164 = .ok (.getfield 209, 3) ∧ decode cX6_count 167 = .ok (.ireturn, 1) ∧ decode cX6_count 168 = .ok (.aload_n 0, 1) ∧ decode cX6_count 169 = .ok (.getfield 35, 3) ∧ decode cX6_count 172 = .ok (.getfield 212, 3) ∧ decode cX6_count 175 = .ok (.ireturn, 1) ∧ decode cX6_count 176 = .ok (.aload_n 0, 1) ∧ decode cX6_count 177 = .ok (.getfield 22, 3) ∧ decode cX6_count 180 = .ok (.getfield 215, 3) ∧ decode cX6_count 183 = .ok (.ireturn, 1) := by decide +kernel
theorem dX6_count_152 : decode cX6_count 152 = .ok (.aload_n 0, 1) := bdX6_count_152.1
theorem dX6_count_153 : decode cX6_count 153 = .ok (.getfield 10, 3) := bdX6_count_152.2.1
theorem dX6_count_156 : decode cX6_count 156 = .ok (.invokevirtual 205, 3) := bdX6_count_152.2.2.1
theorem dX6_count_159 : decode cX6_count 159 = .ok (.ireturn, 1) := bdX6_count_152.2.2.2.1
theorem dX6_count_160 : decode cX6_count 160 = .ok (.aload_n 0, 1) := bdX6_count_152.2.2.2.2.1
theorem dX6_count_161 : decode cX6_count 161 = .ok (.getfield 10, 3) := bdX6_count_152.2.2.2.2.2.1
theorem dX6_count_164 : decode cX6_count 164 = .ok (.getfield 209, 3) := bdX6_count_152.2.2.2.2.2.2.1
theorem dX6_count_167 : decode cX6_count 167 = .ok (.ireturn, 1) := bdX6_count_152.2.2.2.2.2.2.2.1
theorem dX6_count_168 : decode cX6_count 168 = .ok (.aload_n 0, 1) := bdX6_count_152.2.2.2.2.2.2.2.2.1
theorem dX6_count_169 : decode cX6_count 169 = .ok (.getfield 35, 3) := bdX6_count_152.2.2.2.2.2.2.2.2.2.1
theorem dX6_count_172 : decode cX6_count 172 = .ok (.getfield 212, 3) := bdX6_count_152.2.2.2.2.2.2.2.2.2.2.1
theorem dX6_count_175 : decode cX6_count 175 = .ok (.ireturn, 1) := bdX6_count_152.2.2.2.2.2.2.2.2.2.2.2.1
theorem dX6_count_176 : decode cX6_count 176 = .ok (.aload_n 0, 1) := bdX6_count_152.2.2.2.2.2.2.2.2.2.2.2.2.1
theorem dX6_count_177 : decode cX6_count 177 = .ok (.getfield 22, 3) := bdX6_count_152.2.2.2.2.2.2.2.2.2.2.2.2.2.1
theorem dX6_count_180 : decode cX6_count 180 = .ok (.getfield 215, 3) := bdX6_count_152.2.2.2.2.2.2.2.2.2.2.2.2.2.2.1
theorem dX6_count_183 : decode cX6_count 183 = .ok (.ireturn, 1) := bdX6_count_152.2.2.2.2.2.2.2.2.2.2.2.2.2.2.2
theorem bdX6_count_184 : decode cX6_count 184 = .ok (.aload_n 0, 1) ∧ decode cX6_count 185 = .ok (.getfield 10, 3) ∧ decode cX6_count 188 = .ok (.invokevirtual 218, 3) ∧ decode cX6_count 191 = .ok (.ireturn, 1) ∧ decode cX6_count 192 = .ok (.aload_n 0, 1) ∧ decode cX6_count 193 = .ok (.getfield 10, 3) ∧ decode cX6_count 196 = .ok (.getfield 221, 3) ∧ decode cX6_count 199 = .ok (.ireturn, 1) ∧ decode cX6_count 200 = .ok (.bipush (-2), 2) ∧ decode cX6_count 202 = .ok (.ireturn, 1) := by decide +kernel
theorem dX6_count_184 : decode cX6_count 184 = .ok (.aload_n 0, 1) := bdX6_count_184.1
theorem dX6_count_185 : decode cX6_count 185 = .ok (.getfield 10, 3) := bdX6_count_184.2.1
theorem dX6_count_188 : decode cX6_count 188 = .ok (.invokevirtual 218, 3) := bdX6_count_184.2.2.1
theorem dX6_count_191 : decode cX6_count 191 = .ok (.ireturn, 1) := bdX6_count_184.2.2.2.1
theorem dX6_count_192 : decode cX6_count 192 = .ok (.aload_n 0, 1) := bdX6_count_184.2.2.2.2.1
theorem dX6_count_193 : decode cX6_count 193 = .ok (.getfield 10, 3) := bdX6_count_184.2.2.2.2.2.1
theorem dX6_count_196 : decode cX6_count 196 = .ok (.getfield 221, 3) := bdX6_count_184.2.2.2.2.2.2.1
theorem dX6_count_199 : decode cX6_count 199 = .ok (.ireturn, 1) := bdX6_count_184.2.2.2.2.2.2.2.1
theorem dX6_count_200 : decode cX6_count 200 = .ok (.bipush (-2), 2) := bdX6_count_184.2.2.2.2.2.2.2.2.1
theorem dX6_count_202 : decode cX6_count 202 = .ok (.ireturn, 1) := bdX6_count_184.2.2.2.2.2.2.2.2.2
theorem bdX6_pointsOn_0 : decode cX6_pointsOn 0 = .ok (.aload_n 0, 1) ∧ decode cX6_pointsOn 1 = .ok (.getfield 10, 3) ∧ decode cX6_pointsOn 4 = .ok (.iload_n 1, 1) ∧ decode cX6_pointsOn 5 = .ok (.invokevirtual 85, 3) ∧ decode cX6_pointsOn 8 = .ok (.ifCond .ne 5, 3) ∧ decode cX6_pointsOn 11 = .ok (.iconst (-1), 1) ∧ decode cX6_pointsOn 12 = .ok (.ireturn, 1) ∧ decode cX6_pointsOn 13 = .ok (.iload_n 2, 1) ∧ decode cX6_pointsOn 14 = .ok (.aload_n 0, 1) ∧ decode cX6_pointsOn 15 = .ok (.getfield 10, 3) ∧ decode cX6_pointsOn 18 = .ok (.getfield 125, 3) ∧ decode cX6_pointsOn 21 = .ok (.if_icmp .lt 18, 3) ∧ decode cX6_pointsOn 24 = .ok (.iload_n 2, 1) ∧ decode cX6_pointsOn 25 = .ok (.aload_n 0, 1) ∧ decode cX6_pointsOn 26 = .ok (.getfield 10, 3) ∧ decode cX6_pointsOn 29 = .ok (.getfield 125, 3) := by decide +kernel
theorem dX6_pointsOn_0 : decode cX6_pointsOn 0 = .ok (.aload_n 0, 1) := bdX6_pointsOn_0.1
theorem dX6_pointsOn_1 : decode cX6_pointsOn 1 = .ok (.getfield 10, 3) := bdX6_pointsOn_0.2.1
theorem dX6_pointsOn_4 : decode cX6_pointsOn 4 = .ok (.iload_n 1, 1) := bdX6_pointsOn_0.2.2.1
theorem dX6_pointsOn_5 : decode cX6_pointsOn 5 = .ok (.invokevirtual 85, 3) := bdX6_pointsOn_0.2.2.2.1
theorem dX6_pointsOn_8 : decode cX6_pointsOn 8 = .ok (.ifCond .ne 5, 3) := bdX6_pointsOn_0.2.2.2.2.1
theorem dX6_pointsOn_11 : decode cX6_pointsOn 11 = .ok (.iconst (-1), 1) := bdX6_pointsOn_0.2.2.2.2.2.1
theorem dX6_pointsOn_12 : decode cX6_pointsOn 12 = .ok (.ireturn, 1) := bdX6_pointsOn_0.2.2.2.2.2.2.1
theorem dX6_pointsOn_13 : decode cX6_pointsOn 13 = .ok (.iload_n 2, 1) := bdX6_pointsOn_0.2.2.2.2.2.2.2.1
theorem dX6_pointsOn_14 : decode cX6_pointsOn 14 = .ok (.aload_n 0, 1) := bdX6_pointsOn_0.2.2.2.2.2.2.2.2.1
theorem dX6_pointsOn_15 : decode cX6_pointsOn 15 = .ok (.getfield 10, 3) := bdX6_pointsOn_0.2.2.2.2.2.2.2.2.2.1
theorem dX6_pointsOn_18 : decode cX6_pointsOn 18 = .ok (.getfield 125, 3) := bdX6_pointsOn_0.2.2.2.2.2.2.2.2.2.2.1
theorem dX6_pointsOn_21 : decode cX6_pointsOn 21 = .ok (.if_icmp .lt 18, 3) := bdX6_pointsOn_0.2.2.2.2.2.2.2.2.2.2.2.1
theorem dX6_pointsOn_24 : decode cX6_pointsOn 24 = .ok (.iload_n 2, 1) := bdX6_pointsOn_0.2.2.2.2.2.2.2.2.2.2.2.2.1
theorem dX6_pointsOn_25 : decode cX6_pointsOn 25 = .ok (.aload_n 0, 1) := bdX6_pointsOn_0.2.2.2.2.2.2.2.2.2.2.2.2.2.1
theorem dX6_pointsOn_26 : decode cX6_pointsOn 26 = .ok (.getfield 10, 3) := bdX6_pointsOn_0.2.2.2.2.2.2.2.2.2.2.2.2.2.2.1
theorem dX6_pointsOn_29 : decode cX6_pointsOn 29 = .ok (.getfield 125, 3) := bdX6_pointsOn_0.2.2.2.2.2.2.2.2.2.2.2.2.2.2.2
theorem bdX6_pointsOn_32 : decode cX6_pointsOn 32 = .ok (.sipush 400, 3) ∧ decode cX6_pointsOn 35 = .ok (.iadd, 1) ∧ decode cX6_pointsOn 36 = .ok (.if_icmp .le 6, 3) ∧ decode cX6_pointsOn 39 = .ok (.bipush (-2), 2) ∧ decode cX6_pointsOn 41 = .ok (.ireturn, 1) ∧ decode cX6_pointsOn 42 = .ok (.aload_n 0, 1) ∧ decode cX6_pointsOn 43 = .ok (.getfield 10, 3) ∧ decode cX6_pointsOn 46 = .ok (.getfield 89, 3) ∧ decode cX6_pointsOn 49 = .ok (.iload_n 1, 1) ∧ decode cX6_pointsOn 50 = .ok (.aaload, 1) ∧ decode cX6_pointsOn 51 = .ok (.iload_n 2, 1) ∧ decode cX6_pointsOn 52 = .ok (.aload_n 0, 1) ∧ decode cX6_pointsOn 53 = .ok (.getfield 10, 3) ∧ decode cX6_pointsOn 56 = .ok (.getfield 125, 3) ∧ decode cX6_pointsOn 59 = .ok (.aload_n 0, 1) ∧ decode cX6_pointsOn 60 = .ok (.getfield 10, 3) := by decide +kernel
theorem dX6_pointsOn_32 : decode cX6_pointsOn 32 = .ok (.sipush 400, 3) := bdX6_pointsOn_32.1
theorem dX6_pointsOn_35 : decode cX6_pointsOn 35 = .ok (.iadd, 1) := bdX6_pointsOn_32.2.1
theorem dX6_pointsOn_36 : decode cX6_pointsOn 36 = .ok (.if_icmp .le 6, 3) := bdX6_pointsOn_32.2.2.1
theorem dX6_pointsOn_39 : decode cX6_pointsOn 39 = .ok (.bipush (-2), 2) := bdX6_pointsOn_32.2.2.2.1
theorem dX6_pointsOn_41 : decode cX6_pointsOn 41 = .ok (.ireturn, 1) := bdX6_pointsOn_32.2.2.2.2.1
theorem dX6_pointsOn_42 : decode cX6_pointsOn 42 = .ok (.aload_n 0, 1) := bdX6_pointsOn_32.2.2.2.2.2.1
theorem dX6_pointsOn_43 : decode cX6_pointsOn 43 = .ok (.getfield 10, 3) := bdX6_pointsOn_32.2.2.2.2.2.2.1
theorem dX6_pointsOn_46 : decode cX6_pointsOn 46 = .ok (.getfield 89, 3) := bdX6_pointsOn_32.2.2.2.2.2.2.2.1
theorem dX6_pointsOn_49 : decode cX6_pointsOn 49 = .ok (.iload_n 1, 1) := bdX6_pointsOn_32.2.2.2.2.2.2.2.2.1
theorem dX6_pointsOn_50 : decode cX6_pointsOn 50 = .ok (.aaload, 1) := bdX6_pointsOn_32.2.2.2.2.2.2.2.2.2.1
theorem dX6_pointsOn_51 : decode cX6_pointsOn 51 = .ok (.iload_n 2, 1) := bdX6_pointsOn_32.2.2.2.2.2.2.2.2.2.2.1
theorem dX6_pointsOn_52 : decode cX6_pointsOn 52 = .ok (.aload_n 0, 1) := bdX6_pointsOn_32.2.2.2.2.2.2.2.2.2.2.2.1
theorem dX6_pointsOn_53 : decode cX6_pointsOn 53 = .ok (.getfield 10, 3) := bdX6_pointsOn_32.2.2.2.2.2.2.2.2.2.2.2.2.1
theorem dX6_pointsOn_56 : decode cX6_pointsOn 56 = .ok (.getfield 125, 3) := bdX6_pointsOn_32.2.2.2.2.2.2.2.2.2.2.2.2.2.1
theorem dX6_pointsOn_59 : decode cX6_pointsOn 59 = .ok (.aload_n 0, 1) := bdX6_pointsOn_32.2.2.2.2.2.2.2.2.2.2.2.2.2.2.1
theorem dX6_pointsOn_60 : decode cX6_pointsOn 60 = .ok (.getfield 10, 3) := bdX6_pointsOn_32.2.2.2.2.2.2.2.2.2.2.2.2.2.2.2
theorem bdX6_pointsOn_63 : decode cX6_pointsOn 63 = .ok (.getfield 128, 3) ∧ decode cX6_pointsOn 66 = .ok (.iconst 5, 1) ∧ decode cX6_pointsOn 67 = .ok (.iaload, 1) ∧ decode cX6_pointsOn 68 = .ok (.invokevirtual 132, 3) ∧ decode cX6_pointsOn 71 = .ok (.ireturn, 1) := by decide +kernel
theorem dX6_pointsOn_63 : decode cX6_pointsOn 63 = .ok (.getfield 128, 3) := bdX6_pointsOn_63.1
theorem dX6_pointsOn_66 : decode cX6_pointsOn 66 = .ok (.iconst 5, 1) := bdX6_pointsOn_63.2.1
theorem dX6_pointsOn_67 : decode cX6_pointsOn 67 = .ok (.iaload, 1) := bdX6_pointsOn_63.2.2.1
theorem dX6_pointsOn_68 : decode cX6_pointsOn 68 = .ok (.invokevirtual 132, 3) := bdX6_pointsOn_63.2.2.2.1
theorem dX6_pointsOn_71 : decode cX6_pointsOn 71 = .ok (.ireturn, 1) := bdX6_pointsOn_63.2.2.2.2
theorem bdX6_wouldHave_0 : decode cX6_wouldHave 0 = .ok (.aload_n 0, 1) ∧ decode cX6_wouldHave 1 = .ok (.getfield 10, 3) ∧ decode cX6_wouldHave 4 = .ok (.iload_n 1, 1) ∧ decode cX6_wouldHave 5 = .ok (.invokevirtual 85, 3) ∧ decode cX6_wouldHave 8 = .ok (.ifCond .ne 5, 3) ∧ decode cX6_wouldHave 11 = .ok (.iconst (-1), 1) ∧ decode cX6_wouldHave 12 = .ok (.ireturn, 1) ∧ decode cX6_wouldHave 13 = .ok (.aload_n 0, 1) ∧ decode cX6_wouldHave 14 = .ok (.getfield 16, 3) ∧ decode cX6_wouldHave 17 = .ok (.aload_n 0, 1) ∧ decode cX6_wouldHave 18 = .ok (.getfield 10, 3) ∧ decode cX6_wouldHave 21 = .ok (.invokevirtual 224, 3) ∧ decode cX6_wouldHave 24 = .ok (.aload_n 0, 1) ∧ decode cX6_wouldHave 25 = .ok (.iload_n 1, 1) ∧ decode cX6_wouldHave 26 = .ok (.invokevirtual 227, 3) ∧ decode cX6_wouldHave 29 = .ok (.ireturn, 1) := by decide +kernel
theorem dX6_wouldHave_0 : decode cX6_wouldHave 0 = .ok (.aload_n 0, 1) := bdX6_wouldHave_0.1
theorem dX6_wouldHave_1 : decode cX6_wouldHave 1 = .ok (.getfield 10, 3) := bdX6_wouldHave_0.2.1
theorem dX6_wouldHave_4 : decode cX6_wouldHave 4 = .ok (.iload_n 1, 1) := bdX6_wouldHave_0.2.2.1
theorem dX6_wouldHave_5 : decode cX6_wouldHave 5 = .ok (.invokevirtual 85, 3) := bdX6_wouldHave_0.2.2.2.1
theorem dX6_wouldHave_8 : decode cX6_wouldHave 8 = .ok (.ifCond .ne 5, 3) := bdX6_wouldHave_0.2.2.2.2.1
theorem dX6_wouldHave_11 : decode cX6_wouldHave 11 = .ok (.iconst (-1), 1) := bdX6_wouldHave_0.2.2.2.2.2.1
theorem dX6_wouldHave_12 : decode cX6_wouldHave 12 = .ok (.ireturn, 1) := bdX6_wouldHave_0.2.2.2.2.2.2.1
theorem dX6_wouldHave_13 : decode cX6_wouldHave 13 = .ok (.aload_n 0, 1) := bdX6_wouldHave_0.2.2.2.2.2.2.2.1
theorem dX6_wouldHave_14 : decode cX6_wouldHave 14 = .ok (.getfield 16, 3) := bdX6_wouldHave_0.2.2.2.2.2.2.2.2.1
theorem dX6_wouldHave_17 : decode cX6_wouldHave 17 = .ok (.aload_n 0, 1) := bdX6_wouldHave_0.2.2.2.2.2.2.2.2.2.1
theorem dX6_wouldHave_18 : decode cX6_wouldHave 18 = .ok (.getfield 10, 3) := bdX6_wouldHave_0.2.2.2.2.2.2.2.2.2.2.1
theorem dX6_wouldHave_21 : decode cX6_wouldHave 21 = .ok (.invokevirtual 224, 3) := bdX6_wouldHave_0.2.2.2.2.2.2.2.2.2.2.2.1
theorem dX6_wouldHave_24 : decode cX6_wouldHave 24 = .ok (.aload_n 0, 1) := bdX6_wouldHave_0.2.2.2.2.2.2.2.2.2.2.2.2.1
theorem dX6_wouldHave_25 : decode cX6_wouldHave 25 = .ok (.iload_n 1, 1) := bdX6_wouldHave_0.2.2.2.2.2.2.2.2.2.2.2.2.2.1
theorem dX6_wouldHave_26 : decode cX6_wouldHave 26 = .ok (.invokevirtual 227, 3) := bdX6_wouldHave_0.2.2.2.2.2.2.2.2.2.2.2.2.2.2.1
theorem dX6_wouldHave_29 : decode cX6_wouldHave 29 = .ok (.ireturn, 1) := bdX6_wouldHave_0.2.2.2.2.2.2.2.2.2.2.2.2.2.2.2
theorem bdX6_ifWished_0 : decode cX6_ifWished 0 = .ok (.aload_n 0, 1) ∧ decode cX6_ifWished 1 = .ok (.getfield 10, 3) ∧ decode cX6_ifWished 4 = .ok (.iload_n 1, 1) ∧ decode cX6_ifWished 5 = .ok (.invokevirtual 85, 3) ∧ decode cX6_ifWished 8 = .ok (.ifCond .eq 14, 3) ∧ decode cX6_ifWished 11 = .ok (.aload_n 0, 1) ∧ decode cX6_ifWished 12 = .ok (.getfield 10, 3) ∧ decode cX6_ifWished 15 = .ok (.iload_n 2, 1) ∧ decode cX6_ifWished 16 = .ok (.invokevirtual 175, 3) ∧ decode cX6_ifWished 19 = .ok (.ifCond .ne 5, 3) ∧ decode cX6_ifWished 22 = .ok (.iconst (-1), 1) ∧ decode cX6_ifWished 23 = .ok (.ireturn, 1) ∧ decode cX6_ifWished 24 = .ok (.aload_n 0, 1) ∧ decode cX6_ifWished 25 = .ok (.getfield 16, 3) ∧ decode cX6_ifWished 28 = .ok (.aload_n 0, 1) ∧ decode cX6_ifWished 29 = .ok (.getfield 10, 3) := by decide +kernel
theorem dX6_ifWished_0 : decode cX6_ifWished 0 = .ok (.aload_n 0, 1) := bdX6_ifWished_0.1
theorem dX6_ifWished_1 : decode cX6_ifWished 1 = .ok (.getfield 10, 3) := bdX6_ifWished_0.2.1
theorem dX6_ifWished_4 : decode cX6_ifWished 4 = .ok (.iload_n 1, 1) := bdX6_ifWished_0.2.2.1
theorem dX6_ifWished_5 : decode cX6_ifWished 5 = .ok (.invokevirtual 85, 3) := bdX6_ifWished_0.2.2.2.1
theorem dX6_ifWished_8 : decode cX6_ifWished 8 = .ok (.ifCond .eq 14, 3) := bdX6_ifWished_0.2.2.2.2.1
theorem dX6_ifWished_11 : decode cX6_ifWished 11 = .ok (.aload_n 0, 1) := bdX6_ifWished_0.2.2.2.2.2.1
theorem dX6_ifWished_12 : decode cX6_ifWished 12 = .ok (.getfield 10, 3) := bdX6_ifWished_0.2.2.2.2.2.2.1
theorem dX6_ifWished_15 : decode cX6_ifWished 15 = .ok (.iload_n 2, 1) := bdX6_ifWished_0.2.2.2.2.2.2.2.1
theorem dX6_ifWished_16 : decode cX6_ifWished 16 = .ok (.invokevirtual 175, 3) := bdX6_ifWished_0.2.2.2.2.2.2.2.2.1
theorem dX6_ifWished_19 : decode cX6_ifWished 19 = .ok (.ifCond .ne 5, 3) := bdX6_ifWished_0.2.2.2.2.2.2.2.2.2.1
theorem dX6_ifWished_22 : decode cX6_ifWished 22 = .ok (.iconst (-1), 1) := bdX6_ifWished_0.2.2.2.2.2.2.2.2.2.2.1
theorem dX6_ifWished_23 : decode cX6_ifWished 23 = .ok (.ireturn, 1) := bdX6_ifWished_0.2.2.2.2.2.2.2.2.2.2.2.1
theorem dX6_ifWished_24 : decode cX6_ifWished 24 = .ok (.aload_n 0, 1) := bdX6_ifWished_0.2.2.2.2.2.2.2.2.2.2.2.2.1
theorem dX6_ifWished_25 : decode cX6_ifWished 25 = .ok (.getfield 16, 3) := bdX6_ifWished_0.2.2.2.2.2.2.2.2.2.2.2.2.2.1
theorem dX6_ifWished_28 : decode cX6_ifWished 28 = .ok (.aload_n 0, 1) := bdX6_ifWished_0.2.2.2.2.2.2.2.2.2.2.2.2.2.2.1
theorem dX6_ifWished_29 : decode cX6_ifWished 29 = .ok (.getfield 10, 3) := bdX6_ifWished_0.2.2.2.2.2.2.2.2.2.2.2.2.2.2.2
theorem bdX6_ifWished_32 : decode cX6_ifWished 32 = .ok (.invokevirtual 224, 3) ∧ decode cX6_ifWished 35 = .ok (.aload_n 0, 1) ∧ decode cX6_ifWished 36 = .ok (.getfield 16, 3) ∧ decode cX6_ifWished 39 = .ok (.iload_n 1, 1) ∧ decode cX6_ifWished 40 = .ok (.iload_n 2, 1) ∧ decode cX6_ifWished 41 = .ok (.bipush (-6), 2) ∧ decode cX6_ifWished 43 = .ok (.bipush (-6), 2) ∧ decode cX6_ifWished 45 = .ok (.invokevirtual 63, 3) ∧ decode cX6_ifWished 48 = .ok (.pop, 1) ∧ decode cX6_ifWished 49 = .ok (.aload_n 0, 1) ∧ decode cX6_ifWished 50 = .ok (.iload_n 1, 1) ∧ decode cX6_ifWished 51 = .ok (.invokevirtual 227, 3) ∧ decode cX6_ifWished 54 = .ok (.ireturn, 1) := by decide +kernel
theorem dX6_ifWished_32 : decode cX6_ifWished 32 = .ok (.invokevirtual 224, 3) := bdX6_ifWished_32.1
theorem dX6_ifWished_35 : decode cX6_ifWished 35 = .ok (.aload_n 0, 1) := bdX6_ifWished_32.2.1
theorem dX6_ifWished_36 : decode cX6_ifWished 36 = .ok (.getfield 16, 3) := bdX6_ifWished_32.2.2.1
theorem dX6_ifWished_39 : decode cX6_ifWished 39 = .ok (.iload_n 1, 1) := bdX6_ifWished_32.2.2.2.1
theorem dX6_ifWished_40 : decode cX6_ifWished 40 = .ok (.iload_n 2, 1) := bdX6_ifWished_32.2.2.2.2.1
theorem dX6_ifWished_41 : decode cX6_ifWished 41 = .ok (.bipush (-6), 2) := bdX6_ifWished_32.2.2.2.2.2.1
theorem dX6_ifWished_43 : decode cX6_ifWished 43 = .ok (.bipush (-6), 2) := bdX6_ifWished_32.2.2.2.2.2.2.1
theorem dX6_ifWished_45 : decode cX6_ifWished 45 = .ok (.invokevirtual 63, 3) := bdX6_ifWished_32.2.2.2.2.2.2.2.1
theorem dX6_ifWished_48 : decode cX6_ifWished 48 = .ok (.pop, 1) := bdX6_ifWished_32.2.2.2.2.2.2.2.2.1
theorem dX6_ifWished_49 : decode cX6_ifWished 49 = .ok (.aload_n 0, 1) := bdX6_ifWished_32.2.2.2.2.2.2.2.2.2.1
theorem dX6_ifWished_50 : decode cX6_ifWished 50 = .ok (.iload_n 1, 1) := bdX6_ifWished_32.2.2.2.2.2.2.2.2.2.2.1
theorem dX6_ifWished_51 : decode cX6_ifWished 51 = .ok (.invokevirtual 227, 3) := bdX6_ifWished_32.2.2.2.2.2.2.2.2.2.2.2.1
theorem dX6_ifWished_54 : decode cX6_ifWished 54 = .ok (.ireturn, 1) := bdX6_ifWished_32.2.2.2.2.2.2.2.2.2.2.2.2
theorem bdX6_firstDay_0 : decode cX6_firstDay 0 = .ok (.aload_n 0, 1) ∧ decode cX6_firstDay 1 = .ok (.getfield 10, 3) ∧ decode cX6_firstDay 4 = .ok (.iload_n 1, 1) ∧ decode cX6_firstDay 5 = .ok (.invokevirtual 85, 3) ∧ decode cX6_firstDay 8 = .ok (.ifCond .ne 5, 3) ∧ decode cX6_firstDay 11 = .ok (.iconst (-1), 1) ∧ decode cX6_firstDay 12 = .ok (.ireturn, 1) ∧ decode cX6_firstDay 13 = .ok (.aload_n 0, 1) ∧ decode cX6_firstDay 14 = .ok (.getfield 16, 3) ∧ decode cX6_firstDay 17 = .ok (.aload_n 0, 1) ∧ decode cX6_firstDay 18 = .ok (.getfield 10, 3) ∧ decode cX6_firstDay 21 = .ok (.invokevirtual 224, 3) ∧ decode cX6_firstDay 24 = .ok (.iconst 0, 1) ∧ decode cX6_firstDay 25 = .ok (.istore_n 2, 1) ∧ decode cX6_firstDay 26 = .ok (.iload_n 2, 1) ∧ decode cX6_firstDay 27 = .ok (.bipush 60, 2) := by decide +kernel
theorem dX6_firstDay_0 : decode cX6_firstDay 0 = .ok (.aload_n 0, 1) := bdX6_firstDay_0.1
theorem dX6_firstDay_1 : decode cX6_firstDay 1 = .ok (.getfield 10, 3) := bdX6_firstDay_0.2.1
theorem dX6_firstDay_4 : decode cX6_firstDay 4 = .ok (.iload_n 1, 1) := bdX6_firstDay_0.2.2.1
theorem dX6_firstDay_5 : decode cX6_firstDay 5 = .ok (.invokevirtual 85, 3) := bdX6_firstDay_0.2.2.2.1
theorem dX6_firstDay_8 : decode cX6_firstDay 8 = .ok (.ifCond .ne 5, 3) := bdX6_firstDay_0.2.2.2.2.1
theorem dX6_firstDay_11 : decode cX6_firstDay 11 = .ok (.iconst (-1), 1) := bdX6_firstDay_0.2.2.2.2.2.1
theorem dX6_firstDay_12 : decode cX6_firstDay 12 = .ok (.ireturn, 1) := bdX6_firstDay_0.2.2.2.2.2.2.1
theorem dX6_firstDay_13 : decode cX6_firstDay 13 = .ok (.aload_n 0, 1) := bdX6_firstDay_0.2.2.2.2.2.2.2.1
theorem dX6_firstDay_14 : decode cX6_firstDay 14 = .ok (.getfield 16, 3) := bdX6_firstDay_0.2.2.2.2.2.2.2.2.1
theorem dX6_firstDay_17 : decode cX6_firstDay 17 = .ok (.aload_n 0, 1) := bdX6_firstDay_0.2.2.2.2.2.2.2.2.2.1
theorem dX6_firstDay_18 : decode cX6_firstDay 18 = .ok (.getfield 10, 3) := bdX6_firstDay_0.2.2.2.2.2.2.2.2.2.2.1
theorem dX6_firstDay_21 : decode cX6_firstDay 21 = .ok (.invokevirtual 224, 3) := bdX6_firstDay_0.2.2.2.2.2.2.2.2.2.2.2.1
theorem dX6_firstDay_24 : decode cX6_firstDay 24 = .ok (.iconst 0, 1) := bdX6_firstDay_0.2.2.2.2.2.2.2.2.2.2.2.2.1
theorem dX6_firstDay_25 : decode cX6_firstDay 25 = .ok (.istore_n 2, 1) := bdX6_firstDay_0.2.2.2.2.2.2.2.2.2.2.2.2.2.1
theorem dX6_firstDay_26 : decode cX6_firstDay 26 = .ok (.iload_n 2, 1) := bdX6_firstDay_0.2.2.2.2.2.2.2.2.2.2.2.2.2.2.1
theorem dX6_firstDay_27 : decode cX6_firstDay 27 = .ok (.bipush 60, 2) := bdX6_firstDay_0.2.2.2.2.2.2.2.2.2.2.2.2.2.2.2
theorem bdX6_firstDay_29 : decode cX6_firstDay 29 = .ok (.if_icmp .ge 21, 3) ∧ decode cX6_firstDay 32 = .ok (.aload_n 0, 1) ∧ decode cX6_firstDay 33 = .ok (.iload_n 1, 1) ∧ decode cX6_firstDay 34 = .ok (.invokevirtual 227, 3) ∧ decode cX6_firstDay 37 = .ok (.bipush (-6), 2) ∧ decode cX6_firstDay 39 = .ok (.if_icmp .eq 5, 3) ∧ decode cX6_firstDay 42 = .ok (.iload_n 2, 1) ∧ decode cX6_firstDay 43 = .ok (.ireturn, 1) ∧ decode cX6_firstDay 44 = .ok (.iinc 2 1, 3) ∧ decode cX6_firstDay 47 = .ok (.goto (-21), 3) ∧ decode cX6_firstDay 50 = .ok (.bipush (-6), 2) ∧ decode cX6_firstDay 52 = .ok (.ireturn, 1) := by decide +kernel
theorem dX6_firstDay_29 : decode cX6_firstDay 29 = .ok (.if_icmp .ge 21, 3) := bdX6_firstDay_29.1
theorem dX6_firstDay_32 : decode cX6_firstDay 32 = .ok (.aload_n 0, 1) := bdX6_firstDay_29.2.1
theorem dX6_firstDay_33 : decode cX6_firstDay 33 = .ok (.iload_n 1, 1) := bdX6_firstDay_29.2.2.1
theorem dX6_firstDay_34 : decode cX6_firstDay 34 = .ok (.invokevirtual 227, 3) := bdX6_firstDay_29.2.2.2.1
theorem dX6_firstDay_37 : decode cX6_firstDay 37 = .ok (.bipush (-6), 2) := bdX6_firstDay_29.2.2.2.2.1
theorem dX6_firstDay_39 : decode cX6_firstDay 39 = .ok (.if_icmp .eq 5, 3) := bdX6_firstDay_29.2.2.2.2.2.1
theorem dX6_firstDay_42 : decode cX6_firstDay 42 = .ok (.iload_n 2, 1) := bdX6_firstDay_29.2.2.2.2.2.2.1
theorem dX6_firstDay_43 : decode cX6_firstDay 43 = .ok (.ireturn, 1) := bdX6_firstDay_29.2.2.2.2.2.2.2.1
theorem dX6_firstDay_44 : decode cX6_firstDay 44 = .ok (.iinc 2 1, 3) := bdX6_firstDay_29.2.2.2.2.2.2.2.2.1
theorem dX6_firstDay_47 : decode cX6_firstDay 47 = .ok (.goto (-21), 3) := bdX6_firstDay_29.2.2.2.2.2.2.2.2.2.1
theorem dX6_firstDay_50 : decode cX6_firstDay 50 = .ok (.bipush (-6), 2) := bdX6_firstDay_29.2.2.2.2.2.2.2.2.2.2.1
theorem dX6_firstDay_52 : decode cX6_firstDay 52 = .ok (.ireturn, 1) := bdX6_firstDay_29.2.2.2.2.2.2.2.2.2.2.2
theorem bdX6_daysOf_0 : decode cX6_daysOf 0 = .ok (.aload_n 0, 1) ∧ decode cX6_daysOf 1 = .ok (.getfield 10, 3) ∧ decode cX6_daysOf 4 = .ok (.iload_n 1, 1) ∧ decode cX6_daysOf 5 = .ok (.invokevirtual 85, 3) ∧ decode cX6_daysOf 8 = .ok (.ifCond .ne 5, 3) ∧ decode cX6_daysOf 11 = .ok (.iconst (-1), 1) ∧ decode cX6_daysOf 12 = .ok (.ireturn, 1) ∧ decode cX6_daysOf 13 = .ok (.iload_n 2, 1) ∧ decode cX6_daysOf 14 = .ok (.iconst 1, 1) ∧ decode cX6_daysOf 15 = .ok (.if_icmp .lt 9, 3) ∧ decode cX6_daysOf 18 = .ok (.iload_n 2, 1) ∧ decode cX6_daysOf 19 = .ok (.bipush 60, 2) ∧ decode cX6_daysOf 21 = .ok (.if_icmp .le 6, 3) ∧ decode cX6_daysOf 24 = .ok (.bipush (-2), 2) ∧ decode cX6_daysOf 26 = .ok (.ireturn, 1) ∧ decode cX6_daysOf 27 = .ok (.aload_n 0, 1) := by decide +kernel
theorem dX6_daysOf_0 : decode cX6_daysOf 0 = .ok (.aload_n 0, 1) := bdX6_daysOf_0.1
theorem dX6_daysOf_1 : decode cX6_daysOf 1 = .ok (.getfield 10, 3) := bdX6_daysOf_0.2.1
theorem dX6_daysOf_4 : decode cX6_daysOf 4 = .ok (.iload_n 1, 1) := bdX6_daysOf_0.2.2.1
theorem dX6_daysOf_5 : decode cX6_daysOf 5 = .ok (.invokevirtual 85, 3) := bdX6_daysOf_0.2.2.2.1
theorem dX6_daysOf_8 : decode cX6_daysOf 8 = .ok (.ifCond .ne 5, 3) := bdX6_daysOf_0.2.2.2.2.1
theorem dX6_daysOf_11 : decode cX6_daysOf 11 = .ok (.iconst (-1), 1) := bdX6_daysOf_0.2.2.2.2.2.1
theorem dX6_daysOf_12 : decode cX6_daysOf 12 = .ok (.ireturn, 1) := bdX6_daysOf_0.2.2.2.2.2.2.1
theorem dX6_daysOf_13 : decode cX6_daysOf 13 = .ok (.iload_n 2, 1) := bdX6_daysOf_0.2.2.2.2.2.2.2.1
theorem dX6_daysOf_14 : decode cX6_daysOf 14 = .ok (.iconst 1, 1) := bdX6_daysOf_0.2.2.2.2.2.2.2.2.1
theorem dX6_daysOf_15 : decode cX6_daysOf 15 = .ok (.if_icmp .lt 9, 3) := bdX6_daysOf_0.2.2.2.2.2.2.2.2.2.1
theorem dX6_daysOf_18 : decode cX6_daysOf 18 = .ok (.iload_n 2, 1) := bdX6_daysOf_0.2.2.2.2.2.2.2.2.2.2.1
theorem dX6_daysOf_19 : decode cX6_daysOf 19 = .ok (.bipush 60, 2) := bdX6_daysOf_0.2.2.2.2.2.2.2.2.2.2.2.1
theorem dX6_daysOf_21 : decode cX6_daysOf 21 = .ok (.if_icmp .le 6, 3) := bdX6_daysOf_0.2.2.2.2.2.2.2.2.2.2.2.2.1
theorem dX6_daysOf_24 : decode cX6_daysOf 24 = .ok (.bipush (-2), 2) := bdX6_daysOf_0.2.2.2.2.2.2.2.2.2.2.2.2.2.1
theorem dX6_daysOf_26 : decode cX6_daysOf 26 = .ok (.ireturn, 1) := bdX6_daysOf_0.2.2.2.2.2.2.2.2.2.2.2.2.2.2.1
theorem dX6_daysOf_27 : decode cX6_daysOf 27 = .ok (.aload_n 0, 1) := bdX6_daysOf_0.2.2.2.2.2.2.2.2.2.2.2.2.2.2.2
theorem bdX6_daysOf_28 : decode cX6_daysOf 28 = .ok (.getfield 16, 3) ∧ decode cX6_daysOf 31 = .ok (.aload_n 0, 1) ∧ decode cX6_daysOf 32 = .ok (.getfield 10, 3) ∧ decode cX6_daysOf 35 = .ok (.invokevirtual 224, 3) ∧ decode cX6_daysOf 38 = .ok (.iconst 0, 1) ∧ decode cX6_daysOf 39 = .ok (.istore_n 3, 1) ∧ decode cX6_daysOf 40 = .ok (.iconst 0, 1) ∧ decode cX6_daysOf 41 = .ok (.istore 4, 2) ∧ decode cX6_daysOf 43 = .ok (.iload 4, 2) ∧ decode cX6_daysOf 45 = .ok (.iload_n 2, 1) ∧ decode cX6_daysOf 46 = .ok (.if_icmp .ge 22, 3) ∧ decode cX6_daysOf 49 = .ok (.aload_n 0, 1) ∧ decode cX6_daysOf 50 = .ok (.iload_n 1, 1) ∧ decode cX6_daysOf 51 = .ok (.invokevirtual 227, 3) ∧ decode cX6_daysOf 54 = .ok (.bipush (-6), 2) ∧ decode cX6_daysOf 56 = .ok (.if_icmp .eq 6, 3) := by decide +kernel
theorem dX6_daysOf_28 : decode cX6_daysOf 28 = .ok (.getfield 16, 3) := bdX6_daysOf_28.1
theorem dX6_daysOf_31 : decode cX6_daysOf 31 = .ok (.aload_n 0, 1) := bdX6_daysOf_28.2.1
theorem dX6_daysOf_32 : decode cX6_daysOf 32 = .ok (.getfield 10, 3) := bdX6_daysOf_28.2.2.1
theorem dX6_daysOf_35 : decode cX6_daysOf 35 = .ok (.invokevirtual 224, 3) := bdX6_daysOf_28.2.2.2.1
theorem dX6_daysOf_38 : decode cX6_daysOf 38 = .ok (.iconst 0, 1) := bdX6_daysOf_28.2.2.2.2.1
theorem dX6_daysOf_39 : decode cX6_daysOf 39 = .ok (.istore_n 3, 1) := bdX6_daysOf_28.2.2.2.2.2.1
theorem dX6_daysOf_40 : decode cX6_daysOf 40 = .ok (.iconst 0, 1) := bdX6_daysOf_28.2.2.2.2.2.2.1
theorem dX6_daysOf_41 : decode cX6_daysOf 41 = .ok (.istore 4, 2) := bdX6_daysOf_28.2.2.2.2.2.2.2.1
theorem dX6_daysOf_43 : decode cX6_daysOf 43 = .ok (.iload 4, 2) := bdX6_daysOf_28.2.2.2.2.2.2.2.2.1
theorem dX6_daysOf_45 : decode cX6_daysOf 45 = .ok (.iload_n 2, 1) := bdX6_daysOf_28.2.2.2.2.2.2.2.2.2.1
theorem dX6_daysOf_46 : decode cX6_daysOf 46 = .ok (.if_icmp .ge 22, 3) := bdX6_daysOf_28.2.2.2.2.2.2.2.2.2.2.1
theorem dX6_daysOf_49 : decode cX6_daysOf 49 = .ok (.aload_n 0, 1) := bdX6_daysOf_28.2.2.2.2.2.2.2.2.2.2.2.1
theorem dX6_daysOf_50 : decode cX6_daysOf 50 = .ok (.iload_n 1, 1) := bdX6_daysOf_28.2.2.2.2.2.2.2.2.2.2.2.2.1
theorem dX6_daysOf_51 : decode cX6_daysOf 51 = .ok (.invokevirtual 227, 3) := bdX6_daysOf_28.2.2.2.2.2.2.2.2.2.2.2.2.2.1
theorem dX6_daysOf_54 : decode cX6_daysOf 54 = .ok (.bipush (-6), 2) := bdX6_daysOf_28.2.2.2.2.2.2.2.2.2.2.2.2.2.2.1
theorem dX6_daysOf_56 : decode cX6_daysOf 56 = .ok (.if_icmp .eq 6, 3) := bdX6_daysOf_28.2.2.2.2.2.2.2.2.2.2.2.2.2.2.2
theorem bdX6_daysOf_59 : decode cX6_daysOf 59 = .ok (.iinc 3 1, 3) ∧ decode cX6_daysOf 62 = .ok (.iinc 4 1, 3) ∧ decode cX6_daysOf 65 = .ok (.goto (-22), 3) ∧ decode cX6_daysOf 68 = .ok (.iload_n 3, 1) ∧ decode cX6_daysOf 69 = .ok (.ireturn, 1) := by decide +kernel
theorem dX6_daysOf_59 : decode cX6_daysOf 59 = .ok (.iinc 3 1, 3) := bdX6_daysOf_59.1
theorem dX6_daysOf_62 : decode cX6_daysOf 62 = .ok (.iinc 4 1, 3) := bdX6_daysOf_59.2.1
theorem dX6_daysOf_65 : decode cX6_daysOf 65 = .ok (.goto (-22), 3) := bdX6_daysOf_59.2.2.1
theorem dX6_daysOf_68 : decode cX6_daysOf 68 = .ok (.iload_n 3, 1) := bdX6_daysOf_59.2.2.2.1
theorem dX6_daysOf_69 : decode cX6_daysOf 69 = .ok (.ireturn, 1) := bdX6_daysOf_59.2.2.2.2
theorem bdX6_luckySeed_0 : decode cX6_luckySeed 0 = .ok (.aload_n 0, 1) ∧ decode cX6_luckySeed 1 = .ok (.getfield 10, 3) ∧ decode cX6_luckySeed 4 = .ok (.iload_n 1, 1) ∧ decode cX6_luckySeed 5 = .ok (.invokevirtual 85, 3) ∧ decode cX6_luckySeed 8 = .ok (.ifCond .eq 20, 3) ∧ decode cX6_luckySeed 11 = .ok (.iload_n 2, 1) ∧ decode cX6_luckySeed 12 = .ok (.bipush (-6), 2) ∧ decode cX6_luckySeed 14 = .ok (.if_icmp .eq 16, 3) ∧ decode cX6_luckySeed 17 = .ok (.aload_n 0, 1) ∧ decode cX6_luckySeed 18 = .ok (.getfield 10, 3) ∧ decode cX6_luckySeed 21 = .ok (.iload_n 2, 1) ∧ decode cX6_luckySeed 22 = .ok (.invokevirtual 175, 3) ∧ decode cX6_luckySeed 25 = .ok (.ifCond .ne 5, 3) ∧ decode cX6_luckySeed 28 = .ok (.iconst (-1), 1) ∧ decode cX6_luckySeed 29 = .ok (.ireturn, 1) ∧ decode cX6_luckySeed 30 = .ok (.iconst 0, 1) := by decide +kernel
theorem dX6_luckySeed_0 : decode cX6_luckySeed 0 = .ok (.aload_n 0, 1) := bdX6_luckySeed_0.1
theorem dX6_luckySeed_1 : decode cX6_luckySeed 1 = .ok (.getfield 10, 3) := bdX6_luckySeed_0.2.1
theorem dX6_luckySeed_4 : decode cX6_luckySeed 4 = .ok (.iload_n 1, 1) := bdX6_luckySeed_0.2.2.1
theorem dX6_luckySeed_5 : decode cX6_luckySeed 5 = .ok (.invokevirtual 85, 3) := bdX6_luckySeed_0.2.2.2.1
theorem dX6_luckySeed_8 : decode cX6_luckySeed 8 = .ok (.ifCond .eq 20, 3) := bdX6_luckySeed_0.2.2.2.2.1
theorem dX6_luckySeed_11 : decode cX6_luckySeed 11 = .ok (.iload_n 2, 1) := bdX6_luckySeed_0.2.2.2.2.2.1
theorem dX6_luckySeed_12 : decode cX6_luckySeed 12 = .ok (.bipush (-6), 2) := bdX6_luckySeed_0.2.2.2.2.2.2.1
theorem dX6_luckySeed_14 : decode cX6_luckySeed 14 = .ok (.if_icmp .eq 16, 3) := bdX6_luckySeed_0.2.2.2.2.2.2.2.1
theorem dX6_luckySeed_17 : decode cX6_luckySeed 17 = .ok (.aload_n 0, 1) := bdX6_luckySeed_0.2.2.2.2.2.2.2.2.1
theorem dX6_luckySeed_18 : decode cX6_luckySeed 18 = .ok (.getfield 10, 3) := bdX6_luckySeed_0.2.2.2.2.2.2.2.2.2.1
theorem dX6_luckySeed_21 : decode cX6_luckySeed 21 = .ok (.iload_n 2, 1) := bdX6_luckySeed_0.2.2.2.2.2.2.2.2.2.2.1
theorem dX6_luckySeed_22 : decode cX6_luckySeed 22 = .ok (.invokevirtual 175, 3) := bdX6_luckySeed_0.2.2.2.2.2.2.2.2.2.2.2.1
theorem dX6_luckySeed_25 : decode cX6_luckySeed 25 = .ok (.ifCond .ne 5, 3) := bdX6_luckySeed_0.2.2.2.2.2.2.2.2.2.2.2.2.1
theorem dX6_luckySeed_28 : decode cX6_luckySeed 28 = .ok (.iconst (-1), 1) := bdX6_luckySeed_0.2.2.2.2.2.2.2.2.2.2.2.2.2.1
theorem dX6_luckySeed_29 : decode cX6_luckySeed 29 = .ok (.ireturn, 1) := bdX6_luckySeed_0.2.2.2.2.2.2.2.2.2.2.2.2.2.2.1
theorem dX6_luckySeed_30 : decode cX6_luckySeed 30 = .ok (.iconst 0, 1) := bdX6_luckySeed_0.2.2.2.2.2.2.2.2.2.2.2.2.2.2.2
theorem bdX6_luckySeed_31 : decode cX6_luckySeed 31 = .ok (.istore_n 3, 1) ∧ decode cX6_luckySeed 32 = .ok (.iload_n 3, 1) ∧ decode cX6_luckySeed 33 = .ok (.sipush 200, 3) ∧ decode cX6_luckySeed 36 = .ok (.if_icmp .ge 57, 3) ∧ decode cX6_luckySeed 39 = .ok (.aload_n 0, 1) ∧ decode cX6_luckySeed 40 = .ok (.getfield 16, 3) ∧ decode cX6_luckySeed 43 = .ok (.aload_n 0, 1) ∧ decode cX6_luckySeed 44 = .ok (.getfield 10, 3) ∧ decode cX6_luckySeed 47 = .ok (.invokevirtual 224, 3) ∧ decode cX6_luckySeed 50 = .ok (.aload_n 0, 1) ∧ decode cX6_luckySeed 51 = .ok (.getfield 16, 3) ∧ decode cX6_luckySeed 54 = .ok (.iload_n 3, 1) ∧ decode cX6_luckySeed 55 = .ok (.invokevirtual 51, 3) ∧ decode cX6_luckySeed 58 = .ok (.pop, 1) ∧ decode cX6_luckySeed 59 = .ok (.aload_n 0, 1) ∧ decode cX6_luckySeed 60 = .ok (.iload_n 1, 1) := by decide +kernel
theorem dX6_luckySeed_31 : decode cX6_luckySeed 31 = .ok (.istore_n 3, 1) := bdX6_luckySeed_31.1
theorem dX6_luckySeed_32 : decode cX6_luckySeed 32 = .ok (.iload_n 3, 1) := bdX6_luckySeed_31.2.1
theorem dX6_luckySeed_33 : decode cX6_luckySeed 33 = .ok (.sipush 200, 3) := bdX6_luckySeed_31.2.2.1
theorem dX6_luckySeed_36 : decode cX6_luckySeed 36 = .ok (.if_icmp .ge 57, 3) := bdX6_luckySeed_31.2.2.2.1
theorem dX6_luckySeed_39 : decode cX6_luckySeed 39 = .ok (.aload_n 0, 1) := bdX6_luckySeed_31.2.2.2.2.1
theorem dX6_luckySeed_40 : decode cX6_luckySeed 40 = .ok (.getfield 16, 3) := bdX6_luckySeed_31.2.2.2.2.2.1
theorem dX6_luckySeed_43 : decode cX6_luckySeed 43 = .ok (.aload_n 0, 1) := bdX6_luckySeed_31.2.2.2.2.2.2.1
theorem dX6_luckySeed_44 : decode cX6_luckySeed 44 = .ok (.getfield 10, 3) := bdX6_luckySeed_31.2.2.2.2.2.2.2.1
theorem dX6_luckySeed_47 : decode cX6_luckySeed 47 = .ok (.invokevirtual 224, 3) := bdX6_luckySeed_31.2.2.2.2.2.2.2.2.1
theorem dX6_luckySeed_50 : decode cX6_luckySeed 50 = .ok (.aload_n 0, 1) := bdX6_luckySeed_31.2.2.2.2.2.2.2.2.2.1
theorem dX6_luckySeed_51 : decode cX6_luckySeed 51 = .ok (.getfield 16, 3) := bdX6_luckySeed_31.2.2.2.2.2.2.2.2.2.2.1
theorem dX6_luckySeed_54 : decode cX6_luckySeed 54 = .ok (.iload_n 3, 1) := bdX6_luckySeed_31.2.2.2.2.2.2.2.2.2.2.2.1
theorem dX6_luckySeed_55 : decode cX6_luckySeed 55 = .ok (.invokevirtual 51, 3) := bdX6_luckySeed_31.2.2.2.2.2.2.2.2.2.2.2.2.1
theorem dX6_luckySeed_58 : decode cX6_luckySeed 58 = .ok (.pop, 1) := bdX6_luckySeed_31.2.2.2.2.2.2.2.2.2.2.2.2.2.1
theorem dX6_luckySeed_59 : decode cX6_luckySeed 59 = .ok (.aload_n 0, 1) := bdX6_luckySeed_31.2.2.2.2.2.2.2.2.2.2.2.2.2.2.1
theorem dX6_luckySeed_60 : decode cX6_luckySeed 60 = .ok (.iload_n 1, 1) := bdX6_luckySeed_31.2.2.2.2.2.2.2.2.2.2.2.2.2.2.2
theorem bdX6_luckySeed_61 : decode cX6_luckySeed 61 = .ok (.invokevirtual 227, 3) ∧ decode cX6_luckySeed 64 = .ok (.istore 4, 2) ∧ decode cX6_luckySeed 66 = .ok (.iload 4, 2) ∧ decode cX6_luckySeed 68 = .ok (.bipush (-6), 2) ∧ decode cX6_luckySeed 70 = .ok (.if_icmp .eq 17, 3) ∧ decode cX6_luckySeed 73 = .ok (.iload_n 2, 1) ∧ decode cX6_luckySeed 74 = .ok (.bipush (-6), 2) ∧ decode cX6_luckySeed 76 = .ok (.if_icmp .eq 9, 3) ∧ decode cX6_luckySeed 79 = .ok (.iload 4, 2) ∧ decode cX6_luckySeed 81 = .ok (.iload_n 2, 1) ∧ decode cX6_luckySeed 82 = .ok (.if_icmp .ne 5, 3) ∧ decode cX6_luckySeed 85 = .ok (.iload_n 3, 1) ∧ decode cX6_luckySeed 86 = .ok (.ireturn, 1) ∧ decode cX6_luckySeed 87 = .ok (.iinc 3 1, 3) ∧ decode cX6_luckySeed 90 = .ok (.goto (-58), 3) ∧ decode cX6_luckySeed 93 = .ok (.bipush (-6), 2) := by decide +kernel
theorem dX6_luckySeed_61 : decode cX6_luckySeed 61 = .ok (.invokevirtual 227, 3) := bdX6_luckySeed_61.1
theorem dX6_luckySeed_64 : decode cX6_luckySeed 64 = .ok (.istore 4, 2) := bdX6_luckySeed_61.2.1
theorem dX6_luckySeed_66 : decode cX6_luckySeed 66 = .ok (.iload 4, 2) := bdX6_luckySeed_61.2.2.1
theorem dX6_luckySeed_68 : decode cX6_luckySeed 68 = .ok (.bipush (-6), 2) := bdX6_luckySeed_61.2.2.2.1
theorem dX6_luckySeed_70 : decode cX6_luckySeed 70 = .ok (.if_icmp .eq 17, 3) := bdX6_luckySeed_61.2.2.2.2.1
theorem dX6_luckySeed_73 : decode cX6_luckySeed 73 = .ok (.iload_n 2, 1) := bdX6_luckySeed_61.2.2.2.2.2.1
theorem dX6_luckySeed_74 : decode cX6_luckySeed 74 = .ok (.bipush (-6), 2) := bdX6_luckySeed_61.2.2.2.2.2.2.1
theorem dX6_luckySeed_76 : decode cX6_luckySeed 76 = .ok (.if_icmp .eq 9, 3) := bdX6_luckySeed_61.2.2.2.2.2.2.2.1
theorem dX6_luckySeed_79 : decode cX6_luckySeed 79 = .ok (.iload 4, 2) := bdX6_luckySeed_61.2.2.2.2.2.2.2.2.1
theorem dX6_luckySeed_81 : decode cX6_luckySeed 81 = .ok (.iload_n 2, 1) := bdX6_luckySeed_61.2.2.2.2.2.2.2.2.2.1
theorem dX6_luckySeed_82 : decode cX6_luckySeed 82 = .ok (.if_icmp .ne 5, 3) := bdX6_luckySeed_61.2.2.2.2.2.2.2.2.2.2.1
theorem dX6_luckySeed_85 : decode cX6_luckySeed 85 = .ok (.iload_n 3, 1) := bdX6_luckySeed_61.2.2.2.2.2.2.2.2.2.2.2.1
theorem dX6_luckySeed_86 : decode cX6_luckySeed 86 = .ok (.ireturn, 1) := bdX6_luckySeed_61.2.2.2.2.2.2.2.2.2.2.2.2.1
theorem dX6_luckySeed_87 : decode cX6_luckySeed 87 = .ok (.iinc 3 1, 3) := bdX6_luckySeed_61.2.2.2.2.2.2.2.2.2.2.2.2.2.1
theorem dX6_luckySeed_90 : decode cX6_luckySeed 90 = .ok (.goto (-58), 3) := bdX6_luckySeed_61.2.2.2.2.2.2.2.2.2.2.2.2.2.2.1
theorem dX6_luckySeed_93 : decode cX6_luckySeed 93 = .ok (.bipush (-6), 2) := bdX6_luckySeed_61.2.2.2.2.2.2.2.2.2.2.2.2.2.2.2
theorem dX6_luckySeed_95 : decode cX6_luckySeed 95 = .ok (.ireturn, 1) := by decide +kernel
theorem bdX6_whyNot_0 : decode cX6_whyNot 0 = .ok (.aload_n 0, 1) ∧ decode cX6_whyNot 1 = .ok (.getfield 10, 3) ∧ decode cX6_whyNot 4 = .ok (.iload_n 1, 1) ∧ decode cX6_whyNot 5 = .ok (.invokevirtual 85, 3) ∧ decode cX6_whyNot 8 = .ok (.ifCond .eq 14, 3) ∧ decode cX6_whyNot 11 = .ok (.aload_n 0, 1) ∧ decode cX6_whyNot 12 = .ok (.getfield 10, 3) ∧ decode cX6_whyNot 15 = .ok (.iload_n 2, 1) ∧ decode cX6_whyNot 16 = .ok (.invokevirtual 175, 3) ∧ decode cX6_whyNot 19 = .ok (.ifCond .ne 5, 3) ∧ decode cX6_whyNot 22 = .ok (.iconst (-1), 1) ∧ decode cX6_whyNot 23 = .ok (.ireturn, 1) ∧ decode cX6_whyNot 24 = .ok (.aload_n 0, 1) ∧ decode cX6_whyNot 25 = .ok (.getfield 10, 3) ∧ decode cX6_whyNot 28 = .ok (.getfield 178, 3) ∧ decode cX6_whyNot 31 = .ok (.iload_n 2, 1) := by decide +kernel
theorem dX6_whyNot_0 : decode cX6_whyNot 0 = .ok (.aload_n 0, 1) := bdX6_whyNot_0.1
theorem dX6_whyNot_1 : decode cX6_whyNot 1 = .ok (.getfield 10, 3) := bdX6_whyNot_0.2.1
theorem dX6_whyNot_4 : decode cX6_whyNot 4 = .ok (.iload_n 1, 1) := bdX6_whyNot_0.2.2.1
theorem dX6_whyNot_5 : decode cX6_whyNot 5 = .ok (.invokevirtual 85, 3) := bdX6_whyNot_0.2.2.2.1
theorem dX6_whyNot_8 : decode cX6_whyNot 8 = .ok (.ifCond .eq 14, 3) := bdX6_whyNot_0.2.2.2.2.1
theorem dX6_whyNot_11 : decode cX6_whyNot 11 = .ok (.aload_n 0, 1) := bdX6_whyNot_0.2.2.2.2.2.1
theorem dX6_whyNot_12 : decode cX6_whyNot 12 = .ok (.getfield 10, 3) := bdX6_whyNot_0.2.2.2.2.2.2.1
theorem dX6_whyNot_15 : decode cX6_whyNot 15 = .ok (.iload_n 2, 1) := bdX6_whyNot_0.2.2.2.2.2.2.2.1
theorem dX6_whyNot_16 : decode cX6_whyNot 16 = .ok (.invokevirtual 175, 3) := bdX6_whyNot_0.2.2.2.2.2.2.2.2.1
theorem dX6_whyNot_19 : decode cX6_whyNot 19 = .ok (.ifCond .ne 5, 3) := bdX6_whyNot_0.2.2.2.2.2.2.2.2.2.1
theorem dX6_whyNot_22 : decode cX6_whyNot 22 = .ok (.iconst (-1), 1) := bdX6_whyNot_0.2.2.2.2.2.2.2.2.2.2.1
theorem dX6_whyNot_23 : decode cX6_whyNot 23 = .ok (.ireturn, 1) := bdX6_whyNot_0.2.2.2.2.2.2.2.2.2.2.2.1
theorem dX6_whyNot_24 : decode cX6_whyNot 24 = .ok (.aload_n 0, 1) := bdX6_whyNot_0.2.2.2.2.2.2.2.2.2.2.2.2.1
theorem dX6_whyNot_25 : decode cX6_whyNot 25 = .ok (.getfield 10, 3) := bdX6_whyNot_0.2.2.2.2.2.2.2.2.2.2.2.2.2.1
theorem dX6_whyNot_28 : decode cX6_whyNot 28 = .ok (.getfield 178, 3) := bdX6_whyNot_0.2.2.2.2.2.2.2.2.2.2.2.2.2.2.1
theorem dX6_whyNot_31 : decode cX6_whyNot 31 = .ok (.iload_n 2, 1) := bdX6_whyNot_0.2.2.2.2.2.2.2.2.2.2.2.2.2.2.2
theorem bdX6_whyNot_32 : decode cX6_whyNot 32 = .ok (.aaload, 1) ∧ decode cX6_whyNot 33 = .ok (.getfield 193, 3) ∧ decode cX6_whyNot 36 = .ok (.istore_n 3, 1) ∧ decode cX6_whyNot 37 = .ok (.iload_n 3, 1) ∧ decode cX6_whyNot 38 = .ok (.bipush (-6), 2) ∧ decode cX6_whyNot 40 = .ok (.if_icmp .eq 10, 3) ∧ decode cX6_whyNot 43 = .ok (.iload_n 3, 1) ∧ decode cX6_whyNot 44 = .ok (.iload_n 1, 1) ∧ decode cX6_whyNot 45 = .ok (.if_icmp .eq 5, 3) ∧ decode cX6_whyNot 48 = .ok (.iconst 1, 1) ∧ decode cX6_whyNot 49 = .ok (.ireturn, 1) ∧ decode cX6_whyNot 50 = .ok (.aload_n 0, 1) ∧ decode cX6_whyNot 51 = .ok (.getfield 10, 3) ∧ decode cX6_whyNot 54 = .ok (.iload_n 1, 1) ∧ decode cX6_whyNot 55 = .ok (.iload_n 2, 1) ∧ decode cX6_whyNot 56 = .ok (.invokevirtual 230, 3) := by decide +kernel
theorem dX6_whyNot_32 : decode cX6_whyNot 32 = .ok (.aaload, 1) := bdX6_whyNot_32.1
theorem dX6_whyNot_33 : decode cX6_whyNot 33 = .ok (.getfield 193, 3) := bdX6_whyNot_32.2.1
theorem dX6_whyNot_36 : decode cX6_whyNot 36 = .ok (.istore_n 3, 1) := bdX6_whyNot_32.2.2.1
theorem dX6_whyNot_37 : decode cX6_whyNot 37 = .ok (.iload_n 3, 1) := bdX6_whyNot_32.2.2.2.1
theorem dX6_whyNot_38 : decode cX6_whyNot 38 = .ok (.bipush (-6), 2) := bdX6_whyNot_32.2.2.2.2.1
theorem dX6_whyNot_40 : decode cX6_whyNot 40 = .ok (.if_icmp .eq 10, 3) := bdX6_whyNot_32.2.2.2.2.2.1
theorem dX6_whyNot_43 : decode cX6_whyNot 43 = .ok (.iload_n 3, 1) := bdX6_whyNot_32.2.2.2.2.2.2.1
theorem dX6_whyNot_44 : decode cX6_whyNot 44 = .ok (.iload_n 1, 1) := bdX6_whyNot_32.2.2.2.2.2.2.2.1
theorem dX6_whyNot_45 : decode cX6_whyNot 45 = .ok (.if_icmp .eq 5, 3) := bdX6_whyNot_32.2.2.2.2.2.2.2.2.1
theorem dX6_whyNot_48 : decode cX6_whyNot 48 = .ok (.iconst 1, 1) := bdX6_whyNot_32.2.2.2.2.2.2.2.2.2.1
theorem dX6_whyNot_49 : decode cX6_whyNot 49 = .ok (.ireturn, 1) := bdX6_whyNot_32.2.2.2.2.2.2.2.2.2.2.1
theorem dX6_whyNot_50 : decode cX6_whyNot 50 = .ok (.aload_n 0, 1) := bdX6_whyNot_32.2.2.2.2.2.2.2.2.2.2.2.1
theorem dX6_whyNot_51 : decode cX6_whyNot 51 = .ok (.getfield 10, 3) := bdX6_whyNot_32.2.2.2.2.2.2.2.2.2.2.2.2.1
theorem dX6_whyNot_54 : decode cX6_whyNot 54 = .ok (.iload_n 1, 1) := bdX6_whyNot_32.2.2.2.2.2.2.2.2.2.2.2.2.2.1
theorem dX6_whyNot_55 : decode cX6_whyNot 55 = .ok (.iload_n 2, 1) := bdX6_whyNot_32.2.2.2.2.2.2.2.2.2.2.2.2.2.2.1
theorem dX6_whyNot_56 : decode cX6_whyNot 56 = .ok (.invokevirtual 230, 3) := bdX6_whyNot_32.2.2.2.2.2.2.2.2.2.2.2.2.2.2.2
theorem bdX6_whyNot_59 : decode cX6_whyNot 59 = .ok (.ifCond .eq 7, 3) ∧ decode cX6_whyNot 62 = .ok (.iconst 2, 1) ∧ decode cX6_whyNot 63 = .ok (.goto 4, 3) ∧ decode cX6_whyNot 66 = .ok (.iconst 0, 1) ∧ decode cX6_whyNot 67 = .ok (.ireturn, 1) := by decide +kernel
theorem dX6_whyNot_59 : decode cX6_whyNot 59 = .ok (.ifCond .eq 7, 3) := bdX6_whyNot_59.1
theorem dX6_whyNot_62 : decode cX6_whyNot 62 = .ok (.iconst 2, 1) := bdX6_whyNot_59.2.1
theorem dX6_whyNot_63 : decode cX6_whyNot 63 = .ok (.goto 4, 3) := bdX6_whyNot_59.2.2.1
theorem dX6_whyNot_66 : decode cX6_whyNot 66 = .ok (.iconst 0, 1) := bdX6_whyNot_59.2.2.2.1
theorem dX6_whyNot_67 : decode cX6_whyNot 67 = .ok (.ireturn, 1) := bdX6_whyNot_59.2.2.2.2
theorem bdX6_pitchOnTrialDay_0 : decode cX6_pitchOnTrialDay 0 = .ok (.aload_n 0, 1) ∧ decode cX6_pitchOnTrialDay 1 = .ok (.getfield 16, 3) ∧ decode cX6_pitchOnTrialDay 4 = .ok (.iconst 1, 1) ∧ decode cX6_pitchOnTrialDay 5 = .ok (.invokevirtual 79, 3) ∧ decode cX6_pitchOnTrialDay 8 = .ok (.pop, 1) ∧ decode cX6_pitchOnTrialDay 9 = .ok (.aload_n 0, 1) ∧ decode cX6_pitchOnTrialDay 10 = .ok (.getfield 16, 3) ∧ decode cX6_pitchOnTrialDay 13 = .ok (.iload_n 1, 1) ∧ decode cX6_pitchOnTrialDay 14 = .ok (.invokevirtual 85, 3) ∧ decode cX6_pitchOnTrialDay 17 = .ok (.ifCond .eq 18, 3) ∧ decode cX6_pitchOnTrialDay 20 = .ok (.aload_n 0, 1) ∧ decode cX6_pitchOnTrialDay 21 = .ok (.getfield 16, 3) ∧ decode cX6_pitchOnTrialDay 24 = .ok (.getfield 89, 3) ∧ decode cX6_pitchOnTrialDay 27 = .ok (.iload_n 1, 1) ∧ decode cX6_pitchOnTrialDay 28 = .ok (.aaload, 1) ∧ decode cX6_pitchOnTrialDay 29 = .ok (.getfield 142, 3) := by decide +kernel
theorem dX6_pitchOnTrialDay_0 : decode cX6_pitchOnTrialDay 0 = .ok (.aload_n 0, 1) := bdX6_pitchOnTrialDay_0.1
theorem dX6_pitchOnTrialDay_1 : decode cX6_pitchOnTrialDay 1 = .ok (.getfield 16, 3) := bdX6_pitchOnTrialDay_0.2.1
theorem dX6_pitchOnTrialDay_4 : decode cX6_pitchOnTrialDay 4 = .ok (.iconst 1, 1) := bdX6_pitchOnTrialDay_0.2.2.1
theorem dX6_pitchOnTrialDay_5 : decode cX6_pitchOnTrialDay 5 = .ok (.invokevirtual 79, 3) := bdX6_pitchOnTrialDay_0.2.2.2.1
theorem dX6_pitchOnTrialDay_8 : decode cX6_pitchOnTrialDay 8 = .ok (.pop, 1) := bdX6_pitchOnTrialDay_0.2.2.2.2.1
theorem dX6_pitchOnTrialDay_9 : decode cX6_pitchOnTrialDay 9 = .ok (.aload_n 0, 1) := bdX6_pitchOnTrialDay_0.2.2.2.2.2.1
theorem dX6_pitchOnTrialDay_10 : decode cX6_pitchOnTrialDay 10 = .ok (.getfield 16, 3) := bdX6_pitchOnTrialDay_0.2.2.2.2.2.2.1
theorem dX6_pitchOnTrialDay_13 : decode cX6_pitchOnTrialDay 13 = .ok (.iload_n 1, 1) := bdX6_pitchOnTrialDay_0.2.2.2.2.2.2.2.1
theorem dX6_pitchOnTrialDay_14 : decode cX6_pitchOnTrialDay 14 = .ok (.invokevirtual 85, 3) := bdX6_pitchOnTrialDay_0.2.2.2.2.2.2.2.2.1
theorem dX6_pitchOnTrialDay_17 : decode cX6_pitchOnTrialDay 17 = .ok (.ifCond .eq 18, 3) := bdX6_pitchOnTrialDay_0.2.2.2.2.2.2.2.2.2.1
theorem dX6_pitchOnTrialDay_20 : decode cX6_pitchOnTrialDay 20 = .ok (.aload_n 0, 1) := bdX6_pitchOnTrialDay_0.2.2.2.2.2.2.2.2.2.2.1
theorem dX6_pitchOnTrialDay_21 : decode cX6_pitchOnTrialDay 21 = .ok (.getfield 16, 3) := bdX6_pitchOnTrialDay_0.2.2.2.2.2.2.2.2.2.2.2.1
theorem dX6_pitchOnTrialDay_24 : decode cX6_pitchOnTrialDay 24 = .ok (.getfield 89, 3) := bdX6_pitchOnTrialDay_0.2.2.2.2.2.2.2.2.2.2.2.2.1
theorem dX6_pitchOnTrialDay_27 : decode cX6_pitchOnTrialDay 27 = .ok (.iload_n 1, 1) := bdX6_pitchOnTrialDay_0.2.2.2.2.2.2.2.2.2.2.2.2.2.1
theorem dX6_pitchOnTrialDay_28 : decode cX6_pitchOnTrialDay 28 = .ok (.aaload, 1) := bdX6_pitchOnTrialDay_0.2.2.2.2.2.2.2.2.2.2.2.2.2.2.1
theorem dX6_pitchOnTrialDay_29 : decode cX6_pitchOnTrialDay 29 = .ok (.getfield 142, 3) := bdX6_pitchOnTrialDay_0.2.2.2.2.2.2.2.2.2.2.2.2.2.2.2
theorem bdX6_pitchOnTrialDay_32 : decode cX6_pitchOnTrialDay 32 = .ok (.goto 5, 3) ∧ decode cX6_pitchOnTrialDay 35 = .ok (.bipush (-6), 2) ∧ decode cX6_pitchOnTrialDay 37 = .ok (.ireturn, 1) := by decide +kernel
theorem dX6_pitchOnTrialDay_32 : decode cX6_pitchOnTrialDay 32 = .ok (.goto 5, 3) := bdX6_pitchOnTrialDay_32.1
theorem dX6_pitchOnTrialDay_35 : decode cX6_pitchOnTrialDay 35 = .ok (.bipush (-6), 2) := bdX6_pitchOnTrialDay_32.2.1
theorem dX6_pitchOnTrialDay_37 : decode cX6_pitchOnTrialDay 37 = .ok (.ireturn, 1) := bdX6_pitchOnTrialDay_32.2.2
theorem bdX6_put_0 : decode cX6_put 0 = .ok (.aload_n 0, 1) ∧ decode cX6_put 1 = .ok (.getfield 35, 3) ∧ decode cX6_put 4 = .ok (.lload_n 1, 1) ∧ decode cX6_put 5 = .ok (.invokevirtual 234, 3) ∧ decode cX6_put 8 = .ok (.ireturn, 1) := by decide +kernel
theorem dX6_put_0 : decode cX6_put 0 = .ok (.aload_n 0, 1) := bdX6_put_0.1
theorem dX6_put_1 : decode cX6_put 1 = .ok (.getfield 35, 3) := bdX6_put_0.2.1
theorem dX6_put_4 : decode cX6_put 4 = .ok (.lload_n 1, 1) := bdX6_put_0.2.2.1
theorem dX6_put_5 : decode cX6_put 5 = .ok (.invokevirtual 234, 3) := bdX6_put_0.2.2.2.1
theorem dX6_put_8 : decode cX6_put 8 = .ok (.ireturn, 1) := bdX6_put_0.2.2.2.2
theorem bdX6_wipe_0 : decode cX6_wipe 0 = .ok (.aload_n 0, 1) ∧ decode cX6_wipe 1 = .ok (.getfield 35, 3) ∧ decode cX6_wipe 4 = .ok (.getfield 212, 3) ∧ decode cX6_wipe 7 = .ok (.istore_n 1, 1) ∧ decode cX6_wipe 8 = .ok (.aload_n 0, 1) ∧ decode cX6_wipe 9 = .ok (.getfield 35, 3) ∧ decode cX6_wipe 12 = .ok (.iconst 0, 1) ∧ decode cX6_wipe 13 = .ok (.putfield 212, 3) ∧ decode cX6_wipe 16 = .ok (.iload_n 1, 1) ∧ decode cX6_wipe 17 = .ok (.ireturn, 1) := by decide +kernel
theorem dX6_wipe_0 : decode cX6_wipe 0 = .ok (.aload_n 0, 1) := bdX6_wipe_0.1
theorem dX6_wipe_1 : decode cX6_wipe 1 = .ok (.getfield 35, 3) := bdX6_wipe_0.2.1
theorem dX6_wipe_4 : decode cX6_wipe 4 = .ok (.getfield 212, 3) := bdX6_wipe_0.2.2.1
theorem dX6_wipe_7 : decode cX6_wipe 7 = .ok (.istore_n 1, 1) := bdX6_wipe_0.2.2.2.1
theorem dX6_wipe_8 : decode cX6_wipe 8 = .ok (.aload_n 0, 1) := bdX6_wipe_0.2.2.2.2.1
theorem dX6_wipe_9 : decode cX6_wipe 9 = .ok (.getfield 35, 3) := bdX6_wipe_0.2.2.2.2.2.1
theorem dX6_wipe_12 : decode cX6_wipe 12 = .ok (.iconst 0, 1) := bdX6_wipe_0.2.2.2.2.2.2.1
theorem dX6_wipe_13 : decode cX6_wipe 13 = .ok (.putfield 212, 3) := bdX6_wipe_0.2.2.2.2.2.2.2.1
theorem dX6_wipe_16 : decode cX6_wipe 16 = .ok (.iload_n 1, 1) := bdX6_wipe_0.2.2.2.2.2.2.2.2.1
theorem dX6_wipe_17 : decode cX6_wipe 17 = .ok (.ireturn, 1) := bdX6_wipe_0.2.2.2.2.2.2.2.2.2
theorem bdX6_fault_0 : decode cX6_fault 0 = .ok (.aload_n 0, 1) ∧ decode cX6_fault 1 = .ok (.getfield 35, 3) ∧ decode cX6_fault 4 = .ok (.invokevirtual 238, 3) ∧ decode cX6_fault 7 = .ok (.ireturn, 1) := by decide +kernel
theorem dX6_fault_0 : decode cX6_fault 0 = .ok (.aload_n 0, 1) := bdX6_fault_0.1
theorem dX6_fault_1 : decode cX6_fault 1 = .ok (.getfield 35, 3) := bdX6_fault_0.2.1
theorem dX6_fault_4 : decode cX6_fault 4 = .ok (.invokevirtual 238, 3) := bdX6_fault_0.2.2.1
theorem dX6_fault_7 : decode cX6_fault 7 = .ok (.ireturn, 1) := bdX6_fault_0.2.2.2
theorem bdX6_carryOut_0 : decode cX6_carryOut 0 = .ok (.aload_n 0, 1) ∧ decode cX6_carryOut 1 = .ok (.getfield 35, 3) ∧ decode cX6_carryOut 4 = .ok (.invokevirtual 238, 3) ∧ decode cX6_carryOut 7 = .ok (.bipush (-6), 2) ∧ decode cX6_carryOut 9 = .ok (.if_icmp .eq 6, 3) ∧ decode cX6_carryOut 12 = .ok (.bipush (-3), 2) ∧ decode cX6_carryOut 14 = .ok (.ireturn, 1) ∧ decode cX6_carryOut 15 = .ok (.aload_n 0, 1) ∧ decode cX6_carryOut 16 = .ok (.getfield 22, 3) ∧ decode cX6_carryOut 19 = .ok (.aload_n 0, 1) ∧ decode cX6_carryOut 20 = .ok (.getfield 10, 3) ∧ decode cX6_carryOut 23 = .ok (.invokevirtual 39, 3) ∧ decode cX6_carryOut 26 = .ok (.iconst 0, 1) ∧ decode cX6_carryOut 27 = .ok (.istore_n 1, 1) ∧ decode cX6_carryOut 28 = .ok (.iconst 0, 1) ∧ decode cX6_carryOut 29 = .ok (.istore_n 2, 1) := by decide +kernel
theorem dX6_carryOut_0 : decode cX6_carryOut 0 = .ok (.aload_n 0, 1) := bdX6_carryOut_0.1
theorem dX6_carryOut_1 : decode cX6_carryOut 1 = .ok (.getfield 35, 3) := bdX6_carryOut_0.2.1
theorem dX6_carryOut_4 : decode cX6_carryOut 4 = .ok (.invokevirtual 238, 3) := bdX6_carryOut_0.2.2.1
theorem dX6_carryOut_7 : decode cX6_carryOut 7 = .ok (.bipush (-6), 2) := bdX6_carryOut_0.2.2.2.1
theorem dX6_carryOut_9 : decode cX6_carryOut 9 = .ok (.if_icmp .eq 6, 3) := bdX6_carryOut_0.2.2.2.2.1
theorem dX6_carryOut_12 : decode cX6_carryOut 12 = .ok (.bipush (-3), 2) := bdX6_carryOut_0.2.2.2.2.2.1
theorem dX6_carryOut_14 : decode cX6_carryOut 14 = .ok (.ireturn, 1) := bdX6_carryOut_0.2.2.2.2.2.2.1
theorem dX6_carryOut_15 : decode cX6_carryOut 15 = .ok (.aload_n 0, 1) := bdX6_carryOut_0.2.2.2.2.2.2.2.1
theorem dX6_carryOut_16 : decode cX6_carryOut 16 = .ok (.getfield 22, 3) := bdX6_carryOut_0.2.2.2.2.2.2.2.2.1
theorem dX6_carryOut_19 : decode cX6_carryOut 19 = .ok (.aload_n 0, 1) := bdX6_carryOut_0.2.2.2.2.2.2.2.2.2.1
theorem dX6_carryOut_20 : decode cX6_carryOut 20 = .ok (.getfield 10, 3) := bdX6_carryOut_0.2.2.2.2.2.2.2.2.2.2.1
theorem dX6_carryOut_23 : decode cX6_carryOut 23 = .ok (.invokevirtual 39, 3) := bdX6_carryOut_0.2.2.2.2.2.2.2.2.2.2.2.1
theorem dX6_carryOut_26 : decode cX6_carryOut 26 = .ok (.iconst 0, 1) := bdX6_carryOut_0.2.2.2.2.2.2.2.2.2.2.2.2.1
theorem dX6_carryOut_27 : decode cX6_carryOut 27 = .ok (.istore_n 1, 1) := bdX6_carryOut_0.2.2.2.2.2.2.2.2.2.2.2.2.2.1
theorem dX6_carryOut_28 : decode cX6_carryOut 28 = .ok (.iconst 0, 1) := bdX6_carryOut_0.2.2.2.2.2.2.2.2.2.2.2.2.2.2.1
theorem dX6_carryOut_29 : decode cX6_carryOut 29 = .ok (.istore_n 2, 1) := bdX6_carryOut_0.2.2.2.2.2.2.2.2.2.2.2.2.2.2.2
theorem bdX6_carryOut_30 : decode cX6_carryOut 30 = .ok (.iconst 0, 1) ∧ decode cX6_carryOut 31 = .ok (.istore_n 3, 1) ∧ decode cX6_carryOut 32 = .ok (.iload_n 3, 1) ∧ decode cX6_carryOut 33 = .ok (.aload_n 0, 1) ∧ decode cX6_carryOut 34 = .ok (.getfield 35, 3) ∧ decode cX6_carryOut 37 = .ok (.getfield 212, 3) ∧ decode cX6_carryOut 40 = .ok (.if_icmp .gt 42, 3) ∧ decode cX6_carryOut 43 = .ok (.aload_n 0, 1) ∧ decode cX6_carryOut 44 = .ok (.getfield 35, 3) ∧ decode cX6_carryOut 47 = .ok (.iload_n 3, 1) ∧ decode cX6_carryOut 48 = .ok (.invokevirtual 241, 3) ∧ decode cX6_carryOut 51 = .ok (.ifCond .ne 6, 3) ∧ decode cX6_carryOut 54 = .ok (.goto 22, 3) ∧ decode cX6_carryOut 57 = .ok (.aload_n 0, 1) ∧ decode cX6_carryOut 58 = .ok (.iload_n 2, 1) ∧ decode cX6_carryOut 59 = .ok (.iload_n 3, 1) := by decide +kernel
theorem dX6_carryOut_30 : decode cX6_carryOut 30 = .ok (.iconst 0, 1) := bdX6_carryOut_30.1
theorem dX6_carryOut_31 : decode cX6_carryOut 31 = .ok (.istore_n 3, 1) := bdX6_carryOut_30.2.1
theorem dX6_carryOut_32 : decode cX6_carryOut 32 = .ok (.iload_n 3, 1) := bdX6_carryOut_30.2.2.1
theorem dX6_carryOut_33 : decode cX6_carryOut 33 = .ok (.aload_n 0, 1) := bdX6_carryOut_30.2.2.2.1
theorem dX6_carryOut_34 : decode cX6_carryOut 34 = .ok (.getfield 35, 3) := bdX6_carryOut_30.2.2.2.2.1
theorem dX6_carryOut_37 : decode cX6_carryOut 37 = .ok (.getfield 212, 3) := bdX6_carryOut_30.2.2.2.2.2.1
theorem dX6_carryOut_40 : decode cX6_carryOut 40 = .ok (.if_icmp .gt 42, 3) := bdX6_carryOut_30.2.2.2.2.2.2.1
theorem dX6_carryOut_43 : decode cX6_carryOut 43 = .ok (.aload_n 0, 1) := bdX6_carryOut_30.2.2.2.2.2.2.2.1
theorem dX6_carryOut_44 : decode cX6_carryOut 44 = .ok (.getfield 35, 3) := bdX6_carryOut_30.2.2.2.2.2.2.2.2.1
theorem dX6_carryOut_47 : decode cX6_carryOut 47 = .ok (.iload_n 3, 1) := bdX6_carryOut_30.2.2.2.2.2.2.2.2.2.1
theorem dX6_carryOut_48 : decode cX6_carryOut 48 = .ok (.invokevirtual 241, 3) := bdX6_carryOut_30.2.2.2.2.2.2.2.2.2.2.1
theorem dX6_carryOut_51 : decode cX6_carryOut 51 = .ok (.ifCond .ne 6, 3) := bdX6_carryOut_30.2.2.2.2.2.2.2.2.2.2.2.1
theorem dX6_carryOut_54 : decode cX6_carryOut 54 = .ok (.goto 22, 3) := bdX6_carryOut_30.2.2.2.2.2.2.2.2.2.2.2.2.1
theorem dX6_carryOut_57 : decode cX6_carryOut 57 = .ok (.aload_n 0, 1) := bdX6_carryOut_30.2.2.2.2.2.2.2.2.2.2.2.2.2.1
theorem dX6_carryOut_58 : decode cX6_carryOut 58 = .ok (.iload_n 2, 1) := bdX6_carryOut_30.2.2.2.2.2.2.2.2.2.2.2.2.2.2.1
theorem dX6_carryOut_59 : decode cX6_carryOut 59 = .ok (.iload_n 3, 1) := bdX6_carryOut_30.2.2.2.2.2.2.2.2.2.2.2.2.2.2.2
theorem bdX6_carryOut_60 : decode cX6_carryOut 60 = .ok (.invokevirtual 244, 3) ∧ decode cX6_carryOut 63 = .ok (.ifCond .ge 6, 3) ∧ decode cX6_carryOut 66 = .ok (.goto 16, 3) ∧ decode cX6_carryOut 69 = .ok (.iinc 1 1, 3) ∧ decode cX6_carryOut 72 = .ok (.iload_n 3, 1) ∧ decode cX6_carryOut 73 = .ok (.iconst 1, 1) ∧ decode cX6_carryOut 74 = .ok (.iadd, 1) ∧ decode cX6_carryOut 75 = .ok (.istore_n 2, 1) ∧ decode cX6_carryOut 76 = .ok (.iinc 3 1, 3) ∧ decode cX6_carryOut 79 = .ok (.goto (-47), 3) ∧ decode cX6_carryOut 82 = .ok (.aload_n 0, 1) ∧ decode cX6_carryOut 83 = .ok (.getfield 35, 3) ∧ decode cX6_carryOut 86 = .ok (.iconst 0, 1) ∧ decode cX6_carryOut 87 = .ok (.putfield 212, 3) ∧ decode cX6_carryOut 90 = .ok (.aload_n 0, 1) ∧ decode cX6_carryOut 91 = .ok (.iload_n 1, 1) := by decide +kernel
theorem dX6_carryOut_60 : decode cX6_carryOut 60 = .ok (.invokevirtual 244, 3) := bdX6_carryOut_60.1
theorem dX6_carryOut_63 : decode cX6_carryOut 63 = .ok (.ifCond .ge 6, 3) := bdX6_carryOut_60.2.1
theorem dX6_carryOut_66 : decode cX6_carryOut 66 = .ok (.goto 16, 3) := bdX6_carryOut_60.2.2.1
theorem dX6_carryOut_69 : decode cX6_carryOut 69 = .ok (.iinc 1 1, 3) := bdX6_carryOut_60.2.2.2.1
theorem dX6_carryOut_72 : decode cX6_carryOut 72 = .ok (.iload_n 3, 1) := bdX6_carryOut_60.2.2.2.2.1
theorem dX6_carryOut_73 : decode cX6_carryOut 73 = .ok (.iconst 1, 1) := bdX6_carryOut_60.2.2.2.2.2.1
theorem dX6_carryOut_74 : decode cX6_carryOut 74 = .ok (.iadd, 1) := bdX6_carryOut_60.2.2.2.2.2.2.1
theorem dX6_carryOut_75 : decode cX6_carryOut 75 = .ok (.istore_n 2, 1) := bdX6_carryOut_60.2.2.2.2.2.2.2.1
theorem dX6_carryOut_76 : decode cX6_carryOut 76 = .ok (.iinc 3 1, 3) := bdX6_carryOut_60.2.2.2.2.2.2.2.2.1
theorem dX6_carryOut_79 : decode cX6_carryOut 79 = .ok (.goto (-47), 3) := bdX6_carryOut_60.2.2.2.2.2.2.2.2.2.1
theorem dX6_carryOut_82 : decode cX6_carryOut 82 = .ok (.aload_n 0, 1) := bdX6_carryOut_60.2.2.2.2.2.2.2.2.2.2.1
theorem dX6_carryOut_83 : decode cX6_carryOut 83 = .ok (.getfield 35, 3) := bdX6_carryOut_60.2.2.2.2.2.2.2.2.2.2.2.1
theorem dX6_carryOut_86 : decode cX6_carryOut 86 = .ok (.iconst 0, 1) := bdX6_carryOut_60.2.2.2.2.2.2.2.2.2.2.2.2.1
theorem dX6_carryOut_87 : decode cX6_carryOut 87 = .ok (.putfield 212, 3) := bdX6_carryOut_60.2.2.2.2.2.2.2.2.2.2.2.2.2.1
theorem dX6_carryOut_90 : decode cX6_carryOut 90 = .ok (.aload_n 0, 1) := bdX6_carryOut_60.2.2.2.2.2.2.2.2.2.2.2.2.2.2.1
theorem dX6_carryOut_91 : decode cX6_carryOut 91 = .ok (.iload_n 1, 1) := bdX6_carryOut_60.2.2.2.2.2.2.2.2.2.2.2.2.2.2.2
theorem bdX6_carryOut_92 : decode cX6_carryOut 92 = .ok (.invokevirtual 47, 3) ∧ decode cX6_carryOut 95 = .ok (.ireturn, 1) := by decide +kernel
theorem dX6_carryOut_92 : decode cX6_carryOut 92 = .ok (.invokevirtual 47, 3) := bdX6_carryOut_92.1
theorem dX6_carryOut_95 : decode cX6_carryOut 95 = .ok (.ireturn, 1) := bdX6_carryOut_92.2
theorem bdX6_performOrder_0 : decode cX6_performOrder 0 = .ok (.aload_n 0, 1) ∧ decode cX6_performOrder 1 = .ok (.getfield 35, 3) ∧ decode cX6_performOrder 4 = .ok (.iload_n 1, 1) ∧ decode cX6_performOrder 5 = .ok (.iconst 1, 1) ∧ decode cX6_performOrder 6 = .ok (.iadd, 1) ∧ decode cX6_performOrder 7 = .ok (.invokevirtual 247, 3) ∧ decode cX6_performOrder 10 = .ok (.bipush 65, 2) ∧ decode cX6_performOrder 12 = .ok (.isub, 1) ∧ decode cX6_performOrder 13 = .ok (.istore_n 3, 1) ∧ decode cX6_performOrder 14 = .ok (.aload_n 0, 1) ∧ decode cX6_performOrder 15 = .ok (.getfield 35, 3) ∧ decode cX6_performOrder 18 = .ok (.iload_n 1, 1) ∧ decode cX6_performOrder 19 = .ok (.invokevirtual 247, 3) ∧ decode cX6_performOrder 22 = .ok (.lookupswitch 135 #[(99, 104), (102, 84), (115, 113), (119, 42)], 42) ∧ decode cX6_performOrder 64 = .ok (.aload_n 0, 1) ∧ decode cX6_performOrder 65 = .ok (.getfield 10, 3) := by decide +kernel
theorem dX6_performOrder_0 : decode cX6_performOrder 0 = .ok (.aload_n 0, 1) := bdX6_performOrder_0.1
theorem dX6_performOrder_1 : decode cX6_performOrder 1 = .ok (.getfield 35, 3) := bdX6_performOrder_0.2.1
theorem dX6_performOrder_4 : decode cX6_performOrder 4 = .ok (.iload_n 1, 1) := bdX6_performOrder_0.2.2.1
theorem dX6_performOrder_5 : decode cX6_performOrder 5 = .ok (.iconst 1, 1) := bdX6_performOrder_0.2.2.2.1
theorem dX6_performOrder_6 : decode cX6_performOrder 6 = .ok (.iadd, 1) := bdX6_performOrder_0.2.2.2.2.1
theorem dX6_performOrder_7 : decode cX6_performOrder 7 = .ok (.invokevirtual 247, 3) := bdX6_performOrder_0.2.2.2.2.2.1
theorem dX6_performOrder_10 : decode cX6_performOrder 10 = .ok (.bipush 65, 2) := bdX6_performOrder_0.2.2.2.2.2.2.1
theorem dX6_performOrder_12 : decode cX6_performOrder 12 = .ok (.isub, 1) := bdX6_performOrder_0.2.2.2.2.2.2.2.1
theorem dX6_performOrder_13 : decode cX6_performOrder 13 = .ok (.istore_n 3, 1) := bdX6_performOrder_0.2.2.2.2.2.2.2.2.1
theorem dX6_performOrder_14 : decode cX6_performOrder 14 = .ok (.aload_n 0, 1) := bdX6_performOrder_0.2.2.2.2.2.2.2.2.2.1
theorem dX6_performOrder_15 : decode cX6_performOrder 15 = .ok (.getfield 35, 3) := bdX6_performOrder_0.2.2.2.2.2.2.2.2.2.2.1
theorem dX6_performOrder_18 : decode cX6_performOrder 18 = .ok (.iload_n 1, 1) := bdX6_performOrder_0.2.2.2.2.2.2.2.2.2.2.2.1
theorem dX6_performOrder_19 : decode cX6_performOrder 19 = .ok (.invokevirtual 247, 3) := bdX6_performOrder_0.2.2.2.2.2.2.2.2.2.2.2.2.1
theorem dX6_performOrder_22 : decode cX6_performOrder 22 = .ok (.lookupswitch 135 #[(99, 104), (102, 84), (115, 113), (119, 42)], 42) := bdX6_performOrder_0.2.2.2.2.2.2.2.2.2.2.2.2.2.1
theorem dX6_performOrder_64 : decode cX6_performOrder 64 = .ok (.aload_n 0, 1) := bdX6_performOrder_0.2.2.2.2.2.2.2.2.2.2.2.2.2.2.1
theorem dX6_performOrder_65 : decode cX6_performOrder 65 = .ok (.getfield 10, 3) := bdX6_performOrder_0.2.2.2.2.2.2.2.2.2.2.2.2.2.2.2
theorem bdX6_performOrder_68 : decode cX6_performOrder 68 = .ok (.iload_n 3, 1) ∧ decode cX6_performOrder 69 = .ok (.aload_n 0, 1) ∧ decode cX6_performOrder 70 = .ok (.getfield 35, 3) ∧ decode cX6_performOrder 73 = .ok (.iload_n 1, 1) ∧ decode cX6_performOrder 74 = .ok (.iconst 2, 1) ∧ decode cX6_performOrder 75 = .ok (.iadd, 1) ∧ decode cX6_performOrder 76 = .ok (.iload_n 2, 1) ∧ decode cX6_performOrder 77 = .ok (.invokevirtual 250, 3) ∧ decode cX6_performOrder 80 = .ok (.aload_n 0, 1) ∧ decode cX6_performOrder 81 = .ok (.getfield 35, 3) ∧ decode cX6_performOrder 84 = .ok (.iload_n 1, 1) ∧ decode cX6_performOrder 85 = .ok (.iconst 3, 1) ∧ decode cX6_performOrder 86 = .ok (.iadd, 1) ∧ decode cX6_performOrder 87 = .ok (.iload_n 2, 1) ∧ decode cX6_performOrder 88 = .ok (.invokevirtual 250, 3) ∧ decode cX6_performOrder 91 = .ok (.aload_n 0, 1) := by decide +kernel
theorem dX6_performOrder_68 : decode cX6_performOrder 68 = .ok (.iload_n 3, 1) := bdX6_performOrder_68.1
theorem dX6_performOrder_69 : decode cX6_performOrder 69 = .ok (.aload_n 0, 1) := bdX6_performOrder_68.2.1
theorem dX6_performOrder_70 : decode cX6_performOrder 70 = .ok (.getfield 35, 3) := bdX6_performOrder_68.2.2.1
theorem dX6_performOrder_73 : decode cX6_performOrder 73 = .ok (.iload_n 1, 1) := bdX6_performOrder_68.2.2.2.1
theorem dX6_performOrder_74 : decode cX6_performOrder 74 = .ok (.iconst 2, 1) := bdX6_performOrder_68.2.2.2.2.1
theorem dX6_performOrder_75 : decode cX6_performOrder 75 = .ok (.iadd, 1) := bdX6_performOrder_68.2.2.2.2.2.1
theorem dX6_performOrder_76 : decode cX6_performOrder 76 = .ok (.iload_n 2, 1) := bdX6_performOrder_68.2.2.2.2.2.2.1
theorem dX6_performOrder_77 : decode cX6_performOrder 77 = .ok (.invokevirtual 250, 3) := bdX6_performOrder_68.2.2.2.2.2.2.2.1
theorem dX6_performOrder_80 : decode cX6_performOrder 80 = .ok (.aload_n 0, 1) := bdX6_performOrder_68.2.2.2.2.2.2.2.2.1
theorem dX6_performOrder_81 : decode cX6_performOrder 81 = .ok (.getfield 35, 3) := bdX6_performOrder_68.2.2.2.2.2.2.2.2.2.1
theorem dX6_performOrder_84 : decode cX6_performOrder 84 = .ok (.iload_n 1, 1) := bdX6_performOrder_68.2.2.2.2.2.2.2.2.2.2.1
theorem dX6_performOrder_85 : decode cX6_performOrder 85 = .ok (.iconst 3, 1) := bdX6_performOrder_68.2.2.2.2.2.2.2.2.2.2.2.1
theorem dX6_performOrder_86 : decode cX6_performOrder 86 = .ok (.iadd, 1) := bdX6_performOrder_68.2.2.2.2.2.2.2.2.2.2.2.2.1
theorem dX6_performOrder_87 : decode cX6_performOrder 87 = .ok (.iload_n 2, 1) := bdX6_performOrder_68.2.2.2.2.2.2.2.2.2.2.2.2.2.1
theorem dX6_performOrder_88 : decode cX6_performOrder 88 = .ok (.invokevirtual 250, 3) := bdX6_performOrder_68.2.2.2.2.2.2.2.2.2.2.2.2.2.2.1
theorem dX6_performOrder_91 : decode cX6_performOrder 91 = .ok (.aload_n 0, 1) := bdX6_performOrder_68.2.2.2.2.2.2.2.2.2.2.2.2.2.2.2
theorem bdX6_performOrder_92 : decode cX6_performOrder 92 = .ok (.getfield 35, 3) ∧ decode cX6_performOrder 95 = .ok (.iload_n 1, 1) ∧ decode cX6_performOrder 96 = .ok (.iconst 4, 1) ∧ decode cX6_performOrder 97 = .ok (.iadd, 1) ∧ decode cX6_performOrder 98 = .ok (.iload_n 2, 1) ∧ decode cX6_performOrder 99 = .ok (.invokevirtual 250, 3) ∧ decode cX6_performOrder 102 = .ok (.invokevirtual 63, 3) ∧ decode cX6_performOrder 105 = .ok (.ireturn, 1) ∧ decode cX6_performOrder 106 = .ok (.aload_n 0, 1) ∧ decode cX6_performOrder 107 = .ok (.getfield 10, 3) ∧ decode cX6_performOrder 110 = .ok (.iload_n 3, 1) ∧ decode cX6_performOrder 111 = .ok (.aload_n 0, 1) ∧ decode cX6_performOrder 112 = .ok (.getfield 35, 3) ∧ decode cX6_performOrder 115 = .ok (.iload_n 1, 1) ∧ decode cX6_performOrder 116 = .ok (.iconst 2, 1) ∧ decode cX6_performOrder 117 = .ok (.iadd, 1) := by decide +kernel
theorem dX6_performOrder_92 : decode cX6_performOrder 92 = .ok (.getfield 35, 3) := bdX6_performOrder_92.1
theorem dX6_performOrder_95 : decode cX6_performOrder 95 = .ok (.iload_n 1, 1) := bdX6_performOrder_92.2.1
theorem dX6_performOrder_96 : decode cX6_performOrder 96 = .ok (.iconst 4, 1) := bdX6_performOrder_92.2.2.1
theorem dX6_performOrder_97 : decode cX6_performOrder 97 = .ok (.iadd, 1) := bdX6_performOrder_92.2.2.2.1
theorem dX6_performOrder_98 : decode cX6_performOrder 98 = .ok (.iload_n 2, 1) := bdX6_performOrder_92.2.2.2.2.1
theorem dX6_performOrder_99 : decode cX6_performOrder 99 = .ok (.invokevirtual 250, 3) := bdX6_performOrder_92.2.2.2.2.2.1
theorem dX6_performOrder_102 : decode cX6_performOrder 102 = .ok (.invokevirtual 63, 3) := bdX6_performOrder_92.2.2.2.2.2.2.1
theorem dX6_performOrder_105 : decode cX6_performOrder 105 = .ok (.ireturn, 1) := bdX6_performOrder_92.2.2.2.2.2.2.2.1
theorem dX6_performOrder_106 : decode cX6_performOrder 106 = .ok (.aload_n 0, 1) := bdX6_performOrder_92.2.2.2.2.2.2.2.2.1
theorem dX6_performOrder_107 : decode cX6_performOrder 107 = .ok (.getfield 10, 3) := bdX6_performOrder_92.2.2.2.2.2.2.2.2.2.1
theorem dX6_performOrder_110 : decode cX6_performOrder 110 = .ok (.iload_n 3, 1) := bdX6_performOrder_92.2.2.2.2.2.2.2.2.2.2.1
theorem dX6_performOrder_111 : decode cX6_performOrder 111 = .ok (.aload_n 0, 1) := bdX6_performOrder_92.2.2.2.2.2.2.2.2.2.2.2.1
theorem dX6_performOrder_112 : decode cX6_performOrder 112 = .ok (.getfield 35, 3) := bdX6_performOrder_92.2.2.2.2.2.2.2.2.2.2.2.2.1
theorem dX6_performOrder_115 : decode cX6_performOrder 115 = .ok (.iload_n 1, 1) := bdX6_performOrder_92.2.2.2.2.2.2.2.2.2.2.2.2.2.1
theorem dX6_performOrder_116 : decode cX6_performOrder 116 = .ok (.iconst 2, 1) := bdX6_performOrder_92.2.2.2.2.2.2.2.2.2.2.2.2.2.2.1
theorem dX6_performOrder_117 : decode cX6_performOrder 117 = .ok (.iadd, 1) := bdX6_performOrder_92.2.2.2.2.2.2.2.2.2.2.2.2.2.2.2
theorem bdX6_performOrder_118 : decode cX6_performOrder 118 = .ok (.iload_n 2, 1) ∧ decode cX6_performOrder 119 = .ok (.invokevirtual 252, 3) ∧ decode cX6_performOrder 122 = .ok (.invokevirtual 67, 3) ∧ decode cX6_performOrder 125 = .ok (.ireturn, 1) ∧ decode cX6_performOrder 126 = .ok (.aload_n 0, 1) ∧ decode cX6_performOrder 127 = .ok (.getfield 10, 3) ∧ decode cX6_performOrder 130 = .ok (.iload_n 3, 1) ∧ decode cX6_performOrder 131 = .ok (.invokevirtual 70, 3) ∧ decode cX6_performOrder 134 = .ok (.ireturn, 1) ∧ decode cX6_performOrder 135 = .ok (.aload_n 0, 1) ∧ decode cX6_performOrder 136 = .ok (.getfield 10, 3) ∧ decode cX6_performOrder 139 = .ok (.iload_n 3, 1) ∧ decode cX6_performOrder 140 = .ok (.aload_n 0, 1) ∧ decode cX6_performOrder 141 = .ok (.getfield 35, 3) ∧ decode cX6_performOrder 144 = .ok (.iload_n 1, 1) ∧ decode cX6_performOrder 145 = .ok (.iconst 2, 1) := by decide +kernel
theorem dX6_performOrder_118 : decode cX6_performOrder 118 = .ok (.iload_n 2, 1) := bdX6_performOrder_118.1
theorem dX6_performOrder_119 : decode cX6_performOrder 119 = .ok (.invokevirtual 252, 3) := bdX6_performOrder_118.2.1
theorem dX6_performOrder_122 : decode cX6_performOrder 122 = .ok (.invokevirtual 67, 3) := bdX6_performOrder_118.2.2.1
theorem dX6_performOrder_125 : decode cX6_performOrder 125 = .ok (.ireturn, 1) := bdX6_performOrder_118.2.2.2.1
theorem dX6_performOrder_126 : decode cX6_performOrder 126 = .ok (.aload_n 0, 1) := bdX6_performOrder_118.2.2.2.2.1
theorem dX6_performOrder_127 : decode cX6_performOrder 127 = .ok (.getfield 10, 3) := bdX6_performOrder_118.2.2.2.2.2.1
theorem dX6_performOrder_130 : decode cX6_performOrder 130 = .ok (.iload_n 3, 1) := bdX6_performOrder_118.2.2.2.2.2.2.1
theorem dX6_performOrder_131 : decode cX6_performOrder 131 = .ok (.invokevirtual 70, 3) := bdX6_performOrder_118.2.2.2.2.2.2.2.1
theorem dX6_performOrder_134 : decode cX6_performOrder 134 = .ok (.ireturn, 1) := bdX6_performOrder_118.2.2.2.2.2.2.2.2.1
theorem dX6_performOrder_135 : decode cX6_performOrder 135 = .ok (.aload_n 0, 1) := bdX6_performOrder_118.2.2.2.2.2.2.2.2.2.1
theorem dX6_performOrder_136 : decode cX6_performOrder 136 = .ok (.getfield 10, 3) := bdX6_performOrder_118.2.2.2.2.2.2.2.2.2.2.1
theorem dX6_performOrder_139 : decode cX6_performOrder 139 = .ok (.iload_n 3, 1) := bdX6_performOrder_118.2.2.2.2.2.2.2.2.2.2.2.1
theorem dX6_performOrder_140 : decode cX6_performOrder 140 = .ok (.aload_n 0, 1) := bdX6_performOrder_118.2.2.2.2.2.2.2.2.2.2.2.2.1
theorem dX6_performOrder_141 : decode cX6_performOrder 141 = .ok (.getfield 35, 3) := bdX6_performOrder_118.2.2.2.2.2.2.2.2.2.2.2.2.2.1
theorem dX6_performOrder_144 : decode cX6_performOrder 144 = .ok (.iload_n 1, 1) := bdX6_performOrder_118.2.2.2.2.2.2.2.2.2.2.2.2.2.2.1
theorem dX6_performOrder_145 : decode cX6_performOrder 145 = .ok (.iconst 2, 1) := bdX6_performOrder_118.2.2.2.2.2.2.2.2.2.2.2.2.2.2.2
theorem bdX6_performOrder_146 : decode cX6_performOrder 146 = .ok (.iadd, 1) ∧ decode cX6_performOrder 147 = .ok (.invokevirtual 247, 3) ∧ decode cX6_performOrder 150 = .ok (.bipush 65, 2) ∧ decode cX6_performOrder 152 = .ok (.isub, 1) ∧ decode cX6_performOrder 153 = .ok (.invokevirtual 73, 3) ∧ decode cX6_performOrder 156 = .ok (.ireturn, 1) ∧ decode cX6_performOrder 157 = .ok (.aload_n 0, 1) ∧ decode cX6_performOrder 158 = .ok (.getfield 10, 3) ∧ decode cX6_performOrder 161 = .ok (.aload_n 0, 1) ∧ decode cX6_performOrder 162 = .ok (.getfield 35, 3) ∧ decode cX6_performOrder 165 = .ok (.iload_n 1, 1) ∧ decode cX6_performOrder 166 = .ok (.iconst 1, 1) ∧ decode cX6_performOrder 167 = .ok (.iadd, 1) ∧ decode cX6_performOrder 168 = .ok (.iload_n 2, 1) ∧ decode cX6_performOrder 169 = .ok (.invokevirtual 252, 3) ∧ decode cX6_performOrder 172 = .ok (.invokevirtual 79, 3) := by decide +kernel
theorem dX6_performOrder_146 : decode cX6_performOrder 146 = .ok (.iadd, 1) := bdX6_performOrder_146.1
theorem dX6_performOrder_147 : decode cX6_performOrder 147 = .ok (.invokevirtual 247, 3) := bdX6_performOrder_146.2.1
theorem dX6_performOrder_150 : decode cX6_performOrder 150 = .ok (.bipush 65, 2) := bdX6_performOrder_146.2.2.1
theorem dX6_performOrder_152 : decode cX6_performOrder 152 = .ok (.isub, 1) := bdX6_performOrder_146.2.2.2.1
theorem dX6_performOrder_153 : decode cX6_performOrder 153 = .ok (.invokevirtual 73, 3) := bdX6_performOrder_146.2.2.2.2.1
theorem dX6_performOrder_156 : decode cX6_performOrder 156 = .ok (.ireturn, 1) := bdX6_performOrder_146.2.2.2.2.2.1
theorem dX6_performOrder_157 : decode cX6_performOrder 157 = .ok (.aload_n 0, 1) := bdX6_performOrder_146.2.2.2.2.2.2.1
theorem dX6_performOrder_158 : decode cX6_performOrder 158 = .ok (.getfield 10, 3) := bdX6_performOrder_146.2.2.2.2.2.2.2.1
theorem dX6_performOrder_161 : decode cX6_performOrder 161 = .ok (.aload_n 0, 1) := bdX6_performOrder_146.2.2.2.2.2.2.2.2.1
theorem dX6_performOrder_162 : decode cX6_performOrder 162 = .ok (.getfield 35, 3) := bdX6_performOrder_146.2.2.2.2.2.2.2.2.2.1
theorem dX6_performOrder_165 : decode cX6_performOrder 165 = .ok (.iload_n 1, 1) := bdX6_performOrder_146.2.2.2.2.2.2.2.2.2.2.1
theorem dX6_performOrder_166 : decode cX6_performOrder 166 = .ok (.iconst 1, 1) := bdX6_performOrder_146.2.2.2.2.2.2.2.2.2.2.2.1
theorem dX6_performOrder_167 : decode cX6_performOrder 167 = .ok (.iadd, 1) := bdX6_performOrder_146.2.2.2.2.2.2.2.2.2.2.2.2.1
theorem dX6_performOrder_168 : decode cX6_performOrder 168 = .ok (.iload_n 2, 1) := bdX6_performOrder_146.2.2.2.2.2.2.2.2.2.2.2.2.2.1
theorem dX6_performOrder_169 : decode cX6_performOrder 169 = .ok (.invokevirtual 252, 3) := bdX6_performOrder_146.2.2.2.2.2.2.2.2.2.2.2.2.2.2.1
theorem dX6_performOrder_172 : decode cX6_performOrder 172 = .ok (.invokevirtual 79, 3) := bdX6_performOrder_146.2.2.2.2.2.2.2.2.2.2.2.2.2.2.2
theorem dX6_performOrder_175 : decode cX6_performOrder 175 = .ok (.ireturn, 1) := by decide +kernel
theorem bdX6_undo_0 : decode cX6_undo 0 = .ok (.aload_n 0, 1) ∧ decode cX6_undo 1 = .ok (.getfield 22, 3) ∧ decode cX6_undo 4 = .ok (.getfield 215, 3) ∧ decode cX6_undo 7 = .ok (.ifCond .ne 6, 3) ∧ decode cX6_undo 10 = .ok (.bipush (-5), 2) ∧ decode cX6_undo 12 = .ok (.ireturn, 1) ∧ decode cX6_undo 13 = .ok (.aload_n 0, 1) ∧ decode cX6_undo 14 = .ok (.getfield 22, 3) ∧ decode cX6_undo 17 = .ok (.aload_n 0, 1) ∧ decode cX6_undo 18 = .ok (.getfield 10, 3) ∧ decode cX6_undo 21 = .ok (.invokevirtual 255, 3) ∧ decode cX6_undo 24 = .ok (.aload_n 0, 1) ∧ decode cX6_undo 25 = .ok (.getfield 22, 3) ∧ decode cX6_undo 28 = .ok (.getfield 215, 3) ∧ decode cX6_undo 31 = .ok (.ireturn, 1) := by decide +kernel
theorem dX6_undo_0 : decode cX6_undo 0 = .ok (.aload_n 0, 1) := bdX6_undo_0.1
theorem dX6_undo_1 : decode cX6_undo 1 = .ok (.getfield 22, 3) := bdX6_undo_0.2.1
theorem dX6_undo_4 : decode cX6_undo 4 = .ok (.getfield 215, 3) := bdX6_undo_0.2.2.1
theorem dX6_undo_7 : decode cX6_undo 7 = .ok (.ifCond .ne 6, 3) := bdX6_undo_0.2.2.2.1
theorem dX6_undo_10 : decode cX6_undo 10 = .ok (.bipush (-5), 2) := bdX6_undo_0.2.2.2.2.1
theorem dX6_undo_12 : decode cX6_undo 12 = .ok (.ireturn, 1) := bdX6_undo_0.2.2.2.2.2.1
theorem dX6_undo_13 : decode cX6_undo 13 = .ok (.aload_n 0, 1) := bdX6_undo_0.2.2.2.2.2.2.1
theorem dX6_undo_14 : decode cX6_undo 14 = .ok (.getfield 22, 3) := bdX6_undo_0.2.2.2.2.2.2.2.1
theorem dX6_undo_17 : decode cX6_undo 17 = .ok (.aload_n 0, 1) := bdX6_undo_0.2.2.2.2.2.2.2.2.1
theorem dX6_undo_18 : decode cX6_undo 18 = .ok (.getfield 10, 3) := bdX6_undo_0.2.2.2.2.2.2.2.2.2.1
theorem dX6_undo_21 : decode cX6_undo 21 = .ok (.invokevirtual 255, 3) := bdX6_undo_0.2.2.2.2.2.2.2.2.2.2.1
theorem dX6_undo_24 : decode cX6_undo 24 = .ok (.aload_n 0, 1) := bdX6_undo_0.2.2.2.2.2.2.2.2.2.2.2.1
theorem dX6_undo_25 : decode cX6_undo 25 = .ok (.getfield 22, 3) := bdX6_undo_0.2.2.2.2.2.2.2.2.2.2.2.2.1
theorem dX6_undo_28 : decode cX6_undo 28 = .ok (.getfield 215, 3) := bdX6_undo_0.2.2.2.2.2.2.2.2.2.2.2.2.2.1
theorem dX6_undo_31 : decode cX6_undo 31 = .ok (.ireturn, 1) := bdX6_undo_0.2.2.2.2.2.2.2.2.2.2.2.2.2.2
theorem bdX6_save_0 : decode cX6_save 0 = .ok (.iload_n 1, 1) ∧ decode cX6_save 1 = .ok (.ifCond .lt 8, 3) ∧ decode cX6_save 4 = .ok (.iload_n 1, 1) ∧ decode cX6_save 5 = .ok (.iconst 2, 1) ∧ decode cX6_save 6 = .ok (.if_icmp .lt 6, 3) ∧ decode cX6_save 9 = .ok (.bipush (-2), 2) ∧ decode cX6_save 11 = .ok (.ireturn, 1) ∧ decode cX6_save 12 = .ok (.iload_n 1, 1) ∧ decode cX6_save 13 = .ok (.ifCond .ne 10, 3) ∧ decode cX6_save 16 = .ok (.aload_n 0, 1) ∧ decode cX6_save 17 = .ok (.getfield 26, 3) ∧ decode cX6_save 20 = .ok (.goto 7, 3) ∧ decode cX6_save 23 = .ok (.aload_n 0, 1) ∧ decode cX6_save 24 = .ok (.getfield 29, 3) ∧ decode cX6_save 27 = .ok (.astore_n 2, 1) ∧ decode cX6_save 28 = .ok (.aload_n 2, 1) := by decide +kernel
theorem dX6_save_0 : decode cX6_save 0 = .ok (.iload_n 1, 1) := bdX6_save_0.1
theorem dX6_save_1 : decode cX6_save 1 = .ok (.ifCond .lt 8, 3) := bdX6_save_0.2.1
theorem dX6_save_4 : decode cX6_save 4 = .ok (.iload_n 1, 1) := bdX6_save_0.2.2.1
theorem dX6_save_5 : decode cX6_save 5 = .ok (.iconst 2, 1) := bdX6_save_0.2.2.2.1
theorem dX6_save_6 : decode cX6_save 6 = .ok (.if_icmp .lt 6, 3) := bdX6_save_0.2.2.2.2.1
theorem dX6_save_9 : decode cX6_save 9 = .ok (.bipush (-2), 2) := bdX6_save_0.2.2.2.2.2.1
theorem dX6_save_11 : decode cX6_save 11 = .ok (.ireturn, 1) := bdX6_save_0.2.2.2.2.2.2.1
theorem dX6_save_12 : decode cX6_save 12 = .ok (.iload_n 1, 1) := bdX6_save_0.2.2.2.2.2.2.2.1
theorem dX6_save_13 : decode cX6_save 13 = .ok (.ifCond .ne 10, 3) := bdX6_save_0.2.2.2.2.2.2.2.2.1
theorem dX6_save_16 : decode cX6_save 16 = .ok (.aload_n 0, 1) := bdX6_save_0.2.2.2.2.2.2.2.2.2.1
theorem dX6_save_17 : decode cX6_save 17 = .ok (.getfield 26, 3) := bdX6_save_0.2.2.2.2.2.2.2.2.2.2.1
theorem dX6_save_20 : decode cX6_save 20 = .ok (.goto 7, 3) := bdX6_save_0.2.2.2.2.2.2.2.2.2.2.2.1
theorem dX6_save_23 : decode cX6_save 23 = .ok (.aload_n 0, 1) := bdX6_save_0.2.2.2.2.2.2.2.2.2.2.2.2.1
theorem dX6_save_24 : decode cX6_save 24 = .ok (.getfield 29, 3) := bdX6_save_0.2.2.2.2.2.2.2.2.2.2.2.2.2.1
theorem dX6_save_27 : decode cX6_save 27 = .ok (.astore_n 2, 1) := bdX6_save_0.2.2.2.2.2.2.2.2.2.2.2.2.2.2.1
theorem dX6_save_28 : decode cX6_save 28 = .ok (.aload_n 2, 1) := bdX6_save_0.2.2.2.2.2.2.2.2.2.2.2.2.2.2.2
theorem bdX6_save_29 : decode cX6_save 29 = .ok (.aload_n 0, 1) ∧ decode cX6_save 30 = .ok (.getfield 10, 3) ∧ decode cX6_save 33 = .ok (.invokevirtual 224, 3) ∧ decode cX6_save 36 = .ok (.aload_n 2, 1) ∧ decode cX6_save 37 = .ok (.iconst 1, 1) ∧ decode cX6_save 38 = .ok (.putfield 258, 3) ∧ decode cX6_save 41 = .ok (.aload_n 0, 1) ∧ decode cX6_save 42 = .ok (.getfield 10, 3) ∧ decode cX6_save 45 = .ok (.getfield 125, 3) ∧ decode cX6_save 48 = .ok (.ireturn, 1) := by decide +kernel
theorem dX6_save_29 : decode cX6_save 29 = .ok (.aload_n 0, 1) := bdX6_save_29.1
theorem dX6_save_30 : decode cX6_save 30 = .ok (.getfield 10, 3) := bdX6_save_29.2.1
theorem dX6_save_33 : decode cX6_save 33 = .ok (.invokevirtual 224, 3) := bdX6_save_29.2.2.1
theorem dX6_save_36 : decode cX6_save 36 = .ok (.aload_n 2, 1) := bdX6_save_29.2.2.2.1
theorem dX6_save_37 : decode cX6_save 37 = .ok (.iconst 1, 1) := bdX6_save_29.2.2.2.2.1
theorem dX6_save_38 : decode cX6_save 38 = .ok (.putfield 258, 3) := bdX6_save_29.2.2.2.2.2.1
theorem dX6_save_41 : decode cX6_save 41 = .ok (.aload_n 0, 1) := bdX6_save_29.2.2.2.2.2.2.1
theorem dX6_save_42 : decode cX6_save 42 = .ok (.getfield 10, 3) := bdX6_save_29.2.2.2.2.2.2.2.1
theorem dX6_save_45 : decode cX6_save 45 = .ok (.getfield 125, 3) := bdX6_save_29.2.2.2.2.2.2.2.2.1
theorem dX6_save_48 : decode cX6_save 48 = .ok (.ireturn, 1) := bdX6_save_29.2.2.2.2.2.2.2.2.2
theorem bdX6_restore_0 : decode cX6_restore 0 = .ok (.iload_n 1, 1) ∧ decode cX6_restore 1 = .ok (.ifCond .lt 8, 3) ∧ decode cX6_restore 4 = .ok (.iload_n 1, 1) ∧ decode cX6_restore 5 = .ok (.iconst 2, 1) ∧ decode cX6_restore 6 = .ok (.if_icmp .lt 6, 3) ∧ decode cX6_restore 9 = .ok (.bipush (-2), 2) ∧ decode cX6_restore 11 = .ok (.ireturn, 1) ∧ decode cX6_restore 12 = .ok (.iload_n 1, 1) ∧ decode cX6_restore 13 = .ok (.ifCond .ne 10, 3) ∧ decode cX6_restore 16 = .ok (.aload_n 0, 1) ∧ decode cX6_restore 17 = .ok (.getfield 26, 3) ∧ decode cX6_restore 20 = .ok (.goto 7, 3) ∧ decode cX6_restore 23 = .ok (.aload_n 0, 1) ∧ decode cX6_restore 24 = .ok (.getfield 29, 3) ∧ decode cX6_restore 27 = .ok (.astore_n 2, 1) ∧ decode cX6_restore 28 = .ok (.aload_n 2, 1) := by decide +kernel
theorem dX6_restore_0 : decode cX6_restore 0 = .ok (.iload_n 1, 1) := bdX6_restore_0.1
theorem dX6_restore_1 : decode cX6_restore 1 = .ok (.ifCond .lt 8, 3) := bdX6_restore_0.2.1
theorem dX6_restore_4 : decode cX6_restore 4 = .ok (.iload_n 1, 1) := bdX6_restore_0.2.2.1
theorem dX6_restore_5 : decode cX6_restore 5 = .ok (.iconst 2, 1) := bdX6_restore_0.2.2.2.1
theorem dX6_restore_6 : decode cX6_restore 6 = .ok (.if_icmp .lt 6, 3) := bdX6_restore_0.2.2.2.2.1
theorem dX6_restore_9 : decode cX6_restore 9 = .ok (.bipush (-2), 2) := bdX6_restore_0.2.2.2.2.2.1
theorem dX6_restore_11 : decode cX6_restore 11 = .ok (.ireturn, 1) := bdX6_restore_0.2.2.2.2.2.2.1
theorem dX6_restore_12 : decode cX6_restore 12 = .ok (.iload_n 1, 1) := bdX6_restore_0.2.2.2.2.2.2.2.1
theorem dX6_restore_13 : decode cX6_restore 13 = .ok (.ifCond .ne 10, 3) := bdX6_restore_0.2.2.2.2.2.2.2.2.1
theorem dX6_restore_16 : decode cX6_restore 16 = .ok (.aload_n 0, 1) := bdX6_restore_0.2.2.2.2.2.2.2.2.2.1
theorem dX6_restore_17 : decode cX6_restore 17 = .ok (.getfield 26, 3) := bdX6_restore_0.2.2.2.2.2.2.2.2.2.2.1
theorem dX6_restore_20 : decode cX6_restore 20 = .ok (.goto 7, 3) := bdX6_restore_0.2.2.2.2.2.2.2.2.2.2.2.1
theorem dX6_restore_23 : decode cX6_restore 23 = .ok (.aload_n 0, 1) := bdX6_restore_0.2.2.2.2.2.2.2.2.2.2.2.2.1
theorem dX6_restore_24 : decode cX6_restore 24 = .ok (.getfield 29, 3) := bdX6_restore_0.2.2.2.2.2.2.2.2.2.2.2.2.2.1
theorem dX6_restore_27 : decode cX6_restore 27 = .ok (.astore_n 2, 1) := bdX6_restore_0.2.2.2.2.2.2.2.2.2.2.2.2.2.2.1
theorem dX6_restore_28 : decode cX6_restore 28 = .ok (.aload_n 2, 1) := bdX6_restore_0.2.2.2.2.2.2.2.2.2.2.2.2.2.2.2
theorem bdX6_restore_29 : decode cX6_restore 29 = .ok (.getfield 258, 3) ∧ decode cX6_restore 32 = .ok (.ifCond .ne 6, 3) ∧ decode cX6_restore 35 = .ok (.bipush (-5), 2) ∧ decode cX6_restore 37 = .ok (.ireturn, 1) ∧ decode cX6_restore 38 = .ok (.aload_n 0, 1) ∧ decode cX6_restore 39 = .ok (.getfield 22, 3) ∧ decode cX6_restore 42 = .ok (.aload_n 0, 1) ∧ decode cX6_restore 43 = .ok (.getfield 10, 3) ∧ decode cX6_restore 46 = .ok (.invokevirtual 39, 3) ∧ decode cX6_restore 49 = .ok (.aload_n 0, 1) ∧ decode cX6_restore 50 = .ok (.getfield 10, 3) ∧ decode cX6_restore 53 = .ok (.aload_n 2, 1) ∧ decode cX6_restore 54 = .ok (.invokevirtual 224, 3) ∧ decode cX6_restore 57 = .ok (.aload_n 0, 1) ∧ decode cX6_restore 58 = .ok (.aload_n 0, 1) ∧ decode cX6_restore 59 = .ok (.getfield 10, 3) := by decide +kernel
theorem dX6_restore_29 : decode cX6_restore 29 = .ok (.getfield 258, 3) := bdX6_restore_29.1
theorem dX6_restore_32 : decode cX6_restore 32 = .ok (.ifCond .ne 6, 3) := bdX6_restore_29.2.1
theorem dX6_restore_35 : decode cX6_restore 35 = .ok (.bipush (-5), 2) := bdX6_restore_29.2.2.1
theorem dX6_restore_37 : decode cX6_restore 37 = .ok (.ireturn, 1) := bdX6_restore_29.2.2.2.1
theorem dX6_restore_38 : decode cX6_restore 38 = .ok (.aload_n 0, 1) := bdX6_restore_29.2.2.2.2.1
theorem dX6_restore_39 : decode cX6_restore 39 = .ok (.getfield 22, 3) := bdX6_restore_29.2.2.2.2.2.1
theorem dX6_restore_42 : decode cX6_restore 42 = .ok (.aload_n 0, 1) := bdX6_restore_29.2.2.2.2.2.2.1
theorem dX6_restore_43 : decode cX6_restore 43 = .ok (.getfield 10, 3) := bdX6_restore_29.2.2.2.2.2.2.2.1
theorem dX6_restore_46 : decode cX6_restore 46 = .ok (.invokevirtual 39, 3) := bdX6_restore_29.2.2.2.2.2.2.2.2.1
theorem dX6_restore_49 : decode cX6_restore 49 = .ok (.aload_n 0, 1) := bdX6_restore_29.2.2.2.2.2.2.2.2.2.1
theorem dX6_restore_50 : decode cX6_restore 50 = .ok (.getfield 10, 3) := bdX6_restore_29.2.2.2.2.2.2.2.2.2.2.1
theorem dX6_restore_53 : decode cX6_restore 53 = .ok (.aload_n 2, 1) := bdX6_restore_29.2.2.2.2.2.2.2.2.2.2.2.1
theorem dX6_restore_54 : decode cX6_restore 54 = .ok (.invokevirtual 224, 3) := bdX6_restore_29.2.2.2.2.2.2.2.2.2.2.2.2.1
theorem dX6_restore_57 : decode cX6_restore 57 = .ok (.aload_n 0, 1) := bdX6_restore_29.2.2.2.2.2.2.2.2.2.2.2.2.2.1
theorem dX6_restore_58 : decode cX6_restore 58 = .ok (.aload_n 0, 1) := bdX6_restore_29.2.2.2.2.2.2.2.2.2.2.2.2.2.2.1
theorem dX6_restore_59 : decode cX6_restore 59 = .ok (.getfield 10, 3) := bdX6_restore_29.2.2.2.2.2.2.2.2.2.2.2.2.2.2.2
theorem bdX6_restore_62 : decode cX6_restore 62 = .ok (.getfield 125, 3) ∧ decode cX6_restore 65 = .ok (.invokevirtual 47, 3) ∧ decode cX6_restore 68 = .ok (.ireturn, 1) := by decide +kernel
theorem dX6_restore_62 : decode cX6_restore 62 = .ok (.getfield 125, 3) := bdX6_restore_62.1
theorem dX6_restore_65 : decode cX6_restore 65 = .ok (.invokevirtual 47, 3) := bdX6_restore_62.2.1
theorem dX6_restore_68 : decode cX6_restore 68 = .ok (.ireturn, 1) := bdX6_restore_62.2.2
theorem dJ9_min_7cf53_0 : decode cJ9_min_7cf53 0 = .ok (.iload_n 0, 1) := by decide +kernel
theorem dJ9_min_7cf53_1 : decode cJ9_min_7cf53 1 = .ok (.iload_n 1, 1) := by decide +kernel
theorem dJ9_min_7cf53_2 : decode cJ9_min_7cf53 2 = .ok (.if_icmp .gt 7, 3) := by decide +kernel
theorem dJ9_min_7cf53_5 : decode cJ9_min_7cf53 5 = .ok (.iload_n 0, 1) := by decide +kernel
theorem dJ9_min_7cf53_6 : decode cJ9_min_7cf53 6 = .ok (.goto 4, 3) := by decide +kernel
theorem dJ9_min_7cf53_9 : decode cJ9_min_7cf53 9 = .ok (.iload_n 1, 1) := by decide +kernel
theorem dJ9_min_7cf53_10 : decode cJ9_min_7cf53 10 = .ok (.ireturn, 1) := by decide +kernel
