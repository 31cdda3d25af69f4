-- what the tables say, one by one
theorem mow_0 : mow 0 = 0 := by decide +kernel
theorem mhl_0 : mhl 0 = false := by decide +kernel
theorem mrt_0 : mrt 0 = some .int := by decide +kernel
theorem mml_0 : mml 0 = 3 := by decide +kernel
theorem mna_0 : mna 0 = 2 := by decide +kernel
theorem mow_1 : mow 1 = 0 := by decide +kernel
theorem mhl_1 : mhl 1 = false := by decide +kernel
theorem mrt_1 : mrt 1 = some .boolean := by decide +kernel
theorem mml_1 : mml 1 = 8 := by decide +kernel
theorem mna_1 : mna 1 = 4 := by decide +kernel
theorem mow_2 : mow 2 = 1 := by decide +kernel
theorem mhl_2 : mhl 2 = false := by decide +kernel
theorem mrt_2 : mrt 2 = none := by decide +kernel
theorem mml_2 : mml 2 = 1 := by decide +kernel
theorem mna_2 : mna 2 = 1 := by decide +kernel
theorem mow_3 : mow 3 = 1 := by decide +kernel
theorem mhl_3 : mhl 3 = false := by decide +kernel
theorem mrt_3 : mrt 3 = none := by decide +kernel
theorem mml_3 : mml 3 = 2 := by decide +kernel
theorem mna_3 : mna 3 = 2 := by decide +kernel
theorem mow_4 : mow 4 = 1 := by decide +kernel
theorem mhl_4 : mhl 4 = false := by decide +kernel
theorem mrt_4 : mrt 4 = none := by decide +kernel
theorem mml_4 : mml 4 = 4 := by decide +kernel
theorem mna_4 : mna 4 = 2 := by decide +kernel
theorem mow_5 : mow 5 = 1 := by decide +kernel
theorem mhl_5 : mhl 5 = false := by decide +kernel
theorem mrt_5 : mrt 5 = none := by decide +kernel
theorem mml_5 : mml 5 = 2 := by decide +kernel
theorem mna_5 : mna 5 = 1 := by decide +kernel
theorem mow_6 : mow 6 = 1 := by decide +kernel
theorem mhl_6 : mhl 6 = false := by decide +kernel
theorem mrt_6 : mrt 6 = none := by decide +kernel
theorem mml_6 : mml 6 = 4 := by decide +kernel
theorem mna_6 : mna 6 = 2 := by decide +kernel
theorem mow_7 : mow 7 = 2 := by decide +kernel
theorem mhl_7 : mhl 7 = false := by decide +kernel
theorem mrt_7 : mrt 7 = some .int := by decide +kernel
theorem mml_7 : mml 7 = 2 := by decide +kernel
theorem mna_7 : mna 7 = 2 := by decide +kernel
theorem mow_8 : mow 8 = 2 := by decide +kernel
theorem mhl_8 : mhl 8 = false := by decide +kernel
theorem mrt_8 : mrt 8 = some .int := by decide +kernel
theorem mml_8 : mml 8 = 3 := by decide +kernel
theorem mna_8 : mna 8 = 2 := by decide +kernel
theorem mow_9 : mow 9 = 2 := by decide +kernel
theorem mhl_9 : mhl 9 = false := by decide +kernel
theorem mrt_9 : mrt 9 = some .int := by decide +kernel
theorem mml_9 : mml 9 = 1 := by decide +kernel
theorem mna_9 : mna 9 = 1 := by decide +kernel
theorem mow_10 : mow 10 = 2 := by decide +kernel
theorem mhl_10 : mhl 10 = false := by decide +kernel
theorem mrt_10 : mrt 10 = some .boolean := by decide +kernel
theorem mml_10 : mml 10 = 2 := by decide +kernel
theorem mna_10 : mna 10 = 2 := by decide +kernel
theorem mow_11 : mow 11 = 2 := by decide +kernel
theorem mhl_11 : mhl 11 = false := by decide +kernel
theorem mrt_11 : mrt 11 = some .boolean := by decide +kernel
theorem mml_11 : mml 11 = 3 := by decide +kernel
theorem mna_11 : mna 11 = 2 := by decide +kernel
theorem mow_12 : mow 12 = 2 := by decide +kernel
theorem mhl_12 : mhl 12 = false := by decide +kernel
theorem mrt_12 : mrt 12 = some .boolean := by decide +kernel
theorem mml_12 : mml 12 = 2 := by decide +kernel
theorem mna_12 : mna 12 = 2 := by decide +kernel
theorem mow_13 : mow 13 = 2 := by decide +kernel
theorem mhl_13 : mhl 13 = false := by decide +kernel
theorem mrt_13 : mrt 13 = some .boolean := by decide +kernel
theorem mml_13 : mml 13 = 3 := by decide +kernel
theorem mna_13 : mna 13 = 2 := by decide +kernel
theorem mow_14 : mow 14 = 2 := by decide +kernel
theorem mhl_14 : mhl 14 = false := by decide +kernel
theorem mrt_14 : mrt 14 = some .boolean := by decide +kernel
theorem mml_14 : mml 14 = 2 := by decide +kernel
theorem mna_14 : mna 14 = 2 := by decide +kernel
theorem mow_15 : mow 15 = 2 := by decide +kernel
theorem mhl_15 : mhl 15 = false := by decide +kernel
theorem mrt_15 : mrt 15 = some .boolean := by decide +kernel
theorem mml_15 : mml 15 = 2 := by decide +kernel
theorem mna_15 : mna 15 = 2 := by decide +kernel
theorem mow_16 : mow 16 = 2 := by decide +kernel
theorem mhl_16 : mhl 16 = false := by decide +kernel
theorem mrt_16 : mrt 16 = some .boolean := by decide +kernel
theorem mml_16 : mml 16 = 3 := by decide +kernel
theorem mna_16 : mna 16 = 3 := by decide +kernel
theorem mow_17 : mow 17 = 2 := by decide +kernel
theorem mhl_17 : mhl 17 = false := by decide +kernel
theorem mrt_17 : mrt 17 = none := by decide +kernel
theorem mml_17 : mml 17 = 2 := by decide +kernel
theorem mna_17 : mna 17 = 1 := by decide +kernel
theorem mow_18 : mow 18 = 2 := by decide +kernel
theorem mhl_18 : mhl 18 = false := by decide +kernel
theorem mrt_18 : mrt 18 = some .int := by decide +kernel
theorem mml_18 : mml 18 = 2 := by decide +kernel
theorem mna_18 : mna 18 = 2 := by decide +kernel
theorem mow_19 : mow 19 = 2 := by decide +kernel
theorem mhl_19 : mhl 19 = false := by decide +kernel
theorem mrt_19 : mrt 19 = some .boolean := by decide +kernel
theorem mml_19 : mml 19 = 1 := by decide +kernel
theorem mna_19 : mna 19 = 1 := by decide +kernel
theorem mow_20 : mow 20 = 2 := by decide +kernel
theorem mhl_20 : mhl 20 = false := by decide +kernel
theorem mrt_20 : mrt 20 = some .boolean := by decide +kernel
theorem mml_20 : mml 20 = 1 := by decide +kernel
theorem mna_20 : mna 20 = 1 := by decide +kernel
theorem mow_21 : mow 21 = 2 := by decide +kernel
theorem mhl_21 : mhl 21 = false := by decide +kernel
theorem mrt_21 : mrt 21 = some .boolean := by decide +kernel
theorem mml_21 : mml 21 = 3 := by decide +kernel
theorem mna_21 : mna 21 = 2 := by decide +kernel
theorem mow_22 : mow 22 = 3 := by decide +kernel
theorem mhl_22 : mhl 22 = false := by decide +kernel
theorem mrt_22 : mrt 22 = none := by decide +kernel
theorem mml_22 : mml 22 = 1 := by decide +kernel
theorem mna_22 : mna 22 = 1 := by decide +kernel
theorem mow_23 : mow 23 = 3 := by decide +kernel
theorem mhl_23 : mhl 23 = false := by decide +kernel
theorem mrt_23 : mrt 23 = none := by decide +kernel
theorem mml_23 : mml 23 = 4 := by decide +kernel
theorem mna_23 : mna 23 = 1 := by decide +kernel
theorem mow_24 : mow 24 = 3 := by decide +kernel
theorem mhl_24 : mhl 24 = false := by decide +kernel
theorem mrt_24 : mrt 24 = some .boolean := by decide +kernel
theorem mml_24 : mml 24 = 5 := by decide +kernel
theorem mna_24 : mna 24 = 4 := by decide +kernel
theorem mow_25 : mow 25 = 3 := by decide +kernel
theorem mhl_25 : mhl 25 = false := by decide +kernel
theorem mrt_25 : mrt 25 = none := by decide +kernel
theorem mml_25 : mml 25 = 9 := by decide +kernel
theorem mna_25 : mna 25 = 4 := by decide +kernel
theorem mow_26 : mow 26 = 4 := by decide +kernel
theorem mhl_26 : mhl 26 = false := by decide +kernel
theorem mrt_26 : mrt 26 = some .boolean := by decide +kernel
theorem mml_26 : mml 26 = 1 := by decide +kernel
theorem mna_26 : mna 26 = 1 := by decide +kernel
theorem mow_27 : mow 27 = 4 := by decide +kernel
theorem mhl_27 : mhl 27 = false := by decide +kernel
theorem mrt_27 : mrt 27 = some .int := by decide +kernel
theorem mml_27 : mml 27 = 7 := by decide +kernel
theorem mna_27 : mna 27 = 6 := by decide +kernel
theorem mow_28 : mow 28 = 4 := by decide +kernel
theorem mhl_28 : mhl 28 = false := by decide +kernel
theorem mrt_28 : mrt 28 = some .int := by decide +kernel
theorem mml_28 : mml 28 = 3 := by decide +kernel
theorem mna_28 : mna 28 = 3 := by decide +kernel
theorem mow_29 : mow 29 = 4 := by decide +kernel
theorem mhl_29 : mhl 29 = false := by decide +kernel
theorem mrt_29 : mrt 29 = some .int := by decide +kernel
theorem mml_29 : mml 29 = 2 := by decide +kernel
theorem mna_29 : mna 29 = 1 := by decide +kernel
theorem mow_30 : mow 30 = 4 := by decide +kernel
theorem mhl_30 : mhl 30 = false := by decide +kernel
theorem mrt_30 : mrt 30 = none := by decide +kernel
theorem mml_30 : mml 30 = 2 := by decide +kernel
theorem mna_30 : mna 30 = 2 := by decide +kernel
theorem mow_31 : mow 31 = 4 := by decide +kernel
theorem mhl_31 : mhl 31 = true := by decide +kernel
theorem mrt_31 : mrt 31 = some .long := by decide +kernel
theorem mml_31 : mml 31 = 6 := by decide +kernel
theorem mna_31 : mna 31 = 2 := by decide +kernel
theorem mow_32 : mow 32 = 5 := by decide +kernel
theorem mhl_32 : mhl 32 = false := by decide +kernel
theorem mrt_32 : mrt 32 = none := by decide +kernel
theorem mml_32 : mml 32 = 1 := by decide +kernel
theorem mna_32 : mna 32 = 1 := by decide +kernel
theorem mow_33 : mow 33 = 5 := by decide +kernel
theorem mhl_33 : mhl 33 = false := by decide +kernel
theorem mrt_33 : mrt 33 = none := by decide +kernel
theorem mml_33 : mml 33 = 2 := by decide +kernel
theorem mna_33 : mna 33 = 2 := by decide +kernel
theorem mow_34 : mow 34 = 5 := by decide +kernel
theorem mhl_34 : mhl 34 = false := by decide +kernel
theorem mrt_34 : mrt 34 = some .boolean := by decide +kernel
theorem mml_34 : mml 34 = 2 := by decide +kernel
theorem mna_34 : mna 34 = 2 := by decide +kernel
theorem mow_35 : mow 35 = 5 := by decide +kernel
theorem mhl_35 : mhl 35 = false := by decide +kernel
theorem mrt_35 : mrt 35 = some .boolean := by decide +kernel
theorem mml_35 : mml 35 = 2 := by decide +kernel
theorem mna_35 : mna 35 = 2 := by decide +kernel
theorem mow_36 : mow 36 = 5 := by decide +kernel
theorem mhl_36 : mhl 36 = false := by decide +kernel
theorem mrt_36 : mrt 36 = some .int := by decide +kernel
theorem mml_36 : mml 36 = 3 := by decide +kernel
theorem mna_36 : mna 36 = 3 := by decide +kernel
theorem mow_37 : mow 37 = 5 := by decide +kernel
theorem mhl_37 : mhl 37 = false := by decide +kernel
theorem mrt_37 : mrt 37 = some .int := by decide +kernel
theorem mml_37 : mml 37 = 2 := by decide +kernel
theorem mna_37 : mna 37 = 2 := by decide +kernel
theorem mow_38 : mow 38 = 5 := by decide +kernel
theorem mhl_38 : mhl 38 = false := by decide +kernel
theorem mrt_38 : mrt 38 = some .int := by decide +kernel
theorem mml_38 : mml 38 = 3 := by decide +kernel
theorem mna_38 : mna 38 = 3 := by decide +kernel
theorem mow_39 : mow 39 = 5 := by decide +kernel
theorem mhl_39 : mhl 39 = false := by decide +kernel
theorem mrt_39 : mrt 39 = some .int := by decide +kernel
theorem mml_39 : mml 39 = 4 := by decide +kernel
theorem mna_39 : mna 39 = 3 := by decide +kernel
theorem mow_40 : mow 40 = 5 := by decide +kernel
theorem mhl_40 : mhl 40 = false := by decide +kernel
theorem mrt_40 : mrt 40 = none := by decide +kernel
theorem mml_40 : mml 40 = 3 := by decide +kernel
theorem mna_40 : mna 40 = 3 := by decide +kernel
theorem mow_41 : mow 41 = 5 := by decide +kernel
theorem mhl_41 : mhl 41 = false := by decide +kernel
theorem mrt_41 : mrt 41 = none := by decide +kernel
theorem mml_41 : mml 41 = 2 := by decide +kernel
theorem mna_41 : mna 41 = 1 := by decide +kernel
theorem mow_42 : mow 42 = 5 := by decide +kernel
theorem mhl_42 : mhl 42 = false := by decide +kernel
theorem mrt_42 : mrt 42 = none := by decide +kernel
theorem mml_42 : mml 42 = 3 := by decide +kernel
theorem mna_42 : mna 42 = 2 := by decide +kernel
theorem mow_43 : mow 43 = 5 := by decide +kernel
theorem mhl_43 : mhl 43 = false := by decide +kernel
theorem mrt_43 : mrt 43 = some .int := by decide +kernel
theorem mml_43 : mml 43 = 3 := by decide +kernel
theorem mna_43 : mna 43 = 1 := by decide +kernel
theorem mow_44 : mow 44 = 5 := by decide +kernel
theorem mhl_44 : mhl 44 = false := by decide +kernel
theorem mrt_44 : mrt 44 = some .int := by decide +kernel
theorem mml_44 : mml 44 = 3 := by decide +kernel
theorem mna_44 : mna 44 = 1 := by decide +kernel
theorem mow_45 : mow 45 = 6 := by decide +kernel
theorem mhl_45 : mhl 45 = false := by decide +kernel
theorem mrt_45 : mrt 45 = some .int := by decide +kernel
theorem mml_45 : mml 45 = 2 := by decide +kernel
theorem mna_45 : mna 45 = 1 := by decide +kernel
theorem mow_46 : mow 46 = 6 := by decide +kernel
theorem mhl_46 : mhl 46 = false := by decide +kernel
theorem mrt_46 : mrt 46 = some .int := by decide +kernel
theorem mml_46 : mml 46 = 3 := by decide +kernel
theorem mna_46 : mna 46 = 3 := by decide +kernel
theorem mow_47 : mow 47 = 6 := by decide +kernel
theorem mhl_47 : mhl 47 = false := by decide +kernel
theorem mrt_47 : mrt 47 = some .int := by decide +kernel
theorem mml_47 : mml 47 = 2 := by decide +kernel
theorem mna_47 : mna 47 = 2 := by decide +kernel
theorem mow_48 : mow 48 = 6 := by decide +kernel
theorem mhl_48 : mhl 48 = false := by decide +kernel
theorem mrt_48 : mrt 48 = some .int := by decide +kernel
theorem mml_48 : mml 48 = 2 := by decide +kernel
theorem mna_48 : mna 48 = 2 := by decide +kernel
theorem mow_49 : mow 49 = 6 := by decide +kernel
theorem mhl_49 : mhl 49 = false := by decide +kernel
theorem mrt_49 : mrt 49 = some .int := by decide +kernel
theorem mml_49 : mml 49 = 2 := by decide +kernel
theorem mna_49 : mna 49 = 1 := by decide +kernel
theorem mow_50 : mow 50 = 6 := by decide +kernel
theorem mhl_50 : mhl 50 = false := by decide +kernel
theorem mrt_50 : mrt 50 = some .int := by decide +kernel
theorem mml_50 : mml 50 = 2 := by decide +kernel
theorem mna_50 : mna 50 = 1 := by decide +kernel
theorem mow_51 : mow 51 = 6 := by decide +kernel
theorem mhl_51 : mhl 51 = false := by decide +kernel
theorem mrt_51 : mrt 51 = some .int := by decide +kernel
theorem mml_51 : mml 51 = 2 := by decide +kernel
theorem mna_51 : mna 51 = 2 := by decide +kernel
theorem mow_52 : mow 52 = 6 := by decide +kernel
theorem mhl_52 : mhl 52 = false := by decide +kernel
theorem mrt_52 : mrt 52 = some .int := by decide +kernel
theorem mml_52 : mml 52 = 3 := by decide +kernel
theorem mna_52 : mna 52 = 3 := by decide +kernel
theorem mow_53 : mow 53 = 6 := by decide +kernel
theorem mhl_53 : mhl 53 = false := by decide +kernel
theorem mrt_53 : mrt 53 = some .int := by decide +kernel
theorem mml_53 : mml 53 = 3 := by decide +kernel
theorem mna_53 : mna 53 = 2 := by decide +kernel
theorem mow_54 : mow 54 = 6 := by decide +kernel
theorem mhl_54 : mhl 54 = false := by decide +kernel
theorem mrt_54 : mrt 54 = some .int := by decide +kernel
theorem mml_54 : mml 54 = 1 := by decide +kernel
theorem mna_54 : mna 54 = 1 := by decide +kernel
theorem mow_55 : mow 55 = 6 := by decide +kernel
theorem mhl_55 : mhl 55 = false := by decide +kernel
theorem mrt_55 : mrt 55 = some .int := by decide +kernel
theorem mml_55 : mml 55 = 3 := by decide +kernel
theorem mna_55 : mna 55 = 3 := by decide +kernel
theorem mow_56 : mow 56 = 6 := by decide +kernel
theorem mhl_56 : mhl 56 = false := by decide +kernel
theorem mrt_56 : mrt 56 = some .int := by decide +kernel
theorem mml_56 : mml 56 = 3 := by decide +kernel
theorem mna_56 : mna 56 = 3 := by decide +kernel
theorem mow_57 : mow 57 = 6 := by decide +kernel
theorem mhl_57 : mhl 57 = false := by decide +kernel
theorem mrt_57 : mrt 57 = some .int := by decide +kernel
theorem mml_57 : mml 57 = 3 := by decide +kernel
theorem mna_57 : mna 57 = 3 := by decide +kernel
theorem mow_58 : mow 58 = 6 := by decide +kernel
theorem mhl_58 : mhl 58 = false := by decide +kernel
theorem mrt_58 : mrt 58 = some .int := by decide +kernel
theorem mml_58 : mml 58 = 3 := by decide +kernel
theorem mna_58 : mna 58 = 3 := by decide +kernel
theorem mow_59 : mow 59 = 6 := by decide +kernel
theorem mhl_59 : mhl 59 = false := by decide +kernel
theorem mrt_59 : mrt 59 = some .int := by decide +kernel
theorem mml_59 : mml 59 = 3 := by decide +kernel
theorem mna_59 : mna 59 = 2 := by decide +kernel
theorem mow_60 : mow 60 = 6 := by decide +kernel
theorem mhl_60 : mhl 60 = false := by decide +kernel
theorem mrt_60 : mrt 60 = some .int := by decide +kernel
theorem mml_60 : mml 60 = 4 := by decide +kernel
theorem mna_60 : mna 60 = 3 := by decide +kernel
theorem mow_61 : mow 61 = 6 := by decide +kernel
theorem mhl_61 : mhl 61 = false := by decide +kernel
theorem mrt_61 : mrt 61 = some .int := by decide +kernel
theorem mml_61 : mml 61 = 2 := by decide +kernel
theorem mna_61 : mna 61 = 2 := by decide +kernel
theorem mow_62 : mow 62 = 6 := by decide +kernel
theorem mhl_62 : mhl 62 = false := by decide +kernel
theorem mrt_62 : mrt 62 = some .int := by decide +kernel
theorem mml_62 : mml 62 = 4 := by decide +kernel
theorem mna_62 : mna 62 = 3 := by decide +kernel
theorem mow_63 : mow 63 = 6 := by decide +kernel
theorem mhl_63 : mhl 63 = false := by decide +kernel
theorem mrt_63 : mrt 63 = some .int := by decide +kernel
theorem mml_63 : mml 63 = 6 := by decide +kernel
theorem mna_63 : mna 63 = 6 := by decide +kernel
theorem mow_64 : mow 64 = 6 := by decide +kernel
theorem mhl_64 : mhl 64 = false := by decide +kernel
theorem mrt_64 : mrt 64 = some .int := by decide +kernel
theorem mml_64 : mml 64 = 1 := by decide +kernel
theorem mna_64 : mna 64 = 1 := by decide +kernel
theorem mow_65 : mow 65 = 6 := by decide +kernel
theorem mhl_65 : mhl 65 = false := by decide +kernel
theorem mrt_65 : mrt 65 = some .int := by decide +kernel
theorem mml_65 : mml 65 = 8 := by decide +kernel
theorem mna_65 : mna 65 = 2 := by decide +kernel
theorem mow_66 : mow 66 = 6 := by decide +kernel
theorem mhl_66 : mhl 66 = false := by decide +kernel
theorem mrt_66 : mrt 66 = some .int := by decide +kernel
theorem mml_66 : mml 66 = 6 := by decide +kernel
theorem mna_66 : mna 66 = 6 := by decide +kernel
theorem mow_67 : mow 67 = 6 := by decide +kernel
theorem mhl_67 : mhl 67 = false := by decide +kernel
theorem mrt_67 : mrt 67 = some .int := by decide +kernel
theorem mml_67 : mml 67 = 5 := by decide +kernel
theorem mna_67 : mna 67 = 5 := by decide +kernel
theorem mow_68 : mow 68 = 6 := by decide +kernel
theorem mhl_68 : mhl 68 = false := by decide +kernel
theorem mrt_68 : mrt 68 = some .int := by decide +kernel
theorem mml_68 : mml 68 = 2 := by decide +kernel
theorem mna_68 : mna 68 = 2 := by decide +kernel
theorem mow_69 : mow 69 = 6 := by decide +kernel
theorem mhl_69 : mhl 69 = false := by decide +kernel
theorem mrt_69 : mrt 69 = some .int := by decide +kernel
theorem mml_69 : mml 69 = 2 := by decide +kernel
theorem mna_69 : mna 69 = 2 := by decide +kernel
theorem mow_70 : mow 70 = 6 := by decide +kernel
theorem mhl_70 : mhl 70 = false := by decide +kernel
theorem mrt_70 : mrt 70 = some .int := by decide +kernel
theorem mml_70 : mml 70 = 8 := by decide +kernel
theorem mna_70 : mna 70 = 2 := by decide +kernel
theorem mow_71 : mow 71 = 6 := by decide +kernel
theorem mhl_71 : mhl 71 = false := by decide +kernel
theorem mrt_71 : mrt 71 = some .int := by decide +kernel
theorem mml_71 : mml 71 = 2 := by decide +kernel
theorem mna_71 : mna 71 = 2 := by decide +kernel
theorem mow_72 : mow 72 = 6 := by decide +kernel
theorem mhl_72 : mhl 72 = false := by decide +kernel
theorem mrt_72 : mrt 72 = some .int := by decide +kernel
theorem mml_72 : mml 72 = 7 := by decide +kernel
theorem mna_72 : mna 72 = 2 := by decide +kernel
theorem mow_73 : mow 73 = 6 := by decide +kernel
theorem mhl_73 : mhl 73 = false := by decide +kernel
theorem mrt_73 : mrt 73 = some .int := by decide +kernel
theorem mml_73 : mml 73 = 6 := by decide +kernel
theorem mna_73 : mna 73 = 3 := by decide +kernel
theorem mow_74 : mow 74 = 6 := by decide +kernel
theorem mhl_74 : mhl 74 = true := by decide +kernel
theorem mrt_74 : mrt 74 = some .int := by decide +kernel
theorem mml_74 : mml 74 = 11 := by decide +kernel
theorem mna_74 : mna 74 = 4 := by decide +kernel
theorem mow_75 : mow 75 = 6 := by decide +kernel
theorem mhl_75 : mhl 75 = true := by decide +kernel
theorem mrt_75 : mrt 75 = some .int := by decide +kernel
theorem mml_75 : mml 75 = 8 := by decide +kernel
theorem mna_75 : mna 75 = 3 := by decide +kernel
theorem mow_76 : mow 76 = 6 := by decide +kernel
theorem mhl_76 : mhl 76 = false := by decide +kernel
theorem mrt_76 : mrt 76 = some .long := by decide +kernel
theorem mml_76 : mml 76 = 2 := by decide +kernel
theorem mna_76 : mna 76 = 2 := by decide +kernel
theorem mow_77 : mow 77 = 6 := by decide +kernel
theorem mhl_77 : mhl 77 = false := by decide +kernel
theorem mrt_77 : mrt 77 = some .int := by decide +kernel
theorem mml_77 : mml 77 = 2 := by decide +kernel
theorem mna_77 : mna 77 = 2 := by decide +kernel
theorem mow_78 : mow 78 = 6 := by decide +kernel
theorem mhl_78 : mhl 78 = false := by decide +kernel
theorem mrt_78 : mrt 78 = some .int := by decide +kernel
theorem mml_78 : mml 78 = 2 := by decide +kernel
theorem mna_78 : mna 78 = 2 := by decide +kernel
theorem mow_79 : mow 79 = 6 := by decide +kernel
theorem mhl_79 : mhl 79 = false := by decide +kernel
theorem mrt_79 : mrt 79 = some .int := by decide +kernel
theorem mml_79 : mml 79 = 2 := by decide +kernel
theorem mna_79 : mna 79 = 2 := by decide +kernel
theorem mow_80 : mow 80 = 6 := by decide +kernel
theorem mhl_80 : mhl 80 = false := by decide +kernel
theorem mrt_80 : mrt 80 = some .int := by decide +kernel
theorem mml_80 : mml 80 = 2 := by decide +kernel
theorem mna_80 : mna 80 = 2 := by decide +kernel
theorem mow_81 : mow 81 = 6 := by decide +kernel
theorem mhl_81 : mhl 81 = true := by decide +kernel
theorem mrt_81 : mrt 81 = some .long := by decide +kernel
theorem mml_81 : mml 81 = 4 := by decide +kernel
theorem mna_81 : mna 81 = 1 := by decide +kernel
theorem mow_82 : mow 82 = 6 := by decide +kernel
theorem mhl_82 : mhl 82 = false := by decide +kernel
theorem mrt_82 : mrt 82 = some .int := by decide +kernel
theorem mml_82 : mml 82 = 1 := by decide +kernel
theorem mna_82 : mna 82 = 1 := by decide +kernel
theorem mow_83 : mow 83 = 6 := by decide +kernel
theorem mhl_83 : mhl 83 = false := by decide +kernel
theorem mrt_83 : mrt 83 = some .int := by decide +kernel
theorem mml_83 : mml 83 = 1 := by decide +kernel
theorem mna_83 : mna 83 = 1 := by decide +kernel
theorem mow_84 : mow 84 = 6 := by decide +kernel
theorem mhl_84 : mhl 84 = false := by decide +kernel
theorem mrt_84 : mrt 84 = some .int := by decide +kernel
theorem mml_84 : mml 84 = 1 := by decide +kernel
theorem mna_84 : mna 84 = 1 := by decide +kernel
theorem mow_85 : mow 85 = 6 := by decide +kernel
theorem mhl_85 : mhl 85 = false := by decide +kernel
theorem mrt_85 : mrt 85 = some .int := by decide +kernel
theorem mml_85 : mml 85 = 1 := by decide +kernel
theorem mna_85 : mna 85 = 1 := by decide +kernel
theorem mow_86 : mow 86 = 6 := by decide +kernel
theorem mhl_86 : mhl 86 = false := by decide +kernel
theorem mrt_86 : mrt 86 = some .boolean := by decide +kernel
theorem mml_86 : mml 86 = 3 := by decide +kernel
theorem mna_86 : mna 86 = 3 := by decide +kernel
theorem mow_87 : mow 87 = 6 := by decide +kernel
theorem mhl_87 : mhl 87 = false := by decide +kernel
theorem mrt_87 : mrt 87 = some .int := by decide +kernel
theorem mml_87 : mml 87 = 1 := by decide +kernel
theorem mna_87 : mna 87 = 1 := by decide +kernel
theorem mow_88 : mow 88 = 6 := by decide +kernel
theorem mhl_88 : mhl 88 = false := by decide +kernel
theorem mrt_88 : mrt 88 = some .boolean := by decide +kernel
theorem mml_88 : mml 88 = 2 := by decide +kernel
theorem mna_88 : mna 88 = 2 := by decide +kernel
theorem mow_89 : mow 89 = 6 := by decide +kernel
theorem mhl_89 : mhl 89 = false := by decide +kernel
theorem mrt_89 : mrt 89 = some .int := by decide +kernel
theorem mml_89 : mml 89 = 2 := by decide +kernel
theorem mna_89 : mna 89 = 2 := by decide +kernel
theorem mow_90 : mow 90 = 6 := by decide +kernel
theorem mhl_90 : mhl 90 = false := by decide +kernel
theorem mrt_90 : mrt 90 = none := by decide +kernel
theorem mml_90 : mml 90 = 3 := by decide +kernel
theorem mna_90 : mna 90 = 3 := by decide +kernel
theorem mow_91 : mow 91 = 6 := by decide +kernel
theorem mhl_91 : mhl 91 = false := by decide +kernel
theorem mrt_91 : mrt 91 = none := by decide +kernel
theorem mml_91 : mml 91 = 3 := by decide +kernel
theorem mna_91 : mna 91 = 2 := by decide +kernel
theorem mow_92 : mow 92 = 6 := by decide +kernel
theorem mhl_92 : mhl 92 = true := by decide +kernel
theorem mrt_92 : mrt 92 = some .long := by decide +kernel
theorem mml_92 : mml 92 = 11 := by decide +kernel
theorem mna_92 : mna 92 = 2 := by decide +kernel
theorem mow_93 : mow 93 = 6 := by decide +kernel
theorem mhl_93 : mhl 93 = false := by decide +kernel
theorem mrt_93 : mrt 93 = some .int := by decide +kernel
theorem mml_93 : mml 93 = 6 := by decide +kernel
theorem mna_93 : mna 93 = 2 := by decide +kernel
theorem mow_94 : mow 94 = 6 := by decide +kernel
theorem mhl_94 : mhl 94 = false := by decide +kernel
theorem mrt_94 : mrt 94 = some .int := by decide +kernel
theorem mml_94 : mml 94 = 6 := by decide +kernel
theorem mna_94 : mna 94 = 4 := by decide +kernel
theorem mow_95 : mow 95 = 6 := by decide +kernel
theorem mhl_95 : mhl 95 = false := by decide +kernel
theorem mrt_95 : mrt 95 = some .int := by decide +kernel
theorem mml_95 : mml 95 = 5 := by decide +kernel
theorem mna_95 : mna 95 = 3 := by decide +kernel
theorem mow_96 : mow 96 = 6 := by decide +kernel
theorem mhl_96 : mhl 96 = false := by decide +kernel
theorem mrt_96 : mrt 96 = some .int := by decide +kernel
theorem mml_96 : mml 96 = 2 := by decide +kernel
theorem mna_96 : mna 96 = 2 := by decide +kernel
theorem mow_97 : mow 97 = 6 := by decide +kernel
theorem mhl_97 : mhl 97 = false := by decide +kernel
theorem mrt_97 : mrt 97 = some .int := by decide +kernel
theorem mml_97 : mml 97 = 2 := by decide +kernel
theorem mna_97 : mna 97 = 2 := by decide +kernel
theorem mow_98 : mow 98 = 6 := by decide +kernel
theorem mhl_98 : mhl 98 = false := by decide +kernel
theorem mrt_98 : mrt 98 = some .int := by decide +kernel
theorem mml_98 : mml 98 = 1 := by decide +kernel
theorem mna_98 : mna 98 = 1 := by decide +kernel
theorem mow_99 : mow 99 = 6 := by decide +kernel
theorem mhl_99 : mhl 99 = false := by decide +kernel
theorem mrt_99 : mrt 99 = some .int := by decide +kernel
theorem mml_99 : mml 99 = 1 := by decide +kernel
theorem mna_99 : mna 99 = 1 := by decide +kernel
theorem mow_100 : mow 100 = 6 := by decide +kernel
theorem mhl_100 : mhl 100 = false := by decide +kernel
theorem mrt_100 : mrt 100 = some .boolean := by decide +kernel
theorem mml_100 : mml 100 = 8 := by decide +kernel
theorem mna_100 : mna 100 = 4 := by decide +kernel
theorem mow_101 : mow 101 = 6 := by decide +kernel
theorem mhl_101 : mhl 101 = false := by decide +kernel
theorem mrt_101 : mrt 101 = some .int := by decide +kernel
theorem mml_101 : mml 101 = 3 := by decide +kernel
theorem mna_101 : mna 101 = 1 := by decide +kernel
theorem mow_102 : mow 102 = 6 := by decide +kernel
theorem mhl_102 : mhl 102 = false := by decide +kernel
theorem mrt_102 : mrt 102 = some .boolean := by decide +kernel
theorem mml_102 : mml 102 = 7 := by decide +kernel
theorem mna_102 : mna 102 = 3 := by decide +kernel
theorem mow_103 : mow 103 = 6 := by decide +kernel
theorem mhl_103 : mhl 103 = false := by decide +kernel
theorem mrt_103 : mrt 103 = some .int := by decide +kernel
theorem mml_103 : mml 103 = 4 := by decide +kernel
theorem mna_103 : mna 103 = 2 := by decide +kernel
theorem mow_104 : mow 104 = 6 := by decide +kernel
theorem mhl_104 : mhl 104 = false := by decide +kernel
theorem mrt_104 : mrt 104 = some .boolean := by decide +kernel
theorem mml_104 : mml 104 = 6 := by decide +kernel
theorem mna_104 : mna 104 = 3 := by decide +kernel
theorem mow_105 : mow 105 = 6 := by decide +kernel
theorem mhl_105 : mhl 105 = false := by decide +kernel
theorem mrt_105 : mrt 105 = some .int := by decide +kernel
theorem mml_105 : mml 105 = 4 := by decide +kernel
theorem mna_105 : mna 105 = 2 := by decide +kernel
theorem mow_106 : mow 106 = 6 := by decide +kernel
theorem mhl_106 : mhl 106 = false := by decide +kernel
theorem mrt_106 : mrt 106 = some .boolean := by decide +kernel
theorem mml_106 : mml 106 = 6 := by decide +kernel
theorem mna_106 : mna 106 = 3 := by decide +kernel
theorem mow_107 : mow 107 = 6 := by decide +kernel
theorem mhl_107 : mhl 107 = false := by decide +kernel
theorem mrt_107 : mrt 107 = some .int := by decide +kernel
theorem mml_107 : mml 107 = 8 := by decide +kernel
theorem mna_107 : mna 107 = 5 := by decide +kernel
theorem mow_108 : mow 108 = 6 := by decide +kernel
theorem mhl_108 : mhl 108 = false := by decide +kernel
theorem mrt_108 : mrt 108 = some .int := by decide +kernel
theorem mml_108 : mml 108 = 7 := by decide +kernel
theorem mna_108 : mna 108 = 5 := by decide +kernel
theorem mow_109 : mow 109 = 6 := by decide +kernel
theorem mhl_109 : mhl 109 = false := by decide +kernel
theorem mrt_109 : mrt 109 = some .int := by decide +kernel
theorem mml_109 : mml 109 = 6 := by decide +kernel
theorem mna_109 : mna 109 = 4 := by decide +kernel
theorem mow_110 : mow 110 = 6 := by decide +kernel
theorem mhl_110 : mhl 110 = false := by decide +kernel
theorem mrt_110 : mrt 110 = some .int := by decide +kernel
theorem mml_110 : mml 110 = 3 := by decide +kernel
theorem mna_110 : mna 110 = 3 := by decide +kernel
theorem mow_111 : mow 111 = 6 := by decide +kernel
theorem mhl_111 : mhl 111 = false := by decide +kernel
theorem mrt_111 : mrt 111 = some .boolean := by decide +kernel
theorem mml_111 : mml 111 = 4 := by decide +kernel
theorem mna_111 : mna 111 = 3 := by decide +kernel
theorem mow_112 : mow 112 = 6 := by decide +kernel
theorem mhl_112 : mhl 112 = true := by decide +kernel
theorem mrt_112 : mrt 112 = some .long := by decide +kernel
theorem mml_112 : mml 112 = 6 := by decide +kernel
theorem mna_112 : mna 112 = 3 := by decide +kernel
theorem mow_113 : mow 113 = 6 := by decide +kernel
theorem mhl_113 : mhl 113 = false := by decide +kernel
theorem mrt_113 : mrt 113 = some .int := by decide +kernel
theorem mml_113 : mml 113 = 6 := by decide +kernel
theorem mna_113 : mna 113 = 3 := by decide +kernel
theorem mow_114 : mow 114 = 6 := by decide +kernel
theorem mhl_114 : mhl 114 = false := by decide +kernel
theorem mrt_114 : mrt 114 = some .boolean := by decide +kernel
theorem mml_114 : mml 114 = 2 := by decide +kernel
theorem mna_114 : mna 114 = 2 := by decide +kernel
theorem mow_115 : mow 115 = 6 := by decide +kernel
theorem mhl_115 : mhl 115 = false := by decide +kernel
theorem mrt_115 : mrt 115 = some .int := by decide +kernel
theorem mml_115 : mml 115 = 2 := by decide +kernel
theorem mna_115 : mna 115 = 2 := by decide +kernel
theorem mow_116 : mow 116 = 7 := by decide +kernel
theorem mhl_116 : mhl 116 = false := by decide +kernel
theorem mrt_116 : mrt 116 = some .boolean := by decide +kernel
theorem mml_116 : mml 116 = 3 := by decide +kernel
theorem mna_116 : mna 116 = 3 := by decide +kernel
theorem mow_117 : mow 117 = 7 := by decide +kernel
theorem mhl_117 : mhl 117 = false := by decide +kernel
theorem mrt_117 : mrt 117 = some .boolean := by decide +kernel
theorem mml_117 : mml 117 = 2 := by decide +kernel
theorem mna_117 : mna 117 = 2 := by decide +kernel
theorem mow_118 : mow 118 = 7 := by decide +kernel
theorem mhl_118 : mhl 118 = false := by decide +kernel
theorem mrt_118 : mrt 118 = some .int := by decide +kernel
theorem mml_118 : mml 118 = 1 := by decide +kernel
theorem mna_118 : mna 118 = 1 := by decide +kernel
theorem mow_119 : mow 119 = 7 := by decide +kernel
theorem mhl_119 : mhl 119 = false := by decide +kernel
theorem mrt_119 : mrt 119 = some .int := by decide +kernel
theorem mml_119 : mml 119 = 1 := by decide +kernel
theorem mna_119 : mna 119 = 1 := by decide +kernel
theorem mow_120 : mow 120 = 7 := by decide +kernel
theorem mhl_120 : mhl 120 = false := by decide +kernel
theorem mrt_120 : mrt 120 = some .int := by decide +kernel
theorem mml_120 : mml 120 = 1 := by decide +kernel
theorem mna_120 : mna 120 = 1 := by decide +kernel
theorem mow_121 : mow 121 = 7 := by decide +kernel
theorem mhl_121 : mhl 121 = false := by decide +kernel
theorem mrt_121 : mrt 121 = some .int := by decide +kernel
theorem mml_121 : mml 121 = 1 := by decide +kernel
theorem mna_121 : mna 121 = 1 := by decide +kernel
theorem mow_122 : mow 122 = 7 := by decide +kernel
theorem mhl_122 : mhl 122 = false := by decide +kernel
theorem mrt_122 : mrt 122 = some .boolean := by decide +kernel
theorem mml_122 : mml 122 = 2 := by decide +kernel
theorem mna_122 : mna 122 = 2 := by decide +kernel
theorem mow_123 : mow 123 = 7 := by decide +kernel
theorem mhl_123 : mhl 123 = false := by decide +kernel
theorem mrt_123 : mrt 123 = some .boolean := by decide +kernel
theorem mml_123 : mml 123 = 2 := by decide +kernel
theorem mna_123 : mna 123 = 2 := by decide +kernel
theorem mow_124 : mow 124 = 7 := by decide +kernel
theorem mhl_124 : mhl 124 = false := by decide +kernel
theorem mrt_124 : mrt 124 = some .int := by decide +kernel
theorem mml_124 : mml 124 = 2 := by decide +kernel
theorem mna_124 : mna 124 = 2 := by decide +kernel
theorem mow_125 : mow 125 = 7 := by decide +kernel
theorem mhl_125 : mhl 125 = false := by decide +kernel
theorem mrt_125 : mrt 125 = some .int := by decide +kernel
theorem mml_125 : mml 125 = 2 := by decide +kernel
theorem mna_125 : mna 125 = 2 := by decide +kernel
theorem mow_126 : mow 126 = 7 := by decide +kernel
theorem mhl_126 : mhl 126 = false := by decide +kernel
theorem mrt_126 : mrt 126 = some .int := by decide +kernel
theorem mml_126 : mml 126 = 4 := by decide +kernel
theorem mna_126 : mna 126 = 4 := by decide +kernel
theorem mow_127 : mow 127 = 7 := by decide +kernel
theorem mhl_127 : mhl 127 = false := by decide +kernel
theorem mrt_127 : mrt 127 = some .int := by decide +kernel
theorem mml_127 : mml 127 = 1 := by decide +kernel
theorem mna_127 : mna 127 = 1 := by decide +kernel
theorem mow_128 : mow 128 = 7 := by decide +kernel
theorem mhl_128 : mhl 128 = false := by decide +kernel
theorem mrt_128 : mrt 128 = some .int := by decide +kernel
theorem mml_128 : mml 128 = 3 := by decide +kernel
theorem mna_128 : mna 128 = 3 := by decide +kernel
theorem mow_129 : mow 129 = 7 := by decide +kernel
theorem mhl_129 : mhl 129 = false := by decide +kernel
theorem mrt_129 : mrt 129 = some .int := by decide +kernel
theorem mml_129 : mml 129 = 2 := by decide +kernel
theorem mna_129 : mna 129 = 2 := by decide +kernel
theorem mow_130 : mow 130 = 7 := by decide +kernel
theorem mhl_130 : mhl 130 = false := by decide +kernel
theorem mrt_130 : mrt 130 = some .int := by decide +kernel
theorem mml_130 : mml 130 = 3 := by decide +kernel
theorem mna_130 : mna 130 = 3 := by decide +kernel
theorem mow_131 : mow 131 = 7 := by decide +kernel
theorem mhl_131 : mhl 131 = false := by decide +kernel
theorem mrt_131 : mrt 131 = none := by decide +kernel
theorem mml_131 : mml 131 = 3 := by decide +kernel
theorem mna_131 : mna 131 = 3 := by decide +kernel
theorem mow_132 : mow 132 = 7 := by decide +kernel
theorem mhl_132 : mhl 132 = false := by decide +kernel
theorem mrt_132 : mrt 132 = none := by decide +kernel
theorem mml_132 : mml 132 = 3 := by decide +kernel
theorem mna_132 : mna 132 = 3 := by decide +kernel
theorem mow_133 : mow 133 = 7 := by decide +kernel
theorem mhl_133 : mhl 133 = false := by decide +kernel
theorem mrt_133 : mrt 133 = none := by decide +kernel
theorem mml_133 : mml 133 = 2 := by decide +kernel
theorem mna_133 : mna 133 = 1 := by decide +kernel
theorem mow_134 : mow 134 = 7 := by decide +kernel
theorem mhl_134 : mhl 134 = false := by decide +kernel
theorem mrt_134 : mrt 134 = some .int := by decide +kernel
theorem mml_134 : mml 134 = 3 := by decide +kernel
theorem mna_134 : mna 134 = 1 := by decide +kernel
theorem mow_135 : mow 135 = 7 := by decide +kernel
theorem mhl_135 : mhl 135 = false := by decide +kernel
theorem mrt_135 : mrt 135 = some .int := by decide +kernel
theorem mml_135 : mml 135 = 3 := by decide +kernel
theorem mna_135 : mna 135 = 1 := by decide +kernel
theorem mow_136 : mow 136 = 7 := by decide +kernel
theorem mhl_136 : mhl 136 = false := by decide +kernel
theorem mrt_136 : mrt 136 = none := by decide +kernel
theorem mml_136 : mml 136 = 6 := by decide +kernel
theorem mna_136 : mna 136 = 5 := by decide +kernel
theorem mow_137 : mow 137 = 7 := by decide +kernel
theorem mhl_137 : mhl 137 = false := by decide +kernel
theorem mrt_137 : mrt 137 = none := by decide +kernel
theorem mml_137 : mml 137 = 1 := by decide +kernel
theorem mna_137 : mna 137 = 1 := by decide +kernel
theorem mow_138 : mow 138 = 7 := by decide +kernel
theorem mhl_138 : mhl 138 = false := by decide +kernel
theorem mrt_138 : mrt 138 = some .int := by decide +kernel
theorem mml_138 : mml 138 = 3 := by decide +kernel
theorem mna_138 : mna 138 = 1 := by decide +kernel
theorem mow_139 : mow 139 = 7 := by decide +kernel
theorem mhl_139 : mhl 139 = false := by decide +kernel
theorem mrt_139 : mrt 139 = some .int := by decide +kernel
theorem mml_139 : mml 139 = 4 := by decide +kernel
theorem mna_139 : mna 139 = 3 := by decide +kernel
theorem mow_140 : mow 140 = 7 := by decide +kernel
theorem mhl_140 : mhl 140 = false := by decide +kernel
theorem mrt_140 : mrt 140 = some .int := by decide +kernel
theorem mml_140 : mml 140 = 3 := by decide +kernel
theorem mna_140 : mna 140 = 2 := by decide +kernel
theorem mow_141 : mow 141 = 7 := by decide +kernel
theorem mhl_141 : mhl 141 = false := by decide +kernel
theorem mrt_141 : mrt 141 = some .int := by decide +kernel
theorem mml_141 : mml 141 = 3 := by decide +kernel
theorem mna_141 : mna 141 = 3 := by decide +kernel
theorem mow_142 : mow 142 = 7 := by decide +kernel
theorem mhl_142 : mhl 142 = false := by decide +kernel
theorem mrt_142 : mrt 142 = some .int := by decide +kernel
theorem mml_142 : mml 142 = 2 := by decide +kernel
theorem mna_142 : mna 142 = 2 := by decide +kernel
theorem mow_143 : mow 143 = 7 := by decide +kernel
theorem mhl_143 : mhl 143 = false := by decide +kernel
theorem mrt_143 : mrt 143 = some .int := by decide +kernel
theorem mml_143 : mml 143 = 2 := by decide +kernel
theorem mna_143 : mna 143 = 2 := by decide +kernel
theorem mow_144 : mow 144 = 7 := by decide +kernel
theorem mhl_144 : mhl 144 = false := by decide +kernel
theorem mrt_144 : mrt 144 = some .int := by decide +kernel
theorem mml_144 : mml 144 = 2 := by decide +kernel
theorem mna_144 : mna 144 = 1 := by decide +kernel
theorem mow_145 : mow 145 = 7 := by decide +kernel
theorem mhl_145 : mhl 145 = false := by decide +kernel
theorem mrt_145 : mrt 145 = some .int := by decide +kernel
theorem mml_145 : mml 145 = 2 := by decide +kernel
theorem mna_145 : mna 145 = 2 := by decide +kernel
theorem mow_146 : mow 146 = 7 := by decide +kernel
theorem mhl_146 : mhl 146 = false := by decide +kernel
theorem mrt_146 : mrt 146 = some .int := by decide +kernel
theorem mml_146 : mml 146 = 7 := by decide +kernel
theorem mna_146 : mna 146 = 6 := by decide +kernel
theorem mow_147 : mow 147 = 7 := by decide +kernel
theorem mhl_147 : mhl 147 = false := by decide +kernel
theorem mrt_147 : mrt 147 = none := by decide +kernel
theorem mml_147 : mml 147 = 2 := by decide +kernel
theorem mna_147 : mna 147 = 1 := by decide +kernel
theorem mow_148 : mow 148 = 7 := by decide +kernel
theorem mhl_148 : mhl 148 = false := by decide +kernel
theorem mrt_148 : mrt 148 = some .int := by decide +kernel
theorem mml_148 : mml 148 = 5 := by decide +kernel
theorem mna_148 : mna 148 = 3 := by decide +kernel
theorem mow_149 : mow 149 = 7 := by decide +kernel
theorem mhl_149 : mhl 149 = false := by decide +kernel
theorem mrt_149 : mrt 149 = none := by decide +kernel
theorem mml_149 : mml 149 = 2 := by decide +kernel
theorem mna_149 : mna 149 = 2 := by decide +kernel
theorem mow_150 : mow 150 = 7 := by decide +kernel
theorem mhl_150 : mhl 150 = false := by decide +kernel
theorem mrt_150 : mrt 150 = none := by decide +kernel
theorem mml_150 : mml 150 = 3 := by decide +kernel
theorem mna_150 : mna 150 = 1 := by decide +kernel
theorem mow_151 : mow 151 = 7 := by decide +kernel
theorem mhl_151 : mhl 151 = false := by decide +kernel
theorem mrt_151 : mrt 151 = none := by decide +kernel
theorem mml_151 : mml 151 = 2 := by decide +kernel
theorem mna_151 : mna 151 = 1 := by decide +kernel
theorem mow_152 : mow 152 = 7 := by decide +kernel
theorem mhl_152 : mhl 152 = false := by decide +kernel
theorem mrt_152 : mrt 152 = none := by decide +kernel
theorem mml_152 : mml 152 = 3 := by decide +kernel
theorem mna_152 : mna 152 = 1 := by decide +kernel
theorem mow_153 : mow 153 = 7 := by decide +kernel
theorem mhl_153 : mhl 153 = false := by decide +kernel
theorem mrt_153 : mrt 153 = none := by decide +kernel
theorem mml_153 : mml 153 = 2 := by decide +kernel
theorem mna_153 : mna 153 = 1 := by decide +kernel
theorem mow_154 : mow 154 = 7 := by decide +kernel
theorem mhl_154 : mhl 154 = false := by decide +kernel
theorem mrt_154 : mrt 154 = none := by decide +kernel
theorem mml_154 : mml 154 = 3 := by decide +kernel
theorem mna_154 : mna 154 = 1 := by decide +kernel
theorem mow_155 : mow 155 = 7 := by decide +kernel
theorem mhl_155 : mhl 155 = false := by decide +kernel
theorem mrt_155 : mrt 155 = none := by decide +kernel
theorem mml_155 : mml 155 = 3 := by decide +kernel
theorem mna_155 : mna 155 = 2 := by decide +kernel
theorem mow_156 : mow 156 = 7 := by decide +kernel
theorem mhl_156 : mhl 156 = false := by decide +kernel
theorem mrt_156 : mrt 156 = some .int := by decide +kernel
theorem mml_156 : mml 156 = 2 := by decide +kernel
theorem mna_156 : mna 156 = 1 := by decide +kernel
theorem mow_157 : mow 157 = 7 := by decide +kernel
theorem mhl_157 : mhl 157 = false := by decide +kernel
theorem mrt_157 : mrt 157 = none := by decide +kernel
theorem mml_157 : mml 157 = 2 := by decide +kernel
theorem mna_157 : mna 157 = 1 := by decide +kernel
theorem mow_158 : mow 158 = 7 := by decide +kernel
theorem mhl_158 : mhl 158 = false := by decide +kernel
theorem mrt_158 : mrt 158 = some .int := by decide +kernel
theorem mml_158 : mml 158 = 3 := by decide +kernel
theorem mna_158 : mna 158 = 2 := by decide +kernel
theorem mow_159 : mow 159 = 7 := by decide +kernel
theorem mhl_159 : mhl 159 = false := by decide +kernel
theorem mrt_159 : mrt 159 = some .int := by decide +kernel
theorem mml_159 : mml 159 = 3 := by decide +kernel
theorem mna_159 : mna 159 = 3 := by decide +kernel
theorem mow_160 : mow 160 = 7 := by decide +kernel
theorem mhl_160 : mhl 160 = false := by decide +kernel
theorem mrt_160 : mrt 160 = some .int := by decide +kernel
theorem mml_160 : mml 160 = 3 := by decide +kernel
theorem mna_160 : mna 160 = 2 := by decide +kernel
theorem mow_161 : mow 161 = 7 := by decide +kernel
theorem mhl_161 : mhl 161 = false := by decide +kernel
theorem mrt_161 : mrt 161 = some .int := by decide +kernel
theorem mml_161 : mml 161 = 1 := by decide +kernel
theorem mna_161 : mna 161 = 1 := by decide +kernel
theorem mow_162 : mow 162 = 7 := by decide +kernel
theorem mhl_162 : mhl 162 = false := by decide +kernel
theorem mrt_162 : mrt 162 = some .int := by decide +kernel
theorem mml_162 : mml 162 = 3 := by decide +kernel
theorem mna_162 : mna 162 = 3 := by decide +kernel
theorem mow_163 : mow 163 = 7 := by decide +kernel
theorem mhl_163 : mhl 163 = false := by decide +kernel
theorem mrt_163 : mrt 163 = some .int := by decide +kernel
theorem mml_163 : mml 163 = 3 := by decide +kernel
theorem mna_163 : mna 163 = 3 := by decide +kernel
theorem mow_164 : mow 164 = 7 := by decide +kernel
theorem mhl_164 : mhl 164 = false := by decide +kernel
theorem mrt_164 : mrt 164 = some .int := by decide +kernel
theorem mml_164 : mml 164 = 3 := by decide +kernel
theorem mna_164 : mna 164 = 3 := by decide +kernel
theorem mow_165 : mow 165 = 7 := by decide +kernel
theorem mhl_165 : mhl 165 = false := by decide +kernel
theorem mrt_165 : mrt 165 = some .int := by decide +kernel
theorem mml_165 : mml 165 = 3 := by decide +kernel
theorem mna_165 : mna 165 = 3 := by decide +kernel
theorem mow_166 : mow 166 = 7 := by decide +kernel
theorem mhl_166 : mhl 166 = false := by decide +kernel
theorem mrt_166 : mrt 166 = some .int := by decide +kernel
theorem mml_166 : mml 166 = 3 := by decide +kernel
theorem mna_166 : mna 166 = 2 := by decide +kernel
theorem mow_167 : mow 167 = 7 := by decide +kernel
theorem mhl_167 : mhl 167 = false := by decide +kernel
theorem mrt_167 : mrt 167 = some .int := by decide +kernel
theorem mml_167 : mml 167 = 4 := by decide +kernel
theorem mna_167 : mna 167 = 2 := by decide +kernel
theorem mow_168 : mow 168 = 7 := by decide +kernel
theorem mhl_168 : mhl 168 = false := by decide +kernel
theorem mrt_168 : mrt 168 = some .int := by decide +kernel
theorem mml_168 : mml 168 = 4 := by decide +kernel
theorem mna_168 : mna 168 = 4 := by decide +kernel
theorem mow_169 : mow 169 = 7 := by decide +kernel
theorem mhl_169 : mhl 169 = false := by decide +kernel
theorem mrt_169 : mrt 169 = some .int := by decide +kernel
theorem mml_169 : mml 169 = 6 := by decide +kernel
theorem mna_169 : mna 169 = 3 := by decide +kernel
theorem mow_170 : mow 170 = 7 := by decide +kernel
theorem mhl_170 : mhl 170 = false := by decide +kernel
theorem mrt_170 : mrt 170 = some .int := by decide +kernel
theorem mml_170 : mml 170 = 3 := by decide +kernel
theorem mna_170 : mna 170 = 3 := by decide +kernel
theorem mow_171 : mow 171 = 7 := by decide +kernel
theorem mhl_171 : mhl 171 = false := by decide +kernel
theorem mrt_171 : mrt 171 = none := by decide +kernel
theorem mml_171 : mml 171 = 3 := by decide +kernel
theorem mna_171 : mna 171 = 2 := by decide +kernel
theorem mow_172 : mow 172 = 7 := by decide +kernel
theorem mhl_172 : mhl 172 = false := by decide +kernel
theorem mrt_172 : mrt 172 = some .int := by decide +kernel
theorem mml_172 : mml 172 = 9 := by decide +kernel
theorem mna_172 : mna 172 = 2 := by decide +kernel
theorem mow_173 : mow 173 = 7 := by decide +kernel
theorem mhl_173 : mhl 173 = false := by decide +kernel
theorem mrt_173 : mrt 173 = some .int := by decide +kernel
theorem mml_173 : mml 173 = 6 := by decide +kernel
theorem mna_173 : mna 173 = 3 := by decide +kernel
theorem mow_174 : mow 174 = 7 := by decide +kernel
theorem mhl_174 : mhl 174 = false := by decide +kernel
theorem mrt_174 : mrt 174 = some .int := by decide +kernel
theorem mml_174 : mml 174 = 7 := by decide +kernel
theorem mna_174 : mna 174 = 6 := by decide +kernel
theorem mow_175 : mow 175 = 7 := by decide +kernel
theorem mhl_175 : mhl 175 = false := by decide +kernel
theorem mrt_175 : mrt 175 = some .boolean := by decide +kernel
theorem mml_175 : mml 175 = 6 := by decide +kernel
theorem mna_175 : mna 175 = 2 := by decide +kernel
theorem mow_176 : mow 176 = 7 := by decide +kernel
theorem mhl_176 : mhl 176 = false := by decide +kernel
theorem mrt_176 : mrt 176 = some .int := by decide +kernel
theorem mml_176 : mml 176 = 3 := by decide +kernel
theorem mna_176 : mna 176 = 1 := by decide +kernel
theorem mow_177 : mow 177 = 7 := by decide +kernel
theorem mhl_177 : mhl 177 = false := by decide +kernel
theorem mrt_177 : mrt 177 = some .int := by decide +kernel
theorem mml_177 : mml 177 = 6 := by decide +kernel
theorem mna_177 : mna 177 = 2 := by decide +kernel
theorem mow_178 : mow 178 = 7 := by decide +kernel
theorem mhl_178 : mhl 178 = false := by decide +kernel
theorem mrt_178 : mrt 178 = none := by decide +kernel
theorem mml_178 : mml 178 = 5 := by decide +kernel
theorem mna_178 : mna 178 = 4 := by decide +kernel
theorem mow_179 : mow 179 = 7 := by decide +kernel
theorem mhl_179 : mhl 179 = false := by decide +kernel
theorem mrt_179 : mrt 179 = some .int := by decide +kernel
theorem mml_179 : mml 179 = 8 := by decide +kernel
theorem mna_179 : mna 179 = 2 := by decide +kernel
theorem mow_180 : mow 180 = 7 := by decide +kernel
theorem mhl_180 : mhl 180 = false := by decide +kernel
theorem mrt_180 : mrt 180 = some .int := by decide +kernel
theorem mml_180 : mml 180 = 7 := by decide +kernel
theorem mna_180 : mna 180 = 6 := by decide +kernel
theorem mow_181 : mow 181 = 7 := by decide +kernel
theorem mhl_181 : mhl 181 = false := by decide +kernel
theorem mrt_181 : mrt 181 = some .int := by decide +kernel
theorem mml_181 : mml 181 = 6 := by decide +kernel
theorem mna_181 : mna 181 = 5 := by decide +kernel
theorem mow_182 : mow 182 = 7 := by decide +kernel
theorem mhl_182 : mhl 182 = false := by decide +kernel
theorem mrt_182 : mrt 182 = some .int := by decide +kernel
theorem mml_182 : mml 182 = 4 := by decide +kernel
theorem mna_182 : mna 182 = 2 := by decide +kernel
theorem mow_183 : mow 183 = 7 := by decide +kernel
theorem mhl_183 : mhl 183 = false := by decide +kernel
theorem mrt_183 : mrt 183 = some .int := by decide +kernel
theorem mml_183 : mml 183 = 7 := by decide +kernel
theorem mna_183 : mna 183 = 2 := by decide +kernel
theorem mow_184 : mow 184 = 7 := by decide +kernel
theorem mhl_184 : mhl 184 = false := by decide +kernel
theorem mrt_184 : mrt 184 = some .int := by decide +kernel
theorem mml_184 : mml 184 = 2 := by decide +kernel
theorem mna_184 : mna 184 = 2 := by decide +kernel
theorem mow_185 : mow 185 = 7 := by decide +kernel
theorem mhl_185 : mhl 185 = false := by decide +kernel
theorem mrt_185 : mrt 185 = some .int := by decide +kernel
theorem mml_185 : mml 185 = 8 := by decide +kernel
theorem mna_185 : mna 185 = 2 := by decide +kernel
theorem mow_186 : mow 186 = 7 := by decide +kernel
theorem mhl_186 : mhl 186 = false := by decide +kernel
theorem mrt_186 : mrt 186 = some .int := by decide +kernel
theorem mml_186 : mml 186 = 7 := by decide +kernel
theorem mna_186 : mna 186 = 2 := by decide +kernel
theorem mow_187 : mow 187 = 7 := by decide +kernel
theorem mhl_187 : mhl 187 = false := by decide +kernel
theorem mrt_187 : mrt 187 = some .int := by decide +kernel
theorem mml_187 : mml 187 = 2 := by decide +kernel
theorem mna_187 : mna 187 = 2 := by decide +kernel
theorem mow_188 : mow 188 = 7 := by decide +kernel
theorem mhl_188 : mhl 188 = false := by decide +kernel
theorem mrt_188 : mrt 188 = some .int := by decide +kernel
theorem mml_188 : mml 188 = 7 := by decide +kernel
theorem mna_188 : mna 188 = 2 := by decide +kernel
theorem mow_189 : mow 189 = 7 := by decide +kernel
theorem mhl_189 : mhl 189 = false := by decide +kernel
theorem mrt_189 : mrt 189 = some .int := by decide +kernel
theorem mml_189 : mml 189 = 4 := by decide +kernel
theorem mna_189 : mna 189 = 4 := by decide +kernel
theorem mow_190 : mow 190 = 7 := by decide +kernel
theorem mhl_190 : mhl 190 = false := by decide +kernel
theorem mrt_190 : mrt 190 = some .boolean := by decide +kernel
theorem mml_190 : mml 190 = 6 := by decide +kernel
theorem mna_190 : mna 190 = 4 := by decide +kernel
theorem mow_191 : mow 191 = 7 := by decide +kernel
theorem mhl_191 : mhl 191 = false := by decide +kernel
theorem mrt_191 : mrt 191 = some .int := by decide +kernel
theorem mml_191 : mml 191 = 6 := by decide +kernel
theorem mna_191 : mna 191 = 3 := by decide +kernel
theorem mow_192 : mow 192 = 7 := by decide +kernel
theorem mhl_192 : mhl 192 = true := by decide +kernel
theorem mrt_192 : mrt 192 = some .long := by decide +kernel
theorem mml_192 : mml 192 = 10 := by decide +kernel
theorem mna_192 : mna 192 = 2 := by decide +kernel
theorem mow_193 : mow 193 = 7 := by decide +kernel
theorem mhl_193 : mhl 193 = true := by decide +kernel
theorem mrt_193 : mrt 193 = some .int := by decide +kernel
theorem mml_193 : mml 193 = 12 := by decide +kernel
theorem mna_193 : mna 193 = 4 := by decide +kernel
theorem mow_194 : mow 194 = 7 := by decide +kernel
theorem mhl_194 : mhl 194 = true := by decide +kernel
theorem mrt_194 : mrt 194 = some .int := by decide +kernel
theorem mml_194 : mml 194 = 8 := by decide +kernel
theorem mna_194 : mna 194 = 3 := by decide +kernel
theorem mow_195 : mow 195 = 7 := by decide +kernel
theorem mhl_195 : mhl 195 = false := by decide +kernel
theorem mrt_195 : mrt 195 = some .long := by decide +kernel
theorem mml_195 : mml 195 = 2 := by decide +kernel
theorem mna_195 : mna 195 = 2 := by decide +kernel
theorem mow_196 : mow 196 = 7 := by decide +kernel
theorem mhl_196 : mhl 196 = false := by decide +kernel
theorem mrt_196 : mrt 196 = some .int := by decide +kernel
theorem mml_196 : mml 196 = 2 := by decide +kernel
theorem mna_196 : mna 196 = 2 := by decide +kernel
theorem mow_197 : mow 197 = 7 := by decide +kernel
theorem mhl_197 : mhl 197 = false := by decide +kernel
theorem mrt_197 : mrt 197 = some .int := by decide +kernel
theorem mml_197 : mml 197 = 2 := by decide +kernel
theorem mna_197 : mna 197 = 2 := by decide +kernel
theorem mow_198 : mow 198 = 7 := by decide +kernel
theorem mhl_198 : mhl 198 = false := by decide +kernel
theorem mrt_198 : mrt 198 = some .int := by decide +kernel
theorem mml_198 : mml 198 = 2 := by decide +kernel
theorem mna_198 : mna 198 = 2 := by decide +kernel
theorem mow_199 : mow 199 = 7 := by decide +kernel
theorem mhl_199 : mhl 199 = false := by decide +kernel
theorem mrt_199 : mrt 199 = some .int := by decide +kernel
theorem mml_199 : mml 199 = 2 := by decide +kernel
theorem mna_199 : mna 199 = 2 := by decide +kernel
theorem mow_200 : mow 200 = 7 := by decide +kernel
theorem mhl_200 : mhl 200 = false := by decide +kernel
theorem mrt_200 : mrt 200 = some .int := by decide +kernel
theorem mml_200 : mml 200 = 2 := by decide +kernel
theorem mna_200 : mna 200 = 2 := by decide +kernel
theorem mow_201 : mow 201 = 7 := by decide +kernel
theorem mhl_201 : mhl 201 = true := by decide +kernel
theorem mrt_201 : mrt 201 = some .long := by decide +kernel
theorem mml_201 : mml 201 = 8 := by decide +kernel
theorem mna_201 : mna 201 = 4 := by decide +kernel
theorem mow_202 : mow 202 = 7 := by decide +kernel
theorem mhl_202 : mhl 202 = true := by decide +kernel
theorem mrt_202 : mrt 202 = some .long := by decide +kernel
theorem mml_202 : mml 202 = 4 := by decide +kernel
theorem mna_202 : mna 202 = 1 := by decide +kernel
theorem mow_203 : mow 203 = 9 := by decide +kernel
theorem mhl_203 : mhl 203 = false := by decide +kernel
theorem mrt_203 : mrt 203 = some .int := by decide +kernel
theorem mml_203 : mml 203 = 2 := by decide +kernel
theorem mna_203 : mna 203 = 2 := by decide +kernel
theorem mow_204 : mow 204 = 8 := by decide +kernel
theorem mhl_204 : mhl 204 = false := by decide +kernel
theorem mrt_204 : mrt 204 = some .boolean := by decide +kernel
theorem mml_204 : mml 204 = 4 := by decide +kernel
theorem mna_204 : mna 204 = 1 := by decide +kernel
theorem mow_205 : mow 205 = 9 := by decide +kernel
theorem mhl_205 : mhl 205 = false := by decide +kernel
theorem mrt_205 : mrt 205 = some .int := by decide +kernel
theorem mml_205 : mml 205 = 1 := by decide +kernel
theorem mna_205 : mna 205 = 1 := by decide +kernel
theorem mow_206 : mow 206 = 9 := by decide +kernel
theorem mhl_206 : mhl 206 = false := by decide +kernel
theorem mrt_206 : mrt 206 = some .char := by decide +kernel
theorem mml_206 : mml 206 = 2 := by decide +kernel
theorem mna_206 : mna 206 = 2 := by decide +kernel
theorem fr_4_13 : frF 4 13 = some (4, 13, 4, 0, 1, 0, 127) := by rfl
theorem fr_4_19 : frF 4 19 = some (4, 19, 4, 1, 1, 0, 128) := by rfl
theorem fr_4_22 : frF 4 22 = some (4, 22, 4, 2, 1, 0, 129) := by rfl
theorem fr_4_26 : frF 4 26 = some (4, 26, 4, 3, 0, 0, 130) := by rfl
theorem fr_6_323 : frF 6 323 = some (6, 323, 4, 3, 0, 1, 131) := by rfl
theorem fr_1_11 : frF 1 11 = some (1, 11, 1, 0, 1, 0, 148) := by rfl
theorem fr_1_15 : frF 1 15 = some (1, 15, 1, 1, 0, 0, 149) := by rfl
theorem fr_6_148 : frF 6 148 = some (6, 148, 1, 1, 0, 1, 150) := by rfl
theorem fr_5_49 : frF 5 49 = some (5, 49, 5, 0, 0, 0, 156) := by rfl
theorem fr_6_61 : frF 6 61 = some (6, 61, 5, 0, 0, 1, 157) := by rfl
theorem fr_0_42 : frF 0 42 = some (0, 42, 5, 0, 0, 1, 158) := by rfl
theorem fr_3_66 : frF 3 66 = some (3, 66, 5, 0, 0, 1, 159) := by rfl
theorem fr_2_70 : frF 2 70 = some (2, 70, 5, 0, 0, 1, 160) := by rfl
theorem fr_5_53 : frF 5 53 = some (5, 53, 5, 1, 0, 0, 161) := by rfl
theorem fr_3_52 : frF 3 52 = some (3, 52, 5, 1, 0, 1, 162) := by rfl
theorem fr_6_90 : frF 6 90 = some (6, 90, 5, 1, 0, 1, 163) := by rfl
theorem fr_2_86 : frF 2 86 = some (2, 86, 5, 1, 0, 1, 164) := by rfl
theorem fr_5_56 : frF 5 56 = some (5, 56, 5, 2, 0, 0, 165) := by rfl
theorem fr_1_42 : frF 1 42 = some (1, 42, 5, 2, 0, 1, 166) := by rfl
theorem fr_6_154 : frF 6 154 = some (6, 154, 5, 2, 0, 1, 167) := by rfl
theorem fr_5_9 : frF 5 9 = some (5, 9, 5, 3, 1, 0, 168) := by rfl
theorem fr_6_157 : frF 6 157 = some (6, 157, 5, 3, 1, 1, 169) := by rfl
theorem fr_5_15 : frF 5 15 = some (5, 15, 5, 4, 1, 0, 170) := by rfl
theorem fr_6_160 : frF 6 160 = some (6, 160, 5, 4, 1, 1, 171) := by rfl
theorem fr_5_18 : frF 5 18 = some (5, 18, 5, 5, 1, 0, 172) := by rfl
theorem fr_3_38 : frF 3 38 = some (3, 38, 5, 5, 1, 1, 173) := by rfl
theorem fr_0_34 : frF 0 34 = some (0, 34, 5, 5, 1, 1, 174) := by rfl
theorem fr_1_39 : frF 1 39 = some (1, 39, 5, 5, 1, 1, 175) := by rfl
theorem fr_2_97 : frF 2 97 = some (2, 97, 5, 5, 1, 1, 176) := by rfl
theorem fr_6_138 : frF 6 138 = some (6, 138, 5, 5, 1, 1, 177) := by rfl
theorem fr_5_21 : frF 5 21 = some (5, 21, 5, 6, 1, 0, 178) := by rfl
theorem fr_0_22 : frF 0 22 = some (0, 22, 5, 6, 1, 1, 179) := by rfl
theorem fr_3_92 : frF 3 92 = some (3, 92, 5, 6, 1, 1, 180) := by rfl
theorem fr_6_166 : frF 6 166 = some (6, 166, 5, 6, 1, 1, 181) := by rfl
theorem fr_5_24 : frF 5 24 = some (5, 24, 5, 7, 1, 0, 182) := by rfl
theorem fr_0_54 : frF 0 54 = some (0, 54, 5, 7, 1, 1, 183) := by rfl
theorem fr_3_59 : frF 3 59 = some (3, 59, 5, 7, 1, 1, 184) := by rfl
theorem fr_1_26 : frF 1 26 = some (1, 26, 5, 7, 1, 1, 185) := by rfl
theorem fr_6_131 : frF 6 131 = some (6, 131, 5, 7, 1, 1, 186) := by rfl
theorem fr_5_32 : frF 5 32 = some (5, 32, 5, 8, 1, 0, 187) := by rfl
theorem fr_6_202 : frF 6 202 = some (6, 202, 5, 8, 1, 1, 188) := by rfl
theorem fr_5_36 : frF 5 36 = some (5, 36, 5, 9, 1, 0, 189) := by rfl
theorem fr_6_223 : frF 6 223 = some (6, 223, 5, 9, 1, 1, 190) := by rfl
theorem fr_5_39 : frF 5 39 = some (5, 39, 5, 10, 1, 0, 191) := by rfl
theorem fr_6_226 : frF 6 226 = some (6, 226, 5, 10, 1, 1, 192) := by rfl
theorem fr_5_45 : frF 5 45 = some (5, 45, 5, 11, 1, 0, 193) := by rfl
theorem fr_6_79 : frF 6 79 = some (6, 79, 5, 11, 1, 1, 194) := by rfl
theorem fr_2_9 : frF 2 9 = some (2, 9, 2, 0, 1, 0, 227) := by rfl
theorem fr_2_15 : frF 2 15 = some (2, 15, 2, 1, 0, 0, 228) := by rfl
theorem fr_6_97 : frF 6 97 = some (6, 97, 2, 1, 0, 1, 229) := by rfl
theorem fr_2_19 : frF 2 19 = some (2, 19, 2, 2, 0, 0, 230) := by rfl
theorem fr_2_42 : frF 2 42 = some (2, 42, 2, 3, 0, 0, 231) := by rfl
theorem fr_2_35 : frF 2 35 = some (2, 35, 2, 4, 0, 0, 232) := by rfl
theorem fr_2_79 : frF 2 79 = some (2, 79, 2, 5, 0, 0, 233) := by rfl
theorem fr_0_18 : frF 0 18 = some (0, 18, 0, 0, 1, 0, 255) := by rfl
theorem fr_0_9 : frF 0 9 = some (0, 9, 0, 1, 1, 0, 256) := by rfl
theorem fr_6_184 : frF 6 184 = some (6, 184, 0, 1, 1, 1, 257) := by rfl
theorem fr_0_15 : frF 0 15 = some (0, 15, 0, 2, 1, 0, 258) := by rfl
theorem fr_0_31 : frF 0 31 = some (0, 31, 0, 3, 0, 0, 259) := by rfl
theorem fr_0_39 : frF 0 39 = some (0, 39, 0, 4, 0, 0, 260) := by rfl
theorem fr_3_27 : frF 3 27 = some (3, 27, 3, 0, 1, 0, 278) := by rfl
theorem fr_3_9 : frF 3 9 = some (3, 9, 3, 1, 1, 0, 279) := by rfl
theorem fr_3_15 : frF 3 15 = some (3, 15, 3, 2, 1, 0, 280) := by rfl
theorem fr_6_196 : frF 6 196 = some (6, 196, 3, 2, 1, 1, 281) := by rfl
theorem fr_3_18 : frF 3 18 = some (3, 18, 3, 3, 1, 0, 282) := by rfl
theorem fr_3_21 : frF 3 21 = some (3, 21, 3, 4, 1, 0, 283) := by rfl
theorem fr_3_24 : frF 3 24 = some (3, 24, 3, 5, 1, 0, 284) := by rfl
theorem fr_3_31 : frF 3 31 = some (3, 31, 3, 6, 0, 0, 285) := by rfl
theorem fr_6_190 : frF 6 190 = some (6, 190, 3, 6, 0, 1, 286) := by rfl
theorem fr_3_35 : frF 3 35 = some (3, 35, 3, 7, 0, 0, 287) := by rfl
theorem fr_6_193 : frF 6 193 = some (6, 193, 3, 7, 0, 1, 288) := by rfl
theorem fr_6_10 : frF 6 10 = some (6, 10, 6, 0, 1, 0, 306) := by rfl
theorem fr_6_16 : frF 6 16 = some (6, 16, 6, 1, 1, 0, 307) := by rfl
theorem fr_6_19 : frF 6 19 = some (6, 19, 6, 2, 1, 0, 308) := by rfl
theorem fr_6_23 : frF 6 23 = some (6, 23, 6, 3, 1, 0, 309) := by rfl
theorem fr_6_30 : frF 6 30 = some (6, 30, 6, 4, 1, 0, 310) := by rfl
theorem fr_6_39 : frF 6 39 = some (6, 39, 6, 5, 1, 0, 311) := by rfl
theorem fr_6_46 : frF 6 46 = some (6, 46, 6, 6, 1, 0, 312) := by rfl
theorem fr_6_50 : frF 6 50 = some (6, 50, 6, 7, 1, 0, 313) := by rfl
theorem fr_6_54 : frF 6 54 = some (6, 54, 6, 8, 0, 0, 314) := by rfl
theorem fr_6_58 : frF 6 58 = some (6, 58, 6, 9, 0, 0, 315) := by rfl
theorem fr_6_283 : frF 6 283 = some (6, 283, 6, 10, 0, 0, 316) := by rfl
theorem fr_6_286 : frF 6 286 = some (6, 286, 6, 11, 0, 0, 317) := by rfl
theorem fr_6_289 : frF 6 289 = some (6, 289, 6, 12, 0, 0, 318) := by rfl
theorem fr_7_7 : frF 7 7 = some (7, 7, 7, 0, 1, 0, 907) := by rfl
theorem fr_7_13 : frF 7 13 = some (7, 13, 7, 1, 1, 0, 908) := by rfl
theorem fr_7_16 : frF 7 16 = some (7, 16, 7, 2, 1, 0, 909) := by rfl
theorem fr_7_19 : frF 7 19 = some (7, 19, 7, 3, 1, 0, 910) := by rfl
theorem fr_7_22 : frF 7 22 = some (7, 22, 7, 4, 1, 0, 911) := by rfl
theorem fr_7_26 : frF 7 26 = some (7, 26, 7, 5, 1, 0, 912) := by rfl
theorem fr_7_227 : frF 7 227 = some (7, 227, 7, 6, 0, 0, 913) := by rfl
theorem fr_7_29 : frF 7 29 = some (7, 29, 7, 7, 0, 0, 914) := by rfl
theorem fr_7_33 : frF 7 33 = some (7, 33, 7, 8, 1, 0, 915) := by rfl
theorem fr_7_91 : frF 7 91 = some (7, 91, 7, 9, 0, 0, 916) := by rfl
theorem fr_7_95 : frF 7 95 = some (7, 95, 7, 10, 0, 0, 917) := by rfl
theorem fr_7_101 : frF 7 101 = some (7, 101, 7, 11, 0, 0, 918) := by rfl
theorem fr_7_107 : frF 7 107 = some (7, 107, 7, 12, 0, 0, 919) := by rfl
theorem fr_7_104 : frF 7 104 = some (7, 104, 7, 13, 0, 0, 920) := by rfl
theorem fr_7_110 : frF 7 110 = some (7, 110, 7, 14, 0, 0, 921) := by rfl
theorem fr_7_36 : frF 7 36 = some (7, 36, 7, 15, 1, 0, 922) := by rfl
set_option maxRecDepth 100000 in
theorem ca_4_7 : caF 4 7 = some (4, 7, 203, 0, 124, 126, 125, 0, 94) := by rfl
set_option maxRecDepth 100000 in
theorem ca_8_13 : caF 8 13 = some (8, 13, 45, 2, 346, 349, 347, 348, 91) := by rfl
set_option maxRecDepth 100000 in
theorem ca_6_65 : caF 6 65 = some (6, 65, 32, 3, 350, 353, 352, 0, 92) := by rfl
set_option maxRecDepth 100000 in
theorem ca_5_59 : caF 5 59 = some (5, 59, 29, 3, 354, 357, 356, 1, 93) := by rfl
set_option maxRecDepth 100000 in
theorem ca_5_63 : caF 5 63 = some (5, 63, 2, 3, 358, 361, 360, 2, 95) := by rfl
set_option maxRecDepth 100000 in
theorem ca_8_18 : caF 8 18 = some (8, 18, 46, 2, 362, 365, 363, 364, 91) := by rfl
set_option maxRecDepth 100000 in
theorem ca_6_68 : caF 6 68 = some (6, 68, 86, 0, 366, 368, 367, 0, 91) := by rfl
set_option maxRecDepth 100000 in
theorem ca_6_72 : caF 6 72 = some (6, 72, 82, 2, 369, 372, 371, 3, 91) := by rfl
set_option maxRecDepth 100000 in
theorem ca_6_76 : caF 6 76 = some (6, 76, 85, 2, 373, 376, 375, 4, 91) := by rfl
set_option maxRecDepth 100000 in
theorem ca_6_83 : caF 6 83 = some (6, 83, 2, 3, 377, 361, 360, 2, 95) := by rfl
set_option maxRecDepth 100000 in
theorem ca_6_86 : caF 6 86 = some (6, 86, 36, 3, 378, 381, 380, 5, 92) := by rfl
set_option maxRecDepth 100000 in
theorem ca_5_76 : caF 5 76 = some (5, 76, 90, 1, 382, 384, 383, 0, 91) := by rfl
set_option maxRecDepth 100000 in
theorem ca_8_23 : caF 8 23 = some (8, 23, 47, 2, 385, 388, 386, 387, 91) := by rfl
set_option maxRecDepth 100000 in
theorem ca_6_93 : caF 6 93 = some (6, 93, 37, 3, 389, 392, 391, 6, 92) := by rfl
set_option maxRecDepth 100000 in
theorem ca_8_28 : caF 8 28 = some (8, 28, 48, 2, 393, 396, 394, 395, 91) := by rfl
set_option maxRecDepth 100000 in
theorem ca_6_100 : caF 6 100 = some (6, 100, 7, 3, 397, 400, 399, 7, 96) := by rfl
set_option maxRecDepth 100000 in
theorem ca_8_32 : caF 8 32 = some (8, 32, 49, 2, 401, 404, 402, 403, 91) := by rfl
set_option maxRecDepth 100000 in
theorem ca_8_36 : caF 8 36 = some (8, 36, 50, 2, 405, 408, 406, 407, 91) := by rfl
set_option maxRecDepth 100000 in
theorem ca_6_103 : caF 6 103 = some (6, 103, 8, 3, 409, 412, 411, 8, 96) := by rfl
set_option maxRecDepth 100000 in
theorem ca_2_22 : caF 2 22 = some (2, 22, 17, 2, 413, 416, 415, 9, 96) := by rfl
set_option maxRecDepth 100000 in
theorem ca_2_113 : caF 2 113 = some (2, 113, 18, 2, 417, 420, 419, 10, 96) := by rfl
set_option maxRecDepth 100000 in
theorem ca_2_116 : caF 2 116 = some (2, 116, 19, 0, 421, 423, 422, 0, 96) := by rfl
set_option maxRecDepth 100000 in
theorem ca_2_120 : caF 2 120 = some (2, 120, 20, 0, 424, 426, 425, 0, 96) := by rfl
set_option maxRecDepth 100000 in
theorem ca_2_27 : caF 2 27 = some (2, 27, 21, 2, 428, 431, 430, 11, 96) := by rfl
set_option maxRecDepth 100000 in
theorem ca_2_123 : caF 2 123 = some (2, 123, 205, 2, 432, 435, 433, 434, 100) := by rfl
set_option maxRecDepth 100000 in
theorem ca_2_127 : caF 2 127 = some (2, 127, 206, 2, 442, 445, 443, 444, 100) := by rfl
set_option maxRecDepth 100000 in
theorem ca_2_31 : caF 2 31 = some (2, 31, 9, 2, 480, 483, 482, 12, 96) := by rfl
set_option maxRecDepth 100000 in
theorem ca_2_38 : caF 2 38 = some (2, 38, 10, 2, 484, 487, 486, 13, 96) := by rfl
set_option maxRecDepth 100000 in
theorem ca_2_47 : caF 2 47 = some (2, 47, 11, 2, 489, 492, 491, 14, 96) := by rfl
set_option maxRecDepth 100000 in
theorem ca_2_75 : caF 2 75 = some (2, 75, 16, 2, 493, 496, 495, 15, 96) := by rfl
set_option maxRecDepth 100000 in
theorem ca_2_109 : caF 2 109 = some (2, 109, 86, 1, 497, 368, 367, 0, 91) := by rfl
set_option maxRecDepth 100000 in
theorem ca_2_82 : caF 2 82 = some (2, 82, 36, 3, 498, 381, 380, 5, 92) := by rfl
set_option maxRecDepth 100000 in
theorem ca_2_52 : caF 2 52 = some (2, 52, 12, 2, 500, 503, 502, 16, 96) := by rfl
set_option maxRecDepth 100000 in
theorem ca_2_89 : caF 2 89 = some (2, 89, 37, 3, 504, 392, 391, 6, 92) := by rfl
set_option maxRecDepth 100000 in
theorem ca_2_57 : caF 2 57 = some (2, 57, 13, 2, 506, 509, 508, 17, 96) := by rfl
set_option maxRecDepth 100000 in
theorem ca_2_93 : caF 2 93 = some (2, 93, 40, 3, 510, 513, 512, 18, 92) := by rfl
set_option maxRecDepth 100000 in
theorem ca_5_80 : caF 5 80 = some (5, 80, 89, 1, 514, 516, 515, 0, 91) := by rfl
set_option maxRecDepth 100000 in
theorem ca_5_92 : caF 5 92 = some (5, 92, 39, 2, 517, 520, 519, 19, 92) := by rfl
set_option maxRecDepth 100000 in
theorem ca_5_84 : caF 5 84 = some (5, 84, 94, 1, 521, 523, 522, 0, 91) := by rfl
set_option maxRecDepth 100000 in
theorem ca_5_88 : caF 5 88 = some (5, 88, 95, 1, 524, 526, 525, 0, 91) := by rfl
set_option maxRecDepth 100000 in
theorem ca_5_96 : caF 5 96 = some (5, 96, 96, 1, 527, 529, 528, 0, 91) := by rfl
set_option maxRecDepth 100000 in
theorem ca_5_99 : caF 5 99 = some (5, 99, 99, 1, 530, 532, 531, 0, 91) := by rfl
set_option maxRecDepth 100000 in
theorem ca_2_62 : caF 2 62 = some (2, 62, 14, 2, 534, 537, 536, 20, 96) := by rfl
set_option maxRecDepth 100000 in
theorem ca_2_101 : caF 2 101 = some (2, 101, 90, 1, 538, 384, 383, 0, 91) := by rfl
set_option maxRecDepth 100000 in
theorem ca_2_67 : caF 2 67 = some (2, 67, 15, 2, 540, 543, 542, 21, 96) := by rfl
set_option maxRecDepth 100000 in
theorem ca_2_105 : caF 2 105 = some (2, 105, 42, 3, 544, 547, 546, 22, 92) := by rfl
set_option maxRecDepth 100000 in
theorem ca_5_106 : caF 5 106 = some (5, 106, 41, 2, 548, 551, 550, 23, 92) := by rfl
set_option maxRecDepth 100000 in
theorem ca_5_103 : caF 5 103 = some (5, 103, 97, 1, 552, 554, 553, 0, 91) := by rfl
set_option maxRecDepth 100000 in
theorem ca_6_107 : caF 6 107 = some (6, 107, 33, 3, 555, 558, 557, 24, 92) := by rfl
set_option maxRecDepth 100000 in
theorem ca_5_65 : caF 5 65 = some (5, 65, 91, 1, 559, 561, 560, 0, 91) := by rfl
set_option maxRecDepth 100000 in
theorem ca_5_69 : caF 5 69 = some (5, 69, 30, 3, 562, 565, 564, 25, 93) := by rfl
set_option maxRecDepth 100000 in
theorem ca_4_39 : caF 4 39 = some (4, 39, 91, 1, 566, 561, 560, 0, 91) := by rfl
set_option maxRecDepth 100000 in
theorem ca_5_73 : caF 5 73 = some (5, 73, 3, 3, 567, 570, 569, 26, 95) := by rfl
set_option maxRecDepth 100000 in
theorem ca_1_19 : caF 1 19 = some (1, 19, 91, 1, 571, 561, 560, 0, 91) := by rfl
set_option maxRecDepth 100000 in
theorem ca_8_40 : caF 8 40 = some (8, 40, 51, 2, 573, 576, 574, 575, 91) := by rfl
set_option maxRecDepth 100000 in
theorem ca_6_110 : caF 6 110 = some (6, 110, 4, 3, 577, 580, 579, 27, 95) := by rfl
set_option maxRecDepth 100000 in
theorem ca_1_23 : caF 1 23 = some (1, 23, 5, 2, 581, 584, 583, 28, 95) := by rfl
set_option maxRecDepth 100000 in
theorem ca_1_31 : caF 1 31 = some (1, 31, 89, 1, 585, 516, 515, 0, 91) := by rfl
set_option maxRecDepth 100000 in
theorem ca_1_35 : caF 1 35 = some (1, 35, 90, 1, 586, 384, 383, 0, 91) := by rfl
set_option maxRecDepth 100000 in
theorem ca_6_113 : caF 6 113 = some (6, 113, 42, 3, 587, 547, 546, 22, 92) := by rfl
set_option maxRecDepth 100000 in
theorem ca_6_117 : caF 6 117 = some (6, 117, 43, 3, 588, 591, 590, 29, 92) := by rfl
set_option maxRecDepth 100000 in
theorem ca_5_109 : caF 5 109 = some (5, 109, 98, 1, 592, 594, 593, 0, 91) := by rfl
set_option maxRecDepth 100000 in
theorem ca_8_44 : caF 8 44 = some (8, 44, 52, 2, 595, 598, 596, 597, 91) := by rfl
set_option maxRecDepth 100000 in
theorem ca_6_120 : caF 6 120 = some (6, 120, 34, 3, 599, 602, 601, 30, 92) := by rfl
set_option maxRecDepth 100000 in
theorem ca_6_124 : caF 6 124 = some (6, 124, 35, 3, 603, 606, 605, 31, 92) := by rfl
set_option maxRecDepth 100000 in
theorem ca_6_127 : caF 6 127 = some (6, 127, 40, 3, 607, 513, 512, 18, 92) := by rfl
set_option maxRecDepth 100000 in
theorem ca_6_134 : caF 6 134 = some (6, 134, 89, 0, 608, 516, 515, 0, 91) := by rfl
set_option maxRecDepth 100000 in
theorem ca_8_48 : caF 8 48 = some (8, 48, 53, 2, 609, 612, 610, 611, 91) := by rfl
set_option maxRecDepth 100000 in
theorem ca_6_141 : caF 6 141 = some (6, 141, 84, 2, 613, 616, 615, 32, 91) := by rfl
set_option maxRecDepth 100000 in
theorem ca_6_144 : caF 6 144 = some (6, 144, 90, 0, 617, 384, 383, 0, 91) := by rfl
set_option maxRecDepth 100000 in
theorem ca_8_52 : caF 8 52 = some (8, 52, 54, 2, 618, 621, 619, 620, 91) := by rfl
set_option maxRecDepth 100000 in
theorem ca_6_151 : caF 6 151 = some (6, 151, 6, 3, 622, 625, 624, 33, 95) := by rfl
set_option maxRecDepth 100000 in
theorem ca_8_56 : caF 8 56 = some (8, 56, 55, 2, 626, 629, 627, 628, 91) := by rfl
set_option maxRecDepth 100000 in
theorem ca_6_163 : caF 6 163 = some (6, 163, 38, 3, 630, 633, 632, 34, 92) := by rfl
set_option maxRecDepth 100000 in
theorem ca_8_60 : caF 8 60 = some (8, 60, 56, 2, 634, 637, 635, 636, 91) := by rfl
set_option maxRecDepth 100000 in
theorem ca_6_169 : caF 6 169 = some (6, 169, 98, 0, 638, 594, 593, 0, 91) := by rfl
set_option maxRecDepth 100000 in
theorem ca_8_64 : caF 8 64 = some (8, 64, 57, 2, 639, 642, 640, 641, 91) := by rfl
set_option maxRecDepth 100000 in
theorem ca_6_172 : caF 6 172 = some (6, 172, 39, 3, 643, 520, 519, 19, 92) := by rfl
set_option maxRecDepth 100000 in
theorem ca_8_68 : caF 8 68 = some (8, 68, 58, 2, 644, 647, 645, 646, 91) := by rfl
set_option maxRecDepth 100000 in
theorem ca_6_175 : caF 6 175 = some (6, 175, 97, 0, 648, 554, 553, 0, 91) := by rfl
set_option maxRecDepth 100000 in
theorem ca_8_72 : caF 8 72 = some (8, 72, 59, 2, 649, 652, 650, 651, 91) := by rfl
set_option maxRecDepth 100000 in
theorem ca_8_76 : caF 8 76 = some (8, 76, 60, 2, 653, 656, 654, 655, 91) := by rfl
set_option maxRecDepth 100000 in
theorem ca_6_178 : caF 6 178 = some (6, 178, 83, 2, 657, 660, 659, 35, 91) := by rfl
set_option maxRecDepth 100000 in
theorem ca_6_181 : caF 6 181 = some (6, 181, 0, 3, 661, 664, 663, 36, 97) := by rfl
set_option maxRecDepth 100000 in
theorem ca_0_27 : caF 0 27 = some (0, 27, 89, 1, 665, 516, 515, 0, 91) := by rfl
set_option maxRecDepth 100000 in
theorem ca_0_35 : caF 0 35 = some (0, 35, 91, 1, 666, 561, 560, 0, 91) := by rfl
set_option maxRecDepth 100000 in
theorem ca_0_45 : caF 0 45 = some (0, 45, 39, 3, 667, 520, 519, 19, 92) := by rfl
set_option maxRecDepth 100000 in
theorem ca_0_49 : caF 0 49 = some (0, 49, 203, 0, 668, 126, 125, 0, 94) := by rfl
set_option maxRecDepth 100000 in
theorem ca_0_57 : caF 0 57 = some (0, 57, 1, 0, 669, 671, 670, 0, 97) := by rfl
set_option maxRecDepth 100000 in
theorem ca_0_61 : caF 0 61 = some (0, 61, 38, 3, 672, 633, 632, 34, 92) := by rfl
set_option maxRecDepth 100000 in
theorem ca_0_64 : caF 0 64 = some (0, 64, 95, 1, 673, 526, 525, 0, 91) := by rfl
set_option maxRecDepth 100000 in
theorem ca_0_68 : caF 0 68 = some (0, 68, 90, 1, 674, 384, 383, 0, 91) := by rfl
set_option maxRecDepth 100000 in
theorem ca_0_72 : caF 0 72 = some (0, 72, 99, 1, 675, 532, 531, 0, 91) := by rfl
set_option maxRecDepth 100000 in
theorem ca_0_76 : caF 0 76 = some (0, 76, 96, 1, 676, 529, 528, 0, 91) := by rfl
set_option maxRecDepth 100000 in
theorem ca_8_80 : caF 8 80 = some (8, 80, 61, 2, 677, 680, 678, 679, 91) := by rfl
set_option maxRecDepth 100000 in
theorem ca_6_187 : caF 6 187 = some (6, 187, 22, 3, 681, 684, 683, 37, 98) := by rfl
set_option maxRecDepth 100000 in
theorem ca_3_41 : caF 3 41 = some (3, 41, 91, 1, 685, 561, 560, 0, 91) := by rfl
set_option maxRecDepth 100000 in
theorem ca_3_45 : caF 3 45 = some (3, 45, 23, 2, 686, 689, 688, 38, 98) := by rfl
set_option maxRecDepth 100000 in
theorem ca_3_55 : caF 3 55 = some (3, 55, 90, 1, 690, 384, 383, 0, 91) := by rfl
set_option maxRecDepth 100000 in
theorem ca_3_62 : caF 3 62 = some (3, 62, 89, 1, 691, 516, 515, 0, 91) := by rfl
set_option maxRecDepth 100000 in
theorem ca_3_69 : caF 3 69 = some (3, 69, 39, 3, 692, 520, 519, 19, 92) := by rfl
set_option maxRecDepth 100000 in
theorem ca_3_73 : caF 3 73 = some (3, 73, 96, 1, 693, 529, 528, 0, 91) := by rfl
set_option maxRecDepth 100000 in
theorem ca_3_76 : caF 3 76 = some (3, 76, 203, 0, 694, 126, 125, 0, 94) := by rfl
set_option maxRecDepth 100000 in
theorem ca_3_81 : caF 3 81 = some (3, 81, 98, 1, 695, 594, 593, 0, 91) := by rfl
set_option maxRecDepth 100000 in
theorem ca_3_48 : caF 3 48 = some (3, 48, 25, 0, 696, 698, 697, 0, 98) := by rfl
set_option maxRecDepth 100000 in
theorem ca_3_85 : caF 3 85 = some (3, 85, 24, 2, 699, 702, 701, 39, 98) := by rfl
set_option maxRecDepth 100000 in
theorem ca_3_89 : caF 3 89 = some (3, 89, 38, 3, 703, 633, 632, 34, 92) := by rfl
set_option maxRecDepth 100000 in
theorem ca_3_95 : caF 3 95 = some (3, 95, 95, 1, 704, 526, 525, 0, 91) := by rfl
set_option maxRecDepth 100000 in
theorem ca_3_99 : caF 3 99 = some (3, 99, 99, 1, 705, 532, 531, 0, 91) := by rfl
set_option maxRecDepth 100000 in
theorem ca_8_84 : caF 8 84 = some (8, 84, 62, 2, 706, 709, 707, 708, 91) := by rfl
set_option maxRecDepth 100000 in
theorem ca_6_199 : caF 6 199 = some (6, 199, 100, 2, 710, 713, 712, 40, 91) := by rfl
set_option maxRecDepth 100000 in
theorem ca_6_308 : caF 6 308 = some (6, 308, 94, 0, 714, 523, 522, 0, 91) := by rfl
set_option maxRecDepth 100000 in
theorem ca_6_311 : caF 6 311 = some (6, 311, 95, 0, 715, 526, 525, 0, 91) := by rfl
set_option maxRecDepth 100000 in
theorem ca_6_314 : caF 6 314 = some (6, 314, 96, 0, 716, 529, 528, 0, 91) := by rfl
set_option maxRecDepth 100000 in
theorem ca_6_317 : caF 6 317 = some (6, 317, 99, 0, 717, 532, 531, 0, 91) := by rfl
set_option maxRecDepth 100000 in
theorem ca_8_88 : caF 8 88 = some (8, 88, 63, 2, 718, 721, 719, 720, 91) := by rfl
set_option maxRecDepth 100000 in
theorem ca_6_206 : caF 6 206 = some (6, 206, 26, 3, 722, 725, 724, 41, 93) := by rfl
set_option maxRecDepth 100000 in
theorem ca_6_212 : caF 6 212 = some (6, 212, 27, 3, 726, 729, 728, 42, 93) := by rfl
set_option maxRecDepth 100000 in
theorem ca_4_29 : caF 4 29 = some (4, 29, 90, 1, 730, 384, 383, 0, 91) := by rfl
set_option maxRecDepth 100000 in
theorem ca_8_93 : caF 8 93 = some (8, 93, 64, 2, 731, 734, 732, 733, 91) := by rfl
set_option maxRecDepth 100000 in
theorem ca_6_216 : caF 6 216 = some (6, 216, 101, 2, 735, 738, 737, 43, 91) := by rfl
set_option maxRecDepth 100000 in
theorem ca_6_320 : caF 6 320 = some (6, 320, 102, 2, 739, 742, 741, 44, 91) := by rfl
set_option maxRecDepth 100000 in
theorem ca_6_324 : caF 6 324 = some (6, 324, 28, 3, 743, 746, 745, 45, 93) := by rfl
set_option maxRecDepth 100000 in
theorem ca_4_35 : caF 4 35 = some (4, 35, 89, 1, 747, 516, 515, 0, 91) := by rfl
set_option maxRecDepth 100000 in
theorem ca_8_97 : caF 8 97 = some (8, 97, 65, 2, 748, 751, 749, 750, 91) := by rfl
set_option maxRecDepth 100000 in
theorem ca_6_219 : caF 6 219 = some (6, 219, 107, 2, 752, 755, 754, 46, 91) := by rfl
set_option maxRecDepth 100000 in
theorem ca_6_333 : caF 6 333 = some (6, 333, 88, 0, 756, 758, 757, 0, 91) := by rfl
set_option maxRecDepth 100000 in
theorem ca_6_336 : caF 6 336 = some (6, 336, 93, 0, 759, 761, 760, 0, 91) := by rfl
set_option maxRecDepth 100000 in
theorem ca_6_303 : caF 6 303 = some (6, 303, 203, 0, 762, 126, 125, 0, 94) := by rfl
set_option maxRecDepth 100000 in
theorem ca_8_101 : caF 8 101 = some (8, 101, 66, 2, 763, 766, 764, 765, 91) := by rfl
set_option maxRecDepth 100000 in
theorem ca_8_105 : caF 8 105 = some (8, 105, 67, 2, 767, 770, 768, 769, 91) := by rfl
set_option maxRecDepth 100000 in
theorem ca_8_110 : caF 8 110 = some (8, 110, 68, 2, 771, 774, 772, 773, 91) := by rfl
set_option maxRecDepth 100000 in
theorem ca_6_229 : caF 6 229 = some (6, 229, 29, 3, 775, 357, 356, 1, 93) := by rfl
set_option maxRecDepth 100000 in
theorem ca_8_114 : caF 8 114 = some (8, 114, 69, 2, 776, 779, 777, 778, 91) := by rfl
set_option maxRecDepth 100000 in
theorem ca_6_231 : caF 6 231 = some (6, 231, 103, 2, 780, 783, 782, 47, 91) := by rfl
set_option maxRecDepth 100000 in
theorem ca_6_327 : caF 6 327 = some (6, 327, 104, 2, 784, 787, 786, 48, 91) := by rfl
set_option maxRecDepth 100000 in
theorem ca_8_118 : caF 8 118 = some (8, 118, 70, 2, 788, 791, 789, 790, 91) := by rfl
set_option maxRecDepth 100000 in
theorem ca_6_234 : caF 6 234 = some (6, 234, 108, 2, 792, 795, 794, 49, 91) := by rfl
set_option maxRecDepth 100000 in
theorem ca_8_122 : caF 8 122 = some (8, 122, 71, 2, 796, 799, 797, 798, 91) := by rfl
set_option maxRecDepth 100000 in
theorem ca_6_237 : caF 6 237 = some (6, 237, 105, 2, 800, 803, 802, 50, 91) := by rfl
set_option maxRecDepth 100000 in
theorem ca_6_330 : caF 6 330 = some (6, 330, 106, 2, 804, 807, 806, 51, 91) := by rfl
set_option maxRecDepth 100000 in
theorem ca_8_126 : caF 8 126 = some (8, 126, 72, 2, 808, 811, 809, 810, 91) := by rfl
set_option maxRecDepth 100000 in
theorem ca_6_240 : caF 6 240 = some (6, 240, 109, 2, 812, 815, 814, 52, 91) := by rfl
set_option maxRecDepth 100000 in
theorem ca_8_130 : caF 8 130 = some (8, 130, 73, 2, 816, 819, 817, 818, 91) := by rfl
set_option maxRecDepth 100000 in
theorem ca_6_244 : caF 6 244 = some (6, 244, 111, 2, 820, 823, 822, 53, 91) := by rfl
set_option maxRecDepth 100000 in
theorem ca_6_339 : caF 6 339 = some (6, 339, 110, 2, 824, 827, 826, 54, 91) := by rfl
set_option maxRecDepth 100000 in
theorem ca_8_134 : caF 8 134 = some (8, 134, 74, 2, 828, 831, 829, 830, 91) := by rfl
set_option maxRecDepth 100000 in
theorem ca_6_248 : caF 6 248 = some (6, 248, 87, 0, 832, 834, 833, 0, 91) := by rfl
set_option maxRecDepth 100000 in
theorem ca_6_251 : caF 6 251 = some (6, 251, 112, 0, 835, 837, 836, 0, 91) := by rfl
set_option maxRecDepth 100000 in
theorem ca_6_255 : caF 6 255 = some (6, 255, 113, 2, 838, 841, 840, 55, 91) := by rfl
set_option maxRecDepth 100000 in
theorem ca_6_258 : caF 6 258 = some (6, 258, 92, 0, 842, 844, 843, 0, 91) := by rfl
set_option maxRecDepth 100000 in
theorem ca_8_139 : caF 8 139 = some (8, 139, 75, 2, 845, 848, 846, 847, 91) := by rfl
set_option maxRecDepth 100000 in
theorem ca_6_277 : caF 6 277 = some (6, 277, 41, 3, 857, 551, 550, 23, 92) := by rfl
set_option maxRecDepth 100000 in
theorem ca_8_143 : caF 8 143 = some (8, 143, 76, 2, 858, 861, 859, 860, 91) := by rfl
set_option maxRecDepth 100000 in
theorem ca_8_148 : caF 8 148 = some (8, 148, 77, 2, 862, 865, 863, 864, 91) := by rfl
set_option maxRecDepth 100000 in
theorem ca_6_280 : caF 6 280 = some (6, 280, 114, 2, 866, 869, 868, 56, 91) := by rfl
set_option maxRecDepth 100000 in
theorem ca_8_152 : caF 8 152 = some (8, 152, 78, 2, 870, 873, 871, 872, 91) := by rfl
set_option maxRecDepth 100000 in
theorem ca_8_156 : caF 8 156 = some (8, 156, 79, 2, 874, 877, 875, 876, 91) := by rfl
set_option maxRecDepth 100000 in
theorem ca_8_160 : caF 8 160 = some (8, 160, 80, 2, 878, 881, 879, 880, 91) := by rfl
set_option maxRecDepth 100000 in
theorem ca_6_292 : caF 6 292 = some (6, 292, 115, 2, 882, 885, 884, 57, 91) := by rfl
set_option maxRecDepth 100000 in
theorem ca_6_342 : caF 6 342 = some (6, 342, 44, 3, 886, 889, 888, 58, 92) := by rfl
set_option maxRecDepth 100000 in
theorem ca_8_164 : caF 8 164 = some (8, 164, 81, 2, 890, 893, 891, 892, 91) := by rfl
set_option maxRecDepth 100000 in
theorem ca_6_299 : caF 6 299 = some (6, 299, 31, 3, 896, 899, 898, 59, 93) := by rfl
set_option maxRecDepth 100000 in
theorem ca_8_17 : caF 8 17 = some (8, 17, 138, 2, 956, 959, 957, 958, 99) := by rfl
set_option maxRecDepth 100000 in
theorem ca_8_22 : caF 8 22 = some (8, 22, 141, 2, 960, 963, 961, 962, 99) := by rfl
set_option maxRecDepth 100000 in
theorem ca_7_39 : caF 7 39 = some (7, 39, 116, 0, 964, 966, 965, 0, 99) := by rfl
set_option maxRecDepth 100000 in
theorem ca_7_78 : caF 7 78 = some (7, 78, 118, 2, 967, 970, 969, 60, 99) := by rfl
set_option maxRecDepth 100000 in
theorem ca_7_82 : caF 7 82 = some (7, 82, 120, 2, 971, 974, 973, 61, 99) := by rfl
set_option maxRecDepth 100000 in
theorem ca_7_85 : caF 7 85 = some (7, 85, 139, 0, 975, 977, 976, 0, 99) := by rfl
set_option maxRecDepth 100000 in
theorem ca_8_27 : caF 8 27 = some (8, 27, 142, 2, 978, 981, 979, 980, 99) := by rfl
set_option maxRecDepth 100000 in
theorem ca_7_88 : caF 7 88 = some (7, 88, 140, 0, 982, 984, 983, 0, 99) := by rfl
set_option maxRecDepth 100000 in
theorem ca_8_31 : caF 8 31 = some (8, 31, 143, 2, 985, 988, 986, 987, 99) := by rfl
set_option maxRecDepth 100000 in
theorem ca_8_35 : caF 8 35 = some (8, 35, 144, 2, 989, 992, 990, 991, 99) := by rfl
set_option maxRecDepth 100000 in
theorem ca_8_39 : caF 8 39 = some (8, 39, 156, 2, 993, 996, 994, 995, 99) := by rfl
set_option maxRecDepth 100000 in
theorem ca_7_114 : caF 7 114 = some (7, 114, 147, 2, 997, 1000, 999, 62, 99) := by rfl
set_option maxRecDepth 100000 in
theorem ca_7_98 : caF 7 98 = some (7, 98, 145, 2, 1001, 1004, 1003, 63, 99) := by rfl
set_option maxRecDepth 100000 in
theorem ca_7_150 : caF 7 150 = some (7, 150, 155, 2, 1005, 1008, 1007, 64, 99) := by rfl
set_option maxRecDepth 100000 in
theorem ca_7_131 : caF 7 131 = some (7, 131, 146, 0, 1009, 1011, 1010, 0, 99) := by rfl
set_option maxRecDepth 100000 in
theorem ca_7_117 : caF 7 117 = some (7, 117, 149, 2, 1012, 1015, 1014, 65, 99) := by rfl
set_option maxRecDepth 100000 in
theorem ca_7_135 : caF 7 135 = some (7, 135, 150, 2, 1016, 1019, 1018, 66, 99) := by rfl
set_option maxRecDepth 100000 in
theorem ca_7_121 : caF 7 121 = some (7, 121, 148, 2, 1020, 1023, 1022, 67, 99) := by rfl
set_option maxRecDepth 100000 in
theorem ca_7_138 : caF 7 138 = some (7, 138, 151, 2, 1024, 1027, 1026, 68, 99) := by rfl
set_option maxRecDepth 100000 in
theorem ca_7_141 : caF 7 141 = some (7, 141, 152, 2, 1028, 1031, 1030, 69, 99) := by rfl
set_option maxRecDepth 100000 in
theorem ca_7_124 : caF 7 124 = some (7, 124, 132, 0, 1032, 1034, 1033, 0, 99) := by rfl
set_option maxRecDepth 100000 in
theorem ca_7_66 : caF 7 66 = some (7, 66, 130, 0, 1035, 1037, 1036, 0, 99) := by rfl
set_option maxRecDepth 100000 in
theorem ca_7_58 : caF 7 58 = some (7, 58, 129, 0, 1038, 1040, 1039, 0, 99) := by rfl
set_option maxRecDepth 100000 in
theorem ca_7_54 : caF 7 54 = some (7, 54, 126, 0, 1041, 1043, 1042, 0, 99) := by rfl
set_option maxRecDepth 100000 in
theorem ca_7_47 : caF 7 47 = some (7, 47, 125, 0, 1044, 1046, 1045, 0, 99) := by rfl
set_option maxRecDepth 100000 in
theorem ca_7_43 : caF 7 43 = some (7, 43, 124, 0, 1047, 1049, 1048, 0, 99) := by rfl
set_option maxRecDepth 100000 in
theorem ca_7_62 : caF 7 62 = some (7, 62, 128, 0, 1050, 1052, 1051, 0, 99) := by rfl
set_option maxRecDepth 100000 in
theorem ca_7_50 : caF 7 50 = some (7, 50, 127, 0, 1053, 1055, 1054, 0, 99) := by rfl
set_option maxRecDepth 100000 in
theorem ca_7_70 : caF 7 70 = some (7, 70, 131, 0, 1056, 1058, 1057, 0, 99) := by rfl
set_option maxRecDepth 100000 in
theorem ca_7_144 : caF 7 144 = some (7, 144, 153, 2, 1059, 1062, 1061, 70, 99) := by rfl
set_option maxRecDepth 100000 in
theorem ca_7_147 : caF 7 147 = some (7, 147, 154, 2, 1063, 1066, 1065, 71, 99) := by rfl
set_option maxRecDepth 100000 in
theorem ca_7_127 : caF 7 127 = some (7, 127, 133, 0, 1067, 1069, 1068, 0, 99) := by rfl
set_option maxRecDepth 100000 in
theorem ca_7_74 : caF 7 74 = some (7, 74, 136, 0, 1070, 1072, 1071, 0, 99) := by rfl
set_option maxRecDepth 100000 in
theorem ca_8_43 : caF 8 43 = some (8, 43, 158, 2, 1073, 1076, 1074, 1075, 99) := by rfl
set_option maxRecDepth 100000 in
theorem ca_7_153 : caF 7 153 = some (7, 153, 157, 2, 1077, 1080, 1079, 72, 99) := by rfl
set_option maxRecDepth 100000 in
theorem ca_7_156 : caF 7 156 = some (7, 156, 134, 0, 1081, 1083, 1082, 0, 99) := by rfl
set_option maxRecDepth 100000 in
theorem ca_8_47 : caF 8 47 = some (8, 47, 159, 2, 1084, 1087, 1085, 1086, 99) := by rfl
set_option maxRecDepth 100000 in
theorem ca_7_160 : caF 7 160 = some (7, 160, 122, 2, 1088, 1091, 1090, 73, 99) := by rfl
set_option maxRecDepth 100000 in
theorem ca_7_164 : caF 7 164 = some (7, 164, 123, 2, 1092, 1095, 1094, 74, 99) := by rfl
set_option maxRecDepth 100000 in
theorem ca_8_51 : caF 8 51 = some (8, 51, 160, 2, 1096, 1099, 1097, 1098, 99) := by rfl
set_option maxRecDepth 100000 in
theorem ca_7_167 : caF 7 167 = some (7, 167, 119, 2, 1100, 1103, 1102, 75, 99) := by rfl
set_option maxRecDepth 100000 in
theorem ca_8_55 : caF 8 55 = some (8, 55, 161, 2, 1104, 1107, 1105, 1106, 99) := by rfl
set_option maxRecDepth 100000 in
theorem ca_8_59 : caF 8 59 = some (8, 59, 162, 2, 1108, 1111, 1109, 1110, 99) := by rfl
set_option maxRecDepth 100000 in
theorem ca_8_63 : caF 8 63 = some (8, 63, 163, 2, 1112, 1115, 1113, 1114, 99) := by rfl
set_option maxRecDepth 100000 in
theorem ca_8_67 : caF 8 67 = some (8, 67, 164, 2, 1116, 1119, 1117, 1118, 99) := by rfl
set_option maxRecDepth 100000 in
theorem ca_8_71 : caF 8 71 = some (8, 71, 165, 2, 1120, 1123, 1121, 1122, 99) := by rfl
set_option maxRecDepth 100000 in
theorem ca_8_75 : caF 8 75 = some (8, 75, 166, 2, 1124, 1127, 1125, 1126, 99) := by rfl
set_option maxRecDepth 100000 in
theorem ca_8_79 : caF 8 79 = some (8, 79, 169, 2, 1128, 1131, 1129, 1130, 99) := by rfl
set_option maxRecDepth 100000 in
theorem ca_7_173 : caF 7 173 = some (7, 173, 121, 2, 1132, 1135, 1134, 76, 99) := by rfl
set_option maxRecDepth 100000 in
theorem ca_7_170 : caF 7 170 = some (7, 170, 167, 0, 1136, 1138, 1137, 0, 99) := by rfl
set_option maxRecDepth 100000 in
theorem ca_7_176 : caF 7 176 = some (7, 176, 137, 2, 1139, 1142, 1141, 77, 99) := by rfl
set_option maxRecDepth 100000 in
theorem ca_7_179 : caF 7 179 = some (7, 179, 168, 2, 1143, 1146, 1145, 78, 99) := by rfl
set_option maxRecDepth 100000 in
theorem ca_8_83 : caF 8 83 = some (8, 83, 172, 2, 1147, 1150, 1148, 1149, 99) := by rfl
set_option maxRecDepth 100000 in
theorem ca_7_185 : caF 7 185 = some (7, 185, 171, 2, 1151, 1154, 1153, 79, 99) := by rfl
set_option maxRecDepth 100000 in
theorem ca_7_182 : caF 7 182 = some (7, 182, 170, 2, 1155, 1158, 1157, 80, 99) := by rfl
set_option maxRecDepth 100000 in
theorem ca_7_189 : caF 7 189 = some (7, 189, 135, 0, 1159, 1161, 1160, 0, 99) := by rfl
set_option maxRecDepth 100000 in
theorem ca_8_87 : caF 8 87 = some (8, 87, 173, 2, 1162, 1165, 1163, 1164, 99) := by rfl
set_option maxRecDepth 100000 in
theorem ca_8_92 : caF 8 92 = some (8, 92, 174, 2, 1166, 1169, 1167, 1168, 99) := by rfl
set_option maxRecDepth 100000 in
theorem ca_8_96 : caF 8 96 = some (8, 96, 176, 2, 1170, 1173, 1171, 1172, 99) := by rfl
set_option maxRecDepth 100000 in
theorem ca_7_192 : caF 7 192 = some (7, 192, 175, 2, 1174, 1177, 1176, 81, 99) := by rfl
set_option maxRecDepth 100000 in
theorem ca_8_100 : caF 8 100 = some (8, 100, 179, 2, 1178, 1181, 1179, 1180, 99) := by rfl
set_option maxRecDepth 100000 in
theorem ca_7_199 : caF 7 199 = some (7, 199, 176, 2, 1182, 1173, 1171, 1172, 99) := by rfl
set_option maxRecDepth 100000 in
theorem ca_7_202 : caF 7 202 = some (7, 202, 178, 2, 1183, 1186, 1185, 82, 99) := by rfl
set_option maxRecDepth 100000 in
theorem ca_7_206 : caF 7 206 = some (7, 206, 177, 2, 1187, 1190, 1189, 83, 99) := by rfl
set_option maxRecDepth 100000 in
theorem ca_7_195 : caF 7 195 = some (7, 195, 117, 0, 1191, 1193, 1192, 0, 99) := by rfl
set_option maxRecDepth 100000 in
theorem ca_8_104 : caF 8 104 = some (8, 104, 180, 2, 1194, 1197, 1195, 1196, 99) := by rfl
set_option maxRecDepth 100000 in
theorem ca_8_109 : caF 8 109 = some (8, 109, 181, 2, 1198, 1201, 1199, 1200, 99) := by rfl
set_option maxRecDepth 100000 in
theorem ca_8_113 : caF 8 113 = some (8, 113, 182, 2, 1202, 1205, 1203, 1204, 99) := by rfl
set_option maxRecDepth 100000 in
theorem ca_8_117 : caF 8 117 = some (8, 117, 184, 2, 1206, 1209, 1207, 1208, 99) := by rfl
set_option maxRecDepth 100000 in
theorem ca_7_209 : caF 7 209 = some (7, 209, 183, 2, 1210, 1213, 1212, 84, 99) := by rfl
set_option maxRecDepth 100000 in
theorem ca_8_121 : caF 8 121 = some (8, 121, 185, 2, 1214, 1217, 1215, 1216, 99) := by rfl
set_option maxRecDepth 100000 in
theorem ca_8_125 : caF 8 125 = some (8, 125, 187, 2, 1218, 1221, 1219, 1220, 99) := by rfl
set_option maxRecDepth 100000 in
theorem ca_7_212 : caF 7 212 = some (7, 212, 186, 2, 1222, 1225, 1224, 85, 99) := by rfl
set_option maxRecDepth 100000 in
theorem ca_8_129 : caF 8 129 = some (8, 129, 188, 2, 1226, 1229, 1227, 1228, 99) := by rfl
set_option maxRecDepth 100000 in
theorem ca_8_133 : caF 8 133 = some (8, 133, 191, 2, 1230, 1233, 1231, 1232, 99) := by rfl
set_option maxRecDepth 100000 in
theorem ca_7_218 : caF 7 218 = some (7, 218, 190, 2, 1234, 1237, 1236, 86, 99) := by rfl
set_option maxRecDepth 100000 in
theorem ca_7_215 : caF 7 215 = some (7, 215, 189, 2, 1238, 1241, 1240, 87, 99) := by rfl
set_option maxRecDepth 100000 in
theorem ca_8_138 : caF 8 138 = some (8, 138, 193, 2, 1242, 1245, 1243, 1244, 99) := by rfl
set_option maxRecDepth 100000 in
theorem ca_7_223 : caF 7 223 = some (7, 223, 192, 0, 1247, 1249, 1248, 0, 99) := by rfl
set_option maxRecDepth 100000 in
theorem ca_8_142 : caF 8 142 = some (8, 142, 194, 2, 1250, 1253, 1251, 1252, 99) := by rfl
set_option maxRecDepth 100000 in
theorem ca_8_147 : caF 8 147 = some (8, 147, 195, 2, 1262, 1265, 1263, 1264, 99) := by rfl
set_option maxRecDepth 100000 in
theorem ca_8_151 : caF 8 151 = some (8, 151, 196, 2, 1266, 1269, 1267, 1268, 99) := by rfl
set_option maxRecDepth 100000 in
theorem ca_8_155 : caF 8 155 = some (8, 155, 197, 2, 1270, 1273, 1271, 1272, 99) := by rfl
set_option maxRecDepth 100000 in
theorem ca_8_159 : caF 8 159 = some (8, 159, 198, 2, 1274, 1277, 1275, 1276, 99) := by rfl
set_option maxRecDepth 100000 in
theorem ca_8_163 : caF 8 163 = some (8, 163, 200, 2, 1278, 1281, 1279, 1280, 99) := by rfl
set_option maxRecDepth 100000 in
theorem ca_7_245 : caF 7 245 = some (7, 245, 199, 2, 1282, 1285, 1284, 88, 99) := by rfl
set_option maxRecDepth 100000 in
theorem ca_8_168 : caF 8 168 = some (8, 168, 202, 2, 1286, 1289, 1287, 1288, 99) := by rfl
set_option maxRecDepth 100000 in
theorem ca_7_252 : caF 7 252 = some (7, 252, 201, 2, 1292, 1295, 1294, 89, 99) := by rfl
theorem ki_6_262 : kiF 6 262 = some (6, 262, 999999, 849) := by rfl
theorem kl_6_263 : klF 6 263 = some (6, 263, 1103515245, 850) := by rfl
theorem kl_6_265 : klF 6 265 = some (6, 265, 12345, 851) := by rfl
theorem kl_6_267 : klF 6 267 = some (6, 267, 2147483648, 852) := by rfl
theorem kl_6_269 : klF 6 269 = some (6, 269, 65536, 853) := by rfl
theorem kl_6_271 : klF 6 271 = some (6, 271, 7, 854) := by rfl
theorem kl_6_273 : klF 6 273 = some (6, 273, 1048576, 855) := by rfl
theorem kl_6_275 : klF 6 275 = some (6, 275, 5, 856) := by rfl
theorem kl_6_295 : klF 6 295 = some (6, 295, 1697, 894) := by rfl
theorem kl_6_297 : klF 6 297 = some (6, 297, 31, 895) := by rfl
theorem kl_4_43 : klF 4 43 = some (4, 43, 31, 900) := by rfl
theorem kl_7_221 : klF 7 221 = some (7, 221, 10, 1246) := by rfl
theorem ki_7_230 : kiF 7 230 = some (7, 230, 999999, 1254) := by rfl
theorem kl_7_231 : klF 7 231 = some (7, 231, 1103515245, 1255) := by rfl
theorem kl_7_233 : klF 7 233 = some (7, 233, 12345, 1256) := by rfl
theorem kl_7_235 : klF 7 235 = some (7, 235, 2147483648, 1257) := by rfl
theorem kl_7_237 : klF 7 237 = some (7, 237, 65536, 1258) := by rfl
theorem kl_7_239 : klF 7 239 = some (7, 239, 7, 1259) := by rfl
theorem kl_7_241 : klF 7 241 = some (7, 241, 1048576, 1260) := by rfl
theorem kl_7_243 : klF 7 243 = some (7, 243, 5, 1261) := by rfl
theorem kl_7_250 : klF 7 250 = some (7, 250, 1697, 1290) := by rfl
theorem kl_7_248 : klF 7 248 = some (7, 248, 31, 1291) := by rfl
theorem ks_25 : ksF 2 25 = some (25, 0, 427) := by rfl
theorem ks_45 : ksF 2 45 = some (45, 1, 488) := by rfl
theorem ks_50 : ksF 2 50 = some (50, 2, 499) := by rfl
theorem ks_55 : ksF 2 55 = some (55, 3, 505) := by rfl
theorem ks_60 : ksF 2 60 = some (60, 4, 533) := by rfl
theorem ks_65 : ksF 2 65 = some (65, 5, 539) := by rfl
theorem shC_0 : shC 0 = 6 := by decide +kernel
theorem shR_0_0 : shR 0 0 = 1 := by decide +kernel
theorem shR_0_1 : shR 0 1 = 15 := by decide +kernel
theorem shR_0_2 : shR 0 2 = 29 := by decide +kernel
theorem shR_0_3 : shR 0 3 = 58 := by decide +kernel
theorem shR_0_4 : shR 0 4 = 59 := by decide +kernel
theorem shR_0_5 : shR 0 5 = 61 := by decide +kernel
theorem shR_0_6 : shR 0 6 = 64 := by decide +kernel
theorem shR_0_7 : shR 0 7 = 70 := by decide +kernel
theorem shC_1 : shC 1 = 5 := by decide +kernel
theorem shR_1_3 : shR 1 3 = 2 := by decide +kernel
theorem shR_1_4 : shR 1 4 = 3 := by decide +kernel
theorem shR_1_5 : shR 1 5 = 4 := by decide +kernel
theorem shR_1_6 : shR 1 6 = 5 := by decide +kernel
theorem shR_1_7 : shR 1 7 = 6 := by decide +kernel
theorem shR_1_8 : shR 1 8 = 7 := by decide +kernel
theorem shR_1_9 : shR 1 9 = 9 := by decide +kernel
theorem shR_1_10 : shR 1 10 = 11 := by decide +kernel
theorem shR_1_11 : shR 1 11 = 13 := by decide +kernel
theorem shC_2 : shC 2 = 100 := by decide +kernel
theorem shL_2 : shL 2 = 7 := by decide +kernel
theorem shC_3 : shC 3 = 100 := by decide +kernel
theorem shL_3 : shL 3 = 7 := by decide +kernel
theorem shC_4 : shC 4 = 100 := by decide +kernel
theorem shL_4 : shL 4 = 7 := by decide +kernel
theorem shC_5 : shC 5 = 100 := by decide +kernel
theorem shL_5 : shL 5 = 5 := by decide +kernel
theorem shC_6 : shC 6 = 100 := by decide +kernel
theorem shL_6 : shL 6 = 5 := by decide +kernel
theorem shC_7 : shC 7 = 4 := by decide +kernel
theorem shR_7_2 : shR 7 2 = 8 := by decide +kernel
theorem shC_8 : shC 8 = 100 := by decide +kernel
theorem shL_8 : shL 8 = 25 := by decide +kernel
theorem shC_9 : shC 9 = 4 := by decide +kernel
theorem shR_9_2 : shR 9 2 = 10 := by decide +kernel
theorem shC_10 : shC 10 = 100 := by decide +kernel
theorem shL_10 : shL 10 = 30 := by decide +kernel
theorem shC_11 : shC 11 = 4 := by decide +kernel
theorem shR_11_2 : shR 11 2 = 12 := by decide +kernel
theorem shC_12 : shC 12 = 100 := by decide +kernel
theorem shL_12 : shL 12 = 24 := by decide +kernel
theorem shC_13 : shC 13 = 1 := by decide +kernel
theorem shR_13_0 : shR 13 0 = 14 := by decide +kernel
theorem shC_14 : shC 14 = 100 := by decide +kernel
theorem shL_14 : shL 14 = 104 := by decide +kernel
theorem shC_15 : shC 15 = 5 := by decide +kernel
theorem shR_15_3 : shR 15 3 = 16 := by decide +kernel
theorem shR_15_4 : shR 15 4 = 17 := by decide +kernel
theorem shR_15_5 : shR 15 5 = 18 := by decide +kernel
theorem shR_15_6 : shR 15 6 = 19 := by decide +kernel
theorem shR_15_7 : shR 15 7 = 20 := by decide +kernel
theorem shR_15_8 : shR 15 8 = 21 := by decide +kernel
theorem shR_15_9 : shR 15 9 = 23 := by decide +kernel
theorem shR_15_10 : shR 15 10 = 25 := by decide +kernel
theorem shR_15_11 : shR 15 11 = 27 := by decide +kernel
theorem shC_16 : shC 16 = 100 := by decide +kernel
theorem shL_16 : shL 16 = 7 := by decide +kernel
theorem shC_17 : shC 17 = 100 := by decide +kernel
theorem shL_17 : shL 17 = 7 := by decide +kernel
theorem shC_18 : shC 18 = 100 := by decide +kernel
theorem shL_18 : shL 18 = 7 := by decide +kernel
theorem shC_19 : shC 19 = 100 := by decide +kernel
theorem shL_19 : shL 19 = 5 := by decide +kernel
theorem shC_20 : shC 20 = 100 := by decide +kernel
theorem shL_20 : shL 20 = 5 := by decide +kernel
theorem shC_21 : shC 21 = 4 := by decide +kernel
theorem shR_21_2 : shR 21 2 = 22 := by decide +kernel
theorem shC_22 : shC 22 = 100 := by decide +kernel
theorem shL_22 : shL 22 = 25 := by decide +kernel
theorem shC_23 : shC 23 = 4 := by decide +kernel
theorem shR_23_2 : shR 23 2 = 24 := by decide +kernel
theorem shC_24 : shC 24 = 100 := by decide +kernel
theorem shL_24 : shL 24 = 30 := by decide +kernel
theorem shC_25 : shC 25 = 4 := by decide +kernel
theorem shR_25_2 : shR 25 2 = 26 := by decide +kernel
theorem shC_26 : shC 26 = 100 := by decide +kernel
theorem shL_26 : shL 26 = 24 := by decide +kernel
theorem shC_27 : shC 27 = 1 := by decide +kernel
theorem shR_27_0 : shR 27 0 = 28 := by decide +kernel
theorem shC_28 : shC 28 = 100 := by decide +kernel
theorem shL_28 : shL 28 = 104 := by decide +kernel
theorem shC_29 : shC 29 = 103 := by decide +kernel
theorem shL_29 : shL 29 = 2 := by decide +kernel
theorem shC_30 : shC 30 = 5 := by decide +kernel
theorem shR_30_3 : shR 30 3 = 31 := by decide +kernel
theorem shR_30_4 : shR 30 4 = 32 := by decide +kernel
theorem shR_30_5 : shR 30 5 = 33 := by decide +kernel
theorem shR_30_6 : shR 30 6 = 34 := by decide +kernel
theorem shR_30_7 : shR 30 7 = 35 := by decide +kernel
theorem shR_30_8 : shR 30 8 = 36 := by decide +kernel
theorem shR_30_9 : shR 30 9 = 38 := by decide +kernel
theorem shR_30_10 : shR 30 10 = 40 := by decide +kernel
theorem shR_30_11 : shR 30 11 = 42 := by decide +kernel
theorem shC_31 : shC 31 = 100 := by decide +kernel
theorem shL_31 : shL 31 = 7 := by decide +kernel
theorem shC_32 : shC 32 = 100 := by decide +kernel
theorem shL_32 : shL 32 = 7 := by decide +kernel
theorem shC_33 : shC 33 = 100 := by decide +kernel
theorem shL_33 : shL 33 = 7 := by decide +kernel
theorem shC_34 : shC 34 = 100 := by decide +kernel
theorem shL_34 : shL 34 = 5 := by decide +kernel
theorem shC_35 : shC 35 = 100 := by decide +kernel
theorem shL_35 : shL 35 = 5 := by decide +kernel
theorem shC_36 : shC 36 = 4 := by decide +kernel
theorem shR_36_2 : shR 36 2 = 37 := by decide +kernel
theorem shC_37 : shC 37 = 100 := by decide +kernel
theorem shL_37 : shL 37 = 25 := by decide +kernel
theorem shC_38 : shC 38 = 4 := by decide +kernel
theorem shR_38_2 : shR 38 2 = 39 := by decide +kernel
theorem shC_39 : shC 39 = 100 := by decide +kernel
theorem shL_39 : shL 39 = 30 := by decide +kernel
theorem shC_40 : shC 40 = 4 := by decide +kernel
theorem shR_40_2 : shR 40 2 = 41 := by decide +kernel
theorem shC_41 : shC 41 = 100 := by decide +kernel
theorem shL_41 : shL 41 = 24 := by decide +kernel
theorem shC_42 : shC 42 = 1 := by decide +kernel
theorem shR_42_0 : shR 42 0 = 43 := by decide +kernel
theorem shC_43 : shC 43 = 100 := by decide +kernel
theorem shL_43 : shL 43 = 104 := by decide +kernel
theorem shC_44 : shC 44 = 5 := by decide +kernel
theorem shR_44_3 : shR 44 3 = 45 := by decide +kernel
theorem shR_44_4 : shR 44 4 = 46 := by decide +kernel
theorem shR_44_5 : shR 44 5 = 47 := by decide +kernel
theorem shR_44_6 : shR 44 6 = 48 := by decide +kernel
theorem shR_44_7 : shR 44 7 = 49 := by decide +kernel
theorem shR_44_8 : shR 44 8 = 50 := by decide +kernel
theorem shR_44_9 : shR 44 9 = 52 := by decide +kernel
theorem shR_44_10 : shR 44 10 = 54 := by decide +kernel
theorem shR_44_11 : shR 44 11 = 56 := by decide +kernel
theorem shC_45 : shC 45 = 100 := by decide +kernel
theorem shL_45 : shL 45 = 7 := by decide +kernel
theorem shC_46 : shC 46 = 100 := by decide +kernel
theorem shL_46 : shL 46 = 7 := by decide +kernel
theorem shC_47 : shC 47 = 100 := by decide +kernel
theorem shL_47 : shL 47 = 7 := by decide +kernel
theorem shC_48 : shC 48 = 100 := by decide +kernel
theorem shL_48 : shL 48 = 5 := by decide +kernel
theorem shC_49 : shC 49 = 100 := by decide +kernel
theorem shL_49 : shL 49 = 5 := by decide +kernel
theorem shC_50 : shC 50 = 4 := by decide +kernel
theorem shR_50_2 : shR 50 2 = 51 := by decide +kernel
theorem shC_51 : shC 51 = 100 := by decide +kernel
theorem shL_51 : shL 51 = 25 := by decide +kernel
theorem shC_52 : shC 52 = 4 := by decide +kernel
theorem shR_52_2 : shR 52 2 = 53 := by decide +kernel
theorem shC_53 : shC 53 = 100 := by decide +kernel
theorem shL_53 : shL 53 = 30 := by decide +kernel
theorem shC_54 : shC 54 = 4 := by decide +kernel
theorem shR_54_2 : shR 54 2 = 55 := by decide +kernel
theorem shC_55 : shC 55 = 100 := by decide +kernel
theorem shL_55 : shL 55 = 24 := by decide +kernel
theorem shC_56 : shC 56 = 1 := by decide +kernel
theorem shR_56_0 : shR 56 0 = 57 := by decide +kernel
theorem shC_57 : shC 57 = 100 := by decide +kernel
theorem shL_57 : shL 57 = 104 := by decide +kernel
theorem shC_58 : shC 58 = 101 := by decide +kernel
theorem shL_58 : shL 58 = 2 := by decide +kernel
theorem shC_59 : shC 59 = 2 := by decide +kernel
theorem shR_59_0 : shR 59 0 = 60 := by decide +kernel
theorem shC_60 : shC 60 = 102 := by decide +kernel
theorem shL_60 : shL 60 = 150 := by decide +kernel
theorem shC_61 : shC 61 = 0 := by decide +kernel
theorem shR_61_0 : shR 61 0 = 1 := by decide +kernel
theorem shR_61_1 : shR 61 1 = 62 := by decide +kernel
theorem shR_61_2 : shR 61 2 = 63 := by decide +kernel
theorem shC_62 : shC 62 = 100 := by decide +kernel
theorem shL_62 : shL 62 = 5 := by decide +kernel
theorem shC_63 : shC 63 = 100 := by decide +kernel
theorem shL_63 : shL 63 = 7 := by decide +kernel
theorem shC_64 : shC 64 = 3 := by decide +kernel
theorem shR_64_0 : shR 64 0 = 1 := by decide +kernel
theorem shR_64_1 : shR 64 1 = 65 := by decide +kernel
theorem shR_64_2 : shR 64 2 = 66 := by decide +kernel
theorem shR_64_3 : shR 64 3 = 67 := by decide +kernel
theorem shR_64_4 : shR 64 4 = 68 := by decide +kernel
theorem shR_64_5 : shR 64 5 = 69 := by decide +kernel
theorem shC_65 : shC 65 = 100 := by decide +kernel
theorem shL_65 : shL 65 = 5 := by decide +kernel
theorem shC_66 : shC 66 = 100 := by decide +kernel
theorem shL_66 : shL 66 = 5 := by decide +kernel
theorem shC_67 : shC 67 = 100 := by decide +kernel
theorem shL_67 : shL 67 = 7 := by decide +kernel
theorem shC_68 : shC 68 = 100 := by decide +kernel
theorem shL_68 : shL 68 = 6 := by decide +kernel
theorem shC_69 : shC 69 = 100 := by decide +kernel
theorem shL_69 : shL 69 = 6 := by decide +kernel
theorem shC_70 : shC 70 = 100 := by decide +kernel
theorem shL_70 : shL 70 = 7 := by decide +kernel
theorem shC_71 : shC 71 = 7 := by decide +kernel
theorem shR_71_0 : shR 71 0 = 72 := by decide +kernel
theorem shR_71_1 : shR 71 1 = 73 := by decide +kernel
theorem shR_71_2 : shR 71 2 = 74 := by decide +kernel
theorem shR_71_3 : shR 71 3 = 75 := by decide +kernel
theorem shR_71_4 : shR 71 4 = 76 := by decide +kernel
theorem shR_71_5 : shR 71 5 = 77 := by decide +kernel
theorem shR_71_8 : shR 71 8 = 78 := by decide +kernel
theorem shR_71_15 : shR 71 15 = 79 := by decide +kernel
theorem shC_72 : shC 72 = 100 := by decide +kernel
theorem shL_72 : shL 72 = 221 := by decide +kernel
theorem shC_73 : shC 73 = 100 := by decide +kernel
theorem shL_73 : shL 73 = 221 := by decide +kernel
theorem shC_74 : shC 74 = 100 := by decide +kernel
theorem shL_74 : shL 74 = 221 := by decide +kernel
theorem shC_75 : shC 75 = 100 := by decide +kernel
theorem shL_75 : shL 75 = 442 := by decide +kernel
theorem shC_76 : shC 76 = 101 := by decide +kernel
theorem shL_76 : shL 76 = 2 := by decide +kernel
theorem shC_77 : shC 77 = 100 := by decide +kernel
theorem shL_77 : shL 77 = 3 := by decide +kernel
theorem shC_78 : shC 78 = 100 := by decide +kernel
theorem shL_78 : shL 78 = 150 := by decide +kernel
theorem shC_79 : shC 79 = 100 := by decide +kernel
theorem shL_79 : shL 79 = 7 := by decide +kernel
theorem sr_0_0 {kd : Nat} {as rest : List AV} (h1 : (decide (2 ≤ kd) && decide (as.length + 1 = 2)) = true) (h2 : decide (stw rest ≤ 8) = true) : (decide (2 ≤ kd) && decide (mna 0 = 2) && decide (as.length + 1 = 2) && decide (stw rest ≤ 8) && decide (mow 0 = 0) && decide (0 < 8)) = true := by rw [show mna 0 = 2 by decide +kernel, show mow 0 = 0 by decide +kernel, h2]; simpa using h1
theorem ss_1_4 {kd : Nat} {args rest : List AV} (h1 : (decide (kd < 2) && decide (args.length = 4)) = true) (h2 : decide (stw rest ≤ 8) = true) : (decide (kd < 2) && decide (mna 1 = 4) && decide (args.length = 4) && decide (stw rest ≤ 8)) = true := by rw [show mna 1 = 4 by decide +kernel, h2, Bool.and_true]; simpa using h1
theorem sr_2_1 {kd : Nat} {as rest : List AV} (h1 : (decide (2 ≤ kd) && decide (as.length + 1 = 1)) = true) (h2 : decide (stw rest ≤ 8) = true) : (decide (2 ≤ kd) && decide (mna 2 = 1) && decide (as.length + 1 = 1) && decide (stw rest ≤ 8) && decide (mow 2 = 1) && decide (1 < 8)) = true := by rw [show mna 2 = 1 by decide +kernel, show mow 2 = 1 by decide +kernel, h2]; simpa using h1
theorem sr_3_1 {kd : Nat} {as rest : List AV} (h1 : (decide (2 ≤ kd) && decide (as.length + 1 = 2)) = true) (h2 : decide (stw rest ≤ 8) = true) : (decide (2 ≤ kd) && decide (mna 3 = 2) && decide (as.length + 1 = 2) && decide (stw rest ≤ 8) && decide (mow 3 = 1) && decide (1 < 8)) = true := by rw [show mna 3 = 2 by decide +kernel, show mow 3 = 1 by decide +kernel, h2]; simpa using h1
theorem sr_4_1 {kd : Nat} {as rest : List AV} (h1 : (decide (2 ≤ kd) && decide (as.length + 1 = 2)) = true) (h2 : decide (stw rest ≤ 8) = true) : (decide (2 ≤ kd) && decide (mna 4 = 2) && decide (as.length + 1 = 2) && decide (stw rest ≤ 8) && decide (mow 4 = 1) && decide (1 < 8)) = true := by rw [show mna 4 = 2 by decide +kernel, show mow 4 = 1 by decide +kernel, h2]; simpa using h1
theorem sr_5_1 {kd : Nat} {as rest : List AV} (h1 : (decide (2 ≤ kd) && decide (as.length + 1 = 1)) = true) (h2 : decide (stw rest ≤ 8) = true) : (decide (2 ≤ kd) && decide (mna 5 = 1) && decide (as.length + 1 = 1) && decide (stw rest ≤ 8) && decide (mow 5 = 1) && decide (1 < 8)) = true := by rw [show mna 5 = 1 by decide +kernel, show mow 5 = 1 by decide +kernel, h2]; simpa using h1
theorem sr_6_1 {kd : Nat} {as rest : List AV} (h1 : (decide (2 ≤ kd) && decide (as.length + 1 = 2)) = true) (h2 : decide (stw rest ≤ 8) = true) : (decide (2 ≤ kd) && decide (mna 6 = 2) && decide (as.length + 1 = 2) && decide (stw rest ≤ 8) && decide (mow 6 = 1) && decide (1 < 8)) = true := by rw [show mna 6 = 2 by decide +kernel, show mow 6 = 1 by decide +kernel, h2]; simpa using h1
theorem sr_7_2 {kd : Nat} {as rest : List AV} (h1 : (decide (2 ≤ kd) && decide (as.length + 1 = 2)) = true) (h2 : decide (stw rest ≤ 8) = true) : (decide (2 ≤ kd) && decide (mna 7 = 2) && decide (as.length + 1 = 2) && decide (stw rest ≤ 8) && decide (mow 7 = 2) && decide (2 < 8)) = true := by rw [show mna 7 = 2 by decide +kernel, show mow 7 = 2 by decide +kernel, h2]; simpa using h1
theorem sr_8_2 {kd : Nat} {as rest : List AV} (h1 : (decide (2 ≤ kd) && decide (as.length + 1 = 2)) = true) (h2 : decide (stw rest ≤ 8) = true) : (decide (2 ≤ kd) && decide (mna 8 = 2) && decide (as.length + 1 = 2) && decide (stw rest ≤ 8) && decide (mow 8 = 2) && decide (2 < 8)) = true := by rw [show mna 8 = 2 by decide +kernel, show mow 8 = 2 by decide +kernel, h2]; simpa using h1
theorem sr_9_2 {kd : Nat} {as rest : List AV} (h1 : (decide (2 ≤ kd) && decide (as.length + 1 = 1)) = true) (h2 : decide (stw rest ≤ 8) = true) : (decide (2 ≤ kd) && decide (mna 9 = 1) && decide (as.length + 1 = 1) && decide (stw rest ≤ 8) && decide (mow 9 = 2) && decide (2 < 8)) = true := by rw [show mna 9 = 1 by decide +kernel, show mow 9 = 2 by decide +kernel, h2]; simpa using h1
theorem sr_10_2 {kd : Nat} {as rest : List AV} (h1 : (decide (2 ≤ kd) && decide (as.length + 1 = 2)) = true) (h2 : decide (stw rest ≤ 8) = true) : (decide (2 ≤ kd) && decide (mna 10 = 2) && decide (as.length + 1 = 2) && decide (stw rest ≤ 8) && decide (mow 10 = 2) && decide (2 < 8)) = true := by rw [show mna 10 = 2 by decide +kernel, show mow 10 = 2 by decide +kernel, h2]; simpa using h1
theorem sr_11_2 {kd : Nat} {as rest : List AV} (h1 : (decide (2 ≤ kd) && decide (as.length + 1 = 2)) = true) (h2 : decide (stw rest ≤ 8) = true) : (decide (2 ≤ kd) && decide (mna 11 = 2) && decide (as.length + 1 = 2) && decide (stw rest ≤ 8) && decide (mow 11 = 2) && decide (2 < 8)) = true := by rw [show mna 11 = 2 by decide +kernel, show mow 11 = 2 by decide +kernel, h2]; simpa using h1
theorem sr_12_2 {kd : Nat} {as rest : List AV} (h1 : (decide (2 ≤ kd) && decide (as.length + 1 = 2)) = true) (h2 : decide (stw rest ≤ 8) = true) : (decide (2 ≤ kd) && decide (mna 12 = 2) && decide (as.length + 1 = 2) && decide (stw rest ≤ 8) && decide (mow 12 = 2) && decide (2 < 8)) = true := by rw [show mna 12 = 2 by decide +kernel, show mow 12 = 2 by decide +kernel, h2]; simpa using h1
theorem sr_13_2 {kd : Nat} {as rest : List AV} (h1 : (decide (2 ≤ kd) && decide (as.length + 1 = 2)) = true) (h2 : decide (stw rest ≤ 8) = true) : (decide (2 ≤ kd) && decide (mna 13 = 2) && decide (as.length + 1 = 2) && decide (stw rest ≤ 8) && decide (mow 13 = 2) && decide (2 < 8)) = true := by rw [show mna 13 = 2 by decide +kernel, show mow 13 = 2 by decide +kernel, h2]; simpa using h1
theorem sr_14_2 {kd : Nat} {as rest : List AV} (h1 : (decide (2 ≤ kd) && decide (as.length + 1 = 2)) = true) (h2 : decide (stw rest ≤ 8) = true) : (decide (2 ≤ kd) && decide (mna 14 = 2) && decide (as.length + 1 = 2) && decide (stw rest ≤ 8) && decide (mow 14 = 2) && decide (2 < 8)) = true := by rw [show mna 14 = 2 by decide +kernel, show mow 14 = 2 by decide +kernel, h2]; simpa using h1
theorem sr_15_2 {kd : Nat} {as rest : List AV} (h1 : (decide (2 ≤ kd) && decide (as.length + 1 = 2)) = true) (h2 : decide (stw rest ≤ 8) = true) : (decide (2 ≤ kd) && decide (mna 15 = 2) && decide (as.length + 1 = 2) && decide (stw rest ≤ 8) && decide (mow 15 = 2) && decide (2 < 8)) = true := by rw [show mna 15 = 2 by decide +kernel, show mow 15 = 2 by decide +kernel, h2]; simpa using h1
theorem sr_16_2 {kd : Nat} {as rest : List AV} (h1 : (decide (2 ≤ kd) && decide (as.length + 1 = 3)) = true) (h2 : decide (stw rest ≤ 8) = true) : (decide (2 ≤ kd) && decide (mna 16 = 3) && decide (as.length + 1 = 3) && decide (stw rest ≤ 8) && decide (mow 16 = 2) && decide (2 < 8)) = true := by rw [show mna 16 = 3 by decide +kernel, show mow 16 = 2 by decide +kernel, h2]; simpa using h1
theorem sr_17_2 {kd : Nat} {as rest : List AV} (h1 : (decide (2 ≤ kd) && decide (as.length + 1 = 1)) = true) (h2 : decide (stw rest ≤ 8) = true) : (decide (2 ≤ kd) && decide (mna 17 = 1) && decide (as.length + 1 = 1) && decide (stw rest ≤ 8) && decide (mow 17 = 2) && decide (2 < 8)) = true := by rw [show mna 17 = 1 by decide +kernel, show mow 17 = 2 by decide +kernel, h2]; simpa using h1
theorem sr_18_2 {kd : Nat} {as rest : List AV} (h1 : (decide (2 ≤ kd) && decide (as.length + 1 = 2)) = true) (h2 : decide (stw rest ≤ 8) = true) : (decide (2 ≤ kd) && decide (mna 18 = 2) && decide (as.length + 1 = 2) && decide (stw rest ≤ 8) && decide (mow 18 = 2) && decide (2 < 8)) = true := by rw [show mna 18 = 2 by decide +kernel, show mow 18 = 2 by decide +kernel, h2]; simpa using h1
theorem ss_19_1 {kd : Nat} {args rest : List AV} (h1 : (decide (kd < 2) && decide (args.length = 1)) = true) (h2 : decide (stw rest ≤ 8) = true) : (decide (kd < 2) && decide (mna 19 = 1) && decide (args.length = 1) && decide (stw rest ≤ 8)) = true := by rw [show mna 19 = 1 by decide +kernel, h2, Bool.and_true]; simpa using h1
theorem ss_20_1 {kd : Nat} {args rest : List AV} (h1 : (decide (kd < 2) && decide (args.length = 1)) = true) (h2 : decide (stw rest ≤ 8) = true) : (decide (kd < 2) && decide (mna 20 = 1) && decide (args.length = 1) && decide (stw rest ≤ 8)) = true := by rw [show mna 20 = 1 by decide +kernel, h2, Bool.and_true]; simpa using h1
theorem sr_21_2 {kd : Nat} {as rest : List AV} (h1 : (decide (2 ≤ kd) && decide (as.length + 1 = 2)) = true) (h2 : decide (stw rest ≤ 8) = true) : (decide (2 ≤ kd) && decide (mna 21 = 2) && decide (as.length + 1 = 2) && decide (stw rest ≤ 8) && decide (mow 21 = 2) && decide (2 < 8)) = true := by rw [show mna 21 = 2 by decide +kernel, show mow 21 = 2 by decide +kernel, h2]; simpa using h1
theorem sr_22_3 {kd : Nat} {as rest : List AV} (h1 : (decide (2 ≤ kd) && decide (as.length + 1 = 1)) = true) (h2 : decide (stw rest ≤ 8) = true) : (decide (2 ≤ kd) && decide (mna 22 = 1) && decide (as.length + 1 = 1) && decide (stw rest ≤ 8) && decide (mow 22 = 3) && decide (3 < 8)) = true := by rw [show mna 22 = 1 by decide +kernel, show mow 22 = 3 by decide +kernel, h2]; simpa using h1
theorem sr_23_3 {kd : Nat} {as rest : List AV} (h1 : (decide (2 ≤ kd) && decide (as.length + 1 = 1)) = true) (h2 : decide (stw rest ≤ 8) = true) : (decide (2 ≤ kd) && decide (mna 23 = 1) && decide (as.length + 1 = 1) && decide (stw rest ≤ 8) && decide (mow 23 = 3) && decide (3 < 8)) = true := by rw [show mna 23 = 1 by decide +kernel, show mow 23 = 3 by decide +kernel, h2]; simpa using h1
theorem sr_24_3 {kd : Nat} {as rest : List AV} (h1 : (decide (2 ≤ kd) && decide (as.length + 1 = 4)) = true) (h2 : decide (stw rest ≤ 8) = true) : (decide (2 ≤ kd) && decide (mna 24 = 4) && decide (as.length + 1 = 4) && decide (stw rest ≤ 8) && decide (mow 24 = 3) && decide (3 < 8)) = true := by rw [show mna 24 = 4 by decide +kernel, show mow 24 = 3 by decide +kernel, h2]; simpa using h1
theorem ss_25_4 {kd : Nat} {args rest : List AV} (h1 : (decide (kd < 2) && decide (args.length = 4)) = true) (h2 : decide (stw rest ≤ 8) = true) : (decide (kd < 2) && decide (mna 25 = 4) && decide (args.length = 4) && decide (stw rest ≤ 8)) = true := by rw [show mna 25 = 4 by decide +kernel, h2, Bool.and_true]; simpa using h1
theorem sr_26_4 {kd : Nat} {as rest : List AV} (h1 : (decide (2 ≤ kd) && decide (as.length + 1 = 1)) = true) (h2 : decide (stw rest ≤ 8) = true) : (decide (2 ≤ kd) && decide (mna 26 = 1) && decide (as.length + 1 = 1) && decide (stw rest ≤ 8) && decide (mow 26 = 4) && decide (4 < 8)) = true := by rw [show mna 26 = 1 by decide +kernel, show mow 26 = 4 by decide +kernel, h2]; simpa using h1
theorem sr_27_4 {kd : Nat} {as rest : List AV} (h1 : (decide (2 ≤ kd) && decide (as.length + 1 = 6)) = true) (h2 : decide (stw rest ≤ 8) = true) : (decide (2 ≤ kd) && decide (mna 27 = 6) && decide (as.length + 1 = 6) && decide (stw rest ≤ 8) && decide (mow 27 = 4) && decide (4 < 8)) = true := by rw [show mna 27 = 6 by decide +kernel, show mow 27 = 4 by decide +kernel, h2]; simpa using h1
theorem sr_28_4 {kd : Nat} {as rest : List AV} (h1 : (decide (2 ≤ kd) && decide (as.length + 1 = 3)) = true) (h2 : decide (stw rest ≤ 8) = true) : (decide (2 ≤ kd) && decide (mna 28 = 3) && decide (as.length + 1 = 3) && decide (stw rest ≤ 8) && decide (mow 28 = 4) && decide (4 < 8)) = true := by rw [show mna 28 = 3 by decide +kernel, show mow 28 = 4 by decide +kernel, h2]; simpa using h1
theorem sr_29_4 {kd : Nat} {as rest : List AV} (h1 : (decide (2 ≤ kd) && decide (as.length + 1 = 1)) = true) (h2 : decide (stw rest ≤ 8) = true) : (decide (2 ≤ kd) && decide (mna 29 = 1) && decide (as.length + 1 = 1) && decide (stw rest ≤ 8) && decide (mow 29 = 4) && decide (4 < 8)) = true := by rw [show mna 29 = 1 by decide +kernel, show mow 29 = 4 by decide +kernel, h2]; simpa using h1
theorem sr_30_4 {kd : Nat} {as rest : List AV} (h1 : (decide (2 ≤ kd) && decide (as.length + 1 = 2)) = true) (h2 : decide (stw rest ≤ 8) = true) : (decide (2 ≤ kd) && decide (mna 30 = 2) && decide (as.length + 1 = 2) && decide (stw rest ≤ 8) && decide (mow 30 = 4) && decide (4 < 8)) = true := by rw [show mna 30 = 2 by decide +kernel, show mow 30 = 4 by decide +kernel, h2]; simpa using h1
theorem sr_31_4 {kd : Nat} {as rest : List AV} (h1 : (decide (2 ≤ kd) && decide (as.length + 1 = 2)) = true) (h2 : decide (stw rest ≤ 8) = true) : (decide (2 ≤ kd) && decide (mna 31 = 2) && decide (as.length + 1 = 2) && decide (stw rest ≤ 8) && decide (mow 31 = 4) && decide (4 < 8)) = true := by rw [show mna 31 = 2 by decide +kernel, show mow 31 = 4 by decide +kernel, h2]; simpa using h1
theorem sr_32_5 {kd : Nat} {as rest : List AV} (h1 : (decide (2 ≤ kd) && decide (as.length + 1 = 1)) = true) (h2 : decide (stw rest ≤ 8) = true) : (decide (2 ≤ kd) && decide (mna 32 = 1) && decide (as.length + 1 = 1) && decide (stw rest ≤ 8) && decide (mow 32 = 5) && decide (5 < 8)) = true := by rw [show mna 32 = 1 by decide +kernel, show mow 32 = 5 by decide +kernel, h2]; simpa using h1
theorem sr_33_5 {kd : Nat} {as rest : List AV} (h1 : (decide (2 ≤ kd) && decide (as.length + 1 = 2)) = true) (h2 : decide (stw rest ≤ 8) = true) : (decide (2 ≤ kd) && decide (mna 33 = 2) && decide (as.length + 1 = 2) && decide (stw rest ≤ 8) && decide (mow 33 = 5) && decide (5 < 8)) = true := by rw [show mna 33 = 2 by decide +kernel, show mow 33 = 5 by decide +kernel, h2]; simpa using h1
theorem sr_34_5 {kd : Nat} {as rest : List AV} (h1 : (decide (2 ≤ kd) && decide (as.length + 1 = 2)) = true) (h2 : decide (stw rest ≤ 8) = true) : (decide (2 ≤ kd) && decide (mna 34 = 2) && decide (as.length + 1 = 2) && decide (stw rest ≤ 8) && decide (mow 34 = 5) && decide (5 < 8)) = true := by rw [show mna 34 = 2 by decide +kernel, show mow 34 = 5 by decide +kernel, h2]; simpa using h1
theorem sr_35_5 {kd : Nat} {as rest : List AV} (h1 : (decide (2 ≤ kd) && decide (as.length + 1 = 2)) = true) (h2 : decide (stw rest ≤ 8) = true) : (decide (2 ≤ kd) && decide (mna 35 = 2) && decide (as.length + 1 = 2) && decide (stw rest ≤ 8) && decide (mow 35 = 5) && decide (5 < 8)) = true := by rw [show mna 35 = 2 by decide +kernel, show mow 35 = 5 by decide +kernel, h2]; simpa using h1
theorem sr_36_5 {kd : Nat} {as rest : List AV} (h1 : (decide (2 ≤ kd) && decide (as.length + 1 = 3)) = true) (h2 : decide (stw rest ≤ 8) = true) : (decide (2 ≤ kd) && decide (mna 36 = 3) && decide (as.length + 1 = 3) && decide (stw rest ≤ 8) && decide (mow 36 = 5) && decide (5 < 8)) = true := by rw [show mna 36 = 3 by decide +kernel, show mow 36 = 5 by decide +kernel, h2]; simpa using h1
theorem sr_37_5 {kd : Nat} {as rest : List AV} (h1 : (decide (2 ≤ kd) && decide (as.length + 1 = 2)) = true) (h2 : decide (stw rest ≤ 8) = true) : (decide (2 ≤ kd) && decide (mna 37 = 2) && decide (as.length + 1 = 2) && decide (stw rest ≤ 8) && decide (mow 37 = 5) && decide (5 < 8)) = true := by rw [show mna 37 = 2 by decide +kernel, show mow 37 = 5 by decide +kernel, h2]; simpa using h1
theorem sr_38_5 {kd : Nat} {as rest : List AV} (h1 : (decide (2 ≤ kd) && decide (as.length + 1 = 3)) = true) (h2 : decide (stw rest ≤ 8) = true) : (decide (2 ≤ kd) && decide (mna 38 = 3) && decide (as.length + 1 = 3) && decide (stw rest ≤ 8) && decide (mow 38 = 5) && decide (5 < 8)) = true := by rw [show mna 38 = 3 by decide +kernel, show mow 38 = 5 by decide +kernel, h2]; simpa using h1
theorem sr_39_5 {kd : Nat} {as rest : List AV} (h1 : (decide (2 ≤ kd) && decide (as.length + 1 = 3)) = true) (h2 : decide (stw rest ≤ 8) = true) : (decide (2 ≤ kd) && decide (mna 39 = 3) && decide (as.length + 1 = 3) && decide (stw rest ≤ 8) && decide (mow 39 = 5) && decide (5 < 8)) = true := by rw [show mna 39 = 3 by decide +kernel, show mow 39 = 5 by decide +kernel, h2]; simpa using h1
theorem sr_40_5 {kd : Nat} {as rest : List AV} (h1 : (decide (2 ≤ kd) && decide (as.length + 1 = 3)) = true) (h2 : decide (stw rest ≤ 8) = true) : (decide (2 ≤ kd) && decide (mna 40 = 3) && decide (as.length + 1 = 3) && decide (stw rest ≤ 8) && decide (mow 40 = 5) && decide (5 < 8)) = true := by rw [show mna 40 = 3 by decide +kernel, show mow 40 = 5 by decide +kernel, h2]; simpa using h1
theorem sr_41_5 {kd : Nat} {as rest : List AV} (h1 : (decide (2 ≤ kd) && decide (as.length + 1 = 1)) = true) (h2 : decide (stw rest ≤ 8) = true) : (decide (2 ≤ kd) && decide (mna 41 = 1) && decide (as.length + 1 = 1) && decide (stw rest ≤ 8) && decide (mow 41 = 5) && decide (5 < 8)) = true := by rw [show mna 41 = 1 by decide +kernel, show mow 41 = 5 by decide +kernel, h2]; simpa using h1
theorem sr_42_5 {kd : Nat} {as rest : List AV} (h1 : (decide (2 ≤ kd) && decide (as.length + 1 = 2)) = true) (h2 : decide (stw rest ≤ 8) = true) : (decide (2 ≤ kd) && decide (mna 42 = 2) && decide (as.length + 1 = 2) && decide (stw rest ≤ 8) && decide (mow 42 = 5) && decide (5 < 8)) = true := by rw [show mna 42 = 2 by decide +kernel, show mow 42 = 5 by decide +kernel, h2]; simpa using h1
theorem sr_43_5 {kd : Nat} {as rest : List AV} (h1 : (decide (2 ≤ kd) && decide (as.length + 1 = 1)) = true) (h2 : decide (stw rest ≤ 8) = true) : (decide (2 ≤ kd) && decide (mna 43 = 1) && decide (as.length + 1 = 1) && decide (stw rest ≤ 8) && decide (mow 43 = 5) && decide (5 < 8)) = true := by rw [show mna 43 = 1 by decide +kernel, show mow 43 = 5 by decide +kernel, h2]; simpa using h1
theorem sr_44_5 {kd : Nat} {as rest : List AV} (h1 : (decide (2 ≤ kd) && decide (as.length + 1 = 1)) = true) (h2 : decide (stw rest ≤ 8) = true) : (decide (2 ≤ kd) && decide (mna 44 = 1) && decide (as.length + 1 = 1) && decide (stw rest ≤ 8) && decide (mow 44 = 5) && decide (5 < 8)) = true := by rw [show mna 44 = 1 by decide +kernel, show mow 44 = 5 by decide +kernel, h2]; simpa using h1
theorem sr_45_6 {kd : Nat} {as rest : List AV} (h1 : (decide (2 ≤ kd) && decide (as.length + 1 = 1)) = true) (h2 : decide (stw rest ≤ 8) = true) : (decide (2 ≤ kd) && decide (mna 45 = 1) && decide (as.length + 1 = 1) && decide (stw rest ≤ 8) && decide (mow 45 = 6) && decide (6 < 8)) = true := by rw [show mna 45 = 1 by decide +kernel, show mow 45 = 6 by decide +kernel, h2]; simpa using h1
theorem sr_46_6 {kd : Nat} {as rest : List AV} (h1 : (decide (2 ≤ kd) && decide (as.length + 1 = 3)) = true) (h2 : decide (stw rest ≤ 8) = true) : (decide (2 ≤ kd) && decide (mna 46 = 3) && decide (as.length + 1 = 3) && decide (stw rest ≤ 8) && decide (mow 46 = 6) && decide (6 < 8)) = true := by rw [show mna 46 = 3 by decide +kernel, show mow 46 = 6 by decide +kernel, h2]; simpa using h1
theorem sr_47_6 {kd : Nat} {as rest : List AV} (h1 : (decide (2 ≤ kd) && decide (as.length + 1 = 2)) = true) (h2 : decide (stw rest ≤ 8) = true) : (decide (2 ≤ kd) && decide (mna 47 = 2) && decide (as.length + 1 = 2) && decide (stw rest ≤ 8) && decide (mow 47 = 6) && decide (6 < 8)) = true := by rw [show mna 47 = 2 by decide +kernel, show mow 47 = 6 by decide +kernel, h2]; simpa using h1
theorem sr_48_6 {kd : Nat} {as rest : List AV} (h1 : (decide (2 ≤ kd) && decide (as.length + 1 = 2)) = true) (h2 : decide (stw rest ≤ 8) = true) : (decide (2 ≤ kd) && decide (mna 48 = 2) && decide (as.length + 1 = 2) && decide (stw rest ≤ 8) && decide (mow 48 = 6) && decide (6 < 8)) = true := by rw [show mna 48 = 2 by decide +kernel, show mow 48 = 6 by decide +kernel, h2]; simpa using h1
theorem sr_49_6 {kd : Nat} {as rest : List AV} (h1 : (decide (2 ≤ kd) && decide (as.length + 1 = 1)) = true) (h2 : decide (stw rest ≤ 8) = true) : (decide (2 ≤ kd) && decide (mna 49 = 1) && decide (as.length + 1 = 1) && decide (stw rest ≤ 8) && decide (mow 49 = 6) && decide (6 < 8)) = true := by rw [show mna 49 = 1 by decide +kernel, show mow 49 = 6 by decide +kernel, h2]; simpa using h1
theorem sr_50_6 {kd : Nat} {as rest : List AV} (h1 : (decide (2 ≤ kd) && decide (as.length + 1 = 1)) = true) (h2 : decide (stw rest ≤ 8) = true) : (decide (2 ≤ kd) && decide (mna 50 = 1) && decide (as.length + 1 = 1) && decide (stw rest ≤ 8) && decide (mow 50 = 6) && decide (6 < 8)) = true := by rw [show mna 50 = 1 by decide +kernel, show mow 50 = 6 by decide +kernel, h2]; simpa using h1
theorem sr_51_6 {kd : Nat} {as rest : List AV} (h1 : (decide (2 ≤ kd) && decide (as.length + 1 = 2)) = true) (h2 : decide (stw rest ≤ 8) = true) : (decide (2 ≤ kd) && decide (mna 51 = 2) && decide (as.length + 1 = 2) && decide (stw rest ≤ 8) && decide (mow 51 = 6) && decide (6 < 8)) = true := by rw [show mna 51 = 2 by decide +kernel, show mow 51 = 6 by decide +kernel, h2]; simpa using h1
theorem sr_52_6 {kd : Nat} {as rest : List AV} (h1 : (decide (2 ≤ kd) && decide (as.length + 1 = 3)) = true) (h2 : decide (stw rest ≤ 8) = true) : (decide (2 ≤ kd) && decide (mna 52 = 3) && decide (as.length + 1 = 3) && decide (stw rest ≤ 8) && decide (mow 52 = 6) && decide (6 < 8)) = true := by rw [show mna 52 = 3 by decide +kernel, show mow 52 = 6 by decide +kernel, h2]; simpa using h1
theorem sr_53_6 {kd : Nat} {as rest : List AV} (h1 : (decide (2 ≤ kd) && decide (as.length + 1 = 2)) = true) (h2 : decide (stw rest ≤ 8) = true) : (decide (2 ≤ kd) && decide (mna 53 = 2) && decide (as.length + 1 = 2) && decide (stw rest ≤ 8) && decide (mow 53 = 6) && decide (6 < 8)) = true := by rw [show mna 53 = 2 by decide +kernel, show mow 53 = 6 by decide +kernel, h2]; simpa using h1
theorem sr_54_6 {kd : Nat} {as rest : List AV} (h1 : (decide (2 ≤ kd) && decide (as.length + 1 = 1)) = true) (h2 : decide (stw rest ≤ 8) = true) : (decide (2 ≤ kd) && decide (mna 54 = 1) && decide (as.length + 1 = 1) && decide (stw rest ≤ 8) && decide (mow 54 = 6) && decide (6 < 8)) = true := by rw [show mna 54 = 1 by decide +kernel, show mow 54 = 6 by decide +kernel, h2]; simpa using h1
theorem sr_55_6 {kd : Nat} {as rest : List AV} (h1 : (decide (2 ≤ kd) && decide (as.length + 1 = 3)) = true) (h2 : decide (stw rest ≤ 8) = true) : (decide (2 ≤ kd) && decide (mna 55 = 3) && decide (as.length + 1 = 3) && decide (stw rest ≤ 8) && decide (mow 55 = 6) && decide (6 < 8)) = true := by rw [show mna 55 = 3 by decide +kernel, show mow 55 = 6 by decide +kernel, h2]; simpa using h1
theorem sr_56_6 {kd : Nat} {as rest : List AV} (h1 : (decide (2 ≤ kd) && decide (as.length + 1 = 3)) = true) (h2 : decide (stw rest ≤ 8) = true) : (decide (2 ≤ kd) && decide (mna 56 = 3) && decide (as.length + 1 = 3) && decide (stw rest ≤ 8) && decide (mow 56 = 6) && decide (6 < 8)) = true := by rw [show mna 56 = 3 by decide +kernel, show mow 56 = 6 by decide +kernel, h2]; simpa using h1
theorem sr_57_6 {kd : Nat} {as rest : List AV} (h1 : (decide (2 ≤ kd) && decide (as.length + 1 = 3)) = true) (h2 : decide (stw rest ≤ 8) = true) : (decide (2 ≤ kd) && decide (mna 57 = 3) && decide (as.length + 1 = 3) && decide (stw rest ≤ 8) && decide (mow 57 = 6) && decide (6 < 8)) = true := by rw [show mna 57 = 3 by decide +kernel, show mow 57 = 6 by decide +kernel, h2]; simpa using h1
theorem sr_58_6 {kd : Nat} {as rest : List AV} (h1 : (decide (2 ≤ kd) && decide (as.length + 1 = 3)) = true) (h2 : decide (stw rest ≤ 8) = true) : (decide (2 ≤ kd) && decide (mna 58 = 3) && decide (as.length + 1 = 3) && decide (stw rest ≤ 8) && decide (mow 58 = 6) && decide (6 < 8)) = true := by rw [show mna 58 = 3 by decide +kernel, show mow 58 = 6 by decide +kernel, h2]; simpa using h1
theorem sr_59_6 {kd : Nat} {as rest : List AV} (h1 : (decide (2 ≤ kd) && decide (as.length + 1 = 2)) = true) (h2 : decide (stw rest ≤ 8) = true) : (decide (2 ≤ kd) && decide (mna 59 = 2) && decide (as.length + 1 = 2) && decide (stw rest ≤ 8) && decide (mow 59 = 6) && decide (6 < 8)) = true := by rw [show mna 59 = 2 by decide +kernel, show mow 59 = 6 by decide +kernel, h2]; simpa using h1
theorem sr_60_6 {kd : Nat} {as rest : List AV} (h1 : (decide (2 ≤ kd) && decide (as.length + 1 = 3)) = true) (h2 : decide (stw rest ≤ 8) = true) : (decide (2 ≤ kd) && decide (mna 60 = 3) && decide (as.length + 1 = 3) && decide (stw rest ≤ 8) && decide (mow 60 = 6) && decide (6 < 8)) = true := by rw [show mna 60 = 3 by decide +kernel, show mow 60 = 6 by decide +kernel, h2]; simpa using h1
theorem sr_61_6 {kd : Nat} {as rest : List AV} (h1 : (decide (2 ≤ kd) && decide (as.length + 1 = 2)) = true) (h2 : decide (stw rest ≤ 8) = true) : (decide (2 ≤ kd) && decide (mna 61 = 2) && decide (as.length + 1 = 2) && decide (stw rest ≤ 8) && decide (mow 61 = 6) && decide (6 < 8)) = true := by rw [show mna 61 = 2 by decide +kernel, show mow 61 = 6 by decide +kernel, h2]; simpa using h1
theorem sr_62_6 {kd : Nat} {as rest : List AV} (h1 : (decide (2 ≤ kd) && decide (as.length + 1 = 3)) = true) (h2 : decide (stw rest ≤ 8) = true) : (decide (2 ≤ kd) && decide (mna 62 = 3) && decide (as.length + 1 = 3) && decide (stw rest ≤ 8) && decide (mow 62 = 6) && decide (6 < 8)) = true := by rw [show mna 62 = 3 by decide +kernel, show mow 62 = 6 by decide +kernel, h2]; simpa using h1
theorem sr_63_6 {kd : Nat} {as rest : List AV} (h1 : (decide (2 ≤ kd) && decide (as.length + 1 = 6)) = true) (h2 : decide (stw rest ≤ 8) = true) : (decide (2 ≤ kd) && decide (mna 63 = 6) && decide (as.length + 1 = 6) && decide (stw rest ≤ 8) && decide (mow 63 = 6) && decide (6 < 8)) = true := by rw [show mna 63 = 6 by decide +kernel, show mow 63 = 6 by decide +kernel, h2]; simpa using h1
theorem sr_64_6 {kd : Nat} {as rest : List AV} (h1 : (decide (2 ≤ kd) && decide (as.length + 1 = 1)) = true) (h2 : decide (stw rest ≤ 8) = true) : (decide (2 ≤ kd) && decide (mna 64 = 1) && decide (as.length + 1 = 1) && decide (stw rest ≤ 8) && decide (mow 64 = 6) && decide (6 < 8)) = true := by rw [show mna 64 = 1 by decide +kernel, show mow 64 = 6 by decide +kernel, h2]; simpa using h1
theorem sr_65_6 {kd : Nat} {as rest : List AV} (h1 : (decide (2 ≤ kd) && decide (as.length + 1 = 2)) = true) (h2 : decide (stw rest ≤ 8) = true) : (decide (2 ≤ kd) && decide (mna 65 = 2) && decide (as.length + 1 = 2) && decide (stw rest ≤ 8) && decide (mow 65 = 6) && decide (6 < 8)) = true := by rw [show mna 65 = 2 by decide +kernel, show mow 65 = 6 by decide +kernel, h2]; simpa using h1
theorem sr_66_6 {kd : Nat} {as rest : List AV} (h1 : (decide (2 ≤ kd) && decide (as.length + 1 = 6)) = true) (h2 : decide (stw rest ≤ 8) = true) : (decide (2 ≤ kd) && decide (mna 66 = 6) && decide (as.length + 1 = 6) && decide (stw rest ≤ 8) && decide (mow 66 = 6) && decide (6 < 8)) = true := by rw [show mna 66 = 6 by decide +kernel, show mow 66 = 6 by decide +kernel, h2]; simpa using h1
theorem sr_67_6 {kd : Nat} {as rest : List AV} (h1 : (decide (2 ≤ kd) && decide (as.length + 1 = 5)) = true) (h2 : decide (stw rest ≤ 8) = true) : (decide (2 ≤ kd) && decide (mna 67 = 5) && decide (as.length + 1 = 5) && decide (stw rest ≤ 8) && decide (mow 67 = 6) && decide (6 < 8)) = true := by rw [show mna 67 = 5 by decide +kernel, show mow 67 = 6 by decide +kernel, h2]; simpa using h1
theorem sr_68_6 {kd : Nat} {as rest : List AV} (h1 : (decide (2 ≤ kd) && decide (as.length + 1 = 2)) = true) (h2 : decide (stw rest ≤ 8) = true) : (decide (2 ≤ kd) && decide (mna 68 = 2) && decide (as.length + 1 = 2) && decide (stw rest ≤ 8) && decide (mow 68 = 6) && decide (6 < 8)) = true := by rw [show mna 68 = 2 by decide +kernel, show mow 68 = 6 by decide +kernel, h2]; simpa using h1
theorem sr_69_6 {kd : Nat} {as rest : List AV} (h1 : (decide (2 ≤ kd) && decide (as.length + 1 = 2)) = true) (h2 : decide (stw rest ≤ 8) = true) : (decide (2 ≤ kd) && decide (mna 69 = 2) && decide (as.length + 1 = 2) && decide (stw rest ≤ 8) && decide (mow 69 = 6) && decide (6 < 8)) = true := by rw [show mna 69 = 2 by decide +kernel, show mow 69 = 6 by decide +kernel, h2]; simpa using h1
theorem sr_70_6 {kd : Nat} {as rest : List AV} (h1 : (decide (2 ≤ kd) && decide (as.length + 1 = 2)) = true) (h2 : decide (stw rest ≤ 8) = true) : (decide (2 ≤ kd) && decide (mna 70 = 2) && decide (as.length + 1 = 2) && decide (stw rest ≤ 8) && decide (mow 70 = 6) && decide (6 < 8)) = true := by rw [show mna 70 = 2 by decide +kernel, show mow 70 = 6 by decide +kernel, h2]; simpa using h1
theorem sr_71_6 {kd : Nat} {as rest : List AV} (h1 : (decide (2 ≤ kd) && decide (as.length + 1 = 2)) = true) (h2 : decide (stw rest ≤ 8) = true) : (decide (2 ≤ kd) && decide (mna 71 = 2) && decide (as.length + 1 = 2) && decide (stw rest ≤ 8) && decide (mow 71 = 6) && decide (6 < 8)) = true := by rw [show mna 71 = 2 by decide +kernel, show mow 71 = 6 by decide +kernel, h2]; simpa using h1
theorem sr_72_6 {kd : Nat} {as rest : List AV} (h1 : (decide (2 ≤ kd) && decide (as.length + 1 = 2)) = true) (h2 : decide (stw rest ≤ 8) = true) : (decide (2 ≤ kd) && decide (mna 72 = 2) && decide (as.length + 1 = 2) && decide (stw rest ≤ 8) && decide (mow 72 = 6) && decide (6 < 8)) = true := by rw [show mna 72 = 2 by decide +kernel, show mow 72 = 6 by decide +kernel, h2]; simpa using h1
theorem sr_73_6 {kd : Nat} {as rest : List AV} (h1 : (decide (2 ≤ kd) && decide (as.length + 1 = 3)) = true) (h2 : decide (stw rest ≤ 8) = true) : (decide (2 ≤ kd) && decide (mna 73 = 3) && decide (as.length + 1 = 3) && decide (stw rest ≤ 8) && decide (mow 73 = 6) && decide (6 < 8)) = true := by rw [show mna 73 = 3 by decide +kernel, show mow 73 = 6 by decide +kernel, h2]; simpa using h1
theorem sr_74_6 {kd : Nat} {as rest : List AV} (h1 : (decide (2 ≤ kd) && decide (as.length + 1 = 4)) = true) (h2 : decide (stw rest ≤ 8) = true) : (decide (2 ≤ kd) && decide (mna 74 = 4) && decide (as.length + 1 = 4) && decide (stw rest ≤ 8) && decide (mow 74 = 6) && decide (6 < 8)) = true := by rw [show mna 74 = 4 by decide +kernel, show mow 74 = 6 by decide +kernel, h2]; simpa using h1
theorem sr_75_6 {kd : Nat} {as rest : List AV} (h1 : (decide (2 ≤ kd) && decide (as.length + 1 = 3)) = true) (h2 : decide (stw rest ≤ 8) = true) : (decide (2 ≤ kd) && decide (mna 75 = 3) && decide (as.length + 1 = 3) && decide (stw rest ≤ 8) && decide (mow 75 = 6) && decide (6 < 8)) = true := by rw [show mna 75 = 3 by decide +kernel, show mow 75 = 6 by decide +kernel, h2]; simpa using h1
theorem sr_76_6 {kd : Nat} {as rest : List AV} (h1 : (decide (2 ≤ kd) && decide (as.length + 1 = 2)) = true) (h2 : decide (stw rest ≤ 8) = true) : (decide (2 ≤ kd) && decide (mna 76 = 2) && decide (as.length + 1 = 2) && decide (stw rest ≤ 8) && decide (mow 76 = 6) && decide (6 < 8)) = true := by rw [show mna 76 = 2 by decide +kernel, show mow 76 = 6 by decide +kernel, h2]; simpa using h1
theorem sr_77_6 {kd : Nat} {as rest : List AV} (h1 : (decide (2 ≤ kd) && decide (as.length + 1 = 2)) = true) (h2 : decide (stw rest ≤ 8) = true) : (decide (2 ≤ kd) && decide (mna 77 = 2) && decide (as.length + 1 = 2) && decide (stw rest ≤ 8) && decide (mow 77 = 6) && decide (6 < 8)) = true := by rw [show mna 77 = 2 by decide +kernel, show mow 77 = 6 by decide +kernel, h2]; simpa using h1
theorem sr_78_6 {kd : Nat} {as rest : List AV} (h1 : (decide (2 ≤ kd) && decide (as.length + 1 = 2)) = true) (h2 : decide (stw rest ≤ 8) = true) : (decide (2 ≤ kd) && decide (mna 78 = 2) && decide (as.length + 1 = 2) && decide (stw rest ≤ 8) && decide (mow 78 = 6) && decide (6 < 8)) = true := by rw [show mna 78 = 2 by decide +kernel, show mow 78 = 6 by decide +kernel, h2]; simpa using h1
theorem sr_79_6 {kd : Nat} {as rest : List AV} (h1 : (decide (2 ≤ kd) && decide (as.length + 1 = 2)) = true) (h2 : decide (stw rest ≤ 8) = true) : (decide (2 ≤ kd) && decide (mna 79 = 2) && decide (as.length + 1 = 2) && decide (stw rest ≤ 8) && decide (mow 79 = 6) && decide (6 < 8)) = true := by rw [show mna 79 = 2 by decide +kernel, show mow 79 = 6 by decide +kernel, h2]; simpa using h1
theorem sr_80_6 {kd : Nat} {as rest : List AV} (h1 : (decide (2 ≤ kd) && decide (as.length + 1 = 2)) = true) (h2 : decide (stw rest ≤ 8) = true) : (decide (2 ≤ kd) && decide (mna 80 = 2) && decide (as.length + 1 = 2) && decide (stw rest ≤ 8) && decide (mow 80 = 6) && decide (6 < 8)) = true := by rw [show mna 80 = 2 by decide +kernel, show mow 80 = 6 by decide +kernel, h2]; simpa using h1
theorem sr_81_6 {kd : Nat} {as rest : List AV} (h1 : (decide (2 ≤ kd) && decide (as.length + 1 = 1)) = true) (h2 : decide (stw rest ≤ 8) = true) : (decide (2 ≤ kd) && decide (mna 81 = 1) && decide (as.length + 1 = 1) && decide (stw rest ≤ 8) && decide (mow 81 = 6) && decide (6 < 8)) = true := by rw [show mna 81 = 1 by decide +kernel, show mow 81 = 6 by decide +kernel, h2]; simpa using h1
theorem sr_82_6 {kd : Nat} {as rest : List AV} (h1 : (decide (2 ≤ kd) && decide (as.length + 1 = 1)) = true) (h2 : decide (stw rest ≤ 8) = true) : (decide (2 ≤ kd) && decide (mna 82 = 1) && decide (as.length + 1 = 1) && decide (stw rest ≤ 8) && decide (mow 82 = 6) && decide (6 < 8)) = true := by rw [show mna 82 = 1 by decide +kernel, show mow 82 = 6 by decide +kernel, h2]; simpa using h1
theorem sr_83_6 {kd : Nat} {as rest : List AV} (h1 : (decide (2 ≤ kd) && decide (as.length + 1 = 1)) = true) (h2 : decide (stw rest ≤ 8) = true) : (decide (2 ≤ kd) && decide (mna 83 = 1) && decide (as.length + 1 = 1) && decide (stw rest ≤ 8) && decide (mow 83 = 6) && decide (6 < 8)) = true := by rw [show mna 83 = 1 by decide +kernel, show mow 83 = 6 by decide +kernel, h2]; simpa using h1
theorem sr_84_6 {kd : Nat} {as rest : List AV} (h1 : (decide (2 ≤ kd) && decide (as.length + 1 = 1)) = true) (h2 : decide (stw rest ≤ 8) = true) : (decide (2 ≤ kd) && decide (mna 84 = 1) && decide (as.length + 1 = 1) && decide (stw rest ≤ 8) && decide (mow 84 = 6) && decide (6 < 8)) = true := by rw [show mna 84 = 1 by decide +kernel, show mow 84 = 6 by decide +kernel, h2]; simpa using h1
theorem sr_85_6 {kd : Nat} {as rest : List AV} (h1 : (decide (2 ≤ kd) && decide (as.length + 1 = 1)) = true) (h2 : decide (stw rest ≤ 8) = true) : (decide (2 ≤ kd) && decide (mna 85 = 1) && decide (as.length + 1 = 1) && decide (stw rest ≤ 8) && decide (mow 85 = 6) && decide (6 < 8)) = true := by rw [show mna 85 = 1 by decide +kernel, show mow 85 = 6 by decide +kernel, h2]; simpa using h1
theorem ss_86_3 {kd : Nat} {args rest : List AV} (h1 : (decide (kd < 2) && decide (args.length = 3)) = true) (h2 : decide (stw rest ≤ 8) = true) : (decide (kd < 2) && decide (mna 86 = 3) && decide (args.length = 3) && decide (stw rest ≤ 8)) = true := by rw [show mna 86 = 3 by decide +kernel, h2, Bool.and_true]; simpa using h1
theorem ss_87_1 {kd : Nat} {args rest : List AV} (h1 : (decide (kd < 2) && decide (args.length = 1)) = true) (h2 : decide (stw rest ≤ 8) = true) : (decide (kd < 2) && decide (mna 87 = 1) && decide (args.length = 1) && decide (stw rest ≤ 8)) = true := by rw [show mna 87 = 1 by decide +kernel, h2, Bool.and_true]; simpa using h1
theorem ss_88_2 {kd : Nat} {args rest : List AV} (h1 : (decide (kd < 2) && decide (args.length = 2)) = true) (h2 : decide (stw rest ≤ 8) = true) : (decide (kd < 2) && decide (mna 88 = 2) && decide (args.length = 2) && decide (stw rest ≤ 8)) = true := by rw [show mna 88 = 2 by decide +kernel, h2, Bool.and_true]; simpa using h1
theorem ss_89_2 {kd : Nat} {args rest : List AV} (h1 : (decide (kd < 2) && decide (args.length = 2)) = true) (h2 : decide (stw rest ≤ 8) = true) : (decide (kd < 2) && decide (mna 89 = 2) && decide (args.length = 2) && decide (stw rest ≤ 8)) = true := by rw [show mna 89 = 2 by decide +kernel, h2, Bool.and_true]; simpa using h1
theorem ss_90_3 {kd : Nat} {args rest : List AV} (h1 : (decide (kd < 2) && decide (args.length = 3)) = true) (h2 : decide (stw rest ≤ 8) = true) : (decide (kd < 2) && decide (mna 90 = 3) && decide (args.length = 3) && decide (stw rest ≤ 8)) = true := by rw [show mna 90 = 3 by decide +kernel, h2, Bool.and_true]; simpa using h1
theorem ss_91_2 {kd : Nat} {args rest : List AV} (h1 : (decide (kd < 2) && decide (args.length = 2)) = true) (h2 : decide (stw rest ≤ 8) = true) : (decide (kd < 2) && decide (mna 91 = 2) && decide (args.length = 2) && decide (stw rest ≤ 8)) = true := by rw [show mna 91 = 2 by decide +kernel, h2, Bool.and_true]; simpa using h1
theorem ss_92_2 {kd : Nat} {args rest : List AV} (h1 : (decide (kd < 2) && decide (args.length = 2)) = true) (h2 : decide (stw rest ≤ 8) = true) : (decide (kd < 2) && decide (mna 92 = 2) && decide (args.length = 2) && decide (stw rest ≤ 8)) = true := by rw [show mna 92 = 2 by decide +kernel, h2, Bool.and_true]; simpa using h1
theorem ss_93_2 {kd : Nat} {args rest : List AV} (h1 : (decide (kd < 2) && decide (args.length = 2)) = true) (h2 : decide (stw rest ≤ 8) = true) : (decide (kd < 2) && decide (mna 93 = 2) && decide (args.length = 2) && decide (stw rest ≤ 8)) = true := by rw [show mna 93 = 2 by decide +kernel, h2, Bool.and_true]; simpa using h1
theorem ss_94_4 {kd : Nat} {args rest : List AV} (h1 : (decide (kd < 2) && decide (args.length = 4)) = true) (h2 : decide (stw rest ≤ 8) = true) : (decide (kd < 2) && decide (mna 94 = 4) && decide (args.length = 4) && decide (stw rest ≤ 8)) = true := by rw [show mna 94 = 4 by decide +kernel, h2, Bool.and_true]; simpa using h1
theorem ss_95_3 {kd : Nat} {args rest : List AV} (h1 : (decide (kd < 2) && decide (args.length = 3)) = true) (h2 : decide (stw rest ≤ 8) = true) : (decide (kd < 2) && decide (mna 95 = 3) && decide (args.length = 3) && decide (stw rest ≤ 8)) = true := by rw [show mna 95 = 3 by decide +kernel, h2, Bool.and_true]; simpa using h1
theorem ss_96_2 {kd : Nat} {args rest : List AV} (h1 : (decide (kd < 2) && decide (args.length = 2)) = true) (h2 : decide (stw rest ≤ 8) = true) : (decide (kd < 2) && decide (mna 96 = 2) && decide (args.length = 2) && decide (stw rest ≤ 8)) = true := by rw [show mna 96 = 2 by decide +kernel, h2, Bool.and_true]; simpa using h1
theorem ss_97_2 {kd : Nat} {args rest : List AV} (h1 : (decide (kd < 2) && decide (args.length = 2)) = true) (h2 : decide (stw rest ≤ 8) = true) : (decide (kd < 2) && decide (mna 97 = 2) && decide (args.length = 2) && decide (stw rest ≤ 8)) = true := by rw [show mna 97 = 2 by decide +kernel, h2, Bool.and_true]; simpa using h1
theorem ss_98_1 {kd : Nat} {args rest : List AV} (h1 : (decide (kd < 2) && decide (args.length = 1)) = true) (h2 : decide (stw rest ≤ 8) = true) : (decide (kd < 2) && decide (mna 98 = 1) && decide (args.length = 1) && decide (stw rest ≤ 8)) = true := by rw [show mna 98 = 1 by decide +kernel, h2, Bool.and_true]; simpa using h1
theorem ss_99_1 {kd : Nat} {args rest : List AV} (h1 : (decide (kd < 2) && decide (args.length = 1)) = true) (h2 : decide (stw rest ≤ 8) = true) : (decide (kd < 2) && decide (mna 99 = 1) && decide (args.length = 1) && decide (stw rest ≤ 8)) = true := by rw [show mna 99 = 1 by decide +kernel, h2, Bool.and_true]; simpa using h1
theorem sr_100_6 {kd : Nat} {as rest : List AV} (h1 : (decide (2 ≤ kd) && decide (as.length + 1 = 4)) = true) (h2 : decide (stw rest ≤ 8) = true) : (decide (2 ≤ kd) && decide (mna 100 = 4) && decide (as.length + 1 = 4) && decide (stw rest ≤ 8) && decide (mow 100 = 6) && decide (6 < 8)) = true := by rw [show mna 100 = 4 by decide +kernel, show mow 100 = 6 by decide +kernel, h2]; simpa using h1
theorem sr_101_6 {kd : Nat} {as rest : List AV} (h1 : (decide (2 ≤ kd) && decide (as.length + 1 = 1)) = true) (h2 : decide (stw rest ≤ 8) = true) : (decide (2 ≤ kd) && decide (mna 101 = 1) && decide (as.length + 1 = 1) && decide (stw rest ≤ 8) && decide (mow 101 = 6) && decide (6 < 8)) = true := by rw [show mna 101 = 1 by decide +kernel, show mow 101 = 6 by decide +kernel, h2]; simpa using h1
theorem sr_102_6 {kd : Nat} {as rest : List AV} (h1 : (decide (2 ≤ kd) && decide (as.length + 1 = 3)) = true) (h2 : decide (stw rest ≤ 8) = true) : (decide (2 ≤ kd) && decide (mna 102 = 3) && decide (as.length + 1 = 3) && decide (stw rest ≤ 8) && decide (mow 102 = 6) && decide (6 < 8)) = true := by rw [show mna 102 = 3 by decide +kernel, show mow 102 = 6 by decide +kernel, h2]; simpa using h1
theorem sr_103_6 {kd : Nat} {as rest : List AV} (h1 : (decide (2 ≤ kd) && decide (as.length + 1 = 2)) = true) (h2 : decide (stw rest ≤ 8) = true) : (decide (2 ≤ kd) && decide (mna 103 = 2) && decide (as.length + 1 = 2) && decide (stw rest ≤ 8) && decide (mow 103 = 6) && decide (6 < 8)) = true := by rw [show mna 103 = 2 by decide +kernel, show mow 103 = 6 by decide +kernel, h2]; simpa using h1
theorem sr_104_6 {kd : Nat} {as rest : List AV} (h1 : (decide (2 ≤ kd) && decide (as.length + 1 = 3)) = true) (h2 : decide (stw rest ≤ 8) = true) : (decide (2 ≤ kd) && decide (mna 104 = 3) && decide (as.length + 1 = 3) && decide (stw rest ≤ 8) && decide (mow 104 = 6) && decide (6 < 8)) = true := by rw [show mna 104 = 3 by decide +kernel, show mow 104 = 6 by decide +kernel, h2]; simpa using h1
theorem sr_105_6 {kd : Nat} {as rest : List AV} (h1 : (decide (2 ≤ kd) && decide (as.length + 1 = 2)) = true) (h2 : decide (stw rest ≤ 8) = true) : (decide (2 ≤ kd) && decide (mna 105 = 2) && decide (as.length + 1 = 2) && decide (stw rest ≤ 8) && decide (mow 105 = 6) && decide (6 < 8)) = true := by rw [show mna 105 = 2 by decide +kernel, show mow 105 = 6 by decide +kernel, h2]; simpa using h1
theorem sr_106_6 {kd : Nat} {as rest : List AV} (h1 : (decide (2 ≤ kd) && decide (as.length + 1 = 3)) = true) (h2 : decide (stw rest ≤ 8) = true) : (decide (2 ≤ kd) && decide (mna 106 = 3) && decide (as.length + 1 = 3) && decide (stw rest ≤ 8) && decide (mow 106 = 6) && decide (6 < 8)) = true := by rw [show mna 106 = 3 by decide +kernel, show mow 106 = 6 by decide +kernel, h2]; simpa using h1
theorem sr_107_6 {kd : Nat} {as rest : List AV} (h1 : (decide (2 ≤ kd) && decide (as.length + 1 = 5)) = true) (h2 : decide (stw rest ≤ 8) = true) : (decide (2 ≤ kd) && decide (mna 107 = 5) && decide (as.length + 1 = 5) && decide (stw rest ≤ 8) && decide (mow 107 = 6) && decide (6 < 8)) = true := by rw [show mna 107 = 5 by decide +kernel, show mow 107 = 6 by decide +kernel, h2]; simpa using h1
theorem sr_108_6 {kd : Nat} {as rest : List AV} (h1 : (decide (2 ≤ kd) && decide (as.length + 1 = 5)) = true) (h2 : decide (stw rest ≤ 8) = true) : (decide (2 ≤ kd) && decide (mna 108 = 5) && decide (as.length + 1 = 5) && decide (stw rest ≤ 8) && decide (mow 108 = 6) && decide (6 < 8)) = true := by rw [show mna 108 = 5 by decide +kernel, show mow 108 = 6 by decide +kernel, h2]; simpa using h1
theorem sr_109_6 {kd : Nat} {as rest : List AV} (h1 : (decide (2 ≤ kd) && decide (as.length + 1 = 4)) = true) (h2 : decide (stw rest ≤ 8) = true) : (decide (2 ≤ kd) && decide (mna 109 = 4) && decide (as.length + 1 = 4) && decide (stw rest ≤ 8) && decide (mow 109 = 6) && decide (6 < 8)) = true := by rw [show mna 109 = 4 by decide +kernel, show mow 109 = 6 by decide +kernel, h2]; simpa using h1
theorem sr_110_6 {kd : Nat} {as rest : List AV} (h1 : (decide (2 ≤ kd) && decide (as.length + 1 = 3)) = true) (h2 : decide (stw rest ≤ 8) = true) : (decide (2 ≤ kd) && decide (mna 110 = 3) && decide (as.length + 1 = 3) && decide (stw rest ≤ 8) && decide (mow 110 = 6) && decide (6 < 8)) = true := by rw [show mna 110 = 3 by decide +kernel, show mow 110 = 6 by decide +kernel, h2]; simpa using h1
theorem sr_111_6 {kd : Nat} {as rest : List AV} (h1 : (decide (2 ≤ kd) && decide (as.length + 1 = 3)) = true) (h2 : decide (stw rest ≤ 8) = true) : (decide (2 ≤ kd) && decide (mna 111 = 3) && decide (as.length + 1 = 3) && decide (stw rest ≤ 8) && decide (mow 111 = 6) && decide (6 < 8)) = true := by rw [show mna 111 = 3 by decide +kernel, show mow 111 = 6 by decide +kernel, h2]; simpa using h1
theorem ss_112_3 {kd : Nat} {args rest : List AV} (h1 : (decide (kd < 2) && decide (args.length = 3)) = true) (h2 : decide (stw rest ≤ 8) = true) : (decide (kd < 2) && decide (mna 112 = 3) && decide (args.length = 3) && decide (stw rest ≤ 8)) = true := by rw [show mna 112 = 3 by decide +kernel, h2, Bool.and_true]; simpa using h1
theorem sr_113_6 {kd : Nat} {as rest : List AV} (h1 : (decide (2 ≤ kd) && decide (as.length + 1 = 3)) = true) (h2 : decide (stw rest ≤ 8) = true) : (decide (2 ≤ kd) && decide (mna 113 = 3) && decide (as.length + 1 = 3) && decide (stw rest ≤ 8) && decide (mow 113 = 6) && decide (6 < 8)) = true := by rw [show mna 113 = 3 by decide +kernel, show mow 113 = 6 by decide +kernel, h2]; simpa using h1
theorem sr_114_6 {kd : Nat} {as rest : List AV} (h1 : (decide (2 ≤ kd) && decide (as.length + 1 = 2)) = true) (h2 : decide (stw rest ≤ 8) = true) : (decide (2 ≤ kd) && decide (mna 114 = 2) && decide (as.length + 1 = 2) && decide (stw rest ≤ 8) && decide (mow 114 = 6) && decide (6 < 8)) = true := by rw [show mna 114 = 2 by decide +kernel, show mow 114 = 6 by decide +kernel, h2]; simpa using h1
theorem sr_115_6 {kd : Nat} {as rest : List AV} (h1 : (decide (2 ≤ kd) && decide (as.length + 1 = 2)) = true) (h2 : decide (stw rest ≤ 8) = true) : (decide (2 ≤ kd) && decide (mna 115 = 2) && decide (as.length + 1 = 2) && decide (stw rest ≤ 8) && decide (mow 115 = 6) && decide (6 < 8)) = true := by rw [show mna 115 = 2 by decide +kernel, show mow 115 = 6 by decide +kernel, h2]; simpa using h1
theorem ss_116_3 {kd : Nat} {args rest : List AV} (h1 : (decide (kd < 2) && decide (args.length = 3)) = true) (h2 : decide (stw rest ≤ 8) = true) : (decide (kd < 2) && decide (mna 116 = 3) && decide (args.length = 3) && decide (stw rest ≤ 8)) = true := by rw [show mna 116 = 3 by decide +kernel, h2, Bool.and_true]; simpa using h1
theorem ss_117_2 {kd : Nat} {args rest : List AV} (h1 : (decide (kd < 2) && decide (args.length = 2)) = true) (h2 : decide (stw rest ≤ 8) = true) : (decide (kd < 2) && decide (mna 117 = 2) && decide (args.length = 2) && decide (stw rest ≤ 8)) = true := by rw [show mna 117 = 2 by decide +kernel, h2, Bool.and_true]; simpa using h1
theorem sr_118_7 {kd : Nat} {as rest : List AV} (h1 : (decide (2 ≤ kd) && decide (as.length + 1 = 1)) = true) (h2 : decide (stw rest ≤ 8) = true) : (decide (2 ≤ kd) && decide (mna 118 = 1) && decide (as.length + 1 = 1) && decide (stw rest ≤ 8) && decide (mow 118 = 7) && decide (7 < 8)) = true := by rw [show mna 118 = 1 by decide +kernel, show mow 118 = 7 by decide +kernel, h2]; simpa using h1
theorem sr_119_7 {kd : Nat} {as rest : List AV} (h1 : (decide (2 ≤ kd) && decide (as.length + 1 = 1)) = true) (h2 : decide (stw rest ≤ 8) = true) : (decide (2 ≤ kd) && decide (mna 119 = 1) && decide (as.length + 1 = 1) && decide (stw rest ≤ 8) && decide (mow 119 = 7) && decide (7 < 8)) = true := by rw [show mna 119 = 1 by decide +kernel, show mow 119 = 7 by decide +kernel, h2]; simpa using h1
theorem sr_120_7 {kd : Nat} {as rest : List AV} (h1 : (decide (2 ≤ kd) && decide (as.length + 1 = 1)) = true) (h2 : decide (stw rest ≤ 8) = true) : (decide (2 ≤ kd) && decide (mna 120 = 1) && decide (as.length + 1 = 1) && decide (stw rest ≤ 8) && decide (mow 120 = 7) && decide (7 < 8)) = true := by rw [show mna 120 = 1 by decide +kernel, show mow 120 = 7 by decide +kernel, h2]; simpa using h1
theorem sr_121_7 {kd : Nat} {as rest : List AV} (h1 : (decide (2 ≤ kd) && decide (as.length + 1 = 1)) = true) (h2 : decide (stw rest ≤ 8) = true) : (decide (2 ≤ kd) && decide (mna 121 = 1) && decide (as.length + 1 = 1) && decide (stw rest ≤ 8) && decide (mow 121 = 7) && decide (7 < 8)) = true := by rw [show mna 121 = 1 by decide +kernel, show mow 121 = 7 by decide +kernel, h2]; simpa using h1
theorem sr_122_7 {kd : Nat} {as rest : List AV} (h1 : (decide (2 ≤ kd) && decide (as.length + 1 = 2)) = true) (h2 : decide (stw rest ≤ 8) = true) : (decide (2 ≤ kd) && decide (mna 122 = 2) && decide (as.length + 1 = 2) && decide (stw rest ≤ 8) && decide (mow 122 = 7) && decide (7 < 8)) = true := by rw [show mna 122 = 2 by decide +kernel, show mow 122 = 7 by decide +kernel, h2]; simpa using h1
theorem sr_123_7 {kd : Nat} {as rest : List AV} (h1 : (decide (2 ≤ kd) && decide (as.length + 1 = 2)) = true) (h2 : decide (stw rest ≤ 8) = true) : (decide (2 ≤ kd) && decide (mna 123 = 2) && decide (as.length + 1 = 2) && decide (stw rest ≤ 8) && decide (mow 123 = 7) && decide (7 < 8)) = true := by rw [show mna 123 = 2 by decide +kernel, show mow 123 = 7 by decide +kernel, h2]; simpa using h1
theorem ss_124_2 {kd : Nat} {args rest : List AV} (h1 : (decide (kd < 2) && decide (args.length = 2)) = true) (h2 : decide (stw rest ≤ 8) = true) : (decide (kd < 2) && decide (mna 124 = 2) && decide (args.length = 2) && decide (stw rest ≤ 8)) = true := by rw [show mna 124 = 2 by decide +kernel, h2, Bool.and_true]; simpa using h1
theorem ss_125_2 {kd : Nat} {args rest : List AV} (h1 : (decide (kd < 2) && decide (args.length = 2)) = true) (h2 : decide (stw rest ≤ 8) = true) : (decide (kd < 2) && decide (mna 125 = 2) && decide (args.length = 2) && decide (stw rest ≤ 8)) = true := by rw [show mna 125 = 2 by decide +kernel, h2, Bool.and_true]; simpa using h1
theorem ss_126_4 {kd : Nat} {args rest : List AV} (h1 : (decide (kd < 2) && decide (args.length = 4)) = true) (h2 : decide (stw rest ≤ 8) = true) : (decide (kd < 2) && decide (mna 126 = 4) && decide (args.length = 4) && decide (stw rest ≤ 8)) = true := by rw [show mna 126 = 4 by decide +kernel, h2, Bool.and_true]; simpa using h1
theorem ss_127_1 {kd : Nat} {args rest : List AV} (h1 : (decide (kd < 2) && decide (args.length = 1)) = true) (h2 : decide (stw rest ≤ 8) = true) : (decide (kd < 2) && decide (mna 127 = 1) && decide (args.length = 1) && decide (stw rest ≤ 8)) = true := by rw [show mna 127 = 1 by decide +kernel, h2, Bool.and_true]; simpa using h1
theorem ss_128_3 {kd : Nat} {args rest : List AV} (h1 : (decide (kd < 2) && decide (args.length = 3)) = true) (h2 : decide (stw rest ≤ 8) = true) : (decide (kd < 2) && decide (mna 128 = 3) && decide (args.length = 3) && decide (stw rest ≤ 8)) = true := by rw [show mna 128 = 3 by decide +kernel, h2, Bool.and_true]; simpa using h1
theorem ss_129_2 {kd : Nat} {args rest : List AV} (h1 : (decide (kd < 2) && decide (args.length = 2)) = true) (h2 : decide (stw rest ≤ 8) = true) : (decide (kd < 2) && decide (mna 129 = 2) && decide (args.length = 2) && decide (stw rest ≤ 8)) = true := by rw [show mna 129 = 2 by decide +kernel, h2, Bool.and_true]; simpa using h1
theorem ss_130_3 {kd : Nat} {args rest : List AV} (h1 : (decide (kd < 2) && decide (args.length = 3)) = true) (h2 : decide (stw rest ≤ 8) = true) : (decide (kd < 2) && decide (mna 130 = 3) && decide (args.length = 3) && decide (stw rest ≤ 8)) = true := by rw [show mna 130 = 3 by decide +kernel, h2, Bool.and_true]; simpa using h1
theorem ss_131_3 {kd : Nat} {args rest : List AV} (h1 : (decide (kd < 2) && decide (args.length = 3)) = true) (h2 : decide (stw rest ≤ 8) = true) : (decide (kd < 2) && decide (mna 131 = 3) && decide (args.length = 3) && decide (stw rest ≤ 8)) = true := by rw [show mna 131 = 3 by decide +kernel, h2, Bool.and_true]; simpa using h1
theorem ss_132_3 {kd : Nat} {args rest : List AV} (h1 : (decide (kd < 2) && decide (args.length = 3)) = true) (h2 : decide (stw rest ≤ 8) = true) : (decide (kd < 2) && decide (mna 132 = 3) && decide (args.length = 3) && decide (stw rest ≤ 8)) = true := by rw [show mna 132 = 3 by decide +kernel, h2, Bool.and_true]; simpa using h1
theorem ss_133_1 {kd : Nat} {args rest : List AV} (h1 : (decide (kd < 2) && decide (args.length = 1)) = true) (h2 : decide (stw rest ≤ 8) = true) : (decide (kd < 2) && decide (mna 133 = 1) && decide (args.length = 1) && decide (stw rest ≤ 8)) = true := by rw [show mna 133 = 1 by decide +kernel, h2, Bool.and_true]; simpa using h1
theorem ss_134_1 {kd : Nat} {args rest : List AV} (h1 : (decide (kd < 2) && decide (args.length = 1)) = true) (h2 : decide (stw rest ≤ 8) = true) : (decide (kd < 2) && decide (mna 134 = 1) && decide (args.length = 1) && decide (stw rest ≤ 8)) = true := by rw [show mna 134 = 1 by decide +kernel, h2, Bool.and_true]; simpa using h1
theorem ss_135_1 {kd : Nat} {args rest : List AV} (h1 : (decide (kd < 2) && decide (args.length = 1)) = true) (h2 : decide (stw rest ≤ 8) = true) : (decide (kd < 2) && decide (mna 135 = 1) && decide (args.length = 1) && decide (stw rest ≤ 8)) = true := by rw [show mna 135 = 1 by decide +kernel, h2, Bool.and_true]; simpa using h1
theorem ss_136_5 {kd : Nat} {args rest : List AV} (h1 : (decide (kd < 2) && decide (args.length = 5)) = true) (h2 : decide (stw rest ≤ 8) = true) : (decide (kd < 2) && decide (mna 136 = 5) && decide (args.length = 5) && decide (stw rest ≤ 8)) = true := by rw [show mna 136 = 5 by decide +kernel, h2, Bool.and_true]; simpa using h1
theorem sr_137_7 {kd : Nat} {as rest : List AV} (h1 : (decide (2 ≤ kd) && decide (as.length + 1 = 1)) = true) (h2 : decide (stw rest ≤ 8) = true) : (decide (2 ≤ kd) && decide (mna 137 = 1) && decide (as.length + 1 = 1) && decide (stw rest ≤ 8) && decide (mow 137 = 7) && decide (7 < 8)) = true := by rw [show mna 137 = 1 by decide +kernel, show mow 137 = 7 by decide +kernel, h2]; simpa using h1
theorem sr_138_7 {kd : Nat} {as rest : List AV} (h1 : (decide (2 ≤ kd) && decide (as.length + 1 = 1)) = true) (h2 : decide (stw rest ≤ 8) = true) : (decide (2 ≤ kd) && decide (mna 138 = 1) && decide (as.length + 1 = 1) && decide (stw rest ≤ 8) && decide (mow 138 = 7) && decide (7 < 8)) = true := by rw [show mna 138 = 1 by decide +kernel, show mow 138 = 7 by decide +kernel, h2]; simpa using h1
theorem ss_139_3 {kd : Nat} {args rest : List AV} (h1 : (decide (kd < 2) && decide (args.length = 3)) = true) (h2 : decide (stw rest ≤ 8) = true) : (decide (kd < 2) && decide (mna 139 = 3) && decide (args.length = 3) && decide (stw rest ≤ 8)) = true := by rw [show mna 139 = 3 by decide +kernel, h2, Bool.and_true]; simpa using h1
theorem ss_140_2 {kd : Nat} {args rest : List AV} (h1 : (decide (kd < 2) && decide (args.length = 2)) = true) (h2 : decide (stw rest ≤ 8) = true) : (decide (kd < 2) && decide (mna 140 = 2) && decide (args.length = 2) && decide (stw rest ≤ 8)) = true := by rw [show mna 140 = 2 by decide +kernel, h2, Bool.and_true]; simpa using h1
theorem sr_141_7 {kd : Nat} {as rest : List AV} (h1 : (decide (2 ≤ kd) && decide (as.length + 1 = 3)) = true) (h2 : decide (stw rest ≤ 8) = true) : (decide (2 ≤ kd) && decide (mna 141 = 3) && decide (as.length + 1 = 3) && decide (stw rest ≤ 8) && decide (mow 141 = 7) && decide (7 < 8)) = true := by rw [show mna 141 = 3 by decide +kernel, show mow 141 = 7 by decide +kernel, h2]; simpa using h1
theorem sr_142_7 {kd : Nat} {as rest : List AV} (h1 : (decide (2 ≤ kd) && decide (as.length + 1 = 2)) = true) (h2 : decide (stw rest ≤ 8) = true) : (decide (2 ≤ kd) && decide (mna 142 = 2) && decide (as.length + 1 = 2) && decide (stw rest ≤ 8) && decide (mow 142 = 7) && decide (7 < 8)) = true := by rw [show mna 142 = 2 by decide +kernel, show mow 142 = 7 by decide +kernel, h2]; simpa using h1
theorem sr_143_7 {kd : Nat} {as rest : List AV} (h1 : (decide (2 ≤ kd) && decide (as.length + 1 = 2)) = true) (h2 : decide (stw rest ≤ 8) = true) : (decide (2 ≤ kd) && decide (mna 143 = 2) && decide (as.length + 1 = 2) && decide (stw rest ≤ 8) && decide (mow 143 = 7) && decide (7 < 8)) = true := by rw [show mna 143 = 2 by decide +kernel, show mow 143 = 7 by decide +kernel, h2]; simpa using h1
theorem sr_144_7 {kd : Nat} {as rest : List AV} (h1 : (decide (2 ≤ kd) && decide (as.length + 1 = 1)) = true) (h2 : decide (stw rest ≤ 8) = true) : (decide (2 ≤ kd) && decide (mna 144 = 1) && decide (as.length + 1 = 1) && decide (stw rest ≤ 8) && decide (mow 144 = 7) && decide (7 < 8)) = true := by rw [show mna 144 = 1 by decide +kernel, show mow 144 = 7 by decide +kernel, h2]; simpa using h1
theorem sr_145_7 {kd : Nat} {as rest : List AV} (h1 : (decide (2 ≤ kd) && decide (as.length + 1 = 2)) = true) (h2 : decide (stw rest ≤ 8) = true) : (decide (2 ≤ kd) && decide (mna 145 = 2) && decide (as.length + 1 = 2) && decide (stw rest ≤ 8) && decide (mow 145 = 7) && decide (7 < 8)) = true := by rw [show mna 145 = 2 by decide +kernel, show mow 145 = 7 by decide +kernel, h2]; simpa using h1
theorem ss_146_6 {kd : Nat} {args rest : List AV} (h1 : (decide (kd < 2) && decide (args.length = 6)) = true) (h2 : decide (stw rest ≤ 8) = true) : (decide (kd < 2) && decide (mna 146 = 6) && decide (args.length = 6) && decide (stw rest ≤ 8)) = true := by rw [show mna 146 = 6 by decide +kernel, h2, Bool.and_true]; simpa using h1
theorem sr_147_7 {kd : Nat} {as rest : List AV} (h1 : (decide (2 ≤ kd) && decide (as.length + 1 = 1)) = true) (h2 : decide (stw rest ≤ 8) = true) : (decide (2 ≤ kd) && decide (mna 147 = 1) && decide (as.length + 1 = 1) && decide (stw rest ≤ 8) && decide (mow 147 = 7) && decide (7 < 8)) = true := by rw [show mna 147 = 1 by decide +kernel, show mow 147 = 7 by decide +kernel, h2]; simpa using h1
theorem sr_148_7 {kd : Nat} {as rest : List AV} (h1 : (decide (2 ≤ kd) && decide (as.length + 1 = 3)) = true) (h2 : decide (stw rest ≤ 8) = true) : (decide (2 ≤ kd) && decide (mna 148 = 3) && decide (as.length + 1 = 3) && decide (stw rest ≤ 8) && decide (mow 148 = 7) && decide (7 < 8)) = true := by rw [show mna 148 = 3 by decide +kernel, show mow 148 = 7 by decide +kernel, h2]; simpa using h1
theorem sr_149_7 {kd : Nat} {as rest : List AV} (h1 : (decide (2 ≤ kd) && decide (as.length + 1 = 2)) = true) (h2 : decide (stw rest ≤ 8) = true) : (decide (2 ≤ kd) && decide (mna 149 = 2) && decide (as.length + 1 = 2) && decide (stw rest ≤ 8) && decide (mow 149 = 7) && decide (7 < 8)) = true := by rw [show mna 149 = 2 by decide +kernel, show mow 149 = 7 by decide +kernel, h2]; simpa using h1
theorem sr_150_7 {kd : Nat} {as rest : List AV} (h1 : (decide (2 ≤ kd) && decide (as.length + 1 = 1)) = true) (h2 : decide (stw rest ≤ 8) = true) : (decide (2 ≤ kd) && decide (mna 150 = 1) && decide (as.length + 1 = 1) && decide (stw rest ≤ 8) && decide (mow 150 = 7) && decide (7 < 8)) = true := by rw [show mna 150 = 1 by decide +kernel, show mow 150 = 7 by decide +kernel, h2]; simpa using h1
theorem sr_151_7 {kd : Nat} {as rest : List AV} (h1 : (decide (2 ≤ kd) && decide (as.length + 1 = 1)) = true) (h2 : decide (stw rest ≤ 8) = true) : (decide (2 ≤ kd) && decide (mna 151 = 1) && decide (as.length + 1 = 1) && decide (stw rest ≤ 8) && decide (mow 151 = 7) && decide (7 < 8)) = true := by rw [show mna 151 = 1 by decide +kernel, show mow 151 = 7 by decide +kernel, h2]; simpa using h1
theorem sr_152_7 {kd : Nat} {as rest : List AV} (h1 : (decide (2 ≤ kd) && decide (as.length + 1 = 1)) = true) (h2 : decide (stw rest ≤ 8) = true) : (decide (2 ≤ kd) && decide (mna 152 = 1) && decide (as.length + 1 = 1) && decide (stw rest ≤ 8) && decide (mow 152 = 7) && decide (7 < 8)) = true := by rw [show mna 152 = 1 by decide +kernel, show mow 152 = 7 by decide +kernel, h2]; simpa using h1
theorem sr_153_7 {kd : Nat} {as rest : List AV} (h1 : (decide (2 ≤ kd) && decide (as.length + 1 = 1)) = true) (h2 : decide (stw rest ≤ 8) = true) : (decide (2 ≤ kd) && decide (mna 153 = 1) && decide (as.length + 1 = 1) && decide (stw rest ≤ 8) && decide (mow 153 = 7) && decide (7 < 8)) = true := by rw [show mna 153 = 1 by decide +kernel, show mow 153 = 7 by decide +kernel, h2]; simpa using h1
theorem sr_154_7 {kd : Nat} {as rest : List AV} (h1 : (decide (2 ≤ kd) && decide (as.length + 1 = 1)) = true) (h2 : decide (stw rest ≤ 8) = true) : (decide (2 ≤ kd) && decide (mna 154 = 1) && decide (as.length + 1 = 1) && decide (stw rest ≤ 8) && decide (mow 154 = 7) && decide (7 < 8)) = true := by rw [show mna 154 = 1 by decide +kernel, show mow 154 = 7 by decide +kernel, h2]; simpa using h1
theorem sr_155_7 {kd : Nat} {as rest : List AV} (h1 : (decide (2 ≤ kd) && decide (as.length + 1 = 2)) = true) (h2 : decide (stw rest ≤ 8) = true) : (decide (2 ≤ kd) && decide (mna 155 = 2) && decide (as.length + 1 = 2) && decide (stw rest ≤ 8) && decide (mow 155 = 7) && decide (7 < 8)) = true := by rw [show mna 155 = 2 by decide +kernel, show mow 155 = 7 by decide +kernel, h2]; simpa using h1
theorem sr_156_7 {kd : Nat} {as rest : List AV} (h1 : (decide (2 ≤ kd) && decide (as.length + 1 = 1)) = true) (h2 : decide (stw rest ≤ 8) = true) : (decide (2 ≤ kd) && decide (mna 156 = 1) && decide (as.length + 1 = 1) && decide (stw rest ≤ 8) && decide (mow 156 = 7) && decide (7 < 8)) = true := by rw [show mna 156 = 1 by decide +kernel, show mow 156 = 7 by decide +kernel, h2]; simpa using h1
theorem sr_157_7 {kd : Nat} {as rest : List AV} (h1 : (decide (2 ≤ kd) && decide (as.length + 1 = 1)) = true) (h2 : decide (stw rest ≤ 8) = true) : (decide (2 ≤ kd) && decide (mna 157 = 1) && decide (as.length + 1 = 1) && decide (stw rest ≤ 8) && decide (mow 157 = 7) && decide (7 < 8)) = true := by rw [show mna 157 = 1 by decide +kernel, show mow 157 = 7 by decide +kernel, h2]; simpa using h1
theorem sr_158_7 {kd : Nat} {as rest : List AV} (h1 : (decide (2 ≤ kd) && decide (as.length + 1 = 2)) = true) (h2 : decide (stw rest ≤ 8) = true) : (decide (2 ≤ kd) && decide (mna 158 = 2) && decide (as.length + 1 = 2) && decide (stw rest ≤ 8) && decide (mow 158 = 7) && decide (7 < 8)) = true := by rw [show mna 158 = 2 by decide +kernel, show mow 158 = 7 by decide +kernel, h2]; simpa using h1
theorem sr_159_7 {kd : Nat} {as rest : List AV} (h1 : (decide (2 ≤ kd) && decide (as.length + 1 = 3)) = true) (h2 : decide (stw rest ≤ 8) = true) : (decide (2 ≤ kd) && decide (mna 159 = 3) && decide (as.length + 1 = 3) && decide (stw rest ≤ 8) && decide (mow 159 = 7) && decide (7 < 8)) = true := by rw [show mna 159 = 3 by decide +kernel, show mow 159 = 7 by decide +kernel, h2]; simpa using h1
theorem sr_160_7 {kd : Nat} {as rest : List AV} (h1 : (decide (2 ≤ kd) && decide (as.length + 1 = 2)) = true) (h2 : decide (stw rest ≤ 8) = true) : (decide (2 ≤ kd) && decide (mna 160 = 2) && decide (as.length + 1 = 2) && decide (stw rest ≤ 8) && decide (mow 160 = 7) && decide (7 < 8)) = true := by rw [show mna 160 = 2 by decide +kernel, show mow 160 = 7 by decide +kernel, h2]; simpa using h1
theorem sr_161_7 {kd : Nat} {as rest : List AV} (h1 : (decide (2 ≤ kd) && decide (as.length + 1 = 1)) = true) (h2 : decide (stw rest ≤ 8) = true) : (decide (2 ≤ kd) && decide (mna 161 = 1) && decide (as.length + 1 = 1) && decide (stw rest ≤ 8) && decide (mow 161 = 7) && decide (7 < 8)) = true := by rw [show mna 161 = 1 by decide +kernel, show mow 161 = 7 by decide +kernel, h2]; simpa using h1
theorem sr_162_7 {kd : Nat} {as rest : List AV} (h1 : (decide (2 ≤ kd) && decide (as.length + 1 = 3)) = true) (h2 : decide (stw rest ≤ 8) = true) : (decide (2 ≤ kd) && decide (mna 162 = 3) && decide (as.length + 1 = 3) && decide (stw rest ≤ 8) && decide (mow 162 = 7) && decide (7 < 8)) = true := by rw [show mna 162 = 3 by decide +kernel, show mow 162 = 7 by decide +kernel, h2]; simpa using h1
theorem sr_163_7 {kd : Nat} {as rest : List AV} (h1 : (decide (2 ≤ kd) && decide (as.length + 1 = 3)) = true) (h2 : decide (stw rest ≤ 8) = true) : (decide (2 ≤ kd) && decide (mna 163 = 3) && decide (as.length + 1 = 3) && decide (stw rest ≤ 8) && decide (mow 163 = 7) && decide (7 < 8)) = true := by rw [show mna 163 = 3 by decide +kernel, show mow 163 = 7 by decide +kernel, h2]; simpa using h1
theorem sr_164_7 {kd : Nat} {as rest : List AV} (h1 : (decide (2 ≤ kd) && decide (as.length + 1 = 3)) = true) (h2 : decide (stw rest ≤ 8) = true) : (decide (2 ≤ kd) && decide (mna 164 = 3) && decide (as.length + 1 = 3) && decide (stw rest ≤ 8) && decide (mow 164 = 7) && decide (7 < 8)) = true := by rw [show mna 164 = 3 by decide +kernel, show mow 164 = 7 by decide +kernel, h2]; simpa using h1
theorem sr_165_7 {kd : Nat} {as rest : List AV} (h1 : (decide (2 ≤ kd) && decide (as.length + 1 = 3)) = true) (h2 : decide (stw rest ≤ 8) = true) : (decide (2 ≤ kd) && decide (mna 165 = 3) && decide (as.length + 1 = 3) && decide (stw rest ≤ 8) && decide (mow 165 = 7) && decide (7 < 8)) = true := by rw [show mna 165 = 3 by decide +kernel, show mow 165 = 7 by decide +kernel, h2]; simpa using h1
theorem sr_166_7 {kd : Nat} {as rest : List AV} (h1 : (decide (2 ≤ kd) && decide (as.length + 1 = 2)) = true) (h2 : decide (stw rest ≤ 8) = true) : (decide (2 ≤ kd) && decide (mna 166 = 2) && decide (as.length + 1 = 2) && decide (stw rest ≤ 8) && decide (mow 166 = 7) && decide (7 < 8)) = true := by rw [show mna 166 = 2 by decide +kernel, show mow 166 = 7 by decide +kernel, h2]; simpa using h1
theorem ss_167_2 {kd : Nat} {args rest : List AV} (h1 : (decide (kd < 2) && decide (args.length = 2)) = true) (h2 : decide (stw rest ≤ 8) = true) : (decide (kd < 2) && decide (mna 167 = 2) && decide (args.length = 2) && decide (stw rest ≤ 8)) = true := by rw [show mna 167 = 2 by decide +kernel, h2, Bool.and_true]; simpa using h1
theorem sr_168_7 {kd : Nat} {as rest : List AV} (h1 : (decide (2 ≤ kd) && decide (as.length + 1 = 4)) = true) (h2 : decide (stw rest ≤ 8) = true) : (decide (2 ≤ kd) && decide (mna 168 = 4) && decide (as.length + 1 = 4) && decide (stw rest ≤ 8) && decide (mow 168 = 7) && decide (7 < 8)) = true := by rw [show mna 168 = 4 by decide +kernel, show mow 168 = 7 by decide +kernel, h2]; simpa using h1
theorem sr_169_7 {kd : Nat} {as rest : List AV} (h1 : (decide (2 ≤ kd) && decide (as.length + 1 = 3)) = true) (h2 : decide (stw rest ≤ 8) = true) : (decide (2 ≤ kd) && decide (mna 169 = 3) && decide (as.length + 1 = 3) && decide (stw rest ≤ 8) && decide (mow 169 = 7) && decide (7 < 8)) = true := by rw [show mna 169 = 3 by decide +kernel, show mow 169 = 7 by decide +kernel, h2]; simpa using h1
theorem sr_170_7 {kd : Nat} {as rest : List AV} (h1 : (decide (2 ≤ kd) && decide (as.length + 1 = 3)) = true) (h2 : decide (stw rest ≤ 8) = true) : (decide (2 ≤ kd) && decide (mna 170 = 3) && decide (as.length + 1 = 3) && decide (stw rest ≤ 8) && decide (mow 170 = 7) && decide (7 < 8)) = true := by rw [show mna 170 = 3 by decide +kernel, show mow 170 = 7 by decide +kernel, h2]; simpa using h1
theorem sr_171_7 {kd : Nat} {as rest : List AV} (h1 : (decide (2 ≤ kd) && decide (as.length + 1 = 2)) = true) (h2 : decide (stw rest ≤ 8) = true) : (decide (2 ≤ kd) && decide (mna 171 = 2) && decide (as.length + 1 = 2) && decide (stw rest ≤ 8) && decide (mow 171 = 7) && decide (7 < 8)) = true := by rw [show mna 171 = 2 by decide +kernel, show mow 171 = 7 by decide +kernel, h2]; simpa using h1
theorem sr_172_7 {kd : Nat} {as rest : List AV} (h1 : (decide (2 ≤ kd) && decide (as.length + 1 = 2)) = true) (h2 : decide (stw rest ≤ 8) = true) : (decide (2 ≤ kd) && decide (mna 172 = 2) && decide (as.length + 1 = 2) && decide (stw rest ≤ 8) && decide (mow 172 = 7) && decide (7 < 8)) = true := by rw [show mna 172 = 2 by decide +kernel, show mow 172 = 7 by decide +kernel, h2]; simpa using h1
theorem sr_173_7 {kd : Nat} {as rest : List AV} (h1 : (decide (2 ≤ kd) && decide (as.length + 1 = 3)) = true) (h2 : decide (stw rest ≤ 8) = true) : (decide (2 ≤ kd) && decide (mna 173 = 3) && decide (as.length + 1 = 3) && decide (stw rest ≤ 8) && decide (mow 173 = 7) && decide (7 < 8)) = true := by rw [show mna 173 = 3 by decide +kernel, show mow 173 = 7 by decide +kernel, h2]; simpa using h1
theorem sr_174_7 {kd : Nat} {as rest : List AV} (h1 : (decide (2 ≤ kd) && decide (as.length + 1 = 6)) = true) (h2 : decide (stw rest ≤ 8) = true) : (decide (2 ≤ kd) && decide (mna 174 = 6) && decide (as.length + 1 = 6) && decide (stw rest ≤ 8) && decide (mow 174 = 7) && decide (7 < 8)) = true := by rw [show mna 174 = 6 by decide +kernel, show mow 174 = 7 by decide +kernel, h2]; simpa using h1
theorem sr_175_7 {kd : Nat} {as rest : List AV} (h1 : (decide (2 ≤ kd) && decide (as.length + 1 = 2)) = true) (h2 : decide (stw rest ≤ 8) = true) : (decide (2 ≤ kd) && decide (mna 175 = 2) && decide (as.length + 1 = 2) && decide (stw rest ≤ 8) && decide (mow 175 = 7) && decide (7 < 8)) = true := by rw [show mna 175 = 2 by decide +kernel, show mow 175 = 7 by decide +kernel, h2]; simpa using h1
theorem sr_176_7 {kd : Nat} {as rest : List AV} (h1 : (decide (2 ≤ kd) && decide (as.length + 1 = 1)) = true) (h2 : decide (stw rest ≤ 8) = true) : (decide (2 ≤ kd) && decide (mna 176 = 1) && decide (as.length + 1 = 1) && decide (stw rest ≤ 8) && decide (mow 176 = 7) && decide (7 < 8)) = true := by rw [show mna 176 = 1 by decide +kernel, show mow 176 = 7 by decide +kernel, h2]; simpa using h1
theorem sr_177_7 {kd : Nat} {as rest : List AV} (h1 : (decide (2 ≤ kd) && decide (as.length + 1 = 2)) = true) (h2 : decide (stw rest ≤ 8) = true) : (decide (2 ≤ kd) && decide (mna 177 = 2) && decide (as.length + 1 = 2) && decide (stw rest ≤ 8) && decide (mow 177 = 7) && decide (7 < 8)) = true := by rw [show mna 177 = 2 by decide +kernel, show mow 177 = 7 by decide +kernel, h2]; simpa using h1
theorem sr_178_7 {kd : Nat} {as rest : List AV} (h1 : (decide (2 ≤ kd) && decide (as.length + 1 = 4)) = true) (h2 : decide (stw rest ≤ 8) = true) : (decide (2 ≤ kd) && decide (mna 178 = 4) && decide (as.length + 1 = 4) && decide (stw rest ≤ 8) && decide (mow 178 = 7) && decide (7 < 8)) = true := by rw [show mna 178 = 4 by decide +kernel, show mow 178 = 7 by decide +kernel, h2]; simpa using h1
theorem sr_179_7 {kd : Nat} {as rest : List AV} (h1 : (decide (2 ≤ kd) && decide (as.length + 1 = 2)) = true) (h2 : decide (stw rest ≤ 8) = true) : (decide (2 ≤ kd) && decide (mna 179 = 2) && decide (as.length + 1 = 2) && decide (stw rest ≤ 8) && decide (mow 179 = 7) && decide (7 < 8)) = true := by rw [show mna 179 = 2 by decide +kernel, show mow 179 = 7 by decide +kernel, h2]; simpa using h1
theorem sr_180_7 {kd : Nat} {as rest : List AV} (h1 : (decide (2 ≤ kd) && decide (as.length + 1 = 6)) = true) (h2 : decide (stw rest ≤ 8) = true) : (decide (2 ≤ kd) && decide (mna 180 = 6) && decide (as.length + 1 = 6) && decide (stw rest ≤ 8) && decide (mow 180 = 7) && decide (7 < 8)) = true := by rw [show mna 180 = 6 by decide +kernel, show mow 180 = 7 by decide +kernel, h2]; simpa using h1
theorem sr_181_7 {kd : Nat} {as rest : List AV} (h1 : (decide (2 ≤ kd) && decide (as.length + 1 = 5)) = true) (h2 : decide (stw rest ≤ 8) = true) : (decide (2 ≤ kd) && decide (mna 181 = 5) && decide (as.length + 1 = 5) && decide (stw rest ≤ 8) && decide (mow 181 = 7) && decide (7 < 8)) = true := by rw [show mna 181 = 5 by decide +kernel, show mow 181 = 7 by decide +kernel, h2]; simpa using h1
theorem sr_182_7 {kd : Nat} {as rest : List AV} (h1 : (decide (2 ≤ kd) && decide (as.length + 1 = 2)) = true) (h2 : decide (stw rest ≤ 8) = true) : (decide (2 ≤ kd) && decide (mna 182 = 2) && decide (as.length + 1 = 2) && decide (stw rest ≤ 8) && decide (mow 182 = 7) && decide (7 < 8)) = true := by rw [show mna 182 = 2 by decide +kernel, show mow 182 = 7 by decide +kernel, h2]; simpa using h1
theorem sr_183_7 {kd : Nat} {as rest : List AV} (h1 : (decide (2 ≤ kd) && decide (as.length + 1 = 2)) = true) (h2 : decide (stw rest ≤ 8) = true) : (decide (2 ≤ kd) && decide (mna 183 = 2) && decide (as.length + 1 = 2) && decide (stw rest ≤ 8) && decide (mow 183 = 7) && decide (7 < 8)) = true := by rw [show mna 183 = 2 by decide +kernel, show mow 183 = 7 by decide +kernel, h2]; simpa using h1
theorem sr_184_7 {kd : Nat} {as rest : List AV} (h1 : (decide (2 ≤ kd) && decide (as.length + 1 = 2)) = true) (h2 : decide (stw rest ≤ 8) = true) : (decide (2 ≤ kd) && decide (mna 184 = 2) && decide (as.length + 1 = 2) && decide (stw rest ≤ 8) && decide (mow 184 = 7) && decide (7 < 8)) = true := by rw [show mna 184 = 2 by decide +kernel, show mow 184 = 7 by decide +kernel, h2]; simpa using h1
theorem sr_185_7 {kd : Nat} {as rest : List AV} (h1 : (decide (2 ≤ kd) && decide (as.length + 1 = 2)) = true) (h2 : decide (stw rest ≤ 8) = true) : (decide (2 ≤ kd) && decide (mna 185 = 2) && decide (as.length + 1 = 2) && decide (stw rest ≤ 8) && decide (mow 185 = 7) && decide (7 < 8)) = true := by rw [show mna 185 = 2 by decide +kernel, show mow 185 = 7 by decide +kernel, h2]; simpa using h1
theorem sr_186_7 {kd : Nat} {as rest : List AV} (h1 : (decide (2 ≤ kd) && decide (as.length + 1 = 2)) = true) (h2 : decide (stw rest ≤ 8) = true) : (decide (2 ≤ kd) && decide (mna 186 = 2) && decide (as.length + 1 = 2) && decide (stw rest ≤ 8) && decide (mow 186 = 7) && decide (7 < 8)) = true := by rw [show mna 186 = 2 by decide +kernel, show mow 186 = 7 by decide +kernel, h2]; simpa using h1
theorem sr_187_7 {kd : Nat} {as rest : List AV} (h1 : (decide (2 ≤ kd) && decide (as.length + 1 = 2)) = true) (h2 : decide (stw rest ≤ 8) = true) : (decide (2 ≤ kd) && decide (mna 187 = 2) && decide (as.length + 1 = 2) && decide (stw rest ≤ 8) && decide (mow 187 = 7) && decide (7 < 8)) = true := by rw [show mna 187 = 2 by decide +kernel, show mow 187 = 7 by decide +kernel, h2]; simpa using h1
theorem sr_188_7 {kd : Nat} {as rest : List AV} (h1 : (decide (2 ≤ kd) && decide (as.length + 1 = 2)) = true) (h2 : decide (stw rest ≤ 8) = true) : (decide (2 ≤ kd) && decide (mna 188 = 2) && decide (as.length + 1 = 2) && decide (stw rest ≤ 8) && decide (mow 188 = 7) && decide (7 < 8)) = true := by rw [show mna 188 = 2 by decide +kernel, show mow 188 = 7 by decide +kernel, h2]; simpa using h1
theorem sr_189_7 {kd : Nat} {as rest : List AV} (h1 : (decide (2 ≤ kd) && decide (as.length + 1 = 4)) = true) (h2 : decide (stw rest ≤ 8) = true) : (decide (2 ≤ kd) && decide (mna 189 = 4) && decide (as.length + 1 = 4) && decide (stw rest ≤ 8) && decide (mow 189 = 7) && decide (7 < 8)) = true := by rw [show mna 189 = 4 by decide +kernel, show mow 189 = 7 by decide +kernel, h2]; simpa using h1
theorem sr_190_7 {kd : Nat} {as rest : List AV} (h1 : (decide (2 ≤ kd) && decide (as.length + 1 = 4)) = true) (h2 : decide (stw rest ≤ 8) = true) : (decide (2 ≤ kd) && decide (mna 190 = 4) && decide (as.length + 1 = 4) && decide (stw rest ≤ 8) && decide (mow 190 = 7) && decide (7 < 8)) = true := by rw [show mna 190 = 4 by decide +kernel, show mow 190 = 7 by decide +kernel, h2]; simpa using h1
theorem sr_191_7 {kd : Nat} {as rest : List AV} (h1 : (decide (2 ≤ kd) && decide (as.length + 1 = 3)) = true) (h2 : decide (stw rest ≤ 8) = true) : (decide (2 ≤ kd) && decide (mna 191 = 3) && decide (as.length + 1 = 3) && decide (stw rest ≤ 8) && decide (mow 191 = 7) && decide (7 < 8)) = true := by rw [show mna 191 = 3 by decide +kernel, show mow 191 = 7 by decide +kernel, h2]; simpa using h1
theorem ss_192_2 {kd : Nat} {args rest : List AV} (h1 : (decide (kd < 2) && decide (args.length = 2)) = true) (h2 : decide (stw rest ≤ 8) = true) : (decide (kd < 2) && decide (mna 192 = 2) && decide (args.length = 2) && decide (stw rest ≤ 8)) = true := by rw [show mna 192 = 2 by decide +kernel, h2, Bool.and_true]; simpa using h1
theorem sr_193_7 {kd : Nat} {as rest : List AV} (h1 : (decide (2 ≤ kd) && decide (as.length + 1 = 4)) = true) (h2 : decide (stw rest ≤ 8) = true) : (decide (2 ≤ kd) && decide (mna 193 = 4) && decide (as.length + 1 = 4) && decide (stw rest ≤ 8) && decide (mow 193 = 7) && decide (7 < 8)) = true := by rw [show mna 193 = 4 by decide +kernel, show mow 193 = 7 by decide +kernel, h2]; simpa using h1
theorem sr_194_7 {kd : Nat} {as rest : List AV} (h1 : (decide (2 ≤ kd) && decide (as.length + 1 = 3)) = true) (h2 : decide (stw rest ≤ 8) = true) : (decide (2 ≤ kd) && decide (mna 194 = 3) && decide (as.length + 1 = 3) && decide (stw rest ≤ 8) && decide (mow 194 = 7) && decide (7 < 8)) = true := by rw [show mna 194 = 3 by decide +kernel, show mow 194 = 7 by decide +kernel, h2]; simpa using h1
theorem sr_195_7 {kd : Nat} {as rest : List AV} (h1 : (decide (2 ≤ kd) && decide (as.length + 1 = 2)) = true) (h2 : decide (stw rest ≤ 8) = true) : (decide (2 ≤ kd) && decide (mna 195 = 2) && decide (as.length + 1 = 2) && decide (stw rest ≤ 8) && decide (mow 195 = 7) && decide (7 < 8)) = true := by rw [show mna 195 = 2 by decide +kernel, show mow 195 = 7 by decide +kernel, h2]; simpa using h1
theorem sr_196_7 {kd : Nat} {as rest : List AV} (h1 : (decide (2 ≤ kd) && decide (as.length + 1 = 2)) = true) (h2 : decide (stw rest ≤ 8) = true) : (decide (2 ≤ kd) && decide (mna 196 = 2) && decide (as.length + 1 = 2) && decide (stw rest ≤ 8) && decide (mow 196 = 7) && decide (7 < 8)) = true := by rw [show mna 196 = 2 by decide +kernel, show mow 196 = 7 by decide +kernel, h2]; simpa using h1
theorem sr_197_7 {kd : Nat} {as rest : List AV} (h1 : (decide (2 ≤ kd) && decide (as.length + 1 = 2)) = true) (h2 : decide (stw rest ≤ 8) = true) : (decide (2 ≤ kd) && decide (mna 197 = 2) && decide (as.length + 1 = 2) && decide (stw rest ≤ 8) && decide (mow 197 = 7) && decide (7 < 8)) = true := by rw [show mna 197 = 2 by decide +kernel, show mow 197 = 7 by decide +kernel, h2]; simpa using h1
theorem sr_198_7 {kd : Nat} {as rest : List AV} (h1 : (decide (2 ≤ kd) && decide (as.length + 1 = 2)) = true) (h2 : decide (stw rest ≤ 8) = true) : (decide (2 ≤ kd) && decide (mna 198 = 2) && decide (as.length + 1 = 2) && decide (stw rest ≤ 8) && decide (mow 198 = 7) && decide (7 < 8)) = true := by rw [show mna 198 = 2 by decide +kernel, show mow 198 = 7 by decide +kernel, h2]; simpa using h1
theorem sr_199_7 {kd : Nat} {as rest : List AV} (h1 : (decide (2 ≤ kd) && decide (as.length + 1 = 2)) = true) (h2 : decide (stw rest ≤ 8) = true) : (decide (2 ≤ kd) && decide (mna 199 = 2) && decide (as.length + 1 = 2) && decide (stw rest ≤ 8) && decide (mow 199 = 7) && decide (7 < 8)) = true := by rw [show mna 199 = 2 by decide +kernel, show mow 199 = 7 by decide +kernel, h2]; simpa using h1
theorem sr_200_7 {kd : Nat} {as rest : List AV} (h1 : (decide (2 ≤ kd) && decide (as.length + 1 = 2)) = true) (h2 : decide (stw rest ≤ 8) = true) : (decide (2 ≤ kd) && decide (mna 200 = 2) && decide (as.length + 1 = 2) && decide (stw rest ≤ 8) && decide (mow 200 = 7) && decide (7 < 8)) = true := by rw [show mna 200 = 2 by decide +kernel, show mow 200 = 7 by decide +kernel, h2]; simpa using h1
theorem sr_201_7 {kd : Nat} {as rest : List AV} (h1 : (decide (2 ≤ kd) && decide (as.length + 1 = 4)) = true) (h2 : decide (stw rest ≤ 8) = true) : (decide (2 ≤ kd) && decide (mna 201 = 4) && decide (as.length + 1 = 4) && decide (stw rest ≤ 8) && decide (mow 201 = 7) && decide (7 < 8)) = true := by rw [show mna 201 = 4 by decide +kernel, show mow 201 = 7 by decide +kernel, h2]; simpa using h1
theorem sr_202_7 {kd : Nat} {as rest : List AV} (h1 : (decide (2 ≤ kd) && decide (as.length + 1 = 1)) = true) (h2 : decide (stw rest ≤ 8) = true) : (decide (2 ≤ kd) && decide (mna 202 = 1) && decide (as.length + 1 = 1) && decide (stw rest ≤ 8) && decide (mow 202 = 7) && decide (7 < 8)) = true := by rw [show mna 202 = 1 by decide +kernel, show mow 202 = 7 by decide +kernel, h2]; simpa using h1
theorem ss_203_2 {kd : Nat} {args rest : List AV} (h1 : (decide (kd < 2) && decide (args.length = 2)) = true) (h2 : decide (stw rest ≤ 8) = true) : (decide (kd < 2) && decide (mna 203 = 2) && decide (args.length = 2) && decide (stw rest ≤ 8)) = true := by rw [show mna 203 = 2 by decide +kernel, h2, Bool.and_true]; simpa using h1
theorem sg_205_1 {kd : Nat} {args rest : List AV} (h1 : (decide (2 ≤ kd) && decide (args.length = 1)) = true) (h2 : decide (stw rest ≤ 8) = true) : (decide (2 ≤ kd) && decide (mna 205 = 1) && decide (args.length = 1) && decide (stw rest ≤ 8)) = true := by rw [show mna 205 = 1 by decide +kernel, h2, Bool.and_true]; simpa using h1
theorem sg_206_2 {kd : Nat} {args rest : List AV} (h1 : (decide (2 ≤ kd) && decide (args.length = 2)) = true) (h2 : decide (stw rest ≤ 8) = true) : (decide (2 ≤ kd) && decide (mna 206 = 2) && decide (args.length = 2) && decide (stw rest ≤ 8)) = true := by rw [show mna 206 = 2 by decide +kernel, h2, Bool.and_true]; simpa using h1
