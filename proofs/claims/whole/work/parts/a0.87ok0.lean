set_option maxRecDepth 100000 in
theorem bk_ok_0 : bk_okP (bk_m 0) P_0 = true ∧ 2 = (bk_m 0).2.2.1 := by decide +kernel
set_option maxRecDepth 100000 in
theorem bk_ok_1 : bk_okP (bk_m 1) P_1 = true ∧ 6 = (bk_m 1).2.2.1 := by decide +kernel
set_option maxRecDepth 100000 in
theorem bk_ok_2 : bk_okP (bk_m 2) P_2 = true ∧ 3 = (bk_m 2).2.2.1 := by decide +kernel
set_option maxRecDepth 100000 in
theorem bk_ok_3 : bk_okP (bk_m 3) P_3 = true ∧ 2 = (bk_m 3).2.2.1 := by decide +kernel
set_option maxRecDepth 100000 in
theorem bk_ok_4 : bk_okP (bk_m 4) P_4 = true ∧ 3 = (bk_m 4).2.2.1 := by decide +kernel
set_option maxRecDepth 100000 in
theorem bk_ok_5 : bk_okP (bk_m 5) P_5 = true ∧ 4 = (bk_m 5).2.2.1 := by decide +kernel
set_option maxRecDepth 100000 in
theorem bk_ok_6 : bk_okP (bk_m 6) P_6 = true ∧ 2 = (bk_m 6).2.2.1 := by decide +kernel
set_option maxRecDepth 100000 in
theorem bk_ok_7 : bk_okP (bk_m 7) P_7 = true ∧ 2 = (bk_m 7).2.2.1 := by decide +kernel
set_option maxRecDepth 100000 in
theorem bk_ok_8 : bk_okP (bk_m 8) P_8 = true ∧ 1 = (bk_m 8).2.2.1 := by decide +kernel
set_option maxRecDepth 100000 in
theorem bk_ok_9 : bk_okP (bk_m 9) P_9 = true ∧ 1 = (bk_m 9).2.2.1 := by decide +kernel
set_option maxRecDepth 100000 in
theorem bk_ok_10 : bk_okP (bk_m 10) P_10 = true ∧ 8 = (bk_m 10).2.2.1 := by decide +kernel
set_option maxRecDepth 100000 in
theorem bk_ok_11 : bk_okP (bk_m 11) P_11 = true ∧ 5 = (bk_m 11).2.2.1 := by decide +kernel
set_option maxRecDepth 100000 in
theorem bk_ok_12 : bk_okP (bk_m 12) P_12 = true ∧ 1 = (bk_m 12).2.2.1 := by decide +kernel
set_option maxRecDepth 100000 in
theorem bk_ok_13 : bk_okP (bk_m 13) P_13 = true ∧ 3 = (bk_m 13).2.2.1 := by decide +kernel
set_option maxRecDepth 100000 in
theorem bk_ok_14 : bk_okP (bk_m 14) P_14 = true ∧ 3 = (bk_m 14).2.2.1 := by decide +kernel
set_option maxRecDepth 100000 in
theorem bk_ok_15 : bk_okP (bk_m 15) P_15 = true ∧ 3 = (bk_m 15).2.2.1 := by decide +kernel
set_option maxRecDepth 100000 in
theorem bk_ok_16 : bk_okP (bk_m 16) P_16 = true ∧ 2 = (bk_m 16).2.2.1 := by decide +kernel
set_option maxRecDepth 100000 in
theorem bk_ok_17 : bk_okP (bk_m 17) P_17 = true ∧ 3 = (bk_m 17).2.2.1 := by decide +kernel
set_option maxRecDepth 100000 in
theorem bk_ok_18 : bk_okP (bk_m 18) P_18 = true ∧ 4 = (bk_m 18).2.2.1 := by decide +kernel
set_option maxRecDepth 100000 in
theorem bk_ok_19 : bk_okP (bk_m 19) P_19 = true ∧ 4 = (bk_m 19).2.2.1 := by decide +kernel
set_option maxRecDepth 100000 in
theorem bk_ok_20 : bk_okP (bk_m 20) P_20 = true ∧ 3 = (bk_m 20).2.2.1 := by decide +kernel
set_option maxRecDepth 100000 in
theorem bk_ok_21 : bk_okP (bk_m 21) P_21 = true ∧ 3 = (bk_m 21).2.2.1 := by decide +kernel
set_option maxRecDepth 100000 in
theorem bk_ok_22 : bk_okP (bk_m 22) P_22 = true ∧ 5 = (bk_m 22).2.2.1 := by decide +kernel
set_option maxRecDepth 100000 in
theorem bk_ok_23 : bk_okP (bk_m 23) P_23 = true ∧ 4 = (bk_m 23).2.2.1 := by decide +kernel
set_option maxRecDepth 100000 in
theorem bk_ok_24 : bk_okP (bk_m 24) P_24 = true ∧ 1 = (bk_m 24).2.2.1 := by decide +kernel
set_option maxRecDepth 100000 in
theorem bk_ok_25 : bk_okP (bk_m 25) P_25 = true ∧ 3 = (bk_m 25).2.2.1 := by decide +kernel
set_option maxRecDepth 100000 in
theorem bk_ok_26 : bk_okP (bk_m 26) P_26 = true ∧ 5 = (bk_m 26).2.2.1 := by decide +kernel
set_option maxRecDepth 100000 in
theorem bk_ok_27 : bk_okP (bk_m 27) P_27 = true ∧ 4 = (bk_m 27).2.2.1 := by decide +kernel
set_option maxRecDepth 100000 in
theorem bk_ok_28 : bk_okP (bk_m 28) P_28 = true ∧ 2 = (bk_m 28).2.2.1 := by decide +kernel
set_option maxRecDepth 100000 in
theorem bk_ok_29 : bk_okP (bk_m 29) P_29 = true ∧ 3 = (bk_m 29).2.2.1 := by decide +kernel
set_option maxRecDepth 100000 in
theorem bk_ok_30 : bk_okP (bk_m 30) P_30 = true ∧ 2 = (bk_m 30).2.2.1 := by decide +kernel
set_option maxRecDepth 100000 in
theorem bk_ok_31 : bk_okP (bk_m 31) P_31 = true ∧ 1 = (bk_m 31).2.2.1 := by decide +kernel
set_option maxRecDepth 100000 in
theorem bk_ok_32 : bk_okP (bk_m 32) P_32 = true ∧ 2 = (bk_m 32).2.2.1 := by decide +kernel
set_option maxRecDepth 100000 in
theorem bk_ok_33 : bk_okP (bk_m 33) P_33 = true ∧ 2 = (bk_m 33).2.2.1 := by decide +kernel
set_option maxRecDepth 100000 in
theorem bk_ok_34 : bk_okP (bk_m 34) P_34 = true ∧ 2 = (bk_m 34).2.2.1 := by decide +kernel
set_option maxRecDepth 100000 in
theorem bk_ok_35 : bk_okP (bk_m 35) P_35 = true ∧ 7 = (bk_m 35).2.2.1 := by decide +kernel
set_option maxRecDepth 100000 in
theorem bk_ok_36 : bk_okP (bk_m 36) P_36 = true ∧ 6 = (bk_m 36).2.2.1 := by decide +kernel
set_option maxRecDepth 100000 in
theorem bk_ok_37 : bk_okP (bk_m 37) P_37 = true ∧ 1 = (bk_m 37).2.2.1 := by decide +kernel
set_option maxRecDepth 100000 in
theorem bk_ok_38 : bk_okP (bk_m 38) P_38 = true ∧ 1 = (bk_m 38).2.2.1 := by decide +kernel
set_option maxRecDepth 100000 in
theorem bk_ok_39 : bk_okP (bk_m 39) P_39 = true ∧ 1 = (bk_m 39).2.2.1 := by decide +kernel
set_option maxRecDepth 100000 in
theorem bk_ok_40 : bk_okP (bk_m 40) P_40 = true ∧ 4 = (bk_m 40).2.2.1 := by decide +kernel
set_option maxRecDepth 100000 in
theorem bk_ok_41 : bk_okP (bk_m 41) P_41 = true ∧ 4 = (bk_m 41).2.2.1 := by decide +kernel
set_option maxRecDepth 100000 in
theorem bk_ok_42 : bk_okP (bk_m 42) P_42 = true ∧ 4 = (bk_m 42).2.2.1 := by decide +kernel
set_option maxRecDepth 100000 in
theorem bk_ok_43 : bk_okP (bk_m 43) P_43 = true ∧ 4 = (bk_m 43).2.2.1 := by decide +kernel
set_option maxRecDepth 100000 in
theorem bk_ok_44 : bk_okP (bk_m 44) P_44 = true ∧ 2 = (bk_m 44).2.2.1 := by decide +kernel
set_option maxRecDepth 100000 in
theorem bk_ok_45 : bk_okP (bk_m 45) P_45 = true ∧ 2 = (bk_m 45).2.2.1 := by decide +kernel
set_option maxRecDepth 100000 in
theorem bk_ok_46 : bk_okP (bk_m 46) P_46 = true ∧ 3 = (bk_m 46).2.2.1 := by decide +kernel
set_option maxRecDepth 100000 in
theorem bk_ok_47 : bk_okP (bk_m 47) P_47 = true ∧ 1 = (bk_m 47).2.2.1 := by decide +kernel
set_option maxRecDepth 100000 in
theorem bk_ok_48 : bk_okP (bk_m 48) P_48 = true ∧ 5 = (bk_m 48).2.2.1 := by decide +kernel
set_option maxRecDepth 100000 in
theorem bk_ok_49 : bk_okP (bk_m 49) P_49 = true ∧ 5 = (bk_m 49).2.2.1 := by decide +kernel
set_option maxRecDepth 100000 in
theorem bk_ok_50 : bk_okP (bk_m 50) P_50 = true ∧ 2 = (bk_m 50).2.2.1 := by decide +kernel
set_option maxRecDepth 100000 in
theorem bk_ok_51 : bk_okP (bk_m 51) P_51 = true ∧ 3 = (bk_m 51).2.2.1 := by decide +kernel
set_option maxRecDepth 100000 in
theorem bk_ok_52 : bk_okP (bk_m 52) P_52 = true ∧ 3 = (bk_m 52).2.2.1 := by decide +kernel
set_option maxRecDepth 100000 in
theorem bk_ok_53 : bk_okP (bk_m 53) P_53 = true ∧ 3 = (bk_m 53).2.2.1 := by decide +kernel
set_option maxRecDepth 100000 in
theorem bk_ok_54 : bk_okP (bk_m 54) P_54 = true ∧ 4 = (bk_m 54).2.2.1 := by decide +kernel
set_option maxRecDepth 100000 in
theorem bk_ok_55 : bk_okP (bk_m 55) P_55 = true ∧ 7 = (bk_m 55).2.2.1 := by decide +kernel
set_option maxRecDepth 100000 in
theorem bk_ok_56 : bk_okP (bk_m 56) P_56 = true ∧ 5 = (bk_m 56).2.2.1 := by decide +kernel
set_option maxRecDepth 100000 in
theorem bk_ok_57 : bk_okP (bk_m 57) P_57 = true ∧ 2 = (bk_m 57).2.2.1 := by decide +kernel
set_option maxRecDepth 100000 in
theorem bk_ok_58 : bk_okP (bk_m 58) P_58 = true ∧ 2 = (bk_m 58).2.2.1 := by decide +kernel
set_option maxRecDepth 100000 in
theorem bk_ok_59 : bk_okP (bk_m 59) P_59 = true ∧ 4 = (bk_m 59).2.2.1 := by decide +kernel
theorem bk_okT_20 : ∀ a, a < 20 → bk_ok1 a := lt_s (lt_s (lt_s (lt_s (lt_s (lt_s (lt_s (lt_s (lt_s (lt_s (lt_s (lt_s (lt_s (lt_s (lt_s (lt_s (lt_s (lt_s (lt_s (lt_s (lt_0) bk_ok_0) bk_ok_1) bk_ok_2) bk_ok_3) bk_ok_4) bk_ok_5) bk_ok_6) bk_ok_7) bk_ok_8) bk_ok_9) bk_ok_10) bk_ok_11) bk_ok_12) bk_ok_13) bk_ok_14) bk_ok_15) bk_ok_16) bk_ok_17) bk_ok_18) bk_ok_19
theorem bk_okT_40 : ∀ a, a < 40 → bk_ok1 a := lt_s (lt_s (lt_s (lt_s (lt_s (lt_s (lt_s (lt_s (lt_s (lt_s (lt_s (lt_s (lt_s (lt_s (lt_s (lt_s (lt_s (lt_s (lt_s (lt_s (bk_okT_20) bk_ok_20) bk_ok_21) bk_ok_22) bk_ok_23) bk_ok_24) bk_ok_25) bk_ok_26) bk_ok_27) bk_ok_28) bk_ok_29) bk_ok_30) bk_ok_31) bk_ok_32) bk_ok_33) bk_ok_34) bk_ok_35) bk_ok_36) bk_ok_37) bk_ok_38) bk_ok_39
theorem bk_okT_60 : ∀ a, a < 60 → bk_ok1 a := lt_s (lt_s (lt_s (lt_s (lt_s (lt_s (lt_s (lt_s (lt_s (lt_s (lt_s (lt_s (lt_s (lt_s (lt_s (lt_s (lt_s (lt_s (lt_s (lt_s (bk_okT_40) bk_ok_40) bk_ok_41) bk_ok_42) bk_ok_43) bk_ok_44) bk_ok_45) bk_ok_46) bk_ok_47) bk_ok_48) bk_ok_49) bk_ok_50) bk_ok_51) bk_ok_52) bk_ok_53) bk_ok_54) bk_ok_55) bk_ok_56) bk_ok_57) bk_ok_58) bk_ok_59
