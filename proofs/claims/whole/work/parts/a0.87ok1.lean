set_option maxRecDepth 100000 in
theorem bk_ok_60 : bk_okP (bk_m 60) P_60 = true ∧ 4 = (bk_m 60).2.2.1 := by decide +kernel
set_option maxRecDepth 100000 in
theorem bk_ok_61 : bk_okP (bk_m 61) P_61 = true ∧ 6 = (bk_m 61).2.2.1 := by decide +kernel
set_option maxRecDepth 100000 in
theorem bk_ok_62 : bk_okP (bk_m 62) P_62 = true ∧ 5 = (bk_m 62).2.2.1 := by decide +kernel
set_option maxRecDepth 100000 in
theorem bk_ok_63 : bk_okP (bk_m 63) P_63 = true ∧ 3 = (bk_m 63).2.2.1 := by decide +kernel
set_option maxRecDepth 100000 in
theorem bk_ok_64 : bk_okP (bk_m 64) P_64 = true ∧ 2 = (bk_m 64).2.2.1 := by decide +kernel
set_option maxRecDepth 100000 in
theorem bk_ok_65 : bk_okP (bk_m 65) P_65 = true ∧ 5 = (bk_m 65).2.2.1 := by decide +kernel
set_option maxRecDepth 100000 in
theorem bk_ok_66 : bk_okP (bk_m 66) P_66 = true ∧ 2 = (bk_m 66).2.2.1 := by decide +kernel
set_option maxRecDepth 100000 in
theorem bk_ok_67 : bk_okP (bk_m 67) P_67 = true ∧ 4 = (bk_m 67).2.2.1 := by decide +kernel
set_option maxRecDepth 100000 in
theorem bk_ok_68 : bk_okP (bk_m 68) P_68 = true ∧ 4 = (bk_m 68).2.2.1 := by decide +kernel
set_option maxRecDepth 100000 in
theorem bk_ok_69 : bk_okP (bk_m 69) P_69 = true ∧ 3 = (bk_m 69).2.2.1 := by decide +kernel
set_option maxRecDepth 100000 in
theorem bk_ok_70 : bk_okP (bk_m 70) P_70 = true ∧ 5 = (bk_m 70).2.2.1 := by decide +kernel
set_option maxRecDepth 100000 in
theorem bk_ok_71 : bk_okP (bk_m 71) P_71 = true ∧ 1 = (bk_m 71).2.2.1 := by decide +kernel
set_option maxRecDepth 100000 in
theorem bk_ok_72 : bk_okP (bk_m 72) P_72 = true ∧ 2 = (bk_m 72).2.2.1 := by decide +kernel
set_option maxRecDepth 100000 in
theorem bk_ok_73 : bk_okP (bk_m 73) P_73 = true ∧ 1 = (bk_m 73).2.2.1 := by decide +kernel
set_option maxRecDepth 100000 in
theorem bk_ok_74 : bk_okP (bk_m 74) P_74 = true ∧ 2 = (bk_m 74).2.2.1 := by decide +kernel
set_option maxRecDepth 100000 in
theorem bk_ok_75 : bk_okP (bk_m 75) P_75 = true ∧ 2 = (bk_m 75).2.2.1 := by decide +kernel
set_option maxRecDepth 100000 in
theorem bk_ok_76 : bk_okP (bk_m 76) P_76 = true ∧ 4 = (bk_m 76).2.2.1 := by decide +kernel
set_option maxRecDepth 100000 in
theorem bk_ok_77 : bk_okP (bk_m 77) P_77 = true ∧ 2 = (bk_m 77).2.2.1 := by decide +kernel
set_option maxRecDepth 100000 in
theorem bk_ok_78 : bk_okP (bk_m 78) P_78 = true ∧ 7 = (bk_m 78).2.2.1 := by decide +kernel
set_option maxRecDepth 100000 in
theorem bk_ok_79 : bk_okP (bk_m 79) P_79 = true ∧ 6 = (bk_m 79).2.2.1 := by decide +kernel
set_option maxRecDepth 100000 in
theorem bk_ok_80 : bk_okP (bk_m 80) P_80 = true ∧ 7 = (bk_m 80).2.2.1 := by decide +kernel
set_option maxRecDepth 100000 in
theorem bk_ok_81 : bk_okP (bk_m 81) P_81 = true ∧ 7 = (bk_m 81).2.2.1 := by decide +kernel
set_option maxRecDepth 100000 in
theorem bk_ok_82 : bk_okP (bk_m 82) P_82 = true ∧ 2 = (bk_m 82).2.2.1 := by decide +kernel
set_option maxRecDepth 100000 in
theorem bk_ok_83 : bk_okP (bk_m 83) P_83 = true ∧ 2 = (bk_m 83).2.2.1 := by decide +kernel
set_option maxRecDepth 100000 in
theorem bk_ok_84 : bk_okP (bk_m 84) P_84 = true ∧ 2 = (bk_m 84).2.2.1 := by decide +kernel
set_option maxRecDepth 100000 in
theorem bk_ok_85 : bk_okP (bk_m 85) P_85 = true ∧ 2 = (bk_m 85).2.2.1 := by decide +kernel
set_option maxRecDepth 100000 in
theorem bk_ok_86 : bk_okP (bk_m 86) P_86 = true ∧ 3 = (bk_m 86).2.2.1 := by decide +kernel
set_option maxRecDepth 100000 in
theorem bk_ok_87 : bk_okP (bk_m 87) P_87 = true ∧ 6 = (bk_m 87).2.2.1 := by decide +kernel
set_option maxRecDepth 100000 in
theorem bk_ok_88 : bk_okP (bk_m 88) P_88 = true ∧ 6 = (bk_m 88).2.2.1 := by decide +kernel
set_option maxRecDepth 100000 in
theorem bk_ok_89 : bk_okP (bk_m 89) P_89 = true ∧ 2 = (bk_m 89).2.2.1 := by decide +kernel
set_option maxRecDepth 100000 in
theorem bk_ok_90 : bk_okP (bk_m 90) P_90 = true ∧ 3 = (bk_m 90).2.2.1 := by decide +kernel
set_option maxRecDepth 100000 in
theorem bk_ok_91 : bk_okP (bk_m 91) P_91 = true ∧ 8 = (bk_m 91).2.2.1 := by decide +kernel
set_option maxRecDepth 100000 in
theorem bk_ok_92 : bk_okP (bk_m 92) P_92 = true ∧ 2 = (bk_m 92).2.2.1 := by decide +kernel
set_option maxRecDepth 100000 in
theorem bk_ok_93 : bk_okP (bk_m 93) P_93 = true ∧ 2 = (bk_m 93).2.2.1 := by decide +kernel
set_option maxRecDepth 100000 in
theorem bk_ok_94 : bk_okP (bk_m 94) P_94 = true ∧ 4 = (bk_m 94).2.2.1 := by decide +kernel
set_option maxRecDepth 100000 in
theorem bk_ok_95 : bk_okP (bk_m 95) P_95 = true ∧ 8 = (bk_m 95).2.2.1 := by decide +kernel
set_option maxRecDepth 100000 in
theorem bk_ok_96 : bk_okP (bk_m 96) P_96 = true ∧ 6 = (bk_m 96).2.2.1 := by decide +kernel
set_option maxRecDepth 100000 in
theorem bk_ok_97 : bk_okP (bk_m 97) P_97 = true ∧ 6 = (bk_m 97).2.2.1 := by decide +kernel
set_option maxRecDepth 100000 in
theorem bk_ok_98 : bk_okP (bk_m 98) P_98 = true ∧ 5 = (bk_m 98).2.2.1 := by decide +kernel
set_option maxRecDepth 100000 in
theorem bk_ok_99 : bk_okP (bk_m 99) P_99 = true ∧ 6 = (bk_m 99).2.2.1 := by decide +kernel
set_option maxRecDepth 100000 in
theorem bk_ok_100 : bk_okP (bk_m 100) P_100 = true ∧ 5 = (bk_m 100).2.2.1 := by decide +kernel
set_option maxRecDepth 100000 in
theorem bk_ok_101 : bk_okP (bk_m 101) P_101 = true ∧ 2 = (bk_m 101).2.2.1 := by decide +kernel
set_option maxRecDepth 100000 in
theorem bk_ok_102 : bk_okP (bk_m 102) P_102 = true ∧ 2 = (bk_m 102).2.2.1 := by decide +kernel
set_option maxRecDepth 100000 in
theorem bk_ok_103 : bk_okP (bk_m 103) P_103 = true ∧ 8 = (bk_m 103).2.2.1 := by decide +kernel
set_option maxRecDepth 100000 in
theorem bk_ok_104 : bk_okP (bk_m 104) P_104 = true ∧ 5 = (bk_m 104).2.2.1 := by decide +kernel
set_option maxRecDepth 100000 in
theorem bk_ok_105 : bk_okP (bk_m 105) P_105 = true ∧ 2 = (bk_m 105).2.2.1 := by decide +kernel
set_option maxRecDepth 100000 in
theorem bk_ok_106 : bk_okP (bk_m 106) P_106 = true ∧ 5 = (bk_m 106).2.2.1 := by decide +kernel
set_option maxRecDepth 100000 in
theorem bk_ok_107 : bk_okP (bk_m 107) P_107 = true ∧ 5 = (bk_m 107).2.2.1 := by decide +kernel
set_option maxRecDepth 100000 in
theorem bk_ok_108 : bk_okP (bk_m 108) P_108 = true ∧ 2 = (bk_m 108).2.2.1 := by decide +kernel
set_option maxRecDepth 100000 in
theorem bk_ok_109 : bk_okP (bk_m 109) P_109 = true ∧ 3 = (bk_m 109).2.2.1 := by decide +kernel
set_option maxRecDepth 100000 in
theorem bk_ok_110 : bk_okP (bk_m 110) P_110 = true ∧ 2 = (bk_m 110).2.2.1 := by decide +kernel
set_option maxRecDepth 100000 in
theorem bk_ok_111 : bk_okP (bk_m 111) P_111 = true ∧ 4 = (bk_m 111).2.2.1 := by decide +kernel
set_option maxRecDepth 100000 in
theorem bk_ok_112 : bk_okP (bk_m 112) P_112 = true ∧ 4 = (bk_m 112).2.2.1 := by decide +kernel
set_option maxRecDepth 100000 in
theorem bk_ok_113 : bk_okP (bk_m 113) P_113 = true ∧ 5 = (bk_m 113).2.2.1 := by decide +kernel
set_option maxRecDepth 100000 in
theorem bk_ok_114 : bk_okP (bk_m 114) P_114 = true ∧ 1 = (bk_m 114).2.2.1 := by decide +kernel
set_option maxRecDepth 100000 in
theorem bk_ok_115 : bk_okP (bk_m 115) P_115 = true ∧ 4 = (bk_m 115).2.2.1 := by decide +kernel
set_option maxRecDepth 100000 in
theorem bk_ok_116 : bk_okP (bk_m 116) P_116 = true ∧ 2 = (bk_m 116).2.2.1 := by decide +kernel
set_option maxRecDepth 100000 in
theorem bk_ok_117 : bk_okP (bk_m 117) P_117 = true ∧ 4 = (bk_m 117).2.2.1 := by decide +kernel
set_option maxRecDepth 100000 in
theorem bk_ok_118 : bk_okP (bk_m 118) P_118 = true ∧ 4 = (bk_m 118).2.2.1 := by decide +kernel
set_option maxRecDepth 100000 in
theorem bk_ok_119 : bk_okP (bk_m 119) P_119 = true ∧ 7 = (bk_m 119).2.2.1 := by decide +kernel
theorem bk_okT_80 : ∀ a, a < 80 → bk_ok1 a := lt_s (lt_s (lt_s (lt_s (lt_s (lt_s (lt_s (lt_s (lt_s (lt_s (lt_s (lt_s (lt_s (lt_s (lt_s (lt_s (lt_s (lt_s (lt_s (lt_s (bk_okT_60) bk_ok_60) bk_ok_61) bk_ok_62) bk_ok_63) bk_ok_64) bk_ok_65) bk_ok_66) bk_ok_67) bk_ok_68) bk_ok_69) bk_ok_70) bk_ok_71) bk_ok_72) bk_ok_73) bk_ok_74) bk_ok_75) bk_ok_76) bk_ok_77) bk_ok_78) bk_ok_79
theorem bk_okT_100 : ∀ a, a < 100 → bk_ok1 a := lt_s (lt_s (lt_s (lt_s (lt_s (lt_s (lt_s (lt_s (lt_s (lt_s (lt_s (lt_s (lt_s (lt_s (lt_s (lt_s (lt_s (lt_s (lt_s (lt_s (bk_okT_80) bk_ok_80) bk_ok_81) bk_ok_82) bk_ok_83) bk_ok_84) bk_ok_85) bk_ok_86) bk_ok_87) bk_ok_88) bk_ok_89) bk_ok_90) bk_ok_91) bk_ok_92) bk_ok_93) bk_ok_94) bk_ok_95) bk_ok_96) bk_ok_97) bk_ok_98) bk_ok_99
theorem bk_okT_120 : ∀ a, a < 120 → bk_ok1 a := lt_s (lt_s (lt_s (lt_s (lt_s (lt_s (lt_s (lt_s (lt_s (lt_s (lt_s (lt_s (lt_s (lt_s (lt_s (lt_s (lt_s (lt_s (lt_s (lt_s (bk_okT_100) bk_ok_100) bk_ok_101) bk_ok_102) bk_ok_103) bk_ok_104) bk_ok_105) bk_ok_106) bk_ok_107) bk_ok_108) bk_ok_109) bk_ok_110) bk_ok_111) bk_ok_112) bk_ok_113) bk_ok_114) bk_ok_115) bk_ok_116) bk_ok_117) bk_ok_118) bk_ok_119
