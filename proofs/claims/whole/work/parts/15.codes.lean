/-! the code words of the methods -/
set_option maxRecDepth 100000 in
theorem cw_3 : Cond.code (mY 3) (mB 3) (mL 3) (mR 3) ∈ GW := gw_at 263 rfl rfl
set_option maxRecDepth 100000 in
theorem cw_4 : Cond.code (mY 4) (mB 4) (mL 4) (mR 4) ∈ GW := gw_at 273 rfl rfl
set_option maxRecDepth 100000 in
theorem cw_5 : Cond.code (mY 5) (mB 5) (mL 5) (mR 5) ∈ GW := gw_at 257 rfl rfl
set_option maxRecDepth 100000 in
theorem cw_6 : Cond.code (mY 6) (mB 6) (mL 6) (mR 6) ∈ GW := gw_at 620 rfl rfl
set_option maxRecDepth 100000 in
theorem cw_7 : Cond.code (mY 7) (mB 7) (mL 7) (mR 7) ∈ GW := gw_at 624 rfl rfl
set_option maxRecDepth 100000 in
theorem cw_8 : Cond.code (mY 8) (mB 8) (mL 8) (mR 8) ∈ GW := gw_at 267 rfl rfl
set_option maxRecDepth 100000 in
theorem cw_9 : Cond.code (mY 9) (mB 9) (mL 9) (mR 9) ∈ GW := gw_at 253 rfl rfl
set_option maxRecDepth 100000 in
theorem cw_10 : Cond.code (mY 10) (mB 10) (mL 10) (mR 10) ∈ GW := gw_at 631 rfl rfl
set_option maxRecDepth 100000 in
theorem cw_11 : Cond.code (mY 11) (mB 11) (mL 11) (mR 11) ∈ GW := gw_at 270 rfl rfl
set_option maxRecDepth 100000 in
theorem cw_12 : Cond.code (mY 12) (mB 12) (mL 12) (mR 12) ∈ GW := gw_at 628 rfl rfl
set_option maxRecDepth 100000 in
theorem cw_13 : Cond.code (mY 13) (mB 13) (mL 13) (mR 13) ∈ GW := gw_at 638 rfl rfl
set_option maxRecDepth 100000 in
theorem cw_14 : Cond.code (mY 14) (mB 14) (mL 14) (mR 14) ∈ GW := gw_at 278 rfl rfl
set_option maxRecDepth 100000 in
theorem cw_15 : Cond.code (mY 15) (mB 15) (mL 15) (mR 15) ∈ GW := gw_at 409 rfl rfl
set_option maxRecDepth 100000 in
theorem cw_16 : Cond.code (mY 16) (mB 16) (mL 16) (mR 16) ∈ GW := gw_at 945 rfl rfl
set_option maxRecDepth 100000 in
theorem cw_17 : Cond.code (mY 17) (mB 17) (mL 17) (mR 17) ∈ GW := gw_at 1102 rfl rfl
set_option maxRecDepth 100000 in
theorem cw_18 : Cond.code (mY 18) (mB 18) (mL 18) (mR 18) ∈ GW := gw_at 978 rfl rfl
set_option maxRecDepth 100000 in
theorem cw_19 : Cond.code (mY 19) (mB 19) (mL 19) (mR 19) ∈ GW := gw_at 974 rfl rfl
set_option maxRecDepth 100000 in
theorem cw_20 : Cond.code (mY 20) (mB 20) (mL 20) (mR 20) ∈ GW := gw_at 1054 rfl rfl
set_option maxRecDepth 100000 in
theorem cw_21 : Cond.code (mY 21) (mB 21) (mL 21) (mR 21) ∈ GW := gw_at 1050 rfl rfl
set_option maxRecDepth 100000 in
theorem cw_22 : Cond.code (mY 22) (mB 22) (mL 22) (mR 22) ∈ GW := gw_at 460 rfl rfl
set_option maxRecDepth 100000 in
theorem cw_23 : Cond.code (mY 23) (mB 23) (mL 23) (mR 23) ∈ GW := gw_at 800 rfl rfl
set_option maxRecDepth 100000 in
theorem cw_24 : Cond.code (mY 24) (mB 24) (mL 24) (mR 24) ∈ GW := gw_at 797 rfl rfl
set_option maxRecDepth 100000 in
theorem cw_25 : Cond.code (mY 25) (mB 25) (mL 25) (mR 25) ∈ GW := gw_at 793 rfl rfl
set_option maxRecDepth 100000 in
theorem cw_26 : Cond.code (mY 26) (mB 26) (mL 26) (mR 26) ∈ GW := gw_at 826 rfl rfl
set_option maxRecDepth 100000 in
theorem cw_27 : Cond.code (mY 27) (mB 27) (mL 27) (mR 27) ∈ GW := gw_at 857 rfl rfl
set_option maxRecDepth 100000 in
theorem cw_28 : Cond.code (mY 28) (mB 28) (mL 28) (mR 28) ∈ GW := gw_at 882 rfl rfl
set_option maxRecDepth 100000 in
theorem cw_29 : Cond.code (mY 29) (mB 29) (mL 29) (mR 29) ∈ GW := gw_at 895 rfl rfl
set_option maxRecDepth 100000 in
theorem cw_30 : Cond.code (mY 30) (mB 30) (mL 30) (mR 30) ∈ GW := gw_at 900 rfl rfl
set_option maxRecDepth 100000 in
theorem cw_31 : Cond.code (mY 31) (mB 31) (mL 31) (mR 31) ∈ GW := gw_at 890 rfl rfl
set_option maxRecDepth 100000 in
theorem cw_32 : Cond.code (mY 32) (mB 32) (mL 32) (mR 32) ∈ GW := gw_at 935 rfl rfl
set_option maxRecDepth 100000 in
theorem cw_33 : Cond.code (mY 33) (mB 33) (mL 33) (mR 33) ∈ GW := gw_at 941 rfl rfl
set_option maxRecDepth 100000 in
theorem cw_34 : Cond.code (mY 34) (mB 34) (mL 34) (mR 34) ∈ GW := gw_at 949 rfl rfl
set_option maxRecDepth 100000 in
theorem cw_35 : Cond.code (mY 35) (mB 35) (mL 35) (mR 35) ∈ GW := gw_at 1031 rfl rfl
set_option maxRecDepth 100000 in
theorem cw_36 : Cond.code (mY 36) (mB 36) (mL 36) (mR 36) ∈ GW := gw_at 139 rfl rfl
set_option maxRecDepth 100000 in
theorem cw_37 : Cond.code (mY 37) (mB 37) (mL 37) (mR 37) ∈ GW := gw_at 730 rfl rfl
set_option maxRecDepth 100000 in
theorem cw_38 : Cond.code (mY 38) (mB 38) (mL 38) (mR 38) ∈ GW := gw_at 734 rfl rfl
set_option maxRecDepth 100000 in
theorem cw_39 : Cond.code (mY 39) (mB 39) (mL 39) (mR 39) ∈ GW := gw_at 836 rfl rfl
set_option maxRecDepth 100000 in
theorem cw_40 : Cond.code (mY 40) (mB 40) (mL 40) (mR 40) ∈ GW := gw_at 844 rfl rfl
set_option maxRecDepth 100000 in
theorem cw_41 : Cond.code (mY 41) (mB 41) (mL 41) (mR 41) ∈ GW := gw_at 849 rfl rfl
set_option maxRecDepth 100000 in
theorem cw_42 : Cond.code (mY 42) (mB 42) (mL 42) (mR 42) ∈ GW := gw_at 852 rfl rfl
set_option maxRecDepth 100000 in
theorem cw_43 : Cond.code (mY 43) (mB 43) (mL 43) (mR 43) ∈ GW := gw_at 441 rfl rfl
set_option maxRecDepth 100000 in
theorem cw_44 : Cond.code (mY 44) (mB 44) (mL 44) (mR 44) ∈ GW := gw_at 1082 rfl rfl
set_option maxRecDepth 100000 in
theorem cw_45 : Cond.code (mY 45) (mB 45) (mL 45) (mR 45) ∈ GW := gw_at 419 rfl rfl
set_option maxRecDepth 100000 in
theorem cw_46 : Cond.code (mY 46) (mB 46) (mL 46) (mR 46) ∈ GW := gw_at 766 rfl rfl
set_option maxRecDepth 100000 in
theorem cw_47 : Cond.code (mY 47) (mB 47) (mL 47) (mR 47) ∈ GW := gw_at 912 rfl rfl
set_option maxRecDepth 100000 in
theorem cw_48 : Cond.code (mY 48) (mB 48) (mL 48) (mR 48) ∈ GW := gw_at 962 rfl rfl
set_option maxRecDepth 100000 in
theorem cw_49 : Cond.code (mY 49) (mB 49) (mL 49) (mR 49) ∈ GW := gw_at 480 rfl rfl
set_option maxRecDepth 100000 in
theorem cw_50 : Cond.code (mY 50) (mB 50) (mL 50) (mR 50) ∈ GW := gw_at 986 rfl rfl
set_option maxRecDepth 100000 in
theorem cw_51 : Cond.code (mY 51) (mB 51) (mL 51) (mR 51) ∈ GW := gw_at 990 rfl rfl
set_option maxRecDepth 100000 in
theorem cw_52 : Cond.code (mY 52) (mB 52) (mL 52) (mR 52) ∈ GW := gw_at 1001 rfl rfl
set_option maxRecDepth 100000 in
theorem cw_53 : Cond.code (mY 53) (mB 53) (mL 53) (mR 53) ∈ GW := gw_at 997 rfl rfl
set_option maxRecDepth 100000 in
theorem cw_54 : Cond.code (mY 54) (mB 54) (mL 54) (mR 54) ∈ GW := gw_at 127 rfl rfl
set_option maxRecDepth 100000 in
theorem cw_55 : Cond.code (mY 55) (mB 55) (mL 55) (mR 55) ∈ GW := gw_at 579 rfl rfl
set_option maxRecDepth 100000 in
theorem cw_56 : Cond.code (mY 56) (mB 56) (mL 56) (mR 56) ∈ GW := gw_at 583 rfl rfl
set_option maxRecDepth 100000 in
theorem cw_57 : Cond.code (mY 57) (mB 57) (mL 57) (mR 57) ∈ GW := gw_at 682 rfl rfl
set_option maxRecDepth 100000 in
theorem cw_58 : Cond.code (mY 58) (mB 58) (mL 58) (mR 58) ∈ GW := gw_at 694 rfl rfl
set_option maxRecDepth 100000 in
theorem cw_59 : Cond.code (mY 59) (mB 59) (mL 59) (mR 59) ∈ GW := gw_at 678 rfl rfl
set_option maxRecDepth 100000 in
theorem cw_60 : Cond.code (mY 60) (mB 60) (mL 60) (mR 60) ∈ GW := gw_at 698 rfl rfl
set_option maxRecDepth 100000 in
theorem cw_61 : Cond.code (mY 61) (mB 61) (mL 61) (mR 61) ∈ GW := gw_at 686 rfl rfl
set_option maxRecDepth 100000 in
theorem cw_62 : Cond.code (mY 62) (mB 62) (mL 62) (mR 62) ∈ GW := gw_at 706 rfl rfl
set_option maxRecDepth 100000 in
theorem cw_63 : Cond.code (mY 63) (mB 63) (mL 63) (mR 63) ∈ GW := gw_at 710 rfl rfl
set_option maxRecDepth 100000 in
theorem cw_64 : Cond.code (mY 64) (mB 64) (mL 64) (mR 64) ∈ GW := gw_at 738 rfl rfl
set_option maxRecDepth 100000 in
theorem cw_65 : Cond.code (mY 65) (mB 65) (mL 65) (mR 65) ∈ GW := gw_at 742 rfl rfl
set_option maxRecDepth 100000 in
theorem cw_66 : Cond.code (mY 66) (mB 66) (mL 66) (mR 66) ∈ GW := gw_at 746 rfl rfl
set_option maxRecDepth 100000 in
theorem cw_67 : Cond.code (mY 67) (mB 67) (mL 67) (mR 67) ∈ GW := gw_at 750 rfl rfl
set_option maxRecDepth 100000 in
theorem cw_68 : Cond.code (mY 68) (mB 68) (mL 68) (mR 68) ∈ GW := gw_at 754 rfl rfl
set_option maxRecDepth 100000 in
theorem cw_69 : Cond.code (mY 69) (mB 69) (mL 69) (mR 69) ∈ GW := gw_at 758 rfl rfl
set_option maxRecDepth 100000 in
theorem cw_70 : Cond.code (mY 70) (mB 70) (mL 70) (mR 70) ∈ GW := gw_at 690 rfl rfl
set_option maxRecDepth 100000 in
theorem cw_71 : Cond.code (mY 71) (mB 71) (mL 71) (mR 71) ∈ GW := gw_at 702 rfl rfl
set_option maxRecDepth 100000 in
theorem cw_72 : Cond.code (mY 72) (mB 72) (mL 72) (mR 72) ∈ GW := gw_at 714 rfl rfl
set_option maxRecDepth 100000 in
theorem cw_73 : Cond.code (mY 73) (mB 73) (mL 73) (mR 73) ∈ GW := gw_at 718 rfl rfl
set_option maxRecDepth 100000 in
theorem cw_74 : Cond.code (mY 74) (mB 74) (mL 74) (mR 74) ∈ GW := gw_at 722 rfl rfl
set_option maxRecDepth 100000 in
theorem cw_75 : Cond.code (mY 75) (mB 75) (mL 75) (mR 75) ∈ GW := gw_at 726 rfl rfl
set_option maxRecDepth 100000 in
theorem cw_76 : Cond.code (mY 76) (mB 76) (mL 76) (mR 76) ∈ GW := gw_at 247 rfl rfl
set_option maxRecDepth 100000 in
theorem cw_77 : Cond.code (mY 77) (mB 77) (mL 77) (mR 77) ∈ GW := gw_at 300 rfl rfl
set_option maxRecDepth 100000 in
theorem cw_78 : Cond.code (mY 78) (mB 78) (mL 78) (mR 78) ∈ GW := gw_at 587 rfl rfl
set_option maxRecDepth 100000 in
theorem cw_79 : Cond.code (mY 79) (mB 79) (mL 79) (mR 79) ∈ GW := gw_at 594 rfl rfl
set_option maxRecDepth 100000 in
theorem cw_80 : Cond.code (mY 80) (mB 80) (mL 80) (mR 80) ∈ GW := gw_at 604 rfl rfl
set_option maxRecDepth 100000 in
theorem cw_81 : Cond.code (mY 81) (mB 81) (mL 81) (mR 81) ∈ GW := gw_at 608 rfl rfl
set_option maxRecDepth 100000 in
theorem cw_82 : Cond.code (mY 82) (mB 82) (mL 82) (mR 82) ∈ GW := gw_at 615 rfl rfl
set_option maxRecDepth 100000 in
theorem cw_83 : Cond.code (mY 83) (mB 83) (mL 83) (mR 83) ∈ GW := gw_at 597 rfl rfl
set_option maxRecDepth 100000 in
theorem cw_84 : Cond.code (mY 84) (mB 84) (mL 84) (mR 84) ∈ GW := gw_at 600 rfl rfl
set_option maxRecDepth 100000 in
theorem cw_85 : Cond.code (mY 85) (mB 85) (mL 85) (mR 85) ∈ GW := gw_at 611 rfl rfl
set_option maxRecDepth 100000 in
theorem cw_86 : Cond.code (mY 86) (mB 86) (mL 86) (mR 86) ∈ GW := gw_at 497 rfl rfl
set_option maxRecDepth 100000 in
theorem cw_87 : Cond.code (mY 87) (mB 87) (mL 87) (mR 87) ∈ GW := gw_at 367 rfl rfl
set_option maxRecDepth 100000 in
theorem cw_88 : Cond.code (mY 88) (mB 88) (mL 88) (mR 88) ∈ GW := gw_at 519 rfl rfl
set_option maxRecDepth 100000 in
theorem cw_89 : Cond.code (mY 89) (mB 89) (mL 89) (mR 89) ∈ GW := gw_at 916 rfl rfl
set_option maxRecDepth 100000 in
theorem cw_90 : Cond.code (mY 90) (mB 90) (mL 90) (mR 90) ∈ GW := gw_at 970 rfl rfl
set_option maxRecDepth 100000 in
theorem cw_91 : Cond.code (mY 91) (mB 91) (mL 91) (mR 91) ∈ GW := gw_at 790 rfl rfl
set_option maxRecDepth 100000 in
theorem cw_92 : Cond.code (mY 92) (mB 92) (mL 92) (mR 92) ∈ GW := gw_at 810 rfl rfl
set_option maxRecDepth 100000 in
theorem cw_93 : Cond.code (mY 93) (mB 93) (mL 93) (mR 93) ∈ GW := gw_at 925 rfl rfl
set_option maxRecDepth 100000 in
theorem cw_94 : Cond.code (mY 94) (mB 94) (mL 94) (mR 94) ∈ GW := gw_at 921 rfl rfl
set_option maxRecDepth 100000 in
theorem cw_95 : Cond.code (mY 95) (mB 95) (mL 95) (mR 95) ∈ GW := gw_at 133 rfl rfl
set_option maxRecDepth 100000 in
theorem cw_96 : Cond.code (mY 96) (mB 96) (mL 96) (mR 96) ∈ GW := gw_at 164 rfl rfl
set_option maxRecDepth 100000 in
theorem cw_97 : Cond.code (mY 97) (mB 97) (mL 97) (mR 97) ∈ GW := gw_at 861 rfl rfl
set_option maxRecDepth 100000 in
theorem cw_98 : Cond.code (mY 98) (mB 98) (mL 98) (mR 98) ∈ GW := gw_at 865 rfl rfl
set_option maxRecDepth 100000 in
theorem cw_99 : Cond.code (mY 99) (mB 99) (mL 99) (mR 99) ∈ GW := gw_at 831 rfl rfl
set_option maxRecDepth 100000 in
theorem cw_100 : Cond.code (mY 100) (mB 100) (mL 100) (mR 100) ∈ GW := gw_at 840 rfl rfl
set_option maxRecDepth 100000 in
theorem cw_101 : Cond.code (mY 101) (mB 101) (mL 101) (mR 101) ∈ GW := gw_at 953 rfl rfl
set_option maxRecDepth 100000 in
theorem cw_102 : Cond.code (mY 102) (mB 102) (mL 102) (mR 102) ∈ GW := gw_at 119 rfl rfl
set_option maxRecDepth 100000 in
theorem cw_103 : Cond.code (mY 103) (mB 103) (mL 103) (mR 103) ∈ GW := gw_at 563 rfl rfl
set_option maxRecDepth 100000 in
theorem cw_104 : Cond.code (mY 104) (mB 104) (mL 104) (mR 104) ∈ GW := gw_at 567 rfl rfl
set_option maxRecDepth 100000 in
theorem cw_105 : Cond.code (mY 105) (mB 105) (mL 105) (mR 105) ∈ GW := gw_at 571 rfl rfl
set_option maxRecDepth 100000 in
theorem cw_106 : Cond.code (mY 106) (mB 106) (mL 106) (mR 106) ∈ GW := gw_at 575 rfl rfl
set_option maxRecDepth 100000 in
theorem cw_107 : Cond.code (mY 107) (mB 107) (mL 107) (mR 107) ∈ GW := gw_at 762 rfl rfl
set_option maxRecDepth 100000 in
theorem cw_108 : Cond.code (mY 108) (mB 108) (mL 108) (mR 108) ∈ GW := gw_at 770 rfl rfl
set_option maxRecDepth 100000 in
theorem cw_109 : Cond.code (mY 109) (mB 109) (mL 109) (mR 109) ∈ GW := gw_at 778 rfl rfl
set_option maxRecDepth 100000 in
theorem cw_110 : Cond.code (mY 110) (mB 110) (mL 110) (mR 110) ∈ GW := gw_at 786 rfl rfl
set_option maxRecDepth 100000 in
theorem cw_111 : Cond.code (mY 111) (mB 111) (mL 111) (mR 111) ∈ GW := gw_at 874 rfl rfl
set_option maxRecDepth 100000 in
theorem cw_112 : Cond.code (mY 112) (mB 112) (mL 112) (mR 112) ∈ GW := gw_at 908 rfl rfl
set_option maxRecDepth 100000 in
theorem cw_113 : Cond.code (mY 113) (mB 113) (mL 113) (mR 113) ∈ GW := gw_at 774 rfl rfl
set_option maxRecDepth 100000 in
theorem cw_114 : Cond.code (mY 114) (mB 114) (mL 114) (mR 114) ∈ GW := gw_at 782 rfl rfl
set_option maxRecDepth 100000 in
theorem cw_115 : Cond.code (mY 115) (mB 115) (mL 115) (mR 115) ∈ GW := gw_at 818 rfl rfl
set_option maxRecDepth 100000 in
theorem cw_116 : Cond.code (mY 116) (mB 116) (mL 116) (mR 116) ∈ GW := gw_at 822 rfl rfl
set_option maxRecDepth 100000 in
theorem cw_117 : Cond.code (mY 117) (mB 117) (mL 117) (mR 117) ∈ GW := gw_at 870 rfl rfl
set_option maxRecDepth 100000 in
theorem cw_118 : Cond.code (mY 118) (mB 118) (mL 118) (mR 118) ∈ GW := gw_at 878 rfl rfl
set_option maxRecDepth 100000 in
theorem cw_119 : Cond.code (mY 119) (mB 119) (mL 119) (mR 119) ∈ GW := gw_at 886 rfl rfl
set_option maxRecDepth 100000 in
theorem cw_120 : Cond.code (mY 120) (mB 120) (mL 120) (mR 120) ∈ GW := gw_at 905 rfl rfl
set_option maxRecDepth 100000 in
theorem cw_121 : Cond.code (mY 121) (mB 121) (mL 121) (mR 121) ∈ GW := gw_at 931 rfl rfl
set_option maxRecDepth 100000 in
theorem cw_122 : Cond.code (mY 122) (mB 122) (mL 122) (mR 122) ∈ GW := gw_at 958 rfl rfl
set_option maxRecDepth 100000 in
theorem cw_123 : Cond.code (mY 123) (mB 123) (mL 123) (mR 123) ∈ GW := gw_at 966 rfl rfl
set_option maxRecDepth 100000 in
theorem cw_124 : Cond.code (mY 124) (mB 124) (mL 124) (mR 124) ∈ GW := gw_at 982 rfl rfl
set_option maxRecDepth 100000 in
theorem cw_125 : Cond.code (mY 125) (mB 125) (mL 125) (mR 125) ∈ GW := gw_at 1005 rfl rfl
set_option maxRecDepth 100000 in
theorem cw_126 : Cond.code (mY 126) (mB 126) (mL 126) (mR 126) ∈ GW := gw_at 1009 rfl rfl
set_option maxRecDepth 100000 in
theorem cw_127 : Cond.code (mY 127) (mB 127) (mL 127) (mR 127) ∈ GW := gw_at 1014 rfl rfl
set_option maxRecDepth 100000 in
theorem cw_128 : Cond.code (mY 128) (mB 128) (mL 128) (mR 128) ∈ GW := gw_at 1019 rfl rfl
set_option maxRecDepth 100000 in
theorem cw_129 : Cond.code (mY 129) (mB 129) (mL 129) (mR 129) ∈ GW := gw_at 1023 rfl rfl
set_option maxRecDepth 100000 in
theorem cw_130 : Cond.code (mY 130) (mB 130) (mL 130) (mR 130) ∈ GW := gw_at 1027 rfl rfl
set_option maxRecDepth 100000 in
theorem cw_131 : Cond.code (mY 131) (mB 131) (mL 131) (mR 131) ∈ GW := gw_at 1038 rfl rfl
set_option maxRecDepth 100000 in
theorem cw_132 : Cond.code (mY 132) (mB 132) (mL 132) (mR 132) ∈ GW := gw_at 1042 rfl rfl
set_option maxRecDepth 100000 in
theorem cw_133 : Cond.code (mY 133) (mB 133) (mL 133) (mR 133) ∈ GW := gw_at 1046 rfl rfl
set_option maxRecDepth 100000 in
theorem cw_134 : Cond.code (mY 134) (mB 134) (mL 134) (mR 134) ∈ GW := gw_at 1061 rfl rfl
set_option maxRecDepth 100000 in
theorem cw_135 : Cond.code (mY 135) (mB 135) (mL 135) (mR 135) ∈ GW := gw_at 1065 rfl rfl
set_option maxRecDepth 100000 in
theorem cw_136 : Cond.code (mY 136) (mB 136) (mL 136) (mR 136) ∈ GW := gw_at 1069 rfl rfl
set_option maxRecDepth 100000 in
theorem cw_137 : Cond.code (mY 137) (mB 137) (mL 137) (mR 137) ∈ GW := gw_at 1074 rfl rfl
set_option maxRecDepth 100000 in
theorem cw_138 : Cond.code (mY 138) (mB 138) (mL 138) (mR 138) ∈ GW := gw_at 1078 rfl rfl
set_option maxRecDepth 100000 in
theorem cw_139 : Cond.code (mY 139) (mB 139) (mL 139) (mR 139) ∈ GW := gw_at 1086 rfl rfl
set_option maxRecDepth 100000 in
theorem cw_140 : Cond.code (mY 140) (mB 140) (mL 140) (mR 140) ∈ GW := gw_at 1090 rfl rfl
set_option maxRecDepth 100000 in
theorem cw_141 : Cond.code (mY 141) (mB 141) (mL 141) (mR 141) ∈ GW := gw_at 1094 rfl rfl
set_option maxRecDepth 100000 in
theorem cw_142 : Cond.code (mY 142) (mB 142) (mL 142) (mR 142) ∈ GW := gw_at 1098 rfl rfl
set_option maxRecDepth 100000 in
theorem cw_143 : Cond.code (mY 143) (mB 143) (mL 143) (mR 143) ∈ GW := gw_at 1107 rfl rfl
set_option maxRecDepth 100000 in
theorem cw_144 : Cond.code (mY 144) (mB 144) (mL 144) (mR 144) ∈ GW := gw_at 1111 rfl rfl
set_option maxRecDepth 100000 in
theorem cw_145 : Cond.code (mY 145) (mB 145) (mL 145) (mR 145) ∈ GW := gw_at 1115 rfl rfl
set_option maxRecDepth 100000 in
theorem cw_146 : Cond.code (mY 146) (mB 146) (mL 146) (mR 146) ∈ GW := gw_at 804 rfl rfl
set_option maxRecDepth 100000 in
theorem cw_147 : Cond.code (mY 147) (mB 147) (mL 147) (mR 147) ∈ GW := gw_at 1120 rfl rfl
set_option maxRecDepth 100000 in
theorem cw_148 : Cond.code (mY 148) (mB 148) (mL 148) (mR 148) ∈ GW := gw_at 1346 rfl rfl
set_option maxRecDepth 100000 in
theorem cw_149 : Cond.code (mY 149) (mB 149) (mL 149) (mR 149) ∈ GW := gw_at 1350 rfl rfl
set_option maxRecDepth 100000 in
theorem cw_150 : Cond.code (mY 150) (mB 150) (mL 150) (mR 150) ∈ GW := gw_at 1354 rfl rfl
set_option maxRecDepth 100000 in
theorem cw_151 : Cond.code (mY 151) (mB 151) (mL 151) (mR 151) ∈ GW := gw_at 1366 rfl rfl
set_option maxRecDepth 100000 in
theorem cw_152 : Cond.code (mY 152) (mB 152) (mL 152) (mR 152) ∈ GW := gw_at 1376 rfl rfl
set_option maxRecDepth 100000 in
theorem cw_153 : Cond.code (mY 153) (mB 153) (mL 153) (mR 153) ∈ GW := gw_at 1373 rfl rfl
set_option maxRecDepth 100000 in
theorem cw_154 : Cond.code (mY 154) (mB 154) (mL 154) (mR 154) ∈ GW := gw_at 1132 rfl rfl
set_option maxRecDepth 100000 in
theorem cw_155 : Cond.code (mY 155) (mB 155) (mL 155) (mR 155) ∈ GW := gw_at 1129 rfl rfl
set_option maxRecDepth 100000 in
theorem cw_156 : Cond.code (mY 156) (mB 156) (mL 156) (mR 156) ∈ GW := gw_at 1370 rfl rfl
set_option maxRecDepth 100000 in
theorem cw_157 : Cond.code (mY 157) (mB 157) (mL 157) (mR 157) ∈ GW := gw_at 1362 rfl rfl
set_option maxRecDepth 100000 in
theorem cw_158 : Cond.code (mY 158) (mB 158) (mL 158) (mR 158) ∈ GW := gw_at 1380 rfl rfl
set_option maxRecDepth 100000 in
theorem cw_159 : Cond.code (mY 159) (mB 159) (mL 159) (mR 159) ∈ GW := gw_at 1384 rfl rfl
set_option maxRecDepth 100000 in
theorem cw_160 : Cond.code (mY 160) (mB 160) (mL 160) (mR 160) ∈ GW := gw_at 1396 rfl rfl
set_option maxRecDepth 100000 in
theorem cw_161 : Cond.code (mY 161) (mB 161) (mL 161) (mR 161) ∈ GW := gw_at 1416 rfl rfl
set_option maxRecDepth 100000 in
theorem cw_162 : Cond.code (mY 162) (mB 162) (mL 162) (mR 162) ∈ GW := gw_at 1400 rfl rfl
set_option maxRecDepth 100000 in
theorem cw_163 : Cond.code (mY 163) (mB 163) (mL 163) (mR 163) ∈ GW := gw_at 1412 rfl rfl
set_option maxRecDepth 100000 in
theorem cw_164 : Cond.code (mY 164) (mB 164) (mL 164) (mR 164) ∈ GW := gw_at 1126 rfl rfl
set_option maxRecDepth 100000 in
theorem cw_165 : Cond.code (mY 165) (mB 165) (mL 165) (mR 165) ∈ GW := gw_at 1358 rfl rfl
set_option maxRecDepth 100000 in
theorem cw_166 : Cond.code (mY 166) (mB 166) (mL 166) (mR 166) ∈ GW := gw_at 1464 rfl rfl
set_option maxRecDepth 100000 in
theorem cw_167 : Cond.code (mY 167) (mB 167) (mL 167) (mR 167) ∈ GW := gw_at 1392 rfl rfl
set_option maxRecDepth 100000 in
theorem cw_168 : Cond.code (mY 168) (mB 168) (mL 168) (mR 168) ∈ GW := gw_at 1388 rfl rfl
set_option maxRecDepth 100000 in
theorem cw_169 : Cond.code (mY 169) (mB 169) (mL 169) (mR 169) ∈ GW := gw_at 1408 rfl rfl
set_option maxRecDepth 100000 in
theorem cw_170 : Cond.code (mY 170) (mB 170) (mL 170) (mR 170) ∈ GW := gw_at 1424 rfl rfl
set_option maxRecDepth 100000 in
theorem cw_171 : Cond.code (mY 171) (mB 171) (mL 171) (mR 171) ∈ GW := gw_at 1460 rfl rfl
set_option maxRecDepth 100000 in
theorem cw_172 : Cond.code (mY 172) (mB 172) (mL 172) (mR 172) ∈ GW := gw_at 1420 rfl rfl
set_option maxRecDepth 100000 in
theorem cw_173 : Cond.code (mY 173) (mB 173) (mL 173) (mR 173) ∈ GW := gw_at 1404 rfl rfl
set_option maxRecDepth 100000 in
theorem cw_174 : Cond.code (mY 174) (mB 174) (mL 174) (mR 174) ∈ GW := gw_at 1428 rfl rfl
set_option maxRecDepth 100000 in
theorem cw_175 : Cond.code (mY 175) (mB 175) (mL 175) (mR 175) ∈ GW := gw_at 1432 rfl rfl
set_option maxRecDepth 100000 in
theorem cw_176 : Cond.code (mY 176) (mB 176) (mL 176) (mR 176) ∈ GW := gw_at 1436 rfl rfl
set_option maxRecDepth 100000 in
theorem cw_177 : Cond.code (mY 177) (mB 177) (mL 177) (mR 177) ∈ GW := gw_at 1456 rfl rfl
set_option maxRecDepth 100000 in
theorem cw_178 : Cond.code (mY 178) (mB 178) (mL 178) (mR 178) ∈ GW := gw_at 1448 rfl rfl
set_option maxRecDepth 100000 in
theorem cw_179 : Cond.code (mY 179) (mB 179) (mL 179) (mR 179) ∈ GW := gw_at 1452 rfl rfl
set_option maxRecDepth 100000 in
theorem cw_180 : Cond.code (mY 180) (mB 180) (mL 180) (mR 180) ∈ GW := gw_at 1440 rfl rfl
set_option maxRecDepth 100000 in
theorem cw_181 : Cond.code (mY 181) (mB 181) (mL 181) (mR 181) ∈ GW := gw_at 1444 rfl rfl
set_option maxRecDepth 100000 in
theorem cw_182 : Cond.code (mY 182) (mB 182) (mL 182) (mR 182) ∈ GW := gw_at 1537 rfl rfl
set_option maxRecDepth 100000 in
theorem cw_183 : Cond.code (mY 183) (mB 183) (mL 183) (mR 183) ∈ GW := gw_at 1475 rfl rfl
set_option maxRecDepth 100000 in
theorem cw_184 : Cond.code (mY 184) (mB 184) (mL 184) (mR 184) ∈ GW := gw_at 1472 rfl rfl
set_option maxRecDepth 100000 in
theorem cw_185 : Cond.code (mY 185) (mB 185) (mL 185) (mR 185) ∈ GW := gw_at 1483 rfl rfl
set_option maxRecDepth 100000 in
theorem cw_186 : Cond.code (mY 186) (mB 186) (mL 186) (mR 186) ∈ GW := gw_at 1549 rfl rfl
set_option maxRecDepth 100000 in
theorem cw_187 : Cond.code (mY 187) (mB 187) (mL 187) (mR 187) ∈ GW := gw_at 1137 rfl rfl
set_option maxRecDepth 100000 in
theorem cw_188 : Cond.code (mY 188) (mB 188) (mL 188) (mR 188) ∈ GW := gw_at 1491 rfl rfl
set_option maxRecDepth 100000 in
theorem cw_189 : Cond.code (mY 189) (mB 189) (mL 189) (mR 189) ∈ GW := gw_at 1487 rfl rfl
set_option maxRecDepth 100000 in
theorem cw_190 : Cond.code (mY 190) (mB 190) (mL 190) (mR 190) ∈ GW := gw_at 1576 rfl rfl
set_option maxRecDepth 100000 in
theorem cw_191 : Cond.code (mY 191) (mB 191) (mL 191) (mR 191) ∈ GW := gw_at 1505 rfl rfl
set_option maxRecDepth 100000 in
theorem cw_192 : Cond.code (mY 192) (mB 192) (mL 192) (mR 192) ∈ GW := gw_at 1502 rfl rfl
set_option maxRecDepth 100000 in
theorem cw_193 : Cond.code (mY 193) (mB 193) (mL 193) (mR 193) ∈ GW := gw_at 1509 rfl rfl
set_option maxRecDepth 100000 in
theorem cw_194 : Cond.code (mY 194) (mB 194) (mL 194) (mR 194) ∈ GW := gw_at 1495 rfl rfl
set_option maxRecDepth 100000 in
theorem cw_195 : Cond.code (mY 195) (mB 195) (mL 195) (mR 195) ∈ GW := gw_at 1499 rfl rfl
set_option maxRecDepth 100000 in
theorem cw_196 : Cond.code (mY 196) (mB 196) (mL 196) (mR 196) ∈ GW := gw_at 1533 rfl rfl
set_option maxRecDepth 100000 in
theorem cw_197 : Cond.code (mY 197) (mB 197) (mL 197) (mR 197) ∈ GW := gw_at 1529 rfl rfl
set_option maxRecDepth 100000 in
theorem cw_198 : Cond.code (mY 198) (mB 198) (mL 198) (mR 198) ∈ GW := gw_at 1525 rfl rfl
set_option maxRecDepth 100000 in
theorem cw_199 : Cond.code (mY 199) (mB 199) (mL 199) (mR 199) ∈ GW := gw_at 1521 rfl rfl
set_option maxRecDepth 100000 in
theorem cw_200 : Cond.code (mY 200) (mB 200) (mL 200) (mR 200) ∈ GW := gw_at 1517 rfl rfl
set_option maxRecDepth 100000 in
theorem cw_201 : Cond.code (mY 201) (mB 201) (mL 201) (mR 201) ∈ GW := gw_at 1557 rfl rfl
set_option maxRecDepth 100000 in
theorem cw_202 : Cond.code (mY 202) (mB 202) (mL 202) (mR 202) ∈ GW := gw_at 1568 rfl rfl
set_option maxRecDepth 100000 in
theorem cw_203 : Cond.code (mY 203) (mB 203) (mL 203) (mR 203) ∈ GW := gw_at 1541 rfl rfl
set_option maxRecDepth 100000 in
theorem cw_204 : Cond.code (mY 204) (mB 204) (mL 204) (mR 204) ∈ GW := gw_at 1580 rfl rfl
set_option maxRecDepth 100000 in
theorem cw_205 : Cond.code (mY 205) (mB 205) (mL 205) (mR 205) ∈ GW := gw_at 1593 rfl rfl
set_option maxRecDepth 100000 in
theorem cw_206 : Cond.code (mY 206) (mB 206) (mL 206) (mR 206) ∈ GW := gw_at 1597 rfl rfl
set_option maxRecDepth 100000 in
theorem cw_207 : Cond.code (mY 207) (mB 207) (mL 207) (mR 207) ∈ GW := gw_at 1468 rfl rfl
set_option maxRecDepth 100000 in
theorem cw_208 : Cond.code (mY 208) (mB 208) (mL 208) (mR 208) ∈ GW := gw_at 1479 rfl rfl
set_option maxRecDepth 100000 in
theorem cw_209 : Cond.code (mY 209) (mB 209) (mL 209) (mR 209) ∈ GW := gw_at 1513 rfl rfl
set_option maxRecDepth 100000 in
theorem cw_210 : Cond.code (mY 210) (mB 210) (mL 210) (mR 210) ∈ GW := gw_at 1545 rfl rfl
set_option maxRecDepth 100000 in
theorem cw_211 : Cond.code (mY 211) (mB 211) (mL 211) (mR 211) ∈ GW := gw_at 1560 rfl rfl
set_option maxRecDepth 100000 in
theorem cw_212 : Cond.code (mY 212) (mB 212) (mL 212) (mR 212) ∈ GW := gw_at 1553 rfl rfl
set_option maxRecDepth 100000 in
theorem cw_213 : Cond.code (mY 213) (mB 213) (mL 213) (mR 213) ∈ GW := gw_at 1564 rfl rfl
set_option maxRecDepth 100000 in
theorem cw_214 : Cond.code (mY 214) (mB 214) (mL 214) (mR 214) ∈ GW := gw_at 1584 rfl rfl
set_option maxRecDepth 100000 in
theorem cw_215 : Cond.code (mY 215) (mB 215) (mL 215) (mR 215) ∈ GW := gw_at 1572 rfl rfl
set_option maxRecDepth 100000 in
theorem cw_216 : Cond.code (mY 216) (mB 216) (mL 216) (mR 216) ∈ GW := gw_at 1589 rfl rfl
set_option maxRecDepth 100000 in
theorem cw_217 : Cond.code (mY 217) (mB 217) (mL 217) (mR 217) ∈ GW := gw_at 1601 rfl rfl
set_option maxRecDepth 100000 in
theorem cw_218 : Cond.code (mY 218) (mB 218) (mL 218) (mR 218) ∈ GW := gw_at 1605 rfl rfl
set_option maxRecDepth 100000 in
theorem cw_219 : Cond.code (mY 219) (mB 219) (mL 219) (mR 219) ∈ GW := gw_at 1617 rfl rfl
set_option maxRecDepth 100000 in
theorem cw_220 : Cond.code (mY 220) (mB 220) (mL 220) (mR 220) ∈ GW := gw_at 1613 rfl rfl
set_option maxRecDepth 100000 in
theorem cw_221 : Cond.code (mY 221) (mB 221) (mL 221) (mR 221) ∈ GW := gw_at 1609 rfl rfl
set_option maxRecDepth 100000 in
theorem cw_222 : Cond.code (mY 222) (mB 222) (mL 222) (mR 222) ∈ GW := gw_at 1622 rfl rfl
set_option maxRecDepth 100000 in
theorem cw_223 : Cond.code (mY 223) (mB 223) (mL 223) (mR 223) ∈ GW := gw_at 1626 rfl rfl
set_option maxRecDepth 100000 in
theorem cw_224 : Cond.code (mY 224) (mB 224) (mL 224) (mR 224) ∈ GW := gw_at 1630 rfl rfl
set_option maxRecDepth 100000 in
theorem cw_225 : Cond.code (mY 225) (mB 225) (mL 225) (mR 225) ∈ GW := gw_at 1634 rfl rfl
set_option maxRecDepth 100000 in
theorem cw_226 : Cond.code (mY 226) (mB 226) (mL 226) (mR 226) ∈ GW := gw_at 1638 rfl rfl
set_option maxRecDepth 100000 in
theorem cw_227 : Cond.code (mY 227) (mB 227) (mL 227) (mR 227) ∈ GW := gw_at 1642 rfl rfl
set_option maxRecDepth 100000 in
theorem cw_228 : Cond.code (mY 228) (mB 228) (mL 228) (mR 228) ∈ GW := gw_at 1646 rfl rfl
set_option maxRecDepth 100000 in
theorem cw_229 : Cond.code (mY 229) (mB 229) (mL 229) (mR 229) ∈ GW := gw_at 1650 rfl rfl
set_option maxRecDepth 100000 in
theorem cw_230 : Cond.code (mY 230) (mB 230) (mL 230) (mR 230) ∈ GW := gw_at 1658 rfl rfl
set_option maxRecDepth 100000 in
theorem cw_231 : Cond.code (mY 231) (mB 231) (mL 231) (mR 231) ∈ GW := gw_at 1662 rfl rfl
set_option maxRecDepth 100000 in
theorem cw_232 : Cond.code (mY 232) (mB 232) (mL 232) (mR 232) ∈ GW := gw_at 1654 rfl rfl
set_option maxRecDepth 100000 in
theorem cw_233 : Cond.code (mY 233) (mB 233) (mL 233) (mR 233) ∈ GW := gw_at 1666 rfl rfl
set_option maxRecDepth 100000 in
theorem cw_234 : Cond.code (mY 234) (mB 234) (mL 234) (mR 234) ∈ GW := gw_at 1670 rfl rfl
set_option maxRecDepth 100000 in
theorem cw_235 : Cond.code (mY 235) (mB 235) (mL 235) (mR 235) ∈ GW := gw_at 1674 rfl rfl
set_option maxRecDepth 100000 in
theorem cw_236 : Cond.code (mY 236) (mB 236) (mL 236) (mR 236) ∈ GW := gw_at 1682 rfl rfl
set_option maxRecDepth 100000 in
theorem cw_237 : Cond.code (mY 237) (mB 237) (mL 237) (mR 237) ∈ GW := gw_at 1678 rfl rfl
set_option maxRecDepth 100000 in
theorem cw_238 : Cond.code (mY 238) (mB 238) (mL 238) (mR 238) ∈ GW := gw_at 1686 rfl rfl
set_option maxRecDepth 100000 in
theorem cw_239 : Cond.code (mY 239) (mB 239) (mL 239) (mR 239) ∈ GW := gw_at 1690 rfl rfl
set_option maxRecDepth 100000 in
theorem cw_240 : Cond.code (mY 240) (mB 240) (mL 240) (mR 240) ∈ GW := gw_at 1694 rfl rfl
theorem cw_all (k : Nat) (h3 : 3 ≤ k) (h : k < 241) : Cond.code (mY k) (mB k) (mL k) (mR k) ∈ GW := by
  match k, h, h3 with
  | 0, _, h3 => exact absurd h3 (by decide)
  | 1, _, h3 => exact absurd h3 (by decide)
  | 2, _, h3 => exact absurd h3 (by decide)
  | 3, _, _ => exact cw_3
  | 4, _, _ => exact cw_4
  | 5, _, _ => exact cw_5
  | 6, _, _ => exact cw_6
  | 7, _, _ => exact cw_7
  | 8, _, _ => exact cw_8
  | 9, _, _ => exact cw_9
  | 10, _, _ => exact cw_10
  | 11, _, _ => exact cw_11
  | 12, _, _ => exact cw_12
  | 13, _, _ => exact cw_13
  | 14, _, _ => exact cw_14
  | 15, _, _ => exact cw_15
  | 16, _, _ => exact cw_16
  | 17, _, _ => exact cw_17
  | 18, _, _ => exact cw_18
  | 19, _, _ => exact cw_19
  | 20, _, _ => exact cw_20
  | 21, _, _ => exact cw_21
  | 22, _, _ => exact cw_22
  | 23, _, _ => exact cw_23
  | 24, _, _ => exact cw_24
  | 25, _, _ => exact cw_25
  | 26, _, _ => exact cw_26
  | 27, _, _ => exact cw_27
  | 28, _, _ => exact cw_28
  | 29, _, _ => exact cw_29
  | 30, _, _ => exact cw_30
  | 31, _, _ => exact cw_31
  | 32, _, _ => exact cw_32
  | 33, _, _ => exact cw_33
  | 34, _, _ => exact cw_34
  | 35, _, _ => exact cw_35
  | 36, _, _ => exact cw_36
  | 37, _, _ => exact cw_37
  | 38, _, _ => exact cw_38
  | 39, _, _ => exact cw_39
  | 40, _, _ => exact cw_40
  | 41, _, _ => exact cw_41
  | 42, _, _ => exact cw_42
  | 43, _, _ => exact cw_43
  | 44, _, _ => exact cw_44
  | 45, _, _ => exact cw_45
  | 46, _, _ => exact cw_46
  | 47, _, _ => exact cw_47
  | 48, _, _ => exact cw_48
  | 49, _, _ => exact cw_49
  | 50, _, _ => exact cw_50
  | 51, _, _ => exact cw_51
  | 52, _, _ => exact cw_52
  | 53, _, _ => exact cw_53
  | 54, _, _ => exact cw_54
  | 55, _, _ => exact cw_55
  | 56, _, _ => exact cw_56
  | 57, _, _ => exact cw_57
  | 58, _, _ => exact cw_58
  | 59, _, _ => exact cw_59
  | 60, _, _ => exact cw_60
  | 61, _, _ => exact cw_61
  | 62, _, _ => exact cw_62
  | 63, _, _ => exact cw_63
  | 64, _, _ => exact cw_64
  | 65, _, _ => exact cw_65
  | 66, _, _ => exact cw_66
  | 67, _, _ => exact cw_67
  | 68, _, _ => exact cw_68
  | 69, _, _ => exact cw_69
  | 70, _, _ => exact cw_70
  | 71, _, _ => exact cw_71
  | 72, _, _ => exact cw_72
  | 73, _, _ => exact cw_73
  | 74, _, _ => exact cw_74
  | 75, _, _ => exact cw_75
  | 76, _, _ => exact cw_76
  | 77, _, _ => exact cw_77
  | 78, _, _ => exact cw_78
  | 79, _, _ => exact cw_79
  | 80, _, _ => exact cw_80
  | 81, _, _ => exact cw_81
  | 82, _, _ => exact cw_82
  | 83, _, _ => exact cw_83
  | 84, _, _ => exact cw_84
  | 85, _, _ => exact cw_85
  | 86, _, _ => exact cw_86
  | 87, _, _ => exact cw_87
  | 88, _, _ => exact cw_88
  | 89, _, _ => exact cw_89
  | 90, _, _ => exact cw_90
  | 91, _, _ => exact cw_91
  | 92, _, _ => exact cw_92
  | 93, _, _ => exact cw_93
  | 94, _, _ => exact cw_94
  | 95, _, _ => exact cw_95
  | 96, _, _ => exact cw_96
  | 97, _, _ => exact cw_97
  | 98, _, _ => exact cw_98
  | 99, _, _ => exact cw_99
  | 100, _, _ => exact cw_100
  | 101, _, _ => exact cw_101
  | 102, _, _ => exact cw_102
  | 103, _, _ => exact cw_103
  | 104, _, _ => exact cw_104
  | 105, _, _ => exact cw_105
  | 106, _, _ => exact cw_106
  | 107, _, _ => exact cw_107
  | 108, _, _ => exact cw_108
  | 109, _, _ => exact cw_109
  | 110, _, _ => exact cw_110
  | 111, _, _ => exact cw_111
  | 112, _, _ => exact cw_112
  | 113, _, _ => exact cw_113
  | 114, _, _ => exact cw_114
  | 115, _, _ => exact cw_115
  | 116, _, _ => exact cw_116
  | 117, _, _ => exact cw_117
  | 118, _, _ => exact cw_118
  | 119, _, _ => exact cw_119
  | 120, _, _ => exact cw_120
  | 121, _, _ => exact cw_121
  | 122, _, _ => exact cw_122
  | 123, _, _ => exact cw_123
  | 124, _, _ => exact cw_124
  | 125, _, _ => exact cw_125
  | 126, _, _ => exact cw_126
  | 127, _, _ => exact cw_127
  | 128, _, _ => exact cw_128
  | 129, _, _ => exact cw_129
  | 130, _, _ => exact cw_130
  | 131, _, _ => exact cw_131
  | 132, _, _ => exact cw_132
  | 133, _, _ => exact cw_133
  | 134, _, _ => exact cw_134
  | 135, _, _ => exact cw_135
  | 136, _, _ => exact cw_136
  | 137, _, _ => exact cw_137
  | 138, _, _ => exact cw_138
  | 139, _, _ => exact cw_139
  | 140, _, _ => exact cw_140
  | 141, _, _ => exact cw_141
  | 142, _, _ => exact cw_142
  | 143, _, _ => exact cw_143
  | 144, _, _ => exact cw_144
  | 145, _, _ => exact cw_145
  | 146, _, _ => exact cw_146
  | 147, _, _ => exact cw_147
  | 148, _, _ => exact cw_148
  | 149, _, _ => exact cw_149
  | 150, _, _ => exact cw_150
  | 151, _, _ => exact cw_151
  | 152, _, _ => exact cw_152
  | 153, _, _ => exact cw_153
  | 154, _, _ => exact cw_154
  | 155, _, _ => exact cw_155
  | 156, _, _ => exact cw_156
  | 157, _, _ => exact cw_157
  | 158, _, _ => exact cw_158
  | 159, _, _ => exact cw_159
  | 160, _, _ => exact cw_160
  | 161, _, _ => exact cw_161
  | 162, _, _ => exact cw_162
  | 163, _, _ => exact cw_163
  | 164, _, _ => exact cw_164
  | 165, _, _ => exact cw_165
  | 166, _, _ => exact cw_166
  | 167, _, _ => exact cw_167
  | 168, _, _ => exact cw_168
  | 169, _, _ => exact cw_169
  | 170, _, _ => exact cw_170
  | 171, _, _ => exact cw_171
  | 172, _, _ => exact cw_172
  | 173, _, _ => exact cw_173
  | 174, _, _ => exact cw_174
  | 175, _, _ => exact cw_175
  | 176, _, _ => exact cw_176
  | 177, _, _ => exact cw_177
  | 178, _, _ => exact cw_178
  | 179, _, _ => exact cw_179
  | 180, _, _ => exact cw_180
  | 181, _, _ => exact cw_181
  | 182, _, _ => exact cw_182
  | 183, _, _ => exact cw_183
  | 184, _, _ => exact cw_184
  | 185, _, _ => exact cw_185
  | 186, _, _ => exact cw_186
  | 187, _, _ => exact cw_187
  | 188, _, _ => exact cw_188
  | 189, _, _ => exact cw_189
  | 190, _, _ => exact cw_190
  | 191, _, _ => exact cw_191
  | 192, _, _ => exact cw_192
  | 193, _, _ => exact cw_193
  | 194, _, _ => exact cw_194
  | 195, _, _ => exact cw_195
  | 196, _, _ => exact cw_196
  | 197, _, _ => exact cw_197
  | 198, _, _ => exact cw_198
  | 199, _, _ => exact cw_199
  | 200, _, _ => exact cw_200
  | 201, _, _ => exact cw_201
  | 202, _, _ => exact cw_202
  | 203, _, _ => exact cw_203
  | 204, _, _ => exact cw_204
  | 205, _, _ => exact cw_205
  | 206, _, _ => exact cw_206
  | 207, _, _ => exact cw_207
  | 208, _, _ => exact cw_208
  | 209, _, _ => exact cw_209
  | 210, _, _ => exact cw_210
  | 211, _, _ => exact cw_211
  | 212, _, _ => exact cw_212
  | 213, _, _ => exact cw_213
  | 214, _, _ => exact cw_214
  | 215, _, _ => exact cw_215
  | 216, _, _ => exact cw_216
  | 217, _, _ => exact cw_217
  | 218, _, _ => exact cw_218
  | 219, _, _ => exact cw_219
  | 220, _, _ => exact cw_220
  | 221, _, _ => exact cw_221
  | 222, _, _ => exact cw_222
  | 223, _, _ => exact cw_223
  | 224, _, _ => exact cw_224
  | 225, _, _ => exact cw_225
  | 226, _, _ => exact cw_226
  | 227, _, _ => exact cw_227
  | 228, _, _ => exact cw_228
  | 229, _, _ => exact cw_229
  | 230, _, _ => exact cw_230
  | 231, _, _ => exact cw_231
  | 232, _, _ => exact cw_232
  | 233, _, _ => exact cw_233
  | 234, _, _ => exact cw_234
  | 235, _, _ => exact cw_235
  | 236, _, _ => exact cw_236
  | 237, _, _ => exact cw_237
  | 238, _, _ => exact cw_238
  | 239, _, _ => exact cw_239
  | 240, _, _ => exact cw_240
  | k + 241, h, _ => exact absurd h (by omega)

