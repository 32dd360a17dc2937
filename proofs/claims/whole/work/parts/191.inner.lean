theorem wt_X8_humidity : gMv yX8_humidity cX8_humidity 3 (some .int) 2 := ⟨gT_in 505 (by decide +kernel) rfl, gT_in 506 (by decide +kernel) rfl, gT_in 60 (by decide +kernel) rfl, gT_in 507 (by decide +kernel) rfl, by decide, by decide, by decide +kernel⟩
theorem wl_RL_7 : Cond.methodLink RL 7 yX8_humidity ∈ gT := gT_in 504 (by decide +kernel) rfl
theorem wt_X8_humidityIn : gMv yX8_humidityIn cX8_humidityIn 2 (some .int) 1 := ⟨gT_in 560 (by decide +kernel) rfl, gT_in 561 (by decide +kernel) rfl, gT_in 60 (by decide +kernel) rfl, gT_in 562 (by decide +kernel) rfl, by decide, by decide, by decide +kernel⟩
theorem wl_RL_17 : Cond.methodLink RL 17 yX8_humidityIn ∈ gT := gT_in 559 (by decide +kernel) rfl
theorem wt_X8_buy : gMv yX8_buy cX8_buy 3 (some .int) 2 := ⟨gT_in 573 (by decide +kernel) rfl, gT_in 574 (by decide +kernel) rfl, gT_in 60 (by decide +kernel) rfl, gT_in 575 (by decide +kernel) rfl, by decide, by decide, by decide +kernel⟩
theorem wl_RL_21 : Cond.methodLink RL 21 yX8_buy ∈ gT := gT_in 572 (by decide +kernel) rfl
theorem wt_X8_stock : gMv yX8_stock cX8_stock 2 (some .int) 1 := ⟨gT_in 620 (by decide +kernel) rfl, gT_in 621 (by decide +kernel) rfl, gT_in 60 (by decide +kernel) rfl, gT_in 622 (by decide +kernel) rfl, by decide, by decide, by decide +kernel⟩
theorem wl_RL_26 : Cond.methodLink RL 26 yX8_stock ∈ gT := gT_in 619 (by decide +kernel) rfl
theorem wt_X8_tongs : gMv yX8_tongs cX8_tongs 2 (some .int) 1 := ⟨gT_in 629 (by decide +kernel) rfl, gT_in 630 (by decide +kernel) rfl, gT_in 60 (by decide +kernel) rfl, gT_in 631 (by decide +kernel) rfl, by decide, by decide, by decide +kernel⟩
theorem wl_RL_29 : Cond.methodLink RL 29 yX8_tongs ∈ gT := gT_in 628 (by decide +kernel) rfl
theorem wt_X8_tongsOf : gMv yX8_tongsOf cX8_tongsOf 4 (some .int) 2 := ⟨gT_in 647 (by decide +kernel) rfl, gT_in 648 (by decide +kernel) rfl, gT_in 60 (by decide +kernel) rfl, gT_in 649 (by decide +kernel) rfl, by decide, by decide, by decide +kernel⟩
theorem wl_RL_32 : Cond.methodLink RL 32 yX8_tongsOf ∈ gT := gT_in 646 (by decide +kernel) rfl
theorem wt_X8_tongsFor : gMv yX8_tongsFor cX8_tongsFor 3 (some .int) 1 := ⟨gT_in 665 (by decide +kernel) rfl, gT_in 666 (by decide +kernel) rfl, gT_in 60 (by decide +kernel) rfl, gT_in 667 (by decide +kernel) rfl, by decide, by decide, by decide +kernel⟩
theorem wl_RL_35 : Cond.methodLink RL 35 yX8_tongsFor ∈ gT := gT_in 664 (by decide +kernel) rfl
theorem wt_X8_tower : gMv yX8_tower cX8_tower 1 (some .int) 0 := ⟨gT_in 693 (by decide +kernel) rfl, gT_in 694 (by decide +kernel) rfl, gT_in 60 (by decide +kernel) rfl, gT_in 695 (by decide +kernel) rfl, by decide, by decide, by decide +kernel⟩
theorem wl_RL_40 : Cond.methodLink RL 40 yX8_tower ∈ gT := gT_in 692 (by decide +kernel) rfl
theorem wt_X8_lay : gMv yX8_lay cX8_lay 5 (some .int) 4 := ⟨gT_in 709 (by decide +kernel) rfl, gT_in 710 (by decide +kernel) rfl, gT_in 60 (by decide +kernel) rfl, gT_in 711 (by decide +kernel) rfl, by decide, by decide, by decide +kernel⟩
theorem wl_RL_44 : Cond.methodLink RL 44 yX8_lay ∈ gT := gT_in 708 (by decide +kernel) rfl
theorem wt_X8_why : gMv yX8_why cX8_why 5 (some .int) 4 := ⟨gT_in 764 (by decide +kernel) rfl, gT_in 765 (by decide +kernel) rfl, gT_in 60 (by decide +kernel) rfl, gT_in 766 (by decide +kernel) rfl, by decide, by decide, by decide +kernel⟩
theorem wl_RL_48 : Cond.methodLink RL 48 yX8_why ∈ gT := gT_in 763 (by decide +kernel) rfl
theorem wt_X8_take : gMv yX8_take cX8_take 3 (some .int) 1 := ⟨gT_in 771 (by decide +kernel) rfl, gT_in 772 (by decide +kernel) rfl, gT_in 60 (by decide +kernel) rfl, gT_in 773 (by decide +kernel) rfl, by decide, by decide, by decide +kernel⟩
theorem wl_RL_51 : Cond.methodLink RL 51 yX8_take ∈ gT := gT_in 770 (by decide +kernel) rfl
theorem wt_X8_courseOf : gMv yX8_courseOf cX8_courseOf 5 (some .int) 3 := ⟨gT_in 793 (by decide +kernel) rfl, gT_in 794 (by decide +kernel) rfl, gT_in 60 (by decide +kernel) rfl, gT_in 795 (by decide +kernel) rfl, by decide, by decide, by decide +kernel⟩
theorem wl_RL_54 : Cond.methodLink RL 54 yX8_courseOf ∈ gT := gT_in 792 (by decide +kernel) rfl
theorem wt_X8_bearsAgain : gMv yX8_bearsAgain cX8_bearsAgain 6 (some .int) 2 := ⟨gT_in 811 (by decide +kernel) rfl, gT_in 812 (by decide +kernel) rfl, gT_in 60 (by decide +kernel) rfl, gT_in 813 (by decide +kernel) rfl, by decide, by decide, by decide +kernel⟩
theorem wl_RL_58 : Cond.methodLink RL 58 yX8_bearsAgain ∈ gT := gT_in 810 (by decide +kernel) rfl
theorem wt_X8_towerOf : gMv yX8_towerOf cX8_towerOf 4 (some .int) 2 := ⟨gT_in 818 (by decide +kernel) rfl, gT_in 819 (by decide +kernel) rfl, gT_in 60 (by decide +kernel) rfl, gT_in 820 (by decide +kernel) rfl, by decide, by decide, by decide +kernel⟩
theorem wl_RL_61 : Cond.methodLink RL 61 yX8_towerOf ∈ gT := gT_in 817 (by decide +kernel) rfl
theorem wt_X8_spare : gMv yX8_spare cX8_spare 2 (some .int) 1 := ⟨gT_in 830 (by decide +kernel) rfl, gT_in 831 (by decide +kernel) rfl, gT_in 60 (by decide +kernel) rfl, gT_in 832 (by decide +kernel) rfl, by decide, by decide, by decide +kernel⟩
theorem wl_RL_64 : Cond.methodLink RL 64 yX8_spare ∈ gT := gT_in 829 (by decide +kernel) rfl
theorem wt_X8_sign : gMv yX8_sign cX8_sign 3 (some .char) 1 := ⟨gT_in 841 (by decide +kernel) rfl, gT_in 842 (by decide +kernel) rfl, gT_in 60 (by decide +kernel) rfl, gT_in 843 (by decide +kernel) rfl, by decide, by decide, by decide +kernel⟩
theorem wl_RL_67 : Cond.methodLink RL 67 yX8_sign ∈ gT := gT_in 840 (by decide +kernel) rfl
theorem wt_X8_stands : gMv yX8_stands cX8_stands 4 (some .boolean) 2 := ⟨gT_in 848 (by decide +kernel) rfl, gT_in 849 (by decide +kernel) rfl, gT_in 60 (by decide +kernel) rfl, gT_in 850 (by decide +kernel) rfl, by decide, by decide, by decide +kernel⟩
theorem wl_RL_71 : Cond.methodLink RL 71 yX8_stands ∈ gT := gT_in 847 (by decide +kernel) rfl
theorem wt_X8_breaksIn : gMv yX8_breaksIn cX8_breaksIn 3 (some .int) 1 := ⟨gT_in 857 (by decide +kernel) rfl, gT_in 858 (by decide +kernel) rfl, gT_in 60 (by decide +kernel) rfl, gT_in 859 (by decide +kernel) rfl, by decide, by decide, by decide +kernel⟩
theorem wl_RL_75 : Cond.methodLink RL 75 yX8_breaksIn ∈ gT := gT_in 856 (by decide +kernel) rfl
theorem wt_X8_banquet : gMv yX8_banquet cX8_banquet 4 (some .int) 3 := ⟨gT_in 874 (by decide +kernel) rfl, gT_in 875 (by decide +kernel) rfl, gT_in 60 (by decide +kernel) rfl, gT_in 876 (by decide +kernel) rfl, by decide, by decide, by decide +kernel⟩
theorem wl_RL_78 : Cond.methodLink RL 78 yX8_banquet ∈ gT := gT_in 873 (by decide +kernel) rfl
theorem wt_X8_show : gMv yX8_show cX8_show 4 (some .int) 2 := ⟨gT_in 895 (by decide +kernel) rfl, gT_in 896 (by decide +kernel) rfl, gT_in 60 (by decide +kernel) rfl, gT_in 897 (by decide +kernel) rfl, by decide, by decide, by decide +kernel⟩
theorem wl_RL_81 : Cond.methodLink RL 81 yX8_show ∈ gT := gT_in 894 (by decide +kernel) rfl
theorem wt_X8_cancel : gMv yX8_cancel cX8_cancel 2 (some .int) 1 := ⟨gT_in 920 (by decide +kernel) rfl, gT_in 921 (by decide +kernel) rfl, gT_in 60 (by decide +kernel) rfl, gT_in 922 (by decide +kernel) rfl, by decide, by decide, by decide +kernel⟩
theorem wl_RL_84 : Cond.methodLink RL 84 yX8_cancel ∈ gT := gT_in 919 (by decide +kernel) rfl
theorem wt_X8_banquetOf : gMv yX8_banquetOf cX8_banquetOf 4 (some .int) 2 := ⟨gT_in 932 (by decide +kernel) rfl, gT_in 933 (by decide +kernel) rfl, gT_in 60 (by decide +kernel) rfl, gT_in 934 (by decide +kernel) rfl, by decide, by decide, by decide +kernel⟩
theorem wl_RL_87 : Cond.methodLink RL 87 yX8_banquetOf ∈ gT := gT_in 931 (by decide +kernel) rfl
theorem wt_X8_next : gMv yX8_next cX8_next 2 (some .int) 0 := ⟨gT_in 940 (by decide +kernel) rfl, gT_in 941 (by decide +kernel) rfl, gT_in 60 (by decide +kernel) rfl, gT_in 942 (by decide +kernel) rfl, by decide, by decide, by decide +kernel⟩
theorem wl_RL_90 : Cond.methodLink RL 90 yX8_next ∈ gT := gT_in 939 (by decide +kernel) rfl
theorem wt_X8_pass : gMv yX8_pass cX8_pass 2 (some .int) 1 := ⟨gT_in 952 (by decide +kernel) rfl, gT_in 953 (by decide +kernel) rfl, gT_in 60 (by decide +kernel) rfl, gT_in 954 (by decide +kernel) rfl, by decide, by decide, by decide +kernel⟩
theorem wl_RL_93 : Cond.methodLink RL 93 yX8_pass ∈ gT := gT_in 951 (by decide +kernel) rfl
theorem wt_X8_append : gMv yX8_append cX8_append 2 (some .int) 1 := ⟨gT_in 985 (by decide +kernel) rfl, gT_in 986 (by decide +kernel) rfl, gT_in 60 (by decide +kernel) rfl, gT_in 987 (by decide +kernel) rfl, by decide, by decide, by decide +kernel⟩
theorem wl_RL_96 : Cond.methodLink RL 96 yX8_append ∈ gT := gT_in 984 (by decide +kernel) rfl
theorem wt_X8_read : gMv yX8_read cX8_read 3 (some .int) 0 := ⟨gT_in 1012 (by decide +kernel) rfl, gT_in 1013 (by decide +kernel) rfl, gT_in 60 (by decide +kernel) rfl, gT_in 1014 (by decide +kernel) rfl, by decide, by decide, by decide +kernel⟩
theorem wl_RL_102 : Cond.methodLink RL 102 yX8_read ∈ gT := gT_in 1011 (by decide +kernel) rfl
theorem wt_X8_refusal : gMv yX8_refusal cX8_refusal 2 (some .int) 1 := ⟨gT_in 1127 (by decide +kernel) rfl, gT_in 1128 (by decide +kernel) rfl, gT_in 60 (by decide +kernel) rfl, gT_in 1129 (by decide +kernel) rfl, by decide, by decide, by decide +kernel⟩
theorem wl_RL_105 : Cond.methodLink RL 105 yX8_refusal ∈ gT := gT_in 1126 (by decide +kernel) rfl
theorem wt_X8_account : gMv yX8_account cX8_account 2 (some .int) 1 := ⟨gT_in 1135 (by decide +kernel) rfl, gT_in 1136 (by decide +kernel) rfl, gT_in 60 (by decide +kernel) rfl, gT_in 1137 (by decide +kernel) rfl, by decide, by decide, by decide +kernel⟩
theorem wl_RL_109 : Cond.methodLink RL 109 yX8_account ∈ gT := gT_in 1134 (by decide +kernel) rfl
theorem wt_X8_meanDampness : gMv yX8_meanDampness cX8_meanDampness 1 (some .double) 0 := ⟨gT_in 1167 (by decide +kernel) rfl, gT_in 1168 (by decide +kernel) rfl, gT_in 60 (by decide +kernel) rfl, gT_in 1169 (by decide +kernel) rfl, by decide, by decide, by decide +kernel⟩
theorem wl_RL_112 : Cond.methodLink RL 112 yX8_meanDampness ∈ gT := gT_in 1166 (by decide +kernel) rfl
theorem wt_X8_broken : gMv yX8_broken cX8_broken 2 (some .float) 0 := ⟨gT_in 1181 (by decide +kernel) rfl, gT_in 1182 (by decide +kernel) rfl, gT_in 60 (by decide +kernel) rfl, gT_in 1183 (by decide +kernel) rfl, by decide, by decide, by decide +kernel⟩
theorem wl_RL_118 : Cond.methodLink RL 118 yX8_broken ∈ gT := gT_in 1180 (by decide +kernel) rfl
theorem wt_X8_undo : gMv yX8_undo cX8_undo 1 (some .int) 0 := ⟨gT_in 1189 (by decide +kernel) rfl, gT_in 1190 (by decide +kernel) rfl, gT_in 60 (by decide +kernel) rfl, gT_in 1191 (by decide +kernel) rfl, by decide, by decide, by decide +kernel⟩
theorem wl_RL_122 : Cond.methodLink RL 122 yX8_undo ∈ gT := gT_in 1188 (by decide +kernel) rfl
theorem wt_X8_restore : gMv yX8_restore cX8_restore 1 (some .int) 0 := ⟨gT_in 1201 (by decide +kernel) rfl, gT_in 1202 (by decide +kernel) rfl, gT_in 60 (by decide +kernel) rfl, gT_in 1203 (by decide +kernel) rfl, by decide, by decide, by decide +kernel⟩
theorem wl_RL_125 : Cond.methodLink RL 125 yX8_restore ∈ gT := gT_in 1200 (by decide +kernel) rfl
theorem wlw_ini : Cond.initialized RL ∈ gT := gT_in 59 (by decide +kernel) rfl
theorem wcl_1 : Cond.classLink RL 13 (gEx 1) ∈ gT := gT_in 423 (by decide +kernel) rfl
theorem wca_1 : Cond.castable (gEx 1) (gEx 1) ∈ gN := gN_in 454 (by decide +kernel) rfl
theorem gnc_2_1 : (gEx 2, gEx 1) ∈ gNc := by decide +kernel
theorem wcl_2 : Cond.classLink RL 15 (gEx 2) ∈ gT := gT_in 503 (by decide +kernel) rfl
theorem wca_2 : Cond.castable (gEx 2) (gEx 2) ∈ gN := gN_in 467 (by decide +kernel) rfl
theorem wlw_humidity_s : Cond.static yL_humidity ∈ gT := gT_in 421 (by decide +kernel) rfl
theorem wlw_humidity_c : Cond.codeWith yL_humidity cL_humidity 5 (some .int) [(0, 10, 13, 13), (0, 10, 17, 15)] ∈ gT := gT_in 422 (by decide +kernel) rfl
theorem wlw_humidityIn_s : Cond.static yL_humidityIn ∈ gT := gT_in 557 (by decide +kernel) rfl
theorem wlw_humidityIn_c : Cond.codeWith yL_humidityIn cL_humidityIn 4 (some .int) [(0, 9, 12, 15)] ∈ gT := gT_in 558 (by decide +kernel) rfl
theorem gnc_3_2 : (gEx 3, gEx 2) ∈ gNc := by decide +kernel
theorem wcl_3 : Cond.classLink RL 24 (gEx 3) ∈ gT := gT_in 571 (by decide +kernel) rfl
theorem wca_3 : Cond.castable (gEx 3) (gEx 3) ∈ gN := gN_in 539 (by decide +kernel) rfl
theorem wlw_buy_s : Cond.static yL_buy ∈ gT := gT_in 569 (by decide +kernel) rfl
theorem wlw_buy_c : Cond.codeWith yL_buy cL_buy 5 (some .int) [(0, 10, 13, 15), (0, 10, 17, 24)] ∈ gT := gT_in 570 (by decide +kernel) rfl
theorem wlw_stock_s : Cond.static yL_stock ∈ gT := gT_in 617 (by decide +kernel) rfl
theorem wlw_stock_c : Cond.codeWith yL_stock cL_stock 4 (some .int) [(0, 9, 12, 15)] ∈ gT := gT_in 618 (by decide +kernel) rfl
theorem wlw_tongs_s : Cond.static yL_tongs ∈ gT := gT_in 626 (by decide +kernel) rfl
theorem wlw_tongs_c : Cond.codeWith yL_tongs cL_tongs 4 (some .int) [(0, 9, 12, 15), (0, 9, 15, 24)] ∈ gT := gT_in 627 (by decide +kernel) rfl
theorem wlw_tongsOf_s : Cond.static yL_tongsOf ∈ gT := gT_in 644 (by decide +kernel) rfl
theorem wlw_tongsOf_c : Cond.codeWith yL_tongsOf cL_tongsOf 5 (some .int) [(0, 10, 13, 13), (0, 10, 17, 15)] ∈ gT := gT_in 645 (by decide +kernel) rfl
theorem gnc_4_2 : (gEx 4, gEx 2) ∈ gNc := by decide +kernel
theorem wcl_4 : Cond.classLink RL 38 (gEx 4) ∈ gT := gT_in 663 (by decide +kernel) rfl
theorem wca_4 : Cond.castable (gEx 4) (gEx 4) ∈ gN := gN_in 616 (by decide +kernel) rfl
theorem wlw_tongsFor_s : Cond.static yL_tongsFor ∈ gT := gT_in 661 (by decide +kernel) rfl
theorem wlw_tongsFor_c : Cond.codeWith yL_tongsFor cL_tongsFor 4 (some .int) [(0, 9, 12, 15), (0, 9, 15, 38)] ∈ gT := gT_in 662 (by decide +kernel) rfl
theorem wlw_tower_s : Cond.static yL_tower ∈ gT := gT_in 690 (by decide +kernel) rfl
theorem wlw_tower_c : Cond.codeWith yL_tower cL_tower 3 (some .int) [(0, 8, 11, 24)] ∈ gT := gT_in 691 (by decide +kernel) rfl
theorem gnc_3_1 : (gEx 3, gEx 1) ∈ gNc := by decide +kernel
theorem wlw_lay_s : Cond.static yL_lay ∈ gT := gT_in 706 (by decide +kernel) rfl
theorem wlw_lay_c : Cond.codeWith yL_lay cL_lay 7 (some .int) [(0, 14, 17, 13), (0, 14, 21, 15), (0, 14, 25, 24)] ∈ gT := gT_in 707 (by decide +kernel) rfl
theorem wlw_why_s : Cond.static yL_why ∈ gT := gT_in 761 (by decide +kernel) rfl
theorem wlw_why_c : Cond.codeWith yL_why cL_why 7 (some .int) [(0, 14, 17, 13), (0, 14, 21, 15)] ∈ gT := gT_in 762 (by decide +kernel) rfl
theorem wlw_take_s : Cond.static yL_take ∈ gT := gT_in 768 (by decide +kernel) rfl
theorem wlw_take_c : Cond.codeWith yL_take cL_take 4 (some .int) [(0, 9, 12, 13), (0, 9, 15, 24)] ∈ gT := gT_in 769 (by decide +kernel) rfl
theorem wlw_courseOf_s : Cond.static yL_courseOf ∈ gT := gT_in 790 (by decide +kernel) rfl
theorem wlw_courseOf_c : Cond.codeWith yL_courseOf cL_courseOf 6 (some .int) [(0, 12, 15, 13), (0, 12, 19, 15)] ∈ gT := gT_in 791 (by decide +kernel) rfl
theorem wlw_bearsAgain_s : Cond.static yL_bearsAgain ∈ gT := gT_in 808 (by decide +kernel) rfl
theorem wlw_bearsAgain_c : Cond.codeWith yL_bearsAgain cL_bearsAgain 5 (some .int) [(0, 10, 13, 13)] ∈ gT := gT_in 809 (by decide +kernel) rfl
theorem wlw_towerOf_s : Cond.static yL_towerOf ∈ gT := gT_in 815 (by decide +kernel) rfl
theorem wlw_towerOf_c : Cond.codeWith yL_towerOf cL_towerOf 5 (some .int) [(0, 10, 13, 13), (0, 10, 17, 15)] ∈ gT := gT_in 816 (by decide +kernel) rfl
theorem wlw_spare_s : Cond.static yL_spare ∈ gT := gT_in 827 (by decide +kernel) rfl
theorem wlw_spare_c : Cond.codeWith yL_spare cL_spare 4 (some .int) [(0, 9, 12, 13)] ∈ gT := gT_in 828 (by decide +kernel) rfl
theorem wlw_sign_s : Cond.static yL_sign ∈ gT := gT_in 838 (by decide +kernel) rfl
theorem wlw_sign_c : Cond.codeWith yL_sign cL_sign 4 (some .int) [(0, 9, 12, 13)] ∈ gT := gT_in 839 (by decide +kernel) rfl
theorem wlw_stands_s : Cond.static yL_stands ∈ gT := gT_in 845 (by decide +kernel) rfl
theorem wlw_stands_c : Cond.codeWith yL_stands cL_stands 5 (some .int) [(0, 17, 20, 13), (0, 17, 24, 15)] ∈ gT := gT_in 846 (by decide +kernel) rfl
theorem gnc_4_1 : (gEx 4, gEx 1) ∈ gNc := by decide +kernel
theorem wlw_breaksIn_s : Cond.static yL_breaksIn ∈ gT := gT_in 854 (by decide +kernel) rfl
theorem wlw_breaksIn_c : Cond.codeWith yL_breaksIn cL_breaksIn 4 (some .int) [(0, 9, 12, 13), (0, 9, 15, 38)] ∈ gT := gT_in 855 (by decide +kernel) rfl
theorem wlw_banquet_s : Cond.static yL_banquet ∈ gT := gT_in 871 (by decide +kernel) rfl
theorem wlw_banquet_c : Cond.codeWith yL_banquet cL_banquet 6 (some .int) [(0, 12, 15, 15), (0, 12, 19, 24)] ∈ gT := gT_in 872 (by decide +kernel) rfl
theorem gnc_1_4 : (gEx 1, gEx 4) ∈ gNc := by decide +kernel
theorem wlw_show_s : Cond.static yL_show ∈ gT := gT_in 892 (by decide +kernel) rfl
theorem wlw_show_c : Cond.codeWith yL_show cL_show 5 (some .int) [(0, 10, 13, 38), (0, 10, 17, 13)] ∈ gT := gT_in 893 (by decide +kernel) rfl
theorem wlw_cancel_s : Cond.static yL_cancel ∈ gT := gT_in 917 (by decide +kernel) rfl
theorem wlw_cancel_c : Cond.codeWith yL_cancel cL_cancel 4 (some .int) [(0, 9, 12, 38)] ∈ gT := gT_in 918 (by decide +kernel) rfl
theorem gnc_2_4 : (gEx 2, gEx 4) ∈ gNc := by decide +kernel
theorem wlw_banquetOf_s : Cond.static yL_banquetOf ∈ gT := gT_in 929 (by decide +kernel) rfl
theorem wlw_banquetOf_c : Cond.codeWith yL_banquetOf cL_banquetOf 5 (some .int) [(0, 10, 13, 38), (0, 10, 17, 15)] ∈ gT := gT_in 930 (by decide +kernel) rfl
theorem wlw_next_s : Cond.static yL_next ∈ gT := gT_in 937 (by decide +kernel) rfl
theorem wlw_next_c : Cond.codeWith yL_next cL_next 3 (some .int) [(0, 8, 11, 38)] ∈ gT := gT_in 938 (by decide +kernel) rfl
theorem wlw_pass_s : Cond.static yL_pass ∈ gT := gT_in 949 (by decide +kernel) rfl
theorem wlw_pass_c : Cond.codeWith yL_pass cL_pass 4 (some .int) [(0, 9, 12, 15)] ∈ gT := gT_in 950 (by decide +kernel) rfl
theorem wcl_5 : Cond.classLink RL 100 (gEx 5) ∈ gT := gT_in 983 (by decide +kernel) rfl
theorem wca_5 : Cond.castable (gEx 5) (gEx 5) ∈ gN := gN_in 931 (by decide +kernel) rfl
theorem wlw_append_s : Cond.static yL_append ∈ gT := gT_in 981 (by decide +kernel) rfl
theorem wlw_append_c : Cond.codeWith yL_append cL_append 4 (some .int) [(0, 9, 12, 100)] ∈ gT := gT_in 982 (by decide +kernel) rfl
theorem wlw_read_s : Cond.static yL_read ∈ gT := gT_in 1009 (by decide +kernel) rfl
theorem wlw_read_c : Cond.codeWith yL_read cL_read 3 (some .int) [(0, 8, 11, 15), (0, 8, 14, 24)] ∈ gT := gT_in 1010 (by decide +kernel) rfl
theorem wlw_refusal_s : Cond.static yL_refusal ∈ gT := gT_in 1124 (by decide +kernel) rfl
theorem wlw_refusal_c : Cond.codeWith yL_refusal cL_refusal 4 (some .int) [(0, 9, 12, 38)] ∈ gT := gT_in 1125 (by decide +kernel) rfl
theorem wlw_account_s : Cond.static yL_account ∈ gT := gT_in 1132 (by decide +kernel) rfl
theorem wlw_account_c : Cond.codeWith yL_account cL_account 4 (some .int) [(0, 9, 12, 15)] ∈ gT := gT_in 1133 (by decide +kernel) rfl
theorem wcl_6 : Cond.classLink RL 116 (gEx 6) ∈ gT := gT_in 1152 (by decide +kernel) rfl
theorem wca_6 : Cond.castable (gEx 6) (gEx 6) ∈ gN := gN_in 1105 (by decide +kernel) rfl
theorem wlw_meanDampness_s : Cond.static yL_meanDampness ∈ gT := gT_in 1150 (by decide +kernel) rfl
theorem wlw_meanDampness_c : Cond.codeWith yL_meanDampness cL_meanDampness 3 (some .int) [(0, 7, 10, 116)] ∈ gT := gT_in 1151 (by decide +kernel) rfl
theorem wlw_broken_s : Cond.static yL_broken ∈ gT := gT_in 1178 (by decide +kernel) rfl
theorem wlw_broken_c : Cond.codeWith yL_broken cL_broken 3 (some .int) [(0, 8, 11, 116)] ∈ gT := gT_in 1179 (by decide +kernel) rfl
theorem wlw_undo_s : Cond.static yL_undo ∈ gT := gT_in 1186 (by decide +kernel) rfl
theorem wlw_undo_c : Cond.codeWith yL_undo cL_undo 3 (some .int) [(0, 8, 11, 100)] ∈ gT := gT_in 1187 (by decide +kernel) rfl
theorem wlw_restore_s : Cond.static yL_restore ∈ gT := gT_in 1198 (by decide +kernel) rfl
theorem wlw_restore_c : Cond.codeWith yL_restore cL_restore 3 (some .int) [(0, 8, 11, 100)] ∈ gT := gT_in 1199 (by decide +kernel) rfl
def w_humidity (u1 : Int32) (u2 : Int32) (z : Nat → Int64) (w : Nat → UInt64) (m0 : gMem) : Option gLR := gw2 (f_X8_humidity 0 u1 u2 m0) (fun r1 m1 => some ((0 : Int32), vp_updL z 0 r1.toInt64, w, m1)) (fun e1 m1 => if e1 = 1 then some ((1 : Int32), z, w, m1) else (if e1 = 2 then some ((2 : Int32), z, w, m1) else (none)))
set_option maxRecDepth 100000 in
set_option maxHeartbeats 4000000 in
theorem bw_humidity {p : Program} {l : Launch} {e : Env} {R : Room} {s : State} {m : MethodId} {args : Array Value} {below : List Frame} {meth : Method} {c : Code} {H : Heap} {locs : List Loc} {ls : Array Slot} {X : gX} {z : Nat → Int64} {w : Nat → UInt64} (E : gE2 p s m args c cL_humidity X) (hr : meth.sig.returnType = some .int) (hlocks : meth.locks = false) (hml : c.maxLocals = 5) (ht : c.exceptionTable.toList = tableOf [(0, 10, 13, 13), (0, 10, 17, 15)]) (hl0 : l.stackTraces = false) (hRf : 7 ≤ R.frames) (hRl : 146 ≤ R.locals) (hRc : 1 ≤ R.cells) (hRs : 6 ≤ R.slots) {u1 : Int32} {u2 : Int32} {m0 : gMem} {res : gLR} (hf : w_humidity u1 u2 z w m0 = some res) (hM : gM X m0 H) (hO : gO X z w H) (hS : va_S (gA2 X) s.heap H locs) (hl : lv_has ls 5 [(0, .ref (X.1 + 0)), (1, .int u1), (2, .int u2), (3, .ref (X.1 + 440))]) : W p l e R s m args below meth c H locs 0 0 (vx_MQ below (gQW X res) gXN args s 1 6 (gA2 X)) (F0 m 0 ls []) := by
  obtain ⟨hx, hb⟩ := (⟨E.1.1, E.1.2.1⟩ : _ ∧ _)
  unfold w_humidity at hf
  refine lv_aload_n hx hb dL_humidity_0 rfl (lv_at hl 3 rfl) ?_
  refine lv_iconst (v := (0 : Int32)) hx hb dL_humidity_1 (by decide) ?_
  refine lv_aload_n hx hb dL_humidity_2 rfl (lv_at hl 0 rfl) ?_
  refine lv_iload_n hx hb dL_humidity_3 rfl (lv_at hl 1 rfl) ?_
  refine lv_iload_n hx hb dL_humidity_4 rfl (lv_at hl 2 rfl) ?_
  obtain ⟨e1, r1, m1, hq, hf0, hf1⟩ := gw2_o hf
  refine gb_Ti (gq_VX (As := [.int u1, .int u2]) (ci := 8) (rm := { frames := 6, cells := 1, slots := 6, locals := 124 }) E hml hl.1 (c_X8_humidity l X hl0 0 u1 u2 m0 rfl hq) wt_X8_humidity wl_RL_7 rfl rfl (by decide) rfl rfl hM hS rfl rfl (Nat.le_trans (by decide) hRf) (Nat.le_trans (by decide) hRl) (Nat.le_trans (Nat.le_of_ble_eq_true rfl) hRc) (Nat.le_trans (Nat.le_of_ble_eq_true rfl) hRs) (Nat.le_of_ble_eq_true rfl) dL_humidity_5 rfl) hO hS (fun h0 => ?_) (fun h0 H locs hM hO hS => ?_)
  · have hf := hf1 h0
    intro H locs ce q9 hM hO hS hce hcv hcl
    by_cases h1 : e1 = 1
    · subst h1
      have hf := g_t rfl hf
      refine gl_catch E [] (⟨0, 10, 13, 13⟩ : ExceptionTableEntry) [(⟨0, 10, 17, 15⟩ : ExceptionTableEntry)] ht (fun a ha => by cases ha) (by decide) (by decide) wcl_1 wca_1 hce hcv hcl ?_
      refine lv_astore (lv' := [(4, .ref q9), (0, .ref (X.1 + 0)), (1, .int u1), (2, .int u2), (3, .ref (X.1 + 440))]) hx hb dL_humidity_13 hl (by decide) rfl (fun ls hl => ?_)
      refine lv_iconst (v := (1 : Int32)) hx hb dL_humidity_15 (by decide) ?_
      exact gq_ret E hr hlocks hf hM hO hS (Nat.le_of_ble_eq_true rfl) (Nat.le_of_ble_eq_true rfl) dL_humidity_16
    have hf := g_f h1 hf
    by_cases h1 : e1 = 2
    · subst h1
      have hf := g_t rfl hf
      refine gl_catch E [((⟨0, 10, 13, 13⟩ : ExceptionTableEntry), gEx 1, 0)] (⟨0, 10, 17, 15⟩ : ExceptionTableEntry) [] ht (fun a ha => by rcases List.mem_singleton.mp ha with rfl; exact ⟨by decide, wcl_1, gnc_2_1⟩) (by decide) (by decide) wcl_2 wca_2 hce hcv hcl ?_
      refine lv_astore (lv' := [(4, .ref q9), (0, .ref (X.1 + 0)), (1, .int u1), (2, .int u2), (3, .ref (X.1 + 440))]) hx hb dL_humidity_17 hl (by decide) rfl (fun ls hl => ?_)
      refine lv_iconst (v := (2 : Int32)) hx hb dL_humidity_19 (by decide) ?_
      exact gq_ret E hr hlocks hf hM hO hS (Nat.le_of_ble_eq_true rfl) (Nat.le_of_ble_eq_true rfl) dL_humidity_20
    have hf := g_f h1 hf
    cases hf
  have hf := hf0 h0
  refine lv_i2l (v := r1.toInt64) hx hb dL_humidity_8 rfl ?_
  refine gl_lst E hM hO hS dL_humidity_9 (fun H locs hM hO hS => ?_)
  refine lv_goto (tgt := 21) hx hb dL_humidity_10 (by decide) ?_
  refine lv_iconst (v := (0 : Int32)) hx hb dL_humidity_21 (by decide) ?_
  exact gq_ret E hr hlocks hf hM hO hS (Nat.le_of_ble_eq_true rfl) (Nat.le_of_ble_eq_true rfl) dL_humidity_22
theorem cw_humidity (l : Launch) (X : gX) (hl0 : l.stackTraces = false) (u1 : Int32) (u2 : Int32) (z : Nat → Int64) (w : Nat → UInt64) (m0 : gMem) {res : gLR} (hf : w_humidity u1 u2 z w m0 = some res) : vx_Met l yL_humidity (gWsW yL_humidity cL_humidity 5 (some .int) [(0, 10, 13, 13), (0, 10, 17, 15)]) { frames := 7, cells := 1, slots := 6, locals := 146 } (va_Pc [.ref (X.1 + 0), .int u1, .int u2, .ref (X.1 + 440)] (gB2 X m0 z w)) (gQW X res) gXN 1 6 (gA2 X) :=
  gMetW (by decide +kernel) rfl (Nat.le_of_ble_eq_true rfl) (fun p e s m args below meth c ls E hr hlocks hml ht hM hO hl => bw_humidity E hr hlocks hml ht hl0 (Nat.le_refl _) (Nat.le_refl _) (Nat.le_refl _) (Nat.le_refl _) hf hM hO va_S.rf hl)
def w_humidityIn (u1 : Int32) (z : Nat → Int64) (w : Nat → UInt64) (m0 : gMem) : Option gLR := gw2 (f_X8_humidityIn 0 u1 m0) (fun r1 m1 => some ((0 : Int32), vp_updL z 0 r1.toInt64, w, m1)) (fun e1 m1 => if e1 = 2 then some ((1 : Int32), z, w, m1) else (none))
set_option maxRecDepth 100000 in
set_option maxHeartbeats 4000000 in
theorem bw_humidityIn {p : Program} {l : Launch} {e : Env} {R : Room} {s : State} {m : MethodId} {args : Array Value} {below : List Frame} {meth : Method} {c : Code} {H : Heap} {locs : List Loc} {ls : Array Slot} {X : gX} {z : Nat → Int64} {w : Nat → UInt64} (E : gE2 p s m args c cL_humidityIn X) (hr : meth.sig.returnType = some .int) (hlocks : meth.locks = false) (hml : c.maxLocals = 4) (ht : c.exceptionTable.toList = tableOf [(0, 9, 12, 15)]) (hl0 : l.stackTraces = false) (hRf : 7 ≤ R.frames) (hRl : 121 ≤ R.locals) (hRc : 1 ≤ R.cells) (hRs : 6 ≤ R.slots) {u1 : Int32} {m0 : gMem} {res : gLR} (hf : w_humidityIn u1 z w m0 = some res) (hM : gM X m0 H) (hO : gO X z w H) (hS : va_S (gA2 X) s.heap H locs) (hl : lv_has ls 4 [(0, .ref (X.1 + 0)), (1, .int u1), (2, .ref (X.1 + 440))]) : W p l e R s m args below meth c H locs 0 0 (vx_MQ below (gQW X res) gXN args s 1 6 (gA2 X)) (F0 m 0 ls []) := by
  obtain ⟨hx, hb⟩ := (⟨E.1.1, E.1.2.1⟩ : _ ∧ _)
  unfold w_humidityIn at hf
  refine lv_aload_n hx hb dL_humidityIn_0 rfl (lv_at hl 2 rfl) ?_
  refine lv_iconst (v := (0 : Int32)) hx hb dL_humidityIn_1 (by decide) ?_
  refine lv_aload_n hx hb dL_humidityIn_2 rfl (lv_at hl 0 rfl) ?_
  refine lv_iload_n hx hb dL_humidityIn_3 rfl (lv_at hl 1 rfl) ?_
  obtain ⟨e1, r1, m1, hq, hf0, hf1⟩ := gw2_o hf
  refine gb_Ti (gq_VX (As := [.int u1]) (ci := 8) (rm := { frames := 6, cells := 1, slots := 6, locals := 100 }) E hml hl.1 (c_X8_humidityIn l X hl0 0 u1 m0 rfl hq) wt_X8_humidityIn wl_RL_17 rfl rfl (by decide) rfl rfl hM hS rfl rfl (Nat.le_trans (by decide) hRf) (Nat.le_trans (by decide) hRl) (Nat.le_trans (Nat.le_of_ble_eq_true rfl) hRc) (Nat.le_trans (Nat.le_of_ble_eq_true rfl) hRs) (Nat.le_of_ble_eq_true rfl) dL_humidityIn_4 rfl) hO hS (fun h0 => ?_) (fun h0 H locs hM hO hS => ?_)
  · have hf := hf1 h0
    intro H locs ce q9 hM hO hS hce hcv hcl
    by_cases h1 : e1 = 2
    · subst h1
      have hf := g_t rfl hf
      refine gl_catch E [] (⟨0, 9, 12, 15⟩ : ExceptionTableEntry) [] ht (fun a ha => by cases ha) (by decide) (by decide) wcl_2 wca_2 hce hcv hcl ?_
      refine lv_astore_n (lv' := [(3, .ref q9), (0, .ref (X.1 + 0)), (1, .int u1), (2, .ref (X.1 + 440))]) hx hb dL_humidityIn_12 rfl hl (by decide) rfl (fun ls hl => ?_)
      refine lv_iconst (v := (1 : Int32)) hx hb dL_humidityIn_13 (by decide) ?_
      exact gq_ret E hr hlocks hf hM hO hS (Nat.le_of_ble_eq_true rfl) (Nat.le_of_ble_eq_true rfl) dL_humidityIn_14
    have hf := g_f h1 hf
    cases hf
  have hf := hf0 h0
  refine lv_i2l (v := r1.toInt64) hx hb dL_humidityIn_7 rfl ?_
  refine gl_lst E hM hO hS dL_humidityIn_8 (fun H locs hM hO hS => ?_)
  refine lv_goto (tgt := 15) hx hb dL_humidityIn_9 (by decide) ?_
  refine lv_iconst (v := (0 : Int32)) hx hb dL_humidityIn_15 (by decide) ?_
  exact gq_ret E hr hlocks hf hM hO hS (Nat.le_of_ble_eq_true rfl) (Nat.le_of_ble_eq_true rfl) dL_humidityIn_16
theorem cw_humidityIn (l : Launch) (X : gX) (hl0 : l.stackTraces = false) (u1 : Int32) (z : Nat → Int64) (w : Nat → UInt64) (m0 : gMem) {res : gLR} (hf : w_humidityIn u1 z w m0 = some res) : vx_Met l yL_humidityIn (gWsW yL_humidityIn cL_humidityIn 4 (some .int) [(0, 9, 12, 15)]) { frames := 7, cells := 1, slots := 6, locals := 121 } (va_Pc [.ref (X.1 + 0), .int u1, .ref (X.1 + 440)] (gB2 X m0 z w)) (gQW X res) gXN 1 6 (gA2 X) :=
  gMetW (by decide +kernel) rfl (Nat.le_of_ble_eq_true rfl) (fun p e s m args below meth c ls E hr hlocks hml ht hM hO hl => bw_humidityIn E hr hlocks hml ht hl0 (Nat.le_refl _) (Nat.le_refl _) (Nat.le_refl _) (Nat.le_refl _) hf hM hO va_S.rf hl)
def w_buy (u1 : Int32) (u2 : Int32) (z : Nat → Int64) (w : Nat → UInt64) (m0 : gMem) : Option gLR := gw2 (f_X8_buy 0 u1 u2 m0) (fun r1 m1 => some ((0 : Int32), vp_updL z 0 r1.toInt64, w, m1)) (fun e1 m1 => if e1 = 2 then some ((1 : Int32), z, w, m1) else (if e1 = 3 then some ((2 : Int32), z, w, m1) else (none)))
set_option maxRecDepth 100000 in
set_option maxHeartbeats 4000000 in
theorem bw_buy {p : Program} {l : Launch} {e : Env} {R : Room} {s : State} {m : MethodId} {args : Array Value} {below : List Frame} {meth : Method} {c : Code} {H : Heap} {locs : List Loc} {ls : Array Slot} {X : gX} {z : Nat → Int64} {w : Nat → UInt64} (E : gE2 p s m args c cL_buy X) (hr : meth.sig.returnType = some .int) (hlocks : meth.locks = false) (hml : c.maxLocals = 5) (ht : c.exceptionTable.toList = tableOf [(0, 10, 13, 15), (0, 10, 17, 24)]) (hl0 : l.stackTraces = false) (hRf : 7 ≤ R.frames) (hRl : 146 ≤ R.locals) (hRc : 1 ≤ R.cells) (hRs : 6 ≤ R.slots) {u1 : Int32} {u2 : Int32} {m0 : gMem} {res : gLR} (hf : w_buy u1 u2 z w m0 = some res) (hM : gM X m0 H) (hO : gO X z w H) (hS : va_S (gA2 X) s.heap H locs) (hl : lv_has ls 5 [(0, .ref (X.1 + 0)), (1, .int u1), (2, .int u2), (3, .ref (X.1 + 440))]) : W p l e R s m args below meth c H locs 0 0 (vx_MQ below (gQW X res) gXN args s 1 6 (gA2 X)) (F0 m 0 ls []) := by
  obtain ⟨hx, hb⟩ := (⟨E.1.1, E.1.2.1⟩ : _ ∧ _)
  unfold w_buy at hf
  refine lv_aload_n hx hb dL_buy_0 rfl (lv_at hl 3 rfl) ?_
  refine lv_iconst (v := (0 : Int32)) hx hb dL_buy_1 (by decide) ?_
  refine lv_aload_n hx hb dL_buy_2 rfl (lv_at hl 0 rfl) ?_
  refine lv_iload_n hx hb dL_buy_3 rfl (lv_at hl 1 rfl) ?_
  refine lv_iload_n hx hb dL_buy_4 rfl (lv_at hl 2 rfl) ?_
  obtain ⟨e1, r1, m1, hq, hf0, hf1⟩ := gw2_o hf
  refine gb_Ti (gq_VX (As := [.int u1, .int u2]) (ci := 8) (rm := { frames := 6, cells := 1, slots := 6, locals := 124 }) E hml hl.1 (c_X8_buy l X hl0 0 u1 u2 m0 rfl hq) wt_X8_buy wl_RL_21 rfl rfl (by decide) rfl rfl hM hS rfl rfl (Nat.le_trans (by decide) hRf) (Nat.le_trans (by decide) hRl) (Nat.le_trans (Nat.le_of_ble_eq_true rfl) hRc) (Nat.le_trans (Nat.le_of_ble_eq_true rfl) hRs) (Nat.le_of_ble_eq_true rfl) dL_buy_5 rfl) hO hS (fun h0 => ?_) (fun h0 H locs hM hO hS => ?_)
  · have hf := hf1 h0
    intro H locs ce q9 hM hO hS hce hcv hcl
    by_cases h1 : e1 = 2
    · subst h1
      have hf := g_t rfl hf
      refine gl_catch E [] (⟨0, 10, 13, 15⟩ : ExceptionTableEntry) [(⟨0, 10, 17, 24⟩ : ExceptionTableEntry)] ht (fun a ha => by cases ha) (by decide) (by decide) wcl_2 wca_2 hce hcv hcl ?_
      refine lv_astore (lv' := [(4, .ref q9), (0, .ref (X.1 + 0)), (1, .int u1), (2, .int u2), (3, .ref (X.1 + 440))]) hx hb dL_buy_13 hl (by decide) rfl (fun ls hl => ?_)
      refine lv_iconst (v := (1 : Int32)) hx hb dL_buy_15 (by decide) ?_
      exact gq_ret E hr hlocks hf hM hO hS (Nat.le_of_ble_eq_true rfl) (Nat.le_of_ble_eq_true rfl) dL_buy_16
    have hf := g_f h1 hf
    by_cases h1 : e1 = 3
    · subst h1
      have hf := g_t rfl hf
      refine gl_catch E [((⟨0, 10, 13, 15⟩ : ExceptionTableEntry), gEx 2, 0)] (⟨0, 10, 17, 24⟩ : ExceptionTableEntry) [] ht (fun a ha => by rcases List.mem_singleton.mp ha with rfl; exact ⟨by decide, wcl_2, gnc_3_2⟩) (by decide) (by decide) wcl_3 wca_3 hce hcv hcl ?_
      refine lv_astore (lv' := [(4, .ref q9), (0, .ref (X.1 + 0)), (1, .int u1), (2, .int u2), (3, .ref (X.1 + 440))]) hx hb dL_buy_17 hl (by decide) rfl (fun ls hl => ?_)
      refine lv_iconst (v := (2 : Int32)) hx hb dL_buy_19 (by decide) ?_
      exact gq_ret E hr hlocks hf hM hO hS (Nat.le_of_ble_eq_true rfl) (Nat.le_of_ble_eq_true rfl) dL_buy_20
    have hf := g_f h1 hf
    cases hf
  have hf := hf0 h0
  refine lv_i2l (v := r1.toInt64) hx hb dL_buy_8 rfl ?_
  refine gl_lst E hM hO hS dL_buy_9 (fun H locs hM hO hS => ?_)
  refine lv_goto (tgt := 21) hx hb dL_buy_10 (by decide) ?_
  refine lv_iconst (v := (0 : Int32)) hx hb dL_buy_21 (by decide) ?_
  exact gq_ret E hr hlocks hf hM hO hS (Nat.le_of_ble_eq_true rfl) (Nat.le_of_ble_eq_true rfl) dL_buy_22
theorem cw_buy (l : Launch) (X : gX) (hl0 : l.stackTraces = false) (u1 : Int32) (u2 : Int32) (z : Nat → Int64) (w : Nat → UInt64) (m0 : gMem) {res : gLR} (hf : w_buy u1 u2 z w m0 = some res) : vx_Met l yL_buy (gWsW yL_buy cL_buy 5 (some .int) [(0, 10, 13, 15), (0, 10, 17, 24)]) { frames := 7, cells := 1, slots := 6, locals := 146 } (va_Pc [.ref (X.1 + 0), .int u1, .int u2, .ref (X.1 + 440)] (gB2 X m0 z w)) (gQW X res) gXN 1 6 (gA2 X) :=
  gMetW (by decide +kernel) rfl (Nat.le_of_ble_eq_true rfl) (fun p e s m args below meth c ls E hr hlocks hml ht hM hO hl => bw_buy E hr hlocks hml ht hl0 (Nat.le_refl _) (Nat.le_refl _) (Nat.le_refl _) (Nat.le_refl _) hf hM hO va_S.rf hl)
def w_stock (u1 : Int32) (z : Nat → Int64) (w : Nat → UInt64) (m0 : gMem) : Option gLR := gw2 (f_X8_stock 0 u1 m0) (fun r1 m1 => some ((0 : Int32), vp_updL z 0 r1.toInt64, w, m1)) (fun e1 m1 => if e1 = 2 then some ((1 : Int32), z, w, m1) else (none))
set_option maxRecDepth 100000 in
set_option maxHeartbeats 4000000 in
theorem bw_stock {p : Program} {l : Launch} {e : Env} {R : Room} {s : State} {m : MethodId} {args : Array Value} {below : List Frame} {meth : Method} {c : Code} {H : Heap} {locs : List Loc} {ls : Array Slot} {X : gX} {z : Nat → Int64} {w : Nat → UInt64} (E : gE2 p s m args c cL_stock X) (hr : meth.sig.returnType = some .int) (hlocks : meth.locks = false) (hml : c.maxLocals = 4) (ht : c.exceptionTable.toList = tableOf [(0, 9, 12, 15)]) (hl0 : l.stackTraces = false) (hRf : 7 ≤ R.frames) (hRl : 121 ≤ R.locals) (hRc : 1 ≤ R.cells) (hRs : 6 ≤ R.slots) {u1 : Int32} {m0 : gMem} {res : gLR} (hf : w_stock u1 z w m0 = some res) (hM : gM X m0 H) (hO : gO X z w H) (hS : va_S (gA2 X) s.heap H locs) (hl : lv_has ls 4 [(0, .ref (X.1 + 0)), (1, .int u1), (2, .ref (X.1 + 440))]) : W p l e R s m args below meth c H locs 0 0 (vx_MQ below (gQW X res) gXN args s 1 6 (gA2 X)) (F0 m 0 ls []) := by
  obtain ⟨hx, hb⟩ := (⟨E.1.1, E.1.2.1⟩ : _ ∧ _)
  unfold w_stock at hf
  refine lv_aload_n hx hb dL_stock_0 rfl (lv_at hl 2 rfl) ?_
  refine lv_iconst (v := (0 : Int32)) hx hb dL_stock_1 (by decide) ?_
  refine lv_aload_n hx hb dL_stock_2 rfl (lv_at hl 0 rfl) ?_
  refine lv_iload_n hx hb dL_stock_3 rfl (lv_at hl 1 rfl) ?_
  obtain ⟨e1, r1, m1, hq, hf0, hf1⟩ := gw2_o hf
  refine gb_Ti (gq_VX (As := [.int u1]) (ci := 8) (rm := { frames := 6, cells := 1, slots := 6, locals := 100 }) E hml hl.1 (c_X8_stock l X hl0 0 u1 m0 rfl hq) wt_X8_stock wl_RL_26 rfl rfl (by decide) rfl rfl hM hS rfl rfl (Nat.le_trans (by decide) hRf) (Nat.le_trans (by decide) hRl) (Nat.le_trans (Nat.le_of_ble_eq_true rfl) hRc) (Nat.le_trans (Nat.le_of_ble_eq_true rfl) hRs) (Nat.le_of_ble_eq_true rfl) dL_stock_4 rfl) hO hS (fun h0 => ?_) (fun h0 H locs hM hO hS => ?_)
  · have hf := hf1 h0
    intro H locs ce q9 hM hO hS hce hcv hcl
    by_cases h1 : e1 = 2
    · subst h1
      have hf := g_t rfl hf
      refine gl_catch E [] (⟨0, 9, 12, 15⟩ : ExceptionTableEntry) [] ht (fun a ha => by cases ha) (by decide) (by decide) wcl_2 wca_2 hce hcv hcl ?_
      refine lv_astore_n (lv' := [(3, .ref q9), (0, .ref (X.1 + 0)), (1, .int u1), (2, .ref (X.1 + 440))]) hx hb dL_stock_12 rfl hl (by decide) rfl (fun ls hl => ?_)
      refine lv_iconst (v := (1 : Int32)) hx hb dL_stock_13 (by decide) ?_
      exact gq_ret E hr hlocks hf hM hO hS (Nat.le_of_ble_eq_true rfl) (Nat.le_of_ble_eq_true rfl) dL_stock_14
    have hf := g_f h1 hf
    cases hf
  have hf := hf0 h0
  refine lv_i2l (v := r1.toInt64) hx hb dL_stock_7 rfl ?_
  refine gl_lst E hM hO hS dL_stock_8 (fun H locs hM hO hS => ?_)
  refine lv_goto (tgt := 15) hx hb dL_stock_9 (by decide) ?_
  refine lv_iconst (v := (0 : Int32)) hx hb dL_stock_15 (by decide) ?_
  exact gq_ret E hr hlocks hf hM hO hS (Nat.le_of_ble_eq_true rfl) (Nat.le_of_ble_eq_true rfl) dL_stock_16
theorem cw_stock (l : Launch) (X : gX) (hl0 : l.stackTraces = false) (u1 : Int32) (z : Nat → Int64) (w : Nat → UInt64) (m0 : gMem) {res : gLR} (hf : w_stock u1 z w m0 = some res) : vx_Met l yL_stock (gWsW yL_stock cL_stock 4 (some .int) [(0, 9, 12, 15)]) { frames := 7, cells := 1, slots := 6, locals := 121 } (va_Pc [.ref (X.1 + 0), .int u1, .ref (X.1 + 440)] (gB2 X m0 z w)) (gQW X res) gXN 1 6 (gA2 X) :=
  gMetW (by decide +kernel) rfl (Nat.le_of_ble_eq_true rfl) (fun p e s m args below meth c ls E hr hlocks hml ht hM hO hl => bw_stock E hr hlocks hml ht hl0 (Nat.le_refl _) (Nat.le_refl _) (Nat.le_refl _) (Nat.le_refl _) hf hM hO va_S.rf hl)
def w_tongs (u1 : Int32) (z : Nat → Int64) (w : Nat → UInt64) (m0 : gMem) : Option gLR := gw2 (f_X8_tongs 0 u1 m0) (fun r1 m1 => some ((0 : Int32), vp_updL z 0 r1.toInt64, w, m1)) (fun e1 m1 => if e1 = 2 then some ((1 : Int32), z, w, m1) else (if e1 = 3 then some ((2 : Int32), z, w, m1) else (none)))
set_option maxRecDepth 100000 in
set_option maxHeartbeats 4000000 in
theorem bw_tongs {p : Program} {l : Launch} {e : Env} {R : Room} {s : State} {m : MethodId} {args : Array Value} {below : List Frame} {meth : Method} {c : Code} {H : Heap} {locs : List Loc} {ls : Array Slot} {X : gX} {z : Nat → Int64} {w : Nat → UInt64} (E : gE2 p s m args c cL_tongs X) (hr : meth.sig.returnType = some .int) (hlocks : meth.locks = false) (hml : c.maxLocals = 4) (ht : c.exceptionTable.toList = tableOf [(0, 9, 12, 15), (0, 9, 15, 24)]) (hl0 : l.stackTraces = false) (hRf : 7 ≤ R.frames) (hRl : 145 ≤ R.locals) (hRc : 1 ≤ R.cells) (hRs : 6 ≤ R.slots) {u1 : Int32} {m0 : gMem} {res : gLR} (hf : w_tongs u1 z w m0 = some res) (hM : gM X m0 H) (hO : gO X z w H) (hS : va_S (gA2 X) s.heap H locs) (hl : lv_has ls 4 [(0, .ref (X.1 + 0)), (1, .int u1), (2, .ref (X.1 + 440))]) : W p l e R s m args below meth c H locs 0 0 (vx_MQ below (gQW X res) gXN args s 1 6 (gA2 X)) (F0 m 0 ls []) := by
  obtain ⟨hx, hb⟩ := (⟨E.1.1, E.1.2.1⟩ : _ ∧ _)
  unfold w_tongs at hf
  refine lv_aload_n hx hb dL_tongs_0 rfl (lv_at hl 2 rfl) ?_
  refine lv_iconst (v := (0 : Int32)) hx hb dL_tongs_1 (by decide) ?_
  refine lv_aload_n hx hb dL_tongs_2 rfl (lv_at hl 0 rfl) ?_
  refine lv_iload_n hx hb dL_tongs_3 rfl (lv_at hl 1 rfl) ?_
  obtain ⟨e1, r1, m1, hq, hf0, hf1⟩ := gw2_o hf
  refine gb_Ti (gq_VX (As := [.int u1]) (ci := 8) (rm := { frames := 6, cells := 1, slots := 6, locals := 124 }) E hml hl.1 (c_X8_tongs l X hl0 0 u1 m0 rfl hq) wt_X8_tongs wl_RL_29 rfl rfl (by decide) rfl rfl hM hS rfl rfl (Nat.le_trans (by decide) hRf) (Nat.le_trans (by decide) hRl) (Nat.le_trans (Nat.le_of_ble_eq_true rfl) hRc) (Nat.le_trans (Nat.le_of_ble_eq_true rfl) hRs) (Nat.le_of_ble_eq_true rfl) dL_tongs_4 rfl) hO hS (fun h0 => ?_) (fun h0 H locs hM hO hS => ?_)
  · have hf := hf1 h0
    intro H locs ce q9 hM hO hS hce hcv hcl
    by_cases h1 : e1 = 2
    · subst h1
      have hf := g_t rfl hf
      refine gl_catch E [] (⟨0, 9, 12, 15⟩ : ExceptionTableEntry) [(⟨0, 9, 15, 24⟩ : ExceptionTableEntry)] ht (fun a ha => by cases ha) (by decide) (by decide) wcl_2 wca_2 hce hcv hcl ?_
      refine lv_astore_n (lv' := [(3, .ref q9), (0, .ref (X.1 + 0)), (1, .int u1), (2, .ref (X.1 + 440))]) hx hb dL_tongs_12 rfl hl (by decide) rfl (fun ls hl => ?_)
      refine lv_iconst (v := (1 : Int32)) hx hb dL_tongs_13 (by decide) ?_
      exact gq_ret E hr hlocks hf hM hO hS (Nat.le_of_ble_eq_true rfl) (Nat.le_of_ble_eq_true rfl) dL_tongs_14
    have hf := g_f h1 hf
    by_cases h1 : e1 = 3
    · subst h1
      have hf := g_t rfl hf
      refine gl_catch E [((⟨0, 9, 12, 15⟩ : ExceptionTableEntry), gEx 2, 0)] (⟨0, 9, 15, 24⟩ : ExceptionTableEntry) [] ht (fun a ha => by rcases List.mem_singleton.mp ha with rfl; exact ⟨by decide, wcl_2, gnc_3_2⟩) (by decide) (by decide) wcl_3 wca_3 hce hcv hcl ?_
      refine lv_astore_n (lv' := [(3, .ref q9), (0, .ref (X.1 + 0)), (1, .int u1), (2, .ref (X.1 + 440))]) hx hb dL_tongs_15 rfl hl (by decide) rfl (fun ls hl => ?_)
      refine lv_iconst (v := (2 : Int32)) hx hb dL_tongs_16 (by decide) ?_
      exact gq_ret E hr hlocks hf hM hO hS (Nat.le_of_ble_eq_true rfl) (Nat.le_of_ble_eq_true rfl) dL_tongs_17
    have hf := g_f h1 hf
    cases hf
  have hf := hf0 h0
  refine lv_i2l (v := r1.toInt64) hx hb dL_tongs_7 rfl ?_
  refine gl_lst E hM hO hS dL_tongs_8 (fun H locs hM hO hS => ?_)
  refine lv_goto (tgt := 18) hx hb dL_tongs_9 (by decide) ?_
  refine lv_iconst (v := (0 : Int32)) hx hb dL_tongs_18 (by decide) ?_
  exact gq_ret E hr hlocks hf hM hO hS (Nat.le_of_ble_eq_true rfl) (Nat.le_of_ble_eq_true rfl) dL_tongs_19
theorem cw_tongs (l : Launch) (X : gX) (hl0 : l.stackTraces = false) (u1 : Int32) (z : Nat → Int64) (w : Nat → UInt64) (m0 : gMem) {res : gLR} (hf : w_tongs u1 z w m0 = some res) : vx_Met l yL_tongs (gWsW yL_tongs cL_tongs 4 (some .int) [(0, 9, 12, 15), (0, 9, 15, 24)]) { frames := 7, cells := 1, slots := 6, locals := 145 } (va_Pc [.ref (X.1 + 0), .int u1, .ref (X.1 + 440)] (gB2 X m0 z w)) (gQW X res) gXN 1 6 (gA2 X) :=
  gMetW (by decide +kernel) rfl (Nat.le_of_ble_eq_true rfl) (fun p e s m args below meth c ls E hr hlocks hml ht hM hO hl => bw_tongs E hr hlocks hml ht hl0 (Nat.le_refl _) (Nat.le_refl _) (Nat.le_refl _) (Nat.le_refl _) hf hM hO va_S.rf hl)
def w_tongsOf (u1 : Int32) (u2 : Int32) (z : Nat → Int64) (w : Nat → UInt64) (m0 : gMem) : Option gLR := gw2 (f_X8_tongsOf 0 u1 u2 m0) (fun r1 m1 => some ((0 : Int32), vp_updL z 0 r1.toInt64, w, m1)) (fun e1 m1 => if e1 = 1 then some ((1 : Int32), z, w, m1) else (if e1 = 2 then some ((2 : Int32), z, w, m1) else (none)))
set_option maxRecDepth 100000 in
set_option maxHeartbeats 4000000 in
theorem bw_tongsOf {p : Program} {l : Launch} {e : Env} {R : Room} {s : State} {m : MethodId} {args : Array Value} {below : List Frame} {meth : Method} {c : Code} {H : Heap} {locs : List Loc} {ls : Array Slot} {X : gX} {z : Nat → Int64} {w : Nat → UInt64} (E : gE2 p s m args c cL_tongsOf X) (hr : meth.sig.returnType = some .int) (hlocks : meth.locks = false) (hml : c.maxLocals = 5) (ht : c.exceptionTable.toList = tableOf [(0, 10, 13, 13), (0, 10, 17, 15)]) (hl0 : l.stackTraces = false) (hRf : 8 ≤ R.frames) (hRl : 145 ≤ R.locals) (hRc : 2 ≤ R.cells) (hRs : 12 ≤ R.slots) {u1 : Int32} {u2 : Int32} {m0 : gMem} {res : gLR} (hf : w_tongsOf u1 u2 z w m0 = some res) (hM : gM X m0 H) (hO : gO X z w H) (hS : va_S (gA2 X) s.heap H locs) (hl : lv_has ls 5 [(0, .ref (X.1 + 0)), (1, .int u1), (2, .int u2), (3, .ref (X.1 + 440))]) : W p l e R s m args below meth c H locs 0 0 (vx_MQ below (gQW X res) gXN args s 2 12 (gA2 X)) (F0 m 0 ls []) := by
  obtain ⟨hx, hb⟩ := (⟨E.1.1, E.1.2.1⟩ : _ ∧ _)
  unfold w_tongsOf at hf
  refine lv_aload_n hx hb dL_tongsOf_0 rfl (lv_at hl 3 rfl) ?_
  refine lv_iconst (v := (0 : Int32)) hx hb dL_tongsOf_1 (by decide) ?_
  refine lv_aload_n hx hb dL_tongsOf_2 rfl (lv_at hl 0 rfl) ?_
  refine lv_iload_n hx hb dL_tongsOf_3 rfl (lv_at hl 1 rfl) ?_
  refine lv_iload_n hx hb dL_tongsOf_4 rfl (lv_at hl 2 rfl) ?_
  obtain ⟨e1, r1, m1, hq, hf0, hf1⟩ := gw2_o hf
  refine gb_Ti (gq_VX (As := [.int u1, .int u2]) (ci := 8) (rm := { frames := 7, cells := 2, slots := 12, locals := 122 }) E hml hl.1 (c_X8_tongsOf l X hl0 0 u1 u2 m0 rfl hq) wt_X8_tongsOf wl_RL_32 rfl rfl (by decide) rfl rfl hM hS rfl rfl (Nat.le_trans (by decide) hRf) (Nat.le_trans (by decide) hRl) (Nat.le_trans (Nat.le_of_ble_eq_true rfl) hRc) (Nat.le_trans (Nat.le_of_ble_eq_true rfl) hRs) (Nat.le_of_ble_eq_true rfl) dL_tongsOf_5 rfl) hO hS (fun h0 => ?_) (fun h0 H locs hM hO hS => ?_)
  · have hf := hf1 h0
    intro H locs ce q9 hM hO hS hce hcv hcl
    by_cases h1 : e1 = 1
    · subst h1
      have hf := g_t rfl hf
      refine gl_catch E [] (⟨0, 10, 13, 13⟩ : ExceptionTableEntry) [(⟨0, 10, 17, 15⟩ : ExceptionTableEntry)] ht (fun a ha => by cases ha) (by decide) (by decide) wcl_1 wca_1 hce hcv hcl ?_
      refine lv_astore (lv' := [(4, .ref q9), (0, .ref (X.1 + 0)), (1, .int u1), (2, .int u2), (3, .ref (X.1 + 440))]) hx hb dL_tongsOf_13 hl (by decide) rfl (fun ls hl => ?_)
      refine lv_iconst (v := (1 : Int32)) hx hb dL_tongsOf_15 (by decide) ?_
      exact gq_ret E hr hlocks hf hM hO hS (Nat.le_of_ble_eq_true rfl) (Nat.le_of_ble_eq_true rfl) dL_tongsOf_16
    have hf := g_f h1 hf
    by_cases h1 : e1 = 2
    · subst h1
      have hf := g_t rfl hf
      refine gl_catch E [((⟨0, 10, 13, 13⟩ : ExceptionTableEntry), gEx 1, 0)] (⟨0, 10, 17, 15⟩ : ExceptionTableEntry) [] ht (fun a ha => by rcases List.mem_singleton.mp ha with rfl; exact ⟨by decide, wcl_1, gnc_2_1⟩) (by decide) (by decide) wcl_2 wca_2 hce hcv hcl ?_
      refine lv_astore (lv' := [(4, .ref q9), (0, .ref (X.1 + 0)), (1, .int u1), (2, .int u2), (3, .ref (X.1 + 440))]) hx hb dL_tongsOf_17 hl (by decide) rfl (fun ls hl => ?_)
      refine lv_iconst (v := (2 : Int32)) hx hb dL_tongsOf_19 (by decide) ?_
      exact gq_ret E hr hlocks hf hM hO hS (Nat.le_of_ble_eq_true rfl) (Nat.le_of_ble_eq_true rfl) dL_tongsOf_20
    have hf := g_f h1 hf
    cases hf
  have hf := hf0 h0
  refine lv_i2l (v := r1.toInt64) hx hb dL_tongsOf_8 rfl ?_
  refine gl_lst E hM hO hS dL_tongsOf_9 (fun H locs hM hO hS => ?_)
  refine lv_goto (tgt := 21) hx hb dL_tongsOf_10 (by decide) ?_
  refine lv_iconst (v := (0 : Int32)) hx hb dL_tongsOf_21 (by decide) ?_
  exact gq_ret E hr hlocks hf hM hO hS (Nat.le_of_ble_eq_true rfl) (Nat.le_of_ble_eq_true rfl) dL_tongsOf_22
theorem cw_tongsOf (l : Launch) (X : gX) (hl0 : l.stackTraces = false) (u1 : Int32) (u2 : Int32) (z : Nat → Int64) (w : Nat → UInt64) (m0 : gMem) {res : gLR} (hf : w_tongsOf u1 u2 z w m0 = some res) : vx_Met l yL_tongsOf (gWsW yL_tongsOf cL_tongsOf 5 (some .int) [(0, 10, 13, 13), (0, 10, 17, 15)]) { frames := 8, cells := 2, slots := 12, locals := 145 } (va_Pc [.ref (X.1 + 0), .int u1, .int u2, .ref (X.1 + 440)] (gB2 X m0 z w)) (gQW X res) gXN 2 12 (gA2 X) :=
  gMetW (by decide +kernel) rfl (Nat.le_of_ble_eq_true rfl) (fun p e s m args below meth c ls E hr hlocks hml ht hM hO hl => bw_tongsOf E hr hlocks hml ht hl0 (Nat.le_refl _) (Nat.le_refl _) (Nat.le_refl _) (Nat.le_refl _) hf hM hO va_S.rf hl)
def w_tongsFor (u1 : Int32) (z : Nat → Int64) (w : Nat → UInt64) (m0 : gMem) : Option gLR := gw2 (f_X8_tongsFor 0 u1 m0) (fun r1 m1 => some ((0 : Int32), vp_updL z 0 r1.toInt64, w, m1)) (fun e1 m1 => if e1 = 2 then some ((1 : Int32), z, w, m1) else (if e1 = 4 then some ((2 : Int32), z, w, m1) else (none)))
set_option maxRecDepth 100000 in
set_option maxHeartbeats 4000000 in
theorem bw_tongsFor {p : Program} {l : Launch} {e : Env} {R : Room} {s : State} {m : MethodId} {args : Array Value} {below : List Frame} {meth : Method} {c : Code} {H : Heap} {locs : List Loc} {ls : Array Slot} {X : gX} {z : Nat → Int64} {w : Nat → UInt64} (E : gE2 p s m args c cL_tongsFor X) (hr : meth.sig.returnType = some .int) (hlocks : meth.locks = false) (hml : c.maxLocals = 4) (ht : c.exceptionTable.toList = tableOf [(0, 9, 12, 15), (0, 9, 15, 38)]) (hl0 : l.stackTraces = false) (hRf : 7 ≤ R.frames) (hRl : 122 ≤ R.locals) (hRc : 1 ≤ R.cells) (hRs : 6 ≤ R.slots) {u1 : Int32} {m0 : gMem} {res : gLR} (hf : w_tongsFor u1 z w m0 = some res) (hM : gM X m0 H) (hO : gO X z w H) (hS : va_S (gA2 X) s.heap H locs) (hl : lv_has ls 4 [(0, .ref (X.1 + 0)), (1, .int u1), (2, .ref (X.1 + 440))]) : W p l e R s m args below meth c H locs 0 0 (vx_MQ below (gQW X res) gXN args s 1 6 (gA2 X)) (F0 m 0 ls []) := by
  obtain ⟨hx, hb⟩ := (⟨E.1.1, E.1.2.1⟩ : _ ∧ _)
  unfold w_tongsFor at hf
  refine lv_aload_n hx hb dL_tongsFor_0 rfl (lv_at hl 2 rfl) ?_
  refine lv_iconst (v := (0 : Int32)) hx hb dL_tongsFor_1 (by decide) ?_
  refine lv_aload_n hx hb dL_tongsFor_2 rfl (lv_at hl 0 rfl) ?_
  refine lv_iload_n hx hb dL_tongsFor_3 rfl (lv_at hl 1 rfl) ?_
  obtain ⟨e1, r1, m1, hq, hf0, hf1⟩ := gw2_o hf
  refine gb_Ti (gq_VX (As := [.int u1]) (ci := 8) (rm := { frames := 6, cells := 1, slots := 6, locals := 100 }) E hml hl.1 (c_X8_tongsFor l X hl0 0 u1 m0 rfl hq) wt_X8_tongsFor wl_RL_35 rfl rfl (by decide) rfl rfl hM hS rfl rfl (Nat.le_trans (by decide) hRf) (Nat.le_trans (by decide) hRl) (Nat.le_trans (Nat.le_of_ble_eq_true rfl) hRc) (Nat.le_trans (Nat.le_of_ble_eq_true rfl) hRs) (Nat.le_of_ble_eq_true rfl) dL_tongsFor_4 rfl) hO hS (fun h0 => ?_) (fun h0 H locs hM hO hS => ?_)
  · have hf := hf1 h0
    intro H locs ce q9 hM hO hS hce hcv hcl
    by_cases h1 : e1 = 2
    · subst h1
      have hf := g_t rfl hf
      refine gl_catch E [] (⟨0, 9, 12, 15⟩ : ExceptionTableEntry) [(⟨0, 9, 15, 38⟩ : ExceptionTableEntry)] ht (fun a ha => by cases ha) (by decide) (by decide) wcl_2 wca_2 hce hcv hcl ?_
      refine lv_astore_n (lv' := [(3, .ref q9), (0, .ref (X.1 + 0)), (1, .int u1), (2, .ref (X.1 + 440))]) hx hb dL_tongsFor_12 rfl hl (by decide) rfl (fun ls hl => ?_)
      refine lv_iconst (v := (1 : Int32)) hx hb dL_tongsFor_13 (by decide) ?_
      exact gq_ret E hr hlocks hf hM hO hS (Nat.le_of_ble_eq_true rfl) (Nat.le_of_ble_eq_true rfl) dL_tongsFor_14
    have hf := g_f h1 hf
    by_cases h1 : e1 = 4
    · subst h1
      have hf := g_t rfl hf
      refine gl_catch E [((⟨0, 9, 12, 15⟩ : ExceptionTableEntry), gEx 2, 0)] (⟨0, 9, 15, 38⟩ : ExceptionTableEntry) [] ht (fun a ha => by rcases List.mem_singleton.mp ha with rfl; exact ⟨by decide, wcl_2, gnc_4_2⟩) (by decide) (by decide) wcl_4 wca_4 hce hcv hcl ?_
      refine lv_astore_n (lv' := [(3, .ref q9), (0, .ref (X.1 + 0)), (1, .int u1), (2, .ref (X.1 + 440))]) hx hb dL_tongsFor_15 rfl hl (by decide) rfl (fun ls hl => ?_)
      refine lv_iconst (v := (2 : Int32)) hx hb dL_tongsFor_16 (by decide) ?_
      exact gq_ret E hr hlocks hf hM hO hS (Nat.le_of_ble_eq_true rfl) (Nat.le_of_ble_eq_true rfl) dL_tongsFor_17
    have hf := g_f h1 hf
    cases hf
  have hf := hf0 h0
  refine lv_i2l (v := r1.toInt64) hx hb dL_tongsFor_7 rfl ?_
  refine gl_lst E hM hO hS dL_tongsFor_8 (fun H locs hM hO hS => ?_)
  refine lv_goto (tgt := 18) hx hb dL_tongsFor_9 (by decide) ?_
  refine lv_iconst (v := (0 : Int32)) hx hb dL_tongsFor_18 (by decide) ?_
  exact gq_ret E hr hlocks hf hM hO hS (Nat.le_of_ble_eq_true rfl) (Nat.le_of_ble_eq_true rfl) dL_tongsFor_19
theorem cw_tongsFor (l : Launch) (X : gX) (hl0 : l.stackTraces = false) (u1 : Int32) (z : Nat → Int64) (w : Nat → UInt64) (m0 : gMem) {res : gLR} (hf : w_tongsFor u1 z w m0 = some res) : vx_Met l yL_tongsFor (gWsW yL_tongsFor cL_tongsFor 4 (some .int) [(0, 9, 12, 15), (0, 9, 15, 38)]) { frames := 7, cells := 1, slots := 6, locals := 122 } (va_Pc [.ref (X.1 + 0), .int u1, .ref (X.1 + 440)] (gB2 X m0 z w)) (gQW X res) gXN 1 6 (gA2 X) :=
  gMetW (by decide +kernel) rfl (Nat.le_of_ble_eq_true rfl) (fun p e s m args below meth c ls E hr hlocks hml ht hM hO hl => bw_tongsFor E hr hlocks hml ht hl0 (Nat.le_refl _) (Nat.le_refl _) (Nat.le_refl _) (Nat.le_refl _) hf hM hO va_S.rf hl)
def w_tower  (z : Nat → Int64) (w : Nat → UInt64) (m0 : gMem) : Option gLR := gw2 (f_X8_tower 0 m0) (fun r1 m1 => some ((0 : Int32), vp_updL z 0 r1.toInt64, w, m1)) (fun e1 m1 => if e1 = 3 then some ((1 : Int32), z, w, m1) else (none))
set_option maxRecDepth 100000 in
set_option maxHeartbeats 4000000 in
theorem bw_tower {p : Program} {l : Launch} {e : Env} {R : Room} {s : State} {m : MethodId} {args : Array Value} {below : List Frame} {meth : Method} {c : Code} {H : Heap} {locs : List Loc} {ls : Array Slot} {X : gX} {z : Nat → Int64} {w : Nat → UInt64} (E : gE2 p s m args c cL_tower X) (hr : meth.sig.returnType = some .int) (hlocks : meth.locks = false) (hml : c.maxLocals = 3) (ht : c.exceptionTable.toList = tableOf [(0, 8, 11, 24)]) (hl0 : l.stackTraces = false) (hRf : 7 ≤ R.frames) (hRl : 144 ≤ R.locals) (hRc : 1 ≤ R.cells) (hRs : 6 ≤ R.slots)  {m0 : gMem} {res : gLR} (hf : w_tower z w m0 = some res) (hM : gM X m0 H) (hO : gO X z w H) (hS : va_S (gA2 X) s.heap H locs) (hl : lv_has ls 3 [(0, .ref (X.1 + 0)), (1, .ref (X.1 + 440))]) : W p l e R s m args below meth c H locs 0 0 (vx_MQ below (gQW X res) gXN args s 1 6 (gA2 X)) (F0 m 0 ls []) := by
  obtain ⟨hx, hb⟩ := (⟨E.1.1, E.1.2.1⟩ : _ ∧ _)
  unfold w_tower at hf
  refine lv_aload_n hx hb dL_tower_0 rfl (lv_at hl 1 rfl) ?_
  refine lv_iconst (v := (0 : Int32)) hx hb dL_tower_1 (by decide) ?_
  refine lv_aload_n hx hb dL_tower_2 rfl (lv_at hl 0 rfl) ?_
  obtain ⟨e1, r1, m1, hq, hf0, hf1⟩ := gw2_o hf
  refine gb_Ti (gq_VX (As := []) (ci := 8) (rm := { frames := 6, cells := 1, slots := 6, locals := 124 }) E hml hl.1 (c_X8_tower l X hl0 0 m0 rfl hq) wt_X8_tower wl_RL_40 rfl rfl (by decide) rfl rfl hM hS rfl rfl (Nat.le_trans (by decide) hRf) (Nat.le_trans (by decide) hRl) (Nat.le_trans (Nat.le_of_ble_eq_true rfl) hRc) (Nat.le_trans (Nat.le_of_ble_eq_true rfl) hRs) (Nat.le_of_ble_eq_true rfl) dL_tower_3 rfl) hO hS (fun h0 => ?_) (fun h0 H locs hM hO hS => ?_)
  · have hf := hf1 h0
    intro H locs ce q9 hM hO hS hce hcv hcl
    by_cases h1 : e1 = 3
    · subst h1
      have hf := g_t rfl hf
      refine gl_catch E [] (⟨0, 8, 11, 24⟩ : ExceptionTableEntry) [] ht (fun a ha => by cases ha) (by decide) (by decide) wcl_3 wca_3 hce hcv hcl ?_
      refine lv_astore_n (lv' := [(2, .ref q9), (0, .ref (X.1 + 0)), (1, .ref (X.1 + 440))]) hx hb dL_tower_11 rfl hl (by decide) rfl (fun ls hl => ?_)
      refine lv_iconst (v := (1 : Int32)) hx hb dL_tower_12 (by decide) ?_
      exact gq_ret E hr hlocks hf hM hO hS (Nat.le_of_ble_eq_true rfl) (Nat.le_of_ble_eq_true rfl) dL_tower_13
    have hf := g_f h1 hf
    cases hf
  have hf := hf0 h0
  refine lv_i2l (v := r1.toInt64) hx hb dL_tower_6 rfl ?_
  refine gl_lst E hM hO hS dL_tower_7 (fun H locs hM hO hS => ?_)
  refine lv_goto (tgt := 14) hx hb dL_tower_8 (by decide) ?_
  refine lv_iconst (v := (0 : Int32)) hx hb dL_tower_14 (by decide) ?_
  exact gq_ret E hr hlocks hf hM hO hS (Nat.le_of_ble_eq_true rfl) (Nat.le_of_ble_eq_true rfl) dL_tower_15
theorem cw_tower (l : Launch) (X : gX) (hl0 : l.stackTraces = false)  (z : Nat → Int64) (w : Nat → UInt64) (m0 : gMem) {res : gLR} (hf : w_tower z w m0 = some res) : vx_Met l yL_tower (gWsW yL_tower cL_tower 3 (some .int) [(0, 8, 11, 24)]) { frames := 7, cells := 1, slots := 6, locals := 144 } (va_Pc [.ref (X.1 + 0), .ref (X.1 + 440)] (gB2 X m0 z w)) (gQW X res) gXN 1 6 (gA2 X) :=
  gMetW (by decide +kernel) rfl (Nat.le_of_ble_eq_true rfl) (fun p e s m args below meth c ls E hr hlocks hml ht hM hO hl => bw_tower E hr hlocks hml ht hl0 (Nat.le_refl _) (Nat.le_refl _) (Nat.le_refl _) (Nat.le_refl _) hf hM hO va_S.rf hl)
def w_lay (u1 : Int32) (u2 : Int32) (u3 : Int32) (u4 : Int32) (z : Nat → Int64) (w : Nat → UInt64) (m0 : gMem) : Option gLR := gw2 (f_X8_lay 0 u1 u2 u3 u4 m0) (fun r1 m1 => some ((0 : Int32), vp_updL z 0 r1.toInt64, w, m1)) (fun e1 m1 => if e1 = 1 then some ((1 : Int32), z, w, m1) else (if e1 = 2 then some ((2 : Int32), z, w, m1) else (if e1 = 3 then some ((3 : Int32), z, w, m1) else (none))))
set_option maxRecDepth 100000 in
set_option maxHeartbeats 4000000 in
theorem bw_lay {p : Program} {l : Launch} {e : Env} {R : Room} {s : State} {m : MethodId} {args : Array Value} {below : List Frame} {meth : Method} {c : Code} {H : Heap} {locs : List Loc} {ls : Array Slot} {X : gX} {z : Nat → Int64} {w : Nat → UInt64} (E : gE2 p s m args c cL_lay X) (hr : meth.sig.returnType = some .int) (hlocks : meth.locks = false) (hml : c.maxLocals = 7) (ht : c.exceptionTable.toList = tableOf [(0, 14, 17, 13), (0, 14, 21, 15), (0, 14, 25, 24)]) (hl0 : l.stackTraces = false) (hRf : 9 ≤ R.frames) (hRl : 185 ≤ R.locals) (hRc : 4 ≤ R.cells) (hRs : 24 ≤ R.slots) {u1 : Int32} {u2 : Int32} {u3 : Int32} {u4 : Int32} {m0 : gMem} {res : gLR} (hf : w_lay u1 u2 u3 u4 z w m0 = some res) (hM : gM X m0 H) (hO : gO X z w H) (hS : va_S (gA2 X) s.heap H locs) (hl : lv_has ls 7 [(0, .ref (X.1 + 0)), (1, .int u1), (2, .int u2), (3, .int u3), (4, .int u4), (5, .ref (X.1 + 440))]) : W p l e R s m args below meth c H locs 0 0 (vx_MQ below (gQW X res) gXN args s 4 24 (gA2 X)) (F0 m 0 ls []) := by
  obtain ⟨hx, hb⟩ := (⟨E.1.1, E.1.2.1⟩ : _ ∧ _)
  unfold w_lay at hf
  refine lv_aload hx hb dL_lay_0 (lv_at hl 5 rfl) ?_
  refine lv_iconst (v := (0 : Int32)) hx hb dL_lay_2 (by decide) ?_
  refine lv_aload_n hx hb dL_lay_3 rfl (lv_at hl 0 rfl) ?_
  refine lv_iload_n hx hb dL_lay_4 rfl (lv_at hl 1 rfl) ?_
  refine lv_iload_n hx hb dL_lay_5 rfl (lv_at hl 2 rfl) ?_
  refine lv_iload_n hx hb dL_lay_6 rfl (lv_at hl 3 rfl) ?_
  refine lv_iload hx hb dL_lay_7 (lv_at hl 4 rfl) ?_
  obtain ⟨e1, r1, m1, hq, hf0, hf1⟩ := gw2_o hf
  refine gb_Ti (gq_VX (As := [.int u1, .int u2, .int u3, .int u4]) (ci := 8) (rm := { frames := 8, cells := 4, slots := 24, locals := 161 }) E hml hl.1 (c_X8_lay l X hl0 0 u1 u2 u3 u4 m0 rfl hq) wt_X8_lay wl_RL_44 rfl rfl (by decide) rfl rfl hM hS rfl rfl (Nat.le_trans (by decide) hRf) (Nat.le_trans (by decide) hRl) (Nat.le_trans (Nat.le_of_ble_eq_true rfl) hRc) (Nat.le_trans (Nat.le_of_ble_eq_true rfl) hRs) (Nat.le_of_ble_eq_true rfl) dL_lay_9 rfl) hO hS (fun h0 => ?_) (fun h0 H locs hM hO hS => ?_)
  · have hf := hf1 h0
    intro H locs ce q9 hM hO hS hce hcv hcl
    by_cases h1 : e1 = 1
    · subst h1
      have hf := g_t rfl hf
      refine gl_catch E [] (⟨0, 14, 17, 13⟩ : ExceptionTableEntry) [(⟨0, 14, 21, 15⟩ : ExceptionTableEntry), (⟨0, 14, 25, 24⟩ : ExceptionTableEntry)] ht (fun a ha => by cases ha) (by decide) (by decide) wcl_1 wca_1 hce hcv hcl ?_
      refine lv_astore (lv' := [(6, .ref q9), (0, .ref (X.1 + 0)), (1, .int u1), (2, .int u2), (3, .int u3), (4, .int u4), (5, .ref (X.1 + 440))]) hx hb dL_lay_17 hl (by decide) rfl (fun ls hl => ?_)
      refine lv_iconst (v := (1 : Int32)) hx hb dL_lay_19 (by decide) ?_
      exact gq_ret E hr hlocks hf hM hO hS (Nat.le_of_ble_eq_true rfl) (Nat.le_of_ble_eq_true rfl) dL_lay_20
    have hf := g_f h1 hf
    by_cases h1 : e1 = 2
    · subst h1
      have hf := g_t rfl hf
      refine gl_catch E [((⟨0, 14, 17, 13⟩ : ExceptionTableEntry), gEx 1, 0)] (⟨0, 14, 21, 15⟩ : ExceptionTableEntry) [(⟨0, 14, 25, 24⟩ : ExceptionTableEntry)] ht (fun a ha => by rcases List.mem_singleton.mp ha with rfl; exact ⟨by decide, wcl_1, gnc_2_1⟩) (by decide) (by decide) wcl_2 wca_2 hce hcv hcl ?_
      refine lv_astore (lv' := [(6, .ref q9), (0, .ref (X.1 + 0)), (1, .int u1), (2, .int u2), (3, .int u3), (4, .int u4), (5, .ref (X.1 + 440))]) hx hb dL_lay_21 hl (by decide) rfl (fun ls hl => ?_)
      refine lv_iconst (v := (2 : Int32)) hx hb dL_lay_23 (by decide) ?_
      exact gq_ret E hr hlocks hf hM hO hS (Nat.le_of_ble_eq_true rfl) (Nat.le_of_ble_eq_true rfl) dL_lay_24
    have hf := g_f h1 hf
    by_cases h1 : e1 = 3
    · subst h1
      have hf := g_t rfl hf
      refine gl_catch E [((⟨0, 14, 17, 13⟩ : ExceptionTableEntry), gEx 1, 0), ((⟨0, 14, 21, 15⟩ : ExceptionTableEntry), gEx 2, 0)] (⟨0, 14, 25, 24⟩ : ExceptionTableEntry) [] ht (fun a ha => by simp only [List.mem_cons, List.not_mem_nil, or_false] at ha; rcases ha with rfl | rfl <;> first | exact ⟨by decide, wcl_1, gnc_3_1⟩ | exact ⟨by decide, wcl_2, gnc_3_2⟩) (by decide) (by decide) wcl_3 wca_3 hce hcv hcl ?_
      refine lv_astore (lv' := [(6, .ref q9), (0, .ref (X.1 + 0)), (1, .int u1), (2, .int u2), (3, .int u3), (4, .int u4), (5, .ref (X.1 + 440))]) hx hb dL_lay_25 hl (by decide) rfl (fun ls hl => ?_)
      refine lv_iconst (v := (3 : Int32)) hx hb dL_lay_27 (by decide) ?_
      exact gq_ret E hr hlocks hf hM hO hS (Nat.le_of_ble_eq_true rfl) (Nat.le_of_ble_eq_true rfl) dL_lay_28
    have hf := g_f h1 hf
    cases hf
  have hf := hf0 h0
  refine lv_i2l (v := r1.toInt64) hx hb dL_lay_12 rfl ?_
  refine gl_lst E hM hO hS dL_lay_13 (fun H locs hM hO hS => ?_)
  refine lv_goto (tgt := 29) hx hb dL_lay_14 (by decide) ?_
  refine lv_iconst (v := (0 : Int32)) hx hb dL_lay_29 (by decide) ?_
  exact gq_ret E hr hlocks hf hM hO hS (Nat.le_of_ble_eq_true rfl) (Nat.le_of_ble_eq_true rfl) dL_lay_30
theorem cw_lay (l : Launch) (X : gX) (hl0 : l.stackTraces = false) (u1 : Int32) (u2 : Int32) (u3 : Int32) (u4 : Int32) (z : Nat → Int64) (w : Nat → UInt64) (m0 : gMem) {res : gLR} (hf : w_lay u1 u2 u3 u4 z w m0 = some res) : vx_Met l yL_lay (gWsW yL_lay cL_lay 7 (some .int) [(0, 14, 17, 13), (0, 14, 21, 15), (0, 14, 25, 24)]) { frames := 9, cells := 4, slots := 24, locals := 185 } (va_Pc [.ref (X.1 + 0), .int u1, .int u2, .int u3, .int u4, .ref (X.1 + 440)] (gB2 X m0 z w)) (gQW X res) gXN 4 24 (gA2 X) :=
  gMetW (by decide +kernel) rfl (Nat.le_of_ble_eq_true rfl) (fun p e s m args below meth c ls E hr hlocks hml ht hM hO hl => bw_lay E hr hlocks hml ht hl0 (Nat.le_refl _) (Nat.le_refl _) (Nat.le_refl _) (Nat.le_refl _) hf hM hO va_S.rf hl)
def w_why (u1 : Int32) (u2 : Int32) (u3 : Int32) (u4 : Int32) (z : Nat → Int64) (w : Nat → UInt64) (m0 : gMem) : Option gLR := gw2 (f_X8_why 0 u1 u2 u3 u4 m0) (fun r1 m1 => some ((0 : Int32), vp_updL z 0 r1.toInt64, w, m1)) (fun e1 m1 => if e1 = 1 then some ((1 : Int32), z, w, m1) else (if e1 = 2 then some ((2 : Int32), z, w, m1) else (none)))
set_option maxRecDepth 100000 in
set_option maxHeartbeats 4000000 in
theorem bw_why {p : Program} {l : Launch} {e : Env} {R : Room} {s : State} {m : MethodId} {args : Array Value} {below : List Frame} {meth : Method} {c : Code} {H : Heap} {locs : List Loc} {ls : Array Slot} {X : gX} {z : Nat → Int64} {w : Nat → UInt64} (E : gE2 p s m args c cL_why X) (hr : meth.sig.returnType = some .int) (hlocks : meth.locks = false) (hml : c.maxLocals = 7) (ht : c.exceptionTable.toList = tableOf [(0, 14, 17, 13), (0, 14, 21, 15)]) (hl0 : l.stackTraces = false) (hRf : 9 ≤ R.frames) (hRl : 185 ≤ R.locals) (hRc : 3 ≤ R.cells) (hRs : 18 ≤ R.slots) {u1 : Int32} {u2 : Int32} {u3 : Int32} {u4 : Int32} {m0 : gMem} {res : gLR} (hf : w_why u1 u2 u3 u4 z w m0 = some res) (hM : gM X m0 H) (hO : gO X z w H) (hS : va_S (gA2 X) s.heap H locs) (hl : lv_has ls 7 [(0, .ref (X.1 + 0)), (1, .int u1), (2, .int u2), (3, .int u3), (4, .int u4), (5, .ref (X.1 + 440))]) : W p l e R s m args below meth c H locs 0 0 (vx_MQ below (gQW X res) gXN args s 3 18 (gA2 X)) (F0 m 0 ls []) := by
  obtain ⟨hx, hb⟩ := (⟨E.1.1, E.1.2.1⟩ : _ ∧ _)
  unfold w_why at hf
  refine lv_aload hx hb dL_why_0 (lv_at hl 5 rfl) ?_
  refine lv_iconst (v := (0 : Int32)) hx hb dL_why_2 (by decide) ?_
  refine lv_aload_n hx hb dL_why_3 rfl (lv_at hl 0 rfl) ?_
  refine lv_iload_n hx hb dL_why_4 rfl (lv_at hl 1 rfl) ?_
  refine lv_iload_n hx hb dL_why_5 rfl (lv_at hl 2 rfl) ?_
  refine lv_iload_n hx hb dL_why_6 rfl (lv_at hl 3 rfl) ?_
  refine lv_iload hx hb dL_why_7 (lv_at hl 4 rfl) ?_
  obtain ⟨e1, r1, m1, hq, hf0, hf1⟩ := gw2_o hf
  refine gb_Ti (gq_VX (As := [.int u1, .int u2, .int u3, .int u4]) (ci := 8) (rm := { frames := 8, cells := 3, slots := 18, locals := 161 }) E hml hl.1 (c_X8_why l X hl0 0 u1 u2 u3 u4 m0 rfl hq) wt_X8_why wl_RL_48 rfl rfl (by decide) rfl rfl hM hS rfl rfl (Nat.le_trans (by decide) hRf) (Nat.le_trans (by decide) hRl) (Nat.le_trans (Nat.le_of_ble_eq_true rfl) hRc) (Nat.le_trans (Nat.le_of_ble_eq_true rfl) hRs) (Nat.le_of_ble_eq_true rfl) dL_why_9 rfl) hO hS (fun h0 => ?_) (fun h0 H locs hM hO hS => ?_)
  · have hf := hf1 h0
    intro H locs ce q9 hM hO hS hce hcv hcl
    by_cases h1 : e1 = 1
    · subst h1
      have hf := g_t rfl hf
      refine gl_catch E [] (⟨0, 14, 17, 13⟩ : ExceptionTableEntry) [(⟨0, 14, 21, 15⟩ : ExceptionTableEntry)] ht (fun a ha => by cases ha) (by decide) (by decide) wcl_1 wca_1 hce hcv hcl ?_
      refine lv_astore (lv' := [(6, .ref q9), (0, .ref (X.1 + 0)), (1, .int u1), (2, .int u2), (3, .int u3), (4, .int u4), (5, .ref (X.1 + 440))]) hx hb dL_why_17 hl (by decide) rfl (fun ls hl => ?_)
      refine lv_iconst (v := (1 : Int32)) hx hb dL_why_19 (by decide) ?_
      exact gq_ret E hr hlocks hf hM hO hS (Nat.le_of_ble_eq_true rfl) (Nat.le_of_ble_eq_true rfl) dL_why_20
    have hf := g_f h1 hf
    by_cases h1 : e1 = 2
    · subst h1
      have hf := g_t rfl hf
      refine gl_catch E [((⟨0, 14, 17, 13⟩ : ExceptionTableEntry), gEx 1, 0)] (⟨0, 14, 21, 15⟩ : ExceptionTableEntry) [] ht (fun a ha => by rcases List.mem_singleton.mp ha with rfl; exact ⟨by decide, wcl_1, gnc_2_1⟩) (by decide) (by decide) wcl_2 wca_2 hce hcv hcl ?_
      refine lv_astore (lv' := [(6, .ref q9), (0, .ref (X.1 + 0)), (1, .int u1), (2, .int u2), (3, .int u3), (4, .int u4), (5, .ref (X.1 + 440))]) hx hb dL_why_21 hl (by decide) rfl (fun ls hl => ?_)
      refine lv_iconst (v := (2 : Int32)) hx hb dL_why_23 (by decide) ?_
      exact gq_ret E hr hlocks hf hM hO hS (Nat.le_of_ble_eq_true rfl) (Nat.le_of_ble_eq_true rfl) dL_why_24
    have hf := g_f h1 hf
    cases hf
  have hf := hf0 h0
  refine lv_i2l (v := r1.toInt64) hx hb dL_why_12 rfl ?_
  refine gl_lst E hM hO hS dL_why_13 (fun H locs hM hO hS => ?_)
  refine lv_goto (tgt := 25) hx hb dL_why_14 (by decide) ?_
  refine lv_iconst (v := (0 : Int32)) hx hb dL_why_25 (by decide) ?_
  exact gq_ret E hr hlocks hf hM hO hS (Nat.le_of_ble_eq_true rfl) (Nat.le_of_ble_eq_true rfl) dL_why_26
theorem cw_why (l : Launch) (X : gX) (hl0 : l.stackTraces = false) (u1 : Int32) (u2 : Int32) (u3 : Int32) (u4 : Int32) (z : Nat → Int64) (w : Nat → UInt64) (m0 : gMem) {res : gLR} (hf : w_why u1 u2 u3 u4 z w m0 = some res) : vx_Met l yL_why (gWsW yL_why cL_why 7 (some .int) [(0, 14, 17, 13), (0, 14, 21, 15)]) { frames := 9, cells := 3, slots := 18, locals := 185 } (va_Pc [.ref (X.1 + 0), .int u1, .int u2, .int u3, .int u4, .ref (X.1 + 440)] (gB2 X m0 z w)) (gQW X res) gXN 3 18 (gA2 X) :=
  gMetW (by decide +kernel) rfl (Nat.le_of_ble_eq_true rfl) (fun p e s m args below meth c ls E hr hlocks hml ht hM hO hl => bw_why E hr hlocks hml ht hl0 (Nat.le_refl _) (Nat.le_refl _) (Nat.le_refl _) (Nat.le_refl _) hf hM hO va_S.rf hl)
def w_take (u1 : Int32) (z : Nat → Int64) (w : Nat → UInt64) (m0 : gMem) : Option gLR := gw2 (f_X8_take 0 u1 m0) (fun r1 m1 => some ((0 : Int32), vp_updL z 0 r1.toInt64, w, m1)) (fun e1 m1 => if e1 = 1 then some ((1 : Int32), z, w, m1) else (if e1 = 3 then some ((2 : Int32), z, w, m1) else (none)))
set_option maxRecDepth 100000 in
set_option maxHeartbeats 4000000 in
theorem bw_take {p : Program} {l : Launch} {e : Env} {R : Room} {s : State} {m : MethodId} {args : Array Value} {below : List Frame} {meth : Method} {c : Code} {H : Heap} {locs : List Loc} {ls : Array Slot} {X : gX} {z : Nat → Int64} {w : Nat → UInt64} (E : gE2 p s m args c cL_take X) (hr : meth.sig.returnType = some .int) (hlocks : meth.locks = false) (hml : c.maxLocals = 4) (ht : c.exceptionTable.toList = tableOf [(0, 9, 12, 13), (0, 9, 15, 24)]) (hl0 : l.stackTraces = false) (hRf : 8 ≤ R.frames) (hRl : 152 ≤ R.locals) (hRc : 2 ≤ R.cells) (hRs : 12 ≤ R.slots) {u1 : Int32} {m0 : gMem} {res : gLR} (hf : w_take u1 z w m0 = some res) (hM : gM X m0 H) (hO : gO X z w H) (hS : va_S (gA2 X) s.heap H locs) (hl : lv_has ls 4 [(0, .ref (X.1 + 0)), (1, .int u1), (2, .ref (X.1 + 440))]) : W p l e R s m args below meth c H locs 0 0 (vx_MQ below (gQW X res) gXN args s 2 12 (gA2 X)) (F0 m 0 ls []) := by
  obtain ⟨hx, hb⟩ := (⟨E.1.1, E.1.2.1⟩ : _ ∧ _)
  unfold w_take at hf
  refine lv_aload_n hx hb dL_take_0 rfl (lv_at hl 2 rfl) ?_
  refine lv_iconst (v := (0 : Int32)) hx hb dL_take_1 (by decide) ?_
  refine lv_aload_n hx hb dL_take_2 rfl (lv_at hl 0 rfl) ?_
  refine lv_iload_n hx hb dL_take_3 rfl (lv_at hl 1 rfl) ?_
  obtain ⟨e1, r1, m1, hq, hf0, hf1⟩ := gw2_o hf
  refine gb_Ti (gq_VX (As := [.int u1]) (ci := 8) (rm := { frames := 7, cells := 2, slots := 12, locals := 130 }) E hml hl.1 (c_X8_take l X hl0 0 u1 m0 rfl hq) wt_X8_take wl_RL_51 rfl rfl (by decide) rfl rfl hM hS rfl rfl (Nat.le_trans (by decide) hRf) (Nat.le_trans (by decide) hRl) (Nat.le_trans (Nat.le_of_ble_eq_true rfl) hRc) (Nat.le_trans (Nat.le_of_ble_eq_true rfl) hRs) (Nat.le_of_ble_eq_true rfl) dL_take_4 rfl) hO hS (fun h0 => ?_) (fun h0 H locs hM hO hS => ?_)
  · have hf := hf1 h0
    intro H locs ce q9 hM hO hS hce hcv hcl
    by_cases h1 : e1 = 1
    · subst h1
      have hf := g_t rfl hf
      refine gl_catch E [] (⟨0, 9, 12, 13⟩ : ExceptionTableEntry) [(⟨0, 9, 15, 24⟩ : ExceptionTableEntry)] ht (fun a ha => by cases ha) (by decide) (by decide) wcl_1 wca_1 hce hcv hcl ?_
      refine lv_astore_n (lv' := [(3, .ref q9), (0, .ref (X.1 + 0)), (1, .int u1), (2, .ref (X.1 + 440))]) hx hb dL_take_12 rfl hl (by decide) rfl (fun ls hl => ?_)
      refine lv_iconst (v := (1 : Int32)) hx hb dL_take_13 (by decide) ?_
      exact gq_ret E hr hlocks hf hM hO hS (Nat.le_of_ble_eq_true rfl) (Nat.le_of_ble_eq_true rfl) dL_take_14
    have hf := g_f h1 hf
    by_cases h1 : e1 = 3
    · subst h1
      have hf := g_t rfl hf
      refine gl_catch E [((⟨0, 9, 12, 13⟩ : ExceptionTableEntry), gEx 1, 0)] (⟨0, 9, 15, 24⟩ : ExceptionTableEntry) [] ht (fun a ha => by rcases List.mem_singleton.mp ha with rfl; exact ⟨by decide, wcl_1, gnc_3_1⟩) (by decide) (by decide) wcl_3 wca_3 hce hcv hcl ?_
      refine lv_astore_n (lv' := [(3, .ref q9), (0, .ref (X.1 + 0)), (1, .int u1), (2, .ref (X.1 + 440))]) hx hb dL_take_15 rfl hl (by decide) rfl (fun ls hl => ?_)
      refine lv_iconst (v := (2 : Int32)) hx hb dL_take_16 (by decide) ?_
      exact gq_ret E hr hlocks hf hM hO hS (Nat.le_of_ble_eq_true rfl) (Nat.le_of_ble_eq_true rfl) dL_take_17
    have hf := g_f h1 hf
    cases hf
  have hf := hf0 h0
  refine lv_i2l (v := r1.toInt64) hx hb dL_take_7 rfl ?_
  refine gl_lst E hM hO hS dL_take_8 (fun H locs hM hO hS => ?_)
  refine lv_goto (tgt := 18) hx hb dL_take_9 (by decide) ?_
  refine lv_iconst (v := (0 : Int32)) hx hb dL_take_18 (by decide) ?_
  exact gq_ret E hr hlocks hf hM hO hS (Nat.le_of_ble_eq_true rfl) (Nat.le_of_ble_eq_true rfl) dL_take_19
theorem cw_take (l : Launch) (X : gX) (hl0 : l.stackTraces = false) (u1 : Int32) (z : Nat → Int64) (w : Nat → UInt64) (m0 : gMem) {res : gLR} (hf : w_take u1 z w m0 = some res) : vx_Met l yL_take (gWsW yL_take cL_take 4 (some .int) [(0, 9, 12, 13), (0, 9, 15, 24)]) { frames := 8, cells := 2, slots := 12, locals := 152 } (va_Pc [.ref (X.1 + 0), .int u1, .ref (X.1 + 440)] (gB2 X m0 z w)) (gQW X res) gXN 2 12 (gA2 X) :=
  gMetW (by decide +kernel) rfl (Nat.le_of_ble_eq_true rfl) (fun p e s m args below meth c ls E hr hlocks hml ht hM hO hl => bw_take E hr hlocks hml ht hl0 (Nat.le_refl _) (Nat.le_refl _) (Nat.le_refl _) (Nat.le_refl _) hf hM hO va_S.rf hl)
def w_courseOf (u1 : Int32) (u2 : Int32) (u3 : Int32) (z : Nat → Int64) (w : Nat → UInt64) (m0 : gMem) : Option gLR := gw2 (f_X8_courseOf 0 u1 u2 u3 m0) (fun r1 m1 => some ((0 : Int32), vp_updL z 0 r1.toInt64, w, m1)) (fun e1 m1 => if e1 = 1 then some ((1 : Int32), z, w, m1) else (if e1 = 2 then some ((2 : Int32), z, w, m1) else (none)))
set_option maxRecDepth 100000 in
set_option maxHeartbeats 4000000 in
theorem bw_courseOf {p : Program} {l : Launch} {e : Env} {R : Room} {s : State} {m : MethodId} {args : Array Value} {below : List Frame} {meth : Method} {c : Code} {H : Heap} {locs : List Loc} {ls : Array Slot} {X : gX} {z : Nat → Int64} {w : Nat → UInt64} (E : gE2 p s m args c cL_courseOf X) (hr : meth.sig.returnType = some .int) (hlocks : meth.locks = false) (hml : c.maxLocals = 6) (ht : c.exceptionTable.toList = tableOf [(0, 12, 15, 13), (0, 12, 19, 15)]) (hl0 : l.stackTraces = false) (hRf : 9 ≤ R.frames) (hRl : 169 ≤ R.locals) (hRc : 3 ≤ R.cells) (hRs : 18 ≤ R.slots) {u1 : Int32} {u2 : Int32} {u3 : Int32} {m0 : gMem} {res : gLR} (hf : w_courseOf u1 u2 u3 z w m0 = some res) (hM : gM X m0 H) (hO : gO X z w H) (hS : va_S (gA2 X) s.heap H locs) (hl : lv_has ls 6 [(0, .ref (X.1 + 0)), (1, .int u1), (2, .int u2), (3, .int u3), (4, .ref (X.1 + 440))]) : W p l e R s m args below meth c H locs 0 0 (vx_MQ below (gQW X res) gXN args s 3 18 (gA2 X)) (F0 m 0 ls []) := by
  obtain ⟨hx, hb⟩ := (⟨E.1.1, E.1.2.1⟩ : _ ∧ _)
  unfold w_courseOf at hf
  refine lv_aload hx hb dL_courseOf_0 (lv_at hl 4 rfl) ?_
  refine lv_iconst (v := (0 : Int32)) hx hb dL_courseOf_2 (by decide) ?_
  refine lv_aload_n hx hb dL_courseOf_3 rfl (lv_at hl 0 rfl) ?_
  refine lv_iload_n hx hb dL_courseOf_4 rfl (lv_at hl 1 rfl) ?_
  refine lv_iload_n hx hb dL_courseOf_5 rfl (lv_at hl 2 rfl) ?_
  refine lv_iload_n hx hb dL_courseOf_6 rfl (lv_at hl 3 rfl) ?_
  obtain ⟨e1, r1, m1, hq, hf0, hf1⟩ := gw2_o hf
  refine gb_Ti (gq_VX (As := [.int u1, .int u2, .int u3]) (ci := 8) (rm := { frames := 8, cells := 3, slots := 18, locals := 145 }) E hml hl.1 (c_X8_courseOf l X hl0 0 u1 u2 u3 m0 rfl hq) wt_X8_courseOf wl_RL_54 rfl rfl (by decide) rfl rfl hM hS rfl rfl (Nat.le_trans (by decide) hRf) (Nat.le_trans (by decide) hRl) (Nat.le_trans (Nat.le_of_ble_eq_true rfl) hRc) (Nat.le_trans (Nat.le_of_ble_eq_true rfl) hRs) (Nat.le_of_ble_eq_true rfl) dL_courseOf_7 rfl) hO hS (fun h0 => ?_) (fun h0 H locs hM hO hS => ?_)
  · have hf := hf1 h0
    intro H locs ce q9 hM hO hS hce hcv hcl
    by_cases h1 : e1 = 1
    · subst h1
      have hf := g_t rfl hf
      refine gl_catch E [] (⟨0, 12, 15, 13⟩ : ExceptionTableEntry) [(⟨0, 12, 19, 15⟩ : ExceptionTableEntry)] ht (fun a ha => by cases ha) (by decide) (by decide) wcl_1 wca_1 hce hcv hcl ?_
      refine lv_astore (lv' := [(5, .ref q9), (0, .ref (X.1 + 0)), (1, .int u1), (2, .int u2), (3, .int u3), (4, .ref (X.1 + 440))]) hx hb dL_courseOf_15 hl (by decide) rfl (fun ls hl => ?_)
      refine lv_iconst (v := (1 : Int32)) hx hb dL_courseOf_17 (by decide) ?_
      exact gq_ret E hr hlocks hf hM hO hS (Nat.le_of_ble_eq_true rfl) (Nat.le_of_ble_eq_true rfl) dL_courseOf_18
    have hf := g_f h1 hf
    by_cases h1 : e1 = 2
    · subst h1
      have hf := g_t rfl hf
      refine gl_catch E [((⟨0, 12, 15, 13⟩ : ExceptionTableEntry), gEx 1, 0)] (⟨0, 12, 19, 15⟩ : ExceptionTableEntry) [] ht (fun a ha => by rcases List.mem_singleton.mp ha with rfl; exact ⟨by decide, wcl_1, gnc_2_1⟩) (by decide) (by decide) wcl_2 wca_2 hce hcv hcl ?_
      refine lv_astore (lv' := [(5, .ref q9), (0, .ref (X.1 + 0)), (1, .int u1), (2, .int u2), (3, .int u3), (4, .ref (X.1 + 440))]) hx hb dL_courseOf_19 hl (by decide) rfl (fun ls hl => ?_)
      refine lv_iconst (v := (2 : Int32)) hx hb dL_courseOf_21 (by decide) ?_
      exact gq_ret E hr hlocks hf hM hO hS (Nat.le_of_ble_eq_true rfl) (Nat.le_of_ble_eq_true rfl) dL_courseOf_22
    have hf := g_f h1 hf
    cases hf
  have hf := hf0 h0
  refine lv_i2l (v := r1.toInt64) hx hb dL_courseOf_10 rfl ?_
  refine gl_lst E hM hO hS dL_courseOf_11 (fun H locs hM hO hS => ?_)
  refine lv_goto (tgt := 23) hx hb dL_courseOf_12 (by decide) ?_
  refine lv_iconst (v := (0 : Int32)) hx hb dL_courseOf_23 (by decide) ?_
  exact gq_ret E hr hlocks hf hM hO hS (Nat.le_of_ble_eq_true rfl) (Nat.le_of_ble_eq_true rfl) dL_courseOf_24
theorem cw_courseOf (l : Launch) (X : gX) (hl0 : l.stackTraces = false) (u1 : Int32) (u2 : Int32) (u3 : Int32) (z : Nat → Int64) (w : Nat → UInt64) (m0 : gMem) {res : gLR} (hf : w_courseOf u1 u2 u3 z w m0 = some res) : vx_Met l yL_courseOf (gWsW yL_courseOf cL_courseOf 6 (some .int) [(0, 12, 15, 13), (0, 12, 19, 15)]) { frames := 9, cells := 3, slots := 18, locals := 169 } (va_Pc [.ref (X.1 + 0), .int u1, .int u2, .int u3, .ref (X.1 + 440)] (gB2 X m0 z w)) (gQW X res) gXN 3 18 (gA2 X) :=
  gMetW (by decide +kernel) rfl (Nat.le_of_ble_eq_true rfl) (fun p e s m args below meth c ls E hr hlocks hml ht hM hO hl => bw_courseOf E hr hlocks hml ht hl0 (Nat.le_refl _) (Nat.le_refl _) (Nat.le_refl _) (Nat.le_refl _) hf hM hO va_S.rf hl)
def w_bearsAgain (u1 : Int32) (u2 : Int32) (z : Nat → Int64) (w : Nat → UInt64) (m0 : gMem) : Option gLR := gw2 (f_X8_bearsAgain 0 u1 u2 m0) (fun r1 m1 => some ((0 : Int32), vp_updL z 0 r1.toInt64, w, m1)) (fun e1 m1 => if e1 = 1 then some ((1 : Int32), z, w, m1) else (none))
set_option maxRecDepth 100000 in
set_option maxHeartbeats 4000000 in
theorem bw_bearsAgain {p : Program} {l : Launch} {e : Env} {R : Room} {s : State} {m : MethodId} {args : Array Value} {below : List Frame} {meth : Method} {c : Code} {H : Heap} {locs : List Loc} {ls : Array Slot} {X : gX} {z : Nat → Int64} {w : Nat → UInt64} (E : gE2 p s m args c cL_bearsAgain X) (hr : meth.sig.returnType = some .int) (hlocks : meth.locks = false) (hml : c.maxLocals = 5) (ht : c.exceptionTable.toList = tableOf [(0, 10, 13, 13)]) (hl0 : l.stackTraces = false) (hRf : 9 ≤ R.frames) (hRl : 170 ≤ R.locals) (hRc : 2 ≤ R.cells) (hRs : 12 ≤ R.slots) {u1 : Int32} {u2 : Int32} {m0 : gMem} {res : gLR} (hf : w_bearsAgain u1 u2 z w m0 = some res) (hM : gM X m0 H) (hO : gO X z w H) (hS : va_S (gA2 X) s.heap H locs) (hl : lv_has ls 5 [(0, .ref (X.1 + 0)), (1, .int u1), (2, .int u2), (3, .ref (X.1 + 440))]) : W p l e R s m args below meth c H locs 0 0 (vx_MQ below (gQW X res) gXN args s 2 12 (gA2 X)) (F0 m 0 ls []) := by
  obtain ⟨hx, hb⟩ := (⟨E.1.1, E.1.2.1⟩ : _ ∧ _)
  unfold w_bearsAgain at hf
  refine lv_aload_n hx hb dL_bearsAgain_0 rfl (lv_at hl 3 rfl) ?_
  refine lv_iconst (v := (0 : Int32)) hx hb dL_bearsAgain_1 (by decide) ?_
  refine lv_aload_n hx hb dL_bearsAgain_2 rfl (lv_at hl 0 rfl) ?_
  refine lv_iload_n hx hb dL_bearsAgain_3 rfl (lv_at hl 1 rfl) ?_
  refine lv_iload_n hx hb dL_bearsAgain_4 rfl (lv_at hl 2 rfl) ?_
  obtain ⟨e1, r1, m1, hq, hf0, hf1⟩ := gw2_o hf
  refine gb_Ti (gq_VX (As := [.int u1, .int u2]) (ci := 8) (rm := { frames := 8, cells := 2, slots := 12, locals := 145 }) E hml hl.1 (c_X8_bearsAgain l X hl0 0 u1 u2 m0 rfl hq) wt_X8_bearsAgain wl_RL_58 rfl rfl (by decide) rfl rfl hM hS rfl rfl (Nat.le_trans (by decide) hRf) (Nat.le_trans (by decide) hRl) (Nat.le_trans (Nat.le_of_ble_eq_true rfl) hRc) (Nat.le_trans (Nat.le_of_ble_eq_true rfl) hRs) (Nat.le_of_ble_eq_true rfl) dL_bearsAgain_5 rfl) hO hS (fun h0 => ?_) (fun h0 H locs hM hO hS => ?_)
  · have hf := hf1 h0
    intro H locs ce q9 hM hO hS hce hcv hcl
    by_cases h1 : e1 = 1
    · subst h1
      have hf := g_t rfl hf
      refine gl_catch E [] (⟨0, 10, 13, 13⟩ : ExceptionTableEntry) [] ht (fun a ha => by cases ha) (by decide) (by decide) wcl_1 wca_1 hce hcv hcl ?_
      refine lv_astore (lv' := [(4, .ref q9), (0, .ref (X.1 + 0)), (1, .int u1), (2, .int u2), (3, .ref (X.1 + 440))]) hx hb dL_bearsAgain_13 hl (by decide) rfl (fun ls hl => ?_)
      refine lv_iconst (v := (1 : Int32)) hx hb dL_bearsAgain_15 (by decide) ?_
      exact gq_ret E hr hlocks hf hM hO hS (Nat.le_of_ble_eq_true rfl) (Nat.le_of_ble_eq_true rfl) dL_bearsAgain_16
    have hf := g_f h1 hf
    cases hf
  have hf := hf0 h0
  refine lv_i2l (v := r1.toInt64) hx hb dL_bearsAgain_8 rfl ?_
  refine gl_lst E hM hO hS dL_bearsAgain_9 (fun H locs hM hO hS => ?_)
  refine lv_goto (tgt := 17) hx hb dL_bearsAgain_10 (by decide) ?_
  refine lv_iconst (v := (0 : Int32)) hx hb dL_bearsAgain_17 (by decide) ?_
  exact gq_ret E hr hlocks hf hM hO hS (Nat.le_of_ble_eq_true rfl) (Nat.le_of_ble_eq_true rfl) dL_bearsAgain_18
theorem cw_bearsAgain (l : Launch) (X : gX) (hl0 : l.stackTraces = false) (u1 : Int32) (u2 : Int32) (z : Nat → Int64) (w : Nat → UInt64) (m0 : gMem) {res : gLR} (hf : w_bearsAgain u1 u2 z w m0 = some res) : vx_Met l yL_bearsAgain (gWsW yL_bearsAgain cL_bearsAgain 5 (some .int) [(0, 10, 13, 13)]) { frames := 9, cells := 2, slots := 12, locals := 170 } (va_Pc [.ref (X.1 + 0), .int u1, .int u2, .ref (X.1 + 440)] (gB2 X m0 z w)) (gQW X res) gXN 2 12 (gA2 X) :=
  gMetW (by decide +kernel) rfl (Nat.le_of_ble_eq_true rfl) (fun p e s m args below meth c ls E hr hlocks hml ht hM hO hl => bw_bearsAgain E hr hlocks hml ht hl0 (Nat.le_refl _) (Nat.le_refl _) (Nat.le_refl _) (Nat.le_refl _) hf hM hO va_S.rf hl)
def w_towerOf (u1 : Int32) (u2 : Int32) (z : Nat → Int64) (w : Nat → UInt64) (m0 : gMem) : Option gLR := gw2 (f_X8_towerOf 0 u1 u2 m0) (fun r1 m1 => some ((0 : Int32), vp_updL z 0 r1.toInt64, w, m1)) (fun e1 m1 => if e1 = 1 then some ((1 : Int32), z, w, m1) else (if e1 = 2 then some ((2 : Int32), z, w, m1) else (none)))
set_option maxRecDepth 100000 in
set_option maxHeartbeats 4000000 in
theorem bw_towerOf {p : Program} {l : Launch} {e : Env} {R : Room} {s : State} {m : MethodId} {args : Array Value} {below : List Frame} {meth : Method} {c : Code} {H : Heap} {locs : List Loc} {ls : Array Slot} {X : gX} {z : Nat → Int64} {w : Nat → UInt64} (E : gE2 p s m args c cL_towerOf X) (hr : meth.sig.returnType = some .int) (hlocks : meth.locks = false) (hml : c.maxLocals = 5) (ht : c.exceptionTable.toList = tableOf [(0, 10, 13, 13), (0, 10, 17, 15)]) (hl0 : l.stackTraces = false) (hRf : 8 ≤ R.frames) (hRl : 145 ≤ R.locals) (hRc : 2 ≤ R.cells) (hRs : 12 ≤ R.slots) {u1 : Int32} {u2 : Int32} {m0 : gMem} {res : gLR} (hf : w_towerOf u1 u2 z w m0 = some res) (hM : gM X m0 H) (hO : gO X z w H) (hS : va_S (gA2 X) s.heap H locs) (hl : lv_has ls 5 [(0, .ref (X.1 + 0)), (1, .int u1), (2, .int u2), (3, .ref (X.1 + 440))]) : W p l e R s m args below meth c H locs 0 0 (vx_MQ below (gQW X res) gXN args s 2 12 (gA2 X)) (F0 m 0 ls []) := by
  obtain ⟨hx, hb⟩ := (⟨E.1.1, E.1.2.1⟩ : _ ∧ _)
  unfold w_towerOf at hf
  refine lv_aload_n hx hb dL_towerOf_0 rfl (lv_at hl 3 rfl) ?_
  refine lv_iconst (v := (0 : Int32)) hx hb dL_towerOf_1 (by decide) ?_
  refine lv_aload_n hx hb dL_towerOf_2 rfl (lv_at hl 0 rfl) ?_
  refine lv_iload_n hx hb dL_towerOf_3 rfl (lv_at hl 1 rfl) ?_
  refine lv_iload_n hx hb dL_towerOf_4 rfl (lv_at hl 2 rfl) ?_
  obtain ⟨e1, r1, m1, hq, hf0, hf1⟩ := gw2_o hf
  refine gb_Ti (gq_VX (As := [.int u1, .int u2]) (ci := 8) (rm := { frames := 7, cells := 2, slots := 12, locals := 122 }) E hml hl.1 (c_X8_towerOf l X hl0 0 u1 u2 m0 rfl hq) wt_X8_towerOf wl_RL_61 rfl rfl (by decide) rfl rfl hM hS rfl rfl (Nat.le_trans (by decide) hRf) (Nat.le_trans (by decide) hRl) (Nat.le_trans (Nat.le_of_ble_eq_true rfl) hRc) (Nat.le_trans (Nat.le_of_ble_eq_true rfl) hRs) (Nat.le_of_ble_eq_true rfl) dL_towerOf_5 rfl) hO hS (fun h0 => ?_) (fun h0 H locs hM hO hS => ?_)
  · have hf := hf1 h0
    intro H locs ce q9 hM hO hS hce hcv hcl
    by_cases h1 : e1 = 1
    · subst h1
      have hf := g_t rfl hf
      refine gl_catch E [] (⟨0, 10, 13, 13⟩ : ExceptionTableEntry) [(⟨0, 10, 17, 15⟩ : ExceptionTableEntry)] ht (fun a ha => by cases ha) (by decide) (by decide) wcl_1 wca_1 hce hcv hcl ?_
      refine lv_astore (lv' := [(4, .ref q9), (0, .ref (X.1 + 0)), (1, .int u1), (2, .int u2), (3, .ref (X.1 + 440))]) hx hb dL_towerOf_13 hl (by decide) rfl (fun ls hl => ?_)
      refine lv_iconst (v := (1 : Int32)) hx hb dL_towerOf_15 (by decide) ?_
      exact gq_ret E hr hlocks hf hM hO hS (Nat.le_of_ble_eq_true rfl) (Nat.le_of_ble_eq_true rfl) dL_towerOf_16
    have hf := g_f h1 hf
    by_cases h1 : e1 = 2
    · subst h1
      have hf := g_t rfl hf
      refine gl_catch E [((⟨0, 10, 13, 13⟩ : ExceptionTableEntry), gEx 1, 0)] (⟨0, 10, 17, 15⟩ : ExceptionTableEntry) [] ht (fun a ha => by rcases List.mem_singleton.mp ha with rfl; exact ⟨by decide, wcl_1, gnc_2_1⟩) (by decide) (by decide) wcl_2 wca_2 hce hcv hcl ?_
      refine lv_astore (lv' := [(4, .ref q9), (0, .ref (X.1 + 0)), (1, .int u1), (2, .int u2), (3, .ref (X.1 + 440))]) hx hb dL_towerOf_17 hl (by decide) rfl (fun ls hl => ?_)
      refine lv_iconst (v := (2 : Int32)) hx hb dL_towerOf_19 (by decide) ?_
      exact gq_ret E hr hlocks hf hM hO hS (Nat.le_of_ble_eq_true rfl) (Nat.le_of_ble_eq_true rfl) dL_towerOf_20
    have hf := g_f h1 hf
    cases hf
  have hf := hf0 h0
  refine lv_i2l (v := r1.toInt64) hx hb dL_towerOf_8 rfl ?_
  refine gl_lst E hM hO hS dL_towerOf_9 (fun H locs hM hO hS => ?_)
  refine lv_goto (tgt := 21) hx hb dL_towerOf_10 (by decide) ?_
  refine lv_iconst (v := (0 : Int32)) hx hb dL_towerOf_21 (by decide) ?_
  exact gq_ret E hr hlocks hf hM hO hS (Nat.le_of_ble_eq_true rfl) (Nat.le_of_ble_eq_true rfl) dL_towerOf_22
theorem cw_towerOf (l : Launch) (X : gX) (hl0 : l.stackTraces = false) (u1 : Int32) (u2 : Int32) (z : Nat → Int64) (w : Nat → UInt64) (m0 : gMem) {res : gLR} (hf : w_towerOf u1 u2 z w m0 = some res) : vx_Met l yL_towerOf (gWsW yL_towerOf cL_towerOf 5 (some .int) [(0, 10, 13, 13), (0, 10, 17, 15)]) { frames := 8, cells := 2, slots := 12, locals := 145 } (va_Pc [.ref (X.1 + 0), .int u1, .int u2, .ref (X.1 + 440)] (gB2 X m0 z w)) (gQW X res) gXN 2 12 (gA2 X) :=
  gMetW (by decide +kernel) rfl (Nat.le_of_ble_eq_true rfl) (fun p e s m args below meth c ls E hr hlocks hml ht hM hO hl => bw_towerOf E hr hlocks hml ht hl0 (Nat.le_refl _) (Nat.le_refl _) (Nat.le_refl _) (Nat.le_refl _) hf hM hO va_S.rf hl)
def w_spare (u1 : Int32) (z : Nat → Int64) (w : Nat → UInt64) (m0 : gMem) : Option gLR := gw2 (f_X8_spare 0 u1 m0) (fun r1 m1 => some ((0 : Int32), vp_updL z 0 r1.toInt64, w, m1)) (fun e1 m1 => if e1 = 1 then some ((1 : Int32), z, w, m1) else (none))
set_option maxRecDepth 100000 in
set_option maxHeartbeats 4000000 in
theorem bw_spare {p : Program} {l : Launch} {e : Env} {R : Room} {s : State} {m : MethodId} {args : Array Value} {below : List Frame} {meth : Method} {c : Code} {H : Heap} {locs : List Loc} {ls : Array Slot} {X : gX} {z : Nat → Int64} {w : Nat → UInt64} (E : gE2 p s m args c cL_spare X) (hr : meth.sig.returnType = some .int) (hlocks : meth.locks = false) (hml : c.maxLocals = 4) (ht : c.exceptionTable.toList = tableOf [(0, 9, 12, 13)]) (hl0 : l.stackTraces = false) (hRf : 8 ≤ R.frames) (hRl : 143 ≤ R.locals) (hRc : 1 ≤ R.cells) (hRs : 6 ≤ R.slots) {u1 : Int32} {m0 : gMem} {res : gLR} (hf : w_spare u1 z w m0 = some res) (hM : gM X m0 H) (hO : gO X z w H) (hS : va_S (gA2 X) s.heap H locs) (hl : lv_has ls 4 [(0, .ref (X.1 + 0)), (1, .int u1), (2, .ref (X.1 + 440))]) : W p l e R s m args below meth c H locs 0 0 (vx_MQ below (gQW X res) gXN args s 1 6 (gA2 X)) (F0 m 0 ls []) := by
  obtain ⟨hx, hb⟩ := (⟨E.1.1, E.1.2.1⟩ : _ ∧ _)
  unfold w_spare at hf
  refine lv_aload_n hx hb dL_spare_0 rfl (lv_at hl 2 rfl) ?_
  refine lv_iconst (v := (0 : Int32)) hx hb dL_spare_1 (by decide) ?_
  refine lv_aload_n hx hb dL_spare_2 rfl (lv_at hl 0 rfl) ?_
  refine lv_iload_n hx hb dL_spare_3 rfl (lv_at hl 1 rfl) ?_
  obtain ⟨e1, r1, m1, hq, hf0, hf1⟩ := gw2_o hf
  refine gb_Ti (gq_VX (As := [.int u1]) (ci := 8) (rm := { frames := 7, cells := 1, slots := 6, locals := 122 }) E hml hl.1 (c_X8_spare l X hl0 0 u1 m0 rfl hq) wt_X8_spare wl_RL_64 rfl rfl (by decide) rfl rfl hM hS rfl rfl (Nat.le_trans (by decide) hRf) (Nat.le_trans (by decide) hRl) (Nat.le_trans (Nat.le_of_ble_eq_true rfl) hRc) (Nat.le_trans (Nat.le_of_ble_eq_true rfl) hRs) (Nat.le_of_ble_eq_true rfl) dL_spare_4 rfl) hO hS (fun h0 => ?_) (fun h0 H locs hM hO hS => ?_)
  · have hf := hf1 h0
    intro H locs ce q9 hM hO hS hce hcv hcl
    by_cases h1 : e1 = 1
    · subst h1
      have hf := g_t rfl hf
      refine gl_catch E [] (⟨0, 9, 12, 13⟩ : ExceptionTableEntry) [] ht (fun a ha => by cases ha) (by decide) (by decide) wcl_1 wca_1 hce hcv hcl ?_
      refine lv_astore_n (lv' := [(3, .ref q9), (0, .ref (X.1 + 0)), (1, .int u1), (2, .ref (X.1 + 440))]) hx hb dL_spare_12 rfl hl (by decide) rfl (fun ls hl => ?_)
      refine lv_iconst (v := (1 : Int32)) hx hb dL_spare_13 (by decide) ?_
      exact gq_ret E hr hlocks hf hM hO hS (Nat.le_of_ble_eq_true rfl) (Nat.le_of_ble_eq_true rfl) dL_spare_14
    have hf := g_f h1 hf
    cases hf
  have hf := hf0 h0
  refine lv_i2l (v := r1.toInt64) hx hb dL_spare_7 rfl ?_
  refine gl_lst E hM hO hS dL_spare_8 (fun H locs hM hO hS => ?_)
  refine lv_goto (tgt := 15) hx hb dL_spare_9 (by decide) ?_
  refine lv_iconst (v := (0 : Int32)) hx hb dL_spare_15 (by decide) ?_
  exact gq_ret E hr hlocks hf hM hO hS (Nat.le_of_ble_eq_true rfl) (Nat.le_of_ble_eq_true rfl) dL_spare_16
theorem cw_spare (l : Launch) (X : gX) (hl0 : l.stackTraces = false) (u1 : Int32) (z : Nat → Int64) (w : Nat → UInt64) (m0 : gMem) {res : gLR} (hf : w_spare u1 z w m0 = some res) : vx_Met l yL_spare (gWsW yL_spare cL_spare 4 (some .int) [(0, 9, 12, 13)]) { frames := 8, cells := 1, slots := 6, locals := 143 } (va_Pc [.ref (X.1 + 0), .int u1, .ref (X.1 + 440)] (gB2 X m0 z w)) (gQW X res) gXN 1 6 (gA2 X) :=
  gMetW (by decide +kernel) rfl (Nat.le_of_ble_eq_true rfl) (fun p e s m args below meth c ls E hr hlocks hml ht hM hO hl => bw_spare E hr hlocks hml ht hl0 (Nat.le_refl _) (Nat.le_refl _) (Nat.le_refl _) (Nat.le_refl _) hf hM hO va_S.rf hl)
def w_sign (u1 : Int32) (z : Nat → Int64) (w : Nat → UInt64) (m0 : gMem) : Option gLR := gw2 (f_X8_sign 0 u1 m0) (fun r1 m1 => some ((0 : Int32), vp_updL z 0 r1.toInt64, w, m1)) (fun e1 m1 => if e1 = 1 then some ((1 : Int32), z, w, m1) else (none))
set_option maxRecDepth 100000 in
set_option maxHeartbeats 4000000 in
theorem bw_sign {p : Program} {l : Launch} {e : Env} {R : Room} {s : State} {m : MethodId} {args : Array Value} {below : List Frame} {meth : Method} {c : Code} {H : Heap} {locs : List Loc} {ls : Array Slot} {X : gX} {z : Nat → Int64} {w : Nat → UInt64} (E : gE2 p s m args c cL_sign X) (hr : meth.sig.returnType = some .int) (hlocks : meth.locks = false) (hml : c.maxLocals = 4) (ht : c.exceptionTable.toList = tableOf [(0, 9, 12, 13)]) (hl0 : l.stackTraces = false) (hRf : 8 ≤ R.frames) (hRl : 144 ≤ R.locals) (hRc : 1 ≤ R.cells) (hRs : 6 ≤ R.slots) {u1 : Int32} {m0 : gMem} {res : gLR} (hf : w_sign u1 z w m0 = some res) (hM : gM X m0 H) (hO : gO X z w H) (hS : va_S (gA2 X) s.heap H locs) (hl : lv_has ls 4 [(0, .ref (X.1 + 0)), (1, .int u1), (2, .ref (X.1 + 440))]) : W p l e R s m args below meth c H locs 0 0 (vx_MQ below (gQW X res) gXN args s 1 6 (gA2 X)) (F0 m 0 ls []) := by
  obtain ⟨hx, hb⟩ := (⟨E.1.1, E.1.2.1⟩ : _ ∧ _)
  unfold w_sign at hf
  refine lv_aload_n hx hb dL_sign_0 rfl (lv_at hl 2 rfl) ?_
  refine lv_iconst (v := (0 : Int32)) hx hb dL_sign_1 (by decide) ?_
  refine lv_aload_n hx hb dL_sign_2 rfl (lv_at hl 0 rfl) ?_
  refine lv_iload_n hx hb dL_sign_3 rfl (lv_at hl 1 rfl) ?_
  obtain ⟨e1, r1, m1, hq, hf0, hf1⟩ := gw2_o hf
  refine gb_Ti (gq_VX (As := [.int u1]) (ci := 8) (rm := { frames := 7, cells := 1, slots := 6, locals := 122 }) E hml hl.1 (c_X8_sign l X hl0 0 u1 m0 rfl hq) wt_X8_sign wl_RL_67 rfl rfl (by decide) rfl rfl hM hS rfl rfl (Nat.le_trans (by decide) hRf) (Nat.le_trans (by decide) hRl) (Nat.le_trans (Nat.le_of_ble_eq_true rfl) hRc) (Nat.le_trans (Nat.le_of_ble_eq_true rfl) hRs) (Nat.le_of_ble_eq_true rfl) dL_sign_4 rfl) hO hS (fun h0 => ?_) (fun h0 H locs hM hO hS => ?_)
  · have hf := hf1 h0
    intro H locs ce q9 hM hO hS hce hcv hcl
    by_cases h1 : e1 = 1
    · subst h1
      have hf := g_t rfl hf
      refine gl_catch E [] (⟨0, 9, 12, 13⟩ : ExceptionTableEntry) [] ht (fun a ha => by cases ha) (by decide) (by decide) wcl_1 wca_1 hce hcv hcl ?_
      refine lv_astore_n (lv' := [(3, .ref q9), (0, .ref (X.1 + 0)), (1, .int u1), (2, .ref (X.1 + 440))]) hx hb dL_sign_12 rfl hl (by decide) rfl (fun ls hl => ?_)
      refine lv_iconst (v := (1 : Int32)) hx hb dL_sign_13 (by decide) ?_
      exact gq_ret E hr hlocks hf hM hO hS (Nat.le_of_ble_eq_true rfl) (Nat.le_of_ble_eq_true rfl) dL_sign_14
    have hf := g_f h1 hf
    cases hf
  have hf := hf0 h0
  refine lv_i2l (v := r1.toInt64) hx hb dL_sign_7 rfl ?_
  refine gl_lst E hM hO hS dL_sign_8 (fun H locs hM hO hS => ?_)
  refine lv_goto (tgt := 15) hx hb dL_sign_9 (by decide) ?_
  refine lv_iconst (v := (0 : Int32)) hx hb dL_sign_15 (by decide) ?_
  exact gq_ret E hr hlocks hf hM hO hS (Nat.le_of_ble_eq_true rfl) (Nat.le_of_ble_eq_true rfl) dL_sign_16
theorem cw_sign (l : Launch) (X : gX) (hl0 : l.stackTraces = false) (u1 : Int32) (z : Nat → Int64) (w : Nat → UInt64) (m0 : gMem) {res : gLR} (hf : w_sign u1 z w m0 = some res) : vx_Met l yL_sign (gWsW yL_sign cL_sign 4 (some .int) [(0, 9, 12, 13)]) { frames := 8, cells := 1, slots := 6, locals := 144 } (va_Pc [.ref (X.1 + 0), .int u1, .ref (X.1 + 440)] (gB2 X m0 z w)) (gQW X res) gXN 1 6 (gA2 X) :=
  gMetW (by decide +kernel) rfl (Nat.le_of_ble_eq_true rfl) (fun p e s m args below meth c ls E hr hlocks hml ht hM hO hl => bw_sign E hr hlocks hml ht hl0 (Nat.le_refl _) (Nat.le_refl _) (Nat.le_refl _) (Nat.le_refl _) hf hM hO va_S.rf hl)
def w_stands (u1 : Int32) (u2 : Int32) (z : Nat → Int64) (w : Nat → UInt64) (m0 : gMem) : Option gLR := gw2 (f_X8_stands 0 u1 u2 m0) (fun r1 m1 => if r1 = (0 : Int32) then some ((0 : Int32), vp_updL z 0 0, w, m1) else some ((0 : Int32), vp_updL z 0 1, w, m1)) (fun e1 m1 => if e1 = 1 then some ((1 : Int32), z, w, m1) else (if e1 = 2 then some ((2 : Int32), z, w, m1) else (none)))
set_option maxRecDepth 100000 in
set_option maxHeartbeats 4000000 in
theorem bw_stands {p : Program} {l : Launch} {e : Env} {R : Room} {s : State} {m : MethodId} {args : Array Value} {below : List Frame} {meth : Method} {c : Code} {H : Heap} {locs : List Loc} {ls : Array Slot} {X : gX} {z : Nat → Int64} {w : Nat → UInt64} (E : gE2 p s m args c cL_stands X) (hr : meth.sig.returnType = some .int) (hlocks : meth.locks = false) (hml : c.maxLocals = 5) (ht : c.exceptionTable.toList = tableOf [(0, 17, 20, 13), (0, 17, 24, 15)]) (hl0 : l.stackTraces = false) (hRf : 8 ≤ R.frames) (hRl : 145 ≤ R.locals) (hRc : 2 ≤ R.cells) (hRs : 12 ≤ R.slots) {u1 : Int32} {u2 : Int32} {m0 : gMem} {res : gLR} (hf : w_stands u1 u2 z w m0 = some res) (hM : gM X m0 H) (hO : gO X z w H) (hS : va_S (gA2 X) s.heap H locs) (hl : lv_has ls 5 [(0, .ref (X.1 + 0)), (1, .int u1), (2, .int u2), (3, .ref (X.1 + 440))]) : W p l e R s m args below meth c H locs 0 0 (vx_MQ below (gQW X res) gXN args s 2 12 (gA2 X)) (F0 m 0 ls []) := by
  obtain ⟨hx, hb⟩ := (⟨E.1.1, E.1.2.1⟩ : _ ∧ _)
  unfold w_stands at hf
  refine lv_aload_n hx hb dL_stands_0 rfl (lv_at hl 3 rfl) ?_
  refine lv_iconst (v := (0 : Int32)) hx hb dL_stands_1 (by decide) ?_
  refine lv_aload_n hx hb dL_stands_2 rfl (lv_at hl 0 rfl) ?_
  refine lv_iload_n hx hb dL_stands_3 rfl (lv_at hl 1 rfl) ?_
  refine lv_iload_n hx hb dL_stands_4 rfl (lv_at hl 2 rfl) ?_
  obtain ⟨e1, r1, m1, hq, hf0, hf1⟩ := gw2_o hf
  refine gb_Ti (gq_VX (As := [.int u1, .int u2]) (ci := 8) (rm := { frames := 7, cells := 2, slots := 12, locals := 122 }) E hml hl.1 (c_X8_stands l X hl0 0 u1 u2 m0 rfl hq) wt_X8_stands wl_RL_71 rfl rfl (by decide) rfl rfl hM hS rfl rfl (Nat.le_trans (by decide) hRf) (Nat.le_trans (by decide) hRl) (Nat.le_trans (Nat.le_of_ble_eq_true rfl) hRc) (Nat.le_trans (Nat.le_of_ble_eq_true rfl) hRs) (Nat.le_of_ble_eq_true rfl) dL_stands_5 rfl) hO hS (fun h0 => ?_) (fun h0 H locs hM hO hS => ?_)
  · have hf := hf1 h0
    intro H locs ce q9 hM hO hS hce hcv hcl
    by_cases h1 : e1 = 1
    · subst h1
      have hf := g_t rfl hf
      refine gl_catch E [] (⟨0, 17, 20, 13⟩ : ExceptionTableEntry) [(⟨0, 17, 24, 15⟩ : ExceptionTableEntry)] ht (fun a ha => by cases ha) (by decide) (by decide) wcl_1 wca_1 hce hcv hcl ?_
      refine lv_astore (lv' := [(4, .ref q9), (0, .ref (X.1 + 0)), (1, .int u1), (2, .int u2), (3, .ref (X.1 + 440))]) hx hb dL_stands_20 hl (by decide) rfl (fun ls hl => ?_)
      refine lv_iconst (v := (1 : Int32)) hx hb dL_stands_22 (by decide) ?_
      exact gq_ret E hr hlocks hf hM hO hS (Nat.le_of_ble_eq_true rfl) (Nat.le_of_ble_eq_true rfl) dL_stands_23
    have hf := g_f h1 hf
    by_cases h1 : e1 = 2
    · subst h1
      have hf := g_t rfl hf
      refine gl_catch E [((⟨0, 17, 20, 13⟩ : ExceptionTableEntry), gEx 1, 0)] (⟨0, 17, 24, 15⟩ : ExceptionTableEntry) [] ht (fun a ha => by rcases List.mem_singleton.mp ha with rfl; exact ⟨by decide, wcl_1, gnc_2_1⟩) (by decide) (by decide) wcl_2 wca_2 hce hcv hcl ?_
      refine lv_astore (lv' := [(4, .ref q9), (0, .ref (X.1 + 0)), (1, .int u1), (2, .int u2), (3, .ref (X.1 + 440))]) hx hb dL_stands_24 hl (by decide) rfl (fun ls hl => ?_)
      refine lv_iconst (v := (2 : Int32)) hx hb dL_stands_26 (by decide) ?_
      exact gq_ret E hr hlocks hf hM hO hS (Nat.le_of_ble_eq_true rfl) (Nat.le_of_ble_eq_true rfl) dL_stands_27
    have hf := g_f h1 hf
    cases hf
  have hf := hf0 h0
  refine lv_if_eq (tgt := 15) hx hb dL_stands_8 (by decide) (fun h => ?_) (fun h => ?_)
  · have hf := g_t h hf
    refine lv_lconst (v := 0) hx hb dL_stands_15 rfl ?_
    refine gl_lst E hM hO hS dL_stands_16 (fun H locs hM hO hS => ?_)
    refine lv_goto (tgt := 28) hx hb dL_stands_17 (by decide) ?_
    refine lv_iconst (v := (0 : Int32)) hx hb dL_stands_28 (by decide) ?_
    exact gq_ret E hr hlocks hf hM hO hS (Nat.le_of_ble_eq_true rfl) (Nat.le_of_ble_eq_true rfl) dL_stands_29
  · have hf := g_f h hf
    refine lv_lconst (v := 1) hx hb dL_stands_11 rfl ?_
    refine lv_goto (tgt := 16) hx hb dL_stands_12 (by decide) ?_
    refine gl_lst E hM hO hS dL_stands_16 (fun H locs hM hO hS => ?_)
    refine lv_goto (tgt := 28) hx hb dL_stands_17 (by decide) ?_
    refine lv_iconst (v := (0 : Int32)) hx hb dL_stands_28 (by decide) ?_
    exact gq_ret E hr hlocks hf hM hO hS (Nat.le_of_ble_eq_true rfl) (Nat.le_of_ble_eq_true rfl) dL_stands_29
theorem cw_stands (l : Launch) (X : gX) (hl0 : l.stackTraces = false) (u1 : Int32) (u2 : Int32) (z : Nat → Int64) (w : Nat → UInt64) (m0 : gMem) {res : gLR} (hf : w_stands u1 u2 z w m0 = some res) : vx_Met l yL_stands (gWsW yL_stands cL_stands 5 (some .int) [(0, 17, 20, 13), (0, 17, 24, 15)]) { frames := 8, cells := 2, slots := 12, locals := 145 } (va_Pc [.ref (X.1 + 0), .int u1, .int u2, .ref (X.1 + 440)] (gB2 X m0 z w)) (gQW X res) gXN 2 12 (gA2 X) :=
  gMetW (by decide +kernel) rfl (Nat.le_of_ble_eq_true rfl) (fun p e s m args below meth c ls E hr hlocks hml ht hM hO hl => bw_stands E hr hlocks hml ht hl0 (Nat.le_refl _) (Nat.le_refl _) (Nat.le_refl _) (Nat.le_refl _) hf hM hO va_S.rf hl)
def w_breaksIn (u1 : Int32) (z : Nat → Int64) (w : Nat → UInt64) (m0 : gMem) : Option gLR := gw2 (f_X8_breaksIn 0 u1 m0) (fun r1 m1 => some ((0 : Int32), vp_updL z 0 r1.toInt64, w, m1)) (fun e1 m1 => if e1 = 1 then some ((1 : Int32), z, w, m1) else (if e1 = 4 then some ((2 : Int32), z, w, m1) else (none)))
set_option maxRecDepth 100000 in
set_option maxHeartbeats 4000000 in
theorem bw_breaksIn {p : Program} {l : Launch} {e : Env} {R : Room} {s : State} {m : MethodId} {args : Array Value} {below : List Frame} {meth : Method} {c : Code} {H : Heap} {locs : List Loc} {ls : Array Slot} {X : gX} {z : Nat → Int64} {w : Nat → UInt64} (E : gE2 p s m args c cL_breaksIn X) (hr : meth.sig.returnType = some .int) (hlocks : meth.locks = false) (hml : c.maxLocals = 4) (ht : c.exceptionTable.toList = tableOf [(0, 9, 12, 13), (0, 9, 15, 38)]) (hl0 : l.stackTraces = false) (hRf : 8 ≤ R.frames) (hRl : 152 ≤ R.locals) (hRc : 2 ≤ R.cells) (hRs : 12 ≤ R.slots) {u1 : Int32} {m0 : gMem} {res : gLR} (hf : w_breaksIn u1 z w m0 = some res) (hM : gM X m0 H) (hO : gO X z w H) (hS : va_S (gA2 X) s.heap H locs) (hl : lv_has ls 4 [(0, .ref (X.1 + 0)), (1, .int u1), (2, .ref (X.1 + 440))]) : W p l e R s m args below meth c H locs 0 0 (vx_MQ below (gQW X res) gXN args s 2 12 (gA2 X)) (F0 m 0 ls []) := by
  obtain ⟨hx, hb⟩ := (⟨E.1.1, E.1.2.1⟩ : _ ∧ _)
  unfold w_breaksIn at hf
  refine lv_aload_n hx hb dL_breaksIn_0 rfl (lv_at hl 2 rfl) ?_
  refine lv_iconst (v := (0 : Int32)) hx hb dL_breaksIn_1 (by decide) ?_
  refine lv_aload_n hx hb dL_breaksIn_2 rfl (lv_at hl 0 rfl) ?_
  refine lv_iload_n hx hb dL_breaksIn_3 rfl (lv_at hl 1 rfl) ?_
  obtain ⟨e1, r1, m1, hq, hf0, hf1⟩ := gw2_o hf
  refine gb_Ti (gq_VX (As := [.int u1]) (ci := 8) (rm := { frames := 7, cells := 2, slots := 12, locals := 130 }) E hml hl.1 (c_X8_breaksIn l X hl0 0 u1 m0 rfl hq) wt_X8_breaksIn wl_RL_75 rfl rfl (by decide) rfl rfl hM hS rfl rfl (Nat.le_trans (by decide) hRf) (Nat.le_trans (by decide) hRl) (Nat.le_trans (Nat.le_of_ble_eq_true rfl) hRc) (Nat.le_trans (Nat.le_of_ble_eq_true rfl) hRs) (Nat.le_of_ble_eq_true rfl) dL_breaksIn_4 rfl) hO hS (fun h0 => ?_) (fun h0 H locs hM hO hS => ?_)
  · have hf := hf1 h0
    intro H locs ce q9 hM hO hS hce hcv hcl
    by_cases h1 : e1 = 1
    · subst h1
      have hf := g_t rfl hf
      refine gl_catch E [] (⟨0, 9, 12, 13⟩ : ExceptionTableEntry) [(⟨0, 9, 15, 38⟩ : ExceptionTableEntry)] ht (fun a ha => by cases ha) (by decide) (by decide) wcl_1 wca_1 hce hcv hcl ?_
      refine lv_astore_n (lv' := [(3, .ref q9), (0, .ref (X.1 + 0)), (1, .int u1), (2, .ref (X.1 + 440))]) hx hb dL_breaksIn_12 rfl hl (by decide) rfl (fun ls hl => ?_)
      refine lv_iconst (v := (1 : Int32)) hx hb dL_breaksIn_13 (by decide) ?_
      exact gq_ret E hr hlocks hf hM hO hS (Nat.le_of_ble_eq_true rfl) (Nat.le_of_ble_eq_true rfl) dL_breaksIn_14
    have hf := g_f h1 hf
    by_cases h1 : e1 = 4
    · subst h1
      have hf := g_t rfl hf
      refine gl_catch E [((⟨0, 9, 12, 13⟩ : ExceptionTableEntry), gEx 1, 0)] (⟨0, 9, 15, 38⟩ : ExceptionTableEntry) [] ht (fun a ha => by rcases List.mem_singleton.mp ha with rfl; exact ⟨by decide, wcl_1, gnc_4_1⟩) (by decide) (by decide) wcl_4 wca_4 hce hcv hcl ?_
      refine lv_astore_n (lv' := [(3, .ref q9), (0, .ref (X.1 + 0)), (1, .int u1), (2, .ref (X.1 + 440))]) hx hb dL_breaksIn_15 rfl hl (by decide) rfl (fun ls hl => ?_)
      refine lv_iconst (v := (2 : Int32)) hx hb dL_breaksIn_16 (by decide) ?_
      exact gq_ret E hr hlocks hf hM hO hS (Nat.le_of_ble_eq_true rfl) (Nat.le_of_ble_eq_true rfl) dL_breaksIn_17
    have hf := g_f h1 hf
    cases hf
  have hf := hf0 h0
  refine lv_i2l (v := r1.toInt64) hx hb dL_breaksIn_7 rfl ?_
  refine gl_lst E hM hO hS dL_breaksIn_8 (fun H locs hM hO hS => ?_)
  refine lv_goto (tgt := 18) hx hb dL_breaksIn_9 (by decide) ?_
  refine lv_iconst (v := (0 : Int32)) hx hb dL_breaksIn_18 (by decide) ?_
  exact gq_ret E hr hlocks hf hM hO hS (Nat.le_of_ble_eq_true rfl) (Nat.le_of_ble_eq_true rfl) dL_breaksIn_19
theorem cw_breaksIn (l : Launch) (X : gX) (hl0 : l.stackTraces = false) (u1 : Int32) (z : Nat → Int64) (w : Nat → UInt64) (m0 : gMem) {res : gLR} (hf : w_breaksIn u1 z w m0 = some res) : vx_Met l yL_breaksIn (gWsW yL_breaksIn cL_breaksIn 4 (some .int) [(0, 9, 12, 13), (0, 9, 15, 38)]) { frames := 8, cells := 2, slots := 12, locals := 152 } (va_Pc [.ref (X.1 + 0), .int u1, .ref (X.1 + 440)] (gB2 X m0 z w)) (gQW X res) gXN 2 12 (gA2 X) :=
  gMetW (by decide +kernel) rfl (Nat.le_of_ble_eq_true rfl) (fun p e s m args below meth c ls E hr hlocks hml ht hM hO hl => bw_breaksIn E hr hlocks hml ht hl0 (Nat.le_refl _) (Nat.le_refl _) (Nat.le_refl _) (Nat.le_refl _) hf hM hO va_S.rf hl)
def w_banquet (u1 : Int32) (u2 : Int32) (u3 : Int32) (z : Nat → Int64) (w : Nat → UInt64) (m0 : gMem) : Option gLR := gw2 (f_X8_banquet 0 u1 u2 u3 m0) (fun r1 m1 => some ((0 : Int32), vp_updL z 0 r1.toInt64, w, m1)) (fun e1 m1 => if e1 = 2 then some ((1 : Int32), z, w, m1) else (if e1 = 3 then some ((2 : Int32), z, w, m1) else (none)))
set_option maxRecDepth 100000 in
set_option maxHeartbeats 4000000 in
theorem bw_banquet {p : Program} {l : Launch} {e : Env} {R : Room} {s : State} {m : MethodId} {args : Array Value} {below : List Frame} {meth : Method} {c : Code} {H : Heap} {locs : List Loc} {ls : Array Slot} {X : gX} {z : Nat → Int64} {w : Nat → UInt64} (E : gE2 p s m args c cL_banquet X) (hr : meth.sig.returnType = some .int) (hlocks : meth.locks = false) (hml : c.maxLocals = 6) (ht : c.exceptionTable.toList = tableOf [(0, 12, 15, 15), (0, 12, 19, 24)]) (hl0 : l.stackTraces = false) (hRf : 7 ≤ R.frames) (hRl : 147 ≤ R.locals) (hRc : 1 ≤ R.cells) (hRs : 6 ≤ R.slots) {u1 : Int32} {u2 : Int32} {u3 : Int32} {m0 : gMem} {res : gLR} (hf : w_banquet u1 u2 u3 z w m0 = some res) (hM : gM X m0 H) (hO : gO X z w H) (hS : va_S (gA2 X) s.heap H locs) (hl : lv_has ls 6 [(0, .ref (X.1 + 0)), (1, .int u1), (2, .int u2), (3, .int u3), (4, .ref (X.1 + 440))]) : W p l e R s m args below meth c H locs 0 0 (vx_MQ below (gQW X res) gXN args s 1 6 (gA2 X)) (F0 m 0 ls []) := by
  obtain ⟨hx, hb⟩ := (⟨E.1.1, E.1.2.1⟩ : _ ∧ _)
  unfold w_banquet at hf
  refine lv_aload hx hb dL_banquet_0 (lv_at hl 4 rfl) ?_
  refine lv_iconst (v := (0 : Int32)) hx hb dL_banquet_2 (by decide) ?_
  refine lv_aload_n hx hb dL_banquet_3 rfl (lv_at hl 0 rfl) ?_
  refine lv_iload_n hx hb dL_banquet_4 rfl (lv_at hl 1 rfl) ?_
  refine lv_iload_n hx hb dL_banquet_5 rfl (lv_at hl 2 rfl) ?_
  refine lv_iload_n hx hb dL_banquet_6 rfl (lv_at hl 3 rfl) ?_
  obtain ⟨e1, r1, m1, hq, hf0, hf1⟩ := gw2_o hf
  refine gb_Ti (gq_VX (As := [.int u1, .int u2, .int u3]) (ci := 8) (rm := { frames := 6, cells := 1, slots := 6, locals := 124 }) E hml hl.1 (c_X8_banquet l X hl0 0 u1 u2 u3 m0 rfl hq) wt_X8_banquet wl_RL_78 rfl rfl (by decide) rfl rfl hM hS rfl rfl (Nat.le_trans (by decide) hRf) (Nat.le_trans (by decide) hRl) (Nat.le_trans (Nat.le_of_ble_eq_true rfl) hRc) (Nat.le_trans (Nat.le_of_ble_eq_true rfl) hRs) (Nat.le_of_ble_eq_true rfl) dL_banquet_7 rfl) hO hS (fun h0 => ?_) (fun h0 H locs hM hO hS => ?_)
  · have hf := hf1 h0
    intro H locs ce q9 hM hO hS hce hcv hcl
    by_cases h1 : e1 = 2
    · subst h1
      have hf := g_t rfl hf
      refine gl_catch E [] (⟨0, 12, 15, 15⟩ : ExceptionTableEntry) [(⟨0, 12, 19, 24⟩ : ExceptionTableEntry)] ht (fun a ha => by cases ha) (by decide) (by decide) wcl_2 wca_2 hce hcv hcl ?_
      refine lv_astore (lv' := [(5, .ref q9), (0, .ref (X.1 + 0)), (1, .int u1), (2, .int u2), (3, .int u3), (4, .ref (X.1 + 440))]) hx hb dL_banquet_15 hl (by decide) rfl (fun ls hl => ?_)
      refine lv_iconst (v := (1 : Int32)) hx hb dL_banquet_17 (by decide) ?_
      exact gq_ret E hr hlocks hf hM hO hS (Nat.le_of_ble_eq_true rfl) (Nat.le_of_ble_eq_true rfl) dL_banquet_18
    have hf := g_f h1 hf
    by_cases h1 : e1 = 3
    · subst h1
      have hf := g_t rfl hf
      refine gl_catch E [((⟨0, 12, 15, 15⟩ : ExceptionTableEntry), gEx 2, 0)] (⟨0, 12, 19, 24⟩ : ExceptionTableEntry) [] ht (fun a ha => by rcases List.mem_singleton.mp ha with rfl; exact ⟨by decide, wcl_2, gnc_3_2⟩) (by decide) (by decide) wcl_3 wca_3 hce hcv hcl ?_
      refine lv_astore (lv' := [(5, .ref q9), (0, .ref (X.1 + 0)), (1, .int u1), (2, .int u2), (3, .int u3), (4, .ref (X.1 + 440))]) hx hb dL_banquet_19 hl (by decide) rfl (fun ls hl => ?_)
      refine lv_iconst (v := (2 : Int32)) hx hb dL_banquet_21 (by decide) ?_
      exact gq_ret E hr hlocks hf hM hO hS (Nat.le_of_ble_eq_true rfl) (Nat.le_of_ble_eq_true rfl) dL_banquet_22
    have hf := g_f h1 hf
    cases hf
  have hf := hf0 h0
  refine lv_i2l (v := r1.toInt64) hx hb dL_banquet_10 rfl ?_
  refine gl_lst E hM hO hS dL_banquet_11 (fun H locs hM hO hS => ?_)
  refine lv_goto (tgt := 23) hx hb dL_banquet_12 (by decide) ?_
  refine lv_iconst (v := (0 : Int32)) hx hb dL_banquet_23 (by decide) ?_
  exact gq_ret E hr hlocks hf hM hO hS (Nat.le_of_ble_eq_true rfl) (Nat.le_of_ble_eq_true rfl) dL_banquet_24
theorem cw_banquet (l : Launch) (X : gX) (hl0 : l.stackTraces = false) (u1 : Int32) (u2 : Int32) (u3 : Int32) (z : Nat → Int64) (w : Nat → UInt64) (m0 : gMem) {res : gLR} (hf : w_banquet u1 u2 u3 z w m0 = some res) : vx_Met l yL_banquet (gWsW yL_banquet cL_banquet 6 (some .int) [(0, 12, 15, 15), (0, 12, 19, 24)]) { frames := 7, cells := 1, slots := 6, locals := 147 } (va_Pc [.ref (X.1 + 0), .int u1, .int u2, .int u3, .ref (X.1 + 440)] (gB2 X m0 z w)) (gQW X res) gXN 1 6 (gA2 X) :=
  gMetW (by decide +kernel) rfl (Nat.le_of_ble_eq_true rfl) (fun p e s m args below meth c ls E hr hlocks hml ht hM hO hl => bw_banquet E hr hlocks hml ht hl0 (Nat.le_refl _) (Nat.le_refl _) (Nat.le_refl _) (Nat.le_refl _) hf hM hO va_S.rf hl)
def w_show (u1 : Int32) (u2 : Int32) (z : Nat → Int64) (w : Nat → UInt64) (m0 : gMem) : Option gLR := gw2 (f_X8_show 0 u1 u2 m0) (fun r1 m1 => some ((0 : Int32), vp_updL z 0 r1.toInt64, w, m1)) (fun e1 m1 => if e1 = 4 then some ((1 : Int32), z, w, m1) else (if e1 = 1 then some ((2 : Int32), z, w, m1) else (none)))
set_option maxRecDepth 100000 in
set_option maxHeartbeats 4000000 in
theorem bw_show {p : Program} {l : Launch} {e : Env} {R : Room} {s : State} {m : MethodId} {args : Array Value} {below : List Frame} {meth : Method} {c : Code} {H : Heap} {locs : List Loc} {ls : Array Slot} {X : gX} {z : Nat → Int64} {w : Nat → UInt64} (E : gE2 p s m args c cL_show X) (hr : meth.sig.returnType = some .int) (hlocks : meth.locks = false) (hml : c.maxLocals = 5) (ht : c.exceptionTable.toList = tableOf [(0, 10, 13, 38), (0, 10, 17, 13)]) (hl0 : l.stackTraces = false) (hRf : 8 ≤ R.frames) (hRl : 147 ≤ R.locals) (hRc : 2 ≤ R.cells) (hRs : 12 ≤ R.slots) {u1 : Int32} {u2 : Int32} {m0 : gMem} {res : gLR} (hf : w_show u1 u2 z w m0 = some res) (hM : gM X m0 H) (hO : gO X z w H) (hS : va_S (gA2 X) s.heap H locs) (hl : lv_has ls 5 [(0, .ref (X.1 + 0)), (1, .int u1), (2, .int u2), (3, .ref (X.1 + 440))]) : W p l e R s m args below meth c H locs 0 0 (vx_MQ below (gQW X res) gXN args s 2 12 (gA2 X)) (F0 m 0 ls []) := by
  obtain ⟨hx, hb⟩ := (⟨E.1.1, E.1.2.1⟩ : _ ∧ _)
  unfold w_show at hf
  refine lv_aload_n hx hb dL_show_0 rfl (lv_at hl 3 rfl) ?_
  refine lv_iconst (v := (0 : Int32)) hx hb dL_show_1 (by decide) ?_
  refine lv_aload_n hx hb dL_show_2 rfl (lv_at hl 0 rfl) ?_
  refine lv_iload_n hx hb dL_show_3 rfl (lv_at hl 1 rfl) ?_
  refine lv_iload_n hx hb dL_show_4 rfl (lv_at hl 2 rfl) ?_
  obtain ⟨e1, r1, m1, hq, hf0, hf1⟩ := gw2_o hf
  refine gb_Ti (gq_VX (As := [.int u1, .int u2]) (ci := 8) (rm := { frames := 7, cells := 2, slots := 12, locals := 124 }) E hml hl.1 (c_X8_show l X hl0 0 u1 u2 m0 rfl hq) wt_X8_show wl_RL_81 rfl rfl (by decide) rfl rfl hM hS rfl rfl (Nat.le_trans (by decide) hRf) (Nat.le_trans (by decide) hRl) (Nat.le_trans (Nat.le_of_ble_eq_true rfl) hRc) (Nat.le_trans (Nat.le_of_ble_eq_true rfl) hRs) (Nat.le_of_ble_eq_true rfl) dL_show_5 rfl) hO hS (fun h0 => ?_) (fun h0 H locs hM hO hS => ?_)
  · have hf := hf1 h0
    intro H locs ce q9 hM hO hS hce hcv hcl
    by_cases h1 : e1 = 4
    · subst h1
      have hf := g_t rfl hf
      refine gl_catch E [] (⟨0, 10, 13, 38⟩ : ExceptionTableEntry) [(⟨0, 10, 17, 13⟩ : ExceptionTableEntry)] ht (fun a ha => by cases ha) (by decide) (by decide) wcl_4 wca_4 hce hcv hcl ?_
      refine lv_astore (lv' := [(4, .ref q9), (0, .ref (X.1 + 0)), (1, .int u1), (2, .int u2), (3, .ref (X.1 + 440))]) hx hb dL_show_13 hl (by decide) rfl (fun ls hl => ?_)
      refine lv_iconst (v := (1 : Int32)) hx hb dL_show_15 (by decide) ?_
      exact gq_ret E hr hlocks hf hM hO hS (Nat.le_of_ble_eq_true rfl) (Nat.le_of_ble_eq_true rfl) dL_show_16
    have hf := g_f h1 hf
    by_cases h1 : e1 = 1
    · subst h1
      have hf := g_t rfl hf
      refine gl_catch E [((⟨0, 10, 13, 38⟩ : ExceptionTableEntry), gEx 4, 0)] (⟨0, 10, 17, 13⟩ : ExceptionTableEntry) [] ht (fun a ha => by rcases List.mem_singleton.mp ha with rfl; exact ⟨by decide, wcl_4, gnc_1_4⟩) (by decide) (by decide) wcl_1 wca_1 hce hcv hcl ?_
      refine lv_astore (lv' := [(4, .ref q9), (0, .ref (X.1 + 0)), (1, .int u1), (2, .int u2), (3, .ref (X.1 + 440))]) hx hb dL_show_17 hl (by decide) rfl (fun ls hl => ?_)
      refine lv_iconst (v := (2 : Int32)) hx hb dL_show_19 (by decide) ?_
      exact gq_ret E hr hlocks hf hM hO hS (Nat.le_of_ble_eq_true rfl) (Nat.le_of_ble_eq_true rfl) dL_show_20
    have hf := g_f h1 hf
    cases hf
  have hf := hf0 h0
  refine lv_i2l (v := r1.toInt64) hx hb dL_show_8 rfl ?_
  refine gl_lst E hM hO hS dL_show_9 (fun H locs hM hO hS => ?_)
  refine lv_goto (tgt := 21) hx hb dL_show_10 (by decide) ?_
  refine lv_iconst (v := (0 : Int32)) hx hb dL_show_21 (by decide) ?_
  exact gq_ret E hr hlocks hf hM hO hS (Nat.le_of_ble_eq_true rfl) (Nat.le_of_ble_eq_true rfl) dL_show_22
theorem cw_show (l : Launch) (X : gX) (hl0 : l.stackTraces = false) (u1 : Int32) (u2 : Int32) (z : Nat → Int64) (w : Nat → UInt64) (m0 : gMem) {res : gLR} (hf : w_show u1 u2 z w m0 = some res) : vx_Met l yL_show (gWsW yL_show cL_show 5 (some .int) [(0, 10, 13, 38), (0, 10, 17, 13)]) { frames := 8, cells := 2, slots := 12, locals := 147 } (va_Pc [.ref (X.1 + 0), .int u1, .int u2, .ref (X.1 + 440)] (gB2 X m0 z w)) (gQW X res) gXN 2 12 (gA2 X) :=
  gMetW (by decide +kernel) rfl (Nat.le_of_ble_eq_true rfl) (fun p e s m args below meth c ls E hr hlocks hml ht hM hO hl => bw_show E hr hlocks hml ht hl0 (Nat.le_refl _) (Nat.le_refl _) (Nat.le_refl _) (Nat.le_refl _) hf hM hO va_S.rf hl)
def w_cancel (u1 : Int32) (z : Nat → Int64) (w : Nat → UInt64) (m0 : gMem) : Option gLR := gw2 (f_X8_cancel 0 u1 m0) (fun r1 m1 => some ((0 : Int32), vp_updL z 0 r1.toInt64, w, m1)) (fun e1 m1 => if e1 = 4 then some ((1 : Int32), z, w, m1) else (none))
set_option maxRecDepth 100000 in
set_option maxHeartbeats 4000000 in
theorem bw_cancel {p : Program} {l : Launch} {e : Env} {R : Room} {s : State} {m : MethodId} {args : Array Value} {below : List Frame} {meth : Method} {c : Code} {H : Heap} {locs : List Loc} {ls : Array Slot} {X : gX} {z : Nat → Int64} {w : Nat → UInt64} (E : gE2 p s m args c cL_cancel X) (hr : meth.sig.returnType = some .int) (hlocks : meth.locks = false) (hml : c.maxLocals = 4) (ht : c.exceptionTable.toList = tableOf [(0, 9, 12, 38)]) (hl0 : l.stackTraces = false) (hRf : 8 ≤ R.frames) (hRl : 145 ≤ R.locals) (hRc : 1 ≤ R.cells) (hRs : 6 ≤ R.slots) {u1 : Int32} {m0 : gMem} {res : gLR} (hf : w_cancel u1 z w m0 = some res) (hM : gM X m0 H) (hO : gO X z w H) (hS : va_S (gA2 X) s.heap H locs) (hl : lv_has ls 4 [(0, .ref (X.1 + 0)), (1, .int u1), (2, .ref (X.1 + 440))]) : W p l e R s m args below meth c H locs 0 0 (vx_MQ below (gQW X res) gXN args s 1 6 (gA2 X)) (F0 m 0 ls []) := by
  obtain ⟨hx, hb⟩ := (⟨E.1.1, E.1.2.1⟩ : _ ∧ _)
  unfold w_cancel at hf
  refine lv_aload_n hx hb dL_cancel_0 rfl (lv_at hl 2 rfl) ?_
  refine lv_iconst (v := (0 : Int32)) hx hb dL_cancel_1 (by decide) ?_
  refine lv_aload_n hx hb dL_cancel_2 rfl (lv_at hl 0 rfl) ?_
  refine lv_iload_n hx hb dL_cancel_3 rfl (lv_at hl 1 rfl) ?_
  obtain ⟨e1, r1, m1, hq, hf0, hf1⟩ := gw2_o hf
  refine gb_Ti (gq_VX (As := [.int u1]) (ci := 8) (rm := { frames := 7, cells := 1, slots := 6, locals := 124 }) E hml hl.1 (c_X8_cancel l X hl0 0 u1 m0 rfl hq) wt_X8_cancel wl_RL_84 rfl rfl (by decide) rfl rfl hM hS rfl rfl (Nat.le_trans (by decide) hRf) (Nat.le_trans (by decide) hRl) (Nat.le_trans (Nat.le_of_ble_eq_true rfl) hRc) (Nat.le_trans (Nat.le_of_ble_eq_true rfl) hRs) (Nat.le_of_ble_eq_true rfl) dL_cancel_4 rfl) hO hS (fun h0 => ?_) (fun h0 H locs hM hO hS => ?_)
  · have hf := hf1 h0
    intro H locs ce q9 hM hO hS hce hcv hcl
    by_cases h1 : e1 = 4
    · subst h1
      have hf := g_t rfl hf
      refine gl_catch E [] (⟨0, 9, 12, 38⟩ : ExceptionTableEntry) [] ht (fun a ha => by cases ha) (by decide) (by decide) wcl_4 wca_4 hce hcv hcl ?_
      refine lv_astore_n (lv' := [(3, .ref q9), (0, .ref (X.1 + 0)), (1, .int u1), (2, .ref (X.1 + 440))]) hx hb dL_cancel_12 rfl hl (by decide) rfl (fun ls hl => ?_)
      refine lv_iconst (v := (1 : Int32)) hx hb dL_cancel_13 (by decide) ?_
      exact gq_ret E hr hlocks hf hM hO hS (Nat.le_of_ble_eq_true rfl) (Nat.le_of_ble_eq_true rfl) dL_cancel_14
    have hf := g_f h1 hf
    cases hf
  have hf := hf0 h0
  refine lv_i2l (v := r1.toInt64) hx hb dL_cancel_7 rfl ?_
  refine gl_lst E hM hO hS dL_cancel_8 (fun H locs hM hO hS => ?_)
  refine lv_goto (tgt := 15) hx hb dL_cancel_9 (by decide) ?_
  refine lv_iconst (v := (0 : Int32)) hx hb dL_cancel_15 (by decide) ?_
  exact gq_ret E hr hlocks hf hM hO hS (Nat.le_of_ble_eq_true rfl) (Nat.le_of_ble_eq_true rfl) dL_cancel_16
theorem cw_cancel (l : Launch) (X : gX) (hl0 : l.stackTraces = false) (u1 : Int32) (z : Nat → Int64) (w : Nat → UInt64) (m0 : gMem) {res : gLR} (hf : w_cancel u1 z w m0 = some res) : vx_Met l yL_cancel (gWsW yL_cancel cL_cancel 4 (some .int) [(0, 9, 12, 38)]) { frames := 8, cells := 1, slots := 6, locals := 145 } (va_Pc [.ref (X.1 + 0), .int u1, .ref (X.1 + 440)] (gB2 X m0 z w)) (gQW X res) gXN 1 6 (gA2 X) :=
  gMetW (by decide +kernel) rfl (Nat.le_of_ble_eq_true rfl) (fun p e s m args below meth c ls E hr hlocks hml ht hM hO hl => bw_cancel E hr hlocks hml ht hl0 (Nat.le_refl _) (Nat.le_refl _) (Nat.le_refl _) (Nat.le_refl _) hf hM hO va_S.rf hl)
def w_banquetOf (u1 : Int32) (u2 : Int32) (z : Nat → Int64) (w : Nat → UInt64) (m0 : gMem) : Option gLR := gw2 (f_X8_banquetOf 0 u1 u2 m0) (fun r1 m1 => some ((0 : Int32), vp_updL z 0 r1.toInt64, w, m1)) (fun e1 m1 => if e1 = 4 then some ((1 : Int32), z, w, m1) else (if e1 = 2 then some ((2 : Int32), z, w, m1) else (none)))
set_option maxRecDepth 100000 in
set_option maxHeartbeats 4000000 in
theorem bw_banquetOf {p : Program} {l : Launch} {e : Env} {R : Room} {s : State} {m : MethodId} {args : Array Value} {below : List Frame} {meth : Method} {c : Code} {H : Heap} {locs : List Loc} {ls : Array Slot} {X : gX} {z : Nat → Int64} {w : Nat → UInt64} (E : gE2 p s m args c cL_banquetOf X) (hr : meth.sig.returnType = some .int) (hlocks : meth.locks = false) (hml : c.maxLocals = 5) (ht : c.exceptionTable.toList = tableOf [(0, 10, 13, 38), (0, 10, 17, 15)]) (hl0 : l.stackTraces = false) (hRf : 8 ≤ R.frames) (hRl : 145 ≤ R.locals) (hRc : 2 ≤ R.cells) (hRs : 12 ≤ R.slots) {u1 : Int32} {u2 : Int32} {m0 : gMem} {res : gLR} (hf : w_banquetOf u1 u2 z w m0 = some res) (hM : gM X m0 H) (hO : gO X z w H) (hS : va_S (gA2 X) s.heap H locs) (hl : lv_has ls 5 [(0, .ref (X.1 + 0)), (1, .int u1), (2, .int u2), (3, .ref (X.1 + 440))]) : W p l e R s m args below meth c H locs 0 0 (vx_MQ below (gQW X res) gXN args s 2 12 (gA2 X)) (F0 m 0 ls []) := by
  obtain ⟨hx, hb⟩ := (⟨E.1.1, E.1.2.1⟩ : _ ∧ _)
  unfold w_banquetOf at hf
  refine lv_aload_n hx hb dL_banquetOf_0 rfl (lv_at hl 3 rfl) ?_
  refine lv_iconst (v := (0 : Int32)) hx hb dL_banquetOf_1 (by decide) ?_
  refine lv_aload_n hx hb dL_banquetOf_2 rfl (lv_at hl 0 rfl) ?_
  refine lv_iload_n hx hb dL_banquetOf_3 rfl (lv_at hl 1 rfl) ?_
  refine lv_iload_n hx hb dL_banquetOf_4 rfl (lv_at hl 2 rfl) ?_
  obtain ⟨e1, r1, m1, hq, hf0, hf1⟩ := gw2_o hf
  refine gb_Ti (gq_VX (As := [.int u1, .int u2]) (ci := 8) (rm := { frames := 7, cells := 2, slots := 12, locals := 122 }) E hml hl.1 (c_X8_banquetOf l X hl0 0 u1 u2 m0 rfl hq) wt_X8_banquetOf wl_RL_87 rfl rfl (by decide) rfl rfl hM hS rfl rfl (Nat.le_trans (by decide) hRf) (Nat.le_trans (by decide) hRl) (Nat.le_trans (Nat.le_of_ble_eq_true rfl) hRc) (Nat.le_trans (Nat.le_of_ble_eq_true rfl) hRs) (Nat.le_of_ble_eq_true rfl) dL_banquetOf_5 rfl) hO hS (fun h0 => ?_) (fun h0 H locs hM hO hS => ?_)
  · have hf := hf1 h0
    intro H locs ce q9 hM hO hS hce hcv hcl
    by_cases h1 : e1 = 4
    · subst h1
      have hf := g_t rfl hf
      refine gl_catch E [] (⟨0, 10, 13, 38⟩ : ExceptionTableEntry) [(⟨0, 10, 17, 15⟩ : ExceptionTableEntry)] ht (fun a ha => by cases ha) (by decide) (by decide) wcl_4 wca_4 hce hcv hcl ?_
      refine lv_astore (lv' := [(4, .ref q9), (0, .ref (X.1 + 0)), (1, .int u1), (2, .int u2), (3, .ref (X.1 + 440))]) hx hb dL_banquetOf_13 hl (by decide) rfl (fun ls hl => ?_)
      refine lv_iconst (v := (1 : Int32)) hx hb dL_banquetOf_15 (by decide) ?_
      exact gq_ret E hr hlocks hf hM hO hS (Nat.le_of_ble_eq_true rfl) (Nat.le_of_ble_eq_true rfl) dL_banquetOf_16
    have hf := g_f h1 hf
    by_cases h1 : e1 = 2
    · subst h1
      have hf := g_t rfl hf
      refine gl_catch E [((⟨0, 10, 13, 38⟩ : ExceptionTableEntry), gEx 4, 0)] (⟨0, 10, 17, 15⟩ : ExceptionTableEntry) [] ht (fun a ha => by rcases List.mem_singleton.mp ha with rfl; exact ⟨by decide, wcl_4, gnc_2_4⟩) (by decide) (by decide) wcl_2 wca_2 hce hcv hcl ?_
      refine lv_astore (lv' := [(4, .ref q9), (0, .ref (X.1 + 0)), (1, .int u1), (2, .int u2), (3, .ref (X.1 + 440))]) hx hb dL_banquetOf_17 hl (by decide) rfl (fun ls hl => ?_)
      refine lv_iconst (v := (2 : Int32)) hx hb dL_banquetOf_19 (by decide) ?_
      exact gq_ret E hr hlocks hf hM hO hS (Nat.le_of_ble_eq_true rfl) (Nat.le_of_ble_eq_true rfl) dL_banquetOf_20
    have hf := g_f h1 hf
    cases hf
  have hf := hf0 h0
  refine lv_i2l (v := r1.toInt64) hx hb dL_banquetOf_8 rfl ?_
  refine gl_lst E hM hO hS dL_banquetOf_9 (fun H locs hM hO hS => ?_)
  refine lv_goto (tgt := 21) hx hb dL_banquetOf_10 (by decide) ?_
  refine lv_iconst (v := (0 : Int32)) hx hb dL_banquetOf_21 (by decide) ?_
  exact gq_ret E hr hlocks hf hM hO hS (Nat.le_of_ble_eq_true rfl) (Nat.le_of_ble_eq_true rfl) dL_banquetOf_22
theorem cw_banquetOf (l : Launch) (X : gX) (hl0 : l.stackTraces = false) (u1 : Int32) (u2 : Int32) (z : Nat → Int64) (w : Nat → UInt64) (m0 : gMem) {res : gLR} (hf : w_banquetOf u1 u2 z w m0 = some res) : vx_Met l yL_banquetOf (gWsW yL_banquetOf cL_banquetOf 5 (some .int) [(0, 10, 13, 38), (0, 10, 17, 15)]) { frames := 8, cells := 2, slots := 12, locals := 145 } (va_Pc [.ref (X.1 + 0), .int u1, .int u2, .ref (X.1 + 440)] (gB2 X m0 z w)) (gQW X res) gXN 2 12 (gA2 X) :=
  gMetW (by decide +kernel) rfl (Nat.le_of_ble_eq_true rfl) (fun p e s m args below meth c ls E hr hlocks hml ht hM hO hl => bw_banquetOf E hr hlocks hml ht hl0 (Nat.le_refl _) (Nat.le_refl _) (Nat.le_refl _) (Nat.le_refl _) hf hM hO va_S.rf hl)
def w_next  (z : Nat → Int64) (w : Nat → UInt64) (m0 : gMem) : Option gLR := gw2 (f_X8_next 0 m0) (fun r1 m1 => some ((0 : Int32), vp_updL z 0 r1.toInt64, w, m1)) (fun e1 m1 => if e1 = 4 then some ((1 : Int32), z, w, m1) else (none))
set_option maxRecDepth 100000 in
set_option maxHeartbeats 4000000 in
theorem bw_next {p : Program} {l : Launch} {e : Env} {R : Room} {s : State} {m : MethodId} {args : Array Value} {below : List Frame} {meth : Method} {c : Code} {H : Heap} {locs : List Loc} {ls : Array Slot} {X : gX} {z : Nat → Int64} {w : Nat → UInt64} (E : gE2 p s m args c cL_next X) (hr : meth.sig.returnType = some .int) (hlocks : meth.locks = false) (hml : c.maxLocals = 3) (ht : c.exceptionTable.toList = tableOf [(0, 8, 11, 38)]) (hl0 : l.stackTraces = false) (hRf : 7 ≤ R.frames) (hRl : 121 ≤ R.locals) (hRc : 1 ≤ R.cells) (hRs : 6 ≤ R.slots)  {m0 : gMem} {res : gLR} (hf : w_next z w m0 = some res) (hM : gM X m0 H) (hO : gO X z w H) (hS : va_S (gA2 X) s.heap H locs) (hl : lv_has ls 3 [(0, .ref (X.1 + 0)), (1, .ref (X.1 + 440))]) : W p l e R s m args below meth c H locs 0 0 (vx_MQ below (gQW X res) gXN args s 1 6 (gA2 X)) (F0 m 0 ls []) := by
  obtain ⟨hx, hb⟩ := (⟨E.1.1, E.1.2.1⟩ : _ ∧ _)
  unfold w_next at hf
  refine lv_aload_n hx hb dL_next_0 rfl (lv_at hl 1 rfl) ?_
  refine lv_iconst (v := (0 : Int32)) hx hb dL_next_1 (by decide) ?_
  refine lv_aload_n hx hb dL_next_2 rfl (lv_at hl 0 rfl) ?_
  obtain ⟨e1, r1, m1, hq, hf0, hf1⟩ := gw2_o hf
  refine gb_Ti (gq_VX (As := []) (ci := 8) (rm := { frames := 6, cells := 1, slots := 6, locals := 100 }) E hml hl.1 (c_X8_next l X hl0 0 m0 rfl hq) wt_X8_next wl_RL_90 rfl rfl (by decide) rfl rfl hM hS rfl rfl (Nat.le_trans (by decide) hRf) (Nat.le_trans (by decide) hRl) (Nat.le_trans (Nat.le_of_ble_eq_true rfl) hRc) (Nat.le_trans (Nat.le_of_ble_eq_true rfl) hRs) (Nat.le_of_ble_eq_true rfl) dL_next_3 rfl) hO hS (fun h0 => ?_) (fun h0 H locs hM hO hS => ?_)
  · have hf := hf1 h0
    intro H locs ce q9 hM hO hS hce hcv hcl
    by_cases h1 : e1 = 4
    · subst h1
      have hf := g_t rfl hf
      refine gl_catch E [] (⟨0, 8, 11, 38⟩ : ExceptionTableEntry) [] ht (fun a ha => by cases ha) (by decide) (by decide) wcl_4 wca_4 hce hcv hcl ?_
      refine lv_astore_n (lv' := [(2, .ref q9), (0, .ref (X.1 + 0)), (1, .ref (X.1 + 440))]) hx hb dL_next_11 rfl hl (by decide) rfl (fun ls hl => ?_)
      refine lv_iconst (v := (1 : Int32)) hx hb dL_next_12 (by decide) ?_
      exact gq_ret E hr hlocks hf hM hO hS (Nat.le_of_ble_eq_true rfl) (Nat.le_of_ble_eq_true rfl) dL_next_13
    have hf := g_f h1 hf
    cases hf
  have hf := hf0 h0
  refine lv_i2l (v := r1.toInt64) hx hb dL_next_6 rfl ?_
  refine gl_lst E hM hO hS dL_next_7 (fun H locs hM hO hS => ?_)
  refine lv_goto (tgt := 14) hx hb dL_next_8 (by decide) ?_
  refine lv_iconst (v := (0 : Int32)) hx hb dL_next_14 (by decide) ?_
  exact gq_ret E hr hlocks hf hM hO hS (Nat.le_of_ble_eq_true rfl) (Nat.le_of_ble_eq_true rfl) dL_next_15
theorem cw_next (l : Launch) (X : gX) (hl0 : l.stackTraces = false)  (z : Nat → Int64) (w : Nat → UInt64) (m0 : gMem) {res : gLR} (hf : w_next z w m0 = some res) : vx_Met l yL_next (gWsW yL_next cL_next 3 (some .int) [(0, 8, 11, 38)]) { frames := 7, cells := 1, slots := 6, locals := 121 } (va_Pc [.ref (X.1 + 0), .ref (X.1 + 440)] (gB2 X m0 z w)) (gQW X res) gXN 1 6 (gA2 X) :=
  gMetW (by decide +kernel) rfl (Nat.le_of_ble_eq_true rfl) (fun p e s m args below meth c ls E hr hlocks hml ht hM hO hl => bw_next E hr hlocks hml ht hl0 (Nat.le_refl _) (Nat.le_refl _) (Nat.le_refl _) (Nat.le_refl _) hf hM hO va_S.rf hl)
def w_pass (u1 : Int32) (z : Nat → Int64) (w : Nat → UInt64) (m0 : gMem) : Option gLR := gw2 (f_X8_pass 0 u1 m0) (fun r1 m1 => some ((0 : Int32), vp_updL z 0 r1.toInt64, w, m1)) (fun e1 m1 => if e1 = 2 then some ((1 : Int32), z, w, m1) else (none))
set_option maxRecDepth 100000 in
set_option maxHeartbeats 4000000 in
theorem bw_pass {p : Program} {l : Launch} {e : Env} {R : Room} {s : State} {m : MethodId} {args : Array Value} {below : List Frame} {meth : Method} {c : Code} {H : Heap} {locs : List Loc} {ls : Array Slot} {X : gX} {z : Nat → Int64} {w : Nat → UInt64} (E : gE2 p s m args c cL_pass X) (hr : meth.sig.returnType = some .int) (hlocks : meth.locks = false) (hml : c.maxLocals = 4) (ht : c.exceptionTable.toList = tableOf [(0, 9, 12, 15)]) (hl0 : l.stackTraces = false) (hRf : 7 ≤ R.frames) (hRl : 176 ≤ R.locals) (hRc : 1 ≤ R.cells) (hRs : 6 ≤ R.slots) {u1 : Int32} {m0 : gMem} {res : gLR} (hf : w_pass u1 z w m0 = some res) (hM : gM X m0 H) (hO : gO X z w H) (hS : va_S (gA2 X) s.heap H locs) (hl : lv_has ls 4 [(0, .ref (X.1 + 0)), (1, .int u1), (2, .ref (X.1 + 440))]) : W p l e R s m args below meth c H locs 0 0 (vx_MQ below (gQW X res) gXN args s 1 6 (gA2 X)) (F0 m 0 ls []) := by
  obtain ⟨hx, hb⟩ := (⟨E.1.1, E.1.2.1⟩ : _ ∧ _)
  unfold w_pass at hf
  refine lv_aload_n hx hb dL_pass_0 rfl (lv_at hl 2 rfl) ?_
  refine lv_iconst (v := (0 : Int32)) hx hb dL_pass_1 (by decide) ?_
  refine lv_aload_n hx hb dL_pass_2 rfl (lv_at hl 0 rfl) ?_
  refine lv_iload_n hx hb dL_pass_3 rfl (lv_at hl 1 rfl) ?_
  obtain ⟨e1, r1, m1, hq, hf0, hf1⟩ := gw2_o hf
  refine gb_Ti (gq_VX (As := [.int u1]) (ci := 8) (rm := { frames := 6, cells := 1, slots := 6, locals := 155 }) E hml hl.1 (c_X8_pass l X hl0 0 u1 m0 rfl hq) wt_X8_pass wl_RL_93 rfl rfl (by decide) rfl rfl hM hS rfl rfl (Nat.le_trans (by decide) hRf) (Nat.le_trans (by decide) hRl) (Nat.le_trans (Nat.le_of_ble_eq_true rfl) hRc) (Nat.le_trans (Nat.le_of_ble_eq_true rfl) hRs) (Nat.le_of_ble_eq_true rfl) dL_pass_4 rfl) hO hS (fun h0 => ?_) (fun h0 H locs hM hO hS => ?_)
  · have hf := hf1 h0
    intro H locs ce q9 hM hO hS hce hcv hcl
    by_cases h1 : e1 = 2
    · subst h1
      have hf := g_t rfl hf
      refine gl_catch E [] (⟨0, 9, 12, 15⟩ : ExceptionTableEntry) [] ht (fun a ha => by cases ha) (by decide) (by decide) wcl_2 wca_2 hce hcv hcl ?_
      refine lv_astore_n (lv' := [(3, .ref q9), (0, .ref (X.1 + 0)), (1, .int u1), (2, .ref (X.1 + 440))]) hx hb dL_pass_12 rfl hl (by decide) rfl (fun ls hl => ?_)
      refine lv_iconst (v := (1 : Int32)) hx hb dL_pass_13 (by decide) ?_
      exact gq_ret E hr hlocks hf hM hO hS (Nat.le_of_ble_eq_true rfl) (Nat.le_of_ble_eq_true rfl) dL_pass_14
    have hf := g_f h1 hf
    cases hf
  have hf := hf0 h0
  refine lv_i2l (v := r1.toInt64) hx hb dL_pass_7 rfl ?_
  refine gl_lst E hM hO hS dL_pass_8 (fun H locs hM hO hS => ?_)
  refine lv_goto (tgt := 15) hx hb dL_pass_9 (by decide) ?_
  refine lv_iconst (v := (0 : Int32)) hx hb dL_pass_15 (by decide) ?_
  exact gq_ret E hr hlocks hf hM hO hS (Nat.le_of_ble_eq_true rfl) (Nat.le_of_ble_eq_true rfl) dL_pass_16
theorem cw_pass (l : Launch) (X : gX) (hl0 : l.stackTraces = false) (u1 : Int32) (z : Nat → Int64) (w : Nat → UInt64) (m0 : gMem) {res : gLR} (hf : w_pass u1 z w m0 = some res) : vx_Met l yL_pass (gWsW yL_pass cL_pass 4 (some .int) [(0, 9, 12, 15)]) { frames := 7, cells := 1, slots := 6, locals := 176 } (va_Pc [.ref (X.1 + 0), .int u1, .ref (X.1 + 440)] (gB2 X m0 z w)) (gQW X res) gXN 1 6 (gA2 X) :=
  gMetW (by decide +kernel) rfl (Nat.le_of_ble_eq_true rfl) (fun p e s m args below meth c ls E hr hlocks hml ht hM hO hl => bw_pass E hr hlocks hml ht hl0 (Nat.le_refl _) (Nat.le_refl _) (Nat.le_refl _) (Nat.le_refl _) hf hM hO va_S.rf hl)
def w_append (u1 : Int32) (z : Nat → Int64) (w : Nat → UInt64) (m0 : gMem) : Option gLR := gw2 (f_X8_append 0 u1 m0) (fun r1 m1 => some ((0 : Int32), vp_updL z 0 r1.toInt64, w, m1)) (fun e1 m1 => if e1 = 5 then some ((1 : Int32), z, w, m1) else (none))
set_option maxRecDepth 100000 in
set_option maxHeartbeats 4000000 in
theorem bw_append {p : Program} {l : Launch} {e : Env} {R : Room} {s : State} {m : MethodId} {args : Array Value} {below : List Frame} {meth : Method} {c : Code} {H : Heap} {locs : List Loc} {ls : Array Slot} {X : gX} {z : Nat → Int64} {w : Nat → UInt64} (E : gE2 p s m args c cL_append X) (hr : meth.sig.returnType = some .int) (hlocks : meth.locks = false) (hml : c.maxLocals = 4) (ht : c.exceptionTable.toList = tableOf [(0, 9, 12, 100)]) (hl0 : l.stackTraces = false) (hRf : 7 ≤ R.frames) (hRl : 121 ≤ R.locals) (hRc : 1 ≤ R.cells) (hRs : 6 ≤ R.slots) {u1 : Int32} {m0 : gMem} {res : gLR} (hf : w_append u1 z w m0 = some res) (hM : gM X m0 H) (hO : gO X z w H) (hS : va_S (gA2 X) s.heap H locs) (hl : lv_has ls 4 [(0, .ref (X.1 + 0)), (1, .int u1), (2, .ref (X.1 + 440))]) : W p l e R s m args below meth c H locs 0 0 (vx_MQ below (gQW X res) gXN args s 1 6 (gA2 X)) (F0 m 0 ls []) := by
  obtain ⟨hx, hb⟩ := (⟨E.1.1, E.1.2.1⟩ : _ ∧ _)
  unfold w_append at hf
  refine lv_aload_n hx hb dL_append_0 rfl (lv_at hl 2 rfl) ?_
  refine lv_iconst (v := (0 : Int32)) hx hb dL_append_1 (by decide) ?_
  refine lv_aload_n hx hb dL_append_2 rfl (lv_at hl 0 rfl) ?_
  refine lv_iload_n hx hb dL_append_3 rfl (lv_at hl 1 rfl) ?_
  obtain ⟨e1, r1, m1, hq, hf0, hf1⟩ := gw2_o hf
  refine gb_Ti (gq_VX (As := [.int u1]) (ci := 8) (rm := { frames := 6, cells := 1, slots := 6, locals := 100 }) E hml hl.1 (c_X8_append l X hl0 0 u1 m0 rfl hq) wt_X8_append wl_RL_96 rfl rfl (by decide) rfl rfl hM hS rfl rfl (Nat.le_trans (by decide) hRf) (Nat.le_trans (by decide) hRl) (Nat.le_trans (Nat.le_of_ble_eq_true rfl) hRc) (Nat.le_trans (Nat.le_of_ble_eq_true rfl) hRs) (Nat.le_of_ble_eq_true rfl) dL_append_4 rfl) hO hS (fun h0 => ?_) (fun h0 H locs hM hO hS => ?_)
  · have hf := hf1 h0
    intro H locs ce q9 hM hO hS hce hcv hcl
    by_cases h1 : e1 = 5
    · subst h1
      have hf := g_t rfl hf
      refine gl_catch E [] (⟨0, 9, 12, 100⟩ : ExceptionTableEntry) [] ht (fun a ha => by cases ha) (by decide) (by decide) wcl_5 wca_5 hce hcv hcl ?_
      refine lv_astore_n (lv' := [(3, .ref q9), (0, .ref (X.1 + 0)), (1, .int u1), (2, .ref (X.1 + 440))]) hx hb dL_append_12 rfl hl (by decide) rfl (fun ls hl => ?_)
      refine lv_iconst (v := (1 : Int32)) hx hb dL_append_13 (by decide) ?_
      exact gq_ret E hr hlocks hf hM hO hS (Nat.le_of_ble_eq_true rfl) (Nat.le_of_ble_eq_true rfl) dL_append_14
    have hf := g_f h1 hf
    cases hf
  have hf := hf0 h0
  refine lv_i2l (v := r1.toInt64) hx hb dL_append_7 rfl ?_
  refine gl_lst E hM hO hS dL_append_8 (fun H locs hM hO hS => ?_)
  refine lv_goto (tgt := 15) hx hb dL_append_9 (by decide) ?_
  refine lv_iconst (v := (0 : Int32)) hx hb dL_append_15 (by decide) ?_
  exact gq_ret E hr hlocks hf hM hO hS (Nat.le_of_ble_eq_true rfl) (Nat.le_of_ble_eq_true rfl) dL_append_16
theorem cw_append (l : Launch) (X : gX) (hl0 : l.stackTraces = false) (u1 : Int32) (z : Nat → Int64) (w : Nat → UInt64) (m0 : gMem) {res : gLR} (hf : w_append u1 z w m0 = some res) : vx_Met l yL_append (gWsW yL_append cL_append 4 (some .int) [(0, 9, 12, 100)]) { frames := 7, cells := 1, slots := 6, locals := 121 } (va_Pc [.ref (X.1 + 0), .int u1, .ref (X.1 + 440)] (gB2 X m0 z w)) (gQW X res) gXN 1 6 (gA2 X) :=
  gMetW (by decide +kernel) rfl (Nat.le_of_ble_eq_true rfl) (fun p e s m args below meth c ls E hr hlocks hml ht hM hO hl => bw_append E hr hlocks hml ht hl0 (Nat.le_refl _) (Nat.le_refl _) (Nat.le_refl _) (Nat.le_refl _) hf hM hO va_S.rf hl)
def w_read  (z : Nat → Int64) (w : Nat → UInt64) (m0 : gMem) : Option gLR := gw2 (f_X8_read 0 m0) (fun r1 m1 => some ((0 : Int32), vp_updL z 0 r1.toInt64, w, m1)) (fun e1 m1 => if e1 = 2 then some ((1 : Int32), z, w, m1) else (if e1 = 3 then some ((2 : Int32), z, w, m1) else (none)))
set_option maxRecDepth 100000 in
set_option maxHeartbeats 4000000 in
theorem bw_read {p : Program} {l : Launch} {e : Env} {R : Room} {s : State} {m : MethodId} {args : Array Value} {below : List Frame} {meth : Method} {c : Code} {H : Heap} {locs : List Loc} {ls : Array Slot} {X : gX} {z : Nat → Int64} {w : Nat → UInt64} (E : gE2 p s m args c cL_read X) (hr : meth.sig.returnType = some .int) (hlocks : meth.locks = false) (hml : c.maxLocals = 3) (ht : c.exceptionTable.toList = tableOf [(0, 8, 11, 15), (0, 8, 14, 24)]) (hl0 : l.stackTraces = false) (hRf : 8 ≤ R.frames) (hRl : 219 ≤ R.locals) (hRc : 1 ≤ R.cells) (hRs : 6 ≤ R.slots)  {m0 : gMem} {res : gLR} (hf : w_read z w m0 = some res) (hM : gM X m0 H) (hO : gO X z w H) (hS : va_S (gA2 X) s.heap H locs) (hl : lv_has ls 3 [(0, .ref (X.1 + 0)), (1, .ref (X.1 + 440))]) : W p l e R s m args below meth c H locs 0 0 (vx_MQ below (gQW X res) gXN args s 1 6 (gA2 X)) (F0 m 0 ls []) := by
  obtain ⟨hx, hb⟩ := (⟨E.1.1, E.1.2.1⟩ : _ ∧ _)
  unfold w_read at hf
  refine lv_aload_n hx hb dL_read_0 rfl (lv_at hl 1 rfl) ?_
  refine lv_iconst (v := (0 : Int32)) hx hb dL_read_1 (by decide) ?_
  refine lv_aload_n hx hb dL_read_2 rfl (lv_at hl 0 rfl) ?_
  obtain ⟨e1, r1, m1, hq, hf0, hf1⟩ := gw2_o hf
  refine gb_Ti (gq_VX (As := []) (ci := 8) (rm := { frames := 7, cells := 1, slots := 6, locals := 197 }) E hml hl.1 (c_X8_read l X hl0 0 m0 rfl hq) wt_X8_read wl_RL_102 rfl rfl (by decide) rfl rfl hM hS rfl rfl (Nat.le_trans (by decide) hRf) (Nat.le_trans (by decide) hRl) (Nat.le_trans (Nat.le_of_ble_eq_true rfl) hRc) (Nat.le_trans (Nat.le_of_ble_eq_true rfl) hRs) (Nat.le_of_ble_eq_true rfl) dL_read_3 rfl) hO hS (fun h0 => ?_) (fun h0 H locs hM hO hS => ?_)
  · have hf := hf1 h0
    intro H locs ce q9 hM hO hS hce hcv hcl
    by_cases h1 : e1 = 2
    · subst h1
      have hf := g_t rfl hf
      refine gl_catch E [] (⟨0, 8, 11, 15⟩ : ExceptionTableEntry) [(⟨0, 8, 14, 24⟩ : ExceptionTableEntry)] ht (fun a ha => by cases ha) (by decide) (by decide) wcl_2 wca_2 hce hcv hcl ?_
      refine lv_astore_n (lv' := [(2, .ref q9), (0, .ref (X.1 + 0)), (1, .ref (X.1 + 440))]) hx hb dL_read_11 rfl hl (by decide) rfl (fun ls hl => ?_)
      refine lv_iconst (v := (1 : Int32)) hx hb dL_read_12 (by decide) ?_
      exact gq_ret E hr hlocks hf hM hO hS (Nat.le_of_ble_eq_true rfl) (Nat.le_of_ble_eq_true rfl) dL_read_13
    have hf := g_f h1 hf
    by_cases h1 : e1 = 3
    · subst h1
      have hf := g_t rfl hf
      refine gl_catch E [((⟨0, 8, 11, 15⟩ : ExceptionTableEntry), gEx 2, 0)] (⟨0, 8, 14, 24⟩ : ExceptionTableEntry) [] ht (fun a ha => by rcases List.mem_singleton.mp ha with rfl; exact ⟨by decide, wcl_2, gnc_3_2⟩) (by decide) (by decide) wcl_3 wca_3 hce hcv hcl ?_
      refine lv_astore_n (lv' := [(2, .ref q9), (0, .ref (X.1 + 0)), (1, .ref (X.1 + 440))]) hx hb dL_read_14 rfl hl (by decide) rfl (fun ls hl => ?_)
      refine lv_iconst (v := (2 : Int32)) hx hb dL_read_15 (by decide) ?_
      exact gq_ret E hr hlocks hf hM hO hS (Nat.le_of_ble_eq_true rfl) (Nat.le_of_ble_eq_true rfl) dL_read_16
    have hf := g_f h1 hf
    cases hf
  have hf := hf0 h0
  refine lv_i2l (v := r1.toInt64) hx hb dL_read_6 rfl ?_
  refine gl_lst E hM hO hS dL_read_7 (fun H locs hM hO hS => ?_)
  refine lv_goto (tgt := 17) hx hb dL_read_8 (by decide) ?_
  refine lv_iconst (v := (0 : Int32)) hx hb dL_read_17 (by decide) ?_
  exact gq_ret E hr hlocks hf hM hO hS (Nat.le_of_ble_eq_true rfl) (Nat.le_of_ble_eq_true rfl) dL_read_18
theorem cw_read (l : Launch) (X : gX) (hl0 : l.stackTraces = false)  (z : Nat → Int64) (w : Nat → UInt64) (m0 : gMem) {res : gLR} (hf : w_read z w m0 = some res) : vx_Met l yL_read (gWsW yL_read cL_read 3 (some .int) [(0, 8, 11, 15), (0, 8, 14, 24)]) { frames := 8, cells := 1, slots := 6, locals := 219 } (va_Pc [.ref (X.1 + 0), .ref (X.1 + 440)] (gB2 X m0 z w)) (gQW X res) gXN 1 6 (gA2 X) :=
  gMetW (by decide +kernel) rfl (Nat.le_of_ble_eq_true rfl) (fun p e s m args below meth c ls E hr hlocks hml ht hM hO hl => bw_read E hr hlocks hml ht hl0 (Nat.le_refl _) (Nat.le_refl _) (Nat.le_refl _) (Nat.le_refl _) hf hM hO va_S.rf hl)
def w_refusal (u1 : Int32) (z : Nat → Int64) (w : Nat → UInt64) (m0 : gMem) : Option gLR := gw2 (f_X8_refusal 0 u1 m0) (fun r1 m1 => some ((0 : Int32), vp_updL z 0 r1.toInt64, w, m1)) (fun e1 m1 => if e1 = 4 then some ((1 : Int32), z, w, m1) else (none))
set_option maxRecDepth 100000 in
set_option maxHeartbeats 4000000 in
theorem bw_refusal {p : Program} {l : Launch} {e : Env} {R : Room} {s : State} {m : MethodId} {args : Array Value} {below : List Frame} {meth : Method} {c : Code} {H : Heap} {locs : List Loc} {ls : Array Slot} {X : gX} {z : Nat → Int64} {w : Nat → UInt64} (E : gE2 p s m args c cL_refusal X) (hr : meth.sig.returnType = some .int) (hlocks : meth.locks = false) (hml : c.maxLocals = 4) (ht : c.exceptionTable.toList = tableOf [(0, 9, 12, 38)]) (hl0 : l.stackTraces = false) (hRf : 7 ≤ R.frames) (hRl : 121 ≤ R.locals) (hRc : 1 ≤ R.cells) (hRs : 6 ≤ R.slots) {u1 : Int32} {m0 : gMem} {res : gLR} (hf : w_refusal u1 z w m0 = some res) (hM : gM X m0 H) (hO : gO X z w H) (hS : va_S (gA2 X) s.heap H locs) (hl : lv_has ls 4 [(0, .ref (X.1 + 0)), (1, .int u1), (2, .ref (X.1 + 440))]) : W p l e R s m args below meth c H locs 0 0 (vx_MQ below (gQW X res) gXN args s 1 6 (gA2 X)) (F0 m 0 ls []) := by
  obtain ⟨hx, hb⟩ := (⟨E.1.1, E.1.2.1⟩ : _ ∧ _)
  unfold w_refusal at hf
  refine lv_aload_n hx hb dL_refusal_0 rfl (lv_at hl 2 rfl) ?_
  refine lv_iconst (v := (0 : Int32)) hx hb dL_refusal_1 (by decide) ?_
  refine lv_aload_n hx hb dL_refusal_2 rfl (lv_at hl 0 rfl) ?_
  refine lv_iload_n hx hb dL_refusal_3 rfl (lv_at hl 1 rfl) ?_
  obtain ⟨e1, r1, m1, hq, hf0, hf1⟩ := gw2_o hf
  refine gb_Ti (gq_VX (As := [.int u1]) (ci := 8) (rm := { frames := 6, cells := 1, slots := 6, locals := 100 }) E hml hl.1 (c_X8_refusal l X hl0 0 u1 m0 rfl hq) wt_X8_refusal wl_RL_105 rfl rfl (by decide) rfl rfl hM hS rfl rfl (Nat.le_trans (by decide) hRf) (Nat.le_trans (by decide) hRl) (Nat.le_trans (Nat.le_of_ble_eq_true rfl) hRc) (Nat.le_trans (Nat.le_of_ble_eq_true rfl) hRs) (Nat.le_of_ble_eq_true rfl) dL_refusal_4 rfl) hO hS (fun h0 => ?_) (fun h0 H locs hM hO hS => ?_)
  · have hf := hf1 h0
    intro H locs ce q9 hM hO hS hce hcv hcl
    by_cases h1 : e1 = 4
    · subst h1
      have hf := g_t rfl hf
      refine gl_catch E [] (⟨0, 9, 12, 38⟩ : ExceptionTableEntry) [] ht (fun a ha => by cases ha) (by decide) (by decide) wcl_4 wca_4 hce hcv hcl ?_
      refine lv_astore_n (lv' := [(3, .ref q9), (0, .ref (X.1 + 0)), (1, .int u1), (2, .ref (X.1 + 440))]) hx hb dL_refusal_12 rfl hl (by decide) rfl (fun ls hl => ?_)
      refine lv_iconst (v := (1 : Int32)) hx hb dL_refusal_13 (by decide) ?_
      exact gq_ret E hr hlocks hf hM hO hS (Nat.le_of_ble_eq_true rfl) (Nat.le_of_ble_eq_true rfl) dL_refusal_14
    have hf := g_f h1 hf
    cases hf
  have hf := hf0 h0
  refine lv_i2l (v := r1.toInt64) hx hb dL_refusal_7 rfl ?_
  refine gl_lst E hM hO hS dL_refusal_8 (fun H locs hM hO hS => ?_)
  refine lv_goto (tgt := 15) hx hb dL_refusal_9 (by decide) ?_
  refine lv_iconst (v := (0 : Int32)) hx hb dL_refusal_15 (by decide) ?_
  exact gq_ret E hr hlocks hf hM hO hS (Nat.le_of_ble_eq_true rfl) (Nat.le_of_ble_eq_true rfl) dL_refusal_16
theorem cw_refusal (l : Launch) (X : gX) (hl0 : l.stackTraces = false) (u1 : Int32) (z : Nat → Int64) (w : Nat → UInt64) (m0 : gMem) {res : gLR} (hf : w_refusal u1 z w m0 = some res) : vx_Met l yL_refusal (gWsW yL_refusal cL_refusal 4 (some .int) [(0, 9, 12, 38)]) { frames := 7, cells := 1, slots := 6, locals := 121 } (va_Pc [.ref (X.1 + 0), .int u1, .ref (X.1 + 440)] (gB2 X m0 z w)) (gQW X res) gXN 1 6 (gA2 X) :=
  gMetW (by decide +kernel) rfl (Nat.le_of_ble_eq_true rfl) (fun p e s m args below meth c ls E hr hlocks hml ht hM hO hl => bw_refusal E hr hlocks hml ht hl0 (Nat.le_refl _) (Nat.le_refl _) (Nat.le_refl _) (Nat.le_refl _) hf hM hO va_S.rf hl)
def w_account (u1 : Int32) (z : Nat → Int64) (w : Nat → UInt64) (m0 : gMem) : Option gLR := gw2 (f_X8_account 0 u1 m0) (fun r1 m1 => some ((0 : Int32), vp_updL z 0 r1.toInt64, w, m1)) (fun e1 m1 => if e1 = 2 then some ((1 : Int32), z, w, m1) else (none))
set_option maxRecDepth 100000 in
set_option maxHeartbeats 4000000 in
theorem bw_account {p : Program} {l : Launch} {e : Env} {R : Room} {s : State} {m : MethodId} {args : Array Value} {below : List Frame} {meth : Method} {c : Code} {H : Heap} {locs : List Loc} {ls : Array Slot} {X : gX} {z : Nat → Int64} {w : Nat → UInt64} (E : gE2 p s m args c cL_account X) (hr : meth.sig.returnType = some .int) (hlocks : meth.locks = false) (hml : c.maxLocals = 4) (ht : c.exceptionTable.toList = tableOf [(0, 9, 12, 15)]) (hl0 : l.stackTraces = false) (hRf : 7 ≤ R.frames) (hRl : 126 ≤ R.locals) (hRc : 1 ≤ R.cells) (hRs : 6 ≤ R.slots) {u1 : Int32} {m0 : gMem} {res : gLR} (hf : w_account u1 z w m0 = some res) (hM : gM X m0 H) (hO : gO X z w H) (hS : va_S (gA2 X) s.heap H locs) (hl : lv_has ls 4 [(0, .ref (X.1 + 0)), (1, .int u1), (2, .ref (X.1 + 440))]) : W p l e R s m args below meth c H locs 0 0 (vx_MQ below (gQW X res) gXN args s 1 6 (gA2 X)) (F0 m 0 ls []) := by
  obtain ⟨hx, hb⟩ := (⟨E.1.1, E.1.2.1⟩ : _ ∧ _)
  unfold w_account at hf
  refine lv_aload_n hx hb dL_account_0 rfl (lv_at hl 2 rfl) ?_
  refine lv_iconst (v := (0 : Int32)) hx hb dL_account_1 (by decide) ?_
  refine lv_aload_n hx hb dL_account_2 rfl (lv_at hl 0 rfl) ?_
  refine lv_iload_n hx hb dL_account_3 rfl (lv_at hl 1 rfl) ?_
  obtain ⟨e1, r1, m1, hq, hf0, hf1⟩ := gw2_o hf
  refine gb_Ti (gq_VX (As := [.int u1]) (ci := 8) (rm := { frames := 6, cells := 1, slots := 6, locals := 105 }) E hml hl.1 (c_X8_account l X hl0 0 u1 m0 rfl hq) wt_X8_account wl_RL_109 rfl rfl (by decide) rfl rfl hM hS rfl rfl (Nat.le_trans (by decide) hRf) (Nat.le_trans (by decide) hRl) (Nat.le_trans (Nat.le_of_ble_eq_true rfl) hRc) (Nat.le_trans (Nat.le_of_ble_eq_true rfl) hRs) (Nat.le_of_ble_eq_true rfl) dL_account_4 rfl) hO hS (fun h0 => ?_) (fun h0 H locs hM hO hS => ?_)
  · have hf := hf1 h0
    intro H locs ce q9 hM hO hS hce hcv hcl
    by_cases h1 : e1 = 2
    · subst h1
      have hf := g_t rfl hf
      refine gl_catch E [] (⟨0, 9, 12, 15⟩ : ExceptionTableEntry) [] ht (fun a ha => by cases ha) (by decide) (by decide) wcl_2 wca_2 hce hcv hcl ?_
      refine lv_astore_n (lv' := [(3, .ref q9), (0, .ref (X.1 + 0)), (1, .int u1), (2, .ref (X.1 + 440))]) hx hb dL_account_12 rfl hl (by decide) rfl (fun ls hl => ?_)
      refine lv_iconst (v := (1 : Int32)) hx hb dL_account_13 (by decide) ?_
      exact gq_ret E hr hlocks hf hM hO hS (Nat.le_of_ble_eq_true rfl) (Nat.le_of_ble_eq_true rfl) dL_account_14
    have hf := g_f h1 hf
    cases hf
  have hf := hf0 h0
  refine lv_i2l (v := r1.toInt64) hx hb dL_account_7 rfl ?_
  refine gl_lst E hM hO hS dL_account_8 (fun H locs hM hO hS => ?_)
  refine lv_goto (tgt := 15) hx hb dL_account_9 (by decide) ?_
  refine lv_iconst (v := (0 : Int32)) hx hb dL_account_15 (by decide) ?_
  exact gq_ret E hr hlocks hf hM hO hS (Nat.le_of_ble_eq_true rfl) (Nat.le_of_ble_eq_true rfl) dL_account_16
theorem cw_account (l : Launch) (X : gX) (hl0 : l.stackTraces = false) (u1 : Int32) (z : Nat → Int64) (w : Nat → UInt64) (m0 : gMem) {res : gLR} (hf : w_account u1 z w m0 = some res) : vx_Met l yL_account (gWsW yL_account cL_account 4 (some .int) [(0, 9, 12, 15)]) { frames := 7, cells := 1, slots := 6, locals := 126 } (va_Pc [.ref (X.1 + 0), .int u1, .ref (X.1 + 440)] (gB2 X m0 z w)) (gQW X res) gXN 1 6 (gA2 X) :=
  gMetW (by decide +kernel) rfl (Nat.le_of_ble_eq_true rfl) (fun p e s m args below meth c ls E hr hlocks hml ht hM hO hl => bw_account E hr hlocks hml ht hl0 (Nat.le_refl _) (Nat.le_refl _) (Nat.le_refl _) (Nat.le_refl _) hf hM hO va_S.rf hl)
def w_meanDampness  (z : Nat → Int64) (w : Nat → UInt64) (m0 : gMem) : Option gLR := gw2 (f_X8_meanDampness 0 m0) (fun r1 m1 => some ((0 : Int32), z, vf_upd w 0 r1, m1)) (fun e1 m1 => if e1 = 6 then some ((1 : Int32), z, w, m1) else (none))
set_option maxRecDepth 100000 in
set_option maxHeartbeats 4000000 in
theorem bw_meanDampness {p : Program} {l : Launch} {e : Env} {R : Room} {s : State} {m : MethodId} {args : Array Value} {below : List Frame} {meth : Method} {c : Code} {H : Heap} {locs : List Loc} {ls : Array Slot} {X : gX} {z : Nat → Int64} {w : Nat → UInt64} (E : gE2 p s m args c cL_meanDampness X) (hr : meth.sig.returnType = some .int) (hlocks : meth.locks = false) (hml : c.maxLocals = 3) (ht : c.exceptionTable.toList = tableOf [(0, 7, 10, 116)]) (hl0 : l.stackTraces = false) (hRf : 7 ≤ R.frames) (hRl : 120 ≤ R.locals) (hRc : 1 ≤ R.cells) (hRs : 6 ≤ R.slots)  {m0 : gMem} {res : gLR} (hf : w_meanDampness z w m0 = some res) (hM : gM X m0 H) (hO : gO X z w H) (hS : va_S (gA2 X) s.heap H locs) (hl : lv_has ls 3 [(0, .ref (X.1 + 0)), (1, .ref (X.1 + 441))]) : W p l e R s m args below meth c H locs 0 0 (vx_MQ below (gQW X res) gXN args s 1 6 (gA2 X)) (F0 m 0 ls []) := by
  obtain ⟨hx, hb⟩ := (⟨E.1.1, E.1.2.1⟩ : _ ∧ _)
  unfold w_meanDampness at hf
  refine lv_aload_n hx hb dL_meanDampness_0 rfl (lv_at hl 1 rfl) ?_
  refine lv_iconst (v := (0 : Int32)) hx hb dL_meanDampness_1 (by decide) ?_
  refine lv_aload_n hx hb dL_meanDampness_2 rfl (lv_at hl 0 rfl) ?_
  obtain ⟨e1, r1, m1, hq, hf0, hf1⟩ := gw2_o hf
  refine gb_Td (gq_VX (As := []) (ci := 8) (rm := { frames := 6, cells := 1, slots := 6, locals := 100 }) E hml hl.1 (c_X8_meanDampness l X hl0 0 m0 rfl hq) wt_X8_meanDampness wl_RL_112 rfl rfl (by decide) rfl rfl hM hS rfl rfl (Nat.le_trans (by decide) hRf) (Nat.le_trans (by decide) hRl) (Nat.le_trans (Nat.le_of_ble_eq_true rfl) hRc) (Nat.le_trans (Nat.le_of_ble_eq_true rfl) hRs) (Nat.le_of_ble_eq_true rfl) dL_meanDampness_3 rfl) hO hS (fun h0 => ?_) (fun h0 H locs hM hO hS => ?_)
  · have hf := hf1 h0
    intro H locs ce q9 hM hO hS hce hcv hcl
    by_cases h1 : e1 = 6
    · subst h1
      have hf := g_t rfl hf
      refine gl_catch E [] (⟨0, 7, 10, 116⟩ : ExceptionTableEntry) [] ht (fun a ha => by cases ha) (by decide) (by decide) wcl_6 wca_6 hce hcv hcl ?_
      refine lv_astore_n (lv' := [(2, .ref q9), (0, .ref (X.1 + 0)), (1, .ref (X.1 + 441))]) hx hb dL_meanDampness_10 rfl hl (by decide) rfl (fun ls hl => ?_)
      refine lv_iconst (v := (1 : Int32)) hx hb dL_meanDampness_11 (by decide) ?_
      exact gq_ret E hr hlocks hf hM hO hS (Nat.le_of_ble_eq_true rfl) (Nat.le_of_ble_eq_true rfl) dL_meanDampness_12
    have hf := g_f h1 hf
    cases hf
  have hf := hf0 h0
  refine gl_dst E hM hO hS dL_meanDampness_6 (fun H locs hM hO hS => ?_)
  refine lv_goto (tgt := 13) hx hb dL_meanDampness_7 (by decide) ?_
  refine lv_iconst (v := (0 : Int32)) hx hb dL_meanDampness_13 (by decide) ?_
  exact gq_ret E hr hlocks hf hM hO hS (Nat.le_of_ble_eq_true rfl) (Nat.le_of_ble_eq_true rfl) dL_meanDampness_14
theorem cw_meanDampness (l : Launch) (X : gX) (hl0 : l.stackTraces = false)  (z : Nat → Int64) (w : Nat → UInt64) (m0 : gMem) {res : gLR} (hf : w_meanDampness z w m0 = some res) : vx_Met l yL_meanDampness (gWsW yL_meanDampness cL_meanDampness 3 (some .int) [(0, 7, 10, 116)]) { frames := 7, cells := 1, slots := 6, locals := 120 } (va_Pc [.ref (X.1 + 0), .ref (X.1 + 441)] (gB2 X m0 z w)) (gQW X res) gXN 1 6 (gA2 X) :=
  gMetW (by decide +kernel) rfl (Nat.le_of_ble_eq_true rfl) (fun p e s m args below meth c ls E hr hlocks hml ht hM hO hl => bw_meanDampness E hr hlocks hml ht hl0 (Nat.le_refl _) (Nat.le_refl _) (Nat.le_refl _) (Nat.le_refl _) hf hM hO va_S.rf hl)
def w_broken  (z : Nat → Int64) (w : Nat → UInt64) (m0 : gMem) : Option gLR := gw2 (f_X8_broken 0 m0) (fun r1 m1 => if FP.f2d r1 &&& 0x7fffffffffffffff ≤ 0x7ff0000000000000 then some ((0 : Int32), z, vf_upd w 0 (FP.f2d r1), m1) else none) (fun e1 m1 => if e1 = 6 then some ((1 : Int32), z, w, m1) else (none))
set_option maxRecDepth 100000 in
set_option maxHeartbeats 4000000 in
theorem bw_broken {p : Program} {l : Launch} {e : Env} {R : Room} {s : State} {m : MethodId} {args : Array Value} {below : List Frame} {meth : Method} {c : Code} {H : Heap} {locs : List Loc} {ls : Array Slot} {X : gX} {z : Nat → Int64} {w : Nat → UInt64} (E : gE2 p s m args c cL_broken X) (hr : meth.sig.returnType = some .int) (hlocks : meth.locks = false) (hml : c.maxLocals = 3) (ht : c.exceptionTable.toList = tableOf [(0, 8, 11, 116)]) (hl0 : l.stackTraces = false) (hRf : 7 ≤ R.frames) (hRl : 121 ≤ R.locals) (hRc : 1 ≤ R.cells) (hRs : 6 ≤ R.slots)  {m0 : gMem} {res : gLR} (hf : w_broken z w m0 = some res) (hM : gM X m0 H) (hO : gO X z w H) (hS : va_S (gA2 X) s.heap H locs) (hl : lv_has ls 3 [(0, .ref (X.1 + 0)), (1, .ref (X.1 + 441))]) : W p l e R s m args below meth c H locs 0 0 (vx_MQ below (gQW X res) gXN args s 1 6 (gA2 X)) (F0 m 0 ls []) := by
  obtain ⟨hx, hb⟩ := (⟨E.1.1, E.1.2.1⟩ : _ ∧ _)
  unfold w_broken at hf
  refine lv_aload_n hx hb dL_broken_0 rfl (lv_at hl 1 rfl) ?_
  refine lv_iconst (v := (0 : Int32)) hx hb dL_broken_1 (by decide) ?_
  refine lv_aload_n hx hb dL_broken_2 rfl (lv_at hl 0 rfl) ?_
  obtain ⟨e1, r1, m1, hq, hf0, hf1⟩ := gw2_o hf
  refine gb_Tf (gq_VX (As := []) (ci := 8) (rm := { frames := 6, cells := 1, slots := 6, locals := 100 }) E hml hl.1 (c_X8_broken l X hl0 0 m0 rfl hq) wt_X8_broken wl_RL_118 rfl rfl (by decide) rfl rfl hM hS rfl rfl (Nat.le_trans (by decide) hRf) (Nat.le_trans (by decide) hRl) (Nat.le_trans (Nat.le_of_ble_eq_true rfl) hRc) (Nat.le_trans (Nat.le_of_ble_eq_true rfl) hRs) (Nat.le_of_ble_eq_true rfl) dL_broken_3 rfl) hO hS (fun h0 => ?_) (fun h0 H locs hM hO hS => ?_)
  · have hf := hf1 h0
    intro H locs ce q9 hM hO hS hce hcv hcl
    by_cases h1 : e1 = 6
    · subst h1
      have hf := g_t rfl hf
      refine gl_catch E [] (⟨0, 8, 11, 116⟩ : ExceptionTableEntry) [] ht (fun a ha => by cases ha) (by decide) (by decide) wcl_6 wca_6 hce hcv hcl ?_
      refine lv_astore_n (lv' := [(2, .ref q9), (0, .ref (X.1 + 0)), (1, .ref (X.1 + 441))]) hx hb dL_broken_11 rfl hl (by decide) rfl (fun ls hl => ?_)
      refine lv_iconst (v := (1 : Int32)) hx hb dL_broken_12 (by decide) ?_
      exact gq_ret E hr hlocks hf hM hO hS (Nat.le_of_ble_eq_true rfl) (Nat.le_of_ble_eq_true rfl) dL_broken_13
    have hf := g_f h1 hf
    cases hf
  have hf := hf0 h0
  obtain ⟨hn, hf⟩ := g_ck hf
  refine lv_f2d hx hb dL_broken_6 hn ?_
  refine gl_dst E hM hO hS dL_broken_7 (fun H locs hM hO hS => ?_)
  refine lv_goto (tgt := 14) hx hb dL_broken_8 (by decide) ?_
  refine lv_iconst (v := (0 : Int32)) hx hb dL_broken_14 (by decide) ?_
  exact gq_ret E hr hlocks hf hM hO hS (Nat.le_of_ble_eq_true rfl) (Nat.le_of_ble_eq_true rfl) dL_broken_15
theorem cw_broken (l : Launch) (X : gX) (hl0 : l.stackTraces = false)  (z : Nat → Int64) (w : Nat → UInt64) (m0 : gMem) {res : gLR} (hf : w_broken z w m0 = some res) : vx_Met l yL_broken (gWsW yL_broken cL_broken 3 (some .int) [(0, 8, 11, 116)]) { frames := 7, cells := 1, slots := 6, locals := 121 } (va_Pc [.ref (X.1 + 0), .ref (X.1 + 441)] (gB2 X m0 z w)) (gQW X res) gXN 1 6 (gA2 X) :=
  gMetW (by decide +kernel) rfl (Nat.le_of_ble_eq_true rfl) (fun p e s m args below meth c ls E hr hlocks hml ht hM hO hl => bw_broken E hr hlocks hml ht hl0 (Nat.le_refl _) (Nat.le_refl _) (Nat.le_refl _) (Nat.le_refl _) hf hM hO va_S.rf hl)
def w_undo  (z : Nat → Int64) (w : Nat → UInt64) (m0 : gMem) : Option gLR := gw2 (f_X8_undo 0 m0) (fun r1 m1 => some ((0 : Int32), vp_updL z 0 r1.toInt64, w, m1)) (fun e1 m1 => if e1 = 5 then some ((1 : Int32), z, w, m1) else (none))
set_option maxRecDepth 100000 in
set_option maxHeartbeats 4000000 in
theorem bw_undo {p : Program} {l : Launch} {e : Env} {R : Room} {s : State} {m : MethodId} {args : Array Value} {below : List Frame} {meth : Method} {c : Code} {H : Heap} {locs : List Loc} {ls : Array Slot} {X : gX} {z : Nat → Int64} {w : Nat → UInt64} (E : gE2 p s m args c cL_undo X) (hr : meth.sig.returnType = some .int) (hlocks : meth.locks = false) (hml : c.maxLocals = 3) (ht : c.exceptionTable.toList = tableOf [(0, 8, 11, 100)]) (hl0 : l.stackTraces = false) (hRf : 7 ≤ R.frames) (hRl : 144 ≤ R.locals) (hRc : 1 ≤ R.cells) (hRs : 6 ≤ R.slots)  {m0 : gMem} {res : gLR} (hf : w_undo z w m0 = some res) (hM : gM X m0 H) (hO : gO X z w H) (hS : va_S (gA2 X) s.heap H locs) (hl : lv_has ls 3 [(0, .ref (X.1 + 0)), (1, .ref (X.1 + 440))]) : W p l e R s m args below meth c H locs 0 0 (vx_MQ below (gQW X res) gXN args s 1 6 (gA2 X)) (F0 m 0 ls []) := by
  obtain ⟨hx, hb⟩ := (⟨E.1.1, E.1.2.1⟩ : _ ∧ _)
  unfold w_undo at hf
  refine lv_aload_n hx hb dL_undo_0 rfl (lv_at hl 1 rfl) ?_
  refine lv_iconst (v := (0 : Int32)) hx hb dL_undo_1 (by decide) ?_
  refine lv_aload_n hx hb dL_undo_2 rfl (lv_at hl 0 rfl) ?_
  obtain ⟨e1, r1, m1, hq, hf0, hf1⟩ := gw2_o hf
  refine gb_Ti (gq_VX (As := []) (ci := 8) (rm := { frames := 6, cells := 1, slots := 6, locals := 124 }) E hml hl.1 (c_X8_undo l X hl0 0 m0 rfl hq) wt_X8_undo wl_RL_122 rfl rfl (by decide) rfl rfl hM hS rfl rfl (Nat.le_trans (by decide) hRf) (Nat.le_trans (by decide) hRl) (Nat.le_trans (Nat.le_of_ble_eq_true rfl) hRc) (Nat.le_trans (Nat.le_of_ble_eq_true rfl) hRs) (Nat.le_of_ble_eq_true rfl) dL_undo_3 rfl) hO hS (fun h0 => ?_) (fun h0 H locs hM hO hS => ?_)
  · have hf := hf1 h0
    intro H locs ce q9 hM hO hS hce hcv hcl
    by_cases h1 : e1 = 5
    · subst h1
      have hf := g_t rfl hf
      refine gl_catch E [] (⟨0, 8, 11, 100⟩ : ExceptionTableEntry) [] ht (fun a ha => by cases ha) (by decide) (by decide) wcl_5 wca_5 hce hcv hcl ?_
      refine lv_astore_n (lv' := [(2, .ref q9), (0, .ref (X.1 + 0)), (1, .ref (X.1 + 440))]) hx hb dL_undo_11 rfl hl (by decide) rfl (fun ls hl => ?_)
      refine lv_iconst (v := (1 : Int32)) hx hb dL_undo_12 (by decide) ?_
      exact gq_ret E hr hlocks hf hM hO hS (Nat.le_of_ble_eq_true rfl) (Nat.le_of_ble_eq_true rfl) dL_undo_13
    have hf := g_f h1 hf
    cases hf
  have hf := hf0 h0
  refine lv_i2l (v := r1.toInt64) hx hb dL_undo_6 rfl ?_
  refine gl_lst E hM hO hS dL_undo_7 (fun H locs hM hO hS => ?_)
  refine lv_goto (tgt := 14) hx hb dL_undo_8 (by decide) ?_
  refine lv_iconst (v := (0 : Int32)) hx hb dL_undo_14 (by decide) ?_
  exact gq_ret E hr hlocks hf hM hO hS (Nat.le_of_ble_eq_true rfl) (Nat.le_of_ble_eq_true rfl) dL_undo_15
theorem cw_undo (l : Launch) (X : gX) (hl0 : l.stackTraces = false)  (z : Nat → Int64) (w : Nat → UInt64) (m0 : gMem) {res : gLR} (hf : w_undo z w m0 = some res) : vx_Met l yL_undo (gWsW yL_undo cL_undo 3 (some .int) [(0, 8, 11, 100)]) { frames := 7, cells := 1, slots := 6, locals := 144 } (va_Pc [.ref (X.1 + 0), .ref (X.1 + 440)] (gB2 X m0 z w)) (gQW X res) gXN 1 6 (gA2 X) :=
  gMetW (by decide +kernel) rfl (Nat.le_of_ble_eq_true rfl) (fun p e s m args below meth c ls E hr hlocks hml ht hM hO hl => bw_undo E hr hlocks hml ht hl0 (Nat.le_refl _) (Nat.le_refl _) (Nat.le_refl _) (Nat.le_refl _) hf hM hO va_S.rf hl)
def w_restore  (z : Nat → Int64) (w : Nat → UInt64) (m0 : gMem) : Option gLR := gw2 (f_X8_restore 0 m0) (fun r1 m1 => some ((0 : Int32), vp_updL z 0 r1.toInt64, w, m1)) (fun e1 m1 => if e1 = 5 then some ((1 : Int32), z, w, m1) else (none))
set_option maxRecDepth 100000 in
set_option maxHeartbeats 4000000 in
theorem bw_restore {p : Program} {l : Launch} {e : Env} {R : Room} {s : State} {m : MethodId} {args : Array Value} {below : List Frame} {meth : Method} {c : Code} {H : Heap} {locs : List Loc} {ls : Array Slot} {X : gX} {z : Nat → Int64} {w : Nat → UInt64} (E : gE2 p s m args c cL_restore X) (hr : meth.sig.returnType = some .int) (hlocks : meth.locks = false) (hml : c.maxLocals = 3) (ht : c.exceptionTable.toList = tableOf [(0, 8, 11, 100)]) (hl0 : l.stackTraces = false) (hRf : 7 ≤ R.frames) (hRl : 123 ≤ R.locals) (hRc : 1 ≤ R.cells) (hRs : 6 ≤ R.slots)  {m0 : gMem} {res : gLR} (hf : w_restore z w m0 = some res) (hM : gM X m0 H) (hO : gO X z w H) (hS : va_S (gA2 X) s.heap H locs) (hl : lv_has ls 3 [(0, .ref (X.1 + 0)), (1, .ref (X.1 + 440))]) : W p l e R s m args below meth c H locs 0 0 (vx_MQ below (gQW X res) gXN args s 1 6 (gA2 X)) (F0 m 0 ls []) := by
  obtain ⟨hx, hb⟩ := (⟨E.1.1, E.1.2.1⟩ : _ ∧ _)
  unfold w_restore at hf
  refine lv_aload_n hx hb dL_restore_0 rfl (lv_at hl 1 rfl) ?_
  refine lv_iconst (v := (0 : Int32)) hx hb dL_restore_1 (by decide) ?_
  refine lv_aload_n hx hb dL_restore_2 rfl (lv_at hl 0 rfl) ?_
  obtain ⟨e1, r1, m1, hq, hf0, hf1⟩ := gw2_o hf
  refine gb_Ti (gq_VX (As := []) (ci := 8) (rm := { frames := 6, cells := 1, slots := 6, locals := 103 }) E hml hl.1 (c_X8_restore l X hl0 0 m0 rfl hq) wt_X8_restore wl_RL_125 rfl rfl (by decide) rfl rfl hM hS rfl rfl (Nat.le_trans (by decide) hRf) (Nat.le_trans (by decide) hRl) (Nat.le_trans (Nat.le_of_ble_eq_true rfl) hRc) (Nat.le_trans (Nat.le_of_ble_eq_true rfl) hRs) (Nat.le_of_ble_eq_true rfl) dL_restore_3 rfl) hO hS (fun h0 => ?_) (fun h0 H locs hM hO hS => ?_)
  · have hf := hf1 h0
    intro H locs ce q9 hM hO hS hce hcv hcl
    by_cases h1 : e1 = 5
    · subst h1
      have hf := g_t rfl hf
      refine gl_catch E [] (⟨0, 8, 11, 100⟩ : ExceptionTableEntry) [] ht (fun a ha => by cases ha) (by decide) (by decide) wcl_5 wca_5 hce hcv hcl ?_
      refine lv_astore_n (lv' := [(2, .ref q9), (0, .ref (X.1 + 0)), (1, .ref (X.1 + 440))]) hx hb dL_restore_11 rfl hl (by decide) rfl (fun ls hl => ?_)
      refine lv_iconst (v := (1 : Int32)) hx hb dL_restore_12 (by decide) ?_
      exact gq_ret E hr hlocks hf hM hO hS (Nat.le_of_ble_eq_true rfl) (Nat.le_of_ble_eq_true rfl) dL_restore_13
    have hf := g_f h1 hf
    cases hf
  have hf := hf0 h0
  refine lv_i2l (v := r1.toInt64) hx hb dL_restore_6 rfl ?_
  refine gl_lst E hM hO hS dL_restore_7 (fun H locs hM hO hS => ?_)
  refine lv_goto (tgt := 14) hx hb dL_restore_8 (by decide) ?_
  refine lv_iconst (v := (0 : Int32)) hx hb dL_restore_14 (by decide) ?_
  exact gq_ret E hr hlocks hf hM hO hS (Nat.le_of_ble_eq_true rfl) (Nat.le_of_ble_eq_true rfl) dL_restore_15
theorem cw_restore (l : Launch) (X : gX) (hl0 : l.stackTraces = false)  (z : Nat → Int64) (w : Nat → UInt64) (m0 : gMem) {res : gLR} (hf : w_restore z w m0 = some res) : vx_Met l yL_restore (gWsW yL_restore cL_restore 3 (some .int) [(0, 8, 11, 100)]) { frames := 7, cells := 1, slots := 6, locals := 123 } (va_Pc [.ref (X.1 + 0), .ref (X.1 + 440)] (gB2 X m0 z w)) (gQW X res) gXN 1 6 (gA2 X) :=
  gMetW (by decide +kernel) rfl (Nat.le_of_ble_eq_true rfl) (fun p e s m args below meth c ls E hr hlocks hml ht hM hO hl => bw_restore E hr hlocks hml ht hl0 (Nat.le_refl _) (Nat.le_refl _) (Nat.le_refl _) (Nat.le_refl _) hf hM hO va_S.rf hl)
