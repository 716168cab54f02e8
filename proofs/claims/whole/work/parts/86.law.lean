/-! the law: its cases, its loop -/
def LwC (ω : WD) (ρ : FR) (b L : Nat) (xs : Nat → Int32) : Prop := Cx ω ρ cL_law RL 11 4 ∧ va_X b L xs ρ.2.1.1 ρ.2.1.1.heap ∧ b < ρ.2.1.1.heap.size ∧ ¬ gA ω ρ.2.1.1.heap.size b ∧ L ≤ 320
theorem G_sld {ω : WD} {ρ : FR} {M : Mem} {b L k pc : Nat} {xs : Nat → Int32} {x : Int32} {lv : List (Nat × Value)} {rest : List Value} (C : LwC ω ρ b L xs) (hx : x = nI k) (hk : k < L) (hd : decode cL_law pc = .ok (.iaload, 1)) (kk : G ω ρ M (pc + 1) lv (.int (xs k) :: rest)) : G ω ρ M pc lv (.int x :: .ref b :: rest) := fun ls H locs h hP hS => by
  obtain ⟨K, hX, hbl, hbA, hL⟩ := C
  have hin : vp_in x L := by rw [hx]; exact vp_in_nI hk (by omega)
  refine va_sld K.1 K.2.1 hX hbl hbA hS hin hd ?_
  rw [hx, tnI (by omega)]
  exact kk ls H locs h hP hS
theorem lg_cmp_self (x : Int64) : lg_cmp x x = 0 := by
  unfold lg_cmp
  rw [if_neg (by simp), if_pos rfl]
theorem five : ∀ L, L < 321 → (nI L - 5).toInt = (L : Int) - 5 := by decide +kernel
theorem G_slL {ω : WD} {ρ : FR} {M : Mem} {b L pc : Nat} {xs : Nat → Int32} {lv : List (Nat × Value)} {rest : List Value} (C : LwC ω ρ b L xs) (hd : decode cL_law pc = .ok (.arraylength, 1)) (kk : G ω ρ M (pc + 1) lv (.int (nI L) :: rest)) : G ω ρ M pc lv (.ref b :: rest) := fun ls H locs h hP hS => va_slen C.1.1 C.1.2.1 C.2.1 C.2.2.1 C.2.2.2.1 hS hd (kk ls H locs h hP hS)
theorem lk_L_13 : LkV RL 13 RX9 yX9_feed cX9_feed 2 (some .int) 1 := LkV.of 406 407 408 61 409 (by decide +kernel) (by decide +kernel) (by decide +kernel) (by decide +kernel) (by decide +kernel) (by decide +kernel)
theorem lk_L_17 : LkV RL 17 RX10 yX10_feed cX10_feed 2 (some .int) 1 := LkV.of 1062 1063 1064 71 1065 (by decide +kernel) (by decide +kernel) (by decide +kernel) (by decide +kernel) (by decide +kernel) (by decide +kernel)
theorem lk_L_18 : LkV RL 18 RX9 yX9_end cX9_end 3 (some .int) 1 := LkV.of 410 411 412 61 413 (by decide +kernel) (by decide +kernel) (by decide +kernel) (by decide +kernel) (by decide +kernel) (by decide +kernel)
theorem lk_L_21 : LkV RL 21 RX10 yX10_end cX10_end 3 (some .int) 1 := LkV.of 1070 1071 1072 71 1073 (by decide +kernel) (by decide +kernel) (by decide +kernel) (by decide +kernel) (by decide +kernel) (by decide +kernel)
theorem lk_L_22 : LkV RL 22 RX9 yX9_text cX9_text 3 (some .int) 0 := LkV.of 414 415 416 61 417 (by decide +kernel) (by decide +kernel) (by decide +kernel) (by decide +kernel) (by decide +kernel) (by decide +kernel)
theorem lk_L_26 : LkV RL 26 RX10 yX10_text cX10_text 2 (some .int) 0 := LkV.of 1074 1075 1076 71 1077 (by decide +kernel) (by decide +kernel) (by decide +kernel) (by decide +kernel) (by decide +kernel) (by decide +kernel)
theorem lk_L_27 : LkV RL 27 RX9 yX9_fault cX9_fault 1 (some .int) 0 := LkV.of 597 598 599 61 600 (by decide +kernel) (by decide +kernel) (by decide +kernel) (by decide +kernel) (by decide +kernel) (by decide +kernel)
theorem lk_L_30 : LkV RL 30 RX10 yX10_fault cX10_fault 1 (some .int) 0 := LkV.of 1145 1146 1147 71 1148 (by decide +kernel) (by decide +kernel) (by decide +kernel) (by decide +kernel) (by decide +kernel) (by decide +kernel)
theorem lk_L_31 : LkV RL 31 RX9 yX9_rule cX9_rule 2 (some .int) 1 := LkV.of 601 602 603 61 604 (by decide +kernel) (by decide +kernel) (by decide +kernel) (by decide +kernel) (by decide +kernel) (by decide +kernel)
theorem lk_L_34 : LkV RL 34 RX10 yX10_rule cX10_rule 4 (some .int) 1 := LkV.of 1149 1150 1151 71 1152 (by decide +kernel) (by decide +kernel) (by decide +kernel) (by decide +kernel) (by decide +kernel) (by decide +kernel)
theorem lk_L_35 : LkV RL 35 RX9 yX9_one cX9_one 3 (some .int) 2 := LkV.of 613 614 615 61 616 (by decide +kernel) (by decide +kernel) (by decide +kernel) (by decide +kernel) (by decide +kernel) (by decide +kernel)
theorem lk_L_39 : LkV RL 39 RX10 yX10_one cX10_one 3 (some .int) 2 := LkV.of 1172 1173 1174 71 1175 (by decide +kernel) (by decide +kernel) (by decide +kernel) (by decide +kernel) (by decide +kernel) (by decide +kernel)
theorem lk_L_40 : LkV RL 40 RX9 yX9_group cX9_group 4 (some .int) 2 := LkV.of 618 619 620 61 621 (by decide +kernel) (by decide +kernel) (by decide +kernel) (by decide +kernel) (by decide +kernel) (by decide +kernel)
theorem lk_L_43 : LkV RL 43 RX10 yX10_group cX10_group 3 (some .int) 2 := LkV.of 1181 1182 1183 71 1184 (by decide +kernel) (by decide +kernel) (by decide +kernel) (by decide +kernel) (by decide +kernel) (by decide +kernel)
theorem lk_L_44 : LkV RL 44 RX9 yX9_uses cX9_uses 3 (some .int) 2 := LkV.of 637 638 639 61 640 (by decide +kernel) (by decide +kernel) (by decide +kernel) (by decide +kernel) (by decide +kernel) (by decide +kernel)
theorem lk_L_47 : LkV RL 47 RX10 yX10_uses cX10_uses 3 (some .int) 2 := LkV.of 1204 1205 1206 71 1207 (by decide +kernel) (by decide +kernel) (by decide +kernel) (by decide +kernel) (by decide +kernel) (by decide +kernel)
theorem lk_L_48 : LkV RL 48 RX9 yX9_act cX9_act 3 (some .int) 2 := LkV.of 645 646 647 61 648 (by decide +kernel) (by decide +kernel) (by decide +kernel) (by decide +kernel) (by decide +kernel) (by decide +kernel)
theorem lk_L_51 : LkV RL 51 RX10 yX10_act cX10_act 3 (some .int) 2 := LkV.of 1212 1213 1214 71 1215 (by decide +kernel) (by decide +kernel) (by decide +kernel) (by decide +kernel) (by decide +kernel) (by decide +kernel)
theorem lk_L_52 : LkV RL 52 RX9 yX9_number cX9_number 5 (some .int) 2 := LkV.of 656 657 658 61 659 (by decide +kernel) (by decide +kernel) (by decide +kernel) (by decide +kernel) (by decide +kernel) (by decide +kernel)
theorem lk_L_55 : LkV RL 55 RX10 yX10_number cX10_number 4 (some .int) 2 := LkV.of 1219 1220 1221 71 1222 (by decide +kernel) (by decide +kernel) (by decide +kernel) (by decide +kernel) (by decide +kernel) (by decide +kernel)
theorem lk_L_56 : LkV RL 56 RX9 yX9_finders cX9_finders 3 (some .int) 1 := LkV.of 661 662 663 61 664 (by decide +kernel) (by decide +kernel) (by decide +kernel) (by decide +kernel) (by decide +kernel) (by decide +kernel)
theorem lk_L_59 : LkV RL 59 RX10 yX10_finders cX10_finders 2 (some .int) 1 := LkV.of 1231 1232 1233 71 1234 (by decide +kernel) (by decide +kernel) (by decide +kernel) (by decide +kernel) (by decide +kernel) (by decide +kernel)
theorem lk_L_60 : LkV RL 60 RX9 yX9_hunt cX9_hunt 4 (some .int) 2 := LkV.of 665 666 667 61 668 (by decide +kernel) (by decide +kernel) (by decide +kernel) (by decide +kernel) (by decide +kernel) (by decide +kernel)
theorem lk_L_63 : LkV RL 63 RX10 yX10_hunt cX10_hunt 3 (some .int) 2 := LkV.of 1236 1237 1238 71 1239 (by decide +kernel) (by decide +kernel) (by decide +kernel) (by decide +kernel) (by decide +kernel) (by decide +kernel)
theorem lk_L_64 : LkV RL 64 RX9 yX9_ways cX9_ways 5 (some .int) 2 := LkV.of 669 670 671 61 672 (by decide +kernel) (by decide +kernel) (by decide +kernel) (by decide +kernel) (by decide +kernel) (by decide +kernel)
theorem lk_L_67 : LkV RL 67 RX10 yX10_ways cX10_ways 4 (some .int) 2 := LkV.of 1240 1241 1242 71 1243 (by decide +kernel) (by decide +kernel) (by decide +kernel) (by decide +kernel) (by decide +kernel) (by decide +kernel)
theorem lk_L_68 : LkV RL 68 RX9 yX9_dead cX9_dead 6 (some .int) 3 := LkV.of 678 679 680 61 681 (by decide +kernel) (by decide +kernel) (by decide +kernel) (by decide +kernel) (by decide +kernel) (by decide +kernel)
theorem lk_L_72 : LkV RL 72 RX10 yX10_dead cX10_dead 6 (some .int) 3 := LkV.of 1256 1257 1258 71 1259 (by decide +kernel) (by decide +kernel) (by decide +kernel) (by decide +kernel) (by decide +kernel) (by decide +kernel)
theorem lk_L_73 : LkV RL 73 RX9 yX9_plan cX9_plan 3 (some .int) 2 := LkV.of 686 687 688 61 689 (by decide +kernel) (by decide +kernel) (by decide +kernel) (by decide +kernel) (by decide +kernel) (by decide +kernel)
theorem lk_L_76 : LkV RL 76 RX10 yX10_plan cX10_plan 4 (some .int) 2 := LkV.of 1260 1261 1262 71 1263 (by decide +kernel) (by decide +kernel) (by decide +kernel) (by decide +kernel) (by decide +kernel) (by decide +kernel)
theorem lk_L_77 : LkV RL 77 RX9 yX9_cut cX9_cut 3 (some .int) 1 := LkV.of 692 693 694 61 695 (by decide +kernel) (by decide +kernel) (by decide +kernel) (by decide +kernel) (by decide +kernel) (by decide +kernel)
theorem lk_L_80 : LkV RL 80 RX10 yX10_cut cX10_cut 2 (some .int) 1 := LkV.of 1264 1265 1266 71 1267 (by decide +kernel) (by decide +kernel) (by decide +kernel) (by decide +kernel) (by decide +kernel) (by decide +kernel)
theorem lk_L_81 : LkV RL 81 RX9 yX9_dial cX9_dial 3 (some .int) 2 := LkV.of 696 697 698 61 699 (by decide +kernel) (by decide +kernel) (by decide +kernel) (by decide +kernel) (by decide +kernel) (by decide +kernel)
theorem lk_L_84 : LkV RL 84 RX10 yX10_dial cX10_dial 4 (some .int) 2 := LkV.of 1268 1269 1270 71 1271 (by decide +kernel) (by decide +kernel) (by decide +kernel) (by decide +kernel) (by decide +kernel) (by decide +kernel)
theorem lk_L_85 : LkV RL 85 RX9 yX9_hang cX9_hang 2 (some .int) 1 := LkV.of 714 715 716 61 717 (by decide +kernel) (by decide +kernel) (by decide +kernel) (by decide +kernel) (by decide +kernel) (by decide +kernel)
theorem lk_L_88 : LkV RL 88 RX10 yX10_hang cX10_hang 3 (some .int) 1 := LkV.of 1284 1285 1286 71 1287 (by decide +kernel) (by decide +kernel) (by decide +kernel) (by decide +kernel) (by decide +kernel) (by decide +kernel)
theorem lk_L_89 : LkV RL 89 RX9 yX9_runs cX9_runs 2 (some .int) 1 := LkV.of 725 726 727 61 728 (by decide +kernel) (by decide +kernel) (by decide +kernel) (by decide +kernel) (by decide +kernel) (by decide +kernel)
theorem lk_L_92 : LkV RL 92 RX10 yX10_runs cX10_runs 6 (some .int) 1 := LkV.of 1296 1297 1298 71 1299 (by decide +kernel) (by decide +kernel) (by decide +kernel) (by decide +kernel) (by decide +kernel) (by decide +kernel)
theorem lk_L_93 : LkV RL 93 RX9 yX9_fate cX9_fate 2 (some .int) 1 := LkV.of 747 748 749 61 750 (by decide +kernel) (by decide +kernel) (by decide +kernel) (by decide +kernel) (by decide +kernel) (by decide +kernel)
theorem lk_L_96 : LkV RL 96 RX10 yX10_fate cX10_fate 2 (some .int) 1 := LkV.of 1316 1317 1318 71 1319 (by decide +kernel) (by decide +kernel) (by decide +kernel) (by decide +kernel) (by decide +kernel) (by decide +kernel)
theorem lk_L_97 : LkV RL 97 RX9 yX9_ahead cX9_ahead 2 (some .int) 1 := LkV.of 751 752 753 61 754 (by decide +kernel) (by decide +kernel) (by decide +kernel) (by decide +kernel) (by decide +kernel) (by decide +kernel)
theorem lk_L_100 : LkV RL 100 RX10 yX10_ahead cX10_ahead 2 (some .int) 1 := LkV.of 1320 1321 1322 71 1323 (by decide +kernel) (by decide +kernel) (by decide +kernel) (by decide +kernel) (by decide +kernel) (by decide +kernel)
theorem lk_L_101 : LkV RL 101 RX9 yX9_need cX9_need 3 (some .int) 1 := LkV.of 755 756 757 61 758 (by decide +kernel) (by decide +kernel) (by decide +kernel) (by decide +kernel) (by decide +kernel) (by decide +kernel)
theorem lk_L_104 : LkV RL 104 RX10 yX10_need cX10_need 3 (some .int) 1 := LkV.of 1324 1325 1326 71 1327 (by decide +kernel) (by decide +kernel) (by decide +kernel) (by decide +kernel) (by decide +kernel) (by decide +kernel)
theorem lk_L_105 : LkV RL 105 RX9 yX9_few cX9_few 2 (some .int) 0 := LkV.of 763 764 765 61 766 (by decide +kernel) (by decide +kernel) (by decide +kernel) (by decide +kernel) (by decide +kernel) (by decide +kernel)
theorem lk_L_108 : LkV RL 108 RX10 yX10_few cX10_few 2 (some .int) 0 := LkV.of 1332 1333 1334 71 1335 (by decide +kernel) (by decide +kernel) (by decide +kernel) (by decide +kernel) (by decide +kernel) (by decide +kernel)
theorem lk_L_109 : LkV RL 109 RX9 yX9_grade cX9_grade 4 (some .int) 2 := LkV.of 774 775 776 61 777 (by decide +kernel) (by decide +kernel) (by decide +kernel) (by decide +kernel) (by decide +kernel) (by decide +kernel)
theorem lk_L_112 : LkV RL 112 RX10 yX10_grade cX10_grade 4 (some .int) 2 := LkV.of 1336 1337 1338 71 1339 (by decide +kernel) (by decide +kernel) (by decide +kernel) (by decide +kernel) (by decide +kernel) (by decide +kernel)
theorem lk_L_113 : LkV RL 113 RX9 yX9_swap cX9_swap 4 (some .int) 1 := LkV.of 794 795 796 61 797 (by decide +kernel) (by decide +kernel) (by decide +kernel) (by decide +kernel) (by decide +kernel) (by decide +kernel)
theorem lk_L_116 : LkV RL 116 RX10 yX10_swap cX10_swap 4 (some .int) 1 := LkV.of 1352 1353 1354 71 1355 (by decide +kernel) (by decide +kernel) (by decide +kernel) (by decide +kernel) (by decide +kernel) (by decide +kernel)
theorem lk_L_117 : LkV RL 117 RX9 yX9_leave cX9_leave 3 (some .int) 1 := LkV.of 802 803 804 61 805 (by decide +kernel) (by decide +kernel) (by decide +kernel) (by decide +kernel) (by decide +kernel) (by decide +kernel)
theorem lk_L_120 : LkV RL 120 RX10 yX10_leave cX10_leave 3 (some .int) 1 := LkV.of 1356 1357 1358 71 1359 (by decide +kernel) (by decide +kernel) (by decide +kernel) (by decide +kernel) (by decide +kernel) (by decide +kernel)
theorem lk_L_121 : LkV RL 121 RX9 yX9_more cX9_more 4 (some .int) 1 := LkV.of 806 807 808 61 809 (by decide +kernel) (by decide +kernel) (by decide +kernel) (by decide +kernel) (by decide +kernel) (by decide +kernel)
theorem lk_L_124 : LkV RL 124 RX10 yX10_more cX10_more 3 (some .int) 1 := LkV.of 1360 1361 1362 71 1363 (by decide +kernel) (by decide +kernel) (by decide +kernel) (by decide +kernel) (by decide +kernel) (by decide +kernel)
theorem lk_L_125 : LkV RL 125 RX9 yX9_luck cX9_luck 5 (some .long) 4 := LkV.of 810 811 812 61 813 (by decide +kernel) (by decide +kernel) (by decide +kernel) (by decide +kernel) (by decide +kernel) (by decide +kernel)
theorem lk_L_129 : LkV RL 129 RX10 yX10_luck cX10_luck 5 (some .long) 4 := LkV.of 1364 1365 1366 71 1367 (by decide +kernel) (by decide +kernel) (by decide +kernel) (by decide +kernel) (by decide +kernel) (by decide +kernel)
theorem lk_L_130 : LkV RL 130 RX9 yX9_mean cX9_mean 3 (some .long) 2 := LkV.of 845 846 847 61 848 (by decide +kernel) (by decide +kernel) (by decide +kernel) (by decide +kernel) (by decide +kernel) (by decide +kernel)
theorem lk_L_134 : LkV RL 134 RX10 yX10_mean cX10_mean 3 (some .long) 2 := LkV.of 1380 1381 1382 71 1383 (by decide +kernel) (by decide +kernel) (by decide +kernel) (by decide +kernel) (by decide +kernel) (by decide +kernel)
theorem lk_L_135 : LkV RL 135 RX9 yX9_see cX9_see 3 (some .int) 2 := LkV.of 849 850 851 61 852 (by decide +kernel) (by decide +kernel) (by decide +kernel) (by decide +kernel) (by decide +kernel) (by decide +kernel)
theorem lk_L_138 : LkV RL 138 RX10 yX10_see cX10_see 4 (some .int) 2 := LkV.of 1384 1385 1386 71 1387 (by decide +kernel) (by decide +kernel) (by decide +kernel) (by decide +kernel) (by decide +kernel) (by decide +kernel)
theorem lk_L_139 : LkV RL 139 RX9 yX9_forget cX9_forget 3 (some .int) 1 := LkV.of 853 854 855 61 856 (by decide +kernel) (by decide +kernel) (by decide +kernel) (by decide +kernel) (by decide +kernel) (by decide +kernel)
theorem lk_L_142 : LkV RL 142 RX10 yX10_forget cX10_forget 2 (some .int) 1 := LkV.of 1389 1390 1391 71 1392 (by decide +kernel) (by decide +kernel) (by decide +kernel) (by decide +kernel) (by decide +kernel) (by decide +kernel)
theorem lk_L_143 : LkV RL 143 RX9 yX9_hunts cX9_hunts 4 (some .int) 1 := LkV.of 857 858 859 61 860 (by decide +kernel) (by decide +kernel) (by decide +kernel) (by decide +kernel) (by decide +kernel) (by decide +kernel)
theorem lk_L_146 : LkV RL 146 RX10 yX10_hunts cX10_hunts 4 (some .int) 1 := LkV.of 1393 1394 1395 71 1396 (by decide +kernel) (by decide +kernel) (by decide +kernel) (by decide +kernel) (by decide +kernel) (by decide +kernel)
theorem lk_L_147 : LkV RL 147 RX9 yX9_deads cX9_deads 5 (some .int) 1 := LkV.of 865 866 867 61 868 (by decide +kernel) (by decide +kernel) (by decide +kernel) (by decide +kernel) (by decide +kernel) (by decide +kernel)
theorem lk_L_150 : LkV RL 150 RX10 yX10_deads cX10_deads 4 (some .int) 1 := LkV.of 1401 1402 1403 71 1404 (by decide +kernel) (by decide +kernel) (by decide +kernel) (by decide +kernel) (by decide +kernel) (by decide +kernel)
theorem lk_L_151 : LkV RL 151 RX9 yX9_ask cX9_ask 6 (some .int) 2 := LkV.of 873 874 875 61 876 (by decide +kernel) (by decide +kernel) (by decide +kernel) (by decide +kernel) (by decide +kernel) (by decide +kernel)
theorem lk_L_154 : LkV RL 154 RX10 yX10_ask cX10_ask 8 (some .int) 2 := LkV.of 1409 1410 1411 71 1412 (by decide +kernel) (by decide +kernel) (by decide +kernel) (by decide +kernel) (by decide +kernel) (by decide +kernel)
theorem lk_L_155 : LkV RL 155 RX9 yX9_drift cX9_drift 10 (some .int) 3 := LkV.of 889 890 891 61 892 (by decide +kernel) (by decide +kernel) (by decide +kernel) (by decide +kernel) (by decide +kernel) (by decide +kernel)
theorem lk_L_159 : LkV RL 159 RX10 yX10_drift cX10_drift 9 (some .int) 3 := LkV.of 1413 1414 1415 71 1416 (by decide +kernel) (by decide +kernel) (by decide +kernel) (by decide +kernel) (by decide +kernel) (by decide +kernel)
theorem lk_L_160 : LkV RL 160 RX9 yX9_keep cX9_keep 4 (some .int) 1 := LkV.of 894 895 896 61 897 (by decide +kernel) (by decide +kernel) (by decide +kernel) (by decide +kernel) (by decide +kernel) (by decide +kernel)
theorem lk_L_163 : LkV RL 163 RX10 yX10_keep cX10_keep 3 (some .int) 1 := LkV.of 1419 1420 1421 71 1422 (by decide +kernel) (by decide +kernel) (by decide +kernel) (by decide +kernel) (by decide +kernel) (by decide +kernel)
theorem lk_L_164 : LkV RL 164 RX9 yX9_back cX9_back 3 (some .int) 1 := LkV.of 898 899 900 61 901 (by decide +kernel) (by decide +kernel) (by decide +kernel) (by decide +kernel) (by decide +kernel) (by decide +kernel)
theorem lk_L_167 : LkV RL 167 RX10 yX10_back cX10_back 2 (some .int) 1 := LkV.of 1427 1428 1429 71 1430 (by decide +kernel) (by decide +kernel) (by decide +kernel) (by decide +kernel) (by decide +kernel) (by decide +kernel)
theorem lk_L_168 : LkV RL 168 RX9 yX9_sheet cX9_sheet 4 (some .int) 3 := LkV.of 902 903 904 61 905 (by decide +kernel) (by decide +kernel) (by decide +kernel) (by decide +kernel) (by decide +kernel) (by decide +kernel)
theorem lk_L_171 : LkV RL 171 RX10 yX10_sheet cX10_sheet 5 (some .int) 3 := LkV.of 1431 1432 1433 71 1434 (by decide +kernel) (by decide +kernel) (by decide +kernel) (by decide +kernel) (by decide +kernel) (by decide +kernel)
theorem lk_L_172 : LkV RL 172 RX9 yX9_lay cX9_lay 5 (some .int) 3 := LkV.of 916 917 918 61 919 (by decide +kernel) (by decide +kernel) (by decide +kernel) (by decide +kernel) (by decide +kernel) (by decide +kernel)
theorem lk_L_175 : LkV RL 175 RX10 yX10_lay cX10_lay 4 (some .int) 3 := LkV.of 1439 1440 1441 71 1442 (by decide +kernel) (by decide +kernel) (by decide +kernel) (by decide +kernel) (by decide +kernel) (by decide +kernel)
theorem lk_L_176 : LkV RL 176 RX9 yX9_read cX9_read 10 (some .int) 4 := LkV.of 928 929 930 61 931 (by decide +kernel) (by decide +kernel) (by decide +kernel) (by decide +kernel) (by decide +kernel) (by decide +kernel)
theorem lk_L_180 : LkV RL 180 RX10 yX10_read cX10_read 11 (some .int) 4 := LkV.of 1443 1444 1445 71 1446 (by decide +kernel) (by decide +kernel) (by decide +kernel) (by decide +kernel) (by decide +kernel) (by decide +kernel)
theorem lk_L_181 : LkV RL 181 RX9 yX9_torn cX9_torn 1 (some .int) 0 := LkV.of 941 942 943 61 944 (by decide +kernel) (by decide +kernel) (by decide +kernel) (by decide +kernel) (by decide +kernel) (by decide +kernel)
theorem lk_L_184 : LkV RL 184 RX10 yX10_torn cX10_torn 1 (some .int) 0 := LkV.of 1450 1451 1452 71 1453 (by decide +kernel) (by decide +kernel) (by decide +kernel) (by decide +kernel) (by decide +kernel) (by decide +kernel)
theorem lk_L_185 : LkV RL 185 RX9 yX9_count cX9_count 2 (some .int) 1 := LkV.of 945 946 947 61 948 (by decide +kernel) (by decide +kernel) (by decide +kernel) (by decide +kernel) (by decide +kernel) (by decide +kernel)
theorem lk_L_188 : LkV RL 188 RX10 yX10_count cX10_count 6 (some .int) 1 := LkV.of 1454 1455 1456 71 1457 (by decide +kernel) (by decide +kernel) (by decide +kernel) (by decide +kernel) (by decide +kernel) (by decide +kernel)
set_option maxRecDepth 100000 in
set_option maxHeartbeats 4000000 in
theorem law_c0 {ω : WD} {ρ : FR} {M : Mem} {b L i : Nat} {xs : Nat → Int32} (C : LwC ω ρ b L xs) (hi : i + 5 ≤ L) (hI : INV M) (kk : ∀ M2, INV M2 → G ω ρ M2 1430 [(3, .int (nI i)), (2, .ref (adr ω 128)), (1, .ref (adr ω 0)), (0, .ref b)] []) : G ω ρ M 216 [(3, .int (nI i)), (2, .ref (adr ω 128)), (1, .ref (adr ω 0)), (0, .ref b)] [] := by
  refine G_aload_n C.1 dL_law_216 2 rfl ?_
  refine G_aload_n C.1 dL_law_217 3 rfl ?_
  refine G_iload_n C.1 dL_law_218 0 rfl ?_
  refine G_iconst (v := 1) C.1 dL_law_219 (by decide) ?_
  refine G_iadd C.1 dL_law_220 ?_
  refine G_sld C (k := i + 1) (show nI i + 1 = nI (i + 1) from nI_add i 1) (by omega) dL_law_221 ?_
  refine G_callI (As := [.int (xs (i + 1))]) (rest := []) C.1 dL_law_222 lk_L_13 (Nat.le_of_ble_eq_true rfl) (Nat.le_of_ble_eq_true rfl) q0 (by decide) rfl (Nat.le_of_ble_eq_true rfl) rfl (S_X9_feed (op_feed hI)) (fun r M1 h => ?_)
  refine G_aload_n C.1 dL_law_225 1 rfl ?_
  refine G_aload_n C.1 dL_law_226 3 rfl ?_
  refine G_iload_n C.1 dL_law_227 0 rfl ?_
  refine G_iconst (v := 1) C.1 dL_law_228 (by decide) ?_
  refine G_iadd C.1 dL_law_229 ?_
  refine G_sld C (k := i + 1) (show nI i + 1 = nI (i + 1) from nI_add i 1) (by omega) dL_law_230 ?_
  refine G_callI (As := [.int (xs (i + 1))]) (rest := [.int r]) C.1 dL_law_231 lk_L_17 (Nat.le_of_ble_eq_true rfl) (Nat.le_of_ble_eq_true rfl) q128 (by decide) rfl (Nat.le_of_ble_eq_true rfl) rfl (S_X10_feed h) (fun r' M2 h2 => ?_)
  exact G_icmp_eq (tgt := 1430) C.1 dL_law_234 (by decide) (fun _ => kk M2 h2.2) (fun c => absurd h2.1 c)
set_option maxRecDepth 100000 in
set_option maxHeartbeats 4000000 in
theorem law_c1 {ω : WD} {ρ : FR} {M : Mem} {b L i : Nat} {xs : Nat → Int32} (C : LwC ω ρ b L xs) (hi : i + 5 ≤ L) (hI : INV M) (kk : ∀ M2, INV M2 → G ω ρ M2 1430 [(3, .int (nI i)), (2, .ref (adr ω 128)), (1, .ref (adr ω 0)), (0, .ref b)] []) : G ω ρ M 239 [(3, .int (nI i)), (2, .ref (adr ω 128)), (1, .ref (adr ω 0)), (0, .ref b)] [] := by
  refine G_aload_n C.1 dL_law_239 2 rfl ?_
  refine G_aload_n C.1 dL_law_240 3 rfl ?_
  refine G_iload_n C.1 dL_law_241 0 rfl ?_
  refine G_iconst (v := 1) C.1 dL_law_242 (by decide) ?_
  refine G_iadd C.1 dL_law_243 ?_
  refine G_sld C (k := i + 1) (show nI i + 1 = nI (i + 1) from nI_add i 1) (by omega) dL_law_244 ?_
  refine G_callI (As := [.int (xs (i + 1))]) (rest := []) C.1 dL_law_245 lk_L_18 (Nat.le_of_ble_eq_true rfl) (Nat.le_of_ble_eq_true rfl) q0 (by decide) rfl (Nat.le_of_ble_eq_true rfl) rfl (S_X9_end (op_end hI)) (fun r M1 h => ?_)
  refine G_aload_n C.1 dL_law_248 1 rfl ?_
  refine G_aload_n C.1 dL_law_249 3 rfl ?_
  refine G_iload_n C.1 dL_law_250 0 rfl ?_
  refine G_iconst (v := 1) C.1 dL_law_251 (by decide) ?_
  refine G_iadd C.1 dL_law_252 ?_
  refine G_sld C (k := i + 1) (show nI i + 1 = nI (i + 1) from nI_add i 1) (by omega) dL_law_253 ?_
  refine G_callI (As := [.int (xs (i + 1))]) (rest := [.int r]) C.1 dL_law_254 lk_L_21 (Nat.le_of_ble_eq_true rfl) (Nat.le_of_ble_eq_true rfl) q128 (by decide) rfl (Nat.le_of_ble_eq_true rfl) rfl (S_X10_end h) (fun r' M2 h2 => ?_)
  exact G_icmp_eq (tgt := 1430) C.1 dL_law_257 (by decide) (fun _ => kk M2 h2.2) (fun c => absurd h2.1 c)
set_option maxRecDepth 100000 in
set_option maxHeartbeats 4000000 in
theorem law_c2 {ω : WD} {ρ : FR} {M : Mem} {b L i : Nat} {xs : Nat → Int32} (C : LwC ω ρ b L xs) (hi : i + 5 ≤ L) (hI : INV M) (kk : ∀ M2, INV M2 → G ω ρ M2 1430 [(3, .int (nI i)), (2, .ref (adr ω 128)), (1, .ref (adr ω 0)), (0, .ref b)] []) : G ω ρ M 262 [(3, .int (nI i)), (2, .ref (adr ω 128)), (1, .ref (adr ω 0)), (0, .ref b)] [] := by
  refine G_aload_n C.1 dL_law_262 2 rfl ?_
  refine G_callI (As := []) (rest := []) C.1 dL_law_263 lk_L_22 (Nat.le_of_ble_eq_true rfl) (Nat.le_of_ble_eq_true rfl) q0 (by decide) rfl (Nat.le_of_ble_eq_true rfl) rfl (S_X9_text (op_text hI)) (fun r M1 h => ?_)
  refine G_aload_n C.1 dL_law_266 1 rfl ?_
  refine G_callI (As := []) (rest := [.int r]) C.1 dL_law_267 lk_L_26 (Nat.le_of_ble_eq_true rfl) (Nat.le_of_ble_eq_true rfl) q128 (by decide) rfl (Nat.le_of_ble_eq_true rfl) rfl (S_X10_text h) (fun r' M2 h2 => ?_)
  exact G_icmp_eq (tgt := 1430) C.1 dL_law_270 (by decide) (fun _ => kk M2 h2.2) (fun c => absurd h2.1 c)
set_option maxRecDepth 100000 in
set_option maxHeartbeats 4000000 in
theorem law_c3 {ω : WD} {ρ : FR} {M : Mem} {b L i : Nat} {xs : Nat → Int32} (C : LwC ω ρ b L xs) (hi : i + 5 ≤ L) (hI : INV M) (kk : ∀ M2, INV M2 → G ω ρ M2 1430 [(3, .int (nI i)), (2, .ref (adr ω 128)), (1, .ref (adr ω 0)), (0, .ref b)] []) : G ω ρ M 275 [(3, .int (nI i)), (2, .ref (adr ω 128)), (1, .ref (adr ω 0)), (0, .ref b)] [] := by
  refine G_aload_n C.1 dL_law_275 2 rfl ?_
  refine G_callI (As := []) (rest := []) C.1 dL_law_276 lk_L_27 (Nat.le_of_ble_eq_true rfl) (Nat.le_of_ble_eq_true rfl) q0 (by decide) rfl (Nat.le_of_ble_eq_true rfl) rfl (S_X9_fault (op_fault hI)) (fun r M1 h => ?_)
  refine G_aload_n C.1 dL_law_279 1 rfl ?_
  refine G_callI (As := []) (rest := [.int r]) C.1 dL_law_280 lk_L_30 (Nat.le_of_ble_eq_true rfl) (Nat.le_of_ble_eq_true rfl) q128 (by decide) rfl (Nat.le_of_ble_eq_true rfl) rfl (S_X10_fault h) (fun r' M2 h2 => ?_)
  exact G_icmp_eq (tgt := 1430) C.1 dL_law_283 (by decide) (fun _ => kk M2 h2.2) (fun c => absurd h2.1 c)
set_option maxRecDepth 100000 in
set_option maxHeartbeats 4000000 in
theorem law_c4 {ω : WD} {ρ : FR} {M : Mem} {b L i : Nat} {xs : Nat → Int32} (C : LwC ω ρ b L xs) (hi : i + 5 ≤ L) (hI : INV M) (kk : ∀ M2, INV M2 → G ω ρ M2 1430 [(3, .int (nI i)), (2, .ref (adr ω 128)), (1, .ref (adr ω 0)), (0, .ref b)] []) : G ω ρ M 288 [(3, .int (nI i)), (2, .ref (adr ω 128)), (1, .ref (adr ω 0)), (0, .ref b)] [] := by
  refine G_aload_n C.1 dL_law_288 2 rfl ?_
  refine G_aload_n C.1 dL_law_289 3 rfl ?_
  refine G_iload_n C.1 dL_law_290 0 rfl ?_
  refine G_iconst (v := 1) C.1 dL_law_291 (by decide) ?_
  refine G_iadd C.1 dL_law_292 ?_
  refine G_sld C (k := i + 1) (show nI i + 1 = nI (i + 1) from nI_add i 1) (by omega) dL_law_293 ?_
  refine G_callI (As := [.int (xs (i + 1))]) (rest := []) C.1 dL_law_294 lk_L_31 (Nat.le_of_ble_eq_true rfl) (Nat.le_of_ble_eq_true rfl) q0 (by decide) rfl (Nat.le_of_ble_eq_true rfl) rfl (S_X9_rule (op_rule hI)) (fun r M1 h => ?_)
  refine G_aload_n C.1 dL_law_297 1 rfl ?_
  refine G_aload_n C.1 dL_law_298 3 rfl ?_
  refine G_iload_n C.1 dL_law_299 0 rfl ?_
  refine G_iconst (v := 1) C.1 dL_law_300 (by decide) ?_
  refine G_iadd C.1 dL_law_301 ?_
  refine G_sld C (k := i + 1) (show nI i + 1 = nI (i + 1) from nI_add i 1) (by omega) dL_law_302 ?_
  refine G_callI (As := [.int (xs (i + 1))]) (rest := [.int r]) C.1 dL_law_303 lk_L_34 (Nat.le_of_ble_eq_true rfl) (Nat.le_of_ble_eq_true rfl) q128 (by decide) rfl (Nat.le_of_ble_eq_true rfl) rfl (S_X10_rule h) (fun r' M2 h2 => ?_)
  exact G_icmp_eq (tgt := 1430) C.1 dL_law_306 (by decide) (fun _ => kk M2 h2.2) (fun c => absurd h2.1 c)
set_option maxRecDepth 100000 in
set_option maxHeartbeats 4000000 in
theorem law_c5 {ω : WD} {ρ : FR} {M : Mem} {b L i : Nat} {xs : Nat → Int32} (C : LwC ω ρ b L xs) (hi : i + 5 ≤ L) (hI : INV M) (kk : ∀ M2, INV M2 → G ω ρ M2 1430 [(3, .int (nI i)), (2, .ref (adr ω 128)), (1, .ref (adr ω 0)), (0, .ref b)] []) : G ω ρ M 311 [(3, .int (nI i)), (2, .ref (adr ω 128)), (1, .ref (adr ω 0)), (0, .ref b)] [] := by
  refine G_aload_n C.1 dL_law_311 2 rfl ?_
  refine G_aload_n C.1 dL_law_312 3 rfl ?_
  refine G_iload_n C.1 dL_law_313 0 rfl ?_
  refine G_iconst (v := 1) C.1 dL_law_314 (by decide) ?_
  refine G_iadd C.1 dL_law_315 ?_
  refine G_sld C (k := i + 1) (show nI i + 1 = nI (i + 1) from nI_add i 1) (by omega) dL_law_316 ?_
  refine G_aload_n C.1 dL_law_317 3 rfl ?_
  refine G_iload_n C.1 dL_law_318 0 rfl ?_
  refine G_iconst (v := 2) C.1 dL_law_319 (by decide) ?_
  refine G_iadd C.1 dL_law_320 ?_
  refine G_sld C (k := i + 2) (show nI i + 2 = nI (i + 2) from nI_add i 2) (by omega) dL_law_321 ?_
  refine G_callI (As := [.int (xs (i + 1)), .int (xs (i + 2))]) (rest := []) C.1 dL_law_322 lk_L_35 (Nat.le_of_ble_eq_true rfl) (Nat.le_of_ble_eq_true rfl) q0 (by decide) rfl (Nat.le_of_ble_eq_true rfl) rfl (S_X9_one (op_one hI)) (fun r M1 h => ?_)
  refine G_aload_n C.1 dL_law_325 1 rfl ?_
  refine G_aload_n C.1 dL_law_326 3 rfl ?_
  refine G_iload_n C.1 dL_law_327 0 rfl ?_
  refine G_iconst (v := 1) C.1 dL_law_328 (by decide) ?_
  refine G_iadd C.1 dL_law_329 ?_
  refine G_sld C (k := i + 1) (show nI i + 1 = nI (i + 1) from nI_add i 1) (by omega) dL_law_330 ?_
  refine G_aload_n C.1 dL_law_331 3 rfl ?_
  refine G_iload_n C.1 dL_law_332 0 rfl ?_
  refine G_iconst (v := 2) C.1 dL_law_333 (by decide) ?_
  refine G_iadd C.1 dL_law_334 ?_
  refine G_sld C (k := i + 2) (show nI i + 2 = nI (i + 2) from nI_add i 2) (by omega) dL_law_335 ?_
  refine G_callI (As := [.int (xs (i + 1)), .int (xs (i + 2))]) (rest := [.int r]) C.1 dL_law_336 lk_L_39 (Nat.le_of_ble_eq_true rfl) (Nat.le_of_ble_eq_true rfl) q128 (by decide) rfl (Nat.le_of_ble_eq_true rfl) rfl (S_X10_one h) (fun r' M2 h2 => ?_)
  exact G_icmp_eq (tgt := 1430) C.1 dL_law_339 (by decide) (fun _ => kk M2 h2.2) (fun c => absurd h2.1 c)
set_option maxRecDepth 100000 in
set_option maxHeartbeats 4000000 in
theorem law_c6 {ω : WD} {ρ : FR} {M : Mem} {b L i : Nat} {xs : Nat → Int32} (C : LwC ω ρ b L xs) (hi : i + 5 ≤ L) (hI : INV M) (kk : ∀ M2, INV M2 → G ω ρ M2 1430 [(3, .int (nI i)), (2, .ref (adr ω 128)), (1, .ref (adr ω 0)), (0, .ref b)] []) : G ω ρ M 344 [(3, .int (nI i)), (2, .ref (adr ω 128)), (1, .ref (adr ω 0)), (0, .ref b)] [] := by
  refine G_aload_n C.1 dL_law_344 2 rfl ?_
  refine G_aload_n C.1 dL_law_345 3 rfl ?_
  refine G_iload_n C.1 dL_law_346 0 rfl ?_
  refine G_iconst (v := 1) C.1 dL_law_347 (by decide) ?_
  refine G_iadd C.1 dL_law_348 ?_
  refine G_sld C (k := i + 1) (show nI i + 1 = nI (i + 1) from nI_add i 1) (by omega) dL_law_349 ?_
  refine G_aload_n C.1 dL_law_350 3 rfl ?_
  refine G_iload_n C.1 dL_law_351 0 rfl ?_
  refine G_iconst (v := 2) C.1 dL_law_352 (by decide) ?_
  refine G_iadd C.1 dL_law_353 ?_
  refine G_sld C (k := i + 2) (show nI i + 2 = nI (i + 2) from nI_add i 2) (by omega) dL_law_354 ?_
  refine G_callI (As := [.int (xs (i + 1)), .int (xs (i + 2))]) (rest := []) C.1 dL_law_355 lk_L_40 (Nat.le_of_ble_eq_true rfl) (Nat.le_of_ble_eq_true rfl) q0 (by decide) rfl (Nat.le_of_ble_eq_true rfl) rfl (S_X9_group (op_group hI)) (fun r M1 h => ?_)
  refine G_aload_n C.1 dL_law_358 1 rfl ?_
  refine G_aload_n C.1 dL_law_359 3 rfl ?_
  refine G_iload_n C.1 dL_law_360 0 rfl ?_
  refine G_iconst (v := 1) C.1 dL_law_361 (by decide) ?_
  refine G_iadd C.1 dL_law_362 ?_
  refine G_sld C (k := i + 1) (show nI i + 1 = nI (i + 1) from nI_add i 1) (by omega) dL_law_363 ?_
  refine G_aload_n C.1 dL_law_364 3 rfl ?_
  refine G_iload_n C.1 dL_law_365 0 rfl ?_
  refine G_iconst (v := 2) C.1 dL_law_366 (by decide) ?_
  refine G_iadd C.1 dL_law_367 ?_
  refine G_sld C (k := i + 2) (show nI i + 2 = nI (i + 2) from nI_add i 2) (by omega) dL_law_368 ?_
  refine G_callI (As := [.int (xs (i + 1)), .int (xs (i + 2))]) (rest := [.int r]) C.1 dL_law_369 lk_L_43 (Nat.le_of_ble_eq_true rfl) (Nat.le_of_ble_eq_true rfl) q128 (by decide) rfl (Nat.le_of_ble_eq_true rfl) rfl (S_X10_group h) (fun r' M2 h2 => ?_)
  exact G_icmp_eq (tgt := 1430) C.1 dL_law_372 (by decide) (fun _ => kk M2 h2.2) (fun c => absurd h2.1 c)
set_option maxRecDepth 100000 in
set_option maxHeartbeats 4000000 in
theorem law_c7 {ω : WD} {ρ : FR} {M : Mem} {b L i : Nat} {xs : Nat → Int32} (C : LwC ω ρ b L xs) (hi : i + 5 ≤ L) (hI : INV M) (kk : ∀ M2, INV M2 → G ω ρ M2 1430 [(3, .int (nI i)), (2, .ref (adr ω 128)), (1, .ref (adr ω 0)), (0, .ref b)] []) : G ω ρ M 377 [(3, .int (nI i)), (2, .ref (adr ω 128)), (1, .ref (adr ω 0)), (0, .ref b)] [] := by
  refine G_aload_n C.1 dL_law_377 2 rfl ?_
  refine G_aload_n C.1 dL_law_378 3 rfl ?_
  refine G_iload_n C.1 dL_law_379 0 rfl ?_
  refine G_iconst (v := 1) C.1 dL_law_380 (by decide) ?_
  refine G_iadd C.1 dL_law_381 ?_
  refine G_sld C (k := i + 1) (show nI i + 1 = nI (i + 1) from nI_add i 1) (by omega) dL_law_382 ?_
  refine G_aload_n C.1 dL_law_383 3 rfl ?_
  refine G_iload_n C.1 dL_law_384 0 rfl ?_
  refine G_iconst (v := 2) C.1 dL_law_385 (by decide) ?_
  refine G_iadd C.1 dL_law_386 ?_
  refine G_sld C (k := i + 2) (show nI i + 2 = nI (i + 2) from nI_add i 2) (by omega) dL_law_387 ?_
  refine G_callI (As := [.int (xs (i + 1)), .int (xs (i + 2))]) (rest := []) C.1 dL_law_388 lk_L_44 (Nat.le_of_ble_eq_true rfl) (Nat.le_of_ble_eq_true rfl) q0 (by decide) rfl (Nat.le_of_ble_eq_true rfl) rfl (S_X9_uses (op_uses hI)) (fun r M1 h => ?_)
  refine G_aload_n C.1 dL_law_391 1 rfl ?_
  refine G_aload_n C.1 dL_law_392 3 rfl ?_
  refine G_iload_n C.1 dL_law_393 0 rfl ?_
  refine G_iconst (v := 1) C.1 dL_law_394 (by decide) ?_
  refine G_iadd C.1 dL_law_395 ?_
  refine G_sld C (k := i + 1) (show nI i + 1 = nI (i + 1) from nI_add i 1) (by omega) dL_law_396 ?_
  refine G_aload_n C.1 dL_law_397 3 rfl ?_
  refine G_iload_n C.1 dL_law_398 0 rfl ?_
  refine G_iconst (v := 2) C.1 dL_law_399 (by decide) ?_
  refine G_iadd C.1 dL_law_400 ?_
  refine G_sld C (k := i + 2) (show nI i + 2 = nI (i + 2) from nI_add i 2) (by omega) dL_law_401 ?_
  refine G_callI (As := [.int (xs (i + 1)), .int (xs (i + 2))]) (rest := [.int r]) C.1 dL_law_402 lk_L_47 (Nat.le_of_ble_eq_true rfl) (Nat.le_of_ble_eq_true rfl) q128 (by decide) rfl (Nat.le_of_ble_eq_true rfl) rfl (S_X10_uses h) (fun r' M2 h2 => ?_)
  exact G_icmp_eq (tgt := 1430) C.1 dL_law_405 (by decide) (fun _ => kk M2 h2.2) (fun c => absurd h2.1 c)
set_option maxRecDepth 100000 in
set_option maxHeartbeats 4000000 in
theorem law_c8 {ω : WD} {ρ : FR} {M : Mem} {b L i : Nat} {xs : Nat → Int32} (C : LwC ω ρ b L xs) (hi : i + 5 ≤ L) (hI : INV M) (kk : ∀ M2, INV M2 → G ω ρ M2 1430 [(3, .int (nI i)), (2, .ref (adr ω 128)), (1, .ref (adr ω 0)), (0, .ref b)] []) : G ω ρ M 410 [(3, .int (nI i)), (2, .ref (adr ω 128)), (1, .ref (adr ω 0)), (0, .ref b)] [] := by
  refine G_aload_n C.1 dL_law_410 2 rfl ?_
  refine G_aload_n C.1 dL_law_411 3 rfl ?_
  refine G_iload_n C.1 dL_law_412 0 rfl ?_
  refine G_iconst (v := 1) C.1 dL_law_413 (by decide) ?_
  refine G_iadd C.1 dL_law_414 ?_
  refine G_sld C (k := i + 1) (show nI i + 1 = nI (i + 1) from nI_add i 1) (by omega) dL_law_415 ?_
  refine G_aload_n C.1 dL_law_416 3 rfl ?_
  refine G_iload_n C.1 dL_law_417 0 rfl ?_
  refine G_iconst (v := 2) C.1 dL_law_418 (by decide) ?_
  refine G_iadd C.1 dL_law_419 ?_
  refine G_sld C (k := i + 2) (show nI i + 2 = nI (i + 2) from nI_add i 2) (by omega) dL_law_420 ?_
  refine G_callI (As := [.int (xs (i + 1)), .int (xs (i + 2))]) (rest := []) C.1 dL_law_421 lk_L_48 (Nat.le_of_ble_eq_true rfl) (Nat.le_of_ble_eq_true rfl) q0 (by decide) rfl (Nat.le_of_ble_eq_true rfl) rfl (S_X9_act (op_act hI)) (fun r M1 h => ?_)
  refine G_aload_n C.1 dL_law_424 1 rfl ?_
  refine G_aload_n C.1 dL_law_425 3 rfl ?_
  refine G_iload_n C.1 dL_law_426 0 rfl ?_
  refine G_iconst (v := 1) C.1 dL_law_427 (by decide) ?_
  refine G_iadd C.1 dL_law_428 ?_
  refine G_sld C (k := i + 1) (show nI i + 1 = nI (i + 1) from nI_add i 1) (by omega) dL_law_429 ?_
  refine G_aload_n C.1 dL_law_430 3 rfl ?_
  refine G_iload_n C.1 dL_law_431 0 rfl ?_
  refine G_iconst (v := 2) C.1 dL_law_432 (by decide) ?_
  refine G_iadd C.1 dL_law_433 ?_
  refine G_sld C (k := i + 2) (show nI i + 2 = nI (i + 2) from nI_add i 2) (by omega) dL_law_434 ?_
  refine G_callI (As := [.int (xs (i + 1)), .int (xs (i + 2))]) (rest := [.int r]) C.1 dL_law_435 lk_L_51 (Nat.le_of_ble_eq_true rfl) (Nat.le_of_ble_eq_true rfl) q128 (by decide) rfl (Nat.le_of_ble_eq_true rfl) rfl (S_X10_act h) (fun r' M2 h2 => ?_)
  exact G_icmp_eq (tgt := 1430) C.1 dL_law_438 (by decide) (fun _ => kk M2 h2.2) (fun c => absurd h2.1 c)
set_option maxRecDepth 100000 in
set_option maxHeartbeats 4000000 in
theorem law_c9 {ω : WD} {ρ : FR} {M : Mem} {b L i : Nat} {xs : Nat → Int32} (C : LwC ω ρ b L xs) (hi : i + 5 ≤ L) (hI : INV M) (kk : ∀ M2, INV M2 → G ω ρ M2 1430 [(3, .int (nI i)), (2, .ref (adr ω 128)), (1, .ref (adr ω 0)), (0, .ref b)] []) : G ω ρ M 443 [(3, .int (nI i)), (2, .ref (adr ω 128)), (1, .ref (adr ω 0)), (0, .ref b)] [] := by
  refine G_aload_n C.1 dL_law_443 2 rfl ?_
  refine G_aload_n C.1 dL_law_444 3 rfl ?_
  refine G_iload_n C.1 dL_law_445 0 rfl ?_
  refine G_iconst (v := 1) C.1 dL_law_446 (by decide) ?_
  refine G_iadd C.1 dL_law_447 ?_
  refine G_sld C (k := i + 1) (show nI i + 1 = nI (i + 1) from nI_add i 1) (by omega) dL_law_448 ?_
  refine G_aload_n C.1 dL_law_449 3 rfl ?_
  refine G_iload_n C.1 dL_law_450 0 rfl ?_
  refine G_iconst (v := 2) C.1 dL_law_451 (by decide) ?_
  refine G_iadd C.1 dL_law_452 ?_
  refine G_sld C (k := i + 2) (show nI i + 2 = nI (i + 2) from nI_add i 2) (by omega) dL_law_453 ?_
  refine G_callI (As := [.int (xs (i + 1)), .int (xs (i + 2))]) (rest := []) C.1 dL_law_454 lk_L_52 (Nat.le_of_ble_eq_true rfl) (Nat.le_of_ble_eq_true rfl) q0 (by decide) rfl (Nat.le_of_ble_eq_true rfl) rfl (S_X9_number (op_number hI)) (fun r M1 h => ?_)
  refine G_aload_n C.1 dL_law_457 1 rfl ?_
  refine G_aload_n C.1 dL_law_458 3 rfl ?_
  refine G_iload_n C.1 dL_law_459 0 rfl ?_
  refine G_iconst (v := 1) C.1 dL_law_460 (by decide) ?_
  refine G_iadd C.1 dL_law_461 ?_
  refine G_sld C (k := i + 1) (show nI i + 1 = nI (i + 1) from nI_add i 1) (by omega) dL_law_462 ?_
  refine G_aload_n C.1 dL_law_463 3 rfl ?_
  refine G_iload_n C.1 dL_law_464 0 rfl ?_
  refine G_iconst (v := 2) C.1 dL_law_465 (by decide) ?_
  refine G_iadd C.1 dL_law_466 ?_
  refine G_sld C (k := i + 2) (show nI i + 2 = nI (i + 2) from nI_add i 2) (by omega) dL_law_467 ?_
  refine G_callI (As := [.int (xs (i + 1)), .int (xs (i + 2))]) (rest := [.int r]) C.1 dL_law_468 lk_L_55 (Nat.le_of_ble_eq_true rfl) (Nat.le_of_ble_eq_true rfl) q128 (by decide) rfl (Nat.le_of_ble_eq_true rfl) rfl (S_X10_number h) (fun r' M2 h2 => ?_)
  exact G_icmp_eq (tgt := 1430) C.1 dL_law_471 (by decide) (fun _ => kk M2 h2.2) (fun c => absurd h2.1 c)
set_option maxRecDepth 100000 in
set_option maxHeartbeats 4000000 in
theorem law_c10 {ω : WD} {ρ : FR} {M : Mem} {b L i : Nat} {xs : Nat → Int32} (C : LwC ω ρ b L xs) (hi : i + 5 ≤ L) (hI : INV M) (kk : ∀ M2, INV M2 → G ω ρ M2 1430 [(3, .int (nI i)), (2, .ref (adr ω 128)), (1, .ref (adr ω 0)), (0, .ref b)] []) : G ω ρ M 476 [(3, .int (nI i)), (2, .ref (adr ω 128)), (1, .ref (adr ω 0)), (0, .ref b)] [] := by
  refine G_aload_n C.1 dL_law_476 2 rfl ?_
  refine G_aload_n C.1 dL_law_477 3 rfl ?_
  refine G_iload_n C.1 dL_law_478 0 rfl ?_
  refine G_iconst (v := 1) C.1 dL_law_479 (by decide) ?_
  refine G_iadd C.1 dL_law_480 ?_
  refine G_sld C (k := i + 1) (show nI i + 1 = nI (i + 1) from nI_add i 1) (by omega) dL_law_481 ?_
  refine G_callI (As := [.int (xs (i + 1))]) (rest := []) C.1 dL_law_482 lk_L_56 (Nat.le_of_ble_eq_true rfl) (Nat.le_of_ble_eq_true rfl) q0 (by decide) rfl (Nat.le_of_ble_eq_true rfl) rfl (S_X9_finders (op_finders hI)) (fun r M1 h => ?_)
  refine G_aload_n C.1 dL_law_485 1 rfl ?_
  refine G_aload_n C.1 dL_law_486 3 rfl ?_
  refine G_iload_n C.1 dL_law_487 0 rfl ?_
  refine G_iconst (v := 1) C.1 dL_law_488 (by decide) ?_
  refine G_iadd C.1 dL_law_489 ?_
  refine G_sld C (k := i + 1) (show nI i + 1 = nI (i + 1) from nI_add i 1) (by omega) dL_law_490 ?_
  refine G_callI (As := [.int (xs (i + 1))]) (rest := [.int r]) C.1 dL_law_491 lk_L_59 (Nat.le_of_ble_eq_true rfl) (Nat.le_of_ble_eq_true rfl) q128 (by decide) rfl (Nat.le_of_ble_eq_true rfl) rfl (S_X10_finders h) (fun r' M2 h2 => ?_)
  exact G_icmp_eq (tgt := 1430) C.1 dL_law_494 (by decide) (fun _ => kk M2 h2.2) (fun c => absurd h2.1 c)
set_option maxRecDepth 100000 in
set_option maxHeartbeats 4000000 in
theorem law_c11 {ω : WD} {ρ : FR} {M : Mem} {b L i : Nat} {xs : Nat → Int32} (C : LwC ω ρ b L xs) (hi : i + 5 ≤ L) (hI : INV M) (kk : ∀ M2, INV M2 → G ω ρ M2 1430 [(3, .int (nI i)), (2, .ref (adr ω 128)), (1, .ref (adr ω 0)), (0, .ref b)] []) : G ω ρ M 499 [(3, .int (nI i)), (2, .ref (adr ω 128)), (1, .ref (adr ω 0)), (0, .ref b)] [] := by
  refine G_aload_n C.1 dL_law_499 2 rfl ?_
  refine G_aload_n C.1 dL_law_500 3 rfl ?_
  refine G_iload_n C.1 dL_law_501 0 rfl ?_
  refine G_iconst (v := 1) C.1 dL_law_502 (by decide) ?_
  refine G_iadd C.1 dL_law_503 ?_
  refine G_sld C (k := i + 1) (show nI i + 1 = nI (i + 1) from nI_add i 1) (by omega) dL_law_504 ?_
  refine G_aload_n C.1 dL_law_505 3 rfl ?_
  refine G_iload_n C.1 dL_law_506 0 rfl ?_
  refine G_iconst (v := 2) C.1 dL_law_507 (by decide) ?_
  refine G_iadd C.1 dL_law_508 ?_
  refine G_sld C (k := i + 2) (show nI i + 2 = nI (i + 2) from nI_add i 2) (by omega) dL_law_509 ?_
  refine G_callI (As := [.int (xs (i + 1)), .int (xs (i + 2))]) (rest := []) C.1 dL_law_510 lk_L_60 (Nat.le_of_ble_eq_true rfl) (Nat.le_of_ble_eq_true rfl) q0 (by decide) rfl (Nat.le_of_ble_eq_true rfl) rfl (S_X9_hunt (op_hunt hI)) (fun r M1 h => ?_)
  refine G_aload_n C.1 dL_law_513 1 rfl ?_
  refine G_aload_n C.1 dL_law_514 3 rfl ?_
  refine G_iload_n C.1 dL_law_515 0 rfl ?_
  refine G_iconst (v := 1) C.1 dL_law_516 (by decide) ?_
  refine G_iadd C.1 dL_law_517 ?_
  refine G_sld C (k := i + 1) (show nI i + 1 = nI (i + 1) from nI_add i 1) (by omega) dL_law_518 ?_
  refine G_aload_n C.1 dL_law_519 3 rfl ?_
  refine G_iload_n C.1 dL_law_520 0 rfl ?_
  refine G_iconst (v := 2) C.1 dL_law_521 (by decide) ?_
  refine G_iadd C.1 dL_law_522 ?_
  refine G_sld C (k := i + 2) (show nI i + 2 = nI (i + 2) from nI_add i 2) (by omega) dL_law_523 ?_
  refine G_callI (As := [.int (xs (i + 1)), .int (xs (i + 2))]) (rest := [.int r]) C.1 dL_law_524 lk_L_63 (Nat.le_of_ble_eq_true rfl) (Nat.le_of_ble_eq_true rfl) q128 (by decide) rfl (Nat.le_of_ble_eq_true rfl) rfl (S_X10_hunt h) (fun r' M2 h2 => ?_)
  exact G_icmp_eq (tgt := 1430) C.1 dL_law_527 (by decide) (fun _ => kk M2 h2.2) (fun c => absurd h2.1 c)
set_option maxRecDepth 100000 in
set_option maxHeartbeats 4000000 in
theorem law_c12 {ω : WD} {ρ : FR} {M : Mem} {b L i : Nat} {xs : Nat → Int32} (C : LwC ω ρ b L xs) (hi : i + 5 ≤ L) (hI : INV M) (kk : ∀ M2, INV M2 → G ω ρ M2 1430 [(3, .int (nI i)), (2, .ref (adr ω 128)), (1, .ref (adr ω 0)), (0, .ref b)] []) : G ω ρ M 532 [(3, .int (nI i)), (2, .ref (adr ω 128)), (1, .ref (adr ω 0)), (0, .ref b)] [] := by
  refine G_aload_n C.1 dL_law_532 2 rfl ?_
  refine G_aload_n C.1 dL_law_533 3 rfl ?_
  refine G_iload_n C.1 dL_law_534 0 rfl ?_
  refine G_iconst (v := 1) C.1 dL_law_535 (by decide) ?_
  refine G_iadd C.1 dL_law_536 ?_
  refine G_sld C (k := i + 1) (show nI i + 1 = nI (i + 1) from nI_add i 1) (by omega) dL_law_537 ?_
  refine G_aload_n C.1 dL_law_538 3 rfl ?_
  refine G_iload_n C.1 dL_law_539 0 rfl ?_
  refine G_iconst (v := 2) C.1 dL_law_540 (by decide) ?_
  refine G_iadd C.1 dL_law_541 ?_
  refine G_sld C (k := i + 2) (show nI i + 2 = nI (i + 2) from nI_add i 2) (by omega) dL_law_542 ?_
  refine G_callI (As := [.int (xs (i + 1)), .int (xs (i + 2))]) (rest := []) C.1 dL_law_543 lk_L_64 (Nat.le_of_ble_eq_true rfl) (Nat.le_of_ble_eq_true rfl) q0 (by decide) rfl (Nat.le_of_ble_eq_true rfl) rfl (S_X9_ways (op_ways hI)) (fun r M1 h => ?_)
  refine G_aload_n C.1 dL_law_546 1 rfl ?_
  refine G_aload_n C.1 dL_law_547 3 rfl ?_
  refine G_iload_n C.1 dL_law_548 0 rfl ?_
  refine G_iconst (v := 1) C.1 dL_law_549 (by decide) ?_
  refine G_iadd C.1 dL_law_550 ?_
  refine G_sld C (k := i + 1) (show nI i + 1 = nI (i + 1) from nI_add i 1) (by omega) dL_law_551 ?_
  refine G_aload_n C.1 dL_law_552 3 rfl ?_
  refine G_iload_n C.1 dL_law_553 0 rfl ?_
  refine G_iconst (v := 2) C.1 dL_law_554 (by decide) ?_
  refine G_iadd C.1 dL_law_555 ?_
  refine G_sld C (k := i + 2) (show nI i + 2 = nI (i + 2) from nI_add i 2) (by omega) dL_law_556 ?_
  refine G_callI (As := [.int (xs (i + 1)), .int (xs (i + 2))]) (rest := [.int r]) C.1 dL_law_557 lk_L_67 (Nat.le_of_ble_eq_true rfl) (Nat.le_of_ble_eq_true rfl) q128 (by decide) rfl (Nat.le_of_ble_eq_true rfl) rfl (S_X10_ways h) (fun r' M2 h2 => ?_)
  exact G_icmp_eq (tgt := 1430) C.1 dL_law_560 (by decide) (fun _ => kk M2 h2.2) (fun c => absurd h2.1 c)
set_option maxRecDepth 100000 in
set_option maxHeartbeats 4000000 in
theorem law_c13 {ω : WD} {ρ : FR} {M : Mem} {b L i : Nat} {xs : Nat → Int32} (C : LwC ω ρ b L xs) (hi : i + 5 ≤ L) (hI : INV M) (kk : ∀ M2, INV M2 → G ω ρ M2 1430 [(3, .int (nI i)), (2, .ref (adr ω 128)), (1, .ref (adr ω 0)), (0, .ref b)] []) : G ω ρ M 565 [(3, .int (nI i)), (2, .ref (adr ω 128)), (1, .ref (adr ω 0)), (0, .ref b)] [] := by
  refine G_aload_n C.1 dL_law_565 2 rfl ?_
  refine G_aload_n C.1 dL_law_566 3 rfl ?_
  refine G_iload_n C.1 dL_law_567 0 rfl ?_
  refine G_iconst (v := 1) C.1 dL_law_568 (by decide) ?_
  refine G_iadd C.1 dL_law_569 ?_
  refine G_sld C (k := i + 1) (show nI i + 1 = nI (i + 1) from nI_add i 1) (by omega) dL_law_570 ?_
  refine G_aload_n C.1 dL_law_571 3 rfl ?_
  refine G_iload_n C.1 dL_law_572 0 rfl ?_
  refine G_iconst (v := 2) C.1 dL_law_573 (by decide) ?_
  refine G_iadd C.1 dL_law_574 ?_
  refine G_sld C (k := i + 2) (show nI i + 2 = nI (i + 2) from nI_add i 2) (by omega) dL_law_575 ?_
  refine G_aload_n C.1 dL_law_576 3 rfl ?_
  refine G_iload_n C.1 dL_law_577 0 rfl ?_
  refine G_iconst (v := 3) C.1 dL_law_578 (by decide) ?_
  refine G_iadd C.1 dL_law_579 ?_
  refine G_sld C (k := i + 3) (show nI i + 3 = nI (i + 3) from nI_add i 3) (by omega) dL_law_580 ?_
  refine G_if_eq (tgt := 588) C.1 dL_law_581 (by decide) (fun c => ?_) (fun c => ?_)
  · refine G_iconst (v := 0) C.1 dL_law_588 (by decide) ?_
    refine G_callI (As := [.int (xs (i + 1)), .int (xs (i + 2)), .int 0]) (rest := []) C.1 dL_law_589 lk_L_68 (Nat.le_of_ble_eq_true rfl) (Nat.le_of_ble_eq_true rfl) q0 (by decide) rfl (Nat.le_of_ble_eq_true rfl) rfl (S_X9_dead (op_dead hI)) (fun r M1 h => ?_)
    refine G_aload_n C.1 dL_law_592 1 rfl ?_
    refine G_aload_n C.1 dL_law_593 3 rfl ?_
    refine G_iload_n C.1 dL_law_594 0 rfl ?_
    refine G_iconst (v := 1) C.1 dL_law_595 (by decide) ?_
    refine G_iadd C.1 dL_law_596 ?_
    refine G_sld C (k := i + 1) (show nI i + 1 = nI (i + 1) from nI_add i 1) (by omega) dL_law_597 ?_
    refine G_aload_n C.1 dL_law_598 3 rfl ?_
    refine G_iload_n C.1 dL_law_599 0 rfl ?_
    refine G_iconst (v := 2) C.1 dL_law_600 (by decide) ?_
    refine G_iadd C.1 dL_law_601 ?_
    refine G_sld C (k := i + 2) (show nI i + 2 = nI (i + 2) from nI_add i 2) (by omega) dL_law_602 ?_
    refine G_aload_n C.1 dL_law_603 3 rfl ?_
    refine G_iload_n C.1 dL_law_604 0 rfl ?_
    refine G_iconst (v := 3) C.1 dL_law_605 (by decide) ?_
    refine G_iadd C.1 dL_law_606 ?_
    refine G_sld C (k := i + 3) (show nI i + 3 = nI (i + 3) from nI_add i 3) (by omega) dL_law_607 ?_
    refine G_if_eq (tgt := 615) C.1 dL_law_608 (by decide) (fun _ => ?_) (fun c2 => absurd c c2)
    refine G_iconst (v := 0) C.1 dL_law_615 (by decide) ?_
    refine G_callI (As := [.int (xs (i + 1)), .int (xs (i + 2)), .int 0]) (rest := [.int r]) C.1 dL_law_616 lk_L_72 (Nat.le_of_ble_eq_true rfl) (Nat.le_of_ble_eq_true rfl) q128 (by decide) rfl (Nat.le_of_ble_eq_true rfl) rfl (S_X10_dead h) (fun r' M2 h2 => ?_)
    exact G_icmp_eq (tgt := 1430) C.1 dL_law_619 (by decide) (fun _ => kk M2 h2.2) (fun c => absurd h2.1 c)
  · refine G_iconst (v := 1) C.1 dL_law_584 (by decide) ?_
    refine G_goto (tgt := 589) C.1 dL_law_585 (by decide) ?_
    refine G_callI (As := [.int (xs (i + 1)), .int (xs (i + 2)), .int 1]) (rest := []) C.1 dL_law_589 lk_L_68 (Nat.le_of_ble_eq_true rfl) (Nat.le_of_ble_eq_true rfl) q0 (by decide) rfl (Nat.le_of_ble_eq_true rfl) rfl (S_X9_dead (op_dead hI)) (fun r M1 h => ?_)
    refine G_aload_n C.1 dL_law_592 1 rfl ?_
    refine G_aload_n C.1 dL_law_593 3 rfl ?_
    refine G_iload_n C.1 dL_law_594 0 rfl ?_
    refine G_iconst (v := 1) C.1 dL_law_595 (by decide) ?_
    refine G_iadd C.1 dL_law_596 ?_
    refine G_sld C (k := i + 1) (show nI i + 1 = nI (i + 1) from nI_add i 1) (by omega) dL_law_597 ?_
    refine G_aload_n C.1 dL_law_598 3 rfl ?_
    refine G_iload_n C.1 dL_law_599 0 rfl ?_
    refine G_iconst (v := 2) C.1 dL_law_600 (by decide) ?_
    refine G_iadd C.1 dL_law_601 ?_
    refine G_sld C (k := i + 2) (show nI i + 2 = nI (i + 2) from nI_add i 2) (by omega) dL_law_602 ?_
    refine G_aload_n C.1 dL_law_603 3 rfl ?_
    refine G_iload_n C.1 dL_law_604 0 rfl ?_
    refine G_iconst (v := 3) C.1 dL_law_605 (by decide) ?_
    refine G_iadd C.1 dL_law_606 ?_
    refine G_sld C (k := i + 3) (show nI i + 3 = nI (i + 3) from nI_add i 3) (by omega) dL_law_607 ?_
    refine G_if_eq (tgt := 615) C.1 dL_law_608 (by decide) (fun c2 => absurd c2 c) (fun _ => ?_)
    refine G_iconst (v := 1) C.1 dL_law_611 (by decide) ?_
    refine G_goto (tgt := 616) C.1 dL_law_612 (by decide) ?_
    refine G_callI (As := [.int (xs (i + 1)), .int (xs (i + 2)), .int 1]) (rest := [.int r]) C.1 dL_law_616 lk_L_72 (Nat.le_of_ble_eq_true rfl) (Nat.le_of_ble_eq_true rfl) q128 (by decide) rfl (Nat.le_of_ble_eq_true rfl) rfl (S_X10_dead h) (fun r' M2 h2 => ?_)
    exact G_icmp_eq (tgt := 1430) C.1 dL_law_619 (by decide) (fun _ => kk M2 h2.2) (fun c => absurd h2.1 c)
set_option maxRecDepth 100000 in
set_option maxHeartbeats 4000000 in
theorem law_c14 {ω : WD} {ρ : FR} {M : Mem} {b L i : Nat} {xs : Nat → Int32} (C : LwC ω ρ b L xs) (hi : i + 5 ≤ L) (hI : INV M) (kk : ∀ M2, INV M2 → G ω ρ M2 1430 [(3, .int (nI i)), (2, .ref (adr ω 128)), (1, .ref (adr ω 0)), (0, .ref b)] []) : G ω ρ M 624 [(3, .int (nI i)), (2, .ref (adr ω 128)), (1, .ref (adr ω 0)), (0, .ref b)] [] := by
  refine G_aload_n C.1 dL_law_624 2 rfl ?_
  refine G_aload_n C.1 dL_law_625 3 rfl ?_
  refine G_iload_n C.1 dL_law_626 0 rfl ?_
  refine G_iconst (v := 1) C.1 dL_law_627 (by decide) ?_
  refine G_iadd C.1 dL_law_628 ?_
  refine G_sld C (k := i + 1) (show nI i + 1 = nI (i + 1) from nI_add i 1) (by omega) dL_law_629 ?_
  refine G_aload_n C.1 dL_law_630 3 rfl ?_
  refine G_iload_n C.1 dL_law_631 0 rfl ?_
  refine G_iconst (v := 2) C.1 dL_law_632 (by decide) ?_
  refine G_iadd C.1 dL_law_633 ?_
  refine G_sld C (k := i + 2) (show nI i + 2 = nI (i + 2) from nI_add i 2) (by omega) dL_law_634 ?_
  refine G_callI (As := [.int (xs (i + 1)), .int (xs (i + 2))]) (rest := []) C.1 dL_law_635 lk_L_73 (Nat.le_of_ble_eq_true rfl) (Nat.le_of_ble_eq_true rfl) q0 (by decide) rfl (Nat.le_of_ble_eq_true rfl) rfl (S_X9_plan (op_plan hI)) (fun r M1 h => ?_)
  refine G_aload_n C.1 dL_law_638 1 rfl ?_
  refine G_aload_n C.1 dL_law_639 3 rfl ?_
  refine G_iload_n C.1 dL_law_640 0 rfl ?_
  refine G_iconst (v := 1) C.1 dL_law_641 (by decide) ?_
  refine G_iadd C.1 dL_law_642 ?_
  refine G_sld C (k := i + 1) (show nI i + 1 = nI (i + 1) from nI_add i 1) (by omega) dL_law_643 ?_
  refine G_aload_n C.1 dL_law_644 3 rfl ?_
  refine G_iload_n C.1 dL_law_645 0 rfl ?_
  refine G_iconst (v := 2) C.1 dL_law_646 (by decide) ?_
  refine G_iadd C.1 dL_law_647 ?_
  refine G_sld C (k := i + 2) (show nI i + 2 = nI (i + 2) from nI_add i 2) (by omega) dL_law_648 ?_
  refine G_callI (As := [.int (xs (i + 1)), .int (xs (i + 2))]) (rest := [.int r]) C.1 dL_law_649 lk_L_76 (Nat.le_of_ble_eq_true rfl) (Nat.le_of_ble_eq_true rfl) q128 (by decide) rfl (Nat.le_of_ble_eq_true rfl) rfl (S_X10_plan h) (fun r' M2 h2 => ?_)
  exact G_icmp_eq (tgt := 1430) C.1 dL_law_652 (by decide) (fun _ => kk M2 h2.2) (fun c => absurd h2.1 c)
set_option maxRecDepth 100000 in
set_option maxHeartbeats 4000000 in
theorem law_c15 {ω : WD} {ρ : FR} {M : Mem} {b L i : Nat} {xs : Nat → Int32} (C : LwC ω ρ b L xs) (hi : i + 5 ≤ L) (hI : INV M) (kk : ∀ M2, INV M2 → G ω ρ M2 1430 [(3, .int (nI i)), (2, .ref (adr ω 128)), (1, .ref (adr ω 0)), (0, .ref b)] []) : G ω ρ M 657 [(3, .int (nI i)), (2, .ref (adr ω 128)), (1, .ref (adr ω 0)), (0, .ref b)] [] := by
  refine G_aload_n C.1 dL_law_657 2 rfl ?_
  refine G_aload_n C.1 dL_law_658 3 rfl ?_
  refine G_iload_n C.1 dL_law_659 0 rfl ?_
  refine G_iconst (v := 1) C.1 dL_law_660 (by decide) ?_
  refine G_iadd C.1 dL_law_661 ?_
  refine G_sld C (k := i + 1) (show nI i + 1 = nI (i + 1) from nI_add i 1) (by omega) dL_law_662 ?_
  refine G_callI (As := [.int (xs (i + 1))]) (rest := []) C.1 dL_law_663 lk_L_77 (Nat.le_of_ble_eq_true rfl) (Nat.le_of_ble_eq_true rfl) q0 (by decide) rfl (Nat.le_of_ble_eq_true rfl) rfl (S_X9_cut (op_cut hI)) (fun r M1 h => ?_)
  refine G_aload_n C.1 dL_law_666 1 rfl ?_
  refine G_aload_n C.1 dL_law_667 3 rfl ?_
  refine G_iload_n C.1 dL_law_668 0 rfl ?_
  refine G_iconst (v := 1) C.1 dL_law_669 (by decide) ?_
  refine G_iadd C.1 dL_law_670 ?_
  refine G_sld C (k := i + 1) (show nI i + 1 = nI (i + 1) from nI_add i 1) (by omega) dL_law_671 ?_
  refine G_callI (As := [.int (xs (i + 1))]) (rest := [.int r]) C.1 dL_law_672 lk_L_80 (Nat.le_of_ble_eq_true rfl) (Nat.le_of_ble_eq_true rfl) q128 (by decide) rfl (Nat.le_of_ble_eq_true rfl) rfl (S_X10_cut h) (fun r' M2 h2 => ?_)
  exact G_icmp_eq (tgt := 1430) C.1 dL_law_675 (by decide) (fun _ => kk M2 h2.2) (fun c => absurd h2.1 c)
set_option maxRecDepth 100000 in
set_option maxHeartbeats 4000000 in
theorem law_c16 {ω : WD} {ρ : FR} {M : Mem} {b L i : Nat} {xs : Nat → Int32} (C : LwC ω ρ b L xs) (hi : i + 5 ≤ L) (hI : INV M) (kk : ∀ M2, INV M2 → G ω ρ M2 1430 [(3, .int (nI i)), (2, .ref (adr ω 128)), (1, .ref (adr ω 0)), (0, .ref b)] []) : G ω ρ M 680 [(3, .int (nI i)), (2, .ref (adr ω 128)), (1, .ref (adr ω 0)), (0, .ref b)] [] := by
  refine G_aload_n C.1 dL_law_680 2 rfl ?_
  refine G_aload_n C.1 dL_law_681 3 rfl ?_
  refine G_iload_n C.1 dL_law_682 0 rfl ?_
  refine G_iconst (v := 1) C.1 dL_law_683 (by decide) ?_
  refine G_iadd C.1 dL_law_684 ?_
  refine G_sld C (k := i + 1) (show nI i + 1 = nI (i + 1) from nI_add i 1) (by omega) dL_law_685 ?_
  refine G_aload_n C.1 dL_law_686 3 rfl ?_
  refine G_iload_n C.1 dL_law_687 0 rfl ?_
  refine G_iconst (v := 2) C.1 dL_law_688 (by decide) ?_
  refine G_iadd C.1 dL_law_689 ?_
  refine G_sld C (k := i + 2) (show nI i + 2 = nI (i + 2) from nI_add i 2) (by omega) dL_law_690 ?_
  refine G_callI (As := [.int (xs (i + 1)), .int (xs (i + 2))]) (rest := []) C.1 dL_law_691 lk_L_81 (Nat.le_of_ble_eq_true rfl) (Nat.le_of_ble_eq_true rfl) q0 (by decide) rfl (Nat.le_of_ble_eq_true rfl) rfl (S_X9_dial (op_dial hI)) (fun r M1 h => ?_)
  refine G_aload_n C.1 dL_law_694 1 rfl ?_
  refine G_aload_n C.1 dL_law_695 3 rfl ?_
  refine G_iload_n C.1 dL_law_696 0 rfl ?_
  refine G_iconst (v := 1) C.1 dL_law_697 (by decide) ?_
  refine G_iadd C.1 dL_law_698 ?_
  refine G_sld C (k := i + 1) (show nI i + 1 = nI (i + 1) from nI_add i 1) (by omega) dL_law_699 ?_
  refine G_aload_n C.1 dL_law_700 3 rfl ?_
  refine G_iload_n C.1 dL_law_701 0 rfl ?_
  refine G_iconst (v := 2) C.1 dL_law_702 (by decide) ?_
  refine G_iadd C.1 dL_law_703 ?_
  refine G_sld C (k := i + 2) (show nI i + 2 = nI (i + 2) from nI_add i 2) (by omega) dL_law_704 ?_
  refine G_callI (As := [.int (xs (i + 1)), .int (xs (i + 2))]) (rest := [.int r]) C.1 dL_law_705 lk_L_84 (Nat.le_of_ble_eq_true rfl) (Nat.le_of_ble_eq_true rfl) q128 (by decide) rfl (Nat.le_of_ble_eq_true rfl) rfl (S_X10_dial h) (fun r' M2 h2 => ?_)
  exact G_icmp_eq (tgt := 1430) C.1 dL_law_708 (by decide) (fun _ => kk M2 h2.2) (fun c => absurd h2.1 c)
set_option maxRecDepth 100000 in
set_option maxHeartbeats 4000000 in
theorem law_c17 {ω : WD} {ρ : FR} {M : Mem} {b L i : Nat} {xs : Nat → Int32} (C : LwC ω ρ b L xs) (hi : i + 5 ≤ L) (hI : INV M) (kk : ∀ M2, INV M2 → G ω ρ M2 1430 [(3, .int (nI i)), (2, .ref (adr ω 128)), (1, .ref (adr ω 0)), (0, .ref b)] []) : G ω ρ M 713 [(3, .int (nI i)), (2, .ref (adr ω 128)), (1, .ref (adr ω 0)), (0, .ref b)] [] := by
  refine G_aload_n C.1 dL_law_713 2 rfl ?_
  refine G_aload_n C.1 dL_law_714 3 rfl ?_
  refine G_iload_n C.1 dL_law_715 0 rfl ?_
  refine G_iconst (v := 1) C.1 dL_law_716 (by decide) ?_
  refine G_iadd C.1 dL_law_717 ?_
  refine G_sld C (k := i + 1) (show nI i + 1 = nI (i + 1) from nI_add i 1) (by omega) dL_law_718 ?_
  refine G_callI (As := [.int (xs (i + 1))]) (rest := []) C.1 dL_law_719 lk_L_85 (Nat.le_of_ble_eq_true rfl) (Nat.le_of_ble_eq_true rfl) q0 (by decide) rfl (Nat.le_of_ble_eq_true rfl) rfl (S_X9_hang (op_hang hI)) (fun r M1 h => ?_)
  refine G_aload_n C.1 dL_law_722 1 rfl ?_
  refine G_aload_n C.1 dL_law_723 3 rfl ?_
  refine G_iload_n C.1 dL_law_724 0 rfl ?_
  refine G_iconst (v := 1) C.1 dL_law_725 (by decide) ?_
  refine G_iadd C.1 dL_law_726 ?_
  refine G_sld C (k := i + 1) (show nI i + 1 = nI (i + 1) from nI_add i 1) (by omega) dL_law_727 ?_
  refine G_callI (As := [.int (xs (i + 1))]) (rest := [.int r]) C.1 dL_law_728 lk_L_88 (Nat.le_of_ble_eq_true rfl) (Nat.le_of_ble_eq_true rfl) q128 (by decide) rfl (Nat.le_of_ble_eq_true rfl) rfl (S_X10_hang h) (fun r' M2 h2 => ?_)
  exact G_icmp_eq (tgt := 1430) C.1 dL_law_731 (by decide) (fun _ => kk M2 h2.2) (fun c => absurd h2.1 c)
set_option maxRecDepth 100000 in
set_option maxHeartbeats 4000000 in
theorem law_c18 {ω : WD} {ρ : FR} {M : Mem} {b L i : Nat} {xs : Nat → Int32} (C : LwC ω ρ b L xs) (hi : i + 5 ≤ L) (hI : INV M) (kk : ∀ M2, INV M2 → G ω ρ M2 1430 [(3, .int (nI i)), (2, .ref (adr ω 128)), (1, .ref (adr ω 0)), (0, .ref b)] []) : G ω ρ M 736 [(3, .int (nI i)), (2, .ref (adr ω 128)), (1, .ref (adr ω 0)), (0, .ref b)] [] := by
  refine G_aload_n C.1 dL_law_736 2 rfl ?_
  refine G_aload_n C.1 dL_law_737 3 rfl ?_
  refine G_iload_n C.1 dL_law_738 0 rfl ?_
  refine G_iconst (v := 1) C.1 dL_law_739 (by decide) ?_
  refine G_iadd C.1 dL_law_740 ?_
  refine G_sld C (k := i + 1) (show nI i + 1 = nI (i + 1) from nI_add i 1) (by omega) dL_law_741 ?_
  refine G_callI (As := [.int (xs (i + 1))]) (rest := []) C.1 dL_law_742 lk_L_89 (Nat.le_of_ble_eq_true rfl) (Nat.le_of_ble_eq_true rfl) q0 (by decide) rfl (Nat.le_of_ble_eq_true rfl) rfl (S_X9_runs (op_runs hI)) (fun r M1 h => ?_)
  refine G_aload_n C.1 dL_law_745 1 rfl ?_
  refine G_aload_n C.1 dL_law_746 3 rfl ?_
  refine G_iload_n C.1 dL_law_747 0 rfl ?_
  refine G_iconst (v := 1) C.1 dL_law_748 (by decide) ?_
  refine G_iadd C.1 dL_law_749 ?_
  refine G_sld C (k := i + 1) (show nI i + 1 = nI (i + 1) from nI_add i 1) (by omega) dL_law_750 ?_
  refine G_callI (As := [.int (xs (i + 1))]) (rest := [.int r]) C.1 dL_law_751 lk_L_92 (Nat.le_of_ble_eq_true rfl) (Nat.le_of_ble_eq_true rfl) q128 (by decide) rfl (Nat.le_of_ble_eq_true rfl) rfl (S_X10_runs h) (fun r' M2 h2 => ?_)
  exact G_icmp_eq (tgt := 1430) C.1 dL_law_754 (by decide) (fun _ => kk M2 h2.2) (fun c => absurd h2.1 c)
set_option maxRecDepth 100000 in
set_option maxHeartbeats 4000000 in
theorem law_c19 {ω : WD} {ρ : FR} {M : Mem} {b L i : Nat} {xs : Nat → Int32} (C : LwC ω ρ b L xs) (hi : i + 5 ≤ L) (hI : INV M) (kk : ∀ M2, INV M2 → G ω ρ M2 1430 [(3, .int (nI i)), (2, .ref (adr ω 128)), (1, .ref (adr ω 0)), (0, .ref b)] []) : G ω ρ M 759 [(3, .int (nI i)), (2, .ref (adr ω 128)), (1, .ref (adr ω 0)), (0, .ref b)] [] := by
  refine G_aload_n C.1 dL_law_759 2 rfl ?_
  refine G_aload_n C.1 dL_law_760 3 rfl ?_
  refine G_iload_n C.1 dL_law_761 0 rfl ?_
  refine G_iconst (v := 1) C.1 dL_law_762 (by decide) ?_
  refine G_iadd C.1 dL_law_763 ?_
  refine G_sld C (k := i + 1) (show nI i + 1 = nI (i + 1) from nI_add i 1) (by omega) dL_law_764 ?_
  refine G_callI (As := [.int (xs (i + 1))]) (rest := []) C.1 dL_law_765 lk_L_93 (Nat.le_of_ble_eq_true rfl) (Nat.le_of_ble_eq_true rfl) q0 (by decide) rfl (Nat.le_of_ble_eq_true rfl) rfl (S_X9_fate (op_fate hI)) (fun r M1 h => ?_)
  refine G_aload_n C.1 dL_law_768 1 rfl ?_
  refine G_aload_n C.1 dL_law_769 3 rfl ?_
  refine G_iload_n C.1 dL_law_770 0 rfl ?_
  refine G_iconst (v := 1) C.1 dL_law_771 (by decide) ?_
  refine G_iadd C.1 dL_law_772 ?_
  refine G_sld C (k := i + 1) (show nI i + 1 = nI (i + 1) from nI_add i 1) (by omega) dL_law_773 ?_
  refine G_callI (As := [.int (xs (i + 1))]) (rest := [.int r]) C.1 dL_law_774 lk_L_96 (Nat.le_of_ble_eq_true rfl) (Nat.le_of_ble_eq_true rfl) q128 (by decide) rfl (Nat.le_of_ble_eq_true rfl) rfl (S_X10_fate h) (fun r' M2 h2 => ?_)
  exact G_icmp_eq (tgt := 1430) C.1 dL_law_777 (by decide) (fun _ => kk M2 h2.2) (fun c => absurd h2.1 c)
set_option maxRecDepth 100000 in
set_option maxHeartbeats 4000000 in
theorem law_c20 {ω : WD} {ρ : FR} {M : Mem} {b L i : Nat} {xs : Nat → Int32} (C : LwC ω ρ b L xs) (hi : i + 5 ≤ L) (hI : INV M) (kk : ∀ M2, INV M2 → G ω ρ M2 1430 [(3, .int (nI i)), (2, .ref (adr ω 128)), (1, .ref (adr ω 0)), (0, .ref b)] []) : G ω ρ M 782 [(3, .int (nI i)), (2, .ref (adr ω 128)), (1, .ref (adr ω 0)), (0, .ref b)] [] := by
  refine G_aload_n C.1 dL_law_782 2 rfl ?_
  refine G_aload_n C.1 dL_law_783 3 rfl ?_
  refine G_iload_n C.1 dL_law_784 0 rfl ?_
  refine G_iconst (v := 1) C.1 dL_law_785 (by decide) ?_
  refine G_iadd C.1 dL_law_786 ?_
  refine G_sld C (k := i + 1) (show nI i + 1 = nI (i + 1) from nI_add i 1) (by omega) dL_law_787 ?_
  refine G_callI (As := [.int (xs (i + 1))]) (rest := []) C.1 dL_law_788 lk_L_97 (Nat.le_of_ble_eq_true rfl) (Nat.le_of_ble_eq_true rfl) q0 (by decide) rfl (Nat.le_of_ble_eq_true rfl) rfl (S_X9_ahead (op_ahead hI)) (fun r M1 h => ?_)
  refine G_aload_n C.1 dL_law_791 1 rfl ?_
  refine G_aload_n C.1 dL_law_792 3 rfl ?_
  refine G_iload_n C.1 dL_law_793 0 rfl ?_
  refine G_iconst (v := 1) C.1 dL_law_794 (by decide) ?_
  refine G_iadd C.1 dL_law_795 ?_
  refine G_sld C (k := i + 1) (show nI i + 1 = nI (i + 1) from nI_add i 1) (by omega) dL_law_796 ?_
  refine G_callI (As := [.int (xs (i + 1))]) (rest := [.int r]) C.1 dL_law_797 lk_L_100 (Nat.le_of_ble_eq_true rfl) (Nat.le_of_ble_eq_true rfl) q128 (by decide) rfl (Nat.le_of_ble_eq_true rfl) rfl (S_X10_ahead h) (fun r' M2 h2 => ?_)
  exact G_icmp_eq (tgt := 1430) C.1 dL_law_800 (by decide) (fun _ => kk M2 h2.2) (fun c => absurd h2.1 c)
set_option maxRecDepth 100000 in
set_option maxHeartbeats 4000000 in
theorem law_c21 {ω : WD} {ρ : FR} {M : Mem} {b L i : Nat} {xs : Nat → Int32} (C : LwC ω ρ b L xs) (hi : i + 5 ≤ L) (hI : INV M) (kk : ∀ M2, INV M2 → G ω ρ M2 1430 [(3, .int (nI i)), (2, .ref (adr ω 128)), (1, .ref (adr ω 0)), (0, .ref b)] []) : G ω ρ M 805 [(3, .int (nI i)), (2, .ref (adr ω 128)), (1, .ref (adr ω 0)), (0, .ref b)] [] := by
  refine G_aload_n C.1 dL_law_805 2 rfl ?_
  refine G_aload_n C.1 dL_law_806 3 rfl ?_
  refine G_iload_n C.1 dL_law_807 0 rfl ?_
  refine G_iconst (v := 1) C.1 dL_law_808 (by decide) ?_
  refine G_iadd C.1 dL_law_809 ?_
  refine G_sld C (k := i + 1) (show nI i + 1 = nI (i + 1) from nI_add i 1) (by omega) dL_law_810 ?_
  refine G_callI (As := [.int (xs (i + 1))]) (rest := []) C.1 dL_law_811 lk_L_101 (Nat.le_of_ble_eq_true rfl) (Nat.le_of_ble_eq_true rfl) q0 (by decide) rfl (Nat.le_of_ble_eq_true rfl) rfl (S_X9_need (op_need hI)) (fun r M1 h => ?_)
  refine G_aload_n C.1 dL_law_814 1 rfl ?_
  refine G_aload_n C.1 dL_law_815 3 rfl ?_
  refine G_iload_n C.1 dL_law_816 0 rfl ?_
  refine G_iconst (v := 1) C.1 dL_law_817 (by decide) ?_
  refine G_iadd C.1 dL_law_818 ?_
  refine G_sld C (k := i + 1) (show nI i + 1 = nI (i + 1) from nI_add i 1) (by omega) dL_law_819 ?_
  refine G_callI (As := [.int (xs (i + 1))]) (rest := [.int r]) C.1 dL_law_820 lk_L_104 (Nat.le_of_ble_eq_true rfl) (Nat.le_of_ble_eq_true rfl) q128 (by decide) rfl (Nat.le_of_ble_eq_true rfl) rfl (S_X10_need h) (fun r' M2 h2 => ?_)
  exact G_icmp_eq (tgt := 1430) C.1 dL_law_823 (by decide) (fun _ => kk M2 h2.2) (fun c => absurd h2.1 c)
set_option maxRecDepth 100000 in
set_option maxHeartbeats 4000000 in
theorem law_c22 {ω : WD} {ρ : FR} {M : Mem} {b L i : Nat} {xs : Nat → Int32} (C : LwC ω ρ b L xs) (hi : i + 5 ≤ L) (hI : INV M) (kk : ∀ M2, INV M2 → G ω ρ M2 1430 [(3, .int (nI i)), (2, .ref (adr ω 128)), (1, .ref (adr ω 0)), (0, .ref b)] []) : G ω ρ M 828 [(3, .int (nI i)), (2, .ref (adr ω 128)), (1, .ref (adr ω 0)), (0, .ref b)] [] := by
  refine G_aload_n C.1 dL_law_828 2 rfl ?_
  refine G_callI (As := []) (rest := []) C.1 dL_law_829 lk_L_105 (Nat.le_of_ble_eq_true rfl) (Nat.le_of_ble_eq_true rfl) q0 (by decide) rfl (Nat.le_of_ble_eq_true rfl) rfl (S_X9_few (op_few hI)) (fun r M1 h => ?_)
  refine G_aload_n C.1 dL_law_832 1 rfl ?_
  refine G_callI (As := []) (rest := [.int r]) C.1 dL_law_833 lk_L_108 (Nat.le_of_ble_eq_true rfl) (Nat.le_of_ble_eq_true rfl) q128 (by decide) rfl (Nat.le_of_ble_eq_true rfl) rfl (S_X10_few h) (fun r' M2 h2 => ?_)
  exact G_icmp_eq (tgt := 1430) C.1 dL_law_836 (by decide) (fun _ => kk M2 h2.2) (fun c => absurd h2.1 c)
set_option maxRecDepth 100000 in
set_option maxHeartbeats 4000000 in
theorem law_c23 {ω : WD} {ρ : FR} {M : Mem} {b L i : Nat} {xs : Nat → Int32} (C : LwC ω ρ b L xs) (hi : i + 5 ≤ L) (hI : INV M) (kk : ∀ M2, INV M2 → G ω ρ M2 1430 [(3, .int (nI i)), (2, .ref (adr ω 128)), (1, .ref (adr ω 0)), (0, .ref b)] []) : G ω ρ M 841 [(3, .int (nI i)), (2, .ref (adr ω 128)), (1, .ref (adr ω 0)), (0, .ref b)] [] := by
  refine G_aload_n C.1 dL_law_841 2 rfl ?_
  refine G_aload_n C.1 dL_law_842 3 rfl ?_
  refine G_iload_n C.1 dL_law_843 0 rfl ?_
  refine G_iconst (v := 1) C.1 dL_law_844 (by decide) ?_
  refine G_iadd C.1 dL_law_845 ?_
  refine G_sld C (k := i + 1) (show nI i + 1 = nI (i + 1) from nI_add i 1) (by omega) dL_law_846 ?_
  refine G_aload_n C.1 dL_law_847 3 rfl ?_
  refine G_iload_n C.1 dL_law_848 0 rfl ?_
  refine G_iconst (v := 2) C.1 dL_law_849 (by decide) ?_
  refine G_iadd C.1 dL_law_850 ?_
  refine G_sld C (k := i + 2) (show nI i + 2 = nI (i + 2) from nI_add i 2) (by omega) dL_law_851 ?_
  refine G_callI (As := [.int (xs (i + 1)), .int (xs (i + 2))]) (rest := []) C.1 dL_law_852 lk_L_109 (Nat.le_of_ble_eq_true rfl) (Nat.le_of_ble_eq_true rfl) q0 (by decide) rfl (Nat.le_of_ble_eq_true rfl) rfl (S_X9_grade (op_grade hI)) (fun r M1 h => ?_)
  refine G_aload_n C.1 dL_law_855 1 rfl ?_
  refine G_aload_n C.1 dL_law_856 3 rfl ?_
  refine G_iload_n C.1 dL_law_857 0 rfl ?_
  refine G_iconst (v := 1) C.1 dL_law_858 (by decide) ?_
  refine G_iadd C.1 dL_law_859 ?_
  refine G_sld C (k := i + 1) (show nI i + 1 = nI (i + 1) from nI_add i 1) (by omega) dL_law_860 ?_
  refine G_aload_n C.1 dL_law_861 3 rfl ?_
  refine G_iload_n C.1 dL_law_862 0 rfl ?_
  refine G_iconst (v := 2) C.1 dL_law_863 (by decide) ?_
  refine G_iadd C.1 dL_law_864 ?_
  refine G_sld C (k := i + 2) (show nI i + 2 = nI (i + 2) from nI_add i 2) (by omega) dL_law_865 ?_
  refine G_callI (As := [.int (xs (i + 1)), .int (xs (i + 2))]) (rest := [.int r]) C.1 dL_law_866 lk_L_112 (Nat.le_of_ble_eq_true rfl) (Nat.le_of_ble_eq_true rfl) q128 (by decide) rfl (Nat.le_of_ble_eq_true rfl) rfl (S_X10_grade h) (fun r' M2 h2 => ?_)
  exact G_icmp_eq (tgt := 1430) C.1 dL_law_869 (by decide) (fun _ => kk M2 h2.2) (fun c => absurd h2.1 c)
set_option maxRecDepth 100000 in
set_option maxHeartbeats 4000000 in
theorem law_c24 {ω : WD} {ρ : FR} {M : Mem} {b L i : Nat} {xs : Nat → Int32} (C : LwC ω ρ b L xs) (hi : i + 5 ≤ L) (hI : INV M) (kk : ∀ M2, INV M2 → G ω ρ M2 1430 [(3, .int (nI i)), (2, .ref (adr ω 128)), (1, .ref (adr ω 0)), (0, .ref b)] []) : G ω ρ M 874 [(3, .int (nI i)), (2, .ref (adr ω 128)), (1, .ref (adr ω 0)), (0, .ref b)] [] := by
  refine G_aload_n C.1 dL_law_874 2 rfl ?_
  refine G_aload_n C.1 dL_law_875 3 rfl ?_
  refine G_iload_n C.1 dL_law_876 0 rfl ?_
  refine G_iconst (v := 1) C.1 dL_law_877 (by decide) ?_
  refine G_iadd C.1 dL_law_878 ?_
  refine G_sld C (k := i + 1) (show nI i + 1 = nI (i + 1) from nI_add i 1) (by omega) dL_law_879 ?_
  refine G_callI (As := [.int (xs (i + 1))]) (rest := []) C.1 dL_law_880 lk_L_113 (Nat.le_of_ble_eq_true rfl) (Nat.le_of_ble_eq_true rfl) q0 (by decide) rfl (Nat.le_of_ble_eq_true rfl) rfl (S_X9_swap (op_swap hI)) (fun r M1 h => ?_)
  refine G_aload_n C.1 dL_law_883 1 rfl ?_
  refine G_aload_n C.1 dL_law_884 3 rfl ?_
  refine G_iload_n C.1 dL_law_885 0 rfl ?_
  refine G_iconst (v := 1) C.1 dL_law_886 (by decide) ?_
  refine G_iadd C.1 dL_law_887 ?_
  refine G_sld C (k := i + 1) (show nI i + 1 = nI (i + 1) from nI_add i 1) (by omega) dL_law_888 ?_
  refine G_callI (As := [.int (xs (i + 1))]) (rest := [.int r]) C.1 dL_law_889 lk_L_116 (Nat.le_of_ble_eq_true rfl) (Nat.le_of_ble_eq_true rfl) q128 (by decide) rfl (Nat.le_of_ble_eq_true rfl) rfl (S_X10_swap h) (fun r' M2 h2 => ?_)
  exact G_icmp_eq (tgt := 1430) C.1 dL_law_892 (by decide) (fun _ => kk M2 h2.2) (fun c => absurd h2.1 c)
set_option maxRecDepth 100000 in
set_option maxHeartbeats 4000000 in
theorem law_c25 {ω : WD} {ρ : FR} {M : Mem} {b L i : Nat} {xs : Nat → Int32} (C : LwC ω ρ b L xs) (hi : i + 5 ≤ L) (hI : INV M) (kk : ∀ M2, INV M2 → G ω ρ M2 1430 [(3, .int (nI i)), (2, .ref (adr ω 128)), (1, .ref (adr ω 0)), (0, .ref b)] []) : G ω ρ M 897 [(3, .int (nI i)), (2, .ref (adr ω 128)), (1, .ref (adr ω 0)), (0, .ref b)] [] := by
  refine G_aload_n C.1 dL_law_897 2 rfl ?_
  refine G_aload_n C.1 dL_law_898 3 rfl ?_
  refine G_iload_n C.1 dL_law_899 0 rfl ?_
  refine G_iconst (v := 1) C.1 dL_law_900 (by decide) ?_
  refine G_iadd C.1 dL_law_901 ?_
  refine G_sld C (k := i + 1) (show nI i + 1 = nI (i + 1) from nI_add i 1) (by omega) dL_law_902 ?_
  refine G_callI (As := [.int (xs (i + 1))]) (rest := []) C.1 dL_law_903 lk_L_117 (Nat.le_of_ble_eq_true rfl) (Nat.le_of_ble_eq_true rfl) q0 (by decide) rfl (Nat.le_of_ble_eq_true rfl) rfl (S_X9_leave (op_leave hI)) (fun r M1 h => ?_)
  refine G_aload_n C.1 dL_law_906 1 rfl ?_
  refine G_aload_n C.1 dL_law_907 3 rfl ?_
  refine G_iload_n C.1 dL_law_908 0 rfl ?_
  refine G_iconst (v := 1) C.1 dL_law_909 (by decide) ?_
  refine G_iadd C.1 dL_law_910 ?_
  refine G_sld C (k := i + 1) (show nI i + 1 = nI (i + 1) from nI_add i 1) (by omega) dL_law_911 ?_
  refine G_callI (As := [.int (xs (i + 1))]) (rest := [.int r]) C.1 dL_law_912 lk_L_120 (Nat.le_of_ble_eq_true rfl) (Nat.le_of_ble_eq_true rfl) q128 (by decide) rfl (Nat.le_of_ble_eq_true rfl) rfl (S_X10_leave h) (fun r' M2 h2 => ?_)
  exact G_icmp_eq (tgt := 1430) C.1 dL_law_915 (by decide) (fun _ => kk M2 h2.2) (fun c => absurd h2.1 c)
set_option maxRecDepth 100000 in
set_option maxHeartbeats 4000000 in
theorem law_c26 {ω : WD} {ρ : FR} {M : Mem} {b L i : Nat} {xs : Nat → Int32} (C : LwC ω ρ b L xs) (hi : i + 5 ≤ L) (hI : INV M) (kk : ∀ M2, INV M2 → G ω ρ M2 1430 [(3, .int (nI i)), (2, .ref (adr ω 128)), (1, .ref (adr ω 0)), (0, .ref b)] []) : G ω ρ M 920 [(3, .int (nI i)), (2, .ref (adr ω 128)), (1, .ref (adr ω 0)), (0, .ref b)] [] := by
  refine G_aload_n C.1 dL_law_920 2 rfl ?_
  refine G_aload_n C.1 dL_law_921 3 rfl ?_
  refine G_iload_n C.1 dL_law_922 0 rfl ?_
  refine G_iconst (v := 1) C.1 dL_law_923 (by decide) ?_
  refine G_iadd C.1 dL_law_924 ?_
  refine G_sld C (k := i + 1) (show nI i + 1 = nI (i + 1) from nI_add i 1) (by omega) dL_law_925 ?_
  refine G_callI (As := [.int (xs (i + 1))]) (rest := []) C.1 dL_law_926 lk_L_121 (Nat.le_of_ble_eq_true rfl) (Nat.le_of_ble_eq_true rfl) q0 (by decide) rfl (Nat.le_of_ble_eq_true rfl) rfl (S_X9_more (op_more hI)) (fun r M1 h => ?_)
  refine G_aload_n C.1 dL_law_929 1 rfl ?_
  refine G_aload_n C.1 dL_law_930 3 rfl ?_
  refine G_iload_n C.1 dL_law_931 0 rfl ?_
  refine G_iconst (v := 1) C.1 dL_law_932 (by decide) ?_
  refine G_iadd C.1 dL_law_933 ?_
  refine G_sld C (k := i + 1) (show nI i + 1 = nI (i + 1) from nI_add i 1) (by omega) dL_law_934 ?_
  refine G_callI (As := [.int (xs (i + 1))]) (rest := [.int r]) C.1 dL_law_935 lk_L_124 (Nat.le_of_ble_eq_true rfl) (Nat.le_of_ble_eq_true rfl) q128 (by decide) rfl (Nat.le_of_ble_eq_true rfl) rfl (S_X10_more h) (fun r' M2 h2 => ?_)
  exact G_icmp_eq (tgt := 1430) C.1 dL_law_938 (by decide) (fun _ => kk M2 h2.2) (fun c => absurd h2.1 c)
set_option maxRecDepth 100000 in
set_option maxHeartbeats 4000000 in
theorem law_c27 {ω : WD} {ρ : FR} {M : Mem} {b L i : Nat} {xs : Nat → Int32} (C : LwC ω ρ b L xs) (hi : i + 5 ≤ L) (hI : INV M) (kk : ∀ M2, INV M2 → G ω ρ M2 1430 [(3, .int (nI i)), (2, .ref (adr ω 128)), (1, .ref (adr ω 0)), (0, .ref b)] []) : G ω ρ M 943 [(3, .int (nI i)), (2, .ref (adr ω 128)), (1, .ref (adr ω 0)), (0, .ref b)] [] := by
  refine G_aload_n C.1 dL_law_943 2 rfl ?_
  refine G_aload_n C.1 dL_law_944 3 rfl ?_
  refine G_iload_n C.1 dL_law_945 0 rfl ?_
  refine G_iconst (v := 1) C.1 dL_law_946 (by decide) ?_
  refine G_iadd C.1 dL_law_947 ?_
  refine G_sld C (k := i + 1) (show nI i + 1 = nI (i + 1) from nI_add i 1) (by omega) dL_law_948 ?_
  refine G_aload_n C.1 dL_law_949 3 rfl ?_
  refine G_iload_n C.1 dL_law_950 0 rfl ?_
  refine G_iconst (v := 2) C.1 dL_law_951 (by decide) ?_
  refine G_iadd C.1 dL_law_952 ?_
  refine G_sld C (k := i + 2) (show nI i + 2 = nI (i + 2) from nI_add i 2) (by omega) dL_law_953 ?_
  refine G_aload_n C.1 dL_law_954 3 rfl ?_
  refine G_iload_n C.1 dL_law_955 0 rfl ?_
  refine G_iconst (v := 3) C.1 dL_law_956 (by decide) ?_
  refine G_iadd C.1 dL_law_957 ?_
  refine G_sld C (k := i + 3) (show nI i + 3 = nI (i + 3) from nI_add i 3) (by omega) dL_law_958 ?_
  refine G_aload_n C.1 dL_law_959 3 rfl ?_
  refine G_iload_n C.1 dL_law_960 0 rfl ?_
  refine G_iconst (v := 4) C.1 dL_law_961 (by decide) ?_
  refine G_iadd C.1 dL_law_962 ?_
  refine G_sld C (k := i + 4) (show nI i + 4 = nI (i + 4) from nI_add i 4) (by omega) dL_law_963 ?_
  refine G_callL (As := [.int (xs (i + 1)), .int (xs (i + 2)), .int (xs (i + 3)), .int (xs (i + 4))]) (rest := []) C.1 dL_law_964 lk_L_125 (Nat.le_of_ble_eq_true rfl) (Nat.le_of_ble_eq_true rfl) q0 (by decide) rfl (Nat.le_of_ble_eq_true rfl) rfl (S_X9_luck (op_luck hI)) (fun r M1 h => ?_)
  refine G_aload_n C.1 dL_law_967 1 rfl ?_
  refine G_aload_n C.1 dL_law_968 3 rfl ?_
  refine G_iload_n C.1 dL_law_969 0 rfl ?_
  refine G_iconst (v := 1) C.1 dL_law_970 (by decide) ?_
  refine G_iadd C.1 dL_law_971 ?_
  refine G_sld C (k := i + 1) (show nI i + 1 = nI (i + 1) from nI_add i 1) (by omega) dL_law_972 ?_
  refine G_aload_n C.1 dL_law_973 3 rfl ?_
  refine G_iload_n C.1 dL_law_974 0 rfl ?_
  refine G_iconst (v := 2) C.1 dL_law_975 (by decide) ?_
  refine G_iadd C.1 dL_law_976 ?_
  refine G_sld C (k := i + 2) (show nI i + 2 = nI (i + 2) from nI_add i 2) (by omega) dL_law_977 ?_
  refine G_aload_n C.1 dL_law_978 3 rfl ?_
  refine G_iload_n C.1 dL_law_979 0 rfl ?_
  refine G_iconst (v := 3) C.1 dL_law_980 (by decide) ?_
  refine G_iadd C.1 dL_law_981 ?_
  refine G_sld C (k := i + 3) (show nI i + 3 = nI (i + 3) from nI_add i 3) (by omega) dL_law_982 ?_
  refine G_aload_n C.1 dL_law_983 3 rfl ?_
  refine G_iload_n C.1 dL_law_984 0 rfl ?_
  refine G_iconst (v := 4) C.1 dL_law_985 (by decide) ?_
  refine G_iadd C.1 dL_law_986 ?_
  refine G_sld C (k := i + 4) (show nI i + 4 = nI (i + 4) from nI_add i 4) (by omega) dL_law_987 ?_
  refine G_callL (As := [.int (xs (i + 1)), .int (xs (i + 2)), .int (xs (i + 3)), .int (xs (i + 4))]) (rest := [.long r]) C.1 dL_law_988 lk_L_129 (Nat.le_of_ble_eq_true rfl) (Nat.le_of_ble_eq_true rfl) q128 (by decide) rfl (Nat.le_of_ble_eq_true rfl) rfl (S_X10_luck h) (fun r' M2 h2 => ?_)
  refine G_lcmp C.1 dL_law_991 ?_
  exact G_if_eq (tgt := 1430) C.1 dL_law_992 (by decide) (fun _ => kk M2 h2.2) (fun c => absurd (by rw [h2.1]; exact lg_cmp_self r') c)
set_option maxRecDepth 100000 in
set_option maxHeartbeats 4000000 in
theorem law_c28 {ω : WD} {ρ : FR} {M : Mem} {b L i : Nat} {xs : Nat → Int32} (C : LwC ω ρ b L xs) (hi : i + 5 ≤ L) (hI : INV M) (kk : ∀ M2, INV M2 → G ω ρ M2 1430 [(3, .int (nI i)), (2, .ref (adr ω 128)), (1, .ref (adr ω 0)), (0, .ref b)] []) : G ω ρ M 997 [(3, .int (nI i)), (2, .ref (adr ω 128)), (1, .ref (adr ω 0)), (0, .ref b)] [] := by
  refine G_aload_n C.1 dL_law_997 2 rfl ?_
  refine G_aload_n C.1 dL_law_998 3 rfl ?_
  refine G_iload_n C.1 dL_law_999 0 rfl ?_
  refine G_iconst (v := 1) C.1 dL_law_1000 (by decide) ?_
  refine G_iadd C.1 dL_law_1001 ?_
  refine G_sld C (k := i + 1) (show nI i + 1 = nI (i + 1) from nI_add i 1) (by omega) dL_law_1002 ?_
  refine G_aload_n C.1 dL_law_1003 3 rfl ?_
  refine G_iload_n C.1 dL_law_1004 0 rfl ?_
  refine G_iconst (v := 2) C.1 dL_law_1005 (by decide) ?_
  refine G_iadd C.1 dL_law_1006 ?_
  refine G_sld C (k := i + 2) (show nI i + 2 = nI (i + 2) from nI_add i 2) (by omega) dL_law_1007 ?_
  refine G_callL (As := [.int (xs (i + 1)), .int (xs (i + 2))]) (rest := []) C.1 dL_law_1008 lk_L_130 (Nat.le_of_ble_eq_true rfl) (Nat.le_of_ble_eq_true rfl) q0 (by decide) rfl (Nat.le_of_ble_eq_true rfl) rfl (S_X9_mean (op_mean hI)) (fun r M1 h => ?_)
  refine G_aload_n C.1 dL_law_1011 1 rfl ?_
  refine G_aload_n C.1 dL_law_1012 3 rfl ?_
  refine G_iload_n C.1 dL_law_1013 0 rfl ?_
  refine G_iconst (v := 1) C.1 dL_law_1014 (by decide) ?_
  refine G_iadd C.1 dL_law_1015 ?_
  refine G_sld C (k := i + 1) (show nI i + 1 = nI (i + 1) from nI_add i 1) (by omega) dL_law_1016 ?_
  refine G_aload_n C.1 dL_law_1017 3 rfl ?_
  refine G_iload_n C.1 dL_law_1018 0 rfl ?_
  refine G_iconst (v := 2) C.1 dL_law_1019 (by decide) ?_
  refine G_iadd C.1 dL_law_1020 ?_
  refine G_sld C (k := i + 2) (show nI i + 2 = nI (i + 2) from nI_add i 2) (by omega) dL_law_1021 ?_
  refine G_callL (As := [.int (xs (i + 1)), .int (xs (i + 2))]) (rest := [.long r]) C.1 dL_law_1022 lk_L_134 (Nat.le_of_ble_eq_true rfl) (Nat.le_of_ble_eq_true rfl) q128 (by decide) rfl (Nat.le_of_ble_eq_true rfl) rfl (S_X10_mean h) (fun r' M2 h2 => ?_)
  refine G_lcmp C.1 dL_law_1025 ?_
  exact G_if_eq (tgt := 1430) C.1 dL_law_1026 (by decide) (fun _ => kk M2 h2.2) (fun c => absurd (by rw [h2.1]; exact lg_cmp_self r') c)
set_option maxRecDepth 100000 in
set_option maxHeartbeats 4000000 in
theorem law_c29 {ω : WD} {ρ : FR} {M : Mem} {b L i : Nat} {xs : Nat → Int32} (C : LwC ω ρ b L xs) (hi : i + 5 ≤ L) (hI : INV M) (kk : ∀ M2, INV M2 → G ω ρ M2 1430 [(3, .int (nI i)), (2, .ref (adr ω 128)), (1, .ref (adr ω 0)), (0, .ref b)] []) : G ω ρ M 1031 [(3, .int (nI i)), (2, .ref (adr ω 128)), (1, .ref (adr ω 0)), (0, .ref b)] [] := by
  refine G_aload_n C.1 dL_law_1031 2 rfl ?_
  refine G_aload_n C.1 dL_law_1032 3 rfl ?_
  refine G_iload_n C.1 dL_law_1033 0 rfl ?_
  refine G_iconst (v := 1) C.1 dL_law_1034 (by decide) ?_
  refine G_iadd C.1 dL_law_1035 ?_
  refine G_sld C (k := i + 1) (show nI i + 1 = nI (i + 1) from nI_add i 1) (by omega) dL_law_1036 ?_
  refine G_aload_n C.1 dL_law_1037 3 rfl ?_
  refine G_iload_n C.1 dL_law_1038 0 rfl ?_
  refine G_iconst (v := 2) C.1 dL_law_1039 (by decide) ?_
  refine G_iadd C.1 dL_law_1040 ?_
  refine G_sld C (k := i + 2) (show nI i + 2 = nI (i + 2) from nI_add i 2) (by omega) dL_law_1041 ?_
  refine G_callI (As := [.int (xs (i + 1)), .int (xs (i + 2))]) (rest := []) C.1 dL_law_1042 lk_L_135 (Nat.le_of_ble_eq_true rfl) (Nat.le_of_ble_eq_true rfl) q0 (by decide) rfl (Nat.le_of_ble_eq_true rfl) rfl (S_X9_see (op_see hI)) (fun r M1 h => ?_)
  refine G_aload_n C.1 dL_law_1045 1 rfl ?_
  refine G_aload_n C.1 dL_law_1046 3 rfl ?_
  refine G_iload_n C.1 dL_law_1047 0 rfl ?_
  refine G_iconst (v := 1) C.1 dL_law_1048 (by decide) ?_
  refine G_iadd C.1 dL_law_1049 ?_
  refine G_sld C (k := i + 1) (show nI i + 1 = nI (i + 1) from nI_add i 1) (by omega) dL_law_1050 ?_
  refine G_aload_n C.1 dL_law_1051 3 rfl ?_
  refine G_iload_n C.1 dL_law_1052 0 rfl ?_
  refine G_iconst (v := 2) C.1 dL_law_1053 (by decide) ?_
  refine G_iadd C.1 dL_law_1054 ?_
  refine G_sld C (k := i + 2) (show nI i + 2 = nI (i + 2) from nI_add i 2) (by omega) dL_law_1055 ?_
  refine G_callI (As := [.int (xs (i + 1)), .int (xs (i + 2))]) (rest := [.int r]) C.1 dL_law_1056 lk_L_138 (Nat.le_of_ble_eq_true rfl) (Nat.le_of_ble_eq_true rfl) q128 (by decide) rfl (Nat.le_of_ble_eq_true rfl) rfl (S_X10_see h) (fun r' M2 h2 => ?_)
  exact G_icmp_eq (tgt := 1430) C.1 dL_law_1059 (by decide) (fun _ => kk M2 h2.2) (fun c => absurd h2.1 c)
set_option maxRecDepth 100000 in
set_option maxHeartbeats 4000000 in
theorem law_c30 {ω : WD} {ρ : FR} {M : Mem} {b L i : Nat} {xs : Nat → Int32} (C : LwC ω ρ b L xs) (hi : i + 5 ≤ L) (hI : INV M) (kk : ∀ M2, INV M2 → G ω ρ M2 1430 [(3, .int (nI i)), (2, .ref (adr ω 128)), (1, .ref (adr ω 0)), (0, .ref b)] []) : G ω ρ M 1064 [(3, .int (nI i)), (2, .ref (adr ω 128)), (1, .ref (adr ω 0)), (0, .ref b)] [] := by
  refine G_aload_n C.1 dL_law_1064 2 rfl ?_
  refine G_aload_n C.1 dL_law_1065 3 rfl ?_
  refine G_iload_n C.1 dL_law_1066 0 rfl ?_
  refine G_iconst (v := 1) C.1 dL_law_1067 (by decide) ?_
  refine G_iadd C.1 dL_law_1068 ?_
  refine G_sld C (k := i + 1) (show nI i + 1 = nI (i + 1) from nI_add i 1) (by omega) dL_law_1069 ?_
  refine G_callI (As := [.int (xs (i + 1))]) (rest := []) C.1 dL_law_1070 lk_L_139 (Nat.le_of_ble_eq_true rfl) (Nat.le_of_ble_eq_true rfl) q0 (by decide) rfl (Nat.le_of_ble_eq_true rfl) rfl (S_X9_forget (op_forget hI)) (fun r M1 h => ?_)
  refine G_aload_n C.1 dL_law_1073 1 rfl ?_
  refine G_aload_n C.1 dL_law_1074 3 rfl ?_
  refine G_iload_n C.1 dL_law_1075 0 rfl ?_
  refine G_iconst (v := 1) C.1 dL_law_1076 (by decide) ?_
  refine G_iadd C.1 dL_law_1077 ?_
  refine G_sld C (k := i + 1) (show nI i + 1 = nI (i + 1) from nI_add i 1) (by omega) dL_law_1078 ?_
  refine G_callI (As := [.int (xs (i + 1))]) (rest := [.int r]) C.1 dL_law_1079 lk_L_142 (Nat.le_of_ble_eq_true rfl) (Nat.le_of_ble_eq_true rfl) q128 (by decide) rfl (Nat.le_of_ble_eq_true rfl) rfl (S_X10_forget h) (fun r' M2 h2 => ?_)
  exact G_icmp_eq (tgt := 1430) C.1 dL_law_1082 (by decide) (fun _ => kk M2 h2.2) (fun c => absurd h2.1 c)
set_option maxRecDepth 100000 in
set_option maxHeartbeats 4000000 in
theorem law_c31 {ω : WD} {ρ : FR} {M : Mem} {b L i : Nat} {xs : Nat → Int32} (C : LwC ω ρ b L xs) (hi : i + 5 ≤ L) (hI : INV M) (kk : ∀ M2, INV M2 → G ω ρ M2 1430 [(3, .int (nI i)), (2, .ref (adr ω 128)), (1, .ref (adr ω 0)), (0, .ref b)] []) : G ω ρ M 1087 [(3, .int (nI i)), (2, .ref (adr ω 128)), (1, .ref (adr ω 0)), (0, .ref b)] [] := by
  refine G_aload_n C.1 dL_law_1087 2 rfl ?_
  refine G_aload_n C.1 dL_law_1088 3 rfl ?_
  refine G_iload_n C.1 dL_law_1089 0 rfl ?_
  refine G_iconst (v := 1) C.1 dL_law_1090 (by decide) ?_
  refine G_iadd C.1 dL_law_1091 ?_
  refine G_sld C (k := i + 1) (show nI i + 1 = nI (i + 1) from nI_add i 1) (by omega) dL_law_1092 ?_
  refine G_callI (As := [.int (xs (i + 1))]) (rest := []) C.1 dL_law_1093 lk_L_143 (Nat.le_of_ble_eq_true rfl) (Nat.le_of_ble_eq_true rfl) q0 (by decide) rfl (Nat.le_of_ble_eq_true rfl) rfl (S_X9_hunts (op_hunts hI)) (fun r M1 h => ?_)
  refine G_aload_n C.1 dL_law_1096 1 rfl ?_
  refine G_aload_n C.1 dL_law_1097 3 rfl ?_
  refine G_iload_n C.1 dL_law_1098 0 rfl ?_
  refine G_iconst (v := 1) C.1 dL_law_1099 (by decide) ?_
  refine G_iadd C.1 dL_law_1100 ?_
  refine G_sld C (k := i + 1) (show nI i + 1 = nI (i + 1) from nI_add i 1) (by omega) dL_law_1101 ?_
  refine G_callI (As := [.int (xs (i + 1))]) (rest := [.int r]) C.1 dL_law_1102 lk_L_146 (Nat.le_of_ble_eq_true rfl) (Nat.le_of_ble_eq_true rfl) q128 (by decide) rfl (Nat.le_of_ble_eq_true rfl) rfl (S_X10_hunts h) (fun r' M2 h2 => ?_)
  exact G_icmp_eq (tgt := 1430) C.1 dL_law_1105 (by decide) (fun _ => kk M2 h2.2) (fun c => absurd h2.1 c)
set_option maxRecDepth 100000 in
set_option maxHeartbeats 4000000 in
theorem law_c32 {ω : WD} {ρ : FR} {M : Mem} {b L i : Nat} {xs : Nat → Int32} (C : LwC ω ρ b L xs) (hi : i + 5 ≤ L) (hI : INV M) (kk : ∀ M2, INV M2 → G ω ρ M2 1430 [(3, .int (nI i)), (2, .ref (adr ω 128)), (1, .ref (adr ω 0)), (0, .ref b)] []) : G ω ρ M 1110 [(3, .int (nI i)), (2, .ref (adr ω 128)), (1, .ref (adr ω 0)), (0, .ref b)] [] := by
  refine G_aload_n C.1 dL_law_1110 2 rfl ?_
  refine G_aload_n C.1 dL_law_1111 3 rfl ?_
  refine G_iload_n C.1 dL_law_1112 0 rfl ?_
  refine G_iconst (v := 1) C.1 dL_law_1113 (by decide) ?_
  refine G_iadd C.1 dL_law_1114 ?_
  refine G_sld C (k := i + 1) (show nI i + 1 = nI (i + 1) from nI_add i 1) (by omega) dL_law_1115 ?_
  refine G_callI (As := [.int (xs (i + 1))]) (rest := []) C.1 dL_law_1116 lk_L_147 (Nat.le_of_ble_eq_true rfl) (Nat.le_of_ble_eq_true rfl) q0 (by decide) rfl (Nat.le_of_ble_eq_true rfl) rfl (S_X9_deads (op_deads hI)) (fun r M1 h => ?_)
  refine G_aload_n C.1 dL_law_1119 1 rfl ?_
  refine G_aload_n C.1 dL_law_1120 3 rfl ?_
  refine G_iload_n C.1 dL_law_1121 0 rfl ?_
  refine G_iconst (v := 1) C.1 dL_law_1122 (by decide) ?_
  refine G_iadd C.1 dL_law_1123 ?_
  refine G_sld C (k := i + 1) (show nI i + 1 = nI (i + 1) from nI_add i 1) (by omega) dL_law_1124 ?_
  refine G_callI (As := [.int (xs (i + 1))]) (rest := [.int r]) C.1 dL_law_1125 lk_L_150 (Nat.le_of_ble_eq_true rfl) (Nat.le_of_ble_eq_true rfl) q128 (by decide) rfl (Nat.le_of_ble_eq_true rfl) rfl (S_X10_deads h) (fun r' M2 h2 => ?_)
  exact G_icmp_eq (tgt := 1430) C.1 dL_law_1128 (by decide) (fun _ => kk M2 h2.2) (fun c => absurd h2.1 c)
set_option maxRecDepth 100000 in
set_option maxHeartbeats 4000000 in
theorem law_c33 {ω : WD} {ρ : FR} {M : Mem} {b L i : Nat} {xs : Nat → Int32} (C : LwC ω ρ b L xs) (hi : i + 5 ≤ L) (hI : INV M) (kk : ∀ M2, INV M2 → G ω ρ M2 1430 [(3, .int (nI i)), (2, .ref (adr ω 128)), (1, .ref (adr ω 0)), (0, .ref b)] []) : G ω ρ M 1133 [(3, .int (nI i)), (2, .ref (adr ω 128)), (1, .ref (adr ω 0)), (0, .ref b)] [] := by
  refine G_aload_n C.1 dL_law_1133 2 rfl ?_
  refine G_aload_n C.1 dL_law_1134 3 rfl ?_
  refine G_iload_n C.1 dL_law_1135 0 rfl ?_
  refine G_iconst (v := 1) C.1 dL_law_1136 (by decide) ?_
  refine G_iadd C.1 dL_law_1137 ?_
  refine G_sld C (k := i + 1) (show nI i + 1 = nI (i + 1) from nI_add i 1) (by omega) dL_law_1138 ?_
  refine G_aload_n C.1 dL_law_1139 3 rfl ?_
  refine G_iload_n C.1 dL_law_1140 0 rfl ?_
  refine G_iconst (v := 2) C.1 dL_law_1141 (by decide) ?_
  refine G_iadd C.1 dL_law_1142 ?_
  refine G_sld C (k := i + 2) (show nI i + 2 = nI (i + 2) from nI_add i 2) (by omega) dL_law_1143 ?_
  refine G_callI (As := [.int (xs (i + 1)), .int (xs (i + 2))]) (rest := []) C.1 dL_law_1144 lk_L_151 (Nat.le_of_ble_eq_true rfl) (Nat.le_of_ble_eq_true rfl) q0 (by decide) rfl (Nat.le_of_ble_eq_true rfl) rfl (S_X9_ask (op_ask hI)) (fun r M1 h => ?_)
  refine G_aload_n C.1 dL_law_1147 1 rfl ?_
  refine G_aload_n C.1 dL_law_1148 3 rfl ?_
  refine G_iload_n C.1 dL_law_1149 0 rfl ?_
  refine G_iconst (v := 1) C.1 dL_law_1150 (by decide) ?_
  refine G_iadd C.1 dL_law_1151 ?_
  refine G_sld C (k := i + 1) (show nI i + 1 = nI (i + 1) from nI_add i 1) (by omega) dL_law_1152 ?_
  refine G_aload_n C.1 dL_law_1153 3 rfl ?_
  refine G_iload_n C.1 dL_law_1154 0 rfl ?_
  refine G_iconst (v := 2) C.1 dL_law_1155 (by decide) ?_
  refine G_iadd C.1 dL_law_1156 ?_
  refine G_sld C (k := i + 2) (show nI i + 2 = nI (i + 2) from nI_add i 2) (by omega) dL_law_1157 ?_
  refine G_callI (As := [.int (xs (i + 1)), .int (xs (i + 2))]) (rest := [.int r]) C.1 dL_law_1158 lk_L_154 (Nat.le_of_ble_eq_true rfl) (Nat.le_of_ble_eq_true rfl) q128 (by decide) rfl (Nat.le_of_ble_eq_true rfl) rfl (S_X10_ask h) (fun r' M2 h2 => ?_)
  exact G_icmp_eq (tgt := 1430) C.1 dL_law_1161 (by decide) (fun _ => kk M2 h2.2) (fun c => absurd h2.1 c)
set_option maxRecDepth 100000 in
set_option maxHeartbeats 4000000 in
theorem law_c34 {ω : WD} {ρ : FR} {M : Mem} {b L i : Nat} {xs : Nat → Int32} (C : LwC ω ρ b L xs) (hi : i + 5 ≤ L) (hI : INV M) (kk : ∀ M2, INV M2 → G ω ρ M2 1430 [(3, .int (nI i)), (2, .ref (adr ω 128)), (1, .ref (adr ω 0)), (0, .ref b)] []) : G ω ρ M 1166 [(3, .int (nI i)), (2, .ref (adr ω 128)), (1, .ref (adr ω 0)), (0, .ref b)] [] := by
  refine G_aload_n C.1 dL_law_1166 2 rfl ?_
  refine G_aload_n C.1 dL_law_1167 3 rfl ?_
  refine G_iload_n C.1 dL_law_1168 0 rfl ?_
  refine G_iconst (v := 1) C.1 dL_law_1169 (by decide) ?_
  refine G_iadd C.1 dL_law_1170 ?_
  refine G_sld C (k := i + 1) (show nI i + 1 = nI (i + 1) from nI_add i 1) (by omega) dL_law_1171 ?_
  refine G_aload_n C.1 dL_law_1172 3 rfl ?_
  refine G_iload_n C.1 dL_law_1173 0 rfl ?_
  refine G_iconst (v := 2) C.1 dL_law_1174 (by decide) ?_
  refine G_iadd C.1 dL_law_1175 ?_
  refine G_sld C (k := i + 2) (show nI i + 2 = nI (i + 2) from nI_add i 2) (by omega) dL_law_1176 ?_
  refine G_aload_n C.1 dL_law_1177 3 rfl ?_
  refine G_iload_n C.1 dL_law_1178 0 rfl ?_
  refine G_iconst (v := 3) C.1 dL_law_1179 (by decide) ?_
  refine G_iadd C.1 dL_law_1180 ?_
  refine G_sld C (k := i + 3) (show nI i + 3 = nI (i + 3) from nI_add i 3) (by omega) dL_law_1181 ?_
  refine G_callI (As := [.int (xs (i + 1)), .int (xs (i + 2)), .int (xs (i + 3))]) (rest := []) C.1 dL_law_1182 lk_L_155 (Nat.le_of_ble_eq_true rfl) (Nat.le_of_ble_eq_true rfl) q0 (by decide) rfl (Nat.le_of_ble_eq_true rfl) rfl (S_X9_drift (op_drift hI)) (fun r M1 h => ?_)
  refine G_aload_n C.1 dL_law_1185 1 rfl ?_
  refine G_aload_n C.1 dL_law_1186 3 rfl ?_
  refine G_iload_n C.1 dL_law_1187 0 rfl ?_
  refine G_iconst (v := 1) C.1 dL_law_1188 (by decide) ?_
  refine G_iadd C.1 dL_law_1189 ?_
  refine G_sld C (k := i + 1) (show nI i + 1 = nI (i + 1) from nI_add i 1) (by omega) dL_law_1190 ?_
  refine G_aload_n C.1 dL_law_1191 3 rfl ?_
  refine G_iload_n C.1 dL_law_1192 0 rfl ?_
  refine G_iconst (v := 2) C.1 dL_law_1193 (by decide) ?_
  refine G_iadd C.1 dL_law_1194 ?_
  refine G_sld C (k := i + 2) (show nI i + 2 = nI (i + 2) from nI_add i 2) (by omega) dL_law_1195 ?_
  refine G_aload_n C.1 dL_law_1196 3 rfl ?_
  refine G_iload_n C.1 dL_law_1197 0 rfl ?_
  refine G_iconst (v := 3) C.1 dL_law_1198 (by decide) ?_
  refine G_iadd C.1 dL_law_1199 ?_
  refine G_sld C (k := i + 3) (show nI i + 3 = nI (i + 3) from nI_add i 3) (by omega) dL_law_1200 ?_
  refine G_callI (As := [.int (xs (i + 1)), .int (xs (i + 2)), .int (xs (i + 3))]) (rest := [.int r]) C.1 dL_law_1201 lk_L_159 (Nat.le_of_ble_eq_true rfl) (Nat.le_of_ble_eq_true rfl) q128 (by decide) rfl (Nat.le_of_ble_eq_true rfl) rfl (S_X10_drift h) (fun r' M2 h2 => ?_)
  exact G_icmp_eq (tgt := 1430) C.1 dL_law_1204 (by decide) (fun _ => kk M2 h2.2) (fun c => absurd h2.1 c)
set_option maxRecDepth 100000 in
set_option maxHeartbeats 4000000 in
theorem law_c35 {ω : WD} {ρ : FR} {M : Mem} {b L i : Nat} {xs : Nat → Int32} (C : LwC ω ρ b L xs) (hi : i + 5 ≤ L) (hI : INV M) (kk : ∀ M2, INV M2 → G ω ρ M2 1430 [(3, .int (nI i)), (2, .ref (adr ω 128)), (1, .ref (adr ω 0)), (0, .ref b)] []) : G ω ρ M 1209 [(3, .int (nI i)), (2, .ref (adr ω 128)), (1, .ref (adr ω 0)), (0, .ref b)] [] := by
  refine G_aload_n C.1 dL_law_1209 2 rfl ?_
  refine G_aload_n C.1 dL_law_1210 3 rfl ?_
  refine G_iload_n C.1 dL_law_1211 0 rfl ?_
  refine G_iconst (v := 1) C.1 dL_law_1212 (by decide) ?_
  refine G_iadd C.1 dL_law_1213 ?_
  refine G_sld C (k := i + 1) (show nI i + 1 = nI (i + 1) from nI_add i 1) (by omega) dL_law_1214 ?_
  refine G_callI (As := [.int (xs (i + 1))]) (rest := []) C.1 dL_law_1215 lk_L_160 (Nat.le_of_ble_eq_true rfl) (Nat.le_of_ble_eq_true rfl) q0 (by decide) rfl (Nat.le_of_ble_eq_true rfl) rfl (S_X9_keep (op_keep hI)) (fun r M1 h => ?_)
  refine G_aload_n C.1 dL_law_1218 1 rfl ?_
  refine G_aload_n C.1 dL_law_1219 3 rfl ?_
  refine G_iload_n C.1 dL_law_1220 0 rfl ?_
  refine G_iconst (v := 1) C.1 dL_law_1221 (by decide) ?_
  refine G_iadd C.1 dL_law_1222 ?_
  refine G_sld C (k := i + 1) (show nI i + 1 = nI (i + 1) from nI_add i 1) (by omega) dL_law_1223 ?_
  refine G_callI (As := [.int (xs (i + 1))]) (rest := [.int r]) C.1 dL_law_1224 lk_L_163 (Nat.le_of_ble_eq_true rfl) (Nat.le_of_ble_eq_true rfl) q128 (by decide) rfl (Nat.le_of_ble_eq_true rfl) rfl (S_X10_keep h) (fun r' M2 h2 => ?_)
  exact G_icmp_eq (tgt := 1430) C.1 dL_law_1227 (by decide) (fun _ => kk M2 h2.2) (fun c => absurd h2.1 c)
set_option maxRecDepth 100000 in
set_option maxHeartbeats 4000000 in
theorem law_c36 {ω : WD} {ρ : FR} {M : Mem} {b L i : Nat} {xs : Nat → Int32} (C : LwC ω ρ b L xs) (hi : i + 5 ≤ L) (hI : INV M) (kk : ∀ M2, INV M2 → G ω ρ M2 1430 [(3, .int (nI i)), (2, .ref (adr ω 128)), (1, .ref (adr ω 0)), (0, .ref b)] []) : G ω ρ M 1232 [(3, .int (nI i)), (2, .ref (adr ω 128)), (1, .ref (adr ω 0)), (0, .ref b)] [] := by
  refine G_aload_n C.1 dL_law_1232 2 rfl ?_
  refine G_aload_n C.1 dL_law_1233 3 rfl ?_
  refine G_iload_n C.1 dL_law_1234 0 rfl ?_
  refine G_iconst (v := 1) C.1 dL_law_1235 (by decide) ?_
  refine G_iadd C.1 dL_law_1236 ?_
  refine G_sld C (k := i + 1) (show nI i + 1 = nI (i + 1) from nI_add i 1) (by omega) dL_law_1237 ?_
  refine G_callI (As := [.int (xs (i + 1))]) (rest := []) C.1 dL_law_1238 lk_L_164 (Nat.le_of_ble_eq_true rfl) (Nat.le_of_ble_eq_true rfl) q0 (by decide) rfl (Nat.le_of_ble_eq_true rfl) rfl (S_X9_back (op_back hI)) (fun r M1 h => ?_)
  refine G_aload_n C.1 dL_law_1241 1 rfl ?_
  refine G_aload_n C.1 dL_law_1242 3 rfl ?_
  refine G_iload_n C.1 dL_law_1243 0 rfl ?_
  refine G_iconst (v := 1) C.1 dL_law_1244 (by decide) ?_
  refine G_iadd C.1 dL_law_1245 ?_
  refine G_sld C (k := i + 1) (show nI i + 1 = nI (i + 1) from nI_add i 1) (by omega) dL_law_1246 ?_
  refine G_callI (As := [.int (xs (i + 1))]) (rest := [.int r]) C.1 dL_law_1247 lk_L_167 (Nat.le_of_ble_eq_true rfl) (Nat.le_of_ble_eq_true rfl) q128 (by decide) rfl (Nat.le_of_ble_eq_true rfl) rfl (S_X10_back h) (fun r' M2 h2 => ?_)
  exact G_icmp_eq (tgt := 1430) C.1 dL_law_1250 (by decide) (fun _ => kk M2 h2.2) (fun c => absurd h2.1 c)
set_option maxRecDepth 100000 in
set_option maxHeartbeats 4000000 in
theorem law_c37 {ω : WD} {ρ : FR} {M : Mem} {b L i : Nat} {xs : Nat → Int32} (C : LwC ω ρ b L xs) (hi : i + 5 ≤ L) (hI : INV M) (kk : ∀ M2, INV M2 → G ω ρ M2 1430 [(3, .int (nI i)), (2, .ref (adr ω 128)), (1, .ref (adr ω 0)), (0, .ref b)] []) : G ω ρ M 1255 [(3, .int (nI i)), (2, .ref (adr ω 128)), (1, .ref (adr ω 0)), (0, .ref b)] [] := by
  refine G_aload_n C.1 dL_law_1255 2 rfl ?_
  refine G_aload_n C.1 dL_law_1256 3 rfl ?_
  refine G_iload_n C.1 dL_law_1257 0 rfl ?_
  refine G_iconst (v := 1) C.1 dL_law_1258 (by decide) ?_
  refine G_iadd C.1 dL_law_1259 ?_
  refine G_sld C (k := i + 1) (show nI i + 1 = nI (i + 1) from nI_add i 1) (by omega) dL_law_1260 ?_
  refine G_aload_n C.1 dL_law_1261 3 rfl ?_
  refine G_iload_n C.1 dL_law_1262 0 rfl ?_
  refine G_iconst (v := 2) C.1 dL_law_1263 (by decide) ?_
  refine G_iadd C.1 dL_law_1264 ?_
  refine G_sld C (k := i + 2) (show nI i + 2 = nI (i + 2) from nI_add i 2) (by omega) dL_law_1265 ?_
  refine G_aload_n C.1 dL_law_1266 3 rfl ?_
  refine G_iload_n C.1 dL_law_1267 0 rfl ?_
  refine G_iconst (v := 3) C.1 dL_law_1268 (by decide) ?_
  refine G_iadd C.1 dL_law_1269 ?_
  refine G_sld C (k := i + 3) (show nI i + 3 = nI (i + 3) from nI_add i 3) (by omega) dL_law_1270 ?_
  refine G_callI (As := [.int (xs (i + 1)), .int (xs (i + 2)), .int (xs (i + 3))]) (rest := []) C.1 dL_law_1271 lk_L_168 (Nat.le_of_ble_eq_true rfl) (Nat.le_of_ble_eq_true rfl) q0 (by decide) rfl (Nat.le_of_ble_eq_true rfl) rfl (S_X9_sheet (op_sheet hI)) (fun r M1 h => ?_)
  refine G_aload_n C.1 dL_law_1274 1 rfl ?_
  refine G_aload_n C.1 dL_law_1275 3 rfl ?_
  refine G_iload_n C.1 dL_law_1276 0 rfl ?_
  refine G_iconst (v := 1) C.1 dL_law_1277 (by decide) ?_
  refine G_iadd C.1 dL_law_1278 ?_
  refine G_sld C (k := i + 1) (show nI i + 1 = nI (i + 1) from nI_add i 1) (by omega) dL_law_1279 ?_
  refine G_aload_n C.1 dL_law_1280 3 rfl ?_
  refine G_iload_n C.1 dL_law_1281 0 rfl ?_
  refine G_iconst (v := 2) C.1 dL_law_1282 (by decide) ?_
  refine G_iadd C.1 dL_law_1283 ?_
  refine G_sld C (k := i + 2) (show nI i + 2 = nI (i + 2) from nI_add i 2) (by omega) dL_law_1284 ?_
  refine G_aload_n C.1 dL_law_1285 3 rfl ?_
  refine G_iload_n C.1 dL_law_1286 0 rfl ?_
  refine G_iconst (v := 3) C.1 dL_law_1287 (by decide) ?_
  refine G_iadd C.1 dL_law_1288 ?_
  refine G_sld C (k := i + 3) (show nI i + 3 = nI (i + 3) from nI_add i 3) (by omega) dL_law_1289 ?_
  refine G_callI (As := [.int (xs (i + 1)), .int (xs (i + 2)), .int (xs (i + 3))]) (rest := [.int r]) C.1 dL_law_1290 lk_L_171 (Nat.le_of_ble_eq_true rfl) (Nat.le_of_ble_eq_true rfl) q128 (by decide) rfl (Nat.le_of_ble_eq_true rfl) rfl (S_X10_sheet h) (fun r' M2 h2 => ?_)
  exact G_icmp_eq (tgt := 1430) C.1 dL_law_1293 (by decide) (fun _ => kk M2 h2.2) (fun c => absurd h2.1 c)
set_option maxRecDepth 100000 in
set_option maxHeartbeats 4000000 in
theorem law_c38 {ω : WD} {ρ : FR} {M : Mem} {b L i : Nat} {xs : Nat → Int32} (C : LwC ω ρ b L xs) (hi : i + 5 ≤ L) (hI : INV M) (kk : ∀ M2, INV M2 → G ω ρ M2 1430 [(3, .int (nI i)), (2, .ref (adr ω 128)), (1, .ref (adr ω 0)), (0, .ref b)] []) : G ω ρ M 1298 [(3, .int (nI i)), (2, .ref (adr ω 128)), (1, .ref (adr ω 0)), (0, .ref b)] [] := by
  refine G_aload_n C.1 dL_law_1298 2 rfl ?_
  refine G_aload_n C.1 dL_law_1299 3 rfl ?_
  refine G_iload_n C.1 dL_law_1300 0 rfl ?_
  refine G_iconst (v := 1) C.1 dL_law_1301 (by decide) ?_
  refine G_iadd C.1 dL_law_1302 ?_
  refine G_sld C (k := i + 1) (show nI i + 1 = nI (i + 1) from nI_add i 1) (by omega) dL_law_1303 ?_
  refine G_aload_n C.1 dL_law_1304 3 rfl ?_
  refine G_iload_n C.1 dL_law_1305 0 rfl ?_
  refine G_iconst (v := 2) C.1 dL_law_1306 (by decide) ?_
  refine G_iadd C.1 dL_law_1307 ?_
  refine G_sld C (k := i + 2) (show nI i + 2 = nI (i + 2) from nI_add i 2) (by omega) dL_law_1308 ?_
  refine G_aload_n C.1 dL_law_1309 3 rfl ?_
  refine G_iload_n C.1 dL_law_1310 0 rfl ?_
  refine G_iconst (v := 3) C.1 dL_law_1311 (by decide) ?_
  refine G_iadd C.1 dL_law_1312 ?_
  refine G_sld C (k := i + 3) (show nI i + 3 = nI (i + 3) from nI_add i 3) (by omega) dL_law_1313 ?_
  refine G_callI (As := [.int (xs (i + 1)), .int (xs (i + 2)), .int (xs (i + 3))]) (rest := []) C.1 dL_law_1314 lk_L_172 (Nat.le_of_ble_eq_true rfl) (Nat.le_of_ble_eq_true rfl) q0 (by decide) rfl (Nat.le_of_ble_eq_true rfl) rfl (S_X9_lay (op_lay hI)) (fun r M1 h => ?_)
  refine G_aload_n C.1 dL_law_1317 1 rfl ?_
  refine G_aload_n C.1 dL_law_1318 3 rfl ?_
  refine G_iload_n C.1 dL_law_1319 0 rfl ?_
  refine G_iconst (v := 1) C.1 dL_law_1320 (by decide) ?_
  refine G_iadd C.1 dL_law_1321 ?_
  refine G_sld C (k := i + 1) (show nI i + 1 = nI (i + 1) from nI_add i 1) (by omega) dL_law_1322 ?_
  refine G_aload_n C.1 dL_law_1323 3 rfl ?_
  refine G_iload_n C.1 dL_law_1324 0 rfl ?_
  refine G_iconst (v := 2) C.1 dL_law_1325 (by decide) ?_
  refine G_iadd C.1 dL_law_1326 ?_
  refine G_sld C (k := i + 2) (show nI i + 2 = nI (i + 2) from nI_add i 2) (by omega) dL_law_1327 ?_
  refine G_aload_n C.1 dL_law_1328 3 rfl ?_
  refine G_iload_n C.1 dL_law_1329 0 rfl ?_
  refine G_iconst (v := 3) C.1 dL_law_1330 (by decide) ?_
  refine G_iadd C.1 dL_law_1331 ?_
  refine G_sld C (k := i + 3) (show nI i + 3 = nI (i + 3) from nI_add i 3) (by omega) dL_law_1332 ?_
  refine G_callI (As := [.int (xs (i + 1)), .int (xs (i + 2)), .int (xs (i + 3))]) (rest := [.int r]) C.1 dL_law_1333 lk_L_175 (Nat.le_of_ble_eq_true rfl) (Nat.le_of_ble_eq_true rfl) q128 (by decide) rfl (Nat.le_of_ble_eq_true rfl) rfl (S_X10_lay h) (fun r' M2 h2 => ?_)
  exact G_icmp_eq (tgt := 1430) C.1 dL_law_1336 (by decide) (fun _ => kk M2 h2.2) (fun c => absurd h2.1 c)
set_option maxRecDepth 100000 in
set_option maxHeartbeats 4000000 in
theorem law_c39 {ω : WD} {ρ : FR} {M : Mem} {b L i : Nat} {xs : Nat → Int32} (C : LwC ω ρ b L xs) (hi : i + 5 ≤ L) (hI : INV M) (kk : ∀ M2, INV M2 → G ω ρ M2 1430 [(3, .int (nI i)), (2, .ref (adr ω 128)), (1, .ref (adr ω 0)), (0, .ref b)] []) : G ω ρ M 1341 [(3, .int (nI i)), (2, .ref (adr ω 128)), (1, .ref (adr ω 0)), (0, .ref b)] [] := by
  refine G_aload_n C.1 dL_law_1341 2 rfl ?_
  refine G_aload_n C.1 dL_law_1342 3 rfl ?_
  refine G_iload_n C.1 dL_law_1343 0 rfl ?_
  refine G_iconst (v := 1) C.1 dL_law_1344 (by decide) ?_
  refine G_iadd C.1 dL_law_1345 ?_
  refine G_sld C (k := i + 1) (show nI i + 1 = nI (i + 1) from nI_add i 1) (by omega) dL_law_1346 ?_
  refine G_aload_n C.1 dL_law_1347 3 rfl ?_
  refine G_iload_n C.1 dL_law_1348 0 rfl ?_
  refine G_iconst (v := 2) C.1 dL_law_1349 (by decide) ?_
  refine G_iadd C.1 dL_law_1350 ?_
  refine G_sld C (k := i + 2) (show nI i + 2 = nI (i + 2) from nI_add i 2) (by omega) dL_law_1351 ?_
  refine G_aload_n C.1 dL_law_1352 3 rfl ?_
  refine G_iload_n C.1 dL_law_1353 0 rfl ?_
  refine G_iconst (v := 3) C.1 dL_law_1354 (by decide) ?_
  refine G_iadd C.1 dL_law_1355 ?_
  refine G_sld C (k := i + 3) (show nI i + 3 = nI (i + 3) from nI_add i 3) (by omega) dL_law_1356 ?_
  refine G_aload_n C.1 dL_law_1357 3 rfl ?_
  refine G_iload_n C.1 dL_law_1358 0 rfl ?_
  refine G_iconst (v := 4) C.1 dL_law_1359 (by decide) ?_
  refine G_iadd C.1 dL_law_1360 ?_
  refine G_sld C (k := i + 4) (show nI i + 4 = nI (i + 4) from nI_add i 4) (by omega) dL_law_1361 ?_
  refine G_callI (As := [.int (xs (i + 1)), .int (xs (i + 2)), .int (xs (i + 3)), .int (xs (i + 4))]) (rest := []) C.1 dL_law_1362 lk_L_176 (Nat.le_of_ble_eq_true rfl) (Nat.le_of_ble_eq_true rfl) q0 (by decide) rfl (Nat.le_of_ble_eq_true rfl) rfl (S_X9_read (op_read hI)) (fun r M1 h => ?_)
  refine G_aload_n C.1 dL_law_1365 1 rfl ?_
  refine G_aload_n C.1 dL_law_1366 3 rfl ?_
  refine G_iload_n C.1 dL_law_1367 0 rfl ?_
  refine G_iconst (v := 1) C.1 dL_law_1368 (by decide) ?_
  refine G_iadd C.1 dL_law_1369 ?_
  refine G_sld C (k := i + 1) (show nI i + 1 = nI (i + 1) from nI_add i 1) (by omega) dL_law_1370 ?_
  refine G_aload_n C.1 dL_law_1371 3 rfl ?_
  refine G_iload_n C.1 dL_law_1372 0 rfl ?_
  refine G_iconst (v := 2) C.1 dL_law_1373 (by decide) ?_
  refine G_iadd C.1 dL_law_1374 ?_
  refine G_sld C (k := i + 2) (show nI i + 2 = nI (i + 2) from nI_add i 2) (by omega) dL_law_1375 ?_
  refine G_aload_n C.1 dL_law_1376 3 rfl ?_
  refine G_iload_n C.1 dL_law_1377 0 rfl ?_
  refine G_iconst (v := 3) C.1 dL_law_1378 (by decide) ?_
  refine G_iadd C.1 dL_law_1379 ?_
  refine G_sld C (k := i + 3) (show nI i + 3 = nI (i + 3) from nI_add i 3) (by omega) dL_law_1380 ?_
  refine G_aload_n C.1 dL_law_1381 3 rfl ?_
  refine G_iload_n C.1 dL_law_1382 0 rfl ?_
  refine G_iconst (v := 4) C.1 dL_law_1383 (by decide) ?_
  refine G_iadd C.1 dL_law_1384 ?_
  refine G_sld C (k := i + 4) (show nI i + 4 = nI (i + 4) from nI_add i 4) (by omega) dL_law_1385 ?_
  refine G_callI (As := [.int (xs (i + 1)), .int (xs (i + 2)), .int (xs (i + 3)), .int (xs (i + 4))]) (rest := [.int r]) C.1 dL_law_1386 lk_L_180 (Nat.le_of_ble_eq_true rfl) (Nat.le_of_ble_eq_true rfl) q128 (by decide) rfl (Nat.le_of_ble_eq_true rfl) rfl (S_X10_read h) (fun r' M2 h2 => ?_)
  exact G_icmp_eq (tgt := 1430) C.1 dL_law_1389 (by decide) (fun _ => kk M2 h2.2) (fun c => absurd h2.1 c)
set_option maxRecDepth 100000 in
set_option maxHeartbeats 4000000 in
theorem law_c40 {ω : WD} {ρ : FR} {M : Mem} {b L i : Nat} {xs : Nat → Int32} (C : LwC ω ρ b L xs) (hi : i + 5 ≤ L) (hI : INV M) (kk : ∀ M2, INV M2 → G ω ρ M2 1430 [(3, .int (nI i)), (2, .ref (adr ω 128)), (1, .ref (adr ω 0)), (0, .ref b)] []) : G ω ρ M 1394 [(3, .int (nI i)), (2, .ref (adr ω 128)), (1, .ref (adr ω 0)), (0, .ref b)] [] := by
  refine G_aload_n C.1 dL_law_1394 2 rfl ?_
  refine G_callI (As := []) (rest := []) C.1 dL_law_1395 lk_L_181 (Nat.le_of_ble_eq_true rfl) (Nat.le_of_ble_eq_true rfl) q0 (by decide) rfl (Nat.le_of_ble_eq_true rfl) rfl (S_X9_torn (op_torn hI)) (fun r M1 h => ?_)
  refine G_aload_n C.1 dL_law_1398 1 rfl ?_
  refine G_callI (As := []) (rest := [.int r]) C.1 dL_law_1399 lk_L_184 (Nat.le_of_ble_eq_true rfl) (Nat.le_of_ble_eq_true rfl) q128 (by decide) rfl (Nat.le_of_ble_eq_true rfl) rfl (S_X10_torn h) (fun r' M2 h2 => ?_)
  exact G_icmp_eq (tgt := 1430) C.1 dL_law_1402 (by decide) (fun _ => kk M2 h2.2) (fun c => absurd h2.1 c)
set_option maxRecDepth 100000 in
set_option maxHeartbeats 4000000 in
theorem law_c41 {ω : WD} {ρ : FR} {M : Mem} {b L i : Nat} {xs : Nat → Int32} (C : LwC ω ρ b L xs) (hi : i + 5 ≤ L) (hI : INV M) (kk : ∀ M2, INV M2 → G ω ρ M2 1430 [(3, .int (nI i)), (2, .ref (adr ω 128)), (1, .ref (adr ω 0)), (0, .ref b)] []) : G ω ρ M 1407 [(3, .int (nI i)), (2, .ref (adr ω 128)), (1, .ref (adr ω 0)), (0, .ref b)] [] := by
  refine G_aload_n C.1 dL_law_1407 2 rfl ?_
  refine G_aload_n C.1 dL_law_1408 3 rfl ?_
  refine G_iload_n C.1 dL_law_1409 0 rfl ?_
  refine G_iconst (v := 1) C.1 dL_law_1410 (by decide) ?_
  refine G_iadd C.1 dL_law_1411 ?_
  refine G_sld C (k := i + 1) (show nI i + 1 = nI (i + 1) from nI_add i 1) (by omega) dL_law_1412 ?_
  refine G_callI (As := [.int (xs (i + 1))]) (rest := []) C.1 dL_law_1413 lk_L_185 (Nat.le_of_ble_eq_true rfl) (Nat.le_of_ble_eq_true rfl) q0 (by decide) rfl (Nat.le_of_ble_eq_true rfl) rfl (S_X9_count (op_count hI)) (fun r M1 h => ?_)
  refine G_aload_n C.1 dL_law_1416 1 rfl ?_
  refine G_aload_n C.1 dL_law_1417 3 rfl ?_
  refine G_iload_n C.1 dL_law_1418 0 rfl ?_
  refine G_iconst (v := 1) C.1 dL_law_1419 (by decide) ?_
  refine G_iadd C.1 dL_law_1420 ?_
  refine G_sld C (k := i + 1) (show nI i + 1 = nI (i + 1) from nI_add i 1) (by omega) dL_law_1421 ?_
  refine G_callI (As := [.int (xs (i + 1))]) (rest := [.int r]) C.1 dL_law_1422 lk_L_188 (Nat.le_of_ble_eq_true rfl) (Nat.le_of_ble_eq_true rfl) q128 (by decide) rfl (Nat.le_of_ble_eq_true rfl) rfl (S_X10_count h) (fun r' M2 h2 => ?_)
  exact G_icmp_eq (tgt := 1430) C.1 dL_law_1425 (by decide) (fun _ => kk M2 h2.2) (fun c => absurd h2.1 c)
set_option maxRecDepth 100000 in
set_option maxHeartbeats 4000000 in
theorem law_loop {ω : WD} {ρ : FR} {b L : Nat} {xs : Nat → Int32} (C : LwC ω ρ b L xs) (hend : ∀ (M : Mem) (lv : List (Nat × Value)), G ω ρ M 1437 lv [.int 1]) : ∀ (m i : Nat) (M : Mem), L + 5 ≤ i + m → i ≤ L + 5 → INV M → G ω ρ M 18 [(3, .int (nI i)), (2, .ref (adr ω 128)), (1, .ref (adr ω 0)), (0, .ref b)] [] := by
  have hL := C.2.2.2.2
  intro m
  induction m with
  | zero =>
    intro i M h1 h2 hI
    obtain rfl : i = L + 5 := by omega
    refine G_iload_n C.1 dL_law_18 0 rfl ?_
    refine G_aload_n C.1 dL_law_19 3 rfl ?_
    refine G_slL C dL_law_20 ?_
    refine G_iconst (v := 5) C.1 dL_law_21 (by decide) ?_
    refine G_isub C.1 dL_law_22 ?_
    refine G_icmp_gt (tgt := 1436) C.1 dL_law_23 (by decide) (fun _ => ?_) (fun c => absurd ?_ c)
    · refine G_iconst (v := 1) C.1 dL_law_1436 (by decide) ?_
      exact hend M _
    · rw [Int32.lt_iff_toInt_lt, five L (by omega), nI_toInt (by omega)]
      omega
  | succ m ih =>
    intro i M h1 h2 hI
    refine G_iload_n C.1 dL_law_18 0 rfl ?_
    refine G_aload_n C.1 dL_law_19 3 rfl ?_
    refine G_slL C dL_law_20 ?_
    refine G_iconst (v := 5) C.1 dL_law_21 (by decide) ?_
    refine G_isub C.1 dL_law_22 ?_
    refine G_icmp_gt (tgt := 1436) C.1 dL_law_23 (by decide) (fun _ => ?_) (fun c => ?_)
    · refine G_iconst (v := 1) C.1 dL_law_1436 (by decide) ?_
      exact hend M _
    · have hi : i + 5 ≤ L := by
        rw [Int32.lt_iff_toInt_lt, five L (by omega), nI_toInt (by omega)] at c
        omega
      have kk : ∀ M2, INV M2 → G ω ρ M2 1430 [(3, .int (nI i)), (2, .ref (adr ω 128)), (1, .ref (adr ω 0)), (0, .ref b)] [] := fun M2 hI2 => by
        refine G_iinc C.1 dL_law_1430 0 rfl (v := nI (i + 5)) (nI_add i 5) (by decide) (lv' := [(3, .int (nI (i + 5))), (2, .ref (adr ω 128)), (1, .ref (adr ω 0)), (0, .ref b)]) rfl ?_
        refine G_goto (tgt := 18) C.1 dL_law_1433 (by decide) ?_
        exact ih (i + 5) M2 (by omega) (by omega) hI2
      refine G_aload_n C.1 dL_law_26 3 rfl ?_
      refine G_iload_n C.1 dL_law_27 0 rfl ?_
      refine G_sld C (k := i) rfl (by omega) dL_law_28 ?_
      refine G_bipush (v := 63) C.1 dL_law_29 (by decide) ?_
      refine G_iand C.1 dL_law_31 ?_
      refine G_iname (fun v ev => ?_)
      by_cases cd : v.toInt < 0 ∨ 41 < v.toInt
      · exact G_tableOut (tgt := 1430) C.1 dL_law_32 cd (by decide) (kk M hI)
      · have cs : v.toInt = 0 ∨ v.toInt = 1 ∨ v.toInt = 2 ∨ v.toInt = 3 ∨ v.toInt = 4 ∨ v.toInt = 5 ∨ v.toInt = 6 ∨ v.toInt = 7 ∨ v.toInt = 8 ∨ v.toInt = 9 ∨ v.toInt = 10 ∨ v.toInt = 11 ∨ v.toInt = 12 ∨ v.toInt = 13 ∨ v.toInt = 14 ∨ v.toInt = 15 ∨ v.toInt = 16 ∨ v.toInt = 17 ∨ v.toInt = 18 ∨ v.toInt = 19 ∨ v.toInt = 20 ∨ v.toInt = 21 ∨ v.toInt = 22 ∨ v.toInt = 23 ∨ v.toInt = 24 ∨ v.toInt = 25 ∨ v.toInt = 26 ∨ v.toInt = 27 ∨ v.toInt = 28 ∨ v.toInt = 29 ∨ v.toInt = 30 ∨ v.toInt = 31 ∨ v.toInt = 32 ∨ v.toInt = 33 ∨ v.toInt = 34 ∨ v.toInt = 35 ∨ v.toInt = 36 ∨ v.toInt = 37 ∨ v.toInt = 38 ∨ v.toInt = 39 ∨ v.toInt = 40 ∨ v.toInt = 41 := by omega
        rcases cs with cs | cs | cs | cs | cs | cs | cs | cs | cs | cs | cs | cs | cs | cs | cs | cs | cs | cs | cs | cs | cs | cs | cs | cs | cs | cs | cs | cs | cs | cs | cs | cs | cs | cs | cs | cs | cs | cs | cs | cs | cs | cs
        · exact G_tableIn (tgt := 216) C.1 dL_law_32 (by omega) (by omega) (by rw [cs]; rfl) (by decide) (law_c0 C hi hI kk)
        · exact G_tableIn (tgt := 239) C.1 dL_law_32 (by omega) (by omega) (by rw [cs]; rfl) (by decide) (law_c1 C hi hI kk)
        · exact G_tableIn (tgt := 262) C.1 dL_law_32 (by omega) (by omega) (by rw [cs]; rfl) (by decide) (law_c2 C hi hI kk)
        · exact G_tableIn (tgt := 275) C.1 dL_law_32 (by omega) (by omega) (by rw [cs]; rfl) (by decide) (law_c3 C hi hI kk)
        · exact G_tableIn (tgt := 288) C.1 dL_law_32 (by omega) (by omega) (by rw [cs]; rfl) (by decide) (law_c4 C hi hI kk)
        · exact G_tableIn (tgt := 311) C.1 dL_law_32 (by omega) (by omega) (by rw [cs]; rfl) (by decide) (law_c5 C hi hI kk)
        · exact G_tableIn (tgt := 344) C.1 dL_law_32 (by omega) (by omega) (by rw [cs]; rfl) (by decide) (law_c6 C hi hI kk)
        · exact G_tableIn (tgt := 377) C.1 dL_law_32 (by omega) (by omega) (by rw [cs]; rfl) (by decide) (law_c7 C hi hI kk)
        · exact G_tableIn (tgt := 410) C.1 dL_law_32 (by omega) (by omega) (by rw [cs]; rfl) (by decide) (law_c8 C hi hI kk)
        · exact G_tableIn (tgt := 443) C.1 dL_law_32 (by omega) (by omega) (by rw [cs]; rfl) (by decide) (law_c9 C hi hI kk)
        · exact G_tableIn (tgt := 476) C.1 dL_law_32 (by omega) (by omega) (by rw [cs]; rfl) (by decide) (law_c10 C hi hI kk)
        · exact G_tableIn (tgt := 499) C.1 dL_law_32 (by omega) (by omega) (by rw [cs]; rfl) (by decide) (law_c11 C hi hI kk)
        · exact G_tableIn (tgt := 532) C.1 dL_law_32 (by omega) (by omega) (by rw [cs]; rfl) (by decide) (law_c12 C hi hI kk)
        · exact G_tableIn (tgt := 565) C.1 dL_law_32 (by omega) (by omega) (by rw [cs]; rfl) (by decide) (law_c13 C hi hI kk)
        · exact G_tableIn (tgt := 624) C.1 dL_law_32 (by omega) (by omega) (by rw [cs]; rfl) (by decide) (law_c14 C hi hI kk)
        · exact G_tableIn (tgt := 657) C.1 dL_law_32 (by omega) (by omega) (by rw [cs]; rfl) (by decide) (law_c15 C hi hI kk)
        · exact G_tableIn (tgt := 680) C.1 dL_law_32 (by omega) (by omega) (by rw [cs]; rfl) (by decide) (law_c16 C hi hI kk)
        · exact G_tableIn (tgt := 713) C.1 dL_law_32 (by omega) (by omega) (by rw [cs]; rfl) (by decide) (law_c17 C hi hI kk)
        · exact G_tableIn (tgt := 736) C.1 dL_law_32 (by omega) (by omega) (by rw [cs]; rfl) (by decide) (law_c18 C hi hI kk)
        · exact G_tableIn (tgt := 759) C.1 dL_law_32 (by omega) (by omega) (by rw [cs]; rfl) (by decide) (law_c19 C hi hI kk)
        · exact G_tableIn (tgt := 782) C.1 dL_law_32 (by omega) (by omega) (by rw [cs]; rfl) (by decide) (law_c20 C hi hI kk)
        · exact G_tableIn (tgt := 805) C.1 dL_law_32 (by omega) (by omega) (by rw [cs]; rfl) (by decide) (law_c21 C hi hI kk)
        · exact G_tableIn (tgt := 828) C.1 dL_law_32 (by omega) (by omega) (by rw [cs]; rfl) (by decide) (law_c22 C hi hI kk)
        · exact G_tableIn (tgt := 841) C.1 dL_law_32 (by omega) (by omega) (by rw [cs]; rfl) (by decide) (law_c23 C hi hI kk)
        · exact G_tableIn (tgt := 874) C.1 dL_law_32 (by omega) (by omega) (by rw [cs]; rfl) (by decide) (law_c24 C hi hI kk)
        · exact G_tableIn (tgt := 897) C.1 dL_law_32 (by omega) (by omega) (by rw [cs]; rfl) (by decide) (law_c25 C hi hI kk)
        · exact G_tableIn (tgt := 920) C.1 dL_law_32 (by omega) (by omega) (by rw [cs]; rfl) (by decide) (law_c26 C hi hI kk)
        · exact G_tableIn (tgt := 943) C.1 dL_law_32 (by omega) (by omega) (by rw [cs]; rfl) (by decide) (law_c27 C hi hI kk)
        · exact G_tableIn (tgt := 997) C.1 dL_law_32 (by omega) (by omega) (by rw [cs]; rfl) (by decide) (law_c28 C hi hI kk)
        · exact G_tableIn (tgt := 1031) C.1 dL_law_32 (by omega) (by omega) (by rw [cs]; rfl) (by decide) (law_c29 C hi hI kk)
        · exact G_tableIn (tgt := 1064) C.1 dL_law_32 (by omega) (by omega) (by rw [cs]; rfl) (by decide) (law_c30 C hi hI kk)
        · exact G_tableIn (tgt := 1087) C.1 dL_law_32 (by omega) (by omega) (by rw [cs]; rfl) (by decide) (law_c31 C hi hI kk)
        · exact G_tableIn (tgt := 1110) C.1 dL_law_32 (by omega) (by omega) (by rw [cs]; rfl) (by decide) (law_c32 C hi hI kk)
        · exact G_tableIn (tgt := 1133) C.1 dL_law_32 (by omega) (by omega) (by rw [cs]; rfl) (by decide) (law_c33 C hi hI kk)
        · exact G_tableIn (tgt := 1166) C.1 dL_law_32 (by omega) (by omega) (by rw [cs]; rfl) (by decide) (law_c34 C hi hI kk)
        · exact G_tableIn (tgt := 1209) C.1 dL_law_32 (by omega) (by omega) (by rw [cs]; rfl) (by decide) (law_c35 C hi hI kk)
        · exact G_tableIn (tgt := 1232) C.1 dL_law_32 (by omega) (by omega) (by rw [cs]; rfl) (by decide) (law_c36 C hi hI kk)
        · exact G_tableIn (tgt := 1255) C.1 dL_law_32 (by omega) (by omega) (by rw [cs]; rfl) (by decide) (law_c37 C hi hI kk)
        · exact G_tableIn (tgt := 1298) C.1 dL_law_32 (by omega) (by omega) (by rw [cs]; rfl) (by decide) (law_c38 C hi hI kk)
        · exact G_tableIn (tgt := 1341) C.1 dL_law_32 (by omega) (by omega) (by rw [cs]; rfl) (by decide) (law_c39 C hi hI kk)
        · exact G_tableIn (tgt := 1394) C.1 dL_law_32 (by omega) (by omega) (by rw [cs]; rfl) (by decide) (law_c40 C hi hI kk)
        · exact G_tableIn (tgt := 1407) C.1 dL_law_32 (by omega) (by omega) (by rw [cs]; rfl) (by decide) (law_c41 C hi hI kk)
