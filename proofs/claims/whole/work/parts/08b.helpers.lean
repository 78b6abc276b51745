theorem q_mn_X9_sleeper : q_Mn yX9_sleeper cX9_sleeper 3 (some .int) 1 := q_Mn.of (q_in.of 544 (by decide +kernel) (by decide +kernel)) (q_in.of 79 (by decide +kernel) (by decide +kernel)) ⟨by decide +kernel, by decide +kernel⟩ (by decide +kernel) (by decide)
theorem q_mi_X9_sleeper : q_in (.instanceMethod yX9_sleeper) := (q_in.of 542 (by decide +kernel) (by decide +kernel))
theorem q_se_X9_sleeper : q_in (.selects yX9_sleeper.cls yX9_sleeper yX9_sleeper) := (q_in.of 543 (by decide +kernel) (by decide +kernel))
theorem q_mn_X9_peg : q_Mn yX9_peg cX9_peg 5 (some .int) 3 := q_Mn.of (q_in.of 692 (by decide +kernel) (by decide +kernel)) (q_in.of 79 (by decide +kernel) (by decide +kernel)) ⟨by decide +kernel, by decide +kernel⟩ (by decide +kernel) (by decide)
theorem q_mi_X9_peg : q_in (.instanceMethod yX9_peg) := (q_in.of 690 (by decide +kernel) (by decide +kernel))
theorem q_se_X9_peg : q_in (.selects yX9_peg.cls yX9_peg yX9_peg) := (q_in.of 691 (by decide +kernel) (by decide +kernel))
theorem q_mn_X9_plot : q_Mn yX9_plot cX9_plot 5 (some .int) 3 := q_Mn.of (q_in.of 730 (by decide +kernel) (by decide +kernel)) (q_in.of 79 (by decide +kernel) (by decide +kernel)) ⟨by decide +kernel, by decide +kernel⟩ (by decide +kernel) (by decide)
theorem q_mi_X9_plot : q_in (.instanceMethod yX9_plot) := (q_in.of 728 (by decide +kernel) (by decide +kernel))
theorem q_se_X9_plot : q_in (.selects yX9_plot.cls yX9_plot yX9_plot) := (q_in.of 729 (by decide +kernel) (by decide +kernel))
theorem q_mn_X9_chain : q_Mn yX9_chain cX9_chain 5 (some .int) 3 := q_Mn.of (q_in.of 754 (by decide +kernel) (by decide +kernel)) (q_in.of 79 (by decide +kernel) (by decide +kernel)) ⟨by decide +kernel, by decide +kernel⟩ (by decide +kernel) (by decide)
theorem q_mi_X9_chain : q_in (.instanceMethod yX9_chain) := (q_in.of 752 (by decide +kernel) (by decide +kernel))
theorem q_se_X9_chain : q_in (.selects yX9_chain.cls yX9_chain yX9_chain) := (q_in.of 753 (by decide +kernel) (by decide +kernel))
theorem q_mn_X9_bend : q_Mn yX9_bend cX9_bend 5 (some .int) 3 := q_Mn.of (q_in.of 799 (by decide +kernel) (by decide +kernel)) (q_in.of 79 (by decide +kernel) (by decide +kernel)) ⟨by decide +kernel, by decide +kernel⟩ (by decide +kernel) (by decide)
theorem q_mi_X9_bend : q_in (.instanceMethod yX9_bend) := (q_in.of 797 (by decide +kernel) (by decide +kernel))
theorem q_se_X9_bend : q_in (.selects yX9_bend.cls yX9_bend yX9_bend) := (q_in.of 798 (by decide +kernel) (by decide +kernel))
theorem q_mn_X9_drop : q_Mn yX9_drop cX9_drop 3 (some .int) 1 := q_Mn.of (q_in.of 843 (by decide +kernel) (by decide +kernel)) (q_in.of 79 (by decide +kernel) (by decide +kernel)) ⟨by decide +kernel, by decide +kernel⟩ (by decide +kernel) (by decide)
theorem q_mi_X9_drop : q_in (.instanceMethod yX9_drop) := (q_in.of 841 (by decide +kernel) (by decide +kernel))
theorem q_se_X9_drop : q_in (.selects yX9_drop.cls yX9_drop yX9_drop) := (q_in.of 842 (by decide +kernel) (by decide +kernel))
theorem q_mn_X9_deep : q_Mn yX9_deep cX9_deep 4 (some .int) 2 := q_Mn.of (q_in.of 854 (by decide +kernel) (by decide +kernel)) (q_in.of 79 (by decide +kernel) (by decide +kernel)) ⟨by decide +kernel, by decide +kernel⟩ (by decide +kernel) (by decide)
theorem q_mi_X9_deep : q_in (.instanceMethod yX9_deep) := (q_in.of 852 (by decide +kernel) (by decide +kernel))
theorem q_se_X9_deep : q_in (.selects yX9_deep.cls yX9_deep yX9_deep) := (q_in.of 853 (by decide +kernel) (by decide +kernel))
theorem q_mn_X9_dusk : q_Mn yX9_dusk cX9_dusk 3 (some .int) 1 := q_Mn.of (q_in.of 866 (by decide +kernel) (by decide +kernel)) (q_in.of 79 (by decide +kernel) (by decide +kernel)) ⟨by decide +kernel, by decide +kernel⟩ (by decide +kernel) (by decide)
theorem q_mi_X9_dusk : q_in (.instanceMethod yX9_dusk) := (q_in.of 864 (by decide +kernel) (by decide +kernel))
theorem q_se_X9_dusk : q_in (.selects yX9_dusk.cls yX9_dusk yX9_dusk) := (q_in.of 865 (by decide +kernel) (by decide +kernel))
theorem q_mn_X9_sleeperOf : q_Mn yX9_sleeperOf cX9_sleeperOf 4 (some .int) 2 := q_Mn.of (q_in.of 883 (by decide +kernel) (by decide +kernel)) (q_in.of 79 (by decide +kernel) (by decide +kernel)) ⟨by decide +kernel, by decide +kernel⟩ (by decide +kernel) (by decide)
theorem q_mi_X9_sleeperOf : q_in (.instanceMethod yX9_sleeperOf) := (q_in.of 881 (by decide +kernel) (by decide +kernel))
theorem q_se_X9_sleeperOf : q_in (.selects yX9_sleeperOf.cls yX9_sleeperOf yX9_sleeperOf) := (q_in.of 882 (by decide +kernel) (by decide +kernel))
theorem q_mn_X9_chainOf : q_Mn yX9_chainOf cX9_chainOf 5 (some .int) 3 := q_Mn.of (q_in.of 897 (by decide +kernel) (by decide +kernel)) (q_in.of 79 (by decide +kernel) (by decide +kernel)) ⟨by decide +kernel, by decide +kernel⟩ (by decide +kernel) (by decide)
theorem q_mi_X9_chainOf : q_in (.instanceMethod yX9_chainOf) := (q_in.of 895 (by decide +kernel) (by decide +kernel))
theorem q_se_X9_chainOf : q_in (.selects yX9_chainOf.cls yX9_chainOf yX9_chainOf) := (q_in.of 896 (by decide +kernel) (by decide +kernel))
theorem q_mn_X9_pegOf : q_Mn yX9_pegOf cX9_pegOf 4 (some .int) 2 := q_Mn.of (q_in.of 910 (by decide +kernel) (by decide +kernel)) (q_in.of 79 (by decide +kernel) (by decide +kernel)) ⟨by decide +kernel, by decide +kernel⟩ (by decide +kernel) (by decide)
theorem q_mi_X9_pegOf : q_in (.instanceMethod yX9_pegOf) := (q_in.of 908 (by decide +kernel) (by decide +kernel))
theorem q_se_X9_pegOf : q_in (.selects yX9_pegOf.cls yX9_pegOf yX9_pegOf) := (q_in.of 909 (by decide +kernel) (by decide +kernel))
theorem q_mn_X9_owner : q_Mn yX9_owner cX9_owner 3 (some .int) 2 := q_Mn.of (q_in.of 920 (by decide +kernel) (by decide +kernel)) (q_in.of 79 (by decide +kernel) (by decide +kernel)) ⟨by decide +kernel, by decide +kernel⟩ (by decide +kernel) (by decide)
theorem q_mi_X9_owner : q_in (.instanceMethod yX9_owner) := (q_in.of 918 (by decide +kernel) (by decide +kernel))
theorem q_se_X9_owner : q_in (.selects yX9_owner.cls yX9_owner yX9_owner) := (q_in.of 919 (by decide +kernel) (by decide +kernel))
theorem q_mn_X9_isInside : q_Mn yX9_isInside cX9_isInside 4 (some .boolean) 3 := q_Mn.of (q_in.of 930 (by decide +kernel) (by decide +kernel)) (q_in.of 79 (by decide +kernel) (by decide +kernel)) ⟨by decide +kernel, by decide +kernel⟩ (by decide +kernel) (by decide)
theorem q_mi_X9_isInside : q_in (.instanceMethod yX9_isInside) := (q_in.of 928 (by decide +kernel) (by decide +kernel))
theorem q_se_X9_isInside : q_in (.selects yX9_isInside.cls yX9_isInside yX9_isInside) := (q_in.of 929 (by decide +kernel) (by decide +kernel))
theorem q_mn_X9_area : q_Mn yX9_area cX9_area 2 (some .int) 1 := q_Mn.of (q_in.of 938 (by decide +kernel) (by decide +kernel)) (q_in.of 79 (by decide +kernel) (by decide +kernel)) ⟨by decide +kernel, by decide +kernel⟩ (by decide +kernel) (by decide)
theorem q_mi_X9_area : q_in (.instanceMethod yX9_area) := (q_in.of 936 (by decide +kernel) (by decide +kernel))
theorem q_se_X9_area : q_in (.selects yX9_area.cls yX9_area yX9_area) := (q_in.of 937 (by decide +kernel) (by decide +kernel))
theorem q_mn_X9_areaAgain : q_Mn yX9_areaAgain cX9_areaAgain 2 (some .int) 1 := q_Mn.of (q_in.of 945 (by decide +kernel) (by decide +kernel)) (q_in.of 79 (by decide +kernel) (by decide +kernel)) ⟨by decide +kernel, by decide +kernel⟩ (by decide +kernel) (by decide)
theorem q_mi_X9_areaAgain : q_in (.instanceMethod yX9_areaAgain) := (q_in.of 943 (by decide +kernel) (by decide +kernel))
theorem q_se_X9_areaAgain : q_in (.selects yX9_areaAgain.cls yX9_areaAgain yX9_areaAgain) := (q_in.of 944 (by decide +kernel) (by decide +kernel))
theorem q_mn_X9_border : q_Mn yX9_border cX9_border 3 (some .int) 2 := q_Mn.of (q_in.of 952 (by decide +kernel) (by decide +kernel)) (q_in.of 79 (by decide +kernel) (by decide +kernel)) ⟨by decide +kernel, by decide +kernel⟩ (by decide +kernel) (by decide)
theorem q_mi_X9_border : q_in (.instanceMethod yX9_border) := (q_in.of 950 (by decide +kernel) (by decide +kernel))
theorem q_se_X9_border : q_in (.selects yX9_border.cls yX9_border yX9_border) := (q_in.of 951 (by decide +kernel) (by decide +kernel))
theorem q_mn_X9_borderAgain : q_Mn yX9_borderAgain cX9_borderAgain 3 (some .int) 2 := q_Mn.of (q_in.of 959 (by decide +kernel) (by decide +kernel)) (q_in.of 79 (by decide +kernel) (by decide +kernel)) ⟨by decide +kernel, by decide +kernel⟩ (by decide +kernel) (by decide)
theorem q_mi_X9_borderAgain : q_in (.instanceMethod yX9_borderAgain) := (q_in.of 957 (by decide +kernel) (by decide +kernel))
theorem q_se_X9_borderAgain : q_in (.selects yX9_borderAgain.cls yX9_borderAgain yX9_borderAgain) := (q_in.of 958 (by decide +kernel) (by decide +kernel))
theorem q_mn_X9_fence : q_Mn yX9_fence cX9_fence 2 (some .int) 1 := q_Mn.of (q_in.of 966 (by decide +kernel) (by decide +kernel)) (q_in.of 79 (by decide +kernel) (by decide +kernel)) ⟨by decide +kernel, by decide +kernel⟩ (by decide +kernel) (by decide)
theorem q_mi_X9_fence : q_in (.instanceMethod yX9_fence) := (q_in.of 964 (by decide +kernel) (by decide +kernel))
theorem q_se_X9_fence : q_in (.selects yX9_fence.cls yX9_fence yX9_fence) := (q_in.of 965 (by decide +kernel) (by decide +kernel))
theorem q_mn_X9_closes : q_Mn yX9_closes cX9_closes 3 (some .int) 1 := q_Mn.of (q_in.of 978 (by decide +kernel) (by decide +kernel)) (q_in.of 79 (by decide +kernel) (by decide +kernel)) ⟨by decide +kernel, by decide +kernel⟩ (by decide +kernel) (by decide)
theorem q_mi_X9_closes : q_in (.instanceMethod yX9_closes) := (q_in.of 976 (by decide +kernel) (by decide +kernel))
theorem q_se_X9_closes : q_in (.selects yX9_closes.cls yX9_closes yX9_closes) := (q_in.of 977 (by decide +kernel) (by decide +kernel))
theorem q_mn_X9_would : q_Mn yX9_would cX9_would 3 (some .int) 2 := q_Mn.of (q_in.of 1005 (by decide +kernel) (by decide +kernel)) (q_in.of 79 (by decide +kernel) (by decide +kernel)) ⟨by decide +kernel, by decide +kernel⟩ (by decide +kernel) (by decide)
theorem q_mi_X9_would : q_in (.instanceMethod yX9_would) := (q_in.of 1003 (by decide +kernel) (by decide +kernel))
theorem q_se_X9_would : q_in (.selects yX9_would.cls yX9_would yX9_would) := (q_in.of 1004 (by decide +kernel) (by decide +kernel))
theorem q_mn_X9_ranked : q_Mn yX9_ranked cX9_ranked 4 (some .int) 1 := q_Mn.of (q_in.of 1012 (by decide +kernel) (by decide +kernel)) (q_in.of 79 (by decide +kernel) (by decide +kernel)) ⟨by decide +kernel, by decide +kernel⟩ (by decide +kernel) (by decide)
theorem q_mi_X9_ranked : q_in (.instanceMethod yX9_ranked) := (q_in.of 1010 (by decide +kernel) (by decide +kernel))
theorem q_se_X9_ranked : q_in (.selects yX9_ranked.cls yX9_ranked yX9_ranked) := (q_in.of 1011 (by decide +kernel) (by decide +kernel))
theorem q_mn_X9_nextLit : q_Mn yX9_nextLit cX9_nextLit 1 (some .int) 0 := q_Mn.of (q_in.of 1028 (by decide +kernel) (by decide +kernel)) (q_in.of 79 (by decide +kernel) (by decide +kernel)) ⟨by decide +kernel, by decide +kernel⟩ (by decide +kernel) (by decide)
theorem q_mi_X9_nextLit : q_in (.instanceMethod yX9_nextLit) := (q_in.of 1026 (by decide +kernel) (by decide +kernel))
theorem q_se_X9_nextLit : q_in (.selects yX9_nextLit.cls yX9_nextLit yX9_nextLit) := (q_in.of 1027 (by decide +kernel) (by decide +kernel))
theorem q_mn_X9_type : q_Mn yX9_type cX9_type 2 (some .int) 1 := q_Mn.of (q_in.of 1043 (by decide +kernel) (by decide +kernel)) (q_in.of 79 (by decide +kernel) (by decide +kernel)) ⟨by decide +kernel, by decide +kernel⟩ (by decide +kernel) (by decide)
theorem q_mi_X9_type : q_in (.instanceMethod yX9_type) := (q_in.of 1041 (by decide +kernel) (by decide +kernel))
theorem q_se_X9_type : q_in (.selects yX9_type.cls yX9_type yX9_type) := (q_in.of 1042 (by decide +kernel) (by decide +kernel))
theorem q_mn_X9_read : q_Mn yX9_read cX9_read 5 (some .int) 0 := q_Mn.of (q_in.of 1066 (by decide +kernel) (by decide +kernel)) (q_in.of 79 (by decide +kernel) (by decide +kernel)) ⟨by decide +kernel, by decide +kernel⟩ (by decide +kernel) (by decide)
theorem q_mi_X9_read : q_in (.instanceMethod yX9_read) := (q_in.of 1064 (by decide +kernel) (by decide +kernel))
theorem q_se_X9_read : q_in (.selects yX9_read.cls yX9_read yX9_read) := (q_in.of 1065 (by decide +kernel) (by decide +kernel))
theorem q_mn_X9_errorPosition : q_Mn yX9_errorPosition cX9_errorPosition 1 (some .int) 0 := q_Mn.of (q_in.of 1175 (by decide +kernel) (by decide +kernel)) (q_in.of 79 (by decide +kernel) (by decide +kernel)) ⟨by decide +kernel, by decide +kernel⟩ (by decide +kernel) (by decide)
theorem q_mi_X9_errorPosition : q_in (.instanceMethod yX9_errorPosition) := (q_in.of 1173 (by decide +kernel) (by decide +kernel))
theorem q_se_X9_errorPosition : q_in (.selects yX9_errorPosition.cls yX9_errorPosition yX9_errorPosition) := (q_in.of 1174 (by decide +kernel) (by decide +kernel))
theorem q_mn_X9_refusal : q_Mn yX9_refusal cX9_refusal 4 (some .int) 2 := q_Mn.of (q_in.of 1183 (by decide +kernel) (by decide +kernel)) (q_in.of 79 (by decide +kernel) (by decide +kernel)) ⟨by decide +kernel, by decide +kernel⟩ (by decide +kernel) (by decide)
theorem q_mi_X9_refusal : q_in (.instanceMethod yX9_refusal) := (q_in.of 1181 (by decide +kernel) (by decide +kernel))
theorem q_se_X9_refusal : q_in (.selects yX9_refusal.cls yX9_refusal yX9_refusal) := (q_in.of 1182 (by decide +kernel) (by decide +kernel))
theorem q_mn_X9_show : q_Mn yX9_show cX9_show 4 (some .int) 1 := q_Mn.of (q_in.of 1191 (by decide +kernel) (by decide +kernel)) (q_in.of 79 (by decide +kernel) (by decide +kernel)) ⟨by decide +kernel, by decide +kernel⟩ (by decide +kernel) (by decide)
theorem q_mi_X9_show : q_in (.instanceMethod yX9_show) := (q_in.of 1189 (by decide +kernel) (by decide +kernel))
theorem q_se_X9_show : q_in (.selects yX9_show.cls yX9_show yX9_show) := (q_in.of 1190 (by decide +kernel) (by decide +kernel))
theorem q_mn_X9_tell : q_Mn yX9_tell cX9_tell 3 (some .int) 1 := q_Mn.of (q_in.of 1212 (by decide +kernel) (by decide +kernel)) (q_in.of 79 (by decide +kernel) (by decide +kernel)) ⟨by decide +kernel, by decide +kernel⟩ (by decide +kernel) (by decide)
theorem q_mi_X9_tell : q_in (.instanceMethod yX9_tell) := (q_in.of 1210 (by decide +kernel) (by decide +kernel))
theorem q_se_X9_tell : q_in (.selects yX9_tell.cls yX9_tell yX9_tell) := (q_in.of 1211 (by decide +kernel) (by decide +kernel))
theorem q_mn_X9_written : q_Mn yX9_written cX9_written 2 (some .char) 1 := q_Mn.of (q_in.of 1229 (by decide +kernel) (by decide +kernel)) (q_in.of 79 (by decide +kernel) (by decide +kernel)) ⟨by decide +kernel, by decide +kernel⟩ (by decide +kernel) (by decide)
theorem q_mi_X9_written : q_in (.instanceMethod yX9_written) := (q_in.of 1227 (by decide +kernel) (by decide +kernel))
theorem q_se_X9_written : q_in (.selects yX9_written.cls yX9_written yX9_written) := (q_in.of 1228 (by decide +kernel) (by decide +kernel))
theorem q_mn_X9_account : q_Mn yX9_account cX9_account 2 (some .int) 1 := q_Mn.of (q_in.of 1237 (by decide +kernel) (by decide +kernel)) (q_in.of 79 (by decide +kernel) (by decide +kernel)) ⟨by decide +kernel, by decide +kernel⟩ (by decide +kernel) (by decide)
theorem q_mi_X9_account : q_in (.instanceMethod yX9_account) := (q_in.of 1235 (by decide +kernel) (by decide +kernel))
theorem q_se_X9_account : q_in (.selects yX9_account.cls yX9_account yX9_account) := (q_in.of 1236 (by decide +kernel) (by decide +kernel))
theorem q_mn_X9_meanDepth : q_Mn yX9_meanDepth cX9_meanDepth 1 (some .double) 0 := q_Mn.of (q_in.of 1273 (by decide +kernel) (by decide +kernel)) (q_in.of 79 (by decide +kernel) (by decide +kernel)) ⟨by decide +kernel, by decide +kernel⟩ (by decide +kernel) (by decide)
theorem q_mi_X9_meanDepth : q_in (.instanceMethod yX9_meanDepth) := (q_in.of 1271 (by decide +kernel) (by decide +kernel))
theorem q_se_X9_meanDepth : q_in (.selects yX9_meanDepth.cls yX9_meanDepth yX9_meanDepth) := (q_in.of 1272 (by decide +kernel) (by decide +kernel))
theorem q_mn_X9_undo : q_Mn yX9_undo cX9_undo 1 (some .int) 0 := q_Mn.of (q_in.of 1287 (by decide +kernel) (by decide +kernel)) (q_in.of 79 (by decide +kernel) (by decide +kernel)) ⟨by decide +kernel, by decide +kernel⟩ (by decide +kernel) (by decide)
theorem q_mi_X9_undo : q_in (.instanceMethod yX9_undo) := (q_in.of 1285 (by decide +kernel) (by decide +kernel))
theorem q_se_X9_undo : q_in (.selects yX9_undo.cls yX9_undo yX9_undo) := (q_in.of 1286 (by decide +kernel) (by decide +kernel))
theorem q_mn_X9_restore : q_Mn yX9_restore cX9_restore 1 (some .int) 0 := q_Mn.of (q_in.of 1299 (by decide +kernel) (by decide +kernel)) (q_in.of 79 (by decide +kernel) (by decide +kernel)) ⟨by decide +kernel, by decide +kernel⟩ (by decide +kernel) (by decide)
theorem q_mi_X9_restore : q_in (.instanceMethod yX9_restore) := (q_in.of 1297 (by decide +kernel) (by decide +kernel))
theorem q_se_X9_restore : q_in (.selects yX9_restore.cls yX9_restore yX9_restore) := (q_in.of 1298 (by decide +kernel) (by decide +kernel))
theorem q_mn_X10_sleeper : q_Mn yX10_sleeper cX10_sleeper 2 (some .int) 1 := q_Mn.of (q_in.of 1410 (by decide +kernel) (by decide +kernel)) (q_in.of 89 (by decide +kernel) (by decide +kernel)) ⟨by decide +kernel, by decide +kernel⟩ (by decide +kernel) (by decide)
theorem q_mi_X10_sleeper : q_in (.instanceMethod yX10_sleeper) := (q_in.of 1408 (by decide +kernel) (by decide +kernel))
theorem q_se_X10_sleeper : q_in (.selects yX10_sleeper.cls yX10_sleeper yX10_sleeper) := (q_in.of 1409 (by decide +kernel) (by decide +kernel))
theorem q_mn_X10_thrown : q_Mn yX10_thrown cX10_thrown 1 (some .int) 0 := q_Mn.of (q_in.of 1406 (by decide +kernel) (by decide +kernel)) (q_in.of 89 (by decide +kernel) (by decide +kernel)) ⟨by decide +kernel, by decide +kernel⟩ (by decide +kernel) (by decide)
theorem q_mi_X10_thrown : q_in (.instanceMethod yX10_thrown) := (q_in.of 1404 (by decide +kernel) (by decide +kernel))
theorem q_se_X10_thrown : q_in (.selects yX10_thrown.cls yX10_thrown yX10_thrown) := (q_in.of 1405 (by decide +kernel) (by decide +kernel))
theorem q_mn_X10_peg : q_Mn yX10_peg cX10_peg 4 (some .int) 3 := q_Mn.of (q_in.of 1452 (by decide +kernel) (by decide +kernel)) (q_in.of 89 (by decide +kernel) (by decide +kernel)) ⟨by decide +kernel, by decide +kernel⟩ (by decide +kernel) (by decide)
theorem q_mi_X10_peg : q_in (.instanceMethod yX10_peg) := (q_in.of 1450 (by decide +kernel) (by decide +kernel))
theorem q_se_X10_peg : q_in (.selects yX10_peg.cls yX10_peg yX10_peg) := (q_in.of 1451 (by decide +kernel) (by decide +kernel))
theorem q_mn_X10_plot : q_Mn yX10_plot cX10_plot 4 (some .int) 3 := q_Mn.of (q_in.of 1478 (by decide +kernel) (by decide +kernel)) (q_in.of 89 (by decide +kernel) (by decide +kernel)) ⟨by decide +kernel, by decide +kernel⟩ (by decide +kernel) (by decide)
theorem q_mi_X10_plot : q_in (.instanceMethod yX10_plot) := (q_in.of 1476 (by decide +kernel) (by decide +kernel))
theorem q_se_X10_plot : q_in (.selects yX10_plot.cls yX10_plot yX10_plot) := (q_in.of 1477 (by decide +kernel) (by decide +kernel))
theorem q_mn_X10_chain : q_Mn yX10_chain cX10_chain 4 (some .int) 3 := q_Mn.of (q_in.of 1502 (by decide +kernel) (by decide +kernel)) (q_in.of 89 (by decide +kernel) (by decide +kernel)) ⟨by decide +kernel, by decide +kernel⟩ (by decide +kernel) (by decide)
theorem q_mi_X10_chain : q_in (.instanceMethod yX10_chain) := (q_in.of 1500 (by decide +kernel) (by decide +kernel))
theorem q_se_X10_chain : q_in (.selects yX10_chain.cls yX10_chain yX10_chain) := (q_in.of 1501 (by decide +kernel) (by decide +kernel))
theorem q_mn_X10_bend : q_Mn yX10_bend cX10_bend 4 (some .int) 3 := q_Mn.of (q_in.of 1553 (by decide +kernel) (by decide +kernel)) (q_in.of 89 (by decide +kernel) (by decide +kernel)) ⟨by decide +kernel, by decide +kernel⟩ (by decide +kernel) (by decide)
theorem q_mi_X10_bend : q_in (.instanceMethod yX10_bend) := (q_in.of 1551 (by decide +kernel) (by decide +kernel))
theorem q_se_X10_bend : q_in (.selects yX10_bend.cls yX10_bend yX10_bend) := (q_in.of 1552 (by decide +kernel) (by decide +kernel))
theorem q_mn_X10_drop : q_Mn yX10_drop cX10_drop 2 (some .int) 1 := q_Mn.of (q_in.of 1583 (by decide +kernel) (by decide +kernel)) (q_in.of 89 (by decide +kernel) (by decide +kernel)) ⟨by decide +kernel, by decide +kernel⟩ (by decide +kernel) (by decide)
theorem q_mi_X10_drop : q_in (.instanceMethod yX10_drop) := (q_in.of 1581 (by decide +kernel) (by decide +kernel))
theorem q_se_X10_drop : q_in (.selects yX10_drop.cls yX10_drop yX10_drop) := (q_in.of 1582 (by decide +kernel) (by decide +kernel))
theorem q_mn_X10_deep : q_Mn yX10_deep cX10_deep 3 (some .int) 2 := q_Mn.of (q_in.of 1595 (by decide +kernel) (by decide +kernel)) (q_in.of 89 (by decide +kernel) (by decide +kernel)) ⟨by decide +kernel, by decide +kernel⟩ (by decide +kernel) (by decide)
theorem q_mi_X10_deep : q_in (.instanceMethod yX10_deep) := (q_in.of 1593 (by decide +kernel) (by decide +kernel))
theorem q_se_X10_deep : q_in (.selects yX10_deep.cls yX10_deep yX10_deep) := (q_in.of 1594 (by decide +kernel) (by decide +kernel))
theorem q_mn_X10_dusk : q_Mn yX10_dusk cX10_dusk 2 (some .int) 1 := q_Mn.of (q_in.of 1610 (by decide +kernel) (by decide +kernel)) (q_in.of 89 (by decide +kernel) (by decide +kernel)) ⟨by decide +kernel, by decide +kernel⟩ (by decide +kernel) (by decide)
theorem q_mi_X10_dusk : q_in (.instanceMethod yX10_dusk) := (q_in.of 1608 (by decide +kernel) (by decide +kernel))
theorem q_se_X10_dusk : q_in (.selects yX10_dusk.cls yX10_dusk yX10_dusk) := (q_in.of 1609 (by decide +kernel) (by decide +kernel))
theorem q_mn_X10_sleeperOf : q_Mn yX10_sleeperOf cX10_sleeperOf 3 (some .int) 2 := q_Mn.of (q_in.of 1672 (by decide +kernel) (by decide +kernel)) (q_in.of 89 (by decide +kernel) (by decide +kernel)) ⟨by decide +kernel, by decide +kernel⟩ (by decide +kernel) (by decide)
theorem q_mi_X10_sleeperOf : q_in (.instanceMethod yX10_sleeperOf) := (q_in.of 1670 (by decide +kernel) (by decide +kernel))
theorem q_se_X10_sleeperOf : q_in (.selects yX10_sleeperOf.cls yX10_sleeperOf yX10_sleeperOf) := (q_in.of 1671 (by decide +kernel) (by decide +kernel))
theorem q_mn_X10_chainOf : q_Mn yX10_chainOf cX10_chainOf 4 (some .int) 3 := q_Mn.of (q_in.of 1684 (by decide +kernel) (by decide +kernel)) (q_in.of 89 (by decide +kernel) (by decide +kernel)) ⟨by decide +kernel, by decide +kernel⟩ (by decide +kernel) (by decide)
theorem q_mi_X10_chainOf : q_in (.instanceMethod yX10_chainOf) := (q_in.of 1682 (by decide +kernel) (by decide +kernel))
theorem q_se_X10_chainOf : q_in (.selects yX10_chainOf.cls yX10_chainOf yX10_chainOf) := (q_in.of 1683 (by decide +kernel) (by decide +kernel))
theorem q_mn_X10_pegOf : q_Mn yX10_pegOf cX10_pegOf 3 (some .int) 2 := q_Mn.of (q_in.of 1688 (by decide +kernel) (by decide +kernel)) (q_in.of 89 (by decide +kernel) (by decide +kernel)) ⟨by decide +kernel, by decide +kernel⟩ (by decide +kernel) (by decide)
theorem q_mi_X10_pegOf : q_in (.instanceMethod yX10_pegOf) := (q_in.of 1686 (by decide +kernel) (by decide +kernel))
theorem q_se_X10_pegOf : q_in (.selects yX10_pegOf.cls yX10_pegOf yX10_pegOf) := (q_in.of 1687 (by decide +kernel) (by decide +kernel))
theorem q_mn_X10_owner : q_Mn yX10_owner cX10_owner 3 (some .int) 2 := q_Mn.of (q_in.of 1625 (by decide +kernel) (by decide +kernel)) (q_in.of 89 (by decide +kernel) (by decide +kernel)) ⟨by decide +kernel, by decide +kernel⟩ (by decide +kernel) (by decide)
theorem q_mi_X10_owner : q_in (.instanceMethod yX10_owner) := (q_in.of 1623 (by decide +kernel) (by decide +kernel))
theorem q_se_X10_owner : q_in (.selects yX10_owner.cls yX10_owner yX10_owner) := (q_in.of 1624 (by decide +kernel) (by decide +kernel))
theorem q_mn_X10_isInside : q_Mn yX10_isInside cX10_isInside 4 (some .boolean) 3 := q_Mn.of (q_in.of 1640 (by decide +kernel) (by decide +kernel)) (q_in.of 89 (by decide +kernel) (by decide +kernel)) ⟨by decide +kernel, by decide +kernel⟩ (by decide +kernel) (by decide)
theorem q_mi_X10_isInside : q_in (.instanceMethod yX10_isInside) := (q_in.of 1638 (by decide +kernel) (by decide +kernel))
theorem q_se_X10_isInside : q_in (.selects yX10_isInside.cls yX10_isInside yX10_isInside) := (q_in.of 1639 (by decide +kernel) (by decide +kernel))
theorem q_mn_X10_area : q_Mn yX10_area cX10_area 2 (some .int) 1 := q_Mn.of (q_in.of 1644 (by decide +kernel) (by decide +kernel)) (q_in.of 89 (by decide +kernel) (by decide +kernel)) ⟨by decide +kernel, by decide +kernel⟩ (by decide +kernel) (by decide)
theorem q_mi_X10_area : q_in (.instanceMethod yX10_area) := (q_in.of 1642 (by decide +kernel) (by decide +kernel))
theorem q_se_X10_area : q_in (.selects yX10_area.cls yX10_area yX10_area) := (q_in.of 1643 (by decide +kernel) (by decide +kernel))
theorem q_mn_X10_areaAgain : q_Mn yX10_areaAgain cX10_areaAgain 2 (some .int) 1 := q_Mn.of (q_in.of 1652 (by decide +kernel) (by decide +kernel)) (q_in.of 89 (by decide +kernel) (by decide +kernel)) ⟨by decide +kernel, by decide +kernel⟩ (by decide +kernel) (by decide)
theorem q_mi_X10_areaAgain : q_in (.instanceMethod yX10_areaAgain) := (q_in.of 1650 (by decide +kernel) (by decide +kernel))
theorem q_se_X10_areaAgain : q_in (.selects yX10_areaAgain.cls yX10_areaAgain yX10_areaAgain) := (q_in.of 1651 (by decide +kernel) (by decide +kernel))
theorem q_mn_X10_border : q_Mn yX10_border cX10_border 3 (some .int) 2 := q_Mn.of (q_in.of 1656 (by decide +kernel) (by decide +kernel)) (q_in.of 89 (by decide +kernel) (by decide +kernel)) ⟨by decide +kernel, by decide +kernel⟩ (by decide +kernel) (by decide)
theorem q_mi_X10_border : q_in (.instanceMethod yX10_border) := (q_in.of 1654 (by decide +kernel) (by decide +kernel))
theorem q_se_X10_border : q_in (.selects yX10_border.cls yX10_border yX10_border) := (q_in.of 1655 (by decide +kernel) (by decide +kernel))
theorem q_mn_X10_borderAgain : q_Mn yX10_borderAgain cX10_borderAgain 3 (some .int) 2 := q_Mn.of (q_in.of 1664 (by decide +kernel) (by decide +kernel)) (q_in.of 89 (by decide +kernel) (by decide +kernel)) ⟨by decide +kernel, by decide +kernel⟩ (by decide +kernel) (by decide)
theorem q_mi_X10_borderAgain : q_in (.instanceMethod yX10_borderAgain) := (q_in.of 1662 (by decide +kernel) (by decide +kernel))
theorem q_se_X10_borderAgain : q_in (.selects yX10_borderAgain.cls yX10_borderAgain yX10_borderAgain) := (q_in.of 1663 (by decide +kernel) (by decide +kernel))
theorem q_mn_X10_fence : q_Mn yX10_fence cX10_fence 5 (some .int) 1 := q_Mn.of (q_in.of 1668 (by decide +kernel) (by decide +kernel)) (q_in.of 89 (by decide +kernel) (by decide +kernel)) ⟨by decide +kernel, by decide +kernel⟩ (by decide +kernel) (by decide)
theorem q_mi_X10_fence : q_in (.instanceMethod yX10_fence) := (q_in.of 1666 (by decide +kernel) (by decide +kernel))
theorem q_se_X10_fence : q_in (.selects yX10_fence.cls yX10_fence yX10_fence) := (q_in.of 1667 (by decide +kernel) (by decide +kernel))
theorem q_mn_X10_closes : q_Mn yX10_closes cX10_closes 2 (some .int) 1 := q_Mn.of (q_in.of 1696 (by decide +kernel) (by decide +kernel)) (q_in.of 89 (by decide +kernel) (by decide +kernel)) ⟨by decide +kernel, by decide +kernel⟩ (by decide +kernel) (by decide)
theorem q_mi_X10_closes : q_in (.instanceMethod yX10_closes) := (q_in.of 1694 (by decide +kernel) (by decide +kernel))
theorem q_se_X10_closes : q_in (.selects yX10_closes.cls yX10_closes yX10_closes) := (q_in.of 1695 (by decide +kernel) (by decide +kernel))
theorem q_mn_X10_would : q_Mn yX10_would cX10_would 3 (some .int) 2 := q_Mn.of (q_in.of 1700 (by decide +kernel) (by decide +kernel)) (q_in.of 89 (by decide +kernel) (by decide +kernel)) ⟨by decide +kernel, by decide +kernel⟩ (by decide +kernel) (by decide)
theorem q_mi_X10_would : q_in (.instanceMethod yX10_would) := (q_in.of 1698 (by decide +kernel) (by decide +kernel))
theorem q_se_X10_would : q_in (.selects yX10_would.cls yX10_would yX10_would) := (q_in.of 1699 (by decide +kernel) (by decide +kernel))
theorem q_mn_X10_ranked : q_Mn yX10_ranked cX10_ranked 5 (some .int) 1 := q_Mn.of (q_in.of 1704 (by decide +kernel) (by decide +kernel)) (q_in.of 89 (by decide +kernel) (by decide +kernel)) ⟨by decide +kernel, by decide +kernel⟩ (by decide +kernel) (by decide)
theorem q_mi_X10_ranked : q_in (.instanceMethod yX10_ranked) := (q_in.of 1702 (by decide +kernel) (by decide +kernel))
theorem q_se_X10_ranked : q_in (.selects yX10_ranked.cls yX10_ranked yX10_ranked) := (q_in.of 1703 (by decide +kernel) (by decide +kernel))
theorem q_mn_X10_nextLit : q_Mn yX10_nextLit cX10_nextLit 3 (some .int) 0 := q_Mn.of (q_in.of 1712 (by decide +kernel) (by decide +kernel)) (q_in.of 89 (by decide +kernel) (by decide +kernel)) ⟨by decide +kernel, by decide +kernel⟩ (by decide +kernel) (by decide)
theorem q_mi_X10_nextLit : q_in (.instanceMethod yX10_nextLit) := (q_in.of 1710 (by decide +kernel) (by decide +kernel))
theorem q_se_X10_nextLit : q_in (.selects yX10_nextLit.cls yX10_nextLit yX10_nextLit) := (q_in.of 1711 (by decide +kernel) (by decide +kernel))
theorem q_mn_X9_isWell : q_Mn yX9_isWell cX9_isWell 1 (some .boolean) 0 := q_Mn.of (q_in.of 394 (by decide +kernel) (by decide +kernel)) (q_in.of 79 (by decide +kernel) (by decide +kernel)) ⟨by decide +kernel, by decide +kernel⟩ (by decide +kernel) (by decide)
theorem q_mi_X9_isWell : q_in (.instanceMethod yX9_isWell) := (q_in.of 392 (by decide +kernel) (by decide +kernel))
theorem q_se_X9_isWell : q_in (.selects yX9_isWell.cls yX9_isWell yX9_isWell) := (q_in.of 393 (by decide +kernel) (by decide +kernel))
theorem q_mn_X10_isWell : q_Mn yX10_isWell cX10_isWell 1 (some .boolean) 0 := q_Mn.of (q_in.of 1716 (by decide +kernel) (by decide +kernel)) (q_in.of 89 (by decide +kernel) (by decide +kernel)) ⟨by decide +kernel, by decide +kernel⟩ (by decide +kernel) (by decide)
theorem q_mi_X10_isWell : q_in (.instanceMethod yX10_isWell) := (q_in.of 1714 (by decide +kernel) (by decide +kernel))
theorem q_se_X10_isWell : q_in (.selects yX10_isWell.cls yX10_isWell yX10_isWell) := (q_in.of 1715 (by decide +kernel) (by decide +kernel))
theorem q_mn_X10_type : q_Mn yX10_type cX10_type 2 (some .int) 1 := q_Mn.of (q_in.of 1720 (by decide +kernel) (by decide +kernel)) (q_in.of 89 (by decide +kernel) (by decide +kernel)) ⟨by decide +kernel, by decide +kernel⟩ (by decide +kernel) (by decide)
theorem q_mi_X10_type : q_in (.instanceMethod yX10_type) := (q_in.of 1718 (by decide +kernel) (by decide +kernel))
theorem q_se_X10_type : q_in (.selects yX10_type.cls yX10_type yX10_type) := (q_in.of 1719 (by decide +kernel) (by decide +kernel))
theorem q_mn_X10_read : q_Mn yX10_read cX10_read 2 (some .int) 0 := q_Mn.of (q_in.of 1724 (by decide +kernel) (by decide +kernel)) (q_in.of 89 (by decide +kernel) (by decide +kernel)) ⟨by decide +kernel, by decide +kernel⟩ (by decide +kernel) (by decide)
theorem q_mi_X10_read : q_in (.instanceMethod yX10_read) := (q_in.of 1722 (by decide +kernel) (by decide +kernel))
theorem q_se_X10_read : q_in (.selects yX10_read.cls yX10_read yX10_read) := (q_in.of 1723 (by decide +kernel) (by decide +kernel))
theorem q_mn_X10_errorPosition : q_Mn yX10_errorPosition cX10_errorPosition 1 (some .int) 0 := q_Mn.of (q_in.of 1782 (by decide +kernel) (by decide +kernel)) (q_in.of 89 (by decide +kernel) (by decide +kernel)) ⟨by decide +kernel, by decide +kernel⟩ (by decide +kernel) (by decide)
theorem q_mi_X10_errorPosition : q_in (.instanceMethod yX10_errorPosition) := (q_in.of 1780 (by decide +kernel) (by decide +kernel))
theorem q_se_X10_errorPosition : q_in (.selects yX10_errorPosition.cls yX10_errorPosition yX10_errorPosition) := (q_in.of 1781 (by decide +kernel) (by decide +kernel))
theorem q_mn_X10_refusal : q_Mn yX10_refusal cX10_refusal 4 (some .int) 2 := q_Mn.of (q_in.of 1786 (by decide +kernel) (by decide +kernel)) (q_in.of 89 (by decide +kernel) (by decide +kernel)) ⟨by decide +kernel, by decide +kernel⟩ (by decide +kernel) (by decide)
theorem q_mi_X10_refusal : q_in (.instanceMethod yX10_refusal) := (q_in.of 1784 (by decide +kernel) (by decide +kernel))
theorem q_se_X10_refusal : q_in (.selects yX10_refusal.cls yX10_refusal yX10_refusal) := (q_in.of 1785 (by decide +kernel) (by decide +kernel))
theorem q_mn_X10_show : q_Mn yX10_show cX10_show 3 (some .int) 1 := q_Mn.of (q_in.of 1790 (by decide +kernel) (by decide +kernel)) (q_in.of 89 (by decide +kernel) (by decide +kernel)) ⟨by decide +kernel, by decide +kernel⟩ (by decide +kernel) (by decide)
theorem q_mi_X10_show : q_in (.instanceMethod yX10_show) := (q_in.of 1788 (by decide +kernel) (by decide +kernel))
theorem q_se_X10_show : q_in (.selects yX10_show.cls yX10_show yX10_show) := (q_in.of 1789 (by decide +kernel) (by decide +kernel))
theorem q_mn_X10_tell : q_Mn yX10_tell cX10_tell 3 (some .int) 1 := q_Mn.of (q_in.of 1798 (by decide +kernel) (by decide +kernel)) (q_in.of 89 (by decide +kernel) (by decide +kernel)) ⟨by decide +kernel, by decide +kernel⟩ (by decide +kernel) (by decide)
theorem q_mi_X10_tell : q_in (.instanceMethod yX10_tell) := (q_in.of 1796 (by decide +kernel) (by decide +kernel))
theorem q_se_X10_tell : q_in (.selects yX10_tell.cls yX10_tell yX10_tell) := (q_in.of 1797 (by decide +kernel) (by decide +kernel))
theorem q_mn_X10_written : q_Mn yX10_written cX10_written 2 (some .char) 1 := q_Mn.of (q_in.of 1809 (by decide +kernel) (by decide +kernel)) (q_in.of 89 (by decide +kernel) (by decide +kernel)) ⟨by decide +kernel, by decide +kernel⟩ (by decide +kernel) (by decide)
theorem q_mi_X10_written : q_in (.instanceMethod yX10_written) := (q_in.of 1807 (by decide +kernel) (by decide +kernel))
theorem q_se_X10_written : q_in (.selects yX10_written.cls yX10_written yX10_written) := (q_in.of 1808 (by decide +kernel) (by decide +kernel))
theorem q_mn_X10_account : q_Mn yX10_account cX10_account 2 (some .int) 1 := q_Mn.of (q_in.of 1813 (by decide +kernel) (by decide +kernel)) (q_in.of 89 (by decide +kernel) (by decide +kernel)) ⟨by decide +kernel, by decide +kernel⟩ (by decide +kernel) (by decide)
theorem q_mi_X10_account : q_in (.instanceMethod yX10_account) := (q_in.of 1811 (by decide +kernel) (by decide +kernel))
theorem q_se_X10_account : q_in (.selects yX10_account.cls yX10_account yX10_account) := (q_in.of 1812 (by decide +kernel) (by decide +kernel))
theorem q_mn_X10_meanDepth : q_Mn yX10_meanDepth cX10_meanDepth 2 (some .double) 0 := q_Mn.of (q_in.of 1833 (by decide +kernel) (by decide +kernel)) (q_in.of 89 (by decide +kernel) (by decide +kernel)) ⟨by decide +kernel, by decide +kernel⟩ (by decide +kernel) (by decide)
theorem q_mi_X10_meanDepth : q_in (.instanceMethod yX10_meanDepth) := (q_in.of 1831 (by decide +kernel) (by decide +kernel))
theorem q_se_X10_meanDepth : q_in (.selects yX10_meanDepth.cls yX10_meanDepth yX10_meanDepth) := (q_in.of 1832 (by decide +kernel) (by decide +kernel))
theorem q_mn_X9_ownedShare : q_Mn yX9_ownedShare cX9_ownedShare 1 (some .float) 0 := q_Mn.of (q_in.of 505 (by decide +kernel) (by decide +kernel)) (q_in.of 79 (by decide +kernel) (by decide +kernel)) ⟨by decide +kernel, by decide +kernel⟩ (by decide +kernel) (by decide)
theorem q_mi_X9_ownedShare : q_in (.instanceMethod yX9_ownedShare) := (q_in.of 503 (by decide +kernel) (by decide +kernel))
theorem q_se_X9_ownedShare : q_in (.selects yX9_ownedShare.cls yX9_ownedShare yX9_ownedShare) := (q_in.of 504 (by decide +kernel) (by decide +kernel))
theorem q_mn_X10_ownedShare : q_Mn yX10_ownedShare cX10_ownedShare 1 (some .float) 0 := q_Mn.of (q_in.of 1837 (by decide +kernel) (by decide +kernel)) (q_in.of 89 (by decide +kernel) (by decide +kernel)) ⟨by decide +kernel, by decide +kernel⟩ (by decide +kernel) (by decide)
theorem q_mi_X10_ownedShare : q_in (.instanceMethod yX10_ownedShare) := (q_in.of 1835 (by decide +kernel) (by decide +kernel))
theorem q_se_X10_ownedShare : q_in (.selects yX10_ownedShare.cls yX10_ownedShare yX10_ownedShare) := (q_in.of 1836 (by decide +kernel) (by decide +kernel))
theorem q_mn_X10_undo : q_Mn yX10_undo cX10_undo 1 (some .int) 0 := q_Mn.of (q_in.of 1842 (by decide +kernel) (by decide +kernel)) (q_in.of 89 (by decide +kernel) (by decide +kernel)) ⟨by decide +kernel, by decide +kernel⟩ (by decide +kernel) (by decide)
theorem q_mi_X10_undo : q_in (.instanceMethod yX10_undo) := (q_in.of 1840 (by decide +kernel) (by decide +kernel))
theorem q_se_X10_undo : q_in (.selects yX10_undo.cls yX10_undo yX10_undo) := (q_in.of 1841 (by decide +kernel) (by decide +kernel))
theorem q_mn_X9_save : q_Mn yX9_save cX9_save 1 (some .int) 0 := q_Mn.of (q_in.of 514 (by decide +kernel) (by decide +kernel)) (q_in.of 79 (by decide +kernel) (by decide +kernel)) ⟨by decide +kernel, by decide +kernel⟩ (by decide +kernel) (by decide)
theorem q_mi_X9_save : q_in (.instanceMethod yX9_save) := (q_in.of 512 (by decide +kernel) (by decide +kernel))
theorem q_se_X9_save : q_in (.selects yX9_save.cls yX9_save yX9_save) := (q_in.of 513 (by decide +kernel) (by decide +kernel))
theorem q_mn_X10_save : q_Mn yX10_save cX10_save 1 (some .int) 0 := q_Mn.of (q_in.of 1846 (by decide +kernel) (by decide +kernel)) (q_in.of 89 (by decide +kernel) (by decide +kernel)) ⟨by decide +kernel, by decide +kernel⟩ (by decide +kernel) (by decide)
theorem q_mi_X10_save : q_in (.instanceMethod yX10_save) := (q_in.of 1844 (by decide +kernel) (by decide +kernel))
theorem q_se_X10_save : q_in (.selects yX10_save.cls yX10_save yX10_save) := (q_in.of 1845 (by decide +kernel) (by decide +kernel))
theorem q_mn_X10_restore : q_Mn yX10_restore cX10_restore 1 (some .int) 0 := q_Mn.of (q_in.of 1850 (by decide +kernel) (by decide +kernel)) (q_in.of 89 (by decide +kernel) (by decide +kernel)) ⟨by decide +kernel, by decide +kernel⟩ (by decide +kernel) (by decide)
theorem q_mi_X10_restore : q_in (.instanceMethod yX10_restore) := (q_in.of 1848 (by decide +kernel) (by decide +kernel))
theorem q_se_X10_restore : q_in (.selects yX10_restore.cls yX10_restore yX10_restore) := (q_in.of 1849 (by decide +kernel) (by decide +kernel))
theorem q_cst : ∀ a ∈ q_nm, q_in (.castable a a) := by
  intro a ha
  simp only [q_nm, List.mem_cons, List.not_mem_nil, or_false] at ha
  rcases ha with rfl | rfl | rfl | rfl | rfl | rfl
  · exact (q_in.of 712 (by decide +kernel) (by decide +kernel))
  · exact (q_in.of 567 (by decide +kernel) (by decide +kernel))
  · exact (q_in.of 639 (by decide +kernel) (by decide +kernel))
  · exact (q_in.of 981 (by decide +kernel) (by decide +kernel))
  · exact (q_in.of 1046 (by decide +kernel) (by decide +kernel))
  · exact (q_in.of 1268 (by decide +kernel) (by decide +kernel))
def q_hs_sleeper : List ((Nat × Nat × Nat × Nat) × String) := [((0, 9, 12, 13), "java/lang/IllegalArgumentException"), ((0, 9, 15, 15), "java/lang/UnsupportedOperationException")]
theorem q_hn_sleeper : q_Hn RL q_hs_sleeper := by
  intro z hz
  simp only [q_hs_sleeper, List.mem_cons, List.not_mem_nil, or_false] at hz
  rcases hz with rfl | rfl
  · exact ⟨by decide, (q_in.of 539 (by decide +kernel) (by decide +kernel)), by decide⟩
  · exact ⟨by decide, (q_in.of 540 (by decide +kernel) (by decide +kernel)), by decide⟩
theorem q_lm_7 : q_in (.methodLink RL 7 yX9_sleeper) := (q_in.of 541 (by decide +kernel) (by decide +kernel))
def q_hs_peg : List ((Nat × Nat × Nat × Nat) × String) := [((0, 12, 15, 21), "java/lang/IndexOutOfBoundsException"), ((0, 12, 19, 13), "java/lang/IllegalArgumentException"), ((0, 12, 23, 15), "java/lang/UnsupportedOperationException")]
theorem q_hn_peg : q_Hn RL q_hs_peg := by
  intro z hz
  simp only [q_hs_peg, List.mem_cons, List.not_mem_nil, or_false] at hz
  rcases hz with rfl | rfl | rfl
  · exact ⟨by decide, (q_in.of 665 (by decide +kernel) (by decide +kernel)), by decide⟩
  · exact ⟨by decide, (q_in.of 539 (by decide +kernel) (by decide +kernel)), by decide⟩
  · exact ⟨by decide, (q_in.of 540 (by decide +kernel) (by decide +kernel)), by decide⟩
theorem q_lm_17 : q_in (.methodLink RL 17 yX9_peg) := (q_in.of 689 (by decide +kernel) (by decide +kernel))
def q_hs_plot : List ((Nat × Nat × Nat × Nat) × String) := [((0, 12, 15, 21), "java/lang/IndexOutOfBoundsException"), ((0, 12, 19, 15), "java/lang/UnsupportedOperationException")]
theorem q_hn_plot : q_Hn RL q_hs_plot := by
  intro z hz
  simp only [q_hs_plot, List.mem_cons, List.not_mem_nil, or_false] at hz
  rcases hz with rfl | rfl
  · exact ⟨by decide, (q_in.of 665 (by decide +kernel) (by decide +kernel)), by decide⟩
  · exact ⟨by decide, (q_in.of 540 (by decide +kernel) (by decide +kernel)), by decide⟩
theorem q_lm_23 : q_in (.methodLink RL 23 yX9_plot) := (q_in.of 727 (by decide +kernel) (by decide +kernel))
def q_hs_chain : List ((Nat × Nat × Nat × Nat) × String) := [((0, 12, 15, 21), "java/lang/IndexOutOfBoundsException"), ((0, 12, 19, 13), "java/lang/IllegalArgumentException"), ((0, 12, 23, 15), "java/lang/UnsupportedOperationException")]
theorem q_hn_chain : q_Hn RL q_hs_chain := by
  intro z hz
  simp only [q_hs_chain, List.mem_cons, List.not_mem_nil, or_false] at hz
  rcases hz with rfl | rfl | rfl
  · exact ⟨by decide, (q_in.of 665 (by decide +kernel) (by decide +kernel)), by decide⟩
  · exact ⟨by decide, (q_in.of 539 (by decide +kernel) (by decide +kernel)), by decide⟩
  · exact ⟨by decide, (q_in.of 540 (by decide +kernel) (by decide +kernel)), by decide⟩
theorem q_lm_26 : q_in (.methodLink RL 26 yX9_chain) := (q_in.of 751 (by decide +kernel) (by decide +kernel))
def q_hs_bend : List ((Nat × Nat × Nat × Nat) × String) := [((0, 12, 15, 21), "java/lang/IndexOutOfBoundsException"), ((0, 12, 19, 13), "java/lang/IllegalArgumentException"), ((0, 12, 23, 15), "java/lang/UnsupportedOperationException")]
theorem q_hn_bend : q_Hn RL q_hs_bend := by
  intro z hz
  simp only [q_hs_bend, List.mem_cons, List.not_mem_nil, or_false] at hz
  rcases hz with rfl | rfl | rfl
  · exact ⟨by decide, (q_in.of 665 (by decide +kernel) (by decide +kernel)), by decide⟩
  · exact ⟨by decide, (q_in.of 539 (by decide +kernel) (by decide +kernel)), by decide⟩
  · exact ⟨by decide, (q_in.of 540 (by decide +kernel) (by decide +kernel)), by decide⟩
theorem q_lm_30 : q_in (.methodLink RL 30 yX9_bend) := (q_in.of 796 (by decide +kernel) (by decide +kernel))
def q_hs_drop : List ((Nat × Nat × Nat × Nat) × String) := [((0, 9, 12, 21), "java/lang/IndexOutOfBoundsException"), ((0, 9, 15, 15), "java/lang/UnsupportedOperationException")]
theorem q_hn_drop : q_Hn RL q_hs_drop := by
  intro z hz
  simp only [q_hs_drop, List.mem_cons, List.not_mem_nil, or_false] at hz
  rcases hz with rfl | rfl
  · exact ⟨by decide, (q_in.of 665 (by decide +kernel) (by decide +kernel)), by decide⟩
  · exact ⟨by decide, (q_in.of 540 (by decide +kernel) (by decide +kernel)), by decide⟩
theorem q_lm_33 : q_in (.methodLink RL 33 yX9_drop) := (q_in.of 840 (by decide +kernel) (by decide +kernel))
def q_hs_deep : List ((Nat × Nat × Nat × Nat) × String) := [((0, 10, 13, 21), "java/lang/IndexOutOfBoundsException"), ((0, 10, 17, 13), "java/lang/IllegalArgumentException"), ((0, 10, 21, 15), "java/lang/UnsupportedOperationException")]
theorem q_hn_deep : q_Hn RL q_hs_deep := by
  intro z hz
  simp only [q_hs_deep, List.mem_cons, List.not_mem_nil, or_false] at hz
  rcases hz with rfl | rfl | rfl
  · exact ⟨by decide, (q_in.of 665 (by decide +kernel) (by decide +kernel)), by decide⟩
  · exact ⟨by decide, (q_in.of 539 (by decide +kernel) (by decide +kernel)), by decide⟩
  · exact ⟨by decide, (q_in.of 540 (by decide +kernel) (by decide +kernel)), by decide⟩
theorem q_lm_36 : q_in (.methodLink RL 36 yX9_deep) := (q_in.of 851 (by decide +kernel) (by decide +kernel))
def q_hs_dusk : List ((Nat × Nat × Nat × Nat) × String) := [((0, 9, 12, 13), "java/lang/IllegalArgumentException")]
theorem q_hn_dusk : q_Hn RL q_hs_dusk := by
  intro z hz
  simp only [q_hs_dusk, List.mem_cons, List.not_mem_nil, or_false] at hz
  rcases hz with rfl
  · exact ⟨by decide, (q_in.of 539 (by decide +kernel) (by decide +kernel)), by decide⟩
theorem q_lm_40 : q_in (.methodLink RL 40 yX9_dusk) := (q_in.of 863 (by decide +kernel) (by decide +kernel))
def q_hs_sleeperOf : List ((Nat × Nat × Nat × Nat) × String) := [((0, 10, 13, 21), "java/lang/IndexOutOfBoundsException"), ((0, 10, 17, 13), "java/lang/IllegalArgumentException")]
theorem q_hn_sleeperOf : q_Hn RL q_hs_sleeperOf := by
  intro z hz
  simp only [q_hs_sleeperOf, List.mem_cons, List.not_mem_nil, or_false] at hz
  rcases hz with rfl | rfl
  · exact ⟨by decide, (q_in.of 665 (by decide +kernel) (by decide +kernel)), by decide⟩
  · exact ⟨by decide, (q_in.of 539 (by decide +kernel) (by decide +kernel)), by decide⟩
theorem q_lm_43 : q_in (.methodLink RL 43 yX9_sleeperOf) := (q_in.of 880 (by decide +kernel) (by decide +kernel))
def q_hs_chainOf : List ((Nat × Nat × Nat × Nat) × String) := [((0, 12, 15, 21), "java/lang/IndexOutOfBoundsException"), ((0, 12, 19, 13), "java/lang/IllegalArgumentException")]
theorem q_hn_chainOf : q_Hn RL q_hs_chainOf := by
  intro z hz
  simp only [q_hs_chainOf, List.mem_cons, List.not_mem_nil, or_false] at hz
  rcases hz with rfl | rfl
  · exact ⟨by decide, (q_in.of 665 (by decide +kernel) (by decide +kernel)), by decide⟩
  · exact ⟨by decide, (q_in.of 539 (by decide +kernel) (by decide +kernel)), by decide⟩
theorem q_lm_46 : q_in (.methodLink RL 46 yX9_chainOf) := (q_in.of 894 (by decide +kernel) (by decide +kernel))
def q_hs_pegOf : List ((Nat × Nat × Nat × Nat) × String) := [((0, 10, 13, 21), "java/lang/IndexOutOfBoundsException"), ((0, 10, 17, 13), "java/lang/IllegalArgumentException")]
theorem q_hn_pegOf : q_Hn RL q_hs_pegOf := by
  intro z hz
  simp only [q_hs_pegOf, List.mem_cons, List.not_mem_nil, or_false] at hz
  rcases hz with rfl | rfl
  · exact ⟨by decide, (q_in.of 665 (by decide +kernel) (by decide +kernel)), by decide⟩
  · exact ⟨by decide, (q_in.of 539 (by decide +kernel) (by decide +kernel)), by decide⟩
theorem q_lm_49 : q_in (.methodLink RL 49 yX9_pegOf) := (q_in.of 907 (by decide +kernel) (by decide +kernel))
def q_hs_owner : List ((Nat × Nat × Nat × Nat) × String) := [((0, 10, 13, 21), "java/lang/IndexOutOfBoundsException")]
theorem q_hn_owner : q_Hn RL q_hs_owner := by
  intro z hz
  simp only [q_hs_owner, List.mem_cons, List.not_mem_nil, or_false] at hz
  rcases hz with rfl
  · exact ⟨by decide, (q_in.of 665 (by decide +kernel) (by decide +kernel)), by decide⟩
theorem q_lm_52 : q_in (.methodLink RL 52 yX9_owner) := (q_in.of 917 (by decide +kernel) (by decide +kernel))
def q_hs_isInside : List ((Nat × Nat × Nat × Nat) × String) := [((0, 19, 22, 21), "java/lang/IndexOutOfBoundsException")]
theorem q_hn_isInside : q_Hn RL q_hs_isInside := by
  intro z hz
  simp only [q_hs_isInside, List.mem_cons, List.not_mem_nil, or_false] at hz
  rcases hz with rfl
  · exact ⟨by decide, (q_in.of 665 (by decide +kernel) (by decide +kernel)), by decide⟩
theorem q_lm_55 : q_in (.methodLink RL 55 yX9_isInside) := (q_in.of 927 (by decide +kernel) (by decide +kernel))
def q_hs_area : List ((Nat × Nat × Nat × Nat) × String) := [((0, 9, 12, 21), "java/lang/IndexOutOfBoundsException")]
theorem q_hn_area : q_Hn RL q_hs_area := by
  intro z hz
  simp only [q_hs_area, List.mem_cons, List.not_mem_nil, or_false] at hz
  rcases hz with rfl
  · exact ⟨by decide, (q_in.of 665 (by decide +kernel) (by decide +kernel)), by decide⟩
theorem q_lm_59 : q_in (.methodLink RL 59 yX9_area) := (q_in.of 935 (by decide +kernel) (by decide +kernel))
def q_hs_areaAgain : List ((Nat × Nat × Nat × Nat) × String) := [((0, 9, 12, 21), "java/lang/IndexOutOfBoundsException")]
theorem q_hn_areaAgain : q_Hn RL q_hs_areaAgain := by
  intro z hz
  simp only [q_hs_areaAgain, List.mem_cons, List.not_mem_nil, or_false] at hz
  rcases hz with rfl
  · exact ⟨by decide, (q_in.of 665 (by decide +kernel) (by decide +kernel)), by decide⟩
theorem q_lm_62 : q_in (.methodLink RL 62 yX9_areaAgain) := (q_in.of 942 (by decide +kernel) (by decide +kernel))
def q_hs_border : List ((Nat × Nat × Nat × Nat) × String) := [((0, 10, 13, 21), "java/lang/IndexOutOfBoundsException")]
theorem q_hn_border : q_Hn RL q_hs_border := by
  intro z hz
  simp only [q_hs_border, List.mem_cons, List.not_mem_nil, or_false] at hz
  rcases hz with rfl
  · exact ⟨by decide, (q_in.of 665 (by decide +kernel) (by decide +kernel)), by decide⟩
theorem q_lm_65 : q_in (.methodLink RL 65 yX9_border) := (q_in.of 949 (by decide +kernel) (by decide +kernel))
def q_hs_borderAgain : List ((Nat × Nat × Nat × Nat) × String) := [((0, 10, 13, 21), "java/lang/IndexOutOfBoundsException")]
theorem q_hn_borderAgain : q_Hn RL q_hs_borderAgain := by
  intro z hz
  simp only [q_hs_borderAgain, List.mem_cons, List.not_mem_nil, or_false] at hz
  rcases hz with rfl
  · exact ⟨by decide, (q_in.of 665 (by decide +kernel) (by decide +kernel)), by decide⟩
theorem q_lm_68 : q_in (.methodLink RL 68 yX9_borderAgain) := (q_in.of 956 (by decide +kernel) (by decide +kernel))
def q_hs_fence : List ((Nat × Nat × Nat × Nat) × String) := [((0, 9, 12, 21), "java/lang/IndexOutOfBoundsException")]
theorem q_hn_fence : q_Hn RL q_hs_fence := by
  intro z hz
  simp only [q_hs_fence, List.mem_cons, List.not_mem_nil, or_false] at hz
  rcases hz with rfl
  · exact ⟨by decide, (q_in.of 665 (by decide +kernel) (by decide +kernel)), by decide⟩
theorem q_lm_71 : q_in (.methodLink RL 71 yX9_fence) := (q_in.of 963 (by decide +kernel) (by decide +kernel))
def q_hs_closes : List ((Nat × Nat × Nat × Nat) × String) := [((0, 9, 12, 21), "java/lang/IndexOutOfBoundsException"), ((0, 9, 15, 77), "java/util/NoSuchElementException")]
theorem q_hn_closes : q_Hn RL q_hs_closes := by
  intro z hz
  simp only [q_hs_closes, List.mem_cons, List.not_mem_nil, or_false] at hz
  rcases hz with rfl | rfl
  · exact ⟨by decide, (q_in.of 665 (by decide +kernel) (by decide +kernel)), by decide⟩
  · exact ⟨by decide, (q_in.of 974 (by decide +kernel) (by decide +kernel)), by decide⟩
theorem q_lm_74 : q_in (.methodLink RL 74 yX9_closes) := (q_in.of 975 (by decide +kernel) (by decide +kernel))
def q_hs_would : List ((Nat × Nat × Nat × Nat) × String) := [((0, 10, 13, 21), "java/lang/IndexOutOfBoundsException"), ((0, 10, 17, 13), "java/lang/IllegalArgumentException")]
theorem q_hn_would : q_Hn RL q_hs_would := by
  intro z hz
  simp only [q_hs_would, List.mem_cons, List.not_mem_nil, or_false] at hz
  rcases hz with rfl | rfl
  · exact ⟨by decide, (q_in.of 665 (by decide +kernel) (by decide +kernel)), by decide⟩
  · exact ⟨by decide, (q_in.of 539 (by decide +kernel) (by decide +kernel)), by decide⟩
theorem q_lm_79 : q_in (.methodLink RL 79 yX9_would) := (q_in.of 1002 (by decide +kernel) (by decide +kernel))
def q_hs_ranked : List ((Nat × Nat × Nat × Nat) × String) := [((0, 9, 12, 77), "java/util/NoSuchElementException")]
theorem q_hn_ranked : q_Hn RL q_hs_ranked := by
  intro z hz
  simp only [q_hs_ranked, List.mem_cons, List.not_mem_nil, or_false] at hz
  rcases hz with rfl
  · exact ⟨by decide, (q_in.of 974 (by decide +kernel) (by decide +kernel)), by decide⟩
theorem q_lm_82 : q_in (.methodLink RL 82 yX9_ranked) := (q_in.of 1009 (by decide +kernel) (by decide +kernel))
def q_hs_nextLit : List ((Nat × Nat × Nat × Nat) × String) := [((0, 8, 11, 77), "java/util/NoSuchElementException")]
theorem q_hn_nextLit : q_Hn RL q_hs_nextLit := by
  intro z hz
  simp only [q_hs_nextLit, List.mem_cons, List.not_mem_nil, or_false] at hz
  rcases hz with rfl
  · exact ⟨by decide, (q_in.of 974 (by decide +kernel) (by decide +kernel)), by decide⟩
theorem q_lm_85 : q_in (.methodLink RL 85 yX9_nextLit) := (q_in.of 1025 (by decide +kernel) (by decide +kernel))
def q_hs_type : List ((Nat × Nat × Nat × Nat) × String) := [((0, 9, 12, 93), "java/lang/IllegalStateException")]
theorem q_hn_type : q_Hn RL q_hs_type := by
  intro z hz
  simp only [q_hs_type, List.mem_cons, List.not_mem_nil, or_false] at hz
  rcases hz with rfl
  · exact ⟨by decide, (q_in.of 1039 (by decide +kernel) (by decide +kernel)), by decide⟩
theorem q_lm_89 : q_in (.methodLink RL 89 yX9_type) := (q_in.of 1040 (by decide +kernel) (by decide +kernel))
def q_hs_read : List ((Nat × Nat × Nat × Nat) × String) := [((0, 8, 11, 13), "java/lang/IllegalArgumentException"), ((0, 8, 14, 15), "java/lang/UnsupportedOperationException")]
theorem q_hn_read : q_Hn RL q_hs_read := by
  intro z hz
  simp only [q_hs_read, List.mem_cons, List.not_mem_nil, or_false] at hz
  rcases hz with rfl | rfl
  · exact ⟨by decide, (q_in.of 539 (by decide +kernel) (by decide +kernel)), by decide⟩
  · exact ⟨by decide, (q_in.of 540 (by decide +kernel) (by decide +kernel)), by decide⟩
theorem q_lm_95 : q_in (.methodLink RL 95 yX9_read) := (q_in.of 1063 (by decide +kernel) (by decide +kernel))
def q_hs_errorPosition : List ((Nat × Nat × Nat × Nat) × String) := [((0, 8, 11, 77), "java/util/NoSuchElementException")]
theorem q_hn_errorPosition : q_Hn RL q_hs_errorPosition := by
  intro z hz
  simp only [q_hs_errorPosition, List.mem_cons, List.not_mem_nil, or_false] at hz
  rcases hz with rfl
  · exact ⟨by decide, (q_in.of 974 (by decide +kernel) (by decide +kernel)), by decide⟩
theorem q_lm_98 : q_in (.methodLink RL 98 yX9_errorPosition) := (q_in.of 1172 (by decide +kernel) (by decide +kernel))
def q_hs_refusal : List ((Nat × Nat × Nat × Nat) × String) := [((0, 10, 13, 77), "java/util/NoSuchElementException")]
theorem q_hn_refusal : q_Hn RL q_hs_refusal := by
  intro z hz
  simp only [q_hs_refusal, List.mem_cons, List.not_mem_nil, or_false] at hz
  rcases hz with rfl
  · exact ⟨by decide, (q_in.of 974 (by decide +kernel) (by decide +kernel)), by decide⟩
theorem q_lm_101 : q_in (.methodLink RL 101 yX9_refusal) := (q_in.of 1180 (by decide +kernel) (by decide +kernel))
def q_hs_show : List ((Nat × Nat × Nat × Nat) × String) := [((0, 9, 12, 21), "java/lang/IndexOutOfBoundsException")]
theorem q_hn_show : q_Hn RL q_hs_show := by
  intro z hz
  simp only [q_hs_show, List.mem_cons, List.not_mem_nil, or_false] at hz
  rcases hz with rfl
  · exact ⟨by decide, (q_in.of 665 (by decide +kernel) (by decide +kernel)), by decide⟩
theorem q_lm_105 : q_in (.methodLink RL 105 yX9_show) := (q_in.of 1188 (by decide +kernel) (by decide +kernel))
def q_hs_tell : List ((Nat × Nat × Nat × Nat) × String) := [((0, 9, 12, 21), "java/lang/IndexOutOfBoundsException")]
theorem q_hn_tell : q_Hn RL q_hs_tell := by
  intro z hz
  simp only [q_hs_tell, List.mem_cons, List.not_mem_nil, or_false] at hz
  rcases hz with rfl
  · exact ⟨by decide, (q_in.of 665 (by decide +kernel) (by decide +kernel)), by decide⟩
theorem q_lm_108 : q_in (.methodLink RL 108 yX9_tell) := (q_in.of 1209 (by decide +kernel) (by decide +kernel))
def q_hs_written : List ((Nat × Nat × Nat × Nat) × String) := [((0, 9, 12, 77), "java/util/NoSuchElementException")]
theorem q_hn_written : q_Hn RL q_hs_written := by
  intro z hz
  simp only [q_hs_written, List.mem_cons, List.not_mem_nil, or_false] at hz
  rcases hz with rfl
  · exact ⟨by decide, (q_in.of 974 (by decide +kernel) (by decide +kernel)), by decide⟩
theorem q_lm_111 : q_in (.methodLink RL 111 yX9_written) := (q_in.of 1226 (by decide +kernel) (by decide +kernel))
def q_hs_account : List ((Nat × Nat × Nat × Nat) × String) := [((0, 9, 12, 13), "java/lang/IllegalArgumentException")]
theorem q_hn_account : q_Hn RL q_hs_account := by
  intro z hz
  simp only [q_hs_account, List.mem_cons, List.not_mem_nil, or_false] at hz
  rcases hz with rfl
  · exact ⟨by decide, (q_in.of 539 (by decide +kernel) (by decide +kernel)), by decide⟩
theorem q_lm_115 : q_in (.methodLink RL 115 yX9_account) := (q_in.of 1234 (by decide +kernel) (by decide +kernel))
def q_hs_meanDepth : List ((Nat × Nat × Nat × Nat) × String) := [((0, 7, 10, 122), "java/lang/ArithmeticException")]
theorem q_hn_meanDepth : q_Hn RL q_hs_meanDepth := by
  intro z hz
  simp only [q_hs_meanDepth, List.mem_cons, List.not_mem_nil, or_false] at hz
  rcases hz with rfl
  · exact ⟨by decide, (q_in.of 1256 (by decide +kernel) (by decide +kernel)), by decide⟩
theorem q_lm_118 : q_in (.methodLink RL 118 yX9_meanDepth) := (q_in.of 1270 (by decide +kernel) (by decide +kernel))
def q_hs_undo : List ((Nat × Nat × Nat × Nat) × String) := [((0, 8, 11, 93), "java/lang/IllegalStateException")]
theorem q_hn_undo : q_Hn RL q_hs_undo := by
  intro z hz
  simp only [q_hs_undo, List.mem_cons, List.not_mem_nil, or_false] at hz
  rcases hz with rfl
  · exact ⟨by decide, (q_in.of 1039 (by decide +kernel) (by decide +kernel)), by decide⟩
theorem q_lm_124 : q_in (.methodLink RL 124 yX9_undo) := (q_in.of 1284 (by decide +kernel) (by decide +kernel))
def q_hs_restore : List ((Nat × Nat × Nat × Nat) × String) := [((0, 8, 11, 93), "java/lang/IllegalStateException")]
theorem q_hn_restore : q_Hn RL q_hs_restore := by
  intro z hz
  simp only [q_hs_restore, List.mem_cons, List.not_mem_nil, or_false] at hz
  rcases hz with rfl
  · exact ⟨by decide, (q_in.of 1039 (by decide +kernel) (by decide +kernel)), by decide⟩
theorem q_lm_127 : q_in (.methodLink RL 127 yX9_restore) := (q_in.of 1296 (by decide +kernel) (by decide +kernel))
theorem q_lml_134 : q_in (.methodLink RL 134 yL_sleeper) := (q_in.of 536 (by decide +kernel) (by decide +kernel))
theorem q_lcw_sleeper : q_in (.codeWith yL_sleeper cL_sleeper 4 (some .int) [(0, 9, 12, 13), (0, 9, 15, 15)]) := (q_in.of 538 (by decide +kernel) (by decide +kernel))
theorem q_lst_sleeper : q_in (.static yL_sleeper) := (q_in.of 537 (by decide +kernel) (by decide +kernel))
theorem q_lin : q_in (.initialized RL) := (q_in.of 78 (by decide +kernel) (by decide +kernel))
theorem q_lmv_139 : q_ML RL 139 yX10_sleeper := .inl (q_in.of 1407 (by decide +kernel) (by decide +kernel))
theorem q_lmv_140 : q_ML RL 140 yX10_thrown := .inl (q_in.of 1403 (by decide +kernel) (by decide +kernel))
theorem q_lml_143 : q_in (.methodLink RL 143 yL_peg) := (q_in.of 662 (by decide +kernel) (by decide +kernel))
theorem q_lcw_peg : q_in (.codeWith yL_peg cL_peg 6 (some .int) [(0, 12, 15, 21), (0, 12, 19, 13), (0, 12, 23, 15)]) := (q_in.of 664 (by decide +kernel) (by decide +kernel))
theorem q_lst_peg : q_in (.static yL_peg) := (q_in.of 663 (by decide +kernel) (by decide +kernel))
theorem q_lmv_146 : q_ML RL 146 yX10_peg := .inl (q_in.of 1449 (by decide +kernel) (by decide +kernel))
theorem q_lml_147 : q_in (.methodLink RL 147 yL_plot) := (q_in.of 724 (by decide +kernel) (by decide +kernel))
theorem q_lcw_plot : q_in (.codeWith yL_plot cL_plot 6 (some .int) [(0, 12, 15, 21), (0, 12, 19, 15)]) := (q_in.of 726 (by decide +kernel) (by decide +kernel))
theorem q_lst_plot : q_in (.static yL_plot) := (q_in.of 725 (by decide +kernel) (by decide +kernel))
theorem q_lmv_149 : q_ML RL 149 yX10_plot := .inl (q_in.of 1475 (by decide +kernel) (by decide +kernel))
theorem q_lml_150 : q_in (.methodLink RL 150 yL_chain) := (q_in.of 748 (by decide +kernel) (by decide +kernel))
theorem q_lcw_chain : q_in (.codeWith yL_chain cL_chain 6 (some .int) [(0, 12, 15, 21), (0, 12, 19, 13), (0, 12, 23, 15)]) := (q_in.of 750 (by decide +kernel) (by decide +kernel))
theorem q_lst_chain : q_in (.static yL_chain) := (q_in.of 749 (by decide +kernel) (by decide +kernel))
theorem q_lmv_153 : q_ML RL 153 yX10_chain := .inl (q_in.of 1499 (by decide +kernel) (by decide +kernel))
theorem q_lml_154 : q_in (.methodLink RL 154 yL_bend) := (q_in.of 793 (by decide +kernel) (by decide +kernel))
theorem q_lcw_bend : q_in (.codeWith yL_bend cL_bend 6 (some .int) [(0, 12, 15, 21), (0, 12, 19, 13), (0, 12, 23, 15)]) := (q_in.of 795 (by decide +kernel) (by decide +kernel))
theorem q_lst_bend : q_in (.static yL_bend) := (q_in.of 794 (by decide +kernel) (by decide +kernel))
theorem q_lmv_156 : q_ML RL 156 yX10_bend := .inl (q_in.of 1550 (by decide +kernel) (by decide +kernel))
theorem q_lml_157 : q_in (.methodLink RL 157 yL_drop) := (q_in.of 837 (by decide +kernel) (by decide +kernel))
theorem q_lcw_drop : q_in (.codeWith yL_drop cL_drop 4 (some .int) [(0, 9, 12, 21), (0, 9, 15, 15)]) := (q_in.of 839 (by decide +kernel) (by decide +kernel))
theorem q_lst_drop : q_in (.static yL_drop) := (q_in.of 838 (by decide +kernel) (by decide +kernel))
theorem q_lmv_159 : q_ML RL 159 yX10_drop := .inl (q_in.of 1580 (by decide +kernel) (by decide +kernel))
theorem q_lml_160 : q_in (.methodLink RL 160 yL_deep) := (q_in.of 848 (by decide +kernel) (by decide +kernel))
theorem q_lcw_deep : q_in (.codeWith yL_deep cL_deep 5 (some .int) [(0, 10, 13, 21), (0, 10, 17, 13), (0, 10, 21, 15)]) := (q_in.of 850 (by decide +kernel) (by decide +kernel))
theorem q_lst_deep : q_in (.static yL_deep) := (q_in.of 849 (by decide +kernel) (by decide +kernel))
theorem q_lmv_163 : q_ML RL 163 yX10_deep := .inl (q_in.of 1592 (by decide +kernel) (by decide +kernel))
theorem q_lml_164 : q_in (.methodLink RL 164 yL_dusk) := (q_in.of 860 (by decide +kernel) (by decide +kernel))
theorem q_lcw_dusk : q_in (.codeWith yL_dusk cL_dusk 4 (some .int) [(0, 9, 12, 13)]) := (q_in.of 862 (by decide +kernel) (by decide +kernel))
theorem q_lst_dusk : q_in (.static yL_dusk) := (q_in.of 861 (by decide +kernel) (by decide +kernel))
theorem q_lmv_166 : q_ML RL 166 yX10_dusk := .inl (q_in.of 1607 (by decide +kernel) (by decide +kernel))
theorem q_lml_167 : q_in (.methodLink RL 167 yL_sleeperOf) := (q_in.of 877 (by decide +kernel) (by decide +kernel))
theorem q_lcw_sleeperOf : q_in (.codeWith yL_sleeperOf cL_sleeperOf 5 (some .int) [(0, 10, 13, 21), (0, 10, 17, 13)]) := (q_in.of 879 (by decide +kernel) (by decide +kernel))
theorem q_lst_sleeperOf : q_in (.static yL_sleeperOf) := (q_in.of 878 (by decide +kernel) (by decide +kernel))
theorem q_lmv_169 : q_ML RL 169 yX10_sleeperOf := .inl (q_in.of 1669 (by decide +kernel) (by decide +kernel))
theorem q_lml_170 : q_in (.methodLink RL 170 yL_chainOf) := (q_in.of 891 (by decide +kernel) (by decide +kernel))
theorem q_lcw_chainOf : q_in (.codeWith yL_chainOf cL_chainOf 6 (some .int) [(0, 12, 15, 21), (0, 12, 19, 13)]) := (q_in.of 893 (by decide +kernel) (by decide +kernel))
theorem q_lst_chainOf : q_in (.static yL_chainOf) := (q_in.of 892 (by decide +kernel) (by decide +kernel))
theorem q_lmv_172 : q_ML RL 172 yX10_chainOf := .inl (q_in.of 1681 (by decide +kernel) (by decide +kernel))
theorem q_lml_173 : q_in (.methodLink RL 173 yL_pegOf) := (q_in.of 904 (by decide +kernel) (by decide +kernel))
theorem q_lcw_pegOf : q_in (.codeWith yL_pegOf cL_pegOf 5 (some .int) [(0, 10, 13, 21), (0, 10, 17, 13)]) := (q_in.of 906 (by decide +kernel) (by decide +kernel))
theorem q_lst_pegOf : q_in (.static yL_pegOf) := (q_in.of 905 (by decide +kernel) (by decide +kernel))
theorem q_lmv_175 : q_ML RL 175 yX10_pegOf := .inl (q_in.of 1685 (by decide +kernel) (by decide +kernel))
theorem q_lml_176 : q_in (.methodLink RL 176 yL_owner) := (q_in.of 914 (by decide +kernel) (by decide +kernel))
theorem q_lcw_owner : q_in (.codeWith yL_owner cL_owner 5 (some .int) [(0, 10, 13, 21)]) := (q_in.of 916 (by decide +kernel) (by decide +kernel))
theorem q_lst_owner : q_in (.static yL_owner) := (q_in.of 915 (by decide +kernel) (by decide +kernel))
theorem q_lmv_178 : q_ML RL 178 yX10_owner := .inl (q_in.of 1622 (by decide +kernel) (by decide +kernel))
theorem q_lml_179 : q_in (.methodLink RL 179 yL_isInside) := (q_in.of 924 (by decide +kernel) (by decide +kernel))
theorem q_lcw_isInside : q_in (.codeWith yL_isInside cL_isInside 6 (some .int) [(0, 19, 22, 21)]) := (q_in.of 926 (by decide +kernel) (by decide +kernel))
theorem q_lst_isInside : q_in (.static yL_isInside) := (q_in.of 925 (by decide +kernel) (by decide +kernel))
theorem q_lmv_181 : q_ML RL 181 yX10_isInside := .inl (q_in.of 1637 (by decide +kernel) (by decide +kernel))
theorem q_lml_182 : q_in (.methodLink RL 182 yL_area) := (q_in.of 932 (by decide +kernel) (by decide +kernel))
theorem q_lcw_area : q_in (.codeWith yL_area cL_area 4 (some .int) [(0, 9, 12, 21)]) := (q_in.of 934 (by decide +kernel) (by decide +kernel))
theorem q_lst_area : q_in (.static yL_area) := (q_in.of 933 (by decide +kernel) (by decide +kernel))
theorem q_lmv_184 : q_ML RL 184 yX10_area := .inl (q_in.of 1641 (by decide +kernel) (by decide +kernel))
theorem q_lml_185 : q_in (.methodLink RL 185 yL_areaAgain) := (q_in.of 939 (by decide +kernel) (by decide +kernel))
theorem q_lcw_areaAgain : q_in (.codeWith yL_areaAgain cL_areaAgain 4 (some .int) [(0, 9, 12, 21)]) := (q_in.of 941 (by decide +kernel) (by decide +kernel))
theorem q_lst_areaAgain : q_in (.static yL_areaAgain) := (q_in.of 940 (by decide +kernel) (by decide +kernel))
theorem q_lmv_187 : q_ML RL 187 yX10_areaAgain := .inl (q_in.of 1649 (by decide +kernel) (by decide +kernel))
theorem q_lml_188 : q_in (.methodLink RL 188 yL_border) := (q_in.of 946 (by decide +kernel) (by decide +kernel))
theorem q_lcw_border : q_in (.codeWith yL_border cL_border 5 (some .int) [(0, 10, 13, 21)]) := (q_in.of 948 (by decide +kernel) (by decide +kernel))
theorem q_lst_border : q_in (.static yL_border) := (q_in.of 947 (by decide +kernel) (by decide +kernel))
theorem q_lmv_190 : q_ML RL 190 yX10_border := .inl (q_in.of 1653 (by decide +kernel) (by decide +kernel))
theorem q_lml_191 : q_in (.methodLink RL 191 yL_borderAgain) := (q_in.of 953 (by decide +kernel) (by decide +kernel))
theorem q_lcw_borderAgain : q_in (.codeWith yL_borderAgain cL_borderAgain 5 (some .int) [(0, 10, 13, 21)]) := (q_in.of 955 (by decide +kernel) (by decide +kernel))
theorem q_lst_borderAgain : q_in (.static yL_borderAgain) := (q_in.of 954 (by decide +kernel) (by decide +kernel))
theorem q_lmv_193 : q_ML RL 193 yX10_borderAgain := .inl (q_in.of 1661 (by decide +kernel) (by decide +kernel))
theorem q_lml_194 : q_in (.methodLink RL 194 yL_fence) := (q_in.of 960 (by decide +kernel) (by decide +kernel))
theorem q_lcw_fence : q_in (.codeWith yL_fence cL_fence 4 (some .int) [(0, 9, 12, 21)]) := (q_in.of 962 (by decide +kernel) (by decide +kernel))
theorem q_lst_fence : q_in (.static yL_fence) := (q_in.of 961 (by decide +kernel) (by decide +kernel))
theorem q_lmv_196 : q_ML RL 196 yX10_fence := .inl (q_in.of 1665 (by decide +kernel) (by decide +kernel))
theorem q_lml_197 : q_in (.methodLink RL 197 yL_closes) := (q_in.of 971 (by decide +kernel) (by decide +kernel))
theorem q_lcw_closes : q_in (.codeWith yL_closes cL_closes 4 (some .int) [(0, 9, 12, 21), (0, 9, 15, 77)]) := (q_in.of 973 (by decide +kernel) (by decide +kernel))
theorem q_lst_closes : q_in (.static yL_closes) := (q_in.of 972 (by decide +kernel) (by decide +kernel))
theorem q_lmv_199 : q_ML RL 199 yX10_closes := .inl (q_in.of 1693 (by decide +kernel) (by decide +kernel))
theorem q_lml_200 : q_in (.methodLink RL 200 yL_would) := (q_in.of 999 (by decide +kernel) (by decide +kernel))
theorem q_lcw_would : q_in (.codeWith yL_would cL_would 5 (some .int) [(0, 10, 13, 21), (0, 10, 17, 13)]) := (q_in.of 1001 (by decide +kernel) (by decide +kernel))
theorem q_lst_would : q_in (.static yL_would) := (q_in.of 1000 (by decide +kernel) (by decide +kernel))
theorem q_lmv_202 : q_ML RL 202 yX10_would := .inl (q_in.of 1697 (by decide +kernel) (by decide +kernel))
theorem q_lml_203 : q_in (.methodLink RL 203 yL_ranked) := (q_in.of 1006 (by decide +kernel) (by decide +kernel))
theorem q_lcw_ranked : q_in (.codeWith yL_ranked cL_ranked 4 (some .int) [(0, 9, 12, 77)]) := (q_in.of 1008 (by decide +kernel) (by decide +kernel))
theorem q_lst_ranked : q_in (.static yL_ranked) := (q_in.of 1007 (by decide +kernel) (by decide +kernel))
theorem q_lmv_205 : q_ML RL 205 yX10_ranked := .inl (q_in.of 1701 (by decide +kernel) (by decide +kernel))
theorem q_lml_206 : q_in (.methodLink RL 206 yL_nextLit) := (q_in.of 1022 (by decide +kernel) (by decide +kernel))
theorem q_lcw_nextLit : q_in (.codeWith yL_nextLit cL_nextLit 3 (some .int) [(0, 8, 11, 77)]) := (q_in.of 1024 (by decide +kernel) (by decide +kernel))
theorem q_lst_nextLit : q_in (.static yL_nextLit) := (q_in.of 1023 (by decide +kernel) (by decide +kernel))
theorem q_lmv_209 : q_ML RL 209 yX10_nextLit := .inl (q_in.of 1709 (by decide +kernel) (by decide +kernel))
theorem q_lmv_210 : q_ML RL 210 yX9_isWell := .inl (q_in.of 391 (by decide +kernel) (by decide +kernel))
theorem q_lmv_214 : q_ML RL 214 yX10_isWell := .inl (q_in.of 1713 (by decide +kernel) (by decide +kernel))
theorem q_lml_215 : q_in (.methodLink RL 215 yL_type) := (q_in.of 1036 (by decide +kernel) (by decide +kernel))
theorem q_lcw_type : q_in (.codeWith yL_type cL_type 4 (some .int) [(0, 9, 12, 93)]) := (q_in.of 1038 (by decide +kernel) (by decide +kernel))
theorem q_lst_type : q_in (.static yL_type) := (q_in.of 1037 (by decide +kernel) (by decide +kernel))
theorem q_lmv_218 : q_ML RL 218 yX10_type := .inl (q_in.of 1717 (by decide +kernel) (by decide +kernel))
theorem q_lml_219 : q_in (.methodLink RL 219 yL_read) := (q_in.of 1060 (by decide +kernel) (by decide +kernel))
theorem q_lcw_read : q_in (.codeWith yL_read cL_read 3 (some .int) [(0, 8, 11, 13), (0, 8, 14, 15)]) := (q_in.of 1062 (by decide +kernel) (by decide +kernel))
theorem q_lst_read : q_in (.static yL_read) := (q_in.of 1061 (by decide +kernel) (by decide +kernel))
theorem q_lmv_221 : q_ML RL 221 yX10_read := .inl (q_in.of 1721 (by decide +kernel) (by decide +kernel))
theorem q_lml_222 : q_in (.methodLink RL 222 yL_errorPosition) := (q_in.of 1169 (by decide +kernel) (by decide +kernel))
theorem q_lcw_errorPosition : q_in (.codeWith yL_errorPosition cL_errorPosition 3 (some .int) [(0, 8, 11, 77)]) := (q_in.of 1171 (by decide +kernel) (by decide +kernel))
theorem q_lst_errorPosition : q_in (.static yL_errorPosition) := (q_in.of 1170 (by decide +kernel) (by decide +kernel))
theorem q_lmv_224 : q_ML RL 224 yX10_errorPosition := .inl (q_in.of 1779 (by decide +kernel) (by decide +kernel))
theorem q_lml_225 : q_in (.methodLink RL 225 yL_refusal) := (q_in.of 1177 (by decide +kernel) (by decide +kernel))
theorem q_lcw_refusal : q_in (.codeWith yL_refusal cL_refusal 5 (some .int) [(0, 10, 13, 77)]) := (q_in.of 1179 (by decide +kernel) (by decide +kernel))
theorem q_lst_refusal : q_in (.static yL_refusal) := (q_in.of 1178 (by decide +kernel) (by decide +kernel))
theorem q_lmv_228 : q_ML RL 228 yX10_refusal := .inl (q_in.of 1783 (by decide +kernel) (by decide +kernel))
theorem q_lml_229 : q_in (.methodLink RL 229 yL_show) := (q_in.of 1185 (by decide +kernel) (by decide +kernel))
theorem q_lcw_show : q_in (.codeWith yL_show cL_show 4 (some .int) [(0, 9, 12, 21)]) := (q_in.of 1187 (by decide +kernel) (by decide +kernel))
theorem q_lst_show : q_in (.static yL_show) := (q_in.of 1186 (by decide +kernel) (by decide +kernel))
theorem q_lmv_231 : q_ML RL 231 yX10_show := .inl (q_in.of 1787 (by decide +kernel) (by decide +kernel))
theorem q_lml_232 : q_in (.methodLink RL 232 yL_tell) := (q_in.of 1206 (by decide +kernel) (by decide +kernel))
theorem q_lcw_tell : q_in (.codeWith yL_tell cL_tell 4 (some .int) [(0, 9, 12, 21)]) := (q_in.of 1208 (by decide +kernel) (by decide +kernel))
theorem q_lst_tell : q_in (.static yL_tell) := (q_in.of 1207 (by decide +kernel) (by decide +kernel))
theorem q_lmv_234 : q_ML RL 234 yX10_tell := .inl (q_in.of 1795 (by decide +kernel) (by decide +kernel))
theorem q_lml_235 : q_in (.methodLink RL 235 yL_written) := (q_in.of 1223 (by decide +kernel) (by decide +kernel))
theorem q_lcw_written : q_in (.codeWith yL_written cL_written 4 (some .int) [(0, 9, 12, 77)]) := (q_in.of 1225 (by decide +kernel) (by decide +kernel))
theorem q_lst_written : q_in (.static yL_written) := (q_in.of 1224 (by decide +kernel) (by decide +kernel))
theorem q_lmv_237 : q_ML RL 237 yX10_written := .inl (q_in.of 1806 (by decide +kernel) (by decide +kernel))
theorem q_lml_238 : q_in (.methodLink RL 238 yL_account) := (q_in.of 1231 (by decide +kernel) (by decide +kernel))
theorem q_lcw_account : q_in (.codeWith yL_account cL_account 4 (some .int) [(0, 9, 12, 13)]) := (q_in.of 1233 (by decide +kernel) (by decide +kernel))
theorem q_lst_account : q_in (.static yL_account) := (q_in.of 1232 (by decide +kernel) (by decide +kernel))
theorem q_lmv_240 : q_ML RL 240 yX10_account := .inl (q_in.of 1810 (by decide +kernel) (by decide +kernel))
theorem q_lml_241 : q_in (.methodLink RL 241 yL_meanDepth) := (q_in.of 1253 (by decide +kernel) (by decide +kernel))
theorem q_lcw_meanDepth : q_in (.codeWith yL_meanDepth cL_meanDepth 3 (some .int) [(0, 7, 10, 122)]) := (q_in.of 1255 (by decide +kernel) (by decide +kernel))
theorem q_lst_meanDepth : q_in (.static yL_meanDepth) := (q_in.of 1254 (by decide +kernel) (by decide +kernel))
theorem q_lmv_244 : q_ML RL 244 yX10_meanDepth := .inl (q_in.of 1830 (by decide +kernel) (by decide +kernel))
theorem q_lmv_245 : q_ML RL 245 yX9_ownedShare := .inl (q_in.of 502 (by decide +kernel) (by decide +kernel))
theorem q_lmv_249 : q_ML RL 249 yX10_ownedShare := .inl (q_in.of 1834 (by decide +kernel) (by decide +kernel))
theorem q_lml_250 : q_in (.methodLink RL 250 yL_undo) := (q_in.of 1281 (by decide +kernel) (by decide +kernel))
theorem q_lcw_undo : q_in (.codeWith yL_undo cL_undo 3 (some .int) [(0, 8, 11, 93)]) := (q_in.of 1283 (by decide +kernel) (by decide +kernel))
theorem q_lst_undo : q_in (.static yL_undo) := (q_in.of 1282 (by decide +kernel) (by decide +kernel))
theorem q_lmv_252 : q_ML RL 252 yX10_undo := .inl (q_in.of 1839 (by decide +kernel) (by decide +kernel))
theorem q_lmv_253 : q_ML RL 253 yX9_save := .inl (q_in.of 511 (by decide +kernel) (by decide +kernel))
theorem q_lmv_256 : q_ML RL 256 yX10_save := .inl (q_in.of 1843 (by decide +kernel) (by decide +kernel))
theorem q_lml_257 : q_in (.methodLink RL 257 yL_restore) := (q_in.of 1293 (by decide +kernel) (by decide +kernel))
theorem q_lcw_restore : q_in (.codeWith yL_restore cL_restore 3 (some .int) [(0, 8, 11, 93)]) := (q_in.of 1295 (by decide +kernel) (by decide +kernel))
theorem q_lst_restore : q_in (.static yL_restore) := (q_in.of 1294 (by decide +kernel) (by decide +kernel))
theorem q_lmv_259 : q_ML RL 259 yX10_restore := .inl (q_in.of 1847 (by decide +kernel) (by decide +kernel))
set_option maxHeartbeats 4000000 in
set_option maxRecDepth 100000 in
theorem c_L_sleeper (l : Launch) (G : q_G) (x : q_A) (σ : q_S) (p0 : Int32) {e : Nat} {v : Int32} {τ : q_S} (h : f_X9_sleeper σ p0 = some (e, v, τ)) (he : e = 0 ∨ e = 2 ∨ e = 3) (hfl : l.stackTraces = false) : q_MetW l yL_sleeper cL_sleeper 4 [(0, 9, 12, 13), (0, 9, 15, 15)] 8 G [.ref (G.2.1 + 0), .int p0, .ref (G.2.1 + 303)] σ x (q_cd [2, 3] e) τ (if e = 0 then (v.toInt64, x.2) else x) := by
  rcases he with rfl | rfl | rfl
  · rw [show q_cd [2, 3] 0 = 0 by decide, if_pos rfl]
    refine q_ofWH (by decide) (Nat.le_of_ble_eq_true rfl) (fun X hl0 hx hr hE hN hR6 => ?_)
    subst hl0
    have hx : q_Cx X G RL cL_sleeper 4 8 := hx
    show q_Wq X G x 4 (q_MQW X G 0 τ (v.toInt64, x.2)) 0 0 0 [(0, .ref (G.2.1 + 0)), (1, .int p0), (2, .ref (G.2.1 + 303))] [] σ
    refine q_aload_n hx dL_sleeper_0 2 rfl ?_
    refine q_iconst (v := 0) hx dL_sleeper_1 (by decide) ?_
    refine q_aload_n hx dL_sleeper_2 0 rfl ?_
    refine q_iload_n hx dL_sleeper_3 1 rfl ?_
    refine q_callX (e := 0) (v := v) (τ := τ) (As := [.int p0]) (rest := [.int 0, .ref (G.2.1 + 303)]) (hs := q_hs_sleeper) hx hR6 (show q_Ex X (q_hs_sleeper.map (·.1)) from hE) hN (c_X9_sleeper (q_Xl X) G x σ p0 h hfl) q_lm_7 q_mn_X9_sleeper q_mi_X9_sleeper q_se_X9_sleeper (by decide) rfl (Nat.le_of_ble_eq_true rfl) dL_sleeper_4 rfl rfl q_hn_sleeper q_cst (fun h => absurd h (by decide)) (fun _ => ?_)
    refine q_i2l hx dL_sleeper_7 ?_
    refine q_last hx dL_sleeper_8 ?_
    refine q_goto hx 18 dL_sleeper_9 (by decide) ?_
    refine q_iconst (v := 0) hx dL_sleeper_18 (by decide) ?_
    exact q_wret hx hr (by decide) (by decide) dL_sleeper_19
  · rw [show q_cd [2, 3] 2 = 1 by decide, if_neg (by decide)]
    refine q_ofWH (by decide) (Nat.le_of_ble_eq_true rfl) (fun X hl0 hx hr hE hN hR6 => ?_)
    subst hl0
    have hx : q_Cx X G RL cL_sleeper 4 8 := hx
    show q_Wq X G x 4 (q_MQW X G 1 τ x) 0 0 0 [(0, .ref (G.2.1 + 0)), (1, .int p0), (2, .ref (G.2.1 + 303))] [] σ
    refine q_aload_n hx dL_sleeper_0 2 rfl ?_
    refine q_iconst (v := 0) hx dL_sleeper_1 (by decide) ?_
    refine q_aload_n hx dL_sleeper_2 0 rfl ?_
    refine q_iload_n hx dL_sleeper_3 1 rfl ?_
    refine q_callX (e := 2) (v := v) (τ := τ) (As := [.int p0]) (rest := [.int 0, .ref (G.2.1 + 303)]) (hs := q_hs_sleeper) hx hR6 (show q_Ex X (q_hs_sleeper.map (·.1)) from hE) hN (c_X9_sleeper (q_Xl X) G x σ p0 h hfl) q_lm_7 q_mn_X9_sleeper q_mi_X9_sleeper q_se_X9_sleeper (by decide) rfl (Nat.le_of_ble_eq_true rfl) dL_sleeper_4 rfl rfl q_hn_sleeper q_cst (fun _ => ⟨[], ((0, 9, 12, 13), "java/lang/IllegalArgumentException"), [((0, 9, 15, 15), "java/lang/UnsupportedOperationException")], rfl, by decide, by decide, rfl, fun q9 => ?_⟩) (fun h => absurd h (by decide))
    refine q_astore_n hx [(3, .ref q9), (0, .ref (G.2.1 + 0)), (1, .int p0), (2, .ref (G.2.1 + 303))] dL_sleeper_12 (by decide) rfl ?_
    refine q_iconst (v := 1) hx dL_sleeper_13 (by decide) ?_
    exact q_wret hx hr (by decide) (by decide) dL_sleeper_14
  · rw [show q_cd [2, 3] 3 = 2 by decide, if_neg (by decide)]
    refine q_ofWH (by decide) (Nat.le_of_ble_eq_true rfl) (fun X hl0 hx hr hE hN hR6 => ?_)
    subst hl0
    have hx : q_Cx X G RL cL_sleeper 4 8 := hx
    show q_Wq X G x 4 (q_MQW X G 2 τ x) 0 0 0 [(0, .ref (G.2.1 + 0)), (1, .int p0), (2, .ref (G.2.1 + 303))] [] σ
    refine q_aload_n hx dL_sleeper_0 2 rfl ?_
    refine q_iconst (v := 0) hx dL_sleeper_1 (by decide) ?_
    refine q_aload_n hx dL_sleeper_2 0 rfl ?_
    refine q_iload_n hx dL_sleeper_3 1 rfl ?_
    refine q_callX (e := 3) (v := v) (τ := τ) (As := [.int p0]) (rest := [.int 0, .ref (G.2.1 + 303)]) (hs := q_hs_sleeper) hx hR6 (show q_Ex X (q_hs_sleeper.map (·.1)) from hE) hN (c_X9_sleeper (q_Xl X) G x σ p0 h hfl) q_lm_7 q_mn_X9_sleeper q_mi_X9_sleeper q_se_X9_sleeper (by decide) rfl (Nat.le_of_ble_eq_true rfl) dL_sleeper_4 rfl rfl q_hn_sleeper q_cst (fun _ => ⟨[((0, 9, 12, 13), "java/lang/IllegalArgumentException")], ((0, 9, 15, 15), "java/lang/UnsupportedOperationException"), [], rfl, by decide, by decide, rfl, fun q9 => ?_⟩) (fun h => absurd h (by decide))
    refine q_astore_n hx [(3, .ref q9), (0, .ref (G.2.1 + 0)), (1, .int p0), (2, .ref (G.2.1 + 303))] dL_sleeper_15 (by decide) rfl ?_
    refine q_iconst (v := 2) hx dL_sleeper_16 (by decide) ?_
    exact q_wret hx hr (by decide) (by decide) dL_sleeper_17
set_option maxHeartbeats 4000000 in
set_option maxRecDepth 100000 in
theorem c_L_peg (l : Launch) (G : q_G) (x : q_A) (σ : q_S) (p0 : Int32) (p1 : Int32) (p2 : Int32) {e : Nat} {v : Int32} {τ : q_S} (h : f_X9_peg σ p0 p1 p2 = some (e, v, τ)) (he : e = 0 ∨ e = 1 ∨ e = 2 ∨ e = 3) (hfl : l.stackTraces = false) : q_MetW l yL_peg cL_peg 6 [(0, 12, 15, 21), (0, 12, 19, 13), (0, 12, 23, 15)] 8 G [.ref (G.2.1 + 0), .int p0, .int p1, .int p2, .ref (G.2.1 + 303)] σ x (q_cd [1, 2, 3] e) τ (if e = 0 then (v.toInt64, x.2) else x) := by
  rcases he with rfl | rfl | rfl | rfl
  · rw [show q_cd [1, 2, 3] 0 = 0 by decide, if_pos rfl]
    refine q_ofWH (by decide) (Nat.le_of_ble_eq_true rfl) (fun X hl0 hx hr hE hN hR6 => ?_)
    subst hl0
    have hx : q_Cx X G RL cL_peg 6 8 := hx
    show q_Wq X G x 6 (q_MQW X G 0 τ (v.toInt64, x.2)) 0 0 0 [(0, .ref (G.2.1 + 0)), (1, .int p0), (2, .int p1), (3, .int p2), (4, .ref (G.2.1 + 303))] [] σ
    refine q_aload hx dL_peg_0 4 rfl ?_
    refine q_iconst (v := 0) hx dL_peg_2 (by decide) ?_
    refine q_aload_n hx dL_peg_3 0 rfl ?_
    refine q_iload_n hx dL_peg_4 1 rfl ?_
    refine q_iload_n hx dL_peg_5 2 rfl ?_
    refine q_iload_n hx dL_peg_6 3 rfl ?_
    refine q_callX (e := 0) (v := v) (τ := τ) (As := [.int p0, .int p1, .int p2]) (rest := [.int 0, .ref (G.2.1 + 303)]) (hs := q_hs_peg) hx hR6 (show q_Ex X (q_hs_peg.map (·.1)) from hE) hN (c_X9_peg (q_Xl X) G x σ p0 p1 p2 h hfl) q_lm_17 q_mn_X9_peg q_mi_X9_peg q_se_X9_peg (by decide) rfl (Nat.le_of_ble_eq_true rfl) dL_peg_7 rfl rfl q_hn_peg q_cst (fun h => absurd h (by decide)) (fun _ => ?_)
    refine q_i2l hx dL_peg_10 ?_
    refine q_last hx dL_peg_11 ?_
    refine q_goto hx 27 dL_peg_12 (by decide) ?_
    refine q_iconst (v := 0) hx dL_peg_27 (by decide) ?_
    exact q_wret hx hr (by decide) (by decide) dL_peg_28
  · rw [show q_cd [1, 2, 3] 1 = 1 by decide, if_neg (by decide)]
    refine q_ofWH (by decide) (Nat.le_of_ble_eq_true rfl) (fun X hl0 hx hr hE hN hR6 => ?_)
    subst hl0
    have hx : q_Cx X G RL cL_peg 6 8 := hx
    show q_Wq X G x 6 (q_MQW X G 1 τ x) 0 0 0 [(0, .ref (G.2.1 + 0)), (1, .int p0), (2, .int p1), (3, .int p2), (4, .ref (G.2.1 + 303))] [] σ
    refine q_aload hx dL_peg_0 4 rfl ?_
    refine q_iconst (v := 0) hx dL_peg_2 (by decide) ?_
    refine q_aload_n hx dL_peg_3 0 rfl ?_
    refine q_iload_n hx dL_peg_4 1 rfl ?_
    refine q_iload_n hx dL_peg_5 2 rfl ?_
    refine q_iload_n hx dL_peg_6 3 rfl ?_
    refine q_callX (e := 1) (v := v) (τ := τ) (As := [.int p0, .int p1, .int p2]) (rest := [.int 0, .ref (G.2.1 + 303)]) (hs := q_hs_peg) hx hR6 (show q_Ex X (q_hs_peg.map (·.1)) from hE) hN (c_X9_peg (q_Xl X) G x σ p0 p1 p2 h hfl) q_lm_17 q_mn_X9_peg q_mi_X9_peg q_se_X9_peg (by decide) rfl (Nat.le_of_ble_eq_true rfl) dL_peg_7 rfl rfl q_hn_peg q_cst (fun _ => ⟨[], ((0, 12, 15, 21), "java/lang/IndexOutOfBoundsException"), [((0, 12, 19, 13), "java/lang/IllegalArgumentException"), ((0, 12, 23, 15), "java/lang/UnsupportedOperationException")], rfl, by decide, by decide, rfl, fun q9 => ?_⟩) (fun h => absurd h (by decide))
    refine q_astore hx [(5, .ref q9), (0, .ref (G.2.1 + 0)), (1, .int p0), (2, .int p1), (3, .int p2), (4, .ref (G.2.1 + 303))] dL_peg_15 (by decide) rfl ?_
    refine q_iconst (v := 1) hx dL_peg_17 (by decide) ?_
    exact q_wret hx hr (by decide) (by decide) dL_peg_18
  · rw [show q_cd [1, 2, 3] 2 = 2 by decide, if_neg (by decide)]
    refine q_ofWH (by decide) (Nat.le_of_ble_eq_true rfl) (fun X hl0 hx hr hE hN hR6 => ?_)
    subst hl0
    have hx : q_Cx X G RL cL_peg 6 8 := hx
    show q_Wq X G x 6 (q_MQW X G 2 τ x) 0 0 0 [(0, .ref (G.2.1 + 0)), (1, .int p0), (2, .int p1), (3, .int p2), (4, .ref (G.2.1 + 303))] [] σ
    refine q_aload hx dL_peg_0 4 rfl ?_
    refine q_iconst (v := 0) hx dL_peg_2 (by decide) ?_
    refine q_aload_n hx dL_peg_3 0 rfl ?_
    refine q_iload_n hx dL_peg_4 1 rfl ?_
    refine q_iload_n hx dL_peg_5 2 rfl ?_
    refine q_iload_n hx dL_peg_6 3 rfl ?_
    refine q_callX (e := 2) (v := v) (τ := τ) (As := [.int p0, .int p1, .int p2]) (rest := [.int 0, .ref (G.2.1 + 303)]) (hs := q_hs_peg) hx hR6 (show q_Ex X (q_hs_peg.map (·.1)) from hE) hN (c_X9_peg (q_Xl X) G x σ p0 p1 p2 h hfl) q_lm_17 q_mn_X9_peg q_mi_X9_peg q_se_X9_peg (by decide) rfl (Nat.le_of_ble_eq_true rfl) dL_peg_7 rfl rfl q_hn_peg q_cst (fun _ => ⟨[((0, 12, 15, 21), "java/lang/IndexOutOfBoundsException")], ((0, 12, 19, 13), "java/lang/IllegalArgumentException"), [((0, 12, 23, 15), "java/lang/UnsupportedOperationException")], rfl, by decide, by decide, rfl, fun q9 => ?_⟩) (fun h => absurd h (by decide))
    refine q_astore hx [(5, .ref q9), (0, .ref (G.2.1 + 0)), (1, .int p0), (2, .int p1), (3, .int p2), (4, .ref (G.2.1 + 303))] dL_peg_19 (by decide) rfl ?_
    refine q_iconst (v := 2) hx dL_peg_21 (by decide) ?_
    exact q_wret hx hr (by decide) (by decide) dL_peg_22
  · rw [show q_cd [1, 2, 3] 3 = 3 by decide, if_neg (by decide)]
    refine q_ofWH (by decide) (Nat.le_of_ble_eq_true rfl) (fun X hl0 hx hr hE hN hR6 => ?_)
    subst hl0
    have hx : q_Cx X G RL cL_peg 6 8 := hx
    show q_Wq X G x 6 (q_MQW X G 3 τ x) 0 0 0 [(0, .ref (G.2.1 + 0)), (1, .int p0), (2, .int p1), (3, .int p2), (4, .ref (G.2.1 + 303))] [] σ
    refine q_aload hx dL_peg_0 4 rfl ?_
    refine q_iconst (v := 0) hx dL_peg_2 (by decide) ?_
    refine q_aload_n hx dL_peg_3 0 rfl ?_
    refine q_iload_n hx dL_peg_4 1 rfl ?_
    refine q_iload_n hx dL_peg_5 2 rfl ?_
    refine q_iload_n hx dL_peg_6 3 rfl ?_
    refine q_callX (e := 3) (v := v) (τ := τ) (As := [.int p0, .int p1, .int p2]) (rest := [.int 0, .ref (G.2.1 + 303)]) (hs := q_hs_peg) hx hR6 (show q_Ex X (q_hs_peg.map (·.1)) from hE) hN (c_X9_peg (q_Xl X) G x σ p0 p1 p2 h hfl) q_lm_17 q_mn_X9_peg q_mi_X9_peg q_se_X9_peg (by decide) rfl (Nat.le_of_ble_eq_true rfl) dL_peg_7 rfl rfl q_hn_peg q_cst (fun _ => ⟨[((0, 12, 15, 21), "java/lang/IndexOutOfBoundsException"), ((0, 12, 19, 13), "java/lang/IllegalArgumentException")], ((0, 12, 23, 15), "java/lang/UnsupportedOperationException"), [], rfl, by decide, by decide, rfl, fun q9 => ?_⟩) (fun h => absurd h (by decide))
    refine q_astore hx [(5, .ref q9), (0, .ref (G.2.1 + 0)), (1, .int p0), (2, .int p1), (3, .int p2), (4, .ref (G.2.1 + 303))] dL_peg_23 (by decide) rfl ?_
    refine q_iconst (v := 3) hx dL_peg_25 (by decide) ?_
    exact q_wret hx hr (by decide) (by decide) dL_peg_26
set_option maxHeartbeats 4000000 in
set_option maxRecDepth 100000 in
theorem c_L_plot (l : Launch) (G : q_G) (x : q_A) (σ : q_S) (p0 : Int32) (p1 : Int32) (p2 : Int32) {e : Nat} {v : Int32} {τ : q_S} (h : f_X9_plot σ p0 p1 p2 = some (e, v, τ)) (he : e = 0 ∨ e = 1 ∨ e = 3) (hfl : l.stackTraces = false) : q_MetW l yL_plot cL_plot 6 [(0, 12, 15, 21), (0, 12, 19, 15)] 8 G [.ref (G.2.1 + 0), .int p0, .int p1, .int p2, .ref (G.2.1 + 303)] σ x (q_cd [1, 3] e) τ (if e = 0 then (v.toInt64, x.2) else x) := by
  rcases he with rfl | rfl | rfl
  · rw [show q_cd [1, 3] 0 = 0 by decide, if_pos rfl]
    refine q_ofWH (by decide) (Nat.le_of_ble_eq_true rfl) (fun X hl0 hx hr hE hN hR6 => ?_)
    subst hl0
    have hx : q_Cx X G RL cL_plot 6 8 := hx
    show q_Wq X G x 6 (q_MQW X G 0 τ (v.toInt64, x.2)) 0 0 0 [(0, .ref (G.2.1 + 0)), (1, .int p0), (2, .int p1), (3, .int p2), (4, .ref (G.2.1 + 303))] [] σ
    refine q_aload hx dL_plot_0 4 rfl ?_
    refine q_iconst (v := 0) hx dL_plot_2 (by decide) ?_
    refine q_aload_n hx dL_plot_3 0 rfl ?_
    refine q_iload_n hx dL_plot_4 1 rfl ?_
    refine q_iload_n hx dL_plot_5 2 rfl ?_
    refine q_iload_n hx dL_plot_6 3 rfl ?_
    refine q_callX (e := 0) (v := v) (τ := τ) (As := [.int p0, .int p1, .int p2]) (rest := [.int 0, .ref (G.2.1 + 303)]) (hs := q_hs_plot) hx hR6 (show q_Ex X (q_hs_plot.map (·.1)) from hE) hN (c_X9_plot (q_Xl X) G x σ p0 p1 p2 h hfl) q_lm_23 q_mn_X9_plot q_mi_X9_plot q_se_X9_plot (by decide) rfl (Nat.le_of_ble_eq_true rfl) dL_plot_7 rfl rfl q_hn_plot q_cst (fun h => absurd h (by decide)) (fun _ => ?_)
    refine q_i2l hx dL_plot_10 ?_
    refine q_last hx dL_plot_11 ?_
    refine q_goto hx 23 dL_plot_12 (by decide) ?_
    refine q_iconst (v := 0) hx dL_plot_23 (by decide) ?_
    exact q_wret hx hr (by decide) (by decide) dL_plot_24
  · rw [show q_cd [1, 3] 1 = 1 by decide, if_neg (by decide)]
    refine q_ofWH (by decide) (Nat.le_of_ble_eq_true rfl) (fun X hl0 hx hr hE hN hR6 => ?_)
    subst hl0
    have hx : q_Cx X G RL cL_plot 6 8 := hx
    show q_Wq X G x 6 (q_MQW X G 1 τ x) 0 0 0 [(0, .ref (G.2.1 + 0)), (1, .int p0), (2, .int p1), (3, .int p2), (4, .ref (G.2.1 + 303))] [] σ
    refine q_aload hx dL_plot_0 4 rfl ?_
    refine q_iconst (v := 0) hx dL_plot_2 (by decide) ?_
    refine q_aload_n hx dL_plot_3 0 rfl ?_
    refine q_iload_n hx dL_plot_4 1 rfl ?_
    refine q_iload_n hx dL_plot_5 2 rfl ?_
    refine q_iload_n hx dL_plot_6 3 rfl ?_
    refine q_callX (e := 1) (v := v) (τ := τ) (As := [.int p0, .int p1, .int p2]) (rest := [.int 0, .ref (G.2.1 + 303)]) (hs := q_hs_plot) hx hR6 (show q_Ex X (q_hs_plot.map (·.1)) from hE) hN (c_X9_plot (q_Xl X) G x σ p0 p1 p2 h hfl) q_lm_23 q_mn_X9_plot q_mi_X9_plot q_se_X9_plot (by decide) rfl (Nat.le_of_ble_eq_true rfl) dL_plot_7 rfl rfl q_hn_plot q_cst (fun _ => ⟨[], ((0, 12, 15, 21), "java/lang/IndexOutOfBoundsException"), [((0, 12, 19, 15), "java/lang/UnsupportedOperationException")], rfl, by decide, by decide, rfl, fun q9 => ?_⟩) (fun h => absurd h (by decide))
    refine q_astore hx [(5, .ref q9), (0, .ref (G.2.1 + 0)), (1, .int p0), (2, .int p1), (3, .int p2), (4, .ref (G.2.1 + 303))] dL_plot_15 (by decide) rfl ?_
    refine q_iconst (v := 1) hx dL_plot_17 (by decide) ?_
    exact q_wret hx hr (by decide) (by decide) dL_plot_18
  · rw [show q_cd [1, 3] 3 = 2 by decide, if_neg (by decide)]
    refine q_ofWH (by decide) (Nat.le_of_ble_eq_true rfl) (fun X hl0 hx hr hE hN hR6 => ?_)
    subst hl0
    have hx : q_Cx X G RL cL_plot 6 8 := hx
    show q_Wq X G x 6 (q_MQW X G 2 τ x) 0 0 0 [(0, .ref (G.2.1 + 0)), (1, .int p0), (2, .int p1), (3, .int p2), (4, .ref (G.2.1 + 303))] [] σ
    refine q_aload hx dL_plot_0 4 rfl ?_
    refine q_iconst (v := 0) hx dL_plot_2 (by decide) ?_
    refine q_aload_n hx dL_plot_3 0 rfl ?_
    refine q_iload_n hx dL_plot_4 1 rfl ?_
    refine q_iload_n hx dL_plot_5 2 rfl ?_
    refine q_iload_n hx dL_plot_6 3 rfl ?_
    refine q_callX (e := 3) (v := v) (τ := τ) (As := [.int p0, .int p1, .int p2]) (rest := [.int 0, .ref (G.2.1 + 303)]) (hs := q_hs_plot) hx hR6 (show q_Ex X (q_hs_plot.map (·.1)) from hE) hN (c_X9_plot (q_Xl X) G x σ p0 p1 p2 h hfl) q_lm_23 q_mn_X9_plot q_mi_X9_plot q_se_X9_plot (by decide) rfl (Nat.le_of_ble_eq_true rfl) dL_plot_7 rfl rfl q_hn_plot q_cst (fun _ => ⟨[((0, 12, 15, 21), "java/lang/IndexOutOfBoundsException")], ((0, 12, 19, 15), "java/lang/UnsupportedOperationException"), [], rfl, by decide, by decide, rfl, fun q9 => ?_⟩) (fun h => absurd h (by decide))
    refine q_astore hx [(5, .ref q9), (0, .ref (G.2.1 + 0)), (1, .int p0), (2, .int p1), (3, .int p2), (4, .ref (G.2.1 + 303))] dL_plot_19 (by decide) rfl ?_
    refine q_iconst (v := 2) hx dL_plot_21 (by decide) ?_
    exact q_wret hx hr (by decide) (by decide) dL_plot_22
set_option maxHeartbeats 4000000 in
set_option maxRecDepth 100000 in
theorem c_L_chain (l : Launch) (G : q_G) (x : q_A) (σ : q_S) (p0 : Int32) (p1 : Int32) (p2 : Int32) {e : Nat} {v : Int32} {τ : q_S} (h : f_X9_chain σ p0 p1 p2 = some (e, v, τ)) (he : e = 0 ∨ e = 1 ∨ e = 2 ∨ e = 3) (hfl : l.stackTraces = false) : q_MetW l yL_chain cL_chain 6 [(0, 12, 15, 21), (0, 12, 19, 13), (0, 12, 23, 15)] 8 G [.ref (G.2.1 + 0), .int p0, .int p1, .int p2, .ref (G.2.1 + 303)] σ x (q_cd [1, 2, 3] e) τ (if e = 0 then (v.toInt64, x.2) else x) := by
  rcases he with rfl | rfl | rfl | rfl
  · rw [show q_cd [1, 2, 3] 0 = 0 by decide, if_pos rfl]
    refine q_ofWH (by decide) (Nat.le_of_ble_eq_true rfl) (fun X hl0 hx hr hE hN hR6 => ?_)
    subst hl0
    have hx : q_Cx X G RL cL_chain 6 8 := hx
    show q_Wq X G x 6 (q_MQW X G 0 τ (v.toInt64, x.2)) 0 0 0 [(0, .ref (G.2.1 + 0)), (1, .int p0), (2, .int p1), (3, .int p2), (4, .ref (G.2.1 + 303))] [] σ
    refine q_aload hx dL_chain_0 4 rfl ?_
    refine q_iconst (v := 0) hx dL_chain_2 (by decide) ?_
    refine q_aload_n hx dL_chain_3 0 rfl ?_
    refine q_iload_n hx dL_chain_4 1 rfl ?_
    refine q_iload_n hx dL_chain_5 2 rfl ?_
    refine q_iload_n hx dL_chain_6 3 rfl ?_
    refine q_callX (e := 0) (v := v) (τ := τ) (As := [.int p0, .int p1, .int p2]) (rest := [.int 0, .ref (G.2.1 + 303)]) (hs := q_hs_chain) hx hR6 (show q_Ex X (q_hs_chain.map (·.1)) from hE) hN (c_X9_chain (q_Xl X) G x σ p0 p1 p2 h hfl) q_lm_26 q_mn_X9_chain q_mi_X9_chain q_se_X9_chain (by decide) rfl (Nat.le_of_ble_eq_true rfl) dL_chain_7 rfl rfl q_hn_chain q_cst (fun h => absurd h (by decide)) (fun _ => ?_)
    refine q_i2l hx dL_chain_10 ?_
    refine q_last hx dL_chain_11 ?_
    refine q_goto hx 27 dL_chain_12 (by decide) ?_
    refine q_iconst (v := 0) hx dL_chain_27 (by decide) ?_
    exact q_wret hx hr (by decide) (by decide) dL_chain_28
  · rw [show q_cd [1, 2, 3] 1 = 1 by decide, if_neg (by decide)]
    refine q_ofWH (by decide) (Nat.le_of_ble_eq_true rfl) (fun X hl0 hx hr hE hN hR6 => ?_)
    subst hl0
    have hx : q_Cx X G RL cL_chain 6 8 := hx
    show q_Wq X G x 6 (q_MQW X G 1 τ x) 0 0 0 [(0, .ref (G.2.1 + 0)), (1, .int p0), (2, .int p1), (3, .int p2), (4, .ref (G.2.1 + 303))] [] σ
    refine q_aload hx dL_chain_0 4 rfl ?_
    refine q_iconst (v := 0) hx dL_chain_2 (by decide) ?_
    refine q_aload_n hx dL_chain_3 0 rfl ?_
    refine q_iload_n hx dL_chain_4 1 rfl ?_
    refine q_iload_n hx dL_chain_5 2 rfl ?_
    refine q_iload_n hx dL_chain_6 3 rfl ?_
    refine q_callX (e := 1) (v := v) (τ := τ) (As := [.int p0, .int p1, .int p2]) (rest := [.int 0, .ref (G.2.1 + 303)]) (hs := q_hs_chain) hx hR6 (show q_Ex X (q_hs_chain.map (·.1)) from hE) hN (c_X9_chain (q_Xl X) G x σ p0 p1 p2 h hfl) q_lm_26 q_mn_X9_chain q_mi_X9_chain q_se_X9_chain (by decide) rfl (Nat.le_of_ble_eq_true rfl) dL_chain_7 rfl rfl q_hn_chain q_cst (fun _ => ⟨[], ((0, 12, 15, 21), "java/lang/IndexOutOfBoundsException"), [((0, 12, 19, 13), "java/lang/IllegalArgumentException"), ((0, 12, 23, 15), "java/lang/UnsupportedOperationException")], rfl, by decide, by decide, rfl, fun q9 => ?_⟩) (fun h => absurd h (by decide))
    refine q_astore hx [(5, .ref q9), (0, .ref (G.2.1 + 0)), (1, .int p0), (2, .int p1), (3, .int p2), (4, .ref (G.2.1 + 303))] dL_chain_15 (by decide) rfl ?_
    refine q_iconst (v := 1) hx dL_chain_17 (by decide) ?_
    exact q_wret hx hr (by decide) (by decide) dL_chain_18
  · rw [show q_cd [1, 2, 3] 2 = 2 by decide, if_neg (by decide)]
    refine q_ofWH (by decide) (Nat.le_of_ble_eq_true rfl) (fun X hl0 hx hr hE hN hR6 => ?_)
    subst hl0
    have hx : q_Cx X G RL cL_chain 6 8 := hx
    show q_Wq X G x 6 (q_MQW X G 2 τ x) 0 0 0 [(0, .ref (G.2.1 + 0)), (1, .int p0), (2, .int p1), (3, .int p2), (4, .ref (G.2.1 + 303))] [] σ
    refine q_aload hx dL_chain_0 4 rfl ?_
    refine q_iconst (v := 0) hx dL_chain_2 (by decide) ?_
    refine q_aload_n hx dL_chain_3 0 rfl ?_
    refine q_iload_n hx dL_chain_4 1 rfl ?_
    refine q_iload_n hx dL_chain_5 2 rfl ?_
    refine q_iload_n hx dL_chain_6 3 rfl ?_
    refine q_callX (e := 2) (v := v) (τ := τ) (As := [.int p0, .int p1, .int p2]) (rest := [.int 0, .ref (G.2.1 + 303)]) (hs := q_hs_chain) hx hR6 (show q_Ex X (q_hs_chain.map (·.1)) from hE) hN (c_X9_chain (q_Xl X) G x σ p0 p1 p2 h hfl) q_lm_26 q_mn_X9_chain q_mi_X9_chain q_se_X9_chain (by decide) rfl (Nat.le_of_ble_eq_true rfl) dL_chain_7 rfl rfl q_hn_chain q_cst (fun _ => ⟨[((0, 12, 15, 21), "java/lang/IndexOutOfBoundsException")], ((0, 12, 19, 13), "java/lang/IllegalArgumentException"), [((0, 12, 23, 15), "java/lang/UnsupportedOperationException")], rfl, by decide, by decide, rfl, fun q9 => ?_⟩) (fun h => absurd h (by decide))
    refine q_astore hx [(5, .ref q9), (0, .ref (G.2.1 + 0)), (1, .int p0), (2, .int p1), (3, .int p2), (4, .ref (G.2.1 + 303))] dL_chain_19 (by decide) rfl ?_
    refine q_iconst (v := 2) hx dL_chain_21 (by decide) ?_
    exact q_wret hx hr (by decide) (by decide) dL_chain_22
  · rw [show q_cd [1, 2, 3] 3 = 3 by decide, if_neg (by decide)]
    refine q_ofWH (by decide) (Nat.le_of_ble_eq_true rfl) (fun X hl0 hx hr hE hN hR6 => ?_)
    subst hl0
    have hx : q_Cx X G RL cL_chain 6 8 := hx
    show q_Wq X G x 6 (q_MQW X G 3 τ x) 0 0 0 [(0, .ref (G.2.1 + 0)), (1, .int p0), (2, .int p1), (3, .int p2), (4, .ref (G.2.1 + 303))] [] σ
    refine q_aload hx dL_chain_0 4 rfl ?_
    refine q_iconst (v := 0) hx dL_chain_2 (by decide) ?_
    refine q_aload_n hx dL_chain_3 0 rfl ?_
    refine q_iload_n hx dL_chain_4 1 rfl ?_
    refine q_iload_n hx dL_chain_5 2 rfl ?_
    refine q_iload_n hx dL_chain_6 3 rfl ?_
    refine q_callX (e := 3) (v := v) (τ := τ) (As := [.int p0, .int p1, .int p2]) (rest := [.int 0, .ref (G.2.1 + 303)]) (hs := q_hs_chain) hx hR6 (show q_Ex X (q_hs_chain.map (·.1)) from hE) hN (c_X9_chain (q_Xl X) G x σ p0 p1 p2 h hfl) q_lm_26 q_mn_X9_chain q_mi_X9_chain q_se_X9_chain (by decide) rfl (Nat.le_of_ble_eq_true rfl) dL_chain_7 rfl rfl q_hn_chain q_cst (fun _ => ⟨[((0, 12, 15, 21), "java/lang/IndexOutOfBoundsException"), ((0, 12, 19, 13), "java/lang/IllegalArgumentException")], ((0, 12, 23, 15), "java/lang/UnsupportedOperationException"), [], rfl, by decide, by decide, rfl, fun q9 => ?_⟩) (fun h => absurd h (by decide))
    refine q_astore hx [(5, .ref q9), (0, .ref (G.2.1 + 0)), (1, .int p0), (2, .int p1), (3, .int p2), (4, .ref (G.2.1 + 303))] dL_chain_23 (by decide) rfl ?_
    refine q_iconst (v := 3) hx dL_chain_25 (by decide) ?_
    exact q_wret hx hr (by decide) (by decide) dL_chain_26
set_option maxHeartbeats 4000000 in
set_option maxRecDepth 100000 in
theorem c_L_bend (l : Launch) (G : q_G) (x : q_A) (σ : q_S) (p0 : Int32) (p1 : Int32) (p2 : Int32) {e : Nat} {v : Int32} {τ : q_S} (h : f_X9_bend σ p0 p1 p2 = some (e, v, τ)) (he : e = 0 ∨ e = 1 ∨ e = 2 ∨ e = 3) (hfl : l.stackTraces = false) : q_MetW l yL_bend cL_bend 6 [(0, 12, 15, 21), (0, 12, 19, 13), (0, 12, 23, 15)] 8 G [.ref (G.2.1 + 0), .int p0, .int p1, .int p2, .ref (G.2.1 + 303)] σ x (q_cd [1, 2, 3] e) τ (if e = 0 then (v.toInt64, x.2) else x) := by
  rcases he with rfl | rfl | rfl | rfl
  · rw [show q_cd [1, 2, 3] 0 = 0 by decide, if_pos rfl]
    refine q_ofWH (by decide) (Nat.le_of_ble_eq_true rfl) (fun X hl0 hx hr hE hN hR6 => ?_)
    subst hl0
    have hx : q_Cx X G RL cL_bend 6 8 := hx
    show q_Wq X G x 6 (q_MQW X G 0 τ (v.toInt64, x.2)) 0 0 0 [(0, .ref (G.2.1 + 0)), (1, .int p0), (2, .int p1), (3, .int p2), (4, .ref (G.2.1 + 303))] [] σ
    refine q_aload hx dL_bend_0 4 rfl ?_
    refine q_iconst (v := 0) hx dL_bend_2 (by decide) ?_
    refine q_aload_n hx dL_bend_3 0 rfl ?_
    refine q_iload_n hx dL_bend_4 1 rfl ?_
    refine q_iload_n hx dL_bend_5 2 rfl ?_
    refine q_iload_n hx dL_bend_6 3 rfl ?_
    refine q_callX (e := 0) (v := v) (τ := τ) (As := [.int p0, .int p1, .int p2]) (rest := [.int 0, .ref (G.2.1 + 303)]) (hs := q_hs_bend) hx hR6 (show q_Ex X (q_hs_bend.map (·.1)) from hE) hN (c_X9_bend (q_Xl X) G x σ p0 p1 p2 h hfl) q_lm_30 q_mn_X9_bend q_mi_X9_bend q_se_X9_bend (by decide) rfl (Nat.le_of_ble_eq_true rfl) dL_bend_7 rfl rfl q_hn_bend q_cst (fun h => absurd h (by decide)) (fun _ => ?_)
    refine q_i2l hx dL_bend_10 ?_
    refine q_last hx dL_bend_11 ?_
    refine q_goto hx 27 dL_bend_12 (by decide) ?_
    refine q_iconst (v := 0) hx dL_bend_27 (by decide) ?_
    exact q_wret hx hr (by decide) (by decide) dL_bend_28
  · rw [show q_cd [1, 2, 3] 1 = 1 by decide, if_neg (by decide)]
    refine q_ofWH (by decide) (Nat.le_of_ble_eq_true rfl) (fun X hl0 hx hr hE hN hR6 => ?_)
    subst hl0
    have hx : q_Cx X G RL cL_bend 6 8 := hx
    show q_Wq X G x 6 (q_MQW X G 1 τ x) 0 0 0 [(0, .ref (G.2.1 + 0)), (1, .int p0), (2, .int p1), (3, .int p2), (4, .ref (G.2.1 + 303))] [] σ
    refine q_aload hx dL_bend_0 4 rfl ?_
    refine q_iconst (v := 0) hx dL_bend_2 (by decide) ?_
    refine q_aload_n hx dL_bend_3 0 rfl ?_
    refine q_iload_n hx dL_bend_4 1 rfl ?_
    refine q_iload_n hx dL_bend_5 2 rfl ?_
    refine q_iload_n hx dL_bend_6 3 rfl ?_
    refine q_callX (e := 1) (v := v) (τ := τ) (As := [.int p0, .int p1, .int p2]) (rest := [.int 0, .ref (G.2.1 + 303)]) (hs := q_hs_bend) hx hR6 (show q_Ex X (q_hs_bend.map (·.1)) from hE) hN (c_X9_bend (q_Xl X) G x σ p0 p1 p2 h hfl) q_lm_30 q_mn_X9_bend q_mi_X9_bend q_se_X9_bend (by decide) rfl (Nat.le_of_ble_eq_true rfl) dL_bend_7 rfl rfl q_hn_bend q_cst (fun _ => ⟨[], ((0, 12, 15, 21), "java/lang/IndexOutOfBoundsException"), [((0, 12, 19, 13), "java/lang/IllegalArgumentException"), ((0, 12, 23, 15), "java/lang/UnsupportedOperationException")], rfl, by decide, by decide, rfl, fun q9 => ?_⟩) (fun h => absurd h (by decide))
    refine q_astore hx [(5, .ref q9), (0, .ref (G.2.1 + 0)), (1, .int p0), (2, .int p1), (3, .int p2), (4, .ref (G.2.1 + 303))] dL_bend_15 (by decide) rfl ?_
    refine q_iconst (v := 1) hx dL_bend_17 (by decide) ?_
    exact q_wret hx hr (by decide) (by decide) dL_bend_18
  · rw [show q_cd [1, 2, 3] 2 = 2 by decide, if_neg (by decide)]
    refine q_ofWH (by decide) (Nat.le_of_ble_eq_true rfl) (fun X hl0 hx hr hE hN hR6 => ?_)
    subst hl0
    have hx : q_Cx X G RL cL_bend 6 8 := hx
    show q_Wq X G x 6 (q_MQW X G 2 τ x) 0 0 0 [(0, .ref (G.2.1 + 0)), (1, .int p0), (2, .int p1), (3, .int p2), (4, .ref (G.2.1 + 303))] [] σ
    refine q_aload hx dL_bend_0 4 rfl ?_
    refine q_iconst (v := 0) hx dL_bend_2 (by decide) ?_
    refine q_aload_n hx dL_bend_3 0 rfl ?_
    refine q_iload_n hx dL_bend_4 1 rfl ?_
    refine q_iload_n hx dL_bend_5 2 rfl ?_
    refine q_iload_n hx dL_bend_6 3 rfl ?_
    refine q_callX (e := 2) (v := v) (τ := τ) (As := [.int p0, .int p1, .int p2]) (rest := [.int 0, .ref (G.2.1 + 303)]) (hs := q_hs_bend) hx hR6 (show q_Ex X (q_hs_bend.map (·.1)) from hE) hN (c_X9_bend (q_Xl X) G x σ p0 p1 p2 h hfl) q_lm_30 q_mn_X9_bend q_mi_X9_bend q_se_X9_bend (by decide) rfl (Nat.le_of_ble_eq_true rfl) dL_bend_7 rfl rfl q_hn_bend q_cst (fun _ => ⟨[((0, 12, 15, 21), "java/lang/IndexOutOfBoundsException")], ((0, 12, 19, 13), "java/lang/IllegalArgumentException"), [((0, 12, 23, 15), "java/lang/UnsupportedOperationException")], rfl, by decide, by decide, rfl, fun q9 => ?_⟩) (fun h => absurd h (by decide))
    refine q_astore hx [(5, .ref q9), (0, .ref (G.2.1 + 0)), (1, .int p0), (2, .int p1), (3, .int p2), (4, .ref (G.2.1 + 303))] dL_bend_19 (by decide) rfl ?_
    refine q_iconst (v := 2) hx dL_bend_21 (by decide) ?_
    exact q_wret hx hr (by decide) (by decide) dL_bend_22
  · rw [show q_cd [1, 2, 3] 3 = 3 by decide, if_neg (by decide)]
    refine q_ofWH (by decide) (Nat.le_of_ble_eq_true rfl) (fun X hl0 hx hr hE hN hR6 => ?_)
    subst hl0
    have hx : q_Cx X G RL cL_bend 6 8 := hx
    show q_Wq X G x 6 (q_MQW X G 3 τ x) 0 0 0 [(0, .ref (G.2.1 + 0)), (1, .int p0), (2, .int p1), (3, .int p2), (4, .ref (G.2.1 + 303))] [] σ
    refine q_aload hx dL_bend_0 4 rfl ?_
    refine q_iconst (v := 0) hx dL_bend_2 (by decide) ?_
    refine q_aload_n hx dL_bend_3 0 rfl ?_
    refine q_iload_n hx dL_bend_4 1 rfl ?_
    refine q_iload_n hx dL_bend_5 2 rfl ?_
    refine q_iload_n hx dL_bend_6 3 rfl ?_
    refine q_callX (e := 3) (v := v) (τ := τ) (As := [.int p0, .int p1, .int p2]) (rest := [.int 0, .ref (G.2.1 + 303)]) (hs := q_hs_bend) hx hR6 (show q_Ex X (q_hs_bend.map (·.1)) from hE) hN (c_X9_bend (q_Xl X) G x σ p0 p1 p2 h hfl) q_lm_30 q_mn_X9_bend q_mi_X9_bend q_se_X9_bend (by decide) rfl (Nat.le_of_ble_eq_true rfl) dL_bend_7 rfl rfl q_hn_bend q_cst (fun _ => ⟨[((0, 12, 15, 21), "java/lang/IndexOutOfBoundsException"), ((0, 12, 19, 13), "java/lang/IllegalArgumentException")], ((0, 12, 23, 15), "java/lang/UnsupportedOperationException"), [], rfl, by decide, by decide, rfl, fun q9 => ?_⟩) (fun h => absurd h (by decide))
    refine q_astore hx [(5, .ref q9), (0, .ref (G.2.1 + 0)), (1, .int p0), (2, .int p1), (3, .int p2), (4, .ref (G.2.1 + 303))] dL_bend_23 (by decide) rfl ?_
    refine q_iconst (v := 3) hx dL_bend_25 (by decide) ?_
    exact q_wret hx hr (by decide) (by decide) dL_bend_26
set_option maxHeartbeats 4000000 in
set_option maxRecDepth 100000 in
theorem c_L_drop (l : Launch) (G : q_G) (x : q_A) (σ : q_S) (p0 : Int32) {e : Nat} {v : Int32} {τ : q_S} (h : f_X9_drop σ p0 = some (e, v, τ)) (he : e = 0 ∨ e = 1 ∨ e = 3) (hfl : l.stackTraces = false) : q_MetW l yL_drop cL_drop 4 [(0, 9, 12, 21), (0, 9, 15, 15)] 8 G [.ref (G.2.1 + 0), .int p0, .ref (G.2.1 + 303)] σ x (q_cd [1, 3] e) τ (if e = 0 then (v.toInt64, x.2) else x) := by
  rcases he with rfl | rfl | rfl
  · rw [show q_cd [1, 3] 0 = 0 by decide, if_pos rfl]
    refine q_ofWH (by decide) (Nat.le_of_ble_eq_true rfl) (fun X hl0 hx hr hE hN hR6 => ?_)
    subst hl0
    have hx : q_Cx X G RL cL_drop 4 8 := hx
    show q_Wq X G x 4 (q_MQW X G 0 τ (v.toInt64, x.2)) 0 0 0 [(0, .ref (G.2.1 + 0)), (1, .int p0), (2, .ref (G.2.1 + 303))] [] σ
    refine q_aload_n hx dL_drop_0 2 rfl ?_
    refine q_iconst (v := 0) hx dL_drop_1 (by decide) ?_
    refine q_aload_n hx dL_drop_2 0 rfl ?_
    refine q_iload_n hx dL_drop_3 1 rfl ?_
    refine q_callX (e := 0) (v := v) (τ := τ) (As := [.int p0]) (rest := [.int 0, .ref (G.2.1 + 303)]) (hs := q_hs_drop) hx hR6 (show q_Ex X (q_hs_drop.map (·.1)) from hE) hN (c_X9_drop (q_Xl X) G x σ p0 h hfl) q_lm_33 q_mn_X9_drop q_mi_X9_drop q_se_X9_drop (by decide) rfl (Nat.le_of_ble_eq_true rfl) dL_drop_4 rfl rfl q_hn_drop q_cst (fun h => absurd h (by decide)) (fun _ => ?_)
    refine q_i2l hx dL_drop_7 ?_
    refine q_last hx dL_drop_8 ?_
    refine q_goto hx 18 dL_drop_9 (by decide) ?_
    refine q_iconst (v := 0) hx dL_drop_18 (by decide) ?_
    exact q_wret hx hr (by decide) (by decide) dL_drop_19
  · rw [show q_cd [1, 3] 1 = 1 by decide, if_neg (by decide)]
    refine q_ofWH (by decide) (Nat.le_of_ble_eq_true rfl) (fun X hl0 hx hr hE hN hR6 => ?_)
    subst hl0
    have hx : q_Cx X G RL cL_drop 4 8 := hx
    show q_Wq X G x 4 (q_MQW X G 1 τ x) 0 0 0 [(0, .ref (G.2.1 + 0)), (1, .int p0), (2, .ref (G.2.1 + 303))] [] σ
    refine q_aload_n hx dL_drop_0 2 rfl ?_
    refine q_iconst (v := 0) hx dL_drop_1 (by decide) ?_
    refine q_aload_n hx dL_drop_2 0 rfl ?_
    refine q_iload_n hx dL_drop_3 1 rfl ?_
    refine q_callX (e := 1) (v := v) (τ := τ) (As := [.int p0]) (rest := [.int 0, .ref (G.2.1 + 303)]) (hs := q_hs_drop) hx hR6 (show q_Ex X (q_hs_drop.map (·.1)) from hE) hN (c_X9_drop (q_Xl X) G x σ p0 h hfl) q_lm_33 q_mn_X9_drop q_mi_X9_drop q_se_X9_drop (by decide) rfl (Nat.le_of_ble_eq_true rfl) dL_drop_4 rfl rfl q_hn_drop q_cst (fun _ => ⟨[], ((0, 9, 12, 21), "java/lang/IndexOutOfBoundsException"), [((0, 9, 15, 15), "java/lang/UnsupportedOperationException")], rfl, by decide, by decide, rfl, fun q9 => ?_⟩) (fun h => absurd h (by decide))
    refine q_astore_n hx [(3, .ref q9), (0, .ref (G.2.1 + 0)), (1, .int p0), (2, .ref (G.2.1 + 303))] dL_drop_12 (by decide) rfl ?_
    refine q_iconst (v := 1) hx dL_drop_13 (by decide) ?_
    exact q_wret hx hr (by decide) (by decide) dL_drop_14
  · rw [show q_cd [1, 3] 3 = 2 by decide, if_neg (by decide)]
    refine q_ofWH (by decide) (Nat.le_of_ble_eq_true rfl) (fun X hl0 hx hr hE hN hR6 => ?_)
    subst hl0
    have hx : q_Cx X G RL cL_drop 4 8 := hx
    show q_Wq X G x 4 (q_MQW X G 2 τ x) 0 0 0 [(0, .ref (G.2.1 + 0)), (1, .int p0), (2, .ref (G.2.1 + 303))] [] σ
    refine q_aload_n hx dL_drop_0 2 rfl ?_
    refine q_iconst (v := 0) hx dL_drop_1 (by decide) ?_
    refine q_aload_n hx dL_drop_2 0 rfl ?_
    refine q_iload_n hx dL_drop_3 1 rfl ?_
    refine q_callX (e := 3) (v := v) (τ := τ) (As := [.int p0]) (rest := [.int 0, .ref (G.2.1 + 303)]) (hs := q_hs_drop) hx hR6 (show q_Ex X (q_hs_drop.map (·.1)) from hE) hN (c_X9_drop (q_Xl X) G x σ p0 h hfl) q_lm_33 q_mn_X9_drop q_mi_X9_drop q_se_X9_drop (by decide) rfl (Nat.le_of_ble_eq_true rfl) dL_drop_4 rfl rfl q_hn_drop q_cst (fun _ => ⟨[((0, 9, 12, 21), "java/lang/IndexOutOfBoundsException")], ((0, 9, 15, 15), "java/lang/UnsupportedOperationException"), [], rfl, by decide, by decide, rfl, fun q9 => ?_⟩) (fun h => absurd h (by decide))
    refine q_astore_n hx [(3, .ref q9), (0, .ref (G.2.1 + 0)), (1, .int p0), (2, .ref (G.2.1 + 303))] dL_drop_15 (by decide) rfl ?_
    refine q_iconst (v := 2) hx dL_drop_16 (by decide) ?_
    exact q_wret hx hr (by decide) (by decide) dL_drop_17
set_option maxHeartbeats 4000000 in
set_option maxRecDepth 100000 in
theorem c_L_deep (l : Launch) (G : q_G) (x : q_A) (σ : q_S) (p0 : Int32) (p1 : Int32) {e : Nat} {v : Int32} {τ : q_S} (h : f_X9_deep σ p0 p1 = some (e, v, τ)) (he : e = 0 ∨ e = 1 ∨ e = 2 ∨ e = 3) (hfl : l.stackTraces = false) : q_MetW l yL_deep cL_deep 5 [(0, 10, 13, 21), (0, 10, 17, 13), (0, 10, 21, 15)] 8 G [.ref (G.2.1 + 0), .int p0, .int p1, .ref (G.2.1 + 303)] σ x (q_cd [1, 2, 3] e) τ (if e = 0 then (v.toInt64, x.2) else x) := by
  rcases he with rfl | rfl | rfl | rfl
  · rw [show q_cd [1, 2, 3] 0 = 0 by decide, if_pos rfl]
    refine q_ofWH (by decide) (Nat.le_of_ble_eq_true rfl) (fun X hl0 hx hr hE hN hR6 => ?_)
    subst hl0
    have hx : q_Cx X G RL cL_deep 5 8 := hx
    show q_Wq X G x 5 (q_MQW X G 0 τ (v.toInt64, x.2)) 0 0 0 [(0, .ref (G.2.1 + 0)), (1, .int p0), (2, .int p1), (3, .ref (G.2.1 + 303))] [] σ
    refine q_aload_n hx dL_deep_0 3 rfl ?_
    refine q_iconst (v := 0) hx dL_deep_1 (by decide) ?_
    refine q_aload_n hx dL_deep_2 0 rfl ?_
    refine q_iload_n hx dL_deep_3 1 rfl ?_
    refine q_iload_n hx dL_deep_4 2 rfl ?_
    refine q_callX (e := 0) (v := v) (τ := τ) (As := [.int p0, .int p1]) (rest := [.int 0, .ref (G.2.1 + 303)]) (hs := q_hs_deep) hx hR6 (show q_Ex X (q_hs_deep.map (·.1)) from hE) hN (c_X9_deep (q_Xl X) G x σ p0 p1 h hfl) q_lm_36 q_mn_X9_deep q_mi_X9_deep q_se_X9_deep (by decide) rfl (Nat.le_of_ble_eq_true rfl) dL_deep_5 rfl rfl q_hn_deep q_cst (fun h => absurd h (by decide)) (fun _ => ?_)
    refine q_i2l hx dL_deep_8 ?_
    refine q_last hx dL_deep_9 ?_
    refine q_goto hx 25 dL_deep_10 (by decide) ?_
    refine q_iconst (v := 0) hx dL_deep_25 (by decide) ?_
    exact q_wret hx hr (by decide) (by decide) dL_deep_26
  · rw [show q_cd [1, 2, 3] 1 = 1 by decide, if_neg (by decide)]
    refine q_ofWH (by decide) (Nat.le_of_ble_eq_true rfl) (fun X hl0 hx hr hE hN hR6 => ?_)
    subst hl0
    have hx : q_Cx X G RL cL_deep 5 8 := hx
    show q_Wq X G x 5 (q_MQW X G 1 τ x) 0 0 0 [(0, .ref (G.2.1 + 0)), (1, .int p0), (2, .int p1), (3, .ref (G.2.1 + 303))] [] σ
    refine q_aload_n hx dL_deep_0 3 rfl ?_
    refine q_iconst (v := 0) hx dL_deep_1 (by decide) ?_
    refine q_aload_n hx dL_deep_2 0 rfl ?_
    refine q_iload_n hx dL_deep_3 1 rfl ?_
    refine q_iload_n hx dL_deep_4 2 rfl ?_
    refine q_callX (e := 1) (v := v) (τ := τ) (As := [.int p0, .int p1]) (rest := [.int 0, .ref (G.2.1 + 303)]) (hs := q_hs_deep) hx hR6 (show q_Ex X (q_hs_deep.map (·.1)) from hE) hN (c_X9_deep (q_Xl X) G x σ p0 p1 h hfl) q_lm_36 q_mn_X9_deep q_mi_X9_deep q_se_X9_deep (by decide) rfl (Nat.le_of_ble_eq_true rfl) dL_deep_5 rfl rfl q_hn_deep q_cst (fun _ => ⟨[], ((0, 10, 13, 21), "java/lang/IndexOutOfBoundsException"), [((0, 10, 17, 13), "java/lang/IllegalArgumentException"), ((0, 10, 21, 15), "java/lang/UnsupportedOperationException")], rfl, by decide, by decide, rfl, fun q9 => ?_⟩) (fun h => absurd h (by decide))
    refine q_astore hx [(4, .ref q9), (0, .ref (G.2.1 + 0)), (1, .int p0), (2, .int p1), (3, .ref (G.2.1 + 303))] dL_deep_13 (by decide) rfl ?_
    refine q_iconst (v := 1) hx dL_deep_15 (by decide) ?_
    exact q_wret hx hr (by decide) (by decide) dL_deep_16
  · rw [show q_cd [1, 2, 3] 2 = 2 by decide, if_neg (by decide)]
    refine q_ofWH (by decide) (Nat.le_of_ble_eq_true rfl) (fun X hl0 hx hr hE hN hR6 => ?_)
    subst hl0
    have hx : q_Cx X G RL cL_deep 5 8 := hx
    show q_Wq X G x 5 (q_MQW X G 2 τ x) 0 0 0 [(0, .ref (G.2.1 + 0)), (1, .int p0), (2, .int p1), (3, .ref (G.2.1 + 303))] [] σ
    refine q_aload_n hx dL_deep_0 3 rfl ?_
    refine q_iconst (v := 0) hx dL_deep_1 (by decide) ?_
    refine q_aload_n hx dL_deep_2 0 rfl ?_
    refine q_iload_n hx dL_deep_3 1 rfl ?_
    refine q_iload_n hx dL_deep_4 2 rfl ?_
    refine q_callX (e := 2) (v := v) (τ := τ) (As := [.int p0, .int p1]) (rest := [.int 0, .ref (G.2.1 + 303)]) (hs := q_hs_deep) hx hR6 (show q_Ex X (q_hs_deep.map (·.1)) from hE) hN (c_X9_deep (q_Xl X) G x σ p0 p1 h hfl) q_lm_36 q_mn_X9_deep q_mi_X9_deep q_se_X9_deep (by decide) rfl (Nat.le_of_ble_eq_true rfl) dL_deep_5 rfl rfl q_hn_deep q_cst (fun _ => ⟨[((0, 10, 13, 21), "java/lang/IndexOutOfBoundsException")], ((0, 10, 17, 13), "java/lang/IllegalArgumentException"), [((0, 10, 21, 15), "java/lang/UnsupportedOperationException")], rfl, by decide, by decide, rfl, fun q9 => ?_⟩) (fun h => absurd h (by decide))
    refine q_astore hx [(4, .ref q9), (0, .ref (G.2.1 + 0)), (1, .int p0), (2, .int p1), (3, .ref (G.2.1 + 303))] dL_deep_17 (by decide) rfl ?_
    refine q_iconst (v := 2) hx dL_deep_19 (by decide) ?_
    exact q_wret hx hr (by decide) (by decide) dL_deep_20
  · rw [show q_cd [1, 2, 3] 3 = 3 by decide, if_neg (by decide)]
    refine q_ofWH (by decide) (Nat.le_of_ble_eq_true rfl) (fun X hl0 hx hr hE hN hR6 => ?_)
    subst hl0
    have hx : q_Cx X G RL cL_deep 5 8 := hx
    show q_Wq X G x 5 (q_MQW X G 3 τ x) 0 0 0 [(0, .ref (G.2.1 + 0)), (1, .int p0), (2, .int p1), (3, .ref (G.2.1 + 303))] [] σ
    refine q_aload_n hx dL_deep_0 3 rfl ?_
    refine q_iconst (v := 0) hx dL_deep_1 (by decide) ?_
    refine q_aload_n hx dL_deep_2 0 rfl ?_
    refine q_iload_n hx dL_deep_3 1 rfl ?_
    refine q_iload_n hx dL_deep_4 2 rfl ?_
    refine q_callX (e := 3) (v := v) (τ := τ) (As := [.int p0, .int p1]) (rest := [.int 0, .ref (G.2.1 + 303)]) (hs := q_hs_deep) hx hR6 (show q_Ex X (q_hs_deep.map (·.1)) from hE) hN (c_X9_deep (q_Xl X) G x σ p0 p1 h hfl) q_lm_36 q_mn_X9_deep q_mi_X9_deep q_se_X9_deep (by decide) rfl (Nat.le_of_ble_eq_true rfl) dL_deep_5 rfl rfl q_hn_deep q_cst (fun _ => ⟨[((0, 10, 13, 21), "java/lang/IndexOutOfBoundsException"), ((0, 10, 17, 13), "java/lang/IllegalArgumentException")], ((0, 10, 21, 15), "java/lang/UnsupportedOperationException"), [], rfl, by decide, by decide, rfl, fun q9 => ?_⟩) (fun h => absurd h (by decide))
    refine q_astore hx [(4, .ref q9), (0, .ref (G.2.1 + 0)), (1, .int p0), (2, .int p1), (3, .ref (G.2.1 + 303))] dL_deep_21 (by decide) rfl ?_
    refine q_iconst (v := 3) hx dL_deep_23 (by decide) ?_
    exact q_wret hx hr (by decide) (by decide) dL_deep_24
set_option maxHeartbeats 4000000 in
set_option maxRecDepth 100000 in
theorem c_L_dusk (l : Launch) (G : q_G) (x : q_A) (σ : q_S) (p0 : Int32) {e : Nat} {v : Int32} {τ : q_S} (h : f_X9_dusk σ p0 = some (e, v, τ)) (he : e = 0 ∨ e = 2) (hfl : l.stackTraces = false) : q_MetW l yL_dusk cL_dusk 4 [(0, 9, 12, 13)] 8 G [.ref (G.2.1 + 0), .int p0, .ref (G.2.1 + 303)] σ x (q_cd [2] e) τ (if e = 0 then (v.toInt64, x.2) else x) := by
  rcases he with rfl | rfl
  · rw [show q_cd [2] 0 = 0 by decide, if_pos rfl]
    refine q_ofWH (by decide) (Nat.le_of_ble_eq_true rfl) (fun X hl0 hx hr hE hN hR6 => ?_)
    subst hl0
    have hx : q_Cx X G RL cL_dusk 4 8 := hx
    show q_Wq X G x 4 (q_MQW X G 0 τ (v.toInt64, x.2)) 0 0 0 [(0, .ref (G.2.1 + 0)), (1, .int p0), (2, .ref (G.2.1 + 303))] [] σ
    refine q_aload_n hx dL_dusk_0 2 rfl ?_
    refine q_iconst (v := 0) hx dL_dusk_1 (by decide) ?_
    refine q_aload_n hx dL_dusk_2 0 rfl ?_
    refine q_iload_n hx dL_dusk_3 1 rfl ?_
    refine q_callX (e := 0) (v := v) (τ := τ) (As := [.int p0]) (rest := [.int 0, .ref (G.2.1 + 303)]) (hs := q_hs_dusk) hx hR6 (show q_Ex X (q_hs_dusk.map (·.1)) from hE) hN (c_X9_dusk (q_Xl X) G x σ p0 h hfl) q_lm_40 q_mn_X9_dusk q_mi_X9_dusk q_se_X9_dusk (by decide) rfl (Nat.le_of_ble_eq_true rfl) dL_dusk_4 rfl rfl q_hn_dusk q_cst (fun h => absurd h (by decide)) (fun _ => ?_)
    refine q_i2l hx dL_dusk_7 ?_
    refine q_last hx dL_dusk_8 ?_
    refine q_goto hx 15 dL_dusk_9 (by decide) ?_
    refine q_iconst (v := 0) hx dL_dusk_15 (by decide) ?_
    exact q_wret hx hr (by decide) (by decide) dL_dusk_16
  · rw [show q_cd [2] 2 = 1 by decide, if_neg (by decide)]
    refine q_ofWH (by decide) (Nat.le_of_ble_eq_true rfl) (fun X hl0 hx hr hE hN hR6 => ?_)
    subst hl0
    have hx : q_Cx X G RL cL_dusk 4 8 := hx
    show q_Wq X G x 4 (q_MQW X G 1 τ x) 0 0 0 [(0, .ref (G.2.1 + 0)), (1, .int p0), (2, .ref (G.2.1 + 303))] [] σ
    refine q_aload_n hx dL_dusk_0 2 rfl ?_
    refine q_iconst (v := 0) hx dL_dusk_1 (by decide) ?_
    refine q_aload_n hx dL_dusk_2 0 rfl ?_
    refine q_iload_n hx dL_dusk_3 1 rfl ?_
    refine q_callX (e := 2) (v := v) (τ := τ) (As := [.int p0]) (rest := [.int 0, .ref (G.2.1 + 303)]) (hs := q_hs_dusk) hx hR6 (show q_Ex X (q_hs_dusk.map (·.1)) from hE) hN (c_X9_dusk (q_Xl X) G x σ p0 h hfl) q_lm_40 q_mn_X9_dusk q_mi_X9_dusk q_se_X9_dusk (by decide) rfl (Nat.le_of_ble_eq_true rfl) dL_dusk_4 rfl rfl q_hn_dusk q_cst (fun _ => ⟨[], ((0, 9, 12, 13), "java/lang/IllegalArgumentException"), [], rfl, by decide, by decide, rfl, fun q9 => ?_⟩) (fun h => absurd h (by decide))
    refine q_astore_n hx [(3, .ref q9), (0, .ref (G.2.1 + 0)), (1, .int p0), (2, .ref (G.2.1 + 303))] dL_dusk_12 (by decide) rfl ?_
    refine q_iconst (v := 1) hx dL_dusk_13 (by decide) ?_
    exact q_wret hx hr (by decide) (by decide) dL_dusk_14
set_option maxHeartbeats 4000000 in
set_option maxRecDepth 100000 in
theorem c_L_sleeperOf (l : Launch) (G : q_G) (x : q_A) (σ : q_S) (p0 : Int32) (p1 : Int32) {e : Nat} {v : Int32} {τ : q_S} (h : f_X9_sleeperOf σ p0 p1 = some (e, v, τ)) (he : e = 0 ∨ e = 1 ∨ e = 2) (hfl : l.stackTraces = false) : q_MetW l yL_sleeperOf cL_sleeperOf 5 [(0, 10, 13, 21), (0, 10, 17, 13)] 8 G [.ref (G.2.1 + 0), .int p0, .int p1, .ref (G.2.1 + 303)] σ x (q_cd [1, 2] e) τ (if e = 0 then (v.toInt64, x.2) else x) := by
  rcases he with rfl | rfl | rfl
  · rw [show q_cd [1, 2] 0 = 0 by decide, if_pos rfl]
    refine q_ofWH (by decide) (Nat.le_of_ble_eq_true rfl) (fun X hl0 hx hr hE hN hR6 => ?_)
    subst hl0
    have hx : q_Cx X G RL cL_sleeperOf 5 8 := hx
    show q_Wq X G x 5 (q_MQW X G 0 τ (v.toInt64, x.2)) 0 0 0 [(0, .ref (G.2.1 + 0)), (1, .int p0), (2, .int p1), (3, .ref (G.2.1 + 303))] [] σ
    refine q_aload_n hx dL_sleeperOf_0 3 rfl ?_
    refine q_iconst (v := 0) hx dL_sleeperOf_1 (by decide) ?_
    refine q_aload_n hx dL_sleeperOf_2 0 rfl ?_
    refine q_iload_n hx dL_sleeperOf_3 1 rfl ?_
    refine q_iload_n hx dL_sleeperOf_4 2 rfl ?_
    refine q_callX (e := 0) (v := v) (τ := τ) (As := [.int p0, .int p1]) (rest := [.int 0, .ref (G.2.1 + 303)]) (hs := q_hs_sleeperOf) hx hR6 (show q_Ex X (q_hs_sleeperOf.map (·.1)) from hE) hN (c_X9_sleeperOf (q_Xl X) G x σ p0 p1 h hfl) q_lm_43 q_mn_X9_sleeperOf q_mi_X9_sleeperOf q_se_X9_sleeperOf (by decide) rfl (Nat.le_of_ble_eq_true rfl) dL_sleeperOf_5 rfl rfl q_hn_sleeperOf q_cst (fun h => absurd h (by decide)) (fun _ => ?_)
    refine q_i2l hx dL_sleeperOf_8 ?_
    refine q_last hx dL_sleeperOf_9 ?_
    refine q_goto hx 21 dL_sleeperOf_10 (by decide) ?_
    refine q_iconst (v := 0) hx dL_sleeperOf_21 (by decide) ?_
    exact q_wret hx hr (by decide) (by decide) dL_sleeperOf_22
  · rw [show q_cd [1, 2] 1 = 1 by decide, if_neg (by decide)]
    refine q_ofWH (by decide) (Nat.le_of_ble_eq_true rfl) (fun X hl0 hx hr hE hN hR6 => ?_)
    subst hl0
    have hx : q_Cx X G RL cL_sleeperOf 5 8 := hx
    show q_Wq X G x 5 (q_MQW X G 1 τ x) 0 0 0 [(0, .ref (G.2.1 + 0)), (1, .int p0), (2, .int p1), (3, .ref (G.2.1 + 303))] [] σ
    refine q_aload_n hx dL_sleeperOf_0 3 rfl ?_
    refine q_iconst (v := 0) hx dL_sleeperOf_1 (by decide) ?_
    refine q_aload_n hx dL_sleeperOf_2 0 rfl ?_
    refine q_iload_n hx dL_sleeperOf_3 1 rfl ?_
    refine q_iload_n hx dL_sleeperOf_4 2 rfl ?_
    refine q_callX (e := 1) (v := v) (τ := τ) (As := [.int p0, .int p1]) (rest := [.int 0, .ref (G.2.1 + 303)]) (hs := q_hs_sleeperOf) hx hR6 (show q_Ex X (q_hs_sleeperOf.map (·.1)) from hE) hN (c_X9_sleeperOf (q_Xl X) G x σ p0 p1 h hfl) q_lm_43 q_mn_X9_sleeperOf q_mi_X9_sleeperOf q_se_X9_sleeperOf (by decide) rfl (Nat.le_of_ble_eq_true rfl) dL_sleeperOf_5 rfl rfl q_hn_sleeperOf q_cst (fun _ => ⟨[], ((0, 10, 13, 21), "java/lang/IndexOutOfBoundsException"), [((0, 10, 17, 13), "java/lang/IllegalArgumentException")], rfl, by decide, by decide, rfl, fun q9 => ?_⟩) (fun h => absurd h (by decide))
    refine q_astore hx [(4, .ref q9), (0, .ref (G.2.1 + 0)), (1, .int p0), (2, .int p1), (3, .ref (G.2.1 + 303))] dL_sleeperOf_13 (by decide) rfl ?_
    refine q_iconst (v := 1) hx dL_sleeperOf_15 (by decide) ?_
    exact q_wret hx hr (by decide) (by decide) dL_sleeperOf_16
  · rw [show q_cd [1, 2] 2 = 2 by decide, if_neg (by decide)]
    refine q_ofWH (by decide) (Nat.le_of_ble_eq_true rfl) (fun X hl0 hx hr hE hN hR6 => ?_)
    subst hl0
    have hx : q_Cx X G RL cL_sleeperOf 5 8 := hx
    show q_Wq X G x 5 (q_MQW X G 2 τ x) 0 0 0 [(0, .ref (G.2.1 + 0)), (1, .int p0), (2, .int p1), (3, .ref (G.2.1 + 303))] [] σ
    refine q_aload_n hx dL_sleeperOf_0 3 rfl ?_
    refine q_iconst (v := 0) hx dL_sleeperOf_1 (by decide) ?_
    refine q_aload_n hx dL_sleeperOf_2 0 rfl ?_
    refine q_iload_n hx dL_sleeperOf_3 1 rfl ?_
    refine q_iload_n hx dL_sleeperOf_4 2 rfl ?_
    refine q_callX (e := 2) (v := v) (τ := τ) (As := [.int p0, .int p1]) (rest := [.int 0, .ref (G.2.1 + 303)]) (hs := q_hs_sleeperOf) hx hR6 (show q_Ex X (q_hs_sleeperOf.map (·.1)) from hE) hN (c_X9_sleeperOf (q_Xl X) G x σ p0 p1 h hfl) q_lm_43 q_mn_X9_sleeperOf q_mi_X9_sleeperOf q_se_X9_sleeperOf (by decide) rfl (Nat.le_of_ble_eq_true rfl) dL_sleeperOf_5 rfl rfl q_hn_sleeperOf q_cst (fun _ => ⟨[((0, 10, 13, 21), "java/lang/IndexOutOfBoundsException")], ((0, 10, 17, 13), "java/lang/IllegalArgumentException"), [], rfl, by decide, by decide, rfl, fun q9 => ?_⟩) (fun h => absurd h (by decide))
    refine q_astore hx [(4, .ref q9), (0, .ref (G.2.1 + 0)), (1, .int p0), (2, .int p1), (3, .ref (G.2.1 + 303))] dL_sleeperOf_17 (by decide) rfl ?_
    refine q_iconst (v := 2) hx dL_sleeperOf_19 (by decide) ?_
    exact q_wret hx hr (by decide) (by decide) dL_sleeperOf_20
set_option maxHeartbeats 4000000 in
set_option maxRecDepth 100000 in
theorem c_L_chainOf (l : Launch) (G : q_G) (x : q_A) (σ : q_S) (p0 : Int32) (p1 : Int32) (p2 : Int32) {e : Nat} {v : Int32} (h : f_X9_chainOf σ p0 p1 p2 = some (e, v)) (he : e = 0 ∨ e = 1 ∨ e = 2) (hfl : l.stackTraces = false) : q_MetW l yL_chainOf cL_chainOf 6 [(0, 12, 15, 21), (0, 12, 19, 13)] 8 G [.ref (G.2.1 + 0), .int p0, .int p1, .int p2, .ref (G.2.1 + 303)] σ x (q_cd [1, 2] e) σ (if e = 0 then (v.toInt64, x.2) else x) := by
  rcases he with rfl | rfl | rfl
  · rw [show q_cd [1, 2] 0 = 0 by decide, if_pos rfl]
    refine q_ofWH (by decide) (Nat.le_of_ble_eq_true rfl) (fun X hl0 hx hr hE hN hR6 => ?_)
    subst hl0
    have hx : q_Cx X G RL cL_chainOf 6 8 := hx
    show q_Wq X G x 6 (q_MQW X G 0 σ (v.toInt64, x.2)) 0 0 0 [(0, .ref (G.2.1 + 0)), (1, .int p0), (2, .int p1), (3, .int p2), (4, .ref (G.2.1 + 303))] [] σ
    refine q_aload hx dL_chainOf_0 4 rfl ?_
    refine q_iconst (v := 0) hx dL_chainOf_2 (by decide) ?_
    refine q_aload_n hx dL_chainOf_3 0 rfl ?_
    refine q_iload_n hx dL_chainOf_4 1 rfl ?_
    refine q_iload_n hx dL_chainOf_5 2 rfl ?_
    refine q_iload_n hx dL_chainOf_6 3 rfl ?_
    refine q_callX (e := 0) (v := v) (τ := σ) (As := [.int p0, .int p1, .int p2]) (rest := [.int 0, .ref (G.2.1 + 303)]) (hs := q_hs_chainOf) hx hR6 (show q_Ex X (q_hs_chainOf.map (·.1)) from hE) hN (c_X9_chainOf (q_Xl X) G x σ p0 p1 p2 h hfl) q_lm_46 q_mn_X9_chainOf q_mi_X9_chainOf q_se_X9_chainOf (by decide) rfl (Nat.le_of_ble_eq_true rfl) dL_chainOf_7 rfl rfl q_hn_chainOf q_cst (fun h => absurd h (by decide)) (fun _ => ?_)
    refine q_i2l hx dL_chainOf_10 ?_
    refine q_last hx dL_chainOf_11 ?_
    refine q_goto hx 23 dL_chainOf_12 (by decide) ?_
    refine q_iconst (v := 0) hx dL_chainOf_23 (by decide) ?_
    exact q_wret hx hr (by decide) (by decide) dL_chainOf_24
  · rw [show q_cd [1, 2] 1 = 1 by decide, if_neg (by decide)]
    refine q_ofWH (by decide) (Nat.le_of_ble_eq_true rfl) (fun X hl0 hx hr hE hN hR6 => ?_)
    subst hl0
    have hx : q_Cx X G RL cL_chainOf 6 8 := hx
    show q_Wq X G x 6 (q_MQW X G 1 σ x) 0 0 0 [(0, .ref (G.2.1 + 0)), (1, .int p0), (2, .int p1), (3, .int p2), (4, .ref (G.2.1 + 303))] [] σ
    refine q_aload hx dL_chainOf_0 4 rfl ?_
    refine q_iconst (v := 0) hx dL_chainOf_2 (by decide) ?_
    refine q_aload_n hx dL_chainOf_3 0 rfl ?_
    refine q_iload_n hx dL_chainOf_4 1 rfl ?_
    refine q_iload_n hx dL_chainOf_5 2 rfl ?_
    refine q_iload_n hx dL_chainOf_6 3 rfl ?_
    refine q_callX (e := 1) (v := v) (τ := σ) (As := [.int p0, .int p1, .int p2]) (rest := [.int 0, .ref (G.2.1 + 303)]) (hs := q_hs_chainOf) hx hR6 (show q_Ex X (q_hs_chainOf.map (·.1)) from hE) hN (c_X9_chainOf (q_Xl X) G x σ p0 p1 p2 h hfl) q_lm_46 q_mn_X9_chainOf q_mi_X9_chainOf q_se_X9_chainOf (by decide) rfl (Nat.le_of_ble_eq_true rfl) dL_chainOf_7 rfl rfl q_hn_chainOf q_cst (fun _ => ⟨[], ((0, 12, 15, 21), "java/lang/IndexOutOfBoundsException"), [((0, 12, 19, 13), "java/lang/IllegalArgumentException")], rfl, by decide, by decide, rfl, fun q9 => ?_⟩) (fun h => absurd h (by decide))
    refine q_astore hx [(5, .ref q9), (0, .ref (G.2.1 + 0)), (1, .int p0), (2, .int p1), (3, .int p2), (4, .ref (G.2.1 + 303))] dL_chainOf_15 (by decide) rfl ?_
    refine q_iconst (v := 1) hx dL_chainOf_17 (by decide) ?_
    exact q_wret hx hr (by decide) (by decide) dL_chainOf_18
  · rw [show q_cd [1, 2] 2 = 2 by decide, if_neg (by decide)]
    refine q_ofWH (by decide) (Nat.le_of_ble_eq_true rfl) (fun X hl0 hx hr hE hN hR6 => ?_)
    subst hl0
    have hx : q_Cx X G RL cL_chainOf 6 8 := hx
    show q_Wq X G x 6 (q_MQW X G 2 σ x) 0 0 0 [(0, .ref (G.2.1 + 0)), (1, .int p0), (2, .int p1), (3, .int p2), (4, .ref (G.2.1 + 303))] [] σ
    refine q_aload hx dL_chainOf_0 4 rfl ?_
    refine q_iconst (v := 0) hx dL_chainOf_2 (by decide) ?_
    refine q_aload_n hx dL_chainOf_3 0 rfl ?_
    refine q_iload_n hx dL_chainOf_4 1 rfl ?_
    refine q_iload_n hx dL_chainOf_5 2 rfl ?_
    refine q_iload_n hx dL_chainOf_6 3 rfl ?_
    refine q_callX (e := 2) (v := v) (τ := σ) (As := [.int p0, .int p1, .int p2]) (rest := [.int 0, .ref (G.2.1 + 303)]) (hs := q_hs_chainOf) hx hR6 (show q_Ex X (q_hs_chainOf.map (·.1)) from hE) hN (c_X9_chainOf (q_Xl X) G x σ p0 p1 p2 h hfl) q_lm_46 q_mn_X9_chainOf q_mi_X9_chainOf q_se_X9_chainOf (by decide) rfl (Nat.le_of_ble_eq_true rfl) dL_chainOf_7 rfl rfl q_hn_chainOf q_cst (fun _ => ⟨[((0, 12, 15, 21), "java/lang/IndexOutOfBoundsException")], ((0, 12, 19, 13), "java/lang/IllegalArgumentException"), [], rfl, by decide, by decide, rfl, fun q9 => ?_⟩) (fun h => absurd h (by decide))
    refine q_astore hx [(5, .ref q9), (0, .ref (G.2.1 + 0)), (1, .int p0), (2, .int p1), (3, .int p2), (4, .ref (G.2.1 + 303))] dL_chainOf_19 (by decide) rfl ?_
    refine q_iconst (v := 2) hx dL_chainOf_21 (by decide) ?_
    exact q_wret hx hr (by decide) (by decide) dL_chainOf_22
set_option maxHeartbeats 4000000 in
set_option maxRecDepth 100000 in
theorem c_L_pegOf (l : Launch) (G : q_G) (x : q_A) (σ : q_S) (p0 : Int32) (p1 : Int32) {e : Nat} {v : Int32} (h : f_X9_pegOf σ p0 p1 = some (e, v)) (he : e = 0 ∨ e = 1 ∨ e = 2) (hfl : l.stackTraces = false) : q_MetW l yL_pegOf cL_pegOf 5 [(0, 10, 13, 21), (0, 10, 17, 13)] 8 G [.ref (G.2.1 + 0), .int p0, .int p1, .ref (G.2.1 + 303)] σ x (q_cd [1, 2] e) σ (if e = 0 then (v.toInt64, x.2) else x) := by
  rcases he with rfl | rfl | rfl
  · rw [show q_cd [1, 2] 0 = 0 by decide, if_pos rfl]
    refine q_ofWH (by decide) (Nat.le_of_ble_eq_true rfl) (fun X hl0 hx hr hE hN hR6 => ?_)
    subst hl0
    have hx : q_Cx X G RL cL_pegOf 5 8 := hx
    show q_Wq X G x 5 (q_MQW X G 0 σ (v.toInt64, x.2)) 0 0 0 [(0, .ref (G.2.1 + 0)), (1, .int p0), (2, .int p1), (3, .ref (G.2.1 + 303))] [] σ
    refine q_aload_n hx dL_pegOf_0 3 rfl ?_
    refine q_iconst (v := 0) hx dL_pegOf_1 (by decide) ?_
    refine q_aload_n hx dL_pegOf_2 0 rfl ?_
    refine q_iload_n hx dL_pegOf_3 1 rfl ?_
    refine q_iload_n hx dL_pegOf_4 2 rfl ?_
    refine q_callX (e := 0) (v := v) (τ := σ) (As := [.int p0, .int p1]) (rest := [.int 0, .ref (G.2.1 + 303)]) (hs := q_hs_pegOf) hx hR6 (show q_Ex X (q_hs_pegOf.map (·.1)) from hE) hN (c_X9_pegOf (q_Xl X) G x σ p0 p1 h hfl) q_lm_49 q_mn_X9_pegOf q_mi_X9_pegOf q_se_X9_pegOf (by decide) rfl (Nat.le_of_ble_eq_true rfl) dL_pegOf_5 rfl rfl q_hn_pegOf q_cst (fun h => absurd h (by decide)) (fun _ => ?_)
    refine q_i2l hx dL_pegOf_8 ?_
    refine q_last hx dL_pegOf_9 ?_
    refine q_goto hx 21 dL_pegOf_10 (by decide) ?_
    refine q_iconst (v := 0) hx dL_pegOf_21 (by decide) ?_
    exact q_wret hx hr (by decide) (by decide) dL_pegOf_22
  · rw [show q_cd [1, 2] 1 = 1 by decide, if_neg (by decide)]
    refine q_ofWH (by decide) (Nat.le_of_ble_eq_true rfl) (fun X hl0 hx hr hE hN hR6 => ?_)
    subst hl0
    have hx : q_Cx X G RL cL_pegOf 5 8 := hx
    show q_Wq X G x 5 (q_MQW X G 1 σ x) 0 0 0 [(0, .ref (G.2.1 + 0)), (1, .int p0), (2, .int p1), (3, .ref (G.2.1 + 303))] [] σ
    refine q_aload_n hx dL_pegOf_0 3 rfl ?_
    refine q_iconst (v := 0) hx dL_pegOf_1 (by decide) ?_
    refine q_aload_n hx dL_pegOf_2 0 rfl ?_
    refine q_iload_n hx dL_pegOf_3 1 rfl ?_
    refine q_iload_n hx dL_pegOf_4 2 rfl ?_
    refine q_callX (e := 1) (v := v) (τ := σ) (As := [.int p0, .int p1]) (rest := [.int 0, .ref (G.2.1 + 303)]) (hs := q_hs_pegOf) hx hR6 (show q_Ex X (q_hs_pegOf.map (·.1)) from hE) hN (c_X9_pegOf (q_Xl X) G x σ p0 p1 h hfl) q_lm_49 q_mn_X9_pegOf q_mi_X9_pegOf q_se_X9_pegOf (by decide) rfl (Nat.le_of_ble_eq_true rfl) dL_pegOf_5 rfl rfl q_hn_pegOf q_cst (fun _ => ⟨[], ((0, 10, 13, 21), "java/lang/IndexOutOfBoundsException"), [((0, 10, 17, 13), "java/lang/IllegalArgumentException")], rfl, by decide, by decide, rfl, fun q9 => ?_⟩) (fun h => absurd h (by decide))
    refine q_astore hx [(4, .ref q9), (0, .ref (G.2.1 + 0)), (1, .int p0), (2, .int p1), (3, .ref (G.2.1 + 303))] dL_pegOf_13 (by decide) rfl ?_
    refine q_iconst (v := 1) hx dL_pegOf_15 (by decide) ?_
    exact q_wret hx hr (by decide) (by decide) dL_pegOf_16
  · rw [show q_cd [1, 2] 2 = 2 by decide, if_neg (by decide)]
    refine q_ofWH (by decide) (Nat.le_of_ble_eq_true rfl) (fun X hl0 hx hr hE hN hR6 => ?_)
    subst hl0
    have hx : q_Cx X G RL cL_pegOf 5 8 := hx
    show q_Wq X G x 5 (q_MQW X G 2 σ x) 0 0 0 [(0, .ref (G.2.1 + 0)), (1, .int p0), (2, .int p1), (3, .ref (G.2.1 + 303))] [] σ
    refine q_aload_n hx dL_pegOf_0 3 rfl ?_
    refine q_iconst (v := 0) hx dL_pegOf_1 (by decide) ?_
    refine q_aload_n hx dL_pegOf_2 0 rfl ?_
    refine q_iload_n hx dL_pegOf_3 1 rfl ?_
    refine q_iload_n hx dL_pegOf_4 2 rfl ?_
    refine q_callX (e := 2) (v := v) (τ := σ) (As := [.int p0, .int p1]) (rest := [.int 0, .ref (G.2.1 + 303)]) (hs := q_hs_pegOf) hx hR6 (show q_Ex X (q_hs_pegOf.map (·.1)) from hE) hN (c_X9_pegOf (q_Xl X) G x σ p0 p1 h hfl) q_lm_49 q_mn_X9_pegOf q_mi_X9_pegOf q_se_X9_pegOf (by decide) rfl (Nat.le_of_ble_eq_true rfl) dL_pegOf_5 rfl rfl q_hn_pegOf q_cst (fun _ => ⟨[((0, 10, 13, 21), "java/lang/IndexOutOfBoundsException")], ((0, 10, 17, 13), "java/lang/IllegalArgumentException"), [], rfl, by decide, by decide, rfl, fun q9 => ?_⟩) (fun h => absurd h (by decide))
    refine q_astore hx [(4, .ref q9), (0, .ref (G.2.1 + 0)), (1, .int p0), (2, .int p1), (3, .ref (G.2.1 + 303))] dL_pegOf_17 (by decide) rfl ?_
    refine q_iconst (v := 2) hx dL_pegOf_19 (by decide) ?_
    exact q_wret hx hr (by decide) (by decide) dL_pegOf_20
set_option maxHeartbeats 4000000 in
set_option maxRecDepth 100000 in
theorem c_L_owner (l : Launch) (G : q_G) (x : q_A) (σ : q_S) (p0 : Int32) (p1 : Int32) {e : Nat} {v : Int32} (h : f_X9_owner σ p0 p1 = some (e, v)) (he : e = 0 ∨ e = 1) (hfl : l.stackTraces = false) : q_MetW l yL_owner cL_owner 5 [(0, 10, 13, 21)] 8 G [.ref (G.2.1 + 0), .int p0, .int p1, .ref (G.2.1 + 303)] σ x (q_cd [1] e) σ (if e = 0 then (v.toInt64, x.2) else x) := by
  rcases he with rfl | rfl
  · rw [show q_cd [1] 0 = 0 by decide, if_pos rfl]
    refine q_ofWH (by decide) (Nat.le_of_ble_eq_true rfl) (fun X hl0 hx hr hE hN hR6 => ?_)
    subst hl0
    have hx : q_Cx X G RL cL_owner 5 8 := hx
    show q_Wq X G x 5 (q_MQW X G 0 σ (v.toInt64, x.2)) 0 0 0 [(0, .ref (G.2.1 + 0)), (1, .int p0), (2, .int p1), (3, .ref (G.2.1 + 303))] [] σ
    refine q_aload_n hx dL_owner_0 3 rfl ?_
    refine q_iconst (v := 0) hx dL_owner_1 (by decide) ?_
    refine q_aload_n hx dL_owner_2 0 rfl ?_
    refine q_iload_n hx dL_owner_3 1 rfl ?_
    refine q_iload_n hx dL_owner_4 2 rfl ?_
    refine q_callX (e := 0) (v := v) (τ := σ) (As := [.int p0, .int p1]) (rest := [.int 0, .ref (G.2.1 + 303)]) (hs := q_hs_owner) hx hR6 (show q_Ex X (q_hs_owner.map (·.1)) from hE) hN (c_X9_owner (q_Xl X) G x σ p0 p1 h hfl) q_lm_52 q_mn_X9_owner q_mi_X9_owner q_se_X9_owner (by decide) rfl (Nat.le_of_ble_eq_true rfl) dL_owner_5 rfl rfl q_hn_owner q_cst (fun h => absurd h (by decide)) (fun _ => ?_)
    refine q_i2l hx dL_owner_8 ?_
    refine q_last hx dL_owner_9 ?_
    refine q_goto hx 17 dL_owner_10 (by decide) ?_
    refine q_iconst (v := 0) hx dL_owner_17 (by decide) ?_
    exact q_wret hx hr (by decide) (by decide) dL_owner_18
  · rw [show q_cd [1] 1 = 1 by decide, if_neg (by decide)]
    refine q_ofWH (by decide) (Nat.le_of_ble_eq_true rfl) (fun X hl0 hx hr hE hN hR6 => ?_)
    subst hl0
    have hx : q_Cx X G RL cL_owner 5 8 := hx
    show q_Wq X G x 5 (q_MQW X G 1 σ x) 0 0 0 [(0, .ref (G.2.1 + 0)), (1, .int p0), (2, .int p1), (3, .ref (G.2.1 + 303))] [] σ
    refine q_aload_n hx dL_owner_0 3 rfl ?_
    refine q_iconst (v := 0) hx dL_owner_1 (by decide) ?_
    refine q_aload_n hx dL_owner_2 0 rfl ?_
    refine q_iload_n hx dL_owner_3 1 rfl ?_
    refine q_iload_n hx dL_owner_4 2 rfl ?_
    refine q_callX (e := 1) (v := v) (τ := σ) (As := [.int p0, .int p1]) (rest := [.int 0, .ref (G.2.1 + 303)]) (hs := q_hs_owner) hx hR6 (show q_Ex X (q_hs_owner.map (·.1)) from hE) hN (c_X9_owner (q_Xl X) G x σ p0 p1 h hfl) q_lm_52 q_mn_X9_owner q_mi_X9_owner q_se_X9_owner (by decide) rfl (Nat.le_of_ble_eq_true rfl) dL_owner_5 rfl rfl q_hn_owner q_cst (fun _ => ⟨[], ((0, 10, 13, 21), "java/lang/IndexOutOfBoundsException"), [], rfl, by decide, by decide, rfl, fun q9 => ?_⟩) (fun h => absurd h (by decide))
    refine q_astore hx [(4, .ref q9), (0, .ref (G.2.1 + 0)), (1, .int p0), (2, .int p1), (3, .ref (G.2.1 + 303))] dL_owner_13 (by decide) rfl ?_
    refine q_iconst (v := 1) hx dL_owner_15 (by decide) ?_
    exact q_wret hx hr (by decide) (by decide) dL_owner_16
set_option maxHeartbeats 4000000 in
set_option maxRecDepth 100000 in
theorem c_L_isInside (l : Launch) (G : q_G) (x : q_A) (σ : q_S) (p0 : Int32) (p1 : Int32) (p2 : Int32) {e : Nat} {v : Int32} (h : f_X9_isInside σ p0 p1 p2 = some (e, v)) (he : e = 0 ∨ e = 1) (hfl : l.stackTraces = false) : q_MetW l yL_isInside cL_isInside 6 [(0, 19, 22, 21)] 8 G [.ref (G.2.1 + 0), .int p0, .int p1, .int p2, .ref (G.2.1 + 303)] σ x (q_cd [1] e) σ (if e = 0 then (q_bl v, x.2) else x) := by
  rcases he with rfl | rfl
  · rw [show q_cd [1] 0 = 0 by decide, if_pos rfl]
    refine q_ofWH (by decide) (Nat.le_of_ble_eq_true rfl) (fun X hl0 hx hr hE hN hR6 => ?_)
    subst hl0
    have hx : q_Cx X G RL cL_isInside 6 8 := hx
    show q_Wq X G x 6 (q_MQW X G 0 σ (q_bl v, x.2)) 0 0 0 [(0, .ref (G.2.1 + 0)), (1, .int p0), (2, .int p1), (3, .int p2), (4, .ref (G.2.1 + 303))] [] σ
    refine q_aload hx dL_isInside_0 4 rfl ?_
    refine q_iconst (v := 0) hx dL_isInside_2 (by decide) ?_
    refine q_aload_n hx dL_isInside_3 0 rfl ?_
    refine q_iload_n hx dL_isInside_4 1 rfl ?_
    refine q_iload_n hx dL_isInside_5 2 rfl ?_
    refine q_iload_n hx dL_isInside_6 3 rfl ?_
    refine q_callX (e := 0) (v := v) (τ := σ) (As := [.int p0, .int p1, .int p2]) (rest := [.int 0, .ref (G.2.1 + 303)]) (hs := q_hs_isInside) hx hR6 (show q_Ex X (q_hs_isInside.map (·.1)) from hE) hN (c_X9_isInside (q_Xl X) G x σ p0 p1 p2 h hfl) q_lm_55 q_mn_X9_isInside q_mi_X9_isInside q_se_X9_isInside (by decide) rfl (Nat.le_of_ble_eq_true rfl) dL_isInside_7 rfl rfl q_hn_isInside q_cst (fun h => absurd h (by decide)) (fun _ => ?_)
    refine q_if_eq hx 17 dL_isInside_10 (by decide) (fun hv => ?_) (fun hv => ?_)
    · rw [show q_bl v = 0 by rw [q_bl, if_pos hv]]
      refine q_lconst (v := 0) hx dL_isInside_17 (by decide) ?_
      refine q_last hx dL_isInside_18 ?_
      refine q_goto hx 26 dL_isInside_19 (by decide) ?_
      refine q_iconst (v := 0) hx dL_isInside_26 (by decide) ?_
      exact q_wret hx hr (by decide) (by decide) dL_isInside_27
    · rw [show q_bl v = 1 by rw [q_bl, if_neg hv]]
      refine q_lconst (v := 1) hx dL_isInside_13 (by decide) ?_
      refine q_goto hx 18 dL_isInside_14 (by decide) ?_
      refine q_last hx dL_isInside_18 ?_
      refine q_goto hx 26 dL_isInside_19 (by decide) ?_
      refine q_iconst (v := 0) hx dL_isInside_26 (by decide) ?_
      exact q_wret hx hr (by decide) (by decide) dL_isInside_27
  · rw [show q_cd [1] 1 = 1 by decide, if_neg (by decide)]
    refine q_ofWH (by decide) (Nat.le_of_ble_eq_true rfl) (fun X hl0 hx hr hE hN hR6 => ?_)
    subst hl0
    have hx : q_Cx X G RL cL_isInside 6 8 := hx
    show q_Wq X G x 6 (q_MQW X G 1 σ x) 0 0 0 [(0, .ref (G.2.1 + 0)), (1, .int p0), (2, .int p1), (3, .int p2), (4, .ref (G.2.1 + 303))] [] σ
    refine q_aload hx dL_isInside_0 4 rfl ?_
    refine q_iconst (v := 0) hx dL_isInside_2 (by decide) ?_
    refine q_aload_n hx dL_isInside_3 0 rfl ?_
    refine q_iload_n hx dL_isInside_4 1 rfl ?_
    refine q_iload_n hx dL_isInside_5 2 rfl ?_
    refine q_iload_n hx dL_isInside_6 3 rfl ?_
    refine q_callX (e := 1) (v := v) (τ := σ) (As := [.int p0, .int p1, .int p2]) (rest := [.int 0, .ref (G.2.1 + 303)]) (hs := q_hs_isInside) hx hR6 (show q_Ex X (q_hs_isInside.map (·.1)) from hE) hN (c_X9_isInside (q_Xl X) G x σ p0 p1 p2 h hfl) q_lm_55 q_mn_X9_isInside q_mi_X9_isInside q_se_X9_isInside (by decide) rfl (Nat.le_of_ble_eq_true rfl) dL_isInside_7 rfl rfl q_hn_isInside q_cst (fun _ => ⟨[], ((0, 19, 22, 21), "java/lang/IndexOutOfBoundsException"), [], rfl, by decide, by decide, rfl, fun q9 => ?_⟩) (fun h => absurd h (by decide))
    refine q_astore hx [(5, .ref q9), (0, .ref (G.2.1 + 0)), (1, .int p0), (2, .int p1), (3, .int p2), (4, .ref (G.2.1 + 303))] dL_isInside_22 (by decide) rfl ?_
    refine q_iconst (v := 1) hx dL_isInside_24 (by decide) ?_
    exact q_wret hx hr (by decide) (by decide) dL_isInside_25
set_option maxHeartbeats 4000000 in
set_option maxRecDepth 100000 in
theorem c_L_area (l : Launch) (G : q_G) (x : q_A) (σ : q_S) (p0 : Int32) {e : Nat} {v : Int32} (h : f_X9_area σ p0 = some (e, v)) (he : e = 0 ∨ e = 1) (hfl : l.stackTraces = false) : q_MetW l yL_area cL_area 4 [(0, 9, 12, 21)] 8 G [.ref (G.2.1 + 0), .int p0, .ref (G.2.1 + 303)] σ x (q_cd [1] e) σ (if e = 0 then (v.toInt64, x.2) else x) := by
  rcases he with rfl | rfl
  · rw [show q_cd [1] 0 = 0 by decide, if_pos rfl]
    refine q_ofWH (by decide) (Nat.le_of_ble_eq_true rfl) (fun X hl0 hx hr hE hN hR6 => ?_)
    subst hl0
    have hx : q_Cx X G RL cL_area 4 8 := hx
    show q_Wq X G x 4 (q_MQW X G 0 σ (v.toInt64, x.2)) 0 0 0 [(0, .ref (G.2.1 + 0)), (1, .int p0), (2, .ref (G.2.1 + 303))] [] σ
    refine q_aload_n hx dL_area_0 2 rfl ?_
    refine q_iconst (v := 0) hx dL_area_1 (by decide) ?_
    refine q_aload_n hx dL_area_2 0 rfl ?_
    refine q_iload_n hx dL_area_3 1 rfl ?_
    refine q_callX (e := 0) (v := v) (τ := σ) (As := [.int p0]) (rest := [.int 0, .ref (G.2.1 + 303)]) (hs := q_hs_area) hx hR6 (show q_Ex X (q_hs_area.map (·.1)) from hE) hN (c_X9_area (q_Xl X) G x σ p0 h hfl) q_lm_59 q_mn_X9_area q_mi_X9_area q_se_X9_area (by decide) rfl (Nat.le_of_ble_eq_true rfl) dL_area_4 rfl rfl q_hn_area q_cst (fun h => absurd h (by decide)) (fun _ => ?_)
    refine q_i2l hx dL_area_7 ?_
    refine q_last hx dL_area_8 ?_
    refine q_goto hx 15 dL_area_9 (by decide) ?_
    refine q_iconst (v := 0) hx dL_area_15 (by decide) ?_
    exact q_wret hx hr (by decide) (by decide) dL_area_16
  · rw [show q_cd [1] 1 = 1 by decide, if_neg (by decide)]
    refine q_ofWH (by decide) (Nat.le_of_ble_eq_true rfl) (fun X hl0 hx hr hE hN hR6 => ?_)
    subst hl0
    have hx : q_Cx X G RL cL_area 4 8 := hx
    show q_Wq X G x 4 (q_MQW X G 1 σ x) 0 0 0 [(0, .ref (G.2.1 + 0)), (1, .int p0), (2, .ref (G.2.1 + 303))] [] σ
    refine q_aload_n hx dL_area_0 2 rfl ?_
    refine q_iconst (v := 0) hx dL_area_1 (by decide) ?_
    refine q_aload_n hx dL_area_2 0 rfl ?_
    refine q_iload_n hx dL_area_3 1 rfl ?_
    refine q_callX (e := 1) (v := v) (τ := σ) (As := [.int p0]) (rest := [.int 0, .ref (G.2.1 + 303)]) (hs := q_hs_area) hx hR6 (show q_Ex X (q_hs_area.map (·.1)) from hE) hN (c_X9_area (q_Xl X) G x σ p0 h hfl) q_lm_59 q_mn_X9_area q_mi_X9_area q_se_X9_area (by decide) rfl (Nat.le_of_ble_eq_true rfl) dL_area_4 rfl rfl q_hn_area q_cst (fun _ => ⟨[], ((0, 9, 12, 21), "java/lang/IndexOutOfBoundsException"), [], rfl, by decide, by decide, rfl, fun q9 => ?_⟩) (fun h => absurd h (by decide))
    refine q_astore_n hx [(3, .ref q9), (0, .ref (G.2.1 + 0)), (1, .int p0), (2, .ref (G.2.1 + 303))] dL_area_12 (by decide) rfl ?_
    refine q_iconst (v := 1) hx dL_area_13 (by decide) ?_
    exact q_wret hx hr (by decide) (by decide) dL_area_14
set_option maxHeartbeats 4000000 in
set_option maxRecDepth 100000 in
theorem c_L_areaAgain (l : Launch) (G : q_G) (x : q_A) (σ : q_S) (p0 : Int32) {e : Nat} {v : Int32} (h : f_X9_areaAgain σ p0 = some (e, v)) (he : e = 0 ∨ e = 1) (hfl : l.stackTraces = false) : q_MetW l yL_areaAgain cL_areaAgain 4 [(0, 9, 12, 21)] 8 G [.ref (G.2.1 + 0), .int p0, .ref (G.2.1 + 303)] σ x (q_cd [1] e) σ (if e = 0 then (v.toInt64, x.2) else x) := by
  rcases he with rfl | rfl
  · rw [show q_cd [1] 0 = 0 by decide, if_pos rfl]
    refine q_ofWH (by decide) (Nat.le_of_ble_eq_true rfl) (fun X hl0 hx hr hE hN hR6 => ?_)
    subst hl0
    have hx : q_Cx X G RL cL_areaAgain 4 8 := hx
    show q_Wq X G x 4 (q_MQW X G 0 σ (v.toInt64, x.2)) 0 0 0 [(0, .ref (G.2.1 + 0)), (1, .int p0), (2, .ref (G.2.1 + 303))] [] σ
    refine q_aload_n hx dL_areaAgain_0 2 rfl ?_
    refine q_iconst (v := 0) hx dL_areaAgain_1 (by decide) ?_
    refine q_aload_n hx dL_areaAgain_2 0 rfl ?_
    refine q_iload_n hx dL_areaAgain_3 1 rfl ?_
    refine q_callX (e := 0) (v := v) (τ := σ) (As := [.int p0]) (rest := [.int 0, .ref (G.2.1 + 303)]) (hs := q_hs_areaAgain) hx hR6 (show q_Ex X (q_hs_areaAgain.map (·.1)) from hE) hN (c_X9_areaAgain (q_Xl X) G x σ p0 h hfl) q_lm_62 q_mn_X9_areaAgain q_mi_X9_areaAgain q_se_X9_areaAgain (by decide) rfl (Nat.le_of_ble_eq_true rfl) dL_areaAgain_4 rfl rfl q_hn_areaAgain q_cst (fun h => absurd h (by decide)) (fun _ => ?_)
    refine q_i2l hx dL_areaAgain_7 ?_
    refine q_last hx dL_areaAgain_8 ?_
    refine q_goto hx 15 dL_areaAgain_9 (by decide) ?_
    refine q_iconst (v := 0) hx dL_areaAgain_15 (by decide) ?_
    exact q_wret hx hr (by decide) (by decide) dL_areaAgain_16
  · rw [show q_cd [1] 1 = 1 by decide, if_neg (by decide)]
    refine q_ofWH (by decide) (Nat.le_of_ble_eq_true rfl) (fun X hl0 hx hr hE hN hR6 => ?_)
    subst hl0
    have hx : q_Cx X G RL cL_areaAgain 4 8 := hx
    show q_Wq X G x 4 (q_MQW X G 1 σ x) 0 0 0 [(0, .ref (G.2.1 + 0)), (1, .int p0), (2, .ref (G.2.1 + 303))] [] σ
    refine q_aload_n hx dL_areaAgain_0 2 rfl ?_
    refine q_iconst (v := 0) hx dL_areaAgain_1 (by decide) ?_
    refine q_aload_n hx dL_areaAgain_2 0 rfl ?_
    refine q_iload_n hx dL_areaAgain_3 1 rfl ?_
    refine q_callX (e := 1) (v := v) (τ := σ) (As := [.int p0]) (rest := [.int 0, .ref (G.2.1 + 303)]) (hs := q_hs_areaAgain) hx hR6 (show q_Ex X (q_hs_areaAgain.map (·.1)) from hE) hN (c_X9_areaAgain (q_Xl X) G x σ p0 h hfl) q_lm_62 q_mn_X9_areaAgain q_mi_X9_areaAgain q_se_X9_areaAgain (by decide) rfl (Nat.le_of_ble_eq_true rfl) dL_areaAgain_4 rfl rfl q_hn_areaAgain q_cst (fun _ => ⟨[], ((0, 9, 12, 21), "java/lang/IndexOutOfBoundsException"), [], rfl, by decide, by decide, rfl, fun q9 => ?_⟩) (fun h => absurd h (by decide))
    refine q_astore_n hx [(3, .ref q9), (0, .ref (G.2.1 + 0)), (1, .int p0), (2, .ref (G.2.1 + 303))] dL_areaAgain_12 (by decide) rfl ?_
    refine q_iconst (v := 1) hx dL_areaAgain_13 (by decide) ?_
    exact q_wret hx hr (by decide) (by decide) dL_areaAgain_14
set_option maxHeartbeats 4000000 in
set_option maxRecDepth 100000 in
theorem c_L_border (l : Launch) (G : q_G) (x : q_A) (σ : q_S) (p0 : Int32) (p1 : Int32) {e : Nat} {v : Int32} {τ : q_S} (h : f_X9_border σ p0 p1 = some (e, v, τ)) (he : e = 0 ∨ e = 1) (hfl : l.stackTraces = false) : q_MetW l yL_border cL_border 5 [(0, 10, 13, 21)] 8 G [.ref (G.2.1 + 0), .int p0, .int p1, .ref (G.2.1 + 303)] σ x (q_cd [1] e) τ (if e = 0 then (v.toInt64, x.2) else x) := by
  rcases he with rfl | rfl
  · rw [show q_cd [1] 0 = 0 by decide, if_pos rfl]
    refine q_ofWH (by decide) (Nat.le_of_ble_eq_true rfl) (fun X hl0 hx hr hE hN hR6 => ?_)
    subst hl0
    have hx : q_Cx X G RL cL_border 5 8 := hx
    show q_Wq X G x 5 (q_MQW X G 0 τ (v.toInt64, x.2)) 0 0 0 [(0, .ref (G.2.1 + 0)), (1, .int p0), (2, .int p1), (3, .ref (G.2.1 + 303))] [] σ
    refine q_aload_n hx dL_border_0 3 rfl ?_
    refine q_iconst (v := 0) hx dL_border_1 (by decide) ?_
    refine q_aload_n hx dL_border_2 0 rfl ?_
    refine q_iload_n hx dL_border_3 1 rfl ?_
    refine q_iload_n hx dL_border_4 2 rfl ?_
    refine q_callX (e := 0) (v := v) (τ := τ) (As := [.int p0, .int p1]) (rest := [.int 0, .ref (G.2.1 + 303)]) (hs := q_hs_border) hx hR6 (show q_Ex X (q_hs_border.map (·.1)) from hE) hN (c_X9_border (q_Xl X) G x σ p0 p1 h hfl) q_lm_65 q_mn_X9_border q_mi_X9_border q_se_X9_border (by decide) rfl (Nat.le_of_ble_eq_true rfl) dL_border_5 rfl rfl q_hn_border q_cst (fun h => absurd h (by decide)) (fun _ => ?_)
    refine q_i2l hx dL_border_8 ?_
    refine q_last hx dL_border_9 ?_
    refine q_goto hx 17 dL_border_10 (by decide) ?_
    refine q_iconst (v := 0) hx dL_border_17 (by decide) ?_
    exact q_wret hx hr (by decide) (by decide) dL_border_18
  · rw [show q_cd [1] 1 = 1 by decide, if_neg (by decide)]
    refine q_ofWH (by decide) (Nat.le_of_ble_eq_true rfl) (fun X hl0 hx hr hE hN hR6 => ?_)
    subst hl0
    have hx : q_Cx X G RL cL_border 5 8 := hx
    show q_Wq X G x 5 (q_MQW X G 1 τ x) 0 0 0 [(0, .ref (G.2.1 + 0)), (1, .int p0), (2, .int p1), (3, .ref (G.2.1 + 303))] [] σ
    refine q_aload_n hx dL_border_0 3 rfl ?_
    refine q_iconst (v := 0) hx dL_border_1 (by decide) ?_
    refine q_aload_n hx dL_border_2 0 rfl ?_
    refine q_iload_n hx dL_border_3 1 rfl ?_
    refine q_iload_n hx dL_border_4 2 rfl ?_
    refine q_callX (e := 1) (v := v) (τ := τ) (As := [.int p0, .int p1]) (rest := [.int 0, .ref (G.2.1 + 303)]) (hs := q_hs_border) hx hR6 (show q_Ex X (q_hs_border.map (·.1)) from hE) hN (c_X9_border (q_Xl X) G x σ p0 p1 h hfl) q_lm_65 q_mn_X9_border q_mi_X9_border q_se_X9_border (by decide) rfl (Nat.le_of_ble_eq_true rfl) dL_border_5 rfl rfl q_hn_border q_cst (fun _ => ⟨[], ((0, 10, 13, 21), "java/lang/IndexOutOfBoundsException"), [], rfl, by decide, by decide, rfl, fun q9 => ?_⟩) (fun h => absurd h (by decide))
    refine q_astore hx [(4, .ref q9), (0, .ref (G.2.1 + 0)), (1, .int p0), (2, .int p1), (3, .ref (G.2.1 + 303))] dL_border_13 (by decide) rfl ?_
    refine q_iconst (v := 1) hx dL_border_15 (by decide) ?_
    exact q_wret hx hr (by decide) (by decide) dL_border_16
set_option maxHeartbeats 4000000 in
set_option maxRecDepth 100000 in
theorem c_L_borderAgain (l : Launch) (G : q_G) (x : q_A) (σ : q_S) (p0 : Int32) (p1 : Int32) {e : Nat} {v : Int32} {τ : q_S} (h : f_X9_borderAgain σ p0 p1 = some (e, v, τ)) (he : e = 0 ∨ e = 1) (hfl : l.stackTraces = false) : q_MetW l yL_borderAgain cL_borderAgain 5 [(0, 10, 13, 21)] 8 G [.ref (G.2.1 + 0), .int p0, .int p1, .ref (G.2.1 + 303)] σ x (q_cd [1] e) τ (if e = 0 then (v.toInt64, x.2) else x) := by
  rcases he with rfl | rfl
  · rw [show q_cd [1] 0 = 0 by decide, if_pos rfl]
    refine q_ofWH (by decide) (Nat.le_of_ble_eq_true rfl) (fun X hl0 hx hr hE hN hR6 => ?_)
    subst hl0
    have hx : q_Cx X G RL cL_borderAgain 5 8 := hx
    show q_Wq X G x 5 (q_MQW X G 0 τ (v.toInt64, x.2)) 0 0 0 [(0, .ref (G.2.1 + 0)), (1, .int p0), (2, .int p1), (3, .ref (G.2.1 + 303))] [] σ
    refine q_aload_n hx dL_borderAgain_0 3 rfl ?_
    refine q_iconst (v := 0) hx dL_borderAgain_1 (by decide) ?_
    refine q_aload_n hx dL_borderAgain_2 0 rfl ?_
    refine q_iload_n hx dL_borderAgain_3 1 rfl ?_
    refine q_iload_n hx dL_borderAgain_4 2 rfl ?_
    refine q_callX (e := 0) (v := v) (τ := τ) (As := [.int p0, .int p1]) (rest := [.int 0, .ref (G.2.1 + 303)]) (hs := q_hs_borderAgain) hx hR6 (show q_Ex X (q_hs_borderAgain.map (·.1)) from hE) hN (c_X9_borderAgain (q_Xl X) G x σ p0 p1 h hfl) q_lm_68 q_mn_X9_borderAgain q_mi_X9_borderAgain q_se_X9_borderAgain (by decide) rfl (Nat.le_of_ble_eq_true rfl) dL_borderAgain_5 rfl rfl q_hn_borderAgain q_cst (fun h => absurd h (by decide)) (fun _ => ?_)
    refine q_i2l hx dL_borderAgain_8 ?_
    refine q_last hx dL_borderAgain_9 ?_
    refine q_goto hx 17 dL_borderAgain_10 (by decide) ?_
    refine q_iconst (v := 0) hx dL_borderAgain_17 (by decide) ?_
    exact q_wret hx hr (by decide) (by decide) dL_borderAgain_18
  · rw [show q_cd [1] 1 = 1 by decide, if_neg (by decide)]
    refine q_ofWH (by decide) (Nat.le_of_ble_eq_true rfl) (fun X hl0 hx hr hE hN hR6 => ?_)
    subst hl0
    have hx : q_Cx X G RL cL_borderAgain 5 8 := hx
    show q_Wq X G x 5 (q_MQW X G 1 τ x) 0 0 0 [(0, .ref (G.2.1 + 0)), (1, .int p0), (2, .int p1), (3, .ref (G.2.1 + 303))] [] σ
    refine q_aload_n hx dL_borderAgain_0 3 rfl ?_
    refine q_iconst (v := 0) hx dL_borderAgain_1 (by decide) ?_
    refine q_aload_n hx dL_borderAgain_2 0 rfl ?_
    refine q_iload_n hx dL_borderAgain_3 1 rfl ?_
    refine q_iload_n hx dL_borderAgain_4 2 rfl ?_
    refine q_callX (e := 1) (v := v) (τ := τ) (As := [.int p0, .int p1]) (rest := [.int 0, .ref (G.2.1 + 303)]) (hs := q_hs_borderAgain) hx hR6 (show q_Ex X (q_hs_borderAgain.map (·.1)) from hE) hN (c_X9_borderAgain (q_Xl X) G x σ p0 p1 h hfl) q_lm_68 q_mn_X9_borderAgain q_mi_X9_borderAgain q_se_X9_borderAgain (by decide) rfl (Nat.le_of_ble_eq_true rfl) dL_borderAgain_5 rfl rfl q_hn_borderAgain q_cst (fun _ => ⟨[], ((0, 10, 13, 21), "java/lang/IndexOutOfBoundsException"), [], rfl, by decide, by decide, rfl, fun q9 => ?_⟩) (fun h => absurd h (by decide))
    refine q_astore hx [(4, .ref q9), (0, .ref (G.2.1 + 0)), (1, .int p0), (2, .int p1), (3, .ref (G.2.1 + 303))] dL_borderAgain_13 (by decide) rfl ?_
    refine q_iconst (v := 1) hx dL_borderAgain_15 (by decide) ?_
    exact q_wret hx hr (by decide) (by decide) dL_borderAgain_16
set_option maxHeartbeats 4000000 in
set_option maxRecDepth 100000 in
theorem c_L_fence (l : Launch) (G : q_G) (x : q_A) (σ : q_S) (p0 : Int32) {e : Nat} {v : Int32} {τ : q_S} (h : f_X9_fence σ p0 = some (e, v, τ)) (he : e = 0 ∨ e = 1) (hfl : l.stackTraces = false) : q_MetW l yL_fence cL_fence 4 [(0, 9, 12, 21)] 8 G [.ref (G.2.1 + 0), .int p0, .ref (G.2.1 + 303)] σ x (q_cd [1] e) τ (if e = 0 then (v.toInt64, x.2) else x) := by
  rcases he with rfl | rfl
  · rw [show q_cd [1] 0 = 0 by decide, if_pos rfl]
    refine q_ofWH (by decide) (Nat.le_of_ble_eq_true rfl) (fun X hl0 hx hr hE hN hR6 => ?_)
    subst hl0
    have hx : q_Cx X G RL cL_fence 4 8 := hx
    show q_Wq X G x 4 (q_MQW X G 0 τ (v.toInt64, x.2)) 0 0 0 [(0, .ref (G.2.1 + 0)), (1, .int p0), (2, .ref (G.2.1 + 303))] [] σ
    refine q_aload_n hx dL_fence_0 2 rfl ?_
    refine q_iconst (v := 0) hx dL_fence_1 (by decide) ?_
    refine q_aload_n hx dL_fence_2 0 rfl ?_
    refine q_iload_n hx dL_fence_3 1 rfl ?_
    refine q_callX (e := 0) (v := v) (τ := τ) (As := [.int p0]) (rest := [.int 0, .ref (G.2.1 + 303)]) (hs := q_hs_fence) hx hR6 (show q_Ex X (q_hs_fence.map (·.1)) from hE) hN (c_X9_fence (q_Xl X) G x σ p0 h hfl) q_lm_71 q_mn_X9_fence q_mi_X9_fence q_se_X9_fence (by decide) rfl (Nat.le_of_ble_eq_true rfl) dL_fence_4 rfl rfl q_hn_fence q_cst (fun h => absurd h (by decide)) (fun _ => ?_)
    refine q_i2l hx dL_fence_7 ?_
    refine q_last hx dL_fence_8 ?_
    refine q_goto hx 15 dL_fence_9 (by decide) ?_
    refine q_iconst (v := 0) hx dL_fence_15 (by decide) ?_
    exact q_wret hx hr (by decide) (by decide) dL_fence_16
  · rw [show q_cd [1] 1 = 1 by decide, if_neg (by decide)]
    refine q_ofWH (by decide) (Nat.le_of_ble_eq_true rfl) (fun X hl0 hx hr hE hN hR6 => ?_)
    subst hl0
    have hx : q_Cx X G RL cL_fence 4 8 := hx
    show q_Wq X G x 4 (q_MQW X G 1 τ x) 0 0 0 [(0, .ref (G.2.1 + 0)), (1, .int p0), (2, .ref (G.2.1 + 303))] [] σ
    refine q_aload_n hx dL_fence_0 2 rfl ?_
    refine q_iconst (v := 0) hx dL_fence_1 (by decide) ?_
    refine q_aload_n hx dL_fence_2 0 rfl ?_
    refine q_iload_n hx dL_fence_3 1 rfl ?_
    refine q_callX (e := 1) (v := v) (τ := τ) (As := [.int p0]) (rest := [.int 0, .ref (G.2.1 + 303)]) (hs := q_hs_fence) hx hR6 (show q_Ex X (q_hs_fence.map (·.1)) from hE) hN (c_X9_fence (q_Xl X) G x σ p0 h hfl) q_lm_71 q_mn_X9_fence q_mi_X9_fence q_se_X9_fence (by decide) rfl (Nat.le_of_ble_eq_true rfl) dL_fence_4 rfl rfl q_hn_fence q_cst (fun _ => ⟨[], ((0, 9, 12, 21), "java/lang/IndexOutOfBoundsException"), [], rfl, by decide, by decide, rfl, fun q9 => ?_⟩) (fun h => absurd h (by decide))
    refine q_astore_n hx [(3, .ref q9), (0, .ref (G.2.1 + 0)), (1, .int p0), (2, .ref (G.2.1 + 303))] dL_fence_12 (by decide) rfl ?_
    refine q_iconst (v := 1) hx dL_fence_13 (by decide) ?_
    exact q_wret hx hr (by decide) (by decide) dL_fence_14
set_option maxHeartbeats 4000000 in
set_option maxRecDepth 100000 in
theorem c_L_closes (l : Launch) (G : q_G) (x : q_A) (σ : q_S) (p0 : Int32) {e : Nat} {v : Int32} (h : f_X9_closes σ p0 = (e, v)) (he : e = 0 ∨ e = 1 ∨ e = 4) (hfl : l.stackTraces = false) : q_MetW l yL_closes cL_closes 4 [(0, 9, 12, 21), (0, 9, 15, 77)] 8 G [.ref (G.2.1 + 0), .int p0, .ref (G.2.1 + 303)] σ x (q_cd [1, 4] e) σ (if e = 0 then (v.toInt64, x.2) else x) := by
  rcases he with rfl | rfl | rfl
  · rw [show q_cd [1, 4] 0 = 0 by decide, if_pos rfl]
    refine q_ofWH (by decide) (Nat.le_of_ble_eq_true rfl) (fun X hl0 hx hr hE hN hR6 => ?_)
    subst hl0
    have hx : q_Cx X G RL cL_closes 4 8 := hx
    show q_Wq X G x 4 (q_MQW X G 0 σ (v.toInt64, x.2)) 0 0 0 [(0, .ref (G.2.1 + 0)), (1, .int p0), (2, .ref (G.2.1 + 303))] [] σ
    refine q_aload_n hx dL_closes_0 2 rfl ?_
    refine q_iconst (v := 0) hx dL_closes_1 (by decide) ?_
    refine q_aload_n hx dL_closes_2 0 rfl ?_
    refine q_iload_n hx dL_closes_3 1 rfl ?_
    refine q_callX (e := 0) (v := v) (τ := σ) (As := [.int p0]) (rest := [.int 0, .ref (G.2.1 + 303)]) (hs := q_hs_closes) hx hR6 (show q_Ex X (q_hs_closes.map (·.1)) from hE) hN (ca_X9_closes (q_Xl X) G x σ p0 h hfl) q_lm_74 q_mn_X9_closes q_mi_X9_closes q_se_X9_closes (by decide) rfl (Nat.le_of_ble_eq_true rfl) dL_closes_4 rfl rfl q_hn_closes q_cst (fun h => absurd h (by decide)) (fun _ => ?_)
    refine q_i2l hx dL_closes_7 ?_
    refine q_last hx dL_closes_8 ?_
    refine q_goto hx 18 dL_closes_9 (by decide) ?_
    refine q_iconst (v := 0) hx dL_closes_18 (by decide) ?_
    exact q_wret hx hr (by decide) (by decide) dL_closes_19
  · rw [show q_cd [1, 4] 1 = 1 by decide, if_neg (by decide)]
    refine q_ofWH (by decide) (Nat.le_of_ble_eq_true rfl) (fun X hl0 hx hr hE hN hR6 => ?_)
    subst hl0
    have hx : q_Cx X G RL cL_closes 4 8 := hx
    show q_Wq X G x 4 (q_MQW X G 1 σ x) 0 0 0 [(0, .ref (G.2.1 + 0)), (1, .int p0), (2, .ref (G.2.1 + 303))] [] σ
    refine q_aload_n hx dL_closes_0 2 rfl ?_
    refine q_iconst (v := 0) hx dL_closes_1 (by decide) ?_
    refine q_aload_n hx dL_closes_2 0 rfl ?_
    refine q_iload_n hx dL_closes_3 1 rfl ?_
    refine q_callX (e := 1) (v := v) (τ := σ) (As := [.int p0]) (rest := [.int 0, .ref (G.2.1 + 303)]) (hs := q_hs_closes) hx hR6 (show q_Ex X (q_hs_closes.map (·.1)) from hE) hN (ca_X9_closes (q_Xl X) G x σ p0 h hfl) q_lm_74 q_mn_X9_closes q_mi_X9_closes q_se_X9_closes (by decide) rfl (Nat.le_of_ble_eq_true rfl) dL_closes_4 rfl rfl q_hn_closes q_cst (fun _ => ⟨[], ((0, 9, 12, 21), "java/lang/IndexOutOfBoundsException"), [((0, 9, 15, 77), "java/util/NoSuchElementException")], rfl, by decide, by decide, rfl, fun q9 => ?_⟩) (fun h => absurd h (by decide))
    refine q_astore_n hx [(3, .ref q9), (0, .ref (G.2.1 + 0)), (1, .int p0), (2, .ref (G.2.1 + 303))] dL_closes_12 (by decide) rfl ?_
    refine q_iconst (v := 1) hx dL_closes_13 (by decide) ?_
    exact q_wret hx hr (by decide) (by decide) dL_closes_14
  · rw [show q_cd [1, 4] 4 = 2 by decide, if_neg (by decide)]
    refine q_ofWH (by decide) (Nat.le_of_ble_eq_true rfl) (fun X hl0 hx hr hE hN hR6 => ?_)
    subst hl0
    have hx : q_Cx X G RL cL_closes 4 8 := hx
    show q_Wq X G x 4 (q_MQW X G 2 σ x) 0 0 0 [(0, .ref (G.2.1 + 0)), (1, .int p0), (2, .ref (G.2.1 + 303))] [] σ
    refine q_aload_n hx dL_closes_0 2 rfl ?_
    refine q_iconst (v := 0) hx dL_closes_1 (by decide) ?_
    refine q_aload_n hx dL_closes_2 0 rfl ?_
    refine q_iload_n hx dL_closes_3 1 rfl ?_
    refine q_callX (e := 4) (v := v) (τ := σ) (As := [.int p0]) (rest := [.int 0, .ref (G.2.1 + 303)]) (hs := q_hs_closes) hx hR6 (show q_Ex X (q_hs_closes.map (·.1)) from hE) hN (ca_X9_closes (q_Xl X) G x σ p0 h hfl) q_lm_74 q_mn_X9_closes q_mi_X9_closes q_se_X9_closes (by decide) rfl (Nat.le_of_ble_eq_true rfl) dL_closes_4 rfl rfl q_hn_closes q_cst (fun _ => ⟨[((0, 9, 12, 21), "java/lang/IndexOutOfBoundsException")], ((0, 9, 15, 77), "java/util/NoSuchElementException"), [], rfl, by decide, by decide, rfl, fun q9 => ?_⟩) (fun h => absurd h (by decide))
    refine q_astore_n hx [(3, .ref q9), (0, .ref (G.2.1 + 0)), (1, .int p0), (2, .ref (G.2.1 + 303))] dL_closes_15 (by decide) rfl ?_
    refine q_iconst (v := 2) hx dL_closes_16 (by decide) ?_
    exact q_wret hx hr (by decide) (by decide) dL_closes_17
set_option maxHeartbeats 4000000 in
set_option maxRecDepth 100000 in
theorem c_L_would (l : Launch) (G : q_G) (x : q_A) (σ : q_S) (p0 : Int32) (p1 : Int32) {e : Nat} {v : Int32} {τ : q_S} (h : f_X9_would σ p0 p1 = some (e, v, τ)) (he : e = 0 ∨ e = 1 ∨ e = 2) (hfl : l.stackTraces = false) : q_MetW l yL_would cL_would 5 [(0, 10, 13, 21), (0, 10, 17, 13)] 8 G [.ref (G.2.1 + 0), .int p0, .int p1, .ref (G.2.1 + 303)] σ x (q_cd [1, 2] e) τ (if e = 0 then (v.toInt64, x.2) else x) := by
  rcases he with rfl | rfl | rfl
  · rw [show q_cd [1, 2] 0 = 0 by decide, if_pos rfl]
    refine q_ofWH (by decide) (Nat.le_of_ble_eq_true rfl) (fun X hl0 hx hr hE hN hR6 => ?_)
    subst hl0
    have hx : q_Cx X G RL cL_would 5 8 := hx
    show q_Wq X G x 5 (q_MQW X G 0 τ (v.toInt64, x.2)) 0 0 0 [(0, .ref (G.2.1 + 0)), (1, .int p0), (2, .int p1), (3, .ref (G.2.1 + 303))] [] σ
    refine q_aload_n hx dL_would_0 3 rfl ?_
    refine q_iconst (v := 0) hx dL_would_1 (by decide) ?_
    refine q_aload_n hx dL_would_2 0 rfl ?_
    refine q_iload_n hx dL_would_3 1 rfl ?_
    refine q_iload_n hx dL_would_4 2 rfl ?_
    refine q_callX (e := 0) (v := v) (τ := τ) (As := [.int p0, .int p1]) (rest := [.int 0, .ref (G.2.1 + 303)]) (hs := q_hs_would) hx hR6 (show q_Ex X (q_hs_would.map (·.1)) from hE) hN (c_X9_would (q_Xl X) G x σ p0 p1 h hfl) q_lm_79 q_mn_X9_would q_mi_X9_would q_se_X9_would (by decide) rfl (Nat.le_of_ble_eq_true rfl) dL_would_5 rfl rfl q_hn_would q_cst (fun h => absurd h (by decide)) (fun _ => ?_)
    refine q_i2l hx dL_would_8 ?_
    refine q_last hx dL_would_9 ?_
    refine q_goto hx 21 dL_would_10 (by decide) ?_
    refine q_iconst (v := 0) hx dL_would_21 (by decide) ?_
    exact q_wret hx hr (by decide) (by decide) dL_would_22
  · rw [show q_cd [1, 2] 1 = 1 by decide, if_neg (by decide)]
    refine q_ofWH (by decide) (Nat.le_of_ble_eq_true rfl) (fun X hl0 hx hr hE hN hR6 => ?_)
    subst hl0
    have hx : q_Cx X G RL cL_would 5 8 := hx
    show q_Wq X G x 5 (q_MQW X G 1 τ x) 0 0 0 [(0, .ref (G.2.1 + 0)), (1, .int p0), (2, .int p1), (3, .ref (G.2.1 + 303))] [] σ
    refine q_aload_n hx dL_would_0 3 rfl ?_
    refine q_iconst (v := 0) hx dL_would_1 (by decide) ?_
    refine q_aload_n hx dL_would_2 0 rfl ?_
    refine q_iload_n hx dL_would_3 1 rfl ?_
    refine q_iload_n hx dL_would_4 2 rfl ?_
    refine q_callX (e := 1) (v := v) (τ := τ) (As := [.int p0, .int p1]) (rest := [.int 0, .ref (G.2.1 + 303)]) (hs := q_hs_would) hx hR6 (show q_Ex X (q_hs_would.map (·.1)) from hE) hN (c_X9_would (q_Xl X) G x σ p0 p1 h hfl) q_lm_79 q_mn_X9_would q_mi_X9_would q_se_X9_would (by decide) rfl (Nat.le_of_ble_eq_true rfl) dL_would_5 rfl rfl q_hn_would q_cst (fun _ => ⟨[], ((0, 10, 13, 21), "java/lang/IndexOutOfBoundsException"), [((0, 10, 17, 13), "java/lang/IllegalArgumentException")], rfl, by decide, by decide, rfl, fun q9 => ?_⟩) (fun h => absurd h (by decide))
    refine q_astore hx [(4, .ref q9), (0, .ref (G.2.1 + 0)), (1, .int p0), (2, .int p1), (3, .ref (G.2.1 + 303))] dL_would_13 (by decide) rfl ?_
    refine q_iconst (v := 1) hx dL_would_15 (by decide) ?_
    exact q_wret hx hr (by decide) (by decide) dL_would_16
  · rw [show q_cd [1, 2] 2 = 2 by decide, if_neg (by decide)]
    refine q_ofWH (by decide) (Nat.le_of_ble_eq_true rfl) (fun X hl0 hx hr hE hN hR6 => ?_)
    subst hl0
    have hx : q_Cx X G RL cL_would 5 8 := hx
    show q_Wq X G x 5 (q_MQW X G 2 τ x) 0 0 0 [(0, .ref (G.2.1 + 0)), (1, .int p0), (2, .int p1), (3, .ref (G.2.1 + 303))] [] σ
    refine q_aload_n hx dL_would_0 3 rfl ?_
    refine q_iconst (v := 0) hx dL_would_1 (by decide) ?_
    refine q_aload_n hx dL_would_2 0 rfl ?_
    refine q_iload_n hx dL_would_3 1 rfl ?_
    refine q_iload_n hx dL_would_4 2 rfl ?_
    refine q_callX (e := 2) (v := v) (τ := τ) (As := [.int p0, .int p1]) (rest := [.int 0, .ref (G.2.1 + 303)]) (hs := q_hs_would) hx hR6 (show q_Ex X (q_hs_would.map (·.1)) from hE) hN (c_X9_would (q_Xl X) G x σ p0 p1 h hfl) q_lm_79 q_mn_X9_would q_mi_X9_would q_se_X9_would (by decide) rfl (Nat.le_of_ble_eq_true rfl) dL_would_5 rfl rfl q_hn_would q_cst (fun _ => ⟨[((0, 10, 13, 21), "java/lang/IndexOutOfBoundsException")], ((0, 10, 17, 13), "java/lang/IllegalArgumentException"), [], rfl, by decide, by decide, rfl, fun q9 => ?_⟩) (fun h => absurd h (by decide))
    refine q_astore hx [(4, .ref q9), (0, .ref (G.2.1 + 0)), (1, .int p0), (2, .int p1), (3, .ref (G.2.1 + 303))] dL_would_17 (by decide) rfl ?_
    refine q_iconst (v := 2) hx dL_would_19 (by decide) ?_
    exact q_wret hx hr (by decide) (by decide) dL_would_20
set_option maxHeartbeats 4000000 in
set_option maxRecDepth 100000 in
theorem c_L_ranked (l : Launch) (G : q_G) (x : q_A) (σ : q_S) (p0 : Int32) {e : Nat} {v : Int32} {τ : q_S} (h : f_X9_ranked σ p0 = some (e, v, τ)) (he : e = 0 ∨ e = 4) (hfl : l.stackTraces = false) : q_MetW l yL_ranked cL_ranked 4 [(0, 9, 12, 77)] 8 G [.ref (G.2.1 + 0), .int p0, .ref (G.2.1 + 303)] σ x (q_cd [4] e) τ (if e = 0 then (v.toInt64, x.2) else x) := by
  rcases he with rfl | rfl
  · rw [show q_cd [4] 0 = 0 by decide, if_pos rfl]
    refine q_ofWH (by decide) (Nat.le_of_ble_eq_true rfl) (fun X hl0 hx hr hE hN hR6 => ?_)
    subst hl0
    have hx : q_Cx X G RL cL_ranked 4 8 := hx
    show q_Wq X G x 4 (q_MQW X G 0 τ (v.toInt64, x.2)) 0 0 0 [(0, .ref (G.2.1 + 0)), (1, .int p0), (2, .ref (G.2.1 + 303))] [] σ
    refine q_aload_n hx dL_ranked_0 2 rfl ?_
    refine q_iconst (v := 0) hx dL_ranked_1 (by decide) ?_
    refine q_aload_n hx dL_ranked_2 0 rfl ?_
    refine q_iload_n hx dL_ranked_3 1 rfl ?_
    refine q_callX (e := 0) (v := v) (τ := τ) (As := [.int p0]) (rest := [.int 0, .ref (G.2.1 + 303)]) (hs := q_hs_ranked) hx hR6 (show q_Ex X (q_hs_ranked.map (·.1)) from hE) hN (c_X9_ranked (q_Xl X) G x σ p0 h hfl) q_lm_82 q_mn_X9_ranked q_mi_X9_ranked q_se_X9_ranked (by decide) rfl (Nat.le_of_ble_eq_true rfl) dL_ranked_4 rfl rfl q_hn_ranked q_cst (fun h => absurd h (by decide)) (fun _ => ?_)
    refine q_i2l hx dL_ranked_7 ?_
    refine q_last hx dL_ranked_8 ?_
    refine q_goto hx 15 dL_ranked_9 (by decide) ?_
    refine q_iconst (v := 0) hx dL_ranked_15 (by decide) ?_
    exact q_wret hx hr (by decide) (by decide) dL_ranked_16
  · rw [show q_cd [4] 4 = 1 by decide, if_neg (by decide)]
    refine q_ofWH (by decide) (Nat.le_of_ble_eq_true rfl) (fun X hl0 hx hr hE hN hR6 => ?_)
    subst hl0
    have hx : q_Cx X G RL cL_ranked 4 8 := hx
    show q_Wq X G x 4 (q_MQW X G 1 τ x) 0 0 0 [(0, .ref (G.2.1 + 0)), (1, .int p0), (2, .ref (G.2.1 + 303))] [] σ
    refine q_aload_n hx dL_ranked_0 2 rfl ?_
    refine q_iconst (v := 0) hx dL_ranked_1 (by decide) ?_
    refine q_aload_n hx dL_ranked_2 0 rfl ?_
    refine q_iload_n hx dL_ranked_3 1 rfl ?_
    refine q_callX (e := 4) (v := v) (τ := τ) (As := [.int p0]) (rest := [.int 0, .ref (G.2.1 + 303)]) (hs := q_hs_ranked) hx hR6 (show q_Ex X (q_hs_ranked.map (·.1)) from hE) hN (c_X9_ranked (q_Xl X) G x σ p0 h hfl) q_lm_82 q_mn_X9_ranked q_mi_X9_ranked q_se_X9_ranked (by decide) rfl (Nat.le_of_ble_eq_true rfl) dL_ranked_4 rfl rfl q_hn_ranked q_cst (fun _ => ⟨[], ((0, 9, 12, 77), "java/util/NoSuchElementException"), [], rfl, by decide, by decide, rfl, fun q9 => ?_⟩) (fun h => absurd h (by decide))
    refine q_astore_n hx [(3, .ref q9), (0, .ref (G.2.1 + 0)), (1, .int p0), (2, .ref (G.2.1 + 303))] dL_ranked_12 (by decide) rfl ?_
    refine q_iconst (v := 1) hx dL_ranked_13 (by decide) ?_
    exact q_wret hx hr (by decide) (by decide) dL_ranked_14
set_option maxHeartbeats 4000000 in
set_option maxRecDepth 100000 in
theorem c_L_nextLit (l : Launch) (G : q_G) (x : q_A) (σ : q_S) {e : Nat} {v : Int32} (h : f_X9_nextLit σ = some (e, v)) (he : e = 0 ∨ e = 4) (hfl : l.stackTraces = false) : q_MetW l yL_nextLit cL_nextLit 3 [(0, 8, 11, 77)] 8 G [.ref (G.2.1 + 0), .ref (G.2.1 + 303)] σ x (q_cd [4] e) σ (if e = 0 then (v.toInt64, x.2) else x) := by
  rcases he with rfl | rfl
  · rw [show q_cd [4] 0 = 0 by decide, if_pos rfl]
    refine q_ofWH (by decide) (Nat.le_of_ble_eq_true rfl) (fun X hl0 hx hr hE hN hR6 => ?_)
    subst hl0
    have hx : q_Cx X G RL cL_nextLit 3 8 := hx
    show q_Wq X G x 3 (q_MQW X G 0 σ (v.toInt64, x.2)) 0 0 0 [(0, .ref (G.2.1 + 0)), (1, .ref (G.2.1 + 303))] [] σ
    refine q_aload_n hx dL_nextLit_0 1 rfl ?_
    refine q_iconst (v := 0) hx dL_nextLit_1 (by decide) ?_
    refine q_aload_n hx dL_nextLit_2 0 rfl ?_
    refine q_callX (e := 0) (v := v) (τ := σ) (As := []) (rest := [.int 0, .ref (G.2.1 + 303)]) (hs := q_hs_nextLit) hx hR6 (show q_Ex X (q_hs_nextLit.map (·.1)) from hE) hN (c_X9_nextLit (q_Xl X) G x σ  h hfl) q_lm_85 q_mn_X9_nextLit q_mi_X9_nextLit q_se_X9_nextLit (by decide) rfl (Nat.le_of_ble_eq_true rfl) dL_nextLit_3 rfl rfl q_hn_nextLit q_cst (fun h => absurd h (by decide)) (fun _ => ?_)
    refine q_i2l hx dL_nextLit_6 ?_
    refine q_last hx dL_nextLit_7 ?_
    refine q_goto hx 14 dL_nextLit_8 (by decide) ?_
    refine q_iconst (v := 0) hx dL_nextLit_14 (by decide) ?_
    exact q_wret hx hr (by decide) (by decide) dL_nextLit_15
  · rw [show q_cd [4] 4 = 1 by decide, if_neg (by decide)]
    refine q_ofWH (by decide) (Nat.le_of_ble_eq_true rfl) (fun X hl0 hx hr hE hN hR6 => ?_)
    subst hl0
    have hx : q_Cx X G RL cL_nextLit 3 8 := hx
    show q_Wq X G x 3 (q_MQW X G 1 σ x) 0 0 0 [(0, .ref (G.2.1 + 0)), (1, .ref (G.2.1 + 303))] [] σ
    refine q_aload_n hx dL_nextLit_0 1 rfl ?_
    refine q_iconst (v := 0) hx dL_nextLit_1 (by decide) ?_
    refine q_aload_n hx dL_nextLit_2 0 rfl ?_
    refine q_callX (e := 4) (v := v) (τ := σ) (As := []) (rest := [.int 0, .ref (G.2.1 + 303)]) (hs := q_hs_nextLit) hx hR6 (show q_Ex X (q_hs_nextLit.map (·.1)) from hE) hN (c_X9_nextLit (q_Xl X) G x σ  h hfl) q_lm_85 q_mn_X9_nextLit q_mi_X9_nextLit q_se_X9_nextLit (by decide) rfl (Nat.le_of_ble_eq_true rfl) dL_nextLit_3 rfl rfl q_hn_nextLit q_cst (fun _ => ⟨[], ((0, 8, 11, 77), "java/util/NoSuchElementException"), [], rfl, by decide, by decide, rfl, fun q9 => ?_⟩) (fun h => absurd h (by decide))
    refine q_astore_n hx [(2, .ref q9), (0, .ref (G.2.1 + 0)), (1, .ref (G.2.1 + 303))] dL_nextLit_11 (by decide) rfl ?_
    refine q_iconst (v := 1) hx dL_nextLit_12 (by decide) ?_
    exact q_wret hx hr (by decide) (by decide) dL_nextLit_13
set_option maxHeartbeats 4000000 in
set_option maxRecDepth 100000 in
theorem c_L_type (l : Launch) (G : q_G) (x : q_A) (σ : q_S) (p0 : Int32) {e : Nat} {v : Int32} {τ : q_S} (h : f_X9_type σ p0 = some (e, v, τ)) (he : e = 0 ∨ e = 5) (hfl : l.stackTraces = false) : q_MetW l yL_type cL_type 4 [(0, 9, 12, 93)] 8 G [.ref (G.2.1 + 0), .int p0, .ref (G.2.1 + 303)] σ x (q_cd [5] e) τ (if e = 0 then (v.toInt64, x.2) else x) := by
  rcases he with rfl | rfl
  · rw [show q_cd [5] 0 = 0 by decide, if_pos rfl]
    refine q_ofWH (by decide) (Nat.le_of_ble_eq_true rfl) (fun X hl0 hx hr hE hN hR6 => ?_)
    subst hl0
    have hx : q_Cx X G RL cL_type 4 8 := hx
    show q_Wq X G x 4 (q_MQW X G 0 τ (v.toInt64, x.2)) 0 0 0 [(0, .ref (G.2.1 + 0)), (1, .int p0), (2, .ref (G.2.1 + 303))] [] σ
    refine q_aload_n hx dL_type_0 2 rfl ?_
    refine q_iconst (v := 0) hx dL_type_1 (by decide) ?_
    refine q_aload_n hx dL_type_2 0 rfl ?_
    refine q_iload_n hx dL_type_3 1 rfl ?_
    refine q_callX (e := 0) (v := v) (τ := τ) (As := [.int p0]) (rest := [.int 0, .ref (G.2.1 + 303)]) (hs := q_hs_type) hx hR6 (show q_Ex X (q_hs_type.map (·.1)) from hE) hN (c_X9_type (q_Xl X) G x σ p0 h hfl) q_lm_89 q_mn_X9_type q_mi_X9_type q_se_X9_type (by decide) rfl (Nat.le_of_ble_eq_true rfl) dL_type_4 rfl rfl q_hn_type q_cst (fun h => absurd h (by decide)) (fun _ => ?_)
    refine q_i2l hx dL_type_7 ?_
    refine q_last hx dL_type_8 ?_
    refine q_goto hx 15 dL_type_9 (by decide) ?_
    refine q_iconst (v := 0) hx dL_type_15 (by decide) ?_
    exact q_wret hx hr (by decide) (by decide) dL_type_16
  · rw [show q_cd [5] 5 = 1 by decide, if_neg (by decide)]
    refine q_ofWH (by decide) (Nat.le_of_ble_eq_true rfl) (fun X hl0 hx hr hE hN hR6 => ?_)
    subst hl0
    have hx : q_Cx X G RL cL_type 4 8 := hx
    show q_Wq X G x 4 (q_MQW X G 1 τ x) 0 0 0 [(0, .ref (G.2.1 + 0)), (1, .int p0), (2, .ref (G.2.1 + 303))] [] σ
    refine q_aload_n hx dL_type_0 2 rfl ?_
    refine q_iconst (v := 0) hx dL_type_1 (by decide) ?_
    refine q_aload_n hx dL_type_2 0 rfl ?_
    refine q_iload_n hx dL_type_3 1 rfl ?_
    refine q_callX (e := 5) (v := v) (τ := τ) (As := [.int p0]) (rest := [.int 0, .ref (G.2.1 + 303)]) (hs := q_hs_type) hx hR6 (show q_Ex X (q_hs_type.map (·.1)) from hE) hN (c_X9_type (q_Xl X) G x σ p0 h hfl) q_lm_89 q_mn_X9_type q_mi_X9_type q_se_X9_type (by decide) rfl (Nat.le_of_ble_eq_true rfl) dL_type_4 rfl rfl q_hn_type q_cst (fun _ => ⟨[], ((0, 9, 12, 93), "java/lang/IllegalStateException"), [], rfl, by decide, by decide, rfl, fun q9 => ?_⟩) (fun h => absurd h (by decide))
    refine q_astore_n hx [(3, .ref q9), (0, .ref (G.2.1 + 0)), (1, .int p0), (2, .ref (G.2.1 + 303))] dL_type_12 (by decide) rfl ?_
    refine q_iconst (v := 1) hx dL_type_13 (by decide) ?_
    exact q_wret hx hr (by decide) (by decide) dL_type_14
set_option maxHeartbeats 4000000 in
set_option maxRecDepth 100000 in
theorem c_L_read (l : Launch) (G : q_G) (x : q_A) (σ : q_S) {e : Nat} {v : Int32} {τ : q_S} (h : f_X9_read σ = some (e, v, τ)) (he : e = 0 ∨ e = 2 ∨ e = 3) (hfl : l.stackTraces = false) : q_MetW l yL_read cL_read 3 [(0, 8, 11, 13), (0, 8, 14, 15)] 9 G [.ref (G.2.1 + 0), .ref (G.2.1 + 303)] σ x (q_cd [2, 3] e) τ (if e = 0 then (v.toInt64, x.2) else x) := by
  rcases he with rfl | rfl | rfl
  · rw [show q_cd [2, 3] 0 = 0 by decide, if_pos rfl]
    refine q_ofWH (by decide) (Nat.le_of_ble_eq_true rfl) (fun X hl0 hx hr hE hN hR6 => ?_)
    subst hl0
    have hx : q_Cx X G RL cL_read 3 9 := hx
    show q_Wq X G x 3 (q_MQW X G 0 τ (v.toInt64, x.2)) 0 0 0 [(0, .ref (G.2.1 + 0)), (1, .ref (G.2.1 + 303))] [] σ
    refine q_aload_n hx dL_read_0 1 rfl ?_
    refine q_iconst (v := 0) hx dL_read_1 (by decide) ?_
    refine q_aload_n hx dL_read_2 0 rfl ?_
    refine q_callX (e := 0) (v := v) (τ := τ) (As := []) (rest := [.int 0, .ref (G.2.1 + 303)]) (hs := q_hs_read) hx hR6 (show q_Ex X (q_hs_read.map (·.1)) from hE) hN (c_X9_read (q_Xl X) G x σ  h hfl) q_lm_95 q_mn_X9_read q_mi_X9_read q_se_X9_read (by decide) rfl (Nat.le_of_ble_eq_true rfl) dL_read_3 rfl rfl q_hn_read q_cst (fun h => absurd h (by decide)) (fun _ => ?_)
    refine q_i2l hx dL_read_6 ?_
    refine q_last hx dL_read_7 ?_
    refine q_goto hx 17 dL_read_8 (by decide) ?_
    refine q_iconst (v := 0) hx dL_read_17 (by decide) ?_
    exact q_wret hx hr (by decide) (by decide) dL_read_18
  · rw [show q_cd [2, 3] 2 = 1 by decide, if_neg (by decide)]
    refine q_ofWH (by decide) (Nat.le_of_ble_eq_true rfl) (fun X hl0 hx hr hE hN hR6 => ?_)
    subst hl0
    have hx : q_Cx X G RL cL_read 3 9 := hx
    show q_Wq X G x 3 (q_MQW X G 1 τ x) 0 0 0 [(0, .ref (G.2.1 + 0)), (1, .ref (G.2.1 + 303))] [] σ
    refine q_aload_n hx dL_read_0 1 rfl ?_
    refine q_iconst (v := 0) hx dL_read_1 (by decide) ?_
    refine q_aload_n hx dL_read_2 0 rfl ?_
    refine q_callX (e := 2) (v := v) (τ := τ) (As := []) (rest := [.int 0, .ref (G.2.1 + 303)]) (hs := q_hs_read) hx hR6 (show q_Ex X (q_hs_read.map (·.1)) from hE) hN (c_X9_read (q_Xl X) G x σ  h hfl) q_lm_95 q_mn_X9_read q_mi_X9_read q_se_X9_read (by decide) rfl (Nat.le_of_ble_eq_true rfl) dL_read_3 rfl rfl q_hn_read q_cst (fun _ => ⟨[], ((0, 8, 11, 13), "java/lang/IllegalArgumentException"), [((0, 8, 14, 15), "java/lang/UnsupportedOperationException")], rfl, by decide, by decide, rfl, fun q9 => ?_⟩) (fun h => absurd h (by decide))
    refine q_astore_n hx [(2, .ref q9), (0, .ref (G.2.1 + 0)), (1, .ref (G.2.1 + 303))] dL_read_11 (by decide) rfl ?_
    refine q_iconst (v := 1) hx dL_read_12 (by decide) ?_
    exact q_wret hx hr (by decide) (by decide) dL_read_13
  · rw [show q_cd [2, 3] 3 = 2 by decide, if_neg (by decide)]
    refine q_ofWH (by decide) (Nat.le_of_ble_eq_true rfl) (fun X hl0 hx hr hE hN hR6 => ?_)
    subst hl0
    have hx : q_Cx X G RL cL_read 3 9 := hx
    show q_Wq X G x 3 (q_MQW X G 2 τ x) 0 0 0 [(0, .ref (G.2.1 + 0)), (1, .ref (G.2.1 + 303))] [] σ
    refine q_aload_n hx dL_read_0 1 rfl ?_
    refine q_iconst (v := 0) hx dL_read_1 (by decide) ?_
    refine q_aload_n hx dL_read_2 0 rfl ?_
    refine q_callX (e := 3) (v := v) (τ := τ) (As := []) (rest := [.int 0, .ref (G.2.1 + 303)]) (hs := q_hs_read) hx hR6 (show q_Ex X (q_hs_read.map (·.1)) from hE) hN (c_X9_read (q_Xl X) G x σ  h hfl) q_lm_95 q_mn_X9_read q_mi_X9_read q_se_X9_read (by decide) rfl (Nat.le_of_ble_eq_true rfl) dL_read_3 rfl rfl q_hn_read q_cst (fun _ => ⟨[((0, 8, 11, 13), "java/lang/IllegalArgumentException")], ((0, 8, 14, 15), "java/lang/UnsupportedOperationException"), [], rfl, by decide, by decide, rfl, fun q9 => ?_⟩) (fun h => absurd h (by decide))
    refine q_astore_n hx [(2, .ref q9), (0, .ref (G.2.1 + 0)), (1, .ref (G.2.1 + 303))] dL_read_14 (by decide) rfl ?_
    refine q_iconst (v := 2) hx dL_read_15 (by decide) ?_
    exact q_wret hx hr (by decide) (by decide) dL_read_16
set_option maxHeartbeats 4000000 in
set_option maxRecDepth 100000 in
theorem c_L_errorPosition (l : Launch) (G : q_G) (x : q_A) (σ : q_S) {e : Nat} {v : Int32} (h : f_X9_errorPosition σ = (e, v)) (he : e = 0 ∨ e = 4) (hfl : l.stackTraces = false) : q_MetW l yL_errorPosition cL_errorPosition 3 [(0, 8, 11, 77)] 8 G [.ref (G.2.1 + 0), .ref (G.2.1 + 303)] σ x (q_cd [4] e) σ (if e = 0 then (v.toInt64, x.2) else x) := by
  rcases he with rfl | rfl
  · rw [show q_cd [4] 0 = 0 by decide, if_pos rfl]
    refine q_ofWH (by decide) (Nat.le_of_ble_eq_true rfl) (fun X hl0 hx hr hE hN hR6 => ?_)
    subst hl0
    have hx : q_Cx X G RL cL_errorPosition 3 8 := hx
    show q_Wq X G x 3 (q_MQW X G 0 σ (v.toInt64, x.2)) 0 0 0 [(0, .ref (G.2.1 + 0)), (1, .ref (G.2.1 + 303))] [] σ
    refine q_aload_n hx dL_errorPosition_0 1 rfl ?_
    refine q_iconst (v := 0) hx dL_errorPosition_1 (by decide) ?_
    refine q_aload_n hx dL_errorPosition_2 0 rfl ?_
    refine q_callX (e := 0) (v := v) (τ := σ) (As := []) (rest := [.int 0, .ref (G.2.1 + 303)]) (hs := q_hs_errorPosition) hx hR6 (show q_Ex X (q_hs_errorPosition.map (·.1)) from hE) hN (ca_X9_errorPosition (q_Xl X) G x σ  h hfl) q_lm_98 q_mn_X9_errorPosition q_mi_X9_errorPosition q_se_X9_errorPosition (by decide) rfl (Nat.le_of_ble_eq_true rfl) dL_errorPosition_3 rfl rfl q_hn_errorPosition q_cst (fun h => absurd h (by decide)) (fun _ => ?_)
    refine q_i2l hx dL_errorPosition_6 ?_
    refine q_last hx dL_errorPosition_7 ?_
    refine q_goto hx 14 dL_errorPosition_8 (by decide) ?_
    refine q_iconst (v := 0) hx dL_errorPosition_14 (by decide) ?_
    exact q_wret hx hr (by decide) (by decide) dL_errorPosition_15
  · rw [show q_cd [4] 4 = 1 by decide, if_neg (by decide)]
    refine q_ofWH (by decide) (Nat.le_of_ble_eq_true rfl) (fun X hl0 hx hr hE hN hR6 => ?_)
    subst hl0
    have hx : q_Cx X G RL cL_errorPosition 3 8 := hx
    show q_Wq X G x 3 (q_MQW X G 1 σ x) 0 0 0 [(0, .ref (G.2.1 + 0)), (1, .ref (G.2.1 + 303))] [] σ
    refine q_aload_n hx dL_errorPosition_0 1 rfl ?_
    refine q_iconst (v := 0) hx dL_errorPosition_1 (by decide) ?_
    refine q_aload_n hx dL_errorPosition_2 0 rfl ?_
    refine q_callX (e := 4) (v := v) (τ := σ) (As := []) (rest := [.int 0, .ref (G.2.1 + 303)]) (hs := q_hs_errorPosition) hx hR6 (show q_Ex X (q_hs_errorPosition.map (·.1)) from hE) hN (ca_X9_errorPosition (q_Xl X) G x σ  h hfl) q_lm_98 q_mn_X9_errorPosition q_mi_X9_errorPosition q_se_X9_errorPosition (by decide) rfl (Nat.le_of_ble_eq_true rfl) dL_errorPosition_3 rfl rfl q_hn_errorPosition q_cst (fun _ => ⟨[], ((0, 8, 11, 77), "java/util/NoSuchElementException"), [], rfl, by decide, by decide, rfl, fun q9 => ?_⟩) (fun h => absurd h (by decide))
    refine q_astore_n hx [(2, .ref q9), (0, .ref (G.2.1 + 0)), (1, .ref (G.2.1 + 303))] dL_errorPosition_11 (by decide) rfl ?_
    refine q_iconst (v := 1) hx dL_errorPosition_12 (by decide) ?_
    exact q_wret hx hr (by decide) (by decide) dL_errorPosition_13
set_option maxHeartbeats 4000000 in
set_option maxRecDepth 100000 in
theorem c_L_refusal (l : Launch) (G : q_G) (x : q_A) (σ : q_S) (p0 : Int32) (p1 : Int32) {e : Nat} {v : Int32} (h : f_X9_refusal σ p0 p1 = (e, v)) (he : e = 0 ∨ e = 4) (hfl : l.stackTraces = false) : q_MetW l yL_refusal cL_refusal 5 [(0, 10, 13, 77)] 8 G [.ref (G.2.1 + 0), .int p0, .int p1, .ref (G.2.1 + 303)] σ x (q_cd [4] e) σ (if e = 0 then (v.toInt64, x.2) else x) := by
  rcases he with rfl | rfl
  · rw [show q_cd [4] 0 = 0 by decide, if_pos rfl]
    refine q_ofWH (by decide) (Nat.le_of_ble_eq_true rfl) (fun X hl0 hx hr hE hN hR6 => ?_)
    subst hl0
    have hx : q_Cx X G RL cL_refusal 5 8 := hx
    show q_Wq X G x 5 (q_MQW X G 0 σ (v.toInt64, x.2)) 0 0 0 [(0, .ref (G.2.1 + 0)), (1, .int p0), (2, .int p1), (3, .ref (G.2.1 + 303))] [] σ
    refine q_aload_n hx dL_refusal_0 3 rfl ?_
    refine q_iconst (v := 0) hx dL_refusal_1 (by decide) ?_
    refine q_aload_n hx dL_refusal_2 0 rfl ?_
    refine q_iload_n hx dL_refusal_3 1 rfl ?_
    refine q_iload_n hx dL_refusal_4 2 rfl ?_
    refine q_callX (e := 0) (v := v) (τ := σ) (As := [.int p0, .int p1]) (rest := [.int 0, .ref (G.2.1 + 303)]) (hs := q_hs_refusal) hx hR6 (show q_Ex X (q_hs_refusal.map (·.1)) from hE) hN (ca_X9_refusal (q_Xl X) G x σ p0 p1 h hfl) q_lm_101 q_mn_X9_refusal q_mi_X9_refusal q_se_X9_refusal (by decide) rfl (Nat.le_of_ble_eq_true rfl) dL_refusal_5 rfl rfl q_hn_refusal q_cst (fun h => absurd h (by decide)) (fun _ => ?_)
    refine q_i2l hx dL_refusal_8 ?_
    refine q_last hx dL_refusal_9 ?_
    refine q_goto hx 17 dL_refusal_10 (by decide) ?_
    refine q_iconst (v := 0) hx dL_refusal_17 (by decide) ?_
    exact q_wret hx hr (by decide) (by decide) dL_refusal_18
  · rw [show q_cd [4] 4 = 1 by decide, if_neg (by decide)]
    refine q_ofWH (by decide) (Nat.le_of_ble_eq_true rfl) (fun X hl0 hx hr hE hN hR6 => ?_)
    subst hl0
    have hx : q_Cx X G RL cL_refusal 5 8 := hx
    show q_Wq X G x 5 (q_MQW X G 1 σ x) 0 0 0 [(0, .ref (G.2.1 + 0)), (1, .int p0), (2, .int p1), (3, .ref (G.2.1 + 303))] [] σ
    refine q_aload_n hx dL_refusal_0 3 rfl ?_
    refine q_iconst (v := 0) hx dL_refusal_1 (by decide) ?_
    refine q_aload_n hx dL_refusal_2 0 rfl ?_
    refine q_iload_n hx dL_refusal_3 1 rfl ?_
    refine q_iload_n hx dL_refusal_4 2 rfl ?_
    refine q_callX (e := 4) (v := v) (τ := σ) (As := [.int p0, .int p1]) (rest := [.int 0, .ref (G.2.1 + 303)]) (hs := q_hs_refusal) hx hR6 (show q_Ex X (q_hs_refusal.map (·.1)) from hE) hN (ca_X9_refusal (q_Xl X) G x σ p0 p1 h hfl) q_lm_101 q_mn_X9_refusal q_mi_X9_refusal q_se_X9_refusal (by decide) rfl (Nat.le_of_ble_eq_true rfl) dL_refusal_5 rfl rfl q_hn_refusal q_cst (fun _ => ⟨[], ((0, 10, 13, 77), "java/util/NoSuchElementException"), [], rfl, by decide, by decide, rfl, fun q9 => ?_⟩) (fun h => absurd h (by decide))
    refine q_astore hx [(4, .ref q9), (0, .ref (G.2.1 + 0)), (1, .int p0), (2, .int p1), (3, .ref (G.2.1 + 303))] dL_refusal_13 (by decide) rfl ?_
    refine q_iconst (v := 1) hx dL_refusal_15 (by decide) ?_
    exact q_wret hx hr (by decide) (by decide) dL_refusal_16
set_option maxHeartbeats 4000000 in
set_option maxRecDepth 100000 in
theorem c_L_show (l : Launch) (G : q_G) (x : q_A) (σ : q_S) (p0 : Int32) {e : Nat} {v : Int32} {τ : q_S} (h : f_X9_show σ p0 = some (e, v, τ)) (he : e = 0 ∨ e = 1) (hfl : l.stackTraces = false) : q_MetW l yL_show cL_show 4 [(0, 9, 12, 21)] 8 G [.ref (G.2.1 + 0), .int p0, .ref (G.2.1 + 303)] σ x (q_cd [1] e) τ (if e = 0 then (v.toInt64, x.2) else x) := by
  rcases he with rfl | rfl
  · rw [show q_cd [1] 0 = 0 by decide, if_pos rfl]
    refine q_ofWH (by decide) (Nat.le_of_ble_eq_true rfl) (fun X hl0 hx hr hE hN hR6 => ?_)
    subst hl0
    have hx : q_Cx X G RL cL_show 4 8 := hx
    show q_Wq X G x 4 (q_MQW X G 0 τ (v.toInt64, x.2)) 0 0 0 [(0, .ref (G.2.1 + 0)), (1, .int p0), (2, .ref (G.2.1 + 303))] [] σ
    refine q_aload_n hx dL_show_0 2 rfl ?_
    refine q_iconst (v := 0) hx dL_show_1 (by decide) ?_
    refine q_aload_n hx dL_show_2 0 rfl ?_
    refine q_iload_n hx dL_show_3 1 rfl ?_
    refine q_callX (e := 0) (v := v) (τ := τ) (As := [.int p0]) (rest := [.int 0, .ref (G.2.1 + 303)]) (hs := q_hs_show) hx hR6 (show q_Ex X (q_hs_show.map (·.1)) from hE) hN (c_X9_show (q_Xl X) G x σ p0 h hfl) q_lm_105 q_mn_X9_show q_mi_X9_show q_se_X9_show (by decide) rfl (Nat.le_of_ble_eq_true rfl) dL_show_4 rfl rfl q_hn_show q_cst (fun h => absurd h (by decide)) (fun _ => ?_)
    refine q_i2l hx dL_show_7 ?_
    refine q_last hx dL_show_8 ?_
    refine q_goto hx 15 dL_show_9 (by decide) ?_
    refine q_iconst (v := 0) hx dL_show_15 (by decide) ?_
    exact q_wret hx hr (by decide) (by decide) dL_show_16
  · rw [show q_cd [1] 1 = 1 by decide, if_neg (by decide)]
    refine q_ofWH (by decide) (Nat.le_of_ble_eq_true rfl) (fun X hl0 hx hr hE hN hR6 => ?_)
    subst hl0
    have hx : q_Cx X G RL cL_show 4 8 := hx
    show q_Wq X G x 4 (q_MQW X G 1 τ x) 0 0 0 [(0, .ref (G.2.1 + 0)), (1, .int p0), (2, .ref (G.2.1 + 303))] [] σ
    refine q_aload_n hx dL_show_0 2 rfl ?_
    refine q_iconst (v := 0) hx dL_show_1 (by decide) ?_
    refine q_aload_n hx dL_show_2 0 rfl ?_
    refine q_iload_n hx dL_show_3 1 rfl ?_
    refine q_callX (e := 1) (v := v) (τ := τ) (As := [.int p0]) (rest := [.int 0, .ref (G.2.1 + 303)]) (hs := q_hs_show) hx hR6 (show q_Ex X (q_hs_show.map (·.1)) from hE) hN (c_X9_show (q_Xl X) G x σ p0 h hfl) q_lm_105 q_mn_X9_show q_mi_X9_show q_se_X9_show (by decide) rfl (Nat.le_of_ble_eq_true rfl) dL_show_4 rfl rfl q_hn_show q_cst (fun _ => ⟨[], ((0, 9, 12, 21), "java/lang/IndexOutOfBoundsException"), [], rfl, by decide, by decide, rfl, fun q9 => ?_⟩) (fun h => absurd h (by decide))
    refine q_astore_n hx [(3, .ref q9), (0, .ref (G.2.1 + 0)), (1, .int p0), (2, .ref (G.2.1 + 303))] dL_show_12 (by decide) rfl ?_
    refine q_iconst (v := 1) hx dL_show_13 (by decide) ?_
    exact q_wret hx hr (by decide) (by decide) dL_show_14
set_option maxHeartbeats 4000000 in
set_option maxRecDepth 100000 in
theorem c_L_tell (l : Launch) (G : q_G) (x : q_A) (σ : q_S) (p0 : Int32) {e : Nat} {v : Int32} {τ : q_S} (h : f_X9_tell σ p0 = some (e, v, τ)) (he : e = 0 ∨ e = 1) (hfl : l.stackTraces = false) : q_MetW l yL_tell cL_tell 4 [(0, 9, 12, 21)] 8 G [.ref (G.2.1 + 0), .int p0, .ref (G.2.1 + 303)] σ x (q_cd [1] e) τ (if e = 0 then (v.toInt64, x.2) else x) := by
  rcases he with rfl | rfl
  · rw [show q_cd [1] 0 = 0 by decide, if_pos rfl]
    refine q_ofWH (by decide) (Nat.le_of_ble_eq_true rfl) (fun X hl0 hx hr hE hN hR6 => ?_)
    subst hl0
    have hx : q_Cx X G RL cL_tell 4 8 := hx
    show q_Wq X G x 4 (q_MQW X G 0 τ (v.toInt64, x.2)) 0 0 0 [(0, .ref (G.2.1 + 0)), (1, .int p0), (2, .ref (G.2.1 + 303))] [] σ
    refine q_aload_n hx dL_tell_0 2 rfl ?_
    refine q_iconst (v := 0) hx dL_tell_1 (by decide) ?_
    refine q_aload_n hx dL_tell_2 0 rfl ?_
    refine q_iload_n hx dL_tell_3 1 rfl ?_
    refine q_callX (e := 0) (v := v) (τ := τ) (As := [.int p0]) (rest := [.int 0, .ref (G.2.1 + 303)]) (hs := q_hs_tell) hx hR6 (show q_Ex X (q_hs_tell.map (·.1)) from hE) hN (c_X9_tell (q_Xl X) G x σ p0 h hfl) q_lm_108 q_mn_X9_tell q_mi_X9_tell q_se_X9_tell (by decide) rfl (Nat.le_of_ble_eq_true rfl) dL_tell_4 rfl rfl q_hn_tell q_cst (fun h => absurd h (by decide)) (fun _ => ?_)
    refine q_i2l hx dL_tell_7 ?_
    refine q_last hx dL_tell_8 ?_
    refine q_goto hx 15 dL_tell_9 (by decide) ?_
    refine q_iconst (v := 0) hx dL_tell_15 (by decide) ?_
    exact q_wret hx hr (by decide) (by decide) dL_tell_16
  · rw [show q_cd [1] 1 = 1 by decide, if_neg (by decide)]
    refine q_ofWH (by decide) (Nat.le_of_ble_eq_true rfl) (fun X hl0 hx hr hE hN hR6 => ?_)
    subst hl0
    have hx : q_Cx X G RL cL_tell 4 8 := hx
    show q_Wq X G x 4 (q_MQW X G 1 τ x) 0 0 0 [(0, .ref (G.2.1 + 0)), (1, .int p0), (2, .ref (G.2.1 + 303))] [] σ
    refine q_aload_n hx dL_tell_0 2 rfl ?_
    refine q_iconst (v := 0) hx dL_tell_1 (by decide) ?_
    refine q_aload_n hx dL_tell_2 0 rfl ?_
    refine q_iload_n hx dL_tell_3 1 rfl ?_
    refine q_callX (e := 1) (v := v) (τ := τ) (As := [.int p0]) (rest := [.int 0, .ref (G.2.1 + 303)]) (hs := q_hs_tell) hx hR6 (show q_Ex X (q_hs_tell.map (·.1)) from hE) hN (c_X9_tell (q_Xl X) G x σ p0 h hfl) q_lm_108 q_mn_X9_tell q_mi_X9_tell q_se_X9_tell (by decide) rfl (Nat.le_of_ble_eq_true rfl) dL_tell_4 rfl rfl q_hn_tell q_cst (fun _ => ⟨[], ((0, 9, 12, 21), "java/lang/IndexOutOfBoundsException"), [], rfl, by decide, by decide, rfl, fun q9 => ?_⟩) (fun h => absurd h (by decide))
    refine q_astore_n hx [(3, .ref q9), (0, .ref (G.2.1 + 0)), (1, .int p0), (2, .ref (G.2.1 + 303))] dL_tell_12 (by decide) rfl ?_
    refine q_iconst (v := 1) hx dL_tell_13 (by decide) ?_
    exact q_wret hx hr (by decide) (by decide) dL_tell_14
set_option maxHeartbeats 4000000 in
set_option maxRecDepth 100000 in
theorem c_L_written (l : Launch) (G : q_G) (x : q_A) (σ : q_S) (p0 : Int32) {e : Nat} {v : Int32} (h : f_X9_written σ p0 = some (e, v)) (he : e = 0 ∨ e = 4) (hfl : l.stackTraces = false) : q_MetW l yL_written cL_written 4 [(0, 9, 12, 77)] 8 G [.ref (G.2.1 + 0), .int p0, .ref (G.2.1 + 303)] σ x (q_cd [4] e) σ (if e = 0 then (v.toInt64, x.2) else x) := by
  rcases he with rfl | rfl
  · rw [show q_cd [4] 0 = 0 by decide, if_pos rfl]
    refine q_ofWH (by decide) (Nat.le_of_ble_eq_true rfl) (fun X hl0 hx hr hE hN hR6 => ?_)
    subst hl0
    have hx : q_Cx X G RL cL_written 4 8 := hx
    show q_Wq X G x 4 (q_MQW X G 0 σ (v.toInt64, x.2)) 0 0 0 [(0, .ref (G.2.1 + 0)), (1, .int p0), (2, .ref (G.2.1 + 303))] [] σ
    refine q_aload_n hx dL_written_0 2 rfl ?_
    refine q_iconst (v := 0) hx dL_written_1 (by decide) ?_
    refine q_aload_n hx dL_written_2 0 rfl ?_
    refine q_iload_n hx dL_written_3 1 rfl ?_
    refine q_callX (e := 0) (v := v) (τ := σ) (As := [.int p0]) (rest := [.int 0, .ref (G.2.1 + 303)]) (hs := q_hs_written) hx hR6 (show q_Ex X (q_hs_written.map (·.1)) from hE) hN (c_X9_written (q_Xl X) G x σ p0 h hfl) q_lm_111 q_mn_X9_written q_mi_X9_written q_se_X9_written (by decide) rfl (Nat.le_of_ble_eq_true rfl) dL_written_4 rfl rfl q_hn_written q_cst (fun h => absurd h (by decide)) (fun _ => ?_)
    refine q_i2l hx dL_written_7 ?_
    refine q_last hx dL_written_8 ?_
    refine q_goto hx 15 dL_written_9 (by decide) ?_
    refine q_iconst (v := 0) hx dL_written_15 (by decide) ?_
    exact q_wret hx hr (by decide) (by decide) dL_written_16
  · rw [show q_cd [4] 4 = 1 by decide, if_neg (by decide)]
    refine q_ofWH (by decide) (Nat.le_of_ble_eq_true rfl) (fun X hl0 hx hr hE hN hR6 => ?_)
    subst hl0
    have hx : q_Cx X G RL cL_written 4 8 := hx
    show q_Wq X G x 4 (q_MQW X G 1 σ x) 0 0 0 [(0, .ref (G.2.1 + 0)), (1, .int p0), (2, .ref (G.2.1 + 303))] [] σ
    refine q_aload_n hx dL_written_0 2 rfl ?_
    refine q_iconst (v := 0) hx dL_written_1 (by decide) ?_
    refine q_aload_n hx dL_written_2 0 rfl ?_
    refine q_iload_n hx dL_written_3 1 rfl ?_
    refine q_callX (e := 4) (v := v) (τ := σ) (As := [.int p0]) (rest := [.int 0, .ref (G.2.1 + 303)]) (hs := q_hs_written) hx hR6 (show q_Ex X (q_hs_written.map (·.1)) from hE) hN (c_X9_written (q_Xl X) G x σ p0 h hfl) q_lm_111 q_mn_X9_written q_mi_X9_written q_se_X9_written (by decide) rfl (Nat.le_of_ble_eq_true rfl) dL_written_4 rfl rfl q_hn_written q_cst (fun _ => ⟨[], ((0, 9, 12, 77), "java/util/NoSuchElementException"), [], rfl, by decide, by decide, rfl, fun q9 => ?_⟩) (fun h => absurd h (by decide))
    refine q_astore_n hx [(3, .ref q9), (0, .ref (G.2.1 + 0)), (1, .int p0), (2, .ref (G.2.1 + 303))] dL_written_12 (by decide) rfl ?_
    refine q_iconst (v := 1) hx dL_written_13 (by decide) ?_
    exact q_wret hx hr (by decide) (by decide) dL_written_14
set_option maxHeartbeats 4000000 in
set_option maxRecDepth 100000 in
theorem c_L_account (l : Launch) (G : q_G) (x : q_A) (σ : q_S) (p0 : Int32) {e : Nat} {v : Int32} {τ : q_S} (h : f_X9_account σ p0 = some (e, v, τ)) (he : e = 0 ∨ e = 2) (hfl : l.stackTraces = false) : q_MetW l yL_account cL_account 4 [(0, 9, 12, 13)] 8 G [.ref (G.2.1 + 0), .int p0, .ref (G.2.1 + 303)] σ x (q_cd [2] e) τ (if e = 0 then (v.toInt64, x.2) else x) := by
  rcases he with rfl | rfl
  · rw [show q_cd [2] 0 = 0 by decide, if_pos rfl]
    refine q_ofWH (by decide) (Nat.le_of_ble_eq_true rfl) (fun X hl0 hx hr hE hN hR6 => ?_)
    subst hl0
    have hx : q_Cx X G RL cL_account 4 8 := hx
    show q_Wq X G x 4 (q_MQW X G 0 τ (v.toInt64, x.2)) 0 0 0 [(0, .ref (G.2.1 + 0)), (1, .int p0), (2, .ref (G.2.1 + 303))] [] σ
    refine q_aload_n hx dL_account_0 2 rfl ?_
    refine q_iconst (v := 0) hx dL_account_1 (by decide) ?_
    refine q_aload_n hx dL_account_2 0 rfl ?_
    refine q_iload_n hx dL_account_3 1 rfl ?_
    refine q_callX (e := 0) (v := v) (τ := τ) (As := [.int p0]) (rest := [.int 0, .ref (G.2.1 + 303)]) (hs := q_hs_account) hx hR6 (show q_Ex X (q_hs_account.map (·.1)) from hE) hN (c_X9_account (q_Xl X) G x σ p0 h hfl) q_lm_115 q_mn_X9_account q_mi_X9_account q_se_X9_account (by decide) rfl (Nat.le_of_ble_eq_true rfl) dL_account_4 rfl rfl q_hn_account q_cst (fun h => absurd h (by decide)) (fun _ => ?_)
    refine q_i2l hx dL_account_7 ?_
    refine q_last hx dL_account_8 ?_
    refine q_goto hx 15 dL_account_9 (by decide) ?_
    refine q_iconst (v := 0) hx dL_account_15 (by decide) ?_
    exact q_wret hx hr (by decide) (by decide) dL_account_16
  · rw [show q_cd [2] 2 = 1 by decide, if_neg (by decide)]
    refine q_ofWH (by decide) (Nat.le_of_ble_eq_true rfl) (fun X hl0 hx hr hE hN hR6 => ?_)
    subst hl0
    have hx : q_Cx X G RL cL_account 4 8 := hx
    show q_Wq X G x 4 (q_MQW X G 1 τ x) 0 0 0 [(0, .ref (G.2.1 + 0)), (1, .int p0), (2, .ref (G.2.1 + 303))] [] σ
    refine q_aload_n hx dL_account_0 2 rfl ?_
    refine q_iconst (v := 0) hx dL_account_1 (by decide) ?_
    refine q_aload_n hx dL_account_2 0 rfl ?_
    refine q_iload_n hx dL_account_3 1 rfl ?_
    refine q_callX (e := 2) (v := v) (τ := τ) (As := [.int p0]) (rest := [.int 0, .ref (G.2.1 + 303)]) (hs := q_hs_account) hx hR6 (show q_Ex X (q_hs_account.map (·.1)) from hE) hN (c_X9_account (q_Xl X) G x σ p0 h hfl) q_lm_115 q_mn_X9_account q_mi_X9_account q_se_X9_account (by decide) rfl (Nat.le_of_ble_eq_true rfl) dL_account_4 rfl rfl q_hn_account q_cst (fun _ => ⟨[], ((0, 9, 12, 13), "java/lang/IllegalArgumentException"), [], rfl, by decide, by decide, rfl, fun q9 => ?_⟩) (fun h => absurd h (by decide))
    refine q_astore_n hx [(3, .ref q9), (0, .ref (G.2.1 + 0)), (1, .int p0), (2, .ref (G.2.1 + 303))] dL_account_12 (by decide) rfl ?_
    refine q_iconst (v := 1) hx dL_account_13 (by decide) ?_
    exact q_wret hx hr (by decide) (by decide) dL_account_14
set_option maxHeartbeats 4000000 in
set_option maxRecDepth 100000 in
theorem c_L_meanDepth (l : Launch) (G : q_G) (x : q_A) (σ : q_S) {e : Nat} {v : UInt64} (h : f_X9_meanDepth σ = some (e, v)) (he : e = 0 ∨ e = 6) (hfl : l.stackTraces = false) : q_MetW l yL_meanDepth cL_meanDepth 3 [(0, 7, 10, 122)] 8 G [.ref (G.2.1 + 0), .ref (G.2.1 + 304)] σ x (q_cd [6] e) σ (if e = 0 then (x.1, v) else x) := by
  rcases he with rfl | rfl
  · rw [show q_cd [6] 0 = 0 by decide, if_pos rfl]
    refine q_ofWH (by decide) (Nat.le_of_ble_eq_true rfl) (fun X hl0 hx hr hE hN hR6 => ?_)
    subst hl0
    have hx : q_Cx X G RL cL_meanDepth 3 8 := hx
    show q_Wq X G x 3 (q_MQW X G 0 σ (x.1, v)) 0 0 0 [(0, .ref (G.2.1 + 0)), (1, .ref (G.2.1 + 304))] [] σ
    refine q_aload_n hx dL_meanDepth_0 1 rfl ?_
    refine q_iconst (v := 0) hx dL_meanDepth_1 (by decide) ?_
    refine q_aload_n hx dL_meanDepth_2 0 rfl ?_
    refine q_callXd (e := 0) (v := v) (τ := σ) (As := []) (rest := [.int 0, .ref (G.2.1 + 304)]) (hs := q_hs_meanDepth) hx hR6 (show q_Ex X (q_hs_meanDepth.map (·.1)) from hE) hN (c_X9_meanDepth (q_Xl X) G x σ  h hfl) q_lm_118 q_mn_X9_meanDepth q_mi_X9_meanDepth q_se_X9_meanDepth (by decide) rfl (Nat.le_of_ble_eq_true rfl) dL_meanDepth_3 rfl rfl q_hn_meanDepth q_cst (fun h => absurd h (by decide)) (fun _ => ?_)
    refine q_dast hx dL_meanDepth_6 ?_
    refine q_goto hx 13 dL_meanDepth_7 (by decide) ?_
    refine q_iconst (v := 0) hx dL_meanDepth_13 (by decide) ?_
    exact q_wret hx hr (by decide) (by decide) dL_meanDepth_14
  · rw [show q_cd [6] 6 = 1 by decide, if_neg (by decide)]
    refine q_ofWH (by decide) (Nat.le_of_ble_eq_true rfl) (fun X hl0 hx hr hE hN hR6 => ?_)
    subst hl0
    have hx : q_Cx X G RL cL_meanDepth 3 8 := hx
    show q_Wq X G x 3 (q_MQW X G 1 σ x) 0 0 0 [(0, .ref (G.2.1 + 0)), (1, .ref (G.2.1 + 304))] [] σ
    refine q_aload_n hx dL_meanDepth_0 1 rfl ?_
    refine q_iconst (v := 0) hx dL_meanDepth_1 (by decide) ?_
    refine q_aload_n hx dL_meanDepth_2 0 rfl ?_
    refine q_callXd (e := 6) (v := v) (τ := σ) (As := []) (rest := [.int 0, .ref (G.2.1 + 304)]) (hs := q_hs_meanDepth) hx hR6 (show q_Ex X (q_hs_meanDepth.map (·.1)) from hE) hN (c_X9_meanDepth (q_Xl X) G x σ  h hfl) q_lm_118 q_mn_X9_meanDepth q_mi_X9_meanDepth q_se_X9_meanDepth (by decide) rfl (Nat.le_of_ble_eq_true rfl) dL_meanDepth_3 rfl rfl q_hn_meanDepth q_cst (fun _ => ⟨[], ((0, 7, 10, 122), "java/lang/ArithmeticException"), [], rfl, by decide, by decide, rfl, fun q9 => ?_⟩) (fun h => absurd h (by decide))
    refine q_astore_n hx [(2, .ref q9), (0, .ref (G.2.1 + 0)), (1, .ref (G.2.1 + 304))] dL_meanDepth_10 (by decide) rfl ?_
    refine q_iconst (v := 1) hx dL_meanDepth_11 (by decide) ?_
    exact q_wret hx hr (by decide) (by decide) dL_meanDepth_12
set_option maxHeartbeats 4000000 in
set_option maxRecDepth 100000 in
theorem c_L_undo (l : Launch) (G : q_G) (x : q_A) (σ : q_S) {e : Nat} {v : Int32} {τ : q_S} (h : f_X9_undo σ = some (e, v, τ)) (he : e = 0 ∨ e = 5) (hfl : l.stackTraces = false) : q_MetW l yL_undo cL_undo 3 [(0, 8, 11, 93)] 8 G [.ref (G.2.1 + 0), .ref (G.2.1 + 303)] σ x (q_cd [5] e) τ (if e = 0 then (v.toInt64, x.2) else x) := by
  rcases he with rfl | rfl
  · rw [show q_cd [5] 0 = 0 by decide, if_pos rfl]
    refine q_ofWH (by decide) (Nat.le_of_ble_eq_true rfl) (fun X hl0 hx hr hE hN hR6 => ?_)
    subst hl0
    have hx : q_Cx X G RL cL_undo 3 8 := hx
    show q_Wq X G x 3 (q_MQW X G 0 τ (v.toInt64, x.2)) 0 0 0 [(0, .ref (G.2.1 + 0)), (1, .ref (G.2.1 + 303))] [] σ
    refine q_aload_n hx dL_undo_0 1 rfl ?_
    refine q_iconst (v := 0) hx dL_undo_1 (by decide) ?_
    refine q_aload_n hx dL_undo_2 0 rfl ?_
    refine q_callX (e := 0) (v := v) (τ := τ) (As := []) (rest := [.int 0, .ref (G.2.1 + 303)]) (hs := q_hs_undo) hx hR6 (show q_Ex X (q_hs_undo.map (·.1)) from hE) hN (c_X9_undo (q_Xl X) G x σ  h hfl) q_lm_124 q_mn_X9_undo q_mi_X9_undo q_se_X9_undo (by decide) rfl (Nat.le_of_ble_eq_true rfl) dL_undo_3 rfl rfl q_hn_undo q_cst (fun h => absurd h (by decide)) (fun _ => ?_)
    refine q_i2l hx dL_undo_6 ?_
    refine q_last hx dL_undo_7 ?_
    refine q_goto hx 14 dL_undo_8 (by decide) ?_
    refine q_iconst (v := 0) hx dL_undo_14 (by decide) ?_
    exact q_wret hx hr (by decide) (by decide) dL_undo_15
  · rw [show q_cd [5] 5 = 1 by decide, if_neg (by decide)]
    refine q_ofWH (by decide) (Nat.le_of_ble_eq_true rfl) (fun X hl0 hx hr hE hN hR6 => ?_)
    subst hl0
    have hx : q_Cx X G RL cL_undo 3 8 := hx
    show q_Wq X G x 3 (q_MQW X G 1 τ x) 0 0 0 [(0, .ref (G.2.1 + 0)), (1, .ref (G.2.1 + 303))] [] σ
    refine q_aload_n hx dL_undo_0 1 rfl ?_
    refine q_iconst (v := 0) hx dL_undo_1 (by decide) ?_
    refine q_aload_n hx dL_undo_2 0 rfl ?_
    refine q_callX (e := 5) (v := v) (τ := τ) (As := []) (rest := [.int 0, .ref (G.2.1 + 303)]) (hs := q_hs_undo) hx hR6 (show q_Ex X (q_hs_undo.map (·.1)) from hE) hN (c_X9_undo (q_Xl X) G x σ  h hfl) q_lm_124 q_mn_X9_undo q_mi_X9_undo q_se_X9_undo (by decide) rfl (Nat.le_of_ble_eq_true rfl) dL_undo_3 rfl rfl q_hn_undo q_cst (fun _ => ⟨[], ((0, 8, 11, 93), "java/lang/IllegalStateException"), [], rfl, by decide, by decide, rfl, fun q9 => ?_⟩) (fun h => absurd h (by decide))
    refine q_astore_n hx [(2, .ref q9), (0, .ref (G.2.1 + 0)), (1, .ref (G.2.1 + 303))] dL_undo_11 (by decide) rfl ?_
    refine q_iconst (v := 1) hx dL_undo_12 (by decide) ?_
    exact q_wret hx hr (by decide) (by decide) dL_undo_13
set_option maxHeartbeats 4000000 in
set_option maxRecDepth 100000 in
theorem c_L_restore (l : Launch) (G : q_G) (x : q_A) (σ : q_S) {e : Nat} {v : Int32} {τ : q_S} (h : f_X9_restore σ = some (e, v, τ)) (he : e = 0 ∨ e = 5) (hfl : l.stackTraces = false) : q_MetW l yL_restore cL_restore 3 [(0, 8, 11, 93)] 8 G [.ref (G.2.1 + 0), .ref (G.2.1 + 303)] σ x (q_cd [5] e) τ (if e = 0 then (v.toInt64, x.2) else x) := by
  rcases he with rfl | rfl
  · rw [show q_cd [5] 0 = 0 by decide, if_pos rfl]
    refine q_ofWH (by decide) (Nat.le_of_ble_eq_true rfl) (fun X hl0 hx hr hE hN hR6 => ?_)
    subst hl0
    have hx : q_Cx X G RL cL_restore 3 8 := hx
    show q_Wq X G x 3 (q_MQW X G 0 τ (v.toInt64, x.2)) 0 0 0 [(0, .ref (G.2.1 + 0)), (1, .ref (G.2.1 + 303))] [] σ
    refine q_aload_n hx dL_restore_0 1 rfl ?_
    refine q_iconst (v := 0) hx dL_restore_1 (by decide) ?_
    refine q_aload_n hx dL_restore_2 0 rfl ?_
    refine q_callX (e := 0) (v := v) (τ := τ) (As := []) (rest := [.int 0, .ref (G.2.1 + 303)]) (hs := q_hs_restore) hx hR6 (show q_Ex X (q_hs_restore.map (·.1)) from hE) hN (c_X9_restore (q_Xl X) G x σ  h hfl) q_lm_127 q_mn_X9_restore q_mi_X9_restore q_se_X9_restore (by decide) rfl (Nat.le_of_ble_eq_true rfl) dL_restore_3 rfl rfl q_hn_restore q_cst (fun h => absurd h (by decide)) (fun _ => ?_)
    refine q_i2l hx dL_restore_6 ?_
    refine q_last hx dL_restore_7 ?_
    refine q_goto hx 14 dL_restore_8 (by decide) ?_
    refine q_iconst (v := 0) hx dL_restore_14 (by decide) ?_
    exact q_wret hx hr (by decide) (by decide) dL_restore_15
  · rw [show q_cd [5] 5 = 1 by decide, if_neg (by decide)]
    refine q_ofWH (by decide) (Nat.le_of_ble_eq_true rfl) (fun X hl0 hx hr hE hN hR6 => ?_)
    subst hl0
    have hx : q_Cx X G RL cL_restore 3 8 := hx
    show q_Wq X G x 3 (q_MQW X G 1 τ x) 0 0 0 [(0, .ref (G.2.1 + 0)), (1, .ref (G.2.1 + 303))] [] σ
    refine q_aload_n hx dL_restore_0 1 rfl ?_
    refine q_iconst (v := 0) hx dL_restore_1 (by decide) ?_
    refine q_aload_n hx dL_restore_2 0 rfl ?_
    refine q_callX (e := 5) (v := v) (τ := τ) (As := []) (rest := [.int 0, .ref (G.2.1 + 303)]) (hs := q_hs_restore) hx hR6 (show q_Ex X (q_hs_restore.map (·.1)) from hE) hN (c_X9_restore (q_Xl X) G x σ  h hfl) q_lm_127 q_mn_X9_restore q_mi_X9_restore q_se_X9_restore (by decide) rfl (Nat.le_of_ble_eq_true rfl) dL_restore_3 rfl rfl q_hn_restore q_cst (fun _ => ⟨[], ((0, 8, 11, 93), "java/lang/IllegalStateException"), [], rfl, by decide, by decide, rfl, fun q9 => ?_⟩) (fun h => absurd h (by decide))
    refine q_astore_n hx [(2, .ref q9), (0, .ref (G.2.1 + 0)), (1, .ref (G.2.1 + 303))] dL_restore_11 (by decide) rfl ?_
    refine q_iconst (v := 1) hx dL_restore_12 (by decide) ?_
    exact q_wret hx hr (by decide) (by decide) dL_restore_13
