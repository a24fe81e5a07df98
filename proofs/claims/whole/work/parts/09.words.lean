theorem tb_mem {w : Cond} (h : w ∈ lw_tbl) (hg : goodWord w = true) : w ∈ TB := List.mem_filter.mpr ⟨h, hg⟩
theorem tb_1 {w : Cond} {i : Nat} (h : tables_1_1[i]? = some w) (hg : goodWord w = true) : w ∈ TB := tb_mem (List.mem_append_right _ (List.mem_append_left _ (List.mem_of_getElem? h))) hg
theorem tb_2 {w : Cond} {i : Nat} (h : tables_1_2[i]? = some w) (hg : goodWord w = true) : w ∈ TB := tb_mem (List.mem_append_right _ (List.mem_append_right _ (List.mem_append_left _ (List.mem_of_getElem? h)))) hg
theorem tb_3 {w : Cond} {i : Nat} (h : tables_1_3[i]? = some w) (hg : goodWord w = true) : w ∈ TB := tb_mem (List.mem_append_right _ (List.mem_append_right _ (List.mem_append_right _ (List.mem_append_left _ (List.mem_of_getElem? h))))) hg
theorem tb_4 {w : Cond} {i : Nat} (h : tables_1_4[i]? = some w) (hg : goodWord w = true) : w ∈ TB := tb_mem (List.mem_append_right _ (List.mem_append_right _ (List.mem_append_right _ (List.mem_append_right _ (List.mem_append_left _ (List.mem_of_getElem? h)))))) hg
theorem tb_5 {w : Cond} {i : Nat} (h : tables_1_5[i]? = some w) (hg : goodWord w = true) : w ∈ TB := tb_mem (List.mem_append_right _ (List.mem_append_right _ (List.mem_append_right _ (List.mem_append_right _ (List.mem_append_right _ (List.mem_append_left _ (List.mem_of_getElem? h))))))) hg
theorem tb_6 {w : Cond} {i : Nat} (h : tables_1_6[i]? = some w) (hg : goodWord w = true) : w ∈ TB := tb_mem (List.mem_append_right _ (List.mem_append_right _ (List.mem_append_right _ (List.mem_append_right _ (List.mem_append_right _ (List.mem_append_right _ (List.mem_append_left _ (List.mem_of_getElem? h)))))))) hg
theorem tb_7 {w : Cond} {i : Nat} (h : tables_1_7[i]? = some w) (hg : goodWord w = true) : w ∈ TB := tb_mem (List.mem_append_right _ (List.mem_append_right _ (List.mem_append_right _ (List.mem_append_right _ (List.mem_append_right _ (List.mem_append_right _ (List.mem_append_right _ (List.mem_of_getElem? h)))))))) hg
theorem tb_p1 {w : Cond} {i : Nat} (h : (k2_sels lw_privs_1)[i]? = some w) (hg : goodWord w = true) : w ∈ TB := tb_mem (List.mem_append_left _ (by
  show w ∈ k2_sels (lw_privs_1 ++ (lw_privs_2 ++ (lw_privs_3 ++ (lw_privs_4 ++ lw_privs_5))))
  unfold k2_sels at h ⊢
  simp only [List.map_append]
  exact List.mem_append_left _ (List.mem_of_getElem? h))) hg
theorem tb_p2 {w : Cond} {i : Nat} (h : (k2_sels lw_privs_2)[i]? = some w) (hg : goodWord w = true) : w ∈ TB := tb_mem (List.mem_append_left _ (by
  show w ∈ k2_sels (lw_privs_1 ++ (lw_privs_2 ++ (lw_privs_3 ++ (lw_privs_4 ++ lw_privs_5))))
  unfold k2_sels at h ⊢
  simp only [List.map_append]
  exact List.mem_append_right _ (List.mem_append_left _ (List.mem_of_getElem? h)))) hg
theorem tb_p3 {w : Cond} {i : Nat} (h : (k2_sels lw_privs_3)[i]? = some w) (hg : goodWord w = true) : w ∈ TB := tb_mem (List.mem_append_left _ (by
  show w ∈ k2_sels (lw_privs_1 ++ (lw_privs_2 ++ (lw_privs_3 ++ (lw_privs_4 ++ lw_privs_5))))
  unfold k2_sels at h ⊢
  simp only [List.map_append]
  exact List.mem_append_right _ (List.mem_append_right _ (List.mem_append_left _ (List.mem_of_getElem? h))))) hg
theorem tb_p4 {w : Cond} {i : Nat} (h : (k2_sels lw_privs_4)[i]? = some w) (hg : goodWord w = true) : w ∈ TB := tb_mem (List.mem_append_left _ (by
  show w ∈ k2_sels (lw_privs_1 ++ (lw_privs_2 ++ (lw_privs_3 ++ (lw_privs_4 ++ lw_privs_5))))
  unfold k2_sels at h ⊢
  simp only [List.map_append]
  exact List.mem_append_right _ (List.mem_append_right _ (List.mem_append_right _ (List.mem_append_left _ (List.mem_of_getElem? h)))))) hg
theorem tb_p5 {w : Cond} {i : Nat} (h : (k2_sels lw_privs_5)[i]? = some w) (hg : goodWord w = true) : w ∈ TB := tb_mem (List.mem_append_left _ (by
  show w ∈ k2_sels (lw_privs_1 ++ (lw_privs_2 ++ (lw_privs_3 ++ (lw_privs_4 ++ lw_privs_5))))
  unfold k2_sels at h ⊢
  simp only [List.map_append]
  exact List.mem_append_right _ (List.mem_append_right _ (List.mem_append_right _ (List.mem_append_right _ (List.mem_of_getElem? h)))))) hg
theorem wl_L_7 : Cond.classLink RL 7 RX9 ∈ TB := tb_1 (i := 20) (by decide +kernel) rfl
theorem wo_X9 : Cond.instantiable RX9 9 ∈ TB := tb_1 (i := 21) (by decide +kernel) rfl
theorem wn_X9 : Cond.initialized RX9 ∈ TB := tb_1 (i := 1) (by decide +kernel) rfl
theorem wl_L_10 : Cond.classLink RL 10 RX10 ∈ TB := tb_5 (i := 75) (by decide +kernel) rfl
theorem wo_X10 : Cond.instantiable RX10 34 ∈ TB := tb_5 (i := 76) (by decide +kernel) rfl
theorem wn_X10 : Cond.initialized RX10 ∈ TB := tb_1 (i := 10) (by decide +kernel) rfl
theorem wk_L_57 : Cond.constantLong RL 57 4294967295 ∈ TB := tb_7 (i := 63) (by decide +kernel) rfl
theorem wf_X9_10 : Cond.fieldLink RX9 10 "LastInBox" "hall" "LLastInBox$Hall;" ∈ TB := tb_2 (i := 43) (by decide +kernel) rfl
theorem wf_X9_297 : Cond.fieldLink RX9 297 "LastInBox$Hall" "waiting" "I" ∈ TB := tb_1 (i := 103) (by decide +kernel) rfl
theorem wf_X2_16 : Cond.fieldLink RX2 16 "LastInBox$Hall" "heap" "LLastInBox$Heap;" ∈ TB := tb_1 (i := 69) (by decide +kernel) rfl
theorem wf_X2_91 : Cond.fieldLink RX2 91 "LastInBox$Hall" "waiting" "I" ∈ TB := tb_1 (i := 102) (by decide +kernel) rfl
theorem wm_X2_75 : Cond.methodLink RX2 75 Lib.Math.min.name ∈ TB := tb_2 (i := 180) (by decide +kernel) rfl
theorem wst_min : Cond.static Lib.Math.min.name ∈ TB := tb_2 (i := 181) (by decide +kernel) rfl
theorem wn_Math : Cond.initialized "java/lang/Math" ∈ TB := tb_1 (i := 12) (by decide +kernel) rfl
theorem wc_min : Cond.code Lib.Math.min.name Lib.Math.min.code 2 (some .int) ∈ TB := tb_2 (i := 182) (by decide +kernel) rfl
theorem wf_X2_39 : Cond.fieldLink RX2 39 "LastInBox$Hall" "numbers" "[I" ∈ TB := tb_1 (i := 82) (by decide +kernel) rfl
theorem wf_X3_17 : Cond.fieldLink RX3 17 "LastInBox$Heap" "size" "I" ∈ TB := tb_1 (i := 41) (by decide +kernel) rfl
theorem wf_X3_9 : Cond.fieldLink RX3 9 "LastInBox$Heap" "coins" "[I" ∈ TB := tb_1 (i := 40) (by decide +kernel) rfl
theorem wf_X10_7 : Cond.fieldLink RX10 7 "LastInBoxModel" "s" "[I" ∈ TB := tb_5 (i := 81) (by decide +kernel) rfl
theorem wf_X10_19 : Cond.fieldLink RX10 19 "LastInBoxModel" "errors" "[I" ∈ TB := tb_5 (i := 85) (by decide +kernel) rfl
theorem wk_X10_62 : Cond.constant RX10 62 (-1000000000) ∈ TB := tb_5 (i := 196) (by decide +kernel) rfl
theorem wf_X10_162 : Cond.fieldLink RX10 162 "LastInBoxModel" "sum" "I" ∈ TB := tb_5 (i := 95) (by decide +kernel) rfl
theorem wf_X10_153 : Cond.fieldLink RX10 153 "LastInBoxModel" "many" "I" ∈ TB := tb_5 (i := 94) (by decide +kernel) rfl
theorem wf_X10_164 : Cond.fieldLink RX10 164 "LastInBoxModel" "marks" "I" ∈ TB := tb_5 (i := 96) (by decide +kernel) rfl
theorem wf_X10_173 : Cond.fieldLink RX10 173 "LastInBoxModel" "isRight" "Z" ∈ TB := tb_5 (i := 97) (by decide +kernel) rfl
theorem wf_X10_34 : Cond.fieldLink RX10 34 "LastInBoxModel" "looked" "[Z" ∈ TB := tb_5 (i := 98) (by decide +kernel) rfl
theorem wf_X10_31 : Cond.fieldLink RX10 31 "LastInBoxModel" "given" "[I" ∈ TB := tb_5 (i := 93) (by decide +kernel) rfl
theorem wf_X10_25 : Cond.fieldLink RX10 25 "LastInBoxModel" "named" "[I" ∈ TB := tb_5 (i := 91) (by decide +kernel) rfl
theorem wf_X10_28 : Cond.fieldLink RX10 28 "LastInBoxModel" "pile" "[I" ∈ TB := tb_5 (i := 92) (by decide +kernel) rfl
theorem wf_X6_13 : Cond.fieldLink RX6 13 "LastInBox$Sheet" "bits" "I" ∈ TB := tb_2 (i := 34) (by decide +kernel) rfl
theorem wf_X6_17 : Cond.fieldLink RX6 17 "LastInBox$Sheet" "size" "I" ∈ TB := tb_2 (i := 35) (by decide +kernel) rfl
theorem wf_X6_9 : Cond.fieldLink RX6 9 "LastInBox$Sheet" "numbers" "[I" ∈ TB := tb_2 (i := 33) (by decide +kernel) rfl
theorem wf_X9_54 : Cond.fieldLink RX9 54 "LastInBox" "sheets" "[LLastInBox$Sheet;" ∈ TB := tb_2 (i := 49) (by decide +kernel) rfl
theorem wf_X9_58 : Cond.fieldLink RX9 58 "LastInBox" "errors" "[I" ∈ TB := tb_2 (i := 50) (by decide +kernel) rfl
theorem wk_X9_306 : Cond.constant RX9 306 (-1000000000) ∈ TB := tb_2 (i := 82) (by decide +kernel) rfl
theorem wf_X9_140 : Cond.fieldLink RX9 140 "LastInBox$Hall" "bytes" "I" ∈ TB := tb_1 (i := 100) (by decide +kernel) rfl
theorem wf_X2_88 : Cond.fieldLink RX2 88 "LastInBox$Hall" "bytes" "I" ∈ TB := tb_1 (i := 101) (by decide +kernel) rfl
theorem wf_X2_36 : Cond.fieldLink RX2 36 "LastInBox$Hall" "tape" "[I" ∈ TB := tb_1 (i := 81) (by decide +kernel) rfl
theorem wf_X10_50 : Cond.fieldLink RX10 50 "LastInBoxModel" "bits" "[I" ∈ TB := tb_5 (i := 111) (by decide +kernel) rfl
theorem wf_X10_53 : Cond.fieldLink RX10 53 "LastInBoxModel" "sizes" "[I" ∈ TB := tb_5 (i := 112) (by decide +kernel) rfl
theorem wf_X10_56 : Cond.fieldLink RX10 56 "LastInBoxModel" "number" "[I" ∈ TB := tb_5 (i := 113) (by decide +kernel) rfl
theorem wf_X9_16 : Cond.fieldLink RX9 16 "LastInBox" "kept" "LLastInBox$Hall;" ∈ TB := tb_2 (i := 44) (by decide +kernel) rfl
theorem wf_X9_62 : Cond.fieldLink RX9 62 "LastInBox" "images" "I" ∈ TB := tb_2 (i := 51) (by decide +kernel) rfl
theorem wf_X2_7 : Cond.fieldLink RX2 7 "LastInBox$Hall" "worths" "[I" ∈ TB := tb_1 (i := 67) (by decide +kernel) rfl
theorem wm_X2_95 : Cond.methodLink RX2 95 arraycopyName ∈ TB := tb_5 (i := 44) (by decide +kernel) rfl
theorem wnat : Cond.native arraycopyName ∈ TB := tb_3 (i := 118) (by decide +kernel) rfl
theorem wst_cpy : Cond.static arraycopyName ∈ TB := tb_3 (i := 117) (by decide +kernel) rfl
theorem wn_Sys : Cond.initialized "java/lang/System" ∈ TB := tb_1 (i := 18) (by decide +kernel) rfl
theorem wf_X2_20 : Cond.fieldLink RX2 20 "LastInBox$Hall" "marks" "[I" ∈ TB := tb_1 (i := 72) (by decide +kernel) rfl
theorem wf_X2_33 : Cond.fieldLink RX2 33 "LastInBox$Hall" "purses" "[I" ∈ TB := tb_1 (i := 80) (by decide +kernel) rfl
theorem wf_X2_26 : Cond.fieldLink RX2 26 "LastInBox$Hall" "gives" "LLastInBox$Text;" ∈ TB := tb_1 (i := 74) (by decide +kernel) rfl
theorem wf_X2_30 : Cond.fieldLink RX2 30 "LastInBox$Hall" "likes" "LLastInBox$Text;" ∈ TB := tb_1 (i := 77) (by decide +kernel) rfl
theorem wf_X2_42 : Cond.fieldLink RX2 42 "LastInBox$Hall" "price" "I" ∈ TB := tb_1 (i := 83) (by decide +kernel) rfl
theorem wf_X2_48 : Cond.fieldLink RX2 48 "LastInBox$Hall" "kind" "I" ∈ TB := tb_1 (i := 86) (by decide +kernel) rfl
theorem wf_X2_108 : Cond.fieldLink RX2 108 "LastInBox$Hall" "m" "I" ∈ TB := tb_1 (i := 93) (by decide +kernel) rfl
theorem wf_X2_111 : Cond.fieldLink RX2 111 "LastInBox$Hall" "taken" "I" ∈ TB := tb_1 (i := 95) (by decide +kernel) rfl
theorem wf_X2_69 : Cond.fieldLink RX2 69 "LastInBox$Hall" "people" "I" ∈ TB := tb_1 (i := 97) (by decide +kernel) rfl
theorem wf_X2_51 : Cond.fieldLink RX2 51 "LastInBox$Hall" "z" "I" ∈ TB := tb_1 (i := 104) (by decide +kernel) rfl
theorem wf_X7_9 : Cond.fieldLink RX7 9 "LastInBox$Text" "codes" "[I" ∈ TB := tb_1 (i := 57) (by decide +kernel) rfl
theorem wm_X7_22 : Cond.methodLink RX7 22 arraycopyName ∈ TB := tb_3 (i := 116) (by decide +kernel) rfl
theorem wf_X7_18 : Cond.fieldLink RX7 18 "LastInBox$Text" "size" "I" ∈ TB := tb_1 (i := 59) (by decide +kernel) rfl
theorem wm_X3_29 : Cond.methodLink RX3 29 arraycopyName ∈ TB := tb_4 (i := 4) (by decide +kernel) rfl
theorem wf_X9_77 : Cond.fieldLink RX9 77 "LastInBox$Hall" "worths" "[I" ∈ TB := tb_1 (i := 68) (by decide +kernel) rfl
theorem wf_X9_47 : Cond.fieldLink RX9 47 "LastInBox" "voices" "LLastInBox$Voices;" ∈ TB := tb_2 (i := 48) (by decide +kernel) rfl
theorem wf_X8_13 : Cond.fieldLink RX8 13 "LastInBox$Voices" "size" "I" ∈ TB := tb_2 (i := 11) (by decide +kernel) rfl
theorem wf_X8_7 : Cond.fieldLink RX8 7 "LastInBox$Voices" "trace" "[I" ∈ TB := tb_2 (i := 10) (by decide +kernel) rfl
theorem wf_X9_88 : Cond.fieldLink RX9 88 "LastInBox$Hall" "m" "I" ∈ TB := tb_1 (i := 90) (by decide +kernel) rfl
theorem wf_X9_85 : Cond.fieldLink RX9 85 "LastInBox$Hall" "kind" "I" ∈ TB := tb_1 (i := 88) (by decide +kernel) rfl
theorem wf_X9_200 : Cond.fieldLink RX9 200 "LastInBox$Hall" "z" "I" ∈ TB := tb_1 (i := 105) (by decide +kernel) rfl
theorem wf_X9_80 : Cond.fieldLink RX9 80 "LastInBox$Hall" "price" "I" ∈ TB := tb_1 (i := 84) (by decide +kernel) rfl
theorem wf_X9_303 : Cond.fieldLink RX9 303 "LastInBox$Hall" "taken" "I" ∈ TB := tb_1 (i := 96) (by decide +kernel) rfl
theorem wf_X9_120 : Cond.fieldLink RX9 120 "LastInBox$Hall" "people" "I" ∈ TB := tb_1 (i := 98) (by decide +kernel) rfl
theorem wf_X9_98 : Cond.fieldLink RX9 98 "LastInBox$Hall" "heap" "LLastInBox$Heap;" ∈ TB := tb_1 (i := 71) (by decide +kernel) rfl
theorem wf_X9_24 : Cond.fieldLink RX9 24 "LastInBox" "given" "LLastInBox$Change;" ∈ TB := tb_2 (i := 45) (by decide +kernel) rfl
theorem wf_X0_32 : Cond.fieldLink RX0 32 "LastInBox$Change" "left" "I" ∈ TB := tb_1 (i := 151) (by decide +kernel) rfl
theorem wf_X0_22 : Cond.fieldLink RX0 22 "LastInBox$Change" "size" "I" ∈ TB := tb_1 (i := 148) (by decide +kernel) rfl
theorem wf_X0_26 : Cond.fieldLink RX0 26 "LastInBox$Change" "sum" "I" ∈ TB := tb_1 (i := 149) (by decide +kernel) rfl
theorem wf_X0_29 : Cond.fieldLink RX0 29 "LastInBox$Change" "marks" "I" ∈ TB := tb_1 (i := 150) (by decide +kernel) rfl
theorem wf_X0_18 : Cond.fieldLink RX0 18 "LastInBox$Change" "hall" "LLastInBox$Hall;" ∈ TB := tb_1 (i := 145) (by decide +kernel) rfl
theorem wf_X0_41 : Cond.fieldLink RX0 41 "LastInBox$Hall" "price" "I" ∈ TB := tb_1 (i := 85) (by decide +kernel) rfl
theorem wf_X0_9 : Cond.fieldLink RX0 9 "LastInBox$Change" "coins" "[I" ∈ TB := tb_1 (i := 146) (by decide +kernel) rfl
theorem wf_X3_13 : Cond.fieldLink RX3 13 "LastInBox$Heap" "firstGap" "I" ∈ TB := tb_1 (i := 42) (by decide +kernel) rfl
theorem wm_X3_20 : Cond.methodLink RX3 20 Lib.Math.min.name ∈ TB := tb_3 (i := 160) (by decide +kernel) rfl
theorem wm_X0_79 : Cond.methodLink RX0 79 Lib.Math.min.name ∈ TB := tb_3 (i := 173) (by decide +kernel) rfl
theorem wf_X0_15 : Cond.fieldLink RX0 15 "LastInBox$Change" "named" "[I" ∈ TB := tb_1 (i := 147) (by decide +kernel) rfl
theorem wf_X0_85 : Cond.fieldLink RX0 85 "LastInBox$Hall" "m" "I" ∈ TB := tb_1 (i := 92) (by decide +kernel) rfl
theorem wf_X0_88 : Cond.fieldLink RX0 88 "LastInBox$Hall" "gives" "LLastInBox$Text;" ∈ TB := tb_1 (i := 75) (by decide +kernel) rfl
theorem wf_X7_15 : Cond.fieldLink RX7 15 "LastInBox$Text" "stack" "[I" ∈ TB := tb_1 (i := 58) (by decide +kernel) rfl
theorem wm_X3_26 : Cond.methodLink RX3 26 Lib.Math.max.name ∈ TB := tb_3 (i := 193) (by decide +kernel) rfl
theorem wst_max : Cond.static Lib.Math.max.name ∈ TB := tb_3 (i := 25) (by decide +kernel) rfl
theorem wc_max : Cond.code Lib.Math.max.name Lib.Math.max.code 2 (some .int) ∈ TB := tb_3 (i := 26) (by decide +kernel) rfl
theorem wk_X2_94 : Cond.constant RX2 94 1103515245 ∈ TB := tb_3 (i := 223) (by decide +kernel) rfl
theorem wm_X10_1 : Cond.methodLink RX10 1 objectInit ∈ TB := tb_5 (i := 80) (by decide +kernel) rfl
theorem wi_obj : Cond.instanceMethod objectInit ∈ TB := tb_1 (i := 26) (by decide +kernel) rfl
theorem wc_obj : Cond.code objectInit ⟨#[0xb1]⟩ 1 none ∈ TB := tb_1 (i := 27) (by decide +kernel) rfl
theorem wa_0 : Cond.arrayClass .int ∈ TB := tb_1 (i := 50) (by decide +kernel) rfl
theorem wf_X10_13 : Cond.fieldLink RX10 13 "LastInBoxModel" "kept" "[I" ∈ TB := tb_5 (i := 82) (by decide +kernel) rfl
theorem wf_X10_16 : Cond.fieldLink RX10 16 "LastInBoxModel" "layers" "[I" ∈ TB := tb_5 (i := 83) (by decide +kernel) rfl
theorem wf_X10_22 : Cond.fieldLink RX10 22 "LastInBoxModel" "step" "[I" ∈ TB := tb_5 (i := 90) (by decide +kernel) rfl
theorem wa_1 : Cond.arrayClass .boolean ∈ TB := tb_5 (i := 184) (by decide +kernel) rfl
theorem wf_X10_38 : Cond.fieldLink RX10 38 "LastInBoxModel" "stands" "[I" ∈ TB := tb_5 (i := 99) (by decide +kernel) rfl
theorem wf_X10_41 : Cond.fieldLink RX10 41 "LastInBoxModel" "row" "[I" ∈ TB := tb_5 (i := 100) (by decide +kernel) rfl
theorem wf_X10_44 : Cond.fieldLink RX10 44 "LastInBoxModel" "best" "[I" ∈ TB := tb_5 (i := 101) (by decide +kernel) rfl
theorem wf_X10_47 : Cond.fieldLink RX10 47 "LastInBoxModel" "trace" "[I" ∈ TB := tb_5 (i := 108) (by decide +kernel) rfl
theorem wf_X10_59 : Cond.fieldLink RX10 59 "LastInBoxModel" "aside" "[I" ∈ TB := tb_5 (i := 114) (by decide +kernel) rfl
theorem wk_X10_202 : Cond.constant RX10 202 1103515245 ∈ TB := tb_6 (i := 146) (by decide +kernel) rfl
theorem wf_X9_33 : Cond.fieldLink RX9 33 "LastInBox" "foresight" "LLastInBox$Foresight;" ∈ TB := tb_2 (i := 46) (by decide +kernel) rfl
theorem wf_X1_12 : Cond.fieldLink RX1 12 "LastInBox$Foresight" "heaps" "[LLastInBox$Heap;" ∈ TB := tb_1 (i := 180) (by decide +kernel) rfl
theorem wf_X1_41 : Cond.fieldLink RX1 41 "LastInBox$Foresight" "hall" "LLastInBox$Hall;" ∈ TB := tb_1 (i := 178) (by decide +kernel) rfl
theorem wf_X1_49 : Cond.fieldLink RX1 49 "LastInBox$Hall" "heap" "LLastInBox$Heap;" ∈ TB := tb_1 (i := 70) (by decide +kernel) rfl
theorem wf_X1_45 : Cond.fieldLink RX1 45 "LastInBox$Foresight" "change" "LLastInBox$Change;" ∈ TB := tb_1 (i := 179) (by decide +kernel) rfl
theorem wm_X6_20 : Cond.methodLink RX6 20 Lib.Math.min.name ∈ TB := tb_5 (i := 0) (by decide +kernel) rfl
theorem wm_X6_26 : Cond.methodLink RX6 26 Lib.Math.max.name ∈ TB := tb_5 (i := 1) (by decide +kernel) rfl
theorem wk_X10_74 : Cond.constantLong RX10 74 255 ∈ TB := tb_5 (i := 197) (by decide +kernel) rfl
theorem wf_X10_80 : Cond.fieldLink RX10 80 "LastInBoxModel" "use" "I" ∈ TB := tb_5 (i := 89) (by decide +kernel) rfl
theorem wf_X10_76 : Cond.fieldLink RX10 76 "LastInBoxModel" "at" "I" ∈ TB := tb_5 (i := 86) (by decide +kernel) rfl
theorem wf_X10_110 : Cond.fieldLink RX10 110 "LastInBoxModel" "open" "I" ∈ TB := tb_5 (i := 87) (by decide +kernel) rfl
theorem wf_X10_83 : Cond.fieldLink RX10 83 "LastInBoxModel" "steps" "I" ∈ TB := tb_5 (i := 88) (by decide +kernel) rfl
theorem wm_X9_1 : Cond.methodLink RX9 1 objectInit ∈ TB := tb_1 (i := 25) (by decide +kernel) rfl
theorem wl_X9_7 : Cond.classLink RX9 7 RX2 ∈ TB := tb_1 (i := 28) (by decide +kernel) rfl
theorem wo_X2 : Cond.instantiable RX2 16 ∈ TB := tb_1 (i := 29) (by decide +kernel) rfl
theorem wn_X2 : Cond.initialized RX2 ∈ TB := tb_1 (i := 2) (by decide +kernel) rfl
theorem wl_X9_19 : Cond.classLink RX9 19 RX0 ∈ TB := tb_1 (i := 139) (by decide +kernel) rfl
theorem wo_X0 : Cond.instantiable RX0 7 ∈ TB := tb_1 (i := 140) (by decide +kernel) rfl
theorem wn_X0 : Cond.initialized RX0 ∈ TB := tb_1 (i := 5) (by decide +kernel) rfl
theorem wl_X9_28 : Cond.classLink RX9 28 RX1 ∈ TB := tb_1 (i := 167) (by decide +kernel) rfl
theorem wo_X1 : Cond.instantiable RX1 14 ∈ TB := tb_1 (i := 168) (by decide +kernel) rfl
theorem wn_X1 : Cond.initialized RX1 ∈ TB := tb_1 (i := 6) (by decide +kernel) rfl
theorem wl_X9_37 : Cond.classLink RX9 37 RX5 ∈ TB := tb_1 (i := 221) (by decide +kernel) rfl
theorem wo_X5 : Cond.instantiable RX5 4 ∈ TB := tb_1 (i := 222) (by decide +kernel) rfl
theorem wn_X5 : Cond.initialized RX5 ∈ TB := tb_1 (i := 7) (by decide +kernel) rfl
theorem wf_X9_40 : Cond.fieldLink RX9 40 "LastInBox" "reader" "LLastInBox$Reader;" ∈ TB := tb_2 (i := 47) (by decide +kernel) rfl
theorem wl_X9_44 : Cond.classLink RX9 44 RX8 ∈ TB := tb_2 (i := 4) (by decide +kernel) rfl
theorem wo_X8 : Cond.instantiable RX8 5 ∈ TB := tb_2 (i := 5) (by decide +kernel) rfl
theorem wn_X8 : Cond.initialized RX8 ∈ TB := tb_1 (i := 8) (by decide +kernel) rfl
theorem wl_X9_51 : Cond.classLink RX9 51 RX6 ∈ TB := tb_2 (i := 26) (by decide +kernel) rfl
theorem wo_X6 : Cond.instantiable RX6 3 ∈ TB := tb_2 (i := 28) (by decide +kernel) rfl
theorem wn_X6 : Cond.initialized RX6 ∈ TB := tb_1 (i := 9) (by decide +kernel) rfl
theorem wm_X2_1 : Cond.methodLink RX2 1 objectInit ∈ TB := tb_1 (i := 33) (by decide +kernel) rfl
theorem wl_X2_13 : Cond.classLink RX2 13 RX3 ∈ TB := tb_1 (i := 34) (by decide +kernel) rfl
theorem wo_X3 : Cond.instantiable RX3 3 ∈ TB := tb_1 (i := 35) (by decide +kernel) rfl
theorem wn_X3 : Cond.initialized RX3 ∈ TB := tb_1 (i := 3) (by decide +kernel) rfl
theorem wl_X2_23 : Cond.classLink RX2 23 RX7 ∈ TB := tb_1 (i := 51) (by decide +kernel) rfl
theorem wo_X7 : Cond.instantiable RX7 3 ∈ TB := tb_1 (i := 52) (by decide +kernel) rfl
theorem wn_X7 : Cond.initialized RX7 ∈ TB := tb_1 (i := 4) (by decide +kernel) rfl
theorem wm_X3_1 : Cond.methodLink RX3 1 objectInit ∈ TB := tb_1 (i := 39) (by decide +kernel) rfl
theorem wm_X7_1 : Cond.methodLink RX7 1 objectInit ∈ TB := tb_1 (i := 56) (by decide +kernel) rfl
theorem wm_X8_1 : Cond.methodLink RX8 1 objectInit ∈ TB := tb_2 (i := 9) (by decide +kernel) rfl
theorem wm_X6_1 : Cond.methodLink RX6 1 objectInit ∈ TB := tb_2 (i := 32) (by decide +kernel) rfl
theorem wm_X5_1 : Cond.methodLink RX5 1 objectInit ∈ TB := tb_1 (i := 226) (by decide +kernel) rfl
theorem wl_X5_7 : Cond.classLink RX5 7 RX7 ∈ TB := tb_1 (i := 227) (by decide +kernel) rfl
theorem wf_X5_10 : Cond.fieldLink RX5 10 "LastInBox$Reader" "made" "LLastInBox$Text;" ∈ TB := tb_1 (i := 231) (by decide +kernel) rfl
theorem wf_X5_18 : Cond.fieldLink RX5 18 "LastInBox$Reader" "names" "Ljava/lang/String;" ∈ TB := tb_1 (i := 232) (by decide +kernel) rfl
theorem wf_X5_22 : Cond.fieldLink RX5 22 "LastInBox$Reader" "hall" "LLastInBox$Hall;" ∈ TB := tb_1 (i := 230) (by decide +kernel) rfl
theorem wm_X0_1 : Cond.methodLink RX0 1 objectInit ∈ TB := tb_1 (i := 144) (by decide +kernel) rfl
theorem wm_X1_3 : Cond.methodLink RX1 3 objectInit ∈ TB := tb_1 (i := 172) (by decide +kernel) rfl
theorem wl_X1_9 : Cond.classLink RX1 9 RX3 ∈ TB := tb_1 (i := 173) (by decide +kernel) rfl
theorem wl_X1_20 : Cond.classLink RX1 20 "[[I" ∈ TB := tb_1 (i := 176) (by decide +kernel) rfl
theorem wf_X1_22 : Cond.fieldLink RX1 22 "LastInBox$Foresight" "purses" "[[I" ∈ TB := tb_1 (i := 181) (by decide +kernel) rfl
theorem wf_X1_25 : Cond.fieldLink RX1 25 "LastInBox$Foresight" "named" "[I" ∈ TB := tb_1 (i := 182) (by decide +kernel) rfl
theorem wf_X1_29 : Cond.fieldLink RX1 29 "LastInBox$Foresight" "queued" "[I" ∈ TB := tb_1 (i := 183) (by decide +kernel) rfl
theorem wf_X1_32 : Cond.fieldLink RX1 32 "LastInBox$Foresight" "queuedSorts" "[I" ∈ TB := tb_1 (i := 184) (by decide +kernel) rfl
theorem wf_X1_35 : Cond.fieldLink RX1 35 "LastInBox$Foresight" "row" "[I" ∈ TB := tb_1 (i := 185) (by decide +kernel) rfl
theorem wf_X1_38 : Cond.fieldLink RX1 38 "LastInBox$Foresight" "bestRow" "[I" ∈ TB := tb_1 (i := 186) (by decide +kernel) rfl
theorem wf_X10_290 : Cond.fieldLink RX10 290 "LastInBoxModel" "images" "I" ∈ TB := tb_5 (i := 84) (by decide +kernel) rfl
theorem wf_X10_262 : Cond.fieldLink RX10 262 "LastInBoxModel" "traced" "I" ∈ TB := tb_5 (i := 109) (by decide +kernel) rfl
theorem wm_X6_39 : Cond.methodLink RX6 39 arraycopyName ∈ TB := tb_5 (i := 30) (by decide +kernel) rfl
theorem wf_X1_190 : Cond.fieldLink RX1 190 "LastInBox$Foresight" "firstFitting" "I" ∈ TB := tb_1 (i := 191) (by decide +kernel) rfl
theorem wf_X1_63 : Cond.fieldLink RX1 63 "LastInBox$Hall" "kind" "I" ∈ TB := tb_1 (i := 87) (by decide +kernel) rfl
theorem wm_X1_119 : Cond.methodLink RX1 119 Lib.Math.min.name ∈ TB := tb_4 (i := 32) (by decide +kernel) rfl
theorem wf_X4_13 : Cond.fieldLink RX4 13 "LastInBox$Kinds" "ABOVE" "[I" ∈ TB := tb_2 (i := 110) (by decide +kernel) rfl
theorem wf_X9_126 : Cond.fieldLink RX9 126 "LastInBox$Hall" "marks" "[I" ∈ TB := tb_1 (i := 73) (by decide +kernel) rfl
theorem wf_X8_17 : Cond.fieldLink RX8 17 "LastInBox$Voices" "parted" "Z" ∈ TB := tb_2 (i := 14) (by decide +kernel) rfl
theorem wf_X8_21 : Cond.fieldLink RX8 21 "LastInBox$Hall" "kind" "I" ∈ TB := tb_1 (i := 89) (by decide +kernel) rfl
theorem wf_X8_26 : Cond.fieldLink RX8 26 "LastInBox$Voices" "kind" "I" ∈ TB := tb_2 (i := 12) (by decide +kernel) rfl
theorem wf_X8_27 : Cond.fieldLink RX8 27 "LastInBox$Hall" "m" "I" ∈ TB := tb_1 (i := 91) (by decide +kernel) rfl
theorem wf_X8_30 : Cond.fieldLink RX8 30 "LastInBox$Voices" "m" "I" ∈ TB := tb_2 (i := 13) (by decide +kernel) rfl
theorem wf_X4_21 : Cond.fieldLink RX4 21 "LastInBox$Kinds" "BODIES" "[I" ∈ TB := tb_4 (i := 197) (by decide +kernel) rfl
theorem wf_X1_127 : Cond.fieldLink RX1 127 "LastInBox$Foresight" "wantedSort" "I" ∈ TB := tb_1 (i := 189) (by decide +kernel) rfl
theorem wf_X1_130 : Cond.fieldLink RX1 130 "LastInBox$Foresight" "wantedAbove" "I" ∈ TB := tb_1 (i := 190) (by decide +kernel) rfl
theorem wm_X1_149 : Cond.methodLink RX1 149 arraycopyName ∈ TB := tb_4 (i := 59) (by decide +kernel) rfl
theorem wf_X10_242 : Cond.fieldLink RX10 242 "LastInBoxModel" "wrongRows" "J" ∈ TB := tb_5 (i := 104) (by decide +kernel) rfl
theorem wf_X10_238 : Cond.fieldLink RX10 238 "LastInBoxModel" "allRows" "J" ∈ TB := tb_5 (i := 105) (by decide +kernel) rfl
theorem wf_X5_26 : Cond.fieldLink RX5 26 "LastInBox$Reader" "place" "I" ∈ TB := tb_1 (i := 233) (by decide +kernel) rfl
theorem wf_X5_37 : Cond.fieldLink RX5 37 "LastInBox$Hall" "bytes" "I" ∈ TB := tb_1 (i := 99) (by decide +kernel) rfl
theorem wf_J0_9 : Cond.fieldLink RJ0 9 "java/lang/String" "value" "[B" ∈ TB := tb_7 (i := 65) (by decide +kernel) rfl
theorem wf_J0_38 : Cond.fieldLink RJ0 38 "java/lang/String" "COMPACT_STRINGS" "Z" ∈ TB := tb_3 (i := 8) (by decide +kernel) rfl
theorem wf_J0_15 : Cond.fieldLink RJ0 15 "java/lang/String" "coder" "B" ∈ TB := tb_7 (i := 64) (by decide +kernel) rfl
theorem wm_J1_92 : Cond.methodLink RJ1 92 Lib.Math.max.name ∈ TB := tb_3 (i := 24) (by decide +kernel) rfl
theorem wm_J1_38 : Cond.methodLink RJ1 38 Lib.Math.min.name ∈ TB := tb_3 (i := 27) (by decide +kernel) rfl
theorem wf_X9_315 : Cond.fieldLink RX9 315 "LastInBox$Hall" "likes" "LLastInBox$Text;" ∈ TB := tb_1 (i := 79) (by decide +kernel) rfl
theorem wf_X9_311 : Cond.fieldLink RX9 311 "LastInBox$Hall" "gives" "LLastInBox$Text;" ∈ TB := tb_1 (i := 76) (by decide +kernel) rfl
theorem wf_X1_100 : Cond.fieldLink RX1 100 "LastInBox$Hall" "likes" "LLastInBox$Text;" ∈ TB := tb_1 (i := 78) (by decide +kernel) rfl
theorem wf_X1_112 : Cond.fieldLink RX1 112 "LastInBox$Hall" "taken" "I" ∈ TB := tb_1 (i := 94) (by decide +kernel) rfl
theorem wm_X1_124 : Cond.methodLink RX1 124 Lib.Math.max.name ∈ TB := tb_4 (i := 33) (by decide +kernel) rfl
theorem wf_X1_155 : Cond.fieldLink RX1 155 "LastInBox$Foresight" "queueLength" "I" ∈ TB := tb_1 (i := 187) (by decide +kernel) rfl
theorem wf_X1_162 : Cond.fieldLink RX1 162 "LastInBox$Foresight" "mostRight" "I" ∈ TB := tb_1 (i := 188) (by decide +kernel) rfl
theorem wf_X10_222 : Cond.fieldLink RX10 222 "LastInBoxModel" "most" "I" ∈ TB := tb_5 (i := 103) (by decide +kernel) rfl
theorem wf_X10_219 : Cond.fieldLink RX10 219 "LastInBoxModel" "queued" "I" ∈ TB := tb_5 (i := 102) (by decide +kernel) rfl
theorem wf_X10_280 : Cond.fieldLink RX10 280 "LastInBoxModel" "isParted" "Z" ∈ TB := tb_5 (i := 110) (by decide +kernel) rfl
theorem wf_X10_253 : Cond.fieldLink RX10 253 "LastInBoxModel" "tallied" "I" ∈ TB := tb_5 (i := 106) (by decide +kernel) rfl
theorem wf_X10_256 : Cond.fieldLink RX10 256 "LastInBoxModel" "firstTally" "I" ∈ TB := tb_5 (i := 107) (by decide +kernel) rfl
theorem wi_J0_coder_7d493 : Cond.instanceMethod yJ0_coder_7d493 ∈ TB := tb_3 (i := 15) (by decide +kernel) rfl
theorem wn_J0 : Cond.initialized RJ0 ∈ TB := tb_1 (i := 13) (by decide +kernel) rfl
theorem wc_J0_coder_7d493 : Cond.code yJ0_coder_7d493 cJ0_coder_7d493 1 (some .byte) ∈ TB := tb_3 (i := 17) (by decide +kernel) rfl
theorem wm_J0_335 : Cond.methodLink RJ0 335 yJ0_coder_7d493 ∈ TB := tb_3 (i := 14) (by decide +kernel) rfl
theorem ws_J0_coder_7d493 : Cond.selects RJ0 yJ0_coder_7d493 yJ0_coder_7d493 ∈ TB := tb_3 (i := 16) (by decide +kernel) rfl
theorem wst_J1_indexOfChar_4cfef : Cond.static yJ1_indexOfChar_4cfef ∈ TB := tb_3 (i := 29) (by decide +kernel) rfl
theorem wn_J1 : Cond.initialized RJ1 ∈ TB := tb_1 (i := 14) (by decide +kernel) rfl
theorem wc_J1_indexOfChar_4cfef : Cond.code yJ1_indexOfChar_4cfef cJ1_indexOfChar_4cfef 6 (some .int) ∈ TB := tb_3 (i := 30) (by decide +kernel) rfl
theorem wm_J1_95 : Cond.methodLink RJ1 95 yJ1_indexOfChar_4cfef ∈ TB := tb_3 (i := 28) (by decide +kernel) rfl
theorem wst_J1_canEncode_9a6ad : Cond.static yJ1_canEncode_9a6ad ∈ TB := tb_3 (i := 22) (by decide +kernel) rfl
theorem wc_J1_canEncode_9a6ad : Cond.code yJ1_canEncode_9a6ad cJ1_canEncode_9a6ad 1 (some .boolean) ∈ TB := tb_3 (i := 23) (by decide +kernel) rfl
theorem wm_J1_88 : Cond.methodLink RJ1 88 yJ1_canEncode_9a6ad ∈ TB := tb_3 (i := 21) (by decide +kernel) rfl
theorem wi_J0_length_8abf5 : Cond.instanceMethod yJ0_length_8abf5 ∈ TB := tb_3 (i := 11) (by decide +kernel) rfl
theorem wc_J0_length_8abf5 : Cond.code yJ0_length_8abf5 cJ0_length_8abf5 1 (some .int) ∈ TB := tb_3 (i := 13) (by decide +kernel) rfl
theorem wm_J0_505 : Cond.methodLink RJ0 505 yJ0_length_8abf5 ∈ TB := tb_3 (i := 10) (by decide +kernel) rfl
theorem ws_J0_length_8abf5 : Cond.selects RJ0 yJ0_length_8abf5 yJ0_length_8abf5 ∈ TB := tb_3 (i := 12) (by decide +kernel) rfl
theorem wst_J1_indexOf_4cfef : Cond.static yJ1_indexOf_4cfef ∈ TB := tb_3 (i := 19) (by decide +kernel) rfl
theorem wc_J1_indexOf_4cfef : Cond.code yJ1_indexOf_4cfef cJ1_indexOf_4cfef 4 (some .int) ∈ TB := tb_3 (i := 20) (by decide +kernel) rfl
theorem wm_J0_637 : Cond.methodLink RJ0 637 yJ1_indexOf_4cfef ∈ TB := tb_3 (i := 18) (by decide +kernel) rfl
theorem wi_J0_isLatin1_aae02 : Cond.instanceMethod yJ0_isLatin1_aae02 ∈ TB := tb_3 (i := 5) (by decide +kernel) rfl
theorem wc_J0_isLatin1_aae02 : Cond.code yJ0_isLatin1_aae02 cJ0_isLatin1_aae02 1 (some .boolean) ∈ TB := tb_3 (i := 7) (by decide +kernel) rfl
theorem wm_J0_492 : Cond.methodLink RJ0 492 yJ0_isLatin1_aae02 ∈ TB := tb_3 (i := 4) (by decide +kernel) rfl
theorem ws_J0_isLatin1_aae02 : Cond.selects RJ0 yJ0_isLatin1_aae02 yJ0_isLatin1_aae02 ∈ TB := tb_3 (i := 6) (by decide +kernel) rfl
theorem wi_J0_indexOf_7cf53 : Cond.instanceMethod yJ0_indexOf_7cf53 ∈ TB := tb_3 (i := 1) (by decide +kernel) rfl
theorem wc_J0_indexOf_7cf53 : Cond.code yJ0_indexOf_7cf53 cJ0_indexOf_7cf53 3 (some .int) ∈ TB := tb_3 (i := 3) (by decide +kernel) rfl
theorem wm_J0_633 : Cond.methodLink RJ0 633 yJ0_indexOf_7cf53 ∈ TB := tb_3 (i := 0) (by decide +kernel) rfl
theorem ws_J0_indexOf_7cf53 : Cond.selects RJ0 yJ0_indexOf_7cf53 yJ0_indexOf_7cf53 ∈ TB := tb_3 (i := 2) (by decide +kernel) rfl
theorem wst_X10_in : Cond.static yX10_in ∈ TB := tb_5 (i := 190) (by decide +kernel) rfl
theorem wc_X10_in : Cond.code yX10_in cX10_in 3 (some .boolean) ∈ TB := tb_5 (i := 191) (by decide +kernel) rfl
theorem wm_X10_63 : Cond.methodLink RX10 63 yX10_in ∈ TB := tb_5 (i := 189) (by decide +kernel) rfl
theorem wi_X10_worthOf : Cond.instanceMethod yX10_worthOf ∈ TB := tb_6 (i := 19) (by decide +kernel) rfl
theorem wc_X10_worthOf : Cond.code yX10_worthOf cX10_worthOf 2 (some .int) ∈ TB := tb_6 (i := 20) (by decide +kernel) rfl
theorem wm_X10_67 : Cond.methodLink RX10 67 yX10_worthOf ∈ TB := tb_6 (i := 17) (by decide +kernel) rfl
theorem ws_X10_worthOf : Cond.selects RX10 yX10_worthOf yX10_worthOf ∈ TB := tb_p3 (i := 13) (by decide +kernel) rfl
theorem wst_X10_joined : Cond.static yX10_joined ∈ TB := tb_6 (i := 117) (by decide +kernel) rfl
theorem wc_X10_joined : Cond.code yX10_joined cX10_joined 3 (some .int) ∈ TB := tb_6 (i := 118) (by decide +kernel) rfl
theorem wm_X10_126 : Cond.methodLink RX10 126 yX10_joined ∈ TB := tb_6 (i := 116) (by decide +kernel) rfl
theorem wi_X10_worked : Cond.instanceMethod yX10_worked ∈ TB := tb_6 (i := 114) (by decide +kernel) rfl
theorem wc_X10_worked : Cond.code yX10_worked cX10_worked 7 (some .int) ∈ TB := tb_6 (i := 115) (by decide +kernel) rfl
theorem wm_X10_156 : Cond.methodLink RX10 156 yX10_worked ∈ TB := tb_6 (i := 112) (by decide +kernel) rfl
theorem ws_X10_worked : Cond.selects RX10 yX10_worked yX10_worked ∈ TB := tb_p4 (i := 10) (by decide +kernel) rfl
theorem wi_X10_hasText : Cond.instanceMethod yX10_hasText ∈ TB := tb_6 (i := 8) (by decide +kernel) rfl
theorem wc_X10_hasText : Cond.code yX10_hasText cX10_hasText 2 (some .boolean) ∈ TB := tb_6 (i := 9) (by decide +kernel) rfl
theorem wm_X10_123 : Cond.methodLink RX10 123 yX10_hasText ∈ TB := tb_6 (i := 6) (by decide +kernel) rfl
theorem ws_X10_hasText : Cond.selects RX10 yX10_hasText yX10_hasText ∈ TB := tb_p3 (i := 12) (by decide +kernel) rfl
theorem wi_X10_worthAt : Cond.instanceMethod yX10_worthAt ∈ TB := tb_6 (i := 106) (by decide +kernel) rfl
theorem wc_X10_worthAt : Cond.code yX10_worthAt cX10_worthAt 2 (some .int) ∈ TB := tb_6 (i := 107) (by decide +kernel) rfl
theorem wm_X10_159 : Cond.methodLink RX10 159 yX10_worthAt ∈ TB := tb_6 (i := 104) (by decide +kernel) rfl
theorem ws_X10_worthAt : Cond.selects RX10 yX10_worthAt yX10_worthAt ∈ TB := tb_p4 (i := 8) (by decide +kernel) rfl
theorem wi_X10_nextPlace : Cond.instanceMethod yX10_nextPlace ∈ TB := tb_6 (i := 102) (by decide +kernel) rfl
theorem wc_X10_nextPlace : Cond.code yX10_nextPlace cX10_nextPlace 6 (some .int) ∈ TB := tb_6 (i := 103) (by decide +kernel) rfl
theorem wm_X10_167 : Cond.methodLink RX10 167 yX10_nextPlace ∈ TB := tb_6 (i := 100) (by decide +kernel) rfl
theorem ws_X10_nextPlace : Cond.selects RX10 yX10_nextPlace yX10_nextPlace ∈ TB := tb_p4 (i := 7) (by decide +kernel) rfl
theorem wi_X10_givesTold : Cond.instanceMethod yX10_givesTold ∈ TB := tb_6 (i := 110) (by decide +kernel) rfl
theorem wc_X10_givesTold : Cond.code yX10_givesTold cX10_givesTold 3 (some .boolean) ∈ TB := tb_6 (i := 111) (by decide +kernel) rfl
theorem wm_X10_170 : Cond.methodLink RX10 170 yX10_givesTold ∈ TB := tb_6 (i := 108) (by decide +kernel) rfl
theorem ws_X10_givesTold : Cond.selects RX10 yX10_givesTold yX10_givesTold ∈ TB := tb_p4 (i := 9) (by decide +kernel) rfl
theorem wi_X10_heaps : Cond.instanceMethod yX10_heaps ∈ TB := tb_6 (i := 42) (by decide +kernel) rfl
theorem wc_X10_heaps : Cond.code yX10_heaps cX10_heaps 3 none ∈ TB := tb_6 (i := 43) (by decide +kernel) rfl
theorem wm_X10_137 : Cond.methodLink RX10 137 yX10_heaps ∈ TB := tb_6 (i := 40) (by decide +kernel) rfl
theorem ws_X10_heaps : Cond.selects RX10 yX10_heaps yX10_heaps ∈ TB := tb_p3 (i := 14) (by decide +kernel) rfl
theorem wi_X10_takes : Cond.instanceMethod yX10_takes ∈ TB := tb_6 (i := 128) (by decide +kernel) rfl
theorem wc_X10_takes : Cond.code yX10_takes cX10_takes 5 none ∈ TB := tb_6 (i := 129) (by decide +kernel) rfl
theorem wm_X10_180 : Cond.methodLink RX10 180 yX10_takes ∈ TB := tb_6 (i := 126) (by decide +kernel) rfl
theorem ws_X10_takes : Cond.selects RX10 yX10_takes yX10_takes ∈ TB := tb_p4 (i := 12) (by decide +kernel) rfl
theorem wi_X10_findChange : Cond.instanceMethod yX10_findChange ∈ TB := tb_6 (i := 98) (by decide +kernel) rfl
theorem wc_X10_findChange : Cond.code yX10_findChange cX10_findChange 8 none ∈ TB := tb_6 (i := 99) (by decide +kernel) rfl
theorem wm_X10_177 : Cond.methodLink RX10 177 yX10_findChange ∈ TB := tb_6 (i := 96) (by decide +kernel) rfl
theorem ws_X10_findChange : Cond.selects RX10 yX10_findChange yX10_findChange ∈ TB := tb_p4 (i := 6) (by decide +kernel) rfl
theorem wi_X10_error : Cond.instanceMethod yX10_error ∈ TB := tb_5 (i := 194) (by decide +kernel) rfl
theorem wc_X10_error : Cond.code yX10_error cX10_error 2 (some .int) ∈ TB := tb_5 (i := 195) (by decide +kernel) rfl
theorem wm_X10_71 : Cond.methodLink RX10 71 yX10_error ∈ TB := tb_5 (i := 192) (by decide +kernel) rfl
theorem ws_X10_error : Cond.selects RX10 yX10_error yX10_error ∈ TB := tb_p3 (i := 1) (by decide +kernel) rfl
theorem wi_X10_layBack : Cond.instanceMethod yX10_layBack ∈ TB := tb_6 (i := 177) (by decide +kernel) rfl
theorem wc_X10_layBack : Cond.code yX10_layBack cX10_layBack 3 none ∈ TB := tb_6 (i := 178) (by decide +kernel) rfl
theorem wm_X10_216 : Cond.methodLink RX10 216 yX10_layBack ∈ TB := tb_6 (i := 175) (by decide +kernel) rfl
theorem ws_X10_layBack : Cond.selects RX10 yX10_layBack yX10_layBack ∈ TB := tb_p5 (i := 2) (by decide +kernel) rfl
theorem wi_X10_strange : Cond.instanceMethod yX10_strange ∈ TB := tb_6 (i := 136) (by decide +kernel) rfl
theorem wc_X10_strange : Cond.code yX10_strange cX10_strange 2 (some .boolean) ∈ TB := tb_6 (i := 137) (by decide +kernel) rfl
theorem wm_X10_199 : Cond.methodLink RX10 199 yX10_strange ∈ TB := tb_6 (i := 134) (by decide +kernel) rfl
theorem ws_X10_strange : Cond.selects RX10 yX10_strange yX10_strange ∈ TB := tb_p4 (i := 13) (by decide +kernel) rfl
theorem wi_X10_layDown : Cond.instanceMethod yX10_layDown ∈ TB := tb_6 (i := 173) (by decide +kernel) rfl
theorem wc_X10_layDown : Cond.code yX10_layDown cX10_layDown 3 none ∈ TB := tb_6 (i := 174) (by decide +kernel) rfl
theorem wm_X10_209 : Cond.methodLink RX10 209 yX10_layDown ∈ TB := tb_6 (i := 171) (by decide +kernel) rfl
theorem ws_X10_layDown : Cond.selects RX10 yX10_layDown yX10_layDown ∈ TB := tb_p5 (i := 1) (by decide +kernel) rfl
theorem wi_X10_pays : Cond.instanceMethod yX10_pays ∈ TB := tb_6 (i := 90) (by decide +kernel) rfl
theorem wc_X10_pays : Cond.code yX10_pays cX10_pays 2 (some .boolean) ∈ TB := tb_6 (i := 91) (by decide +kernel) rfl
theorem wm_X10_190 : Cond.methodLink RX10 190 yX10_pays ∈ TB := tb_6 (i := 88) (by decide +kernel) rfl
theorem ws_X10_pays : Cond.selects RX10 yX10_pays yX10_pays ∈ TB := tb_p4 (i := 4) (by decide +kernel) rfl
theorem wst_X10_isSort : Cond.static yX10_isSort ∈ TB := tb_6 (i := 15) (by decide +kernel) rfl
theorem wc_X10_isSort : Cond.code yX10_isSort cX10_isSort 1 (some .boolean) ∈ TB := tb_6 (i := 16) (by decide +kernel) rfl
theorem wm_X10_130 : Cond.methodLink RX10 130 yX10_isSort ∈ TB := tb_6 (i := 14) (by decide +kernel) rfl
theorem wst_X10_isUnder : Cond.static yX10_isUnder ∈ TB := tb_6 (i := 34) (by decide +kernel) rfl
theorem wc_X10_isUnder : Cond.code yX10_isUnder cX10_isUnder 2 (some .boolean) ∈ TB := tb_6 (i := 35) (by decide +kernel) rfl
theorem wm_X10_133 : Cond.methodLink RX10 133 yX10_isUnder ∈ TB := tb_6 (i := 33) (by decide +kernel) rfl
theorem wi_X10_sortGiven : Cond.instanceMethod yX10_sortGiven ∈ TB := tb_6 (i := 121) (by decide +kernel) rfl
theorem wc_X10_sortGiven : Cond.code yX10_sortGiven cX10_sortGiven 2 (some .int) ∈ TB := tb_6 (i := 122) (by decide +kernel) rfl
theorem wm_X10_184 : Cond.methodLink RX10 184 yX10_sortGiven ∈ TB := tb_6 (i := 119) (by decide +kernel) rfl
theorem ws_X10_sortGiven : Cond.selects RX10 yX10_sortGiven yX10_sortGiven ∈ TB := tb_p4 (i := 11) (by decide +kernel) rfl
theorem wi_X10_heapWorth : Cond.instanceMethod yX10_heapWorth ∈ TB := tb_6 (i := 50) (by decide +kernel) rfl
theorem wc_X10_heapWorth : Cond.code yX10_heapWorth cX10_heapWorth 3 (some .int) ∈ TB := tb_6 (i := 51) (by decide +kernel) rfl
theorem wm_X10_140 : Cond.methodLink RX10 140 yX10_heapWorth ∈ TB := tb_6 (i := 48) (by decide +kernel) rfl
theorem ws_X10_heapWorth : Cond.selects RX10 yX10_heapWorth yX10_heapWorth ∈ TB := tb_p3 (i := 15) (by decide +kernel) rfl
theorem wst_X10_held : Cond.static yX10_held ∈ TB := tb_6 (i := 124) (by decide +kernel) rfl
theorem wc_X10_held : Cond.code yX10_held cX10_held 3 (some .int) ∈ TB := tb_6 (i := 125) (by decide +kernel) rfl
theorem wm_X10_187 : Cond.methodLink RX10 187 yX10_held ∈ TB := tb_6 (i := 123) (by decide +kernel) rfl
theorem wi_X10_goes : Cond.instanceMethod yX10_goes ∈ TB := tb_6 (i := 94) (by decide +kernel) rfl
theorem wc_X10_goes : Cond.code yX10_goes cX10_goes 5 (some .boolean) ∈ TB := tb_6 (i := 95) (by decide +kernel) rfl
theorem wm_X10_196 : Cond.methodLink RX10 196 yX10_goes ∈ TB := tb_6 (i := 92) (by decide +kernel) rfl
theorem ws_X10_goes : Cond.selects RX10 yX10_goes yX10_goes ∈ TB := tb_p4 (i := 5) (by decide +kernel) rfl
theorem wi_X10_has : Cond.instanceMethod yX10_has ∈ TB := tb_6 (i := 74) (by decide +kernel) rfl
theorem wc_X10_has : Cond.code yX10_has cX10_has 3 (some .int) ∈ TB := tb_6 (i := 75) (by decide +kernel) rfl
theorem wm_X10_143 : Cond.methodLink RX10 143 yX10_has ∈ TB := tb_6 (i := 72) (by decide +kernel) rfl
theorem ws_X10_has : Cond.selects RX10 yX10_has yX10_has ∈ TB := tb_p4 (i := 2) (by decide +kernel) rfl
theorem wi_X10_mayGo : Cond.instanceMethod yX10_mayGo ∈ TB := tb_6 (i := 86) (by decide +kernel) rfl
theorem wc_X10_mayGo : Cond.code yX10_mayGo cX10_mayGo 3 (some .boolean) ∈ TB := tb_6 (i := 87) (by decide +kernel) rfl
theorem wm_X10_193 : Cond.methodLink RX10 193 yX10_mayGo ∈ TB := tb_6 (i := 84) (by decide +kernel) rfl
theorem ws_X10_mayGo : Cond.selects RX10 yX10_mayGo yX10_mayGo ∈ TB := tb_p4 (i := 3) (by decide +kernel) rfl
theorem wi_X10_allRight : Cond.instanceMethod yX10_allRight ∈ TB := tb_6 (i := 200) (by decide +kernel) rfl
theorem wc_X10_allRight : Cond.code yX10_allRight cX10_allRight 4 (some .boolean) ∈ TB := tb_6 (i := 201) (by decide +kernel) rfl
theorem wm_X10_235 : Cond.methodLink RX10 235 yX10_allRight ∈ TB := tb_6 (i := 198) (by decide +kernel) rfl
theorem ws_X10_allRight : Cond.selects RX10 yX10_allRight yX10_allRight ∈ TB := tb_p5 (i := 5) (by decide +kernel) rfl
theorem wi_X10_findQueue : Cond.instanceMethod yX10_findQueue ∈ TB := tb_6 (i := 188) (by decide +kernel) rfl
theorem wc_X10_findQueue : Cond.code yX10_findQueue cX10_findQueue 4 none ∈ TB := tb_6 (i := 189) (by decide +kernel) rfl
theorem wm_X10_232 : Cond.methodLink RX10 232 yX10_findQueue ∈ TB := tb_6 (i := 186) (by decide +kernel) rfl
theorem ws_X10_findQueue : Cond.selects RX10 yX10_findQueue yX10_findQueue ∈ TB := tb_p5 (i := 3) (by decide +kernel) rfl
theorem wst_X10_isSheet : Cond.static yX10_isSheet ∈ TB := tb_6 (i := 184) (by decide +kernel) rfl
theorem wc_X10_isSheet : Cond.code yX10_isSheet cX10_isSheet 1 (some .boolean) ∈ TB := tb_6 (i := 185) (by decide +kernel) rfl
theorem wm_X10_229 : Cond.methodLink RX10 229 yX10_isSheet ∈ TB := tb_6 (i := 183) (by decide +kernel) rfl
theorem wi_X10_likes : Cond.instanceMethod yX10_likes ∈ TB := tb_6 (i := 161) (by decide +kernel) rfl
theorem wc_X10_likes : Cond.code yX10_likes cX10_likes 2 (some .int) ∈ TB := tb_6 (i := 162) (by decide +kernel) rfl
theorem wm_X10_206 : Cond.methodLink RX10 206 yX10_likes ∈ TB := tb_6 (i := 159) (by decide +kernel) rfl
theorem ws_X10_likes : Cond.selects RX10 yX10_likes yX10_likes ∈ TB := tb_p4 (i := 15) (by decide +kernel) rfl
theorem wi_X10_isPerson : Cond.instanceMethod yX10_isPerson ∈ TB := tb_6 (i := 66) (by decide +kernel) rfl
theorem wc_X10_isPerson : Cond.code yX10_isPerson cX10_isPerson 2 (some .boolean) ∈ TB := tb_6 (i := 67) (by decide +kernel) rfl
theorem wm_X10_147 : Cond.methodLink RX10 147 yX10_isPerson ∈ TB := tb_6 (i := 64) (by decide +kernel) rfl
theorem ws_X10_isPerson : Cond.selects RX10 yX10_isPerson yX10_isPerson ∈ TB := tb_p4 (i := 0) (by decide +kernel) rfl
theorem wi_X10_draw : Cond.instanceMethod yX10_draw ∈ TB := tb_6 (i := 144) (by decide +kernel) rfl
theorem wc_X10_draw : Cond.code yX10_draw cX10_draw 1 (some .int) ∈ TB := tb_6 (i := 145) (by decide +kernel) rfl
theorem wm_X10_203 : Cond.methodLink RX10 203 yX10_draw ∈ TB := tb_6 (i := 142) (by decide +kernel) rfl
theorem ws_X10_draw : Cond.selects RX10 yX10_draw yX10_draw ∈ TB := tb_p4 (i := 14) (by decide +kernel) rfl
theorem wi_X10_gets : Cond.instanceMethod yX10_gets ∈ TB := tb_6 (i := 169) (by decide +kernel) rfl
theorem wc_X10_gets : Cond.code yX10_gets cX10_gets 10 (some .int) ∈ TB := tb_6 (i := 170) (by decide +kernel) rfl
theorem wm_X10_212 : Cond.methodLink RX10 212 yX10_gets ∈ TB := tb_6 (i := 167) (by decide +kernel) rfl
theorem ws_X10_gets : Cond.selects RX10 yX10_gets yX10_gets ∈ TB := tb_p5 (i := 0) (by decide +kernel) rfl
theorem wst_X10_carry : Cond.static yX10_carry ∈ TB := tb_7 (i := 41) (by decide +kernel) rfl
theorem wc_X10_carry : Cond.code yX10_carry cX10_carry 3 none ∈ TB := tb_7 (i := 42) (by decide +kernel) rfl
theorem wm_X10_286 : Cond.methodLink RX10 286 yX10_carry ∈ TB := tb_7 (i := 40) (by decide +kernel) rfl
theorem wi_X10_queues : Cond.instanceMethod yX10_queues ∈ TB := tb_6 (i := 192) (by decide +kernel) rfl
theorem wc_X10_queues : Cond.code yX10_queues cX10_queues 6 none ∈ TB := tb_6 (i := 193) (by decide +kernel) rfl
theorem wm_X10_225 : Cond.methodLink RX10 225 yX10_queues ∈ TB := tb_6 (i := 190) (by decide +kernel) rfl
theorem ws_X10_queues : Cond.selects RX10 yX10_queues yX10_queues ∈ TB := tb_p5 (i := 4) (by decide +kernel) rfl
theorem wi_X10_purse : Cond.instanceMethod yX10_purse ∈ TB := tb_6 (i := 70) (by decide +kernel) rfl
theorem wc_X10_purse : Cond.code yX10_purse cX10_purse 4 (some .int) ∈ TB := tb_6 (i := 71) (by decide +kernel) rfl
theorem wm_X10_150 : Cond.methodLink RX10 150 yX10_purse ∈ TB := tb_6 (i := 68) (by decide +kernel) rfl
theorem ws_X10_purse : Cond.selects RX10 yX10_purse yX10_purse ∈ TB := tb_p4 (i := 1) (by decide +kernel) rfl
theorem wi_X10_tallies : Cond.instanceMethod yX10_tallies ∈ TB := tb_6 (i := 227) (by decide +kernel) rfl
theorem wc_X10_tallies : Cond.code yX10_tallies cX10_tallies 6 none ∈ TB := tb_6 (i := 228) (by decide +kernel) rfl
theorem wm_X10_259 : Cond.methodLink RX10 259 yX10_tallies ∈ TB := tb_6 (i := 225) (by decide +kernel) rfl
theorem ws_X10_tallies : Cond.selects RX10 yX10_tallies yX10_tallies ∈ TB := tb_p5 (i := 7) (by decide +kernel) rfl
theorem wi_X10_step1 : Cond.instanceMethod yX10_step1 ∈ TB := tb_5 (i := 236) (by decide +kernel) rfl
theorem wc_X10_step1 : Cond.code yX10_step1 cX10_step1 3 none ∈ TB := tb_5 (i := 237) (by decide +kernel) rfl
theorem wm_X10_94 : Cond.methodLink RX10 94 yX10_step1 ∈ TB := tb_5 (i := 234) (by decide +kernel) rfl
theorem ws_X10_step1 : Cond.selects RX10 yX10_step1 yX10_step1 ∈ TB := tb_p3 (i := 10) (by decide +kernel) rfl
theorem wi_X10_both : Cond.instanceMethod yX10_both ∈ TB := tb_5 (i := 208) (by decide +kernel) rfl
theorem wc_X10_both : Cond.code yX10_both cX10_both 1 (some .boolean) ∈ TB := tb_5 (i := 209) (by decide +kernel) rfl
theorem wm_X10_86 : Cond.methodLink RX10 86 yX10_both ∈ TB := tb_5 (i := 206) (by decide +kernel) rfl
theorem ws_X10_both : Cond.selects RX10 yX10_both yX10_both ∈ TB := tb_p3 (i := 3) (by decide +kernel) rfl
theorem wi_X10_look : Cond.instanceMethod yX10_look ∈ TB := tb_5 (i := 228) (by decide +kernel) rfl
theorem wc_X10_look : Cond.code yX10_look cX10_look 1 (some .int) ∈ TB := tb_5 (i := 229) (by decide +kernel) rfl
theorem wm_X10_90 : Cond.methodLink RX10 90 yX10_look ∈ TB := tb_5 (i := 226) (by decide +kernel) rfl
theorem ws_X10_look : Cond.selects RX10 yX10_look yX10_look ∈ TB := tb_p3 (i := 8) (by decide +kernel) rfl
theorem wi_X10_compared : Cond.instanceMethod yX10_compared ∈ TB := tb_5 (i := 212) (by decide +kernel) rfl
theorem wc_X10_compared : Cond.code yX10_compared cX10_compared 2 (some .boolean) ∈ TB := tb_5 (i := 213) (by decide +kernel) rfl
theorem wm_X10_98 : Cond.methodLink RX10 98 yX10_compared ∈ TB := tb_5 (i := 210) (by decide +kernel) rfl
theorem ws_X10_compared : Cond.selects RX10 yX10_compared yX10_compared ∈ TB := tb_p3 (i := 4) (by decide +kernel) rfl
theorem wi_X10_sum : Cond.instanceMethod yX10_sum ∈ TB := tb_5 (i := 216) (by decide +kernel) rfl
theorem wc_X10_sum : Cond.code yX10_sum cX10_sum 2 (some .boolean) ∈ TB := tb_5 (i := 217) (by decide +kernel) rfl
theorem wm_X10_101 : Cond.methodLink RX10 101 yX10_sum ∈ TB := tb_5 (i := 214) (by decide +kernel) rfl
theorem ws_X10_sum : Cond.selects RX10 yX10_sum yX10_sum ∈ TB := tb_p3 (i := 5) (by decide +kernel) rfl
theorem wi_X10_product : Cond.instanceMethod yX10_product ∈ TB := tb_5 (i := 220) (by decide +kernel) rfl
theorem wc_X10_product : Cond.code yX10_product cX10_product 2 (some .boolean) ∈ TB := tb_5 (i := 221) (by decide +kernel) rfl
theorem wm_X10_104 : Cond.methodLink RX10 104 yX10_product ∈ TB := tb_5 (i := 218) (by decide +kernel) rfl
theorem ws_X10_product : Cond.selects RX10 yX10_product yX10_product ∈ TB := tb_p3 (i := 6) (by decide +kernel) rfl
theorem wi_X10_one : Cond.instanceMethod yX10_one ∈ TB := tb_5 (i := 224) (by decide +kernel) rfl
theorem wc_X10_one : Cond.code yX10_one cX10_one 4 (some .boolean) ∈ TB := tb_5 (i := 225) (by decide +kernel) rfl
theorem wm_X10_107 : Cond.methodLink RX10 107 yX10_one ∈ TB := tb_5 (i := 222) (by decide +kernel) rfl
theorem ws_X10_one : Cond.selects RX10 yX10_one yX10_one ∈ TB := tb_p3 (i := 7) (by decide +kernel) rfl
theorem wi_X10_whole : Cond.instanceMethod yX10_whole ∈ TB := tb_5 (i := 204) (by decide +kernel) rfl
theorem wc_X10_whole : Cond.code yX10_whole cX10_whole 1 (some .boolean) ∈ TB := tb_5 (i := 205) (by decide +kernel) rfl
theorem wm_X10_120 : Cond.methodLink RX10 120 yX10_whole ∈ TB := tb_5 (i := 202) (by decide +kernel) rfl
theorem ws_X10_whole : Cond.selects RX10 yX10_whole yX10_whole ∈ TB := tb_p3 (i := 2) (by decide +kernel) rfl
theorem wi_X10_opens : Cond.instanceMethod yX10_opens ∈ TB := tb_6 (i := 0) (by decide +kernel) rfl
theorem wc_X10_opens : Cond.code yX10_opens cX10_opens 1 (some .boolean) ∈ TB := tb_6 (i := 1) (by decide +kernel) rfl
theorem wm_X10_117 : Cond.methodLink RX10 117 yX10_opens ∈ TB := tb_5 (i := 238) (by decide +kernel) rfl
theorem ws_X10_opens : Cond.selects RX10 yX10_opens yX10_opens ∈ TB := tb_p3 (i := 11) (by decide +kernel) rfl
theorem wi_X10_isName : Cond.instanceMethod yX10_isName ∈ TB := tb_5 (i := 232) (by decide +kernel) rfl
theorem wc_X10_isName : Cond.code yX10_isName cX10_isName 2 (some .boolean) ∈ TB := tb_5 (i := 233) (by decide +kernel) rfl
theorem wm_X10_113 : Cond.methodLink RX10 113 yX10_isName ∈ TB := tb_5 (i := 230) (by decide +kernel) rfl
theorem ws_X10_isName : Cond.selects RX10 yX10_isName yX10_isName ∈ TB := tb_p3 (i := 9) (by decide +kernel) rfl
theorem wi_X10_begins : Cond.instanceMethod yX10_begins ∈ TB := tb_6 (i := 239) (by decide +kernel) rfl
theorem wc_X10_begins : Cond.code yX10_begins cX10_begins 2 none ∈ TB := tb_7 (i := 0) (by decide +kernel) rfl
theorem wm_X10_265 : Cond.methodLink RX10 265 yX10_begins ∈ TB := tb_6 (i := 237) (by decide +kernel) rfl
theorem ws_X10_begins : Cond.selects RX10 yX10_begins yX10_begins ∈ TB := tb_p5 (i := 9) (by decide +kernel) rfl
theorem wi_X10_dropsAs : Cond.instanceMethod yX10_dropsAs ∈ TB := tb_6 (i := 235) (by decide +kernel) rfl
theorem wc_X10_dropsAs : Cond.code yX10_dropsAs cX10_dropsAs 3 (some .int) ∈ TB := tb_6 (i := 236) (by decide +kernel) rfl
theorem wm_X10_271 : Cond.methodLink RX10 271 yX10_dropsAs ∈ TB := tb_6 (i := 233) (by decide +kernel) rfl
theorem ws_X10_dropsAs : Cond.selects RX10 yX10_dropsAs yX10_dropsAs ∈ TB := tb_p5 (i := 8) (by decide +kernel) rfl
theorem wst_X10_above : Cond.static yX10_above ∈ TB := tb_7 (i := 2) (by decide +kernel) rfl
theorem wc_X10_above : Cond.code yX10_above cX10_above 1 (some .int) ∈ TB := tb_7 (i := 3) (by decide +kernel) rfl
theorem wm_X10_268 : Cond.methodLink RX10 268 yX10_above ∈ TB := tb_7 (i := 1) (by decide +kernel) rfl
theorem wi_X10_givesAs : Cond.instanceMethod yX10_givesAs ∈ TB := tb_7 (i := 6) (by decide +kernel) rfl
theorem wc_X10_givesAs : Cond.code yX10_givesAs cX10_givesAs 3 (some .int) ∈ TB := tb_7 (i := 7) (by decide +kernel) rfl
theorem wm_X10_274 : Cond.methodLink RX10 274 yX10_givesAs ∈ TB := tb_7 (i := 4) (by decide +kernel) rfl
theorem ws_X10_givesAs : Cond.selects RX10 yX10_givesAs yX10_givesAs ∈ TB := tb_p5 (i := 10) (by decide +kernel) rfl
theorem wi_X10_keepsAs : Cond.instanceMethod yX10_keepsAs ∈ TB := tb_7 (i := 10) (by decide +kernel) rfl
theorem wc_X10_keepsAs : Cond.code yX10_keepsAs cX10_keepsAs 3 (some .int) ∈ TB := tb_7 (i := 11) (by decide +kernel) rfl
theorem wm_X10_277 : Cond.methodLink RX10 277 yX10_keepsAs ∈ TB := tb_7 (i := 8) (by decide +kernel) rfl
theorem ws_X10_keepsAs : Cond.selects RX10 yX10_keepsAs yX10_keepsAs ∈ TB := tb_p5 (i := 11) (by decide +kernel) rfl
theorem wi_X10_partsAs : Cond.instanceMethod yX10_partsAs ∈ TB := tb_7 (i := 14) (by decide +kernel) rfl
theorem wc_X10_partsAs : Cond.code yX10_partsAs cX10_partsAs 5 (some .int) ∈ TB := tb_7 (i := 15) (by decide +kernel) rfl
theorem wm_X10_283 : Cond.methodLink RX10 283 yX10_partsAs ∈ TB := tb_7 (i := 12) (by decide +kernel) rfl
theorem ws_X10_partsAs : Cond.selects RX10 yX10_partsAs yX10_partsAs ∈ TB := tb_p5 (i := 12) (by decide +kernel) rfl
theorem wi_X10_wrongs : Cond.instanceMethod yX10_wrongs ∈ TB := tb_6 (i := 208) (by decide +kernel) rfl
theorem wc_X10_wrongs : Cond.code yX10_wrongs cX10_wrongs 6 none ∈ TB := tb_6 (i := 209) (by decide +kernel) rfl
theorem wm_X10_245 : Cond.methodLink RX10 245 yX10_wrongs ∈ TB := tb_6 (i := 206) (by decide +kernel) rfl
theorem ws_X10_wrongs : Cond.selects RX10 yX10_wrongs yX10_wrongs ∈ TB := tb_p5 (i := 6) (by decide +kernel) rfl
theorem wst_X10_divisor : Cond.static yX10_divisor ∈ TB := tb_6 (i := 211) (by decide +kernel) rfl
theorem wc_X10_divisor : Cond.code yX10_divisor cX10_divisor 10 (some .long) ∈ TB := tb_6 (i := 212) (by decide +kernel) rfl
theorem wm_X10_249 : Cond.methodLink RX10 249 yX10_divisor ∈ TB := tb_6 (i := 210) (by decide +kernel) rfl
theorem wi_X3_takeOut : Cond.instanceMethod yX3_takeOut ∈ TB := tb_3 (i := 157) (by decide +kernel) rfl
theorem wc_X3_takeOut : Cond.code yX3_takeOut cX3_takeOut 2 none ∈ TB := tb_3 (i := 159) (by decide +kernel) rfl
theorem wm_X0_102 : Cond.methodLink RX0 102 yX3_takeOut ∈ TB := tb_3 (i := 156) (by decide +kernel) rfl
theorem ws_X3_takeOut : Cond.selects RX3 yX3_takeOut yX3_takeOut ∈ TB := tb_3 (i := 158) (by decide +kernel) rfl
theorem wi_X3_at : Cond.instanceMethod yX3_at ∈ TB := tb_2 (i := 134) (by decide +kernel) rfl
theorem wc_X3_at : Cond.code yX3_at cX3_at 2 (some .int) ∈ TB := tb_2 (i := 136) (by decide +kernel) rfl
theorem wm_X0_66 : Cond.methodLink RX0 66 yX3_at ∈ TB := tb_3 (i := 150) (by decide +kernel) rfl
theorem ws_X3_at : Cond.selects RX3 yX3_at yX3_at ∈ TB := tb_2 (i := 135) (by decide +kernel) rfl
theorem wst_X7_joined : Cond.static yX7_joined ∈ TB := tb_3 (i := 187) (by decide +kernel) rfl
theorem wc_X7_joined : Cond.code yX7_joined cX7_joined 3 (some .int) ∈ TB := tb_3 (i := 188) (by decide +kernel) rfl
theorem wm_X7_36 : Cond.methodLink RX7 36 yX7_joined ∈ TB := tb_3 (i := 186) (by decide +kernel) rfl
theorem wst_X7_valueOf : Cond.static yX7_valueOf ∈ TB := tb_3 (i := 184) (by decide +kernel) rfl
theorem wc_X7_valueOf : Cond.code yX7_valueOf cX7_valueOf 3 (some .int) ∈ TB := tb_3 (i := 185) (by decide +kernel) rfl
theorem wm_X7_32 : Cond.methodLink RX7 32 yX7_valueOf ∈ TB := tb_3 (i := 183) (by decide +kernel) rfl
theorem wi_X0_handOut : Cond.instanceMethod yX0_handOut ∈ TB := tb_3 (i := 154) (by decide +kernel) rfl
theorem wc_X0_handOut : Cond.code yX0_handOut cX0_handOut 5 none ∈ TB := tb_3 (i := 155) (by decide +kernel) rfl
theorem wm_X0_72 : Cond.methodLink RX0 72 yX0_handOut ∈ TB := tb_3 (i := 152) (by decide +kernel) rfl
theorem ws_X0_handOut : Cond.selects RX0 yX0_handOut yX0_handOut ∈ TB := tb_p1 (i := 12) (by decide +kernel) rfl
theorem wi_X7_valueWith : Cond.instanceMethod yX7_valueWith ∈ TB := tb_3 (i := 180) (by decide +kernel) rfl
theorem wc_X7_valueWith : Cond.code yX7_valueWith cX7_valueWith 5 (some .int) ∈ TB := tb_3 (i := 182) (by decide +kernel) rfl
theorem wm_X0_98 : Cond.methodLink RX0 98 yX7_valueWith ∈ TB := tb_3 (i := 179) (by decide +kernel) rfl
theorem ws_X7_valueWith : Cond.selects RX7 yX7_valueWith yX7_valueWith ∈ TB := tb_3 (i := 181) (by decide +kernel) rfl
theorem wi_X7_isThere : Cond.instanceMethod yX7_isThere ∈ TB := tb_3 (i := 124) (by decide +kernel) rfl
theorem wc_X7_isThere : Cond.code yX7_isThere cX7_isThere 1 (some .boolean) ∈ TB := tb_3 (i := 126) (by decide +kernel) rfl
theorem wm_X0_92 : Cond.methodLink RX0 92 yX7_isThere ∈ TB := tb_3 (i := 178) (by decide +kernel) rfl
theorem ws_X7_isThere : Cond.selects RX7 yX7_isThere yX7_isThere ∈ TB := tb_3 (i := 125) (by decide +kernel) rfl
theorem wi_X2_worthOfCoin : Cond.instanceMethod yX2_worthOfCoin ∈ TB := tb_2 (i := 138) (by decide +kernel) rfl
theorem wc_X2_worthOfCoin : Cond.code yX2_worthOfCoin cX2_worthOfCoin 2 (some .int) ∈ TB := tb_2 (i := 140) (by decide +kernel) rfl
theorem wm_X0_69 : Cond.methodLink RX0 69 yX2_worthOfCoin ∈ TB := tb_3 (i := 151) (by decide +kernel) rfl
theorem ws_X2_worthOfCoin : Cond.selects RX2 yX2_worthOfCoin yX2_worthOfCoin ∈ TB := tb_2 (i := 139) (by decide +kernel) rfl
theorem wi_X3_size : Cond.instanceMethod yX3_size ∈ TB := tb_2 (i := 113) (by decide +kernel) rfl
theorem wc_X3_size : Cond.code yX3_size cX3_size 1 (some .int) ∈ TB := tb_2 (i := 115) (by decide +kernel) rfl
theorem wm_X0_63 : Cond.methodLink RX0 63 yX3_size ∈ TB := tb_3 (i := 149) (by decide +kernel) rfl
theorem ws_X3_size : Cond.selects RX3 yX3_size yX3_size ∈ TB := tb_2 (i := 114) (by decide +kernel) rfl
theorem wi_X2_greatestWorth : Cond.instanceMethod yX2_greatestWorth ∈ TB := tb_3 (i := 170) (by decide +kernel) rfl
theorem wc_X2_greatestWorth : Cond.code yX2_greatestWorth cX2_greatestWorth 4 (some .int) ∈ TB := tb_3 (i := 172) (by decide +kernel) rfl
theorem wm_X0_76 : Cond.methodLink RX0 76 yX2_greatestWorth ∈ TB := tb_3 (i := 169) (by decide +kernel) rfl
theorem ws_X2_greatestWorth : Cond.selects RX2 yX2_greatestWorth yX2_greatestWorth ∈ TB := tb_3 (i := 171) (by decide +kernel) rfl
theorem wst_X2_isSort : Cond.static yX2_isSort ∈ TB := tb_2 (i := 76) (by decide +kernel) rfl
theorem wc_X2_isSort : Cond.code yX2_isSort cX2_isSort 1 (some .boolean) ∈ TB := tb_2 (i := 77) (by decide +kernel) rfl
theorem wm_X2_54 : Cond.methodLink RX2 54 yX2_isSort ∈ TB := tb_2 (i := 87) (by decide +kernel) rfl
theorem wi_X3_closeGaps : Cond.instanceMethod yX3_closeGaps ∈ TB := tb_3 (i := 190) (by decide +kernel) rfl
theorem wc_X3_closeGaps : Cond.code yX3_closeGaps cX3_closeGaps 3 none ∈ TB := tb_3 (i := 192) (by decide +kernel) rfl
theorem wm_X0_60 : Cond.methodLink RX0 60 yX3_closeGaps ∈ TB := tb_3 (i := 189) (by decide +kernel) rfl
theorem ws_X3_closeGaps : Cond.selects RX3 yX3_closeGaps yX3_closeGaps ∈ TB := tb_3 (i := 191) (by decide +kernel) rfl
theorem wi_X0_asTold : Cond.instanceMethod yX0_asTold ∈ TB := tb_3 (i := 176) (by decide +kernel) rfl
theorem wc_X0_asTold : Cond.code yX0_asTold cX0_asTold 4 none ∈ TB := tb_3 (i := 177) (by decide +kernel) rfl
theorem wm_X0_57 : Cond.methodLink RX0 57 yX0_asTold ∈ TB := tb_3 (i := 174) (by decide +kernel) rfl
theorem ws_X0_asTold : Cond.selects RX0 yX0_asTold yX0_asTold ∈ TB := tb_p1 (i := 15) (by decide +kernel) rfl
theorem wi_X0_fromFirst : Cond.instanceMethod yX0_fromFirst ∈ TB := tb_3 (i := 163) (by decide +kernel) rfl
theorem wc_X0_fromFirst : Cond.code yX0_fromFirst cX0_fromFirst 5 none ∈ TB := tb_3 (i := 164) (by decide +kernel) rfl
theorem wm_X0_50 : Cond.methodLink RX0 50 yX0_fromFirst ∈ TB := tb_3 (i := 161) (by decide +kernel) rfl
theorem ws_X0_fromFirst : Cond.selects RX0 yX0_fromFirst yX0_fromFirst ∈ TB := tb_p1 (i := 13) (by decide +kernel) rfl
theorem wi_X0_fromLatest : Cond.instanceMethod yX0_fromLatest ∈ TB := tb_3 (i := 147) (by decide +kernel) rfl
theorem wc_X0_fromLatest : Cond.code yX0_fromLatest cX0_fromLatest 5 none ∈ TB := tb_3 (i := 148) (by decide +kernel) rfl
theorem wm_X0_46 : Cond.methodLink RX0 46 yX0_fromLatest ∈ TB := tb_3 (i := 145) (by decide +kernel) rfl
theorem ws_X0_fromLatest : Cond.selects RX0 yX0_fromLatest yX0_fromLatest ∈ TB := tb_p1 (i := 11) (by decide +kernel) rfl
theorem wi_X0_greatestFirst : Cond.instanceMethod yX0_greatestFirst ∈ TB := tb_3 (i := 167) (by decide +kernel) rfl
theorem wc_X0_greatestFirst : Cond.code yX0_greatestFirst cX0_greatestFirst 5 none ∈ TB := tb_3 (i := 168) (by decide +kernel) rfl
theorem wm_X0_53 : Cond.methodLink RX0 53 yX0_greatestFirst ∈ TB := tb_3 (i := 165) (by decide +kernel) rfl
theorem ws_X0_greatestFirst : Cond.selects RX0 yX0_greatestFirst yX0_greatestFirst ∈ TB := tb_p1 (i := 14) (by decide +kernel) rfl
theorem wi_X2_worthOf : Cond.instanceMethod yX2_worthOf ∈ TB := tb_2 (i := 84) (by decide +kernel) rfl
theorem wc_X2_worthOf : Cond.code yX2_worthOf cX2_worthOf 2 (some .int) ∈ TB := tb_2 (i := 86) (by decide +kernel) rfl
theorem wm_X0_35 : Cond.methodLink RX0 35 yX2_worthOf ∈ TB := tb_3 (i := 144) (by decide +kernel) rfl
theorem ws_X2_worthOf : Cond.selects RX2 yX2_worthOf yX2_worthOf ∈ TB := tb_2 (i := 85) (by decide +kernel) rfl
theorem wi_X0_marks : Cond.instanceMethod yX0_marks ∈ TB := tb_4 (i := 7) (by decide +kernel) rfl
theorem wc_X0_marks : Cond.code yX0_marks cX0_marks 1 (some .int) ∈ TB := tb_4 (i := 9) (by decide +kernel) rfl
theorem wm_X1_181 : Cond.methodLink RX1 181 yX0_marks ∈ TB := tb_4 (i := 152) (by decide +kernel) rfl
theorem ws_X0_marks : Cond.selects RX0 yX0_marks yX0_marks ∈ TB := tb_4 (i := 8) (by decide +kernel) rfl
theorem wi_X3_addLatest : Cond.instanceMethod yX3_addLatest ∈ TB := tb_2 (i := 121) (by decide +kernel) rfl
theorem wc_X3_addLatest : Cond.code yX3_addLatest cX3_addLatest 2 (some .boolean) ∈ TB := tb_2 (i := 123) (by decide +kernel) rfl
theorem wm_X1_67 : Cond.methodLink RX1 67 yX3_addLatest ∈ TB := tb_4 (i := 52) (by decide +kernel) rfl
theorem ws_X3_addLatest : Cond.selects RX3 yX3_addLatest yX3_addLatest ∈ TB := tb_2 (i := 122) (by decide +kernel) rfl
theorem wi_X0_comesFrom : Cond.instanceMethod yX0_comesFrom ∈ TB := tb_3 (i := 141) (by decide +kernel) rfl
theorem wc_X0_comesFrom : Cond.code yX0_comesFrom cX0_comesFrom 4 none ∈ TB := tb_3 (i := 143) (by decide +kernel) rfl
theorem wm_X1_57 : Cond.methodLink RX1 57 yX0_comesFrom ∈ TB := tb_4 (i := 5) (by decide +kernel) rfl
theorem ws_X0_comesFrom : Cond.selects RX0 yX0_comesFrom yX0_comesFrom ∈ TB := tb_3 (i := 142) (by decide +kernel) rfl
theorem wi_X3_hasMarked : Cond.instanceMethod yX3_hasMarked ∈ TB := tb_4 (i := 149) (by decide +kernel) rfl
theorem wc_X3_hasMarked : Cond.code yX3_hasMarked cX3_hasMarked 2 (some .boolean) ∈ TB := tb_4 (i := 151) (by decide +kernel) rfl
theorem wm_X1_178 : Cond.methodLink RX1 178 yX3_hasMarked ∈ TB := tb_4 (i := 148) (by decide +kernel) rfl
theorem ws_X3_hasMarked : Cond.selects RX3 yX3_hasMarked yX3_hasMarked ∈ TB := tb_4 (i := 150) (by decide +kernel) rfl
theorem wi_X3_copyFrom : Cond.instanceMethod yX3_copyFrom ∈ TB := tb_4 (i := 1) (by decide +kernel) rfl
theorem wc_X3_copyFrom : Cond.code yX3_copyFrom cX3_copyFrom 2 none ∈ TB := tb_4 (i := 3) (by decide +kernel) rfl
theorem wm_X1_53 : Cond.methodLink RX1 53 yX3_copyFrom ∈ TB := tb_4 (i := 0) (by decide +kernel) rfl
theorem ws_X3_copyFrom : Cond.selects RX3 yX3_copyFrom yX3_copyFrom ∈ TB := tb_4 (i := 2) (by decide +kernel) rfl
theorem wi_X9_error : Cond.instanceMethod yX9_error ∈ TB := tb_2 (i := 80) (by decide +kernel) rfl
theorem wc_X9_error : Cond.code yX9_error cX9_error 2 (some .int) ∈ TB := tb_2 (i := 81) (by decide +kernel) rfl
theorem wm_X9_70 : Cond.methodLink RX9 70 yX9_error ∈ TB := tb_2 (i := 78) (by decide +kernel) rfl
theorem ws_X9_error : Cond.selects RX9 yX9_error yX9_error ∈ TB := tb_p1 (i := 0) (by decide +kernel) rfl
theorem wi_X1_goesToMarked : Cond.instanceMethod yX1_goesToMarked ∈ TB := tb_4 (i := 145) (by decide +kernel) rfl
theorem wc_X1_goesToMarked : Cond.code yX1_goesToMarked cX1_goesToMarked 3 (some .int) ∈ TB := tb_4 (i := 147) (by decide +kernel) rfl
theorem wm_X9_250 : Cond.methodLink RX9 250 yX1_goesToMarked ∈ TB := tb_4 (i := 144) (by decide +kernel) rfl
theorem ws_X1_goesToMarked : Cond.selects RX1 yX1_goesToMarked yX1_goesToMarked ∈ TB := tb_4 (i := 146) (by decide +kernel) rfl
theorem wi_X2_pays : Cond.instanceMethod yX2_pays ∈ TB := tb_3 (i := 133) (by decide +kernel) rfl
theorem wc_X2_pays : Cond.code yX2_pays cX2_pays 2 (some .boolean) ∈ TB := tb_3 (i := 135) (by decide +kernel) rfl
theorem wm_X9_179 : Cond.methodLink RX9 179 yX2_pays ∈ TB := tb_3 (i := 132) (by decide +kernel) rfl
theorem ws_X2_pays : Cond.selects RX2 yX2_pays yX2_pays ∈ TB := tb_3 (i := 134) (by decide +kernel) rfl
theorem wm_X9_66 : Cond.methodLink RX9 66 yX2_isSort ∈ TB := tb_2 (i := 75) (by decide +kernel) rfl
theorem wst_X4_isKind : Cond.static yX4_isKind ∈ TB := tb_2 (i := 101) (by decide +kernel) rfl
theorem wn_X4 : Cond.initialized RX4 ∈ TB := tb_1 (i := 11) (by decide +kernel) rfl
theorem wc_X4_isKind : Cond.code yX4_isKind cX4_isKind 1 (some .boolean) ∈ TB := tb_2 (i := 102) (by decide +kernel) rfl
theorem wm_X4_9 : Cond.methodLink RX4 9 yX4_isKind ∈ TB := tb_2 (i := 109) (by decide +kernel) rfl
theorem wst_X4_above : Cond.static yX4_above ∈ TB := tb_2 (i := 107) (by decide +kernel) rfl
theorem wc_X4_above : Cond.code yX4_above cX4_above 1 (some .int) ∈ TB := tb_2 (i := 108) (by decide +kernel) rfl
theorem wm_X4_17 : Cond.methodLink RX4 17 yX4_above ∈ TB := tb_2 (i := 106) (by decide +kernel) rfl
theorem wm_X9_102 : Cond.methodLink RX9 102 yX3_size ∈ TB := tb_2 (i := 112) (by decide +kernel) rfl
theorem wst_X4_isOrUnder : Cond.static yX4_isOrUnder ∈ TB := tb_2 (i := 104) (by decide +kernel) rfl
theorem wc_X4_isOrUnder : Cond.code yX4_isOrUnder cX4_isOrUnder 4 (some .boolean) ∈ TB := tb_2 (i := 105) (by decide +kernel) rfl
theorem wm_X9_94 : Cond.methodLink RX9 94 yX4_isOrUnder ∈ TB := tb_2 (i := 103) (by decide +kernel) rfl
theorem wm_X9_91 : Cond.methodLink RX9 91 yX4_isKind ∈ TB := tb_2 (i := 100) (by decide +kernel) rfl
theorem wi_X8_at : Cond.instanceMethod yX8_at ∈ TB := tb_4 (i := 229) (by decide +kernel) rfl
theorem wc_X8_at : Cond.code yX8_at cX8_at 2 (some .int) ∈ TB := tb_4 (i := 231) (by decide +kernel) rfl
theorem wm_X9_273 : Cond.methodLink RX9 273 yX8_at ∈ TB := tb_4 (i := 228) (by decide +kernel) rfl
theorem ws_X8_at : Cond.selects RX8 yX8_at yX8_at ∈ TB := tb_4 (i := 230) (by decide +kernel) rfl
theorem wi_X8_size : Cond.instanceMethod yX8_size ∈ TB := tb_4 (i := 225) (by decide +kernel) rfl
theorem wc_X8_size : Cond.code yX8_size cX8_size 1 (some .int) ∈ TB := tb_4 (i := 227) (by decide +kernel) rfl
theorem wm_X9_272 : Cond.methodLink RX9 272 yX8_size ∈ TB := tb_4 (i := 224) (by decide +kernel) rfl
theorem ws_X8_size : Cond.selects RX8 yX8_size yX8_size ∈ TB := tb_4 (i := 226) (by decide +kernel) rfl
theorem wm_X9_206 : Cond.methodLink RX9 206 yX0_marks ∈ TB := tb_4 (i := 6) (by decide +kernel) rfl
theorem wi_X0_isRight : Cond.instanceMethod yX0_isRight ∈ TB := tb_3 (i := 225) (by decide +kernel) rfl
theorem wc_X0_isRight : Cond.code yX0_isRight cX0_isRight 1 (some .boolean) ∈ TB := tb_3 (i := 227) (by decide +kernel) rfl
theorem wm_X9_197 : Cond.methodLink RX9 197 yX0_isRight ∈ TB := tb_3 (i := 224) (by decide +kernel) rfl
theorem ws_X0_isRight : Cond.selects RX0 yX0_isRight yX0_isRight ∈ TB := tb_3 (i := 226) (by decide +kernel) rfl
theorem wi_X0_size : Cond.instanceMethod yX0_size ∈ TB := tb_3 (i := 195) (by decide +kernel) rfl
theorem wc_X0_size : Cond.code yX0_size cX0_size 1 (some .int) ∈ TB := tb_3 (i := 197) (by decide +kernel) rfl
theorem wm_X9_185 : Cond.methodLink RX9 185 yX0_size ∈ TB := tb_3 (i := 194) (by decide +kernel) rfl
theorem ws_X0_size : Cond.selects RX0 yX0_size yX0_size ∈ TB := tb_3 (i := 196) (by decide +kernel) rfl
theorem wi_X0_sum : Cond.instanceMethod yX0_sum ∈ TB := tb_3 (i := 208) (by decide +kernel) rfl
theorem wc_X0_sum : Cond.code yX0_sum cX0_sum 1 (some .int) ∈ TB := tb_3 (i := 210) (by decide +kernel) rfl
theorem wm_X9_191 : Cond.methodLink RX9 191 yX0_sum ∈ TB := tb_3 (i := 207) (by decide +kernel) rfl
theorem ws_X0_sum : Cond.selects RX0 yX0_sum yX0_sum ∈ TB := tb_3 (i := 209) (by decide +kernel) rfl
theorem wi_X0_at : Cond.instanceMethod yX0_at ∈ TB := tb_3 (i := 199) (by decide +kernel) rfl
theorem wc_X0_at : Cond.code yX0_at cX0_at 2 (some .int) ∈ TB := tb_3 (i := 201) (by decide +kernel) rfl
theorem wm_X9_186 : Cond.methodLink RX9 186 yX0_at ∈ TB := tb_3 (i := 198) (by decide +kernel) rfl
theorem ws_X0_at : Cond.selects RX0 yX0_at yX0_at ∈ TB := tb_3 (i := 200) (by decide +kernel) rfl
theorem wi_X1_foresee : Cond.instanceMethod yX1_foresee ∈ TB := tb_3 (i := 237) (by decide +kernel) rfl
theorem wc_X1_foresee : Cond.code yX1_foresee cX1_foresee 3 none ∈ TB := tb_3 (i := 239) (by decide +kernel) rfl
theorem wm_X9_203 : Cond.methodLink RX9 203 yX1_foresee ∈ TB := tb_3 (i := 236) (by decide +kernel) rfl
theorem ws_X1_foresee : Cond.selects RX1 yX1_foresee yX1_foresee ∈ TB := tb_3 (i := 238) (by decide +kernel) rfl
theorem wm_X2_58 : Cond.methodLink RX2 58 yX3_size ∈ TB := tb_2 (i := 132) (by decide +kernel) rfl
theorem wm_X2_62 : Cond.methodLink RX2 62 yX3_at ∈ TB := tb_2 (i := 133) (by decide +kernel) rfl
theorem wi_X2_firstUnlike : Cond.instanceMethod yX2_firstUnlike ∈ TB := tb_5 (i := 64) (by decide +kernel) rfl
theorem wc_X2_firstUnlike : Cond.code yX2_firstUnlike cX2_firstUnlike 4 (some .int) ∈ TB := tb_5 (i := 66) (by decide +kernel) rfl
theorem wm_X9_300 : Cond.methodLink RX9 300 yX2_firstUnlike ∈ TB := tb_5 (i := 63) (by decide +kernel) rfl
theorem ws_X2_firstUnlike : Cond.selects RX2 yX2_firstUnlike yX2_firstUnlike ∈ TB := tb_5 (i := 65) (by decide +kernel) rfl
theorem wm_X9_117 : Cond.methodLink RX9 117 yX3_at ∈ TB := tb_2 (i := 149) (by decide +kernel) rfl
theorem wm_X2_66 : Cond.methodLink RX2 66 yX2_worthOfCoin ∈ TB := tb_2 (i := 137) (by decide +kernel) rfl
theorem wm_X9_74 : Cond.methodLink RX9 74 yX2_worthOf ∈ TB := tb_2 (i := 83) (by decide +kernel) rfl
theorem wi_X2_heapWorth : Cond.instanceMethod yX2_heapWorth ∈ TB := tb_2 (i := 129) (by decide +kernel) rfl
theorem wc_X2_heapWorth : Cond.code yX2_heapWorth cX2_heapWorth 3 (some .int) ∈ TB := tb_2 (i := 131) (by decide +kernel) rfl
theorem wm_X9_111 : Cond.methodLink RX9 111 yX2_heapWorth ∈ TB := tb_2 (i := 128) (by decide +kernel) rfl
theorem ws_X2_heapWorth : Cond.selects RX2 yX2_heapWorth yX2_heapWorth ∈ TB := tb_2 (i := 130) (by decide +kernel) rfl
theorem wm_X1_71 : Cond.methodLink RX1 71 yX0_isRight ∈ TB := tb_4 (i := 53) (by decide +kernel) rfl
theorem wi_X1_goesRight : Cond.instanceMethod yX1_goesRight ∈ TB := tb_4 (i := 50) (by decide +kernel) rfl
theorem wc_X1_goesRight : Cond.code yX1_goesRight cX1_goesRight 3 (some .boolean) ∈ TB := tb_4 (i := 51) (by decide +kernel) rfl
theorem wm_X1_137 : Cond.methodLink RX1 137 yX1_goesRight ∈ TB := tb_4 (i := 48) (by decide +kernel) rfl
theorem ws_X1_goesRight : Cond.selects RX1 yX1_goesRight yX1_goesRight ∈ TB := tb_p2 (i := 3) (by decide +kernel) rfl
theorem wi_X1_allGoRight : Cond.instanceMethod yX1_allGoRight ∈ TB := tb_4 (i := 118) (by decide +kernel) rfl
theorem wc_X1_allGoRight : Cond.code yX1_allGoRight cX1_allGoRight 4 (some .boolean) ∈ TB := tb_4 (i := 119) (by decide +kernel) rfl
theorem wm_X1_169 : Cond.methodLink RX1 169 yX1_allGoRight ∈ TB := tb_4 (i := 116) (by decide +kernel) rfl
theorem ws_X1_allGoRight : Cond.selects RX1 yX1_allGoRight yX1_allGoRight ∈ TB := tb_p2 (i := 8) (by decide +kernel) rfl
theorem wi_X2_isPerson : Cond.instanceMethod yX2_isPerson ∈ TB := tb_2 (i := 159) (by decide +kernel) rfl
theorem wc_X2_isPerson : Cond.code yX2_isPerson cX2_isPerson 2 (some .boolean) ∈ TB := tb_2 (i := 161) (by decide +kernel) rfl
theorem wm_X2_72 : Cond.methodLink RX2 72 yX2_isPerson ∈ TB := tb_2 (i := 170) (by decide +kernel) rfl
theorem ws_X2_isPerson : Cond.selects RX2 yX2_isPerson yX2_isPerson ∈ TB := tb_2 (i := 160) (by decide +kernel) rfl
theorem wi_X2_coinsOf : Cond.instanceMethod yX2_coinsOf ∈ TB := tb_2 (i := 167) (by decide +kernel) rfl
theorem wc_X2_coinsOf : Cond.code yX2_coinsOf cX2_coinsOf 3 (some .int) ∈ TB := tb_2 (i := 169) (by decide +kernel) rfl
theorem wm_X1_75 : Cond.methodLink RX1 75 yX2_coinsOf ∈ TB := tb_4 (i := 18) (by decide +kernel) rfl
theorem ws_X2_coinsOf : Cond.selects RX2 yX2_coinsOf yX2_coinsOf ∈ TB := tb_2 (i := 168) (by decide +kernel) rfl
theorem wm_X1_79 : Cond.methodLink RX1 79 yX2_pays ∈ TB := tb_4 (i := 19) (by decide +kernel) rfl
theorem wi_X6_at : Cond.instanceMethod yX6_at ∈ TB := tb_4 (i := 85) (by decide +kernel) rfl
theorem wc_X6_at : Cond.code yX6_at cX6_at 2 (some .int) ∈ TB := tb_4 (i := 87) (by decide +kernel) rfl
theorem wm_X1_161 : Cond.methodLink RX1 161 yX6_at ∈ TB := tb_4 (i := 84) (by decide +kernel) rfl
theorem ws_X6_at : Cond.selects RX6 yX6_at yX6_at ∈ TB := tb_4 (i := 86) (by decide +kernel) rfl
theorem wi_X6_size : Cond.instanceMethod yX6_size ∈ TB := tb_4 (i := 81) (by decide +kernel) rfl
theorem wc_X6_size : Cond.code yX6_size cX6_size 1 (some .int) ∈ TB := tb_4 (i := 83) (by decide +kernel) rfl
theorem wm_X1_158 : Cond.methodLink RX1 158 yX6_size ∈ TB := tb_4 (i := 80) (by decide +kernel) rfl
theorem ws_X6_size : Cond.selects RX6 yX6_size yX6_size ∈ TB := tb_4 (i := 82) (by decide +kernel) rfl
theorem wi_X1_fewestAtDawn : Cond.instanceMethod yX1_fewestAtDawn ∈ TB := tb_4 (i := 113) (by decide +kernel) rfl
theorem wc_X1_fewestAtDawn : Cond.code yX1_fewestAtDawn cX1_fewestAtDawn 3 (some .int) ∈ TB := tb_4 (i := 115) (by decide +kernel) rfl
theorem wm_X9_238 : Cond.methodLink RX9 238 yX1_fewestAtDawn ∈ TB := tb_4 (i := 112) (by decide +kernel) rfl
theorem ws_X1_fewestAtDawn : Cond.selects RX1 yX1_fewestAtDawn yX1_fewestAtDawn ∈ TB := tb_4 (i := 114) (by decide +kernel) rfl
theorem wi_X1_queueUp : Cond.instanceMethod yX1_queueUp ∈ TB := tb_4 (i := 77) (by decide +kernel) rfl
theorem wc_X1_queueUp : Cond.code yX1_queueUp cX1_queueUp 4 none ∈ TB := tb_4 (i := 79) (by decide +kernel) rfl
theorem wm_X9_222 : Cond.methodLink RX9 222 yX1_queueUp ∈ TB := tb_4 (i := 76) (by decide +kernel) rfl
theorem ws_X1_queueUp : Cond.selects RX1 yX1_queueUp yX1_queueUp ∈ TB := tb_4 (i := 78) (by decide +kernel) rfl
theorem wi_X6_isMissing : Cond.instanceMethod yX6_isMissing ∈ TB := tb_4 (i := 73) (by decide +kernel) rfl
theorem wc_X6_isMissing : Cond.code yX6_isMissing cX6_isMissing 1 (some .boolean) ∈ TB := tb_4 (i := 75) (by decide +kernel) rfl
theorem wm_X9_219 : Cond.methodLink RX9 219 yX6_isMissing ∈ TB := tb_4 (i := 72) (by decide +kernel) rfl
theorem ws_X6_isMissing : Cond.selects RX6 yX6_isMissing yX6_isMissing ∈ TB := tb_4 (i := 74) (by decide +kernel) rfl
theorem wi_X9_sheetOf : Cond.instanceMethod yX9_sheetOf ∈ TB := tb_4 (i := 70) (by decide +kernel) rfl
theorem wc_X9_sheetOf : Cond.code yX9_sheetOf cX9_sheetOf 2 (some (.object "LastInBox$Sheet")) ∈ TB := tb_4 (i := 71) (by decide +kernel) rfl
theorem wm_X9_215 : Cond.methodLink RX9 215 yX9_sheetOf ∈ TB := tb_4 (i := 68) (by decide +kernel) rfl
theorem ws_X9_sheetOf : Cond.selects RX9 yX9_sheetOf yX9_sheetOf ∈ TB := tb_p2 (i := 6) (by decide +kernel) rfl
theorem wm_X1_115 : Cond.methodLink RX1 115 yX7_valueWith ∈ TB := tb_4 (i := 31) (by decide +kernel) rfl
theorem wm_X1_109 : Cond.methodLink RX1 109 yX2_worthOf ∈ TB := tb_4 (i := 30) (by decide +kernel) rfl
theorem wm_X1_104 : Cond.methodLink RX1 104 yX7_isThere ∈ TB := tb_4 (i := 29) (by decide +kernel) rfl
theorem wi_X1_likesOf : Cond.instanceMethod yX1_likesOf ∈ TB := tb_4 (i := 27) (by decide +kernel) rfl
theorem wc_X1_likesOf : Cond.code yX1_likesOf cX1_likesOf 2 (some .int) ∈ TB := tb_4 (i := 28) (by decide +kernel) rfl
theorem wm_X1_90 : Cond.methodLink RX1 90 yX1_likesOf ∈ TB := tb_4 (i := 25) (by decide +kernel) rfl
theorem ws_X1_likesOf : Cond.selects RX1 yX1_likesOf yX1_likesOf ∈ TB := tb_p2 (i := 1) (by decide +kernel) rfl
theorem wm_X1_97 : Cond.methodLink RX1 97 yX0_at ∈ TB := tb_4 (i := 35) (by decide +kernel) rfl
theorem wm_X1_93 : Cond.methodLink RX1 93 yX0_size ∈ TB := tb_4 (i := 34) (by decide +kernel) rfl
theorem wm_X1_86 : Cond.methodLink RX1 86 yX1_foresee ∈ TB := tb_4 (i := 24) (by decide +kernel) rfl
theorem wi_X1_gainBy : Cond.instanceMethod yX1_gainBy ∈ TB := tb_4 (i := 22) (by decide +kernel) rfl
theorem wc_X1_gainBy : Cond.code yX1_gainBy cX1_gainBy 4 (some .int) ∈ TB := tb_4 (i := 23) (by decide +kernel) rfl
theorem wm_X1_82 : Cond.methodLink RX1 82 yX1_gainBy ∈ TB := tb_4 (i := 20) (by decide +kernel) rfl
theorem ws_X1_gainBy : Cond.selects RX1 yX1_gainBy yX1_gainBy ∈ TB := tb_p2 (i := 0) (by decide +kernel) rfl
theorem wi_X1_dearest : Cond.instanceMethod yX1_dearest ∈ TB := tb_4 (i := 15) (by decide +kernel) rfl
theorem wc_X1_dearest : Cond.code yX1_dearest cX1_dearest 6 (some .int) ∈ TB := tb_4 (i := 17) (by decide +kernel) rfl
theorem wm_X9_208 : Cond.methodLink RX9 208 yX1_dearest ∈ TB := tb_4 (i := 14) (by decide +kernel) rfl
theorem ws_X1_dearest : Cond.selects RX1 yX1_dearest yX1_dearest ∈ TB := tb_4 (i := 16) (by decide +kernel) rfl
theorem wm_X9_123 : Cond.methodLink RX9 123 yX2_isPerson ∈ TB := tb_2 (i := 158) (by decide +kernel) rfl
theorem wm_X9_108 : Cond.methodLink RX9 108 yX3_addLatest ∈ TB := tb_2 (i := 120) (by decide +kernel) rfl
theorem wm_X9_307 : Cond.methodLink RX9 307 yX0_comesFrom ∈ TB := tb_3 (i := 140) (by decide +kernel) rfl
theorem wi_X9_takeIn : Cond.instanceMethod yX9_takeIn ∈ TB := tb_3 (i := 138) (by decide +kernel) rfl
theorem wc_X9_takeIn : Cond.code yX9_takeIn cX9_takeIn 2 none ∈ TB := tb_3 (i := 139) (by decide +kernel) rfl
theorem wm_X9_182 : Cond.methodLink RX9 182 yX9_takeIn ∈ TB := tb_3 (i := 136) (by decide +kernel) rfl
theorem ws_X9_takeIn : Cond.selects RX9 yX9_takeIn yX9_takeIn ∈ TB := tb_p1 (i := 10) (by decide +kernel) rfl
theorem wi_X2_draw : Cond.instanceMethod yX2_draw ∈ TB := tb_3 (i := 220) (by decide +kernel) rfl
theorem wc_X2_draw : Cond.code yX2_draw cX2_draw 1 (some .int) ∈ TB := tb_3 (i := 222) (by decide +kernel) rfl
theorem wm_X9_194 : Cond.methodLink RX9 194 yX2_draw ∈ TB := tb_3 (i := 219) (by decide +kernel) rfl
theorem ws_X2_draw : Cond.selects RX2 yX2_draw yX2_draw ∈ TB := tb_3 (i := 221) (by decide +kernel) rfl
theorem wi_X3_takeAll : Cond.instanceMethod yX3_takeAll ∈ TB := tb_2 (i := 142) (by decide +kernel) rfl
theorem wc_X3_takeAll : Cond.code yX3_takeAll cX3_takeAll 1 none ∈ TB := tb_2 (i := 144) (by decide +kernel) rfl
theorem wm_X9_114 : Cond.methodLink RX9 114 yX3_takeAll ∈ TB := tb_2 (i := 141) (by decide +kernel) rfl
theorem ws_X3_takeAll : Cond.selects RX3 yX3_takeAll yX3_takeAll ∈ TB := tb_2 (i := 143) (by decide +kernel) rfl
theorem wi_X2_addByte : Cond.instanceMethod yX2_addByte ∈ TB := tb_2 (i := 188) (by decide +kernel) rfl
theorem wc_X2_addByte : Cond.code yX2_addByte cX2_addByte 2 none ∈ TB := tb_2 (i := 190) (by decide +kernel) rfl
theorem wm_X9_143 : Cond.methodLink RX9 143 yX2_addByte ∈ TB := tb_2 (i := 187) (by decide +kernel) rfl
theorem ws_X2_addByte : Cond.selects RX2 yX2_addByte yX2_addByte ∈ TB := tb_2 (i := 189) (by decide +kernel) rfl
theorem wm_X1_146 : Cond.methodLink RX1 146 yX2_isSort ∈ TB := tb_4 (i := 58) (by decide +kernel) rfl
theorem wi_X1_getsIn : Cond.instanceMethod yX1_getsIn ∈ TB := tb_4 (i := 46) (by decide +kernel) rfl
theorem wc_X1_getsIn : Cond.code yX1_getsIn cX1_getsIn 4 (some .boolean) ∈ TB := tb_4 (i := 47) (by decide +kernel) rfl
theorem wm_X1_133 : Cond.methodLink RX1 133 yX1_getsIn ∈ TB := tb_4 (i := 44) (by decide +kernel) rfl
theorem ws_X1_getsIn : Cond.selects RX1 yX1_getsIn yX1_getsIn ∈ TB := tb_p2 (i := 2) (by decide +kernel) rfl
theorem wi_X1_hasMore : Cond.instanceMethod yX1_hasMore ∈ TB := tb_4 (i := 62) (by decide +kernel) rfl
theorem wc_X1_hasMore : Cond.code yX1_hasMore cX1_hasMore 2 (some .boolean) ∈ TB := tb_4 (i := 63) (by decide +kernel) rfl
theorem wm_X1_143 : Cond.methodLink RX1 143 yX1_hasMore ∈ TB := tb_4 (i := 60) (by decide +kernel) rfl
theorem ws_X1_hasMore : Cond.selects RX1 yX1_hasMore yX1_hasMore ∈ TB := tb_p2 (i := 5) (by decide +kernel) rfl
theorem wi_X1_paysFromPurse : Cond.instanceMethod yX1_paysFromPurse ∈ TB := tb_4 (i := 56) (by decide +kernel) rfl
theorem wc_X1_paysFromPurse : Cond.code yX1_paysFromPurse cX1_paysFromPurse 6 none ∈ TB := tb_4 (i := 57) (by decide +kernel) rfl
theorem wm_X1_140 : Cond.methodLink RX1 140 yX1_paysFromPurse ∈ TB := tb_4 (i := 54) (by decide +kernel) rfl
theorem ws_X1_paysFromPurse : Cond.selects RX1 yX1_paysFromPurse yX1_paysFromPurse ∈ TB := tb_p2 (i := 4) (by decide +kernel) rfl
theorem wi_X1_fewestGoes : Cond.instanceMethod yX1_fewestGoes ∈ TB := tb_4 (i := 41) (by decide +kernel) rfl
theorem wc_X1_fewestGoes : Cond.code yX1_fewestGoes cX1_fewestGoes 5 (some .int) ∈ TB := tb_4 (i := 43) (by decide +kernel) rfl
theorem wm_X9_211 : Cond.methodLink RX9 211 yX1_fewestGoes ∈ TB := tb_4 (i := 40) (by decide +kernel) rfl
theorem ws_X1_fewestGoes : Cond.selects RX1 yX1_fewestGoes yX1_fewestGoes ∈ TB := tb_4 (i := 42) (by decide +kernel) rfl
theorem wi_X2_setCoins : Cond.instanceMethod yX2_setCoins ∈ TB := tb_2 (i := 177) (by decide +kernel) rfl
theorem wc_X2_setCoins : Cond.code yX2_setCoins cX2_setCoins 4 none ∈ TB := tb_2 (i := 179) (by decide +kernel) rfl
theorem wm_X9_136 : Cond.methodLink RX9 136 yX2_setCoins ∈ TB := tb_2 (i := 176) (by decide +kernel) rfl
theorem ws_X2_setCoins : Cond.selects RX2 yX2_setCoins yX2_setCoins ∈ TB := tb_2 (i := 178) (by decide +kernel) rfl
theorem wm_X9_132 : Cond.methodLink RX9 132 yX2_coinsOf ∈ TB := tb_2 (i := 171) (by decide +kernel) rfl
theorem wm_X2_84 : Cond.methodLink RX2 84 yX2_setCoins ∈ TB := tb_3 (i := 206) (by decide +kernel) rfl
theorem wm_X2_81 : Cond.methodLink RX2 81 yX2_coinsOf ∈ TB := tb_2 (i := 166) (by decide +kernel) rfl
theorem wi_X2_comesToPurse : Cond.instanceMethod yX2_comesToPurse ∈ TB := tb_3 (i := 203) (by decide +kernel) rfl
theorem wc_X2_comesToPurse : Cond.code yX2_comesToPurse cX2_comesToPurse 3 none ∈ TB := tb_3 (i := 205) (by decide +kernel) rfl
theorem wm_X9_187 : Cond.methodLink RX9 187 yX2_comesToPurse ∈ TB := tb_3 (i := 202) (by decide +kernel) rfl
theorem ws_X2_comesToPurse : Cond.selects RX2 yX2_comesToPurse yX2_comesToPurse ∈ TB := tb_3 (i := 204) (by decide +kernel) rfl
theorem wi_X7_copyFrom : Cond.instanceMethod yX7_copyFrom ∈ TB := tb_3 (i := 113) (by decide +kernel) rfl
theorem wc_X7_copyFrom : Cond.code yX7_copyFrom cX7_copyFrom 2 none ∈ TB := tb_3 (i := 115) (by decide +kernel) rfl
theorem wm_X2_105 : Cond.methodLink RX2 105 yX7_copyFrom ∈ TB := tb_5 (i := 46) (by decide +kernel) rfl
theorem ws_X7_copyFrom : Cond.selects RX7 yX7_copyFrom yX7_copyFrom ∈ TB := tb_3 (i := 114) (by decide +kernel) rfl
theorem wm_X2_101 : Cond.methodLink RX2 101 yX3_copyFrom ∈ TB := tb_5 (i := 45) (by decide +kernel) rfl
theorem wi_X2_copyFrom : Cond.instanceMethod yX2_copyFrom ∈ TB := tb_5 (i := 41) (by decide +kernel) rfl
theorem wc_X2_copyFrom : Cond.code yX2_copyFrom cX2_copyFrom 2 none ∈ TB := tb_5 (i := 43) (by decide +kernel) rfl
theorem wm_X9_292 : Cond.methodLink RX9 292 yX2_copyFrom ∈ TB := tb_5 (i := 40) (by decide +kernel) rfl
theorem ws_X2_copyFrom : Cond.selects RX2 yX2_copyFrom yX2_copyFrom ∈ TB := tb_5 (i := 42) (by decide +kernel) rfl
theorem wi_X3_init : Cond.instanceMethod yX3_init ∈ TB := tb_1 (i := 37) (by decide +kernel) rfl
theorem wc_X3_init : Cond.code yX3_init cX3_init 1 none ∈ TB := tb_1 (i := 38) (by decide +kernel) rfl
theorem wi_X7_init : Cond.instanceMethod yX7_init ∈ TB := tb_1 (i := 54) (by decide +kernel) rfl
theorem wc_X7_init : Cond.code yX7_init cX7_init 1 none ∈ TB := tb_1 (i := 55) (by decide +kernel) rfl
theorem wi_X6_init : Cond.instanceMethod yX6_init ∈ TB := tb_2 (i := 30) (by decide +kernel) rfl
theorem wc_X6_init : Cond.code yX6_init cX6_init 1 none ∈ TB := tb_2 (i := 31) (by decide +kernel) rfl
theorem wi_X8_init : Cond.instanceMethod yX8_init ∈ TB := tb_2 (i := 7) (by decide +kernel) rfl
theorem wc_X8_init : Cond.code yX8_init cX8_init 1 none ∈ TB := tb_2 (i := 8) (by decide +kernel) rfl
theorem wi_X5_init : Cond.instanceMethod yX5_init ∈ TB := tb_1 (i := 224) (by decide +kernel) rfl
theorem wc_X5_init : Cond.code yX5_init cX5_init 2 none ∈ TB := tb_1 (i := 225) (by decide +kernel) rfl
theorem wm_X9_39 : Cond.methodLink RX9 39 yX5_init ∈ TB := tb_1 (i := 223) (by decide +kernel) rfl
theorem wi_X1_init : Cond.instanceMethod yX1_init ∈ TB := tb_1 (i := 170) (by decide +kernel) rfl
theorem wc_X1_init : Cond.code yX1_init cX1_init 3 none ∈ TB := tb_1 (i := 171) (by decide +kernel) rfl
theorem wm_X9_30 : Cond.methodLink RX9 30 yX1_init ∈ TB := tb_1 (i := 169) (by decide +kernel) rfl
theorem wi_X0_init : Cond.instanceMethod yX0_init ∈ TB := tb_1 (i := 142) (by decide +kernel) rfl
theorem wc_X0_init : Cond.code yX0_init cX0_init 2 none ∈ TB := tb_1 (i := 143) (by decide +kernel) rfl
theorem wm_X9_21 : Cond.methodLink RX9 21 yX0_init ∈ TB := tb_1 (i := 141) (by decide +kernel) rfl
theorem wi_X2_init : Cond.instanceMethod yX2_init ∈ TB := tb_1 (i := 31) (by decide +kernel) rfl
theorem wc_X2_init : Cond.code yX2_init cX2_init 1 none ∈ TB := tb_1 (i := 32) (by decide +kernel) rfl
theorem wm_X9_291 : Cond.methodLink RX9 291 yX6_at ∈ TB := tb_5 (i := 35) (by decide +kernel) rfl
theorem wm_X9_257 : Cond.methodLink RX9 257 yX6_size ∈ TB := tb_4 (i := 169) (by decide +kernel) rfl
theorem wi_X6_hasPart : Cond.instanceMethod yX6_hasPart ∈ TB := tb_5 (i := 22) (by decide +kernel) rfl
theorem wc_X6_hasPart : Cond.code yX6_hasPart cX6_hasPart 3 (some .boolean) ∈ TB := tb_5 (i := 24) (by decide +kernel) rfl
theorem wm_X6_35 : Cond.methodLink RX6 35 yX6_hasPart ∈ TB := tb_5 (i := 29) (by decide +kernel) rfl
theorem ws_X6_hasPart : Cond.selects RX6 yX6_hasPart yX6_hasPart ∈ TB := tb_5 (i := 23) (by decide +kernel) rfl
theorem wi_X6_writePart : Cond.instanceMethod yX6_writePart ∈ TB := tb_5 (i := 26) (by decide +kernel) rfl
theorem wc_X6_writePart : Cond.code yX6_writePart cX6_writePart 5 none ∈ TB := tb_5 (i := 28) (by decide +kernel) rfl
theorem wm_X9_287 : Cond.methodLink RX9 287 yX6_writePart ∈ TB := tb_5 (i := 25) (by decide +kernel) rfl
theorem ws_X6_writePart : Cond.selects RX6 yX6_writePart yX6_writePart ∈ TB := tb_5 (i := 27) (by decide +kernel) rfl
theorem wm_X9_284 : Cond.methodLink RX9 284 yX6_hasPart ∈ TB := tb_5 (i := 21) (by decide +kernel) rfl
theorem wi_X6_isAlike : Cond.instanceMethod yX6_isAlike ∈ TB := tb_5 (i := 18) (by decide +kernel) rfl
theorem wc_X6_isAlike : Cond.code yX6_isAlike cX6_isAlike 2 (some .boolean) ∈ TB := tb_5 (i := 20) (by decide +kernel) rfl
theorem wm_X9_280 : Cond.methodLink RX9 280 yX6_isAlike ∈ TB := tb_5 (i := 17) (by decide +kernel) rfl
theorem ws_X6_isAlike : Cond.selects RX6 yX6_isAlike yX6_isAlike ∈ TB := tb_5 (i := 19) (by decide +kernel) rfl
theorem wi_X1_isChange : Cond.instanceMethod yX1_isChange ∈ TB := tb_4 (i := 163) (by decide +kernel) rfl
theorem wc_X1_isChange : Cond.code yX1_isChange cX1_isChange 3 (some .boolean) ∈ TB := tb_4 (i := 164) (by decide +kernel) rfl
theorem wm_X1_186 : Cond.methodLink RX1 186 yX1_isChange ∈ TB := tb_4 (i := 161) (by decide +kernel) rfl
theorem ws_X1_isChange : Cond.selects RX1 yX1_isChange yX1_isChange ∈ TB := tb_p2 (i := 10) (by decide +kernel) rfl
theorem wi_X1_kindsGiving : Cond.instanceMethod yX1_kindsGiving ∈ TB := tb_4 (i := 158) (by decide +kernel) rfl
theorem wc_X1_kindsGiving : Cond.code yX1_kindsGiving cX1_kindsGiving 5 (some .int) ∈ TB := tb_4 (i := 160) (by decide +kernel) rfl
theorem wm_X9_253 : Cond.methodLink RX9 253 yX1_kindsGiving ∈ TB := tb_4 (i := 157) (by decide +kernel) rfl
theorem ws_X1_kindsGiving : Cond.selects RX1 yX1_kindsGiving yX1_kindsGiving ∈ TB := tb_4 (i := 159) (by decide +kernel) rfl
theorem wi_X1_standNext : Cond.instanceMethod yX1_standNext ∈ TB := tb_4 (i := 98) (by decide +kernel) rfl
theorem wc_X1_standNext : Cond.code yX1_standNext cX1_standNext 6 none ∈ TB := tb_4 (i := 99) (by decide +kernel) rfl
theorem wm_X1_165 : Cond.methodLink RX1 165 yX1_standNext ∈ TB := tb_4 (i := 96) (by decide +kernel) rfl
theorem ws_X1_standNext : Cond.selects RX1 yX1_standNext yX1_standNext ∈ TB := tb_p2 (i := 7) (by decide +kernel) rfl
theorem wi_X1_ordered : Cond.instanceMethod yX1_ordered ∈ TB := tb_4 (i := 105) (by decide +kernel) rfl
theorem wc_X1_ordered : Cond.code yX1_ordered cX1_ordered 2 (some .int) ∈ TB := tb_4 (i := 107) (by decide +kernel) rfl
theorem wm_X9_235 : Cond.methodLink RX9 235 yX1_ordered ∈ TB := tb_4 (i := 104) (by decide +kernel) rfl
theorem ws_X1_ordered : Cond.selects RX1 yX1_ordered yX1_ordered ∈ TB := tb_4 (i := 106) (by decide +kernel) rfl
theorem wi_X1_mostRight : Cond.instanceMethod yX1_mostRight ∈ TB := tb_4 (i := 101) (by decide +kernel) rfl
theorem wc_X1_mostRight : Cond.code yX1_mostRight cX1_mostRight 1 (some .int) ∈ TB := tb_4 (i := 103) (by decide +kernel) rfl
theorem wm_X9_232 : Cond.methodLink RX9 232 yX1_mostRight ∈ TB := tb_4 (i := 100) (by decide +kernel) rfl
theorem ws_X1_mostRight : Cond.selects RX1 yX1_mostRight yX1_mostRight ∈ TB := tb_4 (i := 102) (by decide +kernel) rfl
theorem wi_X1_putInOrder : Cond.instanceMethod yX1_putInOrder ∈ TB := tb_4 (i := 93) (by decide +kernel) rfl
theorem wc_X1_putInOrder : Cond.code yX1_putInOrder cX1_putInOrder 1 none ∈ TB := tb_4 (i := 95) (by decide +kernel) rfl
theorem wm_X9_229 : Cond.methodLink RX9 229 yX1_putInOrder ∈ TB := tb_4 (i := 92) (by decide +kernel) rfl
theorem ws_X1_putInOrder : Cond.selects RX1 yX1_putInOrder yX1_putInOrder ∈ TB := tb_4 (i := 94) (by decide +kernel) rfl
theorem wi_X1_queueLength : Cond.instanceMethod yX1_queueLength ∈ TB := tb_4 (i := 89) (by decide +kernel) rfl
theorem wc_X1_queueLength : Cond.code yX1_queueLength cX1_queueLength 1 (some .int) ∈ TB := tb_4 (i := 91) (by decide +kernel) rfl
theorem wm_X9_226 : Cond.methodLink RX9 226 yX1_queueLength ∈ TB := tb_4 (i := 88) (by decide +kernel) rfl
theorem ws_X1_queueLength : Cond.selects RX1 yX1_queueLength yX1_queueLength ∈ TB := tb_4 (i := 90) (by decide +kernel) rfl
theorem wi_X2_purseWorth : Cond.instanceMethod yX2_purseWorth ∈ TB := tb_2 (i := 163) (by decide +kernel) rfl
theorem wc_X2_purseWorth : Cond.code yX2_purseWorth cX2_purseWorth 4 (some .int) ∈ TB := tb_2 (i := 165) (by decide +kernel) rfl
theorem wm_X9_129 : Cond.methodLink RX9 129 yX2_purseWorth ∈ TB := tb_2 (i := 162) (by decide +kernel) rfl
theorem ws_X2_purseWorth : Cond.selects RX2 yX2_purseWorth yX2_purseWorth ∈ TB := tb_2 (i := 164) (by decide +kernel) rfl
theorem wi_X6_write : Cond.instanceMethod yX6_write ∈ TB := tb_5 (i := 10) (by decide +kernel) rfl
theorem wc_X6_write : Cond.code yX6_write cX6_write 3 none ∈ TB := tb_5 (i := 12) (by decide +kernel) rfl
theorem wm_X9_277 : Cond.methodLink RX9 277 yX6_write ∈ TB := tb_5 (i := 9) (by decide +kernel) rfl
theorem ws_X6_write : Cond.selects RX6 yX6_write yX6_write ∈ TB := tb_5 (i := 11) (by decide +kernel) rfl
theorem wst_J7_fill_53178 : Cond.static yJ7_fill_53178 ∈ TB := tb_5 (i := 3) (by decide +kernel) rfl
theorem wn_J7 : Cond.initialized RJ7 ∈ TB := tb_1 (i := 19) (by decide +kernel) rfl
theorem wc_J7_fill_53178 : Cond.code yJ7_fill_53178 cJ7_fill_53178 4 none ∈ TB := tb_5 (i := 4) (by decide +kernel) rfl
theorem wm_X6_29 : Cond.methodLink RX6 29 yJ7_fill_53178 ∈ TB := tb_5 (i := 2) (by decide +kernel) rfl
theorem wi_X6_renew : Cond.instanceMethod yX6_renew ∈ TB := tb_4 (i := 237) (by decide +kernel) rfl
theorem wc_X6_renew : Cond.code yX6_renew cX6_renew 3 none ∈ TB := tb_4 (i := 239) (by decide +kernel) rfl
theorem wm_X9_274 : Cond.methodLink RX9 274 yX6_renew ∈ TB := tb_4 (i := 236) (by decide +kernel) rfl
theorem ws_X6_renew : Cond.selects RX6 yX6_renew yX6_renew ∈ TB := tb_4 (i := 238) (by decide +kernel) rfl
theorem wi_X1_fittingFrom : Cond.instanceMethod yX1_fittingFrom ∈ TB := tb_4 (i := 176) (by decide +kernel) rfl
theorem wc_X1_fittingFrom : Cond.code yX1_fittingFrom cX1_fittingFrom 6 (some .int) ∈ TB := tb_4 (i := 177) (by decide +kernel) rfl
theorem wm_X1_193 : Cond.methodLink RX1 193 yX1_fittingFrom ∈ TB := tb_4 (i := 174) (by decide +kernel) rfl
theorem ws_X1_fittingFrom : Cond.selects RX1 yX1_fittingFrom yX1_fittingFrom ∈ TB := tb_p2 (i := 11) (by decide +kernel) rfl
theorem wi_X1_firstFitting : Cond.instanceMethod yX1_firstFitting ∈ TB := tb_4 (i := 179) (by decide +kernel) rfl
theorem wc_X1_firstFitting : Cond.code yX1_firstFitting cX1_firstFitting 1 (some .int) ∈ TB := tb_4 (i := 181) (by decide +kernel) rfl
theorem wm_X9_262 : Cond.methodLink RX9 262 yX1_firstFitting ∈ TB := tb_4 (i := 178) (by decide +kernel) rfl
theorem ws_X1_firstFitting : Cond.selects RX1 yX1_firstFitting yX1_firstFitting ∈ TB := tb_4 (i := 180) (by decide +kernel) rfl
theorem wi_X1_rowsFitting : Cond.instanceMethod yX1_rowsFitting ∈ TB := tb_4 (i := 171) (by decide +kernel) rfl
theorem wc_X1_rowsFitting : Cond.code yX1_rowsFitting cX1_rowsFitting 2 (some .int) ∈ TB := tb_4 (i := 173) (by decide +kernel) rfl
theorem wm_X9_258 : Cond.methodLink RX9 258 yX1_rowsFitting ∈ TB := tb_4 (i := 170) (by decide +kernel) rfl
theorem ws_X1_rowsFitting : Cond.selects RX1 yX1_rowsFitting yX1_rowsFitting ∈ TB := tb_4 (i := 172) (by decide +kernel) rfl
theorem wi_X2_addWaiting : Cond.instanceMethod yX2_addWaiting ∈ TB := tb_5 (i := 56) (by decide +kernel) rfl
theorem wc_X2_addWaiting : Cond.code yX2_addWaiting cX2_addWaiting 2 (some .boolean) ∈ TB := tb_5 (i := 58) (by decide +kernel) rfl
theorem wm_X9_294 : Cond.methodLink RX9 294 yX2_addWaiting ∈ TB := tb_5 (i := 55) (by decide +kernel) rfl
theorem ws_X2_addWaiting : Cond.selects RX2 yX2_addWaiting yX2_addWaiting ∈ TB := tb_5 (i := 57) (by decide +kernel) rfl
theorem wi_X2_byteAt : Cond.instanceMethod yX2_byteAt ∈ TB := tb_2 (i := 214) (by decide +kernel) rfl
theorem wc_X2_byteAt : Cond.code yX2_byteAt cX2_byteAt 2 (some .int) ∈ TB := tb_2 (i := 216) (by decide +kernel) rfl
theorem wm_X5_49 : Cond.methodLink RX5 49 yX2_byteAt ∈ TB := tb_2 (i := 213) (by decide +kernel) rfl
theorem ws_X2_byteAt : Cond.selects RX2 yX2_byteAt yX2_byteAt ∈ TB := tb_2 (i := 215) (by decide +kernel) rfl
theorem wi_X7_addCode : Cond.instanceMethod yX7_addCode ∈ TB := tb_2 (i := 230) (by decide +kernel) rfl
theorem wc_X7_addCode : Cond.code yX7_addCode cX7_addCode 2 none ∈ TB := tb_2 (i := 231) (by decide +kernel) rfl
theorem wm_X7_28 : Cond.methodLink RX7 28 yX7_addCode ∈ TB := tb_2 (i := 228) (by decide +kernel) rfl
theorem ws_X7_addCode : Cond.selects RX7 yX7_addCode yX7_addCode ∈ TB := tb_p1 (i := 4) (by decide +kernel) rfl
theorem wi_X7_addName : Cond.instanceMethod yX7_addName ∈ TB := tb_3 (i := 81) (by decide +kernel) rfl
theorem wc_X7_addName : Cond.code yX7_addName cX7_addName 2 none ∈ TB := tb_3 (i := 83) (by decide +kernel) rfl
theorem wm_X5_81 : Cond.methodLink RX5 81 yX7_addName ∈ TB := tb_3 (i := 80) (by decide +kernel) rfl
theorem ws_X7_addName : Cond.selects RX7 yX7_addName yX7_addName ∈ TB := tb_3 (i := 82) (by decide +kernel) rfl
theorem wi_J0_indexOf_0f7a4 : Cond.instanceMethod yJ0_indexOf_0f7a4 ∈ TB := tb_2 (i := 237) (by decide +kernel) rfl
theorem wc_J0_indexOf_0f7a4 : Cond.code yJ0_indexOf_0f7a4 cJ0_indexOf_0f7a4 2 (some .int) ∈ TB := tb_2 (i := 239) (by decide +kernel) rfl
theorem wm_X5_76 : Cond.methodLink RX5 76 yJ0_indexOf_0f7a4 ∈ TB := tb_2 (i := 236) (by decide +kernel) rfl
theorem ws_J0_indexOf_0f7a4 : Cond.selects RJ0 yJ0_indexOf_0f7a4 yJ0_indexOf_0f7a4 ∈ TB := tb_2 (i := 238) (by decide +kernel) rfl
theorem wi_X7_addNumber : Cond.instanceMethod yX7_addNumber ∈ TB := tb_2 (i := 225) (by decide +kernel) rfl
theorem wc_X7_addNumber : Cond.code yX7_addNumber cX7_addNumber 2 none ∈ TB := tb_2 (i := 227) (by decide +kernel) rfl
theorem wm_X5_73 : Cond.methodLink RX5 73 yX7_addNumber ∈ TB := tb_2 (i := 224) (by decide +kernel) rfl
theorem ws_X7_addNumber : Cond.selects RX7 yX7_addNumber yX7_addNumber ∈ TB := tb_2 (i := 226) (by decide +kernel) rfl
theorem wst_X5_isDigit : Cond.static yX5_isDigit ∈ TB := tb_2 (i := 218) (by decide +kernel) rfl
theorem wc_X5_isDigit : Cond.code yX5_isDigit cX5_isDigit 1 (some .boolean) ∈ TB := tb_2 (i := 219) (by decide +kernel) rfl
theorem wm_X5_57 : Cond.methodLink RX5 57 yX5_isDigit ∈ TB := tb_2 (i := 217) (by decide +kernel) rfl
theorem wi_X7_addSign : Cond.instanceMethod yX7_addSign ∈ TB := tb_3 (i := 89) (by decide +kernel) rfl
theorem wc_X7_addSign : Cond.code yX7_addSign cX7_addSign 2 none ∈ TB := tb_3 (i := 91) (by decide +kernel) rfl
theorem wm_X5_53 : Cond.methodLink RX5 53 yX7_addSign ∈ TB := tb_3 (i := 88) (by decide +kernel) rfl
theorem ws_X7_addSign : Cond.selects RX7 yX7_addSign yX7_addSign ∈ TB := tb_3 (i := 90) (by decide +kernel) rfl
theorem wi_X5_readLevel : Cond.instanceMethod yX5_readLevel ∈ TB := tb_2 (i := 207) (by decide +kernel) rfl
theorem wc_X5_readLevel : Cond.code yX5_readLevel cX5_readLevel 6 (some .boolean) ∈ TB := tb_2 (i := 208) (by decide +kernel) rfl
theorem wm_X5_33 : Cond.methodLink RX5 33 yX5_readLevel ∈ TB := tb_2 (i := 205) (by decide +kernel) rfl
theorem ws_X5_readLevel : Cond.selects RX5 yX5_readLevel yX5_readLevel ∈ TB := tb_p1 (i := 1) (by decide +kernel) rfl
theorem wi_X5_isSignOf : Cond.instanceMethod yX5_isSignOf ∈ TB := tb_3 (i := 98) (by decide +kernel) rfl
theorem wc_X5_isSignOf : Cond.code yX5_isSignOf cX5_isSignOf 3 (some .boolean) ∈ TB := tb_3 (i := 99) (by decide +kernel) rfl
theorem wm_X5_46 : Cond.methodLink RX5 46 yX5_isSignOf ∈ TB := tb_3 (i := 96) (by decide +kernel) rfl
theorem ws_X5_isSignOf : Cond.selects RX5 yX5_isSignOf yX5_isSignOf ∈ TB := tb_p1 (i := 8) (by decide +kernel) rfl
theorem wi_X5_readUnit : Cond.instanceMethod yX5_readUnit ∈ TB := tb_2 (i := 211) (by decide +kernel) rfl
theorem wc_X5_readUnit : Cond.code yX5_readUnit cX5_readUnit 3 (some .boolean) ∈ TB := tb_2 (i := 212) (by decide +kernel) rfl
theorem wm_X5_42 : Cond.methodLink RX5 42 yX5_readUnit ∈ TB := tb_2 (i := 209) (by decide +kernel) rfl
theorem ws_X5_readUnit : Cond.selects RX5 yX5_readUnit yX5_readUnit ∈ TB := tb_p1 (i := 2) (by decide +kernel) rfl
theorem wi_X5_readInside : Cond.instanceMethod yX5_readInside ∈ TB := tb_3 (i := 94) (by decide +kernel) rfl
theorem wc_X5_readInside : Cond.code yX5_readInside cX5_readInside 2 (some .boolean) ∈ TB := tb_3 (i := 95) (by decide +kernel) rfl
theorem wm_X5_70 : Cond.methodLink RX5 70 yX5_readInside ∈ TB := tb_3 (i := 92) (by decide +kernel) rfl
theorem ws_X5_readInside : Cond.selects RX5 yX5_readInside yX5_readInside ∈ TB := tb_p1 (i := 7) (by decide +kernel) rfl
theorem wi_X5_readNot : Cond.instanceMethod yX5_readNot ∈ TB := tb_3 (i := 86) (by decide +kernel) rfl
theorem wc_X5_readNot : Cond.code yX5_readNot cX5_readNot 2 (some .boolean) ∈ TB := tb_3 (i := 87) (by decide +kernel) rfl
theorem wm_X5_67 : Cond.methodLink RX5 67 yX5_readNot ∈ TB := tb_3 (i := 84) (by decide +kernel) rfl
theorem ws_X5_readNot : Cond.selects RX5 yX5_readNot yX5_readNot ∈ TB := tb_p1 (i := 6) (by decide +kernel) rfl
theorem wi_X5_readName : Cond.instanceMethod yX5_readName ∈ TB := tb_2 (i := 234) (by decide +kernel) rfl
theorem wc_X5_readName : Cond.code yX5_readName cX5_readName 3 (some .boolean) ∈ TB := tb_2 (i := 235) (by decide +kernel) rfl
theorem wm_X5_64 : Cond.methodLink RX5 64 yX5_readName ∈ TB := tb_2 (i := 232) (by decide +kernel) rfl
theorem ws_X5_readName : Cond.selects RX5 yX5_readName yX5_readName ∈ TB := tb_p1 (i := 5) (by decide +kernel) rfl
theorem wi_X5_readNumber : Cond.instanceMethod yX5_readNumber ∈ TB := tb_2 (i := 222) (by decide +kernel) rfl
theorem wc_X5_readNumber : Cond.code yX5_readNumber cX5_readNumber 3 (some .boolean) ∈ TB := tb_2 (i := 223) (by decide +kernel) rfl
theorem wm_X5_60 : Cond.methodLink RX5 60 yX5_readNumber ∈ TB := tb_2 (i := 220) (by decide +kernel) rfl
theorem ws_X5_readNumber : Cond.selects RX5 yX5_readNumber yX5_readNumber ∈ TB := tb_p1 (i := 3) (by decide +kernel) rfl
theorem wi_X7_clear : Cond.instanceMethod yX7_clear ∈ TB := tb_2 (i := 202) (by decide +kernel) rfl
theorem wc_X7_clear : Cond.code yX7_clear cX7_clear 1 none ∈ TB := tb_2 (i := 204) (by decide +kernel) rfl
theorem wm_X5_30 : Cond.methodLink RX5 30 yX7_clear ∈ TB := tb_2 (i := 201) (by decide +kernel) rfl
theorem ws_X7_clear : Cond.selects RX7 yX7_clear yX7_clear ∈ TB := tb_2 (i := 203) (by decide +kernel) rfl
theorem wm_X9_166 : Cond.methodLink RX9 166 yX7_copyFrom ∈ TB := tb_3 (i := 112) (by decide +kernel) rfl
theorem wi_X5_made : Cond.instanceMethod yX5_made ∈ TB := tb_3 (i := 109) (by decide +kernel) rfl
theorem wc_X5_made : Cond.code yX5_made cX5_made 1 (some (.object "LastInBox$Text")) ∈ TB := tb_3 (i := 111) (by decide +kernel) rfl
theorem wm_X9_162 : Cond.methodLink RX9 162 yX5_made ∈ TB := tb_3 (i := 108) (by decide +kernel) rfl
theorem ws_X5_made : Cond.selects RX5 yX5_made yX5_made ∈ TB := tb_3 (i := 110) (by decide +kernel) rfl
theorem wi_X9_textOf : Cond.instanceMethod yX9_textOf ∈ TB := tb_3 (i := 106) (by decide +kernel) rfl
theorem wc_X9_textOf : Cond.code yX9_textOf cX9_textOf 2 (some (.object "LastInBox$Text")) ∈ TB := tb_3 (i := 107) (by decide +kernel) rfl
theorem wm_X9_158 : Cond.methodLink RX9 158 yX9_textOf ∈ TB := tb_3 (i := 104) (by decide +kernel) rfl
theorem ws_X9_textOf : Cond.selects RX9 yX9_textOf yX9_textOf ∈ TB := tb_p1 (i := 9) (by decide +kernel) rfl
theorem wi_X5_place : Cond.instanceMethod yX5_place ∈ TB := tb_3 (i := 101) (by decide +kernel) rfl
theorem wc_X5_place : Cond.code yX5_place cX5_place 1 (some .int) ∈ TB := tb_3 (i := 103) (by decide +kernel) rfl
theorem wm_X9_155 : Cond.methodLink RX9 155 yX5_place ∈ TB := tb_3 (i := 100) (by decide +kernel) rfl
theorem ws_X5_place : Cond.selects RX5 yX5_place yX5_place ∈ TB := tb_3 (i := 102) (by decide +kernel) rfl
theorem wi_X5_reads : Cond.instanceMethod yX5_reads ∈ TB := tb_2 (i := 198) (by decide +kernel) rfl
theorem wc_X5_reads : Cond.code yX5_reads cX5_reads 2 (some .boolean) ∈ TB := tb_2 (i := 200) (by decide +kernel) rfl
theorem wm_X9_151 : Cond.methodLink RX9 151 yX5_reads ∈ TB := tb_2 (i := 197) (by decide +kernel) rfl
theorem ws_X5_reads : Cond.selects RX5 yX5_reads yX5_reads ∈ TB := tb_2 (i := 199) (by decide +kernel) rfl
theorem wm_X9_176 : Cond.methodLink RX9 176 yX7_clear ∈ TB := tb_3 (i := 127) (by decide +kernel) rfl
theorem wm_X9_172 : Cond.methodLink RX9 172 yX7_isThere ∈ TB := tb_3 (i := 123) (by decide +kernel) rfl
theorem wi_X8_work : Cond.instanceMethod yX8_work ∈ TB := tb_4 (i := 201) (by decide +kernel) rfl
theorem wc_X8_work : Cond.code yX8_work cX8_work 4 (some .int) ∈ TB := tb_4 (i := 202) (by decide +kernel) rfl
theorem wm_X8_41 : Cond.methodLink RX8 41 yX8_work ∈ TB := tb_4 (i := 199) (by decide +kernel) rfl
theorem ws_X8_work : Cond.selects RX8 yX8_work yX8_work ∈ TB := tb_p2 (i := 13) (by decide +kernel) rfl
theorem wst_X4_bodyFor : Cond.static yX4_bodyFor ∈ TB := tb_4 (i := 195) (by decide +kernel) rfl
theorem wc_X4_bodyFor : Cond.code yX4_bodyFor cX4_bodyFor 4 (some .int) ∈ TB := tb_4 (i := 196) (by decide +kernel) rfl
theorem wm_X8_35 : Cond.methodLink RX8 35 yX4_bodyFor ∈ TB := tb_4 (i := 194) (by decide +kernel) rfl
theorem wm_X8_44 : Cond.methodLink RX8 44 yX4_above ∈ TB := tb_4 (i := 211) (by decide +kernel) rfl
theorem wi_X8_above : Cond.instanceMethod yX8_above ∈ TB := tb_4 (i := 209) (by decide +kernel) rfl
theorem wc_X8_above : Cond.code yX8_above cX8_above 5 (some .int) ∈ TB := tb_4 (i := 210) (by decide +kernel) rfl
theorem wm_X8_51 : Cond.methodLink RX8 51 yX8_above ∈ TB := tb_4 (i := 207) (by decide +kernel) rfl
theorem ws_X8_above : Cond.selects RX8 yX8_above yX8_above ∈ TB := tb_p2 (i := 15) (by decide +kernel) rfl
theorem wi_X8_partsAndGives : Cond.instanceMethod yX8_partsAndGives ∈ TB := tb_4 (i := 214) (by decide +kernel) rfl
theorem wc_X8_partsAndGives : Cond.code yX8_partsAndGives cX8_partsAndGives 4 (some .int) ∈ TB := tb_4 (i := 215) (by decide +kernel) rfl
theorem wm_X8_54 : Cond.methodLink RX8 54 yX8_partsAndGives ∈ TB := tb_4 (i := 212) (by decide +kernel) rfl
theorem ws_X8_partsAndGives : Cond.selects RX8 yX8_partsAndGives yX8_partsAndGives ∈ TB := tb_p3 (i := 0) (by decide +kernel) rfl
theorem wi_X8_parts : Cond.instanceMethod yX8_parts ∈ TB := tb_4 (i := 205) (by decide +kernel) rfl
theorem wc_X8_parts : Cond.code yX8_parts cX8_parts 2 (some .int) ∈ TB := tb_4 (i := 206) (by decide +kernel) rfl
theorem wm_X8_48 : Cond.methodLink RX8 48 yX8_parts ∈ TB := tb_4 (i := 203) (by decide +kernel) rfl
theorem ws_X8_parts : Cond.selects RX8 yX8_parts yX8_parts ∈ TB := tb_p2 (i := 14) (by decide +kernel) rfl
theorem wi_X8_own : Cond.instanceMethod yX8_own ∈ TB := tb_4 (i := 192) (by decide +kernel) rfl
theorem wc_X8_own : Cond.code yX8_own cX8_own 4 (some .int) ∈ TB := tb_4 (i := 193) (by decide +kernel) rfl
theorem wm_X8_31 : Cond.methodLink RX8 31 yX8_own ∈ TB := tb_4 (i := 190) (by decide +kernel) rfl
theorem ws_X8_own : Cond.selects RX8 yX8_own yX8_own ∈ TB := tb_p2 (i := 12) (by decide +kernel) rfl
theorem wi_X8_isParted : Cond.instanceMethod yX8_isParted ∈ TB := tb_4 (i := 217) (by decide +kernel) rfl
theorem wc_X8_isParted : Cond.code yX8_isParted cX8_isParted 1 (some .boolean) ∈ TB := tb_4 (i := 219) (by decide +kernel) rfl
theorem wm_X9_269 : Cond.methodLink RX9 269 yX8_isParted ∈ TB := tb_4 (i := 216) (by decide +kernel) rfl
theorem ws_X8_isParted : Cond.selects RX8 yX8_isParted yX8_isParted ∈ TB := tb_4 (i := 218) (by decide +kernel) rfl
theorem wi_X8_say : Cond.instanceMethod yX8_say ∈ TB := tb_4 (i := 187) (by decide +kernel) rfl
theorem wc_X8_say : Cond.code yX8_say cX8_say 4 (some .int) ∈ TB := tb_4 (i := 189) (by decide +kernel) rfl
theorem wm_X9_265 : Cond.methodLink RX9 265 yX8_say ∈ TB := tb_4 (i := 186) (by decide +kernel) rfl
theorem ws_X8_say : Cond.selects RX8 yX8_say yX8_say ∈ TB := tb_4 (i := 188) (by decide +kernel) rfl
theorem wi_X1_rowsOf : Cond.instanceMethod yX1_rowsOf ∈ TB := tb_4 (i := 125) (by decide +kernel) rfl
theorem wc_X1_rowsOf : Cond.code yX1_rowsOf cX1_rowsOf 5 (some .int) ∈ TB := tb_4 (i := 127) (by decide +kernel) rfl
theorem wm_X1_175 : Cond.methodLink RX1 175 yX1_rowsOf ∈ TB := tb_4 (i := 136) (by decide +kernel) rfl
theorem ws_X1_rowsOf : Cond.selects RX1 yX1_rowsOf yX1_rowsOf ∈ TB := tb_4 (i := 126) (by decide +kernel) rfl
theorem wi_X1_wrongFrom : Cond.instanceMethod yX1_wrongFrom ∈ TB := tb_4 (i := 134) (by decide +kernel) rfl
theorem wc_X1_wrongFrom : Cond.code yX1_wrongFrom cX1_wrongFrom 5 (some .int) ∈ TB := tb_4 (i := 135) (by decide +kernel) rfl
theorem wm_X1_172 : Cond.methodLink RX1 172 yX1_wrongFrom ∈ TB := tb_4 (i := 132) (by decide +kernel) rfl
theorem ws_X1_wrongFrom : Cond.selects RX1 yX1_wrongFrom yX1_wrongFrom ∈ TB := tb_p2 (i := 9) (by decide +kernel) rfl
theorem wst_X9_commonDivisor : Cond.static yX9_commonDivisor ∈ TB := tb_4 (i := 138) (by decide +kernel) rfl
theorem wc_X9_commonDivisor : Cond.code yX9_commonDivisor cX9_commonDivisor 6 (some .int) ∈ TB := tb_4 (i := 139) (by decide +kernel) rfl
theorem wm_X9_247 : Cond.methodLink RX9 247 yX9_commonDivisor ∈ TB := tb_4 (i := 137) (by decide +kernel) rfl
theorem wi_X1_wrongRows : Cond.instanceMethod yX1_wrongRows ∈ TB := tb_4 (i := 129) (by decide +kernel) rfl
theorem wc_X1_wrongRows : Cond.code yX1_wrongRows cX1_wrongRows 2 (some .int) ∈ TB := tb_4 (i := 131) (by decide +kernel) rfl
theorem wm_X9_244 : Cond.methodLink RX9 244 yX1_wrongRows ∈ TB := tb_4 (i := 128) (by decide +kernel) rfl
theorem ws_X1_wrongRows : Cond.selects RX1 yX1_wrongRows yX1_wrongRows ∈ TB := tb_4 (i := 130) (by decide +kernel) rfl
theorem wm_X9_241 : Cond.methodLink RX9 241 yX1_rowsOf ∈ TB := tb_4 (i := 124) (by decide +kernel) rfl
theorem wi_X10_told : Cond.instanceMethod yX10_told ∈ TB := tb_7 (i := 60) (by decide +kernel) rfl
theorem wc_X10_told : Cond.code yX10_told cX10_told 2 (some .int) ∈ TB := tb_7 (i := 62) (by decide +kernel) rfl
theorem wm_L_173 : Cond.methodLink RL 173 yX10_told ∈ TB := tb_7 (i := 59) (by decide +kernel) rfl
theorem ws_X10_told : Cond.selects RX10 yX10_told yX10_told ∈ TB := tb_7 (i := 61) (by decide +kernel) rfl
theorem wi_X9_told : Cond.instanceMethod yX9_told ∈ TB := tb_5 (i := 72) (by decide +kernel) rfl
theorem wc_X9_told : Cond.code yX9_told cX9_told 2 (some .int) ∈ TB := tb_5 (i := 74) (by decide +kernel) rfl
theorem wm_L_170 : Cond.methodLink RL 170 yX9_told ∈ TB := tb_5 (i := 71) (by decide +kernel) rfl
theorem ws_X9_told : Cond.selects RX9 yX9_told yX9_told ∈ TB := tb_5 (i := 73) (by decide +kernel) rfl
theorem wi_X10_count : Cond.instanceMethod yX10_count ∈ TB := tb_7 (i := 56) (by decide +kernel) rfl
theorem wc_X10_count : Cond.code yX10_count cX10_count 2 (some .int) ∈ TB := tb_7 (i := 58) (by decide +kernel) rfl
theorem wm_L_169 : Cond.methodLink RL 169 yX10_count ∈ TB := tb_7 (i := 55) (by decide +kernel) rfl
theorem ws_X10_count : Cond.selects RX10 yX10_count yX10_count ∈ TB := tb_7 (i := 57) (by decide +kernel) rfl
theorem wi_X9_count : Cond.instanceMethod yX9_count ∈ TB := tb_5 (i := 68) (by decide +kernel) rfl
theorem wc_X9_count : Cond.code yX9_count cX9_count 2 (some .int) ∈ TB := tb_5 (i := 70) (by decide +kernel) rfl
theorem wm_L_166 : Cond.methodLink RL 166 yX9_count ∈ TB := tb_5 (i := 67) (by decide +kernel) rfl
theorem ws_X9_count : Cond.selects RX9 yX9_count yX9_count ∈ TB := tb_5 (i := 69) (by decide +kernel) rfl
theorem wi_X10_check : Cond.instanceMethod yX10_check ∈ TB := tb_7 (i := 52) (by decide +kernel) rfl
theorem wc_X10_check : Cond.code yX10_check cX10_check 3 (some .int) ∈ TB := tb_7 (i := 54) (by decide +kernel) rfl
theorem wm_L_165 : Cond.methodLink RL 165 yX10_check ∈ TB := tb_7 (i := 51) (by decide +kernel) rfl
theorem ws_X10_check : Cond.selects RX10 yX10_check yX10_check ∈ TB := tb_7 (i := 53) (by decide +kernel) rfl
theorem wi_X9_check : Cond.instanceMethod yX9_check ∈ TB := tb_5 (i := 60) (by decide +kernel) rfl
theorem wc_X9_check : Cond.code yX9_check cX9_check 2 (some .int) ∈ TB := tb_5 (i := 62) (by decide +kernel) rfl
theorem wm_L_162 : Cond.methodLink RL 162 yX9_check ∈ TB := tb_5 (i := 59) (by decide +kernel) rfl
theorem ws_X9_check : Cond.selects RX9 yX9_check yX9_check ∈ TB := tb_5 (i := 61) (by decide +kernel) rfl
theorem wi_X10_tell : Cond.instanceMethod yX10_tell ∈ TB := tb_7 (i := 48) (by decide +kernel) rfl
theorem wc_X10_tell : Cond.code yX10_tell cX10_tell 2 (some .int) ∈ TB := tb_7 (i := 50) (by decide +kernel) rfl
theorem wm_L_161 : Cond.methodLink RL 161 yX10_tell ∈ TB := tb_7 (i := 47) (by decide +kernel) rfl
theorem ws_X10_tell : Cond.selects RX10 yX10_tell yX10_tell ∈ TB := tb_7 (i := 49) (by decide +kernel) rfl
theorem wi_X9_tell : Cond.instanceMethod yX9_tell ∈ TB := tb_5 (i := 52) (by decide +kernel) rfl
theorem wc_X9_tell : Cond.code yX9_tell cX9_tell 2 (some .int) ∈ TB := tb_5 (i := 54) (by decide +kernel) rfl
theorem wm_L_158 : Cond.methodLink RL 158 yX9_tell ∈ TB := tb_5 (i := 51) (by decide +kernel) rfl
theorem ws_X9_tell : Cond.selects RX9 yX9_tell yX9_tell ∈ TB := tb_5 (i := 53) (by decide +kernel) rfl
theorem wi_X10_restore : Cond.instanceMethod yX10_restore ∈ TB := tb_7 (i := 44) (by decide +kernel) rfl
theorem wc_X10_restore : Cond.code yX10_restore cX10_restore 1 (some .int) ∈ TB := tb_7 (i := 46) (by decide +kernel) rfl
theorem wm_L_157 : Cond.methodLink RL 157 yX10_restore ∈ TB := tb_7 (i := 43) (by decide +kernel) rfl
theorem ws_X10_restore : Cond.selects RX10 yX10_restore yX10_restore ∈ TB := tb_7 (i := 45) (by decide +kernel) rfl
theorem wi_X9_restore : Cond.instanceMethod yX9_restore ∈ TB := tb_5 (i := 48) (by decide +kernel) rfl
theorem wc_X9_restore : Cond.code yX9_restore cX9_restore 1 (some .int) ∈ TB := tb_5 (i := 50) (by decide +kernel) rfl
theorem wm_L_154 : Cond.methodLink RL 154 yX9_restore ∈ TB := tb_5 (i := 47) (by decide +kernel) rfl
theorem ws_X9_restore : Cond.selects RX9 yX9_restore yX9_restore ∈ TB := tb_5 (i := 49) (by decide +kernel) rfl
theorem wi_X10_image : Cond.instanceMethod yX10_image ∈ TB := tb_7 (i := 37) (by decide +kernel) rfl
theorem wc_X10_image : Cond.code yX10_image cX10_image 1 (some .int) ∈ TB := tb_7 (i := 39) (by decide +kernel) rfl
theorem wm_L_153 : Cond.methodLink RL 153 yX10_image ∈ TB := tb_7 (i := 36) (by decide +kernel) rfl
theorem ws_X10_image : Cond.selects RX10 yX10_image yX10_image ∈ TB := tb_7 (i := 38) (by decide +kernel) rfl
theorem wi_X9_image : Cond.instanceMethod yX9_image ∈ TB := tb_5 (i := 37) (by decide +kernel) rfl
theorem wc_X9_image : Cond.code yX9_image cX9_image 1 (some .int) ∈ TB := tb_5 (i := 39) (by decide +kernel) rfl
theorem wm_L_150 : Cond.methodLink RL 150 yX9_image ∈ TB := tb_5 (i := 36) (by decide +kernel) rfl
theorem ws_X9_image : Cond.selects RX9 yX9_image yX9_image ∈ TB := tb_5 (i := 38) (by decide +kernel) rfl
theorem wi_X10_lays : Cond.instanceMethod yX10_lays ∈ TB := tb_7 (i := 33) (by decide +kernel) rfl
theorem wc_X10_lays : Cond.code yX10_lays cX10_lays 3 (some .int) ∈ TB := tb_7 (i := 35) (by decide +kernel) rfl
theorem wm_L_149 : Cond.methodLink RL 149 yX10_lays ∈ TB := tb_7 (i := 32) (by decide +kernel) rfl
theorem ws_X10_lays : Cond.selects RX10 yX10_lays yX10_lays ∈ TB := tb_7 (i := 34) (by decide +kernel) rfl
theorem wi_X9_lays : Cond.instanceMethod yX9_lays ∈ TB := tb_5 (i := 32) (by decide +kernel) rfl
theorem wc_X9_lays : Cond.code yX9_lays cX9_lays 4 (some .int) ∈ TB := tb_5 (i := 34) (by decide +kernel) rfl
theorem wm_L_146 : Cond.methodLink RL 146 yX9_lays ∈ TB := tb_5 (i := 31) (by decide +kernel) rfl
theorem ws_X9_lays : Cond.selects RX9 yX9_lays yX9_lays ∈ TB := tb_5 (i := 33) (by decide +kernel) rfl
theorem wi_X10_move : Cond.instanceMethod yX10_move ∈ TB := tb_7 (i := 29) (by decide +kernel) rfl
theorem wc_X10_move : Cond.code yX10_move cX10_move 7 (some .int) ∈ TB := tb_7 (i := 31) (by decide +kernel) rfl
theorem wm_L_145 : Cond.methodLink RL 145 yX10_move ∈ TB := tb_7 (i := 28) (by decide +kernel) rfl
theorem ws_X10_move : Cond.selects RX10 yX10_move yX10_move ∈ TB := tb_7 (i := 30) (by decide +kernel) rfl
theorem wi_X9_move : Cond.instanceMethod yX9_move ∈ TB := tb_5 (i := 14) (by decide +kernel) rfl
theorem wc_X9_move : Cond.code yX9_move cX9_move 8 (some .int) ∈ TB := tb_5 (i := 16) (by decide +kernel) rfl
theorem wm_L_141 : Cond.methodLink RL 141 yX9_move ∈ TB := tb_5 (i := 13) (by decide +kernel) rfl
theorem ws_X9_move : Cond.selects RX9 yX9_move yX9_move ∈ TB := tb_5 (i := 15) (by decide +kernel) rfl
theorem wi_X10_put : Cond.instanceMethod yX10_put ∈ TB := tb_7 (i := 25) (by decide +kernel) rfl
theorem wc_X10_put : Cond.code yX10_put cX10_put 5 (some .int) ∈ TB := tb_7 (i := 27) (by decide +kernel) rfl
theorem wm_L_140 : Cond.methodLink RL 140 yX10_put ∈ TB := tb_7 (i := 24) (by decide +kernel) rfl
theorem ws_X10_put : Cond.selects RX10 yX10_put yX10_put ∈ TB := tb_7 (i := 26) (by decide +kernel) rfl
theorem wi_X9_put : Cond.instanceMethod yX9_put ∈ TB := tb_5 (i := 6) (by decide +kernel) rfl
theorem wc_X9_put : Cond.code yX9_put cX9_put 5 (some .int) ∈ TB := tb_5 (i := 8) (by decide +kernel) rfl
theorem wm_L_137 : Cond.methodLink RL 137 yX9_put ∈ TB := tb_5 (i := 5) (by decide +kernel) rfl
theorem ws_X9_put : Cond.selects RX9 yX9_put yX9_put ∈ TB := tb_5 (i := 7) (by decide +kernel) rfl
theorem wi_X10_sheet : Cond.instanceMethod yX10_sheet ∈ TB := tb_7 (i := 21) (by decide +kernel) rfl
theorem wc_X10_sheet : Cond.code yX10_sheet cX10_sheet 5 (some .int) ∈ TB := tb_7 (i := 23) (by decide +kernel) rfl
theorem wm_L_136 : Cond.methodLink RL 136 yX10_sheet ∈ TB := tb_7 (i := 20) (by decide +kernel) rfl
theorem ws_X10_sheet : Cond.selects RX10 yX10_sheet yX10_sheet ∈ TB := tb_7 (i := 22) (by decide +kernel) rfl
theorem wi_X9_sheet : Cond.instanceMethod yX9_sheet ∈ TB := tb_4 (i := 233) (by decide +kernel) rfl
theorem wc_X9_sheet : Cond.code yX9_sheet cX9_sheet 5 (some .int) ∈ TB := tb_4 (i := 235) (by decide +kernel) rfl
theorem wm_L_133 : Cond.methodLink RL 133 yX9_sheet ∈ TB := tb_4 (i := 232) (by decide +kernel) rfl
theorem ws_X9_sheet : Cond.selects RX9 yX9_sheet yX9_sheet ∈ TB := tb_4 (i := 234) (by decide +kernel) rfl
theorem wi_X10_body : Cond.instanceMethod yX10_body ∈ TB := tb_7 (i := 17) (by decide +kernel) rfl
theorem wc_X10_body : Cond.code yX10_body cX10_body 2 (some .int) ∈ TB := tb_7 (i := 19) (by decide +kernel) rfl
theorem wm_L_132 : Cond.methodLink RL 132 yX10_body ∈ TB := tb_7 (i := 16) (by decide +kernel) rfl
theorem ws_X10_body : Cond.selects RX10 yX10_body yX10_body ∈ TB := tb_7 (i := 18) (by decide +kernel) rfl
theorem wi_X9_body : Cond.instanceMethod yX9_body ∈ TB := tb_4 (i := 221) (by decide +kernel) rfl
theorem wc_X9_body : Cond.code yX9_body cX9_body 2 (some .int) ∈ TB := tb_4 (i := 223) (by decide +kernel) rfl
theorem wm_L_129 : Cond.methodLink RL 129 yX9_body ∈ TB := tb_4 (i := 220) (by decide +kernel) rfl
theorem ws_X9_body : Cond.selects RX9 yX9_body yX9_body ∈ TB := tb_4 (i := 222) (by decide +kernel) rfl
theorem wi_X10_voice : Cond.instanceMethod yX10_voice ∈ TB := tb_6 (i := 230) (by decide +kernel) rfl
theorem wc_X10_voice : Cond.code yX10_voice cX10_voice 5 (some .int) ∈ TB := tb_6 (i := 232) (by decide +kernel) rfl
theorem wm_L_128 : Cond.methodLink RL 128 yX10_voice ∈ TB := tb_6 (i := 229) (by decide +kernel) rfl
theorem ws_X10_voice : Cond.selects RX10 yX10_voice yX10_voice ∈ TB := tb_6 (i := 231) (by decide +kernel) rfl
theorem wi_X9_voice : Cond.instanceMethod yX9_voice ∈ TB := tb_4 (i := 183) (by decide +kernel) rfl
theorem wc_X9_voice : Cond.code yX9_voice cX9_voice 4 (some .int) ∈ TB := tb_4 (i := 185) (by decide +kernel) rfl
theorem wm_L_125 : Cond.methodLink RL 125 yX9_voice ∈ TB := tb_4 (i := 182) (by decide +kernel) rfl
theorem ws_X9_voice : Cond.selects RX9 yX9_voice yX9_voice ∈ TB := tb_4 (i := 184) (by decide +kernel) rfl
theorem wi_X10_tally : Cond.instanceMethod yX10_tally ∈ TB := tb_6 (i := 222) (by decide +kernel) rfl
theorem wc_X10_tally : Cond.code yX10_tally cX10_tally 3 (some .int) ∈ TB := tb_6 (i := 224) (by decide +kernel) rfl
theorem wm_L_124 : Cond.methodLink RL 124 yX10_tally ∈ TB := tb_6 (i := 221) (by decide +kernel) rfl
theorem ws_X10_tally : Cond.selects RX10 yX10_tally yX10_tally ∈ TB := tb_6 (i := 223) (by decide +kernel) rfl
theorem wi_X9_tally : Cond.instanceMethod yX9_tally ∈ TB := tb_4 (i := 166) (by decide +kernel) rfl
theorem wc_X9_tally : Cond.code yX9_tally cX9_tally 5 (some .int) ∈ TB := tb_4 (i := 168) (by decide +kernel) rfl
theorem wm_L_121 : Cond.methodLink RL 121 yX9_tally ∈ TB := tb_4 (i := 165) (by decide +kernel) rfl
theorem ws_X9_tally : Cond.selects RX9 yX9_tally yX9_tally ∈ TB := tb_4 (i := 167) (by decide +kernel) rfl
theorem wi_X10_must : Cond.instanceMethod yX10_must ∈ TB := tb_6 (i := 218) (by decide +kernel) rfl
theorem wc_X10_must : Cond.code yX10_must cX10_must 7 (some .int) ∈ TB := tb_6 (i := 220) (by decide +kernel) rfl
theorem wm_L_120 : Cond.methodLink RL 120 yX10_must ∈ TB := tb_6 (i := 217) (by decide +kernel) rfl
theorem ws_X10_must : Cond.selects RX10 yX10_must yX10_must ∈ TB := tb_6 (i := 219) (by decide +kernel) rfl
theorem wi_X9_must : Cond.instanceMethod yX9_must ∈ TB := tb_4 (i := 154) (by decide +kernel) rfl
theorem wc_X9_must : Cond.code yX9_must cX9_must 4 (some .int) ∈ TB := tb_4 (i := 156) (by decide +kernel) rfl
theorem wm_L_117 : Cond.methodLink RL 117 yX9_must ∈ TB := tb_4 (i := 153) (by decide +kernel) rfl
theorem ws_X9_must : Cond.selects RX9 yX9_must yX9_must ∈ TB := tb_4 (i := 155) (by decide +kernel) rfl
theorem wi_X10_again : Cond.instanceMethod yX10_again ∈ TB := tb_6 (i := 214) (by decide +kernel) rfl
theorem wc_X10_again : Cond.code yX10_again cX10_again 5 (some .int) ∈ TB := tb_6 (i := 216) (by decide +kernel) rfl
theorem wm_L_116 : Cond.methodLink RL 116 yX10_again ∈ TB := tb_6 (i := 213) (by decide +kernel) rfl
theorem ws_X10_again : Cond.selects RX10 yX10_again yX10_again ∈ TB := tb_6 (i := 215) (by decide +kernel) rfl
theorem wi_X9_again : Cond.instanceMethod yX9_again ∈ TB := tb_4 (i := 141) (by decide +kernel) rfl
theorem wc_X9_again : Cond.code yX9_again cX9_again 3 (some .int) ∈ TB := tb_4 (i := 143) (by decide +kernel) rfl
theorem wm_L_113 : Cond.methodLink RL 113 yX9_again ∈ TB := tb_4 (i := 140) (by decide +kernel) rfl
theorem ws_X9_again : Cond.selects RX9 yX9_again yX9_again ∈ TB := tb_4 (i := 142) (by decide +kernel) rfl
theorem wi_X10_wrong : Cond.instanceMethod yX10_wrong ∈ TB := tb_6 (i := 203) (by decide +kernel) rfl
theorem wc_X10_wrong : Cond.code yX10_wrong cX10_wrong 5 (some .long) ∈ TB := tb_6 (i := 205) (by decide +kernel) rfl
theorem wm_L_112 : Cond.methodLink RL 112 yX10_wrong ∈ TB := tb_6 (i := 202) (by decide +kernel) rfl
theorem ws_X10_wrong : Cond.selects RX10 yX10_wrong yX10_wrong ∈ TB := tb_6 (i := 204) (by decide +kernel) rfl
theorem wi_X9_wrong : Cond.instanceMethod yX9_wrong ∈ TB := tb_4 (i := 121) (by decide +kernel) rfl
theorem wc_X9_wrong : Cond.code yX9_wrong cX9_wrong 7 (some .long) ∈ TB := tb_4 (i := 123) (by decide +kernel) rfl
theorem wm_L_108 : Cond.methodLink RL 108 yX9_wrong ∈ TB := tb_4 (i := 120) (by decide +kernel) rfl
theorem ws_X9_wrong : Cond.selects RX9 yX9_wrong yX9_wrong ∈ TB := tb_4 (i := 122) (by decide +kernel) rfl
theorem wi_X10_dawn : Cond.instanceMethod yX10_dawn ∈ TB := tb_6 (i := 195) (by decide +kernel) rfl
theorem wc_X10_dawn : Cond.code yX10_dawn cX10_dawn 5 (some .int) ∈ TB := tb_6 (i := 197) (by decide +kernel) rfl
theorem wm_L_107 : Cond.methodLink RL 107 yX10_dawn ∈ TB := tb_6 (i := 194) (by decide +kernel) rfl
theorem ws_X10_dawn : Cond.selects RX10 yX10_dawn yX10_dawn ∈ TB := tb_6 (i := 196) (by decide +kernel) rfl
theorem wi_X9_dawn : Cond.instanceMethod yX9_dawn ∈ TB := tb_4 (i := 109) (by decide +kernel) rfl
theorem wc_X9_dawn : Cond.code yX9_dawn cX9_dawn 5 (some .int) ∈ TB := tb_4 (i := 111) (by decide +kernel) rfl
theorem wm_L_104 : Cond.methodLink RL 104 yX9_dawn ∈ TB := tb_4 (i := 108) (by decide +kernel) rfl
theorem ws_X9_dawn : Cond.selects RX9 yX9_dawn yX9_dawn ∈ TB := tb_4 (i := 110) (by decide +kernel) rfl
theorem wi_X10_order : Cond.instanceMethod yX10_order ∈ TB := tb_6 (i := 180) (by decide +kernel) rfl
theorem wc_X10_order : Cond.code yX10_order cX10_order 3 (some .int) ∈ TB := tb_6 (i := 182) (by decide +kernel) rfl
theorem wm_L_103 : Cond.methodLink RL 103 yX10_order ∈ TB := tb_6 (i := 179) (by decide +kernel) rfl
theorem ws_X10_order : Cond.selects RX10 yX10_order yX10_order ∈ TB := tb_6 (i := 181) (by decide +kernel) rfl
theorem wi_X9_order : Cond.instanceMethod yX9_order ∈ TB := tb_4 (i := 65) (by decide +kernel) rfl
theorem wc_X9_order : Cond.code yX9_order cX9_order 4 (some .int) ∈ TB := tb_4 (i := 67) (by decide +kernel) rfl
theorem wm_L_100 : Cond.methodLink RL 100 yX9_order ∈ TB := tb_4 (i := 64) (by decide +kernel) rfl
theorem ws_X9_order : Cond.selects RX9 yX9_order yX9_order ∈ TB := tb_4 (i := 66) (by decide +kernel) rfl
theorem wi_X10_get : Cond.instanceMethod yX10_get ∈ TB := tb_6 (i := 164) (by decide +kernel) rfl
theorem wc_X10_get : Cond.code yX10_get cX10_get 5 (some .int) ∈ TB := tb_6 (i := 166) (by decide +kernel) rfl
theorem wm_L_99 : Cond.methodLink RL 99 yX10_get ∈ TB := tb_6 (i := 163) (by decide +kernel) rfl
theorem ws_X10_get : Cond.selects RX10 yX10_get yX10_get ∈ TB := tb_6 (i := 165) (by decide +kernel) rfl
theorem wi_X9_get : Cond.instanceMethod yX9_get ∈ TB := tb_4 (i := 37) (by decide +kernel) rfl
theorem wc_X9_get : Cond.code yX9_get cX9_get 5 (some .int) ∈ TB := tb_4 (i := 39) (by decide +kernel) rfl
theorem wm_L_96 : Cond.methodLink RL 96 yX9_get ∈ TB := tb_4 (i := 36) (by decide +kernel) rfl
theorem ws_X9_get : Cond.selects RX9 yX9_get yX9_get ∈ TB := tb_4 (i := 38) (by decide +kernel) rfl
theorem wi_X10_dear : Cond.instanceMethod yX10_dear ∈ TB := tb_6 (i := 156) (by decide +kernel) rfl
theorem wc_X10_dear : Cond.code yX10_dear cX10_dear 7 (some .int) ∈ TB := tb_6 (i := 158) (by decide +kernel) rfl
theorem wm_L_95 : Cond.methodLink RL 95 yX10_dear ∈ TB := tb_6 (i := 155) (by decide +kernel) rfl
theorem ws_X10_dear : Cond.selects RX10 yX10_dear yX10_dear ∈ TB := tb_6 (i := 157) (by decide +kernel) rfl
theorem wi_X9_dear : Cond.instanceMethod yX9_dear ∈ TB := tb_4 (i := 11) (by decide +kernel) rfl
theorem wc_X9_dear : Cond.code yX9_dear cX9_dear 3 (some .int) ∈ TB := tb_4 (i := 13) (by decide +kernel) rfl
theorem wm_L_92 : Cond.methodLink RL 92 yX9_dear ∈ TB := tb_4 (i := 10) (by decide +kernel) rfl
theorem ws_X9_dear : Cond.selects RX9 yX9_dear yX9_dear ∈ TB := tb_4 (i := 12) (by decide +kernel) rfl
theorem wi_X10_change : Cond.instanceMethod yX10_change ∈ TB := tb_6 (i := 152) (by decide +kernel) rfl
theorem wc_X10_change : Cond.code yX10_change cX10_change 3 (some .int) ∈ TB := tb_6 (i := 154) (by decide +kernel) rfl
theorem wm_L_91 : Cond.methodLink RL 91 yX10_change ∈ TB := tb_6 (i := 151) (by decide +kernel) rfl
theorem ws_X10_change : Cond.selects RX10 yX10_change yX10_change ∈ TB := tb_6 (i := 153) (by decide +kernel) rfl
theorem wi_X9_change : Cond.instanceMethod yX9_change ∈ TB := tb_3 (i := 233) (by decide +kernel) rfl
theorem wc_X9_change : Cond.code yX9_change cX9_change 3 (some .int) ∈ TB := tb_3 (i := 235) (by decide +kernel) rfl
theorem wm_L_88 : Cond.methodLink RL 88 yX9_change ∈ TB := tb_3 (i := 232) (by decide +kernel) rfl
theorem ws_X9_change : Cond.selects RX9 yX9_change yX9_change ∈ TB := tb_3 (i := 234) (by decide +kernel) rfl
theorem wi_X10_seed : Cond.instanceMethod yX10_seed ∈ TB := tb_6 (i := 148) (by decide +kernel) rfl
theorem wc_X10_seed : Cond.code yX10_seed cX10_seed 3 (some .int) ∈ TB := tb_6 (i := 150) (by decide +kernel) rfl
theorem wm_L_87 : Cond.methodLink RL 87 yX10_seed ∈ TB := tb_6 (i := 147) (by decide +kernel) rfl
theorem ws_X10_seed : Cond.selects RX10 yX10_seed yX10_seed ∈ TB := tb_6 (i := 149) (by decide +kernel) rfl
theorem wi_X9_seed : Cond.instanceMethod yX9_seed ∈ TB := tb_3 (i := 229) (by decide +kernel) rfl
theorem wc_X9_seed : Cond.code yX9_seed cX9_seed 3 (some .int) ∈ TB := tb_3 (i := 231) (by decide +kernel) rfl
theorem wm_L_84 : Cond.methodLink RL 84 yX9_seed ∈ TB := tb_3 (i := 228) (by decide +kernel) rfl
theorem ws_X9_seed : Cond.selects RX9 yX9_seed yX9_seed ∈ TB := tb_3 (i := 230) (by decide +kernel) rfl
theorem wi_X10_draws : Cond.instanceMethod yX10_draws ∈ TB := tb_6 (i := 139) (by decide +kernel) rfl
theorem wc_X10_draws : Cond.code yX10_draws cX10_draws 5 (some .int) ∈ TB := tb_6 (i := 141) (by decide +kernel) rfl
theorem wm_L_83 : Cond.methodLink RL 83 yX10_draws ∈ TB := tb_6 (i := 138) (by decide +kernel) rfl
theorem ws_X10_draws : Cond.selects RX10 yX10_draws yX10_draws ∈ TB := tb_6 (i := 140) (by decide +kernel) rfl
theorem wi_X9_draws : Cond.instanceMethod yX9_draws ∈ TB := tb_3 (i := 216) (by decide +kernel) rfl
theorem wc_X9_draws : Cond.code yX9_draws cX9_draws 5 (some .int) ∈ TB := tb_3 (i := 218) (by decide +kernel) rfl
theorem wm_L_80 : Cond.methodLink RL 80 yX9_draws ∈ TB := tb_3 (i := 215) (by decide +kernel) rfl
theorem ws_X9_draws : Cond.selects RX9 yX9_draws yX9_draws ∈ TB := tb_3 (i := 217) (by decide +kernel) rfl
theorem wi_X10_stranger : Cond.instanceMethod yX10_stranger ∈ TB := tb_6 (i := 131) (by decide +kernel) rfl
theorem wc_X10_stranger : Cond.code yX10_stranger cX10_stranger 3 (some .int) ∈ TB := tb_6 (i := 133) (by decide +kernel) rfl
theorem wm_L_79 : Cond.methodLink RL 79 yX10_stranger ∈ TB := tb_6 (i := 130) (by decide +kernel) rfl
theorem ws_X10_stranger : Cond.selects RX10 yX10_stranger yX10_stranger ∈ TB := tb_6 (i := 132) (by decide +kernel) rfl
theorem wi_X9_stranger : Cond.instanceMethod yX9_stranger ∈ TB := tb_3 (i := 212) (by decide +kernel) rfl
theorem wc_X9_stranger : Cond.code yX9_stranger cX9_stranger 2 (some .int) ∈ TB := tb_3 (i := 214) (by decide +kernel) rfl
theorem wm_L_76 : Cond.methodLink RL 76 yX9_stranger ∈ TB := tb_3 (i := 211) (by decide +kernel) rfl
theorem ws_X9_stranger : Cond.selects RX9 yX9_stranger yX9_stranger ∈ TB := tb_3 (i := 213) (by decide +kernel) rfl
theorem wi_X10_go : Cond.instanceMethod yX10_go ∈ TB := tb_6 (i := 81) (by decide +kernel) rfl
theorem wc_X10_go : Cond.code yX10_go cX10_go 4 (some .int) ∈ TB := tb_6 (i := 83) (by decide +kernel) rfl
theorem wm_L_75 : Cond.methodLink RL 75 yX10_go ∈ TB := tb_6 (i := 80) (by decide +kernel) rfl
theorem ws_X10_go : Cond.selects RX10 yX10_go yX10_go ∈ TB := tb_6 (i := 82) (by decide +kernel) rfl
theorem wi_X9_go : Cond.instanceMethod yX9_go ∈ TB := tb_3 (i := 129) (by decide +kernel) rfl
theorem wc_X9_go : Cond.code yX9_go cX9_go 5 (some .int) ∈ TB := tb_3 (i := 131) (by decide +kernel) rfl
theorem wm_L_72 : Cond.methodLink RL 72 yX9_go ∈ TB := tb_3 (i := 128) (by decide +kernel) rfl
theorem ws_X9_go : Cond.selects RX9 yX9_go yX9_go ∈ TB := tb_3 (i := 130) (by decide +kernel) rfl
theorem wi_X10_untell : Cond.instanceMethod yX10_untell ∈ TB := tb_6 (i := 3) (by decide +kernel) rfl
theorem wc_X10_untell : Cond.code yX10_untell cX10_untell 3 (some .int) ∈ TB := tb_6 (i := 5) (by decide +kernel) rfl
theorem wm_L_71 : Cond.methodLink RL 71 yX10_untell ∈ TB := tb_6 (i := 2) (by decide +kernel) rfl
theorem ws_X10_untell : Cond.selects RX10 yX10_untell yX10_untell ∈ TB := tb_6 (i := 4) (by decide +kernel) rfl
theorem wi_X9_untell : Cond.instanceMethod yX9_untell ∈ TB := tb_3 (i := 120) (by decide +kernel) rfl
theorem wc_X9_untell : Cond.code yX9_untell cX9_untell 3 (some .int) ∈ TB := tb_3 (i := 122) (by decide +kernel) rfl
theorem wm_L_68 : Cond.methodLink RL 68 yX9_untell ∈ TB := tb_3 (i := 119) (by decide +kernel) rfl
theorem ws_X9_untell : Cond.selects RX9 yX9_untell yX9_untell ∈ TB := tb_3 (i := 121) (by decide +kernel) rfl
theorem wi_X10_text : Cond.instanceMethod yX10_text ∈ TB := tb_5 (i := 199) (by decide +kernel) rfl
theorem wc_X10_text : Cond.code yX10_text cX10_text 5 (some .int) ∈ TB := tb_5 (i := 201) (by decide +kernel) rfl
theorem wm_L_67 : Cond.methodLink RL 67 yX10_text ∈ TB := tb_5 (i := 198) (by decide +kernel) rfl
theorem ws_X10_text : Cond.selects RX10 yX10_text yX10_text ∈ TB := tb_5 (i := 200) (by decide +kernel) rfl
theorem wi_X9_text : Cond.instanceMethod yX9_text ∈ TB := tb_2 (i := 192) (by decide +kernel) rfl
theorem wc_X9_text : Cond.code yX9_text cX9_text 3 (some .int) ∈ TB := tb_2 (i := 194) (by decide +kernel) rfl
theorem wm_L_64 : Cond.methodLink RL 64 yX9_text ∈ TB := tb_2 (i := 191) (by decide +kernel) rfl
theorem ws_X9_text : Cond.selects RX9 yX9_text yX9_text ∈ TB := tb_2 (i := 193) (by decide +kernel) rfl
theorem wi_X10_feed : Cond.instanceMethod yX10_feed ∈ TB := tb_5 (i := 186) (by decide +kernel) rfl
theorem wc_X10_feed : Cond.code yX10_feed cX10_feed 5 (some .int) ∈ TB := tb_5 (i := 188) (by decide +kernel) rfl
theorem wm_L_63 : Cond.methodLink RL 63 yX10_feed ∈ TB := tb_5 (i := 185) (by decide +kernel) rfl
theorem ws_X10_feed : Cond.selects RX10 yX10_feed yX10_feed ∈ TB := tb_5 (i := 187) (by decide +kernel) rfl
theorem wi_X9_feed : Cond.instanceMethod yX9_feed ∈ TB := tb_2 (i := 184) (by decide +kernel) rfl
theorem wc_X9_feed : Cond.code yX9_feed cX9_feed 5 (some .int) ∈ TB := tb_2 (i := 186) (by decide +kernel) rfl
theorem wm_L_59 : Cond.methodLink RL 59 yX9_feed ∈ TB := tb_2 (i := 183) (by decide +kernel) rfl
theorem ws_X9_feed : Cond.selects RX9 yX9_feed yX9_feed ∈ TB := tb_2 (i := 185) (by decide +kernel) rfl
theorem wi_X10_give : Cond.instanceMethod yX10_give ∈ TB := tb_6 (i := 77) (by decide +kernel) rfl
theorem wc_X10_give : Cond.code yX10_give cX10_give 5 (some .int) ∈ TB := tb_6 (i := 79) (by decide +kernel) rfl
theorem wm_L_56 : Cond.methodLink RL 56 yX10_give ∈ TB := tb_6 (i := 76) (by decide +kernel) rfl
theorem ws_X10_give : Cond.selects RX10 yX10_give yX10_give ∈ TB := tb_6 (i := 78) (by decide +kernel) rfl
theorem wi_X9_give : Cond.instanceMethod yX9_give ∈ TB := tb_2 (i := 173) (by decide +kernel) rfl
theorem wc_X9_give : Cond.code yX9_give cX9_give 5 (some .int) ∈ TB := tb_2 (i := 175) (by decide +kernel) rfl
theorem wm_L_52 : Cond.methodLink RL 52 yX9_give ∈ TB := tb_2 (i := 172) (by decide +kernel) rfl
theorem ws_X9_give : Cond.selects RX9 yX9_give yX9_give ∈ TB := tb_2 (i := 174) (by decide +kernel) rfl
theorem wi_X10_personIs : Cond.instanceMethod yX10_personIs ∈ TB := tb_6 (i := 61) (by decide +kernel) rfl
theorem wc_X10_personIs : Cond.code yX10_personIs cX10_personIs 3 (some .int) ∈ TB := tb_6 (i := 63) (by decide +kernel) rfl
theorem wm_L_51 : Cond.methodLink RL 51 yX10_personIs ∈ TB := tb_6 (i := 60) (by decide +kernel) rfl
theorem ws_X10_personIs : Cond.selects RX10 yX10_personIs yX10_personIs ∈ TB := tb_6 (i := 62) (by decide +kernel) rfl
theorem wi_X9_personIs : Cond.instanceMethod yX9_personIs ∈ TB := tb_2 (i := 155) (by decide +kernel) rfl
theorem wc_X9_personIs : Cond.code yX9_personIs cX9_personIs 3 (some .int) ∈ TB := tb_2 (i := 157) (by decide +kernel) rfl
theorem wm_L_48 : Cond.methodLink RL 48 yX9_personIs ∈ TB := tb_2 (i := 154) (by decide +kernel) rfl
theorem ws_X9_personIs : Cond.selects RX9 yX9_personIs yX9_personIs ∈ TB := tb_2 (i := 156) (by decide +kernel) rfl
theorem wi_X10_person : Cond.instanceMethod yX10_person ∈ TB := tb_6 (i := 57) (by decide +kernel) rfl
theorem wc_X10_person : Cond.code yX10_person cX10_person 2 (some .int) ∈ TB := tb_6 (i := 59) (by decide +kernel) rfl
theorem wm_L_47 : Cond.methodLink RL 47 yX10_person ∈ TB := tb_6 (i := 56) (by decide +kernel) rfl
theorem ws_X10_person : Cond.selects RX10 yX10_person yX10_person ∈ TB := tb_6 (i := 58) (by decide +kernel) rfl
theorem wi_X9_person : Cond.instanceMethod yX9_person ∈ TB := tb_2 (i := 151) (by decide +kernel) rfl
theorem wc_X9_person : Cond.code yX9_person cX9_person 1 (some .int) ∈ TB := tb_2 (i := 153) (by decide +kernel) rfl
theorem wm_L_44 : Cond.methodLink RL 44 yX9_person ∈ TB := tb_2 (i := 150) (by decide +kernel) rfl
theorem ws_X9_person : Cond.selects RX9 yX9_person yX9_person ∈ TB := tb_2 (i := 152) (by decide +kernel) rfl
theorem wi_X10_coin : Cond.instanceMethod yX10_coin ∈ TB := tb_6 (i := 53) (by decide +kernel) rfl
theorem wc_X10_coin : Cond.code yX10_coin cX10_coin 3 (some .int) ∈ TB := tb_6 (i := 55) (by decide +kernel) rfl
theorem wm_L_43 : Cond.methodLink RL 43 yX10_coin ∈ TB := tb_6 (i := 52) (by decide +kernel) rfl
theorem ws_X10_coin : Cond.selects RX10 yX10_coin yX10_coin ∈ TB := tb_6 (i := 54) (by decide +kernel) rfl
theorem wi_X9_coin : Cond.instanceMethod yX9_coin ∈ TB := tb_2 (i := 146) (by decide +kernel) rfl
theorem wc_X9_coin : Cond.code yX9_coin cX9_coin 2 (some .int) ∈ TB := tb_2 (i := 148) (by decide +kernel) rfl
theorem wm_L_40 : Cond.methodLink RL 40 yX9_coin ∈ TB := tb_2 (i := 145) (by decide +kernel) rfl
theorem ws_X9_coin : Cond.selects RX9 yX9_coin yX9_coin ∈ TB := tb_2 (i := 147) (by decide +kernel) rfl
theorem wi_X10_empty : Cond.instanceMethod yX10_empty ∈ TB := tb_6 (i := 45) (by decide +kernel) rfl
theorem wc_X10_empty : Cond.code yX10_empty cX10_empty 2 (some .int) ∈ TB := tb_6 (i := 47) (by decide +kernel) rfl
theorem wm_L_39 : Cond.methodLink RL 39 yX10_empty ∈ TB := tb_6 (i := 44) (by decide +kernel) rfl
theorem ws_X10_empty : Cond.selects RX10 yX10_empty yX10_empty ∈ TB := tb_6 (i := 46) (by decide +kernel) rfl
theorem wi_X9_empty : Cond.instanceMethod yX9_empty ∈ TB := tb_2 (i := 125) (by decide +kernel) rfl
theorem wc_X9_empty : Cond.code yX9_empty cX9_empty 2 (some .int) ∈ TB := tb_2 (i := 127) (by decide +kernel) rfl
theorem wm_L_35 : Cond.methodLink RL 35 yX9_empty ∈ TB := tb_2 (i := 124) (by decide +kernel) rfl
theorem ws_X9_empty : Cond.selects RX9 yX9_empty yX9_empty ∈ TB := tb_2 (i := 126) (by decide +kernel) rfl
theorem wi_X10_lay : Cond.instanceMethod yX10_lay ∈ TB := tb_6 (i := 37) (by decide +kernel) rfl
theorem wc_X10_lay : Cond.code yX10_lay cX10_lay 3 (some .int) ∈ TB := tb_6 (i := 39) (by decide +kernel) rfl
theorem wm_L_34 : Cond.methodLink RL 34 yX10_lay ∈ TB := tb_6 (i := 36) (by decide +kernel) rfl
theorem ws_X10_lay : Cond.selects RX10 yX10_lay yX10_lay ∈ TB := tb_6 (i := 38) (by decide +kernel) rfl
theorem wi_X9_lay : Cond.instanceMethod yX9_lay ∈ TB := tb_2 (i := 117) (by decide +kernel) rfl
theorem wc_X9_lay : Cond.code yX9_lay cX9_lay 3 (some .int) ∈ TB := tb_2 (i := 119) (by decide +kernel) rfl
theorem wm_L_31 : Cond.methodLink RL 31 yX9_lay ∈ TB := tb_2 (i := 116) (by decide +kernel) rfl
theorem ws_X9_lay : Cond.selects RX9 yX9_lay yX9_lay ∈ TB := tb_2 (i := 118) (by decide +kernel) rfl
theorem wi_X10_as : Cond.instanceMethod yX10_as ∈ TB := tb_6 (i := 30) (by decide +kernel) rfl
theorem wc_X10_as : Cond.code yX10_as cX10_as 2 (some .int) ∈ TB := tb_6 (i := 32) (by decide +kernel) rfl
theorem wm_L_30 : Cond.methodLink RL 30 yX10_as ∈ TB := tb_6 (i := 29) (by decide +kernel) rfl
theorem ws_X10_as : Cond.selects RX10 yX10_as yX10_as ∈ TB := tb_6 (i := 31) (by decide +kernel) rfl
theorem wi_X9_as : Cond.instanceMethod yX9_as ∈ TB := tb_2 (i := 97) (by decide +kernel) rfl
theorem wc_X9_as : Cond.code yX9_as cX9_as 2 (some .int) ∈ TB := tb_2 (i := 99) (by decide +kernel) rfl
theorem wm_L_27 : Cond.methodLink RL 27 yX9_as ∈ TB := tb_2 (i := 96) (by decide +kernel) rfl
theorem ws_X9_as : Cond.selects RX9 yX9_as yX9_as ∈ TB := tb_2 (i := 98) (by decide +kernel) rfl
theorem wi_X10_box : Cond.instanceMethod yX10_box ∈ TB := tb_6 (i := 26) (by decide +kernel) rfl
theorem wc_X10_box : Cond.code yX10_box cX10_box 3 (some .int) ∈ TB := tb_6 (i := 28) (by decide +kernel) rfl
theorem wm_L_26 : Cond.methodLink RL 26 yX10_box ∈ TB := tb_6 (i := 25) (by decide +kernel) rfl
theorem ws_X10_box : Cond.selects RX10 yX10_box yX10_box ∈ TB := tb_6 (i := 27) (by decide +kernel) rfl
theorem wi_X9_box : Cond.instanceMethod yX9_box ∈ TB := tb_2 (i := 93) (by decide +kernel) rfl
theorem wc_X9_box : Cond.code yX9_box cX9_box 3 (some .int) ∈ TB := tb_2 (i := 95) (by decide +kernel) rfl
theorem wm_L_23 : Cond.methodLink RL 23 yX9_box ∈ TB := tb_2 (i := 92) (by decide +kernel) rfl
theorem ws_X9_box : Cond.selects RX9 yX9_box yX9_box ∈ TB := tb_2 (i := 94) (by decide +kernel) rfl
theorem wi_X10_ticket : Cond.instanceMethod yX10_ticket ∈ TB := tb_6 (i := 22) (by decide +kernel) rfl
theorem wc_X10_ticket : Cond.code yX10_ticket cX10_ticket 3 (some .int) ∈ TB := tb_6 (i := 24) (by decide +kernel) rfl
theorem wm_L_22 : Cond.methodLink RL 22 yX10_ticket ∈ TB := tb_6 (i := 21) (by decide +kernel) rfl
theorem ws_X10_ticket : Cond.selects RX10 yX10_ticket yX10_ticket ∈ TB := tb_6 (i := 23) (by decide +kernel) rfl
theorem wi_X9_ticket : Cond.instanceMethod yX9_ticket ∈ TB := tb_2 (i := 89) (by decide +kernel) rfl
theorem wc_X9_ticket : Cond.code yX9_ticket cX9_ticket 3 (some .int) ∈ TB := tb_2 (i := 91) (by decide +kernel) rfl
theorem wm_L_18 : Cond.methodLink RL 18 yX9_ticket ∈ TB := tb_2 (i := 88) (by decide +kernel) rfl
theorem ws_X9_ticket : Cond.selects RX9 yX9_ticket yX9_ticket ∈ TB := tb_2 (i := 90) (by decide +kernel) rfl
theorem wi_X10_worth : Cond.instanceMethod yX10_worth ∈ TB := tb_6 (i := 11) (by decide +kernel) rfl
theorem wc_X10_worth : Cond.code yX10_worth cX10_worth 4 (some .int) ∈ TB := tb_6 (i := 13) (by decide +kernel) rfl
theorem wm_L_17 : Cond.methodLink RL 17 yX10_worth ∈ TB := tb_6 (i := 10) (by decide +kernel) rfl
theorem ws_X10_worth : Cond.selects RX10 yX10_worth yX10_worth ∈ TB := tb_6 (i := 12) (by decide +kernel) rfl
theorem wi_X9_worth : Cond.instanceMethod yX9_worth ∈ TB := tb_2 (i := 72) (by decide +kernel) rfl
theorem wc_X9_worth : Cond.code yX9_worth cX9_worth 4 (some .int) ∈ TB := tb_2 (i := 74) (by decide +kernel) rfl
theorem wm_L_13 : Cond.methodLink RL 13 yX9_worth ∈ TB := tb_2 (i := 71) (by decide +kernel) rfl
theorem ws_X9_worth : Cond.selects RX9 yX9_worth yX9_worth ∈ TB := tb_2 (i := 73) (by decide +kernel) rfl
theorem wi_X10_init : Cond.instanceMethod yX10_init ∈ TB := tb_5 (i := 78) (by decide +kernel) rfl
theorem wc_X10_init : Cond.code yX10_init cX10_init 1 none ∈ TB := tb_5 (i := 79) (by decide +kernel) rfl
theorem wm_L_12 : Cond.methodLink RL 12 yX10_init ∈ TB := tb_5 (i := 77) (by decide +kernel) rfl
theorem wi_X9_init : Cond.instanceMethod yX9_init ∈ TB := tb_1 (i := 23) (by decide +kernel) rfl
theorem wc_X9_init : Cond.code yX9_init cX9_init 1 none ∈ TB := tb_1 (i := 24) (by decide +kernel) rfl
theorem wm_L_9 : Cond.methodLink RL 9 yX9_init ∈ TB := tb_1 (i := 22) (by decide +kernel) rfl
theorem inT_X0 : ∀ w ∈ u_ws RX0 TX0 7, w ∈ TB := by
  show ∀ w ∈ [u_lay RX0 TX0 0, u_lay RX0 TX0 1, u_lay RX0 TX0 2, u_lay RX0 TX0 3, u_lay RX0 TX0 4, u_lay RX0 TX0 5, u_lay RX0 TX0 6], w ∈ TB
  exact List.forall_mem_cons.mpr ⟨tb_1 (i := 152) (by decide +kernel) rfl, List.forall_mem_cons.mpr ⟨tb_1 (i := 154) (by decide +kernel) rfl, List.forall_mem_cons.mpr ⟨tb_1 (i := 156) (by decide +kernel) rfl, List.forall_mem_cons.mpr ⟨tb_1 (i := 158) (by decide +kernel) rfl, List.forall_mem_cons.mpr ⟨tb_1 (i := 160) (by decide +kernel) rfl, List.forall_mem_cons.mpr ⟨tb_1 (i := 162) (by decide +kernel) rfl, List.forall_mem_cons.mpr ⟨tb_1 (i := 164) (by decide +kernel) rfl, fun w h => nomatch h⟩⟩⟩⟩⟩⟩⟩
theorem cls_X0 : CLS 0 RX0 TX0 7 tyX0 := ⟨rfl, inT_X0, tyX0_ok, nmX0⟩
theorem inT_X1 : ∀ w ∈ u_ws RX1 TX1 14, w ∈ TB := by
  show ∀ w ∈ [u_lay RX1 TX1 0, u_lay RX1 TX1 1, u_lay RX1 TX1 2, u_lay RX1 TX1 3, u_lay RX1 TX1 4, u_lay RX1 TX1 5, u_lay RX1 TX1 6, u_lay RX1 TX1 7, u_lay RX1 TX1 8, u_lay RX1 TX1 9, u_lay RX1 TX1 10, u_lay RX1 TX1 11, u_lay RX1 TX1 12, u_lay RX1 TX1 13], w ∈ TB
  exact List.forall_mem_cons.mpr ⟨tb_1 (i := 192) (by decide +kernel) rfl, List.forall_mem_cons.mpr ⟨tb_1 (i := 194) (by decide +kernel) rfl, List.forall_mem_cons.mpr ⟨tb_1 (i := 196) (by decide +kernel) rfl, List.forall_mem_cons.mpr ⟨tb_1 (i := 198) (by decide +kernel) rfl, List.forall_mem_cons.mpr ⟨tb_1 (i := 200) (by decide +kernel) rfl, List.forall_mem_cons.mpr ⟨tb_1 (i := 202) (by decide +kernel) rfl, List.forall_mem_cons.mpr ⟨tb_1 (i := 204) (by decide +kernel) rfl, List.forall_mem_cons.mpr ⟨tb_1 (i := 206) (by decide +kernel) rfl, List.forall_mem_cons.mpr ⟨tb_1 (i := 208) (by decide +kernel) rfl, List.forall_mem_cons.mpr ⟨tb_1 (i := 210) (by decide +kernel) rfl, List.forall_mem_cons.mpr ⟨tb_1 (i := 212) (by decide +kernel) rfl, List.forall_mem_cons.mpr ⟨tb_1 (i := 214) (by decide +kernel) rfl, List.forall_mem_cons.mpr ⟨tb_1 (i := 216) (by decide +kernel) rfl, List.forall_mem_cons.mpr ⟨tb_1 (i := 218) (by decide +kernel) rfl, fun w h => nomatch h⟩⟩⟩⟩⟩⟩⟩⟩⟩⟩⟩⟩⟩⟩
theorem cls_X1 : CLS 1 RX1 TX1 14 tyX1 := ⟨rfl, inT_X1, tyX1_ok, nmX1⟩
theorem inT_X10 : ∀ w ∈ u_ws RX10 TX10 34, w ∈ TB := by
  show ∀ w ∈ [u_lay RX10 TX10 0, u_lay RX10 TX10 1, u_lay RX10 TX10 2, u_lay RX10 TX10 3, u_lay RX10 TX10 4, u_lay RX10 TX10 5, u_lay RX10 TX10 6, u_lay RX10 TX10 7, u_lay RX10 TX10 8, u_lay RX10 TX10 9, u_lay RX10 TX10 10, u_lay RX10 TX10 11, u_lay RX10 TX10 12, u_lay RX10 TX10 13, u_lay RX10 TX10 14, u_lay RX10 TX10 15, u_lay RX10 TX10 16, u_lay RX10 TX10 17, u_lay RX10 TX10 18, u_lay RX10 TX10 19, u_lay RX10 TX10 20, u_lay RX10 TX10 21, u_lay RX10 TX10 22, u_lay RX10 TX10 23, u_lay RX10 TX10 24, u_lay RX10 TX10 25, u_lay RX10 TX10 26, u_lay RX10 TX10 27, u_lay RX10 TX10 28, u_lay RX10 TX10 29, u_lay RX10 TX10 30, u_lay RX10 TX10 31, u_lay RX10 TX10 32, u_lay RX10 TX10 33], w ∈ TB
  exact List.forall_mem_cons.mpr ⟨tb_5 (i := 115) (by decide +kernel) rfl, List.forall_mem_cons.mpr ⟨tb_5 (i := 117) (by decide +kernel) rfl, List.forall_mem_cons.mpr ⟨tb_5 (i := 119) (by decide +kernel) rfl, List.forall_mem_cons.mpr ⟨tb_5 (i := 121) (by decide +kernel) rfl, List.forall_mem_cons.mpr ⟨tb_5 (i := 123) (by decide +kernel) rfl, List.forall_mem_cons.mpr ⟨tb_5 (i := 125) (by decide +kernel) rfl, List.forall_mem_cons.mpr ⟨tb_5 (i := 127) (by decide +kernel) rfl, List.forall_mem_cons.mpr ⟨tb_5 (i := 129) (by decide +kernel) rfl, List.forall_mem_cons.mpr ⟨tb_5 (i := 131) (by decide +kernel) rfl, List.forall_mem_cons.mpr ⟨tb_5 (i := 133) (by decide +kernel) rfl, List.forall_mem_cons.mpr ⟨tb_5 (i := 135) (by decide +kernel) rfl, List.forall_mem_cons.mpr ⟨tb_5 (i := 137) (by decide +kernel) rfl, List.forall_mem_cons.mpr ⟨tb_5 (i := 139) (by decide +kernel) rfl, List.forall_mem_cons.mpr ⟨tb_5 (i := 141) (by decide +kernel) rfl, List.forall_mem_cons.mpr ⟨tb_5 (i := 143) (by decide +kernel) rfl, List.forall_mem_cons.mpr ⟨tb_5 (i := 145) (by decide +kernel) rfl, List.forall_mem_cons.mpr ⟨tb_5 (i := 147) (by decide +kernel) rfl, List.forall_mem_cons.mpr ⟨tb_5 (i := 149) (by decide +kernel) rfl, List.forall_mem_cons.mpr ⟨tb_5 (i := 151) (by decide +kernel) rfl, List.forall_mem_cons.mpr ⟨tb_5 (i := 153) (by decide +kernel) rfl, List.forall_mem_cons.mpr ⟨tb_5 (i := 155) (by decide +kernel) rfl, List.forall_mem_cons.mpr ⟨tb_5 (i := 157) (by decide +kernel) rfl, List.forall_mem_cons.mpr ⟨tb_5 (i := 159) (by decide +kernel) rfl, List.forall_mem_cons.mpr ⟨tb_5 (i := 161) (by decide +kernel) rfl, List.forall_mem_cons.mpr ⟨tb_5 (i := 163) (by decide +kernel) rfl, List.forall_mem_cons.mpr ⟨tb_5 (i := 165) (by decide +kernel) rfl, List.forall_mem_cons.mpr ⟨tb_5 (i := 167) (by decide +kernel) rfl, List.forall_mem_cons.mpr ⟨tb_5 (i := 169) (by decide +kernel) rfl, List.forall_mem_cons.mpr ⟨tb_5 (i := 171) (by decide +kernel) rfl, List.forall_mem_cons.mpr ⟨tb_5 (i := 173) (by decide +kernel) rfl, List.forall_mem_cons.mpr ⟨tb_5 (i := 175) (by decide +kernel) rfl, List.forall_mem_cons.mpr ⟨tb_5 (i := 177) (by decide +kernel) rfl, List.forall_mem_cons.mpr ⟨tb_5 (i := 179) (by decide +kernel) rfl, List.forall_mem_cons.mpr ⟨tb_5 (i := 181) (by decide +kernel) rfl, fun w h => nomatch h⟩⟩⟩⟩⟩⟩⟩⟩⟩⟩⟩⟩⟩⟩⟩⟩⟩⟩⟩⟩⟩⟩⟩⟩⟩⟩⟩⟩⟩⟩⟩⟩⟩⟩
theorem cls_X10 : CLS 9 RX10 TX10 34 tyX10 := ⟨rfl, inT_X10, tyX10_ok, nmX10⟩
theorem inT_X2 : ∀ w ∈ u_ws RX2 TX2 16, w ∈ TB := by
  show ∀ w ∈ [u_lay RX2 TX2 0, u_lay RX2 TX2 1, u_lay RX2 TX2 2, u_lay RX2 TX2 3, u_lay RX2 TX2 4, u_lay RX2 TX2 5, u_lay RX2 TX2 6, u_lay RX2 TX2 7, u_lay RX2 TX2 8, u_lay RX2 TX2 9, u_lay RX2 TX2 10, u_lay RX2 TX2 11, u_lay RX2 TX2 12, u_lay RX2 TX2 13, u_lay RX2 TX2 14, u_lay RX2 TX2 15], w ∈ TB
  exact List.forall_mem_cons.mpr ⟨tb_1 (i := 106) (by decide +kernel) rfl, List.forall_mem_cons.mpr ⟨tb_1 (i := 108) (by decide +kernel) rfl, List.forall_mem_cons.mpr ⟨tb_1 (i := 110) (by decide +kernel) rfl, List.forall_mem_cons.mpr ⟨tb_1 (i := 112) (by decide +kernel) rfl, List.forall_mem_cons.mpr ⟨tb_1 (i := 114) (by decide +kernel) rfl, List.forall_mem_cons.mpr ⟨tb_1 (i := 116) (by decide +kernel) rfl, List.forall_mem_cons.mpr ⟨tb_1 (i := 118) (by decide +kernel) rfl, List.forall_mem_cons.mpr ⟨tb_1 (i := 120) (by decide +kernel) rfl, List.forall_mem_cons.mpr ⟨tb_1 (i := 122) (by decide +kernel) rfl, List.forall_mem_cons.mpr ⟨tb_1 (i := 124) (by decide +kernel) rfl, List.forall_mem_cons.mpr ⟨tb_1 (i := 126) (by decide +kernel) rfl, List.forall_mem_cons.mpr ⟨tb_1 (i := 128) (by decide +kernel) rfl, List.forall_mem_cons.mpr ⟨tb_1 (i := 130) (by decide +kernel) rfl, List.forall_mem_cons.mpr ⟨tb_1 (i := 132) (by decide +kernel) rfl, List.forall_mem_cons.mpr ⟨tb_1 (i := 134) (by decide +kernel) rfl, List.forall_mem_cons.mpr ⟨tb_1 (i := 136) (by decide +kernel) rfl, fun w h => nomatch h⟩⟩⟩⟩⟩⟩⟩⟩⟩⟩⟩⟩⟩⟩⟩⟩
theorem cls_X2 : CLS 2 RX2 TX2 16 tyX2 := ⟨rfl, inT_X2, tyX2_ok, nmX2⟩
theorem inT_X3 : ∀ w ∈ u_ws RX3 TX3 3, w ∈ TB := by
  show ∀ w ∈ [u_lay RX3 TX3 0, u_lay RX3 TX3 1, u_lay RX3 TX3 2], w ∈ TB
  exact List.forall_mem_cons.mpr ⟨tb_1 (i := 43) (by decide +kernel) rfl, List.forall_mem_cons.mpr ⟨tb_1 (i := 45) (by decide +kernel) rfl, List.forall_mem_cons.mpr ⟨tb_1 (i := 47) (by decide +kernel) rfl, fun w h => nomatch h⟩⟩⟩
theorem cls_X3 : CLS 3 RX3 TX3 3 tyX3 := ⟨rfl, inT_X3, tyX3_ok, nmX3⟩
theorem inT_X5 : ∀ w ∈ u_ws RX5 TX5 4, w ∈ TB := by
  show ∀ w ∈ [u_lay RX5 TX5 0, u_lay RX5 TX5 1, u_lay RX5 TX5 2, u_lay RX5 TX5 3], w ∈ TB
  exact List.forall_mem_cons.mpr ⟨tb_1 (i := 234) (by decide +kernel) rfl, List.forall_mem_cons.mpr ⟨tb_1 (i := 236) (by decide +kernel) rfl, List.forall_mem_cons.mpr ⟨tb_1 (i := 238) (by decide +kernel) rfl, List.forall_mem_cons.mpr ⟨tb_2 (i := 0) (by decide +kernel) rfl, fun w h => nomatch h⟩⟩⟩⟩
theorem cls_X5 : CLS 4 RX5 TX5 4 tyX5 := ⟨rfl, inT_X5, tyX5_ok, nmX5⟩
theorem inT_X6 : ∀ w ∈ u_ws RX6 TX6 3, w ∈ TB := by
  show ∀ w ∈ [u_lay RX6 TX6 0, u_lay RX6 TX6 1, u_lay RX6 TX6 2], w ∈ TB
  exact List.forall_mem_cons.mpr ⟨tb_2 (i := 36) (by decide +kernel) rfl, List.forall_mem_cons.mpr ⟨tb_2 (i := 38) (by decide +kernel) rfl, List.forall_mem_cons.mpr ⟨tb_2 (i := 40) (by decide +kernel) rfl, fun w h => nomatch h⟩⟩⟩
theorem cls_X6 : CLS 5 RX6 TX6 3 tyX6 := ⟨rfl, inT_X6, tyX6_ok, nmX6⟩
theorem inT_X7 : ∀ w ∈ u_ws RX7 TX7 3, w ∈ TB := by
  show ∀ w ∈ [u_lay RX7 TX7 0, u_lay RX7 TX7 1, u_lay RX7 TX7 2], w ∈ TB
  exact List.forall_mem_cons.mpr ⟨tb_1 (i := 60) (by decide +kernel) rfl, List.forall_mem_cons.mpr ⟨tb_1 (i := 62) (by decide +kernel) rfl, List.forall_mem_cons.mpr ⟨tb_1 (i := 64) (by decide +kernel) rfl, fun w h => nomatch h⟩⟩⟩
theorem cls_X7 : CLS 6 RX7 TX7 3 tyX7 := ⟨rfl, inT_X7, tyX7_ok, nmX7⟩
theorem inT_X8 : ∀ w ∈ u_ws RX8 TX8 5, w ∈ TB := by
  show ∀ w ∈ [u_lay RX8 TX8 0, u_lay RX8 TX8 1, u_lay RX8 TX8 2, u_lay RX8 TX8 3, u_lay RX8 TX8 4], w ∈ TB
  exact List.forall_mem_cons.mpr ⟨tb_2 (i := 15) (by decide +kernel) rfl, List.forall_mem_cons.mpr ⟨tb_2 (i := 17) (by decide +kernel) rfl, List.forall_mem_cons.mpr ⟨tb_2 (i := 19) (by decide +kernel) rfl, List.forall_mem_cons.mpr ⟨tb_2 (i := 21) (by decide +kernel) rfl, List.forall_mem_cons.mpr ⟨tb_2 (i := 23) (by decide +kernel) rfl, fun w h => nomatch h⟩⟩⟩⟩⟩
theorem cls_X8 : CLS 7 RX8 TX8 5 tyX8 := ⟨rfl, inT_X8, tyX8_ok, nmX8⟩
theorem inT_X9 : ∀ w ∈ u_ws RX9 TX9 9, w ∈ TB := by
  show ∀ w ∈ [u_lay RX9 TX9 0, u_lay RX9 TX9 1, u_lay RX9 TX9 2, u_lay RX9 TX9 3, u_lay RX9 TX9 4, u_lay RX9 TX9 5, u_lay RX9 TX9 6, u_lay RX9 TX9 7, u_lay RX9 TX9 8], w ∈ TB
  exact List.forall_mem_cons.mpr ⟨tb_2 (i := 52) (by decide +kernel) rfl, List.forall_mem_cons.mpr ⟨tb_2 (i := 54) (by decide +kernel) rfl, List.forall_mem_cons.mpr ⟨tb_2 (i := 56) (by decide +kernel) rfl, List.forall_mem_cons.mpr ⟨tb_2 (i := 58) (by decide +kernel) rfl, List.forall_mem_cons.mpr ⟨tb_2 (i := 60) (by decide +kernel) rfl, List.forall_mem_cons.mpr ⟨tb_2 (i := 62) (by decide +kernel) rfl, List.forall_mem_cons.mpr ⟨tb_2 (i := 64) (by decide +kernel) rfl, List.forall_mem_cons.mpr ⟨tb_2 (i := 66) (by decide +kernel) rfl, List.forall_mem_cons.mpr ⟨tb_2 (i := 68) (by decide +kernel) rfl, fun w h => nomatch h⟩⟩⟩⟩⟩⟩⟩⟩⟩
theorem cls_X9 : CLS 8 RX9 TX9 9 tyX9 := ⟨rfl, inT_X9, tyX9_ok, nmX9⟩
theorem cb_m10 : (Int8.ofInt (-10)).toInt32 = (-10) := by decide
theorem cb_6 : (Int8.ofInt 6).toInt32 = 6 := by decide
theorem cb_7 : (Int8.ofInt 7).toInt32 = 7 := by decide
theorem cb_8 : (Int8.ofInt 8).toInt32 = 8 := by decide
theorem cb_9 : (Int8.ofInt 9).toInt32 = 9 := by decide
theorem cb_10 : (Int8.ofInt 10).toInt32 = 10 := by decide
theorem cb_11 : (Int8.ofInt 11).toInt32 = 11 := by decide
theorem cb_12 : (Int8.ofInt 12).toInt32 = 12 := by decide
theorem cb_13 : (Int8.ofInt 13).toInt32 = 13 := by decide
theorem cb_14 : (Int8.ofInt 14).toInt32 = 14 := by decide
theorem cb_15 : (Int8.ofInt 15).toInt32 = 15 := by decide
theorem cb_16 : (Int8.ofInt 16).toInt32 = 16 := by decide
theorem cb_20 : (Int8.ofInt 20).toInt32 = 20 := by decide
theorem cb_21 : (Int8.ofInt 21).toInt32 = 21 := by decide
theorem cb_24 : (Int8.ofInt 24).toInt32 = 24 := by decide
theorem cb_30 : (Int8.ofInt 30).toInt32 = 30 := by decide
theorem cb_32 : (Int8.ofInt 32).toInt32 = 32 := by decide
theorem cb_33 : (Int8.ofInt 33).toInt32 = 33 := by decide
theorem cb_36 : (Int8.ofInt 36).toInt32 = 36 := by decide
theorem cb_37 : (Int8.ofInt 37).toInt32 = 37 := by decide
theorem cb_38 : (Int8.ofInt 38).toInt32 = 38 := by decide
theorem cb_40 : (Int8.ofInt 40).toInt32 = 40 := by decide
theorem cb_41 : (Int8.ofInt 41).toInt32 = 41 := by decide
theorem cb_42 : (Int8.ofInt 42).toInt32 = 42 := by decide
theorem cb_43 : (Int8.ofInt 43).toInt32 = 43 := by decide
theorem cb_45 : (Int8.ofInt 45).toInt32 = 45 := by decide
theorem cb_47 : (Int8.ofInt 47).toInt32 = 47 := by decide
theorem cb_48 : (Int8.ofInt 48).toInt32 = 48 := by decide
theorem cb_50 : (Int8.ofInt 50).toInt32 = 50 := by decide
theorem cb_51 : (Int8.ofInt 51).toInt32 = 51 := by decide
theorem cb_57 : (Int8.ofInt 57).toInt32 = 57 := by decide
theorem cb_60 : (Int8.ofInt 60).toInt32 = 60 := by decide
theorem cb_61 : (Int8.ofInt 61).toInt32 = 61 := by decide
theorem cb_62 : (Int8.ofInt 62).toInt32 = 62 := by decide
theorem cb_63 : (Int8.ofInt 63).toInt32 = 63 := by decide
theorem cb_64 : (Int8.ofInt 64).toInt32 = 64 := by decide
theorem cb_69 : (Int8.ofInt 69).toInt32 = 69 := by decide
theorem cb_70 : (Int8.ofInt 70).toInt32 = 70 := by decide
theorem cb_71 : (Int8.ofInt 71).toInt32 = 71 := by decide
theorem cb_82 : (Int8.ofInt 82).toInt32 = 82 := by decide
theorem cb_96 : (Int8.ofInt 96).toInt32 = 96 := by decide
theorem cb_99 : (Int8.ofInt 99).toInt32 = 99 := by decide
theorem cb_100 : (Int8.ofInt 100).toInt32 = 100 := by decide
theorem cb_107 : (Int8.ofInt 107).toInt32 = 107 := by decide
theorem cb_108 : (Int8.ofInt 108).toInt32 = 108 := by decide
theorem cb_109 : (Int8.ofInt 109).toInt32 = 109 := by decide
theorem cb_115 : (Int8.ofInt 115).toInt32 = 115 := by decide
theorem cb_116 : (Int8.ofInt 116).toInt32 = 116 := by decide
theorem cb_119 : (Int8.ofInt 119).toInt32 = 119 := by decide
theorem cb_124 : (Int8.ofInt 124).toInt32 = 124 := by decide
theorem cb_125 : (Int8.ofInt 125).toInt32 = 125 := by decide
theorem cc_m1 : Int32.ofInt (-1) = (-1) := by decide
theorem cc_0 : Int32.ofInt 0 = 0 := by decide
theorem cc_1 : Int32.ofInt 1 = 1 := by decide
theorem cc_2 : Int32.ofInt 2 = 2 := by decide
theorem cc_3 : Int32.ofInt 3 = 3 := by decide
theorem cc_4 : Int32.ofInt 4 = 4 := by decide
theorem cc_5 : Int32.ofInt 5 = 5 := by decide
theorem cc_6 : Int32.ofInt 6 = 6 := by decide
theorem cl_0 : Int64.ofNat (0 : Fin 2) = 0 := by decide
theorem cl_1 : Int64.ofNat (1 : Fin 2) = 1 := by decide
theorem cs_m999 : (Int16.ofInt (-999)).toInt32 = (-999) := by decide
theorem cs_128 : (Int16.ofInt 128).toInt32 = 128 := by decide
theorem cs_255 : (Int16.ofInt 255).toInt32 = 255 := by decide
theorem cs_332 : (Int16.ofInt 332).toInt32 = 332 := by decide
theorem cs_392 : (Int16.ofInt 392).toInt32 = 392 := by decide
theorem cs_416 : (Int16.ofInt 416).toInt32 = 416 := by decide
theorem cs_656 : (Int16.ofInt 656).toInt32 = 656 := by decide
theorem cs_999 : (Int16.ofInt 999).toInt32 = 999 := by decide
theorem cs_10000 : (Int16.ofInt 10000).toInt32 = 10000 := by decide
theorem cs_12345 : (Int16.ofInt 12345).toInt32 = 12345 := by decide
theorem cs_20000 : (Int16.ofInt 20000).toInt32 = 20000 := by decide
theorem cs_20033 : (Int16.ofInt 20033).toInt32 = 20033 := by decide
theorem hy_St_coder_7d493 : yJ0_coder_7d493.cls ≠ "java/lang/invoke/MethodHandle" ∧ yJ0_coder_7d493.cls ≠ "java/lang/invoke/VarHandle" ∧ (parseMethodDescriptor yJ0_coder_7d493.desc).map (fun d => d.parameters.length) = some 0 := by decide +kernel
theorem hy_Sl_indexOfChar_4cfef : yJ1_indexOfChar_4cfef.cls ≠ "java/lang/invoke/MethodHandle" ∧ yJ1_indexOfChar_4cfef.cls ≠ "java/lang/invoke/VarHandle" ∧ (parseMethodDescriptor yJ1_indexOfChar_4cfef.desc).map (fun d => d.parameters.length) = some 4 := by decide +kernel
theorem hy_Sl_canEncode_9a6ad : yJ1_canEncode_9a6ad.cls ≠ "java/lang/invoke/MethodHandle" ∧ yJ1_canEncode_9a6ad.cls ≠ "java/lang/invoke/VarHandle" ∧ (parseMethodDescriptor yJ1_canEncode_9a6ad.desc).map (fun d => d.parameters.length) = some 1 := by decide +kernel
theorem hy_St_length_8abf5 : yJ0_length_8abf5.cls ≠ "java/lang/invoke/MethodHandle" ∧ yJ0_length_8abf5.cls ≠ "java/lang/invoke/VarHandle" ∧ (parseMethodDescriptor yJ0_length_8abf5.desc).map (fun d => d.parameters.length) = some 0 := by decide +kernel
theorem hy_Sl_indexOf_4cfef : yJ1_indexOf_4cfef.cls ≠ "java/lang/invoke/MethodHandle" ∧ yJ1_indexOf_4cfef.cls ≠ "java/lang/invoke/VarHandle" ∧ (parseMethodDescriptor yJ1_indexOf_4cfef.desc).map (fun d => d.parameters.length) = some 4 := by decide +kernel
theorem hy_St_isLatin1_aae02 : yJ0_isLatin1_aae02.cls ≠ "java/lang/invoke/MethodHandle" ∧ yJ0_isLatin1_aae02.cls ≠ "java/lang/invoke/VarHandle" ∧ (parseMethodDescriptor yJ0_isLatin1_aae02.desc).map (fun d => d.parameters.length) = some 0 := by decide +kernel
theorem hy_St_indexOf_7cf53 : yJ0_indexOf_7cf53.cls ≠ "java/lang/invoke/MethodHandle" ∧ yJ0_indexOf_7cf53.cls ≠ "java/lang/invoke/VarHandle" ∧ (parseMethodDescriptor yJ0_indexOf_7cf53.desc).map (fun d => d.parameters.length) = some 2 := by decide +kernel
theorem hy_Mo_in : yX10_in.cls ≠ "java/lang/invoke/MethodHandle" ∧ yX10_in.cls ≠ "java/lang/invoke/VarHandle" ∧ (parseMethodDescriptor yX10_in.desc).map (fun d => d.parameters.length) = some 3 := by decide +kernel
theorem hy_Mo_worthOf : yX10_worthOf.cls ≠ "java/lang/invoke/MethodHandle" ∧ yX10_worthOf.cls ≠ "java/lang/invoke/VarHandle" ∧ (parseMethodDescriptor yX10_worthOf.desc).map (fun d => d.parameters.length) = some 1 := by decide +kernel
theorem hy_Mo_joined : yX10_joined.cls ≠ "java/lang/invoke/MethodHandle" ∧ yX10_joined.cls ≠ "java/lang/invoke/VarHandle" ∧ (parseMethodDescriptor yX10_joined.desc).map (fun d => d.parameters.length) = some 3 := by decide +kernel
theorem hy_Mo_worked : yX10_worked.cls ≠ "java/lang/invoke/MethodHandle" ∧ yX10_worked.cls ≠ "java/lang/invoke/VarHandle" ∧ (parseMethodDescriptor yX10_worked.desc).map (fun d => d.parameters.length) = some 1 := by decide +kernel
theorem hy_Mo_hasText : yX10_hasText.cls ≠ "java/lang/invoke/MethodHandle" ∧ yX10_hasText.cls ≠ "java/lang/invoke/VarHandle" ∧ (parseMethodDescriptor yX10_hasText.desc).map (fun d => d.parameters.length) = some 1 := by decide +kernel
theorem hy_Mo_worthAt : yX10_worthAt.cls ≠ "java/lang/invoke/MethodHandle" ∧ yX10_worthAt.cls ≠ "java/lang/invoke/VarHandle" ∧ (parseMethodDescriptor yX10_worthAt.desc).map (fun d => d.parameters.length) = some 1 := by decide +kernel
theorem hy_Mo_nextPlace : yX10_nextPlace.cls ≠ "java/lang/invoke/MethodHandle" ∧ yX10_nextPlace.cls ≠ "java/lang/invoke/VarHandle" ∧ (parseMethodDescriptor yX10_nextPlace.desc).map (fun d => d.parameters.length) = some 1 := by decide +kernel
theorem hy_Mo_givesTold : yX10_givesTold.cls ≠ "java/lang/invoke/MethodHandle" ∧ yX10_givesTold.cls ≠ "java/lang/invoke/VarHandle" ∧ (parseMethodDescriptor yX10_givesTold.desc).map (fun d => d.parameters.length) = some 2 := by decide +kernel
theorem hy_Mo_heaps : yX10_heaps.cls ≠ "java/lang/invoke/MethodHandle" ∧ yX10_heaps.cls ≠ "java/lang/invoke/VarHandle" ∧ (parseMethodDescriptor yX10_heaps.desc).map (fun d => d.parameters.length) = some 2 := by decide +kernel
theorem hy_Mo_takes : yX10_takes.cls ≠ "java/lang/invoke/MethodHandle" ∧ yX10_takes.cls ≠ "java/lang/invoke/VarHandle" ∧ (parseMethodDescriptor yX10_takes.desc).map (fun d => d.parameters.length) = some 1 := by decide +kernel
theorem hy_Mo_findChange : yX10_findChange.cls ≠ "java/lang/invoke/MethodHandle" ∧ yX10_findChange.cls ≠ "java/lang/invoke/VarHandle" ∧ (parseMethodDescriptor yX10_findChange.desc).map (fun d => d.parameters.length) = some 2 := by decide +kernel
theorem hy_Mo_error : yX10_error.cls ≠ "java/lang/invoke/MethodHandle" ∧ yX10_error.cls ≠ "java/lang/invoke/VarHandle" ∧ (parseMethodDescriptor yX10_error.desc).map (fun d => d.parameters.length) = some 1 := by decide +kernel
theorem hy_Mo_layBack : yX10_layBack.cls ≠ "java/lang/invoke/MethodHandle" ∧ yX10_layBack.cls ≠ "java/lang/invoke/VarHandle" ∧ (parseMethodDescriptor yX10_layBack.desc).map (fun d => d.parameters.length) = some 1 := by decide +kernel
theorem hy_Mo_strange : yX10_strange.cls ≠ "java/lang/invoke/MethodHandle" ∧ yX10_strange.cls ≠ "java/lang/invoke/VarHandle" ∧ (parseMethodDescriptor yX10_strange.desc).map (fun d => d.parameters.length) = some 1 := by decide +kernel
theorem hy_Mo_layDown : yX10_layDown.cls ≠ "java/lang/invoke/MethodHandle" ∧ yX10_layDown.cls ≠ "java/lang/invoke/VarHandle" ∧ (parseMethodDescriptor yX10_layDown.desc).map (fun d => d.parameters.length) = some 1 := by decide +kernel
theorem hy_Mo_pays : yX10_pays.cls ≠ "java/lang/invoke/MethodHandle" ∧ yX10_pays.cls ≠ "java/lang/invoke/VarHandle" ∧ (parseMethodDescriptor yX10_pays.desc).map (fun d => d.parameters.length) = some 1 := by decide +kernel
theorem hy_Mo_isSort : yX10_isSort.cls ≠ "java/lang/invoke/MethodHandle" ∧ yX10_isSort.cls ≠ "java/lang/invoke/VarHandle" ∧ (parseMethodDescriptor yX10_isSort.desc).map (fun d => d.parameters.length) = some 1 := by decide +kernel
theorem hy_Mo_isUnder : yX10_isUnder.cls ≠ "java/lang/invoke/MethodHandle" ∧ yX10_isUnder.cls ≠ "java/lang/invoke/VarHandle" ∧ (parseMethodDescriptor yX10_isUnder.desc).map (fun d => d.parameters.length) = some 2 := by decide +kernel
theorem hy_Mo_sortGiven : yX10_sortGiven.cls ≠ "java/lang/invoke/MethodHandle" ∧ yX10_sortGiven.cls ≠ "java/lang/invoke/VarHandle" ∧ (parseMethodDescriptor yX10_sortGiven.desc).map (fun d => d.parameters.length) = some 1 := by decide +kernel
theorem hy_Mo_heapWorth : yX10_heapWorth.cls ≠ "java/lang/invoke/MethodHandle" ∧ yX10_heapWorth.cls ≠ "java/lang/invoke/VarHandle" ∧ (parseMethodDescriptor yX10_heapWorth.desc).map (fun d => d.parameters.length) = some 0 := by decide +kernel
theorem hy_Mo_held : yX10_held.cls ≠ "java/lang/invoke/MethodHandle" ∧ yX10_held.cls ≠ "java/lang/invoke/VarHandle" ∧ (parseMethodDescriptor yX10_held.desc).map (fun d => d.parameters.length) = some 3 := by decide +kernel
theorem hy_Mo_goes : yX10_goes.cls ≠ "java/lang/invoke/MethodHandle" ∧ yX10_goes.cls ≠ "java/lang/invoke/VarHandle" ∧ (parseMethodDescriptor yX10_goes.desc).map (fun d => d.parameters.length) = some 2 := by decide +kernel
theorem hy_Mo_has : yX10_has.cls ≠ "java/lang/invoke/MethodHandle" ∧ yX10_has.cls ≠ "java/lang/invoke/VarHandle" ∧ (parseMethodDescriptor yX10_has.desc).map (fun d => d.parameters.length) = some 2 := by decide +kernel
theorem hy_Mo_mayGo : yX10_mayGo.cls ≠ "java/lang/invoke/MethodHandle" ∧ yX10_mayGo.cls ≠ "java/lang/invoke/VarHandle" ∧ (parseMethodDescriptor yX10_mayGo.desc).map (fun d => d.parameters.length) = some 2 := by decide +kernel
theorem hy_Mo_allRight : yX10_allRight.cls ≠ "java/lang/invoke/MethodHandle" ∧ yX10_allRight.cls ≠ "java/lang/invoke/VarHandle" ∧ (parseMethodDescriptor yX10_allRight.desc).map (fun d => d.parameters.length) = some 0 := by decide +kernel
theorem hy_Mo_findQueue : yX10_findQueue.cls ≠ "java/lang/invoke/MethodHandle" ∧ yX10_findQueue.cls ≠ "java/lang/invoke/VarHandle" ∧ (parseMethodDescriptor yX10_findQueue.desc).map (fun d => d.parameters.length) = some 1 := by decide +kernel
theorem hy_Mo_isSheet : yX10_isSheet.cls ≠ "java/lang/invoke/MethodHandle" ∧ yX10_isSheet.cls ≠ "java/lang/invoke/VarHandle" ∧ (parseMethodDescriptor yX10_isSheet.desc).map (fun d => d.parameters.length) = some 1 := by decide +kernel
theorem hy_Mo_likes : yX10_likes.cls ≠ "java/lang/invoke/MethodHandle" ∧ yX10_likes.cls ≠ "java/lang/invoke/VarHandle" ∧ (parseMethodDescriptor yX10_likes.desc).map (fun d => d.parameters.length) = some 1 := by decide +kernel
theorem hy_Mo_isPerson : yX10_isPerson.cls ≠ "java/lang/invoke/MethodHandle" ∧ yX10_isPerson.cls ≠ "java/lang/invoke/VarHandle" ∧ (parseMethodDescriptor yX10_isPerson.desc).map (fun d => d.parameters.length) = some 1 := by decide +kernel
theorem hy_Mo_draw : yX10_draw.cls ≠ "java/lang/invoke/MethodHandle" ∧ yX10_draw.cls ≠ "java/lang/invoke/VarHandle" ∧ (parseMethodDescriptor yX10_draw.desc).map (fun d => d.parameters.length) = some 0 := by decide +kernel
theorem hy_Mo_gets : yX10_gets.cls ≠ "java/lang/invoke/MethodHandle" ∧ yX10_gets.cls ≠ "java/lang/invoke/VarHandle" ∧ (parseMethodDescriptor yX10_gets.desc).map (fun d => d.parameters.length) = some 5 := by decide +kernel
theorem hy_Mo_carry : yX10_carry.cls ≠ "java/lang/invoke/MethodHandle" ∧ yX10_carry.cls ≠ "java/lang/invoke/VarHandle" ∧ (parseMethodDescriptor yX10_carry.desc).map (fun d => d.parameters.length) = some 2 := by decide +kernel
theorem hy_Mo_queues : yX10_queues.cls ≠ "java/lang/invoke/MethodHandle" ∧ yX10_queues.cls ≠ "java/lang/invoke/VarHandle" ∧ (parseMethodDescriptor yX10_queues.desc).map (fun d => d.parameters.length) = some 3 := by decide +kernel
theorem hy_Mo_purse : yX10_purse.cls ≠ "java/lang/invoke/MethodHandle" ∧ yX10_purse.cls ≠ "java/lang/invoke/VarHandle" ∧ (parseMethodDescriptor yX10_purse.desc).map (fun d => d.parameters.length) = some 1 := by decide +kernel
theorem hy_Mo_tallies : yX10_tallies.cls ≠ "java/lang/invoke/MethodHandle" ∧ yX10_tallies.cls ≠ "java/lang/invoke/VarHandle" ∧ (parseMethodDescriptor yX10_tallies.desc).map (fun d => d.parameters.length) = some 3 := by decide +kernel
theorem hy_Mo_step1 : yX10_step1.cls ≠ "java/lang/invoke/MethodHandle" ∧ yX10_step1.cls ≠ "java/lang/invoke/VarHandle" ∧ (parseMethodDescriptor yX10_step1.desc).map (fun d => d.parameters.length) = some 2 := by decide +kernel
theorem hy_Mo_both : yX10_both.cls ≠ "java/lang/invoke/MethodHandle" ∧ yX10_both.cls ≠ "java/lang/invoke/VarHandle" ∧ (parseMethodDescriptor yX10_both.desc).map (fun d => d.parameters.length) = some 0 := by decide +kernel
theorem hy_Mo_look : yX10_look.cls ≠ "java/lang/invoke/MethodHandle" ∧ yX10_look.cls ≠ "java/lang/invoke/VarHandle" ∧ (parseMethodDescriptor yX10_look.desc).map (fun d => d.parameters.length) = some 0 := by decide +kernel
theorem hy_Mo_compared : yX10_compared.cls ≠ "java/lang/invoke/MethodHandle" ∧ yX10_compared.cls ≠ "java/lang/invoke/VarHandle" ∧ (parseMethodDescriptor yX10_compared.desc).map (fun d => d.parameters.length) = some 0 := by decide +kernel
theorem hy_Mo_sum : yX10_sum.cls ≠ "java/lang/invoke/MethodHandle" ∧ yX10_sum.cls ≠ "java/lang/invoke/VarHandle" ∧ (parseMethodDescriptor yX10_sum.desc).map (fun d => d.parameters.length) = some 0 := by decide +kernel
theorem hy_Mo_product : yX10_product.cls ≠ "java/lang/invoke/MethodHandle" ∧ yX10_product.cls ≠ "java/lang/invoke/VarHandle" ∧ (parseMethodDescriptor yX10_product.desc).map (fun d => d.parameters.length) = some 0 := by decide +kernel
theorem hy_Mo_one : yX10_one.cls ≠ "java/lang/invoke/MethodHandle" ∧ yX10_one.cls ≠ "java/lang/invoke/VarHandle" ∧ (parseMethodDescriptor yX10_one.desc).map (fun d => d.parameters.length) = some 0 := by decide +kernel
theorem hy_Mo_whole : yX10_whole.cls ≠ "java/lang/invoke/MethodHandle" ∧ yX10_whole.cls ≠ "java/lang/invoke/VarHandle" ∧ (parseMethodDescriptor yX10_whole.desc).map (fun d => d.parameters.length) = some 0 := by decide +kernel
theorem hy_Mo_opens : yX10_opens.cls ≠ "java/lang/invoke/MethodHandle" ∧ yX10_opens.cls ≠ "java/lang/invoke/VarHandle" ∧ (parseMethodDescriptor yX10_opens.desc).map (fun d => d.parameters.length) = some 0 := by decide +kernel
theorem hy_Mo_isName : yX10_isName.cls ≠ "java/lang/invoke/MethodHandle" ∧ yX10_isName.cls ≠ "java/lang/invoke/VarHandle" ∧ (parseMethodDescriptor yX10_isName.desc).map (fun d => d.parameters.length) = some 1 := by decide +kernel
theorem hy_Mo_begins : yX10_begins.cls ≠ "java/lang/invoke/MethodHandle" ∧ yX10_begins.cls ≠ "java/lang/invoke/VarHandle" ∧ (parseMethodDescriptor yX10_begins.desc).map (fun d => d.parameters.length) = some 1 := by decide +kernel
theorem hy_Mo_dropsAs : yX10_dropsAs.cls ≠ "java/lang/invoke/MethodHandle" ∧ yX10_dropsAs.cls ≠ "java/lang/invoke/VarHandle" ∧ (parseMethodDescriptor yX10_dropsAs.desc).map (fun d => d.parameters.length) = some 2 := by decide +kernel
theorem hy_Mo_above : yX10_above.cls ≠ "java/lang/invoke/MethodHandle" ∧ yX10_above.cls ≠ "java/lang/invoke/VarHandle" ∧ (parseMethodDescriptor yX10_above.desc).map (fun d => d.parameters.length) = some 1 := by decide +kernel
theorem hy_Mo_givesAs : yX10_givesAs.cls ≠ "java/lang/invoke/MethodHandle" ∧ yX10_givesAs.cls ≠ "java/lang/invoke/VarHandle" ∧ (parseMethodDescriptor yX10_givesAs.desc).map (fun d => d.parameters.length) = some 2 := by decide +kernel
theorem hy_Mo_keepsAs : yX10_keepsAs.cls ≠ "java/lang/invoke/MethodHandle" ∧ yX10_keepsAs.cls ≠ "java/lang/invoke/VarHandle" ∧ (parseMethodDescriptor yX10_keepsAs.desc).map (fun d => d.parameters.length) = some 2 := by decide +kernel
theorem hy_Mo_partsAs : yX10_partsAs.cls ≠ "java/lang/invoke/MethodHandle" ∧ yX10_partsAs.cls ≠ "java/lang/invoke/VarHandle" ∧ (parseMethodDescriptor yX10_partsAs.desc).map (fun d => d.parameters.length) = some 2 := by decide +kernel
theorem hy_Mo_wrongs : yX10_wrongs.cls ≠ "java/lang/invoke/MethodHandle" ∧ yX10_wrongs.cls ≠ "java/lang/invoke/VarHandle" ∧ (parseMethodDescriptor yX10_wrongs.desc).map (fun d => d.parameters.length) = some 3 := by decide +kernel
theorem hy_Mo_divisor : yX10_divisor.cls ≠ "java/lang/invoke/MethodHandle" ∧ yX10_divisor.cls ≠ "java/lang/invoke/VarHandle" ∧ (parseMethodDescriptor yX10_divisor.desc).map (fun d => d.parameters.length) = some 2 := by decide +kernel
theorem hy_He_takeOut : yX3_takeOut.cls ≠ "java/lang/invoke/MethodHandle" ∧ yX3_takeOut.cls ≠ "java/lang/invoke/VarHandle" ∧ (parseMethodDescriptor yX3_takeOut.desc).map (fun d => d.parameters.length) = some 1 := by decide +kernel
theorem hy_He_at : yX3_at.cls ≠ "java/lang/invoke/MethodHandle" ∧ yX3_at.cls ≠ "java/lang/invoke/VarHandle" ∧ (parseMethodDescriptor yX3_at.desc).map (fun d => d.parameters.length) = some 1 := by decide +kernel
theorem hy_Te_joined : yX7_joined.cls ≠ "java/lang/invoke/MethodHandle" ∧ yX7_joined.cls ≠ "java/lang/invoke/VarHandle" ∧ (parseMethodDescriptor yX7_joined.desc).map (fun d => d.parameters.length) = some 3 := by decide +kernel
theorem hy_Te_valueOf : yX7_valueOf.cls ≠ "java/lang/invoke/MethodHandle" ∧ yX7_valueOf.cls ≠ "java/lang/invoke/VarHandle" ∧ (parseMethodDescriptor yX7_valueOf.desc).map (fun d => d.parameters.length) = some 2 := by decide +kernel
theorem hy_Ch_handOut : yX0_handOut.cls ≠ "java/lang/invoke/MethodHandle" ∧ yX0_handOut.cls ≠ "java/lang/invoke/VarHandle" ∧ (parseMethodDescriptor yX0_handOut.desc).map (fun d => d.parameters.length) = some 3 := by decide +kernel
theorem hy_Te_valueWith : yX7_valueWith.cls ≠ "java/lang/invoke/MethodHandle" ∧ yX7_valueWith.cls ≠ "java/lang/invoke/VarHandle" ∧ (parseMethodDescriptor yX7_valueWith.desc).map (fun d => d.parameters.length) = some 1 := by decide +kernel
theorem hy_Te_isThere : yX7_isThere.cls ≠ "java/lang/invoke/MethodHandle" ∧ yX7_isThere.cls ≠ "java/lang/invoke/VarHandle" ∧ (parseMethodDescriptor yX7_isThere.desc).map (fun d => d.parameters.length) = some 0 := by decide +kernel
theorem hy_Ha_worthOfCoin : yX2_worthOfCoin.cls ≠ "java/lang/invoke/MethodHandle" ∧ yX2_worthOfCoin.cls ≠ "java/lang/invoke/VarHandle" ∧ (parseMethodDescriptor yX2_worthOfCoin.desc).map (fun d => d.parameters.length) = some 1 := by decide +kernel
theorem hy_He_size : yX3_size.cls ≠ "java/lang/invoke/MethodHandle" ∧ yX3_size.cls ≠ "java/lang/invoke/VarHandle" ∧ (parseMethodDescriptor yX3_size.desc).map (fun d => d.parameters.length) = some 0 := by decide +kernel
theorem hy_Ha_greatestWorth : yX2_greatestWorth.cls ≠ "java/lang/invoke/MethodHandle" ∧ yX2_greatestWorth.cls ≠ "java/lang/invoke/VarHandle" ∧ (parseMethodDescriptor yX2_greatestWorth.desc).map (fun d => d.parameters.length) = some 1 := by decide +kernel
theorem hy_Ha_isSort : yX2_isSort.cls ≠ "java/lang/invoke/MethodHandle" ∧ yX2_isSort.cls ≠ "java/lang/invoke/VarHandle" ∧ (parseMethodDescriptor yX2_isSort.desc).map (fun d => d.parameters.length) = some 1 := by decide +kernel
theorem hy_He_closeGaps : yX3_closeGaps.cls ≠ "java/lang/invoke/MethodHandle" ∧ yX3_closeGaps.cls ≠ "java/lang/invoke/VarHandle" ∧ (parseMethodDescriptor yX3_closeGaps.desc).map (fun d => d.parameters.length) = some 0 := by decide +kernel
theorem hy_Ch_asTold : yX0_asTold.cls ≠ "java/lang/invoke/MethodHandle" ∧ yX0_asTold.cls ≠ "java/lang/invoke/VarHandle" ∧ (parseMethodDescriptor yX0_asTold.desc).map (fun d => d.parameters.length) = some 1 := by decide +kernel
theorem hy_Ch_fromFirst : yX0_fromFirst.cls ≠ "java/lang/invoke/MethodHandle" ∧ yX0_fromFirst.cls ≠ "java/lang/invoke/VarHandle" ∧ (parseMethodDescriptor yX0_fromFirst.desc).map (fun d => d.parameters.length) = some 2 := by decide +kernel
theorem hy_Ch_fromLatest : yX0_fromLatest.cls ≠ "java/lang/invoke/MethodHandle" ∧ yX0_fromLatest.cls ≠ "java/lang/invoke/VarHandle" ∧ (parseMethodDescriptor yX0_fromLatest.desc).map (fun d => d.parameters.length) = some 2 := by decide +kernel
theorem hy_Ch_greatestFirst : yX0_greatestFirst.cls ≠ "java/lang/invoke/MethodHandle" ∧ yX0_greatestFirst.cls ≠ "java/lang/invoke/VarHandle" ∧ (parseMethodDescriptor yX0_greatestFirst.desc).map (fun d => d.parameters.length) = some 1 := by decide +kernel
theorem hy_Ha_worthOf : yX2_worthOf.cls ≠ "java/lang/invoke/MethodHandle" ∧ yX2_worthOf.cls ≠ "java/lang/invoke/VarHandle" ∧ (parseMethodDescriptor yX2_worthOf.desc).map (fun d => d.parameters.length) = some 1 := by decide +kernel
theorem hy_Ch_marks : yX0_marks.cls ≠ "java/lang/invoke/MethodHandle" ∧ yX0_marks.cls ≠ "java/lang/invoke/VarHandle" ∧ (parseMethodDescriptor yX0_marks.desc).map (fun d => d.parameters.length) = some 0 := by decide +kernel
theorem hy_He_addLatest : yX3_addLatest.cls ≠ "java/lang/invoke/MethodHandle" ∧ yX3_addLatest.cls ≠ "java/lang/invoke/VarHandle" ∧ (parseMethodDescriptor yX3_addLatest.desc).map (fun d => d.parameters.length) = some 1 := by decide +kernel
theorem hy_Ch_comesFrom : yX0_comesFrom.cls ≠ "java/lang/invoke/MethodHandle" ∧ yX0_comesFrom.cls ≠ "java/lang/invoke/VarHandle" ∧ (parseMethodDescriptor yX0_comesFrom.desc).map (fun d => d.parameters.length) = some 3 := by decide +kernel
theorem hy_He_hasMarked : yX3_hasMarked.cls ≠ "java/lang/invoke/MethodHandle" ∧ yX3_hasMarked.cls ≠ "java/lang/invoke/VarHandle" ∧ (parseMethodDescriptor yX3_hasMarked.desc).map (fun d => d.parameters.length) = some 0 := by decide +kernel
theorem hy_He_copyFrom : yX3_copyFrom.cls ≠ "java/lang/invoke/MethodHandle" ∧ yX3_copyFrom.cls ≠ "java/lang/invoke/VarHandle" ∧ (parseMethodDescriptor yX3_copyFrom.desc).map (fun d => d.parameters.length) = some 1 := by decide +kernel
theorem hy_Bx_error : yX9_error.cls ≠ "java/lang/invoke/MethodHandle" ∧ yX9_error.cls ≠ "java/lang/invoke/VarHandle" ∧ (parseMethodDescriptor yX9_error.desc).map (fun d => d.parameters.length) = some 1 := by decide +kernel
theorem hy_Fo_goesToMarked : yX1_goesToMarked.cls ≠ "java/lang/invoke/MethodHandle" ∧ yX1_goesToMarked.cls ≠ "java/lang/invoke/VarHandle" ∧ (parseMethodDescriptor yX1_goesToMarked.desc).map (fun d => d.parameters.length) = some 1 := by decide +kernel
theorem hy_Ha_pays : yX2_pays.cls ≠ "java/lang/invoke/MethodHandle" ∧ yX2_pays.cls ≠ "java/lang/invoke/VarHandle" ∧ (parseMethodDescriptor yX2_pays.desc).map (fun d => d.parameters.length) = some 1 := by decide +kernel
theorem hy_Ki_isKind : yX4_isKind.cls ≠ "java/lang/invoke/MethodHandle" ∧ yX4_isKind.cls ≠ "java/lang/invoke/VarHandle" ∧ (parseMethodDescriptor yX4_isKind.desc).map (fun d => d.parameters.length) = some 1 := by decide +kernel
theorem hy_Ki_above : yX4_above.cls ≠ "java/lang/invoke/MethodHandle" ∧ yX4_above.cls ≠ "java/lang/invoke/VarHandle" ∧ (parseMethodDescriptor yX4_above.desc).map (fun d => d.parameters.length) = some 1 := by decide +kernel
theorem hy_Ki_isOrUnder : yX4_isOrUnder.cls ≠ "java/lang/invoke/MethodHandle" ∧ yX4_isOrUnder.cls ≠ "java/lang/invoke/VarHandle" ∧ (parseMethodDescriptor yX4_isOrUnder.desc).map (fun d => d.parameters.length) = some 2 := by decide +kernel
theorem hy_Vo_at : yX8_at.cls ≠ "java/lang/invoke/MethodHandle" ∧ yX8_at.cls ≠ "java/lang/invoke/VarHandle" ∧ (parseMethodDescriptor yX8_at.desc).map (fun d => d.parameters.length) = some 1 := by decide +kernel
theorem hy_Vo_size : yX8_size.cls ≠ "java/lang/invoke/MethodHandle" ∧ yX8_size.cls ≠ "java/lang/invoke/VarHandle" ∧ (parseMethodDescriptor yX8_size.desc).map (fun d => d.parameters.length) = some 0 := by decide +kernel
theorem hy_Ch_isRight : yX0_isRight.cls ≠ "java/lang/invoke/MethodHandle" ∧ yX0_isRight.cls ≠ "java/lang/invoke/VarHandle" ∧ (parseMethodDescriptor yX0_isRight.desc).map (fun d => d.parameters.length) = some 0 := by decide +kernel
theorem hy_Ch_size : yX0_size.cls ≠ "java/lang/invoke/MethodHandle" ∧ yX0_size.cls ≠ "java/lang/invoke/VarHandle" ∧ (parseMethodDescriptor yX0_size.desc).map (fun d => d.parameters.length) = some 0 := by decide +kernel
theorem hy_Ch_sum : yX0_sum.cls ≠ "java/lang/invoke/MethodHandle" ∧ yX0_sum.cls ≠ "java/lang/invoke/VarHandle" ∧ (parseMethodDescriptor yX0_sum.desc).map (fun d => d.parameters.length) = some 0 := by decide +kernel
theorem hy_Ch_at : yX0_at.cls ≠ "java/lang/invoke/MethodHandle" ∧ yX0_at.cls ≠ "java/lang/invoke/VarHandle" ∧ (parseMethodDescriptor yX0_at.desc).map (fun d => d.parameters.length) = some 1 := by decide +kernel
theorem hy_Fo_foresee : yX1_foresee.cls ≠ "java/lang/invoke/MethodHandle" ∧ yX1_foresee.cls ≠ "java/lang/invoke/VarHandle" ∧ (parseMethodDescriptor yX1_foresee.desc).map (fun d => d.parameters.length) = some 2 := by decide +kernel
theorem hy_Ha_firstUnlike : yX2_firstUnlike.cls ≠ "java/lang/invoke/MethodHandle" ∧ yX2_firstUnlike.cls ≠ "java/lang/invoke/VarHandle" ∧ (parseMethodDescriptor yX2_firstUnlike.desc).map (fun d => d.parameters.length) = some 0 := by decide +kernel
theorem hy_Ha_heapWorth : yX2_heapWorth.cls ≠ "java/lang/invoke/MethodHandle" ∧ yX2_heapWorth.cls ≠ "java/lang/invoke/VarHandle" ∧ (parseMethodDescriptor yX2_heapWorth.desc).map (fun d => d.parameters.length) = some 0 := by decide +kernel
theorem hy_Fo_goesRight : yX1_goesRight.cls ≠ "java/lang/invoke/MethodHandle" ∧ yX1_goesRight.cls ≠ "java/lang/invoke/VarHandle" ∧ (parseMethodDescriptor yX1_goesRight.desc).map (fun d => d.parameters.length) = some 2 := by decide +kernel
theorem hy_Fo_allGoRight : yX1_allGoRight.cls ≠ "java/lang/invoke/MethodHandle" ∧ yX1_allGoRight.cls ≠ "java/lang/invoke/VarHandle" ∧ (parseMethodDescriptor yX1_allGoRight.desc).map (fun d => d.parameters.length) = some 2 := by decide +kernel
theorem hy_Ha_isPerson : yX2_isPerson.cls ≠ "java/lang/invoke/MethodHandle" ∧ yX2_isPerson.cls ≠ "java/lang/invoke/VarHandle" ∧ (parseMethodDescriptor yX2_isPerson.desc).map (fun d => d.parameters.length) = some 1 := by decide +kernel
theorem hy_Ha_coinsOf : yX2_coinsOf.cls ≠ "java/lang/invoke/MethodHandle" ∧ yX2_coinsOf.cls ≠ "java/lang/invoke/VarHandle" ∧ (parseMethodDescriptor yX2_coinsOf.desc).map (fun d => d.parameters.length) = some 2 := by decide +kernel
theorem hy_Sh_at : yX6_at.cls ≠ "java/lang/invoke/MethodHandle" ∧ yX6_at.cls ≠ "java/lang/invoke/VarHandle" ∧ (parseMethodDescriptor yX6_at.desc).map (fun d => d.parameters.length) = some 1 := by decide +kernel
theorem hy_Sh_size : yX6_size.cls ≠ "java/lang/invoke/MethodHandle" ∧ yX6_size.cls ≠ "java/lang/invoke/VarHandle" ∧ (parseMethodDescriptor yX6_size.desc).map (fun d => d.parameters.length) = some 0 := by decide +kernel
theorem hy_Fo_fewestAtDawn : yX1_fewestAtDawn.cls ≠ "java/lang/invoke/MethodHandle" ∧ yX1_fewestAtDawn.cls ≠ "java/lang/invoke/VarHandle" ∧ (parseMethodDescriptor yX1_fewestAtDawn.desc).map (fun d => d.parameters.length) = some 1 := by decide +kernel
theorem hy_Fo_queueUp : yX1_queueUp.cls ≠ "java/lang/invoke/MethodHandle" ∧ yX1_queueUp.cls ≠ "java/lang/invoke/VarHandle" ∧ (parseMethodDescriptor yX1_queueUp.desc).map (fun d => d.parameters.length) = some 1 := by decide +kernel
theorem hy_Sh_isMissing : yX6_isMissing.cls ≠ "java/lang/invoke/MethodHandle" ∧ yX6_isMissing.cls ≠ "java/lang/invoke/VarHandle" ∧ (parseMethodDescriptor yX6_isMissing.desc).map (fun d => d.parameters.length) = some 0 := by decide +kernel
theorem hy_Bx_sheetOf : yX9_sheetOf.cls ≠ "java/lang/invoke/MethodHandle" ∧ yX9_sheetOf.cls ≠ "java/lang/invoke/VarHandle" ∧ (parseMethodDescriptor yX9_sheetOf.desc).map (fun d => d.parameters.length) = some 1 := by decide +kernel
theorem hy_Fo_likesOf : yX1_likesOf.cls ≠ "java/lang/invoke/MethodHandle" ∧ yX1_likesOf.cls ≠ "java/lang/invoke/VarHandle" ∧ (parseMethodDescriptor yX1_likesOf.desc).map (fun d => d.parameters.length) = some 1 := by decide +kernel
theorem hy_Fo_gainBy : yX1_gainBy.cls ≠ "java/lang/invoke/MethodHandle" ∧ yX1_gainBy.cls ≠ "java/lang/invoke/VarHandle" ∧ (parseMethodDescriptor yX1_gainBy.desc).map (fun d => d.parameters.length) = some 1 := by decide +kernel
theorem hy_Fo_dearest : yX1_dearest.cls ≠ "java/lang/invoke/MethodHandle" ∧ yX1_dearest.cls ≠ "java/lang/invoke/VarHandle" ∧ (parseMethodDescriptor yX1_dearest.desc).map (fun d => d.parameters.length) = some 1 := by decide +kernel
theorem hy_Bx_takeIn : yX9_takeIn.cls ≠ "java/lang/invoke/MethodHandle" ∧ yX9_takeIn.cls ≠ "java/lang/invoke/VarHandle" ∧ (parseMethodDescriptor yX9_takeIn.desc).map (fun d => d.parameters.length) = some 1 := by decide +kernel
theorem hy_Ha_draw : yX2_draw.cls ≠ "java/lang/invoke/MethodHandle" ∧ yX2_draw.cls ≠ "java/lang/invoke/VarHandle" ∧ (parseMethodDescriptor yX2_draw.desc).map (fun d => d.parameters.length) = some 0 := by decide +kernel
theorem hy_He_takeAll : yX3_takeAll.cls ≠ "java/lang/invoke/MethodHandle" ∧ yX3_takeAll.cls ≠ "java/lang/invoke/VarHandle" ∧ (parseMethodDescriptor yX3_takeAll.desc).map (fun d => d.parameters.length) = some 0 := by decide +kernel
theorem hy_Ha_addByte : yX2_addByte.cls ≠ "java/lang/invoke/MethodHandle" ∧ yX2_addByte.cls ≠ "java/lang/invoke/VarHandle" ∧ (parseMethodDescriptor yX2_addByte.desc).map (fun d => d.parameters.length) = some 1 := by decide +kernel
theorem hy_Fo_getsIn : yX1_getsIn.cls ≠ "java/lang/invoke/MethodHandle" ∧ yX1_getsIn.cls ≠ "java/lang/invoke/VarHandle" ∧ (parseMethodDescriptor yX1_getsIn.desc).map (fun d => d.parameters.length) = some 2 := by decide +kernel
theorem hy_Fo_hasMore : yX1_hasMore.cls ≠ "java/lang/invoke/MethodHandle" ∧ yX1_hasMore.cls ≠ "java/lang/invoke/VarHandle" ∧ (parseMethodDescriptor yX1_hasMore.desc).map (fun d => d.parameters.length) = some 1 := by decide +kernel
theorem hy_Fo_paysFromPurse : yX1_paysFromPurse.cls ≠ "java/lang/invoke/MethodHandle" ∧ yX1_paysFromPurse.cls ≠ "java/lang/invoke/VarHandle" ∧ (parseMethodDescriptor yX1_paysFromPurse.desc).map (fun d => d.parameters.length) = some 2 := by decide +kernel
theorem hy_Fo_fewestGoes : yX1_fewestGoes.cls ≠ "java/lang/invoke/MethodHandle" ∧ yX1_fewestGoes.cls ≠ "java/lang/invoke/VarHandle" ∧ (parseMethodDescriptor yX1_fewestGoes.desc).map (fun d => d.parameters.length) = some 3 := by decide +kernel
theorem hy_Ha_setCoins : yX2_setCoins.cls ≠ "java/lang/invoke/MethodHandle" ∧ yX2_setCoins.cls ≠ "java/lang/invoke/VarHandle" ∧ (parseMethodDescriptor yX2_setCoins.desc).map (fun d => d.parameters.length) = some 3 := by decide +kernel
theorem hy_Ha_comesToPurse : yX2_comesToPurse.cls ≠ "java/lang/invoke/MethodHandle" ∧ yX2_comesToPurse.cls ≠ "java/lang/invoke/VarHandle" ∧ (parseMethodDescriptor yX2_comesToPurse.desc).map (fun d => d.parameters.length) = some 2 := by decide +kernel
theorem hy_Te_copyFrom : yX7_copyFrom.cls ≠ "java/lang/invoke/MethodHandle" ∧ yX7_copyFrom.cls ≠ "java/lang/invoke/VarHandle" ∧ (parseMethodDescriptor yX7_copyFrom.desc).map (fun d => d.parameters.length) = some 1 := by decide +kernel
theorem hy_Ha_copyFrom : yX2_copyFrom.cls ≠ "java/lang/invoke/MethodHandle" ∧ yX2_copyFrom.cls ≠ "java/lang/invoke/VarHandle" ∧ (parseMethodDescriptor yX2_copyFrom.desc).map (fun d => d.parameters.length) = some 1 := by decide +kernel
theorem hy_He_init : yX3_init.cls ≠ "java/lang/invoke/MethodHandle" ∧ yX3_init.cls ≠ "java/lang/invoke/VarHandle" ∧ (parseMethodDescriptor yX3_init.desc).map (fun d => d.parameters.length) = some 0 := by decide +kernel
theorem hy_Te_init : yX7_init.cls ≠ "java/lang/invoke/MethodHandle" ∧ yX7_init.cls ≠ "java/lang/invoke/VarHandle" ∧ (parseMethodDescriptor yX7_init.desc).map (fun d => d.parameters.length) = some 0 := by decide +kernel
theorem hy_Sh_init : yX6_init.cls ≠ "java/lang/invoke/MethodHandle" ∧ yX6_init.cls ≠ "java/lang/invoke/VarHandle" ∧ (parseMethodDescriptor yX6_init.desc).map (fun d => d.parameters.length) = some 0 := by decide +kernel
theorem hy_Vo_init : yX8_init.cls ≠ "java/lang/invoke/MethodHandle" ∧ yX8_init.cls ≠ "java/lang/invoke/VarHandle" ∧ (parseMethodDescriptor yX8_init.desc).map (fun d => d.parameters.length) = some 0 := by decide +kernel
theorem hy_Re_init : yX5_init.cls ≠ "java/lang/invoke/MethodHandle" ∧ yX5_init.cls ≠ "java/lang/invoke/VarHandle" ∧ (parseMethodDescriptor yX5_init.desc).map (fun d => d.parameters.length) = some 1 := by decide +kernel
theorem hy_Fo_init : yX1_init.cls ≠ "java/lang/invoke/MethodHandle" ∧ yX1_init.cls ≠ "java/lang/invoke/VarHandle" ∧ (parseMethodDescriptor yX1_init.desc).map (fun d => d.parameters.length) = some 2 := by decide +kernel
theorem hy_Ch_init : yX0_init.cls ≠ "java/lang/invoke/MethodHandle" ∧ yX0_init.cls ≠ "java/lang/invoke/VarHandle" ∧ (parseMethodDescriptor yX0_init.desc).map (fun d => d.parameters.length) = some 1 := by decide +kernel
theorem hy_Ha_init : yX2_init.cls ≠ "java/lang/invoke/MethodHandle" ∧ yX2_init.cls ≠ "java/lang/invoke/VarHandle" ∧ (parseMethodDescriptor yX2_init.desc).map (fun d => d.parameters.length) = some 0 := by decide +kernel
theorem hy_Sh_hasPart : yX6_hasPart.cls ≠ "java/lang/invoke/MethodHandle" ∧ yX6_hasPart.cls ≠ "java/lang/invoke/VarHandle" ∧ (parseMethodDescriptor yX6_hasPart.desc).map (fun d => d.parameters.length) = some 2 := by decide +kernel
theorem hy_Sh_writePart : yX6_writePart.cls ≠ "java/lang/invoke/MethodHandle" ∧ yX6_writePart.cls ≠ "java/lang/invoke/VarHandle" ∧ (parseMethodDescriptor yX6_writePart.desc).map (fun d => d.parameters.length) = some 4 := by decide +kernel
theorem hy_Sh_isAlike : yX6_isAlike.cls ≠ "java/lang/invoke/MethodHandle" ∧ yX6_isAlike.cls ≠ "java/lang/invoke/VarHandle" ∧ (parseMethodDescriptor yX6_isAlike.desc).map (fun d => d.parameters.length) = some 1 := by decide +kernel
theorem hy_Fo_isChange : yX1_isChange.cls ≠ "java/lang/invoke/MethodHandle" ∧ yX1_isChange.cls ≠ "java/lang/invoke/VarHandle" ∧ (parseMethodDescriptor yX1_isChange.desc).map (fun d => d.parameters.length) = some 1 := by decide +kernel
theorem hy_Fo_kindsGiving : yX1_kindsGiving.cls ≠ "java/lang/invoke/MethodHandle" ∧ yX1_kindsGiving.cls ≠ "java/lang/invoke/VarHandle" ∧ (parseMethodDescriptor yX1_kindsGiving.desc).map (fun d => d.parameters.length) = some 2 := by decide +kernel
theorem hy_Fo_standNext : yX1_standNext.cls ≠ "java/lang/invoke/MethodHandle" ∧ yX1_standNext.cls ≠ "java/lang/invoke/VarHandle" ∧ (parseMethodDescriptor yX1_standNext.desc).map (fun d => d.parameters.length) = some 3 := by decide +kernel
theorem hy_Fo_ordered : yX1_ordered.cls ≠ "java/lang/invoke/MethodHandle" ∧ yX1_ordered.cls ≠ "java/lang/invoke/VarHandle" ∧ (parseMethodDescriptor yX1_ordered.desc).map (fun d => d.parameters.length) = some 1 := by decide +kernel
theorem hy_Fo_mostRight : yX1_mostRight.cls ≠ "java/lang/invoke/MethodHandle" ∧ yX1_mostRight.cls ≠ "java/lang/invoke/VarHandle" ∧ (parseMethodDescriptor yX1_mostRight.desc).map (fun d => d.parameters.length) = some 0 := by decide +kernel
theorem hy_Fo_putInOrder : yX1_putInOrder.cls ≠ "java/lang/invoke/MethodHandle" ∧ yX1_putInOrder.cls ≠ "java/lang/invoke/VarHandle" ∧ (parseMethodDescriptor yX1_putInOrder.desc).map (fun d => d.parameters.length) = some 0 := by decide +kernel
theorem hy_Fo_queueLength : yX1_queueLength.cls ≠ "java/lang/invoke/MethodHandle" ∧ yX1_queueLength.cls ≠ "java/lang/invoke/VarHandle" ∧ (parseMethodDescriptor yX1_queueLength.desc).map (fun d => d.parameters.length) = some 0 := by decide +kernel
theorem hy_Ha_purseWorth : yX2_purseWorth.cls ≠ "java/lang/invoke/MethodHandle" ∧ yX2_purseWorth.cls ≠ "java/lang/invoke/VarHandle" ∧ (parseMethodDescriptor yX2_purseWorth.desc).map (fun d => d.parameters.length) = some 1 := by decide +kernel
theorem hy_Sh_write : yX6_write.cls ≠ "java/lang/invoke/MethodHandle" ∧ yX6_write.cls ≠ "java/lang/invoke/VarHandle" ∧ (parseMethodDescriptor yX6_write.desc).map (fun d => d.parameters.length) = some 2 := by decide +kernel
theorem hy_Ar_fill_53178 : yJ7_fill_53178.cls ≠ "java/lang/invoke/MethodHandle" ∧ yJ7_fill_53178.cls ≠ "java/lang/invoke/VarHandle" ∧ (parseMethodDescriptor yJ7_fill_53178.desc).map (fun d => d.parameters.length) = some 2 := by decide +kernel
theorem hy_Sh_renew : yX6_renew.cls ≠ "java/lang/invoke/MethodHandle" ∧ yX6_renew.cls ≠ "java/lang/invoke/VarHandle" ∧ (parseMethodDescriptor yX6_renew.desc).map (fun d => d.parameters.length) = some 2 := by decide +kernel
theorem hy_Fo_fittingFrom : yX1_fittingFrom.cls ≠ "java/lang/invoke/MethodHandle" ∧ yX1_fittingFrom.cls ≠ "java/lang/invoke/VarHandle" ∧ (parseMethodDescriptor yX1_fittingFrom.desc).map (fun d => d.parameters.length) = some 3 := by decide +kernel
theorem hy_Fo_firstFitting : yX1_firstFitting.cls ≠ "java/lang/invoke/MethodHandle" ∧ yX1_firstFitting.cls ≠ "java/lang/invoke/VarHandle" ∧ (parseMethodDescriptor yX1_firstFitting.desc).map (fun d => d.parameters.length) = some 0 := by decide +kernel
theorem hy_Fo_rowsFitting : yX1_rowsFitting.cls ≠ "java/lang/invoke/MethodHandle" ∧ yX1_rowsFitting.cls ≠ "java/lang/invoke/VarHandle" ∧ (parseMethodDescriptor yX1_rowsFitting.desc).map (fun d => d.parameters.length) = some 1 := by decide +kernel
theorem hy_Ha_addWaiting : yX2_addWaiting.cls ≠ "java/lang/invoke/MethodHandle" ∧ yX2_addWaiting.cls ≠ "java/lang/invoke/VarHandle" ∧ (parseMethodDescriptor yX2_addWaiting.desc).map (fun d => d.parameters.length) = some 1 := by decide +kernel
theorem hy_Ha_byteAt : yX2_byteAt.cls ≠ "java/lang/invoke/MethodHandle" ∧ yX2_byteAt.cls ≠ "java/lang/invoke/VarHandle" ∧ (parseMethodDescriptor yX2_byteAt.desc).map (fun d => d.parameters.length) = some 1 := by decide +kernel
theorem hy_Te_addCode : yX7_addCode.cls ≠ "java/lang/invoke/MethodHandle" ∧ yX7_addCode.cls ≠ "java/lang/invoke/VarHandle" ∧ (parseMethodDescriptor yX7_addCode.desc).map (fun d => d.parameters.length) = some 1 := by decide +kernel
theorem hy_Te_addName : yX7_addName.cls ≠ "java/lang/invoke/MethodHandle" ∧ yX7_addName.cls ≠ "java/lang/invoke/VarHandle" ∧ (parseMethodDescriptor yX7_addName.desc).map (fun d => d.parameters.length) = some 1 := by decide +kernel
theorem hy_St_indexOf_0f7a4 : yJ0_indexOf_0f7a4.cls ≠ "java/lang/invoke/MethodHandle" ∧ yJ0_indexOf_0f7a4.cls ≠ "java/lang/invoke/VarHandle" ∧ (parseMethodDescriptor yJ0_indexOf_0f7a4.desc).map (fun d => d.parameters.length) = some 1 := by decide +kernel
theorem hy_Te_addNumber : yX7_addNumber.cls ≠ "java/lang/invoke/MethodHandle" ∧ yX7_addNumber.cls ≠ "java/lang/invoke/VarHandle" ∧ (parseMethodDescriptor yX7_addNumber.desc).map (fun d => d.parameters.length) = some 1 := by decide +kernel
theorem hy_Re_isDigit : yX5_isDigit.cls ≠ "java/lang/invoke/MethodHandle" ∧ yX5_isDigit.cls ≠ "java/lang/invoke/VarHandle" ∧ (parseMethodDescriptor yX5_isDigit.desc).map (fun d => d.parameters.length) = some 1 := by decide +kernel
theorem hy_Te_addSign : yX7_addSign.cls ≠ "java/lang/invoke/MethodHandle" ∧ yX7_addSign.cls ≠ "java/lang/invoke/VarHandle" ∧ (parseMethodDescriptor yX7_addSign.desc).map (fun d => d.parameters.length) = some 1 := by decide +kernel
theorem hy_Re_readLevel : yX5_readLevel.cls ≠ "java/lang/invoke/MethodHandle" ∧ yX5_readLevel.cls ≠ "java/lang/invoke/VarHandle" ∧ (parseMethodDescriptor yX5_readLevel.desc).map (fun d => d.parameters.length) = some 2 := by decide +kernel
theorem hy_Re_isSignOf : yX5_isSignOf.cls ≠ "java/lang/invoke/MethodHandle" ∧ yX5_isSignOf.cls ≠ "java/lang/invoke/VarHandle" ∧ (parseMethodDescriptor yX5_isSignOf.desc).map (fun d => d.parameters.length) = some 1 := by decide +kernel
theorem hy_Re_readUnit : yX5_readUnit.cls ≠ "java/lang/invoke/MethodHandle" ∧ yX5_readUnit.cls ≠ "java/lang/invoke/VarHandle" ∧ (parseMethodDescriptor yX5_readUnit.desc).map (fun d => d.parameters.length) = some 1 := by decide +kernel
theorem hy_Re_readInside : yX5_readInside.cls ≠ "java/lang/invoke/MethodHandle" ∧ yX5_readInside.cls ≠ "java/lang/invoke/VarHandle" ∧ (parseMethodDescriptor yX5_readInside.desc).map (fun d => d.parameters.length) = some 1 := by decide +kernel
theorem hy_Re_readNot : yX5_readNot.cls ≠ "java/lang/invoke/MethodHandle" ∧ yX5_readNot.cls ≠ "java/lang/invoke/VarHandle" ∧ (parseMethodDescriptor yX5_readNot.desc).map (fun d => d.parameters.length) = some 1 := by decide +kernel
theorem hy_Re_readName : yX5_readName.cls ≠ "java/lang/invoke/MethodHandle" ∧ yX5_readName.cls ≠ "java/lang/invoke/VarHandle" ∧ (parseMethodDescriptor yX5_readName.desc).map (fun d => d.parameters.length) = some 1 := by decide +kernel
theorem hy_Re_readNumber : yX5_readNumber.cls ≠ "java/lang/invoke/MethodHandle" ∧ yX5_readNumber.cls ≠ "java/lang/invoke/VarHandle" ∧ (parseMethodDescriptor yX5_readNumber.desc).map (fun d => d.parameters.length) = some 0 := by decide +kernel
theorem hy_Te_clear : yX7_clear.cls ≠ "java/lang/invoke/MethodHandle" ∧ yX7_clear.cls ≠ "java/lang/invoke/VarHandle" ∧ (parseMethodDescriptor yX7_clear.desc).map (fun d => d.parameters.length) = some 0 := by decide +kernel
theorem hy_Re_made : yX5_made.cls ≠ "java/lang/invoke/MethodHandle" ∧ yX5_made.cls ≠ "java/lang/invoke/VarHandle" ∧ (parseMethodDescriptor yX5_made.desc).map (fun d => d.parameters.length) = some 0 := by decide +kernel
theorem hy_Bx_textOf : yX9_textOf.cls ≠ "java/lang/invoke/MethodHandle" ∧ yX9_textOf.cls ≠ "java/lang/invoke/VarHandle" ∧ (parseMethodDescriptor yX9_textOf.desc).map (fun d => d.parameters.length) = some 1 := by decide +kernel
theorem hy_Re_place : yX5_place.cls ≠ "java/lang/invoke/MethodHandle" ∧ yX5_place.cls ≠ "java/lang/invoke/VarHandle" ∧ (parseMethodDescriptor yX5_place.desc).map (fun d => d.parameters.length) = some 0 := by decide +kernel
theorem hy_Re_reads : yX5_reads.cls ≠ "java/lang/invoke/MethodHandle" ∧ yX5_reads.cls ≠ "java/lang/invoke/VarHandle" ∧ (parseMethodDescriptor yX5_reads.desc).map (fun d => d.parameters.length) = some 1 := by decide +kernel
theorem hy_Vo_work : yX8_work.cls ≠ "java/lang/invoke/MethodHandle" ∧ yX8_work.cls ≠ "java/lang/invoke/VarHandle" ∧ (parseMethodDescriptor yX8_work.desc).map (fun d => d.parameters.length) = some 3 := by decide +kernel
theorem hy_Ki_bodyFor : yX4_bodyFor.cls ≠ "java/lang/invoke/MethodHandle" ∧ yX4_bodyFor.cls ≠ "java/lang/invoke/VarHandle" ∧ (parseMethodDescriptor yX4_bodyFor.desc).map (fun d => d.parameters.length) = some 2 := by decide +kernel
theorem hy_Vo_above : yX8_above.cls ≠ "java/lang/invoke/MethodHandle" ∧ yX8_above.cls ≠ "java/lang/invoke/VarHandle" ∧ (parseMethodDescriptor yX8_above.desc).map (fun d => d.parameters.length) = some 4 := by decide +kernel
theorem hy_Vo_partsAndGives : yX8_partsAndGives.cls ≠ "java/lang/invoke/MethodHandle" ∧ yX8_partsAndGives.cls ≠ "java/lang/invoke/VarHandle" ∧ (parseMethodDescriptor yX8_partsAndGives.desc).map (fun d => d.parameters.length) = some 2 := by decide +kernel
theorem hy_Vo_parts : yX8_parts.cls ≠ "java/lang/invoke/MethodHandle" ∧ yX8_parts.cls ≠ "java/lang/invoke/VarHandle" ∧ (parseMethodDescriptor yX8_parts.desc).map (fun d => d.parameters.length) = some 1 := by decide +kernel
theorem hy_Vo_own : yX8_own.cls ≠ "java/lang/invoke/MethodHandle" ∧ yX8_own.cls ≠ "java/lang/invoke/VarHandle" ∧ (parseMethodDescriptor yX8_own.desc).map (fun d => d.parameters.length) = some 3 := by decide +kernel
theorem hy_Vo_isParted : yX8_isParted.cls ≠ "java/lang/invoke/MethodHandle" ∧ yX8_isParted.cls ≠ "java/lang/invoke/VarHandle" ∧ (parseMethodDescriptor yX8_isParted.desc).map (fun d => d.parameters.length) = some 0 := by decide +kernel
theorem hy_Vo_say : yX8_say.cls ≠ "java/lang/invoke/MethodHandle" ∧ yX8_say.cls ≠ "java/lang/invoke/VarHandle" ∧ (parseMethodDescriptor yX8_say.desc).map (fun d => d.parameters.length) = some 3 := by decide +kernel
theorem hy_Fo_rowsOf : yX1_rowsOf.cls ≠ "java/lang/invoke/MethodHandle" ∧ yX1_rowsOf.cls ≠ "java/lang/invoke/VarHandle" ∧ (parseMethodDescriptor yX1_rowsOf.desc).map (fun d => d.parameters.length) = some 1 := by decide +kernel
theorem hy_Fo_wrongFrom : yX1_wrongFrom.cls ≠ "java/lang/invoke/MethodHandle" ∧ yX1_wrongFrom.cls ≠ "java/lang/invoke/VarHandle" ∧ (parseMethodDescriptor yX1_wrongFrom.desc).map (fun d => d.parameters.length) = some 2 := by decide +kernel
theorem hy_Bx_commonDivisor : yX9_commonDivisor.cls ≠ "java/lang/invoke/MethodHandle" ∧ yX9_commonDivisor.cls ≠ "java/lang/invoke/VarHandle" ∧ (parseMethodDescriptor yX9_commonDivisor.desc).map (fun d => d.parameters.length) = some 2 := by decide +kernel
theorem hy_Fo_wrongRows : yX1_wrongRows.cls ≠ "java/lang/invoke/MethodHandle" ∧ yX1_wrongRows.cls ≠ "java/lang/invoke/VarHandle" ∧ (parseMethodDescriptor yX1_wrongRows.desc).map (fun d => d.parameters.length) = some 1 := by decide +kernel
theorem hy_Mo_told : yX10_told.cls ≠ "java/lang/invoke/MethodHandle" ∧ yX10_told.cls ≠ "java/lang/invoke/VarHandle" ∧ (parseMethodDescriptor yX10_told.desc).map (fun d => d.parameters.length) = some 1 := by decide +kernel
theorem hy_Bx_told : yX9_told.cls ≠ "java/lang/invoke/MethodHandle" ∧ yX9_told.cls ≠ "java/lang/invoke/VarHandle" ∧ (parseMethodDescriptor yX9_told.desc).map (fun d => d.parameters.length) = some 1 := by decide +kernel
theorem hy_Mo_count : yX10_count.cls ≠ "java/lang/invoke/MethodHandle" ∧ yX10_count.cls ≠ "java/lang/invoke/VarHandle" ∧ (parseMethodDescriptor yX10_count.desc).map (fun d => d.parameters.length) = some 1 := by decide +kernel
theorem hy_Bx_count : yX9_count.cls ≠ "java/lang/invoke/MethodHandle" ∧ yX9_count.cls ≠ "java/lang/invoke/VarHandle" ∧ (parseMethodDescriptor yX9_count.desc).map (fun d => d.parameters.length) = some 1 := by decide +kernel
theorem hy_Mo_check : yX10_check.cls ≠ "java/lang/invoke/MethodHandle" ∧ yX10_check.cls ≠ "java/lang/invoke/VarHandle" ∧ (parseMethodDescriptor yX10_check.desc).map (fun d => d.parameters.length) = some 0 := by decide +kernel
theorem hy_Bx_check : yX9_check.cls ≠ "java/lang/invoke/MethodHandle" ∧ yX9_check.cls ≠ "java/lang/invoke/VarHandle" ∧ (parseMethodDescriptor yX9_check.desc).map (fun d => d.parameters.length) = some 0 := by decide +kernel
theorem hy_Mo_tell : yX10_tell.cls ≠ "java/lang/invoke/MethodHandle" ∧ yX10_tell.cls ≠ "java/lang/invoke/VarHandle" ∧ (parseMethodDescriptor yX10_tell.desc).map (fun d => d.parameters.length) = some 1 := by decide +kernel
theorem hy_Bx_tell : yX9_tell.cls ≠ "java/lang/invoke/MethodHandle" ∧ yX9_tell.cls ≠ "java/lang/invoke/VarHandle" ∧ (parseMethodDescriptor yX9_tell.desc).map (fun d => d.parameters.length) = some 1 := by decide +kernel
theorem hy_Mo_restore : yX10_restore.cls ≠ "java/lang/invoke/MethodHandle" ∧ yX10_restore.cls ≠ "java/lang/invoke/VarHandle" ∧ (parseMethodDescriptor yX10_restore.desc).map (fun d => d.parameters.length) = some 0 := by decide +kernel
theorem hy_Bx_restore : yX9_restore.cls ≠ "java/lang/invoke/MethodHandle" ∧ yX9_restore.cls ≠ "java/lang/invoke/VarHandle" ∧ (parseMethodDescriptor yX9_restore.desc).map (fun d => d.parameters.length) = some 0 := by decide +kernel
theorem hy_Mo_image : yX10_image.cls ≠ "java/lang/invoke/MethodHandle" ∧ yX10_image.cls ≠ "java/lang/invoke/VarHandle" ∧ (parseMethodDescriptor yX10_image.desc).map (fun d => d.parameters.length) = some 0 := by decide +kernel
theorem hy_Bx_image : yX9_image.cls ≠ "java/lang/invoke/MethodHandle" ∧ yX9_image.cls ≠ "java/lang/invoke/VarHandle" ∧ (parseMethodDescriptor yX9_image.desc).map (fun d => d.parameters.length) = some 0 := by decide +kernel
theorem hy_Mo_lays : yX10_lays.cls ≠ "java/lang/invoke/MethodHandle" ∧ yX10_lays.cls ≠ "java/lang/invoke/VarHandle" ∧ (parseMethodDescriptor yX10_lays.desc).map (fun d => d.parameters.length) = some 1 := by decide +kernel
theorem hy_Bx_lays : yX9_lays.cls ≠ "java/lang/invoke/MethodHandle" ∧ yX9_lays.cls ≠ "java/lang/invoke/VarHandle" ∧ (parseMethodDescriptor yX9_lays.desc).map (fun d => d.parameters.length) = some 1 := by decide +kernel
theorem hy_Mo_move : yX10_move.cls ≠ "java/lang/invoke/MethodHandle" ∧ yX10_move.cls ≠ "java/lang/invoke/VarHandle" ∧ (parseMethodDescriptor yX10_move.desc).map (fun d => d.parameters.length) = some 5 := by decide +kernel
theorem hy_Bx_move : yX9_move.cls ≠ "java/lang/invoke/MethodHandle" ∧ yX9_move.cls ≠ "java/lang/invoke/VarHandle" ∧ (parseMethodDescriptor yX9_move.desc).map (fun d => d.parameters.length) = some 5 := by decide +kernel
theorem hy_Mo_put : yX10_put.cls ≠ "java/lang/invoke/MethodHandle" ∧ yX10_put.cls ≠ "java/lang/invoke/VarHandle" ∧ (parseMethodDescriptor yX10_put.desc).map (fun d => d.parameters.length) = some 3 := by decide +kernel
theorem hy_Bx_put : yX9_put.cls ≠ "java/lang/invoke/MethodHandle" ∧ yX9_put.cls ≠ "java/lang/invoke/VarHandle" ∧ (parseMethodDescriptor yX9_put.desc).map (fun d => d.parameters.length) = some 3 := by decide +kernel
theorem hy_Mo_sheet : yX10_sheet.cls ≠ "java/lang/invoke/MethodHandle" ∧ yX10_sheet.cls ≠ "java/lang/invoke/VarHandle" ∧ (parseMethodDescriptor yX10_sheet.desc).map (fun d => d.parameters.length) = some 3 := by decide +kernel
theorem hy_Bx_sheet : yX9_sheet.cls ≠ "java/lang/invoke/MethodHandle" ∧ yX9_sheet.cls ≠ "java/lang/invoke/VarHandle" ∧ (parseMethodDescriptor yX9_sheet.desc).map (fun d => d.parameters.length) = some 3 := by decide +kernel
theorem hy_Mo_body : yX10_body.cls ≠ "java/lang/invoke/MethodHandle" ∧ yX10_body.cls ≠ "java/lang/invoke/VarHandle" ∧ (parseMethodDescriptor yX10_body.desc).map (fun d => d.parameters.length) = some 1 := by decide +kernel
theorem hy_Bx_body : yX9_body.cls ≠ "java/lang/invoke/MethodHandle" ∧ yX9_body.cls ≠ "java/lang/invoke/VarHandle" ∧ (parseMethodDescriptor yX9_body.desc).map (fun d => d.parameters.length) = some 1 := by decide +kernel
theorem hy_Mo_voice : yX10_voice.cls ≠ "java/lang/invoke/MethodHandle" ∧ yX10_voice.cls ≠ "java/lang/invoke/VarHandle" ∧ (parseMethodDescriptor yX10_voice.desc).map (fun d => d.parameters.length) = some 2 := by decide +kernel
theorem hy_Bx_voice : yX9_voice.cls ≠ "java/lang/invoke/MethodHandle" ∧ yX9_voice.cls ≠ "java/lang/invoke/VarHandle" ∧ (parseMethodDescriptor yX9_voice.desc).map (fun d => d.parameters.length) = some 2 := by decide +kernel
theorem hy_Mo_tally : yX10_tally.cls ≠ "java/lang/invoke/MethodHandle" ∧ yX10_tally.cls ≠ "java/lang/invoke/VarHandle" ∧ (parseMethodDescriptor yX10_tally.desc).map (fun d => d.parameters.length) = some 2 := by decide +kernel
theorem hy_Bx_tally : yX9_tally.cls ≠ "java/lang/invoke/MethodHandle" ∧ yX9_tally.cls ≠ "java/lang/invoke/VarHandle" ∧ (parseMethodDescriptor yX9_tally.desc).map (fun d => d.parameters.length) = some 2 := by decide +kernel
theorem hy_Mo_must : yX10_must.cls ≠ "java/lang/invoke/MethodHandle" ∧ yX10_must.cls ≠ "java/lang/invoke/VarHandle" ∧ (parseMethodDescriptor yX10_must.desc).map (fun d => d.parameters.length) = some 2 := by decide +kernel
theorem hy_Bx_must : yX9_must.cls ≠ "java/lang/invoke/MethodHandle" ∧ yX9_must.cls ≠ "java/lang/invoke/VarHandle" ∧ (parseMethodDescriptor yX9_must.desc).map (fun d => d.parameters.length) = some 2 := by decide +kernel
theorem hy_Mo_again : yX10_again.cls ≠ "java/lang/invoke/MethodHandle" ∧ yX10_again.cls ≠ "java/lang/invoke/VarHandle" ∧ (parseMethodDescriptor yX10_again.desc).map (fun d => d.parameters.length) = some 1 := by decide +kernel
theorem hy_Bx_again : yX9_again.cls ≠ "java/lang/invoke/MethodHandle" ∧ yX9_again.cls ≠ "java/lang/invoke/VarHandle" ∧ (parseMethodDescriptor yX9_again.desc).map (fun d => d.parameters.length) = some 1 := by decide +kernel
theorem hy_Mo_wrong : yX10_wrong.cls ≠ "java/lang/invoke/MethodHandle" ∧ yX10_wrong.cls ≠ "java/lang/invoke/VarHandle" ∧ (parseMethodDescriptor yX10_wrong.desc).map (fun d => d.parameters.length) = some 2 := by decide +kernel
theorem hy_Bx_wrong : yX9_wrong.cls ≠ "java/lang/invoke/MethodHandle" ∧ yX9_wrong.cls ≠ "java/lang/invoke/VarHandle" ∧ (parseMethodDescriptor yX9_wrong.desc).map (fun d => d.parameters.length) = some 2 := by decide +kernel
theorem hy_Mo_dawn : yX10_dawn.cls ≠ "java/lang/invoke/MethodHandle" ∧ yX10_dawn.cls ≠ "java/lang/invoke/VarHandle" ∧ (parseMethodDescriptor yX10_dawn.desc).map (fun d => d.parameters.length) = some 2 := by decide +kernel
theorem hy_Bx_dawn : yX9_dawn.cls ≠ "java/lang/invoke/MethodHandle" ∧ yX9_dawn.cls ≠ "java/lang/invoke/VarHandle" ∧ (parseMethodDescriptor yX9_dawn.desc).map (fun d => d.parameters.length) = some 2 := by decide +kernel
theorem hy_Mo_order : yX10_order.cls ≠ "java/lang/invoke/MethodHandle" ∧ yX10_order.cls ≠ "java/lang/invoke/VarHandle" ∧ (parseMethodDescriptor yX10_order.desc).map (fun d => d.parameters.length) = some 2 := by decide +kernel
theorem hy_Bx_order : yX9_order.cls ≠ "java/lang/invoke/MethodHandle" ∧ yX9_order.cls ≠ "java/lang/invoke/VarHandle" ∧ (parseMethodDescriptor yX9_order.desc).map (fun d => d.parameters.length) = some 2 := by decide +kernel
theorem hy_Mo_get : yX10_get.cls ≠ "java/lang/invoke/MethodHandle" ∧ yX10_get.cls ≠ "java/lang/invoke/VarHandle" ∧ (parseMethodDescriptor yX10_get.desc).map (fun d => d.parameters.length) = some 3 := by decide +kernel
theorem hy_Bx_get : yX9_get.cls ≠ "java/lang/invoke/MethodHandle" ∧ yX9_get.cls ≠ "java/lang/invoke/VarHandle" ∧ (parseMethodDescriptor yX9_get.desc).map (fun d => d.parameters.length) = some 3 := by decide +kernel
theorem hy_Mo_dear : yX10_dear.cls ≠ "java/lang/invoke/MethodHandle" ∧ yX10_dear.cls ≠ "java/lang/invoke/VarHandle" ∧ (parseMethodDescriptor yX10_dear.desc).map (fun d => d.parameters.length) = some 1 := by decide +kernel
theorem hy_Bx_dear : yX9_dear.cls ≠ "java/lang/invoke/MethodHandle" ∧ yX9_dear.cls ≠ "java/lang/invoke/VarHandle" ∧ (parseMethodDescriptor yX9_dear.desc).map (fun d => d.parameters.length) = some 1 := by decide +kernel
theorem hy_Mo_change : yX10_change.cls ≠ "java/lang/invoke/MethodHandle" ∧ yX10_change.cls ≠ "java/lang/invoke/VarHandle" ∧ (parseMethodDescriptor yX10_change.desc).map (fun d => d.parameters.length) = some 2 := by decide +kernel
theorem hy_Bx_change : yX9_change.cls ≠ "java/lang/invoke/MethodHandle" ∧ yX9_change.cls ≠ "java/lang/invoke/VarHandle" ∧ (parseMethodDescriptor yX9_change.desc).map (fun d => d.parameters.length) = some 2 := by decide +kernel
theorem hy_Mo_seed : yX10_seed.cls ≠ "java/lang/invoke/MethodHandle" ∧ yX10_seed.cls ≠ "java/lang/invoke/VarHandle" ∧ (parseMethodDescriptor yX10_seed.desc).map (fun d => d.parameters.length) = some 1 := by decide +kernel
theorem hy_Bx_seed : yX9_seed.cls ≠ "java/lang/invoke/MethodHandle" ∧ yX9_seed.cls ≠ "java/lang/invoke/VarHandle" ∧ (parseMethodDescriptor yX9_seed.desc).map (fun d => d.parameters.length) = some 1 := by decide +kernel
theorem hy_Mo_draws : yX10_draws.cls ≠ "java/lang/invoke/MethodHandle" ∧ yX10_draws.cls ≠ "java/lang/invoke/VarHandle" ∧ (parseMethodDescriptor yX10_draws.desc).map (fun d => d.parameters.length) = some 1 := by decide +kernel
theorem hy_Bx_draws : yX9_draws.cls ≠ "java/lang/invoke/MethodHandle" ∧ yX9_draws.cls ≠ "java/lang/invoke/VarHandle" ∧ (parseMethodDescriptor yX9_draws.desc).map (fun d => d.parameters.length) = some 1 := by decide +kernel
theorem hy_Mo_stranger : yX10_stranger.cls ≠ "java/lang/invoke/MethodHandle" ∧ yX10_stranger.cls ≠ "java/lang/invoke/VarHandle" ∧ (parseMethodDescriptor yX10_stranger.desc).map (fun d => d.parameters.length) = some 1 := by decide +kernel
theorem hy_Bx_stranger : yX9_stranger.cls ≠ "java/lang/invoke/MethodHandle" ∧ yX9_stranger.cls ≠ "java/lang/invoke/VarHandle" ∧ (parseMethodDescriptor yX9_stranger.desc).map (fun d => d.parameters.length) = some 1 := by decide +kernel
theorem hy_Mo_go : yX10_go.cls ≠ "java/lang/invoke/MethodHandle" ∧ yX10_go.cls ≠ "java/lang/invoke/VarHandle" ∧ (parseMethodDescriptor yX10_go.desc).map (fun d => d.parameters.length) = some 2 := by decide +kernel
theorem hy_Bx_go : yX9_go.cls ≠ "java/lang/invoke/MethodHandle" ∧ yX9_go.cls ≠ "java/lang/invoke/VarHandle" ∧ (parseMethodDescriptor yX9_go.desc).map (fun d => d.parameters.length) = some 2 := by decide +kernel
theorem hy_Mo_untell : yX10_untell.cls ≠ "java/lang/invoke/MethodHandle" ∧ yX10_untell.cls ≠ "java/lang/invoke/VarHandle" ∧ (parseMethodDescriptor yX10_untell.desc).map (fun d => d.parameters.length) = some 1 := by decide +kernel
theorem hy_Bx_untell : yX9_untell.cls ≠ "java/lang/invoke/MethodHandle" ∧ yX9_untell.cls ≠ "java/lang/invoke/VarHandle" ∧ (parseMethodDescriptor yX9_untell.desc).map (fun d => d.parameters.length) = some 1 := by decide +kernel
theorem hy_Mo_text : yX10_text.cls ≠ "java/lang/invoke/MethodHandle" ∧ yX10_text.cls ≠ "java/lang/invoke/VarHandle" ∧ (parseMethodDescriptor yX10_text.desc).map (fun d => d.parameters.length) = some 1 := by decide +kernel
theorem hy_Bx_text : yX9_text.cls ≠ "java/lang/invoke/MethodHandle" ∧ yX9_text.cls ≠ "java/lang/invoke/VarHandle" ∧ (parseMethodDescriptor yX9_text.desc).map (fun d => d.parameters.length) = some 1 := by decide +kernel
theorem hy_Mo_feed : yX10_feed.cls ≠ "java/lang/invoke/MethodHandle" ∧ yX10_feed.cls ≠ "java/lang/invoke/VarHandle" ∧ (parseMethodDescriptor yX10_feed.desc).map (fun d => d.parameters.length) = some 2 := by decide +kernel
theorem hy_Bx_feed : yX9_feed.cls ≠ "java/lang/invoke/MethodHandle" ∧ yX9_feed.cls ≠ "java/lang/invoke/VarHandle" ∧ (parseMethodDescriptor yX9_feed.desc).map (fun d => d.parameters.length) = some 2 := by decide +kernel
theorem hy_Mo_give : yX10_give.cls ≠ "java/lang/invoke/MethodHandle" ∧ yX10_give.cls ≠ "java/lang/invoke/VarHandle" ∧ (parseMethodDescriptor yX10_give.desc).map (fun d => d.parameters.length) = some 3 := by decide +kernel
theorem hy_Bx_give : yX9_give.cls ≠ "java/lang/invoke/MethodHandle" ∧ yX9_give.cls ≠ "java/lang/invoke/VarHandle" ∧ (parseMethodDescriptor yX9_give.desc).map (fun d => d.parameters.length) = some 3 := by decide +kernel
theorem hy_Mo_personIs : yX10_personIs.cls ≠ "java/lang/invoke/MethodHandle" ∧ yX10_personIs.cls ≠ "java/lang/invoke/VarHandle" ∧ (parseMethodDescriptor yX10_personIs.desc).map (fun d => d.parameters.length) = some 2 := by decide +kernel
theorem hy_Bx_personIs : yX9_personIs.cls ≠ "java/lang/invoke/MethodHandle" ∧ yX9_personIs.cls ≠ "java/lang/invoke/VarHandle" ∧ (parseMethodDescriptor yX9_personIs.desc).map (fun d => d.parameters.length) = some 2 := by decide +kernel
theorem hy_Mo_person : yX10_person.cls ≠ "java/lang/invoke/MethodHandle" ∧ yX10_person.cls ≠ "java/lang/invoke/VarHandle" ∧ (parseMethodDescriptor yX10_person.desc).map (fun d => d.parameters.length) = some 0 := by decide +kernel
theorem hy_Bx_person : yX9_person.cls ≠ "java/lang/invoke/MethodHandle" ∧ yX9_person.cls ≠ "java/lang/invoke/VarHandle" ∧ (parseMethodDescriptor yX9_person.desc).map (fun d => d.parameters.length) = some 0 := by decide +kernel
theorem hy_Mo_coin : yX10_coin.cls ≠ "java/lang/invoke/MethodHandle" ∧ yX10_coin.cls ≠ "java/lang/invoke/VarHandle" ∧ (parseMethodDescriptor yX10_coin.desc).map (fun d => d.parameters.length) = some 1 := by decide +kernel
theorem hy_Bx_coin : yX9_coin.cls ≠ "java/lang/invoke/MethodHandle" ∧ yX9_coin.cls ≠ "java/lang/invoke/VarHandle" ∧ (parseMethodDescriptor yX9_coin.desc).map (fun d => d.parameters.length) = some 1 := by decide +kernel
theorem hy_Mo_empty : yX10_empty.cls ≠ "java/lang/invoke/MethodHandle" ∧ yX10_empty.cls ≠ "java/lang/invoke/VarHandle" ∧ (parseMethodDescriptor yX10_empty.desc).map (fun d => d.parameters.length) = some 0 := by decide +kernel
theorem hy_Bx_empty : yX9_empty.cls ≠ "java/lang/invoke/MethodHandle" ∧ yX9_empty.cls ≠ "java/lang/invoke/VarHandle" ∧ (parseMethodDescriptor yX9_empty.desc).map (fun d => d.parameters.length) = some 0 := by decide +kernel
theorem hy_Mo_lay : yX10_lay.cls ≠ "java/lang/invoke/MethodHandle" ∧ yX10_lay.cls ≠ "java/lang/invoke/VarHandle" ∧ (parseMethodDescriptor yX10_lay.desc).map (fun d => d.parameters.length) = some 2 := by decide +kernel
theorem hy_Bx_lay : yX9_lay.cls ≠ "java/lang/invoke/MethodHandle" ∧ yX9_lay.cls ≠ "java/lang/invoke/VarHandle" ∧ (parseMethodDescriptor yX9_lay.desc).map (fun d => d.parameters.length) = some 2 := by decide +kernel
theorem hy_Mo_as : yX10_as.cls ≠ "java/lang/invoke/MethodHandle" ∧ yX10_as.cls ≠ "java/lang/invoke/VarHandle" ∧ (parseMethodDescriptor yX10_as.desc).map (fun d => d.parameters.length) = some 1 := by decide +kernel
theorem hy_Bx_as : yX9_as.cls ≠ "java/lang/invoke/MethodHandle" ∧ yX9_as.cls ≠ "java/lang/invoke/VarHandle" ∧ (parseMethodDescriptor yX9_as.desc).map (fun d => d.parameters.length) = some 1 := by decide +kernel
theorem hy_Mo_box : yX10_box.cls ≠ "java/lang/invoke/MethodHandle" ∧ yX10_box.cls ≠ "java/lang/invoke/VarHandle" ∧ (parseMethodDescriptor yX10_box.desc).map (fun d => d.parameters.length) = some 1 := by decide +kernel
theorem hy_Bx_box : yX9_box.cls ≠ "java/lang/invoke/MethodHandle" ∧ yX9_box.cls ≠ "java/lang/invoke/VarHandle" ∧ (parseMethodDescriptor yX9_box.desc).map (fun d => d.parameters.length) = some 1 := by decide +kernel
theorem hy_Mo_ticket : yX10_ticket.cls ≠ "java/lang/invoke/MethodHandle" ∧ yX10_ticket.cls ≠ "java/lang/invoke/VarHandle" ∧ (parseMethodDescriptor yX10_ticket.desc).map (fun d => d.parameters.length) = some 1 := by decide +kernel
theorem hy_Bx_ticket : yX9_ticket.cls ≠ "java/lang/invoke/MethodHandle" ∧ yX9_ticket.cls ≠ "java/lang/invoke/VarHandle" ∧ (parseMethodDescriptor yX9_ticket.desc).map (fun d => d.parameters.length) = some 1 := by decide +kernel
theorem hy_Mo_worth : yX10_worth.cls ≠ "java/lang/invoke/MethodHandle" ∧ yX10_worth.cls ≠ "java/lang/invoke/VarHandle" ∧ (parseMethodDescriptor yX10_worth.desc).map (fun d => d.parameters.length) = some 2 := by decide +kernel
theorem hy_Bx_worth : yX9_worth.cls ≠ "java/lang/invoke/MethodHandle" ∧ yX9_worth.cls ≠ "java/lang/invoke/VarHandle" ∧ (parseMethodDescriptor yX9_worth.desc).map (fun d => d.parameters.length) = some 2 := by decide +kernel
theorem hy_Mo_init : yX10_init.cls ≠ "java/lang/invoke/MethodHandle" ∧ yX10_init.cls ≠ "java/lang/invoke/VarHandle" ∧ (parseMethodDescriptor yX10_init.desc).map (fun d => d.parameters.length) = some 0 := by decide +kernel
theorem hy_Bx_init : yX9_init.cls ≠ "java/lang/invoke/MethodHandle" ∧ yX9_init.cls ≠ "java/lang/invoke/VarHandle" ∧ (parseMethodDescriptor yX9_init.desc).map (fun d => d.parameters.length) = some 0 := by decide +kernel
theorem pn_J0 : plainName RJ0 = true := by decide +kernel
theorem pn_J1 : plainName RJ1 = true := by decide +kernel
theorem pn_J7 : plainName RJ7 = true := by decide +kernel
theorem pn_L : plainName RL = true := by decide +kernel
theorem pn_X0 : plainName RX0 = true := by decide +kernel
theorem pn_X1 : plainName RX1 = true := by decide +kernel
theorem pn_X10 : plainName RX10 = true := by decide +kernel
theorem pn_X2 : plainName RX2 = true := by decide +kernel
theorem pn_X3 : plainName RX3 = true := by decide +kernel
theorem pn_X4 : plainName RX4 = true := by decide +kernel
theorem pn_X5 : plainName RX5 = true := by decide +kernel
theorem pn_X6 : plainName RX6 = true := by decide +kernel
theorem pn_X7 : plainName RX7 = true := by decide +kernel
theorem pn_X8 : plainName RX8 = true := by decide +kernel
theorem pn_X9 : plainName RX9 = true := by decide +kernel
def df_X0 : List Value := [.null, .null, .null, .int 0, .int 0, .int 0, .int 0]
theorem dfc_X0 (G : GG) : df_X0.map (cV G) = df_X0 := rfl
theorem dfo_X0 : ∀ j, j < 7 → defaultValue (tyX0 j) = vp_V df_X0 j := by
  intro j hj
  match j, hj with
  | 0, _ => rfl
  | 1, _ => rfl
  | 2, _ => rfl
  | 3, _ => rfl
  | 4, _ => rfl
  | 5, _ => rfl
  | 6, _ => rfl
  | j + 7, h => omega
def df_X1 : List Value := [.null, .null, .null, .null, .null, .null, .null, .null, .null, .int 0, .int 0, .int 0, .int 0, .int 0]
theorem dfc_X1 (G : GG) : df_X1.map (cV G) = df_X1 := rfl
theorem dfo_X1 : ∀ j, j < 14 → defaultValue (tyX1 j) = vp_V df_X1 j := by
  intro j hj
  match j, hj with
  | 0, _ => rfl
  | 1, _ => rfl
  | 2, _ => rfl
  | 3, _ => rfl
  | 4, _ => rfl
  | 5, _ => rfl
  | 6, _ => rfl
  | 7, _ => rfl
  | 8, _ => rfl
  | 9, _ => rfl
  | 10, _ => rfl
  | 11, _ => rfl
  | 12, _ => rfl
  | 13, _ => rfl
  | j + 14, h => omega
def df_X2 : List Value := [.null, .null, .null, .null, .null, .null, .null, .null, .int 0, .int 0, .int 0, .int 0, .int 0, .int 0, .int 0, .int 0]
theorem dfc_X2 (G : GG) : df_X2.map (cV G) = df_X2 := rfl
theorem dfo_X2 : ∀ j, j < 16 → defaultValue (tyX2 j) = vp_V df_X2 j := by
  intro j hj
  match j, hj with
  | 0, _ => rfl
  | 1, _ => rfl
  | 2, _ => rfl
  | 3, _ => rfl
  | 4, _ => rfl
  | 5, _ => rfl
  | 6, _ => rfl
  | 7, _ => rfl
  | 8, _ => rfl
  | 9, _ => rfl
  | 10, _ => rfl
  | 11, _ => rfl
  | 12, _ => rfl
  | 13, _ => rfl
  | 14, _ => rfl
  | 15, _ => rfl
  | j + 16, h => omega
def df_X3 : List Value := [.null, .int 0, .int 0]
theorem dfc_X3 (G : GG) : df_X3.map (cV G) = df_X3 := rfl
theorem dfo_X3 : ∀ j, j < 3 → defaultValue (tyX3 j) = vp_V df_X3 j := by
  intro j hj
  match j, hj with
  | 0, _ => rfl
  | 1, _ => rfl
  | 2, _ => rfl
  | j + 3, h => omega
def df_X5 : List Value := [.null, .null, .null, .int 0]
theorem dfc_X5 (G : GG) : df_X5.map (cV G) = df_X5 := rfl
theorem dfo_X5 : ∀ j, j < 4 → defaultValue (tyX5 j) = vp_V df_X5 j := by
  intro j hj
  match j, hj with
  | 0, _ => rfl
  | 1, _ => rfl
  | 2, _ => rfl
  | 3, _ => rfl
  | j + 4, h => omega
def df_X6 : List Value := [.null, .int 0, .int 0]
theorem dfc_X6 (G : GG) : df_X6.map (cV G) = df_X6 := rfl
theorem dfo_X6 : ∀ j, j < 3 → defaultValue (tyX6 j) = vp_V df_X6 j := by
  intro j hj
  match j, hj with
  | 0, _ => rfl
  | 1, _ => rfl
  | 2, _ => rfl
  | j + 3, h => omega
def df_X7 : List Value := [.null, .null, .int 0]
theorem dfc_X7 (G : GG) : df_X7.map (cV G) = df_X7 := rfl
theorem dfo_X7 : ∀ j, j < 3 → defaultValue (tyX7 j) = vp_V df_X7 j := by
  intro j hj
  match j, hj with
  | 0, _ => rfl
  | 1, _ => rfl
  | 2, _ => rfl
  | j + 3, h => omega
def df_X8 : List Value := [.null, .int 0, .int 0, .int 0, .int 0]
theorem dfc_X8 (G : GG) : df_X8.map (cV G) = df_X8 := rfl
theorem dfo_X8 : ∀ j, j < 5 → defaultValue (tyX8 j) = vp_V df_X8 j := by
  intro j hj
  match j, hj with
  | 0, _ => rfl
  | 1, _ => rfl
  | 2, _ => rfl
  | 3, _ => rfl
  | 4, _ => rfl
  | j + 5, h => omega
def df_X9 : List Value := [.null, .null, .null, .null, .null, .null, .null, .null, .int 0]
theorem dfc_X9 (G : GG) : df_X9.map (cV G) = df_X9 := rfl
theorem dfo_X9 : ∀ j, j < 9 → defaultValue (tyX9 j) = vp_V df_X9 j := by
  intro j hj
  match j, hj with
  | 0, _ => rfl
  | 1, _ => rfl
  | 2, _ => rfl
  | 3, _ => rfl
  | 4, _ => rfl
  | 5, _ => rfl
  | 6, _ => rfl
  | 7, _ => rfl
  | 8, _ => rfl
  | j + 9, h => omega
def df_X10 : List Value := [.null, .null, .null, .int 0, .null, .int 0, .int 0, .int 0, .int 0, .null, .null, .null, .null, .int 0, .int 0, .int 0, .int 0, .null, .null, .null, .null, .int 0, .int 0, .long 0, .long 0, .int 0, .int 0, .null, .int 0, .int 0, .null, .null, .null, .null]
theorem dfc_X10 (G : GG) : df_X10.map (cV G) = df_X10 := rfl
theorem dfo_X10 : ∀ j, j < 34 → defaultValue (tyX10 j) = vp_V df_X10 j := by
  intro j hj
  match j, hj with
  | 0, _ => rfl
  | 1, _ => rfl
  | 2, _ => rfl
  | 3, _ => rfl
  | 4, _ => rfl
  | 5, _ => rfl
  | 6, _ => rfl
  | 7, _ => rfl
  | 8, _ => rfl
  | 9, _ => rfl
  | 10, _ => rfl
  | 11, _ => rfl
  | 12, _ => rfl
  | 13, _ => rfl
  | 14, _ => rfl
  | 15, _ => rfl
  | 16, _ => rfl
  | 17, _ => rfl
  | 18, _ => rfl
  | 19, _ => rfl
  | 20, _ => rfl
  | 21, _ => rfl
  | 22, _ => rfl
  | 23, _ => rfl
  | 24, _ => rfl
  | 25, _ => rfl
  | 26, _ => rfl
  | 27, _ => rfl
  | 28, _ => rfl
  | 29, _ => rfl
  | 30, _ => rfl
  | 31, _ => rfl
  | 32, _ => rfl
  | 33, _ => rfl
  | j + 34, h => omega
theorem nst_X9_46 : (RX9, 46, yX8_init) ∈ nestW := by decide +kernel
theorem nst_X9_53 : (RX9, 53, yX6_init) ∈ nestW := by decide +kernel
theorem nst_X9_9 : (RX9, 9, yX2_init) ∈ nestW := by decide +kernel
theorem nst_X1_11 : (RX1, 11, yX3_init) ∈ nestW := by decide +kernel
theorem nst_X2_15 : (RX2, 15, yX3_init) ∈ nestW := by decide +kernel
theorem nst_X2_25 : (RX2, 25, yX7_init) ∈ nestW := by decide +kernel
theorem nst_X5_9 : (RX5, 9, yX7_init) ∈ nestW := by decide +kernel

