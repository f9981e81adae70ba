/-! single words (by wip/whole/mk_words.py) -/
theorem gw_oi : Cond.instanceMethod objectInit ∈ lw_tbl := sm_w_in (h := 1028) rfl
theorem gw_oc : Cond.code objectInit ⟨#[0xb1]⟩ 1 none ∈ lw_tbl := sm_w_in (h := 1029) rfl
theorem gw_an : Cond.native arraycopyName ∈ lw_tbl := sm_w_in (h := 4037) rfl
theorem gw_as : Cond.static arraycopyName ∈ lw_tbl := sm_w_in (h := 4036) rfl
theorem gw_ai : Cond.initialized "java/lang/System" ∈ lw_tbl := sm_w_in (h := 1020) rfl
theorem gw_mins : Cond.static Lib.Math.min.name ∈ lw_tbl := sm_w_in (h := 3079) rfl
theorem gw_minc : Cond.code Lib.Math.min.name Lib.Math.min.code 2 (some .int) ∈ lw_tbl := sm_w_in (h := 3080) rfl
theorem gw_abss : Cond.static Lib.Math.abs.name ∈ lw_tbl := sm_w_in (h := 5062) rfl
theorem gw_absc : Cond.code Lib.Math.abs.name Lib.Math.abs.code 1 (some .int) ∈ lw_tbl := sm_w_in (h := 5063) rfl
theorem gw_mi : Cond.initialized "java/lang/Math" ∈ lw_tbl := sm_w_in (h := 1015) rfl
theorem gw_in_S : Cond.instantiable R_S 7 ∈ lw_tbl := sm_w_in (h := 1037) rfl
theorem gw_iz_S : Cond.initialized R_S ∈ lw_tbl := sm_w_in (h := 1003) rfl
theorem gw_in_N : Cond.instantiable R_N 4 ∈ lw_tbl := sm_w_in (h := 1109) rfl
theorem gw_iz_N : Cond.initialized R_N ∈ lw_tbl := sm_w_in (h := 1005) rfl
theorem gw_in_X : Cond.instantiable R_X 11 ∈ lw_tbl := sm_w_in (h := 2011) rfl
theorem gw_iz_X : Cond.initialized R_X ∈ lw_tbl := sm_w_in (h := 1009) rfl
theorem gw_in_T : Cond.instantiable R_T 3 ∈ lw_tbl := sm_w_in (h := 1087) rfl
theorem gw_iz_T : Cond.initialized R_T ∈ lw_tbl := sm_w_in (h := 1004) rfl
theorem gw_in_U : Cond.instantiable R_U 13 ∈ lw_tbl := sm_w_in (h := 1031) rfl
theorem gw_iz_U : Cond.initialized R_U ∈ lw_tbl := sm_w_in (h := 1002) rfl
theorem gw_in_P : Cond.instantiable R_P 6 ∈ lw_tbl := sm_w_in (h := 1190) rfl
theorem gw_iz_P : Cond.initialized R_P ∈ lw_tbl := sm_w_in (h := 1006) rfl
theorem gw_in_R : Cond.instantiable R_R 5 ∈ lw_tbl := sm_w_in (h := 1220) rfl
theorem gw_iz_R : Cond.initialized R_R ∈ lw_tbl := sm_w_in (h := 1007) rfl
theorem gw_in_L : Cond.instantiable R_L 4 ∈ lw_tbl := sm_w_in (h := 2004) rfl
theorem gw_iz_L : Cond.initialized R_L ∈ lw_tbl := sm_w_in (h := 1008) rfl
theorem gw_in_G : Cond.instantiable R_G 5 ∈ lw_tbl := sm_w_in (h := 2083) rfl
theorem gw_iz_G : Cond.initialized R_G ∈ lw_tbl := sm_w_in (h := 1010) rfl
theorem gw_in_H : Cond.instantiable R_H 4 ∈ lw_tbl := sm_w_in (h := 2105) rfl
theorem gw_iz_H : Cond.initialized R_H ∈ lw_tbl := sm_w_in (h := 1011) rfl
theorem gw_in_K : Cond.instantiable R_K 5 ∈ lw_tbl := sm_w_in (h := 2124) rfl
theorem gw_iz_K : Cond.initialized R_K ∈ lw_tbl := sm_w_in (h := 1012) rfl
theorem gw_in_W : Cond.instantiable R_W 8 ∈ lw_tbl := sm_w_in (h := 1023) rfl
theorem gw_iz_W : Cond.initialized R_W ∈ lw_tbl := sm_w_in (h := 1001) rfl
theorem gw_in_M : Cond.instantiable R_M 34 ∈ lw_tbl := sm_w_in (h := 6082) rfl
theorem gw_iz_M : Cond.initialized R_M ∈ lw_tbl := sm_w_in (h := 1013) rfl
theorem gw_ac_int : Cond.arrayClass .int ∈ lw_tbl := sm_w_in (h := 1085) rfl
theorem gw_ac_boolean : Cond.arrayClass .boolean ∈ lw_tbl := sm_w_in (h := 6194) rfl
theorem gw_ac_long : Cond.arrayClass .long ∈ lw_tbl := sm_w_in (h := 6193) rfl
theorem gw_ao_S : Cond.arrayOver (.object R_S) ∈ lw_tbl := sm_w_in (h := 1093) rfl
theorem gw_ao_N : Cond.arrayOver (.object R_N) ∈ lw_tbl := sm_w_in (h := 1108) rfl
theorem gw_ao_X : Cond.arrayOver (.object R_X) ∈ lw_tbl := sm_w_in (h := 2010) rfl
