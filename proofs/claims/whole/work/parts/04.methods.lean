/-! THE PROGRAM'S METHODS: each one's word stands in the tables, its bytes decode to its list -/
theorem pm_in0 {i : Nat} {w : Cond} (h : (k2_sels lw_privs)[i]? = some w) (g : goodWord w = true) : w ∈ lw_good := List.mem_filter.mpr ⟨List.mem_append_left _ (List.mem_of_getElem? h), g⟩
theorem pm_in1 {i : Nat} {w : Cond} (h : tables_1_1[i]? = some w) (g : goodWord w = true) : w ∈ lw_good := List.mem_filter.mpr ⟨List.mem_append_right _ (List.mem_append_left _ (List.mem_of_getElem? h)), g⟩
theorem pm_in2 {i : Nat} {w : Cond} (h : tables_1_2[i]? = some w) (g : goodWord w = true) : w ∈ lw_good := List.mem_filter.mpr ⟨List.mem_append_right _ (List.mem_append_right _ (List.mem_append_left _ (List.mem_of_getElem? h))), g⟩
theorem pm_in3 {i : Nat} {w : Cond} (h : tables_1_3[i]? = some w) (g : goodWord w = true) : w ∈ lw_good := List.mem_filter.mpr ⟨List.mem_append_right _ (List.mem_append_right _ (List.mem_append_right _ (List.mem_append_left _ (List.mem_of_getElem? h)))), g⟩
theorem pm_in4 {i : Nat} {w : Cond} (h : tables_1_4[i]? = some w) (g : goodWord w = true) : w ∈ lw_good := List.mem_filter.mpr ⟨List.mem_append_right _ (List.mem_append_right _ (List.mem_append_right _ (List.mem_append_right _ (List.mem_append_left _ (List.mem_of_getElem? h))))), g⟩
theorem pm_in5 {i : Nat} {w : Cond} (h : tables_1_5[i]? = some w) (g : goodWord w = true) : w ∈ lw_good := List.mem_filter.mpr ⟨List.mem_append_right _ (List.mem_append_right _ (List.mem_append_right _ (List.mem_append_right _ (List.mem_append_right _ (List.mem_append_left _ (List.mem_of_getElem? h)))))), g⟩
theorem pm_in6 {i : Nat} {w : Cond} (h : tables_1_6[i]? = some w) (g : goodWord w = true) : w ∈ lw_good := List.mem_filter.mpr ⟨List.mem_append_right _ (List.mem_append_right _ (List.mem_append_right _ (List.mem_append_right _ (List.mem_append_right _ (List.mem_append_right _ (List.mem_of_getElem? h)))))), g⟩
def pm_mok (q : pm_Me) : Prop := Cond.code ⟨pm_nm q.1, q.2.1, q.2.2.1⟩ q.2.2.2.1 q.2.2.2.2.1 q.2.2.2.2.2.1 ∈ lw_good ∧ plainName (pm_nm q.1) = true ∧ Cond.initialized (pm_nm q.1) ∈ lw_good ∧ (pm_nm q.1 ≠ "java/lang/invoke/MethodHandle" ∧ pm_nm q.1 ≠ "java/lang/invoke/VarHandle") ∧ (parseMethodDescriptor q.2.2.1).map (fun d => d.parameters.length) = some q.2.2.2.2.2.2.1 ∧ q.2.2.2.2.2.2.2.2.2.all (fun e => decide (decode q.2.2.2.1 e.1 = .ok e.2)) = true
def pm_nmok (i : Nat) : Prop := plainName (pm_nm i) = true ∧ Cond.initialized (pm_nm i) ∈ lw_good ∧ (pm_nm i ≠ "java/lang/invoke/MethodHandle" ∧ pm_nm i ≠ "java/lang/invoke/VarHandle")
theorem pm_nk0 : pm_nmok 0 := ⟨by decide +kernel, pm_in1 (i := 1) rfl rfl, by decide +kernel⟩
theorem pm_nk1 : pm_nmok 1 := ⟨by decide +kernel, pm_in1 (i := 8) rfl rfl, by decide +kernel⟩
theorem pm_nk2 : pm_nmok 2 := ⟨by decide +kernel, pm_in1 (i := 3) rfl rfl, by decide +kernel⟩
theorem pm_nk3 : pm_nmok 3 := ⟨by decide +kernel, pm_in1 (i := 6) rfl rfl, by decide +kernel⟩
theorem pm_nk4 : pm_nmok 4 := ⟨by decide +kernel, pm_in1 (i := 7) rfl rfl, by decide +kernel⟩
theorem pm_nk5 : pm_nmok 5 := ⟨by decide +kernel, pm_in1 (i := 9) rfl rfl, by decide +kernel⟩
theorem pm_nk6 : pm_nmok 6 := ⟨by decide +kernel, pm_in1 (i := 5) rfl rfl, by decide +kernel⟩
theorem pm_nk7 : pm_nmok 7 := ⟨by decide +kernel, pm_in1 (i := 10) rfl rfl, by decide +kernel⟩
theorem pm_nk8 : pm_nmok 8 := ⟨by decide +kernel, pm_in1 (i := 4) rfl rfl, by decide +kernel⟩
theorem pm_nk9 : pm_nmok 9 := ⟨by decide +kernel, pm_in1 (i := 2) rfl rfl, by decide +kernel⟩
theorem pm_nk10 : pm_nmok 10 := ⟨by decide +kernel, pm_in1 (i := 11) rfl rfl, by decide +kernel⟩
theorem pm_nk11 : pm_nmok 11 := ⟨by decide +kernel, pm_in1 (i := 14) rfl rfl, by decide +kernel⟩
theorem pm_nk12 : pm_nmok 12 := ⟨by decide +kernel, pm_in1 (i := 0) rfl rfl, by decide +kernel⟩
theorem pm_nk13 : pm_nmok 13 := ⟨by decide +kernel, pm_in1 (i := 16) rfl rfl, by decide +kernel⟩
theorem pm_nk15 : pm_nmok 15 := ⟨by decide +kernel, pm_in1 (i := 12) rfl rfl, by decide +kernel⟩
theorem pm_k0 : pm_mok pm_m0 := ⟨pm_in1 (i := 21) rfl rfl, pm_nk0.1, pm_nk0.2.1, pm_nk0.2.2, by decide +kernel, by decide +kernel⟩
theorem pm_k1 : pm_mok pm_m1 := ⟨pm_in2 (i := 113) rfl rfl, pm_nk0.1, pm_nk0.2.1, pm_nk0.2.2, by decide +kernel, by decide +kernel⟩
theorem pm_k2 : pm_mok pm_m2 := ⟨pm_in2 (i := 116) rfl rfl, pm_nk0.1, pm_nk0.2.1, pm_nk0.2.2, by decide +kernel, by decide +kernel⟩
theorem pm_k3 : pm_mok pm_m3 := ⟨pm_in2 (i := 124) rfl rfl, pm_nk0.1, pm_nk0.2.1, pm_nk0.2.2, by decide +kernel, by decide +kernel⟩
theorem pm_k4 : pm_mok pm_m4 := ⟨pm_in2 (i := 143) rfl rfl, pm_nk0.1, pm_nk0.2.1, pm_nk0.2.2, by decide +kernel, by decide +kernel⟩
theorem pm_k5 : pm_mok pm_m5 := ⟨pm_in2 (i := 151) rfl rfl, pm_nk0.1, pm_nk0.2.1, pm_nk0.2.2, by decide +kernel, by decide +kernel⟩
theorem pm_k6 : pm_mok pm_m6 := ⟨pm_in4 (i := 88) rfl rfl, pm_nk0.1, pm_nk0.2.1, pm_nk0.2.2, by decide +kernel, by decide +kernel⟩
theorem pm_k7 : pm_mok pm_m7 := ⟨pm_in4 (i := 93) rfl rfl, pm_nk0.1, pm_nk0.2.1, pm_nk0.2.2, by decide +kernel, by decide +kernel⟩
theorem pm_k8 : pm_mok pm_m8 := ⟨pm_in4 (i := 97) rfl rfl, pm_nk0.1, pm_nk0.2.1, pm_nk0.2.2, by decide +kernel, by decide +kernel⟩
theorem pm_k9 : pm_mok pm_m9 := ⟨pm_in4 (i := 109) rfl rfl, pm_nk0.1, pm_nk0.2.1, pm_nk0.2.2, by decide +kernel, by decide +kernel⟩
theorem pm_k10 : pm_mok pm_m10 := ⟨pm_in4 (i := 124) rfl rfl, pm_nk0.1, pm_nk0.2.1, pm_nk0.2.2, by decide +kernel, by decide +kernel⟩
theorem pm_k11 : pm_mok pm_m11 := ⟨pm_in4 (i := 140) rfl rfl, pm_nk0.1, pm_nk0.2.1, pm_nk0.2.2, by decide +kernel, by decide +kernel⟩
theorem pm_k12 : pm_mok pm_m12 := ⟨pm_in4 (i := 149) rfl rfl, pm_nk0.1, pm_nk0.2.1, pm_nk0.2.2, by decide +kernel, by decide +kernel⟩
theorem pm_k13 : pm_mok pm_m13 := ⟨pm_in4 (i := 152) rfl rfl, pm_nk0.1, pm_nk0.2.1, pm_nk0.2.2, by decide +kernel, by decide +kernel⟩
theorem pm_k14 : pm_mok pm_m14 := ⟨pm_in4 (i := 157) rfl rfl, pm_nk0.1, pm_nk0.2.1, pm_nk0.2.2, by decide +kernel, by decide +kernel⟩
theorem pm_k15 : pm_mok pm_m15 := ⟨pm_in4 (i := 165) rfl rfl, pm_nk0.1, pm_nk0.2.1, pm_nk0.2.2, by decide +kernel, by decide +kernel⟩
theorem pm_k16 : pm_mok pm_m16 := ⟨pm_in4 (i := 174) rfl rfl, pm_nk0.1, pm_nk0.2.1, pm_nk0.2.2, by decide +kernel, by decide +kernel⟩
theorem pm_k17 : pm_mok pm_m17 := ⟨pm_in4 (i := 182) rfl rfl, pm_nk0.1, pm_nk0.2.1, pm_nk0.2.2, by decide +kernel, by decide +kernel⟩
theorem pm_k18 : pm_mok pm_m18 := ⟨pm_in4 (i := 194) rfl rfl, pm_nk0.1, pm_nk0.2.1, pm_nk0.2.2, by decide +kernel, by decide +kernel⟩
theorem pm_k19 : pm_mok pm_m19 := ⟨pm_in4 (i := 200) rfl rfl, pm_nk0.1, pm_nk0.2.1, pm_nk0.2.2, by decide +kernel, by decide +kernel⟩
theorem pm_k20 : pm_mok pm_m20 := ⟨pm_in4 (i := 212) rfl rfl, pm_nk0.1, pm_nk0.2.1, pm_nk0.2.2, by decide +kernel, by decide +kernel⟩
theorem pm_k21 : pm_mok pm_m21 := ⟨pm_in4 (i := 217) rfl rfl, pm_nk0.1, pm_nk0.2.1, pm_nk0.2.2, by decide +kernel, by decide +kernel⟩
theorem pm_k22 : pm_mok pm_m22 := ⟨pm_in1 (i := 187) rfl rfl, pm_nk1.1, pm_nk1.2.1, pm_nk1.2.2, by decide +kernel, by decide +kernel⟩
theorem pm_k23 : pm_mok pm_m23 := ⟨pm_in2 (i := 167) rfl rfl, pm_nk1.1, pm_nk1.2.1, pm_nk1.2.2, by decide +kernel, by decide +kernel⟩
theorem pm_k24 : pm_mok pm_m24 := ⟨pm_in3 (i := 25) rfl rfl, pm_nk1.1, pm_nk1.2.1, pm_nk1.2.2, by decide +kernel, by decide +kernel⟩
theorem pm_k25 : pm_mok pm_m25 := ⟨pm_in3 (i := 28) rfl rfl, pm_nk1.1, pm_nk1.2.1, pm_nk1.2.2, by decide +kernel, by decide +kernel⟩
theorem pm_k26 : pm_mok pm_m26 := ⟨pm_in3 (i := 31) rfl rfl, pm_nk1.1, pm_nk1.2.1, pm_nk1.2.2, by decide +kernel, by decide +kernel⟩
theorem pm_k27 : pm_mok pm_m27 := ⟨pm_in3 (i := 37) rfl rfl, pm_nk1.1, pm_nk1.2.1, pm_nk1.2.2, by decide +kernel, by decide +kernel⟩
theorem pm_k28 : pm_mok pm_m28 := ⟨pm_in3 (i := 41) rfl rfl, pm_nk1.1, pm_nk1.2.1, pm_nk1.2.2, by decide +kernel, by decide +kernel⟩
theorem pm_k29 : pm_mok pm_m29 := ⟨pm_in3 (i := 45) rfl rfl, pm_nk1.1, pm_nk1.2.1, pm_nk1.2.2, by decide +kernel, by decide +kernel⟩
theorem pm_k30 : pm_mok pm_m30 := ⟨pm_in3 (i := 49) rfl rfl, pm_nk1.1, pm_nk1.2.1, pm_nk1.2.2, by decide +kernel, by decide +kernel⟩
theorem pm_k31 : pm_mok pm_m31 := ⟨pm_in4 (i := 1) rfl rfl, pm_nk1.1, pm_nk1.2.1, pm_nk1.2.2, by decide +kernel, by decide +kernel⟩
theorem pm_k32 : pm_mok pm_m32 := ⟨pm_in4 (i := 5) rfl rfl, pm_nk1.1, pm_nk1.2.1, pm_nk1.2.2, by decide +kernel, by decide +kernel⟩
theorem pm_k33 : pm_mok pm_m33 := ⟨pm_in4 (i := 9) rfl rfl, pm_nk1.1, pm_nk1.2.1, pm_nk1.2.2, by decide +kernel, by decide +kernel⟩
theorem pm_k34 : pm_mok pm_m34 := ⟨pm_in4 (i := 17) rfl rfl, pm_nk1.1, pm_nk1.2.1, pm_nk1.2.2, by decide +kernel, by decide +kernel⟩
theorem pm_k35 : pm_mok pm_m35 := ⟨pm_in1 (i := 35) rfl rfl, pm_nk2.1, pm_nk2.2.1, pm_nk2.2.2, by decide +kernel, by decide +kernel⟩
theorem pm_k36 : pm_mok pm_m36 := ⟨pm_in2 (i := 187) rfl rfl, pm_nk2.1, pm_nk2.2.1, pm_nk2.2.2, by decide +kernel, by decide +kernel⟩
theorem pm_k37 : pm_mok pm_m37 := ⟨pm_in4 (i := 23) rfl rfl, pm_nk2.1, pm_nk2.2.1, pm_nk2.2.2, by decide +kernel, by decide +kernel⟩
theorem pm_k38 : pm_mok pm_m38 := ⟨pm_in4 (i := 27) rfl rfl, pm_nk2.1, pm_nk2.2.1, pm_nk2.2.2, by decide +kernel, by decide +kernel⟩
theorem pm_k39 : pm_mok pm_m39 := ⟨pm_in4 (i := 30) rfl rfl, pm_nk2.1, pm_nk2.2.1, pm_nk2.2.2, by decide +kernel, by decide +kernel⟩
theorem pm_k40 : pm_mok pm_m40 := ⟨pm_in4 (i := 33) rfl rfl, pm_nk2.1, pm_nk2.2.1, pm_nk2.2.2, by decide +kernel, by decide +kernel⟩
theorem pm_k41 : pm_mok pm_m41 := ⟨pm_in4 (i := 47) rfl rfl, pm_nk2.1, pm_nk2.2.1, pm_nk2.2.2, by decide +kernel, by decide +kernel⟩
theorem pm_k42 : pm_mok pm_m42 := ⟨pm_in4 (i := 74) rfl rfl, pm_nk2.1, pm_nk2.2.1, pm_nk2.2.2, by decide +kernel, by decide +kernel⟩
theorem pm_k43 : pm_mok pm_m43 := ⟨pm_in4 (i := 113) rfl rfl, pm_nk2.1, pm_nk2.2.1, pm_nk2.2.2, by decide +kernel, by decide +kernel⟩
theorem pm_k44 : pm_mok pm_m44 := ⟨pm_in4 (i := 160) rfl rfl, pm_nk2.1, pm_nk2.2.1, pm_nk2.2.2, by decide +kernel, by decide +kernel⟩
theorem pm_k45 : pm_mok pm_m45 := ⟨pm_in4 (i := 169) rfl rfl, pm_nk2.1, pm_nk2.2.1, pm_nk2.2.2, by decide +kernel, by decide +kernel⟩
theorem pm_k46 : pm_mok pm_m46 := ⟨pm_in1 (i := 144) rfl rfl, pm_nk3.1, pm_nk3.2.1, pm_nk3.2.2, by decide +kernel, by decide +kernel⟩
theorem pm_k47 : pm_mok pm_m47 := ⟨pm_in2 (i := 222) rfl rfl, pm_nk3.1, pm_nk3.2.1, pm_nk3.2.2, by decide +kernel, by decide +kernel⟩
theorem pm_k48 : pm_mok pm_m48 := ⟨pm_in2 (i := 231) rfl rfl, pm_nk3.1, pm_nk3.2.1, pm_nk3.2.2, by decide +kernel, by decide +kernel⟩
theorem pm_k49 : pm_mok pm_m49 := ⟨pm_in2 (i := 235) rfl rfl, pm_nk3.1, pm_nk3.2.1, pm_nk3.2.2, by decide +kernel, by decide +kernel⟩
theorem pm_k50 : pm_mok pm_m50 := ⟨pm_in3 (i := 15) rfl rfl, pm_nk3.1, pm_nk3.2.1, pm_nk3.2.2, by decide +kernel, by decide +kernel⟩
theorem pm_k51 : pm_mok pm_m51 := ⟨pm_in3 (i := 73) rfl rfl, pm_nk3.1, pm_nk3.2.1, pm_nk3.2.2, by decide +kernel, by decide +kernel⟩
theorem pm_k52 : pm_mok pm_m52 := ⟨pm_in3 (i := 91) rfl rfl, pm_nk3.1, pm_nk3.2.1, pm_nk3.2.2, by decide +kernel, by decide +kernel⟩
theorem pm_k53 : pm_mok pm_m53 := ⟨pm_in3 (i := 103) rfl rfl, pm_nk3.1, pm_nk3.2.1, pm_nk3.2.2, by decide +kernel, by decide +kernel⟩
theorem pm_k54 : pm_mok pm_m54 := ⟨pm_in3 (i := 106) rfl rfl, pm_nk3.1, pm_nk3.2.1, pm_nk3.2.2, by decide +kernel, by decide +kernel⟩
theorem pm_k55 : pm_mok pm_m55 := ⟨pm_in3 (i := 109) rfl rfl, pm_nk3.1, pm_nk3.2.1, pm_nk3.2.2, by decide +kernel, by decide +kernel⟩
theorem pm_k56 : pm_mok pm_m56 := ⟨pm_in3 (i := 116) rfl rfl, pm_nk3.1, pm_nk3.2.1, pm_nk3.2.2, by decide +kernel, by decide +kernel⟩
theorem pm_k57 : pm_mok pm_m57 := ⟨pm_in3 (i := 136) rfl rfl, pm_nk3.1, pm_nk3.2.1, pm_nk3.2.2, by decide +kernel, by decide +kernel⟩
theorem pm_k58 : pm_mok pm_m58 := ⟨pm_in3 (i := 149) rfl rfl, pm_nk3.1, pm_nk3.2.1, pm_nk3.2.2, by decide +kernel, by decide +kernel⟩
theorem pm_k59 : pm_mok pm_m59 := ⟨pm_in3 (i := 154) rfl rfl, pm_nk3.1, pm_nk3.2.1, pm_nk3.2.2, by decide +kernel, by decide +kernel⟩
theorem pm_k60 : pm_mok pm_m60 := ⟨pm_in3 (i := 175) rfl rfl, pm_nk3.1, pm_nk3.2.1, pm_nk3.2.2, by decide +kernel, by decide +kernel⟩
theorem pm_k61 : pm_mok pm_m61 := ⟨pm_in3 (i := 178) rfl rfl, pm_nk3.1, pm_nk3.2.1, pm_nk3.2.2, by decide +kernel, by decide +kernel⟩
theorem pm_k62 : pm_mok pm_m62 := ⟨pm_in3 (i := 181) rfl rfl, pm_nk3.1, pm_nk3.2.1, pm_nk3.2.2, by decide +kernel, by decide +kernel⟩
theorem pm_k63 : pm_mok pm_m63 := ⟨pm_in3 (i := 184) rfl rfl, pm_nk3.1, pm_nk3.2.1, pm_nk3.2.2, by decide +kernel, by decide +kernel⟩
theorem pm_k64 : pm_mok pm_m64 := ⟨pm_in3 (i := 187) rfl rfl, pm_nk3.1, pm_nk3.2.1, pm_nk3.2.2, by decide +kernel, by decide +kernel⟩
theorem pm_k65 : pm_mok pm_m65 := ⟨pm_in3 (i := 190) rfl rfl, pm_nk3.1, pm_nk3.2.1, pm_nk3.2.2, by decide +kernel, by decide +kernel⟩
theorem pm_k66 : pm_mok pm_m66 := ⟨pm_in3 (i := 195) rfl rfl, pm_nk3.1, pm_nk3.2.1, pm_nk3.2.2, by decide +kernel, by decide +kernel⟩
theorem pm_k67 : pm_mok pm_m67 := ⟨pm_in3 (i := 199) rfl rfl, pm_nk3.1, pm_nk3.2.1, pm_nk3.2.2, by decide +kernel, by decide +kernel⟩
theorem pm_k68 : pm_mok pm_m68 := ⟨pm_in3 (i := 207) rfl rfl, pm_nk3.1, pm_nk3.2.1, pm_nk3.2.2, by decide +kernel, by decide +kernel⟩
theorem pm_k69 : pm_mok pm_m69 := ⟨pm_in3 (i := 221) rfl rfl, pm_nk3.1, pm_nk3.2.1, pm_nk3.2.2, by decide +kernel, by decide +kernel⟩
theorem pm_k70 : pm_mok pm_m70 := ⟨pm_in4 (i := 50) rfl rfl, pm_nk3.1, pm_nk3.2.1, pm_nk3.2.2, by decide +kernel, by decide +kernel⟩
theorem pm_k71 : pm_mok pm_m71 := ⟨pm_in4 (i := 204) rfl rfl, pm_nk3.1, pm_nk3.2.1, pm_nk3.2.2, by decide +kernel, by decide +kernel⟩
theorem pm_k72 : pm_mok pm_m72 := ⟨pm_in1 (i := 150) rfl rfl, pm_nk4.1, pm_nk4.2.1, pm_nk4.2.2, by decide +kernel, by decide +kernel⟩
theorem pm_k73 : pm_mok pm_m73 := ⟨pm_in2 (i := 120) rfl rfl, pm_nk4.1, pm_nk4.2.1, pm_nk4.2.2, by decide +kernel, by decide +kernel⟩
theorem pm_k74 : pm_mok pm_m74 := ⟨pm_in2 (i := 128) rfl rfl, pm_nk4.1, pm_nk4.2.1, pm_nk4.2.2, by decide +kernel, by decide +kernel⟩
theorem pm_k75 : pm_mok pm_m75 := ⟨pm_in2 (i := 131) rfl rfl, pm_nk4.1, pm_nk4.2.1, pm_nk4.2.2, by decide +kernel, by decide +kernel⟩
theorem pm_k76 : pm_mok pm_m76 := ⟨pm_in2 (i := 136) rfl rfl, pm_nk4.1, pm_nk4.2.1, pm_nk4.2.2, by decide +kernel, by decide +kernel⟩
theorem pm_k77 : pm_mok pm_m77 := ⟨pm_in2 (i := 139) rfl rfl, pm_nk4.1, pm_nk4.2.1, pm_nk4.2.2, by decide +kernel, by decide +kernel⟩
theorem pm_k78 : pm_mok pm_m78 := ⟨pm_in2 (i := 147) rfl rfl, pm_nk4.1, pm_nk4.2.1, pm_nk4.2.2, by decide +kernel, by decide +kernel⟩
theorem pm_k79 : pm_mok pm_m79 := ⟨pm_in2 (i := 155) rfl rfl, pm_nk4.1, pm_nk4.2.1, pm_nk4.2.2, by decide +kernel, by decide +kernel⟩
theorem pm_k80 : pm_mok pm_m80 := ⟨pm_in2 (i := 227) rfl rfl, pm_nk4.1, pm_nk4.2.1, pm_nk4.2.2, by decide +kernel, by decide +kernel⟩
theorem pm_k81 : pm_mok pm_m81 := ⟨pm_in2 (i := 239) rfl rfl, pm_nk4.1, pm_nk4.2.1, pm_nk4.2.2, by decide +kernel, by decide +kernel⟩
theorem pm_k82 : pm_mok pm_m82 := ⟨pm_in3 (i := 81) rfl rfl, pm_nk4.1, pm_nk4.2.1, pm_nk4.2.2, by decide +kernel, by decide +kernel⟩
theorem pm_k83 : pm_mok pm_m83 := ⟨pm_in3 (i := 144) rfl rfl, pm_nk4.1, pm_nk4.2.1, pm_nk4.2.2, by decide +kernel, by decide +kernel⟩
theorem pm_k84 : pm_mok pm_m84 := ⟨pm_in3 (i := 160) rfl rfl, pm_nk4.1, pm_nk4.2.1, pm_nk4.2.2, by decide +kernel, by decide +kernel⟩
theorem pm_k85 : pm_mok pm_m85 := ⟨pm_in3 (i := 164) rfl rfl, pm_nk4.1, pm_nk4.2.1, pm_nk4.2.2, by decide +kernel, by decide +kernel⟩
theorem pm_k86 : pm_mok pm_m86 := ⟨pm_in1 (i := 222) rfl rfl, pm_nk5.1, pm_nk5.2.1, pm_nk5.2.2, by decide +kernel, by decide +kernel⟩
theorem pm_k87 : pm_mok pm_m87 := ⟨pm_in2 (i := 171) rfl rfl, pm_nk5.1, pm_nk5.2.1, pm_nk5.2.2, by decide +kernel, by decide +kernel⟩
theorem pm_k88 : pm_mok pm_m88 := ⟨pm_in2 (i := 175) rfl rfl, pm_nk5.1, pm_nk5.2.1, pm_nk5.2.2, by decide +kernel, by decide +kernel⟩
theorem pm_k89 : pm_mok pm_m89 := ⟨pm_in2 (i := 200) rfl rfl, pm_nk5.1, pm_nk5.2.1, pm_nk5.2.2, by decide +kernel, by decide +kernel⟩
theorem pm_k90 : pm_mok pm_m90 := ⟨pm_in2 (i := 204) rfl rfl, pm_nk5.1, pm_nk5.2.1, pm_nk5.2.2, by decide +kernel, by decide +kernel⟩
theorem pm_k91 : pm_mok pm_m91 := ⟨pm_in2 (i := 208) rfl rfl, pm_nk5.1, pm_nk5.2.1, pm_nk5.2.2, by decide +kernel, by decide +kernel⟩
theorem pm_k92 : pm_mok pm_m92 := ⟨pm_in2 (i := 214) rfl rfl, pm_nk5.1, pm_nk5.2.1, pm_nk5.2.2, by decide +kernel, by decide +kernel⟩
theorem pm_k93 : pm_mok pm_m93 := ⟨pm_in4 (i := 62) rfl rfl, pm_nk5.1, pm_nk5.2.1, pm_nk5.2.2, by decide +kernel, by decide +kernel⟩
theorem pm_k94 : pm_mok pm_m94 := ⟨pm_in1 (i := 138) rfl rfl, pm_nk6.1, pm_nk6.2.1, pm_nk6.2.2, by decide +kernel, by decide +kernel⟩
theorem pm_k95 : pm_mok pm_m95 := ⟨pm_in2 (i := 160) rfl rfl, pm_nk6.1, pm_nk6.2.1, pm_nk6.2.2, by decide +kernel, by decide +kernel⟩
theorem pm_k96 : pm_mok pm_m96 := ⟨pm_in2 (i := 192) rfl rfl, pm_nk6.1, pm_nk6.2.1, pm_nk6.2.2, by decide +kernel, by decide +kernel⟩
theorem pm_k97 : pm_mok pm_m97 := ⟨pm_in3 (i := 132) rfl rfl, pm_nk6.1, pm_nk6.2.1, pm_nk6.2.2, by decide +kernel, by decide +kernel⟩
theorem pm_k98 : pm_mok pm_m98 := ⟨pm_in3 (i := 225) rfl rfl, pm_nk6.1, pm_nk6.2.1, pm_nk6.2.2, by decide +kernel, by decide +kernel⟩
theorem pm_k99 : pm_mok pm_m99 := ⟨pm_in4 (i := 58) rfl rfl, pm_nk6.1, pm_nk6.2.1, pm_nk6.2.2, by decide +kernel, by decide +kernel⟩
theorem pm_k100 : pm_mok pm_m100 := ⟨pm_in4 (i := 101) rfl rfl, pm_nk6.1, pm_nk6.2.1, pm_nk6.2.2, by decide +kernel, by decide +kernel⟩
theorem pm_k101 : pm_mok pm_m101 := ⟨pm_in4 (i := 105) rfl rfl, pm_nk6.1, pm_nk6.2.1, pm_nk6.2.2, by decide +kernel, by decide +kernel⟩
theorem pm_k102 : pm_mok pm_m102 := ⟨pm_in4 (i := 186) rfl rfl, pm_nk6.1, pm_nk6.2.1, pm_nk6.2.2, by decide +kernel, by decide +kernel⟩
theorem pm_k103 : pm_mok pm_m103 := ⟨pm_in4 (i := 190) rfl rfl, pm_nk6.1, pm_nk6.2.1, pm_nk6.2.2, by decide +kernel, by decide +kernel⟩
theorem pm_k104 : pm_mok pm_m104 := ⟨pm_in2 (i := 0) rfl rfl, pm_nk7.1, pm_nk7.2.1, pm_nk7.2.2, by decide +kernel, by decide +kernel⟩
theorem pm_k105 : pm_mok pm_m105 := ⟨pm_in3 (i := 230) rfl rfl, pm_nk7.1, pm_nk7.2.1, pm_nk7.2.2, by decide +kernel, by decide +kernel⟩
theorem pm_k106 : pm_mok pm_m106 := ⟨pm_in4 (i := 54) rfl rfl, pm_nk7.1, pm_nk7.2.1, pm_nk7.2.2, by decide +kernel, by decide +kernel⟩
theorem pm_k107 : pm_mok pm_m107 := ⟨pm_in4 (i := 70) rfl rfl, pm_nk7.1, pm_nk7.2.1, pm_nk7.2.2, by decide +kernel, by decide +kernel⟩
theorem pm_k108 : pm_mok pm_m108 := ⟨pm_in4 (i := 80) rfl rfl, pm_nk7.1, pm_nk7.2.1, pm_nk7.2.2, by decide +kernel, by decide +kernel⟩
theorem pm_k109 : pm_mok pm_m109 := ⟨pm_in1 (i := 116) rfl rfl, pm_nk8.1, pm_nk8.2.1, pm_nk8.2.2, by decide +kernel, by decide +kernel⟩
theorem pm_k110 : pm_mok pm_m110 := ⟨pm_in3 (i := 235) rfl rfl, pm_nk8.1, pm_nk8.2.1, pm_nk8.2.2, by decide +kernel, by decide +kernel⟩
theorem pm_k111 : pm_mok pm_m111 := ⟨pm_in4 (i := 13) rfl rfl, pm_nk8.1, pm_nk8.2.1, pm_nk8.2.2, by decide +kernel, by decide +kernel⟩
theorem pm_k112 : pm_mok pm_m112 := ⟨pm_in4 (i := 37) rfl rfl, pm_nk8.1, pm_nk8.2.1, pm_nk8.2.2, by decide +kernel, by decide +kernel⟩
theorem pm_k113 : pm_mok pm_m113 := ⟨pm_in4 (i := 40) rfl rfl, pm_nk8.1, pm_nk8.2.1, pm_nk8.2.2, by decide +kernel, by decide +kernel⟩
theorem pm_k114 : pm_mok pm_m114 := ⟨pm_in4 (i := 145) rfl rfl, pm_nk8.1, pm_nk8.2.1, pm_nk8.2.2, by decide +kernel, by decide +kernel⟩
theorem pm_k115 : pm_mok pm_m115 := ⟨pm_in1 (i := 29) rfl rfl, pm_nk9.1, pm_nk9.2.1, pm_nk9.2.2, by decide +kernel, by decide +kernel⟩
theorem pm_k116 : pm_mok pm_m116 := ⟨pm_in2 (i := 179) rfl rfl, pm_nk9.1, pm_nk9.2.1, pm_nk9.2.2, by decide +kernel, by decide +kernel⟩
theorem pm_k117 : pm_mok pm_m117 := ⟨pm_in2 (i := 183) rfl rfl, pm_nk9.1, pm_nk9.2.1, pm_nk9.2.2, by decide +kernel, by decide +kernel⟩
theorem pm_k118 : pm_mok pm_m118 := ⟨pm_in2 (i := 218) rfl rfl, pm_nk9.1, pm_nk9.2.1, pm_nk9.2.2, by decide +kernel, by decide +kernel⟩
theorem pm_k119 : pm_mok pm_m119 := ⟨pm_in3 (i := 3) rfl rfl, pm_nk9.1, pm_nk9.2.1, pm_nk9.2.2, by decide +kernel, by decide +kernel⟩
theorem pm_k120 : pm_mok pm_m120 := ⟨pm_in3 (i := 7) rfl rfl, pm_nk9.1, pm_nk9.2.1, pm_nk9.2.2, by decide +kernel, by decide +kernel⟩
theorem pm_k121 : pm_mok pm_m121 := ⟨pm_in3 (i := 11) rfl rfl, pm_nk9.1, pm_nk9.2.1, pm_nk9.2.2, by decide +kernel, by decide +kernel⟩
theorem pm_k122 : pm_mok pm_m122 := ⟨pm_in3 (i := 21) rfl rfl, pm_nk9.1, pm_nk9.2.1, pm_nk9.2.2, by decide +kernel, by decide +kernel⟩
theorem pm_k123 : pm_mok pm_m123 := ⟨pm_in3 (i := 56) rfl rfl, pm_nk9.1, pm_nk9.2.1, pm_nk9.2.2, by decide +kernel, by decide +kernel⟩
theorem pm_k124 : pm_mok pm_m124 := ⟨pm_in3 (i := 60) rfl rfl, pm_nk9.1, pm_nk9.2.1, pm_nk9.2.2, by decide +kernel, by decide +kernel⟩
theorem pm_k125 : pm_mok pm_m125 := ⟨pm_in3 (i := 64) rfl rfl, pm_nk9.1, pm_nk9.2.1, pm_nk9.2.2, by decide +kernel, by decide +kernel⟩
theorem pm_k126 : pm_mok pm_m126 := ⟨pm_in3 (i := 69) rfl rfl, pm_nk9.1, pm_nk9.2.1, pm_nk9.2.2, by decide +kernel, by decide +kernel⟩
theorem pm_k127 : pm_mok pm_m127 := ⟨pm_in3 (i := 77) rfl rfl, pm_nk9.1, pm_nk9.2.1, pm_nk9.2.2, by decide +kernel, by decide +kernel⟩
theorem pm_k128 : pm_mok pm_m128 := ⟨pm_in3 (i := 87) rfl rfl, pm_nk9.1, pm_nk9.2.1, pm_nk9.2.2, by decide +kernel, by decide +kernel⟩
theorem pm_k129 : pm_mok pm_m129 := ⟨pm_in3 (i := 95) rfl rfl, pm_nk9.1, pm_nk9.2.1, pm_nk9.2.2, by decide +kernel, by decide +kernel⟩
theorem pm_k130 : pm_mok pm_m130 := ⟨pm_in3 (i := 99) rfl rfl, pm_nk9.1, pm_nk9.2.1, pm_nk9.2.2, by decide +kernel, by decide +kernel⟩
theorem pm_k131 : pm_mok pm_m131 := ⟨pm_in3 (i := 113) rfl rfl, pm_nk9.1, pm_nk9.2.1, pm_nk9.2.2, by decide +kernel, by decide +kernel⟩
theorem pm_k132 : pm_mok pm_m132 := ⟨pm_in3 (i := 120) rfl rfl, pm_nk9.1, pm_nk9.2.1, pm_nk9.2.2, by decide +kernel, by decide +kernel⟩
theorem pm_k133 : pm_mok pm_m133 := ⟨pm_in3 (i := 124) rfl rfl, pm_nk9.1, pm_nk9.2.1, pm_nk9.2.2, by decide +kernel, by decide +kernel⟩
theorem pm_k134 : pm_mok pm_m134 := ⟨pm_in3 (i := 128) rfl rfl, pm_nk9.1, pm_nk9.2.1, pm_nk9.2.2, by decide +kernel, by decide +kernel⟩
theorem pm_k135 : pm_mok pm_m135 := ⟨pm_in3 (i := 140) rfl rfl, pm_nk9.1, pm_nk9.2.1, pm_nk9.2.2, by decide +kernel, by decide +kernel⟩
theorem pm_k136 : pm_mok pm_m136 := ⟨pm_in3 (i := 168) rfl rfl, pm_nk9.1, pm_nk9.2.1, pm_nk9.2.2, by decide +kernel, by decide +kernel⟩
theorem pm_k137 : pm_mok pm_m137 := ⟨pm_in3 (i := 172) rfl rfl, pm_nk9.1, pm_nk9.2.1, pm_nk9.2.2, by decide +kernel, by decide +kernel⟩
theorem pm_k138 : pm_mok pm_m138 := ⟨pm_in3 (i := 203) rfl rfl, pm_nk9.1, pm_nk9.2.1, pm_nk9.2.2, by decide +kernel, by decide +kernel⟩
theorem pm_k139 : pm_mok pm_m139 := ⟨pm_in3 (i := 211) rfl rfl, pm_nk9.1, pm_nk9.2.1, pm_nk9.2.2, by decide +kernel, by decide +kernel⟩
theorem pm_k140 : pm_mok pm_m140 := ⟨pm_in3 (i := 215) rfl rfl, pm_nk9.1, pm_nk9.2.1, pm_nk9.2.2, by decide +kernel, by decide +kernel⟩
theorem pm_k141 : pm_mok pm_m141 := ⟨pm_in4 (i := 66) rfl rfl, pm_nk9.1, pm_nk9.2.1, pm_nk9.2.2, by decide +kernel, by decide +kernel⟩
theorem pm_k142 : pm_mok pm_m142 := ⟨pm_in4 (i := 84) rfl rfl, pm_nk9.1, pm_nk9.2.1, pm_nk9.2.2, by decide +kernel, by decide +kernel⟩
theorem pm_k143 : pm_mok pm_m143 := ⟨pm_in4 (i := 128) rfl rfl, pm_nk9.1, pm_nk9.2.1, pm_nk9.2.2, by decide +kernel, by decide +kernel⟩
theorem pm_k144 : pm_mok pm_m144 := ⟨pm_in4 (i := 132) rfl rfl, pm_nk9.1, pm_nk9.2.1, pm_nk9.2.2, by decide +kernel, by decide +kernel⟩
theorem pm_k145 : pm_mok pm_m145 := ⟨pm_in4 (i := 136) rfl rfl, pm_nk9.1, pm_nk9.2.1, pm_nk9.2.2, by decide +kernel, by decide +kernel⟩
theorem pm_k146 : pm_mok pm_m146 := ⟨pm_in4 (i := 178) rfl rfl, pm_nk9.1, pm_nk9.2.1, pm_nk9.2.2, by decide +kernel, by decide +kernel⟩
theorem pm_k147 : pm_mok pm_m147 := ⟨pm_in4 (i := 228) rfl rfl, pm_nk10.1, pm_nk10.2.1, pm_nk10.2.2, by decide +kernel, by decide +kernel⟩
theorem pm_k148 : pm_mok pm_m148 := ⟨pm_in5 (i := 125) rfl rfl, pm_nk10.1, pm_nk10.2.1, pm_nk10.2.2, by decide +kernel, by decide +kernel⟩
theorem pm_k149 : pm_mok pm_m149 := ⟨pm_in5 (i := 128) rfl rfl, pm_nk10.1, pm_nk10.2.1, pm_nk10.2.2, by decide +kernel, by decide +kernel⟩
theorem pm_k150 : pm_mok pm_m150 := ⟨pm_in5 (i := 132) rfl rfl, pm_nk10.1, pm_nk10.2.1, pm_nk10.2.2, by decide +kernel, by decide +kernel⟩
theorem pm_k151 : pm_mok pm_m151 := ⟨pm_in5 (i := 135) rfl rfl, pm_nk10.1, pm_nk10.2.1, pm_nk10.2.2, by decide +kernel, by decide +kernel⟩
theorem pm_k152 : pm_mok pm_m152 := ⟨pm_in5 (i := 139) rfl rfl, pm_nk10.1, pm_nk10.2.1, pm_nk10.2.2, by decide +kernel, by decide +kernel⟩
theorem pm_k153 : pm_mok pm_m153 := ⟨pm_in5 (i := 143) rfl rfl, pm_nk10.1, pm_nk10.2.1, pm_nk10.2.2, by decide +kernel, by decide +kernel⟩
theorem pm_k154 : pm_mok pm_m154 := ⟨pm_in5 (i := 147) rfl rfl, pm_nk10.1, pm_nk10.2.1, pm_nk10.2.2, by decide +kernel, by decide +kernel⟩
theorem pm_k155 : pm_mok pm_m155 := ⟨pm_in5 (i := 151) rfl rfl, pm_nk10.1, pm_nk10.2.1, pm_nk10.2.2, by decide +kernel, by decide +kernel⟩
theorem pm_k156 : pm_mok pm_m156 := ⟨pm_in5 (i := 155) rfl rfl, pm_nk10.1, pm_nk10.2.1, pm_nk10.2.2, by decide +kernel, by decide +kernel⟩
theorem pm_k157 : pm_mok pm_m157 := ⟨pm_in5 (i := 159) rfl rfl, pm_nk10.1, pm_nk10.2.1, pm_nk10.2.2, by decide +kernel, by decide +kernel⟩
theorem pm_k158 : pm_mok pm_m158 := ⟨pm_in5 (i := 163) rfl rfl, pm_nk10.1, pm_nk10.2.1, pm_nk10.2.2, by decide +kernel, by decide +kernel⟩
theorem pm_k159 : pm_mok pm_m159 := ⟨pm_in5 (i := 167) rfl rfl, pm_nk10.1, pm_nk10.2.1, pm_nk10.2.2, by decide +kernel, by decide +kernel⟩
theorem pm_k160 : pm_mok pm_m160 := ⟨pm_in5 (i := 171) rfl rfl, pm_nk10.1, pm_nk10.2.1, pm_nk10.2.2, by decide +kernel, by decide +kernel⟩
theorem pm_k161 : pm_mok pm_m161 := ⟨pm_in5 (i := 177) rfl rfl, pm_nk10.1, pm_nk10.2.1, pm_nk10.2.2, by decide +kernel, by decide +kernel⟩
theorem pm_k162 : pm_mok pm_m162 := ⟨pm_in5 (i := 181) rfl rfl, pm_nk10.1, pm_nk10.2.1, pm_nk10.2.2, by decide +kernel, by decide +kernel⟩
theorem pm_k163 : pm_mok pm_m163 := ⟨pm_in5 (i := 185) rfl rfl, pm_nk10.1, pm_nk10.2.1, pm_nk10.2.2, by decide +kernel, by decide +kernel⟩
theorem pm_k164 : pm_mok pm_m164 := ⟨pm_in5 (i := 189) rfl rfl, pm_nk10.1, pm_nk10.2.1, pm_nk10.2.2, by decide +kernel, by decide +kernel⟩
theorem pm_k165 : pm_mok pm_m165 := ⟨pm_in5 (i := 193) rfl rfl, pm_nk10.1, pm_nk10.2.1, pm_nk10.2.2, by decide +kernel, by decide +kernel⟩
theorem pm_k166 : pm_mok pm_m166 := ⟨pm_in5 (i := 197) rfl rfl, pm_nk10.1, pm_nk10.2.1, pm_nk10.2.2, by decide +kernel, by decide +kernel⟩
theorem pm_k167 : pm_mok pm_m167 := ⟨pm_in5 (i := 201) rfl rfl, pm_nk10.1, pm_nk10.2.1, pm_nk10.2.2, by decide +kernel, by decide +kernel⟩
theorem pm_k168 : pm_mok pm_m168 := ⟨pm_in5 (i := 204) rfl rfl, pm_nk10.1, pm_nk10.2.1, pm_nk10.2.2, by decide +kernel, by decide +kernel⟩
theorem pm_k169 : pm_mok pm_m169 := ⟨pm_in5 (i := 207) rfl rfl, pm_nk10.1, pm_nk10.2.1, pm_nk10.2.2, by decide +kernel, by decide +kernel⟩
theorem pm_k170 : pm_mok pm_m170 := ⟨pm_in5 (i := 211) rfl rfl, pm_nk10.1, pm_nk10.2.1, pm_nk10.2.2, by decide +kernel, by decide +kernel⟩
theorem pm_k171 : pm_mok pm_m171 := ⟨pm_in5 (i := 215) rfl rfl, pm_nk10.1, pm_nk10.2.1, pm_nk10.2.2, by decide +kernel, by decide +kernel⟩
theorem pm_k172 : pm_mok pm_m172 := ⟨pm_in5 (i := 219) rfl rfl, pm_nk10.1, pm_nk10.2.1, pm_nk10.2.2, by decide +kernel, by decide +kernel⟩
theorem pm_k173 : pm_mok pm_m173 := ⟨pm_in5 (i := 223) rfl rfl, pm_nk10.1, pm_nk10.2.1, pm_nk10.2.2, by decide +kernel, by decide +kernel⟩
theorem pm_k174 : pm_mok pm_m174 := ⟨pm_in5 (i := 227) rfl rfl, pm_nk10.1, pm_nk10.2.1, pm_nk10.2.2, by decide +kernel, by decide +kernel⟩
theorem pm_k175 : pm_mok pm_m175 := ⟨pm_in5 (i := 231) rfl rfl, pm_nk10.1, pm_nk10.2.1, pm_nk10.2.2, by decide +kernel, by decide +kernel⟩
theorem pm_k176 : pm_mok pm_m176 := ⟨pm_in5 (i := 235) rfl rfl, pm_nk10.1, pm_nk10.2.1, pm_nk10.2.2, by decide +kernel, by decide +kernel⟩
theorem pm_k177 : pm_mok pm_m177 := ⟨pm_in5 (i := 238) rfl rfl, pm_nk10.1, pm_nk10.2.1, pm_nk10.2.2, by decide +kernel, by decide +kernel⟩
theorem pm_k178 : pm_mok pm_m178 := ⟨pm_in6 (i := 1) rfl rfl, pm_nk10.1, pm_nk10.2.1, pm_nk10.2.2, by decide +kernel, by decide +kernel⟩
theorem pm_k179 : pm_mok pm_m179 := ⟨pm_in6 (i := 4) rfl rfl, pm_nk10.1, pm_nk10.2.1, pm_nk10.2.2, by decide +kernel, by decide +kernel⟩
theorem pm_k180 : pm_mok pm_m180 := ⟨pm_in6 (i := 8) rfl rfl, pm_nk10.1, pm_nk10.2.1, pm_nk10.2.2, by decide +kernel, by decide +kernel⟩
theorem pm_k181 : pm_mok pm_m181 := ⟨pm_in6 (i := 12) rfl rfl, pm_nk10.1, pm_nk10.2.1, pm_nk10.2.2, by decide +kernel, by decide +kernel⟩
theorem pm_k182 : pm_mok pm_m182 := ⟨pm_in6 (i := 16) rfl rfl, pm_nk10.1, pm_nk10.2.1, pm_nk10.2.2, by decide +kernel, by decide +kernel⟩
theorem pm_k183 : pm_mok pm_m183 := ⟨pm_in6 (i := 20) rfl rfl, pm_nk10.1, pm_nk10.2.1, pm_nk10.2.2, by decide +kernel, by decide +kernel⟩
theorem pm_k184 : pm_mok pm_m184 := ⟨pm_in6 (i := 24) rfl rfl, pm_nk10.1, pm_nk10.2.1, pm_nk10.2.2, by decide +kernel, by decide +kernel⟩
theorem pm_k185 : pm_mok pm_m185 := ⟨pm_in6 (i := 28) rfl rfl, pm_nk10.1, pm_nk10.2.1, pm_nk10.2.2, by decide +kernel, by decide +kernel⟩
theorem pm_k186 : pm_mok pm_m186 := ⟨pm_in6 (i := 32) rfl rfl, pm_nk10.1, pm_nk10.2.1, pm_nk10.2.2, by decide +kernel, by decide +kernel⟩
theorem pm_k187 : pm_mok pm_m187 := ⟨pm_in6 (i := 36) rfl rfl, pm_nk10.1, pm_nk10.2.1, pm_nk10.2.2, by decide +kernel, by decide +kernel⟩
theorem pm_k188 : pm_mok pm_m188 := ⟨pm_in6 (i := 40) rfl rfl, pm_nk10.1, pm_nk10.2.1, pm_nk10.2.2, by decide +kernel, by decide +kernel⟩
theorem pm_k189 : pm_mok pm_m189 := ⟨pm_in6 (i := 44) rfl rfl, pm_nk10.1, pm_nk10.2.1, pm_nk10.2.2, by decide +kernel, by decide +kernel⟩
theorem pm_k190 : pm_mok pm_m190 := ⟨pm_in6 (i := 48) rfl rfl, pm_nk10.1, pm_nk10.2.1, pm_nk10.2.2, by decide +kernel, by decide +kernel⟩
theorem pm_k191 : pm_mok pm_m191 := ⟨pm_in6 (i := 52) rfl rfl, pm_nk10.1, pm_nk10.2.1, pm_nk10.2.2, by decide +kernel, by decide +kernel⟩
theorem pm_k192 : pm_mok pm_m192 := ⟨pm_in6 (i := 56) rfl rfl, pm_nk10.1, pm_nk10.2.1, pm_nk10.2.2, by decide +kernel, by decide +kernel⟩
theorem pm_k193 : pm_mok pm_m193 := ⟨pm_in6 (i := 60) rfl rfl, pm_nk10.1, pm_nk10.2.1, pm_nk10.2.2, by decide +kernel, by decide +kernel⟩
theorem pm_k194 : pm_mok pm_m194 := ⟨pm_in6 (i := 64) rfl rfl, pm_nk10.1, pm_nk10.2.1, pm_nk10.2.2, by decide +kernel, by decide +kernel⟩
theorem pm_k195 : pm_mok pm_m195 := ⟨pm_in6 (i := 68) rfl rfl, pm_nk10.1, pm_nk10.2.1, pm_nk10.2.2, by decide +kernel, by decide +kernel⟩
theorem pm_k196 : pm_mok pm_m196 := ⟨pm_in6 (i := 72) rfl rfl, pm_nk10.1, pm_nk10.2.1, pm_nk10.2.2, by decide +kernel, by decide +kernel⟩
theorem pm_k197 : pm_mok pm_m197 := ⟨pm_in6 (i := 76) rfl rfl, pm_nk10.1, pm_nk10.2.1, pm_nk10.2.2, by decide +kernel, by decide +kernel⟩
theorem pm_k198 : pm_mok pm_m198 := ⟨pm_in6 (i := 80) rfl rfl, pm_nk10.1, pm_nk10.2.1, pm_nk10.2.2, by decide +kernel, by decide +kernel⟩
theorem pm_k199 : pm_mok pm_m199 := ⟨pm_in6 (i := 84) rfl rfl, pm_nk10.1, pm_nk10.2.1, pm_nk10.2.2, by decide +kernel, by decide +kernel⟩
theorem pm_k200 : pm_mok pm_m200 := ⟨pm_in6 (i := 88) rfl rfl, pm_nk10.1, pm_nk10.2.1, pm_nk10.2.2, by decide +kernel, by decide +kernel⟩
theorem pm_k201 : pm_mok pm_m201 := ⟨pm_in6 (i := 91) rfl rfl, pm_nk10.1, pm_nk10.2.1, pm_nk10.2.2, by decide +kernel, by decide +kernel⟩
theorem pm_k202 : pm_mok pm_m202 := ⟨pm_in6 (i := 95) rfl rfl, pm_nk10.1, pm_nk10.2.1, pm_nk10.2.2, by decide +kernel, by decide +kernel⟩
theorem pm_k203 : pm_mok pm_m203 := ⟨pm_in6 (i := 99) rfl rfl, pm_nk10.1, pm_nk10.2.1, pm_nk10.2.2, by decide +kernel, by decide +kernel⟩
theorem pm_k204 : pm_mok pm_m204 := ⟨pm_in6 (i := 103) rfl rfl, pm_nk10.1, pm_nk10.2.1, pm_nk10.2.2, by decide +kernel, by decide +kernel⟩
theorem pm_k205 : pm_mok pm_m205 := ⟨pm_in6 (i := 107) rfl rfl, pm_nk10.1, pm_nk10.2.1, pm_nk10.2.2, by decide +kernel, by decide +kernel⟩
theorem pm_k206 : pm_mok pm_m206 := ⟨pm_in6 (i := 111) rfl rfl, pm_nk10.1, pm_nk10.2.1, pm_nk10.2.2, by decide +kernel, by decide +kernel⟩
theorem pm_k207 : pm_mok pm_m207 := ⟨pm_in6 (i := 115) rfl rfl, pm_nk10.1, pm_nk10.2.1, pm_nk10.2.2, by decide +kernel, by decide +kernel⟩
theorem pm_k208 : pm_mok pm_m208 := ⟨pm_in6 (i := 119) rfl rfl, pm_nk10.1, pm_nk10.2.1, pm_nk10.2.2, by decide +kernel, by decide +kernel⟩
theorem pm_k209 : pm_mok pm_m209 := ⟨pm_in3 (i := 34) rfl rfl, pm_nk11.1, pm_nk11.2.1, pm_nk11.2.2, by decide +kernel, by decide +kernel⟩
theorem pm_k210 : pm_mok pm_m210 := ⟨pm_in3 (i := 52) rfl rfl, pm_nk11.1, pm_nk11.2.1, pm_nk11.2.2, by decide +kernel, by decide +kernel⟩
theorem pm_k211 : pm_mok pm_m211 := ⟨pm_in4 (i := 223) rfl rfl, pm_nk12.1, pm_nk12.2.1, pm_nk12.2.2, by decide +kernel, by decide +kernel⟩
theorem pm_k212 : pm_mok pm_m212 := ⟨pm_in4 (i := 116) rfl rfl, pm_nk13.1, pm_nk13.2.1, pm_nk13.2.2, by decide +kernel, by decide +kernel⟩
theorem pm_k213 : pm_mok pm_m213 := ⟨pm_in2 (i := 163) rfl rfl, pm_nk15.1, pm_nk15.2.1, pm_nk15.2.2, by decide +kernel, by decide +kernel⟩
theorem pm_kg0 : ∀ q ∈ pm_g0, pm_mok q := List.forall_mem_cons.mpr ⟨pm_k0, List.forall_mem_cons.mpr ⟨pm_k1, List.forall_mem_cons.mpr ⟨pm_k2, List.forall_mem_cons.mpr ⟨pm_k3, List.forall_mem_cons.mpr ⟨pm_k4, List.forall_mem_cons.mpr ⟨pm_k5, List.forall_mem_cons.mpr ⟨pm_k6, List.forall_mem_cons.mpr ⟨pm_k7, List.forall_mem_cons.mpr ⟨pm_k8, List.forall_mem_cons.mpr ⟨pm_k9, List.forall_mem_cons.mpr ⟨pm_k10, List.forall_mem_cons.mpr ⟨pm_k11, List.forall_mem_cons.mpr ⟨pm_k12, List.forall_mem_cons.mpr ⟨pm_k13, List.forall_mem_cons.mpr ⟨pm_k14, List.forall_mem_cons.mpr ⟨pm_k15, List.forall_mem_cons.mpr ⟨pm_k16, List.forall_mem_cons.mpr ⟨pm_k17, List.forall_mem_cons.mpr ⟨pm_k18, List.forall_mem_cons.mpr ⟨pm_k19, List.forall_mem_cons.mpr ⟨pm_k20, List.forall_mem_cons.mpr ⟨pm_k21, List.forall_mem_cons.mpr ⟨pm_k22, List.forall_mem_cons.mpr ⟨pm_k23, fun _ h => absurd h List.not_mem_nil⟩⟩⟩⟩⟩⟩⟩⟩⟩⟩⟩⟩⟩⟩⟩⟩⟩⟩⟩⟩⟩⟩⟩⟩
theorem pm_kg1 : ∀ q ∈ pm_g1, pm_mok q := List.forall_mem_cons.mpr ⟨pm_k24, List.forall_mem_cons.mpr ⟨pm_k25, List.forall_mem_cons.mpr ⟨pm_k26, List.forall_mem_cons.mpr ⟨pm_k27, List.forall_mem_cons.mpr ⟨pm_k28, List.forall_mem_cons.mpr ⟨pm_k29, List.forall_mem_cons.mpr ⟨pm_k30, List.forall_mem_cons.mpr ⟨pm_k31, List.forall_mem_cons.mpr ⟨pm_k32, List.forall_mem_cons.mpr ⟨pm_k33, List.forall_mem_cons.mpr ⟨pm_k34, List.forall_mem_cons.mpr ⟨pm_k35, List.forall_mem_cons.mpr ⟨pm_k36, List.forall_mem_cons.mpr ⟨pm_k37, List.forall_mem_cons.mpr ⟨pm_k38, List.forall_mem_cons.mpr ⟨pm_k39, List.forall_mem_cons.mpr ⟨pm_k40, List.forall_mem_cons.mpr ⟨pm_k41, List.forall_mem_cons.mpr ⟨pm_k42, List.forall_mem_cons.mpr ⟨pm_k43, List.forall_mem_cons.mpr ⟨pm_k44, List.forall_mem_cons.mpr ⟨pm_k45, List.forall_mem_cons.mpr ⟨pm_k46, List.forall_mem_cons.mpr ⟨pm_k47, fun _ h => absurd h List.not_mem_nil⟩⟩⟩⟩⟩⟩⟩⟩⟩⟩⟩⟩⟩⟩⟩⟩⟩⟩⟩⟩⟩⟩⟩⟩
theorem pm_kg2 : ∀ q ∈ pm_g2, pm_mok q := List.forall_mem_cons.mpr ⟨pm_k48, List.forall_mem_cons.mpr ⟨pm_k49, List.forall_mem_cons.mpr ⟨pm_k50, List.forall_mem_cons.mpr ⟨pm_k51, List.forall_mem_cons.mpr ⟨pm_k52, List.forall_mem_cons.mpr ⟨pm_k53, List.forall_mem_cons.mpr ⟨pm_k54, List.forall_mem_cons.mpr ⟨pm_k55, List.forall_mem_cons.mpr ⟨pm_k56, List.forall_mem_cons.mpr ⟨pm_k57, List.forall_mem_cons.mpr ⟨pm_k58, List.forall_mem_cons.mpr ⟨pm_k59, List.forall_mem_cons.mpr ⟨pm_k60, List.forall_mem_cons.mpr ⟨pm_k61, List.forall_mem_cons.mpr ⟨pm_k62, List.forall_mem_cons.mpr ⟨pm_k63, List.forall_mem_cons.mpr ⟨pm_k64, List.forall_mem_cons.mpr ⟨pm_k65, List.forall_mem_cons.mpr ⟨pm_k66, List.forall_mem_cons.mpr ⟨pm_k67, List.forall_mem_cons.mpr ⟨pm_k68, List.forall_mem_cons.mpr ⟨pm_k69, List.forall_mem_cons.mpr ⟨pm_k70, List.forall_mem_cons.mpr ⟨pm_k71, fun _ h => absurd h List.not_mem_nil⟩⟩⟩⟩⟩⟩⟩⟩⟩⟩⟩⟩⟩⟩⟩⟩⟩⟩⟩⟩⟩⟩⟩⟩
theorem pm_kg3 : ∀ q ∈ pm_g3, pm_mok q := List.forall_mem_cons.mpr ⟨pm_k72, List.forall_mem_cons.mpr ⟨pm_k73, List.forall_mem_cons.mpr ⟨pm_k74, List.forall_mem_cons.mpr ⟨pm_k75, List.forall_mem_cons.mpr ⟨pm_k76, List.forall_mem_cons.mpr ⟨pm_k77, List.forall_mem_cons.mpr ⟨pm_k78, List.forall_mem_cons.mpr ⟨pm_k79, List.forall_mem_cons.mpr ⟨pm_k80, List.forall_mem_cons.mpr ⟨pm_k81, List.forall_mem_cons.mpr ⟨pm_k82, List.forall_mem_cons.mpr ⟨pm_k83, List.forall_mem_cons.mpr ⟨pm_k84, List.forall_mem_cons.mpr ⟨pm_k85, List.forall_mem_cons.mpr ⟨pm_k86, List.forall_mem_cons.mpr ⟨pm_k87, List.forall_mem_cons.mpr ⟨pm_k88, List.forall_mem_cons.mpr ⟨pm_k89, List.forall_mem_cons.mpr ⟨pm_k90, List.forall_mem_cons.mpr ⟨pm_k91, List.forall_mem_cons.mpr ⟨pm_k92, List.forall_mem_cons.mpr ⟨pm_k93, List.forall_mem_cons.mpr ⟨pm_k94, List.forall_mem_cons.mpr ⟨pm_k95, fun _ h => absurd h List.not_mem_nil⟩⟩⟩⟩⟩⟩⟩⟩⟩⟩⟩⟩⟩⟩⟩⟩⟩⟩⟩⟩⟩⟩⟩⟩
theorem pm_kg4 : ∀ q ∈ pm_g4, pm_mok q := List.forall_mem_cons.mpr ⟨pm_k96, List.forall_mem_cons.mpr ⟨pm_k97, List.forall_mem_cons.mpr ⟨pm_k98, List.forall_mem_cons.mpr ⟨pm_k99, List.forall_mem_cons.mpr ⟨pm_k100, List.forall_mem_cons.mpr ⟨pm_k101, List.forall_mem_cons.mpr ⟨pm_k102, List.forall_mem_cons.mpr ⟨pm_k103, List.forall_mem_cons.mpr ⟨pm_k104, List.forall_mem_cons.mpr ⟨pm_k105, List.forall_mem_cons.mpr ⟨pm_k106, List.forall_mem_cons.mpr ⟨pm_k107, List.forall_mem_cons.mpr ⟨pm_k108, List.forall_mem_cons.mpr ⟨pm_k109, List.forall_mem_cons.mpr ⟨pm_k110, List.forall_mem_cons.mpr ⟨pm_k111, List.forall_mem_cons.mpr ⟨pm_k112, List.forall_mem_cons.mpr ⟨pm_k113, List.forall_mem_cons.mpr ⟨pm_k114, List.forall_mem_cons.mpr ⟨pm_k115, List.forall_mem_cons.mpr ⟨pm_k116, List.forall_mem_cons.mpr ⟨pm_k117, List.forall_mem_cons.mpr ⟨pm_k118, List.forall_mem_cons.mpr ⟨pm_k119, fun _ h => absurd h List.not_mem_nil⟩⟩⟩⟩⟩⟩⟩⟩⟩⟩⟩⟩⟩⟩⟩⟩⟩⟩⟩⟩⟩⟩⟩⟩
theorem pm_kg5 : ∀ q ∈ pm_g5, pm_mok q := List.forall_mem_cons.mpr ⟨pm_k120, List.forall_mem_cons.mpr ⟨pm_k121, List.forall_mem_cons.mpr ⟨pm_k122, List.forall_mem_cons.mpr ⟨pm_k123, List.forall_mem_cons.mpr ⟨pm_k124, List.forall_mem_cons.mpr ⟨pm_k125, List.forall_mem_cons.mpr ⟨pm_k126, List.forall_mem_cons.mpr ⟨pm_k127, List.forall_mem_cons.mpr ⟨pm_k128, List.forall_mem_cons.mpr ⟨pm_k129, List.forall_mem_cons.mpr ⟨pm_k130, List.forall_mem_cons.mpr ⟨pm_k131, List.forall_mem_cons.mpr ⟨pm_k132, List.forall_mem_cons.mpr ⟨pm_k133, List.forall_mem_cons.mpr ⟨pm_k134, List.forall_mem_cons.mpr ⟨pm_k135, List.forall_mem_cons.mpr ⟨pm_k136, List.forall_mem_cons.mpr ⟨pm_k137, List.forall_mem_cons.mpr ⟨pm_k138, List.forall_mem_cons.mpr ⟨pm_k139, List.forall_mem_cons.mpr ⟨pm_k140, List.forall_mem_cons.mpr ⟨pm_k141, List.forall_mem_cons.mpr ⟨pm_k142, List.forall_mem_cons.mpr ⟨pm_k143, fun _ h => absurd h List.not_mem_nil⟩⟩⟩⟩⟩⟩⟩⟩⟩⟩⟩⟩⟩⟩⟩⟩⟩⟩⟩⟩⟩⟩⟩⟩
theorem pm_kg6 : ∀ q ∈ pm_g6, pm_mok q := List.forall_mem_cons.mpr ⟨pm_k144, List.forall_mem_cons.mpr ⟨pm_k145, List.forall_mem_cons.mpr ⟨pm_k146, List.forall_mem_cons.mpr ⟨pm_k147, List.forall_mem_cons.mpr ⟨pm_k148, List.forall_mem_cons.mpr ⟨pm_k149, List.forall_mem_cons.mpr ⟨pm_k150, List.forall_mem_cons.mpr ⟨pm_k151, List.forall_mem_cons.mpr ⟨pm_k152, List.forall_mem_cons.mpr ⟨pm_k153, List.forall_mem_cons.mpr ⟨pm_k154, List.forall_mem_cons.mpr ⟨pm_k155, List.forall_mem_cons.mpr ⟨pm_k156, List.forall_mem_cons.mpr ⟨pm_k157, List.forall_mem_cons.mpr ⟨pm_k158, List.forall_mem_cons.mpr ⟨pm_k159, List.forall_mem_cons.mpr ⟨pm_k160, List.forall_mem_cons.mpr ⟨pm_k161, List.forall_mem_cons.mpr ⟨pm_k162, List.forall_mem_cons.mpr ⟨pm_k163, List.forall_mem_cons.mpr ⟨pm_k164, List.forall_mem_cons.mpr ⟨pm_k165, List.forall_mem_cons.mpr ⟨pm_k166, List.forall_mem_cons.mpr ⟨pm_k167, fun _ h => absurd h List.not_mem_nil⟩⟩⟩⟩⟩⟩⟩⟩⟩⟩⟩⟩⟩⟩⟩⟩⟩⟩⟩⟩⟩⟩⟩⟩
theorem pm_kg7 : ∀ q ∈ pm_g7, pm_mok q := List.forall_mem_cons.mpr ⟨pm_k168, List.forall_mem_cons.mpr ⟨pm_k169, List.forall_mem_cons.mpr ⟨pm_k170, List.forall_mem_cons.mpr ⟨pm_k171, List.forall_mem_cons.mpr ⟨pm_k172, List.forall_mem_cons.mpr ⟨pm_k173, List.forall_mem_cons.mpr ⟨pm_k174, List.forall_mem_cons.mpr ⟨pm_k175, List.forall_mem_cons.mpr ⟨pm_k176, List.forall_mem_cons.mpr ⟨pm_k177, List.forall_mem_cons.mpr ⟨pm_k178, List.forall_mem_cons.mpr ⟨pm_k179, List.forall_mem_cons.mpr ⟨pm_k180, List.forall_mem_cons.mpr ⟨pm_k181, List.forall_mem_cons.mpr ⟨pm_k182, List.forall_mem_cons.mpr ⟨pm_k183, List.forall_mem_cons.mpr ⟨pm_k184, List.forall_mem_cons.mpr ⟨pm_k185, List.forall_mem_cons.mpr ⟨pm_k186, List.forall_mem_cons.mpr ⟨pm_k187, List.forall_mem_cons.mpr ⟨pm_k188, List.forall_mem_cons.mpr ⟨pm_k189, List.forall_mem_cons.mpr ⟨pm_k190, List.forall_mem_cons.mpr ⟨pm_k191, fun _ h => absurd h List.not_mem_nil⟩⟩⟩⟩⟩⟩⟩⟩⟩⟩⟩⟩⟩⟩⟩⟩⟩⟩⟩⟩⟩⟩⟩⟩
theorem pm_kg8 : ∀ q ∈ pm_g8, pm_mok q := List.forall_mem_cons.mpr ⟨pm_k192, List.forall_mem_cons.mpr ⟨pm_k193, List.forall_mem_cons.mpr ⟨pm_k194, List.forall_mem_cons.mpr ⟨pm_k195, List.forall_mem_cons.mpr ⟨pm_k196, List.forall_mem_cons.mpr ⟨pm_k197, List.forall_mem_cons.mpr ⟨pm_k198, List.forall_mem_cons.mpr ⟨pm_k199, List.forall_mem_cons.mpr ⟨pm_k200, List.forall_mem_cons.mpr ⟨pm_k201, List.forall_mem_cons.mpr ⟨pm_k202, List.forall_mem_cons.mpr ⟨pm_k203, List.forall_mem_cons.mpr ⟨pm_k204, List.forall_mem_cons.mpr ⟨pm_k205, List.forall_mem_cons.mpr ⟨pm_k206, List.forall_mem_cons.mpr ⟨pm_k207, List.forall_mem_cons.mpr ⟨pm_k208, List.forall_mem_cons.mpr ⟨pm_k209, List.forall_mem_cons.mpr ⟨pm_k210, List.forall_mem_cons.mpr ⟨pm_k211, List.forall_mem_cons.mpr ⟨pm_k212, List.forall_mem_cons.mpr ⟨pm_k213, fun _ h => absurd h List.not_mem_nil⟩⟩⟩⟩⟩⟩⟩⟩⟩⟩⟩⟩⟩⟩⟩⟩⟩⟩⟩⟩⟩⟩
def pm_ms0 : List pm_Me := pm_g0 ++ pm_g1 ++ pm_g2 ++ pm_g3 ++ pm_g4 ++ pm_g5 ++ pm_g6 ++ pm_g7 ++ pm_g8
theorem pm_kall : ∀ q ∈ pm_ms0, pm_mok q := List.forall_mem_append.mpr ⟨List.forall_mem_append.mpr ⟨List.forall_mem_append.mpr ⟨List.forall_mem_append.mpr ⟨List.forall_mem_append.mpr ⟨List.forall_mem_append.mpr ⟨List.forall_mem_append.mpr ⟨List.forall_mem_append.mpr ⟨pm_kg0, pm_kg1⟩, pm_kg2⟩, pm_kg3⟩, pm_kg4⟩, pm_kg5⟩, pm_kg6⟩, pm_kg7⟩, pm_kg8⟩
theorem pm_len : pm_ms0.length = 214 := by decide +kernel
theorem pm_ok {i : Nat} (h : i < 214) : pm_mok (pm_M i) := by
  have h1 : i < pm_ms0.length := by rw [pm_len]; exact h
  have e : pm_M i = pm_ms0[i] := by
    show (pm_ms0 ++ [pm_m214]).getD i _ = _
    rw [List.getD_eq_getElem?_getD, List.getElem?_append_left h1, List.getElem?_eq_getElem h1]
    rfl
  rw [e]
  exact pm_kall _ (List.getElem_mem h1)
theorem pm_lawdec : pm_c214.all (fun e => decide (decode code e.1 = .ok e.2)) = true := by decide +kernel
