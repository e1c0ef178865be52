/-! THE LAW'S LOOP again, over weakest preconditions -/
def opP (L : Nat) (Rel : (Nat → Nat → Int32) → (Nat → Nat → Int32) → Prop) (mr : Nat) (as : List Int32) (A : Nat → Nat → Int32) : bm_Q := fun v h => ∃ (r : Int32) (A1 I1 : Nat → Nat → Int32), v = some (.int r) ∧ h = hp L A1 I1 ∧ A1 0 = A 0 ∧ bm_M 12 mr (.ref 1681 :: as.map Value.int) (hp L A1 I1) (fun v2 h2 => ∃ (A2 I2 : Nat → Nat → Int32), v2 = some (.int r) ∧ h2 = hp L A2 I2 ∧ Rel A2 I2)
/-- the class's method mc and the reference's mr, with n numbers: the same answer, and the relation again -/
def opW (L : Nat) (Rel : (Nat → Nat → Int32) → (Nat → Nat → Int32) → Prop) (mc mr n : Nat) : Prop := ∀ (A I : Nat → Nat → Int32) (as : List Int32), Rel A I → as.length = n → bm_M 12 mc (.ref 3 :: as.map Value.int) (hp L A I) (opP L Rel mr as A)
theorem opOK.w {L : Nat} {Rel : (Nat → Nat → Int32) → (Nat → Nat → Int32) → Prop} {mc mr n : Nat} (h : opOK L Rel mc mr n) : opW L Rel mc mr n := fun A I as hR hn => by
  obtain ⟨r, A1, I1, A2, I2, h1, hA1, h2, hR2⟩ := h A I as hR hn
  exact h1 _ ⟨r, A1, I1, rfl, rfl, hA1, h2 _ ⟨A2, I2, rfl, rfl, hR2⟩⟩
set_option maxRecDepth 100000 in
set_option maxHeartbeats 4000000 in
theorem lawW_case0 {L i : Nat} {xs : Nat → Int32} {Rel : (Nat → Nat → Int32) → (Nat → Nat → Int32) → Prop} {A I : Nat → Nat → Int32} (hL : L ≤ 3073) (hi : i + 6 ≤ L) (hA : A 0 = xs) (hR : Rel A I) (ok : opW L Rel 1 148 1) (kk : ∀ A2 I2, Rel A2 I2 → bm_W (bm_M 12) 214 bm_LQ 28 [.ref 0, .ref 3, .ref 1681, .int (nI (i + 6))] [] (hp L A2 I2)) : bm_W (bm_M 12) 214 bm_LQ 124 [.ref 0, .ref 3, .ref 1681, .int (nI i)] [] (hp L A I) := by
  have ok := ok A I [xs (i + 1)] hR rfl
  refine w_aload_n (p := 125) (pI pM_214 rfl) rfl rfl ?_
  refine w_aload_n (p := 126) (pI pM_214 rfl) rfl rfl ?_
  refine w_iload_n (p := 127) (pI pM_214 rfl) rfl rfl ?_
  refine w_iconst (p := 128) (v := nI 1) (pI pM_214 rfl) rfl rfl ?_
  refine w_iadd (p := 129) (pI pM_214 rfl) rfl ?_
  rw [nI_add]
  refine v_iald (p := 130) (x := xs (i + 1)) (pI pM_214 rfl) rfl (by decide) rfl (vp_in_nI (by omega) (by omega)) (by rw [nI_clamp (by omega), hA]) ?_
  refine v_virtual (p := 133) (mj := 1) (pI pM_214 rfl) rfl rfl rfl rfl rfl rfl rfl rfl rfl rfl (by decide) (by decide) rfl ?_
  refine bm_M.mono 12 _ _ _ _ _ ?_ ok
  rintro _ _ ⟨r, A1, I1, rfl, rfl, hA1, h2⟩
  rw [hA] at hA1
  refine w_aload_n (p := 134) (pI pM_214 rfl) rfl rfl ?_
  refine w_aload_n (p := 135) (pI pM_214 rfl) rfl rfl ?_
  refine w_iload_n (p := 136) (pI pM_214 rfl) rfl rfl ?_
  refine w_iconst (p := 137) (v := nI 1) (pI pM_214 rfl) rfl rfl ?_
  refine w_iadd (p := 138) (pI pM_214 rfl) rfl ?_
  rw [nI_add]
  refine v_iald (p := 139) (x := xs (i + 1)) (pI pM_214 rfl) rfl (by decide) rfl (vp_in_nI (by omega) (by omega)) (by rw [nI_clamp (by omega), hA1]) ?_
  refine v_virtual (p := 142) (mj := 148) (pI pM_214 rfl) rfl rfl rfl rfl rfl rfl rfl rfl rfl rfl (by decide) (by decide) rfl ?_
  refine bm_M.mono 12 _ _ _ _ _ ?_ h2
  rintro _ _ ⟨A2, I2, rfl, rfl, hR2⟩
  refine w_icmp_eq (p := 145) (q := 745) (pI pM_214 rfl) rfl rfl rfl (fun _ => ?_) (fun c => absurd rfl c)
  exact law_next (kk A2 I2 hR2)
set_option maxRecDepth 100000 in
set_option maxHeartbeats 4000000 in
theorem lawW_case1 {L i : Nat} {xs : Nat → Int32} {Rel : (Nat → Nat → Int32) → (Nat → Nat → Int32) → Prop} {A I : Nat → Nat → Int32} (hL : L ≤ 3073) (hi : i + 6 ≤ L) (hA : A 0 = xs) (hR : Rel A I) (ok : opW L Rel 3 150 3) (kk : ∀ A2 I2, Rel A2 I2 → bm_W (bm_M 12) 214 bm_LQ 28 [.ref 0, .ref 3, .ref 1681, .int (nI (i + 6))] [] (hp L A2 I2)) : bm_W (bm_M 12) 214 bm_LQ 147 [.ref 0, .ref 3, .ref 1681, .int (nI i)] [] (hp L A I) := by
  have ok := ok A I [xs (i + 1), xs (i + 2), xs (i + 3)] hR rfl
  refine w_aload_n (p := 148) (pI pM_214 rfl) rfl rfl ?_
  refine w_aload_n (p := 149) (pI pM_214 rfl) rfl rfl ?_
  refine w_iload_n (p := 150) (pI pM_214 rfl) rfl rfl ?_
  refine w_iconst (p := 151) (v := nI 1) (pI pM_214 rfl) rfl rfl ?_
  refine w_iadd (p := 152) (pI pM_214 rfl) rfl ?_
  rw [nI_add]
  refine v_iald (p := 153) (x := xs (i + 1)) (pI pM_214 rfl) rfl (by decide) rfl (vp_in_nI (by omega) (by omega)) (by rw [nI_clamp (by omega), hA]) ?_
  refine w_aload_n (p := 154) (pI pM_214 rfl) rfl rfl ?_
  refine w_iload_n (p := 155) (pI pM_214 rfl) rfl rfl ?_
  refine w_iconst (p := 156) (v := nI 2) (pI pM_214 rfl) rfl rfl ?_
  refine w_iadd (p := 157) (pI pM_214 rfl) rfl ?_
  rw [nI_add]
  refine v_iald (p := 158) (x := xs (i + 2)) (pI pM_214 rfl) rfl (by decide) rfl (vp_in_nI (by omega) (by omega)) (by rw [nI_clamp (by omega), hA]) ?_
  refine w_aload_n (p := 159) (pI pM_214 rfl) rfl rfl ?_
  refine w_iload_n (p := 160) (pI pM_214 rfl) rfl rfl ?_
  refine w_iconst (p := 161) (v := nI 3) (pI pM_214 rfl) rfl rfl ?_
  refine w_iadd (p := 162) (pI pM_214 rfl) rfl ?_
  rw [nI_add]
  refine v_iald (p := 163) (x := xs (i + 3)) (pI pM_214 rfl) rfl (by decide) rfl (vp_in_nI (by omega) (by omega)) (by rw [nI_clamp (by omega), hA]) ?_
  refine v_virtual (p := 166) (mj := 3) (pI pM_214 rfl) rfl rfl rfl rfl rfl rfl rfl rfl rfl rfl (by decide) (by decide) rfl ?_
  refine bm_M.mono 12 _ _ _ _ _ ?_ ok
  rintro _ _ ⟨r, A1, I1, rfl, rfl, hA1, h2⟩
  rw [hA] at hA1
  refine w_aload_n (p := 167) (pI pM_214 rfl) rfl rfl ?_
  refine w_aload_n (p := 168) (pI pM_214 rfl) rfl rfl ?_
  refine w_iload_n (p := 169) (pI pM_214 rfl) rfl rfl ?_
  refine w_iconst (p := 170) (v := nI 1) (pI pM_214 rfl) rfl rfl ?_
  refine w_iadd (p := 171) (pI pM_214 rfl) rfl ?_
  rw [nI_add]
  refine v_iald (p := 172) (x := xs (i + 1)) (pI pM_214 rfl) rfl (by decide) rfl (vp_in_nI (by omega) (by omega)) (by rw [nI_clamp (by omega), hA1]) ?_
  refine w_aload_n (p := 173) (pI pM_214 rfl) rfl rfl ?_
  refine w_iload_n (p := 174) (pI pM_214 rfl) rfl rfl ?_
  refine w_iconst (p := 175) (v := nI 2) (pI pM_214 rfl) rfl rfl ?_
  refine w_iadd (p := 176) (pI pM_214 rfl) rfl ?_
  rw [nI_add]
  refine v_iald (p := 177) (x := xs (i + 2)) (pI pM_214 rfl) rfl (by decide) rfl (vp_in_nI (by omega) (by omega)) (by rw [nI_clamp (by omega), hA1]) ?_
  refine w_aload_n (p := 178) (pI pM_214 rfl) rfl rfl ?_
  refine w_iload_n (p := 179) (pI pM_214 rfl) rfl rfl ?_
  refine w_iconst (p := 180) (v := nI 3) (pI pM_214 rfl) rfl rfl ?_
  refine w_iadd (p := 181) (pI pM_214 rfl) rfl ?_
  rw [nI_add]
  refine v_iald (p := 182) (x := xs (i + 3)) (pI pM_214 rfl) rfl (by decide) rfl (vp_in_nI (by omega) (by omega)) (by rw [nI_clamp (by omega), hA1]) ?_
  refine v_virtual (p := 185) (mj := 150) (pI pM_214 rfl) rfl rfl rfl rfl rfl rfl rfl rfl rfl rfl (by decide) (by decide) rfl ?_
  refine bm_M.mono 12 _ _ _ _ _ ?_ h2
  rintro _ _ ⟨A2, I2, rfl, rfl, hR2⟩
  refine w_icmp_eq (p := 188) (q := 745) (pI pM_214 rfl) rfl rfl rfl (fun _ => ?_) (fun c => absurd rfl c)
  exact law_next (kk A2 I2 hR2)
set_option maxRecDepth 100000 in
set_option maxHeartbeats 4000000 in
theorem lawW_case2 {L i : Nat} {xs : Nat → Int32} {Rel : (Nat → Nat → Int32) → (Nat → Nat → Int32) → Prop} {A I : Nat → Nat → Int32} (hL : L ≤ 3073) (hi : i + 6 ≤ L) (hA : A 0 = xs) (hR : Rel A I) (ok : opW L Rel 4 153 5) (kk : ∀ A2 I2, Rel A2 I2 → bm_W (bm_M 12) 214 bm_LQ 28 [.ref 0, .ref 3, .ref 1681, .int (nI (i + 6))] [] (hp L A2 I2)) : bm_W (bm_M 12) 214 bm_LQ 190 [.ref 0, .ref 3, .ref 1681, .int (nI i)] [] (hp L A I) := by
  have ok := ok A I [xs (i + 1), xs (i + 2), xs (i + 3), xs (i + 4), xs (i + 5)] hR rfl
  refine w_aload_n (p := 191) (pI pM_214 rfl) rfl rfl ?_
  refine w_aload_n (p := 192) (pI pM_214 rfl) rfl rfl ?_
  refine w_iload_n (p := 193) (pI pM_214 rfl) rfl rfl ?_
  refine w_iconst (p := 194) (v := nI 1) (pI pM_214 rfl) rfl rfl ?_
  refine w_iadd (p := 195) (pI pM_214 rfl) rfl ?_
  rw [nI_add]
  refine v_iald (p := 196) (x := xs (i + 1)) (pI pM_214 rfl) rfl (by decide) rfl (vp_in_nI (by omega) (by omega)) (by rw [nI_clamp (by omega), hA]) ?_
  refine w_aload_n (p := 197) (pI pM_214 rfl) rfl rfl ?_
  refine w_iload_n (p := 198) (pI pM_214 rfl) rfl rfl ?_
  refine w_iconst (p := 199) (v := nI 2) (pI pM_214 rfl) rfl rfl ?_
  refine w_iadd (p := 200) (pI pM_214 rfl) rfl ?_
  rw [nI_add]
  refine v_iald (p := 201) (x := xs (i + 2)) (pI pM_214 rfl) rfl (by decide) rfl (vp_in_nI (by omega) (by omega)) (by rw [nI_clamp (by omega), hA]) ?_
  refine w_aload_n (p := 202) (pI pM_214 rfl) rfl rfl ?_
  refine w_iload_n (p := 203) (pI pM_214 rfl) rfl rfl ?_
  refine w_iconst (p := 204) (v := nI 3) (pI pM_214 rfl) rfl rfl ?_
  refine w_iadd (p := 205) (pI pM_214 rfl) rfl ?_
  rw [nI_add]
  refine v_iald (p := 206) (x := xs (i + 3)) (pI pM_214 rfl) rfl (by decide) rfl (vp_in_nI (by omega) (by omega)) (by rw [nI_clamp (by omega), hA]) ?_
  refine w_aload_n (p := 207) (pI pM_214 rfl) rfl rfl ?_
  refine w_iload_n (p := 208) (pI pM_214 rfl) rfl rfl ?_
  refine w_iconst (p := 209) (v := nI 4) (pI pM_214 rfl) rfl rfl ?_
  refine w_iadd (p := 210) (pI pM_214 rfl) rfl ?_
  rw [nI_add]
  refine v_iald (p := 211) (x := xs (i + 4)) (pI pM_214 rfl) rfl (by decide) rfl (vp_in_nI (by omega) (by omega)) (by rw [nI_clamp (by omega), hA]) ?_
  refine w_aload_n (p := 212) (pI pM_214 rfl) rfl rfl ?_
  refine w_iload_n (p := 213) (pI pM_214 rfl) rfl rfl ?_
  refine w_iconst (p := 214) (v := nI 5) (pI pM_214 rfl) rfl rfl ?_
  refine w_iadd (p := 215) (pI pM_214 rfl) rfl ?_
  rw [nI_add]
  refine v_iald (p := 216) (x := xs (i + 5)) (pI pM_214 rfl) rfl (by decide) rfl (vp_in_nI (by omega) (by omega)) (by rw [nI_clamp (by omega), hA]) ?_
  refine v_virtual (p := 219) (mj := 4) (pI pM_214 rfl) rfl rfl rfl rfl rfl rfl rfl rfl rfl rfl (by decide) (by decide) rfl ?_
  refine bm_M.mono 12 _ _ _ _ _ ?_ ok
  rintro _ _ ⟨r, A1, I1, rfl, rfl, hA1, h2⟩
  rw [hA] at hA1
  refine w_aload_n (p := 220) (pI pM_214 rfl) rfl rfl ?_
  refine w_aload_n (p := 221) (pI pM_214 rfl) rfl rfl ?_
  refine w_iload_n (p := 222) (pI pM_214 rfl) rfl rfl ?_
  refine w_iconst (p := 223) (v := nI 1) (pI pM_214 rfl) rfl rfl ?_
  refine w_iadd (p := 224) (pI pM_214 rfl) rfl ?_
  rw [nI_add]
  refine v_iald (p := 225) (x := xs (i + 1)) (pI pM_214 rfl) rfl (by decide) rfl (vp_in_nI (by omega) (by omega)) (by rw [nI_clamp (by omega), hA1]) ?_
  refine w_aload_n (p := 226) (pI pM_214 rfl) rfl rfl ?_
  refine w_iload_n (p := 227) (pI pM_214 rfl) rfl rfl ?_
  refine w_iconst (p := 228) (v := nI 2) (pI pM_214 rfl) rfl rfl ?_
  refine w_iadd (p := 229) (pI pM_214 rfl) rfl ?_
  rw [nI_add]
  refine v_iald (p := 230) (x := xs (i + 2)) (pI pM_214 rfl) rfl (by decide) rfl (vp_in_nI (by omega) (by omega)) (by rw [nI_clamp (by omega), hA1]) ?_
  refine w_aload_n (p := 231) (pI pM_214 rfl) rfl rfl ?_
  refine w_iload_n (p := 232) (pI pM_214 rfl) rfl rfl ?_
  refine w_iconst (p := 233) (v := nI 3) (pI pM_214 rfl) rfl rfl ?_
  refine w_iadd (p := 234) (pI pM_214 rfl) rfl ?_
  rw [nI_add]
  refine v_iald (p := 235) (x := xs (i + 3)) (pI pM_214 rfl) rfl (by decide) rfl (vp_in_nI (by omega) (by omega)) (by rw [nI_clamp (by omega), hA1]) ?_
  refine w_aload_n (p := 236) (pI pM_214 rfl) rfl rfl ?_
  refine w_iload_n (p := 237) (pI pM_214 rfl) rfl rfl ?_
  refine w_iconst (p := 238) (v := nI 4) (pI pM_214 rfl) rfl rfl ?_
  refine w_iadd (p := 239) (pI pM_214 rfl) rfl ?_
  rw [nI_add]
  refine v_iald (p := 240) (x := xs (i + 4)) (pI pM_214 rfl) rfl (by decide) rfl (vp_in_nI (by omega) (by omega)) (by rw [nI_clamp (by omega), hA1]) ?_
  refine w_aload_n (p := 241) (pI pM_214 rfl) rfl rfl ?_
  refine w_iload_n (p := 242) (pI pM_214 rfl) rfl rfl ?_
  refine w_iconst (p := 243) (v := nI 5) (pI pM_214 rfl) rfl rfl ?_
  refine w_iadd (p := 244) (pI pM_214 rfl) rfl ?_
  rw [nI_add]
  refine v_iald (p := 245) (x := xs (i + 5)) (pI pM_214 rfl) rfl (by decide) rfl (vp_in_nI (by omega) (by omega)) (by rw [nI_clamp (by omega), hA1]) ?_
  refine v_virtual (p := 248) (mj := 153) (pI pM_214 rfl) rfl rfl rfl rfl rfl rfl rfl rfl rfl rfl (by decide) (by decide) rfl ?_
  refine bm_M.mono 12 _ _ _ _ _ ?_ h2
  rintro _ _ ⟨A2, I2, rfl, rfl, hR2⟩
  refine w_icmp_eq (p := 251) (q := 745) (pI pM_214 rfl) rfl rfl rfl (fun _ => ?_) (fun c => absurd rfl c)
  exact law_next (kk A2 I2 hR2)
set_option maxRecDepth 100000 in
set_option maxHeartbeats 4000000 in
theorem lawW_case3 {L i : Nat} {xs : Nat → Int32} {Rel : (Nat → Nat → Int32) → (Nat → Nat → Int32) → Prop} {A I : Nat → Nat → Int32} (hL : L ≤ 3073) (hi : i + 6 ≤ L) (hA : A 0 = xs) (hR : Rel A I) (ok : opW L Rel 5 154 4) (kk : ∀ A2 I2, Rel A2 I2 → bm_W (bm_M 12) 214 bm_LQ 28 [.ref 0, .ref 3, .ref 1681, .int (nI (i + 6))] [] (hp L A2 I2)) : bm_W (bm_M 12) 214 bm_LQ 253 [.ref 0, .ref 3, .ref 1681, .int (nI i)] [] (hp L A I) := by
  have ok := ok A I [xs (i + 1), xs (i + 2), xs (i + 3), xs (i + 4)] hR rfl
  refine w_aload_n (p := 254) (pI pM_214 rfl) rfl rfl ?_
  refine w_aload_n (p := 255) (pI pM_214 rfl) rfl rfl ?_
  refine w_iload_n (p := 256) (pI pM_214 rfl) rfl rfl ?_
  refine w_iconst (p := 257) (v := nI 1) (pI pM_214 rfl) rfl rfl ?_
  refine w_iadd (p := 258) (pI pM_214 rfl) rfl ?_
  rw [nI_add]
  refine v_iald (p := 259) (x := xs (i + 1)) (pI pM_214 rfl) rfl (by decide) rfl (vp_in_nI (by omega) (by omega)) (by rw [nI_clamp (by omega), hA]) ?_
  refine w_aload_n (p := 260) (pI pM_214 rfl) rfl rfl ?_
  refine w_iload_n (p := 261) (pI pM_214 rfl) rfl rfl ?_
  refine w_iconst (p := 262) (v := nI 2) (pI pM_214 rfl) rfl rfl ?_
  refine w_iadd (p := 263) (pI pM_214 rfl) rfl ?_
  rw [nI_add]
  refine v_iald (p := 264) (x := xs (i + 2)) (pI pM_214 rfl) rfl (by decide) rfl (vp_in_nI (by omega) (by omega)) (by rw [nI_clamp (by omega), hA]) ?_
  refine w_aload_n (p := 265) (pI pM_214 rfl) rfl rfl ?_
  refine w_iload_n (p := 266) (pI pM_214 rfl) rfl rfl ?_
  refine w_iconst (p := 267) (v := nI 3) (pI pM_214 rfl) rfl rfl ?_
  refine w_iadd (p := 268) (pI pM_214 rfl) rfl ?_
  rw [nI_add]
  refine v_iald (p := 269) (x := xs (i + 3)) (pI pM_214 rfl) rfl (by decide) rfl (vp_in_nI (by omega) (by omega)) (by rw [nI_clamp (by omega), hA]) ?_
  refine w_aload_n (p := 270) (pI pM_214 rfl) rfl rfl ?_
  refine w_iload_n (p := 271) (pI pM_214 rfl) rfl rfl ?_
  refine w_iconst (p := 272) (v := nI 4) (pI pM_214 rfl) rfl rfl ?_
  refine w_iadd (p := 273) (pI pM_214 rfl) rfl ?_
  rw [nI_add]
  refine v_iald (p := 274) (x := xs (i + 4)) (pI pM_214 rfl) rfl (by decide) rfl (vp_in_nI (by omega) (by omega)) (by rw [nI_clamp (by omega), hA]) ?_
  refine v_virtual (p := 277) (mj := 5) (pI pM_214 rfl) rfl rfl rfl rfl rfl rfl rfl rfl rfl rfl (by decide) (by decide) rfl ?_
  refine bm_M.mono 12 _ _ _ _ _ ?_ ok
  rintro _ _ ⟨r, A1, I1, rfl, rfl, hA1, h2⟩
  rw [hA] at hA1
  refine w_aload_n (p := 278) (pI pM_214 rfl) rfl rfl ?_
  refine w_aload_n (p := 279) (pI pM_214 rfl) rfl rfl ?_
  refine w_iload_n (p := 280) (pI pM_214 rfl) rfl rfl ?_
  refine w_iconst (p := 281) (v := nI 1) (pI pM_214 rfl) rfl rfl ?_
  refine w_iadd (p := 282) (pI pM_214 rfl) rfl ?_
  rw [nI_add]
  refine v_iald (p := 283) (x := xs (i + 1)) (pI pM_214 rfl) rfl (by decide) rfl (vp_in_nI (by omega) (by omega)) (by rw [nI_clamp (by omega), hA1]) ?_
  refine w_aload_n (p := 284) (pI pM_214 rfl) rfl rfl ?_
  refine w_iload_n (p := 285) (pI pM_214 rfl) rfl rfl ?_
  refine w_iconst (p := 286) (v := nI 2) (pI pM_214 rfl) rfl rfl ?_
  refine w_iadd (p := 287) (pI pM_214 rfl) rfl ?_
  rw [nI_add]
  refine v_iald (p := 288) (x := xs (i + 2)) (pI pM_214 rfl) rfl (by decide) rfl (vp_in_nI (by omega) (by omega)) (by rw [nI_clamp (by omega), hA1]) ?_
  refine w_aload_n (p := 289) (pI pM_214 rfl) rfl rfl ?_
  refine w_iload_n (p := 290) (pI pM_214 rfl) rfl rfl ?_
  refine w_iconst (p := 291) (v := nI 3) (pI pM_214 rfl) rfl rfl ?_
  refine w_iadd (p := 292) (pI pM_214 rfl) rfl ?_
  rw [nI_add]
  refine v_iald (p := 293) (x := xs (i + 3)) (pI pM_214 rfl) rfl (by decide) rfl (vp_in_nI (by omega) (by omega)) (by rw [nI_clamp (by omega), hA1]) ?_
  refine w_aload_n (p := 294) (pI pM_214 rfl) rfl rfl ?_
  refine w_iload_n (p := 295) (pI pM_214 rfl) rfl rfl ?_
  refine w_iconst (p := 296) (v := nI 4) (pI pM_214 rfl) rfl rfl ?_
  refine w_iadd (p := 297) (pI pM_214 rfl) rfl ?_
  rw [nI_add]
  refine v_iald (p := 298) (x := xs (i + 4)) (pI pM_214 rfl) rfl (by decide) rfl (vp_in_nI (by omega) (by omega)) (by rw [nI_clamp (by omega), hA1]) ?_
  refine v_virtual (p := 301) (mj := 154) (pI pM_214 rfl) rfl rfl rfl rfl rfl rfl rfl rfl rfl rfl (by decide) (by decide) rfl ?_
  refine bm_M.mono 12 _ _ _ _ _ ?_ h2
  rintro _ _ ⟨A2, I2, rfl, rfl, hR2⟩
  refine w_icmp_eq (p := 304) (q := 745) (pI pM_214 rfl) rfl rfl rfl (fun _ => ?_) (fun c => absurd rfl c)
  exact law_next (kk A2 I2 hR2)
set_option maxRecDepth 100000 in
set_option maxHeartbeats 4000000 in
theorem lawW_case4 {L i : Nat} {xs : Nat → Int32} {Rel : (Nat → Nat → Int32) → (Nat → Nat → Int32) → Prop} {A I : Nat → Nat → Int32} (hL : L ≤ 3073) (hi : i + 6 ≤ L) (hA : A 0 = xs) (hR : Rel A I) (ok : opW L Rel 6 193 1) (kk : ∀ A2 I2, Rel A2 I2 → bm_W (bm_M 12) 214 bm_LQ 28 [.ref 0, .ref 3, .ref 1681, .int (nI (i + 6))] [] (hp L A2 I2)) : bm_W (bm_M 12) 214 bm_LQ 306 [.ref 0, .ref 3, .ref 1681, .int (nI i)] [] (hp L A I) := by
  have ok := ok A I [xs (i + 1)] hR rfl
  refine w_aload_n (p := 307) (pI pM_214 rfl) rfl rfl ?_
  refine w_aload_n (p := 308) (pI pM_214 rfl) rfl rfl ?_
  refine w_iload_n (p := 309) (pI pM_214 rfl) rfl rfl ?_
  refine w_iconst (p := 310) (v := nI 1) (pI pM_214 rfl) rfl rfl ?_
  refine w_iadd (p := 311) (pI pM_214 rfl) rfl ?_
  rw [nI_add]
  refine v_iald (p := 312) (x := xs (i + 1)) (pI pM_214 rfl) rfl (by decide) rfl (vp_in_nI (by omega) (by omega)) (by rw [nI_clamp (by omega), hA]) ?_
  refine v_virtual (p := 315) (mj := 6) (pI pM_214 rfl) rfl rfl rfl rfl rfl rfl rfl rfl rfl rfl (by decide) (by decide) rfl ?_
  refine bm_M.mono 12 _ _ _ _ _ ?_ ok
  rintro _ _ ⟨r, A1, I1, rfl, rfl, hA1, h2⟩
  rw [hA] at hA1
  refine w_aload_n (p := 316) (pI pM_214 rfl) rfl rfl ?_
  refine w_aload_n (p := 317) (pI pM_214 rfl) rfl rfl ?_
  refine w_iload_n (p := 318) (pI pM_214 rfl) rfl rfl ?_
  refine w_iconst (p := 319) (v := nI 1) (pI pM_214 rfl) rfl rfl ?_
  refine w_iadd (p := 320) (pI pM_214 rfl) rfl ?_
  rw [nI_add]
  refine v_iald (p := 321) (x := xs (i + 1)) (pI pM_214 rfl) rfl (by decide) rfl (vp_in_nI (by omega) (by omega)) (by rw [nI_clamp (by omega), hA1]) ?_
  refine v_virtual (p := 324) (mj := 193) (pI pM_214 rfl) rfl rfl rfl rfl rfl rfl rfl rfl rfl rfl (by decide) (by decide) rfl ?_
  refine bm_M.mono 12 _ _ _ _ _ ?_ h2
  rintro _ _ ⟨A2, I2, rfl, rfl, hR2⟩
  refine w_icmp_eq (p := 327) (q := 745) (pI pM_214 rfl) rfl rfl rfl (fun _ => ?_) (fun c => absurd rfl c)
  exact law_next (kk A2 I2 hR2)
set_option maxRecDepth 100000 in
set_option maxHeartbeats 4000000 in
theorem lawW_case5 {L i : Nat} {xs : Nat → Int32} {Rel : (Nat → Nat → Int32) → (Nat → Nat → Int32) → Prop} {A I : Nat → Nat → Int32} (hL : L ≤ 3073) (hi : i + 6 ≤ L) (hA : A 0 = xs) (hR : Rel A I) (ok : opW L Rel 7 194 1) (kk : ∀ A2 I2, Rel A2 I2 → bm_W (bm_M 12) 214 bm_LQ 28 [.ref 0, .ref 3, .ref 1681, .int (nI (i + 6))] [] (hp L A2 I2)) : bm_W (bm_M 12) 214 bm_LQ 329 [.ref 0, .ref 3, .ref 1681, .int (nI i)] [] (hp L A I) := by
  have ok := ok A I [xs (i + 1)] hR rfl
  refine w_aload_n (p := 330) (pI pM_214 rfl) rfl rfl ?_
  refine w_aload_n (p := 331) (pI pM_214 rfl) rfl rfl ?_
  refine w_iload_n (p := 332) (pI pM_214 rfl) rfl rfl ?_
  refine w_iconst (p := 333) (v := nI 1) (pI pM_214 rfl) rfl rfl ?_
  refine w_iadd (p := 334) (pI pM_214 rfl) rfl ?_
  rw [nI_add]
  refine v_iald (p := 335) (x := xs (i + 1)) (pI pM_214 rfl) rfl (by decide) rfl (vp_in_nI (by omega) (by omega)) (by rw [nI_clamp (by omega), hA]) ?_
  refine v_virtual (p := 338) (mj := 7) (pI pM_214 rfl) rfl rfl rfl rfl rfl rfl rfl rfl rfl rfl (by decide) (by decide) rfl ?_
  refine bm_M.mono 12 _ _ _ _ _ ?_ ok
  rintro _ _ ⟨r, A1, I1, rfl, rfl, hA1, h2⟩
  rw [hA] at hA1
  refine w_aload_n (p := 339) (pI pM_214 rfl) rfl rfl ?_
  refine w_aload_n (p := 340) (pI pM_214 rfl) rfl rfl ?_
  refine w_iload_n (p := 341) (pI pM_214 rfl) rfl rfl ?_
  refine w_iconst (p := 342) (v := nI 1) (pI pM_214 rfl) rfl rfl ?_
  refine w_iadd (p := 343) (pI pM_214 rfl) rfl ?_
  rw [nI_add]
  refine v_iald (p := 344) (x := xs (i + 1)) (pI pM_214 rfl) rfl (by decide) rfl (vp_in_nI (by omega) (by omega)) (by rw [nI_clamp (by omega), hA1]) ?_
  refine v_virtual (p := 347) (mj := 194) (pI pM_214 rfl) rfl rfl rfl rfl rfl rfl rfl rfl rfl rfl (by decide) (by decide) rfl ?_
  refine bm_M.mono 12 _ _ _ _ _ ?_ h2
  rintro _ _ ⟨A2, I2, rfl, rfl, hR2⟩
  refine w_icmp_eq (p := 350) (q := 745) (pI pM_214 rfl) rfl rfl rfl (fun _ => ?_) (fun c => absurd rfl c)
  exact law_next (kk A2 I2 hR2)
set_option maxRecDepth 100000 in
set_option maxHeartbeats 4000000 in
theorem lawW_case6 {L i : Nat} {xs : Nat → Int32} {Rel : (Nat → Nat → Int32) → (Nat → Nat → Int32) → Prop} {A I : Nat → Nat → Int32} (hL : L ≤ 3073) (hi : i + 6 ≤ L) (hA : A 0 = xs) (hR : Rel A I) (ok : opW L Rel 8 195 2) (kk : ∀ A2 I2, Rel A2 I2 → bm_W (bm_M 12) 214 bm_LQ 28 [.ref 0, .ref 3, .ref 1681, .int (nI (i + 6))] [] (hp L A2 I2)) : bm_W (bm_M 12) 214 bm_LQ 352 [.ref 0, .ref 3, .ref 1681, .int (nI i)] [] (hp L A I) := by
  have ok := ok A I [xs (i + 1), xs (i + 2)] hR rfl
  refine w_aload_n (p := 353) (pI pM_214 rfl) rfl rfl ?_
  refine w_aload_n (p := 354) (pI pM_214 rfl) rfl rfl ?_
  refine w_iload_n (p := 355) (pI pM_214 rfl) rfl rfl ?_
  refine w_iconst (p := 356) (v := nI 1) (pI pM_214 rfl) rfl rfl ?_
  refine w_iadd (p := 357) (pI pM_214 rfl) rfl ?_
  rw [nI_add]
  refine v_iald (p := 358) (x := xs (i + 1)) (pI pM_214 rfl) rfl (by decide) rfl (vp_in_nI (by omega) (by omega)) (by rw [nI_clamp (by omega), hA]) ?_
  refine w_aload_n (p := 359) (pI pM_214 rfl) rfl rfl ?_
  refine w_iload_n (p := 360) (pI pM_214 rfl) rfl rfl ?_
  refine w_iconst (p := 361) (v := nI 2) (pI pM_214 rfl) rfl rfl ?_
  refine w_iadd (p := 362) (pI pM_214 rfl) rfl ?_
  rw [nI_add]
  refine v_iald (p := 363) (x := xs (i + 2)) (pI pM_214 rfl) rfl (by decide) rfl (vp_in_nI (by omega) (by omega)) (by rw [nI_clamp (by omega), hA]) ?_
  refine v_virtual (p := 366) (mj := 8) (pI pM_214 rfl) rfl rfl rfl rfl rfl rfl rfl rfl rfl rfl (by decide) (by decide) rfl ?_
  refine bm_M.mono 12 _ _ _ _ _ ?_ ok
  rintro _ _ ⟨r, A1, I1, rfl, rfl, hA1, h2⟩
  rw [hA] at hA1
  refine w_aload_n (p := 367) (pI pM_214 rfl) rfl rfl ?_
  refine w_aload_n (p := 368) (pI pM_214 rfl) rfl rfl ?_
  refine w_iload_n (p := 369) (pI pM_214 rfl) rfl rfl ?_
  refine w_iconst (p := 370) (v := nI 1) (pI pM_214 rfl) rfl rfl ?_
  refine w_iadd (p := 371) (pI pM_214 rfl) rfl ?_
  rw [nI_add]
  refine v_iald (p := 372) (x := xs (i + 1)) (pI pM_214 rfl) rfl (by decide) rfl (vp_in_nI (by omega) (by omega)) (by rw [nI_clamp (by omega), hA1]) ?_
  refine w_aload_n (p := 373) (pI pM_214 rfl) rfl rfl ?_
  refine w_iload_n (p := 374) (pI pM_214 rfl) rfl rfl ?_
  refine w_iconst (p := 375) (v := nI 2) (pI pM_214 rfl) rfl rfl ?_
  refine w_iadd (p := 376) (pI pM_214 rfl) rfl ?_
  rw [nI_add]
  refine v_iald (p := 377) (x := xs (i + 2)) (pI pM_214 rfl) rfl (by decide) rfl (vp_in_nI (by omega) (by omega)) (by rw [nI_clamp (by omega), hA1]) ?_
  refine v_virtual (p := 380) (mj := 195) (pI pM_214 rfl) rfl rfl rfl rfl rfl rfl rfl rfl rfl rfl (by decide) (by decide) rfl ?_
  refine bm_M.mono 12 _ _ _ _ _ ?_ h2
  rintro _ _ ⟨A2, I2, rfl, rfl, hR2⟩
  refine w_icmp_eq (p := 383) (q := 745) (pI pM_214 rfl) rfl rfl rfl (fun _ => ?_) (fun c => absurd rfl c)
  exact law_next (kk A2 I2 hR2)
set_option maxRecDepth 100000 in
set_option maxHeartbeats 4000000 in
theorem lawW_case7 {L i : Nat} {xs : Nat → Int32} {Rel : (Nat → Nat → Int32) → (Nat → Nat → Int32) → Prop} {A I : Nat → Nat → Int32} (hL : L ≤ 3073) (hi : i + 6 ≤ L) (hA : A 0 = xs) (hR : Rel A I) (ok : opW L Rel 10 198 3) (kk : ∀ A2 I2, Rel A2 I2 → bm_W (bm_M 12) 214 bm_LQ 28 [.ref 0, .ref 3, .ref 1681, .int (nI (i + 6))] [] (hp L A2 I2)) : bm_W (bm_M 12) 214 bm_LQ 385 [.ref 0, .ref 3, .ref 1681, .int (nI i)] [] (hp L A I) := by
  have ok := ok A I [xs (i + 1), xs (i + 2), xs (i + 3)] hR rfl
  refine w_aload_n (p := 386) (pI pM_214 rfl) rfl rfl ?_
  refine w_aload_n (p := 387) (pI pM_214 rfl) rfl rfl ?_
  refine w_iload_n (p := 388) (pI pM_214 rfl) rfl rfl ?_
  refine w_iconst (p := 389) (v := nI 1) (pI pM_214 rfl) rfl rfl ?_
  refine w_iadd (p := 390) (pI pM_214 rfl) rfl ?_
  rw [nI_add]
  refine v_iald (p := 391) (x := xs (i + 1)) (pI pM_214 rfl) rfl (by decide) rfl (vp_in_nI (by omega) (by omega)) (by rw [nI_clamp (by omega), hA]) ?_
  refine w_aload_n (p := 392) (pI pM_214 rfl) rfl rfl ?_
  refine w_iload_n (p := 393) (pI pM_214 rfl) rfl rfl ?_
  refine w_iconst (p := 394) (v := nI 2) (pI pM_214 rfl) rfl rfl ?_
  refine w_iadd (p := 395) (pI pM_214 rfl) rfl ?_
  rw [nI_add]
  refine v_iald (p := 396) (x := xs (i + 2)) (pI pM_214 rfl) rfl (by decide) rfl (vp_in_nI (by omega) (by omega)) (by rw [nI_clamp (by omega), hA]) ?_
  refine w_aload_n (p := 397) (pI pM_214 rfl) rfl rfl ?_
  refine w_iload_n (p := 398) (pI pM_214 rfl) rfl rfl ?_
  refine w_iconst (p := 399) (v := nI 3) (pI pM_214 rfl) rfl rfl ?_
  refine w_iadd (p := 400) (pI pM_214 rfl) rfl ?_
  rw [nI_add]
  refine v_iald (p := 401) (x := xs (i + 3)) (pI pM_214 rfl) rfl (by decide) rfl (vp_in_nI (by omega) (by omega)) (by rw [nI_clamp (by omega), hA]) ?_
  refine v_virtual (p := 404) (mj := 10) (pI pM_214 rfl) rfl rfl rfl rfl rfl rfl rfl rfl rfl rfl (by decide) (by decide) rfl ?_
  refine bm_M.mono 12 _ _ _ _ _ ?_ ok
  rintro _ _ ⟨r, A1, I1, rfl, rfl, hA1, h2⟩
  rw [hA] at hA1
  refine w_aload_n (p := 405) (pI pM_214 rfl) rfl rfl ?_
  refine w_aload_n (p := 406) (pI pM_214 rfl) rfl rfl ?_
  refine w_iload_n (p := 407) (pI pM_214 rfl) rfl rfl ?_
  refine w_iconst (p := 408) (v := nI 1) (pI pM_214 rfl) rfl rfl ?_
  refine w_iadd (p := 409) (pI pM_214 rfl) rfl ?_
  rw [nI_add]
  refine v_iald (p := 410) (x := xs (i + 1)) (pI pM_214 rfl) rfl (by decide) rfl (vp_in_nI (by omega) (by omega)) (by rw [nI_clamp (by omega), hA1]) ?_
  refine w_aload_n (p := 411) (pI pM_214 rfl) rfl rfl ?_
  refine w_iload_n (p := 412) (pI pM_214 rfl) rfl rfl ?_
  refine w_iconst (p := 413) (v := nI 2) (pI pM_214 rfl) rfl rfl ?_
  refine w_iadd (p := 414) (pI pM_214 rfl) rfl ?_
  rw [nI_add]
  refine v_iald (p := 415) (x := xs (i + 2)) (pI pM_214 rfl) rfl (by decide) rfl (vp_in_nI (by omega) (by omega)) (by rw [nI_clamp (by omega), hA1]) ?_
  refine w_aload_n (p := 416) (pI pM_214 rfl) rfl rfl ?_
  refine w_iload_n (p := 417) (pI pM_214 rfl) rfl rfl ?_
  refine w_iconst (p := 418) (v := nI 3) (pI pM_214 rfl) rfl rfl ?_
  refine w_iadd (p := 419) (pI pM_214 rfl) rfl ?_
  rw [nI_add]
  refine v_iald (p := 420) (x := xs (i + 3)) (pI pM_214 rfl) rfl (by decide) rfl (vp_in_nI (by omega) (by omega)) (by rw [nI_clamp (by omega), hA1]) ?_
  refine v_virtual (p := 423) (mj := 198) (pI pM_214 rfl) rfl rfl rfl rfl rfl rfl rfl rfl rfl rfl (by decide) (by decide) rfl ?_
  refine bm_M.mono 12 _ _ _ _ _ ?_ h2
  rintro _ _ ⟨A2, I2, rfl, rfl, hR2⟩
  refine w_icmp_eq (p := 426) (q := 745) (pI pM_214 rfl) rfl rfl rfl (fun _ => ?_) (fun c => absurd rfl c)
  exact law_next (kk A2 I2 hR2)
set_option maxRecDepth 100000 in
set_option maxHeartbeats 4000000 in
theorem lawW_case8 {L i : Nat} {xs : Nat → Int32} {Rel : (Nat → Nat → Int32) → (Nat → Nat → Int32) → Prop} {A I : Nat → Nat → Int32} (hL : L ≤ 3073) (hi : i + 6 ≤ L) (hA : A 0 = xs) (hR : Rel A I) (ok : opW L Rel 11 199 2) (kk : ∀ A2 I2, Rel A2 I2 → bm_W (bm_M 12) 214 bm_LQ 28 [.ref 0, .ref 3, .ref 1681, .int (nI (i + 6))] [] (hp L A2 I2)) : bm_W (bm_M 12) 214 bm_LQ 428 [.ref 0, .ref 3, .ref 1681, .int (nI i)] [] (hp L A I) := by
  have ok := ok A I [xs (i + 1), xs (i + 2)] hR rfl
  refine w_aload_n (p := 429) (pI pM_214 rfl) rfl rfl ?_
  refine w_aload_n (p := 430) (pI pM_214 rfl) rfl rfl ?_
  refine w_iload_n (p := 431) (pI pM_214 rfl) rfl rfl ?_
  refine w_iconst (p := 432) (v := nI 1) (pI pM_214 rfl) rfl rfl ?_
  refine w_iadd (p := 433) (pI pM_214 rfl) rfl ?_
  rw [nI_add]
  refine v_iald (p := 434) (x := xs (i + 1)) (pI pM_214 rfl) rfl (by decide) rfl (vp_in_nI (by omega) (by omega)) (by rw [nI_clamp (by omega), hA]) ?_
  refine w_aload_n (p := 435) (pI pM_214 rfl) rfl rfl ?_
  refine w_iload_n (p := 436) (pI pM_214 rfl) rfl rfl ?_
  refine w_iconst (p := 437) (v := nI 2) (pI pM_214 rfl) rfl rfl ?_
  refine w_iadd (p := 438) (pI pM_214 rfl) rfl ?_
  rw [nI_add]
  refine v_iald (p := 439) (x := xs (i + 2)) (pI pM_214 rfl) rfl (by decide) rfl (vp_in_nI (by omega) (by omega)) (by rw [nI_clamp (by omega), hA]) ?_
  refine v_virtual (p := 442) (mj := 11) (pI pM_214 rfl) rfl rfl rfl rfl rfl rfl rfl rfl rfl rfl (by decide) (by decide) rfl ?_
  refine bm_M.mono 12 _ _ _ _ _ ?_ ok
  rintro _ _ ⟨r, A1, I1, rfl, rfl, hA1, h2⟩
  rw [hA] at hA1
  refine w_aload_n (p := 443) (pI pM_214 rfl) rfl rfl ?_
  refine w_aload_n (p := 444) (pI pM_214 rfl) rfl rfl ?_
  refine w_iload_n (p := 445) (pI pM_214 rfl) rfl rfl ?_
  refine w_iconst (p := 446) (v := nI 1) (pI pM_214 rfl) rfl rfl ?_
  refine w_iadd (p := 447) (pI pM_214 rfl) rfl ?_
  rw [nI_add]
  refine v_iald (p := 448) (x := xs (i + 1)) (pI pM_214 rfl) rfl (by decide) rfl (vp_in_nI (by omega) (by omega)) (by rw [nI_clamp (by omega), hA1]) ?_
  refine w_aload_n (p := 449) (pI pM_214 rfl) rfl rfl ?_
  refine w_iload_n (p := 450) (pI pM_214 rfl) rfl rfl ?_
  refine w_iconst (p := 451) (v := nI 2) (pI pM_214 rfl) rfl rfl ?_
  refine w_iadd (p := 452) (pI pM_214 rfl) rfl ?_
  rw [nI_add]
  refine v_iald (p := 453) (x := xs (i + 2)) (pI pM_214 rfl) rfl (by decide) rfl (vp_in_nI (by omega) (by omega)) (by rw [nI_clamp (by omega), hA1]) ?_
  refine v_virtual (p := 456) (mj := 199) (pI pM_214 rfl) rfl rfl rfl rfl rfl rfl rfl rfl rfl rfl (by decide) (by decide) rfl ?_
  refine bm_M.mono 12 _ _ _ _ _ ?_ h2
  rintro _ _ ⟨A2, I2, rfl, rfl, hR2⟩
  refine w_icmp_eq (p := 459) (q := 745) (pI pM_214 rfl) rfl rfl rfl (fun _ => ?_) (fun c => absurd rfl c)
  exact law_next (kk A2 I2 hR2)
set_option maxRecDepth 100000 in
set_option maxHeartbeats 4000000 in
theorem lawW_case9 {L i : Nat} {xs : Nat → Int32} {Rel : (Nat → Nat → Int32) → (Nat → Nat → Int32) → Prop} {A I : Nat → Nat → Int32} (hL : L ≤ 3073) (hi : i + 6 ≤ L) (hA : A 0 = xs) (hR : Rel A I) (ok : opW L Rel 12 200 3) (kk : ∀ A2 I2, Rel A2 I2 → bm_W (bm_M 12) 214 bm_LQ 28 [.ref 0, .ref 3, .ref 1681, .int (nI (i + 6))] [] (hp L A2 I2)) : bm_W (bm_M 12) 214 bm_LQ 461 [.ref 0, .ref 3, .ref 1681, .int (nI i)] [] (hp L A I) := by
  have ok := ok A I [xs (i + 1), xs (i + 2), xs (i + 3)] hR rfl
  refine w_aload_n (p := 462) (pI pM_214 rfl) rfl rfl ?_
  refine w_aload_n (p := 463) (pI pM_214 rfl) rfl rfl ?_
  refine w_iload_n (p := 464) (pI pM_214 rfl) rfl rfl ?_
  refine w_iconst (p := 465) (v := nI 1) (pI pM_214 rfl) rfl rfl ?_
  refine w_iadd (p := 466) (pI pM_214 rfl) rfl ?_
  rw [nI_add]
  refine v_iald (p := 467) (x := xs (i + 1)) (pI pM_214 rfl) rfl (by decide) rfl (vp_in_nI (by omega) (by omega)) (by rw [nI_clamp (by omega), hA]) ?_
  refine w_aload_n (p := 468) (pI pM_214 rfl) rfl rfl ?_
  refine w_iload_n (p := 469) (pI pM_214 rfl) rfl rfl ?_
  refine w_iconst (p := 470) (v := nI 2) (pI pM_214 rfl) rfl rfl ?_
  refine w_iadd (p := 471) (pI pM_214 rfl) rfl ?_
  rw [nI_add]
  refine v_iald (p := 472) (x := xs (i + 2)) (pI pM_214 rfl) rfl (by decide) rfl (vp_in_nI (by omega) (by omega)) (by rw [nI_clamp (by omega), hA]) ?_
  refine w_aload_n (p := 473) (pI pM_214 rfl) rfl rfl ?_
  refine w_iload_n (p := 474) (pI pM_214 rfl) rfl rfl ?_
  refine w_iconst (p := 475) (v := nI 3) (pI pM_214 rfl) rfl rfl ?_
  refine w_iadd (p := 476) (pI pM_214 rfl) rfl ?_
  rw [nI_add]
  refine v_iald (p := 477) (x := xs (i + 3)) (pI pM_214 rfl) rfl (by decide) rfl (vp_in_nI (by omega) (by omega)) (by rw [nI_clamp (by omega), hA]) ?_
  refine v_virtual (p := 480) (mj := 12) (pI pM_214 rfl) rfl rfl rfl rfl rfl rfl rfl rfl rfl rfl (by decide) (by decide) rfl ?_
  refine bm_M.mono 12 _ _ _ _ _ ?_ ok
  rintro _ _ ⟨r, A1, I1, rfl, rfl, hA1, h2⟩
  rw [hA] at hA1
  refine w_aload_n (p := 481) (pI pM_214 rfl) rfl rfl ?_
  refine w_aload_n (p := 482) (pI pM_214 rfl) rfl rfl ?_
  refine w_iload_n (p := 483) (pI pM_214 rfl) rfl rfl ?_
  refine w_iconst (p := 484) (v := nI 1) (pI pM_214 rfl) rfl rfl ?_
  refine w_iadd (p := 485) (pI pM_214 rfl) rfl ?_
  rw [nI_add]
  refine v_iald (p := 486) (x := xs (i + 1)) (pI pM_214 rfl) rfl (by decide) rfl (vp_in_nI (by omega) (by omega)) (by rw [nI_clamp (by omega), hA1]) ?_
  refine w_aload_n (p := 487) (pI pM_214 rfl) rfl rfl ?_
  refine w_iload_n (p := 488) (pI pM_214 rfl) rfl rfl ?_
  refine w_iconst (p := 489) (v := nI 2) (pI pM_214 rfl) rfl rfl ?_
  refine w_iadd (p := 490) (pI pM_214 rfl) rfl ?_
  rw [nI_add]
  refine v_iald (p := 491) (x := xs (i + 2)) (pI pM_214 rfl) rfl (by decide) rfl (vp_in_nI (by omega) (by omega)) (by rw [nI_clamp (by omega), hA1]) ?_
  refine w_aload_n (p := 492) (pI pM_214 rfl) rfl rfl ?_
  refine w_iload_n (p := 493) (pI pM_214 rfl) rfl rfl ?_
  refine w_iconst (p := 494) (v := nI 3) (pI pM_214 rfl) rfl rfl ?_
  refine w_iadd (p := 495) (pI pM_214 rfl) rfl ?_
  rw [nI_add]
  refine v_iald (p := 496) (x := xs (i + 3)) (pI pM_214 rfl) rfl (by decide) rfl (vp_in_nI (by omega) (by omega)) (by rw [nI_clamp (by omega), hA1]) ?_
  refine v_virtual (p := 499) (mj := 200) (pI pM_214 rfl) rfl rfl rfl rfl rfl rfl rfl rfl rfl rfl (by decide) (by decide) rfl ?_
  refine bm_M.mono 12 _ _ _ _ _ ?_ h2
  rintro _ _ ⟨A2, I2, rfl, rfl, hR2⟩
  refine w_icmp_eq (p := 502) (q := 745) (pI pM_214 rfl) rfl rfl rfl (fun _ => ?_) (fun c => absurd rfl c)
  exact law_next (kk A2 I2 hR2)
set_option maxRecDepth 100000 in
set_option maxHeartbeats 4000000 in
theorem lawW_case10 {L i : Nat} {xs : Nat → Int32} {Rel : (Nat → Nat → Int32) → (Nat → Nat → Int32) → Prop} {A I : Nat → Nat → Int32} (hL : L ≤ 3073) (hi : i + 6 ≤ L) (hA : A 0 = xs) (hR : Rel A I) (ok : opW L Rel 14 202 2) (kk : ∀ A2 I2, Rel A2 I2 → bm_W (bm_M 12) 214 bm_LQ 28 [.ref 0, .ref 3, .ref 1681, .int (nI (i + 6))] [] (hp L A2 I2)) : bm_W (bm_M 12) 214 bm_LQ 504 [.ref 0, .ref 3, .ref 1681, .int (nI i)] [] (hp L A I) := by
  have ok := ok A I [xs (i + 1), xs (i + 2)] hR rfl
  refine w_aload_n (p := 505) (pI pM_214 rfl) rfl rfl ?_
  refine w_aload_n (p := 506) (pI pM_214 rfl) rfl rfl ?_
  refine w_iload_n (p := 507) (pI pM_214 rfl) rfl rfl ?_
  refine w_iconst (p := 508) (v := nI 1) (pI pM_214 rfl) rfl rfl ?_
  refine w_iadd (p := 509) (pI pM_214 rfl) rfl ?_
  rw [nI_add]
  refine v_iald (p := 510) (x := xs (i + 1)) (pI pM_214 rfl) rfl (by decide) rfl (vp_in_nI (by omega) (by omega)) (by rw [nI_clamp (by omega), hA]) ?_
  refine w_aload_n (p := 511) (pI pM_214 rfl) rfl rfl ?_
  refine w_iload_n (p := 512) (pI pM_214 rfl) rfl rfl ?_
  refine w_iconst (p := 513) (v := nI 2) (pI pM_214 rfl) rfl rfl ?_
  refine w_iadd (p := 514) (pI pM_214 rfl) rfl ?_
  rw [nI_add]
  refine v_iald (p := 515) (x := xs (i + 2)) (pI pM_214 rfl) rfl (by decide) rfl (vp_in_nI (by omega) (by omega)) (by rw [nI_clamp (by omega), hA]) ?_
  refine v_virtual (p := 518) (mj := 14) (pI pM_214 rfl) rfl rfl rfl rfl rfl rfl rfl rfl rfl rfl (by decide) (by decide) rfl ?_
  refine bm_M.mono 12 _ _ _ _ _ ?_ ok
  rintro _ _ ⟨r, A1, I1, rfl, rfl, hA1, h2⟩
  rw [hA] at hA1
  refine w_aload_n (p := 519) (pI pM_214 rfl) rfl rfl ?_
  refine w_aload_n (p := 520) (pI pM_214 rfl) rfl rfl ?_
  refine w_iload_n (p := 521) (pI pM_214 rfl) rfl rfl ?_
  refine w_iconst (p := 522) (v := nI 1) (pI pM_214 rfl) rfl rfl ?_
  refine w_iadd (p := 523) (pI pM_214 rfl) rfl ?_
  rw [nI_add]
  refine v_iald (p := 524) (x := xs (i + 1)) (pI pM_214 rfl) rfl (by decide) rfl (vp_in_nI (by omega) (by omega)) (by rw [nI_clamp (by omega), hA1]) ?_
  refine w_aload_n (p := 525) (pI pM_214 rfl) rfl rfl ?_
  refine w_iload_n (p := 526) (pI pM_214 rfl) rfl rfl ?_
  refine w_iconst (p := 527) (v := nI 2) (pI pM_214 rfl) rfl rfl ?_
  refine w_iadd (p := 528) (pI pM_214 rfl) rfl ?_
  rw [nI_add]
  refine v_iald (p := 529) (x := xs (i + 2)) (pI pM_214 rfl) rfl (by decide) rfl (vp_in_nI (by omega) (by omega)) (by rw [nI_clamp (by omega), hA1]) ?_
  refine v_virtual (p := 532) (mj := 202) (pI pM_214 rfl) rfl rfl rfl rfl rfl rfl rfl rfl rfl rfl (by decide) (by decide) rfl ?_
  refine bm_M.mono 12 _ _ _ _ _ ?_ h2
  rintro _ _ ⟨A2, I2, rfl, rfl, hR2⟩
  refine w_icmp_eq (p := 535) (q := 745) (pI pM_214 rfl) rfl rfl rfl (fun _ => ?_) (fun c => absurd rfl c)
  exact law_next (kk A2 I2 hR2)
set_option maxRecDepth 100000 in
set_option maxHeartbeats 4000000 in
theorem lawW_case11 {L i : Nat} {xs : Nat → Int32} {Rel : (Nat → Nat → Int32) → (Nat → Nat → Int32) → Prop} {A I : Nat → Nat → Int32} (hL : L ≤ 3073) (hi : i + 6 ≤ L) (hA : A 0 = xs) (hR : Rel A I) (ok : opW L Rel 15 203 2) (kk : ∀ A2 I2, Rel A2 I2 → bm_W (bm_M 12) 214 bm_LQ 28 [.ref 0, .ref 3, .ref 1681, .int (nI (i + 6))] [] (hp L A2 I2)) : bm_W (bm_M 12) 214 bm_LQ 537 [.ref 0, .ref 3, .ref 1681, .int (nI i)] [] (hp L A I) := by
  have ok := ok A I [xs (i + 1), xs (i + 2)] hR rfl
  refine w_aload_n (p := 538) (pI pM_214 rfl) rfl rfl ?_
  refine w_aload_n (p := 539) (pI pM_214 rfl) rfl rfl ?_
  refine w_iload_n (p := 540) (pI pM_214 rfl) rfl rfl ?_
  refine w_iconst (p := 541) (v := nI 1) (pI pM_214 rfl) rfl rfl ?_
  refine w_iadd (p := 542) (pI pM_214 rfl) rfl ?_
  rw [nI_add]
  refine v_iald (p := 543) (x := xs (i + 1)) (pI pM_214 rfl) rfl (by decide) rfl (vp_in_nI (by omega) (by omega)) (by rw [nI_clamp (by omega), hA]) ?_
  refine w_aload_n (p := 544) (pI pM_214 rfl) rfl rfl ?_
  refine w_iload_n (p := 545) (pI pM_214 rfl) rfl rfl ?_
  refine w_iconst (p := 546) (v := nI 2) (pI pM_214 rfl) rfl rfl ?_
  refine w_iadd (p := 547) (pI pM_214 rfl) rfl ?_
  rw [nI_add]
  refine v_iald (p := 548) (x := xs (i + 2)) (pI pM_214 rfl) rfl (by decide) rfl (vp_in_nI (by omega) (by omega)) (by rw [nI_clamp (by omega), hA]) ?_
  refine v_virtual (p := 551) (mj := 15) (pI pM_214 rfl) rfl rfl rfl rfl rfl rfl rfl rfl rfl rfl (by decide) (by decide) rfl ?_
  refine bm_M.mono 12 _ _ _ _ _ ?_ ok
  rintro _ _ ⟨r, A1, I1, rfl, rfl, hA1, h2⟩
  rw [hA] at hA1
  refine w_aload_n (p := 552) (pI pM_214 rfl) rfl rfl ?_
  refine w_aload_n (p := 553) (pI pM_214 rfl) rfl rfl ?_
  refine w_iload_n (p := 554) (pI pM_214 rfl) rfl rfl ?_
  refine w_iconst (p := 555) (v := nI 1) (pI pM_214 rfl) rfl rfl ?_
  refine w_iadd (p := 556) (pI pM_214 rfl) rfl ?_
  rw [nI_add]
  refine v_iald (p := 557) (x := xs (i + 1)) (pI pM_214 rfl) rfl (by decide) rfl (vp_in_nI (by omega) (by omega)) (by rw [nI_clamp (by omega), hA1]) ?_
  refine w_aload_n (p := 558) (pI pM_214 rfl) rfl rfl ?_
  refine w_iload_n (p := 559) (pI pM_214 rfl) rfl rfl ?_
  refine w_iconst (p := 560) (v := nI 2) (pI pM_214 rfl) rfl rfl ?_
  refine w_iadd (p := 561) (pI pM_214 rfl) rfl ?_
  rw [nI_add]
  refine v_iald (p := 562) (x := xs (i + 2)) (pI pM_214 rfl) rfl (by decide) rfl (vp_in_nI (by omega) (by omega)) (by rw [nI_clamp (by omega), hA1]) ?_
  refine v_virtual (p := 565) (mj := 203) (pI pM_214 rfl) rfl rfl rfl rfl rfl rfl rfl rfl rfl rfl (by decide) (by decide) rfl ?_
  refine bm_M.mono 12 _ _ _ _ _ ?_ h2
  rintro _ _ ⟨A2, I2, rfl, rfl, hR2⟩
  refine w_icmp_eq (p := 568) (q := 745) (pI pM_214 rfl) rfl rfl rfl (fun _ => ?_) (fun c => absurd rfl c)
  exact law_next (kk A2 I2 hR2)
set_option maxRecDepth 100000 in
set_option maxHeartbeats 4000000 in
theorem lawW_case12 {L i : Nat} {xs : Nat → Int32} {Rel : (Nat → Nat → Int32) → (Nat → Nat → Int32) → Prop} {A I : Nat → Nat → Int32} (hL : L ≤ 3073) (hi : i + 6 ≤ L) (hA : A 0 = xs) (hR : Rel A I) (ok : opW L Rel 16 204 2) (kk : ∀ A2 I2, Rel A2 I2 → bm_W (bm_M 12) 214 bm_LQ 28 [.ref 0, .ref 3, .ref 1681, .int (nI (i + 6))] [] (hp L A2 I2)) : bm_W (bm_M 12) 214 bm_LQ 570 [.ref 0, .ref 3, .ref 1681, .int (nI i)] [] (hp L A I) := by
  have ok := ok A I [xs (i + 1), xs (i + 2)] hR rfl
  refine w_aload_n (p := 571) (pI pM_214 rfl) rfl rfl ?_
  refine w_aload_n (p := 572) (pI pM_214 rfl) rfl rfl ?_
  refine w_iload_n (p := 573) (pI pM_214 rfl) rfl rfl ?_
  refine w_iconst (p := 574) (v := nI 1) (pI pM_214 rfl) rfl rfl ?_
  refine w_iadd (p := 575) (pI pM_214 rfl) rfl ?_
  rw [nI_add]
  refine v_iald (p := 576) (x := xs (i + 1)) (pI pM_214 rfl) rfl (by decide) rfl (vp_in_nI (by omega) (by omega)) (by rw [nI_clamp (by omega), hA]) ?_
  refine w_aload_n (p := 577) (pI pM_214 rfl) rfl rfl ?_
  refine w_iload_n (p := 578) (pI pM_214 rfl) rfl rfl ?_
  refine w_iconst (p := 579) (v := nI 2) (pI pM_214 rfl) rfl rfl ?_
  refine w_iadd (p := 580) (pI pM_214 rfl) rfl ?_
  rw [nI_add]
  refine v_iald (p := 581) (x := xs (i + 2)) (pI pM_214 rfl) rfl (by decide) rfl (vp_in_nI (by omega) (by omega)) (by rw [nI_clamp (by omega), hA]) ?_
  refine v_virtual (p := 584) (mj := 16) (pI pM_214 rfl) rfl rfl rfl rfl rfl rfl rfl rfl rfl rfl (by decide) (by decide) rfl ?_
  refine bm_M.mono 12 _ _ _ _ _ ?_ ok
  rintro _ _ ⟨r, A1, I1, rfl, rfl, hA1, h2⟩
  rw [hA] at hA1
  refine w_aload_n (p := 585) (pI pM_214 rfl) rfl rfl ?_
  refine w_aload_n (p := 586) (pI pM_214 rfl) rfl rfl ?_
  refine w_iload_n (p := 587) (pI pM_214 rfl) rfl rfl ?_
  refine w_iconst (p := 588) (v := nI 1) (pI pM_214 rfl) rfl rfl ?_
  refine w_iadd (p := 589) (pI pM_214 rfl) rfl ?_
  rw [nI_add]
  refine v_iald (p := 590) (x := xs (i + 1)) (pI pM_214 rfl) rfl (by decide) rfl (vp_in_nI (by omega) (by omega)) (by rw [nI_clamp (by omega), hA1]) ?_
  refine w_aload_n (p := 591) (pI pM_214 rfl) rfl rfl ?_
  refine w_iload_n (p := 592) (pI pM_214 rfl) rfl rfl ?_
  refine w_iconst (p := 593) (v := nI 2) (pI pM_214 rfl) rfl rfl ?_
  refine w_iadd (p := 594) (pI pM_214 rfl) rfl ?_
  rw [nI_add]
  refine v_iald (p := 595) (x := xs (i + 2)) (pI pM_214 rfl) rfl (by decide) rfl (vp_in_nI (by omega) (by omega)) (by rw [nI_clamp (by omega), hA1]) ?_
  refine v_virtual (p := 598) (mj := 204) (pI pM_214 rfl) rfl rfl rfl rfl rfl rfl rfl rfl rfl rfl (by decide) (by decide) rfl ?_
  refine bm_M.mono 12 _ _ _ _ _ ?_ h2
  rintro _ _ ⟨A2, I2, rfl, rfl, hR2⟩
  refine w_icmp_eq (p := 601) (q := 745) (pI pM_214 rfl) rfl rfl rfl (fun _ => ?_) (fun c => absurd rfl c)
  exact law_next (kk A2 I2 hR2)
set_option maxRecDepth 100000 in
set_option maxHeartbeats 4000000 in
theorem lawW_case13 {L i : Nat} {xs : Nat → Int32} {Rel : (Nat → Nat → Int32) → (Nat → Nat → Int32) → Prop} {A I : Nat → Nat → Int32} (hL : L ≤ 3073) (hi : i + 6 ≤ L) (hA : A 0 = xs) (hR : Rel A I) (ok : opW L Rel 17 205 2) (kk : ∀ A2 I2, Rel A2 I2 → bm_W (bm_M 12) 214 bm_LQ 28 [.ref 0, .ref 3, .ref 1681, .int (nI (i + 6))] [] (hp L A2 I2)) : bm_W (bm_M 12) 214 bm_LQ 603 [.ref 0, .ref 3, .ref 1681, .int (nI i)] [] (hp L A I) := by
  have ok := ok A I [xs (i + 1), xs (i + 2)] hR rfl
  refine w_aload_n (p := 604) (pI pM_214 rfl) rfl rfl ?_
  refine w_aload_n (p := 605) (pI pM_214 rfl) rfl rfl ?_
  refine w_iload_n (p := 606) (pI pM_214 rfl) rfl rfl ?_
  refine w_iconst (p := 607) (v := nI 1) (pI pM_214 rfl) rfl rfl ?_
  refine w_iadd (p := 608) (pI pM_214 rfl) rfl ?_
  rw [nI_add]
  refine v_iald (p := 609) (x := xs (i + 1)) (pI pM_214 rfl) rfl (by decide) rfl (vp_in_nI (by omega) (by omega)) (by rw [nI_clamp (by omega), hA]) ?_
  refine w_aload_n (p := 610) (pI pM_214 rfl) rfl rfl ?_
  refine w_iload_n (p := 611) (pI pM_214 rfl) rfl rfl ?_
  refine w_iconst (p := 612) (v := nI 2) (pI pM_214 rfl) rfl rfl ?_
  refine w_iadd (p := 613) (pI pM_214 rfl) rfl ?_
  rw [nI_add]
  refine v_iald (p := 614) (x := xs (i + 2)) (pI pM_214 rfl) rfl (by decide) rfl (vp_in_nI (by omega) (by omega)) (by rw [nI_clamp (by omega), hA]) ?_
  refine v_virtual (p := 617) (mj := 17) (pI pM_214 rfl) rfl rfl rfl rfl rfl rfl rfl rfl rfl rfl (by decide) (by decide) rfl ?_
  refine bm_M.mono 12 _ _ _ _ _ ?_ ok
  rintro _ _ ⟨r, A1, I1, rfl, rfl, hA1, h2⟩
  rw [hA] at hA1
  refine w_aload_n (p := 618) (pI pM_214 rfl) rfl rfl ?_
  refine w_aload_n (p := 619) (pI pM_214 rfl) rfl rfl ?_
  refine w_iload_n (p := 620) (pI pM_214 rfl) rfl rfl ?_
  refine w_iconst (p := 621) (v := nI 1) (pI pM_214 rfl) rfl rfl ?_
  refine w_iadd (p := 622) (pI pM_214 rfl) rfl ?_
  rw [nI_add]
  refine v_iald (p := 623) (x := xs (i + 1)) (pI pM_214 rfl) rfl (by decide) rfl (vp_in_nI (by omega) (by omega)) (by rw [nI_clamp (by omega), hA1]) ?_
  refine w_aload_n (p := 624) (pI pM_214 rfl) rfl rfl ?_
  refine w_iload_n (p := 625) (pI pM_214 rfl) rfl rfl ?_
  refine w_iconst (p := 626) (v := nI 2) (pI pM_214 rfl) rfl rfl ?_
  refine w_iadd (p := 627) (pI pM_214 rfl) rfl ?_
  rw [nI_add]
  refine v_iald (p := 628) (x := xs (i + 2)) (pI pM_214 rfl) rfl (by decide) rfl (vp_in_nI (by omega) (by omega)) (by rw [nI_clamp (by omega), hA1]) ?_
  refine v_virtual (p := 631) (mj := 205) (pI pM_214 rfl) rfl rfl rfl rfl rfl rfl rfl rfl rfl rfl (by decide) (by decide) rfl ?_
  refine bm_M.mono 12 _ _ _ _ _ ?_ h2
  rintro _ _ ⟨A2, I2, rfl, rfl, hR2⟩
  refine w_icmp_eq (p := 634) (q := 745) (pI pM_214 rfl) rfl rfl rfl (fun _ => ?_) (fun c => absurd rfl c)
  exact law_next (kk A2 I2 hR2)
set_option maxRecDepth 100000 in
set_option maxHeartbeats 4000000 in
theorem lawW_case14 {L i : Nat} {xs : Nat → Int32} {Rel : (Nat → Nat → Int32) → (Nat → Nat → Int32) → Prop} {A I : Nat → Nat → Int32} (hL : L ≤ 3073) (hi : i + 6 ≤ L) (hA : A 0 = xs) (hR : Rel A I) (ok : opW L Rel 18 206 2) (kk : ∀ A2 I2, Rel A2 I2 → bm_W (bm_M 12) 214 bm_LQ 28 [.ref 0, .ref 3, .ref 1681, .int (nI (i + 6))] [] (hp L A2 I2)) : bm_W (bm_M 12) 214 bm_LQ 636 [.ref 0, .ref 3, .ref 1681, .int (nI i)] [] (hp L A I) := by
  have ok := ok A I [xs (i + 1), xs (i + 2)] hR rfl
  refine w_aload_n (p := 637) (pI pM_214 rfl) rfl rfl ?_
  refine w_aload_n (p := 638) (pI pM_214 rfl) rfl rfl ?_
  refine w_iload_n (p := 639) (pI pM_214 rfl) rfl rfl ?_
  refine w_iconst (p := 640) (v := nI 1) (pI pM_214 rfl) rfl rfl ?_
  refine w_iadd (p := 641) (pI pM_214 rfl) rfl ?_
  rw [nI_add]
  refine v_iald (p := 642) (x := xs (i + 1)) (pI pM_214 rfl) rfl (by decide) rfl (vp_in_nI (by omega) (by omega)) (by rw [nI_clamp (by omega), hA]) ?_
  refine w_aload_n (p := 643) (pI pM_214 rfl) rfl rfl ?_
  refine w_iload_n (p := 644) (pI pM_214 rfl) rfl rfl ?_
  refine w_iconst (p := 645) (v := nI 2) (pI pM_214 rfl) rfl rfl ?_
  refine w_iadd (p := 646) (pI pM_214 rfl) rfl ?_
  rw [nI_add]
  refine v_iald (p := 647) (x := xs (i + 2)) (pI pM_214 rfl) rfl (by decide) rfl (vp_in_nI (by omega) (by omega)) (by rw [nI_clamp (by omega), hA]) ?_
  refine v_virtual (p := 650) (mj := 18) (pI pM_214 rfl) rfl rfl rfl rfl rfl rfl rfl rfl rfl rfl (by decide) (by decide) rfl ?_
  refine bm_M.mono 12 _ _ _ _ _ ?_ ok
  rintro _ _ ⟨r, A1, I1, rfl, rfl, hA1, h2⟩
  rw [hA] at hA1
  refine w_aload_n (p := 651) (pI pM_214 rfl) rfl rfl ?_
  refine w_aload_n (p := 652) (pI pM_214 rfl) rfl rfl ?_
  refine w_iload_n (p := 653) (pI pM_214 rfl) rfl rfl ?_
  refine w_iconst (p := 654) (v := nI 1) (pI pM_214 rfl) rfl rfl ?_
  refine w_iadd (p := 655) (pI pM_214 rfl) rfl ?_
  rw [nI_add]
  refine v_iald (p := 656) (x := xs (i + 1)) (pI pM_214 rfl) rfl (by decide) rfl (vp_in_nI (by omega) (by omega)) (by rw [nI_clamp (by omega), hA1]) ?_
  refine w_aload_n (p := 657) (pI pM_214 rfl) rfl rfl ?_
  refine w_iload_n (p := 658) (pI pM_214 rfl) rfl rfl ?_
  refine w_iconst (p := 659) (v := nI 2) (pI pM_214 rfl) rfl rfl ?_
  refine w_iadd (p := 660) (pI pM_214 rfl) rfl ?_
  rw [nI_add]
  refine v_iald (p := 661) (x := xs (i + 2)) (pI pM_214 rfl) rfl (by decide) rfl (vp_in_nI (by omega) (by omega)) (by rw [nI_clamp (by omega), hA1]) ?_
  refine v_virtual (p := 664) (mj := 206) (pI pM_214 rfl) rfl rfl rfl rfl rfl rfl rfl rfl rfl rfl (by decide) (by decide) rfl ?_
  refine bm_M.mono 12 _ _ _ _ _ ?_ h2
  rintro _ _ ⟨A2, I2, rfl, rfl, hR2⟩
  refine w_icmp_eq (p := 667) (q := 745) (pI pM_214 rfl) rfl rfl rfl (fun _ => ?_) (fun c => absurd rfl c)
  exact law_next (kk A2 I2 hR2)
set_option maxRecDepth 100000 in
set_option maxHeartbeats 4000000 in
theorem lawW_case15 {L i : Nat} {xs : Nat → Int32} {Rel : (Nat → Nat → Int32) → (Nat → Nat → Int32) → Prop} {A I : Nat → Nat → Int32} (hL : L ≤ 3073) (hi : i + 6 ≤ L) (hA : A 0 = xs) (hR : Rel A I) (ok : opW L Rel 19 207 5) (kk : ∀ A2 I2, Rel A2 I2 → bm_W (bm_M 12) 214 bm_LQ 28 [.ref 0, .ref 3, .ref 1681, .int (nI (i + 6))] [] (hp L A2 I2)) : bm_W (bm_M 12) 214 bm_LQ 669 [.ref 0, .ref 3, .ref 1681, .int (nI i)] [] (hp L A I) := by
  have ok := ok A I [xs (i + 1), xs (i + 2), xs (i + 3), xs (i + 4), xs (i + 5)] hR rfl
  refine w_aload_n (p := 670) (pI pM_214 rfl) rfl rfl ?_
  refine w_aload_n (p := 671) (pI pM_214 rfl) rfl rfl ?_
  refine w_iload_n (p := 672) (pI pM_214 rfl) rfl rfl ?_
  refine w_iconst (p := 673) (v := nI 1) (pI pM_214 rfl) rfl rfl ?_
  refine w_iadd (p := 674) (pI pM_214 rfl) rfl ?_
  rw [nI_add]
  refine v_iald (p := 675) (x := xs (i + 1)) (pI pM_214 rfl) rfl (by decide) rfl (vp_in_nI (by omega) (by omega)) (by rw [nI_clamp (by omega), hA]) ?_
  refine w_aload_n (p := 676) (pI pM_214 rfl) rfl rfl ?_
  refine w_iload_n (p := 677) (pI pM_214 rfl) rfl rfl ?_
  refine w_iconst (p := 678) (v := nI 2) (pI pM_214 rfl) rfl rfl ?_
  refine w_iadd (p := 679) (pI pM_214 rfl) rfl ?_
  rw [nI_add]
  refine v_iald (p := 680) (x := xs (i + 2)) (pI pM_214 rfl) rfl (by decide) rfl (vp_in_nI (by omega) (by omega)) (by rw [nI_clamp (by omega), hA]) ?_
  refine w_aload_n (p := 681) (pI pM_214 rfl) rfl rfl ?_
  refine w_iload_n (p := 682) (pI pM_214 rfl) rfl rfl ?_
  refine w_iconst (p := 683) (v := nI 3) (pI pM_214 rfl) rfl rfl ?_
  refine w_iadd (p := 684) (pI pM_214 rfl) rfl ?_
  rw [nI_add]
  refine v_iald (p := 685) (x := xs (i + 3)) (pI pM_214 rfl) rfl (by decide) rfl (vp_in_nI (by omega) (by omega)) (by rw [nI_clamp (by omega), hA]) ?_
  refine w_aload_n (p := 686) (pI pM_214 rfl) rfl rfl ?_
  refine w_iload_n (p := 687) (pI pM_214 rfl) rfl rfl ?_
  refine w_iconst (p := 688) (v := nI 4) (pI pM_214 rfl) rfl rfl ?_
  refine w_iadd (p := 689) (pI pM_214 rfl) rfl ?_
  rw [nI_add]
  refine v_iald (p := 690) (x := xs (i + 4)) (pI pM_214 rfl) rfl (by decide) rfl (vp_in_nI (by omega) (by omega)) (by rw [nI_clamp (by omega), hA]) ?_
  refine w_aload_n (p := 691) (pI pM_214 rfl) rfl rfl ?_
  refine w_iload_n (p := 692) (pI pM_214 rfl) rfl rfl ?_
  refine w_iconst (p := 693) (v := nI 5) (pI pM_214 rfl) rfl rfl ?_
  refine w_iadd (p := 694) (pI pM_214 rfl) rfl ?_
  rw [nI_add]
  refine v_iald (p := 695) (x := xs (i + 5)) (pI pM_214 rfl) rfl (by decide) rfl (vp_in_nI (by omega) (by omega)) (by rw [nI_clamp (by omega), hA]) ?_
  refine v_virtual (p := 698) (mj := 19) (pI pM_214 rfl) rfl rfl rfl rfl rfl rfl rfl rfl rfl rfl (by decide) (by decide) rfl ?_
  refine bm_M.mono 12 _ _ _ _ _ ?_ ok
  rintro _ _ ⟨r, A1, I1, rfl, rfl, hA1, h2⟩
  rw [hA] at hA1
  refine w_aload_n (p := 699) (pI pM_214 rfl) rfl rfl ?_
  refine w_aload_n (p := 700) (pI pM_214 rfl) rfl rfl ?_
  refine w_iload_n (p := 701) (pI pM_214 rfl) rfl rfl ?_
  refine w_iconst (p := 702) (v := nI 1) (pI pM_214 rfl) rfl rfl ?_
  refine w_iadd (p := 703) (pI pM_214 rfl) rfl ?_
  rw [nI_add]
  refine v_iald (p := 704) (x := xs (i + 1)) (pI pM_214 rfl) rfl (by decide) rfl (vp_in_nI (by omega) (by omega)) (by rw [nI_clamp (by omega), hA1]) ?_
  refine w_aload_n (p := 705) (pI pM_214 rfl) rfl rfl ?_
  refine w_iload_n (p := 706) (pI pM_214 rfl) rfl rfl ?_
  refine w_iconst (p := 707) (v := nI 2) (pI pM_214 rfl) rfl rfl ?_
  refine w_iadd (p := 708) (pI pM_214 rfl) rfl ?_
  rw [nI_add]
  refine v_iald (p := 709) (x := xs (i + 2)) (pI pM_214 rfl) rfl (by decide) rfl (vp_in_nI (by omega) (by omega)) (by rw [nI_clamp (by omega), hA1]) ?_
  refine w_aload_n (p := 710) (pI pM_214 rfl) rfl rfl ?_
  refine w_iload_n (p := 711) (pI pM_214 rfl) rfl rfl ?_
  refine w_iconst (p := 712) (v := nI 3) (pI pM_214 rfl) rfl rfl ?_
  refine w_iadd (p := 713) (pI pM_214 rfl) rfl ?_
  rw [nI_add]
  refine v_iald (p := 714) (x := xs (i + 3)) (pI pM_214 rfl) rfl (by decide) rfl (vp_in_nI (by omega) (by omega)) (by rw [nI_clamp (by omega), hA1]) ?_
  refine w_aload_n (p := 715) (pI pM_214 rfl) rfl rfl ?_
  refine w_iload_n (p := 716) (pI pM_214 rfl) rfl rfl ?_
  refine w_iconst (p := 717) (v := nI 4) (pI pM_214 rfl) rfl rfl ?_
  refine w_iadd (p := 718) (pI pM_214 rfl) rfl ?_
  rw [nI_add]
  refine v_iald (p := 719) (x := xs (i + 4)) (pI pM_214 rfl) rfl (by decide) rfl (vp_in_nI (by omega) (by omega)) (by rw [nI_clamp (by omega), hA1]) ?_
  refine w_aload_n (p := 720) (pI pM_214 rfl) rfl rfl ?_
  refine w_iload_n (p := 721) (pI pM_214 rfl) rfl rfl ?_
  refine w_iconst (p := 722) (v := nI 5) (pI pM_214 rfl) rfl rfl ?_
  refine w_iadd (p := 723) (pI pM_214 rfl) rfl ?_
  rw [nI_add]
  refine v_iald (p := 724) (x := xs (i + 5)) (pI pM_214 rfl) rfl (by decide) rfl (vp_in_nI (by omega) (by omega)) (by rw [nI_clamp (by omega), hA1]) ?_
  refine v_virtual (p := 727) (mj := 207) (pI pM_214 rfl) rfl rfl rfl rfl rfl rfl rfl rfl rfl rfl (by decide) (by decide) rfl ?_
  refine bm_M.mono 12 _ _ _ _ _ ?_ h2
  rintro _ _ ⟨A2, I2, rfl, rfl, hR2⟩
  refine w_icmp_eq (p := 730) (q := 745) (pI pM_214 rfl) rfl rfl rfl (fun _ => ?_) (fun c => absurd rfl c)
  exact law_next (kk A2 I2 hR2)
set_option maxRecDepth 100000 in
set_option maxHeartbeats 4000000 in
theorem lawW_case16 {L i : Nat} {xs : Nat → Int32} {Rel : (Nat → Nat → Int32) → (Nat → Nat → Int32) → Prop} {A I : Nat → Nat → Int32} (hL : L ≤ 3073) (hi : i + 6 ≤ L) (hA : A 0 = xs) (hR : Rel A I) (ok : opW L Rel 20 208 0) (kk : ∀ A2 I2, Rel A2 I2 → bm_W (bm_M 12) 214 bm_LQ 28 [.ref 0, .ref 3, .ref 1681, .int (nI (i + 6))] [] (hp L A2 I2)) : bm_W (bm_M 12) 214 bm_LQ 732 [.ref 0, .ref 3, .ref 1681, .int (nI i)] [] (hp L A I) := by
  have ok := ok A I [] hR rfl
  refine w_aload_n (p := 733) (pI pM_214 rfl) rfl rfl ?_
  refine v_virtual (p := 736) (mj := 20) (pI pM_214 rfl) rfl rfl rfl rfl rfl rfl rfl rfl rfl rfl (by decide) (by decide) rfl ?_
  refine bm_M.mono 12 _ _ _ _ _ ?_ ok
  rintro _ _ ⟨r, A1, I1, rfl, rfl, hA1, h2⟩
  rw [hA] at hA1
  refine w_aload_n (p := 737) (pI pM_214 rfl) rfl rfl ?_
  refine v_virtual (p := 740) (mj := 208) (pI pM_214 rfl) rfl rfl rfl rfl rfl rfl rfl rfl rfl rfl (by decide) (by decide) rfl ?_
  refine bm_M.mono 12 _ _ _ _ _ ?_ h2
  rintro _ _ ⟨A2, I2, rfl, rfl, hR2⟩
  refine w_icmp_eq (p := 743) (q := 745) (pI pM_214 rfl) rfl rfl rfl (fun _ => ?_) (fun c => absurd rfl c)
  exact law_next (kk A2 I2 hR2)
set_option maxRecDepth 100000 in
set_option maxHeartbeats 4000000 in
theorem lawW_loop {L : Nat} {xs : Nat → Int32} {Rel : (Nat → Nat → Int32) → (Nat → Nat → Int32) → Prop} (hL : L ≤ 3073) (hx : ∀ A I, Rel A I → A 0 = xs) (ok : ∀ q ∈ lw_ops, opW L Rel q.1 q.2.1 q.2.2) : ∀ (m i : Nat) (A I : Nat → Nat → Int32), i ≤ L + 6 → L + 7 ≤ i + m → Rel A I → bm_W (bm_M 12) 214 bm_LQ 28 [.ref 0, .ref 3, .ref 1681, .int (nI i)] [] (hp L A I) := by
  intro m
  induction m with
  | zero => intro i A I h1 h2; exact absurd h2 (by omega)
  | succ m ih =>
    intro i A I h1 h2 hR
    have hA := hx A I hR
    refine w_iload_n (p := 29) (pI pM_214 rfl) rfl rfl ?_
    refine w_aload_n (p := 30) (pI pM_214 rfl) rfl rfl ?_
    refine v_alen (p := 31) (x := nI L) (pI pM_214 rfl) rfl (by decide) rfl rfl ?_
    refine w_bipush (p := 33) (v := nI 6) (pI pM_214 rfl) rfl rfl ?_
    refine w_isub (p := 34) (pI pM_214 rfl) rfl ?_
    refine w_icmp_gt (p := 37) (q := 751) (pI pM_214 rfl) rfl rfl rfl (fun c_1 => ?_) (fun c_1 => ?_)
    · exact law_end
    · have hi : i + 6 ≤ L := by
        have e1 : (nI i).toInt = (i : Int) := nI_toInt (by omega)
        have e2 : (nI L - nI 6).toInt = (L : Int) - 6 := pk_sub_toInt (by omega) (by decide)
        rw [Int32.lt_iff_toInt_lt, e1, e2] at c_1
        omega
      have kk : ∀ A2 I2, Rel A2 I2 → bm_W (bm_M 12) 214 bm_LQ 28 [.ref 0, .ref 3, .ref 1681, .int (nI (i + 6))] [] (hp L A2 I2) := fun A2 I2 h => ih (i + 6) A2 I2 (by omega) (by omega) h
      refine w_aload_n (p := 38) (pI pM_214 rfl) rfl rfl ?_
      refine w_iload_n (p := 39) (pI pM_214 rfl) rfl rfl ?_
      refine v_iald (p := 40) (x := xs i) (pI pM_214 rfl) rfl (by decide) rfl (vp_in_nI (by omega) (by omega)) (by rw [nI_clamp (by omega), hA]) ?_
      refine w_bipush (p := 42) (v := nI 31) (pI pM_214 rfl) rfl rfl ?_
      refine w_iand (p := 43) (pI pM_214 rfl) rfl ?_
      obtain ⟨j, hj, e⟩ := pk_andE (xs i) (m := nI 31) 5 (by decide)
      rw [e]
      have hj : j < 32 := hj
      rcases (show j = 0 ∨ j = 1 ∨ j = 2 ∨ j = 3 ∨ j = 4 ∨ j = 5 ∨ j = 6 ∨ j = 7 ∨ j = 8 ∨ j = 9 ∨ j = 10 ∨ j = 11 ∨ j = 12 ∨ j = 13 ∨ j = 14 ∨ j = 15 ∨ j = 16 ∨ j = 17 ∨ j = 18 ∨ j = 19 ∨ j = 20 ∨ j = 21 ∨ j = 22 ∨ j = 23 ∨ j = 24 ∨ j = 25 ∨ j = 26 ∨ j = 27 ∨ j = 28 ∨ j = 29 ∨ j = 30 ∨ j = 31 by omega) with rfl | rfl | rfl | rfl | rfl | rfl | rfl | rfl | rfl | rfl | rfl | rfl | rfl | rfl | rfl | rfl | rfl | rfl | rfl | rfl | rfl | rfl | rfl | rfl | rfl | rfl | rfl | rfl | rfl | rfl | rfl | rfl
      · exact w_table (p := 124) (off := 81) (pI pM_214 rfl) (by decide) rfl rfl (lawW_case0 hL hi hA hR (ok (1, 148, 1) (by decide)) kk)
      · exact w_table (p := 147) (off := 104) (pI pM_214 rfl) (by decide) rfl rfl (lawW_case1 hL hi hA hR (ok (3, 150, 3) (by decide)) kk)
      · exact w_table (p := 190) (off := 147) (pI pM_214 rfl) (by decide) rfl rfl (lawW_case2 hL hi hA hR (ok (4, 153, 5) (by decide)) kk)
      · exact w_table (p := 253) (off := 210) (pI pM_214 rfl) (by decide) rfl rfl (lawW_case3 hL hi hA hR (ok (5, 154, 4) (by decide)) kk)
      · exact w_table (p := 306) (off := 263) (pI pM_214 rfl) (by decide) rfl rfl (lawW_case4 hL hi hA hR (ok (6, 193, 1) (by decide)) kk)
      · exact w_table (p := 329) (off := 286) (pI pM_214 rfl) (by decide) rfl rfl (lawW_case5 hL hi hA hR (ok (7, 194, 1) (by decide)) kk)
      · exact w_table (p := 352) (off := 309) (pI pM_214 rfl) (by decide) rfl rfl (lawW_case6 hL hi hA hR (ok (8, 195, 2) (by decide)) kk)
      · exact w_table (p := 385) (off := 342) (pI pM_214 rfl) (by decide) rfl rfl (lawW_case7 hL hi hA hR (ok (10, 198, 3) (by decide)) kk)
      · exact w_table (p := 428) (off := 385) (pI pM_214 rfl) (by decide) rfl rfl (lawW_case8 hL hi hA hR (ok (11, 199, 2) (by decide)) kk)
      · exact w_table (p := 461) (off := 418) (pI pM_214 rfl) (by decide) rfl rfl (lawW_case9 hL hi hA hR (ok (12, 200, 3) (by decide)) kk)
      · exact w_table (p := 504) (off := 461) (pI pM_214 rfl) (by decide) rfl rfl (lawW_case10 hL hi hA hR (ok (14, 202, 2) (by decide)) kk)
      · exact w_table (p := 537) (off := 494) (pI pM_214 rfl) (by decide) rfl rfl (lawW_case11 hL hi hA hR (ok (15, 203, 2) (by decide)) kk)
      · exact w_table (p := 570) (off := 527) (pI pM_214 rfl) (by decide) rfl rfl (lawW_case12 hL hi hA hR (ok (16, 204, 2) (by decide)) kk)
      · exact w_table (p := 603) (off := 560) (pI pM_214 rfl) (by decide) rfl rfl (lawW_case13 hL hi hA hR (ok (17, 205, 2) (by decide)) kk)
      · exact w_table (p := 636) (off := 593) (pI pM_214 rfl) (by decide) rfl rfl (lawW_case14 hL hi hA hR (ok (18, 206, 2) (by decide)) kk)
      · exact w_table (p := 669) (off := 626) (pI pM_214 rfl) (by decide) rfl rfl (lawW_case15 hL hi hA hR (ok (19, 207, 5) (by decide)) kk)
      · exact w_table (p := 732) (off := 689) (pI pM_214 rfl) (by decide) rfl rfl (lawW_case16 hL hi hA hR (ok (20, 208, 0) (by decide)) kk)
      · exact w_table (p := 745) (off := 702) (pI pM_214 rfl) (by decide) rfl rfl (law_next (kk A I hR))
      · exact w_table (p := 745) (off := 702) (pI pM_214 rfl) (by decide) rfl rfl (law_next (kk A I hR))
      · exact w_table (p := 745) (off := 702) (pI pM_214 rfl) (by decide) rfl rfl (law_next (kk A I hR))
      · exact w_table (p := 745) (off := 702) (pI pM_214 rfl) (by decide) rfl rfl (law_next (kk A I hR))
      · exact w_table (p := 745) (off := 702) (pI pM_214 rfl) (by decide) rfl rfl (law_next (kk A I hR))
      · exact w_table (p := 745) (off := 702) (pI pM_214 rfl) (by decide) rfl rfl (law_next (kk A I hR))
      · exact w_table (p := 745) (off := 702) (pI pM_214 rfl) (by decide) rfl rfl (law_next (kk A I hR))
      · exact w_table (p := 745) (off := 702) (pI pM_214 rfl) (by decide) rfl rfl (law_next (kk A I hR))
      · exact w_table (p := 745) (off := 702) (pI pM_214 rfl) (by decide) rfl rfl (law_next (kk A I hR))
      · exact w_table (p := 745) (off := 702) (pI pM_214 rfl) (by decide) rfl rfl (law_next (kk A I hR))
      · exact w_table (p := 745) (off := 702) (pI pM_214 rfl) (by decide) rfl rfl (law_next (kk A I hR))
      · exact w_table (p := 745) (off := 702) (pI pM_214 rfl) (by decide) rfl rfl (law_next (kk A I hR))
      · exact w_table (p := 745) (off := 702) (pI pM_214 rfl) (by decide) rfl rfl (law_next (kk A I hR))
      · exact w_table (p := 745) (off := 702) (pI pM_214 rfl) (by decide) rfl rfl (law_next (kk A I hR))
      · exact w_table (p := 745) (off := 702) (pI pM_214 rfl) (by decide) rfl rfl (law_next (kk A I hR))
/-- THE LAW's PLAIN RUN out of a relation that holds at the start and that each pair of calls keeps -/
theorem lawW_of (Rel : Nat → (Nat → Int32) → (Nat → Nat → Int32) → (Nat → Nat → Int32) → Prop) (h0 : ∀ L xs, L ≤ 3073 → Rel L xs (A0 xs) (I0 (lw_seed L xs))) (hx : ∀ L xs A I, Rel L xs A I → A 0 = xs) (ok : ∀ L xs, L ≤ 3073 → ∀ q ∈ lw_ops, opW L (Rel L xs) q.1 q.2.1 q.2.2) : bm_Law := by
  intro L xs hL
  exact lw_begin hL (lawW_loop hL (hx L xs) (ok L xs hL) (L + 7) 1 _ _ (by omega) (by omega) (h0 L xs hL))
