/-! ONE OPERATION, both sides: in one row; the class goes on at an alternative -/
section OS
variable {w b : Nat} {A0 I0 A I : HA} {S : zW} {F : zF} {G : zG} {alt : Option Nat}
/-- THE REFERENCE DOES ONE OPERATION as the pure one -/
theorem M_step {Q : Int32 → HA → HA → Prop} (h : GA b A0 I0 A I S F) (hg : gRM A0 I0 G) (hok : zok S F) (hN : F.1 < 32258) (hp : zpc S < gL G (zq S)) (ha : ∀ c, alt = some c → c < (zsi (gO G (zq S) (zpc S)) S).1) (k : RMk b A0 I0 (zoper G alt F S) (gO G (zq S) (zpc S)) S F A Q) : D163_operate (altv alt) A I Q := by
  have ho := ((hg.1.2.2 (zq S) h.wf.hi.2.1).2.2.1 (zpc S) hp).1
  rcases (show gO G (zq S) (zpc S) = 0 ∨ gO G (zq S) (zpc S) = 1 ∨ gO G (zq S) (zpc S) = 2 ∨ gO G (zq S) (zpc S) = 3 ∨ gO G (zq S) (zpc S) = 4 ∨ gO G (zq S) (zpc S) = 5 ∨ gO G (zq S) (zpc S) = 6 ∨ gO G (zq S) (zpc S) = 7 ∨ gO G (zq S) (zpc S) = 8 ∨ gO G (zq S) (zpc S) = 9 ∨ gO G (zq S) (zpc S) = 10 ∨ gO G (zq S) (zpc S) = 11 ∨ gO G (zq S) (zpc S) = 12 ∨ gO G (zq S) (zpc S) = 13 ∨ gO G (zq S) (zpc S) = 14 ∨ gO G (zq S) (zpc S) = 15 ∨ gO G (zq S) (zpc S) = 16 ∨ gO G (zq S) (zpc S) = 17 ∨ gO G (zq S) (zpc S) = 18 ∨ gO G (zq S) (zpc S) = 19 ∨ gO G (zq S) (zpc S) = 20 ∨ gO G (zq S) (zpc S) = 21 ∨ gO G (zq S) (zpc S) = 22 ∨ gO G (zq S) (zpc S) = 23 ∨ gO G (zq S) (zpc S) = 24 ∨ gO G (zq S) (zpc S) = 25 ∨ gO G (zq S) (zpc S) = 26 ∨ gO G (zq S) (zpc S) = 27 ∨ gO G (zq S) (zpc S) = 28 ∨ gO G (zq S) (zpc S) = 29 by omega) with e | e | e | e | e | e | e | e | e | e | e | e | e | e | e | e | e | e | e | e | e | e | e | e | e | e | e | e | e | e
  · exact ms_0 e h hg hok hN hp rfl ha k
  · exact ms_1 e h hg hok hN hp rfl ha k
  · exact ms_2 e h hg hok hN hp rfl ha k
  · exact ms_3 e h hg hok hN hp rfl ha k
  · exact ms_4 e h hg hok hN hp rfl ha k
  · exact ms_5 e h hg hok hN hp rfl ha k
  · exact ms_6 e h hg hok hN hp rfl ha k
  · exact ms_7 e h hg hok hN hp rfl ha k
  · exact ms_8 e h hg hok hN hp rfl ha k
  · exact ms_9 e h hg hok hN hp rfl ha k
  · exact ms_10 e h hg hok hN hp rfl ha k
  · exact ms_11 e h hg hok hN hp rfl ha k
  · exact ms_12 e h hg hok hN hp rfl ha k
  · exact ms_13 e h hg hok hN hp rfl ha k
  · exact ms_14 e h hg hok hN hp rfl ha k
  · exact ms_15 e h hg hok hN hp rfl ha k
  · exact ms_16 e h hg hok hN hp rfl ha k
  · exact ms_17 e h hg hok hN hp rfl ha k
  · exact ms_18 e h hg hok hN hp rfl ha k
  · exact ms_19 e h hg hok hN hp rfl ha k
  · exact ms_20 e h hg hok hN hp rfl ha k
  · exact ms_21 e h hg hok hN hp rfl ha k
  · exact ms_22 e h hg hok hN hp rfl ha k
  · exact ms_23 e h hg hok hN hp rfl ha k
  · exact ms_24 e h hg hok hN hp rfl ha k
  · exact ms_25 e h hg hok hN hp rfl ha k
  · exact ms_26 e h hg hok hN hp rfl ha k
  · exact ms_27 e h hg hok hN hp rfl ha k
  · exact ms_28 e h hg hok hN hp rfl ha k
  · exact ms_29 e h hg hok hN hp rfl ha k
end OS
