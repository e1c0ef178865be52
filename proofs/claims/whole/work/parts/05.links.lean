/-! THE PROGRAM'S LINKS: what an entry of a class's pool names (key: 1000 times the class, and the entry) -/
def pm_nF : List (String × Nat × String × String × String) := [("PathRunner", 147, "PathRunner$Way", "conditionCount", "I"), ("PathRunner$Sharing", 58, "PathRunner$Way", "inputs", "LPathRunner$Inputs;"), ("PathRunner", 150, "PathRunner$Way", "inputs", "LPathRunner$Inputs;"), ("PathRunner$Search", 181, "PathRunner$Way", "inputs", "LPathRunner$Inputs;"), ("PathRunner$Machine", 47, "PathRunner$Way", "done", "I"), ("PathRunner", 144, "PathRunner$Way", "done", "I"), ("PathRunner", 135, "PathRunner$Way", "outcome", "I"), ("PathRunner", 138, "PathRunner$Way", "endPlace", "I"), ("PathRunner", 141, "PathRunner$Way", "kind", "I"), ("PathRunner$Machine", 233, "PathRunner$Way", "kind", "I"), ("PathRunner", 156, "PathRunner$Way", "returned", "I"), ("PathRunner$Machine", 227, "PathRunner$Way", "returned", "I"), ("PathRunner$Search", 122, "PathRunner$Way", "alternative", "I"), ("PathRunner$Row", 36, "PathRunner$Way", "splitNumber", "I"), ("PathRunner$Search", 202, "PathRunner$Way", "splitNumber", "I"), ("PathRunner", 177, "PathRunner$Tokens", "length", "I"), ("PathRunner", 44, "PathRunner$Machine", "program", "LPathRunner$Program;"), ("PathRunner", 51, "PathRunner$Machine", "formulas", "LPathRunner$Formulas;"), ("PathRunner$Sharing", 32, "PathRunner$Machine", "formulas", "LPathRunner$Formulas;"), ("PathRunner$Search", 89, "PathRunner$Machine", "formulas", "LPathRunner$Formulas;"), ("PathRunner$Search", 115, "PathRunner$Row", "size", "I"), ("PathRunner", 110, "PathRunner$Row", "size", "I"), ("PathRunner", 39, "PathRunner$Search", "machine", "LPathRunner$Machine;"), ("PathRunner", 106, "PathRunner$Search", "row", "LPathRunner$Row;"), ("PathRunner", 96, "PathRunner$Search", "pathCount", "I"), ("PathRunner", 210, "PathRunner$Search", "times", "[I"), ("PathRunner", 121, "PathRunner$Search", "comeTo", "I"), ("PathRunner", 115, "PathRunner$Search", "lost", "I"), ("PathRunner", 118, "PathRunner$Search", "pruned", "I"), ("PathRunner", 240, "PathRunner$Search", "method", "I"), ("PathRunner", 243, "PathRunner$Search", "bound", "I")]
def pm_nM : List (String × Nat × MethodName) := [("PathRunner", 11, ⟨"PathRunner$Way", "<init>", "()V"⟩), ("PathRunner$Way", 35, ⟨"PathRunner$Inputs", "<init>", "()V"⟩), ("PathRunner", 18, ⟨"PathRunner$Tokens", "<init>", "()V"⟩), ("PathRunner", 25, ⟨"PathRunner$Inputs", "<init>", "()V"⟩), ("PathRunner$Search", 11, ⟨"PathRunner$Machine", "<init>", "()V"⟩), ("PathRunner$Machine", 11, ⟨"PathRunner$Program", "<init>", "()V"⟩), ("PathRunner$Machine", 20, ⟨"PathRunner$Formulas", "<init>", "()V"⟩), ("PathRunner$Search", 30, ⟨"PathRunner$Row", "<init>", "()V"⟩), ("PathRunner$Sharing", 23, ⟨"PathRunner$Tokens", "<init>", "()V"⟩), ("PathRunner$Sharing", 31, ⟨"PathRunner$Inputs", "<init>", "()V"⟩), ("PathRunner$Search", 55, ⟨"PathRunner$Way", "<init>", "()V"⟩), ("PathRunner$Program", 39, ⟨"PathRunner", "within", "(III)Z"⟩)]
/-- the words that no table keeps by itself: private members of nest mates, and the two classes of arrays of references -/
def pm_nw (U : State) : Prop := (∀ q ∈ pm_nF, va_Nw (.fieldLinkNest q.1 q.2.1 q.2.2.1 q.2.2.2.1 q.2.2.2.2 "PathRunner") U) ∧ (∀ q ∈ pm_nM, va_Nw (.methodLinkNest q.1 q.2.1 q.2.2 "PathRunner") U) ∧ va_AO "PathRunner$Way" U ∧ va_AO "PathRunner$Inputs" U
theorem pm_nw.warm {s U : State} (hW : s.WarmedH U.vm) (h : pm_nw s) : pm_nw U := ⟨fun q hq => va_Nw.warmF hW (h.1 q hq), fun q hq => va_Nw.warmM hW (h.2.1 q hq), h.2.2.1.moved hW.alike, h.2.2.2.moved hW.alike⟩
theorem pm_nw.same {s U : State} (hv : s.vm = U.vm) (h : pm_nw s) : pm_nw U := ⟨fun q hq => (h.1 q hq).same rfl hv, fun q hq => (h.2.1 q hq).same rfl hv, h.2.2.1.moved (by rw [hv]; exact Vm.Alike.refl U.vm), h.2.2.2.moved (by rw [hv]; exact Vm.Alike.refl U.vm)⟩
/-- fields: key, the class's number, the field's, 1 for a nest mate's private one -/
def pm_fT : List (Nat × Nat × Nat × Nat) := [(12, 0, 4, 0), (19, 0, 5, 0), (26, 0, 6, 0), (35, 0, 0, 0), (39, 6, 0, 1), (43, 0, 1, 0), (44, 3, 0, 1), (50, 0, 2, 0), (51, 3, 1, 1), (55, 0, 3, 0), (78, 0, 7, 0), (96, 6, 7, 1), (106, 6, 5, 1), (110, 5, 1, 1), (115, 6, 10, 1), (118, 6, 12, 1), (121, 6, 9, 1), (135, 9, 12, 1), (138, 9, 13, 1), (141, 9, 14, 1), (144, 9, 11, 1), (147, 9, 9, 1), (150, 9, 10, 1), (156, 9, 15, 1), (177, 8, 3, 1), (210, 6, 8, 1), (240, 6, 14, 1), (243, 6, 15, 1), (1011, 1, 0, 0), (1015, 1, 1, 0), (1018, 1, 2, 0), (1021, 1, 3, 0), (1024, 1, 4, 0), (2009, 2, 0, 0), (3012, 3, 0, 0), (3021, 3, 1, 0), (3047, 9, 11, 1), (3227, 9, 15, 1), (3233, 9, 14, 1), (4009, 4, 1, 0), (4015, 4, 2, 0), (4018, 4, 3, 0), (4021, 4, 4, 0), (4024, 4, 5, 0), (4027, 4, 6, 0), (4030, 4, 7, 0), (4033, 4, 8, 0), (4036, 4, 9, 0), (4043, 4, 0, 0), (5009, 5, 0, 0), (5015, 5, 1, 0), (5019, 5, 2, 0), (5036, 9, 17, 1), (6012, 6, 0, 0), (6020, 6, 2, 0), (6024, 6, 3, 0), (6031, 6, 5, 0), (6035, 6, 6, 0), (6038, 6, 8, 0), (6041, 6, 11, 0), (6047, 6, 13, 0), (6051, 6, 1, 0), (6056, 6, 14, 0), (6059, 6, 15, 0), (6062, 6, 16, 0), (6065, 6, 4, 0), (6068, 6, 7, 0), (6077, 6, 9, 0), (6080, 6, 10, 0), (6083, 6, 12, 0), (6086, 6, 17, 0), (6089, 3, 1, 1), (6115, 5, 1, 1), (6122, 9, 16, 1), (6181, 9, 10, 1), (6202, 9, 17, 1), (7011, 7, 0, 0), (7017, 7, 1, 0), (7024, 7, 2, 0), (7028, 7, 3, 0), (7032, 3, 1, 1), (7058, 9, 10, 1), (8011, 8, 0, 0), (8015, 8, 1, 0), (8018, 8, 2, 0), (8033, 8, 3, 0), (9009, 9, 0, 0), (9015, 9, 1, 0), (9018, 9, 2, 0), (9021, 9, 3, 0), (9024, 9, 5, 0), (9027, 9, 6, 0), (9030, 9, 8, 0), (9036, 9, 10, 0), (9040, 9, 4, 0), (9048, 9, 7, 0), (9051, 9, 9, 0), (9057, 9, 11, 0), (9060, 9, 12, 0), (9063, 9, 13, 0), (9066, 9, 14, 0), (9069, 9, 15, 0), (9072, 9, 16, 0), (9075, 9, 17, 0), (10007, 10, 2, 0), (10013, 10, 3, 0), (10016, 10, 4, 0), (10019, 10, 5, 0), (10022, 10, 6, 0), (10025, 10, 7, 0), (10029, 10, 8, 0), (10033, 10, 9, 0), (10037, 10, 10, 0), (10042, 10, 11, 0), (10045, 10, 12, 0), (10048, 10, 13, 0), (10051, 10, 14, 0), (10054, 10, 20, 0), (10057, 10, 23, 0), (10060, 10, 27, 0), (10063, 10, 28, 0), (10066, 10, 29, 0), (10069, 10, 32, 0), (10072, 10, 33, 0), (10075, 10, 40, 0), (10078, 10, 41, 0), (10081, 10, 0, 0), (10085, 10, 15, 0), (10095, 10, 34, 0), (10110, 10, 35, 0), (10113, 10, 36, 0), (10140, 10, 37, 0), (10143, 10, 38, 0), (10146, 10, 39, 0), (10189, 10, 1, 0), (10195, 10, 18, 0), (10198, 10, 31, 0), (10201, 10, 30, 0), (10210, 10, 26, 0), (10217, 10, 22, 0), (10223, 10, 21, 0), (10226, 10, 25, 0), (10235, 10, 17, 0), (10238, 10, 19, 0), (10246, 10, 24, 0), (10258, 10, 16, 0)]
def pm_fok (q : Nat × Nat × Nat × Nat) : Prop := ∃ r : vw_C, pm_cl[q.2.1]? = some r ∧ q.2.2.1 < r.2.2 ∧ ((q.2.2.2 = 0 ∧ Cond.fieldLink (pm_nm (q.1 / 1000)) (q.1 % 1000) r.1 (r.2.1 q.2.2.1).2.1 (r.2.1 q.2.2.1).2.2.1 ∈ lw_good) ∨ (q.2.2.2 = 1 ∧ (pm_nm (q.1 / 1000), q.1 % 1000, r.1, (r.2.1 q.2.2.1).2.1, (r.2.1 q.2.2.1).2.2.1) ∈ pm_nF))
theorem pm_f10258 : pm_fok (10258, 10, 16, 0) := ⟨_, rfl, by decide, Or.inl ⟨rfl, pm_in5 (i := 9) rfl rfl⟩⟩
theorem pm_f10246 : pm_fok (10246, 10, 24, 0) := ⟨_, rfl, by decide, Or.inl ⟨rfl, pm_in5 (i := 17) rfl rfl⟩⟩
theorem pm_f10238 : pm_fok (10238, 10, 19, 0) := ⟨_, rfl, by decide, Or.inl ⟨rfl, pm_in5 (i := 12) rfl rfl⟩⟩
theorem pm_f10235 : pm_fok (10235, 10, 17, 0) := ⟨_, rfl, by decide, Or.inl ⟨rfl, pm_in5 (i := 10) rfl rfl⟩⟩
theorem pm_f10226 : pm_fok (10226, 10, 25, 0) := ⟨_, rfl, by decide, Or.inl ⟨rfl, pm_in5 (i := 18) rfl rfl⟩⟩
theorem pm_f10223 : pm_fok (10223, 10, 21, 0) := ⟨_, rfl, by decide, Or.inl ⟨rfl, pm_in5 (i := 14) rfl rfl⟩⟩
theorem pm_f10217 : pm_fok (10217, 10, 22, 0) := ⟨_, rfl, by decide, Or.inl ⟨rfl, pm_in5 (i := 15) rfl rfl⟩⟩
theorem pm_f10210 : pm_fok (10210, 10, 26, 0) := ⟨_, rfl, by decide, Or.inl ⟨rfl, pm_in5 (i := 19) rfl rfl⟩⟩
theorem pm_f10201 : pm_fok (10201, 10, 30, 0) := ⟨_, rfl, by decide, Or.inl ⟨rfl, pm_in5 (i := 23) rfl rfl⟩⟩
theorem pm_f10198 : pm_fok (10198, 10, 31, 0) := ⟨_, rfl, by decide, Or.inl ⟨rfl, pm_in5 (i := 24) rfl rfl⟩⟩
theorem pm_f10195 : pm_fok (10195, 10, 18, 0) := ⟨_, rfl, by decide, Or.inl ⟨rfl, pm_in5 (i := 11) rfl rfl⟩⟩
theorem pm_f10189 : pm_fok (10189, 10, 1, 0) := ⟨_, rfl, by decide, Or.inl ⟨rfl, pm_in4 (i := 234) rfl rfl⟩⟩
theorem pm_f10146 : pm_fok (10146, 10, 39, 0) := ⟨_, rfl, by decide, Or.inl ⟨rfl, pm_in5 (i := 32) rfl rfl⟩⟩
theorem pm_f10143 : pm_fok (10143, 10, 38, 0) := ⟨_, rfl, by decide, Or.inl ⟨rfl, pm_in5 (i := 31) rfl rfl⟩⟩
theorem pm_f10140 : pm_fok (10140, 10, 37, 0) := ⟨_, rfl, by decide, Or.inl ⟨rfl, pm_in5 (i := 30) rfl rfl⟩⟩
theorem pm_f10113 : pm_fok (10113, 10, 36, 0) := ⟨_, rfl, by decide, Or.inl ⟨rfl, pm_in5 (i := 29) rfl rfl⟩⟩
theorem pm_f10110 : pm_fok (10110, 10, 35, 0) := ⟨_, rfl, by decide, Or.inl ⟨rfl, pm_in5 (i := 28) rfl rfl⟩⟩
theorem pm_f10095 : pm_fok (10095, 10, 34, 0) := ⟨_, rfl, by decide, Or.inl ⟨rfl, pm_in5 (i := 27) rfl rfl⟩⟩
theorem pm_f10085 : pm_fok (10085, 10, 15, 0) := ⟨_, rfl, by decide, Or.inl ⟨rfl, pm_in5 (i := 8) rfl rfl⟩⟩
theorem pm_f10081 : pm_fok (10081, 10, 0, 0) := ⟨_, rfl, by decide, Or.inl ⟨rfl, pm_in4 (i := 233) rfl rfl⟩⟩
theorem pm_f10078 : pm_fok (10078, 10, 41, 0) := ⟨_, rfl, by decide, Or.inl ⟨rfl, pm_in5 (i := 34) rfl rfl⟩⟩
theorem pm_f10075 : pm_fok (10075, 10, 40, 0) := ⟨_, rfl, by decide, Or.inl ⟨rfl, pm_in5 (i := 33) rfl rfl⟩⟩
theorem pm_f10072 : pm_fok (10072, 10, 33, 0) := ⟨_, rfl, by decide, Or.inl ⟨rfl, pm_in5 (i := 26) rfl rfl⟩⟩
theorem pm_f10069 : pm_fok (10069, 10, 32, 0) := ⟨_, rfl, by decide, Or.inl ⟨rfl, pm_in5 (i := 25) rfl rfl⟩⟩
theorem pm_f10066 : pm_fok (10066, 10, 29, 0) := ⟨_, rfl, by decide, Or.inl ⟨rfl, pm_in5 (i := 22) rfl rfl⟩⟩
theorem pm_f10063 : pm_fok (10063, 10, 28, 0) := ⟨_, rfl, by decide, Or.inl ⟨rfl, pm_in5 (i := 21) rfl rfl⟩⟩
theorem pm_f10060 : pm_fok (10060, 10, 27, 0) := ⟨_, rfl, by decide, Or.inl ⟨rfl, pm_in5 (i := 20) rfl rfl⟩⟩
theorem pm_f10057 : pm_fok (10057, 10, 23, 0) := ⟨_, rfl, by decide, Or.inl ⟨rfl, pm_in5 (i := 16) rfl rfl⟩⟩
theorem pm_f10054 : pm_fok (10054, 10, 20, 0) := ⟨_, rfl, by decide, Or.inl ⟨rfl, pm_in5 (i := 13) rfl rfl⟩⟩
theorem pm_f10051 : pm_fok (10051, 10, 14, 0) := ⟨_, rfl, by decide, Or.inl ⟨rfl, pm_in5 (i := 7) rfl rfl⟩⟩
theorem pm_f10048 : pm_fok (10048, 10, 13, 0) := ⟨_, rfl, by decide, Or.inl ⟨rfl, pm_in5 (i := 6) rfl rfl⟩⟩
theorem pm_f10045 : pm_fok (10045, 10, 12, 0) := ⟨_, rfl, by decide, Or.inl ⟨rfl, pm_in5 (i := 5) rfl rfl⟩⟩
theorem pm_f10042 : pm_fok (10042, 10, 11, 0) := ⟨_, rfl, by decide, Or.inl ⟨rfl, pm_in5 (i := 4) rfl rfl⟩⟩
theorem pm_f10037 : pm_fok (10037, 10, 10, 0) := ⟨_, rfl, by decide, Or.inl ⟨rfl, pm_in5 (i := 3) rfl rfl⟩⟩
theorem pm_f10033 : pm_fok (10033, 10, 9, 0) := ⟨_, rfl, by decide, Or.inl ⟨rfl, pm_in5 (i := 2) rfl rfl⟩⟩
theorem pm_f10029 : pm_fok (10029, 10, 8, 0) := ⟨_, rfl, by decide, Or.inl ⟨rfl, pm_in5 (i := 1) rfl rfl⟩⟩
theorem pm_f10025 : pm_fok (10025, 10, 7, 0) := ⟨_, rfl, by decide, Or.inl ⟨rfl, pm_in5 (i := 0) rfl rfl⟩⟩
theorem pm_f10022 : pm_fok (10022, 10, 6, 0) := ⟨_, rfl, by decide, Or.inl ⟨rfl, pm_in4 (i := 239) rfl rfl⟩⟩
theorem pm_f10019 : pm_fok (10019, 10, 5, 0) := ⟨_, rfl, by decide, Or.inl ⟨rfl, pm_in4 (i := 238) rfl rfl⟩⟩
theorem pm_f10016 : pm_fok (10016, 10, 4, 0) := ⟨_, rfl, by decide, Or.inl ⟨rfl, pm_in4 (i := 237) rfl rfl⟩⟩
theorem pm_f10013 : pm_fok (10013, 10, 3, 0) := ⟨_, rfl, by decide, Or.inl ⟨rfl, pm_in4 (i := 236) rfl rfl⟩⟩
theorem pm_f10007 : pm_fok (10007, 10, 2, 0) := ⟨_, rfl, by decide, Or.inl ⟨rfl, pm_in4 (i := 235) rfl rfl⟩⟩
theorem pm_f9075 : pm_fok (9075, 9, 17, 0) := ⟨_, rfl, by decide, Or.inl ⟨rfl, pm_in1 (i := 72) rfl rfl⟩⟩
theorem pm_f9072 : pm_fok (9072, 9, 16, 0) := ⟨_, rfl, by decide, Or.inl ⟨rfl, pm_in1 (i := 70) rfl rfl⟩⟩
theorem pm_f9069 : pm_fok (9069, 9, 15, 0) := ⟨_, rfl, by decide, Or.inl ⟨rfl, pm_in1 (i := 67) rfl rfl⟩⟩
theorem pm_f9066 : pm_fok (9066, 9, 14, 0) := ⟨_, rfl, by decide, Or.inl ⟨rfl, pm_in1 (i := 64) rfl rfl⟩⟩
theorem pm_f9063 : pm_fok (9063, 9, 13, 0) := ⟨_, rfl, by decide, Or.inl ⟨rfl, pm_in1 (i := 62) rfl rfl⟩⟩
theorem pm_f9060 : pm_fok (9060, 9, 12, 0) := ⟨_, rfl, by decide, Or.inl ⟨rfl, pm_in1 (i := 60) rfl rfl⟩⟩
theorem pm_f9057 : pm_fok (9057, 9, 11, 0) := ⟨_, rfl, by decide, Or.inl ⟨rfl, pm_in1 (i := 57) rfl rfl⟩⟩
theorem pm_f9051 : pm_fok (9051, 9, 9, 0) := ⟨_, rfl, by decide, Or.inl ⟨rfl, pm_in1 (i := 51) rfl rfl⟩⟩
theorem pm_f9048 : pm_fok (9048, 9, 7, 0) := ⟨_, rfl, by decide, Or.inl ⟨rfl, pm_in1 (i := 49) rfl rfl⟩⟩
theorem pm_f9040 : pm_fok (9040, 9, 4, 0) := ⟨_, rfl, by decide, Or.inl ⟨rfl, pm_in1 (i := 46) rfl rfl⟩⟩
theorem pm_f9036 : pm_fok (9036, 9, 10, 0) := ⟨_, rfl, by decide, Or.inl ⟨rfl, pm_in1 (i := 53) rfl rfl⟩⟩
theorem pm_f9030 : pm_fok (9030, 9, 8, 0) := ⟨_, rfl, by decide, Or.inl ⟨rfl, pm_in1 (i := 50) rfl rfl⟩⟩
theorem pm_f9027 : pm_fok (9027, 9, 6, 0) := ⟨_, rfl, by decide, Or.inl ⟨rfl, pm_in1 (i := 48) rfl rfl⟩⟩
theorem pm_f9024 : pm_fok (9024, 9, 5, 0) := ⟨_, rfl, by decide, Or.inl ⟨rfl, pm_in1 (i := 47) rfl rfl⟩⟩
theorem pm_f9021 : pm_fok (9021, 9, 3, 0) := ⟨_, rfl, by decide, Or.inl ⟨rfl, pm_in1 (i := 45) rfl rfl⟩⟩
theorem pm_f9018 : pm_fok (9018, 9, 2, 0) := ⟨_, rfl, by decide, Or.inl ⟨rfl, pm_in1 (i := 44) rfl rfl⟩⟩
theorem pm_f9015 : pm_fok (9015, 9, 1, 0) := ⟨_, rfl, by decide, Or.inl ⟨rfl, pm_in1 (i := 43) rfl rfl⟩⟩
theorem pm_f9009 : pm_fok (9009, 9, 0, 0) := ⟨_, rfl, by decide, Or.inl ⟨rfl, pm_in1 (i := 42) rfl rfl⟩⟩
theorem pm_f8033 : pm_fok (8033, 8, 3, 0) := ⟨_, rfl, by decide, Or.inl ⟨rfl, pm_in1 (i := 121) rfl rfl⟩⟩
theorem pm_f8018 : pm_fok (8018, 8, 2, 0) := ⟨_, rfl, by decide, Or.inl ⟨rfl, pm_in1 (i := 120) rfl rfl⟩⟩
theorem pm_f8015 : pm_fok (8015, 8, 1, 0) := ⟨_, rfl, by decide, Or.inl ⟨rfl, pm_in1 (i := 119) rfl rfl⟩⟩
theorem pm_f8011 : pm_fok (8011, 8, 0, 0) := ⟨_, rfl, by decide, Or.inl ⟨rfl, pm_in1 (i := 118) rfl rfl⟩⟩
theorem pm_f7058 : pm_fok (7058, 9, 10, 1) := ⟨_, rfl, by decide, Or.inr ⟨rfl, List.mem_of_getElem? (i := 1) rfl⟩⟩
theorem pm_f7032 : pm_fok (7032, 3, 1, 1) := ⟨_, rfl, by decide, Or.inr ⟨rfl, List.mem_of_getElem? (i := 18) rfl⟩⟩
theorem pm_f7028 : pm_fok (7028, 7, 3, 0) := ⟨_, rfl, by decide, Or.inl ⟨rfl, pm_in2 (i := 10) rfl rfl⟩⟩
theorem pm_f7024 : pm_fok (7024, 7, 2, 0) := ⟨_, rfl, by decide, Or.inl ⟨rfl, pm_in2 (i := 9) rfl rfl⟩⟩
theorem pm_f7017 : pm_fok (7017, 7, 1, 0) := ⟨_, rfl, by decide, Or.inl ⟨rfl, pm_in2 (i := 8) rfl rfl⟩⟩
theorem pm_f7011 : pm_fok (7011, 7, 0, 0) := ⟨_, rfl, by decide, Or.inl ⟨rfl, pm_in2 (i := 7) rfl rfl⟩⟩
theorem pm_f6202 : pm_fok (6202, 9, 17, 1) := ⟨_, rfl, by decide, Or.inr ⟨rfl, List.mem_of_getElem? (i := 14) rfl⟩⟩
theorem pm_f6181 : pm_fok (6181, 9, 10, 1) := ⟨_, rfl, by decide, Or.inr ⟨rfl, List.mem_of_getElem? (i := 3) rfl⟩⟩
theorem pm_f6122 : pm_fok (6122, 9, 16, 1) := ⟨_, rfl, by decide, Or.inr ⟨rfl, List.mem_of_getElem? (i := 12) rfl⟩⟩
theorem pm_f6115 : pm_fok (6115, 5, 1, 1) := ⟨_, rfl, by decide, Or.inr ⟨rfl, List.mem_of_getElem? (i := 20) rfl⟩⟩
theorem pm_f6089 : pm_fok (6089, 3, 1, 1) := ⟨_, rfl, by decide, Or.inr ⟨rfl, List.mem_of_getElem? (i := 19) rfl⟩⟩
theorem pm_f6086 : pm_fok (6086, 6, 17, 0) := ⟨_, rfl, by decide, Or.inl ⟨rfl, pm_in2 (i := 47) rfl rfl⟩⟩
theorem pm_f6083 : pm_fok (6083, 6, 12, 0) := ⟨_, rfl, by decide, Or.inl ⟨rfl, pm_in2 (i := 39) rfl rfl⟩⟩
theorem pm_f6080 : pm_fok (6080, 6, 10, 0) := ⟨_, rfl, by decide, Or.inl ⟨rfl, pm_in2 (i := 36) rfl rfl⟩⟩
theorem pm_f6077 : pm_fok (6077, 6, 9, 0) := ⟨_, rfl, by decide, Or.inl ⟨rfl, pm_in2 (i := 34) rfl rfl⟩⟩
theorem pm_f6068 : pm_fok (6068, 6, 7, 0) := ⟨_, rfl, by decide, Or.inl ⟨rfl, pm_in2 (i := 30) rfl rfl⟩⟩
theorem pm_f6065 : pm_fok (6065, 6, 4, 0) := ⟨_, rfl, by decide, Or.inl ⟨rfl, pm_in2 (i := 26) rfl rfl⟩⟩
theorem pm_f6062 : pm_fok (6062, 6, 16, 0) := ⟨_, rfl, by decide, Or.inl ⟨rfl, pm_in2 (i := 46) rfl rfl⟩⟩
theorem pm_f6059 : pm_fok (6059, 6, 15, 0) := ⟨_, rfl, by decide, Or.inl ⟨rfl, pm_in2 (i := 44) rfl rfl⟩⟩
theorem pm_f6056 : pm_fok (6056, 6, 14, 0) := ⟨_, rfl, by decide, Or.inl ⟨rfl, pm_in2 (i := 42) rfl rfl⟩⟩
theorem pm_f6051 : pm_fok (6051, 6, 1, 0) := ⟨_, rfl, by decide, Or.inl ⟨rfl, pm_in2 (i := 23) rfl rfl⟩⟩
theorem pm_f6047 : pm_fok (6047, 6, 13, 0) := ⟨_, rfl, by decide, Or.inl ⟨rfl, pm_in2 (i := 41) rfl rfl⟩⟩
theorem pm_f6041 : pm_fok (6041, 6, 11, 0) := ⟨_, rfl, by decide, Or.inl ⟨rfl, pm_in2 (i := 38) rfl rfl⟩⟩
theorem pm_f6038 : pm_fok (6038, 6, 8, 0) := ⟨_, rfl, by decide, Or.inl ⟨rfl, pm_in2 (i := 32) rfl rfl⟩⟩
theorem pm_f6035 : pm_fok (6035, 6, 6, 0) := ⟨_, rfl, by decide, Or.inl ⟨rfl, pm_in2 (i := 29) rfl rfl⟩⟩
theorem pm_f6031 : pm_fok (6031, 6, 5, 0) := ⟨_, rfl, by decide, Or.inl ⟨rfl, pm_in2 (i := 27) rfl rfl⟩⟩
theorem pm_f6024 : pm_fok (6024, 6, 3, 0) := ⟨_, rfl, by decide, Or.inl ⟨rfl, pm_in2 (i := 25) rfl rfl⟩⟩
theorem pm_f6020 : pm_fok (6020, 6, 2, 0) := ⟨_, rfl, by decide, Or.inl ⟨rfl, pm_in2 (i := 24) rfl rfl⟩⟩
theorem pm_f6012 : pm_fok (6012, 6, 0, 0) := ⟨_, rfl, by decide, Or.inl ⟨rfl, pm_in2 (i := 21) rfl rfl⟩⟩
theorem pm_f5036 : pm_fok (5036, 9, 17, 1) := ⟨_, rfl, by decide, Or.inr ⟨rfl, List.mem_of_getElem? (i := 13) rfl⟩⟩
theorem pm_f5019 : pm_fok (5019, 5, 2, 0) := ⟨_, rfl, by decide, Or.inl ⟨rfl, pm_in1 (i := 228) rfl rfl⟩⟩
theorem pm_f5015 : pm_fok (5015, 5, 1, 0) := ⟨_, rfl, by decide, Or.inl ⟨rfl, pm_in1 (i := 225) rfl rfl⟩⟩
theorem pm_f5009 : pm_fok (5009, 5, 0, 0) := ⟨_, rfl, by decide, Or.inl ⟨rfl, pm_in1 (i := 224) rfl rfl⟩⟩
theorem pm_f4043 : pm_fok (4043, 4, 0, 0) := ⟨_, rfl, by decide, Or.inl ⟨rfl, pm_in1 (i := 152) rfl rfl⟩⟩
theorem pm_f4036 : pm_fok (4036, 4, 9, 0) := ⟨_, rfl, by decide, Or.inl ⟨rfl, pm_in1 (i := 161) rfl rfl⟩⟩
theorem pm_f4033 : pm_fok (4033, 4, 8, 0) := ⟨_, rfl, by decide, Or.inl ⟨rfl, pm_in1 (i := 160) rfl rfl⟩⟩
theorem pm_f4030 : pm_fok (4030, 4, 7, 0) := ⟨_, rfl, by decide, Or.inl ⟨rfl, pm_in1 (i := 159) rfl rfl⟩⟩
theorem pm_f4027 : pm_fok (4027, 4, 6, 0) := ⟨_, rfl, by decide, Or.inl ⟨rfl, pm_in1 (i := 158) rfl rfl⟩⟩
theorem pm_f4024 : pm_fok (4024, 4, 5, 0) := ⟨_, rfl, by decide, Or.inl ⟨rfl, pm_in1 (i := 157) rfl rfl⟩⟩
theorem pm_f4021 : pm_fok (4021, 4, 4, 0) := ⟨_, rfl, by decide, Or.inl ⟨rfl, pm_in1 (i := 156) rfl rfl⟩⟩
theorem pm_f4018 : pm_fok (4018, 4, 3, 0) := ⟨_, rfl, by decide, Or.inl ⟨rfl, pm_in1 (i := 155) rfl rfl⟩⟩
theorem pm_f4015 : pm_fok (4015, 4, 2, 0) := ⟨_, rfl, by decide, Or.inl ⟨rfl, pm_in1 (i := 154) rfl rfl⟩⟩
theorem pm_f4009 : pm_fok (4009, 4, 1, 0) := ⟨_, rfl, by decide, Or.inl ⟨rfl, pm_in1 (i := 153) rfl rfl⟩⟩
theorem pm_f3233 : pm_fok (3233, 9, 14, 1) := ⟨_, rfl, by decide, Or.inr ⟨rfl, List.mem_of_getElem? (i := 9) rfl⟩⟩
theorem pm_f3227 : pm_fok (3227, 9, 15, 1) := ⟨_, rfl, by decide, Or.inr ⟨rfl, List.mem_of_getElem? (i := 11) rfl⟩⟩
theorem pm_f3047 : pm_fok (3047, 9, 11, 1) := ⟨_, rfl, by decide, Or.inr ⟨rfl, List.mem_of_getElem? (i := 4) rfl⟩⟩
theorem pm_f3021 : pm_fok (3021, 3, 1, 0) := ⟨_, rfl, by decide, Or.inl ⟨rfl, pm_in1 (i := 207) rfl rfl⟩⟩
theorem pm_f3012 : pm_fok (3012, 3, 0, 0) := ⟨_, rfl, by decide, Or.inl ⟨rfl, pm_in1 (i := 205) rfl rfl⟩⟩
theorem pm_f2009 : pm_fok (2009, 2, 0, 0) := ⟨_, rfl, by decide, Or.inl ⟨rfl, pm_in1 (i := 37) rfl rfl⟩⟩
theorem pm_f1024 : pm_fok (1024, 1, 4, 0) := ⟨_, rfl, by decide, Or.inl ⟨rfl, pm_in1 (i := 193) rfl rfl⟩⟩
theorem pm_f1021 : pm_fok (1021, 1, 3, 0) := ⟨_, rfl, by decide, Or.inl ⟨rfl, pm_in1 (i := 192) rfl rfl⟩⟩
theorem pm_f1018 : pm_fok (1018, 1, 2, 0) := ⟨_, rfl, by decide, Or.inl ⟨rfl, pm_in1 (i := 191) rfl rfl⟩⟩
theorem pm_f1015 : pm_fok (1015, 1, 1, 0) := ⟨_, rfl, by decide, Or.inl ⟨rfl, pm_in1 (i := 190) rfl rfl⟩⟩
theorem pm_f1011 : pm_fok (1011, 1, 0, 0) := ⟨_, rfl, by decide, Or.inl ⟨rfl, pm_in1 (i := 189) rfl rfl⟩⟩
theorem pm_f243 : pm_fok (243, 6, 15, 1) := ⟨_, rfl, by decide, Or.inr ⟨rfl, List.mem_of_getElem? (i := 30) rfl⟩⟩
theorem pm_f240 : pm_fok (240, 6, 14, 1) := ⟨_, rfl, by decide, Or.inr ⟨rfl, List.mem_of_getElem? (i := 29) rfl⟩⟩
theorem pm_f210 : pm_fok (210, 6, 8, 1) := ⟨_, rfl, by decide, Or.inr ⟨rfl, List.mem_of_getElem? (i := 25) rfl⟩⟩
theorem pm_f177 : pm_fok (177, 8, 3, 1) := ⟨_, rfl, by decide, Or.inr ⟨rfl, List.mem_of_getElem? (i := 15) rfl⟩⟩
theorem pm_f156 : pm_fok (156, 9, 15, 1) := ⟨_, rfl, by decide, Or.inr ⟨rfl, List.mem_of_getElem? (i := 10) rfl⟩⟩
theorem pm_f150 : pm_fok (150, 9, 10, 1) := ⟨_, rfl, by decide, Or.inr ⟨rfl, List.mem_of_getElem? (i := 2) rfl⟩⟩
theorem pm_f147 : pm_fok (147, 9, 9, 1) := ⟨_, rfl, by decide, Or.inr ⟨rfl, List.mem_of_getElem? (i := 0) rfl⟩⟩
theorem pm_f144 : pm_fok (144, 9, 11, 1) := ⟨_, rfl, by decide, Or.inr ⟨rfl, List.mem_of_getElem? (i := 5) rfl⟩⟩
theorem pm_f141 : pm_fok (141, 9, 14, 1) := ⟨_, rfl, by decide, Or.inr ⟨rfl, List.mem_of_getElem? (i := 8) rfl⟩⟩
theorem pm_f138 : pm_fok (138, 9, 13, 1) := ⟨_, rfl, by decide, Or.inr ⟨rfl, List.mem_of_getElem? (i := 7) rfl⟩⟩
theorem pm_f135 : pm_fok (135, 9, 12, 1) := ⟨_, rfl, by decide, Or.inr ⟨rfl, List.mem_of_getElem? (i := 6) rfl⟩⟩
theorem pm_f121 : pm_fok (121, 6, 9, 1) := ⟨_, rfl, by decide, Or.inr ⟨rfl, List.mem_of_getElem? (i := 26) rfl⟩⟩
theorem pm_f118 : pm_fok (118, 6, 12, 1) := ⟨_, rfl, by decide, Or.inr ⟨rfl, List.mem_of_getElem? (i := 28) rfl⟩⟩
theorem pm_f115 : pm_fok (115, 6, 10, 1) := ⟨_, rfl, by decide, Or.inr ⟨rfl, List.mem_of_getElem? (i := 27) rfl⟩⟩
theorem pm_f110 : pm_fok (110, 5, 1, 1) := ⟨_, rfl, by decide, Or.inr ⟨rfl, List.mem_of_getElem? (i := 21) rfl⟩⟩
theorem pm_f106 : pm_fok (106, 6, 5, 1) := ⟨_, rfl, by decide, Or.inr ⟨rfl, List.mem_of_getElem? (i := 23) rfl⟩⟩
theorem pm_f96 : pm_fok (96, 6, 7, 1) := ⟨_, rfl, by decide, Or.inr ⟨rfl, List.mem_of_getElem? (i := 24) rfl⟩⟩
theorem pm_f78 : pm_fok (78, 0, 7, 0) := ⟨_, rfl, by decide, Or.inl ⟨rfl, pm_in2 (i := 92) rfl rfl⟩⟩
theorem pm_f55 : pm_fok (55, 0, 3, 0) := ⟨_, rfl, by decide, Or.inl ⟨rfl, pm_in2 (i := 88) rfl rfl⟩⟩
theorem pm_f51 : pm_fok (51, 3, 1, 1) := ⟨_, rfl, by decide, Or.inr ⟨rfl, List.mem_of_getElem? (i := 17) rfl⟩⟩
theorem pm_f50 : pm_fok (50, 0, 2, 0) := ⟨_, rfl, by decide, Or.inl ⟨rfl, pm_in2 (i := 87) rfl rfl⟩⟩
theorem pm_f44 : pm_fok (44, 3, 0, 1) := ⟨_, rfl, by decide, Or.inr ⟨rfl, List.mem_of_getElem? (i := 16) rfl⟩⟩
theorem pm_f43 : pm_fok (43, 0, 1, 0) := ⟨_, rfl, by decide, Or.inl ⟨rfl, pm_in2 (i := 86) rfl rfl⟩⟩
theorem pm_f39 : pm_fok (39, 6, 0, 1) := ⟨_, rfl, by decide, Or.inr ⟨rfl, List.mem_of_getElem? (i := 22) rfl⟩⟩
theorem pm_f35 : pm_fok (35, 0, 0, 0) := ⟨_, rfl, by decide, Or.inl ⟨rfl, pm_in2 (i := 85) rfl rfl⟩⟩
theorem pm_f26 : pm_fok (26, 0, 6, 0) := ⟨_, rfl, by decide, Or.inl ⟨rfl, pm_in2 (i := 91) rfl rfl⟩⟩
theorem pm_f19 : pm_fok (19, 0, 5, 0) := ⟨_, rfl, by decide, Or.inl ⟨rfl, pm_in2 (i := 90) rfl rfl⟩⟩
theorem pm_f12 : pm_fok (12, 0, 4, 0) := ⟨_, rfl, by decide, Or.inl ⟨rfl, pm_in2 (i := 89) rfl rfl⟩⟩
set_option maxRecDepth 100000 in
theorem pm_fall : ∀ q ∈ pm_fT, pm_fok q := List.forall_mem_cons.mpr ⟨pm_f12, List.forall_mem_cons.mpr ⟨pm_f19, List.forall_mem_cons.mpr ⟨pm_f26, List.forall_mem_cons.mpr ⟨pm_f35, List.forall_mem_cons.mpr ⟨pm_f39, List.forall_mem_cons.mpr ⟨pm_f43, List.forall_mem_cons.mpr ⟨pm_f44, List.forall_mem_cons.mpr ⟨pm_f50, List.forall_mem_cons.mpr ⟨pm_f51, List.forall_mem_cons.mpr ⟨pm_f55, List.forall_mem_cons.mpr ⟨pm_f78, List.forall_mem_cons.mpr ⟨pm_f96, List.forall_mem_cons.mpr ⟨pm_f106, List.forall_mem_cons.mpr ⟨pm_f110, List.forall_mem_cons.mpr ⟨pm_f115, List.forall_mem_cons.mpr ⟨pm_f118, List.forall_mem_cons.mpr ⟨pm_f121, List.forall_mem_cons.mpr ⟨pm_f135, List.forall_mem_cons.mpr ⟨pm_f138, List.forall_mem_cons.mpr ⟨pm_f141, List.forall_mem_cons.mpr ⟨pm_f144, List.forall_mem_cons.mpr ⟨pm_f147, List.forall_mem_cons.mpr ⟨pm_f150, List.forall_mem_cons.mpr ⟨pm_f156, List.forall_mem_cons.mpr ⟨pm_f177, List.forall_mem_cons.mpr ⟨pm_f210, List.forall_mem_cons.mpr ⟨pm_f240, List.forall_mem_cons.mpr ⟨pm_f243, List.forall_mem_cons.mpr ⟨pm_f1011, List.forall_mem_cons.mpr ⟨pm_f1015, List.forall_mem_cons.mpr ⟨pm_f1018, List.forall_mem_cons.mpr ⟨pm_f1021, List.forall_mem_cons.mpr ⟨pm_f1024, List.forall_mem_cons.mpr ⟨pm_f2009, List.forall_mem_cons.mpr ⟨pm_f3012, List.forall_mem_cons.mpr ⟨pm_f3021, List.forall_mem_cons.mpr ⟨pm_f3047, List.forall_mem_cons.mpr ⟨pm_f3227, List.forall_mem_cons.mpr ⟨pm_f3233, List.forall_mem_cons.mpr ⟨pm_f4009, List.forall_mem_cons.mpr ⟨pm_f4015, List.forall_mem_cons.mpr ⟨pm_f4018, List.forall_mem_cons.mpr ⟨pm_f4021, List.forall_mem_cons.mpr ⟨pm_f4024, List.forall_mem_cons.mpr ⟨pm_f4027, List.forall_mem_cons.mpr ⟨pm_f4030, List.forall_mem_cons.mpr ⟨pm_f4033, List.forall_mem_cons.mpr ⟨pm_f4036, List.forall_mem_cons.mpr ⟨pm_f4043, List.forall_mem_cons.mpr ⟨pm_f5009, List.forall_mem_cons.mpr ⟨pm_f5015, List.forall_mem_cons.mpr ⟨pm_f5019, List.forall_mem_cons.mpr ⟨pm_f5036, List.forall_mem_cons.mpr ⟨pm_f6012, List.forall_mem_cons.mpr ⟨pm_f6020, List.forall_mem_cons.mpr ⟨pm_f6024, List.forall_mem_cons.mpr ⟨pm_f6031, List.forall_mem_cons.mpr ⟨pm_f6035, List.forall_mem_cons.mpr ⟨pm_f6038, List.forall_mem_cons.mpr ⟨pm_f6041, List.forall_mem_cons.mpr ⟨pm_f6047, List.forall_mem_cons.mpr ⟨pm_f6051, List.forall_mem_cons.mpr ⟨pm_f6056, List.forall_mem_cons.mpr ⟨pm_f6059, List.forall_mem_cons.mpr ⟨pm_f6062, List.forall_mem_cons.mpr ⟨pm_f6065, List.forall_mem_cons.mpr ⟨pm_f6068, List.forall_mem_cons.mpr ⟨pm_f6077, List.forall_mem_cons.mpr ⟨pm_f6080, List.forall_mem_cons.mpr ⟨pm_f6083, List.forall_mem_cons.mpr ⟨pm_f6086, List.forall_mem_cons.mpr ⟨pm_f6089, List.forall_mem_cons.mpr ⟨pm_f6115, List.forall_mem_cons.mpr ⟨pm_f6122, List.forall_mem_cons.mpr ⟨pm_f6181, List.forall_mem_cons.mpr ⟨pm_f6202, List.forall_mem_cons.mpr ⟨pm_f7011, List.forall_mem_cons.mpr ⟨pm_f7017, List.forall_mem_cons.mpr ⟨pm_f7024, List.forall_mem_cons.mpr ⟨pm_f7028, List.forall_mem_cons.mpr ⟨pm_f7032, List.forall_mem_cons.mpr ⟨pm_f7058, List.forall_mem_cons.mpr ⟨pm_f8011, List.forall_mem_cons.mpr ⟨pm_f8015, List.forall_mem_cons.mpr ⟨pm_f8018, List.forall_mem_cons.mpr ⟨pm_f8033, List.forall_mem_cons.mpr ⟨pm_f9009, List.forall_mem_cons.mpr ⟨pm_f9015, List.forall_mem_cons.mpr ⟨pm_f9018, List.forall_mem_cons.mpr ⟨pm_f9021, List.forall_mem_cons.mpr ⟨pm_f9024, List.forall_mem_cons.mpr ⟨pm_f9027, List.forall_mem_cons.mpr ⟨pm_f9030, List.forall_mem_cons.mpr ⟨pm_f9036, List.forall_mem_cons.mpr ⟨pm_f9040, List.forall_mem_cons.mpr ⟨pm_f9048, List.forall_mem_cons.mpr ⟨pm_f9051, List.forall_mem_cons.mpr ⟨pm_f9057, List.forall_mem_cons.mpr ⟨pm_f9060, List.forall_mem_cons.mpr ⟨pm_f9063, List.forall_mem_cons.mpr ⟨pm_f9066, List.forall_mem_cons.mpr ⟨pm_f9069, List.forall_mem_cons.mpr ⟨pm_f9072, List.forall_mem_cons.mpr ⟨pm_f9075, List.forall_mem_cons.mpr ⟨pm_f10007, List.forall_mem_cons.mpr ⟨pm_f10013, List.forall_mem_cons.mpr ⟨pm_f10016, List.forall_mem_cons.mpr ⟨pm_f10019, List.forall_mem_cons.mpr ⟨pm_f10022, List.forall_mem_cons.mpr ⟨pm_f10025, List.forall_mem_cons.mpr ⟨pm_f10029, List.forall_mem_cons.mpr ⟨pm_f10033, List.forall_mem_cons.mpr ⟨pm_f10037, List.forall_mem_cons.mpr ⟨pm_f10042, List.forall_mem_cons.mpr ⟨pm_f10045, List.forall_mem_cons.mpr ⟨pm_f10048, List.forall_mem_cons.mpr ⟨pm_f10051, List.forall_mem_cons.mpr ⟨pm_f10054, List.forall_mem_cons.mpr ⟨pm_f10057, List.forall_mem_cons.mpr ⟨pm_f10060, List.forall_mem_cons.mpr ⟨pm_f10063, List.forall_mem_cons.mpr ⟨pm_f10066, List.forall_mem_cons.mpr ⟨pm_f10069, List.forall_mem_cons.mpr ⟨pm_f10072, List.forall_mem_cons.mpr ⟨pm_f10075, List.forall_mem_cons.mpr ⟨pm_f10078, List.forall_mem_cons.mpr ⟨pm_f10081, List.forall_mem_cons.mpr ⟨pm_f10085, List.forall_mem_cons.mpr ⟨pm_f10095, List.forall_mem_cons.mpr ⟨pm_f10110, List.forall_mem_cons.mpr ⟨pm_f10113, List.forall_mem_cons.mpr ⟨pm_f10140, List.forall_mem_cons.mpr ⟨pm_f10143, List.forall_mem_cons.mpr ⟨pm_f10146, List.forall_mem_cons.mpr ⟨pm_f10189, List.forall_mem_cons.mpr ⟨pm_f10195, List.forall_mem_cons.mpr ⟨pm_f10198, List.forall_mem_cons.mpr ⟨pm_f10201, List.forall_mem_cons.mpr ⟨pm_f10210, List.forall_mem_cons.mpr ⟨pm_f10217, List.forall_mem_cons.mpr ⟨pm_f10223, List.forall_mem_cons.mpr ⟨pm_f10226, List.forall_mem_cons.mpr ⟨pm_f10235, List.forall_mem_cons.mpr ⟨pm_f10238, List.forall_mem_cons.mpr ⟨pm_f10246, List.forall_mem_cons.mpr ⟨pm_f10258, fun _ h => absurd h List.not_mem_nil⟩⟩⟩⟩⟩⟩⟩⟩⟩⟩⟩⟩⟩⟩⟩⟩⟩⟩⟩⟩⟩⟩⟩⟩⟩⟩⟩⟩⟩⟩⟩⟩⟩⟩⟩⟩⟩⟩⟩⟩⟩⟩⟩⟩⟩⟩⟩⟩⟩⟩⟩⟩⟩⟩⟩⟩⟩⟩⟩⟩⟩⟩⟩⟩⟩⟩⟩⟩⟩⟩⟩⟩⟩⟩⟩⟩⟩⟩⟩⟩⟩⟩⟩⟩⟩⟩⟩⟩⟩⟩⟩⟩⟩⟩⟩⟩⟩⟩⟩⟩⟩⟩⟩⟩⟩⟩⟩⟩⟩⟩⟩⟩⟩⟩⟩⟩⟩⟩⟩⟩⟩⟩⟩⟩⟩⟩⟩⟩⟩⟩⟩⟩⟩⟩⟩⟩⟩⟩⟩⟩⟩⟩⟩⟩⟩⟩
/-- calls: key, how (0 on an object, 1 static, 2 a constructor, 3 Object's constructor, 4 System.arraycopy, 5 Math.min), the method's number, 1 for a nest mate's private one -/
def pm_cT : List (Nat × Nat × Nat × Nat) := [(3, 3, 0, 0), (11, 2, 115, 1), (18, 2, 109, 1), (25, 2, 35, 1), (32, 2, 94, 0), (56, 1, 2, 0), (60, 0, 73, 0), (66, 0, 74, 0), (70, 1, 75, 0), (74, 0, 76, 0), (82, 0, 78, 0), (86, 0, 79, 0), (89, 0, 95, 0), (93, 0, 96, 0), (100, 5, 0, 0), (124, 0, 100, 0), (127, 0, 101, 0), (131, 0, 9, 0), (153, 0, 43, 0), (159, 0, 28, 0), (164, 0, 143, 0), (167, 0, 144, 0), (170, 0, 145, 0), (173, 0, 110, 0), (180, 0, 114, 0), (183, 1, 13, 0), (186, 0, 112, 0), (189, 1, 44, 0), (192, 0, 38, 0), (195, 0, 45, 0), (198, 0, 146, 0), (201, 0, 102, 0), (204, 0, 103, 0), (207, 0, 83, 0), (214, 1, 77, 0), (217, 0, 71, 0), (221, 1, 26, 0), (224, 0, 37, 0), (227, 0, 21, 0), (231, 0, 41, 0), (234, 1, 39, 0), (237, 1, 40, 0), (1005, 3, 0, 0), (1028, 0, 32, 0), (1032, 1, 25, 0), (1037, 1, 26, 0), (1041, 1, 209, 0), (1047, 1, 27, 0), (1050, 0, 28, 0), (1053, 0, 29, 0), (1057, 1, 210, 0), (2003, 3, 0, 0), (2015, 1, 213, 0), (2021, 4, 0, 0), (2027, 1, 212, 0), (2033, 0, 38, 0), (3003, 3, 0, 0), (3011, 2, 72, 1), (3020, 2, 22, 1), (3025, 1, 27, 0), (3029, 0, 116, 0), (3035, 0, 57, 0), (3039, 0, 58, 0), (3043, 0, 135, 0), (3051, 0, 123, 0), (3055, 0, 124, 0), (3059, 0, 127, 0), (3062, 0, 119, 0), (3065, 0, 83, 0), (3069, 0, 118, 0), (3072, 0, 80, 0), (3075, 0, 81, 0), (3078, 0, 47, 0), (3082, 0, 49, 0), (3085, 0, 59, 0), (3089, 1, 55, 0), (3093, 1, 54, 0), (3097, 0, 51, 0), (3101, 1, 62, 0), (3104, 1, 63, 0), (3107, 1, 65, 0), (3110, 1, 25, 0), (3113, 1, 26, 0), (3116, 1, 53, 0), (3119, 1, 66, 0), (3123, 0, 48, 0), (3127, 1, 67, 0), (3130, 0, 50, 0), (3133, 0, 68, 0), (3143, 0, 84, 0), (3146, 0, 85, 0), (3149, 0, 136, 0), (3152, 0, 137, 0), (3155, 1, 60, 0), (3158, 1, 61, 0), (3161, 0, 122, 0), (3164, 0, 131, 0), (3167, 1, 64, 0), (3170, 0, 120, 0), (3174, 0, 121, 0), (3177, 0, 52, 0), (3180, 1, 56, 0), (3183, 0, 129, 0), (3186, 0, 130, 0), (3189, 0, 125, 0), (3192, 0, 132, 0), (3196, 0, 133, 0), (3199, 0, 134, 0), (3202, 0, 24, 0), (3205, 0, 30, 0), (3209, 0, 126, 0), (3212, 0, 138, 0), (3215, 0, 139, 0), (3218, 0, 140, 0), (3221, 1, 69, 0), (3224, 0, 128, 0), (3230, 0, 82, 0), (4003, 3, 0, 0), (4039, 1, 2, 1), (4047, 1, 77, 0), (4051, 0, 74, 0), (5003, 3, 0, 0), (5022, 0, 90, 0), (5026, 0, 91, 0), (5032, 0, 92, 0), (5041, 0, 118, 0), (6003, 3, 0, 0), (6011, 2, 46, 1), (6030, 2, 86, 1), (6046, 2, 104, 0), (6055, 2, 115, 1), (6071, 1, 213, 0), (6093, 0, 23, 0), (6098, 0, 87, 0), (6102, 0, 88, 0), (6105, 0, 116, 0), (6108, 5, 0, 0), (6118, 0, 89, 0), (6125, 0, 47, 0), (6129, 0, 48, 0), (6133, 0, 97, 0), (6137, 0, 98, 0), (6141, 0, 57, 0), (6145, 0, 118, 0), (6149, 0, 58, 0), (6152, 1, 53, 0), (6156, 0, 105, 0), (6160, 1, 70, 0), (6163, 0, 106, 0), (6167, 0, 99, 0), (6171, 0, 123, 0), (6174, 0, 93, 0), (6178, 0, 141, 0), (6185, 0, 107, 0), (6189, 0, 42, 0), (6195, 0, 108, 0), (6199, 0, 142, 0), (7003, 3, 0, 0), (7023, 2, 109, 1), (7031, 2, 35, 1), (7038, 1, 63, 0), (7042, 0, 110, 0), (7046, 1, 65, 0), (7049, 1, 213, 0), (7055, 0, 37, 0), (7064, 0, 38, 0), (7068, 1, 39, 0), (7072, 1, 40, 0), (7075, 0, 112, 0), (7079, 1, 66, 0), (7083, 0, 41, 0), (8005, 3, 0, 0), (8021, 0, 28, 0), (8027, 5, 0, 0), (8037, 0, 31, 0), (8040, 0, 33, 0), (8043, 0, 111, 0), (8046, 0, 34, 0), (8049, 1, 113, 0), (8053, 1, 209, 0), (8058, 1, 210, 0), (9003, 3, 0, 0), (9035, 2, 35, 1), (9044, 0, 117, 0), (9054, 0, 36, 0), (9078, 4, 0, 0), (9084, 0, 120, 0), (9087, 0, 126, 0), (9090, 1, 27, 0), (10001, 3, 0, 0), (10088, 1, 169, 0), (10092, 1, 178, 0), (10099, 1, 179, 0), (10103, 1, 177, 0), (10107, 1, 168, 0), (10116, 0, 166, 0), (10120, 0, 167, 0), (10123, 0, 158, 0), (10126, 0, 171, 0), (10130, 0, 157, 0), (10133, 0, 176, 0), (10136, 0, 170, 0), (10149, 0, 172, 0), (10152, 0, 164, 0), (10155, 0, 173, 0), (10158, 0, 182, 0), (10162, 0, 184, 0), (10165, 0, 186, 0), (10168, 0, 165, 0), (10171, 0, 174, 0), (10174, 0, 175, 0), (10177, 0, 180, 0), (10180, 0, 181, 0), (10183, 0, 183, 0), (10186, 0, 185, 0), (10192, 0, 163, 0), (10204, 0, 189, 0), (10207, 0, 190, 0), (10213, 0, 188, 0), (10220, 0, 191, 0), (10229, 0, 155, 0), (10232, 0, 192, 0), (10243, 0, 161, 0), (10249, 0, 160, 0), (10252, 0, 162, 0), (10255, 0, 187, 0), (10261, 1, 149, 0), (10265, 1, 151, 0), (10269, 0, 152, 0), (10272, 0, 156, 0), (10276, 0, 159, 0), (10279, 0, 196, 0), (10282, 0, 197, 0), (10285, 1, 201, 0), (12009, 1, 211, 0), (12015, 2, 0, 0), (12020, 2, 147, 0), (12021, 0, 1, 0), (12025, 0, 148, 0), (12026, 0, 3, 0), (12030, 0, 150, 0), (12031, 0, 4, 0), (12035, 0, 153, 0), (12036, 0, 5, 0), (12040, 0, 154, 0), (12041, 0, 6, 0), (12044, 0, 193, 0), (12045, 0, 7, 0), (12048, 0, 194, 0), (12049, 0, 8, 0), (12053, 0, 195, 0), (12054, 0, 10, 0), (12057, 0, 198, 0), (12058, 0, 11, 0), (12061, 0, 199, 0), (12062, 0, 12, 0), (12065, 0, 200, 0), (12066, 0, 14, 0), (12069, 0, 202, 0), (12070, 0, 15, 0), (12073, 0, 203, 0), (12074, 0, 16, 0), (12077, 0, 204, 0), (12078, 0, 17, 0), (12081, 0, 205, 0), (12082, 0, 18, 0), (12085, 0, 206, 0), (12086, 0, 19, 0), (12089, 0, 207, 0), (12090, 0, 20, 0), (12094, 0, 208, 0)]
def pm_lnk (q : Nat × Nat × Nat × Nat) : Prop := (q.2.2.2 = 0 ∧ Cond.methodLink (pm_nm (q.1 / 1000)) (q.1 % 1000) (pm_y q.2.2.1) ∈ lw_good) ∨ (q.2.2.2 = 1 ∧ (pm_nm (q.1 / 1000), q.1 % 1000, pm_y q.2.2.1) ∈ pm_nM)
/-- what holds of a call: by its kind -/
def pm_cok2 (q : Nat × Nat × Nat × Nat) : Prop := match q.2.1 with
  | 0 => q.2.2.1 < 214 ∧ pm_lnk q ∧ Cond.instanceMethod (pm_y q.2.2.1) ∈ lw_good ∧ Cond.selects (pm_nm (pm_own q.2.2.1)) (pm_y q.2.2.1) (pm_y q.2.2.1) ∈ lw_good
  | 1 => q.2.2.1 < 214 ∧ pm_lnk q ∧ Cond.static (pm_y q.2.2.1) ∈ lw_good
  | 2 => q.2.2.1 < 214 ∧ pm_lnk q ∧ Cond.instanceMethod (pm_y q.2.2.1) ∈ lw_good ∧ (pm_y q.2.2.1).name = "<init>" ∧ pm_r q.2.2.1 = none
  | 3 => Cond.methodLink (pm_nm (q.1 / 1000)) (q.1 % 1000) objectInit ∈ lw_good
  | 4 => Cond.methodLink (pm_nm (q.1 / 1000)) (q.1 % 1000) arraycopyName ∈ lw_good
  | 5 => Cond.methodLink (pm_nm (q.1 / 1000)) (q.1 % 1000) Lib.Math.min.name ∈ lw_good
  | _ => False
theorem pm_l12094 : pm_cok2 (12094, 0, 208, 0) := ⟨by decide, Or.inl ⟨rfl, pm_in6 (i := 116) rfl rfl⟩, pm_in6 (i := 117) rfl rfl, pm_in6 (i := 118) rfl rfl⟩
theorem pm_l12090 : pm_cok2 (12090, 0, 20, 0) := ⟨by decide, Or.inl ⟨rfl, pm_in4 (i := 209) rfl rfl⟩, pm_in4 (i := 210) rfl rfl, pm_in4 (i := 211) rfl rfl⟩
theorem pm_l12089 : pm_cok2 (12089, 0, 207, 0) := ⟨by decide, Or.inl ⟨rfl, pm_in6 (i := 112) rfl rfl⟩, pm_in6 (i := 113) rfl rfl, pm_in6 (i := 114) rfl rfl⟩
theorem pm_l12086 : pm_cok2 (12086, 0, 19, 0) := ⟨by decide, Or.inl ⟨rfl, pm_in4 (i := 197) rfl rfl⟩, pm_in4 (i := 198) rfl rfl, pm_in4 (i := 199) rfl rfl⟩
theorem pm_l12085 : pm_cok2 (12085, 0, 206, 0) := ⟨by decide, Or.inl ⟨rfl, pm_in6 (i := 108) rfl rfl⟩, pm_in6 (i := 109) rfl rfl, pm_in6 (i := 110) rfl rfl⟩
theorem pm_l12082 : pm_cok2 (12082, 0, 18, 0) := ⟨by decide, Or.inl ⟨rfl, pm_in4 (i := 191) rfl rfl⟩, pm_in4 (i := 192) rfl rfl, pm_in4 (i := 193) rfl rfl⟩
theorem pm_l12081 : pm_cok2 (12081, 0, 205, 0) := ⟨by decide, Or.inl ⟨rfl, pm_in6 (i := 104) rfl rfl⟩, pm_in6 (i := 105) rfl rfl, pm_in6 (i := 106) rfl rfl⟩
theorem pm_l12078 : pm_cok2 (12078, 0, 17, 0) := ⟨by decide, Or.inl ⟨rfl, pm_in4 (i := 179) rfl rfl⟩, pm_in4 (i := 180) rfl rfl, pm_in4 (i := 181) rfl rfl⟩
theorem pm_l12077 : pm_cok2 (12077, 0, 204, 0) := ⟨by decide, Or.inl ⟨rfl, pm_in6 (i := 100) rfl rfl⟩, pm_in6 (i := 101) rfl rfl, pm_in6 (i := 102) rfl rfl⟩
theorem pm_l12074 : pm_cok2 (12074, 0, 16, 0) := ⟨by decide, Or.inl ⟨rfl, pm_in4 (i := 171) rfl rfl⟩, pm_in4 (i := 172) rfl rfl, pm_in4 (i := 173) rfl rfl⟩
theorem pm_l12073 : pm_cok2 (12073, 0, 203, 0) := ⟨by decide, Or.inl ⟨rfl, pm_in6 (i := 96) rfl rfl⟩, pm_in6 (i := 97) rfl rfl, pm_in6 (i := 98) rfl rfl⟩
theorem pm_l12070 : pm_cok2 (12070, 0, 15, 0) := ⟨by decide, Or.inl ⟨rfl, pm_in4 (i := 162) rfl rfl⟩, pm_in4 (i := 163) rfl rfl, pm_in4 (i := 164) rfl rfl⟩
theorem pm_l12069 : pm_cok2 (12069, 0, 202, 0) := ⟨by decide, Or.inl ⟨rfl, pm_in6 (i := 92) rfl rfl⟩, pm_in6 (i := 93) rfl rfl, pm_in6 (i := 94) rfl rfl⟩
theorem pm_l12066 : pm_cok2 (12066, 0, 14, 0) := ⟨by decide, Or.inl ⟨rfl, pm_in4 (i := 154) rfl rfl⟩, pm_in4 (i := 155) rfl rfl, pm_in4 (i := 156) rfl rfl⟩
theorem pm_l12065 : pm_cok2 (12065, 0, 200, 0) := ⟨by decide, Or.inl ⟨rfl, pm_in6 (i := 85) rfl rfl⟩, pm_in6 (i := 86) rfl rfl, pm_in6 (i := 87) rfl rfl⟩
theorem pm_l12062 : pm_cok2 (12062, 0, 12, 0) := ⟨by decide, Or.inl ⟨rfl, pm_in4 (i := 146) rfl rfl⟩, pm_in4 (i := 147) rfl rfl, pm_in4 (i := 148) rfl rfl⟩
theorem pm_l12061 : pm_cok2 (12061, 0, 199, 0) := ⟨by decide, Or.inl ⟨rfl, pm_in6 (i := 81) rfl rfl⟩, pm_in6 (i := 82) rfl rfl, pm_in6 (i := 83) rfl rfl⟩
theorem pm_l12058 : pm_cok2 (12058, 0, 11, 0) := ⟨by decide, Or.inl ⟨rfl, pm_in4 (i := 137) rfl rfl⟩, pm_in4 (i := 138) rfl rfl, pm_in4 (i := 139) rfl rfl⟩
theorem pm_l12057 : pm_cok2 (12057, 0, 198, 0) := ⟨by decide, Or.inl ⟨rfl, pm_in6 (i := 77) rfl rfl⟩, pm_in6 (i := 78) rfl rfl, pm_in6 (i := 79) rfl rfl⟩
theorem pm_l12054 : pm_cok2 (12054, 0, 10, 0) := ⟨by decide, Or.inl ⟨rfl, pm_in4 (i := 121) rfl rfl⟩, pm_in4 (i := 122) rfl rfl, pm_in4 (i := 123) rfl rfl⟩
theorem pm_l12053 : pm_cok2 (12053, 0, 195, 0) := ⟨by decide, Or.inl ⟨rfl, pm_in6 (i := 65) rfl rfl⟩, pm_in6 (i := 66) rfl rfl, pm_in6 (i := 67) rfl rfl⟩
theorem pm_l12049 : pm_cok2 (12049, 0, 8, 0) := ⟨by decide, Or.inl ⟨rfl, pm_in4 (i := 94) rfl rfl⟩, pm_in4 (i := 95) rfl rfl, pm_in4 (i := 96) rfl rfl⟩
theorem pm_l12048 : pm_cok2 (12048, 0, 194, 0) := ⟨by decide, Or.inl ⟨rfl, pm_in6 (i := 61) rfl rfl⟩, pm_in6 (i := 62) rfl rfl, pm_in6 (i := 63) rfl rfl⟩
theorem pm_l12045 : pm_cok2 (12045, 0, 7, 0) := ⟨by decide, Or.inl ⟨rfl, pm_in4 (i := 90) rfl rfl⟩, pm_in4 (i := 91) rfl rfl, pm_in4 (i := 92) rfl rfl⟩
theorem pm_l12044 : pm_cok2 (12044, 0, 193, 0) := ⟨by decide, Or.inl ⟨rfl, pm_in6 (i := 57) rfl rfl⟩, pm_in6 (i := 58) rfl rfl, pm_in6 (i := 59) rfl rfl⟩
theorem pm_l12041 : pm_cok2 (12041, 0, 6, 0) := ⟨by decide, Or.inl ⟨rfl, pm_in4 (i := 85) rfl rfl⟩, pm_in4 (i := 86) rfl rfl, pm_in4 (i := 87) rfl rfl⟩
theorem pm_l12040 : pm_cok2 (12040, 0, 154, 0) := ⟨by decide, Or.inl ⟨rfl, pm_in5 (i := 144) rfl rfl⟩, pm_in5 (i := 145) rfl rfl, pm_in5 (i := 146) rfl rfl⟩
theorem pm_l12036 : pm_cok2 (12036, 0, 5, 0) := ⟨by decide, Or.inl ⟨rfl, pm_in2 (i := 148) rfl rfl⟩, pm_in2 (i := 149) rfl rfl, pm_in2 (i := 150) rfl rfl⟩
theorem pm_l12035 : pm_cok2 (12035, 0, 153, 0) := ⟨by decide, Or.inl ⟨rfl, pm_in5 (i := 140) rfl rfl⟩, pm_in5 (i := 141) rfl rfl, pm_in5 (i := 142) rfl rfl⟩
theorem pm_l12031 : pm_cok2 (12031, 0, 4, 0) := ⟨by decide, Or.inl ⟨rfl, pm_in2 (i := 140) rfl rfl⟩, pm_in2 (i := 141) rfl rfl, pm_in2 (i := 142) rfl rfl⟩
theorem pm_l12030 : pm_cok2 (12030, 0, 150, 0) := ⟨by decide, Or.inl ⟨rfl, pm_in5 (i := 129) rfl rfl⟩, pm_in5 (i := 130) rfl rfl, pm_in5 (i := 131) rfl rfl⟩
theorem pm_l12026 : pm_cok2 (12026, 0, 3, 0) := ⟨by decide, Or.inl ⟨rfl, pm_in2 (i := 121) rfl rfl⟩, pm_in2 (i := 122) rfl rfl, pm_in2 (i := 123) rfl rfl⟩
theorem pm_l12025 : pm_cok2 (12025, 0, 148, 0) := ⟨by decide, Or.inl ⟨rfl, pm_in5 (i := 122) rfl rfl⟩, pm_in5 (i := 123) rfl rfl, pm_in5 (i := 124) rfl rfl⟩
theorem pm_l12021 : pm_cok2 (12021, 0, 1, 0) := ⟨by decide, Or.inl ⟨rfl, pm_in2 (i := 110) rfl rfl⟩, pm_in2 (i := 111) rfl rfl, pm_in2 (i := 112) rfl rfl⟩
theorem pm_l12020 : pm_cok2 (12020, 2, 147, 0) := ⟨by decide, Or.inl ⟨rfl, pm_in4 (i := 226) rfl rfl⟩, pm_in4 (i := 227) rfl rfl, rfl, rfl⟩
theorem pm_l12015 : pm_cok2 (12015, 2, 0, 0) := ⟨by decide, Or.inl ⟨rfl, pm_in1 (i := 19) rfl rfl⟩, pm_in1 (i := 20) rfl rfl, rfl, rfl⟩
theorem pm_l12009 : pm_cok2 (12009, 1, 211, 0) := ⟨by decide, Or.inl ⟨rfl, pm_in4 (i := 221) rfl rfl⟩, pm_in4 (i := 222) rfl rfl⟩
theorem pm_l10285 : pm_cok2 (10285, 1, 201, 0) := ⟨by decide, Or.inl ⟨rfl, pm_in6 (i := 89) rfl rfl⟩, pm_in6 (i := 90) rfl rfl⟩
theorem pm_l10282 : pm_cok2 (10282, 0, 197, 0) := ⟨by decide, Or.inl ⟨rfl, pm_in6 (i := 73) rfl rfl⟩, pm_in6 (i := 75) rfl rfl, pm_in0 (i := 53) (by decide +kernel) rfl⟩
theorem pm_l10279 : pm_cok2 (10279, 0, 196, 0) := ⟨by decide, Or.inl ⟨rfl, pm_in6 (i := 69) rfl rfl⟩, pm_in6 (i := 71) rfl rfl, pm_in0 (i := 52) (by decide +kernel) rfl⟩
theorem pm_l10276 : pm_cok2 (10276, 0, 159, 0) := ⟨by decide, Or.inl ⟨rfl, pm_in5 (i := 164) rfl rfl⟩, pm_in5 (i := 166) rfl rfl, pm_in0 (i := 23) (by decide +kernel) rfl⟩
theorem pm_l10272 : pm_cok2 (10272, 0, 156, 0) := ⟨by decide, Or.inl ⟨rfl, pm_in5 (i := 152) rfl rfl⟩, pm_in5 (i := 154) rfl rfl, pm_in0 (i := 20) (by decide +kernel) rfl⟩
theorem pm_l10269 : pm_cok2 (10269, 0, 152, 0) := ⟨by decide, Or.inl ⟨rfl, pm_in5 (i := 136) rfl rfl⟩, pm_in5 (i := 138) rfl rfl, pm_in0 (i := 18) (by decide +kernel) rfl⟩
theorem pm_l10265 : pm_cok2 (10265, 1, 151, 0) := ⟨by decide, Or.inl ⟨rfl, pm_in5 (i := 133) rfl rfl⟩, pm_in5 (i := 134) rfl rfl⟩
theorem pm_l10261 : pm_cok2 (10261, 1, 149, 0) := ⟨by decide, Or.inl ⟨rfl, pm_in5 (i := 126) rfl rfl⟩, pm_in5 (i := 127) rfl rfl⟩
theorem pm_l10255 : pm_cok2 (10255, 0, 187, 0) := ⟨by decide, Or.inl ⟨rfl, pm_in6 (i := 33) rfl rfl⟩, pm_in6 (i := 35) rfl rfl, pm_in0 (i := 46) (by decide +kernel) rfl⟩
theorem pm_l10252 : pm_cok2 (10252, 0, 162, 0) := ⟨by decide, Or.inl ⟨rfl, pm_in5 (i := 178) rfl rfl⟩, pm_in5 (i := 180) rfl rfl, pm_in0 (i := 26) (by decide +kernel) rfl⟩
theorem pm_l10249 : pm_cok2 (10249, 0, 160, 0) := ⟨by decide, Or.inl ⟨rfl, pm_in5 (i := 168) rfl rfl⟩, pm_in5 (i := 170) rfl rfl, pm_in0 (i := 24) (by decide +kernel) rfl⟩
theorem pm_l10243 : pm_cok2 (10243, 0, 161, 0) := ⟨by decide, Or.inl ⟨rfl, pm_in5 (i := 174) rfl rfl⟩, pm_in5 (i := 176) rfl rfl, pm_in0 (i := 25) (by decide +kernel) rfl⟩
theorem pm_l10232 : pm_cok2 (10232, 0, 192, 0) := ⟨by decide, Or.inl ⟨rfl, pm_in6 (i := 53) rfl rfl⟩, pm_in6 (i := 55) rfl rfl, pm_in0 (i := 51) (by decide +kernel) rfl⟩
theorem pm_l10229 : pm_cok2 (10229, 0, 155, 0) := ⟨by decide, Or.inl ⟨rfl, pm_in5 (i := 148) rfl rfl⟩, pm_in5 (i := 150) rfl rfl, pm_in0 (i := 19) (by decide +kernel) rfl⟩
theorem pm_l10220 : pm_cok2 (10220, 0, 191, 0) := ⟨by decide, Or.inl ⟨rfl, pm_in6 (i := 49) rfl rfl⟩, pm_in6 (i := 51) rfl rfl, pm_in0 (i := 50) (by decide +kernel) rfl⟩
theorem pm_l10213 : pm_cok2 (10213, 0, 188, 0) := ⟨by decide, Or.inl ⟨rfl, pm_in6 (i := 37) rfl rfl⟩, pm_in6 (i := 39) rfl rfl, pm_in0 (i := 47) (by decide +kernel) rfl⟩
theorem pm_l10207 : pm_cok2 (10207, 0, 190, 0) := ⟨by decide, Or.inl ⟨rfl, pm_in6 (i := 45) rfl rfl⟩, pm_in6 (i := 47) rfl rfl, pm_in0 (i := 49) (by decide +kernel) rfl⟩
theorem pm_l10204 : pm_cok2 (10204, 0, 189, 0) := ⟨by decide, Or.inl ⟨rfl, pm_in6 (i := 41) rfl rfl⟩, pm_in6 (i := 43) rfl rfl, pm_in0 (i := 48) (by decide +kernel) rfl⟩
theorem pm_l10192 : pm_cok2 (10192, 0, 163, 0) := ⟨by decide, Or.inl ⟨rfl, pm_in5 (i := 182) rfl rfl⟩, pm_in5 (i := 184) rfl rfl, pm_in0 (i := 27) (by decide +kernel) rfl⟩
theorem pm_l10186 : pm_cok2 (10186, 0, 185, 0) := ⟨by decide, Or.inl ⟨rfl, pm_in6 (i := 25) rfl rfl⟩, pm_in6 (i := 27) rfl rfl, pm_in0 (i := 44) (by decide +kernel) rfl⟩
theorem pm_l10183 : pm_cok2 (10183, 0, 183, 0) := ⟨by decide, Or.inl ⟨rfl, pm_in6 (i := 17) rfl rfl⟩, pm_in6 (i := 19) rfl rfl, pm_in0 (i := 42) (by decide +kernel) rfl⟩
theorem pm_l10180 : pm_cok2 (10180, 0, 181, 0) := ⟨by decide, Or.inl ⟨rfl, pm_in6 (i := 9) rfl rfl⟩, pm_in6 (i := 11) rfl rfl, pm_in0 (i := 40) (by decide +kernel) rfl⟩
theorem pm_l10177 : pm_cok2 (10177, 0, 180, 0) := ⟨by decide, Or.inl ⟨rfl, pm_in6 (i := 5) rfl rfl⟩, pm_in6 (i := 7) rfl rfl, pm_in0 (i := 39) (by decide +kernel) rfl⟩
theorem pm_l10174 : pm_cok2 (10174, 0, 175, 0) := ⟨by decide, Or.inl ⟨rfl, pm_in5 (i := 228) rfl rfl⟩, pm_in5 (i := 230) rfl rfl, pm_in0 (i := 37) (by decide +kernel) rfl⟩
theorem pm_l10171 : pm_cok2 (10171, 0, 174, 0) := ⟨by decide, Or.inl ⟨rfl, pm_in5 (i := 224) rfl rfl⟩, pm_in5 (i := 226) rfl rfl, pm_in0 (i := 36) (by decide +kernel) rfl⟩
theorem pm_l10168 : pm_cok2 (10168, 0, 165, 0) := ⟨by decide, Or.inl ⟨rfl, pm_in5 (i := 190) rfl rfl⟩, pm_in5 (i := 192) rfl rfl, pm_in0 (i := 29) (by decide +kernel) rfl⟩
theorem pm_l10165 : pm_cok2 (10165, 0, 186, 0) := ⟨by decide, Or.inl ⟨rfl, pm_in6 (i := 29) rfl rfl⟩, pm_in6 (i := 31) rfl rfl, pm_in0 (i := 45) (by decide +kernel) rfl⟩
theorem pm_l10162 : pm_cok2 (10162, 0, 184, 0) := ⟨by decide, Or.inl ⟨rfl, pm_in6 (i := 21) rfl rfl⟩, pm_in6 (i := 23) rfl rfl, pm_in0 (i := 43) (by decide +kernel) rfl⟩
theorem pm_l10158 : pm_cok2 (10158, 0, 182, 0) := ⟨by decide, Or.inl ⟨rfl, pm_in6 (i := 13) rfl rfl⟩, pm_in6 (i := 15) rfl rfl, pm_in0 (i := 41) (by decide +kernel) rfl⟩
theorem pm_l10155 : pm_cok2 (10155, 0, 173, 0) := ⟨by decide, Or.inl ⟨rfl, pm_in5 (i := 220) rfl rfl⟩, pm_in5 (i := 222) rfl rfl, pm_in0 (i := 35) (by decide +kernel) rfl⟩
theorem pm_l10152 : pm_cok2 (10152, 0, 164, 0) := ⟨by decide, Or.inl ⟨rfl, pm_in5 (i := 186) rfl rfl⟩, pm_in5 (i := 188) rfl rfl, pm_in0 (i := 28) (by decide +kernel) rfl⟩
theorem pm_l10149 : pm_cok2 (10149, 0, 172, 0) := ⟨by decide, Or.inl ⟨rfl, pm_in5 (i := 216) rfl rfl⟩, pm_in5 (i := 218) rfl rfl, pm_in0 (i := 34) (by decide +kernel) rfl⟩
theorem pm_l10136 : pm_cok2 (10136, 0, 170, 0) := ⟨by decide, Or.inl ⟨rfl, pm_in5 (i := 208) rfl rfl⟩, pm_in5 (i := 210) rfl rfl, pm_in0 (i := 32) (by decide +kernel) rfl⟩
theorem pm_l10133 : pm_cok2 (10133, 0, 176, 0) := ⟨by decide, Or.inl ⟨rfl, pm_in5 (i := 232) rfl rfl⟩, pm_in5 (i := 234) rfl rfl, pm_in0 (i := 38) (by decide +kernel) rfl⟩
theorem pm_l10130 : pm_cok2 (10130, 0, 157, 0) := ⟨by decide, Or.inl ⟨rfl, pm_in5 (i := 156) rfl rfl⟩, pm_in5 (i := 158) rfl rfl, pm_in0 (i := 21) (by decide +kernel) rfl⟩
theorem pm_l10126 : pm_cok2 (10126, 0, 171, 0) := ⟨by decide, Or.inl ⟨rfl, pm_in5 (i := 212) rfl rfl⟩, pm_in5 (i := 214) rfl rfl, pm_in0 (i := 33) (by decide +kernel) rfl⟩
theorem pm_l10123 : pm_cok2 (10123, 0, 158, 0) := ⟨by decide, Or.inl ⟨rfl, pm_in5 (i := 160) rfl rfl⟩, pm_in5 (i := 162) rfl rfl, pm_in0 (i := 22) (by decide +kernel) rfl⟩
theorem pm_l10120 : pm_cok2 (10120, 0, 167, 0) := ⟨by decide, Or.inl ⟨rfl, pm_in5 (i := 198) rfl rfl⟩, pm_in5 (i := 200) rfl rfl, pm_in0 (i := 31) (by decide +kernel) rfl⟩
theorem pm_l10116 : pm_cok2 (10116, 0, 166, 0) := ⟨by decide, Or.inl ⟨rfl, pm_in5 (i := 194) rfl rfl⟩, pm_in5 (i := 196) rfl rfl, pm_in0 (i := 30) (by decide +kernel) rfl⟩
theorem pm_l10107 : pm_cok2 (10107, 1, 168, 0) := ⟨by decide, Or.inl ⟨rfl, pm_in5 (i := 202) rfl rfl⟩, pm_in5 (i := 203) rfl rfl⟩
theorem pm_l10103 : pm_cok2 (10103, 1, 177, 0) := ⟨by decide, Or.inl ⟨rfl, pm_in5 (i := 236) rfl rfl⟩, pm_in5 (i := 237) rfl rfl⟩
theorem pm_l10099 : pm_cok2 (10099, 1, 179, 0) := ⟨by decide, Or.inl ⟨rfl, pm_in6 (i := 2) rfl rfl⟩, pm_in6 (i := 3) rfl rfl⟩
theorem pm_l10092 : pm_cok2 (10092, 1, 178, 0) := ⟨by decide, Or.inl ⟨rfl, pm_in5 (i := 239) rfl rfl⟩, pm_in6 (i := 0) rfl rfl⟩
theorem pm_l10088 : pm_cok2 (10088, 1, 169, 0) := ⟨by decide, Or.inl ⟨rfl, pm_in5 (i := 205) rfl rfl⟩, pm_in5 (i := 206) rfl rfl⟩
theorem pm_l10001 : pm_cok2 (10001, 3, 0, 0) := pm_in4 (i := 229) rfl rfl
theorem pm_l9090 : pm_cok2 (9090, 1, 27, 0) := ⟨by decide, Or.inl ⟨rfl, pm_in3 (i := 100) rfl rfl⟩, pm_in3 (i := 36) rfl rfl⟩
theorem pm_l9087 : pm_cok2 (9087, 0, 126, 0) := ⟨by decide, Or.inl ⟨rfl, pm_in3 (i := 66) rfl rfl⟩, pm_in3 (i := 67) rfl rfl, pm_in3 (i := 68) rfl rfl⟩
theorem pm_l9084 : pm_cok2 (9084, 0, 120, 0) := ⟨by decide, Or.inl ⟨rfl, pm_in3 (i := 65) rfl rfl⟩, pm_in3 (i := 5) rfl rfl, pm_in3 (i := 6) rfl rfl⟩
theorem pm_l9078 : pm_cok2 (9078, 4, 0, 0) := pm_in3 (i := 216) rfl rfl
theorem pm_l9054 : pm_cok2 (9054, 0, 36, 0) := ⟨by decide, Or.inl ⟨rfl, pm_in2 (i := 184) rfl rfl⟩, pm_in2 (i := 185) rfl rfl, pm_in2 (i := 186) rfl rfl⟩
theorem pm_l9044 : pm_cok2 (9044, 0, 117, 0) := ⟨by decide, Or.inl ⟨rfl, pm_in2 (i := 180) rfl rfl⟩, pm_in2 (i := 182) rfl rfl, pm_in0 (i := 0) (by decide +kernel) rfl⟩
theorem pm_l9035 : pm_cok2 (9035, 2, 35, 1) := ⟨by decide, Or.inr ⟨rfl, List.mem_of_getElem? (i := 1) rfl⟩, pm_in1 (i := 34) rfl rfl, rfl, rfl⟩
theorem pm_l9003 : pm_cok2 (9003, 3, 0, 0) := pm_in1 (i := 30) rfl rfl
theorem pm_l8058 : pm_cok2 (8058, 1, 210, 0) := ⟨by decide, Or.inl ⟨rfl, pm_in4 (i := 42) rfl rfl⟩, pm_in3 (i := 51) rfl rfl⟩
theorem pm_l8053 : pm_cok2 (8053, 1, 209, 0) := ⟨by decide, Or.inl ⟨rfl, pm_in4 (i := 41) rfl rfl⟩, pm_in3 (i := 33) rfl rfl⟩
theorem pm_l8049 : pm_cok2 (8049, 1, 113, 0) := ⟨by decide, Or.inl ⟨rfl, pm_in4 (i := 38) rfl rfl⟩, pm_in4 (i := 39) rfl rfl⟩
theorem pm_l8046 : pm_cok2 (8046, 0, 34, 0) := ⟨by decide, Or.inl ⟨rfl, pm_in4 (i := 14) rfl rfl⟩, pm_in4 (i := 15) rfl rfl, pm_in4 (i := 16) rfl rfl⟩
theorem pm_l8043 : pm_cok2 (8043, 0, 111, 0) := ⟨by decide, Or.inl ⟨rfl, pm_in4 (i := 10) rfl rfl⟩, pm_in4 (i := 12) rfl rfl, pm_in0 (i := 14) (by decide +kernel) rfl⟩
theorem pm_l8040 : pm_cok2 (8040, 0, 33, 0) := ⟨by decide, Or.inl ⟨rfl, pm_in4 (i := 6) rfl rfl⟩, pm_in4 (i := 7) rfl rfl, pm_in4 (i := 8) rfl rfl⟩
theorem pm_l8037 : pm_cok2 (8037, 0, 31, 0) := ⟨by decide, Or.inl ⟨rfl, pm_in3 (i := 238) rfl rfl⟩, pm_in3 (i := 239) rfl rfl, pm_in4 (i := 0) rfl rfl⟩
theorem pm_l8027 : pm_cok2 (8027, 5, 0, 0) := pm_in3 (i := 237) rfl rfl
theorem pm_l8021 : pm_cok2 (8021, 0, 28, 0) := ⟨by decide, Or.inl ⟨rfl, pm_in3 (i := 236) rfl rfl⟩, pm_in3 (i := 39) rfl rfl, pm_in3 (i := 40) rfl rfl⟩
theorem pm_l8005 : pm_cok2 (8005, 3, 0, 0) := pm_in1 (i := 117) rfl rfl
theorem pm_l7083 : pm_cok2 (7083, 0, 41, 0) := ⟨by decide, Or.inl ⟨rfl, pm_in4 (i := 44) rfl rfl⟩, pm_in4 (i := 45) rfl rfl, pm_in4 (i := 46) rfl rfl⟩
theorem pm_l7079 : pm_cok2 (7079, 1, 66, 0) := ⟨by decide, Or.inl ⟨rfl, pm_in4 (i := 43) rfl rfl⟩, pm_in3 (i := 194) rfl rfl⟩
theorem pm_l7075 : pm_cok2 (7075, 0, 112, 0) := ⟨by decide, Or.inl ⟨rfl, pm_in4 (i := 34) rfl rfl⟩, pm_in4 (i := 35) rfl rfl, pm_in4 (i := 36) rfl rfl⟩
theorem pm_l7072 : pm_cok2 (7072, 1, 40, 0) := ⟨by decide, Or.inl ⟨rfl, pm_in4 (i := 31) rfl rfl⟩, pm_in4 (i := 32) rfl rfl⟩
theorem pm_l7068 : pm_cok2 (7068, 1, 39, 0) := ⟨by decide, Or.inl ⟨rfl, pm_in4 (i := 28) rfl rfl⟩, pm_in4 (i := 29) rfl rfl⟩
theorem pm_l7064 : pm_cok2 (7064, 0, 38, 0) := ⟨by decide, Or.inl ⟨rfl, pm_in4 (i := 24) rfl rfl⟩, pm_in4 (i := 25) rfl rfl, pm_in4 (i := 26) rfl rfl⟩
theorem pm_l7055 : pm_cok2 (7055, 0, 37, 0) := ⟨by decide, Or.inl ⟨rfl, pm_in4 (i := 20) rfl rfl⟩, pm_in4 (i := 21) rfl rfl, pm_in4 (i := 22) rfl rfl⟩
theorem pm_l7049 : pm_cok2 (7049, 1, 213, 0) := ⟨by decide, Or.inl ⟨rfl, pm_in4 (i := 19) rfl rfl⟩, pm_in2 (i := 162) rfl rfl⟩
theorem pm_l7046 : pm_cok2 (7046, 1, 65, 0) := ⟨by decide, Or.inl ⟨rfl, pm_in4 (i := 18) rfl rfl⟩, pm_in3 (i := 189) rfl rfl⟩
theorem pm_l7042 : pm_cok2 (7042, 0, 110, 0) := ⟨by decide, Or.inl ⟨rfl, pm_in3 (i := 232) rfl rfl⟩, pm_in3 (i := 233) rfl rfl, pm_in3 (i := 234) rfl rfl⟩
theorem pm_l7038 : pm_cok2 (7038, 1, 63, 0) := ⟨by decide, Or.inl ⟨rfl, pm_in3 (i := 231) rfl rfl⟩, pm_in3 (i := 183) rfl rfl⟩
theorem pm_l7031 : pm_cok2 (7031, 2, 35, 1) := ⟨by decide, Or.inr ⟨rfl, List.mem_of_getElem? (i := 9) rfl⟩, pm_in1 (i := 34) rfl rfl, rfl, rfl⟩
theorem pm_l7023 : pm_cok2 (7023, 2, 109, 1) := ⟨by decide, Or.inr ⟨rfl, List.mem_of_getElem? (i := 8) rfl⟩, pm_in1 (i := 115) rfl rfl, rfl, rfl⟩
theorem pm_l7003 : pm_cok2 (7003, 3, 0, 0) := pm_in2 (i := 1) rfl rfl
theorem pm_l6199 : pm_cok2 (6199, 0, 142, 0) := ⟨by decide, Or.inl ⟨rfl, pm_in4 (i := 81) rfl rfl⟩, pm_in4 (i := 82) rfl rfl, pm_in4 (i := 83) rfl rfl⟩
theorem pm_l6195 : pm_cok2 (6195, 0, 108, 0) := ⟨by decide, Or.inl ⟨rfl, pm_in4 (i := 77) rfl rfl⟩, pm_in4 (i := 78) rfl rfl, pm_in4 (i := 79) rfl rfl⟩
theorem pm_l6189 : pm_cok2 (6189, 0, 42, 0) := ⟨by decide, Or.inl ⟨rfl, pm_in4 (i := 71) rfl rfl⟩, pm_in4 (i := 72) rfl rfl, pm_in4 (i := 73) rfl rfl⟩
theorem pm_l6185 : pm_cok2 (6185, 0, 107, 0) := ⟨by decide, Or.inl ⟨rfl, pm_in4 (i := 67) rfl rfl⟩, pm_in4 (i := 68) rfl rfl, pm_in4 (i := 69) rfl rfl⟩
theorem pm_l6178 : pm_cok2 (6178, 0, 141, 0) := ⟨by decide, Or.inl ⟨rfl, pm_in4 (i := 63) rfl rfl⟩, pm_in4 (i := 64) rfl rfl, pm_in4 (i := 65) rfl rfl⟩
theorem pm_l6174 : pm_cok2 (6174, 0, 93, 0) := ⟨by decide, Or.inl ⟨rfl, pm_in4 (i := 59) rfl rfl⟩, pm_in4 (i := 60) rfl rfl, pm_in4 (i := 61) rfl rfl⟩
theorem pm_l6171 : pm_cok2 (6171, 0, 123, 0) := ⟨by decide, Or.inl ⟨rfl, pm_in4 (i := 76) rfl rfl⟩, pm_in3 (i := 54) rfl rfl, pm_in3 (i := 55) rfl rfl⟩
theorem pm_l6167 : pm_cok2 (6167, 0, 99, 0) := ⟨by decide, Or.inl ⟨rfl, pm_in4 (i := 55) rfl rfl⟩, pm_in4 (i := 57) rfl rfl, pm_in0 (i := 15) (by decide +kernel) rfl⟩
theorem pm_l6163 : pm_cok2 (6163, 0, 106, 0) := ⟨by decide, Or.inl ⟨rfl, pm_in4 (i := 51) rfl rfl⟩, pm_in4 (i := 52) rfl rfl, pm_in4 (i := 53) rfl rfl⟩
theorem pm_l6160 : pm_cok2 (6160, 1, 70, 0) := ⟨by decide, Or.inl ⟨rfl, pm_in4 (i := 48) rfl rfl⟩, pm_in4 (i := 49) rfl rfl⟩
theorem pm_l6156 : pm_cok2 (6156, 0, 105, 0) := ⟨by decide, Or.inl ⟨rfl, pm_in3 (i := 227) rfl rfl⟩, pm_in3 (i := 228) rfl rfl, pm_in3 (i := 229) rfl rfl⟩
theorem pm_l6152 : pm_cok2 (6152, 1, 53, 0) := ⟨by decide, Or.inl ⟨rfl, pm_in3 (i := 226) rfl rfl⟩, pm_in3 (i := 102) rfl rfl⟩
theorem pm_l6149 : pm_cok2 (6149, 0, 58, 0) := ⟨by decide, Or.inl ⟨rfl, pm_in3 (i := 146) rfl rfl⟩, pm_in3 (i := 147) rfl rfl, pm_in3 (i := 148) rfl rfl⟩
theorem pm_l6145 : pm_cok2 (6145, 0, 118, 0) := ⟨by decide, Or.inl ⟨rfl, pm_in3 (i := 145) rfl rfl⟩, pm_in2 (i := 216) rfl rfl, pm_in2 (i := 217) rfl rfl⟩
theorem pm_l6141 : pm_cok2 (6141, 0, 57, 0) := ⟨by decide, Or.inl ⟨rfl, pm_in3 (i := 133) rfl rfl⟩, pm_in3 (i := 134) rfl rfl, pm_in3 (i := 135) rfl rfl⟩
theorem pm_l6137 : pm_cok2 (6137, 0, 98, 0) := ⟨by decide, Or.inl ⟨rfl, pm_in3 (i := 222) rfl rfl⟩, pm_in3 (i := 224) rfl rfl, pm_in0 (i := 12) (by decide +kernel) rfl⟩
theorem pm_l6133 : pm_cok2 (6133, 0, 97, 0) := ⟨by decide, Or.inl ⟨rfl, pm_in3 (i := 129) rfl rfl⟩, pm_in3 (i := 131) rfl rfl, pm_in0 (i := 9) (by decide +kernel) rfl⟩
theorem pm_l6129 : pm_cok2 (6129, 0, 48, 0) := ⟨by decide, Or.inl ⟨rfl, pm_in2 (i := 228) rfl rfl⟩, pm_in2 (i := 229) rfl rfl, pm_in2 (i := 230) rfl rfl⟩
theorem pm_l6125 : pm_cok2 (6125, 0, 47, 0) := ⟨by decide, Or.inl ⟨rfl, pm_in2 (i := 219) rfl rfl⟩, pm_in2 (i := 220) rfl rfl, pm_in2 (i := 221) rfl rfl⟩
theorem pm_l6118 : pm_cok2 (6118, 0, 89, 0) := ⟨by decide, Or.inl ⟨rfl, pm_in2 (i := 197) rfl rfl⟩, pm_in2 (i := 198) rfl rfl, pm_in2 (i := 199) rfl rfl⟩
theorem pm_l6108 : pm_cok2 (6108, 5, 0, 0) := pm_in2 (i := 193) rfl rfl
theorem pm_l6105 : pm_cok2 (6105, 0, 116, 0) := ⟨by decide, Or.inl ⟨rfl, pm_in2 (i := 176) rfl rfl⟩, pm_in2 (i := 177) rfl rfl, pm_in2 (i := 178) rfl rfl⟩
theorem pm_l6102 : pm_cok2 (6102, 0, 88, 0) := ⟨by decide, Or.inl ⟨rfl, pm_in2 (i := 172) rfl rfl⟩, pm_in2 (i := 173) rfl rfl, pm_in2 (i := 174) rfl rfl⟩
theorem pm_l6098 : pm_cok2 (6098, 0, 87, 0) := ⟨by decide, Or.inl ⟨rfl, pm_in2 (i := 168) rfl rfl⟩, pm_in2 (i := 169) rfl rfl, pm_in2 (i := 170) rfl rfl⟩
theorem pm_l6093 : pm_cok2 (6093, 0, 23, 0) := ⟨by decide, Or.inl ⟨rfl, pm_in2 (i := 164) rfl rfl⟩, pm_in2 (i := 165) rfl rfl, pm_in2 (i := 166) rfl rfl⟩
theorem pm_l6071 : pm_cok2 (6071, 1, 213, 0) := ⟨by decide, Or.inl ⟨rfl, pm_in2 (i := 161) rfl rfl⟩, pm_in2 (i := 162) rfl rfl⟩
theorem pm_l6055 : pm_cok2 (6055, 2, 115, 1) := ⟨by decide, Or.inr ⟨rfl, List.mem_of_getElem? (i := 10) rfl⟩, pm_in1 (i := 28) rfl rfl, rfl, rfl⟩
theorem pm_l6046 : pm_cok2 (6046, 2, 104, 0) := ⟨by decide, Or.inl ⟨rfl, pm_in1 (i := 238) rfl rfl⟩, pm_in1 (i := 239) rfl rfl, rfl, rfl⟩
theorem pm_l6030 : pm_cok2 (6030, 2, 86, 1) := ⟨by decide, Or.inr ⟨rfl, List.mem_of_getElem? (i := 7) rfl⟩, pm_in1 (i := 221) rfl rfl, rfl, rfl⟩
theorem pm_l6011 : pm_cok2 (6011, 2, 46, 1) := ⟨by decide, Or.inr ⟨rfl, List.mem_of_getElem? (i := 4) rfl⟩, pm_in1 (i := 143) rfl rfl, rfl, rfl⟩
theorem pm_l6003 : pm_cok2 (6003, 3, 0, 0) := pm_in1 (i := 139) rfl rfl
theorem pm_l5041 : pm_cok2 (5041, 0, 118, 0) := ⟨by decide, Or.inl ⟨rfl, pm_in2 (i := 215) rfl rfl⟩, pm_in2 (i := 216) rfl rfl, pm_in2 (i := 217) rfl rfl⟩
theorem pm_l5032 : pm_cok2 (5032, 0, 92, 0) := ⟨by decide, Or.inl ⟨rfl, pm_in2 (i := 211) rfl rfl⟩, pm_in2 (i := 213) rfl rfl, pm_in0 (i := 3) (by decide +kernel) rfl⟩
theorem pm_l5026 : pm_cok2 (5026, 0, 91, 0) := ⟨by decide, Or.inl ⟨rfl, pm_in2 (i := 205) rfl rfl⟩, pm_in2 (i := 207) rfl rfl, pm_in0 (i := 2) (by decide +kernel) rfl⟩
theorem pm_l5022 : pm_cok2 (5022, 0, 90, 0) := ⟨by decide, Or.inl ⟨rfl, pm_in2 (i := 201) rfl rfl⟩, pm_in2 (i := 203) rfl rfl, pm_in0 (i := 1) (by decide +kernel) rfl⟩
theorem pm_l5003 : pm_cok2 (5003, 3, 0, 0) := pm_in1 (i := 223) rfl rfl
theorem pm_l4051 : pm_cok2 (4051, 0, 74, 0) := ⟨by decide, Or.inl ⟨rfl, pm_in2 (i := 156) rfl rfl⟩, pm_in2 (i := 126) rfl rfl, pm_in2 (i := 127) rfl rfl⟩
theorem pm_l4047 : pm_cok2 (4047, 1, 77, 0) := ⟨by decide, Or.inl ⟨rfl, pm_in2 (i := 137) rfl rfl⟩, pm_in2 (i := 138) rfl rfl⟩
theorem pm_l4039 : pm_cok2 (4039, 1, 2, 1) := ⟨by decide, Or.inr ⟨rfl, List.mem_of_getElem? (i := 11) rfl⟩, pm_in2 (i := 115) rfl rfl⟩
theorem pm_l4003 : pm_cok2 (4003, 3, 0, 0) := pm_in1 (i := 151) rfl rfl
theorem pm_l3230 : pm_cok2 (3230, 0, 82, 0) := ⟨by decide, Or.inl ⟨rfl, pm_in3 (i := 78) rfl rfl⟩, pm_in3 (i := 79) rfl rfl, pm_in3 (i := 80) rfl rfl⟩
theorem pm_l3224 : pm_cok2 (3224, 0, 128, 0) := ⟨by decide, Or.inl ⟨rfl, pm_in3 (i := 84) rfl rfl⟩, pm_in3 (i := 85) rfl rfl, pm_in3 (i := 86) rfl rfl⟩
theorem pm_l3221 : pm_cok2 (3221, 1, 69, 0) := ⟨by decide, Or.inl ⟨rfl, pm_in3 (i := 219) rfl rfl⟩, pm_in3 (i := 220) rfl rfl⟩
theorem pm_l3218 : pm_cok2 (3218, 0, 140, 0) := ⟨by decide, Or.inl ⟨rfl, pm_in3 (i := 212) rfl rfl⟩, pm_in3 (i := 213) rfl rfl, pm_in3 (i := 214) rfl rfl⟩
theorem pm_l3215 : pm_cok2 (3215, 0, 139, 0) := ⟨by decide, Or.inl ⟨rfl, pm_in3 (i := 208) rfl rfl⟩, pm_in3 (i := 209) rfl rfl, pm_in3 (i := 210) rfl rfl⟩
theorem pm_l3212 : pm_cok2 (3212, 0, 138, 0) := ⟨by decide, Or.inl ⟨rfl, pm_in3 (i := 200) rfl rfl⟩, pm_in3 (i := 201) rfl rfl, pm_in3 (i := 202) rfl rfl⟩
theorem pm_l3209 : pm_cok2 (3209, 0, 126, 0) := ⟨by decide, Or.inl ⟨rfl, pm_in3 (i := 83) rfl rfl⟩, pm_in3 (i := 67) rfl rfl, pm_in3 (i := 68) rfl rfl⟩
theorem pm_l3205 : pm_cok2 (3205, 0, 30, 0) := ⟨by decide, Or.inl ⟨rfl, pm_in3 (i := 46) rfl rfl⟩, pm_in3 (i := 47) rfl rfl, pm_in3 (i := 48) rfl rfl⟩
theorem pm_l3202 : pm_cok2 (3202, 0, 24, 0) := ⟨by decide, Or.inl ⟨rfl, pm_in3 (i := 22) rfl rfl⟩, pm_in3 (i := 23) rfl rfl, pm_in3 (i := 24) rfl rfl⟩
theorem pm_l3199 : pm_cok2 (3199, 0, 134, 0) := ⟨by decide, Or.inl ⟨rfl, pm_in3 (i := 125) rfl rfl⟩, pm_in3 (i := 126) rfl rfl, pm_in3 (i := 127) rfl rfl⟩
theorem pm_l3196 : pm_cok2 (3196, 0, 133, 0) := ⟨by decide, Or.inl ⟨rfl, pm_in3 (i := 121) rfl rfl⟩, pm_in3 (i := 122) rfl rfl, pm_in3 (i := 123) rfl rfl⟩
theorem pm_l3192 : pm_cok2 (3192, 0, 132, 0) := ⟨by decide, Or.inl ⟨rfl, pm_in3 (i := 117) rfl rfl⟩, pm_in3 (i := 118) rfl rfl, pm_in3 (i := 119) rfl rfl⟩
theorem pm_l3189 : pm_cok2 (3189, 0, 125, 0) := ⟨by decide, Or.inl ⟨rfl, pm_in3 (i := 61) rfl rfl⟩, pm_in3 (i := 62) rfl rfl, pm_in3 (i := 63) rfl rfl⟩
theorem pm_l3186 : pm_cok2 (3186, 0, 130, 0) := ⟨by decide, Or.inl ⟨rfl, pm_in3 (i := 96) rfl rfl⟩, pm_in3 (i := 97) rfl rfl, pm_in3 (i := 98) rfl rfl⟩
theorem pm_l3183 : pm_cok2 (3183, 0, 129, 0) := ⟨by decide, Or.inl ⟨rfl, pm_in3 (i := 92) rfl rfl⟩, pm_in3 (i := 93) rfl rfl, pm_in3 (i := 94) rfl rfl⟩
theorem pm_l3180 : pm_cok2 (3180, 1, 56, 0) := ⟨by decide, Or.inl ⟨rfl, pm_in3 (i := 114) rfl rfl⟩, pm_in3 (i := 115) rfl rfl⟩
theorem pm_l3177 : pm_cok2 (3177, 0, 52, 0) := ⟨by decide, Or.inl ⟨rfl, pm_in3 (i := 88) rfl rfl⟩, pm_in3 (i := 90) rfl rfl, pm_in0 (i := 8) (by decide +kernel) rfl⟩
theorem pm_l3174 : pm_cok2 (3174, 0, 121, 0) := ⟨by decide, Or.inl ⟨rfl, pm_in3 (i := 8) rfl rfl⟩, pm_in3 (i := 9) rfl rfl, pm_in3 (i := 10) rfl rfl⟩
theorem pm_l3170 : pm_cok2 (3170, 0, 120, 0) := ⟨by decide, Or.inl ⟨rfl, pm_in3 (i := 4) rfl rfl⟩, pm_in3 (i := 5) rfl rfl, pm_in3 (i := 6) rfl rfl⟩
theorem pm_l3167 : pm_cok2 (3167, 1, 64, 0) := ⟨by decide, Or.inl ⟨rfl, pm_in3 (i := 185) rfl rfl⟩, pm_in3 (i := 186) rfl rfl⟩
theorem pm_l3164 : pm_cok2 (3164, 0, 131, 0) := ⟨by decide, Or.inl ⟨rfl, pm_in3 (i := 110) rfl rfl⟩, pm_in3 (i := 111) rfl rfl, pm_in3 (i := 112) rfl rfl⟩
theorem pm_l3161 : pm_cok2 (3161, 0, 122, 0) := ⟨by decide, Or.inl ⟨rfl, pm_in3 (i := 18) rfl rfl⟩, pm_in3 (i := 19) rfl rfl, pm_in3 (i := 20) rfl rfl⟩
theorem pm_l3158 : pm_cok2 (3158, 1, 61, 0) := ⟨by decide, Or.inl ⟨rfl, pm_in3 (i := 176) rfl rfl⟩, pm_in3 (i := 177) rfl rfl⟩
theorem pm_l3155 : pm_cok2 (3155, 1, 60, 0) := ⟨by decide, Or.inl ⟨rfl, pm_in3 (i := 173) rfl rfl⟩, pm_in3 (i := 174) rfl rfl⟩
theorem pm_l3152 : pm_cok2 (3152, 0, 137, 0) := ⟨by decide, Or.inl ⟨rfl, pm_in3 (i := 169) rfl rfl⟩, pm_in3 (i := 170) rfl rfl, pm_in3 (i := 171) rfl rfl⟩
theorem pm_l3149 : pm_cok2 (3149, 0, 136, 0) := ⟨by decide, Or.inl ⟨rfl, pm_in3 (i := 165) rfl rfl⟩, pm_in3 (i := 166) rfl rfl, pm_in3 (i := 167) rfl rfl⟩
theorem pm_l3146 : pm_cok2 (3146, 0, 85, 0) := ⟨by decide, Or.inl ⟨rfl, pm_in3 (i := 161) rfl rfl⟩, pm_in3 (i := 162) rfl rfl, pm_in3 (i := 163) rfl rfl⟩
theorem pm_l3143 : pm_cok2 (3143, 0, 84, 0) := ⟨by decide, Or.inl ⟨rfl, pm_in3 (i := 157) rfl rfl⟩, pm_in3 (i := 158) rfl rfl, pm_in3 (i := 159) rfl rfl⟩
theorem pm_l3133 : pm_cok2 (3133, 0, 68, 0) := ⟨by decide, Or.inl ⟨rfl, pm_in3 (i := 204) rfl rfl⟩, pm_in3 (i := 206) rfl rfl, pm_in0 (i := 11) (by decide +kernel) rfl⟩
theorem pm_l3130 : pm_cok2 (3130, 0, 50, 0) := ⟨by decide, Or.inl ⟨rfl, pm_in3 (i := 12) rfl rfl⟩, pm_in3 (i := 14) rfl rfl, pm_in0 (i := 5) (by decide +kernel) rfl⟩
theorem pm_l3127 : pm_cok2 (3127, 1, 67, 0) := ⟨by decide, Or.inl ⟨rfl, pm_in3 (i := 197) rfl rfl⟩, pm_in3 (i := 198) rfl rfl⟩
theorem pm_l3123 : pm_cok2 (3123, 0, 48, 0) := ⟨by decide, Or.inl ⟨rfl, pm_in3 (i := 196) rfl rfl⟩, pm_in2 (i := 229) rfl rfl, pm_in2 (i := 230) rfl rfl⟩
theorem pm_l3119 : pm_cok2 (3119, 1, 66, 0) := ⟨by decide, Or.inl ⟨rfl, pm_in3 (i := 193) rfl rfl⟩, pm_in3 (i := 194) rfl rfl⟩
theorem pm_l3116 : pm_cok2 (3116, 1, 53, 0) := ⟨by decide, Or.inl ⟨rfl, pm_in3 (i := 101) rfl rfl⟩, pm_in3 (i := 102) rfl rfl⟩
theorem pm_l3113 : pm_cok2 (3113, 1, 26, 0) := ⟨by decide, Or.inl ⟨rfl, pm_in3 (i := 192) rfl rfl⟩, pm_in3 (i := 30) rfl rfl⟩
theorem pm_l3110 : pm_cok2 (3110, 1, 25, 0) := ⟨by decide, Or.inl ⟨rfl, pm_in3 (i := 191) rfl rfl⟩, pm_in3 (i := 27) rfl rfl⟩
theorem pm_l3107 : pm_cok2 (3107, 1, 65, 0) := ⟨by decide, Or.inl ⟨rfl, pm_in3 (i := 188) rfl rfl⟩, pm_in3 (i := 189) rfl rfl⟩
theorem pm_l3104 : pm_cok2 (3104, 1, 63, 0) := ⟨by decide, Or.inl ⟨rfl, pm_in3 (i := 182) rfl rfl⟩, pm_in3 (i := 183) rfl rfl⟩
theorem pm_l3101 : pm_cok2 (3101, 1, 62, 0) := ⟨by decide, Or.inl ⟨rfl, pm_in3 (i := 179) rfl rfl⟩, pm_in3 (i := 180) rfl rfl⟩
theorem pm_l3097 : pm_cok2 (3097, 0, 51, 0) := ⟨by decide, Or.inl ⟨rfl, pm_in3 (i := 70) rfl rfl⟩, pm_in3 (i := 72) rfl rfl, pm_in0 (i := 7) (by decide +kernel) rfl⟩
theorem pm_l3093 : pm_cok2 (3093, 1, 54, 0) := ⟨by decide, Or.inl ⟨rfl, pm_in3 (i := 104) rfl rfl⟩, pm_in3 (i := 105) rfl rfl⟩
theorem pm_l3089 : pm_cok2 (3089, 1, 55, 0) := ⟨by decide, Or.inl ⟨rfl, pm_in3 (i := 107) rfl rfl⟩, pm_in3 (i := 108) rfl rfl⟩
theorem pm_l3085 : pm_cok2 (3085, 0, 59, 0) := ⟨by decide, Or.inl ⟨rfl, pm_in3 (i := 151) rfl rfl⟩, pm_in3 (i := 153) rfl rfl, pm_in0 (i := 10) (by decide +kernel) rfl⟩
theorem pm_l3082 : pm_cok2 (3082, 0, 49, 0) := ⟨by decide, Or.inl ⟨rfl, pm_in2 (i := 232) rfl rfl⟩, pm_in2 (i := 234) rfl rfl, pm_in0 (i := 4) (by decide +kernel) rfl⟩
theorem pm_l3078 : pm_cok2 (3078, 0, 47, 0) := ⟨by decide, Or.inl ⟨rfl, pm_in3 (i := 150) rfl rfl⟩, pm_in2 (i := 220) rfl rfl, pm_in2 (i := 221) rfl rfl⟩
theorem pm_l3075 : pm_cok2 (3075, 0, 81, 0) := ⟨by decide, Or.inl ⟨rfl, pm_in2 (i := 236) rfl rfl⟩, pm_in2 (i := 237) rfl rfl, pm_in2 (i := 238) rfl rfl⟩
theorem pm_l3072 : pm_cok2 (3072, 0, 80, 0) := ⟨by decide, Or.inl ⟨rfl, pm_in2 (i := 224) rfl rfl⟩, pm_in2 (i := 225) rfl rfl, pm_in2 (i := 226) rfl rfl⟩
theorem pm_l3069 : pm_cok2 (3069, 0, 118, 0) := ⟨by decide, Or.inl ⟨rfl, pm_in2 (i := 223) rfl rfl⟩, pm_in2 (i := 216) rfl rfl, pm_in2 (i := 217) rfl rfl⟩
theorem pm_l3065 : pm_cok2 (3065, 0, 83, 0) := ⟨by decide, Or.inl ⟨rfl, pm_in3 (i := 141) rfl rfl⟩, pm_in3 (i := 142) rfl rfl, pm_in3 (i := 143) rfl rfl⟩
theorem pm_l3062 : pm_cok2 (3062, 0, 119, 0) := ⟨by decide, Or.inl ⟨rfl, pm_in3 (i := 0) rfl rfl⟩, pm_in3 (i := 1) rfl rfl, pm_in3 (i := 2) rfl rfl⟩
theorem pm_l3059 : pm_cok2 (3059, 0, 127, 0) := ⟨by decide, Or.inl ⟨rfl, pm_in3 (i := 74) rfl rfl⟩, pm_in3 (i := 75) rfl rfl, pm_in3 (i := 76) rfl rfl⟩
theorem pm_l3055 : pm_cok2 (3055, 0, 124, 0) := ⟨by decide, Or.inl ⟨rfl, pm_in3 (i := 57) rfl rfl⟩, pm_in3 (i := 58) rfl rfl, pm_in3 (i := 59) rfl rfl⟩
theorem pm_l3051 : pm_cok2 (3051, 0, 123, 0) := ⟨by decide, Or.inl ⟨rfl, pm_in3 (i := 53) rfl rfl⟩, pm_in3 (i := 54) rfl rfl, pm_in3 (i := 55) rfl rfl⟩
theorem pm_l3043 : pm_cok2 (3043, 0, 135, 0) := ⟨by decide, Or.inl ⟨rfl, pm_in3 (i := 137) rfl rfl⟩, pm_in3 (i := 138) rfl rfl, pm_in3 (i := 139) rfl rfl⟩
theorem pm_l3039 : pm_cok2 (3039, 0, 58, 0) := ⟨by decide, Or.inl ⟨rfl, pm_in4 (i := 207) rfl rfl⟩, pm_in3 (i := 147) rfl rfl, pm_in3 (i := 148) rfl rfl⟩
theorem pm_l3035 : pm_cok2 (3035, 0, 57, 0) := ⟨by decide, Or.inl ⟨rfl, pm_in4 (i := 206) rfl rfl⟩, pm_in3 (i := 134) rfl rfl, pm_in3 (i := 135) rfl rfl⟩
theorem pm_l3029 : pm_cok2 (3029, 0, 116, 0) := ⟨by decide, Or.inl ⟨rfl, pm_in4 (i := 205) rfl rfl⟩, pm_in2 (i := 177) rfl rfl, pm_in2 (i := 178) rfl rfl⟩
theorem pm_l3025 : pm_cok2 (3025, 1, 27, 0) := ⟨by decide, Or.inl ⟨rfl, pm_in3 (i := 82) rfl rfl⟩, pm_in3 (i := 36) rfl rfl⟩
theorem pm_l3020 : pm_cok2 (3020, 2, 22, 1) := ⟨by decide, Or.inr ⟨rfl, List.mem_of_getElem? (i := 6) rfl⟩, pm_in1 (i := 186) rfl rfl, rfl, rfl⟩
theorem pm_l3011 : pm_cok2 (3011, 2, 72, 1) := ⟨by decide, Or.inr ⟨rfl, List.mem_of_getElem? (i := 5) rfl⟩, pm_in1 (i := 149) rfl rfl, rfl, rfl⟩
theorem pm_l3003 : pm_cok2 (3003, 3, 0, 0) := pm_in1 (i := 145) rfl rfl
theorem pm_l2033 : pm_cok2 (2033, 0, 38, 0) := ⟨by decide, Or.inl ⟨rfl, pm_in4 (i := 170) rfl rfl⟩, pm_in4 (i := 25) rfl rfl, pm_in4 (i := 26) rfl rfl⟩
theorem pm_l2027 : pm_cok2 (2027, 1, 212, 0) := ⟨by decide, Or.inl ⟨rfl, pm_in4 (i := 114) rfl rfl⟩, pm_in4 (i := 115) rfl rfl⟩
theorem pm_l2021 : pm_cok2 (2021, 4, 0, 0) := pm_in4 (i := 75) rfl rfl
theorem pm_l2015 : pm_cok2 (2015, 1, 213, 0) := ⟨by decide, Or.inl ⟨rfl, pm_in2 (i := 188) rfl rfl⟩, pm_in2 (i := 162) rfl rfl⟩
theorem pm_l2003 : pm_cok2 (2003, 3, 0, 0) := pm_in1 (i := 36) rfl rfl
theorem pm_l1057 : pm_cok2 (1057, 1, 210, 0) := ⟨by decide, Or.inl ⟨rfl, pm_in3 (i := 50) rfl rfl⟩, pm_in3 (i := 51) rfl rfl⟩
theorem pm_l1053 : pm_cok2 (1053, 0, 29, 0) := ⟨by decide, Or.inl ⟨rfl, pm_in3 (i := 42) rfl rfl⟩, pm_in3 (i := 44) rfl rfl, pm_in0 (i := 6) (by decide +kernel) rfl⟩
theorem pm_l1050 : pm_cok2 (1050, 0, 28, 0) := ⟨by decide, Or.inl ⟨rfl, pm_in3 (i := 38) rfl rfl⟩, pm_in3 (i := 39) rfl rfl, pm_in3 (i := 40) rfl rfl⟩
theorem pm_l1047 : pm_cok2 (1047, 1, 27, 0) := ⟨by decide, Or.inl ⟨rfl, pm_in3 (i := 35) rfl rfl⟩, pm_in3 (i := 36) rfl rfl⟩
theorem pm_l1041 : pm_cok2 (1041, 1, 209, 0) := ⟨by decide, Or.inl ⟨rfl, pm_in3 (i := 32) rfl rfl⟩, pm_in3 (i := 33) rfl rfl⟩
theorem pm_l1037 : pm_cok2 (1037, 1, 26, 0) := ⟨by decide, Or.inl ⟨rfl, pm_in3 (i := 29) rfl rfl⟩, pm_in3 (i := 30) rfl rfl⟩
theorem pm_l1032 : pm_cok2 (1032, 1, 25, 0) := ⟨by decide, Or.inl ⟨rfl, pm_in3 (i := 26) rfl rfl⟩, pm_in3 (i := 27) rfl rfl⟩
theorem pm_l1028 : pm_cok2 (1028, 0, 32, 0) := ⟨by decide, Or.inl ⟨rfl, pm_in4 (i := 2) rfl rfl⟩, pm_in4 (i := 4) rfl rfl, pm_in0 (i := 13) (by decide +kernel) rfl⟩
theorem pm_l1005 : pm_cok2 (1005, 3, 0, 0) := pm_in1 (i := 188) rfl rfl
theorem pm_l237 : pm_cok2 (237, 1, 40, 0) := ⟨by decide, Or.inl ⟨rfl, pm_in4 (i := 219) rfl rfl⟩, pm_in4 (i := 32) rfl rfl⟩
theorem pm_l234 : pm_cok2 (234, 1, 39, 0) := ⟨by decide, Or.inl ⟨rfl, pm_in4 (i := 218) rfl rfl⟩, pm_in4 (i := 29) rfl rfl⟩
theorem pm_l231 : pm_cok2 (231, 0, 41, 0) := ⟨by decide, Or.inl ⟨rfl, pm_in4 (i := 220) rfl rfl⟩, pm_in4 (i := 45) rfl rfl, pm_in4 (i := 46) rfl rfl⟩
theorem pm_l227 : pm_cok2 (227, 0, 21, 0) := ⟨by decide, Or.inl ⟨rfl, pm_in4 (i := 214) rfl rfl⟩, pm_in4 (i := 216) rfl rfl, pm_in0 (i := 17) (by decide +kernel) rfl⟩
theorem pm_l224 : pm_cok2 (224, 0, 37, 0) := ⟨by decide, Or.inl ⟨rfl, pm_in4 (i := 213) rfl rfl⟩, pm_in4 (i := 21) rfl rfl, pm_in4 (i := 22) rfl rfl⟩
theorem pm_l221 : pm_cok2 (221, 1, 26, 0) := ⟨by decide, Or.inl ⟨rfl, pm_in4 (i := 208) rfl rfl⟩, pm_in3 (i := 30) rfl rfl⟩
theorem pm_l217 : pm_cok2 (217, 0, 71, 0) := ⟨by decide, Or.inl ⟨rfl, pm_in4 (i := 201) rfl rfl⟩, pm_in4 (i := 202) rfl rfl, pm_in4 (i := 203) rfl rfl⟩
theorem pm_l214 : pm_cok2 (214, 1, 77, 0) := ⟨by decide, Or.inl ⟨rfl, pm_in4 (i := 196) rfl rfl⟩, pm_in2 (i := 138) rfl rfl⟩
theorem pm_l207 : pm_cok2 (207, 0, 83, 0) := ⟨by decide, Or.inl ⟨rfl, pm_in4 (i := 195) rfl rfl⟩, pm_in3 (i := 142) rfl rfl, pm_in3 (i := 143) rfl rfl⟩
theorem pm_l204 : pm_cok2 (204, 0, 103, 0) := ⟨by decide, Or.inl ⟨rfl, pm_in4 (i := 187) rfl rfl⟩, pm_in4 (i := 188) rfl rfl, pm_in4 (i := 189) rfl rfl⟩
theorem pm_l201 : pm_cok2 (201, 0, 102, 0) := ⟨by decide, Or.inl ⟨rfl, pm_in4 (i := 183) rfl rfl⟩, pm_in4 (i := 184) rfl rfl, pm_in4 (i := 185) rfl rfl⟩
theorem pm_l198 : pm_cok2 (198, 0, 146, 0) := ⟨by decide, Or.inl ⟨rfl, pm_in4 (i := 175) rfl rfl⟩, pm_in4 (i := 176) rfl rfl, pm_in4 (i := 177) rfl rfl⟩
theorem pm_l195 : pm_cok2 (195, 0, 45, 0) := ⟨by decide, Or.inl ⟨rfl, pm_in4 (i := 166) rfl rfl⟩, pm_in4 (i := 167) rfl rfl, pm_in4 (i := 168) rfl rfl⟩
theorem pm_l192 : pm_cok2 (192, 0, 38, 0) := ⟨by decide, Or.inl ⟨rfl, pm_in4 (i := 161) rfl rfl⟩, pm_in4 (i := 25) rfl rfl, pm_in4 (i := 26) rfl rfl⟩
theorem pm_l189 : pm_cok2 (189, 1, 44, 0) := ⟨by decide, Or.inl ⟨rfl, pm_in4 (i := 158) rfl rfl⟩, pm_in4 (i := 159) rfl rfl⟩
theorem pm_l186 : pm_cok2 (186, 0, 112, 0) := ⟨by decide, Or.inl ⟨rfl, pm_in4 (i := 153) rfl rfl⟩, pm_in4 (i := 35) rfl rfl, pm_in4 (i := 36) rfl rfl⟩
theorem pm_l183 : pm_cok2 (183, 1, 13, 0) := ⟨by decide, Or.inl ⟨rfl, pm_in4 (i := 150) rfl rfl⟩, pm_in4 (i := 151) rfl rfl⟩
theorem pm_l180 : pm_cok2 (180, 0, 114, 0) := ⟨by decide, Or.inl ⟨rfl, pm_in4 (i := 142) rfl rfl⟩, pm_in4 (i := 143) rfl rfl, pm_in4 (i := 144) rfl rfl⟩
theorem pm_l173 : pm_cok2 (173, 0, 110, 0) := ⟨by decide, Or.inl ⟨rfl, pm_in4 (i := 141) rfl rfl⟩, pm_in3 (i := 233) rfl rfl, pm_in3 (i := 234) rfl rfl⟩
theorem pm_l170 : pm_cok2 (170, 0, 145, 0) := ⟨by decide, Or.inl ⟨rfl, pm_in4 (i := 133) rfl rfl⟩, pm_in4 (i := 134) rfl rfl, pm_in4 (i := 135) rfl rfl⟩
theorem pm_l167 : pm_cok2 (167, 0, 144, 0) := ⟨by decide, Or.inl ⟨rfl, pm_in4 (i := 129) rfl rfl⟩, pm_in4 (i := 130) rfl rfl, pm_in4 (i := 131) rfl rfl⟩
theorem pm_l164 : pm_cok2 (164, 0, 143, 0) := ⟨by decide, Or.inl ⟨rfl, pm_in4 (i := 125) rfl rfl⟩, pm_in4 (i := 126) rfl rfl, pm_in4 (i := 127) rfl rfl⟩
theorem pm_l159 : pm_cok2 (159, 0, 28, 0) := ⟨by decide, Or.inl ⟨rfl, pm_in4 (i := 120) rfl rfl⟩, pm_in3 (i := 39) rfl rfl, pm_in3 (i := 40) rfl rfl⟩
theorem pm_l153 : pm_cok2 (153, 0, 43, 0) := ⟨by decide, Or.inl ⟨rfl, pm_in4 (i := 110) rfl rfl⟩, pm_in4 (i := 111) rfl rfl, pm_in4 (i := 112) rfl rfl⟩
theorem pm_l131 : pm_cok2 (131, 0, 9, 0) := ⟨by decide, Or.inl ⟨rfl, pm_in4 (i := 106) rfl rfl⟩, pm_in4 (i := 108) rfl rfl, pm_in0 (i := 16) (by decide +kernel) rfl⟩
theorem pm_l127 : pm_cok2 (127, 0, 101, 0) := ⟨by decide, Or.inl ⟨rfl, pm_in4 (i := 102) rfl rfl⟩, pm_in4 (i := 103) rfl rfl, pm_in4 (i := 104) rfl rfl⟩
theorem pm_l124 : pm_cok2 (124, 0, 100, 0) := ⟨by decide, Or.inl ⟨rfl, pm_in4 (i := 98) rfl rfl⟩, pm_in4 (i := 99) rfl rfl, pm_in4 (i := 100) rfl rfl⟩
theorem pm_l100 : pm_cok2 (100, 5, 0, 0) := pm_in4 (i := 89) rfl rfl
theorem pm_l93 : pm_cok2 (93, 0, 96, 0) := ⟨by decide, Or.inl ⟨rfl, pm_in2 (i := 189) rfl rfl⟩, pm_in2 (i := 190) rfl rfl, pm_in2 (i := 191) rfl rfl⟩
theorem pm_l89 : pm_cok2 (89, 0, 95, 0) := ⟨by decide, Or.inl ⟨rfl, pm_in2 (i := 157) rfl rfl⟩, pm_in2 (i := 158) rfl rfl, pm_in2 (i := 159) rfl rfl⟩
theorem pm_l86 : pm_cok2 (86, 0, 79, 0) := ⟨by decide, Or.inl ⟨rfl, pm_in2 (i := 152) rfl rfl⟩, pm_in2 (i := 153) rfl rfl, pm_in2 (i := 154) rfl rfl⟩
theorem pm_l82 : pm_cok2 (82, 0, 78, 0) := ⟨by decide, Or.inl ⟨rfl, pm_in2 (i := 144) rfl rfl⟩, pm_in2 (i := 145) rfl rfl, pm_in2 (i := 146) rfl rfl⟩
theorem pm_l74 : pm_cok2 (74, 0, 76, 0) := ⟨by decide, Or.inl ⟨rfl, pm_in2 (i := 133) rfl rfl⟩, pm_in2 (i := 134) rfl rfl, pm_in2 (i := 135) rfl rfl⟩
theorem pm_l70 : pm_cok2 (70, 1, 75, 0) := ⟨by decide, Or.inl ⟨rfl, pm_in2 (i := 129) rfl rfl⟩, pm_in2 (i := 130) rfl rfl⟩
theorem pm_l66 : pm_cok2 (66, 0, 74, 0) := ⟨by decide, Or.inl ⟨rfl, pm_in2 (i := 125) rfl rfl⟩, pm_in2 (i := 126) rfl rfl, pm_in2 (i := 127) rfl rfl⟩
theorem pm_l60 : pm_cok2 (60, 0, 73, 0) := ⟨by decide, Or.inl ⟨rfl, pm_in2 (i := 117) rfl rfl⟩, pm_in2 (i := 118) rfl rfl, pm_in2 (i := 119) rfl rfl⟩
theorem pm_l56 : pm_cok2 (56, 1, 2, 0) := ⟨by decide, Or.inl ⟨rfl, pm_in2 (i := 114) rfl rfl⟩, pm_in2 (i := 115) rfl rfl⟩
theorem pm_l32 : pm_cok2 (32, 2, 94, 0) := ⟨by decide, Or.inl ⟨rfl, pm_in1 (i := 136) rfl rfl⟩, pm_in1 (i := 137) rfl rfl, rfl, rfl⟩
theorem pm_l25 : pm_cok2 (25, 2, 35, 1) := ⟨by decide, Or.inr ⟨rfl, List.mem_of_getElem? (i := 3) rfl⟩, pm_in1 (i := 34) rfl rfl, rfl, rfl⟩
theorem pm_l18 : pm_cok2 (18, 2, 109, 1) := ⟨by decide, Or.inr ⟨rfl, List.mem_of_getElem? (i := 2) rfl⟩, pm_in1 (i := 115) rfl rfl, rfl, rfl⟩
theorem pm_l11 : pm_cok2 (11, 2, 115, 1) := ⟨by decide, Or.inr ⟨rfl, List.mem_of_getElem? (i := 0) rfl⟩, pm_in1 (i := 28) rfl rfl, rfl, rfl⟩
theorem pm_l3 : pm_cok2 (3, 3, 0, 0) := pm_in1 (i := 22) rfl rfl
set_option maxRecDepth 100000 in
theorem pm_callall : ∀ q ∈ pm_cT, pm_cok2 q := List.forall_mem_cons.mpr ⟨pm_l3, List.forall_mem_cons.mpr ⟨pm_l11, List.forall_mem_cons.mpr ⟨pm_l18, List.forall_mem_cons.mpr ⟨pm_l25, List.forall_mem_cons.mpr ⟨pm_l32, List.forall_mem_cons.mpr ⟨pm_l56, List.forall_mem_cons.mpr ⟨pm_l60, List.forall_mem_cons.mpr ⟨pm_l66, List.forall_mem_cons.mpr ⟨pm_l70, List.forall_mem_cons.mpr ⟨pm_l74, List.forall_mem_cons.mpr ⟨pm_l82, List.forall_mem_cons.mpr ⟨pm_l86, List.forall_mem_cons.mpr ⟨pm_l89, List.forall_mem_cons.mpr ⟨pm_l93, List.forall_mem_cons.mpr ⟨pm_l100, List.forall_mem_cons.mpr ⟨pm_l124, List.forall_mem_cons.mpr ⟨pm_l127, List.forall_mem_cons.mpr ⟨pm_l131, List.forall_mem_cons.mpr ⟨pm_l153, List.forall_mem_cons.mpr ⟨pm_l159, List.forall_mem_cons.mpr ⟨pm_l164, List.forall_mem_cons.mpr ⟨pm_l167, List.forall_mem_cons.mpr ⟨pm_l170, List.forall_mem_cons.mpr ⟨pm_l173, List.forall_mem_cons.mpr ⟨pm_l180, List.forall_mem_cons.mpr ⟨pm_l183, List.forall_mem_cons.mpr ⟨pm_l186, List.forall_mem_cons.mpr ⟨pm_l189, List.forall_mem_cons.mpr ⟨pm_l192, List.forall_mem_cons.mpr ⟨pm_l195, List.forall_mem_cons.mpr ⟨pm_l198, List.forall_mem_cons.mpr ⟨pm_l201, List.forall_mem_cons.mpr ⟨pm_l204, List.forall_mem_cons.mpr ⟨pm_l207, List.forall_mem_cons.mpr ⟨pm_l214, List.forall_mem_cons.mpr ⟨pm_l217, List.forall_mem_cons.mpr ⟨pm_l221, List.forall_mem_cons.mpr ⟨pm_l224, List.forall_mem_cons.mpr ⟨pm_l227, List.forall_mem_cons.mpr ⟨pm_l231, List.forall_mem_cons.mpr ⟨pm_l234, List.forall_mem_cons.mpr ⟨pm_l237, List.forall_mem_cons.mpr ⟨pm_l1005, List.forall_mem_cons.mpr ⟨pm_l1028, List.forall_mem_cons.mpr ⟨pm_l1032, List.forall_mem_cons.mpr ⟨pm_l1037, List.forall_mem_cons.mpr ⟨pm_l1041, List.forall_mem_cons.mpr ⟨pm_l1047, List.forall_mem_cons.mpr ⟨pm_l1050, List.forall_mem_cons.mpr ⟨pm_l1053, List.forall_mem_cons.mpr ⟨pm_l1057, List.forall_mem_cons.mpr ⟨pm_l2003, List.forall_mem_cons.mpr ⟨pm_l2015, List.forall_mem_cons.mpr ⟨pm_l2021, List.forall_mem_cons.mpr ⟨pm_l2027, List.forall_mem_cons.mpr ⟨pm_l2033, List.forall_mem_cons.mpr ⟨pm_l3003, List.forall_mem_cons.mpr ⟨pm_l3011, List.forall_mem_cons.mpr ⟨pm_l3020, List.forall_mem_cons.mpr ⟨pm_l3025, List.forall_mem_cons.mpr ⟨pm_l3029, List.forall_mem_cons.mpr ⟨pm_l3035, List.forall_mem_cons.mpr ⟨pm_l3039, List.forall_mem_cons.mpr ⟨pm_l3043, List.forall_mem_cons.mpr ⟨pm_l3051, List.forall_mem_cons.mpr ⟨pm_l3055, List.forall_mem_cons.mpr ⟨pm_l3059, List.forall_mem_cons.mpr ⟨pm_l3062, List.forall_mem_cons.mpr ⟨pm_l3065, List.forall_mem_cons.mpr ⟨pm_l3069, List.forall_mem_cons.mpr ⟨pm_l3072, List.forall_mem_cons.mpr ⟨pm_l3075, List.forall_mem_cons.mpr ⟨pm_l3078, List.forall_mem_cons.mpr ⟨pm_l3082, List.forall_mem_cons.mpr ⟨pm_l3085, List.forall_mem_cons.mpr ⟨pm_l3089, List.forall_mem_cons.mpr ⟨pm_l3093, List.forall_mem_cons.mpr ⟨pm_l3097, List.forall_mem_cons.mpr ⟨pm_l3101, List.forall_mem_cons.mpr ⟨pm_l3104, List.forall_mem_cons.mpr ⟨pm_l3107, List.forall_mem_cons.mpr ⟨pm_l3110, List.forall_mem_cons.mpr ⟨pm_l3113, List.forall_mem_cons.mpr ⟨pm_l3116, List.forall_mem_cons.mpr ⟨pm_l3119, List.forall_mem_cons.mpr ⟨pm_l3123, List.forall_mem_cons.mpr ⟨pm_l3127, List.forall_mem_cons.mpr ⟨pm_l3130, List.forall_mem_cons.mpr ⟨pm_l3133, List.forall_mem_cons.mpr ⟨pm_l3143, List.forall_mem_cons.mpr ⟨pm_l3146, List.forall_mem_cons.mpr ⟨pm_l3149, List.forall_mem_cons.mpr ⟨pm_l3152, List.forall_mem_cons.mpr ⟨pm_l3155, List.forall_mem_cons.mpr ⟨pm_l3158, List.forall_mem_cons.mpr ⟨pm_l3161, List.forall_mem_cons.mpr ⟨pm_l3164, List.forall_mem_cons.mpr ⟨pm_l3167, List.forall_mem_cons.mpr ⟨pm_l3170, List.forall_mem_cons.mpr ⟨pm_l3174, List.forall_mem_cons.mpr ⟨pm_l3177, List.forall_mem_cons.mpr ⟨pm_l3180, List.forall_mem_cons.mpr ⟨pm_l3183, List.forall_mem_cons.mpr ⟨pm_l3186, List.forall_mem_cons.mpr ⟨pm_l3189, List.forall_mem_cons.mpr ⟨pm_l3192, List.forall_mem_cons.mpr ⟨pm_l3196, List.forall_mem_cons.mpr ⟨pm_l3199, List.forall_mem_cons.mpr ⟨pm_l3202, List.forall_mem_cons.mpr ⟨pm_l3205, List.forall_mem_cons.mpr ⟨pm_l3209, List.forall_mem_cons.mpr ⟨pm_l3212, List.forall_mem_cons.mpr ⟨pm_l3215, List.forall_mem_cons.mpr ⟨pm_l3218, List.forall_mem_cons.mpr ⟨pm_l3221, List.forall_mem_cons.mpr ⟨pm_l3224, List.forall_mem_cons.mpr ⟨pm_l3230, List.forall_mem_cons.mpr ⟨pm_l4003, List.forall_mem_cons.mpr ⟨pm_l4039, List.forall_mem_cons.mpr ⟨pm_l4047, List.forall_mem_cons.mpr ⟨pm_l4051, List.forall_mem_cons.mpr ⟨pm_l5003, List.forall_mem_cons.mpr ⟨pm_l5022, List.forall_mem_cons.mpr ⟨pm_l5026, List.forall_mem_cons.mpr ⟨pm_l5032, List.forall_mem_cons.mpr ⟨pm_l5041, List.forall_mem_cons.mpr ⟨pm_l6003, List.forall_mem_cons.mpr ⟨pm_l6011, List.forall_mem_cons.mpr ⟨pm_l6030, List.forall_mem_cons.mpr ⟨pm_l6046, List.forall_mem_cons.mpr ⟨pm_l6055, List.forall_mem_cons.mpr ⟨pm_l6071, List.forall_mem_cons.mpr ⟨pm_l6093, List.forall_mem_cons.mpr ⟨pm_l6098, List.forall_mem_cons.mpr ⟨pm_l6102, List.forall_mem_cons.mpr ⟨pm_l6105, List.forall_mem_cons.mpr ⟨pm_l6108, List.forall_mem_cons.mpr ⟨pm_l6118, List.forall_mem_cons.mpr ⟨pm_l6125, List.forall_mem_cons.mpr ⟨pm_l6129, List.forall_mem_cons.mpr ⟨pm_l6133, List.forall_mem_cons.mpr ⟨pm_l6137, List.forall_mem_cons.mpr ⟨pm_l6141, List.forall_mem_cons.mpr ⟨pm_l6145, List.forall_mem_cons.mpr ⟨pm_l6149, List.forall_mem_cons.mpr ⟨pm_l6152, List.forall_mem_cons.mpr ⟨pm_l6156, List.forall_mem_cons.mpr ⟨pm_l6160, List.forall_mem_cons.mpr ⟨pm_l6163, List.forall_mem_cons.mpr ⟨pm_l6167, List.forall_mem_cons.mpr ⟨pm_l6171, List.forall_mem_cons.mpr ⟨pm_l6174, List.forall_mem_cons.mpr ⟨pm_l6178, List.forall_mem_cons.mpr ⟨pm_l6185, List.forall_mem_cons.mpr ⟨pm_l6189, List.forall_mem_cons.mpr ⟨pm_l6195, List.forall_mem_cons.mpr ⟨pm_l6199, List.forall_mem_cons.mpr ⟨pm_l7003, List.forall_mem_cons.mpr ⟨pm_l7023, List.forall_mem_cons.mpr ⟨pm_l7031, List.forall_mem_cons.mpr ⟨pm_l7038, List.forall_mem_cons.mpr ⟨pm_l7042, List.forall_mem_cons.mpr ⟨pm_l7046, List.forall_mem_cons.mpr ⟨pm_l7049, List.forall_mem_cons.mpr ⟨pm_l7055, List.forall_mem_cons.mpr ⟨pm_l7064, List.forall_mem_cons.mpr ⟨pm_l7068, List.forall_mem_cons.mpr ⟨pm_l7072, List.forall_mem_cons.mpr ⟨pm_l7075, List.forall_mem_cons.mpr ⟨pm_l7079, List.forall_mem_cons.mpr ⟨pm_l7083, List.forall_mem_cons.mpr ⟨pm_l8005, List.forall_mem_cons.mpr ⟨pm_l8021, List.forall_mem_cons.mpr ⟨pm_l8027, List.forall_mem_cons.mpr ⟨pm_l8037, List.forall_mem_cons.mpr ⟨pm_l8040, List.forall_mem_cons.mpr ⟨pm_l8043, List.forall_mem_cons.mpr ⟨pm_l8046, List.forall_mem_cons.mpr ⟨pm_l8049, List.forall_mem_cons.mpr ⟨pm_l8053, List.forall_mem_cons.mpr ⟨pm_l8058, List.forall_mem_cons.mpr ⟨pm_l9003, List.forall_mem_cons.mpr ⟨pm_l9035, List.forall_mem_cons.mpr ⟨pm_l9044, List.forall_mem_cons.mpr ⟨pm_l9054, List.forall_mem_cons.mpr ⟨pm_l9078, List.forall_mem_cons.mpr ⟨pm_l9084, List.forall_mem_cons.mpr ⟨pm_l9087, List.forall_mem_cons.mpr ⟨pm_l9090, List.forall_mem_cons.mpr ⟨pm_l10001, List.forall_mem_cons.mpr ⟨pm_l10088, List.forall_mem_cons.mpr ⟨pm_l10092, List.forall_mem_cons.mpr ⟨pm_l10099, List.forall_mem_cons.mpr ⟨pm_l10103, List.forall_mem_cons.mpr ⟨pm_l10107, List.forall_mem_cons.mpr ⟨pm_l10116, List.forall_mem_cons.mpr ⟨pm_l10120, List.forall_mem_cons.mpr ⟨pm_l10123, List.forall_mem_cons.mpr ⟨pm_l10126, List.forall_mem_cons.mpr ⟨pm_l10130, List.forall_mem_cons.mpr ⟨pm_l10133, List.forall_mem_cons.mpr ⟨pm_l10136, List.forall_mem_cons.mpr ⟨pm_l10149, List.forall_mem_cons.mpr ⟨pm_l10152, List.forall_mem_cons.mpr ⟨pm_l10155, List.forall_mem_cons.mpr ⟨pm_l10158, List.forall_mem_cons.mpr ⟨pm_l10162, List.forall_mem_cons.mpr ⟨pm_l10165, List.forall_mem_cons.mpr ⟨pm_l10168, List.forall_mem_cons.mpr ⟨pm_l10171, List.forall_mem_cons.mpr ⟨pm_l10174, List.forall_mem_cons.mpr ⟨pm_l10177, List.forall_mem_cons.mpr ⟨pm_l10180, List.forall_mem_cons.mpr ⟨pm_l10183, List.forall_mem_cons.mpr ⟨pm_l10186, List.forall_mem_cons.mpr ⟨pm_l10192, List.forall_mem_cons.mpr ⟨pm_l10204, List.forall_mem_cons.mpr ⟨pm_l10207, List.forall_mem_cons.mpr ⟨pm_l10213, List.forall_mem_cons.mpr ⟨pm_l10220, List.forall_mem_cons.mpr ⟨pm_l10229, List.forall_mem_cons.mpr ⟨pm_l10232, List.forall_mem_cons.mpr ⟨pm_l10243, List.forall_mem_cons.mpr ⟨pm_l10249, List.forall_mem_cons.mpr ⟨pm_l10252, List.forall_mem_cons.mpr ⟨pm_l10255, List.forall_mem_cons.mpr ⟨pm_l10261, List.forall_mem_cons.mpr ⟨pm_l10265, List.forall_mem_cons.mpr ⟨pm_l10269, List.forall_mem_cons.mpr ⟨pm_l10272, List.forall_mem_cons.mpr ⟨pm_l10276, List.forall_mem_cons.mpr ⟨pm_l10279, List.forall_mem_cons.mpr ⟨pm_l10282, List.forall_mem_cons.mpr ⟨pm_l10285, List.forall_mem_cons.mpr ⟨pm_l12009, List.forall_mem_cons.mpr ⟨pm_l12015, List.forall_mem_cons.mpr ⟨pm_l12020, List.forall_mem_cons.mpr ⟨pm_l12021, List.forall_mem_cons.mpr ⟨pm_l12025, List.forall_mem_cons.mpr ⟨pm_l12026, List.forall_mem_cons.mpr ⟨pm_l12030, List.forall_mem_cons.mpr ⟨pm_l12031, List.forall_mem_cons.mpr ⟨pm_l12035, List.forall_mem_cons.mpr ⟨pm_l12036, List.forall_mem_cons.mpr ⟨pm_l12040, List.forall_mem_cons.mpr ⟨pm_l12041, List.forall_mem_cons.mpr ⟨pm_l12044, List.forall_mem_cons.mpr ⟨pm_l12045, List.forall_mem_cons.mpr ⟨pm_l12048, List.forall_mem_cons.mpr ⟨pm_l12049, List.forall_mem_cons.mpr ⟨pm_l12053, List.forall_mem_cons.mpr ⟨pm_l12054, List.forall_mem_cons.mpr ⟨pm_l12057, List.forall_mem_cons.mpr ⟨pm_l12058, List.forall_mem_cons.mpr ⟨pm_l12061, List.forall_mem_cons.mpr ⟨pm_l12062, List.forall_mem_cons.mpr ⟨pm_l12065, List.forall_mem_cons.mpr ⟨pm_l12066, List.forall_mem_cons.mpr ⟨pm_l12069, List.forall_mem_cons.mpr ⟨pm_l12070, List.forall_mem_cons.mpr ⟨pm_l12073, List.forall_mem_cons.mpr ⟨pm_l12074, List.forall_mem_cons.mpr ⟨pm_l12077, List.forall_mem_cons.mpr ⟨pm_l12078, List.forall_mem_cons.mpr ⟨pm_l12081, List.forall_mem_cons.mpr ⟨pm_l12082, List.forall_mem_cons.mpr ⟨pm_l12085, List.forall_mem_cons.mpr ⟨pm_l12086, List.forall_mem_cons.mpr ⟨pm_l12089, List.forall_mem_cons.mpr ⟨pm_l12090, List.forall_mem_cons.mpr ⟨pm_l12094, fun _ h => absurd h List.not_mem_nil⟩⟩⟩⟩⟩⟩⟩⟩⟩⟩⟩⟩⟩⟩⟩⟩⟩⟩⟩⟩⟩⟩⟩⟩⟩⟩⟩⟩⟩⟩⟩⟩⟩⟩⟩⟩⟩⟩⟩⟩⟩⟩⟩⟩⟩⟩⟩⟩⟩⟩⟩⟩⟩⟩⟩⟩⟩⟩⟩⟩⟩⟩⟩⟩⟩⟩⟩⟩⟩⟩⟩⟩⟩⟩⟩⟩⟩⟩⟩⟩⟩⟩⟩⟩⟩⟩⟩⟩⟩⟩⟩⟩⟩⟩⟩⟩⟩⟩⟩⟩⟩⟩⟩⟩⟩⟩⟩⟩⟩⟩⟩⟩⟩⟩⟩⟩⟩⟩⟩⟩⟩⟩⟩⟩⟩⟩⟩⟩⟩⟩⟩⟩⟩⟩⟩⟩⟩⟩⟩⟩⟩⟩⟩⟩⟩⟩⟩⟩⟩⟩⟩⟩⟩⟩⟩⟩⟩⟩⟩⟩⟩⟩⟩⟩⟩⟩⟩⟩⟩⟩⟩⟩⟩⟩⟩⟩⟩⟩⟩⟩⟩⟩⟩⟩⟩⟩⟩⟩⟩⟩⟩⟩⟩⟩⟩⟩⟩⟩⟩⟩⟩⟩⟩⟩⟩⟩⟩⟩⟩⟩⟩⟩⟩⟩⟩⟩⟩⟩⟩⟩⟩⟩⟩⟩⟩⟩⟩⟩⟩⟩⟩⟩⟩⟩⟩⟩⟩⟩⟩⟩⟩⟩⟩⟩⟩⟩⟩⟩⟩⟩⟩⟩⟩⟩⟩⟩⟩⟩⟩⟩⟩⟩⟩⟩⟩⟩⟩⟩⟩⟩⟩
def pm_nT : List (Nat × Nat) := [(9, 9), (16, 8), (23, 2), (30, 6), (3009, 4), (3018, 1), (6009, 3), (6018, 9), (6028, 5), (6044, 7), (7009, 2), (7021, 8), (9033, 2), (12007, 0), (12018, 10)]
def pm_nok (q : Nat × Nat) : Prop := ∃ r : vw_C, pm_cl[q.2]? = some r ∧ Cond.classLink (pm_nm (q.1 / 1000)) (q.1 % 1000) r.1 ∈ lw_good
theorem pm_nw12018 : pm_nok (12018, 10) := ⟨_, rfl, pm_in4 (i := 224) rfl rfl⟩
theorem pm_nw12007 : pm_nok (12007, 0) := ⟨_, rfl, pm_in1 (i := 17) rfl rfl⟩
theorem pm_nw9033 : pm_nok (9033, 2) := ⟨_, rfl, pm_in1 (i := 31) rfl rfl⟩
theorem pm_nw7021 : pm_nok (7021, 8) := ⟨_, rfl, pm_in2 (i := 4) rfl rfl⟩
theorem pm_nw7009 : pm_nok (7009, 2) := ⟨_, rfl, pm_in2 (i := 2) rfl rfl⟩
theorem pm_nw6044 : pm_nok (6044, 7) := ⟨_, rfl, pm_in1 (i := 236) rfl rfl⟩
theorem pm_nw6028 : pm_nok (6028, 5) := ⟨_, rfl, pm_in1 (i := 218) rfl rfl⟩
theorem pm_nw6018 : pm_nok (6018, 9) := ⟨_, rfl, pm_in1 (i := 216) rfl rfl⟩
theorem pm_nw6009 : pm_nok (6009, 3) := ⟨_, rfl, pm_in1 (i := 140) rfl rfl⟩
theorem pm_nw3018 : pm_nok (3018, 1) := ⟨_, rfl, pm_in1 (i := 183) rfl rfl⟩
theorem pm_nw3009 : pm_nok (3009, 4) := ⟨_, rfl, pm_in1 (i := 146) rfl rfl⟩
theorem pm_nw30 : pm_nok (30, 6) := ⟨_, rfl, pm_in1 (i := 134) rfl rfl⟩
theorem pm_nw23 : pm_nok (23, 2) := ⟨_, rfl, pm_in1 (i := 132) rfl rfl⟩
theorem pm_nw16 : pm_nok (16, 8) := ⟨_, rfl, pm_in1 (i := 112) rfl rfl⟩
theorem pm_nw9 : pm_nok (9, 9) := ⟨_, rfl, pm_in1 (i := 25) rfl rfl⟩
theorem pm_nall : ∀ q ∈ pm_nT, pm_nok q := List.forall_mem_cons.mpr ⟨pm_nw9, List.forall_mem_cons.mpr ⟨pm_nw16, List.forall_mem_cons.mpr ⟨pm_nw23, List.forall_mem_cons.mpr ⟨pm_nw30, List.forall_mem_cons.mpr ⟨pm_nw3009, List.forall_mem_cons.mpr ⟨pm_nw3018, List.forall_mem_cons.mpr ⟨pm_nw6009, List.forall_mem_cons.mpr ⟨pm_nw6018, List.forall_mem_cons.mpr ⟨pm_nw6028, List.forall_mem_cons.mpr ⟨pm_nw6044, List.forall_mem_cons.mpr ⟨pm_nw7009, List.forall_mem_cons.mpr ⟨pm_nw7021, List.forall_mem_cons.mpr ⟨pm_nw9033, List.forall_mem_cons.mpr ⟨pm_nw12007, List.forall_mem_cons.mpr ⟨pm_nw12018, fun _ h => absurd h List.not_mem_nil⟩⟩⟩⟩⟩⟩⟩⟩⟩⟩⟩⟩⟩⟩⟩
def pm_aT : List (Nat × Nat) := [(6018, 9), (7009, 2)]
def pm_aok (q : Nat × Nat) : Prop := ∃ r : vw_C, pm_cl[q.2]? = some r ∧ Cond.classLink (pm_nm (q.1 / 1000)) (q.1 % 1000) r.1 ∈ lw_good ∧ (r.1 = "PathRunner$Way" ∨ r.1 = "PathRunner$Inputs")
theorem pm_aw7009 : pm_aok (7009, 2) := ⟨_, rfl, pm_in2 (i := 2) rfl rfl, Or.inr rfl⟩
theorem pm_aw6018 : pm_aok (6018, 9) := ⟨_, rfl, pm_in1 (i := 216) rfl rfl, Or.inl rfl⟩
theorem pm_aall : ∀ q ∈ pm_aT, pm_aok q := List.forall_mem_cons.mpr ⟨pm_aw6018, List.forall_mem_cons.mpr ⟨pm_aw7009, fun _ h => absurd h List.not_mem_nil⟩⟩
def pm_kT : List (Nat × Int32) := [(5030, 1664525), (5031, 1013904223), (6114, 1000000), (10028, 88400), (10032, 174080), (10041, 45000), (10241, 1664525), (10242, 1013904223), (13265, 1431655765), (13266, 858993459), (13267, 252645135)]
def pm_kok (q : Nat × Int32) : Prop := Cond.constant (pm_nm (q.1 / 1000)) (q.1 % 1000) q.2 ∈ lw_good
theorem pm_kc13267 : pm_kok (13267, 252645135) := pm_in4 (i := 119) rfl rfl
theorem pm_kc13266 : pm_kok (13266, 858993459) := pm_in4 (i := 118) rfl rfl
theorem pm_kc13265 : pm_kok (13265, 1431655765) := pm_in4 (i := 117) rfl rfl
theorem pm_kc10242 : pm_kok (10242, 1013904223) := pm_in5 (i := 173) rfl rfl
theorem pm_kc10241 : pm_kok (10241, 1664525) := pm_in5 (i := 172) rfl rfl
theorem pm_kc10041 : pm_kok (10041, 45000) := pm_in4 (i := 232) rfl rfl
theorem pm_kc10032 : pm_kok (10032, 174080) := pm_in4 (i := 231) rfl rfl
theorem pm_kc10028 : pm_kok (10028, 88400) := pm_in4 (i := 230) rfl rfl
theorem pm_kc6114 : pm_kok (6114, 1000000) := pm_in2 (i := 196) rfl rfl
theorem pm_kc5031 : pm_kok (5031, 1013904223) := pm_in2 (i := 210) rfl rfl
theorem pm_kc5030 : pm_kok (5030, 1664525) := pm_in2 (i := 209) rfl rfl
theorem pm_kcall : ∀ q ∈ pm_kT, pm_kok q := List.forall_mem_cons.mpr ⟨pm_kc5030, List.forall_mem_cons.mpr ⟨pm_kc5031, List.forall_mem_cons.mpr ⟨pm_kc6114, List.forall_mem_cons.mpr ⟨pm_kc10028, List.forall_mem_cons.mpr ⟨pm_kc10032, List.forall_mem_cons.mpr ⟨pm_kc10041, List.forall_mem_cons.mpr ⟨pm_kc10241, List.forall_mem_cons.mpr ⟨pm_kc10242, List.forall_mem_cons.mpr ⟨pm_kc13265, List.forall_mem_cons.mpr ⟨pm_kc13266, List.forall_mem_cons.mpr ⟨pm_kc13267, fun _ h => absurd h List.not_mem_nil⟩⟩⟩⟩⟩⟩⟩⟩⟩⟩⟩
/-- static arrays: key, the number of the cell that it names (1 TAKES, 2 LEAVES) -/
def pm_sT : List (Nat × Nat) := [(3136, 1), (3140, 2)]
def pm_sn (k : Nat) : String := if k = 1 then "TAKES" else "LEAVES"
def pm_sok (q : Nat × Nat) : Prop := (q.2 = 1 ∨ q.2 = 2) ∧ Cond.fieldLink (pm_nm (q.1 / 1000)) (q.1 % 1000) "PathRunner$Machine" (pm_sn q.2) "[I" ∈ lw_good
theorem pm_ss3140 : pm_sok (3140, 2) := ⟨by decide, pm_in3 (i := 155) rfl rfl⟩
theorem pm_ss3136 : pm_sok (3136, 1) := ⟨by decide, pm_in3 (i := 16) rfl rfl⟩
theorem pm_sall : ∀ q ∈ pm_sT, pm_sok q := List.forall_mem_cons.mpr ⟨pm_ss3136, List.forall_mem_cons.mpr ⟨pm_ss3140, fun _ h => absurd h List.not_mem_nil⟩⟩
theorem pm_oinst : Cond.instanceMethod objectInit ∈ lw_good := pm_in1 (i := 23) rfl rfl
theorem pm_ocode : Cond.code objectInit ⟨#[0xb1]⟩ 1 none ∈ lw_good := pm_in1 (i := 24) rfl rfl
theorem pm_arcn : Cond.native arraycopyName ∈ lw_good := pm_in3 (i := 218) rfl rfl
theorem pm_arcs : Cond.static arraycopyName ∈ lw_good := pm_in3 (i := 217) rfl rfl
theorem pm_arci : Cond.initialized "java/lang/System" ∈ lw_good := pm_in1 (i := 15) rfl rfl
theorem pm_minc : Cond.code Lib.Math.min.name Lib.Math.min.code 2 (some .int) ∈ lw_good := pm_in2 (i := 195) rfl rfl
theorem pm_mins : Cond.static Lib.Math.min.name ∈ lw_good := pm_in2 (i := 194) rfl rfl
theorem pm_mini : Cond.initialized "java/lang/Math" ∈ lw_good := pm_in1 (i := 13) rfl rfl
theorem pm_ac_int : Cond.arrayClass .int ∈ lw_good := pm_in1 (i := 41) rfl rfl
theorem pm_ac_byte : Cond.arrayClass .byte ∈ lw_good := pm_in5 (i := 120) rfl rfl
theorem pm_ac_boolean : Cond.arrayClass .boolean ∈ lw_good := pm_in5 (i := 121) rfl rfl
theorem pm_goodIn {a : List Cond} (h : ∀ w ∈ a, w ∈ lw_good) : GoodIn lw_good a := fun w hw => ⟨h w hw, good_of_word (List.mem_filter.mp (h w hw)).2⟩
