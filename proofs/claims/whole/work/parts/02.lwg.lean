def lwg : List Cond := lw_tbl.filter goodWord
theorem lm {w : Cond} (i : Nat) (h : lw_tbl[i]? = some w) (g : goodWord w = true) : w ∈ lwg := List.mem_filter.mpr ⟨List.mem_of_getElem? h, g⟩
theorem lwg_good {w : Cond} (h : w ∈ lwg) : w ∈ lwg ∧ ((w.onTables && w.keeps) = true ∨ ∃ ty, w = .arrayClass ty) := ⟨h, good_of_word (List.mem_filter.mp h).2⟩
def nstW : List Cond := [(Jvm.Cond.methodLinkNest "PloughCall" (9 : Nat) ({ cls := "PloughCall$Tape", name := "<init>", desc := "()V" } : Jvm.MethodName) "PloughCall"),
  (Jvm.Cond.fieldLinkNest "PloughCall" (87 : Nat) "PloughCall$Tape" "length" "I" "PloughCall"),
  (Jvm.Cond.fieldLinkNest "PloughCall$Reader" (55 : Nat) "PloughCall$Tape" "place" "I" "PloughCall"),
  (Jvm.Cond.fieldLinkNest "PloughCall$Reader" (33 : Nat) "PloughCall$Tape" "kind" "I" "PloughCall"),
  (Jvm.Cond.fieldLinkNest "PloughCall$Reader" (274 : Nat) "PloughCall$Tape" "value" "I" "PloughCall"),
  (Jvm.Cond.fieldLinkNest "PloughCall$Reader" (106 : Nat) "PloughCall$Tape" "letters" "J" "PloughCall"),
  (Jvm.Cond.fieldLinkNest "PloughCall$Reader" (58 : Nat) "PloughCall$Tape" "word" "LPloughCall$Word;" "PloughCall"),
  (Jvm.Cond.methodLinkNest "PloughCall$Counsel" (37 : Nat) ({ cls := "PloughCall$Standing", name := "<init>", desc := "()V" } : Jvm.MethodName) "PloughCall"),
  (Jvm.Cond.fieldLinkNest "PloughCall" (337 : Nat) "PloughCall$Standing" "month" "I" "PloughCall"),
  (Jvm.Cond.fieldLinkNest "PloughCall$Counsel" (166 : Nat) "PloughCall$Standing" "power" "I" "PloughCall"),
  (Jvm.Cond.fieldLinkNest "PloughCall" (231 : Nat) "PloughCall$Standing" "power" "I" "PloughCall"),
  (Jvm.Cond.fieldLinkNest "PloughCall$Script" (51 : Nat) "PloughCall$Standing" "master" "I" "PloughCall"),
  (Jvm.Cond.fieldLinkNest "PloughCall" (177 : Nat) "PloughCall$Standing" "master" "I" "PloughCall"),
  (Jvm.Cond.fieldLinkNest "PloughCall" (340 : Nat) "PloughCall$Standing" "left" "I" "PloughCall"),
  (Jvm.Cond.fieldLinkNest "PloughCall$Counsel" (185 : Nat) "PloughCall$Standing" "kept" "Z" "PloughCall"),
  (Jvm.Cond.fieldLinkNest "PloughCall" (343 : Nat) "PloughCall$Standing" "kept" "Z" "PloughCall"),
  (Jvm.Cond.fieldLinkNest "PloughCall$Counsel" (48 : Nat) "PloughCall$Standing" "sizes" "[I" "PloughCall"),
  (Jvm.Cond.fieldLinkNest "PloughCall" (150 : Nat) "PloughCall$Standing" "sizes" "[I" "PloughCall"),
  (Jvm.Cond.fieldLinkNest "PloughCall" (138 : Nat) "PloughCall$Standing" "fields" "[I" "PloughCall"),
  (Jvm.Cond.fieldLinkNest "PloughCall" (141 : Nat) "PloughCall$Standing" "liked" "[I" "PloughCall"),
  (Jvm.Cond.fieldLinkNest "PloughCall" (244 : Nat) "PloughCall$Counsel" "leastRow" "[I" "PloughCall"),
  (Jvm.Cond.fieldLinkNest "PloughCall" (241 : Nat) "PloughCall$Counsel" "least" "I" "PloughCall"),
  (Jvm.Cond.fieldLinkNest "PloughCall" (310 : Nat) "PloughCall$Counsel" "ended" "I" "PloughCall"),
  (Jvm.Cond.fieldLinkNest "PloughCall" (313 : Nat) "PloughCall$Counsel" "monthsKept" "I" "PloughCall"),
  (Jvm.Cond.methodLinkNest "PloughCall" (34 : Nat) ({ cls := "PloughCall$Standing", name := "<init>", desc := "()V" } : Jvm.MethodName) "PloughCall"),
  (Jvm.Cond.methodLinkNest "PloughCall$Past" (17 : Nat) ({ cls := "PloughCall$Standing", name := "<init>", desc := "()V" } : Jvm.MethodName) "PloughCall"),
  (Jvm.Cond.fieldLinkNest "PloughCall" (105 : Nat) "PloughCall$Past" "steps" "I" "PloughCall"),
  (Jvm.Cond.methodLinkNest "PloughCall" (51 : Nat) ({ cls := "PloughCall$Reports", name := "<init>", desc := "()V" } : Jvm.MethodName) "PloughCall"),
  (Jvm.Cond.fieldLinkNest "PloughCall" (102 : Nat) "PloughCall$Reports" "told" "I" "PloughCall"),
  (Jvm.Cond.methodLinkNest "PloughCall" (64 : Nat) ({ cls := "PloughCall$City", name := "<init>", desc := "()V" } : Jvm.MethodName) "PloughCall"),
  (Jvm.Cond.methodLinkNest "PloughCall$City" (52 : Nat) ({ cls := "PloughCall$Laws", name := "<init>", desc := "()V" } : Jvm.MethodName) "PloughCall"),
  (Jvm.Cond.fieldLinkNest "PloughCall$Reader" (231 : Nat) "PloughCall$Laws" "size" "I" "PloughCall"),
  (Jvm.Cond.fieldLinkNest "PloughCall$Counsel" (38 : Nat) "PloughCall$City" "men" "I" "PloughCall"),
  (Jvm.Cond.fieldLinkNest "PloughCall$Standing" (48 : Nat) "PloughCall$City" "men" "I" "PloughCall"),
  (Jvm.Cond.fieldLinkNest "PloughCall$Reports" (33 : Nat) "PloughCall$City" "men" "I" "PloughCall"),
  (Jvm.Cond.fieldLinkNest "PloughCall$Reader" (100 : Nat) "PloughCall$City" "men" "I" "PloughCall"),
  (Jvm.Cond.fieldLinkNest "PloughCall" (250 : Nat) "PloughCall$City" "men" "I" "PloughCall"),
  (Jvm.Cond.fieldLinkNest "PloughCall$Reader" (148 : Nat) "PloughCall$City" "consuls" "I" "PloughCall"),
  (Jvm.Cond.fieldLinkNest "PloughCall" (334 : Nat) "PloughCall$City" "consuls" "I" "PloughCall"),
  (Jvm.Cond.fieldLinkNest "PloughCall$Standing" (34 : Nat) "PloughCall$City" "dangers" "I" "PloughCall"),
  (Jvm.Cond.fieldLinkNest "PloughCall$Counsel" (102 : Nat) "PloughCall$City" "dangers" "I" "PloughCall"),
  (Jvm.Cond.fieldLinkNest "PloughCall$Reader" (179 : Nat) "PloughCall$City" "dangers" "I" "PloughCall"),
  (Jvm.Cond.fieldLinkNest "PloughCall" (234 : Nat) "PloughCall$City" "dangers" "I" "PloughCall"),
  (Jvm.Cond.fieldLinkNest "PloughCall$Reader" (192 : Nat) "PloughCall$City" "decrees" "I" "PloughCall"),
  (Jvm.Cond.fieldLinkNest "PloughCall" (280 : Nat) "PloughCall$City" "decrees" "I" "PloughCall"),
  (Jvm.Cond.fieldLinkNest "PloughCall$Standing" (80 : Nat) "PloughCall$City" "term" "I" "PloughCall"),
  (Jvm.Cond.fieldLinkNest "PloughCall$Reader" (219 : Nat) "PloughCall$City" "term" "I" "PloughCall"),
  (Jvm.Cond.fieldLinkNest "PloughCall" (215 : Nat) "PloughCall$City" "term" "I" "PloughCall"),
  (Jvm.Cond.fieldLinkNest "PloughCall$Reader" (212 : Nat) "PloughCall$City" "termTold" "Z" "PloughCall"),
  (Jvm.Cond.fieldLinkNest "PloughCall" (124 : Nat) "PloughCall$City" "kinds" "[I" "PloughCall"),
  (Jvm.Cond.fieldLinkNest "PloughCall$Standing" (128 : Nat) "PloughCall$City" "kinds" "[I" "PloughCall"),
  (Jvm.Cond.fieldLinkNest "PloughCall" (132 : Nat) "PloughCall$City" "skills" "[I" "PloughCall"),
  (Jvm.Cond.fieldLinkNest "PloughCall$Standing" (103 : Nat) "PloughCall$City" "skills" "[I" "PloughCall"),
  (Jvm.Cond.fieldLinkNest "PloughCall$Standing" (51 : Nat) "PloughCall$City" "fields" "[I" "PloughCall"),
  (Jvm.Cond.fieldLinkNest "PloughCall" (135 : Nat) "PloughCall$City" "wants" "[I" "PloughCall"),
  (Jvm.Cond.fieldLinkNest "PloughCall$Reader" (168 : Nat) "PloughCall$City" "hated" "[I" "PloughCall"),
  (Jvm.Cond.fieldLinkNest "PloughCall$Standing" (39 : Nat) "PloughCall$City" "sizes" "[I" "PloughCall"),
  (Jvm.Cond.fieldLinkNest "PloughCall$Reports" (42 : Nat) "PloughCall$City" "sizes" "[I" "PloughCall"),
  (Jvm.Cond.fieldLinkNest "PloughCall" (156 : Nat) "PloughCall$City" "sizes" "[I" "PloughCall"),
  (Jvm.Cond.fieldLinkNest "PloughCall$Counsel" (152 : Nat) "PloughCall$City" "sizes" "[I" "PloughCall"),
  (Jvm.Cond.fieldLinkNest "PloughCall" (153 : Nat) "PloughCall$City" "grows" "[I" "PloughCall"),
  (Jvm.Cond.fieldLinkNest "PloughCall$Counsel" (120 : Nat) "PloughCall$City" "grows" "[I" "PloughCall"),
  (Jvm.Cond.fieldLinkNest "PloughCall$Standing" (118 : Nat) "PloughCall$City" "grows" "[I" "PloughCall"),
  (Jvm.Cond.fieldLinkNest "PloughCall$Reader" (222 : Nat) "PloughCall$City" "laws" "LPloughCall$Laws;" "PloughCall"),
  (Jvm.Cond.methodLinkNest "PloughCall" (74 : Nat) ({ cls := "PloughCall$Script", name := "<init>", desc := "()V" } : Jvm.MethodName) "PloughCall"),
  (Jvm.Cond.fieldLinkNest "PloughCall$Reader" (47 : Nat) "PloughCall$Script" "lines" "I" "PloughCall"),
  (Jvm.Cond.fieldLinkNest "PloughCall" (99 : Nat) "PloughCall$Script" "lines" "I" "PloughCall"),
  (Jvm.Cond.methodLinkNest "PloughCall" (82 : Nat) ({ cls := "PloughCall$Mark", name := "<init>", desc := "()V" } : Jvm.MethodName) "PloughCall"),
  (Jvm.Cond.methodLinkNest "PloughCall$Mark" (9 : Nat) ({ cls := "PloughCall$Standing", name := "<init>", desc := "()V" } : Jvm.MethodName) "PloughCall"),
  (Jvm.Cond.methodLinkNest "PloughCall$Mark" (18 : Nat) ({ cls := "PloughCall$Script", name := "<init>", desc := "()V" } : Jvm.MethodName) "PloughCall"),
  (Jvm.Cond.methodLinkNest "PloughCall$Mark" (25 : Nat) ({ cls := "PloughCall$Reports", name := "<init>", desc := "()V" } : Jvm.MethodName) "PloughCall"),
  (Jvm.Cond.fieldLinkNest "PloughCall" (112 : Nat) "PloughCall$Mark" "laid" "Z" "PloughCall"),
  (Jvm.Cond.fieldLinkNest "PloughCall" (323 : Nat) "PloughCall$Mark" "standing" "LPloughCall$Standing;" "PloughCall"),
  (Jvm.Cond.fieldLinkNest "PloughCall" (326 : Nat) "PloughCall$Mark" "script" "LPloughCall$Script;" "PloughCall"),
  (Jvm.Cond.fieldLinkNest "PloughCall" (330 : Nat) "PloughCall$Mark" "reports" "LPloughCall$Reports;" "PloughCall"),
  (Jvm.Cond.methodLinkNest "PloughCall$Tape" (15 : Nat) ({ cls := "PloughCall", name := "within", desc := "(III)Z" } : Jvm.MethodName) "PloughCall"),
  (Jvm.Cond.methodLinkNest "PloughCall$Tape" (23 : Nat) ({ cls := "PloughCall", name := "put", desc := "([III)V" } : Jvm.MethodName) "PloughCall"),
  (Jvm.Cond.methodLinkNest "PloughCall$City" (73 : Nat) ({ cls := "PloughCall", name := "put", desc := "([III)V" } : Jvm.MethodName) "PloughCall"),
  (Jvm.Cond.methodLinkNest "PloughCall$Tape" (36 : Nat) ({ cls := "PloughCall", name := "at", desc := "([II)I" } : Jvm.MethodName) "PloughCall"),
  (Jvm.Cond.methodLinkNest "PloughCall$Reader" (277 : Nat) ({ cls := "PloughCall", name := "within", desc := "(III)Z" } : Jvm.MethodName) "PloughCall"),
  (Jvm.Cond.methodLinkNest "PloughCall$City" (98 : Nat) ({ cls := "PloughCall", name := "at", desc := "([II)I" } : Jvm.MethodName) "PloughCall"),
  (Jvm.Cond.methodLinkNest "PloughCall$Reader" (171 : Nat) ({ cls := "PloughCall", name := "at", desc := "([II)I" } : Jvm.MethodName) "PloughCall"),
  (Jvm.Cond.methodLinkNest "PloughCall$Reader" (175 : Nat) ({ cls := "PloughCall", name := "put", desc := "([III)V" } : Jvm.MethodName) "PloughCall"),
  (Jvm.Cond.methodLinkNest "PloughCall$Laws" (34 : Nat) ({ cls := "PloughCall", name := "put", desc := "([III)V" } : Jvm.MethodName) "PloughCall"),
  (Jvm.Cond.methodLinkNest "PloughCall$Standing" (40 : Nat) ({ cls := "PloughCall", name := "at", desc := "([II)I" } : Jvm.MethodName) "PloughCall"),
  (Jvm.Cond.methodLinkNest "PloughCall$Standing" (44 : Nat) ({ cls := "PloughCall", name := "put", desc := "([III)V" } : Jvm.MethodName) "PloughCall"),
  (Jvm.Cond.methodLinkNest "PloughCall$Script" (25 : Nat) ({ cls := "PloughCall", name := "put", desc := "([III)V" } : Jvm.MethodName) "PloughCall"),
  (Jvm.Cond.methodLinkNest "PloughCall$Standing" (62 : Nat) ({ cls := "PloughCall", name := "copyRow", desc := "([I[I)V" } : Jvm.MethodName) "PloughCall"),
  (Jvm.Cond.methodLinkNest "PloughCall$Laws" (38 : Nat) ({ cls := "PloughCall", name := "at", desc := "([II)I" } : Jvm.MethodName) "PloughCall"),
  (Jvm.Cond.methodLinkNest "PloughCall$Standing" (142 : Nat) ({ cls := "PloughCall", name := "sum", desc := "([II)I" } : Jvm.MethodName) "PloughCall"),
  (Jvm.Cond.methodLinkNest "PloughCall$Script" (33 : Nat) ({ cls := "PloughCall", name := "at", desc := "([II)I" } : Jvm.MethodName) "PloughCall"),
  (Jvm.Cond.methodLinkNest "PloughCall$Counsel" (51 : Nat) ({ cls := "PloughCall", name := "at", desc := "([II)I" } : Jvm.MethodName) "PloughCall"),
  (Jvm.Cond.methodLinkNest "PloughCall$Counsel" (112 : Nat) ({ cls := "PloughCall", name := "copyRow", desc := "([I[I)V" } : Jvm.MethodName) "PloughCall"),
  (Jvm.Cond.methodLinkNest "PloughCall$Counsel" (108 : Nat) ({ cls := "PloughCall", name := "put", desc := "([III)V" } : Jvm.MethodName) "PloughCall"),
  (Jvm.Cond.methodLinkNest "PloughCall$Reports" (25 : Nat) ({ cls := "PloughCall", name := "put", desc := "([III)V" } : Jvm.MethodName) "PloughCall"),
  (Jvm.Cond.methodLinkNest "PloughCall$Reports" (43 : Nat) ({ cls := "PloughCall", name := "at", desc := "([II)I" } : Jvm.MethodName) "PloughCall"),
  (Jvm.Cond.methodLinkNest "PloughCall$Script" (29 : Nat) ({ cls := "PloughCall", name := "copyRow", desc := "([I[I)V" } : Jvm.MethodName) "PloughCall"),
  (Jvm.Cond.methodLinkNest "PloughCall$Reports" (29 : Nat) ({ cls := "PloughCall", name := "copyRow", desc := "([I[I)V" } : Jvm.MethodName) "PloughCall"),
  (Jvm.Cond.fieldLinkNest "PloughCall$Tape" (74 : Nat) "PloughCall$Word" "reserved" "Z" "PloughCall")]
theorem ltb_1 {w : Cond} (h : w ∈ tables_1_1) : w ∈ lw_tbl := by
  unfold lw_tbl tables_1
  simp only [List.mem_append]
  simp only [h, true_or, or_true]
theorem ltb_2 {w : Cond} (h : w ∈ tables_1_2) : w ∈ lw_tbl := by
  unfold lw_tbl tables_1
  simp only [List.mem_append]
  simp only [h, true_or, or_true]
theorem ltb_3 {w : Cond} (h : w ∈ tables_1_3) : w ∈ lw_tbl := by
  unfold lw_tbl tables_1
  simp only [List.mem_append]
  simp only [h, true_or, or_true]
theorem ltb_4 {w : Cond} (h : w ∈ tables_1_4) : w ∈ lw_tbl := by
  unfold lw_tbl tables_1
  simp only [List.mem_append]
  simp only [h, true_or, or_true]
theorem ltb_5 {w : Cond} (h : w ∈ tables_1_5) : w ∈ lw_tbl := by
  unfold lw_tbl tables_1
  simp only [List.mem_append]
  simp only [h, true_or, or_true]
theorem ltb_6 {w : Cond} (h : w ∈ tables_1_6) : w ∈ lw_tbl := by
  unfold lw_tbl tables_1
  simp only [List.mem_append]
  simp only [h, true_or, or_true]
theorem ltb_7 {w : Cond} (h : w ∈ tables_1_7) : w ∈ lw_tbl := by
  unfold lw_tbl tables_1
  simp only [List.mem_append]
  simp only [h, true_or, or_true]
theorem ltb_8 {w : Cond} (h : w ∈ tables_1_8) : w ∈ lw_tbl := by
  unfold lw_tbl tables_1
  simp only [List.mem_append]
  simp only [h, true_or, or_true]
theorem ltb_9 {w : Cond} (h : w ∈ tables_1_9) : w ∈ lw_tbl := by
  unfold lw_tbl tables_1
  simp only [List.mem_append]
  simp only [h, true_or, or_true]
theorem ltb_0 {w : Cond} (h : w ∈ k2_sels lw_privs) : w ∈ lw_tbl := List.mem_append_left _ h
theorem lm2 {w : Cond} (h : w ∈ lw_tbl) (g : goodWord w = true) : w ∈ lwg := List.mem_filter.mpr ⟨h, g⟩
