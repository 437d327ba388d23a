/-! THE START: what the Statement's premises say of the first state -/
def n_NF : List Cond := flatC narrow_1
def n_k : List Nat := [162, 162, 162, 162, 171, 174, 177, 180, 183, 186, 189, 192, 195, 198, 201, 204, 207, 210, 213, 216, 219, 222, 225, 228, 231, 234, 237, 240, 243, 246, 249, 252, 255, 258, 261, 264, 267, 270, 273]
def n_ix : List (List Nat) := [[2, 3, 4, 5, 339, 340, 341, 342, 19], [10, 11, 12, 13, 339, 340, 341, 342, 20], [6, 7, 8, 9, 339, 340, 341, 342, 21], [63, 64, 65, 66, 339, 340, 341, 342, 22], [117, 118, 119, 120, 357, 358, 359, 360, 23, 361], [191, 192, 193, 194, 434, 435, 436, 437, 24, 438, 439, 440, 441, 442], [195, 196, 197, 198, 443, 444, 445, 446, 25, 447, 448, 449, 450], [109, 110, 111, 112, 343, 344, 345, 346, 26, 347, 348, 349, 350], [199, 200, 201, 202, 451, 452, 453, 454, 27, 455, 456, 457, 458], [113, 114, 115, 116, 351, 352, 353, 354, 28, 355, 356], [203, 204, 205, 206, 459, 460, 461, 462, 29, 463, 464, 465, 466, 467], [207, 208, 209, 210, 468, 469, 470, 471, 30, 472, 473, 474, 475, 476], [211, 212, 213, 214, 477, 478, 479, 480, 31, 481, 482, 483], [215, 216, 217, 218, 484, 485, 486, 487, 32, 488, 489, 490, 491, 492, 493, 494, 495], [219, 220, 221, 222, 496, 497, 498, 499, 33, 500, 501, 502, 503], [223, 224, 225, 226, 504, 505, 506, 507, 34, 508, 509, 510], [227, 228, 229, 230, 511, 512, 513, 514, 35, 515, 516, 517], [231, 232, 233, 234, 518, 519, 520, 521, 36, 522, 523, 524, 525], [235, 236, 237, 238, 526, 527, 528, 529, 37, 530, 531, 532, 533], [129, 130, 131, 132, 374, 375, 376, 377, 38, 378, 379, 380, 381, 382], [133, 134, 135, 136, 383, 384, 385, 386, 39, 387, 388, 389, 390], [137, 138, 139, 140, 391, 392, 393, 394, 40, 395, 396, 397, 398, 399], [141, 142, 143, 144, 400, 401, 402, 403, 41, 404, 405, 406], [145, 146, 147, 148, 407, 408, 409, 410, 42, 411, 412, 413, 414, 415], [121, 122, 123, 124, 362, 363, 364, 365, 43, 366], [149, 150, 151, 152, 416, 417, 418, 419, 44, 420], [157, 158, 159, 160, 428, 429, 430, 431, 45, 432, 433], [153, 154, 155, 156, 421, 422, 423, 424, 46, 425, 426, 427], [125, 126, 127, 128, 367, 368, 369, 370, 47, 371, 372, 373], [239, 240, 241, 242, 534, 535, 536, 537, 48, 538], [243, 244, 245, 246, 539, 540, 541, 542, 49, 543, 544], [247, 248, 249, 250, 545, 546, 547, 548, 50, 549], [251, 252, 253, 254, 550, 551, 552, 553, 51, 554, 555], [255, 256, 257, 258, 556, 557, 558, 559, 52, 560, 561], [259, 260, 261, 262, 562, 563, 564, 565, 53, 566], [263, 264, 265, 266, 567, 568, 569, 570, 54, 571], [267, 268, 269, 270, 572, 573, 574, 575, 55, 576], [271, 272, 273, 274, 577, 578, 579, 580, 56, 581], [275, 276, 277, 278, 582, 583, 584, 585, 57, 586]]
abbrev n_d : String := "LWindowLoans$Token;"
abbrev n_ALL : Term := .static a_TOK "ALL" "[LWindowLoans$Token;"
def n_st (i : Nat) : Term := .static a_TOK (c_tn.getD i "") n_d
def n_sr (i : Nat) : Term := .string a_TOK (n_k.getD i 0)
def n_vl (i : Nat) : Term := .field (n_sr i) a_STR "value" "[B"
def n_els (t : Term) (v : List Int32) : List Cond := (List.range v.length).map (fun j => .eq (.elem t (.int (nI j))) (.int (v.getD j 0)))
def n_tok (i : Nat) : List Cond := [.exactly (n_st i) a_TOK, .eq (.field (n_st i) "java/lang/Enum" "ordinal" "I") (.int (nI i)), .eq (.field (n_st i) a_TOK "letters" "Ljava/lang/String;") (n_sr i), .eq (.field (n_st i) a_TOK "rank" "I") (.int (c_rank.getD i 0)), .exactly (n_sr i) a_STR, .eq (.field (n_sr i) a_STR "coder" "B") (.int 0), .arrayOf (n_vl i) .byte, .eq (.length (n_vl i)) (.int (nI (c_let.getD i []).length)), .eq (.elem n_ALL (.int (nI i))) (n_st i)] ++ n_els (n_vl i) (c_let.getD i [])
def n_arr (C n : String) (v : List Int32) : List Cond := [.arrayOf (.static C n "[I") .int, .eq (.length (.static C n "[I")) (.int (nI v.length))] ++ n_els (.static C n "[I") v
def n_oth : List Cond := [.arrayOf n_ALL (.object a_TOK), .eq (.length n_ALL) (.int (nI 39)), .eq (.static a_STR "COMPACT_STRINGS" "Z") (.int 1), .isRef (.static "jdk/internal/util/Preconditions" "SIOOBE_FORMATTER" "Ljava/util/function/BiFunction;"), .isRef (.static Bundle.tN "UNASSIGNED_STACK" Bundle.steD), .isRef (.static Bundle.tN "SUPPRESSED_SENTINEL" Bundle.listD), .exactly (.string RX12 128) a_STR, .exactly (.string RX12 145) a_STR, .not (.castable o_NX o_IX)]
def n_pk (is : List Nat) : List Cond := is.filterMap (fun j => n_NF[j]?)
theorem n_pk_in {is : List Nat} {ws : List Cond} (h : ws = n_pk is) : ∀ w ∈ ws, w ∈ n_NF := fun w hw => by
  rw [h] at hw
  obtain ⟨j, -, hj⟩ := List.mem_filterMap.mp hw
  exact List.mem_of_getElem? hj
set_option maxRecDepth 100000 in
theorem n_okT : (List.range 39).all (fun i => decide (n_tok i = n_pk (n_ix.getD i []))) = true := by decide +kernel
set_option maxRecDepth 100000 in
theorem n_okB : n_arr "WindowLoans$Planner" "BLOTS" c_blots = n_pk [171, 172, 173, 174, 175, 176, 177, 178, 179, 180, 181, 182, 183, 184, 185, 186, 187, 188] := by decide +kernel
set_option maxRecDepth 100000 in
theorem n_okG : n_arr "WindowLoans$Planner" "BEGINS" c_begins = n_pk [162, 163, 164, 165, 166, 167, 168, 169] := by decide +kernel
set_option maxRecDepth 100000 in
theorem n_okS : n_arr "WindowLoans$1" "$SwitchMap$WindowLoans$Token" c_sw = n_pk [68, 69, 70, 71, 72, 73, 74, 75, 76, 77, 78, 79, 80, 81, 82, 83, 84, 85, 86, 87, 88, 89, 90, 91, 92, 93, 94, 95, 96, 97, 98, 99, 100, 101, 102, 103, 104, 105, 106, 107, 108] := by decide +kernel
set_option maxRecDepth 100000 in
theorem n_okO : n_oth = n_pk [16, 17, 58, 59, 189, 190, 307, 323, 292] := by decide +kernel
def n_tw : List Cond := (List.range 39).map (fun i => .laysStatic a_TOK (c_tn.getD i "") n_d) ++ [.initialized a_TOK, .laysStatic a_TOK "ALL" "[LWindowLoans$Token;", .laysStatic "WindowLoans$Planner" "BLOTS" "[I", .laysStatic "WindowLoans$Planner" "BEGINS" "[I", .laysStatic "WindowLoans$1" "$SwitchMap$WindowLoans$Token" "[I", .initialized "WindowLoans$Planner", .initialized "WindowLoans$1", .laysStatic a_STR "COMPACT_STRINGS" "Z", .initialized a_STR, .laysStatic "jdk/internal/util/Preconditions" "SIOOBE_FORMATTER" "Ljava/util/function/BiFunction;", .initialized "jdk/internal/util/Preconditions", .laysStatic Bundle.tN "UNASSIGNED_STACK" Bundle.steD, .laysStatic Bundle.tN "SUPPRESSED_SENTINEL" Bundle.listD, .initialized Bundle.tN, .stringRef RX12 128 "no such pane", .stringRef RX12 145 "no such what", a_n1, a_n2, .arrayOver (.object a_TOK), .arrayOver (.array .int), .arrayClass .int, .arrayClass .long, .arrayClass .byte, .arrayClass .boolean]
set_option maxRecDepth 100000 in
theorem n_okW : n_tw.all (fun w => decide (w ∈ lw_tbl)) = true := by decide +kernel
theorem n_tw_in {w : Cond} (h : w ∈ n_tw) : w ∈ lw_tbl := of_decide_eq_true (List.all_eq_true.mp n_okW w h)
theorem n_tl_in {i : Nat} (h : i < 39) : Cond.laysStatic a_TOK (c_tn.getD i "") n_d ∈ lw_tbl := n_tw_in (List.mem_append_left _ (List.mem_map.mpr ⟨i, List.mem_range.mpr h, rfl⟩))
section NST
variable {args : Array Value} {s : State} {A : Nat → Prop}
theorem n_OF {t : Term} {a : Nat} {o n d : String} {v : Value} (ht : t.eval args s none [] s = some (.ref a)) (hv : (Term.field t o n d).eval args s none [] s = some v) (hA : ∀ a : Nat, a < s.heap.size → ¬ A a) : va_OF o n d v a A s s.heap := by
  cases hfo : s.fieldFound? o n d with
  | none =>
    rw [va_fe ht] at hv
    simp [State.fieldOf?, State.fieldNamed?, hfo] at hv
  | some x =>
    obtain ⟨cf, k, fi, f⟩ := x
    obtain ⟨g1, cell, g2, g3, -, -, g6⟩ := Term.field_spec hfo ht hv
    exact ⟨cf, k, fi, f, cell, hfo, g1, g2, g3, g6, hA _ (Array.getElem?_eq_some_iff.mp g2).1⟩
theorem n_ex {t : Term} {nm : String} (h : (Cond.exactly t nm).before args s = true) : ∃ a : Nat, t.eval args s none [] s = some (.ref a) := by
  obtain ⟨a2, c, cA, kA, q1, -⟩ := Cond.exactly_spec (args := args) (first := s) (o := none) (s := s) (idx := []) (t := t) (cls := nm) h
  exact ⟨a2, q1⟩
theorem n_els_at {t : Term} {v : List Int32} (h : ∀ w ∈ n_els t v, w.before args s = true) : ∀ j : Nat, j < v.length → (Term.elem t (.int (Int32.ofNat j))).eval args s none [] s = some (.int (v.getD j 0)) := fun j hj => va_eqt (h _ (List.mem_map.mpr ⟨j, List.mem_range.mpr hj, rfl⟩))
def n_P (A : Nat → Prop) (s : State) (i a t v : Nat) : Prop :=
  va_Z a_TOK (c_tn.getD i "") n_d (.ref a) A s s.heap ∧ va_O a_TOK a A s s.heap ∧ va_OF a_TOK "rank" "I" (.int (c_rank.getD i 0)) a A s s.heap ∧ va_OF "java/lang/Enum" "ordinal" "I" (.int (nI i)) a A s s.heap ∧ va_OF a_TOK "letters" "Ljava/lang/String;" (.ref t) a A s s.heap ∧
  va_O a_STR t A s s.heap ∧ va_OF a_STR "value" "[B" (.ref v) t A s s.heap ∧ va_OF a_STR "coder" "B" (.int 0) t A s s.heap ∧ va_T .byte v (c_let.getD i []).length (fun j => .int ((c_let.getD i []).getD j 0)) A s s.heap
theorem n_len : (List.range 39).all (fun i => decide ((c_let.getD i []).length < 100)) = true := by decide +kernel
theorem n_tk {i : Nat} (hi : i < 39) (hA : ∀ a : Nat, a < s.heap.size → ¬ A a) (hts : ∀ w ∈ lw_tbl, w.before args s = true) (hN : ∀ w ∈ n_NF, w.before args s = true) :
    ∃ q : Nat × Nat × Nat, (n_st i).eval args s none [] s = some (.ref q.1) ∧ s.fieldOf? q.1 "java/lang/Enum" "ordinal" "I" = some (.int (nI i)) ∧ q.1 < s.heap.size ∧ (Term.elem n_ALL (.int (Int32.ofNat i))).eval args s none [] s = some (.ref q.1) ∧ n_P A s i q.1 q.2.1 q.2.2 := by
  have hh : ∀ w ∈ n_tok i, w.before args s = true := fun w hw => hN w (n_pk_in (of_decide_eq_true (List.all_eq_true.mp n_okT i (List.mem_range.mpr hi))) w hw)
  have hlt := of_decide_eq_true (List.all_eq_true.mp n_len i (List.mem_range.mpr hi))
  have e0 : (Cond.exactly (n_st i) a_TOK).before args s = true := hh _ (by simp [n_tok])
  have e1 : (Cond.eq (.field (n_st i) "java/lang/Enum" "ordinal" "I") (.int (nI i))).before args s = true := hh _ (by simp [n_tok])
  have e2 : (Cond.eq (.field (n_st i) a_TOK "letters" "Ljava/lang/String;") (n_sr i)).before args s = true := hh _ (by simp [n_tok])
  have e3 : (Cond.eq (.field (n_st i) a_TOK "rank" "I") (.int (c_rank.getD i 0))).before args s = true := hh _ (by simp [n_tok])
  have e4 : (Cond.exactly (n_sr i) a_STR).before args s = true := hh _ (by simp [n_tok])
  have e5 : (Cond.eq (.field (n_sr i) a_STR "coder" "B") (.int 0)).before args s = true := hh _ (by simp [n_tok])
  have e6 : (Cond.arrayOf (n_vl i) .byte).before args s = true := hh _ (by simp [n_tok])
  have e7 : (Cond.eq (.length (n_vl i)) (.int (nI (c_let.getD i []).length))).before args s = true := hh _ (List.mem_append_left _ (by simp))
  have e8 : (Cond.eq (.elem n_ALL (.int (nI i))) (n_st i)).before args s = true := hh _ (by simp [n_tok])
  have e9 : ∀ w ∈ n_els (n_vl i) (c_let.getD i []), w.before args s = true := fun w hw => hh w (List.mem_append_right _ hw)
  obtain ⟨a, ha⟩ := n_ex e0
  obtain ⟨t, ht⟩ := n_ex e4
  obtain ⟨v, hv, hT⟩ := va_Tof (A := A) (f := fun j => .int ((c_let.getD i []).getD j 0)) (by omega) e6 (va_eqt e7) (n_els_at e9) hA
  have ho := va_eqt e1
  have hO := va_Oof e0 ha hA
  refine ⟨(a, t, v), ha, by rw [← va_fe ha]; exact ho, ?_, va_eqv e8 ha, va_Zof (hts _ (n_tl_in hi)) (hts _ (n_tw_in (by simp [n_tw]))) ha hA, hO, n_OF ha (va_eqt e3) hA, n_OF ha ho hA, n_OF ha (va_eqv e2 ht) hA, va_Oof e4 ht hA, n_OF ht hv hA, n_OF ht (va_eqt e5) hA, hT⟩
  obtain ⟨cell, h1, -⟩ := hO
  exact (Array.getElem?_eq_some_iff.mp h1).1
theorem n_ar {C n : String} {v : List Int32} (hv : v.length < 1000) (hA : ∀ a : Nat, a < s.heap.size → ¬ A a) (hl : (Cond.laysStatic C n "[I").before args s = true) (hini : (Cond.initialized C).before args s = true) (hN : ∀ w ∈ n_arr C n v, w.before args s = true) :
    ∃ t : Nat, va_Z C n "[I" (.ref t) A s s.heap ∧ va_T .int t v.length (fun j => .int (v.getD j 0)) A s s.heap := by
  have e0 : (Cond.arrayOf (.static C n "[I") .int).before args s = true := hN _ (by simp [n_arr])
  have e1 : (Cond.eq (.length (.static C n "[I")) (.int (nI v.length))).before args s = true := hN _ (List.mem_append_left _ (by simp))
  obtain ⟨t, ht, hT⟩ := va_Tof (A := A) (f := fun j => .int (v.getD j 0)) (by omega) e0 (va_eqt e1) (n_els_at (fun w hw => hN w (List.mem_append_right _ hw))) hA
  exact ⟨t, va_Zof hl hini ht hA, hT⟩
end NST
