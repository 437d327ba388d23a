/-! TEXT, 1: words and signs; the class's Token.written -/
def cL (i : Nat) : List Nat := ([[], [], [], [], [59], [104, 111, 117, 115, 101], [104, 111, 108, 101], [115, 101, 101, 115], [112, 97, 110, 101], [105, 110], [102, 114, 97, 109, 101], [102, 101, 97, 115, 116], [116, 97, 120], [99, 97, 114, 114, 105, 101, 114, 115], [115, 101, 101, 100], [108, 97, 119], [100, 117, 101], [115, 110, 97, 112], [104, 97, 114, 109], [112, 97, 110, 101, 115], [115, 105, 122, 101], [112, 108, 97, 99, 101], [102, 97, 114], [110, 105, 103, 104, 116], [40], [41], [111, 114], [97, 110, 100], [110, 111, 116], [60], [60, 61], [61], [60, 62], [62, 61], [62], [43], [45], [42], [47]] : List (List Nat)).getD i []
def rW (k : Nat) : List Nat := ([[104, 111, 117, 115, 101], [104, 111, 108, 101], [112, 97, 110, 101], [102, 114, 97, 109, 101], [102, 101, 97, 115, 116], [116, 97, 120], [99, 97, 114, 114, 105, 101, 114, 115], [115, 101, 101, 100], [108, 97, 119], [115, 101, 101, 115], [105, 110], [100, 117, 101], [115, 110, 97, 112], [104, 97, 114, 109], [97, 110, 100], [111, 114], [110, 111, 116], [112, 97, 110, 101, 115], [115, 105, 122, 101], [112, 108, 97, 99, 101], [102, 97, 114], [110, 105, 103, 104, 116]] : List (List Nat)).getD k []
def rO (k : Nat) : Nat := ([0, 6, 11, 16, 22, 28, 32, 41, 46, 50, 55, 58, 62, 67, 72, 76, 79, 83, 89, 94, 100, 104, 110] : List Nat).getD k 0
/-- the class's Token of the reference's word -/
def kwT (k : Nat) : Nat := ([5, 6, 8, 10, 11, 12, 13, 14, 15, 7, 9, 16, 17, 18, 27, 26, 28, 19, 20, 21, 22, 23] : List Nat).getD k 0
def wtkG (l : List Nat) : Nat → Nat → Nat
  | 0, _ => 1
  | m + 1, i => if cL i = l then i else wtkG l m (i + 1)
/-- the Token that is written so, 1 if none is -/
def wtk (l : List Nat) : Nat := wtkG l 35 4
theorem wtkG_ex (l : List Nat) : ∀ (m i : Nat), wtkG l m i = 1 ∨ ∃ j, i ≤ j ∧ j < i + m ∧ cL j = l ∧ wtkG l m i = j
  | 0, _ => Or.inl rfl
  | m + 1, i => by
    unfold wtkG
    by_cases c : cL i = l
    · rw [if_pos c]; exact Or.inr ⟨i, by omega, by omega, c, rfl⟩
    · rw [if_neg c]
      rcases wtkG_ex l m (i + 1) with h | ⟨j, h1, h2, h3, h4⟩
      · exact Or.inl h
      · exact Or.inr ⟨j, by omega, by omega, h3, h4⟩
theorem kw_yes : ∀ k, k < 22 → wtk (rW k) = kwT k := by decide +kernel
theorem kw_tab : ∀ i, i < 39 → 4 ≤ i → (cL i).headD 0 < 97 ∨ (List.range 22).any (fun k => decide (rW k = cL i)) = true := by decide +kernel
theorem kw_no {l : List Nat} (hh : 97 ≤ l.headD 0) (h : ∀ k, k < 22 → rW k ≠ l) : wtk l = 1 := by
  rcases wtkG_ex l 35 4 with q | ⟨j, j1, j2, j3, -⟩
  · exact q
  · rcases kw_tab j (by omega) j1 with q | q
    · rw [j3] at q; omega
    · obtain ⟨k, k1, k2⟩ := List.any_eq_true.mp q
      exact absurd ((of_decide_eq_true k2).trans j3) (h k (List.mem_range.mp k1))
def sub (B : Nat → Nat) (p e : Nat) : List Nat := (List.range (e - p)).map (fun j => B (p + j))
theorem sub_len (B : Nat → Nat) (p e : Nat) : (sub B p e).length = e - p := by simp [sub]
theorem sub_get {B : Nat → Nat} {p e j : Nat} (h : j < e - p) : (sub B p e).getD j 0 = B (p + j) := by
  unfold sub
  rw [List.getD_eq_getElem?_getD, List.getElem?_map, List.getElem?_range h]
  rfl
theorem list_ext {l m : List Nat} (h1 : l.length = m.length) (h2 : ∀ j, j < l.length → l.getD j 0 = m.getD j 0) : l = m := by
  apply List.ext_getElem h1
  intro i hi hj
  have := h2 i hi
  rw [List.getD_eq_getElem?_getD, List.getD_eq_getElem?_getD, List.getElem?_eq_getElem hi, List.getElem?_eq_getElem hj] at this
  exact this
theorem sub_eq {l : List Nat} {B : Nat → Nat} {p e : Nat} : l = sub B p e ↔ (l.length = e - p ∧ ∀ j, j < l.length → l.getD j 0 = B (p + j)) := by
  constructor
  · intro h
    have h1 : l.length = e - p := by rw [h, sub_len]
    refine ⟨h1, fun j hj => ?_⟩
    rw [h, sub_get (by omega)]
  · rintro ⟨h1, h2⟩
    refine list_ext (by rw [sub_len]; exact h1) (fun j hj => ?_)
    rw [h2 j hj, sub_get (by omega)]
theorem sub_head {B : Nat → Nat} {p e : Nat} (h : p < e) : (sub B p e).headD 0 = B p := by
  have := sub_get (B := B) (p := p) (e := e) (j := 0) (by omega)
  rw [Nat.add_zero] at this
  rw [← this]
  cases hs : sub B p e with
  | nil => rfl
  | cons a r => rfl
/-- a letter and a byte -/
theorem sby_eq {c b : Nat} (hc : c < 128) (hb : b < 256) : (nI c = sby b) = (c = b) := by
  unfold sby
  by_cases h : b < 128
  · rw [if_pos h, p_eq (by omega) (by omega)]
  · rw [if_neg h]
    refine propext ⟨fun e => ?_, fun e => by omega⟩
    exfalso
    have : ∀ b < 128, ∀ c < 128, ¬ nI c = nI (128 + b) - 256 := by decide +kernel
    exact this (b - 128) (by omega) c hc (by rw [show 128 + (b - 128) = b by omega]; exact e)
theorem wr_gen {A40 A83 : Int32 → Int32 → Int32 → Int32 → aS → Option (Option Nat × aS)} {N16 : Int32 → Int32 → aS → Option (Option Nat × aS)} {chr : Int32 → aS → Option (Int32 × aS)} {i : Nat} {l : List Nat}
    (h40 : ∀ y1 y2 y4 y5 s, A40 y1 y2 y4 y5 s = (if y5 < y4 then (if y4 = (y2 - y1) then ((chr y5 s).bind fun q => (if (a_in (y1 + y5) 700) = true then (if q.1 = (a_gI q.2 1 ((y1 + y5)).toNatClampNeg) then A40 y1 y2 y4 (y5 + 1) q.2 else A83 y1 y2 y4 y5 q.2) else none)) else A83 y1 y2 y4 y5 s) else A83 y1 y2 y4 y5 s))
    (h83 : ∀ y1 y2 y4 y5 s, A83 y1 y2 y4 y5 s = (if 0 < y5 then (if y5 = y4 then some ((some i), s) else N16 y1 y2 s) else N16 y1 y2 s))
    (hchr : ∀ j s, j < l.length → chr (nI j) s = some (nI (l.getD j 0), s)) (hl0 : 0 < l.length) (hl : l.length ≤ 10) (hl8 : ∀ j, j < l.length → l.getD j 0 < 128)
    {s : aS} {B : Nat → Nat} {p e : Nat} (hpe : p ≤ e) (he : e ≤ 700) (hB : ∀ k, p ≤ k → k < e → B k < 256 ∧ a_gI s 1 k = sby (B k)) : A40 (nI p) (nI e) (nI l.length) 0 s = if l = sub B p e then some (some i, s) else N16 (nI p) (nI e) s := by
  by_cases hlen : l.length = e - p
  · have key : ∀ (m j : Nat), j + m = l.length → (∀ x, x < j → l.getD x 0 = B (p + x)) → A40 (nI p) (nI e) (nI l.length) (nI j) s = if l = sub B p e then some (some i, s) else N16 (nI p) (nI e) s := by
      intro m
      induction m with
      | zero =>
        intro j hj hx
        rw [h40, if_neg (nI_nlt (by omega) (by omega)), h83, if_pos (show (0 : Int32) < nI j from nI_lt (a := 0) (by omega) (by omega)), if_pos (by rw [show j = l.length by omega]), if_pos (sub_eq.mpr ⟨hlen, fun x hx1 => hx x (by omega)⟩)]
      | succ m ih =>
        intro j hj hx
        obtain ⟨b1, b2⟩ := hB (p + j) (by omega) (by omega)
        rw [h40, if_pos (nI_lt (by omega) (by omega)), p_sub hpe, if_pos (by rw [hlen]), hchr j s (by omega), Option.bind_some, p_add, if_pos (by rw [p_in (by omega)]; omega), p_at (by omega), b2, nI_1]
        dsimp only
        by_cases c : l.getD j 0 = B (p + j)
        · rw [if_pos (by rw [sby_eq (hl8 j (by omega)) b1]; exact c)]
          exact ih (j + 1) (by omega) (fun x hx1 => by
            by_cases cx : x = j
            · subst cx; exact c
            · exact hx x (by omega))
        · rw [if_neg (by rw [sby_eq (hl8 j (by omega)) b1]; exact c), if_neg (show ¬ l = sub B p e from fun q => c ((sub_eq.mp q).2 j (by omega))), h83]
          by_cases c0 : 0 < j
          · rw [if_pos (show (0 : Int32) < nI j from nI_lt (a := 0) c0 (by omega)), if_neg (by rw [p_eq (by omega) (by omega)]; omega)]
          · rw [if_neg (show ¬ (0 : Int32) < nI j from nI_nlt (b := j) (a := 0) (by omega) (by decide))]
    exact key l.length 0 (by omega) (fun x hx => by omega)
  · rw [h40, if_pos (show (0 : Int32) < nI l.length from nI_lt (a := 0) hl0 (by omega)), p_sub hpe, if_neg (by rw [p_eq (by omega) (by omega)]; exact hlen), h83, if_neg (show ¬ (0 : Int32) < 0 by decide), if_neg (fun q => hlen (sub_eq.mp q).1)]
theorem chr_4 (j : Nat) (s : aS) (hj : j < (cL 4).length) : Str_charAt_3004 (nI j) s = some (nI ((cL 4).getD j 0), s) := by
  have hj' : j < 1 := hj
  have f1 : ∀ j < 1, (((([59] : List Int32).getD j 0) &&& 255).toUInt32 % 65536).toInt32 = nI ((cL 4).getD j 0) := by decide +kernel
  have f2 : ∀ j < 1, a_rok 5 (nI ((cL 4).getD j 0)) = true := by decide +kernel
  rw [e_Str_charAt_3004, e_Str_isLatin1_3004, if_neg (by decide), if_pos rfl, Option.bind_some]
  dsimp only
  rw [if_neg (by decide), e_Lat_charAt_4004, e_Str_checkIndex, e_Pre_checkIndex, if_neg (show ¬ nI j < 0 from nI_pos (by omega)), if_pos (nI_lt hj' (by decide)), Option.bind_some, Option.bind_some, if_pos (by rw [p_in (by omega)]; exact hj'), p_at (by omega), f1 j hj', if_pos (f2 j hj'), Option.bind_some]
  dsimp only
  rw [if_pos (f2 j hj')]
theorem chr_5 (j : Nat) (s : aS) (hj : j < (cL 5).length) : Str_charAt_3005 (nI j) s = some (nI ((cL 5).getD j 0), s) := by
  have hj' : j < 5 := hj
  have f1 : ∀ j < 5, (((([104, 111, 117, 115, 101] : List Int32).getD j 0) &&& 255).toUInt32 % 65536).toInt32 = nI ((cL 5).getD j 0) := by decide +kernel
  have f2 : ∀ j < 5, a_rok 5 (nI ((cL 5).getD j 0)) = true := by decide +kernel
  rw [e_Str_charAt_3005, e_Str_isLatin1_3005, if_neg (by decide), if_pos rfl, Option.bind_some]
  dsimp only
  rw [if_neg (by decide), e_Lat_charAt_4005, e_Str_checkIndex, e_Pre_checkIndex, if_neg (show ¬ nI j < 0 from nI_pos (by omega)), if_pos (nI_lt hj' (by decide)), Option.bind_some, Option.bind_some, if_pos (by rw [p_in (by omega)]; exact hj'), p_at (by omega), f1 j hj', if_pos (f2 j hj'), Option.bind_some]
  dsimp only
  rw [if_pos (f2 j hj')]
theorem chr_6 (j : Nat) (s : aS) (hj : j < (cL 6).length) : Str_charAt_3006 (nI j) s = some (nI ((cL 6).getD j 0), s) := by
  have hj' : j < 4 := hj
  have f1 : ∀ j < 4, (((([104, 111, 108, 101] : List Int32).getD j 0) &&& 255).toUInt32 % 65536).toInt32 = nI ((cL 6).getD j 0) := by decide +kernel
  have f2 : ∀ j < 4, a_rok 5 (nI ((cL 6).getD j 0)) = true := by decide +kernel
  rw [e_Str_charAt_3006, e_Str_isLatin1_3006, if_neg (by decide), if_pos rfl, Option.bind_some]
  dsimp only
  rw [if_neg (by decide), e_Lat_charAt_4006, e_Str_checkIndex, e_Pre_checkIndex, if_neg (show ¬ nI j < 0 from nI_pos (by omega)), if_pos (nI_lt hj' (by decide)), Option.bind_some, Option.bind_some, if_pos (by rw [p_in (by omega)]; exact hj'), p_at (by omega), f1 j hj', if_pos (f2 j hj'), Option.bind_some]
  dsimp only
  rw [if_pos (f2 j hj')]
theorem chr_7 (j : Nat) (s : aS) (hj : j < (cL 7).length) : Str_charAt_3007 (nI j) s = some (nI ((cL 7).getD j 0), s) := by
  have hj' : j < 4 := hj
  have f1 : ∀ j < 4, (((([115, 101, 101, 115] : List Int32).getD j 0) &&& 255).toUInt32 % 65536).toInt32 = nI ((cL 7).getD j 0) := by decide +kernel
  have f2 : ∀ j < 4, a_rok 5 (nI ((cL 7).getD j 0)) = true := by decide +kernel
  rw [e_Str_charAt_3007, e_Str_isLatin1_3007, if_neg (by decide), if_pos rfl, Option.bind_some]
  dsimp only
  rw [if_neg (by decide), e_Lat_charAt_4007, e_Str_checkIndex, e_Pre_checkIndex, if_neg (show ¬ nI j < 0 from nI_pos (by omega)), if_pos (nI_lt hj' (by decide)), Option.bind_some, Option.bind_some, if_pos (by rw [p_in (by omega)]; exact hj'), p_at (by omega), f1 j hj', if_pos (f2 j hj'), Option.bind_some]
  dsimp only
  rw [if_pos (f2 j hj')]
theorem chr_8 (j : Nat) (s : aS) (hj : j < (cL 8).length) : Str_charAt_3008 (nI j) s = some (nI ((cL 8).getD j 0), s) := by
  have hj' : j < 4 := hj
  have f1 : ∀ j < 4, (((([112, 97, 110, 101] : List Int32).getD j 0) &&& 255).toUInt32 % 65536).toInt32 = nI ((cL 8).getD j 0) := by decide +kernel
  have f2 : ∀ j < 4, a_rok 5 (nI ((cL 8).getD j 0)) = true := by decide +kernel
  rw [e_Str_charAt_3008, e_Str_isLatin1_3008, if_neg (by decide), if_pos rfl, Option.bind_some]
  dsimp only
  rw [if_neg (by decide), e_Lat_charAt_4008, e_Str_checkIndex, e_Pre_checkIndex, if_neg (show ¬ nI j < 0 from nI_pos (by omega)), if_pos (nI_lt hj' (by decide)), Option.bind_some, Option.bind_some, if_pos (by rw [p_in (by omega)]; exact hj'), p_at (by omega), f1 j hj', if_pos (f2 j hj'), Option.bind_some]
  dsimp only
  rw [if_pos (f2 j hj')]
theorem chr_9 (j : Nat) (s : aS) (hj : j < (cL 9).length) : Str_charAt_3009 (nI j) s = some (nI ((cL 9).getD j 0), s) := by
  have hj' : j < 2 := hj
  have f1 : ∀ j < 2, (((([105, 110] : List Int32).getD j 0) &&& 255).toUInt32 % 65536).toInt32 = nI ((cL 9).getD j 0) := by decide +kernel
  have f2 : ∀ j < 2, a_rok 5 (nI ((cL 9).getD j 0)) = true := by decide +kernel
  rw [e_Str_charAt_3009, e_Str_isLatin1_3009, if_neg (by decide), if_pos rfl, Option.bind_some]
  dsimp only
  rw [if_neg (by decide), e_Lat_charAt_4009, e_Str_checkIndex, e_Pre_checkIndex, if_neg (show ¬ nI j < 0 from nI_pos (by omega)), if_pos (nI_lt hj' (by decide)), Option.bind_some, Option.bind_some, if_pos (by rw [p_in (by omega)]; exact hj'), p_at (by omega), f1 j hj', if_pos (f2 j hj'), Option.bind_some]
  dsimp only
  rw [if_pos (f2 j hj')]
theorem chr_10 (j : Nat) (s : aS) (hj : j < (cL 10).length) : Str_charAt_3010 (nI j) s = some (nI ((cL 10).getD j 0), s) := by
  have hj' : j < 5 := hj
  have f1 : ∀ j < 5, (((([102, 114, 97, 109, 101] : List Int32).getD j 0) &&& 255).toUInt32 % 65536).toInt32 = nI ((cL 10).getD j 0) := by decide +kernel
  have f2 : ∀ j < 5, a_rok 5 (nI ((cL 10).getD j 0)) = true := by decide +kernel
  rw [e_Str_charAt_3010, e_Str_isLatin1_3010, if_neg (by decide), if_pos rfl, Option.bind_some]
  dsimp only
  rw [if_neg (by decide), e_Lat_charAt_4010, e_Str_checkIndex, e_Pre_checkIndex, if_neg (show ¬ nI j < 0 from nI_pos (by omega)), if_pos (nI_lt hj' (by decide)), Option.bind_some, Option.bind_some, if_pos (by rw [p_in (by omega)]; exact hj'), p_at (by omega), f1 j hj', if_pos (f2 j hj'), Option.bind_some]
  dsimp only
  rw [if_pos (f2 j hj')]
theorem chr_11 (j : Nat) (s : aS) (hj : j < (cL 11).length) : Str_charAt_3011 (nI j) s = some (nI ((cL 11).getD j 0), s) := by
  have hj' : j < 5 := hj
  have f1 : ∀ j < 5, (((([102, 101, 97, 115, 116] : List Int32).getD j 0) &&& 255).toUInt32 % 65536).toInt32 = nI ((cL 11).getD j 0) := by decide +kernel
  have f2 : ∀ j < 5, a_rok 5 (nI ((cL 11).getD j 0)) = true := by decide +kernel
  rw [e_Str_charAt_3011, e_Str_isLatin1_3011, if_neg (by decide), if_pos rfl, Option.bind_some]
  dsimp only
  rw [if_neg (by decide), e_Lat_charAt_4011, e_Str_checkIndex, e_Pre_checkIndex, if_neg (show ¬ nI j < 0 from nI_pos (by omega)), if_pos (nI_lt hj' (by decide)), Option.bind_some, Option.bind_some, if_pos (by rw [p_in (by omega)]; exact hj'), p_at (by omega), f1 j hj', if_pos (f2 j hj'), Option.bind_some]
  dsimp only
  rw [if_pos (f2 j hj')]
theorem chr_12 (j : Nat) (s : aS) (hj : j < (cL 12).length) : Str_charAt_3012 (nI j) s = some (nI ((cL 12).getD j 0), s) := by
  have hj' : j < 3 := hj
  have f1 : ∀ j < 3, (((([116, 97, 120] : List Int32).getD j 0) &&& 255).toUInt32 % 65536).toInt32 = nI ((cL 12).getD j 0) := by decide +kernel
  have f2 : ∀ j < 3, a_rok 5 (nI ((cL 12).getD j 0)) = true := by decide +kernel
  rw [e_Str_charAt_3012, e_Str_isLatin1_3012, if_neg (by decide), if_pos rfl, Option.bind_some]
  dsimp only
  rw [if_neg (by decide), e_Lat_charAt_4012, e_Str_checkIndex, e_Pre_checkIndex, if_neg (show ¬ nI j < 0 from nI_pos (by omega)), if_pos (nI_lt hj' (by decide)), Option.bind_some, Option.bind_some, if_pos (by rw [p_in (by omega)]; exact hj'), p_at (by omega), f1 j hj', if_pos (f2 j hj'), Option.bind_some]
  dsimp only
  rw [if_pos (f2 j hj')]
theorem chr_13 (j : Nat) (s : aS) (hj : j < (cL 13).length) : Str_charAt_3013 (nI j) s = some (nI ((cL 13).getD j 0), s) := by
  have hj' : j < 8 := hj
  have f1 : ∀ j < 8, (((([99, 97, 114, 114, 105, 101, 114, 115] : List Int32).getD j 0) &&& 255).toUInt32 % 65536).toInt32 = nI ((cL 13).getD j 0) := by decide +kernel
  have f2 : ∀ j < 8, a_rok 5 (nI ((cL 13).getD j 0)) = true := by decide +kernel
  rw [e_Str_charAt_3013, e_Str_isLatin1_3013, if_neg (by decide), if_pos rfl, Option.bind_some]
  dsimp only
  rw [if_neg (by decide), e_Lat_charAt_4013, e_Str_checkIndex, e_Pre_checkIndex, if_neg (show ¬ nI j < 0 from nI_pos (by omega)), if_pos (nI_lt hj' (by decide)), Option.bind_some, Option.bind_some, if_pos (by rw [p_in (by omega)]; exact hj'), p_at (by omega), f1 j hj', if_pos (f2 j hj'), Option.bind_some]
  dsimp only
  rw [if_pos (f2 j hj')]
theorem chr_14 (j : Nat) (s : aS) (hj : j < (cL 14).length) : Str_charAt_3014 (nI j) s = some (nI ((cL 14).getD j 0), s) := by
  have hj' : j < 4 := hj
  have f1 : ∀ j < 4, (((([115, 101, 101, 100] : List Int32).getD j 0) &&& 255).toUInt32 % 65536).toInt32 = nI ((cL 14).getD j 0) := by decide +kernel
  have f2 : ∀ j < 4, a_rok 5 (nI ((cL 14).getD j 0)) = true := by decide +kernel
  rw [e_Str_charAt_3014, e_Str_isLatin1_3014, if_neg (by decide), if_pos rfl, Option.bind_some]
  dsimp only
  rw [if_neg (by decide), e_Lat_charAt_4014, e_Str_checkIndex, e_Pre_checkIndex, if_neg (show ¬ nI j < 0 from nI_pos (by omega)), if_pos (nI_lt hj' (by decide)), Option.bind_some, Option.bind_some, if_pos (by rw [p_in (by omega)]; exact hj'), p_at (by omega), f1 j hj', if_pos (f2 j hj'), Option.bind_some]
  dsimp only
  rw [if_pos (f2 j hj')]
theorem chr_15 (j : Nat) (s : aS) (hj : j < (cL 15).length) : Str_charAt_3015 (nI j) s = some (nI ((cL 15).getD j 0), s) := by
  have hj' : j < 3 := hj
  have f1 : ∀ j < 3, (((([108, 97, 119] : List Int32).getD j 0) &&& 255).toUInt32 % 65536).toInt32 = nI ((cL 15).getD j 0) := by decide +kernel
  have f2 : ∀ j < 3, a_rok 5 (nI ((cL 15).getD j 0)) = true := by decide +kernel
  rw [e_Str_charAt_3015, e_Str_isLatin1_3015, if_neg (by decide), if_pos rfl, Option.bind_some]
  dsimp only
  rw [if_neg (by decide), e_Lat_charAt_4015, e_Str_checkIndex, e_Pre_checkIndex, if_neg (show ¬ nI j < 0 from nI_pos (by omega)), if_pos (nI_lt hj' (by decide)), Option.bind_some, Option.bind_some, if_pos (by rw [p_in (by omega)]; exact hj'), p_at (by omega), f1 j hj', if_pos (f2 j hj'), Option.bind_some]
  dsimp only
  rw [if_pos (f2 j hj')]
theorem chr_16 (j : Nat) (s : aS) (hj : j < (cL 16).length) : Str_charAt_3016 (nI j) s = some (nI ((cL 16).getD j 0), s) := by
  have hj' : j < 3 := hj
  have f1 : ∀ j < 3, (((([100, 117, 101] : List Int32).getD j 0) &&& 255).toUInt32 % 65536).toInt32 = nI ((cL 16).getD j 0) := by decide +kernel
  have f2 : ∀ j < 3, a_rok 5 (nI ((cL 16).getD j 0)) = true := by decide +kernel
  rw [e_Str_charAt_3016, e_Str_isLatin1_3016, if_neg (by decide), if_pos rfl, Option.bind_some]
  dsimp only
  rw [if_neg (by decide), e_Lat_charAt_4016, e_Str_checkIndex, e_Pre_checkIndex, if_neg (show ¬ nI j < 0 from nI_pos (by omega)), if_pos (nI_lt hj' (by decide)), Option.bind_some, Option.bind_some, if_pos (by rw [p_in (by omega)]; exact hj'), p_at (by omega), f1 j hj', if_pos (f2 j hj'), Option.bind_some]
  dsimp only
  rw [if_pos (f2 j hj')]
theorem chr_17 (j : Nat) (s : aS) (hj : j < (cL 17).length) : Str_charAt_3017 (nI j) s = some (nI ((cL 17).getD j 0), s) := by
  have hj' : j < 4 := hj
  have f1 : ∀ j < 4, (((([115, 110, 97, 112] : List Int32).getD j 0) &&& 255).toUInt32 % 65536).toInt32 = nI ((cL 17).getD j 0) := by decide +kernel
  have f2 : ∀ j < 4, a_rok 5 (nI ((cL 17).getD j 0)) = true := by decide +kernel
  rw [e_Str_charAt_3017, e_Str_isLatin1_3017, if_neg (by decide), if_pos rfl, Option.bind_some]
  dsimp only
  rw [if_neg (by decide), e_Lat_charAt_4017, e_Str_checkIndex, e_Pre_checkIndex, if_neg (show ¬ nI j < 0 from nI_pos (by omega)), if_pos (nI_lt hj' (by decide)), Option.bind_some, Option.bind_some, if_pos (by rw [p_in (by omega)]; exact hj'), p_at (by omega), f1 j hj', if_pos (f2 j hj'), Option.bind_some]
  dsimp only
  rw [if_pos (f2 j hj')]
theorem chr_18 (j : Nat) (s : aS) (hj : j < (cL 18).length) : Str_charAt_3018 (nI j) s = some (nI ((cL 18).getD j 0), s) := by
  have hj' : j < 4 := hj
  have f1 : ∀ j < 4, (((([104, 97, 114, 109] : List Int32).getD j 0) &&& 255).toUInt32 % 65536).toInt32 = nI ((cL 18).getD j 0) := by decide +kernel
  have f2 : ∀ j < 4, a_rok 5 (nI ((cL 18).getD j 0)) = true := by decide +kernel
  rw [e_Str_charAt_3018, e_Str_isLatin1_3018, if_neg (by decide), if_pos rfl, Option.bind_some]
  dsimp only
  rw [if_neg (by decide), e_Lat_charAt_4018, e_Str_checkIndex, e_Pre_checkIndex, if_neg (show ¬ nI j < 0 from nI_pos (by omega)), if_pos (nI_lt hj' (by decide)), Option.bind_some, Option.bind_some, if_pos (by rw [p_in (by omega)]; exact hj'), p_at (by omega), f1 j hj', if_pos (f2 j hj'), Option.bind_some]
  dsimp only
  rw [if_pos (f2 j hj')]
theorem chr_19 (j : Nat) (s : aS) (hj : j < (cL 19).length) : Str_charAt_3019 (nI j) s = some (nI ((cL 19).getD j 0), s) := by
  have hj' : j < 5 := hj
  have f1 : ∀ j < 5, (((([112, 97, 110, 101, 115] : List Int32).getD j 0) &&& 255).toUInt32 % 65536).toInt32 = nI ((cL 19).getD j 0) := by decide +kernel
  have f2 : ∀ j < 5, a_rok 5 (nI ((cL 19).getD j 0)) = true := by decide +kernel
  rw [e_Str_charAt_3019, e_Str_isLatin1_3019, if_neg (by decide), if_pos rfl, Option.bind_some]
  dsimp only
  rw [if_neg (by decide), e_Lat_charAt_4019, e_Str_checkIndex, e_Pre_checkIndex, if_neg (show ¬ nI j < 0 from nI_pos (by omega)), if_pos (nI_lt hj' (by decide)), Option.bind_some, Option.bind_some, if_pos (by rw [p_in (by omega)]; exact hj'), p_at (by omega), f1 j hj', if_pos (f2 j hj'), Option.bind_some]
  dsimp only
  rw [if_pos (f2 j hj')]
theorem chr_20 (j : Nat) (s : aS) (hj : j < (cL 20).length) : Str_charAt_3020 (nI j) s = some (nI ((cL 20).getD j 0), s) := by
  have hj' : j < 4 := hj
  have f1 : ∀ j < 4, (((([115, 105, 122, 101] : List Int32).getD j 0) &&& 255).toUInt32 % 65536).toInt32 = nI ((cL 20).getD j 0) := by decide +kernel
  have f2 : ∀ j < 4, a_rok 5 (nI ((cL 20).getD j 0)) = true := by decide +kernel
  rw [e_Str_charAt_3020, e_Str_isLatin1_3020, if_neg (by decide), if_pos rfl, Option.bind_some]
  dsimp only
  rw [if_neg (by decide), e_Lat_charAt_4020, e_Str_checkIndex, e_Pre_checkIndex, if_neg (show ¬ nI j < 0 from nI_pos (by omega)), if_pos (nI_lt hj' (by decide)), Option.bind_some, Option.bind_some, if_pos (by rw [p_in (by omega)]; exact hj'), p_at (by omega), f1 j hj', if_pos (f2 j hj'), Option.bind_some]
  dsimp only
  rw [if_pos (f2 j hj')]
theorem chr_21 (j : Nat) (s : aS) (hj : j < (cL 21).length) : Str_charAt_3021 (nI j) s = some (nI ((cL 21).getD j 0), s) := by
  have hj' : j < 5 := hj
  have f1 : ∀ j < 5, (((([112, 108, 97, 99, 101] : List Int32).getD j 0) &&& 255).toUInt32 % 65536).toInt32 = nI ((cL 21).getD j 0) := by decide +kernel
  have f2 : ∀ j < 5, a_rok 5 (nI ((cL 21).getD j 0)) = true := by decide +kernel
  rw [e_Str_charAt_3021, e_Str_isLatin1_3021, if_neg (by decide), if_pos rfl, Option.bind_some]
  dsimp only
  rw [if_neg (by decide), e_Lat_charAt_4021, e_Str_checkIndex, e_Pre_checkIndex, if_neg (show ¬ nI j < 0 from nI_pos (by omega)), if_pos (nI_lt hj' (by decide)), Option.bind_some, Option.bind_some, if_pos (by rw [p_in (by omega)]; exact hj'), p_at (by omega), f1 j hj', if_pos (f2 j hj'), Option.bind_some]
  dsimp only
  rw [if_pos (f2 j hj')]
theorem chr_22 (j : Nat) (s : aS) (hj : j < (cL 22).length) : Str_charAt_3022 (nI j) s = some (nI ((cL 22).getD j 0), s) := by
  have hj' : j < 3 := hj
  have f1 : ∀ j < 3, (((([102, 97, 114] : List Int32).getD j 0) &&& 255).toUInt32 % 65536).toInt32 = nI ((cL 22).getD j 0) := by decide +kernel
  have f2 : ∀ j < 3, a_rok 5 (nI ((cL 22).getD j 0)) = true := by decide +kernel
  rw [e_Str_charAt_3022, e_Str_isLatin1_3022, if_neg (by decide), if_pos rfl, Option.bind_some]
  dsimp only
  rw [if_neg (by decide), e_Lat_charAt_4022, e_Str_checkIndex, e_Pre_checkIndex, if_neg (show ¬ nI j < 0 from nI_pos (by omega)), if_pos (nI_lt hj' (by decide)), Option.bind_some, Option.bind_some, if_pos (by rw [p_in (by omega)]; exact hj'), p_at (by omega), f1 j hj', if_pos (f2 j hj'), Option.bind_some]
  dsimp only
  rw [if_pos (f2 j hj')]
theorem chr_23 (j : Nat) (s : aS) (hj : j < (cL 23).length) : Str_charAt_3023 (nI j) s = some (nI ((cL 23).getD j 0), s) := by
  have hj' : j < 5 := hj
  have f1 : ∀ j < 5, (((([110, 105, 103, 104, 116] : List Int32).getD j 0) &&& 255).toUInt32 % 65536).toInt32 = nI ((cL 23).getD j 0) := by decide +kernel
  have f2 : ∀ j < 5, a_rok 5 (nI ((cL 23).getD j 0)) = true := by decide +kernel
  rw [e_Str_charAt_3023, e_Str_isLatin1_3023, if_neg (by decide), if_pos rfl, Option.bind_some]
  dsimp only
  rw [if_neg (by decide), e_Lat_charAt_4023, e_Str_checkIndex, e_Pre_checkIndex, if_neg (show ¬ nI j < 0 from nI_pos (by omega)), if_pos (nI_lt hj' (by decide)), Option.bind_some, Option.bind_some, if_pos (by rw [p_in (by omega)]; exact hj'), p_at (by omega), f1 j hj', if_pos (f2 j hj'), Option.bind_some]
  dsimp only
  rw [if_pos (f2 j hj')]
theorem chr_24 (j : Nat) (s : aS) (hj : j < (cL 24).length) : Str_charAt_3024 (nI j) s = some (nI ((cL 24).getD j 0), s) := by
  have hj' : j < 1 := hj
  have f1 : ∀ j < 1, (((([40] : List Int32).getD j 0) &&& 255).toUInt32 % 65536).toInt32 = nI ((cL 24).getD j 0) := by decide +kernel
  have f2 : ∀ j < 1, a_rok 5 (nI ((cL 24).getD j 0)) = true := by decide +kernel
  rw [e_Str_charAt_3024, e_Str_isLatin1_3024, if_neg (by decide), if_pos rfl, Option.bind_some]
  dsimp only
  rw [if_neg (by decide), e_Lat_charAt_4024, e_Str_checkIndex, e_Pre_checkIndex, if_neg (show ¬ nI j < 0 from nI_pos (by omega)), if_pos (nI_lt hj' (by decide)), Option.bind_some, Option.bind_some, if_pos (by rw [p_in (by omega)]; exact hj'), p_at (by omega), f1 j hj', if_pos (f2 j hj'), Option.bind_some]
  dsimp only
  rw [if_pos (f2 j hj')]
theorem chr_25 (j : Nat) (s : aS) (hj : j < (cL 25).length) : Str_charAt_3025 (nI j) s = some (nI ((cL 25).getD j 0), s) := by
  have hj' : j < 1 := hj
  have f1 : ∀ j < 1, (((([41] : List Int32).getD j 0) &&& 255).toUInt32 % 65536).toInt32 = nI ((cL 25).getD j 0) := by decide +kernel
  have f2 : ∀ j < 1, a_rok 5 (nI ((cL 25).getD j 0)) = true := by decide +kernel
  rw [e_Str_charAt_3025, e_Str_isLatin1_3025, if_neg (by decide), if_pos rfl, Option.bind_some]
  dsimp only
  rw [if_neg (by decide), e_Lat_charAt_4025, e_Str_checkIndex, e_Pre_checkIndex, if_neg (show ¬ nI j < 0 from nI_pos (by omega)), if_pos (nI_lt hj' (by decide)), Option.bind_some, Option.bind_some, if_pos (by rw [p_in (by omega)]; exact hj'), p_at (by omega), f1 j hj', if_pos (f2 j hj'), Option.bind_some]
  dsimp only
  rw [if_pos (f2 j hj')]
theorem chr_26 (j : Nat) (s : aS) (hj : j < (cL 26).length) : Str_charAt_3026 (nI j) s = some (nI ((cL 26).getD j 0), s) := by
  have hj' : j < 2 := hj
  have f1 : ∀ j < 2, (((([111, 114] : List Int32).getD j 0) &&& 255).toUInt32 % 65536).toInt32 = nI ((cL 26).getD j 0) := by decide +kernel
  have f2 : ∀ j < 2, a_rok 5 (nI ((cL 26).getD j 0)) = true := by decide +kernel
  rw [e_Str_charAt_3026, e_Str_isLatin1_3026, if_neg (by decide), if_pos rfl, Option.bind_some]
  dsimp only
  rw [if_neg (by decide), e_Lat_charAt_4026, e_Str_checkIndex, e_Pre_checkIndex, if_neg (show ¬ nI j < 0 from nI_pos (by omega)), if_pos (nI_lt hj' (by decide)), Option.bind_some, Option.bind_some, if_pos (by rw [p_in (by omega)]; exact hj'), p_at (by omega), f1 j hj', if_pos (f2 j hj'), Option.bind_some]
  dsimp only
  rw [if_pos (f2 j hj')]
theorem chr_27 (j : Nat) (s : aS) (hj : j < (cL 27).length) : Str_charAt_3027 (nI j) s = some (nI ((cL 27).getD j 0), s) := by
  have hj' : j < 3 := hj
  have f1 : ∀ j < 3, (((([97, 110, 100] : List Int32).getD j 0) &&& 255).toUInt32 % 65536).toInt32 = nI ((cL 27).getD j 0) := by decide +kernel
  have f2 : ∀ j < 3, a_rok 5 (nI ((cL 27).getD j 0)) = true := by decide +kernel
  rw [e_Str_charAt_3027, e_Str_isLatin1_3027, if_neg (by decide), if_pos rfl, Option.bind_some]
  dsimp only
  rw [if_neg (by decide), e_Lat_charAt_4027, e_Str_checkIndex, e_Pre_checkIndex, if_neg (show ¬ nI j < 0 from nI_pos (by omega)), if_pos (nI_lt hj' (by decide)), Option.bind_some, Option.bind_some, if_pos (by rw [p_in (by omega)]; exact hj'), p_at (by omega), f1 j hj', if_pos (f2 j hj'), Option.bind_some]
  dsimp only
  rw [if_pos (f2 j hj')]
theorem chr_28 (j : Nat) (s : aS) (hj : j < (cL 28).length) : Str_charAt_3028 (nI j) s = some (nI ((cL 28).getD j 0), s) := by
  have hj' : j < 3 := hj
  have f1 : ∀ j < 3, (((([110, 111, 116] : List Int32).getD j 0) &&& 255).toUInt32 % 65536).toInt32 = nI ((cL 28).getD j 0) := by decide +kernel
  have f2 : ∀ j < 3, a_rok 5 (nI ((cL 28).getD j 0)) = true := by decide +kernel
  rw [e_Str_charAt_3028, e_Str_isLatin1_3028, if_neg (by decide), if_pos rfl, Option.bind_some]
  dsimp only
  rw [if_neg (by decide), e_Lat_charAt_4028, e_Str_checkIndex, e_Pre_checkIndex, if_neg (show ¬ nI j < 0 from nI_pos (by omega)), if_pos (nI_lt hj' (by decide)), Option.bind_some, Option.bind_some, if_pos (by rw [p_in (by omega)]; exact hj'), p_at (by omega), f1 j hj', if_pos (f2 j hj'), Option.bind_some]
  dsimp only
  rw [if_pos (f2 j hj')]
theorem chr_29 (j : Nat) (s : aS) (hj : j < (cL 29).length) : Str_charAt_3029 (nI j) s = some (nI ((cL 29).getD j 0), s) := by
  have hj' : j < 1 := hj
  have f1 : ∀ j < 1, (((([60] : List Int32).getD j 0) &&& 255).toUInt32 % 65536).toInt32 = nI ((cL 29).getD j 0) := by decide +kernel
  have f2 : ∀ j < 1, a_rok 5 (nI ((cL 29).getD j 0)) = true := by decide +kernel
  rw [e_Str_charAt_3029, e_Str_isLatin1_3029, if_neg (by decide), if_pos rfl, Option.bind_some]
  dsimp only
  rw [if_neg (by decide), e_Lat_charAt_4029, e_Str_checkIndex, e_Pre_checkIndex, if_neg (show ¬ nI j < 0 from nI_pos (by omega)), if_pos (nI_lt hj' (by decide)), Option.bind_some, Option.bind_some, if_pos (by rw [p_in (by omega)]; exact hj'), p_at (by omega), f1 j hj', if_pos (f2 j hj'), Option.bind_some]
  dsimp only
  rw [if_pos (f2 j hj')]
theorem chr_30 (j : Nat) (s : aS) (hj : j < (cL 30).length) : Str_charAt_3030 (nI j) s = some (nI ((cL 30).getD j 0), s) := by
  have hj' : j < 2 := hj
  have f1 : ∀ j < 2, (((([60, 61] : List Int32).getD j 0) &&& 255).toUInt32 % 65536).toInt32 = nI ((cL 30).getD j 0) := by decide +kernel
  have f2 : ∀ j < 2, a_rok 5 (nI ((cL 30).getD j 0)) = true := by decide +kernel
  rw [e_Str_charAt_3030, e_Str_isLatin1_3030, if_neg (by decide), if_pos rfl, Option.bind_some]
  dsimp only
  rw [if_neg (by decide), e_Lat_charAt_4030, e_Str_checkIndex, e_Pre_checkIndex, if_neg (show ¬ nI j < 0 from nI_pos (by omega)), if_pos (nI_lt hj' (by decide)), Option.bind_some, Option.bind_some, if_pos (by rw [p_in (by omega)]; exact hj'), p_at (by omega), f1 j hj', if_pos (f2 j hj'), Option.bind_some]
  dsimp only
  rw [if_pos (f2 j hj')]
theorem chr_31 (j : Nat) (s : aS) (hj : j < (cL 31).length) : Str_charAt_3031 (nI j) s = some (nI ((cL 31).getD j 0), s) := by
  have hj' : j < 1 := hj
  have f1 : ∀ j < 1, (((([61] : List Int32).getD j 0) &&& 255).toUInt32 % 65536).toInt32 = nI ((cL 31).getD j 0) := by decide +kernel
  have f2 : ∀ j < 1, a_rok 5 (nI ((cL 31).getD j 0)) = true := by decide +kernel
  rw [e_Str_charAt_3031, e_Str_isLatin1_3031, if_neg (by decide), if_pos rfl, Option.bind_some]
  dsimp only
  rw [if_neg (by decide), e_Lat_charAt_4031, e_Str_checkIndex, e_Pre_checkIndex, if_neg (show ¬ nI j < 0 from nI_pos (by omega)), if_pos (nI_lt hj' (by decide)), Option.bind_some, Option.bind_some, if_pos (by rw [p_in (by omega)]; exact hj'), p_at (by omega), f1 j hj', if_pos (f2 j hj'), Option.bind_some]
  dsimp only
  rw [if_pos (f2 j hj')]
theorem chr_32 (j : Nat) (s : aS) (hj : j < (cL 32).length) : Str_charAt_3032 (nI j) s = some (nI ((cL 32).getD j 0), s) := by
  have hj' : j < 2 := hj
  have f1 : ∀ j < 2, (((([60, 62] : List Int32).getD j 0) &&& 255).toUInt32 % 65536).toInt32 = nI ((cL 32).getD j 0) := by decide +kernel
  have f2 : ∀ j < 2, a_rok 5 (nI ((cL 32).getD j 0)) = true := by decide +kernel
  rw [e_Str_charAt_3032, e_Str_isLatin1_3032, if_neg (by decide), if_pos rfl, Option.bind_some]
  dsimp only
  rw [if_neg (by decide), e_Lat_charAt_4032, e_Str_checkIndex, e_Pre_checkIndex, if_neg (show ¬ nI j < 0 from nI_pos (by omega)), if_pos (nI_lt hj' (by decide)), Option.bind_some, Option.bind_some, if_pos (by rw [p_in (by omega)]; exact hj'), p_at (by omega), f1 j hj', if_pos (f2 j hj'), Option.bind_some]
  dsimp only
  rw [if_pos (f2 j hj')]
theorem chr_33 (j : Nat) (s : aS) (hj : j < (cL 33).length) : Str_charAt_3033 (nI j) s = some (nI ((cL 33).getD j 0), s) := by
  have hj' : j < 2 := hj
  have f1 : ∀ j < 2, (((([62, 61] : List Int32).getD j 0) &&& 255).toUInt32 % 65536).toInt32 = nI ((cL 33).getD j 0) := by decide +kernel
  have f2 : ∀ j < 2, a_rok 5 (nI ((cL 33).getD j 0)) = true := by decide +kernel
  rw [e_Str_charAt_3033, e_Str_isLatin1_3033, if_neg (by decide), if_pos rfl, Option.bind_some]
  dsimp only
  rw [if_neg (by decide), e_Lat_charAt_4033, e_Str_checkIndex, e_Pre_checkIndex, if_neg (show ¬ nI j < 0 from nI_pos (by omega)), if_pos (nI_lt hj' (by decide)), Option.bind_some, Option.bind_some, if_pos (by rw [p_in (by omega)]; exact hj'), p_at (by omega), f1 j hj', if_pos (f2 j hj'), Option.bind_some]
  dsimp only
  rw [if_pos (f2 j hj')]
theorem chr_34 (j : Nat) (s : aS) (hj : j < (cL 34).length) : Str_charAt_3034 (nI j) s = some (nI ((cL 34).getD j 0), s) := by
  have hj' : j < 1 := hj
  have f1 : ∀ j < 1, (((([62] : List Int32).getD j 0) &&& 255).toUInt32 % 65536).toInt32 = nI ((cL 34).getD j 0) := by decide +kernel
  have f2 : ∀ j < 1, a_rok 5 (nI ((cL 34).getD j 0)) = true := by decide +kernel
  rw [e_Str_charAt_3034, e_Str_isLatin1_3034, if_neg (by decide), if_pos rfl, Option.bind_some]
  dsimp only
  rw [if_neg (by decide), e_Lat_charAt_4034, e_Str_checkIndex, e_Pre_checkIndex, if_neg (show ¬ nI j < 0 from nI_pos (by omega)), if_pos (nI_lt hj' (by decide)), Option.bind_some, Option.bind_some, if_pos (by rw [p_in (by omega)]; exact hj'), p_at (by omega), f1 j hj', if_pos (f2 j hj'), Option.bind_some]
  dsimp only
  rw [if_pos (f2 j hj')]
theorem chr_35 (j : Nat) (s : aS) (hj : j < (cL 35).length) : Str_charAt_3035 (nI j) s = some (nI ((cL 35).getD j 0), s) := by
  have hj' : j < 1 := hj
  have f1 : ∀ j < 1, (((([43] : List Int32).getD j 0) &&& 255).toUInt32 % 65536).toInt32 = nI ((cL 35).getD j 0) := by decide +kernel
  have f2 : ∀ j < 1, a_rok 5 (nI ((cL 35).getD j 0)) = true := by decide +kernel
  rw [e_Str_charAt_3035, e_Str_isLatin1_3035, if_neg (by decide), if_pos rfl, Option.bind_some]
  dsimp only
  rw [if_neg (by decide), e_Lat_charAt_4035, e_Str_checkIndex, e_Pre_checkIndex, if_neg (show ¬ nI j < 0 from nI_pos (by omega)), if_pos (nI_lt hj' (by decide)), Option.bind_some, Option.bind_some, if_pos (by rw [p_in (by omega)]; exact hj'), p_at (by omega), f1 j hj', if_pos (f2 j hj'), Option.bind_some]
  dsimp only
  rw [if_pos (f2 j hj')]
theorem chr_36 (j : Nat) (s : aS) (hj : j < (cL 36).length) : Str_charAt_3036 (nI j) s = some (nI ((cL 36).getD j 0), s) := by
  have hj' : j < 1 := hj
  have f1 : ∀ j < 1, (((([45] : List Int32).getD j 0) &&& 255).toUInt32 % 65536).toInt32 = nI ((cL 36).getD j 0) := by decide +kernel
  have f2 : ∀ j < 1, a_rok 5 (nI ((cL 36).getD j 0)) = true := by decide +kernel
  rw [e_Str_charAt_3036, e_Str_isLatin1_3036, if_neg (by decide), if_pos rfl, Option.bind_some]
  dsimp only
  rw [if_neg (by decide), e_Lat_charAt_4036, e_Str_checkIndex, e_Pre_checkIndex, if_neg (show ¬ nI j < 0 from nI_pos (by omega)), if_pos (nI_lt hj' (by decide)), Option.bind_some, Option.bind_some, if_pos (by rw [p_in (by omega)]; exact hj'), p_at (by omega), f1 j hj', if_pos (f2 j hj'), Option.bind_some]
  dsimp only
  rw [if_pos (f2 j hj')]
theorem chr_37 (j : Nat) (s : aS) (hj : j < (cL 37).length) : Str_charAt_3037 (nI j) s = some (nI ((cL 37).getD j 0), s) := by
  have hj' : j < 1 := hj
  have f1 : ∀ j < 1, (((([42] : List Int32).getD j 0) &&& 255).toUInt32 % 65536).toInt32 = nI ((cL 37).getD j 0) := by decide +kernel
  have f2 : ∀ j < 1, a_rok 5 (nI ((cL 37).getD j 0)) = true := by decide +kernel
  rw [e_Str_charAt_3037, e_Str_isLatin1_3037, if_neg (by decide), if_pos rfl, Option.bind_some]
  dsimp only
  rw [if_neg (by decide), e_Lat_charAt_4037, e_Str_checkIndex, e_Pre_checkIndex, if_neg (show ¬ nI j < 0 from nI_pos (by omega)), if_pos (nI_lt hj' (by decide)), Option.bind_some, Option.bind_some, if_pos (by rw [p_in (by omega)]; exact hj'), p_at (by omega), f1 j hj', if_pos (f2 j hj'), Option.bind_some]
  dsimp only
  rw [if_pos (f2 j hj')]
theorem chr_38 (j : Nat) (s : aS) (hj : j < (cL 38).length) : Str_charAt_3038 (nI j) s = some (nI ((cL 38).getD j 0), s) := by
  have hj' : j < 1 := hj
  have f1 : ∀ j < 1, (((([47] : List Int32).getD j 0) &&& 255).toUInt32 % 65536).toInt32 = nI ((cL 38).getD j 0) := by decide +kernel
  have f2 : ∀ j < 1, a_rok 5 (nI ((cL 38).getD j 0)) = true := by decide +kernel
  rw [e_Str_charAt_3038, e_Str_isLatin1_3038, if_neg (by decide), if_pos rfl, Option.bind_some]
  dsimp only
  rw [if_neg (by decide), e_Lat_charAt_4038, e_Str_checkIndex, e_Pre_checkIndex, if_neg (show ¬ nI j < 0 from nI_pos (by omega)), if_pos (nI_lt hj' (by decide)), Option.bind_some, Option.bind_some, if_pos (by rw [p_in (by omega)]; exact hj'), p_at (by omega), f1 j hj', if_pos (f2 j hj'), Option.bind_some]
  dsimp only
  rw [if_pos (f2 j hj')]
section WT
variable {s : aS} {B : Nat → Nat} {p e : Nat} (hpe : p ≤ e) (he : e ≤ 700) (hB : ∀ k, p ≤ k → k < e → B k < 256 ∧ a_gI s 1 k = sby (B k))
theorem wt_39 : To_written_1_at16v117 (nI p) (nI e) s = some (some (wtkG (sub B p e) 0 39), s) := by rw [e_To_written_1_at16v117]; rfl
theorem wt_38 (hpe : p ≤ e) (he : e ≤ 700) (hB : ∀ k, p ≤ k → k < e → B k < 256 ∧ a_gI s 1 k = sby (B k)) : To_written_1_at16v114 (nI p) (nI e) s = some (some (wtkG (sub B p e) 1 38), s) := by
  rw [e_To_written_1_at16v114, e_Str_length_3038, e_Str_coder_3038, if_neg (by decide), Option.bind_some, Option.bind_some]
  dsimp only
  rw [show nI 1 >>> ((0 : Int32) &&& 31) = nI (cL 38).length by decide]
  have h := wr_gen (l := cL 38) (i := 38) (fun y1 y2 y4 y5 s => e_To_written_1_at40v115 y1 y2 y4 y5 s) (fun y1 y2 y4 y5 s => e_To_written_1_at83v116 y1 y2 y4 y5 s) (fun j s hj => chr_38 j s hj) (by decide) (by decide) (by decide) hpe he hB
  refine Eq.trans h ?_
  rw [wt_39 (B := B)]
  unfold wtkG
  split <;> rfl
theorem wt_37 (hpe : p ≤ e) (he : e ≤ 700) (hB : ∀ k, p ≤ k → k < e → B k < 256 ∧ a_gI s 1 k = sby (B k)) : To_written_1_at16v111 (nI p) (nI e) s = some (some (wtkG (sub B p e) 2 37), s) := by
  rw [e_To_written_1_at16v111, e_Str_length_3037, e_Str_coder_3037, if_neg (by decide), Option.bind_some, Option.bind_some]
  dsimp only
  rw [show nI 1 >>> ((0 : Int32) &&& 31) = nI (cL 37).length by decide]
  have h := wr_gen (l := cL 37) (i := 37) (fun y1 y2 y4 y5 s => e_To_written_1_at40v112 y1 y2 y4 y5 s) (fun y1 y2 y4 y5 s => e_To_written_1_at83v113 y1 y2 y4 y5 s) (fun j s hj => chr_37 j s hj) (by decide) (by decide) (by decide) hpe he hB
  refine Eq.trans h ?_
  rw [wt_38 hpe he hB]
  unfold wtkG
  split <;> rfl
theorem wt_36 (hpe : p ≤ e) (he : e ≤ 700) (hB : ∀ k, p ≤ k → k < e → B k < 256 ∧ a_gI s 1 k = sby (B k)) : To_written_1_at16v108 (nI p) (nI e) s = some (some (wtkG (sub B p e) 3 36), s) := by
  rw [e_To_written_1_at16v108, e_Str_length_3036, e_Str_coder_3036, if_neg (by decide), Option.bind_some, Option.bind_some]
  dsimp only
  rw [show nI 1 >>> ((0 : Int32) &&& 31) = nI (cL 36).length by decide]
  have h := wr_gen (l := cL 36) (i := 36) (fun y1 y2 y4 y5 s => e_To_written_1_at40v109 y1 y2 y4 y5 s) (fun y1 y2 y4 y5 s => e_To_written_1_at83v110 y1 y2 y4 y5 s) (fun j s hj => chr_36 j s hj) (by decide) (by decide) (by decide) hpe he hB
  refine Eq.trans h ?_
  rw [wt_37 hpe he hB]
  unfold wtkG
  split <;> rfl
theorem wt_35 (hpe : p ≤ e) (he : e ≤ 700) (hB : ∀ k, p ≤ k → k < e → B k < 256 ∧ a_gI s 1 k = sby (B k)) : To_written_1_at16v105 (nI p) (nI e) s = some (some (wtkG (sub B p e) 4 35), s) := by
  rw [e_To_written_1_at16v105, e_Str_length_3035, e_Str_coder_3035, if_neg (by decide), Option.bind_some, Option.bind_some]
  dsimp only
  rw [show nI 1 >>> ((0 : Int32) &&& 31) = nI (cL 35).length by decide]
  have h := wr_gen (l := cL 35) (i := 35) (fun y1 y2 y4 y5 s => e_To_written_1_at40v106 y1 y2 y4 y5 s) (fun y1 y2 y4 y5 s => e_To_written_1_at83v107 y1 y2 y4 y5 s) (fun j s hj => chr_35 j s hj) (by decide) (by decide) (by decide) hpe he hB
  refine Eq.trans h ?_
  rw [wt_36 hpe he hB]
  unfold wtkG
  split <;> rfl
theorem wt_34 (hpe : p ≤ e) (he : e ≤ 700) (hB : ∀ k, p ≤ k → k < e → B k < 256 ∧ a_gI s 1 k = sby (B k)) : To_written_1_at16v102 (nI p) (nI e) s = some (some (wtkG (sub B p e) 5 34), s) := by
  rw [e_To_written_1_at16v102, e_Str_length_3034, e_Str_coder_3034, if_neg (by decide), Option.bind_some, Option.bind_some]
  dsimp only
  rw [show nI 1 >>> ((0 : Int32) &&& 31) = nI (cL 34).length by decide]
  have h := wr_gen (l := cL 34) (i := 34) (fun y1 y2 y4 y5 s => e_To_written_1_at40v103 y1 y2 y4 y5 s) (fun y1 y2 y4 y5 s => e_To_written_1_at83v104 y1 y2 y4 y5 s) (fun j s hj => chr_34 j s hj) (by decide) (by decide) (by decide) hpe he hB
  refine Eq.trans h ?_
  rw [wt_35 hpe he hB]
  unfold wtkG
  split <;> rfl
theorem wt_33 (hpe : p ≤ e) (he : e ≤ 700) (hB : ∀ k, p ≤ k → k < e → B k < 256 ∧ a_gI s 1 k = sby (B k)) : To_written_1_at16v99 (nI p) (nI e) s = some (some (wtkG (sub B p e) 6 33), s) := by
  rw [e_To_written_1_at16v99, e_Str_length_3033, e_Str_coder_3033, if_neg (by decide), Option.bind_some, Option.bind_some]
  dsimp only
  rw [show nI 2 >>> ((0 : Int32) &&& 31) = nI (cL 33).length by decide]
  have h := wr_gen (l := cL 33) (i := 33) (fun y1 y2 y4 y5 s => e_To_written_1_at40v100 y1 y2 y4 y5 s) (fun y1 y2 y4 y5 s => e_To_written_1_at83v101 y1 y2 y4 y5 s) (fun j s hj => chr_33 j s hj) (by decide) (by decide) (by decide) hpe he hB
  refine Eq.trans h ?_
  rw [wt_34 hpe he hB]
  unfold wtkG
  split <;> rfl
theorem wt_32 (hpe : p ≤ e) (he : e ≤ 700) (hB : ∀ k, p ≤ k → k < e → B k < 256 ∧ a_gI s 1 k = sby (B k)) : To_written_1_at16v96 (nI p) (nI e) s = some (some (wtkG (sub B p e) 7 32), s) := by
  rw [e_To_written_1_at16v96, e_Str_length_3032, e_Str_coder_3032, if_neg (by decide), Option.bind_some, Option.bind_some]
  dsimp only
  rw [show nI 2 >>> ((0 : Int32) &&& 31) = nI (cL 32).length by decide]
  have h := wr_gen (l := cL 32) (i := 32) (fun y1 y2 y4 y5 s => e_To_written_1_at40v97 y1 y2 y4 y5 s) (fun y1 y2 y4 y5 s => e_To_written_1_at83v98 y1 y2 y4 y5 s) (fun j s hj => chr_32 j s hj) (by decide) (by decide) (by decide) hpe he hB
  refine Eq.trans h ?_
  rw [wt_33 hpe he hB]
  unfold wtkG
  split <;> rfl
theorem wt_31 (hpe : p ≤ e) (he : e ≤ 700) (hB : ∀ k, p ≤ k → k < e → B k < 256 ∧ a_gI s 1 k = sby (B k)) : To_written_1_at16v93 (nI p) (nI e) s = some (some (wtkG (sub B p e) 8 31), s) := by
  rw [e_To_written_1_at16v93, e_Str_length_3031, e_Str_coder_3031, if_neg (by decide), Option.bind_some, Option.bind_some]
  dsimp only
  rw [show nI 1 >>> ((0 : Int32) &&& 31) = nI (cL 31).length by decide]
  have h := wr_gen (l := cL 31) (i := 31) (fun y1 y2 y4 y5 s => e_To_written_1_at40v94 y1 y2 y4 y5 s) (fun y1 y2 y4 y5 s => e_To_written_1_at83v95 y1 y2 y4 y5 s) (fun j s hj => chr_31 j s hj) (by decide) (by decide) (by decide) hpe he hB
  refine Eq.trans h ?_
  rw [wt_32 hpe he hB]
  unfold wtkG
  split <;> rfl
theorem wt_30 (hpe : p ≤ e) (he : e ≤ 700) (hB : ∀ k, p ≤ k → k < e → B k < 256 ∧ a_gI s 1 k = sby (B k)) : To_written_1_at16v90 (nI p) (nI e) s = some (some (wtkG (sub B p e) 9 30), s) := by
  rw [e_To_written_1_at16v90, e_Str_length_3030, e_Str_coder_3030, if_neg (by decide), Option.bind_some, Option.bind_some]
  dsimp only
  rw [show nI 2 >>> ((0 : Int32) &&& 31) = nI (cL 30).length by decide]
  have h := wr_gen (l := cL 30) (i := 30) (fun y1 y2 y4 y5 s => e_To_written_1_at40v91 y1 y2 y4 y5 s) (fun y1 y2 y4 y5 s => e_To_written_1_at83v92 y1 y2 y4 y5 s) (fun j s hj => chr_30 j s hj) (by decide) (by decide) (by decide) hpe he hB
  refine Eq.trans h ?_
  rw [wt_31 hpe he hB]
  unfold wtkG
  split <;> rfl
theorem wt_29 (hpe : p ≤ e) (he : e ≤ 700) (hB : ∀ k, p ≤ k → k < e → B k < 256 ∧ a_gI s 1 k = sby (B k)) : To_written_1_at16v87 (nI p) (nI e) s = some (some (wtkG (sub B p e) 10 29), s) := by
  rw [e_To_written_1_at16v87, e_Str_length_3029, e_Str_coder_3029, if_neg (by decide), Option.bind_some, Option.bind_some]
  dsimp only
  rw [show nI 1 >>> ((0 : Int32) &&& 31) = nI (cL 29).length by decide]
  have h := wr_gen (l := cL 29) (i := 29) (fun y1 y2 y4 y5 s => e_To_written_1_at40v88 y1 y2 y4 y5 s) (fun y1 y2 y4 y5 s => e_To_written_1_at83v89 y1 y2 y4 y5 s) (fun j s hj => chr_29 j s hj) (by decide) (by decide) (by decide) hpe he hB
  refine Eq.trans h ?_
  rw [wt_30 hpe he hB]
  unfold wtkG
  split <;> rfl
theorem wt_28 (hpe : p ≤ e) (he : e ≤ 700) (hB : ∀ k, p ≤ k → k < e → B k < 256 ∧ a_gI s 1 k = sby (B k)) : To_written_1_at16v84 (nI p) (nI e) s = some (some (wtkG (sub B p e) 11 28), s) := by
  rw [e_To_written_1_at16v84, e_Str_length_3028, e_Str_coder_3028, if_neg (by decide), Option.bind_some, Option.bind_some]
  dsimp only
  rw [show nI 3 >>> ((0 : Int32) &&& 31) = nI (cL 28).length by decide]
  have h := wr_gen (l := cL 28) (i := 28) (fun y1 y2 y4 y5 s => e_To_written_1_at40v85 y1 y2 y4 y5 s) (fun y1 y2 y4 y5 s => e_To_written_1_at83v86 y1 y2 y4 y5 s) (fun j s hj => chr_28 j s hj) (by decide) (by decide) (by decide) hpe he hB
  refine Eq.trans h ?_
  rw [wt_29 hpe he hB]
  unfold wtkG
  split <;> rfl
theorem wt_27 (hpe : p ≤ e) (he : e ≤ 700) (hB : ∀ k, p ≤ k → k < e → B k < 256 ∧ a_gI s 1 k = sby (B k)) : To_written_1_at16v81 (nI p) (nI e) s = some (some (wtkG (sub B p e) 12 27), s) := by
  rw [e_To_written_1_at16v81, e_Str_length_3027, e_Str_coder_3027, if_neg (by decide), Option.bind_some, Option.bind_some]
  dsimp only
  rw [show nI 3 >>> ((0 : Int32) &&& 31) = nI (cL 27).length by decide]
  have h := wr_gen (l := cL 27) (i := 27) (fun y1 y2 y4 y5 s => e_To_written_1_at40v82 y1 y2 y4 y5 s) (fun y1 y2 y4 y5 s => e_To_written_1_at83v83 y1 y2 y4 y5 s) (fun j s hj => chr_27 j s hj) (by decide) (by decide) (by decide) hpe he hB
  refine Eq.trans h ?_
  rw [wt_28 hpe he hB]
  unfold wtkG
  split <;> rfl
theorem wt_26 (hpe : p ≤ e) (he : e ≤ 700) (hB : ∀ k, p ≤ k → k < e → B k < 256 ∧ a_gI s 1 k = sby (B k)) : To_written_1_at16v78 (nI p) (nI e) s = some (some (wtkG (sub B p e) 13 26), s) := by
  rw [e_To_written_1_at16v78, e_Str_length_3026, e_Str_coder_3026, if_neg (by decide), Option.bind_some, Option.bind_some]
  dsimp only
  rw [show nI 2 >>> ((0 : Int32) &&& 31) = nI (cL 26).length by decide]
  have h := wr_gen (l := cL 26) (i := 26) (fun y1 y2 y4 y5 s => e_To_written_1_at40v79 y1 y2 y4 y5 s) (fun y1 y2 y4 y5 s => e_To_written_1_at83v80 y1 y2 y4 y5 s) (fun j s hj => chr_26 j s hj) (by decide) (by decide) (by decide) hpe he hB
  refine Eq.trans h ?_
  rw [wt_27 hpe he hB]
  unfold wtkG
  split <;> rfl
theorem wt_25 (hpe : p ≤ e) (he : e ≤ 700) (hB : ∀ k, p ≤ k → k < e → B k < 256 ∧ a_gI s 1 k = sby (B k)) : To_written_1_at16v75 (nI p) (nI e) s = some (some (wtkG (sub B p e) 14 25), s) := by
  rw [e_To_written_1_at16v75, e_Str_length_3025, e_Str_coder_3025, if_neg (by decide), Option.bind_some, Option.bind_some]
  dsimp only
  rw [show nI 1 >>> ((0 : Int32) &&& 31) = nI (cL 25).length by decide]
  have h := wr_gen (l := cL 25) (i := 25) (fun y1 y2 y4 y5 s => e_To_written_1_at40v76 y1 y2 y4 y5 s) (fun y1 y2 y4 y5 s => e_To_written_1_at83v77 y1 y2 y4 y5 s) (fun j s hj => chr_25 j s hj) (by decide) (by decide) (by decide) hpe he hB
  refine Eq.trans h ?_
  rw [wt_26 hpe he hB]
  unfold wtkG
  split <;> rfl
theorem wt_24 (hpe : p ≤ e) (he : e ≤ 700) (hB : ∀ k, p ≤ k → k < e → B k < 256 ∧ a_gI s 1 k = sby (B k)) : To_written_1_at16v72 (nI p) (nI e) s = some (some (wtkG (sub B p e) 15 24), s) := by
  rw [e_To_written_1_at16v72, e_Str_length_3024, e_Str_coder_3024, if_neg (by decide), Option.bind_some, Option.bind_some]
  dsimp only
  rw [show nI 1 >>> ((0 : Int32) &&& 31) = nI (cL 24).length by decide]
  have h := wr_gen (l := cL 24) (i := 24) (fun y1 y2 y4 y5 s => e_To_written_1_at40v73 y1 y2 y4 y5 s) (fun y1 y2 y4 y5 s => e_To_written_1_at83v74 y1 y2 y4 y5 s) (fun j s hj => chr_24 j s hj) (by decide) (by decide) (by decide) hpe he hB
  refine Eq.trans h ?_
  rw [wt_25 hpe he hB]
  unfold wtkG
  split <;> rfl
theorem wt_23 (hpe : p ≤ e) (he : e ≤ 700) (hB : ∀ k, p ≤ k → k < e → B k < 256 ∧ a_gI s 1 k = sby (B k)) : To_written_1_at16v69 (nI p) (nI e) s = some (some (wtkG (sub B p e) 16 23), s) := by
  rw [e_To_written_1_at16v69, e_Str_length_3023, e_Str_coder_3023, if_neg (by decide), Option.bind_some, Option.bind_some]
  dsimp only
  rw [show nI 5 >>> ((0 : Int32) &&& 31) = nI (cL 23).length by decide]
  have h := wr_gen (l := cL 23) (i := 23) (fun y1 y2 y4 y5 s => e_To_written_1_at40v70 y1 y2 y4 y5 s) (fun y1 y2 y4 y5 s => e_To_written_1_at83v71 y1 y2 y4 y5 s) (fun j s hj => chr_23 j s hj) (by decide) (by decide) (by decide) hpe he hB
  refine Eq.trans h ?_
  rw [wt_24 hpe he hB]
  unfold wtkG
  split <;> rfl
theorem wt_22 (hpe : p ≤ e) (he : e ≤ 700) (hB : ∀ k, p ≤ k → k < e → B k < 256 ∧ a_gI s 1 k = sby (B k)) : To_written_1_at16v66 (nI p) (nI e) s = some (some (wtkG (sub B p e) 17 22), s) := by
  rw [e_To_written_1_at16v66, e_Str_length_3022, e_Str_coder_3022, if_neg (by decide), Option.bind_some, Option.bind_some]
  dsimp only
  rw [show nI 3 >>> ((0 : Int32) &&& 31) = nI (cL 22).length by decide]
  have h := wr_gen (l := cL 22) (i := 22) (fun y1 y2 y4 y5 s => e_To_written_1_at40v67 y1 y2 y4 y5 s) (fun y1 y2 y4 y5 s => e_To_written_1_at83v68 y1 y2 y4 y5 s) (fun j s hj => chr_22 j s hj) (by decide) (by decide) (by decide) hpe he hB
  refine Eq.trans h ?_
  rw [wt_23 hpe he hB]
  unfold wtkG
  split <;> rfl
theorem wt_21 (hpe : p ≤ e) (he : e ≤ 700) (hB : ∀ k, p ≤ k → k < e → B k < 256 ∧ a_gI s 1 k = sby (B k)) : To_written_1_at16v63 (nI p) (nI e) s = some (some (wtkG (sub B p e) 18 21), s) := by
  rw [e_To_written_1_at16v63, e_Str_length_3021, e_Str_coder_3021, if_neg (by decide), Option.bind_some, Option.bind_some]
  dsimp only
  rw [show nI 5 >>> ((0 : Int32) &&& 31) = nI (cL 21).length by decide]
  have h := wr_gen (l := cL 21) (i := 21) (fun y1 y2 y4 y5 s => e_To_written_1_at40v64 y1 y2 y4 y5 s) (fun y1 y2 y4 y5 s => e_To_written_1_at83v65 y1 y2 y4 y5 s) (fun j s hj => chr_21 j s hj) (by decide) (by decide) (by decide) hpe he hB
  refine Eq.trans h ?_
  rw [wt_22 hpe he hB]
  unfold wtkG
  split <;> rfl
theorem wt_20 (hpe : p ≤ e) (he : e ≤ 700) (hB : ∀ k, p ≤ k → k < e → B k < 256 ∧ a_gI s 1 k = sby (B k)) : To_written_1_at16v60 (nI p) (nI e) s = some (some (wtkG (sub B p e) 19 20), s) := by
  rw [e_To_written_1_at16v60, e_Str_length_3020, e_Str_coder_3020, if_neg (by decide), Option.bind_some, Option.bind_some]
  dsimp only
  rw [show nI 4 >>> ((0 : Int32) &&& 31) = nI (cL 20).length by decide]
  have h := wr_gen (l := cL 20) (i := 20) (fun y1 y2 y4 y5 s => e_To_written_1_at40v61 y1 y2 y4 y5 s) (fun y1 y2 y4 y5 s => e_To_written_1_at83v62 y1 y2 y4 y5 s) (fun j s hj => chr_20 j s hj) (by decide) (by decide) (by decide) hpe he hB
  refine Eq.trans h ?_
  rw [wt_21 hpe he hB]
  unfold wtkG
  split <;> rfl
theorem wt_19 (hpe : p ≤ e) (he : e ≤ 700) (hB : ∀ k, p ≤ k → k < e → B k < 256 ∧ a_gI s 1 k = sby (B k)) : To_written_1_at16v57 (nI p) (nI e) s = some (some (wtkG (sub B p e) 20 19), s) := by
  rw [e_To_written_1_at16v57, e_Str_length_3019, e_Str_coder_3019, if_neg (by decide), Option.bind_some, Option.bind_some]
  dsimp only
  rw [show nI 5 >>> ((0 : Int32) &&& 31) = nI (cL 19).length by decide]
  have h := wr_gen (l := cL 19) (i := 19) (fun y1 y2 y4 y5 s => e_To_written_1_at40v58 y1 y2 y4 y5 s) (fun y1 y2 y4 y5 s => e_To_written_1_at83v59 y1 y2 y4 y5 s) (fun j s hj => chr_19 j s hj) (by decide) (by decide) (by decide) hpe he hB
  refine Eq.trans h ?_
  rw [wt_20 hpe he hB]
  unfold wtkG
  split <;> rfl
theorem wt_18 (hpe : p ≤ e) (he : e ≤ 700) (hB : ∀ k, p ≤ k → k < e → B k < 256 ∧ a_gI s 1 k = sby (B k)) : To_written_1_at16v54 (nI p) (nI e) s = some (some (wtkG (sub B p e) 21 18), s) := by
  rw [e_To_written_1_at16v54, e_Str_length_3018, e_Str_coder_3018, if_neg (by decide), Option.bind_some, Option.bind_some]
  dsimp only
  rw [show nI 4 >>> ((0 : Int32) &&& 31) = nI (cL 18).length by decide]
  have h := wr_gen (l := cL 18) (i := 18) (fun y1 y2 y4 y5 s => e_To_written_1_at40v55 y1 y2 y4 y5 s) (fun y1 y2 y4 y5 s => e_To_written_1_at83v56 y1 y2 y4 y5 s) (fun j s hj => chr_18 j s hj) (by decide) (by decide) (by decide) hpe he hB
  refine Eq.trans h ?_
  rw [wt_19 hpe he hB]
  unfold wtkG
  split <;> rfl
theorem wt_17 (hpe : p ≤ e) (he : e ≤ 700) (hB : ∀ k, p ≤ k → k < e → B k < 256 ∧ a_gI s 1 k = sby (B k)) : To_written_1_at16v51 (nI p) (nI e) s = some (some (wtkG (sub B p e) 22 17), s) := by
  rw [e_To_written_1_at16v51, e_Str_length_3017, e_Str_coder_3017, if_neg (by decide), Option.bind_some, Option.bind_some]
  dsimp only
  rw [show nI 4 >>> ((0 : Int32) &&& 31) = nI (cL 17).length by decide]
  have h := wr_gen (l := cL 17) (i := 17) (fun y1 y2 y4 y5 s => e_To_written_1_at40v52 y1 y2 y4 y5 s) (fun y1 y2 y4 y5 s => e_To_written_1_at83v53 y1 y2 y4 y5 s) (fun j s hj => chr_17 j s hj) (by decide) (by decide) (by decide) hpe he hB
  refine Eq.trans h ?_
  rw [wt_18 hpe he hB]
  unfold wtkG
  split <;> rfl
theorem wt_16 (hpe : p ≤ e) (he : e ≤ 700) (hB : ∀ k, p ≤ k → k < e → B k < 256 ∧ a_gI s 1 k = sby (B k)) : To_written_1_at16v48 (nI p) (nI e) s = some (some (wtkG (sub B p e) 23 16), s) := by
  rw [e_To_written_1_at16v48, e_Str_length_3016, e_Str_coder_3016, if_neg (by decide), Option.bind_some, Option.bind_some]
  dsimp only
  rw [show nI 3 >>> ((0 : Int32) &&& 31) = nI (cL 16).length by decide]
  have h := wr_gen (l := cL 16) (i := 16) (fun y1 y2 y4 y5 s => e_To_written_1_at40v49 y1 y2 y4 y5 s) (fun y1 y2 y4 y5 s => e_To_written_1_at83v50 y1 y2 y4 y5 s) (fun j s hj => chr_16 j s hj) (by decide) (by decide) (by decide) hpe he hB
  refine Eq.trans h ?_
  rw [wt_17 hpe he hB]
  unfold wtkG
  split <;> rfl
theorem wt_15 (hpe : p ≤ e) (he : e ≤ 700) (hB : ∀ k, p ≤ k → k < e → B k < 256 ∧ a_gI s 1 k = sby (B k)) : To_written_1_at16v45 (nI p) (nI e) s = some (some (wtkG (sub B p e) 24 15), s) := by
  rw [e_To_written_1_at16v45, e_Str_length_3015, e_Str_coder_3015, if_neg (by decide), Option.bind_some, Option.bind_some]
  dsimp only
  rw [show nI 3 >>> ((0 : Int32) &&& 31) = nI (cL 15).length by decide]
  have h := wr_gen (l := cL 15) (i := 15) (fun y1 y2 y4 y5 s => e_To_written_1_at40v46 y1 y2 y4 y5 s) (fun y1 y2 y4 y5 s => e_To_written_1_at83v47 y1 y2 y4 y5 s) (fun j s hj => chr_15 j s hj) (by decide) (by decide) (by decide) hpe he hB
  refine Eq.trans h ?_
  rw [wt_16 hpe he hB]
  unfold wtkG
  split <;> rfl
theorem wt_14 (hpe : p ≤ e) (he : e ≤ 700) (hB : ∀ k, p ≤ k → k < e → B k < 256 ∧ a_gI s 1 k = sby (B k)) : To_written_1_at16v42 (nI p) (nI e) s = some (some (wtkG (sub B p e) 25 14), s) := by
  rw [e_To_written_1_at16v42, e_Str_length_3014, e_Str_coder_3014, if_neg (by decide), Option.bind_some, Option.bind_some]
  dsimp only
  rw [show nI 4 >>> ((0 : Int32) &&& 31) = nI (cL 14).length by decide]
  have h := wr_gen (l := cL 14) (i := 14) (fun y1 y2 y4 y5 s => e_To_written_1_at40v43 y1 y2 y4 y5 s) (fun y1 y2 y4 y5 s => e_To_written_1_at83v44 y1 y2 y4 y5 s) (fun j s hj => chr_14 j s hj) (by decide) (by decide) (by decide) hpe he hB
  refine Eq.trans h ?_
  rw [wt_15 hpe he hB]
  unfold wtkG
  split <;> rfl
theorem wt_13 (hpe : p ≤ e) (he : e ≤ 700) (hB : ∀ k, p ≤ k → k < e → B k < 256 ∧ a_gI s 1 k = sby (B k)) : To_written_1_at16v39 (nI p) (nI e) s = some (some (wtkG (sub B p e) 26 13), s) := by
  rw [e_To_written_1_at16v39, e_Str_length_3013, e_Str_coder_3013, if_neg (by decide), Option.bind_some, Option.bind_some]
  dsimp only
  rw [show nI 8 >>> ((0 : Int32) &&& 31) = nI (cL 13).length by decide]
  have h := wr_gen (l := cL 13) (i := 13) (fun y1 y2 y4 y5 s => e_To_written_1_at40v40 y1 y2 y4 y5 s) (fun y1 y2 y4 y5 s => e_To_written_1_at83v41 y1 y2 y4 y5 s) (fun j s hj => chr_13 j s hj) (by decide) (by decide) (by decide) hpe he hB
  refine Eq.trans h ?_
  rw [wt_14 hpe he hB]
  unfold wtkG
  split <;> rfl
theorem wt_12 (hpe : p ≤ e) (he : e ≤ 700) (hB : ∀ k, p ≤ k → k < e → B k < 256 ∧ a_gI s 1 k = sby (B k)) : To_written_1_at16v36 (nI p) (nI e) s = some (some (wtkG (sub B p e) 27 12), s) := by
  rw [e_To_written_1_at16v36, e_Str_length_3012, e_Str_coder_3012, if_neg (by decide), Option.bind_some, Option.bind_some]
  dsimp only
  rw [show nI 3 >>> ((0 : Int32) &&& 31) = nI (cL 12).length by decide]
  have h := wr_gen (l := cL 12) (i := 12) (fun y1 y2 y4 y5 s => e_To_written_1_at40v37 y1 y2 y4 y5 s) (fun y1 y2 y4 y5 s => e_To_written_1_at83v38 y1 y2 y4 y5 s) (fun j s hj => chr_12 j s hj) (by decide) (by decide) (by decide) hpe he hB
  refine Eq.trans h ?_
  rw [wt_13 hpe he hB]
  unfold wtkG
  split <;> rfl
theorem wt_11 (hpe : p ≤ e) (he : e ≤ 700) (hB : ∀ k, p ≤ k → k < e → B k < 256 ∧ a_gI s 1 k = sby (B k)) : To_written_1_at16v33 (nI p) (nI e) s = some (some (wtkG (sub B p e) 28 11), s) := by
  rw [e_To_written_1_at16v33, e_Str_length_3011, e_Str_coder_3011, if_neg (by decide), Option.bind_some, Option.bind_some]
  dsimp only
  rw [show nI 5 >>> ((0 : Int32) &&& 31) = nI (cL 11).length by decide]
  have h := wr_gen (l := cL 11) (i := 11) (fun y1 y2 y4 y5 s => e_To_written_1_at40v34 y1 y2 y4 y5 s) (fun y1 y2 y4 y5 s => e_To_written_1_at83v35 y1 y2 y4 y5 s) (fun j s hj => chr_11 j s hj) (by decide) (by decide) (by decide) hpe he hB
  refine Eq.trans h ?_
  rw [wt_12 hpe he hB]
  unfold wtkG
  split <;> rfl
theorem wt_10 (hpe : p ≤ e) (he : e ≤ 700) (hB : ∀ k, p ≤ k → k < e → B k < 256 ∧ a_gI s 1 k = sby (B k)) : To_written_1_at16v30 (nI p) (nI e) s = some (some (wtkG (sub B p e) 29 10), s) := by
  rw [e_To_written_1_at16v30, e_Str_length_3010, e_Str_coder_3010, if_neg (by decide), Option.bind_some, Option.bind_some]
  dsimp only
  rw [show nI 5 >>> ((0 : Int32) &&& 31) = nI (cL 10).length by decide]
  have h := wr_gen (l := cL 10) (i := 10) (fun y1 y2 y4 y5 s => e_To_written_1_at40v31 y1 y2 y4 y5 s) (fun y1 y2 y4 y5 s => e_To_written_1_at83v32 y1 y2 y4 y5 s) (fun j s hj => chr_10 j s hj) (by decide) (by decide) (by decide) hpe he hB
  refine Eq.trans h ?_
  rw [wt_11 hpe he hB]
  unfold wtkG
  split <;> rfl
theorem wt_9 (hpe : p ≤ e) (he : e ≤ 700) (hB : ∀ k, p ≤ k → k < e → B k < 256 ∧ a_gI s 1 k = sby (B k)) : To_written_1_at16v27 (nI p) (nI e) s = some (some (wtkG (sub B p e) 30 9), s) := by
  rw [e_To_written_1_at16v27, e_Str_length_3009, e_Str_coder_3009, if_neg (by decide), Option.bind_some, Option.bind_some]
  dsimp only
  rw [show nI 2 >>> ((0 : Int32) &&& 31) = nI (cL 9).length by decide]
  have h := wr_gen (l := cL 9) (i := 9) (fun y1 y2 y4 y5 s => e_To_written_1_at40v28 y1 y2 y4 y5 s) (fun y1 y2 y4 y5 s => e_To_written_1_at83v29 y1 y2 y4 y5 s) (fun j s hj => chr_9 j s hj) (by decide) (by decide) (by decide) hpe he hB
  refine Eq.trans h ?_
  rw [wt_10 hpe he hB]
  unfold wtkG
  split <;> rfl
theorem wt_8 (hpe : p ≤ e) (he : e ≤ 700) (hB : ∀ k, p ≤ k → k < e → B k < 256 ∧ a_gI s 1 k = sby (B k)) : To_written_1_at16v24 (nI p) (nI e) s = some (some (wtkG (sub B p e) 31 8), s) := by
  rw [e_To_written_1_at16v24, e_Str_length_3008, e_Str_coder_3008, if_neg (by decide), Option.bind_some, Option.bind_some]
  dsimp only
  rw [show nI 4 >>> ((0 : Int32) &&& 31) = nI (cL 8).length by decide]
  have h := wr_gen (l := cL 8) (i := 8) (fun y1 y2 y4 y5 s => e_To_written_1_at40v25 y1 y2 y4 y5 s) (fun y1 y2 y4 y5 s => e_To_written_1_at83v26 y1 y2 y4 y5 s) (fun j s hj => chr_8 j s hj) (by decide) (by decide) (by decide) hpe he hB
  refine Eq.trans h ?_
  rw [wt_9 hpe he hB]
  unfold wtkG
  split <;> rfl
theorem wt_7 (hpe : p ≤ e) (he : e ≤ 700) (hB : ∀ k, p ≤ k → k < e → B k < 256 ∧ a_gI s 1 k = sby (B k)) : To_written_1_at16v21 (nI p) (nI e) s = some (some (wtkG (sub B p e) 32 7), s) := by
  rw [e_To_written_1_at16v21, e_Str_length_3007, e_Str_coder_3007, if_neg (by decide), Option.bind_some, Option.bind_some]
  dsimp only
  rw [show nI 4 >>> ((0 : Int32) &&& 31) = nI (cL 7).length by decide]
  have h := wr_gen (l := cL 7) (i := 7) (fun y1 y2 y4 y5 s => e_To_written_1_at40v22 y1 y2 y4 y5 s) (fun y1 y2 y4 y5 s => e_To_written_1_at83v23 y1 y2 y4 y5 s) (fun j s hj => chr_7 j s hj) (by decide) (by decide) (by decide) hpe he hB
  refine Eq.trans h ?_
  rw [wt_8 hpe he hB]
  unfold wtkG
  split <;> rfl
theorem wt_6 (hpe : p ≤ e) (he : e ≤ 700) (hB : ∀ k, p ≤ k → k < e → B k < 256 ∧ a_gI s 1 k = sby (B k)) : To_written_1_at16v18 (nI p) (nI e) s = some (some (wtkG (sub B p e) 33 6), s) := by
  rw [e_To_written_1_at16v18, e_Str_length_3006, e_Str_coder_3006, if_neg (by decide), Option.bind_some, Option.bind_some]
  dsimp only
  rw [show nI 4 >>> ((0 : Int32) &&& 31) = nI (cL 6).length by decide]
  have h := wr_gen (l := cL 6) (i := 6) (fun y1 y2 y4 y5 s => e_To_written_1_at40v19 y1 y2 y4 y5 s) (fun y1 y2 y4 y5 s => e_To_written_1_at83v20 y1 y2 y4 y5 s) (fun j s hj => chr_6 j s hj) (by decide) (by decide) (by decide) hpe he hB
  refine Eq.trans h ?_
  rw [wt_7 hpe he hB]
  unfold wtkG
  split <;> rfl
theorem wt_5 (hpe : p ≤ e) (he : e ≤ 700) (hB : ∀ k, p ≤ k → k < e → B k < 256 ∧ a_gI s 1 k = sby (B k)) : To_written_1_at16v15 (nI p) (nI e) s = some (some (wtkG (sub B p e) 34 5), s) := by
  rw [e_To_written_1_at16v15, e_Str_length_3005, e_Str_coder_3005, if_neg (by decide), Option.bind_some, Option.bind_some]
  dsimp only
  rw [show nI 5 >>> ((0 : Int32) &&& 31) = nI (cL 5).length by decide]
  have h := wr_gen (l := cL 5) (i := 5) (fun y1 y2 y4 y5 s => e_To_written_1_at40v16 y1 y2 y4 y5 s) (fun y1 y2 y4 y5 s => e_To_written_1_at83v17 y1 y2 y4 y5 s) (fun j s hj => chr_5 j s hj) (by decide) (by decide) (by decide) hpe he hB
  refine Eq.trans h ?_
  rw [wt_6 hpe he hB]
  unfold wtkG
  split <;> rfl
theorem wt_4 (hpe : p ≤ e) (he : e ≤ 700) (hB : ∀ k, p ≤ k → k < e → B k < 256 ∧ a_gI s 1 k = sby (B k)) : To_written_1_at16v12 (nI p) (nI e) s = some (some (wtkG (sub B p e) 35 4), s) := by
  rw [e_To_written_1_at16v12, e_Str_length_3004, e_Str_coder_3004, if_neg (by decide), Option.bind_some, Option.bind_some]
  dsimp only
  rw [show nI 1 >>> ((0 : Int32) &&& 31) = nI (cL 4).length by decide]
  have h := wr_gen (l := cL 4) (i := 4) (fun y1 y2 y4 y5 s => e_To_written_1_at40v13 y1 y2 y4 y5 s) (fun y1 y2 y4 y5 s => e_To_written_1_at83v14 y1 y2 y4 y5 s) (fun j s hj => chr_4 j s hj) (by decide) (by decide) (by decide) hpe he hB
  refine Eq.trans h ?_
  rw [wt_5 hpe he hB]
  unfold wtkG
  split <;> rfl
end WT
theorem written_eq {s : aS} {B : Nat → Nat} {p e : Nat} (hpe : p ≤ e) (he : e ≤ 700) (hB : ∀ k, p ≤ k → k < e → B k < 256 ∧ a_gI s 1 k = sby (B k)) : To_written_1 (nI p) (nI e) s = some (some (wtk (sub B p e)), s) := by
  rw [e_To_written_1, if_neg (show ¬ nI p < 0 from nI_pos (by omega)), if_neg (show ¬ (700 : Int32) < nI e by rw [il_700]; exact nI_nlt he (by omega))]
  rw [e_To_written_1_at16, e_Str_length_3000, e_Str_coder_3000, if_neg (by decide), Option.bind_some, Option.bind_some]
  dsimp only
  rw [e_To_written_1_at40, if_neg (by decide), e_To_written_1_at83, if_neg (by decide)]
  rw [e_To_written_1_at16v3, e_Str_length_3001, e_Str_coder_3001, if_neg (by decide), Option.bind_some, Option.bind_some]
  dsimp only
  rw [e_To_written_1_at40v4, if_neg (by decide), e_To_written_1_at83v5, if_neg (by decide)]
  rw [e_To_written_1_at16v6, e_Str_length_3002, e_Str_coder_3002, if_neg (by decide), Option.bind_some, Option.bind_some]
  dsimp only
  rw [e_To_written_1_at40v7, if_neg (by decide), e_To_written_1_at83v8, if_neg (by decide)]
  rw [e_To_written_1_at16v9, e_Str_length_3003, e_Str_coder_3003, if_neg (by decide), Option.bind_some, Option.bind_some]
  dsimp only
  rw [e_To_written_1_at40v10, if_neg (by decide), e_To_written_1_at83v11, if_neg (by decide)]
  exact wt_4 hpe he hB
