/-- the cells of the class (world 0) and of the reference (world 1), in the order in which they are made: kind (a class of vwCl; 20 int[], 21 boolean[], 22 byte[], 23 long[], 24 State[], 25 int[][]), length -/
def gtab0 : List (Nat × Nat) := [(10, 0), (6, 0), (22, 1600), (4, 0), (8, 0), (23, 8), (23, 5), (20, 5), (20, 5), (20, 5), (20, 40), (20, 16), (20, 16), (20, 16), (20, 16), (20, 16), (0, 0), (20, 272), (20, 32), (7, 0), (5, 0), (20, 5), (20, 5), (1, 0), (24, 41), (5, 0), (20, 5), (20, 5), (5, 0), (20, 5), (20, 5), (5, 0), (20, 5), (20, 5), (5, 0), (20, 5), (20, 5), (5, 0), (20, 5), (20, 5), (5, 0), (20, 5), (20, 5), (5, 0), (20, 5), (20, 5), (5, 0), (20, 5), (20, 5), (5, 0), (20, 5), (20, 5), (5, 0), (20, 5), (20, 5), (5, 0), (20, 5), (20, 5), (5, 0), (20, 5), (20, 5), (5, 0), (20, 5), (20, 5), (5, 0), (20, 5), (20, 5), (5, 0), (20, 5), (20, 5), (5, 0), (20, 5), (20, 5), (5, 0), (20, 5), (20, 5), (5, 0), (20, 5), (20, 5), (5, 0), (20, 5), (20, 5), (5, 0), (20, 5), (20, 5), (5, 0), (20, 5), (20, 5), (5, 0), (20, 5), (20, 5), (5, 0), (20, 5), (20, 5), (5, 0), (20, 5), (20, 5), (5, 0), (20, 5), (20, 5), (5, 0), (20, 5), (20, 5), (5, 0), (20, 5), (20, 5), (5, 0), (20, 5), (20, 5), (5, 0), (20, 5), (20, 5), (5, 0), (20, 5), (20, 5), (5, 0), (20, 5), (20, 5), (5, 0), (20, 5), (20, 5), (5, 0), (20, 5), (20, 5), (5, 0), (20, 5), (20, 5), (5, 0), (20, 5), (20, 5), (5, 0), (20, 5), (20, 5), (5, 0), (20, 5), (20, 5), (5, 0), (20, 5), (20, 5), (5, 0), (20, 5), (20, 5), (5, 0), (20, 5), (20, 5), (5, 0), (20, 5), (20, 5), (24, 3), (21, 3), (9, 0), (20, 2), (20, 16), (25, 2), (20, 8), (20, 8), (25, 2), (20, 16), (20, 16), (25, 5), (20, 16), (20, 16), (20, 16), (20, 16), (20, 16), (20, 8), (20, 8), (3, 0), (20, 5), (2, 0), (21, 30), (21, 30), (20, 30), (20, 30), (20, 30), (20, 30), (20, 7), (20, 7), (25, 7), (20, 8), (20, 8), (20, 8), (20, 8), (20, 8), (20, 8), (20, 8), (25, 7), (20, 8), (20, 8), (20, 8), (20, 8), (20, 8), (20, 8), (20, 8), (8, 0), (23, 8), (23, 5), (20, 5), (20, 5), (20, 5), (20, 40), (20, 16), (20, 16), (20, 16), (20, 16), (20, 16), (0, 0), (20, 272), (20, 32), (5, 0), (20, 5), (20, 5), (5, 0), (20, 5), (20, 5), (5, 0), (20, 5), (20, 5)]
def gtab1 : List (Nat × Nat) := [(11, 0), (20, 1600), (23, 13), (20, 320), (20, 320), (20, 320), (20, 320), (20, 160), (20, 64), (20, 5), (20, 5), (20, 5), (20, 5), (20, 5), (20, 40), (20, 40), (20, 16), (20, 16), (20, 16), (20, 16), (20, 16), (20, 16), (20, 16), (20, 16), (20, 16), (20, 16), (21, 5), (21, 5), (20, 18), (20, 18), (20, 720), (20, 16), (20, 16), (20, 4), (21, 40), (20, 16), (20, 16), (20, 30), (20, 30), (20, 30), (20, 30), (20, 30), (21, 30), (20, 56), (20, 56), (21, 3), (20, 54)]
def gtab (w : Nat) : List (Nat × Nat) := if w = 0 then gtab0 else gtab1
/-- the fields of each class by their slots: 0 int, 1 long, 2 a reference that stays, 3 one that moves -/
def gft : List (List Nat) := [[2, 2, 0, 0, 0], [2, 0, 0], [2, 2, 2, 2, 2, 2, 2, 2, 2, 2, 0, 0], [2], [2, 3, 0, 0, 0, 0, 0], [2, 2, 0, 0, 0, 0, 0, 0, 0, 0], [2, 0], [2, 0, 0, 0, 0, 1], [2, 2, 2, 2, 2, 2, 2, 2, 2, 2, 2, 2, 0, 0, 0, 0, 0, 0], [2, 2, 2, 2, 2, 2, 2, 0, 0, 0], [2, 2, 2, 2, 2, 2, 2, 2, 2, 3], [2, 0, 0, 0, 0, 0, 0, 0, 0, 1, 2, 2, 2, 2, 2, 2, 2, 0, 0, 0, 0, 0, 0, 0, 2, 2, 2, 2, 2, 2, 2, 2, 2, 2, 2, 2, 2, 2, 2, 2, 2, 2, 2, 0, 0, 0, 0, 0, 0, 0, 0, 0, 0, 0, 0, 2, 2, 2, 0, 0, 2, 2, 0, 2, 2, 2, 2, 2, 2, 2, 2, 2, 2, 0, 0, 2, 2, 2, 2]]
def grt : List (List Nat) := [[], [24], [170, 171, 172, 173, 174, 175, 176, 177, 178, 186], [168], [19], [], [2], [1], [], [151, 152, 153, 156, 159, 165, 166], [1, 3, 20, 23, 148, 149, 150, 167, 169, 0]]
def grt1 : List Nat := [1, 0, 0, 0, 0, 0, 0, 0, 0, 0, 2, 3, 4, 5, 6, 7, 8, 0, 0, 0, 0, 0, 0, 0, 9, 10, 11, 12, 13, 14, 15, 16, 17, 18, 19, 20, 21, 22, 23, 24, 25, 26, 27, 0, 0, 0, 0, 0, 0, 0, 0, 0, 0, 0, 0, 28, 29, 30, 0, 0, 31, 32, 0, 33, 34, 35, 36, 37, 38, 39, 40, 41, 42, 0, 0, 43, 44, 45, 46]
def gWords : List Int64 := [112602893349477, 500135715429, 495723310188, 495874303590, 30796712728556147, 1836021349, 112603009869170, 1751216740, 513021013607, 512970880104, 1936484720, 1668248164, 1685217655, 28530, 6385252, 7237492, 2003792494, 7824756, 6578553]
def gSignsIx : Nat := 57
def gSigns : String := ";()<>=+-*/%"
def gSignsB : List Int32 := [59, 40, 41, 60, 62, 61, 43, 45, 42, 47, 37]
/-- pool entries that name a nest mate's field -/
def gnF : List (String × Nat × String × String × String × String) := [("CradleTreaty$Reader", 192, "CradleTreaty$Formula", "units", "I", "CradleTreaty"),
  ("CradleTreaty", 351, "CradleTreaty$Formula", "units", "I", "CradleTreaty"),
  ("CradleTreaty", 133, "CradleTreaty$Treaty", "skill", "[I", "CradleTreaty"),
  ("CradleTreaty", 137, "CradleTreaty$Treaty", "stiff", "[I", "CradleTreaty"),
  ("CradleTreaty$Reach", 48, "CradleTreaty$Treaty", "able", "[I", "CradleTreaty"),
  ("CradleTreaty", 149, "CradleTreaty$Treaty", "able", "[I", "CradleTreaty"),
  ("CradleTreaty$Turns", 87, "CradleTreaty$Treaty", "from", "[I", "CradleTreaty"),
  ("CradleTreaty", 165, "CradleTreaty$Treaty", "from", "[I", "CradleTreaty"),
  ("CradleTreaty$Past", 93, "CradleTreaty$Treaty", "from", "[I", "CradleTreaty"),
  ("CradleTreaty$State", 74, "CradleTreaty$Treaty", "to", "[I", "CradleTreaty"),
  ("CradleTreaty$Turns", 84, "CradleTreaty$Treaty", "to", "[I", "CradleTreaty"),
  ("CradleTreaty", 168, "CradleTreaty$Treaty", "to", "[I", "CradleTreaty"),
  ("CradleTreaty$Past", 90, "CradleTreaty$Treaty", "to", "[I", "CradleTreaty"),
  ("CradleTreaty", 171, "CradleTreaty$Treaty", "finger", "[I", "CradleTreaty"),
  ("CradleTreaty$Past", 96, "CradleTreaty$Treaty", "finger", "[I", "CradleTreaty"),
  ("CradleTreaty", 174, "CradleTreaty$Treaty", "hard", "[I", "CradleTreaty"),
  ("CradleTreaty$State", 77, "CradleTreaty$Treaty", "wrong", "[I", "CradleTreaty"),
  ("CradleTreaty", 177, "CradleTreaty$Treaty", "wrong", "[I", "CradleTreaty"),
  ("CradleTreaty$Reader", 155, "CradleTreaty$Treaty", "slipping", "LCradleTreaty$Formula;", "CradleTreaty"),
  ("CradleTreaty", 347, "CradleTreaty$Treaty", "slipping", "LCradleTreaty$Formula;", "CradleTreaty"),
  ("CradleTreaty$State", 49, "CradleTreaty$Treaty", "figures", "I", "CradleTreaty"),
  ("CradleTreaty", 120, "CradleTreaty$Treaty", "figures", "I", "CradleTreaty"),
  ("CradleTreaty$Past", 78, "CradleTreaty$Treaty", "figures", "I", "CradleTreaty"),
  ("CradleTreaty$Reader", 104, "CradleTreaty$Treaty", "figures", "I", "CradleTreaty"),
  ("CradleTreaty$Turns", 139, "CradleTreaty$Treaty", "figures", "I", "CradleTreaty"),
  ("CradleTreaty$State", 54, "CradleTreaty$Treaty", "tribes", "I", "CradleTreaty"),
  ("CradleTreaty$Reach", 37, "CradleTreaty$Treaty", "tribes", "I", "CradleTreaty"),
  ("CradleTreaty$Reader", 114, "CradleTreaty$Treaty", "tribes", "I", "CradleTreaty"),
  ("CradleTreaty", 247, "CradleTreaty$Treaty", "tribes", "I", "CradleTreaty"),
  ("CradleTreaty$Turns", 81, "CradleTreaty$Treaty", "moves", "I", "CradleTreaty"),
  ("CradleTreaty$Past", 83, "CradleTreaty$Treaty", "moves", "I", "CradleTreaty"),
  ("CradleTreaty$Reader", 128, "CradleTreaty$Treaty", "moves", "I", "CradleTreaty"),
  ("CradleTreaty", 280, "CradleTreaty$Treaty", "moves", "I", "CradleTreaty"),
  ("CradleTreaty", 140, "CradleTreaty$Treaty", "mirrors", "I", "CradleTreaty"),
  ("CradleTreaty$State", 91, "CradleTreaty$Treaty", "cord", "I", "CradleTreaty"),
  ("CradleTreaty$Reader", 149, "CradleTreaty$Treaty", "cord", "I", "CradleTreaty"),
  ("CradleTreaty$State", 57, "CradleTreaty$Treaty", "draw", "I", "CradleTreaty"),
  ("CradleTreaty$Reader", 152, "CradleTreaty$Treaty", "draw", "I", "CradleTreaty"),
  ("CradleTreaty$Reader", 53, "CradleTreaty$Tokens", "kind", "I", "CradleTreaty"),
  ("CradleTreaty$Reader", 56, "CradleTreaty$Tokens", "place", "I", "CradleTreaty"),
  ("CradleTreaty$Reader", 86, "CradleTreaty$Tokens", "number", "I", "CradleTreaty"),
  ("CradleTreaty$Reader", 89, "CradleTreaty$Tokens", "word", "J", "CradleTreaty"),
  ("CradleTreaty", 124, "CradleTreaty$Reader", "fault", "I", "CradleTreaty"),
  ("CradleTreaty", 127, "CradleTreaty$Reader", "place", "I", "CradleTreaty"),
  ("CradleTreaty", 143, "CradleTreaty$State", "has", "[I", "CradleTreaty"),
  ("CradleTreaty", 146, "CradleTreaty$State", "slept", "[I", "CradleTreaty"),
  ("CradleTreaty$Turns", 50, "CradleTreaty$State", "figure", "I", "CradleTreaty"),
  ("CradleTreaty", 155, "CradleTreaty$State", "figure", "I", "CradleTreaty"),
  ("CradleTreaty$Reach", 15, "CradleTreaty$State", "holder", "I", "CradleTreaty"),
  ("CradleTreaty$Turns", 45, "CradleTreaty$State", "holder", "I", "CradleTreaty"),
  ("CradleTreaty", 152, "CradleTreaty$State", "holder", "I", "CradleTreaty"),
  ("CradleTreaty$Formula", 33, "CradleTreaty$State", "worn", "I", "CradleTreaty"),
  ("CradleTreaty", 211, "CradleTreaty$State", "worn", "I", "CradleTreaty"),
  ("CradleTreaty$Formula", 38, "CradleTreaty$State", "wet", "I", "CradleTreaty"),
  ("CradleTreaty", 208, "CradleTreaty$State", "wet", "I", "CradleTreaty"),
  ("CradleTreaty", 329, "CradleTreaty$State", "wrongs", "I", "CradleTreaty"),
  ("CradleTreaty", 332, "CradleTreaty$State", "drops", "I", "CradleTreaty"),
  ("CradleTreaty$Formula", 41, "CradleTreaty$State", "day", "I", "CradleTreaty"),
  ("CradleTreaty", 214, "CradleTreaty$State", "day", "I", "CradleTreaty"),
  ("CradleTreaty", 335, "CradleTreaty$State", "seed", "I", "CradleTreaty"),
  ("CradleTreaty", 338, "CradleTreaty$History", "at", "I", "CradleTreaty"),
  ("CradleTreaty", 341, "CradleTreaty$History", "top", "I", "CradleTreaty"),
  ("CradleTreaty", 356, "CradleTreaty$Turns", "lie", "I", "CradleTreaty"),
  ("CradleTreaty", 241, "CradleTreaty$Turns", "upper", "I", "CradleTreaty"),
  ("CradleTreaty", 244, "CradleTreaty$Turns", "lower", "I", "CradleTreaty"),
  ("CradleTreaty", 344, "CradleTreaty$Past", "sightings", "I", "CradleTreaty"),
  ("CradleTreaty", 310, "CradleTreaty$Past", "time", "I", "CradleTreaty")]
def lw_good : List Cond := lw_tbl.filter goodWord
/-! ===== the world in typed memory: cells by their numbers (in the order in which they are made), ints, longs and references apart ===== -/
abbrev gS : Type := (Nat → Nat → Int32) × (Nat → Nat → Int64) × (Nat → Nat → Nat)
def wi (st : gS) (k j : Nat) (v : Int32) : gS := (fun a => if a = k then upd (st.1 a) j v else st.1 a, st.2)
def wl (st : gS) (k j : Nat) (v : Int64) : gS := (st.1, fun a => if a = k then vp_updL (st.2.1 a) j v else st.2.1 a, st.2.2)
def wr (st : gS) (k j : Nat) (v : Nat) : gS := (st.1, st.2.1, fun a => if a = k then va_up (st.2.2 a) j v else st.2.2 a)
/-- a row of ints written over -/
def wa (st : gS) (k : Nat) (f : Nat → Int32) : gS := (fun a => if a = k then f else st.1 a, st.2)
def gK (w k : Nat) : Nat := ((gtab w).getD k (99, 0)).1
def gN (w k : Nat) : Nat := ((gtab w).getD k (99, 0)).2
def gNC (w : Nat) : Nat := (gtab w).length
def gF (c j : Nat) : Nat := (gft.getD c []).getD j 9
def gR (w c k j : Nat) : Nat := if w = 1 then grt1.getD j 0 else if c = 8 ∨ c = 5 ∨ c = 0 then k + 1 + j else (grt.getD c []).getD j 0
def gV (w : Nat) (ad : Nat → Nat) (st : gS) (k c j : Nat) : Value :=
  if gF c j = 0 then .int (st.1 k j) else if gF c j = 1 then .long (st.2.1 k j) else if gF c j = 2 then .ref (ad (gR w c k j)) else .ref (ad (st.2.2 k j))
def gE (w : Nat) (cA : Nat → ClassId) (ad : Nat → Nat) (st : gS) (k : Nat) : va_E :=
  if gK w k < 20 then .inr (gK w k, (List.range (gft.getD (gK w k) []).length).map (gV w ad st k (gK w k)))
  else if gK w k < 23 then .inl (cA (gK w k), gN w k, .inl (st.1 k))
  else if gK w k = 23 then .inl (cA 23, gN w k, .inr (.inl (st.2.1 k)))
  else if gK w k = 24 then .inl (cA 24, gN w k, .inr (.inr (.inr (.inr (fun i => some (ad (st.2.2 k i)))))))
  else .inl (cA 25, gN w k, .inr (.inr (.inr (.inr (fun i => some (ad (k + 1 + i)))))))
def gW (w : Nat) (cA : Nat → ClassId) (ad : Nat → Nat) (st : gS) : va_W := (List.range (gNC w)).map (fun k => (ad k, gE w cA ad st k))
abbrev gty (cA : Nat → ClassId) : List (ClassId × FieldType) := [(cA 20, .int), (cA 21, .boolean), (cA 22, .byte), (cA 23, .long), (cA 24, .object RX5), (cA 25, .array .int)]
def gA (w : Nat) (ad : Nat → Nat) : Nat → Prop := fun q => ∃ k, k < gNC w ∧ q = ad k
def gP0 (w : Nat) (D : va_G) (cA : Nat → ClassId) (ad : Nat → Nat) (st : gS) (H : Heap) : Prop := va_P D vwCl (gW w cA ad st) H
theorem gK_lt {w k c : Nat} (h : gK w k = c) (hc : c < 99) : k < gNC w := by
  unfold gK at h
  unfold gNC
  rcases Nat.lt_or_ge k (gtab w).length with q | q
  · exact q
  · rw [List.getD_eq_getElem?_getD, List.getElem?_eq_none q] at h
    simp at h
    omega
theorem gW_at {w k : Nat} {cA : Nat → ClassId} {ad : Nat → Nat} {st : gS} (h : k < gNC w) : (gW w cA ad st)[k]? = some (ad k, gE w cA ad st k) := by
  simp [gW, List.getElem?_map, List.getElem?_range, h]
theorem gW_obj {w k c : Nat} {cA : Nat → ClassId} {ad : Nat → Nat} {st : gS} (h : gK w k = c) (hc : c < 20) : (gW w cA ad st)[k]? = some (ad k, .inr (c, (List.range (gft.getD c []).length).map (gV w ad st k c))) := by
  rw [gW_at (gK_lt h (by omega))]
  unfold gE
  rw [h, if_pos hc]
theorem gW_arr {w k c n : Nat} {cA : Nat → ClassId} {ad : Nat → Nat} {st : gS} (h : gK w k = c) (hn : gN w k = n) (h1 : 20 ≤ c) (h2 : c < 23) : (gW w cA ad st)[k]? = some (ad k, .inl (cA c, n, .inl (st.1 k))) := by
  rw [gW_at (gK_lt h (by omega))]
  unfold gE
  rw [h, hn, if_neg (by omega), if_pos h2]
theorem gW_arl {w k n : Nat} {cA : Nat → ClassId} {ad : Nat → Nat} {st : gS} (h : gK w k = 23) (hn : gN w k = n) : (gW w cA ad st)[k]? = some (ad k, .inl (cA 23, n, .inr (.inl (st.2.1 k)))) := by
  rw [gW_at (gK_lt h (by omega))]
  unfold gE
  rw [h, hn]
  rfl
theorem gW_arq {w k n : Nat} {cA : Nat → ClassId} {ad : Nat → Nat} {st : gS} (h : gK w k = 24) (hn : gN w k = n) : (gW w cA ad st)[k]? = some (ad k, .inl (cA 24, n, .inr (.inr (.inr (.inr (fun i => some (ad (st.2.2 k i)))))))) := by
  rw [gW_at (gK_lt h (by omega))]
  unfold gE
  rw [h, hn]
  rfl
theorem gW_arg {w k n : Nat} {cA : Nat → ClassId} {ad : Nat → Nat} {st : gS} (h : gK w k = 25) (hn : gN w k = n) : (gW w cA ad st)[k]? = some (ad k, .inl (cA 25, n, .inr (.inr (.inr (.inr (fun i => some (ad (k + 1 + i)))))))) := by
  rw [gW_at (gK_lt h (by omega))]
  unfold gE
  rw [h, hn]
  rfl
theorem gW_set {w k : Nat} {cA : Nat → ClassId} {ad : Nat → Nat} {st st' : gS} {e : va_E} (h1 : gE w cA ad st' k = e) (h2 : ∀ i, i ≠ k → gE w cA ad st' i = gE w cA ad st i) : (gW w cA ad st).set k (ad k, e) = gW w cA ad st' := by
  apply List.ext_getElem?
  intro i
  rcases Nat.lt_or_ge i (gNC w) with hi | hi
  · rw [gW_at hi]
    by_cases hik : i = k
    · subst hik
      rw [List.getElem?_set_self (by simp [gW]; exact hi), h1]
    · rw [List.getElem?_set_ne (Ne.symm hik), gW_at hi, h2 i hik]
  · rw [List.getElem?_eq_none (by simp [gW]; exact hi), List.getElem?_eq_none (by simp [gW]; exact hi)]
theorem gV_list_set {w k c j N : Nat} {ad : Nat → Nat} {st st' : gS} {v : Value} (h1 : gV w ad st' k c j = v) (h2 : ∀ i, i ≠ j → gV w ad st' k c i = gV w ad st k c i) : ((List.range N).map (gV w ad st k c)).set j v = (List.range N).map (gV w ad st' k c) := by
  apply List.ext_getElem?
  intro i
  rcases Nat.lt_or_ge i N with hi | hi
  · by_cases hij : i = j
    · subst hij
      rw [List.getElem?_set_self (by simp; exact hi)]
      simp [List.getElem?_map, List.getElem?_range, hi, h1]
    · rw [List.getElem?_set_ne (Ne.symm hij)]
      simp [List.getElem?_map, List.getElem?_range, hi, h2 i hij]
  · rw [List.getElem?_eq_none (by simp; exact hi), List.getElem?_eq_none (by simp; exact hi)]
theorem gE_wi_ne {w k j i : Nat} {cA : Nat → ClassId} {ad : Nat → Nat} {st : gS} {v : Int32} (h : i ≠ k) : gE w cA ad (wi st k j v) i = gE w cA ad st i := by
  have e : gV w ad (wi st k j v) i = gV w ad st i := by
    funext c q
    simp [gV, wi, h]
  unfold gE
  rw [e, show (wi st k j v).1 i = st.1 i from if_neg h]
  rfl
theorem gE_wa_ne {w k i : Nat} {cA : Nat → ClassId} {ad : Nat → Nat} {st : gS} {f : Nat → Int32} (h : i ≠ k) : gE w cA ad (wa st k f) i = gE w cA ad st i := by
  have e : gV w ad (wa st k f) i = gV w ad st i := by
    funext c q
    simp [gV, wa, h]
  unfold gE
  rw [e, show (wa st k f).1 i = st.1 i from if_neg h]
  rfl
theorem gE_wl_ne {w k j i : Nat} {cA : Nat → ClassId} {ad : Nat → Nat} {st : gS} {v : Int64} (h : i ≠ k) : gE w cA ad (wl st k j v) i = gE w cA ad st i := by
  have e : gV w ad (wl st k j v) i = gV w ad st i := by
    funext c q
    simp [gV, wl, h]
  unfold gE
  rw [e, show (wl st k j v).2.1 i = st.2.1 i from if_neg h]
  rfl
theorem gE_wr_ne {w k j i : Nat} {cA : Nat → ClassId} {ad : Nat → Nat} {st : gS} {v : Nat} (h : i ≠ k) : gE w cA ad (wr st k j v) i = gE w cA ad st i := by
  have e : gV w ad (wr st k j v) i = gV w ad st i := by
    funext c q
    simp [gV, wr, h]
  unfold gE
  rw [e, show (wr st k j v).2.2 i = st.2.2 i from if_neg h]
  rfl
theorem gW_puti {w k c j : Nat} {cA : Nat → ClassId} {ad : Nat → Nat} {st : gS} {v : Int32} (hk : gK w k = c) (hc : c < 20) (hF : gF c j = 0) : (gW w cA ad st).set k (ad k, .inr (c, ((List.range (gft.getD c []).length).map (gV w ad st k c)).set j (.int v))) = gW w cA ad (wi st k j v) := by
  refine gW_set ?_ (fun i hi => gE_wi_ne hi)
  rw [gV_list_set (st' := wi st k j v)]
  · unfold gE
    rw [hk, if_pos hc]
  · simp [gV, hF, wi, upd]
  · intro i hi
    simp [gV, wi, upd, hi]
theorem gW_putl {w k c j : Nat} {cA : Nat → ClassId} {ad : Nat → Nat} {st : gS} {v : Int64} (hk : gK w k = c) (hc : c < 20) (hF : gF c j = 1) : (gW w cA ad st).set k (ad k, .inr (c, ((List.range (gft.getD c []).length).map (gV w ad st k c)).set j (.long v))) = gW w cA ad (wl st k j v) := by
  refine gW_set ?_ (fun i hi => gE_wl_ne hi)
  rw [gV_list_set (st' := wl st k j v)]
  · unfold gE
    rw [hk, if_pos hc]
  · simp [gV, hF, wl, vp_updL]
  · intro i hi
    simp [gV, wl, vp_updL, hi]
theorem gW_putr {w k c j : Nat} {cA : Nat → ClassId} {ad : Nat → Nat} {st : gS} {v : Nat} (hk : gK w k = c) (hc : c < 20) (hF : gF c j = 3) : (gW w cA ad st).set k (ad k, .inr (c, ((List.range (gft.getD c []).length).map (gV w ad st k c)).set j (.ref (ad v)))) = gW w cA ad (wr st k j v) := by
  refine gW_set ?_ (fun i hi => gE_wr_ne hi)
  rw [gV_list_set (st' := wr st k j v)]
  · unfold gE
    rw [hk, if_pos hc]
  · simp [gV, hF, wr, va_up]
  · intro i hi
    simp [gV, wr, va_up, hi]
theorem gW_ast {w k c n i : Nat} {cA : Nat → ClassId} {ad : Nat → Nat} {st : gS} {v : Int32} (hk : gK w k = c) (hn : gN w k = n) (h1 : 20 ≤ c) (h2 : c < 23) : (gW w cA ad st).set k (ad k, .inl (cA c, n, .inl (upd (st.1 k) i v))) = gW w cA ad (wi st k i v) := by
  refine gW_set ?_ (fun i hi => gE_wi_ne hi)
  unfold gE
  rw [hk, hn, if_neg (by omega), if_pos h2]
  simp [wi]
theorem gW_asa {w k c n : Nat} {cA : Nat → ClassId} {ad : Nat → Nat} {st : gS} {f : Nat → Int32} (hk : gK w k = c) (hn : gN w k = n) (h1 : 20 ≤ c) (h2 : c < 23) : (gW w cA ad st).set k (ad k, .inl (cA c, n, .inl f)) = gW w cA ad (wa st k f) := by
  refine gW_set ?_ (fun i hi => gE_wa_ne hi)
  unfold gE
  rw [hk, hn, if_neg (by omega), if_pos h2]
  simp [wa]
theorem gW_asl {w k n i : Nat} {cA : Nat → ClassId} {ad : Nat → Nat} {st : gS} {v : Int64} (hk : gK w k = 23) (hn : gN w k = n) : (gW w cA ad st).set k (ad k, .inl (cA 23, n, .inr (.inl (vp_updL (st.2.1 k) i v)))) = gW w cA ad (wl st k i v) := by
  refine gW_set ?_ (fun i hi => gE_wl_ne hi)
  unfold gE
  rw [hk, hn]
  simp [wl]
theorem gW_asq {w k n i v : Nat} {cA : Nat → ClassId} {ad : Nat → Nat} {st : gS} (hk : gK w k = 24) (hn : gN w k = n) : (gW w cA ad st).set k (ad k, .inl (cA 24, n, .inr (.inr (.inr (.inr (va_up (fun i => some (ad (st.2.2 k i))) i (some (ad v)))))))) = gW w cA ad (wr st k i v) := by
  refine gW_set ?_ (fun i hi => gE_wr_ne hi)
  unfold gE
  rw [hk, hn]
  simp only [Nat.reduceLT, if_false, Nat.reduceEqDiff, if_true]
  congr 7
  funext q
  by_cases hq : q = i
  · simp [wr, va_up, hq]
  · simp [wr, va_up, hq]
/-! ===== what is known of the state at a method's start ===== -/
def gX (w : Nat) (ad : Nat → Nat) (s : State) : Prop := w = 0 →
  va_Z RX7 "WORDS" "[J" (.ref (ad 300)) (gA 0 ad) s s.heap ∧ va_T .long (ad 300) 19 (fun j => .long (gWords.getD j 0)) (gA 0 ad) s s.heap ∧
  vk_R RX7 gSignsIx gSigns (ad 301) s ∧ vk_S 1 [11] [gSignsB] (fun _ => ad 301) (fun _ => ad 302) (gA 0 ad) s s.heap ∧
  va_Z "java/lang/String" "COMPACT_STRINGS" "Z" (.int 1) (gA 0 ad) s s.heap
def gU (w : Nat) (D : va_G) (cA : Nat → ClassId) (ad : Nat → Nat) (s : State) : Prop :=
  va_K D vwCl (gty cA) s ∧ (∀ i j, i < gNC w → j < gNC w → ad i = ad j → i = j) ∧ (∀ q ∈ gnF, va_Nw (.fieldLinkNest q.1 q.2.1 q.2.2.1 q.2.2.2.1 q.2.2.2.2.1 q.2.2.2.2.2) s) ∧ gX w ad s
theorem gU.D {w : Nat} {D : va_G} {cA : Nat → ClassId} {ad : Nat → Nat} {s : State} (U : gU w D cA ad s) (st : gS) : va_D (gA w ad) (gW w cA ad st) := by
  have lt : ∀ (i : Nat) (x : Nat × va_E), (gW w cA ad st)[i]? = some x → i < gNC w ∧ x.1 = ad i := by
    intro i x h
    rcases Nat.lt_or_ge i (gNC w) with q | q
    · rw [gW_at q] at h
      cases h
      exact ⟨q, rfl⟩
    · rw [List.getElem?_eq_none (by simp [gW]; exact q)] at h
      cases h
  refine ⟨fun i j x y hi hj e => ?_, fun i x hi => ⟨i, lt i x hi⟩⟩
  obtain ⟨a1, a2⟩ := lt i x hi
  obtain ⟨b1, b2⟩ := lt j y hj
  exact U.2.1 i j a1 b1 (by rw [← a2, ← b2]; exact e)
theorem gX.moved {w : Nat} {ad : Nat → Nat} {s u : State} (hW : s.WarmedH u.vm) (hh : u.heap = s.heap) (h : gX w ad s) : gX w ad u := by
  intro hw
  obtain ⟨h1, h2, h3, h4, h5⟩ := h hw
  rw [hh]
  exact ⟨h1.moved hW.alike, h2.moved hW.alike, h3.warm hW, h4.moved hW.alike, h5.moved hW.alike⟩
/-- at a call: the callee's start, out of the caller's, when nothing of A0's outside has changed -/
theorem gU.call {w : Nat} {D : va_G} {cA : Nat → ClassId} {ad : Nat → Nat} {s u : State} {H : Heap} {locs : List Loc} (U : gU w D cA ad s) (hS : va_S (gA w ad) s.heap H locs) (hW : s.WarmedH u.vm) (hh : u.heap = H) : gU w D cA ad u := by
  refine ⟨va_K.moved hW.alike U.1, U.2.1, fun q hq => (U.2.2.1 q hq).warmF hW, fun hw => ?_⟩
  subst hw
  obtain ⟨h1, h2, h3, h4, h5⟩ := U.2.2.2 rfl
  rw [hh]
  exact ⟨(h1.kept hS.2.1).moved hW.alike, (h2.kept hS.2.1).moved hW.alike, h3.warm hW, (h4.kept hS.2.1).moved hW.alike, (h5.kept hS.2.1).moved hW.alike⟩
def gPc (w : Nat) (D : va_G) (cA : Nat → ClassId) (ad : Nat → Nat) (st : gS) (av : List Value) : Array Value → State → Prop := fun v U => v = av.toArray ∧ gU w D cA ad U ∧ gP0 w D cA ad st U.heap
def gQc (w : Nat) (D : va_G) (cA : Nat → ClassId) (ad : Nat → Nat) (st : gS) (rv : Option Value) : Array Value → State → Outcome → State → Prop := fun _ s0 o t => o = .returned rv ∧ gP0 w D cA ad st t.heap ∧ va_F (gA w ad) s0 t
theorem gPc.blind {w : Nat} {D : va_G} {cA : Nat → ClassId} {ad : Nat → Nat} {st : gS} {av : List Value} : FrameBlind (gPc w D cA ad st av) := by
  intro a U g mk h
  obtain ⟨h0, ⟨h1, h2, h3, h4⟩, h5⟩ := h
  have ha : Vm.Alike U.vm (U.calling g mk a).vm := Vm.Alike.refl U.vm
  refine ⟨h0, ⟨va_K.moved ha h1, h2, fun q hq => va_Nw.same rfl rfl (h3 q hq), fun hw => ?_⟩, h5⟩
  obtain ⟨k1, k2, k3, k4, k5⟩ := h4 hw
  exact ⟨k1.moved ha, k2.moved ha, vk_R.same rfl k3, k4.moved ha, k5.moved ha⟩
def gws (y : MethodName) (b : ByteArray) (n : Nat) (r : Option FieldType) : List Cond := .code y b n r :: lw_good
def gRm (L : Nat) : Room := { frames := L, cells := 0, slots := 0, locals := 40 * L }
/-- a method's contract: from the state st with these arguments it ends with rv, in the state st' -/
abbrev gM (l : Launch) (y : MethodName) (b : ByteArray) (n : Nat) (r : Option FieldType) (L : Nat) (w : Nat) (D : va_G) (cA : Nat → ClassId) (ad : Nat → Nat) (st : gS) (av : List Value) (rv : Option Value) (st' : gS) : Prop :=
  Met l y (gws y b n r) (gRm L) (gPc w D cA ad st av) (gQc w D cA ad st' rv) 0 0 (gA w ad)
theorem lw_good_mem {w : Cond} (h : w ∈ lw_tbl) (g : goodWord w = true) : w ∈ lw_good := List.mem_filter.mpr ⟨h, g⟩
theorem lw_good_in {ws : List Cond} (h : ∀ w ∈ ws, w ∈ lw_good) : GoodIn lw_good ws := fun w hw => ⟨h w hw, good_of_word (List.mem_filter.mp (h w hw)).2⟩
theorem g_tab {w : Cond} (i : Nat) (h : tables_1[i]? = some w) (g : goodWord w = true) : w ∈ lw_good := lw_good_mem (List.mem_append_right _ (List.mem_of_getElem? h)) g
theorem g_sel (i : Nat) {q : MethodName × Nat} (h : lw_privs[i]? = some q) : Cond.selects q.1.cls q.1 q.1 ∈ lw_good := lw_good_mem (List.mem_append_left _ (List.mem_map.mpr ⟨q, List.mem_of_getElem? h, rfl⟩)) rfl
/-- class c of vwCl: its fields' words are among the good ones -/
def gCl (c : Nat) (C : String) (T : u_T) (N : Nat) (ty : Nat → FieldType) : Prop := vwCl[c]? = some (C, T, N) ∧ (∀ w ∈ u_ws C T N, w ∈ lw_good) ∧ (∀ k, k < N → parseFieldDescriptor (T k).2.2.1 = some (ty k)) ∧ (∀ a, a < N → ∀ b, b < N → a ≠ b → (T a).2.1 ≠ (T b).2.1) ∧ (gft.getD c []).length = N ∧ c < 20
/-- a pool entry of class own that names a field, its own or a nest mate's -/
def gLk (own : String) (i : Nat) (q : String × String × String × Bool) : Prop := (Cond.fieldLink own i q.1 q.2.1 q.2.2.1 ∈ lw_good) ∨ ∃ h, (own, i, q.1, q.2.1, q.2.2.1, h) ∈ gnF
/-- an instance method that may be called -/
def gYv (y : MethodName) (b : ByteArray) (n : Nat) (r : Option FieldType) (np : Nat) : Prop := Cond.instanceMethod y ∈ lw_good ∧ Cond.selects y.cls y y ∈ lw_good ∧ Cond.initialized y.cls ∈ lw_good ∧ Cond.code y b n r ∈ lw_good ∧ y.cls ≠ "java/lang/invoke/MethodHandle" ∧ y.cls ≠ "java/lang/invoke/VarHandle" ∧ (parseMethodDescriptor y.desc).map (fun d => d.parameters.length) = some np
/-- a static one -/
def gYs (y : MethodName) (b : ByteArray) (n : Nat) (r : Option FieldType) (np : Nat) : Prop := Cond.static y ∈ lw_good ∧ Cond.initialized y.cls ∈ lw_good ∧ Cond.code y b n r ∈ lw_good ∧ y.cls ≠ "java/lang/invoke/MethodHandle" ∧ y.cls ≠ "java/lang/invoke/VarHandle" ∧ (parseMethodDescriptor y.desc).map (fun d => d.parameters.length) = some np
abbrev gI (i : Int32) (n : Nat) : Prop := 0 ≤ i.toInt ∧ i.toInt < n
abbrev gB (v : Int32) : Prop := v = 0 ∨ v = 1
theorem gI.in {i : Int32} {n : Nat} (h : gI i n) : vp_in i n := vp_in_iff.mpr h
/-- asked first, else there is no answer -/
def gc {α : Type} (c : Prop) [Decidable c] (x : Option α) : Option α := if c then x else none
theorem gc_s {α : Type} {c : Prop} [Decidable c] {x : Option α} {r : α} (h : gc c x = some r) : c ∧ x = some r := by
  unfold gc at h
  split at h
  · exact ⟨by assumption, h⟩
  · cases h
theorem gc_t {α : Type} {c : Prop} [Decidable c] {x : Option α} (h : c) : gc c x = x := if_pos h
theorem gif_p {α : Type} {c : Prop} [Decidable c] {a b r : α} (h : c) (hf : (if c then a else b) = r) : a = r := by rw [if_pos h] at hf; exact hf
theorem gif_n {α : Type} {c : Prop} [Decidable c] {a b r : α} (h : ¬ c) (hf : (if c then a else b) = r) : b = r := by rw [if_neg h] at hf; exact hf
theorem gbd {α β : Type} {x : Option α} {f : α → Option β} {r : β} (h : x.bind f = some r) : ∃ q, x = some q ∧ f q = some r := Option.bind_eq_some_iff.mp h
section GI
variable {p : Program} {l : Launch} {e : Env} {R : Room} {s : State} {m : MethodId} {args : Array Value} {below : List Frame} {meth : Method} {c : Code} {H : Heap} {locs : List Loc} {cells slots : Nat} {Q : State → Prop}
variable {cc : ByteArray} {pc nL : Nat} {ls : Array Slot} {rest : List Value} {D : va_G} {cA : Nat → ClassId} {ad : Nat → Nat} {w k : Nat} {st : gS} {own : String}
variable {cn N : Nat} {C0 : String} {T : u_T} {ty0 : Nat → FieldType} {idx : Nat}
theorem g_get (C : CallFix p m c cc nL s args lw_good own) (U : gU w D cA ad s) (hH : gP0 w D cA ad st H) (hk : gK w k = cn) (K : gCl cn C0 T N ty0) (j : Nat) (hj : j < N) (L : gLk own idx (T j)) {v : Value} (hv : gV w ad st k cn j = v) (hdg : decode cc pc = .ok (.getfield idx, 3))
    (kk : W p l e R s m args below meth c H locs cells slots Q (F0 m (pc + 3) ls (v :: rest))) : W p l e R s m args below meth c H locs cells slots Q (F0 m pc ls (.ref (ad k) :: rest)) := by
  obtain ⟨hx, hb, hml, hown, hts⟩ := C
  obtain ⟨hc, hin, hty, hnm, hl, h20⟩ := K
  have hv' : ((List.range (gft.getD cn []).length).map (gV w ad st k cn))[j]? = some v := by
    rw [hl]
    simp [List.getElem?_map, List.getElem?_range, hj, hv]
  rcases L with L | ⟨h, L⟩
  · exact va_get hx hb hts hin hown U.1 hH k (gW_obj hk h20) hc j hj (hts _ L) (fun _ h => h) hv' hdg kk
  · exact va_getN hx hb hts hin hown U.1 hH k (gW_obj hk h20) hc j hj (va_Nw.use rfl (U.2.2.1 _ L)) (fun _ h => h) hv' hdg kk
theorem g_put0 (C : CallFix p m c cc nL s args lw_good own) (U : gU w D cA ad s) (hH : gP0 w D cA ad st H) (hS : va_S (gA w ad) s.heap H locs) (hk : gK w k = cn) (K : gCl cn C0 T N ty0) (j : Nat) (hj : j < N) (L : gLk own idx (T j)) (hfin : (T j).2.2.2 = false) {v : Value} {st' : gS} (hn : narrow (ty0 j) v = v) (hfit : fits (ty0 j) v = true)
    (hw : (gW w cA ad st).set k (ad k, .inr (cn, ((List.range (gft.getD cn []).length).map (gV w ad st k cn)).set j v)) = gW w cA ad st') (hdg : decode cc pc = .ok (.putfield idx, 3))
    (kk : ∀ (H1 : Heap) (locs1 : List Loc), gP0 w D cA ad st' H1 → va_S (gA w ad) s.heap H1 locs1 → W p l e R s m args below meth c H1 locs1 cells slots Q (F0 m (pc + 3) ls rest)) : W p l e R s m args below meth c H locs cells slots Q (F0 m pc ls (v :: .ref (ad k) :: rest)) := by
  obtain ⟨hx, hb, hml, hown, hts⟩ := C
  obtain ⟨hc, hin, hty, hnm, hl, h20⟩ := K
  have hlen : j < ((List.range (gft.getD cn []).length).map (gV w ad st k cn)).length := by rw [List.length_map, List.length_range, hl]; exact hj
  rcases L with L | ⟨h, L⟩
  · exact va_put hx hb hts hin ty0 hty hnm hown U.1 hH (U.D st) hS k (gW_obj hk h20) hc j hj (hts _ L) (fun _ h => h) hfin (hty j hj) hn hfit hlen hdg (fun H1 locs1 hP _ hS => kk H1 locs1 (by rw [hw] at hP; exact hP) hS)
  · exact va_putN hx hb hts hin ty0 hty hnm hown U.1 hH (U.D st) hS k (gW_obj hk h20) hc j hj (va_Nw.use rfl (U.2.2.1 _ L)) (fun _ h => h) hfin (hty j hj) hn hfit hlen hdg (fun H1 locs1 hP _ hS => kk H1 locs1 (by rw [hw] at hP; exact hP) hS)
theorem g_puti (C : CallFix p m c cc nL s args lw_good own) (U : gU w D cA ad s) (hH : gP0 w D cA ad st H) (hS : va_S (gA w ad) s.heap H locs) (hk : gK w k = cn) (K : gCl cn C0 T N ty0) (j : Nat) (hj : j < N) (L : gLk own idx (T j)) (hfin : (T j).2.2.2 = false) (hF : gF cn j = 0) {v : Int32} (hn : narrow (ty0 j) (.int v) = .int v) (hfit : fits (ty0 j) (.int v) = true) (hdg : decode cc pc = .ok (.putfield idx, 3))
    (kk : ∀ (H1 : Heap) (locs1 : List Loc), gP0 w D cA ad (wi st k j v) H1 → va_S (gA w ad) s.heap H1 locs1 → W p l e R s m args below meth c H1 locs1 cells slots Q (F0 m (pc + 3) ls rest)) : W p l e R s m args below meth c H locs cells slots Q (F0 m pc ls (.int v :: .ref (ad k) :: rest)) :=
  g_put0 C U hH hS hk K j hj L hfin hn hfit (gW_puti hk K.2.2.2.2.2 hF) hdg kk
theorem g_putl (C : CallFix p m c cc nL s args lw_good own) (U : gU w D cA ad s) (hH : gP0 w D cA ad st H) (hS : va_S (gA w ad) s.heap H locs) (hk : gK w k = cn) (K : gCl cn C0 T N ty0) (j : Nat) (hj : j < N) (L : gLk own idx (T j)) (hfin : (T j).2.2.2 = false) (hF : gF cn j = 1) {v : Int64} (hn : narrow (ty0 j) (.long v) = .long v) (hfit : fits (ty0 j) (.long v) = true) (hdg : decode cc pc = .ok (.putfield idx, 3))
    (kk : ∀ (H1 : Heap) (locs1 : List Loc), gP0 w D cA ad (wl st k j v) H1 → va_S (gA w ad) s.heap H1 locs1 → W p l e R s m args below meth c H1 locs1 cells slots Q (F0 m (pc + 3) ls rest)) : W p l e R s m args below meth c H locs cells slots Q (F0 m pc ls (.long v :: .ref (ad k) :: rest)) :=
  g_put0 C U hH hS hk K j hj L hfin hn hfit (gW_putl hk K.2.2.2.2.2 hF) hdg kk
theorem g_putr (C : CallFix p m c cc nL s args lw_good own) (U : gU w D cA ad s) (hH : gP0 w D cA ad st H) (hS : va_S (gA w ad) s.heap H locs) (hk : gK w k = cn) (K : gCl cn C0 T N ty0) (j : Nat) (hj : j < N) (L : gLk own idx (T j)) (hfin : (T j).2.2.2 = false) (hF : gF cn j = 3) {v : Nat} (hn : narrow (ty0 j) (.ref (ad v)) = .ref (ad v)) (hfit : fits (ty0 j) (.ref (ad v)) = true) (hdg : decode cc pc = .ok (.putfield idx, 3))
    (kk : ∀ (H1 : Heap) (locs1 : List Loc), gP0 w D cA ad (wr st k j v) H1 → va_S (gA w ad) s.heap H1 locs1 → W p l e R s m args below meth c H1 locs1 cells slots Q (F0 m (pc + 3) ls rest)) : W p l e R s m args below meth c H locs cells slots Q (F0 m pc ls (.ref (ad v) :: .ref (ad k) :: rest)) :=
  g_put0 C U hH hS hk K j hj L hfin hn hfit (gW_putr hk K.2.2.2.2.2 hF) hdg kk
theorem g_iald (C : CallFix p m c cc nL s args lw_good own) (U : gU w D cA ad s) (hH : gP0 w D cA ad st H) (hk : gK w k = 20) {n : Nat} (hn : gN w k = n) {i : Int32} (hi : gI i n) (hdg : decode cc pc = .ok (.iaload, 1))
    (kk : W p l e R s m args below meth c H locs cells slots Q (F0 m (pc + 1) ls (.int (st.1 k i.toNatClampNeg) :: rest))) : W p l e R s m args below meth c H locs cells slots Q (F0 m pc ls (.int i :: .ref (ad k) :: rest)) :=
  va_iald C.1 C.2.1 U.1 hH k 0 (gW_arr hk hn (by decide) (by decide)) rfl hi.in hdg kk
theorem g_zald (C : CallFix p m c cc nL s args lw_good own) (U : gU w D cA ad s) (hH : gP0 w D cA ad st H) (hk : gK w k = 21) {n : Nat} (hn : gN w k = n) {i : Int32} (hi : gI i n) (hdg : decode cc pc = .ok (.baload, 1))
    (kk : W p l e R s m args below meth c H locs cells slots Q (F0 m (pc + 1) ls (.int (st.1 k i.toNatClampNeg) :: rest))) : W p l e R s m args below meth c H locs cells slots Q (F0 m pc ls (.int i :: .ref (ad k) :: rest)) :=
  va_zald C.1 C.2.1 U.1 hH k 1 (gW_arr hk hn (by decide) (by decide)) rfl hi.in hdg kk
theorem g_bald (C : CallFix p m c cc nL s args lw_good own) (U : gU w D cA ad s) (hH : gP0 w D cA ad st H) (hk : gK w k = 22) {n : Nat} (hn : gN w k = n) {i : Int32} (hi : gI i n) (hdg : decode cc pc = .ok (.baload, 1))
    (kk : W p l e R s m args below meth c H locs cells slots Q (F0 m (pc + 1) ls (.int (st.1 k i.toNatClampNeg) :: rest))) : W p l e R s m args below meth c H locs cells slots Q (F0 m pc ls (.int i :: .ref (ad k) :: rest)) :=
  va_bald C.1 C.2.1 U.1 hH k 2 (gW_arr hk hn (by decide) (by decide)) rfl hi.in hdg kk
theorem g_lald (C : CallFix p m c cc nL s args lw_good own) (U : gU w D cA ad s) (hH : gP0 w D cA ad st H) (hk : gK w k = 23) {n : Nat} (hn : gN w k = n) {i : Int32} (hi : gI i n) (hdg : decode cc pc = .ok (.laload, 1))
    (kk : W p l e R s m args below meth c H locs cells slots Q (F0 m (pc + 1) ls (.long (st.2.1 k i.toNatClampNeg) :: rest))) : W p l e R s m args below meth c H locs cells slots Q (F0 m pc ls (.int i :: .ref (ad k) :: rest)) :=
  va_lald C.1 C.2.1 U.1 hH k 3 (gW_arl hk hn) rfl hi.in hdg kk
theorem g_aald (C : CallFix p m c cc nL s args lw_good own) (U : gU w D cA ad s) (hH : gP0 w D cA ad st H) (hk : gK w k = 24) {n : Nat} (hn : gN w k = n) {i : Int32} (hi : gI i n) (hdg : decode cc pc = .ok (.aaload, 1))
    (kk : W p l e R s m args below meth c H locs cells slots Q (F0 m (pc + 1) ls (.ref (ad (st.2.2 k i.toNatClampNeg)) :: rest))) : W p l e R s m args below meth c H locs cells slots Q (F0 m pc ls (.int i :: .ref (ad k) :: rest)) :=
  va_aldq (f := fun i => some (ad (st.2.2 k i))) C.1 C.2.1 U.1 hH k 4 (gW_arq hk hn) rfl hi.in hdg kk
theorem g_gald (C : CallFix p m c cc nL s args lw_good own) (U : gU w D cA ad s) (hH : gP0 w D cA ad st H) (hk : gK w k = 25) {n : Nat} (hn : gN w k = n) {i : Int32} (hi : gI i n) (hdg : decode cc pc = .ok (.aaload, 1))
    (kk : W p l e R s m args below meth c H locs cells slots Q (F0 m (pc + 1) ls (.ref (ad (k + 1 + i.toNatClampNeg)) :: rest))) : W p l e R s m args below meth c H locs cells slots Q (F0 m pc ls (.int i :: .ref (ad k) :: rest)) := by
  have hin := hi.in
  have hlt : i.toNatClampNeg < n := Nat.not_le.mp fun q => hin (Or.inr q)
  exact W.aald (v := va_rf (some (ad (k + 1 + i.toNatClampNeg)))) (ty := .array .int) C.1 C.2.1 (hH k _ (gW_arg hk hn)) ((U.1.2 5 _ rfl).1 n (fun j => va_rf (some (ad (k + 1 + j))))) rfl (fun q => by cases q) (by show ¬ (i < 0 ∨ (arrV _ _ _).slots.size ≤ _); rw [arrV_size]; exact hin) (by show (arrV _ _ _).slots[_]? = _; rw [arrV_read _ _ hlt]) rfl rfl hdg kk
theorem g_iast (C : CallFix p m c cc nL s args lw_good own) (U : gU w D cA ad s) (hH : gP0 w D cA ad st H) (hS : va_S (gA w ad) s.heap H locs) (hk : gK w k = 20) {n : Nat} (hn : gN w k = n) {i v : Int32} (hi : gI i n) (hdg : decode cc pc = .ok (.iastore, 1))
    (kk : ∀ (H1 : Heap) (locs1 : List Loc), gP0 w D cA ad (wi st k i.toNatClampNeg v) H1 → va_S (gA w ad) s.heap H1 locs1 → W p l e R s m args below meth c H1 locs1 cells slots Q (F0 m (pc + 1) ls rest)) : W p l e R s m args below meth c H locs cells slots Q (F0 m pc ls (.int v :: .int i :: .ref (ad k) :: rest)) :=
  va_iast C.1 C.2.1 U.1 hH (U.D st) hS k 0 (gW_arr hk hn (by decide) (by decide)) rfl hi.in hdg (fun H1 locs1 hP _ hS => kk H1 locs1 (by rw [gW_ast hk hn (by decide) (by decide)] at hP; exact hP) hS)
theorem g_zast (C : CallFix p m c cc nL s args lw_good own) (U : gU w D cA ad s) (hH : gP0 w D cA ad st H) (hS : va_S (gA w ad) s.heap H locs) (hk : gK w k = 21) {n : Nat} (hn : gN w k = n) {i v : Int32} (hi : gI i n) (hdg : decode cc pc = .ok (.bastore, 1))
    (kk : ∀ (H1 : Heap) (locs1 : List Loc), gP0 w D cA ad (wi st k i.toNatClampNeg (vp_nar .boolean v)) H1 → va_S (gA w ad) s.heap H1 locs1 → W p l e R s m args below meth c H1 locs1 cells slots Q (F0 m (pc + 1) ls rest)) : W p l e R s m args below meth c H locs cells slots Q (F0 m pc ls (.int v :: .int i :: .ref (ad k) :: rest)) :=
  va_zast C.1 C.2.1 U.1 hH (U.D st) hS k 1 (gW_arr hk hn (by decide) (by decide)) rfl hi.in hdg (fun H1 locs1 hP _ hS => kk H1 locs1 (by rw [gW_ast hk hn (by decide) (by decide)] at hP; exact hP) hS)
theorem g_bast (C : CallFix p m c cc nL s args lw_good own) (U : gU w D cA ad s) (hH : gP0 w D cA ad st H) (hS : va_S (gA w ad) s.heap H locs) (hk : gK w k = 22) {n : Nat} (hn : gN w k = n) {i v : Int32} (hi : gI i n) (hdg : decode cc pc = .ok (.bastore, 1))
    (kk : ∀ (H1 : Heap) (locs1 : List Loc), gP0 w D cA ad (wi st k i.toNatClampNeg (vp_nar .byte v)) H1 → va_S (gA w ad) s.heap H1 locs1 → W p l e R s m args below meth c H1 locs1 cells slots Q (F0 m (pc + 1) ls rest)) : W p l e R s m args below meth c H locs cells slots Q (F0 m pc ls (.int v :: .int i :: .ref (ad k) :: rest)) :=
  va_bast C.1 C.2.1 U.1 hH (U.D st) hS k 2 (gW_arr hk hn (by decide) (by decide)) rfl hi.in hdg (fun H1 locs1 hP _ hS => kk H1 locs1 (by rw [gW_ast hk hn (by decide) (by decide)] at hP; exact hP) hS)
theorem g_last (C : CallFix p m c cc nL s args lw_good own) (U : gU w D cA ad s) (hH : gP0 w D cA ad st H) (hS : va_S (gA w ad) s.heap H locs) (hk : gK w k = 23) {n : Nat} (hn : gN w k = n) {i : Int32} {v : Int64} (hi : gI i n) (hdg : decode cc pc = .ok (.lastore, 1))
    (kk : ∀ (H1 : Heap) (locs1 : List Loc), gP0 w D cA ad (wl st k i.toNatClampNeg v) H1 → va_S (gA w ad) s.heap H1 locs1 → W p l e R s m args below meth c H1 locs1 cells slots Q (F0 m (pc + 1) ls rest)) : W p l e R s m args below meth c H locs cells slots Q (F0 m pc ls (.long v :: .int i :: .ref (ad k) :: rest)) :=
  va_last C.1 C.2.1 U.1 hH (U.D st) hS k 3 (gW_arl hk hn) rfl hi.in hdg (fun H1 locs1 hP _ hS => kk H1 locs1 (by rw [gW_asl hk hn] at hP; exact hP) hS)
theorem g_aast (C : CallFix p m c cc nL s args lw_good own) (U : gU w D cA ad s) (hH : gP0 w D cA ad st H) (hS : va_S (gA w ad) s.heap H locs) (hk : gK w k = 24) {n : Nat} (hn : gN w k = n) {i : Int32} {v : Nat} (hv : gK w v = 5) (hi : gI i n) (hdg : decode cc pc = .ok (.aastore, 1))
    (kk : ∀ (H1 : Heap) (locs1 : List Loc), gP0 w D cA ad (wr st k i.toNatClampNeg v) H1 → va_S (gA w ad) s.heap H1 locs1 → W p l e R s m args below meth c H1 locs1 cells slots Q (F0 m (pc + 1) ls rest)) : W p l e R s m args below meth c H locs cells slots Q (F0 m pc ls (.ref (ad v) :: .int i :: .ref (ad k) :: rest)) :=
  va_astq (r := (RX5, TX5, 10)) (f := fun i => some (ad (st.2.2 k i))) C.1 C.2.1 U.1 hH (U.D st) hS k 4 v 5 (gW_arq hk hn) rfl (gW_obj hv (by decide)) rfl hi.in hdg (fun H1 locs1 hP _ hS => kk H1 locs1 (by rw [gW_asq hk hn] at hP; exact hP) hS)
theorem g_alen (C : CallFix p m c cc nL s args lw_good own) (U : gU w D cA ad s) (hH : gP0 w D cA ad st H) (hk : gK w k = 20) {n : Nat} (hn : gN w k = n) {v : Int32} (hv : Int32.ofNat n = v) (hdg : decode cc pc = .ok (.arraylength, 1))
    (kk : W p l e R s m args below meth c H locs cells slots Q (F0 m (pc + 1) ls (.int v :: rest))) : W p l e R s m args below meth c H locs cells slots Q (F0 m pc ls (.ref (ad k) :: rest)) :=
  va_alen C.1 C.2.1 U.1 hH k 0 (gW_arr hk hn (by decide) (by decide)) rfl hv hdg kk
theorem g_iret {r : Int32} {v : Int32} {st' : gS} (C : CallFix p m c cc nL s args lw_good own) (hr : meth.sig.returnType = some .int) (hlk : meth.locks = false) (hH : gP0 w D cA ad st H) (hS : va_S (gA w ad) s.heap H locs) (hf : (some (v, st) : Option (Int32 × gS)) = some (r, st')) (hdg : decode cc pc = .ok (.ireturn, 1)) :
    W p l e R s m args below meth c H locs 0 0 (MQ below (gQc w D cA ad st' (some (.int r))) args s 0 0 (gA w ad)) (F0 m pc ls [.int v]) := by
  cases hf
  exact W.iret C.1 C.2.1 hr (fun t ht _ => ⟨rfl, by rw [ht]; exact hH, hS.F ht⟩) hS.2.2 hdg hlk
theorem gB_nar {v : Int32} (h : gB v) : narrow .boolean (.int v) = .int v := by
  rcases h with rfl | rfl <;> rfl
theorem g_zret {r : Int32} {v : Int32} {st' : gS} (C : CallFix p m c cc nL s args lw_good own) (hr : meth.sig.returnType = some .boolean) (hlk : meth.locks = false) (hH : gP0 w D cA ad st H) (hS : va_S (gA w ad) s.heap H locs) (hb : gB v) (hf : (some (v, st) : Option (Int32 × gS)) = some (r, st')) (hdg : decode cc pc = .ok (.ireturn, 1)) :
    W p l e R s m args below meth c H locs 0 0 (MQ below (gQc w D cA ad st' (some (.int r))) args s 0 0 (gA w ad)) (F0 m pc ls [.int v]) := by
  cases hf
  exact W.zret C.1 C.2.1 hr (gB_nar hb) (fun t ht _ => ⟨rfl, by rw [ht]; exact hH, hS.F ht⟩) hS.2.2 hdg hlk
theorem g_vret {st' : gS} (C : CallFix p m c cc nL s args lw_good own) (hr : meth.sig.returnType = none) (hlk : meth.locks = false) (hH : gP0 w D cA ad st H) (hS : va_S (gA w ad) s.heap H locs) (hf : (some st : Option gS) = some st') (hdg : decode cc pc = .ok (.return_, 1)) :
    W p l e R s m args below meth c H locs 0 0 (MQ below (gQc w D cA ad st' none) args s 0 0 (gA w ad)) (F0 m pc ls []) := by
  cases hf
  exact W.vret C.1 C.2.1 hr (fun t ht _ => ⟨rfl, by rw [ht]; exact hH, hS.F ht⟩) hS.2.2 hdg hlk
theorem g_aret {r v : Nat} {st' : gS} {rt : String} (C : CallFix p m c cc nL s args lw_good own) (hr : meth.sig.returnType = some (.object rt)) (hlk : meth.locks = false) (hH : gP0 w D cA ad st H) (hS : va_S (gA w ad) s.heap H locs) (hf : (some (v, st) : Option (Nat × gS)) = some (r, st')) (hdg : decode cc pc = .ok (.areturn, 1)) :
    W p l e R s m args below meth c H locs 0 0 (MQ below (gQc w D cA ad st' (some (.ref (ad r)))) args s 0 0 (gA w ad)) (F0 m pc ls [.ref (ad v)]) := by
  cases hf
  exact W.aret C.1 C.2.1 hr (Or.inl ⟨_, rfl⟩) (Or.inr ⟨_, rfl⟩) (fun t ht _ => ⟨rfl, by rw [ht]; exact hH, hS.F ht⟩) hS.2.2 hdg hlk
/-- behind a call -/
theorem g_after {A1 : Nat → Prop} {st' : gS} {rv : Option Value} {st0 : List Value} {a : Array Value} (hr : va_Run p l e R s m args below meth c H locs cells slots 0 0 (F0 m pc ls st0) rest (gQc w D cA ad st' rv a) (gA w ad)) (hS : va_S (gA w ad) s.heap H locs)
    (kk : ∀ (H1 : Heap) (locs1 : List Loc), gP0 w D cA ad st' H1 → va_S (gA w ad) s.heap H1 locs1 → W p l e R s m args below meth c H1 locs1 cells slots Q (F0 m (pc + 3) ls (rv.toList ++ rest))) : W p l e R s m args below meth c H locs cells slots Q (F0 m pc ls st0) := by
  intro T hT X
  obtain ⟨v, st₀, t, T', L, h0, X', hL, e1, e2, ⟨hv, hp, hz, hk⟩, stp⟩ := hr T hT X
  cases hv
  rw [h0] at hz hk
  obtain ⟨t2, a1, b1⟩ := kk T'.heap (locs ++ L) (by rw [e1]; exact hp)
    ⟨Nat.le_trans hS.1 (by rw [e1]; exact hz), fun q h1 h2 => by rw [e1, hk q (Nat.lt_of_lt_of_le h1 hS.1) h2]; exact hS.2.1 q h1 h2, fun q hq => by
      rcases List.mem_append.mp hq with h | h
      · exact hS.2.2 q h
      · exact hL q h⟩ T' rfl X'
  exact ⟨t2, stp t2 a1, b1⟩
variable {y : MethodName} {bytes : ByteArray} {maxL n L : Nat} {ret : Option FieldType} {As : List Value} {rv : Option Value} {st' : gS}
theorem g_callV (C : CallFix p m c cc nL s args lw_good own) (U : gU w D cA ad s) (hH : gP0 w D cA ad st H) (hS : va_S (gA w ad) s.heap H locs) (hsz : ls.size = nL) (hR : R.frames = R.frames) (hk : gK w k = cn) (hc : vwCl[cn]? = some (y.cls, T, N)) (h20 : cn < 20)
    (hM : gM l y bytes maxL ret L w D cA ad st (.ref (ad k) :: As) rv st') (Y : gYv y bytes maxL ret n) (hl : Cond.methodLink own idx y ∈ lw_good) (hroom : L + 1 ≤ R.frames ∧ 8 + (maxL + 11) + 40 * L ≤ R.locals) (hf : cells ≤ R.cells ∧ slots ≤ R.slots) (hn : As.length = n) (hW : (rest.map fun v => v.category).sum ≤ 8) (hdg : decode cc pc = .ok (.invokevirtual idx, 3))
    {stk : List Value} (hstk : stk = As.reverse ++ .ref (ad k) :: rest)
    (kk : ∀ (H1 : Heap) (locs1 : List Loc), gP0 w D cA ad st' H1 → va_S (gA w ad) s.heap H1 locs1 → W p l e R s m args below meth c H1 locs1 cells slots Q (F0 m (pc + 3) ls (rv.toList ++ rest))) : W p l e R s m args below meth c H locs cells slots Q (F0 m pc ls stk) := by
  obtain ⟨y1, y2, y3, y4, y5, y6, y7⟩ := Y
  have hts := C.2.2.2.2
  have cw : CallW R s args own y.cls idx y bytes maxL ret (gws y bytes maxL ret) (gRm L) 0 0 n :=
    cwV n hts (lw_good_in (fun w h => by
      rcases List.mem_append.mp h with h | h
      · simp only [List.mem_cons, List.not_mem_nil, or_false] at h
        rcases h with rfl | rfl | rfl | rfl
        · exact hl
        · exact y1
        · exact y2
        · exact y3
      · rcases List.mem_cons.mp h with rfl | h
        · exact y4
        · exact h)) rfl rfl rfl ⟨rfl, y5, y6, y7⟩ hroom
  have hp : PreV s H y.cls (ad k) (gPc w D cA ad st (.ref (ad k) :: As)) As :=
    ⟨gPc.blind, va_recv U.1 hH hc (gW_obj hk h20), fun u hu hW => ⟨rfl, U.call hS hW hu, by rw [hu]; exact hH⟩⟩
  exact g_after (A1 := gA w ad) (va_runV (As := As) (rest := rest) C hM cw hp rfl hn hsz hstk (lv_room hW) hdg (by simpa using hf)) hS kk
theorem g_callS (C : CallFix p m c cc nL s args lw_good own) (U : gU w D cA ad s) (hH : gP0 w D cA ad st H) (hS : va_S (gA w ad) s.heap H locs) (hsz : ls.size = nL)
    (hM : gM l y bytes maxL ret L w D cA ad st As rv st') (Y : gYs y bytes maxL ret n) (hl : Cond.methodLink own idx y ∈ lw_good) (hroom : L + 1 ≤ R.frames ∧ 8 + (maxL + 11) + 40 * L ≤ R.locals) (hf : cells ≤ R.cells ∧ slots ≤ R.slots) (hn : As.length = n) (hW : (rest.map fun v => v.category).sum ≤ 8) (hdg : decode cc pc = .ok (.invokestatic idx, 3))
    {stk : List Value} (hstk : stk = As.reverse ++ rest)
    (kk : ∀ (H1 : Heap) (locs1 : List Loc), gP0 w D cA ad st' H1 → va_S (gA w ad) s.heap H1 locs1 → W p l e R s m args below meth c H1 locs1 cells slots Q (F0 m (pc + 3) ls (rv.toList ++ rest))) : W p l e R s m args below meth c H locs cells slots Q (F0 m pc ls stk) := by
  obtain ⟨y1, y3, y4, y5, y6, y7⟩ := Y
  have hts := C.2.2.2.2
  have cw : CallB R s args own idx y bytes maxL ret (gws y bytes maxL ret) (gRm L) 0 0 n ∧ (Cond.static y).before args s = true :=
    ⟨callB_of n hts (lw_good_in (fun w h => by
      rcases List.mem_cons.mp h with rfl | h
      · exact y4
      · exact h)) rfl rfl rfl (hts _ y3) (hts _ hl) ⟨y5, y6, y7⟩ hroom, hts _ y1⟩
  have hp : PreS s H (gPc w D cA ad st As) As :=
    ⟨gPc.blind, fun u hu hW => ⟨rfl, U.call hS hW hu, by rw [hu]; exact hH⟩⟩
  exact g_after (A1 := gA w ad) (va_runS (As := As) (rest := rest) C hM cw hp rfl hn hsz hstk (lv_room hW) hdg (by simpa using hf)) hS kk
/-- a method's contract out of its walk -/
theorem g_met {L n : Nat} {y : MethodName} {b : ByteArray} {ret : Option FieldType} {av : List Value} {rv : Option Value} {st st' : gS} (hy : plainName y.cls = true) (hlen : (lg_sl av).length ≤ n)
    (body : ∀ (p : Program) (e : Env) (s : State) (m : MethodId) (args : Array Value) (below : List Frame) (meth : Method) (c : Code) (ls : Array Slot), CallFix p m c b n s args lw_good y.cls → meth.sig.returnType = ret → meth.locks = false → gU w D cA ad s → gP0 w D cA ad st s.heap → lv_has ls n (lv_args 0 av) → W p l e (gRm L) s m args below meth c s.heap [] 0 0 (MQ below (gQc w D cA ad st' rv) args s 0 0 (gA w ad)) (F0 m 0 ls [])) : gM l y b n ret L w D cA ad st av rv st' := by
  refine Met.ofW (cc := b) (maxL := n) (ret := ret) hy rfl ?_
  intro p e s m args below meth c s₁ B hml hv
  obtain ⟨rfl, hU, hH⟩ := hv
  have hts := atoms_spec (ws := gws y b n ret) B.pre
  have hown : s.vm.findClass y.cls = some m.cls := findClass_of_methodNamed B.named
  have hl := lv_entry av (n := n) hlen
  rw [lg_entry_eq]
  generalize (lg_sl av ++ List.replicate (n - (lg_sl av).length) Slot.unset).toArray = ls at hl ⊢
  exact body p e s m av.toArray below meth c ls ⟨B.exec, B.bytes, hml, hown, fun w h => hts w (List.mem_cons_of_mem _ h)⟩ B.returns B.notSynchronized hU hH hl
end GI
