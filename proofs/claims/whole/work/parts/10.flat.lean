/-! THE FLAT MACHINE: one world of cells by number, a state of numbers, a contract a method, a judgement a place in the code -/
abbrev gcl : List vw_C := [(RX1, TX1, 12), (RX2, TX2, 9), (RX3, TX3, 3), (RX4, TX4, 5), (RX5, TX5, 10), (RX7, TX7, 4), (RX8, TX8, 7), (RX9, TX9, 1), (RX11, TX11, 8), (RX12, TX12, 21), (RJ4, TJ4, 4)]
/-- the surroundings: classes' numbers and slots, array classes, where the world begins, the heap before it, addresses of what lies in that heap, the script -/
abbrev gE : Type := va_G × (Nat → ClassId) × Nat × Heap × (Nat → Nat) × (Nat → Int32)
/-- a state: how many cells are made, which references are set, ints, longs, doubles -/
abbrev gS : Type := Nat × (Nat → Nat → Bool) × (Nat → Nat → Int32) × (Nat → Nat → Int64) × (Nat → UInt64)
/-- a text's hidden part: where its bytes lie, how many places, the bytes, a flag of the builder -/
abbrev gT1 : Type := Nat × Nat × (Nat → Int32) × Int32
abbrev gT : Type := gT1 × gT1
abbrev gar (E : gE) : Nat → ClassId := E.2.1
abbrev gX (E : gE) : Nat := E.2.2.1
abbrev gHb (E : gE) : Heap := E.2.2.2.1
abbrev gva (E : gE) : Nat → Nat := E.2.2.2.2.1
abbrev gxs (E : gE) : Nat → Int32 := E.2.2.2.2.2
abbrev gn (σ : gS) : Nat := σ.1
abbrev gR (σ : gS) : Nat → Nat → Bool := σ.2.1
abbrev gM (σ : gS) : Nat → Nat → Int32 := σ.2.2.1
abbrev gL (σ : gS) : Nat → Nat → Int64 := σ.2.2.2.1
abbrev gF (σ : gS) : Nat → UInt64 := σ.2.2.2.2
abbrev gtys (E : gE) : List (ClassId × FieldType) := [(gar E 0, .int), (gar E 1, .char), (gar E 2, .long), (gar E 3, .array .int), (gar E 4, .object "PaperBoatInsurer$Book"), (gar E 5, .double), (gar E 6, .byte)]
def gA (E : gE) : Nat → Prop := fun q => gX E ≤ q
/-- the kinds of a book's fifty cells: (0, class) an object, (1, n) ints, (2, n) chars, (3, n) longs, (4, n) rows of ints, (5, n) books, (6, n) doubles, (7, t) a text's bytes -/
def bkL : List (Nat × Nat) := [(0, 0), (0, 4), (1, 8), (1, 8), (1, 8), (1, 8), (1, 8), (1, 8), (1, 8), (3, 241), (0, 1), (1, 12), (1, 12), (2, 12), (1, 12), (1, 12), (1, 12), (4, 12), (1, 4), (1, 4), (1, 4), (1, 4), (1, 4), (1, 4), (1, 4), (1, 4), (1, 4), (1, 4), (1, 4), (1, 4), (0, 6), (1, 4), (1, 4), (1, 4), (1, 4), (1, 4), (1, 4), (0, 7), (4, 6), (1, 6), (1, 6), (1, 6), (1, 6), (1, 6), (1, 6), (0, 3), (1, 8), (1, 8), (1, 8), (1, 100)]
def tlL : List (Nat × Nat) := [(0, 5), (0, 10), (7, 0), (1, 4), (0, 10), (7, 1), (0, 9), (1, 300), (1, 300), (1, 300), (1, 2400), (1, 4), (1, 4), (1, 80), (1, 60), (1, 32), (1, 128), (3, 1), (6, 1)]
def kd (j : Nat) : Nat × Nat := if j = 0 then (0, 8) else if j < 101 then bkL.getD ((j - 1) % 50) (1, 0) else if j = 101 then (0, 2) else if j = 102 then (5, 9) else if j < 553 then bkL.getD ((j - 103) % 50) (1, 0) else tlL.getD (j - 553) (1, 0)
/-- where a book begins -/
def isBk (b : Nat) : Prop := b = 1 ∨ b = 51 ∨ ∃ k, k < 9 ∧ b = 103 + 50 * k
theorem isBk_lt {b : Nat} (h : isBk b) : b + 50 ≤ 553 := by
  rcases h with rfl | rfl | ⟨k, hk, rfl⟩ <;> omega
theorem kd_bk {b : Nat} (h : isBk b) {o : Nat} (ho : o < 50) : kd (b + o) = bkL.getD o (1, 0) := by
  unfold kd
  rcases h with rfl | rfl | ⟨k, hk, rfl⟩
  · rw [if_neg (by omega), if_pos (by omega), show (1 + o - 1) % 50 = o by omega]
  · rw [if_neg (by omega), if_pos (by omega), show (51 + o - 1) % 50 = o by omega]
  · rw [if_neg (by omega), if_neg (by omega), if_neg (by omega), if_neg (by omega), if_pos (by omega), show (103 + 50 * k + o - 103) % 50 = o by omega]
/-- what a class' field holds: 0 a number, c + 1 a reference to the cell c behind the object, 1000 an enum's constant, 1001 a builder's bytes, 1002 a builder's flag -/
def fqL : List (List Nat) := [[2, 11, 31, 38, 46, 0, 0, 0, 0, 0, 0, 0], [2, 0, 0, 3, 4, 5, 6, 7, 8], [2, 0, 0], [2, 3, 4, 5, 0], [2, 0, 0, 3, 4, 5, 6, 7, 8, 9], [2, 4, 1000, 0], [2, 3, 4, 5, 6, 7, 0], [2], [2, 52, 102, 554, 558, 0, 0, 0], [2, 3, 4, 5, 6, 7, 0, 0, 0, 0, 0, 8, 0, 9, 10, 11, 0, 0, 0, 0, 0], [1001, 0, 1002, 0]]
def fcode (ci k : Nat) : Nat := (fqL.getD ci []).getD k 0
def nf (ci : Nat) : Nat := (fqL.getD ci []).length
def fv (E : gE) (τ : gT) (σ : gS) (ci j k : Nat) : Value :=
  if fcode ci k = 0 then .int (gM σ j k)
  else if fcode ci k = 1000 then (if gM σ j k = 0 then .null else .ref (gva E ((gM σ j k).toNatClampNeg - 1)))
  else if fcode ci k = 1001 then (if gR σ j k = true then .ref (if j = 554 then τ.1.1 else τ.2.1) else .null)
  else if fcode ci k = 1002 then .int (if j = 554 then τ.1.2.2.2 else τ.2.2.2.2)
  else (if gR σ j k = true then .ref (gX E + (j + (fcode ci k - 1))) else .null)
def fvs (E : gE) (τ : gT) (σ : gS) (ci j : Nat) : List Value := (List.range (nf ci)).map (fv E τ σ ci j)
def cellE (E : gE) (τ : gT) (σ : gS) (j : Nat) : va_E :=
  if (kd j).1 = 0 then .inr ((kd j).2, fvs E τ σ (kd j).2 j)
  else if (kd j).1 = 1 then .inl (gar E 0, (kd j).2, .inl (gM σ j))
  else if (kd j).1 = 2 then .inl (gar E 1, (kd j).2, .inl (gM σ j))
  else if (kd j).1 = 3 then .inl (gar E 2, (kd j).2, .inr (.inl (gL σ j)))
  else if (kd j).1 = 4 then .inl (gar E 3, (kd j).2, .inr (.inr (.inr (.inr (fun i => if i < (kd j).2 then some (gX E + (j + 1 + i)) else none)))))
  else if (kd j).1 = 5 then .inl (gar E 4, (kd j).2, .inr (.inr (.inr (.inr (fun i => if gR σ j i = true then some (gX E + (103 + 50 * i)) else none)))))
  else if (kd j).1 = 6 then .inl (gar E 5, (kd j).2, .inr (.inr (.inr (.inl (gF σ)))))
  else if (kd j).2 = 0 then .inl (gar E 6, τ.1.2.1, .inl τ.1.2.2.1) else .inl (gar E 6, τ.2.2.1, .inl τ.2.2.2.1)
def adr (E : gE) (τ : gT) (j : Nat) : Nat := if j = 555 then τ.1.1 else if j = 558 then τ.2.1 else gX E + j
def gws (E : gE) (τ : gT) (σ : gS) : va_W := (List.range (gn σ)).map fun j => (adr E τ j, cellE E τ σ j)
theorem gws_at {E : gE} {τ : gT} {σ : gS} {j : Nat} (h : j < gn σ) : (gws E τ σ)[j]? = some (adr E τ j, cellE E τ σ j) := by
  unfold gws
  rw [List.getElem?_map, List.getElem?_range h]
  rfl
theorem gws_len (E : gE) (τ : gT) (σ : gS) : (gws E τ σ).length = gn σ := by
  unfold gws
  rw [List.length_map, List.length_range]
theorem adr_of {E : gE} {τ : gT} {j : Nat} (h : (kd j).1 ≠ 7) : adr E τ j = gX E + j := by
  unfold adr
  rw [if_neg (fun e => h (by rw [e]; decide)), if_neg (fun e => h (by rw [e]; decide))]
/-- a builder at j, its bytes: they are what the state says -/
def gTx (σ : gS) (j : Nat) (w : gT1) : Prop := sb_Fit w.2.2.1 ∧ gM σ j 1 = 0 ∧ (w.2.2.2 = 0 ∨ w.2.2.2 = 1) ∧ ∃ n : Nat, gM σ j 3 = nI n ∧ n ≤ w.2.1 ∧ w.2.1 ≤ 256 ∧ ∀ i, i < n → ∃ c : Nat, c < 256 ∧ gM σ (j + 1) i = nI c ∧ w.2.2.1 i = sb_b c
/-- the heap holds the state -/
def gB (E : gE) (H : Heap) : Prop := gX E ≤ H.size ∧ ∀ q : Nat, q < gX E → H[q]? = (gHb E)[q]?
def gHH (E : gE) (σ : gS) (H : Heap) : Prop := gB E H ∧ gn σ ≤ 572 ∧ (gn σ < 572 → H.size = gX E + gn σ) ∧ ∃ τ : gT, gTx σ 554 τ.1 ∧ gTx σ 557 τ.2 ∧ va_P E.1 gcl (gws E τ σ) H ∧ va_D (gA E) (gws E τ σ)
/-- two words more, of a private method of the class above; the tables give them at the start -/
def gxs0 : List Cond := [.selects RX5 yX6_countAhead yX6_countAhead, .selects RX2 yX6_countAhead yX6_countAhead, .selects RJ4 yJ5_ensureCapacityInternal_d00df yJ5_ensureCapacityInternal_d00df, .selects RJ4 yJ5_newCapacity_0f7a4 yJ5_newCapacity_0f7a4]
/-- good words of the tables -/
def wA : List Cond := gxs0 ++ lw_tbl.filter goodWord
theorem wA_of {w : Cond} (h : w ∈ lw_tbl) (g : goodWord w = true) : w ∈ wA := List.mem_append_right _ (List.mem_filter.mpr ⟨h, g⟩)
theorem wA_g {w : Cond} (h : w ∈ wA) : goodWord w = true := (List.mem_append.mp h).elim (fun h => (by decide +kernel : ∀ w ∈ gxs0, goodWord w = true) w h) (fun h => (List.mem_filter.mp h).2)
theorem gx_5 : Cond.selects RX5 yX6_countAhead yX6_countAhead ∈ wA := List.mem_append_left _ List.mem_cons_self
theorem gx_e : Cond.selects RJ4 yJ5_ensureCapacityInternal_d00df yJ5_ensureCapacityInternal_d00df ∈ wA := List.mem_append_left _ (List.mem_cons_of_mem _ (List.mem_cons_of_mem _ List.mem_cons_self))
theorem gx_n : Cond.selects RJ4 yJ5_newCapacity_0f7a4 yJ5_newCapacity_0f7a4 ∈ wA := List.mem_append_left _ (List.mem_cons_of_mem _ (List.mem_cons_of_mem _ (List.mem_cons_of_mem _ List.mem_cons_self)))
theorem gx_2 : Cond.selects RX2 yX6_countAhead yX6_countAhead ∈ wA := List.mem_append_left _ (List.mem_cons_of_mem _ List.mem_cons_self)
theorem wA_good {ws : List Cond} (h : ∀ w ∈ ws, w ∈ wA) : GoodIn wA ws := fun w hw => ⟨h w hw, good_of_word (wA_g (h w hw))⟩
/-- the words of the tables that move by themselves: links of nest mates, declarations, casts -/
def gNest : Cond → Bool
  | .methodLinkNest _ _ _ _ => true
  | .fieldLinkNest _ _ _ _ _ _ => true
  | .declares _ => true
  | .castable _ _ => true
  | _ => false
def wN : List Cond := lw_tbl.filter gNest
theorem wN_of {w : Cond} (h : w ∈ lw_tbl) (g : gNest w = true) : w ∈ wN := List.mem_filter.mpr ⟨h, g⟩
theorem wN_warm {w : Cond} (h : w ∈ wN) {s U : State} (hW : s.WarmedH U.vm) (hZ : va_Nw w s) : va_Nw w U := by
  have g := (List.mem_filter.mp h).2
  cases w <;> first | exact va_Nw.warmM hW hZ | exact va_Nw.warmF hW hZ | exact va_Nw.warmD hW hZ | exact va_Nw.warmC hW hZ | exact absurd g (by simp [gNest])
/-- the texts of the class' own throws -/
def gStrOk (w : Cond) : Bool := match w with
  | .stringRef own _ _ => decide (own = RX11 ∨ own = RX1 ∨ own = RX2 ∨ own = RX3 ∨ own = RX4 ∨ own = RX5 ∨ own = RX6 ∨ own = RX7 ∨ own = RX8 ∨ own = RX9)
  | _ => false
def gStr : List (String × Nat × String) := lw_tbl.filterMap fun w => match w with
  | .stringRef own k tx => if gStrOk (.stringRef own k tx) = true then some (own, k, tx) else none
  | _ => none
/-- classes of exceptions of which none is the other -/
def gNc : List (String × String) := [("java/lang/IllegalStateException", "java/lang/IllegalArgumentException"), ("java/lang/IllegalStateException", "java/lang/IndexOutOfBoundsException"), ("java/lang/IllegalStateException", "java/lang/ArithmeticException"), ("java/lang/IllegalStateException", "java/lang/UnsupportedOperationException"), ("java/lang/IllegalStateException", "java/util/NoSuchElementException"), ("java/lang/IllegalArgumentException", "java/lang/IllegalStateException"), ("java/lang/IllegalArgumentException", "java/lang/IndexOutOfBoundsException"), ("java/lang/IllegalArgumentException", "java/lang/ArithmeticException"), ("java/lang/IllegalArgumentException", "java/lang/UnsupportedOperationException"), ("java/lang/IllegalArgumentException", "java/util/NoSuchElementException"), ("java/lang/IndexOutOfBoundsException", "java/lang/IllegalStateException"), ("java/lang/IndexOutOfBoundsException", "java/lang/IllegalArgumentException"), ("java/lang/IndexOutOfBoundsException", "java/lang/ArithmeticException"), ("java/lang/IndexOutOfBoundsException", "java/lang/UnsupportedOperationException"), ("java/lang/IndexOutOfBoundsException", "java/util/NoSuchElementException"), ("java/lang/ArithmeticException", "java/lang/IllegalStateException"), ("java/lang/ArithmeticException", "java/lang/IllegalArgumentException"), ("java/lang/ArithmeticException", "java/lang/IndexOutOfBoundsException"), ("java/lang/ArithmeticException", "java/lang/UnsupportedOperationException"), ("java/lang/ArithmeticException", "java/util/NoSuchElementException"), ("java/lang/UnsupportedOperationException", "java/lang/IllegalStateException"), ("java/lang/UnsupportedOperationException", "java/lang/IllegalArgumentException"), ("java/lang/UnsupportedOperationException", "java/lang/IndexOutOfBoundsException"), ("java/lang/UnsupportedOperationException", "java/lang/ArithmeticException"), ("java/lang/UnsupportedOperationException", "java/util/NoSuchElementException"), ("java/util/NoSuchElementException", "java/lang/IllegalStateException"), ("java/util/NoSuchElementException", "java/lang/IllegalArgumentException"), ("java/util/NoSuchElementException", "java/lang/IndexOutOfBoundsException"), ("java/util/NoSuchElementException", "java/lang/ArithmeticException"), ("java/util/NoSuchElementException", "java/lang/UnsupportedOperationException")]
/-- the forms of the commands, as the enum's constants hold them -/
def gLen : List Nat := [12, 5, 14, 6, 9, 7, 7, 7, 11, 6]
def gByt : List (List Int32) := [[105, 110, 115, 117, 114, 101, 32, 78, 32, 68, 32, 78], [101, 110, 100, 32, 78], [116, 114, 101, 97, 116, 121, 32, 78, 43, 78, 42, 78, 32, 78], [118, 111, 105, 100, 32, 68], [99, 108, 97, 105, 109, 32, 78, 67, 78], [112, 97, 121, 32, 78, 32, 78], [99, 108, 111, 115, 101, 32, 78], [119, 97, 105, 118, 101, 32, 78], [111, 102, 102, 101, 114, 32, 78, 45, 78, 32, 78], [119, 97, 105, 116, 32, 78]]
/-- what lies in the heap before the world: the enum's constants, their forms, the table of the switch, the digits -/
def gVb (E : gE) (U : State) : Prop :=
  va_Z "PaperBoatInsurer$Verb" "ALL" "[LPaperBoatInsurer$Verb;" (.ref (gva E 30)) (gA E) U (gHb E) ∧
  va_T (.object "PaperBoatInsurer$Verb") (gva E 30) 10 (fun i => .ref (gva E i)) (gA E) U (gHb E) ∧
  (∀ i : Nat, i < 10 → va_OF "PaperBoatInsurer$Verb" "form" "Ljava/lang/String;" (.ref (gva E (40 + i))) (gva E i) (gA E) U (gHb E)) ∧
  (∀ i : Nat, i < 10 → va_OF "java/lang/Enum" "ordinal" "I" (.int (nI i)) (gva E i) (gA E) U (gHb E)) ∧
  (∀ i : Nat, i < 10 → va_O "PaperBoatInsurer$Verb" (gva E i) (gA E) U (gHb E)) ∧
  va_Z "PaperBoatInsurer$Verb" "VOID" "LPaperBoatInsurer$Verb;" (.ref (gva E 3)) (gA E) U (gHb E) ∧
  va_Z "PaperBoatInsurer$1" "$SwitchMap$PaperBoatInsurer$Verb" "[I" (.ref (gva E 31)) (gA E) U (gHb E) ∧
  va_T .int (gva E 31) 10 (fun i => .int (if i < 9 then nI (i + 1) else 0)) (gA E) U (gHb E) ∧
  vk_S 10 gLen gByt (fun i => gva E (40 + i)) (fun i => gva E (60 + i)) (gA E) U (gHb E) ∧
  va_Z "java/lang/Integer" "DigitOnes" "[B" (.ref (gva E 32)) (gA E) U (gHb E) ∧
  va_T .byte (gva E 32) 100 (fun i => .int (nI (48 + i % 10))) (gA E) U (gHb E) ∧
  va_Z "java/lang/Integer" "DigitTens" "[B" (.ref (gva E 33)) (gA E) U (gHb E) ∧
  va_T .byte (gva E 33) 100 (fun i => .int (nI (48 + i / 10))) (gA E) U (gHb E) ∧
  va_Z "java/lang/String" "COMPACT_STRINGS" "Z" (.int 1) (gA E) U (gHb E) ∧
  vx_Zq "jdk/internal/util/Preconditions" "SIOOBE_FORMATTER" "Ljava/util/function/BiFunction;" (gA E) U (gHb E) ∧
  va_AO "PaperBoatInsurer$Book" U ∧
  (Cond.arrayOver (.array .int)).before #[] U = true ∧
  (∀ i j : Nat, i < 10 → j < 10 → gva E i = gva E j → i = j)
theorem gVb.moved {E : gE} {s U : State} (hv : s.vm.Alike U.vm) (h : gVb E s) : gVb E U := by
  obtain ⟨h1, h2, h3, h4, h5, h6, h7, h8, h9, h10, h11, h12, h13, h14, h16, h17, h18, h15⟩ := h
  exact ⟨h1.moved hv, h2.moved hv, fun i hi => (h3 i hi).moved hv, fun i hi => (h4 i hi).moved hv, fun i hi => (h5 i hi).moved hv, h6.moved hv, h7.moved hv, h8.moved hv, h9.moved hv, h10.moved hv, h11.moved hv, h12.moved hv, h13.moved hv, h14.moved hv, h16.moved hv, h17.moved hv, over_moved hv h18, h15⟩
/-- what the run's own surroundings say of a start's tables -/
def gKX (E : gE) (U : State) : Prop := vx_Zq Bundle.tN "UNASSIGNED_STACK" Bundle.steD (gA E) U (gHb E) ∧ vx_Zq Bundle.tN "SUPPRESSED_SENTINEL" Bundle.listD (gA E) U (gHb E) ∧ (∀ q ∈ gStr, ∃ a : Nat, vk_R q.1 q.2.1 q.2.2 a U) ∧ (∀ w ∈ wN, va_Nw w U) ∧ va_X (gva E 200) (gva E 201) (gxs E) U (gHb E) ∧ (gHb E).size = gX E ∧ (∀ q ∈ gNc, va_Nc q.1 q.2 U) ∧ gVb E U
def gKK (E : gE) (U : State) : Prop := va_K E.1 gcl (gtys E) U ∧ gKX E U
theorem gKK.moved {E : gE} {s U : State} (hW : s.WarmedH U.vm) (h : gKK E s) : gKK E U := by
  obtain ⟨h1, h2, h3, h4, h5, ⟨scr, h6, h7, h8⟩, h9, h10, h11⟩ := h
  refine ⟨va_K.moved hW.alike h1, h2.moved hW.alike, h3.moved hW.alike, fun q hq => ?_, fun w hw => wN_warm hw hW (h5 w hw), ⟨scr, h6, State.isArrayOf_alike hW.alike h7, h8⟩, h9, fun q hq => (h10 q hq).moved hW.alike, h11.moved hW.alike⟩
  obtain ⟨a, ha⟩ := h4 q hq
  exact ⟨a, ha.warm hW⟩
/-- a method: its name, bytes, class, places, answer, table, whether it is the law itself -/
abbrev gMd : Type := MethodName × ByteArray × String × Nat × Option FieldType × List (Nat × Nat × Nat × Nat) × Bool
abbrev md_y (μ : gMd) : MethodName := μ.1
abbrev md_c (μ : gMd) : ByteArray := μ.2.1
abbrev md_o (μ : gMd) : String := μ.2.2.1
abbrev md_n (μ : gMd) : Nat := μ.2.2.2.1
abbrev md_r (μ : gMd) : Option FieldType := μ.2.2.2.2.1
abbrev md_h (μ : gMd) : List (Nat × Nat × Nat × Nat) := μ.2.2.2.2.2.1
abbrev md_l (μ : gMd) : Bool := μ.2.2.2.2.2.2
/-- how a call ends: with an answer, or thrown, a class' name -/
abbrev gO : Type := Option Value ⊕ String
def gQC (E : gE) (Q : gO → gS → Prop) : Array Value → State → Outcome → State → Prop := fun _ st o t => ∃ (v : Option Value) (σ : gS), o = .returned v ∧ Q (.inl v) σ ∧ gHH E σ t.heap ∧ va_F (gA E) st t
def gXC (E : gE) (Q : gO → gS → Prop) : String → State → State → Prop := fun En st t => ∃ σ : gS, Q (.inr En) σ ∧ gHH E σ t.heap ∧ va_F (gA E) st t
abbrev gRm (d mc ms : Nat) : Room := { frames := d, cells := mc, slots := ms, locals := 60 * d }
/-- the start of a call -/
def gPc (E : gE) (As : List Value) (σ : gS) : Array Value → State → Prop := va_Pc As (fun U => gKK E U ∧ gHH E σ U.heap)
def gcw (μ : gMd) : Cond := match md_h μ with
  | [] => .code (md_y μ) (md_c μ) (md_n μ) (md_r μ)
  | q :: hs => .codeWith (md_y μ) (md_c μ) (md_n μ) (md_r μ) (q :: hs)
/-- A CONTRACT: called with these values in this state, μ ends, and Q says how and in which state -/
def CT (E : gE) (μ : gMd) (d mc ms : Nat) (As : List Value) (σ : gS) (Q : gO → gS → Prop) : Prop :=
  ∀ l : Launch, l.stackTraces = false → vx_Met l (md_y μ) (gcw μ :: wA) (gRm d mc ms) (gPc E As σ) (gQC E Q) (gXC E Q) mc ms (gA E)
/-- an instruction that returns v -/
def gRet (cc : ByteArray) (ret : Option FieldType) (pc : Nat) (v : Option Value) (st : List Value) : Prop :=
  (ret = none ∧ v = none ∧ st = [] ∧ decode cc pc = .ok (.return_, 1)) ∨
  (∃ (x : Int32) (ty : FieldType), ret = some ty ∧ narrow ty (.int x) = .int x ∧ v = some (.int x) ∧ st = [.int x] ∧ decode cc pc = .ok (.ireturn, 1)) ∨
  (∃ x : Int64, ret = some .long ∧ v = some (.long x) ∧ st = [.long x] ∧ decode cc pc = .ok (.lreturn, 1)) ∨
  (∃ x : UInt32, ret = some .float ∧ v = some (.float x) ∧ st = [.float x] ∧ decode cc pc = .ok (.freturn, 1)) ∨
  (∃ x : UInt64, ret = some .double ∧ v = some (.double x) ∧ st = [.double x] ∧ decode cc pc = .ok (.dreturn, 1)) ∨
  (∃ (x : Nat) (n : String), ret = some (.object n) ∧ v = some (.ref x) ∧ st = [.ref x] ∧ decode cc pc = .ok (.areturn, 1))
/-- what holds all through a method's body -/
def gCx (E : gE) (μ : gMd) (d : Nat) (Q : gO → gS → Prop) (mcT msT : Nat) (p : Program) (l : Launch) (e : Env) (R : Room) (s : State) (m : MethodId) (args : Array Value) (below : List Frame) (meth : Method) (c : Code) (Z : State → Prop) : Prop :=
  p.tables.exec = Jvm.exec ∧ c.code = md_c μ ∧ c.maxLocals = md_n μ ∧ s.vm.findClass (md_o μ) = some m.cls ∧ (∀ w ∈ wA, w.before args s = true) ∧ gKK E s ∧ (d ≤ R.frames ∧ 60 * d ≤ R.locals ∧ R.cells = mcT ∧ R.slots = msT) ∧ gB E s.heap ∧ l.stackTraces = false ∧ meth.locks = false ∧
  c.exceptionTable.toList = tableOf (md_h μ) ∧ (md_l μ = false → Z = vx_MQ below (gQC E Q) (gXC E Q) args s mcT msT (gA E)) ∧
  (∀ (v : Option Value) (pc : Nat) (ls : Array Slot) (st : List Value) (H : Heap) (locs : List Loc) (cells slots : Nat) (σ : gS), gRet (md_c μ) (md_r μ) pc v st → Q (.inl v) σ → gHH E σ H → va_S (gA E) s.heap H locs → cells ≤ mcT → slots ≤ msT → W p l e R s m args below meth c H locs cells slots Z (F0 m pc ls st)) ∧
  ((md_y μ).name = "<init>" → meth.name = "<init>")
/-- A PLACE: from the place pc of μ, with these locals and this stack, in this state, with d calls, k cells and n places of room left, the run comes to an end that Q tells -/
def gG (E : gE) (μ : gMd) (d : Nat) (Q : gO → gS → Prop) (k n : Nat) (σ : gS) (pc : Nat) (lv : List (Nat × Value)) (st : List Value) : Prop :=
  ∀ (mcT msT : Nat) (p : Program) (l : Launch) (e : Env) (R : Room) (s : State) (m : MethodId) (args : Array Value) (below : List Frame) (meth : Method) (c : Code) (Z : State → Prop), gCx E μ d Q mcT msT p l e R s m args below meth c Z →
    ∀ (H : Heap) (locs : List Loc) (cells slots : Nat) (ls : Array Slot), gHH E σ H → va_S (gA E) s.heap H locs → cells + k ≤ mcT → slots + n ≤ msT → lv_has ls (md_n μ) lv → W p l e R s m args below meth c H locs cells slots Z (F0 m pc ls st)
