/-! the start: what the premise of the law says of the machine -/
section START
variable {b : Addr} {s : State} {A : Nat → Prop}
abbrev nwC : Cond := Jvm.Cond.and given_1 narrow_1
def nwL : List Cond := flatC nwC
theorem nw_at (h : nwC.before #[Value.ref b] s = true) (i : Nat) {w : Cond} (hi : nwL[i]? = some w) : w.before #[Value.ref b] s = true := flat_of_before _ h w (List.mem_of_getElem? hi)
theorem nw_mem (h : nwC.before #[Value.ref b] s = true) {w : Cond} (hi : w ∈ nwL) : w.before #[Value.ref b] s = true := flat_of_before _ h w hi
theorem tb_at {a : Array Value} (h : ∀ w ∈ lw_tbl, w.before a s = true) (i : Nat) {w : Cond} (hi : lw_tbl[i]? = some w) : w.before a s = true := h _ (List.mem_of_getElem? hi)
theorem eq_ref {args : Array Value} {t u : Term} {a : Nat} (h : (Cond.eq t u).before args s = true) (hu : u.eval args s none [] s = some (.ref a)) : t.eval args s none [] s = some (.ref a) := by
  obtain ⟨y, h1, h2⟩ := Cond.eq_one (args := args) (first := s) (o := none) (s := s) (idx := []) h
  rw [h1, ← h2, hu]
theorem sel_sub {args : Array Value} {C : String} {y : MethodName} {n : Nat} (hy : y.cls ≠ "java/lang/invoke/MethodHandle" ∧ y.cls ≠ "java/lang/invoke/VarHandle") (hins : (Cond.instantiable C n).before args s = true) (hpriv : (Cond.privateMethod y).before args s = true) (hinst : (Cond.instanceMethod y).before args s = true) (hsame : (Cond.sameMethod y.cls y.cls y.name y.desc).before args s = true) : (Cond.selects C y y).before args s = true := by
  obtain ⟨c, k, hc, hk, -⟩ := Cond.instantiable_spec hins
  obtain ⟨mk, methM, hnamed, hmethM, -, -⟩ := Cond.instanceMethod_spec hinst
  have hfound : s.methodFound? y.cls y.name y.desc = some mk := State.methodFound?_of_named hnamed hy
  obtain ⟨-, kr, hkr, hni⟩ := Cond.sameMethod_spec (findClass_of_methodNamed hnamed) hfound hsame
  have hsel : selectMethod {} s.vm c mk = .method mk := selectMethod_private hmethM (Cond.privateMethod_at hpriv mk methM hnamed hmethM)
  simp only [Cond.before, Cond.holds, Cond.value, hc, hfound, hnamed, hsel, hkr]
  simp; exact hni
theorem sel_5 {a : Array Value} (h : ∀ w ∈ lw_tbl, w.before a s = true) : (Cond.selects RX5 yX6_countAhead yX6_countAhead).before a s = true := sel_sub (n := 10) ⟨by decide +kernel, by decide +kernel⟩ (tb_at h 149 (by decide +kernel)) (tb_at h 1370 (by decide +kernel)) (tb_at h 1371 (by decide +kernel)) (tb_at h 2538 (by decide +kernel))
theorem sel_2 {a : Array Value} (h : ∀ w ∈ lw_tbl, w.before a s = true) : (Cond.selects RX2 yX6_countAhead yX6_countAhead).before a s = true := sel_sub (n := 9) ⟨by decide +kernel, by decide +kernel⟩ (tb_at h 212 (by decide +kernel)) (tb_at h 1370 (by decide +kernel)) (tb_at h 1371 (by decide +kernel)) (tb_at h 2538 (by decide +kernel))
theorem sel_e {a : Array Value} (h : ∀ w ∈ lw_tbl, w.before a s = true) : (Cond.selects RJ4 yJ5_ensureCapacityInternal_d00df yJ5_ensureCapacityInternal_d00df).before a s = true := sel_sub (n := 4) ⟨by decide +kernel, by decide +kernel⟩ (tb_at h 394 (by decide +kernel)) (tb_at h 1461 (by decide +kernel)) (tb_at h 1462 (by decide +kernel)) (tb_at h 2542 (by decide +kernel))
theorem sel_n {a : Array Value} (h : ∀ w ∈ lw_tbl, w.before a s = true) : (Cond.selects RJ4 yJ5_newCapacity_0f7a4 yJ5_newCapacity_0f7a4).before a s = true := sel_sub (n := 4) ⟨by decide +kernel, by decide +kernel⟩ (tb_at h 394 (by decide +kernel)) (tb_at h 1465 (by decide +kernel)) (tb_at h 1466 (by decide +kernel)) (tb_at h 2543 (by decide +kernel))
theorem wA_start {a : Array Value} (h : ∀ w ∈ lw_tbl, w.before a s = true) : ∀ w ∈ wA, w.before a s = true := by
  intro w hw
  rcases List.mem_append.mp hw with hw | hw
  · exact (List.forall_mem_cons.mpr ⟨sel_5 h, List.forall_mem_cons.mpr ⟨sel_2 h, List.forall_mem_cons.mpr ⟨sel_e h, List.forall_mem_cons.mpr ⟨sel_n h, fun _ h => absurd h List.not_mem_nil⟩⟩⟩⟩ : ∀ w ∈ gxs0, w.before a s = true) w hw
  · exact h w (List.mem_filter.mp hw).1
theorem wN_start {a : Array Value} (h : ∀ w ∈ lw_tbl, w.before a s = true) : ∀ w ∈ wN, va_Nw w s := by
  intro w hw
  obtain ⟨h1, h2⟩ := List.mem_filter.mp hw
  refine va_Nw.of (A := a) ?_ (h w h1)
  cases w <;> first | rfl | exact absurd h2 (by simp [gNest])
theorem cls_start {a : Array Value} (h : ∀ w ∈ lw_tbl, w.before a s = true) : ∃ D : va_G, ∀ (c : Nat) (q : vw_C), gcl[c]? = some q → u_Kn s q.1 q.2.1 q.2.2 (D.1 c) (D.2 c) := by
  have h0 : ∀ c : Nat, ∃ x : ClassId × (Nat → Nat), ∀ q : vw_C, gcl[c]? = some q → u_Kn s q.1 q.2.1 q.2.2 x.1 x.2 := by
    intro c
    match c with
    | 0 =>
      obtain ⟨cC, iS, hk⟩ := u_known (C := RX1) (T := TX1) (N := 12) (n := 12) h (by decide +kernel) (tb_at h 143 (by decide +kernel))
      exact ⟨(cC, iS), fun q hq => by cases hq; exact hk⟩
    | 1 =>
      obtain ⟨cC, iS, hk⟩ := u_known (C := RX2) (T := TX2) (N := 9) (n := 9) h (by decide +kernel) (tb_at h 212 (by decide +kernel))
      exact ⟨(cC, iS), fun q hq => by cases hq; exact hk⟩
    | 2 =>
      obtain ⟨cC, iS, hk⟩ := u_known (C := RX3) (T := TX3) (N := 3) (n := 3) h (by decide +kernel) (tb_at h 369 (by decide +kernel))
      exact ⟨(cC, iS), fun q hq => by cases hq; exact hk⟩
    | 3 =>
      obtain ⟨cC, iS, hk⟩ := u_known (C := RX4) (T := TX4) (N := 5) (n := 5) h (by decide +kernel) (tb_at h 300 (by decide +kernel))
      exact ⟨(cC, iS), fun q hq => by cases hq; exact hk⟩
    | 4 =>
      obtain ⟨cC, iS, hk⟩ := u_known (C := RX5) (T := TX5) (N := 10) (n := 10) h (by decide +kernel) (tb_at h 149 (by decide +kernel))
      exact ⟨(cC, iS), fun q hq => by cases hq; exact hk⟩
    | 5 =>
      obtain ⟨cC, iS, hk⟩ := u_known (C := RX7) (T := TX7) (N := 4) (n := 4) h (by decide +kernel) (tb_at h 388 (by decide +kernel))
      exact ⟨(cC, iS), fun q hq => by cases hq; exact hk⟩
    | 6 =>
      obtain ⟨cC, iS, hk⟩ := u_known (C := RX8) (T := TX8) (N := 7) (n := 7) h (by decide +kernel) (tb_at h 253 (by decide +kernel))
      exact ⟨(cC, iS), fun q hq => by cases hq; exact hk⟩
    | 7 =>
      obtain ⟨cC, iS, hk⟩ := u_known (C := RX9) (T := TX9) (N := 1) (n := 1) h (by decide +kernel) (tb_at h 288 (by decide +kernel))
      exact ⟨(cC, iS), fun q hq => by cases hq; exact hk⟩
    | 8 =>
      obtain ⟨cC, iS, hk⟩ := u_known (C := RX11) (T := TX11) (N := 8) (n := 8) h (by decide +kernel) (tb_at h 135 (by decide +kernel))
      exact ⟨(cC, iS), fun q hq => by cases hq; exact hk⟩
    | 9 =>
      obtain ⟨cC, iS, hk⟩ := u_known (C := RX12) (T := TX12) (N := 21) (n := 21) h (by decide +kernel) (tb_at h 1900 (by decide +kernel))
      exact ⟨(cC, iS), fun q hq => by cases hq; exact hk⟩
    | 10 =>
      obtain ⟨cC, iS, hk⟩ := u_known (C := RJ4) (T := TJ4) (N := 4) (n := 4) h (by decide +kernel) (tb_at h 394 (by decide +kernel))
      exact ⟨(cC, iS), fun q hq => by cases hq; exact hk⟩
    | n + 11 => exact ⟨(0, fun _ => 0), fun q hq => by simp at hq⟩
  obtain ⟨D, hD⟩ := Classical.axiomOfChoice h0
  exact ⟨(fun c => (D c).1, fun c => (D c).2), fun c q hq => hD c q hq⟩
theorem arr_of {cA : ClassId} {ty : FieldType} {k : Class} {comp : ClassId} (h1 : s.vm.classes[cA]? = some k) (h2 : k.kind = .array comp ty) : ArrOfT s cA ty := fun n z => ⟨(fun k h => by cases h), k, h1, comp, h2⟩
theorem arr_start {a : Array Value} (h : ∀ w ∈ lw_tbl, w.before a s = true) : ∃ ar : Nat → ClassId, ∀ (k : Nat) (q : ClassId × FieldType), ([(ar 0, .int), (ar 1, .char), (ar 2, .long), (ar 3, .array .int), (ar 4, .object "PaperBoatInsurer$Book"), (ar 5, .double), (ar 6, .byte)] : List (ClassId × FieldType))[k]? = some q → ArrOfT s q.1 q.2 ∧ va_RA s q.1 q.2 := by
  obtain ⟨c0, k0, p0, a0, b0, d0⟩ := Cond.arrayClass_spec (tb_at h 209 (w := .arrayClass .int) (by decide +kernel))
  obtain ⟨c1, k1, p1, a1, b1, d1⟩ := Cond.arrayClass_spec (tb_at h 251 (w := .arrayClass .char) (by decide +kernel))
  obtain ⟨c2, k2, p2, a2, b2, d2⟩ := Cond.arrayClass_spec (tb_at h 210 (w := .arrayClass .long) (by decide +kernel))
  obtain ⟨c5, k5, p5, a5, b5, d5⟩ := Cond.arrayClass_spec (tb_at h 2536 (w := .arrayClass .double) (by decide +kernel))
  obtain ⟨c6, k6, p6, a6, b6, d6⟩ := Cond.arrayClass_spec (tb_at h 425 (w := .arrayClass .byte) (by decide +kernel))
  obtain ⟨p3, c3, k3, -, -, b3, d3, a3⟩ := arrayOverA_spec (tb_at h 218 (w := .arrayOver (.array .int)) (by decide +kernel))
  obtain ⟨p4, c4, k4, f4, -, b4, d4, a4⟩ := Cond.arrayOver_spec (tb_at h 375 (w := .arrayOver (.object "PaperBoatInsurer$Book")) (by decide +kernel))
  refine ⟨fun n => if n = 0 then c0 else if n = 1 then c1 else if n = 2 then c2 else if n = 3 then c3 else if n = 4 then c4 else if n = 5 then c5 else c6, fun k q hq => ?_⟩
  match k with
  | 0 => cases hq; exact ⟨arr_of b0 d0, a0⟩
  | 1 => cases hq; exact ⟨arr_of b1 d1, a1⟩
  | 2 => cases hq; exact ⟨arr_of b2 d2, a2⟩
  | 3 => cases hq; exact ⟨arr_of b3 d3, a3⟩
  | 4 => cases hq; exact ⟨arr_of b4 d4, k4, p4, b4, d4, f4, a4⟩
  | 5 => cases hq; exact ⟨arr_of b5 d5, a5⟩
  | 6 => cases hq; exact ⟨arr_of b6 d6, a6⟩
  | n + 7 => simp at hq
def nmV : List String := ["INSURE", "END", "TREATY", "VOID", "CLAIM", "PAY", "CLOSE", "WAIVE", "OFFER", "WAIT"]
def ksV : List Nat := [58, 64, 67, 70, 73, 76, 79, 82, 85, 88]
abbrev tV (i : Nat) : Term := .static "PaperBoatInsurer$Verb" (nmV.getD i "") "LPaperBoatInsurer$Verb;"
abbrev tS (i : Nat) : Term := .string "PaperBoatInsurer$Verb" (ksV.getD i 0)
abbrev tSv (i : Nat) : Term := .field (tS i) "java/lang/String" "value" "[B"
abbrev tAll : Term := .static "PaperBoatInsurer$Verb" "ALL" "[LPaperBoatInsurer$Verb;"
abbrev tSw : Term := .static "PaperBoatInsurer$1" "$SwitchMap$PaperBoatInsurer$Verb" "[I"
abbrev tDig (n : String) : Term := .static "java/lang/Integer" n "[B"
def pExV : List Nat := [248, 252, 257, 232, 263, 270, 278, 287, 297, 308]
def pOrV : List Nat := [249, 253, 258, 233, 264, 271, 279, 288, 298, 309]
def pFoV : List Nat := [250, 254, 259, 234, 265, 272, 280, 289, 299, 310]
def pExS : List Nat := [1203, 1219, 1228, 1193, 1246, 1259, 1270, 1281, 1292, 1307]
def pNe : List (Nat × Nat × Nat) := [(0, 1, 256), (0, 2, 261), (0, 4, 267), (0, 5, 274), (0, 6, 282), (0, 7, 291), (0, 8, 301), (0, 9, 312), (1, 2, 262), (1, 4, 268), (1, 5, 275), (1, 6, 283), (1, 7, 292), (1, 8, 302), (1, 9, 313), (2, 4, 269), (2, 5, 276), (2, 6, 284), (2, 7, 293), (2, 8, 303), (2, 9, 314), (3, 0, 251), (3, 1, 255), (3, 2, 260), (3, 4, 266), (3, 5, 273), (3, 6, 281), (3, 7, 290), (3, 8, 300), (3, 9, 311), (4, 5, 277), (4, 6, 285), (4, 7, 294), (4, 8, 304), (4, 9, 315), (5, 6, 286), (5, 7, 295), (5, 8, 305), (5, 9, 316), (6, 7, 296), (6, 8, 306), (6, 9, 317), (7, 8, 307), (7, 9, 318), (8, 9, 319)]
theorem nw_exV : ∀ i, i < 10 → nwL[pExV.getD i 0]? = some (Cond.exactly (tV i) "PaperBoatInsurer$Verb") := by decide +kernel
theorem nw_orV : ∀ i, i < 10 → nwL[pOrV.getD i 0]? = some (Cond.eq (.field (tV i) "java/lang/Enum" "ordinal" "I") (.int (nI i))) := by decide +kernel
theorem nw_foV : ∀ i, i < 10 → nwL[pFoV.getD i 0]? = some (Cond.eq (.field (tV i) "PaperBoatInsurer$Verb" "form" "Ljava/lang/String;") (tS i)) := by decide +kernel
theorem nw_exS : ∀ i, i < 10 → nwL[pExS.getD i 0]? = some (Cond.exactly (tS i) "java/lang/String") := by decide +kernel
theorem nw_coS : ∀ i, i < 10 → nwL[pExS.getD i 0 + 1]? = some (Cond.eq (.field (tS i) "java/lang/String" "coder" "B") (.int 0)) := by decide +kernel
theorem nw_arS : ∀ i, i < 10 → nwL[pExS.getD i 0 + 2]? = some (Cond.arrayOf (tSv i) .byte) := by decide +kernel
theorem nw_leS : ∀ i, i < 10 → nwL[pExS.getD i 0 + 3]? = some (Cond.eq (.length (tSv i)) (.int (Int32.ofNat (gLen.getD i 0)))) := by decide +kernel
theorem nw_elS : ∀ i, i < 10 → ∀ j, j < gLen.getD i 0 → nwL[pExS.getD i 0 + 4 + j]? = some (Cond.eq (.elem (tSv i) (.int (Int32.ofNat j))) (.int ((gByt.getD i []).getD j 0))) := by decide +kernel
theorem nw_ne : ∀ q ∈ pNe, nwL[q.2.2]? = some (Cond.not (.eq (tV q.1) (tV q.2.1))) := by decide +kernel
theorem nw_neA : ∀ i, i < 10 → ∀ j, j < 10 → i ≠ j → ∃ q ∈ pNe, (q.1 = i ∧ q.2.1 = j) ∨ (q.1 = j ∧ q.2.1 = i) := by decide +kernel
theorem nw_all : nwL[219]? = some (Cond.arrayOf tAll (.object "PaperBoatInsurer$Verb")) := by decide +kernel
theorem nw_alL : nwL[220]? = some (Cond.eq (.length tAll) (.int (Int32.ofNat 10))) := by decide +kernel
theorem nw_alE : ∀ i, i < 10 → nwL[222 + i]? = some (Cond.eq (.elem tAll (.int (Int32.ofNat i))) (tV i)) := by decide +kernel
theorem nw_sw : nwL[236]? = some (Cond.arrayOf tSw .int) := by decide +kernel
theorem nw_swL : nwL[237]? = some (Cond.eq (.length tSw) (.int (Int32.ofNat 10))) := by decide +kernel
theorem nw_swE : ∀ i, i < 10 → nwL[238 + i]? = some (Cond.eq (.elem tSw (.int (Int32.ofNat i))) (.int (if i < 9 then nI (i + 1) else 0))) := by decide +kernel
theorem nw_do : nwL[12]? = some (Cond.arrayOf (tDig "DigitOnes") .byte) := by decide +kernel
theorem nw_doL : nwL[13]? = some (Cond.eq (.length (tDig "DigitOnes")) (.int (Int32.ofNat 100))) := by decide +kernel
theorem nw_doE : ∀ i, i < 100 → nwL[14 + i]? = some (Cond.eq (.elem (tDig "DigitOnes") (.int (Int32.ofNat i))) (.int (nI (48 + i % 10)))) := by decide +kernel
theorem nw_dt : nwL[115]? = some (Cond.arrayOf (tDig "DigitTens") .byte) := by decide +kernel
theorem nw_dtL : nwL[116]? = some (Cond.eq (.length (tDig "DigitTens")) (.int (Int32.ofNat 100))) := by decide +kernel
theorem nw_dtE : ∀ i, i < 100 → nwL[117 + i]? = some (Cond.eq (.elem (tDig "DigitTens") (.int (Int32.ofNat i))) (.int (nI (48 + i / 10)))) := by decide +kernel
theorem nw_nc : ∀ q ∈ gNc, Cond.not (.castable q.1 q.2) ∈ nwL := by decide +kernel
theorem nw_str : ∀ q ∈ gStr, Cond.exactly (.string q.1 q.2.1) "java/lang/String" ∈ nwL := by decide +kernel
theorem str_start {a : Array Value} (h : nwC.before #[Value.ref b] s = true) (ht : ∀ w ∈ lw_tbl, w.before #[Value.ref b] s = true) : ∀ q ∈ gStr, ∃ a : Nat, vk_R q.1 q.2.1 q.2.2 a s := by
  intro q hq
  obtain ⟨ad, _, _, _, e1, -⟩ := Cond.exactly_spec (args := #[Value.ref b]) (first := s) (o := none) (s := s) (idx := []) (nw_mem h (nw_str q hq))
  refine ⟨ad, vk_R.of (A := #[Value.ref b]) (ht _ ?_) e1⟩
  obtain ⟨w, hw, he⟩ := List.mem_filterMap.mp hq
  cases w <;> first | (simp at he; done) | skip
  simp only [] at he
  split at he
  · cases he; exact hw
  · cases he
theorem T_congr {ty : FieldType} {t N : Nat} {f g : Nat → Value} {U : State} {H : Heap} (hfg : ∀ j, j < N → f j = g j) (h : va_T ty t N f A U H) : va_T ty t N g A U H := by
  obtain ⟨cell, h1, h2, h3, h4, h5, h6, h7⟩ := h
  exact ⟨cell, h1, h2, h3, h4, h5, fun j hj => by rw [h6 j hj, hfg j hj], h7⟩
/-- the verbs' and their forms' addresses -/
theorem verb_start (h : nwC.before #[Value.ref b] s = true) : ∃ ad : Nat → Nat, ∀ i, i < 10 → (tV i).eval #[Value.ref b] s none [] s = some (.ref (ad i)) := by
  have h0 : ∀ i : Nat, ∃ a : Nat, i < 10 → (tV i).eval #[Value.ref b] s none [] s = some (.ref a) := by
    intro i
    by_cases hi : i < 10
    · obtain ⟨a, _, _, _, e1, -⟩ := Cond.exactly_spec (args := #[Value.ref b]) (first := s) (o := none) (s := s) (idx := []) (nw_at h _ (nw_exV i hi))
      exact ⟨a, fun _ => e1⟩
    · exact ⟨0, fun h => absurd h hi⟩
  obtain ⟨ad, had⟩ := Classical.axiomOfChoice h0
  exact ⟨ad, had⟩
theorem form_start (h : nwC.before #[Value.ref b] s = true) (hA : ∀ a : Nat, a < s.heap.size → ¬ A a) : ∃ adK adV : Nat → Nat, ∀ i, i < 10 → ((va_O "java/lang/String" (adK i) A s s.heap ∧ va_OF "java/lang/String" "coder" "B" (.int 0) (adK i) A s s.heap ∧ va_OF "java/lang/String" "value" "[B" (.ref (adV i)) (adK i) A s s.heap ∧ va_T .byte (adV i) (gLen.getD i 0) (fun j => .int ((gByt.getD i []).getD j 0)) A s s.heap) ∧ (tS i).eval #[Value.ref b] s none [] s = some (.ref (adK i))) := by
  have h0 : ∀ i : Nat, ∃ q : Nat × Nat, i < 10 → ((va_O "java/lang/String" q.1 A s s.heap ∧ va_OF "java/lang/String" "coder" "B" (.int 0) q.1 A s s.heap ∧ va_OF "java/lang/String" "value" "[B" (.ref q.2) q.1 A s s.heap ∧ va_T .byte q.2 (gLen.getD i 0) (fun j => .int ((gByt.getD i []).getD j 0)) A s s.heap) ∧ (tS i).eval #[Value.ref b] s none [] s = some (.ref q.1)) := by
    intro i
    by_cases hi : i < 10
    · have hl : gLen.getD i 0 < 2 ^ 31 := (by decide : ∀ i, i < 10 → gLen.getD i 0 < 2 ^ 31) i hi
      obtain ⟨aK, aV, h1, h2⟩ := vk_Sof (A := A) (args := #[Value.ref b]) (s := s) (N := 1) (tm := fun _ => tS i) (len := [gLen.getD i 0]) (byt := [gByt.getD i []])
        (fun j hj => by obtain rfl : j = 0 := by omega
                        exact hl)
        (fun j hj => nw_at h _ (nw_exS i hi)) (fun j hj => nw_at h _ (nw_coS i hi)) (fun j hj => nw_at h _ (nw_arS i hi))
        (fun j hj => by obtain rfl : j = 0 := by omega
                        exact nw_at h _ (nw_leS i hi))
        (fun j hj k hk => by obtain rfl : j = 0 := by omega
                             exact nw_at h _ (nw_elS i hi k hk))
        (fun j k hj hk hne => absurd (show j = k by omega) hne) hA
      exact ⟨(aK 0, aV 0), fun _ => ⟨h1.1 0 (by decide), h2 0 (by decide)⟩⟩
    · exact ⟨(0, 0), fun h => absurd h hi⟩
  obtain ⟨ad, had⟩ := Classical.axiomOfChoice h0
  exact ⟨fun i => (ad i).1, fun i => (ad i).2, had⟩
/-- two forms are two texts -/
theorem OF_inj {o n d : String} {v w : Value} {t : Nat} {U : State} {H : Heap} (h1 : va_OF o n d v t A U H) (h2 : va_OF o n d w t A U H) : v = w := by
  obtain ⟨cf, k, i, f, cell, a1, a2, a3, a4, a5, -⟩ := h1
  obtain ⟨cf', k', i', f', cell', b1, b2, b3, b4, b5, -⟩ := h2
  cases a1.symm.trans b1
  cases a3.symm.trans b3
  exact Option.some.inj (a5.symm.trans b5)
theorem T_inj {ty : FieldType} {t N M : Nat} {f g : Nat → Value} {U : State} {H : Heap} (hN : N < 2 ^ 31) (hM : M < 2 ^ 31) (h1 : va_T ty t N f A U H) (h2 : va_T ty t M g A U H) : N = M ∧ ∀ j, j < N → f j = g j := by
  obtain ⟨c1, a1, a2, a3, a4, a5, a6, -⟩ := h1
  obtain ⟨c2, b1, b2, b3, b4, b5, b6, -⟩ := h2
  cases a1.symm.trans b1
  have e : N = M := by
    have h := a5.symm.trans b5
    have h3 := congrArg Int32.toNatClampNeg h
    rwa [Int32.toNatClampNeg_ofNat_of_lt hN, Int32.toNatClampNeg_ofNat_of_lt hM] at h3
  subst e
  exact ⟨rfl, fun j hj => Option.some.inj ((a6 j hj).symm.trans (b6 j hj))⟩
theorem gByt_ne : ∀ i, i < 10 → ∀ j, j < 10 → gLen.getD i 0 = gLen.getD j 0 → (∀ k, k < gLen.getD i 0 → (gByt.getD i []).getD k 0 = (gByt.getD j []).getD k 0) → i = j := by decide +kernel
theorem ad_inj (h : nwC.before #[Value.ref b] s = true) {ad : Nat → Nat} (had : ∀ i, i < 10 → (tV i).eval #[Value.ref b] s none [] s = some (.ref (ad i))) : ∀ i j : Nat, i < 10 → j < 10 → ad i = ad j → i = j := by
  intro i j hi hj e
  by_cases hij : i = j
  · exact hij
  · obtain ⟨q, hq, hc⟩ := nw_neA i hi j hj hij
    have hn := nw_at h _ (nw_ne q hq)
    rcases hc with ⟨e1, e2⟩ | ⟨e1, e2⟩
    · rw [e1, e2] at hn
      exact absurd e (va_neR hn (had i hi) (had j hj))
    · rw [e1, e2] at hn
      exact absurd e.symm (va_neR hn (had j hj) (had i hi))
/-- the addresses of what lies in the heap before the world -/
def vaF (ad kS vS : Nat → Nat) (t0 t1 t2 t3 b L : Nat) : Nat → Nat := fun n => if n < 10 then ad n else if n = 30 then t0 else if n = 31 then t1 else if n = 32 then t2 else if n = 33 then t3 else if n = 200 then b else if n = 201 then L else if n < 50 then kS (n - 40) else vS (n - 60)
theorem vaF_a {ad kS vS : Nat → Nat} {t0 t1 t2 t3 b L i : Nat} (h : i < 10) : vaF ad kS vS t0 t1 t2 t3 b L i = ad i := if_pos h
theorem vaF_k {ad kS vS : Nat → Nat} {t0 t1 t2 t3 b L i : Nat} (h : i < 10) : vaF ad kS vS t0 t1 t2 t3 b L (40 + i) = kS i := by
  unfold vaF
  rw [if_neg (by omega), if_neg (by omega), if_neg (by omega), if_neg (by omega), if_neg (by omega), if_neg (by omega), if_neg (by omega), if_pos (by omega), show 40 + i - 40 = i by omega]
theorem vaF_v {ad kS vS : Nat → Nat} {t0 t1 t2 t3 b L i : Nat} (h : i < 10) : vaF ad kS vS t0 t1 t2 t3 b L (60 + i) = vS i := by
  unfold vaF
  rw [if_neg (by omega), if_neg (by omega), if_neg (by omega), if_neg (by omega), if_neg (by omega), if_neg (by omega), if_neg (by omega), if_neg (by omega), show 60 + i - 60 = i by omega]
set_option maxHeartbeats 4000000 in
theorem vb_start (h : nwC.before #[Value.ref b] s = true) (ht : ∀ w ∈ lw_tbl, w.before #[Value.ref b] s = true) (L : Nat) (D : va_G) (ar : Nat → ClassId) (xs : Nat → Int32) : ∃ va : Nat → Nat, va 200 = b ∧ va 201 = L ∧ gVb (D, ar, s.heap.size, s.heap, va, xs) s := by
  have hA : ∀ a : Nat, a < s.heap.size → ¬ (fun q : Nat => s.heap.size ≤ q) a := fun a ha => Nat.not_le.mpr ha
  obtain ⟨ad, had⟩ := verb_start h
  obtain ⟨kS, vS, hS⟩ := form_start (A := fun q : Nat => s.heap.size ≤ q) h hA
  obtain ⟨t0, e0, T0⟩ := va_Tof (f := fun i => Value.ref (ad i)) (A := fun q : Nat => s.heap.size ≤ q) (N := 10) (by decide) (nw_at h _ nw_all) (va_eqt (nw_at h _ nw_alL)) (fun j hj => eq_ref (nw_at h _ (nw_alE j hj)) (had j hj)) hA
  obtain ⟨t1, e1, T1⟩ := va_Tof (f := fun i => Value.int (if i < 9 then nI (i + 1) else 0)) (A := fun q : Nat => s.heap.size ≤ q) (N := 10) (by decide) (nw_at h _ nw_sw) (va_eqt (nw_at h _ nw_swL)) (fun j hj => va_eqt (nw_at h _ (nw_swE j hj))) hA
  obtain ⟨t2, e2, T2⟩ := va_Tof (f := fun i => Value.int (nI (48 + i % 10))) (A := fun q : Nat => s.heap.size ≤ q) (N := 100) (by decide) (nw_at h _ nw_do) (va_eqt (nw_at h _ nw_doL)) (fun j hj => va_eqt (nw_at h _ (nw_doE j hj))) hA
  obtain ⟨t3, e3, T3⟩ := va_Tof (f := fun i => Value.int (nI (48 + i / 10))) (A := fun q : Nat => s.heap.size ≤ q) (N := 100) (by decide) (nw_at h _ nw_dt) (va_eqt (nw_at h _ nw_dtL)) (fun j hj => va_eqt (nw_at h _ (nw_dtE j hj))) hA
  refine ⟨vaF ad kS vS t0 t1 t2 t3 b L, rfl, rfl, ?_⟩
  refine ⟨va_Zof (tb_at ht 1765 (by decide +kernel)) (tb_at ht 132 (by decide +kernel)) e0 hA, T_congr (fun j hj => by rw [← vaF_a (ad := ad) (kS := kS) (vS := vS) (t0 := t0) (t1 := t1) (t2 := t2) (t3 := t3) (b := b) (L := L) hj]) T0, fun i hi => ?_, fun i hi => ?_, fun i hi => ?_, ?_, va_Zof (tb_at ht 1832 (by decide +kernel)) (tb_at ht 133 (by decide +kernel)) e1 hA, T1, ⟨fun i hi => ?_, fun i j hi hj e => ?_⟩, va_Zof (tb_at ht 1577 (by decide +kernel)) (tb_at ht 130 (by decide +kernel)) e2 hA, T2, va_Zof (tb_at ht 1579 (by decide +kernel)) (tb_at ht 130 (by decide +kernel)) e3 hA, T3, va_Zof (tb_at ht 403 (by decide +kernel)) (tb_at ht 109 (by decide +kernel)) (va_eqt (nw_at h 4 (by decide +kernel))) hA, vx_Zqof (tb_at ht 1507 (by decide +kernel)) (tb_at ht 127 (by decide +kernel)) (nw_at h 7 (by decide +kernel)) hA, va_AO.of (tb_at ht 375 (w := .arrayOver (.object "PaperBoatInsurer$Book")) (by decide +kernel)), tb_at ht 218 (w := .arrayOver (.array .int)) (by decide +kernel), fun i j hi hj e => ?_⟩
  · show va_OF _ _ _ (.ref (vaF ad kS vS t0 t1 t2 t3 b L (40 + i))) (vaF ad kS vS t0 t1 t2 t3 b L i) _ _ _
    rw [vaF_a hi, vaF_k hi]
    exact vk_OFof (had i hi) (eq_ref (nw_at h _ (nw_foV i hi)) (hS i hi).2) hA
  · show va_OF _ _ _ _ (vaF ad kS vS t0 t1 t2 t3 b L i) _ _ _
    rw [vaF_a hi]
    exact vk_OFof (had i hi) (va_eqt (nw_at h _ (nw_orV i hi))) hA
  · show va_O _ (vaF ad kS vS t0 t1 t2 t3 b L i) _ _ _
    rw [vaF_a hi]
    exact va_Oof (nw_at h _ (nw_exV i hi)) (had i hi) hA
  · exact va_Zof (tb_at ht 1830 (by decide +kernel)) (tb_at ht 132 (by decide +kernel)) (had 3 (by decide)) hA
  · show va_O _ (vaF ad kS vS t0 t1 t2 t3 b L (40 + i)) _ _ _ ∧ va_OF _ _ _ _ (vaF ad kS vS t0 t1 t2 t3 b L (40 + i)) _ _ _ ∧ va_OF _ _ _ (.ref (vaF ad kS vS t0 t1 t2 t3 b L (60 + i))) (vaF ad kS vS t0 t1 t2 t3 b L (40 + i)) _ _ _ ∧ va_T _ (vaF ad kS vS t0 t1 t2 t3 b L (60 + i)) _ _ _ _ _
    rw [vaF_k hi, vaF_v hi]
    exact (hS i hi).1
  · replace e : vaF ad kS vS t0 t1 t2 t3 b L (40 + i) = vaF ad kS vS t0 t1 t2 t3 b L (40 + j) := e
    rw [vaF_k hi, vaF_k hj] at e
    have h1 := (hS i hi).1
    have h2 := (hS j hj).1
    rw [e] at h1
    have h3 := Value.ref.inj (OF_inj h1.2.2.1 h2.2.2.1)
    have h4 := h1.2.2.2
    rw [h3] at h4
    have hl : ∀ i, i < 10 → gLen.getD i 0 < 2 ^ 31 := by decide
    obtain ⟨h5, h6⟩ := T_inj (hl i hi) (hl j hj) h4 h2.2.2.2
    exact gByt_ne i hi j hj h5 fun k hk => Value.int.inj (h6 k hk)
  · replace e : vaF ad kS vS t0 t1 t2 t3 b L i = vaF ad kS vS t0 t1 t2 t3 b L j := e
    rw [vaF_a hi, vaF_a hj] at e
    exact ad_inj h had i j hi hj e
theorem kk_start (h : nwC.before #[Value.ref b] s = true) (ht : ∀ w ∈ lw_tbl, w.before #[Value.ref b] s = true) {L : Nat} {xs : Nat → Int32} (hX : va_X b L xs s s.heap) : ∃ E : gE, gKK E s ∧ gX E = s.heap.size ∧ gHb E = s.heap ∧ gva E 200 = b ∧ gva E 201 = L ∧ gxs E = xs := by
  have hA : ∀ a : Nat, a < s.heap.size → ¬ (fun q : Nat => s.heap.size ≤ q) a := fun a ha => Nat.not_le.mpr ha
  obtain ⟨D, hD⟩ := cls_start ht
  obtain ⟨ar, har⟩ := arr_start ht
  obtain ⟨va, h1, h2, h3⟩ := vb_start h ht L D ar xs
  refine ⟨(D, ar, s.heap.size, s.heap, va, xs), ⟨⟨hD, har⟩, vx_Zqof (tb_at ht 778 (by decide +kernel)) (tb_at ht 114 (by decide +kernel)) (nw_at h 5 (by decide +kernel)) hA, vx_Zqof (tb_at ht 780 (by decide +kernel)) (tb_at ht 114 (by decide +kernel)) (nw_at h 6 (by decide +kernel)) hA, str_start (a := #[]) h ht, wN_start ht, ?_, rfl, fun q hq => va_Nc.of (nw_mem h (nw_nc q hq)), h3⟩, rfl, rfl, h1, h2, rfl⟩
  show va_X (va 200) (va 201) xs s s.heap
  rw [h1, h2]
  exact hX
end START
