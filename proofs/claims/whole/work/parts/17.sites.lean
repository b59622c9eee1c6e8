/-! the sites: what each entry of the pools names; by program (wip/whole/gen_sites.py) out of the tables -/
/-- a static method with a table of its own -/
def gST (own : String) (idx : Nat) (μ' : gMd) (nA : Nat) : Prop := md_h μ' ≠ [] ∧ (∀ w ∈ ([.methodLink own idx (md_y μ'), .static (md_y μ'), .initialized (md_y μ').cls] : List Cond), w ∈ wA) ∧ gcw μ' ∈ wA ∧ gNm μ' nA ∧ md_n μ' ≤ 40
/-- an object's method with a table of its own -/
def gSW (own : String) (idx ci : Nat) (μ' : gMd) (nA : Nat) : Prop := ∃ (C : String) (T : u_T) (N : Nat), gcl[ci]? = some (C, T, N) ∧ md_h μ' ≠ [] ∧ (∀ w ∈ ([.methodLink own idx (md_y μ'), .instanceMethod (md_y μ'), .selects C (md_y μ') (md_y μ'), .initialized C] : List Cond), w ∈ wA) ∧ gcw μ' ∈ wA ∧ (md_y μ').cls = C ∧ gNm μ' nA ∧ md_n μ' ≤ 40
/-- an overridden method -/
def gSA (own : String) (idx ci : Nat) (μ' : gMd) (nA : Nat) : Prop := ∃ (C : String) (T : u_T) (N : Nat) (x : MethodName) (owner : String), gcl[ci]? = some (C, T, N) ∧ md_h μ' = [] ∧ (∀ w ∈ ([.methodLink own idx x, .sameMethod x.cls owner x.name x.desc, .selects C x (md_y μ'), .instanceMethod (md_y μ'), .initialized (md_y μ').cls] : List Cond), w ∈ wA) ∧ gcw μ' ∈ wA ∧ Cond.declares ⟨owner, x.name, x.desc⟩ ∈ wN ∧ (owner ≠ "java/lang/invoke/MethodHandle" ∧ owner ≠ "java/lang/invoke/VarHandle" ∧ (parseMethodDescriptor x.desc).map (fun d => d.parameters.length) = some nA) ∧ md_n μ' ≤ 40
/-- a constructor -/
def gSI (own : String) (idx : Nat) (μ' : gMd) (nA : Nat) : Prop := md_h μ' = [] ∧ Cond.methodLink own idx (md_y μ') ∈ wA ∧ Cond.instanceMethod (md_y μ') ∈ wA ∧ Cond.initialized (md_y μ').cls ∈ wA ∧ gcw μ' ∈ wA ∧ (md_y μ').name = "<init>" ∧ gNm μ' nA ∧ md_n μ' ≤ 40
/-- a nest mate's constructor -/
def gSJ (own : String) (idx : Nat) (μ' : gMd) (nA : Nat) : Prop := ∃ host : String, md_h μ' = [] ∧ Cond.methodLinkNest own idx (md_y μ') host ∈ wN ∧ Cond.instanceMethod (md_y μ') ∈ wA ∧ Cond.initialized (md_y μ').cls ∈ wA ∧ gcw μ' ∈ wA ∧ (md_y μ').name = "<init>" ∧ gNm μ' nA ∧ md_n μ' ≤ 40
/-- a throw of NoSuchElementException, whose own constructor links its super at another place than the others' do -/
def gTn (own : String) (ik is ic : Nat) : Prop := (∃ text : String, (own, is, text) ∈ gStr) ∧ Cond.classLink own ik "java/util/NoSuchElementException" ∈ wA ∧ Cond.initialized "java/util/NoSuchElementException" ∈ wA ∧ Cond.methodLink own ic ⟨"java/util/NoSuchElementException", "<init>", "(Ljava/lang/String;)V"⟩ ∈ wA
theorem gth_of {L : List Cond} (h : L.all (fun w => decide (w ∈ lw_tbl) && (goodWord w || gNest w)) = true) : ∀ w ∈ L, w ∈ wA ∨ w ∈ wN := by
  intro w hw
  have h1 := List.all_eq_true.mp h w hw
  simp only [Bool.and_eq_true, decide_eq_true_eq, Bool.or_eq_true] at h1
  exact h1.2.elim (fun g => Or.inl (wA_of h1.1 g)) (fun g => Or.inr (wN_of h1.1 g))
abbrev m_X1_init : gMd := (yX1_init, cX1_init, RX1, 1, none, [], false)
theorem ok_X1_init : gOk m_X1_init := ⟨by decide +kernel, rfl, rfl⟩
theorem cw_X1_init : gcw m_X1_init ∈ wA := w_146
abbrev m_X1_copyFrom : gMd := (yX1_copyFrom, cX1_copyFrom, RX1, 2, none, [], false)
theorem ok_X1_copyFrom : gOk m_X1_copyFrom := ⟨by decide +kernel, rfl, rfl⟩
theorem cw_X1_copyFrom : gcw m_X1_copyFrom ∈ wA := w_684
abbrev m_X1_makePolicy : gMd := (yX1_makePolicy, cX1_makePolicy, RX1, 5, (some .int), [], false)
theorem ok_X1_makePolicy : gOk m_X1_makePolicy := ⟨by decide +kernel, rfl, rfl⟩
theorem cw_X1_makePolicy : gcw m_X1_makePolicy ∈ wA := w_743
abbrev m_X1_removePolicy : gMd := (yX1_removePolicy, cX1_removePolicy, RX1, 4, (some .int), [], false)
theorem ok_X1_removePolicy : gOk m_X1_removePolicy := ⟨by decide +kernel, rfl, rfl⟩
theorem cw_X1_removePolicy : gcw m_X1_removePolicy ∈ wA := w_868
abbrev m_X1_makeTreaty : gMd := (yX1_makeTreaty, cX1_makeTreaty, RX1, 6, (some .int), [], false)
theorem ok_X1_makeTreaty : gOk m_X1_makeTreaty := ⟨by decide +kernel, rfl, rfl⟩
theorem cw_X1_makeTreaty : gcw m_X1_makeTreaty ∈ wA := w_926
abbrev m_X1_removeTreaty : gMd := (yX1_removeTreaty, cX1_removeTreaty, RX1, 3, (some .int), [], false)
theorem ok_X1_removeTreaty : gOk m_X1_removeTreaty := ⟨by decide +kernel, rfl, rfl⟩
theorem cw_X1_removeTreaty : gcw m_X1_removeTreaty ∈ wA := w_968
abbrev m_X1_makeClaim : gMd := (yX1_makeClaim, cX1_makeClaim, RX1, 7, (some .int), [], false)
theorem ok_X1_makeClaim : gOk m_X1_makeClaim := ⟨by decide +kernel, rfl, rfl⟩
theorem cw_X1_makeClaim : gcw m_X1_makeClaim ∈ wA := w_1007
abbrev m_X1_deductible : gMd := (yX1_deductible, cX1_deductible, RX1, 2, (some .int), [], false)
theorem ok_X1_deductible : gOk m_X1_deductible := ⟨by decide +kernel, rfl, rfl⟩
theorem cw_X1_deductible : gcw m_X1_deductible ∈ wA := w_1018
abbrev m_X1_payPart : gMd := (yX1_payPart, cX1_payPart, RX1, 6, (some .int), [], false)
theorem ok_X1_payPart : gOk m_X1_payPart := ⟨by decide +kernel, rfl, rfl⟩
theorem cw_X1_payPart : gcw m_X1_payPart ∈ wA := w_1058
abbrev m_X1_removePaidClaim : gMd := (yX1_removePaidClaim, cX1_removePaidClaim, RX1, 4, (some .int), [], false)
theorem ok_X1_removePaidClaim : gOk m_X1_removePaidClaim := ⟨by decide +kernel, rfl, rfl⟩
theorem cw_X1_removePaidClaim : gcw m_X1_removePaidClaim ∈ wA := w_1086
abbrev m_X1_removeUnpaidClaim : gMd := (yX1_removeUnpaidClaim, cX1_removeUnpaidClaim, RX1, 4, (some .int), [], false)
theorem ok_X1_removeUnpaidClaim : gOk m_X1_removeUnpaidClaim := ⟨by decide +kernel, rfl, rfl⟩
theorem cw_X1_removeUnpaidClaim : gcw m_X1_removeUnpaidClaim ∈ wA := w_1105
abbrev m_X1_advance : gMd := (yX1_advance, cX1_advance, RX1, 2, (some .int), [], false)
theorem ok_X1_advance : gOk m_X1_advance := ⟨by decide +kernel, rfl, rfl⟩
theorem cw_X1_advance : gcw m_X1_advance ∈ wA := w_1147
abbrev m_X1_latestPeriod : gMd := (yX1_latestPeriod, cX1_latestPeriod, RX1, 1, (some .int), [], false)
theorem ok_X1_latestPeriod : gOk m_X1_latestPeriod := ⟨by decide +kernel, rfl, rfl⟩
theorem cw_X1_latestPeriod : gcw m_X1_latestPeriod ∈ wA := w_515
abbrev m_X1_isBalanced : gMd := (yX1_isBalanced, cX1_isBalanced, RX1, 1, (some .boolean), [], false)
theorem ok_X1_isBalanced : gOk m_X1_isBalanced := ⟨by decide +kernel, rfl, rfl⟩
theorem cw_X1_isBalanced : gcw m_X1_isBalanced ∈ wA := w_555
abbrev m_X1_keepsCapacities : gMd := (yX1_keepsCapacities, cX1_keepsCapacities, RX1, 2, (some .boolean), [], false)
theorem ok_X1_keepsCapacities : gOk m_X1_keepsCapacities := ⟨by decide +kernel, rfl, rfl⟩
theorem cw_X1_keepsCapacities : gcw m_X1_keepsCapacities ∈ wA := w_559
abbrev m_X1_layersAgree : gMd := (yX1_layersAgree, cX1_layersAgree, RX1, 2, (some .boolean), [], false)
theorem ok_X1_layersAgree : gOk m_X1_layersAgree := ⟨by decide +kernel, rfl, rfl⟩
theorem cw_X1_layersAgree : gcw m_X1_layersAgree ∈ wA := w_567
abbrev m_X1_outcomesAgree : gMd := (yX1_outcomesAgree, cX1_outcomesAgree, RX1, 2, (some .boolean), [], false)
theorem ok_X1_outcomesAgree : gOk m_X1_outcomesAgree := ⟨by decide +kernel, rfl, rfl⟩
theorem cw_X1_outcomesAgree : gcw m_X1_outcomesAgree ∈ wA := w_608
abbrev m_X1_projectionsAgree : gMd := (yX1_projectionsAgree, cX1_projectionsAgree, RX1, 3, (some .boolean), [], false)
theorem ok_X1_projectionsAgree : gOk m_X1_projectionsAgree := ⟨by decide +kernel, rfl, rfl⟩
theorem cw_X1_projectionsAgree : gcw m_X1_projectionsAgree ∈ wA := w_637
abbrev m_X1_coversAgree : gMd := (yX1_coversAgree, cX1_coversAgree, RX1, 1, (some .boolean), [], false)
theorem ok_X1_coversAgree : gOk m_X1_coversAgree := ⟨by decide +kernel, rfl, rfl⟩
theorem cw_X1_coversAgree : gcw m_X1_coversAgree ∈ wA := w_650
abbrev m_X2_init : gMd := (yX2_init, cX2_init, RX2, 1, none, [], false)
theorem ok_X2_init : gOk m_X2_init := ⟨by decide +kernel, rfl, rfl⟩
theorem cw_X2_init : gcw m_X2_init ∈ wA := w_215
abbrev m_X2_copyFrom : gMd := (yX2_copyFrom, cX2_copyFrom, RX2, 3, none, [], false)
theorem ok_X2_copyFrom : gOk m_X2_copyFrom := ⟨by decide +kernel, rfl, rfl⟩
theorem cw_X2_copyFrom : gcw m_X2_copyFrom ∈ wA := w_700
abbrev m_X2_add : gMd := (yX2_add, cX2_add, RX2, 6, (some .int), [], false)
theorem ok_X2_add : gOk m_X2_add := ⟨by decide +kernel, rfl, rfl⟩
theorem cw_X2_add : gcw m_X2_add ∈ wA := w_1042
abbrev m_X2_remove : gMd := (yX2_remove, cX2_remove, RX2, 3, none, [], false)
theorem ok_X2_remove : gOk m_X2_remove := ⟨by decide +kernel, rfl, rfl⟩
theorem cw_X2_remove : gcw m_X2_remove ∈ wA := w_1091
abbrev m_X2_unpaidAt : gMd := (yX2_unpaidAt, cX2_unpaidAt, RX2, 2, (some .int), [], false)
theorem ok_X2_unpaidAt : gOk m_X2_unpaidAt := ⟨by decide +kernel, rfl, rfl⟩
theorem cw_X2_unpaidAt : gcw m_X2_unpaidAt ∈ wA := w_1065
abbrev m_X2_ownPartAt : gMd := (yX2_ownPartAt, cX2_ownPartAt, RX2, 2, (some .int), [], false)
theorem ok_X2_ownPartAt : gOk m_X2_ownPartAt := ⟨by decide +kernel, rfl, rfl⟩
theorem cw_X2_ownPartAt : gcw m_X2_ownPartAt ∈ wA := w_1254
abbrev m_X2_recoveredAt : gMd := (yX2_recoveredAt, cX2_recoveredAt, RX2, 2, (some .int), [], false)
theorem ok_X2_recoveredAt : gOk m_X2_recoveredAt := ⟨by decide +kernel, rfl, rfl⟩
theorem cw_X2_recoveredAt : gcw m_X2_recoveredAt ∈ wA := w_1070
abbrev m_X2_coinsOf : gMd := (yX2_coinsOf, cX2_coinsOf, RX2, 4, (some .int), [], false)
theorem ok_X2_coinsOf : gOk m_X2_coinsOf := ⟨by decide +kernel, rfl, rfl⟩
theorem cw_X2_coinsOf : gcw m_X2_coinsOf ∈ wA := w_563
abbrev m_X2_forgetTreaty : gMd := (yX2_forgetTreaty, cX2_forgetTreaty, RX2, 3, none, [], false)
theorem ok_X2_forgetTreaty : gOk m_X2_forgetTreaty := ⟨by decide +kernel, rfl, rfl⟩
theorem cw_X2_forgetTreaty : gcw m_X2_forgetTreaty ∈ wA := w_994
abbrev m_X2_isAhead : gMd := (yX2_isAhead, cX2_isAhead, RX2, 3, (some .boolean), [], false)
theorem ok_X2_isAhead : gOk m_X2_isAhead := ⟨by decide +kernel, rfl, rfl⟩
theorem cw_X2_isAhead : gcw m_X2_isAhead ∈ wA := w_1378
abbrev m_X3_init : gMd := (yX3_init, cX3_init, RX3, 2, none, [], false)
theorem ok_X3_init : gOk m_X3_init := ⟨by decide +kernel, rfl, rfl⟩
theorem cw_X3_init : gcw m_X3_init ∈ wA := w_372
abbrev m_X3_spare : gMd := (yX3_spare, cX3_spare, RX3, 1, (some (.object "PaperBoatInsurer$Book")), [], false)
theorem ok_X3_spare : gOk m_X3_spare := ⟨by decide +kernel, rfl, rfl⟩
theorem cw_X3_spare : gcw m_X3_spare ∈ wA := w_735
abbrev m_X3_prepare : gMd := (yX3_prepare, cX3_prepare, RX3, 2, none, [], false)
theorem ok_X3_prepare : gOk m_X3_prepare := ⟨by decide +kernel, rfl, rfl⟩
theorem cw_X3_prepare : gcw m_X3_prepare ∈ wA := w_731
abbrev m_X3_keep : gMd := (yX3_keep, cX3_keep, RX3, 1, none, [], false)
theorem ok_X3_keep : gOk m_X3_keep := ⟨by decide +kernel, rfl, rfl⟩
theorem cw_X3_keep : gcw m_X3_keep ∈ wA := w_856
abbrev m_X3_bringBack : gMd := (yX3_bringBack, cX3_bringBack, RX3, 2, none, [], false)
theorem ok_X3_bringBack : gOk m_X3_bringBack := ⟨by decide +kernel, rfl, rfl⟩
theorem cw_X3_bringBack : gcw m_X3_bringBack ∈ wA := w_1852
abbrev m_X3_stepBack : gMd := (yX3_stepBack, cX3_stepBack, RX3, 2, (some .int), [], false)
theorem ok_X3_stepBack : gOk m_X3_stepBack := ⟨by decide +kernel, rfl, rfl⟩
theorem cw_X3_stepBack : gcw m_X3_stepBack ∈ wA := w_1882
abbrev m_X3_forget : gMd := (yX3_forget, cX3_forget, RX3, 1, none, [], false)
theorem ok_X3_forget : gOk m_X3_forget := ⟨by decide +kernel, rfl, rfl⟩
theorem cw_X3_forget : gcw m_X3_forget ∈ wA := w_1898
abbrev m_X4_init : gMd := (yX4_init, cX4_init, RX4, 1, none, [], false)
theorem ok_X4_init : gOk m_X4_init := ⟨by decide +kernel, rfl, rfl⟩
theorem cw_X4_init : gcw m_X4_init ∈ wA := w_303
abbrev m_X4_copyFrom : gMd := (yX4_copyFrom, cX4_copyFrom, RX4, 2, none, [], false)
theorem ok_X4_copyFrom : gOk m_X4_copyFrom := ⟨by decide +kernel, rfl, rfl⟩
theorem cw_X4_copyFrom : gcw m_X4_copyFrom ∈ wA := w_717
abbrev m_X4_add : gMd := (yX4_add, cX4_add, RX4, 5, (some .int), [], false)
theorem ok_X4_add : gOk m_X4_add := ⟨by decide +kernel, rfl, rfl⟩
theorem cw_X4_add : gcw m_X4_add ∈ wA := w_1121
abbrev m_X4_remove : gMd := (yX4_remove, cX4_remove, RX4, 3, (some .int), [], false)
theorem ok_X4_remove : gOk m_X4_remove := ⟨by decide +kernel, rfl, rfl⟩
theorem cw_X4_remove : gcw m_X4_remove ∈ wA := w_1134
abbrev m_X4_cheapestByDays : gMd := (yX4_cheapestByDays, cX4_cheapestByDays, RX4, 4, (some .int), [], false)
theorem ok_X4_cheapestByDays : gOk m_X4_cheapestByDays := ⟨by decide +kernel, rfl, rfl⟩
theorem cw_X4_cheapestByDays : gcw m_X4_cheapestByDays ∈ wA := w_654
abbrev m_X4_priceUntil : gMd := (yX4_priceUntil, cX4_priceUntil, RX4, 6, (some .int), [], false)
theorem ok_X4_priceUntil : gOk m_X4_priceUntil := ⟨by decide +kernel, rfl, rfl⟩
theorem cw_X4_priceUntil : gcw m_X4_priceUntil ∈ wA := w_658
abbrev m_X4_cheapestBySets : gMd := (yX4_cheapestBySets, cX4_cheapestBySets, RX4, 5, (some .int), [], false)
theorem ok_X4_cheapestBySets : gOk m_X4_cheapestBySets := ⟨by decide +kernel, rfl, rfl⟩
theorem cw_X4_cheapestBySets : gcw m_X4_cheapestBySets ∈ wA := w_663
abbrev m_X4_priceOfSet : gMd := (yX4_priceOfSet, cX4_priceOfSet, RX4, 4, (some .int), [], false)
theorem ok_X4_priceOfSet : gOk m_X4_priceOfSet := ⟨by decide +kernel, rfl, rfl⟩
theorem cw_X4_priceOfSet : gcw m_X4_priceOfSet ∈ wA := w_676
abbrev m_X4_isCover : gMd := (yX4_isCover, cX4_isCover, RX4, 6, (some .boolean), [], false)
theorem ok_X4_isCover : gOk m_X4_isCover := ⟨by decide +kernel, rfl, rfl⟩
theorem cw_X4_isCover : gcw m_X4_isCover ∈ wA := w_667
abbrev m_X4_dayAfter : gMd := (yX4_dayAfter, cX4_dayAfter, RX4, 5, (some .int), [], false)
theorem ok_X4_dayAfter : gOk m_X4_dayAfter := ⟨by decide +kernel, rfl, rfl⟩
theorem cw_X4_dayAfter : gcw m_X4_dayAfter ∈ wA := w_671
abbrev m_X5_init : gMd := (yX5_init, cX5_init, RX5, 1, none, [], false)
theorem ok_X5_init : gOk m_X5_init := ⟨by decide +kernel, rfl, rfl⟩
theorem cw_X5_init : gcw m_X5_init ∈ wA := w_152
abbrev m_X5_copyFrom : gMd := (yX5_copyFrom, cX5_copyFrom, RX5, 2, none, [], false)
theorem ok_X5_copyFrom : gOk m_X5_copyFrom := ⟨by decide +kernel, rfl, rfl⟩
theorem cw_X5_copyFrom : gcw m_X5_copyFrom ∈ wA := w_688
abbrev m_X5_add : gMd := (yX5_add, cX5_add, RX5, 6, (some .int), [], false)
theorem ok_X5_add : gOk m_X5_add := ⟨by decide +kernel, rfl, rfl⟩
theorem cw_X5_add : gcw m_X5_add ∈ wA := w_747
abbrev m_X5_remove : gMd := (yX5_remove, cX5_remove, RX5, 2, none, [], false)
theorem ok_X5_remove : gOk m_X5_remove := ⟨by decide +kernel, rfl, rfl⟩
theorem cw_X5_remove : gcw m_X5_remove ∈ wA := w_905
abbrev m_X5_isActiveAt : gMd := (yX5_isActiveAt, cX5_isActiveAt, RX5, 3, (some .boolean), [], false)
theorem ok_X5_isActiveAt : gOk m_X5_isActiveAt := ⟨by decide +kernel, rfl, rfl⟩
theorem cw_X5_isActiveAt : gcw m_X5_isActiveAt ∈ wA := w_498
abbrev m_X5_leftAt : gMd := (yX5_leftAt, cX5_leftAt, RX5, 2, (some .int), [], false)
theorem ok_X5_leftAt : gOk m_X5_leftAt := ⟨by decide +kernel, rfl, rfl⟩
theorem cw_X5_leftAt : gcw m_X5_leftAt ∈ wA := w_1022
abbrev m_X5_refundAt : gMd := (yX5_refundAt, cX5_refundAt, RX5, 3, (some .int), [], false)
theorem ok_X5_refundAt : gOk m_X5_refundAt := ⟨by decide +kernel, rfl, rfl⟩
theorem cw_X5_refundAt : gcw m_X5_refundAt ∈ wA := w_901
abbrev m_X5_isAhead : gMd := (yX5_isAhead, cX5_isAhead, RX5, 5, (some .boolean), [], false)
theorem ok_X5_isAhead : gOk m_X5_isAhead := ⟨by decide +kernel, rfl, rfl⟩
theorem cw_X5_isAhead : gcw m_X5_isAhead ∈ wA := w_1382
abbrev m_X5_countOutcomes : gMd := (yX5_countOutcomes, cX5_countOutcomes, RX5, 5, (some .long), [], false)
theorem ok_X5_countOutcomes : gOk m_X5_countOutcomes := ⟨by decide +kernel, rfl, rfl⟩
theorem cw_X5_countOutcomes : gcw m_X5_countOutcomes ∈ wA := w_494
abbrev m_X5_mostLoss : gMd := (yX5_mostLoss, cX5_mostLoss, RX5, 4, (some .int), [], false)
theorem ok_X5_mostLoss : gOk m_X5_mostLoss := ⟨by decide +kernel, rfl, rfl⟩
theorem cw_X5_mostLoss : gcw m_X5_mostLoss ∈ wA := w_507
abbrev m_X5_countByTable : gMd := (yX5_countByTable, cX5_countByTable, RX5, 6, (some .long), [], false)
theorem ok_X5_countByTable : gOk m_X5_countByTable := ⟨by decide +kernel, rfl, rfl⟩
theorem cw_X5_countByTable : gcw m_X5_countByTable ∈ wA := w_613
abbrev m_X5_addBoat : gMd := (yX5_addBoat, cX5_addBoat, RX5, 6, none, [], false)
theorem ok_X5_addBoat : gOk m_X5_addBoat := ⟨by decide +kernel, rfl, rfl⟩
theorem cw_X5_addBoat : gcw m_X5_addBoat ∈ wA := w_620
abbrev m_X5_countBySets : gMd := (yX5_countBySets, cX5_countBySets, RX5, 6, (some .long), [], false)
theorem ok_X5_countBySets : gOk m_X5_countBySets := ⟨by decide +kernel, rfl, rfl⟩
theorem cw_X5_countBySets : gcw m_X5_countBySets ∈ wA := w_625
abbrev m_X5_lossOfSet : gMd := (yX5_lossOfSet, cX5_lossOfSet, RX5, 4, (some .int), [], false)
theorem ok_X5_lossOfSet : gOk m_X5_lossOfSet := ⟨by decide +kernel, rfl, rfl⟩
theorem cw_X5_lossOfSet : gcw m_X5_lossOfSet ∈ wA := w_629
abbrev m_X5_waysOfSet : gMd := (yX5_waysOfSet, cX5_waysOfSet, RX5, 7, (some .long), [], false)
theorem ok_X5_waysOfSet : gOk m_X5_waysOfSet := ⟨by decide +kernel, rfl, rfl⟩
theorem cw_X5_waysOfSet : gcw m_X5_waysOfSet ∈ wA := w_633
abbrev m_X6_init : gMd := (yX6_init, cX6_init, RX6, 2, none, [], false)
theorem ok_X6_init : gOk m_X6_init := ⟨by decide +kernel, rfl, rfl⟩
theorem cw_X6_init : gcw m_X6_init ∈ wA := w_155
abbrev m_X6_copyIds : gMd := (yX6_copyIds, cX6_copyIds, RX6, 2, none, [], false)
theorem ok_X6_copyIds : gOk m_X6_copyIds := ⟨by decide +kernel, rfl, rfl⟩
theorem cw_X6_copyIds : gcw m_X6_copyIds ∈ wA := w_694
abbrev m_X6_placeOf : gMd := (yX6_placeOf, cX6_placeOf, RX6, 3, (some .int), [], false)
theorem ok_X6_placeOf : gOk m_X6_placeOf := ⟨by decide +kernel, rfl, rfl⟩
theorem cw_X6_placeOf : gcw m_X6_placeOf ∈ wA := w_874
abbrev m_X6_takePlace : gMd := (yX6_takePlace, cX6_takePlace, RX6, 2, (some .int), [], false)
theorem ok_X6_takePlace : gOk m_X6_takePlace := ⟨by decide +kernel, rfl, rfl⟩
theorem cw_X6_takePlace : gcw m_X6_takePlace ∈ wA := w_828
abbrev m_X6_removeId : gMd := (yX6_removeId, cX6_removeId, RX6, 2, none, [], false)
theorem ok_X6_removeId : gOk m_X6_removeId := ⟨by decide +kernel, rfl, rfl⟩
theorem cw_X6_removeId : gcw m_X6_removeId ∈ wA := w_911
abbrev m_X6_idAtRank : gMd := (yX6_idAtRank, cX6_idAtRank, RX6, 3, (some .int), [], false)
theorem ok_X6_idAtRank : gOk m_X6_idAtRank := ⟨by decide +kernel, rfl, rfl⟩
theorem cw_X6_idAtRank : gcw m_X6_idAtRank ∈ wA := w_1368
abbrev m_X6_countAhead : gMd := (yX6_countAhead, cX6_countAhead, RX6, 4, (some .int), [], false)
theorem ok_X6_countAhead : gOk m_X6_countAhead := ⟨by decide +kernel, rfl, rfl⟩
theorem cw_X6_countAhead : gcw m_X6_countAhead ∈ wA := w_1372
abbrev m_X7_init : gMd := (yX7_init, cX7_init, RX7, 1, none, [], false)
theorem ok_X7_init : gOk m_X7_init := ⟨by decide +kernel, rfl, rfl⟩
theorem cw_X7_init : gcw m_X7_init ∈ wA := w_391
abbrev m_X7_append : gMd := (yX7_append, cX7_append, RX7, 2, (some .int), [], false)
theorem ok_X7_append : gOk m_X7_append := ⟨by decide +kernel, rfl, rfl⟩
theorem cw_X7_append : gcw m_X7_append ∈ wA := w_1743
abbrev m_X7_empty : gMd := (yX7_empty, cX7_empty, RX7, 1, none, [], false)
theorem ok_X7_empty : gOk m_X7_empty := ⟨by decide +kernel, rfl, rfl⟩
theorem cw_X7_empty : gcw m_X7_empty ∈ wA := w_1811
abbrev m_X7_countCommands : gMd := (yX7_countCommands, cX7_countCommands, RX7, 2, (some .int), [], false)
theorem ok_X7_countCommands : gOk m_X7_countCommands := ⟨by decide +kernel, rfl, rfl⟩
theorem cw_X7_countCommands : gcw m_X7_countCommands ∈ wA := w_1759
abbrev m_X7_firstFailure : gMd := (yX7_firstFailure, cX7_firstFailure, RX7, 4, (some .int), [], false)
theorem ok_X7_firstFailure : gOk m_X7_firstFailure := ⟨by decide +kernel, rfl, rfl⟩
theorem cw_X7_firstFailure : gcw m_X7_firstFailure ∈ wA := w_1817
abbrev m_X7_readCommand : gMd := (yX7_readCommand, cX7_readCommand, RX7, 4, (some .boolean), [], false)
theorem ok_X7_readCommand : gOk m_X7_readCommand := ⟨by decide +kernel, rfl, rfl⟩
theorem cw_X7_readCommand : gcw m_X7_readCommand ∈ wA := w_1763
abbrev m_X7_fits : gMd := (yX7_fits, cX7_fits, RX7, 5, (some .boolean), [], false)
theorem ok_X7_fits : gOk m_X7_fits := ⟨by decide +kernel, rfl, rfl⟩
theorem cw_X7_fits : gcw m_X7_fits ∈ wA := w_1769
abbrev m_X7_isPlaceholder : gMd := (yX7_isPlaceholder, cX7_isPlaceholder, RX7, 1, (some .boolean), [], false)
theorem ok_X7_isPlaceholder : gOk m_X7_isPlaceholder := ⟨by decide +kernel, rfl, rfl⟩
theorem cw_X7_isPlaceholder : gcw m_X7_isPlaceholder ∈ wA := w_1806
abbrev m_X7_readSign : gMd := (yX7_readSign, cX7_readSign, RX7, 2, (some .int), [], false)
theorem ok_X7_readSign : gOk m_X7_readSign := ⟨by decide +kernel, rfl, rfl⟩
theorem cw_X7_readSign : gcw m_X7_readSign ∈ wA := w_1789
abbrev m_X7_readCharacter : gMd := (yX7_readCharacter, cX7_readCharacter, RX7, 4, (some .int), [], false)
theorem ok_X7_readCharacter : gOk m_X7_readCharacter := ⟨by decide +kernel, rfl, rfl⟩
theorem cw_X7_readCharacter : gcw m_X7_readCharacter ∈ wA := w_1802
abbrev m_X7_readNumber : gMd := (yX7_readNumber, cX7_readNumber, RX7, 3, (some .int), [], false)
theorem ok_X7_readNumber : gOk m_X7_readNumber := ⟨by decide +kernel, rfl, rfl⟩
theorem cw_X7_readNumber : gcw m_X7_readNumber ∈ wA := w_1793
abbrev m_X7_readDigit : gMd := (yX7_readDigit, cX7_readDigit, RX7, 2, (some .int), [], false)
theorem ok_X7_readDigit : gOk m_X7_readDigit := ⟨by decide +kernel, rfl, rfl⟩
theorem cw_X7_readDigit : gcw m_X7_readDigit ∈ wA := w_1797
abbrev m_X7_isDone : gMd := (yX7_isDone, cX7_isDone, RX7, 3, (some .boolean), [(0, 5, 6, 108), (0, 5, 9, 110), (0, 5, 12, 26), (0, 5, 15, 112)], false)
theorem ok_X7_isDone : gOk m_X7_isDone := ⟨by decide +kernel, rfl, rfl⟩
theorem cw_X7_isDone : gcw m_X7_isDone ∈ wA := w_1821
abbrev m_X7_execute : gMd := (yX7_execute, cX7_execute, RX7, 2, (some .boolean), [], false)
theorem ok_X7_execute : gOk m_X7_execute := ⟨by decide +kernel, rfl, rfl⟩
theorem cw_X7_execute : gcw m_X7_execute ∈ wA := w_1828
abbrev m_X8_init : gMd := (yX8_init, cX8_init, RX8, 1, none, [], false)
theorem ok_X8_init : gOk m_X8_init := ⟨by decide +kernel, rfl, rfl⟩
theorem cw_X8_init : gcw m_X8_init ∈ wA := w_256
abbrev m_X8_copyFrom : gMd := (yX8_copyFrom, cX8_copyFrom, RX8, 2, none, [], false)
theorem ok_X8_copyFrom : gOk m_X8_copyFrom := ⟨by decide +kernel, rfl, rfl⟩
theorem cw_X8_copyFrom : gcw m_X8_copyFrom ∈ wA := w_708
abbrev m_X8_add : gMd := (yX8_add, cX8_add, RX8, 5, (some .int), [], false)
theorem ok_X8_add : gOk m_X8_add := ⟨by decide +kernel, rfl, rfl⟩
theorem cw_X8_add : gcw m_X8_add ∈ wA := w_931
abbrev m_X8_remove : gMd := (yX8_remove, cX8_remove, RX8, 2, none, [], false)
theorem ok_X8_remove : gOk m_X8_remove := ⟨by decide +kernel, rfl, rfl⟩
theorem cw_X8_remove : gcw m_X8_remove ∈ wA := w_989
abbrev m_X8_giveBack : gMd := (yX8_giveBack, cX8_giveBack, RX8, 3, none, [], false)
theorem ok_X8_giveBack : gOk m_X8_giveBack := ⟨by decide +kernel, rfl, rfl⟩
theorem cw_X8_giveBack : gcw m_X8_giveBack ∈ wA := w_1110
abbrev m_X8_countByCoins : gMd := (yX8_countByCoins, cX8_countByCoins, RX8, 2, (some .int), [], false)
theorem ok_X8_countByCoins : gOk m_X8_countByCoins := ⟨by decide +kernel, rfl, rfl⟩
theorem cw_X8_countByCoins : gcw m_X8_countByCoins ∈ wA := w_594
abbrev m_X8_bearCoins : gMd := (yX8_bearCoins, cX8_bearCoins, RX8, 6, none, [], false)
theorem ok_X8_bearCoins : gOk m_X8_bearCoins := ⟨by decide +kernel, rfl, rfl⟩
theorem cw_X8_bearCoins : gcw m_X8_bearCoins ∈ wA := w_601
abbrev m_X8_treatyOf : gMd := (yX8_treatyOf, cX8_treatyOf, RX8, 4, (some .int), [], false)
theorem ok_X8_treatyOf : gOk m_X8_treatyOf := ⟨by decide +kernel, rfl, rfl⟩
theorem cw_X8_treatyOf : gcw m_X8_treatyOf ∈ wA := w_582
abbrev m_X8_countByRuns : gMd := (yX8_countByRuns, cX8_countByRuns, RX8, 6, (some .int), [], false)
theorem ok_X8_countByRuns : gOk m_X8_countByRuns := ⟨by decide +kernel, rfl, rfl⟩
theorem cw_X8_countByRuns : gcw m_X8_countByRuns ∈ wA := w_571
abbrev m_X8_endOfRun : gMd := (yX8_endOfRun, cX8_endOfRun, RX8, 7, (some .int), [], false)
theorem ok_X8_endOfRun : gOk m_X8_endOfRun := ⟨by decide +kernel, rfl, rfl⟩
theorem cw_X8_endOfRun : gcw m_X8_endOfRun ∈ wA := w_586
abbrev m_X9_init : gMd := (yX9_init, cX9_init, RX9, 1, none, [], false)
theorem ok_X9_init : gOk m_X9_init := ⟨by decide +kernel, rfl, rfl⟩
theorem cw_X9_init : gcw m_X9_init ∈ wA := w_291
abbrev m_X9_copyFrom : gMd := (yX9_copyFrom, cX9_copyFrom, RX9, 3, none, [], false)
theorem ok_X9_copyFrom : gOk m_X9_copyFrom := ⟨by decide +kernel, rfl, rfl⟩
theorem cw_X9_copyFrom : gcw m_X9_copyFrom ∈ wA := w_712
abbrev m_X9_add : gMd := (yX9_add, cX9_add, RX9, 6, none, [], false)
theorem ok_X9_add : gOk m_X9_add := ⟨by decide +kernel, rfl, rfl⟩
theorem cw_X9_add : gcw m_X9_add ∈ wA := w_1075
abbrev m_X9_projectByDelays : gMd := (yX9_projectByDelays, cX9_projectByDelays, RX9, 6, (some .int), [], false)
theorem ok_X9_projectByDelays : gOk m_X9_projectByDelays := ⟨by decide +kernel, rfl, rfl⟩
theorem cw_X9_projectByDelays : gcw m_X9_projectByDelays ∈ wA := w_531
abbrev m_X9_projectBackwards : gMd := (yX9_projectBackwards, cX9_projectBackwards, RX9, 3, (some .int), [], false)
theorem ok_X9_projectBackwards : gOk m_X9_projectBackwards := ⟨by decide +kernel, rfl, rfl⟩
theorem cw_X9_projectBackwards : gcw m_X9_projectBackwards ∈ wA := w_643
abbrev m_X9_valueAt : gMd := (yX9_valueAt, cX9_valueAt, RX9, 4, (some .long), [], false)
theorem ok_X9_valueAt : gOk m_X9_valueAt := ⟨by decide +kernel, rfl, rfl⟩
theorem cw_X9_valueAt : gcw m_X9_valueAt ∈ wA := w_646
abbrev m_X9_timesFactor : gMd := (yX9_timesFactor, cX9_timesFactor, RX9, 8, (some .long), [], false)
theorem ok_X9_timesFactor : gOk m_X9_timesFactor := ⟨by decide +kernel, rfl, rfl⟩
theorem cw_X9_timesFactor : gcw m_X9_timesFactor ∈ wA := w_539
abbrev m_X9_totalOfPeriods : gMd := (yX9_totalOfPeriods, cX9_totalOfPeriods, RX9, 6, (some .long), [], false)
theorem ok_X9_totalOfPeriods : gOk m_X9_totalOfPeriods := ⟨by decide +kernel, rfl, rfl⟩
theorem cw_X9_totalOfPeriods : gcw m_X9_totalOfPeriods ∈ wA := w_543
abbrev m_X9_totalOf : gMd := (yX9_totalOf, cX9_totalOf, RX9, 5, (some .int), [], false)
theorem ok_X9_totalOf : gOk m_X9_totalOf := ⟨by decide +kernel, rfl, rfl⟩
theorem cw_X9_totalOf : gcw m_X9_totalOf ∈ wA := w_535
abbrev m_X9_sumOfUnpaid : gMd := (yX9_sumOfUnpaid, cX9_sumOfUnpaid, RX9, 4, (some .int), [], false)
theorem ok_X9_sumOfUnpaid : gOk m_X9_sumOfUnpaid := ⟨by decide +kernel, rfl, rfl⟩
theorem cw_X9_sumOfUnpaid : gcw m_X9_sumOfUnpaid ∈ wA := w_526
abbrev m_X11_init : gMd := (yX11_init, cX11_init, RX11, 1, none, [], false)
theorem ok_X11_init : gOk m_X11_init := ⟨by decide +kernel, rfl, rfl⟩
theorem cw_X11_init : gcw m_X11_init ∈ wA := w_138
abbrev m_X11_insure : gMd := (yX11_insure, cX11_insure, RX11, 4, (some .int), [], false)
theorem ok_X11_insure : gOk m_X11_insure := ⟨by decide +kernel, rfl, rfl⟩
theorem cw_X11_insure : gcw m_X11_insure ∈ wA := w_727
abbrev m_X11_endPolicy : gMd := (yX11_endPolicy, cX11_endPolicy, RX11, 2, (some .int), [], false)
theorem ok_X11_endPolicy : gOk m_X11_endPolicy := ⟨by decide +kernel, rfl, rfl⟩
theorem cw_X11_endPolicy : gcw m_X11_endPolicy ∈ wA := w_864
abbrev m_X11_addTreaty : gMd := (yX11_addTreaty, cX11_addTreaty, RX11, 5, (some .int), [], false)
theorem ok_X11_addTreaty : gOk m_X11_addTreaty := ⟨by decide +kernel, rfl, rfl⟩
theorem cw_X11_addTreaty : gcw m_X11_addTreaty ∈ wA := w_922
abbrev m_X11_dropTreaty : gMd := (yX11_dropTreaty, cX11_dropTreaty, RX11, 2, (some .int), [], false)
theorem ok_X11_dropTreaty : gOk m_X11_dropTreaty := ⟨by decide +kernel, rfl, rfl⟩
theorem cw_X11_dropTreaty : gcw m_X11_dropTreaty ∈ wA := w_964
abbrev m_X11_claim : gMd := (yX11_claim, cX11_claim, RX11, 4, (some .int), [], false)
theorem ok_X11_claim : gOk m_X11_claim := ⟨by decide +kernel, rfl, rfl⟩
theorem cw_X11_claim : gcw m_X11_claim ∈ wA := w_1003
abbrev m_X11_pay : gMd := (yX11_pay, cX11_pay, RX11, 3, (some .int), [], false)
theorem ok_X11_pay : gOk m_X11_pay := ⟨by decide +kernel, rfl, rfl⟩
theorem cw_X11_pay : gcw m_X11_pay ∈ wA := w_1054
abbrev m_X11_closeClaim : gMd := (yX11_closeClaim, cX11_closeClaim, RX11, 2, (some .int), [], false)
theorem ok_X11_closeClaim : gOk m_X11_closeClaim := ⟨by decide +kernel, rfl, rfl⟩
theorem cw_X11_closeClaim : gcw m_X11_closeClaim ∈ wA := w_1082
abbrev m_X11_withdrawClaim : gMd := (yX11_withdrawClaim, cX11_withdrawClaim, RX11, 2, (some .int), [], false)
theorem ok_X11_withdrawClaim : gOk m_X11_withdrawClaim := ⟨by decide +kernel, rfl, rfl⟩
theorem cw_X11_withdrawClaim : gcw m_X11_withdrawClaim ∈ wA := w_1101
abbrev m_X11_addOffer : gMd := (yX11_addOffer, cX11_addOffer, RX11, 4, (some .int), [], false)
theorem ok_X11_addOffer : gOk m_X11_addOffer := ⟨by decide +kernel, rfl, rfl⟩
theorem cw_X11_addOffer : gcw m_X11_addOffer ∈ wA := w_1117
abbrev m_X11_dropOffer : gMd := (yX11_dropOffer, cX11_dropOffer, RX11, 2, (some .int), [], false)
theorem ok_X11_dropOffer : gOk m_X11_dropOffer := ⟨by decide +kernel, rfl, rfl⟩
theorem cw_X11_dropOffer : gcw m_X11_dropOffer ∈ wA := w_1130
abbrev m_X11_passDays : gMd := (yX11_passDays, cX11_passDays, RX11, 2, (some .int), [], false)
theorem ok_X11_passDays : gOk m_X11_passDays := ⟨by decide +kernel, rfl, rfl⟩
theorem cw_X11_passDays : gcw m_X11_passDays ∈ wA := w_1143
abbrev m_X11_day : gMd := (yX11_day, cX11_day, RX11, 1, (some .int), [], false)
theorem ok_X11_day : gOk m_X11_day := ⟨by decide +kernel, rfl, rfl⟩
theorem cw_X11_day : gcw m_X11_day ∈ wA := w_470
abbrev m_X11_cash : gMd := (yX11_cash, cX11_cash, RX11, 1, (some .int), [], false)
theorem ok_X11_cash : gOk m_X11_cash := ⟨by decide +kernel, rfl, rfl⟩
theorem cw_X11_cash : gcw m_X11_cash ∈ wA := w_474
abbrev m_X11_policyCount : gMd := (yX11_policyCount, cX11_policyCount, RX11, 1, (some .int), [], false)
theorem ok_X11_policyCount : gOk m_X11_policyCount := ⟨by decide +kernel, rfl, rfl⟩
theorem cw_X11_policyCount : gcw m_X11_policyCount ∈ wA := w_478
abbrev m_X11_policyAt : gMd := (yX11_policyAt, cX11_policyAt, RX11, 2, (some .int), [], false)
theorem ok_X11_policyAt : gOk m_X11_policyAt := ⟨by decide +kernel, rfl, rfl⟩
theorem cw_X11_policyAt : gcw m_X11_policyAt ∈ wA := w_1154
abbrev m_X11_sumOf : gMd := (yX11_sumOf, cX11_sumOf, RX11, 2, (some .int), [], false)
theorem ok_X11_sumOf : gOk m_X11_sumOf := ⟨by decide +kernel, rfl, rfl⟩
theorem cw_X11_sumOf : gcw m_X11_sumOf ∈ wA := w_1162
abbrev m_X11_sumLeft : gMd := (yX11_sumLeft, cX11_sumLeft, RX11, 2, (some .int), [], false)
theorem ok_X11_sumLeft : gOk m_X11_sumLeft := ⟨by decide +kernel, rfl, rfl⟩
theorem cw_X11_sumLeft : gcw m_X11_sumLeft ∈ wA := w_1170
abbrev m_X11_riskOf : gMd := (yX11_riskOf, cX11_riskOf, RX11, 2, (some .int), [], false)
theorem ok_X11_riskOf : gOk m_X11_riskOf := ⟨by decide +kernel, rfl, rfl⟩
theorem cw_X11_riskOf : gcw m_X11_riskOf ∈ wA := w_1178
abbrev m_X11_premiumOf : gMd := (yX11_premiumOf, cX11_premiumOf, RX11, 2, (some .int), [], false)
theorem ok_X11_premiumOf : gOk m_X11_premiumOf := ⟨by decide +kernel, rfl, rfl⟩
theorem cw_X11_premiumOf : gcw m_X11_premiumOf ∈ wA := w_1185
abbrev m_X11_endOf : gMd := (yX11_endOf, cX11_endOf, RX11, 2, (some .int), [], false)
theorem ok_X11_endOf : gOk m_X11_endOf := ⟨by decide +kernel, rfl, rfl⟩
theorem cw_X11_endOf : gcw m_X11_endOf ∈ wA := w_1192
abbrev m_X11_isActive : gMd := (yX11_isActive, cX11_isActive, RX11, 2, (some .boolean), [], false)
theorem ok_X11_isActive : gOk m_X11_isActive := ⟨by decide +kernel, rfl, rfl⟩
theorem cw_X11_isActive : gcw m_X11_isActive ∈ wA := w_1199
abbrev m_X11_claimCount : gMd := (yX11_claimCount, cX11_claimCount, RX11, 1, (some .int), [], false)
theorem ok_X11_claimCount : gOk m_X11_claimCount := ⟨by decide +kernel, rfl, rfl⟩
theorem cw_X11_claimCount : gcw m_X11_claimCount ∈ wA := w_482
abbrev m_X11_claimAt : gMd := (yX11_claimAt, cX11_claimAt, RX11, 2, (some .int), [], false)
theorem ok_X11_claimAt : gOk m_X11_claimAt := ⟨by decide +kernel, rfl, rfl⟩
theorem cw_X11_claimAt : gcw m_X11_claimAt ∈ wA := w_1207
abbrev m_X11_policyOf : gMd := (yX11_policyOf, cX11_policyOf, RX11, 2, (some .int), [], false)
theorem ok_X11_policyOf : gOk m_X11_policyOf := ⟨by decide +kernel, rfl, rfl⟩
theorem cw_X11_policyOf : gcw m_X11_policyOf ∈ wA := w_1214
abbrev m_X11_causeOf : gMd := (yX11_causeOf, cX11_causeOf, RX11, 2, (some .char), [], false)
theorem ok_X11_causeOf : gOk m_X11_causeOf := ⟨by decide +kernel, rfl, rfl⟩
theorem cw_X11_causeOf : gcw m_X11_causeOf ∈ wA := w_1222
abbrev m_X11_amountOf : gMd := (yX11_amountOf, cX11_amountOf, RX11, 2, (some .int), [], false)
theorem ok_X11_amountOf : gOk m_X11_amountOf := ⟨by decide +kernel, rfl, rfl⟩
theorem cw_X11_amountOf : gcw m_X11_amountOf ∈ wA := w_1229
abbrev m_X11_paidOf : gMd := (yX11_paidOf, cX11_paidOf, RX11, 2, (some .int), [], false)
theorem ok_X11_paidOf : gOk m_X11_paidOf := ⟨by decide +kernel, rfl, rfl⟩
theorem cw_X11_paidOf : gcw m_X11_paidOf ∈ wA := w_1236
abbrev m_X11_borneBy : gMd := (yX11_borneBy, cX11_borneBy, RX11, 4, (some .int), [], false)
theorem ok_X11_borneBy : gOk m_X11_borneBy := ⟨by decide +kernel, rfl, rfl⟩
theorem cw_X11_borneBy : gcw m_X11_borneBy ∈ wA := w_1243
abbrev m_X11_ownPart : gMd := (yX11_ownPart, cX11_ownPart, RX11, 2, (some .int), [], false)
theorem ok_X11_ownPart : gOk m_X11_ownPart := ⟨by decide +kernel, rfl, rfl⟩
theorem cw_X11_ownPart : gcw m_X11_ownPart ∈ wA := w_1250
abbrev m_X11_recovered : gMd := (yX11_recovered, cX11_recovered, RX11, 2, (some .int), [], false)
theorem ok_X11_recovered : gOk m_X11_recovered := ⟨by decide +kernel, rfl, rfl⟩
theorem cw_X11_recovered : gcw m_X11_recovered ∈ wA := w_1261
abbrev m_X11_treatyCount : gMd := (yX11_treatyCount, cX11_treatyCount, RX11, 1, (some .int), [], false)
theorem ok_X11_treatyCount : gOk m_X11_treatyCount := ⟨by decide +kernel, rfl, rfl⟩
theorem cw_X11_treatyCount : gcw m_X11_treatyCount ∈ wA := w_486
abbrev m_X11_startOf : gMd := (yX11_startOf, cX11_startOf, RX11, 2, (some .int), [], false)
theorem ok_X11_startOf : gOk m_X11_startOf := ⟨by decide +kernel, rfl, rfl⟩
theorem cw_X11_startOf : gcw m_X11_startOf ∈ wA := w_1269
abbrev m_X11_capacityOf : gMd := (yX11_capacityOf, cX11_capacityOf, RX11, 2, (some .int), [], false)
theorem ok_X11_capacityOf : gOk m_X11_capacityOf := ⟨by decide +kernel, rfl, rfl⟩
theorem cw_X11_capacityOf : gcw m_X11_capacityOf ∈ wA := w_1276
abbrev m_X11_borne : gMd := (yX11_borne, cX11_borne, RX11, 2, (some .int), [], false)
theorem ok_X11_borne : gOk m_X11_borne := ⟨by decide +kernel, rfl, rfl⟩
theorem cw_X11_borne : gcw m_X11_borne ∈ wA := w_1283
abbrev m_X11_borneByCoins : gMd := (yX11_borneByCoins, cX11_borneByCoins, RX11, 2, (some .int), [], false)
theorem ok_X11_borneByCoins : gOk m_X11_borneByCoins := ⟨by decide +kernel, rfl, rfl⟩
theorem cw_X11_borneByCoins : gcw m_X11_borneByCoins ∈ wA := w_1292
abbrev m_X11_outcomes : gMd := (yX11_outcomes, cX11_outcomes, RX11, 1, (some .long), [], false)
theorem ok_X11_outcomes : gOk m_X11_outcomes := ⟨by decide +kernel, rfl, rfl⟩
theorem cw_X11_outcomes : gcw m_X11_outcomes ∈ wA := w_490
abbrev m_X11_outcomesWithin : gMd := (yX11_outcomesWithin, cX11_outcomesWithin, RX11, 2, (some .long), [], false)
theorem ok_X11_outcomesWithin : gOk m_X11_outcomesWithin := ⟨by decide +kernel, rfl, rfl⟩
theorem cw_X11_outcomesWithin : gcw m_X11_outcomesWithin ∈ wA := w_1300
abbrev m_X11_outcomesWithinBySets : gMd := (yX11_outcomesWithinBySets, cX11_outcomesWithinBySets, RX11, 2, (some .long), [], false)
theorem ok_X11_outcomesWithinBySets : gOk m_X11_outcomesWithinBySets := ⟨by decide +kernel, rfl, rfl⟩
theorem cw_X11_outcomesWithinBySets : gcw m_X11_outcomesWithinBySets ∈ wA := w_1309
abbrev m_X11_greatestLoss : gMd := (yX11_greatestLoss, cX11_greatestLoss, RX11, 1, (some .int), [], false)
theorem ok_X11_greatestLoss : gOk m_X11_greatestLoss := ⟨by decide +kernel, rfl, rfl⟩
theorem cw_X11_greatestLoss : gcw m_X11_greatestLoss ∈ wA := w_503
abbrev m_X11_paidIn : gMd := (yX11_paidIn, cX11_paidIn, RX11, 4, (some .int), [], false)
theorem ok_X11_paidIn : gOk m_X11_paidIn := ⟨by decide +kernel, rfl, rfl⟩
theorem cw_X11_paidIn : gcw m_X11_paidIn ∈ wA := w_1317
abbrev m_X11_lastPeriod : gMd := (yX11_lastPeriod, cX11_lastPeriod, RX11, 1, (some .int), [], false)
theorem ok_X11_lastPeriod : gOk m_X11_lastPeriod := ⟨by decide +kernel, rfl, rfl⟩
theorem cw_X11_lastPeriod : gcw m_X11_lastPeriod ∈ wA := w_511
abbrev m_X11_projected : gMd := (yX11_projected, cX11_projected, RX11, 3, (some .int), [], false)
theorem ok_X11_projected : gOk m_X11_projected := ⟨by decide +kernel, rfl, rfl⟩
theorem cw_X11_projected : gcw m_X11_projected ∈ wA := w_1324
abbrev m_X11_projectedByRecursion : gMd := (yX11_projectedByRecursion, cX11_projectedByRecursion, RX11, 3, (some .int), [], false)
theorem ok_X11_projectedByRecursion : gOk m_X11_projectedByRecursion := ⟨by decide +kernel, rfl, rfl⟩
theorem cw_X11_projectedByRecursion : gcw m_X11_projectedByRecursion ∈ wA := w_1332
abbrev m_X11_reserve : gMd := (yX11_reserve, cX11_reserve, RX11, 1, (some .int), [], false)
theorem ok_X11_reserve : gOk m_X11_reserve := ⟨by decide +kernel, rfl, rfl⟩
theorem cw_X11_reserve : gcw m_X11_reserve ∈ wA := w_522
abbrev m_X11_offerCount : gMd := (yX11_offerCount, cX11_offerCount, RX11, 1, (some .int), [], false)
theorem ok_X11_offerCount : gOk m_X11_offerCount := ⟨by decide +kernel, rfl, rfl⟩
theorem cw_X11_offerCount : gcw m_X11_offerCount ∈ wA := w_547
abbrev m_X11_cheapestCover : gMd := (yX11_cheapestCover, cX11_cheapestCover, RX11, 4, (some .int), [], false)
theorem ok_X11_cheapestCover : gOk m_X11_cheapestCover := ⟨by decide +kernel, rfl, rfl⟩
theorem cw_X11_cheapestCover : gcw m_X11_cheapestCover ∈ wA := w_1340
abbrev m_X11_cheapestCoverBySets : gMd := (yX11_cheapestCoverBySets, cX11_cheapestCoverBySets, RX11, 4, (some .int), [], false)
theorem ok_X11_cheapestCoverBySets : gOk m_X11_cheapestCoverBySets := ⟨by decide +kernel, rfl, rfl⟩
theorem cw_X11_cheapestCoverBySets : gcw m_X11_cheapestCoverBySets ∈ wA := w_1354
abbrev m_X11_policyByLoad : gMd := (yX11_policyByLoad, cX11_policyByLoad, RX11, 2, (some .int), [], false)
theorem ok_X11_policyByLoad : gOk m_X11_policyByLoad := ⟨by decide +kernel, rfl, rfl⟩
theorem cw_X11_policyByLoad : gcw m_X11_policyByLoad ∈ wA := w_1362
abbrev m_X11_claimByUnpaid : gMd := (yX11_claimByUnpaid, cX11_claimByUnpaid, RX11, 2, (some .int), [], false)
theorem ok_X11_claimByUnpaid : gOk m_X11_claimByUnpaid := ⟨by decide +kernel, rfl, rfl⟩
theorem cw_X11_claimByUnpaid : gcw m_X11_claimByUnpaid ∈ wA := w_1390
abbrev m_X11_meanSum : gMd := (yX11_meanSum, cX11_meanSum, RX11, 1, (some .double), [], false)
theorem ok_X11_meanSum : gOk m_X11_meanSum := ⟨by decide +kernel, rfl, rfl⟩
theorem cw_X11_meanSum : gcw m_X11_meanSum ∈ wA := w_1414
abbrev m_X11_paidShare : gMd := (yX11_paidShare, cX11_paidShare, RX11, 2, (some .float), [], false)
theorem ok_X11_paidShare : gOk m_X11_paidShare := ⟨by decide +kernel, rfl, rfl⟩
theorem cw_X11_paidShare : gcw m_X11_paidShare ∈ wA := w_1425
abbrev m_X11_isConsistent : gMd := (yX11_isConsistent, cX11_isConsistent, RX11, 1, (some .boolean), [], false)
theorem ok_X11_isConsistent : gOk m_X11_isConsistent := ⟨by decide +kernel, rfl, rfl⟩
theorem cw_X11_isConsistent : gcw m_X11_isConsistent ∈ wA := w_551
abbrev m_X11_writePolicy : gMd := (yX11_writePolicy, cX11_writePolicy, RX11, 3, (some .int), [], false)
theorem ok_X11_writePolicy : gOk m_X11_writePolicy := ⟨by decide +kernel, rfl, rfl⟩
theorem cw_X11_writePolicy : gcw m_X11_writePolicy ∈ wA := w_1433
abbrev m_X11_writeClaim : gMd := (yX11_writeClaim, cX11_writeClaim, RX11, 3, (some .int), [], false)
theorem ok_X11_writeClaim : gOk m_X11_writeClaim := ⟨by decide +kernel, rfl, rfl⟩
theorem cw_X11_writeClaim : gcw m_X11_writeClaim ∈ wA := w_1715
abbrev m_X11_outputAt : gMd := (yX11_outputAt, cX11_outputAt, RX11, 2, (some .char), [], false)
theorem ok_X11_outputAt : gOk m_X11_outputAt := ⟨by decide +kernel, rfl, rfl⟩
theorem cw_X11_outputAt : gcw m_X11_outputAt ∈ wA := w_1722
abbrev m_X11_type : gMd := (yX11_type, cX11_type, RX11, 2, (some .int), [], false)
theorem ok_X11_type : gOk m_X11_type := ⟨by decide +kernel, rfl, rfl⟩
theorem cw_X11_type : gcw m_X11_type ∈ wA := w_1739
abbrev m_X11_runScript : gMd := (yX11_runScript, cX11_runScript, RX11, 3, (some .int), [], false)
theorem ok_X11_runScript : gOk m_X11_runScript := ⟨by decide +kernel, rfl, rfl⟩
theorem cw_X11_runScript : gcw m_X11_runScript ∈ wA := w_1755
abbrev m_X11_errorPosition : gMd := (yX11_errorPosition, cX11_errorPosition, RX11, 1, (some .int), [], false)
theorem ok_X11_errorPosition : gOk m_X11_errorPosition := ⟨by decide +kernel, rfl, rfl⟩
theorem cw_X11_errorPosition : gcw m_X11_errorPosition ∈ wA := w_1860
abbrev m_X11_failedCommand : gMd := (yX11_failedCommand, cX11_failedCommand, RX11, 1, (some .int), [], false)
theorem ok_X11_failedCommand : gOk m_X11_failedCommand := ⟨by decide +kernel, rfl, rfl⟩
theorem cw_X11_failedCommand : gcw m_X11_failedCommand ∈ wA := w_1871
abbrev m_X11_undo : gMd := (yX11_undo, cX11_undo, RX11, 1, (some .int), [], false)
theorem ok_X11_undo : gOk m_X11_undo := ⟨by decide +kernel, rfl, rfl⟩
theorem cw_X11_undo : gcw m_X11_undo ∈ wA := w_1878
abbrev m_X11_save : gMd := (yX11_save, cX11_save, RX11, 1, (some .int), [], false)
theorem ok_X11_save : gOk m_X11_save := ⟨by decide +kernel, rfl, rfl⟩
theorem cw_X11_save : gcw m_X11_save ∈ wA := w_680
abbrev m_X11_restore : gMd := (yX11_restore, cX11_restore, RX11, 1, (some .int), [], false)
theorem ok_X11_restore : gOk m_X11_restore := ⟨by decide +kernel, rfl, rfl⟩
theorem cw_X11_restore : gcw m_X11_restore ∈ wA := w_1893
abbrev m_X11_changed : gMd := (yX11_changed, cX11_changed, RX11, 2, (some .int), [], false)
theorem ok_X11_changed : gOk m_X11_changed := ⟨by decide +kernel, rfl, rfl⟩
theorem cw_X11_changed : gcw m_X11_changed ∈ wA := w_852
abbrev m_X11_coverPrice : gMd := (yX11_coverPrice, cX11_coverPrice, RX11, 1, (some .int), [], false)
theorem ok_X11_coverPrice : gOk m_X11_coverPrice := ⟨by decide +kernel, rfl, rfl⟩
theorem cw_X11_coverPrice : gcw m_X11_coverPrice ∈ wA := w_1344
abbrev m_X11_known : gMd := (yX11_known, cX11_known, RX11, 1, (some .int), [], false)
theorem ok_X11_known : gOk m_X11_known := ⟨by decide +kernel, rfl, rfl⟩
theorem cw_X11_known : gcw m_X11_known ∈ wA := w_1863
abbrev m_X11_checkedNumber : gMd := (yX11_checkedNumber, cX11_checkedNumber, RX11, 3, (some .int), [], false)
theorem ok_X11_checkedNumber : gOk m_X11_checkedNumber := ⟨by decide +kernel, rfl, rfl⟩
theorem cw_X11_checkedNumber : gcw m_X11_checkedNumber ∈ wA := w_750
abbrev m_X11_checkedIndex : gMd := (yX11_checkedIndex, cX11_checkedIndex, RX11, 2, (some .int), [], false)
theorem ok_X11_checkedIndex : gOk m_X11_checkedIndex := ⟨by decide +kernel, rfl, rfl⟩
theorem cw_X11_checkedIndex : gcw m_X11_checkedIndex ∈ wA := w_971
abbrev m_X11_find : gMd := (yX11_find, cX11_find, RX11, 4, (some .int), [], false)
theorem ok_X11_find : gOk m_X11_find := ⟨by decide +kernel, rfl, rfl⟩
theorem cw_X11_find : gcw m_X11_find ∈ wA := w_877
abbrev m_X11_freePlace : gMd := (yX11_freePlace, cX11_freePlace, RX11, 2, (some .int), [], false)
theorem ok_X11_freePlace : gOk m_X11_freePlace := ⟨by decide +kernel, rfl, rfl⟩
theorem cw_X11_freePlace : gcw m_X11_freePlace ∈ wA := w_831
abbrev m_X11_copyRow : gMd := (yX11_copyRow, cX11_copyRow, RX11, 2, none, [], false)
theorem ok_X11_copyRow : gOk m_X11_copyRow := ⟨by decide +kernel, rfl, rfl⟩
theorem cw_X11_copyRow : gcw m_X11_copyRow ∈ wA := w_574
abbrev m_X11_closeGap : gMd := (yX11_closeGap, cX11_closeGap, RX11, 3, none, [], false)
theorem ok_X11_closeGap : gOk m_X11_closeGap := ⟨by decide +kernel, rfl, rfl⟩
theorem cw_X11_closeGap : gcw m_X11_closeGap ∈ wA := w_914
abbrev m_X11_sumOfRow : gMd := (yX11_sumOfRow, cX11_sumOfRow, RX11, 4, (some .int), [], false)
theorem ok_X11_sumOfRow : gOk m_X11_sumOfRow := ⟨by decide +kernel, rfl, rfl⟩
theorem cw_X11_sumOfRow : gcw m_X11_sumOfRow ∈ wA := w_604
abbrev m_X11_isCause : gMd := (yX11_isCause, cX11_isCause, RX11, 1, (some .boolean), [], false)
theorem ok_X11_isCause : gOk m_X11_isCause := ⟨by decide +kernel, rfl, rfl⟩
theorem cw_X11_isCause : gcw m_X11_isCause ∈ wA := w_1010
abbrev m_X12_init : gMd := (yX12_init, cX12_init, RX12, 1, none, [], false)
theorem ok_X12_init : gOk m_X12_init := ⟨by decide +kernel, rfl, rfl⟩
theorem cw_X12_init : gcw m_X12_init ∈ wA := w_1903
abbrev m_X12_thrown : gMd := (yX12_thrown, cX12_thrown, RX12, 1, (some .int), [], false)
theorem ok_X12_thrown : gOk m_X12_thrown := ⟨by decide +kernel, rfl, rfl⟩
theorem cw_X12_thrown : gcw m_X12_thrown ∈ wA := w_1972
abbrev m_X12_in : gMd := (yX12_in, cX12_in, RX12, 3, (some .boolean), [], false)
theorem ok_X12_in : gOk m_X12_in := ⟨by decide +kernel, rfl, rfl⟩
theorem cw_X12_in : gcw m_X12_in ∈ wA := w_1990
abbrev m_X12_copy : gMd := (yX12_copy, cX12_copy, RX12, 5, none, [], false)
theorem ok_X12_copy : gOk m_X12_copy := ⟨by decide +kernel, rfl, rfl⟩
theorem cw_X12_copy : gcw m_X12_copy ∈ wA := w_1983
abbrev m_X12_fail : gMd := (yX12_fail, cX12_fail, RX12, 2, (some .int), [], false)
theorem ok_X12_fail : gOk m_X12_fail := ⟨by decide +kernel, rfl, rfl⟩
theorem cw_X12_fail : gcw m_X12_fail ∈ wA := w_1994
abbrev m_X12_begin : gMd := (yX12_begin, cX12_begin, RX12, 1, none, [], false)
theorem ok_X12_begin : gOk m_X12_begin := ⟨by decide +kernel, rfl, rfl⟩
theorem cw_X12_begin : gcw m_X12_begin ∈ wA := w_1980
abbrev m_X12_commit : gMd := (yX12_commit, cX12_commit, RX12, 3, (some .int), [], false)
theorem ok_X12_commit : gOk m_X12_commit := ⟨by decide +kernel, rfl, rfl⟩
theorem cw_X12_commit : gcw m_X12_commit ∈ wA := w_2002
abbrev m_X12_p : gMd := (yX12_p, cX12_p, RX12, 3, (some .int), [], false)
theorem ok_X12_p : gOk m_X12_p := ⟨by decide +kernel, rfl, rfl⟩
theorem cw_X12_p : gcw m_X12_p ∈ wA := w_2018
abbrev m_X12_policy : gMd := (yX12_policy, cX12_policy, RX12, 3, (some .int), [], false)
theorem ok_X12_policy : gOk m_X12_policy := ⟨by decide +kernel, rfl, rfl⟩
theorem cw_X12_policy : gcw m_X12_policy ∈ wA := w_2014
abbrev m_X12_isActiveAt : gMd := (yX12_isActiveAt, cX12_isActiveAt, RX12, 2, (some .boolean), [], false)
theorem ok_X12_isActiveAt : gOk m_X12_isActiveAt := ⟨by decide +kernel, rfl, rfl⟩
theorem cw_X12_isActiveAt : gcw m_X12_isActiveAt ∈ wA := w_2034
abbrev m_X12_cannotInsure : gMd := (yX12_cannotInsure, cX12_cannotInsure, RX12, 4, (some .int), [], false)
theorem ok_X12_cannotInsure : gOk m_X12_cannotInsure := ⟨by decide +kernel, rfl, rfl⟩
theorem cw_X12_cannotInsure : gcw m_X12_cannotInsure ∈ wA := w_1987
abbrev m_X12_insures : gMd := (yX12_insures, cX12_insures, RX12, 6, (some .int), [], false)
theorem ok_X12_insures : gOk m_X12_insures := ⟨by decide +kernel, rfl, rfl⟩
theorem cw_X12_insures : gcw m_X12_insures ∈ wA := w_1998
abbrev m_X12_insure : gMd := (yX12_insure, cX12_insure, RX12, 5, (some .int), [], false)
theorem ok_X12_insure : gOk m_X12_insure := ⟨by decide +kernel, rfl, rfl⟩
theorem cw_X12_insure : gcw m_X12_insure ∈ wA := w_1976
abbrev m_X12_hasClaim : gMd := (yX12_hasClaim, cX12_hasClaim, RX12, 3, (some .boolean), [], false)
theorem ok_X12_hasClaim : gOk m_X12_hasClaim := ⟨by decide +kernel, rfl, rfl⟩
theorem cw_X12_hasClaim : gcw m_X12_hasClaim ∈ wA := w_2022
abbrev m_X12_cannotEnd : gMd := (yX12_cannotEnd, cX12_cannotEnd, RX12, 2, (some .int), [], false)
theorem ok_X12_cannotEnd : gOk m_X12_cannotEnd := ⟨by decide +kernel, rfl, rfl⟩
theorem cw_X12_cannotEnd : gcw m_X12_cannotEnd ∈ wA := w_2010
abbrev m_X12_removeRow : gMd := (yX12_removeRow, cX12_removeRow, RX12, 6, none, [], false)
theorem ok_X12_removeRow : gOk m_X12_removeRow := ⟨by decide +kernel, rfl, rfl⟩
theorem cw_X12_removeRow : gcw m_X12_removeRow ∈ wA := w_2038
abbrev m_X12_ends : gMd := (yX12_ends, cX12_ends, RX12, 4, (some .int), [], false)
theorem ok_X12_ends : gOk m_X12_ends := ⟨by decide +kernel, rfl, rfl⟩
theorem cw_X12_ends : gcw m_X12_ends ∈ wA := w_2030
abbrev m_X12_endPolicy : gMd := (yX12_endPolicy, cX12_endPolicy, RX12, 3, (some .int), [], false)
theorem ok_X12_endPolicy : gOk m_X12_endPolicy := ⟨by decide +kernel, rfl, rfl⟩
theorem cw_X12_endPolicy : gcw m_X12_endPolicy ∈ wA := w_2006
abbrev m_X12_t : gMd := (yX12_t, cX12_t, RX12, 3, (some .int), [], false)
theorem ok_X12_t : gOk m_X12_t := ⟨by decide +kernel, rfl, rfl⟩
theorem cw_X12_t : gcw m_X12_t ∈ wA := w_2070
abbrev m_X12_isTreaty : gMd := (yX12_isTreaty, cX12_isTreaty, RX12, 2, (some .boolean), [], false)
theorem ok_X12_isTreaty : gOk m_X12_isTreaty := ⟨by decide +kernel, rfl, rfl⟩
theorem cw_X12_isTreaty : gcw m_X12_isTreaty ∈ wA := w_2062
abbrev m_X12_cannotTreat : gMd := (yX12_cannotTreat, cX12_cannotTreat, RX12, 5, (some .int), [], false)
theorem ok_X12_cannotTreat : gOk m_X12_cannotTreat := ⟨by decide +kernel, rfl, rfl⟩
theorem cw_X12_cannotTreat : gcw m_X12_cannotTreat ∈ wA := w_2046
abbrev m_X12_treats : gMd := (yX12_treats, cX12_treats, RX12, 6, (some .int), [], false)
theorem ok_X12_treats : gOk m_X12_treats := ⟨by decide +kernel, rfl, rfl⟩
theorem cw_X12_treats : gcw m_X12_treats ∈ wA := w_2050
abbrev m_X12_addTreaty : gMd := (yX12_addTreaty, cX12_addTreaty, RX12, 6, (some .int), [], false)
theorem ok_X12_addTreaty : gOk m_X12_addTreaty := ⟨by decide +kernel, rfl, rfl⟩
theorem cw_X12_addTreaty : gcw m_X12_addTreaty ∈ wA := w_2042
abbrev m_X12_cannotVoid : gMd := (yX12_cannotVoid, cX12_cannotVoid, RX12, 3, (some .int), [], false)
theorem ok_X12_cannotVoid : gOk m_X12_cannotVoid := ⟨by decide +kernel, rfl, rfl⟩
theorem cw_X12_cannotVoid : gcw m_X12_cannotVoid ∈ wA := w_2058
abbrev m_X12_voids : gMd := (yX12_voids, cX12_voids, RX12, 6, (some .int), [], false)
theorem ok_X12_voids : gOk m_X12_voids := ⟨by decide +kernel, rfl, rfl⟩
theorem cw_X12_voids : gcw m_X12_voids ∈ wA := w_2066
abbrev m_X12_dropTreaty : gMd := (yX12_dropTreaty, cX12_dropTreaty, RX12, 3, (some .int), [], false)
theorem ok_X12_dropTreaty : gOk m_X12_dropTreaty := ⟨by decide +kernel, rfl, rfl⟩
theorem cw_X12_dropTreaty : gcw m_X12_dropTreaty ∈ wA := w_2054
abbrev m_X12_bears : gMd := (yX12_bears, cX12_bears, RX12, 5, (some .int), [], false)
theorem ok_X12_bears : gOk m_X12_bears := ⟨by decide +kernel, rfl, rfl⟩
theorem cw_X12_bears : gcw m_X12_bears ∈ wA := w_2096
abbrev m_X12_c : gMd := (yX12_c, cX12_c, RX12, 3, (some .int), [], false)
theorem ok_X12_c : gOk m_X12_c := ⟨by decide +kernel, rfl, rfl⟩
theorem cw_X12_c : gcw m_X12_c ∈ wA := w_2026
abbrev m_X12_claim : gMd := (yX12_claim, cX12_claim, RX12, 3, (some .int), [], false)
theorem ok_X12_claim : gOk m_X12_claim := ⟨by decide +kernel, rfl, rfl⟩
theorem cw_X12_claim : gcw m_X12_claim ∈ wA := w_2108
abbrev m_X12_borneOf : gMd := (yX12_borneOf, cX12_borneOf, RX12, 4, (some .int), [], false)
theorem ok_X12_borneOf : gOk m_X12_borneOf := ⟨by decide +kernel, rfl, rfl⟩
theorem cw_X12_borneOf : gcw m_X12_borneOf ∈ wA := w_2120
abbrev m_X12_recoveredOf : gMd := (yX12_recoveredOf, cX12_recoveredOf, RX12, 2, (some .int), [], false)
theorem ok_X12_recoveredOf : gOk m_X12_recoveredOf := ⟨by decide +kernel, rfl, rfl⟩
theorem cw_X12_recoveredOf : gcw m_X12_recoveredOf ∈ wA := w_2116
abbrev m_X12_isCause : gMd := (yX12_isCause, cX12_isCause, RX12, 1, (some .boolean), [], false)
theorem ok_X12_isCause : gOk m_X12_isCause := ⟨by decide +kernel, rfl, rfl⟩
theorem cw_X12_isCause : gcw m_X12_isCause ∈ wA := w_2081
abbrev m_X12_deductible : gMd := (yX12_deductible, cX12_deductible, RX12, 2, (some .int), [], false)
theorem ok_X12_deductible : gOk m_X12_deductible := ⟨by decide +kernel, rfl, rfl⟩
theorem cw_X12_deductible : gcw m_X12_deductible ∈ wA := w_2088
abbrev m_X12_amountFor : gMd := (yX12_amountFor, cX12_amountFor, RX12, 6, (some .int), [], false)
theorem ok_X12_amountFor : gOk m_X12_amountFor := ⟨by decide +kernel, rfl, rfl⟩
theorem cw_X12_amountFor : gcw m_X12_amountFor ∈ wA := w_2085
abbrev m_X12_cannotClaim : gMd := (yX12_cannotClaim, cX12_cannotClaim, RX12, 5, (some .int), [], false)
theorem ok_X12_cannotClaim : gOk m_X12_cannotClaim := ⟨by decide +kernel, rfl, rfl⟩
theorem cw_X12_cannotClaim : gcw m_X12_cannotClaim ∈ wA := w_2078
abbrev m_X12_claims : gMd := (yX12_claims, cX12_claims, RX12, 9, (some .int), [], false)
theorem ok_X12_claims : gOk m_X12_claims := ⟨by decide +kernel, rfl, rfl⟩
theorem cw_X12_claims : gcw m_X12_claims ∈ wA := w_2092
abbrev m_X12_claim_ : gMd := (yX12_claim_, cX12_claim_, RX12, 5, (some .int), [], false)
theorem ok_X12_claim_ : gOk m_X12_claim_ := ⟨by decide +kernel, rfl, rfl⟩
theorem cw_X12_claim_ : gcw m_X12_claim_ ∈ wA := w_2074
abbrev m_X12_cannotPay : gMd := (yX12_cannotPay, cX12_cannotPay, RX12, 4, (some .int), [], false)
theorem ok_X12_cannotPay : gOk m_X12_cannotPay := ⟨by decide +kernel, rfl, rfl⟩
theorem cw_X12_cannotPay : gcw m_X12_cannotPay ∈ wA := w_2104
abbrev m_X12_pays : gMd := (yX12_pays, cX12_pays, RX12, 7, (some .int), [], false)
theorem ok_X12_pays : gOk m_X12_pays := ⟨by decide +kernel, rfl, rfl⟩
theorem cw_X12_pays : gcw m_X12_pays ∈ wA := w_2112
abbrev m_X12_pay : gMd := (yX12_pay, cX12_pay, RX12, 4, (some .int), [], false)
theorem ok_X12_pay : gOk m_X12_pay := ⟨by decide +kernel, rfl, rfl⟩
theorem cw_X12_pay : gcw m_X12_pay ∈ wA := w_2100
abbrev m_X12_removesClaim : gMd := (yX12_removesClaim, cX12_removesClaim, RX12, 3, (some .int), [], false)
theorem ok_X12_removesClaim : gOk m_X12_removesClaim := ⟨by decide +kernel, rfl, rfl⟩
theorem cw_X12_removesClaim : gcw m_X12_removesClaim ∈ wA := w_2132
abbrev m_X12_cannotClose : gMd := (yX12_cannotClose, cX12_cannotClose, RX12, 2, (some .int), [], false)
theorem ok_X12_cannotClose : gOk m_X12_cannotClose := ⟨by decide +kernel, rfl, rfl⟩
theorem cw_X12_cannotClose : gcw m_X12_cannotClose ∈ wA := w_2128
abbrev m_X12_closeClaim : gMd := (yX12_closeClaim, cX12_closeClaim, RX12, 3, (some .int), [], false)
theorem ok_X12_closeClaim : gOk m_X12_closeClaim := ⟨by decide +kernel, rfl, rfl⟩
theorem cw_X12_closeClaim : gcw m_X12_closeClaim ∈ wA := w_2124
abbrev m_X12_cannotWaive : gMd := (yX12_cannotWaive, cX12_cannotWaive, RX12, 2, (some .int), [], false)
theorem ok_X12_cannotWaive : gOk m_X12_cannotWaive := ⟨by decide +kernel, rfl, rfl⟩
theorem cw_X12_cannotWaive : gcw m_X12_cannotWaive ∈ wA := w_2140
abbrev m_X12_waives : gMd := (yX12_waives, cX12_waives, RX12, 4, (some .int), [], false)
theorem ok_X12_waives : gOk m_X12_waives := ⟨by decide +kernel, rfl, rfl⟩
theorem cw_X12_waives : gcw m_X12_waives ∈ wA := w_2144
abbrev m_X12_withdrawClaim : gMd := (yX12_withdrawClaim, cX12_withdrawClaim, RX12, 3, (some .int), [], false)
theorem ok_X12_withdrawClaim : gOk m_X12_withdrawClaim := ⟨by decide +kernel, rfl, rfl⟩
theorem cw_X12_withdrawClaim : gcw m_X12_withdrawClaim ∈ wA := w_2136
abbrev m_X12_o : gMd := (yX12_o, cX12_o, RX12, 3, (some .int), [], false)
theorem ok_X12_o : gOk m_X12_o := ⟨by decide +kernel, rfl, rfl⟩
theorem cw_X12_o : gcw m_X12_o ∈ wA := w_2171
abbrev m_X12_areDays : gMd := (yX12_areDays, cX12_areDays, RX12, 2, (some .boolean), [], false)
theorem ok_X12_areDays : gOk m_X12_areDays := ⟨by decide +kernel, rfl, rfl⟩
theorem cw_X12_areDays : gcw m_X12_areDays ∈ wA := w_2155
abbrev m_X12_cannotOffer : gMd := (yX12_cannotOffer, cX12_cannotOffer, RX12, 4, (some .int), [], false)
theorem ok_X12_cannotOffer : gOk m_X12_cannotOffer := ⟨by decide +kernel, rfl, rfl⟩
theorem cw_X12_cannotOffer : gcw m_X12_cannotOffer ∈ wA := w_2152
abbrev m_X12_offers : gMd := (yX12_offers, cX12_offers, RX12, 5, (some .int), [], false)
theorem ok_X12_offers : gOk m_X12_offers := ⟨by decide +kernel, rfl, rfl⟩
theorem cw_X12_offers : gcw m_X12_offers ∈ wA := w_2159
abbrev m_X12_addOffer : gMd := (yX12_addOffer, cX12_addOffer, RX12, 5, (some .int), [], false)
theorem ok_X12_addOffer : gOk m_X12_addOffer := ⟨by decide +kernel, rfl, rfl⟩
theorem cw_X12_addOffer : gcw m_X12_addOffer ∈ wA := w_2148
abbrev m_X12_removesOffer : gMd := (yX12_removesOffer, cX12_removesOffer, RX12, 3, (some .int), [], false)
theorem ok_X12_removesOffer : gOk m_X12_removesOffer := ⟨by decide +kernel, rfl, rfl⟩
theorem cw_X12_removesOffer : gcw m_X12_removesOffer ∈ wA := w_2167
abbrev m_X12_dropOffer : gMd := (yX12_dropOffer, cX12_dropOffer, RX12, 2, (some .int), [], false)
theorem ok_X12_dropOffer : gOk m_X12_dropOffer := ⟨by decide +kernel, rfl, rfl⟩
theorem cw_X12_dropOffer : gcw m_X12_dropOffer ∈ wA := w_2163
abbrev m_X12_passes : gMd := (yX12_passes, cX12_passes, RX12, 2, (some .int), [], false)
theorem ok_X12_passes : gOk m_X12_passes := ⟨by decide +kernel, rfl, rfl⟩
theorem cw_X12_passes : gcw m_X12_passes ∈ wA := w_2179
abbrev m_X12_passDays : gMd := (yX12_passDays, cX12_passDays, RX12, 2, (some .int), [], false)
theorem ok_X12_passDays : gOk m_X12_passDays := ⟨by decide +kernel, rfl, rfl⟩
theorem cw_X12_passDays : gcw m_X12_passDays ∈ wA := w_2175
abbrev m_X12_plain : gMd := (yX12_plain, cX12_plain, RX12, 2, (some .int), [], false)
theorem ok_X12_plain : gOk m_X12_plain := ⟨by decide +kernel, rfl, rfl⟩
theorem cw_X12_plain : gcw m_X12_plain ∈ wA := w_2187
abbrev m_X12_checked : gMd := (yX12_checked, cX12_checked, RX12, 2, (some .int), [], false)
theorem ok_X12_checked : gOk m_X12_checked := ⟨by decide +kernel, rfl, rfl⟩
theorem cw_X12_checked : gcw m_X12_checked ∈ wA := w_2203
abbrev m_X12_day : gMd := (yX12_day, cX12_day, RX12, 1, (some .int), [], false)
theorem ok_X12_day : gOk m_X12_day := ⟨by decide +kernel, rfl, rfl⟩
theorem cw_X12_day : gcw m_X12_day ∈ wA := w_2183
abbrev m_X12_cash : gMd := (yX12_cash, cX12_cash, RX12, 1, (some .int), [], false)
theorem ok_X12_cash : gOk m_X12_cash := ⟨by decide +kernel, rfl, rfl⟩
theorem cw_X12_cash : gcw m_X12_cash ∈ wA := w_2191
abbrev m_X12_policyCount : gMd := (yX12_policyCount, cX12_policyCount, RX12, 1, (some .int), [], false)
theorem ok_X12_policyCount : gOk m_X12_policyCount := ⟨by decide +kernel, rfl, rfl⟩
theorem cw_X12_policyCount : gcw m_X12_policyCount ∈ wA := w_2195
abbrev m_X12_policyAt : gMd := (yX12_policyAt, cX12_policyAt, RX12, 2, (some .int), [], false)
theorem ok_X12_policyAt : gOk m_X12_policyAt := ⟨by decide +kernel, rfl, rfl⟩
theorem cw_X12_policyAt : gcw m_X12_policyAt ∈ wA := w_2199
abbrev m_X12_ofPolicy : gMd := (yX12_ofPolicy, cX12_ofPolicy, RX12, 3, (some .int), [], false)
theorem ok_X12_ofPolicy : gOk m_X12_ofPolicy := ⟨by decide +kernel, rfl, rfl⟩
theorem cw_X12_ofPolicy : gcw m_X12_ofPolicy ∈ wA := w_2211
abbrev m_X12_sumOf : gMd := (yX12_sumOf, cX12_sumOf, RX12, 2, (some .int), [], false)
theorem ok_X12_sumOf : gOk m_X12_sumOf := ⟨by decide +kernel, rfl, rfl⟩
theorem cw_X12_sumOf : gcw m_X12_sumOf ∈ wA := w_2207
abbrev m_X12_sumLeft : gMd := (yX12_sumLeft, cX12_sumLeft, RX12, 2, (some .int), [], false)
theorem ok_X12_sumLeft : gOk m_X12_sumLeft := ⟨by decide +kernel, rfl, rfl⟩
theorem cw_X12_sumLeft : gcw m_X12_sumLeft ∈ wA := w_2215
abbrev m_X12_riskOf : gMd := (yX12_riskOf, cX12_riskOf, RX12, 2, (some .int), [], false)
theorem ok_X12_riskOf : gOk m_X12_riskOf := ⟨by decide +kernel, rfl, rfl⟩
theorem cw_X12_riskOf : gcw m_X12_riskOf ∈ wA := w_2219
abbrev m_X12_premiumOf : gMd := (yX12_premiumOf, cX12_premiumOf, RX12, 2, (some .int), [], false)
theorem ok_X12_premiumOf : gOk m_X12_premiumOf := ⟨by decide +kernel, rfl, rfl⟩
theorem cw_X12_premiumOf : gcw m_X12_premiumOf ∈ wA := w_2223
abbrev m_X12_endOf : gMd := (yX12_endOf, cX12_endOf, RX12, 2, (some .int), [], false)
theorem ok_X12_endOf : gOk m_X12_endOf := ⟨by decide +kernel, rfl, rfl⟩
theorem cw_X12_endOf : gcw m_X12_endOf ∈ wA := w_2227
abbrev m_X12_isActive : gMd := (yX12_isActive, cX12_isActive, RX12, 2, (some .boolean), [], false)
theorem ok_X12_isActive : gOk m_X12_isActive := ⟨by decide +kernel, rfl, rfl⟩
theorem cw_X12_isActive : gcw m_X12_isActive ∈ wA := w_2231
abbrev m_X12_claimCount : gMd := (yX12_claimCount, cX12_claimCount, RX12, 1, (some .int), [], false)
theorem ok_X12_claimCount : gOk m_X12_claimCount := ⟨by decide +kernel, rfl, rfl⟩
theorem cw_X12_claimCount : gcw m_X12_claimCount ∈ wA := w_2235
abbrev m_X12_claimAt : gMd := (yX12_claimAt, cX12_claimAt, RX12, 2, (some .int), [], false)
theorem ok_X12_claimAt : gOk m_X12_claimAt := ⟨by decide +kernel, rfl, rfl⟩
theorem cw_X12_claimAt : gcw m_X12_claimAt ∈ wA := w_2239
abbrev m_X12_ofClaim : gMd := (yX12_ofClaim, cX12_ofClaim, RX12, 3, (some .int), [], false)
theorem ok_X12_ofClaim : gOk m_X12_ofClaim := ⟨by decide +kernel, rfl, rfl⟩
theorem cw_X12_ofClaim : gcw m_X12_ofClaim ∈ wA := w_2247
abbrev m_X12_policyOf : gMd := (yX12_policyOf, cX12_policyOf, RX12, 2, (some .int), [], false)
theorem ok_X12_policyOf : gOk m_X12_policyOf := ⟨by decide +kernel, rfl, rfl⟩
theorem cw_X12_policyOf : gcw m_X12_policyOf ∈ wA := w_2243
abbrev m_X12_causeOf : gMd := (yX12_causeOf, cX12_causeOf, RX12, 3, (some .char), [], false)
theorem ok_X12_causeOf : gOk m_X12_causeOf := ⟨by decide +kernel, rfl, rfl⟩
theorem cw_X12_causeOf : gcw m_X12_causeOf ∈ wA := w_2251
abbrev m_X12_amountOf : gMd := (yX12_amountOf, cX12_amountOf, RX12, 2, (some .int), [], false)
theorem ok_X12_amountOf : gOk m_X12_amountOf := ⟨by decide +kernel, rfl, rfl⟩
theorem cw_X12_amountOf : gcw m_X12_amountOf ∈ wA := w_2255
abbrev m_X12_paidOf : gMd := (yX12_paidOf, cX12_paidOf, RX12, 2, (some .int), [], false)
theorem ok_X12_paidOf : gOk m_X12_paidOf := ⟨by decide +kernel, rfl, rfl⟩
theorem cw_X12_paidOf : gcw m_X12_paidOf ∈ wA := w_2259
abbrev m_X12_borneBy : gMd := (yX12_borneBy, cX12_borneBy, RX12, 3, (some .int), [], false)
theorem ok_X12_borneBy : gOk m_X12_borneBy := ⟨by decide +kernel, rfl, rfl⟩
theorem cw_X12_borneBy : gcw m_X12_borneBy ∈ wA := w_2263
abbrev m_X12_ownPart : gMd := (yX12_ownPart, cX12_ownPart, RX12, 2, (some .int), [], false)
theorem ok_X12_ownPart : gOk m_X12_ownPart := ⟨by decide +kernel, rfl, rfl⟩
theorem cw_X12_ownPart : gcw m_X12_ownPart ∈ wA := w_2267
abbrev m_X12_recovered : gMd := (yX12_recovered, cX12_recovered, RX12, 2, (some .int), [], false)
theorem ok_X12_recovered : gOk m_X12_recovered := ⟨by decide +kernel, rfl, rfl⟩
theorem cw_X12_recovered : gcw m_X12_recovered ∈ wA := w_2271
abbrev m_X12_treatyCount : gMd := (yX12_treatyCount, cX12_treatyCount, RX12, 1, (some .int), [], false)
theorem ok_X12_treatyCount : gOk m_X12_treatyCount := ⟨by decide +kernel, rfl, rfl⟩
theorem cw_X12_treatyCount : gcw m_X12_treatyCount ∈ wA := w_2275
abbrev m_X12_startOf : gMd := (yX12_startOf, cX12_startOf, RX12, 2, (some .int), [], false)
theorem ok_X12_startOf : gOk m_X12_startOf := ⟨by decide +kernel, rfl, rfl⟩
theorem cw_X12_startOf : gcw m_X12_startOf ∈ wA := w_2279
abbrev m_X12_capacityOf : gMd := (yX12_capacityOf, cX12_capacityOf, RX12, 2, (some .int), [], false)
theorem ok_X12_capacityOf : gOk m_X12_capacityOf := ⟨by decide +kernel, rfl, rfl⟩
theorem cw_X12_capacityOf : gcw m_X12_capacityOf ∈ wA := w_2283
abbrev m_X12_wouldBear : gMd := (yX12_wouldBear, cX12_wouldBear, RX12, 2, (some .int), [], false)
theorem ok_X12_wouldBear : gOk m_X12_wouldBear := ⟨by decide +kernel, rfl, rfl⟩
theorem cw_X12_wouldBear : gcw m_X12_wouldBear ∈ wA := w_2291
abbrev m_X12_borne : gMd := (yX12_borne, cX12_borne, RX12, 2, (some .int), [], false)
theorem ok_X12_borne : gOk m_X12_borne := ⟨by decide +kernel, rfl, rfl⟩
theorem cw_X12_borne : gcw m_X12_borne ∈ wA := w_2287
abbrev m_X12_borneByCoins : gMd := (yX12_borneByCoins, cX12_borneByCoins, RX12, 2, (some .int), [], false)
theorem ok_X12_borneByCoins : gOk m_X12_borneByCoins := ⟨by decide +kernel, rfl, rfl⟩
theorem cw_X12_borneByCoins : gcw m_X12_borneByCoins ∈ wA := w_2295
abbrev m_X12_outcomes : gMd := (yX12_outcomes, cX12_outcomes, RX12, 4, (some .long), [], false)
theorem ok_X12_outcomes : gOk m_X12_outcomes := ⟨by decide +kernel, rfl, rfl⟩
theorem cw_X12_outcomes : gcw m_X12_outcomes ∈ wA := w_2299
abbrev m_X12_soaking : gMd := (yX12_soaking, cX12_soaking, RX12, 6, (some .long), [], false)
theorem ok_X12_soaking : gOk m_X12_soaking := ⟨by decide +kernel, rfl, rfl⟩
theorem cw_X12_soaking : gcw m_X12_soaking ∈ wA := w_2316
abbrev m_X12_lossOf : gMd := (yX12_lossOf, cX12_lossOf, RX12, 4, (some .int), [], false)
theorem ok_X12_lossOf : gOk m_X12_lossOf := ⟨by decide +kernel, rfl, rfl⟩
theorem cw_X12_lossOf : gcw m_X12_lossOf ∈ wA := w_2312
abbrev m_X12_within : gMd := (yX12_within, cX12_within, RX12, 5, (some .long), [], false)
theorem ok_X12_within : gOk m_X12_within := ⟨by decide +kernel, rfl, rfl⟩
theorem cw_X12_within : gcw m_X12_within ∈ wA := w_2308
abbrev m_X12_outcomesWithin : gMd := (yX12_outcomesWithin, cX12_outcomesWithin, RX12, 2, (some .long), [], false)
theorem ok_X12_outcomesWithin : gOk m_X12_outcomesWithin := ⟨by decide +kernel, rfl, rfl⟩
theorem cw_X12_outcomesWithin : gcw m_X12_outcomesWithin ∈ wA := w_2304
abbrev m_X12_outcomesWithinBySets : gMd := (yX12_outcomesWithinBySets, cX12_outcomesWithinBySets, RX12, 2, (some .long), [], false)
theorem ok_X12_outcomesWithinBySets : gOk m_X12_outcomesWithinBySets := ⟨by decide +kernel, rfl, rfl⟩
theorem cw_X12_outcomesWithinBySets : gcw m_X12_outcomesWithinBySets ∈ wA := w_2320
abbrev m_X12_greatestLoss : gMd := (yX12_greatestLoss, cX12_greatestLoss, RX12, 3, (some .int), [], false)
theorem ok_X12_greatestLoss : gOk m_X12_greatestLoss := ⟨by decide +kernel, rfl, rfl⟩
theorem cw_X12_greatestLoss : gcw m_X12_greatestLoss ∈ wA := w_2324
abbrev m_X12_cell : gMd := (yX12_cell, cX12_cell, RX12, 3, (some .int), [], false)
theorem ok_X12_cell : gOk m_X12_cell := ⟨by decide +kernel, rfl, rfl⟩
theorem cw_X12_cell : gcw m_X12_cell ∈ wA := w_2332
abbrev m_X12_paidIn : gMd := (yX12_paidIn, cX12_paidIn, RX12, 3, (some .int), [], false)
theorem ok_X12_paidIn : gOk m_X12_paidIn := ⟨by decide +kernel, rfl, rfl⟩
theorem cw_X12_paidIn : gcw m_X12_paidIn ∈ wA := w_2328
abbrev m_X12_latest : gMd := (yX12_latest, cX12_latest, RX12, 1, (some .int), [], false)
theorem ok_X12_latest : gOk m_X12_latest := ⟨by decide +kernel, rfl, rfl⟩
theorem cw_X12_latest : gcw m_X12_latest ∈ wA := w_2340
abbrev m_X12_lastPeriod : gMd := (yX12_lastPeriod, cX12_lastPeriod, RX12, 1, (some .int), [], false)
theorem ok_X12_lastPeriod : gOk m_X12_lastPeriod := ⟨by decide +kernel, rfl, rfl⟩
theorem cw_X12_lastPeriod : gcw m_X12_lastPeriod ∈ wA := w_2336
abbrev m_X12_total : gMd := (yX12_total, cX12_total, RX12, 5, (some .int), [], false)
theorem ok_X12_total : gOk m_X12_total := ⟨by decide +kernel, rfl, rfl⟩
theorem cw_X12_total : gcw m_X12_total ∈ wA := w_2356
abbrev m_X12_totals : gMd := (yX12_totals, cX12_totals, RX12, 5, (some .int), [], false)
theorem ok_X12_totals : gOk m_X12_totals := ⟨by decide +kernel, rfl, rfl⟩
theorem cw_X12_totals : gcw m_X12_totals ∈ wA := w_2360
abbrev m_X12_projection : gMd := (yX12_projection, cX12_projection, RX12, 6, (some .int), [], false)
theorem ok_X12_projection : gOk m_X12_projection := ⟨by decide +kernel, rfl, rfl⟩
theorem cw_X12_projection : gcw m_X12_projection ∈ wA := w_2352
abbrev m_X12_projects : gMd := (yX12_projects, cX12_projects, RX12, 2, (some .int), [], false)
theorem ok_X12_projects : gOk m_X12_projects := ⟨by decide +kernel, rfl, rfl⟩
theorem cw_X12_projects : gcw m_X12_projects ∈ wA := w_2348
abbrev m_X12_projected : gMd := (yX12_projected, cX12_projected, RX12, 2, (some .int), [], false)
theorem ok_X12_projected : gOk m_X12_projected := ⟨by decide +kernel, rfl, rfl⟩
theorem cw_X12_projected : gcw m_X12_projected ∈ wA := w_2344
abbrev m_X12_projectedByRecursion : gMd := (yX12_projectedByRecursion, cX12_projectedByRecursion, RX12, 2, (some .int), [], false)
theorem ok_X12_projectedByRecursion : gOk m_X12_projectedByRecursion := ⟨by decide +kernel, rfl, rfl⟩
theorem cw_X12_projectedByRecursion : gcw m_X12_projectedByRecursion ∈ wA := w_2364
abbrev m_X12_reserve : gMd := (yX12_reserve, cX12_reserve, RX12, 3, (some .int), [], false)
theorem ok_X12_reserve : gOk m_X12_reserve := ⟨by decide +kernel, rfl, rfl⟩
theorem cw_X12_reserve : gcw m_X12_reserve ∈ wA := w_2368
abbrev m_X12_offerCount : gMd := (yX12_offerCount, cX12_offerCount, RX12, 1, (some .int), [], false)
theorem ok_X12_offerCount : gOk m_X12_offerCount := ⟨by decide +kernel, rfl, rfl⟩
theorem cw_X12_offerCount : gcw m_X12_offerCount ∈ wA := w_2372
abbrev m_X12_isCovered : gMd := (yX12_isCovered, cX12_isCovered, RX12, 4, (some .boolean), [], false)
theorem ok_X12_isCovered : gOk m_X12_isCovered := ⟨by decide +kernel, rfl, rfl⟩
theorem cw_X12_isCovered : gcw m_X12_isCovered ∈ wA := w_2393
abbrev m_X12_areCovered : gMd := (yX12_areCovered, cX12_areCovered, RX12, 5, (some .boolean), [], false)
theorem ok_X12_areCovered : gOk m_X12_areCovered := ⟨by decide +kernel, rfl, rfl⟩
theorem cw_X12_areCovered : gcw m_X12_areCovered ∈ wA := w_2389
abbrev m_X12_priceOf : gMd := (yX12_priceOf, cX12_priceOf, RX12, 4, (some .int), [], false)
theorem ok_X12_priceOf : gOk m_X12_priceOf := ⟨by decide +kernel, rfl, rfl⟩
theorem cw_X12_priceOf : gcw m_X12_priceOf ∈ wA := w_2385
abbrev m_X12_cover : gMd := (yX12_cover, cX12_cover, RX12, 5, (some .int), [], false)
theorem ok_X12_cover : gOk m_X12_cover := ⟨by decide +kernel, rfl, rfl⟩
theorem cw_X12_cover : gcw m_X12_cover ∈ wA := w_2380
abbrev m_X12_cheapestCover : gMd := (yX12_cheapestCover, cX12_cheapestCover, RX12, 3, (some .int), [], false)
theorem ok_X12_cheapestCover : gOk m_X12_cheapestCover := ⟨by decide +kernel, rfl, rfl⟩
theorem cw_X12_cheapestCover : gcw m_X12_cheapestCover ∈ wA := w_2376
abbrev m_X12_cheapestCoverBySets : gMd := (yX12_cheapestCoverBySets, cX12_cheapestCoverBySets, RX12, 3, (some .int), [], false)
theorem ok_X12_cheapestCoverBySets : gOk m_X12_cheapestCoverBySets := ⟨by decide +kernel, rfl, rfl⟩
theorem cw_X12_cheapestCoverBySets : gcw m_X12_cheapestCoverBySets ∈ wA := w_2397
abbrev m_X12_isPolicyAhead : gMd := (yX12_isPolicyAhead, cX12_isPolicyAhead, RX12, 5, (some .boolean), [], false)
theorem ok_X12_isPolicyAhead : gOk m_X12_isPolicyAhead := ⟨by decide +kernel, rfl, rfl⟩
theorem cw_X12_isPolicyAhead : gcw m_X12_isPolicyAhead ∈ wA := w_2409
abbrev m_X12_isClaimAhead : gMd := (yX12_isClaimAhead, cX12_isClaimAhead, RX12, 5, (some .boolean), [], false)
theorem ok_X12_isClaimAhead : gOk m_X12_isClaimAhead := ⟨by decide +kernel, rfl, rfl⟩
theorem cw_X12_isClaimAhead : gcw m_X12_isClaimAhead ∈ wA := w_2413
abbrev m_X12_ranked : gMd := (yX12_ranked, cX12_ranked, RX12, 7, (some .int), [], false)
theorem ok_X12_ranked : gOk m_X12_ranked := ⟨by decide +kernel, rfl, rfl⟩
theorem cw_X12_ranked : gcw m_X12_ranked ∈ wA := w_2405
abbrev m_X12_policyByLoad : gMd := (yX12_policyByLoad, cX12_policyByLoad, RX12, 2, (some .int), [], false)
theorem ok_X12_policyByLoad : gOk m_X12_policyByLoad := ⟨by decide +kernel, rfl, rfl⟩
theorem cw_X12_policyByLoad : gcw m_X12_policyByLoad ∈ wA := w_2401
abbrev m_X12_claimByUnpaid : gMd := (yX12_claimByUnpaid, cX12_claimByUnpaid, RX12, 2, (some .int), [], false)
theorem ok_X12_claimByUnpaid : gOk m_X12_claimByUnpaid := ⟨by decide +kernel, rfl, rfl⟩
theorem cw_X12_claimByUnpaid : gcw m_X12_claimByUnpaid ∈ wA := w_2417
abbrev m_X12_meanSum : gMd := (yX12_meanSum, cX12_meanSum, RX12, 3, (some .double), [], false)
theorem ok_X12_meanSum : gOk m_X12_meanSum := ⟨by decide +kernel, rfl, rfl⟩
theorem cw_X12_meanSum : gcw m_X12_meanSum ∈ wA := w_2421
abbrev m_X12_paidShare : gMd := (yX12_paidShare, cX12_paidShare, RX12, 4, (some .float), [], false)
theorem ok_X12_paidShare : gOk m_X12_paidShare := ⟨by decide +kernel, rfl, rfl⟩
theorem cw_X12_paidShare : gcw m_X12_paidShare ∈ wA := w_2425
abbrev m_X12_isConsistent : gMd := (yX12_isConsistent, cX12_isConsistent, RX12, 1, (some .boolean), [], false)
theorem ok_X12_isConsistent : gOk m_X12_isConsistent := ⟨by decide +kernel, rfl, rfl⟩
theorem cw_X12_isConsistent : gcw m_X12_isConsistent ∈ wA := w_2429
abbrev m_X12_write : gMd := (yX12_write, cX12_write, RX12, 2, none, [], false)
theorem ok_X12_write : gOk m_X12_write := ⟨by decide +kernel, rfl, rfl⟩
theorem cw_X12_write : gcw m_X12_write ∈ wA := w_2437
abbrev m_X12_writeNumber : gMd := (yX12_writeNumber, cX12_writeNumber, RX12, 3, none, [], false)
theorem ok_X12_writeNumber : gOk m_X12_writeNumber := ⟨by decide +kernel, rfl, rfl⟩
theorem cw_X12_writeNumber : gcw m_X12_writeNumber ∈ wA := w_2441
abbrev m_X12_writePolicy : gMd := (yX12_writePolicy, cX12_writePolicy, RX12, 3, (some .int), [], false)
theorem ok_X12_writePolicy : gOk m_X12_writePolicy := ⟨by decide +kernel, rfl, rfl⟩
theorem cw_X12_writePolicy : gcw m_X12_writePolicy ∈ wA := w_2433
abbrev m_X12_writeClaim : gMd := (yX12_writeClaim, cX12_writeClaim, RX12, 3, (some .int), [], false)
theorem ok_X12_writeClaim : gOk m_X12_writeClaim := ⟨by decide +kernel, rfl, rfl⟩
theorem cw_X12_writeClaim : gcw m_X12_writeClaim ∈ wA := w_2445
abbrev m_X12_outputAt : gMd := (yX12_outputAt, cX12_outputAt, RX12, 2, (some .char), [], false)
theorem ok_X12_outputAt : gOk m_X12_outputAt := ⟨by decide +kernel, rfl, rfl⟩
theorem cw_X12_outputAt : gcw m_X12_outputAt ∈ wA := w_2449
abbrev m_X12_type : gMd := (yX12_type, cX12_type, RX12, 2, (some .int), [], false)
theorem ok_X12_type : gOk m_X12_type := ⟨by decide +kernel, rfl, rfl⟩
theorem cw_X12_type : gcw m_X12_type ∈ wA := w_2453
abbrev m_X12_mark : gMd := (yX12_mark, cX12_mark, RX12, 1, (some .int), [], false)
theorem ok_X12_mark : gOk m_X12_mark := ⟨by decide +kernel, rfl, rfl⟩
theorem cw_X12_mark : gcw m_X12_mark ∈ wA := w_2487
abbrev m_X12_expect : gMd := (yX12_expect, cX12_expect, RX12, 2, none, [], false)
theorem ok_X12_expect : gOk m_X12_expect := ⟨by decide +kernel, rfl, rfl⟩
theorem cw_X12_expect : gcw m_X12_expect ∈ wA := w_2483
abbrev m_X12_number : gMd := (yX12_number, cX12_number, RX12, 4, (some .int), [], false)
theorem ok_X12_number : gOk m_X12_number := ⟨by decide +kernel, rfl, rfl⟩
theorem cw_X12_number : gcw m_X12_number ∈ wA := w_2491
abbrev m_X12_cause : gMd := (yX12_cause, cX12_cause, RX12, 2, (some .int), [], false)
theorem ok_X12_cause : gOk m_X12_cause := ⟨by decide +kernel, rfl, rfl⟩
theorem cw_X12_cause : gcw m_X12_cause ∈ wA := w_2503
abbrev m_X12_pick : gMd := (yX12_pick, cX12_pick, RX12, 7, (some .int), [], false)
theorem ok_X12_pick : gOk m_X12_pick := ⟨by decide +kernel, rfl, rfl⟩
theorem cw_X12_pick : gcw m_X12_pick ∈ wA := w_2475
abbrev m_X12_spelled : gMd := (yX12_spelled, cX12_spelled, RX12, 2, (some .int), [], false)
theorem ok_X12_spelled : gOk m_X12_spelled := ⟨by decide +kernel, rfl, rfl⟩
theorem cw_X12_spelled : gcw m_X12_spelled ∈ wA := w_2472
abbrev m_X12_word : gMd := (yX12_word, cX12_word, RX12, 4, (some .int), [], false)
theorem ok_X12_word : gOk m_X12_word := ⟨by decide +kernel, rfl, rfl⟩
theorem cw_X12_word : gcw m_X12_word ∈ wA := w_2469
abbrev m_X12_put : gMd := (yX12_put, cX12_put, RX12, 3, none, [], false)
theorem ok_X12_put : gOk m_X12_put := ⟨by decide +kernel, rfl, rfl⟩
theorem cw_X12_put : gcw m_X12_put ∈ wA := w_2495
abbrev m_X12_putBehind : gMd := (yX12_putBehind, cX12_putBehind, RX12, 4, none, [], false)
theorem ok_X12_putBehind : gOk m_X12_putBehind := ⟨by decide +kernel, rfl, rfl⟩
theorem cw_X12_putBehind : gcw m_X12_putBehind ∈ wA := w_2479
abbrev m_X12_readsRest : gMd := (yX12_readsRest, cX12_readsRest, RX12, 2, none, [], false)
theorem ok_X12_readsRest : gOk m_X12_readsRest := ⟨by decide +kernel, rfl, rfl⟩
theorem cw_X12_readsRest : gcw m_X12_readsRest ∈ wA := w_2499
abbrev m_X12_command : gMd := (yX12_command, cX12_command, RX12, 2, none, [], false)
theorem ok_X12_command : gOk m_X12_command := ⟨by decide +kernel, rfl, rfl⟩
theorem cw_X12_command : gcw m_X12_command ∈ wA := w_2465
abbrev m_X12_parse : gMd := (yX12_parse, cX12_parse, RX12, 1, none, [], false)
theorem ok_X12_parse : gOk m_X12_parse := ⟨by decide +kernel, rfl, rfl⟩
theorem cw_X12_parse : gcw m_X12_parse ∈ wA := w_2461
abbrev m_X12_why : gMd := (yX12_why, cX12_why, RX12, 6, (some .int), [], false)
theorem ok_X12_why : gOk m_X12_why := ⟨by decide +kernel, rfl, rfl⟩
theorem cw_X12_why : gcw m_X12_why ∈ wA := w_2507
abbrev m_X12_does : gMd := (yX12_does, cX12_does, RX12, 6, (some .int), [], false)
theorem ok_X12_does : gOk m_X12_does := ⟨by decide +kernel, rfl, rfl⟩
theorem cw_X12_does : gcw m_X12_does ∈ wA := w_2511
abbrev m_X12_runScript : gMd := (yX12_runScript, cX12_runScript, RX12, 4, (some .int), [], false)
theorem ok_X12_runScript : gOk m_X12_runScript := ⟨by decide +kernel, rfl, rfl⟩
theorem cw_X12_runScript : gcw m_X12_runScript ∈ wA := w_2457
abbrev m_X12_present : gMd := (yX12_present, cX12_present, RX12, 2, (some .int), [], false)
theorem ok_X12_present : gOk m_X12_present := ⟨by decide +kernel, rfl, rfl⟩
theorem cw_X12_present : gcw m_X12_present ∈ wA := w_2519
abbrev m_X12_errorPosition : gMd := (yX12_errorPosition, cX12_errorPosition, RX12, 1, (some .int), [], false)
theorem ok_X12_errorPosition : gOk m_X12_errorPosition := ⟨by decide +kernel, rfl, rfl⟩
theorem cw_X12_errorPosition : gcw m_X12_errorPosition ∈ wA := w_2515
abbrev m_X12_failedCommand : gMd := (yX12_failedCommand, cX12_failedCommand, RX12, 1, (some .int), [], false)
theorem ok_X12_failedCommand : gOk m_X12_failedCommand := ⟨by decide +kernel, rfl, rfl⟩
theorem cw_X12_failedCommand : gcw m_X12_failedCommand ∈ wA := w_2523
abbrev m_X12_undo : gMd := (yX12_undo, cX12_undo, RX12, 1, (some .int), [], false)
theorem ok_X12_undo : gOk m_X12_undo := ⟨by decide +kernel, rfl, rfl⟩
theorem cw_X12_undo : gcw m_X12_undo ∈ wA := w_2527
abbrev m_X12_save : gMd := (yX12_save, cX12_save, RX12, 1, (some .int), [], false)
theorem ok_X12_save : gOk m_X12_save := ⟨by decide +kernel, rfl, rfl⟩
theorem cw_X12_save : gcw m_X12_save ∈ wA := w_2531
abbrev m_X12_restore : gMd := (yX12_restore, cX12_restore, RX12, 1, (some .int), [], false)
theorem ok_X12_restore : gOk m_X12_restore := ⟨by decide +kernel, rfl, rfl⟩
theorem cw_X12_restore : gcw m_X12_restore ∈ wA := w_2535
abbrev m_J7_fill_53178 : gMd := (yJ7_fill_53178, cJ7_fill_53178, RJ7, 4, none, [], false)
theorem ok_J7_fill_53178 : gOk m_J7_fill_53178 := ⟨by decide +kernel, rfl, rfl⟩
theorem cw_J7_fill_53178 : gcw m_J7_fill_53178 ∈ wA := w_597
abbrev m_J7_fill_eb02e : gMd := (yJ7_fill_eb02e, cJ7_fill_eb02e, RJ7, 5, none, [], false)
theorem ok_J7_fill_eb02e : gOk m_J7_fill_eb02e := ⟨by decide +kernel, rfl, rfl⟩
theorem cw_J7_fill_eb02e : gcw m_J7_fill_eb02e ∈ wA := w_1664
abbrev m_L_insure : gMd := (yL_insure, cL_insure, RL, 6, (some .int), [(0, 12, 15, 13), (0, 12, 19, 15)], false)
theorem ok_L_insure : gOk m_L_insure := ⟨by decide +kernel, rfl, rfl⟩
theorem cw_L_insure : gcw m_L_insure ∈ wA := w_721
abbrev m_L_endPolicy : gMd := (yL_endPolicy, cL_endPolicy, RL, 4, (some .int), [(0, 9, 12, 21), (0, 9, 15, 15)], false)
theorem ok_L_endPolicy : gOk m_L_endPolicy := ⟨by decide +kernel, rfl, rfl⟩
theorem cw_L_endPolicy : gcw m_L_endPolicy ∈ wA := w_859
abbrev m_L_addTreaty : gMd := (yL_addTreaty, cL_addTreaty, RL, 7, (some .int), [(0, 14, 17, 13), (0, 14, 21, 15)], false)
theorem ok_L_addTreaty : gOk m_L_addTreaty := ⟨by decide +kernel, rfl, rfl⟩
theorem cw_L_addTreaty : gcw m_L_addTreaty ∈ wA := w_918
abbrev m_L_dropTreaty : gMd := (yL_dropTreaty, cL_dropTreaty, RL, 4, (some .int), [(0, 9, 12, 30), (0, 9, 15, 15)], false)
theorem ok_L_dropTreaty : gOk m_L_dropTreaty := ⟨by decide +kernel, rfl, rfl⟩
theorem cw_L_dropTreaty : gcw m_L_dropTreaty ∈ wA := w_936
abbrev m_L_claim : gMd := (yL_claim, cL_claim, RL, 6, (some .int), [(0, 12, 15, 21), (0, 12, 19, 13), (0, 12, 23, 15), (0, 12, 27, 36)], false)
theorem ok_L_claim : gOk m_L_claim := ⟨by decide +kernel, rfl, rfl⟩
theorem cw_L_claim : gcw m_L_claim ∈ wA := w_998
abbrev m_L_pay : gMd := (yL_pay, cL_pay, RL, 5, (some .int), [(0, 10, 13, 21), (0, 10, 17, 13), (0, 10, 21, 15)], false)
theorem ok_L_pay : gOk m_L_pay := ⟨by decide +kernel, rfl, rfl⟩
theorem cw_L_pay : gcw m_L_pay ∈ wA := w_1050
abbrev m_L_closeClaim : gMd := (yL_closeClaim, cL_closeClaim, RL, 4, (some .int), [(0, 9, 12, 21), (0, 9, 15, 15)], false)
theorem ok_L_closeClaim : gOk m_L_closeClaim := ⟨by decide +kernel, rfl, rfl⟩
theorem cw_L_closeClaim : gcw m_L_closeClaim ∈ wA := w_1078
abbrev m_L_withdrawClaim : gMd := (yL_withdrawClaim, cL_withdrawClaim, RL, 4, (some .int), [(0, 9, 12, 21), (0, 9, 15, 15)], false)
theorem ok_L_withdrawClaim : gOk m_L_withdrawClaim := ⟨by decide +kernel, rfl, rfl⟩
theorem cw_L_withdrawClaim : gcw m_L_withdrawClaim ∈ wA := w_1097
abbrev m_L_addOffer : gMd := (yL_addOffer, cL_addOffer, RL, 6, (some .int), [(0, 12, 15, 13), (0, 12, 19, 15)], false)
theorem ok_L_addOffer : gOk m_L_addOffer := ⟨by decide +kernel, rfl, rfl⟩
theorem cw_L_addOffer : gcw m_L_addOffer ∈ wA := w_1113
abbrev m_L_dropOffer : gMd := (yL_dropOffer, cL_dropOffer, RL, 4, (some .int), [(0, 9, 12, 30)], false)
theorem ok_L_dropOffer : gOk m_L_dropOffer := ⟨by decide +kernel, rfl, rfl⟩
theorem cw_L_dropOffer : gcw m_L_dropOffer ∈ wA := w_1126
abbrev m_L_passDays : gMd := (yL_passDays, cL_passDays, RL, 4, (some .int), [(0, 9, 12, 13)], false)
theorem ok_L_passDays : gOk m_L_passDays := ⟨by decide +kernel, rfl, rfl⟩
theorem cw_L_passDays : gcw m_L_passDays ∈ wA := w_1139
abbrev m_L_policyAt : gMd := (yL_policyAt, cL_policyAt, RL, 4, (some .int), [(0, 9, 12, 30)], false)
theorem ok_L_policyAt : gOk m_L_policyAt := ⟨by decide +kernel, rfl, rfl⟩
theorem cw_L_policyAt : gcw m_L_policyAt ∈ wA := w_1150
abbrev m_L_sumOf : gMd := (yL_sumOf, cL_sumOf, RL, 4, (some .int), [(0, 9, 12, 21)], false)
theorem ok_L_sumOf : gOk m_L_sumOf := ⟨by decide +kernel, rfl, rfl⟩
theorem cw_L_sumOf : gcw m_L_sumOf ∈ wA := w_1158
abbrev m_L_sumLeft : gMd := (yL_sumLeft, cL_sumLeft, RL, 4, (some .int), [(0, 9, 12, 21)], false)
theorem ok_L_sumLeft : gOk m_L_sumLeft := ⟨by decide +kernel, rfl, rfl⟩
theorem cw_L_sumLeft : gcw m_L_sumLeft ∈ wA := w_1166
abbrev m_L_riskOf : gMd := (yL_riskOf, cL_riskOf, RL, 4, (some .int), [(0, 9, 12, 21)], false)
theorem ok_L_riskOf : gOk m_L_riskOf := ⟨by decide +kernel, rfl, rfl⟩
theorem cw_L_riskOf : gcw m_L_riskOf ∈ wA := w_1174
abbrev m_L_premiumOf : gMd := (yL_premiumOf, cL_premiumOf, RL, 4, (some .int), [(0, 9, 12, 21)], false)
theorem ok_L_premiumOf : gOk m_L_premiumOf := ⟨by decide +kernel, rfl, rfl⟩
theorem cw_L_premiumOf : gcw m_L_premiumOf ∈ wA := w_1181
abbrev m_L_endOf : gMd := (yL_endOf, cL_endOf, RL, 4, (some .int), [(0, 9, 12, 21)], false)
theorem ok_L_endOf : gOk m_L_endOf := ⟨by decide +kernel, rfl, rfl⟩
theorem cw_L_endOf : gcw m_L_endOf ∈ wA := w_1188
abbrev m_L_isActive : gMd := (yL_isActive, cL_isActive, RL, 4, (some .int), [(0, 16, 19, 21)], false)
theorem ok_L_isActive : gOk m_L_isActive := ⟨by decide +kernel, rfl, rfl⟩
theorem cw_L_isActive : gcw m_L_isActive ∈ wA := w_1195
abbrev m_L_claimAt : gMd := (yL_claimAt, cL_claimAt, RL, 4, (some .int), [(0, 9, 12, 30)], false)
theorem ok_L_claimAt : gOk m_L_claimAt := ⟨by decide +kernel, rfl, rfl⟩
theorem cw_L_claimAt : gcw m_L_claimAt ∈ wA := w_1203
abbrev m_L_policyOf : gMd := (yL_policyOf, cL_policyOf, RL, 4, (some .int), [(0, 9, 12, 21)], false)
theorem ok_L_policyOf : gOk m_L_policyOf := ⟨by decide +kernel, rfl, rfl⟩
theorem cw_L_policyOf : gcw m_L_policyOf ∈ wA := w_1210
abbrev m_L_causeOf : gMd := (yL_causeOf, cL_causeOf, RL, 4, (some .int), [(0, 9, 12, 21)], false)
theorem ok_L_causeOf : gOk m_L_causeOf := ⟨by decide +kernel, rfl, rfl⟩
theorem cw_L_causeOf : gcw m_L_causeOf ∈ wA := w_1218
abbrev m_L_amountOf : gMd := (yL_amountOf, cL_amountOf, RL, 4, (some .int), [(0, 9, 12, 21)], false)
theorem ok_L_amountOf : gOk m_L_amountOf := ⟨by decide +kernel, rfl, rfl⟩
theorem cw_L_amountOf : gcw m_L_amountOf ∈ wA := w_1225
abbrev m_L_paidOf : gMd := (yL_paidOf, cL_paidOf, RL, 4, (some .int), [(0, 9, 12, 21)], false)
theorem ok_L_paidOf : gOk m_L_paidOf := ⟨by decide +kernel, rfl, rfl⟩
theorem cw_L_paidOf : gcw m_L_paidOf ∈ wA := w_1232
abbrev m_L_borneBy : gMd := (yL_borneBy, cL_borneBy, RL, 5, (some .int), [(0, 10, 13, 21), (0, 10, 17, 30)], false)
theorem ok_L_borneBy : gOk m_L_borneBy := ⟨by decide +kernel, rfl, rfl⟩
theorem cw_L_borneBy : gcw m_L_borneBy ∈ wA := w_1239
abbrev m_L_ownPart : gMd := (yL_ownPart, cL_ownPart, RL, 4, (some .int), [(0, 9, 12, 21)], false)
theorem ok_L_ownPart : gOk m_L_ownPart := ⟨by decide +kernel, rfl, rfl⟩
theorem cw_L_ownPart : gcw m_L_ownPart ∈ wA := w_1246
abbrev m_L_recovered : gMd := (yL_recovered, cL_recovered, RL, 4, (some .int), [(0, 9, 12, 21)], false)
theorem ok_L_recovered : gOk m_L_recovered := ⟨by decide +kernel, rfl, rfl⟩
theorem cw_L_recovered : gcw m_L_recovered ∈ wA := w_1257
abbrev m_L_startOf : gMd := (yL_startOf, cL_startOf, RL, 4, (some .int), [(0, 9, 12, 30)], false)
theorem ok_L_startOf : gOk m_L_startOf := ⟨by decide +kernel, rfl, rfl⟩
theorem cw_L_startOf : gcw m_L_startOf ∈ wA := w_1265
abbrev m_L_capacityOf : gMd := (yL_capacityOf, cL_capacityOf, RL, 4, (some .int), [(0, 9, 12, 30)], false)
theorem ok_L_capacityOf : gOk m_L_capacityOf := ⟨by decide +kernel, rfl, rfl⟩
theorem cw_L_capacityOf : gcw m_L_capacityOf ∈ wA := w_1272
abbrev m_L_borne : gMd := (yL_borne, cL_borne, RL, 4, (some .int), [(0, 9, 12, 13)], false)
theorem ok_L_borne : gOk m_L_borne := ⟨by decide +kernel, rfl, rfl⟩
theorem cw_L_borne : gcw m_L_borne ∈ wA := w_1279
abbrev m_L_borneByCoins : gMd := (yL_borneByCoins, cL_borneByCoins, RL, 4, (some .int), [(0, 9, 12, 13)], false)
theorem ok_L_borneByCoins : gOk m_L_borneByCoins := ⟨by decide +kernel, rfl, rfl⟩
theorem cw_L_borneByCoins : gcw m_L_borneByCoins ∈ wA := w_1288
abbrev m_L_outcomesWithin : gMd := (yL_outcomesWithin, cL_outcomesWithin, RL, 4, (some .int), [(0, 8, 11, 13)], false)
theorem ok_L_outcomesWithin : gOk m_L_outcomesWithin := ⟨by decide +kernel, rfl, rfl⟩
theorem cw_L_outcomesWithin : gcw m_L_outcomesWithin ∈ wA := w_1296
abbrev m_L_outcomesWithinBySets : gMd := (yL_outcomesWithinBySets, cL_outcomesWithinBySets, RL, 4, (some .int), [(0, 8, 11, 13)], false)
theorem ok_L_outcomesWithinBySets : gOk m_L_outcomesWithinBySets := ⟨by decide +kernel, rfl, rfl⟩
theorem cw_L_outcomesWithinBySets : gcw m_L_outcomesWithinBySets ∈ wA := w_1305
abbrev m_L_paidIn : gMd := (yL_paidIn, cL_paidIn, RL, 5, (some .int), [(0, 10, 13, 13)], false)
theorem ok_L_paidIn : gOk m_L_paidIn := ⟨by decide +kernel, rfl, rfl⟩
theorem cw_L_paidIn : gcw m_L_paidIn ∈ wA := w_1313
abbrev m_L_projected : gMd := (yL_projected, cL_projected, RL, 4, (some .int), [(0, 9, 12, 13)], false)
theorem ok_L_projected : gOk m_L_projected := ⟨by decide +kernel, rfl, rfl⟩
theorem cw_L_projected : gcw m_L_projected ∈ wA := w_1320
abbrev m_L_projectedByRecursion : gMd := (yL_projectedByRecursion, cL_projectedByRecursion, RL, 4, (some .int), [(0, 9, 12, 13)], false)
theorem ok_L_projectedByRecursion : gOk m_L_projectedByRecursion := ⟨by decide +kernel, rfl, rfl⟩
theorem cw_L_projectedByRecursion : gcw m_L_projectedByRecursion ∈ wA := w_1328
abbrev m_L_cheapestCover : gMd := (yL_cheapestCover, cL_cheapestCover, RL, 5, (some .int), [(0, 10, 13, 13), (0, 10, 17, 21)], false)
theorem ok_L_cheapestCover : gOk m_L_cheapestCover := ⟨by decide +kernel, rfl, rfl⟩
theorem cw_L_cheapestCover : gcw m_L_cheapestCover ∈ wA := w_1336
abbrev m_L_cheapestCoverBySets : gMd := (yL_cheapestCoverBySets, cL_cheapestCoverBySets, RL, 5, (some .int), [(0, 10, 13, 13), (0, 10, 17, 21)], false)
theorem ok_L_cheapestCoverBySets : gOk m_L_cheapestCoverBySets := ⟨by decide +kernel, rfl, rfl⟩
theorem cw_L_cheapestCoverBySets : gcw m_L_cheapestCoverBySets ∈ wA := w_1350
abbrev m_L_policyByLoad : gMd := (yL_policyByLoad, cL_policyByLoad, RL, 4, (some .int), [(0, 9, 12, 21)], false)
theorem ok_L_policyByLoad : gOk m_L_policyByLoad := ⟨by decide +kernel, rfl, rfl⟩
theorem cw_L_policyByLoad : gcw m_L_policyByLoad ∈ wA := w_1358
abbrev m_L_claimByUnpaid : gMd := (yL_claimByUnpaid, cL_claimByUnpaid, RL, 4, (some .int), [(0, 9, 12, 21)], false)
theorem ok_L_claimByUnpaid : gOk m_L_claimByUnpaid := ⟨by decide +kernel, rfl, rfl⟩
theorem cw_L_claimByUnpaid : gcw m_L_claimByUnpaid ∈ wA := w_1386
abbrev m_L_meanSum : gMd := (yL_meanSum, cL_meanSum, RL, 3, (some .int), [(0, 7, 10, 148)], false)
theorem ok_L_meanSum : gOk m_L_meanSum := ⟨by decide +kernel, rfl, rfl⟩
theorem cw_L_meanSum : gcw m_L_meanSum ∈ wA := w_1396
abbrev m_L_paidShare : gMd := (yL_paidShare, cL_paidShare, RL, 3, (some .int), [(0, 8, 11, 148)], false)
theorem ok_L_paidShare : gOk m_L_paidShare := ⟨by decide +kernel, rfl, rfl⟩
theorem cw_L_paidShare : gcw m_L_paidShare ∈ wA := w_1421
abbrev m_L_writePolicy : gMd := (yL_writePolicy, cL_writePolicy, RL, 4, (some .int), [(0, 9, 12, 21)], false)
theorem ok_L_writePolicy : gOk m_L_writePolicy := ⟨by decide +kernel, rfl, rfl⟩
theorem cw_L_writePolicy : gcw m_L_writePolicy ∈ wA := w_1429
abbrev m_L_writeClaim : gMd := (yL_writeClaim, cL_writeClaim, RL, 4, (some .int), [(0, 9, 12, 21)], false)
theorem ok_L_writeClaim : gOk m_L_writeClaim := ⟨by decide +kernel, rfl, rfl⟩
theorem cw_L_writeClaim : gcw m_L_writeClaim ∈ wA := w_1711
abbrev m_L_outputAt : gMd := (yL_outputAt, cL_outputAt, RL, 4, (some .int), [(0, 9, 12, 30)], false)
theorem ok_L_outputAt : gOk m_L_outputAt := ⟨by decide +kernel, rfl, rfl⟩
theorem cw_L_outputAt : gcw m_L_outputAt ∈ wA := w_1718
abbrev m_L_type : gMd := (yL_type, cL_type, RL, 4, (some .int), [(0, 9, 12, 13), (0, 9, 15, 15)], false)
theorem ok_L_type : gOk m_L_type := ⟨by decide +kernel, rfl, rfl⟩
theorem cw_L_type : gcw m_L_type ∈ wA := w_1735
abbrev m_L_runScript : gMd := (yL_runScript, cL_runScript, RL, 3, (some .int), [(0, 8, 11, 13), (0, 8, 14, 15)], false)
theorem ok_L_runScript : gOk m_L_runScript := ⟨by decide +kernel, rfl, rfl⟩
theorem cw_L_runScript : gcw m_L_runScript ∈ wA := w_1751
abbrev m_L_errorPosition : gMd := (yL_errorPosition, cL_errorPosition, RL, 3, (some .int), [(0, 8, 11, 21)], false)
theorem ok_L_errorPosition : gOk m_L_errorPosition := ⟨by decide +kernel, rfl, rfl⟩
theorem cw_L_errorPosition : gcw m_L_errorPosition ∈ wA := w_1856
abbrev m_L_failedCommand : gMd := (yL_failedCommand, cL_failedCommand, RL, 3, (some .int), [(0, 8, 11, 21)], false)
theorem ok_L_failedCommand : gOk m_L_failedCommand := ⟨by decide +kernel, rfl, rfl⟩
theorem cw_L_failedCommand : gcw m_L_failedCommand ∈ wA := w_1867
abbrev m_L_undo : gMd := (yL_undo, cL_undo, RL, 3, (some .int), [(0, 8, 11, 15)], false)
theorem ok_L_undo : gOk m_L_undo := ⟨by decide +kernel, rfl, rfl⟩
theorem cw_L_undo : gcw m_L_undo ∈ wA := w_1874
abbrev m_L_restore : gMd := (yL_restore, cL_restore, RL, 3, (some .int), [(0, 8, 11, 15)], false)
theorem ok_L_restore : gOk m_L_restore := ⟨by decide +kernel, rfl, rfl⟩
theorem cw_L_restore : gcw m_L_restore ∈ wA := w_1889
theorem uw_X1 : ∀ w ∈ u_ws RX1 TX1 12, w ∈ wA := fun w h => wA_of ((by decide +kernel : ∀ w ∈ u_ws RX1 TX1 12, w ∈ lw_tbl) w h) ((by decide +kernel : ∀ w ∈ u_ws RX1 TX1 12, goodWord w = true) w h)
theorem uw_X2 : ∀ w ∈ u_ws RX2 TX2 9, w ∈ wA := fun w h => wA_of ((by decide +kernel : ∀ w ∈ u_ws RX2 TX2 9, w ∈ lw_tbl) w h) ((by decide +kernel : ∀ w ∈ u_ws RX2 TX2 9, goodWord w = true) w h)
theorem uw_X3 : ∀ w ∈ u_ws RX3 TX3 3, w ∈ wA := fun w h => wA_of ((by decide +kernel : ∀ w ∈ u_ws RX3 TX3 3, w ∈ lw_tbl) w h) ((by decide +kernel : ∀ w ∈ u_ws RX3 TX3 3, goodWord w = true) w h)
theorem uw_X4 : ∀ w ∈ u_ws RX4 TX4 5, w ∈ wA := fun w h => wA_of ((by decide +kernel : ∀ w ∈ u_ws RX4 TX4 5, w ∈ lw_tbl) w h) ((by decide +kernel : ∀ w ∈ u_ws RX4 TX4 5, goodWord w = true) w h)
theorem uw_X5 : ∀ w ∈ u_ws RX5 TX5 10, w ∈ wA := fun w h => wA_of ((by decide +kernel : ∀ w ∈ u_ws RX5 TX5 10, w ∈ lw_tbl) w h) ((by decide +kernel : ∀ w ∈ u_ws RX5 TX5 10, goodWord w = true) w h)
theorem uw_X7 : ∀ w ∈ u_ws RX7 TX7 4, w ∈ wA := fun w h => wA_of ((by decide +kernel : ∀ w ∈ u_ws RX7 TX7 4, w ∈ lw_tbl) w h) ((by decide +kernel : ∀ w ∈ u_ws RX7 TX7 4, goodWord w = true) w h)
theorem uw_X8 : ∀ w ∈ u_ws RX8 TX8 7, w ∈ wA := fun w h => wA_of ((by decide +kernel : ∀ w ∈ u_ws RX8 TX8 7, w ∈ lw_tbl) w h) ((by decide +kernel : ∀ w ∈ u_ws RX8 TX8 7, goodWord w = true) w h)
theorem uw_X9 : ∀ w ∈ u_ws RX9 TX9 1, w ∈ wA := fun w h => wA_of ((by decide +kernel : ∀ w ∈ u_ws RX9 TX9 1, w ∈ lw_tbl) w h) ((by decide +kernel : ∀ w ∈ u_ws RX9 TX9 1, goodWord w = true) w h)
theorem uw_X11 : ∀ w ∈ u_ws RX11 TX11 8, w ∈ wA := fun w h => wA_of ((by decide +kernel : ∀ w ∈ u_ws RX11 TX11 8, w ∈ lw_tbl) w h) ((by decide +kernel : ∀ w ∈ u_ws RX11 TX11 8, goodWord w = true) w h)
theorem uw_X12 : ∀ w ∈ u_ws RX12 TX12 21, w ∈ wA := fun w h => wA_of ((by decide +kernel : ∀ w ∈ u_ws RX12 TX12 21, w ∈ lw_tbl) w h) ((by decide +kernel : ∀ w ∈ u_ws RX12 TX12 21, goodWord w = true) w h)
theorem s_X1_11 : gSI RX1 11 m_X5_init 0 := ⟨rfl, w_150, w_151, w_100, cw_X5_init, rfl, ⟨by decide, by decide, by decide +kernel⟩, by decide⟩
theorem pf_X1_12_X1 : gFq RX1 12 0 0 (.object "PaperBoatInsurer$Policies") true := ⟨RX1, TX1, 12, "PaperBoatInsurer$Book", tyX1, rfl, by decide, rfl, uw_X1, w_322, Or.inl rfl, tyX1_ok, nmX1, rfl, by first | (intro _; rfl) | (intro h; cases h), by decide +kernel⟩
theorem s_X1_20 : gSI RX1 20 m_X2_init 0 := ⟨rfl, w_213, w_214, w_101, cw_X2_init, rfl, ⟨by decide, by decide, by decide +kernel⟩, by decide⟩
theorem pf_X1_21_X1 : gFq RX1 21 0 1 (.object "PaperBoatInsurer$Claims") true := ⟨RX1, TX1, 12, "PaperBoatInsurer$Book", tyX1, rfl, by decide, rfl, uw_X1, w_324, Or.inl rfl, tyX1_ok, nmX1, rfl, by first | (intro _; rfl) | (intro h; cases h), by decide +kernel⟩
theorem s_X1_27 : gSJ RX1 27 m_X8_init 0 := ⟨"PaperBoatInsurer", rfl, w_254, w_255, w_102, cw_X8_init, rfl, ⟨by decide, by decide, by decide +kernel⟩, by decide⟩
theorem pf_X1_28_X1 : gFq RX1 28 0 2 (.object "PaperBoatInsurer$Treaties") true := ⟨RX1, TX1, 12, "PaperBoatInsurer$Book", tyX1, rfl, by decide, rfl, uw_X1, w_326, Or.inl rfl, tyX1_ok, nmX1, rfl, by first | (intro _; rfl) | (intro h; cases h), by decide +kernel⟩
theorem s_X1_34 : gSJ RX1 34 m_X9_init 0 := ⟨"PaperBoatInsurer", rfl, w_289, w_290, w_103, cw_X9_init, rfl, ⟨by decide, by decide, by decide +kernel⟩, by decide⟩
theorem pf_X1_35_X1 : gFq RX1 35 0 3 (.object "PaperBoatInsurer$Triangle") true := ⟨RX1, TX1, 12, "PaperBoatInsurer$Book", tyX1, rfl, by decide, rfl, uw_X1, w_329, Or.inl rfl, tyX1_ok, nmX1, rfl, by first | (intro _; rfl) | (intro h; cases h), by decide +kernel⟩
theorem s_X1_41 : gSJ RX1 41 m_X4_init 0 := ⟨"PaperBoatInsurer", rfl, w_301, w_302, w_104, cw_X4_init, rfl, ⟨by decide, by decide, by decide +kernel⟩, by decide⟩
theorem pf_X1_42_X1 : gFq RX1 42 0 4 (.object "PaperBoatInsurer$Offers") true := ⟨RX1, TX1, 12, "PaperBoatInsurer$Book", tyX1, rfl, by decide, rfl, uw_X1, w_331, Or.inl rfl, tyX1_ok, nmX1, rfl, by first | (intro _; rfl) | (intro h; cases h), by decide +kernel⟩
theorem f_X1_12_X1 : gFl RX1 12 0 0 := ⟨RX1, TX1, 12, "PaperBoatInsurer$Book", rfl, by decide, rfl, uw_X1, w_322, Or.inl rfl⟩
theorem s_X1_46_X5 : gSV RX1 46 4 m_X5_copyFrom 1 := ⟨RX5, TX5, 10, rfl, rfl, (List.forall_mem_cons.mpr ⟨w_685, (List.forall_mem_cons.mpr ⟨w_686, (List.forall_mem_cons.mpr ⟨w_687, (List.forall_mem_cons.mpr ⟨w_100, (fun _ h => absurd h List.not_mem_nil)⟩)⟩)⟩)⟩), cw_X5_copyFrom, rfl, ⟨by decide, by decide, by decide +kernel⟩, by decide⟩
theorem f_X1_21_X1 : gFl RX1 21 0 1 := ⟨RX1, TX1, 12, "PaperBoatInsurer$Book", rfl, by decide, rfl, uw_X1, w_324, Or.inl rfl⟩
theorem s_X1_50_X2 : gSV RX1 50 1 m_X2_copyFrom 1 := ⟨RX2, TX2, 9, rfl, rfl, (List.forall_mem_cons.mpr ⟨w_697, (List.forall_mem_cons.mpr ⟨w_698, (List.forall_mem_cons.mpr ⟨w_699, (List.forall_mem_cons.mpr ⟨w_101, (fun _ h => absurd h List.not_mem_nil)⟩)⟩)⟩)⟩), cw_X2_copyFrom, rfl, ⟨by decide, by decide, by decide +kernel⟩, by decide⟩
theorem f_X1_28_X1 : gFl RX1 28 0 2 := ⟨RX1, TX1, 12, "PaperBoatInsurer$Book", rfl, by decide, rfl, uw_X1, w_326, Or.inl rfl⟩
theorem s_X1_53_X8 : gSV RX1 53 6 m_X8_copyFrom 1 := ⟨RX8, TX8, 7, rfl, rfl, (List.forall_mem_cons.mpr ⟨w_705, (List.forall_mem_cons.mpr ⟨w_706, (List.forall_mem_cons.mpr ⟨w_707, (List.forall_mem_cons.mpr ⟨w_102, (fun _ h => absurd h List.not_mem_nil)⟩)⟩)⟩)⟩), cw_X8_copyFrom, rfl, ⟨by decide, by decide, by decide +kernel⟩, by decide⟩
theorem f_X1_35_X1 : gFl RX1 35 0 3 := ⟨RX1, TX1, 12, "PaperBoatInsurer$Book", rfl, by decide, rfl, uw_X1, w_329, Or.inl rfl⟩
theorem s_X1_56_X9 : gSV RX1 56 7 m_X9_copyFrom 1 := ⟨RX9, TX9, 1, rfl, rfl, (List.forall_mem_cons.mpr ⟨w_709, (List.forall_mem_cons.mpr ⟨w_710, (List.forall_mem_cons.mpr ⟨w_711, (List.forall_mem_cons.mpr ⟨w_103, (fun _ h => absurd h List.not_mem_nil)⟩)⟩)⟩)⟩), cw_X9_copyFrom, rfl, ⟨by decide, by decide, by decide +kernel⟩, by decide⟩
theorem f_X1_42_X1 : gFl RX1 42 0 4 := ⟨RX1, TX1, 12, "PaperBoatInsurer$Book", rfl, by decide, rfl, uw_X1, w_331, Or.inl rfl⟩
theorem s_X1_59_X4 : gSV RX1 59 3 m_X4_copyFrom 1 := ⟨RX4, TX4, 5, rfl, rfl, (List.forall_mem_cons.mpr ⟨w_714, (List.forall_mem_cons.mpr ⟨w_715, (List.forall_mem_cons.mpr ⟨w_716, (List.forall_mem_cons.mpr ⟨w_104, (fun _ h => absurd h List.not_mem_nil)⟩)⟩)⟩)⟩), cw_X4_copyFrom, rfl, ⟨by decide, by decide, by decide +kernel⟩, by decide⟩
theorem f_X1_62_X1 : gFl RX1 62 0 5 := ⟨RX1, TX1, 12, "PaperBoatInsurer$Book", rfl, by decide, rfl, uw_X1, w_334, Or.inl rfl⟩
theorem pf_X1_62_X1 : gFq RX1 62 0 5 .int false := ⟨RX1, TX1, 12, "PaperBoatInsurer$Book", tyX1, rfl, by decide, rfl, uw_X1, w_334, Or.inl rfl, tyX1_ok, nmX1, rfl, by first | (intro _; rfl) | (intro h; cases h), by decide +kernel⟩
theorem f_X1_66_X1 : gFl RX1 66 0 6 := ⟨RX1, TX1, 12, "PaperBoatInsurer$Book", rfl, by decide, rfl, uw_X1, w_336, Or.inl rfl⟩
theorem pf_X1_66_X1 : gFq RX1 66 0 6 .int false := ⟨RX1, TX1, 12, "PaperBoatInsurer$Book", tyX1, rfl, by decide, rfl, uw_X1, w_336, Or.inl rfl, tyX1_ok, nmX1, rfl, by first | (intro _; rfl) | (intro h; cases h), by decide +kernel⟩
theorem f_X1_69_X1 : gFl RX1 69 0 7 := ⟨RX1, TX1, 12, "PaperBoatInsurer$Book", rfl, by decide, rfl, uw_X1, w_338, Or.inl rfl⟩
theorem pf_X1_69_X1 : gFq RX1 69 0 7 .int false := ⟨RX1, TX1, 12, "PaperBoatInsurer$Book", tyX1, rfl, by decide, rfl, uw_X1, w_338, Or.inl rfl, tyX1_ok, nmX1, rfl, by first | (intro _; rfl) | (intro h; cases h), by decide +kernel⟩
theorem f_X1_72_X1 : gFl RX1 72 0 8 := ⟨RX1, TX1, 12, "PaperBoatInsurer$Book", rfl, by decide, rfl, uw_X1, w_339, Or.inl rfl⟩
theorem pf_X1_72_X1 : gFq RX1 72 0 8 .int false := ⟨RX1, TX1, 12, "PaperBoatInsurer$Book", tyX1, rfl, by decide, rfl, uw_X1, w_339, Or.inl rfl, tyX1_ok, nmX1, rfl, by first | (intro _; rfl) | (intro h; cases h), by decide +kernel⟩
theorem f_X1_75_X1 : gFl RX1 75 0 9 := ⟨RX1, TX1, 12, "PaperBoatInsurer$Book", rfl, by decide, rfl, uw_X1, w_340, Or.inl rfl⟩
theorem pf_X1_75_X1 : gFq RX1 75 0 9 .int false := ⟨RX1, TX1, 12, "PaperBoatInsurer$Book", tyX1, rfl, by decide, rfl, uw_X1, w_340, Or.inl rfl, tyX1_ok, nmX1, rfl, by first | (intro _; rfl) | (intro h; cases h), by decide +kernel⟩
theorem f_X1_78_X1 : gFl RX1 78 0 10 := ⟨RX1, TX1, 12, "PaperBoatInsurer$Book", rfl, by decide, rfl, uw_X1, w_341, Or.inl rfl⟩
theorem pf_X1_78_X1 : gFq RX1 78 0 10 .int false := ⟨RX1, TX1, 12, "PaperBoatInsurer$Book", tyX1, rfl, by decide, rfl, uw_X1, w_341, Or.inl rfl, tyX1_ok, nmX1, rfl, by first | (intro _; rfl) | (intro h; cases h), by decide +kernel⟩
theorem f_X1_81_X1 : gFl RX1 81 0 11 := ⟨RX1, TX1, 12, "PaperBoatInsurer$Book", rfl, by decide, rfl, uw_X1, w_342, Or.inl rfl⟩
theorem pf_X1_81_X1 : gFq RX1 81 0 11 .int false := ⟨RX1, TX1, 12, "PaperBoatInsurer$Book", tyX1, rfl, by decide, rfl, uw_X1, w_342, Or.inl rfl, tyX1_ok, nmX1, rfl, by first | (intro _; rfl) | (intro h; cases h), by decide +kernel⟩
theorem s_X1_84_X5 : gSV RX1 84 4 m_X5_add 4 := ⟨RX5, TX5, 10, rfl, rfl, (List.forall_mem_cons.mpr ⟨w_744, (List.forall_mem_cons.mpr ⟨w_745, (List.forall_mem_cons.mpr ⟨w_746, (List.forall_mem_cons.mpr ⟨w_100, (fun _ h => absurd h List.not_mem_nil)⟩)⟩)⟩)⟩), cw_X5_add, rfl, ⟨by decide, by decide, by decide +kernel⟩, by decide⟩
theorem f_X1_88_X5 : gFl RX1 88 4 7 := ⟨RX5, TX5, 10, "PaperBoatInsurer$Policies", rfl, by decide, rfl, uw_X5, w_165, Or.inl rfl⟩
theorem f_X1_92_X5 : gFl RX1 92 4 0 := ⟨RX5, TX5, 10, "PaperBoatInsurer$Policies", rfl, by decide, rfl, uw_X5, w_171, Or.inr w_172⟩
theorem s_X1_95_X5 : gSU RX1 95 4 m_X6_placeOf 1 := ⟨RX5, TX5, 10, ⟨"PaperBoatInsurer$Policies", "placeOf", "(I)I"⟩, rfl, rfl, (List.forall_mem_cons.mpr ⟨w_869, (List.forall_mem_cons.mpr ⟨w_870, (List.forall_mem_cons.mpr ⟨w_872, (List.forall_mem_cons.mpr ⟨w_873, (List.forall_mem_cons.mpr ⟨w_99, (fun _ h => absurd h List.not_mem_nil)⟩)⟩)⟩)⟩)⟩), cw_X6_placeOf, rfl, ⟨by decide, by decide, by decide +kernel⟩, by decide⟩
theorem f_X1_99_X2 : gFl RX1 99 1 3 := ⟨RX2, TX2, 9, "PaperBoatInsurer$Claims", rfl, by decide, rfl, uw_X2, w_220, Or.inl rfl⟩
theorem f_X1_101_X2 : gFl RX1 101 1 1 := ⟨RX2, TX2, 9, "PaperBoatInsurer$Claims", rfl, by decide, rfl, uw_X2, w_180, Or.inr w_181⟩
theorem s_X1_104 : gSN RX1 104 m_X11_find 3 := ⟨"PaperBoatInsurer", rfl, w_894, (List.forall_mem_cons.mpr ⟨w_876, (List.forall_mem_cons.mpr ⟨w_97, (fun _ h => absurd h List.not_mem_nil)⟩)⟩), cw_X11_find, ⟨by decide, by decide, by decide +kernel⟩, by decide⟩
theorem s_X1_115_X5 : gSV RX1 115 4 m_X5_refundAt 2 := ⟨RX5, TX5, 10, rfl, rfl, (List.forall_mem_cons.mpr ⟨w_898, (List.forall_mem_cons.mpr ⟨w_899, (List.forall_mem_cons.mpr ⟨w_900, (List.forall_mem_cons.mpr ⟨w_100, (fun _ h => absurd h List.not_mem_nil)⟩)⟩)⟩)⟩), cw_X5_refundAt, rfl, ⟨by decide, by decide, by decide +kernel⟩, by decide⟩
theorem s_X1_119_X5 : gSV RX1 119 4 m_X5_remove 1 := ⟨RX5, TX5, 10, rfl, rfl, (List.forall_mem_cons.mpr ⟨w_902, (List.forall_mem_cons.mpr ⟨w_903, (List.forall_mem_cons.mpr ⟨w_904, (List.forall_mem_cons.mpr ⟨w_100, (fun _ h => absurd h List.not_mem_nil)⟩)⟩)⟩)⟩), cw_X5_remove, rfl, ⟨by decide, by decide, by decide +kernel⟩, by decide⟩
theorem s_X1_123 : gSN RX1 123 m_X11_checkedNumber 3 := ⟨"PaperBoatInsurer", rfl, w_927, (List.forall_mem_cons.mpr ⟨w_749, (List.forall_mem_cons.mpr ⟨w_97, (fun _ h => absurd h List.not_mem_nil)⟩)⟩), cw_X11_checkedNumber, ⟨by decide, by decide, by decide +kernel⟩, by decide⟩
theorem s_X1_127_X8 : gSV RX1 127 6 m_X8_add 3 := ⟨RX8, TX8, 7, rfl, rfl, (List.forall_mem_cons.mpr ⟨w_928, (List.forall_mem_cons.mpr ⟨w_929, (List.forall_mem_cons.mpr ⟨w_930, (List.forall_mem_cons.mpr ⟨w_102, (fun _ h => absurd h List.not_mem_nil)⟩)⟩)⟩)⟩), cw_X8_add, rfl, ⟨by decide, by decide, by decide +kernel⟩, by decide⟩
theorem f_X1_129_X8 : gFl RX1 129 6 2 := ⟨RX8, TX8, 7, "PaperBoatInsurer$Treaties", rfl, by decide, rfl, uw_X8, w_262, Or.inl rfl⟩
theorem f_X1_132_X8 : gFl RX1 132 6 6 := ⟨RX8, TX8, 7, "PaperBoatInsurer$Treaties", rfl, by decide, rfl, uw_X8, w_269, Or.inl rfl⟩
theorem s_X1_133 : gSN RX1 133 m_X11_checkedIndex 2 := ⟨"PaperBoatInsurer", rfl, w_969, (List.forall_mem_cons.mpr ⟨w_970, (List.forall_mem_cons.mpr ⟨w_97, (fun _ h => absurd h List.not_mem_nil)⟩)⟩), cw_X11_checkedIndex, ⟨by decide, by decide, by decide +kernel⟩, by decide⟩
theorem s_X1_136_X2 : gSV RX1 136 1 m_X2_coinsOf 1 := ⟨RX2, TX2, 9, rfl, rfl, (List.forall_mem_cons.mpr ⟨w_560, (List.forall_mem_cons.mpr ⟨w_561, (List.forall_mem_cons.mpr ⟨w_562, (List.forall_mem_cons.mpr ⟨w_101, (fun _ h => absurd h List.not_mem_nil)⟩)⟩)⟩)⟩), cw_X2_coinsOf, rfl, ⟨by decide, by decide, by decide +kernel⟩, by decide⟩
theorem s_X1_141_X8 : gSV RX1 141 6 m_X8_remove 1 := ⟨RX8, TX8, 7, rfl, rfl, (List.forall_mem_cons.mpr ⟨w_986, (List.forall_mem_cons.mpr ⟨w_987, (List.forall_mem_cons.mpr ⟨w_988, (List.forall_mem_cons.mpr ⟨w_102, (fun _ h => absurd h List.not_mem_nil)⟩)⟩)⟩)⟩), cw_X8_remove, rfl, ⟨by decide, by decide, by decide +kernel⟩, by decide⟩
theorem s_X1_142_X2 : gSV RX1 142 1 m_X2_forgetTreaty 1 := ⟨RX2, TX2, 9, rfl, rfl, (List.forall_mem_cons.mpr ⟨w_991, (List.forall_mem_cons.mpr ⟨w_992, (List.forall_mem_cons.mpr ⟨w_993, (List.forall_mem_cons.mpr ⟨w_101, (fun _ h => absurd h List.not_mem_nil)⟩)⟩)⟩)⟩), cw_X2_forgetTreaty, rfl, ⟨by decide, by decide, by decide +kernel⟩, by decide⟩
theorem s_X1_145 : gSN RX1 145 m_X11_isCause 1 := ⟨"PaperBoatInsurer", rfl, w_1008, (List.forall_mem_cons.mpr ⟨w_1009, (List.forall_mem_cons.mpr ⟨w_97, (fun _ h => absurd h List.not_mem_nil)⟩)⟩), cw_X11_isCause, ⟨by decide, by decide, by decide +kernel⟩, by decide⟩
theorem s_X1_154_X5 : gSV RX1 154 4 m_X5_isActiveAt 2 := ⟨RX5, TX5, 10, rfl, rfl, (List.forall_mem_cons.mpr ⟨w_1014, (List.forall_mem_cons.mpr ⟨w_496, (List.forall_mem_cons.mpr ⟨w_497, (List.forall_mem_cons.mpr ⟨w_100, (fun _ h => absurd h List.not_mem_nil)⟩)⟩)⟩)⟩), cw_X5_isActiveAt, rfl, ⟨by decide, by decide, by decide +kernel⟩, by decide⟩
theorem s_X1_160 : gSS RX1 160 m_X1_deductible 2 := ⟨rfl, (List.forall_mem_cons.mpr ⟨w_1016, (List.forall_mem_cons.mpr ⟨w_1017, (List.forall_mem_cons.mpr ⟨w_98, (fun _ h => absurd h List.not_mem_nil)⟩)⟩)⟩), cw_X1_deductible, ⟨by decide, by decide, by decide +kernel⟩, by decide⟩
theorem s_X1_164_X5 : gSV RX1 164 4 m_X5_leftAt 1 := ⟨RX5, TX5, 10, rfl, rfl, (List.forall_mem_cons.mpr ⟨w_1019, (List.forall_mem_cons.mpr ⟨w_1020, (List.forall_mem_cons.mpr ⟨w_1021, (List.forall_mem_cons.mpr ⟨w_100, (fun _ h => absurd h List.not_mem_nil)⟩)⟩)⟩)⟩), cw_X5_leftAt, rfl, ⟨by decide, by decide, by decide +kernel⟩, by decide⟩
theorem s_X1_177_X2 : gSV RX1 177 1 m_X2_add 4 := ⟨RX2, TX2, 9, rfl, rfl, (List.forall_mem_cons.mpr ⟨w_1039, (List.forall_mem_cons.mpr ⟨w_1040, (List.forall_mem_cons.mpr ⟨w_1041, (List.forall_mem_cons.mpr ⟨w_101, (fun _ h => absurd h List.not_mem_nil)⟩)⟩)⟩)⟩), cw_X2_add, rfl, ⟨by decide, by decide, by decide +kernel⟩, by decide⟩
theorem f_X1_180_X2 : gFl RX1 180 1 8 := ⟨RX2, TX2, 9, "PaperBoatInsurer$Claims", rfl, by decide, rfl, uw_X2, w_233, Or.inl rfl⟩
theorem s_X1_184_X8 : gSV RX1 184 6 m_X8_bearCoins 3 := ⟨RX8, TX8, 7, rfl, rfl, (List.forall_mem_cons.mpr ⟨w_1047, (List.forall_mem_cons.mpr ⟨w_599, (List.forall_mem_cons.mpr ⟨w_600, (List.forall_mem_cons.mpr ⟨w_102, (fun _ h => absurd h List.not_mem_nil)⟩)⟩)⟩)⟩), cw_X8_bearCoins, rfl, ⟨by decide, by decide, by decide +kernel⟩, by decide⟩
theorem f_X1_188_X5 : gFl RX1 188 4 8 := ⟨RX5, TX5, 10, "PaperBoatInsurer$Policies", rfl, by decide, rfl, uw_X5, w_168, Or.inl rfl⟩
theorem f_X1_191_X2 : gFl RX1 191 1 0 := ⟨RX2, TX2, 9, "PaperBoatInsurer$Claims", rfl, by decide, rfl, uw_X2, w_173, Or.inr w_174⟩
theorem s_X1_192_X2 : gSU RX1 192 1 m_X6_placeOf 1 := ⟨RX2, TX2, 9, ⟨"PaperBoatInsurer$Claims", "placeOf", "(I)I"⟩, rfl, rfl, (List.forall_mem_cons.mpr ⟨w_1059, (List.forall_mem_cons.mpr ⟨w_1060, (List.forall_mem_cons.mpr ⟨w_1061, (List.forall_mem_cons.mpr ⟨w_873, (List.forall_mem_cons.mpr ⟨w_99, (fun _ h => absurd h List.not_mem_nil)⟩)⟩)⟩)⟩)⟩), cw_X6_placeOf, rfl, ⟨by decide, by decide, by decide +kernel⟩, by decide⟩
theorem s_X1_193_X2 : gSV RX1 193 1 m_X2_unpaidAt 1 := ⟨RX2, TX2, 9, rfl, rfl, (List.forall_mem_cons.mpr ⟨w_1062, (List.forall_mem_cons.mpr ⟨w_1063, (List.forall_mem_cons.mpr ⟨w_1064, (List.forall_mem_cons.mpr ⟨w_101, (fun _ h => absurd h List.not_mem_nil)⟩)⟩)⟩)⟩), cw_X2_unpaidAt, rfl, ⟨by decide, by decide, by decide +kernel⟩, by decide⟩
theorem s_X1_198_X2 : gSV RX1 198 1 m_X2_recoveredAt 1 := ⟨RX2, TX2, 9, rfl, rfl, (List.forall_mem_cons.mpr ⟨w_1067, (List.forall_mem_cons.mpr ⟨w_1068, (List.forall_mem_cons.mpr ⟨w_1069, (List.forall_mem_cons.mpr ⟨w_101, (fun _ h => absurd h List.not_mem_nil)⟩)⟩)⟩)⟩), cw_X2_recoveredAt, rfl, ⟨by decide, by decide, by decide +kernel⟩, by decide⟩
theorem f_X1_201_X2 : gFl RX1 201 1 6 := ⟨RX2, TX2, 9, "PaperBoatInsurer$Claims", rfl, by decide, rfl, uw_X2, w_228, Or.inl rfl⟩
theorem f_X1_204_X2 : gFl RX1 204 1 7 := ⟨RX2, TX2, 9, "PaperBoatInsurer$Claims", rfl, by decide, rfl, uw_X2, w_231, Or.inl rfl⟩
theorem s_X1_207_X9 : gSV RX1 207 7 m_X9_add 3 := ⟨RX9, TX9, 1, rfl, rfl, (List.forall_mem_cons.mpr ⟨w_1072, (List.forall_mem_cons.mpr ⟨w_1073, (List.forall_mem_cons.mpr ⟨w_1074, (List.forall_mem_cons.mpr ⟨w_103, (fun _ h => absurd h List.not_mem_nil)⟩)⟩)⟩)⟩), cw_X9_add, rfl, ⟨by decide, by decide, by decide +kernel⟩, by decide⟩
theorem f_X1_212_X2 : gFl RX1 212 1 5 := ⟨RX2, TX2, 9, "PaperBoatInsurer$Claims", rfl, by decide, rfl, uw_X2, w_225, Or.inl rfl⟩
theorem s_X1_215_X2 : gSV RX1 215 1 m_X2_remove 1 := ⟨RX2, TX2, 9, rfl, rfl, (List.forall_mem_cons.mpr ⟨w_1088, (List.forall_mem_cons.mpr ⟨w_1089, (List.forall_mem_cons.mpr ⟨w_1090, (List.forall_mem_cons.mpr ⟨w_101, (fun _ h => absurd h List.not_mem_nil)⟩)⟩)⟩)⟩), cw_X2_remove, rfl, ⟨by decide, by decide, by decide +kernel⟩, by decide⟩
theorem s_X1_218_X8 : gSV RX1 218 6 m_X8_giveBack 1 := ⟨RX8, TX8, 7, rfl, rfl, (List.forall_mem_cons.mpr ⟨w_1107, (List.forall_mem_cons.mpr ⟨w_1108, (List.forall_mem_cons.mpr ⟨w_1109, (List.forall_mem_cons.mpr ⟨w_102, (fun _ h => absurd h List.not_mem_nil)⟩)⟩)⟩)⟩), cw_X8_giveBack, rfl, ⟨by decide, by decide, by decide +kernel⟩, by decide⟩
theorem f_X1_222_X8 : gFl RX1 222 6 3 := ⟨RX8, TX8, 7, "PaperBoatInsurer$Treaties", rfl, by decide, rfl, uw_X8, w_265, Or.inl rfl⟩
theorem s_X1_225_X8 : gSV RX1 225 6 m_X8_countByRuns 1 := ⟨RX8, TX8, 7, rfl, rfl, (List.forall_mem_cons.mpr ⟨w_568, (List.forall_mem_cons.mpr ⟨w_569, (List.forall_mem_cons.mpr ⟨w_570, (List.forall_mem_cons.mpr ⟨w_102, (fun _ h => absurd h List.not_mem_nil)⟩)⟩)⟩)⟩), cw_X8_countByRuns, rfl, ⟨by decide, by decide, by decide +kernel⟩, by decide⟩
theorem s_X1_228_X8 : gSV RX1 228 6 m_X8_countByCoins 1 := ⟨RX8, TX8, 7, rfl, rfl, (List.forall_mem_cons.mpr ⟨w_591, (List.forall_mem_cons.mpr ⟨w_592, (List.forall_mem_cons.mpr ⟨w_593, (List.forall_mem_cons.mpr ⟨w_102, (fun _ h => absurd h List.not_mem_nil)⟩)⟩)⟩)⟩), cw_X8_countByCoins, rfl, ⟨by decide, by decide, by decide +kernel⟩, by decide⟩
theorem s_X1_231_X5 : gSV RX1 231 4 m_X5_mostLoss 1 := ⟨RX5, TX5, 10, rfl, rfl, (List.forall_mem_cons.mpr ⟨w_609, (List.forall_mem_cons.mpr ⟨w_505, (List.forall_mem_cons.mpr ⟨w_506, (List.forall_mem_cons.mpr ⟨w_100, (fun _ h => absurd h List.not_mem_nil)⟩)⟩)⟩)⟩), cw_X5_mostLoss, rfl, ⟨by decide, by decide, by decide +kernel⟩, by decide⟩
theorem s_X1_234_X5 : gSV RX1 234 4 m_X5_countByTable 2 := ⟨RX5, TX5, 10, rfl, rfl, (List.forall_mem_cons.mpr ⟨w_610, (List.forall_mem_cons.mpr ⟨w_611, (List.forall_mem_cons.mpr ⟨w_612, (List.forall_mem_cons.mpr ⟨w_100, (fun _ h => absurd h List.not_mem_nil)⟩)⟩)⟩)⟩), cw_X5_countByTable, rfl, ⟨by decide, by decide, by decide +kernel⟩, by decide⟩
theorem s_X1_238_X5 : gSV RX1 238 4 m_X5_countBySets 2 := ⟨RX5, TX5, 10, rfl, rfl, (List.forall_mem_cons.mpr ⟨w_622, (List.forall_mem_cons.mpr ⟨w_623, (List.forall_mem_cons.mpr ⟨w_624, (List.forall_mem_cons.mpr ⟨w_100, (fun _ h => absurd h List.not_mem_nil)⟩)⟩)⟩)⟩), cw_X5_countBySets, rfl, ⟨by decide, by decide, by decide +kernel⟩, by decide⟩
theorem s_X1_241_X1 : gSV RX1 241 0 m_X1_latestPeriod 0 := ⟨RX1, TX1, 12, rfl, rfl, (List.forall_mem_cons.mpr ⟨w_638, (List.forall_mem_cons.mpr ⟨w_513, (List.forall_mem_cons.mpr ⟨w_514, (List.forall_mem_cons.mpr ⟨w_98, (fun _ h => absurd h List.not_mem_nil)⟩)⟩)⟩)⟩), cw_X1_latestPeriod, rfl, ⟨by decide, by decide, by decide +kernel⟩, by decide⟩
theorem s_X1_245_X9 : gSV RX1 245 7 m_X9_projectByDelays 2 := ⟨RX9, TX9, 1, rfl, rfl, (List.forall_mem_cons.mpr ⟨w_639, (List.forall_mem_cons.mpr ⟨w_529, (List.forall_mem_cons.mpr ⟨w_530, (List.forall_mem_cons.mpr ⟨w_103, (fun _ h => absurd h List.not_mem_nil)⟩)⟩)⟩)⟩), cw_X9_projectByDelays, rfl, ⟨by decide, by decide, by decide +kernel⟩, by decide⟩
theorem s_X1_248_X9 : gSV RX1 248 7 m_X9_projectBackwards 2 := ⟨RX9, TX9, 1, rfl, rfl, (List.forall_mem_cons.mpr ⟨w_640, (List.forall_mem_cons.mpr ⟨w_641, (List.forall_mem_cons.mpr ⟨w_642, (List.forall_mem_cons.mpr ⟨w_103, (fun _ h => absurd h List.not_mem_nil)⟩)⟩)⟩)⟩), cw_X9_projectBackwards, rfl, ⟨by decide, by decide, by decide +kernel⟩, by decide⟩
theorem s_X1_251_X4 : gSV RX1 251 3 m_X4_cheapestByDays 2 := ⟨RX4, TX4, 5, rfl, rfl, (List.forall_mem_cons.mpr ⟨w_651, (List.forall_mem_cons.mpr ⟨w_652, (List.forall_mem_cons.mpr ⟨w_653, (List.forall_mem_cons.mpr ⟨w_104, (fun _ h => absurd h List.not_mem_nil)⟩)⟩)⟩)⟩), cw_X4_cheapestByDays, rfl, ⟨by decide, by decide, by decide +kernel⟩, by decide⟩
theorem s_X1_254_X4 : gSV RX1 254 3 m_X4_cheapestBySets 2 := ⟨RX4, TX4, 5, rfl, rfl, (List.forall_mem_cons.mpr ⟨w_660, (List.forall_mem_cons.mpr ⟨w_661, (List.forall_mem_cons.mpr ⟨w_662, (List.forall_mem_cons.mpr ⟨w_104, (fun _ h => absurd h List.not_mem_nil)⟩)⟩)⟩)⟩), cw_X4_cheapestBySets, rfl, ⟨by decide, by decide, by decide +kernel⟩, by decide⟩
theorem s_X2_3 : gSI RX2 3 m_X6_init 1 := ⟨rfl, w_216, w_154, w_99, cw_X6_init, rfl, ⟨by decide, by decide, by decide +kernel⟩, by decide⟩
theorem pf_X2_9_X2 : gFq RX2 9 1 3 (.array .int) true := ⟨RX2, TX2, 9, "PaperBoatInsurer$Claims", tyX2, rfl, by decide, rfl, uw_X2, w_219, Or.inl rfl, tyX2_ok, nmX2, rfl, by first | (intro _; rfl) | (intro h; cases h), by decide +kernel⟩
theorem pf_X2_15_X2 : gFq RX2 15 1 4 (.array .char) true := ⟨RX2, TX2, 9, "PaperBoatInsurer$Claims", tyX2, rfl, by decide, rfl, uw_X2, w_222, Or.inl rfl, tyX2_ok, nmX2, rfl, by first | (intro _; rfl) | (intro h; cases h), by decide +kernel⟩
theorem pf_X2_19_X2 : gFq RX2 19 1 5 (.array .int) true := ⟨RX2, TX2, 9, "PaperBoatInsurer$Claims", tyX2, rfl, by decide, rfl, uw_X2, w_224, Or.inl rfl, tyX2_ok, nmX2, rfl, by first | (intro _; rfl) | (intro h; cases h), by decide +kernel⟩
theorem pf_X2_22_X2 : gFq RX2 22 1 6 (.array .int) true := ⟨RX2, TX2, 9, "PaperBoatInsurer$Claims", tyX2, rfl, by decide, rfl, uw_X2, w_227, Or.inl rfl, tyX2_ok, nmX2, rfl, by first | (intro _; rfl) | (intro h; cases h), by decide +kernel⟩
theorem pf_X2_25_X2 : gFq RX2 25 1 7 (.array .int) true := ⟨RX2, TX2, 9, "PaperBoatInsurer$Claims", tyX2, rfl, by decide, rfl, uw_X2, w_230, Or.inl rfl, tyX2_ok, nmX2, rfl, by first | (intro _; rfl) | (intro h; cases h), by decide +kernel⟩
theorem pf_X2_30_X2 : gFq RX2 30 1 8 (.array (.array .int)) true := ⟨RX2, TX2, 9, "PaperBoatInsurer$Claims", tyX2, rfl, by decide, rfl, uw_X2, w_232, Or.inl rfl, tyX2_ok, nmX2, rfl, by first | (intro _; rfl) | (intro h; cases h), by decide +kernel⟩
theorem s_X2_33_X2 : gSU RX2 33 1 m_X6_copyIds 1 := ⟨RX2, TX2, 9, ⟨"PaperBoatInsurer$Claims", "copyIds", "(LPaperBoatInsurer$Register;)V"⟩, rfl, rfl, (List.forall_mem_cons.mpr ⟨w_701, (List.forall_mem_cons.mpr ⟨w_702, (List.forall_mem_cons.mpr ⟨w_703, (List.forall_mem_cons.mpr ⟨w_693, (List.forall_mem_cons.mpr ⟨w_99, (fun _ h => absurd h List.not_mem_nil)⟩)⟩)⟩)⟩)⟩), cw_X6_copyIds, rfl, ⟨by decide, by decide, by decide +kernel⟩, by decide⟩
theorem f_X2_9_X2 : gFl RX2 9 1 3 := ⟨RX2, TX2, 9, "PaperBoatInsurer$Claims", rfl, by decide, rfl, uw_X2, w_219, Or.inl rfl⟩
theorem s_X2_37 : gSN RX2 37 m_X11_copyRow 2 := ⟨"PaperBoatInsurer", rfl, w_704, (List.forall_mem_cons.mpr ⟨w_573, (List.forall_mem_cons.mpr ⟨w_97, (fun _ h => absurd h List.not_mem_nil)⟩)⟩), cw_X11_copyRow, ⟨by decide, by decide, by decide +kernel⟩, by decide⟩
theorem f_X2_19_X2 : gFl RX2 19 1 5 := ⟨RX2, TX2, 9, "PaperBoatInsurer$Claims", rfl, by decide, rfl, uw_X2, w_224, Or.inl rfl⟩
theorem f_X2_22_X2 : gFl RX2 22 1 6 := ⟨RX2, TX2, 9, "PaperBoatInsurer$Claims", rfl, by decide, rfl, uw_X2, w_227, Or.inl rfl⟩
theorem f_X2_25_X2 : gFl RX2 25 1 7 := ⟨RX2, TX2, 9, "PaperBoatInsurer$Claims", rfl, by decide, rfl, uw_X2, w_230, Or.inl rfl⟩
theorem f_X2_15_X2 : gFl RX2 15 1 4 := ⟨RX2, TX2, 9, "PaperBoatInsurer$Claims", rfl, by decide, rfl, uw_X2, w_222, Or.inl rfl⟩
theorem f_X2_30_X2 : gFl RX2 30 1 8 := ⟨RX2, TX2, 9, "PaperBoatInsurer$Claims", rfl, by decide, rfl, uw_X2, w_232, Or.inl rfl⟩
theorem s_X2_41_X2 : gSU RX2 41 1 m_X6_takePlace 0 := ⟨RX2, TX2, 9, ⟨"PaperBoatInsurer$Claims", "takePlace", "()I"⟩, rfl, rfl, (List.forall_mem_cons.mpr ⟨w_1043, (List.forall_mem_cons.mpr ⟨w_1044, (List.forall_mem_cons.mpr ⟨w_1045, (List.forall_mem_cons.mpr ⟨w_827, (List.forall_mem_cons.mpr ⟨w_99, (fun _ h => absurd h List.not_mem_nil)⟩)⟩)⟩)⟩)⟩), cw_X6_takePlace, rfl, ⟨by decide, by decide, by decide +kernel⟩, by decide⟩
theorem s_X2_51_X2 : gSU RX2 51 1 m_X6_removeId 1 := ⟨RX2, TX2, 9, ⟨"PaperBoatInsurer$Claims", "removeId", "(I)V"⟩, rfl, rfl, (List.forall_mem_cons.mpr ⟨w_1092, (List.forall_mem_cons.mpr ⟨w_1093, (List.forall_mem_cons.mpr ⟨w_1094, (List.forall_mem_cons.mpr ⟨w_910, (List.forall_mem_cons.mpr ⟨w_99, (fun _ h => absurd h List.not_mem_nil)⟩)⟩)⟩)⟩)⟩), cw_X6_removeId, rfl, ⟨by decide, by decide, by decide +kernel⟩, by decide⟩
theorem s_X2_55 : gSN RX2 55 m_X11_closeGap 2 := ⟨"PaperBoatInsurer", rfl, w_995, (List.forall_mem_cons.mpr ⟨w_913, (List.forall_mem_cons.mpr ⟨w_97, (fun _ h => absurd h List.not_mem_nil)⟩)⟩), cw_X11_closeGap, ⟨by decide, by decide, by decide +kernel⟩, by decide⟩
theorem s_X2_58 : gSN RX2 58 m_X11_sumOfRow 2 := ⟨"PaperBoatInsurer", rfl, w_1071, (List.forall_mem_cons.mpr ⟨w_603, (List.forall_mem_cons.mpr ⟨w_97, (fun _ h => absurd h List.not_mem_nil)⟩)⟩), cw_X11_sumOfRow, ⟨by decide, by decide, by decide +kernel⟩, by decide⟩
theorem f_X2_62_X2 : gFl RX2 62 1 1 := ⟨RX2, TX2, 9, "PaperBoatInsurer$Claims", rfl, by decide, rfl, uw_X2, w_182, Or.inr w_181⟩
theorem s_X2_66_X2 : gSV RX2 66 1 m_X2_unpaidAt 1 := ⟨RX2, TX2, 9, rfl, rfl, (List.forall_mem_cons.mpr ⟨w_1379, (List.forall_mem_cons.mpr ⟨w_1063, (List.forall_mem_cons.mpr ⟨w_1064, (List.forall_mem_cons.mpr ⟨w_101, (fun _ h => absurd h List.not_mem_nil)⟩)⟩)⟩)⟩), cw_X2_unpaidAt, rfl, ⟨by decide, by decide, by decide +kernel⟩, by decide⟩
theorem f_X2_70_X2 : gFl RX2 70 1 0 := ⟨RX2, TX2, 9, "PaperBoatInsurer$Claims", rfl, by decide, rfl, uw_X2, w_176, Or.inr w_174⟩
theorem pf_X3_11_X3 : gFq RX3 11 2 0 (.array (.object "PaperBoatInsurer$Book")) true := ⟨RX3, TX3, 3, "PaperBoatInsurer$History", tyX3, rfl, by decide, rfl, uw_X3, w_377, Or.inl rfl, tyX3_ok, nmX3, rfl, by first | (intro _; rfl) | (intro h; cases h), by decide +kernel⟩
theorem f_X3_11_X3 : gFl RX3 11 2 0 := ⟨RX3, TX3, 3, "PaperBoatInsurer$History", rfl, by decide, rfl, uw_X3, w_377, Or.inl rfl⟩
theorem s_X3_17 : gSJ RX3 17 m_X1_init 0 := ⟨"PaperBoatInsurer", rfl, w_376, w_145, w_98, cw_X1_init, rfl, ⟨by decide, by decide, by decide +kernel⟩, by decide⟩
theorem f_X3_18_X3 : gFl RX3 18 2 1 := ⟨RX3, TX3, 3, "PaperBoatInsurer$History", rfl, by decide, rfl, uw_X3, w_378, Or.inl rfl⟩
theorem f_X3_22_X3 : gFl RX3 22 2 2 := ⟨RX3, TX3, 3, "PaperBoatInsurer$History", rfl, by decide, rfl, uw_X3, w_379, Or.inl rfl⟩
theorem s_X3_31_X3 : gSV RX3 31 2 m_X3_spare 0 := ⟨RX3, TX3, 3, rfl, rfl, (List.forall_mem_cons.mpr ⟨w_732, (List.forall_mem_cons.mpr ⟨w_734, (List.forall_mem_cons.mpr ⟨w_12, (List.forall_mem_cons.mpr ⟨w_105, (fun _ h => absurd h List.not_mem_nil)⟩)⟩)⟩)⟩), cw_X3_spare, rfl, ⟨by decide, by decide, by decide +kernel⟩, by decide⟩
theorem s_X3_35_X1 : gSV RX3 35 0 m_X1_copyFrom 1 := ⟨RX1, TX1, 12, rfl, rfl, (List.forall_mem_cons.mpr ⟨w_739, (List.forall_mem_cons.mpr ⟨w_682, (List.forall_mem_cons.mpr ⟨w_683, (List.forall_mem_cons.mpr ⟨w_98, (fun _ h => absurd h List.not_mem_nil)⟩)⟩)⟩)⟩), cw_X1_copyFrom, rfl, ⟨by decide, by decide, by decide +kernel⟩, by decide⟩
theorem pf_X3_22_X3 : gFq RX3 22 2 2 .int false := ⟨RX3, TX3, 3, "PaperBoatInsurer$History", tyX3, rfl, by decide, rfl, uw_X3, w_379, Or.inl rfl, tyX3_ok, nmX3, rfl, by first | (intro _; rfl) | (intro h; cases h), by decide +kernel⟩
theorem pf_X3_18_X3 : gFq RX3 18 2 1 .int false := ⟨RX3, TX3, 3, "PaperBoatInsurer$History", tyX3, rfl, by decide, rfl, uw_X3, w_378, Or.inl rfl, tyX3_ok, nmX3, rfl, by first | (intro _; rfl) | (intro h; cases h), by decide +kernel⟩
theorem s_X3_46_X3 : gSV RX3 46 2 m_X3_bringBack 1 := ⟨RX3, TX3, 3, rfl, rfl, (List.forall_mem_cons.mpr ⟨w_1886, (List.forall_mem_cons.mpr ⟨w_1850, (List.forall_mem_cons.mpr ⟨w_1851, (List.forall_mem_cons.mpr ⟨w_105, (fun _ h => absurd h List.not_mem_nil)⟩)⟩)⟩)⟩), cw_X3_bringBack, rfl, ⟨by decide, by decide, by decide +kernel⟩, by decide⟩
theorem pf_X4_9_X4 : gFq RX4 9 3 0 (.array .int) true := ⟨RX4, TX4, 5, "PaperBoatInsurer$Offers", tyX4, rfl, by decide, rfl, uw_X4, w_305, Or.inl rfl, tyX4_ok, nmX4, rfl, by first | (intro _; rfl) | (intro h; cases h), by decide +kernel⟩
theorem pf_X4_15_X4 : gFq RX4 15 3 1 (.array .int) true := ⟨RX4, TX4, 5, "PaperBoatInsurer$Offers", tyX4, rfl, by decide, rfl, uw_X4, w_306, Or.inl rfl, tyX4_ok, nmX4, rfl, by first | (intro _; rfl) | (intro h; cases h), by decide +kernel⟩
theorem pf_X4_18_X4 : gFq RX4 18 3 2 (.array .int) true := ⟨RX4, TX4, 5, "PaperBoatInsurer$Offers", tyX4, rfl, by decide, rfl, uw_X4, w_307, Or.inl rfl, tyX4_ok, nmX4, rfl, by first | (intro _; rfl) | (intro h; cases h), by decide +kernel⟩
theorem pf_X4_21_X4 : gFq RX4 21 3 3 (.array .int) true := ⟨RX4, TX4, 5, "PaperBoatInsurer$Offers", tyX4, rfl, by decide, rfl, uw_X4, w_308, Or.inl rfl, tyX4_ok, nmX4, rfl, by first | (intro _; rfl) | (intro h; cases h), by decide +kernel⟩
theorem f_X4_9_X4 : gFl RX4 9 3 0 := ⟨RX4, TX4, 5, "PaperBoatInsurer$Offers", rfl, by decide, rfl, uw_X4, w_305, Or.inl rfl⟩
theorem s_X4_24 : gSN RX4 24 m_X11_copyRow 2 := ⟨"PaperBoatInsurer", rfl, w_718, (List.forall_mem_cons.mpr ⟨w_573, (List.forall_mem_cons.mpr ⟨w_97, (fun _ h => absurd h List.not_mem_nil)⟩)⟩), cw_X11_copyRow, ⟨by decide, by decide, by decide +kernel⟩, by decide⟩
theorem f_X4_15_X4 : gFl RX4 15 3 1 := ⟨RX4, TX4, 5, "PaperBoatInsurer$Offers", rfl, by decide, rfl, uw_X4, w_306, Or.inl rfl⟩
theorem f_X4_18_X4 : gFl RX4 18 3 2 := ⟨RX4, TX4, 5, "PaperBoatInsurer$Offers", rfl, by decide, rfl, uw_X4, w_307, Or.inl rfl⟩
theorem f_X4_28_X4 : gFl RX4 28 3 4 := ⟨RX4, TX4, 5, "PaperBoatInsurer$Offers", rfl, by decide, rfl, uw_X4, w_309, Or.inl rfl⟩
theorem pf_X4_28_X4 : gFq RX4 28 3 4 .int false := ⟨RX4, TX4, 5, "PaperBoatInsurer$Offers", tyX4, rfl, by decide, rfl, uw_X4, w_309, Or.inl rfl, tyX4_ok, nmX4, rfl, by first | (intro _; rfl) | (intro h; cases h), by decide +kernel⟩
theorem s_X4_32 : gSN RX4 32 m_X11_checkedNumber 3 := ⟨"PaperBoatInsurer", rfl, w_1122, (List.forall_mem_cons.mpr ⟨w_749, (List.forall_mem_cons.mpr ⟨w_97, (fun _ h => absurd h List.not_mem_nil)⟩)⟩), cw_X11_checkedNumber, ⟨by decide, by decide, by decide +kernel⟩, by decide⟩
theorem s_X4_36 : gSN RX4 36 m_X11_freePlace 2 := ⟨"PaperBoatInsurer", rfl, w_1123, (List.forall_mem_cons.mpr ⟨w_830, (List.forall_mem_cons.mpr ⟨w_97, (fun _ h => absurd h List.not_mem_nil)⟩)⟩), cw_X11_freePlace, ⟨by decide, by decide, by decide +kernel⟩, by decide⟩
theorem s_X4_40 : gSN RX4 40 m_X11_checkedIndex 2 := ⟨"PaperBoatInsurer", rfl, w_1135, (List.forall_mem_cons.mpr ⟨w_970, (List.forall_mem_cons.mpr ⟨w_97, (fun _ h => absurd h List.not_mem_nil)⟩)⟩), cw_X11_checkedIndex, ⟨by decide, by decide, by decide +kernel⟩, by decide⟩
theorem s_X4_43 : gSN RX4 43 m_X11_closeGap 2 := ⟨"PaperBoatInsurer", rfl, w_1136, (List.forall_mem_cons.mpr ⟨w_913, (List.forall_mem_cons.mpr ⟨w_97, (fun _ h => absurd h List.not_mem_nil)⟩)⟩), cw_X11_closeGap, ⟨by decide, by decide, by decide +kernel⟩, by decide⟩
theorem f_X4_21_X4 : gFl RX4 21 3 3 := ⟨RX4, TX4, 5, "PaperBoatInsurer$Offers", rfl, by decide, rfl, uw_X4, w_308, Or.inl rfl⟩
theorem s_X4_47_X4 : gSV RX4 47 3 m_X4_priceUntil 2 := ⟨RX4, TX4, 5, rfl, rfl, (List.forall_mem_cons.mpr ⟨w_655, (List.forall_mem_cons.mpr ⟨w_657, (List.forall_mem_cons.mpr ⟨w_8, (List.forall_mem_cons.mpr ⟨w_104, (fun _ h => absurd h List.not_mem_nil)⟩)⟩)⟩)⟩), cw_X4_priceUntil, rfl, ⟨by decide, by decide, by decide +kernel⟩, by decide⟩
theorem s_X4_55_X4 : gSV RX4 55 3 m_X4_isCover 3 := ⟨RX4, TX4, 5, rfl, rfl, (List.forall_mem_cons.mpr ⟨w_664, (List.forall_mem_cons.mpr ⟨w_666, (List.forall_mem_cons.mpr ⟨w_9, (List.forall_mem_cons.mpr ⟨w_104, (fun _ h => absurd h List.not_mem_nil)⟩)⟩)⟩)⟩), cw_X4_isCover, rfl, ⟨by decide, by decide, by decide +kernel⟩, by decide⟩
theorem s_X4_59_X4 : gSV RX4 59 3 m_X4_priceOfSet 1 := ⟨RX4, TX4, 5, rfl, rfl, (List.forall_mem_cons.mpr ⟨w_673, (List.forall_mem_cons.mpr ⟨w_675, (List.forall_mem_cons.mpr ⟨w_11, (List.forall_mem_cons.mpr ⟨w_104, (fun _ h => absurd h List.not_mem_nil)⟩)⟩)⟩)⟩), cw_X4_priceOfSet, rfl, ⟨by decide, by decide, by decide +kernel⟩, by decide⟩
theorem s_X4_63_X4 : gSV RX4 63 3 m_X4_dayAfter 2 := ⟨RX4, TX4, 5, rfl, rfl, (List.forall_mem_cons.mpr ⟨w_668, (List.forall_mem_cons.mpr ⟨w_670, (List.forall_mem_cons.mpr ⟨w_10, (List.forall_mem_cons.mpr ⟨w_104, (fun _ h => absurd h List.not_mem_nil)⟩)⟩)⟩)⟩), cw_X4_dayAfter, rfl, ⟨by decide, by decide, by decide +kernel⟩, by decide⟩
theorem s_X5_3 : gSI RX5 3 m_X6_init 1 := ⟨rfl, w_153, w_154, w_99, cw_X6_init, rfl, ⟨by decide, by decide, by decide +kernel⟩, by decide⟩
theorem pf_X5_9_X5 : gFq RX5 9 4 3 (.array .int) true := ⟨RX5, TX5, 10, "PaperBoatInsurer$Policies", tyX5, rfl, by decide, rfl, uw_X5, w_157, Or.inl rfl, tyX5_ok, nmX5, rfl, by first | (intro _; rfl) | (intro h; cases h), by decide +kernel⟩
theorem pf_X5_15_X5 : gFq RX5 15 4 4 (.array .int) true := ⟨RX5, TX5, 10, "PaperBoatInsurer$Policies", tyX5, rfl, by decide, rfl, uw_X5, w_159, Or.inl rfl, tyX5_ok, nmX5, rfl, by first | (intro _; rfl) | (intro h; cases h), by decide +kernel⟩
theorem pf_X5_18_X5 : gFq RX5 18 4 5 (.array .int) true := ⟨RX5, TX5, 10, "PaperBoatInsurer$Policies", tyX5, rfl, by decide, rfl, uw_X5, w_161, Or.inl rfl, tyX5_ok, nmX5, rfl, by first | (intro _; rfl) | (intro h; cases h), by decide +kernel⟩
theorem pf_X5_21_X5 : gFq RX5 21 4 6 (.array .int) true := ⟨RX5, TX5, 10, "PaperBoatInsurer$Policies", tyX5, rfl, by decide, rfl, uw_X5, w_162, Or.inl rfl, tyX5_ok, nmX5, rfl, by first | (intro _; rfl) | (intro h; cases h), by decide +kernel⟩
theorem pf_X5_24_X5 : gFq RX5 24 4 7 (.array .int) true := ⟨RX5, TX5, 10, "PaperBoatInsurer$Policies", tyX5, rfl, by decide, rfl, uw_X5, w_164, Or.inl rfl, tyX5_ok, nmX5, rfl, by first | (intro _; rfl) | (intro h; cases h), by decide +kernel⟩
theorem pf_X5_27_X5 : gFq RX5 27 4 8 (.array .int) true := ⟨RX5, TX5, 10, "PaperBoatInsurer$Policies", tyX5, rfl, by decide, rfl, uw_X5, w_167, Or.inl rfl, tyX5_ok, nmX5, rfl, by first | (intro _; rfl) | (intro h; cases h), by decide +kernel⟩
theorem pf_X5_30_X5 : gFq RX5 30 4 9 (.array .long) true := ⟨RX5, TX5, 10, "PaperBoatInsurer$Policies", tyX5, rfl, by decide, rfl, uw_X5, w_169, Or.inl rfl, tyX5_ok, nmX5, rfl, by first | (intro _; rfl) | (intro h; cases h), by decide +kernel⟩
theorem s_X5_34_X5 : gSU RX5 34 4 m_X6_copyIds 1 := ⟨RX5, TX5, 10, ⟨"PaperBoatInsurer$Policies", "copyIds", "(LPaperBoatInsurer$Register;)V"⟩, rfl, rfl, (List.forall_mem_cons.mpr ⟨w_689, (List.forall_mem_cons.mpr ⟨w_690, (List.forall_mem_cons.mpr ⟨w_692, (List.forall_mem_cons.mpr ⟨w_693, (List.forall_mem_cons.mpr ⟨w_99, (fun _ h => absurd h List.not_mem_nil)⟩)⟩)⟩)⟩)⟩), cw_X6_copyIds, rfl, ⟨by decide, by decide, by decide +kernel⟩, by decide⟩
theorem f_X5_9_X5 : gFl RX5 9 4 3 := ⟨RX5, TX5, 10, "PaperBoatInsurer$Policies", rfl, by decide, rfl, uw_X5, w_157, Or.inl rfl⟩
theorem s_X5_38 : gSN RX5 38 m_X11_copyRow 2 := ⟨"PaperBoatInsurer", rfl, w_696, (List.forall_mem_cons.mpr ⟨w_573, (List.forall_mem_cons.mpr ⟨w_97, (fun _ h => absurd h List.not_mem_nil)⟩)⟩), cw_X11_copyRow, ⟨by decide, by decide, by decide +kernel⟩, by decide⟩
theorem f_X5_15_X5 : gFl RX5 15 4 4 := ⟨RX5, TX5, 10, "PaperBoatInsurer$Policies", rfl, by decide, rfl, uw_X5, w_159, Or.inl rfl⟩
theorem f_X5_18_X5 : gFl RX5 18 4 5 := ⟨RX5, TX5, 10, "PaperBoatInsurer$Policies", rfl, by decide, rfl, uw_X5, w_161, Or.inl rfl⟩
theorem f_X5_21_X5 : gFl RX5 21 4 6 := ⟨RX5, TX5, 10, "PaperBoatInsurer$Policies", rfl, by decide, rfl, uw_X5, w_162, Or.inl rfl⟩
theorem f_X5_24_X5 : gFl RX5 24 4 7 := ⟨RX5, TX5, 10, "PaperBoatInsurer$Policies", rfl, by decide, rfl, uw_X5, w_164, Or.inl rfl⟩
theorem f_X5_27_X5 : gFl RX5 27 4 8 := ⟨RX5, TX5, 10, "PaperBoatInsurer$Policies", rfl, by decide, rfl, uw_X5, w_167, Or.inl rfl⟩
theorem s_X5_42 : gSN RX5 42 m_X11_checkedNumber 3 := ⟨"PaperBoatInsurer", rfl, w_748, (List.forall_mem_cons.mpr ⟨w_749, (List.forall_mem_cons.mpr ⟨w_97, (fun _ h => absurd h List.not_mem_nil)⟩)⟩), cw_X11_checkedNumber, ⟨by decide, by decide, by decide +kernel⟩, by decide⟩
theorem s_X5_46_X5 : gSU RX5 46 4 m_X6_takePlace 0 := ⟨RX5, TX5, 10, ⟨"PaperBoatInsurer$Policies", "takePlace", "()I"⟩, rfl, rfl, (List.forall_mem_cons.mpr ⟨w_823, (List.forall_mem_cons.mpr ⟨w_824, (List.forall_mem_cons.mpr ⟨w_826, (List.forall_mem_cons.mpr ⟨w_827, (List.forall_mem_cons.mpr ⟨w_99, (fun _ h => absurd h List.not_mem_nil)⟩)⟩)⟩)⟩)⟩), cw_X6_takePlace, rfl, ⟨by decide, by decide, by decide +kernel⟩, by decide⟩
theorem s_X5_56_X5 : gSU RX5 56 4 m_X6_removeId 1 := ⟨RX5, TX5, 10, ⟨"PaperBoatInsurer$Policies", "removeId", "(I)V"⟩, rfl, rfl, (List.forall_mem_cons.mpr ⟨w_906, (List.forall_mem_cons.mpr ⟨w_907, (List.forall_mem_cons.mpr ⟨w_909, (List.forall_mem_cons.mpr ⟨w_910, (List.forall_mem_cons.mpr ⟨w_99, (fun _ h => absurd h List.not_mem_nil)⟩)⟩)⟩)⟩)⟩), cw_X6_removeId, rfl, ⟨by decide, by decide, by decide +kernel⟩, by decide⟩
theorem s_X5_60 : gSN RX5 60 m_X11_closeGap 2 := ⟨"PaperBoatInsurer", rfl, w_915, (List.forall_mem_cons.mpr ⟨w_913, (List.forall_mem_cons.mpr ⟨w_97, (fun _ h => absurd h List.not_mem_nil)⟩)⟩), cw_X11_closeGap, ⟨by decide, by decide, by decide +kernel⟩, by decide⟩
theorem s_X5_64_X5 : gSV RX5 64 4 m_X5_isActiveAt 2 := ⟨RX5, TX5, 10, rfl, rfl, (List.forall_mem_cons.mpr ⟨w_495, (List.forall_mem_cons.mpr ⟨w_496, (List.forall_mem_cons.mpr ⟨w_497, (List.forall_mem_cons.mpr ⟨w_100, (fun _ h => absurd h List.not_mem_nil)⟩)⟩)⟩)⟩), cw_X5_isActiveAt, rfl, ⟨by decide, by decide, by decide +kernel⟩, by decide⟩
theorem f_X5_68_X5 : gFl RX5 68 4 0 := ⟨RX5, TX5, 10, "PaperBoatInsurer$Policies", rfl, by decide, rfl, uw_X5, w_175, Or.inr w_172⟩
theorem f_X5_71_X5 : gFl RX5 71 4 1 := ⟨RX5, TX5, 10, "PaperBoatInsurer$Policies", rfl, by decide, rfl, uw_X5, w_183, Or.inr w_184⟩
theorem f_X5_30_X5 : gFl RX5 30 4 9 := ⟨RX5, TX5, 10, "PaperBoatInsurer$Policies", rfl, by decide, rfl, uw_X5, w_169, Or.inl rfl⟩
theorem s_X5_83_X5 : gSV RX5 83 4 m_X5_addBoat 2 := ⟨RX5, TX5, 10, rfl, rfl, (List.forall_mem_cons.mpr ⟨w_617, (List.forall_mem_cons.mpr ⟨w_619, (List.forall_mem_cons.mpr ⟨w_5, (List.forall_mem_cons.mpr ⟨w_100, (fun _ h => absurd h List.not_mem_nil)⟩)⟩)⟩)⟩), cw_X5_addBoat, rfl, ⟨by decide, by decide, by decide +kernel⟩, by decide⟩
theorem s_X5_90_X5 : gSV RX5 90 4 m_X5_lossOfSet 1 := ⟨RX5, TX5, 10, rfl, rfl, (List.forall_mem_cons.mpr ⟨w_626, (List.forall_mem_cons.mpr ⟨w_628, (List.forall_mem_cons.mpr ⟨w_6, (List.forall_mem_cons.mpr ⟨w_100, (fun _ h => absurd h List.not_mem_nil)⟩)⟩)⟩)⟩), cw_X5_lossOfSet, rfl, ⟨by decide, by decide, by decide +kernel⟩, by decide⟩
theorem s_X5_94_X5 : gSV RX5 94 4 m_X5_waysOfSet 2 := ⟨RX5, TX5, 10, rfl, rfl, (List.forall_mem_cons.mpr ⟨w_630, (List.forall_mem_cons.mpr ⟨w_632, (List.forall_mem_cons.mpr ⟨w_7, (List.forall_mem_cons.mpr ⟨w_100, (fun _ h => absurd h List.not_mem_nil)⟩)⟩)⟩)⟩), cw_X5_waysOfSet, rfl, ⟨by decide, by decide, by decide +kernel⟩, by decide⟩
theorem pf_X6_7_X5 : gFq RX6 7 4 0 (.array .int) true := ⟨RX5, TX5, 10, "PaperBoatInsurer$Register", tyX5, rfl, by decide, rfl, uw_X5, w_170, Or.inl rfl, tyX5_ok, nmX5, rfl, by first | (intro _; rfl) | (intro h; cases h), by decide +kernel⟩
theorem pf_X6_7_X2 : gFq RX6 7 1 0 (.array .int) true := ⟨RX2, TX2, 9, "PaperBoatInsurer$Register", tyX2, rfl, by decide, rfl, uw_X2, w_170, Or.inl rfl, tyX2_ok, nmX2, rfl, by first | (intro _; rfl) | (intro h; cases h), by decide +kernel⟩
theorem f_X6_7_X5 : gFl RX6 7 4 0 := ⟨RX5, TX5, 10, "PaperBoatInsurer$Register", rfl, by decide, rfl, uw_X5, w_170, Or.inl rfl⟩
theorem f_X6_7_X2 : gFl RX6 7 1 0 := ⟨RX2, TX2, 9, "PaperBoatInsurer$Register", rfl, by decide, rfl, uw_X2, w_170, Or.inl rfl⟩
theorem s_X6_13 : gSN RX6 13 m_X11_copyRow 2 := ⟨"PaperBoatInsurer", rfl, w_695, (List.forall_mem_cons.mpr ⟨w_573, (List.forall_mem_cons.mpr ⟨w_97, (fun _ h => absurd h List.not_mem_nil)⟩)⟩), cw_X11_copyRow, ⟨by decide, by decide, by decide +kernel⟩, by decide⟩
theorem f_X6_19_X5 : gFl RX6 19 4 1 := ⟨RX5, TX5, 10, "PaperBoatInsurer$Register", rfl, by decide, rfl, uw_X5, w_179, Or.inl rfl⟩
theorem f_X6_19_X2 : gFl RX6 19 1 1 := ⟨RX2, TX2, 9, "PaperBoatInsurer$Register", rfl, by decide, rfl, uw_X2, w_179, Or.inl rfl⟩
theorem pf_X6_19_X5 : gFq RX6 19 4 1 .int false := ⟨RX5, TX5, 10, "PaperBoatInsurer$Register", tyX5, rfl, by decide, rfl, uw_X5, w_179, Or.inl rfl, tyX5_ok, nmX5, rfl, by first | (intro _; rfl) | (intro h; cases h), by decide +kernel⟩
theorem pf_X6_19_X2 : gFq RX6 19 1 1 .int false := ⟨RX2, TX2, 9, "PaperBoatInsurer$Register", tyX2, rfl, by decide, rfl, uw_X2, w_179, Or.inl rfl, tyX2_ok, nmX2, rfl, by first | (intro _; rfl) | (intro h; cases h), by decide +kernel⟩
theorem f_X6_23_X5 : gFl RX6 23 4 2 := ⟨RX5, TX5, 10, "PaperBoatInsurer$Register", rfl, by decide, rfl, uw_X5, w_187, Or.inl rfl⟩
theorem f_X6_23_X2 : gFl RX6 23 1 2 := ⟨RX2, TX2, 9, "PaperBoatInsurer$Register", rfl, by decide, rfl, uw_X2, w_187, Or.inl rfl⟩
theorem pf_X6_23_X5 : gFq RX6 23 4 2 .int false := ⟨RX5, TX5, 10, "PaperBoatInsurer$Register", tyX5, rfl, by decide, rfl, uw_X5, w_187, Or.inl rfl, tyX5_ok, nmX5, rfl, by first | (intro _; rfl) | (intro h; cases h), by decide +kernel⟩
theorem pf_X6_23_X2 : gFq RX6 23 1 2 .int false := ⟨RX2, TX2, 9, "PaperBoatInsurer$Register", tyX2, rfl, by decide, rfl, uw_X2, w_187, Or.inl rfl, tyX2_ok, nmX2, rfl, by first | (intro _; rfl) | (intro h; cases h), by decide +kernel⟩
theorem s_X6_26 : gSN RX6 26 m_X11_find 3 := ⟨"PaperBoatInsurer", rfl, w_875, (List.forall_mem_cons.mpr ⟨w_876, (List.forall_mem_cons.mpr ⟨w_97, (fun _ h => absurd h List.not_mem_nil)⟩)⟩), cw_X11_find, ⟨by decide, by decide, by decide +kernel⟩, by decide⟩
theorem s_X6_37 : gSN RX6 37 m_X11_freePlace 2 := ⟨"PaperBoatInsurer", rfl, w_829, (List.forall_mem_cons.mpr ⟨w_830, (List.forall_mem_cons.mpr ⟨w_97, (fun _ h => absurd h List.not_mem_nil)⟩)⟩), cw_X11_freePlace, ⟨by decide, by decide, by decide +kernel⟩, by decide⟩
theorem s_X6_41 : gSN RX6 41 m_X11_closeGap 2 := ⟨"PaperBoatInsurer", rfl, w_912, (List.forall_mem_cons.mpr ⟨w_913, (List.forall_mem_cons.mpr ⟨w_97, (fun _ h => absurd h List.not_mem_nil)⟩)⟩), cw_X11_closeGap, ⟨by decide, by decide, by decide +kernel⟩, by decide⟩
theorem s_X6_45_X5 : gSU RX6 45 4 m_X6_countAhead 1 := ⟨RX5, TX5, 10, yX6_countAhead, rfl, rfl, (List.forall_mem_cons.mpr ⟨w_1369, (List.forall_mem_cons.mpr ⟨w_2538, (List.forall_mem_cons.mpr ⟨gx_5, (List.forall_mem_cons.mpr ⟨w_1371, (List.forall_mem_cons.mpr ⟨w_99, (fun _ h => absurd h List.not_mem_nil)⟩)⟩)⟩)⟩)⟩), cw_X6_countAhead, rfl, ⟨by decide, by decide, by decide +kernel⟩, by decide⟩
theorem s_X6_45_X2 : gSU RX6 45 1 m_X6_countAhead 1 := ⟨RX2, TX2, 9, yX6_countAhead, rfl, rfl, (List.forall_mem_cons.mpr ⟨w_1369, (List.forall_mem_cons.mpr ⟨w_2538, (List.forall_mem_cons.mpr ⟨gx_2, (List.forall_mem_cons.mpr ⟨w_1371, (List.forall_mem_cons.mpr ⟨w_99, (fun _ h => absurd h List.not_mem_nil)⟩)⟩)⟩)⟩)⟩), cw_X6_countAhead, rfl, ⟨by decide, by decide, by decide +kernel⟩, by decide⟩
theorem s_X6_51_X5 : gSA RX6 51 4 m_X5_isAhead 2 := ⟨RX5, TX5, 10, ⟨"PaperBoatInsurer$Register", "isAhead", "(II)Z"⟩, "PaperBoatInsurer$Register", rfl, rfl, (List.forall_mem_cons.mpr ⟨w_1373, (List.forall_mem_cons.mpr ⟨w_1375, (List.forall_mem_cons.mpr ⟨w_1380, (List.forall_mem_cons.mpr ⟨w_1381, (List.forall_mem_cons.mpr ⟨w_100, (fun _ h => absurd h List.not_mem_nil)⟩)⟩)⟩)⟩)⟩), cw_X5_isAhead, w_1374, ⟨by decide, by decide, by decide +kernel⟩, by decide⟩
theorem s_X6_51_X2 : gSA RX6 51 1 m_X2_isAhead 2 := ⟨RX2, TX2, 9, ⟨"PaperBoatInsurer$Register", "isAhead", "(II)Z"⟩, "PaperBoatInsurer$Register", rfl, rfl, (List.forall_mem_cons.mpr ⟨w_1373, (List.forall_mem_cons.mpr ⟨w_1375, (List.forall_mem_cons.mpr ⟨w_1376, (List.forall_mem_cons.mpr ⟨w_1377, (List.forall_mem_cons.mpr ⟨w_101, (fun _ h => absurd h List.not_mem_nil)⟩)⟩)⟩)⟩)⟩), cw_X2_isAhead, w_1374, ⟨by decide, by decide, by decide +kernel⟩, by decide⟩
theorem pf_X7_12_X7 : gFq RX7 12 5 0 (.object "java/lang/StringBuilder") true := ⟨RX7, TX7, 4, "PaperBoatInsurer$Script", tyX7, rfl, by decide, rfl, uw_X7, w_426, Or.inl rfl, tyX7_ok, nmX7, rfl, by first | (intro _; rfl) | (intro h; cases h), by decide +kernel⟩
theorem pf_X7_18_X7 : gFq RX7 18 5 1 (.array .int) true := ⟨RX7, TX7, 4, "PaperBoatInsurer$Script", tyX7, rfl, by decide, rfl, uw_X7, w_427, Or.inl rfl, tyX7_ok, nmX7, rfl, by first | (intro _; rfl) | (intro h; cases h), by decide +kernel⟩
theorem f_X7_12_X7 : gFl RX7 12 5 0 := ⟨RX7, TX7, 4, "PaperBoatInsurer$Script", rfl, by decide, rfl, uw_X7, w_426, Or.inl rfl⟩
theorem pf_X7_41_X7 : gFq RX7 41 5 3 .int false := ⟨RX7, TX7, 4, "PaperBoatInsurer$Script", tyX7, rfl, by decide, rfl, uw_X7, w_429, Or.inl rfl, tyX7_ok, nmX7, rfl, by first | (intro _; rfl) | (intro h; cases h), by decide +kernel⟩
theorem s_X7_45_X7 : gSV RX7 45 5 m_X7_readCommand 0 := ⟨RX7, TX7, 4, rfl, rfl, (List.forall_mem_cons.mpr ⟨w_1760, (List.forall_mem_cons.mpr ⟨w_1762, (List.forall_mem_cons.mpr ⟨w_15, (List.forall_mem_cons.mpr ⟨w_106, (fun _ h => absurd h List.not_mem_nil)⟩)⟩)⟩)⟩), cw_X7_readCommand, rfl, ⟨by decide, by decide, by decide +kernel⟩, by decide⟩
theorem f_X7_41_X7 : gFl RX7 41 5 3 := ⟨RX7, TX7, 4, "PaperBoatInsurer$Script", rfl, by decide, rfl, uw_X7, w_429, Or.inl rfl⟩
theorem s_X7_53_X7 : gSW RX7 53 5 m_X7_isDone 1 := ⟨RX7, TX7, 4, rfl, by decide, (List.forall_mem_cons.mpr ⟨w_1818, (List.forall_mem_cons.mpr ⟨w_1820, (List.forall_mem_cons.mpr ⟨w_21, (List.forall_mem_cons.mpr ⟨w_106, (fun _ h => absurd h List.not_mem_nil)⟩)⟩)⟩)⟩), cw_X7_isDone, rfl, ⟨by decide, by decide, by decide +kernel⟩, by decide⟩
theorem s_X7_67_X7 : gSV RX7 67 5 m_X7_fits 1 := ⟨RX7, TX7, 4, rfl, rfl, (List.forall_mem_cons.mpr ⟨w_1766, (List.forall_mem_cons.mpr ⟨w_1768, (List.forall_mem_cons.mpr ⟨w_16, (List.forall_mem_cons.mpr ⟨w_106, (fun _ h => absurd h List.not_mem_nil)⟩)⟩)⟩)⟩), cw_X7_fits, rfl, ⟨by decide, by decide, by decide +kernel⟩, by decide⟩
theorem pf_X7_71_X7 : gFq RX7 71 5 2 (.object "PaperBoatInsurer$Verb") false := ⟨RX7, TX7, 4, "PaperBoatInsurer$Script", tyX7, rfl, by decide, rfl, uw_X7, w_428, Or.inl rfl, tyX7_ok, nmX7, rfl, by first | (intro _; rfl) | (intro h; cases h), by decide +kernel⟩
theorem s_X7_85_X7 : gSV RX7 85 5 m_X7_readSign 1 := ⟨RX7, TX7, 4, rfl, rfl, (List.forall_mem_cons.mpr ⟨w_1786, (List.forall_mem_cons.mpr ⟨w_1788, (List.forall_mem_cons.mpr ⟨w_17, (List.forall_mem_cons.mpr ⟨w_106, (fun _ h => absurd h List.not_mem_nil)⟩)⟩)⟩)⟩), cw_X7_readSign, rfl, ⟨by decide, by decide, by decide +kernel⟩, by decide⟩
theorem s_X7_89 : gSS RX7 89 m_X7_isPlaceholder 1 := ⟨rfl, (List.forall_mem_cons.mpr ⟨w_1804, (List.forall_mem_cons.mpr ⟨w_1805, (List.forall_mem_cons.mpr ⟨w_106, (fun _ h => absurd h List.not_mem_nil)⟩)⟩)⟩), cw_X7_isPlaceholder, ⟨by decide, by decide, by decide +kernel⟩, by decide⟩
theorem f_X7_18_X7 : gFl RX7 18 5 1 := ⟨RX7, TX7, 4, "PaperBoatInsurer$Script", rfl, by decide, rfl, uw_X7, w_427, Or.inl rfl⟩
theorem s_X7_93_X7 : gSV RX7 93 5 m_X7_readNumber 0 := ⟨RX7, TX7, 4, rfl, rfl, (List.forall_mem_cons.mpr ⟨w_1790, (List.forall_mem_cons.mpr ⟨w_1792, (List.forall_mem_cons.mpr ⟨w_18, (List.forall_mem_cons.mpr ⟨w_106, (fun _ h => absurd h List.not_mem_nil)⟩)⟩)⟩)⟩), cw_X7_readNumber, rfl, ⟨by decide, by decide, by decide +kernel⟩, by decide⟩
theorem s_X7_96_X7 : gSV RX7 96 5 m_X7_readDigit 0 := ⟨RX7, TX7, 4, rfl, rfl, (List.forall_mem_cons.mpr ⟨w_1794, (List.forall_mem_cons.mpr ⟨w_1796, (List.forall_mem_cons.mpr ⟨w_19, (List.forall_mem_cons.mpr ⟨w_106, (fun _ h => absurd h List.not_mem_nil)⟩)⟩)⟩)⟩), cw_X7_readDigit, rfl, ⟨by decide, by decide, by decide +kernel⟩, by decide⟩
theorem s_X7_99_X7 : gSV RX7 99 5 m_X7_readCharacter 1 := ⟨RX7, TX7, 4, rfl, rfl, (List.forall_mem_cons.mpr ⟨w_1799, (List.forall_mem_cons.mpr ⟨w_1801, (List.forall_mem_cons.mpr ⟨w_20, (List.forall_mem_cons.mpr ⟨w_106, (fun _ h => absurd h List.not_mem_nil)⟩)⟩)⟩)⟩), cw_X7_readCharacter, rfl, ⟨by decide, by decide, by decide +kernel⟩, by decide⟩
theorem s_X7_102 : gSN RX7 102 m_X11_isCause 1 := ⟨"PaperBoatInsurer", rfl, w_1803, (List.forall_mem_cons.mpr ⟨w_1009, (List.forall_mem_cons.mpr ⟨w_97, (fun _ h => absurd h List.not_mem_nil)⟩)⟩), cw_X11_isCause, ⟨by decide, by decide, by decide +kernel⟩, by decide⟩
theorem s_X7_105_X7 : gSV RX7 105 5 m_X7_execute 1 := ⟨RX7, TX7, 4, rfl, rfl, (List.forall_mem_cons.mpr ⟨w_1825, (List.forall_mem_cons.mpr ⟨w_1827, (List.forall_mem_cons.mpr ⟨w_22, (List.forall_mem_cons.mpr ⟨w_106, (fun _ h => absurd h List.not_mem_nil)⟩)⟩)⟩)⟩), cw_X7_execute, rfl, ⟨by decide, by decide, by decide +kernel⟩, by decide⟩
theorem f_X7_71_X7 : gFl RX7 71 5 2 := ⟨RX7, TX7, 4, "PaperBoatInsurer$Script", rfl, by decide, rfl, uw_X7, w_428, Or.inl rfl⟩
theorem f_X7_117_X1 : gFl RX7 117 0 2 := ⟨RX1, TX1, 12, "PaperBoatInsurer$Book", rfl, by decide, rfl, uw_X1, w_327, Or.inl rfl⟩
theorem f_X7_123_X8 : gFl RX7 123 6 6 := ⟨RX8, TX8, 7, "PaperBoatInsurer$Treaties", rfl, by decide, rfl, uw_X8, w_270, Or.inl rfl⟩
theorem s_X7_136_X1 : gSV RX7 136 0 m_X1_makePolicy 3 := ⟨RX1, TX1, 12, rfl, rfl, (List.forall_mem_cons.mpr ⟨w_1839, (List.forall_mem_cons.mpr ⟨w_741, (List.forall_mem_cons.mpr ⟨w_742, (List.forall_mem_cons.mpr ⟨w_98, (fun _ h => absurd h List.not_mem_nil)⟩)⟩)⟩)⟩), cw_X1_makePolicy, rfl, ⟨by decide, by decide, by decide +kernel⟩, by decide⟩
theorem s_X7_140_X1 : gSV RX7 140 0 m_X1_removePolicy 1 := ⟨RX1, TX1, 12, rfl, rfl, (List.forall_mem_cons.mpr ⟨w_1840, (List.forall_mem_cons.mpr ⟨w_866, (List.forall_mem_cons.mpr ⟨w_867, (List.forall_mem_cons.mpr ⟨w_98, (fun _ h => absurd h List.not_mem_nil)⟩)⟩)⟩)⟩), cw_X1_removePolicy, rfl, ⟨by decide, by decide, by decide +kernel⟩, by decide⟩
theorem s_X7_144_X1 : gSV RX7 144 0 m_X1_makeTreaty 4 := ⟨RX1, TX1, 12, rfl, rfl, (List.forall_mem_cons.mpr ⟨w_1841, (List.forall_mem_cons.mpr ⟨w_924, (List.forall_mem_cons.mpr ⟨w_925, (List.forall_mem_cons.mpr ⟨w_98, (fun _ h => absurd h List.not_mem_nil)⟩)⟩)⟩)⟩), cw_X1_makeTreaty, rfl, ⟨by decide, by decide, by decide +kernel⟩, by decide⟩
theorem s_X7_148_X1 : gSV RX7 148 0 m_X1_removeTreaty 1 := ⟨RX1, TX1, 12, rfl, rfl, (List.forall_mem_cons.mpr ⟨w_1842, (List.forall_mem_cons.mpr ⟨w_966, (List.forall_mem_cons.mpr ⟨w_967, (List.forall_mem_cons.mpr ⟨w_98, (fun _ h => absurd h List.not_mem_nil)⟩)⟩)⟩)⟩), cw_X1_removeTreaty, rfl, ⟨by decide, by decide, by decide +kernel⟩, by decide⟩
theorem s_X7_151_X1 : gSV RX7 151 0 m_X1_makeClaim 3 := ⟨RX1, TX1, 12, rfl, rfl, (List.forall_mem_cons.mpr ⟨w_1843, (List.forall_mem_cons.mpr ⟨w_1005, (List.forall_mem_cons.mpr ⟨w_1006, (List.forall_mem_cons.mpr ⟨w_98, (fun _ h => absurd h List.not_mem_nil)⟩)⟩)⟩)⟩), cw_X1_makeClaim, rfl, ⟨by decide, by decide, by decide +kernel⟩, by decide⟩
theorem s_X7_155_X1 : gSV RX7 155 0 m_X1_payPart 2 := ⟨RX1, TX1, 12, rfl, rfl, (List.forall_mem_cons.mpr ⟨w_1844, (List.forall_mem_cons.mpr ⟨w_1056, (List.forall_mem_cons.mpr ⟨w_1057, (List.forall_mem_cons.mpr ⟨w_98, (fun _ h => absurd h List.not_mem_nil)⟩)⟩)⟩)⟩), cw_X1_payPart, rfl, ⟨by decide, by decide, by decide +kernel⟩, by decide⟩
theorem s_X7_158_X1 : gSV RX7 158 0 m_X1_removePaidClaim 1 := ⟨RX1, TX1, 12, rfl, rfl, (List.forall_mem_cons.mpr ⟨w_1845, (List.forall_mem_cons.mpr ⟨w_1084, (List.forall_mem_cons.mpr ⟨w_1085, (List.forall_mem_cons.mpr ⟨w_98, (fun _ h => absurd h List.not_mem_nil)⟩)⟩)⟩)⟩), cw_X1_removePaidClaim, rfl, ⟨by decide, by decide, by decide +kernel⟩, by decide⟩
theorem s_X7_161_X1 : gSV RX7 161 0 m_X1_removeUnpaidClaim 1 := ⟨RX1, TX1, 12, rfl, rfl, (List.forall_mem_cons.mpr ⟨w_1846, (List.forall_mem_cons.mpr ⟨w_1103, (List.forall_mem_cons.mpr ⟨w_1104, (List.forall_mem_cons.mpr ⟨w_98, (fun _ h => absurd h List.not_mem_nil)⟩)⟩)⟩)⟩), cw_X1_removeUnpaidClaim, rfl, ⟨by decide, by decide, by decide +kernel⟩, by decide⟩
theorem f_X7_164_X1 : gFl RX7 164 0 4 := ⟨RX1, TX1, 12, "PaperBoatInsurer$Book", rfl, by decide, rfl, uw_X1, w_333, Or.inl rfl⟩
theorem s_X7_168_X4 : gSV RX7 168 3 m_X4_add 3 := ⟨RX4, TX4, 5, rfl, rfl, (List.forall_mem_cons.mpr ⟨w_1847, (List.forall_mem_cons.mpr ⟨w_1119, (List.forall_mem_cons.mpr ⟨w_1120, (List.forall_mem_cons.mpr ⟨w_104, (fun _ h => absurd h List.not_mem_nil)⟩)⟩)⟩)⟩), cw_X4_add, rfl, ⟨by decide, by decide, by decide +kernel⟩, by decide⟩
theorem s_X7_173_X1 : gSV RX7 173 0 m_X1_advance 1 := ⟨RX1, TX1, 12, rfl, rfl, (List.forall_mem_cons.mpr ⟨w_1848, (List.forall_mem_cons.mpr ⟨w_1145, (List.forall_mem_cons.mpr ⟨w_1146, (List.forall_mem_cons.mpr ⟨w_98, (fun _ h => absurd h List.not_mem_nil)⟩)⟩)⟩)⟩), cw_X1_advance, rfl, ⟨by decide, by decide, by decide +kernel⟩, by decide⟩
theorem pf_X8_9_X8 : gFq RX8 9 6 0 (.array .int) true := ⟨RX8, TX8, 7, "PaperBoatInsurer$Treaties", tyX8, rfl, by decide, rfl, uw_X8, w_258, Or.inl rfl, tyX8_ok, nmX8, rfl, by first | (intro _; rfl) | (intro h; cases h), by decide +kernel⟩
theorem pf_X8_15_X8 : gFq RX8 15 6 1 (.array .int) true := ⟨RX8, TX8, 7, "PaperBoatInsurer$Treaties", tyX8, rfl, by decide, rfl, uw_X8, w_260, Or.inl rfl, tyX8_ok, nmX8, rfl, by first | (intro _; rfl) | (intro h; cases h), by decide +kernel⟩
theorem pf_X8_18_X8 : gFq RX8 18 6 2 (.array .int) true := ⟨RX8, TX8, 7, "PaperBoatInsurer$Treaties", tyX8, rfl, by decide, rfl, uw_X8, w_261, Or.inl rfl, tyX8_ok, nmX8, rfl, by first | (intro _; rfl) | (intro h; cases h), by decide +kernel⟩
theorem pf_X8_21_X8 : gFq RX8 21 6 3 (.array .int) true := ⟨RX8, TX8, 7, "PaperBoatInsurer$Treaties", tyX8, rfl, by decide, rfl, uw_X8, w_264, Or.inl rfl, tyX8_ok, nmX8, rfl, by first | (intro _; rfl) | (intro h; cases h), by decide +kernel⟩
theorem pf_X8_24_X8 : gFq RX8 24 6 4 (.array .int) true := ⟨RX8, TX8, 7, "PaperBoatInsurer$Treaties", tyX8, rfl, by decide, rfl, uw_X8, w_266, Or.inl rfl, tyX8_ok, nmX8, rfl, by first | (intro _; rfl) | (intro h; cases h), by decide +kernel⟩
theorem pf_X8_27_X8 : gFq RX8 27 6 5 (.array .int) true := ⟨RX8, TX8, 7, "PaperBoatInsurer$Treaties", tyX8, rfl, by decide, rfl, uw_X8, w_267, Or.inl rfl, tyX8_ok, nmX8, rfl, by first | (intro _; rfl) | (intro h; cases h), by decide +kernel⟩
theorem f_X8_9_X8 : gFl RX8 9 6 0 := ⟨RX8, TX8, 7, "PaperBoatInsurer$Treaties", rfl, by decide, rfl, uw_X8, w_258, Or.inl rfl⟩
theorem s_X8_30 : gSN RX8 30 m_X11_copyRow 2 := ⟨"PaperBoatInsurer", rfl, w_572, (List.forall_mem_cons.mpr ⟨w_573, (List.forall_mem_cons.mpr ⟨w_97, (fun _ h => absurd h List.not_mem_nil)⟩)⟩), cw_X11_copyRow, ⟨by decide, by decide, by decide +kernel⟩, by decide⟩
theorem f_X8_15_X8 : gFl RX8 15 6 1 := ⟨RX8, TX8, 7, "PaperBoatInsurer$Treaties", rfl, by decide, rfl, uw_X8, w_260, Or.inl rfl⟩
theorem f_X8_18_X8 : gFl RX8 18 6 2 := ⟨RX8, TX8, 7, "PaperBoatInsurer$Treaties", rfl, by decide, rfl, uw_X8, w_261, Or.inl rfl⟩
theorem f_X8_21_X8 : gFl RX8 21 6 3 := ⟨RX8, TX8, 7, "PaperBoatInsurer$Treaties", rfl, by decide, rfl, uw_X8, w_264, Or.inl rfl⟩
theorem f_X8_34_X8 : gFl RX8 34 6 6 := ⟨RX8, TX8, 7, "PaperBoatInsurer$Treaties", rfl, by decide, rfl, uw_X8, w_268, Or.inl rfl⟩
theorem pf_X8_34_X8 : gFq RX8 34 6 6 .int false := ⟨RX8, TX8, 7, "PaperBoatInsurer$Treaties", tyX8, rfl, by decide, rfl, uw_X8, w_268, Or.inl rfl, tyX8_ok, nmX8, rfl, by first | (intro _; rfl) | (intro h; cases h), by decide +kernel⟩
theorem s_X8_38 : gSN RX8 38 m_X11_checkedNumber 3 := ⟨"PaperBoatInsurer", rfl, w_932, (List.forall_mem_cons.mpr ⟨w_749, (List.forall_mem_cons.mpr ⟨w_97, (fun _ h => absurd h List.not_mem_nil)⟩)⟩), cw_X11_checkedNumber, ⟨by decide, by decide, by decide +kernel⟩, by decide⟩
theorem s_X8_42 : gSN RX8 42 m_X11_freePlace 2 := ⟨"PaperBoatInsurer", rfl, w_933, (List.forall_mem_cons.mpr ⟨w_830, (List.forall_mem_cons.mpr ⟨w_97, (fun _ h => absurd h List.not_mem_nil)⟩)⟩), cw_X11_freePlace, ⟨by decide, by decide, by decide +kernel⟩, by decide⟩
theorem s_X8_46 : gSN RX8 46 m_X11_closeGap 2 := ⟨"PaperBoatInsurer", rfl, w_990, (List.forall_mem_cons.mpr ⟨w_913, (List.forall_mem_cons.mpr ⟨w_97, (fun _ h => absurd h List.not_mem_nil)⟩)⟩), cw_X11_closeGap, ⟨by decide, by decide, by decide +kernel⟩, by decide⟩
theorem f_X8_24_X8 : gFl RX8 24 6 4 := ⟨RX8, TX8, 7, "PaperBoatInsurer$Treaties", rfl, by decide, rfl, uw_X8, w_266, Or.inl rfl⟩
theorem f_X8_27_X8 : gFl RX8 27 6 5 := ⟨RX8, TX8, 7, "PaperBoatInsurer$Treaties", rfl, by decide, rfl, uw_X8, w_267, Or.inl rfl⟩
theorem s_X8_55_X8 : gSV RX8 55 6 m_X8_bearCoins 3 := ⟨RX8, TX8, 7, rfl, rfl, (List.forall_mem_cons.mpr ⟨w_598, (List.forall_mem_cons.mpr ⟨w_599, (List.forall_mem_cons.mpr ⟨w_600, (List.forall_mem_cons.mpr ⟨w_102, (fun _ h => absurd h List.not_mem_nil)⟩)⟩)⟩)⟩), cw_X8_bearCoins, rfl, ⟨by decide, by decide, by decide +kernel⟩, by decide⟩
theorem s_X8_59 : gSN RX8 59 m_X11_sumOfRow 2 := ⟨"PaperBoatInsurer", rfl, w_602, (List.forall_mem_cons.mpr ⟨w_603, (List.forall_mem_cons.mpr ⟨w_97, (fun _ h => absurd h List.not_mem_nil)⟩)⟩), cw_X11_sumOfRow, ⟨by decide, by decide, by decide +kernel⟩, by decide⟩
theorem s_X8_63_X8 : gSV RX8 63 6 m_X8_treatyOf 2 := ⟨RX8, TX8, 7, rfl, rfl, (List.forall_mem_cons.mpr ⟨w_579, (List.forall_mem_cons.mpr ⟨w_581, (List.forall_mem_cons.mpr ⟨w_3, (List.forall_mem_cons.mpr ⟨w_102, (fun _ h => absurd h List.not_mem_nil)⟩)⟩)⟩)⟩), cw_X8_treatyOf, rfl, ⟨by decide, by decide, by decide +kernel⟩, by decide⟩
theorem s_X8_67_X8 : gSV RX8 67 6 m_X8_endOfRun 3 := ⟨RX8, TX8, 7, rfl, rfl, (List.forall_mem_cons.mpr ⟨w_583, (List.forall_mem_cons.mpr ⟨w_585, (List.forall_mem_cons.mpr ⟨w_4, (List.forall_mem_cons.mpr ⟨w_102, (fun _ h => absurd h List.not_mem_nil)⟩)⟩)⟩)⟩), cw_X8_endOfRun, rfl, ⟨by decide, by decide, by decide +kernel⟩, by decide⟩
theorem pf_X9_11_X9 : gFq RX9 11 7 0 (.array (.array .int)) true := ⟨RX9, TX9, 1, "PaperBoatInsurer$Triangle", tyX9, rfl, by decide, rfl, uw_X9, w_294, Or.inl rfl, tyX9_ok, nmX9, rfl, by first | (intro _; rfl) | (intro h; cases h), by decide +kernel⟩
theorem f_X9_11_X9 : gFl RX9 11 7 0 := ⟨RX9, TX9, 1, "PaperBoatInsurer$Triangle", rfl, by decide, rfl, uw_X9, w_294, Or.inl rfl⟩
theorem s_X9_16 : gSN RX9 16 m_X11_copyRow 2 := ⟨"PaperBoatInsurer", rfl, w_713, (List.forall_mem_cons.mpr ⟨w_573, (List.forall_mem_cons.mpr ⟨w_97, (fun _ h => absurd h List.not_mem_nil)⟩)⟩), cw_X11_copyRow, ⟨by decide, by decide, by decide +kernel⟩, by decide⟩
theorem s_X9_20_X9 : gSV RX9 20 7 m_X9_totalOf 2 := ⟨RX9, TX9, 1, rfl, rfl, (List.forall_mem_cons.mpr ⟨w_532, (List.forall_mem_cons.mpr ⟨w_534, (List.forall_mem_cons.mpr ⟨w_0, (List.forall_mem_cons.mpr ⟨w_103, (fun _ h => absurd h List.not_mem_nil)⟩)⟩)⟩)⟩), cw_X9_totalOf, rfl, ⟨by decide, by decide, by decide +kernel⟩, by decide⟩
theorem s_X9_24_X9 : gSV RX9 24 7 m_X9_timesFactor 3 := ⟨RX9, TX9, 1, rfl, rfl, (List.forall_mem_cons.mpr ⟨w_536, (List.forall_mem_cons.mpr ⟨w_538, (List.forall_mem_cons.mpr ⟨w_1, (List.forall_mem_cons.mpr ⟨w_103, (fun _ h => absurd h List.not_mem_nil)⟩)⟩)⟩)⟩), cw_X9_timesFactor, rfl, ⟨by decide, by decide, by decide +kernel⟩, by decide⟩
theorem s_X9_28 : gSS RX9 28 m_X9_valueAt 4 := ⟨rfl, (List.forall_mem_cons.mpr ⟨w_644, (List.forall_mem_cons.mpr ⟨w_645, (List.forall_mem_cons.mpr ⟨w_103, (fun _ h => absurd h List.not_mem_nil)⟩)⟩)⟩), cw_X9_valueAt, ⟨by decide, by decide, by decide +kernel⟩, by decide⟩
theorem s_X9_32_X9 : gSV RX9 32 7 m_X9_totalOfPeriods 2 := ⟨RX9, TX9, 1, rfl, rfl, (List.forall_mem_cons.mpr ⟨w_540, (List.forall_mem_cons.mpr ⟨w_542, (List.forall_mem_cons.mpr ⟨w_2, (List.forall_mem_cons.mpr ⟨w_103, (fun _ h => absurd h List.not_mem_nil)⟩)⟩)⟩)⟩), cw_X9_totalOfPeriods, rfl, ⟨by decide, by decide, by decide +kernel⟩, by decide⟩
theorem s_X9_41_X9 : gSV RX9 41 7 m_X9_projectByDelays 2 := ⟨RX9, TX9, 1, rfl, rfl, (List.forall_mem_cons.mpr ⟨w_528, (List.forall_mem_cons.mpr ⟨w_529, (List.forall_mem_cons.mpr ⟨w_530, (List.forall_mem_cons.mpr ⟨w_103, (fun _ h => absurd h List.not_mem_nil)⟩)⟩)⟩)⟩), cw_X9_projectByDelays, rfl, ⟨by decide, by decide, by decide +kernel⟩, by decide⟩
theorem s_X11_9 : gSJ RX11 9 m_X1_init 0 := ⟨"PaperBoatInsurer", rfl, w_144, w_145, w_98, cw_X1_init, rfl, ⟨by decide, by decide, by decide +kernel⟩, by decide⟩
theorem pf_X11_10_X11 : gFq RX11 10 8 0 (.object "PaperBoatInsurer$Book") true := ⟨RX11, TX11, 8, "PaperBoatInsurer", tyX11, rfl, by decide, rfl, uw_X11, w_442, Or.inl rfl, tyX11_ok, nmX11, rfl, by first | (intro _; rfl) | (intro h; cases h), by decide +kernel⟩
theorem pf_X11_16_X11 : gFq RX11 16 8 1 (.object "PaperBoatInsurer$Book") true := ⟨RX11, TX11, 8, "PaperBoatInsurer", tyX11, rfl, by decide, rfl, uw_X11, w_443, Or.inl rfl, tyX11_ok, nmX11, rfl, by first | (intro _; rfl) | (intro h; cases h), by decide +kernel⟩
theorem s_X11_21 : gSI RX11 21 m_X3_init 0 := ⟨rfl, w_370, w_371, w_105, cw_X3_init, rfl, ⟨by decide, by decide, by decide +kernel⟩, by decide⟩
theorem pf_X11_22_X11 : gFq RX11 22 8 2 (.object "PaperBoatInsurer$History") true := ⟨RX11, TX11, 8, "PaperBoatInsurer", tyX11, rfl, by decide, rfl, uw_X11, w_444, Or.inl rfl, tyX11_ok, nmX11, rfl, by first | (intro _; rfl) | (intro h; cases h), by decide +kernel⟩
theorem s_X11_28 : gSJ RX11 28 m_X7_init 0 := ⟨"PaperBoatInsurer", rfl, w_389, w_390, w_106, cw_X7_init, rfl, ⟨by decide, by decide, by decide +kernel⟩, by decide⟩
theorem pf_X11_29_X11 : gFq RX11 29 8 3 (.object "PaperBoatInsurer$Script") true := ⟨RX11, TX11, 8, "PaperBoatInsurer", tyX11, rfl, by decide, rfl, uw_X11, w_445, Or.inl rfl, tyX11_ok, nmX11, rfl, by first | (intro _; rfl) | (intro h; cases h), by decide +kernel⟩
theorem pf_X11_36_X11 : gFq RX11 36 8 4 (.object "java/lang/StringBuilder") true := ⟨RX11, TX11, 8, "PaperBoatInsurer", tyX11, rfl, by decide, rfl, uw_X11, w_446, Or.inl rfl, tyX11_ok, nmX11, rfl, by first | (intro _; rfl) | (intro h; cases h), by decide +kernel⟩
theorem pf_X11_40_X11 : gFq RX11 40 8 5 .boolean false := ⟨RX11, TX11, 8, "PaperBoatInsurer", tyX11, rfl, by decide, rfl, uw_X11, w_447, Or.inl rfl, tyX11_ok, nmX11, rfl, by first | (intro _; rfl) | (intro h; cases h), by decide +kernel⟩
theorem pf_X11_44_X11 : gFq RX11 44 8 6 .int false := ⟨RX11, TX11, 8, "PaperBoatInsurer", tyX11, rfl, by decide, rfl, uw_X11, w_448, Or.inl rfl, tyX11_ok, nmX11, rfl, by first | (intro _; rfl) | (intro h; cases h), by decide +kernel⟩
theorem pf_X11_48_X11 : gFq RX11 48 8 7 .int false := ⟨RX11, TX11, 8, "PaperBoatInsurer", tyX11, rfl, by decide, rfl, uw_X11, w_449, Or.inl rfl, tyX11_ok, nmX11, rfl, by first | (intro _; rfl) | (intro h; cases h), by decide +kernel⟩
theorem f_X11_22_X11 : gFl RX11 22 8 2 := ⟨RX11, TX11, 8, "PaperBoatInsurer", rfl, by decide, rfl, uw_X11, w_444, Or.inl rfl⟩
theorem f_X11_10_X11 : gFl RX11 10 8 0 := ⟨RX11, TX11, 8, "PaperBoatInsurer", rfl, by decide, rfl, uw_X11, w_442, Or.inl rfl⟩
theorem s_X11_51_X3 : gSV RX11 51 2 m_X3_prepare 1 := ⟨RX3, TX3, 3, rfl, rfl, (List.forall_mem_cons.mpr ⟨w_728, (List.forall_mem_cons.mpr ⟨w_729, (List.forall_mem_cons.mpr ⟨w_730, (List.forall_mem_cons.mpr ⟨w_105, (fun _ h => absurd h List.not_mem_nil)⟩)⟩)⟩)⟩), cw_X3_prepare, rfl, ⟨by decide, by decide, by decide +kernel⟩, by decide⟩
theorem s_X11_55_X1 : gSV RX11 55 0 m_X1_makePolicy 3 := ⟨RX1, TX1, 12, rfl, rfl, (List.forall_mem_cons.mpr ⟨w_740, (List.forall_mem_cons.mpr ⟨w_741, (List.forall_mem_cons.mpr ⟨w_742, (List.forall_mem_cons.mpr ⟨w_98, (fun _ h => absurd h List.not_mem_nil)⟩)⟩)⟩)⟩), cw_X1_makePolicy, rfl, ⟨by decide, by decide, by decide +kernel⟩, by decide⟩
theorem s_X11_59_X11 : gSV RX11 59 8 m_X11_changed 1 := ⟨RX11, TX11, 8, rfl, rfl, (List.forall_mem_cons.mpr ⟨w_849, (List.forall_mem_cons.mpr ⟨w_851, (List.forall_mem_cons.mpr ⟨w_14, (List.forall_mem_cons.mpr ⟨w_97, (fun _ h => absurd h List.not_mem_nil)⟩)⟩)⟩)⟩), cw_X11_changed, rfl, ⟨by decide, by decide, by decide +kernel⟩, by decide⟩
theorem s_X11_63_X1 : gSV RX11 63 0 m_X1_removePolicy 1 := ⟨RX1, TX1, 12, rfl, rfl, (List.forall_mem_cons.mpr ⟨w_865, (List.forall_mem_cons.mpr ⟨w_866, (List.forall_mem_cons.mpr ⟨w_867, (List.forall_mem_cons.mpr ⟨w_98, (fun _ h => absurd h List.not_mem_nil)⟩)⟩)⟩)⟩), cw_X1_removePolicy, rfl, ⟨by decide, by decide, by decide +kernel⟩, by decide⟩
theorem s_X11_66_X1 : gSV RX11 66 0 m_X1_makeTreaty 4 := ⟨RX1, TX1, 12, rfl, rfl, (List.forall_mem_cons.mpr ⟨w_923, (List.forall_mem_cons.mpr ⟨w_924, (List.forall_mem_cons.mpr ⟨w_925, (List.forall_mem_cons.mpr ⟨w_98, (fun _ h => absurd h List.not_mem_nil)⟩)⟩)⟩)⟩), cw_X1_makeTreaty, rfl, ⟨by decide, by decide, by decide +kernel⟩, by decide⟩
theorem s_X11_70_X1 : gSV RX11 70 0 m_X1_removeTreaty 1 := ⟨RX1, TX1, 12, rfl, rfl, (List.forall_mem_cons.mpr ⟨w_965, (List.forall_mem_cons.mpr ⟨w_966, (List.forall_mem_cons.mpr ⟨w_967, (List.forall_mem_cons.mpr ⟨w_98, (fun _ h => absurd h List.not_mem_nil)⟩)⟩)⟩)⟩), cw_X1_removeTreaty, rfl, ⟨by decide, by decide, by decide +kernel⟩, by decide⟩
theorem s_X11_73_X1 : gSV RX11 73 0 m_X1_makeClaim 3 := ⟨RX1, TX1, 12, rfl, rfl, (List.forall_mem_cons.mpr ⟨w_1004, (List.forall_mem_cons.mpr ⟨w_1005, (List.forall_mem_cons.mpr ⟨w_1006, (List.forall_mem_cons.mpr ⟨w_98, (fun _ h => absurd h List.not_mem_nil)⟩)⟩)⟩)⟩), cw_X1_makeClaim, rfl, ⟨by decide, by decide, by decide +kernel⟩, by decide⟩
theorem s_X11_77_X1 : gSV RX11 77 0 m_X1_payPart 2 := ⟨RX1, TX1, 12, rfl, rfl, (List.forall_mem_cons.mpr ⟨w_1055, (List.forall_mem_cons.mpr ⟨w_1056, (List.forall_mem_cons.mpr ⟨w_1057, (List.forall_mem_cons.mpr ⟨w_98, (fun _ h => absurd h List.not_mem_nil)⟩)⟩)⟩)⟩), cw_X1_payPart, rfl, ⟨by decide, by decide, by decide +kernel⟩, by decide⟩
theorem s_X11_81_X1 : gSV RX11 81 0 m_X1_removePaidClaim 1 := ⟨RX1, TX1, 12, rfl, rfl, (List.forall_mem_cons.mpr ⟨w_1083, (List.forall_mem_cons.mpr ⟨w_1084, (List.forall_mem_cons.mpr ⟨w_1085, (List.forall_mem_cons.mpr ⟨w_98, (fun _ h => absurd h List.not_mem_nil)⟩)⟩)⟩)⟩), cw_X1_removePaidClaim, rfl, ⟨by decide, by decide, by decide +kernel⟩, by decide⟩
theorem s_X11_84_X1 : gSV RX11 84 0 m_X1_removeUnpaidClaim 1 := ⟨RX1, TX1, 12, rfl, rfl, (List.forall_mem_cons.mpr ⟨w_1102, (List.forall_mem_cons.mpr ⟨w_1103, (List.forall_mem_cons.mpr ⟨w_1104, (List.forall_mem_cons.mpr ⟨w_98, (fun _ h => absurd h List.not_mem_nil)⟩)⟩)⟩)⟩), cw_X1_removeUnpaidClaim, rfl, ⟨by decide, by decide, by decide +kernel⟩, by decide⟩
theorem f_X11_87_X1 : gFl RX11 87 0 4 := ⟨RX1, TX1, 12, "PaperBoatInsurer$Book", rfl, by decide, rfl, uw_X1, w_332, Or.inl rfl⟩
theorem s_X11_91_X4 : gSV RX11 91 3 m_X4_add 3 := ⟨RX4, TX4, 5, rfl, rfl, (List.forall_mem_cons.mpr ⟨w_1118, (List.forall_mem_cons.mpr ⟨w_1119, (List.forall_mem_cons.mpr ⟨w_1120, (List.forall_mem_cons.mpr ⟨w_104, (fun _ h => absurd h List.not_mem_nil)⟩)⟩)⟩)⟩), cw_X4_add, rfl, ⟨by decide, by decide, by decide +kernel⟩, by decide⟩
theorem s_X11_96_X4 : gSV RX11 96 3 m_X4_remove 1 := ⟨RX4, TX4, 5, rfl, rfl, (List.forall_mem_cons.mpr ⟨w_1131, (List.forall_mem_cons.mpr ⟨w_1132, (List.forall_mem_cons.mpr ⟨w_1133, (List.forall_mem_cons.mpr ⟨w_104, (fun _ h => absurd h List.not_mem_nil)⟩)⟩)⟩)⟩), cw_X4_remove, rfl, ⟨by decide, by decide, by decide +kernel⟩, by decide⟩
theorem s_X11_99_X1 : gSV RX11 99 0 m_X1_advance 1 := ⟨RX1, TX1, 12, rfl, rfl, (List.forall_mem_cons.mpr ⟨w_1144, (List.forall_mem_cons.mpr ⟨w_1145, (List.forall_mem_cons.mpr ⟨w_1146, (List.forall_mem_cons.mpr ⟨w_98, (fun _ h => absurd h List.not_mem_nil)⟩)⟩)⟩)⟩), cw_X1_advance, rfl, ⟨by decide, by decide, by decide +kernel⟩, by decide⟩
theorem f_X11_102_X1 : gFl RX11 102 0 5 := ⟨RX1, TX1, 12, "PaperBoatInsurer$Book", rfl, by decide, rfl, uw_X1, w_335, Or.inl rfl⟩
theorem f_X11_105_X1 : gFl RX11 105 0 6 := ⟨RX1, TX1, 12, "PaperBoatInsurer$Book", rfl, by decide, rfl, uw_X1, w_337, Or.inl rfl⟩
theorem f_X11_108_X1 : gFl RX11 108 0 0 := ⟨RX1, TX1, 12, "PaperBoatInsurer$Book", rfl, by decide, rfl, uw_X1, w_323, Or.inl rfl⟩
theorem f_X11_112_X5 : gFl RX11 112 4 1 := ⟨RX5, TX5, 10, "PaperBoatInsurer$Policies", rfl, by decide, rfl, uw_X5, w_185, Or.inr w_184⟩
theorem f_X11_117_X5 : gFl RX11 117 4 0 := ⟨RX5, TX5, 10, "PaperBoatInsurer$Policies", rfl, by decide, rfl, uw_X5, w_177, Or.inr w_172⟩
theorem s_X11_121 : gSS RX11 121 m_X11_checkedIndex 2 := ⟨rfl, (List.forall_mem_cons.mpr ⟨w_1155, (List.forall_mem_cons.mpr ⟨w_970, (List.forall_mem_cons.mpr ⟨w_97, (fun _ h => absurd h List.not_mem_nil)⟩)⟩)⟩), cw_X11_checkedIndex, ⟨by decide, by decide, by decide +kernel⟩, by decide⟩
theorem f_X11_124_X5 : gFl RX11 124 4 3 := ⟨RX5, TX5, 10, "PaperBoatInsurer$Policies", rfl, by decide, rfl, uw_X5, w_158, Or.inl rfl⟩
theorem s_X11_127_X5 : gSU RX11 127 4 m_X6_placeOf 1 := ⟨RX5, TX5, 10, ⟨"PaperBoatInsurer$Policies", "placeOf", "(I)I"⟩, rfl, rfl, (List.forall_mem_cons.mpr ⟨w_1163, (List.forall_mem_cons.mpr ⟨w_870, (List.forall_mem_cons.mpr ⟨w_872, (List.forall_mem_cons.mpr ⟨w_873, (List.forall_mem_cons.mpr ⟨w_99, (fun _ h => absurd h List.not_mem_nil)⟩)⟩)⟩)⟩)⟩), cw_X6_placeOf, rfl, ⟨by decide, by decide, by decide +kernel⟩, by decide⟩
theorem s_X11_130_X5 : gSV RX11 130 4 m_X5_leftAt 1 := ⟨RX5, TX5, 10, rfl, rfl, (List.forall_mem_cons.mpr ⟨w_1171, (List.forall_mem_cons.mpr ⟨w_1020, (List.forall_mem_cons.mpr ⟨w_1021, (List.forall_mem_cons.mpr ⟨w_100, (fun _ h => absurd h List.not_mem_nil)⟩)⟩)⟩)⟩), cw_X5_leftAt, rfl, ⟨by decide, by decide, by decide +kernel⟩, by decide⟩
theorem f_X11_133_X5 : gFl RX11 133 4 4 := ⟨RX5, TX5, 10, "PaperBoatInsurer$Policies", rfl, by decide, rfl, uw_X5, w_160, Or.inl rfl⟩
theorem f_X11_136_X5 : gFl RX11 136 4 7 := ⟨RX5, TX5, 10, "PaperBoatInsurer$Policies", rfl, by decide, rfl, uw_X5, w_166, Or.inl rfl⟩
theorem f_X11_139_X5 : gFl RX11 139 4 6 := ⟨RX5, TX5, 10, "PaperBoatInsurer$Policies", rfl, by decide, rfl, uw_X5, w_163, Or.inl rfl⟩
theorem s_X11_142_X5 : gSV RX11 142 4 m_X5_isActiveAt 2 := ⟨RX5, TX5, 10, rfl, rfl, (List.forall_mem_cons.mpr ⟨w_1200, (List.forall_mem_cons.mpr ⟨w_496, (List.forall_mem_cons.mpr ⟨w_497, (List.forall_mem_cons.mpr ⟨w_100, (fun _ h => absurd h List.not_mem_nil)⟩)⟩)⟩)⟩), cw_X5_isActiveAt, rfl, ⟨by decide, by decide, by decide +kernel⟩, by decide⟩
theorem f_X11_146_X1 : gFl RX11 146 0 1 := ⟨RX1, TX1, 12, "PaperBoatInsurer$Book", rfl, by decide, rfl, uw_X1, w_325, Or.inl rfl⟩
theorem f_X11_150_X2 : gFl RX11 150 1 1 := ⟨RX2, TX2, 9, "PaperBoatInsurer$Claims", rfl, by decide, rfl, uw_X2, w_186, Or.inr w_181⟩
theorem f_X11_153_X2 : gFl RX11 153 1 0 := ⟨RX2, TX2, 9, "PaperBoatInsurer$Claims", rfl, by decide, rfl, uw_X2, w_178, Or.inr w_174⟩
theorem f_X11_154_X2 : gFl RX11 154 1 3 := ⟨RX2, TX2, 9, "PaperBoatInsurer$Claims", rfl, by decide, rfl, uw_X2, w_221, Or.inl rfl⟩
theorem s_X11_156_X2 : gSU RX11 156 1 m_X6_placeOf 1 := ⟨RX2, TX2, 9, ⟨"PaperBoatInsurer$Claims", "placeOf", "(I)I"⟩, rfl, rfl, (List.forall_mem_cons.mpr ⟨w_1215, (List.forall_mem_cons.mpr ⟨w_1060, (List.forall_mem_cons.mpr ⟨w_1061, (List.forall_mem_cons.mpr ⟨w_873, (List.forall_mem_cons.mpr ⟨w_99, (fun _ h => absurd h List.not_mem_nil)⟩)⟩)⟩)⟩)⟩), cw_X6_placeOf, rfl, ⟨by decide, by decide, by decide +kernel⟩, by decide⟩
theorem f_X11_157_X2 : gFl RX11 157 1 4 := ⟨RX2, TX2, 9, "PaperBoatInsurer$Claims", rfl, by decide, rfl, uw_X2, w_223, Or.inl rfl⟩
theorem f_X11_161_X2 : gFl RX11 161 1 5 := ⟨RX2, TX2, 9, "PaperBoatInsurer$Claims", rfl, by decide, rfl, uw_X2, w_226, Or.inl rfl⟩
theorem f_X11_164_X2 : gFl RX11 164 1 6 := ⟨RX2, TX2, 9, "PaperBoatInsurer$Claims", rfl, by decide, rfl, uw_X2, w_229, Or.inl rfl⟩
theorem f_X11_167_X2 : gFl RX11 167 1 8 := ⟨RX2, TX2, 9, "PaperBoatInsurer$Claims", rfl, by decide, rfl, uw_X2, w_234, Or.inl rfl⟩
theorem f_X11_171_X1 : gFl RX11 171 0 2 := ⟨RX1, TX1, 12, "PaperBoatInsurer$Book", rfl, by decide, rfl, uw_X1, w_328, Or.inl rfl⟩
theorem f_X11_175_X8 : gFl RX11 175 6 6 := ⟨RX8, TX8, 7, "PaperBoatInsurer$Treaties", rfl, by decide, rfl, uw_X8, w_271, Or.inl rfl⟩
theorem s_X11_178_X2 : gSV RX11 178 1 m_X2_ownPartAt 1 := ⟨RX2, TX2, 9, rfl, rfl, (List.forall_mem_cons.mpr ⟨w_1251, (List.forall_mem_cons.mpr ⟨w_1252, (List.forall_mem_cons.mpr ⟨w_1253, (List.forall_mem_cons.mpr ⟨w_101, (fun _ h => absurd h List.not_mem_nil)⟩)⟩)⟩)⟩), cw_X2_ownPartAt, rfl, ⟨by decide, by decide, by decide +kernel⟩, by decide⟩
theorem s_X11_181_X2 : gSV RX11 181 1 m_X2_recoveredAt 1 := ⟨RX2, TX2, 9, rfl, rfl, (List.forall_mem_cons.mpr ⟨w_1262, (List.forall_mem_cons.mpr ⟨w_1068, (List.forall_mem_cons.mpr ⟨w_1069, (List.forall_mem_cons.mpr ⟨w_101, (fun _ h => absurd h List.not_mem_nil)⟩)⟩)⟩)⟩), cw_X2_recoveredAt, rfl, ⟨by decide, by decide, by decide +kernel⟩, by decide⟩
theorem f_X11_184_X8 : gFl RX11 184 6 0 := ⟨RX8, TX8, 7, "PaperBoatInsurer$Treaties", rfl, by decide, rfl, uw_X8, w_259, Or.inl rfl⟩
theorem f_X11_187_X8 : gFl RX11 187 6 2 := ⟨RX8, TX8, 7, "PaperBoatInsurer$Treaties", rfl, by decide, rfl, uw_X8, w_263, Or.inl rfl⟩
theorem s_X11_190 : gSS RX11 190 m_X11_checkedNumber 3 := ⟨rfl, (List.forall_mem_cons.mpr ⟨w_1284, (List.forall_mem_cons.mpr ⟨w_749, (List.forall_mem_cons.mpr ⟨w_97, (fun _ h => absurd h List.not_mem_nil)⟩)⟩)⟩), cw_X11_checkedNumber, ⟨by decide, by decide, by decide +kernel⟩, by decide⟩
theorem s_X11_193_X8 : gSV RX11 193 6 m_X8_countByRuns 1 := ⟨RX8, TX8, 7, rfl, rfl, (List.forall_mem_cons.mpr ⟨w_1285, (List.forall_mem_cons.mpr ⟨w_569, (List.forall_mem_cons.mpr ⟨w_570, (List.forall_mem_cons.mpr ⟨w_102, (fun _ h => absurd h List.not_mem_nil)⟩)⟩)⟩)⟩), cw_X8_countByRuns, rfl, ⟨by decide, by decide, by decide +kernel⟩, by decide⟩
theorem s_X11_196_X8 : gSV RX11 196 6 m_X8_countByCoins 1 := ⟨RX8, TX8, 7, rfl, rfl, (List.forall_mem_cons.mpr ⟨w_1293, (List.forall_mem_cons.mpr ⟨w_592, (List.forall_mem_cons.mpr ⟨w_593, (List.forall_mem_cons.mpr ⟨w_102, (fun _ h => absurd h List.not_mem_nil)⟩)⟩)⟩)⟩), cw_X8_countByCoins, rfl, ⟨by decide, by decide, by decide +kernel⟩, by decide⟩
theorem s_X11_199_X5 : gSV RX11 199 4 m_X5_countOutcomes 1 := ⟨RX5, TX5, 10, rfl, rfl, (List.forall_mem_cons.mpr ⟨w_491, (List.forall_mem_cons.mpr ⟨w_492, (List.forall_mem_cons.mpr ⟨w_493, (List.forall_mem_cons.mpr ⟨w_100, (fun _ h => absurd h List.not_mem_nil)⟩)⟩)⟩)⟩), cw_X5_countOutcomes, rfl, ⟨by decide, by decide, by decide +kernel⟩, by decide⟩
theorem s_X11_204_X5 : gSV RX11 204 4 m_X5_countByTable 2 := ⟨RX5, TX5, 10, rfl, rfl, (List.forall_mem_cons.mpr ⟨w_1302, (List.forall_mem_cons.mpr ⟨w_611, (List.forall_mem_cons.mpr ⟨w_612, (List.forall_mem_cons.mpr ⟨w_100, (fun _ h => absurd h List.not_mem_nil)⟩)⟩)⟩)⟩), cw_X5_countByTable, rfl, ⟨by decide, by decide, by decide +kernel⟩, by decide⟩
theorem s_X11_208_X5 : gSV RX11 208 4 m_X5_countBySets 2 := ⟨RX5, TX5, 10, rfl, rfl, (List.forall_mem_cons.mpr ⟨w_1310, (List.forall_mem_cons.mpr ⟨w_623, (List.forall_mem_cons.mpr ⟨w_624, (List.forall_mem_cons.mpr ⟨w_100, (fun _ h => absurd h List.not_mem_nil)⟩)⟩)⟩)⟩), cw_X5_countBySets, rfl, ⟨by decide, by decide, by decide +kernel⟩, by decide⟩
theorem s_X11_211_X5 : gSV RX11 211 4 m_X5_mostLoss 1 := ⟨RX5, TX5, 10, rfl, rfl, (List.forall_mem_cons.mpr ⟨w_504, (List.forall_mem_cons.mpr ⟨w_505, (List.forall_mem_cons.mpr ⟨w_506, (List.forall_mem_cons.mpr ⟨w_100, (fun _ h => absurd h List.not_mem_nil)⟩)⟩)⟩)⟩), cw_X5_mostLoss, rfl, ⟨by decide, by decide, by decide +kernel⟩, by decide⟩
theorem f_X11_214_X1 : gFl RX11 214 0 3 := ⟨RX1, TX1, 12, "PaperBoatInsurer$Book", rfl, by decide, rfl, uw_X1, w_330, Or.inl rfl⟩
theorem f_X11_218_X9 : gFl RX11 218 7 0 := ⟨RX9, TX9, 1, "PaperBoatInsurer$Triangle", rfl, by decide, rfl, uw_X9, w_295, Or.inl rfl⟩
theorem s_X11_223_X1 : gSV RX11 223 0 m_X1_latestPeriod 0 := ⟨RX1, TX1, 12, rfl, rfl, (List.forall_mem_cons.mpr ⟨w_512, (List.forall_mem_cons.mpr ⟨w_513, (List.forall_mem_cons.mpr ⟨w_514, (List.forall_mem_cons.mpr ⟨w_98, (fun _ h => absurd h List.not_mem_nil)⟩)⟩)⟩)⟩), cw_X1_latestPeriod, rfl, ⟨by decide, by decide, by decide +kernel⟩, by decide⟩
theorem s_X11_227_X9 : gSV RX11 227 7 m_X9_projectByDelays 2 := ⟨RX9, TX9, 1, rfl, rfl, (List.forall_mem_cons.mpr ⟨w_1325, (List.forall_mem_cons.mpr ⟨w_529, (List.forall_mem_cons.mpr ⟨w_530, (List.forall_mem_cons.mpr ⟨w_103, (fun _ h => absurd h List.not_mem_nil)⟩)⟩)⟩)⟩), cw_X9_projectByDelays, rfl, ⟨by decide, by decide, by decide +kernel⟩, by decide⟩
theorem s_X11_230_X9 : gSV RX11 230 7 m_X9_projectBackwards 2 := ⟨RX9, TX9, 1, rfl, rfl, (List.forall_mem_cons.mpr ⟨w_1333, (List.forall_mem_cons.mpr ⟨w_641, (List.forall_mem_cons.mpr ⟨w_642, (List.forall_mem_cons.mpr ⟨w_103, (fun _ h => absurd h List.not_mem_nil)⟩)⟩)⟩)⟩), cw_X9_projectBackwards, rfl, ⟨by decide, by decide, by decide +kernel⟩, by decide⟩
theorem s_X11_233_X9 : gSV RX11 233 7 m_X9_sumOfUnpaid 1 := ⟨RX9, TX9, 1, rfl, rfl, (List.forall_mem_cons.mpr ⟨w_523, (List.forall_mem_cons.mpr ⟨w_524, (List.forall_mem_cons.mpr ⟨w_525, (List.forall_mem_cons.mpr ⟨w_103, (fun _ h => absurd h List.not_mem_nil)⟩)⟩)⟩)⟩), cw_X9_sumOfUnpaid, rfl, ⟨by decide, by decide, by decide +kernel⟩, by decide⟩
theorem f_X11_236_X4 : gFl RX11 236 3 4 := ⟨RX4, TX4, 5, "PaperBoatInsurer$Offers", rfl, by decide, rfl, uw_X4, w_310, Or.inl rfl⟩
theorem s_X11_237_X4 : gSV RX11 237 3 m_X4_cheapestByDays 2 := ⟨RX4, TX4, 5, rfl, rfl, (List.forall_mem_cons.mpr ⟨w_1341, (List.forall_mem_cons.mpr ⟨w_652, (List.forall_mem_cons.mpr ⟨w_653, (List.forall_mem_cons.mpr ⟨w_104, (fun _ h => absurd h List.not_mem_nil)⟩)⟩)⟩)⟩), cw_X4_cheapestByDays, rfl, ⟨by decide, by decide, by decide +kernel⟩, by decide⟩
theorem s_X11_240 : gSS RX11 240 m_X11_coverPrice 1 := ⟨rfl, (List.forall_mem_cons.mpr ⟨w_1342, (List.forall_mem_cons.mpr ⟨w_1343, (List.forall_mem_cons.mpr ⟨w_97, (fun _ h => absurd h List.not_mem_nil)⟩)⟩)⟩), cw_X11_coverPrice, ⟨by decide, by decide, by decide +kernel⟩, by decide⟩
theorem s_X11_243_X4 : gSV RX11 243 3 m_X4_cheapestBySets 2 := ⟨RX4, TX4, 5, rfl, rfl, (List.forall_mem_cons.mpr ⟨w_1355, (List.forall_mem_cons.mpr ⟨w_661, (List.forall_mem_cons.mpr ⟨w_662, (List.forall_mem_cons.mpr ⟨w_104, (fun _ h => absurd h List.not_mem_nil)⟩)⟩)⟩)⟩), cw_X4_cheapestBySets, rfl, ⟨by decide, by decide, by decide +kernel⟩, by decide⟩
theorem s_X11_246_X5 : gSU RX11 246 4 m_X6_idAtRank 1 := ⟨RX5, TX5, 10, ⟨"PaperBoatInsurer$Policies", "idAtRank", "(I)I"⟩, rfl, rfl, (List.forall_mem_cons.mpr ⟨w_1363, (List.forall_mem_cons.mpr ⟨w_1364, (List.forall_mem_cons.mpr ⟨w_1366, (List.forall_mem_cons.mpr ⟨w_1367, (List.forall_mem_cons.mpr ⟨w_99, (fun _ h => absurd h List.not_mem_nil)⟩)⟩)⟩)⟩)⟩), cw_X6_idAtRank, rfl, ⟨by decide, by decide, by decide +kernel⟩, by decide⟩
theorem s_X11_249_X2 : gSU RX11 249 1 m_X6_idAtRank 1 := ⟨RX2, TX2, 9, ⟨"PaperBoatInsurer$Claims", "idAtRank", "(I)I"⟩, rfl, rfl, (List.forall_mem_cons.mpr ⟨w_1391, (List.forall_mem_cons.mpr ⟨w_1392, (List.forall_mem_cons.mpr ⟨w_1393, (List.forall_mem_cons.mpr ⟨w_1367, (List.forall_mem_cons.mpr ⟨w_99, (fun _ h => absurd h List.not_mem_nil)⟩)⟩)⟩)⟩)⟩), cw_X6_idAtRank, rfl, ⟨by decide, by decide, by decide +kernel⟩, by decide⟩
theorem s_X11_257 : gSS RX11 257 m_X11_sumOfRow 2 := ⟨rfl, (List.forall_mem_cons.mpr ⟨w_1418, (List.forall_mem_cons.mpr ⟨w_603, (List.forall_mem_cons.mpr ⟨w_97, (fun _ h => absurd h List.not_mem_nil)⟩)⟩)⟩), cw_X11_sumOfRow, ⟨by decide, by decide, by decide +kernel⟩, by decide⟩
theorem s_X11_263_X1 : gSV RX11 263 0 m_X1_isBalanced 0 := ⟨RX1, TX1, 12, rfl, rfl, (List.forall_mem_cons.mpr ⟨w_552, (List.forall_mem_cons.mpr ⟨w_553, (List.forall_mem_cons.mpr ⟨w_554, (List.forall_mem_cons.mpr ⟨w_98, (fun _ h => absurd h List.not_mem_nil)⟩)⟩)⟩)⟩), cw_X1_isBalanced, rfl, ⟨by decide, by decide, by decide +kernel⟩, by decide⟩
theorem s_X11_267_X1 : gSV RX11 267 0 m_X1_keepsCapacities 0 := ⟨RX1, TX1, 12, rfl, rfl, (List.forall_mem_cons.mpr ⟨w_556, (List.forall_mem_cons.mpr ⟨w_557, (List.forall_mem_cons.mpr ⟨w_558, (List.forall_mem_cons.mpr ⟨w_98, (fun _ h => absurd h List.not_mem_nil)⟩)⟩)⟩)⟩), cw_X1_keepsCapacities, rfl, ⟨by decide, by decide, by decide +kernel⟩, by decide⟩
theorem s_X11_270_X1 : gSV RX11 270 0 m_X1_layersAgree 0 := ⟨RX1, TX1, 12, rfl, rfl, (List.forall_mem_cons.mpr ⟨w_564, (List.forall_mem_cons.mpr ⟨w_565, (List.forall_mem_cons.mpr ⟨w_566, (List.forall_mem_cons.mpr ⟨w_98, (fun _ h => absurd h List.not_mem_nil)⟩)⟩)⟩)⟩), cw_X1_layersAgree, rfl, ⟨by decide, by decide, by decide +kernel⟩, by decide⟩
theorem s_X11_273_X1 : gSV RX11 273 0 m_X1_outcomesAgree 0 := ⟨RX1, TX1, 12, rfl, rfl, (List.forall_mem_cons.mpr ⟨w_605, (List.forall_mem_cons.mpr ⟨w_606, (List.forall_mem_cons.mpr ⟨w_607, (List.forall_mem_cons.mpr ⟨w_98, (fun _ h => absurd h List.not_mem_nil)⟩)⟩)⟩)⟩), cw_X1_outcomesAgree, rfl, ⟨by decide, by decide, by decide +kernel⟩, by decide⟩
theorem s_X11_276_X1 : gSV RX11 276 0 m_X1_projectionsAgree 0 := ⟨RX1, TX1, 12, rfl, rfl, (List.forall_mem_cons.mpr ⟨w_634, (List.forall_mem_cons.mpr ⟨w_635, (List.forall_mem_cons.mpr ⟨w_636, (List.forall_mem_cons.mpr ⟨w_98, (fun _ h => absurd h List.not_mem_nil)⟩)⟩)⟩)⟩), cw_X1_projectionsAgree, rfl, ⟨by decide, by decide, by decide +kernel⟩, by decide⟩
theorem s_X11_279_X1 : gSV RX11 279 0 m_X1_coversAgree 0 := ⟨RX1, TX1, 12, rfl, rfl, (List.forall_mem_cons.mpr ⟨w_647, (List.forall_mem_cons.mpr ⟨w_648, (List.forall_mem_cons.mpr ⟨w_649, (List.forall_mem_cons.mpr ⟨w_98, (fun _ h => absurd h List.not_mem_nil)⟩)⟩)⟩)⟩), cw_X1_coversAgree, rfl, ⟨by decide, by decide, by decide +kernel⟩, by decide⟩
theorem f_X11_36_X11 : gFl RX11 36 8 4 := ⟨RX11, TX11, 8, "PaperBoatInsurer", rfl, by decide, rfl, uw_X11, w_446, Or.inl rfl⟩
theorem f_X11_29_X11 : gFl RX11 29 8 3 := ⟨RX11, TX11, 8, "PaperBoatInsurer", rfl, by decide, rfl, uw_X11, w_445, Or.inl rfl⟩
theorem s_X11_300_X7 : gSV RX11 300 5 m_X7_append 1 := ⟨RX7, TX7, 4, rfl, rfl, (List.forall_mem_cons.mpr ⟨w_1740, (List.forall_mem_cons.mpr ⟨w_1741, (List.forall_mem_cons.mpr ⟨w_1742, (List.forall_mem_cons.mpr ⟨w_106, (fun _ h => absurd h List.not_mem_nil)⟩)⟩)⟩)⟩), cw_X7_append, rfl, ⟨by decide, by decide, by decide +kernel⟩, by decide⟩
theorem s_X11_303_X7 : gSV RX11 303 5 m_X7_countCommands 0 := ⟨RX7, TX7, 4, rfl, rfl, (List.forall_mem_cons.mpr ⟨w_1756, (List.forall_mem_cons.mpr ⟨w_1757, (List.forall_mem_cons.mpr ⟨w_1758, (List.forall_mem_cons.mpr ⟨w_106, (fun _ h => absurd h List.not_mem_nil)⟩)⟩)⟩)⟩), cw_X7_countCommands, rfl, ⟨by decide, by decide, by decide +kernel⟩, by decide⟩
theorem s_X11_309_X7 : gSV RX11 309 5 m_X7_empty 0 := ⟨RX7, TX7, 4, rfl, rfl, (List.forall_mem_cons.mpr ⟨w_1808, (List.forall_mem_cons.mpr ⟨w_1809, (List.forall_mem_cons.mpr ⟨w_1810, (List.forall_mem_cons.mpr ⟨w_106, (fun _ h => absurd h List.not_mem_nil)⟩)⟩)⟩)⟩), cw_X7_empty, rfl, ⟨by decide, by decide, by decide +kernel⟩, by decide⟩
theorem s_X11_317_X7 : gSV RX11 317 5 m_X7_firstFailure 2 := ⟨RX7, TX7, 4, rfl, rfl, (List.forall_mem_cons.mpr ⟨w_1814, (List.forall_mem_cons.mpr ⟨w_1815, (List.forall_mem_cons.mpr ⟨w_1816, (List.forall_mem_cons.mpr ⟨w_106, (fun _ h => absurd h List.not_mem_nil)⟩)⟩)⟩)⟩), cw_X7_firstFailure, rfl, ⟨by decide, by decide, by decide +kernel⟩, by decide⟩
theorem s_X11_321_X3 : gSV RX11 321 2 m_X3_bringBack 1 := ⟨RX3, TX3, 3, rfl, rfl, (List.forall_mem_cons.mpr ⟨w_1849, (List.forall_mem_cons.mpr ⟨w_1850, (List.forall_mem_cons.mpr ⟨w_1851, (List.forall_mem_cons.mpr ⟨w_105, (fun _ h => absurd h List.not_mem_nil)⟩)⟩)⟩)⟩), cw_X3_bringBack, rfl, ⟨by decide, by decide, by decide +kernel⟩, by decide⟩
theorem f_X11_44_X11 : gFl RX11 44 8 6 := ⟨RX11, TX11, 8, "PaperBoatInsurer", rfl, by decide, rfl, uw_X11, w_448, Or.inl rfl⟩
theorem s_X11_329 : gSS RX11 329 m_X11_known 1 := ⟨rfl, (List.forall_mem_cons.mpr ⟨w_1861, (List.forall_mem_cons.mpr ⟨w_1862, (List.forall_mem_cons.mpr ⟨w_97, (fun _ h => absurd h List.not_mem_nil)⟩)⟩)⟩), cw_X11_known, ⟨by decide, by decide, by decide +kernel⟩, by decide⟩
theorem f_X11_48_X11 : gFl RX11 48 8 7 := ⟨RX11, TX11, 8, "PaperBoatInsurer", rfl, by decide, rfl, uw_X11, w_449, Or.inl rfl⟩
theorem s_X11_332_X3 : gSV RX11 332 2 m_X3_stepBack 1 := ⟨RX3, TX3, 3, rfl, rfl, (List.forall_mem_cons.mpr ⟨w_1879, (List.forall_mem_cons.mpr ⟨w_1880, (List.forall_mem_cons.mpr ⟨w_1881, (List.forall_mem_cons.mpr ⟨w_105, (fun _ h => absurd h List.not_mem_nil)⟩)⟩)⟩)⟩), cw_X3_stepBack, rfl, ⟨by decide, by decide, by decide +kernel⟩, by decide⟩
theorem f_X11_16_X11 : gFl RX11 16 8 1 := ⟨RX11, TX11, 8, "PaperBoatInsurer", rfl, by decide, rfl, uw_X11, w_443, Or.inl rfl⟩
theorem s_X11_336_X1 : gSV RX11 336 0 m_X1_copyFrom 1 := ⟨RX1, TX1, 12, rfl, rfl, (List.forall_mem_cons.mpr ⟨w_681, (List.forall_mem_cons.mpr ⟨w_682, (List.forall_mem_cons.mpr ⟨w_683, (List.forall_mem_cons.mpr ⟨w_98, (fun _ h => absurd h List.not_mem_nil)⟩)⟩)⟩)⟩), cw_X1_copyFrom, rfl, ⟨by decide, by decide, by decide +kernel⟩, by decide⟩
theorem f_X11_40_X11 : gFl RX11 40 8 5 := ⟨RX11, TX11, 8, "PaperBoatInsurer", rfl, by decide, rfl, uw_X11, w_447, Or.inl rfl⟩
theorem s_X11_341_X3 : gSV RX11 341 2 m_X3_forget 0 := ⟨RX3, TX3, 3, rfl, rfl, (List.forall_mem_cons.mpr ⟨w_1895, (List.forall_mem_cons.mpr ⟨w_1896, (List.forall_mem_cons.mpr ⟨w_1897, (List.forall_mem_cons.mpr ⟨w_105, (fun _ h => absurd h List.not_mem_nil)⟩)⟩)⟩)⟩), cw_X3_forget, rfl, ⟨by decide, by decide, by decide +kernel⟩, by decide⟩
theorem s_X11_344_X3 : gSV RX11 344 2 m_X3_keep 0 := ⟨RX3, TX3, 3, rfl, rfl, (List.forall_mem_cons.mpr ⟨w_853, (List.forall_mem_cons.mpr ⟨w_854, (List.forall_mem_cons.mpr ⟨w_855, (List.forall_mem_cons.mpr ⟨w_105, (fun _ h => absurd h List.not_mem_nil)⟩)⟩)⟩)⟩), cw_X3_keep, rfl, ⟨by decide, by decide, by decide +kernel⟩, by decide⟩
theorem pf_X12_7_X12 : gFq RX12 7 9 0 (.array .int) true := ⟨RX12, TX12, 21, "PaperBoatInsurerModel", tyX12, rfl, by decide, rfl, uw_X12, w_1905, Or.inl rfl, tyX12_ok, nmX12, rfl, by first | (intro _; rfl) | (intro h; cases h), by decide +kernel⟩
theorem pf_X12_13_X12 : gFq RX12 13 9 1 (.array .int) true := ⟨RX12, TX12, 21, "PaperBoatInsurerModel", tyX12, rfl, by decide, rfl, uw_X12, w_1906, Or.inl rfl, tyX12_ok, nmX12, rfl, by first | (intro _; rfl) | (intro h; cases h), by decide +kernel⟩
theorem pf_X12_16_X12 : gFq RX12 16 9 2 (.array .int) true := ⟨RX12, TX12, 21, "PaperBoatInsurerModel", tyX12, rfl, by decide, rfl, uw_X12, w_1907, Or.inl rfl, tyX12_ok, nmX12, rfl, by first | (intro _; rfl) | (intro h; cases h), by decide +kernel⟩
theorem pf_X12_19_X12 : gFq RX12 19 9 3 (.array .int) true := ⟨RX12, TX12, 21, "PaperBoatInsurerModel", tyX12, rfl, by decide, rfl, uw_X12, w_1908, Or.inl rfl, tyX12_ok, nmX12, rfl, by first | (intro _; rfl) | (intro h; cases h), by decide +kernel⟩
theorem pf_X12_22_X12 : gFq RX12 22 9 4 (.array .int) true := ⟨RX12, TX12, 21, "PaperBoatInsurerModel", tyX12, rfl, by decide, rfl, uw_X12, w_1909, Or.inl rfl, tyX12_ok, nmX12, rfl, by first | (intro _; rfl) | (intro h; cases h), by decide +kernel⟩
theorem pf_X12_25_X12 : gFq RX12 25 9 5 (.array .int) true := ⟨RX12, TX12, 21, "PaperBoatInsurerModel", tyX12, rfl, by decide, rfl, uw_X12, w_1910, Or.inl rfl, tyX12_ok, nmX12, rfl, by first | (intro _; rfl) | (intro h; cases h), by decide +kernel⟩
theorem pf_X12_28_X12 : gFq RX12 28 9 6 .int false := ⟨RX12, TX12, 21, "PaperBoatInsurerModel", tyX12, rfl, by decide, rfl, uw_X12, w_1911, Or.inl rfl, tyX12_ok, nmX12, rfl, by first | (intro _; rfl) | (intro h; cases h), by decide +kernel⟩
theorem pf_X12_32_X12 : gFq RX12 32 9 7 .int false := ⟨RX12, TX12, 21, "PaperBoatInsurerModel", tyX12, rfl, by decide, rfl, uw_X12, w_1912, Or.inl rfl, tyX12_ok, nmX12, rfl, by first | (intro _; rfl) | (intro h; cases h), by decide +kernel⟩
theorem pf_X12_35_X12 : gFq RX12 35 9 8 .int false := ⟨RX12, TX12, 21, "PaperBoatInsurerModel", tyX12, rfl, by decide, rfl, uw_X12, w_1913, Or.inl rfl, tyX12_ok, nmX12, rfl, by first | (intro _; rfl) | (intro h; cases h), by decide +kernel⟩
theorem pf_X12_38_X12 : gFq RX12 38 9 9 .int false := ⟨RX12, TX12, 21, "PaperBoatInsurerModel", tyX12, rfl, by decide, rfl, uw_X12, w_1914, Or.inl rfl, tyX12_ok, nmX12, rfl, by first | (intro _; rfl) | (intro h; cases h), by decide +kernel⟩
theorem pf_X12_41_X12 : gFq RX12 41 9 10 .boolean false := ⟨RX12, TX12, 21, "PaperBoatInsurerModel", tyX12, rfl, by decide, rfl, uw_X12, w_1915, Or.inl rfl, tyX12_ok, nmX12, rfl, by first | (intro _; rfl) | (intro h; cases h), by decide +kernel⟩
theorem pf_X12_45_X12 : gFq RX12 45 9 11 (.array .int) true := ⟨RX12, TX12, 21, "PaperBoatInsurerModel", tyX12, rfl, by decide, rfl, uw_X12, w_1916, Or.inl rfl, tyX12_ok, nmX12, rfl, by first | (intro _; rfl) | (intro h; cases h), by decide +kernel⟩
theorem pf_X12_48_X12 : gFq RX12 48 9 12 .int false := ⟨RX12, TX12, 21, "PaperBoatInsurerModel", tyX12, rfl, by decide, rfl, uw_X12, w_1917, Or.inl rfl, tyX12_ok, nmX12, rfl, by first | (intro _; rfl) | (intro h; cases h), by decide +kernel⟩
theorem pf_X12_51_X12 : gFq RX12 51 9 13 (.array .int) true := ⟨RX12, TX12, 21, "PaperBoatInsurerModel", tyX12, rfl, by decide, rfl, uw_X12, w_1918, Or.inl rfl, tyX12_ok, nmX12, rfl, by first | (intro _; rfl) | (intro h; cases h), by decide +kernel⟩
theorem pf_X12_54_X12 : gFq RX12 54 9 14 (.array .int) true := ⟨RX12, TX12, 21, "PaperBoatInsurerModel", tyX12, rfl, by decide, rfl, uw_X12, w_1919, Or.inl rfl, tyX12_ok, nmX12, rfl, by first | (intro _; rfl) | (intro h; cases h), by decide +kernel⟩
theorem pf_X12_57_X12 : gFq RX12 57 9 15 (.array .int) true := ⟨RX12, TX12, 21, "PaperBoatInsurerModel", tyX12, rfl, by decide, rfl, uw_X12, w_1920, Or.inl rfl, tyX12_ok, nmX12, rfl, by first | (intro _; rfl) | (intro h; cases h), by decide +kernel⟩
theorem pf_X12_60_X12 : gFq RX12 60 9 16 .int false := ⟨RX12, TX12, 21, "PaperBoatInsurerModel", tyX12, rfl, by decide, rfl, uw_X12, w_1921, Or.inl rfl, tyX12_ok, nmX12, rfl, by first | (intro _; rfl) | (intro h; cases h), by decide +kernel⟩
theorem pf_X12_63_X12 : gFq RX12 63 9 17 .int false := ⟨RX12, TX12, 21, "PaperBoatInsurerModel", tyX12, rfl, by decide, rfl, uw_X12, w_1922, Or.inl rfl, tyX12_ok, nmX12, rfl, by first | (intro _; rfl) | (intro h; cases h), by decide +kernel⟩
theorem pf_X12_66_X12 : gFq RX12 66 9 18 .int false := ⟨RX12, TX12, 21, "PaperBoatInsurerModel", tyX12, rfl, by decide, rfl, uw_X12, w_1923, Or.inl rfl, tyX12_ok, nmX12, rfl, by first | (intro _; rfl) | (intro h; cases h), by decide +kernel⟩
theorem pf_X12_69_X12 : gFq RX12 69 9 19 .int false := ⟨RX12, TX12, 21, "PaperBoatInsurerModel", tyX12, rfl, by decide, rfl, uw_X12, w_1924, Or.inl rfl, tyX12_ok, nmX12, rfl, by first | (intro _; rfl) | (intro h; cases h), by decide +kernel⟩
theorem pf_X12_72_X12 : gFq RX12 72 9 20 .boolean false := ⟨RX12, TX12, 21, "PaperBoatInsurerModel", tyX12, rfl, by decide, rfl, uw_X12, w_1925, Or.inl rfl, tyX12_ok, nmX12, rfl, by first | (intro _; rfl) | (intro h; cases h), by decide +kernel⟩
theorem f_X12_28_X12 : gFl RX12 28 9 6 := ⟨RX12, TX12, 21, "PaperBoatInsurerModel", rfl, by decide, rfl, uw_X12, w_1911, Or.inl rfl⟩
theorem f_X12_7_X12 : gFl RX12 7 9 0 := ⟨RX12, TX12, 21, "PaperBoatInsurerModel", rfl, by decide, rfl, uw_X12, w_1905, Or.inl rfl⟩
theorem f_X12_13_X12 : gFl RX12 13 9 1 := ⟨RX12, TX12, 21, "PaperBoatInsurerModel", rfl, by decide, rfl, uw_X12, w_1906, Or.inl rfl⟩
theorem s_X12_75 : gSS RX12 75 m_X12_copy 4 := ⟨rfl, (List.forall_mem_cons.mpr ⟨w_1981, (List.forall_mem_cons.mpr ⟨w_1982, (List.forall_mem_cons.mpr ⟨w_111, (fun _ h => absurd h List.not_mem_nil)⟩)⟩)⟩), cw_X12_copy, ⟨by decide, by decide, by decide +kernel⟩, by decide⟩
theorem f_X12_32_X12 : gFl RX12 32 9 7 := ⟨RX12, TX12, 21, "PaperBoatInsurerModel", rfl, by decide, rfl, uw_X12, w_1912, Or.inl rfl⟩
theorem f_X12_19_X12 : gFl RX12 19 9 3 := ⟨RX12, TX12, 21, "PaperBoatInsurerModel", rfl, by decide, rfl, uw_X12, w_1908, Or.inl rfl⟩
theorem s_X12_79_X12 : gSV RX12 79 9 m_X12_p 2 := ⟨RX12, TX12, 21, rfl, rfl, (List.forall_mem_cons.mpr ⟨w_2015, (List.forall_mem_cons.mpr ⟨w_2017, (List.forall_mem_cons.mpr ⟨w_30, (List.forall_mem_cons.mpr ⟨w_111, (fun _ h => absurd h List.not_mem_nil)⟩)⟩)⟩)⟩), cw_X12_p, rfl, ⟨by decide, by decide, by decide +kernel⟩, by decide⟩
theorem s_X12_83 : gSS RX12 83 m_X12_in 3 := ⟨rfl, (List.forall_mem_cons.mpr ⟨w_1988, (List.forall_mem_cons.mpr ⟨w_1989, (List.forall_mem_cons.mpr ⟨w_111, (fun _ h => absurd h List.not_mem_nil)⟩)⟩)⟩), cw_X12_in, ⟨by decide, by decide, by decide +kernel⟩, by decide⟩
theorem s_X12_87_X12 : gSV RX12 87 9 m_X12_begin 0 := ⟨RX12, TX12, 21, rfl, rfl, (List.forall_mem_cons.mpr ⟨w_1977, (List.forall_mem_cons.mpr ⟨w_1979, (List.forall_mem_cons.mpr ⟨w_23, (List.forall_mem_cons.mpr ⟨w_111, (fun _ h => absurd h List.not_mem_nil)⟩)⟩)⟩)⟩), cw_X12_begin, rfl, ⟨by decide, by decide, by decide +kernel⟩, by decide⟩
theorem s_X12_90_X12 : gSV RX12 90 9 m_X12_cannotInsure 3 := ⟨RX12, TX12, 21, rfl, rfl, (List.forall_mem_cons.mpr ⟨w_1984, (List.forall_mem_cons.mpr ⟨w_1986, (List.forall_mem_cons.mpr ⟨w_24, (List.forall_mem_cons.mpr ⟨w_111, (fun _ h => absurd h List.not_mem_nil)⟩)⟩)⟩)⟩), cw_X12_cannotInsure, rfl, ⟨by decide, by decide, by decide +kernel⟩, by decide⟩
theorem s_X12_94_X12 : gSV RX12 94 9 m_X12_fail 1 := ⟨RX12, TX12, 21, rfl, rfl, (List.forall_mem_cons.mpr ⟨w_1991, (List.forall_mem_cons.mpr ⟨w_1993, (List.forall_mem_cons.mpr ⟨w_25, (List.forall_mem_cons.mpr ⟨w_111, (fun _ h => absurd h List.not_mem_nil)⟩)⟩)⟩)⟩), cw_X12_fail, rfl, ⟨by decide, by decide, by decide +kernel⟩, by decide⟩
theorem s_X12_98_X12 : gSV RX12 98 9 m_X12_insures 3 := ⟨RX12, TX12, 21, rfl, rfl, (List.forall_mem_cons.mpr ⟨w_1995, (List.forall_mem_cons.mpr ⟨w_1997, (List.forall_mem_cons.mpr ⟨w_26, (List.forall_mem_cons.mpr ⟨w_111, (fun _ h => absurd h List.not_mem_nil)⟩)⟩)⟩)⟩), cw_X12_insures, rfl, ⟨by decide, by decide, by decide +kernel⟩, by decide⟩
theorem s_X12_101_X12 : gSV RX12 101 9 m_X12_commit 1 := ⟨RX12, TX12, 21, rfl, rfl, (List.forall_mem_cons.mpr ⟨w_1999, (List.forall_mem_cons.mpr ⟨w_2001, (List.forall_mem_cons.mpr ⟨w_27, (List.forall_mem_cons.mpr ⟨w_111, (fun _ h => absurd h List.not_mem_nil)⟩)⟩)⟩)⟩), cw_X12_commit, rfl, ⟨by decide, by decide, by decide +kernel⟩, by decide⟩
theorem s_X12_104_X12 : gSV RX12 104 9 m_X12_c 2 := ⟨RX12, TX12, 21, rfl, rfl, (List.forall_mem_cons.mpr ⟨w_2023, (List.forall_mem_cons.mpr ⟨w_2025, (List.forall_mem_cons.mpr ⟨w_32, (List.forall_mem_cons.mpr ⟨w_111, (fun _ h => absurd h List.not_mem_nil)⟩)⟩)⟩)⟩), cw_X12_c, rfl, ⟨by decide, by decide, by decide +kernel⟩, by decide⟩
theorem s_X12_107_X12 : gSV RX12 107 9 m_X12_policy 1 := ⟨RX12, TX12, 21, rfl, rfl, (List.forall_mem_cons.mpr ⟨w_2011, (List.forall_mem_cons.mpr ⟨w_2013, (List.forall_mem_cons.mpr ⟨w_29, (List.forall_mem_cons.mpr ⟨w_111, (fun _ h => absurd h List.not_mem_nil)⟩)⟩)⟩)⟩), cw_X12_policy, rfl, ⟨by decide, by decide, by decide +kernel⟩, by decide⟩
theorem s_X12_110_X12 : gSV RX12 110 9 m_X12_hasClaim 1 := ⟨RX12, TX12, 21, rfl, rfl, (List.forall_mem_cons.mpr ⟨w_2019, (List.forall_mem_cons.mpr ⟨w_2021, (List.forall_mem_cons.mpr ⟨w_31, (List.forall_mem_cons.mpr ⟨w_111, (fun _ h => absurd h List.not_mem_nil)⟩)⟩)⟩)⟩), cw_X12_hasClaim, rfl, ⟨by decide, by decide, by decide +kernel⟩, by decide⟩
theorem s_X12_114_X12 : gSV RX12 114 9 m_X12_isActiveAt 1 := ⟨RX12, TX12, 21, rfl, rfl, (List.forall_mem_cons.mpr ⟨w_2031, (List.forall_mem_cons.mpr ⟨w_2033, (List.forall_mem_cons.mpr ⟨w_34, (List.forall_mem_cons.mpr ⟨w_111, (fun _ h => absurd h List.not_mem_nil)⟩)⟩)⟩)⟩), cw_X12_isActiveAt, rfl, ⟨by decide, by decide, by decide +kernel⟩, by decide⟩
theorem s_X12_117_X12 : gSV RX12 117 9 m_X12_removeRow 4 := ⟨RX12, TX12, 21, rfl, rfl, (List.forall_mem_cons.mpr ⟨w_2035, (List.forall_mem_cons.mpr ⟨w_2037, (List.forall_mem_cons.mpr ⟨w_35, (List.forall_mem_cons.mpr ⟨w_111, (fun _ h => absurd h List.not_mem_nil)⟩)⟩)⟩)⟩), cw_X12_removeRow, rfl, ⟨by decide, by decide, by decide +kernel⟩, by decide⟩
theorem s_X12_121_X12 : gSV RX12 121 9 m_X12_cannotEnd 1 := ⟨RX12, TX12, 21, rfl, rfl, (List.forall_mem_cons.mpr ⟨w_2007, (List.forall_mem_cons.mpr ⟨w_2009, (List.forall_mem_cons.mpr ⟨w_28, (List.forall_mem_cons.mpr ⟨w_111, (fun _ h => absurd h List.not_mem_nil)⟩)⟩)⟩)⟩), cw_X12_cannotEnd, rfl, ⟨by decide, by decide, by decide +kernel⟩, by decide⟩
theorem s_X12_124_X12 : gSV RX12 124 9 m_X12_ends 1 := ⟨RX12, TX12, 21, rfl, rfl, (List.forall_mem_cons.mpr ⟨w_2027, (List.forall_mem_cons.mpr ⟨w_2029, (List.forall_mem_cons.mpr ⟨w_33, (List.forall_mem_cons.mpr ⟨w_111, (fun _ h => absurd h List.not_mem_nil)⟩)⟩)⟩)⟩), cw_X12_ends, rfl, ⟨by decide, by decide, by decide +kernel⟩, by decide⟩
theorem s_X12_127_X12 : gSV RX12 127 9 m_X12_cannotTreat 4 := ⟨RX12, TX12, 21, rfl, rfl, (List.forall_mem_cons.mpr ⟨w_2043, (List.forall_mem_cons.mpr ⟨w_2045, (List.forall_mem_cons.mpr ⟨w_36, (List.forall_mem_cons.mpr ⟨w_111, (fun _ h => absurd h List.not_mem_nil)⟩)⟩)⟩)⟩), cw_X12_cannotTreat, rfl, ⟨by decide, by decide, by decide +kernel⟩, by decide⟩
theorem s_X12_131_X12 : gSV RX12 131 9 m_X12_treats 4 := ⟨RX12, TX12, 21, rfl, rfl, (List.forall_mem_cons.mpr ⟨w_2047, (List.forall_mem_cons.mpr ⟨w_2049, (List.forall_mem_cons.mpr ⟨w_37, (List.forall_mem_cons.mpr ⟨w_111, (fun _ h => absurd h List.not_mem_nil)⟩)⟩)⟩)⟩), cw_X12_treats, rfl, ⟨by decide, by decide, by decide +kernel⟩, by decide⟩
theorem s_X12_134_X12 : gSV RX12 134 9 m_X12_isTreaty 1 := ⟨RX12, TX12, 21, rfl, rfl, (List.forall_mem_cons.mpr ⟨w_2059, (List.forall_mem_cons.mpr ⟨w_2061, (List.forall_mem_cons.mpr ⟨w_39, (List.forall_mem_cons.mpr ⟨w_111, (fun _ h => absurd h List.not_mem_nil)⟩)⟩)⟩)⟩), cw_X12_isTreaty, rfl, ⟨by decide, by decide, by decide +kernel⟩, by decide⟩
theorem s_X12_137_X12 : gSV RX12 137 9 m_X12_t 2 := ⟨RX12, TX12, 21, rfl, rfl, (List.forall_mem_cons.mpr ⟨w_2067, (List.forall_mem_cons.mpr ⟨w_2069, (List.forall_mem_cons.mpr ⟨w_41, (List.forall_mem_cons.mpr ⟨w_111, (fun _ h => absurd h List.not_mem_nil)⟩)⟩)⟩)⟩), cw_X12_t, rfl, ⟨by decide, by decide, by decide +kernel⟩, by decide⟩
theorem s_X12_140_X12 : gSV RX12 140 9 m_X12_cannotVoid 1 := ⟨RX12, TX12, 21, rfl, rfl, (List.forall_mem_cons.mpr ⟨w_2055, (List.forall_mem_cons.mpr ⟨w_2057, (List.forall_mem_cons.mpr ⟨w_38, (List.forall_mem_cons.mpr ⟨w_111, (fun _ h => absurd h List.not_mem_nil)⟩)⟩)⟩)⟩), cw_X12_cannotVoid, rfl, ⟨by decide, by decide, by decide +kernel⟩, by decide⟩
theorem s_X12_143_X12 : gSV RX12 143 9 m_X12_voids 1 := ⟨RX12, TX12, 21, rfl, rfl, (List.forall_mem_cons.mpr ⟨w_2063, (List.forall_mem_cons.mpr ⟨w_2065, (List.forall_mem_cons.mpr ⟨w_40, (List.forall_mem_cons.mpr ⟨w_111, (fun _ h => absurd h List.not_mem_nil)⟩)⟩)⟩)⟩), cw_X12_voids, rfl, ⟨by decide, by decide, by decide +kernel⟩, by decide⟩
theorem f_X12_22_X12 : gFl RX12 22 9 4 := ⟨RX12, TX12, 21, "PaperBoatInsurerModel", rfl, by decide, rfl, uw_X12, w_1909, Or.inl rfl⟩
theorem f_X12_25_X12 : gFl RX12 25 9 5 := ⟨RX12, TX12, 21, "PaperBoatInsurerModel", rfl, by decide, rfl, uw_X12, w_1910, Or.inl rfl⟩
theorem s_X12_146_X12 : gSV RX12 146 9 m_X12_borneOf 1 := ⟨RX12, TX12, 21, rfl, rfl, (List.forall_mem_cons.mpr ⟨w_2117, (List.forall_mem_cons.mpr ⟨w_2119, (List.forall_mem_cons.mpr ⟨w_50, (List.forall_mem_cons.mpr ⟨w_111, (fun _ h => absurd h List.not_mem_nil)⟩)⟩)⟩)⟩), cw_X12_borneOf, rfl, ⟨by decide, by decide, by decide +kernel⟩, by decide⟩
theorem s_X12_149 : gSS RX12 149 m_X12_deductible 2 := ⟨rfl, (List.forall_mem_cons.mpr ⟨w_2086, (List.forall_mem_cons.mpr ⟨w_2087, (List.forall_mem_cons.mpr ⟨w_111, (fun _ h => absurd h List.not_mem_nil)⟩)⟩)⟩), cw_X12_deductible, ⟨by decide, by decide, by decide +kernel⟩, by decide⟩
theorem s_X12_152 : gSS RX12 152 m_X12_isCause 1 := ⟨rfl, (List.forall_mem_cons.mpr ⟨w_2079, (List.forall_mem_cons.mpr ⟨w_2080, (List.forall_mem_cons.mpr ⟨w_111, (fun _ h => absurd h List.not_mem_nil)⟩)⟩)⟩), cw_X12_isCause, ⟨by decide, by decide, by decide +kernel⟩, by decide⟩
theorem s_X12_155_X12 : gSV RX12 155 9 m_X12_amountFor 3 := ⟨RX12, TX12, 21, rfl, rfl, (List.forall_mem_cons.mpr ⟨w_2082, (List.forall_mem_cons.mpr ⟨w_2084, (List.forall_mem_cons.mpr ⟨w_43, (List.forall_mem_cons.mpr ⟨w_111, (fun _ h => absurd h List.not_mem_nil)⟩)⟩)⟩)⟩), cw_X12_amountFor, rfl, ⟨by decide, by decide, by decide +kernel⟩, by decide⟩
theorem s_X12_158_X12 : gSV RX12 158 9 m_X12_bears 1 := ⟨RX12, TX12, 21, rfl, rfl, (List.forall_mem_cons.mpr ⟨w_2093, (List.forall_mem_cons.mpr ⟨w_2095, (List.forall_mem_cons.mpr ⟨w_45, (List.forall_mem_cons.mpr ⟨w_111, (fun _ h => absurd h List.not_mem_nil)⟩)⟩)⟩)⟩), cw_X12_bears, rfl, ⟨by decide, by decide, by decide +kernel⟩, by decide⟩
theorem s_X12_161_X12 : gSV RX12 161 9 m_X12_cannotClaim 3 := ⟨RX12, TX12, 21, rfl, rfl, (List.forall_mem_cons.mpr ⟨w_2075, (List.forall_mem_cons.mpr ⟨w_2077, (List.forall_mem_cons.mpr ⟨w_42, (List.forall_mem_cons.mpr ⟨w_111, (fun _ h => absurd h List.not_mem_nil)⟩)⟩)⟩)⟩), cw_X12_cannotClaim, rfl, ⟨by decide, by decide, by decide +kernel⟩, by decide⟩
theorem s_X12_164_X12 : gSV RX12 164 9 m_X12_claims 3 := ⟨RX12, TX12, 21, rfl, rfl, (List.forall_mem_cons.mpr ⟨w_2089, (List.forall_mem_cons.mpr ⟨w_2091, (List.forall_mem_cons.mpr ⟨w_44, (List.forall_mem_cons.mpr ⟨w_111, (fun _ h => absurd h List.not_mem_nil)⟩)⟩)⟩)⟩), cw_X12_claims, rfl, ⟨by decide, by decide, by decide +kernel⟩, by decide⟩
theorem s_X12_167_X12 : gSV RX12 167 9 m_X12_claim 1 := ⟨RX12, TX12, 21, rfl, rfl, (List.forall_mem_cons.mpr ⟨w_2105, (List.forall_mem_cons.mpr ⟨w_2107, (List.forall_mem_cons.mpr ⟨w_47, (List.forall_mem_cons.mpr ⟨w_111, (fun _ h => absurd h List.not_mem_nil)⟩)⟩)⟩)⟩), cw_X12_claim, rfl, ⟨by decide, by decide, by decide +kernel⟩, by decide⟩
theorem s_X12_170_X12 : gSV RX12 170 9 m_X12_recoveredOf 1 := ⟨RX12, TX12, 21, rfl, rfl, (List.forall_mem_cons.mpr ⟨w_2113, (List.forall_mem_cons.mpr ⟨w_2115, (List.forall_mem_cons.mpr ⟨w_49, (List.forall_mem_cons.mpr ⟨w_111, (fun _ h => absurd h List.not_mem_nil)⟩)⟩)⟩)⟩), cw_X12_recoveredOf, rfl, ⟨by decide, by decide, by decide +kernel⟩, by decide⟩
theorem s_X12_173_X12 : gSV RX12 173 9 m_X12_cannotPay 2 := ⟨RX12, TX12, 21, rfl, rfl, (List.forall_mem_cons.mpr ⟨w_2101, (List.forall_mem_cons.mpr ⟨w_2103, (List.forall_mem_cons.mpr ⟨w_46, (List.forall_mem_cons.mpr ⟨w_111, (fun _ h => absurd h List.not_mem_nil)⟩)⟩)⟩)⟩), cw_X12_cannotPay, rfl, ⟨by decide, by decide, by decide +kernel⟩, by decide⟩
theorem s_X12_176_X12 : gSV RX12 176 9 m_X12_pays 2 := ⟨RX12, TX12, 21, rfl, rfl, (List.forall_mem_cons.mpr ⟨w_2109, (List.forall_mem_cons.mpr ⟨w_2111, (List.forall_mem_cons.mpr ⟨w_48, (List.forall_mem_cons.mpr ⟨w_111, (fun _ h => absurd h List.not_mem_nil)⟩)⟩)⟩)⟩), cw_X12_pays, rfl, ⟨by decide, by decide, by decide +kernel⟩, by decide⟩
theorem s_X12_179_X12 : gSV RX12 179 9 m_X12_cannotClose 1 := ⟨RX12, TX12, 21, rfl, rfl, (List.forall_mem_cons.mpr ⟨w_2125, (List.forall_mem_cons.mpr ⟨w_2127, (List.forall_mem_cons.mpr ⟨w_51, (List.forall_mem_cons.mpr ⟨w_111, (fun _ h => absurd h List.not_mem_nil)⟩)⟩)⟩)⟩), cw_X12_cannotClose, rfl, ⟨by decide, by decide, by decide +kernel⟩, by decide⟩
theorem s_X12_182_X12 : gSV RX12 182 9 m_X12_removesClaim 1 := ⟨RX12, TX12, 21, rfl, rfl, (List.forall_mem_cons.mpr ⟨w_2129, (List.forall_mem_cons.mpr ⟨w_2131, (List.forall_mem_cons.mpr ⟨w_52, (List.forall_mem_cons.mpr ⟨w_111, (fun _ h => absurd h List.not_mem_nil)⟩)⟩)⟩)⟩), cw_X12_removesClaim, rfl, ⟨by decide, by decide, by decide +kernel⟩, by decide⟩
theorem s_X12_185_X12 : gSV RX12 185 9 m_X12_cannotWaive 1 := ⟨RX12, TX12, 21, rfl, rfl, (List.forall_mem_cons.mpr ⟨w_2137, (List.forall_mem_cons.mpr ⟨w_2139, (List.forall_mem_cons.mpr ⟨w_53, (List.forall_mem_cons.mpr ⟨w_111, (fun _ h => absurd h List.not_mem_nil)⟩)⟩)⟩)⟩), cw_X12_cannotWaive, rfl, ⟨by decide, by decide, by decide +kernel⟩, by decide⟩
theorem s_X12_188_X12 : gSV RX12 188 9 m_X12_waives 1 := ⟨RX12, TX12, 21, rfl, rfl, (List.forall_mem_cons.mpr ⟨w_2141, (List.forall_mem_cons.mpr ⟨w_2143, (List.forall_mem_cons.mpr ⟨w_54, (List.forall_mem_cons.mpr ⟨w_111, (fun _ h => absurd h List.not_mem_nil)⟩)⟩)⟩)⟩), cw_X12_waives, rfl, ⟨by decide, by decide, by decide +kernel⟩, by decide⟩
theorem s_X12_191 : gSS RX12 191 m_X12_areDays 2 := ⟨rfl, (List.forall_mem_cons.mpr ⟨w_2153, (List.forall_mem_cons.mpr ⟨w_2154, (List.forall_mem_cons.mpr ⟨w_111, (fun _ h => absurd h List.not_mem_nil)⟩)⟩)⟩), cw_X12_areDays, ⟨by decide, by decide, by decide +kernel⟩, by decide⟩
theorem s_X12_195_X12 : gSV RX12 195 9 m_X12_cannotOffer 3 := ⟨RX12, TX12, 21, rfl, rfl, (List.forall_mem_cons.mpr ⟨w_2149, (List.forall_mem_cons.mpr ⟨w_2151, (List.forall_mem_cons.mpr ⟨w_55, (List.forall_mem_cons.mpr ⟨w_111, (fun _ h => absurd h List.not_mem_nil)⟩)⟩)⟩)⟩), cw_X12_cannotOffer, rfl, ⟨by decide, by decide, by decide +kernel⟩, by decide⟩
theorem s_X12_198_X12 : gSV RX12 198 9 m_X12_offers 3 := ⟨RX12, TX12, 21, rfl, rfl, (List.forall_mem_cons.mpr ⟨w_2156, (List.forall_mem_cons.mpr ⟨w_2158, (List.forall_mem_cons.mpr ⟨w_56, (List.forall_mem_cons.mpr ⟨w_111, (fun _ h => absurd h List.not_mem_nil)⟩)⟩)⟩)⟩), cw_X12_offers, rfl, ⟨by decide, by decide, by decide +kernel⟩, by decide⟩
theorem s_X12_201_X12 : gSV RX12 201 9 m_X12_o 2 := ⟨RX12, TX12, 21, rfl, rfl, (List.forall_mem_cons.mpr ⟨w_2168, (List.forall_mem_cons.mpr ⟨w_2170, (List.forall_mem_cons.mpr ⟨w_58, (List.forall_mem_cons.mpr ⟨w_111, (fun _ h => absurd h List.not_mem_nil)⟩)⟩)⟩)⟩), cw_X12_o, rfl, ⟨by decide, by decide, by decide +kernel⟩, by decide⟩
theorem s_X12_204_X12 : gSV RX12 204 9 m_X12_removesOffer 1 := ⟨RX12, TX12, 21, rfl, rfl, (List.forall_mem_cons.mpr ⟨w_2164, (List.forall_mem_cons.mpr ⟨w_2166, (List.forall_mem_cons.mpr ⟨w_57, (List.forall_mem_cons.mpr ⟨w_111, (fun _ h => absurd h List.not_mem_nil)⟩)⟩)⟩)⟩), cw_X12_removesOffer, rfl, ⟨by decide, by decide, by decide +kernel⟩, by decide⟩
theorem s_X12_207_X12 : gSV RX12 207 9 m_X12_passes 1 := ⟨RX12, TX12, 21, rfl, rfl, (List.forall_mem_cons.mpr ⟨w_2176, (List.forall_mem_cons.mpr ⟨w_2178, (List.forall_mem_cons.mpr ⟨w_59, (List.forall_mem_cons.mpr ⟨w_111, (fun _ h => absurd h List.not_mem_nil)⟩)⟩)⟩)⟩), cw_X12_passes, rfl, ⟨by decide, by decide, by decide +kernel⟩, by decide⟩
theorem s_X12_210_X12 : gSV RX12 210 9 m_X12_plain 1 := ⟨RX12, TX12, 21, rfl, rfl, (List.forall_mem_cons.mpr ⟨w_2184, (List.forall_mem_cons.mpr ⟨w_2186, (List.forall_mem_cons.mpr ⟨w_60, (List.forall_mem_cons.mpr ⟨w_111, (fun _ h => absurd h List.not_mem_nil)⟩)⟩)⟩)⟩), cw_X12_plain, rfl, ⟨by decide, by decide, by decide +kernel⟩, by decide⟩
theorem s_X12_213_X12 : gSV RX12 213 9 m_X12_checked 1 := ⟨RX12, TX12, 21, rfl, rfl, (List.forall_mem_cons.mpr ⟨w_2200, (List.forall_mem_cons.mpr ⟨w_2202, (List.forall_mem_cons.mpr ⟨w_61, (List.forall_mem_cons.mpr ⟨w_111, (fun _ h => absurd h List.not_mem_nil)⟩)⟩)⟩)⟩), cw_X12_checked, rfl, ⟨by decide, by decide, by decide +kernel⟩, by decide⟩
theorem s_X12_217_X12 : gSV RX12 217 9 m_X12_ofPolicy 2 := ⟨RX12, TX12, 21, rfl, rfl, (List.forall_mem_cons.mpr ⟨w_2208, (List.forall_mem_cons.mpr ⟨w_2210, (List.forall_mem_cons.mpr ⟨w_62, (List.forall_mem_cons.mpr ⟨w_111, (fun _ h => absurd h List.not_mem_nil)⟩)⟩)⟩)⟩), cw_X12_ofPolicy, rfl, ⟨by decide, by decide, by decide +kernel⟩, by decide⟩
theorem s_X12_220_X12 : gSV RX12 220 9 m_X12_ofClaim 2 := ⟨RX12, TX12, 21, rfl, rfl, (List.forall_mem_cons.mpr ⟨w_2244, (List.forall_mem_cons.mpr ⟨w_2246, (List.forall_mem_cons.mpr ⟨w_63, (List.forall_mem_cons.mpr ⟨w_111, (fun _ h => absurd h List.not_mem_nil)⟩)⟩)⟩)⟩), cw_X12_ofClaim, rfl, ⟨by decide, by decide, by decide +kernel⟩, by decide⟩
theorem s_X12_223_X12 : gSV RX12 223 9 m_X12_wouldBear 1 := ⟨RX12, TX12, 21, rfl, rfl, (List.forall_mem_cons.mpr ⟨w_2288, (List.forall_mem_cons.mpr ⟨w_2290, (List.forall_mem_cons.mpr ⟨w_64, (List.forall_mem_cons.mpr ⟨w_111, (fun _ h => absurd h List.not_mem_nil)⟩)⟩)⟩)⟩), cw_X12_wouldBear, rfl, ⟨by decide, by decide, by decide +kernel⟩, by decide⟩
theorem s_X12_228_X12 : gSV RX12 228 9 m_X12_lossOf 1 := ⟨RX12, TX12, 21, rfl, rfl, (List.forall_mem_cons.mpr ⟨w_2309, (List.forall_mem_cons.mpr ⟨w_2311, (List.forall_mem_cons.mpr ⟨w_66, (List.forall_mem_cons.mpr ⟨w_111, (fun _ h => absurd h List.not_mem_nil)⟩)⟩)⟩)⟩), cw_X12_lossOf, rfl, ⟨by decide, by decide, by decide +kernel⟩, by decide⟩
theorem s_X12_231_X12 : gSV RX12 231 9 m_X12_soaking 1 := ⟨RX12, TX12, 21, rfl, rfl, (List.forall_mem_cons.mpr ⟨w_2313, (List.forall_mem_cons.mpr ⟨w_2315, (List.forall_mem_cons.mpr ⟨w_67, (List.forall_mem_cons.mpr ⟨w_111, (fun _ h => absurd h List.not_mem_nil)⟩)⟩)⟩)⟩), cw_X12_soaking, rfl, ⟨by decide, by decide, by decide +kernel⟩, by decide⟩
theorem s_X12_235_X12 : gSV RX12 235 9 m_X12_within 1 := ⟨RX12, TX12, 21, rfl, rfl, (List.forall_mem_cons.mpr ⟨w_2305, (List.forall_mem_cons.mpr ⟨w_2307, (List.forall_mem_cons.mpr ⟨w_65, (List.forall_mem_cons.mpr ⟨w_111, (fun _ h => absurd h List.not_mem_nil)⟩)⟩)⟩)⟩), cw_X12_within, rfl, ⟨by decide, by decide, by decide +kernel⟩, by decide⟩
theorem s_X12_238_X12 : gSV RX12 238 9 m_X12_cell 2 := ⟨RX12, TX12, 21, rfl, rfl, (List.forall_mem_cons.mpr ⟨w_2329, (List.forall_mem_cons.mpr ⟨w_2331, (List.forall_mem_cons.mpr ⟨w_68, (List.forall_mem_cons.mpr ⟨w_111, (fun _ h => absurd h List.not_mem_nil)⟩)⟩)⟩)⟩), cw_X12_cell, rfl, ⟨by decide, by decide, by decide +kernel⟩, by decide⟩
theorem s_X12_241_X12 : gSV RX12 241 9 m_X12_latest 0 := ⟨RX12, TX12, 21, rfl, rfl, (List.forall_mem_cons.mpr ⟨w_2337, (List.forall_mem_cons.mpr ⟨w_2339, (List.forall_mem_cons.mpr ⟨w_69, (List.forall_mem_cons.mpr ⟨w_111, (fun _ h => absurd h List.not_mem_nil)⟩)⟩)⟩)⟩), cw_X12_latest, rfl, ⟨by decide, by decide, by decide +kernel⟩, by decide⟩
theorem s_X12_245_X12 : gSV RX12 245 9 m_X12_total 2 := ⟨RX12, TX12, 21, rfl, rfl, (List.forall_mem_cons.mpr ⟨w_2353, (List.forall_mem_cons.mpr ⟨w_2355, (List.forall_mem_cons.mpr ⟨w_72, (List.forall_mem_cons.mpr ⟨w_111, (fun _ h => absurd h List.not_mem_nil)⟩)⟩)⟩)⟩), cw_X12_total, rfl, ⟨by decide, by decide, by decide +kernel⟩, by decide⟩
theorem s_X12_248_X12 : gSV RX12 248 9 m_X12_totals 2 := ⟨RX12, TX12, 21, rfl, rfl, (List.forall_mem_cons.mpr ⟨w_2357, (List.forall_mem_cons.mpr ⟨w_2359, (List.forall_mem_cons.mpr ⟨w_73, (List.forall_mem_cons.mpr ⟨w_111, (fun _ h => absurd h List.not_mem_nil)⟩)⟩)⟩)⟩), cw_X12_totals, rfl, ⟨by decide, by decide, by decide +kernel⟩, by decide⟩
theorem s_X12_251_X12 : gSV RX12 251 9 m_X12_projection 1 := ⟨RX12, TX12, 21, rfl, rfl, (List.forall_mem_cons.mpr ⟨w_2349, (List.forall_mem_cons.mpr ⟨w_2351, (List.forall_mem_cons.mpr ⟨w_71, (List.forall_mem_cons.mpr ⟨w_111, (fun _ h => absurd h List.not_mem_nil)⟩)⟩)⟩)⟩), cw_X12_projection, rfl, ⟨by decide, by decide, by decide +kernel⟩, by decide⟩
theorem s_X12_254_X12 : gSV RX12 254 9 m_X12_projects 1 := ⟨RX12, TX12, 21, rfl, rfl, (List.forall_mem_cons.mpr ⟨w_2345, (List.forall_mem_cons.mpr ⟨w_2347, (List.forall_mem_cons.mpr ⟨w_70, (List.forall_mem_cons.mpr ⟨w_111, (fun _ h => absurd h List.not_mem_nil)⟩)⟩)⟩)⟩), cw_X12_projects, rfl, ⟨by decide, by decide, by decide +kernel⟩, by decide⟩
theorem s_X12_257_X12 : gSV RX12 257 9 m_X12_isCovered 2 := ⟨RX12, TX12, 21, rfl, rfl, (List.forall_mem_cons.mpr ⟨w_2390, (List.forall_mem_cons.mpr ⟨w_2392, (List.forall_mem_cons.mpr ⟨w_77, (List.forall_mem_cons.mpr ⟨w_111, (fun _ h => absurd h List.not_mem_nil)⟩)⟩)⟩)⟩), cw_X12_isCovered, rfl, ⟨by decide, by decide, by decide +kernel⟩, by decide⟩
theorem s_X12_261_X12 : gSV RX12 261 9 m_X12_priceOf 1 := ⟨RX12, TX12, 21, rfl, rfl, (List.forall_mem_cons.mpr ⟨w_2382, (List.forall_mem_cons.mpr ⟨w_2384, (List.forall_mem_cons.mpr ⟨w_75, (List.forall_mem_cons.mpr ⟨w_111, (fun _ h => absurd h List.not_mem_nil)⟩)⟩)⟩)⟩), cw_X12_priceOf, rfl, ⟨by decide, by decide, by decide +kernel⟩, by decide⟩
theorem s_X12_264_X12 : gSV RX12 264 9 m_X12_areCovered 3 := ⟨RX12, TX12, 21, rfl, rfl, (List.forall_mem_cons.mpr ⟨w_2386, (List.forall_mem_cons.mpr ⟨w_2388, (List.forall_mem_cons.mpr ⟨w_76, (List.forall_mem_cons.mpr ⟨w_111, (fun _ h => absurd h List.not_mem_nil)⟩)⟩)⟩)⟩), cw_X12_areCovered, rfl, ⟨by decide, by decide, by decide +kernel⟩, by decide⟩
theorem s_X12_267_X12 : gSV RX12 267 9 m_X12_cover 2 := ⟨RX12, TX12, 21, rfl, rfl, (List.forall_mem_cons.mpr ⟨w_2377, (List.forall_mem_cons.mpr ⟨w_2379, (List.forall_mem_cons.mpr ⟨w_74, (List.forall_mem_cons.mpr ⟨w_111, (fun _ h => absurd h List.not_mem_nil)⟩)⟩)⟩)⟩), cw_X12_cover, rfl, ⟨by decide, by decide, by decide +kernel⟩, by decide⟩
theorem s_X12_270_X12 : gSV RX12 270 9 m_X12_isPolicyAhead 2 := ⟨RX12, TX12, 21, rfl, rfl, (List.forall_mem_cons.mpr ⟨w_2406, (List.forall_mem_cons.mpr ⟨w_2408, (List.forall_mem_cons.mpr ⟨w_79, (List.forall_mem_cons.mpr ⟨w_111, (fun _ h => absurd h List.not_mem_nil)⟩)⟩)⟩)⟩), cw_X12_isPolicyAhead, rfl, ⟨by decide, by decide, by decide +kernel⟩, by decide⟩
theorem s_X12_273_X12 : gSV RX12 273 9 m_X12_isClaimAhead 2 := ⟨RX12, TX12, 21, rfl, rfl, (List.forall_mem_cons.mpr ⟨w_2410, (List.forall_mem_cons.mpr ⟨w_2412, (List.forall_mem_cons.mpr ⟨w_80, (List.forall_mem_cons.mpr ⟨w_111, (fun _ h => absurd h List.not_mem_nil)⟩)⟩)⟩)⟩), cw_X12_isClaimAhead, rfl, ⟨by decide, by decide, by decide +kernel⟩, by decide⟩
theorem s_X12_276_X12 : gSV RX12 276 9 m_X12_ranked 3 := ⟨RX12, TX12, 21, rfl, rfl, (List.forall_mem_cons.mpr ⟨w_2402, (List.forall_mem_cons.mpr ⟨w_2404, (List.forall_mem_cons.mpr ⟨w_78, (List.forall_mem_cons.mpr ⟨w_111, (fun _ h => absurd h List.not_mem_nil)⟩)⟩)⟩)⟩), cw_X12_ranked, rfl, ⟨by decide, by decide, by decide +kernel⟩, by decide⟩
theorem f_X12_45_X12 : gFl RX12 45 9 11 := ⟨RX12, TX12, 21, "PaperBoatInsurerModel", rfl, by decide, rfl, uw_X12, w_1916, Or.inl rfl⟩
theorem f_X12_48_X12 : gFl RX12 48 9 12 := ⟨RX12, TX12, 21, "PaperBoatInsurerModel", rfl, by decide, rfl, uw_X12, w_1917, Or.inl rfl⟩
theorem s_X12_280_X12 : gSV RX12 280 9 m_X12_write 1 := ⟨RX12, TX12, 21, rfl, rfl, (List.forall_mem_cons.mpr ⟨w_2434, (List.forall_mem_cons.mpr ⟨w_2436, (List.forall_mem_cons.mpr ⟨w_81, (List.forall_mem_cons.mpr ⟨w_111, (fun _ h => absurd h List.not_mem_nil)⟩)⟩)⟩)⟩), cw_X12_write, rfl, ⟨by decide, by decide, by decide +kernel⟩, by decide⟩
theorem s_X12_284_X12 : gSV RX12 284 9 m_X12_writeNumber 1 := ⟨RX12, TX12, 21, rfl, rfl, (List.forall_mem_cons.mpr ⟨w_2438, (List.forall_mem_cons.mpr ⟨w_2440, (List.forall_mem_cons.mpr ⟨w_82, (List.forall_mem_cons.mpr ⟨w_111, (fun _ h => absurd h List.not_mem_nil)⟩)⟩)⟩)⟩), cw_X12_writeNumber, rfl, ⟨by decide, by decide, by decide +kernel⟩, by decide⟩
theorem f_X12_60_X12 : gFl RX12 60 9 16 := ⟨RX12, TX12, 21, "PaperBoatInsurerModel", rfl, by decide, rfl, uw_X12, w_1921, Or.inl rfl⟩
theorem f_X12_51_X12 : gFl RX12 51 9 13 := ⟨RX12, TX12, 21, "PaperBoatInsurerModel", rfl, by decide, rfl, uw_X12, w_1918, Or.inl rfl⟩
theorem f_X12_72_X12 : gFl RX12 72 9 20 := ⟨RX12, TX12, 21, "PaperBoatInsurerModel", rfl, by decide, rfl, uw_X12, w_1925, Or.inl rfl⟩
theorem f_X12_66_X12 : gFl RX12 66 9 18 := ⟨RX12, TX12, 21, "PaperBoatInsurerModel", rfl, by decide, rfl, uw_X12, w_1923, Or.inl rfl⟩
theorem f_X12_63_X12 : gFl RX12 63 9 17 := ⟨RX12, TX12, 21, "PaperBoatInsurerModel", rfl, by decide, rfl, uw_X12, w_1922, Or.inl rfl⟩
theorem s_X12_287_X12 : gSV RX12 287 9 m_X12_mark 0 := ⟨RX12, TX12, 21, rfl, rfl, (List.forall_mem_cons.mpr ⟨w_2484, (List.forall_mem_cons.mpr ⟨w_2486, (List.forall_mem_cons.mpr ⟨w_88, (List.forall_mem_cons.mpr ⟨w_111, (fun _ h => absurd h List.not_mem_nil)⟩)⟩)⟩)⟩), cw_X12_mark, rfl, ⟨by decide, by decide, by decide +kernel⟩, by decide⟩
theorem s_X12_290 : gSS RX12 290 m_X12_pick 7 := ⟨rfl, (List.forall_mem_cons.mpr ⟨w_2473, (List.forall_mem_cons.mpr ⟨w_2474, (List.forall_mem_cons.mpr ⟨w_111, (fun _ h => absurd h List.not_mem_nil)⟩)⟩)⟩), cw_X12_pick, ⟨by decide, by decide, by decide +kernel⟩, by decide⟩
theorem s_X12_294 : gSS RX12 294 m_X12_spelled 2 := ⟨rfl, (List.forall_mem_cons.mpr ⟨w_2470, (List.forall_mem_cons.mpr ⟨w_2471, (List.forall_mem_cons.mpr ⟨w_111, (fun _ h => absurd h List.not_mem_nil)⟩)⟩)⟩), cw_X12_spelled, ⟨by decide, by decide, by decide +kernel⟩, by decide⟩
theorem f_X12_57_X12 : gFl RX12 57 9 15 := ⟨RX12, TX12, 21, "PaperBoatInsurerModel", rfl, by decide, rfl, uw_X12, w_1920, Or.inl rfl⟩
theorem f_X12_69_X12 : gFl RX12 69 9 19 := ⟨RX12, TX12, 21, "PaperBoatInsurerModel", rfl, by decide, rfl, uw_X12, w_1924, Or.inl rfl⟩
theorem s_X12_297_X12 : gSV RX12 297 9 m_X12_expect 1 := ⟨RX12, TX12, 21, rfl, rfl, (List.forall_mem_cons.mpr ⟨w_2480, (List.forall_mem_cons.mpr ⟨w_2482, (List.forall_mem_cons.mpr ⟨w_87, (List.forall_mem_cons.mpr ⟨w_111, (fun _ h => absurd h List.not_mem_nil)⟩)⟩)⟩)⟩), cw_X12_expect, rfl, ⟨by decide, by decide, by decide +kernel⟩, by decide⟩
theorem s_X12_300_X12 : gSV RX12 300 9 m_X12_number 1 := ⟨RX12, TX12, 21, rfl, rfl, (List.forall_mem_cons.mpr ⟨w_2488, (List.forall_mem_cons.mpr ⟨w_2490, (List.forall_mem_cons.mpr ⟨w_89, (List.forall_mem_cons.mpr ⟨w_111, (fun _ h => absurd h List.not_mem_nil)⟩)⟩)⟩)⟩), cw_X12_number, rfl, ⟨by decide, by decide, by decide +kernel⟩, by decide⟩
theorem s_X12_303_X12 : gSV RX12 303 9 m_X12_put 2 := ⟨RX12, TX12, 21, rfl, rfl, (List.forall_mem_cons.mpr ⟨w_2492, (List.forall_mem_cons.mpr ⟨w_2494, (List.forall_mem_cons.mpr ⟨w_90, (List.forall_mem_cons.mpr ⟨w_111, (fun _ h => absurd h List.not_mem_nil)⟩)⟩)⟩)⟩), cw_X12_put, rfl, ⟨by decide, by decide, by decide +kernel⟩, by decide⟩
theorem s_X12_307_X12 : gSV RX12 307 9 m_X12_putBehind 3 := ⟨RX12, TX12, 21, rfl, rfl, (List.forall_mem_cons.mpr ⟨w_2476, (List.forall_mem_cons.mpr ⟨w_2478, (List.forall_mem_cons.mpr ⟨w_86, (List.forall_mem_cons.mpr ⟨w_111, (fun _ h => absurd h List.not_mem_nil)⟩)⟩)⟩)⟩), cw_X12_putBehind, rfl, ⟨by decide, by decide, by decide +kernel⟩, by decide⟩
theorem s_X12_311_X12 : gSV RX12 311 9 m_X12_cause 0 := ⟨RX12, TX12, 21, rfl, rfl, (List.forall_mem_cons.mpr ⟨w_2500, (List.forall_mem_cons.mpr ⟨w_2502, (List.forall_mem_cons.mpr ⟨w_92, (List.forall_mem_cons.mpr ⟨w_111, (fun _ h => absurd h List.not_mem_nil)⟩)⟩)⟩)⟩), cw_X12_cause, rfl, ⟨by decide, by decide, by decide +kernel⟩, by decide⟩
theorem s_X12_314_X12 : gSV RX12 314 9 m_X12_word 0 := ⟨RX12, TX12, 21, rfl, rfl, (List.forall_mem_cons.mpr ⟨w_2466, (List.forall_mem_cons.mpr ⟨w_2468, (List.forall_mem_cons.mpr ⟨w_85, (List.forall_mem_cons.mpr ⟨w_111, (fun _ h => absurd h List.not_mem_nil)⟩)⟩)⟩)⟩), cw_X12_word, rfl, ⟨by decide, by decide, by decide +kernel⟩, by decide⟩
theorem s_X12_317_X12 : gSV RX12 317 9 m_X12_readsRest 1 := ⟨RX12, TX12, 21, rfl, rfl, (List.forall_mem_cons.mpr ⟨w_2496, (List.forall_mem_cons.mpr ⟨w_2498, (List.forall_mem_cons.mpr ⟨w_91, (List.forall_mem_cons.mpr ⟨w_111, (fun _ h => absurd h List.not_mem_nil)⟩)⟩)⟩)⟩), cw_X12_readsRest, rfl, ⟨by decide, by decide, by decide +kernel⟩, by decide⟩
theorem f_X12_54_X12 : gFl RX12 54 9 14 := ⟨RX12, TX12, 21, "PaperBoatInsurerModel", rfl, by decide, rfl, uw_X12, w_1919, Or.inl rfl⟩
theorem s_X12_320_X12 : gSV RX12 320 9 m_X12_command 0 := ⟨RX12, TX12, 21, rfl, rfl, (List.forall_mem_cons.mpr ⟨w_2462, (List.forall_mem_cons.mpr ⟨w_2464, (List.forall_mem_cons.mpr ⟨w_84, (List.forall_mem_cons.mpr ⟨w_111, (fun _ h => absurd h List.not_mem_nil)⟩)⟩)⟩)⟩), cw_X12_command, rfl, ⟨by decide, by decide, by decide +kernel⟩, by decide⟩
theorem s_X12_323_X12 : gSV RX12 323 9 m_X12_parse 0 := ⟨RX12, TX12, 21, rfl, rfl, (List.forall_mem_cons.mpr ⟨w_2458, (List.forall_mem_cons.mpr ⟨w_2460, (List.forall_mem_cons.mpr ⟨w_83, (List.forall_mem_cons.mpr ⟨w_111, (fun _ h => absurd h List.not_mem_nil)⟩)⟩)⟩)⟩), cw_X12_parse, rfl, ⟨by decide, by decide, by decide +kernel⟩, by decide⟩
theorem s_X12_326_X12 : gSV RX12 326 9 m_X12_why 5 := ⟨RX12, TX12, 21, rfl, rfl, (List.forall_mem_cons.mpr ⟨w_2504, (List.forall_mem_cons.mpr ⟨w_2506, (List.forall_mem_cons.mpr ⟨w_93, (List.forall_mem_cons.mpr ⟨w_111, (fun _ h => absurd h List.not_mem_nil)⟩)⟩)⟩)⟩), cw_X12_why, rfl, ⟨by decide, by decide, by decide +kernel⟩, by decide⟩
theorem s_X12_330_X12 : gSV RX12 330 9 m_X12_does 5 := ⟨RX12, TX12, 21, rfl, rfl, (List.forall_mem_cons.mpr ⟨w_2508, (List.forall_mem_cons.mpr ⟨w_2510, (List.forall_mem_cons.mpr ⟨w_94, (List.forall_mem_cons.mpr ⟨w_111, (fun _ h => absurd h List.not_mem_nil)⟩)⟩)⟩)⟩), cw_X12_does, rfl, ⟨by decide, by decide, by decide +kernel⟩, by decide⟩
theorem f_X12_35_X12 : gFl RX12 35 9 8 := ⟨RX12, TX12, 21, "PaperBoatInsurerModel", rfl, by decide, rfl, uw_X12, w_1913, Or.inl rfl⟩
theorem s_X12_333_X12 : gSV RX12 333 9 m_X12_present 1 := ⟨RX12, TX12, 21, rfl, rfl, (List.forall_mem_cons.mpr ⟨w_2516, (List.forall_mem_cons.mpr ⟨w_2518, (List.forall_mem_cons.mpr ⟨w_95, (List.forall_mem_cons.mpr ⟨w_111, (fun _ h => absurd h List.not_mem_nil)⟩)⟩)⟩)⟩), cw_X12_present, rfl, ⟨by decide, by decide, by decide +kernel⟩, by decide⟩
theorem f_X12_38_X12 : gFl RX12 38 9 9 := ⟨RX12, TX12, 21, "PaperBoatInsurerModel", rfl, by decide, rfl, uw_X12, w_1914, Or.inl rfl⟩
theorem f_X12_16_X12 : gFl RX12 16 9 2 := ⟨RX12, TX12, 21, "PaperBoatInsurerModel", rfl, by decide, rfl, uw_X12, w_1907, Or.inl rfl⟩
theorem f_X12_41_X12 : gFl RX12 41 9 10 := ⟨RX12, TX12, 21, "PaperBoatInsurerModel", rfl, by decide, rfl, uw_X12, w_1915, Or.inl rfl⟩
theorem s_L_7_X11 : gSV RL 7 8 m_X11_insure 3 := ⟨RX11, TX11, 8, rfl, rfl, (List.forall_mem_cons.mpr ⟨w_724, (List.forall_mem_cons.mpr ⟨w_725, (List.forall_mem_cons.mpr ⟨w_726, (List.forall_mem_cons.mpr ⟨w_97, (fun _ h => absurd h List.not_mem_nil)⟩)⟩)⟩)⟩), cw_X11_insure, rfl, ⟨by decide, by decide, by decide +kernel⟩, by decide⟩
theorem s_L_17_X11 : gSV RL 17 8 m_X11_endPolicy 1 := ⟨RX11, TX11, 8, rfl, rfl, (List.forall_mem_cons.mpr ⟨w_861, (List.forall_mem_cons.mpr ⟨w_862, (List.forall_mem_cons.mpr ⟨w_863, (List.forall_mem_cons.mpr ⟨w_97, (fun _ h => absurd h List.not_mem_nil)⟩)⟩)⟩)⟩), cw_X11_endPolicy, rfl, ⟨by decide, by decide, by decide +kernel⟩, by decide⟩
theorem s_L_23_X11 : gSV RL 23 8 m_X11_addTreaty 4 := ⟨RX11, TX11, 8, rfl, rfl, (List.forall_mem_cons.mpr ⟨w_919, (List.forall_mem_cons.mpr ⟨w_920, (List.forall_mem_cons.mpr ⟨w_921, (List.forall_mem_cons.mpr ⟨w_97, (fun _ h => absurd h List.not_mem_nil)⟩)⟩)⟩)⟩), cw_X11_addTreaty, rfl, ⟨by decide, by decide, by decide +kernel⟩, by decide⟩
theorem s_L_27_X11 : gSV RL 27 8 m_X11_dropTreaty 1 := ⟨RX11, TX11, 8, rfl, rfl, (List.forall_mem_cons.mpr ⟨w_961, (List.forall_mem_cons.mpr ⟨w_962, (List.forall_mem_cons.mpr ⟨w_963, (List.forall_mem_cons.mpr ⟨w_97, (fun _ h => absurd h List.not_mem_nil)⟩)⟩)⟩)⟩), cw_X11_dropTreaty, rfl, ⟨by decide, by decide, by decide +kernel⟩, by decide⟩
theorem s_L_32_X11 : gSV RL 32 8 m_X11_claim 3 := ⟨RX11, TX11, 8, rfl, rfl, (List.forall_mem_cons.mpr ⟨w_1000, (List.forall_mem_cons.mpr ⟨w_1001, (List.forall_mem_cons.mpr ⟨w_1002, (List.forall_mem_cons.mpr ⟨w_97, (fun _ h => absurd h List.not_mem_nil)⟩)⟩)⟩)⟩), cw_X11_claim, rfl, ⟨by decide, by decide, by decide +kernel⟩, by decide⟩
theorem s_L_38_X11 : gSV RL 38 8 m_X11_pay 2 := ⟨RX11, TX11, 8, rfl, rfl, (List.forall_mem_cons.mpr ⟨w_1051, (List.forall_mem_cons.mpr ⟨w_1052, (List.forall_mem_cons.mpr ⟨w_1053, (List.forall_mem_cons.mpr ⟨w_97, (fun _ h => absurd h List.not_mem_nil)⟩)⟩)⟩)⟩), cw_X11_pay, rfl, ⟨by decide, by decide, by decide +kernel⟩, by decide⟩
theorem s_L_42_X11 : gSV RL 42 8 m_X11_closeClaim 1 := ⟨RX11, TX11, 8, rfl, rfl, (List.forall_mem_cons.mpr ⟨w_1079, (List.forall_mem_cons.mpr ⟨w_1080, (List.forall_mem_cons.mpr ⟨w_1081, (List.forall_mem_cons.mpr ⟨w_97, (fun _ h => absurd h List.not_mem_nil)⟩)⟩)⟩)⟩), cw_X11_closeClaim, rfl, ⟨by decide, by decide, by decide +kernel⟩, by decide⟩
theorem s_L_45_X11 : gSV RL 45 8 m_X11_withdrawClaim 1 := ⟨RX11, TX11, 8, rfl, rfl, (List.forall_mem_cons.mpr ⟨w_1098, (List.forall_mem_cons.mpr ⟨w_1099, (List.forall_mem_cons.mpr ⟨w_1100, (List.forall_mem_cons.mpr ⟨w_97, (fun _ h => absurd h List.not_mem_nil)⟩)⟩)⟩)⟩), cw_X11_withdrawClaim, rfl, ⟨by decide, by decide, by decide +kernel⟩, by decide⟩
theorem s_L_48_X11 : gSV RL 48 8 m_X11_addOffer 3 := ⟨RX11, TX11, 8, rfl, rfl, (List.forall_mem_cons.mpr ⟨w_1114, (List.forall_mem_cons.mpr ⟨w_1115, (List.forall_mem_cons.mpr ⟨w_1116, (List.forall_mem_cons.mpr ⟨w_97, (fun _ h => absurd h List.not_mem_nil)⟩)⟩)⟩)⟩), cw_X11_addOffer, rfl, ⟨by decide, by decide, by decide +kernel⟩, by decide⟩
theorem s_L_51_X11 : gSV RL 51 8 m_X11_dropOffer 1 := ⟨RX11, TX11, 8, rfl, rfl, (List.forall_mem_cons.mpr ⟨w_1127, (List.forall_mem_cons.mpr ⟨w_1128, (List.forall_mem_cons.mpr ⟨w_1129, (List.forall_mem_cons.mpr ⟨w_97, (fun _ h => absurd h List.not_mem_nil)⟩)⟩)⟩)⟩), cw_X11_dropOffer, rfl, ⟨by decide, by decide, by decide +kernel⟩, by decide⟩
theorem s_L_54_X11 : gSV RL 54 8 m_X11_passDays 1 := ⟨RX11, TX11, 8, rfl, rfl, (List.forall_mem_cons.mpr ⟨w_1140, (List.forall_mem_cons.mpr ⟨w_1141, (List.forall_mem_cons.mpr ⟨w_1142, (List.forall_mem_cons.mpr ⟨w_97, (fun _ h => absurd h List.not_mem_nil)⟩)⟩)⟩)⟩), cw_X11_passDays, rfl, ⟨by decide, by decide, by decide +kernel⟩, by decide⟩
theorem s_L_57_X11 : gSV RL 57 8 m_X11_policyAt 1 := ⟨RX11, TX11, 8, rfl, rfl, (List.forall_mem_cons.mpr ⟨w_1151, (List.forall_mem_cons.mpr ⟨w_1152, (List.forall_mem_cons.mpr ⟨w_1153, (List.forall_mem_cons.mpr ⟨w_97, (fun _ h => absurd h List.not_mem_nil)⟩)⟩)⟩)⟩), cw_X11_policyAt, rfl, ⟨by decide, by decide, by decide +kernel⟩, by decide⟩
theorem s_L_60_X11 : gSV RL 60 8 m_X11_sumOf 1 := ⟨RX11, TX11, 8, rfl, rfl, (List.forall_mem_cons.mpr ⟨w_1159, (List.forall_mem_cons.mpr ⟨w_1160, (List.forall_mem_cons.mpr ⟨w_1161, (List.forall_mem_cons.mpr ⟨w_97, (fun _ h => absurd h List.not_mem_nil)⟩)⟩)⟩)⟩), cw_X11_sumOf, rfl, ⟨by decide, by decide, by decide +kernel⟩, by decide⟩
theorem s_L_63_X11 : gSV RL 63 8 m_X11_sumLeft 1 := ⟨RX11, TX11, 8, rfl, rfl, (List.forall_mem_cons.mpr ⟨w_1167, (List.forall_mem_cons.mpr ⟨w_1168, (List.forall_mem_cons.mpr ⟨w_1169, (List.forall_mem_cons.mpr ⟨w_97, (fun _ h => absurd h List.not_mem_nil)⟩)⟩)⟩)⟩), cw_X11_sumLeft, rfl, ⟨by decide, by decide, by decide +kernel⟩, by decide⟩
theorem s_L_66_X11 : gSV RL 66 8 m_X11_riskOf 1 := ⟨RX11, TX11, 8, rfl, rfl, (List.forall_mem_cons.mpr ⟨w_1175, (List.forall_mem_cons.mpr ⟨w_1176, (List.forall_mem_cons.mpr ⟨w_1177, (List.forall_mem_cons.mpr ⟨w_97, (fun _ h => absurd h List.not_mem_nil)⟩)⟩)⟩)⟩), cw_X11_riskOf, rfl, ⟨by decide, by decide, by decide +kernel⟩, by decide⟩
theorem s_L_69_X11 : gSV RL 69 8 m_X11_premiumOf 1 := ⟨RX11, TX11, 8, rfl, rfl, (List.forall_mem_cons.mpr ⟨w_1182, (List.forall_mem_cons.mpr ⟨w_1183, (List.forall_mem_cons.mpr ⟨w_1184, (List.forall_mem_cons.mpr ⟨w_97, (fun _ h => absurd h List.not_mem_nil)⟩)⟩)⟩)⟩), cw_X11_premiumOf, rfl, ⟨by decide, by decide, by decide +kernel⟩, by decide⟩
theorem s_L_72_X11 : gSV RL 72 8 m_X11_endOf 1 := ⟨RX11, TX11, 8, rfl, rfl, (List.forall_mem_cons.mpr ⟨w_1189, (List.forall_mem_cons.mpr ⟨w_1190, (List.forall_mem_cons.mpr ⟨w_1191, (List.forall_mem_cons.mpr ⟨w_97, (fun _ h => absurd h List.not_mem_nil)⟩)⟩)⟩)⟩), cw_X11_endOf, rfl, ⟨by decide, by decide, by decide +kernel⟩, by decide⟩
theorem s_L_75_X11 : gSV RL 75 8 m_X11_isActive 1 := ⟨RX11, TX11, 8, rfl, rfl, (List.forall_mem_cons.mpr ⟨w_1196, (List.forall_mem_cons.mpr ⟨w_1197, (List.forall_mem_cons.mpr ⟨w_1198, (List.forall_mem_cons.mpr ⟨w_97, (fun _ h => absurd h List.not_mem_nil)⟩)⟩)⟩)⟩), cw_X11_isActive, rfl, ⟨by decide, by decide, by decide +kernel⟩, by decide⟩
theorem s_L_79_X11 : gSV RL 79 8 m_X11_claimAt 1 := ⟨RX11, TX11, 8, rfl, rfl, (List.forall_mem_cons.mpr ⟨w_1204, (List.forall_mem_cons.mpr ⟨w_1205, (List.forall_mem_cons.mpr ⟨w_1206, (List.forall_mem_cons.mpr ⟨w_97, (fun _ h => absurd h List.not_mem_nil)⟩)⟩)⟩)⟩), cw_X11_claimAt, rfl, ⟨by decide, by decide, by decide +kernel⟩, by decide⟩
theorem s_L_82_X11 : gSV RL 82 8 m_X11_policyOf 1 := ⟨RX11, TX11, 8, rfl, rfl, (List.forall_mem_cons.mpr ⟨w_1211, (List.forall_mem_cons.mpr ⟨w_1212, (List.forall_mem_cons.mpr ⟨w_1213, (List.forall_mem_cons.mpr ⟨w_97, (fun _ h => absurd h List.not_mem_nil)⟩)⟩)⟩)⟩), cw_X11_policyOf, rfl, ⟨by decide, by decide, by decide +kernel⟩, by decide⟩
theorem s_L_85_X11 : gSV RL 85 8 m_X11_causeOf 1 := ⟨RX11, TX11, 8, rfl, rfl, (List.forall_mem_cons.mpr ⟨w_1219, (List.forall_mem_cons.mpr ⟨w_1220, (List.forall_mem_cons.mpr ⟨w_1221, (List.forall_mem_cons.mpr ⟨w_97, (fun _ h => absurd h List.not_mem_nil)⟩)⟩)⟩)⟩), cw_X11_causeOf, rfl, ⟨by decide, by decide, by decide +kernel⟩, by decide⟩
theorem s_L_89_X11 : gSV RL 89 8 m_X11_amountOf 1 := ⟨RX11, TX11, 8, rfl, rfl, (List.forall_mem_cons.mpr ⟨w_1226, (List.forall_mem_cons.mpr ⟨w_1227, (List.forall_mem_cons.mpr ⟨w_1228, (List.forall_mem_cons.mpr ⟨w_97, (fun _ h => absurd h List.not_mem_nil)⟩)⟩)⟩)⟩), cw_X11_amountOf, rfl, ⟨by decide, by decide, by decide +kernel⟩, by decide⟩
theorem s_L_92_X11 : gSV RL 92 8 m_X11_paidOf 1 := ⟨RX11, TX11, 8, rfl, rfl, (List.forall_mem_cons.mpr ⟨w_1233, (List.forall_mem_cons.mpr ⟨w_1234, (List.forall_mem_cons.mpr ⟨w_1235, (List.forall_mem_cons.mpr ⟨w_97, (fun _ h => absurd h List.not_mem_nil)⟩)⟩)⟩)⟩), cw_X11_paidOf, rfl, ⟨by decide, by decide, by decide +kernel⟩, by decide⟩
theorem s_L_95_X11 : gSV RL 95 8 m_X11_borneBy 2 := ⟨RX11, TX11, 8, rfl, rfl, (List.forall_mem_cons.mpr ⟨w_1240, (List.forall_mem_cons.mpr ⟨w_1241, (List.forall_mem_cons.mpr ⟨w_1242, (List.forall_mem_cons.mpr ⟨w_97, (fun _ h => absurd h List.not_mem_nil)⟩)⟩)⟩)⟩), cw_X11_borneBy, rfl, ⟨by decide, by decide, by decide +kernel⟩, by decide⟩
theorem s_L_98_X11 : gSV RL 98 8 m_X11_ownPart 1 := ⟨RX11, TX11, 8, rfl, rfl, (List.forall_mem_cons.mpr ⟨w_1247, (List.forall_mem_cons.mpr ⟨w_1248, (List.forall_mem_cons.mpr ⟨w_1249, (List.forall_mem_cons.mpr ⟨w_97, (fun _ h => absurd h List.not_mem_nil)⟩)⟩)⟩)⟩), cw_X11_ownPart, rfl, ⟨by decide, by decide, by decide +kernel⟩, by decide⟩
theorem s_L_101_X11 : gSV RL 101 8 m_X11_recovered 1 := ⟨RX11, TX11, 8, rfl, rfl, (List.forall_mem_cons.mpr ⟨w_1258, (List.forall_mem_cons.mpr ⟨w_1259, (List.forall_mem_cons.mpr ⟨w_1260, (List.forall_mem_cons.mpr ⟨w_97, (fun _ h => absurd h List.not_mem_nil)⟩)⟩)⟩)⟩), cw_X11_recovered, rfl, ⟨by decide, by decide, by decide +kernel⟩, by decide⟩
theorem s_L_104_X11 : gSV RL 104 8 m_X11_startOf 1 := ⟨RX11, TX11, 8, rfl, rfl, (List.forall_mem_cons.mpr ⟨w_1266, (List.forall_mem_cons.mpr ⟨w_1267, (List.forall_mem_cons.mpr ⟨w_1268, (List.forall_mem_cons.mpr ⟨w_97, (fun _ h => absurd h List.not_mem_nil)⟩)⟩)⟩)⟩), cw_X11_startOf, rfl, ⟨by decide, by decide, by decide +kernel⟩, by decide⟩
theorem s_L_107_X11 : gSV RL 107 8 m_X11_capacityOf 1 := ⟨RX11, TX11, 8, rfl, rfl, (List.forall_mem_cons.mpr ⟨w_1273, (List.forall_mem_cons.mpr ⟨w_1274, (List.forall_mem_cons.mpr ⟨w_1275, (List.forall_mem_cons.mpr ⟨w_97, (fun _ h => absurd h List.not_mem_nil)⟩)⟩)⟩)⟩), cw_X11_capacityOf, rfl, ⟨by decide, by decide, by decide +kernel⟩, by decide⟩
theorem s_L_110_X11 : gSV RL 110 8 m_X11_borne 1 := ⟨RX11, TX11, 8, rfl, rfl, (List.forall_mem_cons.mpr ⟨w_1280, (List.forall_mem_cons.mpr ⟨w_1281, (List.forall_mem_cons.mpr ⟨w_1282, (List.forall_mem_cons.mpr ⟨w_97, (fun _ h => absurd h List.not_mem_nil)⟩)⟩)⟩)⟩), cw_X11_borne, rfl, ⟨by decide, by decide, by decide +kernel⟩, by decide⟩
theorem s_L_113_X11 : gSV RL 113 8 m_X11_borneByCoins 1 := ⟨RX11, TX11, 8, rfl, rfl, (List.forall_mem_cons.mpr ⟨w_1289, (List.forall_mem_cons.mpr ⟨w_1290, (List.forall_mem_cons.mpr ⟨w_1291, (List.forall_mem_cons.mpr ⟨w_97, (fun _ h => absurd h List.not_mem_nil)⟩)⟩)⟩)⟩), cw_X11_borneByCoins, rfl, ⟨by decide, by decide, by decide +kernel⟩, by decide⟩
theorem s_L_116_X11 : gSV RL 116 8 m_X11_outcomesWithin 1 := ⟨RX11, TX11, 8, rfl, rfl, (List.forall_mem_cons.mpr ⟨w_1297, (List.forall_mem_cons.mpr ⟨w_1298, (List.forall_mem_cons.mpr ⟨w_1299, (List.forall_mem_cons.mpr ⟨w_97, (fun _ h => absurd h List.not_mem_nil)⟩)⟩)⟩)⟩), cw_X11_outcomesWithin, rfl, ⟨by decide, by decide, by decide +kernel⟩, by decide⟩
theorem s_L_120_X11 : gSV RL 120 8 m_X11_outcomesWithinBySets 1 := ⟨RX11, TX11, 8, rfl, rfl, (List.forall_mem_cons.mpr ⟨w_1306, (List.forall_mem_cons.mpr ⟨w_1307, (List.forall_mem_cons.mpr ⟨w_1308, (List.forall_mem_cons.mpr ⟨w_97, (fun _ h => absurd h List.not_mem_nil)⟩)⟩)⟩)⟩), cw_X11_outcomesWithinBySets, rfl, ⟨by decide, by decide, by decide +kernel⟩, by decide⟩
theorem s_L_123_X11 : gSV RL 123 8 m_X11_paidIn 2 := ⟨RX11, TX11, 8, rfl, rfl, (List.forall_mem_cons.mpr ⟨w_1314, (List.forall_mem_cons.mpr ⟨w_1315, (List.forall_mem_cons.mpr ⟨w_1316, (List.forall_mem_cons.mpr ⟨w_97, (fun _ h => absurd h List.not_mem_nil)⟩)⟩)⟩)⟩), cw_X11_paidIn, rfl, ⟨by decide, by decide, by decide +kernel⟩, by decide⟩
theorem s_L_126_X11 : gSV RL 126 8 m_X11_projected 1 := ⟨RX11, TX11, 8, rfl, rfl, (List.forall_mem_cons.mpr ⟨w_1321, (List.forall_mem_cons.mpr ⟨w_1322, (List.forall_mem_cons.mpr ⟨w_1323, (List.forall_mem_cons.mpr ⟨w_97, (fun _ h => absurd h List.not_mem_nil)⟩)⟩)⟩)⟩), cw_X11_projected, rfl, ⟨by decide, by decide, by decide +kernel⟩, by decide⟩
theorem s_L_129_X11 : gSV RL 129 8 m_X11_projectedByRecursion 1 := ⟨RX11, TX11, 8, rfl, rfl, (List.forall_mem_cons.mpr ⟨w_1329, (List.forall_mem_cons.mpr ⟨w_1330, (List.forall_mem_cons.mpr ⟨w_1331, (List.forall_mem_cons.mpr ⟨w_97, (fun _ h => absurd h List.not_mem_nil)⟩)⟩)⟩)⟩), cw_X11_projectedByRecursion, rfl, ⟨by decide, by decide, by decide +kernel⟩, by decide⟩
theorem s_L_132_X11 : gSV RL 132 8 m_X11_cheapestCover 2 := ⟨RX11, TX11, 8, rfl, rfl, (List.forall_mem_cons.mpr ⟨w_1337, (List.forall_mem_cons.mpr ⟨w_1338, (List.forall_mem_cons.mpr ⟨w_1339, (List.forall_mem_cons.mpr ⟨w_97, (fun _ h => absurd h List.not_mem_nil)⟩)⟩)⟩)⟩), cw_X11_cheapestCover, rfl, ⟨by decide, by decide, by decide +kernel⟩, by decide⟩
theorem s_L_135_X11 : gSV RL 135 8 m_X11_cheapestCoverBySets 2 := ⟨RX11, TX11, 8, rfl, rfl, (List.forall_mem_cons.mpr ⟨w_1351, (List.forall_mem_cons.mpr ⟨w_1352, (List.forall_mem_cons.mpr ⟨w_1353, (List.forall_mem_cons.mpr ⟨w_97, (fun _ h => absurd h List.not_mem_nil)⟩)⟩)⟩)⟩), cw_X11_cheapestCoverBySets, rfl, ⟨by decide, by decide, by decide +kernel⟩, by decide⟩
theorem s_L_138_X11 : gSV RL 138 8 m_X11_policyByLoad 1 := ⟨RX11, TX11, 8, rfl, rfl, (List.forall_mem_cons.mpr ⟨w_1359, (List.forall_mem_cons.mpr ⟨w_1360, (List.forall_mem_cons.mpr ⟨w_1361, (List.forall_mem_cons.mpr ⟨w_97, (fun _ h => absurd h List.not_mem_nil)⟩)⟩)⟩)⟩), cw_X11_policyByLoad, rfl, ⟨by decide, by decide, by decide +kernel⟩, by decide⟩
theorem s_L_141_X11 : gSV RL 141 8 m_X11_claimByUnpaid 1 := ⟨RX11, TX11, 8, rfl, rfl, (List.forall_mem_cons.mpr ⟨w_1387, (List.forall_mem_cons.mpr ⟨w_1388, (List.forall_mem_cons.mpr ⟨w_1389, (List.forall_mem_cons.mpr ⟨w_97, (fun _ h => absurd h List.not_mem_nil)⟩)⟩)⟩)⟩), cw_X11_claimByUnpaid, rfl, ⟨by decide, by decide, by decide +kernel⟩, by decide⟩
theorem s_L_144_X11 : gSV RL 144 8 m_X11_meanSum 0 := ⟨RX11, TX11, 8, rfl, rfl, (List.forall_mem_cons.mpr ⟨w_1411, (List.forall_mem_cons.mpr ⟨w_1412, (List.forall_mem_cons.mpr ⟨w_1413, (List.forall_mem_cons.mpr ⟨w_97, (fun _ h => absurd h List.not_mem_nil)⟩)⟩)⟩)⟩), cw_X11_meanSum, rfl, ⟨by decide, by decide, by decide +kernel⟩, by decide⟩
theorem s_L_150_X11 : gSV RL 150 8 m_X11_paidShare 0 := ⟨RX11, TX11, 8, rfl, rfl, (List.forall_mem_cons.mpr ⟨w_1422, (List.forall_mem_cons.mpr ⟨w_1423, (List.forall_mem_cons.mpr ⟨w_1424, (List.forall_mem_cons.mpr ⟨w_97, (fun _ h => absurd h List.not_mem_nil)⟩)⟩)⟩)⟩), cw_X11_paidShare, rfl, ⟨by decide, by decide, by decide +kernel⟩, by decide⟩
theorem s_L_154_X11 : gSV RL 154 8 m_X11_writePolicy 1 := ⟨RX11, TX11, 8, rfl, rfl, (List.forall_mem_cons.mpr ⟨w_1430, (List.forall_mem_cons.mpr ⟨w_1431, (List.forall_mem_cons.mpr ⟨w_1432, (List.forall_mem_cons.mpr ⟨w_97, (fun _ h => absurd h List.not_mem_nil)⟩)⟩)⟩)⟩), cw_X11_writePolicy, rfl, ⟨by decide, by decide, by decide +kernel⟩, by decide⟩
theorem s_L_157_X11 : gSV RL 157 8 m_X11_writeClaim 1 := ⟨RX11, TX11, 8, rfl, rfl, (List.forall_mem_cons.mpr ⟨w_1712, (List.forall_mem_cons.mpr ⟨w_1713, (List.forall_mem_cons.mpr ⟨w_1714, (List.forall_mem_cons.mpr ⟨w_97, (fun _ h => absurd h List.not_mem_nil)⟩)⟩)⟩)⟩), cw_X11_writeClaim, rfl, ⟨by decide, by decide, by decide +kernel⟩, by decide⟩
theorem s_L_160_X11 : gSV RL 160 8 m_X11_outputAt 1 := ⟨RX11, TX11, 8, rfl, rfl, (List.forall_mem_cons.mpr ⟨w_1719, (List.forall_mem_cons.mpr ⟨w_1720, (List.forall_mem_cons.mpr ⟨w_1721, (List.forall_mem_cons.mpr ⟨w_97, (fun _ h => absurd h List.not_mem_nil)⟩)⟩)⟩)⟩), cw_X11_outputAt, rfl, ⟨by decide, by decide, by decide +kernel⟩, by decide⟩
theorem s_L_163_X11 : gSV RL 163 8 m_X11_type 1 := ⟨RX11, TX11, 8, rfl, rfl, (List.forall_mem_cons.mpr ⟨w_1736, (List.forall_mem_cons.mpr ⟨w_1737, (List.forall_mem_cons.mpr ⟨w_1738, (List.forall_mem_cons.mpr ⟨w_97, (fun _ h => absurd h List.not_mem_nil)⟩)⟩)⟩)⟩), cw_X11_type, rfl, ⟨by decide, by decide, by decide +kernel⟩, by decide⟩
theorem s_L_167_X11 : gSV RL 167 8 m_X11_runScript 0 := ⟨RX11, TX11, 8, rfl, rfl, (List.forall_mem_cons.mpr ⟨w_1752, (List.forall_mem_cons.mpr ⟨w_1753, (List.forall_mem_cons.mpr ⟨w_1754, (List.forall_mem_cons.mpr ⟨w_97, (fun _ h => absurd h List.not_mem_nil)⟩)⟩)⟩)⟩), cw_X11_runScript, rfl, ⟨by decide, by decide, by decide +kernel⟩, by decide⟩
theorem s_L_171_X11 : gSV RL 171 8 m_X11_errorPosition 0 := ⟨RX11, TX11, 8, rfl, rfl, (List.forall_mem_cons.mpr ⟨w_1857, (List.forall_mem_cons.mpr ⟨w_1858, (List.forall_mem_cons.mpr ⟨w_1859, (List.forall_mem_cons.mpr ⟨w_97, (fun _ h => absurd h List.not_mem_nil)⟩)⟩)⟩)⟩), cw_X11_errorPosition, rfl, ⟨by decide, by decide, by decide +kernel⟩, by decide⟩
theorem s_L_174_X11 : gSV RL 174 8 m_X11_failedCommand 0 := ⟨RX11, TX11, 8, rfl, rfl, (List.forall_mem_cons.mpr ⟨w_1868, (List.forall_mem_cons.mpr ⟨w_1869, (List.forall_mem_cons.mpr ⟨w_1870, (List.forall_mem_cons.mpr ⟨w_97, (fun _ h => absurd h List.not_mem_nil)⟩)⟩)⟩)⟩), cw_X11_failedCommand, rfl, ⟨by decide, by decide, by decide +kernel⟩, by decide⟩
theorem s_L_177_X11 : gSV RL 177 8 m_X11_undo 0 := ⟨RX11, TX11, 8, rfl, rfl, (List.forall_mem_cons.mpr ⟨w_1875, (List.forall_mem_cons.mpr ⟨w_1876, (List.forall_mem_cons.mpr ⟨w_1877, (List.forall_mem_cons.mpr ⟨w_97, (fun _ h => absurd h List.not_mem_nil)⟩)⟩)⟩)⟩), cw_X11_undo, rfl, ⟨by decide, by decide, by decide +kernel⟩, by decide⟩
theorem s_L_180_X11 : gSV RL 180 8 m_X11_restore 0 := ⟨RX11, TX11, 8, rfl, rfl, (List.forall_mem_cons.mpr ⟨w_1890, (List.forall_mem_cons.mpr ⟨w_1891, (List.forall_mem_cons.mpr ⟨w_1892, (List.forall_mem_cons.mpr ⟨w_97, (fun _ h => absurd h List.not_mem_nil)⟩)⟩)⟩)⟩), cw_X11_restore, rfl, ⟨by decide, by decide, by decide +kernel⟩, by decide⟩
theorem t_X1_108_110 : gTh RX1 108 110 112 "java/lang/IllegalStateException" ["java/lang/RuntimeException", "java/lang/Exception"] := ⟨⟨"there is a claim of the policy", List.mem_filterMap.mpr ⟨.stringRef RX1 110 "there is a claim of the policy", List.mem_of_getElem? (i := 896) (by decide +kernel), by decide +kernel⟩⟩, by decide +kernel, by decide +kernel, w_895, w_118, gth_of (by decide +kernel), by decide⟩
theorem t_X1_108_139 : gTh RX1 108 139 112 "java/lang/IllegalStateException" ["java/lang/RuntimeException", "java/lang/Exception"] := ⟨⟨"the treaty bears a coin of a claim", List.mem_filterMap.mpr ⟨.stringRef RX1 139 "the treaty bears a coin of a claim", List.mem_of_getElem? (i := 985) (by decide +kernel), by decide +kernel⟩⟩, by decide +kernel, by decide +kernel, w_895, w_118, gth_of (by decide +kernel), by decide⟩
theorem t_X1_149_151 : gTh RX1 149 151 153 "java/lang/IllegalArgumentException" ["java/lang/RuntimeException", "java/lang/Exception"] := ⟨⟨"there is no such cause", List.mem_filterMap.mpr ⟨.stringRef RX1 151 "there is no such cause", List.mem_of_getElem? (i := 1012) (by decide +kernel), by decide +kernel⟩⟩, by decide +kernel, by decide +kernel, w_1011, w_117, gth_of (by decide +kernel), by decide⟩
theorem t_X1_108_158 : gTh RX1 108 158 112 "java/lang/IllegalStateException" ["java/lang/RuntimeException", "java/lang/Exception"] := ⟨⟨"the policy is not active, or there are too many claims", List.mem_filterMap.mpr ⟨.stringRef RX1 158 "the policy is not active, or there are too many claims", List.mem_of_getElem? (i := 1015) (by decide +kernel), by decide +kernel⟩⟩, by decide +kernel, by decide +kernel, w_895, w_118, gth_of (by decide +kernel), by decide⟩
theorem t_X1_172_174 : gTh RX1 172 174 176 "java/lang/UnsupportedOperationException" ["java/lang/RuntimeException", "java/lang/Exception"] := ⟨⟨"the amount would be 0 or less", List.mem_filterMap.mpr ⟨.stringRef RX1 174 "the amount would be 0 or less", List.mem_of_getElem? (i := 1032) (by decide +kernel), by decide +kernel⟩⟩, by decide +kernel, by decide +kernel, w_1023, w_122, gth_of (by decide +kernel), by decide⟩
theorem t_X1_108_196 : gTh RX1 108 196 112 "java/lang/IllegalStateException" ["java/lang/RuntimeException", "java/lang/Exception"] := ⟨⟨"less than this is left to pay", List.mem_filterMap.mpr ⟨.stringRef RX1 196 "less than this is left to pay", List.mem_of_getElem? (i := 1066) (by decide +kernel), by decide +kernel⟩⟩, by decide +kernel, by decide +kernel, w_895, w_118, gth_of (by decide +kernel), by decide⟩
theorem t_X1_108_210 : gTh RX1 108 210 112 "java/lang/IllegalStateException" ["java/lang/RuntimeException", "java/lang/Exception"] := ⟨⟨"something is left to pay", List.mem_filterMap.mpr ⟨.stringRef RX1 210 "something is left to pay", List.mem_of_getElem? (i := 1087) (by decide +kernel), by decide +kernel⟩⟩, by decide +kernel, by decide +kernel, w_895, w_118, gth_of (by decide +kernel), by decide⟩
theorem t_X1_108_216 : gTh RX1 108 216 112 "java/lang/IllegalStateException" ["java/lang/RuntimeException", "java/lang/Exception"] := ⟨⟨"a part was paid", List.mem_filterMap.mpr ⟨.stringRef RX1 216 "a part was paid", List.mem_of_getElem? (i := 1106) (by decide +kernel), by decide +kernel⟩⟩, by decide +kernel, by decide +kernel, w_895, w_118, gth_of (by decide +kernel), by decide⟩
theorem t_X3_39_41 : gTh RX3 39 41 43 "java/lang/IllegalStateException" ["java/lang/RuntimeException", "java/lang/Exception"] := ⟨⟨"there is nothing to undo", List.mem_filterMap.mpr ⟨.stringRef RX3 41 "there is nothing to undo", List.mem_of_getElem? (i := 1884) (by decide +kernel), by decide +kernel⟩⟩, by decide +kernel, by decide +kernel, w_1883, w_118, gth_of (by decide +kernel), by decide⟩
theorem t_X6_30_32 : gTn RX6 30 32 34 := ⟨⟨"there is no such id", List.mem_filterMap.mpr ⟨.stringRef RX6 32 "there is no such id", List.mem_of_getElem? (i := 887) (by decide +kernel), by decide +kernel⟩⟩, w_878, w_119, w_888⟩
theorem t_X6_30_49 : gTn RX6 30 49 34 := ⟨⟨"there is no such rank", List.mem_filterMap.mpr ⟨.stringRef RX6 49 "there is no such rank", List.mem_of_getElem? (i := 1383) (by decide +kernel), by decide +kernel⟩⟩, w_878, w_119, w_888⟩
theorem t_X7_26_28 : gTh RX7 26 28 30 "java/lang/IllegalStateException" ["java/lang/RuntimeException", "java/lang/Exception"] := ⟨⟨"the script buffer is full", List.mem_filterMap.mpr ⟨.stringRef RX7 28 "the script buffer is full", List.mem_of_getElem? (i := 1746) (by decide +kernel), by decide +kernel⟩⟩, by decide +kernel, by decide +kernel, w_1745, w_118, gth_of (by decide +kernel), by decide⟩
theorem t_X11_250_252 : gTh RX11 250 252 254 "java/lang/ArithmeticException" ["java/lang/RuntimeException", "java/lang/Exception"] := ⟨⟨"there are no policies", List.mem_filterMap.mpr ⟨.stringRef RX11 252 "there are no policies", List.mem_of_getElem? (i := 1416) (by decide +kernel), by decide +kernel⟩⟩, by decide +kernel, by decide +kernel, w_1415, w_124, gth_of (by decide +kernel), by decide⟩
theorem t_X11_250_261 : gTh RX11 250 261 254 "java/lang/ArithmeticException" ["java/lang/RuntimeException", "java/lang/Exception"] := ⟨⟨"there are no claims", List.mem_filterMap.mpr ⟨.stringRef RX11 261 "there are no claims", List.mem_of_getElem? (i := 1426) (by decide +kernel), by decide +kernel⟩⟩, by decide +kernel, by decide +kernel, w_1415, w_124, gth_of (by decide +kernel), by decide⟩
theorem t_X11_312_314 : gTh RX11 312 314 316 "java/lang/IllegalArgumentException" ["java/lang/RuntimeException", "java/lang/Exception"] := ⟨⟨"the script does not have the required form", List.mem_filterMap.mpr ⟨.stringRef RX11 314 "the script does not have the required form", List.mem_of_getElem? (i := 1813) (by decide +kernel), by decide +kernel⟩⟩, by decide +kernel, by decide +kernel, w_751, w_117, gth_of (by decide +kernel), by decide⟩
theorem t_X11_324_326 : gTh RX11 324 326 328 "java/lang/IllegalStateException" ["java/lang/RuntimeException", "java/lang/Exception"] := ⟨⟨"a command failed", List.mem_filterMap.mpr ⟨.stringRef RX11 326 "a command failed", List.mem_of_getElem? (i := 1853) (by decide +kernel), by decide +kernel⟩⟩, by decide +kernel, by decide +kernel, w_832, w_118, gth_of (by decide +kernel), by decide⟩
theorem t_X11_324_339 : gTh RX11 324 339 328 "java/lang/IllegalStateException" ["java/lang/RuntimeException", "java/lang/Exception"] := ⟨⟨"there is no snapshot", List.mem_filterMap.mpr ⟨.stringRef RX11 339 "there is no snapshot", List.mem_of_getElem? (i := 1894) (by decide +kernel), by decide +kernel⟩⟩, by decide +kernel, by decide +kernel, w_832, w_118, gth_of (by decide +kernel), by decide⟩
theorem t_X11_347_349 : gTn RX11 347 349 351 := ⟨⟨"there is no cover", List.mem_filterMap.mpr ⟨.stringRef RX11 349 "there is no cover", List.mem_of_getElem? (i := 1346) (by decide +kernel), by decide +kernel⟩⟩, w_1345, w_119, w_1347⟩
theorem t_X11_347_352 : gTn RX11 347 352 351 := ⟨⟨"there was no such script", List.mem_filterMap.mpr ⟨.stringRef RX11 352 "there was no such script", List.mem_of_getElem? (i := 1864) (by decide +kernel), by decide +kernel⟩⟩, w_1345, w_119, w_1347⟩
theorem t_X11_312_354 : gTh RX11 312 354 316 "java/lang/IllegalArgumentException" ["java/lang/RuntimeException", "java/lang/Exception"] := ⟨⟨"a number is out of its range", List.mem_filterMap.mpr ⟨.stringRef RX11 354 "a number is out of its range", List.mem_of_getElem? (i := 797) (by decide +kernel), by decide +kernel⟩⟩, by decide +kernel, by decide +kernel, w_751, w_117, gth_of (by decide +kernel), by decide⟩
theorem t_X11_356_358 : gTh RX11 356 358 360 "java/lang/IndexOutOfBoundsException" ["java/lang/RuntimeException", "java/lang/Exception"] := ⟨⟨"there is no such index", List.mem_filterMap.mpr ⟨.stringRef RX11 358 "there is no such index", List.mem_of_getElem? (i := 981) (by decide +kernel), by decide +kernel⟩⟩, by decide +kernel, by decide +kernel, w_972, w_120, gth_of (by decide +kernel), by decide⟩
theorem t_X11_324_361 : gTh RX11 324 361 328 "java/lang/IllegalStateException" ["java/lang/RuntimeException", "java/lang/Exception"] := ⟨⟨"there is no room for one more", List.mem_filterMap.mpr ⟨.stringRef RX11 361 "there is no room for one more", List.mem_of_getElem? (i := 841) (by decide +kernel), by decide +kernel⟩⟩, by decide +kernel, by decide +kernel, w_832, w_118, gth_of (by decide +kernel), by decide⟩
