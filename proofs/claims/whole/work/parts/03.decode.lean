/-- a written number, as the machine's int -/
def azC (n : Int) : Int32 := match n with
  | .ofNat k => nI k
  | .negSucc k => -(nI (k + 1))
def azLen (q : Instr × Nat) : Bool := match q.1 with
  | .iconst n => q.2 == 1 && Int32.ofInt n == azC n
  | .bipush n => q.2 == 2 && (Int8.ofInt n).toInt32 == azC n
  | .sipush n => q.2 == 3 && (Int16.ofInt n).toInt32 == azC n
  | .iinc _ n => q.2 == 3 && Int32.ofInt n == azC n
  | .lconst _ | .iload_n _ | .lload_n _ | .aload_n _ | .istore_n _ | .lstore_n _ | .astore_n _ => q.2 == 1
  | .ldc _ | .iload _ | .lload _ | .aload _ | .istore _ | .lstore _ | .astore _ | .newarray _ => q.2 == 2
  | .ldc_w _ | .ldc2_w _ | .if_icmp _ _ | .ifCond _ _ | .ifnull _ | .ifnonnull _ | .goto _ | .getfield _ | .putfield _ | .getstatic _ | .new _ | .anewarray _ | .invokevirtual _ | .invokestatic _ | .invokespecial _ => q.2 == 3
  | .tableswitch _ lo hi os => decide (os.size = (hi - lo + 1).toNat)
  | .lookupswitch _ ps => (ps.toList.zip (ps.toList.drop 1)).all (fun (a, next) => a.1 < next.1)
  | _ => q.2 == 1
def azTabOK (M : azM) : Bool := decide (M.1.cls = azN M.2.2.2.2.2.1) && (!M.2.2.2.2.1 || decide (M.1.name = "<init>")) && decide (M.2.2.1 ≤ 21) && M.2.2.2.2.2.2.all (fun q => decide (decode M.2.1 q.1 = .ok q.2) && azLen q.2)
theorem kX0_init : azTabOK mX0_init = true := by decide +kernel
theorem kX0_solve : azTabOK mX0_solve = true := by decide +kernel
theorem kX0_rowWith : azTabOK mX0_rowWith = true := by decide +kernel
theorem kX0_swapRows : azTabOK mX0_swapRows = true := by decide +kernel
theorem kX0_clearOthers : azTabOK mX0_clearOthers = true := by decide +kernel
theorem kX0_clearRow : azTabOK mX0_clearRow = true := by decide +kernel
theorem kX0_shortenRow : azTabOK mX0_shortenRow = true := by decide +kernel
theorem kX0_commonDivisor : azTabOK mX0_commonDivisor = true := by decide +kernel
theorem kX0_count : azTabOK mX0_count = true := by decide +kernel
theorem kX0_placeOf : azTabOK mX0_placeOf = true := by decide +kernel
theorem kX0_weigh : azTabOK mX0_weigh = true := by decide +kernel
theorem kX0_addUp : azTabOK mX0_addUp = true := by decide +kernel
theorem kX0_setFraction : azTabOK mX0_setFraction = true := by decide +kernel
theorem kX1_init : azTabOK mX1_init = true := by decide +kernel
theorem kX1_chosenFor : azTabOK mX1_chosenFor = true := by decide +kernel
theorem kX1_countBindings : azTabOK mX1_countBindings = true := by decide +kernel
theorem kX1_bindFirst : azTabOK mX1_bindFirst = true := by decide +kernel
theorem kX1_goes : azTabOK mX1_goes = true := by decide +kernel
theorem kX1_bindFrom : azTabOK mX1_bindFrom = true := by decide +kernel
theorem kX1_isFree : azTabOK mX1_isFree = true := by decide +kernel
theorem kX1_conditionsHold : azTabOK mX1_conditionsHold = true := by decide +kernel
theorem kX1_copyLeft : azTabOK mX1_copyLeft = true := by decide +kernel
theorem kX1_isTaken : azTabOK mX1_isTaken = true := by decide +kernel
theorem kX1_value : azTabOK mX1_value = true := by decide +kernel
theorem kX1_result : azTabOK mX1_result = true := by decide +kernel
theorem kX2_init : azTabOK mX2_init = true := by decide +kernel
theorem kX2_keep : azTabOK mX2_keep = true := by decide +kernel
theorem kX2_giveBack : azTabOK mX2_giveBack = true := by decide +kernel
theorem kX3_init : azTabOK mX3_init = true := by decide +kernel
theorem kX3_count : azTabOK mX3_count = true := by decide +kernel
theorem kX3_holds : azTabOK mX3_holds = true := by decide +kernel
theorem kX3_at : azTabOK mX3_at = true := by decide +kernel
theorem kX3_append : azTabOK mX3_append = true := by decide +kernel
theorem kX3_remove : azTabOK mX3_remove = true := by decide +kernel
theorem kX3_wipe : azTabOK mX3_wipe = true := by decide +kernel
theorem kX3_copy : azTabOK mX3_copy = true := by decide +kernel
theorem kX3_isLike : azTabOK mX3_isLike = true := by decide +kernel
theorem kX3_total : azTabOK mX3_total = true := by decide +kernel
theorem kX4_init : azTabOK mX4_init = true := by decide +kernel
theorem kX4_at : azTabOK mX4_at = true := by decide +kernel
theorem kX4_writeMarking : azTabOK mX4_writeMarking = true := by decide +kernel
theorem kX4_writeRule : azTabOK mX4_writeRule = true := by decide +kernel
theorem kX4_writeClause : azTabOK mX4_writeClause = true := by decide +kernel
theorem kX4_writeCode : azTabOK mX4_writeCode = true := by decide +kernel
theorem kX4_writeItem : azTabOK mX4_writeItem = true := by decide +kernel
theorem kX4_joinPieces : azTabOK mX4_joinPieces = true := by decide +kernel
theorem kX4_holdOf : azTabOK mX4_holdOf = true := by decide +kernel
theorem kX4_write : azTabOK mX4_write = true := by decide +kernel
theorem kX4_insert : azTabOK mX4_insert = true := by decide +kernel
theorem kX4_writeText : azTabOK mX4_writeText = true := by decide +kernel
theorem kX4_writeNumber : azTabOK mX4_writeNumber = true := by decide +kernel
theorem kX5_init : azTabOK mX5_init = true := by decide +kernel
theorem kX5_kind : azTabOK mX5_kind = true := by decide +kernel
theorem kX5_place : azTabOK mX5_place = true := by decide +kernel
theorem kX5_name : azTabOK mX5_name = true := by decide +kernel
theorem kX5_begin : azTabOK mX5_begin = true := by decide +kernel
theorem kX5_end : azTabOK mX5_end = true := by decide +kernel
theorem kX5_takeClause : azTabOK mX5_takeClause = true := by decide +kernel
theorem kX5_giveClause : azTabOK mX5_giveClause = true := by decide +kernel
theorem kX5_item : azTabOK mX5_item = true := by decide +kernel
theorem kX5_addItem : azTabOK mX5_addItem = true := by decide +kernel
theorem kX5_addTake : azTabOK mX5_addTake = true := by decide +kernel
theorem kX5_addCondition : azTabOK mX5_addCondition = true := by decide +kernel
theorem kX5_addGive : azTabOK mX5_addGive = true := by decide +kernel
theorem kX5_addEmpty : azTabOK mX5_addEmpty = true := by decide +kernel
theorem kX5_addClause : azTabOK mX5_addClause = true := by decide +kernel
theorem kX5_changeOf : azTabOK mX5_changeOf = true := by decide +kernel
theorem kX6_init : azTabOK mX6_init = true := by decide +kernel
theorem kX6_append : azTabOK mX6_append = true := by decide +kernel
theorem kX6_wipe : azTabOK mX6_wipe = true := by decide +kernel
theorem kX6_read : azTabOK mX6_read = true := by decide +kernel
theorem kX6_fail : azTabOK mX6_fail = true := by decide +kernel
theorem kX6_peek : azTabOK mX6_peek = true := by decide +kernel
theorem kX6_byteAt : azTabOK mX6_byteAt = true := by decide +kernel
theorem kX6_expect : azTabOK mX6_expect = true := by decide +kernel
theorem kX6_readClause : azTabOK mX6_readClause = true := by decide +kernel
theorem kX6_wordEnd : azTabOK mX6_wordEnd = true := by decide +kernel
theorem kX6_kindOf : azTabOK mX6_kindOf = true := by decide +kernel
theorem kX6_isWord : azTabOK mX6_isWord = true := by decide +kernel
theorem kX6_isOneTooMany : azTabOK mX6_isOneTooMany = true := by decide +kernel
theorem kX6_readIn : azTabOK mX6_readIn = true := by decide +kernel
theorem kX6_readOut : azTabOK mX6_readOut = true := by decide +kernel
theorem kX6_readIf : azTabOK mX6_readIf = true := by decide +kernel
theorem kX6_readComparison : azTabOK mX6_readComparison = true := by decide +kernel
theorem kX6_readSum : azTabOK mX6_readSum = true := by decide +kernel
theorem kX6_readFactor : azTabOK mX6_readFactor = true := by decide +kernel
theorem kX7_init : azTabOK mX7_init = true := by decide +kernel
theorem kX7_search : azTabOK mX7_search = true := by decide +kernel
theorem kX7_numberOfNext : azTabOK mX7_numberOfNext = true := by decide +kernel
theorem kX7_among : azTabOK mX7_among = true := by decide +kernel
theorem kX7_countIn : azTabOK mX7_countIn = true := by decide +kernel
theorem kX7_fullest : azTabOK mX7_fullest = true := by decide +kernel
theorem kX7_ableSomewhere : azTabOK mX7_ableSomewhere = true := by decide +kernel
theorem kX7_countEnds : azTabOK mX7_countEnds = true := by decide +kernel
theorem kX7_firstStuck : azTabOK mX7_firstStuck = true := by decide +kernel
theorem kX7_spreadEnding : azTabOK mX7_spreadEnding = true := by decide +kernel
theorem kX7_leadsToEnding : azTabOK mX7_leadsToEnding = true := by decide +kernel
theorem kX7_steps : azTabOK mX7_steps = true := by decide +kernel
theorem kX7_step : azTabOK mX7_step = true := by decide +kernel
theorem kX8_init : azTabOK mX8_init = true := by decide +kernel
theorem kX8_put : azTabOK mX8_put = true := by decide +kernel
theorem kX8_take : azTabOK mX8_take = true := by decide +kernel
theorem kX8_token : azTabOK mX8_token = true := by decide +kernel
theorem kX8_feed : azTabOK mX8_feed = true := by decide +kernel
theorem kX8_clear : azTabOK mX8_clear = true := by decide +kernel
theorem kX8_rule : azTabOK mX8_rule = true := by decide +kernel
theorem kX8_drop : azTabOK mX8_drop = true := by decide +kernel
theorem kX8_has : azTabOK mX8_has = true := by decide +kernel
theorem kX8_spell : azTabOK mX8_spell = true := by decide +kernel
theorem kX8_line : azTabOK mX8_line = true := by decide +kernel
theorem kX8_paper : azTabOK mX8_paper = true := by decide +kernel
theorem kX8_can : azTabOK mX8_can = true := by decide +kernel
theorem kX8_bound : azTabOK mX8_bound = true := by decide +kernel
theorem kX8_bindings : azTabOK mX8_bindings = true := by decide +kernel
theorem kX8_go : azTabOK mX8_go = true := by decide +kernel
theorem kX8_all : azTabOK mX8_all = true := by decide +kernel
theorem kX8_again : azTabOK mX8_again = true := by decide +kernel
theorem kX8_last : azTabOK mX8_last = true := by decide +kernel
theorem kX8_reach : azTabOK mX8_reach = true := by decide +kernel
theorem kX8_most : azTabOK mX8_most = true := by decide +kernel
theorem kX8_dead : azTabOK mX8_dead = true := by decide +kernel
theorem kX8_ends : azTabOK mX8_ends = true := by decide +kernel
theorem kX8_stuck : azTabOK mX8_stuck = true := by decide +kernel
theorem kX8_walk : azTabOK mX8_walk = true := by decide +kernel
theorem kX8_held : azTabOK mX8_held = true := by decide +kernel
theorem kX8_change : azTabOK mX8_change = true := by decide +kernel
theorem kX8_invariants : azTabOK mX8_invariants = true := by decide +kernel
theorem kX8_weight : azTabOK mX8_weight = true := by decide +kernel
theorem kX8_sum : azTabOK mX8_sum = true := by decide +kernel
theorem kX8_told : azTabOK mX8_told = true := by decide +kernel
theorem kX8_image : azTabOK mX8_image = true := by decide +kernel
theorem kX8_undo : azTabOK mX8_undo = true := by decide +kernel
theorem kX8_isPlace : azTabOK mX8_isPlace = true := by decide +kernel
theorem kX8_isPart : azTabOK mX8_isPart = true := by decide +kernel
theorem kX8_isSet : azTabOK mX8_isSet = true := by decide +kernel
theorem kX8_isTimes : azTabOK mX8_isTimes = true := by decide +kernel
theorem kX8_isReach : azTabOK mX8_isReach = true := by decide +kernel
theorem kX8_isSide : azTabOK mX8_isSide = true := by decide +kernel
theorem kX8_isFigure : azTabOK mX8_isFigure = true := by decide +kernel
theorem kX8_isName : azTabOK mX8_isName = true := by decide +kernel
theorem kX8_wordOf : azTabOK mX8_wordOf = true := by decide +kernel
theorem kX8_rulesTold : azTabOK mX8_rulesTold = true := by decide +kernel
theorem kX8_tryOut : azTabOK mX8_tryOut = true := by decide +kernel
theorem kX8_tryOne : azTabOK mX8_tryOne = true := by decide +kernel
theorem kX8_walksNow : azTabOK mX8_walksNow = true := by decide +kernel
theorem kX9_init : azTabOK mX9_init = true := by decide +kernel
theorem kX9_isIn : azTabOK mX9_isIn = true := by decide +kernel
theorem kX9_isPlace : azTabOK mX9_isPlace = true := by decide +kernel
theorem kX9_pours : azTabOK mX9_pours = true := by decide +kernel
theorem kX9_at : azTabOK mX9_at = true := by decide +kernel
theorem kX9_removes : azTabOK mX9_removes = true := by decide +kernel
theorem kX9_adds : azTabOK mX9_adds = true := by decide +kernel
theorem kX9_put : azTabOK mX9_put = true := by decide +kernel
theorem kX9_take : azTabOK mX9_take = true := by decide +kernel
theorem kX9_token : azTabOK mX9_token = true := by decide +kernel
theorem kX9_feed : azTabOK mX9_feed = true := by decide +kernel
theorem kX9_clear : azTabOK mX9_clear = true := by decide +kernel
theorem kX9_peek : azTabOK mX9_peek = true := by decide +kernel
theorem kX9_wrong : azTabOK mX9_wrong = true := by decide +kernel
theorem kX9_takes : azTabOK mX9_takes = true := by decide +kernel
theorem kX9_isFigure : azTabOK mX9_isFigure = true := by decide +kernel
theorem kX9_figure : azTabOK mX9_figure = true := by decide +kernel
theorem kX9_expression : azTabOK mX9_expression = true := by decide +kernel
theorem kX9_term : azTabOK mX9_term = true := by decide +kernel
theorem kX9_factor : azTabOK mX9_factor = true := by decide +kernel
theorem kX9_compares : azTabOK mX9_compares = true := by decide +kernel
theorem kX9_word : azTabOK mX9_word = true := by decide +kernel
theorem kX9_takeClause : azTabOK mX9_takeClause = true := by decide +kernel
theorem kX9_giveClause : azTabOK mX9_giveClause = true := by decide +kernel
theorem kX9_conditionClause : azTabOK mX9_conditionClause = true := by decide +kernel
theorem kX9_clause : azTabOK mX9_clause = true := by decide +kernel
theorem kX9_reads : azTabOK mX9_reads = true := by decide +kernel
theorem kX9_readsRule : azTabOK mX9_readsRule = true := by decide +kernel
theorem kX9_rule : azTabOK mX9_rule = true := by decide +kernel
theorem kX9_drop : azTabOK mX9_drop = true := by decide +kernel
theorem kX9_has : azTabOK mX9_has = true := by decide +kernel
theorem kX9_writes : azTabOK mX9_writes = true := by decide +kernel
theorem kX9_sign : azTabOK mX9_sign = true := by decide +kernel
theorem kX9_bare : azTabOK mX9_bare = true := by decide +kernel
theorem kX9_looseness : azTabOK mX9_looseness = true := by decide +kernel
theorem kX9_spells : azTabOK mX9_spells = true := by decide +kernel
theorem kX9_end : azTabOK mX9_end = true := by decide +kernel
theorem kX9_spell : azTabOK mX9_spell = true := by decide +kernel
theorem kX9_writesNumber : azTabOK mX9_writesNumber = true := by decide +kernel
theorem kX9_line : azTabOK mX9_line = true := by decide +kernel
theorem kX9_paper : azTabOK mX9_paper = true := by decide +kernel
theorem kX9_isBinding : azTabOK mX9_isBinding = true := by decide +kernel
theorem kX9_binds : azTabOK mX9_binds = true := by decide +kernel
theorem kX9_goes : azTabOK mX9_goes = true := by decide +kernel
theorem kX9_can : azTabOK mX9_can = true := by decide +kernel
theorem kX9_bound : azTabOK mX9_bound = true := by decide +kernel
theorem kX9_bindings : azTabOK mX9_bindings = true := by decide +kernel
theorem kX9_go : azTabOK mX9_go = true := by decide +kernel
theorem kX9_all : azTabOK mX9_all = true := by decide +kernel
theorem kX9_repeats : azTabOK mX9_repeats = true := by decide +kernel
theorem kX9_isRepeat : azTabOK mX9_isRepeat = true := by decide +kernel
theorem kX9_again : azTabOK mX9_again = true := by decide +kernel
theorem kX9_last : azTabOK mX9_last = true := by decide +kernel
theorem kX9_placeOf : azTabOK mX9_placeOf = true := by decide +kernel
theorem kX9_finds : azTabOK mX9_finds = true := by decide +kernel
theorem kX9_reach : azTabOK mX9_reach = true := by decide +kernel
theorem kX9_most : azTabOK mX9_most = true := by decide +kernel
theorem kX9_dead : azTabOK mX9_dead = true := by decide +kernel
theorem kX9_isEnd : azTabOK mX9_isEnd = true := by decide +kernel
theorem kX9_ends : azTabOK mX9_ends = true := by decide +kernel
theorem kX9_stuck : azTabOK mX9_stuck = true := by decide +kernel
theorem kX9_walk : azTabOK mX9_walk = true := by decide +kernel
theorem kX9_held : azTabOK mX9_held = true := by decide +kernel
theorem kX9_changeOf : azTabOK mX9_changeOf = true := by decide +kernel
theorem kX9_change : azTabOK mX9_change = true := by decide +kernel
theorem kX9_gcd : azTabOK mX9_gcd = true := by decide +kernel
theorem kX9_sets : azTabOK mX9_sets = true := by decide +kernel
theorem kX9_less : azTabOK mX9_less = true := by decide +kernel
theorem kX9_swaps : azTabOK mX9_swaps = true := by decide +kernel
theorem kX9_reduces : azTabOK mX9_reduces = true := by decide +kernel
theorem kX9_invariants : azTabOK mX9_invariants = true := by decide +kernel
theorem kX9_weighs : azTabOK mX9_weighs = true := by decide +kernel
theorem kX9_weight : azTabOK mX9_weight = true := by decide +kernel
theorem kX9_sum : azTabOK mX9_sum = true := by decide +kernel
theorem kX9_tokens : azTabOK mX9_tokens = true := by decide +kernel
theorem kX9_told : azTabOK mX9_told = true := by decide +kernel
theorem kX9_image : azTabOK mX9_image = true := by decide +kernel
theorem kX9_undo : azTabOK mX9_undo = true := by decide +kernel
theorem kJ6_bitCount_0f7a4 : azTabOK mJ6_bitCount_0f7a4 = true := by decide +kernel
theorem kJ9_floorMod_7cf53 : azTabOK mJ9_floorMod_7cf53 = true := by decide +kernel
theorem kJ9_abs_067f4 : azTabOK mJ9_abs_067f4 = true := by decide +kernel
theorem kJ9_max_7cf53 : azTabOK mJ9_max_7cf53 = true := by decide +kernel
theorem kJ9_min_7cf53 : azTabOK mJ9_min_7cf53 = true := by decide +kernel
theorem kJ0_length_8abf5 : azTabOK mJ0_length_8abf5 = true := by decide +kernel
theorem kJ0_charAt_5068e : azTabOK mJ0_charAt_5068e = true := by decide +kernel
theorem kJ0_coder_7d493 : azTabOK mJ0_coder_7d493 = true := by decide +kernel
theorem kJ0_isLatin1_aae02 : azTabOK mJ0_isLatin1_aae02 = true := by decide +kernel
theorem kJ0_checkIndex_df160 : azTabOK mJ0_checkIndex_df160 = true := by decide +kernel
theorem kJ1_charAt_3b067 : azTabOK mJ1_charAt_3b067 = true := by decide +kernel
theorem kJ3_checkIndex_8e157 : azTabOK mJ3_checkIndex_8e157 = true := by decide +kernel
theorem kL_law_0 : tL_law_0.all (fun q => decide (decode cL_law q.1 = .ok q.2) && azLen q.2) = true := by decide +kernel
theorem kL_law_1 : tL_law_1.all (fun q => decide (decode cL_law q.1 = .ok q.2) && azLen q.2) = true := by decide +kernel
theorem kL_law_2 : tL_law_2.all (fun q => decide (decode cL_law q.1 = .ok q.2) && azLen q.2) = true := by decide +kernel
theorem kL_law_3 : tL_law_3.all (fun q => decide (decode cL_law q.1 = .ok q.2) && azLen q.2) = true := by decide +kernel
theorem kL_law_4 : tL_law_4.all (fun q => decide (decode cL_law q.1 = .ok q.2) && azLen q.2) = true := by decide +kernel
theorem kL_law_5 : tL_law_5.all (fun q => decide (decode cL_law q.1 = .ok q.2) && azLen q.2) = true := by decide +kernel
theorem kL_law_6 : tL_law_6.all (fun q => decide (decode cL_law q.1 = .ok q.2) && azLen q.2) = true := by decide +kernel
theorem kL_law_7 : tL_law_7.all (fun q => decide (decode cL_law q.1 = .ok q.2) && azLen q.2) = true := by decide +kernel
theorem kL_law_8 : tL_law_8.all (fun q => decide (decode cL_law q.1 = .ok q.2) && azLen q.2) = true := by decide +kernel
theorem kL_law_9 : tL_law_9.all (fun q => decide (decode cL_law q.1 = .ok q.2) && azLen q.2) = true := by decide +kernel
theorem kL_law_10 : tL_law_10.all (fun q => decide (decode cL_law q.1 = .ok q.2) && azLen q.2) = true := by decide +kernel
theorem kL_law_11 : tL_law_11.all (fun q => decide (decode cL_law q.1 = .ok q.2) && azLen q.2) = true := by decide +kernel
theorem kL_law_12 : tL_law_12.all (fun q => decide (decode cL_law q.1 = .ok q.2) && azLen q.2) = true := by decide +kernel
theorem kL_law_13 : tL_law_13.all (fun q => decide (decode cL_law q.1 = .ok q.2) && azLen q.2) = true := by decide +kernel
theorem kL_law_14 : tL_law_14.all (fun q => decide (decode cL_law q.1 = .ok q.2) && azLen q.2) = true := by decide +kernel
theorem kL_law_15 : tL_law_15.all (fun q => decide (decode cL_law q.1 = .ok q.2) && azLen q.2) = true := by decide +kernel
theorem kL_law_16 : tL_law_16.all (fun q => decide (decode cL_law q.1 = .ok q.2) && azLen q.2) = true := by decide +kernel
theorem kL_law_17 : tL_law_17.all (fun q => decide (decode cL_law q.1 = .ok q.2) && azLen q.2) = true := by decide +kernel
theorem kL_law_t : tL_law.all (fun q => decide (decode cL_law q.1 = .ok q.2) && azLen q.2) = true := by
  unfold tL_law
  simp only [List.all_append, Bool.and_eq_true]
  exact ⟨kL_law_0, kL_law_1, kL_law_2, kL_law_3, kL_law_4, kL_law_5, kL_law_6, kL_law_7, kL_law_8, kL_law_9, kL_law_10, kL_law_11, kL_law_12, kL_law_13, kL_law_14, kL_law_15, kL_law_16, kL_law_17⟩
theorem kL_law : azTabOK mL_law = true := by
  have h : (decide (yL_law.cls = azN 10) && (!false || decide (yL_law.name = "<init>")) && decide (4 ≤ 21)) = true := by decide +kernel
  show (_ && _) = true
  rw [Bool.and_eq_true]
  exact ⟨h, kL_law_t⟩
theorem k_nil : azTabOK m_nil = true := by decide +kernel
theorem azCok_0 : ∀ q ∈ azCL.getD 0 [], azTabOK q.2.2.2 = true := List.forall_mem_cons.mpr ⟨k_nil, List.forall_mem_cons.mpr ⟨kX5_changeOf, List.forall_mem_cons.mpr ⟨kX0_rowWith, List.forall_mem_cons.mpr ⟨kX0_swapRows, List.forall_mem_cons.mpr ⟨kX0_clearOthers, List.forall_mem_cons.mpr ⟨kX0_clearRow, List.forall_mem_cons.mpr ⟨kX0_shortenRow, List.forall_mem_cons.mpr ⟨kX0_commonDivisor, List.forall_mem_cons.mpr ⟨kJ9_abs_067f4, List.forall_mem_cons.mpr ⟨kX8_isPlace, List.forall_mem_cons.mpr ⟨kX0_setFraction, List.forall_mem_cons.mpr ⟨kX0_weigh, List.forall_mem_cons.mpr ⟨kX3_count, fun _ h => absurd h List.not_mem_nil⟩⟩⟩⟩⟩⟩⟩⟩⟩⟩⟩⟩⟩
theorem azCok_1 : ∀ q ∈ azCL.getD 1 [], azTabOK q.2.2.2 = true := List.forall_mem_cons.mpr ⟨k_nil, List.forall_mem_cons.mpr ⟨kX1_bindFrom, List.forall_mem_cons.mpr ⟨kX1_copyLeft, List.forall_mem_cons.mpr ⟨kX5_giveClause, List.forall_mem_cons.mpr ⟨kX1_value, List.forall_mem_cons.mpr ⟨kJ9_floorMod_7cf53, List.forall_mem_cons.mpr ⟨kX5_place, List.forall_mem_cons.mpr ⟨kX3_append, List.forall_mem_cons.mpr ⟨kX1_conditionsHold, List.forall_mem_cons.mpr ⟨kX5_takeClause, List.forall_mem_cons.mpr ⟨kX5_name, List.forall_mem_cons.mpr ⟨kX3_count, List.forall_mem_cons.mpr ⟨kX1_isFree, List.forall_mem_cons.mpr ⟨kX3_at, List.forall_mem_cons.mpr ⟨kX5_kind, List.forall_mem_cons.mpr ⟨kX3_wipe, List.forall_mem_cons.mpr ⟨kX1_isTaken, List.forall_mem_cons.mpr ⟨kX5_begin, List.forall_mem_cons.mpr ⟨kX5_end, List.forall_mem_cons.mpr ⟨kX5_item, List.forall_mem_cons.mpr ⟨kX1_result, fun _ h => absurd h List.not_mem_nil⟩⟩⟩⟩⟩⟩⟩⟩⟩⟩⟩⟩⟩⟩⟩⟩⟩⟩⟩⟩⟩
theorem azCok_2 : ∀ q ∈ azCL.getD 2 [], azTabOK q.2.2.2 = true := List.forall_mem_cons.mpr ⟨k_nil, List.forall_mem_cons.mpr ⟨kX3_init, List.forall_mem_cons.mpr ⟨kX3_copy, fun _ h => absurd h List.not_mem_nil⟩⟩⟩
theorem azCok_3 : ∀ q ∈ azCL.getD 3 [], azTabOK q.2.2.2 = true := List.forall_mem_cons.mpr ⟨k_nil, List.forall_mem_cons.mpr ⟨kX3_holds, List.forall_mem_cons.mpr ⟨kX8_isPlace, fun _ h => absurd h List.not_mem_nil⟩⟩⟩
theorem azCok_4 : ∀ q ∈ azCL.getD 4 [], azTabOK q.2.2.2 = true := List.forall_mem_cons.mpr ⟨k_nil, List.forall_mem_cons.mpr ⟨kX3_count, List.forall_mem_cons.mpr ⟨kX4_write, List.forall_mem_cons.mpr ⟨kX4_writeNumber, List.forall_mem_cons.mpr ⟨kX3_at, List.forall_mem_cons.mpr ⟨kX4_writeClause, List.forall_mem_cons.mpr ⟨kX5_kind, List.forall_mem_cons.mpr ⟨kX8_wordOf, List.forall_mem_cons.mpr ⟨kX4_writeText, List.forall_mem_cons.mpr ⟨kX5_place, List.forall_mem_cons.mpr ⟨kX5_name, List.forall_mem_cons.mpr ⟨kX5_begin, List.forall_mem_cons.mpr ⟨kX5_end, List.forall_mem_cons.mpr ⟨kX4_writeCode, List.forall_mem_cons.mpr ⟨kX5_item, List.forall_mem_cons.mpr ⟨kX4_joinPieces, List.forall_mem_cons.mpr ⟨kX4_writeItem, List.forall_mem_cons.mpr ⟨kX4_holdOf, List.forall_mem_cons.mpr ⟨kX4_insert, List.forall_mem_cons.mpr ⟨kJ0_length_8abf5, List.forall_mem_cons.mpr ⟨kJ0_charAt_5068e, fun _ h => absurd h List.not_mem_nil⟩⟩⟩⟩⟩⟩⟩⟩⟩⟩⟩⟩⟩⟩⟩⟩⟩⟩⟩⟩⟩
theorem azCok_5 : ∀ q ∈ azCL.getD 5 [], azTabOK q.2.2.2 = true := List.forall_mem_cons.mpr ⟨k_nil, List.forall_mem_cons.mpr ⟨kX5_addClause, List.forall_mem_cons.mpr ⟨kX8_isPlace, List.forall_mem_cons.mpr ⟨kX5_place, List.forall_mem_cons.mpr ⟨kX5_kind, fun _ h => absurd h List.not_mem_nil⟩⟩⟩⟩⟩
theorem azCok_6 : ∀ q ∈ azCL.getD 6 [], azTabOK q.2.2.2 = true := List.forall_mem_cons.mpr ⟨k_nil, List.forall_mem_cons.mpr ⟨kX5_init, List.forall_mem_cons.mpr ⟨kX6_readClause, List.forall_mem_cons.mpr ⟨kX6_expect, List.forall_mem_cons.mpr ⟨kX6_peek, List.forall_mem_cons.mpr ⟨kX6_fail, List.forall_mem_cons.mpr ⟨kX6_wordEnd, List.forall_mem_cons.mpr ⟨kX6_kindOf, List.forall_mem_cons.mpr ⟨kX6_isOneTooMany, List.forall_mem_cons.mpr ⟨kX6_readIf, List.forall_mem_cons.mpr ⟨kX8_isFigure, List.forall_mem_cons.mpr ⟨kX5_addEmpty, List.forall_mem_cons.mpr ⟨kX6_readIn, List.forall_mem_cons.mpr ⟨kX6_readOut, List.forall_mem_cons.mpr ⟨kX6_byteAt, List.forall_mem_cons.mpr ⟨kX8_wordOf, List.forall_mem_cons.mpr ⟨kX6_isWord, List.forall_mem_cons.mpr ⟨kJ0_length_8abf5, List.forall_mem_cons.mpr ⟨kJ0_charAt_5068e, List.forall_mem_cons.mpr ⟨kX8_isName, List.forall_mem_cons.mpr ⟨kX5_addTake, List.forall_mem_cons.mpr ⟨kX6_readSum, List.forall_mem_cons.mpr ⟨kX5_addGive, List.forall_mem_cons.mpr ⟨kX6_readComparison, List.forall_mem_cons.mpr ⟨kX5_addItem, List.forall_mem_cons.mpr ⟨kX5_addCondition, List.forall_mem_cons.mpr ⟨kX6_readFactor, fun _ h => absurd h List.not_mem_nil⟩⟩⟩⟩⟩⟩⟩⟩⟩⟩⟩⟩⟩⟩⟩⟩⟩⟩⟩⟩⟩⟩⟩⟩⟩⟩⟩
theorem azCok_7 : ∀ q ∈ azCL.getD 7 [], azTabOK q.2.2.2 = true := List.forall_mem_cons.mpr ⟨k_nil, List.forall_mem_cons.mpr ⟨kX3_init, List.forall_mem_cons.mpr ⟨kX3_copy, List.forall_mem_cons.mpr ⟨kX1_goes, List.forall_mem_cons.mpr ⟨kX7_numberOfNext, List.forall_mem_cons.mpr ⟨kX3_isLike, List.forall_mem_cons.mpr ⟨kJ9_min_7cf53, List.forall_mem_cons.mpr ⟨kX3_count, List.forall_mem_cons.mpr ⟨kX7_among, List.forall_mem_cons.mpr ⟨kX7_countIn, List.forall_mem_cons.mpr ⟨kJ9_max_7cf53, List.forall_mem_cons.mpr ⟨kX7_spreadEnding, List.forall_mem_cons.mpr ⟨kX7_leadsToEnding, fun _ h => absurd h List.not_mem_nil⟩⟩⟩⟩⟩⟩⟩⟩⟩⟩⟩⟩⟩
theorem azCok_8 : ∀ q ∈ azCL.getD 8 [], azTabOK q.2.2.2 = true := List.forall_mem_cons.mpr ⟨k_nil, List.forall_mem_cons.mpr ⟨kX3_init, List.forall_mem_cons.mpr ⟨kX6_init, List.forall_mem_cons.mpr ⟨kX4_init, List.forall_mem_cons.mpr ⟨kX1_init, List.forall_mem_cons.mpr ⟨kX7_init, List.forall_mem_cons.mpr ⟨kX0_init, List.forall_mem_cons.mpr ⟨kX2_init, List.forall_mem_cons.mpr ⟨kX8_isPlace, List.forall_mem_cons.mpr ⟨kX3_append, List.forall_mem_cons.mpr ⟨kX3_count, List.forall_mem_cons.mpr ⟨kX3_holds, List.forall_mem_cons.mpr ⟨kX3_remove, List.forall_mem_cons.mpr ⟨kX3_at, List.forall_mem_cons.mpr ⟨kX6_append, List.forall_mem_cons.mpr ⟨kX6_wipe, List.forall_mem_cons.mpr ⟨kX8_isPart, List.forall_mem_cons.mpr ⟨kX6_read, List.forall_mem_cons.mpr ⟨kJ6_bitCount_0f7a4, List.forall_mem_cons.mpr ⟨kX4_writeRule, List.forall_mem_cons.mpr ⟨kX4_writeMarking, List.forall_mem_cons.mpr ⟨kX4_at, List.forall_mem_cons.mpr ⟨kX1_goes, List.forall_mem_cons.mpr ⟨kX1_bindFirst, List.forall_mem_cons.mpr ⟨kX1_chosenFor, List.forall_mem_cons.mpr ⟨kX1_countBindings, List.forall_mem_cons.mpr ⟨kX3_copy, List.forall_mem_cons.mpr ⟨kX8_isSet, List.forall_mem_cons.mpr ⟨kX8_isTimes, List.forall_mem_cons.mpr ⟨kX8_tryOut, List.forall_mem_cons.mpr ⟨kX8_isReach, List.forall_mem_cons.mpr ⟨kX8_walksNow, List.forall_mem_cons.mpr ⟨kX7_among, List.forall_mem_cons.mpr ⟨kX7_fullest, List.forall_mem_cons.mpr ⟨kX8_rulesTold, List.forall_mem_cons.mpr ⟨kX7_ableSomewhere, List.forall_mem_cons.mpr ⟨kX7_countEnds, List.forall_mem_cons.mpr ⟨kX7_firstStuck, List.forall_mem_cons.mpr ⟨kX7_steps, List.forall_mem_cons.mpr ⟨kX7_step, List.forall_mem_cons.mpr ⟨kX7_countIn, List.forall_mem_cons.mpr ⟨kX5_changeOf, List.forall_mem_cons.mpr ⟨kX0_solve, List.forall_mem_cons.mpr ⟨kX0_count, List.forall_mem_cons.mpr ⟨kX0_placeOf, List.forall_mem_cons.mpr ⟨kX8_isSide, List.forall_mem_cons.mpr ⟨kX0_weigh, List.forall_mem_cons.mpr ⟨kX0_addUp, List.forall_mem_cons.mpr ⟨kX3_total, List.forall_mem_cons.mpr ⟨kX2_keep, List.forall_mem_cons.mpr ⟨kX2_giveBack, List.forall_mem_cons.mpr ⟨kX8_tryOne, List.forall_mem_cons.mpr ⟨kX7_search, fun _ h => absurd h List.not_mem_nil⟩⟩⟩⟩⟩⟩⟩⟩⟩⟩⟩⟩⟩⟩⟩⟩⟩⟩⟩⟩⟩⟩⟩⟩⟩⟩⟩⟩⟩⟩⟩⟩⟩⟩⟩⟩⟩⟩⟩⟩⟩⟩⟩⟩⟩⟩⟩⟩⟩⟩⟩⟩⟩
theorem azCok_9 : ∀ q ∈ azCL.getD 9 [], azTabOK q.2.2.2 = true := List.forall_mem_cons.mpr ⟨k_nil, List.forall_mem_cons.mpr ⟨kX9_isIn, List.forall_mem_cons.mpr ⟨kX9_at, List.forall_mem_cons.mpr ⟨kX9_isPlace, List.forall_mem_cons.mpr ⟨kX9_adds, List.forall_mem_cons.mpr ⟨kX9_removes, List.forall_mem_cons.mpr ⟨kX9_peek, List.forall_mem_cons.mpr ⟨kX9_wrong, List.forall_mem_cons.mpr ⟨kX9_isFigure, List.forall_mem_cons.mpr ⟨kX9_term, List.forall_mem_cons.mpr ⟨kX9_factor, List.forall_mem_cons.mpr ⟨kX9_figure, List.forall_mem_cons.mpr ⟨kX9_expression, List.forall_mem_cons.mpr ⟨kX9_takes, List.forall_mem_cons.mpr ⟨kX9_compares, List.forall_mem_cons.mpr ⟨kX9_word, List.forall_mem_cons.mpr ⟨kX9_takeClause, List.forall_mem_cons.mpr ⟨kX9_giveClause, List.forall_mem_cons.mpr ⟨kX9_conditionClause, List.forall_mem_cons.mpr ⟨kX9_clause, List.forall_mem_cons.mpr ⟨kX9_pours, List.forall_mem_cons.mpr ⟨kX9_reads, List.forall_mem_cons.mpr ⟨kX9_readsRule, List.forall_mem_cons.mpr ⟨kX9_sign, List.forall_mem_cons.mpr ⟨kX9_bare, List.forall_mem_cons.mpr ⟨kX9_looseness, List.forall_mem_cons.mpr ⟨kX9_writes, List.forall_mem_cons.mpr ⟨kX9_spells, List.forall_mem_cons.mpr ⟨kX9_end, List.forall_mem_cons.mpr ⟨kX9_writesNumber, List.forall_mem_cons.mpr ⟨kX9_isBinding, List.forall_mem_cons.mpr ⟨kX9_binds, List.forall_mem_cons.mpr ⟨kX9_goes, List.forall_mem_cons.mpr ⟨kX9_isRepeat, List.forall_mem_cons.mpr ⟨kX9_repeats, List.forall_mem_cons.mpr ⟨kX9_placeOf, List.forall_mem_cons.mpr ⟨kX9_finds, List.forall_mem_cons.mpr ⟨kJ9_max_7cf53, List.forall_mem_cons.mpr ⟨kX9_isEnd, List.forall_mem_cons.mpr ⟨kX9_changeOf, List.forall_mem_cons.mpr ⟨kX9_gcd, List.forall_mem_cons.mpr ⟨kX9_sets, List.forall_mem_cons.mpr ⟨kX9_swaps, List.forall_mem_cons.mpr ⟨kX9_less, List.forall_mem_cons.mpr ⟨kX9_reduces, List.forall_mem_cons.mpr ⟨kX9_weighs, List.forall_mem_cons.mpr ⟨kX9_tokens, fun _ h => absurd h List.not_mem_nil⟩⟩⟩⟩⟩⟩⟩⟩⟩⟩⟩⟩⟩⟩⟩⟩⟩⟩⟩⟩⟩⟩⟩⟩⟩⟩⟩⟩⟩⟩⟩⟩⟩⟩⟩⟩⟩⟩⟩⟩⟩⟩⟩⟩⟩⟩⟩
theorem azCok_10 : ∀ q ∈ azCL.getD 10 [], azTabOK q.2.2.2 = true := List.forall_mem_cons.mpr ⟨kX8_init, List.forall_mem_cons.mpr ⟨kX9_init, List.forall_mem_cons.mpr ⟨kX8_put, List.forall_mem_cons.mpr ⟨kX9_put, List.forall_mem_cons.mpr ⟨kX8_take, List.forall_mem_cons.mpr ⟨kX9_take, List.forall_mem_cons.mpr ⟨kX8_token, List.forall_mem_cons.mpr ⟨kX9_token, List.forall_mem_cons.mpr ⟨kX8_feed, List.forall_mem_cons.mpr ⟨kX9_feed, List.forall_mem_cons.mpr ⟨kX8_clear, List.forall_mem_cons.mpr ⟨kX9_clear, List.forall_mem_cons.mpr ⟨kX8_rule, List.forall_mem_cons.mpr ⟨kX9_rule, List.forall_mem_cons.mpr ⟨kX8_drop, List.forall_mem_cons.mpr ⟨kX9_drop, List.forall_mem_cons.mpr ⟨kX8_has, List.forall_mem_cons.mpr ⟨kX9_has, List.forall_mem_cons.mpr ⟨kX8_spell, List.forall_mem_cons.mpr ⟨kX9_spell, List.forall_mem_cons.mpr ⟨kX8_line, List.forall_mem_cons.mpr ⟨kX9_line, List.forall_mem_cons.mpr ⟨kX8_paper, List.forall_mem_cons.mpr ⟨kX9_paper, List.forall_mem_cons.mpr ⟨kX8_can, List.forall_mem_cons.mpr ⟨kX9_can, List.forall_mem_cons.mpr ⟨kX8_bound, List.forall_mem_cons.mpr ⟨kX9_bound, List.forall_mem_cons.mpr ⟨kX8_bindings, List.forall_mem_cons.mpr ⟨kX9_bindings, List.forall_mem_cons.mpr ⟨kX8_go, List.forall_mem_cons.mpr ⟨kX9_go, List.forall_mem_cons.mpr ⟨kX8_all, List.forall_mem_cons.mpr ⟨kX9_all, List.forall_mem_cons.mpr ⟨kX8_again, List.forall_mem_cons.mpr ⟨kX9_again, List.forall_mem_cons.mpr ⟨kX8_last, List.forall_mem_cons.mpr ⟨kX9_last, List.forall_mem_cons.mpr ⟨kX8_reach, List.forall_mem_cons.mpr ⟨kX9_reach, List.forall_mem_cons.mpr ⟨kX8_most, List.forall_mem_cons.mpr ⟨kX9_most, List.forall_mem_cons.mpr ⟨kX8_dead, List.forall_mem_cons.mpr ⟨kX9_dead, List.forall_mem_cons.mpr ⟨kX8_ends, List.forall_mem_cons.mpr ⟨kX9_ends, List.forall_mem_cons.mpr ⟨kX8_stuck, List.forall_mem_cons.mpr ⟨kX9_stuck, List.forall_mem_cons.mpr ⟨kX8_walk, List.forall_mem_cons.mpr ⟨kX9_walk, List.forall_mem_cons.mpr ⟨kX8_held, List.forall_mem_cons.mpr ⟨kX9_held, List.forall_mem_cons.mpr ⟨kX8_change, List.forall_mem_cons.mpr ⟨kX9_change, List.forall_mem_cons.mpr ⟨kX8_invariants, List.forall_mem_cons.mpr ⟨kX9_invariants, List.forall_mem_cons.mpr ⟨kX8_weight, List.forall_mem_cons.mpr ⟨kX9_weight, List.forall_mem_cons.mpr ⟨kX8_sum, List.forall_mem_cons.mpr ⟨kX9_sum, List.forall_mem_cons.mpr ⟨kX8_told, List.forall_mem_cons.mpr ⟨kX9_told, List.forall_mem_cons.mpr ⟨kX8_image, List.forall_mem_cons.mpr ⟨kX9_image, List.forall_mem_cons.mpr ⟨kX8_undo, List.forall_mem_cons.mpr ⟨kX9_undo, fun _ h => absurd h List.not_mem_nil⟩⟩⟩⟩⟩⟩⟩⟩⟩⟩⟩⟩⟩⟩⟩⟩⟩⟩⟩⟩⟩⟩⟩⟩⟩⟩⟩⟩⟩⟩⟩⟩⟩⟩⟩⟩⟩⟩⟩⟩⟩⟩⟩⟩⟩⟩⟩⟩⟩⟩⟩⟩⟩⟩⟩⟩⟩⟩⟩⟩⟩⟩⟩⟩⟩⟩
theorem azCok_11 : ∀ q ∈ azCL.getD 11 [], azTabOK q.2.2.2 = true :=  fun _ h => absurd h List.not_mem_nil
theorem azCok_12 : ∀ q ∈ azCL.getD 12 [], azTabOK q.2.2.2 = true :=  fun _ h => absurd h List.not_mem_nil
theorem azCok_13 : ∀ q ∈ azCL.getD 13 [], azTabOK q.2.2.2 = true := List.forall_mem_cons.mpr ⟨kJ0_coder_7d493, List.forall_mem_cons.mpr ⟨kJ0_isLatin1_aae02, List.forall_mem_cons.mpr ⟨kJ1_charAt_3b067, List.forall_mem_cons.mpr ⟨kJ3_checkIndex_8e157, fun _ h => absurd h List.not_mem_nil⟩⟩⟩⟩
theorem azCok_14 : ∀ q ∈ azCL.getD 14 [], azTabOK q.2.2.2 = true := List.forall_mem_cons.mpr ⟨kJ0_checkIndex_df160, fun _ h => absurd h List.not_mem_nil⟩
theorem azCok_15 : ∀ q ∈ azCL.getD 15 [], azTabOK q.2.2.2 = true := List.forall_mem_cons.mpr ⟨kJ0_checkIndex_df160, fun _ h => absurd h List.not_mem_nil⟩
theorem azCok_16 : ∀ q ∈ azCL.getD 16 [], azTabOK q.2.2.2 = true :=  fun _ h => absurd h List.not_mem_nil
theorem azCok : ∀ c, ∀ q ∈ azCL.getD c [], azTabOK q.2.2.2 = true := fun c => match c with
  | 0 => azCok_0
  | 1 => azCok_1
  | 2 => azCok_2
  | 3 => azCok_3
  | 4 => azCok_4
  | 5 => azCok_5
  | 6 => azCok_6
  | 7 => azCok_7
  | 8 => azCok_8
  | 9 => azCok_9
  | 10 => azCok_10
  | 11 => azCok_11
  | 12 => azCok_12
  | 13 => azCok_13
  | 14 => azCok_14
  | 15 => azCok_15
  | 16 => azCok_16
  | _ + 17 => fun _ h => absurd h List.not_mem_nil
