/-! tables of links: by the names of part 01; a class by its number: 0 NarrowSolver$Node, 1 NarrowSolver$Numbers, 2 NarrowSolver$Problem, 3 NarrowSolver$Row, 4 NarrowSolver$Rule, 5 NarrowSolver$Rules, 6 NarrowSolver$Solver, 7 NarrowSolver$Symbols, 8 NarrowSolver$Tree, 9 NarrowSolver$TreeMaker, 10 NarrowSolver, 11 NarrowSolverModel, 12 java/util/ArrayList, 13 NarrowSolverLaw, 14 java/lang/Integer, 15 java/lang/Long, 16 java/lang/Math, 17 java/util/Arrays, 18 java/util/Objects, 19 jdk/internal/util/ArraysSupport, 20 jdk/internal/util/Preconditions, 21 java/util/AbstractCollection, 22 java/util/AbstractList -/
abbrev ae_M : Type := MethodName × ByteArray × Nat × Option FieldType × Nat × List Nat × Bool
def ae_on (o : Nat) : String := match o with
  | 0 => RX0
  | 1 => RX1
  | 2 => RX2
  | 3 => RX3
  | 4 => RX4
  | 5 => RX5
  | 6 => RX6
  | 7 => RX7
  | 8 => RX8
  | 9 => RX9
  | 10 => RX10
  | 11 => RX11
  | 12 => RJx4a65c
  | 13 => RL
  | 14 => RJ6
  | 15 => RJ13
  | 16 => RJ9
  | 17 => RJ7
  | 18 => RJ15
  | 19 => RJ8
  | 20 => RJ3
  | 21 => RJxa1e45
  | _ => RJxc12de
def ae_cl : List vw_C := [(RX0, TX0, 11), (RX1, TX1, 2), (RX2, TX2, 4), (RX3, TX3, 3), (RX4, TX4, 2), (RX5, TX5, 5), (RX6, TX6, 13), (RX7, TX7, 3), (RX8, TX8, 2), (RX9, TX9, 4), (RX10, TX10, 4), (RX11, TX11, 53), (RJx4a65c, TJx4a65c, 3)]
def ae_ty (c : Nat) : Nat → FieldType := match c with
  | 0 => tyX0
  | 1 => tyX1
  | 2 => tyX2
  | 3 => tyX3
  | 4 => tyX4
  | 5 => tyX5
  | 6 => tyX6
  | 7 => tyX7
  | 8 => tyX8
  | 9 => tyX9
  | 10 => tyX10
  | 11 => tyX11
  | _ => tyJx4a65c
/-- what the elements of an array are, by a number -/
def ae_T (t : Nat) : Option FieldType := match t with
  | 0 => some .int
  | 1 => some .boolean
  | 2 => some .long
  | 3 => some (.object "NarrowSolver$Rule")
  | 4 => some (.object "NarrowSolver$Tree")
  | 5 => some (.object "NarrowSolver$Problem")
  | 6 => some (.array .int)
  | 7 => some (.object "java/lang/Object")
  | _ => none
def ae_big : List Cond := lw_tbl.filter goodWord
def ae_isN : Cond → Bool
  | .fieldLinkNest _ _ _ _ _ _ => true
  | .methodLinkNest _ _ _ _ => true
  | .castable _ _ => true
  | .arrayOver _ => true
  | .native _ => true
  | .declares _ => true
  | _ => false
theorem ae_inb {w : Cond} (i : Nat) (h : lw_tbl[i]? = some w) (g : goodWord w = true) : w ∈ ae_big := List.mem_filter.mpr ⟨List.mem_of_getElem? h, g⟩
theorem ae_int {w : Cond} (i : Nat) (h : lw_tbl[i]? = some w) : w ∈ lw_tbl := List.mem_of_getElem? h
def mX0_init : ae_M := (yX0_init, cX0_init, 1, none, 0, [], false)
def mX0_isLeaf : ae_M := (yX0_isLeaf, cX0_isLeaf, 1, (some .boolean), 0, [], false)
def mX0_childFor : ae_M := (yX0_childFor, cX0_childFor, 3, (some (.object "NarrowSolver$Node")), 0, [], false)
def mX0_numberOfChild : ae_M := (yX0_numberOfChild, cX0_numberOfChild, 4, (some .int), 0, [], false)
def mX0_append : ae_M := (yX0_append, cX0_append, 2, none, 0, [], false)
def mX1_init : ae_M := (yX1_init, cX1_init, 2, none, 1, [], false)
def mX1_empty : ae_M := (yX1_empty, cX1_empty, 1, none, 1, [], false)
def mX1_isOver : ae_M := (yX1_isOver, cX1_isOver, 1, (some .boolean), 1, [], false)
def mX1_at : ae_M := (yX1_at, cX1_at, 2, (some .int), 1, [], false)
def mX1_put : ae_M := (yX1_put, cX1_put, 2, none, 1, [], false)
def mX1_putAll : ae_M := (yX1_putAll, cX1_putAll, 5, none, 1, [], false)
def mX1_set : ae_M := (yX1_set, cX1_set, 3, none, 1, [], false)
def mX1_insert : ae_M := (yX1_insert, cX1_insert, 3, none, 1, [], false)
def mX1_remove : ae_M := (yX1_remove, cX1_remove, 2, none, 1, [], false)
def mX2_init : ae_M := (yX2_init, cX2_init, 1, none, 2, [], false)
def mX2_isLost : ae_M := (yX2_isLost, cX2_isLost, 1, (some .boolean), 2, [], false)
def mX3_init : ae_M := (yX3_init, cX3_init, 2, none, 3, [], false)
def mX3_empty : ae_M := (yX3_empty, cX3_empty, 1, none, 3, [], false)
def mX3_isFull : ae_M := (yX3_isFull, cX3_isFull, 1, (some .boolean), 3, [], false)
def mX3_at : ae_M := (yX3_at, cX3_at, 2, (some (.object "NarrowSolver$Problem")), 3, [], false)
def mX3_append : ae_M := (yX3_append, cX3_append, 4, (some (.object "NarrowSolver$Problem")), 3, [], false)
def mX3_takeFirst : ae_M := (yX3_takeFirst, cX3_takeFirst, 3, (some (.object "NarrowSolver$Problem")), 3, [], false)
def mX4_init : ae_M := (yX4_init, cX4_init, 3, none, 4, [], false)
def mX5_init : ae_M := (yX5_init, cX5_init, 2, none, 5, [], false)
def mX5_empty : ae_M := (yX5_empty, cX5_empty, 2, none, 5, [], false)
def mX5_at : ae_M := (yX5_at, cX5_at, 2, (some (.object "NarrowSolver$Rule")), 5, [], false)
def mX5_treeOf : ae_M := (yX5_treeOf, cX5_treeOf, 2, (some (.object "NarrowSolver$Tree")), 5, [], false)
def mX5_add : ae_M := (yX5_add, cX5_add, 5, (some .int), 5, [], false)
def mX5_rulesOf : ae_M := (yX5_rulesOf, cX5_rulesOf, 5, (some .long), 5, [2], false)
def mX6_init : ae_M := (yX6_init, cX6_init, 3, none, 6, [], false)
def mX6_empty : ae_M := (yX6_empty, cX6_empty, 1, none, 6, [], false)
def mX6_begin : ae_M := (yX6_begin, cX6_begin, 4, none, 6, [], false)
def mX6_step : ae_M := (yX6_step, cX6_step, 3, none, 6, [], false)
def mX6_unify : ae_M := (yX6_unify, cX6_unify, 5, (some .boolean), 6, [], false)
def mX6_standsOpenly : ae_M := (yX6_standsOpenly, cX6_standsOpenly, 7, (some .boolean), 6, [], false)
def mX6_putArguments : ae_M := (yX6_putArguments, cX6_putArguments, 7, none, 6, [], false)
def mX6_putArgument : ae_M := (yX6_putArgument, cX6_putArgument, 5, (some .int), 6, [], false)
def mX6_workOn : ae_M := (yX6_workOn, cX6_workOn, 7, (some .boolean), 6, [], false)
def mX6_rootFor : ae_M := (yX6_rootFor, cX6_rootFor, 3, (some (.object "NarrowSolver$Node")), 6, [], false)
def mX6_narrow : ae_M := (yX6_narrow, cX6_narrow, 4, none, 6, [], false)
def mX6_rewrite : ae_M := (yX6_rewrite, cX6_rewrite, 8, (some .boolean), 6, [], false)
def mX6_match : ae_M := (yX6_match, cX6_match, 6, (some .int), 6, [], false)
def mX6_startDraft : ae_M := (yX6_startDraft, cX6_startDraft, 1, none, 6, [], false)
def mX6_bind : ae_M := (yX6_bind, cX6_bind, 4, none, 6, [], false)
def mX6_copyBound : ae_M := (yX6_copyBound, cX6_copyBound, 5, none, 6, [], false)
def mX6_finishDraft : ae_M := (yX6_finishDraft, cX6_finishDraft, 2, none, 6, [], false)
def mX6_deliver : ae_M := (yX6_deliver, cX6_deliver, 3, none, 6, [], false)
def mX7_init : ae_M := (yX7_init, cX7_init, 1, none, 7, [], false)
def mX7_add : ae_M := (yX7_add, cX7_add, 3, (some .int), 7, [], false)
def mX7_has : ae_M := (yX7_has, cX7_has, 2, (some .boolean), 7, [], false)
def mX7_isFunction : ae_M := (yX7_isFunction, cX7_isFunction, 2, (some .boolean), 7, [], false)
def mX7_argumentsOf : ae_M := (yX7_argumentsOf, cX7_argumentsOf, 2, (some .int), 7, [], false)
def mX7_endOfTerm : ae_M := (yX7_endOfTerm, cX7_endOfTerm, 5, (some .int), 7, [], false)
def mX7_follow : ae_M := (yX7_follow, cX7_follow, 8, (some .int), 7, [], false)
def mX8_init : ae_M := (yX8_init, cX8_init, 1, none, 8, [], false)
def mX8_at : ae_M := (yX8_at, cX8_at, 2, (some (.object "NarrowSolver$Node")), 8, [], false)
def mX8_add : ae_M := (yX8_add, cX8_add, 6, (some (.object "NarrowSolver$Node")), 8, [2], false)
def mX9_init : ae_M := (yX9_init, cX9_init, 3, none, 9, [], false)
def mX9_make : ae_M := (yX9_make, cX9_make, 8, (some .boolean), 9, [3], false)
def mX9_settle : ae_M := (yX9_settle, cX9_settle, 3, (some .boolean), 9, [], false)
def mX9_growChild : ae_M := (yX9_growChild, cX9_growChild, 6, (some (.object "NarrowSolver$Node")), 9, [], false)
def mX9_unfold : ae_M := (yX9_unfold, cX9_unfold, 4, none, 9, [], false)
def mX9_fold : ae_M := (yX9_fold, cX9_fold, 4, none, 9, [], false)
def mX9_firstBranch : ae_M := (yX9_firstBranch, cX9_firstBranch, 4, (some .int), 9, [1], false)
def mX9_shutVariables : ae_M := (yX9_shutVariables, cX9_shutVariables, 4, none, 9, [], false)
def mX9_standsIn : ae_M := (yX9_standsIn, cX9_standsIn, 5, (some .int), 9, [], false)
def mX9_leastBehind : ae_M := (yX9_leastBehind, cX9_leastBehind, 6, (some .int), 9, [], false)
def mX9_rulesWith : ae_M := (yX9_rulesWith, cX9_rulesWith, 7, (some .long), 9, [3], false)
def mX9_placeOf : ae_M := (yX9_placeOf, cX9_placeOf, 7, (some .int), 9, [], false)
def mX10_init : ae_M := (yX10_init, cX10_init, 1, none, 10, [], false)
def mX10_clear : ae_M := (yX10_clear, cX10_clear, 2, (some .int), 10, [], false)
def mX10_symbol : ae_M := (yX10_symbol, cX10_symbol, 4, (some .int), 10, [], false)
def mX10_feed : ae_M := (yX10_feed, cX10_feed, 5, (some .int), 10, [1], false)
def mX10_rule : ae_M := (yX10_rule, cX10_rule, 3, (some .int), 10, [], false)
def mX10_problem : ae_M := (yX10_problem, cX10_problem, 2, (some .int), 10, [], false)
def mX10_solve : ae_M := (yX10_solve, cX10_solve, 3, (some .int), 10, [], false)
def mX10_solutions : ae_M := (yX10_solutions, cX10_solutions, 1, (some .int), 10, [], false)
def mX10_answer : ae_M := (yX10_answer, cX10_answer, 7, (some .int), 10, [], false)
def mX10_node : ae_M := (yX10_node, cX10_node, 6, (some .int), 10, [], false)
def mX10_waiting : ae_M := (yX10_waiting, cX10_waiting, 4, (some .int), 10, [], false)
def mX10_count : ae_M := (yX10_count, cX10_count, 2, (some .int), 10, [], false)
def mX10_endOnTape : ae_M := (yX10_endOnTape, cX10_endOnTape, 6, (some .int), 10, [], false)
def mX10_equationsOnTape : ae_M := (yX10_equationsOnTape, cX10_equationsOnTape, 3, (some .int), 10, [], false)
def mX10_faultOfRule : ae_M := (yX10_faultOfRule, cX10_faultOfRule, 4, (some .int), 10, [], false)
def mX10_faultOfVariables : ae_M := (yX10_faultOfVariables, cX10_faultOfVariables, 5, (some .int), 10, [], false)
def mX10_variableBit : ae_M := (yX10_variableBit, cX10_variableBit, 1, (some .int), 10, [], true)
def mX10_isVariable : ae_M := (yX10_isVariable, cX10_isVariable, 1, (some .boolean), 10, [], true)
def mX11_init : ae_M := (yX11_init, cX11_init, 1, none, 11, [], false)
def mX11_in : ae_M := (yX11_in, cX11_in, 3, (some .boolean), 11, [], true)
def mX11_clear : ae_M := (yX11_clear, cX11_clear, 2, (some .int), 11, [], false)
def mX11_forget : ae_M := (yX11_forget, cX11_forget, 1, none, 11, [], false)
def mX11_symbol : ae_M := (yX11_symbol, cX11_symbol, 3, (some .int), 11, [], false)
def mX11_feed : ae_M := (yX11_feed, cX11_feed, 5, (some .int), 11, [1], false)
def mX11_argumentsOf : ae_M := (yX11_argumentsOf, cX11_argumentsOf, 2, (some .int), 11, [], false)
def mX11_endOf : ae_M := (yX11_endOf, cX11_endOf, 5, (some .int), 11, [], false)
def mX11_isKnown : ae_M := (yX11_isKnown, cX11_isKnown, 2, (some .boolean), 11, [], false)
def mX11_readTerm : ae_M := (yX11_readTerm, cX11_readTerm, 4, (some .int), 11, [], false)
def mX11_faultOfTerms : ae_M := (yX11_faultOfTerms, cX11_faultOfTerms, 5, (some .int), 11, [], false)
def mX11_rule : ae_M := (yX11_rule, cX11_rule, 5, (some .int), 11, [], false)
def mX11_rulesOf : ae_M := (yX11_rulesOf, cX11_rulesOf, 5, (some .long), 11, [2], false)
def mX11_locate : ae_M := (yX11_locate, cX11_locate, 9, (some .int), 11, [], false)
def mX11_firstOf : ae_M := (yX11_firstOf, cX11_firstOf, 4, (some .int), 11, [1], false)
def mX11_isLeaf : ae_M := (yX11_isLeaf, cX11_isLeaf, 4, (some .boolean), 11, [2], false)
def mX11_branchOf : ae_M := (yX11_branchOf, cX11_branchOf, 8, (some .int), 11, [3], false)
def mX11_withAt : ae_M := (yX11_withAt, cX11_withAt, 10, (some .long), 11, [4, 7], false)
def mX11_refine : ae_M := (yX11_refine, cX11_refine, 10, (some .int), 11, [], false)
def mX11_begin : ae_M := (yX11_begin, cX11_begin, 4, (some .int), 11, [], false)
def mX11_placeOf : ae_M := (yX11_placeOf, cX11_placeOf, 8, (some .int), 11, [], false)
def mX11_later : ae_M := (yX11_later, cX11_later, 6, none, 11, [4], false)
def mX11_layTree : ae_M := (yX11_layTree, cX11_layTree, 10, (some .boolean), 11, [2, 5], false)
def mX11_layBranch : ae_M := (yX11_layBranch, cX11_layBranch, 11, none, 11, [4, 9], false)
def mX11_node : ae_M := (yX11_node, cX11_node, 6, (some .int), 11, [], false)
def mX11_problem : ae_M := (yX11_problem, cX11_problem, 6, (some .int), 11, [], false)
def mX11_beginNew : ae_M := (yX11_beginNew, cX11_beginNew, 1, none, 11, [], false)
def mX11_give : ae_M := (yX11_give, cX11_give, 2, none, 11, [], false)
def mX11_giveAnswer : ae_M := (yX11_giveAnswer, cX11_giveAnswer, 2, none, 11, [], false)
def mX11_keep : ae_M := (yX11_keep, cX11_keep, 5, none, 11, [], false)
def mX11_take : ae_M := (yX11_take, cX11_take, 3, none, 11, [], false)
def mX11_isFunctionAt : ae_M := (yX11_isFunctionAt, cX11_isFunctionAt, 2, (some .boolean), 11, [], false)
def mX11_stands : ae_M := (yX11_stands, cX11_stands, 5, (some .boolean), 11, [], false)
def mX11_bindTo : ae_M := (yX11_bindTo, cX11_bindTo, 3, none, 11, [], false)
def mX11_giveAll : ae_M := (yX11_giveAll, cX11_giveAll, 6, none, 11, [], false)
def mX11_giveAnswers : ae_M := (yX11_giveAnswers, cX11_giveAnswers, 4, none, 11, [], false)
def mX11_step : ae_M := (yX11_step, cX11_step, 4, none, 11, [], false)
def mX11_giveArguments : ae_M := (yX11_giveArguments, cX11_giveArguments, 10, none, 11, [], false)
def mX11_bindSide : ae_M := (yX11_bindSide, cX11_bindSide, 11, none, 11, [], false)
def mX11_workOn : ae_M := (yX11_workOn, cX11_workOn, 10, none, 11, [4], false)
def mX11_part : ae_M := (yX11_part, cX11_part, 7, none, 11, [3], false)
def mX11_use : ae_M := (yX11_use, cX11_use, 7, none, 11, [], false)
def mX11_solve : ae_M := (yX11_solve, cX11_solve, 3, (some .int), 11, [], false)
def mX11_solutions : ae_M := (yX11_solutions, cX11_solutions, 1, (some .int), 11, [], false)
def mX11_answer : ae_M := (yX11_answer, cX11_answer, 6, (some .int), 11, [], false)
def mX11_waiting : ae_M := (yX11_waiting, cX11_waiting, 3, (some .int), 11, [], false)
def mX11_count : ae_M := (yX11_count, cX11_count, 2, (some .int), 11, [], false)
def mJ6_numberOfTrailingZeros_0f7a4 : ae_M := (yJ6_numberOfTrailingZeros_0f7a4, cJ6_numberOfTrailingZeros_0f7a4, 2, (some .int), 14, [], true)
def mJ13_numberOfTrailingZeros_95d88 : ae_M := (yJ13_numberOfTrailingZeros_95d88, cJ13_numberOfTrailingZeros_95d88, 3, (some .int), 15, [0], true)
def mJ13_bitCount_95d88 : ae_M := (yJ13_bitCount_95d88, cJ13_bitCount_95d88, 2, (some .int), 15, [0], true)
def mJ9_max_7cf53 : ae_M := (yJ9_max_7cf53, cJ9_max_7cf53, 2, (some .int), 16, [], true)
def mJ9_min_7cf53 : ae_M := (yJ9_min_7cf53, cJ9_min_7cf53, 2, (some .int), 16, [], true)
def mJxa1e45_init_da8c8 : ae_M := (yJxa1e45_init_da8c8, cJxa1e45_init_da8c8, 1, none, 21, [], false)
def mJxc12de_init_da8c8 : ae_M := (yJxc12de_init_da8c8, cJxc12de_init_da8c8, 1, none, 22, [], false)
def mJx4a65c_init_da8c8 : ae_M := (yJx4a65c_init_da8c8, cJx4a65c_init_da8c8, 1, none, 12, [], false)
def mJx4a65c_grow_92f84 : ae_M := (yJx4a65c_grow_92f84, cJx4a65c_grow_92f84, 4, (some (.array (.object "java/lang/Object"))), 12, [], false)
def mJx4a65c_grow_d5877 : ae_M := (yJx4a65c_grow_d5877, cJx4a65c_grow_d5877, 1, (some (.array (.object "java/lang/Object"))), 12, [], false)
def mJx4a65c_size_8abf5 : ae_M := (yJx4a65c_size_8abf5, cJx4a65c_size_8abf5, 1, (some .int), 12, [], false)
def mJx4a65c_elementData_915e3 : ae_M := (yJx4a65c_elementData_915e3, cJx4a65c_elementData_915e3, 2, (some (.object "java/lang/Object")), 12, [], false)
def mJx4a65c_get_915e3 : ae_M := (yJx4a65c_get_915e3, cJx4a65c_get_915e3, 2, (some (.object "java/lang/Object")), 12, [], false)
def mJx4a65c_add_72be8 : ae_M := (yJx4a65c_add_72be8, cJx4a65c_add_72be8, 4, none, 12, [], false)
def mJx4a65c_add_9ea2d : ae_M := (yJx4a65c_add_9ea2d, cJx4a65c_add_9ea2d, 2, (some .boolean), 12, [], false)
def mJ7_copyOf_1904c : ae_M := (yJ7_copyOf_1904c, cJ7_copyOf_1904c, 2, (some (.array (.object "java/lang/Object"))), 17, [], true)
def mJ7_copyOf_6403c : ae_M := (yJ7_copyOf_6403c, cJ7_copyOf_6403c, 4, (some (.array (.object "java/lang/Object"))), 17, [], true)
def mJ15_checkIndex_7cf53 : ae_M := (yJ15_checkIndex_7cf53, cJ15_checkIndex_7cf53, 2, (some .int), 18, [], true)
def mJ8_newLength_cabcc : ae_M := (yJ8_newLength_cabcc, cJ8_newLength_cabcc, 4, (some .int), 19, [], true)
def mJ8_hugeLength_7cf53 : ae_M := (yJ8_hugeLength_7cf53, cJ8_hugeLength_7cf53, 3, (some .int), 19, [], true)
def mJ3_checkIndex_8e157 : ae_M := (yJ3_checkIndex_8e157, cJ3_checkIndex_8e157, 3, (some .int), 20, [], true)
def mL_law : ae_M := (yL_law, cL_law, 4, (some .boolean), 13, [], true)
/-- fields: place in the pool, class, field, the nest's host or nothing -/
def ae_fl (o : Nat) : List (Nat × Nat × Nat × String) := match o with
  | 0 => [(28, 0, 0, ""), (19, 0, 1, ""), (9, 0, 2, ""), (25, 0, 4, ""), (15, 0, 5, ""), (22, 0, 6, ""), (31, 0, 10, "")]
  | 1 => [(9, 1, 0, ""), (15, 1, 1, "")]
  | 2 => [(14, 2, 0, ""), (24, 2, 3, "")]
  | 3 => [(9, 3, 0, ""), (15, 3, 1, ""), (19, 3, 2, "")]
  | 4 => [(18, 1, 1, "NarrowSolver"), (12, 4, 0, ""), (22, 4, 1, "")]
  | 5 => [(41, 8, 1, "NarrowSolver"), (11, 5, 0, ""), (19, 5, 1, ""), (33, 5, 2, ""), (24, 5, 3, ""), (37, 5, 4, ""), (59, 4, 0, "NarrowSolver")]
  | 6 => [(76, 1, 1, "NarrowSolver"), (72, 2, 0, "NarrowSolver"), (83, 2, 1, "NarrowSolver"), (86, 2, 2, "NarrowSolver"), (89, 2, 3, "NarrowSolver"), (48, 6, 0, ""), (52, 6, 1, ""), (14, 6, 2, ""), (20, 6, 3, ""), (26, 6, 4, ""), (30, 6, 5, ""), (37, 6, 6, ""), (41, 6, 7, ""), (44, 6, 8, ""), (59, 6, 9, ""), (62, 6, 10, ""), (65, 6, 11, ""), (68, 6, 12, ""), (207, 4, 0, "NarrowSolver"), (216, 4, 1, "NarrowSolver"), (201, 0, 1, "NarrowSolver"), (175, 0, 2, "NarrowSolver"), (163, 0, 3, "NarrowSolver"), (197, 0, 5, "NarrowSolver"), (204, 0, 6, "NarrowSolver")]
  | 7 => [(9, 7, 0, ""), (15, 7, 1, ""), (19, 7, 2, ""), (23, 1, 1, "NarrowSolver")]
  | 8 => [(12, 8, 0, ""), (18, 8, 1, ""), (36, 0, 0, "NarrowSolver"), (39, 0, 1, "NarrowSolver"), (42, 0, 2, "NarrowSolver"), (45, 0, 3, "NarrowSolver"), (48, 0, 4, "NarrowSolver"), (51, 0, 5, "NarrowSolver"), (55, 0, 6, "NarrowSolver"), (58, 0, 7, "NarrowSolver"), (62, 0, 8, "NarrowSolver"), (65, 0, 9, "NarrowSolver"), (68, 0, 10, "NarrowSolver")]
  | 9 => [(150, 1, 1, "NarrowSolver"), (32, 8, 1, "NarrowSolver"), (24, 9, 0, ""), (28, 9, 1, ""), (14, 9, 2, ""), (20, 9, 3, ""), (141, 4, 0, "NarrowSolver"), (102, 0, 1, "NarrowSolver"), (96, 0, 2, "NarrowSolver"), (83, 0, 3, "NarrowSolver"), (70, 0, 7, "NarrowSolver"), (89, 0, 8, "NarrowSolver"), (66, 0, 9, "NarrowSolver"), (99, 0, 10, "NarrowSolver")]
  | 10 => [(43, 7, 2, "NarrowSolver"), (56, 1, 1, "NarrowSolver"), (145, 5, 4, "NarrowSolver"), (82, 3, 2, "NarrowSolver"), (100, 2, 0, "NarrowSolver"), (139, 2, 1, "NarrowSolver"), (95, 2, 2, "NarrowSolver"), (142, 2, 3, "NarrowSolver"), (78, 6, 2, "NarrowSolver"), (88, 6, 3, "NarrowSolver"), (146, 6, 9, "NarrowSolver"), (149, 6, 10, "NarrowSolver"), (152, 6, 11, "NarrowSolver"), (155, 6, 12, "NarrowSolver"), (10, 10, 0, ""), (21, 10, 1, ""), (30, 10, 2, ""), (39, 10, 3, ""), (130, 0, 2, "NarrowSolver"), (127, 0, 3, "NarrowSolver"), (133, 0, 4, "NarrowSolver")]
  | 11 => [(110, 11, 0, ""), (7, 11, 1, ""), (13, 11, 2, ""), (17, 11, 3, ""), (114, 11, 4, ""), (117, 11, 5, ""), (22, 11, 6, ""), (25, 11, 7, ""), (28, 11, 8, ""), (31, 11, 9, ""), (34, 11, 10, ""), (37, 11, 11, ""), (41, 11, 12, ""), (44, 11, 13, ""), (183, 11, 14, ""), (186, 11, 15, ""), (47, 11, 16, ""), (50, 11, 17, ""), (53, 11, 18, ""), (56, 11, 19, ""), (59, 11, 20, ""), (62, 11, 21, ""), (65, 11, 22, ""), (68, 11, 23, ""), (71, 11, 24, ""), (74, 11, 25, ""), (123, 11, 26, ""), (77, 11, 27, ""), (80, 11, 28, ""), (126, 11, 29, ""), (129, 11, 30, ""), (132, 11, 31, ""), (135, 11, 32, ""), (138, 11, 33, ""), (83, 11, 34, ""), (242, 11, 35, ""), (245, 11, 36, ""), (86, 11, 37, ""), (248, 11, 38, ""), (251, 11, 39, ""), (89, 11, 40, ""), (235, 11, 41, ""), (226, 11, 42, ""), (92, 11, 43, ""), (229, 11, 44, ""), (238, 11, 45, ""), (95, 11, 46, ""), (257, 11, 47, ""), (98, 11, 48, ""), (101, 11, 49, ""), (104, 11, 50, ""), (180, 11, 51, ""), (107, 11, 52, "")]
  | _ => []
def ae_fok (o : Nat) (x : Nat × Nat × Nat × String) : Prop := ∀ r : vw_C, ae_cl[x.2.1]? = some r → x.2.2.1 < r.2.2 ∧ if x.2.2.2 = "" then Cond.fieldLink (ae_on o) x.1 (r.2.1 x.2.2.1).1 (r.2.1 x.2.2.1).2.1 (r.2.1 x.2.2.1).2.2.1 ∈ ae_big else Cond.fieldLinkNest (ae_on o) x.1 (r.2.1 x.2.2.1).1 (r.2.1 x.2.2.1).2.1 (r.2.1 x.2.2.1).2.2.1 x.2.2.2 ∈ lw_tbl
theorem ae_fok_p {o i c k : Nat} {r : vw_C} (hr : ae_cl[c]? = some r) (hk : k < r.2.2) (n : Nat) (h : lw_tbl[n]? = some (Cond.fieldLink (ae_on o) i (r.2.1 k).1 (r.2.1 k).2.1 (r.2.1 k).2.2.1)) : ae_fok o (i, c, k, "") := fun q hq => by
  cases hr.symm.trans hq
  exact ⟨hk, by rw [if_pos rfl]; exact ae_inb n h rfl⟩
theorem ae_fok_n {o i c k : Nat} {w : String} {r : vw_C} (hr : ae_cl[c]? = some r) (hk : k < r.2.2) (hw : w ≠ "") (n : Nat) (h : lw_tbl[n]? = some (Cond.fieldLinkNest (ae_on o) i (r.2.1 k).1 (r.2.1 k).2.1 (r.2.1 k).2.2.1 w)) : ae_fok o (i, c, k, w) := fun q hq => by
  cases hr.symm.trans hq
  exact ⟨hk, by rw [if_neg hw]; exact ae_int n h⟩
theorem fk_0_0 : ae_fok 0 (28, 0, 0, "") := ae_fok_p rfl (by decide) 484 (by decide +kernel)
theorem fk_0_1 : ae_fok 0 (19, 0, 1, "") := ae_fok_p rfl (by decide) 485 (by decide +kernel)
theorem fk_0_2 : ae_fok 0 (9, 0, 2, "") := ae_fok_p rfl (by decide) 489 (by decide +kernel)
theorem fk_0_3 : ae_fok 0 (25, 0, 4, "") := ae_fok_p rfl (by decide) 499 (by decide +kernel)
theorem fk_0_4 : ae_fok 0 (15, 0, 5, "") := ae_fok_p rfl (by decide) 501 (by decide +kernel)
theorem fk_0_5 : ae_fok 0 (22, 0, 6, "") := ae_fok_p rfl (by decide) 504 (by decide +kernel)
theorem fk_0_6 : ae_fok 0 (31, 0, 10, "") := ae_fok_p rfl (by decide) 515 (by decide +kernel)
theorem fk_0 : ∀ x ∈ ae_fl 0, ae_fok 0 x := List.forall_mem_cons.mpr ⟨fk_0_0, List.forall_mem_cons.mpr ⟨fk_0_1, List.forall_mem_cons.mpr ⟨fk_0_2, List.forall_mem_cons.mpr ⟨fk_0_3, List.forall_mem_cons.mpr ⟨fk_0_4, List.forall_mem_cons.mpr ⟨fk_0_5, List.forall_mem_cons.mpr ⟨fk_0_6, fun _ h => absurd h List.not_mem_nil⟩⟩⟩⟩⟩⟩⟩
theorem fk_1_0 : ae_fok 1 (9, 1, 0, "") := ae_fok_p rfl (by decide) 123 (by decide +kernel)
theorem fk_1_1 : ae_fok 1 (15, 1, 1, "") := ae_fok_p rfl (by decide) 125 (by decide +kernel)
theorem fk_1 : ∀ x ∈ ae_fl 1, ae_fok 1 x := List.forall_mem_cons.mpr ⟨fk_1_0, List.forall_mem_cons.mpr ⟨fk_1_1, fun _ h => absurd h List.not_mem_nil⟩⟩
theorem fk_2_0 : ae_fok 2 (14, 2, 0, "") := ae_fok_p rfl (by decide) 258 (by decide +kernel)
theorem fk_2_1 : ae_fok 2 (24, 2, 3, "") := ae_fok_p rfl (by decide) 265 (by decide +kernel)
theorem fk_2 : ∀ x ∈ ae_fl 2, ae_fok 2 x := List.forall_mem_cons.mpr ⟨fk_2_0, List.forall_mem_cons.mpr ⟨fk_2_1, fun _ h => absurd h List.not_mem_nil⟩⟩
theorem fk_3_0 : ae_fok 3 (9, 3, 0, "") := ae_fok_p rfl (by decide) 237 (by decide +kernel)
theorem fk_3_1 : ae_fok 3 (15, 3, 1, "") := ae_fok_p rfl (by decide) 238 (by decide +kernel)
theorem fk_3_2 : ae_fok 3 (19, 3, 2, "") := ae_fok_p rfl (by decide) 239 (by decide +kernel)
theorem fk_3 : ∀ x ∈ ae_fl 3, ae_fok 3 x := List.forall_mem_cons.mpr ⟨fk_3_0, List.forall_mem_cons.mpr ⟨fk_3_1, List.forall_mem_cons.mpr ⟨fk_3_2, fun _ h => absurd h List.not_mem_nil⟩⟩⟩
theorem fk_4_0 : ae_fok 4 (18, 1, 1, "NarrowSolver") := ae_fok_n rfl (by decide) (by decide) 124 (by decide +kernel)
theorem fk_4_1 : ae_fok 4 (12, 4, 0, "") := ae_fok_p rfl (by decide) 432 (by decide +kernel)
theorem fk_4_2 : ae_fok 4 (22, 4, 1, "") := ae_fok_p rfl (by decide) 436 (by decide +kernel)
theorem fk_4 : ∀ x ∈ ae_fl 4, ae_fok 4 x := List.forall_mem_cons.mpr ⟨fk_4_0, List.forall_mem_cons.mpr ⟨fk_4_1, List.forall_mem_cons.mpr ⟨fk_4_2, fun _ h => absurd h List.not_mem_nil⟩⟩⟩
theorem fk_5_0 : ae_fok 5 (41, 8, 1, "NarrowSolver") := ae_fok_n rfl (by decide) (by decide) 179 (by decide +kernel)
theorem fk_5_1 : ae_fok 5 (11, 5, 0, "") := ae_fok_p rfl (by decide) 206 (by decide +kernel)
theorem fk_5_2 : ae_fok 5 (19, 5, 1, "") := ae_fok_p rfl (by decide) 207 (by decide +kernel)
theorem fk_5_3 : ae_fok 5 (33, 5, 2, "") := ae_fok_p rfl (by decide) 208 (by decide +kernel)
theorem fk_5_4 : ae_fok 5 (24, 5, 3, "") := ae_fok_p rfl (by decide) 209 (by decide +kernel)
theorem fk_5_5 : ae_fok 5 (37, 5, 4, "") := ae_fok_p rfl (by decide) 210 (by decide +kernel)
theorem fk_5_6 : ae_fok 5 (59, 4, 0, "NarrowSolver") := ae_fok_n rfl (by decide) (by decide) 433 (by decide +kernel)
theorem fk_5 : ∀ x ∈ ae_fl 5, ae_fok 5 x := List.forall_mem_cons.mpr ⟨fk_5_0, List.forall_mem_cons.mpr ⟨fk_5_1, List.forall_mem_cons.mpr ⟨fk_5_2, List.forall_mem_cons.mpr ⟨fk_5_3, List.forall_mem_cons.mpr ⟨fk_5_4, List.forall_mem_cons.mpr ⟨fk_5_5, List.forall_mem_cons.mpr ⟨fk_5_6, fun _ h => absurd h List.not_mem_nil⟩⟩⟩⟩⟩⟩⟩
theorem fk_6_0 : ae_fok 6 (76, 1, 1, "NarrowSolver") := ae_fok_n rfl (by decide) (by decide) 126 (by decide +kernel)
theorem fk_6_1 : ae_fok 6 (72, 2, 0, "NarrowSolver") := ae_fok_n rfl (by decide) (by decide) 259 (by decide +kernel)
theorem fk_6_2 : ae_fok 6 (83, 2, 1, "NarrowSolver") := ae_fok_n rfl (by decide) (by decide) 261 (by decide +kernel)
theorem fk_6_3 : ae_fok 6 (86, 2, 2, "NarrowSolver") := ae_fok_n rfl (by decide) (by decide) 263 (by decide +kernel)
theorem fk_6_4 : ae_fok 6 (89, 2, 3, "NarrowSolver") := ae_fok_n rfl (by decide) (by decide) 266 (by decide +kernel)
theorem fk_6_5 : ae_fok 6 (48, 6, 0, "") := ae_fok_p rfl (by decide) 277 (by decide +kernel)
theorem fk_6_6 : ae_fok 6 (52, 6, 1, "") := ae_fok_p rfl (by decide) 278 (by decide +kernel)
theorem fk_6_7 : ae_fok 6 (14, 6, 2, "") := ae_fok_p rfl (by decide) 279 (by decide +kernel)
theorem fk_6_8 : ae_fok 6 (20, 6, 3, "") := ae_fok_p rfl (by decide) 281 (by decide +kernel)
theorem fk_6_9 : ae_fok 6 (26, 6, 4, "") := ae_fok_p rfl (by decide) 283 (by decide +kernel)
theorem fk_6_10 : ae_fok 6 (30, 6, 5, "") := ae_fok_p rfl (by decide) 284 (by decide +kernel)
theorem fk_6_11 : ae_fok 6 (37, 6, 6, "") := ae_fok_p rfl (by decide) 285 (by decide +kernel)
theorem fk_6_12 : ae_fok 6 (41, 6, 7, "") := ae_fok_p rfl (by decide) 286 (by decide +kernel)
theorem fk_6_13 : ae_fok 6 (44, 6, 8, "") := ae_fok_p rfl (by decide) 287 (by decide +kernel)
theorem fk_6_14 : ae_fok 6 (59, 6, 9, "") := ae_fok_p rfl (by decide) 288 (by decide +kernel)
theorem fk_6_15 : ae_fok 6 (62, 6, 10, "") := ae_fok_p rfl (by decide) 290 (by decide +kernel)
theorem fk_6_16 : ae_fok 6 (65, 6, 11, "") := ae_fok_p rfl (by decide) 292 (by decide +kernel)
theorem fk_6_17 : ae_fok 6 (68, 6, 12, "") := ae_fok_p rfl (by decide) 294 (by decide +kernel)
theorem fk_6_18 : ae_fok 6 (207, 4, 0, "NarrowSolver") := ae_fok_n rfl (by decide) (by decide) 435 (by decide +kernel)
theorem fk_6_19 : ae_fok 6 (216, 4, 1, "NarrowSolver") := ae_fok_n rfl (by decide) (by decide) 437 (by decide +kernel)
theorem fk_6_20 : ae_fok 6 (201, 0, 1, "NarrowSolver") := ae_fok_n rfl (by decide) (by decide) 488 (by decide +kernel)
theorem fk_6_21 : ae_fok 6 (175, 0, 2, "NarrowSolver") := ae_fok_n rfl (by decide) (by decide) 492 (by decide +kernel)
theorem fk_6_22 : ae_fok 6 (163, 0, 3, "NarrowSolver") := ae_fok_n rfl (by decide) (by decide) 496 (by decide +kernel)
theorem fk_6_23 : ae_fok 6 (197, 0, 5, "NarrowSolver") := ae_fok_n rfl (by decide) (by decide) 503 (by decide +kernel)
theorem fk_6_24 : ae_fok 6 (204, 0, 6, "NarrowSolver") := ae_fok_n rfl (by decide) (by decide) 506 (by decide +kernel)
theorem fk_6 : ∀ x ∈ ae_fl 6, ae_fok 6 x := List.forall_mem_cons.mpr ⟨fk_6_0, List.forall_mem_cons.mpr ⟨fk_6_1, List.forall_mem_cons.mpr ⟨fk_6_2, List.forall_mem_cons.mpr ⟨fk_6_3, List.forall_mem_cons.mpr ⟨fk_6_4, List.forall_mem_cons.mpr ⟨fk_6_5, List.forall_mem_cons.mpr ⟨fk_6_6, List.forall_mem_cons.mpr ⟨fk_6_7, List.forall_mem_cons.mpr ⟨fk_6_8, List.forall_mem_cons.mpr ⟨fk_6_9, List.forall_mem_cons.mpr ⟨fk_6_10, List.forall_mem_cons.mpr ⟨fk_6_11, List.forall_mem_cons.mpr ⟨fk_6_12, List.forall_mem_cons.mpr ⟨fk_6_13, List.forall_mem_cons.mpr ⟨fk_6_14, List.forall_mem_cons.mpr ⟨fk_6_15, List.forall_mem_cons.mpr ⟨fk_6_16, List.forall_mem_cons.mpr ⟨fk_6_17, List.forall_mem_cons.mpr ⟨fk_6_18, List.forall_mem_cons.mpr ⟨fk_6_19, List.forall_mem_cons.mpr ⟨fk_6_20, List.forall_mem_cons.mpr ⟨fk_6_21, List.forall_mem_cons.mpr ⟨fk_6_22, List.forall_mem_cons.mpr ⟨fk_6_23, List.forall_mem_cons.mpr ⟨fk_6_24, fun _ h => absurd h List.not_mem_nil⟩⟩⟩⟩⟩⟩⟩⟩⟩⟩⟩⟩⟩⟩⟩⟩⟩⟩⟩⟩⟩⟩⟩⟩⟩
theorem fk_7_0 : ae_fok 7 (9, 7, 0, "") := ae_fok_p rfl (by decide) 104 (by decide +kernel)
theorem fk_7_1 : ae_fok 7 (15, 7, 1, "") := ae_fok_p rfl (by decide) 105 (by decide +kernel)
theorem fk_7_2 : ae_fok 7 (19, 7, 2, "") := ae_fok_p rfl (by decide) 106 (by decide +kernel)
theorem fk_7_3 : ae_fok 7 (23, 1, 1, "NarrowSolver") := ae_fok_n rfl (by decide) (by decide) 128 (by decide +kernel)
theorem fk_7 : ∀ x ∈ ae_fl 7, ae_fok 7 x := List.forall_mem_cons.mpr ⟨fk_7_0, List.forall_mem_cons.mpr ⟨fk_7_1, List.forall_mem_cons.mpr ⟨fk_7_2, List.forall_mem_cons.mpr ⟨fk_7_3, fun _ h => absurd h List.not_mem_nil⟩⟩⟩⟩
theorem fk_8_0 : ae_fok 8 (12, 8, 0, "") := ae_fok_p rfl (by decide) 176 (by decide +kernel)
theorem fk_8_1 : ae_fok 8 (18, 8, 1, "") := ae_fok_p rfl (by decide) 178 (by decide +kernel)
theorem fk_8_2 : ae_fok 8 (36, 0, 0, "NarrowSolver") := ae_fok_n rfl (by decide) (by decide) 483 (by decide +kernel)
theorem fk_8_3 : ae_fok 8 (39, 0, 1, "NarrowSolver") := ae_fok_n rfl (by decide) (by decide) 486 (by decide +kernel)
theorem fk_8_4 : ae_fok 8 (42, 0, 2, "NarrowSolver") := ae_fok_n rfl (by decide) (by decide) 491 (by decide +kernel)
theorem fk_8_5 : ae_fok 8 (45, 0, 3, "NarrowSolver") := ae_fok_n rfl (by decide) (by decide) 495 (by decide +kernel)
theorem fk_8_6 : ae_fok 8 (48, 0, 4, "NarrowSolver") := ae_fok_n rfl (by decide) (by decide) 498 (by decide +kernel)
theorem fk_8_7 : ae_fok 8 (51, 0, 5, "NarrowSolver") := ae_fok_n rfl (by decide) (by decide) 502 (by decide +kernel)
theorem fk_8_8 : ae_fok 8 (55, 0, 6, "NarrowSolver") := ae_fok_n rfl (by decide) (by decide) 505 (by decide +kernel)
theorem fk_8_9 : ae_fok 8 (58, 0, 7, "NarrowSolver") := ae_fok_n rfl (by decide) (by decide) 508 (by decide +kernel)
theorem fk_8_10 : ae_fok 8 (62, 0, 8, "NarrowSolver") := ae_fok_n rfl (by decide) (by decide) 510 (by decide +kernel)
theorem fk_8_11 : ae_fok 8 (65, 0, 9, "NarrowSolver") := ae_fok_n rfl (by decide) (by decide) 512 (by decide +kernel)
theorem fk_8_12 : ae_fok 8 (68, 0, 10, "NarrowSolver") := ae_fok_n rfl (by decide) (by decide) 513 (by decide +kernel)
theorem fk_8 : ∀ x ∈ ae_fl 8, ae_fok 8 x := List.forall_mem_cons.mpr ⟨fk_8_0, List.forall_mem_cons.mpr ⟨fk_8_1, List.forall_mem_cons.mpr ⟨fk_8_2, List.forall_mem_cons.mpr ⟨fk_8_3, List.forall_mem_cons.mpr ⟨fk_8_4, List.forall_mem_cons.mpr ⟨fk_8_5, List.forall_mem_cons.mpr ⟨fk_8_6, List.forall_mem_cons.mpr ⟨fk_8_7, List.forall_mem_cons.mpr ⟨fk_8_8, List.forall_mem_cons.mpr ⟨fk_8_9, List.forall_mem_cons.mpr ⟨fk_8_10, List.forall_mem_cons.mpr ⟨fk_8_11, List.forall_mem_cons.mpr ⟨fk_8_12, fun _ h => absurd h List.not_mem_nil⟩⟩⟩⟩⟩⟩⟩⟩⟩⟩⟩⟩⟩
theorem fk_9_0 : ae_fok 9 (150, 1, 1, "NarrowSolver") := ae_fok_n rfl (by decide) (by decide) 129 (by decide +kernel)
theorem fk_9_1 : ae_fok 9 (32, 8, 1, "NarrowSolver") := ae_fok_n rfl (by decide) (by decide) 177 (by decide +kernel)
theorem fk_9_2 : ae_fok 9 (24, 9, 0, "") := ae_fok_p rfl (by decide) 193 (by decide +kernel)
theorem fk_9_3 : ae_fok 9 (28, 9, 1, "") := ae_fok_p rfl (by decide) 194 (by decide +kernel)
theorem fk_9_4 : ae_fok 9 (14, 9, 2, "") := ae_fok_p rfl (by decide) 195 (by decide +kernel)
theorem fk_9_5 : ae_fok 9 (20, 9, 3, "") := ae_fok_p rfl (by decide) 196 (by decide +kernel)
theorem fk_9_6 : ae_fok 9 (141, 4, 0, "NarrowSolver") := ae_fok_n rfl (by decide) (by decide) 434 (by decide +kernel)
theorem fk_9_7 : ae_fok 9 (102, 0, 1, "NarrowSolver") := ae_fok_n rfl (by decide) (by decide) 487 (by decide +kernel)
theorem fk_9_8 : ae_fok 9 (96, 0, 2, "NarrowSolver") := ae_fok_n rfl (by decide) (by decide) 490 (by decide +kernel)
theorem fk_9_9 : ae_fok 9 (83, 0, 3, "NarrowSolver") := ae_fok_n rfl (by decide) (by decide) 494 (by decide +kernel)
theorem fk_9_10 : ae_fok 9 (70, 0, 7, "NarrowSolver") := ae_fok_n rfl (by decide) (by decide) 507 (by decide +kernel)
theorem fk_9_11 : ae_fok 9 (89, 0, 8, "NarrowSolver") := ae_fok_n rfl (by decide) (by decide) 509 (by decide +kernel)
theorem fk_9_12 : ae_fok 9 (66, 0, 9, "NarrowSolver") := ae_fok_n rfl (by decide) (by decide) 511 (by decide +kernel)
theorem fk_9_13 : ae_fok 9 (99, 0, 10, "NarrowSolver") := ae_fok_n rfl (by decide) (by decide) 514 (by decide +kernel)
theorem fk_9 : ∀ x ∈ ae_fl 9, ae_fok 9 x := List.forall_mem_cons.mpr ⟨fk_9_0, List.forall_mem_cons.mpr ⟨fk_9_1, List.forall_mem_cons.mpr ⟨fk_9_2, List.forall_mem_cons.mpr ⟨fk_9_3, List.forall_mem_cons.mpr ⟨fk_9_4, List.forall_mem_cons.mpr ⟨fk_9_5, List.forall_mem_cons.mpr ⟨fk_9_6, List.forall_mem_cons.mpr ⟨fk_9_7, List.forall_mem_cons.mpr ⟨fk_9_8, List.forall_mem_cons.mpr ⟨fk_9_9, List.forall_mem_cons.mpr ⟨fk_9_10, List.forall_mem_cons.mpr ⟨fk_9_11, List.forall_mem_cons.mpr ⟨fk_9_12, List.forall_mem_cons.mpr ⟨fk_9_13, fun _ h => absurd h List.not_mem_nil⟩⟩⟩⟩⟩⟩⟩⟩⟩⟩⟩⟩⟩⟩
theorem fk_10_0 : ae_fok 10 (43, 7, 2, "NarrowSolver") := ae_fok_n rfl (by decide) (by decide) 107 (by decide +kernel)
theorem fk_10_1 : ae_fok 10 (56, 1, 1, "NarrowSolver") := ae_fok_n rfl (by decide) (by decide) 127 (by decide +kernel)
theorem fk_10_2 : ae_fok 10 (145, 5, 4, "NarrowSolver") := ae_fok_n rfl (by decide) (by decide) 211 (by decide +kernel)
theorem fk_10_3 : ae_fok 10 (82, 3, 2, "NarrowSolver") := ae_fok_n rfl (by decide) (by decide) 240 (by decide +kernel)
theorem fk_10_4 : ae_fok 10 (100, 2, 0, "NarrowSolver") := ae_fok_n rfl (by decide) (by decide) 260 (by decide +kernel)
theorem fk_10_5 : ae_fok 10 (139, 2, 1, "NarrowSolver") := ae_fok_n rfl (by decide) (by decide) 262 (by decide +kernel)
theorem fk_10_6 : ae_fok 10 (95, 2, 2, "NarrowSolver") := ae_fok_n rfl (by decide) (by decide) 264 (by decide +kernel)
theorem fk_10_7 : ae_fok 10 (142, 2, 3, "NarrowSolver") := ae_fok_n rfl (by decide) (by decide) 267 (by decide +kernel)
theorem fk_10_8 : ae_fok 10 (78, 6, 2, "NarrowSolver") := ae_fok_n rfl (by decide) (by decide) 280 (by decide +kernel)
theorem fk_10_9 : ae_fok 10 (88, 6, 3, "NarrowSolver") := ae_fok_n rfl (by decide) (by decide) 282 (by decide +kernel)
theorem fk_10_10 : ae_fok 10 (146, 6, 9, "NarrowSolver") := ae_fok_n rfl (by decide) (by decide) 289 (by decide +kernel)
theorem fk_10_11 : ae_fok 10 (149, 6, 10, "NarrowSolver") := ae_fok_n rfl (by decide) (by decide) 291 (by decide +kernel)
theorem fk_10_12 : ae_fok 10 (152, 6, 11, "NarrowSolver") := ae_fok_n rfl (by decide) (by decide) 293 (by decide +kernel)
theorem fk_10_13 : ae_fok 10 (155, 6, 12, "NarrowSolver") := ae_fok_n rfl (by decide) (by decide) 295 (by decide +kernel)
theorem fk_10_14 : ae_fok 10 (10, 10, 0, "") := ae_fok_p rfl (by decide) 323 (by decide +kernel)
theorem fk_10_15 : ae_fok 10 (21, 10, 1, "") := ae_fok_p rfl (by decide) 324 (by decide +kernel)
theorem fk_10_16 : ae_fok 10 (30, 10, 2, "") := ae_fok_p rfl (by decide) 325 (by decide +kernel)
theorem fk_10_17 : ae_fok 10 (39, 10, 3, "") := ae_fok_p rfl (by decide) 326 (by decide +kernel)
theorem fk_10_18 : ae_fok 10 (130, 0, 2, "NarrowSolver") := ae_fok_n rfl (by decide) (by decide) 493 (by decide +kernel)
theorem fk_10_19 : ae_fok 10 (127, 0, 3, "NarrowSolver") := ae_fok_n rfl (by decide) (by decide) 497 (by decide +kernel)
theorem fk_10_20 : ae_fok 10 (133, 0, 4, "NarrowSolver") := ae_fok_n rfl (by decide) (by decide) 500 (by decide +kernel)
theorem fk_10 : ∀ x ∈ ae_fl 10, ae_fok 10 x := List.forall_mem_cons.mpr ⟨fk_10_0, List.forall_mem_cons.mpr ⟨fk_10_1, List.forall_mem_cons.mpr ⟨fk_10_2, List.forall_mem_cons.mpr ⟨fk_10_3, List.forall_mem_cons.mpr ⟨fk_10_4, List.forall_mem_cons.mpr ⟨fk_10_5, List.forall_mem_cons.mpr ⟨fk_10_6, List.forall_mem_cons.mpr ⟨fk_10_7, List.forall_mem_cons.mpr ⟨fk_10_8, List.forall_mem_cons.mpr ⟨fk_10_9, List.forall_mem_cons.mpr ⟨fk_10_10, List.forall_mem_cons.mpr ⟨fk_10_11, List.forall_mem_cons.mpr ⟨fk_10_12, List.forall_mem_cons.mpr ⟨fk_10_13, List.forall_mem_cons.mpr ⟨fk_10_14, List.forall_mem_cons.mpr ⟨fk_10_15, List.forall_mem_cons.mpr ⟨fk_10_16, List.forall_mem_cons.mpr ⟨fk_10_17, List.forall_mem_cons.mpr ⟨fk_10_18, List.forall_mem_cons.mpr ⟨fk_10_19, List.forall_mem_cons.mpr ⟨fk_10_20, fun _ h => absurd h List.not_mem_nil⟩⟩⟩⟩⟩⟩⟩⟩⟩⟩⟩⟩⟩⟩⟩⟩⟩⟩⟩⟩⟩
theorem fk_11_0 : ae_fok 11 (110, 11, 0, "") := ae_fok_p rfl (by decide) 847 (by decide +kernel)
theorem fk_11_1 : ae_fok 11 (7, 11, 1, "") := ae_fok_p rfl (by decide) 848 (by decide +kernel)
theorem fk_11_2 : ae_fok 11 (13, 11, 2, "") := ae_fok_p rfl (by decide) 849 (by decide +kernel)
theorem fk_11_3 : ae_fok 11 (17, 11, 3, "") := ae_fok_p rfl (by decide) 850 (by decide +kernel)
theorem fk_11_4 : ae_fok 11 (114, 11, 4, "") := ae_fok_p rfl (by decide) 851 (by decide +kernel)
theorem fk_11_5 : ae_fok 11 (117, 11, 5, "") := ae_fok_p rfl (by decide) 852 (by decide +kernel)
theorem fk_11_6 : ae_fok 11 (22, 11, 6, "") := ae_fok_p rfl (by decide) 853 (by decide +kernel)
theorem fk_11_7 : ae_fok 11 (25, 11, 7, "") := ae_fok_p rfl (by decide) 854 (by decide +kernel)
theorem fk_11_8 : ae_fok 11 (28, 11, 8, "") := ae_fok_p rfl (by decide) 855 (by decide +kernel)
theorem fk_11_9 : ae_fok 11 (31, 11, 9, "") := ae_fok_p rfl (by decide) 856 (by decide +kernel)
theorem fk_11_10 : ae_fok 11 (34, 11, 10, "") := ae_fok_p rfl (by decide) 857 (by decide +kernel)
theorem fk_11_11 : ae_fok 11 (37, 11, 11, "") := ae_fok_p rfl (by decide) 858 (by decide +kernel)
theorem fk_11_12 : ae_fok 11 (41, 11, 12, "") := ae_fok_p rfl (by decide) 859 (by decide +kernel)
theorem fk_11_13 : ae_fok 11 (44, 11, 13, "") := ae_fok_p rfl (by decide) 860 (by decide +kernel)
theorem fk_11_14 : ae_fok 11 (183, 11, 14, "") := ae_fok_p rfl (by decide) 861 (by decide +kernel)
theorem fk_11_15 : ae_fok 11 (186, 11, 15, "") := ae_fok_p rfl (by decide) 862 (by decide +kernel)
theorem fk_11_16 : ae_fok 11 (47, 11, 16, "") := ae_fok_p rfl (by decide) 863 (by decide +kernel)
theorem fk_11_17 : ae_fok 11 (50, 11, 17, "") := ae_fok_p rfl (by decide) 864 (by decide +kernel)
theorem fk_11_18 : ae_fok 11 (53, 11, 18, "") := ae_fok_p rfl (by decide) 865 (by decide +kernel)
theorem fk_11_19 : ae_fok 11 (56, 11, 19, "") := ae_fok_p rfl (by decide) 866 (by decide +kernel)
theorem fk_11_20 : ae_fok 11 (59, 11, 20, "") := ae_fok_p rfl (by decide) 867 (by decide +kernel)
theorem fk_11_21 : ae_fok 11 (62, 11, 21, "") := ae_fok_p rfl (by decide) 868 (by decide +kernel)
theorem fk_11_22 : ae_fok 11 (65, 11, 22, "") := ae_fok_p rfl (by decide) 869 (by decide +kernel)
theorem fk_11_23 : ae_fok 11 (68, 11, 23, "") := ae_fok_p rfl (by decide) 870 (by decide +kernel)
theorem fk_11_24 : ae_fok 11 (71, 11, 24, "") := ae_fok_p rfl (by decide) 871 (by decide +kernel)
theorem fk_11_25 : ae_fok 11 (74, 11, 25, "") := ae_fok_p rfl (by decide) 872 (by decide +kernel)
theorem fk_11_26 : ae_fok 11 (123, 11, 26, "") := ae_fok_p rfl (by decide) 873 (by decide +kernel)
theorem fk_11_27 : ae_fok 11 (77, 11, 27, "") := ae_fok_p rfl (by decide) 874 (by decide +kernel)
theorem fk_11_28 : ae_fok 11 (80, 11, 28, "") := ae_fok_p rfl (by decide) 875 (by decide +kernel)
theorem fk_11_29 : ae_fok 11 (126, 11, 29, "") := ae_fok_p rfl (by decide) 876 (by decide +kernel)
theorem fk_11_30 : ae_fok 11 (129, 11, 30, "") := ae_fok_p rfl (by decide) 877 (by decide +kernel)
theorem fk_11_31 : ae_fok 11 (132, 11, 31, "") := ae_fok_p rfl (by decide) 878 (by decide +kernel)
theorem fk_11_32 : ae_fok 11 (135, 11, 32, "") := ae_fok_p rfl (by decide) 879 (by decide +kernel)
theorem fk_11_33 : ae_fok 11 (138, 11, 33, "") := ae_fok_p rfl (by decide) 880 (by decide +kernel)
theorem fk_11_34 : ae_fok 11 (83, 11, 34, "") := ae_fok_p rfl (by decide) 881 (by decide +kernel)
theorem fk_11_35 : ae_fok 11 (242, 11, 35, "") := ae_fok_p rfl (by decide) 882 (by decide +kernel)
theorem fk_11_36 : ae_fok 11 (245, 11, 36, "") := ae_fok_p rfl (by decide) 883 (by decide +kernel)
theorem fk_11_37 : ae_fok 11 (86, 11, 37, "") := ae_fok_p rfl (by decide) 884 (by decide +kernel)
theorem fk_11_38 : ae_fok 11 (248, 11, 38, "") := ae_fok_p rfl (by decide) 885 (by decide +kernel)
theorem fk_11_39 : ae_fok 11 (251, 11, 39, "") := ae_fok_p rfl (by decide) 886 (by decide +kernel)
theorem fk_11_40 : ae_fok 11 (89, 11, 40, "") := ae_fok_p rfl (by decide) 887 (by decide +kernel)
theorem fk_11_41 : ae_fok 11 (235, 11, 41, "") := ae_fok_p rfl (by decide) 888 (by decide +kernel)
theorem fk_11_42 : ae_fok 11 (226, 11, 42, "") := ae_fok_p rfl (by decide) 889 (by decide +kernel)
theorem fk_11_43 : ae_fok 11 (92, 11, 43, "") := ae_fok_p rfl (by decide) 890 (by decide +kernel)
theorem fk_11_44 : ae_fok 11 (229, 11, 44, "") := ae_fok_p rfl (by decide) 891 (by decide +kernel)
theorem fk_11_45 : ae_fok 11 (238, 11, 45, "") := ae_fok_p rfl (by decide) 892 (by decide +kernel)
theorem fk_11_46 : ae_fok 11 (95, 11, 46, "") := ae_fok_p rfl (by decide) 893 (by decide +kernel)
theorem fk_11_47 : ae_fok 11 (257, 11, 47, "") := ae_fok_p rfl (by decide) 894 (by decide +kernel)
theorem fk_11_48 : ae_fok 11 (98, 11, 48, "") := ae_fok_p rfl (by decide) 895 (by decide +kernel)
theorem fk_11_49 : ae_fok 11 (101, 11, 49, "") := ae_fok_p rfl (by decide) 896 (by decide +kernel)
theorem fk_11_50 : ae_fok 11 (104, 11, 50, "") := ae_fok_p rfl (by decide) 897 (by decide +kernel)
theorem fk_11_51 : ae_fok 11 (180, 11, 51, "") := ae_fok_p rfl (by decide) 898 (by decide +kernel)
theorem fk_11_52 : ae_fok 11 (107, 11, 52, "") := ae_fok_p rfl (by decide) 899 (by decide +kernel)
theorem fk_11 : ∀ x ∈ ae_fl 11, ae_fok 11 x := List.forall_mem_cons.mpr ⟨fk_11_0, List.forall_mem_cons.mpr ⟨fk_11_1, List.forall_mem_cons.mpr ⟨fk_11_2, List.forall_mem_cons.mpr ⟨fk_11_3, List.forall_mem_cons.mpr ⟨fk_11_4, List.forall_mem_cons.mpr ⟨fk_11_5, List.forall_mem_cons.mpr ⟨fk_11_6, List.forall_mem_cons.mpr ⟨fk_11_7, List.forall_mem_cons.mpr ⟨fk_11_8, List.forall_mem_cons.mpr ⟨fk_11_9, List.forall_mem_cons.mpr ⟨fk_11_10, List.forall_mem_cons.mpr ⟨fk_11_11, List.forall_mem_cons.mpr ⟨fk_11_12, List.forall_mem_cons.mpr ⟨fk_11_13, List.forall_mem_cons.mpr ⟨fk_11_14, List.forall_mem_cons.mpr ⟨fk_11_15, List.forall_mem_cons.mpr ⟨fk_11_16, List.forall_mem_cons.mpr ⟨fk_11_17, List.forall_mem_cons.mpr ⟨fk_11_18, List.forall_mem_cons.mpr ⟨fk_11_19, List.forall_mem_cons.mpr ⟨fk_11_20, List.forall_mem_cons.mpr ⟨fk_11_21, List.forall_mem_cons.mpr ⟨fk_11_22, List.forall_mem_cons.mpr ⟨fk_11_23, List.forall_mem_cons.mpr ⟨fk_11_24, List.forall_mem_cons.mpr ⟨fk_11_25, List.forall_mem_cons.mpr ⟨fk_11_26, List.forall_mem_cons.mpr ⟨fk_11_27, List.forall_mem_cons.mpr ⟨fk_11_28, List.forall_mem_cons.mpr ⟨fk_11_29, List.forall_mem_cons.mpr ⟨fk_11_30, List.forall_mem_cons.mpr ⟨fk_11_31, List.forall_mem_cons.mpr ⟨fk_11_32, List.forall_mem_cons.mpr ⟨fk_11_33, List.forall_mem_cons.mpr ⟨fk_11_34, List.forall_mem_cons.mpr ⟨fk_11_35, List.forall_mem_cons.mpr ⟨fk_11_36, List.forall_mem_cons.mpr ⟨fk_11_37, List.forall_mem_cons.mpr ⟨fk_11_38, List.forall_mem_cons.mpr ⟨fk_11_39, List.forall_mem_cons.mpr ⟨fk_11_40, List.forall_mem_cons.mpr ⟨fk_11_41, List.forall_mem_cons.mpr ⟨fk_11_42, List.forall_mem_cons.mpr ⟨fk_11_43, List.forall_mem_cons.mpr ⟨fk_11_44, List.forall_mem_cons.mpr ⟨fk_11_45, List.forall_mem_cons.mpr ⟨fk_11_46, List.forall_mem_cons.mpr ⟨fk_11_47, List.forall_mem_cons.mpr ⟨fk_11_48, List.forall_mem_cons.mpr ⟨fk_11_49, List.forall_mem_cons.mpr ⟨fk_11_50, List.forall_mem_cons.mpr ⟨fk_11_51, List.forall_mem_cons.mpr ⟨fk_11_52, fun _ h => absurd h List.not_mem_nil⟩⟩⟩⟩⟩⟩⟩⟩⟩⟩⟩⟩⟩⟩⟩⟩⟩⟩⟩⟩⟩⟩⟩⟩⟩⟩⟩⟩⟩⟩⟩⟩⟩⟩⟩⟩⟩⟩⟩⟩⟩⟩⟩⟩⟩⟩⟩⟩⟩⟩⟩⟩⟩
theorem ae_fl_ok (o : Nat) : ∀ x ∈ ae_fl o, ae_fok o x := by
  match o with
  | 0 => exact fk_0
  | 1 => exact fk_1
  | 2 => exact fk_2
  | 3 => exact fk_3
  | 4 => exact fk_4
  | 5 => exact fk_5
  | 6 => exact fk_6
  | 7 => exact fk_7
  | 8 => exact fk_8
  | 9 => exact fk_9
  | 10 => exact fk_10
  | 11 => exact fk_11
  | n + 12 => exact fun _ h => absurd h List.not_mem_nil
/-- calls: place in the pool, kind (0 a constructor, 1 a nest mate's, 2 virtual, 4 static, 5 a nest mate's static, 6 Object.<init>, 7 arraycopy, 8.. ArrayList), method, number of arguments, host -/
def ae_ml (o : Nat) : List (Nat × Nat × ae_M × Nat × String) := match o with
  | 0 => [(3, 6, mX0_isLeaf, 0, "")]
  | 1 => [(3, 6, mX0_isLeaf, 0, ""), (19, 2, mX1_isOver, 0, ""), (23, 2, mX1_at, 1, ""), (27, 2, mX1_put, 1, ""), (31, 7, mX0_isLeaf, 5, "")]
  | 2 => [(3, 6, mX0_isLeaf, 0, ""), (11, 0, mX1_init, 1, ""), (20, 2, mX1_isOver, 0, "")]
  | 3 => [(1, 6, mX0_isLeaf, 0, ""), (22, 2, mX3_isFull, 0, "")]
  | 4 => [(1, 6, mX0_isLeaf, 0, ""), (9, 0, mX1_init, 1, ""), (25, 2, mX1_putAll, 3, "")]
  | 5 => [(3, 6, mX0_isLeaf, 0, ""), (23, 1, mX8_init, 0, "NarrowSolver"), (30, 0, mX9_init, 2, ""), (42, 2, mX1_at, 1, ""), (48, 0, mX4_init, 2, ""), (51, 2, mX5_rulesOf, 1, ""), (55, 2, mX9_make, 3, "")]
  | 6 => [(3, 6, mX0_isLeaf, 0, ""), (11, 0, mX3_init, 1, ""), (25, 0, mX1_init, 1, ""), (36, 1, mX2_init, 0, "NarrowSolver"), (56, 2, mX3_empty, 0, ""), (71, 2, mX6_empty, 0, ""), (75, 2, mX1_empty, 0, ""), (79, 2, mX1_putAll, 3, ""), (92, 2, mX1_put, 1, ""), (95, 2, mX6_deliver, 0, ""), (219, 2, mX2_isLost, 0, ""), (222, 2, mX3_isFull, 0, ""), (225, 2, mX3_append, 1, ""), (98, 2, mX3_takeFirst, 1, ""), (102, 2, mX7_endOfTerm, 2, ""), (108, 2, mX1_at, 1, ""), (112, 2, mX7_isFunction, 1, ""), (116, 2, mX6_workOn, 1, ""), (152, 2, mX6_rootFor, 1, ""), (189, 2, mX5_treeOf, 1, ""), (193, 2, mX8_at, 1, ""), (157, 2, mX0_isLeaf, 0, ""), (166, 2, mX5_at, 1, ""), (171, 2, mX6_rewrite, 2, ""), (212, 2, mX6_match, 2, ""), (122, 2, mX6_startDraft, 0, ""), (139, 2, mX6_finishDraft, 1, ""), (149, 2, mX6_copyBound, 2, ""), (178, 2, mX7_follow, 3, ""), (125, 5, mX10_isVariable, 1, "NarrowSolver"), (182, 2, mX6_narrow, 2, ""), (132, 2, mX6_bind, 2, ""), (142, 2, mX7_argumentsOf, 1, ""), (186, 2, mX0_childFor, 1, ""), (119, 2, mX6_unify, 1, ""), (128, 2, mX6_standsOpenly, 3, ""), (136, 2, mX6_putArguments, 2, ""), (145, 2, mX6_putArgument, 3, "")]
  | 7 => [(3, 6, mX0_isLeaf, 0, ""), (26, 2, mX1_at, 1, ""), (30, 2, mX7_argumentsOf, 1, ""), (34, 2, mX7_endOfTerm, 2, "")]
  | 8 => [(3, 6, mX0_isLeaf, 0, ""), (11, 0, mJx4a65c_init_da8c8, 0, ""), (22, 2, mJx4a65c_size_8abf5, 0, ""), (31, 1, mX0_init, 0, "NarrowSolver"), (32, 2, mJx4a65c_add_9ea2d, 1, ""), (25, 2, mJx4a65c_get_915e3, 1, "")]
  | 9 => [(3, 6, mX0_isLeaf, 0, ""), (11, 0, mX1_init, 1, ""), (38, 2, mX1_empty, 0, ""), (41, 2, mX1_put, 1, ""), (44, 2, mX9_unfold, 2, ""), (120, 2, mX1_set, 2, ""), (123, 2, mX7_argumentsOf, 1, ""), (128, 2, mX1_insert, 2, ""), (48, 2, mX8_add, 3, ""), (52, 2, mX9_settle, 1, ""), (74, 2, mX9_firstBranch, 1, ""), (131, 2, mX1_at, 1, ""), (137, 5, mX10_isVariable, 1, "NarrowSolver"), (146, 2, mX9_shutVariables, 1, ""), (151, 2, mX7_endOfTerm, 2, ""), (78, 4, mJ13_numberOfTrailingZeros_95d88, 1, ""), (86, 4, mJ13_bitCount_95d88, 1, ""), (92, 2, mX9_placeOf, 1, ""), (56, 2, mX0_isLeaf, 0, ""), (62, 2, mX9_growChild, 2, ""), (105, 2, mX9_fold, 1, ""), (134, 2, mX1_remove, 1, ""), (108, 2, mX9_leastBehind, 2, ""), (155, 2, mX9_standsIn, 2, ""), (112, 2, mX9_rulesWith, 2, ""), (116, 2, mX0_append, 1, "")]
  | 10 => [(1, 6, mX0_isLeaf, 0, ""), (9, 1, mX7_init, 0, "NarrowSolver"), (18, 0, mX1_init, 1, ""), (27, 0, mX5_init, 1, ""), (36, 0, mX6_init, 2, ""), (47, 2, mX1_empty, 0, ""), (50, 2, mX5_empty, 0, ""), (51, 2, mX6_empty, 0, ""), (52, 2, mX7_add, 2, ""), (57, 2, mX1_put, 1, ""), (60, 2, mX10_endOnTape, 1, ""), (106, 2, mX1_at, 1, ""), (158, 2, mX7_has, 1, ""), (161, 2, mX7_argumentsOf, 1, ""), (64, 2, mX10_faultOfRule, 1, ""), (108, 2, mX7_isFunction, 1, ""), (164, 2, mX10_faultOfVariables, 1, ""), (167, 4, mX10_variableBit, 1, ""), (170, 4, mX10_isVariable, 1, ""), (67, 2, mX5_add, 2, ""), (70, 2, mX10_equationsOnTape, 0, ""), (74, 2, mX6_begin, 2, ""), (85, 2, mX6_step, 0, ""), (91, 2, mX3_at, 1, ""), (103, 2, mX7_endOfTerm, 2, ""), (112, 2, mX5_treeOf, 1, ""), (116, 2, mX8_at, 1, ""), (121, 2, mX0_isLeaf, 0, ""), (136, 2, mX0_numberOfChild, 1, "")]
  | 11 => [(1, 6, mX0_isLeaf, 0, ""), (120, 2, mX11_forget, 0, ""), (141, 4, mX11_in, 3, ""), (155, 2, mX11_readTerm, 1, ""), (151, 2, mX11_isKnown, 1, ""), (147, 2, mX11_argumentsOf, 1, ""), (158, 2, mX11_faultOfTerms, 1, ""), (161, 2, mX11_layTree, 1, ""), (189, 2, mX11_rulesOf, 1, ""), (193, 2, mX11_begin, 2, ""), (197, 2, mX11_later, 4, ""), (201, 2, mX11_isLeaf, 2, ""), (168, 2, mX11_firstOf, 1, ""), (172, 2, mX11_branchOf, 3, ""), (176, 2, mX11_locate, 5, ""), (164, 2, mX11_endOf, 2, ""), (205, 2, mX11_placeOf, 2, ""), (208, 2, mX11_layBranch, 4, ""), (211, 2, mX11_withAt, 5, ""), (215, 2, mX11_refine, 5, ""), (219, 2, mX11_beginNew, 0, ""), (222, 2, mX11_give, 1, ""), (232, 2, mX11_keep, 1, ""), (295, 2, mX11_take, 0, ""), (298, 2, mX11_step, 0, ""), (254, 2, mX11_isFunctionAt, 1, ""), (263, 2, mX11_workOn, 1, ""), (288, 2, mX11_part, 4, ""), (285, 2, mX11_bindTo, 1, ""), (266, 2, mX11_giveAll, 3, ""), (270, 2, mX11_giveAnswers, 1, ""), (260, 2, mX11_giveAnswer, 1, ""), (292, 2, mX11_use, 2, ""), (273, 2, mX11_bindSide, 2, ""), (281, 2, mX11_stands, 2, ""), (277, 2, mX11_giveArguments, 4, "")]
  | 12 => [(1, 0, mJxc12de_init_da8c8, 0, ""), (131, 2, mJx4a65c_add_72be8, 3, ""), (129, 2, mJx4a65c_grow_d5877, 0, ""), (69, 2, mJx4a65c_grow_92f84, 1, ""), (73, 4, mJ8_newLength_cabcc, 3, ""), (66, 4, mJ7_copyOf_1904c, 2, ""), (79, 4, mJ9_max_7cf53, 2, ""), (118, 4, mJ15_checkIndex_7cf53, 2, ""), (123, 2, mJx4a65c_elementData_915e3, 1, "")]
  | 13 => [(9, 0, mX10_init, 0, ""), (13, 2, mX10_clear, 0, ""), (18, 2, mX10_symbol, 2, ""), (25, 2, mX10_feed, 2, ""), (30, 2, mX10_rule, 0, ""), (34, 2, mX10_problem, 0, ""), (38, 2, mX10_solve, 1, ""), (43, 2, mX10_solutions, 0, ""), (47, 2, mX10_answer, 3, ""), (52, 2, mX10_node, 3, ""), (56, 2, mX10_waiting, 2, ""), (61, 2, mX10_count, 1, ""), (12, 0, mX11_init, 0, ""), (17, 2, mX11_clear, 0, ""), (22, 2, mX11_symbol, 2, ""), (29, 2, mX11_feed, 2, ""), (33, 2, mX11_rule, 0, ""), (55, 2, mX11_node, 3, ""), (37, 2, mX11_problem, 0, ""), (42, 2, mX11_solve, 1, ""), (46, 2, mX11_solutions, 0, ""), (51, 2, mX11_answer, 3, ""), (60, 2, mX11_waiting, 2, ""), (64, 2, mX11_count, 1, "")]
  | 15 => [(311, 4, mJ6_numberOfTrailingZeros_0f7a4, 1, "")]
  | 17 => [(300, 4, mJ7_copyOf_6403c, 3, ""), (304, 4, mJ9_min_7cf53, 2, ""), (150, 7, mX0_isLeaf, 5, "")]
  | 18 => [(105, 4, mJ3_checkIndex_8e157, 3, "")]
  | 19 => [(194, 4, mJ9_max_7cf53, 2, ""), (201, 4, mJ8_hugeLength_7cf53, 2, "")]
  | 21 => [(1, 6, mX0_isLeaf, 0, "")]
  | 22 => [(1, 0, mJxa1e45_init_da8c8, 0, "")]
  | _ => []
def ae_lm : List ae_M := [mJx4a65c_init_da8c8, mJx4a65c_size_8abf5, mJx4a65c_get_915e3, mJx4a65c_add_9ea2d]
def ae_cw (M : ae_M) : Cond := Cond.code M.1 M.2.1 M.2.2.1 M.2.2.2.1
def ae_mok (o : Nat) (x : Nat × Nat × ae_M × Nat × String) : Prop := match x.2.1 with
  | 0 => Cond.methodLink (ae_on o) x.1 x.2.2.1.1 ∈ ae_big ∧ Cond.instanceMethod x.2.2.1.1 ∈ ae_big ∧ Cond.initialized x.2.2.1.1.cls ∈ ae_big ∧ ae_cw x.2.2.1 ∈ ae_big ∧ x.2.2.1.1.name = "<init>" ∧ x.2.2.1.2.2.2.1 = none ∧ x.2.2.1.2.2.1 ≤ 17 ∧ (x.2.2.1.1.cls ≠ "java/lang/invoke/MethodHandle" ∧ x.2.2.1.1.cls ≠ "java/lang/invoke/VarHandle" ∧ (parseMethodDescriptor x.2.2.1.1.desc).map (fun d => d.parameters.length) = some x.2.2.2.1) ∧ (x.2.2.1.2.2.2.2.1 = 12 ∧ o ≠ 12 → x.2.2.1 ∈ ae_lm)
  | 1 => Cond.methodLinkNest (ae_on o) x.1 x.2.2.1.1 x.2.2.2.2 ∈ lw_tbl ∧ Cond.instanceMethod x.2.2.1.1 ∈ ae_big ∧ Cond.initialized x.2.2.1.1.cls ∈ ae_big ∧ ae_cw x.2.2.1 ∈ ae_big ∧ x.2.2.1.1.name = "<init>" ∧ x.2.2.1.2.2.2.1 = none ∧ x.2.2.1.2.2.1 ≤ 17 ∧ (x.2.2.1.1.cls ≠ "java/lang/invoke/MethodHandle" ∧ x.2.2.1.1.cls ≠ "java/lang/invoke/VarHandle" ∧ (parseMethodDescriptor x.2.2.1.1.desc).map (fun d => d.parameters.length) = some x.2.2.2.1)
  | 2 => Cond.methodLink (ae_on o) x.1 x.2.2.1.1 ∈ ae_big ∧ Cond.instanceMethod x.2.2.1.1 ∈ ae_big ∧ Cond.selects x.2.2.1.1.cls x.2.2.1.1 x.2.2.1.1 ∈ ae_big ∧ Cond.initialized x.2.2.1.1.cls ∈ ae_big ∧ ae_cw x.2.2.1 ∈ ae_big ∧ x.2.2.1.2.2.1 ≤ 17 ∧ (x.2.2.1.1.cls ≠ "java/lang/invoke/MethodHandle" ∧ x.2.2.1.1.cls ≠ "java/lang/invoke/VarHandle" ∧ (parseMethodDescriptor x.2.2.1.1.desc).map (fun d => d.parameters.length) = some x.2.2.2.1) ∧ ae_on x.2.2.1.2.2.2.2.1 = x.2.2.1.1.cls ∧ (x.2.2.1.2.2.2.2.1 = 12 ∧ o ≠ 12 → x.2.2.1 ∈ ae_lm)
  | 4 => Cond.methodLink (ae_on o) x.1 x.2.2.1.1 ∈ ae_big ∧ Cond.static x.2.2.1.1 ∈ ae_big ∧ Cond.initialized x.2.2.1.1.cls ∈ ae_big ∧ ae_cw x.2.2.1 ∈ ae_big ∧ x.2.2.1.2.2.1 ≤ 17 ∧ (x.2.2.1.1.cls ≠ "java/lang/invoke/MethodHandle" ∧ x.2.2.1.1.cls ≠ "java/lang/invoke/VarHandle" ∧ (parseMethodDescriptor x.2.2.1.1.desc).map (fun d => d.parameters.length) = some x.2.2.2.1)
  | 5 => Cond.methodLinkNest (ae_on o) x.1 x.2.2.1.1 x.2.2.2.2 ∈ lw_tbl ∧ Cond.static x.2.2.1.1 ∈ ae_big ∧ Cond.initialized x.2.2.1.1.cls ∈ ae_big ∧ ae_cw x.2.2.1 ∈ ae_big ∧ x.2.2.1.2.2.1 ≤ 17 ∧ (x.2.2.1.1.cls ≠ "java/lang/invoke/MethodHandle" ∧ x.2.2.1.1.cls ≠ "java/lang/invoke/VarHandle" ∧ (parseMethodDescriptor x.2.2.1.1.desc).map (fun d => d.parameters.length) = some x.2.2.2.1)
  | 6 => Cond.methodLink (ae_on o) x.1 objectInit ∈ ae_big
  | 7 => Cond.methodLink (ae_on o) x.1 arraycopyName ∈ ae_big
  | _ => False
theorem mk_0_0 : ae_mok 0 (3, 6, mX0_isLeaf, 0, "") := (ae_inb 482 (by decide +kernel) rfl)
theorem mk_0 : ∀ x ∈ ae_ml 0, ae_mok 0 x := List.forall_mem_cons.mpr ⟨mk_0_0, fun _ h => absurd h List.not_mem_nil⟩
theorem mk_1_0 : ae_mok 1 (3, 6, mX0_isLeaf, 0, "") := (ae_inb 122 (by decide +kernel) rfl)
theorem mk_1_1 : ae_mok 1 (19, 2, mX1_isOver, 0, "") := ⟨(ae_inb 426 (by decide +kernel) rfl), (ae_inb 427 (by decide +kernel) rfl), (ae_inb 428 (by decide +kernel) rfl), (ae_inb 69 (by decide +kernel) rfl), (ae_inb 429 (by decide +kernel) rfl), by decide, ⟨by decide +kernel, by decide +kernel, by decide +kernel⟩, rfl, fun h => absurd h.1 (by decide)⟩
theorem mk_1_2 : ae_mok 1 (23, 2, mX1_at, 1, "") := ⟨(ae_inb 430 (by decide +kernel) rfl), (ae_inb 381 (by decide +kernel) rfl), (ae_inb 382 (by decide +kernel) rfl), (ae_inb 69 (by decide +kernel) rfl), (ae_inb 383 (by decide +kernel) rfl), by decide, ⟨by decide +kernel, by decide +kernel, by decide +kernel⟩, rfl, fun h => absurd h.1 (by decide)⟩
theorem mk_1_3 : ae_mok 1 (27, 2, mX1_put, 1, "") := ⟨(ae_inb 431 (by decide +kernel) rfl), (ae_inb 369 (by decide +kernel) rfl), (ae_inb 370 (by decide +kernel) rfl), (ae_inb 69 (by decide +kernel) rfl), (ae_inb 371 (by decide +kernel) rfl), by decide, ⟨by decide +kernel, by decide +kernel, by decide +kernel⟩, rfl, fun h => absurd h.1 (by decide)⟩
theorem mk_1_4 : ae_mok 1 (31, 7, mX0_isLeaf, 5, "") := (ae_inb 466 (by decide +kernel) rfl)
theorem mk_1 : ∀ x ∈ ae_ml 1, ae_mok 1 x := List.forall_mem_cons.mpr ⟨mk_1_0, List.forall_mem_cons.mpr ⟨mk_1_1, List.forall_mem_cons.mpr ⟨mk_1_2, List.forall_mem_cons.mpr ⟨mk_1_3, List.forall_mem_cons.mpr ⟨mk_1_4, fun _ h => absurd h List.not_mem_nil⟩⟩⟩⟩⟩
theorem mk_2_0 : ae_mok 2 (3, 6, mX0_isLeaf, 0, "") := (ae_inb 255 (by decide +kernel) rfl)
theorem mk_2_1 : ae_mok 2 (11, 0, mX1_init, 1, "") := ⟨(ae_inb 257 (by decide +kernel) rfl), (ae_inb 120 (by decide +kernel) rfl), (ae_inb 69 (by decide +kernel) rfl), (ae_inb 121 (by decide +kernel) rfl), rfl, rfl, by decide, ⟨by decide +kernel, by decide +kernel, by decide +kernel⟩, fun h => absurd h.1 (by decide)⟩
theorem mk_2_2 : ae_mok 2 (20, 2, mX1_isOver, 0, "") := ⟨(ae_inb 704 (by decide +kernel) rfl), (ae_inb 427 (by decide +kernel) rfl), (ae_inb 428 (by decide +kernel) rfl), (ae_inb 69 (by decide +kernel) rfl), (ae_inb 429 (by decide +kernel) rfl), by decide, ⟨by decide +kernel, by decide +kernel, by decide +kernel⟩, rfl, fun h => absurd h.1 (by decide)⟩
theorem mk_2 : ∀ x ∈ ae_ml 2, ae_mok 2 x := List.forall_mem_cons.mpr ⟨mk_2_0, List.forall_mem_cons.mpr ⟨mk_2_1, List.forall_mem_cons.mpr ⟨mk_2_2, fun _ h => absurd h List.not_mem_nil⟩⟩⟩
theorem mk_3_0 : ae_mok 3 (1, 6, mX0_isLeaf, 0, "") := (ae_inb 234 (by decide +kernel) rfl)
theorem mk_3_1 : ae_mok 3 (22, 2, mX3_isFull, 0, "") := ⟨(ae_inb 713 (by decide +kernel) rfl), (ae_inb 706 (by decide +kernel) rfl), (ae_inb 707 (by decide +kernel) rfl), (ae_inb 77 (by decide +kernel) rfl), (ae_inb 708 (by decide +kernel) rfl), by decide, ⟨by decide +kernel, by decide +kernel, by decide +kernel⟩, rfl, fun h => absurd h.1 (by decide)⟩
theorem mk_3 : ∀ x ∈ ae_ml 3, ae_mok 3 x := List.forall_mem_cons.mpr ⟨mk_3_0, List.forall_mem_cons.mpr ⟨mk_3_1, fun _ h => absurd h List.not_mem_nil⟩⟩
theorem mk_4_0 : ae_mok 4 (1, 6, mX0_isLeaf, 0, "") := (ae_inb 419 (by decide +kernel) rfl)
theorem mk_4_1 : ae_mok 4 (9, 0, mX1_init, 1, "") := ⟨(ae_inb 421 (by decide +kernel) rfl), (ae_inb 120 (by decide +kernel) rfl), (ae_inb 69 (by decide +kernel) rfl), (ae_inb 121 (by decide +kernel) rfl), rfl, rfl, by decide, ⟨by decide +kernel, by decide +kernel, by decide +kernel⟩, fun h => absurd h.1 (by decide)⟩
theorem mk_4_2 : ae_mok 4 (25, 2, mX1_putAll, 3, "") := ⟨(ae_inb 422 (by decide +kernel) rfl), (ae_inb 423 (by decide +kernel) rfl), (ae_inb 424 (by decide +kernel) rfl), (ae_inb 69 (by decide +kernel) rfl), (ae_inb 425 (by decide +kernel) rfl), by decide, ⟨by decide +kernel, by decide +kernel, by decide +kernel⟩, rfl, fun h => absurd h.1 (by decide)⟩
theorem mk_4 : ∀ x ∈ ae_ml 4, ae_mok 4 x := List.forall_mem_cons.mpr ⟨mk_4_0, List.forall_mem_cons.mpr ⟨mk_4_1, List.forall_mem_cons.mpr ⟨mk_4_2, fun _ h => absurd h List.not_mem_nil⟩⟩⟩
theorem mk_5_0 : ae_mok 5 (3, 6, mX0_isLeaf, 0, "") := (ae_inb 140 (by decide +kernel) rfl)
theorem mk_5_1 : ae_mok 5 (23, 1, mX8_init, 0, "NarrowSolver") := ⟨(ae_int 146 (by decide +kernel)), (ae_inb 147 (by decide +kernel) rfl), (ae_inb 71 (by decide +kernel) rfl), (ae_inb 148 (by decide +kernel) rfl), rfl, rfl, by decide, ⟨by decide +kernel, by decide +kernel, by decide +kernel⟩⟩
theorem mk_5_2 : ae_mok 5 (30, 0, mX9_init, 2, "") := ⟨(ae_inb 187 (by decide +kernel) rfl), (ae_inb 188 (by decide +kernel) rfl), (ae_inb 75 (by decide +kernel) rfl), (ae_inb 189 (by decide +kernel) rfl), rfl, rfl, by decide, ⟨by decide +kernel, by decide +kernel, by decide +kernel⟩, fun h => absurd h.1 (by decide)⟩
theorem mk_5_3 : ae_mok 5 (42, 2, mX1_at, 1, "") := ⟨(ae_inb 414 (by decide +kernel) rfl), (ae_inb 381 (by decide +kernel) rfl), (ae_inb 382 (by decide +kernel) rfl), (ae_inb 69 (by decide +kernel) rfl), (ae_inb 383 (by decide +kernel) rfl), by decide, ⟨by decide +kernel, by decide +kernel, by decide +kernel⟩, rfl, fun h => absurd h.1 (by decide)⟩
theorem mk_5_4 : ae_mok 5 (48, 0, mX4_init, 2, "") := ⟨(ae_inb 416 (by decide +kernel) rfl), (ae_inb 417 (by decide +kernel) rfl), (ae_inb 80 (by decide +kernel) rfl), (ae_inb 418 (by decide +kernel) rfl), rfl, rfl, by decide, ⟨by decide +kernel, by decide +kernel, by decide +kernel⟩, fun h => absurd h.1 (by decide)⟩
theorem mk_5_5 : ae_mok 5 (51, 2, mX5_rulesOf, 1, "") := ⟨(ae_inb 443 (by decide +kernel) rfl), (ae_inb 445 (by decide +kernel) rfl), (ae_inb 3 (by decide +kernel) rfl), (ae_inb 70 (by decide +kernel) rfl), (ae_inb 446 (by decide +kernel) rfl), by decide, ⟨by decide +kernel, by decide +kernel, by decide +kernel⟩, rfl, fun h => absurd h.1 (by decide)⟩
theorem mk_5_6 : ae_mok 5 (55, 2, mX9_make, 3, "") := ⟨(ae_inb 447 (by decide +kernel) rfl), (ae_inb 448 (by decide +kernel) rfl), (ae_inb 449 (by decide +kernel) rfl), (ae_inb 75 (by decide +kernel) rfl), (ae_inb 450 (by decide +kernel) rfl), by decide, ⟨by decide +kernel, by decide +kernel, by decide +kernel⟩, rfl, fun h => absurd h.1 (by decide)⟩
theorem mk_5 : ∀ x ∈ ae_ml 5, ae_mok 5 x := List.forall_mem_cons.mpr ⟨mk_5_0, List.forall_mem_cons.mpr ⟨mk_5_1, List.forall_mem_cons.mpr ⟨mk_5_2, List.forall_mem_cons.mpr ⟨mk_5_3, List.forall_mem_cons.mpr ⟨mk_5_4, List.forall_mem_cons.mpr ⟨mk_5_5, List.forall_mem_cons.mpr ⟨mk_5_6, fun _ h => absurd h List.not_mem_nil⟩⟩⟩⟩⟩⟩⟩
theorem mk_6_0 : ae_mok 6 (3, 6, mX0_isLeaf, 0, "") := (ae_inb 228 (by decide +kernel) rfl)
theorem mk_6_1 : ae_mok 6 (11, 0, mX3_init, 1, "") := ⟨(ae_inb 231 (by decide +kernel) rfl), (ae_inb 232 (by decide +kernel) rfl), (ae_inb 77 (by decide +kernel) rfl), (ae_inb 233 (by decide +kernel) rfl), rfl, rfl, by decide, ⟨by decide +kernel, by decide +kernel, by decide +kernel⟩, fun h => absurd h.1 (by decide)⟩
theorem mk_6_2 : ae_mok 6 (25, 0, mX1_init, 1, "") := ⟨(ae_inb 249 (by decide +kernel) rfl), (ae_inb 120 (by decide +kernel) rfl), (ae_inb 69 (by decide +kernel) rfl), (ae_inb 121 (by decide +kernel) rfl), rfl, rfl, by decide, ⟨by decide +kernel, by decide +kernel, by decide +kernel⟩, fun h => absurd h.1 (by decide)⟩
theorem mk_6_3 : ae_mok 6 (36, 1, mX2_init, 0, "NarrowSolver") := ⟨(ae_int 252 (by decide +kernel)), (ae_inb 253 (by decide +kernel) rfl), (ae_inb 78 (by decide +kernel) rfl), (ae_inb 254 (by decide +kernel) rfl), rfl, rfl, by decide, ⟨by decide +kernel, by decide +kernel, by decide +kernel⟩⟩
theorem mk_6_4 : ae_mok 6 (56, 2, mX3_empty, 0, "") := ⟨(ae_inb 352 (by decide +kernel) rfl), (ae_inb 353 (by decide +kernel) rfl), (ae_inb 354 (by decide +kernel) rfl), (ae_inb 77 (by decide +kernel) rfl), (ae_inb 355 (by decide +kernel) rfl), by decide, ⟨by decide +kernel, by decide +kernel, by decide +kernel⟩, rfl, fun h => absurd h.1 (by decide)⟩
theorem mk_6_5 : ae_mok 6 (71, 2, mX6_empty, 0, "") := ⟨(ae_inb 692 (by decide +kernel) rfl), (ae_inb 349 (by decide +kernel) rfl), (ae_inb 350 (by decide +kernel) rfl), (ae_inb 76 (by decide +kernel) rfl), (ae_inb 351 (by decide +kernel) rfl), by decide, ⟨by decide +kernel, by decide +kernel, by decide +kernel⟩, rfl, fun h => absurd h.1 (by decide)⟩
theorem mk_6_6 : ae_mok 6 (75, 2, mX1_empty, 0, "") := ⟨(ae_inb 693 (by decide +kernel) rfl), (ae_inb 341 (by decide +kernel) rfl), (ae_inb 342 (by decide +kernel) rfl), (ae_inb 69 (by decide +kernel) rfl), (ae_inb 343 (by decide +kernel) rfl), by decide, ⟨by decide +kernel, by decide +kernel, by decide +kernel⟩, rfl, fun h => absurd h.1 (by decide)⟩
theorem mk_6_7 : ae_mok 6 (79, 2, mX1_putAll, 3, "") := ⟨(ae_inb 694 (by decide +kernel) rfl), (ae_inb 423 (by decide +kernel) rfl), (ae_inb 424 (by decide +kernel) rfl), (ae_inb 69 (by decide +kernel) rfl), (ae_inb 425 (by decide +kernel) rfl), by decide, ⟨by decide +kernel, by decide +kernel, by decide +kernel⟩, rfl, fun h => absurd h.1 (by decide)⟩
theorem mk_6_8 : ae_mok 6 (92, 2, mX1_put, 1, "") := ⟨(ae_inb 695 (by decide +kernel) rfl), (ae_inb 369 (by decide +kernel) rfl), (ae_inb 370 (by decide +kernel) rfl), (ae_inb 69 (by decide +kernel) rfl), (ae_inb 371 (by decide +kernel) rfl), by decide, ⟨by decide +kernel, by decide +kernel, by decide +kernel⟩, rfl, fun h => absurd h.1 (by decide)⟩
theorem mk_6_9 : ae_mok 6 (95, 2, mX6_deliver, 0, "") := ⟨(ae_inb 696 (by decide +kernel) rfl), (ae_inb 698 (by decide +kernel) rfl), (ae_inb 18 (by decide +kernel) rfl), (ae_inb 76 (by decide +kernel) rfl), (ae_inb 699 (by decide +kernel) rfl), by decide, ⟨by decide +kernel, by decide +kernel, by decide +kernel⟩, rfl, fun h => absurd h.1 (by decide)⟩
theorem mk_6_10 : ae_mok 6 (219, 2, mX2_isLost, 0, "") := ⟨(ae_inb 700 (by decide +kernel) rfl), (ae_inb 701 (by decide +kernel) rfl), (ae_inb 702 (by decide +kernel) rfl), (ae_inb 78 (by decide +kernel) rfl), (ae_inb 703 (by decide +kernel) rfl), by decide, ⟨by decide +kernel, by decide +kernel, by decide +kernel⟩, rfl, fun h => absurd h.1 (by decide)⟩
theorem mk_6_11 : ae_mok 6 (222, 2, mX3_isFull, 0, "") := ⟨(ae_inb 705 (by decide +kernel) rfl), (ae_inb 706 (by decide +kernel) rfl), (ae_inb 707 (by decide +kernel) rfl), (ae_inb 77 (by decide +kernel) rfl), (ae_inb 708 (by decide +kernel) rfl), by decide, ⟨by decide +kernel, by decide +kernel, by decide +kernel⟩, rfl, fun h => absurd h.1 (by decide)⟩
theorem mk_6_12 : ae_mok 6 (225, 2, mX3_append, 1, "") := ⟨(ae_inb 709 (by decide +kernel) rfl), (ae_inb 710 (by decide +kernel) rfl), (ae_inb 711 (by decide +kernel) rfl), (ae_inb 77 (by decide +kernel) rfl), (ae_inb 712 (by decide +kernel) rfl), by decide, ⟨by decide +kernel, by decide +kernel, by decide +kernel⟩, rfl, fun h => absurd h.1 (by decide)⟩
theorem mk_6_13 : ae_mok 6 (98, 2, mX3_takeFirst, 1, "") := ⟨(ae_inb 722 (by decide +kernel) rfl), (ae_inb 723 (by decide +kernel) rfl), (ae_inb 724 (by decide +kernel) rfl), (ae_inb 77 (by decide +kernel) rfl), (ae_inb 725 (by decide +kernel) rfl), by decide, ⟨by decide +kernel, by decide +kernel, by decide +kernel⟩, rfl, fun h => absurd h.1 (by decide)⟩
theorem mk_6_14 : ae_mok 6 (102, 2, mX7_endOfTerm, 2, "") := ⟨(ae_inb 726 (by decide +kernel) rfl), (ae_inb 626 (by decide +kernel) rfl), (ae_inb 627 (by decide +kernel) rfl), (ae_inb 68 (by decide +kernel) rfl), (ae_inb 628 (by decide +kernel) rfl), by decide, ⟨by decide +kernel, by decide +kernel, by decide +kernel⟩, rfl, fun h => absurd h.1 (by decide)⟩
theorem mk_6_15 : ae_mok 6 (108, 2, mX1_at, 1, "") := ⟨(ae_inb 727 (by decide +kernel) rfl), (ae_inb 381 (by decide +kernel) rfl), (ae_inb 382 (by decide +kernel) rfl), (ae_inb 69 (by decide +kernel) rfl), (ae_inb 383 (by decide +kernel) rfl), by decide, ⟨by decide +kernel, by decide +kernel, by decide +kernel⟩, rfl, fun h => absurd h.1 (by decide)⟩
theorem mk_6_16 : ae_mok 6 (112, 2, mX7_isFunction, 1, "") := ⟨(ae_inb 728 (by decide +kernel) rfl), (ae_inb 397 (by decide +kernel) rfl), (ae_inb 398 (by decide +kernel) rfl), (ae_inb 68 (by decide +kernel) rfl), (ae_inb 399 (by decide +kernel) rfl), by decide, ⟨by decide +kernel, by decide +kernel, by decide +kernel⟩, rfl, fun h => absurd h.1 (by decide)⟩
theorem mk_6_17 : ae_mok 6 (116, 2, mX6_workOn, 1, "") := ⟨(ae_inb 729 (by decide +kernel) rfl), (ae_inb 731 (by decide +kernel) rfl), (ae_inb 19 (by decide +kernel) rfl), (ae_inb 76 (by decide +kernel) rfl), (ae_inb 732 (by decide +kernel) rfl), by decide, ⟨by decide +kernel, by decide +kernel, by decide +kernel⟩, rfl, fun h => absurd h.1 (by decide)⟩
theorem mk_6_18 : ae_mok 6 (152, 2, mX6_rootFor, 1, "") := ⟨(ae_inb 733 (by decide +kernel) rfl), (ae_inb 735 (by decide +kernel) rfl), (ae_inb 20 (by decide +kernel) rfl), (ae_inb 76 (by decide +kernel) rfl), (ae_inb 736 (by decide +kernel) rfl), by decide, ⟨by decide +kernel, by decide +kernel, by decide +kernel⟩, rfl, fun h => absurd h.1 (by decide)⟩
theorem mk_6_19 : ae_mok 6 (189, 2, mX5_treeOf, 1, "") := ⟨(ae_inb 737 (by decide +kernel) rfl), (ae_inb 738 (by decide +kernel) rfl), (ae_inb 739 (by decide +kernel) rfl), (ae_inb 70 (by decide +kernel) rfl), (ae_inb 740 (by decide +kernel) rfl), by decide, ⟨by decide +kernel, by decide +kernel, by decide +kernel⟩, rfl, fun h => absurd h.1 (by decide)⟩
theorem mk_6_20 : ae_mok 6 (193, 2, mX8_at, 1, "") := ⟨(ae_inb 741 (by decide +kernel) rfl), (ae_inb 742 (by decide +kernel) rfl), (ae_inb 743 (by decide +kernel) rfl), (ae_inb 71 (by decide +kernel) rfl), (ae_inb 744 (by decide +kernel) rfl), by decide, ⟨by decide +kernel, by decide +kernel, by decide +kernel⟩, rfl, fun h => absurd h.1 (by decide)⟩
theorem mk_6_21 : ae_mok 6 (157, 2, mX0_isLeaf, 0, "") := ⟨(ae_inb 746 (by decide +kernel) rfl), (ae_inb 649 (by decide +kernel) rfl), (ae_inb 650 (by decide +kernel) rfl), (ae_inb 82 (by decide +kernel) rfl), (ae_inb 651 (by decide +kernel) rfl), by decide, ⟨by decide +kernel, by decide +kernel, by decide +kernel⟩, rfl, fun h => absurd h.1 (by decide)⟩
theorem mk_6_22 : ae_mok 6 (166, 2, mX5_at, 1, "") := ⟨(ae_inb 747 (by decide +kernel) rfl), (ae_inb 748 (by decide +kernel) rfl), (ae_inb 749 (by decide +kernel) rfl), (ae_inb 70 (by decide +kernel) rfl), (ae_inb 750 (by decide +kernel) rfl), by decide, ⟨by decide +kernel, by decide +kernel, by decide +kernel⟩, rfl, fun h => absurd h.1 (by decide)⟩
theorem mk_6_23 : ae_mok 6 (171, 2, mX6_rewrite, 2, "") := ⟨(ae_inb 751 (by decide +kernel) rfl), (ae_inb 753 (by decide +kernel) rfl), (ae_inb 21 (by decide +kernel) rfl), (ae_inb 76 (by decide +kernel) rfl), (ae_inb 754 (by decide +kernel) rfl), by decide, ⟨by decide +kernel, by decide +kernel, by decide +kernel⟩, rfl, fun h => absurd h.1 (by decide)⟩
theorem mk_6_24 : ae_mok 6 (212, 2, mX6_match, 2, "") := ⟨(ae_inb 755 (by decide +kernel) rfl), (ae_inb 757 (by decide +kernel) rfl), (ae_inb 22 (by decide +kernel) rfl), (ae_inb 76 (by decide +kernel) rfl), (ae_inb 758 (by decide +kernel) rfl), by decide, ⟨by decide +kernel, by decide +kernel, by decide +kernel⟩, rfl, fun h => absurd h.1 (by decide)⟩
theorem mk_6_25 : ae_mok 6 (122, 2, mX6_startDraft, 0, "") := ⟨(ae_inb 759 (by decide +kernel) rfl), (ae_inb 761 (by decide +kernel) rfl), (ae_inb 23 (by decide +kernel) rfl), (ae_inb 76 (by decide +kernel) rfl), (ae_inb 762 (by decide +kernel) rfl), by decide, ⟨by decide +kernel, by decide +kernel, by decide +kernel⟩, rfl, fun h => absurd h.1 (by decide)⟩
theorem mk_6_26 : ae_mok 6 (139, 2, mX6_finishDraft, 1, "") := ⟨(ae_inb 763 (by decide +kernel) rfl), (ae_inb 765 (by decide +kernel) rfl), (ae_inb 24 (by decide +kernel) rfl), (ae_inb 76 (by decide +kernel) rfl), (ae_inb 766 (by decide +kernel) rfl), by decide, ⟨by decide +kernel, by decide +kernel, by decide +kernel⟩, rfl, fun h => absurd h.1 (by decide)⟩
theorem mk_6_27 : ae_mok 6 (149, 2, mX6_copyBound, 2, "") := ⟨(ae_inb 767 (by decide +kernel) rfl), (ae_inb 769 (by decide +kernel) rfl), (ae_inb 25 (by decide +kernel) rfl), (ae_inb 76 (by decide +kernel) rfl), (ae_inb 770 (by decide +kernel) rfl), by decide, ⟨by decide +kernel, by decide +kernel, by decide +kernel⟩, rfl, fun h => absurd h.1 (by decide)⟩
theorem mk_6_28 : ae_mok 6 (178, 2, mX7_follow, 3, "") := ⟨(ae_inb 771 (by decide +kernel) rfl), (ae_inb 772 (by decide +kernel) rfl), (ae_inb 773 (by decide +kernel) rfl), (ae_inb 68 (by decide +kernel) rfl), (ae_inb 774 (by decide +kernel) rfl), by decide, ⟨by decide +kernel, by decide +kernel, by decide +kernel⟩, rfl, fun h => absurd h.1 (by decide)⟩
theorem mk_6_29 : ae_mok 6 (125, 5, mX10_isVariable, 1, "NarrowSolver") := ⟨(ae_int 777 (by decide +kernel)), (ae_inb 408 (by decide +kernel) rfl), (ae_inb 67 (by decide +kernel) rfl), (ae_inb 409 (by decide +kernel) rfl), by decide, ⟨by decide +kernel, by decide +kernel, by decide +kernel⟩⟩
theorem mk_6_30 : ae_mok 6 (182, 2, mX6_narrow, 2, "") := ⟨(ae_inb 778 (by decide +kernel) rfl), (ae_inb 780 (by decide +kernel) rfl), (ae_inb 26 (by decide +kernel) rfl), (ae_inb 76 (by decide +kernel) rfl), (ae_inb 781 (by decide +kernel) rfl), by decide, ⟨by decide +kernel, by decide +kernel, by decide +kernel⟩, rfl, fun h => absurd h.1 (by decide)⟩
theorem mk_6_31 : ae_mok 6 (132, 2, mX6_bind, 2, "") := ⟨(ae_inb 782 (by decide +kernel) rfl), (ae_inb 784 (by decide +kernel) rfl), (ae_inb 27 (by decide +kernel) rfl), (ae_inb 76 (by decide +kernel) rfl), (ae_inb 785 (by decide +kernel) rfl), by decide, ⟨by decide +kernel, by decide +kernel, by decide +kernel⟩, rfl, fun h => absurd h.1 (by decide)⟩
theorem mk_6_32 : ae_mok 6 (142, 2, mX7_argumentsOf, 1, "") := ⟨(ae_inb 786 (by decide +kernel) rfl), (ae_inb 389 (by decide +kernel) rfl), (ae_inb 390 (by decide +kernel) rfl), (ae_inb 68 (by decide +kernel) rfl), (ae_inb 391 (by decide +kernel) rfl), by decide, ⟨by decide +kernel, by decide +kernel, by decide +kernel⟩, rfl, fun h => absurd h.1 (by decide)⟩
theorem mk_6_33 : ae_mok 6 (186, 2, mX0_childFor, 1, "") := ⟨(ae_inb 787 (by decide +kernel) rfl), (ae_inb 788 (by decide +kernel) rfl), (ae_inb 789 (by decide +kernel) rfl), (ae_inb 82 (by decide +kernel) rfl), (ae_inb 790 (by decide +kernel) rfl), by decide, ⟨by decide +kernel, by decide +kernel, by decide +kernel⟩, rfl, fun h => absurd h.1 (by decide)⟩
theorem mk_6_34 : ae_mok 6 (119, 2, mX6_unify, 1, "") := ⟨(ae_inb 791 (by decide +kernel) rfl), (ae_inb 793 (by decide +kernel) rfl), (ae_inb 28 (by decide +kernel) rfl), (ae_inb 76 (by decide +kernel) rfl), (ae_inb 794 (by decide +kernel) rfl), by decide, ⟨by decide +kernel, by decide +kernel, by decide +kernel⟩, rfl, fun h => absurd h.1 (by decide)⟩
theorem mk_6_35 : ae_mok 6 (128, 2, mX6_standsOpenly, 3, "") := ⟨(ae_inb 795 (by decide +kernel) rfl), (ae_inb 797 (by decide +kernel) rfl), (ae_inb 29 (by decide +kernel) rfl), (ae_inb 76 (by decide +kernel) rfl), (ae_inb 798 (by decide +kernel) rfl), by decide, ⟨by decide +kernel, by decide +kernel, by decide +kernel⟩, rfl, fun h => absurd h.1 (by decide)⟩
theorem mk_6_36 : ae_mok 6 (136, 2, mX6_putArguments, 2, "") := ⟨(ae_inb 799 (by decide +kernel) rfl), (ae_inb 801 (by decide +kernel) rfl), (ae_inb 30 (by decide +kernel) rfl), (ae_inb 76 (by decide +kernel) rfl), (ae_inb 802 (by decide +kernel) rfl), by decide, ⟨by decide +kernel, by decide +kernel, by decide +kernel⟩, rfl, fun h => absurd h.1 (by decide)⟩
theorem mk_6_37 : ae_mok 6 (145, 2, mX6_putArgument, 3, "") := ⟨(ae_inb 803 (by decide +kernel) rfl), (ae_inb 805 (by decide +kernel) rfl), (ae_inb 31 (by decide +kernel) rfl), (ae_inb 76 (by decide +kernel) rfl), (ae_inb 806 (by decide +kernel) rfl), by decide, ⟨by decide +kernel, by decide +kernel, by decide +kernel⟩, rfl, fun h => absurd h.1 (by decide)⟩
theorem mk_6 : ∀ x ∈ ae_ml 6, ae_mok 6 x := List.forall_mem_cons.mpr ⟨mk_6_0, List.forall_mem_cons.mpr ⟨mk_6_1, List.forall_mem_cons.mpr ⟨mk_6_2, List.forall_mem_cons.mpr ⟨mk_6_3, List.forall_mem_cons.mpr ⟨mk_6_4, List.forall_mem_cons.mpr ⟨mk_6_5, List.forall_mem_cons.mpr ⟨mk_6_6, List.forall_mem_cons.mpr ⟨mk_6_7, List.forall_mem_cons.mpr ⟨mk_6_8, List.forall_mem_cons.mpr ⟨mk_6_9, List.forall_mem_cons.mpr ⟨mk_6_10, List.forall_mem_cons.mpr ⟨mk_6_11, List.forall_mem_cons.mpr ⟨mk_6_12, List.forall_mem_cons.mpr ⟨mk_6_13, List.forall_mem_cons.mpr ⟨mk_6_14, List.forall_mem_cons.mpr ⟨mk_6_15, List.forall_mem_cons.mpr ⟨mk_6_16, List.forall_mem_cons.mpr ⟨mk_6_17, List.forall_mem_cons.mpr ⟨mk_6_18, List.forall_mem_cons.mpr ⟨mk_6_19, List.forall_mem_cons.mpr ⟨mk_6_20, List.forall_mem_cons.mpr ⟨mk_6_21, List.forall_mem_cons.mpr ⟨mk_6_22, List.forall_mem_cons.mpr ⟨mk_6_23, List.forall_mem_cons.mpr ⟨mk_6_24, List.forall_mem_cons.mpr ⟨mk_6_25, List.forall_mem_cons.mpr ⟨mk_6_26, List.forall_mem_cons.mpr ⟨mk_6_27, List.forall_mem_cons.mpr ⟨mk_6_28, List.forall_mem_cons.mpr ⟨mk_6_29, List.forall_mem_cons.mpr ⟨mk_6_30, List.forall_mem_cons.mpr ⟨mk_6_31, List.forall_mem_cons.mpr ⟨mk_6_32, List.forall_mem_cons.mpr ⟨mk_6_33, List.forall_mem_cons.mpr ⟨mk_6_34, List.forall_mem_cons.mpr ⟨mk_6_35, List.forall_mem_cons.mpr ⟨mk_6_36, List.forall_mem_cons.mpr ⟨mk_6_37, fun _ h => absurd h List.not_mem_nil⟩⟩⟩⟩⟩⟩⟩⟩⟩⟩⟩⟩⟩⟩⟩⟩⟩⟩⟩⟩⟩⟩⟩⟩⟩⟩⟩⟩⟩⟩⟩⟩⟩⟩⟩⟩⟩⟩
theorem mk_7_0 : ae_mok 7 (3, 6, mX0_isLeaf, 0, "") := (ae_inb 103 (by decide +kernel) rfl)
theorem mk_7_1 : ae_mok 7 (26, 2, mX1_at, 1, "") := ⟨(ae_inb 629 (by decide +kernel) rfl), (ae_inb 381 (by decide +kernel) rfl), (ae_inb 382 (by decide +kernel) rfl), (ae_inb 69 (by decide +kernel) rfl), (ae_inb 383 (by decide +kernel) rfl), by decide, ⟨by decide +kernel, by decide +kernel, by decide +kernel⟩, rfl, fun h => absurd h.1 (by decide)⟩
theorem mk_7_2 : ae_mok 7 (30, 2, mX7_argumentsOf, 1, "") := ⟨(ae_inb 630 (by decide +kernel) rfl), (ae_inb 389 (by decide +kernel) rfl), (ae_inb 390 (by decide +kernel) rfl), (ae_inb 68 (by decide +kernel) rfl), (ae_inb 391 (by decide +kernel) rfl), by decide, ⟨by decide +kernel, by decide +kernel, by decide +kernel⟩, rfl, fun h => absurd h.1 (by decide)⟩
theorem mk_7_3 : ae_mok 7 (34, 2, mX7_endOfTerm, 2, "") := ⟨(ae_inb 776 (by decide +kernel) rfl), (ae_inb 626 (by decide +kernel) rfl), (ae_inb 627 (by decide +kernel) rfl), (ae_inb 68 (by decide +kernel) rfl), (ae_inb 628 (by decide +kernel) rfl), by decide, ⟨by decide +kernel, by decide +kernel, by decide +kernel⟩, rfl, fun h => absurd h.1 (by decide)⟩
theorem mk_7 : ∀ x ∈ ae_ml 7, ae_mok 7 x := List.forall_mem_cons.mpr ⟨mk_7_0, List.forall_mem_cons.mpr ⟨mk_7_1, List.forall_mem_cons.mpr ⟨mk_7_2, List.forall_mem_cons.mpr ⟨mk_7_3, fun _ h => absurd h List.not_mem_nil⟩⟩⟩⟩
theorem mk_8_0 : ae_mok 8 (3, 6, mX0_isLeaf, 0, "") := (ae_inb 149 (by decide +kernel) rfl)
theorem mk_8_1 : ae_mok 8 (11, 0, mJx4a65c_init_da8c8, 0, "") := ⟨(ae_inb 152 (by decide +kernel) rfl), (ae_inb 153 (by decide +kernel) rfl), (ae_inb 74 (by decide +kernel) rfl), (ae_inb 154 (by decide +kernel) rfl), rfl, rfl, by decide, ⟨by decide +kernel, by decide +kernel, by decide +kernel⟩, fun _ => by simp [ae_lm]⟩
theorem mk_8_2 : ae_mok 8 (22, 2, mJx4a65c_size_8abf5, 0, "") := ⟨(ae_inb 473 (by decide +kernel) rfl), (ae_inb 474 (by decide +kernel) rfl), (ae_inb 475 (by decide +kernel) rfl), (ae_inb 74 (by decide +kernel) rfl), (ae_inb 476 (by decide +kernel) rfl), by decide, ⟨by decide +kernel, by decide +kernel, by decide +kernel⟩, rfl, fun _ => by simp [ae_lm]⟩
theorem mk_8_3 : ae_mok 8 (31, 1, mX0_init, 0, "NarrowSolver") := ⟨(ae_int 479 (by decide +kernel)), (ae_inb 480 (by decide +kernel) rfl), (ae_inb 82 (by decide +kernel) rfl), (ae_inb 481 (by decide +kernel) rfl), rfl, rfl, by decide, ⟨by decide +kernel, by decide +kernel, by decide +kernel⟩⟩
theorem mk_8_4 : ae_mok 8 (32, 2, mJx4a65c_add_9ea2d, 1, "") := ⟨(ae_inb 539 (by decide +kernel) rfl), (ae_inb 540 (by decide +kernel) rfl), (ae_inb 541 (by decide +kernel) rfl), (ae_inb 74 (by decide +kernel) rfl), (ae_inb 542 (by decide +kernel) rfl), by decide, ⟨by decide +kernel, by decide +kernel, by decide +kernel⟩, rfl, fun _ => by simp [ae_lm]⟩
theorem mk_8_5 : ae_mok 8 (25, 2, mJx4a65c_get_915e3, 1, "") := ⟨(ae_inb 597 (by decide +kernel) rfl), (ae_inb 598 (by decide +kernel) rfl), (ae_inb 599 (by decide +kernel) rfl), (ae_inb 74 (by decide +kernel) rfl), (ae_inb 600 (by decide +kernel) rfl), by decide, ⟨by decide +kernel, by decide +kernel, by decide +kernel⟩, rfl, fun _ => by simp [ae_lm]⟩
theorem mk_8 : ∀ x ∈ ae_ml 8, ae_mok 8 x := List.forall_mem_cons.mpr ⟨mk_8_0, List.forall_mem_cons.mpr ⟨mk_8_1, List.forall_mem_cons.mpr ⟨mk_8_2, List.forall_mem_cons.mpr ⟨mk_8_3, List.forall_mem_cons.mpr ⟨mk_8_4, List.forall_mem_cons.mpr ⟨mk_8_5, fun _ h => absurd h List.not_mem_nil⟩⟩⟩⟩⟩⟩
theorem mk_9_0 : ae_mok 9 (3, 6, mX0_isLeaf, 0, "") := (ae_inb 190 (by decide +kernel) rfl)
theorem mk_9_1 : ae_mok 9 (11, 0, mX1_init, 1, "") := ⟨(ae_inb 192 (by decide +kernel) rfl), (ae_inb 120 (by decide +kernel) rfl), (ae_inb 69 (by decide +kernel) rfl), (ae_inb 121 (by decide +kernel) rfl), rfl, rfl, by decide, ⟨by decide +kernel, by decide +kernel, by decide +kernel⟩, fun h => absurd h.1 (by decide)⟩
theorem mk_9_2 : ae_mok 9 (38, 2, mX1_empty, 0, "") := ⟨(ae_inb 451 (by decide +kernel) rfl), (ae_inb 341 (by decide +kernel) rfl), (ae_inb 342 (by decide +kernel) rfl), (ae_inb 69 (by decide +kernel) rfl), (ae_inb 343 (by decide +kernel) rfl), by decide, ⟨by decide +kernel, by decide +kernel, by decide +kernel⟩, rfl, fun h => absurd h.1 (by decide)⟩
theorem mk_9_3 : ae_mok 9 (41, 2, mX1_put, 1, "") := ⟨(ae_inb 452 (by decide +kernel) rfl), (ae_inb 369 (by decide +kernel) rfl), (ae_inb 370 (by decide +kernel) rfl), (ae_inb 69 (by decide +kernel) rfl), (ae_inb 371 (by decide +kernel) rfl), by decide, ⟨by decide +kernel, by decide +kernel, by decide +kernel⟩, rfl, fun h => absurd h.1 (by decide)⟩
theorem mk_9_4 : ae_mok 9 (44, 2, mX9_unfold, 2, "") := ⟨(ae_inb 453 (by decide +kernel) rfl), (ae_inb 455 (by decide +kernel) rfl), (ae_inb 4 (by decide +kernel) rfl), (ae_inb 75 (by decide +kernel) rfl), (ae_inb 456 (by decide +kernel) rfl), by decide, ⟨by decide +kernel, by decide +kernel, by decide +kernel⟩, rfl, fun h => absurd h.1 (by decide)⟩
theorem mk_9_5 : ae_mok 9 (120, 2, mX1_set, 2, "") := ⟨(ae_inb 457 (by decide +kernel) rfl), (ae_inb 458 (by decide +kernel) rfl), (ae_inb 459 (by decide +kernel) rfl), (ae_inb 69 (by decide +kernel) rfl), (ae_inb 460 (by decide +kernel) rfl), by decide, ⟨by decide +kernel, by decide +kernel, by decide +kernel⟩, rfl, fun h => absurd h.1 (by decide)⟩
theorem mk_9_6 : ae_mok 9 (123, 2, mX7_argumentsOf, 1, "") := ⟨(ae_inb 461 (by decide +kernel) rfl), (ae_inb 389 (by decide +kernel) rfl), (ae_inb 390 (by decide +kernel) rfl), (ae_inb 68 (by decide +kernel) rfl), (ae_inb 391 (by decide +kernel) rfl), by decide, ⟨by decide +kernel, by decide +kernel, by decide +kernel⟩, rfl, fun h => absurd h.1 (by decide)⟩
theorem mk_9_7 : ae_mok 9 (128, 2, mX1_insert, 2, "") := ⟨(ae_inb 462 (by decide +kernel) rfl), (ae_inb 463 (by decide +kernel) rfl), (ae_inb 464 (by decide +kernel) rfl), (ae_inb 69 (by decide +kernel) rfl), (ae_inb 465 (by decide +kernel) rfl), by decide, ⟨by decide +kernel, by decide +kernel, by decide +kernel⟩, rfl, fun h => absurd h.1 (by decide)⟩
theorem mk_9_8 : ae_mok 9 (48, 2, mX8_add, 3, "") := ⟨(ae_inb 469 (by decide +kernel) rfl), (ae_inb 470 (by decide +kernel) rfl), (ae_inb 471 (by decide +kernel) rfl), (ae_inb 71 (by decide +kernel) rfl), (ae_inb 472 (by decide +kernel) rfl), by decide, ⟨by decide +kernel, by decide +kernel, by decide +kernel⟩, rfl, fun h => absurd h.1 (by decide)⟩
theorem mk_9_9 : ae_mok 9 (52, 2, mX9_settle, 1, "") := ⟨(ae_inb 611 (by decide +kernel) rfl), (ae_inb 613 (by decide +kernel) rfl), (ae_inb 8 (by decide +kernel) rfl), (ae_inb 75 (by decide +kernel) rfl), (ae_inb 614 (by decide +kernel) rfl), by decide, ⟨by decide +kernel, by decide +kernel, by decide +kernel⟩, rfl, fun h => absurd h.1 (by decide)⟩
theorem mk_9_10 : ae_mok 9 (74, 2, mX9_firstBranch, 1, "") := ⟨(ae_inb 615 (by decide +kernel) rfl), (ae_inb 617 (by decide +kernel) rfl), (ae_inb 9 (by decide +kernel) rfl), (ae_inb 75 (by decide +kernel) rfl), (ae_inb 618 (by decide +kernel) rfl), by decide, ⟨by decide +kernel, by decide +kernel, by decide +kernel⟩, rfl, fun h => absurd h.1 (by decide)⟩
theorem mk_9_11 : ae_mok 9 (131, 2, mX1_at, 1, "") := ⟨(ae_inb 619 (by decide +kernel) rfl), (ae_inb 381 (by decide +kernel) rfl), (ae_inb 382 (by decide +kernel) rfl), (ae_inb 69 (by decide +kernel) rfl), (ae_inb 383 (by decide +kernel) rfl), by decide, ⟨by decide +kernel, by decide +kernel, by decide +kernel⟩, rfl, fun h => absurd h.1 (by decide)⟩
theorem mk_9_12 : ae_mok 9 (137, 5, mX10_isVariable, 1, "NarrowSolver") := ⟨(ae_int 620 (by decide +kernel)), (ae_inb 408 (by decide +kernel) rfl), (ae_inb 67 (by decide +kernel) rfl), (ae_inb 409 (by decide +kernel) rfl), by decide, ⟨by decide +kernel, by decide +kernel, by decide +kernel⟩⟩
theorem mk_9_13 : ae_mok 9 (146, 2, mX9_shutVariables, 1, "") := ⟨(ae_inb 621 (by decide +kernel) rfl), (ae_inb 623 (by decide +kernel) rfl), (ae_inb 10 (by decide +kernel) rfl), (ae_inb 75 (by decide +kernel) rfl), (ae_inb 624 (by decide +kernel) rfl), by decide, ⟨by decide +kernel, by decide +kernel, by decide +kernel⟩, rfl, fun h => absurd h.1 (by decide)⟩
theorem mk_9_14 : ae_mok 9 (151, 2, mX7_endOfTerm, 2, "") := ⟨(ae_inb 625 (by decide +kernel) rfl), (ae_inb 626 (by decide +kernel) rfl), (ae_inb 627 (by decide +kernel) rfl), (ae_inb 68 (by decide +kernel) rfl), (ae_inb 628 (by decide +kernel) rfl), by decide, ⟨by decide +kernel, by decide +kernel, by decide +kernel⟩, rfl, fun h => absurd h.1 (by decide)⟩
theorem mk_9_15 : ae_mok 9 (78, 4, mJ13_numberOfTrailingZeros_95d88, 1, "") := ⟨(ae_inb 631 (by decide +kernel) rfl), (ae_inb 632 (by decide +kernel) rfl), (ae_inb 88 (by decide +kernel) rfl), (ae_inb 633 (by decide +kernel) rfl), by decide, ⟨by decide +kernel, by decide +kernel, by decide +kernel⟩⟩
theorem mk_9_16 : ae_mok 9 (86, 4, mJ13_bitCount_95d88, 1, "") := ⟨(ae_inb 638 (by decide +kernel) rfl), (ae_inb 639 (by decide +kernel) rfl), (ae_inb 88 (by decide +kernel) rfl), (ae_inb 640 (by decide +kernel) rfl), by decide, ⟨by decide +kernel, by decide +kernel, by decide +kernel⟩⟩
theorem mk_9_17 : ae_mok 9 (92, 2, mX9_placeOf, 1, "") := ⟨(ae_inb 644 (by decide +kernel) rfl), (ae_inb 646 (by decide +kernel) rfl), (ae_inb 11 (by decide +kernel) rfl), (ae_inb 75 (by decide +kernel) rfl), (ae_inb 647 (by decide +kernel) rfl), by decide, ⟨by decide +kernel, by decide +kernel, by decide +kernel⟩, rfl, fun h => absurd h.1 (by decide)⟩
theorem mk_9_18 : ae_mok 9 (56, 2, mX0_isLeaf, 0, "") := ⟨(ae_inb 648 (by decide +kernel) rfl), (ae_inb 649 (by decide +kernel) rfl), (ae_inb 650 (by decide +kernel) rfl), (ae_inb 82 (by decide +kernel) rfl), (ae_inb 651 (by decide +kernel) rfl), by decide, ⟨by decide +kernel, by decide +kernel, by decide +kernel⟩, rfl, fun h => absurd h.1 (by decide)⟩
theorem mk_9_19 : ae_mok 9 (62, 2, mX9_growChild, 2, "") := ⟨(ae_inb 652 (by decide +kernel) rfl), (ae_inb 654 (by decide +kernel) rfl), (ae_inb 12 (by decide +kernel) rfl), (ae_inb 75 (by decide +kernel) rfl), (ae_inb 655 (by decide +kernel) rfl), by decide, ⟨by decide +kernel, by decide +kernel, by decide +kernel⟩, rfl, fun h => absurd h.1 (by decide)⟩
theorem mk_9_20 : ae_mok 9 (105, 2, mX9_fold, 1, "") := ⟨(ae_inb 656 (by decide +kernel) rfl), (ae_inb 658 (by decide +kernel) rfl), (ae_inb 13 (by decide +kernel) rfl), (ae_inb 75 (by decide +kernel) rfl), (ae_inb 659 (by decide +kernel) rfl), by decide, ⟨by decide +kernel, by decide +kernel, by decide +kernel⟩, rfl, fun h => absurd h.1 (by decide)⟩
theorem mk_9_21 : ae_mok 9 (134, 2, mX1_remove, 1, "") := ⟨(ae_inb 660 (by decide +kernel) rfl), (ae_inb 661 (by decide +kernel) rfl), (ae_inb 662 (by decide +kernel) rfl), (ae_inb 69 (by decide +kernel) rfl), (ae_inb 663 (by decide +kernel) rfl), by decide, ⟨by decide +kernel, by decide +kernel, by decide +kernel⟩, rfl, fun h => absurd h.1 (by decide)⟩
theorem mk_9_22 : ae_mok 9 (108, 2, mX9_leastBehind, 2, "") := ⟨(ae_inb 664 (by decide +kernel) rfl), (ae_inb 666 (by decide +kernel) rfl), (ae_inb 14 (by decide +kernel) rfl), (ae_inb 75 (by decide +kernel) rfl), (ae_inb 667 (by decide +kernel) rfl), by decide, ⟨by decide +kernel, by decide +kernel, by decide +kernel⟩, rfl, fun h => absurd h.1 (by decide)⟩
theorem mk_9_23 : ae_mok 9 (155, 2, mX9_standsIn, 2, "") := ⟨(ae_inb 668 (by decide +kernel) rfl), (ae_inb 670 (by decide +kernel) rfl), (ae_inb 15 (by decide +kernel) rfl), (ae_inb 75 (by decide +kernel) rfl), (ae_inb 671 (by decide +kernel) rfl), by decide, ⟨by decide +kernel, by decide +kernel, by decide +kernel⟩, rfl, fun h => absurd h.1 (by decide)⟩
theorem mk_9_24 : ae_mok 9 (112, 2, mX9_rulesWith, 2, "") := ⟨(ae_inb 672 (by decide +kernel) rfl), (ae_inb 674 (by decide +kernel) rfl), (ae_inb 16 (by decide +kernel) rfl), (ae_inb 75 (by decide +kernel) rfl), (ae_inb 675 (by decide +kernel) rfl), by decide, ⟨by decide +kernel, by decide +kernel, by decide +kernel⟩, rfl, fun h => absurd h.1 (by decide)⟩
theorem mk_9_25 : ae_mok 9 (116, 2, mX0_append, 1, "") := ⟨(ae_inb 676 (by decide +kernel) rfl), (ae_inb 677 (by decide +kernel) rfl), (ae_inb 678 (by decide +kernel) rfl), (ae_inb 82 (by decide +kernel) rfl), (ae_inb 679 (by decide +kernel) rfl), by decide, ⟨by decide +kernel, by decide +kernel, by decide +kernel⟩, rfl, fun h => absurd h.1 (by decide)⟩
theorem mk_9 : ∀ x ∈ ae_ml 9, ae_mok 9 x := List.forall_mem_cons.mpr ⟨mk_9_0, List.forall_mem_cons.mpr ⟨mk_9_1, List.forall_mem_cons.mpr ⟨mk_9_2, List.forall_mem_cons.mpr ⟨mk_9_3, List.forall_mem_cons.mpr ⟨mk_9_4, List.forall_mem_cons.mpr ⟨mk_9_5, List.forall_mem_cons.mpr ⟨mk_9_6, List.forall_mem_cons.mpr ⟨mk_9_7, List.forall_mem_cons.mpr ⟨mk_9_8, List.forall_mem_cons.mpr ⟨mk_9_9, List.forall_mem_cons.mpr ⟨mk_9_10, List.forall_mem_cons.mpr ⟨mk_9_11, List.forall_mem_cons.mpr ⟨mk_9_12, List.forall_mem_cons.mpr ⟨mk_9_13, List.forall_mem_cons.mpr ⟨mk_9_14, List.forall_mem_cons.mpr ⟨mk_9_15, List.forall_mem_cons.mpr ⟨mk_9_16, List.forall_mem_cons.mpr ⟨mk_9_17, List.forall_mem_cons.mpr ⟨mk_9_18, List.forall_mem_cons.mpr ⟨mk_9_19, List.forall_mem_cons.mpr ⟨mk_9_20, List.forall_mem_cons.mpr ⟨mk_9_21, List.forall_mem_cons.mpr ⟨mk_9_22, List.forall_mem_cons.mpr ⟨mk_9_23, List.forall_mem_cons.mpr ⟨mk_9_24, List.forall_mem_cons.mpr ⟨mk_9_25, fun _ h => absurd h List.not_mem_nil⟩⟩⟩⟩⟩⟩⟩⟩⟩⟩⟩⟩⟩⟩⟩⟩⟩⟩⟩⟩⟩⟩⟩⟩⟩⟩
theorem mk_10_0 : ae_mok 10 (1, 6, mX0_isLeaf, 0, "") := (ae_inb 95 (by decide +kernel) rfl)
theorem mk_10_1 : ae_mok 10 (9, 1, mX7_init, 0, "NarrowSolver") := ⟨(ae_int 100 (by decide +kernel)), (ae_inb 101 (by decide +kernel) rfl), (ae_inb 68 (by decide +kernel) rfl), (ae_inb 102 (by decide +kernel) rfl), rfl, rfl, by decide, ⟨by decide +kernel, by decide +kernel, by decide +kernel⟩⟩
theorem mk_10_2 : ae_mok 10 (18, 0, mX1_init, 1, "") := ⟨(ae_inb 119 (by decide +kernel) rfl), (ae_inb 120 (by decide +kernel) rfl), (ae_inb 69 (by decide +kernel) rfl), (ae_inb 121 (by decide +kernel) rfl), rfl, rfl, by decide, ⟨by decide +kernel, by decide +kernel, by decide +kernel⟩, fun h => absurd h.1 (by decide)⟩
theorem mk_10_3 : ae_mok 10 (27, 0, mX5_init, 1, "") := ⟨(ae_inb 137 (by decide +kernel) rfl), (ae_inb 138 (by decide +kernel) rfl), (ae_inb 70 (by decide +kernel) rfl), (ae_inb 139 (by decide +kernel) rfl), rfl, rfl, by decide, ⟨by decide +kernel, by decide +kernel, by decide +kernel⟩, fun h => absurd h.1 (by decide)⟩
theorem mk_10_4 : ae_mok 10 (36, 0, mX6_init, 2, "") := ⟨(ae_inb 225 (by decide +kernel) rfl), (ae_inb 226 (by decide +kernel) rfl), (ae_inb 76 (by decide +kernel) rfl), (ae_inb 227 (by decide +kernel) rfl), rfl, rfl, by decide, ⟨by decide +kernel, by decide +kernel, by decide +kernel⟩, fun h => absurd h.1 (by decide)⟩
theorem mk_10_5 : ae_mok 10 (47, 2, mX1_empty, 0, "") := ⟨(ae_inb 340 (by decide +kernel) rfl), (ae_inb 341 (by decide +kernel) rfl), (ae_inb 342 (by decide +kernel) rfl), (ae_inb 69 (by decide +kernel) rfl), (ae_inb 343 (by decide +kernel) rfl), by decide, ⟨by decide +kernel, by decide +kernel, by decide +kernel⟩, rfl, fun h => absurd h.1 (by decide)⟩
theorem mk_10_6 : ae_mok 10 (50, 2, mX5_empty, 0, "") := ⟨(ae_inb 344 (by decide +kernel) rfl), (ae_inb 345 (by decide +kernel) rfl), (ae_inb 346 (by decide +kernel) rfl), (ae_inb 70 (by decide +kernel) rfl), (ae_inb 347 (by decide +kernel) rfl), by decide, ⟨by decide +kernel, by decide +kernel, by decide +kernel⟩, rfl, fun h => absurd h.1 (by decide)⟩
theorem mk_10_7 : ae_mok 10 (51, 2, mX6_empty, 0, "") := ⟨(ae_inb 348 (by decide +kernel) rfl), (ae_inb 349 (by decide +kernel) rfl), (ae_inb 350 (by decide +kernel) rfl), (ae_inb 76 (by decide +kernel) rfl), (ae_inb 351 (by decide +kernel) rfl), by decide, ⟨by decide +kernel, by decide +kernel, by decide +kernel⟩, rfl, fun h => absurd h.1 (by decide)⟩
theorem mk_10_8 : ae_mok 10 (52, 2, mX7_add, 2, "") := ⟨(ae_inb 360 (by decide +kernel) rfl), (ae_inb 361 (by decide +kernel) rfl), (ae_inb 362 (by decide +kernel) rfl), (ae_inb 68 (by decide +kernel) rfl), (ae_inb 363 (by decide +kernel) rfl), by decide, ⟨by decide +kernel, by decide +kernel, by decide +kernel⟩, rfl, fun h => absurd h.1 (by decide)⟩
theorem mk_10_9 : ae_mok 10 (57, 2, mX1_put, 1, "") := ⟨(ae_inb 368 (by decide +kernel) rfl), (ae_inb 369 (by decide +kernel) rfl), (ae_inb 370 (by decide +kernel) rfl), (ae_inb 69 (by decide +kernel) rfl), (ae_inb 371 (by decide +kernel) rfl), by decide, ⟨by decide +kernel, by decide +kernel, by decide +kernel⟩, rfl, fun h => absurd h.1 (by decide)⟩
theorem mk_10_10 : ae_mok 10 (60, 2, mX10_endOnTape, 1, "") := ⟨(ae_inb 376 (by decide +kernel) rfl), (ae_inb 378 (by decide +kernel) rfl), (ae_inb 0 (by decide +kernel) rfl), (ae_inb 67 (by decide +kernel) rfl), (ae_inb 379 (by decide +kernel) rfl), by decide, ⟨by decide +kernel, by decide +kernel, by decide +kernel⟩, rfl, fun h => absurd h.1 (by decide)⟩
theorem mk_10_11 : ae_mok 10 (106, 2, mX1_at, 1, "") := ⟨(ae_inb 380 (by decide +kernel) rfl), (ae_inb 381 (by decide +kernel) rfl), (ae_inb 382 (by decide +kernel) rfl), (ae_inb 69 (by decide +kernel) rfl), (ae_inb 383 (by decide +kernel) rfl), by decide, ⟨by decide +kernel, by decide +kernel, by decide +kernel⟩, rfl, fun h => absurd h.1 (by decide)⟩
theorem mk_10_12 : ae_mok 10 (158, 2, mX7_has, 1, "") := ⟨(ae_inb 384 (by decide +kernel) rfl), (ae_inb 385 (by decide +kernel) rfl), (ae_inb 386 (by decide +kernel) rfl), (ae_inb 68 (by decide +kernel) rfl), (ae_inb 387 (by decide +kernel) rfl), by decide, ⟨by decide +kernel, by decide +kernel, by decide +kernel⟩, rfl, fun h => absurd h.1 (by decide)⟩
theorem mk_10_13 : ae_mok 10 (161, 2, mX7_argumentsOf, 1, "") := ⟨(ae_inb 388 (by decide +kernel) rfl), (ae_inb 389 (by decide +kernel) rfl), (ae_inb 390 (by decide +kernel) rfl), (ae_inb 68 (by decide +kernel) rfl), (ae_inb 391 (by decide +kernel) rfl), by decide, ⟨by decide +kernel, by decide +kernel, by decide +kernel⟩, rfl, fun h => absurd h.1 (by decide)⟩
theorem mk_10_14 : ae_mok 10 (64, 2, mX10_faultOfRule, 1, "") := ⟨(ae_inb 392 (by decide +kernel) rfl), (ae_inb 394 (by decide +kernel) rfl), (ae_inb 1 (by decide +kernel) rfl), (ae_inb 67 (by decide +kernel) rfl), (ae_inb 395 (by decide +kernel) rfl), by decide, ⟨by decide +kernel, by decide +kernel, by decide +kernel⟩, rfl, fun h => absurd h.1 (by decide)⟩
theorem mk_10_15 : ae_mok 10 (108, 2, mX7_isFunction, 1, "") := ⟨(ae_inb 396 (by decide +kernel) rfl), (ae_inb 397 (by decide +kernel) rfl), (ae_inb 398 (by decide +kernel) rfl), (ae_inb 68 (by decide +kernel) rfl), (ae_inb 399 (by decide +kernel) rfl), by decide, ⟨by decide +kernel, by decide +kernel, by decide +kernel⟩, rfl, fun h => absurd h.1 (by decide)⟩
theorem mk_10_16 : ae_mok 10 (164, 2, mX10_faultOfVariables, 1, "") := ⟨(ae_inb 400 (by decide +kernel) rfl), (ae_inb 402 (by decide +kernel) rfl), (ae_inb 2 (by decide +kernel) rfl), (ae_inb 67 (by decide +kernel) rfl), (ae_inb 403 (by decide +kernel) rfl), by decide, ⟨by decide +kernel, by decide +kernel, by decide +kernel⟩, rfl, fun h => absurd h.1 (by decide)⟩
theorem mk_10_17 : ae_mok 10 (167, 4, mX10_variableBit, 1, "") := ⟨(ae_inb 404 (by decide +kernel) rfl), (ae_inb 405 (by decide +kernel) rfl), (ae_inb 67 (by decide +kernel) rfl), (ae_inb 406 (by decide +kernel) rfl), by decide, ⟨by decide +kernel, by decide +kernel, by decide +kernel⟩⟩
theorem mk_10_18 : ae_mok 10 (170, 4, mX10_isVariable, 1, "") := ⟨(ae_inb 407 (by decide +kernel) rfl), (ae_inb 408 (by decide +kernel) rfl), (ae_inb 67 (by decide +kernel) rfl), (ae_inb 409 (by decide +kernel) rfl), by decide, ⟨by decide +kernel, by decide +kernel, by decide +kernel⟩⟩
theorem mk_10_19 : ae_mok 10 (67, 2, mX5_add, 2, "") := ⟨(ae_inb 410 (by decide +kernel) rfl), (ae_inb 411 (by decide +kernel) rfl), (ae_inb 412 (by decide +kernel) rfl), (ae_inb 70 (by decide +kernel) rfl), (ae_inb 413 (by decide +kernel) rfl), by decide, ⟨by decide +kernel, by decide +kernel, by decide +kernel⟩, rfl, fun h => absurd h.1 (by decide)⟩
theorem mk_10_20 : ae_mok 10 (70, 2, mX10_equationsOnTape, 0, "") := ⟨(ae_inb 684 (by decide +kernel) rfl), (ae_inb 686 (by decide +kernel) rfl), (ae_inb 17 (by decide +kernel) rfl), (ae_inb 67 (by decide +kernel) rfl), (ae_inb 687 (by decide +kernel) rfl), by decide, ⟨by decide +kernel, by decide +kernel, by decide +kernel⟩, rfl, fun h => absurd h.1 (by decide)⟩
theorem mk_10_21 : ae_mok 10 (74, 2, mX6_begin, 2, "") := ⟨(ae_inb 688 (by decide +kernel) rfl), (ae_inb 689 (by decide +kernel) rfl), (ae_inb 690 (by decide +kernel) rfl), (ae_inb 76 (by decide +kernel) rfl), (ae_inb 691 (by decide +kernel) rfl), by decide, ⟨by decide +kernel, by decide +kernel, by decide +kernel⟩, rfl, fun h => absurd h.1 (by decide)⟩
theorem mk_10_22 : ae_mok 10 (85, 2, mX6_step, 0, "") := ⟨(ae_inb 718 (by decide +kernel) rfl), (ae_inb 719 (by decide +kernel) rfl), (ae_inb 720 (by decide +kernel) rfl), (ae_inb 76 (by decide +kernel) rfl), (ae_inb 721 (by decide +kernel) rfl), by decide, ⟨by decide +kernel, by decide +kernel, by decide +kernel⟩, rfl, fun h => absurd h.1 (by decide)⟩
theorem mk_10_23 : ae_mok 10 (91, 2, mX3_at, 1, "") := ⟨(ae_inb 815 (by decide +kernel) rfl), (ae_inb 816 (by decide +kernel) rfl), (ae_inb 817 (by decide +kernel) rfl), (ae_inb 77 (by decide +kernel) rfl), (ae_inb 818 (by decide +kernel) rfl), by decide, ⟨by decide +kernel, by decide +kernel, by decide +kernel⟩, rfl, fun h => absurd h.1 (by decide)⟩
theorem mk_10_24 : ae_mok 10 (103, 2, mX7_endOfTerm, 2, "") := ⟨(ae_inb 819 (by decide +kernel) rfl), (ae_inb 626 (by decide +kernel) rfl), (ae_inb 627 (by decide +kernel) rfl), (ae_inb 68 (by decide +kernel) rfl), (ae_inb 628 (by decide +kernel) rfl), by decide, ⟨by decide +kernel, by decide +kernel, by decide +kernel⟩, rfl, fun h => absurd h.1 (by decide)⟩
theorem mk_10_25 : ae_mok 10 (112, 2, mX5_treeOf, 1, "") := ⟨(ae_inb 824 (by decide +kernel) rfl), (ae_inb 738 (by decide +kernel) rfl), (ae_inb 739 (by decide +kernel) rfl), (ae_inb 70 (by decide +kernel) rfl), (ae_inb 740 (by decide +kernel) rfl), by decide, ⟨by decide +kernel, by decide +kernel, by decide +kernel⟩, rfl, fun h => absurd h.1 (by decide)⟩
theorem mk_10_26 : ae_mok 10 (116, 2, mX8_at, 1, "") := ⟨(ae_inb 825 (by decide +kernel) rfl), (ae_inb 742 (by decide +kernel) rfl), (ae_inb 743 (by decide +kernel) rfl), (ae_inb 71 (by decide +kernel) rfl), (ae_inb 744 (by decide +kernel) rfl), by decide, ⟨by decide +kernel, by decide +kernel, by decide +kernel⟩, rfl, fun h => absurd h.1 (by decide)⟩
theorem mk_10_27 : ae_mok 10 (121, 2, mX0_isLeaf, 0, "") := ⟨(ae_inb 826 (by decide +kernel) rfl), (ae_inb 649 (by decide +kernel) rfl), (ae_inb 650 (by decide +kernel) rfl), (ae_inb 82 (by decide +kernel) rfl), (ae_inb 651 (by decide +kernel) rfl), by decide, ⟨by decide +kernel, by decide +kernel, by decide +kernel⟩, rfl, fun h => absurd h.1 (by decide)⟩
theorem mk_10_28 : ae_mok 10 (136, 2, mX0_numberOfChild, 1, "") := ⟨(ae_inb 827 (by decide +kernel) rfl), (ae_inb 828 (by decide +kernel) rfl), (ae_inb 829 (by decide +kernel) rfl), (ae_inb 82 (by decide +kernel) rfl), (ae_inb 830 (by decide +kernel) rfl), by decide, ⟨by decide +kernel, by decide +kernel, by decide +kernel⟩, rfl, fun h => absurd h.1 (by decide)⟩
theorem mk_10 : ∀ x ∈ ae_ml 10, ae_mok 10 x := List.forall_mem_cons.mpr ⟨mk_10_0, List.forall_mem_cons.mpr ⟨mk_10_1, List.forall_mem_cons.mpr ⟨mk_10_2, List.forall_mem_cons.mpr ⟨mk_10_3, List.forall_mem_cons.mpr ⟨mk_10_4, List.forall_mem_cons.mpr ⟨mk_10_5, List.forall_mem_cons.mpr ⟨mk_10_6, List.forall_mem_cons.mpr ⟨mk_10_7, List.forall_mem_cons.mpr ⟨mk_10_8, List.forall_mem_cons.mpr ⟨mk_10_9, List.forall_mem_cons.mpr ⟨mk_10_10, List.forall_mem_cons.mpr ⟨mk_10_11, List.forall_mem_cons.mpr ⟨mk_10_12, List.forall_mem_cons.mpr ⟨mk_10_13, List.forall_mem_cons.mpr ⟨mk_10_14, List.forall_mem_cons.mpr ⟨mk_10_15, List.forall_mem_cons.mpr ⟨mk_10_16, List.forall_mem_cons.mpr ⟨mk_10_17, List.forall_mem_cons.mpr ⟨mk_10_18, List.forall_mem_cons.mpr ⟨mk_10_19, List.forall_mem_cons.mpr ⟨mk_10_20, List.forall_mem_cons.mpr ⟨mk_10_21, List.forall_mem_cons.mpr ⟨mk_10_22, List.forall_mem_cons.mpr ⟨mk_10_23, List.forall_mem_cons.mpr ⟨mk_10_24, List.forall_mem_cons.mpr ⟨mk_10_25, List.forall_mem_cons.mpr ⟨mk_10_26, List.forall_mem_cons.mpr ⟨mk_10_27, List.forall_mem_cons.mpr ⟨mk_10_28, fun _ h => absurd h List.not_mem_nil⟩⟩⟩⟩⟩⟩⟩⟩⟩⟩⟩⟩⟩⟩⟩⟩⟩⟩⟩⟩⟩⟩⟩⟩⟩⟩⟩⟩⟩
theorem mk_11_0 : ae_mok 11 (1, 6, mX0_isLeaf, 0, "") := (ae_inb 844 (by decide +kernel) rfl)
theorem mk_11_1 : ae_mok 11 (120, 2, mX11_forget, 0, "") := ⟨(ae_inb 1012 (by decide +kernel) rfl), (ae_inb 1014 (by decide +kernel) rfl), (ae_inb 32 (by decide +kernel) rfl), (ae_inb 79 (by decide +kernel) rfl), (ae_inb 1015 (by decide +kernel) rfl), by decide, ⟨by decide +kernel, by decide +kernel, by decide +kernel⟩, rfl, fun h => absurd h.1 (by decide)⟩
theorem mk_11_2 : ae_mok 11 (141, 4, mX11_in, 3, "") := ⟨(ae_inb 1020 (by decide +kernel) rfl), (ae_inb 1021 (by decide +kernel) rfl), (ae_inb 79 (by decide +kernel) rfl), (ae_inb 1022 (by decide +kernel) rfl), by decide, ⟨by decide +kernel, by decide +kernel, by decide +kernel⟩⟩
theorem mk_11_3 : ae_mok 11 (155, 2, mX11_readTerm, 1, "") := ⟨(ae_inb 1032 (by decide +kernel) rfl), (ae_inb 1034 (by decide +kernel) rfl), (ae_inb 33 (by decide +kernel) rfl), (ae_inb 79 (by decide +kernel) rfl), (ae_inb 1035 (by decide +kernel) rfl), by decide, ⟨by decide +kernel, by decide +kernel, by decide +kernel⟩, rfl, fun h => absurd h.1 (by decide)⟩
theorem mk_11_4 : ae_mok 11 (151, 2, mX11_isKnown, 1, "") := ⟨(ae_inb 1036 (by decide +kernel) rfl), (ae_inb 1038 (by decide +kernel) rfl), (ae_inb 34 (by decide +kernel) rfl), (ae_inb 79 (by decide +kernel) rfl), (ae_inb 1039 (by decide +kernel) rfl), by decide, ⟨by decide +kernel, by decide +kernel, by decide +kernel⟩, rfl, fun h => absurd h.1 (by decide)⟩
theorem mk_11_5 : ae_mok 11 (147, 2, mX11_argumentsOf, 1, "") := ⟨(ae_inb 1040 (by decide +kernel) rfl), (ae_inb 1042 (by decide +kernel) rfl), (ae_inb 35 (by decide +kernel) rfl), (ae_inb 79 (by decide +kernel) rfl), (ae_inb 1043 (by decide +kernel) rfl), by decide, ⟨by decide +kernel, by decide +kernel, by decide +kernel⟩, rfl, fun h => absurd h.1 (by decide)⟩
theorem mk_11_6 : ae_mok 11 (158, 2, mX11_faultOfTerms, 1, "") := ⟨(ae_inb 1044 (by decide +kernel) rfl), (ae_inb 1046 (by decide +kernel) rfl), (ae_inb 36 (by decide +kernel) rfl), (ae_inb 79 (by decide +kernel) rfl), (ae_inb 1047 (by decide +kernel) rfl), by decide, ⟨by decide +kernel, by decide +kernel, by decide +kernel⟩, rfl, fun h => absurd h.1 (by decide)⟩
theorem mk_11_7 : ae_mok 11 (161, 2, mX11_layTree, 1, "") := ⟨(ae_inb 1048 (by decide +kernel) rfl), (ae_inb 1050 (by decide +kernel) rfl), (ae_inb 37 (by decide +kernel) rfl), (ae_inb 79 (by decide +kernel) rfl), (ae_inb 1051 (by decide +kernel) rfl), by decide, ⟨by decide +kernel, by decide +kernel, by decide +kernel⟩, rfl, fun h => absurd h.1 (by decide)⟩
theorem mk_11_8 : ae_mok 11 (189, 2, mX11_rulesOf, 1, "") := ⟨(ae_inb 1052 (by decide +kernel) rfl), (ae_inb 1054 (by decide +kernel) rfl), (ae_inb 38 (by decide +kernel) rfl), (ae_inb 79 (by decide +kernel) rfl), (ae_inb 1055 (by decide +kernel) rfl), by decide, ⟨by decide +kernel, by decide +kernel, by decide +kernel⟩, rfl, fun h => absurd h.1 (by decide)⟩
theorem mk_11_9 : ae_mok 11 (193, 2, mX11_begin, 2, "") := ⟨(ae_inb 1056 (by decide +kernel) rfl), (ae_inb 1058 (by decide +kernel) rfl), (ae_inb 39 (by decide +kernel) rfl), (ae_inb 79 (by decide +kernel) rfl), (ae_inb 1059 (by decide +kernel) rfl), by decide, ⟨by decide +kernel, by decide +kernel, by decide +kernel⟩, rfl, fun h => absurd h.1 (by decide)⟩
theorem mk_11_10 : ae_mok 11 (197, 2, mX11_later, 4, "") := ⟨(ae_inb 1060 (by decide +kernel) rfl), (ae_inb 1062 (by decide +kernel) rfl), (ae_inb 40 (by decide +kernel) rfl), (ae_inb 79 (by decide +kernel) rfl), (ae_inb 1063 (by decide +kernel) rfl), by decide, ⟨by decide +kernel, by decide +kernel, by decide +kernel⟩, rfl, fun h => absurd h.1 (by decide)⟩
theorem mk_11_11 : ae_mok 11 (201, 2, mX11_isLeaf, 2, "") := ⟨(ae_inb 1064 (by decide +kernel) rfl), (ae_inb 1066 (by decide +kernel) rfl), (ae_inb 41 (by decide +kernel) rfl), (ae_inb 79 (by decide +kernel) rfl), (ae_inb 1067 (by decide +kernel) rfl), by decide, ⟨by decide +kernel, by decide +kernel, by decide +kernel⟩, rfl, fun h => absurd h.1 (by decide)⟩
theorem mk_11_12 : ae_mok 11 (168, 2, mX11_firstOf, 1, "") := ⟨(ae_inb 1068 (by decide +kernel) rfl), (ae_inb 1070 (by decide +kernel) rfl), (ae_inb 42 (by decide +kernel) rfl), (ae_inb 79 (by decide +kernel) rfl), (ae_inb 1071 (by decide +kernel) rfl), by decide, ⟨by decide +kernel, by decide +kernel, by decide +kernel⟩, rfl, fun h => absurd h.1 (by decide)⟩
theorem mk_11_13 : ae_mok 11 (172, 2, mX11_branchOf, 3, "") := ⟨(ae_inb 1072 (by decide +kernel) rfl), (ae_inb 1074 (by decide +kernel) rfl), (ae_inb 43 (by decide +kernel) rfl), (ae_inb 79 (by decide +kernel) rfl), (ae_inb 1075 (by decide +kernel) rfl), by decide, ⟨by decide +kernel, by decide +kernel, by decide +kernel⟩, rfl, fun h => absurd h.1 (by decide)⟩
theorem mk_11_14 : ae_mok 11 (176, 2, mX11_locate, 5, "") := ⟨(ae_inb 1076 (by decide +kernel) rfl), (ae_inb 1078 (by decide +kernel) rfl), (ae_inb 44 (by decide +kernel) rfl), (ae_inb 79 (by decide +kernel) rfl), (ae_inb 1079 (by decide +kernel) rfl), by decide, ⟨by decide +kernel, by decide +kernel, by decide +kernel⟩, rfl, fun h => absurd h.1 (by decide)⟩
theorem mk_11_15 : ae_mok 11 (164, 2, mX11_endOf, 2, "") := ⟨(ae_inb 1080 (by decide +kernel) rfl), (ae_inb 1082 (by decide +kernel) rfl), (ae_inb 45 (by decide +kernel) rfl), (ae_inb 79 (by decide +kernel) rfl), (ae_inb 1083 (by decide +kernel) rfl), by decide, ⟨by decide +kernel, by decide +kernel, by decide +kernel⟩, rfl, fun h => absurd h.1 (by decide)⟩
theorem mk_11_16 : ae_mok 11 (205, 2, mX11_placeOf, 2, "") := ⟨(ae_inb 1084 (by decide +kernel) rfl), (ae_inb 1086 (by decide +kernel) rfl), (ae_inb 46 (by decide +kernel) rfl), (ae_inb 79 (by decide +kernel) rfl), (ae_inb 1087 (by decide +kernel) rfl), by decide, ⟨by decide +kernel, by decide +kernel, by decide +kernel⟩, rfl, fun h => absurd h.1 (by decide)⟩
theorem mk_11_17 : ae_mok 11 (208, 2, mX11_layBranch, 4, "") := ⟨(ae_inb 1088 (by decide +kernel) rfl), (ae_inb 1090 (by decide +kernel) rfl), (ae_inb 47 (by decide +kernel) rfl), (ae_inb 79 (by decide +kernel) rfl), (ae_inb 1091 (by decide +kernel) rfl), by decide, ⟨by decide +kernel, by decide +kernel, by decide +kernel⟩, rfl, fun h => absurd h.1 (by decide)⟩
theorem mk_11_18 : ae_mok 11 (211, 2, mX11_withAt, 5, "") := ⟨(ae_inb 1092 (by decide +kernel) rfl), (ae_inb 1094 (by decide +kernel) rfl), (ae_inb 48 (by decide +kernel) rfl), (ae_inb 79 (by decide +kernel) rfl), (ae_inb 1095 (by decide +kernel) rfl), by decide, ⟨by decide +kernel, by decide +kernel, by decide +kernel⟩, rfl, fun h => absurd h.1 (by decide)⟩
theorem mk_11_19 : ae_mok 11 (215, 2, mX11_refine, 5, "") := ⟨(ae_inb 1096 (by decide +kernel) rfl), (ae_inb 1098 (by decide +kernel) rfl), (ae_inb 49 (by decide +kernel) rfl), (ae_inb 79 (by decide +kernel) rfl), (ae_inb 1099 (by decide +kernel) rfl), by decide, ⟨by decide +kernel, by decide +kernel, by decide +kernel⟩, rfl, fun h => absurd h.1 (by decide)⟩
theorem mk_11_20 : ae_mok 11 (219, 2, mX11_beginNew, 0, "") := ⟨(ae_inb 1108 (by decide +kernel) rfl), (ae_inb 1110 (by decide +kernel) rfl), (ae_inb 50 (by decide +kernel) rfl), (ae_inb 79 (by decide +kernel) rfl), (ae_inb 1111 (by decide +kernel) rfl), by decide, ⟨by decide +kernel, by decide +kernel, by decide +kernel⟩, rfl, fun h => absurd h.1 (by decide)⟩
theorem mk_11_21 : ae_mok 11 (222, 2, mX11_give, 1, "") := ⟨(ae_inb 1112 (by decide +kernel) rfl), (ae_inb 1114 (by decide +kernel) rfl), (ae_inb 51 (by decide +kernel) rfl), (ae_inb 79 (by decide +kernel) rfl), (ae_inb 1115 (by decide +kernel) rfl), by decide, ⟨by decide +kernel, by decide +kernel, by decide +kernel⟩, rfl, fun h => absurd h.1 (by decide)⟩
theorem mk_11_22 : ae_mok 11 (232, 2, mX11_keep, 1, "") := ⟨(ae_inb 1116 (by decide +kernel) rfl), (ae_inb 1118 (by decide +kernel) rfl), (ae_inb 52 (by decide +kernel) rfl), (ae_inb 79 (by decide +kernel) rfl), (ae_inb 1119 (by decide +kernel) rfl), by decide, ⟨by decide +kernel, by decide +kernel, by decide +kernel⟩, rfl, fun h => absurd h.1 (by decide)⟩
theorem mk_11_23 : ae_mok 11 (295, 2, mX11_take, 0, "") := ⟨(ae_inb 1124 (by decide +kernel) rfl), (ae_inb 1126 (by decide +kernel) rfl), (ae_inb 53 (by decide +kernel) rfl), (ae_inb 79 (by decide +kernel) rfl), (ae_inb 1127 (by decide +kernel) rfl), by decide, ⟨by decide +kernel, by decide +kernel, by decide +kernel⟩, rfl, fun h => absurd h.1 (by decide)⟩
theorem mk_11_24 : ae_mok 11 (298, 2, mX11_step, 0, "") := ⟨(ae_inb 1128 (by decide +kernel) rfl), (ae_inb 1130 (by decide +kernel) rfl), (ae_inb 54 (by decide +kernel) rfl), (ae_inb 79 (by decide +kernel) rfl), (ae_inb 1131 (by decide +kernel) rfl), by decide, ⟨by decide +kernel, by decide +kernel, by decide +kernel⟩, rfl, fun h => absurd h.1 (by decide)⟩
theorem mk_11_25 : ae_mok 11 (254, 2, mX11_isFunctionAt, 1, "") := ⟨(ae_inb 1132 (by decide +kernel) rfl), (ae_inb 1134 (by decide +kernel) rfl), (ae_inb 55 (by decide +kernel) rfl), (ae_inb 79 (by decide +kernel) rfl), (ae_inb 1135 (by decide +kernel) rfl), by decide, ⟨by decide +kernel, by decide +kernel, by decide +kernel⟩, rfl, fun h => absurd h.1 (by decide)⟩
theorem mk_11_26 : ae_mok 11 (263, 2, mX11_workOn, 1, "") := ⟨(ae_inb 1136 (by decide +kernel) rfl), (ae_inb 1138 (by decide +kernel) rfl), (ae_inb 56 (by decide +kernel) rfl), (ae_inb 79 (by decide +kernel) rfl), (ae_inb 1139 (by decide +kernel) rfl), by decide, ⟨by decide +kernel, by decide +kernel, by decide +kernel⟩, rfl, fun h => absurd h.1 (by decide)⟩
theorem mk_11_27 : ae_mok 11 (288, 2, mX11_part, 4, "") := ⟨(ae_inb 1140 (by decide +kernel) rfl), (ae_inb 1142 (by decide +kernel) rfl), (ae_inb 57 (by decide +kernel) rfl), (ae_inb 79 (by decide +kernel) rfl), (ae_inb 1143 (by decide +kernel) rfl), by decide, ⟨by decide +kernel, by decide +kernel, by decide +kernel⟩, rfl, fun h => absurd h.1 (by decide)⟩
theorem mk_11_28 : ae_mok 11 (285, 2, mX11_bindTo, 1, "") := ⟨(ae_inb 1144 (by decide +kernel) rfl), (ae_inb 1146 (by decide +kernel) rfl), (ae_inb 58 (by decide +kernel) rfl), (ae_inb 79 (by decide +kernel) rfl), (ae_inb 1147 (by decide +kernel) rfl), by decide, ⟨by decide +kernel, by decide +kernel, by decide +kernel⟩, rfl, fun h => absurd h.1 (by decide)⟩
theorem mk_11_29 : ae_mok 11 (266, 2, mX11_giveAll, 3, "") := ⟨(ae_inb 1148 (by decide +kernel) rfl), (ae_inb 1150 (by decide +kernel) rfl), (ae_inb 59 (by decide +kernel) rfl), (ae_inb 79 (by decide +kernel) rfl), (ae_inb 1151 (by decide +kernel) rfl), by decide, ⟨by decide +kernel, by decide +kernel, by decide +kernel⟩, rfl, fun h => absurd h.1 (by decide)⟩
theorem mk_11_30 : ae_mok 11 (270, 2, mX11_giveAnswers, 1, "") := ⟨(ae_inb 1152 (by decide +kernel) rfl), (ae_inb 1154 (by decide +kernel) rfl), (ae_inb 60 (by decide +kernel) rfl), (ae_inb 79 (by decide +kernel) rfl), (ae_inb 1155 (by decide +kernel) rfl), by decide, ⟨by decide +kernel, by decide +kernel, by decide +kernel⟩, rfl, fun h => absurd h.1 (by decide)⟩
theorem mk_11_31 : ae_mok 11 (260, 2, mX11_giveAnswer, 1, "") := ⟨(ae_inb 1156 (by decide +kernel) rfl), (ae_inb 1158 (by decide +kernel) rfl), (ae_inb 61 (by decide +kernel) rfl), (ae_inb 79 (by decide +kernel) rfl), (ae_inb 1159 (by decide +kernel) rfl), by decide, ⟨by decide +kernel, by decide +kernel, by decide +kernel⟩, rfl, fun h => absurd h.1 (by decide)⟩
theorem mk_11_32 : ae_mok 11 (292, 2, mX11_use, 2, "") := ⟨(ae_inb 1160 (by decide +kernel) rfl), (ae_inb 1162 (by decide +kernel) rfl), (ae_inb 62 (by decide +kernel) rfl), (ae_inb 79 (by decide +kernel) rfl), (ae_inb 1163 (by decide +kernel) rfl), by decide, ⟨by decide +kernel, by decide +kernel, by decide +kernel⟩, rfl, fun h => absurd h.1 (by decide)⟩
theorem mk_11_33 : ae_mok 11 (273, 2, mX11_bindSide, 2, "") := ⟨(ae_inb 1164 (by decide +kernel) rfl), (ae_inb 1166 (by decide +kernel) rfl), (ae_inb 63 (by decide +kernel) rfl), (ae_inb 79 (by decide +kernel) rfl), (ae_inb 1167 (by decide +kernel) rfl), by decide, ⟨by decide +kernel, by decide +kernel, by decide +kernel⟩, rfl, fun h => absurd h.1 (by decide)⟩
theorem mk_11_34 : ae_mok 11 (281, 2, mX11_stands, 2, "") := ⟨(ae_inb 1168 (by decide +kernel) rfl), (ae_inb 1170 (by decide +kernel) rfl), (ae_inb 64 (by decide +kernel) rfl), (ae_inb 79 (by decide +kernel) rfl), (ae_inb 1171 (by decide +kernel) rfl), by decide, ⟨by decide +kernel, by decide +kernel, by decide +kernel⟩, rfl, fun h => absurd h.1 (by decide)⟩
theorem mk_11_35 : ae_mok 11 (277, 2, mX11_giveArguments, 4, "") := ⟨(ae_inb 1172 (by decide +kernel) rfl), (ae_inb 1174 (by decide +kernel) rfl), (ae_inb 65 (by decide +kernel) rfl), (ae_inb 79 (by decide +kernel) rfl), (ae_inb 1175 (by decide +kernel) rfl), by decide, ⟨by decide +kernel, by decide +kernel, by decide +kernel⟩, rfl, fun h => absurd h.1 (by decide)⟩
theorem mk_11 : ∀ x ∈ ae_ml 11, ae_mok 11 x := List.forall_mem_cons.mpr ⟨mk_11_0, List.forall_mem_cons.mpr ⟨mk_11_1, List.forall_mem_cons.mpr ⟨mk_11_2, List.forall_mem_cons.mpr ⟨mk_11_3, List.forall_mem_cons.mpr ⟨mk_11_4, List.forall_mem_cons.mpr ⟨mk_11_5, List.forall_mem_cons.mpr ⟨mk_11_6, List.forall_mem_cons.mpr ⟨mk_11_7, List.forall_mem_cons.mpr ⟨mk_11_8, List.forall_mem_cons.mpr ⟨mk_11_9, List.forall_mem_cons.mpr ⟨mk_11_10, List.forall_mem_cons.mpr ⟨mk_11_11, List.forall_mem_cons.mpr ⟨mk_11_12, List.forall_mem_cons.mpr ⟨mk_11_13, List.forall_mem_cons.mpr ⟨mk_11_14, List.forall_mem_cons.mpr ⟨mk_11_15, List.forall_mem_cons.mpr ⟨mk_11_16, List.forall_mem_cons.mpr ⟨mk_11_17, List.forall_mem_cons.mpr ⟨mk_11_18, List.forall_mem_cons.mpr ⟨mk_11_19, List.forall_mem_cons.mpr ⟨mk_11_20, List.forall_mem_cons.mpr ⟨mk_11_21, List.forall_mem_cons.mpr ⟨mk_11_22, List.forall_mem_cons.mpr ⟨mk_11_23, List.forall_mem_cons.mpr ⟨mk_11_24, List.forall_mem_cons.mpr ⟨mk_11_25, List.forall_mem_cons.mpr ⟨mk_11_26, List.forall_mem_cons.mpr ⟨mk_11_27, List.forall_mem_cons.mpr ⟨mk_11_28, List.forall_mem_cons.mpr ⟨mk_11_29, List.forall_mem_cons.mpr ⟨mk_11_30, List.forall_mem_cons.mpr ⟨mk_11_31, List.forall_mem_cons.mpr ⟨mk_11_32, List.forall_mem_cons.mpr ⟨mk_11_33, List.forall_mem_cons.mpr ⟨mk_11_34, List.forall_mem_cons.mpr ⟨mk_11_35, fun _ h => absurd h List.not_mem_nil⟩⟩⟩⟩⟩⟩⟩⟩⟩⟩⟩⟩⟩⟩⟩⟩⟩⟩⟩⟩⟩⟩⟩⟩⟩⟩⟩⟩⟩⟩⟩⟩⟩⟩⟩⟩
theorem mk_12_0 : ae_mok 12 (1, 0, mJxc12de_init_da8c8, 0, "") := ⟨(ae_inb 155 (by decide +kernel) rfl), (ae_inb 156 (by decide +kernel) rfl), (ae_inb 73 (by decide +kernel) rfl), (ae_inb 157 (by decide +kernel) rfl), rfl, rfl, by decide, ⟨by decide +kernel, by decide +kernel, by decide +kernel⟩, fun h => absurd h.1 (by decide)⟩
theorem mk_12_1 : ae_mok 12 (131, 2, mJx4a65c_add_72be8, 3, "") := ⟨(ae_inb 543 (by decide +kernel) rfl), (ae_inb 545 (by decide +kernel) rfl), (ae_inb 5 (by decide +kernel) rfl), (ae_inb 74 (by decide +kernel) rfl), (ae_inb 546 (by decide +kernel) rfl), by decide, ⟨by decide +kernel, by decide +kernel, by decide +kernel⟩, rfl, fun h => absurd rfl h.2⟩
theorem mk_12_2 : ae_mok 12 (129, 2, mJx4a65c_grow_d5877, 0, "") := ⟨(ae_inb 547 (by decide +kernel) rfl), (ae_inb 549 (by decide +kernel) rfl), (ae_inb 6 (by decide +kernel) rfl), (ae_inb 74 (by decide +kernel) rfl), (ae_inb 550 (by decide +kernel) rfl), by decide, ⟨by decide +kernel, by decide +kernel, by decide +kernel⟩, rfl, fun h => absurd rfl h.2⟩
theorem mk_12_3 : ae_mok 12 (69, 2, mJx4a65c_grow_92f84, 1, "") := ⟨(ae_inb 551 (by decide +kernel) rfl), (ae_inb 553 (by decide +kernel) rfl), (ae_inb 7 (by decide +kernel) rfl), (ae_inb 74 (by decide +kernel) rfl), (ae_inb 554 (by decide +kernel) rfl), by decide, ⟨by decide +kernel, by decide +kernel, by decide +kernel⟩, rfl, fun h => absurd rfl h.2⟩
theorem mk_12_4 : ae_mok 12 (73, 4, mJ8_newLength_cabcc, 3, "") := ⟨(ae_inb 555 (by decide +kernel) rfl), (ae_inb 556 (by decide +kernel) rfl), (ae_inb 83 (by decide +kernel) rfl), (ae_inb 557 (by decide +kernel) rfl), by decide, ⟨by decide +kernel, by decide +kernel, by decide +kernel⟩⟩
theorem mk_12_5 : ae_mok 12 (66, 4, mJ7_copyOf_1904c, 2, "") := ⟨(ae_inb 565 (by decide +kernel) rfl), (ae_inb 566 (by decide +kernel) rfl), (ae_inb 85 (by decide +kernel) rfl), (ae_inb 567 (by decide +kernel) rfl), by decide, ⟨by decide +kernel, by decide +kernel, by decide +kernel⟩⟩
theorem mk_12_6 : ae_mok 12 (79, 4, mJ9_max_7cf53, 2, "") := ⟨(ae_inb 595 (by decide +kernel) rfl), (ae_inb 559 (by decide +kernel) rfl), (ae_inb 84 (by decide +kernel) rfl), (ae_inb 560 (by decide +kernel) rfl), by decide, ⟨by decide +kernel, by decide +kernel, by decide +kernel⟩⟩
theorem mk_12_7 : ae_mok 12 (118, 4, mJ15_checkIndex_7cf53, 2, "") := ⟨(ae_inb 601 (by decide +kernel) rfl), (ae_inb 602 (by decide +kernel) rfl), (ae_inb 86 (by decide +kernel) rfl), (ae_inb 603 (by decide +kernel) rfl), by decide, ⟨by decide +kernel, by decide +kernel, by decide +kernel⟩⟩
theorem mk_12_8 : ae_mok 12 (123, 2, mJx4a65c_elementData_915e3, 1, "") := ⟨(ae_inb 607 (by decide +kernel) rfl), (ae_inb 608 (by decide +kernel) rfl), (ae_inb 609 (by decide +kernel) rfl), (ae_inb 74 (by decide +kernel) rfl), (ae_inb 610 (by decide +kernel) rfl), by decide, ⟨by decide +kernel, by decide +kernel, by decide +kernel⟩, rfl, fun h => absurd rfl h.2⟩
theorem mk_12 : ∀ x ∈ ae_ml 12, ae_mok 12 x := List.forall_mem_cons.mpr ⟨mk_12_0, List.forall_mem_cons.mpr ⟨mk_12_1, List.forall_mem_cons.mpr ⟨mk_12_2, List.forall_mem_cons.mpr ⟨mk_12_3, List.forall_mem_cons.mpr ⟨mk_12_4, List.forall_mem_cons.mpr ⟨mk_12_5, List.forall_mem_cons.mpr ⟨mk_12_6, List.forall_mem_cons.mpr ⟨mk_12_7, List.forall_mem_cons.mpr ⟨mk_12_8, fun _ h => absurd h List.not_mem_nil⟩⟩⟩⟩⟩⟩⟩⟩⟩
theorem mk_13_0 : ae_mok 13 (9, 0, mX10_init, 0, "") := ⟨(ae_inb 92 (by decide +kernel) rfl), (ae_inb 93 (by decide +kernel) rfl), (ae_inb 67 (by decide +kernel) rfl), (ae_inb 94 (by decide +kernel) rfl), rfl, rfl, by decide, ⟨by decide +kernel, by decide +kernel, by decide +kernel⟩, fun h => absurd h.1 (by decide)⟩
theorem mk_13_1 : ae_mok 13 (13, 2, mX10_clear, 0, "") := ⟨(ae_inb 336 (by decide +kernel) rfl), (ae_inb 337 (by decide +kernel) rfl), (ae_inb 338 (by decide +kernel) rfl), (ae_inb 67 (by decide +kernel) rfl), (ae_inb 339 (by decide +kernel) rfl), by decide, ⟨by decide +kernel, by decide +kernel, by decide +kernel⟩, rfl, fun h => absurd h.1 (by decide)⟩
theorem mk_13_2 : ae_mok 13 (18, 2, mX10_symbol, 2, "") := ⟨(ae_inb 356 (by decide +kernel) rfl), (ae_inb 357 (by decide +kernel) rfl), (ae_inb 358 (by decide +kernel) rfl), (ae_inb 67 (by decide +kernel) rfl), (ae_inb 359 (by decide +kernel) rfl), by decide, ⟨by decide +kernel, by decide +kernel, by decide +kernel⟩, rfl, fun h => absurd h.1 (by decide)⟩
theorem mk_13_3 : ae_mok 13 (25, 2, mX10_feed, 2, "") := ⟨(ae_inb 364 (by decide +kernel) rfl), (ae_inb 365 (by decide +kernel) rfl), (ae_inb 366 (by decide +kernel) rfl), (ae_inb 67 (by decide +kernel) rfl), (ae_inb 367 (by decide +kernel) rfl), by decide, ⟨by decide +kernel, by decide +kernel, by decide +kernel⟩, rfl, fun h => absurd h.1 (by decide)⟩
theorem mk_13_4 : ae_mok 13 (30, 2, mX10_rule, 0, "") := ⟨(ae_inb 372 (by decide +kernel) rfl), (ae_inb 373 (by decide +kernel) rfl), (ae_inb 374 (by decide +kernel) rfl), (ae_inb 67 (by decide +kernel) rfl), (ae_inb 375 (by decide +kernel) rfl), by decide, ⟨by decide +kernel, by decide +kernel, by decide +kernel⟩, rfl, fun h => absurd h.1 (by decide)⟩
theorem mk_13_5 : ae_mok 13 (34, 2, mX10_problem, 0, "") := ⟨(ae_inb 680 (by decide +kernel) rfl), (ae_inb 681 (by decide +kernel) rfl), (ae_inb 682 (by decide +kernel) rfl), (ae_inb 67 (by decide +kernel) rfl), (ae_inb 683 (by decide +kernel) rfl), by decide, ⟨by decide +kernel, by decide +kernel, by decide +kernel⟩, rfl, fun h => absurd h.1 (by decide)⟩
theorem mk_13_6 : ae_mok 13 (38, 2, mX10_solve, 1, "") := ⟨(ae_inb 714 (by decide +kernel) rfl), (ae_inb 715 (by decide +kernel) rfl), (ae_inb 716 (by decide +kernel) rfl), (ae_inb 67 (by decide +kernel) rfl), (ae_inb 717 (by decide +kernel) rfl), by decide, ⟨by decide +kernel, by decide +kernel, by decide +kernel⟩, rfl, fun h => absurd h.1 (by decide)⟩
theorem mk_13_7 : ae_mok 13 (43, 2, mX10_solutions, 0, "") := ⟨(ae_inb 807 (by decide +kernel) rfl), (ae_inb 808 (by decide +kernel) rfl), (ae_inb 809 (by decide +kernel) rfl), (ae_inb 67 (by decide +kernel) rfl), (ae_inb 810 (by decide +kernel) rfl), by decide, ⟨by decide +kernel, by decide +kernel, by decide +kernel⟩, rfl, fun h => absurd h.1 (by decide)⟩
theorem mk_13_8 : ae_mok 13 (47, 2, mX10_answer, 3, "") := ⟨(ae_inb 811 (by decide +kernel) rfl), (ae_inb 812 (by decide +kernel) rfl), (ae_inb 813 (by decide +kernel) rfl), (ae_inb 67 (by decide +kernel) rfl), (ae_inb 814 (by decide +kernel) rfl), by decide, ⟨by decide +kernel, by decide +kernel, by decide +kernel⟩, rfl, fun h => absurd h.1 (by decide)⟩
theorem mk_13_9 : ae_mok 13 (52, 2, mX10_node, 3, "") := ⟨(ae_inb 820 (by decide +kernel) rfl), (ae_inb 821 (by decide +kernel) rfl), (ae_inb 822 (by decide +kernel) rfl), (ae_inb 67 (by decide +kernel) rfl), (ae_inb 823 (by decide +kernel) rfl), by decide, ⟨by decide +kernel, by decide +kernel, by decide +kernel⟩, rfl, fun h => absurd h.1 (by decide)⟩
theorem mk_13_10 : ae_mok 13 (56, 2, mX10_waiting, 2, "") := ⟨(ae_inb 831 (by decide +kernel) rfl), (ae_inb 832 (by decide +kernel) rfl), (ae_inb 833 (by decide +kernel) rfl), (ae_inb 67 (by decide +kernel) rfl), (ae_inb 834 (by decide +kernel) rfl), by decide, ⟨by decide +kernel, by decide +kernel, by decide +kernel⟩, rfl, fun h => absurd h.1 (by decide)⟩
theorem mk_13_11 : ae_mok 13 (61, 2, mX10_count, 1, "") := ⟨(ae_inb 835 (by decide +kernel) rfl), (ae_inb 836 (by decide +kernel) rfl), (ae_inb 837 (by decide +kernel) rfl), (ae_inb 67 (by decide +kernel) rfl), (ae_inb 838 (by decide +kernel) rfl), by decide, ⟨by decide +kernel, by decide +kernel, by decide +kernel⟩, rfl, fun h => absurd h.1 (by decide)⟩
theorem mk_13_12 : ae_mok 13 (12, 0, mX11_init, 0, "") := ⟨(ae_inb 841 (by decide +kernel) rfl), (ae_inb 842 (by decide +kernel) rfl), (ae_inb 79 (by decide +kernel) rfl), (ae_inb 843 (by decide +kernel) rfl), rfl, rfl, by decide, ⟨by decide +kernel, by decide +kernel, by decide +kernel⟩, fun h => absurd h.1 (by decide)⟩
theorem mk_13_13 : ae_mok 13 (17, 2, mX11_clear, 0, "") := ⟨(ae_inb 1008 (by decide +kernel) rfl), (ae_inb 1009 (by decide +kernel) rfl), (ae_inb 1010 (by decide +kernel) rfl), (ae_inb 79 (by decide +kernel) rfl), (ae_inb 1011 (by decide +kernel) rfl), by decide, ⟨by decide +kernel, by decide +kernel, by decide +kernel⟩, rfl, fun h => absurd h.1 (by decide)⟩
theorem mk_13_14 : ae_mok 13 (22, 2, mX11_symbol, 2, "") := ⟨(ae_inb 1016 (by decide +kernel) rfl), (ae_inb 1017 (by decide +kernel) rfl), (ae_inb 1018 (by decide +kernel) rfl), (ae_inb 79 (by decide +kernel) rfl), (ae_inb 1019 (by decide +kernel) rfl), by decide, ⟨by decide +kernel, by decide +kernel, by decide +kernel⟩, rfl, fun h => absurd h.1 (by decide)⟩
theorem mk_13_15 : ae_mok 13 (29, 2, mX11_feed, 2, "") := ⟨(ae_inb 1023 (by decide +kernel) rfl), (ae_inb 1024 (by decide +kernel) rfl), (ae_inb 1025 (by decide +kernel) rfl), (ae_inb 79 (by decide +kernel) rfl), (ae_inb 1026 (by decide +kernel) rfl), by decide, ⟨by decide +kernel, by decide +kernel, by decide +kernel⟩, rfl, fun h => absurd h.1 (by decide)⟩
theorem mk_13_16 : ae_mok 13 (33, 2, mX11_rule, 0, "") := ⟨(ae_inb 1028 (by decide +kernel) rfl), (ae_inb 1029 (by decide +kernel) rfl), (ae_inb 1030 (by decide +kernel) rfl), (ae_inb 79 (by decide +kernel) rfl), (ae_inb 1031 (by decide +kernel) rfl), by decide, ⟨by decide +kernel, by decide +kernel, by decide +kernel⟩, rfl, fun h => absurd h.1 (by decide)⟩
theorem mk_13_17 : ae_mok 13 (55, 2, mX11_node, 3, "") := ⟨(ae_inb 1100 (by decide +kernel) rfl), (ae_inb 1101 (by decide +kernel) rfl), (ae_inb 1102 (by decide +kernel) rfl), (ae_inb 79 (by decide +kernel) rfl), (ae_inb 1103 (by decide +kernel) rfl), by decide, ⟨by decide +kernel, by decide +kernel, by decide +kernel⟩, rfl, fun h => absurd h.1 (by decide)⟩
theorem mk_13_18 : ae_mok 13 (37, 2, mX11_problem, 0, "") := ⟨(ae_inb 1104 (by decide +kernel) rfl), (ae_inb 1105 (by decide +kernel) rfl), (ae_inb 1106 (by decide +kernel) rfl), (ae_inb 79 (by decide +kernel) rfl), (ae_inb 1107 (by decide +kernel) rfl), by decide, ⟨by decide +kernel, by decide +kernel, by decide +kernel⟩, rfl, fun h => absurd h.1 (by decide)⟩
theorem mk_13_19 : ae_mok 13 (42, 2, mX11_solve, 1, "") := ⟨(ae_inb 1120 (by decide +kernel) rfl), (ae_inb 1121 (by decide +kernel) rfl), (ae_inb 1122 (by decide +kernel) rfl), (ae_inb 79 (by decide +kernel) rfl), (ae_inb 1123 (by decide +kernel) rfl), by decide, ⟨by decide +kernel, by decide +kernel, by decide +kernel⟩, rfl, fun h => absurd h.1 (by decide)⟩
theorem mk_13_20 : ae_mok 13 (46, 2, mX11_solutions, 0, "") := ⟨(ae_inb 1176 (by decide +kernel) rfl), (ae_inb 1177 (by decide +kernel) rfl), (ae_inb 1178 (by decide +kernel) rfl), (ae_inb 79 (by decide +kernel) rfl), (ae_inb 1179 (by decide +kernel) rfl), by decide, ⟨by decide +kernel, by decide +kernel, by decide +kernel⟩, rfl, fun h => absurd h.1 (by decide)⟩
theorem mk_13_21 : ae_mok 13 (51, 2, mX11_answer, 3, "") := ⟨(ae_inb 1180 (by decide +kernel) rfl), (ae_inb 1181 (by decide +kernel) rfl), (ae_inb 1182 (by decide +kernel) rfl), (ae_inb 79 (by decide +kernel) rfl), (ae_inb 1183 (by decide +kernel) rfl), by decide, ⟨by decide +kernel, by decide +kernel, by decide +kernel⟩, rfl, fun h => absurd h.1 (by decide)⟩
theorem mk_13_22 : ae_mok 13 (60, 2, mX11_waiting, 2, "") := ⟨(ae_inb 1184 (by decide +kernel) rfl), (ae_inb 1185 (by decide +kernel) rfl), (ae_inb 1186 (by decide +kernel) rfl), (ae_inb 79 (by decide +kernel) rfl), (ae_inb 1187 (by decide +kernel) rfl), by decide, ⟨by decide +kernel, by decide +kernel, by decide +kernel⟩, rfl, fun h => absurd h.1 (by decide)⟩
theorem mk_13_23 : ae_mok 13 (64, 2, mX11_count, 1, "") := ⟨(ae_inb 1188 (by decide +kernel) rfl), (ae_inb 1189 (by decide +kernel) rfl), (ae_inb 1190 (by decide +kernel) rfl), (ae_inb 79 (by decide +kernel) rfl), (ae_inb 1191 (by decide +kernel) rfl), by decide, ⟨by decide +kernel, by decide +kernel, by decide +kernel⟩, rfl, fun h => absurd h.1 (by decide)⟩
theorem mk_13 : ∀ x ∈ ae_ml 13, ae_mok 13 x := List.forall_mem_cons.mpr ⟨mk_13_0, List.forall_mem_cons.mpr ⟨mk_13_1, List.forall_mem_cons.mpr ⟨mk_13_2, List.forall_mem_cons.mpr ⟨mk_13_3, List.forall_mem_cons.mpr ⟨mk_13_4, List.forall_mem_cons.mpr ⟨mk_13_5, List.forall_mem_cons.mpr ⟨mk_13_6, List.forall_mem_cons.mpr ⟨mk_13_7, List.forall_mem_cons.mpr ⟨mk_13_8, List.forall_mem_cons.mpr ⟨mk_13_9, List.forall_mem_cons.mpr ⟨mk_13_10, List.forall_mem_cons.mpr ⟨mk_13_11, List.forall_mem_cons.mpr ⟨mk_13_12, List.forall_mem_cons.mpr ⟨mk_13_13, List.forall_mem_cons.mpr ⟨mk_13_14, List.forall_mem_cons.mpr ⟨mk_13_15, List.forall_mem_cons.mpr ⟨mk_13_16, List.forall_mem_cons.mpr ⟨mk_13_17, List.forall_mem_cons.mpr ⟨mk_13_18, List.forall_mem_cons.mpr ⟨mk_13_19, List.forall_mem_cons.mpr ⟨mk_13_20, List.forall_mem_cons.mpr ⟨mk_13_21, List.forall_mem_cons.mpr ⟨mk_13_22, List.forall_mem_cons.mpr ⟨mk_13_23, fun _ h => absurd h List.not_mem_nil⟩⟩⟩⟩⟩⟩⟩⟩⟩⟩⟩⟩⟩⟩⟩⟩⟩⟩⟩⟩⟩⟩⟩⟩
theorem mk_15_0 : ae_mok 15 (311, 4, mJ6_numberOfTrailingZeros_0f7a4, 1, "") := ⟨(ae_inb 634 (by decide +kernel) rfl), (ae_inb 635 (by decide +kernel) rfl), (ae_inb 89 (by decide +kernel) rfl), (ae_inb 636 (by decide +kernel) rfl), by decide, ⟨by decide +kernel, by decide +kernel, by decide +kernel⟩⟩
theorem mk_15 : ∀ x ∈ ae_ml 15, ae_mok 15 x := List.forall_mem_cons.mpr ⟨mk_15_0, fun _ h => absurd h List.not_mem_nil⟩
theorem mk_17_0 : ae_mok 17 (300, 4, mJ7_copyOf_6403c, 3, "") := ⟨(ae_inb 585 (by decide +kernel) rfl), (ae_inb 586 (by decide +kernel) rfl), (ae_inb 85 (by decide +kernel) rfl), (ae_inb 587 (by decide +kernel) rfl), by decide, ⟨by decide +kernel, by decide +kernel, by decide +kernel⟩⟩
theorem mk_17_1 : ae_mok 17 (304, 4, mJ9_min_7cf53, 2, "") := ⟨(ae_inb 591 (by decide +kernel) rfl), (ae_inb 592 (by decide +kernel) rfl), (ae_inb 84 (by decide +kernel) rfl), (ae_inb 593 (by decide +kernel) rfl), by decide, ⟨by decide +kernel, by decide +kernel, by decide +kernel⟩⟩
theorem mk_17_2 : ae_mok 17 (150, 7, mX0_isLeaf, 5, "") := (ae_inb 594 (by decide +kernel) rfl)
theorem mk_17 : ∀ x ∈ ae_ml 17, ae_mok 17 x := List.forall_mem_cons.mpr ⟨mk_17_0, List.forall_mem_cons.mpr ⟨mk_17_1, List.forall_mem_cons.mpr ⟨mk_17_2, fun _ h => absurd h List.not_mem_nil⟩⟩⟩
theorem mk_18_0 : ae_mok 18 (105, 4, mJ3_checkIndex_8e157, 3, "") := ⟨(ae_inb 604 (by decide +kernel) rfl), (ae_inb 605 (by decide +kernel) rfl), (ae_inb 87 (by decide +kernel) rfl), (ae_inb 606 (by decide +kernel) rfl), by decide, ⟨by decide +kernel, by decide +kernel, by decide +kernel⟩⟩
theorem mk_18 : ∀ x ∈ ae_ml 18, ae_mok 18 x := List.forall_mem_cons.mpr ⟨mk_18_0, fun _ h => absurd h List.not_mem_nil⟩
theorem mk_19_0 : ae_mok 19 (194, 4, mJ9_max_7cf53, 2, "") := ⟨(ae_inb 558 (by decide +kernel) rfl), (ae_inb 559 (by decide +kernel) rfl), (ae_inb 84 (by decide +kernel) rfl), (ae_inb 560 (by decide +kernel) rfl), by decide, ⟨by decide +kernel, by decide +kernel, by decide +kernel⟩⟩
theorem mk_19_1 : ae_mok 19 (201, 4, mJ8_hugeLength_7cf53, 2, "") := ⟨(ae_inb 562 (by decide +kernel) rfl), (ae_inb 563 (by decide +kernel) rfl), (ae_inb 83 (by decide +kernel) rfl), (ae_inb 564 (by decide +kernel) rfl), by decide, ⟨by decide +kernel, by decide +kernel, by decide +kernel⟩⟩
theorem mk_19 : ∀ x ∈ ae_ml 19, ae_mok 19 x := List.forall_mem_cons.mpr ⟨mk_19_0, List.forall_mem_cons.mpr ⟨mk_19_1, fun _ h => absurd h List.not_mem_nil⟩⟩
theorem mk_21_0 : ae_mok 21 (1, 6, mX0_isLeaf, 0, "") := (ae_inb 161 (by decide +kernel) rfl)
theorem mk_21 : ∀ x ∈ ae_ml 21, ae_mok 21 x := List.forall_mem_cons.mpr ⟨mk_21_0, fun _ h => absurd h List.not_mem_nil⟩
theorem mk_22_0 : ae_mok 22 (1, 0, mJxa1e45_init_da8c8, 0, "") := ⟨(ae_inb 158 (by decide +kernel) rfl), (ae_inb 159 (by decide +kernel) rfl), (ae_inb 72 (by decide +kernel) rfl), (ae_inb 160 (by decide +kernel) rfl), rfl, rfl, by decide, ⟨by decide +kernel, by decide +kernel, by decide +kernel⟩, fun h => absurd h.1 (by decide)⟩
theorem mk_22 : ∀ x ∈ ae_ml 22, ae_mok 22 x := List.forall_mem_cons.mpr ⟨mk_22_0, fun _ h => absurd h List.not_mem_nil⟩
theorem ae_ml_ok (o : Nat) : ∀ x ∈ ae_ml o, ae_mok o x := by
  match o with
  | 0 => exact mk_0
  | 1 => exact mk_1
  | 2 => exact mk_2
  | 3 => exact mk_3
  | 4 => exact mk_4
  | 5 => exact mk_5
  | 6 => exact mk_6
  | 7 => exact mk_7
  | 8 => exact mk_8
  | 9 => exact mk_9
  | 10 => exact mk_10
  | 11 => exact mk_11
  | 12 => exact mk_12
  | 13 => exact mk_13
  | 15 => exact mk_15
  | 17 => exact mk_17
  | 18 => exact mk_18
  | 19 => exact mk_19
  | 21 => exact mk_21
  | 22 => exact mk_22
  | 14 => exact fun _ h => absurd h List.not_mem_nil
  | 16 => exact fun _ h => absurd h List.not_mem_nil
  | 20 => exact fun _ h => absurd h List.not_mem_nil
  | n + 23 => exact fun _ h => absurd h List.not_mem_nil
def ae_ki : List (Nat × Nat × Int32) := [(19, 200, 2147483639), (14, 264, 65536), (6, 156, 36000), (7, 33, 10000000)]
def ae_kl : List (Nat × Nat × Int64) := [(15, 314, 6148914691236517205), (15, 316, 3689348814741910323), (15, 318, 1085102592571150095), (11, 145, 255), (13, 23, 4294967295)]
theorem ae_ki_ok : ∀ x ∈ ae_ki, Cond.constant (ae_on x.1) x.2.1 x.2.2 ∈ ae_big := List.forall_mem_cons.mpr ⟨(ae_inb 561 (by decide +kernel) rfl), List.forall_mem_cons.mpr ⟨(ae_inb 637 (by decide +kernel) rfl), List.forall_mem_cons.mpr ⟨(ae_inb 745 (by decide +kernel) rfl), List.forall_mem_cons.mpr ⟨(ae_inb 775 (by decide +kernel) rfl), fun _ h => absurd h List.not_mem_nil⟩⟩⟩⟩
theorem ae_kl_ok : ∀ x ∈ ae_kl, Cond.constantLong (ae_on x.1) x.2.1 x.2.2 ∈ ae_big := List.forall_mem_cons.mpr ⟨(ae_inb 641 (by decide +kernel) rfl), List.forall_mem_cons.mpr ⟨(ae_inb 642 (by decide +kernel) rfl), List.forall_mem_cons.mpr ⟨(ae_inb 643 (by decide +kernel) rfl), List.forall_mem_cons.mpr ⟨(ae_inb 1027 (by decide +kernel) rfl), List.forall_mem_cons.mpr ⟨(ae_inb 1192 (by decide +kernel) rfl), fun _ h => absurd h List.not_mem_nil⟩⟩⟩⟩⟩
/-- classes that are made -/
def ae_nl : List (Nat × Nat × Nat) := [(13, 7, 10), (10, 7, 7), (10, 16, 1), (10, 25, 5), (5, 9, 4), (5, 17, 8), (8, 9, 12), (5, 28, 9), (9, 9, 1), (10, 34, 6), (6, 9, 3), (3, 7, 2), (6, 23, 1), (6, 34, 2), (2, 9, 1), (4, 7, 1), (8, 29, 0), (13, 10, 11)]
theorem ae_nl_ok : ∀ x ∈ ae_nl, Cond.classLink (ae_on x.1) x.2.1 (ae_on x.2.2) ∈ ae_big := List.forall_mem_cons.mpr ⟨(ae_inb 90 (by decide +kernel) rfl), List.forall_mem_cons.mpr ⟨(ae_inb 98 (by decide +kernel) rfl), List.forall_mem_cons.mpr ⟨(ae_inb 117 (by decide +kernel) rfl), List.forall_mem_cons.mpr ⟨(ae_inb 135 (by decide +kernel) rfl), List.forall_mem_cons.mpr ⟨(ae_inb 141 (by decide +kernel) rfl), List.forall_mem_cons.mpr ⟨(ae_inb 143 (by decide +kernel) rfl), List.forall_mem_cons.mpr ⟨(ae_inb 150 (by decide +kernel) rfl), List.forall_mem_cons.mpr ⟨(ae_inb 185 (by decide +kernel) rfl), List.forall_mem_cons.mpr ⟨(ae_inb 191 (by decide +kernel) rfl), List.forall_mem_cons.mpr ⟨(ae_inb 223 (by decide +kernel) rfl), List.forall_mem_cons.mpr ⟨(ae_inb 229 (by decide +kernel) rfl), List.forall_mem_cons.mpr ⟨(ae_inb 235 (by decide +kernel) rfl), List.forall_mem_cons.mpr ⟨(ae_inb 248 (by decide +kernel) rfl), List.forall_mem_cons.mpr ⟨(ae_inb 250 (by decide +kernel) rfl), List.forall_mem_cons.mpr ⟨(ae_inb 256 (by decide +kernel) rfl), List.forall_mem_cons.mpr ⟨(ae_inb 420 (by decide +kernel) rfl), List.forall_mem_cons.mpr ⟨(ae_inb 477 (by decide +kernel) rfl), List.forall_mem_cons.mpr ⟨(ae_inb 839 (by decide +kernel) rfl), fun _ h => absurd h List.not_mem_nil⟩⟩⟩⟩⟩⟩⟩⟩⟩⟩⟩⟩⟩⟩⟩⟩⟩⟩
def ae_al : List (Nat × Nat × Nat) := [(5, 9, 3), (5, 17, 4), (3, 7, 5), (17, 2, 7), (12, 7, 7)]
def ae_aok (x : Nat × Nat × Nat) : Prop := ∃ C : String, ae_T x.2.2 = some (.object C) ∧ Cond.classLink (ae_on x.1) x.2.1 C ∈ ae_big ∧ Cond.arrayOver (.object C) ∈ lw_tbl
theorem ae_al_ok : ∀ x ∈ ae_al, ae_aok x := List.forall_mem_cons.mpr ⟨⟨_, rfl, (ae_inb 141 (by decide +kernel) rfl), (ae_int 142 (by decide +kernel))⟩, List.forall_mem_cons.mpr ⟨⟨_, rfl, (ae_inb 143 (by decide +kernel) rfl), (ae_int 144 (by decide +kernel))⟩, List.forall_mem_cons.mpr ⟨⟨_, rfl, (ae_inb 235 (by decide +kernel) rfl), (ae_int 236 (by decide +kernel))⟩, List.forall_mem_cons.mpr ⟨⟨_, rfl, (ae_inb 590 (by decide +kernel) rfl), (ae_int 589 (by decide +kernel))⟩, List.forall_mem_cons.mpr ⟨⟨_, rfl, (ae_inb 596 (by decide +kernel) rfl), (ae_int 589 (by decide +kernel))⟩, fun _ h => absurd h List.not_mem_nil⟩⟩⟩⟩⟩
theorem ae_mult : Cond.classLink (ae_on 11) 20 "[[I" ∈ ae_big ∧ Cond.arrayOver (.array .int) ∈ lw_tbl ∧ Cond.arrayClass .int ∈ ae_big ∧ Cond.arrayClass .boolean ∈ ae_big ∧ Cond.arrayClass .long ∈ ae_big := ⟨(ae_inb 845 (by decide +kernel) rfl), (ae_int 846 (by decide +kernel)), (ae_inb 115 (by decide +kernel) rfl), (ae_inb 116 (by decide +kernel) rfl), (ae_inb 1007 (by decide +kernel) rfl)⟩
theorem ae_sysw : Cond.native arraycopyName ∈ ae_big ∧ Cond.static arraycopyName ∈ ae_big ∧ Cond.initialized "java/lang/System" ∈ ae_big := ⟨(ae_inb 468 (by decide +kernel) rfl), (ae_inb 467 (by decide +kernel) rfl), (ae_inb 81 (by decide +kernel) rfl)⟩
theorem ae_objw : Cond.instanceMethod objectInit ∈ ae_big ∧ Cond.code objectInit ⟨#[0xb1]⟩ 1 none ∈ ae_big := ⟨(ae_inb 96 (by decide +kernel) rfl), (ae_inb 97 (by decide +kernel) rfl)⟩
theorem kc_0 : ∀ w ∈ u_ws RX0 TX0 11, w ∈ ae_big := fun w h => (by
  have g := goodIn_r (big := lw_tbl) (u_ws RX0 TX0 11) [516, 518, 520, 522, 524, 526, 528, 530, 532, 534, 536] (by decide +kernel) (by decide +kernel)
  exact List.mem_filter.mpr ⟨(g w h).1, List.all_eq_true.mp (show (u_ws RX0 TX0 11).all goodWord = true by decide +kernel) w h⟩)
theorem kd_0 : Cond.instantiable RX0 11 ∈ ae_big ∧ Cond.initialized RX0 ∈ ae_big := ⟨(ae_inb 478 (by decide +kernel) rfl), (ae_inb 82 (by decide +kernel) rfl)⟩
theorem kc_1 : ∀ w ∈ u_ws RX1 TX1 2, w ∈ ae_big := fun w h => (by
  have g := goodIn_r (big := lw_tbl) (u_ws RX1 TX1 2) [130, 132] (by decide +kernel) (by decide +kernel)
  exact List.mem_filter.mpr ⟨(g w h).1, List.all_eq_true.mp (show (u_ws RX1 TX1 2).all goodWord = true by decide +kernel) w h⟩)
theorem kd_1 : Cond.instantiable RX1 2 ∈ ae_big ∧ Cond.initialized RX1 ∈ ae_big := ⟨(ae_inb 118 (by decide +kernel) rfl), (ae_inb 69 (by decide +kernel) rfl)⟩
theorem kc_2 : ∀ w ∈ u_ws RX2 TX2 4, w ∈ ae_big := fun w h => (by
  have g := goodIn_r (big := lw_tbl) (u_ws RX2 TX2 4) [268, 270, 272, 274] (by decide +kernel) (by decide +kernel)
  exact List.mem_filter.mpr ⟨(g w h).1, List.all_eq_true.mp (show (u_ws RX2 TX2 4).all goodWord = true by decide +kernel) w h⟩)
theorem kd_2 : Cond.instantiable RX2 4 ∈ ae_big ∧ Cond.initialized RX2 ∈ ae_big := ⟨(ae_inb 251 (by decide +kernel) rfl), (ae_inb 78 (by decide +kernel) rfl)⟩
theorem kc_3 : ∀ w ∈ u_ws RX3 TX3 3, w ∈ ae_big := fun w h => (by
  have g := goodIn_r (big := lw_tbl) (u_ws RX3 TX3 3) [241, 243, 245] (by decide +kernel) (by decide +kernel)
  exact List.mem_filter.mpr ⟨(g w h).1, List.all_eq_true.mp (show (u_ws RX3 TX3 3).all goodWord = true by decide +kernel) w h⟩)
theorem kd_3 : Cond.instantiable RX3 3 ∈ ae_big ∧ Cond.initialized RX3 ∈ ae_big := ⟨(ae_inb 230 (by decide +kernel) rfl), (ae_inb 77 (by decide +kernel) rfl)⟩
theorem kc_4 : ∀ w ∈ u_ws RX4 TX4 2, w ∈ ae_big := fun w h => (by
  have g := goodIn_r (big := lw_tbl) (u_ws RX4 TX4 2) [438, 440] (by decide +kernel) (by decide +kernel)
  exact List.mem_filter.mpr ⟨(g w h).1, List.all_eq_true.mp (show (u_ws RX4 TX4 2).all goodWord = true by decide +kernel) w h⟩)
theorem kd_4 : Cond.instantiable RX4 2 ∈ ae_big ∧ Cond.initialized RX4 ∈ ae_big := ⟨(ae_inb 415 (by decide +kernel) rfl), (ae_inb 80 (by decide +kernel) rfl)⟩
theorem kc_5 : ∀ w ∈ u_ws RX5 TX5 5, w ∈ ae_big := fun w h => (by
  have g := goodIn_r (big := lw_tbl) (u_ws RX5 TX5 5) [212, 214, 216, 218, 220] (by decide +kernel) (by decide +kernel)
  exact List.mem_filter.mpr ⟨(g w h).1, List.all_eq_true.mp (show (u_ws RX5 TX5 5).all goodWord = true by decide +kernel) w h⟩)
theorem kd_5 : Cond.instantiable RX5 5 ∈ ae_big ∧ Cond.initialized RX5 ∈ ae_big := ⟨(ae_inb 136 (by decide +kernel) rfl), (ae_inb 70 (by decide +kernel) rfl)⟩
theorem kc_6 : ∀ w ∈ u_ws RX6 TX6 13, w ∈ ae_big := fun w h => (by
  have g := goodIn_r (big := lw_tbl) (u_ws RX6 TX6 13) [296, 298, 300, 302, 304, 306, 308, 310, 312, 314, 316, 318, 320] (by decide +kernel) (by decide +kernel)
  exact List.mem_filter.mpr ⟨(g w h).1, List.all_eq_true.mp (show (u_ws RX6 TX6 13).all goodWord = true by decide +kernel) w h⟩)
theorem kd_6 : Cond.instantiable RX6 13 ∈ ae_big ∧ Cond.initialized RX6 ∈ ae_big := ⟨(ae_inb 224 (by decide +kernel) rfl), (ae_inb 76 (by decide +kernel) rfl)⟩
theorem kc_7 : ∀ w ∈ u_ws RX7 TX7 3, w ∈ ae_big := fun w h => (by
  have g := goodIn_r (big := lw_tbl) (u_ws RX7 TX7 3) [108, 110, 112] (by decide +kernel) (by decide +kernel)
  exact List.mem_filter.mpr ⟨(g w h).1, List.all_eq_true.mp (show (u_ws RX7 TX7 3).all goodWord = true by decide +kernel) w h⟩)
theorem kd_7 : Cond.instantiable RX7 3 ∈ ae_big ∧ Cond.initialized RX7 ∈ ae_big := ⟨(ae_inb 99 (by decide +kernel) rfl), (ae_inb 68 (by decide +kernel) rfl)⟩
theorem kc_8 : ∀ w ∈ u_ws RX8 TX8 2, w ∈ ae_big := fun w h => (by
  have g := goodIn_r (big := lw_tbl) (u_ws RX8 TX8 2) [180, 182] (by decide +kernel) (by decide +kernel)
  exact List.mem_filter.mpr ⟨(g w h).1, List.all_eq_true.mp (show (u_ws RX8 TX8 2).all goodWord = true by decide +kernel) w h⟩)
theorem kd_8 : Cond.instantiable RX8 2 ∈ ae_big ∧ Cond.initialized RX8 ∈ ae_big := ⟨(ae_inb 145 (by decide +kernel) rfl), (ae_inb 71 (by decide +kernel) rfl)⟩
theorem kc_9 : ∀ w ∈ u_ws RX9 TX9 4, w ∈ ae_big := fun w h => (by
  have g := goodIn_r (big := lw_tbl) (u_ws RX9 TX9 4) [197, 199, 201, 203] (by decide +kernel) (by decide +kernel)
  exact List.mem_filter.mpr ⟨(g w h).1, List.all_eq_true.mp (show (u_ws RX9 TX9 4).all goodWord = true by decide +kernel) w h⟩)
theorem kd_9 : Cond.instantiable RX9 4 ∈ ae_big ∧ Cond.initialized RX9 ∈ ae_big := ⟨(ae_inb 186 (by decide +kernel) rfl), (ae_inb 75 (by decide +kernel) rfl)⟩
theorem kc_10 : ∀ w ∈ u_ws RX10 TX10 4, w ∈ ae_big := fun w h => (by
  have g := goodIn_r (big := lw_tbl) (u_ws RX10 TX10 4) [327, 329, 331, 333] (by decide +kernel) (by decide +kernel)
  exact List.mem_filter.mpr ⟨(g w h).1, List.all_eq_true.mp (show (u_ws RX10 TX10 4).all goodWord = true by decide +kernel) w h⟩)
theorem kd_10 : Cond.instantiable RX10 4 ∈ ae_big ∧ Cond.initialized RX10 ∈ ae_big := ⟨(ae_inb 91 (by decide +kernel) rfl), (ae_inb 67 (by decide +kernel) rfl)⟩
theorem kc_11 : ∀ w ∈ u_ws RX11 TX11 53, w ∈ ae_big := fun w h => (by
  have g := goodIn_r (big := lw_tbl) (u_ws RX11 TX11 53) [900, 902, 904, 906, 908, 910, 912, 914, 916, 918, 920, 922, 924, 926, 928, 930, 932, 934, 936, 938, 940, 942, 944, 946, 948, 950, 952, 954, 956, 958, 960, 962, 964, 966, 968, 970, 972, 974, 976, 978, 980, 982, 984, 986, 988, 990, 992, 994, 996, 998, 1000, 1002, 1004] (by decide +kernel) (by decide +kernel)
  exact List.mem_filter.mpr ⟨(g w h).1, List.all_eq_true.mp (show (u_ws RX11 TX11 53).all goodWord = true by decide +kernel) w h⟩)
theorem kd_11 : Cond.instantiable RX11 53 ∈ ae_big ∧ Cond.initialized RX11 ∈ ae_big := ⟨(ae_inb 840 (by decide +kernel) rfl), (ae_inb 79 (by decide +kernel) rfl)⟩
theorem kc_12 : ∀ w ∈ u_ws RJx4a65c TJx4a65c 3, w ∈ ae_big := fun w h => (by
  have g := goodIn_r (big := lw_tbl) (u_ws RJx4a65c TJx4a65c 3) [173, 169, 171] (by decide +kernel) (by decide +kernel)
  exact List.mem_filter.mpr ⟨(g w h).1, List.all_eq_true.mp (show (u_ws RJx4a65c TJx4a65c 3).all goodWord = true by decide +kernel) w h⟩)
theorem kd_12 : Cond.instantiable RJx4a65c 3 ∈ ae_big ∧ Cond.initialized RJx4a65c ∈ ae_big := ⟨(ae_inb 151 (by decide +kernel) rfl), (ae_inb 74 (by decide +kernel) rfl)⟩
/-- what the tables say of a class of ae_cl -/
def ae_cok (c : Nat) (r : vw_C) : Prop := (∀ w ∈ u_ws r.1 r.2.1 r.2.2, w ∈ ae_big) ∧ (Cond.instantiable r.1 r.2.2 ∈ ae_big ∧ Cond.initialized r.1 ∈ ae_big) ∧ (∀ k, k < r.2.2 → parseFieldDescriptor (r.2.1 k).2.2.1 = some (ae_ty c k)) ∧ (∀ a, a < r.2.2 → ∀ b, b < r.2.2 → a ≠ b → (r.2.1 a).2.1 ≠ (r.2.1 b).2.1) ∧ ae_on c = r.1
theorem ae_cl_ok : ∀ (c : Nat) (r : vw_C), ae_cl[c]? = some r → ae_cok c r := by
  intro c r h
  match c, h with
  | 0, h => cases h; exact ⟨kc_0, kd_0, tyX0_ok, nmX0, rfl⟩
  | 1, h => cases h; exact ⟨kc_1, kd_1, tyX1_ok, nmX1, rfl⟩
  | 2, h => cases h; exact ⟨kc_2, kd_2, tyX2_ok, nmX2, rfl⟩
  | 3, h => cases h; exact ⟨kc_3, kd_3, tyX3_ok, nmX3, rfl⟩
  | 4, h => cases h; exact ⟨kc_4, kd_4, tyX4_ok, nmX4, rfl⟩
  | 5, h => cases h; exact ⟨kc_5, kd_5, tyX5_ok, nmX5, rfl⟩
  | 6, h => cases h; exact ⟨kc_6, kd_6, tyX6_ok, nmX6, rfl⟩
  | 7, h => cases h; exact ⟨kc_7, kd_7, tyX7_ok, nmX7, rfl⟩
  | 8, h => cases h; exact ⟨kc_8, kd_8, tyX8_ok, nmX8, rfl⟩
  | 9, h => cases h; exact ⟨kc_9, kd_9, tyX9_ok, nmX9, rfl⟩
  | 10, h => cases h; exact ⟨kc_10, kd_10, tyX10_ok, nmX10, rfl⟩
  | 11, h => cases h; exact ⟨kc_11, kd_11, tyX11_ok, nmX11, rfl⟩
  | 12, h => cases h; exact ⟨kc_12, kd_12, tyJx4a65c_ok, nmJx4a65c, rfl⟩
  | n + 13, h => simp [ae_cl] at h
