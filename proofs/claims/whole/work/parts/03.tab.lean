-- classes by number: 0 to 9 the ten with objects, 10 the law, 11 Math, 12 Arrays
def eCN (c : Nat) : String := match c with
  | 0 => RX0
  | 1 => RX1
  | 2 => RX2
  | 3 => RX3
  | 4 => RX4
  | 5 => RX5
  | 6 => RX6
  | 7 => RX7
  | 8 => RX8
  | 9 => RX9
  | 10 => RL
  | 11 => RJ9
  | _ => RJ7
abbrev eCl : List vw_C := [(RX0, TX0, 4), (RX1, TX1, 4), (RX2, TX2, 9), (RX3, TX3, 9), (RX4, TX4, 9), (RX5, TX5, 3), (RX6, TX6, 8), (RX7, TX7, 6), (RX8, TX8, 7), (RX9, TX9, 51)]
def eT (c : Nat) : u_T := match c with
  | 0 => TX0
  | 1 => TX1
  | 2 => TX2
  | 3 => TX3
  | 4 => TX4
  | 5 => TX5
  | 6 => TX6
  | 7 => TX7
  | 8 => TX8
  | _ => TX9
def eTy (c : Nat) : Nat → FieldType := match c with
  | 0 => tyX0
  | 1 => tyX1
  | 2 => tyX2
  | 3 => tyX3
  | 4 => tyX4
  | 5 => tyX5
  | 6 => tyX6
  | 7 => tyX7
  | 8 => tyX8
  | _ => tyX9
def eNF (c : Nat) : Nat := match c with
  | 0 => 4
  | 1 => 4
  | 2 => 9
  | 3 => 9
  | 4 => 9
  | 5 => 3
  | 6 => 8
  | 7 => 6
  | 8 => 7
  | _ => 51
def eRf (c k : Nat) : Bool := match eTy c k with | .object _ => true | .array _ => true | _ => false
def eEN (e : Nat) : String := match e with
  | 0 => "java/lang/IllegalArgumentException"
  | 1 => "java/lang/IllegalStateException"
  | 2 => "java/lang/ArithmeticException"
  | _ => "java/util/NoSuchElementException"
-- methods: name, code, locals, what it answers, class, depth, parameters, kind (0 of an object, 1 static, 2 constructor, 3 static with handlers, 4 the law)
abbrev eMT : Type := MethodName × ByteArray × Nat × Option FieldType × Nat × Nat × Nat × Nat
def eMs0 : List eMT := [(yX0_init, prog_2_method_1_code, 1, none, 0, 1, 0, 2),
  (yX0_hasRoom, prog_2_method_2_code, 2, (some .boolean), 0, 1, 1, 0),
  (yX0_writes, prog_2_method_3_code, 3, (some .boolean), 0, 2, 1, 0),
  (yX0_rewrites, prog_2_method_4_code, 2, none, 0, 2, 1, 0),
  (yX0_turnOn, prog_2_method_5_code, 1, none, 0, 1, 0, 0),
  (yX0_outlastsPower, prog_2_method_6_code, 2, (some .boolean), 0, 1, 1, 0),
  (yX1_init, prog_3_method_1_code, 1, none, 1, 1, 0, 2),
  (yX1_put, prog_3_method_2_code, 5, (some .int), 1, 1, 3, 0),
  (yX1_clear, prog_3_method_3_code, 1, none, 1, 1, 0, 0),
  (yX1_holds, prog_3_method_4_code, 3, (some .boolean), 1, 1, 1, 0),
  (yX2_init, prog_4_method_1_code, 2, none, 2, 2, 0, 2),
  (yX2_isPosition, prog_4_method_2_code, 2, (some .boolean), 2, 1, 1, 0),
  (yX2_hasRoom, prog_4_method_3_code, 2, (some .boolean), 2, 1, 1, 0),
  (yX2_isVisible, prog_4_method_4_code, 2, (some .boolean), 2, 1, 1, 0),
  (yX2_isVisibleIn, prog_4_method_5_code, 3, (some .boolean), 2, 2, 2, 0),
  (yX2_countVisible, prog_4_method_6_code, 5, (some .int), 2, 3, 2, 0),
  (yX2_nthVisible, prog_4_method_7_code, 9, (some .int), 2, 3, 4, 0),
  (yX2_fits, prog_4_method_8_code, 3, (some .boolean), 2, 1, 2, 0),
  (yX2_hasVisibleId, prog_4_method_9_code, 4, (some .boolean), 2, 3, 2, 0),
  (yX2_findDraft, prog_4_method_10_code, 6, (some .int), 2, 3, 3, 0),
  (yX2_standsFrom, prog_4_method_11_code, 5, (some .boolean), 2, 1, 2, 0),
  (yX2_addDraft, prog_4_method_12_code, 4, none, 2, 4, 2, 0),
  (yX2_addEmitted, prog_4_method_13_code, 5, none, 2, 4, 3, 0),
  (yX2_add, prog_4_method_14_code, 6, none, 2, 1, 4, 0),
  (yX2_hideOld, prog_4_method_15_code, 4, none, 2, 3, 1, 0),
  (yX3_init, prog_5_method_1_code, 1, none, 3, 1, 0, 2),
  (yX3_make, prog_5_method_2_code, 4, none, 3, 3, 3, 0),
  (yX3_forgetGiven, prog_5_method_3_code, 1, none, 3, 2, 0, 0),
  (yX3_give, prog_5_method_4_code, 3, (some .int), 3, 3, 1, 0),
  (yX3_isOut, prog_5_method_5_code, 2, (some .boolean), 3, 2, 1, 0),
  (yX3_isSpent, prog_5_method_6_code, 2, (some .boolean), 3, 1, 1, 0),
  (yX3_finish, prog_5_method_7_code, 2, none, 3, 2, 1, 0),
  (yX3_takeBack, prog_5_method_8_code, 2, none, 3, 2, 1, 0),
  (yX3_takeBackDue, prog_5_method_9_code, 3, none, 3, 3, 1, 0),
  (yX3_countDue, prog_5_method_10_code, 4, (some .int), 3, 1, 1, 0),
  (yX3_countParkedBy, prog_5_method_11_code, 4, (some .int), 3, 2, 1, 0),
  (yX3_countMarked, prog_5_method_12_code, 5, (some .int), 3, 2, 2, 0),
  (yX3_findOut, prog_5_method_13_code, 3, (some .int), 3, 1, 1, 0),
  (yX3_dropOut, prog_5_method_14_code, 2, none, 3, 1, 1, 0),
  (yX4_init, prog_6_method_1_code, 1, none, 4, 1, 0, 2)]
def eMs1 : List eMT := [(yX4_run, prog_6_method_2_code, 9, none, 4, 5, 3, 0),
  (yX4_isRunning, prog_6_method_3_code, 1, (some .boolean), 4, 1, 0, 0),
  (yX4_work, prog_6_method_4_code, 7, none, 4, 4, 4, 0),
  (yX4_pushed, prog_6_method_5_code, 5, (some .long), 4, 1, 4, 0),
  (yX4_joined, prog_6_method_6_code, 6, (some .long), 4, 2, 3, 0),
  (yX4_divided, prog_6_method_7_code, 5, (some .long), 4, 1, 2, 0),
  (yX4_workRest, prog_6_method_8_code, 3, none, 4, 3, 2, 0),
  (yX4_pushTwice, prog_6_method_9_code, 3, none, 4, 2, 1, 0),
  (yX4_pushChanged, prog_6_method_10_code, 5, none, 4, 2, 2, 0),
  (yX4_emit, prog_6_method_11_code, 4, none, 4, 1, 2, 0),
  (yX4_push, prog_6_method_12_code, 3, none, 4, 1, 1, 0),
  (yX4_pop, prog_6_method_13_code, 1, (some .long), 4, 1, 0, 0),
  (yX5_init, prog_7_method_1_code, 1, none, 5, 1, 0, 2),
  (yX5_isInstruction, prog_7_method_2_code, 2, (some .boolean), 5, 1, 2, 1),
  (yX5_put, prog_7_method_3_code, 3, (some .int), 5, 1, 2, 0),
  (yX5_clear, prog_7_method_4_code, 1, none, 5, 1, 0, 0),
  (yX5_jumpsInside, prog_7_method_5_code, 3, (some .boolean), 5, 1, 0, 0),
  (yX5_copy, prog_7_method_6_code, 2, none, 5, 1, 1, 0),
  (yX6_init, prog_8_method_1_code, 1, none, 6, 2, 0, 2),
  (yX6_make, prog_8_method_2_code, 5, none, 6, 2, 4, 0),
  (yX6_findNext, prog_8_method_3_code, 3, (some .int), 6, 2, 1, 0),
  (yX6_wants, prog_8_method_4_code, 3, (some .boolean), 6, 1, 2, 0),
  (yX6_firstVariable, prog_8_method_5_code, 2, (some .int), 6, 1, 1, 0),
  (yX6_keep, prog_8_method_6_code, 3, none, 6, 2, 2, 0),
  (yX6_countStreamsWithVariables, prog_8_method_7_code, 6, (some .int), 6, 1, 0, 0),
  (yX7_init, prog_9_method_1_code, 1, none, 7, 1, 0, 2),
  (yX7_set, prog_9_method_2_code, 4, none, 7, 1, 3, 0),
  (yX7_hideByNumber, prog_9_method_3_code, 1, none, 7, 2, 0, 0),
  (yX7_hideBelow, prog_9_method_4_code, 2, none, 7, 1, 1, 0),
  (yX7_isUsed, prog_9_method_5_code, 1, (some .boolean), 7, 1, 0, 0),
  (yX8_init, prog_1_method_1_code, 2, none, 8, 3, 0, 2),
  (yX8_draft, prog_1_method_2_code, 5, (some .int), 8, 6, 3, 0),
  (yX8_append, prog_1_method_3_code, 8, (some .int), 8, 7, 2, 0),
  (yX8_settings, prog_1_method_4_code, 5, (some .int), 8, 8, 4, 0),
  (yX8_end, prog_1_method_5_code, 3, (some .int), 8, 8, 1, 0),
  (yX8_tick, prog_1_method_6_code, 6, (some .int), 8, 7, 1, 0),
  (yX8_read, prog_1_method_7_code, 5, (some .int), 8, 7, 4, 0),
  (yX8_event, prog_1_method_8_code, 3, (some .long), 8, 7, 2, 0),
  (yX8_group, prog_1_method_9_code, 5, (some .int), 8, 7, 4, 0),
  (yX8_take, prog_1_method_10_code, 2, (some .int), 8, 7, 1, 0)]
def eMs2 : List eMT := [(yX8_acknowledge, prog_1_method_11_code, 3, (some .int), 8, 8, 2, 0),
  (yX8_refuse, prog_1_method_12_code, 3, (some .int), 8, 8, 2, 0),
  (yX8_code, prog_1_method_13_code, 3, (some .int), 8, 6, 2, 0),
  (yX8_projection, prog_1_method_14_code, 7, (some .int), 8, 7, 4, 0),
  (yX8_step, prog_1_method_15_code, 4, (some .int), 8, 8, 1, 0),
  (yX8_variable, prog_1_method_16_code, 4, (some .long), 8, 7, 3, 0),
  (yX8_scavenge, prog_1_method_17_code, 2, (some .int), 8, 7, 0, 0),
  (yX8_power, prog_1_method_18_code, 2, none, 8, 6, 1, 0),
  (yX8_reopen, prog_1_method_19_code, 1, (some .int), 8, 4, 0, 0),
  (yX8_told, prog_1_method_20_code, 2, (some .int), 8, 6, 1, 0),
  (yX8_check, prog_1_method_21_code, 1, (some .int), 8, 1, 0, 0),
  (yX8_isPlainStream, prog_1_method_22_code, 1, (some .boolean), 8, 1, 1, 1),
  (yX8_isStream, prog_1_method_23_code, 1, (some .boolean), 8, 1, 1, 1),
  (yX8_isStreamOrAll, prog_1_method_24_code, 1, (some .boolean), 8, 2, 1, 1),
  (yX8_isGroup, prog_1_method_25_code, 1, (some .boolean), 8, 1, 1, 1),
  (yX8_isProjection, prog_1_method_26_code, 1, (some .boolean), 8, 1, 1, 1),
  (yX8_isQuestion, prog_1_method_27_code, 2, (some .boolean), 8, 2, 1, 1),
  (yX8_toldOfState, prog_1_method_28_code, 3, (some .int), 8, 5, 1, 0),
  (yX8_toldOfAll, prog_1_method_29_code, 2, (some .int), 8, 4, 1, 0),
  (yX8_toldOfGroup, prog_1_method_30_code, 3, (some .int), 8, 3, 2, 0),
  (yX8_requireOn, prog_1_method_31_code, 1, none, 8, 6, 0, 0),
  (yX8_requireRoom, prog_1_method_32_code, 2, none, 8, 6, 1, 0),
  (yX8_requireNotEnded, prog_1_method_33_code, 2, none, 8, 7, 1, 0),
  (yX8_requireOut, prog_1_method_34_code, 3, none, 8, 7, 2, 0),
  (yX8_throwIfPowerFailed, prog_1_method_35_code, 1, none, 8, 6, 0, 0),
  (yX8_forgetWhatDoesNotLast, prog_1_method_36_code, 2, none, 8, 3, 0, 0),
  (yX8_passTo, prog_1_method_37_code, 3, none, 8, 4, 1, 0),
  (yX8_breakAt, prog_1_method_38_code, 3, (some .int), 8, 7, 2, 0),
  (yX8_keepWork, prog_1_method_39_code, 4, (some .int), 8, 7, 2, 0),
  (yX8_keptBytes, prog_1_method_40_code, 3, (some .int), 8, 4, 0, 0),
  (yX8_keptGroupBytes, prog_1_method_41_code, 3, (some .int), 8, 3, 1, 0),
  (yX8_keptProjectionBytes, prog_1_method_42_code, 1, (some .int), 8, 2, 1, 1),
  (yX9_init, prog_11_method_1_code, 2, none, 9, 1, 0, 2),
  (yX9_thrown, prog_11_method_2_code, 1, (some .int), 9, 1, 0, 0),
  (yX9_bad, prog_11_method_3_code, 3, (some .boolean), 9, 1, 2, 0),
  (yX9_in, prog_11_method_4_code, 3, (some .boolean), 9, 1, 3, 1),
  (yX9_off, prog_11_method_5_code, 2, none, 9, 1, 0, 0),
  (yX9_isFull, prog_11_method_6_code, 2, (some .boolean), 9, 1, 1, 0),
  (yX9_lasts, prog_11_method_7_code, 2, (some .boolean), 9, 1, 1, 0),
  (yX9_fails, prog_11_method_8_code, 2, none, 9, 2, 1, 0)]
def eMs3 : List eMT := [(yX9_hide, prog_11_method_9_code, 3, none, 9, 1, 0, 0),
  (yX9_comes, prog_11_method_10_code, 7, none, 9, 1, 4, 0),
  (yX9_draft, prog_11_method_11_code, 5, (some .int), 9, 2, 3, 0),
  (yX9_at, prog_11_method_12_code, 4, (some .int), 9, 1, 2, 0),
  (yX9_stands, prog_11_method_13_code, 6, (some .int), 9, 2, 3, 0),
  (yX9_append, prog_11_method_14_code, 8, (some .int), 9, 3, 2, 0),
  (yX9_visible, prog_11_method_15_code, 4, (some .int), 9, 1, 1, 0),
  (yX9_settings, prog_11_method_16_code, 6, (some .int), 9, 3, 4, 0),
  (yX9_end, prog_11_method_17_code, 3, (some .int), 9, 3, 1, 0),
  (yX9_tick, prog_11_method_18_code, 7, (some .int), 9, 3, 1, 0),
  (yX9_read, prog_11_method_19_code, 9, (some .int), 9, 2, 4, 0),
  (yX9_event, prog_11_method_20_code, 3, (some .long), 9, 2, 2, 0),
  (yX9_isWanted, prog_11_method_21_code, 3, (some .boolean), 9, 1, 2, 0),
  (yX9_group, prog_11_method_22_code, 7, (some .int), 9, 3, 4, 0),
  (yX9_isGroup, prog_11_method_23_code, 2, (some .boolean), 9, 2, 1, 0),
  (yX9_outs, prog_11_method_24_code, 4, (some .int), 9, 1, 1, 0),
  (yX9_take, prog_11_method_25_code, 4, (some .int), 9, 3, 1, 0),
  (yX9_isOut, prog_11_method_26_code, 3, (some .boolean), 9, 3, 2, 0),
  (yX9_acknowledge, prog_11_method_27_code, 4, (some .int), 9, 4, 2, 0),
  (yX9_refuse, prog_11_method_28_code, 4, (some .int), 9, 4, 2, 0),
  (yX9_code, prog_11_method_29_code, 3, (some .int), 9, 2, 2, 0),
  (yX9_projection, prog_11_method_30_code, 8, (some .int), 9, 3, 4, 0),
  (yX9_push, prog_11_method_31_code, 3, none, 9, 1, 1, 0),
  (yX9_pop, prog_11_method_32_code, 1, (some .long), 9, 1, 0, 0),
  (yX9_works, prog_11_method_33_code, 7, (some .boolean), 9, 3, 2, 0),
  (yX9_does, prog_11_method_34_code, 8, none, 9, 2, 3, 0),
  (yX9_step, prog_11_method_35_code, 7, (some .int), 9, 4, 1, 0),
  (yX9_variable, prog_11_method_36_code, 4, (some .long), 9, 2, 3, 0),
  (yX9_scavenge, prog_11_method_37_code, 6, (some .int), 9, 3, 0, 0),
  (yX9_power, prog_11_method_38_code, 2, none, 9, 2, 1, 0),
  (yX9_reopen, prog_11_method_39_code, 1, (some .int), 9, 2, 0, 0),
  (yX9_counted, prog_11_method_40_code, 5, (some .int), 9, 1, 2, 0),
  (yX9_told, prog_11_method_41_code, 4, (some .int), 9, 2, 1, 0),
  (yX9_check, prog_11_method_42_code, 1, (some .int), 9, 1, 0, 0),
  (yJ7_fill_d0a16, prog_22_method_101_code, 5, none, 12, 1, 2, 1),
  (yJ7_fill_53178, prog_22_method_103_code, 4, none, 12, 1, 2, 1),
  (yL_draft, method_3_code, 7, (some .int), 10, 7, 5, 3),
  (yL_append, method_4_code, 5, (some .int), 10, 8, 4, 3),
  (yL_settings, method_5_code, 7, (some .int), 10, 9, 6, 3),
  (yL_end, method_6_code, 4, (some .int), 10, 9, 3, 3)]
def eMs4 : List eMT := [(yL_tick, method_7_code, 4, (some .int), 10, 8, 3, 3),
  (yL_read, method_8_code, 7, (some .int), 10, 8, 6, 3),
  (yL_event, method_9_code, 5, (some .int), 10, 8, 4, 3),
  (yL_group, method_10_code, 7, (some .int), 10, 8, 6, 3),
  (yL_take, method_11_code, 4, (some .int), 10, 8, 3, 3),
  (yL_acknowledge, method_12_code, 5, (some .int), 10, 9, 4, 3),
  (yL_refuse, method_13_code, 5, (some .int), 10, 9, 4, 3),
  (yL_code, method_14_code, 5, (some .int), 10, 7, 4, 3),
  (yL_projection, method_15_code, 7, (some .int), 10, 8, 6, 3),
  (yL_step, method_16_code, 4, (some .int), 10, 9, 3, 3),
  (yL_variable, method_17_code, 6, (some .int), 10, 8, 5, 3),
  (yL_scavenge, method_18_code, 3, (some .int), 10, 8, 2, 3),
  (yL_power, method_19_code, 3, (some .int), 10, 7, 2, 3),
  (yL_told, method_20_code, 4, (some .int), 10, 7, 3, 3),
  (yL_law, code, 8, (some .boolean), 10, 10, 1, 4)]
def eMs : List eMT := eMs0 ++ (eMs1 ++ (eMs2 ++ (eMs3 ++ (eMs4))))
def eM (r : Nat) : eMT := (eMs[r]?).getD (yL_law, code, 8, some .boolean, 10, 1, 0, 9)
def eY (r : Nat) : MethodName := (eM r).1
def eB (r : Nat) : ByteArray := (eM r).2.1
def eL (r : Nat) : Nat := (eM r).2.2.1
def eRt (r : Nat) : Option FieldType := (eM r).2.2.2.1
def eC (r : Nat) : Nat := (eM r).2.2.2.2.1
def eDp (r : Nat) : Nat := (eM r).2.2.2.2.2.1
def eNP (r : Nat) : Nat := (eM r).2.2.2.2.2.2.1
def eKd (r : Nat) : Nat := (eM r).2.2.2.2.2.2.2
def eLF : List (Nat × Nat × Nat × Nat × Bool × Nat) := [(0, 9, 0, 0, false, 36), (8, 330, 0, 0, true, 37), (0, 20, 0, 1, false, 38), (8, 312, 0, 1, true, 39), (0, 27, 0, 2, false, 40), (8, 333, 0, 2, true, 41), (0, 15, 0, 3, false, 42), (8, 318, 0, 3, true, 43), (1, 9, 1, 0, false, 59), (2, 66, 1, 0, true, 60), (1, 13, 1, 1, false, 61), (2, 69, 1, 1, true, 62), (1, 16, 1, 2, false, 63), (2, 72, 1, 2, true, 64), (1, 20, 1, 3, false, 65), (8, 65, 1, 3, true, 66), (2, 65, 1, 3, true, 67), (5, 11, 5, 0, false, 85), (4, 73, 5, 0, true, 86), (5, 15, 5, 1, false, 87), (4, 76, 5, 1, true, 88), (4, 57, 5, 2, true, 89), (5, 20, 5, 2, false, 90), (8, 256, 5, 2, true, 91), (7, 7, 7, 0, false, 112), (2, 53, 7, 0, true, 113), (8, 342, 7, 0, true, 114), (7, 13, 7, 1, false, 115), (7, 16, 7, 2, false, 116), (2, 100, 7, 2, true, 117), (7, 19, 7, 3, false, 118), (7, 26, 7, 4, false, 119), (8, 108, 7, 4, true, 120), (7, 30, 7, 5, false, 121), (2, 42, 7, 5, true, 122), (8, 150, 7, 5, true, 123), (2, 9, 2, 0, false, 137), (4, 31, 2, 0, true, 138), (6, 57, 2, 0, true, 139), (8, 194, 2, 0, true, 140), (2, 15, 2, 1, false, 141), (4, 109, 2, 1, true, 142), (8, 198, 2, 1, true, 143), (2, 18, 2, 2, false, 144), (8, 201, 2, 2, true, 145), (2, 21, 2, 3, false, 146), (6, 61, 2, 3, true, 147), (4, 106, 2, 3, true, 148), (8, 204, 2, 3, true, 149), (2, 24, 2, 4, false, 150), (4, 103, 2, 4, true, 151), (8, 207, 2, 4, true, 152), (2, 28, 2, 5, false, 153), (8, 211, 2, 5, true, 154), (2, 33, 2, 6, false, 155), (8, 104, 2, 6, true, 156), (2, 38, 2, 7, false, 157), (6, 52, 2, 7, true, 158), (8, 120, 2, 7, true, 159), (3, 50, 2, 7, true, 160), (3, 63, 2, 8, true, 161), (8, 161, 2, 8, true, 162), (2, 94, 2, 8, false, 163), (4, 11, 4, 0, false, 189), (4, 15, 4, 1, false, 190), (6, 72, 4, 1, true, 191), (4, 18, 4, 2, false, 192), (2, 88, 4, 2, true, 193), (4, 22, 4, 3, false, 194), (2, 91, 4, 3, true, 195), (4, 47, 4, 4, false, 196), (2, 83, 4, 4, true, 197), (8, 378, 4, 4, true, 198), (4, 51, 4, 5, false, 199), (4, 54, 4, 6, false, 200), (4, 62, 4, 7, false, 201), (4, 65, 4, 8, false, 202), (8, 289, 4, 8, true, 203), (3, 9, 3, 0, false, 232), (3, 15, 3, 1, false, 233), (3, 18, 3, 2, false, 234), (3, 21, 3, 3, false, 235), (3, 47, 3, 4, false, 236), (8, 242, 3, 4, true, 237), (3, 24, 3, 5, false, 238), (8, 226, 3, 5, true, 239), (3, 28, 3, 6, false, 240), (3, 32, 3, 7, false, 241), (3, 35, 3, 8, false, 242), (6, 12, 6, 0, false, 269), (4, 25, 6, 0, true, 270), (8, 402, 6, 0, true, 271), (6, 18, 6, 1, false, 272), (4, 40, 6, 1, true, 273), (8, 299, 6, 1, true, 274), (6, 32, 6, 2, false, 275), (8, 274, 6, 2, true, 276), (6, 36, 6, 3, false, 277), (6, 40, 6, 4, false, 278), (6, 43, 6, 5, false, 279), (6, 46, 6, 6, false, 280), (8, 349, 6, 6, true, 281), (6, 49, 6, 7, false, 282), (8, 277, 6, 7, true, 283), (8, 10, 8, 0, false, 301), (8, 19, 8, 1, false, 302), (8, 26, 8, 2, false, 303), (8, 33, 8, 3, false, 304), (8, 40, 8, 4, false, 305), (8, 46, 8, 5, false, 306), (8, 52, 8, 6, false, 307), (9, 135, 9, 0, false, 968), (9, 7, 9, 1, false, 969), (9, 160, 9, 2, false, 970), (9, 144, 9, 3, false, 971), (9, 151, 9, 4, false, 972), (9, 13, 9, 5, false, 973), (9, 17, 9, 6, false, 974), (9, 21, 9, 7, false, 975), (9, 24, 9, 8, false, 976), (9, 27, 9, 9, false, 977), (9, 30, 9, 10, false, 978), (9, 34, 9, 11, false, 979), (9, 37, 9, 12, false, 980), (9, 157, 9, 13, false, 981), (9, 41, 9, 14, false, 982), (9, 44, 9, 15, false, 983), (9, 47, 9, 16, false, 984), (9, 50, 9, 17, false, 985), (9, 53, 9, 18, false, 986), (9, 56, 9, 19, false, 987), (9, 59, 9, 20, false, 988), (9, 62, 9, 21, false, 989), (9, 138, 9, 22, false, 990), (9, 65, 9, 23, false, 991), (9, 68, 9, 24, false, 992), (9, 71, 9, 25, false, 993), (9, 74, 9, 26, false, 994), (9, 77, 9, 27, false, 995), (9, 81, 9, 28, false, 996), (9, 84, 9, 29, false, 997), (9, 87, 9, 30, false, 998), (9, 90, 9, 31, false, 999), (9, 141, 9, 32, false, 1000), (9, 93, 9, 33, false, 1001), (9, 96, 9, 34, false, 1002), (9, 99, 9, 35, false, 1003), (9, 102, 9, 36, false, 1004), (9, 105, 9, 37, false, 1005), (9, 108, 9, 38, false, 1006), (9, 111, 9, 39, false, 1007), (9, 114, 9, 40, false, 1008), (9, 117, 9, 41, false, 1009), (9, 120, 9, 42, false, 1010), (9, 148, 9, 43, false, 1011), (9, 123, 9, 44, false, 1012), (9, 214, 9, 45, false, 1013), (9, 126, 9, 46, false, 1014), (9, 129, 9, 47, false, 1015), (9, 132, 9, 48, false, 1016), (9, 220, 9, 49, false, 1017), (9, 217, 9, 50, false, 1018)]
def eLM : List (Nat × Nat × Nat × Bool × Nat) := [(10, 80, 70, false, 24), (8, 9, 0, true, 32), (8, 18, 6, true, 55), (8, 25, 52, true, 81), (8, 32, 10, false, 101), (2, 37, 65, true, 108), (8, 39, 39, true, 185), (8, 56, 25, true, 228), (8, 57, 58, true, 263), (6, 11, 52, true, 268), (10, 150, 88, false, 323), (8, 321, 105, false, 327), (8, 101, 8, false, 331), (8, 273, 55, false, 335), (8, 372, 27, false, 339), (3, 38, 155, false, 343), (8, 324, 4, false, 346), (10, 157, 90, false, 350), (10, 86, 156, false, 354), (10, 7, 71, false, 359), (8, 74, 7, false, 448), (10, 95, 157, false, 452), (10, 17, 72, false, 474), (8, 78, 91, false, 478), (8, 84, 100, false, 482), (8, 89, 17, false, 488), (8, 93, 18, false, 492), (2, 49, 14, false, 496), (2, 45, 13, false, 500), (2, 56, 9, false, 504), (8, 97, 19, false, 508), (2, 61, 20, false, 512), (8, 114, 12, false, 516), (8, 117, 1, false, 520), (8, 121, 2, false, 526), (0, 23, 5, false, 530), (8, 124, 21, false, 534), (2, 75, 23, false, 538), (2, 79, 24, false, 542), (2, 97, 67, false, 546), (7, 22, 68, false, 550), (2, 103, 68, false, 560), (8, 128, 104, false, 561), (10, 99, 158, false, 568), (10, 23, 73, false, 571), (8, 131, 92, false, 575), (8, 136, 102, false, 579), (8, 140, 101, false, 584), (8, 143, 66, false, 589), (8, 147, 24, false, 593), (10, 103, 159, false, 594), (10, 27, 74, false, 597), (8, 155, 15, false, 602), (10, 107, 160, false, 606), (10, 31, 75, false, 609), (8, 164, 34, false, 614), (8, 168, 35, false, 618), (3, 74, 30, false, 622), (8, 171, 106, false, 626), (8, 375, 33, false, 630), (3, 77, 32, false, 634), (3, 66, 37, false, 638), (3, 70, 38, false, 642), (10, 110, 161, false, 646), (10, 34, 76, false, 649), (8, 174, 93, false, 653), (8, 179, 16, false, 657), (10, 114, 162, false, 661), (10, 38, 77, false, 665), (8, 183, 11, false, 669), (8, 186, 13, false, 673), (10, 117, 163, false, 691), (10, 44, 78, false, 694), (8, 216, 94, false, 698), (8, 223, 26, false, 703), (3, 44, 27, false, 707), (10, 120, 164, false, 708), (10, 47, 79, false, 711), (8, 231, 28, false, 716), (3, 55, 29, false, 720), (3, 59, 14, false, 724), (10, 123, 165, false, 725), (10, 50, 80, false, 728), (8, 235, 103, false, 732), (8, 362, 29, false, 736), (8, 239, 31, false, 738), (10, 126, 166, false, 742), (10, 53, 81, false, 745), (8, 245, 30, false, 749), (8, 248, 32, false, 750), (10, 129, 167, false, 751), (10, 56, 82, false, 754), (8, 251, 53, false, 758), (8, 259, 54, false, 763), (10, 132, 168, false, 767), (10, 59, 83, false, 770), (8, 261, 95, false, 774), (8, 264, 56, false, 777), (8, 270, 59, false, 782), (6, 22, 57, false, 786), (6, 26, 154, false, 793), (10, 135, 169, false, 796), (10, 62, 84, false, 799), (8, 282, 60, false, 805), (6, 64, 61, false, 809), (6, 68, 13, false, 813), (8, 285, 40, false, 814), (4, 36, 62, false, 818), (4, 69, 41, false, 823), (4, 79, 42, false, 827), (4, 83, 43, false, 831), (4, 87, 50, false, 835), (4, 91, 51, false, 839), (4, 95, 44, false, 843), (4, 112, 45, false, 847), (4, 99, 46, false, 851), (4, 116, 47, false, 855), (4, 119, 48, false, 859), (4, 123, 49, false, 863), (8, 290, 107, false, 867), (8, 294, 108, false, 871), (8, 383, 63, false, 876), (6, 75, 62, false, 880), (8, 387, 22, false, 882), (10, 138, 170, false, 886), (10, 65, 85, false, 889), (10, 142, 171, false, 894), (10, 69, 86, false, 897), (8, 302, 109, false, 901), (8, 391, 69, false, 905), (8, 394, 110, false, 909), (8, 352, 36, false, 913), (3, 80, 13, false, 917), (8, 398, 111, false, 918), (8, 405, 64, false, 921), (8, 309, 3, false, 927), (10, 146, 172, false, 931), (10, 73, 87, false, 934), (10, 154, 173, false, 940), (10, 77, 89, false, 943), (8, 327, 96, false, 947), (8, 336, 97, false, 950), (8, 339, 98, false, 954), (8, 345, 99, false, 958), (10, 83, 112, false, 964), (10, 92, 113, false, 1123), (10, 91, 122, false, 1127), (9, 163, 115, false, 1131), (9, 167, 114, false, 1134), (10, 98, 125, false, 1138), (9, 175, 124, false, 1142), (9, 171, 123, false, 1146), (9, 179, 117, false, 1150), (9, 183, 118, false, 1155), (9, 186, 121, false, 1159), (9, 190, 120, false, 1163), (9, 193, 119, false, 1167), (9, 154, 116, false, 1171), (10, 102, 127, false, 1175), (10, 106, 128, false, 1179), (9, 197, 126, false, 1183), (10, 109, 129, false, 1187), (10, 113, 130, false, 1191), (10, 116, 131, false, 1195), (10, 119, 133, false, 1199), (10, 122, 136, false, 1203), (9, 201, 134, false, 1207), (9, 204, 135, false, 1211), (9, 207, 132, false, 1215), (10, 125, 138, false, 1219), (9, 211, 137, false, 1223), (10, 128, 139, false, 1227), (10, 131, 140, false, 1231), (10, 134, 141, false, 1235), (10, 137, 146, false, 1239), (9, 235, 144, false, 1243), (9, 223, 143, false, 1247), (9, 227, 145, false, 1251), (9, 231, 142, false, 1255), (10, 141, 147, false, 1259), (10, 145, 148, false, 1263), (10, 149, 149, false, 1267), (10, 153, 150, false, 1272), (10, 156, 152, false, 1276), (9, 239, 151, false, 1280), (10, 160, 153, false, 1284)]
def eLC : List (Nat × Nat × Int × Nat) := [(0, 19, 100000, 524), (8, 306, 100000, 925), (8, 315, 70000, 938), (9, 147, 100000, 1154), (9, 238, 70000, 1271)]
def eLL : List (Nat × Nat × Nat × Nat) := [(10, 84, 4294967295, 1288)]
def eLN : List (Nat × Nat × Nat × Nat) := [(10, 8, 8, 22), (8, 7, 0, 30), (8, 16, 1, 53), (8, 23, 5, 79), (8, 30, 2, 99), (2, 31, 7, 105), (8, 37, 4, 183), (8, 44, 3, 223), (8, 50, 6, 225), (6, 9, 5, 267), (10, 81, 9, 962)]
def eLE : List (Nat × Nat × Nat × Nat) := [(10, 13, 0, 357), (10, 15, 1, 358), (8, 58, 0, 363), (8, 69, 1, 432), (10, 21, 2, 455), (8, 367, 2, 565), (10, 42, 3, 664), (8, 189, 3, 674)]
def eLI : List (Nat × Nat × Nat × Nat) := [(8, 62, 0, 406), (8, 73, 1, 442), (8, 371, 2, 567), (8, 193, 3, 684)]
def eLX : List (Nat × Nat × Nat × Nat) := [(7, 33, 0, 554), (7, 39, 1, 557)]
def eLO : List (Nat × Nat × Nat) := [(8, 1, 27), (0, 3, 35), (1, 1, 58), (5, 3, 84), (2, 3, 104), (7, 1, 111), (4, 3, 188), (3, 3, 231), (6, 3, 266), (9, 1, 967)]
def eLP : List (Nat × Nat × Nat) := [(5, 24, 790), (4, 41, 822), (6, 79, 881)]
def eLS : List (Nat × String × Nat) := [(60, "no such type", 405), (71, "the draft is full", 441), (82, "no such stream or version", 481), (356, "it is off", 486), (87, "the draft is empty", 487), (118, "the draft cannot be appended", 525), (369, "power failed", 566), (134, "no such stream or setting", 578), (360, "the stream is ended", 583), (358, "the disk is full", 588), (153, "no such stream", 601), (159, "no such tick", 613), (177, "no such stream or place", 656), (191, "no visible event there", 683), (214, "no such question", 690), (219, "no such group or stream", 701), (221, "no such position or retries", 702), (229, "no such group", 715), (365, "it is not out for such a group", 737), (254, "no such instruction", 761), (257, "the program is full", 762), (268, "no such projection or program", 781), (275, "no such projection", 803), (280, "the projection is broken", 804), (381, "there would be too many events", 875), (297, "no such variable", 893), (307, "the disk would be full", 926), (316, "no such byte", 939)]
def eFw (t : Nat × Nat × Nat × Nat × Bool × Nat) : Cond := if t.2.2.2.2.1 then .fieldLinkNest (eCN t.1) t.2.1 (eT t.2.2.1 t.2.2.2.1).1 (eT t.2.2.1 t.2.2.2.1).2.1 (eT t.2.2.1 t.2.2.2.1).2.2.1 "EventVault" else .fieldLink (eCN t.1) t.2.1 (eT t.2.2.1 t.2.2.2.1).1 (eT t.2.2.1 t.2.2.2.1).2.1 (eT t.2.2.1 t.2.2.2.1).2.2.1
def eMw (t : Nat × Nat × Nat × Bool × Nat) : Cond := if t.2.2.2.1 then .methodLinkNest (eCN t.1) t.2.1 (eY t.2.2.1) "EventVault" else .methodLink (eCN t.1) t.2.1 (eY t.2.2.1)
def eAt (i : Nat) (w : Cond) : Bool := decide (tables_1[i]? = some w)
theorem eAt_mem {i : Nat} {w : Cond} (h : eAt i w = true) : w ∈ lw_tbl := List.mem_append_right _ (List.mem_of_getElem? (of_decide_eq_true h))
theorem eLF_ok : (eLF.all fun t => eAt t.2.2.2.2.2 (eFw t) && decide (t.2.2.2.1 < eNF t.2.2.1) && decide (t.2.2.1 < 10)) = true := by decide +kernel
theorem eLM_ok : (eLM.all fun t => eAt t.2.2.2.2 (eMw t) && decide (t.2.2.1 < 175)) = true := by decide +kernel
theorem eLC_ok : (eLC.all fun t => eAt t.2.2.2 (.constant (eCN t.1) t.2.1 (Int32.ofInt t.2.2.1))) = true := by decide +kernel
theorem eLL_ok : (eLL.all fun t => eAt t.2.2.2 (.constantLong (eCN t.1) t.2.1 (Int64.ofNat t.2.2.1))) = true := by decide +kernel
theorem eLN_ok : (eLN.all fun t => eAt t.2.2.2 (.classLink (eCN t.1) t.2.1 (eCN t.2.2.1)) && decide (t.2.2.1 < 10)) = true := by decide +kernel
theorem eLE_ok : (eLE.all fun t => eAt t.2.2.2 (.classLink (eCN t.1) t.2.1 (eEN t.2.2.1))) = true := by decide +kernel
theorem eLI_ok : (eLI.all fun t => eAt t.2.2.2 (.methodLink (eCN t.1) t.2.1 (Bundle.initS (eEN t.2.2.1)))) = true := by decide +kernel
theorem eLX_ok : (eLX.all fun t => eAt t.2.2.2 (.methodLink (eCN t.1) t.2.1 (if t.2.2.1 = 1 then Lib.Math.max.name else Lib.Math.min.name))) = true := by decide +kernel
theorem eLO_ok : (eLO.all fun t => eAt t.2.2 (.methodLink (eCN t.1) t.2.1 objectInit)) = true := by decide +kernel
theorem eLP_ok : (eLP.all fun t => eAt t.2.2 (.methodLink (eCN t.1) t.2.1 arraycopyName)) = true := by decide +kernel
theorem eLS_ok : (eLS.all fun t => eAt t.2.2 (.stringRef RX8 t.1 t.2.1)) = true := by decide +kernel
def ePos : List (Nat × Nat × Nat × Nat) := [(34, 2, 33, 0), (523, 2, 521, 573), (529, 2, 527, 579), (930, 2, 928, 980), (349, 2, 347, 399), (533, 2, 532, 4), (57, 3, 56, 0), (451, 3, 449, 501), (334, 3, 332, 384), (507, 3, 505, 557), (103, 5, 102, 0), (672, 5, 670, 722), (519, 5, 517, 569), (503, 5, 501, 553), (499, 5, 497, 549), (605, 5, 603, 655), (660, 5, 658, 710), (491, 5, 489, 541), (495, 5, 493, 545), (511, 5, 509, 561), (515, 5, 514, 3), (537, 5, 535, 587), (885, 5, 883, 935), (541, 5, 540, 5), (545, 5, 543, 595), (230, 8, 229, 0), (706, 8, 704, 756), (342, 8, 340, 392), (719, 8, 717, 769), (723, 8, 721, 773), (625, 8, 623, 675), (741, 8, 739, 791), (637, 8, 635, 687), (633, 8, 631, 683), (617, 8, 615, 667), (621, 8, 619, 671), (916, 8, 914, 966), (641, 8, 640, 10), (645, 8, 644, 11), (187, 7, 186, 0), (817, 7, 815, 867), (826, 7, 825, 14), (830, 7, 829, 15), (834, 7, 833, 16), (846, 7, 845, 19), (850, 7, 849, 20), (854, 7, 853, 21), (858, 7, 857, 22), (862, 7, 861, 23), (866, 7, 865, 24), (838, 7, 837, 17), (842, 7, 841, 18), (83, 4, 82, 0), (760, 4, 759, 0), (766, 4, 764, 816), (338, 4, 336, 388), (780, 4, 778, 830), (789, 4, 787, 839), (265, 9, 264, 0), (785, 9, 783, 835), (808, 9, 806, 858), (812, 9, 811, 13), (821, 9, 819, 871), (879, 9, 877, 929), (924, 9, 922, 974), (110, 6, 109, 0), (592, 6, 590, 642), (549, 6, 547, 599), (553, 6, 551, 603), (908, 6, 906, 958), (26, 1, 25, 0), (362, 1, 360, 412), (477, 1, 475, 527), (574, 1, 572, 624), (600, 1, 598, 650), (612, 1, 610, 662), (652, 1, 650, 702), (668, 1, 666, 718), (697, 1, 695, 747), (714, 1, 712, 764), (731, 1, 729, 781), (748, 1, 746, 798), (757, 1, 755, 807), (773, 1, 771, 823), (802, 1, 800, 852), (892, 1, 890, 942), (900, 1, 898, 950), (937, 1, 935, 987), (326, 1, 324, 376), (946, 1, 944, 996), (353, 1, 351, 403), (480, 1, 479, 0), (577, 1, 576, 0), (655, 1, 654, 0), (700, 1, 699, 0), (776, 1, 775, 0), (949, 1, 948, 0), (953, 1, 952, 29), (957, 1, 956, 30), (961, 1, 960, 31), (485, 1, 484, 2), (587, 1, 586, 8), (582, 1, 581, 7), (735, 1, 734, 12), (564, 1, 563, 6), (330, 1, 329, 0), (629, 1, 628, 9), (870, 1, 869, 25), (874, 1, 873, 26), (904, 1, 903, 27), (912, 1, 911, 28), (920, 1, 919, 0), (966, 10, 965, 0), (1126, 10, 1124, 1176), (1137, 10, 1136, 32), (1133, 10, 1132, 0), (1174, 10, 1173, 40), (1153, 10, 1152, 35), (1158, 10, 1157, 36), (1170, 10, 1169, 39), (1166, 10, 1165, 38), (1162, 10, 1161, 37), (1130, 10, 1128, 1180), (1149, 10, 1148, 34), (1145, 10, 1144, 33), (1141, 10, 1139, 1191), (1186, 10, 1185, 41), (1178, 10, 1176, 1228), (1182, 10, 1180, 1232), (1190, 10, 1188, 1240), (1194, 10, 1192, 1244), (1198, 10, 1196, 1248), (1218, 10, 1217, 44), (1202, 10, 1200, 1252), (1210, 10, 1209, 42), (1214, 10, 1213, 43), (1206, 10, 1204, 1256), (1226, 10, 1225, 45), (1222, 10, 1220, 1272), (1230, 10, 1228, 1280), (1234, 10, 1232, 1284), (1238, 10, 1236, 1288), (1258, 10, 1257, 49), (1250, 10, 1249, 47), (1246, 10, 1245, 46), (1254, 10, 1253, 48), (1242, 10, 1240, 1292), (1262, 10, 1260, 1312), (1266, 10, 1264, 1316), (1270, 10, 1268, 1320), (1275, 10, 1273, 1325), (1283, 10, 1282, 50), (1279, 10, 1277, 1329), (1287, 10, 1285, 1337), (795, 19, 794, 0), (345, 19, 344, 0), (356, 0, 355, 0), (454, 0, 453, 0), (570, 0, 569, 0), (596, 0, 595, 0), (608, 0, 607, 0), (648, 0, 647, 0), (663, 0, 662, 0), (693, 0, 692, 0), (710, 0, 709, 0), (727, 0, 726, 0), (744, 0, 743, 0), (753, 0, 752, 0), (769, 0, 768, 0), (798, 0, 797, 0), (888, 0, 887, 0), (896, 0, 895, 0), (933, 0, 932, 0), (942, 0, 941, 0), (0, 0, 0, 0)]
def eHL (r : Nat) : List (Nat × Nat × Nat × Nat) := match r with
  | 156 => [((0), (12), (15), (13)), ((0), (12), (19), (15))]
  | 157 => [((0), (10), (13), (13)), ((0), (10), (17), (15)), ((0), (10), (21), (21))]
  | 158 => [((0), (14), (17), (13)), ((0), (14), (21), (15)), ((0), (14), (25), (21))]
  | 159 => [((0), (9), (12), (13)), ((0), (9), (15), (15)), ((0), (9), (18), (21))]
  | 160 => [((0), (9), (12), (13)), ((0), (9), (15), (15)), ((0), (9), (18), (21))]
  | 161 => [((0), (14), (17), (13)), ((0), (14), (21), (15))]
  | 162 => [((0), (9), (12), (42)), ((0), (9), (16), (13)), ((0), (9), (20), (15))]
  | 163 => [((0), (14), (17), (13)), ((0), (14), (21), (15)), ((0), (14), (25), (21))]
  | 164 => [((0), (9), (12), (42)), ((0), (9), (15), (15))]
  | 165 => [((0), (10), (13), (42)), ((0), (10), (17), (15)), ((0), (10), (21), (21))]
  | 166 => [((0), (10), (13), (42)), ((0), (10), (17), (15)), ((0), (10), (21), (21))]
  | 167 => [((0), (10), (13), (13)), ((0), (10), (17), (15))]
  | 168 => [((0), (14), (17), (13)), ((0), (14), (21), (15)), ((0), (14), (25), (21))]
  | 169 => [((0), (9), (12), (42)), ((0), (9), (15), (15)), ((0), (9), (18), (21))]
  | 170 => [((0), (11), (14), (42)), ((0), (11), (18), (13)), ((0), (11), (22), (15))]
  | 171 => [((0), (8), (11), (15)), ((0), (8), (14), (21))]
  | 172 => [((0), (5), (8), (13))]
  | 173 => [((0), (9), (12), (13))]
  | _ => []
def eCw (r : Nat) : Cond := if eKd r = 3 then .codeWith (eY r) (eB r) (eL r) (eRt r) (eHL r) else .code (eY r) (eB r) (eL r) (eRt r)
def eBq (a b : ByteArray) : Bool := decide (a.data.toList = b.data.toList)
theorem eBq_eq {a b : ByteArray} (h : eBq a b = true) : a = b := by
  have h1 : a.data.toList = b.data.toList := of_decide_eq_true h
  have h2 : a.data = b.data := Array.toList_inj.mp h1
  cases a; cases b; cases h2; rfl
/-- the code word stands at the place i (its bytes are held against one another as lists) -/
def eCat (i r : Nat) : Bool := match tables_1[i]? with
  | some (.code y b n t) => decide (y = eY r) && eBq b (eB r) && decide (n = eL r) && decide (t = eRt r) && !(eKd r == 3)
  | some (.codeWith y b n t h) => decide (y = eY r) && eBq b (eB r) && decide (n = eL r) && decide (t = eRt r) && decide (h = eHL r) && (eKd r == 3)
  | _ => false
theorem eCat_mem {i r : Nat} (h : eCat i r = true) : eCw r ∈ lw_tbl := by
  unfold eCat at h
  split at h
  · rename_i y b n t hw
    simp only [Bool.and_eq_true, decide_eq_true_eq, Bool.not_eq_true', beq_eq_false_iff_ne, ne_eq] at h
    obtain ⟨⟨⟨⟨h1, h2⟩, h3⟩, h4⟩, h5⟩ := h
    have h2 := eBq_eq h2
    subst h1 h2 h3 h4
    have e : eCw r = .code (eY r) (eB r) (eL r) (eRt r) := by unfold eCw; rw [if_neg h5]
    rw [e]
    exact List.mem_append_right _ (List.mem_of_getElem? hw)
  · rename_i y b n t hh hw
    simp only [Bool.and_eq_true, decide_eq_true_eq, beq_iff_eq] at h
    obtain ⟨⟨⟨⟨⟨h1, h2⟩, h3⟩, h4⟩, h6⟩, h5⟩ := h
    have h2 := eBq_eq h2
    subst h1 h2 h3 h4 h6
    have e : eCw r = .codeWith (eY r) (eB r) (eL r) (eRt r) (eHL r) := by unfold eCw; rw [if_pos h5]
    rw [e]
    exact List.mem_append_right _ (List.mem_of_getElem? hw)
  · cases h
def eMok (r : Nat) (p : Nat × Nat × Nat × Nat) : Bool :=
  (eKd r == 4) || (eCat p.1 r && goodWord (eCw r) && eAt p.2.1 (.initialized (eY r).cls) && decide ((eY r).cls = eCN (eC r)) && plainName (eY r).cls && decide ((eY r).cls ≠ "java/lang/invoke/MethodHandle") && decide ((eY r).cls ≠ "java/lang/invoke/VarHandle")
   && decide ((parseMethodDescriptor (eY r).desc).map (fun d => d.parameters.length) = some (eNP r))
   && (if eKd r = 0 then eAt p.2.2.1 (.instanceMethod (eY r)) && decide (lw_tbl[p.2.2.2]? = some (.selects (eY r).cls (eY r) (eY r)))
       else if eKd r = 2 then eAt p.2.2.1 (.instanceMethod (eY r)) && decide ((eY r).name = "<init>")
       else eAt p.2.2.1 (.static (eY r))))
def eMokR (r : Nat) : Bool := eMok r ((ePos[r]?).getD (0, 0, 0, 0))
theorem eM_ok0 : ((List.range 6).all fun r => eMokR (0 + r)) = true := by decide +kernel
theorem eM_ok1 : ((List.range 6).all fun r => eMokR (6 + r)) = true := by decide +kernel
theorem eM_ok2 : ((List.range 6).all fun r => eMokR (12 + r)) = true := by decide +kernel
theorem eM_ok3 : ((List.range 6).all fun r => eMokR (18 + r)) = true := by decide +kernel
theorem eM_ok4 : ((List.range 6).all fun r => eMokR (24 + r)) = true := by decide +kernel
theorem eM_ok5 : ((List.range 6).all fun r => eMokR (30 + r)) = true := by decide +kernel
theorem eM_ok6 : ((List.range 6).all fun r => eMokR (36 + r)) = true := by decide +kernel
theorem eM_ok7 : ((List.range 6).all fun r => eMokR (42 + r)) = true := by decide +kernel
theorem eM_ok8 : ((List.range 6).all fun r => eMokR (48 + r)) = true := by decide +kernel
theorem eM_ok9 : ((List.range 6).all fun r => eMokR (54 + r)) = true := by decide +kernel
theorem eM_ok10 : ((List.range 6).all fun r => eMokR (60 + r)) = true := by decide +kernel
theorem eM_ok11 : ((List.range 6).all fun r => eMokR (66 + r)) = true := by decide +kernel
theorem eM_ok12 : ((List.range 6).all fun r => eMokR (72 + r)) = true := by decide +kernel
theorem eM_ok13 : ((List.range 6).all fun r => eMokR (78 + r)) = true := by decide +kernel
theorem eM_ok14 : ((List.range 6).all fun r => eMokR (84 + r)) = true := by decide +kernel
theorem eM_ok15 : ((List.range 6).all fun r => eMokR (90 + r)) = true := by decide +kernel
theorem eM_ok16 : ((List.range 6).all fun r => eMokR (96 + r)) = true := by decide +kernel
theorem eM_ok17 : ((List.range 6).all fun r => eMokR (102 + r)) = true := by decide +kernel
theorem eM_ok18 : ((List.range 6).all fun r => eMokR (108 + r)) = true := by decide +kernel
theorem eM_ok19 : ((List.range 6).all fun r => eMokR (114 + r)) = true := by decide +kernel
theorem eM_ok20 : ((List.range 6).all fun r => eMokR (120 + r)) = true := by decide +kernel
theorem eM_ok21 : ((List.range 6).all fun r => eMokR (126 + r)) = true := by decide +kernel
theorem eM_ok22 : ((List.range 6).all fun r => eMokR (132 + r)) = true := by decide +kernel
theorem eM_ok23 : ((List.range 6).all fun r => eMokR (138 + r)) = true := by decide +kernel
theorem eM_ok24 : ((List.range 6).all fun r => eMokR (144 + r)) = true := by decide +kernel
theorem eM_ok25 : ((List.range 6).all fun r => eMokR (150 + r)) = true := by decide +kernel
theorem eM_ok26 : ((List.range 6).all fun r => eMokR (156 + r)) = true := by decide +kernel
theorem eM_ok27 : ((List.range 6).all fun r => eMokR (162 + r)) = true := by decide +kernel
theorem eM_ok28 : ((List.range 6).all fun r => eMokR (168 + r)) = true := by decide +kernel
theorem eM_ok29 : ((List.range 1).all fun r => eMokR (174 + r)) = true := by decide +kernel
theorem eM_chunk {a n : Nat} (h : ((List.range n).all fun r => eMokR (a + r)) = true) {r : Nat} (h1 : a ≤ r) (h2 : r < a + n) : eMokR r = true := by
  have h3 := List.all_eq_true.mp h (r - a) (List.mem_range.mpr (by omega))
  rwa [show a + (r - a) = r by omega] at h3
theorem eM_ok {r : Nat} (h : r < 175) : eMokR r = true := by
  by_cases c0 : r < 6
  · exact eM_chunk eM_ok0 (by omega) (by omega)
  by_cases c1 : r < 12
  · exact eM_chunk eM_ok1 (by omega) (by omega)
  by_cases c2 : r < 18
  · exact eM_chunk eM_ok2 (by omega) (by omega)
  by_cases c3 : r < 24
  · exact eM_chunk eM_ok3 (by omega) (by omega)
  by_cases c4 : r < 30
  · exact eM_chunk eM_ok4 (by omega) (by omega)
  by_cases c5 : r < 36
  · exact eM_chunk eM_ok5 (by omega) (by omega)
  by_cases c6 : r < 42
  · exact eM_chunk eM_ok6 (by omega) (by omega)
  by_cases c7 : r < 48
  · exact eM_chunk eM_ok7 (by omega) (by omega)
  by_cases c8 : r < 54
  · exact eM_chunk eM_ok8 (by omega) (by omega)
  by_cases c9 : r < 60
  · exact eM_chunk eM_ok9 (by omega) (by omega)
  by_cases c10 : r < 66
  · exact eM_chunk eM_ok10 (by omega) (by omega)
  by_cases c11 : r < 72
  · exact eM_chunk eM_ok11 (by omega) (by omega)
  by_cases c12 : r < 78
  · exact eM_chunk eM_ok12 (by omega) (by omega)
  by_cases c13 : r < 84
  · exact eM_chunk eM_ok13 (by omega) (by omega)
  by_cases c14 : r < 90
  · exact eM_chunk eM_ok14 (by omega) (by omega)
  by_cases c15 : r < 96
  · exact eM_chunk eM_ok15 (by omega) (by omega)
  by_cases c16 : r < 102
  · exact eM_chunk eM_ok16 (by omega) (by omega)
  by_cases c17 : r < 108
  · exact eM_chunk eM_ok17 (by omega) (by omega)
  by_cases c18 : r < 114
  · exact eM_chunk eM_ok18 (by omega) (by omega)
  by_cases c19 : r < 120
  · exact eM_chunk eM_ok19 (by omega) (by omega)
  by_cases c20 : r < 126
  · exact eM_chunk eM_ok20 (by omega) (by omega)
  by_cases c21 : r < 132
  · exact eM_chunk eM_ok21 (by omega) (by omega)
  by_cases c22 : r < 138
  · exact eM_chunk eM_ok22 (by omega) (by omega)
  by_cases c23 : r < 144
  · exact eM_chunk eM_ok23 (by omega) (by omega)
  by_cases c24 : r < 150
  · exact eM_chunk eM_ok24 (by omega) (by omega)
  by_cases c25 : r < 156
  · exact eM_chunk eM_ok25 (by omega) (by omega)
  by_cases c26 : r < 162
  · exact eM_chunk eM_ok26 (by omega) (by omega)
  by_cases c27 : r < 168
  · exact eM_chunk eM_ok27 (by omega) (by omega)
  by_cases c28 : r < 174
  · exact eM_chunk eM_ok28 (by omega) (by omega)
  exact eM_chunk eM_ok29 (by omega) (by omega)
/-- the words of the classes' fields -/
def eUp : List (List Nat) := [[44, 46, 48, 50], [68, 70, 72, 74], [164, 166, 168, 170, 172, 174, 176, 178, 180], [243, 245, 247, 249, 251, 253, 255, 257, 259], [204, 206, 208, 210, 212, 214, 216, 218, 220], [92, 94, 96], [284, 286, 288, 290, 292, 294, 296, 298], [124, 126, 128, 130, 132, 134], [308, 310, 312, 314, 316, 318, 320], [1019, 1021, 1023, 1025, 1027, 1029, 1031, 1033, 1035, 1037, 1039, 1041, 1043, 1045, 1047, 1049, 1051, 1053, 1055, 1057, 1059, 1061, 1063, 1065, 1067, 1069, 1071, 1073, 1075, 1077, 1079, 1081, 1083, 1085, 1087, 1089, 1091, 1093, 1095, 1097, 1099, 1101, 1103, 1105, 1107, 1109, 1111, 1113, 1115, 1117, 1119]]
theorem eU_ok : ((List.range 10).all fun c => decide (u_ws (eCN c) (eT c) (eNF c) = ((eUp[c]?).getD []).filterMap (fun i => tables_1[i]?))) = true := by decide +kernel
