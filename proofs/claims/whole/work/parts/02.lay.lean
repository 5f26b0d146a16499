/-! the layout: classes, the cells that the law makes, methods, pool entries; printed by wip/whole/gen_lay.py -/
def x_R : Nat → String := fun o => match o with
  | 0 => RX0
  | 1 => RX1
  | 2 => RX2
  | 3 => RX3
  | 4 => RX4
  | 5 => RX5
  | 6 => RX6
  | 7 => RX7
  | 8 => RX8
  | 9 => RX9
  | 10 => RX10
  | _ => RL
def x_TT : Nat → u_T := fun o => match o with
  | 0 => TX0
  | 1 => TX1
  | 2 => TX2
  | 3 => TX3
  | 4 => TX4
  | 5 => TX5
  | 6 => TX6
  | 7 => TX7
  | 8 => TX8
  | 9 => TX9
  | _ => TX10
def x_tys : Nat → Nat → FieldType := fun o => match o with
  | 0 => tyX0
  | 1 => tyX1
  | 2 => tyX2
  | 3 => tyX3
  | 4 => tyX4
  | 5 => tyX5
  | 6 => tyX6
  | 7 => tyX7
  | 8 => tyX8
  | 9 => tyX9
  | _ => tyX10
def x_nF : Nat → Nat := fun o => match o with
  | 0 => 17
  | 1 => 3
  | 2 => 9
  | 3 => 1
  | 4 => 9
  | 5 => 5
  | 6 => 1
  | 7 => 12
  | 8 => 3
  | 9 => 20
  | _ => 39
def x_CL : List vw_C := [(RX0, TX0, 17), (RX1, TX1, 3), (RX2, TX2, 9), (RX3, TX3, 1), (RX4, TX4, 9), (RX5, TX5, 5), (RX6, TX6, 1), (RX7, TX7, 12), (RX8, TX8, 3), (RX9, TX9, 20), (RX10, TX10, 39)]
theorem x_CL_at : ∀ ci, ci < 11 → x_CL[ci]? = some (x_R ci, x_TT ci, x_nF ci)
  | 0, _ => rfl
  | 1, _ => rfl
  | 2, _ => rfl
  | 3, _ => rfl
  | 4, _ => rfl
  | 5, _ => rfl
  | 6, _ => rfl
  | 7, _ => rfl
  | 8, _ => rfl
  | 9, _ => rfl
  | 10, _ => rfl
  | n + 11, h => absurd h (by omega)
theorem x_nm : ∀ ci, ci < 11 → ∀ a, a < x_nF ci → ∀ b, b < x_nF ci → a ≠ b → (x_TT ci a).2.1 ≠ (x_TT ci b).2.1
  | 0, _ => nmX0
  | 1, _ => nmX1
  | 2, _ => nmX2
  | 3, _ => nmX3
  | 4, _ => nmX4
  | 5, _ => nmX5
  | 6, _ => nmX6
  | 7, _ => nmX7
  | 8, _ => nmX8
  | 9, _ => nmX9
  | 10, _ => nmX10
  | n + 11, h => absurd h (by omega)
theorem x_tyok : ∀ ci, ci < 11 → ∀ k, k < x_nF ci → parseFieldDescriptor (x_TT ci k).2.2.1 = some (x_tys ci k)
  | 0, _ => tyX0_ok
  | 1, _ => tyX1_ok
  | 2, _ => tyX2_ok
  | 3, _ => tyX3_ok
  | 4, _ => tyX4_ok
  | 5, _ => tyX5_ok
  | 6, _ => tyX6_ok
  | 7, _ => tyX7_ok
  | 8, _ => tyX8_ok
  | 9, _ => tyX9_ok
  | 10, _ => tyX10_ok
  | n + 11, h => absurd h (by omega)
/-- the kind of a field's value: 0 an int, 1 a long, 2 a reference -/
def x_tc : FieldType → Nat
  | .long => 1
  | .array _ => 2
  | .object _ => 2
  | _ => 0
/-- the type of what an array of this sort holds -/
def x_ty (c : Nat) : FieldType := match c with
  | 100 => .int
  | 101 => .long
  | 102 => .byte
  | 103 => .boolean
  | n => .object (x_R (n - 110))
def x_SH1 : List (Nat × Nat) := [(9, 0), (118, 4), (8, 0), (101, 60), (8, 0), (101, 60), (8, 0), (101, 60), (8, 0), (101, 60), (7, 0), (102, 900), (0, 0), (100, 3), (101, 14), (100, 4), (100, 5), (100, 5), (100, 5), (100, 20), (100, 20), (100, 25), (0, 0), (100, 3), (101, 14), (100, 4), (100, 5), (100, 5), (100, 5), (100, 20), (100, 20), (100, 25), (4, 0), (100, 60), (100, 60), (100, 60), (100, 60), (100, 60), (100, 60), (4, 0), (100, 60), (100, 60), (100, 60), (100, 60), (100, 60), (100, 60), (110, 3), (114, 3), (0, 0), (100, 3), (101, 14), (100, 4), (100, 5), (100, 5), (100, 5), (100, 20), (100, 20), (100, 25), (4, 0), (100, 60), (100, 60), (100, 60), (100, 60), (100, 60), (100, 60), (0, 0), (100, 3), (101, 14), (100, 4), (100, 5), (100, 5), (100, 5), (100, 20), (100, 20), (100, 25), (4, 0), (100, 60), (100, 60), (100, 60), (100, 60), (100, 60), (100, 60), (0, 0), (100, 3), (101, 14), (100, 4), (100, 5), (100, 5), (100, 5), (100, 20), (100, 20), (100, 25), (4, 0), (100, 60), (100, 60), (100, 60), (100, 60), (100, 60), (100, 60), (6, 0), (101, 1000), (3, 0), (2, 0), (100, 60), (2, 0), (100, 60)]
def x_SH2 : List (Nat × Nat) := [(10, 0), (100, 3168), (101, 84), (100, 4), (100, 4), (101, 240), (102, 900), (102, 900), (100, 3), (100, 5000), (100, 4), (101, 1000), (100, 4), (100, 4), (100, 4), (100, 80), (100, 5), (100, 5)]
/-- what each cell is: an object of a class (below 100), or an array's sort and length: those of the class from 0 on, the model's from 500, the text readers' from 600 and 610 -/
def x_SH (k : Nat) : Nat × Nat := match decide (k < 106), decide (500 ≤ k ∧ k < 518) with
  | true, _ => x_SH1.getD k (0, 0)
  | false, true => x_SH2.getD (k - 500) (0, 0)
  | false, false => match k with
    | 600 => (1, 0)
    | 601 => (103, 3)
    | 610 => (5, 0)
    | 611 => (100, 3)
    | _ => (99, 0)
def x_d0 : MethodName × ByteArray × Nat × Option FieldType × Nat × Nat × Nat × Nat := (yL_law, cL_law, 0, none, 11, 0, 0, 0)
def x_T0 : List (MethodName × ByteArray × Nat × Option FieldType × Nat × Nat × Nat × Nat) := [(yX0_init, cX0_init, 1, none, 0, 9, 101, 1),
  (yX0_clear, cX0_clear, 2, none, 0, 0, 0, 1),
  (yX0_copyFrom, cX0_copyFrom, 2, none, 0, 0, 0, 2),
  (yX0_hasKind, cX0_hasKind, 2, (some .boolean), 0, 0, 0, 2),
  (yX0_hasGood, cX0_hasGood, 2, (some .boolean), 0, 0, 0, 2),
  (yX0_hasPerson, cX0_hasPerson, 2, (some .boolean), 0, 0, 0, 2),
  (yX0_hasPurse, cX0_hasPurse, 3, (some .boolean), 0, 0, 0, 3),
  (yX0_purse, cX0_purse, 2, (some .int), 0, 0, 0, 2),
  (yX0_chest, cX0_chest, 2, (some .int), 0, 0, 0, 2),
  (yX0_toldOfText, cX0_toldOfText, 2, (some .int), 0, 0, 0, 2),
  (yX0_toldOfTime, cX0_toldOfTime, 2, (some .int), 0, 0, 0, 2),
  (yX0_levelBy, cX0_levelBy, 2, (some .int), 0, 0, 0, 2),
  (yX0_levelAfter, cX0_levelAfter, 3, (some .int), 0, 0, 0, 3),
  (yX0_outNow, cX0_outNow, 3, (some .int), 0, 0, 0, 1),
  (yX0_worthOf, cX0_worthOf, 5, (some .int), 0, 0, 0, 3),
  (yX0_wealthOf, cX0_wealthOf, 2, (some .int), 0, 0, 0, 2),
  (yX0_priceOf, cX0_priceOf, 2, (some .long), 0, 0, 0, 2),
  (yX0_passMonths, cX0_passMonths, 2, (some .boolean), 0, 0, 0, 2),
  (yX0_printFor, cX0_printFor, 5, (some .int), 0, 0, 0, 4),
  (yX0_wayToBuy, cX0_wayToBuy, 7, (some .long), 0, 0, 0, 5),
  (yX0_purchase, cX0_purchase, 6, (some .int), 0, 0, 0, 5),
  (yX0_tradeGoods, cX0_tradeGoods, 8, none, 0, 0, 0, 5),
  (yX0_takeGoods, cX0_takeGoods, 9, (some .int), 0, 0, 0, 5),
  (yX0_hasRoomFor, cX0_hasRoomFor, 5, (some .boolean), 0, 0, 0, 3),
  (yX0_tearUp, cX0_tearUp, 5, (some .int), 0, 0, 0, 4),
  (yX0_keptFrom, cX0_keptFrom, 2, (some .int), 0, 0, 0, 2),
  (yX0_mendTorn, cX0_mendTorn, 6, (some .int), 0, 0, 0, 4),
  (yX0_handOver, cX0_handOver, 7, (some .boolean), 0, 0, 0, 5),
  (yX0_burnWhole, cX0_burnWhole, 5, (some .int), 0, 0, 0, 4),
  (yX0_carryOut, cX0_carryOut, 6, (some .int), 0, 0, 0, 4),
  (yX0_renewedFor, cX0_renewedFor, 4, (some .int), 0, 0, 0, 3),
  (yX0_lossOf, cX0_lossOf, 4, (some .int), 0, 0, 0, 3),
  (yX0_renewAll, cX0_renewAll, 5, none, 0, 0, 0, 2),
  (yX0_findName, cX0_findName, 6, (some .int), 0, 0, 0, 3),
  (yX0_isTakenName, cX0_isTakenName, 3, (some .boolean), 0, 0, 0, 2),
  (yX1_init, cX1_init, 3, none, 1, 1, 3, 3),
  (yX1_isTaken, cX1_isTaken, 3, (some .boolean), 1, 0, 0, 1),
  (yX1_readRule, cX1_readRule, 2, (some .boolean), 1, 0, 0, 2),
  (yX1_readKind, cX1_readKind, 2, (some .boolean), 1, 0, 0, 1),
  (yX1_readGood, cX1_readGood, 2, (some .boolean), 1, 0, 0, 1)]
def x_T1 : List (MethodName × ByteArray × Nat × Option FieldType × Nat × Nat × Nat × Nat) := [(yX1_readPerson, cX1_readPerson, 2, (some .boolean), 1, 0, 0, 1),
  (yX1_readChoice, cX1_readChoice, 4, (some .boolean), 1, 0, 0, 4),
  (yX1_readHas, cX1_readHas, 3, (some .boolean), 1, 0, 0, 1),
  (yX2_init, cX2_init, 2, none, 2, 1, 60, 2),
  (yX2_toldOf, cX2_toldOf, 2, (some .int), 2, 0, 0, 2),
  (yX2_unfold, cX2_unfold, 8, none, 2, 0, 0, 4),
  (yX2_lineAfterEnd, cX2_lineAfterEnd, 4, (some .int), 2, 0, 0, 3),
  (yX2_lineAfterStep, cX2_lineAfterStep, 5, (some .int), 2, 0, 0, 4),
  (yX2_holdsTrue, cX2_holdsTrue, 5, (some .boolean), 2, 0, 0, 3),
  (yX2_isDone, cX2_isDone, 9, (some .boolean), 2, 0, 0, 4),
  (yX2_isPassed, cX2_isPassed, 3, (some .boolean), 2, 0, 0, 3),
  (yX2_draw, cX2_draw, 2, (some .int), 2, 0, 0, 2),
  (yX3_init, cX3_init, 2, none, 3, 0, 0, 2),
  (yX3_lead, cX3_lead, 7, (some .int), 3, 0, 0, 5),
  (yX3_leadBuying, cX3_leadBuying, 9, (some .int), 3, 0, 0, 6),
  (yX3_bestGood, cX3_bestGood, 9, (some .int), 3, 0, 0, 5),
  (yX4_init, cX4_init, 1, none, 4, 6, 360, 1),
  (yX4_clear, cX4_clear, 1, none, 4, 0, 0, 1),
  (yX4_copyFrom, cX4_copyFrom, 2, none, 4, 0, 0, 2),
  (yX5_init, cX5_init, 4, none, 5, 1, 3, 4),
  (yX5_isTaken, cX5_isTaken, 3, (some .boolean), 5, 0, 0, 1),
  (yX5_readEnd, cX5_readEnd, 2, (some .boolean), 5, 0, 0, 1),
  (yX5_readStep, cX5_readStep, 5, (some .boolean), 5, 0, 0, 1),
  (yX5_isStepWord, cX5_isStepWord, 1, (some .boolean), 5, 0, 0, 1),
  (yX5_readDeed, cX5_readDeed, 4, (some .boolean), 5, 0, 0, 3),
  (yX5_readTest, cX5_readTest, 4, (some .boolean), 5, 0, 0, 2),
  (yX6_init, cX6_init, 1, none, 6, 1, 1000, 1),
  (yX6_costOf, cX6_costOf, 1, (some .long), 6, 0, 0, 1),
  (yX6_sheetsIn, cX6_sheetsIn, 2, (some .int), 6, 0, 0, 1),
  (yX6_sheetsOfKind, cX6_sheetsOfKind, 5, (some .int), 6, 0, 0, 2),
  (yX6_isPayable, cX6_isPayable, 2, (some .boolean), 6, 0, 0, 2),
  (yX6_beginWays, cX6_beginWays, 3, none, 6, 0, 0, 2),
  (yX6_wayFromPurse, cX6_wayFromPurse, 12, (some .long), 6, 0, 0, 4),
  (yX6_fillFromPurse, cX6_fillFromPurse, 11, none, 6, 0, 0, 5),
  (yX6_layAlone, cX6_layAlone, 6, none, 6, 0, 0, 4),
  (yX6_addBundle, cX6_addBundle, 8, none, 6, 0, 0, 4),
  (yX6_wayOfPrint, cX6_wayOfPrint, 10, (some .long), 6, 0, 0, 3),
  (yX6_fillWithCounts, cX6_fillWithCounts, 7, none, 6, 0, 0, 4),
  (yX7_init, cX7_init, 1, none, 7, 1, 900, 1),
  (yX7_putInt, cX7_putInt, 3, none, 7, 0, 0, 3)]
def x_T2 : List (MethodName × ByteArray × Nat × Option FieldType × Nat × Nat × Nat × Nat) := [(yX7_open, cX7_open, 2, none, 7, 0, 0, 2),
  (yX7_sortAt, cX7_sortAt, 3, (some .int), 7, 0, 0, 2),
  (yX7_advance, cX7_advance, 1, none, 7, 0, 0, 1),
  (yX7_packWord, cX7_packWord, 2, none, 7, 0, 0, 1),
  (yX7_packNumber, cX7_packNumber, 2, none, 7, 0, 0, 1),
  (yX7_fail, cX7_fail, 2, (some .boolean), 7, 0, 0, 2),
  (yX7_takeSign, cX7_takeSign, 2, (some .boolean), 7, 0, 0, 2),
  (yX7_takeWord, cX7_takeWord, 2, (some .boolean), 7, 0, 0, 2),
  (yX7_takeNumber, cX7_takeNumber, 3, (some .boolean), 7, 0, 0, 3),
  (yX7_isName, cX7_isName, 1, (some .boolean), 7, 0, 0, 1),
  (yX7_takeOldName, cX7_takeOldName, 3, (some .boolean), 7, 0, 0, 3),
  (yX7_takeNewName, cX7_takeNewName, 3, (some .boolean), 7, 0, 0, 3),
  (yX8_init, cX8_init, 1, none, 8, 1, 60, 1),
  (yX8_isMissing, cX8_isMissing, 1, (some .boolean), 8, 0, 0, 1),
  (yX8_begin, cX8_begin, 4, none, 8, 0, 0, 3),
  (yX8_put, cX8_put, 4, none, 8, 0, 0, 3),
  (yX9_init, cX9_init, 2, none, 9, 105, 5000, 1),
  (yX9_status, cX9_status, 1, (some .int), 9, 0, 0, 1),
  (yX9_top, cX9_top, 1, (some .long), 9, 0, 0, 1),
  (yX9_bottom, cX9_bottom, 1, (some .long), 9, 0, 0, 1),
  (yX9_tray, cX9_tray, 4, (some .boolean), 9, 0, 0, 4),
  (yX9_write, cX9_write, 6, (some .boolean), 9, 0, 0, 4),
  (yX9_read, cX9_read, 4, (some .long), 9, 0, 0, 3),
  (yX9_pour, cX9_pour, 8, (some .boolean), 9, 0, 0, 6),
  (yX9_feed, cX9_feed, 6, (some .int), 9, 0, 0, 6),
  (yX9_land, cX9_land, 4, (some .int), 9, 2, 8, 2),
  (yX9_reigns, cX9_reigns, 4, (some .int), 9, 2, 8, 2),
  (yX9_fault, cX9_fault, 2, (some .int), 9, 0, 0, 2),
  (yX9_told, cX9_told, 2, (some .int), 9, 0, 0, 2),
  (yX9_kind, cX9_kind, 2, (some .int), 9, 0, 0, 2),
  (yX9_good, cX9_good, 3, (some .int), 9, 0, 0, 3),
  (yX9_sheets, cX9_sheets, 5, (some .int), 9, 0, 0, 4),
  (yX9_goods, cX9_goods, 3, (some .int), 9, 0, 0, 3),
  (yX9_silver, cX9_silver, 2, (some .int), 9, 0, 0, 2),
  (yX9_worth, cX9_worth, 3, (some .int), 9, 0, 0, 3),
  (yX9_richest, cX9_richest, 3, (some .int), 9, 0, 0, 1),
  (yX9_pay, cX9_pay, 4, (some .int), 9, 0, 0, 4),
  (yX9_buy, cX9_buy, 6, (some .int), 9, 0, 0, 4),
  (yX9_sell, cX9_sell, 4, (some .int), 9, 0, 0, 4),
  (yX9_tear, cX9_tear, 4, (some .int), 9, 0, 0, 4)]
def x_T3 : List (MethodName × ByteArray × Nat × Option FieldType × Nat × Nat × Nat × Nat) := [(yX9_mend, cX9_mend, 4, (some .int), 9, 0, 0, 4),
  (yX9_give, cX9_give, 5, (some .boolean), 9, 0, 0, 5),
  (yX9_burn, cX9_burn, 4, (some .int), 9, 0, 0, 4),
  (yX9_cross, cX9_cross, 4, (some .int), 9, 0, 0, 4),
  (yX9_renew, cX9_renew, 4, (some .int), 9, 0, 0, 2),
  (yX9_month, cX9_month, 2, (some .int), 9, 0, 0, 2),
  (yX9_rule, cX9_rule, 3, (some .boolean), 9, 0, 0, 3),
  (yX9_bring, cX9_bring, 3, (some .int), 9, 0, 0, 3),
  (yX9_room, cX9_room, 3, (some .int), 9, 0, 0, 1),
  (yX9_levelIn, cX9_levelIn, 2, (some .int), 9, 0, 0, 2),
  (yX9_monthsTill, cX9_monthsTill, 4, (some .int), 9, 0, 0, 2),
  (yX9_fewest, cX9_fewest, 5, (some .int), 9, 0, 0, 3),
  (yX9_payWith, cX9_payWith, 6, (some .int), 9, 0, 0, 4),
  (yX9_payable, cX9_payable, 4, (some .int), 9, 0, 0, 2),
  (yX9_firstNot, cX9_firstNot, 4, (some .int), 9, 0, 0, 2),
  (yX9_couldBuy, cX9_couldBuy, 7, (some .int), 9, 0, 0, 3),
  (yX9_changes, cX9_changes, 2, (some .long), 9, 0, 0, 2),
  (yX9_leastSheets, cX9_leastSheets, 4, (some .int), 9, 0, 0, 2),
  (yX9_baskets, cX9_baskets, 3, (some .long), 9, 0, 0, 2),
  (yX9_mostValue, cX9_mostValue, 3, (some .int), 9, 0, 0, 2),
  (yX9_loses, cX9_loses, 4, (some .int), 9, 0, 0, 3),
  (yX9_losers, cX9_losers, 5, (some .int), 9, 0, 0, 2),
  (yX9_keptOf, cX9_keptOf, 2, (some .int), 9, 0, 0, 2),
  (yX9_forged, cX9_forged, 6, (some .boolean), 9, 0, 0, 4),
  (yX9_looks, cX9_looks, 6, (some .int), 9, 0, 0, 3),
  (yX9_plan, cX9_plan, 3, (some .int), 9, 0, 0, 3),
  (yX9_planFirst, cX9_planFirst, 7, (some .int), 9, 0, 0, 3),
  (yX9_game, cX9_game, 4, (some .int), 9, 0, 0, 4),
  (yX9_moveOf, cX9_moveOf, 5, (some .int), 9, 0, 0, 4),
  (yX9_copySheets, cX9_copySheets, 5, (some .int), 9, 0, 0, 3),
  (yX9_count, cX9_count, 7, (some .int), 9, 0, 0, 2),
  (yX9_live, cX9_live, 2, (some .int), 9, 0, 0, 2),
  (yX9_lived, cX9_lived, 2, (some .int), 9, 0, 0, 2),
  (yX9_mean, cX9_mean, 6, (some .boolean), 9, 0, 0, 3),
  (yX9_mark, cX9_mark, 1, (some .int), 9, 0, 0, 1),
  (yX9_undo, cX9_undo, 1, (some .int), 9, 0, 0, 1),
  (yX9_answer, cX9_answer, 2, (some .int), 9, 0, 0, 2),
  (yX9_refuse, cX9_refuse, 2, (some .int), 9, 0, 0, 2),
  (yX9_answerIfDone, cX9_answerIfDone, 2, (some .int), 9, 0, 0, 2),
  (yX9_agreed, cX9_agreed, 1, (some .boolean), 9, 0, 0, 1)]
def x_T4 : List (MethodName × ByteArray × Nat × Option FieldType × Nat × Nat × Nat × Nat) := [(yX9_refused, cX9_refused, 2, (some .boolean), 9, 0, 0, 2),
  (yX9_within, cX9_within, 3, (some .boolean), 9, 0, 0, 3),
  (yX9_isAmount, cX9_isAmount, 1, (some .boolean), 9, 0, 0, 1),
  (yX9_isSum, cX9_isSum, 1, (some .boolean), 9, 0, 0, 1),
  (yX9_isTray, cX9_isTray, 1, (some .boolean), 9, 0, 0, 1),
  (yX9_arePair, cX9_arePair, 3, (some .boolean), 9, 0, 0, 3),
  (yX9_wrongPlace, cX9_wrongPlace, 3, (some .int), 9, 0, 0, 3),
  (yX9_wrongForKinds, cX9_wrongForKinds, 2, (some .int), 9, 0, 0, 2),
  (yX9_wrongRenewal, cX9_wrongRenewal, 2, (some .int), 9, 0, 0, 2),
  (yX9_endText, cX9_endText, 2, (some .boolean), 9, 0, 0, 2),
  (yX9_tellFraction, cX9_tellFraction, 12, none, 9, 0, 0, 3),
  (yX9_setsOf, cX9_setsOf, 5, (some .long), 9, 0, 0, 2),
  (yX9_leastUnrest, cX9_leastUnrest, 6, (some .int), 9, 0, 0, 4),
  (yX9_unrestPrinting, cX9_unrestPrinting, 8, (some .int), 9, 0, 0, 5),
  (yX10_init, cX10_init, 1, none, 10, 17, 12000, 1),
  (yX10_plain, cX10_plain, 3, none, 10, 0, 0, 2),
  (yX10_status, cX10_status, 1, (some .int), 10, 0, 0, 1),
  (yX10_top, cX10_top, 1, (some .long), 10, 0, 0, 1),
  (yX10_bottom, cX10_bottom, 1, (some .long), 10, 0, 0, 1),
  (yX10_is, cX10_is, 2, (some .boolean), 10, 0, 0, 2),
  (yX10_refuse, cX10_refuse, 2, (some .int), 10, 0, 0, 2),
  (yX10_gives, cX10_gives, 2, (some .int), 10, 0, 0, 2),
  (yX10_orNone, cX10_orNone, 2, (some .int), 10, 0, 0, 2),
  (yX10_tellsBy, cX10_tellsBy, 11, (some .boolean), 10, 0, 0, 3),
  (yX10_isTray, cX10_isTray, 1, (some .boolean), 10, 0, 0, 1),
  (yX10_cut, cX10_cut, 3, (some .long), 10, 0, 0, 2),
  (yX10_tray, cX10_tray, 5, (some .boolean), 10, 0, 0, 4),
  (yX10_wrongPlace, cX10_wrongPlace, 3, (some .int), 10, 0, 0, 3),
  (yX10_write, cX10_write, 6, (some .boolean), 10, 0, 0, 4),
  (yX10_read, cX10_read, 3, (some .long), 10, 0, 0, 3),
  (yX10_pour, cX10_pour, 8, (some .boolean), 10, 0, 0, 6),
  (yX10_isFrom, cX10_isFrom, 6, (some .boolean), 10, 0, 0, 3),
  (yX10_feed, cX10_feed, 6, (some .int), 10, 0, 0, 6),
  (yX10_four, cX10_four, 3, none, 10, 0, 0, 2),
  (yX10_byteAt, cX10_byteAt, 2, (some .int), 10, 0, 0, 2),
  (yX10_isSmall, cX10_isSmall, 1, (some .boolean), 10, 0, 0, 1),
  (yX10_isDigit, cX10_isDigit, 1, (some .boolean), 10, 0, 0, 1),
  (yX10_ahead, cX10_ahead, 2, none, 10, 0, 0, 1),
  (yX10_isSign, cX10_isSign, 2, (some .boolean), 10, 0, 0, 2),
  (yX10_inWords, cX10_inWords, 7, (some .int), 10, 0, 0, 2)]
def x_T5 : List (MethodName × ByteArray × Nat × Option FieldType × Nat × Nat × Nat × Nat) := [(yX10_fails, cX10_fails, 2, (some .boolean), 10, 0, 0, 2),
  (yX10_begins, cX10_begins, 4, (some .boolean), 10, 0, 0, 3),
  (yX10_wantSign, cX10_wantSign, 2, (some .boolean), 10, 0, 0, 2),
  (yX10_wantWord, cX10_wantWord, 3, (some .boolean), 10, 0, 0, 3),
  (yX10_number, cX10_number, 4, (some .boolean), 10, 0, 0, 4),
  (yX10_isName, cX10_isName, 2, (some .boolean), 10, 0, 0, 2),
  (yX10_nameHere, cX10_nameHere, 4, (some .long), 10, 0, 0, 1),
  (yX10_findHere, cX10_findHere, 4, (some .int), 10, 0, 0, 3),
  (yX10_fault, cX10_fault, 2, (some .int), 10, 0, 0, 2),
  (yX10_taken, cX10_taken, 2, (some .int), 10, 0, 0, 2),
  (yX10_isThere, cX10_isThere, 2, (some .boolean), 10, 0, 0, 2),
  (yX10_newOne, cX10_newOne, 4, (some .boolean), 10, 0, 0, 4),
  (yX10_oldOne, cX10_oldOne, 4, (some .boolean), 10, 0, 0, 4),
  (yX10_aKind, cX10_aKind, 1, (some .boolean), 10, 0, 0, 1),
  (yX10_aGood, cX10_aGood, 2, (some .boolean), 10, 0, 0, 1),
  (yX10_aPerson, cX10_aPerson, 2, (some .boolean), 10, 0, 0, 1),
  (yX10_hisSheets, cX10_hisSheets, 2, (some .boolean), 10, 0, 0, 1),
  (yX10_landPart, cX10_landPart, 3, (some .boolean), 10, 0, 0, 1),
  (yX10_land, cX10_land, 4, (some .int), 10, 0, 0, 2),
  (yX10_personTo, cX10_personTo, 2, (some .boolean), 10, 0, 0, 2),
  (yX10_test, cX10_test, 3, (some .boolean), 10, 0, 0, 2),
  (yX10_reignOrder, cX10_reignOrder, 3, (some .boolean), 10, 0, 0, 3),
  (yX10_reignStep, cX10_reignStep, 6, (some .boolean), 10, 0, 0, 1),
  (yX10_reigns, cX10_reigns, 4, (some .int), 10, 0, 0, 2),
  (yX10_personRow, cX10_personRow, 1, (some .int), 10, 0, 0, 1),
  (yX10_goodRow, cX10_goodRow, 1, (some .int), 10, 0, 0, 1),
  (yX10_isKind, cX10_isKind, 2, (some .boolean), 10, 0, 0, 2),
  (yX10_isGood, cX10_isGood, 2, (some .boolean), 10, 0, 0, 2),
  (yX10_isPerson, cX10_isPerson, 2, (some .boolean), 10, 0, 0, 2),
  (yX10_isSheet, cX10_isSheet, 3, (some .boolean), 10, 0, 0, 3),
  (yX10_isWare, cX10_isWare, 3, (some .boolean), 10, 0, 0, 3),
  (yX10_isMany, cX10_isMany, 1, (some .boolean), 10, 0, 0, 1),
  (yX10_worthOf, cX10_worthOf, 2, (some .int), 10, 0, 0, 2),
  (yX10_wholeAt, cX10_wholeAt, 3, (some .int), 10, 0, 0, 3),
  (yX10_tornAt, cX10_tornAt, 3, (some .int), 10, 0, 0, 3),
  (yX10_worthAt, cX10_worthAt, 4, (some .int), 10, 0, 0, 2),
  (yX10_out, cX10_out, 3, (some .int), 10, 0, 0, 1),
  (yX10_priceOf, cX10_priceOf, 2, (some .long), 10, 0, 0, 2),
  (yX10_levelBy, cX10_levelBy, 2, (some .int), 10, 0, 0, 2),
  (yX10_told, cX10_told, 2, (some .int), 10, 0, 0, 2)]
def x_T6 : List (MethodName × ByteArray × Nat × Option FieldType × Nat × Nat × Nat × Nat) := [(yX10_kind, cX10_kind, 2, (some .int), 10, 0, 0, 2),
  (yX10_good, cX10_good, 3, (some .int), 10, 0, 0, 3),
  (yX10_sheets, cX10_sheets, 4, (some .int), 10, 0, 0, 4),
  (yX10_goods, cX10_goods, 3, (some .int), 10, 0, 0, 3),
  (yX10_silver, cX10_silver, 2, (some .int), 10, 0, 0, 2),
  (yX10_worth, cX10_worth, 3, (some .int), 10, 0, 0, 3),
  (yX10_richest, cX10_richest, 3, (some .int), 10, 0, 0, 1),
  (yX10_laysFew, cX10_laysFew, 10, none, 10, 0, 0, 3),
  (yX10_laysPaying, cX10_laysPaying, 8, (some .boolean), 10, 0, 0, 3),
  (yX10_payingAll, cX10_payingAll, 3, (some .int), 10, 0, 0, 1),
  (yX10_addsTo, cX10_addsTo, 3, (some .int), 10, 0, 0, 3),
  (yX10_pays, cX10_pays, 5, (some .boolean), 10, 0, 0, 4),
  (yX10_pay, cX10_pay, 4, (some .int), 10, 0, 0, 4),
  (yX10_buys, cX10_buys, 8, (some .boolean), 10, 0, 0, 4),
  (yX10_buy, cX10_buy, 4, (some .int), 10, 0, 0, 4),
  (yX10_sells, cX10_sells, 8, (some .boolean), 10, 0, 0, 4),
  (yX10_sell, cX10_sell, 4, (some .int), 10, 0, 0, 4),
  (yX10_tears, cX10_tears, 4, (some .boolean), 10, 0, 0, 4),
  (yX10_tear, cX10_tear, 4, (some .int), 10, 0, 0, 4),
  (yX10_keptBy, cX10_keptBy, 2, (some .int), 10, 0, 0, 2),
  (yX10_mends, cX10_mends, 5, (some .int), 10, 0, 0, 4),
  (yX10_mend, cX10_mend, 5, (some .int), 10, 0, 0, 4),
  (yX10_give, cX10_give, 5, (some .boolean), 10, 0, 0, 5),
  (yX10_burn, cX10_burn, 4, (some .int), 10, 0, 0, 4),
  (yX10_cross, cX10_cross, 5, (some .int), 10, 0, 0, 4),
  (yX10_allOf, cX10_allOf, 3, (some .int), 10, 0, 0, 3),
  (yX10_renewedBy, cX10_renewedBy, 3, (some .int), 10, 0, 0, 3),
  (yX10_canRenew, cX10_canRenew, 2, (some .boolean), 10, 0, 0, 2),
  (yX10_renew, cX10_renew, 5, (some .int), 10, 0, 0, 2),
  (yX10_monthGoes, cX10_monthGoes, 1, none, 10, 0, 0, 1),
  (yX10_month, cX10_month, 3, (some .int), 10, 0, 0, 2),
  (yX10_rule, cX10_rule, 3, (some .boolean), 10, 0, 0, 3),
  (yX10_bring, cX10_bring, 4, (some .int), 10, 0, 0, 3),
  (yX10_room, cX10_room, 3, (some .int), 10, 0, 0, 1),
  (yX10_levelAfter, cX10_levelAfter, 2, (some .int), 10, 0, 0, 2),
  (yX10_levelIn, cX10_levelIn, 2, (some .int), 10, 0, 0, 2),
  (yX10_monthsTill, cX10_monthsTill, 3, (some .int), 10, 0, 0, 2),
  (yX10_isSum, cX10_isSum, 1, (some .boolean), 10, 0, 0, 1),
  (yX10_fewest, cX10_fewest, 3, (some .int), 10, 0, 0, 3),
  (yX10_payWith, cX10_payWith, 4, (some .int), 10, 0, 0, 4)]
def x_T7 : List (MethodName × ByteArray × Nat × Option FieldType × Nat × Nat × Nat × Nat) := [(yX10_payable, cX10_payable, 4, (some .int), 10, 0, 0, 2),
  (yX10_firstNot, cX10_firstNot, 4, (some .int), 10, 0, 0, 2),
  (yX10_couldBuy, cX10_couldBuy, 8, (some .int), 10, 0, 0, 3),
  (yX10_addsPiece, cX10_addsPiece, 4, none, 10, 0, 0, 2),
  (yX10_noPieces, cX10_noPieces, 2, none, 10, 0, 0, 1),
  (yX10_changes, cX10_changes, 3, (some .long), 10, 0, 0, 2),
  (yX10_leastSheets, cX10_leastSheets, 2, (some .int), 10, 0, 0, 2),
  (yX10_baskets, cX10_baskets, 3, (some .long), 10, 0, 0, 2),
  (yX10_mostValue, cX10_mostValue, 6, (some .int), 10, 0, 0, 2),
  (yX10_losing, cX10_losing, 3, (some .int), 10, 0, 0, 3),
  (yX10_loses, cX10_loses, 3, (some .int), 10, 0, 0, 3),
  (yX10_losers, cX10_losers, 4, (some .int), 10, 0, 0, 2),
  (yX10_keptOf, cX10_keptOf, 2, (some .int), 10, 0, 0, 2),
  (yX10_areSheets, cX10_areSheets, 2, (some .boolean), 10, 0, 0, 2),
  (yX10_chosen, cX10_chosen, 5, (some .long), 10, 0, 0, 2),
  (yX10_forged, cX10_forged, 4, (some .boolean), 10, 0, 0, 4),
  (yX10_looks, cX10_looks, 6, (some .int), 10, 0, 0, 3),
  (yX10_partOf, cX10_partOf, 2, (some .int), 10, 0, 0, 2),
  (yX10_planning, cX10_planning, 11, (some .int), 10, 0, 0, 3),
  (yX10_isPlan, cX10_isPlan, 2, (some .boolean), 10, 0, 0, 2),
  (yX10_plan, cX10_plan, 3, (some .int), 10, 0, 0, 3),
  (yX10_planFirst, cX10_planFirst, 3, (some .int), 10, 0, 0, 3),
  (yX10_keeps, cX10_keeps, 3, none, 10, 0, 0, 2),
  (yX10_restores, cX10_restores, 3, none, 10, 0, 0, 2),
  (yX10_levelAt, cX10_levelAt, 1, (some .int), 10, 0, 0, 1),
  (yX10_weighs, cX10_weighs, 3, none, 10, 0, 0, 3),
  (yX10_playing, cX10_playing, 7, (some .int), 10, 0, 0, 4),
  (yX10_isGame, cX10_isGame, 5, (some .boolean), 10, 0, 0, 5),
  (yX10_game, cX10_game, 4, (some .int), 10, 0, 0, 4),
  (yX10_moveOf, cX10_moveOf, 4, (some .int), 10, 0, 0, 4),
  (yX10_copySheets, cX10_copySheets, 4, (some .int), 10, 0, 0, 3),
  (yX10_count, cX10_count, 6, (some .int), 10, 0, 0, 2),
  (yX10_draw, cX10_draw, 2, (some .int), 10, 0, 0, 2),
  (yX10_buysBy, cX10_buysBy, 4, (some .boolean), 10, 0, 0, 4),
  (yX10_paysBy, cX10_paysBy, 4, (some .boolean), 10, 0, 0, 4),
  (yX10_sellsBy, cX10_sellsBy, 4, (some .boolean), 10, 0, 0, 4),
  (yX10_monthsBy, cX10_monthsBy, 3, (some .boolean), 10, 0, 0, 2),
  (yX10_buysAny, cX10_buysAny, 2, (some .boolean), 10, 0, 0, 1),
  (yX10_does, cX10_does, 5, (some .boolean), 10, 0, 0, 2),
  (yX10_holds, cX10_holds, 4, (some .boolean), 10, 0, 0, 2)]
def x_T8 : List (MethodName × ByteArray × Nat × Option FieldType × Nat × Nat × Nat × Nat) := [(yX10_behindEnds, cX10_behindEnds, 5, (some .int), 10, 0, 0, 2),
  (yX10_lives, cX10_lives, 4, none, 10, 0, 0, 2),
  (yX10_live, cX10_live, 3, (some .int), 10, 0, 0, 2),
  (yX10_lived, cX10_lived, 2, (some .int), 10, 0, 0, 2),
  (yX10_mean, cX10_mean, 6, (some .boolean), 10, 0, 0, 3),
  (yX10_copies, cX10_copies, 4, none, 10, 0, 0, 3),
  (yX10_mark, cX10_mark, 1, (some .int), 10, 0, 0, 1),
  (yX10_undo, cX10_undo, 1, (some .int), 10, 0, 0, 1),
  (yL_law, cL_law, 4, (some .boolean), 11, 0, 0, 2)]
def x_T : Nat → List (MethodName × ByteArray × Nat × Option FieldType × Nat × Nat × Nat × Nat) := fun k => match k with
  | 0 => x_T0
  | 1 => x_T1
  | 2 => x_T2
  | 3 => x_T3
  | 4 => x_T4
  | 5 => x_T5
  | 6 => x_T6
  | 7 => x_T7
  | _ => x_T8
def x_me (i : Nat) : MethodName × ByteArray × Nat × Option FieldType × Nat × Nat × Nat × Nat := (x_T (i / 40)).getD (i % 40) x_d0
def x_y (i : Nat) : MethodName := (x_me i).1
def x_bc (i : Nat) : ByteArray := (x_me i).2.1
def x_ml (i : Nat) : Nat := (x_me i).2.2.1
def x_rt (i : Nat) : Option FieldType := (x_me i).2.2.2.1
def x_ow (i : Nat) : Nat := (x_me i).2.2.2.2.1
def x_mc (i : Nat) : Nat := (x_me i).2.2.2.2.2.1
def x_ms (i : Nat) : Nat := (x_me i).2.2.2.2.2.2.1
def x_na (i : Nat) : Nat := (x_me i).2.2.2.2.2.2.2
def x_own (i : Nat) : String := x_R (x_ow i)
def x_gd : List Cond := lw_tbl.filter goodWord
theorem x_gd_at {w : Cond} (k : Nat) (h : lw_tbl[k]? = some w) (hg : goodWord w = true) : w ∈ x_gd := List.mem_filter.mpr ⟨List.mem_of_getElem? h, hg⟩
def x_ckw (k : Nat) (w : Cond) : Bool := decide (lw_tbl[k]? = some w) && goodWord w
theorem x_ckw_ok {k : Nat} {w : Cond} (h : x_ckw k w = true) : w ∈ x_gd := by
  simp only [x_ckw, Bool.and_eq_true, decide_eq_true_eq] at h
  exact x_gd_at k h.1 h.2
def x_ckws : List Cond → List Nat → Bool
  | [], _ => true
  | w :: ws, k :: ks => x_ckw k w && x_ckws ws ks
  | _ :: _, [] => false
theorem x_uwl : ∀ {ws : List Cond} (ks : List Nat), x_ckws ws ks = true → ∀ w ∈ ws, w ∈ x_gd
  | [], _, _, _, h => absurd h List.not_mem_nil
  | v :: ws, k :: ks, h, w, hw => by
    simp only [x_ckws, Bool.and_eq_true] at h
    rcases List.mem_cons.mp hw with rfl | hw
    · exact x_ckw_ok h.1
    · exact x_uwl ks h.2 w hw
  | _ :: _, [], h, _, _ => by simp [x_ckws] at h
theorem x_uw0 : ∀ w ∈ u_ws RX0 TX0 17, w ∈ x_gd := x_uwl [252, 254, 256, 258, 260, 262, 264, 266, 268, 270, 272, 274, 276, 278, 280, 282, 284] (by decide +kernel)
theorem x_uw1 : ∀ w ∈ u_ws RX1 TX1 3, w ∈ x_gd := x_uwl [571, 573, 575] (by decide +kernel)
theorem x_uw2 : ∀ w ∈ u_ws RX2 TX2 9, w ∈ x_gd := x_uwl [379, 381, 383, 385, 387, 389, 391, 393, 395] (by decide +kernel)
theorem x_uw3 : ∀ w ∈ u_ws RX3 TX3 1, w ∈ x_gd := x_uwl [360] (by decide +kernel)
theorem x_uw4 : ∀ w ∈ u_ws RX4 TX4 9, w ∈ x_gd := x_uwl [321, 323, 325, 327, 329, 331, 333, 335, 337] (by decide +kernel)
theorem x_uw5 : ∀ w ∈ u_ws RX5 TX5 5, w ∈ x_gd := x_uwl [700, 702, 704, 706, 708] (by decide +kernel)
theorem x_uw6 : ∀ w ∈ u_ws RX6 TX6 1, w ∈ x_gd := x_uwl [350] (by decide +kernel)
theorem x_uw7 : ∀ w ∈ u_ws RX7 TX7 12, w ∈ x_gd := x_uwl [166, 168, 170, 172, 174, 176, 178, 180, 182, 184, 186, 188] (by decide +kernel)
theorem x_uw8 : ∀ w ∈ u_ws RX8 TX8 3, w ∈ x_gd := x_uwl [132, 134, 136] (by decide +kernel)
theorem x_uw9 : ∀ w ∈ u_ws RX9 TX9 20, w ∈ x_gd := x_uwl [418, 420, 422, 424, 426, 428, 430, 432, 434, 436, 438, 440, 442, 444, 446, 448, 450, 452, 454, 456] (by decide +kernel)
theorem x_uw10 : ∀ w ∈ u_ws RX10 TX10 39, w ∈ x_gd := x_uwl [1275, 1277, 1279, 1281, 1283, 1285, 1287, 1289, 1291, 1293, 1295, 1297, 1299, 1301, 1303, 1305, 1307, 1309, 1311, 1313, 1315, 1317, 1319, 1321, 1323, 1325, 1327, 1329, 1331, 1333, 1335, 1337, 1339, 1341, 1343, 1345, 1347, 1349, 1351] (by decide +kernel)
theorem x_uws : ∀ ci, ci < 11 → ∀ w ∈ u_ws (x_R ci) (x_TT ci) (x_nF ci), w ∈ x_gd
  | 0, _ => x_uw0
  | 1, _ => x_uw1
  | 2, _ => x_uw2
  | 3, _ => x_uw3
  | 4, _ => x_uw4
  | 5, _ => x_uw5
  | 6, _ => x_uw6
  | 7, _ => x_uw7
  | 8, _ => x_uw8
  | 9, _ => x_uw9
  | 10, _ => x_uw10
  | n + 11, h => absurd h (by omega)
def x_cpF : List (Nat × Nat × Nat × Nat × Nat) := [(8, 9, 8, 0, 126), (9, 135, 8, 0, 127), (8, 15, 8, 1, 128), (9, 145, 8, 1, 129), (8, 19, 8, 2, 130), (9, 142, 8, 2, 131), (7, 9, 7, 0, 146), (7, 21, 7, 1, 147), (7, 41, 7, 2, 148), (7, 25, 7, 3, 149), (1, 23, 7, 4, 150), (5, 27, 7, 4, 151), (7, 44, 7, 4, 152), (7, 59, 7, 5, 153), (7, 56, 7, 6, 154), (1, 29, 7, 7, 155), (5, 33, 7, 7, 156), (7, 47, 7, 7, 157), (7, 67, 7, 8, 158), (1, 82, 7, 9, 159), (5, 90, 7, 9, 160), (7, 74, 7, 9, 161), (7, 28, 7, 10, 162), (9, 431, 7, 10, 163), (7, 31, 7, 11, 164), (9, 432, 7, 11, 165), (0, 43, 0, 0, 202), (1, 88, 0, 0, 203), (6, 33, 0, 0, 204), (9, 346, 0, 0, 205), (0, 47, 0, 1, 206), (3, 19, 0, 1, 207), (1, 101, 0, 1, 208), (2, 130, 0, 1, 209), (9, 371, 0, 1, 210), (0, 50, 0, 2, 211), (1, 114, 0, 2, 212), (2, 127, 0, 2, 213), (9, 177, 0, 2, 214), (0, 53, 0, 3, 215), (0, 56, 0, 4, 216), (1, 62, 0, 4, 217), (2, 86, 0, 4, 218), (9, 306, 0, 4, 219), (0, 59, 0, 5, 220), (0, 62, 0, 6, 221), (2, 51, 0, 6, 222), (0, 66, 0, 7, 223), (0, 9, 0, 8, 224), (1, 79, 0, 8, 225), (9, 315, 0, 8, 226), (0, 15, 0, 9, 227), (7, 91, 0, 9, 228), (0, 19, 0, 10, 229), (1, 98, 0, 10, 230), (6, 41, 0, 10, 231), (9, 206, 0, 10, 232), (0, 22, 0, 11, 233), (3, 47, 0, 11, 234), (1, 104, 0, 11, 235), (9, 213, 0, 11, 236), (0, 25, 0, 12, 237), (1, 111, 0, 12, 238), (2, 99, 0, 12, 239), (9, 216, 0, 12, 240), (0, 28, 0, 13, 241), (1, 117, 0, 13, 242), (9, 245, 0, 13, 243), (0, 31, 0, 14, 244), (6, 23, 0, 14, 245), (1, 123, 0, 14, 246), (9, 230, 0, 14, 247), (0, 34, 0, 15, 248), (9, 233, 0, 15, 249), (0, 37, 0, 16, 250), (9, 239, 0, 16, 251), (4, 30, 4, 0, 294), (5, 50, 4, 0, 295), (9, 413, 4, 0, 296), (4, 34, 4, 1, 297), (5, 74, 4, 1, 298), (9, 194, 4, 1, 299), (4, 38, 4, 2, 300), (5, 56, 4, 2, 301), (2, 55, 4, 2, 302), (4, 9, 4, 3, 303), (5, 59, 4, 3, 304), (2, 60, 4, 3, 305), (4, 15, 4, 4, 306), (2, 89, 4, 4, 307), (5, 99, 4, 4, 308), (4, 18, 4, 5, 309), (2, 92, 4, 5, 310), (5, 102, 4, 5, 311), (4, 21, 4, 6, 312), (5, 87, 4, 6, 313), (2, 80, 4, 6, 314), (4, 24, 4, 7, 315), (2, 102, 4, 7, 316), (5, 105, 4, 7, 317), (4, 27, 4, 8, 318), (5, 62, 4, 8, 319), (2, 77, 4, 8, 320), (6, 11, 6, 0, 348), (9, 362, 6, 0, 349), (3, 9, 3, 0, 359), (2, 15, 2, 0, 369), (2, 9, 2, 1, 370), (2, 45, 2, 2, 371), (2, 48, 2, 3, 372), (9, 420, 2, 3, 373), (2, 19, 2, 4, 374), (2, 23, 2, 5, 375), (2, 26, 2, 6, 376), (2, 31, 2, 7, 377), (2, 41, 2, 8, 378), (9, 9, 9, 0, 398), (9, 13, 9, 1, 399), (9, 17, 9, 2, 400), (9, 22, 9, 3, 401), (9, 30, 9, 4, 402), (9, 34, 9, 5, 403), (9, 37, 9, 6, 404), (9, 40, 9, 7, 405), (9, 46, 9, 8, 406), (9, 50, 9, 9, 407), (9, 56, 9, 10, 408), (9, 60, 9, 11, 409), (9, 63, 9, 12, 410), (9, 67, 9, 13, 411), (9, 71, 9, 14, 412), (9, 77, 9, 15, 413), (9, 86, 9, 16, 414), (9, 93, 9, 17, 415), (9, 97, 9, 18, 416), (9, 100, 9, 19, 417), (1, 15, 1, 0, 568), (1, 19, 1, 1, 569), (1, 9, 1, 2, 570), (5, 15, 5, 0, 695), (5, 19, 5, 1, 696), (5, 23, 5, 2, 697), (5, 9, 5, 3, 698), (5, 43, 5, 4, 699), (10, 7, 10, 0, 1236), (10, 13, 10, 1, 1237), (10, 78, 10, 2, 1238), (10, 81, 10, 3, 1239), (10, 17, 10, 4, 1240), (10, 21, 10, 5, 1241), (10, 24, 10, 6, 1242), (10, 27, 10, 7, 1243), (10, 30, 10, 8, 1244), (10, 34, 10, 9, 1245), (10, 108, 10, 10, 1246), (10, 114, 10, 11, 1247), (10, 129, 10, 12, 1248), (10, 123, 10, 13, 1249), (10, 117, 10, 14, 1250), (10, 126, 10, 15, 1251), (10, 37, 10, 16, 1252), (10, 41, 10, 17, 1253), (10, 154, 10, 18, 1254), (10, 157, 10, 19, 1255), (10, 203, 10, 20, 1256), (10, 44, 10, 21, 1257), (10, 241, 10, 22, 1258), (10, 244, 10, 23, 1259), (10, 47, 10, 24, 1260), (10, 50, 10, 25, 1261), (10, 53, 10, 26, 1262), (10, 403, 10, 27, 1263), (10, 56, 10, 28, 1264), (10, 59, 10, 29, 1265), (10, 62, 10, 30, 1266), (10, 414, 10, 31, 1267), (10, 438, 10, 32, 1268), (10, 460, 10, 33, 1269), (10, 65, 10, 34, 1270), (10, 68, 10, 35, 1271), (10, 71, 10, 36, 1272), (10, 475, 10, 37, 1273), (10, 481, 10, 38, 1274)]
theorem x_cpF_all : x_cpF.all (fun e => decide (e.2.2.1 < 11 ∧ e.2.2.2.1 < x_nF e.2.2.1) && x_ckw e.2.2.2.2 (.fieldLink (x_R e.1) e.2.1 (x_TT e.2.2.1 e.2.2.2.1).1 (x_TT e.2.2.1 e.2.2.2.1).2.1 (x_TT e.2.2.1 e.2.2.2.1).2.2.1)) = true := by decide +kernel
/-- a field's entry in a class's pool -/
def x_isF (o ix ci k : Nat) : Bool := x_cpF.any (fun e => e.1 == o && (e.2.1 == ix && (e.2.2.1 == ci && e.2.2.2.1 == k)))
theorem x_isF_ok {o ix ci k : Nat} (h : x_isF o ix ci k = true) : ci < 11 ∧ k < x_nF ci ∧ Cond.fieldLink (x_R o) ix (x_TT ci k).1 (x_TT ci k).2.1 (x_TT ci k).2.2.1 ∈ x_gd := by
  obtain ⟨e, he, h1⟩ := List.any_eq_true.mp h
  have h2 := List.all_eq_true.mp x_cpF_all e he
  simp only [Bool.and_eq_true, beq_iff_eq, decide_eq_true_eq] at h1 h2
  obtain ⟨rfl, rfl, rfl, rfl⟩ := h1
  exact ⟨h2.1.1, h2.1.2, x_ckw_ok h2.2⟩
def x_cpM : List (Nat × Nat × Nat × Nat) := [(11, 9, 96, 113), (9, 45, 0, 194), (0, 40, 1, 198), (9, 83, 52, 355), (9, 92, 43, 365), (11, 13, 97, 459), (11, 18, 98, 463), (11, 23, 99, 467), (11, 27, 100, 471), (9, 104, 164, 475), (9, 108, 161, 478), (9, 112, 160, 481), (9, 115, 94, 485), (9, 119, 159, 489), (11, 34, 101, 493), (9, 123, 166, 497), (9, 139, 93, 501), (9, 127, 95, 505), (11, 39, 102, 509), (9, 131, 157, 513), (11, 44, 103, 517), (11, 49, 104, 524), (9, 154, 79, 528), (11, 54, 105, 532), (9, 157, 80, 536), (7, 34, 82, 543), (7, 37, 81, 547), (7, 50, 83, 551), (7, 53, 84, 557), (9, 161, 1, 561), (9, 166, 35, 564), (9, 169, 36, 579), (1, 34, 37, 583), (1, 51, 85, 587), (1, 65, 82, 591), (1, 75, 88, 596), (7, 70, 85, 600), (1, 85, 86, 601), (1, 38, 38, 605), (1, 91, 91, 609), (7, 77, 89, 613), (7, 87, 34, 617), (0, 158, 33, 621), (1, 95, 87, 625), (1, 42, 39, 629), (1, 107, 41, 633), (1, 45, 40, 637), (1, 48, 42, 641), (1, 120, 90, 645), (7, 81, 33, 649), (1, 126, 7, 650), (1, 54, 13, 653), (0, 101, 14, 657), (0, 105, 7, 661), (1, 58, 12, 662), (0, 98, 11, 666), (9, 172, 169, 672), (9, 176, 57, 676), (9, 180, 156, 680), (11, 59, 106, 684), (9, 190, 59, 691), (9, 193, 60, 711), (5, 36, 61, 715), (5, 46, 85, 719), (5, 65, 82, 720), (5, 68, 86, 721), (5, 40, 62, 722), (5, 71, 63, 726), (5, 77, 88, 729), (5, 81, 65, 730), (5, 95, 90, 734), (5, 84, 64, 735), (11, 63, 107, 739), (11, 67, 108, 743), (9, 197, 9, 747), (9, 200, 10, 751), (0, 82, 13, 755), (11, 71, 109, 760), (9, 203, 3, 764), (11, 75, 110, 768), (9, 210, 4, 772), (9, 219, 16, 776), (11, 80, 111, 780), (9, 223, 6, 784), (0, 75, 5, 788), (0, 79, 3, 792), (9, 227, 7, 793), (11, 85, 112, 794), (9, 236, 5, 798), (9, 242, 8, 799), (11, 89, 113, 802), (11, 93, 114, 806), (9, 248, 14, 810), (11, 97, 115, 811), (9, 252, 15, 815), (11, 101, 116, 819), (9, 255, 162, 823), (9, 258, 18, 826), (9, 262, 158, 830), (11, 105, 117, 834), (9, 265, 19, 838), (0, 111, 8, 842), (0, 118, 16, 844), (0, 124, 72, 846), (6, 29, 14, 850), (6, 37, 73, 852), (6, 63, 71, 856), (6, 50, 7, 861), (6, 56, 67, 863), (6, 67, 74, 867), (6, 71, 75, 871), (9, 269, 20, 876), (0, 128, 21, 880), (0, 136, 69, 884), (6, 17, 68, 887), (0, 132, 68, 890), (11, 109, 118, 891), (9, 273, 22, 895), (0, 140, 76, 899), (0, 144, 23, 903), (11, 113, 119, 907), (9, 277, 24, 911), (11, 117, 120, 915), (9, 280, 26, 919), (0, 148, 25, 923), (11, 121, 121, 928), (9, 283, 27, 932), (11, 126, 122, 936), (9, 287, 28, 940), (11, 130, 123, 944), (9, 290, 29, 948), (11, 134, 124, 953), (9, 293, 168, 957), (9, 296, 13, 961), (9, 300, 32, 962), (0, 155, 30, 966), (11, 138, 125, 970), (9, 303, 17, 974), (0, 108, 12, 978), (11, 142, 126, 979), (11, 147, 127, 985), (11, 151, 128, 989), (11, 155, 129, 998), (9, 326, 12, 1002), (11, 159, 130, 1003), (11, 163, 131, 1007), (9, 329, 163, 1011), (9, 332, 72, 1014), (9, 338, 68, 1016), (11, 167, 132, 1017), (9, 342, 69, 1021), (11, 171, 133, 1022), (9, 349, 73, 1026), (9, 353, 70, 1027), (11, 175, 134, 1031), (11, 179, 135, 1035), (11, 183, 136, 1040), (9, 358, 77, 1044), (11, 188, 137, 1048), (9, 365, 76, 1052), (11, 192, 138, 1053), (11, 196, 139, 1058), (11, 200, 140, 1062), (9, 374, 31, 1066), (11, 204, 141, 1070), (11, 208, 142, 1074), (9, 377, 25, 1078), (11, 212, 143, 1079), (9, 380, 171, 1083), (9, 384, 170, 1086), (11, 216, 144, 1090), (11, 220, 145, 1095), (9, 390, 172, 1099), (9, 394, 173, 1102), (9, 433, 11, 1105), (11, 224, 146, 1106), (11, 228, 147, 1110), (9, 398, 165, 1114), (3, 15, 53, 1122), (3, 25, 54, 1123), (3, 35, 19, 1127), (3, 43, 21, 1129), (11, 232, 148, 1131), (9, 405, 55, 1135), (11, 236, 149, 1139), (9, 408, 167, 1143), (11, 240, 150, 1147), (11, 244, 151, 1152), (9, 416, 45, 1156), (2, 65, 46, 1161), (2, 69, 49, 1165), (2, 105, 18, 1169), (2, 109, 22, 1170), (2, 113, 24, 1171), (2, 116, 26, 1172), (2, 119, 17, 1173), (2, 123, 50, 1174), (2, 133, 51, 1178), (2, 136, 19, 1184), (2, 140, 20, 1185), (2, 73, 47, 1186), (2, 83, 48, 1190), (2, 95, 15, 1193), (11, 248, 152, 1194), (9, 421, 44, 1198), (11, 252, 153, 1204), (9, 424, 2, 1208), (11, 256, 154, 1213), (9, 428, 58, 1217), (11, 260, 155, 1222), (11, 12, 174, 1228), (10, 74, 175, 1232), (11, 17, 176, 1354), (11, 22, 177, 1358), (11, 26, 178, 1362), (11, 31, 186, 1366), (10, 95, 184, 1370), (10, 91, 179, 1373), (11, 38, 188, 1377), (10, 98, 187, 1381), (10, 102, 185, 1385), (11, 43, 189, 1388), (11, 48, 190, 1393), (11, 53, 192, 1397), (10, 111, 193, 1401), (11, 66, 208, 1405), (11, 58, 218, 1409), (10, 222, 201, 1413), (10, 160, 197, 1417), (10, 120, 194, 1421), (10, 132, 195, 1425), (10, 135, 196, 1428), (10, 84, 180, 1433), (10, 226, 217, 1437), (10, 169, 199, 1442), (10, 166, 200, 1494), (10, 194, 204, 1498), (10, 206, 213, 1502), (10, 186, 211, 1506), (10, 179, 205, 1510), (10, 183, 207, 1514), (10, 173, 206, 1518), (10, 190, 203, 1522), (10, 210, 214, 1526), (10, 197, 210, 1530), (10, 213, 215, 1534), (10, 216, 216, 1538), (10, 200, 212, 1542), (10, 219, 202, 1546), (10, 163, 198, 1550), (10, 229, 236, 1554), (10, 274, 233, 1558), (10, 268, 224, 1562), (10, 277, 235, 1565), (10, 271, 232, 1569), (10, 280, 234, 1573), (10, 232, 209, 1577), (10, 88, 181, 1581), (11, 62, 223, 1585), (10, 250, 222, 1589), (10, 247, 221, 1593), (10, 235, 219, 1597), (10, 238, 220, 1601), (11, 70, 239, 1605), (11, 74, 240, 1609), (10, 256, 226, 1613), (11, 79, 241, 1617), (10, 259, 227, 1621), (10, 286, 237, 1625), (10, 283, 225, 1629), (11, 84, 242, 1632), (10, 290, 229, 1636), (10, 253, 228, 1640), (11, 88, 243, 1644), (10, 293, 230, 1648), (11, 92, 244, 1652), (11, 96, 245, 1656), (11, 100, 246, 1660), (10, 296, 182, 1664), (11, 104, 252, 1668), (10, 308, 231, 1672), (10, 264, 191, 1676), (10, 311, 251, 1679), (10, 305, 250, 1683), (11, 108, 254, 1688), (10, 318, 253, 1692), (10, 314, 248, 1696), (10, 300, 247, 1700), (10, 321, 249, 1705), (11, 112, 256, 1709), (10, 324, 255, 1713), (11, 116, 258, 1717), (10, 327, 257, 1721), (11, 120, 261, 1725), (10, 333, 260, 1729), (10, 330, 259, 1733), (11, 125, 262, 1737), (11, 129, 263, 1741), (11, 133, 264, 1745), (11, 137, 268, 1750), (10, 341, 267, 1754), (10, 344, 266, 1758), (10, 338, 265, 1762), (11, 141, 270, 1766), (10, 352, 269, 1771), (10, 347, 238, 1775), (11, 146, 271, 1779), (11, 150, 272, 1786), (11, 154, 273, 1790), (11, 158, 275, 1797), (10, 369, 274, 1801), (11, 162, 276, 1805), (11, 166, 278, 1809), (10, 372, 277, 1813), (11, 170, 279, 1816), (11, 174, 280, 1820), (11, 178, 281, 1824), (11, 182, 282, 1828), (11, 187, 285, 1832), (10, 375, 284, 1836), (10, 378, 283, 1840), (11, 191, 286, 1844), (11, 195, 287, 1848), (11, 199, 288, 1852), (11, 203, 290, 1856), (10, 382, 289, 1860), (11, 207, 291, 1864), (11, 211, 292, 1868), (11, 215, 295, 1872), (10, 387, 293, 1876), (10, 390, 294, 1880), (10, 394, 183, 1883), (11, 219, 296, 1887), (11, 223, 300, 1892), (10, 408, 299, 1896), (10, 411, 298, 1900), (10, 400, 297, 1904), (11, 227, 301, 1907), (11, 231, 308, 1911), (10, 431, 307, 1915), (10, 435, 306, 1920), (10, 417, 304, 1924), (10, 420, 302, 1927), (10, 423, 303, 1931), (10, 426, 305, 1935), (11, 235, 309, 1939), (11, 239, 310, 1943), (11, 243, 311, 1947), (11, 247, 322, 1951), (10, 472, 321, 1955), (10, 463, 318, 1959), (10, 448, 314, 1963), (10, 445, 313, 1967), (10, 451, 315, 1971), (10, 454, 316, 1975), (10, 457, 317, 1979), (10, 442, 312, 1983), (10, 466, 319, 1988), (10, 469, 320, 1992), (11, 251, 323, 1996), (11, 255, 324, 2000), (11, 259, 326, 2005), (10, 484, 325, 2009), (11, 263, 327, 2013)]
theorem x_cpM_all : x_cpM.all (fun e => x_ckw e.2.2.2 (.methodLink (x_R e.1) e.2.1 (x_y e.2.2.1))) = true := by decide +kernel
def x_isM (o ix a : Nat) : Bool := x_cpM.any (fun e => e.1 == o && (e.2.1 == ix && e.2.2.1 == a))
theorem x_isM_ok {o ix a : Nat} (h : x_isM o ix a = true) : Cond.methodLink (x_R o) ix (x_y a) ∈ x_gd := by
  obtain ⟨e, he, h1⟩ := List.any_eq_true.mp h
  have h2 := List.all_eq_true.mp x_cpM_all e he
  simp only [Bool.and_eq_true, beq_iff_eq] at h1
  obtain ⟨rfl, rfl, rfl⟩ := h1
  exact x_ckw_ok h2
def x_cpN : List (Nat × Nat × Nat × Nat) := [(9, 26, 92, 122), (9, 29, 78, 142), (9, 55, 56, 290), (9, 76, 66, 344), (9, 401, 53, 1118)]
theorem x_cpN_all : x_cpN.all (fun e => decide (lw_tbl[e.2.2.2]? = some (.methodLinkNest (x_R e.1) e.2.1 (x_y e.2.2.1) "BarkMoney"))) = true := by decide +kernel
def x_isN (o ix a : Nat) : Bool := x_cpN.any (fun e => e.1 == o && (e.2.1 == ix && e.2.2.1 == a))
theorem x_isN_ok {o ix a : Nat} (h : x_isN o ix a = true) : Cond.methodLinkNest (x_R o) ix (x_y a) "BarkMoney" ∈ lw_tbl := by
  obtain ⟨e, he, h1⟩ := List.any_eq_true.mp h
  have h2 := List.all_eq_true.mp x_cpN_all e he
  simp only [Bool.and_eq_true, beq_iff_eq, decide_eq_true_eq] at h1 h2
  obtain ⟨rfl, rfl, rfl⟩ := h1
  exact List.mem_of_getElem? h2
def x_cpK : List (Nat × Nat × Int32 × Nat) := [(0, 154, 99999, 952), (2, 54, 1000000, 1160), (2, 144, 65536, 1182), (10, 138, 100000, 1431), (10, 304, 999999999, 1687), (10, 299, 1000000, 1704), (10, 337, 99999, 1749), (10, 441, 65536, 1987)]
def x_cpL : List (Nat × Nat × Int64 × Nat) := [(0, 86, 999999999, 756), (0, 116, 1152921504606846976, 843), (0, 122, 999, 845), (6, 21, 1152921504606846976, 851), (6, 15, 1099511627776, 866), (9, 318, 999999999, 993), (9, 336, 1152921504606846976, 1015), (9, 356, 999, 1039), (9, 388, 2, 1094), (3, 41, 1152921504606846976, 1128), (9, 411, 9999, 1151), (2, 29, 999999999, 1202), (10, 106, (-1), 1392), (10, 262, 999, 1675), (10, 350, 99, 1770), (10, 355, 10, 1783), (10, 357, 9999, 1784), (10, 359, 50, 1785), (10, 361, 999999999, 1794), (10, 385, 30, 1879), (10, 398, 2, 1891), (10, 406, 5, 1899), (10, 429, 3, 1919), (10, 479, 20, 2004), (11, 32, 4294967295, 2017)]
theorem x_cpK_all : x_cpK.all (fun e => x_ckw e.2.2.2 (.constant (x_R e.1) e.2.1 e.2.2.1)) = true := by decide +kernel
theorem x_cpL_all : x_cpL.all (fun e => x_ckw e.2.2.2 (.constantLong (x_R e.1) e.2.1 e.2.2.1)) = true := by decide +kernel
def x_kf (o ix : Nat) : Option (Nat × Nat × Int32 × Nat) := x_cpK.find? (fun e => e.1 == o && e.2.1 == ix)
def x_lf (o ix : Nat) : Option (Nat × Nat × Int64 × Nat) := x_cpL.find? (fun e => e.1 == o && e.2.1 == ix)
theorem x_kf_ok {o ix : Nat} {e : Nat × Nat × Int32 × Nat} (h : x_kf o ix = some e) : Cond.constant (x_R o) ix e.2.2.1 ∈ x_gd := by
  have h1 := List.find?_some h
  have h2 := List.all_eq_true.mp x_cpK_all e (List.mem_of_find?_eq_some h)
  simp only [Bool.and_eq_true, beq_iff_eq] at h1
  rw [← h1.1, ← h1.2]
  exact x_ckw_ok h2
theorem x_lf_ok {o ix : Nat} {e : Nat × Nat × Int64 × Nat} (h : x_lf o ix = some e) : Cond.constantLong (x_R o) ix e.2.2.1 ∈ x_gd := by
  have h1 := List.find?_some h
  have h2 := List.all_eq_true.mp x_cpL_all e (List.mem_of_find?_eq_some h)
  simp only [Bool.and_eq_true, beq_iff_eq] at h1
  rw [← h1.1, ← h1.2]
  exact x_ckw_ok h2
def x_cpC : List (Nat × Nat × Nat × Nat) := [(11, 7, 9, 111), (9, 20, 8, 119), (9, 27, 7, 140), (9, 43, 0, 192), (9, 53, 4, 288), (9, 74, 6, 342), (9, 81, 3, 353), (9, 90, 2, 363), (9, 164, 1, 562), (9, 188, 5, 689), (11, 10, 10, 1226)]
theorem x_cpC_all : x_cpC.all (fun e => decide (e.2.2.1 < 11) && x_ckw e.2.2.2 (.classLink (x_R e.1) e.2.1 (x_R e.2.2.1))) = true := by decide +kernel
def x_isC (o ix ci : Nat) : Bool := x_cpC.any (fun e => e.1 == o && (e.2.1 == ix && e.2.2.1 == ci))
theorem x_isC_ok {o ix ci : Nat} (h : x_isC o ix ci = true) : ci < 11 ∧ Cond.classLink (x_R o) ix (x_R ci) ∈ x_gd := by
  obtain ⟨e, he, h1⟩ := List.any_eq_true.mp h
  have h2 := List.all_eq_true.mp x_cpC_all e he
  simp only [Bool.and_eq_true, beq_iff_eq, decide_eq_true_eq] at h1 h2
  obtain ⟨rfl, rfl, rfl⟩ := h1
  exact ⟨h2.1, x_ckw_ok h2.2⟩
def x_cpJ : List (Nat × Nat × Nat × Nat) := [(9, 3, 6, 116), (8, 3, 6, 125), (7, 3, 6, 145), (0, 3, 6, 197), (4, 3, 6, 293), (6, 5, 6, 347), (3, 3, 6, 358), (2, 3, 6, 368), (9, 148, 5, 521), (7, 15, 2, 540), (1, 3, 6, 567), (0, 94, 1, 669), (9, 183, 2, 688), (5, 3, 6, 694), (0, 88, 4, 757), (6, 44, 1, 860), (6, 53, 2, 862), (6, 60, 4, 875), (0, 152, 2, 927), (9, 320, 3, 994), (9, 324, 4, 997), (9, 369, 1, 1057), (3, 29, 1, 1130), (2, 145, 1, 1183), (2, 35, 4, 1203), (0, 69, 5, 1212), (4, 41, 5, 1221), (10, 1, 6, 1231), (10, 139, 2, 1432), (10, 363, 4, 1795), (10, 366, 3, 1796)]
def x_jy (w : Nat) : MethodName := match w with
  | 1 => Lib.Math.max.name
  | 2 => Lib.Math.min.name
  | 3 => Lib.MathLoose.max_long.x
  | 4 => Lib.MathLoose.min_long.x
  | 5 => arraycopyName
  | _ => objectInit
theorem x_cpJ_all : x_cpJ.all (fun e => x_ckw e.2.2.2 (.methodLink (x_R e.1) e.2.1 (x_jy e.2.2.1))) = true := by decide +kernel
def x_isJ (o ix a : Nat) : Bool := x_cpJ.any (fun e => e.1 == o && (e.2.1 == ix && e.2.2.1 == a))
theorem x_isJ_ok {o ix a : Nat} (h : x_isJ o ix a = true) : Cond.methodLink (x_R o) ix (x_jy a) ∈ x_gd := by
  obtain ⟨e, he, h1⟩ := List.any_eq_true.mp h
  have h2 := List.all_eq_true.mp x_cpJ_all e he
  simp only [Bool.and_eq_true, beq_iff_eq] at h1
  obtain ⟨rfl, rfl, rfl⟩ := h1
  exact x_ckw_ok h2
theorem x_js1 : Cond.static (x_jy 1) ∈ x_gd := x_gd_at 670 (by decide +kernel) (by decide +kernel)
theorem x_jc1 : Cond.code (x_jy 1) Lib.Math.max.code 2 (some .int) ∈ x_gd := x_gd_at 671 (by decide +kernel) (by decide +kernel)
theorem x_js2 : Cond.static (x_jy 2) ∈ x_gd := x_gd_at 541 (by decide +kernel) (by decide +kernel)
theorem x_jc2 : Cond.code (x_jy 2) Lib.Math.min.code 2 (some .int) ∈ x_gd := x_gd_at 542 (by decide +kernel) (by decide +kernel)
theorem x_js3 : Cond.static (x_jy 3) ∈ x_gd := x_gd_at 995 (by decide +kernel) (by decide +kernel)
theorem x_jc3 : Cond.code (x_jy 3) Lib.MathLoose.max_long.code 4 (some .long) ∈ x_gd := x_gd_at 996 (by decide +kernel) (by decide +kernel)
theorem x_js4 : Cond.static (x_jy 4) ∈ x_gd := x_gd_at 758 (by decide +kernel) (by decide +kernel)
theorem x_jc4 : Cond.code (x_jy 4) Lib.MathLoose.min_long.code 4 (some .long) ∈ x_gd := x_gd_at 759 (by decide +kernel) (by decide +kernel)
theorem x_js5 : Cond.static (x_jy 5) ∈ x_gd := x_gd_at 522 (by decide +kernel) (by decide +kernel)
theorem x_jn5 : Cond.native (x_jy 5) ∈ x_gd := x_gd_at 523 (by decide +kernel) (by decide +kernel)
theorem x_ji6 : Cond.instanceMethod (x_jy 6) ∈ x_gd := x_gd_at 117 (by decide +kernel) (by decide +kernel)
theorem x_jc6 : Cond.code (x_jy 6) ⟨#[0xb1]⟩ 1 none ∈ x_gd := x_gd_at 118 (by decide +kernel) (by decide +kernel)
theorem x_iniMath : Cond.initialized "java/lang/Math" ∈ x_gd := x_gd_at 104 (by decide +kernel) (by decide +kernel)
theorem x_iniSys : Cond.initialized "java/lang/System" ∈ x_gd := x_gd_at 103 (by decide +kernel) (by decide +kernel)
def x_inip : List Nat := [97, 105, 101, 100, 98, 110, 99, 96, 95, 94, 102, 93]
theorem x_ini_all : (List.range 12).all (fun o => x_ckw (x_inip.getD o 0) (.initialized (x_R o))) = true := by decide +kernel
theorem x_ini {o : Nat} (h : o < 12) : Cond.initialized (x_R o) ∈ x_gd := x_ckw_ok (List.all_eq_true.mp x_ini_all o (List.mem_range.mpr h))
def x_insp : List Nat := [193, 563, 364, 354, 289, 690, 343, 141, 121, 112, 1227]
theorem x_ins_all : (List.range 11).all (fun o => x_ckw (x_insp.getD o 0) (.instantiable (x_R o) (x_nF o))) = true := by decide +kernel
theorem x_inst {o : Nat} (h : o < 11) : Cond.instantiable (x_R o) (x_nF o) ∈ x_gd := x_ckw_ok (List.all_eq_true.mp x_ins_all o (List.mem_range.mpr h))
