/-! the program of the claim as tables: own classes, methods, links (written by wip/whole/gen06.py out of what TURN printed) -/
def ocn : Nat → String := fun k => match k with
  | 0 => RX0
  | 1 => RX1
  | 2 => RX2
  | 3 => RX3
  | 4 => RX4
  | 5 => RX5
  | 6 => RX6
  | 7 => RX7
  | 8 => RX8
  | 9 => RX9
  | 10 => RX10
  | 11 => RX11
  | 12 => RX12
  | 13 => RJ6
  | 14 => RJ9
  | 15 => RJ7
  | _ => RL
def cin : Nat → String := fun k => match k with
  | 0 => RX0
  | 1 => RX1
  | 2 => RX3
  | 3 => RX4
  | 4 => RX5
  | 5 => RX6
  | 6 => RX7
  | 7 => RX8
  | 8 => RX10
  | 9 => RX11
  | _ => RX12
def cit : Nat → u_T := fun k => match k with
  | 0 => TX0
  | 1 => TX1
  | 2 => TX3
  | 3 => TX4
  | 4 => TX5
  | 5 => TX6
  | 6 => TX7
  | 7 => TX8
  | 8 => TX10
  | 9 => TX11
  | _ => TX12
def ciN : Nat → Nat := fun k => match k with
  | 0 => 11
  | 1 => 2
  | 2 => 10
  | 3 => 10
  | 4 => 4
  | 5 => 3
  | 6 => 11
  | 7 => 9
  | 8 => 10
  | 9 => 7
  | _ => 35
def cty : Nat → Nat → FieldType := fun k => match k with
  | 0 => tyX0
  | 1 => tyX1
  | 2 => tyX3
  | 3 => tyX4
  | 4 => tyX5
  | 5 => tyX6
  | 6 => tyX7
  | 7 => tyX8
  | 8 => tyX10
  | 9 => tyX11
  | _ => tyX12
def cdf : Nat → List Value := fun k => match k with
  | 0 => [.int 0, .int 0, .int 0, .int 0, .int 0, .long 0, .int 0, .int 0, .int 0, .int 0, .int 0]
  | 1 => [.null, .null]
  | 2 => [.null, .int 0, .int 0, .int 0, .int 0, .null, .null, .null, .null, .null]
  | 3 => [.null, .null, .int 0, .int 0, .int 0, .int 0, .int 0, .long 0, .int 0, .int 0]
  | 4 => [.null, .int 0, .null, .null]
  | 5 => [.null, .null, .null]
  | 6 => [.null, .null, .int 0, .int 0, .int 0, .int 0, .int 0, .long 0, .int 0, .int 0, .int 0]
  | 7 => [.int 0, .int 0, .int 0, .int 0, .int 0, .int 0, .null, .null, .null]
  | 8 => [.null, .null, .int 0, .int 0, .int 0, .int 0, .int 0, .long 0, .int 0, .int 0]
  | 9 => [.null, .null, .int 0, .null, .int 0, .null, .null]
  | _ => [.int 0, .int 0, .null, .null, .null, .null, .null, .null, .null, .null, .int 0, .null, .int 0, .null, .null, .null, .null, .null, .null, .null, .null, .null, .null, .null, .null, .null, .null, .int 0, .null, .null, .null, .null, .null, .null, .null]
abbrev MT : Type := Nat × MethodName × ByteArray × Nat × Option FieldType
def mdT_0 : List MT := [
  (0, yX0_freeIn, cX0_freeIn, 1, (some .int)),
  (11, yX11_isIn, cX11_isIn, 2, (some .boolean)),
  (11, yX11_partsInPlaceOf, cX11_partsInPlaceOf, 1, (some .int)),
  (9, yX9_init, cX9_init, 5, none),
  (0, yX0_init, cX0_init, 5, none),
  (0, yX0_partFor, cX0_partFor, 2, (some .int)),
  (3, yX3_all, cX3_all, 1, (some .int)),
  (11, yX11_bothSpans, cX11_bothSpans, 2, (some .long)),
  (3, yX3_spansOfFact, cX3_spansOfFact, 2, (some .long)),
  (8, yX8_has, cX8_has, 2, (some .boolean)),
  (3, yX3_withSort, cX3_withSort, 5, (some .int)),
  (3, yX3_withShape, cX3_withShape, 5, (some .int)),
  (0, yX0_findSpans, cX0_findSpans, 5, (some .long)),
  (1, yX1_init, cX1_init, 1, none),
  (1, yX1_take, cX1_take, 2, none),
  (13, yJ6_bitCount_0f7a4, cJ6_bitCount_0f7a4, 1, (some .int)),
  (1, yX1_newsOf, cX1_newsOf, 2, (some .int)),
  (1, yX1_countNews, cX1_countNews, 5, (some .int)),
  (2, yX2_init, cX2_init, 6, none),
  (9, yX9_heft, cX9_heft, 1, (some .int)),
  (2, yX2_heft, cX2_heft, 1, (some .int)),
  (8, yX8_init, cX8_init, 1, none),
  (3, yX3_init, cX3_init, 2, none),
  (15, yJ7_fill_53178, cJ7_fill_53178, 4, none)]
def mdT_1 : List MT := [
  (8, yX8_begin, cX8_begin, 3, none),
  (8, yX8_set, cX8_set, 5, (some .boolean)),
  (8, yX8_follow, cX8_follow, 4, none),
  (3, yX3_come, cX3_come, 4, (some .int)),
  (3, yX3_latest, cX3_latest, 1, (some (.object "PastWeb$State"))),
  (3, yX3_changeLatest, cX3_changeLatest, 1, (some (.object "PastWeb$State"))),
  (3, yX3_dropLatest, cX3_dropLatest, 1, (some .int)),
  (3, yX3_withBit, cX3_withBit, 3, (some .int)),
  (8, yX8_closeLinks, cX8_closeLinks, 5, none),
  (3, yX3_noteState, cX3_noteState, 8, none),
  (3, yX3_note, cX3_note, 2, none),
  (3, yX3_upTo, cX3_upTo, 2, (some .int)),
  (3, yX3_ever, cX3_ever, 4, (some .int)),
  (3, yX3_always, cX3_always, 4, (some .int)),
  (3, yX3_withNoneBefore, cX3_withNoneBefore, 5, (some .int)),
  (3, yX3_rightBehind, cX3_rightBehind, 4, (some .int)),
  (3, yX3_since, cX3_since, 7, (some .int)),
  (8, yX8_hasSameLook, cX8_hasSameLook, 4, (some .boolean)),
  (8, yX8_hasSameLinks, cX8_hasSameLinks, 4, (some .boolean)),
  (8, yX8_changedFrom, cX8_changedFrom, 4, (some .int)),
  (3, yX3_changedIn, cX3_changedIn, 3, (some .int)),
  (8, yX8_heir, cX8_heir, 5, (some .int)),
  (3, yX3_wentOver, cX3_wentOver, 8, (some .int)),
  (3, yX3_waysTo, cX3_waysTo, 2, (some .long))]
def mdT_2 : List MT := [
  (3, yX3_countRoads, cX3_countRoads, 4, (some .long)),
  (3, yX3_latestCommon, cX3_latestCommon, 6, (some .int)),
  (3, yX3_onWays, cX3_onWays, 5, (some .int)),
  (4, yX4_init, cX4_init, 5, none),
  (11, yX11_spanOf, cX11_spanOf, 3, (some .int)),
  (10, yX10_findSpans, cX10_findSpans, 9, (some .long)),
  (4, yX4_findSpans, cX4_findSpans, 5, (some .long)),
  (7, yX7_findSpans, cX7_findSpans, 6, (some .long)),
  (9, yX9_spans, cX9_spans, 4, (some .long)),
  (5, yX5_init, cX5_init, 1, none),
  (5, yX5_isOne, cX5_isOne, 2, (some .boolean)),
  (11, yX11_asParts, cX11_asParts, 3, (some .int)),
  (5, yX5_partsOf, cX5_partsOf, 1, (some .int)),
  (5, yX5_fill, cX5_fill, 6, none),
  (5, yX5_size, cX5_size, 5, (some .int)),
  (5, yX5_find, cX5_find, 6, (some .int)),
  (5, yX5_countInStates, cX5_countInStates, 5, (some (.array .int))),
  (6, yX6_init, cX6_init, 1, none),
  (6, yX6_clear, cX6_clear, 1, none),
  (6, yX6_holdTerm, cX6_holdTerm, 2, (some .int)),
  (6, yX6_holdInts, cX6_holdInts, 2, (some .int)),
  (6, yX6_holdBytes, cX6_holdBytes, 2, (some .int)),
  (6, yX6_isEmpty, cX6_isEmpty, 1, (some .boolean)),
  (6, yX6_size, cX6_size, 1, (some .int))]
def mdT_3 : List MT := [
  (6, yX6_at, cX6_at, 2, (some .long)),
  (6, yX6_isLike, cX6_isLike, 2, (some .boolean)),
  (6, yX6_giveTo, cX6_giveTo, 5, none),
  (7, yX7_init, cX7_init, 4, none),
  (7, yX7_heft, cX7_heft, 1, (some .int)),
  (8, yX8_countLinks, cX8_countLinks, 3, (some .int)),
  (8, yX8_drop, cX8_drop, 4, (some .int)),
  (8, yX8_lead, cX8_lead, 7, (some .boolean)),
  (8, yX8_tellShapes, cX8_tellShapes, 3, (some (.array .byte))),
  (9, yX9_fail, cX9_fail, 1, none),
  (10, yX10_init, cX10_init, 5, none),
  (10, yX10_heft, cX10_heft, 1, (some .int)),
  (11, yX11_init, cX11_init, 2, none),
  (11, yX11_isBelow, cX11_isBelow, 2, (some .boolean)),
  (11, yX11_isState, cX11_isState, 2, (some .boolean)),
  (11, yX11_areAhead, cX11_areAhead, 3, (some .boolean)),
  (11, yX11_state, cX11_state, 3, (some .int)),
  (11, yX11_isPart, cX11_isPart, 1, (some .boolean)),
  (11, yX11_put, cX11_put, 4, (some .int)),
  (11, yX11_gone, cX11_gone, 2, (some .int)),
  (11, yX11_isKindOfLink, cX11_isKindOfLink, 1, (some .boolean)),
  (11, yX11_link, cX11_link, 5, (some .int)),
  (11, yX11_read, cX11_read, 2, (some .int)),
  (11, yX11_undo, cX11_undo, 1, (some .int))]
def mdT_4 : List MT := [
  (11, yX11_look, cX11_look, 4, (some .int)),
  (11, yX11_part, cX11_part, 5, (some .int)),
  (11, yX11_meet, cX11_meet, 3, (some .int)),
  (11, yX11_between, cX11_between, 3, (some .int)),
  (11, yX11_together, cX11_together, 9, (some .int)),
  (11, yX11_isOfSign, cX11_isOfSign, 1, (some .boolean)),
  (11, yX11_addTerm, cX11_addTerm, 2, (some .int)),
  (11, yX11_of, cX11_of, 5, (some .int)),
  (11, yX11_two, cX11_two, 6, (some .int)),
  (11, yX11_isTerm, cX11_isTerm, 2, (some .boolean)),
  (11, yX11_addSome, cX11_addSome, 4, (some .int)),
  (11, yX11_isOfTwoTerms, cX11_isOfTwoTerms, 1, (some .boolean)),
  (11, yX11_addOfTerms, cX11_addOfTerms, 5, (some .int)),
  (11, yX11_term, cX11_term, 4, (some .int)),
  (11, yX11_told, cX11_told, 4, (some .int)),
  (11, yX11_span, cX11_span, 6, (some .int)),
  (11, yX11_lines, cX11_lines, 2, (some .int)),
  (11, yX11_refusalOfRows, cX11_refusalOfRows, 2, (some .int)),
  (11, yX11_rows, cX11_rows, 4, (some .int)),
  (11, yX11_row, cX11_row, 6, (some .int)),
  (11, yX11_firstRefusal, cX11_firstRefusal, 2, (some .int)),
  (13, yJ6_numberOfTrailingZeros_0f7a4, cJ6_numberOfTrailingZeros_0f7a4, 2, (some .int)),
  (11, yX11_firstApart, cX11_firstApart, 7, (some .int)),
  (11, yX11_apart, cX11_apart, 4, (some .int))]
def mdT_5 : List MT := [
  (11, yX11_keepTerm, cX11_keepTerm, 3, (some .int)),
  (11, yX11_news, cX11_news, 3, (some .int)),
  (11, yX11_fresh, cX11_fresh, 4, (some .int)),
  (11, yX11_forget, cX11_forget, 2, (some .int)),
  (11, yX11_count, cX11_count, 2, (some .int)),
  (11, yX11_isShelf, cX11_isShelf, 1, (some .boolean)),
  (11, yX11_keepRowCounts, cX11_keepRowCounts, 4, (some .int)),
  (11, yX11_keep, cX11_keep, 4, (some .int)),
  (11, yX11_make, cX11_make, 4, (some .int)),
  (11, yX11_isStretch, cX11_isStretch, 3, (some .boolean)),
  (11, yX11_copy, cX11_copy, 8, (some .int)),
  (11, yX11_refusalOfHeldTerm, cX11_refusalOfHeldTerm, 2, (some .int)),
  (11, yX11_weight, cX11_weight, 3, (some .int)),
  (12, yX12_init, cX12_init, 1, none),
  (12, yX12_thrown, cX12_thrown, 1, (some .int)),
  (12, yX12_in, cX12_in, 4, (some .boolean)),
  (12, yX12_isState, cX12_isState, 2, (some .boolean)),
  (12, yX12_isPart, cX12_isPart, 2, (some .boolean)),
  (12, yX12_linkAt, cX12_linkAt, 4, (some .int)),
  (12, yX12_isIn, cX12_isIn, 3, (some .boolean)),
  (12, yX12_ones, cX12_ones, 4, (some .int)),
  (12, yX12_takeOver, cX12_takeOver, 5, none),
  (12, yX12_state, cX12_state, 6, (some .int)),
  (12, yX12_put, cX12_put, 6, (some .int))]
def mdT_6 : List MT := [
  (12, yX12_gone, cX12_gone, 6, (some .int)),
  (12, yX12_link, cX12_link, 7, (some .int)),
  (12, yX12_read, cX12_read, 3, (some .int)),
  (12, yX12_undo, cX12_undo, 1, (some .int)),
  (12, yX12_isAsBefore, cX12_isAsBefore, 6, (some .boolean)),
  (12, yX12_changedIn, cX12_changedIn, 5, (some .int)),
  (12, yX12_look, cX12_look, 5, (some .int)),
  (12, yX12_wentTo, cX12_wentTo, 9, (some .int)),
  (12, yX12_part, cX12_part, 4, (some .int)),
  (12, yX12_roads, cX12_roads, 4, (some .long)),
  (12, yX12_upTo, cX12_upTo, 2, (some .int)),
  (12, yX12_meet, cX12_meet, 6, (some .int)),
  (12, yX12_between, cX12_between, 5, (some .int)),
  (12, yX12_together, cX12_together, 9, (some .int)),
  (12, yX12_isTerm, cX12_isTerm, 2, (some .boolean)),
  (12, yX12_isThing, cX12_isThing, 2, (some .boolean)),
  (12, yX12_freeOf, cX12_freeOf, 2, (some .int)),
  (12, yX12_comes, cX12_comes, 8, (some .int)),
  (12, yX12_of, cX12_of, 5, (some .int)),
  (12, yX12_two, cX12_two, 6, (some .int)),
  (12, yX12_isOfTwo, cX12_isOfTwo, 2, (some .boolean)),
  (12, yX12_term, cX12_term, 4, (some .int)),
  (12, yX12_told, cX12_told, 3, (some .int)),
  (12, yX12_findReaches, cX12_findReaches, 4, none)]
def mdT_7 : List MT := [
  (12, yX12_ask, cX12_ask, 3, none),
  (12, yX12_partFor, cX12_partFor, 5, (some .int)),
  (12, yX12_holdsIn, cX12_holdsIn, 8, (some .boolean)),
  (12, yX12_everOf, cX12_everOf, 4, (some .int)),
  (12, yX12_alwaysOf, cX12_alwaysOf, 4, (some .int)),
  (12, yX12_firstOf, cX12_firstOf, 5, (some .int)),
  (12, yX12_aheadOf, cX12_aheadOf, 4, (some .int)),
  (12, yX12_sinceOf, cX12_sinceOf, 6, (some .int)),
  (12, yX12_workSmall, cX12_workSmall, 9, none),
  (12, yX12_workOne, cX12_workOne, 13, none),
  (12, yX12_work, cX12_work, 6, none),
  (12, yX12_span, cX12_span, 7, (some .int)),
  (12, yX12_lines, cX12_lines, 4, (some .int)),
  (12, yX12_lacksRows, cX12_lacksRows, 2, (some .int)),
  (12, yX12_workRows, cX12_workRows, 3, none),
  (12, yX12_rowSpan, cX12_rowSpan, 7, (some .int)),
  (12, yX12_rows, cX12_rows, 5, (some .int)),
  (12, yX12_row, cX12_row, 6, (some .int)),
  (12, yX12_spanFor, cX12_spanFor, 3, (some .int)),
  (12, yX12_apart, cX12_apart, 5, (some .int)),
  (12, yX12_freshen, cX12_freshen, 3, none),
  (12, yX12_keepTerm, cX12_keepTerm, 2, (some .int)),
  (12, yX12_news, cX12_news, 8, (some .int)),
  (12, yX12_fresh, cX12_fresh, 4, (some .int))]
def mdT_8 : List MT := [
  (12, yX12_forget, cX12_forget, 2, (some .int)),
  (12, yX12_count, cX12_count, 2, (some .int)),
  (12, yX12_isShelf, cX12_isShelf, 2, (some .boolean)),
  (12, yX12_keep, cX12_keep, 7, (some .int)),
  (12, yX12_make, cX12_make, 5, (some .int)),
  (12, yX12_element, cX12_element, 3, (some .long)),
  (12, yX12_copy, cX12_copy, 7, (some .int)),
  (12, yX12_lacksTerm, cX12_lacksTerm, 2, (some .int)),
  (12, yX12_weight, cX12_weight, 4, (some .int)),
  (12, yX12_toss, cX12_toss, 2, (some .int))]
def mdT : List MT := mdT_0 ++ (mdT_1 ++ (mdT_2 ++ (mdT_3 ++ (mdT_4 ++ (mdT_5 ++ (mdT_6 ++ (mdT_7 ++ (mdT_8))))))))
def mdL : List MT := mdT ++ [(16, yL_law, cL_law, 8, (some .boolean))]
def mtd (k : Nat) : MT := mdL.getD k (0, yX0_freeIn, cX0_freeIn, 0, none)
abbrev FE : Type := Nat × Nat × Nat × Nat × String × String
def ftL_0 : List FE := [
  (9, 7, 0, 0, "PastWeb$Term", ""),
  (9, 7, 3, 2, "PastWeb$Term", ""),
  (9, 7, 6, 2, "PastWeb$Term", ""),
  (9, 7, 8, 2, "PastWeb$Term", ""),
  (9, 13, 0, 1, "PastWeb$Term", ""),
  (9, 13, 3, 3, "PastWeb$Term", ""),
  (9, 13, 6, 3, "PastWeb$Term", ""),
  (9, 13, 8, 3, "PastWeb$Term", ""),
  (9, 16, 0, 2, "PastWeb$Term", ""),
  (9, 16, 3, 4, "PastWeb$Term", ""),
  (9, 16, 6, 4, "PastWeb$Term", ""),
  (9, 16, 8, 4, "PastWeb$Term", ""),
  (9, 19, 0, 3, "PastWeb$Term", ""),
  (9, 19, 3, 5, "PastWeb$Term", ""),
  (9, 19, 6, 5, "PastWeb$Term", ""),
  (9, 19, 8, 5, "PastWeb$Term", ""),
  (9, 28, 0, 4, "PastWeb$Term", ""),
  (9, 28, 3, 6, "PastWeb$Term", ""),
  (9, 28, 6, 6, "PastWeb$Term", ""),
  (9, 28, 8, 6, "PastWeb$Term", ""),
  (9, 31, 0, 7, "PastWeb$Term", ""),
  (9, 31, 3, 9, "PastWeb$Term", ""),
  (9, 31, 6, 9, "PastWeb$Term", ""),
  (9, 31, 8, 9, "PastWeb$Term", "")]
def ftL_1 : List FE := [
  (0, 15, 0, 8, "PastWeb$Atom", ""),
  (0, 19, 0, 9, "PastWeb$Atom", ""),
  (0, 22, 0, 10, "PastWeb$Atom", ""),
  (3, 35, 2, 1, "PastWeb$Past", ""),
  (3, 69, 2, 4, "PastWeb$Past", ""),
  (8, 39, 7, 5, "PastWeb$State", ""),
  (3, 11, 2, 0, "PastWeb$Past", ""),
  (3, 103, 7, 6, "PastWeb$State", "PastWeb"),
  (3, 107, 7, 7, "PastWeb$State", "PastWeb"),
  (0, 29, 0, 0, "PastWeb$Atom", ""),
  (0, 32, 2, 5, "PastWeb$Past", "PastWeb"),
  (0, 48, 2, 6, "PastWeb$Past", "PastWeb"),
  (0, 51, 2, 7, "PastWeb$Past", "PastWeb"),
  (1, 9, 1, 1, "PastWeb$Kept", ""),
  (1, 15, 4, 0, "PastWeb$Rows", "PastWeb"),
  (1, 21, 1, 0, "PastWeb$Kept", ""),
  (1, 22, 4, 2, "PastWeb$Rows", "PastWeb"),
  (2, 1, 0, 3, "PastWeb$Term", ""),
  (2, 1, 3, 5, "PastWeb$Term", ""),
  (2, 1, 6, 5, "PastWeb$Term", ""),
  (2, 1, 8, 5, "PastWeb$Term", ""),
  (2, 17, 3, 0, "PastWeb$OfTerms", ""),
  (2, 17, 6, 0, "PastWeb$OfTerms", ""),
  (2, 17, 8, 0, "PastWeb$OfTerms", "")]
def ftL_2 : List FE := [
  (2, 23, 3, 1, "PastWeb$OfTerms", ""),
  (2, 23, 6, 1, "PastWeb$OfTerms", ""),
  (2, 23, 8, 1, "PastWeb$OfTerms", ""),
  (8, 9, 7, 6, "PastWeb$State", ""),
  (8, 15, 7, 7, "PastWeb$State", ""),
  (8, 18, 7, 8, "PastWeb$State", ""),
  (3, 17, 2, 5, "PastWeb$Past", ""),
  (3, 21, 2, 6, "PastWeb$Past", ""),
  (3, 24, 2, 7, "PastWeb$Past", ""),
  (3, 27, 2, 8, "PastWeb$Past", ""),
  (3, 30, 2, 9, "PastWeb$Past", ""),
  (8, 22, 7, 0, "PastWeb$State", ""),
  (8, 26, 7, 1, "PastWeb$State", ""),
  (8, 29, 7, 2, "PastWeb$State", ""),
  (8, 32, 7, 3, "PastWeb$State", ""),
  (8, 35, 7, 4, "PastWeb$State", ""),
  (3, 47, 2, 2, "PastWeb$Past", ""),
  (3, 50, 2, 3, "PastWeb$Past", ""),
  (3, 72, 7, 4, "PastWeb$State", "PastWeb"),
  (3, 88, 7, 8, "PastWeb$State", "PastWeb"),
  (3, 110, 7, 3, "PastWeb$State", "PastWeb"),
  (3, 117, 7, 2, "PastWeb$State", "PastWeb"),
  (3, 120, 7, 0, "PastWeb$State", "PastWeb"),
  (3, 127, 7, 5, "PastWeb$State", "PastWeb")]
def ftL_3 : List FE := [
  (3, 138, 7, 1, "PastWeb$State", "PastWeb"),
  (4, 3, 0, 1, "PastWeb$Term", ""),
  (4, 3, 3, 3, "PastWeb$Term", ""),
  (4, 3, 6, 3, "PastWeb$Term", ""),
  (4, 3, 8, 3, "PastWeb$Term", ""),
  (10, 19, 8, 0, "PastWeb$Timed", ""),
  (10, 33, 8, 2, "PastWeb$Timed", ""),
  (10, 56, 8, 1, "PastWeb$Timed", ""),
  (4, 15, 3, 0, "PastWeb$Plain", ""),
  (4, 25, 3, 2, "PastWeb$Plain", ""),
  (4, 42, 3, 1, "PastWeb$Plain", ""),
  (7, 24, 6, 0, "PastWeb$Some", ""),
  (7, 15, 6, 10, "PastWeb$Some", ""),
  (9, 34, 2, 2, "PastWeb$Past", "PastWeb"),
  (9, 39, 0, 6, "PastWeb$Term", ""),
  (9, 39, 3, 8, "PastWeb$Term", ""),
  (9, 39, 6, 8, "PastWeb$Term", ""),
  (9, 39, 8, 8, "PastWeb$Term", ""),
  (9, 46, 0, 5, "PastWeb$Term", ""),
  (9, 46, 3, 7, "PastWeb$Term", ""),
  (9, 46, 6, 7, "PastWeb$Term", ""),
  (9, 46, 8, 7, "PastWeb$Term", ""),
  (5, 9, 4, 2, "PastWeb$Rows", ""),
  (5, 15, 4, 3, "PastWeb$Rows", "")]
def ftL_4 : List FE := [
  (5, 26, 4, 0, "PastWeb$Rows", ""),
  (5, 30, 4, 1, "PastWeb$Rows", ""),
  (5, 34, 2, 2, "PastWeb$Past", "PastWeb"),
  (5, 42, 0, 1, "PastWeb$Term", ""),
  (5, 42, 3, 3, "PastWeb$Term", ""),
  (5, 42, 6, 3, "PastWeb$Term", ""),
  (5, 42, 8, 3, "PastWeb$Term", ""),
  (6, 7, 5, 0, "PastWeb$Shelf", ""),
  (6, 13, 5, 1, "PastWeb$Shelf", ""),
  (6, 17, 5, 2, "PastWeb$Shelf", ""),
  (7, 3, 0, 1, "PastWeb$Term", ""),
  (7, 3, 3, 3, "PastWeb$Term", ""),
  (7, 3, 6, 3, "PastWeb$Term", ""),
  (7, 3, 8, 3, "PastWeb$Term", ""),
  (10, 3, 0, 1, "PastWeb$Term", ""),
  (10, 3, 3, 3, "PastWeb$Term", ""),
  (10, 3, 6, 3, "PastWeb$Term", ""),
  (10, 3, 8, 3, "PastWeb$Term", ""),
  (11, 12, 9, 0, "PastWeb", ""),
  (11, 18, 9, 1, "PastWeb", ""),
  (11, 24, 9, 3, "PastWeb", ""),
  (11, 31, 9, 5, "PastWeb", ""),
  (11, 39, 9, 6, "PastWeb", ""),
  (11, 47, 2, 1, "PastWeb$Past", "PastWeb")]
def ftL_5 : List FE := [
  (11, 89, 7, 4, "PastWeb$State", "PastWeb"),
  (11, 93, 9, 4, "PastWeb", ""),
  (11, 103, 2, 0, "PastWeb$Past", "PastWeb"),
  (11, 107, 7, 0, "PastWeb$State", "PastWeb"),
  (11, 110, 7, 1, "PastWeb$State", "PastWeb"),
  (11, 113, 7, 3, "PastWeb$State", "PastWeb"),
  (11, 116, 7, 5, "PastWeb$State", "PastWeb"),
  (11, 128, 7, 6, "PastWeb$State", "PastWeb"),
  (11, 132, 7, 7, "PastWeb$State", "PastWeb"),
  (11, 135, 7, 8, "PastWeb$State", "PastWeb"),
  (11, 255, 9, 2, "PastWeb", ""),
  (11, 181, 0, 2, "PastWeb$Term", ""),
  (11, 181, 3, 4, "PastWeb$Term", ""),
  (11, 181, 6, 4, "PastWeb$Term", ""),
  (11, 181, 8, 4, "PastWeb$Term", ""),
  (11, 188, 0, 0, "PastWeb$Term", ""),
  (11, 188, 3, 2, "PastWeb$Term", ""),
  (11, 188, 6, 2, "PastWeb$Term", ""),
  (11, 188, 8, 2, "PastWeb$Term", ""),
  (11, 191, 0, 1, "PastWeb$Term", ""),
  (11, 191, 3, 3, "PastWeb$Term", ""),
  (11, 191, 6, 3, "PastWeb$Term", ""),
  (11, 191, 8, 3, "PastWeb$Term", ""),
  (11, 194, 0, 3, "PastWeb$Term", "")]
def ftL_6 : List FE := [
  (11, 194, 3, 5, "PastWeb$Term", ""),
  (11, 194, 6, 5, "PastWeb$Term", ""),
  (11, 194, 8, 5, "PastWeb$Term", ""),
  (11, 247, 1, 0, "PastWeb$Kept", "PastWeb"),
  (11, 314, 5, 0, "PastWeb$Shelf", "PastWeb"),
  (12, 7, 10, 0, "PastWebModel", ""),
  (12, 13, 10, 1, "PastWebModel", ""),
  (12, 16, 10, 2, "PastWebModel", ""),
  (12, 20, 10, 3, "PastWebModel", ""),
  (12, 23, 10, 4, "PastWebModel", ""),
  (12, 26, 10, 5, "PastWebModel", ""),
  (12, 29, 10, 6, "PastWebModel", ""),
  (12, 33, 10, 7, "PastWebModel", ""),
  (12, 36, 10, 8, "PastWebModel", ""),
  (12, 39, 10, 9, "PastWebModel", ""),
  (12, 42, 10, 10, "PastWebModel", ""),
  (12, 46, 10, 11, "PastWebModel", ""),
  (12, 50, 10, 12, "PastWebModel", ""),
  (12, 53, 10, 13, "PastWebModel", ""),
  (12, 56, 10, 14, "PastWebModel", ""),
  (12, 59, 10, 15, "PastWebModel", ""),
  (12, 62, 10, 16, "PastWebModel", ""),
  (12, 65, 10, 17, "PastWebModel", ""),
  (12, 68, 10, 18, "PastWebModel", "")]
def ftL_7 : List FE := [
  (12, 71, 10, 19, "PastWebModel", ""),
  (12, 75, 10, 20, "PastWebModel", ""),
  (12, 78, 10, 21, "PastWebModel", ""),
  (12, 81, 10, 22, "PastWebModel", ""),
  (12, 84, 10, 23, "PastWebModel", ""),
  (12, 87, 10, 24, "PastWebModel", ""),
  (12, 90, 10, 25, "PastWebModel", ""),
  (12, 93, 10, 26, "PastWebModel", ""),
  (12, 96, 10, 27, "PastWebModel", ""),
  (12, 99, 10, 28, "PastWebModel", ""),
  (12, 102, 10, 29, "PastWebModel", ""),
  (12, 105, 10, 30, "PastWebModel", ""),
  (12, 108, 10, 31, "PastWebModel", ""),
  (12, 111, 10, 32, "PastWebModel", ""),
  (12, 114, 10, 33, "PastWebModel", ""),
  (12, 117, 10, 34, "PastWebModel", "")]
def ftL : List FE := ftL_0 ++ (ftL_1 ++ (ftL_2 ++ (ftL_3 ++ (ftL_4 ++ (ftL_5 ++ (ftL_6 ++ (ftL_7)))))))
abbrev VE : Type := Nat × Nat × Nat × Nat × Nat × Nat × MethodName × String
def vtL_0 : List VE := [
  (0, 9, 0, 3, 4, 6, ⟨"PastWeb$Term", "<init>", "(IIII)V"⟩, "PastWeb"),
  (0, 9, 3, 3, 4, 6, ⟨"PastWeb$Term", "<init>", "(IIII)V"⟩, "PastWeb"),
  (0, 9, 6, 3, 4, 6, ⟨"PastWeb$Term", "<init>", "(IIII)V"⟩, "PastWeb"),
  (0, 9, 8, 3, 4, 6, ⟨"PastWeb$Term", "<init>", "(IIII)V"⟩, "PastWeb"),
  (3, 95, 2, 6, 0, 0, ⟨"PastWeb$Past", "all", "()I"⟩, ""),
  (3, 80, 7, 9, 1, 1, ⟨"PastWeb$State", "has", "(I)Z"⟩, "PastWeb"),
  (0, 38, 2, 8, 1, 1, ⟨"PastWeb$Past", "spansOfFact", "(I)J"⟩, "PastWeb"),
  (0, 42, 2, 10, 2, 1, ⟨"PastWeb$Past", "withSort", "(II)I"⟩, "PastWeb"),
  (0, 45, 2, 11, 2, 1, ⟨"PastWeb$Past", "withShape", "(II)I"⟩, "PastWeb"),
  (0, 54, 2, 6, 0, 1, ⟨"PastWeb$Past", "all", "()I"⟩, "PastWeb"),
  (2, 13, 0, 3, 4, 6, ⟨"PastWeb$Term", "<init>", "(IIII)V"⟩, "PastWeb"),
  (2, 13, 3, 3, 4, 6, ⟨"PastWeb$Term", "<init>", "(IIII)V"⟩, "PastWeb"),
  (2, 13, 6, 3, 4, 6, ⟨"PastWeb$Term", "<init>", "(IIII)V"⟩, "PastWeb"),
  (2, 13, 8, 3, 4, 6, ⟨"PastWeb$Term", "<init>", "(IIII)V"⟩, "PastWeb"),
  (2, 26, 3, 19, 0, 7, ⟨"PastWeb$Term", "heft", "()I"⟩, ""),
  (2, 26, 6, 19, 0, 7, ⟨"PastWeb$Term", "heft", "()I"⟩, ""),
  (2, 26, 8, 19, 0, 7, ⟨"PastWeb$Term", "heft", "()I"⟩, ""),
  (3, 34, 7, 21, 0, 6, ⟨"PastWeb$State", "<init>", "()V"⟩, "PastWeb"),
  (8, 48, 7, 9, 1, 0, ⟨"PastWeb$State", "has", "(I)Z"⟩, ""),
  (8, 52, 7, 25, 3, 0, ⟨"PastWeb$State", "set", "(III)Z"⟩, ""),
  (3, 39, 7, 24, 2, 1, ⟨"PastWeb$State", "begin", "(II)V"⟩, "PastWeb"),
  (3, 43, 7, 26, 2, 1, ⟨"PastWeb$State", "follow", "(LPastWeb$State;I)V"⟩, "PastWeb"),
  (3, 59, 2, 28, 0, 0, ⟨"PastWeb$Past", "latest", "()LPastWeb$State;"⟩, ""),
  (3, 63, 2, 29, 0, 0, ⟨"PastWeb$Past", "changeLatest", "()LPastWeb$State;"⟩, "")]
def vtL_1 : List VE := [
  (3, 84, 7, 32, 2, 1, ⟨"PastWeb$State", "closeLinks", "(I[I)V"⟩, "PastWeb"),
  (3, 66, 2, 33, 2, 0, ⟨"PastWeb$Past", "noteState", "(LPastWeb$State;I)V"⟩, ""),
  (3, 113, 2, 35, 1, 0, ⟨"PastWeb$Past", "upTo", "(I)I"⟩, ""),
  (8, 70, 7, 41, 3, 0, ⟨"PastWeb$State", "hasSameLook", "(ILPastWeb$State;I)Z"⟩, ""),
  (8, 74, 7, 42, 2, 0, ⟨"PastWeb$State", "hasSameLinks", "(ILPastWeb$State;)Z"⟩, ""),
  (3, 123, 7, 43, 1, 1, ⟨"PastWeb$State", "changedFrom", "(LPastWeb$State;)I"⟩, "PastWeb"),
  (3, 130, 7, 45, 3, 1, ⟨"PastWeb$State", "heir", "(ILPastWeb$State;I)I"⟩, "PastWeb"),
  (3, 134, 2, 47, 1, 0, ⟨"PastWeb$Past", "waysTo", "(I)J"⟩, ""),
  (4, 9, 3, 18, 5, 6, ⟨"PastWeb$OfTerms", "<init>", "(ILPastWeb$Term;LPastWeb$Term;II)V"⟩, "PastWeb"),
  (4, 9, 6, 18, 5, 6, ⟨"PastWeb$OfTerms", "<init>", "(ILPastWeb$Term;LPastWeb$Term;II)V"⟩, "PastWeb"),
  (4, 9, 8, 18, 5, 6, ⟨"PastWeb$OfTerms", "<init>", "(ILPastWeb$Term;LPastWeb$Term;II)V"⟩, "PastWeb"),
  (10, 25, 0, 56, 2, 2, ⟨"PastWeb$Term", "spans", "(LPastWeb$Past;I)J"⟩, ""),
  (10, 25, 3, 56, 2, 2, ⟨"PastWeb$Term", "spans", "(LPastWeb$Past;I)J"⟩, ""),
  (10, 25, 6, 56, 2, 2, ⟨"PastWeb$Term", "spans", "(LPastWeb$Past;I)J"⟩, ""),
  (10, 25, 8, 56, 2, 2, ⟨"PastWeb$Term", "spans", "(LPastWeb$Past;I)J"⟩, ""),
  (10, 36, 2, 36, 1, 1, ⟨"PastWeb$Past", "ever", "(I)I"⟩, "PastWeb"),
  (10, 46, 2, 37, 1, 1, ⟨"PastWeb$Past", "always", "(I)I"⟩, "PastWeb"),
  (10, 49, 2, 38, 2, 1, ⟨"PastWeb$Past", "withNoneBefore", "(II)I"⟩, "PastWeb"),
  (10, 53, 2, 39, 1, 1, ⟨"PastWeb$Past", "rightBehind", "(I)I"⟩, "PastWeb"),
  (10, 59, 2, 40, 2, 1, ⟨"PastWeb$Past", "since", "(II)I"⟩, "PastWeb"),
  (4, 21, 0, 56, 2, 2, ⟨"PastWeb$Term", "spans", "(LPastWeb$Past;I)J"⟩, ""),
  (4, 21, 3, 56, 2, 2, ⟨"PastWeb$Term", "spans", "(LPastWeb$Past;I)J"⟩, ""),
  (4, 21, 6, 56, 2, 2, ⟨"PastWeb$Term", "spans", "(LPastWeb$Past;I)J"⟩, ""),
  (4, 21, 8, 56, 2, 2, ⟨"PastWeb$Term", "spans", "(LPastWeb$Past;I)J"⟩, "")]
def vtL_2 : List VE := [
  (4, 28, 2, 6, 0, 1, ⟨"PastWeb$Past", "all", "()I"⟩, "PastWeb"),
  (7, 28, 0, 56, 2, 2, ⟨"PastWeb$Term", "spans", "(LPastWeb$Past;I)J"⟩, ""),
  (7, 28, 3, 56, 2, 2, ⟨"PastWeb$Term", "spans", "(LPastWeb$Past;I)J"⟩, ""),
  (7, 28, 6, 56, 2, 2, ⟨"PastWeb$Term", "spans", "(LPastWeb$Past;I)J"⟩, ""),
  (7, 28, 8, 56, 2, 2, ⟨"PastWeb$Term", "spans", "(LPastWeb$Past;I)J"⟩, ""),
  (9, 42, 0, 12, 2, 3, ⟨"PastWeb$Term", "findSpans", "(LPastWeb$Past;I)J"⟩, ""),
  (9, 42, 3, 54, 2, 3, ⟨"PastWeb$Term", "findSpans", "(LPastWeb$Past;I)J"⟩, ""),
  (9, 42, 6, 55, 2, 3, ⟨"PastWeb$Term", "findSpans", "(LPastWeb$Past;I)J"⟩, ""),
  (9, 42, 8, 53, 2, 3, ⟨"PastWeb$Term", "findSpans", "(LPastWeb$Past;I)J"⟩, ""),
  (5, 39, 2, 34, 0, 1, ⟨"PastWeb$Past", "note", "()V"⟩, "PastWeb"),
  (5, 54, 0, 56, 2, 2, ⟨"PastWeb$Term", "spans", "(LPastWeb$Past;I)J"⟩, ""),
  (5, 54, 3, 56, 2, 2, ⟨"PastWeb$Term", "spans", "(LPastWeb$Past;I)J"⟩, ""),
  (5, 54, 6, 56, 2, 2, ⟨"PastWeb$Term", "spans", "(LPastWeb$Past;I)J"⟩, ""),
  (5, 54, 8, 56, 2, 2, ⟨"PastWeb$Term", "spans", "(LPastWeb$Past;I)J"⟩, ""),
  (6, 21, 5, 66, 0, 0, ⟨"PastWeb$Shelf", "clear", "()V"⟩, ""),
  (7, 9, 3, 18, 5, 6, ⟨"PastWeb$OfTerms", "<init>", "(ILPastWeb$Term;LPastWeb$Term;II)V"⟩, "PastWeb"),
  (7, 9, 6, 18, 5, 6, ⟨"PastWeb$OfTerms", "<init>", "(ILPastWeb$Term;LPastWeb$Term;II)V"⟩, "PastWeb"),
  (7, 9, 8, 18, 5, 6, ⟨"PastWeb$OfTerms", "<init>", "(ILPastWeb$Term;LPastWeb$Term;II)V"⟩, "PastWeb"),
  (7, 20, 6, 20, 0, 7, ⟨"PastWeb$OfTerms", "heft", "()I"⟩, ""),
  (8, 60, 7, 77, 0, 0, ⟨"PastWeb$State", "countLinks", "()I"⟩, ""),
  (10, 9, 3, 18, 5, 6, ⟨"PastWeb$OfTerms", "<init>", "(ILPastWeb$Term;LPastWeb$Term;II)V"⟩, "PastWeb"),
  (10, 9, 6, 18, 5, 6, ⟨"PastWeb$OfTerms", "<init>", "(ILPastWeb$Term;LPastWeb$Term;II)V"⟩, "PastWeb"),
  (10, 9, 8, 18, 5, 6, ⟨"PastWeb$OfTerms", "<init>", "(ILPastWeb$Term;LPastWeb$Term;II)V"⟩, "PastWeb"),
  (10, 15, 8, 20, 0, 7, ⟨"PastWeb$OfTerms", "heft", "()I"⟩, "")]
def vtL_3 : List VE := [
  (11, 11, 2, 22, 0, 6, ⟨"PastWeb$Past", "<init>", "()V"⟩, "PastWeb"),
  (11, 28, 1, 13, 0, 6, ⟨"PastWeb$Kept", "<init>", "()V"⟩, "PastWeb"),
  (11, 35, 5, 65, 0, 6, ⟨"PastWeb$Shelf", "<init>", "()V"⟩, "PastWeb"),
  (11, 38, 4, 57, 0, 6, ⟨"PastWeb$Rows", "<init>", "()V"⟩, "PastWeb"),
  (11, 100, 9, 86, 1, 0, ⟨"PastWeb", "isState", "(I)Z"⟩, ""),
  (11, 43, 9, 87, 2, 0, ⟨"PastWeb", "areAhead", "(II)Z"⟩, ""),
  (11, 51, 2, 27, 2, 1, ⟨"PastWeb$Past", "come", "(II)I"⟩, "PastWeb"),
  (11, 62, 2, 29, 0, 1, ⟨"PastWeb$Past", "changeLatest", "()LPastWeb$State;"⟩, "PastWeb"),
  (11, 66, 7, 25, 3, 1, ⟨"PastWeb$State", "set", "(III)Z"⟩, "PastWeb"),
  (11, 72, 2, 28, 0, 1, ⟨"PastWeb$Past", "latest", "()LPastWeb$State;"⟩, "PastWeb"),
  (11, 75, 7, 9, 1, 1, ⟨"PastWeb$State", "has", "(I)Z"⟩, "PastWeb"),
  (11, 78, 7, 78, 1, 1, ⟨"PastWeb$State", "drop", "(I)I"⟩, "PastWeb"),
  (11, 85, 7, 79, 4, 1, ⟨"PastWeb$State", "lead", "(IIIZ)Z"⟩, "PastWeb"),
  (11, 96, 2, 30, 0, 1, ⟨"PastWeb$Past", "dropLatest", "()I"⟩, "PastWeb"),
  (11, 119, 7, 77, 0, 1, ⟨"PastWeb$State", "countLinks", "()I"⟩, "PastWeb"),
  (11, 122, 2, 44, 1, 1, ⟨"PastWeb$Past", "changedIn", "(I)I"⟩, "PastWeb"),
  (11, 125, 2, 46, 2, 1, ⟨"PastWeb$Past", "wentOver", "(II)I"⟩, "PastWeb"),
  (11, 146, 2, 48, 2, 1, ⟨"PastWeb$Past", "countRoads", "(II)J"⟩, "PastWeb"),
  (11, 150, 2, 49, 2, 1, ⟨"PastWeb$Past", "latestCommon", "(II)I"⟩, "PastWeb"),
  (11, 153, 2, 50, 2, 1, ⟨"PastWeb$Past", "onWays", "(II)I"⟩, "PastWeb"),
  (11, 164, 0, 4, 4, 6, ⟨"PastWeb$Atom", "<init>", "(IIII)V"⟩, "PastWeb"),
  (11, 167, 9, 102, 1, 0, ⟨"PastWeb", "addTerm", "(LPastWeb$Term;)I"⟩, ""),
  (11, 324, 6, 75, 3, 6, ⟨"PastWeb$Some", "<init>", "(ILPastWeb$Term;I)V"⟩, "PastWeb"),
  (11, 329, 3, 51, 4, 6, ⟨"PastWeb$Plain", "<init>", "(ILPastWeb$Term;LPastWeb$Term;I)V"⟩, "PastWeb")]
def vtL_4 : List VE := [
  (11, 334, 8, 82, 4, 6, ⟨"PastWeb$Timed", "<init>", "(ILPastWeb$Term;LPastWeb$Term;I)V"⟩, "PastWeb"),
  (11, 171, 9, 105, 1, 0, ⟨"PastWeb", "isTerm", "(I)Z"⟩, ""),
  (11, 174, 9, 106, 2, 0, ⟨"PastWeb", "addSome", "(ILPastWeb$Term;)I"⟩, ""),
  (11, 184, 9, 108, 4, 0, ⟨"PastWeb", "addOfTerms", "(ILPastWeb$Term;LPastWeb$Term;I)I"⟩, ""),
  (11, 197, 2, 34, 0, 1, ⟨"PastWeb$Past", "note", "()V"⟩, "PastWeb"),
  (11, 204, 0, 56, 2, 2, ⟨"PastWeb$Term", "spans", "(LPastWeb$Past;I)J"⟩, ""),
  (11, 204, 3, 56, 2, 2, ⟨"PastWeb$Term", "spans", "(LPastWeb$Past;I)J"⟩, ""),
  (11, 204, 6, 56, 2, 2, ⟨"PastWeb$Term", "spans", "(LPastWeb$Past;I)J"⟩, ""),
  (11, 204, 8, 56, 2, 2, ⟨"PastWeb$Term", "spans", "(LPastWeb$Past;I)J"⟩, ""),
  (11, 212, 2, 6, 0, 1, ⟨"PastWeb$Past", "all", "()I"⟩, "PastWeb"),
  (11, 215, 2, 38, 2, 1, ⟨"PastWeb$Past", "withNoneBefore", "(II)I"⟩, "PastWeb"),
  (11, 218, 9, 113, 1, 0, ⟨"PastWeb", "refusalOfRows", "(I)I"⟩, ""),
  (11, 221, 4, 61, 2, 1, ⟨"PastWeb$Rows", "fill", "(LPastWeb$Term;LPastWeb$Past;)V"⟩, "PastWeb"),
  (11, 225, 4, 62, 1, 1, ⟨"PastWeb$Rows", "size", "(Z)I"⟩, "PastWeb"),
  (11, 229, 4, 63, 2, 1, ⟨"PastWeb$Rows", "find", "(IZ)I"⟩, "PastWeb"),
  (11, 236, 9, 118, 2, 0, ⟨"PastWeb", "firstApart", "(LPastWeb$Term;LPastWeb$Term;)I"⟩, ""),
  (11, 240, 1, 14, 1, 1, ⟨"PastWeb$Kept", "take", "(LPastWeb$Rows;)V"⟩, "PastWeb"),
  (11, 251, 1, 17, 2, 1, ⟨"PastWeb$Kept", "countNews", "(LPastWeb$Rows;I)I"⟩, "PastWeb"),
  (11, 244, 9, 121, 2, 0, ⟨"PastWeb", "news", "(II)I"⟩, ""),
  (11, 354, 4, 64, 1, 1, ⟨"PastWeb$Rows", "countInStates", "(I)[I"⟩, "PastWeb"),
  (11, 279, 5, 68, 1, 1, ⟨"PastWeb$Shelf", "holdInts", "([I)I"⟩, "PastWeb"),
  (11, 261, 5, 66, 0, 1, ⟨"PastWeb$Shelf", "clear", "()V"⟩, "PastWeb"),
  (11, 264, 5, 67, 1, 1, ⟨"PastWeb$Shelf", "holdTerm", "(LPastWeb$Term;)I"⟩, "PastWeb"),
  (11, 267, 9, 126, 2, 0, ⟨"PastWeb", "keepRowCounts", "(LPastWeb$Shelf;I)I"⟩, "")]
def vtL_5 : List VE := [
  (11, 271, 7, 80, 0, 1, ⟨"PastWeb$State", "tellShapes", "()[B"⟩, "PastWeb"),
  (11, 275, 5, 69, 1, 1, ⟨"PastWeb$Shelf", "holdBytes", "([B)I"⟩, "PastWeb"),
  (11, 285, 5, 71, 0, 1, ⟨"PastWeb$Shelf", "size", "()I"⟩, "PastWeb"),
  (11, 292, 5, 72, 1, 1, ⟨"PastWeb$Shelf", "at", "(I)J"⟩, "PastWeb"),
  (11, 296, 5, 70, 0, 1, ⟨"PastWeb$Shelf", "isEmpty", "()Z"⟩, "PastWeb"),
  (11, 300, 5, 73, 1, 1, ⟨"PastWeb$Shelf", "isLike", "(LPastWeb$Shelf;)Z"⟩, "PastWeb"),
  (11, 307, 5, 74, 4, 1, ⟨"PastWeb$Shelf", "giveTo", "(LPastWeb$Shelf;III)V"⟩, "PastWeb"),
  (11, 311, 9, 131, 1, 0, ⟨"PastWeb", "refusalOfHeldTerm", "(I)I"⟩, ""),
  (11, 315, 0, 19, 0, 2, ⟨"PastWeb$Term", "heft", "()I"⟩, ""),
  (11, 315, 3, 20, 0, 4, ⟨"PastWeb$Term", "heft", "()I"⟩, ""),
  (11, 315, 6, 76, 0, 4, ⟨"PastWeb$Term", "heft", "()I"⟩, ""),
  (11, 315, 8, 83, 0, 4, ⟨"PastWeb$Term", "heft", "()I"⟩, ""),
  (11, 318, 0, 81, 0, 2, ⟨"PastWeb$Term", "fail", "()V"⟩, ""),
  (12, 120, 10, 135, 3, 0, ⟨"PastWebModel", "in", "(III)Z"⟩, ""),
  (12, 124, 10, 138, 3, 0, ⟨"PastWebModel", "linkAt", "(III)I"⟩, ""),
  (12, 128, 10, 139, 2, 0, ⟨"PastWebModel", "isIn", "(II)Z"⟩, ""),
  (12, 132, 10, 136, 1, 0, ⟨"PastWebModel", "isState", "(I)Z"⟩, ""),
  (12, 136, 10, 141, 2, 0, ⟨"PastWebModel", "takeOver", "(II)V"⟩, ""),
  (12, 140, 10, 137, 1, 0, ⟨"PastWebModel", "isPart", "(I)Z"⟩, ""),
  (12, 143, 10, 140, 1, 0, ⟨"PastWebModel", "ones", "(I)I"⟩, ""),
  (12, 147, 10, 148, 3, 0, ⟨"PastWebModel", "isAsBefore", "(III)Z"⟩, ""),
  (12, 150, 10, 149, 1, 0, ⟨"PastWebModel", "changedIn", "(I)I"⟩, ""),
  (12, 153, 10, 151, 2, 0, ⟨"PastWebModel", "wentTo", "(II)I"⟩, ""),
  (12, 157, 10, 154, 1, 0, ⟨"PastWebModel", "upTo", "(I)I"⟩, "")]
def vtL_6 : List VE := [
  (12, 161, 10, 159, 1, 0, ⟨"PastWebModel", "isThing", "(I)Z"⟩, ""),
  (12, 164, 10, 160, 1, 0, ⟨"PastWebModel", "freeOf", "(I)I"⟩, ""),
  (12, 167, 10, 161, 7, 0, ⟨"PastWebModel", "comes", "(IIIIIII)I"⟩, ""),
  (12, 171, 10, 158, 1, 0, ⟨"PastWebModel", "isTerm", "(I)Z"⟩, ""),
  (12, 174, 10, 164, 1, 0, ⟨"PastWebModel", "isOfTwo", "(I)Z"⟩, ""),
  (12, 177, 10, 169, 4, 0, ⟨"PastWebModel", "partFor", "(IIII)I"⟩, ""),
  (12, 181, 10, 170, 5, 0, ⟨"PastWebModel", "holdsIn", "(IIIII)Z"⟩, ""),
  (12, 185, 10, 171, 1, 0, ⟨"PastWebModel", "everOf", "(I)I"⟩, ""),
  (12, 188, 10, 172, 1, 0, ⟨"PastWebModel", "alwaysOf", "(I)I"⟩, ""),
  (12, 191, 10, 173, 2, 0, ⟨"PastWebModel", "firstOf", "(II)I"⟩, ""),
  (12, 194, 10, 174, 1, 0, ⟨"PastWebModel", "aheadOf", "(I)I"⟩, ""),
  (12, 197, 10, 175, 2, 0, ⟨"PastWebModel", "sinceOf", "(II)I"⟩, ""),
  (12, 200, 10, 176, 5, 0, ⟨"PastWebModel", "workSmall", "(IIIII)V"⟩, ""),
  (12, 204, 10, 167, 0, 0, ⟨"PastWebModel", "findReaches", "()V"⟩, ""),
  (12, 207, 10, 168, 1, 0, ⟨"PastWebModel", "ask", "(I)V"⟩, ""),
  (12, 211, 10, 177, 4, 0, ⟨"PastWebModel", "workOne", "(IIII)V"⟩, ""),
  (12, 215, 10, 178, 1, 0, ⟨"PastWebModel", "work", "(I)V"⟩, ""),
  (12, 218, 10, 181, 1, 0, ⟨"PastWebModel", "lacksRows", "(I)I"⟩, ""),
  (12, 221, 10, 182, 1, 0, ⟨"PastWebModel", "workRows", "(I)V"⟩, ""),
  (12, 224, 10, 183, 3, 0, ⟨"PastWebModel", "rowSpan", "(IIZ)I"⟩, ""),
  (12, 228, 10, 186, 2, 0, ⟨"PastWebModel", "spanFor", "(II)I"⟩, ""),
  (12, 231, 10, 188, 1, 0, ⟨"PastWebModel", "freshen", "(I)V"⟩, ""),
  (12, 234, 10, 190, 2, 0, ⟨"PastWebModel", "news", "(II)I"⟩, ""),
  (12, 237, 10, 194, 1, 0, ⟨"PastWebModel", "isShelf", "(I)Z"⟩, "")]
def vtL_7 : List VE := [
  (12, 240, 10, 199, 1, 0, ⟨"PastWebModel", "lacksTerm", "(I)I"⟩, ""),
  (16, 20, 9, 84, 0, 5, ⟨"PastWeb", "<init>", "()V"⟩, ""),
  (16, 23, 10, 133, 0, 5, ⟨"PastWebModel", "<init>", "()V"⟩, ""),
  (16, 24, 9, 88, 2, 0, ⟨"PastWeb", "state", "(II)I"⟩, ""),
  (16, 28, 10, 142, 2, 0, ⟨"PastWebModel", "state", "(II)I"⟩, ""),
  (16, 29, 9, 90, 3, 0, ⟨"PastWeb", "put", "(III)I"⟩, ""),
  (16, 33, 10, 143, 3, 0, ⟨"PastWebModel", "put", "(III)I"⟩, ""),
  (16, 34, 9, 91, 1, 0, ⟨"PastWeb", "gone", "(I)I"⟩, ""),
  (16, 38, 10, 144, 1, 0, ⟨"PastWebModel", "gone", "(I)I"⟩, ""),
  (16, 39, 9, 93, 4, 0, ⟨"PastWeb", "link", "(IIIZ)I"⟩, ""),
  (16, 43, 10, 145, 4, 0, ⟨"PastWebModel", "link", "(IIIZ)I"⟩, ""),
  (16, 44, 9, 94, 1, 0, ⟨"PastWeb", "read", "(Z)I"⟩, ""),
  (16, 48, 10, 146, 1, 0, ⟨"PastWebModel", "read", "(Z)I"⟩, ""),
  (16, 49, 9, 95, 0, 0, ⟨"PastWeb", "undo", "()I"⟩, ""),
  (16, 53, 10, 147, 0, 0, ⟨"PastWebModel", "undo", "()I"⟩, ""),
  (16, 54, 9, 96, 2, 0, ⟨"PastWeb", "look", "(II)I"⟩, ""),
  (16, 57, 10, 150, 2, 0, ⟨"PastWebModel", "look", "(II)I"⟩, ""),
  (16, 58, 9, 97, 3, 0, ⟨"PastWeb", "part", "(III)I"⟩, ""),
  (16, 61, 10, 152, 3, 0, ⟨"PastWebModel", "part", "(III)I"⟩, ""),
  (16, 67, 10, 153, 2, 0, ⟨"PastWebModel", "roads", "(II)J"⟩, ""),
  (16, 68, 10, 134, 0, 0, ⟨"PastWebModel", "thrown", "()I"⟩, ""),
  (16, 71, 9, 98, 2, 0, ⟨"PastWeb", "meet", "(II)I"⟩, ""),
  (16, 74, 10, 155, 2, 0, ⟨"PastWebModel", "meet", "(II)I"⟩, ""),
  (16, 75, 9, 99, 2, 0, ⟨"PastWeb", "between", "(II)I"⟩, "")]
def vtL_8 : List VE := [
  (16, 78, 10, 156, 2, 0, ⟨"PastWebModel", "between", "(II)I"⟩, ""),
  (16, 79, 9, 100, 3, 0, ⟨"PastWeb", "together", "(III)I"⟩, ""),
  (16, 82, 10, 157, 3, 0, ⟨"PastWebModel", "together", "(III)I"⟩, ""),
  (16, 83, 9, 103, 3, 0, ⟨"PastWeb", "of", "(III)I"⟩, ""),
  (16, 86, 10, 162, 3, 0, ⟨"PastWebModel", "of", "(III)I"⟩, ""),
  (16, 87, 9, 104, 4, 0, ⟨"PastWeb", "two", "(IIII)I"⟩, ""),
  (16, 91, 10, 163, 4, 0, ⟨"PastWebModel", "two", "(IIII)I"⟩, ""),
  (16, 92, 9, 109, 3, 0, ⟨"PastWeb", "term", "(III)I"⟩, ""),
  (16, 95, 10, 165, 3, 0, ⟨"PastWebModel", "term", "(III)I"⟩, ""),
  (16, 96, 9, 110, 2, 0, ⟨"PastWeb", "told", "(II)I"⟩, ""),
  (16, 99, 10, 166, 2, 0, ⟨"PastWebModel", "told", "(II)I"⟩, ""),
  (16, 100, 9, 111, 5, 0, ⟨"PastWeb", "span", "(IIIIZ)I"⟩, ""),
  (16, 104, 10, 179, 5, 0, ⟨"PastWebModel", "span", "(IIIIZ)I"⟩, ""),
  (16, 105, 9, 112, 1, 0, ⟨"PastWeb", "lines", "(I)I"⟩, ""),
  (16, 108, 10, 180, 1, 0, ⟨"PastWebModel", "lines", "(I)I"⟩, ""),
  (16, 109, 9, 114, 2, 0, ⟨"PastWeb", "rows", "(IZ)I"⟩, ""),
  (16, 113, 10, 184, 2, 0, ⟨"PastWebModel", "rows", "(IZ)I"⟩, ""),
  (16, 114, 9, 115, 3, 0, ⟨"PastWeb", "row", "(IIZ)I"⟩, ""),
  (16, 118, 10, 185, 3, 0, ⟨"PastWebModel", "row", "(IIZ)I"⟩, ""),
  (16, 119, 9, 119, 2, 0, ⟨"PastWeb", "apart", "(II)I"⟩, ""),
  (16, 122, 10, 187, 2, 0, ⟨"PastWebModel", "apart", "(II)I"⟩, ""),
  (16, 123, 9, 120, 1, 0, ⟨"PastWeb", "keepTerm", "(I)I"⟩, ""),
  (16, 126, 10, 189, 1, 0, ⟨"PastWebModel", "keepTerm", "(I)I"⟩, ""),
  (16, 127, 9, 122, 2, 0, ⟨"PastWeb", "fresh", "(II)I"⟩, "")]
def vtL_9 : List VE := [
  (16, 130, 10, 191, 2, 0, ⟨"PastWebModel", "fresh", "(II)I"⟩, ""),
  (16, 131, 9, 121, 2, 0, ⟨"PastWeb", "news", "(II)I"⟩, ""),
  (16, 134, 10, 190, 2, 0, ⟨"PastWebModel", "news", "(II)I"⟩, ""),
  (16, 135, 9, 123, 0, 0, ⟨"PastWeb", "forget", "()I"⟩, ""),
  (16, 138, 10, 192, 0, 0, ⟨"PastWebModel", "forget", "()I"⟩, ""),
  (16, 139, 9, 124, 1, 0, ⟨"PastWeb", "count", "(I)I"⟩, ""),
  (16, 142, 10, 193, 1, 0, ⟨"PastWebModel", "count", "(I)I"⟩, ""),
  (16, 143, 9, 127, 3, 0, ⟨"PastWeb", "keep", "(III)I"⟩, ""),
  (16, 146, 10, 195, 3, 0, ⟨"PastWebModel", "keep", "(III)I"⟩, ""),
  (16, 147, 9, 128, 3, 0, ⟨"PastWeb", "make", "(III)I"⟩, ""),
  (16, 150, 10, 196, 3, 0, ⟨"PastWebModel", "make", "(III)I"⟩, ""),
  (16, 153, 10, 197, 2, 0, ⟨"PastWebModel", "element", "(II)J"⟩, ""),
  (16, 154, 9, 130, 5, 0, ⟨"PastWeb", "copy", "(IIIII)I"⟩, ""),
  (16, 158, 10, 198, 5, 0, ⟨"PastWebModel", "copy", "(IIIII)I"⟩, ""),
  (16, 159, 9, 132, 1, 0, ⟨"PastWeb", "weight", "(I)I"⟩, ""),
  (16, 162, 10, 200, 1, 0, ⟨"PastWebModel", "weight", "(I)I"⟩, ""),
  (16, 166, 10, 201, 1, 0, ⟨"PastWebModel", "toss", "(I)I"⟩, "")]
def vtL : List VE := vtL_0 ++ (vtL_1 ++ (vtL_2 ++ (vtL_3 ++ (vtL_4 ++ (vtL_5 ++ (vtL_6 ++ (vtL_7 ++ (vtL_8 ++ (vtL_9)))))))))
abbrev SE : Type := Nat × Nat × Nat × Nat × String
def stL_0 : List SE := [
  (11, 156, 1, 2, ""),
  (9, 22, 2, 1, "PastWeb"),
  (0, 3, 0, 1, ""),
  (3, 99, 7, 2, "PastWeb"),
  (8, 56, 1, 2, "PastWeb"),
  (0, 25, 5, 2, ""),
  (0, 58, 7, 2, "PastWeb"),
  (1, 35, 15, 1, ""),
  (1, 31, 16, 2, ""),
  (8, 42, 23, 2, ""),
  (3, 76, 31, 3, ""),
  (3, 91, 1, 2, "PastWeb"),
  (10, 29, 52, 2, "PastWeb"),
  (10, 42, 7, 2, "PastWeb"),
  (4, 34, 52, 2, "PastWeb"),
  (4, 38, 7, 2, "PastWeb"),
  (5, 18, 1, 2, "PastWeb"),
  (5, 22, 59, 3, "PastWeb"),
  (5, 47, 58, 2, ""),
  (5, 50, 60, 1, ""),
  (5, 58, 52, 2, "PastWeb"),
  (8, 64, 15, 1, ""),
  (11, 59, 85, 2, ""),
  (11, 55, 89, 1, "")]
def stL_1 : List SE := [
  (11, 82, 92, 1, ""),
  (11, 159, 101, 1, ""),
  (11, 178, 107, 1, ""),
  (11, 200, 59, 3, ""),
  (11, 208, 52, 2, ""),
  (11, 343, 58, 2, "PastWeb"),
  (11, 346, 60, 1, "PastWeb"),
  (11, 349, 117, 1, ""),
  (11, 233, 116, 2, ""),
  (11, 258, 125, 1, ""),
  (11, 304, 129, 3, "")]
def stL : List SE := stL_0 ++ (stL_1)
def ntL_0 : List (Nat × Nat × Nat) := [
  (3, 9, 7),
  (11, 9, 2),
  (11, 22, 1),
  (11, 29, 5),
  (11, 36, 4),
  (11, 162, 0),
  (11, 322, 6),
  (11, 327, 3),
  (11, 332, 8),
  (16, 8, 9),
  (16, 21, 10)]
def ntL : List (Nat × Nat × Nat) := ntL_0
def atL_0 : List (Nat × Nat × Nat) := [
  (3, 9, 4),
  (11, 16, 5),
  (11, 22, 6),
  (11, 29, 7)]
def atL : List (Nat × Nat × Nat) := atL_0
def ldL_0 : List (Nat × Nat × Int32) := [
  (13, 265, 1431655765),
  (13, 266, 858993459),
  (13, 267, 252645135),
  (11, 321, 100000),
  (13, 264, 65536),
  (12, 74, 245760),
  (12, 160, 100000)]
def ldL : List (Nat × Nat × Int32) := ldL_0
def itL_0 : List (Nat × Nat) := [
  (9, 1),
  (1, 3),
  (8, 3),
  (3, 3),
  (5, 3),
  (6, 1),
  (11, 3),
  (12, 1)]
def itL : List (Nat × Nat) := itL_0
def ctL_0 : List (Nat × Nat) := [
  (1, 25),
  (8, 78),
  (6, 24)]
def ctL : List (Nat × Nat) := ctL_0
def mxL_0 : List (Nat × Nat × Nat) := [
  (2, 7, 0),
  (3, 53, 1),
  (11, 335, 1),
  (11, 340, 0)]
def mxL : List (Nat × Nat × Nat) := mxL_0
