theorem kb_10 : (Int8.ofInt 10).toInt32 = 10 := by decide
theorem kb_100 : (Int8.ofInt 100).toInt32 = 100 := by decide
theorem kb_11 : (Int8.ofInt 11).toInt32 = 11 := by decide
theorem kb_12 : (Int8.ofInt 12).toInt32 = 12 := by decide
theorem kb_13 : (Int8.ofInt 13).toInt32 = 13 := by decide
theorem kb_14 : (Int8.ofInt 14).toInt32 = 14 := by decide
theorem kb_15 : (Int8.ofInt 15).toInt32 = 15 := by decide
theorem kb_16 : (Int8.ofInt 16).toInt32 = 16 := by decide
theorem kb_17 : (Int8.ofInt 17).toInt32 = 17 := by decide
theorem kb_18 : (Int8.ofInt 18).toInt32 = 18 := by decide
theorem kb_19 : (Int8.ofInt 19).toInt32 = 19 := by decide
theorem kb_21 : (Int8.ofInt 21).toInt32 = 21 := by decide
theorem kb_30 : (Int8.ofInt 30).toInt32 = 30 := by decide
theorem kb_39 : (Int8.ofInt 39).toInt32 = 39 := by decide
theorem kb_40 : (Int8.ofInt 40).toInt32 = 40 := by decide
theorem kb_59 : (Int8.ofInt 59).toInt32 = 59 := by decide
theorem kb_6 : (Int8.ofInt 6).toInt32 = 6 := by decide
theorem kb_60 : (Int8.ofInt 60).toInt32 = 60 := by decide
theorem kb_7 : (Int8.ofInt 7).toInt32 = 7 := by decide
theorem kb_8 : (Int8.ofInt 8).toInt32 = 8 := by decide
theorem kb_80 : (Int8.ofInt 80).toInt32 = 80 := by decide
theorem kb_9 : (Int8.ofInt 9).toInt32 = 9 := by decide
theorem kb_99 : (Int8.ofInt 99).toInt32 = 99 := by decide
theorem kb_m5 : (Int8.ofInt (-5)).toInt32 = (-5) := by decide
theorem ki_0 : Int32.ofInt 0 = 0 := by decide
theorem ki_1 : Int32.ofInt 1 = 1 := by decide
theorem ki_2 : Int32.ofInt 2 = 2 := by decide
theorem ki_3 : Int32.ofInt 3 = 3 := by decide
theorem ki_4 : Int32.ofInt 4 = 4 := by decide
theorem ki_5 : Int32.ofInt 5 = 5 := by decide
theorem ki_m1 : Int32.ofInt (-1) = (-1) := by decide
theorem ks_1000 : (Int16.ofInt 1000).toInt32 = 1000 := by decide
theorem ks_1132 : (Int16.ofInt 1132).toInt32 = 1132 := by decide
theorem ks_1432 : (Int16.ofInt 1432).toInt32 = 1432 := by decide
theorem ks_1440 : (Int16.ofInt 1440).toInt32 = 1440 := by decide
theorem ks_1640 : (Int16.ofInt 1640).toInt32 = 1640 := by decide
theorem ks_1641 : (Int16.ofInt 1641).toInt32 = 1641 := by decide
theorem ks_1642 : (Int16.ofInt 1642).toInt32 = 1642 := by decide
theorem ks_1643 : (Int16.ofInt 1643).toInt32 = 1643 := by decide
theorem ks_1644 : (Int16.ofInt 1644).toInt32 = 1644 := by decide
theorem ks_1645 : (Int16.ofInt 1645).toInt32 = 1645 := by decide
theorem ks_1646 : (Int16.ofInt 1646).toInt32 = 1646 := by decide
theorem ks_195 : (Int16.ofInt 195).toInt32 = 195 := by decide
theorem ks_200 : (Int16.ofInt 200).toInt32 = 200 := by decide
theorem ks_2000 : (Int16.ofInt 2000).toInt32 = 2000 := by decide
theorem ks_252 : (Int16.ofInt 252).toInt32 = 252 := by decide
theorem ks_30000 : (Int16.ofInt 30000).toInt32 = 30000 := by decide
theorem ks_732 : (Int16.ofInt 732).toInt32 = 732 := by decide
theorem mw_X7_get : MW yX7_get cX7_get 4 (some .int) RX7 2 := ⟨tcode_X7_get, tim_X7_get, tsel_X7_get, tin_X7, rfl, by decide +kernel, by decide⟩
theorem mw_X4_write : MW yX4_write cX4_write 3 none RX4 2 := ⟨tcode_X4_write, tim_X4_write, tsel_X4_write, tin_X4, rfl, by decide +kernel, by decide⟩
theorem mw_X7_set : MW yX7_set cX7_set 4 none RX7 3 := ⟨tcode_X7_set, tim_X7_set, tsel_X7_set, tin_X7, rfl, by decide +kernel, by decide⟩
theorem mw_X9_refuseOver : MW yX9_refuseOver cX9_refuseOver 3 (some .int) RX9 2 := ⟨tcode_X9_refuseOver, tim_X9_refuseOver, tsel_X9_refuseOver, tin_X9, rfl, by decide +kernel, by decide⟩
theorem mw_X9_refuse : MW yX9_refuse cX9_refuse 2 (some .int) RX9 1 := ⟨tcode_X9_refuse, tim_X9_refuse, tsel_X9_refuse, tin_X9, rfl, by decide +kernel, by decide⟩
theorem mw_X3_isBar : MW yX3_isBar cX3_isBar 2 (some .boolean) RX3 1 := ⟨tcode_X3_isBar, tim_X3_isBar, tsel_X3_isBar, tin_X3, rfl, by decide +kernel, by decide⟩
theorem mw_X3_isRigged : MW yX3_isRigged cX3_isRigged 2 (some .boolean) RX3 1 := ⟨tcode_X3_isRigged, tim_X3_isRigged, tsel_X3_isRigged, tin_X3, rfl, by decide +kernel, by decide⟩
theorem mw_X9_isRefusal : MW yX9_isRefusal cX9_isRefusal 1 (some .boolean) RX9 0 := ⟨tcode_X9_isRefusal, tim_X9_isRefusal, tsel_X9_isRefusal, tin_X9, rfl, by decide +kernel, by decide⟩
theorem mw_X9_refusesBar : MW yX9_refusesBar cX9_refusesBar 3 (some .boolean) RX9 2 := ⟨tcode_X9_refusesBar, tim_X9_refusesBar, tsel_X9_refusesBar, tin_X9, rfl, by decide +kernel, by decide⟩
theorem mw_X0_addCue : MW yX0_addCue cX0_addCue 6 (some .int) RX0 4 := ⟨tcode_X0_addCue, tim_X0_addCue, tsel_X0_addCue, tin_X0, rfl, by decide +kernel, by decide⟩
theorem mw_X3_cueState : MW yX3_cueState cX3_cueState 3 (some .int) RX3 1 := ⟨tcode_X3_cueState, tim_X3_cueState, tsel_X3_cueState, tin_X3, rfl, by decide +kernel, by decide⟩
theorem mw_X3_isPendingCue : MW yX3_isPendingCue cX3_isPendingCue 4 (some .boolean) RX3 2 := ⟨tcode_X3_isPendingCue, tim_X3_isPendingCue, tsel_X3_isPendingCue, tin_X3, rfl, by decide +kernel, by decide⟩
theorem mw_X0_hushBar : MW yX0_hushBar cX0_hushBar 5 (some .int) RX0 1 := ⟨tcode_X0_hushBar, tim_X0_hushBar, tsel_X0_hushBar, tin_X0, rfl, by decide +kernel, by decide⟩
theorem mw_X10_burden : MW yX10_burden cX10_burden 3 (some .float) RX10 1 := ⟨tcode_X10_burden, tim_X10_burden, tsel_X10_burden, tin_X10, rfl, by decide +kernel, by decide⟩
theorem mw_X3_thingIn : MW yX3_thingIn cX3_thingIn 3 (some .int) RX3 2 := ⟨tcode_X3_thingIn, tim_X3_thingIn, tsel_X3_thingIn, tin_X3, rfl, by decide +kernel, by decide⟩
theorem mw_X10_burdens : MW yX10_burdens cX10_burdens 5 (some .float) RX10 1 := ⟨tcode_X10_burdens, tim_X10_burdens, tsel_X10_burdens, tin_X10, rfl, by decide +kernel, by decide⟩
theorem mw_X10_isBalanced : MW yX10_isBalanced cX10_isBalanced 3 (some .boolean) RX10 1 := ⟨tcode_X10_isBalanced, tim_X10_isBalanced, tsel_X10_isBalanced, tin_X10, rfl, by decide +kernel, by decide⟩
theorem mw_X3_holdsBar : MW yX3_holdsBar cX3_holdsBar 3 (some .boolean) RX3 2 := ⟨tcode_X3_holdsBar, tim_X3_holdsBar, tsel_X3_holdsBar, tin_X3, rfl, by decide +kernel, by decide⟩
theorem ms_J7_fill_53178 : MS yJ7_fill_53178 cJ7_fill_53178 4 none 2 := ⟨tcode_J7_fill_53178, tst_J7_fill_53178, tin_J7, by decide +kernel, by decide⟩
theorem mw_X10_findLines : MW yX10_findLines cX10_findLines 5 (some .int) RX10 1 := ⟨tcode_X10_findLines, tim_X10_findLines, tsel_X10_findLines, tin_X10, rfl, by decide +kernel, by decide⟩
theorem mw_X3_weakestPart : MW yX3_weakestPart cX3_weakestPart 5 (some .int) RX3 1 := ⟨tcode_X3_weakestPart, tim_X3_weakestPart, tsel_X3_weakestPart, tin_X3, rfl, by decide +kernel, by decide⟩
theorem mw_X10_isOneTooWeak : MW yX10_isOneTooWeak cX10_isOneTooWeak 3 (some .boolean) RX10 0 := ⟨tcode_X10_isOneTooWeak, tim_X10_isOneTooWeak, tsel_X10_isOneTooWeak, tin_X10, rfl, by decide +kernel, by decide⟩
theorem mw_X10_lineAtOrBehind : MW yX10_lineAtOrBehind cX10_lineAtOrBehind 3 (some .int) RX10 1 := ⟨tcode_X10_lineAtOrBehind, tim_X10_lineAtOrBehind, tsel_X10_lineAtOrBehind, tin_X10, rfl, by decide +kernel, by decide⟩
theorem mw_X10_isUpright : MW yX10_isUpright cX10_isUpright 6 (some .boolean) RX10 1 := ⟨tcode_X10_isUpright, tim_X10_isUpright, tsel_X10_isUpright, tin_X10, rfl, by decide +kernel, by decide⟩
theorem mw_X10_addShare : MW yX10_addShare cX10_addShare 4 none RX10 2 := ⟨tcode_X10_addShare, tim_X10_addShare, tsel_X10_addShare, tin_X10, rfl, by decide +kernel, by decide⟩
theorem mw_X10_lineAtOrBefore : MW yX10_lineAtOrBefore cX10_lineAtOrBefore 3 (some .int) RX10 1 := ⟨tcode_X10_lineAtOrBefore, tim_X10_lineAtOrBefore, tsel_X10_lineAtOrBefore, tin_X10, rfl, by decide +kernel, by decide⟩
theorem mw_X10_bear : MW yX10_bear cX10_bear 8 none RX10 2 := ⟨tcode_X10_bear, tim_X10_bear, tsel_X10_bear, tin_X10, rfl, by decide +kernel, by decide⟩
theorem ms_J7_fill_d0a16 : MS yJ7_fill_d0a16 cJ7_fill_d0a16 5 none 2 := ⟨tcode_J7_fill_d0a16, tst_J7_fill_d0a16, tin_J7, by decide +kernel, by decide⟩
theorem mw_X10_spread : MW yX10_spread cX10_spread 4 none RX10 1 := ⟨tcode_X10_spread, tim_X10_spread, tsel_X10_spread, tin_X10, rfl, by decide +kernel, by decide⟩
theorem mw_X3_thingsOn : MW yX3_thingsOn cX3_thingsOn 4 (some .int) RX3 1 := ⟨tcode_X3_thingsOn, tim_X3_thingsOn, tsel_X3_thingsOn, tin_X3, rfl, by decide +kernel, by decide⟩
theorem mw_X10_isHeld : MW yX10_isHeld cX10_isHeld 3 (some .boolean) RX10 1 := ⟨tcode_X10_isHeld, tim_X10_isHeld, tsel_X10_isHeld, tin_X10, rfl, by decide +kernel, by decide⟩
theorem mw_X5_isTiedDown : MW yX5_isTiedDown cX5_isTiedDown 4 (some .boolean) RX5 1 := ⟨tcode_X5_isTiedDown, tim_X5_isTiedDown, tsel_X5_isTiedDown, tin_X5, rfl, by decide +kernel, by decide⟩
theorem mw_X0_lookAtBars : MW yX0_lookAtBars cX0_lookAtBars 2 none RX0 0 := ⟨tcode_X0_lookAtBars, tim_X0_lookAtBars, tsel_X0_lookAtBars, tin_X0, rfl, by decide +kernel, by decide⟩
theorem mw_X0_findDeciding : MW yX0_findDeciding cX0_findDeciding 4 none RX0 0 := ⟨tcode_X0_findDeciding, tim_X0_findDeciding, tsel_X0_findDeciding, tin_X0, rfl, by decide +kernel, by decide⟩
theorem mw_X0_endRunning : MW yX0_endRunning cX0_endRunning 6 none RX0 2 := ⟨tcode_X0_endRunning, tim_X0_endRunning, tsel_X0_endRunning, tin_X0, rfl, by decide +kernel, by decide⟩
theorem mw_X3_time : MW yX3_time cX3_time 1 (some .int) RX3 0 := ⟨tcode_X3_time, tim_X3_time, tsel_X3_time, tin_X3, rfl, by decide +kernel, by decide⟩
theorem mw_X0_noteStop : MW yX0_noteStop cX0_noteStop 4 none RX0 1 := ⟨tcode_X0_noteStop, tim_X0_noteStop, tsel_X0_noteStop, tin_X0, rfl, by decide +kernel, by decide⟩
theorem mw_X0_whyStop : MW yX0_whyStop cX0_whyStop 6 (some .int) RX0 3 := ⟨tcode_X0_whyStop, tim_X0_whyStop, tsel_X0_whyStop, tin_X0, rfl, by decide +kernel, by decide⟩
theorem mw_X5_wouldClash : MW yX5_wouldClash cX5_wouldClash 11 (some .boolean) RX5 4 := ⟨tcode_X5_wouldClash, tim_X5_wouldClash, tsel_X5_wouldClash, tin_X5, rfl, by decide +kernel, by decide⟩
theorem mw_X0_willClash : MW yX0_willClash cX0_willClash 8 (some .boolean) RX0 3 := ⟨tcode_X0_willClash, tim_X0_willClash, tsel_X0_willClash, tin_X0, rfl, by decide +kernel, by decide⟩
theorem mw_X0_moveGroup : MW yX0_moveGroup cX0_moveGroup 9 (some .int) RX0 2 := ⟨tcode_X0_moveGroup, tim_X0_moveGroup, tsel_X0_moveGroup, tin_X0, rfl, by decide +kernel, by decide⟩
theorem mw_X0_runTick : MW yX0_runTick cX0_runTick 4 (some .int) RX0 0 := ⟨tcode_X0_runTick, tim_X0_runTick, tsel_X0_runTick, tin_X0, rfl, by decide +kernel, by decide⟩
theorem mw_X0_runTicks : MW yX0_runTicks cX0_runTicks 4 (some .int) RX0 1 := ⟨tcode_X0_runTicks, tim_X0_runTicks, tsel_X0_runTicks, tin_X0, rfl, by decide +kernel, by decide⟩
theorem mw_X3_isBarCued : MW yX3_isBarCued cX3_isBarCued 4 (some .boolean) RX3 1 := ⟨tcode_X3_isBarCued, tim_X3_isBarCued, tsel_X3_isBarCued, tin_X3, rfl, by decide +kernel, by decide⟩
theorem mw_X5_lastOfGroup : MW yX5_lastOfGroup cX5_lastOfGroup 3 (some .int) RX5 1 := ⟨tcode_X5_lastOfGroup, tim_X5_lastOfGroup, tsel_X5_lastOfGroup, tin_X5, rfl, by decide +kernel, by decide⟩
theorem mw_X5_leastOfGroup : MW yX5_leastOfGroup cX5_leastOfGroup 3 (some .int) RX5 1 := ⟨tcode_X5_leastOfGroup, tim_X5_leastOfGroup, tsel_X5_leastOfGroup, tin_X5, rfl, by decide +kernel, by decide⟩
theorem mw_X0_isGroupCued : MW yX0_isGroupCued cX0_isGroupCued 4 (some .boolean) RX0 1 := ⟨tcode_X0_isGroupCued, tim_X0_isGroupCued, tsel_X0_isGroupCued, tin_X0, rfl, by decide +kernel, by decide⟩
theorem mw_X2_addThing : MW yX2_addThing cX2_addThing 7 (some .int) RX2 4 := ⟨tcode_X2_addThing, tim_X2_addThing, tsel_X2_addThing, tin_X2, rfl, by decide +kernel, by decide⟩
theorem mw_X3_isKind : MW yX3_isKind cX3_isKind 3 (some .boolean) RX3 2 := ⟨tcode_X3_isKind, tim_X3_isKind, tsel_X3_isKind, tin_X3, rfl, by decide +kernel, by decide⟩
theorem mw_X3_isThing : MW yX3_isThing cX3_isThing 2 (some .boolean) RX3 1 := ⟨tcode_X3_isThing, tim_X3_isThing, tsel_X3_isThing, tin_X3, rfl, by decide +kernel, by decide⟩
theorem mw_X5_isHotAt : MW yX5_isHotAt cX5_isHotAt 5 (some .boolean) RX5 2 := ⟨tcode_X5_isHotAt, tim_X5_isHotAt, tsel_X5_isHotAt, tin_X5, rfl, by decide +kernel, by decide⟩
theorem ms_X5_lesser : MS yX5_lesser cX5_lesser 2 (some .int) 2 := ⟨tcode_X5_lesser, tst_X5_lesser, tin_X5, by decide +kernel, by decide⟩
theorem mw_X5_leastTooHot : MW yX5_leastTooHot cX5_leastTooHot 5 (some .int) RX5 1 := ⟨tcode_X5_leastTooHot, tim_X5_leastTooHot, tsel_X5_leastTooHot, tin_X5, rfl, by decide +kernel, by decide⟩
theorem mw_X2_heatLamp : MW yX2_heatLamp cX2_heatLamp 5 (some .int) RX2 2 := ⟨tcode_X2_heatLamp, tim_X2_heatLamp, tsel_X2_heatLamp, tin_X2, rfl, by decide +kernel, by decide⟩
theorem mw_X5_leastClash : MW yX5_leastClash cX5_leastClash 9 (some .int) RX5 4 := ⟨tcode_X5_leastClash, tim_X5_leastClash, tsel_X5_leastClash, tin_X5, rfl, by decide +kernel, by decide⟩
theorem mw_X2_judge : MW yX2_judge cX2_judge 8 none RX2 4 := ⟨tcode_X2_judge, tim_X2_judge, tsel_X2_judge, tin_X2, rfl, by decide +kernel, by decide⟩
theorem mw_X3_hasPlace : MW yX3_hasPlace cX3_hasPlace 3 (some .boolean) RX3 2 := ⟨tcode_X3_hasPlace, tim_X3_hasPlace, tsel_X3_hasPlace, tin_X3, rfl, by decide +kernel, by decide⟩
theorem mw_X3_isFree : MW yX3_isFree cX3_isFree 3 (some .boolean) RX3 2 := ⟨tcode_X3_isFree, tim_X3_isFree, tsel_X3_isFree, tin_X3, rfl, by decide +kernel, by decide⟩
theorem mw_X3_isHigh : MW yX3_isHigh cX3_isHigh 2 (some .boolean) RX3 1 := ⟨tcode_X3_isHigh, tim_X3_isHigh, tsel_X3_isHigh, tin_X3, rfl, by decide +kernel, by decide⟩
theorem mw_X2_whyNoRoom : MW yX2_whyNoRoom cX2_whyNoRoom 4 (some .int) RX2 3 := ⟨tcode_X2_whyNoRoom, tim_X2_whyNoRoom, tsel_X2_whyNoRoom, tin_X2, rfl, by decide +kernel, by decide⟩
theorem mw_X3_hangs : MW yX3_hangs cX3_hangs 2 (some .boolean) RX3 1 := ⟨tcode_X3_hangs, tim_X3_hangs, tsel_X3_hangs, tin_X3, rfl, by decide +kernel, by decide⟩
theorem mw_X2_hangThing : MW yX2_hangThing cX2_hangThing 7 (some .int) RX2 3 := ⟨tcode_X2_hangThing, tim_X2_hangThing, tsel_X2_hangThing, tin_X2, rfl, by decide +kernel, by decide⟩
theorem mw_X2_takeDown : MW yX2_takeDown cX2_takeDown 5 (some .int) RX2 1 := ⟨tcode_X2_takeDown, tim_X2_takeDown, tsel_X2_takeDown, tin_X2, rfl, by decide +kernel, by decide⟩
theorem mw_X2_isInTheWay : MW yX2_isInTheWay cX2_isInTheWay 8 (some .boolean) RX2 4 := ⟨tcode_X2_isInTheWay, tim_X2_isInTheWay, tsel_X2_isInTheWay, tin_X2, rfl, by decide +kernel, by decide⟩
theorem ms_X2_isRange : MS yX2_isRange cX2_isRange 3 (some .boolean) 3 := ⟨tcode_X2_isRange, tst_X2_isRange, tin_X2, by decide +kernel, by decide⟩
theorem mw_X2_isStuck : MW yX2_isStuck cX2_isStuck 6 (some .boolean) RX2 3 := ⟨tcode_X2_isStuck, tim_X2_isStuck, tsel_X2_isStuck, tin_X2, rfl, by decide +kernel, by decide⟩
theorem mw_X2_moveAll : MW yX2_moveAll cX2_moveAll 7 (some .int) RX2 4 := ⟨tcode_X2_moveAll, tim_X2_moveAll, tsel_X2_moveAll, tin_X2, rfl, by decide +kernel, by decide⟩
theorem mw_X2_carry : MW yX2_carry cX2_carry 7 (some .int) RX2 4 := ⟨tcode_X2_carry, tim_X2_carry, tsel_X2_carry, tin_X2, rfl, by decide +kernel, by decide⟩
theorem mw_X3_isLine : MW yX3_isLine cX3_isLine 2 (some .boolean) RX3 1 := ⟨tcode_X3_isLine, tim_X3_isLine, tsel_X3_isLine, tin_X3, rfl, by decide +kernel, by decide⟩
theorem mw_X3_isLineThere : MW yX3_isLineThere cX3_isLineThere 2 (some .boolean) RX3 1 := ⟨tcode_X3_isLineThere, tim_X3_isLineThere, tsel_X3_isLineThere, tin_X3, rfl, by decide +kernel, by decide⟩
theorem mw_X3_linesOf : MW yX3_linesOf cX3_linesOf 4 (some .int) RX3 1 := ⟨tcode_X3_linesOf, tim_X3_linesOf, tsel_X3_linesOf, tin_X3, rfl, by decide +kernel, by decide⟩
theorem mw_X3_isCue : MW yX3_isCue cX3_isCue 2 (some .boolean) RX3 1 := ⟨tcode_X3_isCue, tim_X3_isCue, tsel_X3_isCue, tin_X3, rfl, by decide +kernel, by decide⟩
theorem mw_X3_riggedBars : MW yX3_riggedBars cX3_riggedBars 3 (some .int) RX3 0 := ⟨tcode_X3_riggedBars, tim_X3_riggedBars, tsel_X3_riggedBars, tin_X3, rfl, by decide +kernel, by decide⟩
theorem mw_X3_linesThere : MW yX3_linesThere cX3_linesThere 3 (some .int) RX3 0 := ⟨tcode_X3_linesThere, tim_X3_linesThere, tsel_X3_linesThere, tin_X3, rfl, by decide +kernel, by decide⟩
theorem mw_X3_hangingThings : MW yX3_hangingThings cX3_hangingThings 3 (some .int) RX3 0 := ⟨tcode_X3_hangingThings, tim_X3_hangingThings, tsel_X3_hangingThings, tin_X3, rfl, by decide +kernel, by decide⟩
theorem mw_X4_open : MW yX4_open cX4_open 1 none RX4 0 := ⟨tcode_X4_open, tim_X4_open, tsel_X4_open, tin_X4, rfl, by decide +kernel, by decide⟩
theorem mw_X4_restore : MW yX4_restore cX4_restore 6 none RX4 3 := ⟨tcode_X4_restore, tim_X4_restore, tsel_X4_restore, tin_X4, rfl, by decide +kernel, by decide⟩
theorem mw_X4_rollBack : MW yX4_rollBack cX4_rollBack 1 none RX4 0 := ⟨tcode_X4_rollBack, tim_X4_rollBack, tsel_X4_rollBack, tin_X4, rfl, by decide +kernel, by decide⟩
theorem mw_X4_keptActs : MW yX4_keptActs cX4_keptActs 1 (some .int) RX4 0 := ⟨tcode_X4_keptActs, tim_X4_keptActs, tsel_X4_keptActs, tin_X4, rfl, by decide +kernel, by decide⟩
theorem mw_X6_rigBar : MW yX6_rigBar cX6_rigBar 4 (some .int) RX6 3 := ⟨tcode_X6_rigBar, tim_X6_rigBar, tsel_X6_rigBar, tin_X6, rfl, by decide +kernel, by decide⟩
theorem mw_X6_stripBar : MW yX6_stripBar cX6_stripBar 4 (some .int) RX6 1 := ⟨tcode_X6_stripBar, tim_X6_stripBar, tsel_X6_stripBar, tin_X6, rfl, by decide +kernel, by decide⟩
theorem mw_X6_isPlaceHeld : MW yX6_isPlaceHeld cX6_isPlaceHeld 4 (some .boolean) RX6 2 := ⟨tcode_X6_isPlaceHeld, tim_X6_isPlaceHeld, tsel_X6_isPlaceHeld, tin_X6, rfl, by decide +kernel, by decide⟩
theorem mw_X6_addLine : MW yX6_addLine cX6_addLine 7 (some .int) RX6 4 := ⟨tcode_X6_addLine, tim_X6_addLine, tsel_X6_addLine, tin_X6, rfl, by decide +kernel, by decide⟩
theorem mw_X9_refusesLine : MW yX9_refusesLine cX9_refusesLine 3 (some .boolean) RX9 2 := ⟨tcode_X9_refusesLine, tim_X9_refusesLine, tsel_X9_refusesLine, tin_X9, rfl, by decide +kernel, by decide⟩
theorem mw_X6_wearPart : MW yX6_wearPart cX6_wearPart 5 (some .int) RX6 3 := ⟨tcode_X6_wearPart, tim_X6_wearPart, tsel_X6_wearPart, tin_X6, rfl, by decide +kernel, by decide⟩
theorem mw_X6_cutLine : MW yX6_cutLine cX6_cutLine 2 (some .int) RX6 1 := ⟨tcode_X6_cutLine, tim_X6_cutLine, tsel_X6_cutLine, tin_X6, rfl, by decide +kernel, by decide⟩
theorem mw_X6_setHook : MW yX6_setHook cX6_setHook 5 (some .int) RX6 3 := ⟨tcode_X6_setHook, tim_X6_setHook, tsel_X6_setHook, tin_X6, rfl, by decide +kernel, by decide⟩
theorem mw_X6_putBricks : MW yX6_putBricks cX6_putBricks 5 (some .int) RX6 2 := ⟨tcode_X6_putBricks, tim_X6_putBricks, tsel_X6_putBricks, tin_X6, rfl, by decide +kernel, by decide⟩
theorem mw_X6_setFlag : MW yX6_setFlag cX6_setFlag 4 (some .int) RX6 2 := ⟨tcode_X6_setFlag, tim_X6_setFlag, tsel_X6_setFlag, tin_X6, rfl, by decide +kernel, by decide⟩
theorem mw_X6_waveFlag : MW yX6_waveFlag cX6_waveFlag 3 (some .int) RX6 1 := ⟨tcode_X6_waveFlag, tim_X6_waveFlag, tsel_X6_waveFlag, tin_X6, rfl, by decide +kernel, by decide⟩
theorem mw_X8_size : MW yX8_size cX8_size 1 (some .int) RX8 0 := ⟨tcode_X8_size, tim_X8_size, tsel_X8_size, tin_X8, rfl, by decide +kernel, by decide⟩
theorem mw_X8_cellOf : MW yX8_cellOf cX8_cellOf 4 (some .int) RX8 2 := ⟨tcode_X8_cellOf, tim_X8_cellOf, tsel_X8_cellOf, tin_X8, rfl, by decide +kernel, by decide⟩
theorem mw_X8_number : MW yX8_number cX8_number 4 (some .int) RX8 2 := ⟨tcode_X8_number, tim_X8_number, tsel_X8_number, tin_X8, rfl, by decide +kernel, by decide⟩
theorem ms_X8_isAct : MS yX8_isAct cX8_isAct 1 (some .boolean) 1 := ⟨tcode_X8_isAct, tst_X8_isAct, tin_X8, by decide +kernel, by decide⟩
theorem mw_X8_put : MW yX8_put cX8_put 4 none RX8 2 := ⟨tcode_X8_put, tim_X8_put, tsel_X8_put, tin_X8, rfl, by decide +kernel, by decide⟩
theorem mw_X8_addStep : MW yX8_addStep cX8_addStep 6 (some .int) RX8 5 := ⟨tcode_X8_addStep, tim_X8_addStep, tsel_X8_addStep, tin_X8, rfl, by decide +kernel, by decide⟩
theorem mw_X8_change : MW yX8_change cX8_change 6 (some .int) RX8 3 := ⟨tcode_X8_change, tim_X8_change, tsel_X8_change, tin_X8, rfl, by decide +kernel, by decide⟩
theorem mw_X8_empty : MW yX8_empty cX8_empty 2 (some .int) RX8 0 := ⟨tcode_X8_empty, tim_X8_empty, tsel_X8_empty, tin_X8, rfl, by decide +kernel, by decide⟩
theorem mw_X9_forget : MW yX9_forget cX9_forget 1 none RX9 0 := ⟨tcode_X9_forget, tim_X9_forget, tsel_X9_forget, tin_X9, rfl, by decide +kernel, by decide⟩
theorem mw_X9_countRefusal : MW yX9_countRefusal cX9_countRefusal 1 none RX9 0 := ⟨tcode_X9_countRefusal, tim_X9_countRefusal, tsel_X9_countRefusal, tin_X9, rfl, by decide +kernel, by decide⟩
theorem mw_X9_finding : MW yX9_finding cX9_finding 1 (some .int) RX9 0 := ⟨tcode_X9_finding, tim_X9_finding, tsel_X9_finding, tin_X9, rfl, by decide +kernel, by decide⟩
theorem mw_X9_subject : MW yX9_subject cX9_subject 1 (some .int) RX9 0 := ⟨tcode_X9_subject, tim_X9_subject, tsel_X9_subject, tin_X9, rfl, by decide +kernel, by decide⟩
theorem mw_X9_refusals : MW yX9_refusals cX9_refusals 1 (some .int) RX9 0 := ⟨tcode_X9_refusals, tim_X9_refusals, tsel_X9_refusals, tin_X9, rfl, by decide +kernel, by decide⟩
theorem mw_X10_bricksWanted : MW yX10_bricksWanted cX10_bricksWanted 5 (some .int) RX10 1 := ⟨tcode_X10_bricksWanted, tim_X10_bricksWanted, tsel_X10_bricksWanted, tin_X10, rfl, by decide +kernel, by decide⟩
theorem mw_X10_shareOf : MW yX10_shareOf cX10_shareOf 4 (some .long) RX10 1 := ⟨tcode_X10_shareOf, tim_X10_shareOf, tsel_X10_shareOf, tin_X10, rfl, by decide +kernel, by decide⟩
theorem mw_X11_begin : MW yX11_begin cX11_begin 1 none RX11 0 := ⟨tcode_X11_begin, tim_X11_begin, tsel_X11_begin, tin_X11, rfl, by decide +kernel, by decide⟩
theorem mw_X11_settle : MW yX11_settle cX11_settle 2 (some .int) RX11 1 := ⟨tcode_X11_settle, tim_X11_settle, tsel_X11_settle, tin_X11, rfl, by decide +kernel, by decide⟩
theorem mw_X11_wave : MW yX11_wave cX11_wave 2 (some .int) RX11 1 := ⟨tcode_X11_wave, tim_X11_wave, tsel_X11_wave, tin_X11, rfl, by decide +kernel, by decide⟩
theorem mw_X11_tell : MW yX11_tell cX11_tell 6 (some .int) RX11 5 := ⟨tcode_X11_tell, tim_X11_tell, tsel_X11_tell, tin_X11, rfl, by decide +kernel, by decide⟩
theorem mw_X11_forge : MW yX11_forge cX11_forge 4 (some .int) RX11 3 := ⟨tcode_X11_forge, tim_X11_forge, tsel_X11_forge, tin_X11, rfl, by decide +kernel, by decide⟩
theorem mw_X11_clear : MW yX11_clear cX11_clear 1 (some .int) RX11 0 := ⟨tcode_X11_clear, tim_X11_clear, tsel_X11_clear, tin_X11, rfl, by decide +kernel, by decide⟩
theorem mw_X11_play : MW yX11_play cX11_play 5 (some .int) RX11 1 := ⟨tcode_X11_play, tim_X11_play, tsel_X11_play, tin_X11, rfl, by decide +kernel, by decide⟩
theorem mw_X11_check : MW yX11_check cX11_check 4 (some .int) RX11 0 := ⟨tcode_X11_check, tim_X11_check, tsel_X11_check, tin_X11, rfl, by decide +kernel, by decide⟩
theorem mw_X11_at : MW yX11_at cX11_at 3 (some .int) RX11 2 := ⟨tcode_X11_at, tim_X11_at, tsel_X11_at, tin_X11, rfl, by decide +kernel, by decide⟩
theorem mw_X11_of : MW yX11_of cX11_of 3 (some .int) RX11 2 := ⟨tcode_X11_of, tim_X11_of, tsel_X11_of, tin_X11, rfl, by decide +kernel, by decide⟩
theorem mw_X11_barOf : MW yX11_barOf cX11_barOf 3 (some .int) RX11 2 := ⟨tcode_X11_barOf, tim_X11_barOf, tsel_X11_barOf, tin_X11, rfl, by decide +kernel, by decide⟩
theorem mw_X11_load : MW yX11_load cX11_load 2 (some .double) RX11 1 := ⟨tcode_X11_load, tim_X11_load, tsel_X11_load, tin_X11, rfl, by decide +kernel, by decide⟩
theorem mw_X11_share : MW yX11_share cX11_share 2 (some .long) RX11 1 := ⟨tcode_X11_share, tim_X11_share, tsel_X11_share, tin_X11, rfl, by decide +kernel, by decide⟩
theorem mw_X11_strength : MW yX11_strength cX11_strength 2 (some .int) RX11 1 := ⟨tcode_X11_strength, tim_X11_strength, tsel_X11_strength, tin_X11, rfl, by decide +kernel, by decide⟩
theorem mw_X11_even : MW yX11_even cX11_even 2 (some .int) RX11 1 := ⟨tcode_X11_even, tim_X11_even, tsel_X11_even, tin_X11, rfl, by decide +kernel, by decide⟩
theorem mw_X11_least : MW yX11_least cX11_least 3 (some .int) RX11 0 := ⟨tcode_X11_least, tim_X11_least, tsel_X11_least, tin_X11, rfl, by decide +kernel, by decide⟩
theorem mw_X11_stop : MW yX11_stop cX11_stop 4 (some .int) RX11 2 := ⟨tcode_X11_stop, tim_X11_stop, tsel_X11_stop, tin_X11, rfl, by decide +kernel, by decide⟩
theorem mw_X11_cueOf : MW yX11_cueOf cX11_cueOf 3 (some .int) RX11 2 := ⟨tcode_X11_cueOf, tim_X11_cueOf, tsel_X11_cueOf, tin_X11, rfl, by decide +kernel, by decide⟩
theorem mw_X11_told : MW yX11_told cX11_told 2 (some .int) RX11 1 := ⟨tcode_X11_told, tim_X11_told, tsel_X11_told, tin_X11, rfl, by decide +kernel, by decide⟩
theorem mw_X11_status : MW yX11_status cX11_status 2 (some .int) RX11 1 := ⟨tcode_X11_status, tim_X11_status, tsel_X11_status, tin_X11, rfl, by decide +kernel, by decide⟩
theorem mw_X12_begin : MW yX12_begin cX12_begin 2 none RX12 0 := ⟨tcode_X12_begin, tim_X12_begin, tsel_X12_begin, tin_X12, rfl, by decide +kernel, by decide⟩
theorem mw_X12_is : MW yX12_is cX12_is 3 (some .boolean) RX12 2 := ⟨tcode_X12_is, tim_X12_is, tsel_X12_is, tin_X12, rfl, by decide +kernel, by decide⟩
theorem mw_X12_refused : MW yX12_refused cX12_refused 1 (some .int) RX12 0 := ⟨tcode_X12_refused, tim_X12_refused, tsel_X12_refused, tin_X12, rfl, by decide +kernel, by decide⟩
theorem mw_X12_keep : MW yX12_keep cX12_keep 3 (some .int) RX12 1 := ⟨tcode_X12_keep, tim_X12_keep, tsel_X12_keep, tin_X12, rfl, by decide +kernel, by decide⟩
theorem ms_X12_in : MS yX12_in cX12_in 3 (some .boolean) 3 := ⟨tcode_X12_in, tst_X12_in, tin_X12, by decide +kernel, by decide⟩
theorem ms_X12_bar0 : MS yX12_bar0 cX12_bar0 1 (some .int) 1 := ⟨tcode_X12_bar0, tst_X12_bar0, tin_X12, by decide +kernel, by decide⟩
theorem ms_X12_isBar : MS yX12_isBar cX12_isBar 1 (some .boolean) 1 := ⟨tcode_X12_isBar, tst_X12_isBar, tin_X12, by decide +kernel, by decide⟩
theorem mw_X12_isRigged : MW yX12_isRigged cX12_isRigged 2 (some .boolean) RX12 1 := ⟨tcode_X12_isRigged, tim_X12_isRigged, tsel_X12_isRigged, tin_X12, rfl, by decide +kernel, by decide⟩
theorem mw_X12_places : MW yX12_places cX12_places 2 (some .int) RX12 1 := ⟨tcode_X12_places, tim_X12_places, tsel_X12_places, tin_X12, rfl, by decide +kernel, by decide⟩
theorem mw_X12_gap : MW yX12_gap cX12_gap 2 (some .int) RX12 1 := ⟨tcode_X12_gap, tim_X12_gap, tsel_X12_gap, tin_X12, rfl, by decide +kernel, by decide⟩
theorem mw_X12_height : MW yX12_height cX12_height 2 (some .int) RX12 1 := ⟨tcode_X12_height, tim_X12_height, tsel_X12_height, tin_X12, rfl, by decide +kernel, by decide⟩
theorem mw_X12_held : MW yX12_held cX12_held 3 (some .int) RX12 2 := ⟨tcode_X12_held, tim_X12_held, tsel_X12_held, tin_X12, rfl, by decide +kernel, by decide⟩
theorem mw_X12_put : MW yX12_put cX12_put 4 none RX12 3 := ⟨tcode_X12_put, tim_X12_put, tsel_X12_put, tin_X12, rfl, by decide +kernel, by decide⟩
theorem mw_X12_isPlace : MW yX12_isPlace cX12_isPlace 3 (some .boolean) RX12 2 := ⟨tcode_X12_isPlace, tim_X12_isPlace, tsel_X12_isPlace, tin_X12, rfl, by decide +kernel, by decide⟩
theorem mw_X12_isTold : MW yX12_isTold cX12_isTold 2 (some .boolean) RX12 1 := ⟨tcode_X12_isTold, tim_X12_isTold, tsel_X12_isTold, tin_X12, rfl, by decide +kernel, by decide⟩
theorem mw_X12_thingIs : MW yX12_thingIs cX12_thingIs 3 (some .int) RX12 2 := ⟨tcode_X12_thingIs, tim_X12_thingIs, tsel_X12_thingIs, tin_X12, rfl, by decide +kernel, by decide⟩
theorem mw_X12_isLineTold : MW yX12_isLineTold cX12_isLineTold 2 (some .boolean) RX12 1 := ⟨tcode_X12_isLineTold, tim_X12_isLineTold, tsel_X12_isLineTold, tin_X12, rfl, by decide +kernel, by decide⟩
theorem mw_X12_lineIs : MW yX12_lineIs cX12_lineIs 3 (some .int) RX12 2 := ⟨tcode_X12_lineIs, tim_X12_lineIs, tsel_X12_lineIs, tin_X12, rfl, by decide +kernel, by decide⟩
theorem mw_X12_isLineThere : MW yX12_isLineThere cX12_isLineThere 2 (some .boolean) RX12 1 := ⟨tcode_X12_isLineThere, tim_X12_isLineThere, tsel_X12_isLineThere, tin_X12, rfl, by decide +kernel, by decide⟩
theorem mw_X12_holds : MW yX12_holds cX12_holds 3 (some .boolean) RX12 2 := ⟨tcode_X12_holds, tim_X12_holds, tsel_X12_holds, tin_X12, rfl, by decide +kernel, by decide⟩
theorem mw_X12_weakest : MW yX12_weakest cX12_weakest 4 (some .int) RX12 1 := ⟨tcode_X12_weakest, tim_X12_weakest, tsel_X12_weakest, tin_X12, rfl, by decide +kernel, by decide⟩
theorem mw_X12_placeOn : MW yX12_placeOn cX12_placeOn 4 (some .int) RX12 2 := ⟨tcode_X12_placeOn, tim_X12_placeOn, tsel_X12_placeOn, tin_X12, rfl, by decide +kernel, by decide⟩
theorem mw_X12_barWith : MW yX12_barWith cX12_barWith 3 (some .int) RX12 1 := ⟨tcode_X12_barWith, tim_X12_barWith, tsel_X12_barWith, tin_X12, rfl, by decide +kernel, by decide⟩
theorem mw_X12_burden : MW yX12_burden cX12_burden 3 (some .float) RX12 1 := ⟨tcode_X12_burden, tim_X12_burden, tsel_X12_burden, tin_X12, rfl, by decide +kernel, by decide⟩
theorem mw_X12_grams : MW yX12_grams cX12_grams 2 (some .int) RX12 1 := ⟨tcode_X12_grams, tim_X12_grams, tsel_X12_grams, tin_X12, rfl, by decide +kernel, by decide⟩
theorem mw_X12_loadOf : MW yX12_loadOf cX12_loadOf 4 (some .float) RX12 1 := ⟨tcode_X12_loadOf, tim_X12_loadOf, tsel_X12_loadOf, tin_X12, rfl, by decide +kernel, by decide⟩
theorem mw_X12_isBalanced : MW yX12_isBalanced cX12_isBalanced 4 (some .boolean) RX12 2 := ⟨tcode_X12_isBalanced, tim_X12_isBalanced, tsel_X12_isBalanced, tin_X12, rfl, by decide +kernel, by decide⟩
theorem mw_X12_things : MW yX12_things cX12_things 4 (some .int) RX12 1 := ⟨tcode_X12_things, tim_X12_things, tsel_X12_things, tin_X12, rfl, by decide +kernel, by decide⟩
theorem mw_X12_lines : MW yX12_lines cX12_lines 4 (some .int) RX12 1 := ⟨tcode_X12_lines, tim_X12_lines, tsel_X12_lines, tin_X12, rfl, by decide +kernel, by decide⟩
theorem mw_X12_nearest : MW yX12_nearest cX12_nearest 6 (some .int) RX12 3 := ⟨tcode_X12_nearest, tim_X12_nearest, tsel_X12_nearest, tin_X12, rfl, by decide +kernel, by decide⟩
theorem mw_X12_shareOf : MW yX12_shareOf cX12_shareOf 11 (some .long) RX12 1 := ⟨tcode_X12_shareOf, tim_X12_shareOf, tsel_X12_shareOf, tin_X12, rfl, by decide +kernel, by decide⟩
theorem mw_X12_isHeld : MW yX12_isHeld cX12_isHeld 9 (some .boolean) RX12 1 := ⟨tcode_X12_isHeld, tim_X12_isHeld, tsel_X12_isHeld, tin_X12, rfl, by decide +kernel, by decide⟩
theorem mw_X12_clash : MW yX12_clash cX12_clash 11 (some .boolean) RX12 5 := ⟨tcode_X12_clash, tim_X12_clash, tsel_X12_clash, tin_X12, rfl, by decide +kernel, by decide⟩
theorem mw_X12_clashing : MW yX12_clashing cX12_clashing 6 (some .int) RX12 2 := ⟨tcode_X12_clashing, tim_X12_clashing, tsel_X12_clashing, tin_X12, rfl, by decide +kernel, by decide⟩
theorem ms_X12_lesser : MS yX12_lesser cX12_lesser 2 (some .int) 2 := ⟨tcode_X12_lesser, tst_X12_lesser, tin_X12, by decide +kernel, by decide⟩
theorem mw_X12_isHot : MW yX12_isHot cX12_isHot 2 (some .boolean) RX12 1 := ⟨tcode_X12_isHot, tim_X12_isHot, tsel_X12_isHot, tin_X12, rfl, by decide +kernel, by decide⟩
theorem mw_X12_scorched : MW yX12_scorched cX12_scorched 7 (some .int) RX12 0 := ⟨tcode_X12_scorched, tim_X12_scorched, tsel_X12_scorched, tin_X12, rfl, by decide +kernel, by decide⟩
theorem mw_X12_isJoined : MW yX12_isJoined cX12_isJoined 4 (some .boolean) RX12 1 := ⟨tcode_X12_isJoined, tim_X12_isJoined, tsel_X12_isJoined, tin_X12, rfl, by decide +kernel, by decide⟩
theorem mw_X12_firstOfGroup : MW yX12_firstOfGroup cX12_firstOfGroup 3 (some .int) RX12 1 := ⟨tcode_X12_firstOfGroup, tim_X12_firstOfGroup, tsel_X12_firstOfGroup, tin_X12, rfl, by decide +kernel, by decide⟩
theorem mw_X12_lastOfGroup : MW yX12_lastOfGroup cX12_lastOfGroup 3 (some .int) RX12 1 := ⟨tcode_X12_lastOfGroup, tim_X12_lastOfGroup, tsel_X12_lastOfGroup, tin_X12, rfl, by decide +kernel, by decide⟩
theorem mw_X12_cueIs : MW yX12_cueIs cX12_cueIs 3 (some .int) RX12 2 := ⟨tcode_X12_cueIs, tim_X12_cueIs, tsel_X12_cueIs, tin_X12, rfl, by decide +kernel, by decide⟩
theorem mw_X12_runs : MW yX12_runs cX12_runs 2 (some .boolean) RX12 1 := ⟨tcode_X12_runs, tim_X12_runs, tsel_X12_runs, tin_X12, rfl, by decide +kernel, by decide⟩
theorem mw_X12_isNotOver : MW yX12_isNotOver cX12_isNotOver 2 (some .boolean) RX12 1 := ⟨tcode_X12_isNotOver, tim_X12_isNotOver, tsel_X12_isNotOver, tin_X12, rfl, by decide +kernel, by decide⟩
theorem mw_X12_running : MW yX12_running cX12_running 3 (some .int) RX12 1 := ⟨tcode_X12_running, tim_X12_running, tsel_X12_running, tin_X12, rfl, by decide +kernel, by decide⟩
theorem mw_X12_note : MW yX12_note cX12_note 6 none RX12 4 := ⟨tcode_X12_note, tim_X12_note, tsel_X12_note, tin_X12, rfl, by decide +kernel, by decide⟩
theorem mw_X12_stops : MW yX12_stops cX12_stops 7 (some .boolean) RX12 3 := ⟨tcode_X12_stops, tim_X12_stops, tsel_X12_stops, tin_X12, rfl, by decide +kernel, by decide⟩
theorem mw_X12_tick : MW yX12_tick cX12_tick 11 (some .int) RX12 0 := ⟨tcode_X12_tick, tim_X12_tick, tsel_X12_tick, tin_X12, rfl, by decide +kernel, by decide⟩
theorem mw_X12_bar : MW yX12_bar cX12_bar 6 (some .int) RX12 3 := ⟨tcode_X12_bar, tim_X12_bar, tsel_X12_bar, tin_X12, rfl, by decide +kernel, by decide⟩
theorem mw_X12_strip : MW yX12_strip cX12_strip 6 (some .int) RX12 1 := ⟨tcode_X12_strip, tim_X12_strip, tsel_X12_strip, tin_X12, rfl, by decide +kernel, by decide⟩
theorem mw_X12_line : MW yX12_line cX12_line 8 (some .int) RX12 4 := ⟨tcode_X12_line, tim_X12_line, tsel_X12_line, tin_X12, rfl, by decide +kernel, by decide⟩
theorem mw_X12_wear : MW yX12_wear cX12_wear 5 (some .int) RX12 3 := ⟨tcode_X12_wear, tim_X12_wear, tsel_X12_wear, tin_X12, rfl, by decide +kernel, by decide⟩
theorem mw_X12_cut : MW yX12_cut cX12_cut 3 (some .int) RX12 1 := ⟨tcode_X12_cut, tim_X12_cut, tsel_X12_cut, tin_X12, rfl, by decide +kernel, by decide⟩
theorem mw_X12_thing : MW yX12_thing cX12_thing 7 (some .int) RX12 4 := ⟨tcode_X12_thing, tim_X12_thing, tsel_X12_thing, tin_X12, rfl, by decide +kernel, by decide⟩
theorem mw_X12_takenBack : MW yX12_takenBack cX12_takenBack 2 (some .int) RX12 0 := ⟨tcode_X12_takenBack, tim_X12_takenBack, tsel_X12_takenBack, tin_X12, rfl, by decide +kernel, by decide⟩
theorem mw_X12_heat : MW yX12_heat cX12_heat 5 (some .int) RX12 2 := ⟨tcode_X12_heat, tim_X12_heat, tsel_X12_heat, tin_X12, rfl, by decide +kernel, by decide⟩
theorem mw_X12_hang : MW yX12_hang cX12_hang 9 (some .int) RX12 3 := ⟨tcode_X12_hang, tim_X12_hang, tsel_X12_hang, tin_X12, rfl, by decide +kernel, by decide⟩
theorem mw_X12_strike : MW yX12_strike cX12_strike 5 (some .int) RX12 1 := ⟨tcode_X12_strike, tim_X12_strike, tsel_X12_strike, tin_X12, rfl, by decide +kernel, by decide⟩
theorem mw_X12_hook : MW yX12_hook cX12_hook 5 (some .int) RX12 3 := ⟨tcode_X12_hook, tim_X12_hook, tsel_X12_hook, tin_X12, rfl, by decide +kernel, by decide⟩
theorem mw_X12_brick : MW yX12_brick cX12_brick 5 (some .int) RX12 2 := ⟨tcode_X12_brick, tim_X12_brick, tsel_X12_brick, tin_X12, rfl, by decide +kernel, by decide⟩
theorem mw_X12_shift : MW yX12_shift cX12_shift 11 (some .int) RX12 4 := ⟨tcode_X12_shift, tim_X12_shift, tsel_X12_shift, tin_X12, rfl, by decide +kernel, by decide⟩
theorem mw_X12_flag : MW yX12_flag cX12_flag 4 (some .int) RX12 2 := ⟨tcode_X12_flag, tim_X12_flag, tsel_X12_flag, tin_X12, rfl, by decide +kernel, by decide⟩
theorem mw_X12_wave : MW yX12_wave cX12_wave 2 (some .int) RX12 1 := ⟨tcode_X12_wave, tim_X12_wave, tsel_X12_wave, tin_X12, rfl, by decide +kernel, by decide⟩
theorem mw_X12_cue : MW yX12_cue cX12_cue 7 (some .int) RX12 4 := ⟨tcode_X12_cue, tim_X12_cue, tsel_X12_cue, tin_X12, rfl, by decide +kernel, by decide⟩
theorem mw_X12_hush : MW yX12_hush cX12_hush 4 (some .int) RX12 1 := ⟨tcode_X12_hush, tim_X12_hush, tsel_X12_hush, tin_X12, rfl, by decide +kernel, by decide⟩
theorem mw_X12_go : MW yX12_go cX12_go 4 (some .int) RX12 1 := ⟨tcode_X12_go, tim_X12_go, tsel_X12_go, tin_X12, rfl, by decide +kernel, by decide⟩
theorem mw_X12_undo : MW yX12_undo cX12_undo 2 (some .int) RX12 0 := ⟨tcode_X12_undo, tim_X12_undo, tsel_X12_undo, tin_X12, rfl, by decide +kernel, by decide⟩
theorem mw_X12_tell : MW yX12_tell cX12_tell 6 (some .int) RX12 5 := ⟨tcode_X12_tell, tim_X12_tell, tsel_X12_tell, tin_X12, rfl, by decide +kernel, by decide⟩
theorem mw_X12_forge : MW yX12_forge cX12_forge 5 (some .int) RX12 3 := ⟨tcode_X12_forge, tim_X12_forge, tsel_X12_forge, tin_X12, rfl, by decide +kernel, by decide⟩
theorem mw_X12_clear : MW yX12_clear cX12_clear 2 (some .int) RX12 0 := ⟨tcode_X12_clear, tim_X12_clear, tsel_X12_clear, tin_X12, rfl, by decide +kernel, by decide⟩
theorem mw_X12_done : MW yX12_done cX12_done 5 (some .int) RX12 1 := ⟨tcode_X12_done, tim_X12_done, tsel_X12_done, tin_X12, rfl, by decide +kernel, by decide⟩
theorem mw_X12_check : MW yX12_check cX12_check 5 (some .int) RX12 0 := ⟨tcode_X12_check, tim_X12_check, tsel_X12_check, tin_X12, rfl, by decide +kernel, by decide⟩
theorem mw_X12_at : MW yX12_at cX12_at 3 (some .int) RX12 2 := ⟨tcode_X12_at, tim_X12_at, tsel_X12_at, tin_X12, rfl, by decide +kernel, by decide⟩
theorem mw_X12_of : MW yX12_of cX12_of 4 (some .int) RX12 2 := ⟨tcode_X12_of, tim_X12_of, tsel_X12_of, tin_X12, rfl, by decide +kernel, by decide⟩
theorem mw_X12_barOf : MW yX12_barOf cX12_barOf 3 (some .int) RX12 2 := ⟨tcode_X12_barOf, tim_X12_barOf, tsel_X12_barOf, tin_X12, rfl, by decide +kernel, by decide⟩
theorem mw_X12_load : MW yX12_load cX12_load 2 (some .double) RX12 1 := ⟨tcode_X12_load, tim_X12_load, tsel_X12_load, tin_X12, rfl, by decide +kernel, by decide⟩
theorem mw_X12_share : MW yX12_share cX12_share 2 (some .long) RX12 1 := ⟨tcode_X12_share, tim_X12_share, tsel_X12_share, tin_X12, rfl, by decide +kernel, by decide⟩
theorem mw_X12_strength : MW yX12_strength cX12_strength 2 (some .int) RX12 1 := ⟨tcode_X12_strength, tim_X12_strength, tsel_X12_strength, tin_X12, rfl, by decide +kernel, by decide⟩
theorem mw_X12_evenOf : MW yX12_evenOf cX12_evenOf 4 (some .int) RX12 1 := ⟨tcode_X12_evenOf, tim_X12_evenOf, tsel_X12_evenOf, tin_X12, rfl, by decide +kernel, by decide⟩
theorem mw_X12_even : MW yX12_even cX12_even 2 (some .int) RX12 1 := ⟨tcode_X12_even, tim_X12_even, tsel_X12_even, tin_X12, rfl, by decide +kernel, by decide⟩
theorem mw_X12_least : MW yX12_least cX12_least 5 (some .int) RX12 0 := ⟨tcode_X12_least, tim_X12_least, tsel_X12_least, tin_X12, rfl, by decide +kernel, by decide⟩
theorem mw_X12_stop : MW yX12_stop cX12_stop 4 (some .int) RX12 2 := ⟨tcode_X12_stop, tim_X12_stop, tsel_X12_stop, tin_X12, rfl, by decide +kernel, by decide⟩
theorem mw_X12_cueOf : MW yX12_cueOf cX12_cueOf 3 (some .int) RX12 2 := ⟨tcode_X12_cueOf, tim_X12_cueOf, tsel_X12_cueOf, tin_X12, rfl, by decide +kernel, by decide⟩
theorem mw_X12_told : MW yX12_told cX12_told 4 (some .int) RX12 1 := ⟨tcode_X12_told, tim_X12_told, tsel_X12_told, tin_X12, rfl, by decide +kernel, by decide⟩
theorem mw_X12_status : MW yX12_status cX12_status 2 (some .int) RX12 1 := ⟨tcode_X12_status, tim_X12_status, tsel_X12_status, tin_X12, rfl, by decide +kernel, by decide⟩
