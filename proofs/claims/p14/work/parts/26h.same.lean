/-! ===== the blocks by words are the blocks ===== -/
noncomputable def hpf (p : Nat × List dI) : Nat × List sHi := (p.1, p.2.map hxf)
theorem hhc {a b : List (Nat × List sHi)} {t t2 : List (Option (List (Nat × List sHi)))} (h : a = b) (h2 : t = t2) : some a :: t = some b :: t2 := h ▸ h2 ▸ rfl
set_option maxRecDepth 100000 in
set_option maxHeartbeats 4000000 in
theorem hh_X0_init : bX0_init.map hpf = hX0_init := rfl
set_option maxRecDepth 100000 in
set_option maxHeartbeats 4000000 in
theorem hh_X0_blamedToken : bX0_blamedToken.map hpf = hX0_blamedToken := rfl
set_option maxRecDepth 100000 in
set_option maxHeartbeats 4000000 in
theorem hh_X0_firstFault : bX0_firstFault.map hpf = hX0_firstFault := rfl
set_option maxRecDepth 100000 in
set_option maxHeartbeats 4000000 in
theorem hh_X0_bind : bX0_bind.map hpf = hX0_bind := rfl
set_option maxRecDepth 100000 in
set_option maxHeartbeats 4000000 in
theorem hh_X0_blame : bX0_blame.map hpf = hX0_blame := rfl
set_option maxRecDepth 100000 in
set_option maxHeartbeats 4000000 in
theorem hh_X0_collect : bX0_collect.map hpf = hX0_collect := rfl
set_option maxRecDepth 100000 in
set_option maxHeartbeats 4000000 in
theorem hh_X0_sameParams : bX0_sameParams.map hpf = hX0_sameParams := rfl
set_option maxRecDepth 100000 in
set_option maxHeartbeats 4000000 in
theorem hh_X0_checkParams : bX0_checkParams.map hpf = hX0_checkParams := rfl
set_option maxRecDepth 100000 in
set_option maxHeartbeats 4000000 in
theorem hh_X0_bindNode : bX0_bindNode.map hpf = hX0_bindNode := rfl
set_option maxRecDepth 100000 in
set_option maxHeartbeats 4000000 in
theorem hh_X0_tellsGroup : bX0_tellsGroup.map hpf = hX0_tellsGroup := rfl
set_option maxRecDepth 100000 in
set_option maxHeartbeats 4000000 in
theorem hh_X0_link : bX0_link.map hpf = hX0_link := rfl
set_option maxRecDepth 100000 in
set_option maxHeartbeats 4000000 in
theorem hh_X0_checkFloats : bX0_checkFloats.map hpf = hX0_checkFloats := rfl
set_option maxRecDepth 100000 in
set_option maxHeartbeats 4000000 in
theorem hh_X0_checkNode : bX0_checkNode.map hpf = hX0_checkNode := rfl
set_option maxRecDepth 100000 in
set_option maxHeartbeats 4000000 in
theorem hh_X0_checkName : bX0_checkName.map hpf = hX0_checkName := rfl
set_option maxRecDepth 100000 in
set_option maxHeartbeats 4000000 in
theorem hh_X0_canUnwrap : bX0_canUnwrap.map hpf = hX0_canUnwrap := rfl
set_option maxRecDepth 100000 in
set_option maxHeartbeats 4000000 in
theorem hh_X0_needNumber : bX0_needNumber.map hpf = hX0_needNumber := rfl
set_option maxRecDepth 100000 in
set_option maxHeartbeats 4000000 in
theorem hh_X0_checkControl : bX0_checkControl.map hpf = hX0_checkControl := rfl
set_option maxRecDepth 100000 in
set_option maxHeartbeats 4000000 in
theorem hh_X0_nameEntries : bX0_nameEntries.map hpf = hX0_nameEntries := rfl
set_option maxRecDepth 100000 in
set_option maxHeartbeats 4000000 in
theorem hh_X0_keepBoxes : bX0_keepBoxes.map hpf = hX0_keepBoxes := rfl
set_option maxRecDepth 100000 in
set_option maxHeartbeats 4000000 in
theorem hh_X1_init : bX1_init.map hpf = hX1_init := rfl
set_option maxRecDepth 100000 in
set_option maxHeartbeats 4000000 in
theorem hh_X1_ruleOf : bX1_ruleOf.map hpf = hX1_ruleOf := rfl
set_option maxRecDepth 100000 in
set_option maxHeartbeats 4000000 in
theorem hh_X1_argumentOf : bX1_argumentOf.map hpf = hX1_argumentOf := rfl
set_option maxRecDepth 100000 in
set_option maxHeartbeats 4000000 in
theorem hh_X1_argumentPlace : bX1_argumentPlace.map hpf = hX1_argumentPlace := rfl
set_option maxRecDepth 100000 in
theorem hhk_0 : dBs_0.map (Option.map (List.map hpf)) = hBs_0 := hhc hh_X0_init (hhc hh_X0_blamedToken (hhc hh_X0_firstFault (hhc hh_X0_bind (hhc hh_X0_blame (hhc hh_X0_collect (hhc hh_X0_sameParams (hhc hh_X0_checkParams (hhc hh_X0_bindNode (hhc hh_X0_tellsGroup (hhc hh_X0_link (hhc hh_X0_checkFloats (hhc hh_X0_checkNode (hhc hh_X0_checkName (hhc hh_X0_canUnwrap (hhc hh_X0_needNumber (hhc hh_X0_checkControl (hhc hh_X0_nameEntries (hhc hh_X0_keepBoxes (hhc hh_X1_init (hhc hh_X1_ruleOf (hhc hh_X1_argumentOf (hhc hh_X1_argumentPlace (rfl)))))))))))))))))))))))
set_option maxRecDepth 100000 in
set_option maxHeartbeats 4000000 in
theorem hh_X1_lead : bX1_lead.map hpf = hX1_lead := rfl
set_option maxRecDepth 100000 in
set_option maxHeartbeats 4000000 in
theorem hh_X1_unwrap : bX1_unwrap.map hpf = hX1_unwrap := rfl
set_option maxRecDepth 100000 in
set_option maxHeartbeats 4000000 in
theorem hh_X1_follow : bX1_follow.map hpf = hX1_follow := rfl
set_option maxRecDepth 100000 in
set_option maxHeartbeats 4000000 in
theorem hh_X1_ledTo : bX1_ledTo.map hpf = hX1_ledTo := rfl
set_option maxRecDepth 100000 in
set_option maxHeartbeats 4000000 in
theorem hh_X1_fill : bX1_fill.map hpf = hX1_fill := rfl
set_option maxRecDepth 100000 in
set_option maxHeartbeats 4000000 in
theorem hh_X1_numberCalls : bX1_numberCalls.map hpf = hX1_numberCalls := rfl
set_option maxRecDepth 100000 in
set_option maxHeartbeats 4000000 in
theorem hh_X1_callAll : bX1_callAll.map hpf = hX1_callAll := rfl
set_option maxRecDepth 100000 in
set_option maxHeartbeats 4000000 in
theorem hh_X1_callStatement : bX1_callStatement.map hpf = hX1_callStatement := rfl
set_option maxRecDepth 100000 in
set_option maxHeartbeats 4000000 in
theorem hh_X1_called : bX1_called.map hpf = hX1_called := rfl
set_option maxRecDepth 100000 in
set_option maxHeartbeats 4000000 in
theorem hh_X1_bindArgument : bX1_bindArgument.map hpf = hX1_bindArgument := rfl
set_option maxRecDepth 100000 in
set_option maxHeartbeats 4000000 in
theorem hh_X1_hasParams : bX1_hasParams.map hpf = hX1_hasParams := rfl
set_option maxRecDepth 100000 in
set_option maxHeartbeats 4000000 in
theorem hh_X1_holdsParams : bX1_holdsParams.map hpf = hX1_holdsParams := rfl
set_option maxRecDepth 100000 in
set_option maxHeartbeats 4000000 in
theorem hh_X1_sameArguments : bX1_sameArguments.map hpf = hX1_sameArguments := rfl
set_option maxRecDepth 100000 in
set_option maxHeartbeats 4000000 in
theorem hh_X2_init : bX2_init.map hpf = hX2_init := rfl
set_option maxRecDepth 100000 in
set_option maxHeartbeats 4000000 in
theorem hh_X2_isTop : bX2_isTop.map hpf = hX2_isTop := rfl
set_option maxRecDepth 100000 in
set_option maxHeartbeats 4000000 in
theorem hh_X2_size : bX2_size.map hpf = hX2_size := rfl
set_option maxRecDepth 100000 in
set_option maxHeartbeats 4000000 in
theorem hh_X2_faultPlace : bX2_faultPlace.map hpf = hX2_faultPlace := rfl
set_option maxRecDepth 100000 in
set_option maxHeartbeats 4000000 in
theorem hh_X2_majorOf : bX2_majorOf.map hpf = hX2_majorOf := rfl
set_option maxRecDepth 100000 in
set_option maxHeartbeats 4000000 in
theorem hh_X2_numberOf : bX2_numberOf.map hpf = hX2_numberOf := rfl
set_option maxRecDepth 100000 in
set_option maxHeartbeats 4000000 in
theorem hh_X2_widthOf : bX2_widthOf.map hpf = hX2_widthOf := rfl
set_option maxRecDepth 100000 in
set_option maxHeartbeats 4000000 in
theorem hh_X2_afterOf : bX2_afterOf.map hpf = hX2_afterOf := rfl
set_option maxRecDepth 100000 in
set_option maxHeartbeats 4000000 in
theorem hh_X2_startOf : bX2_startOf.map hpf = hX2_startOf := rfl
set_option maxRecDepth 100000 in
set_option maxHeartbeats 4000000 in
theorem hh_X2_behindOf : bX2_behindOf.map hpf = hX2_behindOf := rfl
set_option maxRecDepth 100000 in
theorem hhk_1 : dBs_1.map (Option.map (List.map hpf)) = hBs_1 := hhc hh_X1_lead (hhc hh_X1_unwrap (hhc hh_X1_follow (hhc hh_X1_ledTo (hhc hh_X1_fill (hhc hh_X1_numberCalls (hhc hh_X1_callAll (hhc hh_X1_callStatement (hhc hh_X1_called (hhc hh_X1_bindArgument (hhc hh_X1_hasParams (hhc hh_X1_holdsParams (hhc hh_X1_sameArguments (hhc hh_X2_init (hhc hh_X2_isTop (hhc hh_X2_size (hhc hh_X2_faultPlace (hhc hh_X2_majorOf (hhc hh_X2_numberOf (hhc hh_X2_widthOf (hhc hh_X2_afterOf (hhc hh_X2_startOf (hhc hh_X2_behindOf (rfl)))))))))))))))))))))))
set_option maxRecDepth 100000 in
set_option maxHeartbeats 4000000 in
theorem hh_X2_byteOf : bX2_byteOf.map hpf = hX2_byteOf := rfl
set_option maxRecDepth 100000 in
set_option maxHeartbeats 4000000 in
theorem hh_X2_told : bX2_told.map hpf = hX2_told := rfl
set_option maxRecDepth 100000 in
set_option maxHeartbeats 4000000 in
theorem hh_X2_take : bX2_take.map hpf = hX2_take := rfl
set_option maxRecDepth 100000 in
set_option maxHeartbeats 4000000 in
theorem hh_X2_readWhole : bX2_readWhole.map hpf = hX2_readWhole := rfl
set_option maxRecDepth 100000 in
set_option maxHeartbeats 4000000 in
theorem hh_X2_open : bX2_open.map hpf = hX2_open := rfl
set_option maxRecDepth 100000 in
set_option maxHeartbeats 4000000 in
theorem hh_X2_within : bX2_within.map hpf = hX2_within := rfl
set_option maxRecDepth 100000 in
set_option maxHeartbeats 4000000 in
theorem hh_X2_bad : bX2_bad.map hpf = hX2_bad := rfl
set_option maxRecDepth 100000 in
set_option maxHeartbeats 4000000 in
theorem hh_X2_readItem : bX2_readItem.map hpf = hX2_readItem := rfl
set_option maxRecDepth 100000 in
set_option maxHeartbeats 4000000 in
theorem hh_X2_readHead : bX2_readHead.map hpf = hX2_readHead := rfl
set_option maxRecDepth 100000 in
set_option maxHeartbeats 4000000 in
theorem hh_X2_readString : bX2_readString.map hpf = hX2_readString := rfl
set_option maxRecDepth 100000 in
set_option maxHeartbeats 4000000 in
theorem hh_X2_behindBytes : bX2_behindBytes.map hpf = hX2_behindBytes := rfl
set_option maxRecDepth 100000 in
set_option maxHeartbeats 4000000 in
theorem hh_X2_readPartHead : bX2_readPartHead.map hpf = hX2_readPartHead := rfl
set_option maxRecDepth 100000 in
set_option maxHeartbeats 4000000 in
theorem hh_X2_partSize : bX2_partSize.map hpf = hX2_partSize := rfl
set_option maxRecDepth 100000 in
set_option maxHeartbeats 4000000 in
theorem hh_X2_readList : bX2_readList.map hpf = hX2_readList := rfl
set_option maxRecDepth 100000 in
set_option maxHeartbeats 4000000 in
theorem hh_X3_init : bX3_init.map hpf = hX3_init := rfl
set_option maxRecDepth 100000 in
set_option maxHeartbeats 4000000 in
theorem hh_X3_obey : bX3_obey.map hpf = hX3_obey := rfl
set_option maxRecDepth 100000 in
set_option maxHeartbeats 4000000 in
theorem hh_X3_says : bX3_says.map hpf = hX3_says := rfl
set_option maxRecDepth 100000 in
set_option maxHeartbeats 4000000 in
theorem hh_X3_goTo : bX3_goTo.map hpf = hX3_goTo := rfl
set_option maxRecDepth 100000 in
set_option maxHeartbeats 4000000 in
theorem hh_X3_look : bX3_look.map hpf = hX3_look := rfl
set_option maxRecDepth 100000 in
set_option maxHeartbeats 4000000 in
theorem hh_X3_set : bX3_set.map hpf = hX3_set := rfl
set_option maxRecDepth 100000 in
set_option maxHeartbeats 4000000 in
theorem hh_X3_push : bX3_push.map hpf = hX3_push := rfl
set_option maxRecDepth 100000 in
set_option maxHeartbeats 4000000 in
theorem hh_X3_enter : bX3_enter.map hpf = hX3_enter := rfl
set_option maxRecDepth 100000 in
set_option maxHeartbeats 4000000 in
theorem hh_X3_enterNamed : bX3_enterNamed.map hpf = hX3_enterNamed := rfl
set_option maxRecDepth 100000 in
theorem hhk_2 : dBs_2.map (Option.map (List.map hpf)) = hBs_2 := hhc hh_X2_byteOf (hhc hh_X2_told (hhc hh_X2_take (hhc hh_X2_readWhole (hhc hh_X2_open (hhc hh_X2_within (hhc hh_X2_bad (hhc hh_X2_readItem (hhc hh_X2_readHead (hhc hh_X2_readString (hhc hh_X2_behindBytes (hhc hh_X2_readPartHead (hhc hh_X2_partSize (hhc hh_X2_readList (hhc hh_X3_init (hhc hh_X3_obey (hhc hh_X3_says (hhc hh_X3_goTo (hhc hh_X3_look (hhc hh_X3_set (hhc hh_X3_push (hhc hh_X3_enter (hhc hh_X3_enterNamed (rfl)))))))))))))))))))))))
set_option maxRecDepth 100000 in
set_option maxHeartbeats 4000000 in
theorem hh_X3_leave : bX3_leave.map hpf = hX3_leave := rfl
set_option maxRecDepth 100000 in
set_option maxHeartbeats 4000000 in
theorem hh_X3_kept : bX3_kept.map hpf = hX3_kept := rfl
set_option maxRecDepth 100000 in
set_option maxHeartbeats 4000000 in
theorem hh_X3_check : bX3_check.map hpf = hX3_check := rfl
set_option maxRecDepth 100000 in
set_option maxHeartbeats 4000000 in
theorem hh_X3_enterArray : bX3_enterArray.map hpf = hX3_enterArray := rfl
set_option maxRecDepth 100000 in
set_option maxHeartbeats 4000000 in
theorem hh_X3_pushGroup : bX3_pushGroup.map hpf = hX3_pushGroup := rfl
set_option maxRecDepth 100000 in
set_option maxHeartbeats 4000000 in
theorem hh_X3_beginChoice : bX3_beginChoice.map hpf = hX3_beginChoice := rfl
set_option maxRecDepth 100000 in
set_option maxHeartbeats 4000000 in
theorem hh_X3_beginEntry : bX3_beginEntry.map hpf = hX3_beginEntry := rfl
set_option maxRecDepth 100000 in
set_option maxHeartbeats 4000000 in
theorem hh_X3_findGroup : bX3_findGroup.map hpf = hX3_findGroup := rfl
set_option maxRecDepth 100000 in
set_option maxHeartbeats 4000000 in
theorem hh_X3_goOn : bX3_goOn.map hpf = hX3_goOn := rfl
set_option maxRecDepth 100000 in
set_option maxHeartbeats 4000000 in
theorem hh_X3_known : bX3_known.map hpf = hX3_known := rfl
set_option maxRecDepth 100000 in
set_option maxHeartbeats 4000000 in
theorem hh_X3_ended : bX3_ended.map hpf = hX3_ended := rfl
set_option maxRecDepth 100000 in
set_option maxHeartbeats 4000000 in
theorem hh_X3_gained : bX3_gained.map hpf = hX3_gained := rfl
set_option maxRecDepth 100000 in
set_option maxHeartbeats 4000000 in
theorem hh_X3_take : bX3_take.map hpf = hX3_take := rfl
set_option maxRecDepth 100000 in
set_option maxHeartbeats 4000000 in
theorem hh_X3_endEntry : bX3_endEntry.map hpf = hX3_endEntry := rfl
set_option maxRecDepth 100000 in
set_option maxHeartbeats 4000000 in
theorem hh_X3_enterMap : bX3_enterMap.map hpf = hX3_enterMap := rfl
set_option maxRecDepth 100000 in
set_option maxHeartbeats 4000000 in
theorem hh_X3_goFit : bX3_goFit.map hpf = hX3_goFit := rfl
set_option maxRecDepth 100000 in
set_option maxHeartbeats 4000000 in
theorem hh_X3_asksMore : bX3_asksMore.map hpf = hX3_asksMore := rfl
set_option maxRecDepth 100000 in
set_option maxHeartbeats 4000000 in
theorem hh_X3_ask : bX3_ask.map hpf = hX3_ask := rfl
set_option maxRecDepth 100000 in
set_option maxHeartbeats 4000000 in
theorem hh_X3_answered : bX3_answered.map hpf = hX3_answered := rfl
set_option maxRecDepth 100000 in
set_option maxHeartbeats 4000000 in
theorem hh_X3_isGiven : bX3_isGiven.map hpf = hX3_isGiven := rfl
set_option maxRecDepth 100000 in
set_option maxHeartbeats 4000000 in
theorem hh_X3_ways : bX3_ways.map hpf = hX3_ways := rfl
set_option maxRecDepth 100000 in
set_option maxHeartbeats 4000000 in
theorem hh_X3_throughGroup : bX3_throughGroup.map hpf = hX3_throughGroup := rfl
set_option maxRecDepth 100000 in
set_option maxHeartbeats 4000000 in
theorem hh_X3_waysWithin : bX3_waysWithin.map hpf = hX3_waysWithin := rfl
set_option maxRecDepth 100000 in
theorem hhk_3 : dBs_3.map (Option.map (List.map hpf)) = hBs_3 := hhc hh_X3_leave (hhc hh_X3_kept (hhc hh_X3_check (hhc hh_X3_enterArray (hhc hh_X3_pushGroup (hhc hh_X3_beginChoice (hhc hh_X3_beginEntry (hhc hh_X3_findGroup (hhc hh_X3_goOn (hhc hh_X3_known (hhc hh_X3_ended (hhc hh_X3_gained (hhc hh_X3_take (hhc hh_X3_endEntry (hhc hh_X3_enterMap (hhc hh_X3_goFit (hhc hh_X3_asksMore (hhc hh_X3_ask (hhc hh_X3_answered (hhc hh_X3_isGiven (hhc hh_X3_ways (hhc hh_X3_throughGroup (hhc hh_X3_waysWithin (rfl)))))))))))))))))))))))
set_option maxRecDepth 100000 in
set_option maxHeartbeats 4000000 in
theorem hh_X3_choicesOf : bX3_choicesOf.map hpf = hX3_choicesOf := rfl
set_option maxRecDepth 100000 in
set_option maxHeartbeats 4000000 in
theorem hh_X3_giveTo : bX3_giveTo.map hpf = hX3_giveTo := rfl
set_option maxRecDepth 100000 in
set_option maxHeartbeats 4000000 in
theorem hh_X4_init : bX4_init.map hpf = hX4_init := rfl
set_option maxRecDepth 100000 in
set_option maxHeartbeats 4000000 in
theorem hh_X4_obey : bX4_obey.map hpf = hX4_obey := rfl
set_option maxRecDepth 100000 in
set_option maxHeartbeats 4000000 in
theorem hh_X4_isSo : bX4_isSo.map hpf = hX4_isSo := rfl
set_option maxRecDepth 100000 in
set_option maxHeartbeats 4000000 in
theorem hh_X4_isTag : bX4_isTag.map hpf = hX4_isTag := rfl
set_option maxRecDepth 100000 in
set_option maxHeartbeats 4000000 in
theorem hh_X4_compares : bX4_compares.map hpf = hX4_compares := rfl
set_option maxRecDepth 100000 in
set_option maxHeartbeats 4000000 in
theorem hh_X4_isNumber : bX4_isNumber.map hpf = hX4_isNumber := rfl
set_option maxRecDepth 100000 in
set_option maxHeartbeats 4000000 in
theorem hh_X4_inRange : bX4_inRange.map hpf = hX4_inRange := rfl
set_option maxRecDepth 100000 in
set_option maxHeartbeats 4000000 in
theorem hh_X4_compare : bX4_compare.map hpf = hX4_compare := rfl
set_option maxRecDepth 100000 in
set_option maxHeartbeats 4000000 in
theorem hh_X4_hasBytes : bX4_hasBytes.map hpf = hX4_hasBytes := rfl
set_option maxRecDepth 100000 in
set_option maxHeartbeats 4000000 in
theorem hh_X4_isSimple : bX4_isSimple.map hpf = hX4_isSimple := rfl
set_option maxRecDepth 100000 in
set_option maxHeartbeats 4000000 in
theorem hh_X4_hasSize : bX4_hasSize.map hpf = hX4_hasSize := rfl
set_option maxRecDepth 100000 in
set_option maxHeartbeats 4000000 in
theorem hh_X4_hasBits : bX4_hasBits.map hpf = hX4_hasBits := rfl
set_option maxRecDepth 100000 in
set_option maxHeartbeats 4000000 in
theorem hh_X4_mask : bX4_mask.map hpf = hX4_mask := rfl
set_option maxRecDepth 100000 in
set_option maxHeartbeats 4000000 in
theorem hh_X4_maskOf : bX4_maskOf.map hpf = hX4_maskOf := rfl
set_option maxRecDepth 100000 in
set_option maxHeartbeats 4000000 in
theorem hh_X4_maskNamed : bX4_maskNamed.map hpf = hX4_maskNamed := rfl
set_option maxRecDepth 100000 in
set_option maxHeartbeats 4000000 in
theorem hh_X4_maskControl : bX4_maskControl.map hpf = hX4_maskControl := rfl
set_option maxRecDepth 100000 in
set_option maxHeartbeats 4000000 in
theorem hh_X4_sized : bX4_sized.map hpf = hX4_sized := rfl
set_option maxRecDepth 100000 in
set_option maxHeartbeats 4000000 in
theorem hh_X4_withBits : bX4_withBits.map hpf = hX4_withBits := rfl
set_option maxRecDepth 100000 in
set_option maxHeartbeats 4000000 in
theorem hh_X4_maskLeaf : bX4_maskLeaf.map hpf = hX4_maskLeaf := rfl
set_option maxRecDepth 100000 in
set_option maxHeartbeats 4000000 in
theorem hh_X4_numberOf : bX4_numberOf.map hpf = hX4_numberOf := rfl
set_option maxRecDepth 100000 in
set_option maxHeartbeats 4000000 in
theorem hh_X4_range : bX4_range.map hpf = hX4_range := rfl
set_option maxRecDepth 100000 in
theorem hhk_4 : dBs_4.map (Option.map (List.map hpf)) = hBs_4 := hhc hh_X3_choicesOf (hhc hh_X3_giveTo (hhc hh_X4_init (hhc hh_X4_obey (hhc hh_X4_isSo (hhc hh_X4_isTag (hhc hh_X4_compares (hhc hh_X4_isNumber (hhc hh_X4_inRange (hhc hh_X4_compare (hhc hh_X4_hasBytes (hhc hh_X4_isSimple (hhc hh_X4_hasSize (hhc hh_X4_hasBits (hhc hh_X4_mask (hhc hh_X4_maskOf (hhc hh_X4_maskNamed (hhc hh_X4_maskControl (hhc hh_X4_sized (hhc hh_X4_withBits (hhc hh_X4_maskLeaf (hhc hh_X4_numberOf (hhc hh_X4_range (rfl)))))))))))))))))))))))
set_option maxRecDepth 100000 in
set_option maxHeartbeats 4000000 in
theorem hh_X5_init : bX5_init.map hpf = hX5_init := rfl
set_option maxRecDepth 100000 in
set_option maxHeartbeats 4000000 in
theorem hh_X5_firstLoop : bX5_firstLoop.map hpf = hX5_firstLoop := rfl
set_option maxRecDepth 100000 in
set_option maxHeartbeats 4000000 in
theorem hh_X5_meetsItself : bX5_meetsItself.map hpf = hX5_meetsItself := rfl
set_option maxRecDepth 100000 in
set_option maxHeartbeats 4000000 in
theorem hh_X5_ownBox : bX5_ownBox.map hpf = hX5_ownBox := rfl
set_option maxRecDepth 100000 in
set_option maxHeartbeats 4000000 in
theorem hh_X5_context : bX5_context.map hpf = hX5_context := rfl
set_option maxRecDepth 100000 in
set_option maxHeartbeats 4000000 in
theorem hh_X5_reach : bX5_reach.map hpf = hX5_reach := rfl
set_option maxRecDepth 100000 in
set_option maxHeartbeats 4000000 in
theorem hh_X5_see : bX5_see.map hpf = hX5_see := rfl
set_option maxRecDepth 100000 in
set_option maxHeartbeats 4000000 in
theorem hh_X5_leadOn : bX5_leadOn.map hpf = hX5_leadOn := rfl
set_option maxRecDepth 100000 in
set_option maxHeartbeats 4000000 in
theorem hh_X5_leadOnIn : bX5_leadOnIn.map hpf = hX5_leadOnIn := rfl
set_option maxRecDepth 100000 in
set_option maxHeartbeats 4000000 in
theorem hh_X5_groupsTooLarge : bX5_groupsTooLarge.map hpf = hX5_groupsTooLarge := rfl
set_option maxRecDepth 100000 in
set_option maxHeartbeats 4000000 in
theorem hh_X5_countEntry : bX5_countEntry.map hpf = hX5_countEntry := rfl
set_option maxRecDepth 100000 in
set_option maxHeartbeats 4000000 in
theorem hh_X5_countWithin : bX5_countWithin.map hpf = hX5_countWithin := rfl
set_option maxRecDepth 100000 in
set_option maxHeartbeats 4000000 in
theorem hh_X5_weigh : bX5_weigh.map hpf = hX5_weigh := rfl
set_option maxRecDepth 100000 in
set_option maxHeartbeats 4000000 in
theorem hh_X5_markTied : bX5_markTied.map hpf = hX5_markTied := rfl
set_option maxRecDepth 100000 in
set_option maxHeartbeats 4000000 in
theorem hh_X5_tiesOf : bX5_tiesOf.map hpf = hX5_tiesOf := rfl
set_option maxRecDepth 100000 in
set_option maxHeartbeats 4000000 in
theorem hh_X5_placeEntries : bX5_placeEntries.map hpf = hX5_placeEntries := rfl
set_option maxRecDepth 100000 in
set_option maxHeartbeats 4000000 in
theorem hh_X5_pathsTooLong : bX5_pathsTooLong.map hpf = hX5_pathsTooLong := rfl
set_option maxRecDepth 100000 in
set_option maxHeartbeats 4000000 in
theorem hh_X5_raise : bX5_raise.map hpf = hX5_raise := rfl
set_option maxRecDepth 100000 in
set_option maxHeartbeats 4000000 in
theorem hh_X5_measure : bX5_measure.map hpf = hX5_measure := rfl
set_option maxRecDepth 100000 in
set_option maxHeartbeats 4000000 in
theorem hh_X5_measureArguments : bX5_measureArguments.map hpf = hX5_measureArguments := rfl
set_option maxRecDepth 100000 in
set_option maxHeartbeats 4000000 in
theorem hh_X5_pathTo : bX5_pathTo.map hpf = hX5_pathTo := rfl
set_option maxRecDepth 100000 in
set_option maxHeartbeats 4000000 in
theorem hh_X5_behindName : bX5_behindName.map hpf = hX5_behindName := rfl
set_option maxRecDepth 100000 in
set_option maxHeartbeats 4000000 in
theorem hh_X6_init : bX6_init.map hpf = hX6_init := rfl
set_option maxRecDepth 100000 in
theorem hhk_5 : dBs_5.map (Option.map (List.map hpf)) = hBs_5 := hhc hh_X5_init (hhc hh_X5_firstLoop (hhc hh_X5_meetsItself (hhc hh_X5_ownBox (hhc hh_X5_context (hhc hh_X5_reach (hhc hh_X5_see (hhc hh_X5_leadOn (hhc hh_X5_leadOnIn (hhc hh_X5_groupsTooLarge (hhc hh_X5_countEntry (hhc hh_X5_countWithin (hhc hh_X5_weigh (hhc hh_X5_markTied (hhc hh_X5_tiesOf (hhc hh_X5_placeEntries (hhc hh_X5_pathsTooLong (hhc hh_X5_raise (hhc hh_X5_measure (hhc hh_X5_measureArguments (hhc hh_X5_pathTo (hhc hh_X5_behindName (hhc hh_X6_init (rfl)))))))))))))))))))))))
set_option maxRecDepth 100000 in
set_option maxHeartbeats 4000000 in
theorem hh_X6_renew : bX6_renew.map hpf = hX6_renew := rfl
set_option maxRecDepth 100000 in
set_option maxHeartbeats 4000000 in
theorem hh_X6_key : bX6_key.map hpf = hX6_key := rfl
set_option maxRecDepth 100000 in
set_option maxHeartbeats 4000000 in
theorem hh_X6_find : bX6_find.map hpf = hX6_find := rfl
set_option maxRecDepth 100000 in
set_option maxHeartbeats 4000000 in
theorem hh_X6_keep : bX6_keep.map hpf = hX6_keep := rfl
set_option maxRecDepth 100000 in
set_option maxHeartbeats 4000000 in
theorem hh_X6_settle : bX6_settle.map hpf = hX6_settle := rfl
set_option maxRecDepth 100000 in
set_option maxHeartbeats 4000000 in
theorem hh_X6_grow : bX6_grow.map hpf = hX6_grow := rfl
set_option maxRecDepth 100000 in
set_option maxHeartbeats 4000000 in
theorem hh_X6_slot : bX6_slot.map hpf = hX6_slot := rfl
set_option maxRecDepth 100000 in
set_option maxHeartbeats 4000000 in
theorem hh_X7_init : bX7_init.map hpf = hX7_init := rfl
set_option maxRecDepth 100000 in
set_option maxHeartbeats 4000000 in
theorem hh_X7_failedToken : bX7_failedToken.map hpf = hX7_failedToken := rfl
set_option maxRecDepth 100000 in
set_option maxHeartbeats 4000000 in
theorem hh_X7_readRules : bX7_readRules.map hpf = hX7_readRules := rfl
set_option maxRecDepth 100000 in
set_option maxHeartbeats 4000000 in
theorem hh_X7_peek : bX7_peek.map hpf = hX7_peek := rfl
set_option maxRecDepth 100000 in
set_option maxHeartbeats 4000000 in
theorem hh_X7_fail : bX7_fail.map hpf = hX7_fail := rfl
set_option maxRecDepth 100000 in
set_option maxHeartbeats 4000000 in
theorem hh_X7_take : bX7_take.map hpf = hX7_take := rfl
set_option maxRecDepth 100000 in
set_option maxHeartbeats 4000000 in
theorem hh_X7_grow : bX7_grow.map hpf = hX7_grow := rfl
set_option maxRecDepth 100000 in
set_option maxHeartbeats 4000000 in
theorem hh_X7_readStatement : bX7_readStatement.map hpf = hX7_readStatement := rfl
set_option maxRecDepth 100000 in
set_option maxHeartbeats 4000000 in
theorem hh_X7_beginsBody : bX7_beginsBody.map hpf = hX7_beginsBody := rfl
set_option maxRecDepth 100000 in
set_option maxHeartbeats 4000000 in
theorem hh_X7_behindParams : bX7_behindParams.map hpf = hX7_behindParams := rfl
set_option maxRecDepth 100000 in
set_option maxHeartbeats 4000000 in
theorem hh_X7_atStatementEnd : bX7_atStatementEnd.map hpf = hX7_atStatementEnd := rfl
set_option maxRecDepth 100000 in
set_option maxHeartbeats 4000000 in
theorem hh_X7_readTypeBody : bX7_readTypeBody.map hpf = hX7_readTypeBody := rfl
set_option maxRecDepth 100000 in
set_option maxHeartbeats 4000000 in
theorem hh_X7_goBack : bX7_goBack.map hpf = hX7_goBack := rfl
set_option maxRecDepth 100000 in
set_option maxHeartbeats 4000000 in
theorem hh_X7_readType : bX7_readType.map hpf = hX7_readType := rfl
set_option maxRecDepth 100000 in
set_option maxHeartbeats 4000000 in
theorem hh_X7_readChoices : bX7_readChoices.map hpf = hX7_readChoices := rfl
set_option maxRecDepth 100000 in
set_option maxHeartbeats 4000000 in
theorem hh_X7_readType1 : bX7_readType1.map hpf = hX7_readType1 := rfl
set_option maxRecDepth 100000 in
theorem hhk_6 : dBs_6.map (Option.map (List.map hpf)) = hBs_6 := hhc hh_X6_renew (hhc hh_X6_key (hhc hh_X6_find (hhc hh_X6_keep (hhc hh_X6_settle (hhc hh_X6_grow (hhc hh_X6_slot (hhc hh_X7_init (hhc hh_X7_failedToken (hhc hh_X7_readRules (hhc hh_X7_peek (hhc hh_X7_fail (hhc hh_X7_take (hhc hh_X7_grow (hhc hh_X7_readStatement (hhc hh_X7_beginsBody (hhc hh_X7_behindParams (hhc hh_X7_atStatementEnd (hhc hh_X7_readTypeBody (hhc hh_X7_goBack (hhc hh_X7_readType (hhc hh_X7_readChoices (hhc hh_X7_readType1 (rfl)))))))))))))))))))))))
set_option maxRecDepth 100000 in
set_option maxHeartbeats 4000000 in
theorem hh_X7_joined : bX7_joined.map hpf = hX7_joined := rfl
set_option maxRecDepth 100000 in
set_option maxHeartbeats 4000000 in
theorem hh_X7_controlNamed : bX7_controlNamed.map hpf = hX7_controlNamed := rfl
set_option maxRecDepth 100000 in
set_option maxHeartbeats 4000000 in
theorem hh_X7_readType2 : bX7_readType2.map hpf = hX7_readType2 := rfl
set_option maxRecDepth 100000 in
set_option maxHeartbeats 4000000 in
theorem hh_X7_readParen : bX7_readParen.map hpf = hX7_readParen := rfl
set_option maxRecDepth 100000 in
set_option maxHeartbeats 4000000 in
theorem hh_X7_readBox : bX7_readBox.map hpf = hX7_readBox := rfl
set_option maxRecDepth 100000 in
set_option maxHeartbeats 4000000 in
theorem hh_X7_readAndGroup : bX7_readAndGroup.map hpf = hX7_readAndGroup := rfl
set_option maxRecDepth 100000 in
set_option maxHeartbeats 4000000 in
theorem hh_X7_readHash : bX7_readHash.map hpf = hX7_readHash := rfl
set_option maxRecDepth 100000 in
set_option maxHeartbeats 4000000 in
theorem hh_X7_readName : bX7_readName.map hpf = hX7_readName := rfl
set_option maxRecDepth 100000 in
set_option maxHeartbeats 4000000 in
theorem hh_X7_readArgument : bX7_readArgument.map hpf = hX7_readArgument := rfl
set_option maxRecDepth 100000 in
set_option maxHeartbeats 4000000 in
theorem hh_X7_readGroup : bX7_readGroup.map hpf = hX7_readGroup := rfl
set_option maxRecDepth 100000 in
set_option maxHeartbeats 4000000 in
theorem hh_X7_readEntries : bX7_readEntries.map hpf = hX7_readEntries := rfl
set_option maxRecDepth 100000 in
set_option maxHeartbeats 4000000 in
theorem hh_X7_beginsEntry : bX7_beginsEntry.map hpf = hX7_beginsEntry := rfl
set_option maxRecDepth 100000 in
set_option maxHeartbeats 4000000 in
theorem hh_X7_readEntry : bX7_readEntry.map hpf = hX7_readEntry := rfl
set_option maxRecDepth 100000 in
set_option maxHeartbeats 4000000 in
theorem hh_X7_isOnlyGroup : bX7_isOnlyGroup.map hpf = hX7_isOnlyGroup := rfl
set_option maxRecDepth 100000 in
set_option maxHeartbeats 4000000 in
theorem hh_X7_noteOnlyGroup : bX7_noteOnlyGroup.map hpf = hX7_noteOnlyGroup := rfl
set_option maxRecDepth 100000 in
set_option maxHeartbeats 4000000 in
theorem hh_X7_readTyped : bX7_readTyped.map hpf = hX7_readTyped := rfl
set_option maxRecDepth 100000 in
set_option maxHeartbeats 4000000 in
theorem hh_X7_readShortKey : bX7_readShortKey.map hpf = hX7_readShortKey := rfl
set_option maxRecDepth 100000 in
set_option maxHeartbeats 4000000 in
theorem hh_X8_init : bX8_init.map hpf = hX8_init := rfl
set_option maxRecDepth 100000 in
set_option maxHeartbeats 4000000 in
theorem hh_X8_keepPrelude : bX8_keepPrelude.map hpf = hX8_keepPrelude := rfl
set_option maxRecDepth 100000 in
set_option maxHeartbeats 4000000 in
theorem hh_X8_begin : bX8_begin.map hpf = hX8_begin := rfl
set_option maxRecDepth 100000 in
set_option maxHeartbeats 4000000 in
theorem hh_X8_addStatement : bX8_addStatement.map hpf = hX8_addStatement := rfl
set_option maxRecDepth 100000 in
set_option maxHeartbeats 4000000 in
theorem hh_X8_addRule : bX8_addRule.map hpf = hX8_addRule := rfl
set_option maxRecDepth 100000 in
set_option maxHeartbeats 4000000 in
theorem hh_X8_ownRules : bX8_ownRules.map hpf = hX8_ownRules := rfl
set_option maxRecDepth 100000 in
theorem hhk_7 : dBs_7.map (Option.map (List.map hpf)) = hBs_7 := hhc hh_X7_joined (hhc hh_X7_controlNamed (hhc hh_X7_readType2 (hhc hh_X7_readParen (hhc hh_X7_readBox (hhc hh_X7_readAndGroup (hhc hh_X7_readHash (hhc hh_X7_readName (hhc hh_X7_readArgument (hhc hh_X7_readGroup (hhc hh_X7_readEntries (hhc hh_X7_beginsEntry (hhc hh_X7_readEntry (hhc hh_X7_isOnlyGroup (hhc hh_X7_noteOnlyGroup (hhc hh_X7_readTyped (hhc hh_X7_readShortKey (hhc hh_X8_init (hhc hh_X8_keepPrelude (hhc hh_X8_begin (hhc hh_X8_addStatement (hhc hh_X8_addRule (hhc hh_X8_ownRules (rfl)))))))))))))))))))))))
set_option maxRecDepth 100000 in
set_option maxHeartbeats 4000000 in
theorem hh_X8_numbered : bX8_numbered.map hpf = hX8_numbered := rfl
set_option maxRecDepth 100000 in
set_option maxHeartbeats 4000000 in
theorem hh_X8_firstNode : bX8_firstNode.map hpf = hX8_firstNode := rfl
set_option maxRecDepth 100000 in
set_option maxHeartbeats 4000000 in
theorem hh_X8_endNode : bX8_endNode.map hpf = hX8_endNode := rfl
set_option maxRecDepth 100000 in
set_option maxHeartbeats 4000000 in
theorem hh_X8_headOf : bX8_headOf.map hpf = hX8_headOf := rfl
set_option maxRecDepth 100000 in
set_option maxHeartbeats 4000000 in
theorem hh_X8_paramsOf : bX8_paramsOf.map hpf = hX8_paramsOf := rfl
set_option maxRecDepth 100000 in
set_option maxHeartbeats 4000000 in
theorem hh_X8_isRule : bX8_isRule.map hpf = hX8_isRule := rfl
set_option maxRecDepth 100000 in
set_option maxHeartbeats 4000000 in
theorem hh_X8_isOwn : bX8_isOwn.map hpf = hX8_isOwn := rfl
set_option maxRecDepth 100000 in
set_option maxHeartbeats 4000000 in
theorem hh_X8_isGroup : bX8_isGroup.map hpf = hX8_isGroup := rfl
set_option maxRecDepth 100000 in
set_option maxHeartbeats 4000000 in
theorem hh_X8_ruleOfNode : bX8_ruleOfNode.map hpf = hX8_ruleOfNode := rfl
set_option maxRecDepth 100000 in
set_option maxHeartbeats 4000000 in
theorem hh_X8_paramToken : bX8_paramToken.map hpf = hX8_paramToken := rfl
set_option maxRecDepth 100000 in
set_option maxHeartbeats 4000000 in
theorem hh_X8_ruleNamed : bX8_ruleNamed.map hpf = hX8_ruleNamed := rfl
set_option maxRecDepth 100000 in
set_option maxHeartbeats 4000000 in
theorem hh_X8_paramNamed : bX8_paramNamed.map hpf = hX8_paramNamed := rfl
set_option maxRecDepth 100000 in
set_option maxHeartbeats 4000000 in
theorem hh_X8_target : bX8_target.map hpf = hX8_target := rfl
set_option maxRecDepth 100000 in
set_option maxHeartbeats 4000000 in
theorem hh_X8_single : bX8_single.map hpf = hX8_single := rfl
set_option maxRecDepth 100000 in
set_option maxHeartbeats 4000000 in
theorem hh_X8_box : bX8_box.map hpf = hX8_box := rfl
set_option maxRecDepth 100000 in
set_option maxHeartbeats 4000000 in
theorem hh_X8_least : bX8_least.map hpf = hX8_least := rfl
set_option maxRecDepth 100000 in
set_option maxHeartbeats 4000000 in
theorem hh_X8_most : bX8_most.map hpf = hX8_most := rfl
set_option maxRecDepth 100000 in
set_option maxHeartbeats 4000000 in
theorem hh_X9_init : bX9_init.map hpf = hX9_init := rfl
set_option maxRecDepth 100000 in
set_option maxHeartbeats 4000000 in
theorem hh_X9_cutPrelude : bX9_cutPrelude.map hpf = hX9_cutPrelude := rfl
set_option maxRecDepth 100000 in
set_option maxHeartbeats 4000000 in
theorem hh_X9_cutOwn : bX9_cutOwn.map hpf = hX9_cutOwn := rfl
set_option maxRecDepth 100000 in
set_option maxHeartbeats 4000000 in
theorem hh_X9_kindOf : bX9_kindOf.map hpf = hX9_kindOf := rfl
set_option maxRecDepth 100000 in
set_option maxHeartbeats 4000000 in
theorem hh_X9_placeOf : bX9_placeOf.map hpf = hX9_placeOf := rfl
set_option maxRecDepth 100000 in
set_option maxHeartbeats 4000000 in
theorem hh_X9_lastToken : bX9_lastToken.map hpf = hX9_lastToken := rfl
set_option maxRecDepth 100000 in
theorem hhk_8 : dBs_8.map (Option.map (List.map hpf)) = hBs_8 := hhc hh_X8_numbered (hhc hh_X8_firstNode (hhc hh_X8_endNode (hhc hh_X8_headOf (hhc hh_X8_paramsOf (hhc hh_X8_isRule (hhc hh_X8_isOwn (hhc hh_X8_isGroup (hhc hh_X8_ruleOfNode (hhc hh_X8_paramToken (hhc hh_X8_ruleNamed (hhc hh_X8_paramNamed (hhc hh_X8_target (hhc hh_X8_single (hhc hh_X8_box (hhc hh_X8_least (hhc hh_X8_most (hhc hh_X9_init (hhc hh_X9_cutPrelude (hhc hh_X9_cutOwn (hhc hh_X9_kindOf (hhc hh_X9_placeOf (hhc hh_X9_lastToken (rfl)))))))))))))))))))))))
set_option maxRecDepth 100000 in
set_option maxHeartbeats 4000000 in
theorem hh_X9_bodyByte : bX9_bodyByte.map hpf = hX9_bodyByte := rfl
set_option maxRecDepth 100000 in
set_option maxHeartbeats 4000000 in
theorem hh_X9_sameBody : bX9_sameBody.map hpf = hX9_sameBody := rfl
set_option maxRecDepth 100000 in
set_option maxHeartbeats 4000000 in
theorem hh_X9_isWord : bX9_isWord.map hpf = hX9_isWord := rfl
set_option maxRecDepth 100000 in
set_option maxHeartbeats 4000000 in
theorem hh_X9_load : bX9_load.map hpf = hX9_load := rfl
set_option maxRecDepth 100000 in
set_option maxHeartbeats 4000000 in
theorem hh_X9_cut : bX9_cut.map hpf = hX9_cut := rfl
set_option maxRecDepth 100000 in
set_option maxHeartbeats 4000000 in
theorem hh_X9_add : bX9_add.map hpf = hX9_add := rfl
set_option maxRecDepth 100000 in
set_option maxHeartbeats 4000000 in
theorem hh_X9_opensTooMuch : bX9_opensTooMuch.map hpf = hX9_opensTooMuch := rfl
set_option maxRecDepth 100000 in
set_option maxHeartbeats 4000000 in
theorem hh_X9_look : bX9_look.map hpf = hX9_look := rfl
set_option maxRecDepth 100000 in
set_option maxHeartbeats 4000000 in
theorem hh_X9_behindBlanks : bX9_behindBlanks.map hpf = hX9_behindBlanks := rfl
set_option maxRecDepth 100000 in
set_option maxHeartbeats 4000000 in
theorem hh_X9_one : bX9_one.map hpf = hX9_one := rfl
set_option maxRecDepth 100000 in
set_option maxHeartbeats 4000000 in
theorem hh_X9_sign : bX9_sign.map hpf = hX9_sign := rfl
set_option maxRecDepth 100000 in
set_option maxHeartbeats 4000000 in
theorem hh_X9_dots : bX9_dots.map hpf = hX9_dots := rfl
set_option maxRecDepth 100000 in
set_option maxHeartbeats 4000000 in
theorem hh_X9_slashes : bX9_slashes.map hpf = hX9_slashes := rfl
set_option maxRecDepth 100000 in
set_option maxHeartbeats 4000000 in
theorem hh_X9_named : bX9_named.map hpf = hX9_named := rfl
set_option maxRecDepth 100000 in
set_option maxHeartbeats 4000000 in
theorem hh_X9_numberAt : bX9_numberAt.map hpf = hX9_numberAt := rfl
set_option maxRecDepth 100000 in
set_option maxHeartbeats 4000000 in
theorem hh_X9_occur : bX9_occur.map hpf = hX9_occur := rfl
set_option maxRecDepth 100000 in
set_option maxHeartbeats 4000000 in
theorem hh_X9_anOccur : bX9_anOccur.map hpf = hX9_anOccur := rfl
set_option maxRecDepth 100000 in
set_option maxHeartbeats 4000000 in
theorem hh_X9_hash : bX9_hash.map hpf = hX9_hash := rfl
set_option maxRecDepth 100000 in
set_option maxHeartbeats 4000000 in
theorem hh_X9_behindUint : bX9_behindUint.map hpf = hX9_behindUint := rfl
set_option maxRecDepth 100000 in
set_option maxHeartbeats 4000000 in
theorem hh_X9_behindZero : bX9_behindZero.map hpf = hX9_behindZero := rfl
set_option maxRecDepth 100000 in
set_option maxHeartbeats 4000000 in
theorem hh_X9_behindDigits : bX9_behindDigits.map hpf = hX9_behindDigits := rfl
set_option maxRecDepth 100000 in
set_option maxHeartbeats 4000000 in
theorem hh_X9_mostBefore : bX9_mostBefore.map hpf = hX9_mostBefore := rfl
set_option maxRecDepth 100000 in
set_option maxHeartbeats 4000000 in
theorem hh_X9_behindFloat : bX9_behindFloat.map hpf = hX9_behindFloat := rfl
set_option maxRecDepth 100000 in
theorem hhk_9 : dBs_9.map (Option.map (List.map hpf)) = hBs_9 := hhc hh_X9_bodyByte (hhc hh_X9_sameBody (hhc hh_X9_isWord (hhc hh_X9_load (hhc hh_X9_cut (hhc hh_X9_add (hhc hh_X9_opensTooMuch (hhc hh_X9_look (hhc hh_X9_behindBlanks (hhc hh_X9_one (hhc hh_X9_sign (hhc hh_X9_dots (hhc hh_X9_slashes (hhc hh_X9_named (hhc hh_X9_numberAt (hhc hh_X9_occur (hhc hh_X9_anOccur (hhc hh_X9_hash (hhc hh_X9_behindUint (hhc hh_X9_behindZero (hhc hh_X9_behindDigits (hhc hh_X9_mostBefore (hhc hh_X9_behindFloat (rfl)))))))))))))))))))))))
set_option maxRecDepth 100000 in
set_option maxHeartbeats 4000000 in
theorem hh_X9_behindPlain : bX9_behindPlain.map hpf = hX9_behindPlain := rfl
set_option maxRecDepth 100000 in
set_option maxHeartbeats 4000000 in
theorem hh_X9_quoted : bX9_quoted.map hpf = hX9_quoted := rfl
set_option maxRecDepth 100000 in
set_option maxHeartbeats 4000000 in
theorem hh_X9_hexBytes : bX9_hexBytes.map hpf = hX9_hexBytes := rfl
set_option maxRecDepth 100000 in
set_option maxHeartbeats 4000000 in
theorem hh_X9_closed : bX9_closed.map hpf = hX9_closed := rfl
set_option maxRecDepth 100000 in
set_option maxHeartbeats 4000000 in
theorem hh_X9_addBody : bX9_addBody.map hpf = hX9_addBody := rfl
set_option maxRecDepth 100000 in
set_option maxHeartbeats 4000000 in
theorem hh_X9_escaped : bX9_escaped.map hpf = hX9_escaped := rfl
set_option maxRecDepth 100000 in
set_option maxHeartbeats 4000000 in
theorem hh_X9_isDigit : bX9_isDigit.map hpf = hX9_isDigit := rfl
set_option maxRecDepth 100000 in
set_option maxHeartbeats 4000000 in
theorem hh_X9_digit : bX9_digit.map hpf = hX9_digit := rfl
set_option maxRecDepth 100000 in
set_option maxHeartbeats 4000000 in
theorem hh_X9_sticks : bX9_sticks.map hpf = hX9_sticks := rfl
set_option maxRecDepth 100000 in
set_option maxHeartbeats 4000000 in
theorem hh_X9_startsName : bX9_startsName.map hpf = hX9_startsName := rfl
set_option maxRecDepth 100000 in
set_option maxHeartbeats 4000000 in
theorem hh_X9_goesOnName : bX9_goesOnName.map hpf = hX9_goesOnName := rfl
set_option maxRecDepth 100000 in
set_option maxHeartbeats 4000000 in
theorem hh_X10_init : bX10_init.map hpf = hX10_init := rfl
set_option maxRecDepth 100000 in
set_option maxHeartbeats 4000000 in
theorem hh_X10_add : bX10_add.map hpf = hX10_add := rfl
set_option maxRecDepth 100000 in
set_option maxHeartbeats 4000000 in
theorem hh_X10_kindOf : bX10_kindOf.map hpf = hX10_kindOf := rfl
set_option maxRecDepth 100000 in
set_option maxHeartbeats 4000000 in
theorem hh_X10_nextOf : bX10_nextOf.map hpf = hX10_nextOf := rfl
set_option maxRecDepth 100000 in
set_option maxHeartbeats 4000000 in
theorem hh_X10_firstOf : bX10_firstOf.map hpf = hX10_firstOf := rfl
set_option maxRecDepth 100000 in
set_option maxHeartbeats 4000000 in
theorem hh_X10_secondOf : bX10_secondOf.map hpf = hX10_secondOf := rfl
set_option maxRecDepth 100000 in
set_option maxHeartbeats 4000000 in
theorem hh_X10_chainIn : bX10_chainIn.map hpf = hX10_chainIn := rfl
set_option maxRecDepth 100000 in
set_option maxHeartbeats 4000000 in
theorem hh_X10_aloneIn : bX10_aloneIn.map hpf = hX10_aloneIn := rfl
set_option maxRecDepth 100000 in
set_option maxHeartbeats 4000000 in
theorem hh_X10_isName : bX10_isName.map hpf = hX10_isName := rfl
set_option maxRecDepth 100000 in
set_option maxHeartbeats 4000000 in
theorem hh_X10_isEntry : bX10_isEntry.map hpf = hX10_isEntry := rfl
set_option maxRecDepth 100000 in
set_option maxHeartbeats 4000000 in
theorem hh_X10_nameToken : bX10_nameToken.map hpf = hX10_nameToken := rfl
set_option maxRecDepth 100000 in
set_option maxHeartbeats 4000000 in
theorem hh_X10_append : bX10_append.map hpf = hX10_append := rfl
set_option maxRecDepth 100000 in
theorem hhk_10 : dBs_10.map (Option.map (List.map hpf)) = hBs_10 := hhc hh_X9_behindPlain (hhc hh_X9_quoted (hhc hh_X9_hexBytes (hhc hh_X9_closed (hhc hh_X9_addBody (hhc hh_X9_escaped (hhc hh_X9_isDigit (hhc hh_X9_digit (hhc hh_X9_sticks (hhc hh_X9_startsName (hhc hh_X9_goesOnName (hhc hh_X10_init (hhc hh_X10_add (hhc hh_X10_kindOf (hhc hh_X10_nextOf (hhc hh_X10_firstOf (hhc hh_X10_secondOf (hhc hh_X10_chainIn (hhc hh_X10_aloneIn (hhc hh_X10_isName (hhc hh_X10_isEntry (hhc hh_X10_nameToken (hhc hh_X10_append (rfl)))))))))))))))))))))))
set_option maxRecDepth 100000 in
set_option maxHeartbeats 4000000 in
theorem hh_X10_length : bX10_length.map hpf = hX10_length := rfl
set_option maxRecDepth 100000 in
set_option maxHeartbeats 4000000 in
theorem hh_X11_init : bX11_init.map hpf = hX11_init := rfl
set_option maxRecDepth 100000 in
set_option maxHeartbeats 4000000 in
theorem hh_X12_init : bX12_init.map hpf = hX12_init := rfl
set_option maxRecDepth 100000 in
set_option maxHeartbeats 4000000 in
theorem hh_X12_feed : bX12_feed.map hpf = hX12_feed := rfl
set_option maxRecDepth 100000 in
set_option maxHeartbeats 4000000 in
theorem hh_X12_end : bX12_end.map hpf = hX12_end := rfl
set_option maxRecDepth 100000 in
set_option maxHeartbeats 4000000 in
theorem hh_X12_grammar : bX12_grammar.map hpf = hX12_grammar := rfl
set_option maxRecDepth 100000 in
set_option maxHeartbeats 4000000 in
theorem hh_X12_item : bX12_item.map hpf = hX12_item := rfl
set_option maxRecDepth 100000 in
set_option maxHeartbeats 4000000 in
theorem hh_X12_node : bX12_node.map hpf = hX12_node := rfl
set_option maxRecDepth 100000 in
set_option maxHeartbeats 4000000 in
theorem hh_X12_judge : bX12_judge.map hpf = hX12_judge := rfl
set_option maxRecDepth 100000 in
set_option maxHeartbeats 4000000 in
theorem hh_X12_feedNumber : bX12_feedNumber.map hpf = hX12_feedNumber := rfl
set_option maxRecDepth 100000 in
set_option maxHeartbeats 4000000 in
theorem hh_X12_faulty : bX12_faulty.map hpf = hX12_faulty := rfl
set_option maxRecDepth 100000 in
set_option maxHeartbeats 4000000 in
theorem hh_X12_at : bX12_at.map hpf = hX12_at := rfl
set_option maxRecDepth 100000 in
set_option maxHeartbeats 4000000 in
theorem hh_X12_put : bX12_put.map hpf = hX12_put := rfl
set_option maxRecDepth 100000 in
set_option maxHeartbeats 4000000 in
theorem hh_X12_longAt : bX12_longAt.map hpf = hX12_longAt := rfl
set_option maxRecDepth 100000 in
set_option maxHeartbeats 4000000 in
theorem hh_X12_putLong : bX12_putLong.map hpf = hX12_putLong := rfl
set_option maxRecDepth 100000 in
set_option maxHeartbeats 4000000 in
theorem hh_X12_byteAt : bX12_byteAt.map hpf = hX12_byteAt := rfl
set_option maxRecDepth 100000 in
set_option maxHeartbeats 4000000 in
theorem hh_X12_putByte : bX12_putByte.map hpf = hX12_putByte := rfl
set_option maxRecDepth 100000 in
set_option maxHeartbeats 4000000 in
theorem hh_X12_copy : bX12_copy.map hpf = hX12_copy := rfl
set_option maxRecDepth 100000 in
set_option maxHeartbeats 4000000 in
theorem hh_X12_below : bX12_below.map hpf = hX12_below := rfl
set_option maxRecDepth 100000 in
set_option maxHeartbeats 4000000 in
theorem hh_L_put : bL_put.map hpf = hL_put := rfl
set_option maxRecDepth 100000 in
set_option maxHeartbeats 4000000 in
theorem hh_L_close : bL_close.map hpf = hL_close := rfl
set_option maxRecDepth 100000 in
set_option maxHeartbeats 4000000 in
theorem hh_L_law : bL_law.map hpf = hL_law := rfl
set_option maxRecDepth 100000 in
theorem hhk_11 : dBs_11.map (Option.map (List.map hpf)) = hBs_11 := hhc hh_X10_length (hhc hh_X11_init (hhc hh_X12_init (hhc hh_X12_feed (hhc hh_X12_end (hhc hh_X12_grammar (hhc hh_X12_item (hhc hh_X12_node (hhc hh_X12_judge (hhc hh_X12_feedNumber (hhc hh_X12_faulty (hhc hh_X12_at (hhc hh_X12_put (hhc hh_X12_longAt (hhc hh_X12_putLong (hhc hh_X12_byteAt (hhc hh_X12_putByte (hhc hh_X12_copy (hhc hh_X12_below (hhc hh_L_put (hhc hh_L_close (hhc hh_L_law (rfl))))))))))))))))))))))
theorem hBs_eq : ∀ j : Nat, hBs[j]? = (dBs[j]?).map (List.map (Option.map (List.map hpf))) := fun j => match j with
  | 0 => congrArg some hhk_0.symm
  | 1 => congrArg some hhk_1.symm
  | 2 => congrArg some hhk_2.symm
  | 3 => congrArg some hhk_3.symm
  | 4 => congrArg some hhk_4.symm
  | 5 => congrArg some hhk_5.symm
  | 6 => congrArg some hhk_6.symm
  | 7 => congrArg some hhk_7.symm
  | 8 => congrArg some hhk_8.symm
  | 9 => congrArg some hhk_9.symm
  | 10 => congrArg some hhk_10.symm
  | 11 => congrArg some hhk_11.symm
  | _ + 12 => rfl
theorem hblk_to (b : List (Nat × List dI)) (pc : Nat) {hl : List sHi} (h : hblk (b.map hpf) pc = some hl) : ∃ is, dalk b pc = some is ∧ hl = is.map hxf := by
  induction b with
  | nil => cases h
  | cons a t ih =>
    have h2 : cond (Nat.beq a.1 pc) (some (a.2.map hxf)) (hblk (t.map hpf) pc) = some hl := h
    show ∃ is, cond (Nat.beq a.1 pc) (some a.2) (dalk t pc) = some is ∧ hl = is.map hxf
    cases e : Nat.beq a.1 pc
    · rw [e] at h2
      exact ih h2
    · rw [e] at h2
      exact ⟨a.2, rfl, (Option.some.inj h2).symm⟩
theorem pghm_ok (y pc : Nat) (hl : List sHi) (h : pghm y pc = some hl) : ∃ is, pgm y pc = some is ∧ hl = is.map hxf := by
  unfold pghm pghY at h
  unfold pgm pgY
  rw [nth_eq, hBs_eq] at h
  rw [nth_eq]
  cases h1 : dBs[Nat.div y 23]? with
  | none => rw [h1] at h; cases h
  | some l =>
    rw [h1] at h
    dsimp only [Option.map_some] at h
    rw [nth_eq, List.getElem?_map] at h
    dsimp only
    rw [nth_eq]
    cases h2 : l[Nat.mod y 23]? with
    | none => rw [h2] at h; cases h
    | some ob =>
      rw [h2] at h
      cases ob with
      | none => cases h
      | some b => exact hblk_to b pc h
