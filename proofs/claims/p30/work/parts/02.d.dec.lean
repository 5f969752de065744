theorem z_X0_init : yX0_init.cls = RX0 ∧ yX0_init.cls ≠ "java/lang/invoke/MethodHandle" ∧ yX0_init.cls ≠ "java/lang/invoke/VarHandle" ∧ (parseMethodDescriptor yX0_init.desc).map (fun d => d.parameters.length) = some 0 := by decide +kernel
theorem z_X0_allInventions : yX0_allInventions.cls = RX0 ∧ yX0_allInventions.cls ≠ "java/lang/invoke/MethodHandle" ∧ yX0_allInventions.cls ≠ "java/lang/invoke/VarHandle" ∧ (parseMethodDescriptor yX0_allInventions.desc).map (fun d => d.parameters.length) = some 1 := by decide +kernel
theorem z_X0_inventedTraits : yX0_inventedTraits.cls = RX0 ∧ yX0_inventedTraits.cls ≠ "java/lang/invoke/MethodHandle" ∧ yX0_inventedTraits.cls ≠ "java/lang/invoke/VarHandle" ∧ (parseMethodDescriptor yX0_inventedTraits.desc).map (fun d => d.parameters.length) = some 1 := by decide +kernel
theorem z_X0_study : yX0_study.cls = RX0 ∧ yX0_study.cls ≠ "java/lang/invoke/MethodHandle" ∧ yX0_study.cls ≠ "java/lang/invoke/VarHandle" ∧ (parseMethodDescriptor yX0_study.desc).map (fun d => d.parameters.length) = some 2 := by decide +kernel
theorem z_X0_takeReports : yX0_takeReports.cls = RX0 ∧ yX0_takeReports.cls ≠ "java/lang/invoke/MethodHandle" ∧ yX0_takeReports.cls ≠ "java/lang/invoke/VarHandle" ∧ (parseMethodDescriptor yX0_takeReports.desc).map (fun d => d.parameters.length) = some 2 := by decide +kernel
theorem z_X0_takeRoads : yX0_takeRoads.cls = RX0 ∧ yX0_takeRoads.cls ≠ "java/lang/invoke/MethodHandle" ∧ yX0_takeRoads.cls ≠ "java/lang/invoke/VarHandle" ∧ (parseMethodDescriptor yX0_takeRoads.desc).map (fun d => d.parameters.length) = some 1 := by decide +kernel
theorem z_X0_explainAlone : yX0_explainAlone.cls = RX0 ∧ yX0_explainAlone.cls ≠ "java/lang/invoke/MethodHandle" ∧ yX0_explainAlone.cls ≠ "java/lang/invoke/VarHandle" ∧ (parseMethodDescriptor yX0_explainAlone.desc).map (fun d => d.parameters.length) = some 0 := by decide +kernel
theorem z_X0_weighSets : yX0_weighSets.cls = RX0 ∧ yX0_weighSets.cls ≠ "java/lang/invoke/MethodHandle" ∧ yX0_weighSets.cls ≠ "java/lang/invoke/VarHandle" ∧ (parseMethodDescriptor yX0_weighSets.desc).map (fun d => d.parameters.length) = some 0 := by decide +kernel
theorem z_X0_weigh : yX0_weigh.cls = RX0 ∧ yX0_weigh.cls ≠ "java/lang/invoke/MethodHandle" ∧ yX0_weigh.cls ≠ "java/lang/invoke/VarHandle" ∧ (parseMethodDescriptor yX0_weigh.desc).map (fun d => d.parameters.length) = some 1 := by decide +kernel
theorem z_X0_inventIn : yX0_inventIn.cls = RX0 ∧ yX0_inventIn.cls ≠ "java/lang/invoke/MethodHandle" ∧ yX0_inventIn.cls ≠ "java/lang/invoke/VarHandle" ∧ (parseMethodDescriptor yX0_inventIn.desc).map (fun d => d.parameters.length) = some 1 := by decide +kernel
theorem z_X0_spread : yX0_spread.cls = RX0 ∧ yX0_spread.cls ≠ "java/lang/invoke/MethodHandle" ∧ yX0_spread.cls ≠ "java/lang/invoke/VarHandle" ∧ (parseMethodDescriptor yX0_spread.desc).map (fun d => d.parameters.length) = some 0 := by decide +kernel
theorem z_X0_passOn : yX0_passOn.cls = RX0 ∧ yX0_passOn.cls ≠ "java/lang/invoke/MethodHandle" ∧ yX0_passOn.cls ≠ "java/lang/invoke/VarHandle" ∧ (parseMethodDescriptor yX0_passOn.desc).map (fun d => d.parameters.length) = some 3 := by decide +kernel
theorem z_X0_knownInTime : yX0_knownInTime.cls = RX0 ∧ yX0_knownInTime.cls ≠ "java/lang/invoke/MethodHandle" ∧ yX0_knownInTime.cls ≠ "java/lang/invoke/VarHandle" ∧ (parseMethodDescriptor yX0_knownInTime.desc).map (fun d => d.parameters.length) = some 0 := by decide +kernel
theorem z_X0_sinceWhen : yX0_sinceWhen.cls = RX0 ∧ yX0_sinceWhen.cls ≠ "java/lang/invoke/MethodHandle" ∧ yX0_sinceWhen.cls ≠ "java/lang/invoke/VarHandle" ∧ (parseMethodDescriptor yX0_sinceWhen.desc).map (fun d => d.parameters.length) = some 3 := by decide +kernel
theorem z_X0_townInOrder : yX0_townInOrder.cls = RX0 ∧ yX0_townInOrder.cls ≠ "java/lang/invoke/MethodHandle" ∧ yX0_townInOrder.cls ≠ "java/lang/invoke/VarHandle" ∧ (parseMethodDescriptor yX0_townInOrder.desc).map (fun d => d.parameters.length) = some 3 := by decide +kernel
theorem z_X0_townsBefore : yX0_townsBefore.cls = RX0 ∧ yX0_townsBefore.cls ≠ "java/lang/invoke/MethodHandle" ∧ yX0_townsBefore.cls ≠ "java/lang/invoke/VarHandle" ∧ (parseMethodDescriptor yX0_townsBefore.desc).map (fun d => d.parameters.length) = some 1 := by decide +kernel
theorem z_X0_canHavePassed : yX0_canHavePassed.cls = RX0 ∧ yX0_canHavePassed.cls ≠ "java/lang/invoke/MethodHandle" ∧ yX0_canHavePassed.cls ≠ "java/lang/invoke/VarHandle" ∧ (parseMethodDescriptor yX0_canHavePassed.desc).map (fun d => d.parameters.length) = some 4 := by decide +kernel
theorem z_X0_explainsByRoad : yX0_explainsByRoad.cls = RX0 ∧ yX0_explainsByRoad.cls ≠ "java/lang/invoke/MethodHandle" ∧ yX0_explainsByRoad.cls ≠ "java/lang/invoke/VarHandle" ∧ (parseMethodDescriptor yX0_explainsByRoad.desc).map (fun d => d.parameters.length) = some 5 := by decide +kernel
theorem z_X1_init : yX1_init.cls = RX1 ∧ yX1_init.cls ≠ "java/lang/invoke/MethodHandle" ∧ yX1_init.cls ≠ "java/lang/invoke/VarHandle" ∧ (parseMethodDescriptor yX1_init.desc).map (fun d => d.parameters.length) = some 0 := by decide +kernel
theorem z_X1_writeTo : yX1_writeTo.cls = RX1 ∧ yX1_writeTo.cls ≠ "java/lang/invoke/MethodHandle" ∧ yX1_writeTo.cls ≠ "java/lang/invoke/VarHandle" ∧ (parseMethodDescriptor yX1_writeTo.desc).map (fun d => d.parameters.length) = some 1 := by decide +kernel
theorem z_X1_readFrom : yX1_readFrom.cls = RX1 ∧ yX1_readFrom.cls ≠ "java/lang/invoke/MethodHandle" ∧ yX1_readFrom.cls ≠ "java/lang/invoke/VarHandle" ∧ (parseMethodDescriptor yX1_readFrom.desc).map (fun d => d.parameters.length) = some 1 := by decide +kernel
theorem z_X1_takeOver : yX1_takeOver.cls = RX1 ∧ yX1_takeOver.cls ≠ "java/lang/invoke/MethodHandle" ∧ yX1_takeOver.cls ≠ "java/lang/invoke/VarHandle" ∧ (parseMethodDescriptor yX1_takeOver.desc).map (fun d => d.parameters.length) = some 1 := by decide +kernel
theorem z_X1_townCount : yX1_townCount.cls = RX1 ∧ yX1_townCount.cls ≠ "java/lang/invoke/MethodHandle" ∧ yX1_townCount.cls ≠ "java/lang/invoke/VarHandle" ∧ (parseMethodDescriptor yX1_townCount.desc).map (fun d => d.parameters.length) = some 0 := by decide +kernel
theorem z_X1_isTown : yX1_isTown.cls = RX1 ∧ yX1_isTown.cls ≠ "java/lang/invoke/MethodHandle" ∧ yX1_isTown.cls ≠ "java/lang/invoke/VarHandle" ∧ (parseMethodDescriptor yX1_isTown.desc).map (fun d => d.parameters.length) = some 1 := by decide +kernel
theorem z_X1_roadLength : yX1_roadLength.cls = RX1 ∧ yX1_roadLength.cls ≠ "java/lang/invoke/MethodHandle" ∧ yX1_roadLength.cls ≠ "java/lang/invoke/VarHandle" ∧ (parseMethodDescriptor yX1_roadLength.desc).map (fun d => d.parameters.length) = some 2 := by decide +kernel
theorem z_X1_roadCount : yX1_roadCount.cls = RX1 ∧ yX1_roadCount.cls ≠ "java/lang/invoke/MethodHandle" ∧ yX1_roadCount.cls ≠ "java/lang/invoke/VarHandle" ∧ (parseMethodDescriptor yX1_roadCount.desc).map (fun d => d.parameters.length) = some 0 := by decide +kernel
theorem z_X1_roadsAt : yX1_roadsAt.cls = RX1 ∧ yX1_roadsAt.cls ≠ "java/lang/invoke/MethodHandle" ∧ yX1_roadsAt.cls ≠ "java/lang/invoke/VarHandle" ∧ (parseMethodDescriptor yX1_roadsAt.desc).map (fun d => d.parameters.length) = some 1 := by decide +kernel
theorem z_X1_townBeside : yX1_townBeside.cls = RX1 ∧ yX1_townBeside.cls ≠ "java/lang/invoke/MethodHandle" ∧ yX1_townBeside.cls ≠ "java/lang/invoke/VarHandle" ∧ (parseMethodDescriptor yX1_townBeside.desc).map (fun d => d.parameters.length) = some 2 := by decide +kernel
theorem z_X1_reportedYear : yX1_reportedYear.cls = RX1 ∧ yX1_reportedYear.cls ≠ "java/lang/invoke/MethodHandle" ∧ yX1_reportedYear.cls ≠ "java/lang/invoke/VarHandle" ∧ (parseMethodDescriptor yX1_reportedYear.desc).map (fun d => d.parameters.length) = some 3 := by decide +kernel
theorem z_X1_isReported : yX1_isReported.cls = RX1 ∧ yX1_isReported.cls ≠ "java/lang/invoke/MethodHandle" ∧ yX1_isReported.cls ≠ "java/lang/invoke/VarHandle" ∧ (parseMethodDescriptor yX1_isReported.desc).map (fun d => d.parameters.length) = some 2 := by decide +kernel
theorem z_X1_isContradicted : yX1_isContradicted.cls = RX1 ∧ yX1_isContradicted.cls ≠ "java/lang/invoke/MethodHandle" ∧ yX1_isContradicted.cls ≠ "java/lang/invoke/VarHandle" ∧ (parseMethodDescriptor yX1_isContradicted.desc).map (fun d => d.parameters.length) = some 2 := by decide +kernel
theorem z_X1_reportedPairs : yX1_reportedPairs.cls = RX1 ∧ yX1_reportedPairs.cls ≠ "java/lang/invoke/MethodHandle" ∧ yX1_reportedPairs.cls ≠ "java/lang/invoke/VarHandle" ∧ (parseMethodDescriptor yX1_reportedPairs.desc).map (fun d => d.parameters.length) = some 0 := by decide +kernel
theorem z_X1_contradictions : yX1_contradictions.cls = RX1 ∧ yX1_contradictions.cls ≠ "java/lang/invoke/MethodHandle" ∧ yX1_contradictions.cls ≠ "java/lang/invoke/VarHandle" ∧ (parseMethodDescriptor yX1_contradictions.desc).map (fun d => d.parameters.length) = some 0 := by decide +kernel
theorem z_X1_canJoin : yX1_canJoin.cls = RX1 ∧ yX1_canJoin.cls ≠ "java/lang/invoke/MethodHandle" ∧ yX1_canJoin.cls ≠ "java/lang/invoke/VarHandle" ∧ (parseMethodDescriptor yX1_canJoin.desc).map (fun d => d.parameters.length) = some 3 := by decide +kernel
theorem z_X1_addTown : yX1_addTown.cls = RX1 ∧ yX1_addTown.cls ≠ "java/lang/invoke/MethodHandle" ∧ yX1_addTown.cls ≠ "java/lang/invoke/VarHandle" ∧ (parseMethodDescriptor yX1_addTown.desc).map (fun d => d.parameters.length) = some 0 := by decide +kernel
theorem z_X1_join : yX1_join.cls = RX1 ∧ yX1_join.cls ≠ "java/lang/invoke/MethodHandle" ∧ yX1_join.cls ≠ "java/lang/invoke/VarHandle" ∧ (parseMethodDescriptor yX1_join.desc).map (fun d => d.parameters.length) = some 3 := by decide +kernel
theorem z_X1_cut : yX1_cut.cls = RX1 ∧ yX1_cut.cls ≠ "java/lang/invoke/MethodHandle" ∧ yX1_cut.cls ≠ "java/lang/invoke/VarHandle" ∧ (parseMethodDescriptor yX1_cut.desc).map (fun d => d.parameters.length) = some 2 := by decide +kernel
theorem z_X1_setRoad : yX1_setRoad.cls = RX1 ∧ yX1_setRoad.cls ≠ "java/lang/invoke/MethodHandle" ∧ yX1_setRoad.cls ≠ "java/lang/invoke/VarHandle" ∧ (parseMethodDescriptor yX1_setRoad.desc).map (fun d => d.parameters.length) = some 3 := by decide +kernel
theorem z_X1_note : yX1_note.cls = RX1 ∧ yX1_note.cls ≠ "java/lang/invoke/MethodHandle" ∧ yX1_note.cls ≠ "java/lang/invoke/VarHandle" ∧ (parseMethodDescriptor yX1_note.desc).map (fun d => d.parameters.length) = some 4 := by decide +kernel
theorem z_X1_drop : yX1_drop.cls = RX1 ∧ yX1_drop.cls ≠ "java/lang/invoke/MethodHandle" ∧ yX1_drop.cls ≠ "java/lang/invoke/VarHandle" ∧ (parseMethodDescriptor yX1_drop.desc).map (fun d => d.parameters.length) = some 2 := by decide +kernel
theorem z_X2_init : yX2_init.cls = RX2 ∧ yX2_init.cls ≠ "java/lang/invoke/MethodHandle" ∧ yX2_init.cls ≠ "java/lang/invoke/VarHandle" ∧ (parseMethodDescriptor yX2_init.desc).map (fun d => d.parameters.length) = some 0 := by decide +kernel
theorem z_X2_isEmpty : yX2_isEmpty.cls = RX2 ∧ yX2_isEmpty.cls ≠ "java/lang/invoke/MethodHandle" ∧ yX2_isEmpty.cls ≠ "java/lang/invoke/VarHandle" ∧ (parseMethodDescriptor yX2_isEmpty.desc).map (fun d => d.parameters.length) = some 0 := by decide +kernel
theorem z_X2_clear : yX2_clear.cls = RX2 ∧ yX2_clear.cls ≠ "java/lang/invoke/MethodHandle" ∧ yX2_clear.cls ≠ "java/lang/invoke/VarHandle" ∧ (parseMethodDescriptor yX2_clear.desc).map (fun d => d.parameters.length) = some 0 := by decide +kernel
theorem z_X2_remember : yX2_remember.cls = RX2 ∧ yX2_remember.cls ≠ "java/lang/invoke/MethodHandle" ∧ yX2_remember.cls ≠ "java/lang/invoke/VarHandle" ∧ (parseMethodDescriptor yX2_remember.desc).map (fun d => d.parameters.length) = some 1 := by decide +kernel
theorem z_X2_takeBack : yX2_takeBack.cls = RX2 ∧ yX2_takeBack.cls ≠ "java/lang/invoke/MethodHandle" ∧ yX2_takeBack.cls ≠ "java/lang/invoke/VarHandle" ∧ (parseMethodDescriptor yX2_takeBack.desc).map (fun d => d.parameters.length) = some 1 := by decide +kernel
theorem z_X3_init : yX3_init.cls = RX3 ∧ yX3_init.cls ≠ "java/lang/invoke/MethodHandle" ∧ yX3_init.cls ≠ "java/lang/invoke/VarHandle" ∧ (parseMethodDescriptor yX3_init.desc).map (fun d => d.parameters.length) = some 0 := by decide +kernel
theorem z_X3_begin : yX3_begin.cls = RX3 ∧ yX3_begin.cls ≠ "java/lang/invoke/MethodHandle" ∧ yX3_begin.cls ≠ "java/lang/invoke/VarHandle" ∧ (parseMethodDescriptor yX3_begin.desc).map (fun d => d.parameters.length) = some 1 := by decide +kernel
theorem z_X3_inventionsWithRoad : yX3_inventionsWithRoad.cls = RX3 ∧ yX3_inventionsWithRoad.cls ≠ "java/lang/invoke/MethodHandle" ∧ yX3_inventionsWithRoad.cls ≠ "java/lang/invoke/VarHandle" ∧ (parseMethodDescriptor yX3_inventionsWithRoad.desc).map (fun d => d.parameters.length) = some 3 := by decide +kernel
theorem z_X3_newRoad : yX3_newRoad.cls = RX3 ∧ yX3_newRoad.cls ≠ "java/lang/invoke/MethodHandle" ∧ yX3_newRoad.cls ≠ "java/lang/invoke/VarHandle" ∧ (parseMethodDescriptor yX3_newRoad.desc).map (fun d => d.parameters.length) = some 1 := by decide +kernel
theorem z_X3_costliestReport : yX3_costliestReport.cls = RX3 ∧ yX3_costliestReport.cls ≠ "java/lang/invoke/MethodHandle" ∧ yX3_costliestReport.cls ≠ "java/lang/invoke/VarHandle" ∧ (parseMethodDescriptor yX3_costliestReport.desc).map (fun d => d.parameters.length) = some 0 := by decide +kernel
theorem z_X3_costOfReport : yX3_costOfReport.cls = RX3 ∧ yX3_costOfReport.cls ≠ "java/lang/invoke/MethodHandle" ∧ yX3_costOfReport.cls ≠ "java/lang/invoke/VarHandle" ∧ (parseMethodDescriptor yX3_costOfReport.desc).map (fun d => d.parameters.length) = some 2 := by decide +kernel
theorem z_X3_obeys : yX3_obeys.cls = RX3 ∧ yX3_obeys.cls ≠ "java/lang/invoke/MethodHandle" ∧ yX3_obeys.cls ≠ "java/lang/invoke/VarHandle" ∧ (parseMethodDescriptor yX3_obeys.desc).map (fun d => d.parameters.length) = some 1 := by decide +kernel
theorem z_X3_isUpTo : yX3_isUpTo.cls = RX3 ∧ yX3_isUpTo.cls ≠ "java/lang/invoke/MethodHandle" ∧ yX3_isUpTo.cls ≠ "java/lang/invoke/VarHandle" ∧ (parseMethodDescriptor yX3_isUpTo.desc).map (fun d => d.parameters.length) = some 2 := by decide +kernel
theorem z_X3_turn : yX3_turn.cls = RX3 ∧ yX3_turn.cls ≠ "java/lang/invoke/MethodHandle" ∧ yX3_turn.cls ≠ "java/lang/invoke/VarHandle" ∧ (parseMethodDescriptor yX3_turn.desc).map (fun d => d.parameters.length) = some 1 := by decide +kernel
theorem z_X3_summary : yX3_summary.cls = RX3 ∧ yX3_summary.cls ≠ "java/lang/invoke/MethodHandle" ∧ yX3_summary.cls ≠ "java/lang/invoke/VarHandle" ∧ (parseMethodDescriptor yX3_summary.desc).map (fun d => d.parameters.length) = some 0 := by decide +kernel
theorem z_X4_init : yX4_init.cls = RX4 ∧ yX4_init.cls ≠ "java/lang/invoke/MethodHandle" ∧ yX4_init.cls ≠ "java/lang/invoke/VarHandle" ∧ (parseMethodDescriptor yX4_init.desc).map (fun d => d.parameters.length) = some 0 := by decide +kernel
theorem z_X4_isFull : yX4_isFull.cls = RX4 ∧ yX4_isFull.cls ≠ "java/lang/invoke/MethodHandle" ∧ yX4_isFull.cls ≠ "java/lang/invoke/VarHandle" ∧ (parseMethodDescriptor yX4_isFull.desc).map (fun d => d.parameters.length) = some 0 := by decide +kernel
theorem z_X4_add : yX4_add.cls = RX4 ∧ yX4_add.cls ≠ "java/lang/invoke/MethodHandle" ∧ yX4_add.cls ≠ "java/lang/invoke/VarHandle" ∧ (parseMethodDescriptor yX4_add.desc).map (fun d => d.parameters.length) = some 1 := by decide +kernel
theorem z_X4_empty : yX4_empty.cls = RX4 ∧ yX4_empty.cls ≠ "java/lang/invoke/MethodHandle" ∧ yX4_empty.cls ≠ "java/lang/invoke/VarHandle" ∧ (parseMethodDescriptor yX4_empty.desc).map (fun d => d.parameters.length) = some 0 := by decide +kernel
theorem z_X4_firstError : yX4_firstError.cls = RX4 ∧ yX4_firstError.cls ≠ "java/lang/invoke/MethodHandle" ∧ yX4_firstError.cls ≠ "java/lang/invoke/VarHandle" ∧ (parseMethodDescriptor yX4_firstError.desc).map (fun d => d.parameters.length) = some 0 := by decide +kernel
theorem z_X4_awaitedBehind : yX4_awaitedBehind.cls = RX4 ∧ yX4_awaitedBehind.cls ≠ "java/lang/invoke/MethodHandle" ∧ yX4_awaitedBehind.cls ≠ "java/lang/invoke/VarHandle" ∧ (parseMethodDescriptor yX4_awaitedBehind.desc).map (fun d => d.parameters.length) = some 2 := by decide +kernel
theorem z_X4_noteIn : yX4_noteIn.cls = RX4 ∧ yX4_noteIn.cls ≠ "java/lang/invoke/MethodHandle" ∧ yX4_noteIn.cls ≠ "java/lang/invoke/VarHandle" ∧ (parseMethodDescriptor yX4_noteIn.desc).map (fun d => d.parameters.length) = some 1 := by decide +kernel
theorem z_X4_signAt : yX4_signAt.cls = RX4 ∧ yX4_signAt.cls ≠ "java/lang/invoke/MethodHandle" ∧ yX4_signAt.cls ≠ "java/lang/invoke/VarHandle" ∧ (parseMethodDescriptor yX4_signAt.desc).map (fun d => d.parameters.length) = some 1 := by decide +kernel
theorem z_X5_init : yX5_init.cls = RX5 ∧ yX5_init.cls ≠ "java/lang/invoke/MethodHandle" ∧ yX5_init.cls ≠ "java/lang/invoke/VarHandle" ∧ (parseMethodDescriptor yX5_init.desc).map (fun d => d.parameters.length) = some 0 := by decide +kernel
theorem z_X5_append : yX5_append.cls = RX5 ∧ yX5_append.cls ≠ "java/lang/invoke/MethodHandle" ∧ yX5_append.cls ≠ "java/lang/invoke/VarHandle" ∧ (parseMethodDescriptor yX5_append.desc).map (fun d => d.parameters.length) = some 1 := by decide +kernel
theorem z_X5_clearText : yX5_clearText.cls = RX5 ∧ yX5_clearText.cls ≠ "java/lang/invoke/MethodHandle" ∧ yX5_clearText.cls ≠ "java/lang/invoke/VarHandle" ∧ (parseMethodDescriptor yX5_clearText.desc).map (fun d => d.parameters.length) = some 0 := by decide +kernel
theorem z_X5_errorPosition : yX5_errorPosition.cls = RX5 ∧ yX5_errorPosition.cls ≠ "java/lang/invoke/MethodHandle" ∧ yX5_errorPosition.cls ≠ "java/lang/invoke/VarHandle" ∧ (parseMethodDescriptor yX5_errorPosition.desc).map (fun d => d.parameters.length) = some 0 := by decide +kernel
theorem z_X5_about : yX5_about.cls = RX5 ∧ yX5_about.cls ≠ "java/lang/invoke/MethodHandle" ∧ yX5_about.cls ≠ "java/lang/invoke/VarHandle" ∧ (parseMethodDescriptor yX5_about.desc).map (fun d => d.parameters.length) = some 1 := by decide +kernel
theorem z_X5_road : yX5_road.cls = RX5 ∧ yX5_road.cls ≠ "java/lang/invoke/MethodHandle" ∧ yX5_road.cls ≠ "java/lang/invoke/VarHandle" ∧ (parseMethodDescriptor yX5_road.desc).map (fun d => d.parameters.length) = some 2 := by decide +kernel
theorem z_X5_neighbor : yX5_neighbor.cls = RX5 ∧ yX5_neighbor.cls ≠ "java/lang/invoke/MethodHandle" ∧ yX5_neighbor.cls ≠ "java/lang/invoke/VarHandle" ∧ (parseMethodDescriptor yX5_neighbor.desc).map (fun d => d.parameters.length) = some 2 := by decide +kernel
theorem z_X5_report : yX5_report.cls = RX5 ∧ yX5_report.cls ≠ "java/lang/invoke/MethodHandle" ∧ yX5_report.cls ≠ "java/lang/invoke/VarHandle" ∧ (parseMethodDescriptor yX5_report.desc).map (fun d => d.parameters.length) = some 3 := by decide +kernel
theorem z_X5_found : yX5_found.cls = RX5 ∧ yX5_found.cls ≠ "java/lang/invoke/MethodHandle" ∧ yX5_found.cls ≠ "java/lang/invoke/VarHandle" ∧ (parseMethodDescriptor yX5_found.desc).map (fun d => d.parameters.length) = some 0 := by decide +kernel
theorem z_X5_lay : yX5_lay.cls = RX5 ∧ yX5_lay.cls ≠ "java/lang/invoke/MethodHandle" ∧ yX5_lay.cls ≠ "java/lang/invoke/VarHandle" ∧ (parseMethodDescriptor yX5_lay.desc).map (fun d => d.parameters.length) = some 3 := by decide +kernel
theorem z_X5_tear : yX5_tear.cls = RX5 ∧ yX5_tear.cls ≠ "java/lang/invoke/MethodHandle" ∧ yX5_tear.cls ≠ "java/lang/invoke/VarHandle" ∧ (parseMethodDescriptor yX5_tear.desc).map (fun d => d.parameters.length) = some 2 := by decide +kernel
theorem z_X5_see : yX5_see.cls = RX5 ∧ yX5_see.cls ≠ "java/lang/invoke/MethodHandle" ∧ yX5_see.cls ≠ "java/lang/invoke/VarHandle" ∧ (parseMethodDescriptor yX5_see.desc).map (fun d => d.parameters.length) = some 4 := by decide +kernel
theorem z_X5_seeAll : yX5_seeAll.cls = RX5 ∧ yX5_seeAll.cls ≠ "java/lang/invoke/MethodHandle" ∧ yX5_seeAll.cls ≠ "java/lang/invoke/VarHandle" ∧ (parseMethodDescriptor yX5_seeAll.desc).map (fun d => d.parameters.length) = some 0 := by decide +kernel
theorem z_X5_forget : yX5_forget.cls = RX5 ∧ yX5_forget.cls ≠ "java/lang/invoke/MethodHandle" ∧ yX5_forget.cls ≠ "java/lang/invoke/VarHandle" ∧ (parseMethodDescriptor yX5_forget.desc).map (fun d => d.parameters.length) = some 2 := by decide +kernel
theorem z_X5_undo : yX5_undo.cls = RX5 ∧ yX5_undo.cls ≠ "java/lang/invoke/MethodHandle" ∧ yX5_undo.cls ≠ "java/lang/invoke/VarHandle" ∧ (parseMethodDescriptor yX5_undo.desc).map (fun d => d.parameters.length) = some 0 := by decide +kernel
theorem z_X5_inventions : yX5_inventions.cls = RX5 ∧ yX5_inventions.cls ≠ "java/lang/invoke/MethodHandle" ∧ yX5_inventions.cls ≠ "java/lang/invoke/VarHandle" ∧ (parseMethodDescriptor yX5_inventions.desc).map (fun d => d.parameters.length) = some 1 := by decide +kernel
theorem z_X5_invented : yX5_invented.cls = RX5 ∧ yX5_invented.cls ≠ "java/lang/invoke/MethodHandle" ∧ yX5_invented.cls ≠ "java/lang/invoke/VarHandle" ∧ (parseMethodDescriptor yX5_invented.desc).map (fun d => d.parameters.length) = some 2 := by decide +kernel
theorem z_X5_choices : yX5_choices.cls = RX5 ∧ yX5_choices.cls ≠ "java/lang/invoke/MethodHandle" ∧ yX5_choices.cls ≠ "java/lang/invoke/VarHandle" ∧ (parseMethodDescriptor yX5_choices.desc).map (fun d => d.parameters.length) = some 1 := by decide +kernel
theorem z_X5_since : yX5_since.cls = RX5 ∧ yX5_since.cls ≠ "java/lang/invoke/MethodHandle" ∧ yX5_since.cls ≠ "java/lang/invoke/VarHandle" ∧ (parseMethodDescriptor yX5_since.desc).map (fun d => d.parameters.length) = some 2 := by decide +kernel
theorem z_X5_reached : yX5_reached.cls = RX5 ∧ yX5_reached.cls ≠ "java/lang/invoke/MethodHandle" ∧ yX5_reached.cls ≠ "java/lang/invoke/VarHandle" ∧ (parseMethodDescriptor yX5_reached.desc).map (fun d => d.parameters.length) = some 2 := by decide +kernel
theorem z_X5_passed : yX5_passed.cls = RX5 ∧ yX5_passed.cls ≠ "java/lang/invoke/MethodHandle" ∧ yX5_passed.cls ≠ "java/lang/invoke/VarHandle" ∧ (parseMethodDescriptor yX5_passed.desc).map (fun d => d.parameters.length) = some 3 := by decide +kernel
theorem z_X5_ifLaid : yX5_ifLaid.cls = RX5 ∧ yX5_ifLaid.cls ≠ "java/lang/invoke/MethodHandle" ∧ yX5_ifLaid.cls ≠ "java/lang/invoke/VarHandle" ∧ (parseMethodDescriptor yX5_ifLaid.desc).map (fun d => d.parameters.length) = some 3 := by decide +kernel
theorem z_X5_bestRoad : yX5_bestRoad.cls = RX5 ∧ yX5_bestRoad.cls ≠ "java/lang/invoke/MethodHandle" ∧ yX5_bestRoad.cls ≠ "java/lang/invoke/VarHandle" ∧ (parseMethodDescriptor yX5_bestRoad.desc).map (fun d => d.parameters.length) = some 1 := by decide +kernel
theorem z_X5_dearest : yX5_dearest.cls = RX5 ∧ yX5_dearest.cls ≠ "java/lang/invoke/MethodHandle" ∧ yX5_dearest.cls ≠ "java/lang/invoke/VarHandle" ∧ (parseMethodDescriptor yX5_dearest.desc).map (fun d => d.parameters.length) = some 0 := by decide +kernel
theorem z_X5_runScript : yX5_runScript.cls = RX5 ∧ yX5_runScript.cls ≠ "java/lang/invoke/MethodHandle" ∧ yX5_runScript.cls ≠ "java/lang/invoke/VarHandle" ∧ (parseMethodDescriptor yX5_runScript.desc).map (fun d => d.parameters.length) = some 2 := by decide +kernel
theorem z_X5_simulate : yX5_simulate.cls = RX5 ∧ yX5_simulate.cls ≠ "java/lang/invoke/MethodHandle" ∧ yX5_simulate.cls ≠ "java/lang/invoke/VarHandle" ∧ (parseMethodDescriptor yX5_simulate.desc).map (fun d => d.parameters.length) = some 2 := by decide +kernel
theorem z_X5_save : yX5_save.cls = RX5 ∧ yX5_save.cls ≠ "java/lang/invoke/MethodHandle" ∧ yX5_save.cls ≠ "java/lang/invoke/VarHandle" ∧ (parseMethodDescriptor yX5_save.desc).map (fun d => d.parameters.length) = some 1 := by decide +kernel
theorem z_X5_restore : yX5_restore.cls = RX5 ∧ yX5_restore.cls ≠ "java/lang/invoke/MethodHandle" ∧ yX5_restore.cls ≠ "java/lang/invoke/VarHandle" ∧ (parseMethodDescriptor yX5_restore.desc).map (fun d => d.parameters.length) = some 1 := by decide +kernel
theorem z_X5_needTown : yX5_needTown.cls = RX5 ∧ yX5_needTown.cls ≠ "java/lang/invoke/MethodHandle" ∧ yX5_needTown.cls ≠ "java/lang/invoke/VarHandle" ∧ (parseMethodDescriptor yX5_needTown.desc).map (fun d => d.parameters.length) = some 1 := by decide +kernel
theorem z_X5_needPossibleRoad : yX5_needPossibleRoad.cls = RX5 ∧ yX5_needPossibleRoad.cls ≠ "java/lang/invoke/MethodHandle" ∧ yX5_needPossibleRoad.cls ≠ "java/lang/invoke/VarHandle" ∧ (parseMethodDescriptor yX5_needPossibleRoad.desc).map (fun d => d.parameters.length) = some 3 := by decide +kernel
theorem z_X5_needTrait : yX5_needTrait.cls = RX5 ∧ yX5_needTrait.cls ≠ "java/lang/invoke/MethodHandle" ∧ yX5_needTrait.cls ≠ "java/lang/invoke/VarHandle" ∧ (parseMethodDescriptor yX5_needTrait.desc).map (fun d => d.parameters.length) = some 1 := by decide +kernel
theorem z_X5_needCount : yX5_needCount.cls = RX5 ∧ yX5_needCount.cls ≠ "java/lang/invoke/MethodHandle" ∧ yX5_needCount.cls ≠ "java/lang/invoke/VarHandle" ∧ (parseMethodDescriptor yX5_needCount.desc).map (fun d => d.parameters.length) = some 1 := by decide +kernel
theorem z_X5_needSlot : yX5_needSlot.cls = RX5 ∧ yX5_needSlot.cls ≠ "java/lang/invoke/MethodHandle" ∧ yX5_needSlot.cls ≠ "java/lang/invoke/VarHandle" ∧ (parseMethodDescriptor yX5_needSlot.desc).map (fun d => d.parameters.length) = some 1 := by decide +kernel
theorem z_X5_isTrait : yX5_isTrait.cls = RX5 ∧ yX5_isTrait.cls ≠ "java/lang/invoke/MethodHandle" ∧ yX5_isTrait.cls ≠ "java/lang/invoke/VarHandle" ∧ (parseMethodDescriptor yX5_isTrait.desc).map (fun d => d.parameters.length) = some 1 := by decide +kernel
theorem z_X5_isYear : yX5_isYear.cls = RX5 ∧ yX5_isYear.cls ≠ "java/lang/invoke/MethodHandle" ∧ yX5_isYear.cls ≠ "java/lang/invoke/VarHandle" ∧ (parseMethodDescriptor yX5_isYear.desc).map (fun d => d.parameters.length) = some 1 := by decide +kernel
theorem z_X5_isLength : yX5_isLength.cls = RX5 ∧ yX5_isLength.cls ≠ "java/lang/invoke/MethodHandle" ∧ yX5_isLength.cls ≠ "java/lang/invoke/VarHandle" ∧ (parseMethodDescriptor yX5_isLength.desc).map (fun d => d.parameters.length) = some 1 := by decide +kernel
theorem z_J6_bitCount_0f7a4 : yJ6_bitCount_0f7a4.cls = RJ6 ∧ yJ6_bitCount_0f7a4.cls ≠ "java/lang/invoke/MethodHandle" ∧ yJ6_bitCount_0f7a4.cls ≠ "java/lang/invoke/VarHandle" ∧ (parseMethodDescriptor yJ6_bitCount_0f7a4.desc).map (fun d => d.parameters.length) = some 1 := by decide +kernel
theorem z_J9_max_7cf53 : yJ9_max_7cf53.cls = RJ9 ∧ yJ9_max_7cf53.cls ≠ "java/lang/invoke/MethodHandle" ∧ yJ9_max_7cf53.cls ≠ "java/lang/invoke/VarHandle" ∧ (parseMethodDescriptor yJ9_max_7cf53.desc).map (fun d => d.parameters.length) = some 2 := by decide +kernel
theorem z_J9_min_7cf53 : yJ9_min_7cf53.cls = RJ9 ∧ yJ9_min_7cf53.cls ≠ "java/lang/invoke/MethodHandle" ∧ yJ9_min_7cf53.cls ≠ "java/lang/invoke/VarHandle" ∧ (parseMethodDescriptor yJ9_min_7cf53.desc).map (fun d => d.parameters.length) = some 2 := by decide +kernel
theorem z_J7_fill_53178 : yJ7_fill_53178.cls = RJ7 ∧ yJ7_fill_53178.cls ≠ "java/lang/invoke/MethodHandle" ∧ yJ7_fill_53178.cls ≠ "java/lang/invoke/VarHandle" ∧ (parseMethodDescriptor yJ7_fill_53178.desc).map (fun d => d.parameters.length) = some 2 := by decide +kernel
theorem z_L_tryReport : yL_tryReport.cls = RL ∧ yL_tryReport.cls ≠ "java/lang/invoke/MethodHandle" ∧ yL_tryReport.cls ≠ "java/lang/invoke/VarHandle" ∧ (parseMethodDescriptor yL_tryReport.desc).map (fun d => d.parameters.length) = some 4 := by decide +kernel
theorem z_L_trySee : yL_trySee.cls = RL ∧ yL_trySee.cls ≠ "java/lang/invoke/MethodHandle" ∧ yL_trySee.cls ≠ "java/lang/invoke/VarHandle" ∧ (parseMethodDescriptor yL_trySee.desc).map (fun d => d.parameters.length) = some 5 := by decide +kernel
theorem z_L_tryScript : yL_tryScript.cls = RL ∧ yL_tryScript.cls ≠ "java/lang/invoke/MethodHandle" ∧ yL_tryScript.cls ≠ "java/lang/invoke/VarHandle" ∧ (parseMethodDescriptor yL_tryScript.desc).map (fun d => d.parameters.length) = some 3 := by decide +kernel
theorem z_L_trySimulate : yL_trySimulate.cls = RL ∧ yL_trySimulate.cls ≠ "java/lang/invoke/MethodHandle" ∧ yL_trySimulate.cls ≠ "java/lang/invoke/VarHandle" ∧ (parseMethodDescriptor yL_trySimulate.desc).map (fun d => d.parameters.length) = some 3 := by decide +kernel
theorem z_L_tryAppend : yL_tryAppend.cls = RL ∧ yL_tryAppend.cls ≠ "java/lang/invoke/MethodHandle" ∧ yL_tryAppend.cls ≠ "java/lang/invoke/VarHandle" ∧ (parseMethodDescriptor yL_tryAppend.desc).map (fun d => d.parameters.length) = some 2 := by decide +kernel
theorem z_L_tryAbout : yL_tryAbout.cls = RL ∧ yL_tryAbout.cls ≠ "java/lang/invoke/MethodHandle" ∧ yL_tryAbout.cls ≠ "java/lang/invoke/VarHandle" ∧ (parseMethodDescriptor yL_tryAbout.desc).map (fun d => d.parameters.length) = some 2 := by decide +kernel
theorem z_L_tryRoad : yL_tryRoad.cls = RL ∧ yL_tryRoad.cls ≠ "java/lang/invoke/MethodHandle" ∧ yL_tryRoad.cls ≠ "java/lang/invoke/VarHandle" ∧ (parseMethodDescriptor yL_tryRoad.desc).map (fun d => d.parameters.length) = some 3 := by decide +kernel
theorem z_L_tryNeighbor : yL_tryNeighbor.cls = RL ∧ yL_tryNeighbor.cls ≠ "java/lang/invoke/MethodHandle" ∧ yL_tryNeighbor.cls ≠ "java/lang/invoke/VarHandle" ∧ (parseMethodDescriptor yL_tryNeighbor.desc).map (fun d => d.parameters.length) = some 3 := by decide +kernel
theorem z_L_tryFound : yL_tryFound.cls = RL ∧ yL_tryFound.cls ≠ "java/lang/invoke/MethodHandle" ∧ yL_tryFound.cls ≠ "java/lang/invoke/VarHandle" ∧ (parseMethodDescriptor yL_tryFound.desc).map (fun d => d.parameters.length) = some 1 := by decide +kernel
theorem z_L_tryLay : yL_tryLay.cls = RL ∧ yL_tryLay.cls ≠ "java/lang/invoke/MethodHandle" ∧ yL_tryLay.cls ≠ "java/lang/invoke/VarHandle" ∧ (parseMethodDescriptor yL_tryLay.desc).map (fun d => d.parameters.length) = some 4 := by decide +kernel
theorem z_L_tryTear : yL_tryTear.cls = RL ∧ yL_tryTear.cls ≠ "java/lang/invoke/MethodHandle" ∧ yL_tryTear.cls ≠ "java/lang/invoke/VarHandle" ∧ (parseMethodDescriptor yL_tryTear.desc).map (fun d => d.parameters.length) = some 3 := by decide +kernel
theorem z_L_trySeeAll : yL_trySeeAll.cls = RL ∧ yL_trySeeAll.cls ≠ "java/lang/invoke/MethodHandle" ∧ yL_trySeeAll.cls ≠ "java/lang/invoke/VarHandle" ∧ (parseMethodDescriptor yL_trySeeAll.desc).map (fun d => d.parameters.length) = some 1 := by decide +kernel
theorem z_L_tryForget : yL_tryForget.cls = RL ∧ yL_tryForget.cls ≠ "java/lang/invoke/MethodHandle" ∧ yL_tryForget.cls ≠ "java/lang/invoke/VarHandle" ∧ (parseMethodDescriptor yL_tryForget.desc).map (fun d => d.parameters.length) = some 3 := by decide +kernel
theorem z_L_tryUndo : yL_tryUndo.cls = RL ∧ yL_tryUndo.cls ≠ "java/lang/invoke/MethodHandle" ∧ yL_tryUndo.cls ≠ "java/lang/invoke/VarHandle" ∧ (parseMethodDescriptor yL_tryUndo.desc).map (fun d => d.parameters.length) = some 1 := by decide +kernel
theorem z_L_tryInventions : yL_tryInventions.cls = RL ∧ yL_tryInventions.cls ≠ "java/lang/invoke/MethodHandle" ∧ yL_tryInventions.cls ≠ "java/lang/invoke/VarHandle" ∧ (parseMethodDescriptor yL_tryInventions.desc).map (fun d => d.parameters.length) = some 2 := by decide +kernel
theorem z_L_tryInvented : yL_tryInvented.cls = RL ∧ yL_tryInvented.cls ≠ "java/lang/invoke/MethodHandle" ∧ yL_tryInvented.cls ≠ "java/lang/invoke/VarHandle" ∧ (parseMethodDescriptor yL_tryInvented.desc).map (fun d => d.parameters.length) = some 3 := by decide +kernel
theorem z_L_tryChoices : yL_tryChoices.cls = RL ∧ yL_tryChoices.cls ≠ "java/lang/invoke/MethodHandle" ∧ yL_tryChoices.cls ≠ "java/lang/invoke/VarHandle" ∧ (parseMethodDescriptor yL_tryChoices.desc).map (fun d => d.parameters.length) = some 2 := by decide +kernel
theorem z_L_trySince : yL_trySince.cls = RL ∧ yL_trySince.cls ≠ "java/lang/invoke/MethodHandle" ∧ yL_trySince.cls ≠ "java/lang/invoke/VarHandle" ∧ (parseMethodDescriptor yL_trySince.desc).map (fun d => d.parameters.length) = some 3 := by decide +kernel
theorem z_L_tryReached : yL_tryReached.cls = RL ∧ yL_tryReached.cls ≠ "java/lang/invoke/MethodHandle" ∧ yL_tryReached.cls ≠ "java/lang/invoke/VarHandle" ∧ (parseMethodDescriptor yL_tryReached.desc).map (fun d => d.parameters.length) = some 3 := by decide +kernel
theorem z_L_tryPassed : yL_tryPassed.cls = RL ∧ yL_tryPassed.cls ≠ "java/lang/invoke/MethodHandle" ∧ yL_tryPassed.cls ≠ "java/lang/invoke/VarHandle" ∧ (parseMethodDescriptor yL_tryPassed.desc).map (fun d => d.parameters.length) = some 4 := by decide +kernel
theorem z_L_tryIfLaid : yL_tryIfLaid.cls = RL ∧ yL_tryIfLaid.cls ≠ "java/lang/invoke/MethodHandle" ∧ yL_tryIfLaid.cls ≠ "java/lang/invoke/VarHandle" ∧ (parseMethodDescriptor yL_tryIfLaid.desc).map (fun d => d.parameters.length) = some 4 := by decide +kernel
theorem z_L_tryBestRoad : yL_tryBestRoad.cls = RL ∧ yL_tryBestRoad.cls ≠ "java/lang/invoke/MethodHandle" ∧ yL_tryBestRoad.cls ≠ "java/lang/invoke/VarHandle" ∧ (parseMethodDescriptor yL_tryBestRoad.desc).map (fun d => d.parameters.length) = some 2 := by decide +kernel
theorem z_L_tryKeep : yL_tryKeep.cls = RL ∧ yL_tryKeep.cls ≠ "java/lang/invoke/MethodHandle" ∧ yL_tryKeep.cls ≠ "java/lang/invoke/VarHandle" ∧ (parseMethodDescriptor yL_tryKeep.desc).map (fun d => d.parameters.length) = some 2 := by decide +kernel
theorem z_L_tryBack : yL_tryBack.cls = RL ∧ yL_tryBack.cls ≠ "java/lang/invoke/MethodHandle" ∧ yL_tryBack.cls ≠ "java/lang/invoke/VarHandle" ∧ (parseMethodDescriptor yL_tryBack.desc).map (fun d => d.parameters.length) = some 2 := by decide +kernel
theorem z_L_call : yL_call.cls = RL ∧ yL_call.cls ≠ "java/lang/invoke/MethodHandle" ∧ yL_call.cls ≠ "java/lang/invoke/VarHandle" ∧ (parseMethodDescriptor yL_call.desc).map (fun d => d.parameters.length) = some 5 := by decide +kernel
theorem z_L_cell : yL_cell.cls = RL ∧ yL_cell.cls ≠ "java/lang/invoke/MethodHandle" ∧ yL_cell.cls ≠ "java/lang/invoke/VarHandle" ∧ (parseMethodDescriptor yL_cell.desc).map (fun d => d.parameters.length) = some 2 := by decide +kernel
theorem z_L_refuses : yL_refuses.cls = RL ∧ yL_refuses.cls ≠ "java/lang/invoke/MethodHandle" ∧ yL_refuses.cls ≠ "java/lang/invoke/VarHandle" ∧ (parseMethodDescriptor yL_refuses.desc).map (fun d => d.parameters.length) = some 2 := by decide +kernel
theorem z_L_alike : yL_alike.cls = RL ∧ yL_alike.cls ≠ "java/lang/invoke/MethodHandle" ∧ yL_alike.cls ≠ "java/lang/invoke/VarHandle" ∧ (parseMethodDescriptor yL_alike.desc).map (fun d => d.parameters.length) = some 3 := by decide +kernel
theorem z_L_holds : yL_holds.cls = RL ∧ yL_holds.cls ≠ "java/lang/invoke/MethodHandle" ∧ yL_holds.cls ≠ "java/lang/invoke/VarHandle" ∧ (parseMethodDescriptor yL_holds.desc).map (fun d => d.parameters.length) = some 2 := by decide +kernel
theorem z_L_act : yL_act.cls = RL ∧ yL_act.cls ≠ "java/lang/invoke/MethodHandle" ∧ yL_act.cls ≠ "java/lang/invoke/VarHandle" ∧ (parseMethodDescriptor yL_act.desc).map (fun d => d.parameters.length) = some 3 := by decide +kernel
theorem z_L_law : yL_law.cls = RL ∧ yL_law.cls ≠ "java/lang/invoke/MethodHandle" ∧ yL_law.cls ≠ "java/lang/invoke/VarHandle" ∧ (parseMethodDescriptor yL_law.desc).map (fun d => d.parameters.length) = some 1 := by decide +kernel
theorem dX0_init_0 : decode cX0_init 0 = .ok (.aload_n 0, 1) := by decide +kernel
theorem dX0_init_1 : decode cX0_init 1 = .ok (.invokespecial 3, 3) := by decide +kernel
theorem dX0_init_4 : decode cX0_init 4 = .ok (.aload_n 0, 1) := by decide +kernel
theorem dX0_init_5 : decode cX0_init 5 = .ok (.bipush 15, 2) := by decide +kernel
theorem dX0_init_7 : decode cX0_init 7 = .ok (.newarray .int, 2) := by decide +kernel
theorem dX0_init_9 : decode cX0_init 9 = .ok (.putfield 9, 3) := by decide +kernel
theorem dX0_init_12 : decode cX0_init 12 = .ok (.aload_n 0, 1) := by decide +kernel
theorem dX0_init_13 : decode cX0_init 13 = .ok (.bipush 15, 2) := by decide +kernel
theorem dX0_init_15 : decode cX0_init 15 = .ok (.newarray .int, 2) := by decide +kernel
theorem dX0_init_17 : decode cX0_init 17 = .ok (.putfield 15, 3) := by decide +kernel
theorem dX0_init_20 : decode cX0_init 20 = .ok (.aload_n 0, 1) := by decide +kernel
theorem dX0_init_21 : decode cX0_init 21 = .ok (.bipush 15, 2) := by decide +kernel
theorem dX0_init_23 : decode cX0_init 23 = .ok (.newarray .int, 2) := by decide +kernel
theorem dX0_init_25 : decode cX0_init 25 = .ok (.putfield 18, 3) := by decide +kernel
theorem dX0_init_28 : decode cX0_init 28 = .ok (.aload_n 0, 1) := by decide +kernel
theorem dX0_init_29 : decode cX0_init 29 = .ok (.bipush 10, 2) := by decide +kernel
theorem dX0_init_31 : decode cX0_init 31 = .ok (.newarray .int, 2) := by decide +kernel
theorem dX0_init_33 : decode cX0_init 33 = .ok (.putfield 21, 3) := by decide +kernel
theorem dX0_init_36 : decode cX0_init 36 = .ok (.aload_n 0, 1) := by decide +kernel
theorem dX0_init_37 : decode cX0_init 37 = .ok (.bipush 10, 2) := by decide +kernel
theorem dX0_init_39 : decode cX0_init 39 = .ok (.newarray .int, 2) := by decide +kernel
theorem dX0_init_41 : decode cX0_init 41 = .ok (.putfield 24, 3) := by decide +kernel
theorem dX0_init_44 : decode cX0_init 44 = .ok (.aload_n 0, 1) := by decide +kernel
theorem dX0_init_45 : decode cX0_init 45 = .ok (.bipush 10, 2) := by decide +kernel
theorem dX0_init_47 : decode cX0_init 47 = .ok (.newarray .int, 2) := by decide +kernel
theorem dX0_init_49 : decode cX0_init 49 = .ok (.putfield 27, 3) := by decide +kernel
theorem dX0_init_52 : decode cX0_init 52 = .ok (.aload_n 0, 1) := by decide +kernel
theorem dX0_init_53 : decode cX0_init 53 = .ok (.bipush 10, 2) := by decide +kernel
theorem dX0_init_55 : decode cX0_init 55 = .ok (.newarray .int, 2) := by decide +kernel
theorem dX0_init_57 : decode cX0_init 57 = .ok (.putfield 30, 3) := by decide +kernel
theorem dX0_init_60 : decode cX0_init 60 = .ok (.aload_n 0, 1) := by decide +kernel
theorem dX0_init_61 : decode cX0_init 61 = .ok (.sipush 1024, 3) := by decide +kernel
theorem dX0_init_64 : decode cX0_init 64 = .ok (.newarray .int, 2) := by decide +kernel
theorem dX0_init_66 : decode cX0_init 66 = .ok (.putfield 33, 3) := by decide +kernel
theorem dX0_init_69 : decode cX0_init 69 = .ok (.return_, 1) := by decide +kernel
theorem dX0_allInventions_0 : decode cX0_allInventions 0 = .ok (.iconst 0, 1) := by decide +kernel
theorem dX0_allInventions_1 : decode cX0_allInventions 1 = .ok (.istore_n 2, 1) := by decide +kernel
theorem dX0_allInventions_2 : decode cX0_allInventions 2 = .ok (.iconst 0, 1) := by decide +kernel
theorem dX0_allInventions_3 : decode cX0_allInventions 3 = .ok (.istore_n 3, 1) := by decide +kernel
theorem dX0_allInventions_4 : decode cX0_allInventions 4 = .ok (.iload_n 3, 1) := by decide +kernel
theorem dX0_allInventions_5 : decode cX0_allInventions 5 = .ok (.bipush 6, 2) := by decide +kernel
theorem dX0_allInventions_7 : decode cX0_allInventions 7 = .ok (.if_icmp .ge 22, 3) := by decide +kernel
theorem dX0_allInventions_10 : decode cX0_allInventions 10 = .ok (.iload_n 2, 1) := by decide +kernel
theorem dX0_allInventions_11 : decode cX0_allInventions 11 = .ok (.aload_n 0, 1) := by decide +kernel
theorem dX0_allInventions_12 : decode cX0_allInventions 12 = .ok (.aload_n 1, 1) := by decide +kernel
theorem dX0_allInventions_13 : decode cX0_allInventions 13 = .ok (.iload_n 3, 1) := by decide +kernel
theorem dX0_allInventions_14 : decode cX0_allInventions 14 = .ok (.invokevirtual 36, 3) := by decide +kernel
theorem dX0_allInventions_17 : decode cX0_allInventions 17 = .ok (.iconst 0, 1) := by decide +kernel
theorem dX0_allInventions_18 : decode cX0_allInventions 18 = .ok (.invokestatic 40, 3) := by decide +kernel
theorem dX0_allInventions_21 : decode cX0_allInventions 21 = .ok (.iadd, 1) := by decide +kernel
theorem dX0_allInventions_22 : decode cX0_allInventions 22 = .ok (.istore_n 2, 1) := by decide +kernel
theorem dX0_allInventions_23 : decode cX0_allInventions 23 = .ok (.iinc 3 1, 3) := by decide +kernel
theorem dX0_allInventions_26 : decode cX0_allInventions 26 = .ok (.goto (-22), 3) := by decide +kernel
theorem dX0_allInventions_29 : decode cX0_allInventions 29 = .ok (.iload_n 2, 1) := by decide +kernel
theorem dX0_allInventions_30 : decode cX0_allInventions 30 = .ok (.ireturn, 1) := by decide +kernel
theorem dX0_inventedTraits_0 : decode cX0_inventedTraits 0 = .ok (.iconst 0, 1) := by decide +kernel
theorem dX0_inventedTraits_1 : decode cX0_inventedTraits 1 = .ok (.istore_n 2, 1) := by decide +kernel
theorem dX0_inventedTraits_2 : decode cX0_inventedTraits 2 = .ok (.iconst 0, 1) := by decide +kernel
theorem dX0_inventedTraits_3 : decode cX0_inventedTraits 3 = .ok (.istore_n 3, 1) := by decide +kernel
theorem dX0_inventedTraits_4 : decode cX0_inventedTraits 4 = .ok (.iload_n 3, 1) := by decide +kernel
theorem dX0_inventedTraits_5 : decode cX0_inventedTraits 5 = .ok (.bipush 6, 2) := by decide +kernel
theorem dX0_inventedTraits_7 : decode cX0_inventedTraits 7 = .ok (.if_icmp .ge 21, 3) := by decide +kernel
theorem dX0_inventedTraits_10 : decode cX0_inventedTraits 10 = .ok (.aload_n 0, 1) := by decide +kernel
theorem dX0_inventedTraits_11 : decode cX0_inventedTraits 11 = .ok (.aload_n 1, 1) := by decide +kernel
theorem dX0_inventedTraits_12 : decode cX0_inventedTraits 12 = .ok (.iload_n 3, 1) := by decide +kernel
theorem dX0_inventedTraits_13 : decode cX0_inventedTraits 13 = .ok (.invokevirtual 36, 3) := by decide +kernel
theorem dX0_inventedTraits_16 : decode cX0_inventedTraits 16 = .ok (.ifCond .le 6, 3) := by decide +kernel
theorem dX0_inventedTraits_19 : decode cX0_inventedTraits 19 = .ok (.iinc 2 1, 3) := by decide +kernel
theorem dX0_inventedTraits_22 : decode cX0_inventedTraits 22 = .ok (.iinc 3 1, 3) := by decide +kernel
theorem dX0_inventedTraits_25 : decode cX0_inventedTraits 25 = .ok (.goto (-21), 3) := by decide +kernel
theorem dX0_inventedTraits_28 : decode cX0_inventedTraits 28 = .ok (.iload_n 2, 1) := by decide +kernel
theorem dX0_inventedTraits_29 : decode cX0_inventedTraits 29 = .ok (.ireturn, 1) := by decide +kernel
theorem dX0_study_0 : decode cX0_study 0 = .ok (.aload_n 0, 1) := by decide +kernel
theorem dX0_study_1 : decode cX0_study 1 = .ok (.aload_n 1, 1) := by decide +kernel
theorem dX0_study_2 : decode cX0_study 2 = .ok (.invokevirtual 46, 3) := by decide +kernel
theorem dX0_study_5 : decode cX0_study 5 = .ok (.bipush 10, 2) := by decide +kernel
theorem dX0_study_7 : decode cX0_study 7 = .ok (.invokestatic 52, 3) := by decide +kernel
theorem dX0_study_10 : decode cX0_study 10 = .ok (.putfield 55, 3) := by decide +kernel
theorem dX0_study_13 : decode cX0_study 13 = .ok (.aload_n 0, 1) := by decide +kernel
theorem dX0_study_14 : decode cX0_study 14 = .ok (.iconst (-1), 1) := by decide +kernel
theorem dX0_study_15 : decode cX0_study 15 = .ok (.putfield 59, 3) := by decide +kernel
theorem dX0_study_18 : decode cX0_study 18 = .ok (.aload_n 0, 1) := by decide +kernel
theorem dX0_study_19 : decode cX0_study 19 = .ok (.iconst 0, 1) := by decide +kernel
theorem dX0_study_20 : decode cX0_study 20 = .ok (.putfield 62, 3) := by decide +kernel
theorem dX0_study_23 : decode cX0_study 23 = .ok (.aload_n 0, 1) := by decide +kernel
theorem dX0_study_24 : decode cX0_study 24 = .ok (.aload_n 1, 1) := by decide +kernel
theorem dX0_study_25 : decode cX0_study 25 = .ok (.invokevirtual 65, 3) := by decide +kernel
theorem dX0_study_28 : decode cX0_study 28 = .ok (.aload_n 0, 1) := by decide +kernel
theorem dX0_study_29 : decode cX0_study 29 = .ok (.aload_n 1, 1) := by decide +kernel
theorem dX0_study_30 : decode cX0_study 30 = .ok (.iload_n 2, 1) := by decide +kernel
theorem dX0_study_31 : decode cX0_study 31 = .ok (.invokevirtual 69, 3) := by decide +kernel
theorem dX0_study_34 : decode cX0_study 34 = .ok (.ifCond .eq 11, 3) := by decide +kernel
theorem dX0_study_37 : decode cX0_study 37 = .ok (.aload_n 0, 1) := by decide +kernel
theorem dX0_study_38 : decode cX0_study 38 = .ok (.invokevirtual 73, 3) := by decide +kernel
theorem dX0_study_41 : decode cX0_study 41 = .ok (.aload_n 0, 1) := by decide +kernel
theorem dX0_study_42 : decode cX0_study 42 = .ok (.invokevirtual 76, 3) := by decide +kernel
theorem dX0_study_45 : decode cX0_study 45 = .ok (.aload_n 0, 1) := by decide +kernel
theorem dX0_study_46 : decode cX0_study 46 = .ok (.aload_n 0, 1) := by decide +kernel
theorem dX0_study_47 : decode cX0_study 47 = .ok (.getfield 62, 3) := by decide +kernel
theorem dX0_study_50 : decode cX0_study 50 = .ok (.invokevirtual 79, 3) := by decide +kernel
theorem dX0_study_53 : decode cX0_study 53 = .ok (.aload_n 0, 1) := by decide +kernel
theorem dX0_study_54 : decode cX0_study 54 = .ok (.invokevirtual 83, 3) := by decide +kernel
theorem dX0_study_57 : decode cX0_study 57 = .ok (.aload_n 0, 1) := by decide +kernel
theorem dX0_study_58 : decode cX0_study 58 = .ok (.getfield 59, 3) := by decide +kernel
theorem dX0_study_61 : decode cX0_study 61 = .ok (.ireturn, 1) := by decide +kernel
theorem dX0_takeReports_0 : decode cX0_takeReports 0 = .ok (.iconst 1, 1) := by decide +kernel
theorem dX0_takeReports_1 : decode cX0_takeReports 1 = .ok (.istore_n 3, 1) := by decide +kernel
theorem dX0_takeReports_2 : decode cX0_takeReports 2 = .ok (.aload_n 0, 1) := by decide +kernel
theorem dX0_takeReports_3 : decode cX0_takeReports 3 = .ok (.iconst 0, 1) := by decide +kernel
theorem dX0_takeReports_4 : decode cX0_takeReports 4 = .ok (.putfield 86, 3) := by decide +kernel
theorem dX0_takeReports_7 : decode cX0_takeReports 7 = .ok (.iconst 0, 1) := by decide +kernel
theorem dX0_takeReports_8 : decode cX0_takeReports 8 = .ok (.istore 4, 2) := by decide +kernel
theorem dX0_takeReports_10 : decode cX0_takeReports 10 = .ok (.iload 4, 2) := by decide +kernel
theorem dX0_takeReports_12 : decode cX0_takeReports 12 = .ok (.aload_n 0, 1) := by decide +kernel
theorem dX0_takeReports_13 : decode cX0_takeReports 13 = .ok (.getfield 55, 3) := by decide +kernel
theorem dX0_takeReports_16 : decode cX0_takeReports 16 = .ok (.if_icmp .ge 92, 3) := by decide +kernel
theorem dX0_takeReports_19 : decode cX0_takeReports 19 = .ok (.aload_n 0, 1) := by decide +kernel
theorem dX0_takeReports_20 : decode cX0_takeReports 20 = .ok (.getfield 21, 3) := by decide +kernel
theorem dX0_takeReports_23 : decode cX0_takeReports 23 = .ok (.iload 4, 2) := by decide +kernel
theorem dX0_takeReports_25 : decode cX0_takeReports 25 = .ok (.aload_n 1, 1) := by decide +kernel
theorem dX0_takeReports_26 : decode cX0_takeReports 26 = .ok (.iload 4, 2) := by decide +kernel
theorem dX0_takeReports_28 : decode cX0_takeReports 28 = .ok (.iload_n 2, 1) := by decide +kernel
theorem dX0_takeReports_29 : decode cX0_takeReports 29 = .ok (.iconst 0, 1) := by decide +kernel
theorem dX0_takeReports_30 : decode cX0_takeReports 30 = .ok (.invokevirtual 89, 3) := by decide +kernel
theorem dX0_takeReports_33 : decode cX0_takeReports 33 = .ok (.iconst 1, 1) := by decide +kernel
theorem dX0_takeReports_34 : decode cX0_takeReports 34 = .ok (.iadd, 1) := by decide +kernel
theorem dX0_takeReports_35 : decode cX0_takeReports 35 = .ok (.iastore, 1) := by decide +kernel
theorem dX0_takeReports_36 : decode cX0_takeReports 36 = .ok (.aload_n 0, 1) := by decide +kernel
theorem dX0_takeReports_37 : decode cX0_takeReports 37 = .ok (.getfield 24, 3) := by decide +kernel
theorem dX0_takeReports_40 : decode cX0_takeReports 40 = .ok (.iload 4, 2) := by decide +kernel
theorem dX0_takeReports_42 : decode cX0_takeReports 42 = .ok (.aload_n 1, 1) := by decide +kernel
theorem dX0_takeReports_43 : decode cX0_takeReports 43 = .ok (.iload 4, 2) := by decide +kernel
theorem dX0_takeReports_45 : decode cX0_takeReports 45 = .ok (.iload_n 2, 1) := by decide +kernel
theorem dX0_takeReports_46 : decode cX0_takeReports 46 = .ok (.iconst 1, 1) := by decide +kernel
theorem dX0_takeReports_47 : decode cX0_takeReports 47 = .ok (.invokevirtual 89, 3) := by decide +kernel
theorem dX0_takeReports_50 : decode cX0_takeReports 50 = .ok (.iastore, 1) := by decide +kernel
theorem dX0_takeReports_51 : decode cX0_takeReports 51 = .ok (.aload_n 0, 1) := by decide +kernel
theorem dX0_takeReports_52 : decode cX0_takeReports 52 = .ok (.getfield 24, 3) := by decide +kernel
theorem dX0_takeReports_55 : decode cX0_takeReports 55 = .ok (.iload 4, 2) := by decide +kernel
theorem dX0_takeReports_57 : decode cX0_takeReports 57 = .ok (.iaload, 1) := by decide +kernel
theorem dX0_takeReports_58 : decode cX0_takeReports 58 = .ok (.iconst (-1), 1) := by decide +kernel
theorem dX0_takeReports_59 : decode cX0_takeReports 59 = .ok (.if_icmp .eq 43, 3) := by decide +kernel
theorem dX0_takeReports_62 : decode cX0_takeReports 62 = .ok (.aload_n 0, 1) := by decide +kernel
theorem dX0_takeReports_63 : decode cX0_takeReports 63 = .ok (.dup, 1) := by decide +kernel
theorem dX0_takeReports_64 : decode cX0_takeReports 64 = .ok (.getfield 86, 3) := by decide +kernel
theorem dX0_takeReports_67 : decode cX0_takeReports 67 = .ok (.iconst 1, 1) := by decide +kernel
theorem dX0_takeReports_68 : decode cX0_takeReports 68 = .ok (.iload 4, 2) := by decide +kernel
theorem dX0_takeReports_70 : decode cX0_takeReports 70 = .ok (.ishl, 1) := by decide +kernel
theorem dX0_takeReports_71 : decode cX0_takeReports 71 = .ok (.ior, 1) := by decide +kernel
theorem dX0_takeReports_72 : decode cX0_takeReports 72 = .ok (.putfield 86, 3) := by decide +kernel
theorem dX0_takeReports_75 : decode cX0_takeReports 75 = .ok (.iload_n 3, 1) := by decide +kernel
theorem dX0_takeReports_76 : decode cX0_takeReports 76 = .ok (.ifCond .eq 24, 3) := by decide +kernel
theorem dX0_takeReports_79 : decode cX0_takeReports 79 = .ok (.aload_n 0, 1) := by decide +kernel
theorem dX0_takeReports_80 : decode cX0_takeReports 80 = .ok (.getfield 21, 3) := by decide +kernel
theorem dX0_takeReports_83 : decode cX0_takeReports 83 = .ok (.iload 4, 2) := by decide +kernel
theorem dX0_takeReports_85 : decode cX0_takeReports 85 = .ok (.iaload, 1) := by decide +kernel
theorem dX0_takeReports_86 : decode cX0_takeReports 86 = .ok (.aload_n 0, 1) := by decide +kernel
theorem dX0_takeReports_87 : decode cX0_takeReports 87 = .ok (.getfield 24, 3) := by decide +kernel
theorem dX0_takeReports_90 : decode cX0_takeReports 90 = .ok (.iload 4, 2) := by decide +kernel
theorem dX0_takeReports_92 : decode cX0_takeReports 92 = .ok (.iaload, 1) := by decide +kernel
theorem dX0_takeReports_93 : decode cX0_takeReports 93 = .ok (.if_icmp .gt 7, 3) := by decide +kernel
theorem dX0_takeReports_96 : decode cX0_takeReports 96 = .ok (.iconst 1, 1) := by decide +kernel
theorem dX0_takeReports_97 : decode cX0_takeReports 97 = .ok (.goto 4, 3) := by decide +kernel
theorem dX0_takeReports_100 : decode cX0_takeReports 100 = .ok (.iconst 0, 1) := by decide +kernel
theorem dX0_takeReports_101 : decode cX0_takeReports 101 = .ok (.istore_n 3, 1) := by decide +kernel
theorem dX0_takeReports_102 : decode cX0_takeReports 102 = .ok (.iinc 4 1, 3) := by decide +kernel
theorem dX0_takeReports_105 : decode cX0_takeReports 105 = .ok (.goto (-95), 3) := by decide +kernel
theorem dX0_takeReports_108 : decode cX0_takeReports 108 = .ok (.iload_n 3, 1) := by decide +kernel
theorem dX0_takeReports_109 : decode cX0_takeReports 109 = .ok (.ireturn, 1) := by decide +kernel
theorem dX0_takeRoads_0 : decode cX0_takeRoads 0 = .ok (.aload_n 0, 1) := by decide +kernel
theorem dX0_takeRoads_1 : decode cX0_takeRoads 1 = .ok (.iconst 0, 1) := by decide +kernel
theorem dX0_takeRoads_2 : decode cX0_takeRoads 2 = .ok (.putfield 93, 3) := by decide +kernel
theorem dX0_takeRoads_5 : decode cX0_takeRoads 5 = .ok (.iconst 0, 1) := by decide +kernel
theorem dX0_takeRoads_6 : decode cX0_takeRoads 6 = .ok (.istore_n 2, 1) := by decide +kernel
theorem dX0_takeRoads_7 : decode cX0_takeRoads 7 = .ok (.iload_n 2, 1) := by decide +kernel
theorem dX0_takeRoads_8 : decode cX0_takeRoads 8 = .ok (.aload_n 0, 1) := by decide +kernel
theorem dX0_takeRoads_9 : decode cX0_takeRoads 9 = .ok (.getfield 55, 3) := by decide +kernel
theorem dX0_takeRoads_12 : decode cX0_takeRoads 12 = .ok (.if_icmp .ge 91, 3) := by decide +kernel
theorem dX0_takeRoads_15 : decode cX0_takeRoads 15 = .ok (.iload_n 2, 1) := by decide +kernel
theorem dX0_takeRoads_16 : decode cX0_takeRoads 16 = .ok (.iconst 1, 1) := by decide +kernel
theorem dX0_takeRoads_17 : decode cX0_takeRoads 17 = .ok (.iadd, 1) := by decide +kernel
theorem dX0_takeRoads_18 : decode cX0_takeRoads 18 = .ok (.istore_n 3, 1) := by decide +kernel
theorem dX0_takeRoads_19 : decode cX0_takeRoads 19 = .ok (.iload_n 3, 1) := by decide +kernel
theorem dX0_takeRoads_20 : decode cX0_takeRoads 20 = .ok (.aload_n 0, 1) := by decide +kernel
theorem dX0_takeRoads_21 : decode cX0_takeRoads 21 = .ok (.getfield 55, 3) := by decide +kernel
theorem dX0_takeRoads_24 : decode cX0_takeRoads 24 = .ok (.if_icmp .ge 73, 3) := by decide +kernel
theorem dX0_takeRoads_27 : decode cX0_takeRoads 27 = .ok (.aload_n 1, 1) := by decide +kernel
theorem dX0_takeRoads_28 : decode cX0_takeRoads 28 = .ok (.iload_n 2, 1) := by decide +kernel
theorem dX0_takeRoads_29 : decode cX0_takeRoads 29 = .ok (.iload_n 3, 1) := by decide +kernel
theorem dX0_takeRoads_30 : decode cX0_takeRoads 30 = .ok (.invokevirtual 96, 3) := by decide +kernel
theorem dX0_takeRoads_33 : decode cX0_takeRoads 33 = .ok (.istore 4, 2) := by decide +kernel
theorem dX0_takeRoads_35 : decode cX0_takeRoads 35 = .ok (.iload 4, 2) := by decide +kernel
theorem dX0_takeRoads_37 : decode cX0_takeRoads 37 = .ok (.iconst (-1), 1) := by decide +kernel
theorem dX0_takeRoads_38 : decode cX0_takeRoads 38 = .ok (.if_icmp .eq 53, 3) := by decide +kernel
theorem dX0_takeRoads_41 : decode cX0_takeRoads 41 = .ok (.aload_n 0, 1) := by decide +kernel
theorem dX0_takeRoads_42 : decode cX0_takeRoads 42 = .ok (.getfield 93, 3) := by decide +kernel
theorem dX0_takeRoads_45 : decode cX0_takeRoads 45 = .ok (.bipush 15, 2) := by decide +kernel
theorem dX0_takeRoads_47 : decode cX0_takeRoads 47 = .ok (.if_icmp .ge 44, 3) := by decide +kernel
theorem dX0_takeRoads_50 : decode cX0_takeRoads 50 = .ok (.aload_n 0, 1) := by decide +kernel
theorem dX0_takeRoads_51 : decode cX0_takeRoads 51 = .ok (.getfield 9, 3) := by decide +kernel
theorem dX0_takeRoads_54 : decode cX0_takeRoads 54 = .ok (.aload_n 0, 1) := by decide +kernel
theorem dX0_takeRoads_55 : decode cX0_takeRoads 55 = .ok (.getfield 93, 3) := by decide +kernel
theorem dX0_takeRoads_58 : decode cX0_takeRoads 58 = .ok (.iload_n 2, 1) := by decide +kernel
theorem dX0_takeRoads_59 : decode cX0_takeRoads 59 = .ok (.iastore, 1) := by decide +kernel
theorem dX0_takeRoads_60 : decode cX0_takeRoads 60 = .ok (.aload_n 0, 1) := by decide +kernel
theorem dX0_takeRoads_61 : decode cX0_takeRoads 61 = .ok (.getfield 15, 3) := by decide +kernel
theorem dX0_takeRoads_64 : decode cX0_takeRoads 64 = .ok (.aload_n 0, 1) := by decide +kernel
theorem dX0_takeRoads_65 : decode cX0_takeRoads 65 = .ok (.getfield 93, 3) := by decide +kernel
theorem dX0_takeRoads_68 : decode cX0_takeRoads 68 = .ok (.iload_n 3, 1) := by decide +kernel
theorem dX0_takeRoads_69 : decode cX0_takeRoads 69 = .ok (.iastore, 1) := by decide +kernel
theorem dX0_takeRoads_70 : decode cX0_takeRoads 70 = .ok (.aload_n 0, 1) := by decide +kernel
theorem dX0_takeRoads_71 : decode cX0_takeRoads 71 = .ok (.getfield 18, 3) := by decide +kernel
theorem dX0_takeRoads_74 : decode cX0_takeRoads 74 = .ok (.aload_n 0, 1) := by decide +kernel
theorem dX0_takeRoads_75 : decode cX0_takeRoads 75 = .ok (.getfield 93, 3) := by decide +kernel
theorem dX0_takeRoads_78 : decode cX0_takeRoads 78 = .ok (.iload 4, 2) := by decide +kernel
theorem dX0_takeRoads_80 : decode cX0_takeRoads 80 = .ok (.iastore, 1) := by decide +kernel
theorem dX0_takeRoads_81 : decode cX0_takeRoads 81 = .ok (.aload_n 0, 1) := by decide +kernel
theorem dX0_takeRoads_82 : decode cX0_takeRoads 82 = .ok (.dup, 1) := by decide +kernel
theorem dX0_takeRoads_83 : decode cX0_takeRoads 83 = .ok (.getfield 93, 3) := by decide +kernel
theorem dX0_takeRoads_86 : decode cX0_takeRoads 86 = .ok (.iconst 1, 1) := by decide +kernel
theorem dX0_takeRoads_87 : decode cX0_takeRoads 87 = .ok (.iadd, 1) := by decide +kernel
theorem dX0_takeRoads_88 : decode cX0_takeRoads 88 = .ok (.putfield 93, 3) := by decide +kernel
theorem dX0_takeRoads_91 : decode cX0_takeRoads 91 = .ok (.iinc 3 1, 3) := by decide +kernel
theorem dX0_takeRoads_94 : decode cX0_takeRoads 94 = .ok (.goto (-75), 3) := by decide +kernel
theorem dX0_takeRoads_97 : decode cX0_takeRoads 97 = .ok (.iinc 2 1, 3) := by decide +kernel
theorem dX0_takeRoads_100 : decode cX0_takeRoads 100 = .ok (.goto (-93), 3) := by decide +kernel
theorem dX0_takeRoads_103 : decode cX0_takeRoads 103 = .ok (.return_, 1) := by decide +kernel
theorem dX0_explainAlone_0 : decode cX0_explainAlone 0 = .ok (.iconst 0, 1) := by decide +kernel
theorem dX0_explainAlone_1 : decode cX0_explainAlone 1 = .ok (.istore_n 1, 1) := by decide +kernel
theorem dX0_explainAlone_2 : decode cX0_explainAlone 2 = .ok (.iload_n 1, 1) := by decide +kernel
theorem dX0_explainAlone_3 : decode cX0_explainAlone 3 = .ok (.aload_n 0, 1) := by decide +kernel
theorem dX0_explainAlone_4 : decode cX0_explainAlone 4 = .ok (.getfield 55, 3) := by decide +kernel
theorem dX0_explainAlone_7 : decode cX0_explainAlone 7 = .ok (.if_icmp .ge 37, 3) := by decide +kernel
theorem dX0_explainAlone_10 : decode cX0_explainAlone 10 = .ok (.aload_n 0, 1) := by decide +kernel
theorem dX0_explainAlone_11 : decode cX0_explainAlone 11 = .ok (.getfield 86, 3) := by decide +kernel
theorem dX0_explainAlone_14 : decode cX0_explainAlone 14 = .ok (.ifCond .eq 30, 3) := by decide +kernel
theorem dX0_explainAlone_17 : decode cX0_explainAlone 17 = .ok (.aload_n 0, 1) := by decide +kernel
theorem dX0_explainAlone_18 : decode cX0_explainAlone 18 = .ok (.iconst 1, 1) := by decide +kernel
theorem dX0_explainAlone_19 : decode cX0_explainAlone 19 = .ok (.iload_n 1, 1) := by decide +kernel
theorem dX0_explainAlone_20 : decode cX0_explainAlone 20 = .ok (.ishl, 1) := by decide +kernel
theorem dX0_explainAlone_21 : decode cX0_explainAlone 21 = .ok (.invokevirtual 79, 3) := by decide +kernel
theorem dX0_explainAlone_24 : decode cX0_explainAlone 24 = .ok (.aload_n 0, 1) := by decide +kernel
theorem dX0_explainAlone_25 : decode cX0_explainAlone 25 = .ok (.invokevirtual 83, 3) := by decide +kernel
theorem dX0_explainAlone_28 : decode cX0_explainAlone 28 = .ok (.aload_n 0, 1) := by decide +kernel
theorem dX0_explainAlone_29 : decode cX0_explainAlone 29 = .ok (.getfield 30, 3) := by decide +kernel
theorem dX0_explainAlone_32 : decode cX0_explainAlone 32 = .ok (.iload_n 1, 1) := by decide +kernel
theorem dX0_explainAlone_33 : decode cX0_explainAlone 33 = .ok (.aload_n 0, 1) := by decide +kernel
theorem dX0_explainAlone_34 : decode cX0_explainAlone 34 = .ok (.invokevirtual 99, 3) := by decide +kernel
theorem dX0_explainAlone_37 : decode cX0_explainAlone 37 = .ok (.iastore, 1) := by decide +kernel
theorem dX0_explainAlone_38 : decode cX0_explainAlone 38 = .ok (.iinc 1 1, 3) := by decide +kernel
theorem dX0_explainAlone_41 : decode cX0_explainAlone 41 = .ok (.goto (-39), 3) := by decide +kernel
theorem dX0_explainAlone_44 : decode cX0_explainAlone 44 = .ok (.return_, 1) := by decide +kernel
theorem dX0_weighSets_0 : decode cX0_weighSets 0 = .ok (.aload_n 0, 1) := by decide +kernel
theorem dX0_weighSets_1 : decode cX0_weighSets 1 = .ok (.aload_n 0, 1) := by decide +kernel
theorem dX0_weighSets_2 : decode cX0_weighSets 2 = .ok (.getfield 55, 3) := by decide +kernel
theorem dX0_weighSets_5 : decode cX0_weighSets 5 = .ok (.iconst 1, 1) := by decide +kernel
theorem dX0_weighSets_6 : decode cX0_weighSets 6 = .ok (.iadd, 1) := by decide +kernel
theorem dX0_weighSets_7 : decode cX0_weighSets 7 = .ok (.putfield 59, 3) := by decide +kernel
theorem dX0_weighSets_10 : decode cX0_weighSets 10 = .ok (.aload_n 0, 1) := by decide +kernel
theorem dX0_weighSets_11 : decode cX0_weighSets 11 = .ok (.getfield 33, 3) := by decide +kernel
theorem dX0_weighSets_14 : decode cX0_weighSets 14 = .ok (.iconst 0, 1) := by decide +kernel
theorem dX0_weighSets_15 : decode cX0_weighSets 15 = .ok (.iconst 0, 1) := by decide +kernel
theorem dX0_weighSets_16 : decode cX0_weighSets 16 = .ok (.iastore, 1) := by decide +kernel
theorem dX0_weighSets_17 : decode cX0_weighSets 17 = .ok (.aload_n 0, 1) := by decide +kernel
theorem dX0_weighSets_18 : decode cX0_weighSets 18 = .ok (.iconst 0, 1) := by decide +kernel
theorem dX0_weighSets_19 : decode cX0_weighSets 19 = .ok (.invokevirtual 102, 3) := by decide +kernel
theorem dX0_weighSets_22 : decode cX0_weighSets 22 = .ok (.iconst 0, 1) := by decide +kernel
theorem dX0_weighSets_23 : decode cX0_weighSets 23 = .ok (.istore_n 1, 1) := by decide +kernel
theorem dX0_weighSets_24 : decode cX0_weighSets 24 = .ok (.iload_n 1, 1) := by decide +kernel
theorem dX0_weighSets_25 : decode cX0_weighSets 25 = .ok (.aload_n 0, 1) := by decide +kernel
theorem dX0_weighSets_26 : decode cX0_weighSets 26 = .ok (.getfield 55, 3) := by decide +kernel
theorem dX0_weighSets_29 : decode cX0_weighSets 29 = .ok (.if_icmp .ge 61, 3) := by decide +kernel
theorem dX0_weighSets_32 : decode cX0_weighSets 32 = .ok (.aload_n 0, 1) := by decide +kernel
theorem dX0_weighSets_33 : decode cX0_weighSets 33 = .ok (.getfield 86, 3) := by decide +kernel
theorem dX0_weighSets_36 : decode cX0_weighSets 36 = .ok (.ifCond .eq 54, 3) := by decide +kernel
theorem dX0_weighSets_39 : decode cX0_weighSets 39 = .ok (.iconst 1, 1) := by decide +kernel
theorem dX0_weighSets_40 : decode cX0_weighSets 40 = .ok (.iload_n 1, 1) := by decide +kernel
theorem dX0_weighSets_41 : decode cX0_weighSets 41 = .ok (.ishl, 1) := by decide +kernel
theorem dX0_weighSets_42 : decode cX0_weighSets 42 = .ok (.istore_n 2, 1) := by decide +kernel
theorem dX0_weighSets_43 : decode cX0_weighSets 43 = .ok (.iconst 0, 1) := by decide +kernel
theorem dX0_weighSets_44 : decode cX0_weighSets 44 = .ok (.istore_n 3, 1) := by decide +kernel
theorem dX0_weighSets_45 : decode cX0_weighSets 45 = .ok (.iload_n 3, 1) := by decide +kernel
theorem dX0_weighSets_46 : decode cX0_weighSets 46 = .ok (.iload_n 2, 1) := by decide +kernel
theorem dX0_weighSets_47 : decode cX0_weighSets 47 = .ok (.if_icmp .ge 37, 3) := by decide +kernel
theorem dX0_weighSets_50 : decode cX0_weighSets 50 = .ok (.aload_n 0, 1) := by decide +kernel
theorem dX0_weighSets_51 : decode cX0_weighSets 51 = .ok (.getfield 33, 3) := by decide +kernel
theorem dX0_weighSets_54 : decode cX0_weighSets 54 = .ok (.iload_n 2, 1) := by decide +kernel
theorem dX0_weighSets_55 : decode cX0_weighSets 55 = .ok (.iload_n 3, 1) := by decide +kernel
theorem dX0_weighSets_56 : decode cX0_weighSets 56 = .ok (.iadd, 1) := by decide +kernel
theorem dX0_weighSets_57 : decode cX0_weighSets 57 = .ok (.aload_n 0, 1) := by decide +kernel
theorem dX0_weighSets_58 : decode cX0_weighSets 58 = .ok (.getfield 33, 3) := by decide +kernel
theorem dX0_weighSets_61 : decode cX0_weighSets 61 = .ok (.iload_n 3, 1) := by decide +kernel
theorem dX0_weighSets_62 : decode cX0_weighSets 62 = .ok (.iaload, 1) := by decide +kernel
theorem dX0_weighSets_63 : decode cX0_weighSets 63 = .ok (.aload_n 0, 1) := by decide +kernel
theorem dX0_weighSets_64 : decode cX0_weighSets 64 = .ok (.getfield 30, 3) := by decide +kernel
theorem dX0_weighSets_67 : decode cX0_weighSets 67 = .ok (.iload_n 1, 1) := by decide +kernel
theorem dX0_weighSets_68 : decode cX0_weighSets 68 = .ok (.iaload, 1) := by decide +kernel
theorem dX0_weighSets_69 : decode cX0_weighSets 69 = .ok (.ior, 1) := by decide +kernel
theorem dX0_weighSets_70 : decode cX0_weighSets 70 = .ok (.iastore, 1) := by decide +kernel
theorem dX0_weighSets_71 : decode cX0_weighSets 71 = .ok (.aload_n 0, 1) := by decide +kernel
theorem dX0_weighSets_72 : decode cX0_weighSets 72 = .ok (.iload_n 2, 1) := by decide +kernel
theorem dX0_weighSets_73 : decode cX0_weighSets 73 = .ok (.iload_n 3, 1) := by decide +kernel
theorem dX0_weighSets_74 : decode cX0_weighSets 74 = .ok (.iadd, 1) := by decide +kernel
theorem dX0_weighSets_75 : decode cX0_weighSets 75 = .ok (.invokevirtual 102, 3) := by decide +kernel
theorem dX0_weighSets_78 : decode cX0_weighSets 78 = .ok (.iinc 3 1, 3) := by decide +kernel
theorem dX0_weighSets_81 : decode cX0_weighSets 81 = .ok (.goto (-36), 3) := by decide +kernel
theorem dX0_weighSets_84 : decode cX0_weighSets 84 = .ok (.iinc 1 1, 3) := by decide +kernel
theorem dX0_weighSets_87 : decode cX0_weighSets 87 = .ok (.goto (-63), 3) := by decide +kernel
theorem dX0_weighSets_90 : decode cX0_weighSets 90 = .ok (.return_, 1) := by decide +kernel
theorem dX0_weigh_0 : decode cX0_weigh 0 = .ok (.aload_n 0, 1) := by decide +kernel
theorem dX0_weigh_1 : decode cX0_weigh 1 = .ok (.getfield 33, 3) := by decide +kernel
theorem dX0_weigh_4 : decode cX0_weigh 4 = .ok (.iload_n 1, 1) := by decide +kernel
theorem dX0_weigh_5 : decode cX0_weigh 5 = .ok (.iaload, 1) := by decide +kernel
theorem dX0_weigh_6 : decode cX0_weigh 6 = .ok (.aload_n 0, 1) := by decide +kernel
theorem dX0_weigh_7 : decode cX0_weigh 7 = .ok (.getfield 86, 3) := by decide +kernel
theorem dX0_weigh_10 : decode cX0_weigh 10 = .ok (.if_icmp .eq 4, 3) := by decide +kernel
theorem dX0_weigh_13 : decode cX0_weigh 13 = .ok (.return_, 1) := by decide +kernel
theorem dX0_weigh_14 : decode cX0_weigh 14 = .ok (.iload_n 1, 1) := by decide +kernel
theorem dX0_weigh_15 : decode cX0_weigh 15 = .ok (.invokestatic 105, 3) := by decide +kernel
theorem dX0_weigh_18 : decode cX0_weigh 18 = .ok (.istore_n 2, 1) := by decide +kernel
theorem dX0_weigh_19 : decode cX0_weigh 19 = .ok (.iload_n 2, 1) := by decide +kernel
theorem dX0_weigh_20 : decode cX0_weigh 20 = .ok (.aload_n 0, 1) := by decide +kernel
theorem dX0_weigh_21 : decode cX0_weigh 21 = .ok (.getfield 59, 3) := by decide +kernel
theorem dX0_weigh_24 : decode cX0_weigh 24 = .ok (.if_icmp .ge 31, 3) := by decide +kernel
theorem dX0_weigh_27 : decode cX0_weigh 27 = .ok (.aload_n 0, 1) := by decide +kernel
theorem dX0_weigh_28 : decode cX0_weigh 28 = .ok (.iload_n 2, 1) := by decide +kernel
theorem dX0_weigh_29 : decode cX0_weigh 29 = .ok (.putfield 59, 3) := by decide +kernel
theorem dX0_weigh_32 : decode cX0_weigh 32 = .ok (.aload_n 0, 1) := by decide +kernel
theorem dX0_weigh_33 : decode cX0_weigh 33 = .ok (.iload_n 1, 1) := by decide +kernel
theorem dX0_weigh_34 : decode cX0_weigh 34 = .ok (.putfield 62, 3) := by decide +kernel
theorem dX0_weigh_37 : decode cX0_weigh 37 = .ok (.aload_n 0, 1) := by decide +kernel
theorem dX0_weigh_38 : decode cX0_weigh 38 = .ok (.iload_n 1, 1) := by decide +kernel
theorem dX0_weigh_39 : decode cX0_weigh 39 = .ok (.putfield 111, 3) := by decide +kernel
theorem dX0_weigh_42 : decode cX0_weigh 42 = .ok (.aload_n 0, 1) := by decide +kernel
theorem dX0_weigh_43 : decode cX0_weigh 43 = .ok (.iload_n 1, 1) := by decide +kernel
theorem dX0_weigh_44 : decode cX0_weigh 44 = .ok (.putfield 114, 3) := by decide +kernel
theorem dX0_weigh_47 : decode cX0_weigh 47 = .ok (.aload_n 0, 1) := by decide +kernel
theorem dX0_weigh_48 : decode cX0_weigh 48 = .ok (.iconst 1, 1) := by decide +kernel
theorem dX0_weigh_49 : decode cX0_weigh 49 = .ok (.putfield 117, 3) := by decide +kernel
theorem dX0_weigh_52 : decode cX0_weigh 52 = .ok (.goto 41, 3) := by decide +kernel
theorem dX0_weigh_55 : decode cX0_weigh 55 = .ok (.iload_n 2, 1) := by decide +kernel
theorem dX0_weigh_56 : decode cX0_weigh 56 = .ok (.aload_n 0, 1) := by decide +kernel
theorem dX0_weigh_57 : decode cX0_weigh 57 = .ok (.getfield 59, 3) := by decide +kernel
theorem dX0_weigh_60 : decode cX0_weigh 60 = .ok (.if_icmp .ne 33, 3) := by decide +kernel
theorem dX0_weigh_63 : decode cX0_weigh 63 = .ok (.aload_n 0, 1) := by decide +kernel
theorem dX0_weigh_64 : decode cX0_weigh 64 = .ok (.dup, 1) := by decide +kernel
theorem dX0_weigh_65 : decode cX0_weigh 65 = .ok (.getfield 111, 3) := by decide +kernel
theorem dX0_weigh_68 : decode cX0_weigh 68 = .ok (.iload_n 1, 1) := by decide +kernel
theorem dX0_weigh_69 : decode cX0_weigh 69 = .ok (.iand, 1) := by decide +kernel
theorem dX0_weigh_70 : decode cX0_weigh 70 = .ok (.putfield 111, 3) := by decide +kernel
theorem dX0_weigh_73 : decode cX0_weigh 73 = .ok (.aload_n 0, 1) := by decide +kernel
theorem dX0_weigh_74 : decode cX0_weigh 74 = .ok (.dup, 1) := by decide +kernel
theorem dX0_weigh_75 : decode cX0_weigh 75 = .ok (.getfield 114, 3) := by decide +kernel
theorem dX0_weigh_78 : decode cX0_weigh 78 = .ok (.iload_n 1, 1) := by decide +kernel
theorem dX0_weigh_79 : decode cX0_weigh 79 = .ok (.ior, 1) := by decide +kernel
theorem dX0_weigh_80 : decode cX0_weigh 80 = .ok (.putfield 114, 3) := by decide +kernel
theorem dX0_weigh_83 : decode cX0_weigh 83 = .ok (.aload_n 0, 1) := by decide +kernel
theorem dX0_weigh_84 : decode cX0_weigh 84 = .ok (.dup, 1) := by decide +kernel
theorem dX0_weigh_85 : decode cX0_weigh 85 = .ok (.getfield 117, 3) := by decide +kernel
theorem dX0_weigh_88 : decode cX0_weigh 88 = .ok (.iconst 1, 1) := by decide +kernel
theorem dX0_weigh_89 : decode cX0_weigh 89 = .ok (.iadd, 1) := by decide +kernel
theorem dX0_weigh_90 : decode cX0_weigh 90 = .ok (.putfield 117, 3) := by decide +kernel
theorem dX0_weigh_93 : decode cX0_weigh 93 = .ok (.return_, 1) := by decide +kernel
theorem dX0_inventIn_0 : decode cX0_inventIn 0 = .ok (.iconst 0, 1) := by decide +kernel
theorem dX0_inventIn_1 : decode cX0_inventIn 1 = .ok (.istore_n 2, 1) := by decide +kernel
theorem dX0_inventIn_2 : decode cX0_inventIn 2 = .ok (.iload_n 2, 1) := by decide +kernel
theorem dX0_inventIn_3 : decode cX0_inventIn 3 = .ok (.aload_n 0, 1) := by decide +kernel
theorem dX0_inventIn_4 : decode cX0_inventIn 4 = .ok (.getfield 55, 3) := by decide +kernel
theorem dX0_inventIn_7 : decode cX0_inventIn 7 = .ok (.if_icmp .ge 36, 3) := by decide +kernel
theorem dX0_inventIn_10 : decode cX0_inventIn 10 = .ok (.aload_n 0, 1) := by decide +kernel
theorem dX0_inventIn_11 : decode cX0_inventIn 11 = .ok (.getfield 27, 3) := by decide +kernel
theorem dX0_inventIn_14 : decode cX0_inventIn 14 = .ok (.iload_n 2, 1) := by decide +kernel
theorem dX0_inventIn_15 : decode cX0_inventIn 15 = .ok (.iload_n 1, 1) := by decide +kernel
theorem dX0_inventIn_16 : decode cX0_inventIn 16 = .ok (.iload_n 2, 1) := by decide +kernel
theorem dX0_inventIn_17 : decode cX0_inventIn 17 = .ok (.ishr, 1) := by decide +kernel
theorem dX0_inventIn_18 : decode cX0_inventIn 18 = .ok (.iconst 1, 1) := by decide +kernel
theorem dX0_inventIn_19 : decode cX0_inventIn 19 = .ok (.iand, 1) := by decide +kernel
theorem dX0_inventIn_20 : decode cX0_inventIn 20 = .ok (.iconst 1, 1) := by decide +kernel
theorem dX0_inventIn_21 : decode cX0_inventIn 21 = .ok (.if_icmp .ne 12, 3) := by decide +kernel
theorem dX0_inventIn_24 : decode cX0_inventIn 24 = .ok (.aload_n 0, 1) := by decide +kernel
theorem dX0_inventIn_25 : decode cX0_inventIn 25 = .ok (.getfield 21, 3) := by decide +kernel
theorem dX0_inventIn_28 : decode cX0_inventIn 28 = .ok (.iload_n 2, 1) := by decide +kernel
theorem dX0_inventIn_29 : decode cX0_inventIn 29 = .ok (.iaload, 1) := by decide +kernel
theorem dX0_inventIn_30 : decode cX0_inventIn 30 = .ok (.goto 6, 3) := by decide +kernel
theorem dX0_inventIn_33 : decode cX0_inventIn 33 = .ok (.sipush 1000, 3) := by decide +kernel
theorem dX0_inventIn_36 : decode cX0_inventIn 36 = .ok (.iastore, 1) := by decide +kernel
theorem dX0_inventIn_37 : decode cX0_inventIn 37 = .ok (.iinc 2 1, 3) := by decide +kernel
theorem dX0_inventIn_40 : decode cX0_inventIn 40 = .ok (.goto (-38), 3) := by decide +kernel
theorem dX0_inventIn_43 : decode cX0_inventIn 43 = .ok (.return_, 1) := by decide +kernel
theorem dX0_spread_0 : decode cX0_spread 0 = .ok (.iconst 1, 1) := by decide +kernel
theorem dX0_spread_1 : decode cX0_spread 1 = .ok (.istore_n 1, 1) := by decide +kernel
theorem dX0_spread_2 : decode cX0_spread 2 = .ok (.iconst 0, 1) := by decide +kernel
theorem dX0_spread_3 : decode cX0_spread 3 = .ok (.istore_n 2, 1) := by decide +kernel
theorem dX0_spread_4 : decode cX0_spread 4 = .ok (.iload_n 2, 1) := by decide +kernel
theorem dX0_spread_5 : decode cX0_spread 5 = .ok (.aload_n 0, 1) := by decide +kernel
theorem dX0_spread_6 : decode cX0_spread 6 = .ok (.getfield 55, 3) := by decide +kernel
theorem dX0_spread_9 : decode cX0_spread 9 = .ok (.if_icmp .ge 99, 3) := by decide +kernel
theorem dX0_spread_12 : decode cX0_spread 12 = .ok (.iload_n 1, 1) := by decide +kernel
theorem dX0_spread_13 : decode cX0_spread 13 = .ok (.ifCond .eq 95, 3) := by decide +kernel
theorem dX0_spread_16 : decode cX0_spread 16 = .ok (.iconst 0, 1) := by decide +kernel
theorem dX0_spread_17 : decode cX0_spread 17 = .ok (.istore_n 1, 1) := by decide +kernel
theorem dX0_spread_18 : decode cX0_spread 18 = .ok (.iconst 0, 1) := by decide +kernel
theorem dX0_spread_19 : decode cX0_spread 19 = .ok (.istore_n 3, 1) := by decide +kernel
theorem dX0_spread_20 : decode cX0_spread 20 = .ok (.iload_n 3, 1) := by decide +kernel
theorem dX0_spread_21 : decode cX0_spread 21 = .ok (.aload_n 0, 1) := by decide +kernel
theorem dX0_spread_22 : decode cX0_spread 22 = .ok (.getfield 93, 3) := by decide +kernel
theorem dX0_spread_25 : decode cX0_spread 25 = .ok (.if_icmp .ge 77, 3) := by decide +kernel
theorem dX0_spread_28 : decode cX0_spread 28 = .ok (.aload_n 0, 1) := by decide +kernel
theorem dX0_spread_29 : decode cX0_spread 29 = .ok (.aload_n 0, 1) := by decide +kernel
theorem dX0_spread_30 : decode cX0_spread 30 = .ok (.getfield 9, 3) := by decide +kernel
theorem dX0_spread_33 : decode cX0_spread 33 = .ok (.iload_n 3, 1) := by decide +kernel
theorem dX0_spread_34 : decode cX0_spread 34 = .ok (.iaload, 1) := by decide +kernel
theorem dX0_spread_35 : decode cX0_spread 35 = .ok (.aload_n 0, 1) := by decide +kernel
theorem dX0_spread_36 : decode cX0_spread 36 = .ok (.getfield 15, 3) := by decide +kernel
theorem dX0_spread_39 : decode cX0_spread 39 = .ok (.iload_n 3, 1) := by decide +kernel
theorem dX0_spread_40 : decode cX0_spread 40 = .ok (.iaload, 1) := by decide +kernel
theorem dX0_spread_41 : decode cX0_spread 41 = .ok (.aload_n 0, 1) := by decide +kernel
theorem dX0_spread_42 : decode cX0_spread 42 = .ok (.getfield 18, 3) := by decide +kernel
theorem dX0_spread_45 : decode cX0_spread 45 = .ok (.iload_n 3, 1) := by decide +kernel
theorem dX0_spread_46 : decode cX0_spread 46 = .ok (.iaload, 1) := by decide +kernel
theorem dX0_spread_47 : decode cX0_spread 47 = .ok (.invokevirtual 120, 3) := by decide +kernel
theorem dX0_spread_50 : decode cX0_spread 50 = .ok (.istore 4, 2) := by decide +kernel
theorem dX0_spread_52 : decode cX0_spread 52 = .ok (.aload_n 0, 1) := by decide +kernel
theorem dX0_spread_53 : decode cX0_spread 53 = .ok (.aload_n 0, 1) := by decide +kernel
theorem dX0_spread_54 : decode cX0_spread 54 = .ok (.getfield 15, 3) := by decide +kernel
theorem dX0_spread_57 : decode cX0_spread 57 = .ok (.iload_n 3, 1) := by decide +kernel
theorem dX0_spread_58 : decode cX0_spread 58 = .ok (.iaload, 1) := by decide +kernel
theorem dX0_spread_59 : decode cX0_spread 59 = .ok (.aload_n 0, 1) := by decide +kernel
theorem dX0_spread_60 : decode cX0_spread 60 = .ok (.getfield 9, 3) := by decide +kernel
theorem dX0_spread_63 : decode cX0_spread 63 = .ok (.iload_n 3, 1) := by decide +kernel
theorem dX0_spread_64 : decode cX0_spread 64 = .ok (.iaload, 1) := by decide +kernel
theorem dX0_spread_65 : decode cX0_spread 65 = .ok (.aload_n 0, 1) := by decide +kernel
theorem dX0_spread_66 : decode cX0_spread 66 = .ok (.getfield 18, 3) := by decide +kernel
theorem dX0_spread_69 : decode cX0_spread 69 = .ok (.iload_n 3, 1) := by decide +kernel
theorem dX0_spread_70 : decode cX0_spread 70 = .ok (.iaload, 1) := by decide +kernel
theorem dX0_spread_71 : decode cX0_spread 71 = .ok (.invokevirtual 120, 3) := by decide +kernel
theorem dX0_spread_74 : decode cX0_spread 74 = .ok (.istore 5, 2) := by decide +kernel
theorem dX0_spread_76 : decode cX0_spread 76 = .ok (.iload_n 1, 1) := by decide +kernel
theorem dX0_spread_77 : decode cX0_spread 77 = .ok (.ifCond .ne 13, 3) := by decide +kernel
theorem dX0_spread_80 : decode cX0_spread 80 = .ok (.iload 4, 2) := by decide +kernel
theorem dX0_spread_82 : decode cX0_spread 82 = .ok (.ifCond .ne 8, 3) := by decide +kernel
theorem dX0_spread_85 : decode cX0_spread 85 = .ok (.iload 5, 2) := by decide +kernel
theorem dX0_spread_87 : decode cX0_spread 87 = .ok (.ifCond .eq 7, 3) := by decide +kernel
theorem dX0_spread_90 : decode cX0_spread 90 = .ok (.iconst 1, 1) := by decide +kernel
theorem dX0_spread_91 : decode cX0_spread 91 = .ok (.goto 4, 3) := by decide +kernel
theorem dX0_spread_94 : decode cX0_spread 94 = .ok (.iconst 0, 1) := by decide +kernel
theorem dX0_spread_95 : decode cX0_spread 95 = .ok (.istore_n 1, 1) := by decide +kernel
theorem dX0_spread_96 : decode cX0_spread 96 = .ok (.iinc 3 1, 3) := by decide +kernel
theorem dX0_spread_99 : decode cX0_spread 99 = .ok (.goto (-79), 3) := by decide +kernel
theorem dX0_spread_102 : decode cX0_spread 102 = .ok (.iinc 2 1, 3) := by decide +kernel
theorem dX0_spread_105 : decode cX0_spread 105 = .ok (.goto (-101), 3) := by decide +kernel
theorem dX0_spread_108 : decode cX0_spread 108 = .ok (.return_, 1) := by decide +kernel
theorem dX0_passOn_0 : decode cX0_passOn 0 = .ok (.aload_n 0, 1) := by decide +kernel
theorem dX0_passOn_1 : decode cX0_passOn 1 = .ok (.getfield 27, 3) := by decide +kernel
theorem dX0_passOn_4 : decode cX0_passOn 4 = .ok (.iload_n 1, 1) := by decide +kernel
theorem dX0_passOn_5 : decode cX0_passOn 5 = .ok (.iaload, 1) := by decide +kernel
theorem dX0_passOn_6 : decode cX0_passOn 6 = .ok (.iload_n 3, 1) := by decide +kernel
theorem dX0_passOn_7 : decode cX0_passOn 7 = .ok (.iadd, 1) := by decide +kernel
theorem dX0_passOn_8 : decode cX0_passOn 8 = .ok (.istore 4, 2) := by decide +kernel
theorem dX0_passOn_10 : decode cX0_passOn 10 = .ok (.iload 4, 2) := by decide +kernel
theorem dX0_passOn_12 : decode cX0_passOn 12 = .ok (.aload_n 0, 1) := by decide +kernel
theorem dX0_passOn_13 : decode cX0_passOn 13 = .ok (.getfield 21, 3) := by decide +kernel
theorem dX0_passOn_16 : decode cX0_passOn 16 = .ok (.iload_n 2, 1) := by decide +kernel
theorem dX0_passOn_17 : decode cX0_passOn 17 = .ok (.iaload, 1) := by decide +kernel
theorem dX0_passOn_18 : decode cX0_passOn 18 = .ok (.if_icmp .ge 11, 3) := by decide +kernel
theorem dX0_passOn_21 : decode cX0_passOn 21 = .ok (.aload_n 0, 1) := by decide +kernel
theorem dX0_passOn_22 : decode cX0_passOn 22 = .ok (.getfield 21, 3) := by decide +kernel
theorem dX0_passOn_25 : decode cX0_passOn 25 = .ok (.iload_n 2, 1) := by decide +kernel
theorem dX0_passOn_26 : decode cX0_passOn 26 = .ok (.iaload, 1) := by decide +kernel
theorem dX0_passOn_27 : decode cX0_passOn 27 = .ok (.istore 4, 2) := by decide +kernel
theorem dX0_passOn_29 : decode cX0_passOn 29 = .ok (.iload 4, 2) := by decide +kernel
theorem dX0_passOn_31 : decode cX0_passOn 31 = .ok (.aload_n 0, 1) := by decide +kernel
theorem dX0_passOn_32 : decode cX0_passOn 32 = .ok (.getfield 27, 3) := by decide +kernel
theorem dX0_passOn_35 : decode cX0_passOn 35 = .ok (.iload_n 2, 1) := by decide +kernel
theorem dX0_passOn_36 : decode cX0_passOn 36 = .ok (.iaload, 1) := by decide +kernel
theorem dX0_passOn_37 : decode cX0_passOn 37 = .ok (.if_icmp .lt 5, 3) := by decide +kernel
theorem dX0_passOn_40 : decode cX0_passOn 40 = .ok (.iconst 0, 1) := by decide +kernel
theorem dX0_passOn_41 : decode cX0_passOn 41 = .ok (.ireturn, 1) := by decide +kernel
theorem dX0_passOn_42 : decode cX0_passOn 42 = .ok (.aload_n 0, 1) := by decide +kernel
theorem dX0_passOn_43 : decode cX0_passOn 43 = .ok (.getfield 27, 3) := by decide +kernel
theorem dX0_passOn_46 : decode cX0_passOn 46 = .ok (.iload_n 2, 1) := by decide +kernel
theorem dX0_passOn_47 : decode cX0_passOn 47 = .ok (.iload 4, 2) := by decide +kernel
theorem dX0_passOn_49 : decode cX0_passOn 49 = .ok (.iastore, 1) := by decide +kernel
theorem dX0_passOn_50 : decode cX0_passOn 50 = .ok (.iconst 1, 1) := by decide +kernel
theorem dX0_passOn_51 : decode cX0_passOn 51 = .ok (.ireturn, 1) := by decide +kernel
theorem dX0_knownInTime_0 : decode cX0_knownInTime 0 = .ok (.iconst 0, 1) := by decide +kernel
theorem dX0_knownInTime_1 : decode cX0_knownInTime 1 = .ok (.istore_n 1, 1) := by decide +kernel
theorem dX0_knownInTime_2 : decode cX0_knownInTime 2 = .ok (.iconst 0, 1) := by decide +kernel
theorem dX0_knownInTime_3 : decode cX0_knownInTime 3 = .ok (.istore_n 2, 1) := by decide +kernel
theorem dX0_knownInTime_4 : decode cX0_knownInTime 4 = .ok (.iload_n 2, 1) := by decide +kernel
theorem dX0_knownInTime_5 : decode cX0_knownInTime 5 = .ok (.aload_n 0, 1) := by decide +kernel
theorem dX0_knownInTime_6 : decode cX0_knownInTime 6 = .ok (.getfield 55, 3) := by decide +kernel
theorem dX0_knownInTime_9 : decode cX0_knownInTime 9 = .ok (.if_icmp .ge 30, 3) := by decide +kernel
theorem dX0_knownInTime_12 : decode cX0_knownInTime 12 = .ok (.aload_n 0, 1) := by decide +kernel
theorem dX0_knownInTime_13 : decode cX0_knownInTime 13 = .ok (.getfield 27, 3) := by decide +kernel
theorem dX0_knownInTime_16 : decode cX0_knownInTime 16 = .ok (.iload_n 2, 1) := by decide +kernel
theorem dX0_knownInTime_17 : decode cX0_knownInTime 17 = .ok (.iaload, 1) := by decide +kernel
theorem dX0_knownInTime_18 : decode cX0_knownInTime 18 = .ok (.aload_n 0, 1) := by decide +kernel
theorem dX0_knownInTime_19 : decode cX0_knownInTime 19 = .ok (.getfield 24, 3) := by decide +kernel
theorem dX0_knownInTime_22 : decode cX0_knownInTime 22 = .ok (.iload_n 2, 1) := by decide +kernel
theorem dX0_knownInTime_23 : decode cX0_knownInTime 23 = .ok (.iaload, 1) := by decide +kernel
theorem dX0_knownInTime_24 : decode cX0_knownInTime 24 = .ok (.if_icmp .gt 9, 3) := by decide +kernel
theorem dX0_knownInTime_27 : decode cX0_knownInTime 27 = .ok (.iload_n 1, 1) := by decide +kernel
theorem dX0_knownInTime_28 : decode cX0_knownInTime 28 = .ok (.iconst 1, 1) := by decide +kernel
theorem dX0_knownInTime_29 : decode cX0_knownInTime 29 = .ok (.iload_n 2, 1) := by decide +kernel
theorem dX0_knownInTime_30 : decode cX0_knownInTime 30 = .ok (.ishl, 1) := by decide +kernel
theorem dX0_knownInTime_31 : decode cX0_knownInTime 31 = .ok (.ior, 1) := by decide +kernel
theorem dX0_knownInTime_32 : decode cX0_knownInTime 32 = .ok (.istore_n 1, 1) := by decide +kernel
theorem dX0_knownInTime_33 : decode cX0_knownInTime 33 = .ok (.iinc 2 1, 3) := by decide +kernel
theorem dX0_knownInTime_36 : decode cX0_knownInTime 36 = .ok (.goto (-32), 3) := by decide +kernel
theorem dX0_knownInTime_39 : decode cX0_knownInTime 39 = .ok (.iload_n 1, 1) := by decide +kernel
theorem dX0_knownInTime_40 : decode cX0_knownInTime 40 = .ok (.ireturn, 1) := by decide +kernel
theorem dX0_sinceWhen_0 : decode cX0_sinceWhen 0 = .ok (.aload_n 0, 1) := by decide +kernel
theorem dX0_sinceWhen_1 : decode cX0_sinceWhen 1 = .ok (.aload_n 1, 1) := by decide +kernel
theorem dX0_sinceWhen_2 : decode cX0_sinceWhen 2 = .ok (.iload_n 3, 1) := by decide +kernel
theorem dX0_sinceWhen_3 : decode cX0_sinceWhen 3 = .ok (.invokevirtual 36, 3) := by decide +kernel
theorem dX0_sinceWhen_6 : decode cX0_sinceWhen 6 = .ok (.pop, 1) := by decide +kernel
theorem dX0_sinceWhen_7 : decode cX0_sinceWhen 7 = .ok (.iload_n 2, 1) := by decide +kernel
theorem dX0_sinceWhen_8 : decode cX0_sinceWhen 8 = .ok (.ifCond .lt 32, 3) := by decide +kernel
theorem dX0_sinceWhen_11 : decode cX0_sinceWhen 11 = .ok (.iload_n 2, 1) := by decide +kernel
theorem dX0_sinceWhen_12 : decode cX0_sinceWhen 12 = .ok (.aload_n 0, 1) := by decide +kernel
theorem dX0_sinceWhen_13 : decode cX0_sinceWhen 13 = .ok (.getfield 55, 3) := by decide +kernel
theorem dX0_sinceWhen_16 : decode cX0_sinceWhen 16 = .ok (.if_icmp .ge 24, 3) := by decide +kernel
theorem dX0_sinceWhen_19 : decode cX0_sinceWhen 19 = .ok (.aload_n 0, 1) := by decide +kernel
theorem dX0_sinceWhen_20 : decode cX0_sinceWhen 20 = .ok (.getfield 27, 3) := by decide +kernel
theorem dX0_sinceWhen_23 : decode cX0_sinceWhen 23 = .ok (.iload_n 2, 1) := by decide +kernel
theorem dX0_sinceWhen_24 : decode cX0_sinceWhen 24 = .ok (.iaload, 1) := by decide +kernel
theorem dX0_sinceWhen_25 : decode cX0_sinceWhen 25 = .ok (.sipush 1000, 3) := by decide +kernel
theorem dX0_sinceWhen_28 : decode cX0_sinceWhen 28 = .ok (.if_icmp .ge 12, 3) := by decide +kernel
theorem dX0_sinceWhen_31 : decode cX0_sinceWhen 31 = .ok (.aload_n 0, 1) := by decide +kernel
theorem dX0_sinceWhen_32 : decode cX0_sinceWhen 32 = .ok (.getfield 27, 3) := by decide +kernel
theorem dX0_sinceWhen_35 : decode cX0_sinceWhen 35 = .ok (.iload_n 2, 1) := by decide +kernel
theorem dX0_sinceWhen_36 : decode cX0_sinceWhen 36 = .ok (.iaload, 1) := by decide +kernel
theorem dX0_sinceWhen_37 : decode cX0_sinceWhen 37 = .ok (.goto 4, 3) := by decide +kernel
theorem dX0_sinceWhen_40 : decode cX0_sinceWhen 40 = .ok (.iconst (-1), 1) := by decide +kernel
theorem dX0_sinceWhen_41 : decode cX0_sinceWhen 41 = .ok (.ireturn, 1) := by decide +kernel
theorem dX0_townInOrder_0 : decode cX0_townInOrder 0 = .ok (.aload_n 0, 1) := by decide +kernel
theorem dX0_townInOrder_1 : decode cX0_townInOrder 1 = .ok (.aload_n 1, 1) := by decide +kernel
theorem dX0_townInOrder_2 : decode cX0_townInOrder 2 = .ok (.iload_n 2, 1) := by decide +kernel
theorem dX0_townInOrder_3 : decode cX0_townInOrder 3 = .ok (.invokevirtual 36, 3) := by decide +kernel
theorem dX0_townInOrder_6 : decode cX0_townInOrder 6 = .ok (.pop, 1) := by decide +kernel
theorem dX0_townInOrder_7 : decode cX0_townInOrder 7 = .ok (.iconst 0, 1) := by decide +kernel
theorem dX0_townInOrder_8 : decode cX0_townInOrder 8 = .ok (.istore 4, 2) := by decide +kernel
theorem dX0_townInOrder_10 : decode cX0_townInOrder 10 = .ok (.iload 4, 2) := by decide +kernel
theorem dX0_townInOrder_12 : decode cX0_townInOrder 12 = .ok (.aload_n 0, 1) := by decide +kernel
theorem dX0_townInOrder_13 : decode cX0_townInOrder 13 = .ok (.getfield 55, 3) := by decide +kernel
theorem dX0_townInOrder_16 : decode cX0_townInOrder 16 = .ok (.if_icmp .ge 35, 3) := by decide +kernel
theorem dX0_townInOrder_19 : decode cX0_townInOrder 19 = .ok (.aload_n 0, 1) := by decide +kernel
theorem dX0_townInOrder_20 : decode cX0_townInOrder 20 = .ok (.getfield 27, 3) := by decide +kernel
theorem dX0_townInOrder_23 : decode cX0_townInOrder 23 = .ok (.iload 4, 2) := by decide +kernel
theorem dX0_townInOrder_25 : decode cX0_townInOrder 25 = .ok (.iaload, 1) := by decide +kernel
theorem dX0_townInOrder_26 : decode cX0_townInOrder 26 = .ok (.sipush 1000, 3) := by decide +kernel
theorem dX0_townInOrder_29 : decode cX0_townInOrder 29 = .ok (.if_icmp .ge 16, 3) := by decide +kernel
theorem dX0_townInOrder_32 : decode cX0_townInOrder 32 = .ok (.aload_n 0, 1) := by decide +kernel
theorem dX0_townInOrder_33 : decode cX0_townInOrder 33 = .ok (.iload 4, 2) := by decide +kernel
theorem dX0_townInOrder_35 : decode cX0_townInOrder 35 = .ok (.invokevirtual 124, 3) := by decide +kernel
theorem dX0_townInOrder_38 : decode cX0_townInOrder 38 = .ok (.iload_n 3, 1) := by decide +kernel
theorem dX0_townInOrder_39 : decode cX0_townInOrder 39 = .ok (.if_icmp .ne 6, 3) := by decide +kernel
theorem dX0_townInOrder_42 : decode cX0_townInOrder 42 = .ok (.iload 4, 2) := by decide +kernel
theorem dX0_townInOrder_44 : decode cX0_townInOrder 44 = .ok (.ireturn, 1) := by decide +kernel
theorem dX0_townInOrder_45 : decode cX0_townInOrder 45 = .ok (.iinc 4 1, 3) := by decide +kernel
theorem dX0_townInOrder_48 : decode cX0_townInOrder 48 = .ok (.goto (-38), 3) := by decide +kernel
theorem dX0_townInOrder_51 : decode cX0_townInOrder 51 = .ok (.iconst (-1), 1) := by decide +kernel
theorem dX0_townInOrder_52 : decode cX0_townInOrder 52 = .ok (.ireturn, 1) := by decide +kernel
theorem dX0_townsBefore_0 : decode cX0_townsBefore 0 = .ok (.iconst 0, 1) := by decide +kernel
theorem dX0_townsBefore_1 : decode cX0_townsBefore 1 = .ok (.istore_n 2, 1) := by decide +kernel
theorem dX0_townsBefore_2 : decode cX0_townsBefore 2 = .ok (.iconst 0, 1) := by decide +kernel
theorem dX0_townsBefore_3 : decode cX0_townsBefore 3 = .ok (.istore_n 3, 1) := by decide +kernel
theorem dX0_townsBefore_4 : decode cX0_townsBefore 4 = .ok (.iload_n 3, 1) := by decide +kernel
theorem dX0_townsBefore_5 : decode cX0_townsBefore 5 = .ok (.aload_n 0, 1) := by decide +kernel
theorem dX0_townsBefore_6 : decode cX0_townsBefore 6 = .ok (.getfield 55, 3) := by decide +kernel
theorem dX0_townsBefore_9 : decode cX0_townsBefore 9 = .ok (.if_icmp .ge 47, 3) := by decide +kernel
theorem dX0_townsBefore_12 : decode cX0_townsBefore 12 = .ok (.aload_n 0, 1) := by decide +kernel
theorem dX0_townsBefore_13 : decode cX0_townsBefore 13 = .ok (.getfield 27, 3) := by decide +kernel
theorem dX0_townsBefore_16 : decode cX0_townsBefore 16 = .ok (.iload_n 3, 1) := by decide +kernel
theorem dX0_townsBefore_17 : decode cX0_townsBefore 17 = .ok (.iaload, 1) := by decide +kernel
theorem dX0_townsBefore_18 : decode cX0_townsBefore 18 = .ok (.aload_n 0, 1) := by decide +kernel
theorem dX0_townsBefore_19 : decode cX0_townsBefore 19 = .ok (.getfield 27, 3) := by decide +kernel
theorem dX0_townsBefore_22 : decode cX0_townsBefore 22 = .ok (.iload_n 1, 1) := by decide +kernel
theorem dX0_townsBefore_23 : decode cX0_townsBefore 23 = .ok (.iaload, 1) := by decide +kernel
theorem dX0_townsBefore_24 : decode cX0_townsBefore 24 = .ok (.if_icmp .lt 23, 3) := by decide +kernel
theorem dX0_townsBefore_27 : decode cX0_townsBefore 27 = .ok (.aload_n 0, 1) := by decide +kernel
theorem dX0_townsBefore_28 : decode cX0_townsBefore 28 = .ok (.getfield 27, 3) := by decide +kernel
theorem dX0_townsBefore_31 : decode cX0_townsBefore 31 = .ok (.iload_n 3, 1) := by decide +kernel
theorem dX0_townsBefore_32 : decode cX0_townsBefore 32 = .ok (.iaload, 1) := by decide +kernel
theorem dX0_townsBefore_33 : decode cX0_townsBefore 33 = .ok (.aload_n 0, 1) := by decide +kernel
theorem dX0_townsBefore_34 : decode cX0_townsBefore 34 = .ok (.getfield 27, 3) := by decide +kernel
theorem dX0_townsBefore_37 : decode cX0_townsBefore 37 = .ok (.iload_n 1, 1) := by decide +kernel
theorem dX0_townsBefore_38 : decode cX0_townsBefore 38 = .ok (.iaload, 1) := by decide +kernel
theorem dX0_townsBefore_39 : decode cX0_townsBefore 39 = .ok (.if_icmp .ne 11, 3) := by decide +kernel
theorem dX0_townsBefore_42 : decode cX0_townsBefore 42 = .ok (.iload_n 3, 1) := by decide +kernel
theorem dX0_townsBefore_43 : decode cX0_townsBefore 43 = .ok (.iload_n 1, 1) := by decide +kernel
theorem dX0_townsBefore_44 : decode cX0_townsBefore 44 = .ok (.if_icmp .ge 6, 3) := by decide +kernel
theorem dX0_townsBefore_47 : decode cX0_townsBefore 47 = .ok (.iinc 2 1, 3) := by decide +kernel
theorem dX0_townsBefore_50 : decode cX0_townsBefore 50 = .ok (.iinc 3 1, 3) := by decide +kernel
theorem dX0_townsBefore_53 : decode cX0_townsBefore 53 = .ok (.goto (-49), 3) := by decide +kernel
theorem dX0_townsBefore_56 : decode cX0_townsBefore 56 = .ok (.iload_n 2, 1) := by decide +kernel
theorem dX0_townsBefore_57 : decode cX0_townsBefore 57 = .ok (.ireturn, 1) := by decide +kernel
theorem dX0_canHavePassed_0 : decode cX0_canHavePassed 0 = .ok (.aload_n 1, 1) := by decide +kernel
theorem dX0_canHavePassed_1 : decode cX0_canHavePassed 1 = .ok (.iload_n 2, 1) := by decide +kernel
theorem dX0_canHavePassed_2 : decode cX0_canHavePassed 2 = .ok (.iload_n 3, 1) := by decide +kernel
theorem dX0_canHavePassed_3 : decode cX0_canHavePassed 3 = .ok (.invokevirtual 96, 3) := by decide +kernel
theorem dX0_canHavePassed_6 : decode cX0_canHavePassed 6 = .ok (.istore 5, 2) := by decide +kernel
theorem dX0_canHavePassed_8 : decode cX0_canHavePassed 8 = .ok (.iload 5, 2) := by decide +kernel
theorem dX0_canHavePassed_10 : decode cX0_canHavePassed 10 = .ok (.iconst (-1), 1) := by decide +kernel
theorem dX0_canHavePassed_11 : decode cX0_canHavePassed 11 = .ok (.if_icmp .eq 25, 3) := by decide +kernel
theorem dX0_canHavePassed_14 : decode cX0_canHavePassed 14 = .ok (.aload_n 0, 1) := by decide +kernel
theorem dX0_canHavePassed_15 : decode cX0_canHavePassed 15 = .ok (.aload_n 1, 1) := by decide +kernel
theorem dX0_canHavePassed_16 : decode cX0_canHavePassed 16 = .ok (.iload 4, 2) := by decide +kernel
theorem dX0_canHavePassed_18 : decode cX0_canHavePassed 18 = .ok (.invokevirtual 36, 3) := by decide +kernel
theorem dX0_canHavePassed_21 : decode cX0_canHavePassed 21 = .ok (.iconst (-1), 1) := by decide +kernel
theorem dX0_canHavePassed_22 : decode cX0_canHavePassed 22 = .ok (.if_icmp .eq 14, 3) := by decide +kernel
theorem dX0_canHavePassed_25 : decode cX0_canHavePassed 25 = .ok (.aload_n 0, 1) := by decide +kernel
theorem dX0_canHavePassed_26 : decode cX0_canHavePassed 26 = .ok (.getfield 86, 3) := by decide +kernel
theorem dX0_canHavePassed_29 : decode cX0_canHavePassed 29 = .ok (.iload_n 3, 1) := by decide +kernel
theorem dX0_canHavePassed_30 : decode cX0_canHavePassed 30 = .ok (.ishr, 1) := by decide +kernel
theorem dX0_canHavePassed_31 : decode cX0_canHavePassed 31 = .ok (.iconst 1, 1) := by decide +kernel
theorem dX0_canHavePassed_32 : decode cX0_canHavePassed 32 = .ok (.iand, 1) := by decide +kernel
theorem dX0_canHavePassed_33 : decode cX0_canHavePassed 33 = .ok (.ifCond .ne 5, 3) := by decide +kernel
theorem dX0_canHavePassed_36 : decode cX0_canHavePassed 36 = .ok (.iconst 0, 1) := by decide +kernel
theorem dX0_canHavePassed_37 : decode cX0_canHavePassed 37 = .ok (.ireturn, 1) := by decide +kernel
theorem dX0_canHavePassed_38 : decode cX0_canHavePassed 38 = .ok (.aload_n 0, 1) := by decide +kernel
theorem dX0_canHavePassed_39 : decode cX0_canHavePassed 39 = .ok (.getfield 21, 3) := by decide +kernel
theorem dX0_canHavePassed_42 : decode cX0_canHavePassed 42 = .ok (.iload_n 3, 1) := by decide +kernel
theorem dX0_canHavePassed_43 : decode cX0_canHavePassed 43 = .ok (.iaload, 1) := by decide +kernel
theorem dX0_canHavePassed_44 : decode cX0_canHavePassed 44 = .ok (.istore 6, 2) := by decide +kernel
theorem dX0_canHavePassed_46 : decode cX0_canHavePassed 46 = .ok (.aload_n 0, 1) := by decide +kernel
theorem dX0_canHavePassed_47 : decode cX0_canHavePassed 47 = .ok (.getfield 21, 3) := by decide +kernel
theorem dX0_canHavePassed_50 : decode cX0_canHavePassed 50 = .ok (.iload_n 3, 1) := by decide +kernel
theorem dX0_canHavePassed_51 : decode cX0_canHavePassed 51 = .ok (.sipush 1000, 3) := by decide +kernel
theorem dX0_canHavePassed_54 : decode cX0_canHavePassed 54 = .ok (.iastore, 1) := by decide +kernel
theorem dX0_canHavePassed_55 : decode cX0_canHavePassed 55 = .ok (.iconst 0, 1) := by decide +kernel
theorem dX0_canHavePassed_56 : decode cX0_canHavePassed 56 = .ok (.istore 7, 2) := by decide +kernel
theorem dX0_canHavePassed_58 : decode cX0_canHavePassed 58 = .ok (.iload 7, 2) := by decide +kernel
theorem dX0_canHavePassed_60 : decode cX0_canHavePassed 60 = .ok (.iconst 1, 1) := by decide +kernel
theorem dX0_canHavePassed_61 : decode cX0_canHavePassed 61 = .ok (.aload_n 0, 1) := by decide +kernel
theorem dX0_canHavePassed_62 : decode cX0_canHavePassed 62 = .ok (.getfield 55, 3) := by decide +kernel
theorem dX0_canHavePassed_65 : decode cX0_canHavePassed 65 = .ok (.ishl, 1) := by decide +kernel
theorem dX0_canHavePassed_66 : decode cX0_canHavePassed 66 = .ok (.if_icmp .ge 73, 3) := by decide +kernel
theorem dX0_canHavePassed_69 : decode cX0_canHavePassed 69 = .ok (.aload_n 0, 1) := by decide +kernel
theorem dX0_canHavePassed_70 : decode cX0_canHavePassed 70 = .ok (.getfield 33, 3) := by decide +kernel
theorem dX0_canHavePassed_73 : decode cX0_canHavePassed 73 = .ok (.iload 7, 2) := by decide +kernel
theorem dX0_canHavePassed_75 : decode cX0_canHavePassed 75 = .ok (.iaload, 1) := by decide +kernel
theorem dX0_canHavePassed_76 : decode cX0_canHavePassed 76 = .ok (.aload_n 0, 1) := by decide +kernel
theorem dX0_canHavePassed_77 : decode cX0_canHavePassed 77 = .ok (.getfield 86, 3) := by decide +kernel
theorem dX0_canHavePassed_80 : decode cX0_canHavePassed 80 = .ok (.if_icmp .ne 19, 3) := by decide +kernel
theorem dX0_canHavePassed_83 : decode cX0_canHavePassed 83 = .ok (.iload 7, 2) := by decide +kernel
theorem dX0_canHavePassed_85 : decode cX0_canHavePassed 85 = .ok (.invokestatic 105, 3) := by decide +kernel
theorem dX0_canHavePassed_88 : decode cX0_canHavePassed 88 = .ok (.aload_n 0, 1) := by decide +kernel
theorem dX0_canHavePassed_89 : decode cX0_canHavePassed 89 = .ok (.getfield 59, 3) := by decide +kernel
theorem dX0_canHavePassed_92 : decode cX0_canHavePassed 92 = .ok (.if_icmp .ne 7, 3) := by decide +kernel
theorem dX0_canHavePassed_95 : decode cX0_canHavePassed 95 = .ok (.iconst 1, 1) := by decide +kernel
theorem dX0_canHavePassed_96 : decode cX0_canHavePassed 96 = .ok (.goto 4, 3) := by decide +kernel
theorem dX0_canHavePassed_99 : decode cX0_canHavePassed 99 = .ok (.iconst 0, 1) := by decide +kernel
theorem dX0_canHavePassed_100 : decode cX0_canHavePassed 100 = .ok (.istore 8, 2) := by decide +kernel
theorem dX0_canHavePassed_102 : decode cX0_canHavePassed 102 = .ok (.iload 8, 2) := by decide +kernel
theorem dX0_canHavePassed_104 : decode cX0_canHavePassed 104 = .ok (.ifCond .eq 29, 3) := by decide +kernel
theorem dX0_canHavePassed_107 : decode cX0_canHavePassed 107 = .ok (.iload 7, 2) := by decide +kernel
theorem dX0_canHavePassed_109 : decode cX0_canHavePassed 109 = .ok (.iload_n 3, 1) := by decide +kernel
theorem dX0_canHavePassed_110 : decode cX0_canHavePassed 110 = .ok (.ishr, 1) := by decide +kernel
theorem dX0_canHavePassed_111 : decode cX0_canHavePassed 111 = .ok (.iconst 1, 1) := by decide +kernel
theorem dX0_canHavePassed_112 : decode cX0_canHavePassed 112 = .ok (.iand, 1) := by decide +kernel
theorem dX0_canHavePassed_113 : decode cX0_canHavePassed 113 = .ok (.ifCond .ne 20, 3) := by decide +kernel
theorem dX0_canHavePassed_116 : decode cX0_canHavePassed 116 = .ok (.aload_n 0, 1) := by decide +kernel
theorem dX0_canHavePassed_117 : decode cX0_canHavePassed 117 = .ok (.iload 7, 2) := by decide +kernel
theorem dX0_canHavePassed_119 : decode cX0_canHavePassed 119 = .ok (.iload_n 2, 1) := by decide +kernel
theorem dX0_canHavePassed_120 : decode cX0_canHavePassed 120 = .ok (.iload_n 3, 1) := by decide +kernel
theorem dX0_canHavePassed_121 : decode cX0_canHavePassed 121 = .ok (.iload 5, 2) := by decide +kernel
theorem dX0_canHavePassed_123 : decode cX0_canHavePassed 123 = .ok (.iload 6, 2) := by decide +kernel
theorem dX0_canHavePassed_125 : decode cX0_canHavePassed 125 = .ok (.invokevirtual 127, 3) := by decide +kernel
theorem dX0_canHavePassed_128 : decode cX0_canHavePassed 128 = .ok (.ifCond .eq 5, 3) := by decide +kernel
theorem dX0_canHavePassed_131 : decode cX0_canHavePassed 131 = .ok (.iconst 1, 1) := by decide +kernel
theorem dX0_canHavePassed_132 : decode cX0_canHavePassed 132 = .ok (.ireturn, 1) := by decide +kernel
theorem dX0_canHavePassed_133 : decode cX0_canHavePassed 133 = .ok (.iinc 7 1, 3) := by decide +kernel
theorem dX0_canHavePassed_136 : decode cX0_canHavePassed 136 = .ok (.goto (-78), 3) := by decide +kernel
theorem dX0_canHavePassed_139 : decode cX0_canHavePassed 139 = .ok (.iconst 0, 1) := by decide +kernel
theorem dX0_canHavePassed_140 : decode cX0_canHavePassed 140 = .ok (.ireturn, 1) := by decide +kernel
theorem dX0_explainsByRoad_0 : decode cX0_explainsByRoad 0 = .ok (.aload_n 0, 1) := by decide +kernel
theorem dX0_explainsByRoad_1 : decode cX0_explainsByRoad 1 = .ok (.iload_n 1, 1) := by decide +kernel
theorem dX0_explainsByRoad_2 : decode cX0_explainsByRoad 2 = .ok (.invokevirtual 79, 3) := by decide +kernel
theorem dX0_explainsByRoad_5 : decode cX0_explainsByRoad 5 = .ok (.aload_n 0, 1) := by decide +kernel
theorem dX0_explainsByRoad_6 : decode cX0_explainsByRoad 6 = .ok (.invokevirtual 83, 3) := by decide +kernel
theorem dX0_explainsByRoad_9 : decode cX0_explainsByRoad 9 = .ok (.aload_n 0, 1) := by decide +kernel
theorem dX0_explainsByRoad_10 : decode cX0_explainsByRoad 10 = .ok (.getfield 27, 3) := by decide +kernel
theorem dX0_explainsByRoad_13 : decode cX0_explainsByRoad 13 = .ok (.iload_n 2, 1) := by decide +kernel
theorem dX0_explainsByRoad_14 : decode cX0_explainsByRoad 14 = .ok (.iaload, 1) := by decide +kernel
theorem dX0_explainsByRoad_15 : decode cX0_explainsByRoad 15 = .ok (.iload 4, 2) := by decide +kernel
theorem dX0_explainsByRoad_17 : decode cX0_explainsByRoad 17 = .ok (.iadd, 1) := by decide +kernel
theorem dX0_explainsByRoad_18 : decode cX0_explainsByRoad 18 = .ok (.istore 6, 2) := by decide +kernel
theorem dX0_explainsByRoad_20 : decode cX0_explainsByRoad 20 = .ok (.iload 6, 2) := by decide +kernel
theorem dX0_explainsByRoad_22 : decode cX0_explainsByRoad 22 = .ok (.iload 5, 2) := by decide +kernel
theorem dX0_explainsByRoad_24 : decode cX0_explainsByRoad 24 = .ok (.if_icmp .ge 7, 3) := by decide +kernel
theorem dX0_explainsByRoad_27 : decode cX0_explainsByRoad 27 = .ok (.iload 5, 2) := by decide +kernel
theorem dX0_explainsByRoad_29 : decode cX0_explainsByRoad 29 = .ok (.istore 6, 2) := by decide +kernel
theorem dX0_explainsByRoad_31 : decode cX0_explainsByRoad 31 = .ok (.iload 6, 2) := by decide +kernel
theorem dX0_explainsByRoad_33 : decode cX0_explainsByRoad 33 = .ok (.aload_n 0, 1) := by decide +kernel
theorem dX0_explainsByRoad_34 : decode cX0_explainsByRoad 34 = .ok (.getfield 24, 3) := by decide +kernel
theorem dX0_explainsByRoad_37 : decode cX0_explainsByRoad 37 = .ok (.iload_n 3, 1) := by decide +kernel
theorem dX0_explainsByRoad_38 : decode cX0_explainsByRoad 38 = .ok (.iaload, 1) := by decide +kernel
theorem dX0_explainsByRoad_39 : decode cX0_explainsByRoad 39 = .ok (.if_icmp .le 5, 3) := by decide +kernel
theorem dX0_explainsByRoad_42 : decode cX0_explainsByRoad 42 = .ok (.iconst 0, 1) := by decide +kernel
theorem dX0_explainsByRoad_43 : decode cX0_explainsByRoad 43 = .ok (.ireturn, 1) := by decide +kernel
theorem dX0_explainsByRoad_44 : decode cX0_explainsByRoad 44 = .ok (.aload_n 0, 1) := by decide +kernel
theorem dX0_explainsByRoad_45 : decode cX0_explainsByRoad 45 = .ok (.getfield 27, 3) := by decide +kernel
theorem dX0_explainsByRoad_48 : decode cX0_explainsByRoad 48 = .ok (.iload_n 3, 1) := by decide +kernel
theorem dX0_explainsByRoad_49 : decode cX0_explainsByRoad 49 = .ok (.iload 6, 2) := by decide +kernel
theorem dX0_explainsByRoad_51 : decode cX0_explainsByRoad 51 = .ok (.iastore, 1) := by decide +kernel
theorem dX0_explainsByRoad_52 : decode cX0_explainsByRoad 52 = .ok (.aload_n 0, 1) := by decide +kernel
theorem dX0_explainsByRoad_53 : decode cX0_explainsByRoad 53 = .ok (.invokevirtual 83, 3) := by decide +kernel
theorem dX0_explainsByRoad_56 : decode cX0_explainsByRoad 56 = .ok (.aload_n 0, 1) := by decide +kernel
theorem dX0_explainsByRoad_57 : decode cX0_explainsByRoad 57 = .ok (.invokevirtual 99, 3) := by decide +kernel
theorem dX0_explainsByRoad_60 : decode cX0_explainsByRoad 60 = .ok (.aload_n 0, 1) := by decide +kernel
theorem dX0_explainsByRoad_61 : decode cX0_explainsByRoad 61 = .ok (.getfield 86, 3) := by decide +kernel
theorem dX0_explainsByRoad_64 : decode cX0_explainsByRoad 64 = .ok (.if_icmp .ne 7, 3) := by decide +kernel
theorem dX0_explainsByRoad_67 : decode cX0_explainsByRoad 67 = .ok (.iconst 1, 1) := by decide +kernel
theorem dX0_explainsByRoad_68 : decode cX0_explainsByRoad 68 = .ok (.goto 4, 3) := by decide +kernel
theorem dX0_explainsByRoad_71 : decode cX0_explainsByRoad 71 = .ok (.iconst 0, 1) := by decide +kernel
theorem dX0_explainsByRoad_72 : decode cX0_explainsByRoad 72 = .ok (.ireturn, 1) := by decide +kernel
theorem dX1_init_0 : decode cX1_init 0 = .ok (.aload_n 0, 1) := by decide +kernel
theorem dX1_init_1 : decode cX1_init 1 = .ok (.invokespecial 5, 3) := by decide +kernel
theorem dX1_init_4 : decode cX1_init 4 = .ok (.aload_n 0, 1) := by decide +kernel
theorem dX1_init_5 : decode cX1_init 5 = .ok (.sipush 221, 3) := by decide +kernel
theorem dX1_init_8 : decode cX1_init 8 = .ok (.newarray .int, 2) := by decide +kernel
theorem dX1_init_10 : decode cX1_init 10 = .ok (.putfield 11, 3) := by decide +kernel
theorem dX1_init_13 : decode cX1_init 13 = .ok (.aload_n 0, 1) := by decide +kernel
theorem dX1_init_14 : decode cX1_init 14 = .ok (.getfield 11, 3) := by decide +kernel
theorem dX1_init_17 : decode cX1_init 17 = .ok (.iconst (-1), 1) := by decide +kernel
theorem dX1_init_18 : decode cX1_init 18 = .ok (.invokestatic 15, 3) := by decide +kernel
theorem dX1_init_21 : decode cX1_init 21 = .ok (.aload_n 0, 1) := by decide +kernel
theorem dX1_init_22 : decode cX1_init 22 = .ok (.getfield 11, 3) := by decide +kernel
theorem dX1_init_25 : decode cX1_init 25 = .ok (.iconst 0, 1) := by decide +kernel
theorem dX1_init_26 : decode cX1_init 26 = .ok (.iconst 0, 1) := by decide +kernel
theorem dX1_init_27 : decode cX1_init 27 = .ok (.iastore, 1) := by decide +kernel
theorem dX1_init_28 : decode cX1_init 28 = .ok (.return_, 1) := by decide +kernel
theorem dX1_writeTo_0 : decode cX1_writeTo 0 = .ok (.aload_n 1, 1) := by decide +kernel
theorem dX1_writeTo_1 : decode cX1_writeTo 1 = .ok (.arraylength, 1) := by decide +kernel
theorem dX1_writeTo_2 : decode cX1_writeTo 2 = .ok (.sipush 221, 3) := by decide +kernel
theorem dX1_writeTo_5 : decode cX1_writeTo 5 = .ok (.if_icmp .ne 16, 3) := by decide +kernel
theorem dX1_writeTo_8 : decode cX1_writeTo 8 = .ok (.aload_n 0, 1) := by decide +kernel
theorem dX1_writeTo_9 : decode cX1_writeTo 9 = .ok (.getfield 11, 3) := by decide +kernel
theorem dX1_writeTo_12 : decode cX1_writeTo 12 = .ok (.iconst 0, 1) := by decide +kernel
theorem dX1_writeTo_13 : decode cX1_writeTo 13 = .ok (.aload_n 1, 1) := by decide +kernel
theorem dX1_writeTo_14 : decode cX1_writeTo 14 = .ok (.iconst 0, 1) := by decide +kernel
theorem dX1_writeTo_15 : decode cX1_writeTo 15 = .ok (.sipush 221, 3) := by decide +kernel
theorem dX1_writeTo_18 : decode cX1_writeTo 18 = .ok (.invokestatic 21, 3) := by decide +kernel
theorem dX1_writeTo_21 : decode cX1_writeTo 21 = .ok (.return_, 1) := by decide +kernel
theorem dX1_readFrom_0 : decode cX1_readFrom 0 = .ok (.aload_n 1, 1) := by decide +kernel
theorem dX1_readFrom_1 : decode cX1_readFrom 1 = .ok (.arraylength, 1) := by decide +kernel
theorem dX1_readFrom_2 : decode cX1_readFrom 2 = .ok (.sipush 221, 3) := by decide +kernel
theorem dX1_readFrom_5 : decode cX1_readFrom 5 = .ok (.if_icmp .ne 16, 3) := by decide +kernel
theorem dX1_readFrom_8 : decode cX1_readFrom 8 = .ok (.aload_n 1, 1) := by decide +kernel
theorem dX1_readFrom_9 : decode cX1_readFrom 9 = .ok (.iconst 0, 1) := by decide +kernel
theorem dX1_readFrom_10 : decode cX1_readFrom 10 = .ok (.aload_n 0, 1) := by decide +kernel
theorem dX1_readFrom_11 : decode cX1_readFrom 11 = .ok (.getfield 11, 3) := by decide +kernel
theorem dX1_readFrom_14 : decode cX1_readFrom 14 = .ok (.iconst 0, 1) := by decide +kernel
theorem dX1_readFrom_15 : decode cX1_readFrom 15 = .ok (.sipush 221, 3) := by decide +kernel
theorem dX1_readFrom_18 : decode cX1_readFrom 18 = .ok (.invokestatic 21, 3) := by decide +kernel
theorem dX1_readFrom_21 : decode cX1_readFrom 21 = .ok (.return_, 1) := by decide +kernel
theorem dX1_takeOver_0 : decode cX1_takeOver 0 = .ok (.aload_n 1, 1) := by decide +kernel
theorem dX1_takeOver_1 : decode cX1_takeOver 1 = .ok (.aload_n 0, 1) := by decide +kernel
theorem dX1_takeOver_2 : decode cX1_takeOver 2 = .ok (.getfield 11, 3) := by decide +kernel
theorem dX1_takeOver_5 : decode cX1_takeOver 5 = .ok (.invokevirtual 27, 3) := by decide +kernel
theorem dX1_takeOver_8 : decode cX1_takeOver 8 = .ok (.return_, 1) := by decide +kernel
theorem dX1_townCount_0 : decode cX1_townCount 0 = .ok (.aload_n 0, 1) := by decide +kernel
theorem dX1_townCount_1 : decode cX1_townCount 1 = .ok (.getfield 11, 3) := by decide +kernel
theorem dX1_townCount_4 : decode cX1_townCount 4 = .ok (.iconst 0, 1) := by decide +kernel
theorem dX1_townCount_5 : decode cX1_townCount 5 = .ok (.iaload, 1) := by decide +kernel
theorem dX1_townCount_6 : decode cX1_townCount 6 = .ok (.ireturn, 1) := by decide +kernel
theorem dX1_isTown_0 : decode cX1_isTown 0 = .ok (.iload_n 1, 1) := by decide +kernel
theorem dX1_isTown_1 : decode cX1_isTown 1 = .ok (.ifCond .lt 23, 3) := by decide +kernel
theorem dX1_isTown_4 : decode cX1_isTown 4 = .ok (.iload_n 1, 1) := by decide +kernel
theorem dX1_isTown_5 : decode cX1_isTown 5 = .ok (.aload_n 0, 1) := by decide +kernel
theorem dX1_isTown_6 : decode cX1_isTown 6 = .ok (.getfield 11, 3) := by decide +kernel
theorem dX1_isTown_9 : decode cX1_isTown 9 = .ok (.iconst 0, 1) := by decide +kernel
theorem dX1_isTown_10 : decode cX1_isTown 10 = .ok (.iaload, 1) := by decide +kernel
theorem dX1_isTown_11 : decode cX1_isTown 11 = .ok (.if_icmp .ge 13, 3) := by decide +kernel
theorem dX1_isTown_14 : decode cX1_isTown 14 = .ok (.iload_n 1, 1) := by decide +kernel
theorem dX1_isTown_15 : decode cX1_isTown 15 = .ok (.bipush 10, 2) := by decide +kernel
theorem dX1_isTown_17 : decode cX1_isTown 17 = .ok (.if_icmp .ge 7, 3) := by decide +kernel
theorem dX1_isTown_20 : decode cX1_isTown 20 = .ok (.iconst 1, 1) := by decide +kernel
theorem dX1_isTown_21 : decode cX1_isTown 21 = .ok (.goto 4, 3) := by decide +kernel
theorem dX1_isTown_24 : decode cX1_isTown 24 = .ok (.iconst 0, 1) := by decide +kernel
theorem dX1_isTown_25 : decode cX1_isTown 25 = .ok (.ireturn, 1) := by decide +kernel
theorem dX1_roadLength_0 : decode cX1_roadLength 0 = .ok (.aload_n 0, 1) := by decide +kernel
theorem dX1_roadLength_1 : decode cX1_roadLength 1 = .ok (.iload_n 1, 1) := by decide +kernel
theorem dX1_roadLength_2 : decode cX1_roadLength 2 = .ok (.invokevirtual 31, 3) := by decide +kernel
theorem dX1_roadLength_5 : decode cX1_roadLength 5 = .ok (.ifCond .eq 27, 3) := by decide +kernel
theorem dX1_roadLength_8 : decode cX1_roadLength 8 = .ok (.aload_n 0, 1) := by decide +kernel
theorem dX1_roadLength_9 : decode cX1_roadLength 9 = .ok (.iload_n 2, 1) := by decide +kernel
theorem dX1_roadLength_10 : decode cX1_roadLength 10 = .ok (.invokevirtual 31, 3) := by decide +kernel
theorem dX1_roadLength_13 : decode cX1_roadLength 13 = .ok (.ifCond .eq 19, 3) := by decide +kernel
theorem dX1_roadLength_16 : decode cX1_roadLength 16 = .ok (.aload_n 0, 1) := by decide +kernel
theorem dX1_roadLength_17 : decode cX1_roadLength 17 = .ok (.getfield 11, 3) := by decide +kernel
theorem dX1_roadLength_20 : decode cX1_roadLength 20 = .ok (.iconst 1, 1) := by decide +kernel
theorem dX1_roadLength_21 : decode cX1_roadLength 21 = .ok (.iload_n 1, 1) := by decide +kernel
theorem dX1_roadLength_22 : decode cX1_roadLength 22 = .ok (.bipush 10, 2) := by decide +kernel
theorem dX1_roadLength_24 : decode cX1_roadLength 24 = .ok (.imul, 1) := by decide +kernel
theorem dX1_roadLength_25 : decode cX1_roadLength 25 = .ok (.iadd, 1) := by decide +kernel
theorem dX1_roadLength_26 : decode cX1_roadLength 26 = .ok (.iload_n 2, 1) := by decide +kernel
theorem dX1_roadLength_27 : decode cX1_roadLength 27 = .ok (.iadd, 1) := by decide +kernel
theorem dX1_roadLength_28 : decode cX1_roadLength 28 = .ok (.iaload, 1) := by decide +kernel
theorem dX1_roadLength_29 : decode cX1_roadLength 29 = .ok (.goto 4, 3) := by decide +kernel
theorem dX1_roadLength_32 : decode cX1_roadLength 32 = .ok (.iconst (-1), 1) := by decide +kernel
theorem dX1_roadLength_33 : decode cX1_roadLength 33 = .ok (.ireturn, 1) := by decide +kernel
theorem dX1_roadCount_0 : decode cX1_roadCount 0 = .ok (.iconst 0, 1) := by decide +kernel
theorem dX1_roadCount_1 : decode cX1_roadCount 1 = .ok (.istore_n 1, 1) := by decide +kernel
theorem dX1_roadCount_2 : decode cX1_roadCount 2 = .ok (.iconst 0, 1) := by decide +kernel
theorem dX1_roadCount_3 : decode cX1_roadCount 3 = .ok (.istore_n 2, 1) := by decide +kernel
theorem dX1_roadCount_4 : decode cX1_roadCount 4 = .ok (.iload_n 2, 1) := by decide +kernel
theorem dX1_roadCount_5 : decode cX1_roadCount 5 = .ok (.aload_n 0, 1) := by decide +kernel
theorem dX1_roadCount_6 : decode cX1_roadCount 6 = .ok (.getfield 11, 3) := by decide +kernel
theorem dX1_roadCount_9 : decode cX1_roadCount 9 = .ok (.iconst 0, 1) := by decide +kernel
theorem dX1_roadCount_10 : decode cX1_roadCount 10 = .ok (.iaload, 1) := by decide +kernel
theorem dX1_roadCount_11 : decode cX1_roadCount 11 = .ok (.if_icmp .ge 42, 3) := by decide +kernel
theorem dX1_roadCount_14 : decode cX1_roadCount 14 = .ok (.iload_n 2, 1) := by decide +kernel
theorem dX1_roadCount_15 : decode cX1_roadCount 15 = .ok (.iconst 1, 1) := by decide +kernel
theorem dX1_roadCount_16 : decode cX1_roadCount 16 = .ok (.iadd, 1) := by decide +kernel
theorem dX1_roadCount_17 : decode cX1_roadCount 17 = .ok (.istore_n 3, 1) := by decide +kernel
theorem dX1_roadCount_18 : decode cX1_roadCount 18 = .ok (.iload_n 3, 1) := by decide +kernel
theorem dX1_roadCount_19 : decode cX1_roadCount 19 = .ok (.aload_n 0, 1) := by decide +kernel
theorem dX1_roadCount_20 : decode cX1_roadCount 20 = .ok (.getfield 11, 3) := by decide +kernel
theorem dX1_roadCount_23 : decode cX1_roadCount 23 = .ok (.iconst 0, 1) := by decide +kernel
theorem dX1_roadCount_24 : decode cX1_roadCount 24 = .ok (.iaload, 1) := by decide +kernel
theorem dX1_roadCount_25 : decode cX1_roadCount 25 = .ok (.if_icmp .ge 22, 3) := by decide +kernel
theorem dX1_roadCount_28 : decode cX1_roadCount 28 = .ok (.aload_n 0, 1) := by decide +kernel
theorem dX1_roadCount_29 : decode cX1_roadCount 29 = .ok (.iload_n 2, 1) := by decide +kernel
theorem dX1_roadCount_30 : decode cX1_roadCount 30 = .ok (.iload_n 3, 1) := by decide +kernel
theorem dX1_roadCount_31 : decode cX1_roadCount 31 = .ok (.invokevirtual 35, 3) := by decide +kernel
theorem dX1_roadCount_34 : decode cX1_roadCount 34 = .ok (.iconst (-1), 1) := by decide +kernel
theorem dX1_roadCount_35 : decode cX1_roadCount 35 = .ok (.if_icmp .eq 6, 3) := by decide +kernel
theorem dX1_roadCount_38 : decode cX1_roadCount 38 = .ok (.iinc 1 1, 3) := by decide +kernel
theorem dX1_roadCount_41 : decode cX1_roadCount 41 = .ok (.iinc 3 1, 3) := by decide +kernel
theorem dX1_roadCount_44 : decode cX1_roadCount 44 = .ok (.goto (-26), 3) := by decide +kernel
theorem dX1_roadCount_47 : decode cX1_roadCount 47 = .ok (.iinc 2 1, 3) := by decide +kernel
theorem dX1_roadCount_50 : decode cX1_roadCount 50 = .ok (.goto (-46), 3) := by decide +kernel
theorem dX1_roadCount_53 : decode cX1_roadCount 53 = .ok (.iload_n 1, 1) := by decide +kernel
theorem dX1_roadCount_54 : decode cX1_roadCount 54 = .ok (.ireturn, 1) := by decide +kernel
theorem dX1_roadsAt_0 : decode cX1_roadsAt 0 = .ok (.iconst 0, 1) := by decide +kernel
theorem dX1_roadsAt_1 : decode cX1_roadsAt 1 = .ok (.istore_n 2, 1) := by decide +kernel
theorem dX1_roadsAt_2 : decode cX1_roadsAt 2 = .ok (.iconst 0, 1) := by decide +kernel
theorem dX1_roadsAt_3 : decode cX1_roadsAt 3 = .ok (.istore_n 3, 1) := by decide +kernel
theorem dX1_roadsAt_4 : decode cX1_roadsAt 4 = .ok (.iload_n 3, 1) := by decide +kernel
theorem dX1_roadsAt_5 : decode cX1_roadsAt 5 = .ok (.aload_n 0, 1) := by decide +kernel
theorem dX1_roadsAt_6 : decode cX1_roadsAt 6 = .ok (.getfield 11, 3) := by decide +kernel
theorem dX1_roadsAt_9 : decode cX1_roadsAt 9 = .ok (.iconst 0, 1) := by decide +kernel
theorem dX1_roadsAt_10 : decode cX1_roadsAt 10 = .ok (.iaload, 1) := by decide +kernel
theorem dX1_roadsAt_11 : decode cX1_roadsAt 11 = .ok (.if_icmp .ge 22, 3) := by decide +kernel
theorem dX1_roadsAt_14 : decode cX1_roadsAt 14 = .ok (.aload_n 0, 1) := by decide +kernel
theorem dX1_roadsAt_15 : decode cX1_roadsAt 15 = .ok (.iload_n 1, 1) := by decide +kernel
theorem dX1_roadsAt_16 : decode cX1_roadsAt 16 = .ok (.iload_n 3, 1) := by decide +kernel
theorem dX1_roadsAt_17 : decode cX1_roadsAt 17 = .ok (.invokevirtual 35, 3) := by decide +kernel
theorem dX1_roadsAt_20 : decode cX1_roadsAt 20 = .ok (.iconst (-1), 1) := by decide +kernel
theorem dX1_roadsAt_21 : decode cX1_roadsAt 21 = .ok (.if_icmp .eq 6, 3) := by decide +kernel
theorem dX1_roadsAt_24 : decode cX1_roadsAt 24 = .ok (.iinc 2 1, 3) := by decide +kernel
theorem dX1_roadsAt_27 : decode cX1_roadsAt 27 = .ok (.iinc 3 1, 3) := by decide +kernel
theorem dX1_roadsAt_30 : decode cX1_roadsAt 30 = .ok (.goto (-26), 3) := by decide +kernel
theorem dX1_roadsAt_33 : decode cX1_roadsAt 33 = .ok (.iload_n 2, 1) := by decide +kernel
theorem dX1_roadsAt_34 : decode cX1_roadsAt 34 = .ok (.ireturn, 1) := by decide +kernel
theorem dX1_townBeside_0 : decode cX1_townBeside 0 = .ok (.iconst 0, 1) := by decide +kernel
theorem dX1_townBeside_1 : decode cX1_townBeside 1 = .ok (.istore_n 3, 1) := by decide +kernel
theorem dX1_townBeside_2 : decode cX1_townBeside 2 = .ok (.iconst 0, 1) := by decide +kernel
theorem dX1_townBeside_3 : decode cX1_townBeside 3 = .ok (.istore 4, 2) := by decide +kernel
theorem dX1_townBeside_5 : decode cX1_townBeside 5 = .ok (.iload 4, 2) := by decide +kernel
theorem dX1_townBeside_7 : decode cX1_townBeside 7 = .ok (.aload_n 0, 1) := by decide +kernel
theorem dX1_townBeside_8 : decode cX1_townBeside 8 = .ok (.getfield 11, 3) := by decide +kernel
theorem dX1_townBeside_11 : decode cX1_townBeside 11 = .ok (.iconst 0, 1) := by decide +kernel
theorem dX1_townBeside_12 : decode cX1_townBeside 12 = .ok (.iaload, 1) := by decide +kernel
theorem dX1_townBeside_13 : decode cX1_townBeside 13 = .ok (.if_icmp .ge 31, 3) := by decide +kernel
theorem dX1_townBeside_16 : decode cX1_townBeside 16 = .ok (.aload_n 0, 1) := by decide +kernel
theorem dX1_townBeside_17 : decode cX1_townBeside 17 = .ok (.iload_n 1, 1) := by decide +kernel
theorem dX1_townBeside_18 : decode cX1_townBeside 18 = .ok (.iload 4, 2) := by decide +kernel
theorem dX1_townBeside_20 : decode cX1_townBeside 20 = .ok (.invokevirtual 35, 3) := by decide +kernel
theorem dX1_townBeside_23 : decode cX1_townBeside 23 = .ok (.iconst (-1), 1) := by decide +kernel
theorem dX1_townBeside_24 : decode cX1_townBeside 24 = .ok (.if_icmp .eq 14, 3) := by decide +kernel
theorem dX1_townBeside_27 : decode cX1_townBeside 27 = .ok (.iload_n 3, 1) := by decide +kernel
theorem dX1_townBeside_28 : decode cX1_townBeside 28 = .ok (.iload_n 2, 1) := by decide +kernel
theorem dX1_townBeside_29 : decode cX1_townBeside 29 = .ok (.if_icmp .ne 6, 3) := by decide +kernel
theorem dX1_townBeside_32 : decode cX1_townBeside 32 = .ok (.iload 4, 2) := by decide +kernel
theorem dX1_townBeside_34 : decode cX1_townBeside 34 = .ok (.ireturn, 1) := by decide +kernel
theorem dX1_townBeside_35 : decode cX1_townBeside 35 = .ok (.iinc 3 1, 3) := by decide +kernel
theorem dX1_townBeside_38 : decode cX1_townBeside 38 = .ok (.iinc 4 1, 3) := by decide +kernel
theorem dX1_townBeside_41 : decode cX1_townBeside 41 = .ok (.goto (-36), 3) := by decide +kernel
theorem dX1_townBeside_44 : decode cX1_townBeside 44 = .ok (.iconst (-1), 1) := by decide +kernel
theorem dX1_townBeside_45 : decode cX1_townBeside 45 = .ok (.ireturn, 1) := by decide +kernel
theorem dX1_reportedYear_0 : decode cX1_reportedYear 0 = .ok (.aload_n 0, 1) := by decide +kernel
theorem dX1_reportedYear_1 : decode cX1_reportedYear 1 = .ok (.iload_n 1, 1) := by decide +kernel
theorem dX1_reportedYear_2 : decode cX1_reportedYear 2 = .ok (.invokevirtual 31, 3) := by decide +kernel
theorem dX1_reportedYear_5 : decode cX1_reportedYear 5 = .ok (.ifCond .eq 10, 3) := by decide +kernel
theorem dX1_reportedYear_8 : decode cX1_reportedYear 8 = .ok (.iload_n 2, 1) := by decide +kernel
theorem dX1_reportedYear_9 : decode cX1_reportedYear 9 = .ok (.invokestatic 39, 3) := by decide +kernel
theorem dX1_reportedYear_12 : decode cX1_reportedYear 12 = .ok (.ifCond .ne 5, 3) := by decide +kernel
theorem dX1_reportedYear_15 : decode cX1_reportedYear 15 = .ok (.iconst (-1), 1) := by decide +kernel
theorem dX1_reportedYear_16 : decode cX1_reportedYear 16 = .ok (.ireturn, 1) := by decide +kernel
theorem dX1_reportedYear_17 : decode cX1_reportedYear 17 = .ok (.aload_n 0, 1) := by decide +kernel
theorem dX1_reportedYear_18 : decode cX1_reportedYear 18 = .ok (.getfield 11, 3) := by decide +kernel
theorem dX1_reportedYear_21 : decode cX1_reportedYear 21 = .ok (.iload_n 3, 1) := by decide +kernel
theorem dX1_reportedYear_22 : decode cX1_reportedYear 22 = .ok (.ifCond .eq 8, 3) := by decide +kernel
theorem dX1_reportedYear_25 : decode cX1_reportedYear 25 = .ok (.bipush 101, 2) := by decide +kernel
theorem dX1_reportedYear_27 : decode cX1_reportedYear 27 = .ok (.goto 6, 3) := by decide +kernel
theorem dX1_reportedYear_30 : decode cX1_reportedYear 30 = .ok (.sipush 161, 3) := by decide +kernel
theorem dX1_reportedYear_33 : decode cX1_reportedYear 33 = .ok (.iload_n 1, 1) := by decide +kernel
theorem dX1_reportedYear_34 : decode cX1_reportedYear 34 = .ok (.bipush 6, 2) := by decide +kernel
theorem dX1_reportedYear_36 : decode cX1_reportedYear 36 = .ok (.imul, 1) := by decide +kernel
theorem dX1_reportedYear_37 : decode cX1_reportedYear 37 = .ok (.iadd, 1) := by decide +kernel
theorem dX1_reportedYear_38 : decode cX1_reportedYear 38 = .ok (.iload_n 2, 1) := by decide +kernel
theorem dX1_reportedYear_39 : decode cX1_reportedYear 39 = .ok (.iadd, 1) := by decide +kernel
theorem dX1_reportedYear_40 : decode cX1_reportedYear 40 = .ok (.iaload, 1) := by decide +kernel
theorem dX1_reportedYear_41 : decode cX1_reportedYear 41 = .ok (.ireturn, 1) := by decide +kernel
theorem dX1_isReported_0 : decode cX1_isReported 0 = .ok (.aload_n 0, 1) := by decide +kernel
theorem dX1_isReported_1 : decode cX1_isReported 1 = .ok (.iload_n 1, 1) := by decide +kernel
theorem dX1_isReported_2 : decode cX1_isReported 2 = .ok (.iload_n 2, 1) := by decide +kernel
theorem dX1_isReported_3 : decode cX1_isReported 3 = .ok (.iconst 1, 1) := by decide +kernel
theorem dX1_isReported_4 : decode cX1_isReported 4 = .ok (.invokevirtual 42, 3) := by decide +kernel
theorem dX1_isReported_7 : decode cX1_isReported 7 = .ok (.iconst (-1), 1) := by decide +kernel
theorem dX1_isReported_8 : decode cX1_isReported 8 = .ok (.if_icmp .ne 14, 3) := by decide +kernel
theorem dX1_isReported_11 : decode cX1_isReported 11 = .ok (.aload_n 0, 1) := by decide +kernel
theorem dX1_isReported_12 : decode cX1_isReported 12 = .ok (.iload_n 1, 1) := by decide +kernel
theorem dX1_isReported_13 : decode cX1_isReported 13 = .ok (.iload_n 2, 1) := by decide +kernel
theorem dX1_isReported_14 : decode cX1_isReported 14 = .ok (.iconst 0, 1) := by decide +kernel
theorem dX1_isReported_15 : decode cX1_isReported 15 = .ok (.invokevirtual 42, 3) := by decide +kernel
theorem dX1_isReported_18 : decode cX1_isReported 18 = .ok (.iconst (-1), 1) := by decide +kernel
theorem dX1_isReported_19 : decode cX1_isReported 19 = .ok (.if_icmp .eq 7, 3) := by decide +kernel
theorem dX1_isReported_22 : decode cX1_isReported 22 = .ok (.iconst 1, 1) := by decide +kernel
theorem dX1_isReported_23 : decode cX1_isReported 23 = .ok (.goto 4, 3) := by decide +kernel
theorem dX1_isReported_26 : decode cX1_isReported 26 = .ok (.iconst 0, 1) := by decide +kernel
theorem dX1_isReported_27 : decode cX1_isReported 27 = .ok (.ireturn, 1) := by decide +kernel
theorem dX1_isContradicted_0 : decode cX1_isContradicted 0 = .ok (.aload_n 0, 1) := by decide +kernel
theorem dX1_isContradicted_1 : decode cX1_isContradicted 1 = .ok (.iload_n 1, 1) := by decide +kernel
theorem dX1_isContradicted_2 : decode cX1_isContradicted 2 = .ok (.iload_n 2, 1) := by decide +kernel
theorem dX1_isContradicted_3 : decode cX1_isContradicted 3 = .ok (.iconst 1, 1) := by decide +kernel
theorem dX1_isContradicted_4 : decode cX1_isContradicted 4 = .ok (.invokevirtual 42, 3) := by decide +kernel
theorem dX1_isContradicted_7 : decode cX1_isContradicted 7 = .ok (.istore_n 3, 1) := by decide +kernel
theorem dX1_isContradicted_8 : decode cX1_isContradicted 8 = .ok (.iload_n 3, 1) := by decide +kernel
theorem dX1_isContradicted_9 : decode cX1_isContradicted 9 = .ok (.iconst (-1), 1) := by decide +kernel
theorem dX1_isContradicted_10 : decode cX1_isContradicted 10 = .ok (.if_icmp .eq 18, 3) := by decide +kernel
theorem dX1_isContradicted_13 : decode cX1_isContradicted 13 = .ok (.iload_n 3, 1) := by decide +kernel
theorem dX1_isContradicted_14 : decode cX1_isContradicted 14 = .ok (.aload_n 0, 1) := by decide +kernel
theorem dX1_isContradicted_15 : decode cX1_isContradicted 15 = .ok (.iload_n 1, 1) := by decide +kernel
theorem dX1_isContradicted_16 : decode cX1_isContradicted 16 = .ok (.iload_n 2, 1) := by decide +kernel
theorem dX1_isContradicted_17 : decode cX1_isContradicted 17 = .ok (.iconst 0, 1) := by decide +kernel
theorem dX1_isContradicted_18 : decode cX1_isContradicted 18 = .ok (.invokevirtual 42, 3) := by decide +kernel
theorem dX1_isContradicted_21 : decode cX1_isContradicted 21 = .ok (.if_icmp .gt 7, 3) := by decide +kernel
theorem dX1_isContradicted_24 : decode cX1_isContradicted 24 = .ok (.iconst 1, 1) := by decide +kernel
theorem dX1_isContradicted_25 : decode cX1_isContradicted 25 = .ok (.goto 4, 3) := by decide +kernel
theorem dX1_isContradicted_28 : decode cX1_isContradicted 28 = .ok (.iconst 0, 1) := by decide +kernel
theorem dX1_isContradicted_29 : decode cX1_isContradicted 29 = .ok (.ireturn, 1) := by decide +kernel
theorem dX1_reportedPairs_0 : decode cX1_reportedPairs 0 = .ok (.iconst 0, 1) := by decide +kernel
theorem dX1_reportedPairs_1 : decode cX1_reportedPairs 1 = .ok (.istore_n 1, 1) := by decide +kernel
theorem dX1_reportedPairs_2 : decode cX1_reportedPairs 2 = .ok (.iconst 0, 1) := by decide +kernel
theorem dX1_reportedPairs_3 : decode cX1_reportedPairs 3 = .ok (.istore_n 2, 1) := by decide +kernel
theorem dX1_reportedPairs_4 : decode cX1_reportedPairs 4 = .ok (.iload_n 2, 1) := by decide +kernel
theorem dX1_reportedPairs_5 : decode cX1_reportedPairs 5 = .ok (.aload_n 0, 1) := by decide +kernel
theorem dX1_reportedPairs_6 : decode cX1_reportedPairs 6 = .ok (.getfield 11, 3) := by decide +kernel
theorem dX1_reportedPairs_9 : decode cX1_reportedPairs 9 = .ok (.iconst 0, 1) := by decide +kernel
theorem dX1_reportedPairs_10 : decode cX1_reportedPairs 10 = .ok (.iaload, 1) := by decide +kernel
theorem dX1_reportedPairs_11 : decode cX1_reportedPairs 11 = .ok (.if_icmp .ge 35, 3) := by decide +kernel
theorem dX1_reportedPairs_14 : decode cX1_reportedPairs 14 = .ok (.iconst 0, 1) := by decide +kernel
theorem dX1_reportedPairs_15 : decode cX1_reportedPairs 15 = .ok (.istore_n 3, 1) := by decide +kernel
theorem dX1_reportedPairs_16 : decode cX1_reportedPairs 16 = .ok (.iload_n 3, 1) := by decide +kernel
theorem dX1_reportedPairs_17 : decode cX1_reportedPairs 17 = .ok (.bipush 6, 2) := by decide +kernel
theorem dX1_reportedPairs_19 : decode cX1_reportedPairs 19 = .ok (.if_icmp .ge 21, 3) := by decide +kernel
theorem dX1_reportedPairs_22 : decode cX1_reportedPairs 22 = .ok (.aload_n 0, 1) := by decide +kernel
theorem dX1_reportedPairs_23 : decode cX1_reportedPairs 23 = .ok (.iload_n 2, 1) := by decide +kernel
theorem dX1_reportedPairs_24 : decode cX1_reportedPairs 24 = .ok (.iload_n 3, 1) := by decide +kernel
theorem dX1_reportedPairs_25 : decode cX1_reportedPairs 25 = .ok (.invokevirtual 46, 3) := by decide +kernel
theorem dX1_reportedPairs_28 : decode cX1_reportedPairs 28 = .ok (.ifCond .eq 6, 3) := by decide +kernel
theorem dX1_reportedPairs_31 : decode cX1_reportedPairs 31 = .ok (.iinc 1 1, 3) := by decide +kernel
theorem dX1_reportedPairs_34 : decode cX1_reportedPairs 34 = .ok (.iinc 3 1, 3) := by decide +kernel
theorem dX1_reportedPairs_37 : decode cX1_reportedPairs 37 = .ok (.goto (-21), 3) := by decide +kernel
theorem dX1_reportedPairs_40 : decode cX1_reportedPairs 40 = .ok (.iinc 2 1, 3) := by decide +kernel
theorem dX1_reportedPairs_43 : decode cX1_reportedPairs 43 = .ok (.goto (-39), 3) := by decide +kernel
theorem dX1_reportedPairs_46 : decode cX1_reportedPairs 46 = .ok (.iload_n 1, 1) := by decide +kernel
theorem dX1_reportedPairs_47 : decode cX1_reportedPairs 47 = .ok (.ireturn, 1) := by decide +kernel
theorem dX1_contradictions_0 : decode cX1_contradictions 0 = .ok (.iconst 0, 1) := by decide +kernel
theorem dX1_contradictions_1 : decode cX1_contradictions 1 = .ok (.istore_n 1, 1) := by decide +kernel
theorem dX1_contradictions_2 : decode cX1_contradictions 2 = .ok (.iconst 0, 1) := by decide +kernel
theorem dX1_contradictions_3 : decode cX1_contradictions 3 = .ok (.istore_n 2, 1) := by decide +kernel
theorem dX1_contradictions_4 : decode cX1_contradictions 4 = .ok (.iload_n 2, 1) := by decide +kernel
theorem dX1_contradictions_5 : decode cX1_contradictions 5 = .ok (.aload_n 0, 1) := by decide +kernel
theorem dX1_contradictions_6 : decode cX1_contradictions 6 = .ok (.getfield 11, 3) := by decide +kernel
theorem dX1_contradictions_9 : decode cX1_contradictions 9 = .ok (.iconst 0, 1) := by decide +kernel
theorem dX1_contradictions_10 : decode cX1_contradictions 10 = .ok (.iaload, 1) := by decide +kernel
theorem dX1_contradictions_11 : decode cX1_contradictions 11 = .ok (.if_icmp .ge 35, 3) := by decide +kernel
theorem dX1_contradictions_14 : decode cX1_contradictions 14 = .ok (.iconst 0, 1) := by decide +kernel
theorem dX1_contradictions_15 : decode cX1_contradictions 15 = .ok (.istore_n 3, 1) := by decide +kernel
theorem dX1_contradictions_16 : decode cX1_contradictions 16 = .ok (.iload_n 3, 1) := by decide +kernel
theorem dX1_contradictions_17 : decode cX1_contradictions 17 = .ok (.bipush 6, 2) := by decide +kernel
theorem dX1_contradictions_19 : decode cX1_contradictions 19 = .ok (.if_icmp .ge 21, 3) := by decide +kernel
theorem dX1_contradictions_22 : decode cX1_contradictions 22 = .ok (.aload_n 0, 1) := by decide +kernel
theorem dX1_contradictions_23 : decode cX1_contradictions 23 = .ok (.iload_n 2, 1) := by decide +kernel
theorem dX1_contradictions_24 : decode cX1_contradictions 24 = .ok (.iload_n 3, 1) := by decide +kernel
theorem dX1_contradictions_25 : decode cX1_contradictions 25 = .ok (.invokevirtual 50, 3) := by decide +kernel
theorem dX1_contradictions_28 : decode cX1_contradictions 28 = .ok (.ifCond .eq 6, 3) := by decide +kernel
theorem dX1_contradictions_31 : decode cX1_contradictions 31 = .ok (.iinc 1 1, 3) := by decide +kernel
theorem dX1_contradictions_34 : decode cX1_contradictions 34 = .ok (.iinc 3 1, 3) := by decide +kernel
theorem dX1_contradictions_37 : decode cX1_contradictions 37 = .ok (.goto (-21), 3) := by decide +kernel
theorem dX1_contradictions_40 : decode cX1_contradictions 40 = .ok (.iinc 2 1, 3) := by decide +kernel
theorem dX1_contradictions_43 : decode cX1_contradictions 43 = .ok (.goto (-39), 3) := by decide +kernel
theorem dX1_contradictions_46 : decode cX1_contradictions 46 = .ok (.iload_n 1, 1) := by decide +kernel
theorem dX1_contradictions_47 : decode cX1_contradictions 47 = .ok (.ireturn, 1) := by decide +kernel
theorem dX1_canJoin_0 : decode cX1_canJoin 0 = .ok (.aload_n 0, 1) := by decide +kernel
theorem dX1_canJoin_1 : decode cX1_canJoin 1 = .ok (.iload_n 1, 1) := by decide +kernel
theorem dX1_canJoin_2 : decode cX1_canJoin 2 = .ok (.invokevirtual 31, 3) := by decide +kernel
theorem dX1_canJoin_5 : decode cX1_canJoin 5 = .ok (.ifCond .eq 23, 3) := by decide +kernel
theorem dX1_canJoin_8 : decode cX1_canJoin 8 = .ok (.aload_n 0, 1) := by decide +kernel
theorem dX1_canJoin_9 : decode cX1_canJoin 9 = .ok (.iload_n 2, 1) := by decide +kernel
theorem dX1_canJoin_10 : decode cX1_canJoin 10 = .ok (.invokevirtual 31, 3) := by decide +kernel
theorem dX1_canJoin_13 : decode cX1_canJoin 13 = .ok (.ifCond .eq 15, 3) := by decide +kernel
theorem dX1_canJoin_16 : decode cX1_canJoin 16 = .ok (.iload_n 1, 1) := by decide +kernel
theorem dX1_canJoin_17 : decode cX1_canJoin 17 = .ok (.iload_n 2, 1) := by decide +kernel
theorem dX1_canJoin_18 : decode cX1_canJoin 18 = .ok (.if_icmp .eq 10, 3) := by decide +kernel
theorem dX1_canJoin_21 : decode cX1_canJoin 21 = .ok (.iload_n 3, 1) := by decide +kernel
theorem dX1_canJoin_22 : decode cX1_canJoin 22 = .ok (.invokestatic 53, 3) := by decide +kernel
theorem dX1_canJoin_25 : decode cX1_canJoin 25 = .ok (.ifCond .ne 5, 3) := by decide +kernel
theorem dX1_canJoin_28 : decode cX1_canJoin 28 = .ok (.iconst 0, 1) := by decide +kernel
theorem dX1_canJoin_29 : decode cX1_canJoin 29 = .ok (.ireturn, 1) := by decide +kernel
theorem dX1_canJoin_30 : decode cX1_canJoin 30 = .ok (.aload_n 0, 1) := by decide +kernel
theorem dX1_canJoin_31 : decode cX1_canJoin 31 = .ok (.iload_n 1, 1) := by decide +kernel
theorem dX1_canJoin_32 : decode cX1_canJoin 32 = .ok (.iload_n 2, 1) := by decide +kernel
theorem dX1_canJoin_33 : decode cX1_canJoin 33 = .ok (.invokevirtual 35, 3) := by decide +kernel
theorem dX1_canJoin_36 : decode cX1_canJoin 36 = .ok (.iconst (-1), 1) := by decide +kernel
theorem dX1_canJoin_37 : decode cX1_canJoin 37 = .ok (.if_icmp .eq 5, 3) := by decide +kernel
theorem dX1_canJoin_40 : decode cX1_canJoin 40 = .ok (.iconst 1, 1) := by decide +kernel
theorem dX1_canJoin_41 : decode cX1_canJoin 41 = .ok (.ireturn, 1) := by decide +kernel
theorem dX1_canJoin_42 : decode cX1_canJoin 42 = .ok (.aload_n 0, 1) := by decide +kernel
theorem dX1_canJoin_43 : decode cX1_canJoin 43 = .ok (.iload_n 1, 1) := by decide +kernel
theorem dX1_canJoin_44 : decode cX1_canJoin 44 = .ok (.invokevirtual 56, 3) := by decide +kernel
theorem dX1_canJoin_47 : decode cX1_canJoin 47 = .ok (.iconst 3, 1) := by decide +kernel
theorem dX1_canJoin_48 : decode cX1_canJoin 48 = .ok (.if_icmp .ge 25, 3) := by decide +kernel
theorem dX1_canJoin_51 : decode cX1_canJoin 51 = .ok (.aload_n 0, 1) := by decide +kernel
theorem dX1_canJoin_52 : decode cX1_canJoin 52 = .ok (.iload_n 2, 1) := by decide +kernel
theorem dX1_canJoin_53 : decode cX1_canJoin 53 = .ok (.invokevirtual 56, 3) := by decide +kernel
theorem dX1_canJoin_56 : decode cX1_canJoin 56 = .ok (.iconst 3, 1) := by decide +kernel
theorem dX1_canJoin_57 : decode cX1_canJoin 57 = .ok (.if_icmp .ge 16, 3) := by decide +kernel
theorem dX1_canJoin_60 : decode cX1_canJoin 60 = .ok (.aload_n 0, 1) := by decide +kernel
theorem dX1_canJoin_61 : decode cX1_canJoin 61 = .ok (.invokevirtual 60, 3) := by decide +kernel
theorem dX1_canJoin_64 : decode cX1_canJoin 64 = .ok (.bipush 15, 2) := by decide +kernel
theorem dX1_canJoin_66 : decode cX1_canJoin 66 = .ok (.if_icmp .ge 7, 3) := by decide +kernel
theorem dX1_canJoin_69 : decode cX1_canJoin 69 = .ok (.iconst 1, 1) := by decide +kernel
theorem dX1_canJoin_70 : decode cX1_canJoin 70 = .ok (.goto 4, 3) := by decide +kernel
theorem dX1_canJoin_73 : decode cX1_canJoin 73 = .ok (.iconst 0, 1) := by decide +kernel
theorem dX1_canJoin_74 : decode cX1_canJoin 74 = .ok (.ireturn, 1) := by decide +kernel
theorem dX1_addTown_0 : decode cX1_addTown 0 = .ok (.aload_n 0, 1) := by decide +kernel
theorem dX1_addTown_1 : decode cX1_addTown 1 = .ok (.getfield 11, 3) := by decide +kernel
theorem dX1_addTown_4 : decode cX1_addTown 4 = .ok (.iconst 0, 1) := by decide +kernel
theorem dX1_addTown_5 : decode cX1_addTown 5 = .ok (.iaload, 1) := by decide +kernel
theorem dX1_addTown_6 : decode cX1_addTown 6 = .ok (.istore_n 1, 1) := by decide +kernel
theorem dX1_addTown_7 : decode cX1_addTown 7 = .ok (.iload_n 1, 1) := by decide +kernel
theorem dX1_addTown_8 : decode cX1_addTown 8 = .ok (.bipush 10, 2) := by decide +kernel
theorem dX1_addTown_10 : decode cX1_addTown 10 = .ok (.if_icmp .lt 5, 3) := by decide +kernel
theorem dX1_addTown_13 : decode cX1_addTown 13 = .ok (.iconst (-1), 1) := by decide +kernel
theorem dX1_addTown_14 : decode cX1_addTown 14 = .ok (.ireturn, 1) := by decide +kernel
theorem dX1_addTown_15 : decode cX1_addTown 15 = .ok (.aload_n 0, 1) := by decide +kernel
theorem dX1_addTown_16 : decode cX1_addTown 16 = .ok (.getfield 11, 3) := by decide +kernel
theorem dX1_addTown_19 : decode cX1_addTown 19 = .ok (.iconst 0, 1) := by decide +kernel
theorem dX1_addTown_20 : decode cX1_addTown 20 = .ok (.iload_n 1, 1) := by decide +kernel
theorem dX1_addTown_21 : decode cX1_addTown 21 = .ok (.iconst 1, 1) := by decide +kernel
theorem dX1_addTown_22 : decode cX1_addTown 22 = .ok (.iadd, 1) := by decide +kernel
theorem dX1_addTown_23 : decode cX1_addTown 23 = .ok (.iastore, 1) := by decide +kernel
theorem dX1_addTown_24 : decode cX1_addTown 24 = .ok (.iload_n 1, 1) := by decide +kernel
theorem dX1_addTown_25 : decode cX1_addTown 25 = .ok (.ireturn, 1) := by decide +kernel
theorem dX1_join_0 : decode cX1_join 0 = .ok (.aload_n 0, 1) := by decide +kernel
theorem dX1_join_1 : decode cX1_join 1 = .ok (.iload_n 1, 1) := by decide +kernel
theorem dX1_join_2 : decode cX1_join 2 = .ok (.iload_n 2, 1) := by decide +kernel
theorem dX1_join_3 : decode cX1_join 3 = .ok (.iload_n 3, 1) := by decide +kernel
theorem dX1_join_4 : decode cX1_join 4 = .ok (.invokevirtual 64, 3) := by decide +kernel
theorem dX1_join_7 : decode cX1_join 7 = .ok (.ifCond .ne 5, 3) := by decide +kernel
theorem dX1_join_10 : decode cX1_join 10 = .ok (.iconst 0, 1) := by decide +kernel
theorem dX1_join_11 : decode cX1_join 11 = .ok (.ireturn, 1) := by decide +kernel
theorem dX1_join_12 : decode cX1_join 12 = .ok (.aload_n 0, 1) := by decide +kernel
theorem dX1_join_13 : decode cX1_join 13 = .ok (.iload_n 1, 1) := by decide +kernel
theorem dX1_join_14 : decode cX1_join 14 = .ok (.iload_n 2, 1) := by decide +kernel
theorem dX1_join_15 : decode cX1_join 15 = .ok (.iload_n 3, 1) := by decide +kernel
theorem dX1_join_16 : decode cX1_join 16 = .ok (.invokevirtual 68, 3) := by decide +kernel
theorem dX1_join_19 : decode cX1_join 19 = .ok (.iconst 1, 1) := by decide +kernel
theorem dX1_join_20 : decode cX1_join 20 = .ok (.ireturn, 1) := by decide +kernel
theorem dX1_cut_0 : decode cX1_cut 0 = .ok (.aload_n 0, 1) := by decide +kernel
theorem dX1_cut_1 : decode cX1_cut 1 = .ok (.iload_n 1, 1) := by decide +kernel
theorem dX1_cut_2 : decode cX1_cut 2 = .ok (.iload_n 2, 1) := by decide +kernel
theorem dX1_cut_3 : decode cX1_cut 3 = .ok (.invokevirtual 35, 3) := by decide +kernel
theorem dX1_cut_6 : decode cX1_cut 6 = .ok (.istore_n 3, 1) := by decide +kernel
theorem dX1_cut_7 : decode cX1_cut 7 = .ok (.iload_n 3, 1) := by decide +kernel
theorem dX1_cut_8 : decode cX1_cut 8 = .ok (.iconst (-1), 1) := by decide +kernel
theorem dX1_cut_9 : decode cX1_cut 9 = .ok (.if_icmp .eq 10, 3) := by decide +kernel
theorem dX1_cut_12 : decode cX1_cut 12 = .ok (.aload_n 0, 1) := by decide +kernel
theorem dX1_cut_13 : decode cX1_cut 13 = .ok (.iload_n 1, 1) := by decide +kernel
theorem dX1_cut_14 : decode cX1_cut 14 = .ok (.iload_n 2, 1) := by decide +kernel
theorem dX1_cut_15 : decode cX1_cut 15 = .ok (.iconst (-1), 1) := by decide +kernel
theorem dX1_cut_16 : decode cX1_cut 16 = .ok (.invokevirtual 68, 3) := by decide +kernel
theorem dX1_cut_19 : decode cX1_cut 19 = .ok (.iload_n 3, 1) := by decide +kernel
theorem dX1_cut_20 : decode cX1_cut 20 = .ok (.ireturn, 1) := by decide +kernel
theorem dX1_setRoad_0 : decode cX1_setRoad 0 = .ok (.aload_n 0, 1) := by decide +kernel
theorem dX1_setRoad_1 : decode cX1_setRoad 1 = .ok (.iload_n 1, 1) := by decide +kernel
theorem dX1_setRoad_2 : decode cX1_setRoad 2 = .ok (.invokevirtual 31, 3) := by decide +kernel
theorem dX1_setRoad_5 : decode cX1_setRoad 5 = .ok (.ifCond .eq 39, 3) := by decide +kernel
theorem dX1_setRoad_8 : decode cX1_setRoad 8 = .ok (.aload_n 0, 1) := by decide +kernel
theorem dX1_setRoad_9 : decode cX1_setRoad 9 = .ok (.iload_n 2, 1) := by decide +kernel
theorem dX1_setRoad_10 : decode cX1_setRoad 10 = .ok (.invokevirtual 31, 3) := by decide +kernel
theorem dX1_setRoad_13 : decode cX1_setRoad 13 = .ok (.ifCond .eq 31, 3) := by decide +kernel
theorem dX1_setRoad_16 : decode cX1_setRoad 16 = .ok (.aload_n 0, 1) := by decide +kernel
theorem dX1_setRoad_17 : decode cX1_setRoad 17 = .ok (.getfield 11, 3) := by decide +kernel
theorem dX1_setRoad_20 : decode cX1_setRoad 20 = .ok (.iconst 1, 1) := by decide +kernel
theorem dX1_setRoad_21 : decode cX1_setRoad 21 = .ok (.iload_n 1, 1) := by decide +kernel
theorem dX1_setRoad_22 : decode cX1_setRoad 22 = .ok (.bipush 10, 2) := by decide +kernel
theorem dX1_setRoad_24 : decode cX1_setRoad 24 = .ok (.imul, 1) := by decide +kernel
theorem dX1_setRoad_25 : decode cX1_setRoad 25 = .ok (.iadd, 1) := by decide +kernel
theorem dX1_setRoad_26 : decode cX1_setRoad 26 = .ok (.iload_n 2, 1) := by decide +kernel
theorem dX1_setRoad_27 : decode cX1_setRoad 27 = .ok (.iadd, 1) := by decide +kernel
theorem dX1_setRoad_28 : decode cX1_setRoad 28 = .ok (.iload_n 3, 1) := by decide +kernel
theorem dX1_setRoad_29 : decode cX1_setRoad 29 = .ok (.iastore, 1) := by decide +kernel
theorem dX1_setRoad_30 : decode cX1_setRoad 30 = .ok (.aload_n 0, 1) := by decide +kernel
theorem dX1_setRoad_31 : decode cX1_setRoad 31 = .ok (.getfield 11, 3) := by decide +kernel
theorem dX1_setRoad_34 : decode cX1_setRoad 34 = .ok (.iconst 1, 1) := by decide +kernel
theorem dX1_setRoad_35 : decode cX1_setRoad 35 = .ok (.iload_n 2, 1) := by decide +kernel
theorem dX1_setRoad_36 : decode cX1_setRoad 36 = .ok (.bipush 10, 2) := by decide +kernel
theorem dX1_setRoad_38 : decode cX1_setRoad 38 = .ok (.imul, 1) := by decide +kernel
theorem dX1_setRoad_39 : decode cX1_setRoad 39 = .ok (.iadd, 1) := by decide +kernel
theorem dX1_setRoad_40 : decode cX1_setRoad 40 = .ok (.iload_n 1, 1) := by decide +kernel
theorem dX1_setRoad_41 : decode cX1_setRoad 41 = .ok (.iadd, 1) := by decide +kernel
theorem dX1_setRoad_42 : decode cX1_setRoad 42 = .ok (.iload_n 3, 1) := by decide +kernel
theorem dX1_setRoad_43 : decode cX1_setRoad 43 = .ok (.iastore, 1) := by decide +kernel
theorem dX1_setRoad_44 : decode cX1_setRoad 44 = .ok (.return_, 1) := by decide +kernel
theorem dX1_note_0 : decode cX1_note 0 = .ok (.aload_n 0, 1) := by decide +kernel
theorem dX1_note_1 : decode cX1_note 1 = .ok (.iload_n 1, 1) := by decide +kernel
theorem dX1_note_2 : decode cX1_note 2 = .ok (.invokevirtual 31, 3) := by decide +kernel
theorem dX1_note_5 : decode cX1_note 5 = .ok (.ifCond .eq 17, 3) := by decide +kernel
theorem dX1_note_8 : decode cX1_note 8 = .ok (.iload_n 2, 1) := by decide +kernel
theorem dX1_note_9 : decode cX1_note 9 = .ok (.invokestatic 39, 3) := by decide +kernel
theorem dX1_note_12 : decode cX1_note 12 = .ok (.ifCond .eq 10, 3) := by decide +kernel
theorem dX1_note_15 : decode cX1_note 15 = .ok (.iload_n 3, 1) := by decide +kernel
theorem dX1_note_16 : decode cX1_note 16 = .ok (.invokestatic 72, 3) := by decide +kernel
theorem dX1_note_19 : decode cX1_note 19 = .ok (.ifCond .ne 5, 3) := by decide +kernel
theorem dX1_note_22 : decode cX1_note 22 = .ok (.iconst (-1), 1) := by decide +kernel
theorem dX1_note_23 : decode cX1_note 23 = .ok (.ireturn, 1) := by decide +kernel
theorem dX1_note_24 : decode cX1_note 24 = .ok (.iload 4, 2) := by decide +kernel
theorem dX1_note_26 : decode cX1_note 26 = .ok (.ifCond .eq 8, 3) := by decide +kernel
theorem dX1_note_29 : decode cX1_note 29 = .ok (.bipush 101, 2) := by decide +kernel
theorem dX1_note_31 : decode cX1_note 31 = .ok (.goto 6, 3) := by decide +kernel
theorem dX1_note_34 : decode cX1_note 34 = .ok (.sipush 161, 3) := by decide +kernel
theorem dX1_note_37 : decode cX1_note 37 = .ok (.iload_n 1, 1) := by decide +kernel
theorem dX1_note_38 : decode cX1_note 38 = .ok (.bipush 6, 2) := by decide +kernel
theorem dX1_note_40 : decode cX1_note 40 = .ok (.imul, 1) := by decide +kernel
theorem dX1_note_41 : decode cX1_note 41 = .ok (.iadd, 1) := by decide +kernel
theorem dX1_note_42 : decode cX1_note 42 = .ok (.iload_n 2, 1) := by decide +kernel
theorem dX1_note_43 : decode cX1_note 43 = .ok (.iadd, 1) := by decide +kernel
theorem dX1_note_44 : decode cX1_note 44 = .ok (.istore 5, 2) := by decide +kernel
theorem dX1_note_46 : decode cX1_note 46 = .ok (.aload_n 0, 1) := by decide +kernel
theorem dX1_note_47 : decode cX1_note 47 = .ok (.getfield 11, 3) := by decide +kernel
theorem dX1_note_50 : decode cX1_note 50 = .ok (.iload 5, 2) := by decide +kernel
theorem dX1_note_52 : decode cX1_note 52 = .ok (.iaload, 1) := by decide +kernel
theorem dX1_note_53 : decode cX1_note 53 = .ok (.istore 6, 2) := by decide +kernel
theorem dX1_note_55 : decode cX1_note 55 = .ok (.iload 6, 2) := by decide +kernel
theorem dX1_note_57 : decode cX1_note 57 = .ok (.iconst (-1), 1) := by decide +kernel
theorem dX1_note_58 : decode cX1_note 58 = .ok (.if_icmp .eq 23, 3) := by decide +kernel
theorem dX1_note_61 : decode cX1_note 61 = .ok (.iload 4, 2) := by decide +kernel
theorem dX1_note_63 : decode cX1_note 63 = .ok (.ifCond .eq 12, 3) := by decide +kernel
theorem dX1_note_66 : decode cX1_note 66 = .ok (.iload_n 3, 1) := by decide +kernel
theorem dX1_note_67 : decode cX1_note 67 = .ok (.iload 6, 2) := by decide +kernel
theorem dX1_note_69 : decode cX1_note 69 = .ok (.if_icmp .ge 16, 3) := by decide +kernel
theorem dX1_note_72 : decode cX1_note 72 = .ok (.goto 9, 3) := by decide +kernel
theorem dX1_note_75 : decode cX1_note 75 = .ok (.iload_n 3, 1) := by decide +kernel
theorem dX1_note_76 : decode cX1_note 76 = .ok (.iload 6, 2) := by decide +kernel
theorem dX1_note_78 : decode cX1_note 78 = .ok (.if_icmp .le 7, 3) := by decide +kernel
theorem dX1_note_81 : decode cX1_note 81 = .ok (.iconst 1, 1) := by decide +kernel
theorem dX1_note_82 : decode cX1_note 82 = .ok (.goto 4, 3) := by decide +kernel
theorem dX1_note_85 : decode cX1_note 85 = .ok (.iconst 0, 1) := by decide +kernel
theorem dX1_note_86 : decode cX1_note 86 = .ok (.istore 7, 2) := by decide +kernel
theorem dX1_note_88 : decode cX1_note 88 = .ok (.iload 7, 2) := by decide +kernel
theorem dX1_note_90 : decode cX1_note 90 = .ok (.ifCond .eq 11, 3) := by decide +kernel
theorem dX1_note_93 : decode cX1_note 93 = .ok (.aload_n 0, 1) := by decide +kernel
theorem dX1_note_94 : decode cX1_note 94 = .ok (.getfield 11, 3) := by decide +kernel
theorem dX1_note_97 : decode cX1_note 97 = .ok (.iload 5, 2) := by decide +kernel
theorem dX1_note_99 : decode cX1_note 99 = .ok (.iload_n 3, 1) := by decide +kernel
theorem dX1_note_100 : decode cX1_note 100 = .ok (.iastore, 1) := by decide +kernel
theorem dX1_note_101 : decode cX1_note 101 = .ok (.iload 7, 2) := by decide +kernel
theorem dX1_note_103 : decode cX1_note 103 = .ok (.ifCond .eq 7, 3) := by decide +kernel
theorem dX1_note_106 : decode cX1_note 106 = .ok (.iconst 1, 1) := by decide +kernel
theorem dX1_note_107 : decode cX1_note 107 = .ok (.goto 4, 3) := by decide +kernel
theorem dX1_note_110 : decode cX1_note 110 = .ok (.iconst 0, 1) := by decide +kernel
theorem dX1_note_111 : decode cX1_note 111 = .ok (.ireturn, 1) := by decide +kernel
theorem dX1_drop_0 : decode cX1_drop 0 = .ok (.aload_n 0, 1) := by decide +kernel
theorem dX1_drop_1 : decode cX1_drop 1 = .ok (.iload_n 1, 1) := by decide +kernel
theorem dX1_drop_2 : decode cX1_drop 2 = .ok (.invokevirtual 31, 3) := by decide +kernel
theorem dX1_drop_5 : decode cX1_drop 5 = .ok (.ifCond .eq 10, 3) := by decide +kernel
theorem dX1_drop_8 : decode cX1_drop 8 = .ok (.iload_n 2, 1) := by decide +kernel
theorem dX1_drop_9 : decode cX1_drop 9 = .ok (.invokestatic 39, 3) := by decide +kernel
theorem dX1_drop_12 : decode cX1_drop 12 = .ok (.ifCond .ne 5, 3) := by decide +kernel
theorem dX1_drop_15 : decode cX1_drop 15 = .ok (.iconst (-1), 1) := by decide +kernel
theorem dX1_drop_16 : decode cX1_drop 16 = .ok (.ireturn, 1) := by decide +kernel
theorem dX1_drop_17 : decode cX1_drop 17 = .ok (.aload_n 0, 1) := by decide +kernel
theorem dX1_drop_18 : decode cX1_drop 18 = .ok (.iload_n 1, 1) := by decide +kernel
theorem dX1_drop_19 : decode cX1_drop 19 = .ok (.iload_n 2, 1) := by decide +kernel
theorem dX1_drop_20 : decode cX1_drop 20 = .ok (.invokevirtual 46, 3) := by decide +kernel
theorem dX1_drop_23 : decode cX1_drop 23 = .ok (.istore_n 3, 1) := by decide +kernel
theorem dX1_drop_24 : decode cX1_drop 24 = .ok (.aload_n 0, 1) := by decide +kernel
theorem dX1_drop_25 : decode cX1_drop 25 = .ok (.getfield 11, 3) := by decide +kernel
theorem dX1_drop_28 : decode cX1_drop 28 = .ok (.bipush 101, 2) := by decide +kernel
theorem dX1_drop_30 : decode cX1_drop 30 = .ok (.iload_n 1, 1) := by decide +kernel
theorem dX1_drop_31 : decode cX1_drop 31 = .ok (.bipush 6, 2) := by decide +kernel
theorem dX1_drop_33 : decode cX1_drop 33 = .ok (.imul, 1) := by decide +kernel
theorem dX1_drop_34 : decode cX1_drop 34 = .ok (.iadd, 1) := by decide +kernel
theorem dX1_drop_35 : decode cX1_drop 35 = .ok (.iload_n 2, 1) := by decide +kernel
theorem dX1_drop_36 : decode cX1_drop 36 = .ok (.iadd, 1) := by decide +kernel
theorem dX1_drop_37 : decode cX1_drop 37 = .ok (.iconst (-1), 1) := by decide +kernel
theorem dX1_drop_38 : decode cX1_drop 38 = .ok (.iastore, 1) := by decide +kernel
theorem dX1_drop_39 : decode cX1_drop 39 = .ok (.aload_n 0, 1) := by decide +kernel
theorem dX1_drop_40 : decode cX1_drop 40 = .ok (.getfield 11, 3) := by decide +kernel
theorem dX1_drop_43 : decode cX1_drop 43 = .ok (.sipush 161, 3) := by decide +kernel
theorem dX1_drop_46 : decode cX1_drop 46 = .ok (.iload_n 1, 1) := by decide +kernel
theorem dX1_drop_47 : decode cX1_drop 47 = .ok (.bipush 6, 2) := by decide +kernel
theorem dX1_drop_49 : decode cX1_drop 49 = .ok (.imul, 1) := by decide +kernel
theorem dX1_drop_50 : decode cX1_drop 50 = .ok (.iadd, 1) := by decide +kernel
theorem dX1_drop_51 : decode cX1_drop 51 = .ok (.iload_n 2, 1) := by decide +kernel
theorem dX1_drop_52 : decode cX1_drop 52 = .ok (.iadd, 1) := by decide +kernel
theorem dX1_drop_53 : decode cX1_drop 53 = .ok (.iconst (-1), 1) := by decide +kernel
theorem dX1_drop_54 : decode cX1_drop 54 = .ok (.iastore, 1) := by decide +kernel
theorem dX1_drop_55 : decode cX1_drop 55 = .ok (.iload_n 3, 1) := by decide +kernel
theorem dX1_drop_56 : decode cX1_drop 56 = .ok (.ifCond .eq 7, 3) := by decide +kernel
theorem dX1_drop_59 : decode cX1_drop 59 = .ok (.iconst 1, 1) := by decide +kernel
theorem dX1_drop_60 : decode cX1_drop 60 = .ok (.goto 4, 3) := by decide +kernel
theorem dX1_drop_63 : decode cX1_drop 63 = .ok (.iconst 0, 1) := by decide +kernel
theorem dX1_drop_64 : decode cX1_drop 64 = .ok (.ireturn, 1) := by decide +kernel
theorem dX2_init_0 : decode cX2_init 0 = .ok (.aload_n 0, 1) := by decide +kernel
theorem dX2_init_1 : decode cX2_init 1 = .ok (.invokespecial 1, 3) := by decide +kernel
theorem dX2_init_4 : decode cX2_init 4 = .ok (.aload_n 0, 1) := by decide +kernel
theorem dX2_init_5 : decode cX2_init 5 = .ok (.bipush 14, 2) := by decide +kernel
theorem dX2_init_7 : decode cX2_init 7 = .ok (.sipush 221, 3) := by decide +kernel
theorem dX2_init_10 : decode cX2_init 10 = .ok (.multianewarray 11 2, 4) := by decide +kernel
theorem dX2_init_14 : decode cX2_init 14 = .ok (.putfield 13, 3) := by decide +kernel
theorem dX2_init_17 : decode cX2_init 17 = .ok (.aload_n 0, 1) := by decide +kernel
theorem dX2_init_18 : decode cX2_init 18 = .ok (.iconst 0, 1) := by decide +kernel
theorem dX2_init_19 : decode cX2_init 19 = .ok (.putfield 16, 3) := by decide +kernel
theorem dX2_init_22 : decode cX2_init 22 = .ok (.aload_n 0, 1) := by decide +kernel
theorem dX2_init_23 : decode cX2_init 23 = .ok (.iconst 0, 1) := by decide +kernel
theorem dX2_init_24 : decode cX2_init 24 = .ok (.putfield 20, 3) := by decide +kernel
theorem dX2_init_27 : decode cX2_init 27 = .ok (.return_, 1) := by decide +kernel
theorem dX2_isEmpty_0 : decode cX2_isEmpty 0 = .ok (.aload_n 0, 1) := by decide +kernel
theorem dX2_isEmpty_1 : decode cX2_isEmpty 1 = .ok (.getfield 20, 3) := by decide +kernel
theorem dX2_isEmpty_4 : decode cX2_isEmpty 4 = .ok (.ifCond .ne 7, 3) := by decide +kernel
theorem dX2_isEmpty_7 : decode cX2_isEmpty 7 = .ok (.iconst 1, 1) := by decide +kernel
theorem dX2_isEmpty_8 : decode cX2_isEmpty 8 = .ok (.goto 4, 3) := by decide +kernel
theorem dX2_isEmpty_11 : decode cX2_isEmpty 11 = .ok (.iconst 0, 1) := by decide +kernel
theorem dX2_isEmpty_12 : decode cX2_isEmpty 12 = .ok (.ireturn, 1) := by decide +kernel
theorem dX2_clear_0 : decode cX2_clear 0 = .ok (.aload_n 0, 1) := by decide +kernel
theorem dX2_clear_1 : decode cX2_clear 1 = .ok (.iconst 0, 1) := by decide +kernel
theorem dX2_clear_2 : decode cX2_clear 2 = .ok (.putfield 20, 3) := by decide +kernel
theorem dX2_clear_5 : decode cX2_clear 5 = .ok (.return_, 1) := by decide +kernel
theorem dX2_remember_0 : decode cX2_remember 0 = .ok (.aload_n 1, 1) := by decide +kernel
theorem dX2_remember_1 : decode cX2_remember 1 = .ok (.aload_n 0, 1) := by decide +kernel
theorem dX2_remember_2 : decode cX2_remember 2 = .ok (.getfield 13, 3) := by decide +kernel
theorem dX2_remember_5 : decode cX2_remember 5 = .ok (.aload_n 0, 1) := by decide +kernel
theorem dX2_remember_6 : decode cX2_remember 6 = .ok (.getfield 16, 3) := by decide +kernel
theorem dX2_remember_9 : decode cX2_remember 9 = .ok (.aload_n 0, 1) := by decide +kernel
theorem dX2_remember_10 : decode cX2_remember 10 = .ok (.getfield 20, 3) := by decide +kernel
theorem dX2_remember_13 : decode cX2_remember 13 = .ok (.iadd, 1) := by decide +kernel
theorem dX2_remember_14 : decode cX2_remember 14 = .ok (.bipush 14, 2) := by decide +kernel
theorem dX2_remember_16 : decode cX2_remember 16 = .ok (.irem, 1) := by decide +kernel
theorem dX2_remember_17 : decode cX2_remember 17 = .ok (.aaload, 1) := by decide +kernel
theorem dX2_remember_18 : decode cX2_remember 18 = .ok (.invokevirtual 23, 3) := by decide +kernel
theorem dX2_remember_21 : decode cX2_remember 21 = .ok (.aload_n 0, 1) := by decide +kernel
theorem dX2_remember_22 : decode cX2_remember 22 = .ok (.getfield 20, 3) := by decide +kernel
theorem dX2_remember_25 : decode cX2_remember 25 = .ok (.bipush 14, 2) := by decide +kernel
theorem dX2_remember_27 : decode cX2_remember 27 = .ok (.if_icmp .ge 16, 3) := by decide +kernel
theorem dX2_remember_30 : decode cX2_remember 30 = .ok (.aload_n 0, 1) := by decide +kernel
theorem dX2_remember_31 : decode cX2_remember 31 = .ok (.dup, 1) := by decide +kernel
theorem dX2_remember_32 : decode cX2_remember 32 = .ok (.getfield 20, 3) := by decide +kernel
theorem dX2_remember_35 : decode cX2_remember 35 = .ok (.iconst 1, 1) := by decide +kernel
theorem dX2_remember_36 : decode cX2_remember 36 = .ok (.iadd, 1) := by decide +kernel
theorem dX2_remember_37 : decode cX2_remember 37 = .ok (.putfield 20, 3) := by decide +kernel
theorem dX2_remember_40 : decode cX2_remember 40 = .ok (.goto 16, 3) := by decide +kernel
theorem dX2_remember_43 : decode cX2_remember 43 = .ok (.aload_n 0, 1) := by decide +kernel
theorem dX2_remember_44 : decode cX2_remember 44 = .ok (.aload_n 0, 1) := by decide +kernel
theorem dX2_remember_45 : decode cX2_remember 45 = .ok (.getfield 16, 3) := by decide +kernel
theorem dX2_remember_48 : decode cX2_remember 48 = .ok (.iconst 1, 1) := by decide +kernel
theorem dX2_remember_49 : decode cX2_remember 49 = .ok (.iadd, 1) := by decide +kernel
theorem dX2_remember_50 : decode cX2_remember 50 = .ok (.bipush 14, 2) := by decide +kernel
theorem dX2_remember_52 : decode cX2_remember 52 = .ok (.irem, 1) := by decide +kernel
theorem dX2_remember_53 : decode cX2_remember 53 = .ok (.putfield 16, 3) := by decide +kernel
theorem dX2_remember_56 : decode cX2_remember 56 = .ok (.return_, 1) := by decide +kernel
theorem dX2_takeBack_0 : decode cX2_takeBack 0 = .ok (.aload_n 0, 1) := by decide +kernel
theorem dX2_takeBack_1 : decode cX2_takeBack 1 = .ok (.getfield 20, 3) := by decide +kernel
theorem dX2_takeBack_4 : decode cX2_takeBack 4 = .ok (.ifCond .le 34, 3) := by decide +kernel
theorem dX2_takeBack_7 : decode cX2_takeBack 7 = .ok (.aload_n 0, 1) := by decide +kernel
theorem dX2_takeBack_8 : decode cX2_takeBack 8 = .ok (.dup, 1) := by decide +kernel
theorem dX2_takeBack_9 : decode cX2_takeBack 9 = .ok (.getfield 20, 3) := by decide +kernel
theorem dX2_takeBack_12 : decode cX2_takeBack 12 = .ok (.iconst 1, 1) := by decide +kernel
theorem dX2_takeBack_13 : decode cX2_takeBack 13 = .ok (.isub, 1) := by decide +kernel
theorem dX2_takeBack_14 : decode cX2_takeBack 14 = .ok (.putfield 20, 3) := by decide +kernel
theorem dX2_takeBack_17 : decode cX2_takeBack 17 = .ok (.aload_n 1, 1) := by decide +kernel
theorem dX2_takeBack_18 : decode cX2_takeBack 18 = .ok (.aload_n 0, 1) := by decide +kernel
theorem dX2_takeBack_19 : decode cX2_takeBack 19 = .ok (.getfield 13, 3) := by decide +kernel
theorem dX2_takeBack_22 : decode cX2_takeBack 22 = .ok (.aload_n 0, 1) := by decide +kernel
theorem dX2_takeBack_23 : decode cX2_takeBack 23 = .ok (.getfield 16, 3) := by decide +kernel
theorem dX2_takeBack_26 : decode cX2_takeBack 26 = .ok (.aload_n 0, 1) := by decide +kernel
theorem dX2_takeBack_27 : decode cX2_takeBack 27 = .ok (.getfield 20, 3) := by decide +kernel
theorem dX2_takeBack_30 : decode cX2_takeBack 30 = .ok (.iadd, 1) := by decide +kernel
theorem dX2_takeBack_31 : decode cX2_takeBack 31 = .ok (.bipush 14, 2) := by decide +kernel
theorem dX2_takeBack_33 : decode cX2_takeBack 33 = .ok (.irem, 1) := by decide +kernel
theorem dX2_takeBack_34 : decode cX2_takeBack 34 = .ok (.aaload, 1) := by decide +kernel
theorem dX2_takeBack_35 : decode cX2_takeBack 35 = .ok (.invokevirtual 27, 3) := by decide +kernel
theorem dX2_takeBack_38 : decode cX2_takeBack 38 = .ok (.aload_n 0, 1) := by decide +kernel
theorem dX2_takeBack_39 : decode cX2_takeBack 39 = .ok (.getfield 20, 3) := by decide +kernel
theorem dX2_takeBack_42 : decode cX2_takeBack 42 = .ok (.ireturn, 1) := by decide +kernel
theorem dX3_init_0 : decode cX3_init 0 = .ok (.aload_n 0, 1) := by decide +kernel
theorem dX3_init_1 : decode cX3_init 1 = .ok (.invokespecial 3, 3) := by decide +kernel
theorem dX3_init_4 : decode cX3_init 4 = .ok (.aload_n 0, 1) := by decide +kernel
theorem dX3_init_5 : decode cX3_init 5 = .ok (.new 9, 3) := by decide +kernel
theorem dX3_init_8 : decode cX3_init 8 = .ok (.dup, 1) := by decide +kernel
theorem dX3_init_9 : decode cX3_init 9 = .ok (.invokespecial 11, 3) := by decide +kernel
theorem dX3_init_12 : decode cX3_init 12 = .ok (.putfield 12, 3) := by decide +kernel
theorem dX3_init_15 : decode cX3_init 15 = .ok (.aload_n 0, 1) := by decide +kernel
theorem dX3_init_16 : decode cX3_init 16 = .ok (.new 18, 3) := by decide +kernel
theorem dX3_init_19 : decode cX3_init 19 = .ok (.dup, 1) := by decide +kernel
theorem dX3_init_20 : decode cX3_init 20 = .ok (.invokespecial 20, 3) := by decide +kernel
theorem dX3_init_23 : decode cX3_init 23 = .ok (.putfield 21, 3) := by decide +kernel
theorem dX3_init_26 : decode cX3_init 26 = .ok (.return_, 1) := by decide +kernel
theorem dX3_begin_0 : decode cX3_begin 0 = .ok (.aload_n 0, 1) := by decide +kernel
theorem dX3_begin_1 : decode cX3_begin 1 = .ok (.getfield 12, 3) := by decide +kernel
theorem dX3_begin_4 : decode cX3_begin 4 = .ok (.aload_n 1, 1) := by decide +kernel
theorem dX3_begin_5 : decode cX3_begin 5 = .ok (.invokevirtual 25, 3) := by decide +kernel
theorem dX3_begin_8 : decode cX3_begin 8 = .ok (.return_, 1) := by decide +kernel
theorem dX3_inventionsWithRoad_0 : decode cX3_inventionsWithRoad 0 = .ok (.aload_n 0, 1) := by decide +kernel
theorem dX3_inventionsWithRoad_1 : decode cX3_inventionsWithRoad 1 = .ok (.getfield 12, 3) := by decide +kernel
theorem dX3_inventionsWithRoad_4 : decode cX3_inventionsWithRoad 4 = .ok (.iload_n 1, 1) := by decide +kernel
theorem dX3_inventionsWithRoad_5 : decode cX3_inventionsWithRoad 5 = .ok (.iload_n 2, 1) := by decide +kernel
theorem dX3_inventionsWithRoad_6 : decode cX3_inventionsWithRoad 6 = .ok (.iload_n 3, 1) := by decide +kernel
theorem dX3_inventionsWithRoad_7 : decode cX3_inventionsWithRoad 7 = .ok (.invokevirtual 29, 3) := by decide +kernel
theorem dX3_inventionsWithRoad_10 : decode cX3_inventionsWithRoad 10 = .ok (.pop, 1) := by decide +kernel
theorem dX3_inventionsWithRoad_11 : decode cX3_inventionsWithRoad 11 = .ok (.aload_n 0, 1) := by decide +kernel
theorem dX3_inventionsWithRoad_12 : decode cX3_inventionsWithRoad 12 = .ok (.getfield 21, 3) := by decide +kernel
theorem dX3_inventionsWithRoad_15 : decode cX3_inventionsWithRoad 15 = .ok (.aload_n 0, 1) := by decide +kernel
theorem dX3_inventionsWithRoad_16 : decode cX3_inventionsWithRoad 16 = .ok (.getfield 12, 3) := by decide +kernel
theorem dX3_inventionsWithRoad_19 : decode cX3_inventionsWithRoad 19 = .ok (.invokevirtual 33, 3) := by decide +kernel
theorem dX3_inventionsWithRoad_22 : decode cX3_inventionsWithRoad 22 = .ok (.ireturn, 1) := by decide +kernel
theorem dX3_newRoad_0 : decode cX3_newRoad 0 = .ok (.iconst (-1), 1) := by decide +kernel
theorem dX3_newRoad_1 : decode cX3_newRoad 1 = .ok (.istore_n 2, 1) := by decide +kernel
theorem dX3_newRoad_2 : decode cX3_newRoad 2 = .ok (.iconst 0, 1) := by decide +kernel
theorem dX3_newRoad_3 : decode cX3_newRoad 3 = .ok (.istore_n 3, 1) := by decide +kernel
theorem dX3_newRoad_4 : decode cX3_newRoad 4 = .ok (.iconst 0, 1) := by decide +kernel
theorem dX3_newRoad_5 : decode cX3_newRoad 5 = .ok (.istore 4, 2) := by decide +kernel
theorem dX3_newRoad_7 : decode cX3_newRoad 7 = .ok (.iload 4, 2) := by decide +kernel
theorem dX3_newRoad_9 : decode cX3_newRoad 9 = .ok (.aload_n 0, 1) := by decide +kernel
theorem dX3_newRoad_10 : decode cX3_newRoad 10 = .ok (.getfield 12, 3) := by decide +kernel
theorem dX3_newRoad_13 : decode cX3_newRoad 13 = .ok (.invokevirtual 37, 3) := by decide +kernel
theorem dX3_newRoad_16 : decode cX3_newRoad 16 = .ok (.if_icmp .ge 111, 3) := by decide +kernel
theorem dX3_newRoad_19 : decode cX3_newRoad 19 = .ok (.iload 4, 2) := by decide +kernel
theorem dX3_newRoad_21 : decode cX3_newRoad 21 = .ok (.iconst 1, 1) := by decide +kernel
theorem dX3_newRoad_22 : decode cX3_newRoad 22 = .ok (.iadd, 1) := by decide +kernel
theorem dX3_newRoad_23 : decode cX3_newRoad 23 = .ok (.istore 5, 2) := by decide +kernel
theorem dX3_newRoad_25 : decode cX3_newRoad 25 = .ok (.iload 5, 2) := by decide +kernel
theorem dX3_newRoad_27 : decode cX3_newRoad 27 = .ok (.aload_n 0, 1) := by decide +kernel
theorem dX3_newRoad_28 : decode cX3_newRoad 28 = .ok (.getfield 12, 3) := by decide +kernel
theorem dX3_newRoad_31 : decode cX3_newRoad 31 = .ok (.invokevirtual 37, 3) := by decide +kernel
theorem dX3_newRoad_34 : decode cX3_newRoad 34 = .ok (.if_icmp .ge 87, 3) := by decide +kernel
theorem dX3_newRoad_37 : decode cX3_newRoad 37 = .ok (.aload_n 0, 1) := by decide +kernel
theorem dX3_newRoad_38 : decode cX3_newRoad 38 = .ok (.getfield 12, 3) := by decide +kernel
theorem dX3_newRoad_41 : decode cX3_newRoad 41 = .ok (.iload 4, 2) := by decide +kernel
theorem dX3_newRoad_43 : decode cX3_newRoad 43 = .ok (.iload 5, 2) := by decide +kernel
theorem dX3_newRoad_45 : decode cX3_newRoad 45 = .ok (.invokevirtual 41, 3) := by decide +kernel
theorem dX3_newRoad_48 : decode cX3_newRoad 48 = .ok (.iconst (-1), 1) := by decide +kernel
theorem dX3_newRoad_49 : decode cX3_newRoad 49 = .ok (.if_icmp .ne 66, 3) := by decide +kernel
theorem dX3_newRoad_52 : decode cX3_newRoad 52 = .ok (.aload_n 0, 1) := by decide +kernel
theorem dX3_newRoad_53 : decode cX3_newRoad 53 = .ok (.getfield 12, 3) := by decide +kernel
theorem dX3_newRoad_56 : decode cX3_newRoad 56 = .ok (.iload 4, 2) := by decide +kernel
theorem dX3_newRoad_58 : decode cX3_newRoad 58 = .ok (.iload 5, 2) := by decide +kernel
theorem dX3_newRoad_60 : decode cX3_newRoad 60 = .ok (.iload_n 1, 1) := by decide +kernel
theorem dX3_newRoad_61 : decode cX3_newRoad 61 = .ok (.invokevirtual 29, 3) := by decide +kernel
theorem dX3_newRoad_64 : decode cX3_newRoad 64 = .ok (.ifCond .eq 51, 3) := by decide +kernel
theorem dX3_newRoad_67 : decode cX3_newRoad 67 = .ok (.aload_n 0, 1) := by decide +kernel
theorem dX3_newRoad_68 : decode cX3_newRoad 68 = .ok (.getfield 21, 3) := by decide +kernel
theorem dX3_newRoad_71 : decode cX3_newRoad 71 = .ok (.aload_n 0, 1) := by decide +kernel
theorem dX3_newRoad_72 : decode cX3_newRoad 72 = .ok (.getfield 12, 3) := by decide +kernel
theorem dX3_newRoad_75 : decode cX3_newRoad 75 = .ok (.invokevirtual 33, 3) := by decide +kernel
theorem dX3_newRoad_78 : decode cX3_newRoad 78 = .ok (.istore 6, 2) := by decide +kernel
theorem dX3_newRoad_80 : decode cX3_newRoad 80 = .ok (.aload_n 0, 1) := by decide +kernel
theorem dX3_newRoad_81 : decode cX3_newRoad 81 = .ok (.getfield 12, 3) := by decide +kernel
theorem dX3_newRoad_84 : decode cX3_newRoad 84 = .ok (.iload 4, 2) := by decide +kernel
theorem dX3_newRoad_86 : decode cX3_newRoad 86 = .ok (.iload 5, 2) := by decide +kernel
theorem dX3_newRoad_88 : decode cX3_newRoad 88 = .ok (.invokevirtual 45, 3) := by decide +kernel
theorem dX3_newRoad_91 : decode cX3_newRoad 91 = .ok (.pop, 1) := by decide +kernel
theorem dX3_newRoad_92 : decode cX3_newRoad 92 = .ok (.iload_n 2, 1) := by decide +kernel
theorem dX3_newRoad_93 : decode cX3_newRoad 93 = .ok (.iconst (-1), 1) := by decide +kernel
theorem dX3_newRoad_94 : decode cX3_newRoad 94 = .ok (.if_icmp .eq 9, 3) := by decide +kernel
theorem dX3_newRoad_97 : decode cX3_newRoad 97 = .ok (.iload 6, 2) := by decide +kernel
theorem dX3_newRoad_99 : decode cX3_newRoad 99 = .ok (.iload_n 3, 1) := by decide +kernel
theorem dX3_newRoad_100 : decode cX3_newRoad 100 = .ok (.if_icmp .ge 15, 3) := by decide +kernel
theorem dX3_newRoad_103 : decode cX3_newRoad 103 = .ok (.bipush 10, 2) := by decide +kernel
theorem dX3_newRoad_105 : decode cX3_newRoad 105 = .ok (.iload 4, 2) := by decide +kernel
theorem dX3_newRoad_107 : decode cX3_newRoad 107 = .ok (.imul, 1) := by decide +kernel
theorem dX3_newRoad_108 : decode cX3_newRoad 108 = .ok (.iload 5, 2) := by decide +kernel
theorem dX3_newRoad_110 : decode cX3_newRoad 110 = .ok (.iadd, 1) := by decide +kernel
theorem dX3_newRoad_111 : decode cX3_newRoad 111 = .ok (.istore_n 2, 1) := by decide +kernel
theorem dX3_newRoad_112 : decode cX3_newRoad 112 = .ok (.iload 6, 2) := by decide +kernel
theorem dX3_newRoad_114 : decode cX3_newRoad 114 = .ok (.istore_n 3, 1) := by decide +kernel
theorem dX3_newRoad_115 : decode cX3_newRoad 115 = .ok (.iinc 5 1, 3) := by decide +kernel
theorem dX3_newRoad_118 : decode cX3_newRoad 118 = .ok (.goto (-93), 3) := by decide +kernel
theorem dX3_newRoad_121 : decode cX3_newRoad 121 = .ok (.iinc 4 1, 3) := by decide +kernel
theorem dX3_newRoad_124 : decode cX3_newRoad 124 = .ok (.goto (-117), 3) := by decide +kernel
theorem dX3_newRoad_127 : decode cX3_newRoad 127 = .ok (.iload_n 2, 1) := by decide +kernel
theorem dX3_newRoad_128 : decode cX3_newRoad 128 = .ok (.ireturn, 1) := by decide +kernel
theorem dX3_costliestReport_0 : decode cX3_costliestReport 0 = .ok (.iconst (-1), 1) := by decide +kernel
theorem dX3_costliestReport_1 : decode cX3_costliestReport 1 = .ok (.istore_n 1, 1) := by decide +kernel
theorem dX3_costliestReport_2 : decode cX3_costliestReport 2 = .ok (.iconst 0, 1) := by decide +kernel
theorem dX3_costliestReport_3 : decode cX3_costliestReport 3 = .ok (.istore_n 2, 1) := by decide +kernel
theorem dX3_costliestReport_4 : decode cX3_costliestReport 4 = .ok (.iconst 0, 1) := by decide +kernel
theorem dX3_costliestReport_5 : decode cX3_costliestReport 5 = .ok (.istore_n 3, 1) := by decide +kernel
theorem dX3_costliestReport_6 : decode cX3_costliestReport 6 = .ok (.iload_n 3, 1) := by decide +kernel
theorem dX3_costliestReport_7 : decode cX3_costliestReport 7 = .ok (.aload_n 0, 1) := by decide +kernel
theorem dX3_costliestReport_8 : decode cX3_costliestReport 8 = .ok (.getfield 12, 3) := by decide +kernel
theorem dX3_costliestReport_11 : decode cX3_costliestReport 11 = .ok (.invokevirtual 37, 3) := by decide +kernel
theorem dX3_costliestReport_14 : decode cX3_costliestReport 14 = .ok (.if_icmp .ge 68, 3) := by decide +kernel
theorem dX3_costliestReport_17 : decode cX3_costliestReport 17 = .ok (.iconst 0, 1) := by decide +kernel
theorem dX3_costliestReport_18 : decode cX3_costliestReport 18 = .ok (.istore 4, 2) := by decide +kernel
theorem dX3_costliestReport_20 : decode cX3_costliestReport 20 = .ok (.iload 4, 2) := by decide +kernel
theorem dX3_costliestReport_22 : decode cX3_costliestReport 22 = .ok (.bipush 6, 2) := by decide +kernel
theorem dX3_costliestReport_24 : decode cX3_costliestReport 24 = .ok (.if_icmp .ge 52, 3) := by decide +kernel
theorem dX3_costliestReport_27 : decode cX3_costliestReport 27 = .ok (.aload_n 0, 1) := by decide +kernel
theorem dX3_costliestReport_28 : decode cX3_costliestReport 28 = .ok (.getfield 12, 3) := by decide +kernel
theorem dX3_costliestReport_31 : decode cX3_costliestReport 31 = .ok (.iload_n 3, 1) := by decide +kernel
theorem dX3_costliestReport_32 : decode cX3_costliestReport 32 = .ok (.iload 4, 2) := by decide +kernel
theorem dX3_costliestReport_34 : decode cX3_costliestReport 34 = .ok (.invokevirtual 48, 3) := by decide +kernel
theorem dX3_costliestReport_37 : decode cX3_costliestReport 37 = .ok (.ifCond .eq 13, 3) := by decide +kernel
theorem dX3_costliestReport_40 : decode cX3_costliestReport 40 = .ok (.aload_n 0, 1) := by decide +kernel
theorem dX3_costliestReport_41 : decode cX3_costliestReport 41 = .ok (.iload_n 3, 1) := by decide +kernel
theorem dX3_costliestReport_42 : decode cX3_costliestReport 42 = .ok (.iload 4, 2) := by decide +kernel
theorem dX3_costliestReport_44 : decode cX3_costliestReport 44 = .ok (.invokevirtual 52, 3) := by decide +kernel
theorem dX3_costliestReport_47 : decode cX3_costliestReport 47 = .ok (.goto 4, 3) := by decide +kernel
theorem dX3_costliestReport_50 : decode cX3_costliestReport 50 = .ok (.iconst 0, 1) := by decide +kernel
theorem dX3_costliestReport_51 : decode cX3_costliestReport 51 = .ok (.istore 5, 2) := by decide +kernel
theorem dX3_costliestReport_53 : decode cX3_costliestReport 53 = .ok (.iload 5, 2) := by decide +kernel
theorem dX3_costliestReport_55 : decode cX3_costliestReport 55 = .ok (.iload_n 2, 1) := by decide +kernel
theorem dX3_costliestReport_56 : decode cX3_costliestReport 56 = .ok (.if_icmp .le 14, 3) := by decide +kernel
theorem dX3_costliestReport_59 : decode cX3_costliestReport 59 = .ok (.bipush 10, 2) := by decide +kernel
theorem dX3_costliestReport_61 : decode cX3_costliestReport 61 = .ok (.iload_n 3, 1) := by decide +kernel
theorem dX3_costliestReport_62 : decode cX3_costliestReport 62 = .ok (.imul, 1) := by decide +kernel
theorem dX3_costliestReport_63 : decode cX3_costliestReport 63 = .ok (.iload 4, 2) := by decide +kernel
theorem dX3_costliestReport_65 : decode cX3_costliestReport 65 = .ok (.iadd, 1) := by decide +kernel
theorem dX3_costliestReport_66 : decode cX3_costliestReport 66 = .ok (.istore_n 1, 1) := by decide +kernel
theorem dX3_costliestReport_67 : decode cX3_costliestReport 67 = .ok (.iload 5, 2) := by decide +kernel
theorem dX3_costliestReport_69 : decode cX3_costliestReport 69 = .ok (.istore_n 2, 1) := by decide +kernel
theorem dX3_costliestReport_70 : decode cX3_costliestReport 70 = .ok (.iinc 4 1, 3) := by decide +kernel
theorem dX3_costliestReport_73 : decode cX3_costliestReport 73 = .ok (.goto (-53), 3) := by decide +kernel
theorem dX3_costliestReport_76 : decode cX3_costliestReport 76 = .ok (.iinc 3 1, 3) := by decide +kernel
theorem dX3_costliestReport_79 : decode cX3_costliestReport 79 = .ok (.goto (-73), 3) := by decide +kernel
theorem dX3_costliestReport_82 : decode cX3_costliestReport 82 = .ok (.iload_n 1, 1) := by decide +kernel
theorem dX3_costliestReport_83 : decode cX3_costliestReport 83 = .ok (.ireturn, 1) := by decide +kernel
theorem dX3_costOfReport_0 : decode cX3_costOfReport 0 = .ok (.aload_n 0, 1) := by decide +kernel
theorem dX3_costOfReport_1 : decode cX3_costOfReport 1 = .ok (.getfield 12, 3) := by decide +kernel
theorem dX3_costOfReport_4 : decode cX3_costOfReport 4 = .ok (.iload_n 1, 1) := by decide +kernel
theorem dX3_costOfReport_5 : decode cX3_costOfReport 5 = .ok (.iload_n 2, 1) := by decide +kernel
theorem dX3_costOfReport_6 : decode cX3_costOfReport 6 = .ok (.iconst 1, 1) := by decide +kernel
theorem dX3_costOfReport_7 : decode cX3_costOfReport 7 = .ok (.invokevirtual 55, 3) := by decide +kernel
theorem dX3_costOfReport_10 : decode cX3_costOfReport 10 = .ok (.istore_n 3, 1) := by decide +kernel
theorem dX3_costOfReport_11 : decode cX3_costOfReport 11 = .ok (.aload_n 0, 1) := by decide +kernel
theorem dX3_costOfReport_12 : decode cX3_costOfReport 12 = .ok (.getfield 12, 3) := by decide +kernel
theorem dX3_costOfReport_15 : decode cX3_costOfReport 15 = .ok (.iload_n 1, 1) := by decide +kernel
theorem dX3_costOfReport_16 : decode cX3_costOfReport 16 = .ok (.iload_n 2, 1) := by decide +kernel
theorem dX3_costOfReport_17 : decode cX3_costOfReport 17 = .ok (.iconst 0, 1) := by decide +kernel
theorem dX3_costOfReport_18 : decode cX3_costOfReport 18 = .ok (.invokevirtual 55, 3) := by decide +kernel
theorem dX3_costOfReport_21 : decode cX3_costOfReport 21 = .ok (.istore 4, 2) := by decide +kernel
theorem dX3_costOfReport_23 : decode cX3_costOfReport 23 = .ok (.aload_n 0, 1) := by decide +kernel
theorem dX3_costOfReport_24 : decode cX3_costOfReport 24 = .ok (.getfield 21, 3) := by decide +kernel
theorem dX3_costOfReport_27 : decode cX3_costOfReport 27 = .ok (.aload_n 0, 1) := by decide +kernel
theorem dX3_costOfReport_28 : decode cX3_costOfReport 28 = .ok (.getfield 12, 3) := by decide +kernel
theorem dX3_costOfReport_31 : decode cX3_costOfReport 31 = .ok (.iload_n 2, 1) := by decide +kernel
theorem dX3_costOfReport_32 : decode cX3_costOfReport 32 = .ok (.invokevirtual 59, 3) := by decide +kernel
theorem dX3_costOfReport_35 : decode cX3_costOfReport 35 = .ok (.iconst 0, 1) := by decide +kernel
theorem dX3_costOfReport_36 : decode cX3_costOfReport 36 = .ok (.invokestatic 63, 3) := by decide +kernel
theorem dX3_costOfReport_39 : decode cX3_costOfReport 39 = .ok (.istore 5, 2) := by decide +kernel
theorem dX3_costOfReport_41 : decode cX3_costOfReport 41 = .ok (.aload_n 0, 1) := by decide +kernel
theorem dX3_costOfReport_42 : decode cX3_costOfReport 42 = .ok (.getfield 12, 3) := by decide +kernel
theorem dX3_costOfReport_45 : decode cX3_costOfReport 45 = .ok (.iload_n 1, 1) := by decide +kernel
theorem dX3_costOfReport_46 : decode cX3_costOfReport 46 = .ok (.iload_n 2, 1) := by decide +kernel
theorem dX3_costOfReport_47 : decode cX3_costOfReport 47 = .ok (.invokevirtual 68, 3) := by decide +kernel
theorem dX3_costOfReport_50 : decode cX3_costOfReport 50 = .ok (.pop, 1) := by decide +kernel
theorem dX3_costOfReport_51 : decode cX3_costOfReport 51 = .ok (.aload_n 0, 1) := by decide +kernel
theorem dX3_costOfReport_52 : decode cX3_costOfReport 52 = .ok (.getfield 21, 3) := by decide +kernel
theorem dX3_costOfReport_55 : decode cX3_costOfReport 55 = .ok (.aload_n 0, 1) := by decide +kernel
theorem dX3_costOfReport_56 : decode cX3_costOfReport 56 = .ok (.getfield 12, 3) := by decide +kernel
theorem dX3_costOfReport_59 : decode cX3_costOfReport 59 = .ok (.iload_n 2, 1) := by decide +kernel
theorem dX3_costOfReport_60 : decode cX3_costOfReport 60 = .ok (.invokevirtual 59, 3) := by decide +kernel
theorem dX3_costOfReport_63 : decode cX3_costOfReport 63 = .ok (.iconst 0, 1) := by decide +kernel
theorem dX3_costOfReport_64 : decode cX3_costOfReport 64 = .ok (.invokestatic 63, 3) := by decide +kernel
theorem dX3_costOfReport_67 : decode cX3_costOfReport 67 = .ok (.istore 6, 2) := by decide +kernel
theorem dX3_costOfReport_69 : decode cX3_costOfReport 69 = .ok (.aload_n 0, 1) := by decide +kernel
theorem dX3_costOfReport_70 : decode cX3_costOfReport 70 = .ok (.getfield 12, 3) := by decide +kernel
theorem dX3_costOfReport_73 : decode cX3_costOfReport 73 = .ok (.iload_n 1, 1) := by decide +kernel
theorem dX3_costOfReport_74 : decode cX3_costOfReport 74 = .ok (.iload_n 2, 1) := by decide +kernel
theorem dX3_costOfReport_75 : decode cX3_costOfReport 75 = .ok (.iload_n 3, 1) := by decide +kernel
theorem dX3_costOfReport_76 : decode cX3_costOfReport 76 = .ok (.iconst 1, 1) := by decide +kernel
theorem dX3_costOfReport_77 : decode cX3_costOfReport 77 = .ok (.invokevirtual 71, 3) := by decide +kernel
theorem dX3_costOfReport_80 : decode cX3_costOfReport 80 = .ok (.pop, 1) := by decide +kernel
theorem dX3_costOfReport_81 : decode cX3_costOfReport 81 = .ok (.aload_n 0, 1) := by decide +kernel
theorem dX3_costOfReport_82 : decode cX3_costOfReport 82 = .ok (.getfield 12, 3) := by decide +kernel
theorem dX3_costOfReport_85 : decode cX3_costOfReport 85 = .ok (.iload_n 1, 1) := by decide +kernel
theorem dX3_costOfReport_86 : decode cX3_costOfReport 86 = .ok (.iload_n 2, 1) := by decide +kernel
theorem dX3_costOfReport_87 : decode cX3_costOfReport 87 = .ok (.iload 4, 2) := by decide +kernel
theorem dX3_costOfReport_89 : decode cX3_costOfReport 89 = .ok (.iconst 0, 1) := by decide +kernel
theorem dX3_costOfReport_90 : decode cX3_costOfReport 90 = .ok (.invokevirtual 71, 3) := by decide +kernel
theorem dX3_costOfReport_93 : decode cX3_costOfReport 93 = .ok (.pop, 1) := by decide +kernel
theorem dX3_costOfReport_94 : decode cX3_costOfReport 94 = .ok (.iload 5, 2) := by decide +kernel
theorem dX3_costOfReport_96 : decode cX3_costOfReport 96 = .ok (.iload 6, 2) := by decide +kernel
theorem dX3_costOfReport_98 : decode cX3_costOfReport 98 = .ok (.isub, 1) := by decide +kernel
theorem dX3_costOfReport_99 : decode cX3_costOfReport 99 = .ok (.ireturn, 1) := by decide +kernel
theorem dX3_obeys_0 : decode cX3_obeys 0 = .ok (.iload_n 1, 1) := by decide +kernel
theorem dX3_obeys_1 : decode cX3_obeys 1 = .ok (.sipush 10000, 3) := by decide +kernel
theorem dX3_obeys_4 : decode cX3_obeys 4 = .ok (.idiv, 1) := by decide +kernel
theorem dX3_obeys_5 : decode cX3_obeys 5 = .ok (.bipush 10, 2) := by decide +kernel
theorem dX3_obeys_7 : decode cX3_obeys 7 = .ok (.irem, 1) := by decide +kernel
theorem dX3_obeys_8 : decode cX3_obeys 8 = .ok (.istore_n 2, 1) := by decide +kernel
theorem dX3_obeys_9 : decode cX3_obeys 9 = .ok (.iload_n 1, 1) := by decide +kernel
theorem dX3_obeys_10 : decode cX3_obeys 10 = .ok (.sipush 1000, 3) := by decide +kernel
theorem dX3_obeys_13 : decode cX3_obeys 13 = .ok (.idiv, 1) := by decide +kernel
theorem dX3_obeys_14 : decode cX3_obeys 14 = .ok (.bipush 10, 2) := by decide +kernel
theorem dX3_obeys_16 : decode cX3_obeys 16 = .ok (.irem, 1) := by decide +kernel
theorem dX3_obeys_17 : decode cX3_obeys 17 = .ok (.istore_n 3, 1) := by decide +kernel
theorem dX3_obeys_18 : decode cX3_obeys 18 = .ok (.iload_n 1, 1) := by decide +kernel
theorem dX3_obeys_19 : decode cX3_obeys 19 = .ok (.sipush 1000, 3) := by decide +kernel
theorem dX3_obeys_22 : decode cX3_obeys 22 = .ok (.irem, 1) := by decide +kernel
theorem dX3_obeys_23 : decode cX3_obeys 23 = .ok (.istore 4, 2) := by decide +kernel
theorem dX3_obeys_25 : decode cX3_obeys 25 = .ok (.iload_n 1, 1) := by decide +kernel
theorem dX3_obeys_26 : decode cX3_obeys 26 = .ok (.ldc 75, 2) := by decide +kernel
theorem dX3_obeys_28 : decode cX3_obeys 28 = .ok (.idiv, 1) := by decide +kernel
theorem dX3_obeys_29 : decode cX3_obeys 29 = .ok (.tableswitch 311 1 9 #[51, 81, 93, 117, 139, 161, 185, 229, 266], 51) := by decide +kernel
theorem dX3_obeys_80 : decode cX3_obeys 80 = .ok (.iload_n 2, 1) := by decide +kernel
theorem dX3_obeys_81 : decode cX3_obeys 81 = .ok (.ifCond .ne 27, 3) := by decide +kernel
theorem dX3_obeys_84 : decode cX3_obeys 84 = .ok (.iload_n 3, 1) := by decide +kernel
theorem dX3_obeys_85 : decode cX3_obeys 85 = .ok (.ifCond .ne 23, 3) := by decide +kernel
theorem dX3_obeys_88 : decode cX3_obeys 88 = .ok (.iload 4, 2) := by decide +kernel
theorem dX3_obeys_90 : decode cX3_obeys 90 = .ok (.ifCond .ne 18, 3) := by decide +kernel
theorem dX3_obeys_93 : decode cX3_obeys 93 = .ok (.aload_n 0, 1) := by decide +kernel
theorem dX3_obeys_94 : decode cX3_obeys 94 = .ok (.getfield 12, 3) := by decide +kernel
theorem dX3_obeys_97 : decode cX3_obeys 97 = .ok (.invokevirtual 76, 3) := by decide +kernel
theorem dX3_obeys_100 : decode cX3_obeys 100 = .ok (.iconst (-1), 1) := by decide +kernel
theorem dX3_obeys_101 : decode cX3_obeys 101 = .ok (.if_icmp .eq 7, 3) := by decide +kernel
theorem dX3_obeys_104 : decode cX3_obeys 104 = .ok (.iconst 1, 1) := by decide +kernel
theorem dX3_obeys_105 : decode cX3_obeys 105 = .ok (.goto 4, 3) := by decide +kernel
theorem dX3_obeys_108 : decode cX3_obeys 108 = .ok (.iconst 0, 1) := by decide +kernel
theorem dX3_obeys_109 : decode cX3_obeys 109 = .ok (.ireturn, 1) := by decide +kernel
theorem dX3_obeys_110 : decode cX3_obeys 110 = .ok (.aload_n 0, 1) := by decide +kernel
theorem dX3_obeys_111 : decode cX3_obeys 111 = .ok (.getfield 12, 3) := by decide +kernel
theorem dX3_obeys_114 : decode cX3_obeys 114 = .ok (.iload_n 2, 1) := by decide +kernel
theorem dX3_obeys_115 : decode cX3_obeys 115 = .ok (.iload_n 3, 1) := by decide +kernel
theorem dX3_obeys_116 : decode cX3_obeys 116 = .ok (.iload 4, 2) := by decide +kernel
theorem dX3_obeys_118 : decode cX3_obeys 118 = .ok (.invokevirtual 29, 3) := by decide +kernel
theorem dX3_obeys_121 : decode cX3_obeys 121 = .ok (.ireturn, 1) := by decide +kernel
theorem dX3_obeys_122 : decode cX3_obeys 122 = .ok (.iload 4, 2) := by decide +kernel
theorem dX3_obeys_124 : decode cX3_obeys 124 = .ok (.ifCond .ne 20, 3) := by decide +kernel
theorem dX3_obeys_127 : decode cX3_obeys 127 = .ok (.aload_n 0, 1) := by decide +kernel
theorem dX3_obeys_128 : decode cX3_obeys 128 = .ok (.getfield 12, 3) := by decide +kernel
theorem dX3_obeys_131 : decode cX3_obeys 131 = .ok (.iload_n 2, 1) := by decide +kernel
theorem dX3_obeys_132 : decode cX3_obeys 132 = .ok (.iload_n 3, 1) := by decide +kernel
theorem dX3_obeys_133 : decode cX3_obeys 133 = .ok (.invokevirtual 45, 3) := by decide +kernel
theorem dX3_obeys_136 : decode cX3_obeys 136 = .ok (.iconst (-1), 1) := by decide +kernel
theorem dX3_obeys_137 : decode cX3_obeys 137 = .ok (.if_icmp .eq 7, 3) := by decide +kernel
theorem dX3_obeys_140 : decode cX3_obeys 140 = .ok (.iconst 1, 1) := by decide +kernel
theorem dX3_obeys_141 : decode cX3_obeys 141 = .ok (.goto 4, 3) := by decide +kernel
theorem dX3_obeys_144 : decode cX3_obeys 144 = .ok (.iconst 0, 1) := by decide +kernel
theorem dX3_obeys_145 : decode cX3_obeys 145 = .ok (.ireturn, 1) := by decide +kernel
theorem dX3_obeys_146 : decode cX3_obeys 146 = .ok (.aload_n 0, 1) := by decide +kernel
theorem dX3_obeys_147 : decode cX3_obeys 147 = .ok (.getfield 12, 3) := by decide +kernel
theorem dX3_obeys_150 : decode cX3_obeys 150 = .ok (.iload_n 2, 1) := by decide +kernel
theorem dX3_obeys_151 : decode cX3_obeys 151 = .ok (.iload_n 3, 1) := by decide +kernel
theorem dX3_obeys_152 : decode cX3_obeys 152 = .ok (.iload 4, 2) := by decide +kernel
theorem dX3_obeys_154 : decode cX3_obeys 154 = .ok (.iconst 1, 1) := by decide +kernel
theorem dX3_obeys_155 : decode cX3_obeys 155 = .ok (.invokevirtual 71, 3) := by decide +kernel
theorem dX3_obeys_158 : decode cX3_obeys 158 = .ok (.iconst (-1), 1) := by decide +kernel
theorem dX3_obeys_159 : decode cX3_obeys 159 = .ok (.if_icmp .eq 7, 3) := by decide +kernel
theorem dX3_obeys_162 : decode cX3_obeys 162 = .ok (.iconst 1, 1) := by decide +kernel
theorem dX3_obeys_163 : decode cX3_obeys 163 = .ok (.goto 4, 3) := by decide +kernel
theorem dX3_obeys_166 : decode cX3_obeys 166 = .ok (.iconst 0, 1) := by decide +kernel
theorem dX3_obeys_167 : decode cX3_obeys 167 = .ok (.ireturn, 1) := by decide +kernel
theorem dX3_obeys_168 : decode cX3_obeys 168 = .ok (.aload_n 0, 1) := by decide +kernel
theorem dX3_obeys_169 : decode cX3_obeys 169 = .ok (.getfield 12, 3) := by decide +kernel
theorem dX3_obeys_172 : decode cX3_obeys 172 = .ok (.iload_n 2, 1) := by decide +kernel
theorem dX3_obeys_173 : decode cX3_obeys 173 = .ok (.iload_n 3, 1) := by decide +kernel
theorem dX3_obeys_174 : decode cX3_obeys 174 = .ok (.iload 4, 2) := by decide +kernel
theorem dX3_obeys_176 : decode cX3_obeys 176 = .ok (.iconst 0, 1) := by decide +kernel
theorem dX3_obeys_177 : decode cX3_obeys 177 = .ok (.invokevirtual 71, 3) := by decide +kernel
theorem dX3_obeys_180 : decode cX3_obeys 180 = .ok (.iconst (-1), 1) := by decide +kernel
theorem dX3_obeys_181 : decode cX3_obeys 181 = .ok (.if_icmp .eq 7, 3) := by decide +kernel
theorem dX3_obeys_184 : decode cX3_obeys 184 = .ok (.iconst 1, 1) := by decide +kernel
theorem dX3_obeys_185 : decode cX3_obeys 185 = .ok (.goto 4, 3) := by decide +kernel
theorem dX3_obeys_188 : decode cX3_obeys 188 = .ok (.iconst 0, 1) := by decide +kernel
theorem dX3_obeys_189 : decode cX3_obeys 189 = .ok (.ireturn, 1) := by decide +kernel
theorem dX3_obeys_190 : decode cX3_obeys 190 = .ok (.iload 4, 2) := by decide +kernel
theorem dX3_obeys_192 : decode cX3_obeys 192 = .ok (.ifCond .ne 20, 3) := by decide +kernel
theorem dX3_obeys_195 : decode cX3_obeys 195 = .ok (.aload_n 0, 1) := by decide +kernel
theorem dX3_obeys_196 : decode cX3_obeys 196 = .ok (.getfield 12, 3) := by decide +kernel
theorem dX3_obeys_199 : decode cX3_obeys 199 = .ok (.iload_n 2, 1) := by decide +kernel
theorem dX3_obeys_200 : decode cX3_obeys 200 = .ok (.iload_n 3, 1) := by decide +kernel
theorem dX3_obeys_201 : decode cX3_obeys 201 = .ok (.invokevirtual 68, 3) := by decide +kernel
theorem dX3_obeys_204 : decode cX3_obeys 204 = .ok (.iconst (-1), 1) := by decide +kernel
theorem dX3_obeys_205 : decode cX3_obeys 205 = .ok (.if_icmp .eq 7, 3) := by decide +kernel
theorem dX3_obeys_208 : decode cX3_obeys 208 = .ok (.iconst 1, 1) := by decide +kernel
theorem dX3_obeys_209 : decode cX3_obeys 209 = .ok (.goto 4, 3) := by decide +kernel
theorem dX3_obeys_212 : decode cX3_obeys 212 = .ok (.iconst 0, 1) := by decide +kernel
theorem dX3_obeys_213 : decode cX3_obeys 213 = .ok (.ireturn, 1) := by decide +kernel
theorem dX3_obeys_214 : decode cX3_obeys 214 = .ok (.iload_n 3, 1) := by decide +kernel
theorem dX3_obeys_215 : decode cX3_obeys 215 = .ok (.ifCond .ne 41, 3) := by decide +kernel
theorem dX3_obeys_218 : decode cX3_obeys 218 = .ok (.iload 4, 2) := by decide +kernel
theorem dX3_obeys_220 : decode cX3_obeys 220 = .ok (.bipush 99, 2) := by decide +kernel
theorem dX3_obeys_222 : decode cX3_obeys 222 = .ok (.if_icmp .gt 34, 3) := by decide +kernel
theorem dX3_obeys_225 : decode cX3_obeys 225 = .ok (.iload_n 2, 1) := by decide +kernel
theorem dX3_obeys_226 : decode cX3_obeys 226 = .ok (.invokestatic 79, 3) := by decide +kernel
theorem dX3_obeys_229 : decode cX3_obeys 229 = .ok (.ifCond .eq 27, 3) := by decide +kernel
theorem dX3_obeys_232 : decode cX3_obeys 232 = .ok (.aload_n 0, 1) := by decide +kernel
theorem dX3_obeys_233 : decode cX3_obeys 233 = .ok (.getfield 21, 3) := by decide +kernel
theorem dX3_obeys_236 : decode cX3_obeys 236 = .ok (.aload_n 0, 1) := by decide +kernel
theorem dX3_obeys_237 : decode cX3_obeys 237 = .ok (.getfield 12, 3) := by decide +kernel
theorem dX3_obeys_240 : decode cX3_obeys 240 = .ok (.iload_n 2, 1) := by decide +kernel
theorem dX3_obeys_241 : decode cX3_obeys 241 = .ok (.invokevirtual 59, 3) := by decide +kernel
theorem dX3_obeys_244 : decode cX3_obeys 244 = .ok (.iload 4, 2) := by decide +kernel
theorem dX3_obeys_246 : decode cX3_obeys 246 = .ok (.invokestatic 83, 3) := by decide +kernel
theorem dX3_obeys_249 : decode cX3_obeys 249 = .ok (.ifCond .eq 7, 3) := by decide +kernel
theorem dX3_obeys_252 : decode cX3_obeys 252 = .ok (.iconst 1, 1) := by decide +kernel
theorem dX3_obeys_253 : decode cX3_obeys 253 = .ok (.goto 4, 3) := by decide +kernel
theorem dX3_obeys_256 : decode cX3_obeys 256 = .ok (.iconst 0, 1) := by decide +kernel
theorem dX3_obeys_257 : decode cX3_obeys 257 = .ok (.ireturn, 1) := by decide +kernel
theorem dX3_obeys_258 : decode cX3_obeys 258 = .ok (.iload_n 2, 1) := by decide +kernel
theorem dX3_obeys_259 : decode cX3_obeys 259 = .ok (.ifCond .ne 34, 3) := by decide +kernel
theorem dX3_obeys_262 : decode cX3_obeys 262 = .ok (.iload_n 3, 1) := by decide +kernel
theorem dX3_obeys_263 : decode cX3_obeys 263 = .ok (.ifCond .ne 30, 3) := by decide +kernel
theorem dX3_obeys_266 : decode cX3_obeys 266 = .ok (.iload 4, 2) := by decide +kernel
theorem dX3_obeys_268 : decode cX3_obeys 268 = .ok (.bipush 99, 2) := by decide +kernel
theorem dX3_obeys_270 : decode cX3_obeys 270 = .ok (.if_icmp .gt 23, 3) := by decide +kernel
theorem dX3_obeys_273 : decode cX3_obeys 273 = .ok (.aload_n 0, 1) := by decide +kernel
theorem dX3_obeys_274 : decode cX3_obeys 274 = .ok (.getfield 21, 3) := by decide +kernel
theorem dX3_obeys_277 : decode cX3_obeys 277 = .ok (.aload_n 0, 1) := by decide +kernel
theorem dX3_obeys_278 : decode cX3_obeys 278 = .ok (.getfield 12, 3) := by decide +kernel
theorem dX3_obeys_281 : decode cX3_obeys 281 = .ok (.invokevirtual 33, 3) := by decide +kernel
theorem dX3_obeys_284 : decode cX3_obeys 284 = .ok (.iload 4, 2) := by decide +kernel
theorem dX3_obeys_286 : decode cX3_obeys 286 = .ok (.if_icmp .gt 7, 3) := by decide +kernel
theorem dX3_obeys_289 : decode cX3_obeys 289 = .ok (.iconst 1, 1) := by decide +kernel
theorem dX3_obeys_290 : decode cX3_obeys 290 = .ok (.goto 4, 3) := by decide +kernel
theorem dX3_obeys_293 : decode cX3_obeys 293 = .ok (.iconst 0, 1) := by decide +kernel
theorem dX3_obeys_294 : decode cX3_obeys 294 = .ok (.ireturn, 1) := by decide +kernel
theorem dX3_obeys_295 : decode cX3_obeys 295 = .ok (.aload_n 0, 1) := by decide +kernel
theorem dX3_obeys_296 : decode cX3_obeys 296 = .ok (.getfield 12, 3) := by decide +kernel
theorem dX3_obeys_299 : decode cX3_obeys 299 = .ok (.iload_n 2, 1) := by decide +kernel
theorem dX3_obeys_300 : decode cX3_obeys 300 = .ok (.invokevirtual 86, 3) := by decide +kernel
theorem dX3_obeys_303 : decode cX3_obeys 303 = .ok (.ifCond .eq 35, 3) := by decide +kernel
theorem dX3_obeys_306 : decode cX3_obeys 306 = .ok (.iload_n 3, 1) := by decide +kernel
theorem dX3_obeys_307 : decode cX3_obeys 307 = .ok (.invokestatic 79, 3) := by decide +kernel
theorem dX3_obeys_310 : decode cX3_obeys 310 = .ok (.ifCond .eq 28, 3) := by decide +kernel
theorem dX3_obeys_313 : decode cX3_obeys 313 = .ok (.aload_n 0, 1) := by decide +kernel
theorem dX3_obeys_314 : decode cX3_obeys 314 = .ok (.getfield 21, 3) := by decide +kernel
theorem dX3_obeys_317 : decode cX3_obeys 317 = .ok (.aload_n 0, 1) := by decide +kernel
theorem dX3_obeys_318 : decode cX3_obeys 318 = .ok (.getfield 12, 3) := by decide +kernel
theorem dX3_obeys_321 : decode cX3_obeys 321 = .ok (.iload_n 2, 1) := by decide +kernel
theorem dX3_obeys_322 : decode cX3_obeys 322 = .ok (.iload_n 3, 1) := by decide +kernel
theorem dX3_obeys_323 : decode cX3_obeys 323 = .ok (.invokevirtual 89, 3) := by decide +kernel
theorem dX3_obeys_326 : decode cX3_obeys 326 = .ok (.iload 4, 2) := by decide +kernel
theorem dX3_obeys_328 : decode cX3_obeys 328 = .ok (.invokestatic 83, 3) := by decide +kernel
theorem dX3_obeys_331 : decode cX3_obeys 331 = .ok (.ifCond .eq 7, 3) := by decide +kernel
theorem dX3_obeys_334 : decode cX3_obeys 334 = .ok (.iconst 1, 1) := by decide +kernel
theorem dX3_obeys_335 : decode cX3_obeys 335 = .ok (.goto 4, 3) := by decide +kernel
theorem dX3_obeys_338 : decode cX3_obeys 338 = .ok (.iconst 0, 1) := by decide +kernel
theorem dX3_obeys_339 : decode cX3_obeys 339 = .ok (.ireturn, 1) := by decide +kernel
theorem dX3_obeys_340 : decode cX3_obeys 340 = .ok (.iconst 0, 1) := by decide +kernel
theorem dX3_obeys_341 : decode cX3_obeys 341 = .ok (.ireturn, 1) := by decide +kernel
theorem dX3_isUpTo_0 : decode cX3_isUpTo 0 = .ok (.iload_n 0, 1) := by decide +kernel
theorem dX3_isUpTo_1 : decode cX3_isUpTo 1 = .ok (.iconst (-1), 1) := by decide +kernel
theorem dX3_isUpTo_2 : decode cX3_isUpTo 2 = .ok (.if_icmp .eq 12, 3) := by decide +kernel
theorem dX3_isUpTo_5 : decode cX3_isUpTo 5 = .ok (.iload_n 0, 1) := by decide +kernel
theorem dX3_isUpTo_6 : decode cX3_isUpTo 6 = .ok (.iload_n 1, 1) := by decide +kernel
theorem dX3_isUpTo_7 : decode cX3_isUpTo 7 = .ok (.if_icmp .gt 7, 3) := by decide +kernel
theorem dX3_isUpTo_10 : decode cX3_isUpTo 10 = .ok (.iconst 1, 1) := by decide +kernel
theorem dX3_isUpTo_11 : decode cX3_isUpTo 11 = .ok (.goto 4, 3) := by decide +kernel
theorem dX3_isUpTo_14 : decode cX3_isUpTo 14 = .ok (.iconst 0, 1) := by decide +kernel
theorem dX3_isUpTo_15 : decode cX3_isUpTo 15 = .ok (.ireturn, 1) := by decide +kernel
theorem dX3_turn_0 : decode cX3_turn 0 = .ok (.aload_n 0, 1) := by decide +kernel
theorem dX3_turn_1 : decode cX3_turn 1 = .ok (.getfield 12, 3) := by decide +kernel
theorem dX3_turn_4 : decode cX3_turn 4 = .ok (.invokevirtual 37, 3) := by decide +kernel
theorem dX3_turn_7 : decode cX3_turn 7 = .ok (.ifCond .le 13, 3) := by decide +kernel
theorem dX3_turn_10 : decode cX3_turn 10 = .ok (.aload_n 0, 1) := by decide +kernel
theorem dX3_turn_11 : decode cX3_turn 11 = .ok (.getfield 12, 3) := by decide +kernel
theorem dX3_turn_14 : decode cX3_turn 14 = .ok (.invokevirtual 37, 3) := by decide +kernel
theorem dX3_turn_17 : decode cX3_turn 17 = .ok (.goto 4, 3) := by decide +kernel
theorem dX3_turn_20 : decode cX3_turn 20 = .ok (.iconst 1, 1) := by decide +kernel
theorem dX3_turn_21 : decode cX3_turn 21 = .ok (.istore_n 2, 1) := by decide +kernel
theorem dX3_turn_22 : decode cX3_turn 22 = .ok (.iload_n 1, 1) := by decide +kernel
theorem dX3_turn_23 : decode cX3_turn 23 = .ok (.bipush 16, 2) := by decide +kernel
theorem dX3_turn_25 : decode cX3_turn 25 = .ok (.idiv, 1) := by decide +kernel
theorem dX3_turn_26 : decode cX3_turn 26 = .ok (.iload_n 2, 1) := by decide +kernel
theorem dX3_turn_27 : decode cX3_turn 27 = .ok (.irem, 1) := by decide +kernel
theorem dX3_turn_28 : decode cX3_turn 28 = .ok (.istore_n 3, 1) := by decide +kernel
theorem dX3_turn_29 : decode cX3_turn 29 = .ok (.iload_n 1, 1) := by decide +kernel
theorem dX3_turn_30 : decode cX3_turn 30 = .ok (.sipush 256, 3) := by decide +kernel
theorem dX3_turn_33 : decode cX3_turn 33 = .ok (.idiv, 1) := by decide +kernel
theorem dX3_turn_34 : decode cX3_turn 34 = .ok (.iload_n 2, 1) := by decide +kernel
theorem dX3_turn_35 : decode cX3_turn 35 = .ok (.irem, 1) := by decide +kernel
theorem dX3_turn_36 : decode cX3_turn 36 = .ok (.istore 4, 2) := by decide +kernel
theorem dX3_turn_38 : decode cX3_turn 38 = .ok (.iload_n 1, 1) := by decide +kernel
theorem dX3_turn_39 : decode cX3_turn 39 = .ok (.bipush 16, 2) := by decide +kernel
theorem dX3_turn_41 : decode cX3_turn 41 = .ok (.irem, 1) := by decide +kernel
theorem dX3_turn_42 : decode cX3_turn 42 = .ok (.istore 5, 2) := by decide +kernel
theorem dX3_turn_44 : decode cX3_turn 44 = .ok (.iload 5, 2) := by decide +kernel
theorem dX3_turn_46 : decode cX3_turn 46 = .ok (.ifCond .ne 14, 3) := by decide +kernel
theorem dX3_turn_49 : decode cX3_turn 49 = .ok (.aload_n 0, 1) := by decide +kernel
theorem dX3_turn_50 : decode cX3_turn 50 = .ok (.getfield 12, 3) := by decide +kernel
theorem dX3_turn_53 : decode cX3_turn 53 = .ok (.invokevirtual 76, 3) := by decide +kernel
theorem dX3_turn_56 : decode cX3_turn 56 = .ok (.pop, 1) := by decide +kernel
theorem dX3_turn_57 : decode cX3_turn 57 = .ok (.goto 115, 3) := by decide +kernel
theorem dX3_turn_60 : decode cX3_turn 60 = .ok (.iload 5, 2) := by decide +kernel
theorem dX3_turn_62 : decode cX3_turn 62 = .ok (.iconst 4, 1) := by decide +kernel
theorem dX3_turn_63 : decode cX3_turn 63 = .ok (.if_icmp .gt 27, 3) := by decide +kernel
theorem dX3_turn_66 : decode cX3_turn 66 = .ok (.aload_n 0, 1) := by decide +kernel
theorem dX3_turn_67 : decode cX3_turn 67 = .ok (.getfield 12, 3) := by decide +kernel
theorem dX3_turn_70 : decode cX3_turn 70 = .ok (.iload_n 3, 1) := by decide +kernel
theorem dX3_turn_71 : decode cX3_turn 71 = .ok (.iload 4, 2) := by decide +kernel
theorem dX3_turn_73 : decode cX3_turn 73 = .ok (.iconst 1, 1) := by decide +kernel
theorem dX3_turn_74 : decode cX3_turn 74 = .ok (.iload_n 1, 1) := by decide +kernel
theorem dX3_turn_75 : decode cX3_turn 75 = .ok (.sipush 4096, 3) := by decide +kernel
theorem dX3_turn_78 : decode cX3_turn 78 = .ok (.idiv, 1) := by decide +kernel
theorem dX3_turn_79 : decode cX3_turn 79 = .ok (.bipush 60, 2) := by decide +kernel
theorem dX3_turn_81 : decode cX3_turn 81 = .ok (.irem, 1) := by decide +kernel
theorem dX3_turn_82 : decode cX3_turn 82 = .ok (.iadd, 1) := by decide +kernel
theorem dX3_turn_83 : decode cX3_turn 83 = .ok (.invokevirtual 29, 3) := by decide +kernel
theorem dX3_turn_86 : decode cX3_turn 86 = .ok (.pop, 1) := by decide +kernel
theorem dX3_turn_87 : decode cX3_turn 87 = .ok (.goto 85, 3) := by decide +kernel
theorem dX3_turn_90 : decode cX3_turn 90 = .ok (.iload 5, 2) := by decide +kernel
theorem dX3_turn_92 : decode cX3_turn 92 = .ok (.iconst 5, 1) := by decide +kernel
theorem dX3_turn_93 : decode cX3_turn 93 = .ok (.if_icmp .ne 17, 3) := by decide +kernel
theorem dX3_turn_96 : decode cX3_turn 96 = .ok (.aload_n 0, 1) := by decide +kernel
theorem dX3_turn_97 : decode cX3_turn 97 = .ok (.getfield 12, 3) := by decide +kernel
theorem dX3_turn_100 : decode cX3_turn 100 = .ok (.iload_n 3, 1) := by decide +kernel
theorem dX3_turn_101 : decode cX3_turn 101 = .ok (.iload 4, 2) := by decide +kernel
theorem dX3_turn_103 : decode cX3_turn 103 = .ok (.invokevirtual 45, 3) := by decide +kernel
theorem dX3_turn_106 : decode cX3_turn 106 = .ok (.pop, 1) := by decide +kernel
theorem dX3_turn_107 : decode cX3_turn 107 = .ok (.goto 65, 3) := by decide +kernel
theorem dX3_turn_110 : decode cX3_turn 110 = .ok (.iload 5, 2) := by decide +kernel
theorem dX3_turn_112 : decode cX3_turn 112 = .ok (.bipush 12, 2) := by decide +kernel
theorem dX3_turn_114 : decode cX3_turn 114 = .ok (.if_icmp .gt 32, 3) := by decide +kernel
theorem dX3_turn_117 : decode cX3_turn 117 = .ok (.aload_n 0, 1) := by decide +kernel
theorem dX3_turn_118 : decode cX3_turn 118 = .ok (.getfield 12, 3) := by decide +kernel
theorem dX3_turn_121 : decode cX3_turn 121 = .ok (.iload_n 3, 1) := by decide +kernel
theorem dX3_turn_122 : decode cX3_turn 122 = .ok (.iload_n 1, 1) := by decide +kernel
theorem dX3_turn_123 : decode cX3_turn 123 = .ok (.bipush 64, 2) := by decide +kernel
theorem dX3_turn_125 : decode cX3_turn 125 = .ok (.idiv, 1) := by decide +kernel
theorem dX3_turn_126 : decode cX3_turn 126 = .ok (.bipush 6, 2) := by decide +kernel
theorem dX3_turn_128 : decode cX3_turn 128 = .ok (.irem, 1) := by decide +kernel
theorem dX3_turn_129 : decode cX3_turn 129 = .ok (.iload_n 1, 1) := by decide +kernel
theorem dX3_turn_130 : decode cX3_turn 130 = .ok (.sipush 512, 3) := by decide +kernel
theorem dX3_turn_133 : decode cX3_turn 133 = .ok (.idiv, 1) := by decide +kernel
theorem dX3_turn_134 : decode cX3_turn 134 = .ok (.sipush 1000, 3) := by decide +kernel
theorem dX3_turn_137 : decode cX3_turn 137 = .ok (.irem, 1) := by decide +kernel
theorem dX3_turn_138 : decode cX3_turn 138 = .ok (.iconst 1, 1) := by decide +kernel
theorem dX3_turn_139 : decode cX3_turn 139 = .ok (.invokevirtual 71, 3) := by decide +kernel
theorem dX3_turn_142 : decode cX3_turn 142 = .ok (.pop, 1) := by decide +kernel
theorem dX3_turn_143 : decode cX3_turn 143 = .ok (.goto 29, 3) := by decide +kernel
theorem dX3_turn_146 : decode cX3_turn 146 = .ok (.aload_n 0, 1) := by decide +kernel
theorem dX3_turn_147 : decode cX3_turn 147 = .ok (.getfield 12, 3) := by decide +kernel
theorem dX3_turn_150 : decode cX3_turn 150 = .ok (.iload_n 3, 1) := by decide +kernel
theorem dX3_turn_151 : decode cX3_turn 151 = .ok (.iload_n 1, 1) := by decide +kernel
theorem dX3_turn_152 : decode cX3_turn 152 = .ok (.bipush 64, 2) := by decide +kernel
theorem dX3_turn_154 : decode cX3_turn 154 = .ok (.idiv, 1) := by decide +kernel
theorem dX3_turn_155 : decode cX3_turn 155 = .ok (.bipush 6, 2) := by decide +kernel
theorem dX3_turn_157 : decode cX3_turn 157 = .ok (.irem, 1) := by decide +kernel
theorem dX3_turn_158 : decode cX3_turn 158 = .ok (.iload_n 1, 1) := by decide +kernel
theorem dX3_turn_159 : decode cX3_turn 159 = .ok (.sipush 512, 3) := by decide +kernel
theorem dX3_turn_162 : decode cX3_turn 162 = .ok (.idiv, 1) := by decide +kernel
theorem dX3_turn_163 : decode cX3_turn 163 = .ok (.sipush 200, 3) := by decide +kernel
theorem dX3_turn_166 : decode cX3_turn 166 = .ok (.irem, 1) := by decide +kernel
theorem dX3_turn_167 : decode cX3_turn 167 = .ok (.iconst 0, 1) := by decide +kernel
theorem dX3_turn_168 : decode cX3_turn 168 = .ok (.invokevirtual 71, 3) := by decide +kernel
theorem dX3_turn_171 : decode cX3_turn 171 = .ok (.pop, 1) := by decide +kernel
theorem dX3_turn_172 : decode cX3_turn 172 = .ok (.return_, 1) := by decide +kernel
theorem dX3_summary_0 : decode cX3_summary 0 = .ok (.sipush 1000, 3) := by decide +kernel
theorem dX3_summary_3 : decode cX3_summary 3 = .ok (.aload_n 0, 1) := by decide +kernel
theorem dX3_summary_4 : decode cX3_summary 4 = .ok (.getfield 21, 3) := by decide +kernel
theorem dX3_summary_7 : decode cX3_summary 7 = .ok (.aload_n 0, 1) := by decide +kernel
theorem dX3_summary_8 : decode cX3_summary 8 = .ok (.getfield 12, 3) := by decide +kernel
theorem dX3_summary_11 : decode cX3_summary 11 = .ok (.invokevirtual 33, 3) := by decide +kernel
theorem dX3_summary_14 : decode cX3_summary 14 = .ok (.imul, 1) := by decide +kernel
theorem dX3_summary_15 : decode cX3_summary 15 = .ok (.bipush 100, 2) := by decide +kernel
theorem dX3_summary_17 : decode cX3_summary 17 = .ok (.aload_n 0, 1) := by decide +kernel
theorem dX3_summary_18 : decode cX3_summary 18 = .ok (.getfield 12, 3) := by decide +kernel
theorem dX3_summary_21 : decode cX3_summary 21 = .ok (.invokevirtual 93, 3) := by decide +kernel
theorem dX3_summary_24 : decode cX3_summary 24 = .ok (.imul, 1) := by decide +kernel
theorem dX3_summary_25 : decode cX3_summary 25 = .ok (.iadd, 1) := by decide +kernel
theorem dX3_summary_26 : decode cX3_summary 26 = .ok (.aload_n 0, 1) := by decide +kernel
theorem dX3_summary_27 : decode cX3_summary 27 = .ok (.getfield 12, 3) := by decide +kernel
theorem dX3_summary_30 : decode cX3_summary 30 = .ok (.invokevirtual 96, 3) := by decide +kernel
theorem dX3_summary_33 : decode cX3_summary 33 = .ok (.iadd, 1) := by decide +kernel
theorem dX3_summary_34 : decode cX3_summary 34 = .ok (.ireturn, 1) := by decide +kernel
theorem dX4_init_0 : decode cX4_init 0 = .ok (.aload_n 0, 1) := by decide +kernel
theorem dX4_init_1 : decode cX4_init 1 = .ok (.invokespecial 3, 3) := by decide +kernel
theorem dX4_init_4 : decode cX4_init 4 = .ok (.aload_n 0, 1) := by decide +kernel
theorem dX4_init_5 : decode cX4_init 5 = .ok (.bipush 100, 2) := by decide +kernel
theorem dX4_init_7 : decode cX4_init 7 = .ok (.newarray .char, 2) := by decide +kernel
theorem dX4_init_9 : decode cX4_init 9 = .ok (.putfield 11, 3) := by decide +kernel
theorem dX4_init_12 : decode cX4_init 12 = .ok (.aload_n 0, 1) := by decide +kernel
theorem dX4_init_13 : decode cX4_init 13 = .ok (.iconst 0, 1) := by decide +kernel
theorem dX4_init_14 : decode cX4_init 14 = .ok (.putfield 15, 3) := by decide +kernel
theorem dX4_init_17 : decode cX4_init 17 = .ok (.return_, 1) := by decide +kernel
theorem dX4_isFull_0 : decode cX4_isFull 0 = .ok (.aload_n 0, 1) := by decide +kernel
theorem dX4_isFull_1 : decode cX4_isFull 1 = .ok (.getfield 15, 3) := by decide +kernel
theorem dX4_isFull_4 : decode cX4_isFull 4 = .ok (.bipush 100, 2) := by decide +kernel
theorem dX4_isFull_6 : decode cX4_isFull 6 = .ok (.if_icmp .lt 7, 3) := by decide +kernel
theorem dX4_isFull_9 : decode cX4_isFull 9 = .ok (.iconst 1, 1) := by decide +kernel
theorem dX4_isFull_10 : decode cX4_isFull 10 = .ok (.goto 4, 3) := by decide +kernel
theorem dX4_isFull_13 : decode cX4_isFull 13 = .ok (.iconst 0, 1) := by decide +kernel
theorem dX4_isFull_14 : decode cX4_isFull 14 = .ok (.ireturn, 1) := by decide +kernel
theorem dX4_add_0 : decode cX4_add 0 = .ok (.aload_n 0, 1) := by decide +kernel
theorem dX4_add_1 : decode cX4_add 1 = .ok (.getfield 15, 3) := by decide +kernel
theorem dX4_add_4 : decode cX4_add 4 = .ok (.bipush 100, 2) := by decide +kernel
theorem dX4_add_6 : decode cX4_add 6 = .ok (.if_icmp .ge 24, 3) := by decide +kernel
theorem dX4_add_9 : decode cX4_add 9 = .ok (.aload_n 0, 1) := by decide +kernel
theorem dX4_add_10 : decode cX4_add 10 = .ok (.getfield 11, 3) := by decide +kernel
theorem dX4_add_13 : decode cX4_add 13 = .ok (.aload_n 0, 1) := by decide +kernel
theorem dX4_add_14 : decode cX4_add 14 = .ok (.getfield 15, 3) := by decide +kernel
theorem dX4_add_17 : decode cX4_add 17 = .ok (.iload_n 1, 1) := by decide +kernel
theorem dX4_add_18 : decode cX4_add 18 = .ok (.i2c, 1) := by decide +kernel
theorem dX4_add_19 : decode cX4_add 19 = .ok (.castore, 1) := by decide +kernel
theorem dX4_add_20 : decode cX4_add 20 = .ok (.aload_n 0, 1) := by decide +kernel
theorem dX4_add_21 : decode cX4_add 21 = .ok (.dup, 1) := by decide +kernel
theorem dX4_add_22 : decode cX4_add 22 = .ok (.getfield 15, 3) := by decide +kernel
theorem dX4_add_25 : decode cX4_add 25 = .ok (.iconst 1, 1) := by decide +kernel
theorem dX4_add_26 : decode cX4_add 26 = .ok (.iadd, 1) := by decide +kernel
theorem dX4_add_27 : decode cX4_add 27 = .ok (.putfield 15, 3) := by decide +kernel
theorem dX4_add_30 : decode cX4_add 30 = .ok (.aload_n 0, 1) := by decide +kernel
theorem dX4_add_31 : decode cX4_add 31 = .ok (.getfield 15, 3) := by decide +kernel
theorem dX4_add_34 : decode cX4_add 34 = .ok (.ireturn, 1) := by decide +kernel
theorem dX4_empty_0 : decode cX4_empty 0 = .ok (.aload_n 0, 1) := by decide +kernel
theorem dX4_empty_1 : decode cX4_empty 1 = .ok (.getfield 15, 3) := by decide +kernel
theorem dX4_empty_4 : decode cX4_empty 4 = .ok (.istore_n 1, 1) := by decide +kernel
theorem dX4_empty_5 : decode cX4_empty 5 = .ok (.aload_n 0, 1) := by decide +kernel
theorem dX4_empty_6 : decode cX4_empty 6 = .ok (.iconst 0, 1) := by decide +kernel
theorem dX4_empty_7 : decode cX4_empty 7 = .ok (.putfield 15, 3) := by decide +kernel
theorem dX4_empty_10 : decode cX4_empty 10 = .ok (.iload_n 1, 1) := by decide +kernel
theorem dX4_empty_11 : decode cX4_empty 11 = .ok (.ireturn, 1) := by decide +kernel
theorem dX4_firstError_0 : decode cX4_firstError 0 = .ok (.iconst 0, 1) := by decide +kernel
theorem dX4_firstError_1 : decode cX4_firstError 1 = .ok (.istore_n 1, 1) := by decide +kernel
theorem dX4_firstError_2 : decode cX4_firstError 2 = .ok (.iconst 0, 1) := by decide +kernel
theorem dX4_firstError_3 : decode cX4_firstError 3 = .ok (.istore_n 2, 1) := by decide +kernel
theorem dX4_firstError_4 : decode cX4_firstError 4 = .ok (.iload_n 2, 1) := by decide +kernel
theorem dX4_firstError_5 : decode cX4_firstError 5 = .ok (.aload_n 0, 1) := by decide +kernel
theorem dX4_firstError_6 : decode cX4_firstError 6 = .ok (.getfield 15, 3) := by decide +kernel
theorem dX4_firstError_9 : decode cX4_firstError 9 = .ok (.if_icmp .ge 26, 3) := by decide +kernel
theorem dX4_firstError_12 : decode cX4_firstError 12 = .ok (.iload_n 1, 1) := by decide +kernel
theorem dX4_firstError_13 : decode cX4_firstError 13 = .ok (.aload_n 0, 1) := by decide +kernel
theorem dX4_firstError_14 : decode cX4_firstError 14 = .ok (.iload_n 2, 1) := by decide +kernel
theorem dX4_firstError_15 : decode cX4_firstError 15 = .ok (.invokevirtual 19, 3) := by decide +kernel
theorem dX4_firstError_18 : decode cX4_firstError 18 = .ok (.invokestatic 23, 3) := by decide +kernel
theorem dX4_firstError_21 : decode cX4_firstError 21 = .ok (.istore_n 1, 1) := by decide +kernel
theorem dX4_firstError_22 : decode cX4_firstError 22 = .ok (.iload_n 1, 1) := by decide +kernel
theorem dX4_firstError_23 : decode cX4_firstError 23 = .ok (.iconst (-1), 1) := by decide +kernel
theorem dX4_firstError_24 : decode cX4_firstError 24 = .ok (.if_icmp .ne 5, 3) := by decide +kernel
theorem dX4_firstError_27 : decode cX4_firstError 27 = .ok (.iload_n 2, 1) := by decide +kernel
theorem dX4_firstError_28 : decode cX4_firstError 28 = .ok (.ireturn, 1) := by decide +kernel
theorem dX4_firstError_29 : decode cX4_firstError 29 = .ok (.iinc 2 1, 3) := by decide +kernel
theorem dX4_firstError_32 : decode cX4_firstError 32 = .ok (.goto (-28), 3) := by decide +kernel
theorem dX4_firstError_35 : decode cX4_firstError 35 = .ok (.iload_n 1, 1) := by decide +kernel
theorem dX4_firstError_36 : decode cX4_firstError 36 = .ok (.iconst 5, 1) := by decide +kernel
theorem dX4_firstError_37 : decode cX4_firstError 37 = .ok (.if_icmp .ge 10, 3) := by decide +kernel
theorem dX4_firstError_40 : decode cX4_firstError 40 = .ok (.aload_n 0, 1) := by decide +kernel
theorem dX4_firstError_41 : decode cX4_firstError 41 = .ok (.getfield 15, 3) := by decide +kernel
theorem dX4_firstError_44 : decode cX4_firstError 44 = .ok (.goto 4, 3) := by decide +kernel
theorem dX4_firstError_47 : decode cX4_firstError 47 = .ok (.iconst (-1), 1) := by decide +kernel
theorem dX4_firstError_48 : decode cX4_firstError 48 = .ok (.ireturn, 1) := by decide +kernel
theorem dX4_awaitedBehind_0 : decode cX4_awaitedBehind 0 = .ok (.iload_n 1, 1) := by decide +kernel
theorem dX4_awaitedBehind_1 : decode cX4_awaitedBehind 1 = .ok (.bipush 48, 2) := by decide +kernel
theorem dX4_awaitedBehind_3 : decode cX4_awaitedBehind 3 = .ok (.if_icmp .lt 13, 3) := by decide +kernel
theorem dX4_awaitedBehind_6 : decode cX4_awaitedBehind 6 = .ok (.iload_n 1, 1) := by decide +kernel
theorem dX4_awaitedBehind_7 : decode cX4_awaitedBehind 7 = .ok (.bipush 57, 2) := by decide +kernel
theorem dX4_awaitedBehind_9 : decode cX4_awaitedBehind 9 = .ok (.if_icmp .gt 7, 3) := by decide +kernel
theorem dX4_awaitedBehind_12 : decode cX4_awaitedBehind 12 = .ok (.iconst 1, 1) := by decide +kernel
theorem dX4_awaitedBehind_13 : decode cX4_awaitedBehind 13 = .ok (.goto 4, 3) := by decide +kernel
theorem dX4_awaitedBehind_16 : decode cX4_awaitedBehind 16 = .ok (.iconst 0, 1) := by decide +kernel
theorem dX4_awaitedBehind_17 : decode cX4_awaitedBehind 17 = .ok (.istore_n 2, 1) := by decide +kernel
theorem dX4_awaitedBehind_18 : decode cX4_awaitedBehind 18 = .ok (.iload_n 0, 1) := by decide +kernel
theorem dX4_awaitedBehind_19 : decode cX4_awaitedBehind 19 = .ok (.tableswitch 164 0 6 #[41, 51, 69, 89, 101, 122, 143], 41) := by decide +kernel
theorem dX4_awaitedBehind_60 : decode cX4_awaitedBehind 60 = .ok (.iload_n 2, 1) := by decide +kernel
theorem dX4_awaitedBehind_61 : decode cX4_awaitedBehind 61 = .ok (.ifCond .eq 7, 3) := by decide +kernel
theorem dX4_awaitedBehind_64 : decode cX4_awaitedBehind 64 = .ok (.iconst 1, 1) := by decide +kernel
theorem dX4_awaitedBehind_65 : decode cX4_awaitedBehind 65 = .ok (.goto 4, 3) := by decide +kernel
theorem dX4_awaitedBehind_68 : decode cX4_awaitedBehind 68 = .ok (.iconst (-1), 1) := by decide +kernel
theorem dX4_awaitedBehind_69 : decode cX4_awaitedBehind 69 = .ok (.ireturn, 1) := by decide +kernel
theorem dX4_awaitedBehind_70 : decode cX4_awaitedBehind 70 = .ok (.iload_n 1, 1) := by decide +kernel
theorem dX4_awaitedBehind_71 : decode cX4_awaitedBehind 71 = .ok (.bipush 43, 2) := by decide +kernel
theorem dX4_awaitedBehind_73 : decode cX4_awaitedBehind 73 = .ok (.if_icmp .eq 9, 3) := by decide +kernel
theorem dX4_awaitedBehind_76 : decode cX4_awaitedBehind 76 = .ok (.iload_n 1, 1) := by decide +kernel
theorem dX4_awaitedBehind_77 : decode cX4_awaitedBehind 77 = .ok (.bipush 45, 2) := by decide +kernel
theorem dX4_awaitedBehind_79 : decode cX4_awaitedBehind 79 = .ok (.if_icmp .ne 7, 3) := by decide +kernel
theorem dX4_awaitedBehind_82 : decode cX4_awaitedBehind 82 = .ok (.iconst 2, 1) := by decide +kernel
theorem dX4_awaitedBehind_83 : decode cX4_awaitedBehind 83 = .ok (.goto 4, 3) := by decide +kernel
theorem dX4_awaitedBehind_86 : decode cX4_awaitedBehind 86 = .ok (.iconst (-1), 1) := by decide +kernel
theorem dX4_awaitedBehind_87 : decode cX4_awaitedBehind 87 = .ok (.ireturn, 1) := by decide +kernel
theorem dX4_awaitedBehind_88 : decode cX4_awaitedBehind 88 = .ok (.iload_n 2, 1) := by decide +kernel
theorem dX4_awaitedBehind_89 : decode cX4_awaitedBehind 89 = .ok (.ifCond .eq 17, 3) := by decide +kernel
theorem dX4_awaitedBehind_92 : decode cX4_awaitedBehind 92 = .ok (.iload_n 1, 1) := by decide +kernel
theorem dX4_awaitedBehind_93 : decode cX4_awaitedBehind 93 = .ok (.bipush 48, 2) := by decide +kernel
theorem dX4_awaitedBehind_95 : decode cX4_awaitedBehind 95 = .ok (.isub, 1) := by decide +kernel
theorem dX4_awaitedBehind_96 : decode cX4_awaitedBehind 96 = .ok (.invokestatic 27, 3) := by decide +kernel
theorem dX4_awaitedBehind_99 : decode cX4_awaitedBehind 99 = .ok (.ifCond .eq 7, 3) := by decide +kernel
theorem dX4_awaitedBehind_102 : decode cX4_awaitedBehind 102 = .ok (.iconst 3, 1) := by decide +kernel
theorem dX4_awaitedBehind_103 : decode cX4_awaitedBehind 103 = .ok (.goto 4, 3) := by decide +kernel
theorem dX4_awaitedBehind_106 : decode cX4_awaitedBehind 106 = .ok (.iconst (-1), 1) := by decide +kernel
theorem dX4_awaitedBehind_107 : decode cX4_awaitedBehind 107 = .ok (.ireturn, 1) := by decide +kernel
theorem dX4_awaitedBehind_108 : decode cX4_awaitedBehind 108 = .ok (.iload_n 1, 1) := by decide +kernel
theorem dX4_awaitedBehind_109 : decode cX4_awaitedBehind 109 = .ok (.bipush 58, 2) := by decide +kernel
theorem dX4_awaitedBehind_111 : decode cX4_awaitedBehind 111 = .ok (.if_icmp .ne 7, 3) := by decide +kernel
theorem dX4_awaitedBehind_114 : decode cX4_awaitedBehind 114 = .ok (.iconst 4, 1) := by decide +kernel
theorem dX4_awaitedBehind_115 : decode cX4_awaitedBehind 115 = .ok (.goto 4, 3) := by decide +kernel
theorem dX4_awaitedBehind_118 : decode cX4_awaitedBehind 118 = .ok (.iconst (-1), 1) := by decide +kernel
theorem dX4_awaitedBehind_119 : decode cX4_awaitedBehind 119 = .ok (.ireturn, 1) := by decide +kernel
theorem dX4_awaitedBehind_120 : decode cX4_awaitedBehind 120 = .ok (.iload_n 1, 1) := by decide +kernel
theorem dX4_awaitedBehind_121 : decode cX4_awaitedBehind 121 = .ok (.bipush 48, 2) := by decide +kernel
theorem dX4_awaitedBehind_123 : decode cX4_awaitedBehind 123 = .ok (.if_icmp .ne 8, 3) := by decide +kernel
theorem dX4_awaitedBehind_126 : decode cX4_awaitedBehind 126 = .ok (.bipush 7, 2) := by decide +kernel
theorem dX4_awaitedBehind_128 : decode cX4_awaitedBehind 128 = .ok (.goto 12, 3) := by decide +kernel
theorem dX4_awaitedBehind_131 : decode cX4_awaitedBehind 131 = .ok (.iload_n 2, 1) := by decide +kernel
theorem dX4_awaitedBehind_132 : decode cX4_awaitedBehind 132 = .ok (.ifCond .eq 7, 3) := by decide +kernel
theorem dX4_awaitedBehind_135 : decode cX4_awaitedBehind 135 = .ok (.iconst 5, 1) := by decide +kernel
theorem dX4_awaitedBehind_136 : decode cX4_awaitedBehind 136 = .ok (.goto 4, 3) := by decide +kernel
theorem dX4_awaitedBehind_139 : decode cX4_awaitedBehind 139 = .ok (.iconst (-1), 1) := by decide +kernel
theorem dX4_awaitedBehind_140 : decode cX4_awaitedBehind 140 = .ok (.ireturn, 1) := by decide +kernel
theorem dX4_awaitedBehind_141 : decode cX4_awaitedBehind 141 = .ok (.iload_n 2, 1) := by decide +kernel
theorem dX4_awaitedBehind_142 : decode cX4_awaitedBehind 142 = .ok (.ifCond .eq 8, 3) := by decide +kernel
theorem dX4_awaitedBehind_145 : decode cX4_awaitedBehind 145 = .ok (.bipush 6, 2) := by decide +kernel
theorem dX4_awaitedBehind_147 : decode cX4_awaitedBehind 147 = .ok (.goto 14, 3) := by decide +kernel
theorem dX4_awaitedBehind_150 : decode cX4_awaitedBehind 150 = .ok (.iload_n 1, 1) := by decide +kernel
theorem dX4_awaitedBehind_151 : decode cX4_awaitedBehind 151 = .ok (.bipush 59, 2) := by decide +kernel
theorem dX4_awaitedBehind_153 : decode cX4_awaitedBehind 153 = .ok (.if_icmp .ne 7, 3) := by decide +kernel
theorem dX4_awaitedBehind_156 : decode cX4_awaitedBehind 156 = .ok (.iconst 0, 1) := by decide +kernel
theorem dX4_awaitedBehind_157 : decode cX4_awaitedBehind 157 = .ok (.goto 4, 3) := by decide +kernel
theorem dX4_awaitedBehind_160 : decode cX4_awaitedBehind 160 = .ok (.iconst (-1), 1) := by decide +kernel
theorem dX4_awaitedBehind_161 : decode cX4_awaitedBehind 161 = .ok (.ireturn, 1) := by decide +kernel
theorem dX4_awaitedBehind_162 : decode cX4_awaitedBehind 162 = .ok (.iload_n 2, 1) := by decide +kernel
theorem dX4_awaitedBehind_163 : decode cX4_awaitedBehind 163 = .ok (.ifCond .eq 8, 3) := by decide +kernel
theorem dX4_awaitedBehind_166 : decode cX4_awaitedBehind 166 = .ok (.bipush 7, 2) := by decide +kernel
theorem dX4_awaitedBehind_168 : decode cX4_awaitedBehind 168 = .ok (.goto 14, 3) := by decide +kernel
theorem dX4_awaitedBehind_171 : decode cX4_awaitedBehind 171 = .ok (.iload_n 1, 1) := by decide +kernel
theorem dX4_awaitedBehind_172 : decode cX4_awaitedBehind 172 = .ok (.bipush 59, 2) := by decide +kernel
theorem dX4_awaitedBehind_174 : decode cX4_awaitedBehind 174 = .ok (.if_icmp .ne 7, 3) := by decide +kernel
theorem dX4_awaitedBehind_177 : decode cX4_awaitedBehind 177 = .ok (.iconst 0, 1) := by decide +kernel
theorem dX4_awaitedBehind_178 : decode cX4_awaitedBehind 178 = .ok (.goto 4, 3) := by decide +kernel
theorem dX4_awaitedBehind_181 : decode cX4_awaitedBehind 181 = .ok (.iconst (-1), 1) := by decide +kernel
theorem dX4_awaitedBehind_182 : decode cX4_awaitedBehind 182 = .ok (.ireturn, 1) := by decide +kernel
theorem dX4_awaitedBehind_183 : decode cX4_awaitedBehind 183 = .ok (.iload_n 1, 1) := by decide +kernel
theorem dX4_awaitedBehind_184 : decode cX4_awaitedBehind 184 = .ok (.bipush 59, 2) := by decide +kernel
theorem dX4_awaitedBehind_186 : decode cX4_awaitedBehind 186 = .ok (.if_icmp .ne 7, 3) := by decide +kernel
theorem dX4_awaitedBehind_189 : decode cX4_awaitedBehind 189 = .ok (.iconst 0, 1) := by decide +kernel
theorem dX4_awaitedBehind_190 : decode cX4_awaitedBehind 190 = .ok (.goto 4, 3) := by decide +kernel
theorem dX4_awaitedBehind_193 : decode cX4_awaitedBehind 193 = .ok (.iconst (-1), 1) := by decide +kernel
theorem dX4_awaitedBehind_194 : decode cX4_awaitedBehind 194 = .ok (.ireturn, 1) := by decide +kernel
theorem dX4_noteIn_0 : decode cX4_noteIn 0 = .ok (.iconst 0, 1) := by decide +kernel
theorem dX4_noteIn_1 : decode cX4_noteIn 1 = .ok (.istore_n 2, 1) := by decide +kernel
theorem dX4_noteIn_2 : decode cX4_noteIn 2 = .ok (.iconst 0, 1) := by decide +kernel
theorem dX4_noteIn_3 : decode cX4_noteIn 3 = .ok (.istore_n 3, 1) := by decide +kernel
theorem dX4_noteIn_4 : decode cX4_noteIn 4 = .ok (.iconst 0, 1) := by decide +kernel
theorem dX4_noteIn_5 : decode cX4_noteIn 5 = .ok (.istore 4, 2) := by decide +kernel
theorem dX4_noteIn_7 : decode cX4_noteIn 7 = .ok (.iconst 0, 1) := by decide +kernel
theorem dX4_noteIn_8 : decode cX4_noteIn 8 = .ok (.istore 5, 2) := by decide +kernel
theorem dX4_noteIn_10 : decode cX4_noteIn 10 = .ok (.iload 5, 2) := by decide +kernel
theorem dX4_noteIn_12 : decode cX4_noteIn 12 = .ok (.aload_n 0, 1) := by decide +kernel
theorem dX4_noteIn_13 : decode cX4_noteIn 13 = .ok (.getfield 15, 3) := by decide +kernel
theorem dX4_noteIn_16 : decode cX4_noteIn 16 = .ok (.if_icmp .gt 108, 3) := by decide +kernel
theorem dX4_noteIn_19 : decode cX4_noteIn 19 = .ok (.aload_n 0, 1) := by decide +kernel
theorem dX4_noteIn_20 : decode cX4_noteIn 20 = .ok (.iload 5, 2) := by decide +kernel
theorem dX4_noteIn_22 : decode cX4_noteIn 22 = .ok (.invokevirtual 19, 3) := by decide +kernel
theorem dX4_noteIn_25 : decode cX4_noteIn 25 = .ok (.istore 6, 2) := by decide +kernel
theorem dX4_noteIn_27 : decode cX4_noteIn 27 = .ok (.iload 6, 2) := by decide +kernel
theorem dX4_noteIn_29 : decode cX4_noteIn 29 = .ok (.bipush 59, 2) := by decide +kernel
theorem dX4_noteIn_31 : decode cX4_noteIn 31 = .ok (.if_icmp .ne 66, 3) := by decide +kernel
theorem dX4_noteIn_34 : decode cX4_noteIn 34 = .ok (.aload_n 0, 1) := by decide +kernel
theorem dX4_noteIn_35 : decode cX4_noteIn 35 = .ok (.iload_n 3, 1) := by decide +kernel
theorem dX4_noteIn_36 : decode cX4_noteIn 36 = .ok (.iconst 2, 1) := by decide +kernel
theorem dX4_noteIn_37 : decode cX4_noteIn 37 = .ok (.iadd, 1) := by decide +kernel
theorem dX4_noteIn_38 : decode cX4_noteIn 38 = .ok (.invokevirtual 19, 3) := by decide +kernel
theorem dX4_noteIn_41 : decode cX4_noteIn 41 = .ok (.bipush 48, 2) := by decide +kernel
theorem dX4_noteIn_43 : decode cX4_noteIn 43 = .ok (.isub, 1) := by decide +kernel
theorem dX4_noteIn_44 : decode cX4_noteIn 44 = .ok (.istore 7, 2) := by decide +kernel
theorem dX4_noteIn_46 : decode cX4_noteIn 46 = .ok (.aload_n 1, 1) := by decide +kernel
theorem dX4_noteIn_47 : decode cX4_noteIn 47 = .ok (.aload_n 0, 1) := by decide +kernel
theorem dX4_noteIn_48 : decode cX4_noteIn 48 = .ok (.iload_n 3, 1) := by decide +kernel
theorem dX4_noteIn_49 : decode cX4_noteIn 49 = .ok (.invokevirtual 19, 3) := by decide +kernel
theorem dX4_noteIn_52 : decode cX4_noteIn 52 = .ok (.bipush 48, 2) := by decide +kernel
theorem dX4_noteIn_54 : decode cX4_noteIn 54 = .ok (.isub, 1) := by decide +kernel
theorem dX4_noteIn_55 : decode cX4_noteIn 55 = .ok (.iload 7, 2) := by decide +kernel
theorem dX4_noteIn_57 : decode cX4_noteIn 57 = .ok (.iload 4, 2) := by decide +kernel
theorem dX4_noteIn_59 : decode cX4_noteIn 59 = .ok (.aload_n 0, 1) := by decide +kernel
theorem dX4_noteIn_60 : decode cX4_noteIn 60 = .ok (.iload_n 3, 1) := by decide +kernel
theorem dX4_noteIn_61 : decode cX4_noteIn 61 = .ok (.iconst 1, 1) := by decide +kernel
theorem dX4_noteIn_62 : decode cX4_noteIn 62 = .ok (.iadd, 1) := by decide +kernel
theorem dX4_noteIn_63 : decode cX4_noteIn 63 = .ok (.invokevirtual 19, 3) := by decide +kernel
theorem dX4_noteIn_66 : decode cX4_noteIn 66 = .ok (.bipush 43, 2) := by decide +kernel
theorem dX4_noteIn_68 : decode cX4_noteIn 68 = .ok (.if_icmp .ne 7, 3) := by decide +kernel
theorem dX4_noteIn_71 : decode cX4_noteIn 71 = .ok (.iconst 1, 1) := by decide +kernel
theorem dX4_noteIn_72 : decode cX4_noteIn 72 = .ok (.goto 4, 3) := by decide +kernel
theorem dX4_noteIn_75 : decode cX4_noteIn 75 = .ok (.iconst 0, 1) := by decide +kernel
theorem dX4_noteIn_76 : decode cX4_noteIn 76 = .ok (.invokevirtual 31, 3) := by decide +kernel
theorem dX4_noteIn_79 : decode cX4_noteIn 79 = .ok (.iconst (-1), 1) := by decide +kernel
theorem dX4_noteIn_80 : decode cX4_noteIn 80 = .ok (.if_icmp .ne 6, 3) := by decide +kernel
theorem dX4_noteIn_83 : decode cX4_noteIn 83 = .ok (.iinc 2 1, 3) := by decide +kernel
theorem dX4_noteIn_86 : decode cX4_noteIn 86 = .ok (.iload 5, 2) := by decide +kernel
theorem dX4_noteIn_88 : decode cX4_noteIn 88 = .ok (.iconst 1, 1) := by decide +kernel
theorem dX4_noteIn_89 : decode cX4_noteIn 89 = .ok (.iadd, 1) := by decide +kernel
theorem dX4_noteIn_90 : decode cX4_noteIn 90 = .ok (.istore_n 3, 1) := by decide +kernel
theorem dX4_noteIn_91 : decode cX4_noteIn 91 = .ok (.iconst 0, 1) := by decide +kernel
theorem dX4_noteIn_92 : decode cX4_noteIn 92 = .ok (.istore 4, 2) := by decide +kernel
theorem dX4_noteIn_94 : decode cX4_noteIn 94 = .ok (.goto 24, 3) := by decide +kernel
theorem dX4_noteIn_97 : decode cX4_noteIn 97 = .ok (.iload 5, 2) := by decide +kernel
theorem dX4_noteIn_99 : decode cX4_noteIn 99 = .ok (.iload_n 3, 1) := by decide +kernel
theorem dX4_noteIn_100 : decode cX4_noteIn 100 = .ok (.iconst 4, 1) := by decide +kernel
theorem dX4_noteIn_101 : decode cX4_noteIn 101 = .ok (.iadd, 1) := by decide +kernel
theorem dX4_noteIn_102 : decode cX4_noteIn 102 = .ok (.if_icmp .lt 16, 3) := by decide +kernel
theorem dX4_noteIn_105 : decode cX4_noteIn 105 = .ok (.iload 4, 2) := by decide +kernel
theorem dX4_noteIn_107 : decode cX4_noteIn 107 = .ok (.bipush 10, 2) := by decide +kernel
theorem dX4_noteIn_109 : decode cX4_noteIn 109 = .ok (.imul, 1) := by decide +kernel
theorem dX4_noteIn_110 : decode cX4_noteIn 110 = .ok (.iload 6, 2) := by decide +kernel
theorem dX4_noteIn_112 : decode cX4_noteIn 112 = .ok (.iadd, 1) := by decide +kernel
theorem dX4_noteIn_113 : decode cX4_noteIn 113 = .ok (.bipush 48, 2) := by decide +kernel
theorem dX4_noteIn_115 : decode cX4_noteIn 115 = .ok (.isub, 1) := by decide +kernel
theorem dX4_noteIn_116 : decode cX4_noteIn 116 = .ok (.istore 4, 2) := by decide +kernel
theorem dX4_noteIn_118 : decode cX4_noteIn 118 = .ok (.iinc 5 1, 3) := by decide +kernel
theorem dX4_noteIn_121 : decode cX4_noteIn 121 = .ok (.goto (-111), 3) := by decide +kernel
theorem dX4_noteIn_124 : decode cX4_noteIn 124 = .ok (.iload_n 2, 1) := by decide +kernel
theorem dX4_noteIn_125 : decode cX4_noteIn 125 = .ok (.ireturn, 1) := by decide +kernel
theorem dX4_signAt_0 : decode cX4_signAt 0 = .ok (.iload_n 1, 1) := by decide +kernel
theorem dX4_signAt_1 : decode cX4_signAt 1 = .ok (.ifCond .lt 26, 3) := by decide +kernel
theorem dX4_signAt_4 : decode cX4_signAt 4 = .ok (.iload_n 1, 1) := by decide +kernel
theorem dX4_signAt_5 : decode cX4_signAt 5 = .ok (.aload_n 0, 1) := by decide +kernel
theorem dX4_signAt_6 : decode cX4_signAt 6 = .ok (.getfield 15, 3) := by decide +kernel
theorem dX4_signAt_9 : decode cX4_signAt 9 = .ok (.if_icmp .ge 18, 3) := by decide +kernel
theorem dX4_signAt_12 : decode cX4_signAt 12 = .ok (.iload_n 1, 1) := by decide +kernel
theorem dX4_signAt_13 : decode cX4_signAt 13 = .ok (.bipush 100, 2) := by decide +kernel
theorem dX4_signAt_15 : decode cX4_signAt 15 = .ok (.if_icmp .ge 12, 3) := by decide +kernel
theorem dX4_signAt_18 : decode cX4_signAt 18 = .ok (.aload_n 0, 1) := by decide +kernel
theorem dX4_signAt_19 : decode cX4_signAt 19 = .ok (.getfield 11, 3) := by decide +kernel
theorem dX4_signAt_22 : decode cX4_signAt 22 = .ok (.iload_n 1, 1) := by decide +kernel
theorem dX4_signAt_23 : decode cX4_signAt 23 = .ok (.caload, 1) := by decide +kernel
theorem dX4_signAt_24 : decode cX4_signAt 24 = .ok (.goto 5, 3) := by decide +kernel
theorem dX4_signAt_27 : decode cX4_signAt 27 = .ok (.bipush 59, 2) := by decide +kernel
theorem dX4_signAt_29 : decode cX4_signAt 29 = .ok (.ireturn, 1) := by decide +kernel
theorem dX5_init_0 : decode cX5_init 0 = .ok (.aload_n 0, 1) := by decide +kernel
theorem dX5_init_1 : decode cX5_init 1 = .ok (.invokespecial 1, 3) := by decide +kernel
theorem dX5_init_4 : decode cX5_init 4 = .ok (.aload_n 0, 1) := by decide +kernel
theorem dX5_init_5 : decode cX5_init 5 = .ok (.new 7, 3) := by decide +kernel
theorem dX5_init_8 : decode cX5_init 8 = .ok (.dup, 1) := by decide +kernel
theorem dX5_init_9 : decode cX5_init 9 = .ok (.invokespecial 9, 3) := by decide +kernel
theorem dX5_init_12 : decode cX5_init 12 = .ok (.putfield 10, 3) := by decide +kernel
theorem dX5_init_15 : decode cX5_init 15 = .ok (.aload_n 0, 1) := by decide +kernel
theorem dX5_init_16 : decode cX5_init 16 = .ok (.new 16, 3) := by decide +kernel
theorem dX5_init_19 : decode cX5_init 19 = .ok (.dup, 1) := by decide +kernel
theorem dX5_init_20 : decode cX5_init 20 = .ok (.invokespecial 18, 3) := by decide +kernel
theorem dX5_init_23 : decode cX5_init 23 = .ok (.putfield 19, 3) := by decide +kernel
theorem dX5_init_26 : decode cX5_init 26 = .ok (.aload_n 0, 1) := by decide +kernel
theorem dX5_init_27 : decode cX5_init 27 = .ok (.new 23, 3) := by decide +kernel
theorem dX5_init_30 : decode cX5_init 30 = .ok (.dup, 1) := by decide +kernel
theorem dX5_init_31 : decode cX5_init 31 = .ok (.invokespecial 25, 3) := by decide +kernel
theorem dX5_init_34 : decode cX5_init 34 = .ok (.putfield 26, 3) := by decide +kernel
theorem dX5_init_37 : decode cX5_init 37 = .ok (.aload_n 0, 1) := by decide +kernel
theorem dX5_init_38 : decode cX5_init 38 = .ok (.new 30, 3) := by decide +kernel
theorem dX5_init_41 : decode cX5_init 41 = .ok (.dup, 1) := by decide +kernel
theorem dX5_init_42 : decode cX5_init 42 = .ok (.invokespecial 32, 3) := by decide +kernel
theorem dX5_init_45 : decode cX5_init 45 = .ok (.putfield 33, 3) := by decide +kernel
theorem dX5_init_48 : decode cX5_init 48 = .ok (.aload_n 0, 1) := by decide +kernel
theorem dX5_init_49 : decode cX5_init 49 = .ok (.new 37, 3) := by decide +kernel
theorem dX5_init_52 : decode cX5_init 52 = .ok (.dup, 1) := by decide +kernel
theorem dX5_init_53 : decode cX5_init 53 = .ok (.invokespecial 39, 3) := by decide +kernel
theorem dX5_init_56 : decode cX5_init 56 = .ok (.putfield 40, 3) := by decide +kernel
theorem dX5_init_59 : decode cX5_init 59 = .ok (.aload_n 0, 1) := by decide +kernel
theorem dX5_init_60 : decode cX5_init 60 = .ok (.iconst 2, 1) := by decide +kernel
theorem dX5_init_61 : decode cX5_init 61 = .ok (.sipush 221, 3) := by decide +kernel
theorem dX5_init_64 : decode cX5_init 64 = .ok (.multianewarray 44 2, 4) := by decide +kernel
theorem dX5_init_68 : decode cX5_init 68 = .ok (.putfield 46, 3) := by decide +kernel
theorem dX5_init_71 : decode cX5_init 71 = .ok (.aload_n 0, 1) := by decide +kernel
theorem dX5_init_72 : decode cX5_init 72 = .ok (.iconst 2, 1) := by decide +kernel
theorem dX5_init_73 : decode cX5_init 73 = .ok (.newarray .boolean, 2) := by decide +kernel
theorem dX5_init_75 : decode cX5_init 75 = .ok (.putfield 49, 3) := by decide +kernel
theorem dX5_init_78 : decode cX5_init 78 = .ok (.return_, 1) := by decide +kernel
theorem dX5_append_0 : decode cX5_append 0 = .ok (.iload_n 1, 1) := by decide +kernel
theorem dX5_append_1 : decode cX5_append 1 = .ok (.ifCond .lt 10, 3) := by decide +kernel
theorem dX5_append_4 : decode cX5_append 4 = .ok (.iload_n 1, 1) := by decide +kernel
theorem dX5_append_5 : decode cX5_append 5 = .ok (.sipush 255, 3) := by decide +kernel
theorem dX5_append_8 : decode cX5_append 8 = .ok (.if_icmp .le 13, 3) := by decide +kernel
theorem dX5_append_11 : decode cX5_append 11 = .ok (.new 53, 3) := by decide +kernel
theorem dX5_append_14 : decode cX5_append 14 = .ok (.dup, 1) := by decide +kernel
theorem dX5_append_15 : decode cX5_append 15 = .ok (.ldc 55, 2) := by decide +kernel
theorem dX5_append_17 : decode cX5_append 17 = .ok (.invokespecial 57, 3) := by decide +kernel
theorem dX5_append_20 : decode cX5_append 20 = .ok (.athrow, 1) := by decide +kernel
theorem dX5_append_21 : decode cX5_append 21 = .ok (.aload_n 0, 1) := by decide +kernel
theorem dX5_append_22 : decode cX5_append 22 = .ok (.getfield 26, 3) := by decide +kernel
theorem dX5_append_25 : decode cX5_append 25 = .ok (.invokevirtual 60, 3) := by decide +kernel
theorem dX5_append_28 : decode cX5_append 28 = .ok (.ifCond .eq 13, 3) := by decide +kernel
theorem dX5_append_31 : decode cX5_append 31 = .ok (.new 64, 3) := by decide +kernel
theorem dX5_append_34 : decode cX5_append 34 = .ok (.dup, 1) := by decide +kernel
theorem dX5_append_35 : decode cX5_append 35 = .ok (.ldc 66, 2) := by decide +kernel
theorem dX5_append_37 : decode cX5_append 37 = .ok (.invokespecial 68, 3) := by decide +kernel
theorem dX5_append_40 : decode cX5_append 40 = .ok (.athrow, 1) := by decide +kernel
theorem dX5_append_41 : decode cX5_append 41 = .ok (.aload_n 0, 1) := by decide +kernel
theorem dX5_append_42 : decode cX5_append 42 = .ok (.getfield 26, 3) := by decide +kernel
theorem dX5_append_45 : decode cX5_append 45 = .ok (.iload_n 1, 1) := by decide +kernel
theorem dX5_append_46 : decode cX5_append 46 = .ok (.invokevirtual 69, 3) := by decide +kernel
theorem dX5_append_49 : decode cX5_append 49 = .ok (.ireturn, 1) := by decide +kernel
theorem dX5_clearText_0 : decode cX5_clearText 0 = .ok (.aload_n 0, 1) := by decide +kernel
theorem dX5_clearText_1 : decode cX5_clearText 1 = .ok (.getfield 26, 3) := by decide +kernel
theorem dX5_clearText_4 : decode cX5_clearText 4 = .ok (.invokevirtual 73, 3) := by decide +kernel
theorem dX5_clearText_7 : decode cX5_clearText 7 = .ok (.ireturn, 1) := by decide +kernel
theorem dX5_errorPosition_0 : decode cX5_errorPosition 0 = .ok (.aload_n 0, 1) := by decide +kernel
theorem dX5_errorPosition_1 : decode cX5_errorPosition 1 = .ok (.getfield 26, 3) := by decide +kernel
theorem dX5_errorPosition_4 : decode cX5_errorPosition 4 = .ok (.invokevirtual 77, 3) := by decide +kernel
theorem dX5_errorPosition_7 : decode cX5_errorPosition 7 = .ok (.ireturn, 1) := by decide +kernel
theorem dX5_about_0 : decode cX5_about 0 = .ok (.iload_n 1, 1) := by decide +kernel
theorem dX5_about_1 : decode cX5_about 1 = .ok (.tableswitch 95 0 5 #[39, 47, 55, 63, 71, 83], 39) := by decide +kernel
theorem dX5_about_40 : decode cX5_about 40 = .ok (.aload_n 0, 1) := by decide +kernel
theorem dX5_about_41 : decode cX5_about 41 = .ok (.getfield 10, 3) := by decide +kernel
theorem dX5_about_44 : decode cX5_about 44 = .ok (.invokevirtual 80, 3) := by decide +kernel
theorem dX5_about_47 : decode cX5_about 47 = .ok (.ireturn, 1) := by decide +kernel
theorem dX5_about_48 : decode cX5_about 48 = .ok (.aload_n 0, 1) := by decide +kernel
theorem dX5_about_49 : decode cX5_about 49 = .ok (.getfield 10, 3) := by decide +kernel
theorem dX5_about_52 : decode cX5_about 52 = .ok (.invokevirtual 83, 3) := by decide +kernel
theorem dX5_about_55 : decode cX5_about 55 = .ok (.ireturn, 1) := by decide +kernel
theorem dX5_about_56 : decode cX5_about 56 = .ok (.aload_n 0, 1) := by decide +kernel
theorem dX5_about_57 : decode cX5_about 57 = .ok (.getfield 10, 3) := by decide +kernel
theorem dX5_about_60 : decode cX5_about 60 = .ok (.invokevirtual 86, 3) := by decide +kernel
theorem dX5_about_63 : decode cX5_about 63 = .ok (.ireturn, 1) := by decide +kernel
theorem dX5_about_64 : decode cX5_about 64 = .ok (.aload_n 0, 1) := by decide +kernel
theorem dX5_about_65 : decode cX5_about 65 = .ok (.getfield 10, 3) := by decide +kernel
theorem dX5_about_68 : decode cX5_about 68 = .ok (.invokevirtual 89, 3) := by decide +kernel
theorem dX5_about_71 : decode cX5_about 71 = .ok (.ireturn, 1) := by decide +kernel
theorem dX5_about_72 : decode cX5_about 72 = .ok (.aload_n 0, 1) := by decide +kernel
theorem dX5_about_73 : decode cX5_about 73 = .ok (.getfield 33, 3) := by decide +kernel
theorem dX5_about_76 : decode cX5_about 76 = .ok (.aload_n 0, 1) := by decide +kernel
theorem dX5_about_77 : decode cX5_about 77 = .ok (.getfield 10, 3) := by decide +kernel
theorem dX5_about_80 : decode cX5_about 80 = .ok (.invokevirtual 92, 3) := by decide +kernel
theorem dX5_about_83 : decode cX5_about 83 = .ok (.ireturn, 1) := by decide +kernel
theorem dX5_about_84 : decode cX5_about 84 = .ok (.aload_n 0, 1) := by decide +kernel
theorem dX5_about_85 : decode cX5_about 85 = .ok (.getfield 33, 3) := by decide +kernel
theorem dX5_about_88 : decode cX5_about 88 = .ok (.aload_n 0, 1) := by decide +kernel
theorem dX5_about_89 : decode cX5_about 89 = .ok (.getfield 10, 3) := by decide +kernel
theorem dX5_about_92 : decode cX5_about 92 = .ok (.invokevirtual 96, 3) := by decide +kernel
theorem dX5_about_95 : decode cX5_about 95 = .ok (.ireturn, 1) := by decide +kernel
theorem dX5_about_96 : decode cX5_about 96 = .ok (.new 53, 3) := by decide +kernel
theorem dX5_about_99 : decode cX5_about 99 = .ok (.dup, 1) := by decide +kernel
theorem dX5_about_100 : decode cX5_about 100 = .ok (.ldc 99, 2) := by decide +kernel
theorem dX5_about_102 : decode cX5_about 102 = .ok (.invokespecial 57, 3) := by decide +kernel
theorem dX5_about_105 : decode cX5_about 105 = .ok (.athrow, 1) := by decide +kernel
theorem dX5_road_0 : decode cX5_road 0 = .ok (.aload_n 0, 1) := by decide +kernel
theorem dX5_road_1 : decode cX5_road 1 = .ok (.iload_n 1, 1) := by decide +kernel
theorem dX5_road_2 : decode cX5_road 2 = .ok (.invokevirtual 101, 3) := by decide +kernel
theorem dX5_road_5 : decode cX5_road 5 = .ok (.aload_n 0, 1) := by decide +kernel
theorem dX5_road_6 : decode cX5_road 6 = .ok (.iload_n 2, 1) := by decide +kernel
theorem dX5_road_7 : decode cX5_road 7 = .ok (.invokevirtual 101, 3) := by decide +kernel
theorem dX5_road_10 : decode cX5_road 10 = .ok (.aload_n 0, 1) := by decide +kernel
theorem dX5_road_11 : decode cX5_road 11 = .ok (.getfield 10, 3) := by decide +kernel
theorem dX5_road_14 : decode cX5_road 14 = .ok (.iload_n 1, 1) := by decide +kernel
theorem dX5_road_15 : decode cX5_road 15 = .ok (.iload_n 2, 1) := by decide +kernel
theorem dX5_road_16 : decode cX5_road 16 = .ok (.invokevirtual 105, 3) := by decide +kernel
theorem dX5_road_19 : decode cX5_road 19 = .ok (.ireturn, 1) := by decide +kernel
theorem dX5_neighbor_0 : decode cX5_neighbor 0 = .ok (.aload_n 0, 1) := by decide +kernel
theorem dX5_neighbor_1 : decode cX5_neighbor 1 = .ok (.iload_n 1, 1) := by decide +kernel
theorem dX5_neighbor_2 : decode cX5_neighbor 2 = .ok (.invokevirtual 101, 3) := by decide +kernel
theorem dX5_neighbor_5 : decode cX5_neighbor 5 = .ok (.iload_n 2, 1) := by decide +kernel
theorem dX5_neighbor_6 : decode cX5_neighbor 6 = .ok (.invokestatic 109, 3) := by decide +kernel
theorem dX5_neighbor_9 : decode cX5_neighbor 9 = .ok (.aload_n 0, 1) := by decide +kernel
theorem dX5_neighbor_10 : decode cX5_neighbor 10 = .ok (.getfield 10, 3) := by decide +kernel
theorem dX5_neighbor_13 : decode cX5_neighbor 13 = .ok (.iload_n 1, 1) := by decide +kernel
theorem dX5_neighbor_14 : decode cX5_neighbor 14 = .ok (.iload_n 2, 1) := by decide +kernel
theorem dX5_neighbor_15 : decode cX5_neighbor 15 = .ok (.invokevirtual 112, 3) := by decide +kernel
theorem dX5_neighbor_18 : decode cX5_neighbor 18 = .ok (.ireturn, 1) := by decide +kernel
theorem dX5_report_0 : decode cX5_report 0 = .ok (.aload_n 0, 1) := by decide +kernel
theorem dX5_report_1 : decode cX5_report 1 = .ok (.iload_n 1, 1) := by decide +kernel
theorem dX5_report_2 : decode cX5_report 2 = .ok (.invokevirtual 101, 3) := by decide +kernel
theorem dX5_report_5 : decode cX5_report 5 = .ok (.iload_n 2, 1) := by decide +kernel
theorem dX5_report_6 : decode cX5_report 6 = .ok (.invokestatic 115, 3) := by decide +kernel
theorem dX5_report_9 : decode cX5_report 9 = .ok (.aload_n 0, 1) := by decide +kernel
theorem dX5_report_10 : decode cX5_report 10 = .ok (.getfield 10, 3) := by decide +kernel
theorem dX5_report_13 : decode cX5_report 13 = .ok (.iload_n 1, 1) := by decide +kernel
theorem dX5_report_14 : decode cX5_report 14 = .ok (.iload_n 2, 1) := by decide +kernel
theorem dX5_report_15 : decode cX5_report 15 = .ok (.iload_n 3, 1) := by decide +kernel
theorem dX5_report_16 : decode cX5_report 16 = .ok (.invokevirtual 118, 3) := by decide +kernel
theorem dX5_report_19 : decode cX5_report 19 = .ok (.ireturn, 1) := by decide +kernel
theorem dX5_found_0 : decode cX5_found 0 = .ok (.aload_n 0, 1) := by decide +kernel
theorem dX5_found_1 : decode cX5_found 1 = .ok (.getfield 10, 3) := by decide +kernel
theorem dX5_found_4 : decode cX5_found 4 = .ok (.invokevirtual 80, 3) := by decide +kernel
theorem dX5_found_7 : decode cX5_found 7 = .ok (.bipush 10, 2) := by decide +kernel
theorem dX5_found_9 : decode cX5_found 9 = .ok (.if_icmp .lt 13, 3) := by decide +kernel
theorem dX5_found_12 : decode cX5_found 12 = .ok (.new 64, 3) := by decide +kernel
theorem dX5_found_15 : decode cX5_found 15 = .ok (.dup, 1) := by decide +kernel
theorem dX5_found_16 : decode cX5_found 16 = .ok (.ldc 122, 2) := by decide +kernel
theorem dX5_found_18 : decode cX5_found 18 = .ok (.invokespecial 68, 3) := by decide +kernel
theorem dX5_found_21 : decode cX5_found 21 = .ok (.athrow, 1) := by decide +kernel
theorem dX5_found_22 : decode cX5_found 22 = .ok (.aload_n 0, 1) := by decide +kernel
theorem dX5_found_23 : decode cX5_found 23 = .ok (.getfield 19, 3) := by decide +kernel
theorem dX5_found_26 : decode cX5_found 26 = .ok (.aload_n 0, 1) := by decide +kernel
theorem dX5_found_27 : decode cX5_found 27 = .ok (.getfield 10, 3) := by decide +kernel
theorem dX5_found_30 : decode cX5_found 30 = .ok (.invokevirtual 124, 3) := by decide +kernel
theorem dX5_found_33 : decode cX5_found 33 = .ok (.aload_n 0, 1) := by decide +kernel
theorem dX5_found_34 : decode cX5_found 34 = .ok (.getfield 10, 3) := by decide +kernel
theorem dX5_found_37 : decode cX5_found 37 = .ok (.invokevirtual 128, 3) := by decide +kernel
theorem dX5_found_40 : decode cX5_found 40 = .ok (.ireturn, 1) := by decide +kernel
theorem dX5_lay_0 : decode cX5_lay 0 = .ok (.aload_n 0, 1) := by decide +kernel
theorem dX5_lay_1 : decode cX5_lay 1 = .ok (.iload_n 1, 1) := by decide +kernel
theorem dX5_lay_2 : decode cX5_lay 2 = .ok (.iload_n 2, 1) := by decide +kernel
theorem dX5_lay_3 : decode cX5_lay 3 = .ok (.iload_n 3, 1) := by decide +kernel
theorem dX5_lay_4 : decode cX5_lay 4 = .ok (.invokevirtual 131, 3) := by decide +kernel
theorem dX5_lay_7 : decode cX5_lay 7 = .ok (.aload_n 0, 1) := by decide +kernel
theorem dX5_lay_8 : decode cX5_lay 8 = .ok (.getfield 19, 3) := by decide +kernel
theorem dX5_lay_11 : decode cX5_lay 11 = .ok (.aload_n 0, 1) := by decide +kernel
theorem dX5_lay_12 : decode cX5_lay 12 = .ok (.getfield 10, 3) := by decide +kernel
theorem dX5_lay_15 : decode cX5_lay 15 = .ok (.invokevirtual 124, 3) := by decide +kernel
theorem dX5_lay_18 : decode cX5_lay 18 = .ok (.aload_n 0, 1) := by decide +kernel
theorem dX5_lay_19 : decode cX5_lay 19 = .ok (.getfield 10, 3) := by decide +kernel
theorem dX5_lay_22 : decode cX5_lay 22 = .ok (.iload_n 1, 1) := by decide +kernel
theorem dX5_lay_23 : decode cX5_lay 23 = .ok (.iload_n 2, 1) := by decide +kernel
theorem dX5_lay_24 : decode cX5_lay 24 = .ok (.iload_n 3, 1) := by decide +kernel
theorem dX5_lay_25 : decode cX5_lay 25 = .ok (.invokevirtual 135, 3) := by decide +kernel
theorem dX5_lay_28 : decode cX5_lay 28 = .ok (.pop, 1) := by decide +kernel
theorem dX5_lay_29 : decode cX5_lay 29 = .ok (.aload_n 0, 1) := by decide +kernel
theorem dX5_lay_30 : decode cX5_lay 30 = .ok (.getfield 10, 3) := by decide +kernel
theorem dX5_lay_33 : decode cX5_lay 33 = .ok (.invokevirtual 83, 3) := by decide +kernel
theorem dX5_lay_36 : decode cX5_lay 36 = .ok (.ireturn, 1) := by decide +kernel
theorem dX5_tear_0 : decode cX5_tear 0 = .ok (.aload_n 0, 1) := by decide +kernel
theorem dX5_tear_1 : decode cX5_tear 1 = .ok (.iload_n 1, 1) := by decide +kernel
theorem dX5_tear_2 : decode cX5_tear 2 = .ok (.invokevirtual 101, 3) := by decide +kernel
theorem dX5_tear_5 : decode cX5_tear 5 = .ok (.aload_n 0, 1) := by decide +kernel
theorem dX5_tear_6 : decode cX5_tear 6 = .ok (.iload_n 2, 1) := by decide +kernel
theorem dX5_tear_7 : decode cX5_tear 7 = .ok (.invokevirtual 101, 3) := by decide +kernel
theorem dX5_tear_10 : decode cX5_tear 10 = .ok (.aload_n 0, 1) := by decide +kernel
theorem dX5_tear_11 : decode cX5_tear 11 = .ok (.getfield 10, 3) := by decide +kernel
theorem dX5_tear_14 : decode cX5_tear 14 = .ok (.iload_n 1, 1) := by decide +kernel
theorem dX5_tear_15 : decode cX5_tear 15 = .ok (.iload_n 2, 1) := by decide +kernel
theorem dX5_tear_16 : decode cX5_tear 16 = .ok (.invokevirtual 105, 3) := by decide +kernel
theorem dX5_tear_19 : decode cX5_tear 19 = .ok (.iconst (-1), 1) := by decide +kernel
theorem dX5_tear_20 : decode cX5_tear 20 = .ok (.if_icmp .ne 13, 3) := by decide +kernel
theorem dX5_tear_23 : decode cX5_tear 23 = .ok (.new 64, 3) := by decide +kernel
theorem dX5_tear_26 : decode cX5_tear 26 = .ok (.dup, 1) := by decide +kernel
theorem dX5_tear_27 : decode cX5_tear 27 = .ok (.ldc 139, 2) := by decide +kernel
theorem dX5_tear_29 : decode cX5_tear 29 = .ok (.invokespecial 68, 3) := by decide +kernel
theorem dX5_tear_32 : decode cX5_tear 32 = .ok (.athrow, 1) := by decide +kernel
theorem dX5_tear_33 : decode cX5_tear 33 = .ok (.aload_n 0, 1) := by decide +kernel
theorem dX5_tear_34 : decode cX5_tear 34 = .ok (.getfield 19, 3) := by decide +kernel
theorem dX5_tear_37 : decode cX5_tear 37 = .ok (.aload_n 0, 1) := by decide +kernel
theorem dX5_tear_38 : decode cX5_tear 38 = .ok (.getfield 10, 3) := by decide +kernel
theorem dX5_tear_41 : decode cX5_tear 41 = .ok (.invokevirtual 124, 3) := by decide +kernel
theorem dX5_tear_44 : decode cX5_tear 44 = .ok (.aload_n 0, 1) := by decide +kernel
theorem dX5_tear_45 : decode cX5_tear 45 = .ok (.getfield 10, 3) := by decide +kernel
theorem dX5_tear_48 : decode cX5_tear 48 = .ok (.iload_n 1, 1) := by decide +kernel
theorem dX5_tear_49 : decode cX5_tear 49 = .ok (.iload_n 2, 1) := by decide +kernel
theorem dX5_tear_50 : decode cX5_tear 50 = .ok (.invokevirtual 141, 3) := by decide +kernel
theorem dX5_tear_53 : decode cX5_tear 53 = .ok (.ireturn, 1) := by decide +kernel
theorem dX5_see_0 : decode cX5_see 0 = .ok (.aload_n 0, 1) := by decide +kernel
theorem dX5_see_1 : decode cX5_see 1 = .ok (.iload_n 1, 1) := by decide +kernel
theorem dX5_see_2 : decode cX5_see 2 = .ok (.invokevirtual 101, 3) := by decide +kernel
theorem dX5_see_5 : decode cX5_see 5 = .ok (.iload_n 2, 1) := by decide +kernel
theorem dX5_see_6 : decode cX5_see 6 = .ok (.invokestatic 115, 3) := by decide +kernel
theorem dX5_see_9 : decode cX5_see 9 = .ok (.iload_n 3, 1) := by decide +kernel
theorem dX5_see_10 : decode cX5_see 10 = .ok (.invokestatic 144, 3) := by decide +kernel
theorem dX5_see_13 : decode cX5_see 13 = .ok (.ifCond .ne 13, 3) := by decide +kernel
theorem dX5_see_16 : decode cX5_see 16 = .ok (.new 53, 3) := by decide +kernel
theorem dX5_see_19 : decode cX5_see 19 = .ok (.dup, 1) := by decide +kernel
theorem dX5_see_20 : decode cX5_see 20 = .ok (.ldc 148, 2) := by decide +kernel
theorem dX5_see_22 : decode cX5_see 22 = .ok (.invokespecial 57, 3) := by decide +kernel
theorem dX5_see_25 : decode cX5_see 25 = .ok (.athrow, 1) := by decide +kernel
theorem dX5_see_26 : decode cX5_see 26 = .ok (.aload_n 0, 1) := by decide +kernel
theorem dX5_see_27 : decode cX5_see 27 = .ok (.getfield 19, 3) := by decide +kernel
theorem dX5_see_30 : decode cX5_see 30 = .ok (.aload_n 0, 1) := by decide +kernel
theorem dX5_see_31 : decode cX5_see 31 = .ok (.getfield 10, 3) := by decide +kernel
theorem dX5_see_34 : decode cX5_see 34 = .ok (.invokevirtual 124, 3) := by decide +kernel
theorem dX5_see_37 : decode cX5_see 37 = .ok (.aload_n 0, 1) := by decide +kernel
theorem dX5_see_38 : decode cX5_see 38 = .ok (.getfield 10, 3) := by decide +kernel
theorem dX5_see_41 : decode cX5_see 41 = .ok (.iload_n 1, 1) := by decide +kernel
theorem dX5_see_42 : decode cX5_see 42 = .ok (.iload_n 2, 1) := by decide +kernel
theorem dX5_see_43 : decode cX5_see 43 = .ok (.iload_n 3, 1) := by decide +kernel
theorem dX5_see_44 : decode cX5_see 44 = .ok (.iload 4, 2) := by decide +kernel
theorem dX5_see_46 : decode cX5_see 46 = .ok (.invokevirtual 150, 3) := by decide +kernel
theorem dX5_see_49 : decode cX5_see 49 = .ok (.ireturn, 1) := by decide +kernel
theorem dX5_seeAll_0 : decode cX5_seeAll 0 = .ok (.aload_n 0, 1) := by decide +kernel
theorem dX5_seeAll_1 : decode cX5_seeAll 1 = .ok (.getfield 26, 3) := by decide +kernel
theorem dX5_seeAll_4 : decode cX5_seeAll 4 = .ok (.invokevirtual 77, 3) := by decide +kernel
theorem dX5_seeAll_7 : decode cX5_seeAll 7 = .ok (.iconst (-1), 1) := by decide +kernel
theorem dX5_seeAll_8 : decode cX5_seeAll 8 = .ok (.if_icmp .eq 13, 3) := by decide +kernel
theorem dX5_seeAll_11 : decode cX5_seeAll 11 = .ok (.new 64, 3) := by decide +kernel
theorem dX5_seeAll_14 : decode cX5_seeAll 14 = .ok (.dup, 1) := by decide +kernel
theorem dX5_seeAll_15 : decode cX5_seeAll 15 = .ok (.ldc 154, 2) := by decide +kernel
theorem dX5_seeAll_17 : decode cX5_seeAll 17 = .ok (.invokespecial 68, 3) := by decide +kernel
theorem dX5_seeAll_20 : decode cX5_seeAll 20 = .ok (.athrow, 1) := by decide +kernel
theorem dX5_seeAll_21 : decode cX5_seeAll 21 = .ok (.aload_n 0, 1) := by decide +kernel
theorem dX5_seeAll_22 : decode cX5_seeAll 22 = .ok (.getfield 19, 3) := by decide +kernel
theorem dX5_seeAll_25 : decode cX5_seeAll 25 = .ok (.aload_n 0, 1) := by decide +kernel
theorem dX5_seeAll_26 : decode cX5_seeAll 26 = .ok (.getfield 10, 3) := by decide +kernel
theorem dX5_seeAll_29 : decode cX5_seeAll 29 = .ok (.invokevirtual 124, 3) := by decide +kernel
theorem dX5_seeAll_32 : decode cX5_seeAll 32 = .ok (.aload_n 0, 1) := by decide +kernel
theorem dX5_seeAll_33 : decode cX5_seeAll 33 = .ok (.getfield 26, 3) := by decide +kernel
theorem dX5_seeAll_36 : decode cX5_seeAll 36 = .ok (.aload_n 0, 1) := by decide +kernel
theorem dX5_seeAll_37 : decode cX5_seeAll 37 = .ok (.getfield 10, 3) := by decide +kernel
theorem dX5_seeAll_40 : decode cX5_seeAll 40 = .ok (.invokevirtual 156, 3) := by decide +kernel
theorem dX5_seeAll_43 : decode cX5_seeAll 43 = .ok (.ireturn, 1) := by decide +kernel
theorem dX5_forget_0 : decode cX5_forget 0 = .ok (.aload_n 0, 1) := by decide +kernel
theorem dX5_forget_1 : decode cX5_forget 1 = .ok (.iload_n 1, 1) := by decide +kernel
theorem dX5_forget_2 : decode cX5_forget 2 = .ok (.invokevirtual 101, 3) := by decide +kernel
theorem dX5_forget_5 : decode cX5_forget 5 = .ok (.iload_n 2, 1) := by decide +kernel
theorem dX5_forget_6 : decode cX5_forget 6 = .ok (.invokestatic 115, 3) := by decide +kernel
theorem dX5_forget_9 : decode cX5_forget 9 = .ok (.aload_n 0, 1) := by decide +kernel
theorem dX5_forget_10 : decode cX5_forget 10 = .ok (.getfield 19, 3) := by decide +kernel
theorem dX5_forget_13 : decode cX5_forget 13 = .ok (.aload_n 0, 1) := by decide +kernel
theorem dX5_forget_14 : decode cX5_forget 14 = .ok (.getfield 10, 3) := by decide +kernel
theorem dX5_forget_17 : decode cX5_forget 17 = .ok (.invokevirtual 124, 3) := by decide +kernel
theorem dX5_forget_20 : decode cX5_forget 20 = .ok (.aload_n 0, 1) := by decide +kernel
theorem dX5_forget_21 : decode cX5_forget 21 = .ok (.getfield 10, 3) := by decide +kernel
theorem dX5_forget_24 : decode cX5_forget 24 = .ok (.iload_n 1, 1) := by decide +kernel
theorem dX5_forget_25 : decode cX5_forget 25 = .ok (.iload_n 2, 1) := by decide +kernel
theorem dX5_forget_26 : decode cX5_forget 26 = .ok (.invokevirtual 159, 3) := by decide +kernel
theorem dX5_forget_29 : decode cX5_forget 29 = .ok (.ireturn, 1) := by decide +kernel
theorem dX5_undo_0 : decode cX5_undo 0 = .ok (.aload_n 0, 1) := by decide +kernel
theorem dX5_undo_1 : decode cX5_undo 1 = .ok (.getfield 19, 3) := by decide +kernel
theorem dX5_undo_4 : decode cX5_undo 4 = .ok (.invokevirtual 162, 3) := by decide +kernel
theorem dX5_undo_7 : decode cX5_undo 7 = .ok (.ifCond .eq 13, 3) := by decide +kernel
theorem dX5_undo_10 : decode cX5_undo 10 = .ok (.new 64, 3) := by decide +kernel
theorem dX5_undo_13 : decode cX5_undo 13 = .ok (.dup, 1) := by decide +kernel
theorem dX5_undo_14 : decode cX5_undo 14 = .ok (.ldc 165, 2) := by decide +kernel
theorem dX5_undo_16 : decode cX5_undo 16 = .ok (.invokespecial 68, 3) := by decide +kernel
theorem dX5_undo_19 : decode cX5_undo 19 = .ok (.athrow, 1) := by decide +kernel
theorem dX5_undo_20 : decode cX5_undo 20 = .ok (.aload_n 0, 1) := by decide +kernel
theorem dX5_undo_21 : decode cX5_undo 21 = .ok (.getfield 19, 3) := by decide +kernel
theorem dX5_undo_24 : decode cX5_undo 24 = .ok (.aload_n 0, 1) := by decide +kernel
theorem dX5_undo_25 : decode cX5_undo 25 = .ok (.getfield 10, 3) := by decide +kernel
theorem dX5_undo_28 : decode cX5_undo 28 = .ok (.invokevirtual 167, 3) := by decide +kernel
theorem dX5_undo_31 : decode cX5_undo 31 = .ok (.ireturn, 1) := by decide +kernel
theorem dX5_inventions_0 : decode cX5_inventions 0 = .ok (.iload_n 1, 1) := by decide +kernel
theorem dX5_inventions_1 : decode cX5_inventions 1 = .ok (.invokestatic 115, 3) := by decide +kernel
theorem dX5_inventions_4 : decode cX5_inventions 4 = .ok (.aload_n 0, 1) := by decide +kernel
theorem dX5_inventions_5 : decode cX5_inventions 5 = .ok (.getfield 33, 3) := by decide +kernel
theorem dX5_inventions_8 : decode cX5_inventions 8 = .ok (.aload_n 0, 1) := by decide +kernel
theorem dX5_inventions_9 : decode cX5_inventions 9 = .ok (.getfield 10, 3) := by decide +kernel
theorem dX5_inventions_12 : decode cX5_inventions 12 = .ok (.iload_n 1, 1) := by decide +kernel
theorem dX5_inventions_13 : decode cX5_inventions 13 = .ok (.invokevirtual 170, 3) := by decide +kernel
theorem dX5_inventions_16 : decode cX5_inventions 16 = .ok (.ireturn, 1) := by decide +kernel
theorem dX5_invented_0 : decode cX5_invented 0 = .ok (.iload_n 1, 1) := by decide +kernel
theorem dX5_invented_1 : decode cX5_invented 1 = .ok (.invokestatic 115, 3) := by decide +kernel
theorem dX5_invented_4 : decode cX5_invented 4 = .ok (.iload_n 2, 1) := by decide +kernel
theorem dX5_invented_5 : decode cX5_invented 5 = .ok (.ifCond .lt 8, 3) := by decide +kernel
theorem dX5_invented_8 : decode cX5_invented 8 = .ok (.iload_n 2, 1) := by decide +kernel
theorem dX5_invented_9 : decode cX5_invented 9 = .ok (.iconst 2, 1) := by decide +kernel
theorem dX5_invented_10 : decode cX5_invented 10 = .ok (.if_icmp .le 13, 3) := by decide +kernel
theorem dX5_invented_13 : decode cX5_invented 13 = .ok (.new 53, 3) := by decide +kernel
theorem dX5_invented_16 : decode cX5_invented 16 = .ok (.dup, 1) := by decide +kernel
theorem dX5_invented_17 : decode cX5_invented 17 = .ok (.ldc 174, 2) := by decide +kernel
theorem dX5_invented_19 : decode cX5_invented 19 = .ok (.invokespecial 57, 3) := by decide +kernel
theorem dX5_invented_22 : decode cX5_invented 22 = .ok (.athrow, 1) := by decide +kernel
theorem dX5_invented_23 : decode cX5_invented 23 = .ok (.aload_n 0, 1) := by decide +kernel
theorem dX5_invented_24 : decode cX5_invented 24 = .ok (.getfield 33, 3) := by decide +kernel
theorem dX5_invented_27 : decode cX5_invented 27 = .ok (.aload_n 0, 1) := by decide +kernel
theorem dX5_invented_28 : decode cX5_invented 28 = .ok (.getfield 10, 3) := by decide +kernel
theorem dX5_invented_31 : decode cX5_invented 31 = .ok (.iload_n 1, 1) := by decide +kernel
theorem dX5_invented_32 : decode cX5_invented 32 = .ok (.invokevirtual 170, 3) := by decide +kernel
theorem dX5_invented_35 : decode cX5_invented 35 = .ok (.iconst (-1), 1) := by decide +kernel
theorem dX5_invented_36 : decode cX5_invented 36 = .ok (.if_icmp .ne 5, 3) := by decide +kernel
theorem dX5_invented_39 : decode cX5_invented 39 = .ok (.iconst (-1), 1) := by decide +kernel
theorem dX5_invented_40 : decode cX5_invented 40 = .ok (.ireturn, 1) := by decide +kernel
theorem dX5_invented_41 : decode cX5_invented 41 = .ok (.iload_n 2, 1) := by decide +kernel
theorem dX5_invented_42 : decode cX5_invented 42 = .ok (.ifCond .ne 13, 3) := by decide +kernel
theorem dX5_invented_45 : decode cX5_invented 45 = .ok (.aload_n 0, 1) := by decide +kernel
theorem dX5_invented_46 : decode cX5_invented 46 = .ok (.getfield 33, 3) := by decide +kernel
theorem dX5_invented_49 : decode cX5_invented 49 = .ok (.getfield 176, 3) := by decide +kernel
theorem dX5_invented_52 : decode cX5_invented 52 = .ok (.goto 25, 3) := by decide +kernel
theorem dX5_invented_55 : decode cX5_invented 55 = .ok (.iload_n 2, 1) := by decide +kernel
theorem dX5_invented_56 : decode cX5_invented 56 = .ok (.iconst 1, 1) := by decide +kernel
theorem dX5_invented_57 : decode cX5_invented 57 = .ok (.if_icmp .ne 13, 3) := by decide +kernel
theorem dX5_invented_60 : decode cX5_invented 60 = .ok (.aload_n 0, 1) := by decide +kernel
theorem dX5_invented_61 : decode cX5_invented 61 = .ok (.getfield 33, 3) := by decide +kernel
theorem dX5_invented_64 : decode cX5_invented 64 = .ok (.getfield 180, 3) := by decide +kernel
theorem dX5_invented_67 : decode cX5_invented 67 = .ok (.goto 10, 3) := by decide +kernel
theorem dX5_invented_70 : decode cX5_invented 70 = .ok (.aload_n 0, 1) := by decide +kernel
theorem dX5_invented_71 : decode cX5_invented 71 = .ok (.getfield 33, 3) := by decide +kernel
theorem dX5_invented_74 : decode cX5_invented 74 = .ok (.getfield 183, 3) := by decide +kernel
theorem dX5_invented_77 : decode cX5_invented 77 = .ok (.ireturn, 1) := by decide +kernel
theorem dX5_choices_0 : decode cX5_choices 0 = .ok (.iload_n 1, 1) := by decide +kernel
theorem dX5_choices_1 : decode cX5_choices 1 = .ok (.invokestatic 115, 3) := by decide +kernel
theorem dX5_choices_4 : decode cX5_choices 4 = .ok (.aload_n 0, 1) := by decide +kernel
theorem dX5_choices_5 : decode cX5_choices 5 = .ok (.getfield 33, 3) := by decide +kernel
theorem dX5_choices_8 : decode cX5_choices 8 = .ok (.aload_n 0, 1) := by decide +kernel
theorem dX5_choices_9 : decode cX5_choices 9 = .ok (.getfield 10, 3) := by decide +kernel
theorem dX5_choices_12 : decode cX5_choices 12 = .ok (.iload_n 1, 1) := by decide +kernel
theorem dX5_choices_13 : decode cX5_choices 13 = .ok (.invokevirtual 170, 3) := by decide +kernel
theorem dX5_choices_16 : decode cX5_choices 16 = .ok (.iconst (-1), 1) := by decide +kernel
theorem dX5_choices_17 : decode cX5_choices 17 = .ok (.if_icmp .ne 7, 3) := by decide +kernel
theorem dX5_choices_20 : decode cX5_choices 20 = .ok (.iconst (-1), 1) := by decide +kernel
theorem dX5_choices_21 : decode cX5_choices 21 = .ok (.goto 10, 3) := by decide +kernel
theorem dX5_choices_24 : decode cX5_choices 24 = .ok (.aload_n 0, 1) := by decide +kernel
theorem dX5_choices_25 : decode cX5_choices 25 = .ok (.getfield 33, 3) := by decide +kernel
theorem dX5_choices_28 : decode cX5_choices 28 = .ok (.getfield 186, 3) := by decide +kernel
theorem dX5_choices_31 : decode cX5_choices 31 = .ok (.ireturn, 1) := by decide +kernel
theorem dX5_since_0 : decode cX5_since 0 = .ok (.aload_n 0, 1) := by decide +kernel
theorem dX5_since_1 : decode cX5_since 1 = .ok (.iload_n 1, 1) := by decide +kernel
theorem dX5_since_2 : decode cX5_since 2 = .ok (.invokevirtual 101, 3) := by decide +kernel
theorem dX5_since_5 : decode cX5_since 5 = .ok (.iload_n 2, 1) := by decide +kernel
theorem dX5_since_6 : decode cX5_since 6 = .ok (.invokestatic 115, 3) := by decide +kernel
theorem dX5_since_9 : decode cX5_since 9 = .ok (.aload_n 0, 1) := by decide +kernel
theorem dX5_since_10 : decode cX5_since 10 = .ok (.getfield 33, 3) := by decide +kernel
theorem dX5_since_13 : decode cX5_since 13 = .ok (.aload_n 0, 1) := by decide +kernel
theorem dX5_since_14 : decode cX5_since 14 = .ok (.getfield 10, 3) := by decide +kernel
theorem dX5_since_17 : decode cX5_since 17 = .ok (.iload_n 1, 1) := by decide +kernel
theorem dX5_since_18 : decode cX5_since 18 = .ok (.iload_n 2, 1) := by decide +kernel
theorem dX5_since_19 : decode cX5_since 19 = .ok (.invokevirtual 189, 3) := by decide +kernel
theorem dX5_since_22 : decode cX5_since 22 = .ok (.ireturn, 1) := by decide +kernel
theorem dX5_reached_0 : decode cX5_reached 0 = .ok (.iload_n 1, 1) := by decide +kernel
theorem dX5_reached_1 : decode cX5_reached 1 = .ok (.invokestatic 115, 3) := by decide +kernel
theorem dX5_reached_4 : decode cX5_reached 4 = .ok (.iload_n 2, 1) := by decide +kernel
theorem dX5_reached_5 : decode cX5_reached 5 = .ok (.invokestatic 109, 3) := by decide +kernel
theorem dX5_reached_8 : decode cX5_reached 8 = .ok (.aload_n 0, 1) := by decide +kernel
theorem dX5_reached_9 : decode cX5_reached 9 = .ok (.getfield 33, 3) := by decide +kernel
theorem dX5_reached_12 : decode cX5_reached 12 = .ok (.aload_n 0, 1) := by decide +kernel
theorem dX5_reached_13 : decode cX5_reached 13 = .ok (.getfield 10, 3) := by decide +kernel
theorem dX5_reached_16 : decode cX5_reached 16 = .ok (.iload_n 1, 1) := by decide +kernel
theorem dX5_reached_17 : decode cX5_reached 17 = .ok (.iload_n 2, 1) := by decide +kernel
theorem dX5_reached_18 : decode cX5_reached 18 = .ok (.invokevirtual 193, 3) := by decide +kernel
theorem dX5_reached_21 : decode cX5_reached 21 = .ok (.ireturn, 1) := by decide +kernel
theorem dX5_passed_0 : decode cX5_passed 0 = .ok (.aload_n 0, 1) := by decide +kernel
theorem dX5_passed_1 : decode cX5_passed 1 = .ok (.iload_n 1, 1) := by decide +kernel
theorem dX5_passed_2 : decode cX5_passed 2 = .ok (.invokevirtual 101, 3) := by decide +kernel
theorem dX5_passed_5 : decode cX5_passed 5 = .ok (.aload_n 0, 1) := by decide +kernel
theorem dX5_passed_6 : decode cX5_passed 6 = .ok (.iload_n 2, 1) := by decide +kernel
theorem dX5_passed_7 : decode cX5_passed 7 = .ok (.invokevirtual 101, 3) := by decide +kernel
theorem dX5_passed_10 : decode cX5_passed 10 = .ok (.iload_n 3, 1) := by decide +kernel
theorem dX5_passed_11 : decode cX5_passed 11 = .ok (.invokestatic 115, 3) := by decide +kernel
theorem dX5_passed_14 : decode cX5_passed 14 = .ok (.aload_n 0, 1) := by decide +kernel
theorem dX5_passed_15 : decode cX5_passed 15 = .ok (.getfield 33, 3) := by decide +kernel
theorem dX5_passed_18 : decode cX5_passed 18 = .ok (.aload_n 0, 1) := by decide +kernel
theorem dX5_passed_19 : decode cX5_passed 19 = .ok (.getfield 10, 3) := by decide +kernel
theorem dX5_passed_22 : decode cX5_passed 22 = .ok (.iload_n 1, 1) := by decide +kernel
theorem dX5_passed_23 : decode cX5_passed 23 = .ok (.iload_n 2, 1) := by decide +kernel
theorem dX5_passed_24 : decode cX5_passed 24 = .ok (.iload_n 3, 1) := by decide +kernel
theorem dX5_passed_25 : decode cX5_passed 25 = .ok (.invokevirtual 196, 3) := by decide +kernel
theorem dX5_passed_28 : decode cX5_passed 28 = .ok (.ifCond .eq 7, 3) := by decide +kernel
theorem dX5_passed_31 : decode cX5_passed 31 = .ok (.iconst 1, 1) := by decide +kernel
theorem dX5_passed_32 : decode cX5_passed 32 = .ok (.goto 4, 3) := by decide +kernel
theorem dX5_passed_35 : decode cX5_passed 35 = .ok (.iconst 0, 1) := by decide +kernel
theorem dX5_passed_36 : decode cX5_passed 36 = .ok (.ireturn, 1) := by decide +kernel
theorem dX5_ifLaid_0 : decode cX5_ifLaid 0 = .ok (.aload_n 0, 1) := by decide +kernel
theorem dX5_ifLaid_1 : decode cX5_ifLaid 1 = .ok (.iload_n 1, 1) := by decide +kernel
theorem dX5_ifLaid_2 : decode cX5_ifLaid 2 = .ok (.iload_n 2, 1) := by decide +kernel
theorem dX5_ifLaid_3 : decode cX5_ifLaid 3 = .ok (.iload_n 3, 1) := by decide +kernel
theorem dX5_ifLaid_4 : decode cX5_ifLaid 4 = .ok (.invokevirtual 131, 3) := by decide +kernel
theorem dX5_ifLaid_7 : decode cX5_ifLaid 7 = .ok (.aload_n 0, 1) := by decide +kernel
theorem dX5_ifLaid_8 : decode cX5_ifLaid 8 = .ok (.getfield 40, 3) := by decide +kernel
theorem dX5_ifLaid_11 : decode cX5_ifLaid 11 = .ok (.aload_n 0, 1) := by decide +kernel
theorem dX5_ifLaid_12 : decode cX5_ifLaid 12 = .ok (.getfield 10, 3) := by decide +kernel
theorem dX5_ifLaid_15 : decode cX5_ifLaid 15 = .ok (.invokevirtual 200, 3) := by decide +kernel
theorem dX5_ifLaid_18 : decode cX5_ifLaid 18 = .ok (.aload_n 0, 1) := by decide +kernel
theorem dX5_ifLaid_19 : decode cX5_ifLaid 19 = .ok (.getfield 40, 3) := by decide +kernel
theorem dX5_ifLaid_22 : decode cX5_ifLaid 22 = .ok (.iload_n 1, 1) := by decide +kernel
theorem dX5_ifLaid_23 : decode cX5_ifLaid 23 = .ok (.iload_n 2, 1) := by decide +kernel
theorem dX5_ifLaid_24 : decode cX5_ifLaid 24 = .ok (.iload_n 3, 1) := by decide +kernel
theorem dX5_ifLaid_25 : decode cX5_ifLaid 25 = .ok (.invokevirtual 203, 3) := by decide +kernel
theorem dX5_ifLaid_28 : decode cX5_ifLaid 28 = .ok (.ireturn, 1) := by decide +kernel
theorem dX5_bestRoad_0 : decode cX5_bestRoad 0 = .ok (.iload_n 1, 1) := by decide +kernel
theorem dX5_bestRoad_1 : decode cX5_bestRoad 1 = .ok (.invokestatic 207, 3) := by decide +kernel
theorem dX5_bestRoad_4 : decode cX5_bestRoad 4 = .ok (.ifCond .ne 13, 3) := by decide +kernel
theorem dX5_bestRoad_7 : decode cX5_bestRoad 7 = .ok (.new 53, 3) := by decide +kernel
theorem dX5_bestRoad_10 : decode cX5_bestRoad 10 = .ok (.dup, 1) := by decide +kernel
theorem dX5_bestRoad_11 : decode cX5_bestRoad 11 = .ok (.ldc 210, 2) := by decide +kernel
theorem dX5_bestRoad_13 : decode cX5_bestRoad 13 = .ok (.invokespecial 57, 3) := by decide +kernel
theorem dX5_bestRoad_16 : decode cX5_bestRoad 16 = .ok (.athrow, 1) := by decide +kernel
theorem dX5_bestRoad_17 : decode cX5_bestRoad 17 = .ok (.aload_n 0, 1) := by decide +kernel
theorem dX5_bestRoad_18 : decode cX5_bestRoad 18 = .ok (.getfield 40, 3) := by decide +kernel
theorem dX5_bestRoad_21 : decode cX5_bestRoad 21 = .ok (.aload_n 0, 1) := by decide +kernel
theorem dX5_bestRoad_22 : decode cX5_bestRoad 22 = .ok (.getfield 10, 3) := by decide +kernel
theorem dX5_bestRoad_25 : decode cX5_bestRoad 25 = .ok (.invokevirtual 200, 3) := by decide +kernel
theorem dX5_bestRoad_28 : decode cX5_bestRoad 28 = .ok (.aload_n 0, 1) := by decide +kernel
theorem dX5_bestRoad_29 : decode cX5_bestRoad 29 = .ok (.getfield 40, 3) := by decide +kernel
theorem dX5_bestRoad_32 : decode cX5_bestRoad 32 = .ok (.iload_n 1, 1) := by decide +kernel
theorem dX5_bestRoad_33 : decode cX5_bestRoad 33 = .ok (.invokevirtual 212, 3) := by decide +kernel
theorem dX5_bestRoad_36 : decode cX5_bestRoad 36 = .ok (.ireturn, 1) := by decide +kernel
theorem dX5_dearest_0 : decode cX5_dearest 0 = .ok (.aload_n 0, 1) := by decide +kernel
theorem dX5_dearest_1 : decode cX5_dearest 1 = .ok (.getfield 40, 3) := by decide +kernel
theorem dX5_dearest_4 : decode cX5_dearest 4 = .ok (.aload_n 0, 1) := by decide +kernel
theorem dX5_dearest_5 : decode cX5_dearest 5 = .ok (.getfield 10, 3) := by decide +kernel
theorem dX5_dearest_8 : decode cX5_dearest 8 = .ok (.invokevirtual 200, 3) := by decide +kernel
theorem dX5_dearest_11 : decode cX5_dearest 11 = .ok (.aload_n 0, 1) := by decide +kernel
theorem dX5_dearest_12 : decode cX5_dearest 12 = .ok (.getfield 40, 3) := by decide +kernel
theorem dX5_dearest_15 : decode cX5_dearest 15 = .ok (.invokevirtual 215, 3) := by decide +kernel
theorem dX5_dearest_18 : decode cX5_dearest 18 = .ok (.ireturn, 1) := by decide +kernel
theorem dX5_runScript_0 : decode cX5_runScript 0 = .ok (.iload_n 1, 1) := by decide +kernel
theorem dX5_runScript_1 : decode cX5_runScript 1 = .ok (.iconst 1, 1) := by decide +kernel
theorem dX5_runScript_2 : decode cX5_runScript 2 = .ok (.if_icmp .lt 8, 3) := by decide +kernel
theorem dX5_runScript_5 : decode cX5_runScript 5 = .ok (.iload_n 1, 1) := by decide +kernel
theorem dX5_runScript_6 : decode cX5_runScript 6 = .ok (.iconst 3, 1) := by decide +kernel
theorem dX5_runScript_7 : decode cX5_runScript 7 = .ok (.if_icmp .le 13, 3) := by decide +kernel
theorem dX5_runScript_10 : decode cX5_runScript 10 = .ok (.new 53, 3) := by decide +kernel
theorem dX5_runScript_13 : decode cX5_runScript 13 = .ok (.dup, 1) := by decide +kernel
theorem dX5_runScript_14 : decode cX5_runScript 14 = .ok (.ldc 218, 2) := by decide +kernel
theorem dX5_runScript_16 : decode cX5_runScript 16 = .ok (.invokespecial 57, 3) := by decide +kernel
theorem dX5_runScript_19 : decode cX5_runScript 19 = .ok (.athrow, 1) := by decide +kernel
theorem dX5_runScript_20 : decode cX5_runScript 20 = .ok (.lconst 1, 1) := by decide +kernel
theorem dX5_runScript_21 : decode cX5_runScript 21 = .ok (.lstore 4, 2) := by decide +kernel
theorem dX5_runScript_23 : decode cX5_runScript 23 = .ok (.iconst 0, 1) := by decide +kernel
theorem dX5_runScript_24 : decode cX5_runScript 24 = .ok (.istore 6, 2) := by decide +kernel
theorem dX5_runScript_26 : decode cX5_runScript 26 = .ok (.iload 6, 2) := by decide +kernel
theorem dX5_runScript_28 : decode cX5_runScript 28 = .ok (.iload_n 1, 1) := by decide +kernel
theorem dX5_runScript_29 : decode cX5_runScript 29 = .ok (.if_icmp .ge 17, 3) := by decide +kernel
theorem dX5_runScript_32 : decode cX5_runScript 32 = .ok (.lload 4, 2) := by decide +kernel
theorem dX5_runScript_34 : decode cX5_runScript 34 = .ok (.ldc2_w 220, 3) := by decide +kernel
theorem dX5_runScript_37 : decode cX5_runScript 37 = .ok (.lmul, 1) := by decide +kernel
theorem dX5_runScript_38 : decode cX5_runScript 38 = .ok (.lstore 4, 2) := by decide +kernel
theorem dX5_runScript_40 : decode cX5_runScript 40 = .ok (.iinc 6 1, 3) := by decide +kernel
theorem dX5_runScript_43 : decode cX5_runScript 43 = .ok (.goto (-17), 3) := by decide +kernel
theorem dX5_runScript_46 : decode cX5_runScript 46 = .ok (.lload_n 2, 1) := by decide +kernel
theorem dX5_runScript_47 : decode cX5_runScript 47 = .ok (.lconst 0, 1) := by decide +kernel
theorem dX5_runScript_48 : decode cX5_runScript 48 = .ok (.lcmp, 1) := by decide +kernel
theorem dX5_runScript_49 : decode cX5_runScript 49 = .ok (.ifCond .lt 10, 3) := by decide +kernel
theorem dX5_runScript_52 : decode cX5_runScript 52 = .ok (.lload_n 2, 1) := by decide +kernel
theorem dX5_runScript_53 : decode cX5_runScript 53 = .ok (.lload 4, 2) := by decide +kernel
theorem dX5_runScript_55 : decode cX5_runScript 55 = .ok (.lcmp, 1) := by decide +kernel
theorem dX5_runScript_56 : decode cX5_runScript 56 = .ok (.ifCond .lt 13, 3) := by decide +kernel
theorem dX5_runScript_59 : decode cX5_runScript 59 = .ok (.new 53, 3) := by decide +kernel
theorem dX5_runScript_62 : decode cX5_runScript 62 = .ok (.dup, 1) := by decide +kernel
theorem dX5_runScript_63 : decode cX5_runScript 63 = .ok (.ldc 222, 2) := by decide +kernel
theorem dX5_runScript_65 : decode cX5_runScript 65 = .ok (.invokespecial 57, 3) := by decide +kernel
theorem dX5_runScript_68 : decode cX5_runScript 68 = .ok (.athrow, 1) := by decide +kernel
theorem dX5_runScript_69 : decode cX5_runScript 69 = .ok (.aload_n 0, 1) := by decide +kernel
theorem dX5_runScript_70 : decode cX5_runScript 70 = .ok (.getfield 40, 3) := by decide +kernel
theorem dX5_runScript_73 : decode cX5_runScript 73 = .ok (.aload_n 0, 1) := by decide +kernel
theorem dX5_runScript_74 : decode cX5_runScript 74 = .ok (.getfield 10, 3) := by decide +kernel
theorem dX5_runScript_77 : decode cX5_runScript 77 = .ok (.invokevirtual 200, 3) := by decide +kernel
theorem dX5_runScript_80 : decode cX5_runScript 80 = .ok (.iconst 0, 1) := by decide +kernel
theorem dX5_runScript_81 : decode cX5_runScript 81 = .ok (.istore 6, 2) := by decide +kernel
theorem dX5_runScript_83 : decode cX5_runScript 83 = .ok (.iload 6, 2) := by decide +kernel
theorem dX5_runScript_85 : decode cX5_runScript 85 = .ok (.iload_n 1, 1) := by decide +kernel
theorem dX5_runScript_86 : decode cX5_runScript 86 = .ok (.if_icmp .ge 46, 3) := by decide +kernel
theorem dX5_runScript_89 : decode cX5_runScript 89 = .ok (.lload 4, 2) := by decide +kernel
theorem dX5_runScript_91 : decode cX5_runScript 91 = .ok (.ldc2_w 220, 3) := by decide +kernel
theorem dX5_runScript_94 : decode cX5_runScript 94 = .ok (.ldiv, 1) := by decide +kernel
theorem dX5_runScript_95 : decode cX5_runScript 95 = .ok (.lstore 4, 2) := by decide +kernel
theorem dX5_runScript_97 : decode cX5_runScript 97 = .ok (.lload 4, 2) := by decide +kernel
theorem dX5_runScript_99 : decode cX5_runScript 99 = .ok (.lconst 1, 1) := by decide +kernel
theorem dX5_runScript_100 : decode cX5_runScript 100 = .ok (.lcmp, 1) := by decide +kernel
theorem dX5_runScript_101 : decode cX5_runScript 101 = .ok (.ifCond .lt 22, 3) := by decide +kernel
theorem dX5_runScript_104 : decode cX5_runScript 104 = .ok (.aload_n 0, 1) := by decide +kernel
theorem dX5_runScript_105 : decode cX5_runScript 105 = .ok (.getfield 40, 3) := by decide +kernel
theorem dX5_runScript_108 : decode cX5_runScript 108 = .ok (.lload_n 2, 1) := by decide +kernel
theorem dX5_runScript_109 : decode cX5_runScript 109 = .ok (.lload 4, 2) := by decide +kernel
theorem dX5_runScript_111 : decode cX5_runScript 111 = .ok (.ldiv, 1) := by decide +kernel
theorem dX5_runScript_112 : decode cX5_runScript 112 = .ok (.ldc2_w 220, 3) := by decide +kernel
theorem dX5_runScript_115 : decode cX5_runScript 115 = .ok (.lrem, 1) := by decide +kernel
theorem dX5_runScript_116 : decode cX5_runScript 116 = .ok (.l2i, 1) := by decide +kernel
theorem dX5_runScript_117 : decode cX5_runScript 117 = .ok (.invokevirtual 224, 3) := by decide +kernel
theorem dX5_runScript_120 : decode cX5_runScript 120 = .ok (.ifCond .ne 6, 3) := by decide +kernel
theorem dX5_runScript_123 : decode cX5_runScript 123 = .ok (.iload 6, 2) := by decide +kernel
theorem dX5_runScript_125 : decode cX5_runScript 125 = .ok (.ireturn, 1) := by decide +kernel
theorem dX5_runScript_126 : decode cX5_runScript 126 = .ok (.iinc 6 1, 3) := by decide +kernel
theorem dX5_runScript_129 : decode cX5_runScript 129 = .ok (.goto (-46), 3) := by decide +kernel
theorem dX5_runScript_132 : decode cX5_runScript 132 = .ok (.iconst (-1), 1) := by decide +kernel
theorem dX5_runScript_133 : decode cX5_runScript 133 = .ok (.ireturn, 1) := by decide +kernel
theorem dX5_simulate_0 : decode cX5_simulate 0 = .ok (.iload_n 3, 1) := by decide +kernel
theorem dX5_simulate_1 : decode cX5_simulate 1 = .ok (.iconst 1, 1) := by decide +kernel
theorem dX5_simulate_2 : decode cX5_simulate 2 = .ok (.if_icmp .lt 9, 3) := by decide +kernel
theorem dX5_simulate_5 : decode cX5_simulate 5 = .ok (.iload_n 3, 1) := by decide +kernel
theorem dX5_simulate_6 : decode cX5_simulate 6 = .ok (.bipush 99, 2) := by decide +kernel
theorem dX5_simulate_8 : decode cX5_simulate 8 = .ok (.if_icmp .le 13, 3) := by decide +kernel
theorem dX5_simulate_11 : decode cX5_simulate 11 = .ok (.new 53, 3) := by decide +kernel
theorem dX5_simulate_14 : decode cX5_simulate 14 = .ok (.dup, 1) := by decide +kernel
theorem dX5_simulate_15 : decode cX5_simulate 15 = .ok (.ldc 227, 2) := by decide +kernel
theorem dX5_simulate_17 : decode cX5_simulate 17 = .ok (.invokespecial 57, 3) := by decide +kernel
theorem dX5_simulate_20 : decode cX5_simulate 20 = .ok (.athrow, 1) := by decide +kernel
theorem dX5_simulate_21 : decode cX5_simulate 21 = .ok (.aload_n 0, 1) := by decide +kernel
theorem dX5_simulate_22 : decode cX5_simulate 22 = .ok (.getfield 40, 3) := by decide +kernel
theorem dX5_simulate_25 : decode cX5_simulate 25 = .ok (.aload_n 0, 1) := by decide +kernel
theorem dX5_simulate_26 : decode cX5_simulate 26 = .ok (.getfield 10, 3) := by decide +kernel
theorem dX5_simulate_29 : decode cX5_simulate 29 = .ok (.invokevirtual 200, 3) := by decide +kernel
theorem dX5_simulate_32 : decode cX5_simulate 32 = .ok (.lload_n 1, 1) := by decide +kernel
theorem dX5_simulate_33 : decode cX5_simulate 33 = .ok (.lstore 4, 2) := by decide +kernel
theorem dX5_simulate_35 : decode cX5_simulate 35 = .ok (.iconst 0, 1) := by decide +kernel
theorem dX5_simulate_36 : decode cX5_simulate 36 = .ok (.istore 6, 2) := by decide +kernel
theorem dX5_simulate_38 : decode cX5_simulate 38 = .ok (.iload 6, 2) := by decide +kernel
theorem dX5_simulate_40 : decode cX5_simulate 40 = .ok (.iload_n 3, 1) := by decide +kernel
theorem dX5_simulate_41 : decode cX5_simulate 41 = .ok (.if_icmp .ge 34, 3) := by decide +kernel
theorem dX5_simulate_44 : decode cX5_simulate 44 = .ok (.lload 4, 2) := by decide +kernel
theorem dX5_simulate_46 : decode cX5_simulate 46 = .ok (.ldc2_w 229, 3) := by decide +kernel
theorem dX5_simulate_49 : decode cX5_simulate 49 = .ok (.lmul, 1) := by decide +kernel
theorem dX5_simulate_50 : decode cX5_simulate 50 = .ok (.ldc2_w 231, 3) := by decide +kernel
theorem dX5_simulate_53 : decode cX5_simulate 53 = .ok (.ladd, 1) := by decide +kernel
theorem dX5_simulate_54 : decode cX5_simulate 54 = .ok (.lstore 4, 2) := by decide +kernel
theorem dX5_simulate_56 : decode cX5_simulate 56 = .ok (.aload_n 0, 1) := by decide +kernel
theorem dX5_simulate_57 : decode cX5_simulate 57 = .ok (.getfield 40, 3) := by decide +kernel
theorem dX5_simulate_60 : decode cX5_simulate 60 = .ok (.lload 4, 2) := by decide +kernel
theorem dX5_simulate_62 : decode cX5_simulate 62 = .ok (.bipush 33, 2) := by decide +kernel
theorem dX5_simulate_64 : decode cX5_simulate 64 = .ok (.lushr, 1) := by decide +kernel
theorem dX5_simulate_65 : decode cX5_simulate 65 = .ok (.l2i, 1) := by decide +kernel
theorem dX5_simulate_66 : decode cX5_simulate 66 = .ok (.invokevirtual 233, 3) := by decide +kernel
theorem dX5_simulate_69 : decode cX5_simulate 69 = .ok (.iinc 6 1, 3) := by decide +kernel
theorem dX5_simulate_72 : decode cX5_simulate 72 = .ok (.goto (-34), 3) := by decide +kernel
theorem dX5_simulate_75 : decode cX5_simulate 75 = .ok (.aload_n 0, 1) := by decide +kernel
theorem dX5_simulate_76 : decode cX5_simulate 76 = .ok (.getfield 40, 3) := by decide +kernel
theorem dX5_simulate_79 : decode cX5_simulate 79 = .ok (.invokevirtual 236, 3) := by decide +kernel
theorem dX5_simulate_82 : decode cX5_simulate 82 = .ok (.ireturn, 1) := by decide +kernel
theorem dX5_save_0 : decode cX5_save 0 = .ok (.iload_n 1, 1) := by decide +kernel
theorem dX5_save_1 : decode cX5_save 1 = .ok (.invokestatic 239, 3) := by decide +kernel
theorem dX5_save_4 : decode cX5_save 4 = .ok (.aload_n 0, 1) := by decide +kernel
theorem dX5_save_5 : decode cX5_save 5 = .ok (.getfield 10, 3) := by decide +kernel
theorem dX5_save_8 : decode cX5_save 8 = .ok (.aload_n 0, 1) := by decide +kernel
theorem dX5_save_9 : decode cX5_save 9 = .ok (.getfield 46, 3) := by decide +kernel
theorem dX5_save_12 : decode cX5_save 12 = .ok (.iload_n 1, 1) := by decide +kernel
theorem dX5_save_13 : decode cX5_save 13 = .ok (.aaload, 1) := by decide +kernel
theorem dX5_save_14 : decode cX5_save 14 = .ok (.invokevirtual 242, 3) := by decide +kernel
theorem dX5_save_17 : decode cX5_save 17 = .ok (.aload_n 0, 1) := by decide +kernel
theorem dX5_save_18 : decode cX5_save 18 = .ok (.getfield 49, 3) := by decide +kernel
theorem dX5_save_21 : decode cX5_save 21 = .ok (.iload_n 1, 1) := by decide +kernel
theorem dX5_save_22 : decode cX5_save 22 = .ok (.iconst 1, 1) := by decide +kernel
theorem dX5_save_23 : decode cX5_save 23 = .ok (.bastore, 1) := by decide +kernel
theorem dX5_save_24 : decode cX5_save 24 = .ok (.aload_n 0, 1) := by decide +kernel
theorem dX5_save_25 : decode cX5_save 25 = .ok (.getfield 10, 3) := by decide +kernel
theorem dX5_save_28 : decode cX5_save 28 = .ok (.invokevirtual 80, 3) := by decide +kernel
theorem dX5_save_31 : decode cX5_save 31 = .ok (.ireturn, 1) := by decide +kernel
theorem dX5_restore_0 : decode cX5_restore 0 = .ok (.iload_n 1, 1) := by decide +kernel
theorem dX5_restore_1 : decode cX5_restore 1 = .ok (.invokestatic 239, 3) := by decide +kernel
theorem dX5_restore_4 : decode cX5_restore 4 = .ok (.aload_n 0, 1) := by decide +kernel
theorem dX5_restore_5 : decode cX5_restore 5 = .ok (.getfield 49, 3) := by decide +kernel
theorem dX5_restore_8 : decode cX5_restore 8 = .ok (.iload_n 1, 1) := by decide +kernel
theorem dX5_restore_9 : decode cX5_restore 9 = .ok (.baload, 1) := by decide +kernel
theorem dX5_restore_10 : decode cX5_restore 10 = .ok (.ifCond .ne 13, 3) := by decide +kernel
theorem dX5_restore_13 : decode cX5_restore 13 = .ok (.new 64, 3) := by decide +kernel
theorem dX5_restore_16 : decode cX5_restore 16 = .ok (.dup, 1) := by decide +kernel
theorem dX5_restore_17 : decode cX5_restore 17 = .ok (.ldc 246, 2) := by decide +kernel
theorem dX5_restore_19 : decode cX5_restore 19 = .ok (.invokespecial 68, 3) := by decide +kernel
theorem dX5_restore_22 : decode cX5_restore 22 = .ok (.athrow, 1) := by decide +kernel
theorem dX5_restore_23 : decode cX5_restore 23 = .ok (.aload_n 0, 1) := by decide +kernel
theorem dX5_restore_24 : decode cX5_restore 24 = .ok (.getfield 10, 3) := by decide +kernel
theorem dX5_restore_27 : decode cX5_restore 27 = .ok (.aload_n 0, 1) := by decide +kernel
theorem dX5_restore_28 : decode cX5_restore 28 = .ok (.getfield 46, 3) := by decide +kernel
theorem dX5_restore_31 : decode cX5_restore 31 = .ok (.iload_n 1, 1) := by decide +kernel
theorem dX5_restore_32 : decode cX5_restore 32 = .ok (.aaload, 1) := by decide +kernel
theorem dX5_restore_33 : decode cX5_restore 33 = .ok (.invokevirtual 248, 3) := by decide +kernel
theorem dX5_restore_36 : decode cX5_restore 36 = .ok (.aload_n 0, 1) := by decide +kernel
theorem dX5_restore_37 : decode cX5_restore 37 = .ok (.getfield 19, 3) := by decide +kernel
theorem dX5_restore_40 : decode cX5_restore 40 = .ok (.invokevirtual 251, 3) := by decide +kernel
theorem dX5_restore_43 : decode cX5_restore 43 = .ok (.aload_n 0, 1) := by decide +kernel
theorem dX5_restore_44 : decode cX5_restore 44 = .ok (.getfield 10, 3) := by decide +kernel
theorem dX5_restore_47 : decode cX5_restore 47 = .ok (.invokevirtual 80, 3) := by decide +kernel
theorem dX5_restore_50 : decode cX5_restore 50 = .ok (.ireturn, 1) := by decide +kernel
theorem dX5_needTown_0 : decode cX5_needTown 0 = .ok (.aload_n 0, 1) := by decide +kernel
theorem dX5_needTown_1 : decode cX5_needTown 1 = .ok (.getfield 10, 3) := by decide +kernel
theorem dX5_needTown_4 : decode cX5_needTown 4 = .ok (.iload_n 1, 1) := by decide +kernel
theorem dX5_needTown_5 : decode cX5_needTown 5 = .ok (.invokevirtual 254, 3) := by decide +kernel
theorem dX5_needTown_8 : decode cX5_needTown 8 = .ok (.ifCond .ne 14, 3) := by decide +kernel
theorem dX5_needTown_11 : decode cX5_needTown 11 = .ok (.new 257, 3) := by decide +kernel
theorem dX5_needTown_14 : decode cX5_needTown 14 = .ok (.dup, 1) := by decide +kernel
theorem dX5_needTown_15 : decode cX5_needTown 15 = .ok (.ldc_w 259, 3) := by decide +kernel
theorem dX5_needTown_18 : decode cX5_needTown 18 = .ok (.invokespecial 261, 3) := by decide +kernel
theorem dX5_needTown_21 : decode cX5_needTown 21 = .ok (.athrow, 1) := by decide +kernel
theorem dX5_needTown_22 : decode cX5_needTown 22 = .ok (.return_, 1) := by decide +kernel
theorem dX5_needPossibleRoad_0 : decode cX5_needPossibleRoad 0 = .ok (.aload_n 0, 1) := by decide +kernel
theorem dX5_needPossibleRoad_1 : decode cX5_needPossibleRoad 1 = .ok (.iload_n 1, 1) := by decide +kernel
theorem dX5_needPossibleRoad_2 : decode cX5_needPossibleRoad 2 = .ok (.invokevirtual 101, 3) := by decide +kernel
theorem dX5_needPossibleRoad_5 : decode cX5_needPossibleRoad 5 = .ok (.aload_n 0, 1) := by decide +kernel
theorem dX5_needPossibleRoad_6 : decode cX5_needPossibleRoad 6 = .ok (.iload_n 2, 1) := by decide +kernel
theorem dX5_needPossibleRoad_7 : decode cX5_needPossibleRoad 7 = .ok (.invokevirtual 101, 3) := by decide +kernel
theorem dX5_needPossibleRoad_10 : decode cX5_needPossibleRoad 10 = .ok (.iload_n 1, 1) := by decide +kernel
theorem dX5_needPossibleRoad_11 : decode cX5_needPossibleRoad 11 = .ok (.iload_n 2, 1) := by decide +kernel
theorem dX5_needPossibleRoad_12 : decode cX5_needPossibleRoad 12 = .ok (.if_icmp .eq 10, 3) := by decide +kernel
theorem dX5_needPossibleRoad_15 : decode cX5_needPossibleRoad 15 = .ok (.iload_n 3, 1) := by decide +kernel
theorem dX5_needPossibleRoad_16 : decode cX5_needPossibleRoad 16 = .ok (.invokestatic 207, 3) := by decide +kernel
theorem dX5_needPossibleRoad_19 : decode cX5_needPossibleRoad 19 = .ok (.ifCond .ne 14, 3) := by decide +kernel
theorem dX5_needPossibleRoad_22 : decode cX5_needPossibleRoad 22 = .ok (.new 53, 3) := by decide +kernel
theorem dX5_needPossibleRoad_25 : decode cX5_needPossibleRoad 25 = .ok (.dup, 1) := by decide +kernel
theorem dX5_needPossibleRoad_26 : decode cX5_needPossibleRoad 26 = .ok (.ldc_w 262, 3) := by decide +kernel
theorem dX5_needPossibleRoad_29 : decode cX5_needPossibleRoad 29 = .ok (.invokespecial 57, 3) := by decide +kernel
theorem dX5_needPossibleRoad_32 : decode cX5_needPossibleRoad 32 = .ok (.athrow, 1) := by decide +kernel
theorem dX5_needPossibleRoad_33 : decode cX5_needPossibleRoad 33 = .ok (.aload_n 0, 1) := by decide +kernel
theorem dX5_needPossibleRoad_34 : decode cX5_needPossibleRoad 34 = .ok (.getfield 10, 3) := by decide +kernel
theorem dX5_needPossibleRoad_37 : decode cX5_needPossibleRoad 37 = .ok (.iload_n 1, 1) := by decide +kernel
theorem dX5_needPossibleRoad_38 : decode cX5_needPossibleRoad 38 = .ok (.iload_n 2, 1) := by decide +kernel
theorem dX5_needPossibleRoad_39 : decode cX5_needPossibleRoad 39 = .ok (.iload_n 3, 1) := by decide +kernel
theorem dX5_needPossibleRoad_40 : decode cX5_needPossibleRoad 40 = .ok (.invokevirtual 264, 3) := by decide +kernel
theorem dX5_needPossibleRoad_43 : decode cX5_needPossibleRoad 43 = .ok (.ifCond .ne 14, 3) := by decide +kernel
theorem dX5_needPossibleRoad_46 : decode cX5_needPossibleRoad 46 = .ok (.new 64, 3) := by decide +kernel
theorem dX5_needPossibleRoad_49 : decode cX5_needPossibleRoad 49 = .ok (.dup, 1) := by decide +kernel
theorem dX5_needPossibleRoad_50 : decode cX5_needPossibleRoad 50 = .ok (.ldc_w 267, 3) := by decide +kernel
theorem dX5_needPossibleRoad_53 : decode cX5_needPossibleRoad 53 = .ok (.invokespecial 68, 3) := by decide +kernel
theorem dX5_needPossibleRoad_56 : decode cX5_needPossibleRoad 56 = .ok (.athrow, 1) := by decide +kernel
theorem dX5_needPossibleRoad_57 : decode cX5_needPossibleRoad 57 = .ok (.return_, 1) := by decide +kernel
theorem dX5_needTrait_0 : decode cX5_needTrait 0 = .ok (.iload_n 0, 1) := by decide +kernel
theorem dX5_needTrait_1 : decode cX5_needTrait 1 = .ok (.invokestatic 269, 3) := by decide +kernel
theorem dX5_needTrait_4 : decode cX5_needTrait 4 = .ok (.ifCond .ne 14, 3) := by decide +kernel
theorem dX5_needTrait_7 : decode cX5_needTrait 7 = .ok (.new 53, 3) := by decide +kernel
theorem dX5_needTrait_10 : decode cX5_needTrait 10 = .ok (.dup, 1) := by decide +kernel
theorem dX5_needTrait_11 : decode cX5_needTrait 11 = .ok (.ldc_w 272, 3) := by decide +kernel
theorem dX5_needTrait_14 : decode cX5_needTrait 14 = .ok (.invokespecial 57, 3) := by decide +kernel
theorem dX5_needTrait_17 : decode cX5_needTrait 17 = .ok (.athrow, 1) := by decide +kernel
theorem dX5_needTrait_18 : decode cX5_needTrait 18 = .ok (.return_, 1) := by decide +kernel
theorem dX5_needCount_0 : decode cX5_needCount 0 = .ok (.iload_n 0, 1) := by decide +kernel
theorem dX5_needCount_1 : decode cX5_needCount 1 = .ok (.ifCond .ge 14, 3) := by decide +kernel
theorem dX5_needCount_4 : decode cX5_needCount 4 = .ok (.new 53, 3) := by decide +kernel
theorem dX5_needCount_7 : decode cX5_needCount 7 = .ok (.dup, 1) := by decide +kernel
theorem dX5_needCount_8 : decode cX5_needCount 8 = .ok (.ldc_w 274, 3) := by decide +kernel
theorem dX5_needCount_11 : decode cX5_needCount 11 = .ok (.invokespecial 57, 3) := by decide +kernel
theorem dX5_needCount_14 : decode cX5_needCount 14 = .ok (.athrow, 1) := by decide +kernel
theorem dX5_needCount_15 : decode cX5_needCount 15 = .ok (.return_, 1) := by decide +kernel
theorem dX5_needSlot_0 : decode cX5_needSlot 0 = .ok (.iload_n 0, 1) := by decide +kernel
theorem dX5_needSlot_1 : decode cX5_needSlot 1 = .ok (.ifCond .lt 8, 3) := by decide +kernel
theorem dX5_needSlot_4 : decode cX5_needSlot 4 = .ok (.iload_n 0, 1) := by decide +kernel
theorem dX5_needSlot_5 : decode cX5_needSlot 5 = .ok (.iconst 2, 1) := by decide +kernel
theorem dX5_needSlot_6 : decode cX5_needSlot 6 = .ok (.if_icmp .lt 14, 3) := by decide +kernel
theorem dX5_needSlot_9 : decode cX5_needSlot 9 = .ok (.new 257, 3) := by decide +kernel
theorem dX5_needSlot_12 : decode cX5_needSlot 12 = .ok (.dup, 1) := by decide +kernel
theorem dX5_needSlot_13 : decode cX5_needSlot 13 = .ok (.ldc_w 276, 3) := by decide +kernel
theorem dX5_needSlot_16 : decode cX5_needSlot 16 = .ok (.invokespecial 261, 3) := by decide +kernel
theorem dX5_needSlot_19 : decode cX5_needSlot 19 = .ok (.athrow, 1) := by decide +kernel
theorem dX5_needSlot_20 : decode cX5_needSlot 20 = .ok (.return_, 1) := by decide +kernel
theorem dX5_isTrait_0 : decode cX5_isTrait 0 = .ok (.iload_n 0, 1) := by decide +kernel
theorem dX5_isTrait_1 : decode cX5_isTrait 1 = .ok (.ifCond .lt 13, 3) := by decide +kernel
theorem dX5_isTrait_4 : decode cX5_isTrait 4 = .ok (.iload_n 0, 1) := by decide +kernel
theorem dX5_isTrait_5 : decode cX5_isTrait 5 = .ok (.bipush 6, 2) := by decide +kernel
theorem dX5_isTrait_7 : decode cX5_isTrait 7 = .ok (.if_icmp .ge 7, 3) := by decide +kernel
theorem dX5_isTrait_10 : decode cX5_isTrait 10 = .ok (.iconst 1, 1) := by decide +kernel
theorem dX5_isTrait_11 : decode cX5_isTrait 11 = .ok (.goto 4, 3) := by decide +kernel
theorem dX5_isTrait_14 : decode cX5_isTrait 14 = .ok (.iconst 0, 1) := by decide +kernel
theorem dX5_isTrait_15 : decode cX5_isTrait 15 = .ok (.ireturn, 1) := by decide +kernel
theorem dX5_isYear_0 : decode cX5_isYear 0 = .ok (.iload_n 0, 1) := by decide +kernel
theorem dX5_isYear_1 : decode cX5_isYear 1 = .ok (.ifCond .lt 14, 3) := by decide +kernel
theorem dX5_isYear_4 : decode cX5_isYear 4 = .ok (.iload_n 0, 1) := by decide +kernel
theorem dX5_isYear_5 : decode cX5_isYear 5 = .ok (.sipush 999, 3) := by decide +kernel
theorem dX5_isYear_8 : decode cX5_isYear 8 = .ok (.if_icmp .gt 7, 3) := by decide +kernel
theorem dX5_isYear_11 : decode cX5_isYear 11 = .ok (.iconst 1, 1) := by decide +kernel
theorem dX5_isYear_12 : decode cX5_isYear 12 = .ok (.goto 4, 3) := by decide +kernel
theorem dX5_isYear_15 : decode cX5_isYear 15 = .ok (.iconst 0, 1) := by decide +kernel
theorem dX5_isYear_16 : decode cX5_isYear 16 = .ok (.ireturn, 1) := by decide +kernel
theorem dX5_isLength_0 : decode cX5_isLength 0 = .ok (.iload_n 0, 1) := by decide +kernel
theorem dX5_isLength_1 : decode cX5_isLength 1 = .ok (.iconst 1, 1) := by decide +kernel
theorem dX5_isLength_2 : decode cX5_isLength 2 = .ok (.if_icmp .lt 13, 3) := by decide +kernel
theorem dX5_isLength_5 : decode cX5_isLength 5 = .ok (.iload_n 0, 1) := by decide +kernel
theorem dX5_isLength_6 : decode cX5_isLength 6 = .ok (.bipush 99, 2) := by decide +kernel
theorem dX5_isLength_8 : decode cX5_isLength 8 = .ok (.if_icmp .gt 7, 3) := by decide +kernel
theorem dX5_isLength_11 : decode cX5_isLength 11 = .ok (.iconst 1, 1) := by decide +kernel
theorem dX5_isLength_12 : decode cX5_isLength 12 = .ok (.goto 4, 3) := by decide +kernel
theorem dX5_isLength_15 : decode cX5_isLength 15 = .ok (.iconst 0, 1) := by decide +kernel
theorem dX5_isLength_16 : decode cX5_isLength 16 = .ok (.ireturn, 1) := by decide +kernel
theorem dJ6_bitCount_0f7a4_0 : decode cJ6_bitCount_0f7a4 0 = .ok (.iload_n 0, 1) := by decide +kernel
theorem dJ6_bitCount_0f7a4_1 : decode cJ6_bitCount_0f7a4 1 = .ok (.iload_n 0, 1) := by decide +kernel
theorem dJ6_bitCount_0f7a4_2 : decode cJ6_bitCount_0f7a4 2 = .ok (.iconst 1, 1) := by decide +kernel
theorem dJ6_bitCount_0f7a4_3 : decode cJ6_bitCount_0f7a4 3 = .ok (.iushr, 1) := by decide +kernel
theorem dJ6_bitCount_0f7a4_4 : decode cJ6_bitCount_0f7a4 4 = .ok (.ldc_w 265, 3) := by decide +kernel
theorem dJ6_bitCount_0f7a4_7 : decode cJ6_bitCount_0f7a4 7 = .ok (.iand, 1) := by decide +kernel
theorem dJ6_bitCount_0f7a4_8 : decode cJ6_bitCount_0f7a4 8 = .ok (.isub, 1) := by decide +kernel
theorem dJ6_bitCount_0f7a4_9 : decode cJ6_bitCount_0f7a4 9 = .ok (.istore_n 0, 1) := by decide +kernel
theorem dJ6_bitCount_0f7a4_10 : decode cJ6_bitCount_0f7a4 10 = .ok (.iload_n 0, 1) := by decide +kernel
theorem dJ6_bitCount_0f7a4_11 : decode cJ6_bitCount_0f7a4 11 = .ok (.ldc_w 266, 3) := by decide +kernel
theorem dJ6_bitCount_0f7a4_14 : decode cJ6_bitCount_0f7a4 14 = .ok (.iand, 1) := by decide +kernel
theorem dJ6_bitCount_0f7a4_15 : decode cJ6_bitCount_0f7a4 15 = .ok (.iload_n 0, 1) := by decide +kernel
theorem dJ6_bitCount_0f7a4_16 : decode cJ6_bitCount_0f7a4 16 = .ok (.iconst 2, 1) := by decide +kernel
theorem dJ6_bitCount_0f7a4_17 : decode cJ6_bitCount_0f7a4 17 = .ok (.iushr, 1) := by decide +kernel
theorem dJ6_bitCount_0f7a4_18 : decode cJ6_bitCount_0f7a4 18 = .ok (.ldc_w 266, 3) := by decide +kernel
theorem dJ6_bitCount_0f7a4_21 : decode cJ6_bitCount_0f7a4 21 = .ok (.iand, 1) := by decide +kernel
theorem dJ6_bitCount_0f7a4_22 : decode cJ6_bitCount_0f7a4 22 = .ok (.iadd, 1) := by decide +kernel
theorem dJ6_bitCount_0f7a4_23 : decode cJ6_bitCount_0f7a4 23 = .ok (.istore_n 0, 1) := by decide +kernel
theorem dJ6_bitCount_0f7a4_24 : decode cJ6_bitCount_0f7a4 24 = .ok (.iload_n 0, 1) := by decide +kernel
theorem dJ6_bitCount_0f7a4_25 : decode cJ6_bitCount_0f7a4 25 = .ok (.iload_n 0, 1) := by decide +kernel
theorem dJ6_bitCount_0f7a4_26 : decode cJ6_bitCount_0f7a4 26 = .ok (.iconst 4, 1) := by decide +kernel
theorem dJ6_bitCount_0f7a4_27 : decode cJ6_bitCount_0f7a4 27 = .ok (.iushr, 1) := by decide +kernel
theorem dJ6_bitCount_0f7a4_28 : decode cJ6_bitCount_0f7a4 28 = .ok (.iadd, 1) := by decide +kernel
theorem dJ6_bitCount_0f7a4_29 : decode cJ6_bitCount_0f7a4 29 = .ok (.ldc_w 267, 3) := by decide +kernel
theorem dJ6_bitCount_0f7a4_32 : decode cJ6_bitCount_0f7a4 32 = .ok (.iand, 1) := by decide +kernel
theorem dJ6_bitCount_0f7a4_33 : decode cJ6_bitCount_0f7a4 33 = .ok (.istore_n 0, 1) := by decide +kernel
theorem dJ6_bitCount_0f7a4_34 : decode cJ6_bitCount_0f7a4 34 = .ok (.iload_n 0, 1) := by decide +kernel
theorem dJ6_bitCount_0f7a4_35 : decode cJ6_bitCount_0f7a4 35 = .ok (.iload_n 0, 1) := by decide +kernel
theorem dJ6_bitCount_0f7a4_36 : decode cJ6_bitCount_0f7a4 36 = .ok (.bipush 8, 2) := by decide +kernel
theorem dJ6_bitCount_0f7a4_38 : decode cJ6_bitCount_0f7a4 38 = .ok (.iushr, 1) := by decide +kernel
theorem dJ6_bitCount_0f7a4_39 : decode cJ6_bitCount_0f7a4 39 = .ok (.iadd, 1) := by decide +kernel
theorem dJ6_bitCount_0f7a4_40 : decode cJ6_bitCount_0f7a4 40 = .ok (.istore_n 0, 1) := by decide +kernel
theorem dJ6_bitCount_0f7a4_41 : decode cJ6_bitCount_0f7a4 41 = .ok (.iload_n 0, 1) := by decide +kernel
theorem dJ6_bitCount_0f7a4_42 : decode cJ6_bitCount_0f7a4 42 = .ok (.iload_n 0, 1) := by decide +kernel
theorem dJ6_bitCount_0f7a4_43 : decode cJ6_bitCount_0f7a4 43 = .ok (.bipush 16, 2) := by decide +kernel
theorem dJ6_bitCount_0f7a4_45 : decode cJ6_bitCount_0f7a4 45 = .ok (.iushr, 1) := by decide +kernel
theorem dJ6_bitCount_0f7a4_46 : decode cJ6_bitCount_0f7a4 46 = .ok (.iadd, 1) := by decide +kernel
theorem dJ6_bitCount_0f7a4_47 : decode cJ6_bitCount_0f7a4 47 = .ok (.istore_n 0, 1) := by decide +kernel
theorem dJ6_bitCount_0f7a4_48 : decode cJ6_bitCount_0f7a4 48 = .ok (.iload_n 0, 1) := by decide +kernel
theorem dJ6_bitCount_0f7a4_49 : decode cJ6_bitCount_0f7a4 49 = .ok (.bipush 63, 2) := by decide +kernel
theorem dJ6_bitCount_0f7a4_51 : decode cJ6_bitCount_0f7a4 51 = .ok (.iand, 1) := by decide +kernel
theorem dJ6_bitCount_0f7a4_52 : decode cJ6_bitCount_0f7a4 52 = .ok (.ireturn, 1) := by decide +kernel
theorem dJ9_max_7cf53_0 : decode cJ9_max_7cf53 0 = .ok (.iload_n 0, 1) := by decide +kernel
theorem dJ9_max_7cf53_1 : decode cJ9_max_7cf53 1 = .ok (.iload_n 1, 1) := by decide +kernel
theorem dJ9_max_7cf53_2 : decode cJ9_max_7cf53 2 = .ok (.if_icmp .lt 7, 3) := by decide +kernel
theorem dJ9_max_7cf53_5 : decode cJ9_max_7cf53 5 = .ok (.iload_n 0, 1) := by decide +kernel
theorem dJ9_max_7cf53_6 : decode cJ9_max_7cf53 6 = .ok (.goto 4, 3) := by decide +kernel
theorem dJ9_max_7cf53_9 : decode cJ9_max_7cf53 9 = .ok (.iload_n 1, 1) := by decide +kernel
theorem dJ9_max_7cf53_10 : decode cJ9_max_7cf53 10 = .ok (.ireturn, 1) := by decide +kernel
theorem dJ9_min_7cf53_0 : decode cJ9_min_7cf53 0 = .ok (.iload_n 0, 1) := by decide +kernel
theorem dJ9_min_7cf53_1 : decode cJ9_min_7cf53 1 = .ok (.iload_n 1, 1) := by decide +kernel
theorem dJ9_min_7cf53_2 : decode cJ9_min_7cf53 2 = .ok (.if_icmp .gt 7, 3) := by decide +kernel
theorem dJ9_min_7cf53_5 : decode cJ9_min_7cf53 5 = .ok (.iload_n 0, 1) := by decide +kernel
theorem dJ9_min_7cf53_6 : decode cJ9_min_7cf53 6 = .ok (.goto 4, 3) := by decide +kernel
theorem dJ9_min_7cf53_9 : decode cJ9_min_7cf53 9 = .ok (.iload_n 1, 1) := by decide +kernel
theorem dJ9_min_7cf53_10 : decode cJ9_min_7cf53 10 = .ok (.ireturn, 1) := by decide +kernel
theorem dJ7_fill_53178_0 : decode cJ7_fill_53178 0 = .ok (.iconst 0, 1) := by decide +kernel
theorem dJ7_fill_53178_1 : decode cJ7_fill_53178 1 = .ok (.istore_n 2, 1) := by decide +kernel
theorem dJ7_fill_53178_2 : decode cJ7_fill_53178 2 = .ok (.aload_n 0, 1) := by decide +kernel
theorem dJ7_fill_53178_3 : decode cJ7_fill_53178 3 = .ok (.arraylength, 1) := by decide +kernel
theorem dJ7_fill_53178_4 : decode cJ7_fill_53178 4 = .ok (.istore_n 3, 1) := by decide +kernel
theorem dJ7_fill_53178_5 : decode cJ7_fill_53178 5 = .ok (.iload_n 2, 1) := by decide +kernel
theorem dJ7_fill_53178_6 : decode cJ7_fill_53178 6 = .ok (.iload_n 3, 1) := by decide +kernel
theorem dJ7_fill_53178_7 : decode cJ7_fill_53178 7 = .ok (.if_icmp .ge 13, 3) := by decide +kernel
theorem dJ7_fill_53178_10 : decode cJ7_fill_53178 10 = .ok (.aload_n 0, 1) := by decide +kernel
theorem dJ7_fill_53178_11 : decode cJ7_fill_53178 11 = .ok (.iload_n 2, 1) := by decide +kernel
theorem dJ7_fill_53178_12 : decode cJ7_fill_53178 12 = .ok (.iload_n 1, 1) := by decide +kernel
theorem dJ7_fill_53178_13 : decode cJ7_fill_53178 13 = .ok (.iastore, 1) := by decide +kernel
theorem dJ7_fill_53178_14 : decode cJ7_fill_53178 14 = .ok (.iinc 2 1, 3) := by decide +kernel
theorem dJ7_fill_53178_17 : decode cJ7_fill_53178 17 = .ok (.goto (-12), 3) := by decide +kernel
theorem dJ7_fill_53178_20 : decode cJ7_fill_53178 20 = .ok (.return_, 1) := by decide +kernel
theorem dL_tryReport_0 : decode cL_tryReport 0 = .ok (.aload_n 0, 1) := by decide +kernel
theorem dL_tryReport_1 : decode cL_tryReport 1 = .ok (.iload_n 1, 1) := by decide +kernel
theorem dL_tryReport_2 : decode cL_tryReport 2 = .ok (.iload_n 2, 1) := by decide +kernel
theorem dL_tryReport_3 : decode cL_tryReport 3 = .ok (.iload_n 3, 1) := by decide +kernel
theorem dL_tryReport_4 : decode cL_tryReport 4 = .ok (.invokevirtual 7, 3) := by decide +kernel
theorem dL_tryReport_7 : decode cL_tryReport 7 = .ok (.ireturn, 1) := by decide +kernel
theorem dL_tryReport_8 : decode cL_tryReport 8 = .ok (.astore 4, 2) := by decide +kernel
theorem dL_tryReport_10 : decode cL_tryReport 10 = .ok (.ldc 15, 2) := by decide +kernel
theorem dL_tryReport_12 : decode cL_tryReport 12 = .ok (.ireturn, 1) := by decide +kernel
theorem dL_tryReport_13 : decode cL_tryReport 13 = .ok (.astore 4, 2) := by decide +kernel
theorem dL_tryReport_15 : decode cL_tryReport 15 = .ok (.ldc 18, 2) := by decide +kernel
theorem dL_tryReport_17 : decode cL_tryReport 17 = .ok (.ireturn, 1) := by decide +kernel
theorem dL_trySee_0 : decode cL_trySee 0 = .ok (.aload_n 0, 1) := by decide +kernel
theorem dL_trySee_1 : decode cL_trySee 1 = .ok (.iload_n 1, 1) := by decide +kernel
theorem dL_trySee_2 : decode cL_trySee 2 = .ok (.iload_n 2, 1) := by decide +kernel
theorem dL_trySee_3 : decode cL_trySee 3 = .ok (.iload_n 3, 1) := by decide +kernel
theorem dL_trySee_4 : decode cL_trySee 4 = .ok (.iload 4, 2) := by decide +kernel
theorem dL_trySee_6 : decode cL_trySee 6 = .ok (.invokevirtual 19, 3) := by decide +kernel
theorem dL_trySee_9 : decode cL_trySee 9 = .ok (.ireturn, 1) := by decide +kernel
theorem dL_trySee_10 : decode cL_trySee 10 = .ok (.astore 5, 2) := by decide +kernel
theorem dL_trySee_12 : decode cL_trySee 12 = .ok (.ldc 15, 2) := by decide +kernel
theorem dL_trySee_14 : decode cL_trySee 14 = .ok (.ireturn, 1) := by decide +kernel
theorem dL_trySee_15 : decode cL_trySee 15 = .ok (.astore 5, 2) := by decide +kernel
theorem dL_trySee_17 : decode cL_trySee 17 = .ok (.ldc 18, 2) := by decide +kernel
theorem dL_trySee_19 : decode cL_trySee 19 = .ok (.ireturn, 1) := by decide +kernel
theorem dL_tryScript_0 : decode cL_tryScript 0 = .ok (.aload_n 0, 1) := by decide +kernel
theorem dL_tryScript_1 : decode cL_tryScript 1 = .ok (.iload_n 1, 1) := by decide +kernel
theorem dL_tryScript_2 : decode cL_tryScript 2 = .ok (.lload_n 2, 1) := by decide +kernel
theorem dL_tryScript_3 : decode cL_tryScript 3 = .ok (.invokevirtual 23, 3) := by decide +kernel
theorem dL_tryScript_6 : decode cL_tryScript 6 = .ok (.ireturn, 1) := by decide +kernel
theorem dL_tryScript_7 : decode cL_tryScript 7 = .ok (.astore 4, 2) := by decide +kernel
theorem dL_tryScript_9 : decode cL_tryScript 9 = .ok (.ldc 18, 2) := by decide +kernel
theorem dL_tryScript_11 : decode cL_tryScript 11 = .ok (.ireturn, 1) := by decide +kernel
theorem dL_trySimulate_0 : decode cL_trySimulate 0 = .ok (.aload_n 0, 1) := by decide +kernel
theorem dL_trySimulate_1 : decode cL_trySimulate 1 = .ok (.lload_n 1, 1) := by decide +kernel
theorem dL_trySimulate_2 : decode cL_trySimulate 2 = .ok (.iload_n 3, 1) := by decide +kernel
theorem dL_trySimulate_3 : decode cL_trySimulate 3 = .ok (.invokevirtual 27, 3) := by decide +kernel
theorem dL_trySimulate_6 : decode cL_trySimulate 6 = .ok (.ireturn, 1) := by decide +kernel
theorem dL_trySimulate_7 : decode cL_trySimulate 7 = .ok (.astore 4, 2) := by decide +kernel
theorem dL_trySimulate_9 : decode cL_trySimulate 9 = .ok (.ldc 18, 2) := by decide +kernel
theorem dL_trySimulate_11 : decode cL_trySimulate 11 = .ok (.ireturn, 1) := by decide +kernel
theorem dL_tryAppend_0 : decode cL_tryAppend 0 = .ok (.aload_n 0, 1) := by decide +kernel
theorem dL_tryAppend_1 : decode cL_tryAppend 1 = .ok (.iload_n 1, 1) := by decide +kernel
theorem dL_tryAppend_2 : decode cL_tryAppend 2 = .ok (.invokevirtual 31, 3) := by decide +kernel
theorem dL_tryAppend_5 : decode cL_tryAppend 5 = .ok (.ireturn, 1) := by decide +kernel
theorem dL_tryAppend_6 : decode cL_tryAppend 6 = .ok (.astore_n 2, 1) := by decide +kernel
theorem dL_tryAppend_7 : decode cL_tryAppend 7 = .ok (.ldc 18, 2) := by decide +kernel
theorem dL_tryAppend_9 : decode cL_tryAppend 9 = .ok (.ireturn, 1) := by decide +kernel
theorem dL_tryAppend_10 : decode cL_tryAppend 10 = .ok (.astore_n 2, 1) := by decide +kernel
theorem dL_tryAppend_11 : decode cL_tryAppend 11 = .ok (.ldc 37, 2) := by decide +kernel
theorem dL_tryAppend_13 : decode cL_tryAppend 13 = .ok (.ireturn, 1) := by decide +kernel
theorem dL_tryAbout_0 : decode cL_tryAbout 0 = .ok (.aload_n 0, 1) := by decide +kernel
theorem dL_tryAbout_1 : decode cL_tryAbout 1 = .ok (.iload_n 1, 1) := by decide +kernel
theorem dL_tryAbout_2 : decode cL_tryAbout 2 = .ok (.invokevirtual 38, 3) := by decide +kernel
theorem dL_tryAbout_5 : decode cL_tryAbout 5 = .ok (.ireturn, 1) := by decide +kernel
theorem dL_tryAbout_6 : decode cL_tryAbout 6 = .ok (.astore_n 2, 1) := by decide +kernel
theorem dL_tryAbout_7 : decode cL_tryAbout 7 = .ok (.ldc 18, 2) := by decide +kernel
theorem dL_tryAbout_9 : decode cL_tryAbout 9 = .ok (.ireturn, 1) := by decide +kernel
theorem dL_tryRoad_0 : decode cL_tryRoad 0 = .ok (.aload_n 0, 1) := by decide +kernel
theorem dL_tryRoad_1 : decode cL_tryRoad 1 = .ok (.iload_n 1, 1) := by decide +kernel
theorem dL_tryRoad_2 : decode cL_tryRoad 2 = .ok (.iload_n 2, 1) := by decide +kernel
theorem dL_tryRoad_3 : decode cL_tryRoad 3 = .ok (.invokevirtual 41, 3) := by decide +kernel
theorem dL_tryRoad_6 : decode cL_tryRoad 6 = .ok (.ireturn, 1) := by decide +kernel
theorem dL_tryRoad_7 : decode cL_tryRoad 7 = .ok (.astore_n 3, 1) := by decide +kernel
theorem dL_tryRoad_8 : decode cL_tryRoad 8 = .ok (.ldc 15, 2) := by decide +kernel
theorem dL_tryRoad_10 : decode cL_tryRoad 10 = .ok (.ireturn, 1) := by decide +kernel
theorem dL_tryNeighbor_0 : decode cL_tryNeighbor 0 = .ok (.aload_n 0, 1) := by decide +kernel
theorem dL_tryNeighbor_1 : decode cL_tryNeighbor 1 = .ok (.iload_n 1, 1) := by decide +kernel
theorem dL_tryNeighbor_2 : decode cL_tryNeighbor 2 = .ok (.iload_n 2, 1) := by decide +kernel
theorem dL_tryNeighbor_3 : decode cL_tryNeighbor 3 = .ok (.invokevirtual 45, 3) := by decide +kernel
theorem dL_tryNeighbor_6 : decode cL_tryNeighbor 6 = .ok (.ireturn, 1) := by decide +kernel
theorem dL_tryNeighbor_7 : decode cL_tryNeighbor 7 = .ok (.astore_n 3, 1) := by decide +kernel
theorem dL_tryNeighbor_8 : decode cL_tryNeighbor 8 = .ok (.ldc 15, 2) := by decide +kernel
theorem dL_tryNeighbor_10 : decode cL_tryNeighbor 10 = .ok (.ireturn, 1) := by decide +kernel
theorem dL_tryNeighbor_11 : decode cL_tryNeighbor 11 = .ok (.astore_n 3, 1) := by decide +kernel
theorem dL_tryNeighbor_12 : decode cL_tryNeighbor 12 = .ok (.ldc 18, 2) := by decide +kernel
theorem dL_tryNeighbor_14 : decode cL_tryNeighbor 14 = .ok (.ireturn, 1) := by decide +kernel
theorem dL_tryFound_0 : decode cL_tryFound 0 = .ok (.aload_n 0, 1) := by decide +kernel
theorem dL_tryFound_1 : decode cL_tryFound 1 = .ok (.invokevirtual 48, 3) := by decide +kernel
theorem dL_tryFound_4 : decode cL_tryFound 4 = .ok (.ireturn, 1) := by decide +kernel
theorem dL_tryFound_5 : decode cL_tryFound 5 = .ok (.astore_n 1, 1) := by decide +kernel
theorem dL_tryFound_6 : decode cL_tryFound 6 = .ok (.ldc 37, 2) := by decide +kernel
theorem dL_tryFound_8 : decode cL_tryFound 8 = .ok (.ireturn, 1) := by decide +kernel
theorem dL_tryLay_0 : decode cL_tryLay 0 = .ok (.aload_n 0, 1) := by decide +kernel
theorem dL_tryLay_1 : decode cL_tryLay 1 = .ok (.iload_n 1, 1) := by decide +kernel
theorem dL_tryLay_2 : decode cL_tryLay 2 = .ok (.iload_n 2, 1) := by decide +kernel
theorem dL_tryLay_3 : decode cL_tryLay 3 = .ok (.iload_n 3, 1) := by decide +kernel
theorem dL_tryLay_4 : decode cL_tryLay 4 = .ok (.invokevirtual 52, 3) := by decide +kernel
theorem dL_tryLay_7 : decode cL_tryLay 7 = .ok (.ireturn, 1) := by decide +kernel
theorem dL_tryLay_8 : decode cL_tryLay 8 = .ok (.astore 4, 2) := by decide +kernel
theorem dL_tryLay_10 : decode cL_tryLay 10 = .ok (.ldc 15, 2) := by decide +kernel
theorem dL_tryLay_12 : decode cL_tryLay 12 = .ok (.ireturn, 1) := by decide +kernel
theorem dL_tryLay_13 : decode cL_tryLay 13 = .ok (.astore 4, 2) := by decide +kernel
theorem dL_tryLay_15 : decode cL_tryLay 15 = .ok (.ldc 18, 2) := by decide +kernel
theorem dL_tryLay_17 : decode cL_tryLay 17 = .ok (.ireturn, 1) := by decide +kernel
theorem dL_tryLay_18 : decode cL_tryLay 18 = .ok (.astore 4, 2) := by decide +kernel
theorem dL_tryLay_20 : decode cL_tryLay 20 = .ok (.ldc 37, 2) := by decide +kernel
theorem dL_tryLay_22 : decode cL_tryLay 22 = .ok (.ireturn, 1) := by decide +kernel
theorem dL_tryTear_0 : decode cL_tryTear 0 = .ok (.aload_n 0, 1) := by decide +kernel
theorem dL_tryTear_1 : decode cL_tryTear 1 = .ok (.iload_n 1, 1) := by decide +kernel
theorem dL_tryTear_2 : decode cL_tryTear 2 = .ok (.iload_n 2, 1) := by decide +kernel
theorem dL_tryTear_3 : decode cL_tryTear 3 = .ok (.invokevirtual 56, 3) := by decide +kernel
theorem dL_tryTear_6 : decode cL_tryTear 6 = .ok (.ireturn, 1) := by decide +kernel
theorem dL_tryTear_7 : decode cL_tryTear 7 = .ok (.astore_n 3, 1) := by decide +kernel
theorem dL_tryTear_8 : decode cL_tryTear 8 = .ok (.ldc 15, 2) := by decide +kernel
theorem dL_tryTear_10 : decode cL_tryTear 10 = .ok (.ireturn, 1) := by decide +kernel
theorem dL_tryTear_11 : decode cL_tryTear 11 = .ok (.astore_n 3, 1) := by decide +kernel
theorem dL_tryTear_12 : decode cL_tryTear 12 = .ok (.ldc 37, 2) := by decide +kernel
theorem dL_tryTear_14 : decode cL_tryTear 14 = .ok (.ireturn, 1) := by decide +kernel
theorem dL_trySeeAll_0 : decode cL_trySeeAll 0 = .ok (.aload_n 0, 1) := by decide +kernel
theorem dL_trySeeAll_1 : decode cL_trySeeAll 1 = .ok (.invokevirtual 59, 3) := by decide +kernel
theorem dL_trySeeAll_4 : decode cL_trySeeAll 4 = .ok (.ireturn, 1) := by decide +kernel
theorem dL_trySeeAll_5 : decode cL_trySeeAll 5 = .ok (.astore_n 1, 1) := by decide +kernel
theorem dL_trySeeAll_6 : decode cL_trySeeAll 6 = .ok (.ldc 37, 2) := by decide +kernel
theorem dL_trySeeAll_8 : decode cL_trySeeAll 8 = .ok (.ireturn, 1) := by decide +kernel
theorem dL_tryForget_0 : decode cL_tryForget 0 = .ok (.aload_n 0, 1) := by decide +kernel
theorem dL_tryForget_1 : decode cL_tryForget 1 = .ok (.iload_n 1, 1) := by decide +kernel
theorem dL_tryForget_2 : decode cL_tryForget 2 = .ok (.iload_n 2, 1) := by decide +kernel
theorem dL_tryForget_3 : decode cL_tryForget 3 = .ok (.invokevirtual 62, 3) := by decide +kernel
theorem dL_tryForget_6 : decode cL_tryForget 6 = .ok (.ireturn, 1) := by decide +kernel
theorem dL_tryForget_7 : decode cL_tryForget 7 = .ok (.astore_n 3, 1) := by decide +kernel
theorem dL_tryForget_8 : decode cL_tryForget 8 = .ok (.ldc 15, 2) := by decide +kernel
theorem dL_tryForget_10 : decode cL_tryForget 10 = .ok (.ireturn, 1) := by decide +kernel
theorem dL_tryForget_11 : decode cL_tryForget 11 = .ok (.astore_n 3, 1) := by decide +kernel
theorem dL_tryForget_12 : decode cL_tryForget 12 = .ok (.ldc 18, 2) := by decide +kernel
theorem dL_tryForget_14 : decode cL_tryForget 14 = .ok (.ireturn, 1) := by decide +kernel
theorem dL_tryUndo_0 : decode cL_tryUndo 0 = .ok (.aload_n 0, 1) := by decide +kernel
theorem dL_tryUndo_1 : decode cL_tryUndo 1 = .ok (.invokevirtual 65, 3) := by decide +kernel
theorem dL_tryUndo_4 : decode cL_tryUndo 4 = .ok (.ireturn, 1) := by decide +kernel
theorem dL_tryUndo_5 : decode cL_tryUndo 5 = .ok (.astore_n 1, 1) := by decide +kernel
theorem dL_tryUndo_6 : decode cL_tryUndo 6 = .ok (.ldc 37, 2) := by decide +kernel
theorem dL_tryUndo_8 : decode cL_tryUndo 8 = .ok (.ireturn, 1) := by decide +kernel
theorem dL_tryInventions_0 : decode cL_tryInventions 0 = .ok (.aload_n 0, 1) := by decide +kernel
theorem dL_tryInventions_1 : decode cL_tryInventions 1 = .ok (.iload_n 1, 1) := by decide +kernel
theorem dL_tryInventions_2 : decode cL_tryInventions 2 = .ok (.invokevirtual 68, 3) := by decide +kernel
theorem dL_tryInventions_5 : decode cL_tryInventions 5 = .ok (.ireturn, 1) := by decide +kernel
theorem dL_tryInventions_6 : decode cL_tryInventions 6 = .ok (.astore_n 2, 1) := by decide +kernel
theorem dL_tryInventions_7 : decode cL_tryInventions 7 = .ok (.ldc 18, 2) := by decide +kernel
theorem dL_tryInventions_9 : decode cL_tryInventions 9 = .ok (.ireturn, 1) := by decide +kernel
theorem dL_tryInvented_0 : decode cL_tryInvented 0 = .ok (.aload_n 0, 1) := by decide +kernel
theorem dL_tryInvented_1 : decode cL_tryInvented 1 = .ok (.iload_n 1, 1) := by decide +kernel
theorem dL_tryInvented_2 : decode cL_tryInvented 2 = .ok (.iload_n 2, 1) := by decide +kernel
theorem dL_tryInvented_3 : decode cL_tryInvented 3 = .ok (.invokevirtual 71, 3) := by decide +kernel
theorem dL_tryInvented_6 : decode cL_tryInvented 6 = .ok (.ireturn, 1) := by decide +kernel
theorem dL_tryInvented_7 : decode cL_tryInvented 7 = .ok (.astore_n 3, 1) := by decide +kernel
theorem dL_tryInvented_8 : decode cL_tryInvented 8 = .ok (.ldc 18, 2) := by decide +kernel
theorem dL_tryInvented_10 : decode cL_tryInvented 10 = .ok (.ireturn, 1) := by decide +kernel
theorem dL_tryChoices_0 : decode cL_tryChoices 0 = .ok (.aload_n 0, 1) := by decide +kernel
theorem dL_tryChoices_1 : decode cL_tryChoices 1 = .ok (.iload_n 1, 1) := by decide +kernel
theorem dL_tryChoices_2 : decode cL_tryChoices 2 = .ok (.invokevirtual 74, 3) := by decide +kernel
theorem dL_tryChoices_5 : decode cL_tryChoices 5 = .ok (.ireturn, 1) := by decide +kernel
theorem dL_tryChoices_6 : decode cL_tryChoices 6 = .ok (.astore_n 2, 1) := by decide +kernel
theorem dL_tryChoices_7 : decode cL_tryChoices 7 = .ok (.ldc 18, 2) := by decide +kernel
theorem dL_tryChoices_9 : decode cL_tryChoices 9 = .ok (.ireturn, 1) := by decide +kernel
theorem dL_trySince_0 : decode cL_trySince 0 = .ok (.aload_n 0, 1) := by decide +kernel
theorem dL_trySince_1 : decode cL_trySince 1 = .ok (.iload_n 1, 1) := by decide +kernel
theorem dL_trySince_2 : decode cL_trySince 2 = .ok (.iload_n 2, 1) := by decide +kernel
theorem dL_trySince_3 : decode cL_trySince 3 = .ok (.invokevirtual 77, 3) := by decide +kernel
theorem dL_trySince_6 : decode cL_trySince 6 = .ok (.ireturn, 1) := by decide +kernel
theorem dL_trySince_7 : decode cL_trySince 7 = .ok (.astore_n 3, 1) := by decide +kernel
theorem dL_trySince_8 : decode cL_trySince 8 = .ok (.ldc 15, 2) := by decide +kernel
theorem dL_trySince_10 : decode cL_trySince 10 = .ok (.ireturn, 1) := by decide +kernel
theorem dL_trySince_11 : decode cL_trySince 11 = .ok (.astore_n 3, 1) := by decide +kernel
theorem dL_trySince_12 : decode cL_trySince 12 = .ok (.ldc 18, 2) := by decide +kernel
theorem dL_trySince_14 : decode cL_trySince 14 = .ok (.ireturn, 1) := by decide +kernel
theorem dL_tryReached_0 : decode cL_tryReached 0 = .ok (.aload_n 0, 1) := by decide +kernel
theorem dL_tryReached_1 : decode cL_tryReached 1 = .ok (.iload_n 1, 1) := by decide +kernel
theorem dL_tryReached_2 : decode cL_tryReached 2 = .ok (.iload_n 2, 1) := by decide +kernel
theorem dL_tryReached_3 : decode cL_tryReached 3 = .ok (.invokevirtual 80, 3) := by decide +kernel
theorem dL_tryReached_6 : decode cL_tryReached 6 = .ok (.ireturn, 1) := by decide +kernel
theorem dL_tryReached_7 : decode cL_tryReached 7 = .ok (.astore_n 3, 1) := by decide +kernel
theorem dL_tryReached_8 : decode cL_tryReached 8 = .ok (.ldc 18, 2) := by decide +kernel
theorem dL_tryReached_10 : decode cL_tryReached 10 = .ok (.ireturn, 1) := by decide +kernel
theorem dL_tryPassed_0 : decode cL_tryPassed 0 = .ok (.aload_n 0, 1) := by decide +kernel
theorem dL_tryPassed_1 : decode cL_tryPassed 1 = .ok (.iload_n 1, 1) := by decide +kernel
theorem dL_tryPassed_2 : decode cL_tryPassed 2 = .ok (.iload_n 2, 1) := by decide +kernel
theorem dL_tryPassed_3 : decode cL_tryPassed 3 = .ok (.iload_n 3, 1) := by decide +kernel
theorem dL_tryPassed_4 : decode cL_tryPassed 4 = .ok (.invokevirtual 83, 3) := by decide +kernel
theorem dL_tryPassed_7 : decode cL_tryPassed 7 = .ok (.ireturn, 1) := by decide +kernel
theorem dL_tryPassed_8 : decode cL_tryPassed 8 = .ok (.astore 4, 2) := by decide +kernel
theorem dL_tryPassed_10 : decode cL_tryPassed 10 = .ok (.ldc 15, 2) := by decide +kernel
theorem dL_tryPassed_12 : decode cL_tryPassed 12 = .ok (.ireturn, 1) := by decide +kernel
theorem dL_tryPassed_13 : decode cL_tryPassed 13 = .ok (.astore 4, 2) := by decide +kernel
theorem dL_tryPassed_15 : decode cL_tryPassed 15 = .ok (.ldc 18, 2) := by decide +kernel
theorem dL_tryPassed_17 : decode cL_tryPassed 17 = .ok (.ireturn, 1) := by decide +kernel
theorem dL_tryIfLaid_0 : decode cL_tryIfLaid 0 = .ok (.aload_n 0, 1) := by decide +kernel
theorem dL_tryIfLaid_1 : decode cL_tryIfLaid 1 = .ok (.iload_n 1, 1) := by decide +kernel
theorem dL_tryIfLaid_2 : decode cL_tryIfLaid 2 = .ok (.iload_n 2, 1) := by decide +kernel
theorem dL_tryIfLaid_3 : decode cL_tryIfLaid 3 = .ok (.iload_n 3, 1) := by decide +kernel
theorem dL_tryIfLaid_4 : decode cL_tryIfLaid 4 = .ok (.invokevirtual 86, 3) := by decide +kernel
theorem dL_tryIfLaid_7 : decode cL_tryIfLaid 7 = .ok (.ireturn, 1) := by decide +kernel
theorem dL_tryIfLaid_8 : decode cL_tryIfLaid 8 = .ok (.astore 4, 2) := by decide +kernel
theorem dL_tryIfLaid_10 : decode cL_tryIfLaid 10 = .ok (.ldc 15, 2) := by decide +kernel
theorem dL_tryIfLaid_12 : decode cL_tryIfLaid 12 = .ok (.ireturn, 1) := by decide +kernel
theorem dL_tryIfLaid_13 : decode cL_tryIfLaid 13 = .ok (.astore 4, 2) := by decide +kernel
theorem dL_tryIfLaid_15 : decode cL_tryIfLaid 15 = .ok (.ldc 18, 2) := by decide +kernel
theorem dL_tryIfLaid_17 : decode cL_tryIfLaid 17 = .ok (.ireturn, 1) := by decide +kernel
theorem dL_tryIfLaid_18 : decode cL_tryIfLaid 18 = .ok (.astore 4, 2) := by decide +kernel
theorem dL_tryIfLaid_20 : decode cL_tryIfLaid 20 = .ok (.ldc 37, 2) := by decide +kernel
theorem dL_tryIfLaid_22 : decode cL_tryIfLaid 22 = .ok (.ireturn, 1) := by decide +kernel
theorem dL_tryBestRoad_0 : decode cL_tryBestRoad 0 = .ok (.aload_n 0, 1) := by decide +kernel
theorem dL_tryBestRoad_1 : decode cL_tryBestRoad 1 = .ok (.iload_n 1, 1) := by decide +kernel
theorem dL_tryBestRoad_2 : decode cL_tryBestRoad 2 = .ok (.invokevirtual 89, 3) := by decide +kernel
theorem dL_tryBestRoad_5 : decode cL_tryBestRoad 5 = .ok (.ireturn, 1) := by decide +kernel
theorem dL_tryBestRoad_6 : decode cL_tryBestRoad 6 = .ok (.astore_n 2, 1) := by decide +kernel
theorem dL_tryBestRoad_7 : decode cL_tryBestRoad 7 = .ok (.ldc 18, 2) := by decide +kernel
theorem dL_tryBestRoad_9 : decode cL_tryBestRoad 9 = .ok (.ireturn, 1) := by decide +kernel
theorem dL_tryKeep_0 : decode cL_tryKeep 0 = .ok (.aload_n 0, 1) := by decide +kernel
theorem dL_tryKeep_1 : decode cL_tryKeep 1 = .ok (.iload_n 1, 1) := by decide +kernel
theorem dL_tryKeep_2 : decode cL_tryKeep 2 = .ok (.invokevirtual 92, 3) := by decide +kernel
theorem dL_tryKeep_5 : decode cL_tryKeep 5 = .ok (.ireturn, 1) := by decide +kernel
theorem dL_tryKeep_6 : decode cL_tryKeep 6 = .ok (.astore_n 2, 1) := by decide +kernel
theorem dL_tryKeep_7 : decode cL_tryKeep 7 = .ok (.ldc 15, 2) := by decide +kernel
theorem dL_tryKeep_9 : decode cL_tryKeep 9 = .ok (.ireturn, 1) := by decide +kernel
theorem dL_tryBack_0 : decode cL_tryBack 0 = .ok (.aload_n 0, 1) := by decide +kernel
theorem dL_tryBack_1 : decode cL_tryBack 1 = .ok (.iload_n 1, 1) := by decide +kernel
theorem dL_tryBack_2 : decode cL_tryBack 2 = .ok (.invokevirtual 95, 3) := by decide +kernel
theorem dL_tryBack_5 : decode cL_tryBack 5 = .ok (.ireturn, 1) := by decide +kernel
theorem dL_tryBack_6 : decode cL_tryBack 6 = .ok (.astore_n 2, 1) := by decide +kernel
theorem dL_tryBack_7 : decode cL_tryBack 7 = .ok (.ldc 15, 2) := by decide +kernel
theorem dL_tryBack_9 : decode cL_tryBack 9 = .ok (.ireturn, 1) := by decide +kernel
theorem dL_tryBack_10 : decode cL_tryBack 10 = .ok (.astore_n 2, 1) := by decide +kernel
theorem dL_tryBack_11 : decode cL_tryBack 11 = .ok (.ldc 37, 2) := by decide +kernel
theorem dL_tryBack_13 : decode cL_tryBack 13 = .ok (.ireturn, 1) := by decide +kernel
theorem dL_call_0 : decode cL_call 0 = .ok (.iload_n 1, 1) := by decide +kernel
theorem dL_call_1 : decode cL_call 1 = .ok (.tableswitch 218 0 18 #[91, 97, 103, 110, 117, 122, 131, 138, 143, 150, 155, 161, 168, 174, 181, 188, 197, 206, 212], 91) := by decide +kernel
theorem dL_call_92 : decode cL_call 92 = .ok (.aload_n 0, 1) := by decide +kernel
theorem dL_call_93 : decode cL_call 93 = .ok (.iload_n 2, 1) := by decide +kernel
theorem dL_call_94 : decode cL_call 94 = .ok (.invokestatic 98, 3) := by decide +kernel
theorem dL_call_97 : decode cL_call 97 = .ok (.ireturn, 1) := by decide +kernel
theorem dL_call_98 : decode cL_call 98 = .ok (.aload_n 0, 1) := by decide +kernel
theorem dL_call_99 : decode cL_call 99 = .ok (.iload_n 2, 1) := by decide +kernel
theorem dL_call_100 : decode cL_call 100 = .ok (.invokestatic 104, 3) := by decide +kernel
theorem dL_call_103 : decode cL_call 103 = .ok (.ireturn, 1) := by decide +kernel
theorem dL_call_104 : decode cL_call 104 = .ok (.aload_n 0, 1) := by decide +kernel
theorem dL_call_105 : decode cL_call 105 = .ok (.iload_n 2, 1) := by decide +kernel
theorem dL_call_106 : decode cL_call 106 = .ok (.iload_n 3, 1) := by decide +kernel
theorem dL_call_107 : decode cL_call 107 = .ok (.invokestatic 107, 3) := by decide +kernel
theorem dL_call_110 : decode cL_call 110 = .ok (.ireturn, 1) := by decide +kernel
theorem dL_call_111 : decode cL_call 111 = .ok (.aload_n 0, 1) := by decide +kernel
theorem dL_call_112 : decode cL_call 112 = .ok (.iload_n 2, 1) := by decide +kernel
theorem dL_call_113 : decode cL_call 113 = .ok (.iload_n 3, 1) := by decide +kernel
theorem dL_call_114 : decode cL_call 114 = .ok (.invokestatic 111, 3) := by decide +kernel
theorem dL_call_117 : decode cL_call 117 = .ok (.ireturn, 1) := by decide +kernel
theorem dL_call_118 : decode cL_call 118 = .ok (.aload_n 0, 1) := by decide +kernel
theorem dL_call_119 : decode cL_call 119 = .ok (.invokestatic 114, 3) := by decide +kernel
theorem dL_call_122 : decode cL_call 122 = .ok (.ireturn, 1) := by decide +kernel
theorem dL_call_123 : decode cL_call 123 = .ok (.aload_n 0, 1) := by decide +kernel
theorem dL_call_124 : decode cL_call 124 = .ok (.iload_n 2, 1) := by decide +kernel
theorem dL_call_125 : decode cL_call 125 = .ok (.iload_n 3, 1) := by decide +kernel
theorem dL_call_126 : decode cL_call 126 = .ok (.iload 4, 2) := by decide +kernel
theorem dL_call_128 : decode cL_call 128 = .ok (.invokestatic 118, 3) := by decide +kernel
theorem dL_call_131 : decode cL_call 131 = .ok (.ireturn, 1) := by decide +kernel
theorem dL_call_132 : decode cL_call 132 = .ok (.aload_n 0, 1) := by decide +kernel
theorem dL_call_133 : decode cL_call 133 = .ok (.iload_n 2, 1) := by decide +kernel
theorem dL_call_134 : decode cL_call 134 = .ok (.iload_n 3, 1) := by decide +kernel
theorem dL_call_135 : decode cL_call 135 = .ok (.invokestatic 122, 3) := by decide +kernel
theorem dL_call_138 : decode cL_call 138 = .ok (.ireturn, 1) := by decide +kernel
theorem dL_call_139 : decode cL_call 139 = .ok (.aload_n 0, 1) := by decide +kernel
theorem dL_call_140 : decode cL_call 140 = .ok (.invokestatic 125, 3) := by decide +kernel
theorem dL_call_143 : decode cL_call 143 = .ok (.ireturn, 1) := by decide +kernel
theorem dL_call_144 : decode cL_call 144 = .ok (.aload_n 0, 1) := by decide +kernel
theorem dL_call_145 : decode cL_call 145 = .ok (.iload_n 2, 1) := by decide +kernel
theorem dL_call_146 : decode cL_call 146 = .ok (.iload_n 3, 1) := by decide +kernel
theorem dL_call_147 : decode cL_call 147 = .ok (.invokestatic 128, 3) := by decide +kernel
theorem dL_call_150 : decode cL_call 150 = .ok (.ireturn, 1) := by decide +kernel
theorem dL_call_151 : decode cL_call 151 = .ok (.aload_n 0, 1) := by decide +kernel
theorem dL_call_152 : decode cL_call 152 = .ok (.invokestatic 131, 3) := by decide +kernel
theorem dL_call_155 : decode cL_call 155 = .ok (.ireturn, 1) := by decide +kernel
theorem dL_call_156 : decode cL_call 156 = .ok (.aload_n 0, 1) := by decide +kernel
theorem dL_call_157 : decode cL_call 157 = .ok (.iload_n 2, 1) := by decide +kernel
theorem dL_call_158 : decode cL_call 158 = .ok (.invokestatic 134, 3) := by decide +kernel
theorem dL_call_161 : decode cL_call 161 = .ok (.ireturn, 1) := by decide +kernel
theorem dL_call_162 : decode cL_call 162 = .ok (.aload_n 0, 1) := by decide +kernel
theorem dL_call_163 : decode cL_call 163 = .ok (.iload_n 2, 1) := by decide +kernel
theorem dL_call_164 : decode cL_call 164 = .ok (.iload_n 3, 1) := by decide +kernel
theorem dL_call_165 : decode cL_call 165 = .ok (.invokestatic 137, 3) := by decide +kernel
theorem dL_call_168 : decode cL_call 168 = .ok (.ireturn, 1) := by decide +kernel
theorem dL_call_169 : decode cL_call 169 = .ok (.aload_n 0, 1) := by decide +kernel
theorem dL_call_170 : decode cL_call 170 = .ok (.iload_n 2, 1) := by decide +kernel
theorem dL_call_171 : decode cL_call 171 = .ok (.invokestatic 140, 3) := by decide +kernel
theorem dL_call_174 : decode cL_call 174 = .ok (.ireturn, 1) := by decide +kernel
theorem dL_call_175 : decode cL_call 175 = .ok (.aload_n 0, 1) := by decide +kernel
theorem dL_call_176 : decode cL_call 176 = .ok (.iload_n 2, 1) := by decide +kernel
theorem dL_call_177 : decode cL_call 177 = .ok (.iload_n 3, 1) := by decide +kernel
theorem dL_call_178 : decode cL_call 178 = .ok (.invokestatic 143, 3) := by decide +kernel
theorem dL_call_181 : decode cL_call 181 = .ok (.ireturn, 1) := by decide +kernel
theorem dL_call_182 : decode cL_call 182 = .ok (.aload_n 0, 1) := by decide +kernel
theorem dL_call_183 : decode cL_call 183 = .ok (.iload_n 2, 1) := by decide +kernel
theorem dL_call_184 : decode cL_call 184 = .ok (.iload_n 3, 1) := by decide +kernel
theorem dL_call_185 : decode cL_call 185 = .ok (.invokestatic 146, 3) := by decide +kernel
theorem dL_call_188 : decode cL_call 188 = .ok (.ireturn, 1) := by decide +kernel
theorem dL_call_189 : decode cL_call 189 = .ok (.aload_n 0, 1) := by decide +kernel
theorem dL_call_190 : decode cL_call 190 = .ok (.iload_n 2, 1) := by decide +kernel
theorem dL_call_191 : decode cL_call 191 = .ok (.iload_n 3, 1) := by decide +kernel
theorem dL_call_192 : decode cL_call 192 = .ok (.iload 4, 2) := by decide +kernel
theorem dL_call_194 : decode cL_call 194 = .ok (.invokestatic 149, 3) := by decide +kernel
theorem dL_call_197 : decode cL_call 197 = .ok (.ireturn, 1) := by decide +kernel
theorem dL_call_198 : decode cL_call 198 = .ok (.aload_n 0, 1) := by decide +kernel
theorem dL_call_199 : decode cL_call 199 = .ok (.iload_n 2, 1) := by decide +kernel
theorem dL_call_200 : decode cL_call 200 = .ok (.iload_n 3, 1) := by decide +kernel
theorem dL_call_201 : decode cL_call 201 = .ok (.iload 4, 2) := by decide +kernel
theorem dL_call_203 : decode cL_call 203 = .ok (.invokestatic 152, 3) := by decide +kernel
theorem dL_call_206 : decode cL_call 206 = .ok (.ireturn, 1) := by decide +kernel
theorem dL_call_207 : decode cL_call 207 = .ok (.aload_n 0, 1) := by decide +kernel
theorem dL_call_208 : decode cL_call 208 = .ok (.iload_n 2, 1) := by decide +kernel
theorem dL_call_209 : decode cL_call 209 = .ok (.invokestatic 155, 3) := by decide +kernel
theorem dL_call_212 : decode cL_call 212 = .ok (.ireturn, 1) := by decide +kernel
theorem dL_call_213 : decode cL_call 213 = .ok (.aload_n 0, 1) := by decide +kernel
theorem dL_call_214 : decode cL_call 214 = .ok (.iload_n 2, 1) := by decide +kernel
theorem dL_call_215 : decode cL_call 215 = .ok (.invokestatic 158, 3) := by decide +kernel
theorem dL_call_218 : decode cL_call 218 = .ok (.ireturn, 1) := by decide +kernel
theorem dL_call_219 : decode cL_call 219 = .ok (.aload_n 0, 1) := by decide +kernel
theorem dL_call_220 : decode cL_call 220 = .ok (.iload_n 2, 1) := by decide +kernel
theorem dL_call_221 : decode cL_call 221 = .ok (.invokestatic 161, 3) := by decide +kernel
theorem dL_call_224 : decode cL_call 224 = .ok (.ireturn, 1) := by decide +kernel
theorem dL_cell_0 : decode cL_cell 0 = .ok (.iload_n 1, 1) := by decide +kernel
theorem dL_cell_1 : decode cL_cell 1 = .ok (.aload_n 0, 1) := by decide +kernel
theorem dL_cell_2 : decode cL_cell 2 = .ok (.arraylength, 1) := by decide +kernel
theorem dL_cell_3 : decode cL_cell 3 = .ok (.if_icmp .ge 9, 3) := by decide +kernel
theorem dL_cell_6 : decode cL_cell 6 = .ok (.aload_n 0, 1) := by decide +kernel
theorem dL_cell_7 : decode cL_cell 7 = .ok (.iload_n 1, 1) := by decide +kernel
theorem dL_cell_8 : decode cL_cell 8 = .ok (.iaload, 1) := by decide +kernel
theorem dL_cell_9 : decode cL_cell 9 = .ok (.goto 13, 3) := by decide +kernel
theorem dL_cell_12 : decode cL_cell 12 = .ok (.ldc 164, 2) := by decide +kernel
theorem dL_cell_14 : decode cL_cell 14 = .ok (.iload_n 1, 1) := by decide +kernel
theorem dL_cell_15 : decode cL_cell 15 = .ok (.iconst 3, 1) := by decide +kernel
theorem dL_cell_16 : decode cL_cell 16 = .ok (.iadd, 1) := by decide +kernel
theorem dL_cell_17 : decode cL_cell 17 = .ok (.imul, 1) := by decide +kernel
theorem dL_cell_18 : decode cL_cell 18 = .ok (.sipush 10687, 3) := by decide +kernel
theorem dL_cell_21 : decode cL_cell 21 = .ok (.iadd, 1) := by decide +kernel
theorem dL_cell_22 : decode cL_cell 22 = .ok (.ldc 165, 2) := by decide +kernel
theorem dL_cell_24 : decode cL_cell 24 = .ok (.iand, 1) := by decide +kernel
theorem dL_cell_25 : decode cL_cell 25 = .ok (.ireturn, 1) := by decide +kernel
theorem dL_refuses_0 : decode cL_refuses 0 = .ok (.aload_n 0, 1) := by decide +kernel
theorem dL_refuses_1 : decode cL_refuses 1 = .ok (.iconst 1, 1) := by decide +kernel
theorem dL_refuses_2 : decode cL_refuses 2 = .ok (.iconst 0, 1) := by decide +kernel
theorem dL_refuses_3 : decode cL_refuses 3 = .ok (.iconst 0, 1) := by decide +kernel
theorem dL_refuses_4 : decode cL_refuses 4 = .ok (.iconst 0, 1) := by decide +kernel
theorem dL_refuses_5 : decode cL_refuses 5 = .ok (.invokestatic 166, 3) := by decide +kernel
theorem dL_refuses_8 : decode cL_refuses 8 = .ok (.istore_n 2, 1) := by decide +kernel
theorem dL_refuses_9 : decode cL_refuses 9 = .ok (.aload_n 0, 1) := by decide +kernel
theorem dL_refuses_10 : decode cL_refuses 10 = .ok (.iconst 1, 1) := by decide +kernel
theorem dL_refuses_11 : decode cL_refuses 11 = .ok (.bipush 6, 2) := by decide +kernel
theorem dL_refuses_13 : decode cL_refuses 13 = .ok (.iload_n 1, 1) := by decide +kernel
theorem dL_refuses_14 : decode cL_refuses 14 = .ok (.bipush 9, 2) := by decide +kernel
theorem dL_refuses_16 : decode cL_refuses 16 = .ok (.irem, 1) := by decide +kernel
theorem dL_refuses_17 : decode cL_refuses 17 = .ok (.iadd, 1) := by decide +kernel
theorem dL_refuses_18 : decode cL_refuses 18 = .ok (.iconst 0, 1) := by decide +kernel
theorem dL_refuses_19 : decode cL_refuses 19 = .ok (.iconst 0, 1) := by decide +kernel
theorem dL_refuses_20 : decode cL_refuses 20 = .ok (.invokestatic 166, 3) := by decide +kernel
theorem dL_refuses_23 : decode cL_refuses 23 = .ok (.ldc 18, 2) := by decide +kernel
theorem dL_refuses_25 : decode cL_refuses 25 = .ok (.if_icmp .ne 164, 3) := by decide +kernel
theorem dL_refuses_28 : decode cL_refuses 28 = .ok (.aload_n 0, 1) := by decide +kernel
theorem dL_refuses_29 : decode cL_refuses 29 = .ok (.iconst 2, 1) := by decide +kernel
theorem dL_refuses_30 : decode cL_refuses 30 = .ok (.iload_n 2, 1) := by decide +kernel
theorem dL_refuses_31 : decode cL_refuses 31 = .ok (.iconst 0, 1) := by decide +kernel
theorem dL_refuses_32 : decode cL_refuses 32 = .ok (.iconst 0, 1) := by decide +kernel
theorem dL_refuses_33 : decode cL_refuses 33 = .ok (.invokestatic 166, 3) := by decide +kernel
theorem dL_refuses_36 : decode cL_refuses 36 = .ok (.ldc 15, 2) := by decide +kernel
theorem dL_refuses_38 : decode cL_refuses 38 = .ok (.if_icmp .ne 151, 3) := by decide +kernel
theorem dL_refuses_41 : decode cL_refuses 41 = .ok (.aload_n 0, 1) := by decide +kernel
theorem dL_refuses_42 : decode cL_refuses 42 = .ok (.iconst 3, 1) := by decide +kernel
theorem dL_refuses_43 : decode cL_refuses 43 = .ok (.iload_n 2, 1) := by decide +kernel
theorem dL_refuses_44 : decode cL_refuses 44 = .ok (.iconst (-1), 1) := by decide +kernel
theorem dL_refuses_45 : decode cL_refuses 45 = .ok (.iconst 0, 1) := by decide +kernel
theorem dL_refuses_46 : decode cL_refuses 46 = .ok (.invokestatic 166, 3) := by decide +kernel
theorem dL_refuses_49 : decode cL_refuses 49 = .ok (.ldc 15, 2) := by decide +kernel
theorem dL_refuses_51 : decode cL_refuses 51 = .ok (.if_icmp .ne 138, 3) := by decide +kernel
theorem dL_refuses_54 : decode cL_refuses 54 = .ok (.aload_n 0, 1) := by decide +kernel
theorem dL_refuses_55 : decode cL_refuses 55 = .ok (.iload_n 2, 1) := by decide +kernel
theorem dL_refuses_56 : decode cL_refuses 56 = .ok (.iload_n 1, 1) := by decide +kernel
theorem dL_refuses_57 : decode cL_refuses 57 = .ok (.bipush 9, 2) := by decide +kernel
theorem dL_refuses_59 : decode cL_refuses 59 = .ok (.irem, 1) := by decide +kernel
theorem dL_refuses_60 : decode cL_refuses 60 = .ok (.iadd, 1) := by decide +kernel
theorem dL_refuses_61 : decode cL_refuses 61 = .ok (.bipush 9, 2) := by decide +kernel
theorem dL_refuses_63 : decode cL_refuses 63 = .ok (.iconst 1, 1) := by decide +kernel
theorem dL_refuses_64 : decode cL_refuses 64 = .ok (.invokestatic 170, 3) := by decide +kernel
theorem dL_refuses_67 : decode cL_refuses 67 = .ok (.ldc 15, 2) := by decide +kernel
theorem dL_refuses_69 : decode cL_refuses 69 = .ok (.if_icmp .ne 120, 3) := by decide +kernel
theorem dL_refuses_72 : decode cL_refuses 72 = .ok (.aload_n 0, 1) := by decide +kernel
theorem dL_refuses_73 : decode cL_refuses 73 = .ok (.iconst 5, 1) := by decide +kernel
theorem dL_refuses_74 : decode cL_refuses 74 = .ok (.iconst 0, 1) := by decide +kernel
theorem dL_refuses_75 : decode cL_refuses 75 = .ok (.iload_n 2, 1) := by decide +kernel
theorem dL_refuses_76 : decode cL_refuses 76 = .ok (.iconst 0, 1) := by decide +kernel
theorem dL_refuses_77 : decode cL_refuses 77 = .ok (.invokestatic 166, 3) := by decide +kernel
theorem dL_refuses_80 : decode cL_refuses 80 = .ok (.ldc 15, 2) := by decide +kernel
theorem dL_refuses_82 : decode cL_refuses 82 = .ok (.if_icmp .ne 107, 3) := by decide +kernel
theorem dL_refuses_85 : decode cL_refuses 85 = .ok (.aload_n 0, 1) := by decide +kernel
theorem dL_refuses_86 : decode cL_refuses 86 = .ok (.bipush 6, 2) := by decide +kernel
theorem dL_refuses_88 : decode cL_refuses 88 = .ok (.iconst (-1), 1) := by decide +kernel
theorem dL_refuses_89 : decode cL_refuses 89 = .ok (.iconst 0, 1) := by decide +kernel
theorem dL_refuses_90 : decode cL_refuses 90 = .ok (.iconst 0, 1) := by decide +kernel
theorem dL_refuses_91 : decode cL_refuses 91 = .ok (.invokestatic 166, 3) := by decide +kernel
theorem dL_refuses_94 : decode cL_refuses 94 = .ok (.ldc 15, 2) := by decide +kernel
theorem dL_refuses_96 : decode cL_refuses 96 = .ok (.if_icmp .ne 93, 3) := by decide +kernel
theorem dL_refuses_99 : decode cL_refuses 99 = .ok (.aload_n 0, 1) := by decide +kernel
theorem dL_refuses_100 : decode cL_refuses 100 = .ok (.iload_n 2, 1) := by decide +kernel
theorem dL_refuses_101 : decode cL_refuses 101 = .ok (.bipush 9, 2) := by decide +kernel
theorem dL_refuses_103 : decode cL_refuses 103 = .ok (.iconst (-1), 1) := by decide +kernel
theorem dL_refuses_104 : decode cL_refuses 104 = .ok (.iload_n 1, 1) := by decide +kernel
theorem dL_refuses_105 : decode cL_refuses 105 = .ok (.iconst 2, 1) := by decide +kernel
theorem dL_refuses_106 : decode cL_refuses 106 = .ok (.irem, 1) := by decide +kernel
theorem dL_refuses_107 : decode cL_refuses 107 = .ok (.ifCond .ne 7, 3) := by decide +kernel
theorem dL_refuses_110 : decode cL_refuses 110 = .ok (.iconst 1, 1) := by decide +kernel
theorem dL_refuses_111 : decode cL_refuses 111 = .ok (.goto 4, 3) := by decide +kernel
theorem dL_refuses_114 : decode cL_refuses 114 = .ok (.iconst 0, 1) := by decide +kernel
theorem dL_refuses_115 : decode cL_refuses 115 = .ok (.invokestatic 174, 3) := by decide +kernel
theorem dL_refuses_118 : decode cL_refuses 118 = .ok (.ldc 15, 2) := by decide +kernel
theorem dL_refuses_120 : decode cL_refuses 120 = .ok (.if_icmp .ne 69, 3) := by decide +kernel
theorem dL_refuses_123 : decode cL_refuses 123 = .ok (.aload_n 0, 1) := by decide +kernel
theorem dL_refuses_124 : decode cL_refuses 124 = .ok (.bipush 8, 2) := by decide +kernel
theorem dL_refuses_126 : decode cL_refuses 126 = .ok (.iconst (-1), 1) := by decide +kernel
theorem dL_refuses_127 : decode cL_refuses 127 = .ok (.iload_n 1, 1) := by decide +kernel
theorem dL_refuses_128 : decode cL_refuses 128 = .ok (.bipush 9, 2) := by decide +kernel
theorem dL_refuses_130 : decode cL_refuses 130 = .ok (.irem, 1) := by decide +kernel
theorem dL_refuses_131 : decode cL_refuses 131 = .ok (.isub, 1) := by decide +kernel
theorem dL_refuses_132 : decode cL_refuses 132 = .ok (.bipush 9, 2) := by decide +kernel
theorem dL_refuses_134 : decode cL_refuses 134 = .ok (.iconst 0, 1) := by decide +kernel
theorem dL_refuses_135 : decode cL_refuses 135 = .ok (.invokestatic 166, 3) := by decide +kernel
theorem dL_refuses_138 : decode cL_refuses 138 = .ok (.ldc 15, 2) := by decide +kernel
theorem dL_refuses_140 : decode cL_refuses 140 = .ok (.if_icmp .ne 49, 3) := by decide +kernel
theorem dL_refuses_143 : decode cL_refuses 143 = .ok (.aload_n 0, 1) := by decide +kernel
theorem dL_refuses_144 : decode cL_refuses 144 = .ok (.bipush 10, 2) := by decide +kernel
theorem dL_refuses_146 : decode cL_refuses 146 = .ok (.bipush 6, 2) := by decide +kernel
theorem dL_refuses_148 : decode cL_refuses 148 = .ok (.iload_n 1, 1) := by decide +kernel
theorem dL_refuses_149 : decode cL_refuses 149 = .ok (.bipush 9, 2) := by decide +kernel
theorem dL_refuses_151 : decode cL_refuses 151 = .ok (.irem, 1) := by decide +kernel
theorem dL_refuses_152 : decode cL_refuses 152 = .ok (.iadd, 1) := by decide +kernel
theorem dL_refuses_153 : decode cL_refuses 153 = .ok (.iconst 0, 1) := by decide +kernel
theorem dL_refuses_154 : decode cL_refuses 154 = .ok (.iconst 0, 1) := by decide +kernel
theorem dL_refuses_155 : decode cL_refuses 155 = .ok (.invokestatic 166, 3) := by decide +kernel
theorem dL_refuses_158 : decode cL_refuses 158 = .ok (.ldc 18, 2) := by decide +kernel
theorem dL_refuses_160 : decode cL_refuses 160 = .ok (.if_icmp .ne 29, 3) := by decide +kernel
theorem dL_refuses_163 : decode cL_refuses 163 = .ok (.aload_n 0, 1) := by decide +kernel
theorem dL_refuses_164 : decode cL_refuses 164 = .ok (.bipush 11, 2) := by decide +kernel
theorem dL_refuses_166 : decode cL_refuses 166 = .ok (.iload_n 1, 1) := by decide +kernel
theorem dL_refuses_167 : decode cL_refuses 167 = .ok (.bipush 6, 2) := by decide +kernel
theorem dL_refuses_169 : decode cL_refuses 169 = .ok (.irem, 1) := by decide +kernel
theorem dL_refuses_170 : decode cL_refuses 170 = .ok (.iconst 3, 1) := by decide +kernel
theorem dL_refuses_171 : decode cL_refuses 171 = .ok (.iload_n 1, 1) := by decide +kernel
theorem dL_refuses_172 : decode cL_refuses 172 = .ok (.bipush 9, 2) := by decide +kernel
theorem dL_refuses_174 : decode cL_refuses 174 = .ok (.irem, 1) := by decide +kernel
theorem dL_refuses_175 : decode cL_refuses 175 = .ok (.iadd, 1) := by decide +kernel
theorem dL_refuses_176 : decode cL_refuses 176 = .ok (.iconst 0, 1) := by decide +kernel
theorem dL_refuses_177 : decode cL_refuses 177 = .ok (.invokestatic 166, 3) := by decide +kernel
theorem dL_refuses_180 : decode cL_refuses 180 = .ok (.ldc 18, 2) := by decide +kernel
theorem dL_refuses_182 : decode cL_refuses 182 = .ok (.if_icmp .ne 7, 3) := by decide +kernel
theorem dL_refuses_185 : decode cL_refuses 185 = .ok (.iconst 1, 1) := by decide +kernel
theorem dL_refuses_186 : decode cL_refuses 186 = .ok (.goto 4, 3) := by decide +kernel
theorem dL_refuses_189 : decode cL_refuses 189 = .ok (.iconst 0, 1) := by decide +kernel
theorem dL_refuses_190 : decode cL_refuses 190 = .ok (.istore_n 3, 1) := by decide +kernel
theorem dL_refuses_191 : decode cL_refuses 191 = .ok (.iload_n 3, 1) := by decide +kernel
theorem dL_refuses_192 : decode cL_refuses 192 = .ok (.ifCond .eq 184, 3) := by decide +kernel
theorem dL_refuses_195 : decode cL_refuses 195 = .ok (.aload_n 0, 1) := by decide +kernel
theorem dL_refuses_196 : decode cL_refuses 196 = .ok (.bipush 12, 2) := by decide +kernel
theorem dL_refuses_198 : decode cL_refuses 198 = .ok (.iconst (-1), 1) := by decide +kernel
theorem dL_refuses_199 : decode cL_refuses 199 = .ok (.iload_n 1, 1) := by decide +kernel
theorem dL_refuses_200 : decode cL_refuses 200 = .ok (.bipush 9, 2) := by decide +kernel
theorem dL_refuses_202 : decode cL_refuses 202 = .ok (.irem, 1) := by decide +kernel
theorem dL_refuses_203 : decode cL_refuses 203 = .ok (.isub, 1) := by decide +kernel
theorem dL_refuses_204 : decode cL_refuses 204 = .ok (.iconst 0, 1) := by decide +kernel
theorem dL_refuses_205 : decode cL_refuses 205 = .ok (.iconst 0, 1) := by decide +kernel
theorem dL_refuses_206 : decode cL_refuses 206 = .ok (.invokestatic 166, 3) := by decide +kernel
theorem dL_refuses_209 : decode cL_refuses 209 = .ok (.ldc 18, 2) := by decide +kernel
theorem dL_refuses_211 : decode cL_refuses 211 = .ok (.if_icmp .ne 165, 3) := by decide +kernel
theorem dL_refuses_214 : decode cL_refuses 214 = .ok (.aload_n 0, 1) := by decide +kernel
theorem dL_refuses_215 : decode cL_refuses 215 = .ok (.bipush 13, 2) := by decide +kernel
theorem dL_refuses_217 : decode cL_refuses 217 = .ok (.iload_n 2, 1) := by decide +kernel
theorem dL_refuses_218 : decode cL_refuses 218 = .ok (.bipush 9, 2) := by decide +kernel
theorem dL_refuses_220 : decode cL_refuses 220 = .ok (.iconst 0, 1) := by decide +kernel
theorem dL_refuses_221 : decode cL_refuses 221 = .ok (.invokestatic 166, 3) := by decide +kernel
theorem dL_refuses_224 : decode cL_refuses 224 = .ok (.ldc 15, 2) := by decide +kernel
theorem dL_refuses_226 : decode cL_refuses 226 = .ok (.if_icmp .ne 150, 3) := by decide +kernel
theorem dL_refuses_229 : decode cL_refuses 229 = .ok (.aload_n 0, 1) := by decide +kernel
theorem dL_refuses_230 : decode cL_refuses 230 = .ok (.bipush 14, 2) := by decide +kernel
theorem dL_refuses_232 : decode cL_refuses 232 = .ok (.iload_n 1, 1) := by decide +kernel
theorem dL_refuses_233 : decode cL_refuses 233 = .ok (.bipush 6, 2) := by decide +kernel
theorem dL_refuses_235 : decode cL_refuses 235 = .ok (.irem, 1) := by decide +kernel
theorem dL_refuses_236 : decode cL_refuses 236 = .ok (.iconst (-1), 1) := by decide +kernel
theorem dL_refuses_237 : decode cL_refuses 237 = .ok (.iconst 0, 1) := by decide +kernel
theorem dL_refuses_238 : decode cL_refuses 238 = .ok (.invokestatic 166, 3) := by decide +kernel
theorem dL_refuses_241 : decode cL_refuses 241 = .ok (.ldc 18, 2) := by decide +kernel
theorem dL_refuses_243 : decode cL_refuses 243 = .ok (.if_icmp .ne 133, 3) := by decide +kernel
theorem dL_refuses_246 : decode cL_refuses 246 = .ok (.aload_n 0, 1) := by decide +kernel
theorem dL_refuses_247 : decode cL_refuses 247 = .ok (.bipush 14, 2) := by decide +kernel
theorem dL_refuses_249 : decode cL_refuses 249 = .ok (.bipush 6, 2) := by decide +kernel
theorem dL_refuses_251 : decode cL_refuses 251 = .ok (.iconst 0, 1) := by decide +kernel
theorem dL_refuses_252 : decode cL_refuses 252 = .ok (.iconst 0, 1) := by decide +kernel
theorem dL_refuses_253 : decode cL_refuses 253 = .ok (.invokestatic 166, 3) := by decide +kernel
theorem dL_refuses_256 : decode cL_refuses 256 = .ok (.ldc 18, 2) := by decide +kernel
theorem dL_refuses_258 : decode cL_refuses 258 = .ok (.if_icmp .ne 118, 3) := by decide +kernel
theorem dL_refuses_261 : decode cL_refuses 261 = .ok (.aload_n 0, 1) := by decide +kernel
theorem dL_refuses_262 : decode cL_refuses 262 = .ok (.bipush 15, 2) := by decide +kernel
theorem dL_refuses_264 : decode cL_refuses 264 = .ok (.iload_n 2, 1) := by decide +kernel
theorem dL_refuses_265 : decode cL_refuses 265 = .ok (.iconst 0, 1) := by decide +kernel
theorem dL_refuses_266 : decode cL_refuses 266 = .ok (.bipush 9, 2) := by decide +kernel
theorem dL_refuses_268 : decode cL_refuses 268 = .ok (.invokestatic 166, 3) := by decide +kernel
theorem dL_refuses_271 : decode cL_refuses 271 = .ok (.ldc 15, 2) := by decide +kernel
theorem dL_refuses_273 : decode cL_refuses 273 = .ok (.if_icmp .ne 103, 3) := by decide +kernel
theorem dL_refuses_276 : decode cL_refuses 276 = .ok (.aload_n 0, 1) := by decide +kernel
theorem dL_refuses_277 : decode cL_refuses 277 = .ok (.bipush 16, 2) := by decide +kernel
theorem dL_refuses_279 : decode cL_refuses 279 = .ok (.iload_n 2, 1) := by decide +kernel
theorem dL_refuses_280 : decode cL_refuses 280 = .ok (.iload_n 2, 1) := by decide +kernel
theorem dL_refuses_281 : decode cL_refuses 281 = .ok (.iconst 0, 1) := by decide +kernel
theorem dL_refuses_282 : decode cL_refuses 282 = .ok (.invokestatic 166, 3) := by decide +kernel
theorem dL_refuses_285 : decode cL_refuses 285 = .ok (.ldc 15, 2) := by decide +kernel
theorem dL_refuses_287 : decode cL_refuses 287 = .ok (.if_icmp .ne 89, 3) := by decide +kernel
theorem dL_refuses_290 : decode cL_refuses 290 = .ok (.aload_n 0, 1) := by decide +kernel
theorem dL_refuses_291 : decode cL_refuses 291 = .ok (.bipush 17, 2) := by decide +kernel
theorem dL_refuses_293 : decode cL_refuses 293 = .ok (.bipush 100, 2) := by decide +kernel
theorem dL_refuses_295 : decode cL_refuses 295 = .ok (.iload_n 1, 1) := by decide +kernel
theorem dL_refuses_296 : decode cL_refuses 296 = .ok (.bipush 9, 2) := by decide +kernel
theorem dL_refuses_298 : decode cL_refuses 298 = .ok (.irem, 1) := by decide +kernel
theorem dL_refuses_299 : decode cL_refuses 299 = .ok (.iadd, 1) := by decide +kernel
theorem dL_refuses_300 : decode cL_refuses 300 = .ok (.iconst 0, 1) := by decide +kernel
theorem dL_refuses_301 : decode cL_refuses 301 = .ok (.iconst 0, 1) := by decide +kernel
theorem dL_refuses_302 : decode cL_refuses 302 = .ok (.invokestatic 166, 3) := by decide +kernel
theorem dL_refuses_305 : decode cL_refuses 305 = .ok (.ldc 18, 2) := by decide +kernel
theorem dL_refuses_307 : decode cL_refuses 307 = .ok (.if_icmp .ne 69, 3) := by decide +kernel
theorem dL_refuses_310 : decode cL_refuses 310 = .ok (.aload_n 0, 1) := by decide +kernel
theorem dL_refuses_311 : decode cL_refuses 311 = .ok (.bipush 17, 2) := by decide +kernel
theorem dL_refuses_313 : decode cL_refuses 313 = .ok (.iconst 0, 1) := by decide +kernel
theorem dL_refuses_314 : decode cL_refuses 314 = .ok (.iconst 0, 1) := by decide +kernel
theorem dL_refuses_315 : decode cL_refuses 315 = .ok (.iconst 0, 1) := by decide +kernel
theorem dL_refuses_316 : decode cL_refuses 316 = .ok (.invokestatic 166, 3) := by decide +kernel
theorem dL_refuses_319 : decode cL_refuses 319 = .ok (.ldc 18, 2) := by decide +kernel
theorem dL_refuses_321 : decode cL_refuses 321 = .ok (.if_icmp .ne 55, 3) := by decide +kernel
theorem dL_refuses_324 : decode cL_refuses 324 = .ok (.aload_n 0, 1) := by decide +kernel
theorem dL_refuses_325 : decode cL_refuses 325 = .ok (.bipush 18, 2) := by decide +kernel
theorem dL_refuses_327 : decode cL_refuses 327 = .ok (.iconst 2, 1) := by decide +kernel
theorem dL_refuses_328 : decode cL_refuses 328 = .ok (.iconst 0, 1) := by decide +kernel
theorem dL_refuses_329 : decode cL_refuses 329 = .ok (.iconst 0, 1) := by decide +kernel
theorem dL_refuses_330 : decode cL_refuses 330 = .ok (.invokestatic 166, 3) := by decide +kernel
theorem dL_refuses_333 : decode cL_refuses 333 = .ok (.ldc 15, 2) := by decide +kernel
theorem dL_refuses_335 : decode cL_refuses 335 = .ok (.if_icmp .ne 41, 3) := by decide +kernel
theorem dL_refuses_338 : decode cL_refuses 338 = .ok (.aload_n 0, 1) := by decide +kernel
theorem dL_refuses_339 : decode cL_refuses 339 = .ok (.bipush 19, 2) := by decide +kernel
theorem dL_refuses_341 : decode cL_refuses 341 = .ok (.iconst (-1), 1) := by decide +kernel
theorem dL_refuses_342 : decode cL_refuses 342 = .ok (.iconst 0, 1) := by decide +kernel
theorem dL_refuses_343 : decode cL_refuses 343 = .ok (.iconst 0, 1) := by decide +kernel
theorem dL_refuses_344 : decode cL_refuses 344 = .ok (.invokestatic 166, 3) := by decide +kernel
theorem dL_refuses_347 : decode cL_refuses 347 = .ok (.ldc 15, 2) := by decide +kernel
theorem dL_refuses_349 : decode cL_refuses 349 = .ok (.if_icmp .ne 27, 3) := by decide +kernel
theorem dL_refuses_352 : decode cL_refuses 352 = .ok (.aload_n 0, 1) := by decide +kernel
theorem dL_refuses_353 : decode cL_refuses 353 = .ok (.iconst 0, 1) := by decide +kernel
theorem dL_refuses_354 : decode cL_refuses 354 = .ok (.sipush 256, 3) := by decide +kernel
theorem dL_refuses_357 : decode cL_refuses 357 = .ok (.iload_n 1, 1) := by decide +kernel
theorem dL_refuses_358 : decode cL_refuses 358 = .ok (.bipush 9, 2) := by decide +kernel
theorem dL_refuses_360 : decode cL_refuses 360 = .ok (.irem, 1) := by decide +kernel
theorem dL_refuses_361 : decode cL_refuses 361 = .ok (.iadd, 1) := by decide +kernel
theorem dL_refuses_362 : decode cL_refuses 362 = .ok (.iconst 0, 1) := by decide +kernel
theorem dL_refuses_363 : decode cL_refuses 363 = .ok (.iconst 0, 1) := by decide +kernel
theorem dL_refuses_364 : decode cL_refuses 364 = .ok (.invokestatic 166, 3) := by decide +kernel
theorem dL_refuses_367 : decode cL_refuses 367 = .ok (.ldc 18, 2) := by decide +kernel
theorem dL_refuses_369 : decode cL_refuses 369 = .ok (.if_icmp .ne 7, 3) := by decide +kernel
theorem dL_refuses_372 : decode cL_refuses 372 = .ok (.iconst 1, 1) := by decide +kernel
theorem dL_refuses_373 : decode cL_refuses 373 = .ok (.goto 4, 3) := by decide +kernel
theorem dL_refuses_376 : decode cL_refuses 376 = .ok (.iconst 0, 1) := by decide +kernel
theorem dL_refuses_377 : decode cL_refuses 377 = .ok (.istore_n 3, 1) := by decide +kernel
theorem dL_refuses_378 : decode cL_refuses 378 = .ok (.iload_n 2, 1) := by decide +kernel
theorem dL_refuses_379 : decode cL_refuses 379 = .ok (.ifCond .le 221, 3) := by decide +kernel
theorem dL_refuses_382 : decode cL_refuses 382 = .ok (.iload_n 1, 1) := by decide +kernel
theorem dL_refuses_383 : decode cL_refuses 383 = .ok (.iload_n 2, 1) := by decide +kernel
theorem dL_refuses_384 : decode cL_refuses 384 = .ok (.irem, 1) := by decide +kernel
theorem dL_refuses_385 : decode cL_refuses 385 = .ok (.istore 4, 2) := by decide +kernel
theorem dL_refuses_387 : decode cL_refuses 387 = .ok (.iload_n 3, 1) := by decide +kernel
theorem dL_refuses_388 : decode cL_refuses 388 = .ok (.ifCond .eq 210, 3) := by decide +kernel
theorem dL_refuses_391 : decode cL_refuses 391 = .ok (.aload_n 0, 1) := by decide +kernel
theorem dL_refuses_392 : decode cL_refuses 392 = .ok (.iconst 3, 1) := by decide +kernel
theorem dL_refuses_393 : decode cL_refuses 393 = .ok (.iload 4, 2) := by decide +kernel
theorem dL_refuses_395 : decode cL_refuses 395 = .ok (.iconst (-1), 1) := by decide +kernel
theorem dL_refuses_396 : decode cL_refuses 396 = .ok (.iload_n 1, 1) := by decide +kernel
theorem dL_refuses_397 : decode cL_refuses 397 = .ok (.bipush 9, 2) := by decide +kernel
theorem dL_refuses_399 : decode cL_refuses 399 = .ok (.irem, 1) := by decide +kernel
theorem dL_refuses_400 : decode cL_refuses 400 = .ok (.isub, 1) := by decide +kernel
theorem dL_refuses_401 : decode cL_refuses 401 = .ok (.iconst 0, 1) := by decide +kernel
theorem dL_refuses_402 : decode cL_refuses 402 = .ok (.invokestatic 166, 3) := by decide +kernel
theorem dL_refuses_405 : decode cL_refuses 405 = .ok (.ldc 18, 2) := by decide +kernel
theorem dL_refuses_407 : decode cL_refuses 407 = .ok (.if_icmp .ne 191, 3) := by decide +kernel
theorem dL_refuses_410 : decode cL_refuses 410 = .ok (.aload_n 0, 1) := by decide +kernel
theorem dL_refuses_411 : decode cL_refuses 411 = .ok (.iload 4, 2) := by decide +kernel
theorem dL_refuses_413 : decode cL_refuses 413 = .ok (.bipush 6, 2) := by decide +kernel
theorem dL_refuses_415 : decode cL_refuses 415 = .ok (.iload_n 1, 1) := by decide +kernel
theorem dL_refuses_416 : decode cL_refuses 416 = .ok (.bipush 9, 2) := by decide +kernel
theorem dL_refuses_418 : decode cL_refuses 418 = .ok (.irem, 1) := by decide +kernel
theorem dL_refuses_419 : decode cL_refuses 419 = .ok (.iadd, 1) := by decide +kernel
theorem dL_refuses_420 : decode cL_refuses 420 = .ok (.iconst 0, 1) := by decide +kernel
theorem dL_refuses_421 : decode cL_refuses 421 = .ok (.invokestatic 170, 3) := by decide +kernel
theorem dL_refuses_424 : decode cL_refuses 424 = .ok (.ldc 18, 2) := by decide +kernel
theorem dL_refuses_426 : decode cL_refuses 426 = .ok (.if_icmp .ne 172, 3) := by decide +kernel
theorem dL_refuses_429 : decode cL_refuses 429 = .ok (.aload_n 0, 1) := by decide +kernel
theorem dL_refuses_430 : decode cL_refuses 430 = .ok (.iconst 5, 1) := by decide +kernel
theorem dL_refuses_431 : decode cL_refuses 431 = .ok (.iload 4, 2) := by decide +kernel
theorem dL_refuses_433 : decode cL_refuses 433 = .ok (.iload 4, 2) := by decide +kernel
theorem dL_refuses_435 : decode cL_refuses 435 = .ok (.iconst 5, 1) := by decide +kernel
theorem dL_refuses_436 : decode cL_refuses 436 = .ok (.invokestatic 166, 3) := by decide +kernel
theorem dL_refuses_439 : decode cL_refuses 439 = .ok (.ldc 18, 2) := by decide +kernel
theorem dL_refuses_441 : decode cL_refuses 441 = .ok (.if_icmp .ne 157, 3) := by decide +kernel
theorem dL_refuses_444 : decode cL_refuses 444 = .ok (.aload_n 0, 1) := by decide +kernel
theorem dL_refuses_445 : decode cL_refuses 445 = .ok (.iconst 5, 1) := by decide +kernel
theorem dL_refuses_446 : decode cL_refuses 446 = .ok (.iload 4, 2) := by decide +kernel
theorem dL_refuses_448 : decode cL_refuses 448 = .ok (.iload 4, 2) := by decide +kernel
theorem dL_refuses_450 : decode cL_refuses 450 = .ok (.iconst 1, 1) := by decide +kernel
theorem dL_refuses_451 : decode cL_refuses 451 = .ok (.iadd, 1) := by decide +kernel
theorem dL_refuses_452 : decode cL_refuses 452 = .ok (.iload_n 2, 1) := by decide +kernel
theorem dL_refuses_453 : decode cL_refuses 453 = .ok (.irem, 1) := by decide +kernel
theorem dL_refuses_454 : decode cL_refuses 454 = .ok (.bipush 100, 2) := by decide +kernel
theorem dL_refuses_456 : decode cL_refuses 456 = .ok (.iload_n 1, 1) := by decide +kernel
theorem dL_refuses_457 : decode cL_refuses 457 = .ok (.bipush 9, 2) := by decide +kernel
theorem dL_refuses_459 : decode cL_refuses 459 = .ok (.irem, 1) := by decide +kernel
theorem dL_refuses_460 : decode cL_refuses 460 = .ok (.iadd, 1) := by decide +kernel
theorem dL_refuses_461 : decode cL_refuses 461 = .ok (.invokestatic 166, 3) := by decide +kernel
theorem dL_refuses_464 : decode cL_refuses 464 = .ok (.ldc 18, 2) := by decide +kernel
theorem dL_refuses_466 : decode cL_refuses 466 = .ok (.if_icmp .ne 132, 3) := by decide +kernel
theorem dL_refuses_469 : decode cL_refuses 469 = .ok (.aload_n 0, 1) := by decide +kernel
theorem dL_refuses_470 : decode cL_refuses 470 = .ok (.bipush 6, 2) := by decide +kernel
theorem dL_refuses_472 : decode cL_refuses 472 = .ok (.iload 4, 2) := by decide +kernel
theorem dL_refuses_474 : decode cL_refuses 474 = .ok (.iload 4, 2) := by decide +kernel
theorem dL_refuses_476 : decode cL_refuses 476 = .ok (.iconst 0, 1) := by decide +kernel
theorem dL_refuses_477 : decode cL_refuses 477 = .ok (.invokestatic 166, 3) := by decide +kernel
theorem dL_refuses_480 : decode cL_refuses 480 = .ok (.ldc 37, 2) := by decide +kernel
theorem dL_refuses_482 : decode cL_refuses 482 = .ok (.if_icmp .ne 116, 3) := by decide +kernel
theorem dL_refuses_485 : decode cL_refuses 485 = .ok (.aload_n 0, 1) := by decide +kernel
theorem dL_refuses_486 : decode cL_refuses 486 = .ok (.iload 4, 2) := by decide +kernel
theorem dL_refuses_488 : decode cL_refuses 488 = .ok (.iload_n 1, 1) := by decide +kernel
theorem dL_refuses_489 : decode cL_refuses 489 = .ok (.bipush 6, 2) := by decide +kernel
theorem dL_refuses_491 : decode cL_refuses 491 = .ok (.irem, 1) := by decide +kernel
theorem dL_refuses_492 : decode cL_refuses 492 = .ok (.sipush 1000, 3) := by decide +kernel
theorem dL_refuses_495 : decode cL_refuses 495 = .ok (.iload_n 1, 1) := by decide +kernel
theorem dL_refuses_496 : decode cL_refuses 496 = .ok (.bipush 9, 2) := by decide +kernel
theorem dL_refuses_498 : decode cL_refuses 498 = .ok (.irem, 1) := by decide +kernel
theorem dL_refuses_499 : decode cL_refuses 499 = .ok (.iadd, 1) := by decide +kernel
theorem dL_refuses_500 : decode cL_refuses 500 = .ok (.iconst 1, 1) := by decide +kernel
theorem dL_refuses_501 : decode cL_refuses 501 = .ok (.invokestatic 174, 3) := by decide +kernel
theorem dL_refuses_504 : decode cL_refuses 504 = .ok (.ldc 18, 2) := by decide +kernel
theorem dL_refuses_506 : decode cL_refuses 506 = .ok (.if_icmp .ne 92, 3) := by decide +kernel
theorem dL_refuses_509 : decode cL_refuses 509 = .ok (.aload_n 0, 1) := by decide +kernel
theorem dL_refuses_510 : decode cL_refuses 510 = .ok (.iload 4, 2) := by decide +kernel
theorem dL_refuses_512 : decode cL_refuses 512 = .ok (.bipush 6, 2) := by decide +kernel
theorem dL_refuses_514 : decode cL_refuses 514 = .ok (.iconst 5, 1) := by decide +kernel
theorem dL_refuses_515 : decode cL_refuses 515 = .ok (.iconst 1, 1) := by decide +kernel
theorem dL_refuses_516 : decode cL_refuses 516 = .ok (.invokestatic 174, 3) := by decide +kernel
theorem dL_refuses_519 : decode cL_refuses 519 = .ok (.ldc 18, 2) := by decide +kernel
theorem dL_refuses_521 : decode cL_refuses 521 = .ok (.if_icmp .ne 77, 3) := by decide +kernel
theorem dL_refuses_524 : decode cL_refuses 524 = .ok (.aload_n 0, 1) := by decide +kernel
theorem dL_refuses_525 : decode cL_refuses 525 = .ok (.bipush 8, 2) := by decide +kernel
theorem dL_refuses_527 : decode cL_refuses 527 = .ok (.iload 4, 2) := by decide +kernel
theorem dL_refuses_529 : decode cL_refuses 529 = .ok (.bipush 6, 2) := by decide +kernel
theorem dL_refuses_531 : decode cL_refuses 531 = .ok (.iconst 0, 1) := by decide +kernel
theorem dL_refuses_532 : decode cL_refuses 532 = .ok (.invokestatic 166, 3) := by decide +kernel
theorem dL_refuses_535 : decode cL_refuses 535 = .ok (.ldc 18, 2) := by decide +kernel
theorem dL_refuses_537 : decode cL_refuses 537 = .ok (.if_icmp .ne 61, 3) := by decide +kernel
theorem dL_refuses_540 : decode cL_refuses 540 = .ok (.aload_n 0, 1) := by decide +kernel
theorem dL_refuses_541 : decode cL_refuses 541 = .ok (.bipush 13, 2) := by decide +kernel
theorem dL_refuses_543 : decode cL_refuses 543 = .ok (.iload 4, 2) := by decide +kernel
theorem dL_refuses_545 : decode cL_refuses 545 = .ok (.bipush 6, 2) := by decide +kernel
theorem dL_refuses_547 : decode cL_refuses 547 = .ok (.iconst 0, 1) := by decide +kernel
theorem dL_refuses_548 : decode cL_refuses 548 = .ok (.invokestatic 166, 3) := by decide +kernel
theorem dL_refuses_551 : decode cL_refuses 551 = .ok (.ldc 18, 2) := by decide +kernel
theorem dL_refuses_553 : decode cL_refuses 553 = .ok (.if_icmp .ne 45, 3) := by decide +kernel
theorem dL_refuses_556 : decode cL_refuses 556 = .ok (.aload_n 0, 1) := by decide +kernel
theorem dL_refuses_557 : decode cL_refuses 557 = .ok (.bipush 15, 2) := by decide +kernel
theorem dL_refuses_559 : decode cL_refuses 559 = .ok (.iload 4, 2) := by decide +kernel
theorem dL_refuses_561 : decode cL_refuses 561 = .ok (.iload 4, 2) := by decide +kernel
theorem dL_refuses_563 : decode cL_refuses 563 = .ok (.bipush 6, 2) := by decide +kernel
theorem dL_refuses_565 : decode cL_refuses 565 = .ok (.iload_n 1, 1) := by decide +kernel
theorem dL_refuses_566 : decode cL_refuses 566 = .ok (.bipush 9, 2) := by decide +kernel
theorem dL_refuses_568 : decode cL_refuses 568 = .ok (.irem, 1) := by decide +kernel
theorem dL_refuses_569 : decode cL_refuses 569 = .ok (.iadd, 1) := by decide +kernel
theorem dL_refuses_570 : decode cL_refuses 570 = .ok (.invokestatic 166, 3) := by decide +kernel
theorem dL_refuses_573 : decode cL_refuses 573 = .ok (.ldc 18, 2) := by decide +kernel
theorem dL_refuses_575 : decode cL_refuses 575 = .ok (.if_icmp .ne 23, 3) := by decide +kernel
theorem dL_refuses_578 : decode cL_refuses 578 = .ok (.aload_n 0, 1) := by decide +kernel
theorem dL_refuses_579 : decode cL_refuses 579 = .ok (.bipush 16, 2) := by decide +kernel
theorem dL_refuses_581 : decode cL_refuses 581 = .ok (.iload 4, 2) := by decide +kernel
theorem dL_refuses_583 : decode cL_refuses 583 = .ok (.iload 4, 2) := by decide +kernel
theorem dL_refuses_585 : decode cL_refuses 585 = .ok (.iconst 5, 1) := by decide +kernel
theorem dL_refuses_586 : decode cL_refuses 586 = .ok (.invokestatic 166, 3) := by decide +kernel
theorem dL_refuses_589 : decode cL_refuses 589 = .ok (.ldc 18, 2) := by decide +kernel
theorem dL_refuses_591 : decode cL_refuses 591 = .ok (.if_icmp .ne 7, 3) := by decide +kernel
theorem dL_refuses_594 : decode cL_refuses 594 = .ok (.iconst 1, 1) := by decide +kernel
theorem dL_refuses_595 : decode cL_refuses 595 = .ok (.goto 4, 3) := by decide +kernel
theorem dL_refuses_598 : decode cL_refuses 598 = .ok (.iconst 0, 1) := by decide +kernel
theorem dL_refuses_599 : decode cL_refuses 599 = .ok (.istore_n 3, 1) := by decide +kernel
theorem dL_refuses_600 : decode cL_refuses 600 = .ok (.iload_n 3, 1) := by decide +kernel
theorem dL_refuses_601 : decode cL_refuses 601 = .ok (.ifCond .eq 85, 3) := by decide +kernel
theorem dL_refuses_604 : decode cL_refuses 604 = .ok (.aload_n 0, 1) := by decide +kernel
theorem dL_refuses_605 : decode cL_refuses 605 = .ok (.iconst 4, 1) := by decide +kernel
theorem dL_refuses_606 : decode cL_refuses 606 = .ok (.lconst 0, 1) := by decide +kernel
theorem dL_refuses_607 : decode cL_refuses 607 = .ok (.invokestatic 178, 3) := by decide +kernel
theorem dL_refuses_610 : decode cL_refuses 610 = .ok (.ldc 18, 2) := by decide +kernel
theorem dL_refuses_612 : decode cL_refuses 612 = .ok (.if_icmp .ne 74, 3) := by decide +kernel
theorem dL_refuses_615 : decode cL_refuses 615 = .ok (.aload_n 0, 1) := by decide +kernel
theorem dL_refuses_616 : decode cL_refuses 616 = .ok (.iconst 1, 1) := by decide +kernel
theorem dL_refuses_617 : decode cL_refuses 617 = .ok (.ldc2_w 182, 3) := by decide +kernel
theorem dL_refuses_620 : decode cL_refuses 620 = .ok (.iload_n 1, 1) := by decide +kernel
theorem dL_refuses_621 : decode cL_refuses 621 = .ok (.i2l, 1) := by decide +kernel
theorem dL_refuses_622 : decode cL_refuses 622 = .ok (.ladd, 1) := by decide +kernel
theorem dL_refuses_623 : decode cL_refuses 623 = .ok (.invokestatic 178, 3) := by decide +kernel
theorem dL_refuses_626 : decode cL_refuses 626 = .ok (.ldc 18, 2) := by decide +kernel
theorem dL_refuses_628 : decode cL_refuses 628 = .ok (.if_icmp .ne 58, 3) := by decide +kernel
theorem dL_refuses_631 : decode cL_refuses 631 = .ok (.aload_n 0, 1) := by decide +kernel
theorem dL_refuses_632 : decode cL_refuses 632 = .ok (.iconst 2, 1) := by decide +kernel
theorem dL_refuses_633 : decode cL_refuses 633 = .ok (.ldc2_w 184, 3) := by decide +kernel
theorem dL_refuses_636 : decode cL_refuses 636 = .ok (.iload_n 1, 1) := by decide +kernel
theorem dL_refuses_637 : decode cL_refuses 637 = .ok (.i2l, 1) := by decide +kernel
theorem dL_refuses_638 : decode cL_refuses 638 = .ok (.lsub, 1) := by decide +kernel
theorem dL_refuses_639 : decode cL_refuses 639 = .ok (.invokestatic 178, 3) := by decide +kernel
theorem dL_refuses_642 : decode cL_refuses 642 = .ok (.ldc 18, 2) := by decide +kernel
theorem dL_refuses_644 : decode cL_refuses 644 = .ok (.if_icmp .ne 42, 3) := by decide +kernel
theorem dL_refuses_647 : decode cL_refuses 647 = .ok (.aload_n 0, 1) := by decide +kernel
theorem dL_refuses_648 : decode cL_refuses 648 = .ok (.iload_n 1, 1) := by decide +kernel
theorem dL_refuses_649 : decode cL_refuses 649 = .ok (.i2l, 1) := by decide +kernel
theorem dL_refuses_650 : decode cL_refuses 650 = .ok (.bipush 100, 2) := by decide +kernel
theorem dL_refuses_652 : decode cL_refuses 652 = .ok (.invokestatic 186, 3) := by decide +kernel
theorem dL_refuses_655 : decode cL_refuses 655 = .ok (.ldc 18, 2) := by decide +kernel
theorem dL_refuses_657 : decode cL_refuses 657 = .ok (.if_icmp .ne 29, 3) := by decide +kernel
theorem dL_refuses_660 : decode cL_refuses 660 = .ok (.aload_n 0, 1) := by decide +kernel
theorem dL_refuses_661 : decode cL_refuses 661 = .ok (.invokevirtual 190, 3) := by decide +kernel
theorem dL_refuses_664 : decode cL_refuses 664 = .ok (.iconst (-1), 1) := by decide +kernel
theorem dL_refuses_665 : decode cL_refuses 665 = .ok (.if_icmp .eq 17, 3) := by decide +kernel
theorem dL_refuses_668 : decode cL_refuses 668 = .ok (.aload_n 0, 1) := by decide +kernel
theorem dL_refuses_669 : decode cL_refuses 669 = .ok (.bipush 7, 2) := by decide +kernel
theorem dL_refuses_671 : decode cL_refuses 671 = .ok (.iconst 0, 1) := by decide +kernel
theorem dL_refuses_672 : decode cL_refuses 672 = .ok (.iconst 0, 1) := by decide +kernel
theorem dL_refuses_673 : decode cL_refuses 673 = .ok (.iconst 0, 1) := by decide +kernel
theorem dL_refuses_674 : decode cL_refuses 674 = .ok (.invokestatic 166, 3) := by decide +kernel
theorem dL_refuses_677 : decode cL_refuses 677 = .ok (.ldc 37, 2) := by decide +kernel
theorem dL_refuses_679 : decode cL_refuses 679 = .ok (.if_icmp .ne 7, 3) := by decide +kernel
theorem dL_refuses_682 : decode cL_refuses 682 = .ok (.iconst 1, 1) := by decide +kernel
theorem dL_refuses_683 : decode cL_refuses 683 = .ok (.goto 4, 3) := by decide +kernel
theorem dL_refuses_686 : decode cL_refuses 686 = .ok (.iconst 0, 1) := by decide +kernel
theorem dL_refuses_687 : decode cL_refuses 687 = .ok (.ireturn, 1) := by decide +kernel
theorem dL_alike_0 : decode cL_alike 0 = .ok (.aload_n 0, 1) := by decide +kernel
theorem dL_alike_1 : decode cL_alike 1 = .ok (.invokevirtual 190, 3) := by decide +kernel
theorem dL_alike_4 : decode cL_alike 4 = .ok (.aload_n 1, 1) := by decide +kernel
theorem dL_alike_5 : decode cL_alike 5 = .ok (.invokevirtual 190, 3) := by decide +kernel
theorem dL_alike_8 : decode cL_alike 8 = .ok (.if_icmp .ne 7, 3) := by decide +kernel
theorem dL_alike_11 : decode cL_alike 11 = .ok (.iconst 1, 1) := by decide +kernel
theorem dL_alike_12 : decode cL_alike 12 = .ok (.goto 4, 3) := by decide +kernel
theorem dL_alike_15 : decode cL_alike 15 = .ok (.iconst 0, 1) := by decide +kernel
theorem dL_alike_16 : decode cL_alike 16 = .ok (.istore_n 3, 1) := by decide +kernel
theorem dL_alike_17 : decode cL_alike 17 = .ok (.iconst 0, 1) := by decide +kernel
theorem dL_alike_18 : decode cL_alike 18 = .ok (.istore 4, 2) := by decide +kernel
theorem dL_alike_20 : decode cL_alike 20 = .ok (.iload 4, 2) := by decide +kernel
theorem dL_alike_22 : decode cL_alike 22 = .ok (.bipush 6, 2) := by decide +kernel
theorem dL_alike_24 : decode cL_alike 24 = .ok (.if_icmp .ge 40, 3) := by decide +kernel
theorem dL_alike_27 : decode cL_alike 27 = .ok (.iload_n 3, 1) := by decide +kernel
theorem dL_alike_28 : decode cL_alike 28 = .ok (.ifCond .eq 36, 3) := by decide +kernel
theorem dL_alike_31 : decode cL_alike 31 = .ok (.aload_n 0, 1) := by decide +kernel
theorem dL_alike_32 : decode cL_alike 32 = .ok (.iconst 1, 1) := by decide +kernel
theorem dL_alike_33 : decode cL_alike 33 = .ok (.iload 4, 2) := by decide +kernel
theorem dL_alike_35 : decode cL_alike 35 = .ok (.iconst 0, 1) := by decide +kernel
theorem dL_alike_36 : decode cL_alike 36 = .ok (.iconst 0, 1) := by decide +kernel
theorem dL_alike_37 : decode cL_alike 37 = .ok (.invokestatic 166, 3) := by decide +kernel
theorem dL_alike_40 : decode cL_alike 40 = .ok (.aload_n 1, 1) := by decide +kernel
theorem dL_alike_41 : decode cL_alike 41 = .ok (.iconst 1, 1) := by decide +kernel
theorem dL_alike_42 : decode cL_alike 42 = .ok (.iload 4, 2) := by decide +kernel
theorem dL_alike_44 : decode cL_alike 44 = .ok (.iconst 0, 1) := by decide +kernel
theorem dL_alike_45 : decode cL_alike 45 = .ok (.iconst 0, 1) := by decide +kernel
theorem dL_alike_46 : decode cL_alike 46 = .ok (.invokestatic 166, 3) := by decide +kernel
theorem dL_alike_49 : decode cL_alike 49 = .ok (.if_icmp .ne 7, 3) := by decide +kernel
theorem dL_alike_52 : decode cL_alike 52 = .ok (.iconst 1, 1) := by decide +kernel
theorem dL_alike_53 : decode cL_alike 53 = .ok (.goto 4, 3) := by decide +kernel
theorem dL_alike_56 : decode cL_alike 56 = .ok (.iconst 0, 1) := by decide +kernel
theorem dL_alike_57 : decode cL_alike 57 = .ok (.istore_n 3, 1) := by decide +kernel
theorem dL_alike_58 : decode cL_alike 58 = .ok (.iinc 4 1, 3) := by decide +kernel
theorem dL_alike_61 : decode cL_alike 61 = .ok (.goto (-41), 3) := by decide +kernel
theorem dL_alike_64 : decode cL_alike 64 = .ok (.aload_n 0, 1) := by decide +kernel
theorem dL_alike_65 : decode cL_alike 65 = .ok (.iconst 1, 1) := by decide +kernel
theorem dL_alike_66 : decode cL_alike 66 = .ok (.iconst 0, 1) := by decide +kernel
theorem dL_alike_67 : decode cL_alike 67 = .ok (.iconst 0, 1) := by decide +kernel
theorem dL_alike_68 : decode cL_alike 68 = .ok (.iconst 0, 1) := by decide +kernel
theorem dL_alike_69 : decode cL_alike 69 = .ok (.invokestatic 166, 3) := by decide +kernel
theorem dL_alike_72 : decode cL_alike 72 = .ok (.istore 4, 2) := by decide +kernel
theorem dL_alike_74 : decode cL_alike 74 = .ok (.iconst 0, 1) := by decide +kernel
theorem dL_alike_75 : decode cL_alike 75 = .ok (.istore 5, 2) := by decide +kernel
theorem dL_alike_77 : decode cL_alike 77 = .ok (.iload 5, 2) := by decide +kernel
theorem dL_alike_79 : decode cL_alike 79 = .ok (.iload 4, 2) := by decide +kernel
theorem dL_alike_81 : decode cL_alike 81 = .ok (.if_icmp .ge 150, 3) := by decide +kernel
theorem dL_alike_84 : decode cL_alike 84 = .ok (.iload_n 3, 1) := by decide +kernel
theorem dL_alike_85 : decode cL_alike 85 = .ok (.ifCond .eq 146, 3) := by decide +kernel
theorem dL_alike_88 : decode cL_alike 88 = .ok (.aload_n 0, 1) := by decide +kernel
theorem dL_alike_89 : decode cL_alike 89 = .ok (.iconst 2, 1) := by decide +kernel
theorem dL_alike_90 : decode cL_alike 90 = .ok (.iload 5, 2) := by decide +kernel
theorem dL_alike_92 : decode cL_alike 92 = .ok (.iload_n 2, 1) := by decide +kernel
theorem dL_alike_93 : decode cL_alike 93 = .ok (.iload 4, 2) := by decide +kernel
theorem dL_alike_95 : decode cL_alike 95 = .ok (.irem, 1) := by decide +kernel
theorem dL_alike_96 : decode cL_alike 96 = .ok (.iconst 0, 1) := by decide +kernel
theorem dL_alike_97 : decode cL_alike 97 = .ok (.invokestatic 166, 3) := by decide +kernel
theorem dL_alike_100 : decode cL_alike 100 = .ok (.aload_n 1, 1) := by decide +kernel
theorem dL_alike_101 : decode cL_alike 101 = .ok (.iconst 2, 1) := by decide +kernel
theorem dL_alike_102 : decode cL_alike 102 = .ok (.iload 5, 2) := by decide +kernel
theorem dL_alike_104 : decode cL_alike 104 = .ok (.iload_n 2, 1) := by decide +kernel
theorem dL_alike_105 : decode cL_alike 105 = .ok (.iload 4, 2) := by decide +kernel
theorem dL_alike_107 : decode cL_alike 107 = .ok (.irem, 1) := by decide +kernel
theorem dL_alike_108 : decode cL_alike 108 = .ok (.iconst 0, 1) := by decide +kernel
theorem dL_alike_109 : decode cL_alike 109 = .ok (.invokestatic 166, 3) := by decide +kernel
theorem dL_alike_112 : decode cL_alike 112 = .ok (.if_icmp .ne 111, 3) := by decide +kernel
theorem dL_alike_115 : decode cL_alike 115 = .ok (.aload_n 0, 1) := by decide +kernel
theorem dL_alike_116 : decode cL_alike 116 = .ok (.iconst 3, 1) := by decide +kernel
theorem dL_alike_117 : decode cL_alike 117 = .ok (.iload 5, 2) := by decide +kernel
theorem dL_alike_119 : decode cL_alike 119 = .ok (.iload_n 2, 1) := by decide +kernel
theorem dL_alike_120 : decode cL_alike 120 = .ok (.iconst 4, 1) := by decide +kernel
theorem dL_alike_121 : decode cL_alike 121 = .ok (.irem, 1) := by decide +kernel
theorem dL_alike_122 : decode cL_alike 122 = .ok (.iconst 0, 1) := by decide +kernel
theorem dL_alike_123 : decode cL_alike 123 = .ok (.invokestatic 166, 3) := by decide +kernel
theorem dL_alike_126 : decode cL_alike 126 = .ok (.aload_n 1, 1) := by decide +kernel
theorem dL_alike_127 : decode cL_alike 127 = .ok (.iconst 3, 1) := by decide +kernel
theorem dL_alike_128 : decode cL_alike 128 = .ok (.iload 5, 2) := by decide +kernel
theorem dL_alike_130 : decode cL_alike 130 = .ok (.iload_n 2, 1) := by decide +kernel
theorem dL_alike_131 : decode cL_alike 131 = .ok (.iconst 4, 1) := by decide +kernel
theorem dL_alike_132 : decode cL_alike 132 = .ok (.irem, 1) := by decide +kernel
theorem dL_alike_133 : decode cL_alike 133 = .ok (.iconst 0, 1) := by decide +kernel
theorem dL_alike_134 : decode cL_alike 134 = .ok (.invokestatic 166, 3) := by decide +kernel
theorem dL_alike_137 : decode cL_alike 137 = .ok (.if_icmp .ne 86, 3) := by decide +kernel
theorem dL_alike_140 : decode cL_alike 140 = .ok (.aload_n 0, 1) := by decide +kernel
theorem dL_alike_141 : decode cL_alike 141 = .ok (.iload 5, 2) := by decide +kernel
theorem dL_alike_143 : decode cL_alike 143 = .ok (.iload_n 2, 1) := by decide +kernel
theorem dL_alike_144 : decode cL_alike 144 = .ok (.bipush 6, 2) := by decide +kernel
theorem dL_alike_146 : decode cL_alike 146 = .ok (.irem, 1) := by decide +kernel
theorem dL_alike_147 : decode cL_alike 147 = .ok (.iconst 1, 1) := by decide +kernel
theorem dL_alike_148 : decode cL_alike 148 = .ok (.invokestatic 170, 3) := by decide +kernel
theorem dL_alike_151 : decode cL_alike 151 = .ok (.aload_n 1, 1) := by decide +kernel
theorem dL_alike_152 : decode cL_alike 152 = .ok (.iload 5, 2) := by decide +kernel
theorem dL_alike_154 : decode cL_alike 154 = .ok (.iload_n 2, 1) := by decide +kernel
theorem dL_alike_155 : decode cL_alike 155 = .ok (.bipush 6, 2) := by decide +kernel
theorem dL_alike_157 : decode cL_alike 157 = .ok (.irem, 1) := by decide +kernel
theorem dL_alike_158 : decode cL_alike 158 = .ok (.iconst 1, 1) := by decide +kernel
theorem dL_alike_159 : decode cL_alike 159 = .ok (.invokestatic 170, 3) := by decide +kernel
theorem dL_alike_162 : decode cL_alike 162 = .ok (.if_icmp .ne 61, 3) := by decide +kernel
theorem dL_alike_165 : decode cL_alike 165 = .ok (.aload_n 0, 1) := by decide +kernel
theorem dL_alike_166 : decode cL_alike 166 = .ok (.iload 5, 2) := by decide +kernel
theorem dL_alike_168 : decode cL_alike 168 = .ok (.iload_n 2, 1) := by decide +kernel
theorem dL_alike_169 : decode cL_alike 169 = .ok (.bipush 6, 2) := by decide +kernel
theorem dL_alike_171 : decode cL_alike 171 = .ok (.irem, 1) := by decide +kernel
theorem dL_alike_172 : decode cL_alike 172 = .ok (.iconst 0, 1) := by decide +kernel
theorem dL_alike_173 : decode cL_alike 173 = .ok (.invokestatic 170, 3) := by decide +kernel
theorem dL_alike_176 : decode cL_alike 176 = .ok (.aload_n 1, 1) := by decide +kernel
theorem dL_alike_177 : decode cL_alike 177 = .ok (.iload 5, 2) := by decide +kernel
theorem dL_alike_179 : decode cL_alike 179 = .ok (.iload_n 2, 1) := by decide +kernel
theorem dL_alike_180 : decode cL_alike 180 = .ok (.bipush 6, 2) := by decide +kernel
theorem dL_alike_182 : decode cL_alike 182 = .ok (.irem, 1) := by decide +kernel
theorem dL_alike_183 : decode cL_alike 183 = .ok (.iconst 0, 1) := by decide +kernel
theorem dL_alike_184 : decode cL_alike 184 = .ok (.invokestatic 170, 3) := by decide +kernel
theorem dL_alike_187 : decode cL_alike 187 = .ok (.if_icmp .ne 36, 3) := by decide +kernel
theorem dL_alike_190 : decode cL_alike 190 = .ok (.aload_n 0, 1) := by decide +kernel
theorem dL_alike_191 : decode cL_alike 191 = .ok (.bipush 13, 2) := by decide +kernel
theorem dL_alike_193 : decode cL_alike 193 = .ok (.iload 5, 2) := by decide +kernel
theorem dL_alike_195 : decode cL_alike 195 = .ok (.iload_n 2, 1) := by decide +kernel
theorem dL_alike_196 : decode cL_alike 196 = .ok (.bipush 6, 2) := by decide +kernel
theorem dL_alike_198 : decode cL_alike 198 = .ok (.irem, 1) := by decide +kernel
theorem dL_alike_199 : decode cL_alike 199 = .ok (.iconst 0, 1) := by decide +kernel
theorem dL_alike_200 : decode cL_alike 200 = .ok (.invokestatic 166, 3) := by decide +kernel
theorem dL_alike_203 : decode cL_alike 203 = .ok (.aload_n 1, 1) := by decide +kernel
theorem dL_alike_204 : decode cL_alike 204 = .ok (.bipush 13, 2) := by decide +kernel
theorem dL_alike_206 : decode cL_alike 206 = .ok (.iload 5, 2) := by decide +kernel
theorem dL_alike_208 : decode cL_alike 208 = .ok (.iload_n 2, 1) := by decide +kernel
theorem dL_alike_209 : decode cL_alike 209 = .ok (.bipush 6, 2) := by decide +kernel
theorem dL_alike_211 : decode cL_alike 211 = .ok (.irem, 1) := by decide +kernel
theorem dL_alike_212 : decode cL_alike 212 = .ok (.iconst 0, 1) := by decide +kernel
theorem dL_alike_213 : decode cL_alike 213 = .ok (.invokestatic 166, 3) := by decide +kernel
theorem dL_alike_216 : decode cL_alike 216 = .ok (.if_icmp .ne 7, 3) := by decide +kernel
theorem dL_alike_219 : decode cL_alike 219 = .ok (.iconst 1, 1) := by decide +kernel
theorem dL_alike_220 : decode cL_alike 220 = .ok (.goto 4, 3) := by decide +kernel
theorem dL_alike_223 : decode cL_alike 223 = .ok (.iconst 0, 1) := by decide +kernel
theorem dL_alike_224 : decode cL_alike 224 = .ok (.istore_n 3, 1) := by decide +kernel
theorem dL_alike_225 : decode cL_alike 225 = .ok (.iinc 5 1, 3) := by decide +kernel
theorem dL_alike_228 : decode cL_alike 228 = .ok (.goto (-151), 3) := by decide +kernel
theorem dL_alike_231 : decode cL_alike 231 = .ok (.iload_n 3, 1) := by decide +kernel
theorem dL_alike_232 : decode cL_alike 232 = .ok (.ifCond .eq 158, 3) := by decide +kernel
theorem dL_alike_235 : decode cL_alike 235 = .ok (.aload_n 0, 1) := by decide +kernel
theorem dL_alike_236 : decode cL_alike 236 = .ok (.bipush 11, 2) := by decide +kernel
theorem dL_alike_238 : decode cL_alike 238 = .ok (.iload_n 2, 1) := by decide +kernel
theorem dL_alike_239 : decode cL_alike 239 = .ok (.bipush 8, 2) := by decide +kernel
theorem dL_alike_241 : decode cL_alike 241 = .ok (.idiv, 1) := by decide +kernel
theorem dL_alike_242 : decode cL_alike 242 = .ok (.bipush 6, 2) := by decide +kernel
theorem dL_alike_244 : decode cL_alike 244 = .ok (.irem, 1) := by decide +kernel
theorem dL_alike_245 : decode cL_alike 245 = .ok (.iload_n 2, 1) := by decide +kernel
theorem dL_alike_246 : decode cL_alike 246 = .ok (.iconst 3, 1) := by decide +kernel
theorem dL_alike_247 : decode cL_alike 247 = .ok (.irem, 1) := by decide +kernel
theorem dL_alike_248 : decode cL_alike 248 = .ok (.iconst 0, 1) := by decide +kernel
theorem dL_alike_249 : decode cL_alike 249 = .ok (.invokestatic 166, 3) := by decide +kernel
theorem dL_alike_252 : decode cL_alike 252 = .ok (.aload_n 1, 1) := by decide +kernel
theorem dL_alike_253 : decode cL_alike 253 = .ok (.bipush 11, 2) := by decide +kernel
theorem dL_alike_255 : decode cL_alike 255 = .ok (.iload_n 2, 1) := by decide +kernel
theorem dL_alike_256 : decode cL_alike 256 = .ok (.bipush 8, 2) := by decide +kernel
theorem dL_alike_258 : decode cL_alike 258 = .ok (.idiv, 1) := by decide +kernel
theorem dL_alike_259 : decode cL_alike 259 = .ok (.bipush 6, 2) := by decide +kernel
theorem dL_alike_261 : decode cL_alike 261 = .ok (.irem, 1) := by decide +kernel
theorem dL_alike_262 : decode cL_alike 262 = .ok (.iload_n 2, 1) := by decide +kernel
theorem dL_alike_263 : decode cL_alike 263 = .ok (.iconst 3, 1) := by decide +kernel
theorem dL_alike_264 : decode cL_alike 264 = .ok (.irem, 1) := by decide +kernel
theorem dL_alike_265 : decode cL_alike 265 = .ok (.iconst 0, 1) := by decide +kernel
theorem dL_alike_266 : decode cL_alike 266 = .ok (.invokestatic 166, 3) := by decide +kernel
theorem dL_alike_269 : decode cL_alike 269 = .ok (.if_icmp .ne 121, 3) := by decide +kernel
theorem dL_alike_272 : decode cL_alike 272 = .ok (.aload_n 0, 1) := by decide +kernel
theorem dL_alike_273 : decode cL_alike 273 = .ok (.bipush 12, 2) := by decide +kernel
theorem dL_alike_275 : decode cL_alike 275 = .ok (.iload_n 2, 1) := by decide +kernel
theorem dL_alike_276 : decode cL_alike 276 = .ok (.bipush 6, 2) := by decide +kernel
theorem dL_alike_278 : decode cL_alike 278 = .ok (.irem, 1) := by decide +kernel
theorem dL_alike_279 : decode cL_alike 279 = .ok (.iconst 0, 1) := by decide +kernel
theorem dL_alike_280 : decode cL_alike 280 = .ok (.iconst 0, 1) := by decide +kernel
theorem dL_alike_281 : decode cL_alike 281 = .ok (.invokestatic 166, 3) := by decide +kernel
theorem dL_alike_284 : decode cL_alike 284 = .ok (.aload_n 1, 1) := by decide +kernel
theorem dL_alike_285 : decode cL_alike 285 = .ok (.bipush 12, 2) := by decide +kernel
theorem dL_alike_287 : decode cL_alike 287 = .ok (.iload_n 2, 1) := by decide +kernel
theorem dL_alike_288 : decode cL_alike 288 = .ok (.bipush 6, 2) := by decide +kernel
theorem dL_alike_290 : decode cL_alike 290 = .ok (.irem, 1) := by decide +kernel
theorem dL_alike_291 : decode cL_alike 291 = .ok (.iconst 0, 1) := by decide +kernel
theorem dL_alike_292 : decode cL_alike 292 = .ok (.iconst 0, 1) := by decide +kernel
theorem dL_alike_293 : decode cL_alike 293 = .ok (.invokestatic 166, 3) := by decide +kernel
theorem dL_alike_296 : decode cL_alike 296 = .ok (.if_icmp .ne 94, 3) := by decide +kernel
theorem dL_alike_299 : decode cL_alike 299 = .ok (.aload_n 0, 1) := by decide +kernel
theorem dL_alike_300 : decode cL_alike 300 = .ok (.bipush 14, 2) := by decide +kernel
theorem dL_alike_302 : decode cL_alike 302 = .ok (.iload_n 2, 1) := by decide +kernel
theorem dL_alike_303 : decode cL_alike 303 = .ok (.bipush 6, 2) := by decide +kernel
theorem dL_alike_305 : decode cL_alike 305 = .ok (.irem, 1) := by decide +kernel
theorem dL_alike_306 : decode cL_alike 306 = .ok (.iload_n 2, 1) := by decide +kernel
theorem dL_alike_307 : decode cL_alike 307 = .ok (.bipush 16, 2) := by decide +kernel
theorem dL_alike_309 : decode cL_alike 309 = .ok (.idiv, 1) := by decide +kernel
theorem dL_alike_310 : decode cL_alike 310 = .ok (.iconst 4, 1) := by decide +kernel
theorem dL_alike_311 : decode cL_alike 311 = .ok (.irem, 1) := by decide +kernel
theorem dL_alike_312 : decode cL_alike 312 = .ok (.iconst 0, 1) := by decide +kernel
theorem dL_alike_313 : decode cL_alike 313 = .ok (.invokestatic 166, 3) := by decide +kernel
theorem dL_alike_316 : decode cL_alike 316 = .ok (.aload_n 1, 1) := by decide +kernel
theorem dL_alike_317 : decode cL_alike 317 = .ok (.bipush 14, 2) := by decide +kernel
theorem dL_alike_319 : decode cL_alike 319 = .ok (.iload_n 2, 1) := by decide +kernel
theorem dL_alike_320 : decode cL_alike 320 = .ok (.bipush 6, 2) := by decide +kernel
theorem dL_alike_322 : decode cL_alike 322 = .ok (.irem, 1) := by decide +kernel
theorem dL_alike_323 : decode cL_alike 323 = .ok (.iload_n 2, 1) := by decide +kernel
theorem dL_alike_324 : decode cL_alike 324 = .ok (.bipush 16, 2) := by decide +kernel
theorem dL_alike_326 : decode cL_alike 326 = .ok (.idiv, 1) := by decide +kernel
theorem dL_alike_327 : decode cL_alike 327 = .ok (.iconst 4, 1) := by decide +kernel
theorem dL_alike_328 : decode cL_alike 328 = .ok (.irem, 1) := by decide +kernel
theorem dL_alike_329 : decode cL_alike 329 = .ok (.iconst 0, 1) := by decide +kernel
theorem dL_alike_330 : decode cL_alike 330 = .ok (.invokestatic 166, 3) := by decide +kernel
theorem dL_alike_333 : decode cL_alike 333 = .ok (.if_icmp .ne 57, 3) := by decide +kernel
theorem dL_alike_336 : decode cL_alike 336 = .ok (.iload 4, 2) := by decide +kernel
theorem dL_alike_338 : decode cL_alike 338 = .ok (.ifCond .eq 48, 3) := by decide +kernel
theorem dL_alike_341 : decode cL_alike 341 = .ok (.aload_n 0, 1) := by decide +kernel
theorem dL_alike_342 : decode cL_alike 342 = .ok (.bipush 15, 2) := by decide +kernel
theorem dL_alike_344 : decode cL_alike 344 = .ok (.iload_n 2, 1) := by decide +kernel
theorem dL_alike_345 : decode cL_alike 345 = .ok (.iload 4, 2) := by decide +kernel
theorem dL_alike_347 : decode cL_alike 347 = .ok (.irem, 1) := by decide +kernel
theorem dL_alike_348 : decode cL_alike 348 = .ok (.iload_n 2, 1) := by decide +kernel
theorem dL_alike_349 : decode cL_alike 349 = .ok (.bipush 16, 2) := by decide +kernel
theorem dL_alike_351 : decode cL_alike 351 = .ok (.idiv, 1) := by decide +kernel
theorem dL_alike_352 : decode cL_alike 352 = .ok (.iload 4, 2) := by decide +kernel
theorem dL_alike_354 : decode cL_alike 354 = .ok (.irem, 1) := by decide +kernel
theorem dL_alike_355 : decode cL_alike 355 = .ok (.iload_n 2, 1) := by decide +kernel
theorem dL_alike_356 : decode cL_alike 356 = .ok (.bipush 6, 2) := by decide +kernel
theorem dL_alike_358 : decode cL_alike 358 = .ok (.irem, 1) := by decide +kernel
theorem dL_alike_359 : decode cL_alike 359 = .ok (.invokestatic 166, 3) := by decide +kernel
theorem dL_alike_362 : decode cL_alike 362 = .ok (.aload_n 1, 1) := by decide +kernel
theorem dL_alike_363 : decode cL_alike 363 = .ok (.bipush 15, 2) := by decide +kernel
theorem dL_alike_365 : decode cL_alike 365 = .ok (.iload_n 2, 1) := by decide +kernel
theorem dL_alike_366 : decode cL_alike 366 = .ok (.iload 4, 2) := by decide +kernel
theorem dL_alike_368 : decode cL_alike 368 = .ok (.irem, 1) := by decide +kernel
theorem dL_alike_369 : decode cL_alike 369 = .ok (.iload_n 2, 1) := by decide +kernel
theorem dL_alike_370 : decode cL_alike 370 = .ok (.bipush 16, 2) := by decide +kernel
theorem dL_alike_372 : decode cL_alike 372 = .ok (.idiv, 1) := by decide +kernel
theorem dL_alike_373 : decode cL_alike 373 = .ok (.iload 4, 2) := by decide +kernel
theorem dL_alike_375 : decode cL_alike 375 = .ok (.irem, 1) := by decide +kernel
theorem dL_alike_376 : decode cL_alike 376 = .ok (.iload_n 2, 1) := by decide +kernel
theorem dL_alike_377 : decode cL_alike 377 = .ok (.bipush 6, 2) := by decide +kernel
theorem dL_alike_379 : decode cL_alike 379 = .ok (.irem, 1) := by decide +kernel
theorem dL_alike_380 : decode cL_alike 380 = .ok (.invokestatic 166, 3) := by decide +kernel
theorem dL_alike_383 : decode cL_alike 383 = .ok (.if_icmp .ne 7, 3) := by decide +kernel
theorem dL_alike_386 : decode cL_alike 386 = .ok (.iconst 1, 1) := by decide +kernel
theorem dL_alike_387 : decode cL_alike 387 = .ok (.goto 4, 3) := by decide +kernel
theorem dL_alike_390 : decode cL_alike 390 = .ok (.iconst 0, 1) := by decide +kernel
theorem dL_alike_391 : decode cL_alike 391 = .ok (.ireturn, 1) := by decide +kernel
theorem dL_holds_0 : decode cL_holds 0 = .ok (.aload_n 0, 1) := by decide +kernel
theorem dL_holds_1 : decode cL_holds 1 = .ok (.iconst 1, 1) := by decide +kernel
theorem dL_holds_2 : decode cL_holds 2 = .ok (.iconst 0, 1) := by decide +kernel
theorem dL_holds_3 : decode cL_holds 3 = .ok (.iconst 0, 1) := by decide +kernel
theorem dL_holds_4 : decode cL_holds 4 = .ok (.iconst 0, 1) := by decide +kernel
theorem dL_holds_5 : decode cL_holds 5 = .ok (.invokestatic 166, 3) := by decide +kernel
theorem dL_holds_8 : decode cL_holds 8 = .ok (.istore_n 2, 1) := by decide +kernel
theorem dL_holds_9 : decode cL_holds 9 = .ok (.aload_n 0, 1) := by decide +kernel
theorem dL_holds_10 : decode cL_holds 10 = .ok (.iconst 1, 1) := by decide +kernel
theorem dL_holds_11 : decode cL_holds 11 = .ok (.iconst 5, 1) := by decide +kernel
theorem dL_holds_12 : decode cL_holds 12 = .ok (.iconst 0, 1) := by decide +kernel
theorem dL_holds_13 : decode cL_holds 13 = .ok (.iconst 0, 1) := by decide +kernel
theorem dL_holds_14 : decode cL_holds 14 = .ok (.invokestatic 166, 3) := by decide +kernel
theorem dL_holds_17 : decode cL_holds 17 = .ok (.istore_n 3, 1) := by decide +kernel
theorem dL_holds_18 : decode cL_holds 18 = .ok (.iconst 0, 1) := by decide +kernel
theorem dL_holds_19 : decode cL_holds 19 = .ok (.istore 4, 2) := by decide +kernel
theorem dL_holds_21 : decode cL_holds 21 = .ok (.iconst 1, 1) := by decide +kernel
theorem dL_holds_22 : decode cL_holds 22 = .ok (.istore 5, 2) := by decide +kernel
theorem dL_holds_24 : decode cL_holds 24 = .ok (.iconst 0, 1) := by decide +kernel
theorem dL_holds_25 : decode cL_holds 25 = .ok (.istore 6, 2) := by decide +kernel
theorem dL_holds_27 : decode cL_holds 27 = .ok (.iload 6, 2) := by decide +kernel
theorem dL_holds_29 : decode cL_holds 29 = .ok (.bipush 6, 2) := by decide +kernel
theorem dL_holds_31 : decode cL_holds 31 = .ok (.if_icmp .ge 416, 3) := by decide +kernel
theorem dL_holds_34 : decode cL_holds 34 = .ok (.iload 5, 2) := by decide +kernel
theorem dL_holds_36 : decode cL_holds 36 = .ok (.ifCond .eq 411, 3) := by decide +kernel
theorem dL_holds_39 : decode cL_holds 39 = .ok (.aload_n 0, 1) := by decide +kernel
theorem dL_holds_40 : decode cL_holds 40 = .ok (.bipush 10, 2) := by decide +kernel
theorem dL_holds_42 : decode cL_holds 42 = .ok (.iload 6, 2) := by decide +kernel
theorem dL_holds_44 : decode cL_holds 44 = .ok (.iconst 0, 1) := by decide +kernel
theorem dL_holds_45 : decode cL_holds 45 = .ok (.iconst 0, 1) := by decide +kernel
theorem dL_holds_46 : decode cL_holds 46 = .ok (.invokestatic 166, 3) := by decide +kernel
theorem dL_holds_49 : decode cL_holds 49 = .ok (.istore 7, 2) := by decide +kernel
theorem dL_holds_51 : decode cL_holds 51 = .ok (.aload_n 0, 1) := by decide +kernel
theorem dL_holds_52 : decode cL_holds 52 = .ok (.bipush 11, 2) := by decide +kernel
theorem dL_holds_54 : decode cL_holds 54 = .ok (.iload 6, 2) := by decide +kernel
theorem dL_holds_56 : decode cL_holds 56 = .ok (.iconst 0, 1) := by decide +kernel
theorem dL_holds_57 : decode cL_holds 57 = .ok (.iconst 0, 1) := by decide +kernel
theorem dL_holds_58 : decode cL_holds 58 = .ok (.invokestatic 166, 3) := by decide +kernel
theorem dL_holds_61 : decode cL_holds 61 = .ok (.istore 8, 2) := by decide +kernel
theorem dL_holds_63 : decode cL_holds 63 = .ok (.aload_n 0, 1) := by decide +kernel
theorem dL_holds_64 : decode cL_holds 64 = .ok (.bipush 11, 2) := by decide +kernel
theorem dL_holds_66 : decode cL_holds 66 = .ok (.iload 6, 2) := by decide +kernel
theorem dL_holds_68 : decode cL_holds 68 = .ok (.iconst 1, 1) := by decide +kernel
theorem dL_holds_69 : decode cL_holds 69 = .ok (.iconst 0, 1) := by decide +kernel
theorem dL_holds_70 : decode cL_holds 70 = .ok (.invokestatic 166, 3) := by decide +kernel
theorem dL_holds_73 : decode cL_holds 73 = .ok (.istore 9, 2) := by decide +kernel
theorem dL_holds_75 : decode cL_holds 75 = .ok (.aload_n 0, 1) := by decide +kernel
theorem dL_holds_76 : decode cL_holds 76 = .ok (.bipush 11, 2) := by decide +kernel
theorem dL_holds_78 : decode cL_holds 78 = .ok (.iload 6, 2) := by decide +kernel
theorem dL_holds_80 : decode cL_holds 80 = .ok (.iconst 2, 1) := by decide +kernel
theorem dL_holds_81 : decode cL_holds 81 = .ok (.iconst 0, 1) := by decide +kernel
theorem dL_holds_82 : decode cL_holds 82 = .ok (.invokestatic 166, 3) := by decide +kernel
theorem dL_holds_85 : decode cL_holds 85 = .ok (.istore 10, 2) := by decide +kernel
theorem dL_holds_87 : decode cL_holds 87 = .ok (.aload_n 0, 1) := by decide +kernel
theorem dL_holds_88 : decode cL_holds 88 = .ok (.bipush 12, 2) := by decide +kernel
theorem dL_holds_90 : decode cL_holds 90 = .ok (.iload 6, 2) := by decide +kernel
theorem dL_holds_92 : decode cL_holds 92 = .ok (.iconst 0, 1) := by decide +kernel
theorem dL_holds_93 : decode cL_holds 93 = .ok (.iconst 0, 1) := by decide +kernel
theorem dL_holds_94 : decode cL_holds 94 = .ok (.invokestatic 166, 3) := by decide +kernel
theorem dL_holds_97 : decode cL_holds 97 = .ok (.istore 11, 2) := by decide +kernel
theorem dL_holds_99 : decode cL_holds 99 = .ok (.iconst 0, 1) := by decide +kernel
theorem dL_holds_100 : decode cL_holds 100 = .ok (.istore 12, 2) := by decide +kernel
theorem dL_holds_102 : decode cL_holds 102 = .ok (.iconst 0, 1) := by decide +kernel
theorem dL_holds_103 : decode cL_holds 103 = .ok (.istore 13, 2) := by decide +kernel
theorem dL_holds_105 : decode cL_holds 105 = .ok (.iconst 0, 1) := by decide +kernel
theorem dL_holds_106 : decode cL_holds 106 = .ok (.istore 14, 2) := by decide +kernel
theorem dL_holds_108 : decode cL_holds 108 = .ok (.iconst 0, 1) := by decide +kernel
theorem dL_holds_109 : decode cL_holds 109 = .ok (.istore 15, 2) := by decide +kernel
theorem dL_holds_111 : decode cL_holds 111 = .ok (.iload 15, 2) := by decide +kernel
theorem dL_holds_113 : decode cL_holds 113 = .ok (.iload_n 2, 1) := by decide +kernel
theorem dL_holds_114 : decode cL_holds 114 = .ok (.if_icmp .ge 167, 3) := by decide +kernel
theorem dL_holds_117 : decode cL_holds 117 = .ok (.aload_n 0, 1) := by decide +kernel
theorem dL_holds_118 : decode cL_holds 118 = .ok (.iload 15, 2) := by decide +kernel
theorem dL_holds_120 : decode cL_holds 120 = .ok (.iload 6, 2) := by decide +kernel
theorem dL_holds_122 : decode cL_holds 122 = .ok (.iconst 1, 1) := by decide +kernel
theorem dL_holds_123 : decode cL_holds 123 = .ok (.invokestatic 170, 3) := by decide +kernel
theorem dL_holds_126 : decode cL_holds 126 = .ok (.istore 16, 2) := by decide +kernel
theorem dL_holds_128 : decode cL_holds 128 = .ok (.aload_n 0, 1) := by decide +kernel
theorem dL_holds_129 : decode cL_holds 129 = .ok (.iload 15, 2) := by decide +kernel
theorem dL_holds_131 : decode cL_holds 131 = .ok (.iload 6, 2) := by decide +kernel
theorem dL_holds_133 : decode cL_holds 133 = .ok (.iconst 0, 1) := by decide +kernel
theorem dL_holds_134 : decode cL_holds 134 = .ok (.invokestatic 170, 3) := by decide +kernel
theorem dL_holds_137 : decode cL_holds 137 = .ok (.istore 17, 2) := by decide +kernel
theorem dL_holds_139 : decode cL_holds 139 = .ok (.aload_n 0, 1) := by decide +kernel
theorem dL_holds_140 : decode cL_holds 140 = .ok (.bipush 13, 2) := by decide +kernel
theorem dL_holds_142 : decode cL_holds 142 = .ok (.iload 15, 2) := by decide +kernel
theorem dL_holds_144 : decode cL_holds 144 = .ok (.iload 6, 2) := by decide +kernel
theorem dL_holds_146 : decode cL_holds 146 = .ok (.iconst 0, 1) := by decide +kernel
theorem dL_holds_147 : decode cL_holds 147 = .ok (.invokestatic 166, 3) := by decide +kernel
theorem dL_holds_150 : decode cL_holds 150 = .ok (.istore 18, 2) := by decide +kernel
theorem dL_holds_152 : decode cL_holds 152 = .ok (.iload 12, 2) := by decide +kernel
theorem dL_holds_154 : decode cL_holds 154 = .ok (.iload 8, 2) := by decide +kernel
theorem dL_holds_156 : decode cL_holds 156 = .ok (.ifCond .le 13, 3) := by decide +kernel
theorem dL_holds_159 : decode cL_holds 159 = .ok (.iload 8, 2) := by decide +kernel
theorem dL_holds_161 : decode cL_holds 161 = .ok (.iload 15, 2) := by decide +kernel
theorem dL_holds_163 : decode cL_holds 163 = .ok (.ishr, 1) := by decide +kernel
theorem dL_holds_164 : decode cL_holds 164 = .ok (.iconst 1, 1) := by decide +kernel
theorem dL_holds_165 : decode cL_holds 165 = .ok (.iand, 1) := by decide +kernel
theorem dL_holds_166 : decode cL_holds 166 = .ok (.goto 4, 3) := by decide +kernel
theorem dL_holds_169 : decode cL_holds 169 = .ok (.iconst 0, 1) := by decide +kernel
theorem dL_holds_170 : decode cL_holds 170 = .ok (.iadd, 1) := by decide +kernel
theorem dL_holds_171 : decode cL_holds 171 = .ok (.istore 12, 2) := by decide +kernel
theorem dL_holds_173 : decode cL_holds 173 = .ok (.iload 13, 2) := by decide +kernel
theorem dL_holds_175 : decode cL_holds 175 = .ok (.iload 16, 2) := by decide +kernel
theorem dL_holds_177 : decode cL_holds 177 = .ok (.iconst (-1), 1) := by decide +kernel
theorem dL_holds_178 : decode cL_holds 178 = .ok (.if_icmp .ne 7, 3) := by decide +kernel
theorem dL_holds_181 : decode cL_holds 181 = .ok (.iconst 0, 1) := by decide +kernel
theorem dL_holds_182 : decode cL_holds 182 = .ok (.goto 4, 3) := by decide +kernel
theorem dL_holds_185 : decode cL_holds 185 = .ok (.iconst 1, 1) := by decide +kernel
theorem dL_holds_186 : decode cL_holds 186 = .ok (.iadd, 1) := by decide +kernel
theorem dL_holds_187 : decode cL_holds 187 = .ok (.istore 13, 2) := by decide +kernel
theorem dL_holds_189 : decode cL_holds 189 = .ok (.iload 14, 2) := by decide +kernel
theorem dL_holds_191 : decode cL_holds 191 = .ok (.ifCond .ne 16, 3) := by decide +kernel
theorem dL_holds_194 : decode cL_holds 194 = .ok (.iload 16, 2) := by decide +kernel
theorem dL_holds_196 : decode cL_holds 196 = .ok (.iconst (-1), 1) := by decide +kernel
theorem dL_holds_197 : decode cL_holds 197 = .ok (.if_icmp .eq 14, 3) := by decide +kernel
theorem dL_holds_200 : decode cL_holds 200 = .ok (.iload 16, 2) := by decide +kernel
theorem dL_holds_202 : decode cL_holds 202 = .ok (.iload 17, 2) := by decide +kernel
theorem dL_holds_204 : decode cL_holds 204 = .ok (.if_icmp .gt 7, 3) := by decide +kernel
theorem dL_holds_207 : decode cL_holds 207 = .ok (.iconst 1, 1) := by decide +kernel
theorem dL_holds_208 : decode cL_holds 208 = .ok (.goto 4, 3) := by decide +kernel
theorem dL_holds_211 : decode cL_holds 211 = .ok (.iconst 0, 1) := by decide +kernel
theorem dL_holds_212 : decode cL_holds 212 = .ok (.istore 14, 2) := by decide +kernel
theorem dL_holds_214 : decode cL_holds 214 = .ok (.iload 5, 2) := by decide +kernel
theorem dL_holds_216 : decode cL_holds 216 = .ok (.ifCond .eq 56, 3) := by decide +kernel
theorem dL_holds_219 : decode cL_holds 219 = .ok (.iload 18, 2) := by decide +kernel
theorem dL_holds_221 : decode cL_holds 221 = .ok (.iconst (-1), 1) := by decide +kernel
theorem dL_holds_222 : decode cL_holds 222 = .ok (.if_icmp .eq 10, 3) := by decide +kernel
theorem dL_holds_225 : decode cL_holds 225 = .ok (.iload 18, 2) := by decide +kernel
theorem dL_holds_227 : decode cL_holds 227 = .ok (.iload 17, 2) := by decide +kernel
theorem dL_holds_229 : decode cL_holds 229 = .ok (.if_icmp .le 43, 3) := by decide +kernel
theorem dL_holds_232 : decode cL_holds 232 = .ok (.iload 7, 2) := by decide +kernel
theorem dL_holds_234 : decode cL_holds 234 = .ok (.iconst (-1), 1) := by decide +kernel
theorem dL_holds_235 : decode cL_holds 235 = .ok (.if_icmp .eq 22, 3) := by decide +kernel
theorem dL_holds_238 : decode cL_holds 238 = .ok (.iload 16, 2) := by decide +kernel
theorem dL_holds_240 : decode cL_holds 240 = .ok (.iconst (-1), 1) := by decide +kernel
theorem dL_holds_241 : decode cL_holds 241 = .ok (.if_icmp .eq 16, 3) := by decide +kernel
theorem dL_holds_244 : decode cL_holds 244 = .ok (.iload 18, 2) := by decide +kernel
theorem dL_holds_246 : decode cL_holds 246 = .ok (.iconst (-1), 1) := by decide +kernel
theorem dL_holds_247 : decode cL_holds 247 = .ok (.if_icmp .eq 25, 3) := by decide +kernel
theorem dL_holds_250 : decode cL_holds 250 = .ok (.iload 18, 2) := by decide +kernel
theorem dL_holds_252 : decode cL_holds 252 = .ok (.iload 16, 2) := by decide +kernel
theorem dL_holds_254 : decode cL_holds 254 = .ok (.if_icmp .gt 18, 3) := by decide +kernel
theorem dL_holds_257 : decode cL_holds 257 = .ok (.iload 7, 2) := by decide +kernel
theorem dL_holds_259 : decode cL_holds 259 = .ok (.ifCond .ne 9, 3) := by decide +kernel
theorem dL_holds_262 : decode cL_holds 262 = .ok (.iload 18, 2) := by decide +kernel
theorem dL_holds_264 : decode cL_holds 264 = .ok (.iconst (-1), 1) := by decide +kernel
theorem dL_holds_265 : decode cL_holds 265 = .ok (.if_icmp .ne 7, 3) := by decide +kernel
theorem dL_holds_268 : decode cL_holds 268 = .ok (.iconst 1, 1) := by decide +kernel
theorem dL_holds_269 : decode cL_holds 269 = .ok (.goto 4, 3) := by decide +kernel
theorem dL_holds_272 : decode cL_holds 272 = .ok (.iconst 0, 1) := by decide +kernel
theorem dL_holds_273 : decode cL_holds 273 = .ok (.istore 5, 2) := by decide +kernel
theorem dL_holds_275 : decode cL_holds 275 = .ok (.iinc 15 1, 3) := by decide +kernel
theorem dL_holds_278 : decode cL_holds 278 = .ok (.goto (-167), 3) := by decide +kernel
theorem dL_holds_281 : decode cL_holds 281 = .ok (.iload 4, 2) := by decide +kernel
theorem dL_holds_283 : decode cL_holds 283 = .ok (.iload 7, 2) := by decide +kernel
theorem dL_holds_285 : decode cL_holds 285 = .ok (.ifCond .le 8, 3) := by decide +kernel
theorem dL_holds_288 : decode cL_holds 288 = .ok (.iload 7, 2) := by decide +kernel
theorem dL_holds_290 : decode cL_holds 290 = .ok (.goto 4, 3) := by decide +kernel
theorem dL_holds_293 : decode cL_holds 293 = .ok (.iconst 0, 1) := by decide +kernel
theorem dL_holds_294 : decode cL_holds 294 = .ok (.iadd, 1) := by decide +kernel
theorem dL_holds_295 : decode cL_holds 295 = .ok (.istore 4, 2) := by decide +kernel
theorem dL_holds_297 : decode cL_holds 297 = .ok (.iload 5, 2) := by decide +kernel
theorem dL_holds_299 : decode cL_holds 299 = .ok (.ifCond .eq 139, 3) := by decide +kernel
theorem dL_holds_302 : decode cL_holds 302 = .ok (.iload 14, 2) := by decide +kernel
theorem dL_holds_304 : decode cL_holds 304 = .ok (.iload 7, 2) := by decide +kernel
theorem dL_holds_306 : decode cL_holds 306 = .ok (.iconst (-1), 1) := by decide +kernel
theorem dL_holds_307 : decode cL_holds 307 = .ok (.if_icmp .ne 7, 3) := by decide +kernel
theorem dL_holds_310 : decode cL_holds 310 = .ok (.iconst 1, 1) := by decide +kernel
theorem dL_holds_311 : decode cL_holds 311 = .ok (.goto 4, 3) := by decide +kernel
theorem dL_holds_314 : decode cL_holds 314 = .ok (.iconst 0, 1) := by decide +kernel
theorem dL_holds_315 : decode cL_holds 315 = .ok (.if_icmp .ne 123, 3) := by decide +kernel
theorem dL_holds_318 : decode cL_holds 318 = .ok (.iload 7, 2) := by decide +kernel
theorem dL_holds_320 : decode cL_holds 320 = .ok (.iconst (-1), 1) := by decide +kernel
theorem dL_holds_321 : decode cL_holds 321 = .ok (.if_icmp .ne 30, 3) := by decide +kernel
theorem dL_holds_324 : decode cL_holds 324 = .ok (.iload 8, 2) := by decide +kernel
theorem dL_holds_326 : decode cL_holds 326 = .ok (.iconst (-1), 1) := by decide +kernel
theorem dL_holds_327 : decode cL_holds 327 = .ok (.if_icmp .ne 111, 3) := by decide +kernel
theorem dL_holds_330 : decode cL_holds 330 = .ok (.iload 9, 2) := by decide +kernel
theorem dL_holds_332 : decode cL_holds 332 = .ok (.iconst (-1), 1) := by decide +kernel
theorem dL_holds_333 : decode cL_holds 333 = .ok (.if_icmp .ne 105, 3) := by decide +kernel
theorem dL_holds_336 : decode cL_holds 336 = .ok (.iload 10, 2) := by decide +kernel
theorem dL_holds_338 : decode cL_holds 338 = .ok (.iconst (-1), 1) := by decide +kernel
theorem dL_holds_339 : decode cL_holds 339 = .ok (.if_icmp .ne 99, 3) := by decide +kernel
theorem dL_holds_342 : decode cL_holds 342 = .ok (.iload 11, 2) := by decide +kernel
theorem dL_holds_344 : decode cL_holds 344 = .ok (.iconst (-1), 1) := by decide +kernel
theorem dL_holds_345 : decode cL_holds 345 = .ok (.if_icmp .ne 93, 3) := by decide +kernel
theorem dL_holds_348 : decode cL_holds 348 = .ok (.goto 86, 3) := by decide +kernel
theorem dL_holds_351 : decode cL_holds 351 = .ok (.iload 12, 2) := by decide +kernel
theorem dL_holds_353 : decode cL_holds 353 = .ok (.iload 7, 2) := by decide +kernel
theorem dL_holds_355 : decode cL_holds 355 = .ok (.if_icmp .ne 83, 3) := by decide +kernel
theorem dL_holds_358 : decode cL_holds 358 = .ok (.iload 7, 2) := by decide +kernel
theorem dL_holds_360 : decode cL_holds 360 = .ok (.iload 13, 2) := by decide +kernel
theorem dL_holds_362 : decode cL_holds 362 = .ok (.if_icmp .gt 76, 3) := by decide +kernel
theorem dL_holds_365 : decode cL_holds 365 = .ok (.iload 7, 2) := by decide +kernel
theorem dL_holds_367 : decode cL_holds 367 = .ok (.ifCond .ne 7, 3) := by decide +kernel
theorem dL_holds_370 : decode cL_holds 370 = .ok (.iconst 1, 1) := by decide +kernel
theorem dL_holds_371 : decode cL_holds 371 = .ok (.goto 4, 3) := by decide +kernel
theorem dL_holds_374 : decode cL_holds 374 = .ok (.iconst 0, 1) := by decide +kernel
theorem dL_holds_375 : decode cL_holds 375 = .ok (.iload 13, 2) := by decide +kernel
theorem dL_holds_377 : decode cL_holds 377 = .ok (.ifCond .ne 7, 3) := by decide +kernel
theorem dL_holds_380 : decode cL_holds 380 = .ok (.iconst 1, 1) := by decide +kernel
theorem dL_holds_381 : decode cL_holds 381 = .ok (.goto 4, 3) := by decide +kernel
theorem dL_holds_384 : decode cL_holds 384 = .ok (.iconst 0, 1) := by decide +kernel
theorem dL_holds_385 : decode cL_holds 385 = .ok (.if_icmp .ne 53, 3) := by decide +kernel
theorem dL_holds_388 : decode cL_holds 388 = .ok (.iload 9, 2) := by decide +kernel
theorem dL_holds_390 : decode cL_holds 390 = .ok (.iload 8, 2) := by decide +kernel
theorem dL_holds_392 : decode cL_holds 392 = .ok (.iand, 1) := by decide +kernel
theorem dL_holds_393 : decode cL_holds 393 = .ok (.iload 9, 2) := by decide +kernel
theorem dL_holds_395 : decode cL_holds 395 = .ok (.if_icmp .ne 43, 3) := by decide +kernel
theorem dL_holds_398 : decode cL_holds 398 = .ok (.iload 10, 2) := by decide +kernel
theorem dL_holds_400 : decode cL_holds 400 = .ok (.iload 8, 2) := by decide +kernel
theorem dL_holds_402 : decode cL_holds 402 = .ok (.iand, 1) := by decide +kernel
theorem dL_holds_403 : decode cL_holds 403 = .ok (.iload 8, 2) := by decide +kernel
theorem dL_holds_405 : decode cL_holds 405 = .ok (.if_icmp .ne 33, 3) := by decide +kernel
theorem dL_holds_408 : decode cL_holds 408 = .ok (.iload 11, 2) := by decide +kernel
theorem dL_holds_410 : decode cL_holds 410 = .ok (.iconst 1, 1) := by decide +kernel
theorem dL_holds_411 : decode cL_holds 411 = .ok (.if_icmp .lt 27, 3) := by decide +kernel
theorem dL_holds_414 : decode cL_holds 414 = .ok (.iload 11, 2) := by decide +kernel
theorem dL_holds_416 : decode cL_holds 416 = .ok (.iconst 1, 1) := by decide +kernel
theorem dL_holds_417 : decode cL_holds 417 = .ok (.if_icmp .gt 17, 3) := by decide +kernel
theorem dL_holds_420 : decode cL_holds 420 = .ok (.iload 9, 2) := by decide +kernel
theorem dL_holds_422 : decode cL_holds 422 = .ok (.iload 8, 2) := by decide +kernel
theorem dL_holds_424 : decode cL_holds 424 = .ok (.if_icmp .ne 14, 3) := by decide +kernel
theorem dL_holds_427 : decode cL_holds 427 = .ok (.iload 10, 2) := by decide +kernel
theorem dL_holds_429 : decode cL_holds 429 = .ok (.iload 8, 2) := by decide +kernel
theorem dL_holds_431 : decode cL_holds 431 = .ok (.if_icmp .ne 7, 3) := by decide +kernel
theorem dL_holds_434 : decode cL_holds 434 = .ok (.iconst 1, 1) := by decide +kernel
theorem dL_holds_435 : decode cL_holds 435 = .ok (.goto 4, 3) := by decide +kernel
theorem dL_holds_438 : decode cL_holds 438 = .ok (.iconst 0, 1) := by decide +kernel
theorem dL_holds_439 : decode cL_holds 439 = .ok (.istore 5, 2) := by decide +kernel
theorem dL_holds_441 : decode cL_holds 441 = .ok (.iinc 6 1, 3) := by decide +kernel
theorem dL_holds_444 : decode cL_holds 444 = .ok (.goto (-417), 3) := by decide +kernel
theorem dL_holds_447 : decode cL_holds 447 = .ok (.iload 5, 2) := by decide +kernel
theorem dL_holds_449 : decode cL_holds 449 = .ok (.ifCond .eq 13, 3) := by decide +kernel
theorem dL_holds_452 : decode cL_holds 452 = .ok (.iload 4, 2) := by decide +kernel
theorem dL_holds_454 : decode cL_holds 454 = .ok (.iload_n 3, 1) := by decide +kernel
theorem dL_holds_455 : decode cL_holds 455 = .ok (.if_icmp .ne 7, 3) := by decide +kernel
theorem dL_holds_458 : decode cL_holds 458 = .ok (.iconst 1, 1) := by decide +kernel
theorem dL_holds_459 : decode cL_holds 459 = .ok (.goto 4, 3) := by decide +kernel
theorem dL_holds_462 : decode cL_holds 462 = .ok (.iconst 0, 1) := by decide +kernel
theorem dL_holds_463 : decode cL_holds 463 = .ok (.istore 5, 2) := by decide +kernel
theorem dL_holds_465 : decode cL_holds 465 = .ok (.iconst 0, 1) := by decide +kernel
theorem dL_holds_466 : decode cL_holds 466 = .ok (.istore 6, 2) := by decide +kernel
theorem dL_holds_468 : decode cL_holds 468 = .ok (.iload_n 2, 1) := by decide +kernel
theorem dL_holds_469 : decode cL_holds 469 = .ok (.iconst 1, 1) := by decide +kernel
theorem dL_holds_470 : decode cL_holds 470 = .ok (.if_icmp .le 343, 3) := by decide +kernel
theorem dL_holds_473 : decode cL_holds 473 = .ok (.iload 5, 2) := by decide +kernel
theorem dL_holds_475 : decode cL_holds 475 = .ok (.ifCond .eq 338, 3) := by decide +kernel
theorem dL_holds_478 : decode cL_holds 478 = .ok (.iload_n 1, 1) := by decide +kernel
theorem dL_holds_479 : decode cL_holds 479 = .ok (.iload_n 2, 1) := by decide +kernel
theorem dL_holds_480 : decode cL_holds 480 = .ok (.irem, 1) := by decide +kernel
theorem dL_holds_481 : decode cL_holds 481 = .ok (.istore 7, 2) := by decide +kernel
theorem dL_holds_483 : decode cL_holds 483 = .ok (.iload 7, 2) := by decide +kernel
theorem dL_holds_485 : decode cL_holds 485 = .ok (.iconst 1, 1) := by decide +kernel
theorem dL_holds_486 : decode cL_holds 486 = .ok (.iadd, 1) := by decide +kernel
theorem dL_holds_487 : decode cL_holds 487 = .ok (.iload_n 1, 1) := by decide +kernel
theorem dL_holds_488 : decode cL_holds 488 = .ok (.bipush 16, 2) := by decide +kernel
theorem dL_holds_490 : decode cL_holds 490 = .ok (.idiv, 1) := by decide +kernel
theorem dL_holds_491 : decode cL_holds 491 = .ok (.iload_n 2, 1) := by decide +kernel
theorem dL_holds_492 : decode cL_holds 492 = .ok (.iconst 1, 1) := by decide +kernel
theorem dL_holds_493 : decode cL_holds 493 = .ok (.isub, 1) := by decide +kernel
theorem dL_holds_494 : decode cL_holds 494 = .ok (.irem, 1) := by decide +kernel
theorem dL_holds_495 : decode cL_holds 495 = .ok (.iadd, 1) := by decide +kernel
theorem dL_holds_496 : decode cL_holds 496 = .ok (.iload_n 2, 1) := by decide +kernel
theorem dL_holds_497 : decode cL_holds 497 = .ok (.irem, 1) := by decide +kernel
theorem dL_holds_498 : decode cL_holds 498 = .ok (.istore 8, 2) := by decide +kernel
theorem dL_holds_500 : decode cL_holds 500 = .ok (.iconst 1, 1) := by decide +kernel
theorem dL_holds_501 : decode cL_holds 501 = .ok (.iload_n 1, 1) := by decide +kernel
theorem dL_holds_502 : decode cL_holds 502 = .ok (.sipush 256, 3) := by decide +kernel
theorem dL_holds_505 : decode cL_holds 505 = .ok (.idiv, 1) := by decide +kernel
theorem dL_holds_506 : decode cL_holds 506 = .ok (.bipush 99, 2) := by decide +kernel
theorem dL_holds_508 : decode cL_holds 508 = .ok (.irem, 1) := by decide +kernel
theorem dL_holds_509 : decode cL_holds 509 = .ok (.iadd, 1) := by decide +kernel
theorem dL_holds_510 : decode cL_holds 510 = .ok (.istore 9, 2) := by decide +kernel
theorem dL_holds_512 : decode cL_holds 512 = .ok (.aload_n 0, 1) := by decide +kernel
theorem dL_holds_513 : decode cL_holds 513 = .ok (.iconst 2, 1) := by decide +kernel
theorem dL_holds_514 : decode cL_holds 514 = .ok (.iload 7, 2) := by decide +kernel
theorem dL_holds_516 : decode cL_holds 516 = .ok (.iload 8, 2) := by decide +kernel
theorem dL_holds_518 : decode cL_holds 518 = .ok (.iconst 0, 1) := by decide +kernel
theorem dL_holds_519 : decode cL_holds 519 = .ok (.invokestatic 166, 3) := by decide +kernel
theorem dL_holds_522 : decode cL_holds 522 = .ok (.istore 10, 2) := by decide +kernel
theorem dL_holds_524 : decode cL_holds 524 = .ok (.aload_n 0, 1) := by decide +kernel
theorem dL_holds_525 : decode cL_holds 525 = .ok (.bipush 16, 2) := by decide +kernel
theorem dL_holds_527 : decode cL_holds 527 = .ok (.iload 7, 2) := by decide +kernel
theorem dL_holds_529 : decode cL_holds 529 = .ok (.iload 8, 2) := by decide +kernel
theorem dL_holds_531 : decode cL_holds 531 = .ok (.iload 9, 2) := by decide +kernel
theorem dL_holds_533 : decode cL_holds 533 = .ok (.invokestatic 166, 3) := by decide +kernel
theorem dL_holds_536 : decode cL_holds 536 = .ok (.istore 11, 2) := by decide +kernel
theorem dL_holds_538 : decode cL_holds 538 = .ok (.aload_n 0, 1) := by decide +kernel
theorem dL_holds_539 : decode cL_holds 539 = .ok (.iconst 5, 1) := by decide +kernel
theorem dL_holds_540 : decode cL_holds 540 = .ok (.iload 7, 2) := by decide +kernel
theorem dL_holds_542 : decode cL_holds 542 = .ok (.iload 8, 2) := by decide +kernel
theorem dL_holds_544 : decode cL_holds 544 = .ok (.iload 9, 2) := by decide +kernel
theorem dL_holds_546 : decode cL_holds 546 = .ok (.invokestatic 166, 3) := by decide +kernel
theorem dL_holds_549 : decode cL_holds 549 = .ok (.istore 12, 2) := by decide +kernel
theorem dL_holds_551 : decode cL_holds 551 = .ok (.iload 11, 2) := by decide +kernel
theorem dL_holds_553 : decode cL_holds 553 = .ok (.ldc 37, 2) := by decide +kernel
theorem dL_holds_555 : decode cL_holds 555 = .ok (.if_icmp .ne 7, 3) := by decide +kernel
theorem dL_holds_558 : decode cL_holds 558 = .ok (.iconst 1, 1) := by decide +kernel
theorem dL_holds_559 : decode cL_holds 559 = .ok (.goto 4, 3) := by decide +kernel
theorem dL_holds_562 : decode cL_holds 562 = .ok (.iconst 0, 1) := by decide +kernel
theorem dL_holds_563 : decode cL_holds 563 = .ok (.iload 12, 2) := by decide +kernel
theorem dL_holds_565 : decode cL_holds 565 = .ok (.ldc 37, 2) := by decide +kernel
theorem dL_holds_567 : decode cL_holds 567 = .ok (.if_icmp .ne 7, 3) := by decide +kernel
theorem dL_holds_570 : decode cL_holds 570 = .ok (.iconst 1, 1) := by decide +kernel
theorem dL_holds_571 : decode cL_holds 571 = .ok (.goto 4, 3) := by decide +kernel
theorem dL_holds_574 : decode cL_holds 574 = .ok (.iconst 0, 1) := by decide +kernel
theorem dL_holds_575 : decode cL_holds 575 = .ok (.if_icmp .ne 62, 3) := by decide +kernel
theorem dL_holds_578 : decode cL_holds 578 = .ok (.iload 12, 2) := by decide +kernel
theorem dL_holds_580 : decode cL_holds 580 = .ok (.ifCond .lt 53, 3) := by decide +kernel
theorem dL_holds_583 : decode cL_holds 583 = .ok (.iload 11, 2) := by decide +kernel
theorem dL_holds_585 : decode cL_holds 585 = .ok (.aload_n 0, 1) := by decide +kernel
theorem dL_holds_586 : decode cL_holds 586 = .ok (.iconst 1, 1) := by decide +kernel
theorem dL_holds_587 : decode cL_holds 587 = .ok (.iconst 5, 1) := by decide +kernel
theorem dL_holds_588 : decode cL_holds 588 = .ok (.iconst 0, 1) := by decide +kernel
theorem dL_holds_589 : decode cL_holds 589 = .ok (.iconst 0, 1) := by decide +kernel
theorem dL_holds_590 : decode cL_holds 590 = .ok (.invokestatic 166, 3) := by decide +kernel
theorem dL_holds_593 : decode cL_holds 593 = .ok (.if_icmp .ne 44, 3) := by decide +kernel
theorem dL_holds_596 : decode cL_holds 596 = .ok (.iload 10, 2) := by decide +kernel
theorem dL_holds_598 : decode cL_holds 598 = .ok (.iconst (-1), 1) := by decide +kernel
theorem dL_holds_599 : decode cL_holds 599 = .ok (.if_icmp .ne 12, 3) := by decide +kernel
theorem dL_holds_602 : decode cL_holds 602 = .ok (.iload 11, 2) := by decide +kernel
theorem dL_holds_604 : decode cL_holds 604 = .ok (.iload_n 3, 1) := by decide +kernel
theorem dL_holds_605 : decode cL_holds 605 = .ok (.if_icmp .gt 32, 3) := by decide +kernel
theorem dL_holds_608 : decode cL_holds 608 = .ok (.goto 25, 3) := by decide +kernel
theorem dL_holds_611 : decode cL_holds 611 = .ok (.iload 9, 2) := by decide +kernel
theorem dL_holds_613 : decode cL_holds 613 = .ok (.iload 10, 2) := by decide +kernel
theorem dL_holds_615 : decode cL_holds 615 = .ok (.if_icmp .le 12, 3) := by decide +kernel
theorem dL_holds_618 : decode cL_holds 618 = .ok (.iload 11, 2) := by decide +kernel
theorem dL_holds_620 : decode cL_holds 620 = .ok (.iload_n 3, 1) := by decide +kernel
theorem dL_holds_621 : decode cL_holds 621 = .ok (.if_icmp .lt 16, 3) := by decide +kernel
theorem dL_holds_624 : decode cL_holds 624 = .ok (.goto 9, 3) := by decide +kernel
theorem dL_holds_627 : decode cL_holds 627 = .ok (.iload 11, 2) := by decide +kernel
theorem dL_holds_629 : decode cL_holds 629 = .ok (.iload_n 3, 1) := by decide +kernel
theorem dL_holds_630 : decode cL_holds 630 = .ok (.if_icmp .gt 7, 3) := by decide +kernel
theorem dL_holds_633 : decode cL_holds 633 = .ok (.iconst 1, 1) := by decide +kernel
theorem dL_holds_634 : decode cL_holds 634 = .ok (.goto 4, 3) := by decide +kernel
theorem dL_holds_637 : decode cL_holds 637 = .ok (.iconst 0, 1) := by decide +kernel
theorem dL_holds_638 : decode cL_holds 638 = .ok (.istore 5, 2) := by decide +kernel
theorem dL_holds_640 : decode cL_holds 640 = .ok (.iload 12, 2) := by decide +kernel
theorem dL_holds_642 : decode cL_holds 642 = .ok (.ifCond .ge 7, 3) := by decide +kernel
theorem dL_holds_645 : decode cL_holds 645 = .ok (.iconst 0, 1) := by decide +kernel
theorem dL_holds_646 : decode cL_holds 646 = .ok (.goto 4, 3) := by decide +kernel
theorem dL_holds_649 : decode cL_holds 649 = .ok (.iconst 1, 1) := by decide +kernel
theorem dL_holds_650 : decode cL_holds 650 = .ok (.istore 6, 2) := by decide +kernel
theorem dL_holds_652 : decode cL_holds 652 = .ok (.iload 10, 2) := by decide +kernel
theorem dL_holds_654 : decode cL_holds 654 = .ok (.iconst (-1), 1) := by decide +kernel
theorem dL_holds_655 : decode cL_holds 655 = .ok (.if_icmp .ne 22, 3) := by decide +kernel
theorem dL_holds_658 : decode cL_holds 658 = .ok (.iload 12, 2) := by decide +kernel
theorem dL_holds_660 : decode cL_holds 660 = .ok (.ifCond .le 17, 3) := by decide +kernel
theorem dL_holds_663 : decode cL_holds 663 = .ok (.aload_n 0, 1) := by decide +kernel
theorem dL_holds_664 : decode cL_holds 664 = .ok (.bipush 6, 2) := by decide +kernel
theorem dL_holds_666 : decode cL_holds 666 = .ok (.iload 8, 2) := by decide +kernel
theorem dL_holds_668 : decode cL_holds 668 = .ok (.iload 7, 2) := by decide +kernel
theorem dL_holds_670 : decode cL_holds 670 = .ok (.iconst 0, 1) := by decide +kernel
theorem dL_holds_671 : decode cL_holds 671 = .ok (.invokestatic 166, 3) := by decide +kernel
theorem dL_holds_674 : decode cL_holds 674 = .ok (.goto 4, 3) := by decide +kernel
theorem dL_holds_677 : decode cL_holds 677 = .ok (.iconst 0, 1) := by decide +kernel
theorem dL_holds_678 : decode cL_holds 678 = .ok (.istore 13, 2) := by decide +kernel
theorem dL_holds_680 : decode cL_holds 680 = .ok (.iload 5, 2) := by decide +kernel
theorem dL_holds_682 : decode cL_holds 682 = .ok (.ifCond .eq 31, 3) := by decide +kernel
theorem dL_holds_685 : decode cL_holds 685 = .ok (.iload 13, 2) := by decide +kernel
theorem dL_holds_687 : decode cL_holds 687 = .ok (.ifCond .eq 22, 3) := by decide +kernel
theorem dL_holds_690 : decode cL_holds 690 = .ok (.iload 13, 2) := by decide +kernel
theorem dL_holds_692 : decode cL_holds 692 = .ok (.iload 9, 2) := by decide +kernel
theorem dL_holds_694 : decode cL_holds 694 = .ok (.if_icmp .ne 19, 3) := by decide +kernel
theorem dL_holds_697 : decode cL_holds 697 = .ok (.aload_n 0, 1) := by decide +kernel
theorem dL_holds_698 : decode cL_holds 698 = .ok (.iconst 1, 1) := by decide +kernel
theorem dL_holds_699 : decode cL_holds 699 = .ok (.iconst 5, 1) := by decide +kernel
theorem dL_holds_700 : decode cL_holds 700 = .ok (.iconst 0, 1) := by decide +kernel
theorem dL_holds_701 : decode cL_holds 701 = .ok (.iconst 0, 1) := by decide +kernel
theorem dL_holds_702 : decode cL_holds 702 = .ok (.invokestatic 166, 3) := by decide +kernel
theorem dL_holds_705 : decode cL_holds 705 = .ok (.iload_n 3, 1) := by decide +kernel
theorem dL_holds_706 : decode cL_holds 706 = .ok (.if_icmp .ne 7, 3) := by decide +kernel
theorem dL_holds_709 : decode cL_holds 709 = .ok (.iconst 1, 1) := by decide +kernel
theorem dL_holds_710 : decode cL_holds 710 = .ok (.goto 4, 3) := by decide +kernel
theorem dL_holds_713 : decode cL_holds 713 = .ok (.iconst 0, 1) := by decide +kernel
theorem dL_holds_714 : decode cL_holds 714 = .ok (.istore 5, 2) := by decide +kernel
theorem dL_holds_716 : decode cL_holds 716 = .ok (.iload 6, 2) := by decide +kernel
theorem dL_holds_718 : decode cL_holds 718 = .ok (.iload 13, 2) := by decide +kernel
theorem dL_holds_720 : decode cL_holds 720 = .ok (.ifCond .le 7, 3) := by decide +kernel
theorem dL_holds_723 : decode cL_holds 723 = .ok (.iconst 1, 1) := by decide +kernel
theorem dL_holds_724 : decode cL_holds 724 = .ok (.goto 4, 3) := by decide +kernel
theorem dL_holds_727 : decode cL_holds 727 = .ok (.iconst 0, 1) := by decide +kernel
theorem dL_holds_728 : decode cL_holds 728 = .ok (.iadd, 1) := by decide +kernel
theorem dL_holds_729 : decode cL_holds 729 = .ok (.istore 6, 2) := by decide +kernel
theorem dL_holds_731 : decode cL_holds 731 = .ok (.aload_n 0, 1) := by decide +kernel
theorem dL_holds_732 : decode cL_holds 732 = .ok (.bipush 15, 2) := by decide +kernel
theorem dL_holds_734 : decode cL_holds 734 = .ok (.iload 7, 2) := by decide +kernel
theorem dL_holds_736 : decode cL_holds 736 = .ok (.iload 8, 2) := by decide +kernel
theorem dL_holds_738 : decode cL_holds 738 = .ok (.iload_n 1, 1) := by decide +kernel
theorem dL_holds_739 : decode cL_holds 739 = .ok (.bipush 6, 2) := by decide +kernel
theorem dL_holds_741 : decode cL_holds 741 = .ok (.irem, 1) := by decide +kernel
theorem dL_holds_742 : decode cL_holds 742 = .ok (.invokestatic 166, 3) := by decide +kernel
theorem dL_holds_745 : decode cL_holds 745 = .ok (.istore 14, 2) := by decide +kernel
theorem dL_holds_747 : decode cL_holds 747 = .ok (.iload 5, 2) := by decide +kernel
theorem dL_holds_749 : decode cL_holds 749 = .ok (.ifCond .eq 61, 3) := by decide +kernel
theorem dL_holds_752 : decode cL_holds 752 = .ok (.iload 14, 2) := by decide +kernel
theorem dL_holds_754 : decode cL_holds 754 = .ok (.ifCond .eq 52, 3) := by decide +kernel
theorem dL_holds_757 : decode cL_holds 757 = .ok (.aload_n 0, 1) := by decide +kernel
theorem dL_holds_758 : decode cL_holds 758 = .ok (.iconst 2, 1) := by decide +kernel
theorem dL_holds_759 : decode cL_holds 759 = .ok (.iload 7, 2) := by decide +kernel
theorem dL_holds_761 : decode cL_holds 761 = .ok (.iload 8, 2) := by decide +kernel
theorem dL_holds_763 : decode cL_holds 763 = .ok (.iconst 0, 1) := by decide +kernel
theorem dL_holds_764 : decode cL_holds 764 = .ok (.invokestatic 166, 3) := by decide +kernel
theorem dL_holds_767 : decode cL_holds 767 = .ok (.iconst (-1), 1) := by decide +kernel
theorem dL_holds_768 : decode cL_holds 768 = .ok (.if_icmp .eq 42, 3) := by decide +kernel
theorem dL_holds_771 : decode cL_holds 771 = .ok (.aload_n 0, 1) := by decide +kernel
theorem dL_holds_772 : decode cL_holds 772 = .ok (.iload 8, 2) := by decide +kernel
theorem dL_holds_774 : decode cL_holds 774 = .ok (.iload_n 1, 1) := by decide +kernel
theorem dL_holds_775 : decode cL_holds 775 = .ok (.bipush 6, 2) := by decide +kernel
theorem dL_holds_777 : decode cL_holds 777 = .ok (.irem, 1) := by decide +kernel
theorem dL_holds_778 : decode cL_holds 778 = .ok (.iconst 1, 1) := by decide +kernel
theorem dL_holds_779 : decode cL_holds 779 = .ok (.invokestatic 170, 3) := by decide +kernel
theorem dL_holds_782 : decode cL_holds 782 = .ok (.iconst (-1), 1) := by decide +kernel
theorem dL_holds_783 : decode cL_holds 783 = .ok (.if_icmp .eq 27, 3) := by decide +kernel
theorem dL_holds_786 : decode cL_holds 786 = .ok (.aload_n 0, 1) := by decide +kernel
theorem dL_holds_787 : decode cL_holds 787 = .ok (.bipush 11, 2) := by decide +kernel
theorem dL_holds_789 : decode cL_holds 789 = .ok (.iload_n 1, 1) := by decide +kernel
theorem dL_holds_790 : decode cL_holds 790 = .ok (.bipush 6, 2) := by decide +kernel
theorem dL_holds_792 : decode cL_holds 792 = .ok (.irem, 1) := by decide +kernel
theorem dL_holds_793 : decode cL_holds 793 = .ok (.iconst 1, 1) := by decide +kernel
theorem dL_holds_794 : decode cL_holds 794 = .ok (.iconst 0, 1) := by decide +kernel
theorem dL_holds_795 : decode cL_holds 795 = .ok (.invokestatic 166, 3) := by decide +kernel
theorem dL_holds_798 : decode cL_holds 798 = .ok (.iload 8, 2) := by decide +kernel
theorem dL_holds_800 : decode cL_holds 800 = .ok (.ishr, 1) := by decide +kernel
theorem dL_holds_801 : decode cL_holds 801 = .ok (.iconst 1, 1) := by decide +kernel
theorem dL_holds_802 : decode cL_holds 802 = .ok (.iand, 1) := by decide +kernel
theorem dL_holds_803 : decode cL_holds 803 = .ok (.ifCond .ne 7, 3) := by decide +kernel
theorem dL_holds_806 : decode cL_holds 806 = .ok (.iconst 1, 1) := by decide +kernel
theorem dL_holds_807 : decode cL_holds 807 = .ok (.goto 4, 3) := by decide +kernel
theorem dL_holds_810 : decode cL_holds 810 = .ok (.iconst 0, 1) := by decide +kernel
theorem dL_holds_811 : decode cL_holds 811 = .ok (.istore 5, 2) := by decide +kernel
theorem dL_holds_813 : decode cL_holds 813 = .ok (.iconst 0, 1) := by decide +kernel
theorem dL_holds_814 : decode cL_holds 814 = .ok (.istore 7, 2) := by decide +kernel
theorem dL_holds_816 : decode cL_holds 816 = .ok (.iload 7, 2) := by decide +kernel
theorem dL_holds_818 : decode cL_holds 818 = .ok (.iload 6, 2) := by decide +kernel
theorem dL_holds_820 : decode cL_holds 820 = .ok (.if_icmp .ge 33, 3) := by decide +kernel
theorem dL_holds_823 : decode cL_holds 823 = .ok (.iload 5, 2) := by decide +kernel
theorem dL_holds_825 : decode cL_holds 825 = .ok (.ifCond .eq 28, 3) := by decide +kernel
theorem dL_holds_828 : decode cL_holds 828 = .ok (.aload_n 0, 1) := by decide +kernel
theorem dL_holds_829 : decode cL_holds 829 = .ok (.bipush 9, 2) := by decide +kernel
theorem dL_holds_831 : decode cL_holds 831 = .ok (.iconst 0, 1) := by decide +kernel
theorem dL_holds_832 : decode cL_holds 832 = .ok (.iconst 0, 1) := by decide +kernel
theorem dL_holds_833 : decode cL_holds 833 = .ok (.iconst 0, 1) := by decide +kernel
theorem dL_holds_834 : decode cL_holds 834 = .ok (.invokestatic 166, 3) := by decide +kernel
theorem dL_holds_837 : decode cL_holds 837 = .ok (.ifCond .lt 7, 3) := by decide +kernel
theorem dL_holds_840 : decode cL_holds 840 = .ok (.iconst 1, 1) := by decide +kernel
theorem dL_holds_841 : decode cL_holds 841 = .ok (.goto 4, 3) := by decide +kernel
theorem dL_holds_844 : decode cL_holds 844 = .ok (.iconst 0, 1) := by decide +kernel
theorem dL_holds_845 : decode cL_holds 845 = .ok (.istore 5, 2) := by decide +kernel
theorem dL_holds_847 : decode cL_holds 847 = .ok (.iinc 7 1, 3) := by decide +kernel
theorem dL_holds_850 : decode cL_holds 850 = .ok (.goto (-34), 3) := by decide +kernel
theorem dL_holds_853 : decode cL_holds 853 = .ok (.iload 5, 2) := by decide +kernel
theorem dL_holds_855 : decode cL_holds 855 = .ok (.ifCond .eq 19, 3) := by decide +kernel
theorem dL_holds_858 : decode cL_holds 858 = .ok (.aload_n 0, 1) := by decide +kernel
theorem dL_holds_859 : decode cL_holds 859 = .ok (.iconst 1, 1) := by decide +kernel
theorem dL_holds_860 : decode cL_holds 860 = .ok (.iconst 5, 1) := by decide +kernel
theorem dL_holds_861 : decode cL_holds 861 = .ok (.iconst 0, 1) := by decide +kernel
theorem dL_holds_862 : decode cL_holds 862 = .ok (.iconst 0, 1) := by decide +kernel
theorem dL_holds_863 : decode cL_holds 863 = .ok (.invokestatic 166, 3) := by decide +kernel
theorem dL_holds_866 : decode cL_holds 866 = .ok (.iload_n 3, 1) := by decide +kernel
theorem dL_holds_867 : decode cL_holds 867 = .ok (.if_icmp .ne 7, 3) := by decide +kernel
theorem dL_holds_870 : decode cL_holds 870 = .ok (.iconst 1, 1) := by decide +kernel
theorem dL_holds_871 : decode cL_holds 871 = .ok (.goto 4, 3) := by decide +kernel
theorem dL_holds_874 : decode cL_holds 874 = .ok (.iconst 0, 1) := by decide +kernel
theorem dL_holds_875 : decode cL_holds 875 = .ok (.ireturn, 1) := by decide +kernel
theorem dL_act_0 : decode cL_act 0 = .ok (.aload_n 0, 1) := by decide +kernel
theorem dL_act_1 : decode cL_act 1 = .ok (.iconst 1, 1) := by decide +kernel
theorem dL_act_2 : decode cL_act 2 = .ok (.iconst 0, 1) := by decide +kernel
theorem dL_act_3 : decode cL_act 3 = .ok (.iconst 0, 1) := by decide +kernel
theorem dL_act_4 : decode cL_act 4 = .ok (.iconst 0, 1) := by decide +kernel
theorem dL_act_5 : decode cL_act 5 = .ok (.invokestatic 166, 3) := by decide +kernel
theorem dL_act_8 : decode cL_act 8 = .ok (.istore_n 3, 1) := by decide +kernel
theorem dL_act_9 : decode cL_act 9 = .ok (.iload_n 3, 1) := by decide +kernel
theorem dL_act_10 : decode cL_act 10 = .ok (.ifCond .ne 7, 3) := by decide +kernel
theorem dL_act_13 : decode cL_act 13 = .ok (.iconst 0, 1) := by decide +kernel
theorem dL_act_14 : decode cL_act 14 = .ok (.goto 6, 3) := by decide +kernel
theorem dL_act_17 : decode cL_act 17 = .ok (.iload_n 2, 1) := by decide +kernel
theorem dL_act_18 : decode cL_act 18 = .ok (.iload_n 3, 1) := by decide +kernel
theorem dL_act_19 : decode cL_act 19 = .ok (.irem, 1) := by decide +kernel
theorem dL_act_20 : decode cL_act 20 = .ok (.istore 4, 2) := by decide +kernel
theorem dL_act_22 : decode cL_act 22 = .ok (.iload_n 3, 1) := by decide +kernel
theorem dL_act_23 : decode cL_act 23 = .ok (.ifCond .ne 7, 3) := by decide +kernel
theorem dL_act_26 : decode cL_act 26 = .ok (.iconst 0, 1) := by decide +kernel
theorem dL_act_27 : decode cL_act 27 = .ok (.goto 9, 3) := by decide +kernel
theorem dL_act_30 : decode cL_act 30 = .ok (.iload_n 2, 1) := by decide +kernel
theorem dL_act_31 : decode cL_act 31 = .ok (.bipush 8, 2) := by decide +kernel
theorem dL_act_33 : decode cL_act 33 = .ok (.idiv, 1) := by decide +kernel
theorem dL_act_34 : decode cL_act 34 = .ok (.iload_n 3, 1) := by decide +kernel
theorem dL_act_35 : decode cL_act 35 = .ok (.irem, 1) := by decide +kernel
theorem dL_act_36 : decode cL_act 36 = .ok (.istore 5, 2) := by decide +kernel
theorem dL_act_38 : decode cL_act 38 = .ok (.iload_n 1, 1) := by decide +kernel
theorem dL_act_39 : decode cL_act 39 = .ok (.bipush 16, 2) := by decide +kernel
theorem dL_act_41 : decode cL_act 41 = .ok (.irem, 1) := by decide +kernel
theorem dL_act_42 : decode cL_act 42 = .ok (.tableswitch 311 0 12 #[66, 66, 92, 92, 92, 111, 123, 140, 150, 162, 174, 289, 289], 66) := by decide +kernel
theorem dL_act_108 : decode cL_act 108 = .ok (.iload_n 3, 1) := by decide +kernel
theorem dL_act_109 : decode cL_act 109 = .ok (.iconst 5, 1) := by decide +kernel
theorem dL_act_110 : decode cL_act 110 = .ok (.if_icmp .le 15, 3) := by decide +kernel
theorem dL_act_113 : decode cL_act 113 = .ok (.aload_n 0, 1) := by decide +kernel
theorem dL_act_114 : decode cL_act 114 = .ok (.bipush 9, 2) := by decide +kernel
theorem dL_act_116 : decode cL_act 116 = .ok (.iconst 0, 1) := by decide +kernel
theorem dL_act_117 : decode cL_act 117 = .ok (.iconst 0, 1) := by decide +kernel
theorem dL_act_118 : decode cL_act 118 = .ok (.iconst 0, 1) := by decide +kernel
theorem dL_act_119 : decode cL_act 119 = .ok (.invokestatic 166, 3) := by decide +kernel
theorem dL_act_122 : decode cL_act 122 = .ok (.goto 11, 3) := by decide +kernel
theorem dL_act_125 : decode cL_act 125 = .ok (.aload_n 0, 1) := by decide +kernel
theorem dL_act_126 : decode cL_act 126 = .ok (.iconst 4, 1) := by decide +kernel
theorem dL_act_127 : decode cL_act 127 = .ok (.iconst 0, 1) := by decide +kernel
theorem dL_act_128 : decode cL_act 128 = .ok (.iconst 0, 1) := by decide +kernel
theorem dL_act_129 : decode cL_act 129 = .ok (.iconst 0, 1) := by decide +kernel
theorem dL_act_130 : decode cL_act 130 = .ok (.invokestatic 166, 3) := by decide +kernel
theorem dL_act_133 : decode cL_act 133 = .ok (.ireturn, 1) := by decide +kernel
theorem dL_act_134 : decode cL_act 134 = .ok (.aload_n 0, 1) := by decide +kernel
theorem dL_act_135 : decode cL_act 135 = .ok (.iconst 5, 1) := by decide +kernel
theorem dL_act_136 : decode cL_act 136 = .ok (.iload 4, 2) := by decide +kernel
theorem dL_act_138 : decode cL_act 138 = .ok (.iload 5, 2) := by decide +kernel
theorem dL_act_140 : decode cL_act 140 = .ok (.iconst 1, 1) := by decide +kernel
theorem dL_act_141 : decode cL_act 141 = .ok (.iload_n 2, 1) := by decide +kernel
theorem dL_act_142 : decode cL_act 142 = .ok (.bipush 64, 2) := by decide +kernel
theorem dL_act_144 : decode cL_act 144 = .ok (.idiv, 1) := by decide +kernel
theorem dL_act_145 : decode cL_act 145 = .ok (.bipush 99, 2) := by decide +kernel
theorem dL_act_147 : decode cL_act 147 = .ok (.irem, 1) := by decide +kernel
theorem dL_act_148 : decode cL_act 148 = .ok (.iadd, 1) := by decide +kernel
theorem dL_act_149 : decode cL_act 149 = .ok (.invokestatic 166, 3) := by decide +kernel
theorem dL_act_152 : decode cL_act 152 = .ok (.ireturn, 1) := by decide +kernel
theorem dL_act_153 : decode cL_act 153 = .ok (.aload_n 0, 1) := by decide +kernel
theorem dL_act_154 : decode cL_act 154 = .ok (.bipush 6, 2) := by decide +kernel
theorem dL_act_156 : decode cL_act 156 = .ok (.iload 4, 2) := by decide +kernel
theorem dL_act_158 : decode cL_act 158 = .ok (.iload 5, 2) := by decide +kernel
theorem dL_act_160 : decode cL_act 160 = .ok (.iconst 0, 1) := by decide +kernel
theorem dL_act_161 : decode cL_act 161 = .ok (.invokestatic 166, 3) := by decide +kernel
theorem dL_act_164 : decode cL_act 164 = .ok (.ireturn, 1) := by decide +kernel
theorem dL_act_165 : decode cL_act 165 = .ok (.aload_n 0, 1) := by decide +kernel
theorem dL_act_166 : decode cL_act 166 = .ok (.bipush 8, 2) := by decide +kernel
theorem dL_act_168 : decode cL_act 168 = .ok (.iload 4, 2) := by decide +kernel
theorem dL_act_170 : decode cL_act 170 = .ok (.iload_n 2, 1) := by decide +kernel
theorem dL_act_171 : decode cL_act 171 = .ok (.bipush 64, 2) := by decide +kernel
theorem dL_act_173 : decode cL_act 173 = .ok (.idiv, 1) := by decide +kernel
theorem dL_act_174 : decode cL_act 174 = .ok (.bipush 6, 2) := by decide +kernel
theorem dL_act_176 : decode cL_act 176 = .ok (.irem, 1) := by decide +kernel
theorem dL_act_177 : decode cL_act 177 = .ok (.iconst 0, 1) := by decide +kernel
theorem dL_act_178 : decode cL_act 178 = .ok (.invokestatic 166, 3) := by decide +kernel
theorem dL_act_181 : decode cL_act 181 = .ok (.ireturn, 1) := by decide +kernel
theorem dL_act_182 : decode cL_act 182 = .ok (.aload_n 0, 1) := by decide +kernel
theorem dL_act_183 : decode cL_act 183 = .ok (.bipush 9, 2) := by decide +kernel
theorem dL_act_185 : decode cL_act 185 = .ok (.iconst 0, 1) := by decide +kernel
theorem dL_act_186 : decode cL_act 186 = .ok (.iconst 0, 1) := by decide +kernel
theorem dL_act_187 : decode cL_act 187 = .ok (.iconst 0, 1) := by decide +kernel
theorem dL_act_188 : decode cL_act 188 = .ok (.invokestatic 166, 3) := by decide +kernel
theorem dL_act_191 : decode cL_act 191 = .ok (.ireturn, 1) := by decide +kernel
theorem dL_act_192 : decode cL_act 192 = .ok (.aload_n 0, 1) := by decide +kernel
theorem dL_act_193 : decode cL_act 193 = .ok (.bipush 18, 2) := by decide +kernel
theorem dL_act_195 : decode cL_act 195 = .ok (.iload_n 2, 1) := by decide +kernel
theorem dL_act_196 : decode cL_act 196 = .ok (.iconst 2, 1) := by decide +kernel
theorem dL_act_197 : decode cL_act 197 = .ok (.irem, 1) := by decide +kernel
theorem dL_act_198 : decode cL_act 198 = .ok (.iconst 0, 1) := by decide +kernel
theorem dL_act_199 : decode cL_act 199 = .ok (.iconst 0, 1) := by decide +kernel
theorem dL_act_200 : decode cL_act 200 = .ok (.invokestatic 166, 3) := by decide +kernel
theorem dL_act_203 : decode cL_act 203 = .ok (.ireturn, 1) := by decide +kernel
theorem dL_act_204 : decode cL_act 204 = .ok (.aload_n 0, 1) := by decide +kernel
theorem dL_act_205 : decode cL_act 205 = .ok (.bipush 19, 2) := by decide +kernel
theorem dL_act_207 : decode cL_act 207 = .ok (.iload_n 2, 1) := by decide +kernel
theorem dL_act_208 : decode cL_act 208 = .ok (.iconst 2, 1) := by decide +kernel
theorem dL_act_209 : decode cL_act 209 = .ok (.irem, 1) := by decide +kernel
theorem dL_act_210 : decode cL_act 210 = .ok (.iconst 0, 1) := by decide +kernel
theorem dL_act_211 : decode cL_act 211 = .ok (.iconst 0, 1) := by decide +kernel
theorem dL_act_212 : decode cL_act 212 = .ok (.invokestatic 166, 3) := by decide +kernel
theorem dL_act_215 : decode cL_act 215 = .ok (.ireturn, 1) := by decide +kernel
theorem dL_act_216 : decode cL_act 216 = .ok (.aload_n 0, 1) := by decide +kernel
theorem dL_act_217 : decode cL_act 217 = .ok (.invokevirtual 193, 3) := by decide +kernel
theorem dL_act_220 : decode cL_act 220 = .ok (.pop, 1) := by decide +kernel
theorem dL_act_221 : decode cL_act 221 = .ok (.aload_n 0, 1) := by decide +kernel
theorem dL_act_222 : decode cL_act 222 = .ok (.iconst 0, 1) := by decide +kernel
theorem dL_act_223 : decode cL_act 223 = .ok (.bipush 48, 2) := by decide +kernel
theorem dL_act_225 : decode cL_act 225 = .ok (.iload 4, 2) := by decide +kernel
theorem dL_act_227 : decode cL_act 227 = .ok (.iadd, 1) := by decide +kernel
theorem dL_act_228 : decode cL_act 228 = .ok (.iconst 0, 1) := by decide +kernel
theorem dL_act_229 : decode cL_act 229 = .ok (.iconst 0, 1) := by decide +kernel
theorem dL_act_230 : decode cL_act 230 = .ok (.invokestatic 166, 3) := by decide +kernel
theorem dL_act_233 : decode cL_act 233 = .ok (.aload_n 0, 1) := by decide +kernel
theorem dL_act_234 : decode cL_act 234 = .ok (.iconst 0, 1) := by decide +kernel
theorem dL_act_235 : decode cL_act 235 = .ok (.iload_n 2, 1) := by decide +kernel
theorem dL_act_236 : decode cL_act 236 = .ok (.iconst 5, 1) := by decide +kernel
theorem dL_act_237 : decode cL_act 237 = .ok (.irem, 1) := by decide +kernel
theorem dL_act_238 : decode cL_act 238 = .ok (.ifCond .ne 8, 3) := by decide +kernel
theorem dL_act_241 : decode cL_act 241 = .ok (.bipush 45, 2) := by decide +kernel
theorem dL_act_243 : decode cL_act 243 = .ok (.goto 5, 3) := by decide +kernel
theorem dL_act_246 : decode cL_act 246 = .ok (.bipush 43, 2) := by decide +kernel
theorem dL_act_248 : decode cL_act 248 = .ok (.iconst 0, 1) := by decide +kernel
theorem dL_act_249 : decode cL_act 249 = .ok (.iconst 0, 1) := by decide +kernel
theorem dL_act_250 : decode cL_act 250 = .ok (.invokestatic 166, 3) := by decide +kernel
theorem dL_act_253 : decode cL_act 253 = .ok (.iadd, 1) := by decide +kernel
theorem dL_act_254 : decode cL_act 254 = .ok (.aload_n 0, 1) := by decide +kernel
theorem dL_act_255 : decode cL_act 255 = .ok (.iconst 0, 1) := by decide +kernel
theorem dL_act_256 : decode cL_act 256 = .ok (.bipush 48, 2) := by decide +kernel
theorem dL_act_258 : decode cL_act 258 = .ok (.iload_n 2, 1) := by decide +kernel
theorem dL_act_259 : decode cL_act 259 = .ok (.bipush 64, 2) := by decide +kernel
theorem dL_act_261 : decode cL_act 261 = .ok (.idiv, 1) := by decide +kernel
theorem dL_act_262 : decode cL_act 262 = .ok (.bipush 7, 2) := by decide +kernel
theorem dL_act_264 : decode cL_act 264 = .ok (.irem, 1) := by decide +kernel
theorem dL_act_265 : decode cL_act 265 = .ok (.iadd, 1) := by decide +kernel
theorem dL_act_266 : decode cL_act 266 = .ok (.iconst 0, 1) := by decide +kernel
theorem dL_act_267 : decode cL_act 267 = .ok (.iconst 0, 1) := by decide +kernel
theorem dL_act_268 : decode cL_act 268 = .ok (.invokestatic 166, 3) := by decide +kernel
theorem dL_act_271 : decode cL_act 271 = .ok (.iadd, 1) := by decide +kernel
theorem dL_act_272 : decode cL_act 272 = .ok (.aload_n 0, 1) := by decide +kernel
theorem dL_act_273 : decode cL_act 273 = .ok (.iconst 0, 1) := by decide +kernel
theorem dL_act_274 : decode cL_act 274 = .ok (.bipush 58, 2) := by decide +kernel
theorem dL_act_276 : decode cL_act 276 = .ok (.iconst 0, 1) := by decide +kernel
theorem dL_act_277 : decode cL_act 277 = .ok (.iconst 0, 1) := by decide +kernel
theorem dL_act_278 : decode cL_act 278 = .ok (.invokestatic 166, 3) := by decide +kernel
theorem dL_act_281 : decode cL_act 281 = .ok (.iadd, 1) := by decide +kernel
theorem dL_act_282 : decode cL_act 282 = .ok (.aload_n 0, 1) := by decide +kernel
theorem dL_act_283 : decode cL_act 283 = .ok (.iconst 0, 1) := by decide +kernel
theorem dL_act_284 : decode cL_act 284 = .ok (.bipush 49, 2) := by decide +kernel
theorem dL_act_286 : decode cL_act 286 = .ok (.iload_n 2, 1) := by decide +kernel
theorem dL_act_287 : decode cL_act 287 = .ok (.sipush 512, 3) := by decide +kernel
theorem dL_act_290 : decode cL_act 290 = .ok (.idiv, 1) := by decide +kernel
theorem dL_act_291 : decode cL_act 291 = .ok (.bipush 9, 2) := by decide +kernel
theorem dL_act_293 : decode cL_act 293 = .ok (.irem, 1) := by decide +kernel
theorem dL_act_294 : decode cL_act 294 = .ok (.iadd, 1) := by decide +kernel
theorem dL_act_295 : decode cL_act 295 = .ok (.iconst 0, 1) := by decide +kernel
theorem dL_act_296 : decode cL_act 296 = .ok (.iconst 0, 1) := by decide +kernel
theorem dL_act_297 : decode cL_act 297 = .ok (.invokestatic 166, 3) := by decide +kernel
theorem dL_act_300 : decode cL_act 300 = .ok (.iadd, 1) := by decide +kernel
theorem dL_act_301 : decode cL_act 301 = .ok (.aload_n 0, 1) := by decide +kernel
theorem dL_act_302 : decode cL_act 302 = .ok (.iconst 0, 1) := by decide +kernel
theorem dL_act_303 : decode cL_act 303 = .ok (.bipush 48, 2) := by decide +kernel
theorem dL_act_305 : decode cL_act 305 = .ok (.iload_n 2, 1) := by decide +kernel
theorem dL_act_306 : decode cL_act 306 = .ok (.sipush 8192, 3) := by decide +kernel
theorem dL_act_309 : decode cL_act 309 = .ok (.idiv, 1) := by decide +kernel
theorem dL_act_310 : decode cL_act 310 = .ok (.bipush 10, 2) := by decide +kernel
theorem dL_act_312 : decode cL_act 312 = .ok (.irem, 1) := by decide +kernel
theorem dL_act_313 : decode cL_act 313 = .ok (.iadd, 1) := by decide +kernel
theorem dL_act_314 : decode cL_act 314 = .ok (.iconst 0, 1) := by decide +kernel
theorem dL_act_315 : decode cL_act 315 = .ok (.iconst 0, 1) := by decide +kernel
theorem dL_act_316 : decode cL_act 316 = .ok (.invokestatic 166, 3) := by decide +kernel
theorem dL_act_319 : decode cL_act 319 = .ok (.iadd, 1) := by decide +kernel
theorem dL_act_320 : decode cL_act 320 = .ok (.aload_n 0, 1) := by decide +kernel
theorem dL_act_321 : decode cL_act 321 = .ok (.bipush 7, 2) := by decide +kernel
theorem dL_act_323 : decode cL_act 323 = .ok (.iconst 0, 1) := by decide +kernel
theorem dL_act_324 : decode cL_act 324 = .ok (.iconst 0, 1) := by decide +kernel
theorem dL_act_325 : decode cL_act 325 = .ok (.iconst 0, 1) := by decide +kernel
theorem dL_act_326 : decode cL_act 326 = .ok (.invokestatic 166, 3) := by decide +kernel
theorem dL_act_329 : decode cL_act 329 = .ok (.iadd, 1) := by decide +kernel
theorem dL_act_330 : decode cL_act 330 = .ok (.ireturn, 1) := by decide +kernel
theorem dL_act_331 : decode cL_act 331 = .ok (.aload_n 0, 1) := by decide +kernel
theorem dL_act_332 : decode cL_act 332 = .ok (.iload 4, 2) := by decide +kernel
theorem dL_act_334 : decode cL_act 334 = .ok (.iload_n 2, 1) := by decide +kernel
theorem dL_act_335 : decode cL_act 335 = .ok (.bipush 64, 2) := by decide +kernel
theorem dL_act_337 : decode cL_act 337 = .ok (.idiv, 1) := by decide +kernel
theorem dL_act_338 : decode cL_act 338 = .ok (.iconst 3, 1) := by decide +kernel
theorem dL_act_339 : decode cL_act 339 = .ok (.irem, 1) := by decide +kernel
theorem dL_act_340 : decode cL_act 340 = .ok (.iload_n 2, 1) := by decide +kernel
theorem dL_act_341 : decode cL_act 341 = .ok (.sipush 512, 3) := by decide +kernel
theorem dL_act_344 : decode cL_act 344 = .ok (.idiv, 1) := by decide +kernel
theorem dL_act_345 : decode cL_act 345 = .ok (.bipush 120, 2) := by decide +kernel
theorem dL_act_347 : decode cL_act 347 = .ok (.irem, 1) := by decide +kernel
theorem dL_act_348 : decode cL_act 348 = .ok (.iconst 0, 1) := by decide +kernel
theorem dL_act_349 : decode cL_act 349 = .ok (.invokestatic 174, 3) := by decide +kernel
theorem dL_act_352 : decode cL_act 352 = .ok (.ireturn, 1) := by decide +kernel
theorem dL_act_353 : decode cL_act 353 = .ok (.aload_n 0, 1) := by decide +kernel
theorem dL_act_354 : decode cL_act 354 = .ok (.iload 4, 2) := by decide +kernel
theorem dL_act_356 : decode cL_act 356 = .ok (.iload_n 2, 1) := by decide +kernel
theorem dL_act_357 : decode cL_act 357 = .ok (.bipush 64, 2) := by decide +kernel
theorem dL_act_359 : decode cL_act 359 = .ok (.idiv, 1) := by decide +kernel
theorem dL_act_360 : decode cL_act 360 = .ok (.iconst 3, 1) := by decide +kernel
theorem dL_act_361 : decode cL_act 361 = .ok (.irem, 1) := by decide +kernel
theorem dL_act_362 : decode cL_act 362 = .ok (.iload_n 2, 1) := by decide +kernel
theorem dL_act_363 : decode cL_act 363 = .ok (.sipush 512, 3) := by decide +kernel
theorem dL_act_366 : decode cL_act 366 = .ok (.idiv, 1) := by decide +kernel
theorem dL_act_367 : decode cL_act 367 = .ok (.iload_n 2, 1) := by decide +kernel
theorem dL_act_368 : decode cL_act 368 = .ok (.iconst 2, 1) := by decide +kernel
theorem dL_act_369 : decode cL_act 369 = .ok (.irem, 1) := by decide +kernel
theorem dL_act_370 : decode cL_act 370 = .ok (.ifCond .ne 9, 3) := by decide +kernel
theorem dL_act_373 : decode cL_act 373 = .ok (.sipush 1000, 3) := by decide +kernel
theorem dL_act_376 : decode cL_act 376 = .ok (.goto 6, 3) := by decide +kernel
theorem dL_act_379 : decode cL_act 379 = .ok (.sipush 200, 3) := by decide +kernel
theorem dL_act_382 : decode cL_act 382 = .ok (.irem, 1) := by decide +kernel
theorem dL_act_383 : decode cL_act 383 = .ok (.iconst 1, 1) := by decide +kernel
theorem dL_act_384 : decode cL_act 384 = .ok (.invokestatic 174, 3) := by decide +kernel
theorem dL_act_387 : decode cL_act 387 = .ok (.ireturn, 1) := by decide +kernel
