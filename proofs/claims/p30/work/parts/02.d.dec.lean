theorem z_X0_init : yX0_init.cls = RX0 ∧ yX0_init.cls ≠ "java/lang/invoke/MethodHandle" ∧ yX0_init.cls ≠ "java/lang/invoke/VarHandle" ∧ (parseMethodDescriptor yX0_init.desc).map (fun d => d.parameters.length) = some 0 := by decide +kernel
theorem z_X0_allInventions : yX0_allInventions.cls = RX0 ∧ yX0_allInventions.cls ≠ "java/lang/invoke/MethodHandle" ∧ yX0_allInventions.cls ≠ "java/lang/invoke/VarHandle" ∧ (parseMethodDescriptor yX0_allInventions.desc).map (fun d => d.parameters.length) = some 1 := by decide +kernel
theorem z_X0_inventedTraits : yX0_inventedTraits.cls = RX0 ∧ yX0_inventedTraits.cls ≠ "java/lang/invoke/MethodHandle" ∧ yX0_inventedTraits.cls ≠ "java/lang/invoke/VarHandle" ∧ (parseMethodDescriptor yX0_inventedTraits.desc).map (fun d => d.parameters.length) = some 1 := by decide +kernel
theorem z_X0_study : yX0_study.cls = RX0 ∧ yX0_study.cls ≠ "java/lang/invoke/MethodHandle" ∧ yX0_study.cls ≠ "java/lang/invoke/VarHandle" ∧ (parseMethodDescriptor yX0_study.desc).map (fun d => d.parameters.length) = some 2 := by decide +kernel
theorem z_X0_takeReports : yX0_takeReports.cls = RX0 ∧ yX0_takeReports.cls ≠ "java/lang/invoke/MethodHandle" ∧ yX0_takeReports.cls ≠ "java/lang/invoke/VarHandle" ∧ (parseMethodDescriptor yX0_takeReports.desc).map (fun d => d.parameters.length) = some 2 := by decide +kernel
theorem z_X0_takeRoads : yX0_takeRoads.cls = RX0 ∧ yX0_takeRoads.cls ≠ "java/lang/invoke/MethodHandle" ∧ yX0_takeRoads.cls ≠ "java/lang/invoke/VarHandle" ∧ (parseMethodDescriptor yX0_takeRoads.desc).map (fun d => d.parameters.length) = some 1 := by decide +kernel
theorem z_X0_explainAlone : yX0_explainAlone.cls = RX0 ∧ yX0_explainAlone.cls ≠ "java/lang/invoke/MethodHandle" ∧ yX0_explainAlone.cls ≠ "java/lang/invoke/VarHandle" ∧ (parseMethodDescriptor yX0_explainAlone.desc).map (fun d => d.parameters.length) = some 0 := by decide +kernel
theorem z_X0_weighSets : yX0_weighSets.cls = RX0 ∧ yX0_weighSets.cls ≠ "java/lang/invoke/MethodHandle" ∧ yX0_weighSets.cls ≠ "java/lang/invoke/VarHandle" ∧ (parseMethodDescriptor yX0_weighSets.desc).map (fun d => d.parameters.length) = some 0 := by decide +kernel
theorem z_X0_weigh : yX0_weigh.cls = RX0 ∧ yX0_weigh.cls ≠ "java/lang/invoke/MethodHandle" ∧ yX0_weigh.cls ≠ "java/lang/invoke/VarHandle" ∧ (parseMethodDescriptor yX0_weigh.desc).map (fun d => d.parameters.length) = some 1 := by decide +kernel
theorem z_X0_inventIn : yX0_inventIn.cls = RX0 ∧ yX0_inventIn.cls ≠ "java/lang/invoke/MethodHandle" ∧ yX0_inventIn.cls ≠ "java/lang/invoke/VarHandle" ∧ (parseMethodDescriptor yX0_inventIn.desc).map (fun d => d.parameters.length) = some 1 := by decide +kernel
theorem z_X0_spread : yX0_spread.cls = RX0 ∧ yX0_spread.cls ≠ "java/lang/invoke/MethodHandle" ∧ yX0_spread.cls ≠ "java/lang/invoke/VarHandle" ∧ (parseMethodDescriptor yX0_spread.desc).map (fun d => d.parameters.length) = some 0 := by decide +kernel
theorem z_X0_passOn : yX0_passOn.cls = RX0 ∧ yX0_passOn.cls ≠ "java/lang/invoke/MethodHandle" ∧ yX0_passOn.cls ≠ "java/lang/invoke/VarHandle" ∧ (parseMethodDescriptor yX0_passOn.desc).map (fun d => d.parameters.length) = some 3 := by decide +kernel
theorem z_X0_knownInTime : yX0_knownInTime.cls = RX0 ∧ yX0_knownInTime.cls ≠ "java/lang/invoke/MethodHandle" ∧ yX0_knownInTime.cls ≠ "java/lang/invoke/VarHandle" ∧ (parseMethodDescriptor yX0_knownInTime.desc).map (fun d => d.parameters.length) = some 0 := by decide +kernel
theorem z_X0_sinceWhen : yX0_sinceWhen.cls = RX0 ∧ yX0_sinceWhen.cls ≠ "java/lang/invoke/MethodHandle" ∧ yX0_sinceWhen.cls ≠ "java/lang/invoke/VarHandle" ∧ (parseMethodDescriptor yX0_sinceWhen.desc).map (fun d => d.parameters.length) = some 3 := by decide +kernel
theorem z_X0_townInOrder : yX0_townInOrder.cls = RX0 ∧ yX0_townInOrder.cls ≠ "java/lang/invoke/MethodHandle" ∧ yX0_townInOrder.cls ≠ "java/lang/invoke/VarHandle" ∧ (parseMethodDescriptor yX0_townInOrder.desc).map (fun d => d.parameters.length) = some 3 := by decide +kernel
theorem z_X0_townsBefore : yX0_townsBefore.cls = RX0 ∧ yX0_townsBefore.cls ≠ "java/lang/invoke/MethodHandle" ∧ yX0_townsBefore.cls ≠ "java/lang/invoke/VarHandle" ∧ (parseMethodDescriptor yX0_townsBefore.desc).map (fun d => d.parameters.length) = some 1 := by decide +kernel
theorem z_X0_canHavePassed : yX0_canHavePassed.cls = RX0 ∧ yX0_canHavePassed.cls ≠ "java/lang/invoke/MethodHandle" ∧ yX0_canHavePassed.cls ≠ "java/lang/invoke/VarHandle" ∧ (parseMethodDescriptor yX0_canHavePassed.desc).map (fun d => d.parameters.length) = some 4 := by decide +kernel
theorem z_X0_explainsByRoad : yX0_explainsByRoad.cls = RX0 ∧ yX0_explainsByRoad.cls ≠ "java/lang/invoke/MethodHandle" ∧ yX0_explainsByRoad.cls ≠ "java/lang/invoke/VarHandle" ∧ (parseMethodDescriptor yX0_explainsByRoad.desc).map (fun d => d.parameters.length) = some 5 := by decide +kernel
theorem z_X1_init : yX1_init.cls = RX1 ∧ yX1_init.cls ≠ "java/lang/invoke/MethodHandle" ∧ yX1_init.cls ≠ "java/lang/invoke/VarHandle" ∧ (parseMethodDescriptor yX1_init.desc).map (fun d => d.parameters.length) = some 0 := by decide +kernel
theorem z_X1_writeTo : yX1_writeTo.cls = RX1 ∧ yX1_writeTo.cls ≠ "java/lang/invoke/MethodHandle" ∧ yX1_writeTo.cls ≠ "java/lang/invoke/VarHandle" ∧ (parseMethodDescriptor yX1_writeTo.desc).map (fun d => d.parameters.length) = some 1 := by decide +kernel
theorem z_X1_readFrom : yX1_readFrom.cls = RX1 ∧ yX1_readFrom.cls ≠ "java/lang/invoke/MethodHandle" ∧ yX1_readFrom.cls ≠ "java/lang/invoke/VarHandle" ∧ (parseMethodDescriptor yX1_readFrom.desc).map (fun d => d.parameters.length) = some 1 := by decide +kernel
theorem z_X1_takeOver : yX1_takeOver.cls = RX1 ∧ yX1_takeOver.cls ≠ "java/lang/invoke/MethodHandle" ∧ yX1_takeOver.cls ≠ "java/lang/invoke/VarHandle" ∧ (parseMethodDescriptor yX1_takeOver.desc).map (fun d => d.parameters.length) = some 1 := by decide +kernel
theorem z_X1_townCount : yX1_townCount.cls = RX1 ∧ yX1_townCount.cls ≠ "java/lang/invoke/MethodHandle" ∧ yX1_townCount.cls ≠ "java/lang/invoke/VarHandle" ∧ (parseMethodDescriptor yX1_townCount.desc).map (fun d => d.parameters.length) = some 0 := by decide +kernel
theorem z_X1_isTown : yX1_isTown.cls = RX1 ∧ yX1_isTown.cls ≠ "java/lang/invoke/MethodHandle" ∧ yX1_isTown.cls ≠ "java/lang/invoke/VarHandle" ∧ (parseMethodDescriptor yX1_isTown.desc).map (fun d => d.parameters.length) = some 1 := by decide +kernel
theorem z_X1_roadLength : yX1_roadLength.cls = RX1 ∧ yX1_roadLength.cls ≠ "java/lang/invoke/MethodHandle" ∧ yX1_roadLength.cls ≠ "java/lang/invoke/VarHandle" ∧ (parseMethodDescriptor yX1_roadLength.desc).map (fun d => d.parameters.length) = some 2 := by decide +kernel
theorem z_X1_roadCount : yX1_roadCount.cls = RX1 ∧ yX1_roadCount.cls ≠ "java/lang/invoke/MethodHandle" ∧ yX1_roadCount.cls ≠ "java/lang/invoke/VarHandle" ∧ (parseMethodDescriptor yX1_roadCount.desc).map (fun d => d.parameters.length) = some 0 := by decide +kernel
theorem z_X1_roadsAt : yX1_roadsAt.cls = RX1 ∧ yX1_roadsAt.cls ≠ "java/lang/invoke/MethodHandle" ∧ yX1_roadsAt.cls ≠ "java/lang/invoke/VarHandle" ∧ (parseMethodDescriptor yX1_roadsAt.desc).map (fun d => d.parameters.length) = some 1 := by decide +kernel
theorem z_X1_townBeside : yX1_townBeside.cls = RX1 ∧ yX1_townBeside.cls ≠ "java/lang/invoke/MethodHandle" ∧ yX1_townBeside.cls ≠ "java/lang/invoke/VarHandle" ∧ (parseMethodDescriptor yX1_townBeside.desc).map (fun d => d.parameters.length) = some 2 := by decide +kernel
theorem z_X1_reportedYear : yX1_reportedYear.cls = RX1 ∧ yX1_reportedYear.cls ≠ "java/lang/invoke/MethodHandle" ∧ yX1_reportedYear.cls ≠ "java/lang/invoke/VarHandle" ∧ (parseMethodDescriptor yX1_reportedYear.desc).map (fun d => d.parameters.length) = some 3 := by decide +kernel
theorem z_X1_isReported : yX1_isReported.cls = RX1 ∧ yX1_isReported.cls ≠ "java/lang/invoke/MethodHandle" ∧ yX1_isReported.cls ≠ "java/lang/invoke/VarHandle" ∧ (parseMethodDescriptor yX1_isReported.desc).map (fun d => d.parameters.length) = some 2 := by decide +kernel
theorem z_X1_isContradicted : yX1_isContradicted.cls = RX1 ∧ yX1_isContradicted.cls ≠ "java/lang/invoke/MethodHandle" ∧ yX1_isContradicted.cls ≠ "java/lang/invoke/VarHandle" ∧ (parseMethodDescriptor yX1_isContradicted.desc).map (fun d => d.parameters.length) = some 2 := by decide +kernel
theorem z_X1_reportedPairs : yX1_reportedPairs.cls = RX1 ∧ yX1_reportedPairs.cls ≠ "java/lang/invoke/MethodHandle" ∧ yX1_reportedPairs.cls ≠ "java/lang/invoke/VarHandle" ∧ (parseMethodDescriptor yX1_reportedPairs.desc).map (fun d => d.parameters.length) = some 0 := by decide +kernel
theorem z_X1_contradictions : yX1_contradictions.cls = RX1 ∧ yX1_contradictions.cls ≠ "java/lang/invoke/MethodHandle" ∧ yX1_contradictions.cls ≠ "java/lang/invoke/VarHandle" ∧ (parseMethodDescriptor yX1_contradictions.desc).map (fun d => d.parameters.length) = some 0 := by decide +kernel
theorem z_X1_canJoin : yX1_canJoin.cls = RX1 ∧ yX1_canJoin.cls ≠ "java/lang/invoke/MethodHandle" ∧ yX1_canJoin.cls ≠ "java/lang/invoke/VarHandle" ∧ (parseMethodDescriptor yX1_canJoin.desc).map (fun d => d.parameters.length) = some 3 := by decide +kernel
theorem z_X1_addTown : yX1_addTown.cls = RX1 ∧ yX1_addTown.cls ≠ "java/lang/invoke/MethodHandle" ∧ yX1_addTown.cls ≠ "java/lang/invoke/VarHandle" ∧ (parseMethodDescriptor yX1_addTown.desc).map (fun d => d.parameters.length) = some 0 := by decide +kernel
theorem z_X1_join : yX1_join.cls = RX1 ∧ yX1_join.cls ≠ "java/lang/invoke/MethodHandle" ∧ yX1_join.cls ≠ "java/lang/invoke/VarHandle" ∧ (parseMethodDescriptor yX1_join.desc).map (fun d => d.parameters.length) = some 3 := by decide +kernel
theorem z_X1_cut : yX1_cut.cls = RX1 ∧ yX1_cut.cls ≠ "java/lang/invoke/MethodHandle" ∧ yX1_cut.cls ≠ "java/lang/invoke/VarHandle" ∧ (parseMethodDescriptor yX1_cut.desc).map (fun d => d.parameters.length) = some 2 := by decide +kernel
theorem z_X1_setRoad : yX1_setRoad.cls = RX1 ∧ yX1_setRoad.cls ≠ "java/lang/invoke/MethodHandle" ∧ yX1_setRoad.cls ≠ "java/lang/invoke/VarHandle" ∧ (parseMethodDescriptor yX1_setRoad.desc).map (fun d => d.parameters.length) = some 3 := by decide +kernel
theorem z_X1_note : yX1_note.cls = RX1 ∧ yX1_note.cls ≠ "java/lang/invoke/MethodHandle" ∧ yX1_note.cls ≠ "java/lang/invoke/VarHandle" ∧ (parseMethodDescriptor yX1_note.desc).map (fun d => d.parameters.length) = some 4 := by decide +kernel
theorem z_X1_drop : yX1_drop.cls = RX1 ∧ yX1_drop.cls ≠ "java/lang/invoke/MethodHandle" ∧ yX1_drop.cls ≠ "java/lang/invoke/VarHandle" ∧ (parseMethodDescriptor yX1_drop.desc).map (fun d => d.parameters.length) = some 2 := by decide +kernel
theorem z_X2_init : yX2_init.cls = RX2 ∧ yX2_init.cls ≠ "java/lang/invoke/MethodHandle" ∧ yX2_init.cls ≠ "java/lang/invoke/VarHandle" ∧ (parseMethodDescriptor yX2_init.desc).map (fun d => d.parameters.length) = some 0 := by decide +kernel
theorem z_X2_isEmpty : yX2_isEmpty.cls = RX2 ∧ yX2_isEmpty.cls ≠ "java/lang/invoke/MethodHandle" ∧ yX2_isEmpty.cls ≠ "java/lang/invoke/VarHandle" ∧ (parseMethodDescriptor yX2_isEmpty.desc).map (fun d => d.parameters.length) = some 0 := by decide +kernel
theorem z_X2_clear : yX2_clear.cls = RX2 ∧ yX2_clear.cls ≠ "java/lang/invoke/MethodHandle" ∧ yX2_clear.cls ≠ "java/lang/invoke/VarHandle" ∧ (parseMethodDescriptor yX2_clear.desc).map (fun d => d.parameters.length) = some 0 := by decide +kernel
theorem z_X2_remember : yX2_remember.cls = RX2 ∧ yX2_remember.cls ≠ "java/lang/invoke/MethodHandle" ∧ yX2_remember.cls ≠ "java/lang/invoke/VarHandle" ∧ (parseMethodDescriptor yX2_remember.desc).map (fun d => d.parameters.length) = some 1 := by decide +kernel
theorem z_X2_takeBack : yX2_takeBack.cls = RX2 ∧ yX2_takeBack.cls ≠ "java/lang/invoke/MethodHandle" ∧ yX2_takeBack.cls ≠ "java/lang/invoke/VarHandle" ∧ (parseMethodDescriptor yX2_takeBack.desc).map (fun d => d.parameters.length) = some 1 := by decide +kernel
theorem z_X3_init : yX3_init.cls = RX3 ∧ yX3_init.cls ≠ "java/lang/invoke/MethodHandle" ∧ yX3_init.cls ≠ "java/lang/invoke/VarHandle" ∧ (parseMethodDescriptor yX3_init.desc).map (fun d => d.parameters.length) = some 0 := by decide +kernel
theorem z_X3_begin : yX3_begin.cls = RX3 ∧ yX3_begin.cls ≠ "java/lang/invoke/MethodHandle" ∧ yX3_begin.cls ≠ "java/lang/invoke/VarHandle" ∧ (parseMethodDescriptor yX3_begin.desc).map (fun d => d.parameters.length) = some 1 := by decide +kernel
theorem z_X3_inventionsWithRoad : yX3_inventionsWithRoad.cls = RX3 ∧ yX3_inventionsWithRoad.cls ≠ "java/lang/invoke/MethodHandle" ∧ yX3_inventionsWithRoad.cls ≠ "java/lang/invoke/VarHandle" ∧ (parseMethodDescriptor yX3_inventionsWithRoad.desc).map (fun d => d.parameters.length) = some 3 := by decide +kernel
theorem z_X3_newRoad : yX3_newRoad.cls = RX3 ∧ yX3_newRoad.cls ≠ "java/lang/invoke/MethodHandle" ∧ yX3_newRoad.cls ≠ "java/lang/invoke/VarHandle" ∧ (parseMethodDescriptor yX3_newRoad.desc).map (fun d => d.parameters.length) = some 1 := by decide +kernel
theorem z_X3_costliestReport : yX3_costliestReport.cls = RX3 ∧ yX3_costliestReport.cls ≠ "java/lang/invoke/MethodHandle" ∧ yX3_costliestReport.cls ≠ "java/lang/invoke/VarHandle" ∧ (parseMethodDescriptor yX3_costliestReport.desc).map (fun d => d.parameters.length) = some 0 := by decide +kernel
theorem z_X3_costOfReport : yX3_costOfReport.cls = RX3 ∧ yX3_costOfReport.cls ≠ "java/lang/invoke/MethodHandle" ∧ yX3_costOfReport.cls ≠ "java/lang/invoke/VarHandle" ∧ (parseMethodDescriptor yX3_costOfReport.desc).map (fun d => d.parameters.length) = some 2 := by decide +kernel
theorem z_X3_obeys : yX3_obeys.cls = RX3 ∧ yX3_obeys.cls ≠ "java/lang/invoke/MethodHandle" ∧ yX3_obeys.cls ≠ "java/lang/invoke/VarHandle" ∧ (parseMethodDescriptor yX3_obeys.desc).map (fun d => d.parameters.length) = some 1 := by decide +kernel
theorem z_X3_isUpTo : yX3_isUpTo.cls = RX3 ∧ yX3_isUpTo.cls ≠ "java/lang/invoke/MethodHandle" ∧ yX3_isUpTo.cls ≠ "java/lang/invoke/VarHandle" ∧ (parseMethodDescriptor yX3_isUpTo.desc).map (fun d => d.parameters.length) = some 2 := by decide +kernel
theorem z_X3_turn : yX3_turn.cls = RX3 ∧ yX3_turn.cls ≠ "java/lang/invoke/MethodHandle" ∧ yX3_turn.cls ≠ "java/lang/invoke/VarHandle" ∧ (parseMethodDescriptor yX3_turn.desc).map (fun d => d.parameters.length) = some 1 := by decide +kernel
theorem z_X3_summary : yX3_summary.cls = RX3 ∧ yX3_summary.cls ≠ "java/lang/invoke/MethodHandle" ∧ yX3_summary.cls ≠ "java/lang/invoke/VarHandle" ∧ (parseMethodDescriptor yX3_summary.desc).map (fun d => d.parameters.length) = some 0 := by decide +kernel
theorem z_X4_init : yX4_init.cls = RX4 ∧ yX4_init.cls ≠ "java/lang/invoke/MethodHandle" ∧ yX4_init.cls ≠ "java/lang/invoke/VarHandle" ∧ (parseMethodDescriptor yX4_init.desc).map (fun d => d.parameters.length) = some 0 := by decide +kernel
theorem z_X4_isFull : yX4_isFull.cls = RX4 ∧ yX4_isFull.cls ≠ "java/lang/invoke/MethodHandle" ∧ yX4_isFull.cls ≠ "java/lang/invoke/VarHandle" ∧ (parseMethodDescriptor yX4_isFull.desc).map (fun d => d.parameters.length) = some 0 := by decide +kernel
theorem z_X4_add : yX4_add.cls = RX4 ∧ yX4_add.cls ≠ "java/lang/invoke/MethodHandle" ∧ yX4_add.cls ≠ "java/lang/invoke/VarHandle" ∧ (parseMethodDescriptor yX4_add.desc).map (fun d => d.parameters.length) = some 1 := by decide +kernel
theorem z_X4_empty : yX4_empty.cls = RX4 ∧ yX4_empty.cls ≠ "java/lang/invoke/MethodHandle" ∧ yX4_empty.cls ≠ "java/lang/invoke/VarHandle" ∧ (parseMethodDescriptor yX4_empty.desc).map (fun d => d.parameters.length) = some 0 := by decide +kernel
theorem z_X4_firstError : yX4_firstError.cls = RX4 ∧ yX4_firstError.cls ≠ "java/lang/invoke/MethodHandle" ∧ yX4_firstError.cls ≠ "java/lang/invoke/VarHandle" ∧ (parseMethodDescriptor yX4_firstError.desc).map (fun d => d.parameters.length) = some 0 := by decide +kernel
theorem z_X4_awaitedBehind : yX4_awaitedBehind.cls = RX4 ∧ yX4_awaitedBehind.cls ≠ "java/lang/invoke/MethodHandle" ∧ yX4_awaitedBehind.cls ≠ "java/lang/invoke/VarHandle" ∧ (parseMethodDescriptor yX4_awaitedBehind.desc).map (fun d => d.parameters.length) = some 2 := by decide +kernel
theorem z_X4_noteIn : yX4_noteIn.cls = RX4 ∧ yX4_noteIn.cls ≠ "java/lang/invoke/MethodHandle" ∧ yX4_noteIn.cls ≠ "java/lang/invoke/VarHandle" ∧ (parseMethodDescriptor yX4_noteIn.desc).map (fun d => d.parameters.length) = some 1 := by decide +kernel
theorem z_X4_signAt : yX4_signAt.cls = RX4 ∧ yX4_signAt.cls ≠ "java/lang/invoke/MethodHandle" ∧ yX4_signAt.cls ≠ "java/lang/invoke/VarHandle" ∧ (parseMethodDescriptor yX4_signAt.desc).map (fun d => d.parameters.length) = some 1 := by decide +kernel
theorem z_X5_init : yX5_init.cls = RX5 ∧ yX5_init.cls ≠ "java/lang/invoke/MethodHandle" ∧ yX5_init.cls ≠ "java/lang/invoke/VarHandle" ∧ (parseMethodDescriptor yX5_init.desc).map (fun d => d.parameters.length) = some 0 := by decide +kernel
theorem z_X5_append : yX5_append.cls = RX5 ∧ yX5_append.cls ≠ "java/lang/invoke/MethodHandle" ∧ yX5_append.cls ≠ "java/lang/invoke/VarHandle" ∧ (parseMethodDescriptor yX5_append.desc).map (fun d => d.parameters.length) = some 1 := by decide +kernel
theorem z_X5_clearText : yX5_clearText.cls = RX5 ∧ yX5_clearText.cls ≠ "java/lang/invoke/MethodHandle" ∧ yX5_clearText.cls ≠ "java/lang/invoke/VarHandle" ∧ (parseMethodDescriptor yX5_clearText.desc).map (fun d => d.parameters.length) = some 0 := by decide +kernel
theorem z_X5_errorPosition : yX5_errorPosition.cls = RX5 ∧ yX5_errorPosition.cls ≠ "java/lang/invoke/MethodHandle" ∧ yX5_errorPosition.cls ≠ "java/lang/invoke/VarHandle" ∧ (parseMethodDescriptor yX5_errorPosition.desc).map (fun d => d.parameters.length) = some 0 := by decide +kernel
theorem z_X5_about : yX5_about.cls = RX5 ∧ yX5_about.cls ≠ "java/lang/invoke/MethodHandle" ∧ yX5_about.cls ≠ "java/lang/invoke/VarHandle" ∧ (parseMethodDescriptor yX5_about.desc).map (fun d => d.parameters.length) = some 1 := by decide +kernel
theorem z_X5_road : yX5_road.cls = RX5 ∧ yX5_road.cls ≠ "java/lang/invoke/MethodHandle" ∧ yX5_road.cls ≠ "java/lang/invoke/VarHandle" ∧ (parseMethodDescriptor yX5_road.desc).map (fun d => d.parameters.length) = some 2 := by decide +kernel
theorem z_X5_neighbor : yX5_neighbor.cls = RX5 ∧ yX5_neighbor.cls ≠ "java/lang/invoke/MethodHandle" ∧ yX5_neighbor.cls ≠ "java/lang/invoke/VarHandle" ∧ (parseMethodDescriptor yX5_neighbor.desc).map (fun d => d.parameters.length) = some 2 := by decide +kernel
theorem z_X5_report : yX5_report.cls = RX5 ∧ yX5_report.cls ≠ "java/lang/invoke/MethodHandle" ∧ yX5_report.cls ≠ "java/lang/invoke/VarHandle" ∧ (parseMethodDescriptor yX5_report.desc).map (fun d => d.parameters.length) = some 3 := by decide +kernel
theorem z_X5_found : yX5_found.cls = RX5 ∧ yX5_found.cls ≠ "java/lang/invoke/MethodHandle" ∧ yX5_found.cls ≠ "java/lang/invoke/VarHandle" ∧ (parseMethodDescriptor yX5_found.desc).map (fun d => d.parameters.length) = some 0 := by decide +kernel
theorem z_X5_lay : yX5_lay.cls = RX5 ∧ yX5_lay.cls ≠ "java/lang/invoke/MethodHandle" ∧ yX5_lay.cls ≠ "java/lang/invoke/VarHandle" ∧ (parseMethodDescriptor yX5_lay.desc).map (fun d => d.parameters.length) = some 3 := by decide +kernel
theorem z_X5_tear : yX5_tear.cls = RX5 ∧ yX5_tear.cls ≠ "java/lang/invoke/MethodHandle" ∧ yX5_tear.cls ≠ "java/lang/invoke/VarHandle" ∧ (parseMethodDescriptor yX5_tear.desc).map (fun d => d.parameters.length) = some 2 := by decide +kernel
theorem z_X5_see : yX5_see.cls = RX5 ∧ yX5_see.cls ≠ "java/lang/invoke/MethodHandle" ∧ yX5_see.cls ≠ "java/lang/invoke/VarHandle" ∧ (parseMethodDescriptor yX5_see.desc).map (fun d => d.parameters.length) = some 4 := by decide +kernel
theorem z_X5_seeAll : yX5_seeAll.cls = RX5 ∧ yX5_seeAll.cls ≠ "java/lang/invoke/MethodHandle" ∧ yX5_seeAll.cls ≠ "java/lang/invoke/VarHandle" ∧ (parseMethodDescriptor yX5_seeAll.desc).map (fun d => d.parameters.length) = some 0 := by decide +kernel
theorem z_X5_forget : yX5_forget.cls = RX5 ∧ yX5_forget.cls ≠ "java/lang/invoke/MethodHandle" ∧ yX5_forget.cls ≠ "java/lang/invoke/VarHandle" ∧ (parseMethodDescriptor yX5_forget.desc).map (fun d => d.parameters.length) = some 2 := by decide +kernel
theorem z_X5_undo : yX5_undo.cls = RX5 ∧ yX5_undo.cls ≠ "java/lang/invoke/MethodHandle" ∧ yX5_undo.cls ≠ "java/lang/invoke/VarHandle" ∧ (parseMethodDescriptor yX5_undo.desc).map (fun d => d.parameters.length) = some 0 := by decide +kernel
theorem z_X5_inventions : yX5_inventions.cls = RX5 ∧ yX5_inventions.cls ≠ "java/lang/invoke/MethodHandle" ∧ yX5_inventions.cls ≠ "java/lang/invoke/VarHandle" ∧ (parseMethodDescriptor yX5_inventions.desc).map (fun d => d.parameters.length) = some 1 := by decide +kernel
theorem z_X5_invented : yX5_invented.cls = RX5 ∧ yX5_invented.cls ≠ "java/lang/invoke/MethodHandle" ∧ yX5_invented.cls ≠ "java/lang/invoke/VarHandle" ∧ (parseMethodDescriptor yX5_invented.desc).map (fun d => d.parameters.length) = some 2 := by decide +kernel
theorem z_X5_choices : yX5_choices.cls = RX5 ∧ yX5_choices.cls ≠ "java/lang/invoke/MethodHandle" ∧ yX5_choices.cls ≠ "java/lang/invoke/VarHandle" ∧ (parseMethodDescriptor yX5_choices.desc).map (fun d => d.parameters.length) = some 1 := by decide +kernel
theorem z_X5_since : yX5_since.cls = RX5 ∧ yX5_since.cls ≠ "java/lang/invoke/MethodHandle" ∧ yX5_since.cls ≠ "java/lang/invoke/VarHandle" ∧ (parseMethodDescriptor yX5_since.desc).map (fun d => d.parameters.length) = some 2 := by decide +kernel
theorem z_X5_reached : yX5_reached.cls = RX5 ∧ yX5_reached.cls ≠ "java/lang/invoke/MethodHandle" ∧ yX5_reached.cls ≠ "java/lang/invoke/VarHandle" ∧ (parseMethodDescriptor yX5_reached.desc).map (fun d => d.parameters.length) = some 2 := by decide +kernel
theorem z_X5_passed : yX5_passed.cls = RX5 ∧ yX5_passed.cls ≠ "java/lang/invoke/MethodHandle" ∧ yX5_passed.cls ≠ "java/lang/invoke/VarHandle" ∧ (parseMethodDescriptor yX5_passed.desc).map (fun d => d.parameters.length) = some 3 := by decide +kernel
theorem z_X5_ifLaid : yX5_ifLaid.cls = RX5 ∧ yX5_ifLaid.cls ≠ "java/lang/invoke/MethodHandle" ∧ yX5_ifLaid.cls ≠ "java/lang/invoke/VarHandle" ∧ (parseMethodDescriptor yX5_ifLaid.desc).map (fun d => d.parameters.length) = some 3 := by decide +kernel
theorem z_X5_bestRoad : yX5_bestRoad.cls = RX5 ∧ yX5_bestRoad.cls ≠ "java/lang/invoke/MethodHandle" ∧ yX5_bestRoad.cls ≠ "java/lang/invoke/VarHandle" ∧ (parseMethodDescriptor yX5_bestRoad.desc).map (fun d => d.parameters.length) = some 1 := by decide +kernel
theorem z_X5_dearest : yX5_dearest.cls = RX5 ∧ yX5_dearest.cls ≠ "java/lang/invoke/MethodHandle" ∧ yX5_dearest.cls ≠ "java/lang/invoke/VarHandle" ∧ (parseMethodDescriptor yX5_dearest.desc).map (fun d => d.parameters.length) = some 0 := by decide +kernel
theorem z_X5_runScript : yX5_runScript.cls = RX5 ∧ yX5_runScript.cls ≠ "java/lang/invoke/MethodHandle" ∧ yX5_runScript.cls ≠ "java/lang/invoke/VarHandle" ∧ (parseMethodDescriptor yX5_runScript.desc).map (fun d => d.parameters.length) = some 2 := by decide +kernel
theorem z_X5_simulate : yX5_simulate.cls = RX5 ∧ yX5_simulate.cls ≠ "java/lang/invoke/MethodHandle" ∧ yX5_simulate.cls ≠ "java/lang/invoke/VarHandle" ∧ (parseMethodDescriptor yX5_simulate.desc).map (fun d => d.parameters.length) = some 2 := by decide +kernel
theorem z_X5_save : yX5_save.cls = RX5 ∧ yX5_save.cls ≠ "java/lang/invoke/MethodHandle" ∧ yX5_save.cls ≠ "java/lang/invoke/VarHandle" ∧ (parseMethodDescriptor yX5_save.desc).map (fun d => d.parameters.length) = some 1 := by decide +kernel
theorem z_X5_restore : yX5_restore.cls = RX5 ∧ yX5_restore.cls ≠ "java/lang/invoke/MethodHandle" ∧ yX5_restore.cls ≠ "java/lang/invoke/VarHandle" ∧ (parseMethodDescriptor yX5_restore.desc).map (fun d => d.parameters.length) = some 1 := by decide +kernel
theorem z_X5_needTown : yX5_needTown.cls = RX5 ∧ yX5_needTown.cls ≠ "java/lang/invoke/MethodHandle" ∧ yX5_needTown.cls ≠ "java/lang/invoke/VarHandle" ∧ (parseMethodDescriptor yX5_needTown.desc).map (fun d => d.parameters.length) = some 1 := by decide +kernel
theorem z_X5_needPossibleRoad : yX5_needPossibleRoad.cls = RX5 ∧ yX5_needPossibleRoad.cls ≠ "java/lang/invoke/MethodHandle" ∧ yX5_needPossibleRoad.cls ≠ "java/lang/invoke/VarHandle" ∧ (parseMethodDescriptor yX5_needPossibleRoad.desc).map (fun d => d.parameters.length) = some 3 := by decide +kernel
theorem z_X5_needTrait : yX5_needTrait.cls = RX5 ∧ yX5_needTrait.cls ≠ "java/lang/invoke/MethodHandle" ∧ yX5_needTrait.cls ≠ "java/lang/invoke/VarHandle" ∧ (parseMethodDescriptor yX5_needTrait.desc).map (fun d => d.parameters.length) = some 1 := by decide +kernel
theorem z_X5_needCount : yX5_needCount.cls = RX5 ∧ yX5_needCount.cls ≠ "java/lang/invoke/MethodHandle" ∧ yX5_needCount.cls ≠ "java/lang/invoke/VarHandle" ∧ (parseMethodDescriptor yX5_needCount.desc).map (fun d => d.parameters.length) = some 1 := by decide +kernel
theorem z_X5_needSlot : yX5_needSlot.cls = RX5 ∧ yX5_needSlot.cls ≠ "java/lang/invoke/MethodHandle" ∧ yX5_needSlot.cls ≠ "java/lang/invoke/VarHandle" ∧ (parseMethodDescriptor yX5_needSlot.desc).map (fun d => d.parameters.length) = some 1 := by decide +kernel
theorem z_X5_isTrait : yX5_isTrait.cls = RX5 ∧ yX5_isTrait.cls ≠ "java/lang/invoke/MethodHandle" ∧ yX5_isTrait.cls ≠ "java/lang/invoke/VarHandle" ∧ (parseMethodDescriptor yX5_isTrait.desc).map (fun d => d.parameters.length) = some 1 := by decide +kernel
theorem z_X5_isYear : yX5_isYear.cls = RX5 ∧ yX5_isYear.cls ≠ "java/lang/invoke/MethodHandle" ∧ yX5_isYear.cls ≠ "java/lang/invoke/VarHandle" ∧ (parseMethodDescriptor yX5_isYear.desc).map (fun d => d.parameters.length) = some 1 := by decide +kernel
theorem z_X5_isLength : yX5_isLength.cls = RX5 ∧ yX5_isLength.cls ≠ "java/lang/invoke/MethodHandle" ∧ yX5_isLength.cls ≠ "java/lang/invoke/VarHandle" ∧ (parseMethodDescriptor yX5_isLength.desc).map (fun d => d.parameters.length) = some 1 := by decide +kernel
theorem z_J6_bitCount_0f7a4 : yJ6_bitCount_0f7a4.cls = RJ6 ∧ yJ6_bitCount_0f7a4.cls ≠ "java/lang/invoke/MethodHandle" ∧ yJ6_bitCount_0f7a4.cls ≠ "java/lang/invoke/VarHandle" ∧ (parseMethodDescriptor yJ6_bitCount_0f7a4.desc).map (fun d => d.parameters.length) = some 1 := by decide +kernel
theorem z_J9_max_7cf53 : yJ9_max_7cf53.cls = RJ9 ∧ yJ9_max_7cf53.cls ≠ "java/lang/invoke/MethodHandle" ∧ yJ9_max_7cf53.cls ≠ "java/lang/invoke/VarHandle" ∧ (parseMethodDescriptor yJ9_max_7cf53.desc).map (fun d => d.parameters.length) = some 2 := by decide +kernel
theorem z_J9_min_7cf53 : yJ9_min_7cf53.cls = RJ9 ∧ yJ9_min_7cf53.cls ≠ "java/lang/invoke/MethodHandle" ∧ yJ9_min_7cf53.cls ≠ "java/lang/invoke/VarHandle" ∧ (parseMethodDescriptor yJ9_min_7cf53.desc).map (fun d => d.parameters.length) = some 2 := by decide +kernel
theorem z_J7_fill_53178 : yJ7_fill_53178.cls = RJ7 ∧ yJ7_fill_53178.cls ≠ "java/lang/invoke/MethodHandle" ∧ yJ7_fill_53178.cls ≠ "java/lang/invoke/VarHandle" ∧ (parseMethodDescriptor yJ7_fill_53178.desc).map (fun d => d.parameters.length) = some 2 := by decide +kernel
theorem z_L_tryReport : yL_tryReport.cls = RL ∧ yL_tryReport.cls ≠ "java/lang/invoke/MethodHandle" ∧ yL_tryReport.cls ≠ "java/lang/invoke/VarHandle" ∧ (parseMethodDescriptor yL_tryReport.desc).map (fun d => d.parameters.length) = some 4 := by decide +kernel
theorem z_L_trySee : yL_trySee.cls = RL ∧ yL_trySee.cls ≠ "java/lang/invoke/MethodHandle" ∧ yL_trySee.cls ≠ "java/lang/invoke/VarHandle" ∧ (parseMethodDescriptor yL_trySee.desc).map (fun d => d.parameters.length) = some 5 := by decide +kernel
theorem z_L_tryScript : yL_tryScript.cls = RL ∧ yL_tryScript.cls ≠ "java/lang/invoke/MethodHandle" ∧ yL_tryScript.cls ≠ "java/lang/invoke/VarHandle" ∧ (parseMethodDescriptor yL_tryScript.desc).map (fun d => d.parameters.length) = some 3 := by decide +kernel
theorem z_L_trySimulate : yL_trySimulate.cls = RL ∧ yL_trySimulate.cls ≠ "java/lang/invoke/MethodHandle" ∧ yL_trySimulate.cls ≠ "java/lang/invoke/VarHandle" ∧ (parseMethodDescriptor yL_trySimulate.desc).map (fun d => d.parameters.length) = some 3 := by decide +kernel
theorem z_L_tryAppend : yL_tryAppend.cls = RL ∧ yL_tryAppend.cls ≠ "java/lang/invoke/MethodHandle" ∧ yL_tryAppend.cls ≠ "java/lang/invoke/VarHandle" ∧ (parseMethodDescriptor yL_tryAppend.desc).map (fun d => d.parameters.length) = some 2 := by decide +kernel
theorem z_L_tryAbout : yL_tryAbout.cls = RL ∧ yL_tryAbout.cls ≠ "java/lang/invoke/MethodHandle" ∧ yL_tryAbout.cls ≠ "java/lang/invoke/VarHandle" ∧ (parseMethodDescriptor yL_tryAbout.desc).map (fun d => d.parameters.length) = some 2 := by decide +kernel
theorem z_L_tryRoad : yL_tryRoad.cls = RL ∧ yL_tryRoad.cls ≠ "java/lang/invoke/MethodHandle" ∧ yL_tryRoad.cls ≠ "java/lang/invoke/VarHandle" ∧ (parseMethodDescriptor yL_tryRoad.desc).map (fun d => d.parameters.length) = some 3 := by decide +kernel
theorem z_L_tryNeighbor : yL_tryNeighbor.cls = RL ∧ yL_tryNeighbor.cls ≠ "java/lang/invoke/MethodHandle" ∧ yL_tryNeighbor.cls ≠ "java/lang/invoke/VarHandle" ∧ (parseMethodDescriptor yL_tryNeighbor.desc).map (fun d => d.parameters.length) = some 3 := by decide +kernel
theorem z_L_tryFound : yL_tryFound.cls = RL ∧ yL_tryFound.cls ≠ "java/lang/invoke/MethodHandle" ∧ yL_tryFound.cls ≠ "java/lang/invoke/VarHandle" ∧ (parseMethodDescriptor yL_tryFound.desc).map (fun d => d.parameters.length) = some 1 := by decide +kernel
theorem z_L_tryLay : yL_tryLay.cls = RL ∧ yL_tryLay.cls ≠ "java/lang/invoke/MethodHandle" ∧ yL_tryLay.cls ≠ "java/lang/invoke/VarHandle" ∧ (parseMethodDescriptor yL_tryLay.desc).map (fun d => d.parameters.length) = some 4 := by decide +kernel
theorem z_L_tryTear : yL_tryTear.cls = RL ∧ yL_tryTear.cls ≠ "java/lang/invoke/MethodHandle" ∧ yL_tryTear.cls ≠ "java/lang/invoke/VarHandle" ∧ (parseMethodDescriptor yL_tryTear.desc).map (fun d => d.parameters.length) = some 3 := by decide +kernel
theorem z_L_trySeeAll : yL_trySeeAll.cls = RL ∧ yL_trySeeAll.cls ≠ "java/lang/invoke/MethodHandle" ∧ yL_trySeeAll.cls ≠ "java/lang/invoke/VarHandle" ∧ (parseMethodDescriptor yL_trySeeAll.desc).map (fun d => d.parameters.length) = some 1 := by decide +kernel
theorem z_L_tryForget : yL_tryForget.cls = RL ∧ yL_tryForget.cls ≠ "java/lang/invoke/MethodHandle" ∧ yL_tryForget.cls ≠ "java/lang/invoke/VarHandle" ∧ (parseMethodDescriptor yL_tryForget.desc).map (fun d => d.parameters.length) = some 3 := by decide +kernel
theorem z_L_tryUndo : yL_tryUndo.cls = RL ∧ yL_tryUndo.cls ≠ "java/lang/invoke/MethodHandle" ∧ yL_tryUndo.cls ≠ "java/lang/invoke/VarHandle" ∧ (parseMethodDescriptor yL_tryUndo.desc).map (fun d => d.parameters.length) = some 1 := by decide +kernel
theorem z_L_tryInventions : yL_tryInventions.cls = RL ∧ yL_tryInventions.cls ≠ "java/lang/invoke/MethodHandle" ∧ yL_tryInventions.cls ≠ "java/lang/invoke/VarHandle" ∧ (parseMethodDescriptor yL_tryInventions.desc).map (fun d => d.parameters.length) = some 2 := by decide +kernel
theorem z_L_tryInvented : yL_tryInvented.cls = RL ∧ yL_tryInvented.cls ≠ "java/lang/invoke/MethodHandle" ∧ yL_tryInvented.cls ≠ "java/lang/invoke/VarHandle" ∧ (parseMethodDescriptor yL_tryInvented.desc).map (fun d => d.parameters.length) = some 3 := by decide +kernel
theorem z_L_tryChoices : yL_tryChoices.cls = RL ∧ yL_tryChoices.cls ≠ "java/lang/invoke/MethodHandle" ∧ yL_tryChoices.cls ≠ "java/lang/invoke/VarHandle" ∧ (parseMethodDescriptor yL_tryChoices.desc).map (fun d => d.parameters.length) = some 2 := by decide +kernel
theorem z_L_trySince : yL_trySince.cls = RL ∧ yL_trySince.cls ≠ "java/lang/invoke/MethodHandle" ∧ yL_trySince.cls ≠ "java/lang/invoke/VarHandle" ∧ (parseMethodDescriptor yL_trySince.desc).map (fun d => d.parameters.length) = some 3 := by decide +kernel
theorem z_L_tryReached : yL_tryReached.cls = RL ∧ yL_tryReached.cls ≠ "java/lang/invoke/MethodHandle" ∧ yL_tryReached.cls ≠ "java/lang/invoke/VarHandle" ∧ (parseMethodDescriptor yL_tryReached.desc).map (fun d => d.parameters.length) = some 3 := by decide +kernel
theorem z_L_tryPassed : yL_tryPassed.cls = RL ∧ yL_tryPassed.cls ≠ "java/lang/invoke/MethodHandle" ∧ yL_tryPassed.cls ≠ "java/lang/invoke/VarHandle" ∧ (parseMethodDescriptor yL_tryPassed.desc).map (fun d => d.parameters.length) = some 4 := by decide +kernel
theorem z_L_tryIfLaid : yL_tryIfLaid.cls = RL ∧ yL_tryIfLaid.cls ≠ "java/lang/invoke/MethodHandle" ∧ yL_tryIfLaid.cls ≠ "java/lang/invoke/VarHandle" ∧ (parseMethodDescriptor yL_tryIfLaid.desc).map (fun d => d.parameters.length) = some 4 := by decide +kernel
theorem z_L_tryBestRoad : yL_tryBestRoad.cls = RL ∧ yL_tryBestRoad.cls ≠ "java/lang/invoke/MethodHandle" ∧ yL_tryBestRoad.cls ≠ "java/lang/invoke/VarHandle" ∧ (parseMethodDescriptor yL_tryBestRoad.desc).map (fun d => d.parameters.length) = some 2 := by decide +kernel
theorem z_L_tryKeep : yL_tryKeep.cls = RL ∧ yL_tryKeep.cls ≠ "java/lang/invoke/MethodHandle" ∧ yL_tryKeep.cls ≠ "java/lang/invoke/VarHandle" ∧ (parseMethodDescriptor yL_tryKeep.desc).map (fun d => d.parameters.length) = some 2 := by decide +kernel
theorem z_L_tryBack : yL_tryBack.cls = RL ∧ yL_tryBack.cls ≠ "java/lang/invoke/MethodHandle" ∧ yL_tryBack.cls ≠ "java/lang/invoke/VarHandle" ∧ (parseMethodDescriptor yL_tryBack.desc).map (fun d => d.parameters.length) = some 2 := by decide +kernel
theorem z_L_call : yL_call.cls = RL ∧ yL_call.cls ≠ "java/lang/invoke/MethodHandle" ∧ yL_call.cls ≠ "java/lang/invoke/VarHandle" ∧ (parseMethodDescriptor yL_call.desc).map (fun d => d.parameters.length) = some 5 := by decide +kernel
theorem z_L_cell : yL_cell.cls = RL ∧ yL_cell.cls ≠ "java/lang/invoke/MethodHandle" ∧ yL_cell.cls ≠ "java/lang/invoke/VarHandle" ∧ (parseMethodDescriptor yL_cell.desc).map (fun d => d.parameters.length) = some 2 := by decide +kernel
theorem z_L_refuses : yL_refuses.cls = RL ∧ yL_refuses.cls ≠ "java/lang/invoke/MethodHandle" ∧ yL_refuses.cls ≠ "java/lang/invoke/VarHandle" ∧ (parseMethodDescriptor yL_refuses.desc).map (fun d => d.parameters.length) = some 2 := by decide +kernel
theorem z_L_alike : yL_alike.cls = RL ∧ yL_alike.cls ≠ "java/lang/invoke/MethodHandle" ∧ yL_alike.cls ≠ "java/lang/invoke/VarHandle" ∧ (parseMethodDescriptor yL_alike.desc).map (fun d => d.parameters.length) = some 3 := by decide +kernel
theorem z_L_holds : yL_holds.cls = RL ∧ yL_holds.cls ≠ "java/lang/invoke/MethodHandle" ∧ yL_holds.cls ≠ "java/lang/invoke/VarHandle" ∧ (parseMethodDescriptor yL_holds.desc).map (fun d => d.parameters.length) = some 2 := by decide +kernel
theorem z_L_act : yL_act.cls = RL ∧ yL_act.cls ≠ "java/lang/invoke/MethodHandle" ∧ yL_act.cls ≠ "java/lang/invoke/VarHandle" ∧ (parseMethodDescriptor yL_act.desc).map (fun d => d.parameters.length) = some 3 := by decide +kernel
theorem z_L_law : yL_law.cls = RL ∧ yL_law.cls ≠ "java/lang/invoke/MethodHandle" ∧ yL_law.cls ≠ "java/lang/invoke/VarHandle" ∧ (parseMethodDescriptor yL_law.desc).map (fun d => d.parameters.length) = some 1 := by decide +kernel
theorem dX0_init_0 : decode cX0_init 0 = .ok (.aload_n 0, 1) := by decide +kernel
theorem dX0_init_1 : decode cX0_init 1 = .ok (.invokespecial 3, 3) := by decide +kernel
theorem dX0_init_4 : decode cX0_init 4 = .ok (.aload_n 0, 1) := by decide +kernel
theorem dX0_init_5 : decode cX0_init 5 = .ok (.bipush 15, 2) := by decide +kernel
theorem dX0_init_7 : decode cX0_init 7 = .ok (.newarray .int, 2) := by decide +kernel
theorem dX0_init_9 : decode cX0_init 9 = .ok (.putfield 9, 3) := by decide +kernel
theorem dX0_init_12 : decode cX0_init 12 = .ok (.aload_n 0, 1) := by decide +kernel
theorem dX0_init_13 : decode cX0_init 13 = .ok (.bipush 15, 2) := by decide +kernel
theorem dX0_init_15 : decode cX0_init 15 = .ok (.newarray .int, 2) := by decide +kernel
theorem dX0_init_17 : decode cX0_init 17 = .ok (.putfield 15, 3) := by decide +kernel
theorem dX0_init_20 : decode cX0_init 20 = .ok (.aload_n 0, 1) := by decide +kernel
theorem dX0_init_21 : decode cX0_init 21 = .ok (.bipush 15, 2) := by decide +kernel
theorem dX0_init_23 : decode cX0_init 23 = .ok (.newarray .int, 2) := by decide +kernel
theorem dX0_init_25 : decode cX0_init 25 = .ok (.putfield 18, 3) := by decide +kernel
theorem dX0_init_28 : decode cX0_init 28 = .ok (.aload_n 0, 1) := by decide +kernel
theorem dX0_init_29 : decode cX0_init 29 = .ok (.bipush 10, 2) := by decide +kernel
theorem dX0_init_31 : decode cX0_init 31 = .ok (.newarray .int, 2) := by decide +kernel
theorem dX0_init_33 : decode cX0_init 33 = .ok (.putfield 21, 3) := by decide +kernel
theorem dX0_init_36 : decode cX0_init 36 = .ok (.aload_n 0, 1) := by decide +kernel
theorem dX0_init_37 : decode cX0_init 37 = .ok (.bipush 10, 2) := by decide +kernel
theorem dX0_init_39 : decode cX0_init 39 = .ok (.newarray .int, 2) := by decide +kernel
theorem dX0_init_41 : decode cX0_init 41 = .ok (.putfield 24, 3) := by decide +kernel
theorem dX0_init_44 : decode cX0_init 44 = .ok (.aload_n 0, 1) := by decide +kernel
theorem dX0_init_45 : decode cX0_init 45 = .ok (.bipush 10, 2) := by decide +kernel
theorem dX0_init_47 : decode cX0_init 47 = .ok (.newarray .int, 2) := by decide +kernel
theorem dX0_init_49 : decode cX0_init 49 = .ok (.putfield 27, 3) := by decide +kernel
theorem dX0_init_52 : decode cX0_init 52 = .ok (.aload_n 0, 1) := by decide +kernel
theorem dX0_init_53 : decode cX0_init 53 = .ok (.bipush 10, 2) := by decide +kernel
theorem dX0_init_55 : decode cX0_init 55 = .ok (.newarray .int, 2) := by decide +kernel
theorem dX0_init_57 : decode cX0_init 57 = .ok (.putfield 30, 3) := by decide +kernel
theorem dX0_init_60 : decode cX0_init 60 = .ok (.aload_n 0, 1) := by decide +kernel
theorem dX0_init_61 : decode cX0_init 61 = .ok (.sipush 1024, 3) := by decide +kernel
theorem dX0_init_64 : decode cX0_init 64 = .ok (.newarray .int, 2) := by decide +kernel
theorem dX0_init_66 : decode cX0_init 66 = .ok (.putfield 33, 3) := by decide +kernel
theorem dX0_init_69 : decode cX0_init 69 = .ok (.return_, 1) := by decide +kernel
theorem dX0_allInventions_0 : decode cX0_allInventions 0 = .ok (.iconst 0, 1) := by decide +kernel
theorem dX0_allInventions_1 : decode cX0_allInventions 1 = .ok (.istore_n 2, 1) := by decide +kernel
theorem dX0_allInventions_2 : decode cX0_allInventions 2 = .ok (.iconst 0, 1) := by decide +kernel
theorem dX0_allInventions_3 : decode cX0_allInventions 3 = .ok (.istore_n 3, 1) := by decide +kernel
theorem dX0_allInventions_4 : decode cX0_allInventions 4 = .ok (.iload_n 3, 1) := by decide +kernel
theorem dX0_allInventions_5 : decode cX0_allInventions 5 = .ok (.bipush 6, 2) := by decide +kernel
theorem dX0_allInventions_7 : decode cX0_allInventions 7 = .ok (.if_icmp .ge 22, 3) := by decide +kernel
theorem dX0_allInventions_10 : decode cX0_allInventions 10 = .ok (.iload_n 2, 1) := by decide +kernel
theorem dX0_allInventions_11 : decode cX0_allInventions 11 = .ok (.aload_n 0, 1) := by decide +kernel
theorem dX0_allInventions_12 : decode cX0_allInventions 12 = .ok (.aload_n 1, 1) := by decide +kernel
theorem dX0_allInventions_13 : decode cX0_allInventions 13 = .ok (.iload_n 3, 1) := by decide +kernel
theorem dX0_allInventions_14 : decode cX0_allInventions 14 = .ok (.invokevirtual 36, 3) := by decide +kernel
theorem dX0_allInventions_17 : decode cX0_allInventions 17 = .ok (.iconst 0, 1) := by decide +kernel
theorem dX0_allInventions_18 : decode cX0_allInventions 18 = .ok (.invokestatic 40, 3) := by decide +kernel
theorem dX0_allInventions_21 : decode cX0_allInventions 21 = .ok (.iadd, 1) := by decide +kernel
theorem dX0_allInventions_22 : decode cX0_allInventions 22 = .ok (.istore_n 2, 1) := by decide +kernel
theorem dX0_allInventions_23 : decode cX0_allInventions 23 = .ok (.iinc 3 1, 3) := by decide +kernel
theorem dX0_allInventions_26 : decode cX0_allInventions 26 = .ok (.goto (-22), 3) := by decide +kernel
theorem dX0_allInventions_29 : decode cX0_allInventions 29 = .ok (.iload_n 2, 1) := by decide +kernel
theorem dX0_allInventions_30 : decode cX0_allInventions 30 = .ok (.ireturn, 1) := by decide +kernel
theorem dX0_inventedTraits_0 : decode cX0_inventedTraits 0 = .ok (.iconst 0, 1) := by decide +kernel
theorem dX0_inventedTraits_1 : decode cX0_inventedTraits 1 = .ok (.istore_n 2, 1) := by decide +kernel
theorem dX0_inventedTraits_2 : decode cX0_inventedTraits 2 = .ok (.iconst 0, 1) := by decide +kernel
theorem dX0_inventedTraits_3 : decode cX0_inventedTraits 3 = .ok (.istore_n 3, 1) := by decide +kernel
theorem dX0_inventedTraits_4 : decode cX0_inventedTraits 4 = .ok (.iload_n 3, 1) := by decide +kernel
theorem dX0_inventedTraits_5 : decode cX0_inventedTraits 5 = .ok (.bipush 6, 2) := by decide +kernel
theorem dX0_inventedTraits_7 : decode cX0_inventedTraits 7 = .ok (.if_icmp .ge 21, 3) := by decide +kernel
theorem dX0_inventedTraits_10 : decode cX0_inventedTraits 10 = .ok (.aload_n 0, 1) := by decide +kernel
theorem dX0_inventedTraits_11 : decode cX0_inventedTraits 11 = .ok (.aload_n 1, 1) := by decide +kernel
theorem dX0_inventedTraits_12 : decode cX0_inventedTraits 12 = .ok (.iload_n 3, 1) := by decide +kernel
theorem dX0_inventedTraits_13 : decode cX0_inventedTraits 13 = .ok (.invokevirtual 36, 3) := by decide +kernel
theorem dX0_inventedTraits_16 : decode cX0_inventedTraits 16 = .ok (.ifCond .le 6, 3) := by decide +kernel
theorem dX0_inventedTraits_19 : decode cX0_inventedTraits 19 = .ok (.iinc 2 1, 3) := by decide +kernel
theorem dX0_inventedTraits_22 : decode cX0_inventedTraits 22 = .ok (.iinc 3 1, 3) := by decide +kernel
theorem dX0_inventedTraits_25 : decode cX0_inventedTraits 25 = .ok (.goto (-21), 3) := by decide +kernel
theorem dX0_inventedTraits_28 : decode cX0_inventedTraits 28 = .ok (.iload_n 2, 1) := by decide +kernel
theorem dX0_inventedTraits_29 : decode cX0_inventedTraits 29 = .ok (.ireturn, 1) := by decide +kernel
theorem dX0_study_0 : decode cX0_study 0 = .ok (.aload_n 0, 1) := by decide +kernel
theorem dX0_study_1 : decode cX0_study 1 = .ok (.aload_n 1, 1) := by decide +kernel
theorem dX0_study_2 : decode cX0_study 2 = .ok (.invokevirtual 46, 3) := by decide +kernel
theorem dX0_study_5 : decode cX0_study 5 = .ok (.bipush 10, 2) := by decide +kernel
theorem dX0_study_7 : decode cX0_study 7 = .ok (.invokestatic 52, 3) := by decide +kernel
theorem dX0_study_10 : decode cX0_study 10 = .ok (.putfield 55, 3) := by decide +kernel
theorem dX0_study_13 : decode cX0_study 13 = .ok (.aload_n 0, 1) := by decide +kernel
theorem dX0_study_14 : decode cX0_study 14 = .ok (.iconst (-1), 1) := by decide +kernel
theorem dX0_study_15 : decode cX0_study 15 = .ok (.putfield 59, 3) := by decide +kernel
theorem dX0_study_18 : decode cX0_study 18 = .ok (.aload_n 0, 1) := by decide +kernel
theorem dX0_study_19 : decode cX0_study 19 = .ok (.iconst 0, 1) := by decide +kernel
theorem dX0_study_20 : decode cX0_study 20 = .ok (.putfield 62, 3) := by decide +kernel
theorem dX0_study_23 : decode cX0_study 23 = .ok (.aload_n 0, 1) := by decide +kernel
theorem dX0_study_24 : decode cX0_study 24 = .ok (.aload_n 1, 1) := by decide +kernel
theorem dX0_study_25 : decode cX0_study 25 = .ok (.invokevirtual 65, 3) := by decide +kernel
theorem dX0_study_28 : decode cX0_study 28 = .ok (.aload_n 0, 1) := by decide +kernel
theorem dX0_study_29 : decode cX0_study 29 = .ok (.aload_n 1, 1) := by decide +kernel
theorem dX0_study_30 : decode cX0_study 30 = .ok (.iload_n 2, 1) := by decide +kernel
theorem dX0_study_31 : decode cX0_study 31 = .ok (.invokevirtual 69, 3) := by decide +kernel
theorem dX0_study_34 : decode cX0_study 34 = .ok (.ifCond .eq 11, 3) := by decide +kernel
theorem dX0_study_37 : decode cX0_study 37 = .ok (.aload_n 0, 1) := by decide +kernel
theorem dX0_study_38 : decode cX0_study 38 = .ok (.invokevirtual 73, 3) := by decide +kernel
theorem dX0_study_41 : decode cX0_study 41 = .ok (.aload_n 0, 1) := by decide +kernel
theorem dX0_study_42 : decode cX0_study 42 = .ok (.invokevirtual 76, 3) := by decide +kernel
theorem dX0_study_45 : decode cX0_study 45 = .ok (.aload_n 0, 1) := by decide +kernel
theorem dX0_study_46 : decode cX0_study 46 = .ok (.aload_n 0, 1) := by decide +kernel
theorem dX0_study_47 : decode cX0_study 47 = .ok (.getfield 62, 3) := by decide +kernel
theorem dX0_study_50 : decode cX0_study 50 = .ok (.invokevirtual 79, 3) := by decide +kernel
theorem dX0_study_53 : decode cX0_study 53 = .ok (.aload_n 0, 1) := by decide +kernel
theorem dX0_study_54 : decode cX0_study 54 = .ok (.invokevirtual 83, 3) := by decide +kernel
theorem dX0_study_57 : decode cX0_study 57 = .ok (.aload_n 0, 1) := by decide +kernel
theorem dX0_study_58 : decode cX0_study 58 = .ok (.getfield 59, 3) := by decide +kernel
theorem dX0_study_61 : decode cX0_study 61 = .ok (.ireturn, 1) := by decide +kernel
theorem dX0_takeReports_0 : decode cX0_takeReports 0 = .ok (.iconst 1, 1) := by decide +kernel
theorem dX0_takeReports_1 : decode cX0_takeReports 1 = .ok (.istore_n 3, 1) := by decide +kernel
theorem dX0_takeReports_2 : decode cX0_takeReports 2 = .ok (.aload_n 0, 1) := by decide +kernel
theorem dX0_takeReports_3 : decode cX0_takeReports 3 = .ok (.iconst 0, 1) := by decide +kernel
theorem dX0_takeReports_4 : decode cX0_takeReports 4 = .ok (.putfield 86, 3) := by decide +kernel
theorem dX0_takeReports_7 : decode cX0_takeReports 7 = .ok (.iconst 0, 1) := by decide +kernel
theorem dX0_takeReports_8 : decode cX0_takeReports 8 = .ok (.istore 4, 2) := by decide +kernel
theorem dX0_takeReports_10 : decode cX0_takeReports 10 = .ok (.iload 4, 2) := by decide +kernel
theorem dX0_takeReports_12 : decode cX0_takeReports 12 = .ok (.aload_n 0, 1) := by decide +kernel
theorem dX0_takeReports_13 : decode cX0_takeReports 13 = .ok (.getfield 55, 3) := by decide +kernel
theorem dX0_takeReports_16 : decode cX0_takeReports 16 = .ok (.if_icmp .ge 92, 3) := by decide +kernel
theorem dX0_takeReports_19 : decode cX0_takeReports 19 = .ok (.aload_n 0, 1) := by decide +kernel
theorem dX0_takeReports_20 : decode cX0_takeReports 20 = .ok (.getfield 21, 3) := by decide +kernel
theorem dX0_takeReports_23 : decode cX0_takeReports 23 = .ok (.iload 4, 2) := by decide +kernel
theorem dX0_takeReports_25 : decode cX0_takeReports 25 = .ok (.aload_n 1, 1) := by decide +kernel
theorem dX0_takeReports_26 : decode cX0_takeReports 26 = .ok (.iload 4, 2) := by decide +kernel
theorem dX0_takeReports_28 : decode cX0_takeReports 28 = .ok (.iload_n 2, 1) := by decide +kernel
theorem dX0_takeReports_29 : decode cX0_takeReports 29 = .ok (.iconst 0, 1) := by decide +kernel
theorem dX0_takeReports_30 : decode cX0_takeReports 30 = .ok (.invokevirtual 89, 3) := by decide +kernel
theorem dX0_takeReports_33 : decode cX0_takeReports 33 = .ok (.iconst 1, 1) := by decide +kernel
theorem dX0_takeReports_34 : decode cX0_takeReports 34 = .ok (.iadd, 1) := by decide +kernel
theorem dX0_takeReports_35 : decode cX0_takeReports 35 = .ok (.iastore, 1) := by decide +kernel
theorem dX0_takeReports_36 : decode cX0_takeReports 36 = .ok (.aload_n 0, 1) := by decide +kernel
theorem dX0_takeReports_37 : decode cX0_takeReports 37 = .ok (.getfield 24, 3) := by decide +kernel
theorem dX0_takeReports_40 : decode cX0_takeReports 40 = .ok (.iload 4, 2) := by decide +kernel
theorem dX0_takeReports_42 : decode cX0_takeReports 42 = .ok (.aload_n 1, 1) := by decide +kernel
theorem dX0_takeReports_43 : decode cX0_takeReports 43 = .ok (.iload 4, 2) := by decide +kernel
theorem dX0_takeReports_45 : decode cX0_takeReports 45 = .ok (.iload_n 2, 1) := by decide +kernel
theorem dX0_takeReports_46 : decode cX0_takeReports 46 = .ok (.iconst 1, 1) := by decide +kernel
theorem dX0_takeReports_47 : decode cX0_takeReports 47 = .ok (.invokevirtual 89, 3) := by decide +kernel
theorem dX0_takeReports_50 : decode cX0_takeReports 50 = .ok (.iastore, 1) := by decide +kernel
theorem dX0_takeReports_51 : decode cX0_takeReports 51 = .ok (.aload_n 0, 1) := by decide +kernel
theorem dX0_takeReports_52 : decode cX0_takeReports 52 = .ok (.getfield 24, 3) := by decide +kernel
theorem dX0_takeReports_55 : decode cX0_takeReports 55 = .ok (.iload 4, 2) := by decide +kernel
theorem dX0_takeReports_57 : decode cX0_takeReports 57 = .ok (.iaload, 1) := by decide +kernel
theorem dX0_takeReports_58 : decode cX0_takeReports 58 = .ok (.iconst (-1), 1) := by decide +kernel
theorem dX0_takeReports_59 : decode cX0_takeReports 59 = .ok (.if_icmp .eq 43, 3) := by decide +kernel
theorem dX0_takeReports_62 : decode cX0_takeReports 62 = .ok (.aload_n 0, 1) := by decide +kernel
theorem dX0_takeReports_63 : decode cX0_takeReports 63 = .ok (.dup, 1) := by decide +kernel
theorem dX0_takeReports_64 : decode cX0_takeReports 64 = .ok (.getfield 86, 3) := by decide +kernel
theorem dX0_takeReports_67 : decode cX0_takeReports 67 = .ok (.iconst 1, 1) := by decide +kernel
theorem dX0_takeReports_68 : decode cX0_takeReports 68 = .ok (.iload 4, 2) := by decide +kernel
theorem dX0_takeReports_70 : decode cX0_takeReports 70 = .ok (.ishl, 1) := by decide +kernel
theorem dX0_takeReports_71 : decode cX0_takeReports 71 = .ok (.ior, 1) := by decide +kernel
theorem dX0_takeReports_72 : decode cX0_takeReports 72 = .ok (.putfield 86, 3) := by decide +kernel
theorem dX0_takeReports_75 : decode cX0_takeReports 75 = .ok (.iload_n 3, 1) := by decide +kernel
theorem dX0_takeReports_76 : decode cX0_takeReports 76 = .ok (.ifCond .eq 24, 3) := by decide +kernel
theorem dX0_takeReports_79 : decode cX0_takeReports 79 = .ok (.aload_n 0, 1) := by decide +kernel
theorem dX0_takeReports_80 : decode cX0_takeReports 80 = .ok (.getfield 21, 3) := by decide +kernel
theorem dX0_takeReports_83 : decode cX0_takeReports 83 = .ok (.iload 4, 2) := by decide +kernel
theorem dX0_takeReports_85 : decode cX0_takeReports 85 = .ok (.iaload, 1) := by decide +kernel
theorem dX0_takeReports_86 : decode cX0_takeReports 86 = .ok (.aload_n 0, 1) := by decide +kernel
theorem dX0_takeReports_87 : decode cX0_takeReports 87 = .ok (.getfield 24, 3) := by decide +kernel
theorem dX0_takeReports_90 : decode cX0_takeReports 90 = .ok (.iload 4, 2) := by decide +kernel
theorem dX0_takeReports_92 : decode cX0_takeReports 92 = .ok (.iaload, 1) := by decide +kernel
theorem dX0_takeReports_93 : decode cX0_takeReports 93 = .ok (.if_icmp .gt 7, 3) := by decide +kernel
theorem dX0_takeReports_96 : decode cX0_takeReports 96 = .ok (.iconst 1, 1) := by decide +kernel
theorem dX0_takeReports_97 : decode cX0_takeReports 97 = .ok (.goto 4, 3) := by decide +kernel
theorem dX0_takeReports_100 : decode cX0_takeReports 100 = .ok (.iconst 0, 1) := by decide +kernel
theorem dX0_takeReports_101 : decode cX0_takeReports 101 = .ok (.istore_n 3, 1) := by decide +kernel
theorem dX0_takeReports_102 : decode cX0_takeReports 102 = .ok (.iinc 4 1, 3) := by decide +kernel
theorem dX0_takeReports_105 : decode cX0_takeReports 105 = .ok (.goto (-95), 3) := by decide +kernel
theorem dX0_takeReports_108 : decode cX0_takeReports 108 = .ok (.iload_n 3, 1) := by decide +kernel
theorem dX0_takeReports_109 : decode cX0_takeReports 109 = .ok (.ireturn, 1) := by decide +kernel
theorem dX0_takeRoads_0 : decode cX0_takeRoads 0 = .ok (.aload_n 0, 1) := by decide +kernel
theorem dX0_takeRoads_1 : decode cX0_takeRoads 1 = .ok (.iconst 0, 1) := by decide +kernel
theorem dX0_takeRoads_2 : decode cX0_takeRoads 2 = .ok (.putfield 93, 3) := by decide +kernel
theorem dX0_takeRoads_5 : decode cX0_takeRoads 5 = .ok (.iconst 0, 1) := by decide +kernel
theorem dX0_takeRoads_6 : decode cX0_takeRoads 6 = .ok (.istore_n 2, 1) := by decide +kernel
theorem dX0_takeRoads_7 : decode cX0_takeRoads 7 = .ok (.iload_n 2, 1) := by decide +kernel
theorem dX0_takeRoads_8 : decode cX0_takeRoads 8 = .ok (.aload_n 0, 1) := by decide +kernel
theorem dX0_takeRoads_9 : decode cX0_takeRoads 9 = .ok (.getfield 55, 3) := by decide +kernel
theorem dX0_takeRoads_12 : decode cX0_takeRoads 12 = .ok (.if_icmp .ge 91, 3) := by decide +kernel
theorem dX0_takeRoads_15 : decode cX0_takeRoads 15 = .ok (.iload_n 2, 1) := by decide +kernel
theorem dX0_takeRoads_16 : decode cX0_takeRoads 16 = .ok (.iconst 1, 1) := by decide +kernel
theorem dX0_takeRoads_17 : decode cX0_takeRoads 17 = .ok (.iadd, 1) := by decide +kernel
theorem dX0_takeRoads_18 : decode cX0_takeRoads 18 = .ok (.istore_n 3, 1) := by decide +kernel
theorem dX0_takeRoads_19 : decode cX0_takeRoads 19 = .ok (.iload_n 3, 1) := by decide +kernel
theorem dX0_takeRoads_20 : decode cX0_takeRoads 20 = .ok (.aload_n 0, 1) := by decide +kernel
theorem dX0_takeRoads_21 : decode cX0_takeRoads 21 = .ok (.getfield 55, 3) := by decide +kernel
theorem dX0_takeRoads_24 : decode cX0_takeRoads 24 = .ok (.if_icmp .ge 73, 3) := by decide +kernel
theorem dX0_takeRoads_27 : decode cX0_takeRoads 27 = .ok (.aload_n 1, 1) := by decide +kernel
theorem dX0_takeRoads_28 : decode cX0_takeRoads 28 = .ok (.iload_n 2, 1) := by decide +kernel
theorem dX0_takeRoads_29 : decode cX0_takeRoads 29 = .ok (.iload_n 3, 1) := by decide +kernel
theorem dX0_takeRoads_30 : decode cX0_takeRoads 30 = .ok (.invokevirtual 96, 3) := by decide +kernel
theorem dX0_takeRoads_33 : decode cX0_takeRoads 33 = .ok (.istore 4, 2) := by decide +kernel
theorem dX0_takeRoads_35 : decode cX0_takeRoads 35 = .ok (.iload 4, 2) := by decide +kernel
theorem dX0_takeRoads_37 : decode cX0_takeRoads 37 = .ok (.iconst (-1), 1) := by decide +kernel
theorem dX0_takeRoads_38 : decode cX0_takeRoads 38 = .ok (.if_icmp .eq 53, 3) := by decide +kernel
theorem dX0_takeRoads_41 : decode cX0_takeRoads 41 = .ok (.aload_n 0, 1) := by decide +kernel
theorem dX0_takeRoads_42 : decode cX0_takeRoads 42 = .ok (.getfield 93, 3) := by decide +kernel
theorem dX0_takeRoads_45 : decode cX0_takeRoads 45 = .ok (.bipush 15, 2) := by decide +kernel
theorem dX0_takeRoads_47 : decode cX0_takeRoads 47 = .ok (.if_icmp .ge 44, 3) := by decide +kernel
theorem dX0_takeRoads_50 : decode cX0_takeRoads 50 = .ok (.aload_n 0, 1) := by decide +kernel
theorem dX0_takeRoads_51 : decode cX0_takeRoads 51 = .ok (.getfield 9, 3) := by decide +kernel
theorem dX0_takeRoads_54 : decode cX0_takeRoads 54 = .ok (.aload_n 0, 1) := by decide +kernel
theorem dX0_takeRoads_55 : decode cX0_takeRoads 55 = .ok (.getfield 93, 3) := by decide +kernel
theorem dX0_takeRoads_58 : decode cX0_takeRoads 58 = .ok (.iload_n 2, 1) := by decide +kernel
theorem dX0_takeRoads_59 : decode cX0_takeRoads 59 = .ok (.iastore, 1) := by decide +kernel
theorem dX0_takeRoads_60 : decode cX0_takeRoads 60 = .ok (.aload_n 0, 1) := by decide +kernel
theorem dX0_takeRoads_61 : decode cX0_takeRoads 61 = .ok (.getfield 15, 3) := by decide +kernel
theorem dX0_takeRoads_64 : decode cX0_takeRoads 64 = .ok (.aload_n 0, 1) := by decide +kernel
theorem dX0_takeRoads_65 : decode cX0_takeRoads 65 = .ok (.getfield 93, 3) := by decide +kernel
theorem dX0_takeRoads_68 : decode cX0_takeRoads 68 = .ok (.iload_n 3, 1) := by decide +kernel
theorem dX0_takeRoads_69 : decode cX0_takeRoads 69 = .ok (.iastore, 1) := by decide +kernel
theorem dX0_takeRoads_70 : decode cX0_takeRoads 70 = .ok (.aload_n 0, 1) := by decide +kernel
theorem dX0_takeRoads_71 : decode cX0_takeRoads 71 = .ok (.getfield 18, 3) := by decide +kernel
theorem dX0_takeRoads_74 : decode cX0_takeRoads 74 = .ok (.aload_n 0, 1) := by decide +kernel
theorem dX0_takeRoads_75 : decode cX0_takeRoads 75 = .ok (.getfield 93, 3) := by decide +kernel
theorem dX0_takeRoads_78 : decode cX0_takeRoads 78 = .ok (.iload 4, 2) := by decide +kernel
theorem dX0_takeRoads_80 : decode cX0_takeRoads 80 = .ok (.iastore, 1) := by decide +kernel
theorem dX0_takeRoads_81 : decode cX0_takeRoads 81 = .ok (.aload_n 0, 1) := by decide +kernel
theorem dX0_takeRoads_82 : decode cX0_takeRoads 82 = .ok (.dup, 1) := by decide +kernel
theorem dX0_takeRoads_83 : decode cX0_takeRoads 83 = .ok (.getfield 93, 3) := by decide +kernel
theorem dX0_takeRoads_86 : decode cX0_takeRoads 86 = .ok (.iconst 1, 1) := by decide +kernel
theorem dX0_takeRoads_87 : decode cX0_takeRoads 87 = .ok (.iadd, 1) := by decide +kernel
theorem dX0_takeRoads_88 : decode cX0_takeRoads 88 = .ok (.putfield 93, 3) := by decide +kernel
theorem dX0_takeRoads_91 : decode cX0_takeRoads 91 = .ok (.iinc 3 1, 3) := by decide +kernel
theorem dX0_takeRoads_94 : decode cX0_takeRoads 94 = .ok (.goto (-75), 3) := by decide +kernel
theorem dX0_takeRoads_97 : decode cX0_takeRoads 97 = .ok (.iinc 2 1, 3) := by decide +kernel
theorem dX0_takeRoads_100 : decode cX0_takeRoads 100 = .ok (.goto (-93), 3) := by decide +kernel
theorem dX0_takeRoads_103 : decode cX0_takeRoads 103 = .ok (.return_, 1) := by decide +kernel
theorem dX0_explainAlone_0 : decode cX0_explainAlone 0 = .ok (.iconst 0, 1) := by decide +kernel
theorem dX0_explainAlone_1 : decode cX0_explainAlone 1 = .ok (.istore_n 1, 1) := by decide +kernel
theorem dX0_explainAlone_2 : decode cX0_explainAlone 2 = .ok (.iload_n 1, 1) := by decide +kernel
theorem dX0_explainAlone_3 : decode cX0_explainAlone 3 = .ok (.aload_n 0, 1) := by decide +kernel
theorem dX0_explainAlone_4 : decode cX0_explainAlone 4 = .ok (.getfield 55, 3) := by decide +kernel
theorem dX0_explainAlone_7 : decode cX0_explainAlone 7 = .ok (.if_icmp .ge 37, 3) := by decide +kernel
theorem dX0_explainAlone_10 : decode cX0_explainAlone 10 = .ok (.aload_n 0, 1) := by decide +kernel
theorem dX0_explainAlone_11 : decode cX0_explainAlone 11 = .ok (.getfield 86, 3) := by decide +kernel
theorem dX0_explainAlone_14 : decode cX0_explainAlone 14 = .ok (.ifCond .eq 30, 3) := by decide +kernel
theorem dX0_explainAlone_17 : decode cX0_explainAlone 17 = .ok (.aload_n 0, 1) := by decide +kernel
theorem dX0_explainAlone_18 : decode cX0_explainAlone 18 = .ok (.iconst 1, 1) := by decide +kernel
theorem dX0_explainAlone_19 : decode cX0_explainAlone 19 = .ok (.iload_n 1, 1) := by decide +kernel
theorem dX0_explainAlone_20 : decode cX0_explainAlone 20 = .ok (.ishl, 1) := by decide +kernel
theorem dX0_explainAlone_21 : decode cX0_explainAlone 21 = .ok (.invokevirtual 79, 3) := by decide +kernel
theorem dX0_explainAlone_24 : decode cX0_explainAlone 24 = .ok (.aload_n 0, 1) := by decide +kernel
theorem dX0_explainAlone_25 : decode cX0_explainAlone 25 = .ok (.invokevirtual 83, 3) := by decide +kernel
theorem dX0_explainAlone_28 : decode cX0_explainAlone 28 = .ok (.aload_n 0, 1) := by decide +kernel
theorem dX0_explainAlone_29 : decode cX0_explainAlone 29 = .ok (.getfield 30, 3) := by decide +kernel
theorem dX0_explainAlone_32 : decode cX0_explainAlone 32 = .ok (.iload_n 1, 1) := by decide +kernel
theorem dX0_explainAlone_33 : decode cX0_explainAlone 33 = .ok (.aload_n 0, 1) := by decide +kernel
theorem dX0_explainAlone_34 : decode cX0_explainAlone 34 = .ok (.invokevirtual 99, 3) := by decide +kernel
theorem dX0_explainAlone_37 : decode cX0_explainAlone 37 = .ok (.iastore, 1) := by decide +kernel
theorem dX0_explainAlone_38 : decode cX0_explainAlone 38 = .ok (.iinc 1 1, 3) := by decide +kernel
theorem dX0_explainAlone_41 : decode cX0_explainAlone 41 = .ok (.goto (-39), 3) := by decide +kernel
theorem dX0_explainAlone_44 : decode cX0_explainAlone 44 = .ok (.return_, 1) := by decide +kernel
theorem dX0_weighSets_0 : decode cX0_weighSets 0 = .ok (.aload_n 0, 1) := by decide +kernel
theorem dX0_weighSets_1 : decode cX0_weighSets 1 = .ok (.aload_n 0, 1) := by decide +kernel
theorem dX0_weighSets_2 : decode cX0_weighSets 2 = .ok (.getfield 55, 3) := by decide +kernel
theorem dX0_weighSets_5 : decode cX0_weighSets 5 = .ok (.iconst 1, 1) := by decide +kernel
theorem dX0_weighSets_6 : decode cX0_weighSets 6 = .ok (.iadd, 1) := by decide +kernel
theorem dX0_weighSets_7 : decode cX0_weighSets 7 = .ok (.putfield 59, 3) := by decide +kernel
theorem dX0_weighSets_10 : decode cX0_weighSets 10 = .ok (.aload_n 0, 1) := by decide +kernel
theorem dX0_weighSets_11 : decode cX0_weighSets 11 = .ok (.getfield 33, 3) := by decide +kernel
theorem dX0_weighSets_14 : decode cX0_weighSets 14 = .ok (.iconst 0, 1) := by decide +kernel
theorem dX0_weighSets_15 : decode cX0_weighSets 15 = .ok (.iconst 0, 1) := by decide +kernel
theorem dX0_weighSets_16 : decode cX0_weighSets 16 = .ok (.iastore, 1) := by decide +kernel
theorem dX0_weighSets_17 : decode cX0_weighSets 17 = .ok (.aload_n 0, 1) := by decide +kernel
theorem dX0_weighSets_18 : decode cX0_weighSets 18 = .ok (.iconst 0, 1) := by decide +kernel
theorem dX0_weighSets_19 : decode cX0_weighSets 19 = .ok (.invokevirtual 102, 3) := by decide +kernel
theorem dX0_weighSets_22 : decode cX0_weighSets 22 = .ok (.iconst 0, 1) := by decide +kernel
theorem dX0_weighSets_23 : decode cX0_weighSets 23 = .ok (.istore_n 1, 1) := by decide +kernel
theorem dX0_weighSets_24 : decode cX0_weighSets 24 = .ok (.iload_n 1, 1) := by decide +kernel
theorem dX0_weighSets_25 : decode cX0_weighSets 25 = .ok (.aload_n 0, 1) := by decide +kernel
theorem dX0_weighSets_26 : decode cX0_weighSets 26 = .ok (.getfield 55, 3) := by decide +kernel
theorem dX0_weighSets_29 : decode cX0_weighSets 29 = .ok (.if_icmp .ge 61, 3) := by decide +kernel
theorem dX0_weighSets_32 : decode cX0_weighSets 32 = .ok (.aload_n 0, 1) := by decide +kernel
theorem dX0_weighSets_33 : decode cX0_weighSets 33 = .ok (.getfield 86, 3) := by decide +kernel
theorem dX0_weighSets_36 : decode cX0_weighSets 36 = .ok (.ifCond .eq 54, 3) := by decide +kernel
theorem dX0_weighSets_39 : decode cX0_weighSets 39 = .ok (.iconst 1, 1) := by decide +kernel
theorem dX0_weighSets_40 : decode cX0_weighSets 40 = .ok (.iload_n 1, 1) := by decide +kernel
theorem dX0_weighSets_41 : decode cX0_weighSets 41 = .ok (.ishl, 1) := by decide +kernel
theorem dX0_weighSets_42 : decode cX0_weighSets 42 = .ok (.istore_n 2, 1) := by decide +kernel
theorem dX0_weighSets_43 : decode cX0_weighSets 43 = .ok (.iconst 0, 1) := by decide +kernel
theorem dX0_weighSets_44 : decode cX0_weighSets 44 = .ok (.istore_n 3, 1) := by decide +kernel
theorem dX0_weighSets_45 : decode cX0_weighSets 45 = .ok (.iload_n 3, 1) := by decide +kernel
theorem dX0_weighSets_46 : decode cX0_weighSets 46 = .ok (.iload_n 2, 1) := by decide +kernel
theorem dX0_weighSets_47 : decode cX0_weighSets 47 = .ok (.if_icmp .ge 37, 3) := by decide +kernel
theorem dX0_weighSets_50 : decode cX0_weighSets 50 = .ok (.aload_n 0, 1) := by decide +kernel
theorem dX0_weighSets_51 : decode cX0_weighSets 51 = .ok (.getfield 33, 3) := by decide +kernel
theorem dX0_weighSets_54 : decode cX0_weighSets 54 = .ok (.iload_n 2, 1) := by decide +kernel
theorem dX0_weighSets_55 : decode cX0_weighSets 55 = .ok (.iload_n 3, 1) := by decide +kernel
theorem dX0_weighSets_56 : decode cX0_weighSets 56 = .ok (.iadd, 1) := by decide +kernel
theorem dX0_weighSets_57 : decode cX0_weighSets 57 = .ok (.aload_n 0, 1) := by decide +kernel
theorem dX0_weighSets_58 : decode cX0_weighSets 58 = .ok (.getfield 33, 3) := by decide +kernel
theorem dX0_weighSets_61 : decode cX0_weighSets 61 = .ok (.iload_n 3, 1) := by decide +kernel
theorem dX0_weighSets_62 : decode cX0_weighSets 62 = .ok (.iaload, 1) := by decide +kernel
theorem dX0_weighSets_63 : decode cX0_weighSets 63 = .ok (.aload_n 0, 1) := by decide +kernel
theorem dX0_weighSets_64 : decode cX0_weighSets 64 = .ok (.getfield 30, 3) := by decide +kernel
theorem dX0_weighSets_67 : decode cX0_weighSets 67 = .ok (.iload_n 1, 1) := by decide +kernel
theorem dX0_weighSets_68 : decode cX0_weighSets 68 = .ok (.iaload, 1) := by decide +kernel
theorem dX0_weighSets_69 : decode cX0_weighSets 69 = .ok (.ior, 1) := by decide +kernel
theorem dX0_weighSets_70 : decode cX0_weighSets 70 = .ok (.iastore, 1) := by decide +kernel
theorem dX0_weighSets_71 : decode cX0_weighSets 71 = .ok (.aload_n 0, 1) := by decide +kernel
theorem dX0_weighSets_72 : decode cX0_weighSets 72 = .ok (.iload_n 2, 1) := by decide +kernel
theorem dX0_weighSets_73 : decode cX0_weighSets 73 = .ok (.iload_n 3, 1) := by decide +kernel
theorem dX0_weighSets_74 : decode cX0_weighSets 74 = .ok (.iadd, 1) := by decide +kernel
theorem dX0_weighSets_75 : decode cX0_weighSets 75 = .ok (.invokevirtual 102, 3) := by decide +kernel
theorem dX0_weighSets_78 : decode cX0_weighSets 78 = .ok (.iinc 3 1, 3) := by decide +kernel
theorem dX0_weighSets_81 : decode cX0_weighSets 81 = .ok (.goto (-36), 3) := by decide +kernel
theorem dX0_weighSets_84 : decode cX0_weighSets 84 = .ok (.iinc 1 1, 3) := by decide +kernel
theorem dX0_weighSets_87 : decode cX0_weighSets 87 = .ok (.goto (-63), 3) := by decide +kernel
theorem dX0_weighSets_90 : decode cX0_weighSets 90 = .ok (.return_, 1) := by decide +kernel
theorem dX0_weigh_0 : decode cX0_weigh 0 = .ok (.aload_n 0, 1) := by decide +kernel
theorem dX0_weigh_1 : decode cX0_weigh 1 = .ok (.getfield 33, 3) := by decide +kernel
theorem dX0_weigh_4 : decode cX0_weigh 4 = .ok (.iload_n 1, 1) := by decide +kernel
theorem dX0_weigh_5 : decode cX0_weigh 5 = .ok (.iaload, 1) := by decide +kernel
theorem dX0_weigh_6 : decode cX0_weigh 6 = .ok (.aload_n 0, 1) := by decide +kernel
theorem dX0_weigh_7 : decode cX0_weigh 7 = .ok (.getfield 86, 3) := by decide +kernel
theorem dX0_weigh_10 : decode cX0_weigh 10 = .ok (.if_icmp .eq 4, 3) := by decide +kernel
theorem dX0_weigh_13 : decode cX0_weigh 13 = .ok (.return_, 1) := by decide +kernel
theorem dX0_weigh_14 : decode cX0_weigh 14 = .ok (.iload_n 1, 1) := by decide +kernel
theorem dX0_weigh_15 : decode cX0_weigh 15 = .ok (.invokestatic 105, 3) := by decide +kernel
theorem dX0_weigh_18 : decode cX0_weigh 18 = .ok (.istore_n 2, 1) := by decide +kernel
theorem dX0_weigh_19 : decode cX0_weigh 19 = .ok (.iload_n 2, 1) := by decide +kernel
theorem dX0_weigh_20 : decode cX0_weigh 20 = .ok (.aload_n 0, 1) := by decide +kernel
theorem dX0_weigh_21 : decode cX0_weigh 21 = .ok (.getfield 59, 3) := by decide +kernel
theorem dX0_weigh_24 : decode cX0_weigh 24 = .ok (.if_icmp .ge 31, 3) := by decide +kernel
theorem dX0_weigh_27 : decode cX0_weigh 27 = .ok (.aload_n 0, 1) := by decide +kernel
theorem dX0_weigh_28 : decode cX0_weigh 28 = .ok (.iload_n 2, 1) := by decide +kernel
theorem dX0_weigh_29 : decode cX0_weigh 29 = .ok (.putfield 59, 3) := by decide +kernel
theorem dX0_weigh_32 : decode cX0_weigh 32 = .ok (.aload_n 0, 1) := by decide +kernel
theorem dX0_weigh_33 : decode cX0_weigh 33 = .ok (.iload_n 1, 1) := by decide +kernel
theorem dX0_weigh_34 : decode cX0_weigh 34 = .ok (.putfield 62, 3) := by decide +kernel
theorem dX0_weigh_37 : decode cX0_weigh 37 = .ok (.aload_n 0, 1) := by decide +kernel
theorem dX0_weigh_38 : decode cX0_weigh 38 = .ok (.iload_n 1, 1) := by decide +kernel
theorem dX0_weigh_39 : decode cX0_weigh 39 = .ok (.putfield 111, 3) := by decide +kernel
theorem dX0_weigh_42 : decode cX0_weigh 42 = .ok (.aload_n 0, 1) := by decide +kernel
theorem dX0_weigh_43 : decode cX0_weigh 43 = .ok (.iload_n 1, 1) := by decide +kernel
theorem dX0_weigh_44 : decode cX0_weigh 44 = .ok (.putfield 114, 3) := by decide +kernel
theorem dX0_weigh_47 : decode cX0_weigh 47 = .ok (.aload_n 0, 1) := by decide +kernel
theorem dX0_weigh_48 : decode cX0_weigh 48 = .ok (.iconst 1, 1) := by decide +kernel
theorem dX0_weigh_49 : decode cX0_weigh 49 = .ok (.putfield 117, 3) := by decide +kernel
theorem dX0_weigh_52 : decode cX0_weigh 52 = .ok (.goto 41, 3) := by decide +kernel
theorem dX0_weigh_55 : decode cX0_weigh 55 = .ok (.iload_n 2, 1) := by decide +kernel
theorem dX0_weigh_56 : decode cX0_weigh 56 = .ok (.aload_n 0, 1) := by decide +kernel
theorem dX0_weigh_57 : decode cX0_weigh 57 = .ok (.getfield 59, 3) := by decide +kernel
theorem dX0_weigh_60 : decode cX0_weigh 60 = .ok (.if_icmp .ne 33, 3) := by decide +kernel
theorem dX0_weigh_63 : decode cX0_weigh 63 = .ok (.aload_n 0, 1) := by decide +kernel
theorem dX0_weigh_64 : decode cX0_weigh 64 = .ok (.dup, 1) := by decide +kernel
theorem dX0_weigh_65 : decode cX0_weigh 65 = .ok (.getfield 111, 3) := by decide +kernel
theorem dX0_weigh_68 : decode cX0_weigh 68 = .ok (.iload_n 1, 1) := by decide +kernel
theorem dX0_weigh_69 : decode cX0_weigh 69 = .ok (.iand, 1) := by decide +kernel
theorem dX0_weigh_70 : decode cX0_weigh 70 = .ok (.putfield 111, 3) := by decide +kernel
theorem dX0_weigh_73 : decode cX0_weigh 73 = .ok (.aload_n 0, 1) := by decide +kernel
theorem dX0_weigh_74 : decode cX0_weigh 74 = .ok (.dup, 1) := by decide +kernel
theorem dX0_weigh_75 : decode cX0_weigh 75 = .ok (.getfield 114, 3) := by decide +kernel
theorem dX0_weigh_78 : decode cX0_weigh 78 = .ok (.iload_n 1, 1) := by decide +kernel
theorem dX0_weigh_79 : decode cX0_weigh 79 = .ok (.ior, 1) := by decide +kernel
theorem dX0_weigh_80 : decode cX0_weigh 80 = .ok (.putfield 114, 3) := by decide +kernel
theorem dX0_weigh_83 : decode cX0_weigh 83 = .ok (.aload_n 0, 1) := by decide +kernel
theorem dX0_weigh_84 : decode cX0_weigh 84 = .ok (.dup, 1) := by decide +kernel
theorem dX0_weigh_85 : decode cX0_weigh 85 = .ok (.getfield 117, 3) := by decide +kernel
theorem dX0_weigh_88 : decode cX0_weigh 88 = .ok (.iconst 1, 1) := by decide +kernel
theorem dX0_weigh_89 : decode cX0_weigh 89 = .ok (.iadd, 1) := by decide +kernel
theorem dX0_weigh_90 : decode cX0_weigh 90 = .ok (.putfield 117, 3) := by decide +kernel
theorem dX0_weigh_93 : decode cX0_weigh 93 = .ok (.return_, 1) := by decide +kernel
theorem dX0_inventIn_0 : decode cX0_inventIn 0 = .ok (.iconst 0, 1) := by decide +kernel
theorem dX0_inventIn_1 : decode cX0_inventIn 1 = .ok (.istore_n 2, 1) := by decide +kernel
theorem dX0_inventIn_2 : decode cX0_inventIn 2 = .ok (.iload_n 2, 1) := by decide +kernel
theorem dX0_inventIn_3 : decode cX0_inventIn 3 = .ok (.aload_n 0, 1) := by decide +kernel
theorem dX0_inventIn_4 : decode cX0_inventIn 4 = .ok (.getfield 55, 3) := by decide +kernel
theorem dX0_inventIn_7 : decode cX0_inventIn 7 = .ok (.if_icmp .ge 36, 3) := by decide +kernel
theorem dX0_inventIn_10 : decode cX0_inventIn 10 = .ok (.aload_n 0, 1) := by decide +kernel
theorem dX0_inventIn_11 : decode cX0_inventIn 11 = .ok (.getfield 27, 3) := by decide +kernel
theorem dX0_inventIn_14 : decode cX0_inventIn 14 = .ok (.iload_n 2, 1) := by decide +kernel
theorem dX0_inventIn_15 : decode cX0_inventIn 15 = .ok (.iload_n 1, 1) := by decide +kernel
theorem dX0_inventIn_16 : decode cX0_inventIn 16 = .ok (.iload_n 2, 1) := by decide +kernel
theorem dX0_inventIn_17 : decode cX0_inventIn 17 = .ok (.ishr, 1) := by decide +kernel
theorem dX0_inventIn_18 : decode cX0_inventIn 18 = .ok (.iconst 1, 1) := by decide +kernel
theorem dX0_inventIn_19 : decode cX0_inventIn 19 = .ok (.iand, 1) := by decide +kernel
theorem dX0_inventIn_20 : decode cX0_inventIn 20 = .ok (.iconst 1, 1) := by decide +kernel
theorem dX0_inventIn_21 : decode cX0_inventIn 21 = .ok (.if_icmp .ne 12, 3) := by decide +kernel
theorem dX0_inventIn_24 : decode cX0_inventIn 24 = .ok (.aload_n 0, 1) := by decide +kernel
theorem dX0_inventIn_25 : decode cX0_inventIn 25 = .ok (.getfield 21, 3) := by decide +kernel
theorem dX0_inventIn_28 : decode cX0_inventIn 28 = .ok (.iload_n 2, 1) := by decide +kernel
theorem dX0_inventIn_29 : decode cX0_inventIn 29 = .ok (.iaload, 1) := by decide +kernel
theorem dX0_inventIn_30 : decode cX0_inventIn 30 = .ok (.goto 6, 3) := by decide +kernel
theorem dX0_inventIn_33 : decode cX0_inventIn 33 = .ok (.sipush 1000, 3) := by decide +kernel
theorem dX0_inventIn_36 : decode cX0_inventIn 36 = .ok (.iastore, 1) := by decide +kernel
theorem dX0_inventIn_37 : decode cX0_inventIn 37 = .ok (.iinc 2 1, 3) := by decide +kernel
theorem dX0_inventIn_40 : decode cX0_inventIn 40 = .ok (.goto (-38), 3) := by decide +kernel
theorem dX0_inventIn_43 : decode cX0_inventIn 43 = .ok (.return_, 1) := by decide +kernel
theorem dX0_spread_0 : decode cX0_spread 0 = .ok (.iconst 1, 1) := by decide +kernel
theorem dX0_spread_1 : decode cX0_spread 1 = .ok (.istore_n 1, 1) := by decide +kernel
theorem dX0_spread_2 : decode cX0_spread 2 = .ok (.iconst 0, 1) := by decide +kernel
theorem dX0_spread_3 : decode cX0_spread 3 = .ok (.istore_n 2, 1) := by decide +kernel
theorem dX0_spread_4 : decode cX0_spread 4 = .ok (.iload_n 2, 1) := by decide +kernel
theorem dX0_spread_5 : decode cX0_spread 5 = .ok (.aload_n 0, 1) := by decide +kernel
theorem dX0_spread_6 : decode cX0_spread 6 = .ok (.getfield 55, 3) := by decide +kernel
theorem dX0_spread_9 : decode cX0_spread 9 = .ok (.if_icmp .ge 99, 3) := by decide +kernel
theorem dX0_spread_12 : decode cX0_spread 12 = .ok (.iload_n 1, 1) := by decide +kernel
theorem dX0_spread_13 : decode cX0_spread 13 = .ok (.ifCond .eq 95, 3) := by decide +kernel
theorem dX0_spread_16 : decode cX0_spread 16 = .ok (.iconst 0, 1) := by decide +kernel
theorem dX0_spread_17 : decode cX0_spread 17 = .ok (.istore_n 1, 1) := by decide +kernel
theorem dX0_spread_18 : decode cX0_spread 18 = .ok (.iconst 0, 1) := by decide +kernel
theorem dX0_spread_19 : decode cX0_spread 19 = .ok (.istore_n 3, 1) := by decide +kernel
theorem dX0_spread_20 : decode cX0_spread 20 = .ok (.iload_n 3, 1) := by decide +kernel
theorem dX0_spread_21 : decode cX0_spread 21 = .ok (.aload_n 0, 1) := by decide +kernel
theorem dX0_spread_22 : decode cX0_spread 22 = .ok (.getfield 93, 3) := by decide +kernel
theorem dX0_spread_25 : decode cX0_spread 25 = .ok (.if_icmp .ge 77, 3) := by decide +kernel
theorem dX0_spread_28 : decode cX0_spread 28 = .ok (.aload_n 0, 1) := by decide +kernel
theorem dX0_spread_29 : decode cX0_spread 29 = .ok (.aload_n 0, 1) := by decide +kernel
theorem dX0_spread_30 : decode cX0_spread 30 = .ok (.getfield 9, 3) := by decide +kernel
theorem dX0_spread_33 : decode cX0_spread 33 = .ok (.iload_n 3, 1) := by decide +kernel
theorem dX0_spread_34 : decode cX0_spread 34 = .ok (.iaload, 1) := by decide +kernel
theorem dX0_spread_35 : decode cX0_spread 35 = .ok (.aload_n 0, 1) := by decide +kernel
theorem dX0_spread_36 : decode cX0_spread 36 = .ok (.getfield 15, 3) := by decide +kernel
theorem dX0_spread_39 : decode cX0_spread 39 = .ok (.iload_n 3, 1) := by decide +kernel
theorem dX0_spread_40 : decode cX0_spread 40 = .ok (.iaload, 1) := by decide +kernel
theorem dX0_spread_41 : decode cX0_spread 41 = .ok (.aload_n 0, 1) := by decide +kernel
theorem dX0_spread_42 : decode cX0_spread 42 = .ok (.getfield 18, 3) := by decide +kernel
theorem dX0_spread_45 : decode cX0_spread 45 = .ok (.iload_n 3, 1) := by decide +kernel
theorem dX0_spread_46 : decode cX0_spread 46 = .ok (.iaload, 1) := by decide +kernel
theorem dX0_spread_47 : decode cX0_spread 47 = .ok (.invokevirtual 120, 3) := by decide +kernel
theorem dX0_spread_50 : decode cX0_spread 50 = .ok (.istore 4, 2) := by decide +kernel
theorem dX0_spread_52 : decode cX0_spread 52 = .ok (.aload_n 0, 1) := by decide +kernel
theorem dX0_spread_53 : decode cX0_spread 53 = .ok (.aload_n 0, 1) := by decide +kernel
theorem dX0_spread_54 : decode cX0_spread 54 = .ok (.getfield 15, 3) := by decide +kernel
theorem dX0_spread_57 : decode cX0_spread 57 = .ok (.iload_n 3, 1) := by decide +kernel
theorem dX0_spread_58 : decode cX0_spread 58 = .ok (.iaload, 1) := by decide +kernel
theorem dX0_spread_59 : decode cX0_spread 59 = .ok (.aload_n 0, 1) := by decide +kernel
theorem dX0_spread_60 : decode cX0_spread 60 = .ok (.getfield 9, 3) := by decide +kernel
theorem dX0_spread_63 : decode cX0_spread 63 = .ok (.iload_n 3, 1) := by decide +kernel
theorem dX0_spread_64 : decode cX0_spread 64 = .ok (.iaload, 1) := by decide +kernel
theorem dX0_spread_65 : decode cX0_spread 65 = .ok (.aload_n 0, 1) := by decide +kernel
theorem dX0_spread_66 : decode cX0_spread 66 = .ok (.getfield 18, 3) := by decide +kernel
theorem dX0_spread_69 : decode cX0_spread 69 = .ok (.iload_n 3, 1) := by decide +kernel
theorem dX0_spread_70 : decode cX0_spread 70 = .ok (.iaload, 1) := by decide +kernel
theorem dX0_spread_71 : decode cX0_spread 71 = .ok (.invokevirtual 120, 3) := by decide +kernel
theorem dX0_spread_74 : decode cX0_spread 74 = .ok (.istore 5, 2) := by decide +kernel
theorem dX0_spread_76 : decode cX0_spread 76 = .ok (.iload_n 1, 1) := by decide +kernel
theorem dX0_spread_77 : decode cX0_spread 77 = .ok (.ifCond .ne 13, 3) := by decide +kernel
theorem dX0_spread_80 : decode cX0_spread 80 = .ok (.iload 4, 2) := by decide +kernel
theorem dX0_spread_82 : decode cX0_spread 82 = .ok (.ifCond .ne 8, 3) := by decide +kernel
theorem dX0_spread_85 : decode cX0_spread 85 = .ok (.iload 5, 2) := by decide +kernel
theorem dX0_spread_87 : decode cX0_spread 87 = .ok (.ifCond .eq 7, 3) := by decide +kernel
theorem dX0_spread_90 : decode cX0_spread 90 = .ok (.iconst 1, 1) := by decide +kernel
theorem dX0_spread_91 : decode cX0_spread 91 = .ok (.goto 4, 3) := by decide +kernel
theorem dX0_spread_94 : decode cX0_spread 94 = .ok (.iconst 0, 1) := by decide +kernel
theorem dX0_spread_95 : decode cX0_spread 95 = .ok (.istore_n 1, 1) := by decide +kernel
theorem dX0_spread_96 : decode cX0_spread 96 = .ok (.iinc 3 1, 3) := by decide +kernel
theorem dX0_spread_99 : decode cX0_spread 99 = .ok (.goto (-79), 3) := by decide +kernel
theorem dX0_spread_102 : decode cX0_spread 102 = .ok (.iinc 2 1, 3) := by decide +kernel
theorem dX0_spread_105 : decode cX0_spread 105 = .ok (.goto (-101), 3) := by decide +kernel
theorem dX0_spread_108 : decode cX0_spread 108 = .ok (.return_, 1) := by decide +kernel
theorem dX0_passOn_0 : decode cX0_passOn 0 = .ok (.aload_n 0, 1) := by decide +kernel
theorem dX0_passOn_1 : decode cX0_passOn 1 = .ok (.getfield 27, 3) := by decide +kernel
theorem dX0_passOn_4 : decode cX0_passOn 4 = .ok (.iload_n 1, 1) := by decide +kernel
theorem dX0_passOn_5 : decode cX0_passOn 5 = .ok (.iaload, 1) := by decide +kernel
theorem dX0_passOn_6 : decode cX0_passOn 6 = .ok (.iload_n 3, 1) := by decide +kernel
theorem dX0_passOn_7 : decode cX0_passOn 7 = .ok (.iadd, 1) := by decide +kernel
theorem dX0_passOn_8 : decode cX0_passOn 8 = .ok (.istore 4, 2) := by decide +kernel
theorem dX0_passOn_10 : decode cX0_passOn 10 = .ok (.iload 4, 2) := by decide +kernel
theorem dX0_passOn_12 : decode cX0_passOn 12 = .ok (.aload_n 0, 1) := by decide +kernel
theorem dX0_passOn_13 : decode cX0_passOn 13 = .ok (.getfield 21, 3) := by decide +kernel
theorem dX0_passOn_16 : decode cX0_passOn 16 = .ok (.iload_n 2, 1) := by decide +kernel
theorem dX0_passOn_17 : decode cX0_passOn 17 = .ok (.iaload, 1) := by decide +kernel
theorem dX0_passOn_18 : decode cX0_passOn 18 = .ok (.if_icmp .ge 11, 3) := by decide +kernel
theorem dX0_passOn_21 : decode cX0_passOn 21 = .ok (.aload_n 0, 1) := by decide +kernel
theorem dX0_passOn_22 : decode cX0_passOn 22 = .ok (.getfield 21, 3) := by decide +kernel
theorem dX0_passOn_25 : decode cX0_passOn 25 = .ok (.iload_n 2, 1) := by decide +kernel
theorem dX0_passOn_26 : decode cX0_passOn 26 = .ok (.iaload, 1) := by decide +kernel
theorem dX0_passOn_27 : decode cX0_passOn 27 = .ok (.istore 4, 2) := by decide +kernel
theorem dX0_passOn_29 : decode cX0_passOn 29 = .ok (.iload 4, 2) := by decide +kernel
theorem dX0_passOn_31 : decode cX0_passOn 31 = .ok (.aload_n 0, 1) := by decide +kernel
theorem dX0_passOn_32 : decode cX0_passOn 32 = .ok (.getfield 27, 3) := by decide +kernel
theorem dX0_passOn_35 : decode cX0_passOn 35 = .ok (.iload_n 2, 1) := by decide +kernel
theorem dX0_passOn_36 : decode cX0_passOn 36 = .ok (.iaload, 1) := by decide +kernel
theorem dX0_passOn_37 : decode cX0_passOn 37 = .ok (.if_icmp .lt 5, 3) := by decide +kernel
theorem dX0_passOn_40 : decode cX0_passOn 40 = .ok (.iconst 0, 1) := by decide +kernel
theorem dX0_passOn_41 : decode cX0_passOn 41 = .ok (.ireturn, 1) := by decide +kernel
theorem dX0_passOn_42 : decode cX0_passOn 42 = .ok (.aload_n 0, 1) := by decide +kernel
theorem dX0_passOn_43 : decode cX0_passOn 43 = .ok (.getfield 27, 3) := by decide +kernel
theorem dX0_passOn_46 : decode cX0_passOn 46 = .ok (.iload_n 2, 1) := by decide +kernel
theorem dX0_passOn_47 : decode cX0_passOn 47 = .ok (.iload 4, 2) := by decide +kernel
theorem dX0_passOn_49 : decode cX0_passOn 49 = .ok (.iastore, 1) := by decide +kernel
theorem dX0_passOn_50 : decode cX0_passOn 50 = .ok (.iconst 1, 1) := by decide +kernel
theorem dX0_passOn_51 : decode cX0_passOn 51 = .ok (.ireturn, 1) := by decide +kernel
theorem dX0_knownInTime_0 : decode cX0_knownInTime 0 = .ok (.iconst 0, 1) := by decide +kernel
theorem dX0_knownInTime_1 : decode cX0_knownInTime 1 = .ok (.istore_n 1, 1) := by decide +kernel
theorem dX0_knownInTime_2 : decode cX0_knownInTime 2 = .ok (.iconst 0, 1) := by decide +kernel
theorem dX0_knownInTime_3 : decode cX0_knownInTime 3 = .ok (.istore_n 2, 1) := by decide +kernel
theorem dX0_knownInTime_4 : decode cX0_knownInTime 4 = .ok (.iload_n 2, 1) := by decide +kernel
theorem dX0_knownInTime_5 : decode cX0_knownInTime 5 = .ok (.aload_n 0, 1) := by decide +kernel
theorem dX0_knownInTime_6 : decode cX0_knownInTime 6 = .ok (.getfield 55, 3) := by decide +kernel
theorem dX0_knownInTime_9 : decode cX0_knownInTime 9 = .ok (.if_icmp .ge 30, 3) := by decide +kernel
theorem dX0_knownInTime_12 : decode cX0_knownInTime 12 = .ok (.aload_n 0, 1) := by decide +kernel
theorem dX0_knownInTime_13 : decode cX0_knownInTime 13 = .ok (.getfield 27, 3) := by decide +kernel
theorem dX0_knownInTime_16 : decode cX0_knownInTime 16 = .ok (.iload_n 2, 1) := by decide +kernel
theorem dX0_knownInTime_17 : decode cX0_knownInTime 17 = .ok (.iaload, 1) := by decide +kernel
theorem dX0_knownInTime_18 : decode cX0_knownInTime 18 = .ok (.aload_n 0, 1) := by decide +kernel
theorem dX0_knownInTime_19 : decode cX0_knownInTime 19 = .ok (.getfield 24, 3) := by decide +kernel
theorem dX0_knownInTime_22 : decode cX0_knownInTime 22 = .ok (.iload_n 2, 1) := by decide +kernel
theorem dX0_knownInTime_23 : decode cX0_knownInTime 23 = .ok (.iaload, 1) := by decide +kernel
theorem dX0_knownInTime_24 : decode cX0_knownInTime 24 = .ok (.if_icmp .gt 9, 3) := by decide +kernel
theorem dX0_knownInTime_27 : decode cX0_knownInTime 27 = .ok (.iload_n 1, 1) := by decide +kernel
theorem dX0_knownInTime_28 : decode cX0_knownInTime 28 = .ok (.iconst 1, 1) := by decide +kernel
theorem dX0_knownInTime_29 : decode cX0_knownInTime 29 = .ok (.iload_n 2, 1) := by decide +kernel
theorem dX0_knownInTime_30 : decode cX0_knownInTime 30 = .ok (.ishl, 1) := by decide +kernel
theorem dX0_knownInTime_31 : decode cX0_knownInTime 31 = .ok (.ior, 1) := by decide +kernel
theorem dX0_knownInTime_32 : decode cX0_knownInTime 32 = .ok (.istore_n 1, 1) := by decide +kernel
theorem dX0_knownInTime_33 : decode cX0_knownInTime 33 = .ok (.iinc 2 1, 3) := by decide +kernel
theorem dX0_knownInTime_36 : decode cX0_knownInTime 36 = .ok (.goto (-32), 3) := by decide +kernel
theorem dX0_knownInTime_39 : decode cX0_knownInTime 39 = .ok (.iload_n 1, 1) := by decide +kernel
theorem dX0_knownInTime_40 : decode cX0_knownInTime 40 = .ok (.ireturn, 1) := by decide +kernel
theorem dX0_sinceWhen_0 : decode cX0_sinceWhen 0 = .ok (.aload_n 0, 1) := by decide +kernel
theorem dX0_sinceWhen_1 : decode cX0_sinceWhen 1 = .ok (.aload_n 1, 1) := by decide +kernel
theorem dX0_sinceWhen_2 : decode cX0_sinceWhen 2 = .ok (.iload_n 3, 1) := by decide +kernel
theorem dX0_sinceWhen_3 : decode cX0_sinceWhen 3 = .ok (.invokevirtual 36, 3) := by decide +kernel
theorem dX0_sinceWhen_6 : decode cX0_sinceWhen 6 = .ok (.pop, 1) := by decide +kernel
theorem dX0_sinceWhen_7 : decode cX0_sinceWhen 7 = .ok (.iload_n 2, 1) := by decide +kernel
theorem dX0_sinceWhen_8 : decode cX0_sinceWhen 8 = .ok (.ifCond .lt 32, 3) := by decide +kernel
theorem dX0_sinceWhen_11 : decode cX0_sinceWhen 11 = .ok (.iload_n 2, 1) := by decide +kernel
theorem dX0_sinceWhen_12 : decode cX0_sinceWhen 12 = .ok (.aload_n 0, 1) := by decide +kernel
theorem dX0_sinceWhen_13 : decode cX0_sinceWhen 13 = .ok (.getfield 55, 3) := by decide +kernel
theorem dX0_sinceWhen_16 : decode cX0_sinceWhen 16 = .ok (.if_icmp .ge 24, 3) := by decide +kernel
theorem dX0_sinceWhen_19 : decode cX0_sinceWhen 19 = .ok (.aload_n 0, 1) := by decide +kernel
theorem dX0_sinceWhen_20 : decode cX0_sinceWhen 20 = .ok (.getfield 27, 3) := by decide +kernel
theorem dX0_sinceWhen_23 : decode cX0_sinceWhen 23 = .ok (.iload_n 2, 1) := by decide +kernel
theorem dX0_sinceWhen_24 : decode cX0_sinceWhen 24 = .ok (.iaload, 1) := by decide +kernel
theorem dX0_sinceWhen_25 : decode cX0_sinceWhen 25 = .ok (.sipush 1000, 3) := by decide +kernel
theorem dX0_sinceWhen_28 : decode cX0_sinceWhen 28 = .ok (.if_icmp .ge 12, 3) := by decide +kernel
theorem dX0_sinceWhen_31 : decode cX0_sinceWhen 31 = .ok (.aload_n 0, 1) := by decide +kernel
theorem dX0_sinceWhen_32 : decode cX0_sinceWhen 32 = .ok (.getfield 27, 3) := by decide +kernel
theorem dX0_sinceWhen_35 : decode cX0_sinceWhen 35 = .ok (.iload_n 2, 1) := by decide +kernel
theorem dX0_sinceWhen_36 : decode cX0_sinceWhen 36 = .ok (.iaload, 1) := by decide +kernel
theorem dX0_sinceWhen_37 : decode cX0_sinceWhen 37 = .ok (.goto 4, 3) := by decide +kernel
theorem dX0_sinceWhen_40 : decode cX0_sinceWhen 40 = .ok (.iconst (-1), 1) := by decide +kernel
theorem dX0_sinceWhen_41 : decode cX0_sinceWhen 41 = .ok (.ireturn, 1) := by decide +kernel
theorem dX0_townInOrder_0 : decode cX0_townInOrder 0 = .ok (.aload_n 0, 1) := by decide +kernel
theorem dX0_townInOrder_1 : decode cX0_townInOrder 1 = .ok (.aload_n 1, 1) := by decide +kernel
theorem dX0_townInOrder_2 : decode cX0_townInOrder 2 = .ok (.iload_n 2, 1) := by decide +kernel
theorem dX0_townInOrder_3 : decode cX0_townInOrder 3 = .ok (.invokevirtual 36, 3) := by decide +kernel
theorem dX0_townInOrder_6 : decode cX0_townInOrder 6 = .ok (.pop, 1) := by decide +kernel
theorem dX0_townInOrder_7 : decode cX0_townInOrder 7 = .ok (.iconst 0, 1) := by decide +kernel
theorem dX0_townInOrder_8 : decode cX0_townInOrder 8 = .ok (.istore 4, 2) := by decide +kernel
theorem dX0_townInOrder_10 : decode cX0_townInOrder 10 = .ok (.iload 4, 2) := by decide +kernel
theorem dX0_townInOrder_12 : decode cX0_townInOrder 12 = .ok (.aload_n 0, 1) := by decide +kernel
theorem dX0_townInOrder_13 : decode cX0_townInOrder 13 = .ok (.getfield 55, 3) := by decide +kernel
theorem dX0_townInOrder_16 : decode cX0_townInOrder 16 = .ok (.if_icmp .ge 35, 3) := by decide +kernel
theorem dX0_townInOrder_19 : decode cX0_townInOrder 19 = .ok (.aload_n 0, 1) := by decide +kernel
theorem dX0_townInOrder_20 : decode cX0_townInOrder 20 = .ok (.getfield 27, 3) := by decide +kernel
theorem dX0_townInOrder_23 : decode cX0_townInOrder 23 = .ok (.iload 4, 2) := by decide +kernel
theorem dX0_townInOrder_25 : decode cX0_townInOrder 25 = .ok (.iaload, 1) := by decide +kernel
theorem dX0_townInOrder_26 : decode cX0_townInOrder 26 = .ok (.sipush 1000, 3) := by decide +kernel
theorem dX0_townInOrder_29 : decode cX0_townInOrder 29 = .ok (.if_icmp .ge 16, 3) := by decide +kernel
theorem dX0_townInOrder_32 : decode cX0_townInOrder 32 = .ok (.aload_n 0, 1) := by decide +kernel
theorem dX0_townInOrder_33 : decode cX0_townInOrder 33 = .ok (.iload 4, 2) := by decide +kernel
theorem dX0_townInOrder_35 : decode cX0_townInOrder 35 = .ok (.invokevirtual 124, 3) := by decide +kernel
theorem dX0_townInOrder_38 : decode cX0_townInOrder 38 = .ok (.iload_n 3, 1) := by decide +kernel
theorem dX0_townInOrder_39 : decode cX0_townInOrder 39 = .ok (.if_icmp .ne 6, 3) := by decide +kernel
theorem dX0_townInOrder_42 : decode cX0_townInOrder 42 = .ok (.iload 4, 2) := by decide +kernel
theorem dX0_townInOrder_44 : decode cX0_townInOrder 44 = .ok (.ireturn, 1) := by decide +kernel
theorem dX0_townInOrder_45 : decode cX0_townInOrder 45 = .ok (.iinc 4 1, 3) := by decide +kernel
theorem dX0_townInOrder_48 : decode cX0_townInOrder 48 = .ok (.goto (-38), 3) := by decide +kernel
theorem dX0_townInOrder_51 : decode cX0_townInOrder 51 = .ok (.iconst (-1), 1) := by decide +kernel
theorem dX0_townInOrder_52 : decode cX0_townInOrder 52 = .ok (.ireturn, 1) := by decide +kernel
theorem dX0_townsBefore_0 : decode cX0_townsBefore 0 = .ok (.iconst 0, 1) := by decide +kernel
theorem dX0_townsBefore_1 : decode cX0_townsBefore 1 = .ok (.istore_n 2, 1) := by decide +kernel
theorem dX0_townsBefore_2 : decode cX0_townsBefore 2 = .ok (.iconst 0, 1) := by decide +kernel
theorem dX0_townsBefore_3 : decode cX0_townsBefore 3 = .ok (.istore_n 3, 1) := by decide +kernel
theorem dX0_townsBefore_4 : decode cX0_townsBefore 4 = .ok (.iload_n 3, 1) := by decide +kernel
theorem dX0_townsBefore_5 : decode cX0_townsBefore 5 = .ok (.aload_n 0, 1) := by decide +kernel
theorem dX0_townsBefore_6 : decode cX0_townsBefore 6 = .ok (.getfield 55, 3) := by decide +kernel
theorem dX0_townsBefore_9 : decode cX0_townsBefore 9 = .ok (.if_icmp .ge 47, 3) := by decide +kernel
theorem dX0_townsBefore_12 : decode cX0_townsBefore 12 = .ok (.aload_n 0, 1) := by decide +kernel
theorem dX0_townsBefore_13 : decode cX0_townsBefore 13 = .ok (.getfield 27, 3) := by decide +kernel
theorem dX0_townsBefore_16 : decode cX0_townsBefore 16 = .ok (.iload_n 3, 1) := by decide +kernel
theorem dX0_townsBefore_17 : decode cX0_townsBefore 17 = .ok (.iaload, 1) := by decide +kernel
theorem dX0_townsBefore_18 : decode cX0_townsBefore 18 = .ok (.aload_n 0, 1) := by decide +kernel
theorem dX0_townsBefore_19 : decode cX0_townsBefore 19 = .ok (.getfield 27, 3) := by decide +kernel
theorem dX0_townsBefore_22 : decode cX0_townsBefore 22 = .ok (.iload_n 1, 1) := by decide +kernel
theorem dX0_townsBefore_23 : decode cX0_townsBefore 23 = .ok (.iaload, 1) := by decide +kernel
theorem dX0_townsBefore_24 : decode cX0_townsBefore 24 = .ok (.if_icmp .lt 23, 3) := by decide +kernel
theorem dX0_townsBefore_27 : decode cX0_townsBefore 27 = .ok (.aload_n 0, 1) := by decide +kernel
theorem dX0_townsBefore_28 : decode cX0_townsBefore 28 = .ok (.getfield 27, 3) := by decide +kernel
theorem dX0_townsBefore_31 : decode cX0_townsBefore 31 = .ok (.iload_n 3, 1) := by decide +kernel
theorem dX0_townsBefore_32 : decode cX0_townsBefore 32 = .ok (.iaload, 1) := by decide +kernel
theorem dX0_townsBefore_33 : decode cX0_townsBefore 33 = .ok (.aload_n 0, 1) := by decide +kernel
theorem dX0_townsBefore_34 : decode cX0_townsBefore 34 = .ok (.getfield 27, 3) := by decide +kernel
theorem dX0_townsBefore_37 : decode cX0_townsBefore 37 = .ok (.iload_n 1, 1) := by decide +kernel
theorem dX0_townsBefore_38 : decode cX0_townsBefore 38 = .ok (.iaload, 1) := by decide +kernel
theorem dX0_townsBefore_39 : decode cX0_townsBefore 39 = .ok (.if_icmp .ne 11, 3) := by decide +kernel
theorem dX0_townsBefore_42 : decode cX0_townsBefore 42 = .ok (.iload_n 3, 1) := by decide +kernel
theorem dX0_townsBefore_43 : decode cX0_townsBefore 43 = .ok (.iload_n 1, 1) := by decide +kernel
theorem dX0_townsBefore_44 : decode cX0_townsBefore 44 = .ok (.if_icmp .ge 6, 3) := by decide +kernel
theorem dX0_townsBefore_47 : decode cX0_townsBefore 47 = .ok (.iinc 2 1, 3) := by decide +kernel
theorem dX0_townsBefore_50 : decode cX0_townsBefore 50 = .ok (.iinc 3 1, 3) := by decide +kernel
theorem dX0_townsBefore_53 : decode cX0_townsBefore 53 = .ok (.goto (-49), 3) := by decide +kernel
theorem dX0_townsBefore_56 : decode cX0_townsBefore 56 = .ok (.iload_n 2, 1) := by decide +kernel
theorem dX0_townsBefore_57 : decode cX0_townsBefore 57 = .ok (.ireturn, 1) := by decide +kernel
theorem dX0_canHavePassed_0 : decode cX0_canHavePassed 0 = .ok (.aload_n 1, 1) := by decide +kernel
theorem dX0_canHavePassed_1 : decode cX0_canHavePassed 1 = .ok (.iload_n 2, 1) := by decide +kernel
theorem dX0_canHavePassed_2 : decode cX0_canHavePassed 2 = .ok (.iload_n 3, 1) := by decide +kernel
theorem dX0_canHavePassed_3 : decode cX0_canHavePassed 3 = .ok (.invokevirtual 96, 3) := by decide +kernel
theorem dX0_canHavePassed_6 : decode cX0_canHavePassed 6 = .ok (.istore 5, 2) := by decide +kernel
theorem dX0_canHavePassed_8 : decode cX0_canHavePassed 8 = .ok (.iload 5, 2) := by decide +kernel
theorem dX0_canHavePassed_10 : decode cX0_canHavePassed 10 = .ok (.iconst (-1), 1) := by decide +kernel
theorem dX0_canHavePassed_11 : decode cX0_canHavePassed 11 = .ok (.if_icmp .eq 25, 3) := by decide +kernel
theorem dX0_canHavePassed_14 : decode cX0_canHavePassed 14 = .ok (.aload_n 0, 1) := by decide +kernel
theorem dX0_canHavePassed_15 : decode cX0_canHavePassed 15 = .ok (.aload_n 1, 1) := by decide +kernel
theorem dX0_canHavePassed_16 : decode cX0_canHavePassed 16 = .ok (.iload 4, 2) := by decide +kernel
theorem dX0_canHavePassed_18 : decode cX0_canHavePassed 18 = .ok (.invokevirtual 36, 3) := by decide +kernel
theorem dX0_canHavePassed_21 : decode cX0_canHavePassed 21 = .ok (.iconst (-1), 1) := by decide +kernel
theorem dX0_canHavePassed_22 : decode cX0_canHavePassed 22 = .ok (.if_icmp .eq 14, 3) := by decide +kernel
theorem dX0_canHavePassed_25 : decode cX0_canHavePassed 25 = .ok (.aload_n 0, 1) := by decide +kernel
theorem dX0_canHavePassed_26 : decode cX0_canHavePassed 26 = .ok (.getfield 86, 3) := by decide +kernel
theorem dX0_canHavePassed_29 : decode cX0_canHavePassed 29 = .ok (.iload_n 3, 1) := by decide +kernel
theorem dX0_canHavePassed_30 : decode cX0_canHavePassed 30 = .ok (.ishr, 1) := by decide +kernel
theorem dX0_canHavePassed_31 : decode cX0_canHavePassed 31 = .ok (.iconst 1, 1) := by decide +kernel
theorem dX0_canHavePassed_32 : decode cX0_canHavePassed 32 = .ok (.iand, 1) := by decide +kernel
theorem dX0_canHavePassed_33 : decode cX0_canHavePassed 33 = .ok (.ifCond .ne 5, 3) := by decide +kernel
theorem dX0_canHavePassed_36 : decode cX0_canHavePassed 36 = .ok (.iconst 0, 1) := by decide +kernel
theorem dX0_canHavePassed_37 : decode cX0_canHavePassed 37 = .ok (.ireturn, 1) := by decide +kernel
theorem dX0_canHavePassed_38 : decode cX0_canHavePassed 38 = .ok (.aload_n 0, 1) := by decide +kernel
theorem dX0_canHavePassed_39 : decode cX0_canHavePassed 39 = .ok (.getfield 21, 3) := by decide +kernel
theorem dX0_canHavePassed_42 : decode cX0_canHavePassed 42 = .ok (.iload_n 3, 1) := by decide +kernel
theorem dX0_canHavePassed_43 : decode cX0_canHavePassed 43 = .ok (.iaload, 1) := by decide +kernel
theorem dX0_canHavePassed_44 : decode cX0_canHavePassed 44 = .ok (.istore 6, 2) := by decide +kernel
theorem dX0_canHavePassed_46 : decode cX0_canHavePassed 46 = .ok (.aload_n 0, 1) := by decide +kernel
theorem dX0_canHavePassed_47 : decode cX0_canHavePassed 47 = .ok (.getfield 21, 3) := by decide +kernel
theorem dX0_canHavePassed_50 : decode cX0_canHavePassed 50 = .ok (.iload_n 3, 1) := by decide +kernel
theorem dX0_canHavePassed_51 : decode cX0_canHavePassed 51 = .ok (.sipush 1000, 3) := by decide +kernel
theorem dX0_canHavePassed_54 : decode cX0_canHavePassed 54 = .ok (.iastore, 1) := by decide +kernel
theorem dX0_canHavePassed_55 : decode cX0_canHavePassed 55 = .ok (.iconst 0, 1) := by decide +kernel
theorem dX0_canHavePassed_56 : decode cX0_canHavePassed 56 = .ok (.istore 7, 2) := by decide +kernel
theorem dX0_canHavePassed_58 : decode cX0_canHavePassed 58 = .ok (.iload 7, 2) := by decide +kernel
theorem dX0_canHavePassed_60 : decode cX0_canHavePassed 60 = .ok (.iconst 1, 1) := by decide +kernel
theorem dX0_canHavePassed_61 : decode cX0_canHavePassed 61 = .ok (.aload_n 0, 1) := by decide +kernel
theorem dX0_canHavePassed_62 : decode cX0_canHavePassed 62 = .ok (.getfield 55, 3) := by decide +kernel
theorem dX0_canHavePassed_65 : decode cX0_canHavePassed 65 = .ok (.ishl, 1) := by decide +kernel
theorem dX0_canHavePassed_66 : decode cX0_canHavePassed 66 = .ok (.if_icmp .ge 73, 3) := by decide +kernel
theorem dX0_canHavePassed_69 : decode cX0_canHavePassed 69 = .ok (.aload_n 0, 1) := by decide +kernel
theorem dX0_canHavePassed_70 : decode cX0_canHavePassed 70 = .ok (.getfield 33, 3) := by decide +kernel
theorem dX0_canHavePassed_73 : decode cX0_canHavePassed 73 = .ok (.iload 7, 2) := by decide +kernel
theorem dX0_canHavePassed_75 : decode cX0_canHavePassed 75 = .ok (.iaload, 1) := by decide +kernel
theorem dX0_canHavePassed_76 : decode cX0_canHavePassed 76 = .ok (.aload_n 0, 1) := by decide +kernel
theorem dX0_canHavePassed_77 : decode cX0_canHavePassed 77 = .ok (.getfield 86, 3) := by decide +kernel
theorem dX0_canHavePassed_80 : decode cX0_canHavePassed 80 = .ok (.if_icmp .ne 19, 3) := by decide +kernel
theorem dX0_canHavePassed_83 : decode cX0_canHavePassed 83 = .ok (.iload 7, 2) := by decide +kernel
theorem dX0_canHavePassed_85 : decode cX0_canHavePassed 85 = .ok (.invokestatic 105, 3) := by decide +kernel
theorem dX0_canHavePassed_88 : decode cX0_canHavePassed 88 = .ok (.aload_n 0, 1) := by decide +kernel
theorem dX0_canHavePassed_89 : decode cX0_canHavePassed 89 = .ok (.getfield 59, 3) := by decide +kernel
theorem dX0_canHavePassed_92 : decode cX0_canHavePassed 92 = .ok (.if_icmp .ne 7, 3) := by decide +kernel
theorem dX0_canHavePassed_95 : decode cX0_canHavePassed 95 = .ok (.iconst 1, 1) := by decide +kernel
theorem dX0_canHavePassed_96 : decode cX0_canHavePassed 96 = .ok (.goto 4, 3) := by decide +kernel
theorem dX0_canHavePassed_99 : decode cX0_canHavePassed 99 = .ok (.iconst 0, 1) := by decide +kernel
theorem dX0_canHavePassed_100 : decode cX0_canHavePassed 100 = .ok (.istore 8, 2) := by decide +kernel
theorem dX0_canHavePassed_102 : decode cX0_canHavePassed 102 = .ok (.iload 8, 2) := by decide +kernel
theorem dX0_canHavePassed_104 : decode cX0_canHavePassed 104 = .ok (.ifCond .eq 29, 3) := by decide +kernel
theorem dX0_canHavePassed_107 : decode cX0_canHavePassed 107 = .ok (.iload 7, 2) := by decide +kernel
theorem dX0_canHavePassed_109 : decode cX0_canHavePassed 109 = .ok (.iload_n 3, 1) := by decide +kernel
theorem dX0_canHavePassed_110 : decode cX0_canHavePassed 110 = .ok (.ishr, 1) := by decide +kernel
theorem dX0_canHavePassed_111 : decode cX0_canHavePassed 111 = .ok (.iconst 1, 1) := by decide +kernel
theorem dX0_canHavePassed_112 : decode cX0_canHavePassed 112 = .ok (.iand, 1) := by decide +kernel
theorem dX0_canHavePassed_113 : decode cX0_canHavePassed 113 = .ok (.ifCond .ne 20, 3) := by decide +kernel
theorem dX0_canHavePassed_116 : decode cX0_canHavePassed 116 = .ok (.aload_n 0, 1) := by decide +kernel
theorem dX0_canHavePassed_117 : decode cX0_canHavePassed 117 = .ok (.iload 7, 2) := by decide +kernel
theorem dX0_canHavePassed_119 : decode cX0_canHavePassed 119 = .ok (.iload_n 2, 1) := by decide +kernel
theorem dX0_canHavePassed_120 : decode cX0_canHavePassed 120 = .ok (.iload_n 3, 1) := by decide +kernel
theorem dX0_canHavePassed_121 : decode cX0_canHavePassed 121 = .ok (.iload 5, 2) := by decide +kernel
theorem dX0_canHavePassed_123 : decode cX0_canHavePassed 123 = .ok (.iload 6, 2) := by decide +kernel
theorem dX0_canHavePassed_125 : decode cX0_canHavePassed 125 = .ok (.invokevirtual 127, 3) := by decide +kernel
theorem dX0_canHavePassed_128 : decode cX0_canHavePassed 128 = .ok (.ifCond .eq 5, 3) := by decide +kernel
theorem dX0_canHavePassed_131 : decode cX0_canHavePassed 131 = .ok (.iconst 1, 1) := by decide +kernel
theorem dX0_canHavePassed_132 : decode cX0_canHavePassed 132 = .ok (.ireturn, 1) := by decide +kernel
theorem dX0_canHavePassed_133 : decode cX0_canHavePassed 133 = .ok (.iinc 7 1, 3) := by decide +kernel
theorem dX0_canHavePassed_136 : decode cX0_canHavePassed 136 = .ok (.goto (-78), 3) := by decide +kernel
theorem dX0_canHavePassed_139 : decode cX0_canHavePassed 139 = .ok (.iconst 0, 1) := by decide +kernel
theorem dX0_canHavePassed_140 : decode cX0_canHavePassed 140 = .ok (.ireturn, 1) := by decide +kernel
theorem dX0_explainsByRoad_0 : decode cX0_explainsByRoad 0 = .ok (.aload_n 0, 1) := by decide +kernel
theorem dX0_explainsByRoad_1 : decode cX0_explainsByRoad 1 = .ok (.iload_n 1, 1) := by decide +kernel
theorem dX0_explainsByRoad_2 : decode cX0_explainsByRoad 2 = .ok (.invokevirtual 79, 3) := by decide +kernel
theorem dX0_explainsByRoad_5 : decode cX0_explainsByRoad 5 = .ok (.aload_n 0, 1) := by decide +kernel
theorem dX0_explainsByRoad_6 : decode cX0_explainsByRoad 6 = .ok (.invokevirtual 83, 3) := by decide +kernel
theorem dX0_explainsByRoad_9 : decode cX0_explainsByRoad 9 = .ok (.aload_n 0, 1) := by decide +kernel
theorem dX0_explainsByRoad_10 : decode cX0_explainsByRoad 10 = .ok (.getfield 27, 3) := by decide +kernel
theorem dX0_explainsByRoad_13 : decode cX0_explainsByRoad 13 = .ok (.iload_n 2, 1) := by decide +kernel
theorem dX0_explainsByRoad_14 : decode cX0_explainsByRoad 14 = .ok (.iaload, 1) := by decide +kernel
theorem dX0_explainsByRoad_15 : decode cX0_explainsByRoad 15 = .ok (.iload 4, 2) := by decide +kernel
theorem dX0_explainsByRoad_17 : decode cX0_explainsByRoad 17 = .ok (.iadd, 1) := by decide +kernel
theorem dX0_explainsByRoad_18 : decode cX0_explainsByRoad 18 = .ok (.istore 6, 2) := by decide +kernel
theorem dX0_explainsByRoad_20 : decode cX0_explainsByRoad 20 = .ok (.iload 6, 2) := by decide +kernel
theorem dX0_explainsByRoad_22 : decode cX0_explainsByRoad 22 = .ok (.iload 5, 2) := by decide +kernel
theorem dX0_explainsByRoad_24 : decode cX0_explainsByRoad 24 = .ok (.if_icmp .ge 7, 3) := by decide +kernel
theorem dX0_explainsByRoad_27 : decode cX0_explainsByRoad 27 = .ok (.iload 5, 2) := by decide +kernel
theorem dX0_explainsByRoad_29 : decode cX0_explainsByRoad 29 = .ok (.istore 6, 2) := by decide +kernel
theorem dX0_explainsByRoad_31 : decode cX0_explainsByRoad 31 = .ok (.iload 6, 2) := by decide +kernel
theorem dX0_explainsByRoad_33 : decode cX0_explainsByRoad 33 = .ok (.aload_n 0, 1) := by decide +kernel
theorem dX0_explainsByRoad_34 : decode cX0_explainsByRoad 34 = .ok (.getfield 24, 3) := by decide +kernel
theorem dX0_explainsByRoad_37 : decode cX0_explainsByRoad 37 = .ok (.iload_n 3, 1) := by decide +kernel
theorem dX0_explainsByRoad_38 : decode cX0_explainsByRoad 38 = .ok (.iaload, 1) := by decide +kernel
theorem dX0_explainsByRoad_39 : decode cX0_explainsByRoad 39 = .ok (.if_icmp .le 5, 3) := by decide +kernel
theorem dX0_explainsByRoad_42 : decode cX0_explainsByRoad 42 = .ok (.iconst 0, 1) := by decide +kernel
theorem dX0_explainsByRoad_43 : decode cX0_explainsByRoad 43 = .ok (.ireturn, 1) := by decide +kernel
theorem dX0_explainsByRoad_44 : decode cX0_explainsByRoad 44 = .ok (.aload_n 0, 1) := by decide +kernel
theorem dX0_explainsByRoad_45 : decode cX0_explainsByRoad 45 = .ok (.getfield 27, 3) := by decide +kernel
theorem dX0_explainsByRoad_48 : decode cX0_explainsByRoad 48 = .ok (.iload_n 3, 1) := by decide +kernel
theorem dX0_explainsByRoad_49 : decode cX0_explainsByRoad 49 = .ok (.iload 6, 2) := by decide +kernel
theorem dX0_explainsByRoad_51 : decode cX0_explainsByRoad 51 = .ok (.iastore, 1) := by decide +kernel
theorem dX0_explainsByRoad_52 : decode cX0_explainsByRoad 52 = .ok (.aload_n 0, 1) := by decide +kernel
theorem dX0_explainsByRoad_53 : decode cX0_explainsByRoad 53 = .ok (.invokevirtual 83, 3) := by decide +kernel
theorem dX0_explainsByRoad_56 : decode cX0_explainsByRoad 56 = .ok (.aload_n 0, 1) := by decide +kernel
theorem dX0_explainsByRoad_57 : decode cX0_explainsByRoad 57 = .ok (.invokevirtual 99, 3) := by decide +kernel
theorem dX0_explainsByRoad_60 : decode cX0_explainsByRoad 60 = .ok (.aload_n 0, 1) := by decide +kernel
theorem dX0_explainsByRoad_61 : decode cX0_explainsByRoad 61 = .ok (.getfield 86, 3) := by decide +kernel
theorem dX0_explainsByRoad_64 : decode cX0_explainsByRoad 64 = .ok (.if_icmp .ne 7, 3) := by decide +kernel
theorem dX0_explainsByRoad_67 : decode cX0_explainsByRoad 67 = .ok (.iconst 1, 1) := by decide +kernel
theorem dX0_explainsByRoad_68 : decode cX0_explainsByRoad 68 = .ok (.goto 4, 3) := by decide +kernel
theorem dX0_explainsByRoad_71 : decode cX0_explainsByRoad 71 = .ok (.iconst 0, 1) := by decide +kernel
theorem dX0_explainsByRoad_72 : decode cX0_explainsByRoad 72 = .ok (.ireturn, 1) := by decide +kernel
theorem dX1_init_0 : decode cX1_init 0 = .ok (.aload_n 0, 1) := by decide +kernel
theorem dX1_init_1 : decode cX1_init 1 = .ok (.invokespecial 5, 3) := by decide +kernel
theorem dX1_init_4 : decode cX1_init 4 = .ok (.aload_n 0, 1) := by decide +kernel
theorem dX1_init_5 : decode cX1_init 5 = .ok (.sipush 221, 3) := by decide +kernel
theorem dX1_init_8 : decode cX1_init 8 = .ok (.newarray .int, 2) := by decide +kernel
theorem dX1_init_10 : decode cX1_init 10 = .ok (.putfield 11, 3) := by decide +kernel
theorem dX1_init_13 : decode cX1_init 13 = .ok (.aload_n 0, 1) := by decide +kernel
theorem dX1_init_14 : decode cX1_init 14 = .ok (.getfield 11, 3) := by decide +kernel
theorem dX1_init_17 : decode cX1_init 17 = .ok (.iconst (-1), 1) := by decide +kernel
theorem dX1_init_18 : decode cX1_init 18 = .ok (.invokestatic 15, 3) := by decide +kernel
theorem dX1_init_21 : decode cX1_init 21 = .ok (.aload_n 0, 1) := by decide +kernel
theorem dX1_init_22 : decode cX1_init 22 = .ok (.getfield 11, 3) := by decide +kernel
theorem dX1_init_25 : decode cX1_init 25 = .ok (.iconst 0, 1) := by decide +kernel
theorem dX1_init_26 : decode cX1_init 26 = .ok (.iconst 0, 1) := by decide +kernel
theorem dX1_init_27 : decode cX1_init 27 = .ok (.iastore, 1) := by decide +kernel
theorem dX1_init_28 : decode cX1_init 28 = .ok (.return_, 1) := by decide +kernel
theorem dX1_writeTo_0 : decode cX1_writeTo 0 = .ok (.aload_n 1, 1) := by decide +kernel
theorem dX1_writeTo_1 : decode cX1_writeTo 1 = .ok (.arraylength, 1) := by decide +kernel
theorem dX1_writeTo_2 : decode cX1_writeTo 2 = .ok (.sipush 221, 3) := by decide +kernel
theorem dX1_writeTo_5 : decode cX1_writeTo 5 = .ok (.if_icmp .ne 16, 3) := by decide +kernel
theorem dX1_writeTo_8 : decode cX1_writeTo 8 = .ok (.aload_n 0, 1) := by decide +kernel
theorem dX1_writeTo_9 : decode cX1_writeTo 9 = .ok (.getfield 11, 3) := by decide +kernel
theorem dX1_writeTo_12 : decode cX1_writeTo 12 = .ok (.iconst 0, 1) := by decide +kernel
theorem dX1_writeTo_13 : decode cX1_writeTo 13 = .ok (.aload_n 1, 1) := by decide +kernel
theorem dX1_writeTo_14 : decode cX1_writeTo 14 = .ok (.iconst 0, 1) := by decide +kernel
theorem dX1_writeTo_15 : decode cX1_writeTo 15 = .ok (.sipush 221, 3) := by decide +kernel
theorem dX1_writeTo_18 : decode cX1_writeTo 18 = .ok (.invokestatic 21, 3) := by decide +kernel
theorem dX1_writeTo_21 : decode cX1_writeTo 21 = .ok (.return_, 1) := by decide +kernel
theorem dX1_readFrom_0 : decode cX1_readFrom 0 = .ok (.aload_n 1, 1) := by decide +kernel
theorem dX1_readFrom_1 : decode cX1_readFrom 1 = .ok (.arraylength, 1) := by decide +kernel
theorem dX1_readFrom_2 : decode cX1_readFrom 2 = .ok (.sipush 221, 3) := by decide +kernel
theorem dX1_readFrom_5 : decode cX1_readFrom 5 = .ok (.if_icmp .ne 16, 3) := by decide +kernel
theorem dX1_readFrom_8 : decode cX1_readFrom 8 = .ok (.aload_n 1, 1) := by decide +kernel
theorem dX1_readFrom_9 : decode cX1_readFrom 9 = .ok (.iconst 0, 1) := by decide +kernel
theorem dX1_readFrom_10 : decode cX1_readFrom 10 = .ok (.aload_n 0, 1) := by decide +kernel
theorem dX1_readFrom_11 : decode cX1_readFrom 11 = .ok (.getfield 11, 3) := by decide +kernel
theorem dX1_readFrom_14 : decode cX1_readFrom 14 = .ok (.iconst 0, 1) := by decide +kernel
theorem dX1_readFrom_15 : decode cX1_readFrom 15 = .ok (.sipush 221, 3) := by decide +kernel
theorem dX1_readFrom_18 : decode cX1_readFrom 18 = .ok (.invokestatic 21, 3) := by decide +kernel
theorem dX1_readFrom_21 : decode cX1_readFrom 21 = .ok (.return_, 1) := by decide +kernel
theorem dX1_takeOver_0 : decode cX1_takeOver 0 = .ok (.aload_n 1, 1) := by decide +kernel
theorem dX1_takeOver_1 : decode cX1_takeOver 1 = .ok (.aload_n 0, 1) := by decide +kernel
theorem dX1_takeOver_2 : decode cX1_takeOver 2 = .ok (.getfield 11, 3) := by decide +kernel
theorem dX1_takeOver_5 : decode cX1_takeOver 5 = .ok (.invokevirtual 27, 3) := by decide +kernel
theorem dX1_takeOver_8 : decode cX1_takeOver 8 = .ok (.return_, 1) := by decide +kernel
theorem dX1_townCount_0 : decode cX1_townCount 0 = .ok (.aload_n 0, 1) := by decide +kernel
theorem dX1_townCount_1 : decode cX1_townCount 1 = .ok (.getfield 11, 3) := by decide +kernel
theorem dX1_townCount_4 : decode cX1_townCount 4 = .ok (.iconst 0, 1) := by decide +kernel
theorem dX1_townCount_5 : decode cX1_townCount 5 = .ok (.iaload, 1) := by decide +kernel
theorem dX1_townCount_6 : decode cX1_townCount 6 = .ok (.ireturn, 1) := by decide +kernel
theorem dX1_isTown_0 : decode cX1_isTown 0 = .ok (.iload_n 1, 1) := by decide +kernel
theorem dX1_isTown_1 : decode cX1_isTown 1 = .ok (.ifCond .lt 23, 3) := by decide +kernel
theorem dX1_isTown_4 : decode cX1_isTown 4 = .ok (.iload_n 1, 1) := by decide +kernel
theorem dX1_isTown_5 : decode cX1_isTown 5 = .ok (.aload_n 0, 1) := by decide +kernel
theorem dX1_isTown_6 : decode cX1_isTown 6 = .ok (.getfield 11, 3) := by decide +kernel
theorem dX1_isTown_9 : decode cX1_isTown 9 = .ok (.iconst 0, 1) := by decide +kernel
theorem dX1_isTown_10 : decode cX1_isTown 10 = .ok (.iaload, 1) := by decide +kernel
theorem dX1_isTown_11 : decode cX1_isTown 11 = .ok (.if_icmp .ge 13, 3) := by decide +kernel
theorem dX1_isTown_14 : decode cX1_isTown 14 = .ok (.iload_n 1, 1) := by decide +kernel
theorem dX1_isTown_15 : decode cX1_isTown 15 = .ok (.bipush 10, 2) := by decide +kernel
theorem dX1_isTown_17 : decode cX1_isTown 17 = .ok (.if_icmp .ge 7, 3) := by decide +kernel
theorem dX1_isTown_20 : decode cX1_isTown 20 = .ok (.iconst 1, 1) := by decide +kernel
theorem dX1_isTown_21 : decode cX1_isTown 21 = .ok (.goto 4, 3) := by decide +kernel
theorem dX1_isTown_24 : decode cX1_isTown 24 = .ok (.iconst 0, 1) := by decide +kernel
theorem dX1_isTown_25 : decode cX1_isTown 25 = .ok (.ireturn, 1) := by decide +kernel
theorem dX1_roadLength_0 : decode cX1_roadLength 0 = .ok (.aload_n 0, 1) := by decide +kernel
theorem dX1_roadLength_1 : decode cX1_roadLength 1 = .ok (.iload_n 1, 1) := by decide +kernel
theorem dX1_roadLength_2 : decode cX1_roadLength 2 = .ok (.invokevirtual 31, 3) := by decide +kernel
theorem dX1_roadLength_5 : decode cX1_roadLength 5 = .ok (.ifCond .eq 27, 3) := by decide +kernel
theorem dX1_roadLength_8 : decode cX1_roadLength 8 = .ok (.aload_n 0, 1) := by decide +kernel
theorem dX1_roadLength_9 : decode cX1_roadLength 9 = .ok (.iload_n 2, 1) := by decide +kernel
theorem dX1_roadLength_10 : decode cX1_roadLength 10 = .ok (.invokevirtual 31, 3) := by decide +kernel
theorem dX1_roadLength_13 : decode cX1_roadLength 13 = .ok (.ifCond .eq 19, 3) := by decide +kernel
theorem dX1_roadLength_16 : decode cX1_roadLength 16 = .ok (.aload_n 0, 1) := by decide +kernel
theorem dX1_roadLength_17 : decode cX1_roadLength 17 = .ok (.getfield 11, 3) := by decide +kernel
theorem dX1_roadLength_20 : decode cX1_roadLength 20 = .ok (.iconst 1, 1) := by decide +kernel
theorem dX1_roadLength_21 : decode cX1_roadLength 21 = .ok (.iload_n 1, 1) := by decide +kernel
theorem dX1_roadLength_22 : decode cX1_roadLength 22 = .ok (.bipush 10, 2) := by decide +kernel
theorem dX1_roadLength_24 : decode cX1_roadLength 24 = .ok (.imul, 1) := by decide +kernel
theorem dX1_roadLength_25 : decode cX1_roadLength 25 = .ok (.iadd, 1) := by decide +kernel
theorem dX1_roadLength_26 : decode cX1_roadLength 26 = .ok (.iload_n 2, 1) := by decide +kernel
theorem dX1_roadLength_27 : decode cX1_roadLength 27 = .ok (.iadd, 1) := by decide +kernel
theorem dX1_roadLength_28 : decode cX1_roadLength 28 = .ok (.iaload, 1) := by decide +kernel
theorem dX1_roadLength_29 : decode cX1_roadLength 29 = .ok (.goto 4, 3) := by decide +kernel
theorem dX1_roadLength_32 : decode cX1_roadLength 32 = .ok (.iconst (-1), 1) := by decide +kernel
theorem dX1_roadLength_33 : decode cX1_roadLength 33 = .ok (.ireturn, 1) := by decide +kernel
theorem dX1_roadCount_0 : decode cX1_roadCount 0 = .ok (.iconst 0, 1) := by decide +kernel
theorem dX1_roadCount_1 : decode cX1_roadCount 1 = .ok (.istore_n 1, 1) := by decide +kernel
theorem dX1_roadCount_2 : decode cX1_roadCount 2 = .ok (.iconst 0, 1) := by decide +kernel
theorem dX1_roadCount_3 : decode cX1_roadCount 3 = .ok (.istore_n 2, 1) := by decide +kernel
theorem dX1_roadCount_4 : decode cX1_roadCount 4 = .ok (.iload_n 2, 1) := by decide +kernel
theorem dX1_roadCount_5 : decode cX1_roadCount 5 = .ok (.aload_n 0, 1) := by decide +kernel
theorem dX1_roadCount_6 : decode cX1_roadCount 6 = .ok (.getfield 11, 3) := by decide +kernel
theorem dX1_roadCount_9 : decode cX1_roadCount 9 = .ok (.iconst 0, 1) := by decide +kernel
theorem dX1_roadCount_10 : decode cX1_roadCount 10 = .ok (.iaload, 1) := by decide +kernel
theorem dX1_roadCount_11 : decode cX1_roadCount 11 = .ok (.if_icmp .ge 42, 3) := by decide +kernel
theorem dX1_roadCount_14 : decode cX1_roadCount 14 = .ok (.iload_n 2, 1) := by decide +kernel
theorem dX1_roadCount_15 : decode cX1_roadCount 15 = .ok (.iconst 1, 1) := by decide +kernel
theorem dX1_roadCount_16 : decode cX1_roadCount 16 = .ok (.iadd, 1) := by decide +kernel
theorem dX1_roadCount_17 : decode cX1_roadCount 17 = .ok (.istore_n 3, 1) := by decide +kernel
theorem dX1_roadCount_18 : decode cX1_roadCount 18 = .ok (.iload_n 3, 1) := by decide +kernel
theorem dX1_roadCount_19 : decode cX1_roadCount 19 = .ok (.aload_n 0, 1) := by decide +kernel
theorem dX1_roadCount_20 : decode cX1_roadCount 20 = .ok (.getfield 11, 3) := by decide +kernel
theorem dX1_roadCount_23 : decode cX1_roadCount 23 = .ok (.iconst 0, 1) := by decide +kernel
theorem dX1_roadCount_24 : decode cX1_roadCount 24 = .ok (.iaload, 1) := by decide +kernel
theorem dX1_roadCount_25 : decode cX1_roadCount 25 = .ok (.if_icmp .ge 22, 3) := by decide +kernel
theorem dX1_roadCount_28 : decode cX1_roadCount 28 = .ok (.aload_n 0, 1) := by decide +kernel
theorem dX1_roadCount_29 : decode cX1_roadCount 29 = .ok (.iload_n 2, 1) := by decide +kernel
theorem dX1_roadCount_30 : decode cX1_roadCount 30 = .ok (.iload_n 3, 1) := by decide +kernel
theorem dX1_roadCount_31 : decode cX1_roadCount 31 = .ok (.invokevirtual 35, 3) := by decide +kernel
theorem dX1_roadCount_34 : decode cX1_roadCount 34 = .ok (.iconst (-1), 1) := by decide +kernel
theorem dX1_roadCount_35 : decode cX1_roadCount 35 = .ok (.if_icmp .eq 6, 3) := by decide +kernel
theorem dX1_roadCount_38 : decode cX1_roadCount 38 = .ok (.iinc 1 1, 3) := by decide +kernel
theorem dX1_roadCount_41 : decode cX1_roadCount 41 = .ok (.iinc 3 1, 3) := by decide +kernel
theorem dX1_roadCount_44 : decode cX1_roadCount 44 = .ok (.goto (-26), 3) := by decide +kernel
theorem dX1_roadCount_47 : decode cX1_roadCount 47 = .ok (.iinc 2 1, 3) := by decide +kernel
theorem dX1_roadCount_50 : decode cX1_roadCount 50 = .ok (.goto (-46), 3) := by decide +kernel
theorem dX1_roadCount_53 : decode cX1_roadCount 53 = .ok (.iload_n 1, 1) := by decide +kernel
theorem dX1_roadCount_54 : decode cX1_roadCount 54 = .ok (.ireturn, 1) := by decide +kernel
theorem dX1_roadsAt_0 : decode cX1_roadsAt 0 = .ok (.iconst 0, 1) := by decide +kernel
theorem dX1_roadsAt_1 : decode cX1_roadsAt 1 = .ok (.istore_n 2, 1) := by decide +kernel
theorem dX1_roadsAt_2 : decode cX1_roadsAt 2 = .ok (.iconst 0, 1) := by decide +kernel
theorem dX1_roadsAt_3 : decode cX1_roadsAt 3 = .ok (.istore_n 3, 1) := by decide +kernel
theorem dX1_roadsAt_4 : decode cX1_roadsAt 4 = .ok (.iload_n 3, 1) := by decide +kernel
theorem dX1_roadsAt_5 : decode cX1_roadsAt 5 = .ok (.aload_n 0, 1) := by decide +kernel
theorem dX1_roadsAt_6 : decode cX1_roadsAt 6 = .ok (.getfield 11, 3) := by decide +kernel
theorem dX1_roadsAt_9 : decode cX1_roadsAt 9 = .ok (.iconst 0, 1) := by decide +kernel
theorem dX1_roadsAt_10 : decode cX1_roadsAt 10 = .ok (.iaload, 1) := by decide +kernel
theorem dX1_roadsAt_11 : decode cX1_roadsAt 11 = .ok (.if_icmp .ge 22, 3) := by decide +kernel
theorem dX1_roadsAt_14 : decode cX1_roadsAt 14 = .ok (.aload_n 0, 1) := by decide +kernel
theorem dX1_roadsAt_15 : decode cX1_roadsAt 15 = .ok (.iload_n 1, 1) := by decide +kernel
theorem dX1_roadsAt_16 : decode cX1_roadsAt 16 = .ok (.iload_n 3, 1) := by decide +kernel
theorem dX1_roadsAt_17 : decode cX1_roadsAt 17 = .ok (.invokevirtual 35, 3) := by decide +kernel
theorem dX1_roadsAt_20 : decode cX1_roadsAt 20 = .ok (.iconst (-1), 1) := by decide +kernel
theorem dX1_roadsAt_21 : decode cX1_roadsAt 21 = .ok (.if_icmp .eq 6, 3) := by decide +kernel
theorem dX1_roadsAt_24 : decode cX1_roadsAt 24 = .ok (.iinc 2 1, 3) := by decide +kernel
theorem dX1_roadsAt_27 : decode cX1_roadsAt 27 = .ok (.iinc 3 1, 3) := by decide +kernel
theorem dX1_roadsAt_30 : decode cX1_roadsAt 30 = .ok (.goto (-26), 3) := by decide +kernel
theorem dX1_roadsAt_33 : decode cX1_roadsAt 33 = .ok (.iload_n 2, 1) := by decide +kernel
theorem dX1_roadsAt_34 : decode cX1_roadsAt 34 = .ok (.ireturn, 1) := by decide +kernel
theorem dX1_townBeside_0 : decode cX1_townBeside 0 = .ok (.iconst 0, 1) := by decide +kernel
theorem dX1_townBeside_1 : decode cX1_townBeside 1 = .ok (.istore_n 3, 1) := by decide +kernel
theorem dX1_townBeside_2 : decode cX1_townBeside 2 = .ok (.iconst 0, 1) := by decide +kernel
theorem dX1_townBeside_3 : decode cX1_townBeside 3 = .ok (.istore 4, 2) := by decide +kernel
theorem dX1_townBeside_5 : decode cX1_townBeside 5 = .ok (.iload 4, 2) := by decide +kernel
theorem dX1_townBeside_7 : decode cX1_townBeside 7 = .ok (.aload_n 0, 1) := by decide +kernel
theorem dX1_townBeside_8 : decode cX1_townBeside 8 = .ok (.getfield 11, 3) := by decide +kernel
theorem dX1_townBeside_11 : decode cX1_townBeside 11 = .ok (.iconst 0, 1) := by decide +kernel
theorem dX1_townBeside_12 : decode cX1_townBeside 12 = .ok (.iaload, 1) := by decide +kernel
theorem dX1_townBeside_13 : decode cX1_townBeside 13 = .ok (.if_icmp .ge 31, 3) := by decide +kernel
theorem dX1_townBeside_16 : decode cX1_townBeside 16 = .ok (.aload_n 0, 1) := by decide +kernel
theorem dX1_townBeside_17 : decode cX1_townBeside 17 = .ok (.iload_n 1, 1) := by decide +kernel
theorem dX1_townBeside_18 : decode cX1_townBeside 18 = .ok (.iload 4, 2) := by decide +kernel
theorem dX1_townBeside_20 : decode cX1_townBeside 20 = .ok (.invokevirtual 35, 3) := by decide +kernel
theorem dX1_townBeside_23 : decode cX1_townBeside 23 = .ok (.iconst (-1), 1) := by decide +kernel
theorem dX1_townBeside_24 : decode cX1_townBeside 24 = .ok (.if_icmp .eq 14, 3) := by decide +kernel
theorem dX1_townBeside_27 : decode cX1_townBeside 27 = .ok (.iload_n 3, 1) := by decide +kernel
theorem dX1_townBeside_28 : decode cX1_townBeside 28 = .ok (.iload_n 2, 1) := by decide +kernel
theorem dX1_townBeside_29 : decode cX1_townBeside 29 = .ok (.if_icmp .ne 6, 3) := by decide +kernel
theorem dX1_townBeside_32 : decode cX1_townBeside 32 = .ok (.iload 4, 2) := by decide +kernel
theorem dX1_townBeside_34 : decode cX1_townBeside 34 = .ok (.ireturn, 1) := by decide +kernel
theorem dX1_townBeside_35 : decode cX1_townBeside 35 = .ok (.iinc 3 1, 3) := by decide +kernel
theorem dX1_townBeside_38 : decode cX1_townBeside 38 = .ok (.iinc 4 1, 3) := by decide +kernel
theorem dX1_townBeside_41 : decode cX1_townBeside 41 = .ok (.goto (-36), 3) := by decide +kernel
theorem dX1_townBeside_44 : decode cX1_townBeside 44 = .ok (.iconst (-1), 1) := by decide +kernel
theorem dX1_townBeside_45 : decode cX1_townBeside 45 = .ok (.ireturn, 1) := by decide +kernel
theorem dX1_reportedYear_0 : decode cX1_reportedYear 0 = .ok (.aload_n 0, 1) := by decide +kernel
theorem dX1_reportedYear_1 : decode cX1_reportedYear 1 = .ok (.iload_n 1, 1) := by decide +kernel
theorem dX1_reportedYear_2 : decode cX1_reportedYear 2 = .ok (.invokevirtual 31, 3) := by decide +kernel
theorem dX1_reportedYear_5 : decode cX1_reportedYear 5 = .ok (.ifCond .eq 10, 3) := by decide +kernel
theorem dX1_reportedYear_8 : decode cX1_reportedYear 8 = .ok (.iload_n 2, 1) := by decide +kernel
theorem dX1_reportedYear_9 : decode cX1_reportedYear 9 = .ok (.invokestatic 39, 3) := by decide +kernel
theorem dX1_reportedYear_12 : decode cX1_reportedYear 12 = .ok (.ifCond .ne 5, 3) := by decide +kernel
theorem dX1_reportedYear_15 : decode cX1_reportedYear 15 = .ok (.iconst (-1), 1) := by decide +kernel
theorem dX1_reportedYear_16 : decode cX1_reportedYear 16 = .ok (.ireturn, 1) := by decide +kernel
theorem dX1_reportedYear_17 : decode cX1_reportedYear 17 = .ok (.aload_n 0, 1) := by decide +kernel
theorem dX1_reportedYear_18 : decode cX1_reportedYear 18 = .ok (.getfield 11, 3) := by decide +kernel
theorem dX1_reportedYear_21 : decode cX1_reportedYear 21 = .ok (.iload_n 3, 1) := by decide +kernel
theorem dX1_reportedYear_22 : decode cX1_reportedYear 22 = .ok (.ifCond .eq 8, 3) := by decide +kernel
theorem dX1_reportedYear_25 : decode cX1_reportedYear 25 = .ok (.bipush 101, 2) := by decide +kernel
theorem dX1_reportedYear_27 : decode cX1_reportedYear 27 = .ok (.goto 6, 3) := by decide +kernel
theorem dX1_reportedYear_30 : decode cX1_reportedYear 30 = .ok (.sipush 161, 3) := by decide +kernel
theorem dX1_reportedYear_33 : decode cX1_reportedYear 33 = .ok (.iload_n 1, 1) := by decide +kernel
theorem dX1_reportedYear_34 : decode cX1_reportedYear 34 = .ok (.bipush 6, 2) := by decide +kernel
theorem dX1_reportedYear_36 : decode cX1_reportedYear 36 = .ok (.imul, 1) := by decide +kernel
theorem dX1_reportedYear_37 : decode cX1_reportedYear 37 = .ok (.iadd, 1) := by decide +kernel
theorem dX1_reportedYear_38 : decode cX1_reportedYear 38 = .ok (.iload_n 2, 1) := by decide +kernel
theorem dX1_reportedYear_39 : decode cX1_reportedYear 39 = .ok (.iadd, 1) := by decide +kernel
theorem dX1_reportedYear_40 : decode cX1_reportedYear 40 = .ok (.iaload, 1) := by decide +kernel
theorem dX1_reportedYear_41 : decode cX1_reportedYear 41 = .ok (.ireturn, 1) := by decide +kernel
theorem dX1_isReported_0 : decode cX1_isReported 0 = .ok (.aload_n 0, 1) := by decide +kernel
theorem dX1_isReported_1 : decode cX1_isReported 1 = .ok (.iload_n 1, 1) := by decide +kernel
theorem dX1_isReported_2 : decode cX1_isReported 2 = .ok (.iload_n 2, 1) := by decide +kernel
theorem dX1_isReported_3 : decode cX1_isReported 3 = .ok (.iconst 1, 1) := by decide +kernel
theorem dX1_isReported_4 : decode cX1_isReported 4 = .ok (.invokevirtual 42, 3) := by decide +kernel
theorem dX1_isReported_7 : decode cX1_isReported 7 = .ok (.iconst (-1), 1) := by decide +kernel
theorem dX1_isReported_8 : decode cX1_isReported 8 = .ok (.if_icmp .ne 14, 3) := by decide +kernel
theorem dX1_isReported_11 : decode cX1_isReported 11 = .ok (.aload_n 0, 1) := by decide +kernel
theorem dX1_isReported_12 : decode cX1_isReported 12 = .ok (.iload_n 1, 1) := by decide +kernel
theorem dX1_isReported_13 : decode cX1_isReported 13 = .ok (.iload_n 2, 1) := by decide +kernel
theorem dX1_isReported_14 : decode cX1_isReported 14 = .ok (.iconst 0, 1) := by decide +kernel
theorem dX1_isReported_15 : decode cX1_isReported 15 = .ok (.invokevirtual 42, 3) := by decide +kernel
theorem dX1_isReported_18 : decode cX1_isReported 18 = .ok (.iconst (-1), 1) := by decide +kernel
theorem dX1_isReported_19 : decode cX1_isReported 19 = .ok (.if_icmp .eq 7, 3) := by decide +kernel
theorem dX1_isReported_22 : decode cX1_isReported 22 = .ok (.iconst 1, 1) := by decide +kernel
theorem dX1_isReported_23 : decode cX1_isReported 23 = .ok (.goto 4, 3) := by decide +kernel
theorem dX1_isReported_26 : decode cX1_isReported 26 = .ok (.iconst 0, 1) := by decide +kernel
theorem dX1_isReported_27 : decode cX1_isReported 27 = .ok (.ireturn, 1) := by decide +kernel
theorem dX1_isContradicted_0 : decode cX1_isContradicted 0 = .ok (.aload_n 0, 1) := by decide +kernel
theorem dX1_isContradicted_1 : decode cX1_isContradicted 1 = .ok (.iload_n 1, 1) := by decide +kernel
theorem dX1_isContradicted_2 : decode cX1_isContradicted 2 = .ok (.iload_n 2, 1) := by decide +kernel
theorem dX1_isContradicted_3 : decode cX1_isContradicted 3 = .ok (.iconst 1, 1) := by decide +kernel
theorem dX1_isContradicted_4 : decode cX1_isContradicted 4 = .ok (.invokevirtual 42, 3) := by decide +kernel
theorem dX1_isContradicted_7 : decode cX1_isContradicted 7 = .ok (.istore_n 3, 1) := by decide +kernel
theorem dX1_isContradicted_8 : decode cX1_isContradicted 8 = .ok (.iload_n 3, 1) := by decide +kernel
theorem dX1_isContradicted_9 : decode cX1_isContradicted 9 = .ok (.iconst (-1), 1) := by decide +kernel
theorem dX1_isContradicted_10 : decode cX1_isContradicted 10 = .ok (.if_icmp .eq 18, 3) := by decide +kernel
theorem dX1_isContradicted_13 : decode cX1_isContradicted 13 = .ok (.iload_n 3, 1) := by decide +kernel
theorem dX1_isContradicted_14 : decode cX1_isContradicted 14 = .ok (.aload_n 0, 1) := by decide +kernel
theorem dX1_isContradicted_15 : decode cX1_isContradicted 15 = .ok (.iload_n 1, 1) := by decide +kernel
theorem dX1_isContradicted_16 : decode cX1_isContradicted 16 = .ok (.iload_n 2, 1) := by decide +kernel
theorem dX1_isContradicted_17 : decode cX1_isContradicted 17 = .ok (.iconst 0, 1) := by decide +kernel
theorem dX1_isContradicted_18 : decode cX1_isContradicted 18 = .ok (.invokevirtual 42, 3) := by decide +kernel
theorem dX1_isContradicted_21 : decode cX1_isContradicted 21 = .ok (.if_icmp .gt 7, 3) := by decide +kernel
theorem dX1_isContradicted_24 : decode cX1_isContradicted 24 = .ok (.iconst 1, 1) := by decide +kernel
theorem dX1_isContradicted_25 : decode cX1_isContradicted 25 = .ok (.goto 4, 3) := by decide +kernel
theorem dX1_isContradicted_28 : decode cX1_isContradicted 28 = .ok (.iconst 0, 1) := by decide +kernel
theorem dX1_isContradicted_29 : decode cX1_isContradicted 29 = .ok (.ireturn, 1) := by decide +kernel
theorem dX1_reportedPairs_0 : decode cX1_reportedPairs 0 = .ok (.iconst 0, 1) := by decide +kernel
theorem dX1_reportedPairs_1 : decode cX1_reportedPairs 1 = .ok (.istore_n 1, 1) := by decide +kernel
theorem dX1_reportedPairs_2 : decode cX1_reportedPairs 2 = .ok (.iconst 0, 1) := by decide +kernel
theorem dX1_reportedPairs_3 : decode cX1_reportedPairs 3 = .ok (.istore_n 2, 1) := by decide +kernel
theorem dX1_reportedPairs_4 : decode cX1_reportedPairs 4 = .ok (.iload_n 2, 1) := by decide +kernel
theorem dX1_reportedPairs_5 : decode cX1_reportedPairs 5 = .ok (.aload_n 0, 1) := by decide +kernel
theorem dX1_reportedPairs_6 : decode cX1_reportedPairs 6 = .ok (.getfield 11, 3) := by decide +kernel
theorem dX1_reportedPairs_9 : decode cX1_reportedPairs 9 = .ok (.iconst 0, 1) := by decide +kernel
theorem dX1_reportedPairs_10 : decode cX1_reportedPairs 10 = .ok (.iaload, 1) := by decide +kernel
theorem dX1_reportedPairs_11 : decode cX1_reportedPairs 11 = .ok (.if_icmp .ge 35, 3) := by decide +kernel
theorem dX1_reportedPairs_14 : decode cX1_reportedPairs 14 = .ok (.iconst 0, 1) := by decide +kernel
theorem dX1_reportedPairs_15 : decode cX1_reportedPairs 15 = .ok (.istore_n 3, 1) := by decide +kernel
theorem dX1_reportedPairs_16 : decode cX1_reportedPairs 16 = .ok (.iload_n 3, 1) := by decide +kernel
theorem dX1_reportedPairs_17 : decode cX1_reportedPairs 17 = .ok (.bipush 6, 2) := by decide +kernel
theorem dX1_reportedPairs_19 : decode cX1_reportedPairs 19 = .ok (.if_icmp .ge 21, 3) := by decide +kernel
theorem dX1_reportedPairs_22 : decode cX1_reportedPairs 22 = .ok (.aload_n 0, 1) := by decide +kernel
theorem dX1_reportedPairs_23 : decode cX1_reportedPairs 23 = .ok (.iload_n 2, 1) := by decide +kernel
theorem dX1_reportedPairs_24 : decode cX1_reportedPairs 24 = .ok (.iload_n 3, 1) := by decide +kernel
theorem dX1_reportedPairs_25 : decode cX1_reportedPairs 25 = .ok (.invokevirtual 46, 3) := by decide +kernel
theorem dX1_reportedPairs_28 : decode cX1_reportedPairs 28 = .ok (.ifCond .eq 6, 3) := by decide +kernel
theorem dX1_reportedPairs_31 : decode cX1_reportedPairs 31 = .ok (.iinc 1 1, 3) := by decide +kernel
theorem dX1_reportedPairs_34 : decode cX1_reportedPairs 34 = .ok (.iinc 3 1, 3) := by decide +kernel
theorem dX1_reportedPairs_37 : decode cX1_reportedPairs 37 = .ok (.goto (-21), 3) := by decide +kernel
theorem dX1_reportedPairs_40 : decode cX1_reportedPairs 40 = .ok (.iinc 2 1, 3) := by decide +kernel
theorem dX1_reportedPairs_43 : decode cX1_reportedPairs 43 = .ok (.goto (-39), 3) := by decide +kernel
theorem dX1_reportedPairs_46 : decode cX1_reportedPairs 46 = .ok (.iload_n 1, 1) := by decide +kernel
theorem dX1_reportedPairs_47 : decode cX1_reportedPairs 47 = .ok (.ireturn, 1) := by decide +kernel
theorem dX1_contradictions_0 : decode cX1_contradictions 0 = .ok (.iconst 0, 1) := by decide +kernel
theorem dX1_contradictions_1 : decode cX1_contradictions 1 = .ok (.istore_n 1, 1) := by decide +kernel
theorem dX1_contradictions_2 : decode cX1_contradictions 2 = .ok (.iconst 0, 1) := by decide +kernel
theorem dX1_contradictions_3 : decode cX1_contradictions 3 = .ok (.istore_n 2, 1) := by decide +kernel
theorem dX1_contradictions_4 : decode cX1_contradictions 4 = .ok (.iload_n 2, 1) := by decide +kernel
theorem dX1_contradictions_5 : decode cX1_contradictions 5 = .ok (.aload_n 0, 1) := by decide +kernel
theorem dX1_contradictions_6 : decode cX1_contradictions 6 = .ok (.getfield 11, 3) := by decide +kernel
theorem dX1_contradictions_9 : decode cX1_contradictions 9 = .ok (.iconst 0, 1) := by decide +kernel
theorem dX1_contradictions_10 : decode cX1_contradictions 10 = .ok (.iaload, 1) := by decide +kernel
theorem dX1_contradictions_11 : decode cX1_contradictions 11 = .ok (.if_icmp .ge 35, 3) := by decide +kernel
theorem dX1_contradictions_14 : decode cX1_contradictions 14 = .ok (.iconst 0, 1) := by decide +kernel
theorem dX1_contradictions_15 : decode cX1_contradictions 15 = .ok (.istore_n 3, 1) := by decide +kernel
theorem dX1_contradictions_16 : decode cX1_contradictions 16 = .ok (.iload_n 3, 1) := by decide +kernel
theorem dX1_contradictions_17 : decode cX1_contradictions 17 = .ok (.bipush 6, 2) := by decide +kernel
theorem dX1_contradictions_19 : decode cX1_contradictions 19 = .ok (.if_icmp .ge 21, 3) := by decide +kernel
theorem dX1_contradictions_22 : decode cX1_contradictions 22 = .ok (.aload_n 0, 1) := by decide +kernel
theorem dX1_contradictions_23 : decode cX1_contradictions 23 = .ok (.iload_n 2, 1) := by decide +kernel
theorem dX1_contradictions_24 : decode cX1_contradictions 24 = .ok (.iload_n 3, 1) := by decide +kernel
theorem dX1_contradictions_25 : decode cX1_contradictions 25 = .ok (.invokevirtual 50, 3) := by decide +kernel
theorem dX1_contradictions_28 : decode cX1_contradictions 28 = .ok (.ifCond .eq 6, 3) := by decide +kernel
theorem dX1_contradictions_31 : decode cX1_contradictions 31 = .ok (.iinc 1 1, 3) := by decide +kernel
theorem dX1_contradictions_34 : decode cX1_contradictions 34 = .ok (.iinc 3 1, 3) := by decide +kernel
theorem dX1_contradictions_37 : decode cX1_contradictions 37 = .ok (.goto (-21), 3) := by decide +kernel
theorem dX1_contradictions_40 : decode cX1_contradictions 40 = .ok (.iinc 2 1, 3) := by decide +kernel
theorem dX1_contradictions_43 : decode cX1_contradictions 43 = .ok (.goto (-39), 3) := by decide +kernel
theorem dX1_contradictions_46 : decode cX1_contradictions 46 = .ok (.iload_n 1, 1) := by decide +kernel
theorem dX1_contradictions_47 : decode cX1_contradictions 47 = .ok (.ireturn, 1) := by decide +kernel
theorem dX1_canJoin_0 : decode cX1_canJoin 0 = .ok (.aload_n 0, 1) := by decide +kernel
theorem dX1_canJoin_1 : decode cX1_canJoin 1 = .ok (.iload_n 1, 1) := by decide +kernel
theorem dX1_canJoin_2 : decode cX1_canJoin 2 = .ok (.invokevirtual 31, 3) := by decide +kernel
theorem dX1_canJoin_5 : decode cX1_canJoin 5 = .ok (.ifCond .eq 23, 3) := by decide +kernel
theorem dX1_canJoin_8 : decode cX1_canJoin 8 = .ok (.aload_n 0, 1) := by decide +kernel
theorem dX1_canJoin_9 : decode cX1_canJoin 9 = .ok (.iload_n 2, 1) := by decide +kernel
theorem dX1_canJoin_10 : decode cX1_canJoin 10 = .ok (.invokevirtual 31, 3) := by decide +kernel
theorem dX1_canJoin_13 : decode cX1_canJoin 13 = .ok (.ifCond .eq 15, 3) := by decide +kernel
theorem dX1_canJoin_16 : decode cX1_canJoin 16 = .ok (.iload_n 1, 1) := by decide +kernel
theorem dX1_canJoin_17 : decode cX1_canJoin 17 = .ok (.iload_n 2, 1) := by decide +kernel
theorem dX1_canJoin_18 : decode cX1_canJoin 18 = .ok (.if_icmp .eq 10, 3) := by decide +kernel
theorem dX1_canJoin_21 : decode cX1_canJoin 21 = .ok (.iload_n 3, 1) := by decide +kernel
theorem dX1_canJoin_22 : decode cX1_canJoin 22 = .ok (.invokestatic 53, 3) := by decide +kernel
theorem dX1_canJoin_25 : decode cX1_canJoin 25 = .ok (.ifCond .ne 5, 3) := by decide +kernel
theorem dX1_canJoin_28 : decode cX1_canJoin 28 = .ok (.iconst 0, 1) := by decide +kernel
theorem dX1_canJoin_29 : decode cX1_canJoin 29 = .ok (.ireturn, 1) := by decide +kernel
theorem dX1_canJoin_30 : decode cX1_canJoin 30 = .ok (.aload_n 0, 1) := by decide +kernel
theorem dX1_canJoin_31 : decode cX1_canJoin 31 = .ok (.iload_n 1, 1) := by decide +kernel
theorem dX1_canJoin_32 : decode cX1_canJoin 32 = .ok (.iload_n 2, 1) := by decide +kernel
theorem dX1_canJoin_33 : decode cX1_canJoin 33 = .ok (.invokevirtual 35, 3) := by decide +kernel
theorem dX1_canJoin_36 : decode cX1_canJoin 36 = .ok (.iconst (-1), 1) := by decide +kernel
theorem dX1_canJoin_37 : decode cX1_canJoin 37 = .ok (.if_icmp .eq 5, 3) := by decide +kernel
theorem dX1_canJoin_40 : decode cX1_canJoin 40 = .ok (.iconst 1, 1) := by decide +kernel
theorem dX1_canJoin_41 : decode cX1_canJoin 41 = .ok (.ireturn, 1) := by decide +kernel
theorem dX1_canJoin_42 : decode cX1_canJoin 42 = .ok (.aload_n 0, 1) := by decide +kernel
theorem dX1_canJoin_43 : decode cX1_canJoin 43 = .ok (.iload_n 1, 1) := by decide +kernel
theorem dX1_canJoin_44 : decode cX1_canJoin 44 = .ok (.invokevirtual 56, 3) := by decide +kernel
theorem dX1_canJoin_47 : decode cX1_canJoin 47 = .ok (.iconst 3, 1) := by decide +kernel
theorem dX1_canJoin_48 : decode cX1_canJoin 48 = .ok (.if_icmp .ge 25, 3) := by decide +kernel
theorem dX1_canJoin_51 : decode cX1_canJoin 51 = .ok (.aload_n 0, 1) := by decide +kernel
theorem dX1_canJoin_52 : decode cX1_canJoin 52 = .ok (.iload_n 2, 1) := by decide +kernel
theorem dX1_canJoin_53 : decode cX1_canJoin 53 = .ok (.invokevirtual 56, 3) := by decide +kernel
theorem dX1_canJoin_56 : decode cX1_canJoin 56 = .ok (.iconst 3, 1) := by decide +kernel
theorem dX1_canJoin_57 : decode cX1_canJoin 57 = .ok (.if_icmp .ge 16, 3) := by decide +kernel
theorem dX1_canJoin_60 : decode cX1_canJoin 60 = .ok (.aload_n 0, 1) := by decide +kernel
theorem dX1_canJoin_61 : decode cX1_canJoin 61 = .ok (.invokevirtual 60, 3) := by decide +kernel
theorem dX1_canJoin_64 : decode cX1_canJoin 64 = .ok (.bipush 15, 2) := by decide +kernel
theorem dX1_canJoin_66 : decode cX1_canJoin 66 = .ok (.if_icmp .ge 7, 3) := by decide +kernel
theorem dX1_canJoin_69 : decode cX1_canJoin 69 = .ok (.iconst 1, 1) := by decide +kernel
theorem dX1_canJoin_70 : decode cX1_canJoin 70 = .ok (.goto 4, 3) := by decide +kernel
theorem dX1_canJoin_73 : decode cX1_canJoin 73 = .ok (.iconst 0, 1) := by decide +kernel
theorem dX1_canJoin_74 : decode cX1_canJoin 74 = .ok (.ireturn, 1) := by decide +kernel
theorem dX1_addTown_0 : decode cX1_addTown 0 = .ok (.aload_n 0, 1) := by decide +kernel
theorem dX1_addTown_1 : decode cX1_addTown 1 = .ok (.getfield 11, 3) := by decide +kernel
theorem dX1_addTown_4 : decode cX1_addTown 4 = .ok (.iconst 0, 1) := by decide +kernel
theorem dX1_addTown_5 : decode cX1_addTown 5 = .ok (.iaload, 1) := by decide +kernel
theorem dX1_addTown_6 : decode cX1_addTown 6 = .ok (.istore_n 1, 1) := by decide +kernel
theorem dX1_addTown_7 : decode cX1_addTown 7 = .ok (.iload_n 1, 1) := by decide +kernel
theorem dX1_addTown_8 : decode cX1_addTown 8 = .ok (.bipush 10, 2) := by decide +kernel
theorem dX1_addTown_10 : decode cX1_addTown 10 = .ok (.if_icmp .lt 5, 3) := by decide +kernel
theorem dX1_addTown_13 : decode cX1_addTown 13 = .ok (.iconst (-1), 1) := by decide +kernel
theorem dX1_addTown_14 : decode cX1_addTown 14 = .ok (.ireturn, 1) := by decide +kernel
theorem dX1_addTown_15 : decode cX1_addTown 15 = .ok (.aload_n 0, 1) := by decide +kernel
theorem dX1_addTown_16 : decode cX1_addTown 16 = .ok (.getfield 11, 3) := by decide +kernel
theorem dX1_addTown_19 : decode cX1_addTown 19 = .ok (.iconst 0, 1) := by decide +kernel
theorem dX1_addTown_20 : decode cX1_addTown 20 = .ok (.iload_n 1, 1) := by decide +kernel
theorem dX1_addTown_21 : decode cX1_addTown 21 = .ok (.iconst 1, 1) := by decide +kernel
theorem dX1_addTown_22 : decode cX1_addTown 22 = .ok (.iadd, 1) := by decide +kernel
theorem dX1_addTown_23 : decode cX1_addTown 23 = .ok (.iastore, 1) := by decide +kernel
theorem dX1_addTown_24 : decode cX1_addTown 24 = .ok (.iload_n 1, 1) := by decide +kernel
theorem dX1_addTown_25 : decode cX1_addTown 25 = .ok (.ireturn, 1) := by decide +kernel
theorem dX1_join_0 : decode cX1_join 0 = .ok (.aload_n 0, 1) := by decide +kernel
theorem dX1_join_1 : decode cX1_join 1 = .ok (.iload_n 1, 1) := by decide +kernel
theorem dX1_join_2 : decode cX1_join 2 = .ok (.iload_n 2, 1) := by decide +kernel
theorem dX1_join_3 : decode cX1_join 3 = .ok (.iload_n 3, 1) := by decide +kernel
theorem dX1_join_4 : decode cX1_join 4 = .ok (.invokevirtual 64, 3) := by decide +kernel
theorem dX1_join_7 : decode cX1_join 7 = .ok (.ifCond .ne 5, 3) := by decide +kernel
theorem dX1_join_10 : decode cX1_join 10 = .ok (.iconst 0, 1) := by decide +kernel
theorem dX1_join_11 : decode cX1_join 11 = .ok (.ireturn, 1) := by decide +kernel
theorem dX1_join_12 : decode cX1_join 12 = .ok (.aload_n 0, 1) := by decide +kernel
theorem dX1_join_13 : decode cX1_join 13 = .ok (.iload_n 1, 1) := by decide +kernel
theorem dX1_join_14 : decode cX1_join 14 = .ok (.iload_n 2, 1) := by decide +kernel
theorem dX1_join_15 : decode cX1_join 15 = .ok (.iload_n 3, 1) := by decide +kernel
theorem dX1_join_16 : decode cX1_join 16 = .ok (.invokevirtual 68, 3) := by decide +kernel
theorem dX1_join_19 : decode cX1_join 19 = .ok (.iconst 1, 1) := by decide +kernel
theorem dX1_join_20 : decode cX1_join 20 = .ok (.ireturn, 1) := by decide +kernel
theorem dX1_cut_0 : decode cX1_cut 0 = .ok (.aload_n 0, 1) := by decide +kernel
theorem dX1_cut_1 : decode cX1_cut 1 = .ok (.iload_n 1, 1) := by decide +kernel
theorem dX1_cut_2 : decode cX1_cut 2 = .ok (.iload_n 2, 1) := by decide +kernel
theorem dX1_cut_3 : decode cX1_cut 3 = .ok (.invokevirtual 35, 3) := by decide +kernel
theorem dX1_cut_6 : decode cX1_cut 6 = .ok (.istore_n 3, 1) := by decide +kernel
theorem dX1_cut_7 : decode cX1_cut 7 = .ok (.iload_n 3, 1) := by decide +kernel
theorem dX1_cut_8 : decode cX1_cut 8 = .ok (.iconst (-1), 1) := by decide +kernel
theorem dX1_cut_9 : decode cX1_cut 9 = .ok (.if_icmp .eq 10, 3) := by decide +kernel
theorem dX1_cut_12 : decode cX1_cut 12 = .ok (.aload_n 0, 1) := by decide +kernel
theorem dX1_cut_13 : decode cX1_cut 13 = .ok (.iload_n 1, 1) := by decide +kernel
theorem dX1_cut_14 : decode cX1_cut 14 = .ok (.iload_n 2, 1) := by decide +kernel
theorem dX1_cut_15 : decode cX1_cut 15 = .ok (.iconst (-1), 1) := by decide +kernel
theorem dX1_cut_16 : decode cX1_cut 16 = .ok (.invokevirtual 68, 3) := by decide +kernel
theorem dX1_cut_19 : decode cX1_cut 19 = .ok (.iload_n 3, 1) := by decide +kernel
theorem dX1_cut_20 : decode cX1_cut 20 = .ok (.ireturn, 1) := by decide +kernel
theorem dX1_setRoad_0 : decode cX1_setRoad 0 = .ok (.aload_n 0, 1) := by decide +kernel
theorem dX1_setRoad_1 : decode cX1_setRoad 1 = .ok (.iload_n 1, 1) := by decide +kernel
theorem dX1_setRoad_2 : decode cX1_setRoad 2 = .ok (.invokevirtual 31, 3) := by decide +kernel
theorem dX1_setRoad_5 : decode cX1_setRoad 5 = .ok (.ifCond .eq 39, 3) := by decide +kernel
theorem dX1_setRoad_8 : decode cX1_setRoad 8 = .ok (.aload_n 0, 1) := by decide +kernel
theorem dX1_setRoad_9 : decode cX1_setRoad 9 = .ok (.iload_n 2, 1) := by decide +kernel
theorem dX1_setRoad_10 : decode cX1_setRoad 10 = .ok (.invokevirtual 31, 3) := by decide +kernel
theorem dX1_setRoad_13 : decode cX1_setRoad 13 = .ok (.ifCond .eq 31, 3) := by decide +kernel
theorem dX1_setRoad_16 : decode cX1_setRoad 16 = .ok (.aload_n 0, 1) := by decide +kernel
theorem dX1_setRoad_17 : decode cX1_setRoad 17 = .ok (.getfield 11, 3) := by decide +kernel
theorem dX1_setRoad_20 : decode cX1_setRoad 20 = .ok (.iconst 1, 1) := by decide +kernel
theorem dX1_setRoad_21 : decode cX1_setRoad 21 = .ok (.iload_n 1, 1) := by decide +kernel
theorem dX1_setRoad_22 : decode cX1_setRoad 22 = .ok (.bipush 10, 2) := by decide +kernel
theorem dX1_setRoad_24 : decode cX1_setRoad 24 = .ok (.imul, 1) := by decide +kernel
theorem dX1_setRoad_25 : decode cX1_setRoad 25 = .ok (.iadd, 1) := by decide +kernel
theorem dX1_setRoad_26 : decode cX1_setRoad 26 = .ok (.iload_n 2, 1) := by decide +kernel
theorem dX1_setRoad_27 : decode cX1_setRoad 27 = .ok (.iadd, 1) := by decide +kernel
theorem dX1_setRoad_28 : decode cX1_setRoad 28 = .ok (.iload_n 3, 1) := by decide +kernel
theorem dX1_setRoad_29 : decode cX1_setRoad 29 = .ok (.iastore, 1) := by decide +kernel
theorem dX1_setRoad_30 : decode cX1_setRoad 30 = .ok (.aload_n 0, 1) := by decide +kernel
theorem dX1_setRoad_31 : decode cX1_setRoad 31 = .ok (.getfield 11, 3) := by decide +kernel
theorem dX1_setRoad_34 : decode cX1_setRoad 34 = .ok (.iconst 1, 1) := by decide +kernel
theorem dX1_setRoad_35 : decode cX1_setRoad 35 = .ok (.iload_n 2, 1) := by decide +kernel
theorem dX1_setRoad_36 : decode cX1_setRoad 36 = .ok (.bipush 10, 2) := by decide +kernel
theorem dX1_setRoad_38 : decode cX1_setRoad 38 = .ok (.imul, 1) := by decide +kernel
theorem dX1_setRoad_39 : decode cX1_setRoad 39 = .ok (.iadd, 1) := by decide +kernel
theorem dX1_setRoad_40 : decode cX1_setRoad 40 = .ok (.iload_n 1, 1) := by decide +kernel
theorem dX1_setRoad_41 : decode cX1_setRoad 41 = .ok (.iadd, 1) := by decide +kernel
theorem dX1_setRoad_42 : decode cX1_setRoad 42 = .ok (.iload_n 3, 1) := by decide +kernel
theorem dX1_setRoad_43 : decode cX1_setRoad 43 = .ok (.iastore, 1) := by decide +kernel
theorem dX1_setRoad_44 : decode cX1_setRoad 44 = .ok (.return_, 1) := by decide +kernel
theorem dX1_note_0 : decode cX1_note 0 = .ok (.aload_n 0, 1) := by decide +kernel
theorem dX1_note_1 : decode cX1_note 1 = .ok (.iload_n 1, 1) := by decide +kernel
theorem dX1_note_2 : decode cX1_note 2 = .ok (.invokevirtual 31, 3) := by decide +kernel
theorem dX1_note_5 : decode cX1_note 5 = .ok (.ifCond .eq 17, 3) := by decide +kernel
theorem dX1_note_8 : decode cX1_note 8 = .ok (.iload_n 2, 1) := by decide +kernel
theorem dX1_note_9 : decode cX1_note 9 = .ok (.invokestatic 39, 3) := by decide +kernel
theorem dX1_note_12 : decode cX1_note 12 = .ok (.ifCond .eq 10, 3) := by decide +kernel
theorem dX1_note_15 : decode cX1_note 15 = .ok (.iload_n 3, 1) := by decide +kernel
theorem dX1_note_16 : decode cX1_note 16 = .ok (.invokestatic 72, 3) := by decide +kernel
theorem dX1_note_19 : decode cX1_note 19 = .ok (.ifCond .ne 5, 3) := by decide +kernel
theorem dX1_note_22 : decode cX1_note 22 = .ok (.iconst (-1), 1) := by decide +kernel
theorem dX1_note_23 : decode cX1_note 23 = .ok (.ireturn, 1) := by decide +kernel
theorem dX1_note_24 : decode cX1_note 24 = .ok (.iload 4, 2) := by decide +kernel
theorem dX1_note_26 : decode cX1_note 26 = .ok (.ifCond .eq 8, 3) := by decide +kernel
theorem dX1_note_29 : decode cX1_note 29 = .ok (.bipush 101, 2) := by decide +kernel
theorem dX1_note_31 : decode cX1_note 31 = .ok (.goto 6, 3) := by decide +kernel
theorem dX1_note_34 : decode cX1_note 34 = .ok (.sipush 161, 3) := by decide +kernel
theorem dX1_note_37 : decode cX1_note 37 = .ok (.iload_n 1, 1) := by decide +kernel
theorem dX1_note_38 : decode cX1_note 38 = .ok (.bipush 6, 2) := by decide +kernel
theorem dX1_note_40 : decode cX1_note 40 = .ok (.imul, 1) := by decide +kernel
theorem dX1_note_41 : decode cX1_note 41 = .ok (.iadd, 1) := by decide +kernel
theorem dX1_note_42 : decode cX1_note 42 = .ok (.iload_n 2, 1) := by decide +kernel
theorem dX1_note_43 : decode cX1_note 43 = .ok (.iadd, 1) := by decide +kernel
theorem dX1_note_44 : decode cX1_note 44 = .ok (.istore 5, 2) := by decide +kernel
theorem dX1_note_46 : decode cX1_note 46 = .ok (.aload_n 0, 1) := by decide +kernel
theorem dX1_note_47 : decode cX1_note 47 = .ok (.getfield 11, 3) := by decide +kernel
theorem dX1_note_50 : decode cX1_note 50 = .ok (.iload 5, 2) := by decide +kernel
theorem dX1_note_52 : decode cX1_note 52 = .ok (.iaload, 1) := by decide +kernel
theorem dX1_note_53 : decode cX1_note 53 = .ok (.istore 6, 2) := by decide +kernel
theorem dX1_note_55 : decode cX1_note 55 = .ok (.iload 6, 2) := by decide +kernel
theorem dX1_note_57 : decode cX1_note 57 = .ok (.iconst (-1), 1) := by decide +kernel
theorem dX1_note_58 : decode cX1_note 58 = .ok (.if_icmp .eq 23, 3) := by decide +kernel
theorem dX1_note_61 : decode cX1_note 61 = .ok (.iload 4, 2) := by decide +kernel
theorem dX1_note_63 : decode cX1_note 63 = .ok (.ifCond .eq 12, 3) := by decide +kernel
theorem dX1_note_66 : decode cX1_note 66 = .ok (.iload_n 3, 1) := by decide +kernel
theorem dX1_note_67 : decode cX1_note 67 = .ok (.iload 6, 2) := by decide +kernel
theorem dX1_note_69 : decode cX1_note 69 = .ok (.if_icmp .ge 16, 3) := by decide +kernel
theorem dX1_note_72 : decode cX1_note 72 = .ok (.goto 9, 3) := by decide +kernel
theorem dX1_note_75 : decode cX1_note 75 = .ok (.iload_n 3, 1) := by decide +kernel
theorem dX1_note_76 : decode cX1_note 76 = .ok (.iload 6, 2) := by decide +kernel
theorem dX1_note_78 : decode cX1_note 78 = .ok (.if_icmp .le 7, 3) := by decide +kernel
theorem dX1_note_81 : decode cX1_note 81 = .ok (.iconst 1, 1) := by decide +kernel
theorem dX1_note_82 : decode cX1_note 82 = .ok (.goto 4, 3) := by decide +kernel
theorem dX1_note_85 : decode cX1_note 85 = .ok (.iconst 0, 1) := by decide +kernel
theorem dX1_note_86 : decode cX1_note 86 = .ok (.istore 7, 2) := by decide +kernel
theorem dX1_note_88 : decode cX1_note 88 = .ok (.iload 7, 2) := by decide +kernel
theorem dX1_note_90 : decode cX1_note 90 = .ok (.ifCond .eq 11, 3) := by decide +kernel
theorem dX1_note_93 : decode cX1_note 93 = .ok (.aload_n 0, 1) := by decide +kernel
theorem dX1_note_94 : decode cX1_note 94 = .ok (.getfield 11, 3) := by decide +kernel
theorem dX1_note_97 : decode cX1_note 97 = .ok (.iload 5, 2) := by decide +kernel
theorem dX1_note_99 : decode cX1_note 99 = .ok (.iload_n 3, 1) := by decide +kernel
theorem dX1_note_100 : decode cX1_note 100 = .ok (.iastore, 1) := by decide +kernel
theorem dX1_note_101 : decode cX1_note 101 = .ok (.iload 7, 2) := by decide +kernel
theorem dX1_note_103 : decode cX1_note 103 = .ok (.ifCond .eq 7, 3) := by decide +kernel
theorem dX1_note_106 : decode cX1_note 106 = .ok (.iconst 1, 1) := by decide +kernel
theorem dX1_note_107 : decode cX1_note 107 = .ok (.goto 4, 3) := by decide +kernel
theorem dX1_note_110 : decode cX1_note 110 = .ok (.iconst 0, 1) := by decide +kernel
theorem dX1_note_111 : decode cX1_note 111 = .ok (.ireturn, 1) := by decide +kernel
theorem dX1_drop_0 : decode cX1_drop 0 = .ok (.aload_n 0, 1) := by decide +kernel
theorem dX1_drop_1 : decode cX1_drop 1 = .ok (.iload_n 1, 1) := by decide +kernel
theorem dX1_drop_2 : decode cX1_drop 2 = .ok (.invokevirtual 31, 3) := by decide +kernel
theorem dX1_drop_5 : decode cX1_drop 5 = .ok (.ifCond .eq 10, 3) := by decide +kernel
theorem dX1_drop_8 : decode cX1_drop 8 = .ok (.iload_n 2, 1) := by decide +kernel
theorem dX1_drop_9 : decode cX1_drop 9 = .ok (.invokestatic 39, 3) := by decide +kernel
theorem dX1_drop_12 : decode cX1_drop 12 = .ok (.ifCond .ne 5, 3) := by decide +kernel
theorem dX1_drop_15 : decode cX1_drop 15 = .ok (.iconst (-1), 1) := by decide +kernel
theorem dX1_drop_16 : decode cX1_drop 16 = .ok (.ireturn, 1) := by decide +kernel
theorem dX1_drop_17 : decode cX1_drop 17 = .ok (.aload_n 0, 1) := by decide +kernel
theorem dX1_drop_18 : decode cX1_drop 18 = .ok (.iload_n 1, 1) := by decide +kernel
theorem dX1_drop_19 : decode cX1_drop 19 = .ok (.iload_n 2, 1) := by decide +kernel
theorem dX1_drop_20 : decode cX1_drop 20 = .ok (.invokevirtual 46, 3) := by decide +kernel
theorem dX1_drop_23 : decode cX1_drop 23 = .ok (.istore_n 3, 1) := by decide +kernel
theorem dX1_drop_24 : decode cX1_drop 24 = .ok (.aload_n 0, 1) := by decide +kernel
theorem dX1_drop_25 : decode cX1_drop 25 = .ok (.getfield 11, 3) := by decide +kernel
theorem dX1_drop_28 : decode cX1_drop 28 = .ok (.bipush 101, 2) := by decide +kernel
theorem dX1_drop_30 : decode cX1_drop 30 = .ok (.iload_n 1, 1) := by decide +kernel
theorem dX1_drop_31 : decode cX1_drop 31 = .ok (.bipush 6, 2) := by decide +kernel
theorem dX1_drop_33 : decode cX1_drop 33 = .ok (.imul, 1) := by decide +kernel
theorem dX1_drop_34 : decode cX1_drop 34 = .ok (.iadd, 1) := by decide +kernel
theorem dX1_drop_35 : decode cX1_drop 35 = .ok (.iload_n 2, 1) := by decide +kernel
theorem dX1_drop_36 : decode cX1_drop 36 = .ok (.iadd, 1) := by decide +kernel
theorem dX1_drop_37 : decode cX1_drop 37 = .ok (.iconst (-1), 1) := by decide +kernel
theorem dX1_drop_38 : decode cX1_drop 38 = .ok (.iastore, 1) := by decide +kernel
theorem dX1_drop_39 : decode cX1_drop 39 = .ok (.aload_n 0, 1) := by decide +kernel
theorem dX1_drop_40 : decode cX1_drop 40 = .ok (.getfield 11, 3) := by decide +kernel
theorem dX1_drop_43 : decode cX1_drop 43 = .ok (.sipush 161, 3) := by decide +kernel
theorem dX1_drop_46 : decode cX1_drop 46 = .ok (.iload_n 1, 1) := by decide +kernel
theorem dX1_drop_47 : decode cX1_drop 47 = .ok (.bipush 6, 2) := by decide +kernel
theorem dX1_drop_49 : decode cX1_drop 49 = .ok (.imul, 1) := by decide +kernel
theorem dX1_drop_50 : decode cX1_drop 50 = .ok (.iadd, 1) := by decide +kernel
theorem dX1_drop_51 : decode cX1_drop 51 = .ok (.iload_n 2, 1) := by decide +kernel
theorem dX1_drop_52 : decode cX1_drop 52 = .ok (.iadd, 1) := by decide +kernel
theorem dX1_drop_53 : decode cX1_drop 53 = .ok (.iconst (-1), 1) := by decide +kernel
theorem dX1_drop_54 : decode cX1_drop 54 = .ok (.iastore, 1) := by decide +kernel
theorem dX1_drop_55 : decode cX1_drop 55 = .ok (.iload_n 3, 1) := by decide +kernel
theorem dX1_drop_56 : decode cX1_drop 56 = .ok (.ifCond .eq 7, 3) := by decide +kernel
theorem dX1_drop_59 : decode cX1_drop 59 = .ok (.iconst 1, 1) := by decide +kernel
theorem dX1_drop_60 : decode cX1_drop 60 = .ok (.goto 4, 3) := by decide +kernel
theorem dX1_drop_63 : decode cX1_drop 63 = .ok (.iconst 0, 1) := by decide +kernel
theorem dX1_drop_64 : decode cX1_drop 64 = .ok (.ireturn, 1) := by decide +kernel
theorem dX2_init_0 : decode cX2_init 0 = .ok (.aload_n 0, 1) := by decide +kernel
theorem dX2_init_1 : decode cX2_init 1 = .ok (.invokespecial 1, 3) := by decide +kernel
theorem dX2_init_4 : decode cX2_init 4 = .ok (.aload_n 0, 1) := by decide +kernel
theorem dX2_init_5 : decode cX2_init 5 = .ok (.bipush 14, 2) := by decide +kernel
theorem dX2_init_7 : decode cX2_init 7 = .ok (.sipush 221, 3) := by decide +kernel
theorem dX2_init_10 : decode cX2_init 10 = .ok (.multianewarray 11 2, 4) := by decide +kernel
theorem dX2_init_14 : decode cX2_init 14 = .ok (.putfield 13, 3) := by decide +kernel
theorem dX2_init_17 : decode cX2_init 17 = .ok (.aload_n 0, 1) := by decide +kernel
theorem dX2_init_18 : decode cX2_init 18 = .ok (.iconst 0, 1) := by decide +kernel
theorem dX2_init_19 : decode cX2_init 19 = .ok (.putfield 16, 3) := by decide +kernel
theorem dX2_init_22 : decode cX2_init 22 = .ok (.aload_n 0, 1) := by decide +kernel
theorem dX2_init_23 : decode cX2_init 23 = .ok (.iconst 0, 1) := by decide +kernel
theorem dX2_init_24 : decode cX2_init 24 = .ok (.putfield 20, 3) := by decide +kernel
theorem dX2_init_27 : decode cX2_init 27 = .ok (.return_, 1) := by decide +kernel
theorem dX2_isEmpty_0 : decode cX2_isEmpty 0 = .ok (.aload_n 0, 1) := by decide +kernel
theorem dX2_isEmpty_1 : decode cX2_isEmpty 1 = .ok (.getfield 20, 3) := by decide +kernel
theorem dX2_isEmpty_4 : decode cX2_isEmpty 4 = .ok (.ifCond .ne 7, 3) := by decide +kernel
theorem dX2_isEmpty_7 : decode cX2_isEmpty 7 = .ok (.iconst 1, 1) := by decide +kernel
theorem dX2_isEmpty_8 : decode cX2_isEmpty 8 = .ok (.goto 4, 3) := by decide +kernel
theorem dX2_isEmpty_11 : decode cX2_isEmpty 11 = .ok (.iconst 0, 1) := by decide +kernel
theorem dX2_isEmpty_12 : decode cX2_isEmpty 12 = .ok (.ireturn, 1) := by decide +kernel
theorem dX2_clear_0 : decode cX2_clear 0 = .ok (.aload_n 0, 1) := by decide +kernel
theorem dX2_clear_1 : decode cX2_clear 1 = .ok (.iconst 0, 1) := by decide +kernel
theorem dX2_clear_2 : decode cX2_clear 2 = .ok (.putfield 20, 3) := by decide +kernel
theorem dX2_clear_5 : decode cX2_clear 5 = .ok (.return_, 1) := by decide +kernel
theorem dX2_remember_0 : decode cX2_remember 0 = .ok (.aload_n 1, 1) := by decide +kernel
theorem dX2_remember_1 : decode cX2_remember 1 = .ok (.aload_n 0, 1) := by decide +kernel
theorem dX2_remember_2 : decode cX2_remember 2 = .ok (.getfield 13, 3) := by decide +kernel
theorem dX2_remember_5 : decode cX2_remember 5 = .ok (.aload_n 0, 1) := by decide +kernel
theorem dX2_remember_6 : decode cX2_remember 6 = .ok (.getfield 16, 3) := by decide +kernel
theorem dX2_remember_9 : decode cX2_remember 9 = .ok (.aload_n 0, 1) := by decide +kernel
theorem dX2_remember_10 : decode cX2_remember 10 = .ok (.getfield 20, 3) := by decide +kernel
theorem dX2_remember_13 : decode cX2_remember 13 = .ok (.iadd, 1) := by decide +kernel
theorem dX2_remember_14 : decode cX2_remember 14 = .ok (.bipush 14, 2) := by decide +kernel
theorem dX2_remember_16 : decode cX2_remember 16 = .ok (.irem, 1) := by decide +kernel
theorem dX2_remember_17 : decode cX2_remember 17 = .ok (.aaload, 1) := by decide +kernel
theorem dX2_remember_18 : decode cX2_remember 18 = .ok (.invokevirtual 23, 3) := by decide +kernel
theorem dX2_remember_21 : decode cX2_remember 21 = .ok (.aload_n 0, 1) := by decide +kernel
theorem dX2_remember_22 : decode cX2_remember 22 = .ok (.getfield 20, 3) := by decide +kernel
theorem dX2_remember_25 : decode cX2_remember 25 = .ok (.bipush 14, 2) := by decide +kernel
theorem dX2_remember_27 : decode cX2_remember 27 = .ok (.if_icmp .ge 16, 3) := by decide +kernel
theorem dX2_remember_30 : decode cX2_remember 30 = .ok (.aload_n 0, 1) := by decide +kernel
theorem dX2_remember_31 : decode cX2_remember 31 = .ok (.dup, 1) := by decide +kernel
theorem dX2_remember_32 : decode cX2_remember 32 = .ok (.getfield 20, 3) := by decide +kernel
theorem dX2_remember_35 : decode cX2_remember 35 = .ok (.iconst 1, 1) := by decide +kernel
theorem dX2_remember_36 : decode cX2_remember 36 = .ok (.iadd, 1) := by decide +kernel
theorem dX2_remember_37 : decode cX2_remember 37 = .ok (.putfield 20, 3) := by decide +kernel
theorem dX2_remember_40 : decode cX2_remember 40 = .ok (.goto 16, 3) := by decide +kernel
theorem dX2_remember_43 : decode cX2_remember 43 = .ok (.aload_n 0, 1) := by decide +kernel
theorem dX2_remember_44 : decode cX2_remember 44 = .ok (.aload_n 0, 1) := by decide +kernel
theorem dX2_remember_45 : decode cX2_remember 45 = .ok (.getfield 16, 3) := by decide +kernel
theorem dX2_remember_48 : decode cX2_remember 48 = .ok (.iconst 1, 1) := by decide +kernel
theorem dX2_remember_49 : decode cX2_remember 49 = .ok (.iadd, 1) := by decide +kernel
theorem dX2_remember_50 : decode cX2_remember 50 = .ok (.bipush 14, 2) := by decide +kernel
theorem dX2_remember_52 : decode cX2_remember 52 = .ok (.irem, 1) := by decide +kernel
theorem dX2_remember_53 : decode cX2_remember 53 = .ok (.putfield 16, 3) := by decide +kernel
theorem dX2_remember_56 : decode cX2_remember 56 = .ok (.return_, 1) := by decide +kernel
theorem dX2_takeBack_0 : decode cX2_takeBack 0 = .ok (.aload_n 0, 1) := by decide +kernel
theorem dX2_takeBack_1 : decode cX2_takeBack 1 = .ok (.getfield 20, 3) := by decide +kernel
theorem dX2_takeBack_4 : decode cX2_takeBack 4 = .ok (.ifCond .le 34, 3) := by decide +kernel
theorem dX2_takeBack_7 : decode cX2_takeBack 7 = .ok (.aload_n 0, 1) := by decide +kernel
theorem dX2_takeBack_8 : decode cX2_takeBack 8 = .ok (.dup, 1) := by decide +kernel
theorem dX2_takeBack_9 : decode cX2_takeBack 9 = .ok (.getfield 20, 3) := by decide +kernel
theorem dX2_takeBack_12 : decode cX2_takeBack 12 = .ok (.iconst 1, 1) := by decide +kernel
theorem dX2_takeBack_13 : decode cX2_takeBack 13 = .ok (.isub, 1) := by decide +kernel
theorem dX2_takeBack_14 : decode cX2_takeBack 14 = .ok (.putfield 20, 3) := by decide +kernel
theorem dX2_takeBack_17 : decode cX2_takeBack 17 = .ok (.aload_n 1, 1) := by decide +kernel
theorem dX2_takeBack_18 : decode cX2_takeBack 18 = .ok (.aload_n 0, 1) := by decide +kernel
theorem dX2_takeBack_19 : decode cX2_takeBack 19 = .ok (.getfield 13, 3) := by decide +kernel
theorem dX2_takeBack_22 : decode cX2_takeBack 22 = .ok (.aload_n 0, 1) := by decide +kernel
theorem dX2_takeBack_23 : decode cX2_takeBack 23 = .ok (.getfield 16, 3) := by decide +kernel
theorem dX2_takeBack_26 : decode cX2_takeBack 26 = .ok (.aload_n 0, 1) := by decide +kernel
theorem dX2_takeBack_27 : decode cX2_takeBack 27 = .ok (.getfield 20, 3) := by decide +kernel
theorem dX2_takeBack_30 : decode cX2_takeBack 30 = .ok (.iadd, 1) := by decide +kernel
theorem dX2_takeBack_31 : decode cX2_takeBack 31 = .ok (.bipush 14, 2) := by decide +kernel
theorem dX2_takeBack_33 : decode cX2_takeBack 33 = .ok (.irem, 1) := by decide +kernel
theorem dX2_takeBack_34 : decode cX2_takeBack 34 = .ok (.aaload, 1) := by decide +kernel
theorem dX2_takeBack_35 : decode cX2_takeBack 35 = .ok (.invokevirtual 27, 3) := by decide +kernel
theorem dX2_takeBack_38 : decode cX2_takeBack 38 = .ok (.aload_n 0, 1) := by decide +kernel
theorem dX2_takeBack_39 : decode cX2_takeBack 39 = .ok (.getfield 20, 3) := by decide +kernel
theorem dX2_takeBack_42 : decode cX2_takeBack 42 = .ok (.ireturn, 1) := by decide +kernel
theorem dX3_init_0 : decode cX3_init 0 = .ok (.aload_n 0, 1) := by decide +kernel
theorem dX3_init_1 : decode cX3_init 1 = .ok (.invokespecial 3, 3) := by decide +kernel
theorem dX3_init_4 : decode cX3_init 4 = .ok (.aload_n 0, 1) := by decide +kernel
theorem dX3_init_5 : decode cX3_init 5 = .ok (.new 9, 3) := by decide +kernel
theorem dX3_init_8 : decode cX3_init 8 = .ok (.dup, 1) := by decide +kernel
theorem dX3_init_9 : decode cX3_init 9 = .ok (.invokespecial 11, 3) := by decide +kernel
theorem dX3_init_12 : decode cX3_init 12 = .ok (.putfield 12, 3) := by decide +kernel
theorem dX3_init_15 : decode cX3_init 15 = .ok (.aload_n 0, 1) := by decide +kernel
theorem dX3_init_16 : decode cX3_init 16 = .ok (.new 18, 3) := by decide +kernel
theorem dX3_init_19 : decode cX3_init 19 = .ok (.dup, 1) := by decide +kernel
theorem dX3_init_20 : decode cX3_init 20 = .ok (.invokespecial 20, 3) := by decide +kernel
theorem dX3_init_23 : decode cX3_init 23 = .ok (.putfield 21, 3) := by decide +kernel
theorem dX3_init_26 : decode cX3_init 26 = .ok (.return_, 1) := by decide +kernel
theorem dX3_begin_0 : decode cX3_begin 0 = .ok (.aload_n 0, 1) := by decide +kernel
theorem dX3_begin_1 : decode cX3_begin 1 = .ok (.getfield 12, 3) := by decide +kernel
theorem dX3_begin_4 : decode cX3_begin 4 = .ok (.aload_n 1, 1) := by decide +kernel
theorem dX3_begin_5 : decode cX3_begin 5 = .ok (.invokevirtual 25, 3) := by decide +kernel
theorem dX3_begin_8 : decode cX3_begin 8 = .ok (.return_, 1) := by decide +kernel
theorem dX3_inventionsWithRoad_0 : decode cX3_inventionsWithRoad 0 = .ok (.aload_n 0, 1) := by decide +kernel
theorem dX3_inventionsWithRoad_1 : decode cX3_inventionsWithRoad 1 = .ok (.getfield 12, 3) := by decide +kernel
theorem dX3_inventionsWithRoad_4 : decode cX3_inventionsWithRoad 4 = .ok (.iload_n 1, 1) := by decide +kernel
theorem dX3_inventionsWithRoad_5 : decode cX3_inventionsWithRoad 5 = .ok (.iload_n 2, 1) := by decide +kernel
theorem dX3_inventionsWithRoad_6 : decode cX3_inventionsWithRoad 6 = .ok (.iload_n 3, 1) := by decide +kernel
theorem dX3_inventionsWithRoad_7 : decode cX3_inventionsWithRoad 7 = .ok (.invokevirtual 29, 3) := by decide +kernel
theorem dX3_inventionsWithRoad_10 : decode cX3_inventionsWithRoad 10 = .ok (.pop, 1) := by decide +kernel
theorem dX3_inventionsWithRoad_11 : decode cX3_inventionsWithRoad 11 = .ok (.aload_n 0, 1) := by decide +kernel
theorem dX3_inventionsWithRoad_12 : decode cX3_inventionsWithRoad 12 = .ok (.getfield 21, 3) := by decide +kernel
theorem dX3_inventionsWithRoad_15 : decode cX3_inventionsWithRoad 15 = .ok (.aload_n 0, 1) := by decide +kernel
theorem dX3_inventionsWithRoad_16 : decode cX3_inventionsWithRoad 16 = .ok (.getfield 12, 3) := by decide +kernel
theorem dX3_inventionsWithRoad_19 : decode cX3_inventionsWithRoad 19 = .ok (.invokevirtual 33, 3) := by decide +kernel
theorem dX3_inventionsWithRoad_22 : decode cX3_inventionsWithRoad 22 = .ok (.ireturn, 1) := by decide +kernel
theorem dX3_newRoad_0 : decode cX3_newRoad 0 = .ok (.iconst (-1), 1) := by decide +kernel
theorem dX3_newRoad_1 : decode cX3_newRoad 1 = .ok (.istore_n 2, 1) := by decide +kernel
theorem dX3_newRoad_2 : decode cX3_newRoad 2 = .ok (.iconst 0, 1) := by decide +kernel
theorem dX3_newRoad_3 : decode cX3_newRoad 3 = .ok (.istore_n 3, 1) := by decide +kernel
theorem dX3_newRoad_4 : decode cX3_newRoad 4 = .ok (.iconst 0, 1) := by decide +kernel
theorem dX3_newRoad_5 : decode cX3_newRoad 5 = .ok (.istore 4, 2) := by decide +kernel
theorem dX3_newRoad_7 : decode cX3_newRoad 7 = .ok (.iload 4, 2) := by decide +kernel
theorem dX3_newRoad_9 : decode cX3_newRoad 9 = .ok (.aload_n 0, 1) := by decide +kernel
theorem dX3_newRoad_10 : decode cX3_newRoad 10 = .ok (.getfield 12, 3) := by decide +kernel
theorem dX3_newRoad_13 : decode cX3_newRoad 13 = .ok (.invokevirtual 37, 3) := by decide +kernel
theorem dX3_newRoad_16 : decode cX3_newRoad 16 = .ok (.if_icmp .ge 111, 3) := by decide +kernel
theorem dX3_newRoad_19 : decode cX3_newRoad 19 = .ok (.iload 4, 2) := by decide +kernel
theorem dX3_newRoad_21 : decode cX3_newRoad 21 = .ok (.iconst 1, 1) := by decide +kernel
theorem dX3_newRoad_22 : decode cX3_newRoad 22 = .ok (.iadd, 1) := by decide +kernel
theorem dX3_newRoad_23 : decode cX3_newRoad 23 = .ok (.istore 5, 2) := by decide +kernel
theorem dX3_newRoad_25 : decode cX3_newRoad 25 = .ok (.iload 5, 2) := by decide +kernel
theorem dX3_newRoad_27 : decode cX3_newRoad 27 = .ok (.aload_n 0, 1) := by decide +kernel
theorem dX3_newRoad_28 : decode cX3_newRoad 28 = .ok (.getfield 12, 3) := by decide +kernel
theorem dX3_newRoad_31 : decode cX3_newRoad 31 = .ok (.invokevirtual 37, 3) := by decide +kernel
theorem dX3_newRoad_34 : decode cX3_newRoad 34 = .ok (.if_icmp .ge 87, 3) := by decide +kernel
theorem dX3_newRoad_37 : decode cX3_newRoad 37 = .ok (.aload_n 0, 1) := by decide +kernel
theorem dX3_newRoad_38 : decode cX3_newRoad 38 = .ok (.getfield 12, 3) := by decide +kernel
theorem dX3_newRoad_41 : decode cX3_newRoad 41 = .ok (.iload 4, 2) := by decide +kernel
theorem dX3_newRoad_43 : decode cX3_newRoad 43 = .ok (.iload 5, 2) := by decide +kernel
theorem dX3_newRoad_45 : decode cX3_newRoad 45 = .ok (.invokevirtual 41, 3) := by decide +kernel
theorem dX3_newRoad_48 : decode cX3_newRoad 48 = .ok (.iconst (-1), 1) := by decide +kernel
theorem dX3_newRoad_49 : decode cX3_newRoad 49 = .ok (.if_icmp .ne 66, 3) := by decide +kernel
theorem dX3_newRoad_52 : decode cX3_newRoad 52 = .ok (.aload_n 0, 1) := by decide +kernel
theorem dX3_newRoad_53 : decode cX3_newRoad 53 = .ok (.getfield 12, 3) := by decide +kernel
theorem dX3_newRoad_56 : decode cX3_newRoad 56 = .ok (.iload 4, 2) := by decide +kernel
theorem dX3_newRoad_58 : decode cX3_newRoad 58 = .ok (.iload 5, 2) := by decide +kernel
theorem dX3_newRoad_60 : decode cX3_newRoad 60 = .ok (.iload_n 1, 1) := by decide +kernel
theorem dX3_newRoad_61 : decode cX3_newRoad 61 = .ok (.invokevirtual 29, 3) := by decide +kernel
theorem dX3_newRoad_64 : decode cX3_newRoad 64 = .ok (.ifCond .eq 51, 3) := by decide +kernel
theorem dX3_newRoad_67 : decode cX3_newRoad 67 = .ok (.aload_n 0, 1) := by decide +kernel
theorem dX3_newRoad_68 : decode cX3_newRoad 68 = .ok (.getfield 21, 3) := by decide +kernel
theorem dX3_newRoad_71 : decode cX3_newRoad 71 = .ok (.aload_n 0, 1) := by decide +kernel
theorem dX3_newRoad_72 : decode cX3_newRoad 72 = .ok (.getfield 12, 3) := by decide +kernel
theorem dX3_newRoad_75 : decode cX3_newRoad 75 = .ok (.invokevirtual 33, 3) := by decide +kernel
theorem dX3_newRoad_78 : decode cX3_newRoad 78 = .ok (.istore 6, 2) := by decide +kernel
theorem dX3_newRoad_80 : decode cX3_newRoad 80 = .ok (.aload_n 0, 1) := by decide +kernel
theorem dX3_newRoad_81 : decode cX3_newRoad 81 = .ok (.getfield 12, 3) := by decide +kernel
theorem dX3_newRoad_84 : decode cX3_newRoad 84 = .ok (.iload 4, 2) := by decide +kernel
theorem dX3_newRoad_86 : decode cX3_newRoad 86 = .ok (.iload 5, 2) := by decide +kernel
theorem dX3_newRoad_88 : decode cX3_newRoad 88 = .ok (.invokevirtual 45, 3) := by decide +kernel
theorem dX3_newRoad_91 : decode cX3_newRoad 91 = .ok (.pop, 1) := by decide +kernel
theorem dX3_newRoad_92 : decode cX3_newRoad 92 = .ok (.iload_n 2, 1) := by decide +kernel
theorem dX3_newRoad_93 : decode cX3_newRoad 93 = .ok (.iconst (-1), 1) := by decide +kernel
theorem dX3_newRoad_94 : decode cX3_newRoad 94 = .ok (.if_icmp .eq 9, 3) := by decide +kernel
theorem dX3_newRoad_97 : decode cX3_newRoad 97 = .ok (.iload 6, 2) := by decide +kernel
theorem dX3_newRoad_99 : decode cX3_newRoad 99 = .ok (.iload_n 3, 1) := by decide +kernel
theorem dX3_newRoad_100 : decode cX3_newRoad 100 = .ok (.if_icmp .ge 15, 3) := by decide +kernel
theorem dX3_newRoad_103 : decode cX3_newRoad 103 = .ok (.bipush 10, 2) := by decide +kernel
theorem dX3_newRoad_105 : decode cX3_newRoad 105 = .ok (.iload 4, 2) := by decide +kernel
theorem dX3_newRoad_107 : decode cX3_newRoad 107 = .ok (.imul, 1) := by decide +kernel
theorem dX3_newRoad_108 : decode cX3_newRoad 108 = .ok (.iload 5, 2) := by decide +kernel
theorem dX3_newRoad_110 : decode cX3_newRoad 110 = .ok (.iadd, 1) := by decide +kernel
theorem dX3_newRoad_111 : decode cX3_newRoad 111 = .ok (.istore_n 2, 1) := by decide +kernel
theorem dX3_newRoad_112 : decode cX3_newRoad 112 = .ok (.iload 6, 2) := by decide +kernel
theorem dX3_newRoad_114 : decode cX3_newRoad 114 = .ok (.istore_n 3, 1) := by decide +kernel
theorem dX3_newRoad_115 : decode cX3_newRoad 115 = .ok (.iinc 5 1, 3) := by decide +kernel
theorem dX3_newRoad_118 : decode cX3_newRoad 118 = .ok (.goto (-93), 3) := by decide +kernel
theorem dX3_newRoad_121 : decode cX3_newRoad 121 = .ok (.iinc 4 1, 3) := by decide +kernel
theorem dX3_newRoad_124 : decode cX3_newRoad 124 = .ok (.goto (-117), 3) := by decide +kernel
theorem dX3_newRoad_127 : decode cX3_newRoad 127 = .ok (.iload_n 2, 1) := by decide +kernel
theorem dX3_newRoad_128 : decode cX3_newRoad 128 = .ok (.ireturn, 1) := by decide +kernel
theorem dX3_costliestReport_0 : decode cX3_costliestReport 0 = .ok (.iconst (-1), 1) := by decide +kernel
theorem dX3_costliestReport_1 : decode cX3_costliestReport 1 = .ok (.istore_n 1, 1) := by decide +kernel
theorem dX3_costliestReport_2 : decode cX3_costliestReport 2 = .ok (.iconst 0, 1) := by decide +kernel
theorem dX3_costliestReport_3 : decode cX3_costliestReport 3 = .ok (.istore_n 2, 1) := by decide +kernel
theorem dX3_costliestReport_4 : decode cX3_costliestReport 4 = .ok (.iconst 0, 1) := by decide +kernel
theorem dX3_costliestReport_5 : decode cX3_costliestReport 5 = .ok (.istore_n 3, 1) := by decide +kernel
theorem dX3_costliestReport_6 : decode cX3_costliestReport 6 = .ok (.iload_n 3, 1) := by decide +kernel
theorem dX3_costliestReport_7 : decode cX3_costliestReport 7 = .ok (.aload_n 0, 1) := by decide +kernel
theorem dX3_costliestReport_8 : decode cX3_costliestReport 8 = .ok (.getfield 12, 3) := by decide +kernel
theorem dX3_costliestReport_11 : decode cX3_costliestReport 11 = .ok (.invokevirtual 37, 3) := by decide +kernel
theorem dX3_costliestReport_14 : decode cX3_costliestReport 14 = .ok (.if_icmp .ge 68, 3) := by decide +kernel
theorem dX3_costliestReport_17 : decode cX3_costliestReport 17 = .ok (.iconst 0, 1) := by decide +kernel
theorem dX3_costliestReport_18 : decode cX3_costliestReport 18 = .ok (.istore 4, 2) := by decide +kernel
theorem dX3_costliestReport_20 : decode cX3_costliestReport 20 = .ok (.iload 4, 2) := by decide +kernel
theorem dX3_costliestReport_22 : decode cX3_costliestReport 22 = .ok (.bipush 6, 2) := by decide +kernel
theorem dX3_costliestReport_24 : decode cX3_costliestReport 24 = .ok (.if_icmp .ge 52, 3) := by decide +kernel
theorem dX3_costliestReport_27 : decode cX3_costliestReport 27 = .ok (.aload_n 0, 1) := by decide +kernel
theorem dX3_costliestReport_28 : decode cX3_costliestReport 28 = .ok (.getfield 12, 3) := by decide +kernel
theorem dX3_costliestReport_31 : decode cX3_costliestReport 31 = .ok (.iload_n 3, 1) := by decide +kernel
theorem dX3_costliestReport_32 : decode cX3_costliestReport 32 = .ok (.iload 4, 2) := by decide +kernel
theorem dX3_costliestReport_34 : decode cX3_costliestReport 34 = .ok (.invokevirtual 48, 3) := by decide +kernel
theorem dX3_costliestReport_37 : decode cX3_costliestReport 37 = .ok (.ifCond .eq 13, 3) := by decide +kernel
theorem dX3_costliestReport_40 : decode cX3_costliestReport 40 = .ok (.aload_n 0, 1) := by decide +kernel
theorem dX3_costliestReport_41 : decode cX3_costliestReport 41 = .ok (.iload_n 3, 1) := by decide +kernel
theorem dX3_costliestReport_42 : decode cX3_costliestReport 42 = .ok (.iload 4, 2) := by decide +kernel
theorem dX3_costliestReport_44 : decode cX3_costliestReport 44 = .ok (.invokevirtual 52, 3) := by decide +kernel
theorem dX3_costliestReport_47 : decode cX3_costliestReport 47 = .ok (.goto 4, 3) := by decide +kernel
theorem dX3_costliestReport_50 : decode cX3_costliestReport 50 = .ok (.iconst 0, 1) := by decide +kernel
theorem dX3_costliestReport_51 : decode cX3_costliestReport 51 = .ok (.istore 5, 2) := by decide +kernel
theorem dX3_costliestReport_53 : decode cX3_costliestReport 53 = .ok (.iload 5, 2) := by decide +kernel
theorem dX3_costliestReport_55 : decode cX3_costliestReport 55 = .ok (.iload_n 2, 1) := by decide +kernel
theorem dX3_costliestReport_56 : decode cX3_costliestReport 56 = .ok (.if_icmp .le 14, 3) := by decide +kernel
theorem dX3_costliestReport_59 : decode cX3_costliestReport 59 = .ok (.bipush 10, 2) := by decide +kernel
theorem dX3_costliestReport_61 : decode cX3_costliestReport 61 = .ok (.iload_n 3, 1) := by decide +kernel
theorem dX3_costliestReport_62 : decode cX3_costliestReport 62 = .ok (.imul, 1) := by decide +kernel
theorem dX3_costliestReport_63 : decode cX3_costliestReport 63 = .ok (.iload 4, 2) := by decide +kernel
theorem dX3_costliestReport_65 : decode cX3_costliestReport 65 = .ok (.iadd, 1) := by decide +kernel
theorem dX3_costliestReport_66 : decode cX3_costliestReport 66 = .ok (.istore_n 1, 1) := by decide +kernel
theorem dX3_costliestReport_67 : decode cX3_costliestReport 67 = .ok (.iload 5, 2) := by decide +kernel
theorem dX3_costliestReport_69 : decode cX3_costliestReport 69 = .ok (.istore_n 2, 1) := by decide +kernel
theorem dX3_costliestReport_70 : decode cX3_costliestReport 70 = .ok (.iinc 4 1, 3) := by decide +kernel
theorem dX3_costliestReport_73 : decode cX3_costliestReport 73 = .ok (.goto (-53), 3) := by decide +kernel
theorem dX3_costliestReport_76 : decode cX3_costliestReport 76 = .ok (.iinc 3 1, 3) := by decide +kernel
theorem dX3_costliestReport_79 : decode cX3_costliestReport 79 = .ok (.goto (-73), 3) := by decide +kernel
theorem dX3_costliestReport_82 : decode cX3_costliestReport 82 = .ok (.iload_n 1, 1) := by decide +kernel
theorem dX3_costliestReport_83 : decode cX3_costliestReport 83 = .ok (.ireturn, 1) := by decide +kernel
theorem dX3_costOfReport_0 : decode cX3_costOfReport 0 = .ok (.aload_n 0, 1) := by decide +kernel
theorem dX3_costOfReport_1 : decode cX3_costOfReport 1 = .ok (.getfield 12, 3) := by decide +kernel
theorem dX3_costOfReport_4 : decode cX3_costOfReport 4 = .ok (.iload_n 1, 1) := by decide +kernel
theorem dX3_costOfReport_5 : decode cX3_costOfReport 5 = .ok (.iload_n 2, 1) := by decide +kernel
theorem dX3_costOfReport_6 : decode cX3_costOfReport 6 = .ok (.iconst 1, 1) := by decide +kernel
theorem dX3_costOfReport_7 : decode cX3_costOfReport 7 = .ok (.invokevirtual 55, 3) := by decide +kernel
theorem dX3_costOfReport_10 : decode cX3_costOfReport 10 = .ok (.istore_n 3, 1) := by decide +kernel
theorem dX3_costOfReport_11 : decode cX3_costOfReport 11 = .ok (.aload_n 0, 1) := by decide +kernel
theorem dX3_costOfReport_12 : decode cX3_costOfReport 12 = .ok (.getfield 12, 3) := by decide +kernel
theorem dX3_costOfReport_15 : decode cX3_costOfReport 15 = .ok (.iload_n 1, 1) := by decide +kernel
theorem dX3_costOfReport_16 : decode cX3_costOfReport 16 = .ok (.iload_n 2, 1) := by decide +kernel
theorem dX3_costOfReport_17 : decode cX3_costOfReport 17 = .ok (.iconst 0, 1) := by decide +kernel
theorem dX3_costOfReport_18 : decode cX3_costOfReport 18 = .ok (.invokevirtual 55, 3) := by decide +kernel
theorem dX3_costOfReport_21 : decode cX3_costOfReport 21 = .ok (.istore 4, 2) := by decide +kernel
theorem dX3_costOfReport_23 : decode cX3_costOfReport 23 = .ok (.aload_n 0, 1) := by decide +kernel
theorem dX3_costOfReport_24 : decode cX3_costOfReport 24 = .ok (.getfield 21, 3) := by decide +kernel
theorem dX3_costOfReport_27 : decode cX3_costOfReport 27 = .ok (.aload_n 0, 1) := by decide +kernel
theorem dX3_costOfReport_28 : decode cX3_costOfReport 28 = .ok (.getfield 12, 3) := by decide +kernel
theorem dX3_costOfReport_31 : decode cX3_costOfReport 31 = .ok (.iload_n 2, 1) := by decide +kernel
theorem dX3_costOfReport_32 : decode cX3_costOfReport 32 = .ok (.invokevirtual 59, 3) := by decide +kernel
theorem dX3_costOfReport_35 : decode cX3_costOfReport 35 = .ok (.iconst 0, 1) := by decide +kernel
theorem dX3_costOfReport_36 : decode cX3_costOfReport 36 = .ok (.invokestatic 63, 3) := by decide +kernel
theorem dX3_costOfReport_39 : decode cX3_costOfReport 39 = .ok (.istore 5, 2) := by decide +kernel
theorem dX3_costOfReport_41 : decode cX3_costOfReport 41 = .ok (.aload_n 0, 1) := by decide +kernel
theorem dX3_costOfReport_42 : decode cX3_costOfReport 42 = .ok (.getfield 12, 3) := by decide +kernel
theorem dX3_costOfReport_45 : decode cX3_costOfReport 45 = .ok (.iload_n 1, 1) := by decide +kernel
theorem dX3_costOfReport_46 : decode cX3_costOfReport 46 = .ok (.iload_n 2, 1) := by decide +kernel
theorem dX3_costOfReport_47 : decode cX3_costOfReport 47 = .ok (.invokevirtual 68, 3) := by decide +kernel
theorem dX3_costOfReport_50 : decode cX3_costOfReport 50 = .ok (.pop, 1) := by decide +kernel
theorem dX3_costOfReport_51 : decode cX3_costOfReport 51 = .ok (.aload_n 0, 1) := by decide +kernel
theorem dX3_costOfReport_52 : decode cX3_costOfReport 52 = .ok (.getfield 21, 3) := by decide +kernel
theorem dX3_costOfReport_55 : decode cX3_costOfReport 55 = .ok (.aload_n 0, 1) := by decide +kernel
theorem dX3_costOfReport_56 : decode cX3_costOfReport 56 = .ok (.getfield 12, 3) := by decide +kernel
theorem dX3_costOfReport_59 : decode cX3_costOfReport 59 = .ok (.iload_n 2, 1) := by decide +kernel
theorem dX3_costOfReport_60 : decode cX3_costOfReport 60 = .ok (.invokevirtual 59, 3) := by decide +kernel
theorem dX3_costOfReport_63 : decode cX3_costOfReport 63 = .ok (.iconst 0, 1) := by decide +kernel
theorem dX3_costOfReport_64 : decode cX3_costOfReport 64 = .ok (.invokestatic 63, 3) := by decide +kernel
theorem dX3_costOfReport_67 : decode cX3_costOfReport 67 = .ok (.istore 6, 2) := by decide +kernel
theorem dX3_costOfReport_69 : decode cX3_costOfReport 69 = .ok (.aload_n 0, 1) := by decide +kernel
theorem dX3_costOfReport_70 : decode cX3_costOfReport 70 = .ok (.getfield 12, 3) := by decide +kernel
theorem dX3_costOfReport_73 : decode cX3_costOfReport 73 = .ok (.iload_n 1, 1) := by decide +kernel
theorem dX3_costOfReport_74 : decode cX3_costOfReport 74 = .ok (.iload_n 2, 1) := by decide +kernel
theorem dX3_costOfReport_75 : decode cX3_costOfReport 75 = .ok (.iload_n 3, 1) := by decide +kernel
theorem dX3_costOfReport_76 : decode cX3_costOfReport 76 = .ok (.iconst 1, 1) := by decide +kernel
theorem dX3_costOfReport_77 : decode cX3_costOfReport 77 = .ok (.invokevirtual 71, 3) := by decide +kernel
theorem dX3_costOfReport_80 : decode cX3_costOfReport 80 = .ok (.pop, 1) := by decide +kernel
theorem dX3_costOfReport_81 : decode cX3_costOfReport 81 = .ok (.aload_n 0, 1) := by decide +kernel
theorem dX3_costOfReport_82 : decode cX3_costOfReport 82 = .ok (.getfield 12, 3) := by decide +kernel
theorem dX3_costOfReport_85 : decode cX3_costOfReport 85 = .ok (.iload_n 1, 1) := by decide +kernel
theorem dX3_costOfReport_86 : decode cX3_costOfReport 86 = .ok (.iload_n 2, 1) := by decide +kernel
theorem dX3_costOfReport_87 : decode cX3_costOfReport 87 = .ok (.iload 4, 2) := by decide +kernel
theorem dX3_costOfReport_89 : decode cX3_costOfReport 89 = .ok (.iconst 0, 1) := by decide +kernel
theorem dX3_costOfReport_90 : decode cX3_costOfReport 90 = .ok (.invokevirtual 71, 3) := by decide +kernel
theorem dX3_costOfReport_93 : decode cX3_costOfReport 93 = .ok (.pop, 1) := by decide +kernel
theorem dX3_costOfReport_94 : decode cX3_costOfReport 94 = .ok (.iload 5, 2) := by decide +kernel
theorem dX3_costOfReport_96 : decode cX3_costOfReport 96 = .ok (.iload 6, 2) := by decide +kernel
theorem dX3_costOfReport_98 : decode cX3_costOfReport 98 = .ok (.isub, 1) := by decide +kernel
theorem dX3_costOfReport_99 : decode cX3_costOfReport 99 = .ok (.ireturn, 1) := by decide +kernel
theorem dX3_obeys_0 : decode cX3_obeys 0 = .ok (.iload_n 1, 1) := by decide +kernel
theorem dX3_obeys_1 : decode cX3_obeys 1 = .ok (.sipush 10000, 3) := by decide +kernel
theorem dX3_obeys_4 : decode cX3_obeys 4 = .ok (.idiv, 1) := by decide +kernel
theorem dX3_obeys_5 : decode cX3_obeys 5 = .ok (.bipush 10, 2) := by decide +kernel
theorem dX3_obeys_7 : decode cX3_obeys 7 = .ok (.irem, 1) := by decide +kernel
theorem dX3_obeys_8 : decode cX3_obeys 8 = .ok (.istore_n 2, 1) := by decide +kernel
theorem dX3_obeys_9 : decode cX3_obeys 9 = .ok (.iload_n 1, 1) := by decide +kernel
theorem dX3_obeys_10 : decode cX3_obeys 10 = .ok (.sipush 1000, 3) := by decide +kernel
theorem dX3_obeys_13 : decode cX3_obeys 13 = .ok (.idiv, 1) := by decide +kernel
theorem dX3_obeys_14 : decode cX3_obeys 14 = .ok (.bipush 10, 2) := by decide +kernel
theorem dX3_obeys_16 : decode cX3_obeys 16 = .ok (.irem, 1) := by decide +kernel
theorem dX3_obeys_17 : decode cX3_obeys 17 = .ok (.istore_n 3, 1) := by decide +kernel
theorem dX3_obeys_18 : decode cX3_obeys 18 = .ok (.iload_n 1, 1) := by decide +kernel
theorem dX3_obeys_19 : decode cX3_obeys 19 = .ok (.sipush 1000, 3) := by decide +kernel
theorem dX3_obeys_22 : decode cX3_obeys 22 = .ok (.irem, 1) := by decide +kernel
theorem dX3_obeys_23 : decode cX3_obeys 23 = .ok (.istore 4, 2) := by decide +kernel
theorem dX3_obeys_25 : decode cX3_obeys 25 = .ok (.iload_n 1, 1) := by decide +kernel
theorem dX3_obeys_26 : decode cX3_obeys 26 = .ok (.ldc 75, 2) := by decide +kernel
theorem dX3_obeys_28 : decode cX3_obeys 28 = .ok (.idiv, 1) := by decide +kernel
theorem dX3_obeys_29 : decode cX3_obeys 29 = .ok (.tableswitch 311 1 9 #[51, 81, 93, 117, 139, 161, 185, 229, 266], 51) := by decide +kernel
theorem dX3_obeys_80 : decode cX3_obeys 80 = .ok (.iload_n 2, 1) := by decide +kernel
theorem dX3_obeys_81 : decode cX3_obeys 81 = .ok (.ifCond .ne 27, 3) := by decide +kernel
theorem dX3_obeys_84 : decode cX3_obeys 84 = .ok (.iload_n 3, 1) := by decide +kernel
theorem dX3_obeys_85 : decode cX3_obeys 85 = .ok (.ifCond .ne 23, 3) := by decide +kernel
theorem dX3_obeys_88 : decode cX3_obeys 88 = .ok (.iload 4, 2) := by decide +kernel
theorem dX3_obeys_90 : decode cX3_obeys 90 = .ok (.ifCond .ne 18, 3) := by decide +kernel
theorem dX3_obeys_93 : decode cX3_obeys 93 = .ok (.aload_n 0, 1) := by decide +kernel
theorem dX3_obeys_94 : decode cX3_obeys 94 = .ok (.getfield 12, 3) := by decide +kernel
theorem dX3_obeys_97 : decode cX3_obeys 97 = .ok (.invokevirtual 76, 3) := by decide +kernel
theorem dX3_obeys_100 : decode cX3_obeys 100 = .ok (.iconst (-1), 1) := by decide +kernel
theorem dX3_obeys_101 : decode cX3_obeys 101 = .ok (.if_icmp .eq 7, 3) := by decide +kernel
theorem dX3_obeys_104 : decode cX3_obeys 104 = .ok (.iconst 1, 1) := by decide +kernel
theorem dX3_obeys_105 : decode cX3_obeys 105 = .ok (.goto 4, 3) := by decide +kernel
theorem dX3_obeys_108 : decode cX3_obeys 108 = .ok (.iconst 0, 1) := by decide +kernel
theorem dX3_obeys_109 : decode cX3_obeys 109 = .ok (.ireturn, 1) := by decide +kernel
theorem dX3_obeys_110 : decode cX3_obeys 110 = .ok (.aload_n 0, 1) := by decide +kernel
theorem dX3_obeys_111 : decode cX3_obeys 111 = .ok (.getfield 12, 3) := by decide +kernel
theorem dX3_obeys_114 : decode cX3_obeys 114 = .ok (.iload_n 2, 1) := by decide +kernel
theorem dX3_obeys_115 : decode cX3_obeys 115 = .ok (.iload_n 3, 1) := by decide +kernel
theorem dX3_obeys_116 : decode cX3_obeys 116 = .ok (.iload 4, 2) := by decide +kernel
theorem dX3_obeys_118 : decode cX3_obeys 118 = .ok (.invokevirtual 29, 3) := by decide +kernel
theorem dX3_obeys_121 : decode cX3_obeys 121 = .ok (.ireturn, 1) := by decide +kernel
theorem dX3_obeys_122 : decode cX3_obeys 122 = .ok (.iload 4, 2) := by decide +kernel
theorem dX3_obeys_124 : decode cX3_obeys 124 = .ok (.ifCond .ne 20, 3) := by decide +kernel
theorem dX3_obeys_127 : decode cX3_obeys 127 = .ok (.aload_n 0, 1) := by decide +kernel
theorem dX3_obeys_128 : decode cX3_obeys 128 = .ok (.getfield 12, 3) := by decide +kernel
theorem dX3_obeys_131 : decode cX3_obeys 131 = .ok (.iload_n 2, 1) := by decide +kernel
theorem dX3_obeys_132 : decode cX3_obeys 132 = .ok (.iload_n 3, 1) := by decide +kernel
theorem dX3_obeys_133 : decode cX3_obeys 133 = .ok (.invokevirtual 45, 3) := by decide +kernel
theorem dX3_obeys_136 : decode cX3_obeys 136 = .ok (.iconst (-1), 1) := by decide +kernel
theorem dX3_obeys_137 : decode cX3_obeys 137 = .ok (.if_icmp .eq 7, 3) := by decide +kernel
theorem dX3_obeys_140 : decode cX3_obeys 140 = .ok (.iconst 1, 1) := by decide +kernel
theorem dX3_obeys_141 : decode cX3_obeys 141 = .ok (.goto 4, 3) := by decide +kernel
theorem dX3_obeys_144 : decode cX3_obeys 144 = .ok (.iconst 0, 1) := by decide +kernel
theorem dX3_obeys_145 : decode cX3_obeys 145 = .ok (.ireturn, 1) := by decide +kernel
theorem dX3_obeys_146 : decode cX3_obeys 146 = .ok (.aload_n 0, 1) := by decide +kernel
theorem dX3_obeys_147 : decode cX3_obeys 147 = .ok (.getfield 12, 3) := by decide +kernel
theorem dX3_obeys_150 : decode cX3_obeys 150 = .ok (.iload_n 2, 1) := by decide +kernel
theorem dX3_obeys_151 : decode cX3_obeys 151 = .ok (.iload_n 3, 1) := by decide +kernel
theorem dX3_obeys_152 : decode cX3_obeys 152 = .ok (.iload 4, 2) := by decide +kernel
theorem dX3_obeys_154 : decode cX3_obeys 154 = .ok (.iconst 1, 1) := by decide +kernel
theorem dX3_obeys_155 : decode cX3_obeys 155 = .ok (.invokevirtual 71, 3) := by decide +kernel
theorem dX3_obeys_158 : decode cX3_obeys 158 = .ok (.iconst (-1), 1) := by decide +kernel
theorem dX3_obeys_159 : decode cX3_obeys 159 = .ok (.if_icmp .eq 7, 3) := by decide +kernel
theorem dX3_obeys_162 : decode cX3_obeys 162 = .ok (.iconst 1, 1) := by decide +kernel
theorem dX3_obeys_163 : decode cX3_obeys 163 = .ok (.goto 4, 3) := by decide +kernel
theorem dX3_obeys_166 : decode cX3_obeys 166 = .ok (.iconst 0, 1) := by decide +kernel
theorem dX3_obeys_167 : decode cX3_obeys 167 = .ok (.ireturn, 1) := by decide +kernel
theorem dX3_obeys_168 : decode cX3_obeys 168 = .ok (.aload_n 0, 1) := by decide +kernel
theorem dX3_obeys_169 : decode cX3_obeys 169 = .ok (.getfield 12, 3) := by decide +kernel
theorem dX3_obeys_172 : decode cX3_obeys 172 = .ok (.iload_n 2, 1) := by decide +kernel
theorem dX3_obeys_173 : decode cX3_obeys 173 = .ok (.iload_n 3, 1) := by decide +kernel
theorem dX3_obeys_174 : decode cX3_obeys 174 = .ok (.iload 4, 2) := by decide +kernel
theorem dX3_obeys_176 : decode cX3_obeys 176 = .ok (.iconst 0, 1) := by decide +kernel
theorem dX3_obeys_177 : decode cX3_obeys 177 = .ok (.invokevirtual 71, 3) := by decide +kernel
theorem dX3_obeys_180 : decode cX3_obeys 180 = .ok (.iconst (-1), 1) := by decide +kernel
theorem dX3_obeys_181 : decode cX3_obeys 181 = .ok (.if_icmp .eq 7, 3) := by decide +kernel
theorem dX3_obeys_184 : decode cX3_obeys 184 = .ok (.iconst 1, 1) := by decide +kernel
theorem dX3_obeys_185 : decode cX3_obeys 185 = .ok (.goto 4, 3) := by decide +kernel
theorem dX3_obeys_188 : decode cX3_obeys 188 = .ok (.iconst 0, 1) := by decide +kernel
theorem dX3_obeys_189 : decode cX3_obeys 189 = .ok (.ireturn, 1) := by decide +kernel
theorem dX3_obeys_190 : decode cX3_obeys 190 = .ok (.iload 4, 2) := by decide +kernel
theorem dX3_obeys_192 : decode cX3_obeys 192 = .ok (.ifCond .ne 20, 3) := by decide +kernel
theorem dX3_obeys_195 : decode cX3_obeys 195 = .ok (.aload_n 0, 1) := by decide +kernel
theorem dX3_obeys_196 : decode cX3_obeys 196 = .ok (.getfield 12, 3) := by decide +kernel
theorem dX3_obeys_199 : decode cX3_obeys 199 = .ok (.iload_n 2, 1) := by decide +kernel
theorem dX3_obeys_200 : decode cX3_obeys 200 = .ok (.iload_n 3, 1) := by decide +kernel
theorem dX3_obeys_201 : decode cX3_obeys 201 = .ok (.invokevirtual 68, 3) := by decide +kernel
theorem dX3_obeys_204 : decode cX3_obeys 204 = .ok (.iconst (-1), 1) := by decide +kernel
theorem dX3_obeys_205 : decode cX3_obeys 205 = .ok (.if_icmp .eq 7, 3) := by decide +kernel
theorem dX3_obeys_208 : decode cX3_obeys 208 = .ok (.iconst 1, 1) := by decide +kernel
theorem dX3_obeys_209 : decode cX3_obeys 209 = .ok (.goto 4, 3) := by decide +kernel
theorem dX3_obeys_212 : decode cX3_obeys 212 = .ok (.iconst 0, 1) := by decide +kernel
theorem dX3_obeys_213 : decode cX3_obeys 213 = .ok (.ireturn, 1) := by decide +kernel
theorem dX3_obeys_214 : decode cX3_obeys 214 = .ok (.iload_n 3, 1) := by decide +kernel
theorem dX3_obeys_215 : decode cX3_obeys 215 = .ok (.ifCond .ne 41, 3) := by decide +kernel
theorem dX3_obeys_218 : decode cX3_obeys 218 = .ok (.iload 4, 2) := by decide +kernel
theorem dX3_obeys_220 : decode cX3_obeys 220 = .ok (.bipush 99, 2) := by decide +kernel
theorem dX3_obeys_222 : decode cX3_obeys 222 = .ok (.if_icmp .gt 34, 3) := by decide +kernel
theorem dX3_obeys_225 : decode cX3_obeys 225 = .ok (.iload_n 2, 1) := by decide +kernel
theorem dX3_obeys_226 : decode cX3_obeys 226 = .ok (.invokestatic 79, 3) := by decide +kernel
theorem dX3_obeys_229 : decode cX3_obeys 229 = .ok (.ifCond .eq 27, 3) := by decide +kernel
theorem dX3_obeys_232 : decode cX3_obeys 232 = .ok (.aload_n 0, 1) := by decide +kernel
theorem dX3_obeys_233 : decode cX3_obeys 233 = .ok (.getfield 21, 3) := by decide +kernel
theorem dX3_obeys_236 : decode cX3_obeys 236 = .ok (.aload_n 0, 1) := by decide +kernel
theorem dX3_obeys_237 : decode cX3_obeys 237 = .ok (.getfield 12, 3) := by decide +kernel
theorem dX3_obeys_240 : decode cX3_obeys 240 = .ok (.iload_n 2, 1) := by decide +kernel
theorem dX3_obeys_241 : decode cX3_obeys 241 = .ok (.invokevirtual 59, 3) := by decide +kernel
theorem dX3_obeys_244 : decode cX3_obeys 244 = .ok (.iload 4, 2) := by decide +kernel
theorem dX3_obeys_246 : decode cX3_obeys 246 = .ok (.invokestatic 83, 3) := by decide +kernel
theorem dX3_obeys_249 : decode cX3_obeys 249 = .ok (.ifCond .eq 7, 3) := by decide +kernel
theorem dX3_obeys_252 : decode cX3_obeys 252 = .ok (.iconst 1, 1) := by decide +kernel
theorem dX3_obeys_253 : decode cX3_obeys 253 = .ok (.goto 4, 3) := by decide +kernel
theorem dX3_obeys_256 : decode cX3_obeys 256 = .ok (.iconst 0, 1) := by decide +kernel
theorem dX3_obeys_257 : decode cX3_obeys 257 = .ok (.ireturn, 1) := by decide +kernel
theorem dX3_obeys_258 : decode cX3_obeys 258 = .ok (.iload_n 2, 1) := by decide +kernel
theorem dX3_obeys_259 : decode cX3_obeys 259 = .ok (.ifCond .ne 34, 3) := by decide +kernel
theorem dX3_obeys_262 : decode cX3_obeys 262 = .ok (.iload_n 3, 1) := by decide +kernel
theorem dX3_obeys_263 : decode cX3_obeys 263 = .ok (.ifCond .ne 30, 3) := by decide +kernel
theorem dX3_obeys_266 : decode cX3_obeys 266 = .ok (.iload 4, 2) := by decide +kernel
theorem dX3_obeys_268 : decode cX3_obeys 268 = .ok (.bipush 99, 2) := by decide +kernel
theorem dX3_obeys_270 : decode cX3_obeys 270 = .ok (.if_icmp .gt 23, 3) := by decide +kernel
theorem dX3_obeys_273 : decode cX3_obeys 273 = .ok (.aload_n 0, 1) := by decide +kernel
theorem dX3_obeys_274 : decode cX3_obeys 274 = .ok (.getfield 21, 3) := by decide +kernel
theorem dX3_obeys_277 : decode cX3_obeys 277 = .ok (.aload_n 0, 1) := by decide +kernel
theorem dX3_obeys_278 : decode cX3_obeys 278 = .ok (.getfield 12, 3) := by decide +kernel
theorem dX3_obeys_281 : decode cX3_obeys 281 = .ok (.invokevirtual 33, 3) := by decide +kernel
theorem dX3_obeys_284 : decode cX3_obeys 284 = .ok (.iload 4, 2) := by decide +kernel
theorem dX3_obeys_286 : decode cX3_obeys 286 = .ok (.if_icmp .gt 7, 3) := by decide +kernel
theorem dX3_obeys_289 : decode cX3_obeys 289 = .ok (.iconst 1, 1) := by decide +kernel
theorem dX3_obeys_290 : decode cX3_obeys 290 = .ok (.goto 4, 3) := by decide +kernel
theorem dX3_obeys_293 : decode cX3_obeys 293 = .ok (.iconst 0, 1) := by decide +kernel
theorem dX3_obeys_294 : decode cX3_obeys 294 = .ok (.ireturn, 1) := by decide +kernel
theorem dX3_obeys_295 : decode cX3_obeys 295 = .ok (.aload_n 0, 1) := by decide +kernel
theorem dX3_obeys_296 : decode cX3_obeys 296 = .ok (.getfield 12, 3) := by decide +kernel
theorem dX3_obeys_299 : decode cX3_obeys 299 = .ok (.iload_n 2, 1) := by decide +kernel
theorem dX3_obeys_300 : decode cX3_obeys 300 = .ok (.invokevirtual 86, 3) := by decide +kernel
theorem dX3_obeys_303 : decode cX3_obeys 303 = .ok (.ifCond .eq 35, 3) := by decide +kernel
theorem dX3_obeys_306 : decode cX3_obeys 306 = .ok (.iload_n 3, 1) := by decide +kernel
theorem dX3_obeys_307 : decode cX3_obeys 307 = .ok (.invokestatic 79, 3) := by decide +kernel
theorem dX3_obeys_310 : decode cX3_obeys 310 = .ok (.ifCond .eq 28, 3) := by decide +kernel
theorem dX3_obeys_313 : decode cX3_obeys 313 = .ok (.aload_n 0, 1) := by decide +kernel
theorem dX3_obeys_314 : decode cX3_obeys 314 = .ok (.getfield 21, 3) := by decide +kernel
theorem dX3_obeys_317 : decode cX3_obeys 317 = .ok (.aload_n 0, 1) := by decide +kernel
theorem dX3_obeys_318 : decode cX3_obeys 318 = .ok (.getfield 12, 3) := by decide +kernel
theorem dX3_obeys_321 : decode cX3_obeys 321 = .ok (.iload_n 2, 1) := by decide +kernel
theorem dX3_obeys_322 : decode cX3_obeys 322 = .ok (.iload_n 3, 1) := by decide +kernel
theorem dX3_obeys_323 : decode cX3_obeys 323 = .ok (.invokevirtual 89, 3) := by decide +kernel
theorem dX3_obeys_326 : decode cX3_obeys 326 = .ok (.iload 4, 2) := by decide +kernel
theorem dX3_obeys_328 : decode cX3_obeys 328 = .ok (.invokestatic 83, 3) := by decide +kernel
theorem dX3_obeys_331 : decode cX3_obeys 331 = .ok (.ifCond .eq 7, 3) := by decide +kernel
theorem dX3_obeys_334 : decode cX3_obeys 334 = .ok (.iconst 1, 1) := by decide +kernel
theorem dX3_obeys_335 : decode cX3_obeys 335 = .ok (.goto 4, 3) := by decide +kernel
theorem dX3_obeys_338 : decode cX3_obeys 338 = .ok (.iconst 0, 1) := by decide +kernel
theorem dX3_obeys_339 : decode cX3_obeys 339 = .ok (.ireturn, 1) := by decide +kernel
theorem dX3_obeys_340 : decode cX3_obeys 340 = .ok (.iconst 0, 1) := by decide +kernel
theorem dX3_obeys_341 : decode cX3_obeys 341 = .ok (.ireturn, 1) := by decide +kernel
theorem dX3_isUpTo_0 : decode cX3_isUpTo 0 = .ok (.iload_n 0, 1) := by decide +kernel
theorem dX3_isUpTo_1 : decode cX3_isUpTo 1 = .ok (.iconst (-1), 1) := by decide +kernel
theorem dX3_isUpTo_2 : decode cX3_isUpTo 2 = .ok (.if_icmp .eq 12, 3) := by decide +kernel
theorem dX3_isUpTo_5 : decode cX3_isUpTo 5 = .ok (.iload_n 0, 1) := by decide +kernel
theorem dX3_isUpTo_6 : decode cX3_isUpTo 6 = .ok (.iload_n 1, 1) := by decide +kernel
theorem dX3_isUpTo_7 : decode cX3_isUpTo 7 = .ok (.if_icmp .gt 7, 3) := by decide +kernel
theorem dX3_isUpTo_10 : decode cX3_isUpTo 10 = .ok (.iconst 1, 1) := by decide +kernel
theorem dX3_isUpTo_11 : decode cX3_isUpTo 11 = .ok (.goto 4, 3) := by decide +kernel
theorem dX3_isUpTo_14 : decode cX3_isUpTo 14 = .ok (.iconst 0, 1) := by decide +kernel
theorem dX3_isUpTo_15 : decode cX3_isUpTo 15 = .ok (.ireturn, 1) := by decide +kernel
theorem dX3_turn_0 : decode cX3_turn 0 = .ok (.aload_n 0, 1) := by decide +kernel
theorem dX3_turn_1 : decode cX3_turn 1 = .ok (.getfield 12, 3) := by decide +kernel
theorem dX3_turn_4 : decode cX3_turn 4 = .ok (.invokevirtual 37, 3) := by decide +kernel
theorem dX3_turn_7 : decode cX3_turn 7 = .ok (.ifCond .le 13, 3) := by decide +kernel
theorem dX3_turn_10 : decode cX3_turn 10 = .ok (.aload_n 0, 1) := by decide +kernel
theorem dX3_turn_11 : decode cX3_turn 11 = .ok (.getfield 12, 3) := by decide +kernel
theorem dX3_turn_14 : decode cX3_turn 14 = .ok (.invokevirtual 37, 3) := by decide +kernel
theorem dX3_turn_17 : decode cX3_turn 17 = .ok (.goto 4, 3) := by decide +kernel
theorem dX3_turn_20 : decode cX3_turn 20 = .ok (.iconst 1, 1) := by decide +kernel
theorem dX3_turn_21 : decode cX3_turn 21 = .ok (.istore_n 2, 1) := by decide +kernel
theorem dX3_turn_22 : decode cX3_turn 22 = .ok (.iload_n 1, 1) := by decide +kernel
theorem dX3_turn_23 : decode cX3_turn 23 = .ok (.bipush 16, 2) := by decide +kernel
theorem dX3_turn_25 : decode cX3_turn 25 = .ok (.idiv, 1) := by decide +kernel
theorem dX3_turn_26 : decode cX3_turn 26 = .ok (.iload_n 2, 1) := by decide +kernel
theorem dX3_turn_27 : decode cX3_turn 27 = .ok (.irem, 1) := by decide +kernel
theorem dX3_turn_28 : decode cX3_turn 28 = .ok (.istore_n 3, 1) := by decide +kernel
theorem dX3_turn_29 : decode cX3_turn 29 = .ok (.iload_n 1, 1) := by decide +kernel
theorem dX3_turn_30 : decode cX3_turn 30 = .ok (.sipush 256, 3) := by decide +kernel
theorem dX3_turn_33 : decode cX3_turn 33 = .ok (.idiv, 1) := by decide +kernel
theorem dX3_turn_34 : decode cX3_turn 34 = .ok (.iload_n 2, 1) := by decide +kernel
theorem dX3_turn_35 : decode cX3_turn 35 = .ok (.irem, 1) := by decide +kernel
theorem dX3_turn_36 : decode cX3_turn 36 = .ok (.istore 4, 2) := by decide +kernel
theorem dX3_turn_38 : decode cX3_turn 38 = .ok (.iload_n 1, 1) := by decide +kernel
theorem dX3_turn_39 : decode cX3_turn 39 = .ok (.bipush 16, 2) := by decide +kernel
theorem dX3_turn_41 : decode cX3_turn 41 = .ok (.irem, 1) := by decide +kernel
theorem dX3_turn_42 : decode cX3_turn 42 = .ok (.istore 5, 2) := by decide +kernel
theorem dX3_turn_44 : decode cX3_turn 44 = .ok (.iload 5, 2) := by decide +kernel
theorem dX3_turn_46 : decode cX3_turn 46 = .ok (.ifCond .ne 14, 3) := by decide +kernel
theorem dX3_turn_49 : decode cX3_turn 49 = .ok (.aload_n 0, 1) := by decide +kernel
theorem dX3_turn_50 : decode cX3_turn 50 = .ok (.getfield 12, 3) := by decide +kernel
theorem dX3_turn_53 : decode cX3_turn 53 = .ok (.invokevirtual 76, 3) := by decide +kernel
theorem dX3_turn_56 : decode cX3_turn 56 = .ok (.pop, 1) := by decide +kernel
theorem dX3_turn_57 : decode cX3_turn 57 = .ok (.goto 115, 3) := by decide +kernel
theorem dX3_turn_60 : decode cX3_turn 60 = .ok (.iload 5, 2) := by decide +kernel
theorem dX3_turn_62 : decode cX3_turn 62 = .ok (.iconst 4, 1) := by decide +kernel
theorem dX3_turn_63 : decode cX3_turn 63 = .ok (.if_icmp .gt 27, 3) := by decide +kernel
theorem dX3_turn_66 : decode cX3_turn 66 = .ok (.aload_n 0, 1) := by decide +kernel
theorem dX3_turn_67 : decode cX3_turn 67 = .ok (.getfield 12, 3) := by decide +kernel
theorem dX3_turn_70 : decode cX3_turn 70 = .ok (.iload_n 3, 1) := by decide +kernel
theorem dX3_turn_71 : decode cX3_turn 71 = .ok (.iload 4, 2) := by decide +kernel
theorem dX3_turn_73 : decode cX3_turn 73 = .ok (.iconst 1, 1) := by decide +kernel
theorem dX3_turn_74 : decode cX3_turn 74 = .ok (.iload_n 1, 1) := by decide +kernel
theorem dX3_turn_75 : decode cX3_turn 75 = .ok (.sipush 4096, 3) := by decide +kernel
theorem dX3_turn_78 : decode cX3_turn 78 = .ok (.idiv, 1) := by decide +kernel
theorem dX3_turn_79 : decode cX3_turn 79 = .ok (.bipush 60, 2) := by decide +kernel
theorem dX3_turn_81 : decode cX3_turn 81 = .ok (.irem, 1) := by decide +kernel
theorem dX3_turn_82 : decode cX3_turn 82 = .ok (.iadd, 1) := by decide +kernel
theorem dX3_turn_83 : decode cX3_turn 83 = .ok (.invokevirtual 29, 3) := by decide +kernel
theorem dX3_turn_86 : decode cX3_turn 86 = .ok (.pop, 1) := by decide +kernel
theorem dX3_turn_87 : decode cX3_turn 87 = .ok (.goto 85, 3) := by decide +kernel
theorem dX3_turn_90 : decode cX3_turn 90 = .ok (.iload 5, 2) := by decide +kernel
theorem dX3_turn_92 : decode cX3_turn 92 = .ok (.iconst 5, 1) := by decide +kernel
theorem dX3_turn_93 : decode cX3_turn 93 = .ok (.if_icmp .ne 17, 3) := by decide +kernel
theorem dX3_turn_96 : decode cX3_turn 96 = .ok (.aload_n 0, 1) := by decide +kernel
theorem dX3_turn_97 : decode cX3_turn 97 = .ok (.getfield 12, 3) := by decide +kernel
theorem dX3_turn_100 : decode cX3_turn 100 = .ok (.iload_n 3, 1) := by decide +kernel
theorem dX3_turn_101 : decode cX3_turn 101 = .ok (.iload 4, 2) := by decide +kernel
theorem dX3_turn_103 : decode cX3_turn 103 = .ok (.invokevirtual 45, 3) := by decide +kernel
theorem dX3_turn_106 : decode cX3_turn 106 = .ok (.pop, 1) := by decide +kernel
theorem dX3_turn_107 : decode cX3_turn 107 = .ok (.goto 65, 3) := by decide +kernel
theorem dX3_turn_110 : decode cX3_turn 110 = .ok (.iload 5, 2) := by decide +kernel
theorem dX3_turn_112 : decode cX3_turn 112 = .ok (.bipush 12, 2) := by decide +kernel
theorem dX3_turn_114 : decode cX3_turn 114 = .ok (.if_icmp .gt 32, 3) := by decide +kernel
theorem dX3_turn_117 : decode cX3_turn 117 = .ok (.aload_n 0, 1) := by decide +kernel
theorem dX3_turn_118 : decode cX3_turn 118 = .ok (.getfield 12, 3) := by decide +kernel
theorem dX3_turn_121 : decode cX3_turn 121 = .ok (.iload_n 3, 1) := by decide +kernel
theorem dX3_turn_122 : decode cX3_turn 122 = .ok (.iload_n 1, 1) := by decide +kernel
theorem dX3_turn_123 : decode cX3_turn 123 = .ok (.bipush 64, 2) := by decide +kernel
theorem dX3_turn_125 : decode cX3_turn 125 = .ok (.idiv, 1) := by decide +kernel
theorem dX3_turn_126 : decode cX3_turn 126 = .ok (.bipush 6, 2) := by decide +kernel
theorem dX3_turn_128 : decode cX3_turn 128 = .ok (.irem, 1) := by decide +kernel
theorem dX3_turn_129 : decode cX3_turn 129 = .ok (.iload_n 1, 1) := by decide +kernel
theorem dX3_turn_130 : decode cX3_turn 130 = .ok (.sipush 512, 3) := by decide +kernel
theorem dX3_turn_133 : decode cX3_turn 133 = .ok (.idiv, 1) := by decide +kernel
theorem dX3_turn_134 : decode cX3_turn 134 = .ok (.sipush 1000, 3) := by decide +kernel
theorem dX3_turn_137 : decode cX3_turn 137 = .ok (.irem, 1) := by decide +kernel
theorem dX3_turn_138 : decode cX3_turn 138 = .ok (.iconst 1, 1) := by decide +kernel
theorem dX3_turn_139 : decode cX3_turn 139 = .ok (.invokevirtual 71, 3) := by decide +kernel
theorem dX3_turn_142 : decode cX3_turn 142 = .ok (.pop, 1) := by decide +kernel
theorem dX3_turn_143 : decode cX3_turn 143 = .ok (.goto 29, 3) := by decide +kernel
theorem dX3_turn_146 : decode cX3_turn 146 = .ok (.aload_n 0, 1) := by decide +kernel
theorem dX3_turn_147 : decode cX3_turn 147 = .ok (.getfield 12, 3) := by decide +kernel
theorem dX3_turn_150 : decode cX3_turn 150 = .ok (.iload_n 3, 1) := by decide +kernel
theorem dX3_turn_151 : decode cX3_turn 151 = .ok (.iload_n 1, 1) := by decide +kernel
theorem dX3_turn_152 : decode cX3_turn 152 = .ok (.bipush 64, 2) := by decide +kernel
theorem dX3_turn_154 : decode cX3_turn 154 = .ok (.idiv, 1) := by decide +kernel
theorem dX3_turn_155 : decode cX3_turn 155 = .ok (.bipush 6, 2) := by decide +kernel
theorem dX3_turn_157 : decode cX3_turn 157 = .ok (.irem, 1) := by decide +kernel
theorem dX3_turn_158 : decode cX3_turn 158 = .ok (.iload_n 1, 1) := by decide +kernel
theorem dX3_turn_159 : decode cX3_turn 159 = .ok (.sipush 512, 3) := by decide +kernel
theorem dX3_turn_162 : decode cX3_turn 162 = .ok (.idiv, 1) := by decide +kernel
theorem dX3_turn_163 : decode cX3_turn 163 = .ok (.sipush 200, 3) := by decide +kernel
theorem dX3_turn_166 : decode cX3_turn 166 = .ok (.irem, 1) := by decide +kernel
theorem dX3_turn_167 : decode cX3_turn 167 = .ok (.iconst 0, 1) := by decide +kernel
theorem dX3_turn_168 : decode cX3_turn 168 = .ok (.invokevirtual 71, 3) := by decide +kernel
theorem dX3_turn_171 : decode cX3_turn 171 = .ok (.pop, 1) := by decide +kernel
theorem dX3_turn_172 : decode cX3_turn 172 = .ok (.return_, 1) := by decide +kernel
theorem dX3_summary_0 : decode cX3_summary 0 = .ok (.sipush 1000, 3) := by decide +kernel
theorem dX3_summary_3 : decode cX3_summary 3 = .ok (.aload_n 0, 1) := by decide +kernel
theorem dX3_summary_4 : decode cX3_summary 4 = .ok (.getfield 21, 3) := by decide +kernel
theorem dX3_summary_7 : decode cX3_summary 7 = .ok (.aload_n 0, 1) := by decide +kernel
theorem dX3_summary_8 : decode cX3_summary 8 = .ok (.getfield 12, 3) := by decide +kernel
theorem dX3_summary_11 : decode cX3_summary 11 = .ok (.invokevirtual 33, 3) := by decide +kernel
theorem dX3_summary_14 : decode cX3_summary 14 = .ok (.imul, 1) := by decide +kernel
theorem dX3_summary_15 : decode cX3_summary 15 = .ok (.bipush 100, 2) := by decide +kernel
theorem dX3_summary_17 : decode cX3_summary 17 = .ok (.aload_n 0, 1) := by decide +kernel
theorem dX3_summary_18 : decode cX3_summary 18 = .ok (.getfield 12, 3) := by decide +kernel
theorem dX3_summary_21 : decode cX3_summary 21 = .ok (.invokevirtual 93, 3) := by decide +kernel
theorem dX3_summary_24 : decode cX3_summary 24 = .ok (.imul, 1) := by decide +kernel
theorem dX3_summary_25 : decode cX3_summary 25 = .ok (.iadd, 1) := by decide +kernel
theorem dX3_summary_26 : decode cX3_summary 26 = .ok (.aload_n 0, 1) := by decide +kernel
theorem dX3_summary_27 : decode cX3_summary 27 = .ok (.getfield 12, 3) := by decide +kernel
theorem dX3_summary_30 : decode cX3_summary 30 = .ok (.invokevirtual 96, 3) := by decide +kernel
theorem dX3_summary_33 : decode cX3_summary 33 = .ok (.iadd, 1) := by decide +kernel
theorem dX3_summary_34 : decode cX3_summary 34 = .ok (.ireturn, 1) := by decide +kernel
theorem dX4_init_0 : decode cX4_init 0 = .ok (.aload_n 0, 1) := by decide +kernel
theorem dX4_init_1 : decode cX4_init 1 = .ok (.invokespecial 3, 3) := by decide +kernel
theorem dX4_init_4 : decode cX4_init 4 = .ok (.aload_n 0, 1) := by decide +kernel
theorem dX4_init_5 : decode cX4_init 5 = .ok (.bipush 100, 2) := by decide +kernel
theorem dX4_init_7 : decode cX4_init 7 = .ok (.newarray .char, 2) := by decide +kernel
theorem dX4_init_9 : decode cX4_init 9 = .ok (.putfield 11, 3) := by decide +kernel
theorem dX4_init_12 : decode cX4_init 12 = .ok (.aload_n 0, 1) := by decide +kernel
theorem dX4_init_13 : decode cX4_init 13 = .ok (.iconst 0, 1) := by decide +kernel
theorem dX4_init_14 : decode cX4_init 14 = .ok (.putfield 15, 3) := by decide +kernel
theorem dX4_init_17 : decode cX4_init 17 = .ok (.return_, 1) := by decide +kernel
theorem dX4_isFull_0 : decode cX4_isFull 0 = .ok (.aload_n 0, 1) := by decide +kernel
theorem dX4_isFull_1 : decode cX4_isFull 1 = .ok (.getfield 15, 3) := by decide +kernel
theorem dX4_isFull_4 : decode cX4_isFull 4 = .ok (.bipush 100, 2) := by decide +kernel
theorem dX4_isFull_6 : decode cX4_isFull 6 = .ok (.if_icmp .lt 7, 3) := by decide +kernel
theorem dX4_isFull_9 : decode cX4_isFull 9 = .ok (.iconst 1, 1) := by decide +kernel
theorem dX4_isFull_10 : decode cX4_isFull 10 = .ok (.goto 4, 3) := by decide +kernel
theorem dX4_isFull_13 : decode cX4_isFull 13 = .ok (.iconst 0, 1) := by decide +kernel
theorem dX4_isFull_14 : decode cX4_isFull 14 = .ok (.ireturn, 1) := by decide +kernel
theorem dX4_add_0 : decode cX4_add 0 = .ok (.aload_n 0, 1) := by decide +kernel
theorem dX4_add_1 : decode cX4_add 1 = .ok (.getfield 15, 3) := by decide +kernel
theorem dX4_add_4 : decode cX4_add 4 = .ok (.bipush 100, 2) := by decide +kernel
theorem dX4_add_6 : decode cX4_add 6 = .ok (.if_icmp .ge 24, 3) := by decide +kernel
theorem dX4_add_9 : decode cX4_add 9 = .ok (.aload_n 0, 1) := by decide +kernel
theorem dX4_add_10 : decode cX4_add 10 = .ok (.getfield 11, 3) := by decide +kernel
theorem dX4_add_13 : decode cX4_add 13 = .ok (.aload_n 0, 1) := by decide +kernel
theorem dX4_add_14 : decode cX4_add 14 = .ok (.getfield 15, 3) := by decide +kernel
theorem dX4_add_17 : decode cX4_add 17 = .ok (.iload_n 1, 1) := by decide +kernel
theorem dX4_add_18 : decode cX4_add 18 = .ok (.i2c, 1) := by decide +kernel
theorem dX4_add_19 : decode cX4_add 19 = .ok (.castore, 1) := by decide +kernel
theorem dX4_add_20 : decode cX4_add 20 = .ok (.aload_n 0, 1) := by decide +kernel
theorem dX4_add_21 : decode cX4_add 21 = .ok (.dup, 1) := by decide +kernel
theorem dX4_add_22 : decode cX4_add 22 = .ok (.getfield 15, 3) := by decide +kernel
theorem dX4_add_25 : decode cX4_add 25 = .ok (.iconst 1, 1) := by decide +kernel
theorem dX4_add_26 : decode cX4_add 26 = .ok (.iadd, 1) := by decide +kernel
theorem dX4_add_27 : decode cX4_add 27 = .ok (.putfield 15, 3) := by decide +kernel
theorem dX4_add_30 : decode cX4_add 30 = .ok (.aload_n 0, 1) := by decide +kernel
theorem dX4_add_31 : decode cX4_add 31 = .ok (.getfield 15, 3) := by decide +kernel
theorem dX4_add_34 : decode cX4_add 34 = .ok (.ireturn, 1) := by decide +kernel
theorem dX4_empty_0 : decode cX4_empty 0 = .ok (.aload_n 0, 1) := by decide +kernel
theorem dX4_empty_1 : decode cX4_empty 1 = .ok (.getfield 15, 3) := by decide +kernel
theorem dX4_empty_4 : decode cX4_empty 4 = .ok (.istore_n 1, 1) := by decide +kernel
theorem dX4_empty_5 : decode cX4_empty 5 = .ok (.aload_n 0, 1) := by decide +kernel
theorem dX4_empty_6 : decode cX4_empty 6 = .ok (.iconst 0, 1) := by decide +kernel
theorem dX4_empty_7 : decode cX4_empty 7 = .ok (.putfield 15, 3) := by decide +kernel
theorem dX4_empty_10 : decode cX4_empty 10 = .ok (.iload_n 1, 1) := by decide +kernel
theorem dX4_empty_11 : decode cX4_empty 11 = .ok (.ireturn, 1) := by decide +kernel
theorem dX4_firstError_0 : decode cX4_firstError 0 = .ok (.iconst 0, 1) := by decide +kernel
theorem dX4_firstError_1 : decode cX4_firstError 1 = .ok (.istore_n 1, 1) := by decide +kernel
theorem dX4_firstError_2 : decode cX4_firstError 2 = .ok (.iconst 0, 1) := by decide +kernel
theorem dX4_firstError_3 : decode cX4_firstError 3 = .ok (.istore_n 2, 1) := by decide +kernel
theorem dX4_firstError_4 : decode cX4_firstError 4 = .ok (.iload_n 2, 1) := by decide +kernel
theorem dX4_firstError_5 : decode cX4_firstError 5 = .ok (.aload_n 0, 1) := by decide +kernel
theorem dX4_firstError_6 : decode cX4_firstError 6 = .ok (.getfield 15, 3) := by decide +kernel
theorem dX4_firstError_9 : decode cX4_firstError 9 = .ok (.if_icmp .ge 26, 3) := by decide +kernel
theorem dX4_firstError_12 : decode cX4_firstError 12 = .ok (.iload_n 1, 1) := by decide +kernel
theorem dX4_firstError_13 : decode cX4_firstError 13 = .ok (.aload_n 0, 1) := by decide +kernel
theorem dX4_firstError_14 : decode cX4_firstError 14 = .ok (.iload_n 2, 1) := by decide +kernel
theorem dX4_firstError_15 : decode cX4_firstError 15 = .ok (.invokevirtual 19, 3) := by decide +kernel
theorem dX4_firstError_18 : decode cX4_firstError 18 = .ok (.invokestatic 23, 3) := by decide +kernel
theorem dX4_firstError_21 : decode cX4_firstError 21 = .ok (.istore_n 1, 1) := by decide +kernel
theorem dX4_firstError_22 : decode cX4_firstError 22 = .ok (.iload_n 1, 1) := by decide +kernel
theorem dX4_firstError_23 : decode cX4_firstError 23 = .ok (.iconst (-1), 1) := by decide +kernel
theorem dX4_firstError_24 : decode cX4_firstError 24 = .ok (.if_icmp .ne 5, 3) := by decide +kernel
theorem dX4_firstError_27 : decode cX4_firstError 27 = .ok (.iload_n 2, 1) := by decide +kernel
theorem dX4_firstError_28 : decode cX4_firstError 28 = .ok (.ireturn, 1) := by decide +kernel
theorem dX4_firstError_29 : decode cX4_firstError 29 = .ok (.iinc 2 1, 3) := by decide +kernel
theorem dX4_firstError_32 : decode cX4_firstError 32 = .ok (.goto (-28), 3) := by decide +kernel
theorem dX4_firstError_35 : decode cX4_firstError 35 = .ok (.iload_n 1, 1) := by decide +kernel
theorem dX4_firstError_36 : decode cX4_firstError 36 = .ok (.iconst 5, 1) := by decide +kernel
theorem dX4_firstError_37 : decode cX4_firstError 37 = .ok (.if_icmp .ge 10, 3) := by decide +kernel
theorem dX4_firstError_40 : decode cX4_firstError 40 = .ok (.aload_n 0, 1) := by decide +kernel
theorem dX4_firstError_41 : decode cX4_firstError 41 = .ok (.getfield 15, 3) := by decide +kernel
theorem dX4_firstError_44 : decode cX4_firstError 44 = .ok (.goto 4, 3) := by decide +kernel
theorem dX4_firstError_47 : decode cX4_firstError 47 = .ok (.iconst (-1), 1) := by decide +kernel
theorem dX4_firstError_48 : decode cX4_firstError 48 = .ok (.ireturn, 1) := by decide +kernel
theorem dX4_awaitedBehind_0 : decode cX4_awaitedBehind 0 = .ok (.iload_n 1, 1) := by decide +kernel
theorem dX4_awaitedBehind_1 : decode cX4_awaitedBehind 1 = .ok (.bipush 48, 2) := by decide +kernel
theorem dX4_awaitedBehind_3 : decode cX4_awaitedBehind 3 = .ok (.if_icmp .lt 13, 3) := by decide +kernel
theorem dX4_awaitedBehind_6 : decode cX4_awaitedBehind 6 = .ok (.iload_n 1, 1) := by decide +kernel
theorem dX4_awaitedBehind_7 : decode cX4_awaitedBehind 7 = .ok (.bipush 57, 2) := by decide +kernel
theorem dX4_awaitedBehind_9 : decode cX4_awaitedBehind 9 = .ok (.if_icmp .gt 7, 3) := by decide +kernel
theorem dX4_awaitedBehind_12 : decode cX4_awaitedBehind 12 = .ok (.iconst 1, 1) := by decide +kernel
theorem dX4_awaitedBehind_13 : decode cX4_awaitedBehind 13 = .ok (.goto 4, 3) := by decide +kernel
theorem dX4_awaitedBehind_16 : decode cX4_awaitedBehind 16 = .ok (.iconst 0, 1) := by decide +kernel
theorem dX4_awaitedBehind_17 : decode cX4_awaitedBehind 17 = .ok (.istore_n 2, 1) := by decide +kernel
theorem dX4_awaitedBehind_18 : decode cX4_awaitedBehind 18 = .ok (.iload_n 0, 1) := by decide +kernel
theorem dX4_awaitedBehind_19 : decode cX4_awaitedBehind 19 = .ok (.tableswitch 164 0 6 #[41, 51, 69, 89, 101, 122, 143], 41) := by decide +kernel
theorem dX4_awaitedBehind_60 : decode cX4_awaitedBehind 60 = .ok (.iload_n 2, 1) := by decide +kernel
theorem dX4_awaitedBehind_61 : decode cX4_awaitedBehind 61 = .ok (.ifCond .eq 7, 3) := by decide +kernel
theorem dX4_awaitedBehind_64 : decode cX4_awaitedBehind 64 = .ok (.iconst 1, 1) := by decide +kernel
theorem dX4_awaitedBehind_65 : decode cX4_awaitedBehind 65 = .ok (.goto 4, 3) := by decide +kernel
theorem dX4_awaitedBehind_68 : decode cX4_awaitedBehind 68 = .ok (.iconst (-1), 1) := by decide +kernel
theorem dX4_awaitedBehind_69 : decode cX4_awaitedBehind 69 = .ok (.ireturn, 1) := by decide +kernel
theorem dX4_awaitedBehind_70 : decode cX4_awaitedBehind 70 = .ok (.iload_n 1, 1) := by decide +kernel
theorem dX4_awaitedBehind_71 : decode cX4_awaitedBehind 71 = .ok (.bipush 43, 2) := by decide +kernel
theorem dX4_awaitedBehind_73 : decode cX4_awaitedBehind 73 = .ok (.if_icmp .eq 9, 3) := by decide +kernel
theorem dX4_awaitedBehind_76 : decode cX4_awaitedBehind 76 = .ok (.iload_n 1, 1) := by decide +kernel
theorem dX4_awaitedBehind_77 : decode cX4_awaitedBehind 77 = .ok (.bipush 45, 2) := by decide +kernel
theorem dX4_awaitedBehind_79 : decode cX4_awaitedBehind 79 = .ok (.if_icmp .ne 7, 3) := by decide +kernel
theorem dX4_awaitedBehind_82 : decode cX4_awaitedBehind 82 = .ok (.iconst 2, 1) := by decide +kernel
theorem dX4_awaitedBehind_83 : decode cX4_awaitedBehind 83 = .ok (.goto 4, 3) := by decide +kernel
theorem dX4_awaitedBehind_86 : decode cX4_awaitedBehind 86 = .ok (.iconst (-1), 1) := by decide +kernel
theorem dX4_awaitedBehind_87 : decode cX4_awaitedBehind 87 = .ok (.ireturn, 1) := by decide +kernel
theorem dX4_awaitedBehind_88 : decode cX4_awaitedBehind 88 = .ok (.iload_n 2, 1) := by decide +kernel
theorem dX4_awaitedBehind_89 : decode cX4_awaitedBehind 89 = .ok (.ifCond .eq 17, 3) := by decide +kernel
theorem dX4_awaitedBehind_92 : decode cX4_awaitedBehind 92 = .ok (.iload_n 1, 1) := by decide +kernel
theorem dX4_awaitedBehind_93 : decode cX4_awaitedBehind 93 = .ok (.bipush 48, 2) := by decide +kernel
theorem dX4_awaitedBehind_95 : decode cX4_awaitedBehind 95 = .ok (.isub, 1) := by decide +kernel
theorem dX4_awaitedBehind_96 : decode cX4_awaitedBehind 96 = .ok (.invokestatic 27, 3) := by decide +kernel
theorem dX4_awaitedBehind_99 : decode cX4_awaitedBehind 99 = .ok (.ifCond .eq 7, 3) := by decide +kernel
theorem dX4_awaitedBehind_102 : decode cX4_awaitedBehind 102 = .ok (.iconst 3, 1) := by decide +kernel
theorem dX4_awaitedBehind_103 : decode cX4_awaitedBehind 103 = .ok (.goto 4, 3) := by decide +kernel
theorem dX4_awaitedBehind_106 : decode cX4_awaitedBehind 106 = .ok (.iconst (-1), 1) := by decide +kernel
theorem dX4_awaitedBehind_107 : decode cX4_awaitedBehind 107 = .ok (.ireturn, 1) := by decide +kernel
theorem dX4_awaitedBehind_108 : decode cX4_awaitedBehind 108 = .ok (.iload_n 1, 1) := by decide +kernel
theorem dX4_awaitedBehind_109 : decode cX4_awaitedBehind 109 = .ok (.bipush 58, 2) := by decide +kernel
theorem dX4_awaitedBehind_111 : decode cX4_awaitedBehind 111 = .ok (.if_icmp .ne 7, 3) := by decide +kernel
theorem dX4_awaitedBehind_114 : decode cX4_awaitedBehind 114 = .ok (.iconst 4, 1) := by decide +kernel
theorem dX4_awaitedBehind_115 : decode cX4_awaitedBehind 115 = .ok (.goto 4, 3) := by decide +kernel
theorem dX4_awaitedBehind_118 : decode cX4_awaitedBehind 118 = .ok (.iconst (-1), 1) := by decide +kernel
theorem dX4_awaitedBehind_119 : decode cX4_awaitedBehind 119 = .ok (.ireturn, 1) := by decide +kernel
theorem dX4_awaitedBehind_120 : decode cX4_awaitedBehind 120 = .ok (.iload_n 1, 1) := by decide +kernel
theorem dX4_awaitedBehind_121 : decode cX4_awaitedBehind 121 = .ok (.bipush 48, 2) := by decide +kernel
theorem dX4_awaitedBehind_123 : decode cX4_awaitedBehind 123 = .ok (.if_icmp .ne 8, 3) := by decide +kernel
theorem dX4_awaitedBehind_126 : decode cX4_awaitedBehind 126 = .ok (.bipush 7, 2) := by decide +kernel
theorem dX4_awaitedBehind_128 : decode cX4_awaitedBehind 128 = .ok (.goto 12, 3) := by decide +kernel
theorem dX4_awaitedBehind_131 : decode cX4_awaitedBehind 131 = .ok (.iload_n 2, 1) := by decide +kernel
theorem dX4_awaitedBehind_132 : decode cX4_awaitedBehind 132 = .ok (.ifCond .eq 7, 3) := by decide +kernel
theorem dX4_awaitedBehind_135 : decode cX4_awaitedBehind 135 = .ok (.iconst 5, 1) := by decide +kernel
theorem dX4_awaitedBehind_136 : decode cX4_awaitedBehind 136 = .ok (.goto 4, 3) := by decide +kernel
theorem dX4_awaitedBehind_139 : decode cX4_awaitedBehind 139 = .ok (.iconst (-1), 1) := by decide +kernel
theorem dX4_awaitedBehind_140 : decode cX4_awaitedBehind 140 = .ok (.ireturn, 1) := by decide +kernel
theorem dX4_awaitedBehind_141 : decode cX4_awaitedBehind 141 = .ok (.iload_n 2, 1) := by decide +kernel
theorem dX4_awaitedBehind_142 : decode cX4_awaitedBehind 142 = .ok (.ifCond .eq 8, 3) := by decide +kernel
theorem dX4_awaitedBehind_145 : decode cX4_awaitedBehind 145 = .ok (.bipush 6, 2) := by decide +kernel
theorem dX4_awaitedBehind_147 : decode cX4_awaitedBehind 147 = .ok (.goto 14, 3) := by decide +kernel
theorem dX4_awaitedBehind_150 : decode cX4_awaitedBehind 150 = .ok (.iload_n 1, 1) := by decide +kernel
theorem dX4_awaitedBehind_151 : decode cX4_awaitedBehind 151 = .ok (.bipush 59, 2) := by decide +kernel
theorem dX4_awaitedBehind_153 : decode cX4_awaitedBehind 153 = .ok (.if_icmp .ne 7, 3) := by decide +kernel
theorem dX4_awaitedBehind_156 : decode cX4_awaitedBehind 156 = .ok (.iconst 0, 1) := by decide +kernel
theorem dX4_awaitedBehind_157 : decode cX4_awaitedBehind 157 = .ok (.goto 4, 3) := by decide +kernel
theorem dX4_awaitedBehind_160 : decode cX4_awaitedBehind 160 = .ok (.iconst (-1), 1) := by decide +kernel
theorem dX4_awaitedBehind_161 : decode cX4_awaitedBehind 161 = .ok (.ireturn, 1) := by decide +kernel
theorem dX4_awaitedBehind_162 : decode cX4_awaitedBehind 162 = .ok (.iload_n 2, 1) := by decide +kernel
theorem dX4_awaitedBehind_163 : decode cX4_awaitedBehind 163 = .ok (.ifCond .eq 8, 3) := by decide +kernel
theorem dX4_awaitedBehind_166 : decode cX4_awaitedBehind 166 = .ok (.bipush 7, 2) := by decide +kernel
theorem dX4_awaitedBehind_168 : decode cX4_awaitedBehind 168 = .ok (.goto 14, 3) := by decide +kernel
theorem dX4_awaitedBehind_171 : decode cX4_awaitedBehind 171 = .ok (.iload_n 1, 1) := by decide +kernel
theorem dX4_awaitedBehind_172 : decode cX4_awaitedBehind 172 = .ok (.bipush 59, 2) := by decide +kernel
theorem dX4_awaitedBehind_174 : decode cX4_awaitedBehind 174 = .ok (.if_icmp .ne 7, 3) := by decide +kernel
theorem dX4_awaitedBehind_177 : decode cX4_awaitedBehind 177 = .ok (.iconst 0, 1) := by decide +kernel
theorem dX4_awaitedBehind_178 : decode cX4_awaitedBehind 178 = .ok (.goto 4, 3) := by decide +kernel
theorem dX4_awaitedBehind_181 : decode cX4_awaitedBehind 181 = .ok (.iconst (-1), 1) := by decide +kernel
theorem dX4_awaitedBehind_182 : decode cX4_awaitedBehind 182 = .ok (.ireturn, 1) := by decide +kernel
theorem dX4_awaitedBehind_183 : decode cX4_awaitedBehind 183 = .ok (.iload_n 1, 1) := by decide +kernel
theorem dX4_awaitedBehind_184 : decode cX4_awaitedBehind 184 = .ok (.bipush 59, 2) := by decide +kernel
theorem dX4_awaitedBehind_186 : decode cX4_awaitedBehind 186 = .ok (.if_icmp .ne 7, 3) := by decide +kernel
theorem dX4_awaitedBehind_189 : decode cX4_awaitedBehind 189 = .ok (.iconst 0, 1) := by decide +kernel
theorem dX4_awaitedBehind_190 : decode cX4_awaitedBehind 190 = .ok (.goto 4, 3) := by decide +kernel
theorem dX4_awaitedBehind_193 : decode cX4_awaitedBehind 193 = .ok (.iconst (-1), 1) := by decide +kernel
theorem dX4_awaitedBehind_194 : decode cX4_awaitedBehind 194 = .ok (.ireturn, 1) := by decide +kernel
theorem dX4_noteIn_0 : decode cX4_noteIn 0 = .ok (.iconst 0, 1) := by decide +kernel
theorem dX4_noteIn_1 : decode cX4_noteIn 1 = .ok (.istore_n 2, 1) := by decide +kernel
theorem dX4_noteIn_2 : decode cX4_noteIn 2 = .ok (.iconst 0, 1) := by decide +kernel
theorem dX4_noteIn_3 : decode cX4_noteIn 3 = .ok (.istore_n 3, 1) := by decide +kernel
theorem dX4_noteIn_4 : decode cX4_noteIn 4 = .ok (.iconst 0, 1) := by decide +kernel
theorem dX4_noteIn_5 : decode cX4_noteIn 5 = .ok (.istore 4, 2) := by decide +kernel
theorem dX4_noteIn_7 : decode cX4_noteIn 7 = .ok (.iconst 0, 1) := by decide +kernel
theorem dX4_noteIn_8 : decode cX4_noteIn 8 = .ok (.istore 5, 2) := by decide +kernel
theorem dX4_noteIn_10 : decode cX4_noteIn 10 = .ok (.iload 5, 2) := by decide +kernel
theorem dX4_noteIn_12 : decode cX4_noteIn 12 = .ok (.aload_n 0, 1) := by decide +kernel
theorem dX4_noteIn_13 : decode cX4_noteIn 13 = .ok (.getfield 15, 3) := by decide +kernel
theorem dX4_noteIn_16 : decode cX4_noteIn 16 = .ok (.if_icmp .gt 108, 3) := by decide +kernel
theorem dX4_noteIn_19 : decode cX4_noteIn 19 = .ok (.aload_n 0, 1) := by decide +kernel
theorem dX4_noteIn_20 : decode cX4_noteIn 20 = .ok (.iload 5, 2) := by decide +kernel
theorem dX4_noteIn_22 : decode cX4_noteIn 22 = .ok (.invokevirtual 19, 3) := by decide +kernel
theorem dX4_noteIn_25 : decode cX4_noteIn 25 = .ok (.istore 6, 2) := by decide +kernel
theorem dX4_noteIn_27 : decode cX4_noteIn 27 = .ok (.iload 6, 2) := by decide +kernel
theorem dX4_noteIn_29 : decode cX4_noteIn 29 = .ok (.bipush 59, 2) := by decide +kernel
theorem dX4_noteIn_31 : decode cX4_noteIn 31 = .ok (.if_icmp .ne 66, 3) := by decide +kernel
theorem dX4_noteIn_34 : decode cX4_noteIn 34 = .ok (.aload_n 0, 1) := by decide +kernel
theorem dX4_noteIn_35 : decode cX4_noteIn 35 = .ok (.iload_n 3, 1) := by decide +kernel
theorem dX4_noteIn_36 : decode cX4_noteIn 36 = .ok (.iconst 2, 1) := by decide +kernel
theorem dX4_noteIn_37 : decode cX4_noteIn 37 = .ok (.iadd, 1) := by decide +kernel
theorem dX4_noteIn_38 : decode cX4_noteIn 38 = .ok (.invokevirtual 19, 3) := by decide +kernel
theorem dX4_noteIn_41 : decode cX4_noteIn 41 = .ok (.bipush 48, 2) := by decide +kernel
theorem dX4_noteIn_43 : decode cX4_noteIn 43 = .ok (.isub, 1) := by decide +kernel
theorem dX4_noteIn_44 : decode cX4_noteIn 44 = .ok (.istore 7, 2) := by decide +kernel
theorem dX4_noteIn_46 : decode cX4_noteIn 46 = .ok (.aload_n 1, 1) := by decide +kernel
theorem dX4_noteIn_47 : decode cX4_noteIn 47 = .ok (.aload_n 0, 1) := by decide +kernel
theorem dX4_noteIn_48 : decode cX4_noteIn 48 = .ok (.iload_n 3, 1) := by decide +kernel
theorem dX4_noteIn_49 : decode cX4_noteIn 49 = .ok (.invokevirtual 19, 3) := by decide +kernel
theorem dX4_noteIn_52 : decode cX4_noteIn 52 = .ok (.bipush 48, 2) := by decide +kernel
theorem dX4_noteIn_54 : decode cX4_noteIn 54 = .ok (.isub, 1) := by decide +kernel
theorem dX4_noteIn_55 : decode cX4_noteIn 55 = .ok (.iload 7, 2) := by decide +kernel
theorem dX4_noteIn_57 : decode cX4_noteIn 57 = .ok (.iload 4, 2) := by decide +kernel
theorem dX4_noteIn_59 : decode cX4_noteIn 59 = .ok (.aload_n 0, 1) := by decide +kernel
theorem dX4_noteIn_60 : decode cX4_noteIn 60 = .ok (.iload_n 3, 1) := by decide +kernel
theorem dX4_noteIn_61 : decode cX4_noteIn 61 = .ok (.iconst 1, 1) := by decide +kernel
theorem dX4_noteIn_62 : decode cX4_noteIn 62 = .ok (.iadd, 1) := by decide +kernel
theorem dX4_noteIn_63 : decode cX4_noteIn 63 = .ok (.invokevirtual 19, 3) := by decide +kernel
theorem dX4_noteIn_66 : decode cX4_noteIn 66 = .ok (.bipush 43, 2) := by decide +kernel
theorem dX4_noteIn_68 : decode cX4_noteIn 68 = .ok (.if_icmp .ne 7, 3) := by decide +kernel
theorem dX4_noteIn_71 : decode cX4_noteIn 71 = .ok (.iconst 1, 1) := by decide +kernel
theorem dX4_noteIn_72 : decode cX4_noteIn 72 = .ok (.goto 4, 3) := by decide +kernel
theorem dX4_noteIn_75 : decode cX4_noteIn 75 = .ok (.iconst 0, 1) := by decide +kernel
theorem dX4_noteIn_76 : decode cX4_noteIn 76 = .ok (.invokevirtual 31, 3) := by decide +kernel
theorem dX4_noteIn_79 : decode cX4_noteIn 79 = .ok (.iconst (-1), 1) := by decide +kernel
theorem dX4_noteIn_80 : decode cX4_noteIn 80 = .ok (.if_icmp .ne 6, 3) := by decide +kernel
theorem dX4_noteIn_83 : decode cX4_noteIn 83 = .ok (.iinc 2 1, 3) := by decide +kernel
theorem dX4_noteIn_86 : decode cX4_noteIn 86 = .ok (.iload 5, 2) := by decide +kernel
theorem dX4_noteIn_88 : decode cX4_noteIn 88 = .ok (.iconst 1, 1) := by decide +kernel
theorem dX4_noteIn_89 : decode cX4_noteIn 89 = .ok (.iadd, 1) := by decide +kernel
theorem dX4_noteIn_90 : decode cX4_noteIn 90 = .ok (.istore_n 3, 1) := by decide +kernel
theorem dX4_noteIn_91 : decode cX4_noteIn 91 = .ok (.iconst 0, 1) := by decide +kernel
theorem dX4_noteIn_92 : decode cX4_noteIn 92 = .ok (.istore 4, 2) := by decide +kernel
theorem dX4_noteIn_94 : decode cX4_noteIn 94 = .ok (.goto 24, 3) := by decide +kernel
theorem dX4_noteIn_97 : decode cX4_noteIn 97 = .ok (.iload 5, 2) := by decide +kernel
theorem dX4_noteIn_99 : decode cX4_noteIn 99 = .ok (.iload_n 3, 1) := by decide +kernel
theorem dX4_noteIn_100 : decode cX4_noteIn 100 = .ok (.iconst 4, 1) := by decide +kernel
theorem dX4_noteIn_101 : decode cX4_noteIn 101 = .ok (.iadd, 1) := by decide +kernel
theorem dX4_noteIn_102 : decode cX4_noteIn 102 = .ok (.if_icmp .lt 16, 3) := by decide +kernel
theorem dX4_noteIn_105 : decode cX4_noteIn 105 = .ok (.iload 4, 2) := by decide +kernel
theorem dX4_noteIn_107 : decode cX4_noteIn 107 = .ok (.bipush 10, 2) := by decide +kernel
theorem dX4_noteIn_109 : decode cX4_noteIn 109 = .ok (.imul, 1) := by decide +kernel
theorem dX4_noteIn_110 : decode cX4_noteIn 110 = .ok (.iload 6, 2) := by decide +kernel
theorem dX4_noteIn_112 : decode cX4_noteIn 112 = .ok (.iadd, 1) := by decide +kernel
theorem dX4_noteIn_113 : decode cX4_noteIn 113 = .ok (.bipush 48, 2) := by decide +kernel
theorem dX4_noteIn_115 : decode cX4_noteIn 115 = .ok (.isub, 1) := by decide +kernel
theorem dX4_noteIn_116 : decode cX4_noteIn 116 = .ok (.istore 4, 2) := by decide +kernel
theorem dX4_noteIn_118 : decode cX4_noteIn 118 = .ok (.iinc 5 1, 3) := by decide +kernel
theorem dX4_noteIn_121 : decode cX4_noteIn 121 = .ok (.goto (-111), 3) := by decide +kernel
theorem dX4_noteIn_124 : decode cX4_noteIn 124 = .ok (.iload_n 2, 1) := by decide +kernel
theorem dX4_noteIn_125 : decode cX4_noteIn 125 = .ok (.ireturn, 1) := by decide +kernel
theorem dX4_signAt_0 : decode cX4_signAt 0 = .ok (.iload_n 1, 1) := by decide +kernel
theorem dX4_signAt_1 : decode cX4_signAt 1 = .ok (.ifCond .lt 26, 3) := by decide +kernel
theorem dX4_signAt_4 : decode cX4_signAt 4 = .ok (.iload_n 1, 1) := by decide +kernel
theorem dX4_signAt_5 : decode cX4_signAt 5 = .ok (.aload_n 0, 1) := by decide +kernel
theorem dX4_signAt_6 : decode cX4_signAt 6 = .ok (.getfield 15, 3) := by decide +kernel
theorem dX4_signAt_9 : decode cX4_signAt 9 = .ok (.if_icmp .ge 18, 3) := by decide +kernel
theorem dX4_signAt_12 : decode cX4_signAt 12 = .ok (.iload_n 1, 1) := by decide +kernel
theorem dX4_signAt_13 : decode cX4_signAt 13 = .ok (.bipush 100, 2) := by decide +kernel
theorem dX4_signAt_15 : decode cX4_signAt 15 = .ok (.if_icmp .ge 12, 3) := by decide +kernel
theorem dX4_signAt_18 : decode cX4_signAt 18 = .ok (.aload_n 0, 1) := by decide +kernel
theorem dX4_signAt_19 : decode cX4_signAt 19 = .ok (.getfield 11, 3) := by decide +kernel
theorem dX4_signAt_22 : decode cX4_signAt 22 = .ok (.iload_n 1, 1) := by decide +kernel
theorem dX4_signAt_23 : decode cX4_signAt 23 = .ok (.caload, 1) := by decide +kernel
theorem dX4_signAt_24 : decode cX4_signAt 24 = .ok (.goto 5, 3) := by decide +kernel
theorem dX4_signAt_27 : decode cX4_signAt 27 = .ok (.bipush 59, 2) := by decide +kernel
theorem dX4_signAt_29 : decode cX4_signAt 29 = .ok (.ireturn, 1) := by decide +kernel
theorem dX5_init_0 : decode cX5_init 0 = .ok (.aload_n 0, 1) := by decide +kernel
theorem dX5_init_1 : decode cX5_init 1 = .ok (.invokespecial 1, 3) := by decide +kernel
theorem dX5_init_4 : decode cX5_init 4 = .ok (.aload_n 0, 1) := by decide +kernel
theorem dX5_init_5 : decode cX5_init 5 = .ok (.new 7, 3) := by decide +kernel
theorem dX5_init_8 : decode cX5_init 8 = .ok (.dup, 1) := by decide +kernel
theorem dX5_init_9 : decode cX5_init 9 = .ok (.invokespecial 9, 3) := by decide +kernel
theorem dX5_init_12 : decode cX5_init 12 = .ok (.putfield 10, 3) := by decide +kernel
theorem dX5_init_15 : decode cX5_init 15 = .ok (.aload_n 0, 1) := by decide +kernel
theorem dX5_init_16 : decode cX5_init 16 = .ok (.new 16, 3) := by decide +kernel
theorem dX5_init_19 : decode cX5_init 19 = .ok (.dup, 1) := by decide +kernel
theorem dX5_init_20 : decode cX5_init 20 = .ok (.invokespecial 18, 3) := by decide +kernel
theorem dX5_init_23 : decode cX5_init 23 = .ok (.putfield 19, 3) := by decide +kernel
theorem dX5_init_26 : decode cX5_init 26 = .ok (.aload_n 0, 1) := by decide +kernel
theorem dX5_init_27 : decode cX5_init 27 = .ok (.new 23, 3) := by decide +kernel
theorem dX5_init_30 : decode cX5_init 30 = .ok (.dup, 1) := by decide +kernel
theorem dX5_init_31 : decode cX5_init 31 = .ok (.invokespecial 25, 3) := by decide +kernel
theorem dX5_init_34 : decode cX5_init 34 = .ok (.putfield 26, 3) := by decide +kernel
theorem dX5_init_37 : decode cX5_init 37 = .ok (.aload_n 0, 1) := by decide +kernel
theorem dX5_init_38 : decode cX5_init 38 = .ok (.new 30, 3) := by decide +kernel
theorem dX5_init_41 : decode cX5_init 41 = .ok (.dup, 1) := by decide +kernel
theorem dX5_init_42 : decode cX5_init 42 = .ok (.invokespecial 32, 3) := by decide +kernel
theorem dX5_init_45 : decode cX5_init 45 = .ok (.putfield 33, 3) := by decide +kernel
theorem dX5_init_48 : decode cX5_init 48 = .ok (.aload_n 0, 1) := by decide +kernel
theorem dX5_init_49 : decode cX5_init 49 = .ok (.new 37, 3) := by decide +kernel
theorem dX5_init_52 : decode cX5_init 52 = .ok (.dup, 1) := by decide +kernel
theorem dX5_init_53 : decode cX5_init 53 = .ok (.invokespecial 39, 3) := by decide +kernel
theorem dX5_init_56 : decode cX5_init 56 = .ok (.putfield 40, 3) := by decide +kernel
theorem dX5_init_59 : decode cX5_init 59 = .ok (.aload_n 0, 1) := by decide +kernel
theorem dX5_init_60 : decode cX5_init 60 = .ok (.iconst 2, 1) := by decide +kernel
theorem dX5_init_61 : decode cX5_init 61 = .ok (.sipush 221, 3) := by decide +kernel
theorem dX5_init_64 : decode cX5_init 64 = .ok (.multianewarray 44 2, 4) := by decide +kernel
theorem dX5_init_68 : decode cX5_init 68 = .ok (.putfield 46, 3) := by decide +kernel
theorem dX5_init_71 : decode cX5_init 71 = .ok (.aload_n 0, 1) := by decide +kernel
theorem dX5_init_72 : decode cX5_init 72 = .ok (.iconst 2, 1) := by decide +kernel
theorem dX5_init_73 : decode cX5_init 73 = .ok (.newarray .boolean, 2) := by decide +kernel
theorem dX5_init_75 : decode cX5_init 75 = .ok (.putfield 49, 3) := by decide +kernel
theorem dX5_init_78 : decode cX5_init 78 = .ok (.return_, 1) := by decide +kernel
theorem dX5_append_0 : decode cX5_append 0 = .ok (.iload_n 1, 1) := by decide +kernel
theorem dX5_append_1 : decode cX5_append 1 = .ok (.ifCond .lt 10, 3) := by decide +kernel
theorem dX5_append_4 : decode cX5_append 4 = .ok (.iload_n 1, 1) := by decide +kernel
theorem dX5_append_5 : decode cX5_append 5 = .ok (.sipush 255, 3) := by decide +kernel
theorem dX5_append_8 : decode cX5_append 8 = .ok (.if_icmp .le 13, 3) := by decide +kernel
theorem dX5_append_11 : decode cX5_append 11 = .ok (.new 53, 3) := by decide +kernel
theorem dX5_append_14 : decode cX5_append 14 = .ok (.dup, 1) := by decide +kernel
theorem dX5_append_15 : decode cX5_append 15 = .ok (.ldc 55, 2) := by decide +kernel
theorem dX5_append_17 : decode cX5_append 17 = .ok (.invokespecial 57, 3) := by decide +kernel
theorem dX5_append_20 : decode cX5_append 20 = .ok (.athrow, 1) := by decide +kernel
theorem dX5_append_21 : decode cX5_append 21 = .ok (.aload_n 0, 1) := by decide +kernel
theorem dX5_append_22 : decode cX5_append 22 = .ok (.getfield 26, 3) := by decide +kernel
theorem dX5_append_25 : decode cX5_append 25 = .ok (.invokevirtual 60, 3) := by decide +kernel
theorem dX5_append_28 : decode cX5_append 28 = .ok (.ifCond .eq 13, 3) := by decide +kernel
theorem dX5_append_31 : decode cX5_append 31 = .ok (.new 64, 3) := by decide +kernel
theorem dX5_append_34 : decode cX5_append 34 = .ok (.dup, 1) := by decide +kernel
theorem dX5_append_35 : decode cX5_append 35 = .ok (.ldc 66, 2) := by decide +kernel
theorem dX5_append_37 : decode cX5_append 37 = .ok (.invokespecial 68, 3) := by decide +kernel
theorem dX5_append_40 : decode cX5_append 40 = .ok (.athrow, 1) := by decide +kernel
theorem dX5_append_41 : decode cX5_append 41 = .ok (.aload_n 0, 1) := by decide +kernel
theorem dX5_append_42 : decode cX5_append 42 = .ok (.getfield 26, 3) := by decide +kernel
theorem dX5_append_45 : decode cX5_append 45 = .ok (.iload_n 1, 1) := by decide +kernel
theorem dX5_append_46 : decode cX5_append 46 = .ok (.invokevirtual 69, 3) := by decide +kernel
theorem dX5_append_49 : decode cX5_append 49 = .ok (.ireturn, 1) := by decide +kernel
theorem dX5_clearText_0 : decode cX5_clearText 0 = .ok (.aload_n 0, 1) := by decide +kernel
theorem dX5_clearText_1 : decode cX5_clearText 1 = .ok (.getfield 26, 3) := by decide +kernel
theorem dX5_clearText_4 : decode cX5_clearText 4 = .ok (.invokevirtual 73, 3) := by decide +kernel
theorem dX5_clearText_7 : decode cX5_clearText 7 = .ok (.ireturn, 1) := by decide +kernel
theorem dX5_errorPosition_0 : decode cX5_errorPosition 0 = .ok (.aload_n 0, 1) := by decide +kernel
theorem dX5_errorPosition_1 : decode cX5_errorPosition 1 = .ok (.getfield 26, 3) := by decide +kernel
theorem dX5_errorPosition_4 : decode cX5_errorPosition 4 = .ok (.invokevirtual 77, 3) := by decide +kernel
theorem dX5_errorPosition_7 : decode cX5_errorPosition 7 = .ok (.ireturn, 1) := by decide +kernel
theorem dX5_about_0 : decode cX5_about 0 = .ok (.iload_n 1, 1) := by decide +kernel
theorem dX5_about_1 : decode cX5_about 1 = .ok (.tableswitch 95 0 5 #[39, 47, 55, 63, 71, 83], 39) := by decide +kernel
theorem dX5_about_40 : decode cX5_about 40 = .ok (.aload_n 0, 1) := by decide +kernel
theorem dX5_about_41 : decode cX5_about 41 = .ok (.getfield 10, 3) := by decide +kernel
theorem dX5_about_44 : decode cX5_about 44 = .ok (.invokevirtual 80, 3) := by decide +kernel
theorem dX5_about_47 : decode cX5_about 47 = .ok (.ireturn, 1) := by decide +kernel
theorem dX5_about_48 : decode cX5_about 48 = .ok (.aload_n 0, 1) := by decide +kernel
theorem dX5_about_49 : decode cX5_about 49 = .ok (.getfield 10, 3) := by decide +kernel
theorem dX5_about_52 : decode cX5_about 52 = .ok (.invokevirtual 83, 3) := by decide +kernel
theorem dX5_about_55 : decode cX5_about 55 = .ok (.ireturn, 1) := by decide +kernel
theorem dX5_about_56 : decode cX5_about 56 = .ok (.aload_n 0, 1) := by decide +kernel
theorem dX5_about_57 : decode cX5_about 57 = .ok (.getfield 10, 3) := by decide +kernel
theorem dX5_about_60 : decode cX5_about 60 = .ok (.invokevirtual 86, 3) := by decide +kernel
theorem dX5_about_63 : decode cX5_about 63 = .ok (.ireturn, 1) := by decide +kernel
theorem dX5_about_64 : decode cX5_about 64 = .ok (.aload_n 0, 1) := by decide +kernel
theorem dX5_about_65 : decode cX5_about 65 = .ok (.getfield 10, 3) := by decide +kernel
theorem dX5_about_68 : decode cX5_about 68 = .ok (.invokevirtual 89, 3) := by decide +kernel
theorem dX5_about_71 : decode cX5_about 71 = .ok (.ireturn, 1) := by decide +kernel
theorem dX5_about_72 : decode cX5_about 72 = .ok (.aload_n 0, 1) := by decide +kernel
theorem dX5_about_73 : decode cX5_about 73 = .ok (.getfield 33, 3) := by decide +kernel
theorem dX5_about_76 : decode cX5_about 76 = .ok (.aload_n 0, 1) := by decide +kernel
theorem dX5_about_77 : decode cX5_about 77 = .ok (.getfield 10, 3) := by decide +kernel
theorem dX5_about_80 : decode cX5_about 80 = .ok (.invokevirtual 92, 3) := by decide +kernel
theorem dX5_about_83 : decode cX5_about 83 = .ok (.ireturn, 1) := by decide +kernel
theorem dX5_about_84 : decode cX5_about 84 = .ok (.aload_n 0, 1) := by decide +kernel
theorem dX5_about_85 : decode cX5_about 85 = .ok (.getfield 33, 3) := by decide +kernel
theorem dX5_about_88 : decode cX5_about 88 = .ok (.aload_n 0, 1) := by decide +kernel
theorem dX5_about_89 : decode cX5_about 89 = .ok (.getfield 10, 3) := by decide +kernel
theorem dX5_about_92 : decode cX5_about 92 = .ok (.invokevirtual 96, 3) := by decide +kernel
theorem dX5_about_95 : decode cX5_about 95 = .ok (.ireturn, 1) := by decide +kernel
theorem dX5_about_96 : decode cX5_about 96 = .ok (.new 53, 3) := by decide +kernel
theorem dX5_about_99 : decode cX5_about 99 = .ok (.dup, 1) := by decide +kernel
theorem dX5_about_100 : decode cX5_about 100 = .ok (.ldc 99, 2) := by decide +kernel
theorem dX5_about_102 : decode cX5_about 102 = .ok (.invokespecial 57, 3) := by decide +kernel
theorem dX5_about_105 : decode cX5_about 105 = .ok (.athrow, 1) := by decide +kernel
theorem dX5_road_0 : decode cX5_road 0 = .ok (.aload_n 0, 1) := by decide +kernel
theorem dX5_road_1 : decode cX5_road 1 = .ok (.iload_n 1, 1) := by decide +kernel
theorem dX5_road_2 : decode cX5_road 2 = .ok (.invokevirtual 101, 3) := by decide +kernel
theorem dX5_road_5 : decode cX5_road 5 = .ok (.aload_n 0, 1) := by decide +kernel
theorem dX5_road_6 : decode cX5_road 6 = .ok (.iload_n 2, 1) := by decide +kernel
theorem dX5_road_7 : decode cX5_road 7 = .ok (.invokevirtual 101, 3) := by decide +kernel
theorem dX5_road_10 : decode cX5_road 10 = .ok (.aload_n 0, 1) := by decide +kernel
theorem dX5_road_11 : decode cX5_road 11 = .ok (.getfield 10, 3) := by decide +kernel
theorem dX5_road_14 : decode cX5_road 14 = .ok (.iload_n 1, 1) := by decide +kernel
theorem dX5_road_15 : decode cX5_road 15 = .ok (.iload_n 2, 1) := by decide +kernel
theorem dX5_road_16 : decode cX5_road 16 = .ok (.invokevirtual 105, 3) := by decide +kernel
theorem dX5_road_19 : decode cX5_road 19 = .ok (.ireturn, 1) := by decide +kernel
theorem dX5_neighbor_0 : decode cX5_neighbor 0 = .ok (.aload_n 0, 1) := by decide +kernel
theorem dX5_neighbor_1 : decode cX5_neighbor 1 = .ok (.iload_n 1, 1) := by decide +kernel
theorem dX5_neighbor_2 : decode cX5_neighbor 2 = .ok (.invokevirtual 101, 3) := by decide +kernel
theorem dX5_neighbor_5 : decode cX5_neighbor 5 = .ok (.iload_n 2, 1) := by decide +kernel
theorem dX5_neighbor_6 : decode cX5_neighbor 6 = .ok (.invokestatic 109, 3) := by decide +kernel
theorem dX5_neighbor_9 : decode cX5_neighbor 9 = .ok (.aload_n 0, 1) := by decide +kernel
theorem dX5_neighbor_10 : decode cX5_neighbor 10 = .ok (.getfield 10, 3) := by decide +kernel
theorem dX5_neighbor_13 : decode cX5_neighbor 13 = .ok (.iload_n 1, 1) := by decide +kernel
theorem dX5_neighbor_14 : decode cX5_neighbor 14 = .ok (.iload_n 2, 1) := by decide +kernel
theorem dX5_neighbor_15 : decode cX5_neighbor 15 = .ok (.invokevirtual 112, 3) := by decide +kernel
theorem dX5_neighbor_18 : decode cX5_neighbor 18 = .ok (.ireturn, 1) := by decide +kernel
theorem dX5_report_0 : decode cX5_report 0 = .ok (.aload_n 0, 1) := by decide +kernel
theorem dX5_report_1 : decode cX5_report 1 = .ok (.iload_n 1, 1) := by decide +kernel
theorem dX5_report_2 : decode cX5_report 2 = .ok (.invokevirtual 101, 3) := by decide +kernel
theorem dX5_report_5 : decode cX5_report 5 = .ok (.iload_n 2, 1) := by decide +kernel
theorem dX5_report_6 : decode cX5_report 6 = .ok (.invokestatic 115, 3) := by decide +kernel
theorem dX5_report_9 : decode cX5_report 9 = .ok (.aload_n 0, 1) := by decide +kernel
theorem dX5_report_10 : decode cX5_report 10 = .ok (.getfield 10, 3) := by decide +kernel
theorem dX5_report_13 : decode cX5_report 13 = .ok (.iload_n 1, 1) := by decide +kernel
theorem dX5_report_14 : decode cX5_report 14 = .ok (.iload_n 2, 1) := by decide +kernel
theorem dX5_report_15 : decode cX5_report 15 = .ok (.iload_n 3, 1) := by decide +kernel
theorem dX5_report_16 : decode cX5_report 16 = .ok (.invokevirtual 118, 3) := by decide +kernel
theorem dX5_report_19 : decode cX5_report 19 = .ok (.ireturn, 1) := by decide +kernel
theorem dX5_found_0 : decode cX5_found 0 = .ok (.aload_n 0, 1) := by decide +kernel
theorem dX5_found_1 : decode cX5_found 1 = .ok (.getfield 10, 3) := by decide +kernel
theorem dX5_found_4 : decode cX5_found 4 = .ok (.invokevirtual 80, 3) := by decide +kernel
theorem dX5_found_7 : decode cX5_found 7 = .ok (.bipush 10, 2) := by decide +kernel
theorem dX5_found_9 : decode cX5_found 9 = .ok (.if_icmp .lt 13, 3) := by decide +kernel
theorem dX5_found_12 : decode cX5_found 12 = .ok (.new 64, 3) := by decide +kernel
theorem dX5_found_15 : decode cX5_found 15 = .ok (.dup, 1) := by decide +kernel
theorem dX5_found_16 : decode cX5_found 16 = .ok (.ldc 122, 2) := by decide +kernel
theorem dX5_found_18 : decode cX5_found 18 = .ok (.invokespecial 68, 3) := by decide +kernel
theorem dX5_found_21 : decode cX5_found 21 = .ok (.athrow, 1) := by decide +kernel
theorem dX5_found_22 : decode cX5_found 22 = .ok (.aload_n 0, 1) := by decide +kernel
theorem dX5_found_23 : decode cX5_found 23 = .ok (.getfield 19, 3) := by decide +kernel
theorem dX5_found_26 : decode cX5_found 26 = .ok (.aload_n 0, 1) := by decide +kernel
theorem dX5_found_27 : decode cX5_found 27 = .ok (.getfield 10, 3) := by decide +kernel
theorem dX5_found_30 : decode cX5_found 30 = .ok (.invokevirtual 124, 3) := by decide +kernel
theorem dX5_found_33 : decode cX5_found 33 = .ok (.aload_n 0, 1) := by decide +kernel
theorem dX5_found_34 : decode cX5_found 34 = .ok (.getfield 10, 3) := by decide +kernel
theorem dX5_found_37 : decode cX5_found 37 = .ok (.invokevirtual 128, 3) := by decide +kernel
theorem dX5_found_40 : decode cX5_found 40 = .ok (.ireturn, 1) := by decide +kernel
theorem dX5_lay_0 : decode cX5_lay 0 = .ok (.aload_n 0, 1) := by decide +kernel
theorem dX5_lay_1 : decode cX5_lay 1 = .ok (.iload_n 1, 1) := by decide +kernel
theorem dX5_lay_2 : decode cX5_lay 2 = .ok (.iload_n 2, 1) := by decide +kernel
theorem dX5_lay_3 : decode cX5_lay 3 = .ok (.iload_n 3, 1) := by decide +kernel
theorem dX5_lay_4 : decode cX5_lay 4 = .ok (.invokevirtual 131, 3) := by decide +kernel
theorem dX5_lay_7 : decode cX5_lay 7 = .ok (.aload_n 0, 1) := by decide +kernel
theorem dX5_lay_8 : decode cX5_lay 8 = .ok (.getfield 19, 3) := by decide +kernel
theorem dX5_lay_11 : decode cX5_lay 11 = .ok (.aload_n 0, 1) := by decide +kernel
theorem dX5_lay_12 : decode cX5_lay 12 = .ok (.getfield 10, 3) := by decide +kernel
theorem dX5_lay_15 : decode cX5_lay 15 = .ok (.invokevirtual 124, 3) := by decide +kernel
theorem dX5_lay_18 : decode cX5_lay 18 = .ok (.aload_n 0, 1) := by decide +kernel
theorem dX5_lay_19 : decode cX5_lay 19 = .ok (.getfield 10, 3) := by decide +kernel
theorem dX5_lay_22 : decode cX5_lay 22 = .ok (.iload_n 1, 1) := by decide +kernel
theorem dX5_lay_23 : decode cX5_lay 23 = .ok (.iload_n 2, 1) := by decide +kernel
theorem dX5_lay_24 : decode cX5_lay 24 = .ok (.iload_n 3, 1) := by decide +kernel
theorem dX5_lay_25 : decode cX5_lay 25 = .ok (.invokevirtual 135, 3) := by decide +kernel
theorem dX5_lay_28 : decode cX5_lay 28 = .ok (.pop, 1) := by decide +kernel
theorem dX5_lay_29 : decode cX5_lay 29 = .ok (.aload_n 0, 1) := by decide +kernel
theorem dX5_lay_30 : decode cX5_lay 30 = .ok (.getfield 10, 3) := by decide +kernel
theorem dX5_lay_33 : decode cX5_lay 33 = .ok (.invokevirtual 83, 3) := by decide +kernel
theorem dX5_lay_36 : decode cX5_lay 36 = .ok (.ireturn, 1) := by decide +kernel
theorem dX5_tear_0 : decode cX5_tear 0 = .ok (.aload_n 0, 1) := by decide +kernel
theorem dX5_tear_1 : decode cX5_tear 1 = .ok (.iload_n 1, 1) := by decide +kernel
theorem dX5_tear_2 : decode cX5_tear 2 = .ok (.invokevirtual 101, 3) := by decide +kernel
theorem dX5_tear_5 : decode cX5_tear 5 = .ok (.aload_n 0, 1) := by decide +kernel
theorem dX5_tear_6 : decode cX5_tear 6 = .ok (.iload_n 2, 1) := by decide +kernel
theorem dX5_tear_7 : decode cX5_tear 7 = .ok (.invokevirtual 101, 3) := by decide +kernel
theorem dX5_tear_10 : decode cX5_tear 10 = .ok (.aload_n 0, 1) := by decide +kernel
theorem dX5_tear_11 : decode cX5_tear 11 = .ok (.getfield 10, 3) := by decide +kernel
theorem dX5_tear_14 : decode cX5_tear 14 = .ok (.iload_n 1, 1) := by decide +kernel
theorem dX5_tear_15 : decode cX5_tear 15 = .ok (.iload_n 2, 1) := by decide +kernel
theorem dX5_tear_16 : decode cX5_tear 16 = .ok (.invokevirtual 105, 3) := by decide +kernel
theorem dX5_tear_19 : decode cX5_tear 19 = .ok (.iconst (-1), 1) := by decide +kernel
theorem dX5_tear_20 : decode cX5_tear 20 = .ok (.if_icmp .ne 13, 3) := by decide +kernel
theorem dX5_tear_23 : decode cX5_tear 23 = .ok (.new 64, 3) := by decide +kernel
theorem dX5_tear_26 : decode cX5_tear 26 = .ok (.dup, 1) := by decide +kernel
theorem dX5_tear_27 : decode cX5_tear 27 = .ok (.ldc 139, 2) := by decide +kernel
theorem dX5_tear_29 : decode cX5_tear 29 = .ok (.invokespecial 68, 3) := by decide +kernel
theorem dX5_tear_32 : decode cX5_tear 32 = .ok (.athrow, 1) := by decide +kernel
theorem dX5_tear_33 : decode cX5_tear 33 = .ok (.aload_n 0, 1) := by decide +kernel
theorem dX5_tear_34 : decode cX5_tear 34 = .ok (.getfield 19, 3) := by decide +kernel
theorem dX5_tear_37 : decode cX5_tear 37 = .ok (.aload_n 0, 1) := by decide +kernel
theorem dX5_tear_38 : decode cX5_tear 38 = .ok (.getfield 10, 3) := by decide +kernel
theorem dX5_tear_41 : decode cX5_tear 41 = .ok (.invokevirtual 124, 3) := by decide +kernel
theorem dX5_tear_44 : decode cX5_tear 44 = .ok (.aload_n 0, 1) := by decide +kernel
theorem dX5_tear_45 : decode cX5_tear 45 = .ok (.getfield 10, 3) := by decide +kernel
theorem dX5_tear_48 : decode cX5_tear 48 = .ok (.iload_n 1, 1) := by decide +kernel
theorem dX5_tear_49 : decode cX5_tear 49 = .ok (.iload_n 2, 1) := by decide +kernel
theorem dX5_tear_50 : decode cX5_tear 50 = .ok (.invokevirtual 141, 3) := by decide +kernel
theorem dX5_tear_53 : decode cX5_tear 53 = .ok (.ireturn, 1) := by decide +kernel
theorem dX5_see_0 : decode cX5_see 0 = .ok (.aload_n 0, 1) := by decide +kernel
theorem dX5_see_1 : decode cX5_see 1 = .ok (.iload_n 1, 1) := by decide +kernel
theorem dX5_see_2 : decode cX5_see 2 = .ok (.invokevirtual 101, 3) := by decide +kernel
theorem dX5_see_5 : decode cX5_see 5 = .ok (.iload_n 2, 1) := by decide +kernel
theorem dX5_see_6 : decode cX5_see 6 = .ok (.invokestatic 115, 3) := by decide +kernel
theorem dX5_see_9 : decode cX5_see 9 = .ok (.iload_n 3, 1) := by decide +kernel
theorem dX5_see_10 : decode cX5_see 10 = .ok (.invokestatic 144, 3) := by decide +kernel
theorem dX5_see_13 : decode cX5_see 13 = .ok (.ifCond .ne 13, 3) := by decide +kernel
theorem dX5_see_16 : decode cX5_see 16 = .ok (.new 53, 3) := by decide +kernel
theorem dX5_see_19 : decode cX5_see 19 = .ok (.dup, 1) := by decide +kernel
theorem dX5_see_20 : decode cX5_see 20 = .ok (.ldc 148, 2) := by decide +kernel
theorem dX5_see_22 : decode cX5_see 22 = .ok (.invokespecial 57, 3) := by decide +kernel
theorem dX5_see_25 : decode cX5_see 25 = .ok (.athrow, 1) := by decide +kernel
theorem dX5_see_26 : decode cX5_see 26 = .ok (.aload_n 0, 1) := by decide +kernel
theorem dX5_see_27 : decode cX5_see 27 = .ok (.getfield 19, 3) := by decide +kernel
theorem dX5_see_30 : decode cX5_see 30 = .ok (.aload_n 0, 1) := by decide +kernel
theorem dX5_see_31 : decode cX5_see 31 = .ok (.getfield 10, 3) := by decide +kernel
theorem dX5_see_34 : decode cX5_see 34 = .ok (.invokevirtual 124, 3) := by decide +kernel
theorem dX5_see_37 : decode cX5_see 37 = .ok (.aload_n 0, 1) := by decide +kernel
theorem dX5_see_38 : decode cX5_see 38 = .ok (.getfield 10, 3) := by decide +kernel
theorem dX5_see_41 : decode cX5_see 41 = .ok (.iload_n 1, 1) := by decide +kernel
theorem dX5_see_42 : decode cX5_see 42 = .ok (.iload_n 2, 1) := by decide +kernel
theorem dX5_see_43 : decode cX5_see 43 = .ok (.iload_n 3, 1) := by decide +kernel
theorem dX5_see_44 : decode cX5_see 44 = .ok (.iload 4, 2) := by decide +kernel
theorem dX5_see_46 : decode cX5_see 46 = .ok (.invokevirtual 150, 3) := by decide +kernel
theorem dX5_see_49 : decode cX5_see 49 = .ok (.ireturn, 1) := by decide +kernel
theorem dX5_seeAll_0 : decode cX5_seeAll 0 = .ok (.aload_n 0, 1) := by decide +kernel
theorem dX5_seeAll_1 : decode cX5_seeAll 1 = .ok (.getfield 26, 3) := by decide +kernel
theorem dX5_seeAll_4 : decode cX5_seeAll 4 = .ok (.invokevirtual 77, 3) := by decide +kernel
theorem dX5_seeAll_7 : decode cX5_seeAll 7 = .ok (.iconst (-1), 1) := by decide +kernel
theorem dX5_seeAll_8 : decode cX5_seeAll 8 = .ok (.if_icmp .eq 13, 3) := by decide +kernel
theorem dX5_seeAll_11 : decode cX5_seeAll 11 = .ok (.new 64, 3) := by decide +kernel
theorem dX5_seeAll_14 : decode cX5_seeAll 14 = .ok (.dup, 1) := by decide +kernel
theorem dX5_seeAll_15 : decode cX5_seeAll 15 = .ok (.ldc 154, 2) := by decide +kernel
theorem dX5_seeAll_17 : decode cX5_seeAll 17 = .ok (.invokespecial 68, 3) := by decide +kernel
theorem dX5_seeAll_20 : decode cX5_seeAll 20 = .ok (.athrow, 1) := by decide +kernel
theorem dX5_seeAll_21 : decode cX5_seeAll 21 = .ok (.aload_n 0, 1) := by decide +kernel
theorem dX5_seeAll_22 : decode cX5_seeAll 22 = .ok (.getfield 19, 3) := by decide +kernel
theorem dX5_seeAll_25 : decode cX5_seeAll 25 = .ok (.aload_n 0, 1) := by decide +kernel
theorem dX5_seeAll_26 : decode cX5_seeAll 26 = .ok (.getfield 10, 3) := by decide +kernel
theorem dX5_seeAll_29 : decode cX5_seeAll 29 = .ok (.invokevirtual 124, 3) := by decide +kernel
theorem dX5_seeAll_32 : decode cX5_seeAll 32 = .ok (.aload_n 0, 1) := by decide +kernel
theorem dX5_seeAll_33 : decode cX5_seeAll 33 = .ok (.getfield 26, 3) := by decide +kernel
theorem dX5_seeAll_36 : decode cX5_seeAll 36 = .ok (.aload_n 0, 1) := by decide +kernel
theorem dX5_seeAll_37 : decode cX5_seeAll 37 = .ok (.getfield 10, 3) := by decide +kernel
theorem dX5_seeAll_40 : decode cX5_seeAll 40 = .ok (.invokevirtual 156, 3) := by decide +kernel
theorem dX5_seeAll_43 : decode cX5_seeAll 43 = .ok (.ireturn, 1) := by decide +kernel
theorem dX5_forget_0 : decode cX5_forget 0 = .ok (.aload_n 0, 1) := by decide +kernel
theorem dX5_forget_1 : decode cX5_forget 1 = .ok (.iload_n 1, 1) := by decide +kernel
theorem dX5_forget_2 : decode cX5_forget 2 = .ok (.invokevirtual 101, 3) := by decide +kernel
theorem dX5_forget_5 : decode cX5_forget 5 = .ok (.iload_n 2, 1) := by decide +kernel
theorem dX5_forget_6 : decode cX5_forget 6 = .ok (.invokestatic 115, 3) := by decide +kernel
theorem dX5_forget_9 : decode cX5_forget 9 = .ok (.aload_n 0, 1) := by decide +kernel
theorem dX5_forget_10 : decode cX5_forget 10 = .ok (.getfield 19, 3) := by decide +kernel
theorem dX5_forget_13 : decode cX5_forget 13 = .ok (.aload_n 0, 1) := by decide +kernel
theorem dX5_forget_14 : decode cX5_forget 14 = .ok (.getfield 10, 3) := by decide +kernel
theorem dX5_forget_17 : decode cX5_forget 17 = .ok (.invokevirtual 124, 3) := by decide +kernel
theorem dX5_forget_20 : decode cX5_forget 20 = .ok (.aload_n 0, 1) := by decide +kernel
theorem dX5_forget_21 : decode cX5_forget 21 = .ok (.getfield 10, 3) := by decide +kernel
theorem dX5_forget_24 : decode cX5_forget 24 = .ok (.iload_n 1, 1) := by decide +kernel
theorem dX5_forget_25 : decode cX5_forget 25 = .ok (.iload_n 2, 1) := by decide +kernel
theorem dX5_forget_26 : decode cX5_forget 26 = .ok (.invokevirtual 159, 3) := by decide +kernel
theorem dX5_forget_29 : decode cX5_forget 29 = .ok (.ireturn, 1) := by decide +kernel
theorem dX5_undo_0 : decode cX5_undo 0 = .ok (.aload_n 0, 1) := by decide +kernel
theorem dX5_undo_1 : decode cX5_undo 1 = .ok (.getfield 19, 3) := by decide +kernel
theorem dX5_undo_4 : decode cX5_undo 4 = .ok (.invokevirtual 162, 3) := by decide +kernel
theorem dX5_undo_7 : decode cX5_undo 7 = .ok (.ifCond .eq 13, 3) := by decide +kernel
theorem dX5_undo_10 : decode cX5_undo 10 = .ok (.new 64, 3) := by decide +kernel
theorem dX5_undo_13 : decode cX5_undo 13 = .ok (.dup, 1) := by decide +kernel
theorem dX5_undo_14 : decode cX5_undo 14 = .ok (.ldc 165, 2) := by decide +kernel
theorem dX5_undo_16 : decode cX5_undo 16 = .ok (.invokespecial 68, 3) := by decide +kernel
theorem dX5_undo_19 : decode cX5_undo 19 = .ok (.athrow, 1) := by decide +kernel
theorem dX5_undo_20 : decode cX5_undo 20 = .ok (.aload_n 0, 1) := by decide +kernel
theorem dX5_undo_21 : decode cX5_undo 21 = .ok (.getfield 19, 3) := by decide +kernel
theorem dX5_undo_24 : decode cX5_undo 24 = .ok (.aload_n 0, 1) := by decide +kernel
theorem dX5_undo_25 : decode cX5_undo 25 = .ok (.getfield 10, 3) := by decide +kernel
theorem dX5_undo_28 : decode cX5_undo 28 = .ok (.invokevirtual 167, 3) := by decide +kernel
theorem dX5_undo_31 : decode cX5_undo 31 = .ok (.ireturn, 1) := by decide +kernel
theorem dX5_inventions_0 : decode cX5_inventions 0 = .ok (.iload_n 1, 1) := by decide +kernel
theorem dX5_inventions_1 : decode cX5_inventions 1 = .ok (.invokestatic 115, 3) := by decide +kernel
theorem dX5_inventions_4 : decode cX5_inventions 4 = .ok (.aload_n 0, 1) := by decide +kernel
theorem dX5_inventions_5 : decode cX5_inventions 5 = .ok (.getfield 33, 3) := by decide +kernel
theorem dX5_inventions_8 : decode cX5_inventions 8 = .ok (.aload_n 0, 1) := by decide +kernel
theorem dX5_inventions_9 : decode cX5_inventions 9 = .ok (.getfield 10, 3) := by decide +kernel
theorem dX5_inventions_12 : decode cX5_inventions 12 = .ok (.iload_n 1, 1) := by decide +kernel
theorem dX5_inventions_13 : decode cX5_inventions 13 = .ok (.invokevirtual 170, 3) := by decide +kernel
theorem dX5_inventions_16 : decode cX5_inventions 16 = .ok (.ireturn, 1) := by decide +kernel
theorem dX5_invented_0 : decode cX5_invented 0 = .ok (.iload_n 1, 1) := by decide +kernel
theorem dX5_invented_1 : decode cX5_invented 1 = .ok (.invokestatic 115, 3) := by decide +kernel
theorem dX5_invented_4 : decode cX5_invented 4 = .ok (.iload_n 2, 1) := by decide +kernel
theorem dX5_invented_5 : decode cX5_invented 5 = .ok (.ifCond .lt 8, 3) := by decide +kernel
theorem dX5_invented_8 : decode cX5_invented 8 = .ok (.iload_n 2, 1) := by decide +kernel
theorem dX5_invented_9 : decode cX5_invented 9 = .ok (.iconst 2, 1) := by decide +kernel
theorem dX5_invented_10 : decode cX5_invented 10 = .ok (.if_icmp .le 13, 3) := by decide +kernel
theorem dX5_invented_13 : decode cX5_invented 13 = .ok (.new 53, 3) := by decide +kernel
theorem dX5_invented_16 : decode cX5_invented 16 = .ok (.dup, 1) := by decide +kernel
theorem dX5_invented_17 : decode cX5_invented 17 = .ok (.ldc 174, 2) := by decide +kernel
theorem dX5_invented_19 : decode cX5_invented 19 = .ok (.invokespecial 57, 3) := by decide +kernel
theorem dX5_invented_22 : decode cX5_invented 22 = .ok (.athrow, 1) := by decide +kernel
theorem dX5_invented_23 : decode cX5_invented 23 = .ok (.aload_n 0, 1) := by decide +kernel
theorem dX5_invented_24 : decode cX5_invented 24 = .ok (.getfield 33, 3) := by decide +kernel
theorem dX5_invented_27 : decode cX5_invented 27 = .ok (.aload_n 0, 1) := by decide +kernel
theorem dX5_invented_28 : decode cX5_invented 28 = .ok (.getfield 10, 3) := by decide +kernel
theorem dX5_invented_31 : decode cX5_invented 31 = .ok (.iload_n 1, 1) := by decide +kernel
theorem dX5_invented_32 : decode cX5_invented 32 = .ok (.invokevirtual 170, 3) := by decide +kernel
theorem dX5_invented_35 : decode cX5_invented 35 = .ok (.iconst (-1), 1) := by decide +kernel
theorem dX5_invented_36 : decode cX5_invented 36 = .ok (.if_icmp .ne 5, 3) := by decide +kernel
theorem dX5_invented_39 : decode cX5_invented 39 = .ok (.iconst (-1), 1) := by decide +kernel
theorem dX5_invented_40 : decode cX5_invented 40 = .ok (.ireturn, 1) := by decide +kernel
theorem dX5_invented_41 : decode cX5_invented 41 = .ok (.iload_n 2, 1) := by decide +kernel
theorem dX5_invented_42 : decode cX5_invented 42 = .ok (.ifCond .ne 13, 3) := by decide +kernel
theorem dX5_invented_45 : decode cX5_invented 45 = .ok (.aload_n 0, 1) := by decide +kernel
theorem dX5_invented_46 : decode cX5_invented 46 = .ok (.getfield 33, 3) := by decide +kernel
theorem dX5_invented_49 : decode cX5_invented 49 = .ok (.getfield 176, 3) := by decide +kernel
theorem dX5_invented_52 : decode cX5_invented 52 = .ok (.goto 25, 3) := by decide +kernel
theorem dX5_invented_55 : decode cX5_invented 55 = .ok (.iload_n 2, 1) := by decide +kernel
theorem dX5_invented_56 : decode cX5_invented 56 = .ok (.iconst 1, 1) := by decide +kernel
theorem dX5_invented_57 : decode cX5_invented 57 = .ok (.if_icmp .ne 13, 3) := by decide +kernel
theorem dX5_invented_60 : decode cX5_invented 60 = .ok (.aload_n 0, 1) := by decide +kernel
theorem dX5_invented_61 : decode cX5_invented 61 = .ok (.getfield 33, 3) := by decide +kernel
theorem dX5_invented_64 : decode cX5_invented 64 = .ok (.getfield 180, 3) := by decide +kernel
theorem dX5_invented_67 : decode cX5_invented 67 = .ok (.goto 10, 3) := by decide +kernel
theorem dX5_invented_70 : decode cX5_invented 70 = .ok (.aload_n 0, 1) := by decide +kernel
theorem dX5_invented_71 : decode cX5_invented 71 = .ok (.getfield 33, 3) := by decide +kernel
theorem dX5_invented_74 : decode cX5_invented 74 = .ok (.getfield 183, 3) := by decide +kernel
theorem dX5_invented_77 : decode cX5_invented 77 = .ok (.ireturn, 1) := by decide +kernel
theorem dX5_choices_0 : decode cX5_choices 0 = .ok (.iload_n 1, 1) := by decide +kernel
theorem dX5_choices_1 : decode cX5_choices 1 = .ok (.invokestatic 115, 3) := by decide +kernel
theorem dX5_choices_4 : decode cX5_choices 4 = .ok (.aload_n 0, 1) := by decide +kernel
theorem dX5_choices_5 : decode cX5_choices 5 = .ok (.getfield 33, 3) := by decide +kernel
theorem dX5_choices_8 : decode cX5_choices 8 = .ok (.aload_n 0, 1) := by decide +kernel
theorem dX5_choices_9 : decode cX5_choices 9 = .ok (.getfield 10, 3) := by decide +kernel
theorem dX5_choices_12 : decode cX5_choices 12 = .ok (.iload_n 1, 1) := by decide +kernel
theorem dX5_choices_13 : decode cX5_choices 13 = .ok (.invokevirtual 170, 3) := by decide +kernel
theorem dX5_choices_16 : decode cX5_choices 16 = .ok (.iconst (-1), 1) := by decide +kernel
theorem dX5_choices_17 : decode cX5_choices 17 = .ok (.if_icmp .ne 7, 3) := by decide +kernel
theorem dX5_choices_20 : decode cX5_choices 20 = .ok (.iconst (-1), 1) := by decide +kernel
theorem dX5_choices_21 : decode cX5_choices 21 = .ok (.goto 10, 3) := by decide +kernel
theorem dX5_choices_24 : decode cX5_choices 24 = .ok (.aload_n 0, 1) := by decide +kernel
theorem dX5_choices_25 : decode cX5_choices 25 = .ok (.getfield 33, 3) := by decide +kernel
theorem dX5_choices_28 : decode cX5_choices 28 = .ok (.getfield 186, 3) := by decide +kernel
theorem dX5_choices_31 : decode cX5_choices 31 = .ok (.ireturn, 1) := by decide +kernel
theorem dX5_since_0 : decode cX5_since 0 = .ok (.aload_n 0, 1) := by decide +kernel
theorem dX5_since_1 : decode cX5_since 1 = .ok (.iload_n 1, 1) := by decide +kernel
theorem dX5_since_2 : decode cX5_since 2 = .ok (.invokevirtual 101, 3) := by decide +kernel
theorem dX5_since_5 : decode cX5_since 5 = .ok (.iload_n 2, 1) := by decide +kernel
theorem dX5_since_6 : decode cX5_since 6 = .ok (.invokestatic 115, 3) := by decide +kernel
theorem dX5_since_9 : decode cX5_since 9 = .ok (.aload_n 0, 1) := by decide +kernel
theorem dX5_since_10 : decode cX5_since 10 = .ok (.getfield 33, 3) := by decide +kernel
theorem dX5_since_13 : decode cX5_since 13 = .ok (.aload_n 0, 1) := by decide +kernel
theorem dX5_since_14 : decode cX5_since 14 = .ok (.getfield 10, 3) := by decide +kernel
theorem dX5_since_17 : decode cX5_since 17 = .ok (.iload_n 1, 1) := by decide +kernel
theorem dX5_since_18 : decode cX5_since 18 = .ok (.iload_n 2, 1) := by decide +kernel
theorem dX5_since_19 : decode cX5_since 19 = .ok (.invokevirtual 189, 3) := by decide +kernel
theorem dX5_since_22 : decode cX5_since 22 = .ok (.ireturn, 1) := by decide +kernel
theorem dX5_reached_0 : decode cX5_reached 0 = .ok (.iload_n 1, 1) := by decide +kernel
theorem dX5_reached_1 : decode cX5_reached 1 = .ok (.invokestatic 115, 3) := by decide +kernel
theorem dX5_reached_4 : decode cX5_reached 4 = .ok (.iload_n 2, 1) := by decide +kernel
theorem dX5_reached_5 : decode cX5_reached 5 = .ok (.invokestatic 109, 3) := by decide +kernel
theorem dX5_reached_8 : decode cX5_reached 8 = .ok (.aload_n 0, 1) := by decide +kernel
theorem dX5_reached_9 : decode cX5_reached 9 = .ok (.getfield 33, 3) := by decide +kernel
theorem dX5_reached_12 : decode cX5_reached 12 = .ok (.aload_n 0, 1) := by decide +kernel
theorem dX5_reached_13 : decode cX5_reached 13 = .ok (.getfield 10, 3) := by decide +kernel
theorem dX5_reached_16 : decode cX5_reached 16 = .ok (.iload_n 1, 1) := by decide +kernel
theorem dX5_reached_17 : decode cX5_reached 17 = .ok (.iload_n 2, 1) := by decide +kernel
theorem dX5_reached_18 : decode cX5_reached 18 = .ok (.invokevirtual 193, 3) := by decide +kernel
theorem dX5_reached_21 : decode cX5_reached 21 = .ok (.ireturn, 1) := by decide +kernel
theorem dX5_passed_0 : decode cX5_passed 0 = .ok (.aload_n 0, 1) := by decide +kernel
theorem dX5_passed_1 : decode cX5_passed 1 = .ok (.iload_n 1, 1) := by decide +kernel
theorem dX5_passed_2 : decode cX5_passed 2 = .ok (.invokevirtual 101, 3) := by decide +kernel
theorem dX5_passed_5 : decode cX5_passed 5 = .ok (.aload_n 0, 1) := by decide +kernel
theorem dX5_passed_6 : decode cX5_passed 6 = .ok (.iload_n 2, 1) := by decide +kernel
theorem dX5_passed_7 : decode cX5_passed 7 = .ok (.invokevirtual 101, 3) := by decide +kernel
theorem dX5_passed_10 : decode cX5_passed 10 = .ok (.iload_n 3, 1) := by decide +kernel
theorem dX5_passed_11 : decode cX5_passed 11 = .ok (.invokestatic 115, 3) := by decide +kernel
theorem dX5_passed_14 : decode cX5_passed 14 = .ok (.aload_n 0, 1) := by decide +kernel
theorem dX5_passed_15 : decode cX5_passed 15 = .ok (.getfield 33, 3) := by decide +kernel
theorem dX5_passed_18 : decode cX5_passed 18 = .ok (.aload_n 0, 1) := by decide +kernel
theorem dX5_passed_19 : decode cX5_passed 19 = .ok (.getfield 10, 3) := by decide +kernel
theorem dX5_passed_22 : decode cX5_passed 22 = .ok (.iload_n 1, 1) := by decide +kernel
theorem dX5_passed_23 : decode cX5_passed 23 = .ok (.iload_n 2, 1) := by decide +kernel
theorem dX5_passed_24 : decode cX5_passed 24 = .ok (.iload_n 3, 1) := by decide +kernel
theorem dX5_passed_25 : decode cX5_passed 25 = .ok (.invokevirtual 196, 3) := by decide +kernel
theorem dX5_passed_28 : decode cX5_passed 28 = .ok (.ifCond .eq 7, 3) := by decide +kernel
theorem dX5_passed_31 : decode cX5_passed 31 = .ok (.iconst 1, 1) := by decide +kernel
theorem dX5_passed_32 : decode cX5_passed 32 = .ok (.goto 4, 3) := by decide +kernel
theorem dX5_passed_35 : decode cX5_passed 35 = .ok (.iconst 0, 1) := by decide +kernel
theorem dX5_passed_36 : decode cX5_passed 36 = .ok (.ireturn, 1) := by decide +kernel
theorem dX5_ifLaid_0 : decode cX5_ifLaid 0 = .ok (.aload_n 0, 1) := by decide +kernel
theorem dX5_ifLaid_1 : decode cX5_ifLaid 1 = .ok (.iload_n 1, 1) := by decide +kernel
theorem dX5_ifLaid_2 : decode cX5_ifLaid 2 = .ok (.iload_n 2, 1) := by decide +kernel
theorem dX5_ifLaid_3 : decode cX5_ifLaid 3 = .ok (.iload_n 3, 1) := by decide +kernel
theorem dX5_ifLaid_4 : decode cX5_ifLaid 4 = .ok (.invokevirtual 131, 3) := by decide +kernel
theorem dX5_ifLaid_7 : decode cX5_ifLaid 7 = .ok (.aload_n 0, 1) := by decide +kernel
theorem dX5_ifLaid_8 : decode cX5_ifLaid 8 = .ok (.getfield 40, 3) := by decide +kernel
theorem dX5_ifLaid_11 : decode cX5_ifLaid 11 = .ok (.aload_n 0, 1) := by decide +kernel
theorem dX5_ifLaid_12 : decode cX5_ifLaid 12 = .ok (.getfield 10, 3) := by decide +kernel
theorem dX5_ifLaid_15 : decode cX5_ifLaid 15 = .ok (.invokevirtual 200, 3) := by decide +kernel
theorem dX5_ifLaid_18 : decode cX5_ifLaid 18 = .ok (.aload_n 0, 1) := by decide +kernel
theorem dX5_ifLaid_19 : decode cX5_ifLaid 19 = .ok (.getfield 40, 3) := by decide +kernel
theorem dX5_ifLaid_22 : decode cX5_ifLaid 22 = .ok (.iload_n 1, 1) := by decide +kernel
theorem dX5_ifLaid_23 : decode cX5_ifLaid 23 = .ok (.iload_n 2, 1) := by decide +kernel
theorem dX5_ifLaid_24 : decode cX5_ifLaid 24 = .ok (.iload_n 3, 1) := by decide +kernel
theorem dX5_ifLaid_25 : decode cX5_ifLaid 25 = .ok (.invokevirtual 203, 3) := by decide +kernel
theorem dX5_ifLaid_28 : decode cX5_ifLaid 28 = .ok (.ireturn, 1) := by decide +kernel
theorem dX5_bestRoad_0 : decode cX5_bestRoad 0 = .ok (.iload_n 1, 1) := by decide +kernel
theorem dX5_bestRoad_1 : decode cX5_bestRoad 1 = .ok (.invokestatic 207, 3) := by decide +kernel
theorem dX5_bestRoad_4 : decode cX5_bestRoad 4 = .ok (.ifCond .ne 13, 3) := by decide +kernel
theorem dX5_bestRoad_7 : decode cX5_bestRoad 7 = .ok (.new 53, 3) := by decide +kernel
theorem dX5_bestRoad_10 : decode cX5_bestRoad 10 = .ok (.dup, 1) := by decide +kernel
theorem dX5_bestRoad_11 : decode cX5_bestRoad 11 = .ok (.ldc 210, 2) := by decide +kernel
theorem dX5_bestRoad_13 : decode cX5_bestRoad 13 = .ok (.invokespecial 57, 3) := by decide +kernel
theorem dX5_bestRoad_16 : decode cX5_bestRoad 16 = .ok (.athrow, 1) := by decide +kernel
theorem dX5_bestRoad_17 : decode cX5_bestRoad 17 = .ok (.aload_n 0, 1) := by decide +kernel
theorem dX5_bestRoad_18 : decode cX5_bestRoad 18 = .ok (.getfield 40, 3) := by decide +kernel
theorem dX5_bestRoad_21 : decode cX5_bestRoad 21 = .ok (.aload_n 0, 1) := by decide +kernel
theorem dX5_bestRoad_22 : decode cX5_bestRoad 22 = .ok (.getfield 10, 3) := by decide +kernel
theorem dX5_bestRoad_25 : decode cX5_bestRoad 25 = .ok (.invokevirtual 200, 3) := by decide +kernel
theorem dX5_bestRoad_28 : decode cX5_bestRoad 28 = .ok (.aload_n 0, 1) := by decide +kernel
theorem dX5_bestRoad_29 : decode cX5_bestRoad 29 = .ok (.getfield 40, 3) := by decide +kernel
theorem dX5_bestRoad_32 : decode cX5_bestRoad 32 = .ok (.iload_n 1, 1) := by decide +kernel
theorem dX5_bestRoad_33 : decode cX5_bestRoad 33 = .ok (.invokevirtual 212, 3) := by decide +kernel
theorem dX5_bestRoad_36 : decode cX5_bestRoad 36 = .ok (.ireturn, 1) := by decide +kernel
theorem dX5_dearest_0 : decode cX5_dearest 0 = .ok (.aload_n 0, 1) := by decide +kernel
theorem dX5_dearest_1 : decode cX5_dearest 1 = .ok (.getfield 40, 3) := by decide +kernel
theorem dX5_dearest_4 : decode cX5_dearest 4 = .ok (.aload_n 0, 1) := by decide +kernel
theorem dX5_dearest_5 : decode cX5_dearest 5 = .ok (.getfield 10, 3) := by decide +kernel
theorem dX5_dearest_8 : decode cX5_dearest 8 = .ok (.invokevirtual 200, 3) := by decide +kernel
theorem dX5_dearest_11 : decode cX5_dearest 11 = .ok (.aload_n 0, 1) := by decide +kernel
theorem dX5_dearest_12 : decode cX5_dearest 12 = .ok (.getfield 40, 3) := by decide +kernel
theorem dX5_dearest_15 : decode cX5_dearest 15 = .ok (.invokevirtual 215, 3) := by decide +kernel
theorem dX5_dearest_18 : decode cX5_dearest 18 = .ok (.ireturn, 1) := by decide +kernel
theorem dX5_runScript_0 : decode cX5_runScript 0 = .ok (.iload_n 1, 1) := by decide +kernel
theorem dX5_runScript_1 : decode cX5_runScript 1 = .ok (.iconst 1, 1) := by decide +kernel
theorem dX5_runScript_2 : decode cX5_runScript 2 = .ok (.if_icmp .lt 8, 3) := by decide +kernel
theorem dX5_runScript_5 : decode cX5_runScript 5 = .ok (.iload_n 1, 1) := by decide +kernel
theorem dX5_runScript_6 : decode cX5_runScript 6 = .ok (.iconst 3, 1) := by decide +kernel
theorem dX5_runScript_7 : decode cX5_runScript 7 = .ok (.if_icmp .le 13, 3) := by decide +kernel
theorem dX5_runScript_10 : decode cX5_runScript 10 = .ok (.new 53, 3) := by decide +kernel
theorem dX5_runScript_13 : decode cX5_runScript 13 = .ok (.dup, 1) := by decide +kernel
theorem dX5_runScript_14 : decode cX5_runScript 14 = .ok (.ldc 218, 2) := by decide +kernel
theorem dX5_runScript_16 : decode cX5_runScript 16 = .ok (.invokespecial 57, 3) := by decide +kernel
theorem dX5_runScript_19 : decode cX5_runScript 19 = .ok (.athrow, 1) := by decide +kernel
theorem dX5_runScript_20 : decode cX5_runScript 20 = .ok (.lconst 1, 1) := by decide +kernel
theorem dX5_runScript_21 : decode cX5_runScript 21 = .ok (.lstore 4, 2) := by decide +kernel
theorem dX5_runScript_23 : decode cX5_runScript 23 = .ok (.iconst 0, 1) := by decide +kernel
theorem dX5_runScript_24 : decode cX5_runScript 24 = .ok (.istore 6, 2) := by decide +kernel
theorem dX5_runScript_26 : decode cX5_runScript 26 = .ok (.iload 6, 2) := by decide +kernel
theorem dX5_runScript_28 : decode cX5_runScript 28 = .ok (.iload_n 1, 1) := by decide +kernel
theorem dX5_runScript_29 : decode cX5_runScript 29 = .ok (.if_icmp .ge 17, 3) := by decide +kernel
theorem dX5_runScript_32 : decode cX5_runScript 32 = .ok (.lload 4, 2) := by decide +kernel
theorem dX5_runScript_34 : decode cX5_runScript 34 = .ok (.ldc2_w 220, 3) := by decide +kernel
theorem dX5_runScript_37 : decode cX5_runScript 37 = .ok (.lmul, 1) := by decide +kernel
theorem dX5_runScript_38 : decode cX5_runScript 38 = .ok (.lstore 4, 2) := by decide +kernel
theorem dX5_runScript_40 : decode cX5_runScript 40 = .ok (.iinc 6 1, 3) := by decide +kernel
theorem dX5_runScript_43 : decode cX5_runScript 43 = .ok (.goto (-17), 3) := by decide +kernel
theorem dX5_runScript_46 : decode cX5_runScript 46 = .ok (.lload_n 2, 1) := by decide +kernel
theorem dX5_runScript_47 : decode cX5_runScript 47 = .ok (.lconst 0, 1) := by decide +kernel
theorem dX5_runScript_48 : decode cX5_runScript 48 = .ok (.lcmp, 1) := by decide +kernel
theorem dX5_runScript_49 : decode cX5_runScript 49 = .ok (.ifCond .lt 10, 3) := by decide +kernel
theorem dX5_runScript_52 : decode cX5_runScript 52 = .ok (.lload_n 2, 1) := by decide +kernel
theorem dX5_runScript_53 : decode cX5_runScript 53 = .ok (.lload 4, 2) := by decide +kernel
theorem dX5_runScript_55 : decode cX5_runScript 55 = .ok (.lcmp, 1) := by decide +kernel
theorem dX5_runScript_56 : decode cX5_runScript 56 = .ok (.ifCond .lt 13, 3) := by decide +kernel
theorem dX5_runScript_59 : decode cX5_runScript 59 = .ok (.new 53, 3) := by decide +kernel
theorem dX5_runScript_62 : decode cX5_runScript 62 = .ok (.dup, 1) := by decide +kernel
theorem dX5_runScript_63 : decode cX5_runScript 63 = .ok (.ldc 222, 2) := by decide +kernel
theorem dX5_runScript_65 : decode cX5_runScript 65 = .ok (.invokespecial 57, 3) := by decide +kernel
theorem dX5_runScript_68 : decode cX5_runScript 68 = .ok (.athrow, 1) := by decide +kernel
theorem dX5_runScript_69 : decode cX5_runScript 69 = .ok (.aload_n 0, 1) := by decide +kernel
theorem dX5_runScript_70 : decode cX5_runScript 70 = .ok (.getfield 40, 3) := by decide +kernel
theorem dX5_runScript_73 : decode cX5_runScript 73 = .ok (.aload_n 0, 1) := by decide +kernel
theorem dX5_runScript_74 : decode cX5_runScript 74 = .ok (.getfield 10, 3) := by decide +kernel
theorem dX5_runScript_77 : decode cX5_runScript 77 = .ok (.invokevirtual 200, 3) := by decide +kernel
theorem dX5_runScript_80 : decode cX5_runScript 80 = .ok (.iconst 0, 1) := by decide +kernel
theorem dX5_runScript_81 : decode cX5_runScript 81 = .ok (.istore 6, 2) := by decide +kernel
theorem dX5_runScript_83 : decode cX5_runScript 83 = .ok (.iload 6, 2) := by decide +kernel
theorem dX5_runScript_85 : decode cX5_runScript 85 = .ok (.iload_n 1, 1) := by decide +kernel
theorem dX5_runScript_86 : decode cX5_runScript 86 = .ok (.if_icmp .ge 46, 3) := by decide +kernel
theorem dX5_runScript_89 : decode cX5_runScript 89 = .ok (.lload 4, 2) := by decide +kernel
theorem dX5_runScript_91 : decode cX5_runScript 91 = .ok (.ldc2_w 220, 3) := by decide +kernel
theorem dX5_runScript_94 : decode cX5_runScript 94 = .ok (.ldiv, 1) := by decide +kernel
theorem dX5_runScript_95 : decode cX5_runScript 95 = .ok (.lstore 4, 2) := by decide +kernel
theorem dX5_runScript_97 : decode cX5_runScript 97 = .ok (.lload 4, 2) := by decide +kernel
theorem dX5_runScript_99 : decode cX5_runScript 99 = .ok (.lconst 1, 1) := by decide +kernel
theorem dX5_runScript_100 : decode cX5_runScript 100 = .ok (.lcmp, 1) := by decide +kernel
theorem dX5_runScript_101 : decode cX5_runScript 101 = .ok (.ifCond .lt 22, 3) := by decide +kernel
theorem dX5_runScript_104 : decode cX5_runScript 104 = .ok (.aload_n 0, 1) := by decide +kernel
theorem dX5_runScript_105 : decode cX5_runScript 105 = .ok (.getfield 40, 3) := by decide +kernel
theorem dX5_runScript_108 : decode cX5_runScript 108 = .ok (.lload_n 2, 1) := by decide +kernel
theorem dX5_runScript_109 : decode cX5_runScript 109 = .ok (.lload 4, 2) := by decide +kernel
theorem dX5_runScript_111 : decode cX5_runScript 111 = .ok (.ldiv, 1) := by decide +kernel
theorem dX5_runScript_112 : decode cX5_runScript 112 = .ok (.ldc2_w 220, 3) := by decide +kernel
theorem dX5_runScript_115 : decode cX5_runScript 115 = .ok (.lrem, 1) := by decide +kernel
theorem dX5_runScript_116 : decode cX5_runScript 116 = .ok (.l2i, 1) := by decide +kernel
theorem dX5_runScript_117 : decode cX5_runScript 117 = .ok (.invokevirtual 224, 3) := by decide +kernel
theorem dX5_runScript_120 : decode cX5_runScript 120 = .ok (.ifCond .ne 6, 3) := by decide +kernel
theorem dX5_runScript_123 : decode cX5_runScript 123 = .ok (.iload 6, 2) := by decide +kernel
theorem dX5_runScript_125 : decode cX5_runScript 125 = .ok (.ireturn, 1) := by decide +kernel
theorem dX5_runScript_126 : decode cX5_runScript 126 = .ok (.iinc 6 1, 3) := by decide +kernel
theorem dX5_runScript_129 : decode cX5_runScript 129 = .ok (.goto (-46), 3) := by decide +kernel
theorem dX5_runScript_132 : decode cX5_runScript 132 = .ok (.iconst (-1), 1) := by decide +kernel
theorem dX5_runScript_133 : decode cX5_runScript 133 = .ok (.ireturn, 1) := by decide +kernel
theorem dX5_simulate_0 : decode cX5_simulate 0 = .ok (.iload_n 3, 1) := by decide +kernel
theorem dX5_simulate_1 : decode cX5_simulate 1 = .ok (.iconst 1, 1) := by decide +kernel
theorem dX5_simulate_2 : decode cX5_simulate 2 = .ok (.if_icmp .lt 9, 3) := by decide +kernel
theorem dX5_simulate_5 : decode cX5_simulate 5 = .ok (.iload_n 3, 1) := by decide +kernel
theorem dX5_simulate_6 : decode cX5_simulate 6 = .ok (.bipush 99, 2) := by decide +kernel
theorem dX5_simulate_8 : decode cX5_simulate 8 = .ok (.if_icmp .le 13, 3) := by decide +kernel
theorem dX5_simulate_11 : decode cX5_simulate 11 = .ok (.new 53, 3) := by decide +kernel
theorem dX5_simulate_14 : decode cX5_simulate 14 = .ok (.dup, 1) := by decide +kernel
theorem dX5_simulate_15 : decode cX5_simulate 15 = .ok (.ldc 227, 2) := by decide +kernel
theorem dX5_simulate_17 : decode cX5_simulate 17 = .ok (.invokespecial 57, 3) := by decide +kernel
theorem dX5_simulate_20 : decode cX5_simulate 20 = .ok (.athrow, 1) := by decide +kernel
theorem dX5_simulate_21 : decode cX5_simulate 21 = .ok (.aload_n 0, 1) := by decide +kernel
theorem dX5_simulate_22 : decode cX5_simulate 22 = .ok (.getfield 40, 3) := by decide +kernel
theorem dX5_simulate_25 : decode cX5_simulate 25 = .ok (.aload_n 0, 1) := by decide +kernel
theorem dX5_simulate_26 : decode cX5_simulate 26 = .ok (.getfield 10, 3) := by decide +kernel
theorem dX5_simulate_29 : decode cX5_simulate 29 = .ok (.invokevirtual 200, 3) := by decide +kernel
theorem dX5_simulate_32 : decode cX5_simulate 32 = .ok (.lload_n 1, 1) := by decide +kernel
theorem dX5_simulate_33 : decode cX5_simulate 33 = .ok (.lstore 4, 2) := by decide +kernel
theorem dX5_simulate_35 : decode cX5_simulate 35 = .ok (.iconst 0, 1) := by decide +kernel
theorem dX5_simulate_36 : decode cX5_simulate 36 = .ok (.istore 6, 2) := by decide +kernel
theorem dX5_simulate_38 : decode cX5_simulate 38 = .ok (.iload 6, 2) := by decide +kernel
theorem dX5_simulate_40 : decode cX5_simulate 40 = .ok (.iload_n 3, 1) := by decide +kernel
theorem dX5_simulate_41 : decode cX5_simulate 41 = .ok (.if_icmp .ge 34, 3) := by decide +kernel
theorem dX5_simulate_44 : decode cX5_simulate 44 = .ok (.lload 4, 2) := by decide +kernel
theorem dX5_simulate_46 : decode cX5_simulate 46 = .ok (.ldc2_w 229, 3) := by decide +kernel
theorem dX5_simulate_49 : decode cX5_simulate 49 = .ok (.lmul, 1) := by decide +kernel
theorem dX5_simulate_50 : decode cX5_simulate 50 = .ok (.ldc2_w 231, 3) := by decide +kernel
theorem dX5_simulate_53 : decode cX5_simulate 53 = .ok (.ladd, 1) := by decide +kernel
theorem dX5_simulate_54 : decode cX5_simulate 54 = .ok (.lstore 4, 2) := by decide +kernel
theorem dX5_simulate_56 : decode cX5_simulate 56 = .ok (.aload_n 0, 1) := by decide +kernel
theorem dX5_simulate_57 : decode cX5_simulate 57 = .ok (.getfield 40, 3) := by decide +kernel
theorem dX5_simulate_60 : decode cX5_simulate 60 = .ok (.lload 4, 2) := by decide +kernel
theorem dX5_simulate_62 : decode cX5_simulate 62 = .ok (.bipush 33, 2) := by decide +kernel
theorem dX5_simulate_64 : decode cX5_simulate 64 = .ok (.lushr, 1) := by decide +kernel
theorem dX5_simulate_65 : decode cX5_simulate 65 = .ok (.l2i, 1) := by decide +kernel
theorem dX5_simulate_66 : decode cX5_simulate 66 = .ok (.invokevirtual 233, 3) := by decide +kernel
theorem dX5_simulate_69 : decode cX5_simulate 69 = .ok (.iinc 6 1, 3) := by decide +kernel
theorem dX5_simulate_72 : decode cX5_simulate 72 = .ok (.goto (-34), 3) := by decide +kernel
theorem dX5_simulate_75 : decode cX5_simulate 75 = .ok (.aload_n 0, 1) := by decide +kernel
theorem dX5_simulate_76 : decode cX5_simulate 76 = .ok (.getfield 40, 3) := by decide +kernel
theorem dX5_simulate_79 : decode cX5_simulate 79 = .ok (.invokevirtual 236, 3) := by decide +kernel
theorem dX5_simulate_82 : decode cX5_simulate 82 = .ok (.ireturn, 1) := by decide +kernel
theorem dX5_save_0 : decode cX5_save 0 = .ok (.iload_n 1, 1) := by decide +kernel
theorem dX5_save_1 : decode cX5_save 1 = .ok (.invokestatic 239, 3) := by decide +kernel
theorem dX5_save_4 : decode cX5_save 4 = .ok (.aload_n 0, 1) := by decide +kernel
theorem dX5_save_5 : decode cX5_save 5 = .ok (.getfield 10, 3) := by decide +kernel
theorem dX5_save_8 : decode cX5_save 8 = .ok (.aload_n 0, 1) := by decide +kernel
theorem dX5_save_9 : decode cX5_save 9 = .ok (.getfield 46, 3) := by decide +kernel
theorem dX5_save_12 : decode cX5_save 12 = .ok (.iload_n 1, 1) := by decide +kernel
theorem dX5_save_13 : decode cX5_save 13 = .ok (.aaload, 1) := by decide +kernel
theorem dX5_save_14 : decode cX5_save 14 = .ok (.invokevirtual 242, 3) := by decide +kernel
theorem dX5_save_17 : decode cX5_save 17 = .ok (.aload_n 0, 1) := by decide +kernel
theorem dX5_save_18 : decode cX5_save 18 = .ok (.getfield 49, 3) := by decide +kernel
theorem dX5_save_21 : decode cX5_save 21 = .ok (.iload_n 1, 1) := by decide +kernel
theorem dX5_save_22 : decode cX5_save 22 = .ok (.iconst 1, 1) := by decide +kernel
theorem dX5_save_23 : decode cX5_save 23 = .ok (.bastore, 1) := by decide +kernel
theorem dX5_save_24 : decode cX5_save 24 = .ok (.aload_n 0, 1) := by decide +kernel
theorem dX5_save_25 : decode cX5_save 25 = .ok (.getfield 10, 3) := by decide +kernel
theorem dX5_save_28 : decode cX5_save 28 = .ok (.invokevirtual 80, 3) := by decide +kernel
theorem dX5_save_31 : decode cX5_save 31 = .ok (.ireturn, 1) := by decide +kernel
theorem dX5_restore_0 : decode cX5_restore 0 = .ok (.iload_n 1, 1) := by decide +kernel
theorem dX5_restore_1 : decode cX5_restore 1 = .ok (.invokestatic 239, 3) := by decide +kernel
theorem dX5_restore_4 : decode cX5_restore 4 = .ok (.aload_n 0, 1) := by decide +kernel
theorem dX5_restore_5 : decode cX5_restore 5 = .ok (.getfield 49, 3) := by decide +kernel
theorem dX5_restore_8 : decode cX5_restore 8 = .ok (.iload_n 1, 1) := by decide +kernel
theorem dX5_restore_9 : decode cX5_restore 9 = .ok (.baload, 1) := by decide +kernel
theorem dX5_restore_10 : decode cX5_restore 10 = .ok (.ifCond .ne 13, 3) := by decide +kernel
theorem dX5_restore_13 : decode cX5_restore 13 = .ok (.new 64, 3) := by decide +kernel
theorem dX5_restore_16 : decode cX5_restore 16 = .ok (.dup, 1) := by decide +kernel
theorem dX5_restore_17 : decode cX5_restore 17 = .ok (.ldc 246, 2) := by decide +kernel
theorem dX5_restore_19 : decode cX5_restore 19 = .ok (.invokespecial 68, 3) := by decide +kernel
theorem dX5_restore_22 : decode cX5_restore 22 = .ok (.athrow, 1) := by decide +kernel
theorem dX5_restore_23 : decode cX5_restore 23 = .ok (.aload_n 0, 1) := by decide +kernel
theorem dX5_restore_24 : decode cX5_restore 24 = .ok (.getfield 10, 3) := by decide +kernel
theorem dX5_restore_27 : decode cX5_restore 27 = .ok (.aload_n 0, 1) := by decide +kernel
theorem dX5_restore_28 : decode cX5_restore 28 = .ok (.getfield 46, 3) := by decide +kernel
theorem dX5_restore_31 : decode cX5_restore 31 = .ok (.iload_n 1, 1) := by decide +kernel
theorem dX5_restore_32 : decode cX5_restore 32 = .ok (.aaload, 1) := by decide +kernel
theorem dX5_restore_33 : decode cX5_restore 33 = .ok (.invokevirtual 248, 3) := by decide +kernel
theorem dX5_restore_36 : decode cX5_restore 36 = .ok (.aload_n 0, 1) := by decide +kernel
theorem dX5_restore_37 : decode cX5_restore 37 = .ok (.getfield 19, 3) := by decide +kernel
theorem dX5_restore_40 : decode cX5_restore 40 = .ok (.invokevirtual 251, 3) := by decide +kernel
theorem dX5_restore_43 : decode cX5_restore 43 = .ok (.aload_n 0, 1) := by decide +kernel
theorem dX5_restore_44 : decode cX5_restore 44 = .ok (.getfield 10, 3) := by decide +kernel
theorem dX5_restore_47 : decode cX5_restore 47 = .ok (.invokevirtual 80, 3) := by decide +kernel
theorem dX5_restore_50 : decode cX5_restore 50 = .ok (.ireturn, 1) := by decide +kernel
theorem dX5_needTown_0 : decode cX5_needTown 0 = .ok (.aload_n 0, 1) := by decide +kernel
theorem dX5_needTown_1 : decode cX5_needTown 1 = .ok (.getfield 10, 3) := by decide +kernel
theorem dX5_needTown_4 : decode cX5_needTown 4 = .ok (.iload_n 1, 1) := by decide +kernel
theorem dX5_needTown_5 : decode cX5_needTown 5 = .ok (.invokevirtual 254, 3) := by decide +kernel
theorem dX5_needTown_8 : decode cX5_needTown 8 = .ok (.ifCond .ne 14, 3) := by decide +kernel
theorem dX5_needTown_11 : decode cX5_needTown 11 = .ok (.new 257, 3) := by decide +kernel
theorem dX5_needTown_14 : decode cX5_needTown 14 = .ok (.dup, 1) := by decide +kernel
theorem dX5_needTown_15 : decode cX5_needTown 15 = .ok (.ldc_w 259, 3) := by decide +kernel
theorem dX5_needTown_18 : decode cX5_needTown 18 = .ok (.invokespecial 261, 3) := by decide +kernel
theorem dX5_needTown_21 : decode cX5_needTown 21 = .ok (.athrow, 1) := by decide +kernel
theorem dX5_needTown_22 : decode cX5_needTown 22 = .ok (.return_, 1) := by decide +kernel
theorem dX5_needPossibleRoad_0 : decode cX5_needPossibleRoad 0 = .ok (.aload_n 0, 1) := by decide +kernel
theorem dX5_needPossibleRoad_1 : decode cX5_needPossibleRoad 1 = .ok (.iload_n 1, 1) := by decide +kernel
theorem dX5_needPossibleRoad_2 : decode cX5_needPossibleRoad 2 = .ok (.invokevirtual 101, 3) := by decide +kernel
theorem dX5_needPossibleRoad_5 : decode cX5_needPossibleRoad 5 = .ok (.aload_n 0, 1) := by decide +kernel
theorem dX5_needPossibleRoad_6 : decode cX5_needPossibleRoad 6 = .ok (.iload_n 2, 1) := by decide +kernel
theorem dX5_needPossibleRoad_7 : decode cX5_needPossibleRoad 7 = .ok (.invokevirtual 101, 3) := by decide +kernel
theorem dX5_needPossibleRoad_10 : decode cX5_needPossibleRoad 10 = .ok (.iload_n 1, 1) := by decide +kernel
theorem dX5_needPossibleRoad_11 : decode cX5_needPossibleRoad 11 = .ok (.iload_n 2, 1) := by decide +kernel
theorem dX5_needPossibleRoad_12 : decode cX5_needPossibleRoad 12 = .ok (.if_icmp .eq 10, 3) := by decide +kernel
theorem dX5_needPossibleRoad_15 : decode cX5_needPossibleRoad 15 = .ok (.iload_n 3, 1) := by decide +kernel
theorem dX5_needPossibleRoad_16 : decode cX5_needPossibleRoad 16 = .ok (.invokestatic 207, 3) := by decide +kernel
theorem dX5_needPossibleRoad_19 : decode cX5_needPossibleRoad 19 = .ok (.ifCond .ne 14, 3) := by decide +kernel
theorem dX5_needPossibleRoad_22 : decode cX5_needPossibleRoad 22 = .ok (.new 53, 3) := by decide +kernel
theorem dX5_needPossibleRoad_25 : decode cX5_needPossibleRoad 25 = .ok (.dup, 1) := by decide +kernel
theorem dX5_needPossibleRoad_26 : decode cX5_needPossibleRoad 26 = .ok (.ldc_w 262, 3) := by decide +kernel
theorem dX5_needPossibleRoad_29 : decode cX5_needPossibleRoad 29 = .ok (.invokespecial 57, 3) := by decide +kernel
theorem dX5_needPossibleRoad_32 : decode cX5_needPossibleRoad 32 = .ok (.athrow, 1) := by decide +kernel
theorem dX5_needPossibleRoad_33 : decode cX5_needPossibleRoad 33 = .ok (.aload_n 0, 1) := by decide +kernel
theorem dX5_needPossibleRoad_34 : decode cX5_needPossibleRoad 34 = .ok (.getfield 10, 3) := by decide +kernel
theorem dX5_needPossibleRoad_37 : decode cX5_needPossibleRoad 37 = .ok (.iload_n 1, 1) := by decide +kernel
theorem dX5_needPossibleRoad_38 : decode cX5_needPossibleRoad 38 = .ok (.iload_n 2, 1) := by decide +kernel
theorem dX5_needPossibleRoad_39 : decode cX5_needPossibleRoad 39 = .ok (.iload_n 3, 1) := by decide +kernel
theorem dX5_needPossibleRoad_40 : decode cX5_needPossibleRoad 40 = .ok (.invokevirtual 264, 3) := by decide +kernel
theorem dX5_needPossibleRoad_43 : decode cX5_needPossibleRoad 43 = .ok (.ifCond .ne 14, 3) := by decide +kernel
theorem dX5_needPossibleRoad_46 : decode cX5_needPossibleRoad 46 = .ok (.new 64, 3) := by decide +kernel
theorem dX5_needPossibleRoad_49 : decode cX5_needPossibleRoad 49 = .ok (.dup, 1) := by decide +kernel
theorem dX5_needPossibleRoad_50 : decode cX5_needPossibleRoad 50 = .ok (.ldc_w 267, 3) := by decide +kernel
theorem dX5_needPossibleRoad_53 : decode cX5_needPossibleRoad 53 = .ok (.invokespecial 68, 3) := by decide +kernel
theorem dX5_needPossibleRoad_56 : decode cX5_needPossibleRoad 56 = .ok (.athrow, 1) := by decide +kernel
theorem dX5_needPossibleRoad_57 : decode cX5_needPossibleRoad 57 = .ok (.return_, 1) := by decide +kernel
theorem dX5_needTrait_0 : decode cX5_needTrait 0 = .ok (.iload_n 0, 1) := by decide +kernel
theorem dX5_needTrait_1 : decode cX5_needTrait 1 = .ok (.invokestatic 269, 3) := by decide +kernel
theorem dX5_needTrait_4 : decode cX5_needTrait 4 = .ok (.ifCond .ne 14, 3) := by decide +kernel
theorem dX5_needTrait_7 : decode cX5_needTrait 7 = .ok (.new 53, 3) := by decide +kernel
theorem dX5_needTrait_10 : decode cX5_needTrait 10 = .ok (.dup, 1) := by decide +kernel
theorem dX5_needTrait_11 : decode cX5_needTrait 11 = .ok (.ldc_w 272, 3) := by decide +kernel
theorem dX5_needTrait_14 : decode cX5_needTrait 14 = .ok (.invokespecial 57, 3) := by decide +kernel
theorem dX5_needTrait_17 : decode cX5_needTrait 17 = .ok (.athrow, 1) := by decide +kernel
theorem dX5_needTrait_18 : decode cX5_needTrait 18 = .ok (.return_, 1) := by decide +kernel
theorem dX5_needCount_0 : decode cX5_needCount 0 = .ok (.iload_n 0, 1) := by decide +kernel
theorem dX5_needCount_1 : decode cX5_needCount 1 = .ok (.ifCond .ge 14, 3) := by decide +kernel
theorem dX5_needCount_4 : decode cX5_needCount 4 = .ok (.new 53, 3) := by decide +kernel
theorem dX5_needCount_7 : decode cX5_needCount 7 = .ok (.dup, 1) := by decide +kernel
theorem dX5_needCount_8 : decode cX5_needCount 8 = .ok (.ldc_w 274, 3) := by decide +kernel
theorem dX5_needCount_11 : decode cX5_needCount 11 = .ok (.invokespecial 57, 3) := by decide +kernel
theorem dX5_needCount_14 : decode cX5_needCount 14 = .ok (.athrow, 1) := by decide +kernel
theorem dX5_needCount_15 : decode cX5_needCount 15 = .ok (.return_, 1) := by decide +kernel
theorem dX5_needSlot_0 : decode cX5_needSlot 0 = .ok (.iload_n 0, 1) := by decide +kernel
theorem dX5_needSlot_1 : decode cX5_needSlot 1 = .ok (.ifCond .lt 8, 3) := by decide +kernel
theorem dX5_needSlot_4 : decode cX5_needSlot 4 = .ok (.iload_n 0, 1) := by decide +kernel
theorem dX5_needSlot_5 : decode cX5_needSlot 5 = .ok (.iconst 2, 1) := by decide +kernel
theorem dX5_needSlot_6 : decode cX5_needSlot 6 = .ok (.if_icmp .lt 14, 3) := by decide +kernel
theorem dX5_needSlot_9 : decode cX5_needSlot 9 = .ok (.new 257, 3) := by decide +kernel
theorem dX5_needSlot_12 : decode cX5_needSlot 12 = .ok (.dup, 1) := by decide +kernel
theorem dX5_needSlot_13 : decode cX5_needSlot 13 = .ok (.ldc_w 276, 3) := by decide +kernel
theorem dX5_needSlot_16 : decode cX5_needSlot 16 = .ok (.invokespecial 261, 3) := by decide +kernel
theorem dX5_needSlot_19 : decode cX5_needSlot 19 = .ok (.athrow, 1) := by decide +kernel
theorem dX5_needSlot_20 : decode cX5_needSlot 20 = .ok (.return_, 1) := by decide +kernel
theorem dX5_isTrait_0 : decode cX5_isTrait 0 = .ok (.iload_n 0, 1) := by decide +kernel
theorem dX5_isTrait_1 : decode cX5_isTrait 1 = .ok (.ifCond .lt 13, 3) := by decide +kernel
theorem dX5_isTrait_4 : decode cX5_isTrait 4 = .ok (.iload_n 0, 1) := by decide +kernel
theorem dX5_isTrait_5 : decode cX5_isTrait 5 = .ok (.bipush 6, 2) := by decide +kernel
theorem dX5_isTrait_7 : decode cX5_isTrait 7 = .ok (.if_icmp .ge 7, 3) := by decide +kernel
theorem dX5_isTrait_10 : decode cX5_isTrait 10 = .ok (.iconst 1, 1) := by decide +kernel
theorem dX5_isTrait_11 : decode cX5_isTrait 11 = .ok (.goto 4, 3) := by decide +kernel
theorem dX5_isTrait_14 : decode cX5_isTrait 14 = .ok (.iconst 0, 1) := by decide +kernel
theorem dX5_isTrait_15 : decode cX5_isTrait 15 = .ok (.ireturn, 1) := by decide +kernel
theorem dX5_isYear_0 : decode cX5_isYear 0 = .ok (.iload_n 0, 1) := by decide +kernel
theorem dX5_isYear_1 : decode cX5_isYear 1 = .ok (.ifCond .lt 14, 3) := by decide +kernel
theorem dX5_isYear_4 : decode cX5_isYear 4 = .ok (.iload_n 0, 1) := by decide +kernel
theorem dX5_isYear_5 : decode cX5_isYear 5 = .ok (.sipush 999, 3) := by decide +kernel
theorem dX5_isYear_8 : decode cX5_isYear 8 = .ok (.if_icmp .gt 7, 3) := by decide +kernel
theorem dX5_isYear_11 : decode cX5_isYear 11 = .ok (.iconst 1, 1) := by decide +kernel
theorem dX5_isYear_12 : decode cX5_isYear 12 = .ok (.goto 4, 3) := by decide +kernel
theorem dX5_isYear_15 : decode cX5_isYear 15 = .ok (.iconst 0, 1) := by decide +kernel
theorem dX5_isYear_16 : decode cX5_isYear 16 = .ok (.ireturn, 1) := by decide +kernel
theorem dX5_isLength_0 : decode cX5_isLength 0 = .ok (.iload_n 0, 1) := by decide +kernel
theorem dX5_isLength_1 : decode cX5_isLength 1 = .ok (.iconst 1, 1) := by decide +kernel
theorem dX5_isLength_2 : decode cX5_isLength 2 = .ok (.if_icmp .lt 13, 3) := by decide +kernel
theorem dX5_isLength_5 : decode cX5_isLength 5 = .ok (.iload_n 0, 1) := by decide +kernel
theorem dX5_isLength_6 : decode cX5_isLength 6 = .ok (.bipush 99, 2) := by decide +kernel
theorem dX5_isLength_8 : decode cX5_isLength 8 = .ok (.if_icmp .gt 7, 3) := by decide +kernel
theorem dX5_isLength_11 : decode cX5_isLength 11 = .ok (.iconst 1, 1) := by decide +kernel
theorem dX5_isLength_12 : decode cX5_isLength 12 = .ok (.goto 4, 3) := by decide +kernel
theorem dX5_isLength_15 : decode cX5_isLength 15 = .ok (.iconst 0, 1) := by decide +kernel
theorem dX5_isLength_16 : decode cX5_isLength 16 = .ok (.ireturn, 1) := by decide +kernel
theorem dJ6_bitCount_0f7a4_0 : decode cJ6_bitCount_0f7a4 0 = .ok (.iload_n 0, 1) := by decide +kernel
theorem dJ6_bitCount_0f7a4_1 : decode cJ6_bitCount_0f7a4 1 = .ok (.iload_n 0, 1) := by decide +kernel
theorem dJ6_bitCount_0f7a4_2 : decode cJ6_bitCount_0f7a4 2 = .ok (.iconst 1, 1) := by decide +kernel
theorem dJ6_bitCount_0f7a4_3 : decode cJ6_bitCount_0f7a4 3 = .ok (.iushr, 1) := by decide +kernel
theorem dJ6_bitCount_0f7a4_4 : decode cJ6_bitCount_0f7a4 4 = .ok (.ldc_w 265, 3) := by decide +kernel
theorem dJ6_bitCount_0f7a4_7 : decode cJ6_bitCount_0f7a4 7 = .ok (.iand, 1) := by decide +kernel
theorem dJ6_bitCount_0f7a4_8 : decode cJ6_bitCount_0f7a4 8 = .ok (.isub, 1) := by decide +kernel
theorem dJ6_bitCount_0f7a4_9 : decode cJ6_bitCount_0f7a4 9 = .ok (.istore_n 0, 1) := by decide +kernel
theorem dJ6_bitCount_0f7a4_10 : decode cJ6_bitCount_0f7a4 10 = .ok (.iload_n 0, 1) := by decide +kernel
theorem dJ6_bitCount_0f7a4_11 : decode cJ6_bitCount_0f7a4 11 = .ok (.ldc_w 266, 3) := by decide +kernel
theorem dJ6_bitCount_0f7a4_14 : decode cJ6_bitCount_0f7a4 14 = .ok (.iand, 1) := by decide +kernel
theorem dJ6_bitCount_0f7a4_15 : decode cJ6_bitCount_0f7a4 15 = .ok (.iload_n 0, 1) := by decide +kernel
theorem dJ6_bitCount_0f7a4_16 : decode cJ6_bitCount_0f7a4 16 = .ok (.iconst 2, 1) := by decide +kernel
theorem dJ6_bitCount_0f7a4_17 : decode cJ6_bitCount_0f7a4 17 = .ok (.iushr, 1) := by decide +kernel
theorem dJ6_bitCount_0f7a4_18 : decode cJ6_bitCount_0f7a4 18 = .ok (.ldc_w 266, 3) := by decide +kernel
theorem dJ6_bitCount_0f7a4_21 : decode cJ6_bitCount_0f7a4 21 = .ok (.iand, 1) := by decide +kernel
theorem dJ6_bitCount_0f7a4_22 : decode cJ6_bitCount_0f7a4 22 = .ok (.iadd, 1) := by decide +kernel
theorem dJ6_bitCount_0f7a4_23 : decode cJ6_bitCount_0f7a4 23 = .ok (.istore_n 0, 1) := by decide +kernel
theorem dJ6_bitCount_0f7a4_24 : decode cJ6_bitCount_0f7a4 24 = .ok (.iload_n 0, 1) := by decide +kernel
theorem dJ6_bitCount_0f7a4_25 : decode cJ6_bitCount_0f7a4 25 = .ok (.iload_n 0, 1) := by decide +kernel
theorem dJ6_bitCount_0f7a4_26 : decode cJ6_bitCount_0f7a4 26 = .ok (.iconst 4, 1) := by decide +kernel
theorem dJ6_bitCount_0f7a4_27 : decode cJ6_bitCount_0f7a4 27 = .ok (.iushr, 1) := by decide +kernel
theorem dJ6_bitCount_0f7a4_28 : decode cJ6_bitCount_0f7a4 28 = .ok (.iadd, 1) := by decide +kernel
theorem dJ6_bitCount_0f7a4_29 : decode cJ6_bitCount_0f7a4 29 = .ok (.ldc_w 267, 3) := by decide +kernel
theorem dJ6_bitCount_0f7a4_32 : decode cJ6_bitCount_0f7a4 32 = .ok (.iand, 1) := by decide +kernel
theorem dJ6_bitCount_0f7a4_33 : decode cJ6_bitCount_0f7a4 33 = .ok (.istore_n 0, 1) := by decide +kernel
theorem dJ6_bitCount_0f7a4_34 : decode cJ6_bitCount_0f7a4 34 = .ok (.iload_n 0, 1) := by decide +kernel
theorem dJ6_bitCount_0f7a4_35 : decode cJ6_bitCount_0f7a4 35 = .ok (.iload_n 0, 1) := by decide +kernel
theorem dJ6_bitCount_0f7a4_36 : decode cJ6_bitCount_0f7a4 36 = .ok (.bipush 8, 2) := by decide +kernel
theorem dJ6_bitCount_0f7a4_38 : decode cJ6_bitCount_0f7a4 38 = .ok (.iushr, 1) := by decide +kernel
theorem dJ6_bitCount_0f7a4_39 : decode cJ6_bitCount_0f7a4 39 = .ok (.iadd, 1) := by decide +kernel
theorem dJ6_bitCount_0f7a4_40 : decode cJ6_bitCount_0f7a4 40 = .ok (.istore_n 0, 1) := by decide +kernel
theorem dJ6_bitCount_0f7a4_41 : decode cJ6_bitCount_0f7a4 41 = .ok (.iload_n 0, 1) := by decide +kernel
theorem dJ6_bitCount_0f7a4_42 : decode cJ6_bitCount_0f7a4 42 = .ok (.iload_n 0, 1) := by decide +kernel
theorem dJ6_bitCount_0f7a4_43 : decode cJ6_bitCount_0f7a4 43 = .ok (.bipush 16, 2) := by decide +kernel
theorem dJ6_bitCount_0f7a4_45 : decode cJ6_bitCount_0f7a4 45 = .ok (.iushr, 1) := by decide +kernel
theorem dJ6_bitCount_0f7a4_46 : decode cJ6_bitCount_0f7a4 46 = .ok (.iadd, 1) := by decide +kernel
theorem dJ6_bitCount_0f7a4_47 : decode cJ6_bitCount_0f7a4 47 = .ok (.istore_n 0, 1) := by decide +kernel
theorem dJ6_bitCount_0f7a4_48 : decode cJ6_bitCount_0f7a4 48 = .ok (.iload_n 0, 1) := by decide +kernel
theorem dJ6_bitCount_0f7a4_49 : decode cJ6_bitCount_0f7a4 49 = .ok (.bipush 63, 2) := by decide +kernel
theorem dJ6_bitCount_0f7a4_51 : decode cJ6_bitCount_0f7a4 51 = .ok (.iand, 1) := by decide +kernel
theorem dJ6_bitCount_0f7a4_52 : decode cJ6_bitCount_0f7a4 52 = .ok (.ireturn, 1) := by decide +kernel
theorem dJ9_max_7cf53_0 : decode cJ9_max_7cf53 0 = .ok (.iload_n 0, 1) := by decide +kernel
theorem dJ9_max_7cf53_1 : decode cJ9_max_7cf53 1 = .ok (.iload_n 1, 1) := by decide +kernel
theorem dJ9_max_7cf53_2 : decode cJ9_max_7cf53 2 = .ok (.if_icmp .lt 7, 3) := by decide +kernel
theorem dJ9_max_7cf53_5 : decode cJ9_max_7cf53 5 = .ok (.iload_n 0, 1) := by decide +kernel
theorem dJ9_max_7cf53_6 : decode cJ9_max_7cf53 6 = .ok (.goto 4, 3) := by decide +kernel
theorem dJ9_max_7cf53_9 : decode cJ9_max_7cf53 9 = .ok (.iload_n 1, 1) := by decide +kernel
theorem dJ9_max_7cf53_10 : decode cJ9_max_7cf53 10 = .ok (.ireturn, 1) := by decide +kernel
theorem dJ9_min_7cf53_0 : decode cJ9_min_7cf53 0 = .ok (.iload_n 0, 1) := by decide +kernel
theorem dJ9_min_7cf53_1 : decode cJ9_min_7cf53 1 = .ok (.iload_n 1, 1) := by decide +kernel
theorem dJ9_min_7cf53_2 : decode cJ9_min_7cf53 2 = .ok (.if_icmp .gt 7, 3) := by decide +kernel
theorem dJ9_min_7cf53_5 : decode cJ9_min_7cf53 5 = .ok (.iload_n 0, 1) := by decide +kernel
theorem dJ9_min_7cf53_6 : decode cJ9_min_7cf53 6 = .ok (.goto 4, 3) := by decide +kernel
theorem dJ9_min_7cf53_9 : decode cJ9_min_7cf53 9 = .ok (.iload_n 1, 1) := by decide +kernel
theorem dJ9_min_7cf53_10 : decode cJ9_min_7cf53 10 = .ok (.ireturn, 1) := by decide +kernel
theorem dJ7_fill_53178_0 : decode cJ7_fill_53178 0 = .ok (.iconst 0, 1) := by decide +kernel
theorem dJ7_fill_53178_1 : decode cJ7_fill_53178 1 = .ok (.istore_n 2, 1) := by decide +kernel
theorem dJ7_fill_53178_2 : decode cJ7_fill_53178 2 = .ok (.aload_n 0, 1) := by decide +kernel
theorem dJ7_fill_53178_3 : decode cJ7_fill_53178 3 = .ok (.arraylength, 1) := by decide +kernel
theorem dJ7_fill_53178_4 : decode cJ7_fill_53178 4 = .ok (.istore_n 3, 1) := by decide +kernel
theorem dJ7_fill_53178_5 : decode cJ7_fill_53178 5 = .ok (.iload_n 2, 1) := by decide +kernel
theorem dJ7_fill_53178_6 : decode cJ7_fill_53178 6 = .ok (.iload_n 3, 1) := by decide +kernel
theorem dJ7_fill_53178_7 : decode cJ7_fill_53178 7 = .ok (.if_icmp .ge 13, 3) := by decide +kernel
theorem dJ7_fill_53178_10 : decode cJ7_fill_53178 10 = .ok (.aload_n 0, 1) := by decide +kernel
theorem dJ7_fill_53178_11 : decode cJ7_fill_53178 11 = .ok (.iload_n 2, 1) := by decide +kernel
theorem dJ7_fill_53178_12 : decode cJ7_fill_53178 12 = .ok (.iload_n 1, 1) := by decide +kernel
theorem dJ7_fill_53178_13 : decode cJ7_fill_53178 13 = .ok (.iastore, 1) := by decide +kernel
theorem dJ7_fill_53178_14 : decode cJ7_fill_53178 14 = .ok (.iinc 2 1, 3) := by decide +kernel
theorem dJ7_fill_53178_17 : decode cJ7_fill_53178 17 = .ok (.goto (-12), 3) := by decide +kernel
theorem dJ7_fill_53178_20 : decode cJ7_fill_53178 20 = .ok (.return_, 1) := by decide +kernel
