def cw (E : gE) (q : Nat → Nat) (r : Nat → Nat → Nat) (pl : Nat) (o0 : Nat → Int32) (A0 : Nat → Nat → Int32) (C0 : Nat → Option Nat) (h0 : Nat) (o1 : Nat → Int32) (A1 : Nat → Nat → Int32) (C1 : Nat → Option Nat) (h1 : Nat) (o2 : Nat → Int32) (A2 : Nat → Nat → Int32) (C2 : Nat → Option Nat) (h2 : Nat) (gs : Int32) (gA : Nat → Nat → Int32) (tb : Int32) (tA bf : Nat → Int32) (hi : Int32) : va_W := [(q 5, .inr (11, [.ref (q 0), .ref (q 1), .ref (q 2), .ref (q 3), .ref (q 4), .ref (r 5 5), .int hi])),
  (q 0, .inr (10, [.int (o0 0), .int (o0 1), .int (o0 2), .int (o0 3), .int (o0 4), .int (o0 5), .int (o0 6), .int (o0 7), .ref (r 0 8), .ref (r 0 9), .ref (r 0 10), .ref (r 0 11), .ref (r 0 12), .ref (r 0 13), .ref (r 0 14), .ref (r 0 15), .ref (r 0 16), .ref (r 0 17), .ref h0])),
  (q 1, .inr (10, [.int (o1 0), .int (o1 1), .int (o1 2), .int (o1 3), .int (o1 4), .int (o1 5), .int (o1 6), .int (o1 7), .ref (r 1 8), .ref (r 1 9), .ref (r 1 10), .ref (r 1 11), .ref (r 1 12), .ref (r 1 13), .ref (r 1 14), .ref (r 1 15), .ref (r 1 16), .ref (r 1 17), .ref h1])),
  (q 2, .inr (10, [.int (o2 0), .int (o2 1), .int (o2 2), .int (o2 3), .int (o2 4), .int (o2 5), .int (o2 6), .int (o2 7), .ref (r 2 8), .ref (r 2 9), .ref (r 2 10), .ref (r 2 11), .ref (r 2 12), .ref (r 2 13), .ref (r 2 14), .ref (r 2 15), .ref (r 2 16), .ref (r 2 17), .ref h2])),
  (q 3, .inr (1, [.ref (r 3 0), .ref (r 3 1), .ref (r 3 2), .ref (r 3 3), .int gs, .ref (r 3 5), .ref pl])),
  (q 4, .inr (8, [.ref (r 4 0), .int tb])),
  (r 0 8, .inl (gI E, 10, .inl (A0 8))),
  (r 0 9, .inl (gI E, 10, .inl (A0 9))),
  (r 0 10, .inl (gI E, 10, .inl (A0 10))),
  (r 0 11, .inl (gI E, 10, .inl (A0 11))),
  (r 0 12, .inl (gI E, 10, .inl (A0 12))),
  (r 0 13, .inl (gO E, 4, .inr (.inr (.inr (.inr C0))))),
  (r 0 14, .inl (gI E, 20, .inl (A0 14))),
  (r 0 15, .inl (gI E, 20, .inl (A0 15))),
  (r 0 16, .inl (gI E, 20, .inl (A0 16))),
  (r 0 17, .inl (gCh E, 100, .inl (A0 17))),
  (r 1 8, .inl (gI E, 10, .inl (A1 8))),
  (r 1 9, .inl (gI E, 10, .inl (A1 9))),
  (r 1 10, .inl (gI E, 10, .inl (A1 10))),
  (r 1 11, .inl (gI E, 10, .inl (A1 11))),
  (r 1 12, .inl (gI E, 10, .inl (A1 12))),
  (r 1 13, .inl (gO E, 4, .inr (.inr (.inr (.inr C1))))),
  (r 1 14, .inl (gI E, 20, .inl (A1 14))),
  (r 1 15, .inl (gI E, 20, .inl (A1 15))),
  (r 1 16, .inl (gI E, 20, .inl (A1 16))),
  (r 1 17, .inl (gCh E, 100, .inl (A1 17))),
  (r 2 8, .inl (gI E, 10, .inl (A2 8))),
  (r 2 9, .inl (gI E, 10, .inl (A2 9))),
  (r 2 10, .inl (gI E, 10, .inl (A2 10))),
  (r 2 11, .inl (gI E, 10, .inl (A2 11))),
  (r 2 12, .inl (gI E, 10, .inl (A2 12))),
  (r 2 13, .inl (gO E, 4, .inr (.inr (.inr (.inr C2))))),
  (r 2 14, .inl (gI E, 20, .inl (A2 14))),
  (r 2 15, .inl (gI E, 20, .inl (A2 15))),
  (r 2 16, .inl (gI E, 20, .inl (A2 16))),
  (r 2 17, .inl (gCh E, 100, .inl (A2 17))),
  (r 3 0, .inl (gI E, 10, .inl (gA 0))),
  (r 3 1, .inl (gI E, 10, .inl (gA 1))),
  (r 3 2, .inl (gI E, 10, .inl (gA 2))),
  (r 3 3, .inl (gI E, 10, .inl (gA 3))),
  (r 3 5, .inl (gI E, 6, .inl (gA 5))),
  (r 4 0, .inl (gI E, 20, .inl tA)),
  (r 5 5, .inl (gI E, 10, .inl bf))]
theorem qs_J6_bitCount_0f7a4 : yJ6_bitCount_0f7a4.cls ≠ "java/lang/invoke/MethodHandle" ∧ yJ6_bitCount_0f7a4.cls ≠ "java/lang/invoke/VarHandle" ∧ (parseMethodDescriptor yJ6_bitCount_0f7a4.desc).map (fun d => d.parameters.length) = some 1 := by decide +kernel
theorem qv_X0_favour : yX0_favour.cls = RX0 ∧ yX0_favour.cls ≠ "java/lang/invoke/MethodHandle" ∧ yX0_favour.cls ≠ "java/lang/invoke/VarHandle" ∧ (parseMethodDescriptor yX0_favour.desc).map (fun d => d.parameters.length) = some 1 := by decide +kernel
theorem qsu_X0_favour : yX0_favour.name ≠ "<init>" ∧ (parseMethodDescriptor yX0_favour.desc).map (fun d => d.parameters.length) = some 1 := by decide +kernel
theorem qv_X0_grades : yX0_grades.cls = RX0 ∧ yX0_grades.cls ≠ "java/lang/invoke/MethodHandle" ∧ yX0_grades.cls ≠ "java/lang/invoke/VarHandle" ∧ (parseMethodDescriptor yX0_grades.desc).map (fun d => d.parameters.length) = some 2 := by decide +kernel
theorem qsu_X0_grades : yX0_grades.name ≠ "<init>" ∧ (parseMethodDescriptor yX0_grades.desc).map (fun d => d.parameters.length) = some 2 := by decide +kernel
theorem qv_X0_isOfKind : yX0_isOfKind.cls = RX0 ∧ yX0_isOfKind.cls ≠ "java/lang/invoke/MethodHandle" ∧ yX0_isOfKind.cls ≠ "java/lang/invoke/VarHandle" ∧ (parseMethodDescriptor yX0_isOfKind.desc).map (fun d => d.parameters.length) = some 1 := by decide +kernel
theorem qsu_X0_isOfKind : yX0_isOfKind.name ≠ "<init>" ∧ (parseMethodDescriptor yX0_isOfKind.desc).map (fun d => d.parameters.length) = some 1 := by decide +kernel
theorem qv_X0_levels : yX0_levels.cls = RX0 ∧ yX0_levels.cls ≠ "java/lang/invoke/MethodHandle" ∧ yX0_levels.cls ≠ "java/lang/invoke/VarHandle" ∧ (parseMethodDescriptor yX0_levels.desc).map (fun d => d.parameters.length) = some 2 := by decide +kernel
theorem qsu_X0_levels : yX0_levels.name ≠ "<init>" ∧ (parseMethodDescriptor yX0_levels.desc).map (fun d => d.parameters.length) = some 2 := by decide +kernel
theorem qv_X0_lineUp : yX0_lineUp.cls = RX0 ∧ yX0_lineUp.cls ≠ "java/lang/invoke/MethodHandle" ∧ yX0_lineUp.cls ≠ "java/lang/invoke/VarHandle" ∧ (parseMethodDescriptor yX0_lineUp.desc).map (fun d => d.parameters.length) = some 4 := by decide +kernel
theorem qsu_X0_lineUp : yX0_lineUp.name ≠ "<init>" ∧ (parseMethodDescriptor yX0_lineUp.desc).map (fun d => d.parameters.length) = some 4 := by decide +kernel
theorem qv_X0_seen : yX0_seen.cls = RX0 ∧ yX0_seen.cls ≠ "java/lang/invoke/MethodHandle" ∧ yX0_seen.cls ≠ "java/lang/invoke/VarHandle" ∧ (parseMethodDescriptor yX0_seen.desc).map (fun d => d.parameters.length) = some 2 := by decide +kernel
theorem qsu_X0_seen : yX0_seen.name ≠ "<init>" ∧ (parseMethodDescriptor yX0_seen.desc).map (fun d => d.parameters.length) = some 2 := by decide +kernel
theorem qv_X0_works : yX0_works.cls = RX0 ∧ yX0_works.cls ≠ "java/lang/invoke/MethodHandle" ∧ yX0_works.cls ≠ "java/lang/invoke/VarHandle" ∧ (parseMethodDescriptor yX0_works.desc).map (fun d => d.parameters.length) = some 2 := by decide +kernel
theorem qsu_X0_works : yX0_works.name ≠ "<init>" ∧ (parseMethodDescriptor yX0_works.desc).map (fun d => d.parameters.length) = some 2 := by decide +kernel
theorem qv_X10_become : yX10_become.cls = RX10 ∧ yX10_become.cls ≠ "java/lang/invoke/MethodHandle" ∧ yX10_become.cls ≠ "java/lang/invoke/VarHandle" ∧ (parseMethodDescriptor yX10_become.desc).map (fun d => d.parameters.length) = some 1 := by decide +kernel
theorem qv_X10_chiefAt : yX10_chiefAt.cls = RX10 ∧ yX10_chiefAt.cls ≠ "java/lang/invoke/MethodHandle" ∧ yX10_chiefAt.cls ≠ "java/lang/invoke/VarHandle" ∧ (parseMethodDescriptor yX10_chiefAt.desc).map (fun d => d.parameters.length) = some 1 := by decide +kernel
theorem qv_X10_exchange : yX10_exchange.cls = RX10 ∧ yX10_exchange.cls ≠ "java/lang/invoke/MethodHandle" ∧ yX10_exchange.cls ≠ "java/lang/invoke/VarHandle" ∧ (parseMethodDescriptor yX10_exchange.desc).map (fun d => d.parameters.length) = some 2 := by decide +kernel
theorem qv_X10_firstGrade : yX10_firstGrade.cls = RX10 ∧ yX10_firstGrade.cls ≠ "java/lang/invoke/MethodHandle" ∧ yX10_firstGrade.cls ≠ "java/lang/invoke/VarHandle" ∧ (parseMethodDescriptor yX10_firstGrade.desc).map (fun d => d.parameters.length) = some 2 := by decide +kernel
theorem qv_X10_hasWorker : yX10_hasWorker.cls = RX10 ∧ yX10_hasWorker.cls ≠ "java/lang/invoke/MethodHandle" ∧ yX10_hasWorker.cls ≠ "java/lang/invoke/VarHandle" ∧ (parseMethodDescriptor yX10_hasWorker.desc).map (fun d => d.parameters.length) = some 1 := by decide +kernel
theorem qv_X10_replace : yX10_replace.cls = RX10 ∧ yX10_replace.cls ≠ "java/lang/invoke/MethodHandle" ∧ yX10_replace.cls ≠ "java/lang/invoke/VarHandle" ∧ (parseMethodDescriptor yX10_replace.desc).map (fun d => d.parameters.length) = some 1 := by decide +kernel
theorem qv_X10_teamBits : yX10_teamBits.cls = RX10 ∧ yX10_teamBits.cls ≠ "java/lang/invoke/MethodHandle" ∧ yX10_teamBits.cls ≠ "java/lang/invoke/VarHandle" ∧ (parseMethodDescriptor yX10_teamBits.desc).map (fun d => d.parameters.length) = some 1 := by decide +kernel
theorem qv_X10_worthTogether : yX10_worthTogether.cls = RX10 ∧ yX10_worthTogether.cls ≠ "java/lang/invoke/MethodHandle" ∧ yX10_worthTogether.cls ≠ "java/lang/invoke/VarHandle" ∧ (parseMethodDescriptor yX10_worthTogether.desc).map (fun d => d.parameters.length) = some 0 := by decide +kernel
theorem qv_X11_act : yX11_act.cls = RX11 ∧ yX11_act.cls ≠ "java/lang/invoke/MethodHandle" ∧ yX11_act.cls ≠ "java/lang/invoke/VarHandle" ∧ (parseMethodDescriptor yX11_act.desc).map (fun d => d.parameters.length) = some 3 := by decide +kernel
theorem qv_X11_as : yX11_as.cls = RX11 ∧ yX11_as.cls ≠ "java/lang/invoke/MethodHandle" ∧ yX11_as.cls ≠ "java/lang/invoke/VarHandle" ∧ (parseMethodDescriptor yX11_as.desc).map (fun d => d.parameters.length) = some 2 := by decide +kernel
theorem qv_X11_best : yX11_best.cls = RX11 ∧ yX11_best.cls ≠ "java/lang/invoke/MethodHandle" ∧ yX11_best.cls ≠ "java/lang/invoke/VarHandle" ∧ (parseMethodDescriptor yX11_best.desc).map (fun d => d.parameters.length) = some 2 := by decide +kernel
theorem qv_X11_book : yX11_book.cls = RX11 ∧ yX11_book.cls ≠ "java/lang/invoke/MethodHandle" ∧ yX11_book.cls ≠ "java/lang/invoke/VarHandle" ∧ (parseMethodDescriptor yX11_book.desc).map (fun d => d.parameters.length) = some 3 := by decide +kernel
theorem qv_X11_bothGain : yX11_bothGain.cls = RX11 ∧ yX11_bothGain.cls ≠ "java/lang/invoke/MethodHandle" ∧ yX11_bothGain.cls ≠ "java/lang/invoke/VarHandle" ∧ (parseMethodDescriptor yX11_bothGain.desc).map (fun d => d.parameters.length) = some 2 := by decide +kernel
theorem qv_X11_by : yX11_by.cls = RX11 ∧ yX11_by.cls ≠ "java/lang/invoke/MethodHandle" ∧ yX11_by.cls ≠ "java/lang/invoke/VarHandle" ∧ (parseMethodDescriptor yX11_by.desc).map (fun d => d.parameters.length) = some 2 := by decide +kernel
theorem qv_X11_chance : yX11_chance.cls = RX11 ∧ yX11_chance.cls ≠ "java/lang/invoke/MethodHandle" ∧ yX11_chance.cls ≠ "java/lang/invoke/VarHandle" ∧ (parseMethodDescriptor yX11_chance.desc).map (fun d => d.parameters.length) = some 5 := by decide +kernel
theorem qs_X11_choices : yX11_choices.cls ≠ "java/lang/invoke/MethodHandle" ∧ yX11_choices.cls ≠ "java/lang/invoke/VarHandle" ∧ (parseMethodDescriptor yX11_choices.desc).map (fun d => d.parameters.length) = some 2 := by decide +kernel
theorem qv_X11_clear : yX11_clear.cls = RX11 ∧ yX11_clear.cls ≠ "java/lang/invoke/MethodHandle" ∧ yX11_clear.cls ≠ "java/lang/invoke/VarHandle" ∧ (parseMethodDescriptor yX11_clear.desc).map (fun d => d.parameters.length) = some 0 := by decide +kernel
theorem qv_X11_count : yX11_count.cls = RX11 ∧ yX11_count.cls ≠ "java/lang/invoke/MethodHandle" ∧ yX11_count.cls ≠ "java/lang/invoke/VarHandle" ∧ (parseMethodDescriptor yX11_count.desc).map (fun d => d.parameters.length) = some 1 := by decide +kernel
theorem qv_X11_feed : yX11_feed.cls = RX11 ∧ yX11_feed.cls ≠ "java/lang/invoke/MethodHandle" ∧ yX11_feed.cls ≠ "java/lang/invoke/VarHandle" ∧ (parseMethodDescriptor yX11_feed.desc).map (fun d => d.parameters.length) = some 1 := by decide +kernel
theorem qv_X11_fresh : yX11_fresh.cls = RX11 ∧ yX11_fresh.cls ≠ "java/lang/invoke/MethodHandle" ∧ yX11_fresh.cls ≠ "java/lang/invoke/VarHandle" ∧ (parseMethodDescriptor yX11_fresh.desc).map (fun d => d.parameters.length) = some 2 := by decide +kernel
theorem qv_X11_goYear : yX11_goYear.cls = RX11 ∧ yX11_goYear.cls ≠ "java/lang/invoke/MethodHandle" ∧ yX11_goYear.cls ≠ "java/lang/invoke/VarHandle" ∧ (parseMethodDescriptor yX11_goYear.desc).map (fun d => d.parameters.length) = some 2 := by decide +kernel
theorem qv_X11_gradeUnder : yX11_gradeUnder.cls = RX11 ∧ yX11_gradeUnder.cls ≠ "java/lang/invoke/MethodHandle" ∧ yX11_gradeUnder.cls ≠ "java/lang/invoke/VarHandle" ∧ (parseMethodDescriptor yX11_gradeUnder.desc).map (fun d => d.parameters.length) = some 2 := by decide +kernel
theorem qv_X11_howManyNets : yX11_howManyNets.cls = RX11 ∧ yX11_howManyNets.cls ≠ "java/lang/invoke/MethodHandle" ∧ yX11_howManyNets.cls ≠ "java/lang/invoke/VarHandle" ∧ (parseMethodDescriptor yX11_howManyNets.desc).map (fun d => d.parameters.length) = some 0 := by decide +kernel
theorem qv_X11_image : yX11_image.cls = RX11 ∧ yX11_image.cls ≠ "java/lang/invoke/MethodHandle" ∧ yX11_image.cls ≠ "java/lang/invoke/VarHandle" ∧ (parseMethodDescriptor yX11_image.desc).map (fun d => d.parameters.length) = some 0 := by decide +kernel
theorem qs_X11_isWithin : yX11_isWithin.cls ≠ "java/lang/invoke/MethodHandle" ∧ yX11_isWithin.cls ≠ "java/lang/invoke/VarHandle" ∧ (parseMethodDescriptor yX11_isWithin.desc).map (fun d => d.parameters.length) = some 2 := by decide +kernel
theorem qv_X11_leans : yX11_leans.cls = RX11 ∧ yX11_leans.cls ≠ "java/lang/invoke/MethodHandle" ∧ yX11_leans.cls ≠ "java/lang/invoke/VarHandle" ∧ (parseMethodDescriptor yX11_leans.desc).map (fun d => d.parameters.length) = some 3 := by decide +kernel
theorem qv_X11_looked : yX11_looked.cls = RX11 ∧ yX11_looked.cls ≠ "java/lang/invoke/MethodHandle" ∧ yX11_looked.cls ≠ "java/lang/invoke/VarHandle" ∧ (parseMethodDescriptor yX11_looked.desc).map (fun d => d.parameters.length) = some 0 := by decide +kernel
theorem qs_X11_lowest : yX11_lowest.cls ≠ "java/lang/invoke/MethodHandle" ∧ yX11_lowest.cls ≠ "java/lang/invoke/VarHandle" ∧ (parseMethodDescriptor yX11_lowest.desc).map (fun d => d.parameters.length) = some 3 := by decide +kernel
theorem qv_X11_mark : yX11_mark.cls = RX11 ∧ yX11_mark.cls ≠ "java/lang/invoke/MethodHandle" ∧ yX11_mark.cls ≠ "java/lang/invoke/VarHandle" ∧ (parseMethodDescriptor yX11_mark.desc).map (fun d => d.parameters.length) = some 2 := by decide +kernel
theorem qv_X11_move : yX11_move.cls = RX11 ∧ yX11_move.cls ≠ "java/lang/invoke/MethodHandle" ∧ yX11_move.cls ≠ "java/lang/invoke/VarHandle" ∧ (parseMethodDescriptor yX11_move.desc).map (fun d => d.parameters.length) = some 2 := by decide +kernel
theorem qv_X11_moved : yX11_moved.cls = RX11 ∧ yX11_moved.cls ≠ "java/lang/invoke/MethodHandle" ∧ yX11_moved.cls ≠ "java/lang/invoke/VarHandle" ∧ (parseMethodDescriptor yX11_moved.desc).map (fun d => d.parameters.length) = some 2 := by decide +kernel
theorem qv_X11_neighbours : yX11_neighbours.cls = RX11 ∧ yX11_neighbours.cls ≠ "java/lang/invoke/MethodHandle" ∧ yX11_neighbours.cls ≠ "java/lang/invoke/VarHandle" ∧ (parseMethodDescriptor yX11_neighbours.desc).map (fun d => d.parameters.length) = some 1 := by decide +kernel
theorem qv_X11_netOf : yX11_netOf.cls = RX11 ∧ yX11_netOf.cls ≠ "java/lang/invoke/MethodHandle" ∧ yX11_netOf.cls ≠ "java/lang/invoke/VarHandle" ∧ (parseMethodDescriptor yX11_netOf.desc).map (fun d => d.parameters.length) = some 1 := by decide +kernel
theorem qv_X11_nets : yX11_nets.cls = RX11 ∧ yX11_nets.cls ≠ "java/lang/invoke/MethodHandle" ∧ yX11_nets.cls ≠ "java/lang/invoke/VarHandle" ∧ (parseMethodDescriptor yX11_nets.desc).map (fun d => d.parameters.length) = some 1 := by decide +kernel
theorem qv_X11_of : yX11_of.cls = RX11 ∧ yX11_of.cls ≠ "java/lang/invoke/MethodHandle" ∧ yX11_of.cls ≠ "java/lang/invoke/VarHandle" ∧ (parseMethodDescriptor yX11_of.desc).map (fun d => d.parameters.length) = some 2 := by decide +kernel
theorem qv_X11_outByGrade : yX11_outByGrade.cls = RX11 ∧ yX11_outByGrade.cls ≠ "java/lang/invoke/MethodHandle" ∧ yX11_outByGrade.cls ≠ "java/lang/invoke/VarHandle" ∧ (parseMethodDescriptor yX11_outByGrade.desc).map (fun d => d.parameters.length) = some 1 := by decide +kernel
theorem qs_X11_outByLot : yX11_outByLot.cls ≠ "java/lang/invoke/MethodHandle" ∧ yX11_outByLot.cls ≠ "java/lang/invoke/VarHandle" ∧ (parseMethodDescriptor yX11_outByLot.desc).map (fun d => d.parameters.length) = some 2 := by decide +kernel
theorem qv_X11_set : yX11_set.cls = RX11 ∧ yX11_set.cls ≠ "java/lang/invoke/MethodHandle" ∧ yX11_set.cls ≠ "java/lang/invoke/VarHandle" ∧ (parseMethodDescriptor yX11_set.desc).map (fun d => d.parameters.length) = some 3 := by decide +kernel
theorem qv_X11_swap : yX11_swap.cls = RX11 ∧ yX11_swap.cls ≠ "java/lang/invoke/MethodHandle" ∧ yX11_swap.cls ≠ "java/lang/invoke/VarHandle" ∧ (parseMethodDescriptor yX11_swap.desc).map (fun d => d.parameters.length) = some 1 := by decide +kernel
theorem qv_X11_told : yX11_told.cls = RX11 ∧ yX11_told.cls ≠ "java/lang/invoke/MethodHandle" ∧ yX11_told.cls ≠ "java/lang/invoke/VarHandle" ∧ (parseMethodDescriptor yX11_told.desc).map (fun d => d.parameters.length) = some 1 := by decide +kernel
theorem qv_X11_trace : yX11_trace.cls = RX11 ∧ yX11_trace.cls ≠ "java/lang/invoke/MethodHandle" ∧ yX11_trace.cls ≠ "java/lang/invoke/VarHandle" ∧ (parseMethodDescriptor yX11_trace.desc).map (fun d => d.parameters.length) = some 1 := by decide +kernel
theorem qv_X11_undo : yX11_undo.cls = RX11 ∧ yX11_undo.cls ≠ "java/lang/invoke/MethodHandle" ∧ yX11_undo.cls ≠ "java/lang/invoke/VarHandle" ∧ (parseMethodDescriptor yX11_undo.desc).map (fun d => d.parameters.length) = some 0 := by decide +kernel
theorem qv_X11_worker : yX11_worker.cls = RX11 ∧ yX11_worker.cls ≠ "java/lang/invoke/MethodHandle" ∧ yX11_worker.cls ≠ "java/lang/invoke/VarHandle" ∧ (parseMethodDescriptor yX11_worker.desc).map (fun d => d.parameters.length) = some 4 := by decide +kernel
theorem qv_X11_wrong : yX11_wrong.cls = RX11 ∧ yX11_wrong.cls ≠ "java/lang/invoke/MethodHandle" ∧ yX11_wrong.cls ≠ "java/lang/invoke/VarHandle" ∧ (parseMethodDescriptor yX11_wrong.desc).map (fun d => d.parameters.length) = some 1 := by decide +kernel
theorem qv_X11_year : yX11_year.cls = RX11 ∧ yX11_year.cls ≠ "java/lang/invoke/MethodHandle" ∧ yX11_year.cls ≠ "java/lang/invoke/VarHandle" ∧ (parseMethodDescriptor yX11_year.desc).map (fun d => d.parameters.length) = some 0 := by decide +kernel
theorem qv_X11_years : yX11_years.cls = RX11 ∧ yX11_years.cls ≠ "java/lang/invoke/MethodHandle" ∧ yX11_years.cls ≠ "java/lang/invoke/VarHandle" ∧ (parseMethodDescriptor yX11_years.desc).map (fun d => d.parameters.length) = some 3 := by decide +kernel
theorem qs_X1_byMark : yX1_byMark.cls ≠ "java/lang/invoke/MethodHandle" ∧ yX1_byMark.cls ≠ "java/lang/invoke/VarHandle" ∧ (parseMethodDescriptor yX1_byMark.desc).map (fun d => d.parameters.length) = some 1 := by decide +kernel
theorem qv_X1_gather : yX1_gather.cls = RX1 ∧ yX1_gather.cls ≠ "java/lang/invoke/MethodHandle" ∧ yX1_gather.cls ≠ "java/lang/invoke/VarHandle" ∧ (parseMethodDescriptor yX1_gather.desc).map (fun d => d.parameters.length) = some 1 := by decide +kernel
theorem qv_X1_gradeAll : yX1_gradeAll.cls = RX1 ∧ yX1_gradeAll.cls ≠ "java/lang/invoke/MethodHandle" ∧ yX1_gradeAll.cls ≠ "java/lang/invoke/VarHandle" ∧ (parseMethodDescriptor yX1_gradeAll.desc).map (fun d => d.parameters.length) = some 1 := by decide +kernel
theorem qv_X1_gradeDue : yX1_gradeDue.cls = RX1 ∧ yX1_gradeDue.cls ≠ "java/lang/invoke/MethodHandle" ∧ yX1_gradeDue.cls ≠ "java/lang/invoke/VarHandle" ∧ (parseMethodDescriptor yX1_gradeDue.desc).map (fun d => d.parameters.length) = some 1 := by decide +kernel
theorem qv_X1_gradeHad : yX1_gradeHad.cls = RX1 ∧ yX1_gradeHad.cls ≠ "java/lang/invoke/MethodHandle" ∧ yX1_gradeHad.cls ≠ "java/lang/invoke/VarHandle" ∧ (parseMethodDescriptor yX1_gradeHad.desc).map (fun d => d.parameters.length) = some 2 := by decide +kernel
theorem qv_X1_gradeLevelled : yX1_gradeLevelled.cls = RX1 ∧ yX1_gradeLevelled.cls ≠ "java/lang/invoke/MethodHandle" ∧ yX1_gradeLevelled.cls ≠ "java/lang/invoke/VarHandle" ∧ (parseMethodDescriptor yX1_gradeLevelled.desc).map (fun d => d.parameters.length) = some 1 := by decide +kernel
theorem qv_X1_gradeTeam : yX1_gradeTeam.cls = RX1 ∧ yX1_gradeTeam.cls ≠ "java/lang/invoke/MethodHandle" ∧ yX1_gradeTeam.cls ≠ "java/lang/invoke/VarHandle" ∧ (parseMethodDescriptor yX1_gradeTeam.desc).map (fun d => d.parameters.length) = some 2 := by decide +kernel
theorem qv_X1_markBy : yX1_markBy.cls = RX1 ∧ yX1_markBy.cls ≠ "java/lang/invoke/MethodHandle" ∧ yX1_markBy.cls ≠ "java/lang/invoke/VarHandle" ∧ (parseMethodDescriptor yX1_markBy.desc).map (fun d => d.parameters.length) = some 3 := by decide +kernel
theorem qv_X1_markTeam : yX1_markTeam.cls = RX1 ∧ yX1_markTeam.cls ≠ "java/lang/invoke/MethodHandle" ∧ yX1_markTeam.cls ≠ "java/lang/invoke/VarHandle" ∧ (parseMethodDescriptor yX1_markTeam.desc).map (fun d => d.parameters.length) = some 2 := by decide +kernel
theorem qv_X1_meanOfTeam : yX1_meanOfTeam.cls = RX1 ∧ yX1_meanOfTeam.cls ≠ "java/lang/invoke/MethodHandle" ∧ yX1_meanOfTeam.cls ≠ "java/lang/invoke/VarHandle" ∧ (parseMethodDescriptor yX1_meanOfTeam.desc).map (fun d => d.parameters.length) = some 0 := by decide +kernel
theorem qv_X1_rank : yX1_rank.cls = RX1 ∧ yX1_rank.cls ≠ "java/lang/invoke/MethodHandle" ∧ yX1_rank.cls ≠ "java/lang/invoke/VarHandle" ∧ (parseMethodDescriptor yX1_rank.desc).map (fun d => d.parameters.length) = some 0 := by decide +kernel
theorem qv_X1_share : yX1_share.cls = RX1 ∧ yX1_share.cls ≠ "java/lang/invoke/MethodHandle" ∧ yX1_share.cls ≠ "java/lang/invoke/VarHandle" ∧ (parseMethodDescriptor yX1_share.desc).map (fun d => d.parameters.length) = some 2 := by decide +kernel
theorem qv_X2_raise : yX2_raise.cls = RX2 ∧ yX2_raise.cls ≠ "java/lang/invoke/MethodHandle" ∧ yX2_raise.cls ≠ "java/lang/invoke/VarHandle" ∧ (parseMethodDescriptor yX2_raise.desc).map (fun d => d.parameters.length) = some 1 := by decide +kernel
theorem qv_X3_lineUp : yX3_lineUp.cls = RX3 ∧ yX3_lineUp.cls ≠ "java/lang/invoke/MethodHandle" ∧ yX3_lineUp.cls ≠ "java/lang/invoke/VarHandle" ∧ (parseMethodDescriptor yX3_lineUp.desc).map (fun d => d.parameters.length) = some 4 := by decide +kernel
theorem qsu_X3_lineUp : yX3_lineUp.name ≠ "<init>" ∧ (parseMethodDescriptor yX3_lineUp.desc).map (fun d => d.parameters.length) = some 4 := by decide +kernel
theorem qv_X3_works : yX3_works.cls = RX3 ∧ yX3_works.cls ≠ "java/lang/invoke/MethodHandle" ∧ yX3_works.cls ≠ "java/lang/invoke/VarHandle" ∧ (parseMethodDescriptor yX3_works.desc).map (fun d => d.parameters.length) = some 2 := by decide +kernel
theorem qsu_X3_works : yX3_works.name ≠ "<init>" ∧ (parseMethodDescriptor yX3_works.desc).map (fun d => d.parameters.length) = some 2 := by decide +kernel
theorem qv_X4_levels : yX4_levels.cls = RX4 ∧ yX4_levels.cls ≠ "java/lang/invoke/MethodHandle" ∧ yX4_levels.cls ≠ "java/lang/invoke/VarHandle" ∧ (parseMethodDescriptor yX4_levels.desc).map (fun d => d.parameters.length) = some 2 := by decide +kernel
theorem qsu_X4_levels : yX4_levels.name ≠ "<init>" ∧ (parseMethodDescriptor yX4_levels.desc).map (fun d => d.parameters.length) = some 2 := by decide +kernel
theorem qv_X4_seen : yX4_seen.cls = RX4 ∧ yX4_seen.cls ≠ "java/lang/invoke/MethodHandle" ∧ yX4_seen.cls ≠ "java/lang/invoke/VarHandle" ∧ (parseMethodDescriptor yX4_seen.desc).map (fun d => d.parameters.length) = some 2 := by decide +kernel
theorem qsu_X4_seen : yX4_seen.name ≠ "<init>" ∧ (parseMethodDescriptor yX4_seen.desc).map (fun d => d.parameters.length) = some 2 := by decide +kernel
theorem qv_X5_favour : yX5_favour.cls = RX5 ∧ yX5_favour.cls ≠ "java/lang/invoke/MethodHandle" ∧ yX5_favour.cls ≠ "java/lang/invoke/VarHandle" ∧ (parseMethodDescriptor yX5_favour.desc).map (fun d => d.parameters.length) = some 1 := by decide +kernel
theorem qsu_X5_favour : yX5_favour.name ≠ "<init>" ∧ (parseMethodDescriptor yX5_favour.desc).map (fun d => d.parameters.length) = some 1 := by decide +kernel
theorem qv_X5_works : yX5_works.cls = RX5 ∧ yX5_works.cls ≠ "java/lang/invoke/MethodHandle" ∧ yX5_works.cls ≠ "java/lang/invoke/VarHandle" ∧ (parseMethodDescriptor yX5_works.desc).map (fun d => d.parameters.length) = some 2 := by decide +kernel
theorem qsu_X5_works : yX5_works.name ≠ "<init>" ∧ (parseMethodDescriptor yX5_works.desc).map (fun d => d.parameters.length) = some 2 := by decide +kernel
theorem qv_X6_favour : yX6_favour.cls = RX6 ∧ yX6_favour.cls ≠ "java/lang/invoke/MethodHandle" ∧ yX6_favour.cls ≠ "java/lang/invoke/VarHandle" ∧ (parseMethodDescriptor yX6_favour.desc).map (fun d => d.parameters.length) = some 1 := by decide +kernel
theorem qsu_X6_favour : yX6_favour.name ≠ "<init>" ∧ (parseMethodDescriptor yX6_favour.desc).map (fun d => d.parameters.length) = some 1 := by decide +kernel
theorem qv_X6_levels : yX6_levels.cls = RX6 ∧ yX6_levels.cls ≠ "java/lang/invoke/MethodHandle" ∧ yX6_levels.cls ≠ "java/lang/invoke/VarHandle" ∧ (parseMethodDescriptor yX6_levels.desc).map (fun d => d.parameters.length) = some 2 := by decide +kernel
theorem qsu_X6_levels : yX6_levels.name ≠ "<init>" ∧ (parseMethodDescriptor yX6_levels.desc).map (fun d => d.parameters.length) = some 2 := by decide +kernel
theorem qv_X7_favour : yX7_favour.cls = RX7 ∧ yX7_favour.cls ≠ "java/lang/invoke/MethodHandle" ∧ yX7_favour.cls ≠ "java/lang/invoke/VarHandle" ∧ (parseMethodDescriptor yX7_favour.desc).map (fun d => d.parameters.length) = some 1 := by decide +kernel
theorem qsu_X7_favour : yX7_favour.name ≠ "<init>" ∧ (parseMethodDescriptor yX7_favour.desc).map (fun d => d.parameters.length) = some 1 := by decide +kernel
theorem qv_X7_grades : yX7_grades.cls = RX7 ∧ yX7_grades.cls ≠ "java/lang/invoke/MethodHandle" ∧ yX7_grades.cls ≠ "java/lang/invoke/VarHandle" ∧ (parseMethodDescriptor yX7_grades.desc).map (fun d => d.parameters.length) = some 2 := by decide +kernel
theorem qsu_X7_grades : yX7_grades.name ≠ "<init>" ∧ (parseMethodDescriptor yX7_grades.desc).map (fun d => d.parameters.length) = some 2 := by decide +kernel
theorem qv_X8_begin : yX8_begin.cls = RX8 ∧ yX8_begin.cls ≠ "java/lang/invoke/MethodHandle" ∧ yX8_begin.cls ≠ "java/lang/invoke/VarHandle" ∧ (parseMethodDescriptor yX8_begin.desc).map (fun d => d.parameters.length) = some 1 := by decide +kernel
theorem qv_X9_grades : yX9_grades.cls = RX9 ∧ yX9_grades.cls ≠ "java/lang/invoke/MethodHandle" ∧ yX9_grades.cls ≠ "java/lang/invoke/VarHandle" ∧ (parseMethodDescriptor yX9_grades.desc).map (fun d => d.parameters.length) = some 2 := by decide +kernel
theorem qsu_X9_grades : yX9_grades.name ≠ "<init>" ∧ (parseMethodDescriptor yX9_grades.desc).map (fun d => d.parameters.length) = some 2 := by decide +kernel
theorem qv_X9_lineUp : yX9_lineUp.cls = RX9 ∧ yX9_lineUp.cls ≠ "java/lang/invoke/MethodHandle" ∧ yX9_lineUp.cls ≠ "java/lang/invoke/VarHandle" ∧ (parseMethodDescriptor yX9_lineUp.desc).map (fun d => d.parameters.length) = some 4 := by decide +kernel
theorem qsu_X9_lineUp : yX9_lineUp.name ≠ "<init>" ∧ (parseMethodDescriptor yX9_lineUp.desc).map (fun d => d.parameters.length) = some 4 := by decide +kernel
/-! super.x(..) where the class above inherits x -/
theorem va_sub1 {vm : Vm} {a b : ClassId} {k : Class} (h : vm.classes[a]? = some k) (hs : k.super = some b) : vm.isSubclass a b = true := by
  have hl : a < vm.classes.size := (Array.getElem?_eq_some_iff.mp h).1
  obtain ⟨n, hn⟩ : ∃ n, vm.classes.size = n + 1 := ⟨vm.classes.size - 1, (Nat.sub_add_cancel (Nat.lt_of_le_of_lt (Nat.zero_le a) hl)).symm⟩
  simp [Vm.isSubclass, hn, Vm.isSubclassAux, h, hs]
section VSX
variable {p : Program} {l : Launch} {e : Env} {R : Room} {s : State} {m : MethodId} {args : Array Value} {below : List Frame} {meth : Method} {c : Code}
theorem va_callSX {T : State} {locs : List Loc} {cells slots : Nat} (X : Stand p l e R s m args below meth c T locs cells slots) (hexec : p.tables.exec = Jvm.exec) {own : String} {index : Nat} {x y : MethodName} {bytes : ByteArray} {maxL : Nat} {ret : Option FieldType}
    (hown : s.vm.findClass own = some m.cls) (hlink : (Cond.methodLink own index x).before args s = true) (hsame : (Cond.sameMethod x.cls y.cls x.name x.desc).before args s = true) (hyx : y = ⟨y.cls, x.name, x.desc⟩) (hsup : (Cond.superclass own x.cls).before args s = true) (hsup2 : (Cond.superclass x.cls y.cls).before args s = true)
    (hinst : (Cond.instanceMethod y).before args s = true) (hcode : (Cond.code y bytes maxL ret).before args s = true) (hno : y.name ≠ "<init>")
    {W : Nat} {Pre : Pt → Array Value → Prop} {Post : Pt → Array Value → Option Value → Pt → Prop} (hK : Back l R p e below s args y 3 W Pre Post)
    {b : Addr} {cellB : Cell} {kB : Class} (hcell : T.heap[b]? = some cellB) (hobj : cellB.vm.isStatics = false) (hkB : s.vm.classes[cellB.cls]? = some kB)
    {g : JFrame} (hg : g.method = m) (hsize : g.locals.size = c.maxLocals) {argsL rest : List Value} (hlen : ∀ sig, parseMethodDescriptor y.desc = some sig → argsL.length = sig.parameters.length)
    (hstack : g.stack = argsL.reverse ++ .ref b :: rest) (hW : 2 * g.monitorRoom + (rest.map fun v => v.category).sum ≤ W) (hdg : decode c.code g.pc = .ok (.invokespecial index, 3))
    (hpre : ∀ vm₁, s.WarmedH vm₁ → Pre ⟨T.setVm vm₁, locs, cells, slots⟩ (Value.ref b :: argsL).toArray) :
    ∃ (v : Option Value) (vm₁ : Vm) (B : Pt), s.WarmedH vm₁ ∧ Stand p l e R s m args below meth c B.U B.locs B.cells B.slots ∧ Post ⟨T.setVm vm₁, locs, cells, slots⟩ (Value.ref b :: argsL).toArray v B ∧
      ∀ target, Steps p.tables e below (B.U.setTop { g with pc := g.pc + 3, stack := v.toList ++ rest }) target → Steps p.tables e below (T.setTop g) target := by
  obtain ⟨mk, methM, hnamed, hmethM, hstM, habM⟩ := Cond.instanceMethod_spec hinst
  obtain ⟨methM', cM, hmethM', -, -, -, -, -, -, hsigM⟩ := Cond.code_spec hnamed hcode
  cases hmethM.symm.trans hmethM'
  obtain ⟨ps, dk, kp, hps, hdk, hkp, hsuper, -, -, hnid⟩ := Cond.superclass_spec hown hsup
  obtain ⟨ps2, dk2, kp2, hps2, hdk2, hkp2, hsuper2, -, -, -⟩ := Cond.superclass_spec hps hsup2
  have hn : s.methodNamed? ⟨y.cls, x.name, x.desc⟩ = some mk := by rw [← hyx]; exact hnamed
  have hpm : ps2 = mk.cls := Option.some.inj (hps2.symm.trans (findClass_of_methodNamed hnamed))
  have hsub : s.vm.isSubclass ps mk.cls = true := by rw [← hpm]; exact va_sub1 hdk2 hsuper2
  have hno2 : x.name ≠ "<init>" := by rw [hyx] at hno; exact hno
  obtain ⟨vm₁, X₁, hstep₁⟩ := X.invokespecialUp hexec hown hlink hsame hn hmethM hstM habM hno2 hdk hnid hps hsuper hsub (a := b) (cell := cellB) hcell
    (fun z h => by rw [h] at hobj; cases hobj) hkB (g := g) hg (argsL := argsL) (rest := rest) (hlen _ hsigM) hstack hdg
  obtain ⟨v, B, X', hpost, hsteps⟩ := hK m meth c ⟨T.setVm vm₁, locs, cells, slots⟩ { g with stack := rest } (.invokespecial index) mk (Value.ref b :: argsL).toArray X₁ hg hsize hdg hW (X₁.named hnamed) (hpre vm₁ X₁.warmed)
  exact ⟨v, vm₁, B, X₁.warmed, X', hpost, fun target h => hstep₁ _ (by rw [doInvoke_state]; exact hsteps.trans h)⟩
variable {H : Heap} {locs : List Loc} {cells slots : Nat}
theorem va_runSX {x y : MethodName} {bytes cc : ByteArray} {maxL nL mc ms n index : Nat} {ret : Option FieldType} {ws ws' : List Cond} {rm : Room} {Pc : Array Value → State → Prop} {Qc : Array Value → State → Outcome → State → Prop} {free : Addr → Prop} {Ts : List Cond} {own C : String} {cC : ClassId} {b : Addr} {As rest : List Value} {g : JFrame}
    (hat : ClassAt s C cC) (S : CallFix p m c cc nL s args Ts own) (hM : Met l y ws rm Pc Qc mc ms free) (hG : GoodIn Ts ws) (hw : ws = Cond.code y bytes maxL ret :: ws') (hrc : rm.cells = mc) (hrs : rm.slots = ms) (hR : rm.frames + 1 ≤ R.frames ∧ 8 + (maxL + 11) + rm.locals ≤ R.locals) (hl1 : Cond.methodLink own index x ∈ Ts) (hl2 : Cond.sameMethod x.cls y.cls x.name x.desc ∈ Ts) (hyx : y = ⟨y.cls, x.name, x.desc⟩) (hl3 : Cond.superclass own x.cls ∈ Ts) (hl3b : Cond.superclass x.cls y.cls ∈ Ts) (hl4 : Cond.instanceMethod y ∈ Ts) (hini : Cond.initialized y.cls ∈ Ts) (hno : y.name ≠ "<init>" ∧ (parseMethodDescriptor y.desc).map (fun d => d.parameters.length) = some n) (hp : PreV s H C b Pc As)
    (hg : g.method = m) (hn : As.length = n) (hsize : g.locals.size = nL) (hstack : g.stack = As.reverse ++ .ref b :: rest) (hW : 2 * g.monitorRoom + (rest.map fun v => v.category).sum ≤ 8) (hdg : decode cc g.pc = .ok (.invokespecial index, 3)) (hf : cells + mc ≤ R.cells ∧ slots + ms ≤ R.slots) :
    va_Run p l e R s m args below meth c H locs cells slots mc ms g rest (Qc (Value.ref b :: As).toArray) (free) := by
  obtain ⟨hx, hb, hml, ho, ht⟩ := S
  have hc : Cond.code y bytes maxL ret ∈ ws := by rw [hw]; exact List.mem_cons_self
  have hK : Back l R p e below s args y 3 8 (PreOf R mc ms Pc) (PostOf Qc mc ms free) := back_of (bytes := bytes) (maxL := maxL) (ret := ret) hM hp.1 hrc hrs hR.1 hR.2 (pay_in ht hG) hc (fun a' U hW => word_at hW (Or.inl (by first | rfl | simp [Cond.onTables, Cond.keeps, Cond.steady])) (ht _ hini))
  obtain ⟨-, ⟨cellB, hcB, hoB, hclB⟩, hPc⟩ := hp
  obtain ⟨hfc, kB, hkB, -⟩ := hat
  cases hfc.symm.trans hclB
  have hlen : ∀ sig, parseMethodDescriptor y.desc = some sig → As.length = sig.parameters.length := fun sig h => by
    have h2 := hno.2
    rw [h] at h2
    exact hn.trans (Option.some.inj h2).symm
  intro T hT X
  obtain ⟨v, vm₁, ⟨U', l2, c2, s2⟩, hW₁, X', ⟨g', mk, t, L, e1, e2, hq, h1, hL, h2, h3⟩, st⟩ := va_callSX X hx (bytes := bytes) (maxL := maxL) (ret := ret) ho (ht _ hl1) (ht _ hl2) hyx (ht _ hl3) (ht _ hl3b) (ht _ hl4) (ht _ (hG _ hc).1) hno.1 hK (by rw [hT]; exact hcB) hoB hkB hg (hsize.trans hml.symm) (argsL := As) (rest := rest) hlen hstack hW (by rw [hb]; exact hdg)
    (fun vm₁ hW₁ => ⟨hf.1, hf.2, hPc (T.setVm vm₁) hT hW₁⟩)
  dsimp only [Pt.U, Pt.locs, Pt.cells, Pt.slots] at X' e1 e2 h1 h2 h3 st
  subst h1; subst h2; subst h3
  exact ⟨v, (T.setVm vm₁).calling g' mk (Value.ref b :: As).toArray, t, U', L, hT, X', hL, e1, e2, hq, st⟩
end VSX
section GOX
variable {Γ : gT} {cc : ByteArray} {Ts : List Cond} {own : String} {cl sl pc : Nat} {L : List (Nat × Value)} {st : List Value} {ws : va_W} {x y : MethodName} {bytes : ByteArray} {maxL index n mc ms : Nat} {wy wy' : List Cond} {rm R0 : Room} {As : List Value} {b : Nat}
theorem g_callSXiF {C : String} {ret : Option FieldType} (K : gOK Γ cc Ts own) {post : Int32 → va_W → Prop} (hM : gMi y wy rm mc ms (g_E Γ) (.ref b :: As) ws post) (hl1 : Cond.methodLink own index x ∈ Ts) (hl2 : Cond.sameMethod x.cls y.cls x.name x.desc ∈ Ts) (hl3 : Cond.superclass own x.cls ∈ Ts) (hl3b : Cond.superclass x.cls y.cls ∈ Ts) (hl4 : Cond.instanceMethod y ∈ Ts) (hini : Cond.initialized y.cls ∈ Ts) (hG : GoodIn Ts wy) (hw0 : wy = Cond.code y bytes maxL ret :: wy') (hyx : y = ⟨y.cls, x.name, x.desc⟩) (hy : y.name ≠ "<init>" ∧ (parseMethodDescriptor y.desc).map (fun d => d.parameters.length) = some n) {ci : Nat} {fs : List Value} {q : vw_C} (hrv : gfz (g_E Γ) b = some (.inr (ci, fs))) (hc : vwCl[ci]? = some q) (hq : q.1 = C) (hRm : g_R Γ = R0) (hrc : rm.cells = mc) (hrs : rm.slots = ms) (hn : As.length = n) (hR0 : rm.frames + 1 ≤ R0.frames ∧ 8 + (maxL + 11) + rm.locals ≤ R0.locals) (hst : (st.map fun v => v.category).sum ≤ 8) (hf0 : cl + mc ≤ R0.cells ∧ sl + ms ≤ R0.slots) (hd : decode cc pc = .ok (.invokespecial index, 3)) (kk : ∀ (r : Int32) (w : va_W), post r w → gGO Γ (cl + mc) (sl + ms) (pc + 3) L (.int r :: st) w) : gGO Γ cl sl pc L (As.reverse ++ .ref b :: st) ws := fun H locs ls hP hD hS h => by
  have hR : rm.frames + 1 ≤ (g_R Γ).frames ∧ 8 + (maxL + 11) + rm.locals ≤ (g_R Γ).locals := by rw [hRm]; exact hR0
  have hf : cl + mc ≤ (g_R Γ).cells ∧ sl + ms ≤ (g_R Γ).slots := by rw [hRm]; exact hf0
  have hFc : ∀ q, va_A ws H.size q → g_A Γ q := fun q z => by
    rcases z with ⟨i, e, z⟩ | z
    · exact hD.2 i (q, e) z
    · exact K.a q (Nat.le_trans hS.1 z)
  refine va_calli (va_runSX (As := As) (rest := st) (by have z := (K.K.1 _ _ hc).2; rw [hq] at z; exact z) ⟨K.x, K.b, K.n, K.o, K.t⟩ (hM (g_l Γ) H.size) hG hw0 hrc hrs hR hl1 hl2 hyx hl3 hl3b hl4 hini hy ⟨gBlind, (by have z := va_recv K.K (g_frz K hS hrv) hc (q0 := 0) rfl; rw [hq] at z; exact z), fun U hU hW => ⟨rfl, by rw [hU], by rw [hU]; exact hP, hD.weaken (fun _ _ _ z => K.an _ z), gX_go K hS U hU hW, fun q z => K.an q (K.a q (Nat.le_trans hS.1 z))⟩⟩ rfl hn h.1 rfl (lv_room hst) hd hf) hS (fun q _ z => hFc q z) hFc (fun r u t H1 locs ht hvm hw hB hz1 hk1 hS => ?_)
  obtain ⟨hP1, hK1, hD1⟩ := hB
  rw [ht] at hP1
  exact kk r u hw H1 locs ls hP1 (hD1.weaken (fun _ q _ z => hFc q.1 z)) hS h
end GOX
