def cw (E : gE) (q : Nat → Nat) (r : Nat → Nat → Nat) (pl : Nat) (o0 : Nat → Int32) (A0 : Nat → Nat → Int32) (C0 : Nat → Option Nat) (h0 : Nat) (o1 : Nat → Int32) (A1 : Nat → Nat → Int32) (C1 : Nat → Option Nat) (h1 : Nat) (o2 : Nat → Int32) (A2 : Nat → Nat → Int32) (C2 : Nat → Option Nat) (h2 : Nat) (gs : Int32) (gA : Nat → Nat → Int32) (tb : Int32) (tA bf : Nat → Int32) (hi : Int32) : va_W := [(q 5, .inr (11, [.ref (q 0), .ref (q 1), .ref (q 2), .ref (q 3), .ref (q 4), .ref (r 5 5), .int hi])),
  (q 0, .inr (10, [.int (o0 0), .int (o0 1), .int (o0 2), .int (o0 3), .int (o0 4), .int (o0 5), .int (o0 6), .int (o0 7), .ref (r 0 8), .ref (r 0 9), .ref (r 0 10), .ref (r 0 11), .ref (r 0 12), .ref (r 0 13), .ref (r 0 14), .ref (r 0 15), .ref (r 0 16), .ref (r 0 17), .ref h0])),
  (q 1, .inr (10, [.int (o1 0), .int (o1 1), .int (o1 2), .int (o1 3), .int (o1 4), .int (o1 5), .int (o1 6), .int (o1 7), .ref (r 1 8), .ref (r 1 9), .ref (r 1 10), .ref (r 1 11), .ref (r 1 12), .ref (r 1 13), .ref (r 1 14), .ref (r 1 15), .ref (r 1 16), .ref (r 1 17), .ref h1])),
  (q 2, .inr (10, [.int (o2 0), .int (o2 1), .int (o2 2), .int (o2 3), .int (o2 4), .int (o2 5), .int (o2 6), .int (o2 7), .ref (r 2 8), .ref (r 2 9), .ref (r 2 10), .ref (r 2 11), .ref (r 2 12), .ref (r 2 13), .ref (r 2 14), .ref (r 2 15), .ref (r 2 16), .ref (r 2 17), .ref h2])),
  (q 3, .inr (1, [.ref (r 3 0), .ref (r 3 1), .ref (r 3 2), .ref (r 3 3), .int gs, .ref (r 3 5), .ref pl])),
  (q 4, .inr (8, [.ref (r 4 0), .int tb])),
  (r 0 8, .inl (gI E, 10, .inl (A0 8))),
  (r 0 9, .inl (gI E, 10, .inl (A0 9))),
  (r 0 10, .inl (gI E, 10, .inl (A0 10))),
  (r 0 11, .inl (gI E, 10, .inl (A0 11))),
  (r 0 12, .inl (gI E, 10, .inl (A0 12))),
  (r 0 13, .inl (gO E, 4, .inr (.inr (.inr (.inr C0))))),
  (r 0 14, .inl (gI E, 20, .inl (A0 14))),
  (r 0 15, .inl (gI E, 20, .inl (A0 15))),
  (r 0 16, .inl (gI E, 20, .inl (A0 16))),
  (r 0 17, .inl (gCh E, 100, .inl (A0 17))),
  (r 1 8, .inl (gI E, 10, .inl (A1 8))),
  (r 1 9, .inl (gI E, 10, .inl (A1 9))),
  (r 1 10, .inl (gI E, 10, .inl (A1 10))),
  (r 1 11, .inl (gI E, 10, .inl (A1 11))),
  (r 1 12, .inl (gI E, 10, .inl (A1 12))),
  (r 1 13, .inl (gO E, 4, .inr (.inr (.inr (.inr C1))))),
  (r 1 14, .inl (gI E, 20, .inl (A1 14))),
  (r 1 15, .inl (gI E, 20, .inl (A1 15))),
  (r 1 16, .inl (gI E, 20, .inl (A1 16))),
  (r 1 17, .inl (gCh E, 100, .inl (A1 17))),
  (r 2 8, .inl (gI E, 10, .inl (A2 8))),
  (r 2 9, .inl (gI E, 10, .inl (A2 9))),
  (r 2 10, .inl (gI E, 10, .inl (A2 10))),
  (r 2 11, .inl (gI E, 10, .inl (A2 11))),
  (r 2 12, .inl (gI E, 10, .inl (A2 12))),
  (r 2 13, .inl (gO E, 4, .inr (.inr (.inr (.inr C2))))),
  (r 2 14, .inl (gI E, 20, .inl (A2 14))),
  (r 2 15, .inl (gI E, 20, .inl (A2 15))),
  (r 2 16, .inl (gI E, 20, .inl (A2 16))),
  (r 2 17, .inl (gCh E, 100, .inl (A2 17))),
  (r 3 0, .inl (gI E, 10, .inl (gA 0))),
  (r 3 1, .inl (gI E, 10, .inl (gA 1))),
  (r 3 2, .inl (gI E, 10, .inl (gA 2))),
  (r 3 3, .inl (gI E, 10, .inl (gA 3))),
  (r 3 5, .inl (gI E, 6, .inl (gA 5))),
  (r 4 0, .inl (gI E, 20, .inl tA)),
  (r 5 5, .inl (gI E, 10, .inl bf))]
theorem qs_J6_bitCount_0f7a4 : yJ6_bitCount_0f7a4.cls ≠ "java/lang/invoke/MethodHandle" ∧ yJ6_bitCount_0f7a4.cls ≠ "java/lang/invoke/VarHandle" ∧ (parseMethodDescriptor yJ6_bitCount_0f7a4.desc).map (fun d => d.parameters.length) = some 1 := by decide +kernel
theorem qv_X0_favour : yX0_favour.cls = RX0 ∧ yX0_favour.cls ≠ "java/lang/invoke/MethodHandle" ∧ yX0_favour.cls ≠ "java/lang/invoke/VarHandle" ∧ (parseMethodDescriptor yX0_favour.desc).map (fun d => d.parameters.length) = some 1 := by decide +kernel
theorem qsu_X0_favour : yX0_favour.name ≠ "<init>" ∧ (parseMethodDescriptor yX0_favour.desc).map (fun d => d.parameters.length) = some 1 := by decide +kernel
theorem qv_X0_isOfKind : yX0_isOfKind.cls = RX0 ∧ yX0_isOfKind.cls ≠ "java/lang/invoke/MethodHandle" ∧ yX0_isOfKind.cls ≠ "java/lang/invoke/VarHandle" ∧ (parseMethodDescriptor yX0_isOfKind.desc).map (fun d => d.parameters.length) = some 1 := by decide +kernel
theorem qsu_X0_isOfKind : yX0_isOfKind.name ≠ "<init>" ∧ (parseMethodDescriptor yX0_isOfKind.desc).map (fun d => d.parameters.length) = some 1 := by decide +kernel
theorem qv_X0_lineUp : yX0_lineUp.cls = RX0 ∧ yX0_lineUp.cls ≠ "java/lang/invoke/MethodHandle" ∧ yX0_lineUp.cls ≠ "java/lang/invoke/VarHandle" ∧ (parseMethodDescriptor yX0_lineUp.desc).map (fun d => d.parameters.length) = some 4 := by decide +kernel
theorem qsu_X0_lineUp : yX0_lineUp.name ≠ "<init>" ∧ (parseMethodDescriptor yX0_lineUp.desc).map (fun d => d.parameters.length) = some 4 := by decide +kernel
theorem qv_X0_seen : yX0_seen.cls = RX0 ∧ yX0_seen.cls ≠ "java/lang/invoke/MethodHandle" ∧ yX0_seen.cls ≠ "java/lang/invoke/VarHandle" ∧ (parseMethodDescriptor yX0_seen.desc).map (fun d => d.parameters.length) = some 2 := by decide +kernel
theorem qsu_X0_seen : yX0_seen.name ≠ "<init>" ∧ (parseMethodDescriptor yX0_seen.desc).map (fun d => d.parameters.length) = some 2 := by decide +kernel
theorem qv_X10_become : yX10_become.cls = RX10 ∧ yX10_become.cls ≠ "java/lang/invoke/MethodHandle" ∧ yX10_become.cls ≠ "java/lang/invoke/VarHandle" ∧ (parseMethodDescriptor yX10_become.desc).map (fun d => d.parameters.length) = some 1 := by decide +kernel
theorem qv_X10_chiefAt : yX10_chiefAt.cls = RX10 ∧ yX10_chiefAt.cls ≠ "java/lang/invoke/MethodHandle" ∧ yX10_chiefAt.cls ≠ "java/lang/invoke/VarHandle" ∧ (parseMethodDescriptor yX10_chiefAt.desc).map (fun d => d.parameters.length) = some 1 := by decide +kernel
theorem qv_X10_exchange : yX10_exchange.cls = RX10 ∧ yX10_exchange.cls ≠ "java/lang/invoke/MethodHandle" ∧ yX10_exchange.cls ≠ "java/lang/invoke/VarHandle" ∧ (parseMethodDescriptor yX10_exchange.desc).map (fun d => d.parameters.length) = some 2 := by decide +kernel
theorem qv_X10_firstGrade : yX10_firstGrade.cls = RX10 ∧ yX10_firstGrade.cls ≠ "java/lang/invoke/MethodHandle" ∧ yX10_firstGrade.cls ≠ "java/lang/invoke/VarHandle" ∧ (parseMethodDescriptor yX10_firstGrade.desc).map (fun d => d.parameters.length) = some 2 := by decide +kernel
theorem qv_X10_hasWorker : yX10_hasWorker.cls = RX10 ∧ yX10_hasWorker.cls ≠ "java/lang/invoke/MethodHandle" ∧ yX10_hasWorker.cls ≠ "java/lang/invoke/VarHandle" ∧ (parseMethodDescriptor yX10_hasWorker.desc).map (fun d => d.parameters.length) = some 1 := by decide +kernel
theorem qv_X10_replace : yX10_replace.cls = RX10 ∧ yX10_replace.cls ≠ "java/lang/invoke/MethodHandle" ∧ yX10_replace.cls ≠ "java/lang/invoke/VarHandle" ∧ (parseMethodDescriptor yX10_replace.desc).map (fun d => d.parameters.length) = some 1 := by decide +kernel
theorem qv_X10_teamBits : yX10_teamBits.cls = RX10 ∧ yX10_teamBits.cls ≠ "java/lang/invoke/MethodHandle" ∧ yX10_teamBits.cls ≠ "java/lang/invoke/VarHandle" ∧ (parseMethodDescriptor yX10_teamBits.desc).map (fun d => d.parameters.length) = some 1 := by decide +kernel
theorem qv_X10_worthTogether : yX10_worthTogether.cls = RX10 ∧ yX10_worthTogether.cls ≠ "java/lang/invoke/MethodHandle" ∧ yX10_worthTogether.cls ≠ "java/lang/invoke/VarHandle" ∧ (parseMethodDescriptor yX10_worthTogether.desc).map (fun d => d.parameters.length) = some 0 := by decide +kernel
theorem qv_X11_as : yX11_as.cls = RX11 ∧ yX11_as.cls ≠ "java/lang/invoke/MethodHandle" ∧ yX11_as.cls ≠ "java/lang/invoke/VarHandle" ∧ (parseMethodDescriptor yX11_as.desc).map (fun d => d.parameters.length) = some 2 := by decide +kernel
theorem qv_X11_best : yX11_best.cls = RX11 ∧ yX11_best.cls ≠ "java/lang/invoke/MethodHandle" ∧ yX11_best.cls ≠ "java/lang/invoke/VarHandle" ∧ (parseMethodDescriptor yX11_best.desc).map (fun d => d.parameters.length) = some 2 := by decide +kernel
theorem qv_X11_book : yX11_book.cls = RX11 ∧ yX11_book.cls ≠ "java/lang/invoke/MethodHandle" ∧ yX11_book.cls ≠ "java/lang/invoke/VarHandle" ∧ (parseMethodDescriptor yX11_book.desc).map (fun d => d.parameters.length) = some 3 := by decide +kernel
theorem qv_X11_bothGain : yX11_bothGain.cls = RX11 ∧ yX11_bothGain.cls ≠ "java/lang/invoke/MethodHandle" ∧ yX11_bothGain.cls ≠ "java/lang/invoke/VarHandle" ∧ (parseMethodDescriptor yX11_bothGain.desc).map (fun d => d.parameters.length) = some 2 := by decide +kernel
theorem qv_X11_by : yX11_by.cls = RX11 ∧ yX11_by.cls ≠ "java/lang/invoke/MethodHandle" ∧ yX11_by.cls ≠ "java/lang/invoke/VarHandle" ∧ (parseMethodDescriptor yX11_by.desc).map (fun d => d.parameters.length) = some 2 := by decide +kernel
theorem qv_X11_chance : yX11_chance.cls = RX11 ∧ yX11_chance.cls ≠ "java/lang/invoke/MethodHandle" ∧ yX11_chance.cls ≠ "java/lang/invoke/VarHandle" ∧ (parseMethodDescriptor yX11_chance.desc).map (fun d => d.parameters.length) = some 5 := by decide +kernel
theorem qs_X11_choices : yX11_choices.cls ≠ "java/lang/invoke/MethodHandle" ∧ yX11_choices.cls ≠ "java/lang/invoke/VarHandle" ∧ (parseMethodDescriptor yX11_choices.desc).map (fun d => d.parameters.length) = some 2 := by decide +kernel
theorem qv_X11_clear : yX11_clear.cls = RX11 ∧ yX11_clear.cls ≠ "java/lang/invoke/MethodHandle" ∧ yX11_clear.cls ≠ "java/lang/invoke/VarHandle" ∧ (parseMethodDescriptor yX11_clear.desc).map (fun d => d.parameters.length) = some 0 := by decide +kernel
theorem qv_X11_count : yX11_count.cls = RX11 ∧ yX11_count.cls ≠ "java/lang/invoke/MethodHandle" ∧ yX11_count.cls ≠ "java/lang/invoke/VarHandle" ∧ (parseMethodDescriptor yX11_count.desc).map (fun d => d.parameters.length) = some 1 := by decide +kernel
theorem qv_X11_feed : yX11_feed.cls = RX11 ∧ yX11_feed.cls ≠ "java/lang/invoke/MethodHandle" ∧ yX11_feed.cls ≠ "java/lang/invoke/VarHandle" ∧ (parseMethodDescriptor yX11_feed.desc).map (fun d => d.parameters.length) = some 1 := by decide +kernel
theorem qv_X11_fresh : yX11_fresh.cls = RX11 ∧ yX11_fresh.cls ≠ "java/lang/invoke/MethodHandle" ∧ yX11_fresh.cls ≠ "java/lang/invoke/VarHandle" ∧ (parseMethodDescriptor yX11_fresh.desc).map (fun d => d.parameters.length) = some 2 := by decide +kernel
theorem qv_X11_goYear : yX11_goYear.cls = RX11 ∧ yX11_goYear.cls ≠ "java/lang/invoke/MethodHandle" ∧ yX11_goYear.cls ≠ "java/lang/invoke/VarHandle" ∧ (parseMethodDescriptor yX11_goYear.desc).map (fun d => d.parameters.length) = some 2 := by decide +kernel
theorem qv_X11_gradeUnder : yX11_gradeUnder.cls = RX11 ∧ yX11_gradeUnder.cls ≠ "java/lang/invoke/MethodHandle" ∧ yX11_gradeUnder.cls ≠ "java/lang/invoke/VarHandle" ∧ (parseMethodDescriptor yX11_gradeUnder.desc).map (fun d => d.parameters.length) = some 2 := by decide +kernel
theorem qv_X11_howManyNets : yX11_howManyNets.cls = RX11 ∧ yX11_howManyNets.cls ≠ "java/lang/invoke/MethodHandle" ∧ yX11_howManyNets.cls ≠ "java/lang/invoke/VarHandle" ∧ (parseMethodDescriptor yX11_howManyNets.desc).map (fun d => d.parameters.length) = some 0 := by decide +kernel
theorem qv_X11_image : yX11_image.cls = RX11 ∧ yX11_image.cls ≠ "java/lang/invoke/MethodHandle" ∧ yX11_image.cls ≠ "java/lang/invoke/VarHandle" ∧ (parseMethodDescriptor yX11_image.desc).map (fun d => d.parameters.length) = some 0 := by decide +kernel
theorem qs_X11_isWithin : yX11_isWithin.cls ≠ "java/lang/invoke/MethodHandle" ∧ yX11_isWithin.cls ≠ "java/lang/invoke/VarHandle" ∧ (parseMethodDescriptor yX11_isWithin.desc).map (fun d => d.parameters.length) = some 2 := by decide +kernel
theorem qv_X11_leans : yX11_leans.cls = RX11 ∧ yX11_leans.cls ≠ "java/lang/invoke/MethodHandle" ∧ yX11_leans.cls ≠ "java/lang/invoke/VarHandle" ∧ (parseMethodDescriptor yX11_leans.desc).map (fun d => d.parameters.length) = some 3 := by decide +kernel
theorem qv_X11_looked : yX11_looked.cls = RX11 ∧ yX11_looked.cls ≠ "java/lang/invoke/MethodHandle" ∧ yX11_looked.cls ≠ "java/lang/invoke/VarHandle" ∧ (parseMethodDescriptor yX11_looked.desc).map (fun d => d.parameters.length) = some 0 := by decide +kernel
theorem qs_X11_lowest : yX11_lowest.cls ≠ "java/lang/invoke/MethodHandle" ∧ yX11_lowest.cls ≠ "java/lang/invoke/VarHandle" ∧ (parseMethodDescriptor yX11_lowest.desc).map (fun d => d.parameters.length) = some 3 := by decide +kernel
theorem qv_X11_mark : yX11_mark.cls = RX11 ∧ yX11_mark.cls ≠ "java/lang/invoke/MethodHandle" ∧ yX11_mark.cls ≠ "java/lang/invoke/VarHandle" ∧ (parseMethodDescriptor yX11_mark.desc).map (fun d => d.parameters.length) = some 2 := by decide +kernel
theorem qv_X11_move : yX11_move.cls = RX11 ∧ yX11_move.cls ≠ "java/lang/invoke/MethodHandle" ∧ yX11_move.cls ≠ "java/lang/invoke/VarHandle" ∧ (parseMethodDescriptor yX11_move.desc).map (fun d => d.parameters.length) = some 2 := by decide +kernel
theorem qv_X11_moved : yX11_moved.cls = RX11 ∧ yX11_moved.cls ≠ "java/lang/invoke/MethodHandle" ∧ yX11_moved.cls ≠ "java/lang/invoke/VarHandle" ∧ (parseMethodDescriptor yX11_moved.desc).map (fun d => d.parameters.length) = some 2 := by decide +kernel
theorem qv_X11_neighbours : yX11_neighbours.cls = RX11 ∧ yX11_neighbours.cls ≠ "java/lang/invoke/MethodHandle" ∧ yX11_neighbours.cls ≠ "java/lang/invoke/VarHandle" ∧ (parseMethodDescriptor yX11_neighbours.desc).map (fun d => d.parameters.length) = some 1 := by decide +kernel
theorem qv_X11_netOf : yX11_netOf.cls = RX11 ∧ yX11_netOf.cls ≠ "java/lang/invoke/MethodHandle" ∧ yX11_netOf.cls ≠ "java/lang/invoke/VarHandle" ∧ (parseMethodDescriptor yX11_netOf.desc).map (fun d => d.parameters.length) = some 1 := by decide +kernel
theorem qv_X11_nets : yX11_nets.cls = RX11 ∧ yX11_nets.cls ≠ "java/lang/invoke/MethodHandle" ∧ yX11_nets.cls ≠ "java/lang/invoke/VarHandle" ∧ (parseMethodDescriptor yX11_nets.desc).map (fun d => d.parameters.length) = some 1 := by decide +kernel
theorem qv_X11_of : yX11_of.cls = RX11 ∧ yX11_of.cls ≠ "java/lang/invoke/MethodHandle" ∧ yX11_of.cls ≠ "java/lang/invoke/VarHandle" ∧ (parseMethodDescriptor yX11_of.desc).map (fun d => d.parameters.length) = some 2 := by decide +kernel
theorem qv_X11_outByGrade : yX11_outByGrade.cls = RX11 ∧ yX11_outByGrade.cls ≠ "java/lang/invoke/MethodHandle" ∧ yX11_outByGrade.cls ≠ "java/lang/invoke/VarHandle" ∧ (parseMethodDescriptor yX11_outByGrade.desc).map (fun d => d.parameters.length) = some 1 := by decide +kernel
theorem qs_X11_outByLot : yX11_outByLot.cls ≠ "java/lang/invoke/MethodHandle" ∧ yX11_outByLot.cls ≠ "java/lang/invoke/VarHandle" ∧ (parseMethodDescriptor yX11_outByLot.desc).map (fun d => d.parameters.length) = some 2 := by decide +kernel
theorem qv_X11_set : yX11_set.cls = RX11 ∧ yX11_set.cls ≠ "java/lang/invoke/MethodHandle" ∧ yX11_set.cls ≠ "java/lang/invoke/VarHandle" ∧ (parseMethodDescriptor yX11_set.desc).map (fun d => d.parameters.length) = some 3 := by decide +kernel
theorem qv_X11_swap : yX11_swap.cls = RX11 ∧ yX11_swap.cls ≠ "java/lang/invoke/MethodHandle" ∧ yX11_swap.cls ≠ "java/lang/invoke/VarHandle" ∧ (parseMethodDescriptor yX11_swap.desc).map (fun d => d.parameters.length) = some 1 := by decide +kernel
theorem qv_X11_told : yX11_told.cls = RX11 ∧ yX11_told.cls ≠ "java/lang/invoke/MethodHandle" ∧ yX11_told.cls ≠ "java/lang/invoke/VarHandle" ∧ (parseMethodDescriptor yX11_told.desc).map (fun d => d.parameters.length) = some 1 := by decide +kernel
theorem qv_X11_trace : yX11_trace.cls = RX11 ∧ yX11_trace.cls ≠ "java/lang/invoke/MethodHandle" ∧ yX11_trace.cls ≠ "java/lang/invoke/VarHandle" ∧ (parseMethodDescriptor yX11_trace.desc).map (fun d => d.parameters.length) = some 1 := by decide +kernel
theorem qv_X11_undo : yX11_undo.cls = RX11 ∧ yX11_undo.cls ≠ "java/lang/invoke/MethodHandle" ∧ yX11_undo.cls ≠ "java/lang/invoke/VarHandle" ∧ (parseMethodDescriptor yX11_undo.desc).map (fun d => d.parameters.length) = some 0 := by decide +kernel
theorem qv_X11_worker : yX11_worker.cls = RX11 ∧ yX11_worker.cls ≠ "java/lang/invoke/MethodHandle" ∧ yX11_worker.cls ≠ "java/lang/invoke/VarHandle" ∧ (parseMethodDescriptor yX11_worker.desc).map (fun d => d.parameters.length) = some 4 := by decide +kernel
theorem qv_X11_wrong : yX11_wrong.cls = RX11 ∧ yX11_wrong.cls ≠ "java/lang/invoke/MethodHandle" ∧ yX11_wrong.cls ≠ "java/lang/invoke/VarHandle" ∧ (parseMethodDescriptor yX11_wrong.desc).map (fun d => d.parameters.length) = some 1 := by decide +kernel
theorem qv_X11_year : yX11_year.cls = RX11 ∧ yX11_year.cls ≠ "java/lang/invoke/MethodHandle" ∧ yX11_year.cls ≠ "java/lang/invoke/VarHandle" ∧ (parseMethodDescriptor yX11_year.desc).map (fun d => d.parameters.length) = some 0 := by decide +kernel
theorem qv_X11_years : yX11_years.cls = RX11 ∧ yX11_years.cls ≠ "java/lang/invoke/MethodHandle" ∧ yX11_years.cls ≠ "java/lang/invoke/VarHandle" ∧ (parseMethodDescriptor yX11_years.desc).map (fun d => d.parameters.length) = some 3 := by decide +kernel
theorem qs_X1_byMark : yX1_byMark.cls ≠ "java/lang/invoke/MethodHandle" ∧ yX1_byMark.cls ≠ "java/lang/invoke/VarHandle" ∧ (parseMethodDescriptor yX1_byMark.desc).map (fun d => d.parameters.length) = some 1 := by decide +kernel
theorem qv_X1_gather : yX1_gather.cls = RX1 ∧ yX1_gather.cls ≠ "java/lang/invoke/MethodHandle" ∧ yX1_gather.cls ≠ "java/lang/invoke/VarHandle" ∧ (parseMethodDescriptor yX1_gather.desc).map (fun d => d.parameters.length) = some 1 := by decide +kernel
theorem qv_X1_gradeAll : yX1_gradeAll.cls = RX1 ∧ yX1_gradeAll.cls ≠ "java/lang/invoke/MethodHandle" ∧ yX1_gradeAll.cls ≠ "java/lang/invoke/VarHandle" ∧ (parseMethodDescriptor yX1_gradeAll.desc).map (fun d => d.parameters.length) = some 1 := by decide +kernel
theorem qv_X1_gradeDue : yX1_gradeDue.cls = RX1 ∧ yX1_gradeDue.cls ≠ "java/lang/invoke/MethodHandle" ∧ yX1_gradeDue.cls ≠ "java/lang/invoke/VarHandle" ∧ (parseMethodDescriptor yX1_gradeDue.desc).map (fun d => d.parameters.length) = some 1 := by decide +kernel
theorem qv_X1_gradeHad : yX1_gradeHad.cls = RX1 ∧ yX1_gradeHad.cls ≠ "java/lang/invoke/MethodHandle" ∧ yX1_gradeHad.cls ≠ "java/lang/invoke/VarHandle" ∧ (parseMethodDescriptor yX1_gradeHad.desc).map (fun d => d.parameters.length) = some 2 := by decide +kernel
theorem qv_X1_gradeLevelled : yX1_gradeLevelled.cls = RX1 ∧ yX1_gradeLevelled.cls ≠ "java/lang/invoke/MethodHandle" ∧ yX1_gradeLevelled.cls ≠ "java/lang/invoke/VarHandle" ∧ (parseMethodDescriptor yX1_gradeLevelled.desc).map (fun d => d.parameters.length) = some 1 := by decide +kernel
theorem qv_X1_gradeTeam : yX1_gradeTeam.cls = RX1 ∧ yX1_gradeTeam.cls ≠ "java/lang/invoke/MethodHandle" ∧ yX1_gradeTeam.cls ≠ "java/lang/invoke/VarHandle" ∧ (parseMethodDescriptor yX1_gradeTeam.desc).map (fun d => d.parameters.length) = some 2 := by decide +kernel
theorem qv_X1_markBy : yX1_markBy.cls = RX1 ∧ yX1_markBy.cls ≠ "java/lang/invoke/MethodHandle" ∧ yX1_markBy.cls ≠ "java/lang/invoke/VarHandle" ∧ (parseMethodDescriptor yX1_markBy.desc).map (fun d => d.parameters.length) = some 3 := by decide +kernel
theorem qv_X1_markTeam : yX1_markTeam.cls = RX1 ∧ yX1_markTeam.cls ≠ "java/lang/invoke/MethodHandle" ∧ yX1_markTeam.cls ≠ "java/lang/invoke/VarHandle" ∧ (parseMethodDescriptor yX1_markTeam.desc).map (fun d => d.parameters.length) = some 2 := by decide +kernel
theorem qv_X1_meanOfTeam : yX1_meanOfTeam.cls = RX1 ∧ yX1_meanOfTeam.cls ≠ "java/lang/invoke/MethodHandle" ∧ yX1_meanOfTeam.cls ≠ "java/lang/invoke/VarHandle" ∧ (parseMethodDescriptor yX1_meanOfTeam.desc).map (fun d => d.parameters.length) = some 0 := by decide +kernel
theorem qv_X1_rank : yX1_rank.cls = RX1 ∧ yX1_rank.cls ≠ "java/lang/invoke/MethodHandle" ∧ yX1_rank.cls ≠ "java/lang/invoke/VarHandle" ∧ (parseMethodDescriptor yX1_rank.desc).map (fun d => d.parameters.length) = some 0 := by decide +kernel
theorem qv_X1_share : yX1_share.cls = RX1 ∧ yX1_share.cls ≠ "java/lang/invoke/MethodHandle" ∧ yX1_share.cls ≠ "java/lang/invoke/VarHandle" ∧ (parseMethodDescriptor yX1_share.desc).map (fun d => d.parameters.length) = some 2 := by decide +kernel
theorem qv_X2_raise : yX2_raise.cls = RX2 ∧ yX2_raise.cls ≠ "java/lang/invoke/MethodHandle" ∧ yX2_raise.cls ≠ "java/lang/invoke/VarHandle" ∧ (parseMethodDescriptor yX2_raise.desc).map (fun d => d.parameters.length) = some 1 := by decide +kernel
theorem qv_X3_lineUp : yX3_lineUp.cls = RX3 ∧ yX3_lineUp.cls ≠ "java/lang/invoke/MethodHandle" ∧ yX3_lineUp.cls ≠ "java/lang/invoke/VarHandle" ∧ (parseMethodDescriptor yX3_lineUp.desc).map (fun d => d.parameters.length) = some 4 := by decide +kernel
theorem qsu_X3_lineUp : yX3_lineUp.name ≠ "<init>" ∧ (parseMethodDescriptor yX3_lineUp.desc).map (fun d => d.parameters.length) = some 4 := by decide +kernel
theorem qv_X4_seen : yX4_seen.cls = RX4 ∧ yX4_seen.cls ≠ "java/lang/invoke/MethodHandle" ∧ yX4_seen.cls ≠ "java/lang/invoke/VarHandle" ∧ (parseMethodDescriptor yX4_seen.desc).map (fun d => d.parameters.length) = some 2 := by decide +kernel
theorem qsu_X4_seen : yX4_seen.name ≠ "<init>" ∧ (parseMethodDescriptor yX4_seen.desc).map (fun d => d.parameters.length) = some 2 := by decide +kernel
theorem qv_X5_favour : yX5_favour.cls = RX5 ∧ yX5_favour.cls ≠ "java/lang/invoke/MethodHandle" ∧ yX5_favour.cls ≠ "java/lang/invoke/VarHandle" ∧ (parseMethodDescriptor yX5_favour.desc).map (fun d => d.parameters.length) = some 1 := by decide +kernel
theorem qsu_X5_favour : yX5_favour.name ≠ "<init>" ∧ (parseMethodDescriptor yX5_favour.desc).map (fun d => d.parameters.length) = some 1 := by decide +kernel
theorem qv_X6_favour : yX6_favour.cls = RX6 ∧ yX6_favour.cls ≠ "java/lang/invoke/MethodHandle" ∧ yX6_favour.cls ≠ "java/lang/invoke/VarHandle" ∧ (parseMethodDescriptor yX6_favour.desc).map (fun d => d.parameters.length) = some 1 := by decide +kernel
theorem qsu_X6_favour : yX6_favour.name ≠ "<init>" ∧ (parseMethodDescriptor yX6_favour.desc).map (fun d => d.parameters.length) = some 1 := by decide +kernel
theorem qv_X7_favour : yX7_favour.cls = RX7 ∧ yX7_favour.cls ≠ "java/lang/invoke/MethodHandle" ∧ yX7_favour.cls ≠ "java/lang/invoke/VarHandle" ∧ (parseMethodDescriptor yX7_favour.desc).map (fun d => d.parameters.length) = some 1 := by decide +kernel
theorem qsu_X7_favour : yX7_favour.name ≠ "<init>" ∧ (parseMethodDescriptor yX7_favour.desc).map (fun d => d.parameters.length) = some 1 := by decide +kernel
theorem qv_X9_lineUp : yX9_lineUp.cls = RX9 ∧ yX9_lineUp.cls ≠ "java/lang/invoke/MethodHandle" ∧ yX9_lineUp.cls ≠ "java/lang/invoke/VarHandle" ∧ (parseMethodDescriptor yX9_lineUp.desc).map (fun d => d.parameters.length) = some 4 := by decide +kernel
theorem qsu_X9_lineUp : yX9_lineUp.name ≠ "<init>" ∧ (parseMethodDescriptor yX9_lineUp.desc).map (fun d => d.parameters.length) = some 4 := by decide +kernel
