section
theorem ok_X12_luckiest : mdB mX12_luckiest = true := by decide +kernel
theorem ok_X12_knows : mdB mX12_knows = true := by decide +kernel
theorem ok_X12_when : mdB mX12_when = true := by decide +kernel
theorem ok_X12_tell : mdB mX12_tell = true := by decide +kernel
theorem ok_X12_forget : mdB mX12_forget = true := by decide +kernel
theorem ok_X12_roadBy : mdB mX12_roadBy = true := by decide +kernel
theorem ok_X12_isFit : mdB mX12_isFit = true := by decide +kernel
theorem ok_X12_fits : mdB mX12_fits = true := by decide +kernel
theorem ok_X12_doubt : mdB mX12_doubt = true := by decide +kernel
theorem ok_X12_hold : mdB mX12_hold = true := by decide +kernel
theorem ok_X12_restore : mdB mX12_restore = true := by decide +kernel
theorem ok_X12_count : mdB mX12_count = true := by decide +kernel
theorem ok_J11_isValidCodePoint_9a6ad : mdB mJ11_isValidCodePoint_9a6ad = true := by decide +kernel
theorem ok_J11_highSurrogate_5068e : mdB mJ11_highSurrogate_5068e = true := by decide +kernel
theorem ok_J11_lowSurrogate_5068e : mdB mJ11_lowSurrogate_5068e = true := by decide +kernel
theorem ok_J6_bitCount_0f7a4 : mdB mJ6_bitCount_0f7a4 = true := by decide +kernel
theorem ok_J0_length_8abf5 : mdB mJ0_length_8abf5 = true := by decide +kernel
theorem ok_J0_charAt_5068e : mdB mJ0_charAt_5068e = true := by decide +kernel
theorem ok_J0_indexOf_0f7a4 : mdB mJ0_indexOf_0f7a4 = true := by decide +kernel
theorem ok_J0_indexOf_7cf53 : mdB mJ0_indexOf_7cf53 = true := by decide +kernel
theorem ok_J0_coder_7d493 : mdB mJ0_coder_7d493 = true := by decide +kernel
theorem ok_J0_isLatin1_aae02 : mdB mJ0_isLatin1_aae02 = true := by decide +kernel
theorem ok_J0_checkIndex_df160 : mdB mJ0_checkIndex_df160 = true := by decide +kernel
theorem ok_J0_checkBoundsBeginEnd_23922 : mdB mJ0_checkBoundsBeginEnd_23922 = true := by decide +kernel
theorem ok_J1_charAt_3b067 : mdB mJ1_charAt_3b067 = true := by decide +kernel
theorem ok_J1_canEncode_9a6ad : mdB mJ1_canEncode_9a6ad = true := by decide +kernel
theorem ok_J1_indexOf_4cfef : mdB mJ1_indexOf_4cfef = true := by decide +kernel
theorem ok_J1_indexOfChar_4cfef : mdB mJ1_indexOfChar_4cfef = true := by decide +kernel
theorem ok_J2_getChar_3b067 : mdB mJ2_getChar_3b067 = true := by decide +kernel
theorem ok_J2_length_9d52b : mdB mJ2_length_9d52b = true := by decide +kernel
theorem ok_J2_indexOf_4cfef : mdB mJ2_indexOf_4cfef = true := by decide +kernel
theorem ok_J2_indexOfChar_4cfef : mdB mJ2_indexOfChar_4cfef = true := by decide +kernel
theorem ok_J2_indexOfCharUnsafe_4cfef : mdB mJ2_indexOfCharUnsafe_4cfef = true := by decide +kernel
theorem ok_J2_indexOfSupplementary_4cfef : mdB mJ2_indexOfSupplementary_4cfef = true := by decide +kernel
theorem ok_J2_charAt_3b067 : mdB mJ2_charAt_3b067 = true := by decide +kernel
theorem ok_J2_checkIndex_2214a : mdB mJ2_checkIndex_2214a = true := by decide +kernel
theorem ok_J2_checkBoundsBeginEnd_d044e : mdB mJ2_checkBoundsBeginEnd_d044e = true := by decide +kernel
theorem ok_J3_checkIndex_8e157 : mdB mJ3_checkIndex_8e157 = true := by decide +kernel
theorem ok_J3_checkFromToIndex_8c36e : mdB mJ3_checkFromToIndex_8c36e = true := by decide +kernel
end
section
theorem all_split {f : Nat → Bool} {n k : Nat} (h1 : (List.range n).all f = true) (h2 : (List.range k).all (fun i => f (n + i)) = true) : (List.range (n + k)).all f = true := by
  rw [List.all_eq_true] at h1 h2 ⊢
  intro x hx
  have hx := List.mem_range.mp hx
  by_cases h : x < n
  · exact h1 x (List.mem_range.mpr h)
  · have := h2 (x - n) (List.mem_range.mpr (by omega))
    rwa [show n + (x - n) = x by omega] at this
def ck1 (M : MD) (pc : Nat) : Bool := match md_t M pc with
    | none => true
    | some x => decide (decode (md_c M) pc = .ok (x.1, x.2.1)) && chkI (md_k M) x
def ckW (M : MD) : Bool := (bif Nat.beq ((md_p M).getD 4 0) 1 then tsB ((md_p M).getD 1 0) (Cond.static (md_y M)) else tsB ((md_p M).getD 1 0) (Cond.instanceMethod (md_y M)))
  && (decide ((md_y M).name = "<init>") || Nat.beq ((md_p M).getD 4 0) 1 || tsB ((md_p M).getD 2 0) (Cond.selects (md_y M).cls (md_y M) (md_y M)))
  && tsB ((md_p M).getD 3 0) (Cond.initialized (md_y M).cls)
  && (plainName (md_y M).cls && decide ((parseMethodDescriptor (md_y M).desc).map (fun d => d.parameters.length) = some ((md_p M).getD 5 0))) && decide ((md_y M).cls = clN (md_k M)) && Nat.ble (md_n M) 60
  && decide ((md_y M).cls ≠ "java/lang/invoke/MethodHandle") && decide ((md_y M).cls ≠ "java/lang/invoke/VarHandle")
theorem mdB_of {M : MD} (h1 : (List.range (md_s M)).all (ck1 M) = true) (h2 : tblAt ((md_p M).getD 0 0) = some (Cond.code (md_y M) (md_c M) (md_n M) (md_r M))) (h3 : ckW M = true) : mdB M = true := by
  have h2' : tsB ((md_p M).getD 0 0) (Cond.code (md_y M) (md_c M) (md_n M) (md_r M)) = true := by
    unfold tsB
    rw [decide_eq_true h2]
    rfl
  unfold ckW at h3
  simp only [Bool.and_eq_true] at h3
  unfold mdB
  simp only [Bool.and_eq_true]
  obtain ⟨⟨⟨⟨⟨⟨⟨h31, h32⟩, h33⟩, h34⟩, h35⟩, h36⟩, h37⟩, h38⟩ := h3
  exact ⟨⟨⟨⟨⟨⟨⟨⟨⟨h1, h2'⟩, h31⟩, h32⟩, h33⟩, h34⟩, h35⟩, h36⟩, h37⟩, h38⟩
theorem okA_0 : (List.range 166).all (fun i => ck1 mX12_init (0 + i)) = true := by decide +kernel
theorem okA_1 : (List.range 94).all (fun i => ck1 mX12_init (166 + i)) = true := by decide +kernel
theorem okA_2 : (List.range 73).all (fun i => ck1 mX12_init (260 + i)) = true := by decide +kernel
theorem okA_3 : (List.range 59).all (fun i => ck1 mX12_init (333 + i)) = true := by decide +kernel
theorem okA_4 : (List.range 51).all (fun i => ck1 mX12_init (392 + i)) = true := by decide +kernel
theorem okA_5 : (List.range 38).all (fun i => ck1 mX12_init (443 + i)) = true := by decide +kernel
theorem okA_6 : (List.range 39).all (fun i => ck1 mX12_init (481 + i)) = true := by decide +kernel
theorem okA_7 : (List.range 37).all (fun i => ck1 mX12_init (520 + i)) = true := by decide +kernel
theorem okA_8 : (List.range 35).all (fun i => ck1 mX12_init (557 + i)) = true := by decide +kernel
theorem okA_9 : (List.range 30).all (fun i => ck1 mX12_init (592 + i)) = true := by decide +kernel
theorem okA_10 : (List.range 33).all (fun i => ck1 mX12_init (622 + i)) = true := by decide +kernel
theorem okA_11 : (List.range 27).all (fun i => ck1 mX12_init (655 + i)) = true := by decide +kernel
theorem okA_12 : (List.range 28).all (fun i => ck1 mX12_init (682 + i)) = true := by decide +kernel
theorem okA_13 : (List.range 30).all (fun i => ck1 mX12_init (710 + i)) = true := by decide +kernel
theorem okA_14 : (List.range 26).all (fun i => ck1 mX12_init (740 + i)) = true := by decide +kernel
theorem okA_15 : (List.range 26).all (fun i => ck1 mX12_init (766 + i)) = true := by decide +kernel
theorem okA_16 : (List.range 25).all (fun i => ck1 mX12_init (792 + i)) = true := by decide +kernel
theorem okA_17 : (List.range 3).all (fun i => ck1 mX12_init (817 + i)) = true := by decide +kernel
theorem okB_0 : (List.range 166).all (ck1 mX12_init) = true := by
  have h := all_split (f := ck1 mX12_init) (n := 0) (k := 166) rfl okA_0
  rwa [show 0 + 166 = 166 from rfl] at h
theorem okB_1 : (List.range 260).all (ck1 mX12_init) = true := by
  have h := all_split (f := ck1 mX12_init) (n := 166) (k := 94) okB_0 okA_1
  rwa [show 166 + 94 = 260 from rfl] at h
theorem okB_2 : (List.range 333).all (ck1 mX12_init) = true := by
  have h := all_split (f := ck1 mX12_init) (n := 260) (k := 73) okB_1 okA_2
  rwa [show 260 + 73 = 333 from rfl] at h
theorem okB_3 : (List.range 392).all (ck1 mX12_init) = true := by
  have h := all_split (f := ck1 mX12_init) (n := 333) (k := 59) okB_2 okA_3
  rwa [show 333 + 59 = 392 from rfl] at h
theorem okB_4 : (List.range 443).all (ck1 mX12_init) = true := by
  have h := all_split (f := ck1 mX12_init) (n := 392) (k := 51) okB_3 okA_4
  rwa [show 392 + 51 = 443 from rfl] at h
theorem okB_5 : (List.range 481).all (ck1 mX12_init) = true := by
  have h := all_split (f := ck1 mX12_init) (n := 443) (k := 38) okB_4 okA_5
  rwa [show 443 + 38 = 481 from rfl] at h
theorem okB_6 : (List.range 520).all (ck1 mX12_init) = true := by
  have h := all_split (f := ck1 mX12_init) (n := 481) (k := 39) okB_5 okA_6
  rwa [show 481 + 39 = 520 from rfl] at h
theorem okB_7 : (List.range 557).all (ck1 mX12_init) = true := by
  have h := all_split (f := ck1 mX12_init) (n := 520) (k := 37) okB_6 okA_7
  rwa [show 520 + 37 = 557 from rfl] at h
theorem okB_8 : (List.range 592).all (ck1 mX12_init) = true := by
  have h := all_split (f := ck1 mX12_init) (n := 557) (k := 35) okB_7 okA_8
  rwa [show 557 + 35 = 592 from rfl] at h
theorem okB_9 : (List.range 622).all (ck1 mX12_init) = true := by
  have h := all_split (f := ck1 mX12_init) (n := 592) (k := 30) okB_8 okA_9
  rwa [show 592 + 30 = 622 from rfl] at h
theorem okB_10 : (List.range 655).all (ck1 mX12_init) = true := by
  have h := all_split (f := ck1 mX12_init) (n := 622) (k := 33) okB_9 okA_10
  rwa [show 622 + 33 = 655 from rfl] at h
theorem okB_11 : (List.range 682).all (ck1 mX12_init) = true := by
  have h := all_split (f := ck1 mX12_init) (n := 655) (k := 27) okB_10 okA_11
  rwa [show 655 + 27 = 682 from rfl] at h
theorem okB_12 : (List.range 710).all (ck1 mX12_init) = true := by
  have h := all_split (f := ck1 mX12_init) (n := 682) (k := 28) okB_11 okA_12
  rwa [show 682 + 28 = 710 from rfl] at h
theorem okB_13 : (List.range 740).all (ck1 mX12_init) = true := by
  have h := all_split (f := ck1 mX12_init) (n := 710) (k := 30) okB_12 okA_13
  rwa [show 710 + 30 = 740 from rfl] at h
theorem okB_14 : (List.range 766).all (ck1 mX12_init) = true := by
  have h := all_split (f := ck1 mX12_init) (n := 740) (k := 26) okB_13 okA_14
  rwa [show 740 + 26 = 766 from rfl] at h
theorem okB_15 : (List.range 792).all (ck1 mX12_init) = true := by
  have h := all_split (f := ck1 mX12_init) (n := 766) (k := 26) okB_14 okA_15
  rwa [show 766 + 26 = 792 from rfl] at h
theorem okB_16 : (List.range 817).all (ck1 mX12_init) = true := by
  have h := all_split (f := ck1 mX12_init) (n := 792) (k := 25) okB_15 okA_16
  rwa [show 792 + 25 = 817 from rfl] at h
theorem okB_17 : (List.range 820).all (ck1 mX12_init) = true := by
  have h := all_split (f := ck1 mX12_init) (n := 817) (k := 3) okB_16 okA_17
  rwa [show 817 + 3 = 820 from rfl] at h
theorem ok_X12_init : mdB mX12_init = true := mdB_of okB_17 rfl (by decide +kernel)
end
section
theorem cok {b : Bool} {x y : MD} (hx : mdB x = true) (hy : mdB y = true) : mdB (cond b x y) = true := by cases b <;> assumption
set_option maxRecDepth 100000 in
theorem allOk (k : Nat) : mdB (mdOf k) = true := (cok (cok (cok (cok (cok (cok (cok (cok ok_X0_init ok_X0_clear) (cok ok_X0_settleBegins (cok ok_X0_addStep ok_X0_addRoad))) (cok (cok ok_X0_addSleeper ok_X0_setLaw) (cok ok_X0_isStep (cok ok_X0_isSleeper ok_X0_goodOf)))) (cok (cok (cok ok_X0_waysFrom ok_X0_isEnd) (cok ok_X0_target (cok ok_X0_bedOf ok_X0_spanOf))) (cok (cok ok_X0_otherBedOf (cok ok_X0_lawOf ok_X1_init)) (cok ok_X1_add (cok ok_X1_addJump ok_X1_landHere))))) (cok (cok (cok (cok ok_X1_valueOf ok_X1_landing) (cok ok_X1_variable (cok ok_X1_joined ok_X2_init))) (cok (cok ok_X2_start ok_X2_chosenAt) (cok ok_X2_soonest (cok ok_X2_seek ok_X2_choose)))) (cok (cok (cok ok_X2_fairest ok_X2_weigh) (cok ok_X3_init (cok ok_X3_write ok_X3_copyFrom))) (cok (cok ok_X3_whoAt (cok ok_X3_stepAt ok_X3_handedOn)) (cok ok_X3_followed (cok ok_X3_dreamersOf ok_X3_hourOf)))))) (cok (cok (cok (cok (cok ok_X3_longestRow ok_X3_dreamtHours) (cok ok_X4_init (cok ok_X4_clear ok_X4_keep))) (cok (cok ok_X4_takeBack ok_X4_isHeld) (cok ok_X4_heldSlots (cok ok_X4_fillSlot ok_X4_pourSlot)))) (cok (cok (cok ok_X5_init ok_X5_start) (cok ok_X5_readTells (cok ok_X5_handOver ok_X5_takeStep))) (cok (cok ok_X5_takeRoad (cok ok_X5_takeSleeper ok_X5_takeDoes)) (cok ok_X5_takeBegins (cok ok_X5_takeNaps ok_X5_takeSeed))))) (cok (cok (cok (cok ok_X5_takeLaw ok_X5_takeSum) (cok ok_X5_takeProduct (cok ok_X5_takeUnit ok_X5_take))) (cok (cok ok_X5_takeInt ok_X5_takeNewName) (cok ok_X5_stepTaken (cok ok_X5_sleeperTaken ok_X5_bearerTaken)))) (cok (cok (cok ok_X5_taken ok_X5_stopAt) (cok ok_X5_blame (cok ok_X6_init ok_X6_begin))) (cok (cok ok_X6_copyFrom (cok ok_X6_of ok_X6_put)) (cok ok_X6_add (cok ok_X6_isAsleep ok_X6_asleep))))))) (cok (cok (cok (cok (cok (cok ok_X6_tells ok_X6_layDown) (cok ok_X6_rouse (cok ok_X6_passHours ok_X6_goToBed))) (cok (cok ok_X6_settleDreamer ok_X6_dream) (cok ok_X6_roadTaken (cok ok_X6_sleepAnHour ok_X6_sleepInLine)))) (cok (cok (cok ok_X6_lot ok_X6_mixed) (cok ok_X7_init (cok ok_X7_hasRoom ok_X7_addInt))) (cok (cok ok_X7_byteAt (cok ok_X7_cut ok_X7_skipBlanks)) (cok ok_X7_cutOne (cok ok_X7_cutLetters ok_X7_cutDigits))))) (cok (cok (cok (cok ok_X7_kindOfWord ok_X7_withLetter) (cok ok_X7_isBlank (cok ok_X7_isLetter ok_X7_isDigit))) (cok (cok ok_X8_init ok_X8_add) (cok ok_X8_fitting (cok ok_X8_isFitting ok_X8_roadBy)))) (cok (cok (cok ok_X8_doubted ok_X9_init) (cok ok_X9_later (cok ok_X9_nextEnd ok_X9_gainOf))) (cok (cok ok_X9_restingSets (cok ok_X9_tryBeds ok_X9_isResting)) (cok ok_X9_comesRound (cok ok_X9_likeness ok_X9_bestHour)))))) (cok (cok (cok (cok (cok ok_X9_bestStep ok_X9_goodOfAll) (cok ok_X9_quietHours (cok ok_X9_neededFor ok_X9_isDreamt))) (cok (cok ok_X9_endsBySeeds ok_X10_init) (cok ok_X10_reachable (cok ok_X10_targetsOf ok_X10_distance)))) (cok (cok (cok ok_X10_bringNearer ok_X10_farFrom) (cok ok_X10_onTheWay (cok ok_X10_nearer ok_X10_withoutEnd))) (cok (cok ok_X10_bestRow (cok ok_X10_bestNext ok_X10_bestIn)) (cok ok_X11_init (cok ok_X11_feed ok_X11_back))))) (cok (cok (cok (cok ok_X11_read ok_X11_place) (cok ok_X11_now (cok ok_X11_sleeper ok_X11_was))) (cok (cok ok_X11_hours ok_X11_nap) (cok ok_X11_wake (cok ok_X11_bed ok_X11_set)))) (cok (cok (cok ok_X11_undo ok_X11_then) (cok ok_X11_ends (cok ok_X11_gains ok_X11_line))) (cok (cok ok_X11_lineAt (cok ok_X11_fair ok_X11_rests)) (cok ok_X11_round (cok ok_X11_reach ok_X11_far)))))))) (cok (cok (cok (cok (cok (cok (cok ok_X11_farAt ok_X11_trapped) (cok ok_X11_bestBed (cok ok_X11_bestStart ok_X11_free))) (cok (cok ok_X11_handed ok_X11_luckiest) (cok ok_X11_best (cok ok_X11_needed ok_X11_mean)))) (cok (cok (cok ok_X11_knows ok_X11_when) (cok ok_X11_behind (cok ok_X11_longest ok_X11_tell))) (cok (cok ok_X11_forget (cok ok_X11_fits ok_X11_doubt)) (cok ok_X11_hold (cok ok_X11_restore ok_X11_count))))) (cok (cok (cok (cok ok_X11_beginAnew ok_X11_isStep) (cok ok_X11_isSleeper (cok ok_X11_isHourOfDay ok_X12_init))) (cok (cok ok_X12_feed ok_X12_put) (cok ok_X12_back (cok ok_X12_byteAt ok_X12_isDigit)))) (cok (cok (cok ok_X12_isLetter ok_X12_appends) (cok ok_X12_word (cok ok_X12_token ok_X12_cut))) (cok (cok ok_X12_sign (cok ok_X12_is ok_X12_fail)) (cok ok_X12_wrong (cok ok_X12_goesOn ok_X12_must)))))) (cok (cok (cok (cok (cok ok_X12_plain ok_X12_read) (cok ok_X12_place (cok ok_X12_roomFor ok_X12_tellOne))) (cok (cok ok_X12_named ok_X12_notes) (cok ok_X12_known (cok ok_X12_bounded ok_X12_tellStep)))) (cok (cok (cok ok_X12_tellRoad ok_X12_tellSleeper) (cok ok_X12_tellLaw (cok ok_X12_term ok_X12_emit))) (cok (cok ok_X12_comesOut (cok ok_X12_expression ok_X12_unit)) (cok ok_X12_termOf (cok ok_X12_in ok_X12_isStep))))) (cok (cok (cok (cok ok_X12_isSleeper ok_X12_plainly) (cok ok_X12_begins (cok ok_X12_keepsRow ok_X12_copies))) (cok (cok ok_X12_mixed ok_X12_lotOf) (cok ok_X12_doesNow (cok ok_X12_isEnd ok_X12_fallsAsleep)))) (cok (cok (cok ok_X12_dreams ok_X12_sleepsOne) (cok ok_X12_toBed (cok ok_X12_hourGoes ok_X12_goes))) (cok (cok ok_X12_asleepNow (cok ok_X12_tellsNow ok_X12_now)) (cok ok_X12_sleeper (cok ok_X12_was ok_X12_keeps))))))) (cok (cok (cok (cok (cok (cok ok_X12_hours ok_X12_nap) (cok ok_X12_wakes (cok ok_X12_wake ok_X12_bed))) (cok (cok ok_X12_set ok_X12_undo) (cok ok_X12_isLong (cok ok_X12_then ok_X12_ends)))) (cok (cok (cok ok_X12_moreOf ok_X12_gains) (cok ok_X12_firstOrder (cok ok_X12_nextOrder ok_X12_goesInLine))) (cok (cok ok_X12_fillsLine (cok ok_X12_line ok_X12_lineAt)) (cok ok_X12_fair (cok ok_X12_fillsBeds ok_X12_isResting))))) (cok (cok (cok (cok ok_X12_rests ok_X12_bestBed) (cok ok_X12_bestStart (cok ok_X12_isState ok_X12_round))) (cok (cok ok_X12_free ok_X12_needed) (cok ok_X12_isDreamt (cok ok_X12_mean ok_X12_wayOf)))) (cok (cok (cok ok_X12_fillsFar ok_X12_reach) (cok ok_X12_far (cok ok_X12_farBetween ok_X12_farAt))) (cok (cok ok_X12_trapped (cok ok_X12_nextOf ok_X12_nextsOf)) (cok ok_X12_bestNext (cok ok_X12_best ok_X12_handed)))))) (cok (cok (cok (cok (cok ok_X12_behind ok_X12_longestOf) (cok ok_X12_longest (cok ok_X12_luckiest ok_X12_knows))) (cok (cok ok_X12_when ok_X12_tell) (cok ok_X12_forget (cok ok_X12_roadBy ok_X12_isFit)))) (cok (cok (cok ok_X12_fits ok_X12_doubt) (cok ok_X12_hold (cok ok_X12_restore ok_X12_count))) (cok (cok ok_J11_isValidCodePoint_9a6ad (cok ok_J11_highSurrogate_5068e ok_J11_lowSurrogate_5068e)) (cok ok_J6_bitCount_0f7a4 (cok ok_J0_length_8abf5 ok_J0_charAt_5068e))))) (cok (cok (cok (cok ok_J0_indexOf_0f7a4 ok_J0_indexOf_7cf53) (cok ok_J0_coder_7d493 (cok ok_J0_isLatin1_aae02 ok_J0_checkIndex_df160))) (cok (cok ok_J0_checkBoundsBeginEnd_23922 ok_J1_charAt_3b067) (cok ok_J1_canEncode_9a6ad (cok ok_J1_indexOf_4cfef ok_J1_indexOfChar_4cfef)))) (cok (cok (cok ok_J2_getChar_3b067 ok_J2_length_9d52b) (cok ok_J2_indexOf_4cfef (cok ok_J2_indexOfChar_4cfef ok_J2_indexOfCharUnsafe_4cfef))) (cok (cok ok_J2_indexOfSupplementary_4cfef (cok ok_J2_charAt_3b067 ok_J2_checkIndex_2214a)) (cok ok_J2_checkBoundsBeginEnd_d044e (cok ok_J3_checkIndex_8e157 ok_J3_checkFromToIndex_8c36e)))))))))
end
section
/-! runs of the abstract machine that come to an end and make no cell -/
def Ex (d : Nat) (M : MD) (pc : Nat) (lv : List (Nat × Value)) (st : List Value) (w : List AE) (P : Option Value → List AE → Prop) : Prop :=
  ∃ (fu n : Nat) (r : Option Value) (w' : List AE), evalB (evalM fu d) M n pc lv st w 0 0 = some (r, w', 0, 0) ∧ P r w'
def MEx (d b0 : Nat) (av : List Value) (w : List AE) (P : Option Value → List AE → Prop) : Prop :=
  ∃ (fu : Nat) (r : Option Value) (w' : List AE), evalM fu d b0 av w = some (r, w', 0, 0) ∧ P r w'
theorem evB_s {ev : Nat → List Value → List AE → Option RS} {M : MD} (n pc : Nat) (lv : List (Nat × Value)) (st : List Value) (w : List AE) (a b : Nat) :
    evalB ev M (n + 1) pc lv st w a b = (match md_i M pc with
      | none => none
      | some x => match stepI M x pc lv st w with
        | some z => evalB ev M n z.1 z.2.1 z.2.2.1 z.2.2.2.1 (a + z.2.2.2.2.1) (b + z.2.2.2.2.2)
        | none => match retS M x st with
          | some r => some ((r, w, a, b) : RS)
          | none => match callP x st w with
            | none => none
            | some q => match ev q.1 q.2.1 w with
              | none => none
              | some y => bif callW w y.2.1 lv q.2.2 then evalB ev M n (pc + 3) lv (y.1.toList ++ q.2.2) y.2.1 (a + y.2.2.1) (b + y.2.2.2) else none) := rfl
theorem evB_mono {ev ev' : Nat → List Value → List AE → Option RS} {M : MD} (h : ∀ b av w y, ev b av w = some y → ev' b av w = some y) :
    ∀ (n n' pc : Nat) (lv : List (Nat × Value)) (st : List Value) (w : List AE) (a b : Nat) (y : RS), n ≤ n' → evalB ev M n pc lv st w a b = some y → evalB ev' M n' pc lv st w a b = some y := by
  intro n
  induction n with
  | zero => intro n' pc lv st w a b y _ h; cases h
  | succ n ih =>
    intro n' pc lv st w a b y hn hy
    obtain ⟨k, rfl⟩ : ∃ k, n' = k + 1 := ⟨n' - 1, by omega⟩
    have hn : n ≤ k := by omega
    rw [evB_s] at hy ⊢
    cases hx : md_i M pc with
    | none => simp only [hx] at hy; cases hy
    | some x =>
      simp only [hx] at hy ⊢
      cases hz : stepI M x pc lv st w with
      | some z => simp only [hz] at hy ⊢; exact ih _ _ _ _ _ _ _ _ hn hy
      | none =>
        simp only [hz] at hy ⊢
        cases hr : retS M x st with
        | some r => simp only [hr] at hy ⊢; exact hy
        | none =>
          simp only [hr] at hy ⊢
          cases hq : callP x st w with
          | none => simp only [hq] at hy; cases hy
          | some q =>
            simp only [hq] at hy ⊢
            cases he : ev q.1 q.2.1 w with
            | none => simp only [he] at hy; cases hy
            | some y0 =>
              simp only [he] at hy
              simp only [h _ _ _ _ he]
              cases hb : callW w y0.2.1 lv q.2.2 with
              | false => simp only [hb, cond_false] at hy; cases hy
              | true => simp only [hb, cond_true] at hy ⊢; exact ih _ _ _ _ _ _ _ _ hn hy
theorem evM_s (fu d b0 : Nat) (av : List Value) (w : List AE) : evalM fu (d + 1) b0 av w = (bif Nat.ble (lg_sl av).length (md_n (mdOf b0)) then evalB (evalM fu d) (mdOf b0) fu 0 (lv_args 0 av) [] w 0 0 else none) := rfl
theorem evM_mono {fu fu' : Nat} (hf : fu ≤ fu') : ∀ (d b0 : Nat) (av : List Value) (w : List AE) (y : RS), evalM fu d b0 av w = some y → evalM fu' d b0 av w = some y := by
  intro d
  induction d with
  | zero => intro b0 av w y h; cases h
  | succ d ih =>
    intro b0 av w y h
    rw [evM_s] at h ⊢
    cases hb : Nat.ble (lg_sl av).length (md_n (mdOf b0)) with
    | false => simp only [hb, cond_false] at h; cases h
    | true => simp only [hb, cond_true] at h ⊢; exact evB_mono ih _ _ _ _ _ _ _ _ _ hf h
theorem evM_up {fu : Nat} : ∀ (d b0 : Nat) (av : List Value) (w : List AE) (y : RS), evalM fu d b0 av w = some y → evalM fu (d + 1) b0 av w = some y := by
  intro d
  induction d with
  | zero => intro b0 av w y h; cases h
  | succ d ih =>
    intro b0 av w y h
    rw [evM_s] at h ⊢
    cases hb : Nat.ble (lg_sl av).length (md_n (mdOf b0)) with
    | false => simp only [hb, cond_false] at h; cases h
    | true => simp only [hb, cond_true] at h ⊢; exact evB_mono ih _ _ _ _ _ _ _ _ _ (Nat.le_refl _) h
section EXR
variable {d b0 pc : Nat} {M : MD} {lv : List (Nat × Value)} {st : List Value} {w : List AE} {P P' : Option Value → List AE → Prop} {x : IE}
theorem ex_step {pc' : Nat} {lv' : List (Nat × Value)} {st' : List Value} {w' : List AE} (hi : md_i M pc = some x) (hs : stepI M x pc lv st w = some (pc', lv', st', w', 0, 0)) (h : Ex d M pc' lv' st' w' P) : Ex d M pc lv st w P := by
  obtain ⟨fu, n, r, w2, h1, h2⟩ := h
  refine ⟨fu, n + 1, r, w2, ?_, h2⟩
  rw [evB_s]
  simp only [hi, hs]
  exact h1
theorem ex_ret {r : Option Value} (hi : md_i M pc = some x) (hs : stepI M x pc lv st w = none) (hr : retS M x st = some r) (hp : P r w) : Ex d M pc lv st w P := by
  refine ⟨0, 1, r, w, ?_, hp⟩
  rw [evB_s]
  simp only [hi, hs, hr]
theorem ex_call {q : Nat × List Value × List Value} (hi : md_i M pc = some x) (hs : stepI M x pc lv st w = none) (hr : retS M x st = none) (hq : callP x st w = some q) (hc : MEx d q.1 q.2.1 w P')
    (hk : ∀ r w', P' r w' → w'.length = w.length ∧ Ex d M (pc + 3) lv (r.toList ++ q.2.2) w' P) : Ex d M pc lv st w P := by
  obtain ⟨fu1, r1, w1, e1, p1⟩ := hc
  obtain ⟨hl, fu2, n2, r2, w2, e2, p2⟩ := hk r1 w1 p1
  refine ⟨max fu1 fu2, n2 + 1, r2, w2, ?_, p2⟩
  have e1' := evM_mono (Nat.le_max_left fu1 fu2) _ _ _ _ _ e1
  have e2' := evB_mono (evM_mono (Nat.le_max_right fu1 fu2) d) _ _ _ _ _ _ _ _ _ (Nat.le_refl _) e2
  have hb : callW w w1 lv q.2.2 = true := by
    unfold callW
    rw [hl]
    simp
  rw [evB_s]
  simp only [hi, hs, hr, hq, e1', hb, cond_true]
  exact e2'
theorem ex_post (h : Ex d M pc lv st w P) (hp : ∀ r w', P r w' → P' r w') : Ex d M pc lv st w P' := by
  obtain ⟨fu, n, r, w2, h1, h2⟩ := h
  exact ⟨fu, n, r, w2, h1, hp _ _ h2⟩
theorem mex_post {av : List Value} (h : MEx d b0 av w P) (hp : ∀ r w', P r w' → P' r w') : MEx d b0 av w P' := by
  obtain ⟨fu, r, w2, h1, h2⟩ := h
  exact ⟨fu, r, w2, h1, hp _ _ h2⟩
theorem mex_of {av : List Value} (hsl : (lg_sl av).length ≤ md_n (mdOf b0)) (h : Ex d (mdOf b0) 0 (lv_args 0 av) [] w P) : MEx (d + 1) b0 av w P := by
  obtain ⟨fu, n, r, w2, h1, h2⟩ := h
  refine ⟨max fu n, r, w2, ?_, h2⟩
  rw [evM_s, show Nat.ble (lg_sl av).length (md_n (mdOf b0)) = true from Nat.ble_eq_true_of_le hsl]
  exact evB_mono (evM_mono (Nat.le_max_left fu n) d) _ _ _ _ _ _ _ _ _ (Nat.le_max_right fu n) h1
theorem mex_up1 {av : List Value} (h : MEx d b0 av w P) : MEx (d + 1) b0 av w P := by
  obtain ⟨fu, r, w2, h1, h2⟩ := h
  exact ⟨fu, r, w2, evM_up _ _ _ _ _ h1, h2⟩
theorem mex_up {d' : Nat} {av : List Value} (hd : d ≤ d') (h : MEx d b0 av w P) : MEx d' b0 av w P := by
  obtain ⟨k, rfl⟩ := Nat.exists_eq_add_of_le hd
  induction k with
  | zero => exact h
  | succ k ih => exact mex_up1 (ih (Nat.le_add_right _ _))
end EXR
end
section
/-! what the checker knows of a value: an interval; a symbol and an offset; an interval not below a symbol and an offset; a long's interval; a cell of a type; the row in a field of this object; a given cell (0: this object) -/
/-- a symbol and an offset that a value isn't below; with a second symbol: their sum and the offset -/
abbrev BS : Type := Nat × Int × Option Nat
abbrev AV : Type := (Int × Int) ⊕ ((Nat × Int) ⊕ ((Int × Int × BS) ⊕ ((Int × Int) ⊕ (Nat ⊕ (Nat ⊕ Nat)))))
abbrev vI (lo hi : Int) : AV := .inl (lo, hi)
abbrev vS (k : Nat) (d : Int) : AV := .inr (.inl (k, d))
abbrev vG (lo hi : Int) (b : BS) : AV := .inr (.inr (.inl (lo, hi, b)))
abbrev vL (lo hi : Int) : AV := .inr (.inr (.inr (.inl (lo, hi))))
abbrev vR (t : Nat) : AV := .inr (.inr (.inr (.inr (.inl t))))
abbrev vA (sl : Nat) : AV := .inr (.inr (.inr (.inr (.inr (.inl sl)))))
abbrev vX (n : Nat) : AV := .inr (.inr (.inr (.inr (.inr (.inr n)))))
/-- a type of cells: an object of a class with its fields; ints (bytes, booleans) with their bounds; longs; references -/
abbrev TD : Type := (Nat × List AV) ⊕ ((Nat × Nat × ((Int × Int) ⊕ (Nat → Int × Int))) ⊕ (Nat ⊕ (Nat × Nat × Nat)))
/-- the type of a cell (0: none), the types, the row in a field of an object -/
abbrev WE : Type := (Nat → Nat) × (Nat → TD) × (Nat → Nat → Nat)
/-- a symbol's bounds, whether it is not 0, a symbol and an offset that it isn't below -/
abbrev CE : Type := Int × Int × Bool × Option BS
/-- symbols, how many there are, locals, stack, fields of this object, elements of rows of this object -/
abbrev AS : Type := List (Nat × CE) × Nat × List (Nat × AV) × List AV × List (Nat × AV) × List (Nat × AV × AV)
def relB (ρ : List Int) (b : BS) (z : Int) : Prop := match b.2.2 with
  | none => ∃ z', ρ[b.1]? = some z' ∧ z' + b.2.1 ≤ z
  | some k2 => ∃ z1 z2, ρ[b.1]? = some z1 ∧ ρ[k2]? = some z2 ∧ z = z1 + z2 + b.2.1
def gv (E : WE) (th : Nat) (ρ : List Int) : AV → Value → Prop
  | .inl (lo, hi), v => ∃ x : Int32, v = .int x ∧ lo ≤ x.toInt ∧ x.toInt ≤ hi
  | .inr (.inl (k, d)), v => ∃ (x : Int32) (z : Int), v = .int x ∧ ρ[k]? = some z ∧ x.toInt = z + d
  | .inr (.inr (.inl (lo, hi, b))), v => ∃ x : Int32, v = .int x ∧ lo ≤ x.toInt ∧ x.toInt ≤ hi ∧ relB ρ b x.toInt
  | .inr (.inr (.inr (.inl (lo, hi)))), v => ∃ x : Int64, v = .long x ∧ lo ≤ x.toInt ∧ x.toInt ≤ hi
  | .inr (.inr (.inr (.inr (.inl t)))), v => ∃ k, v = .ref k ∧ E.1 k = t ∧ t ≠ 0
  | .inr (.inr (.inr (.inr (.inr (.inl sl))))), v => v = .ref (E.2.2 th sl)
  | .inr (.inr (.inr (.inr (.inr (.inr n))))), v => v = .ref (bif Nat.beq n 0 then th else n)
/-- a field as it is declared -/
def gd (E : WE) (c j : Nat) : AV → Value → Prop
  | .inl (lo, hi), v => ∃ x : Int32, v = .int x ∧ lo ≤ x.toInt ∧ x.toInt ≤ hi
  | .inr (.inr (.inr (.inl (lo, hi)))), v => ∃ x : Int64, v = .long x ∧ lo ≤ x.toInt ∧ x.toInt ≤ hi
  | .inr (.inr (.inr (.inr (.inl t)))), v => ∃ k, v = .ref k ∧ E.1 k = t ∧ t ≠ 0
  | .inr (.inr (.inr (.inr (.inr (.inl t))))), v => v = .ref (E.2.2 c j) ∧ E.1 (E.2.2 c j) = t ∧ t ≠ 0
  | _, _ => False
def elI (el : (Int × Int) ⊕ (Nat → Int × Int)) (j : Nat) : Int × Int := match el with
  | .inl p => p
  | .inr f => f j
def okE (E : WE) (c : Nat) : TD → AE → Prop
  | .inl (ci, avs), e => ∃ fl : List Value, e = .inr (.inr (.inr (ci, fl))) ∧ fl.length = avs.length ∧ ∀ (j : Nat) (a : AV), avs[j]? = some a → ∃ v, fl[j]? = some v ∧ gd E c j a v
  | .inr (.inl (t, len, el)), e => ∃ l : List Int32, e = .inl (t, l) ∧ l.length = len ∧ ∀ (j : Nat) (x : Int32), l[j]? = some x → (elI el j).1 ≤ x.toInt ∧ x.toInt ≤ (elI el j).2
  | .inr (.inr (.inl len)), e => ∃ l : List Int64, e = .inr (.inl l) ∧ l.length = len
  | .inr (.inr (.inr (c0, len, t))), e => ∃ l : List (Option Nat), e = .inr (.inr (.inl (c0, l))) ∧ l.length = len ∧ t ≠ 0 ∧ ∀ (j : Nat) (o : Option Nat), l[j]? = some o → ∃ k, o = some k ∧ E.1 k = t
/-- the world keeps its types -/
def wok (E : WE) (w : List AE) : Prop := w.length ≤ 1000000 ∧ ∀ c, E.1 c ≠ 0 → ∃ e, w[c]? = some e ∧ okE E c (E.2.1 (E.1 c)) e
def fa (w : List AE) (c j : Nat) : Option Value := match w[c]? with
  | some (.inr (.inr (.inr (_, fl)))) => fl[j]?
  | _ => none
def ra (w : List AE) (c : Nat) : Option AE := match w[c]? with
  | some (.inr (.inr (.inr _))) => none
  | o => o
def ea (w : List AE) (c j : Nat) : Option Int32 := match w[c]? with
  | some (.inl (_, l)) => l[j]?
  | _ => none
/-- what md doesn't name is as it was -/
def agr (E : WE) (md : Nat → Nat → Bool) (w w' : List AE) : Prop := w'.length = w.length ∧ (∀ c j, md (E.1 c) j = false → fa w' c j = fa w c j) ∧ (∀ c, md (E.1 c) 1000 = false → md (E.1 c) 1001 = false → ra w' c = ra w c) ∧ ∀ c j, md (E.1 c) 1000 = false → md (E.1 c) (2000 + j) = false → ea w' c j = ea w c j
theorem agr.rf {E : WE} {md : Nat → Nat → Bool} (w : List AE) : agr E md w w := ⟨rfl, fun _ _ _ => rfl, fun _ _ _ => rfl, fun _ _ _ _ => rfl⟩
theorem agr.tr {E : WE} {md : Nat → Nat → Bool} {w1 w2 w3 : List AE} (h : agr E md w1 w2) (k : agr E md w2 w3) : agr E md w1 w3 :=
  ⟨k.1.trans h.1, fun c j q => (k.2.1 c j q).trans (h.2.1 c j q), fun c q z => (k.2.2.1 c q z).trans (h.2.2.1 c q z), fun c j q z => (k.2.2.2 c j q z).trans (h.2.2.2 c j q z)⟩
theorem agr.le {E : WE} {md md' : Nat → Nat → Bool} {w1 w2 : List AE} (hm : ∀ t j, md t j = true → md' t j = true) (h : agr E md w1 w2) : agr E md' w1 w2 := by
  have hf : ∀ t j, md' t j = false → md t j = false := fun t j q => by
    cases hq : md t j with
    | false => rfl
    | true => rw [hm _ _ hq] at q; cases q
  exact ⟨h.1, fun c j q => h.2.1 c j (hf _ _ q), fun c q z => h.2.2.1 c (hf _ _ q) (hf _ _ z), fun c j q z => h.2.2.2 c j (hf _ _ q) (hf _ _ z)⟩
def csg (cs : List (Nat × CE)) (k : Nat) : Option CE := (cs.find? (fun q => Nat.beq q.1 k)).map (fun q => q.2)
def gcs (ρ : List Int) (cs : List (Nat × CE)) (n : Nat) : Prop := ρ.length = n ∧ ∀ k e, csg cs k = some e → ∃ z, ρ[k]? = some z ∧ e.1 ≤ z ∧ z ≤ e.2.1 ∧ (e.2.2.1 = true → z ≠ 0) ∧ ∀ b, e.2.2.2 = some b → relB ρ b z
def alg (lv : List (Nat × AV)) (i : Nat) : Option AV := (lv.find? (fun q => Nat.beq q.1 i)).map (fun q => q.2)
def gvs (E : WE) (th : Nat) (ρ : List Int) : List AV → List Value → Prop
  | [], [] => True
  | a :: as, v :: vs => gv E th ρ a v ∧ gvs E th ρ as vs
  | _, _ => False
def gi (ρ : List Int) : AV → Nat → Prop
  | .inl (lo, hi), j => lo = (j : Int) ∧ hi = (j : Int)
  | .inr (.inl (k, d)), j => ∃ z, ρ[k]? = some z ∧ (j : Int) = z + d
  | _, _ => False
def glv (E : WE) (th : Nat) (ρ : List Int) (al : List (Nat × AV)) (lv : List (Nat × Value)) : Prop := ∀ i a, alg al i = some a → ∃ v, lvget lv i = some v ∧ gv E th ρ a v
def gfs (E : WE) (th : Nat) (ρ : List Int) (fs : List (Nat × AV)) (w : List AE) : Prop := ∀ q ∈ fs, ∃ v, fa w th q.1 = some v ∧ gv E th ρ q.2 v
def ges (E : WE) (th : Nat) (ρ : List Int) (es : List (Nat × AV × AV)) (w : List AE) : Prop := ∀ q ∈ es, ∃ j x, gi ρ q.2.1 j ∧ ea w (E.2.2 th q.1) j = some x ∧ gv E th ρ q.2.2 (.int x)
/-- the state of the checker speaks of this state of the machine -/
def gS (E : WE) (th : Nat) (ρ : List Int) (σ : AS) (lv : List (Nat × Value)) (st : List Value) (w : List AE) : Prop :=
  gcs ρ σ.1 σ.2.1 ∧ glv E th ρ σ.2.2.1 lv ∧ gvs E th ρ σ.2.2.2.1 st ∧ gfs E th ρ σ.2.2.2.2.1 w ∧ ges E th ρ σ.2.2.2.2.2 w
section DOM
variable {E : WE} {th : Nat} {ρ : List Int} {w : List AE}
theorem ap_at {ρ t : List Int} {k : Nat} {z : Int} (h : ρ[k]? = some z) : (ρ ++ t)[k]? = some z := by
  have hl : k < ρ.length := (List.getElem?_eq_some_iff.mp h).1
  rw [List.getElem?_append_left hl]
  exact h
theorem rel_ap (t : List Int) {b : BS} {z : Int} (h : relB ρ b z) : relB (ρ ++ t) b z := by
  obtain ⟨k, d, o⟩ := b
  match o, h with
  | none, ⟨z', h1, h2⟩ => exact ⟨z', ap_at h1, h2⟩
  | some k2, ⟨z1, z2, h1, h2, h3⟩ => exact ⟨z1, z2, ap_at h1, ap_at h2, h3⟩
theorem gv_ap (t : List Int) {a : AV} {v : Value} (h : gv E th ρ a v) : gv E th (ρ ++ t) a v := by
  match a, h with
  | .inl (lo, hi), h => exact h
  | .inr (.inl (k, d)), ⟨x, z, h1, h2, h3⟩ => exact ⟨x, z, h1, ap_at h2, h3⟩
  | .inr (.inr (.inl (lo, hi, b))), ⟨x, h1, h2, h3, h4⟩ => exact ⟨x, h1, h2, h3, rel_ap t h4⟩
  | .inr (.inr (.inr (.inl (lo, hi)))), h => exact h
  | .inr (.inr (.inr (.inr (.inl t)))), h => exact h
  | .inr (.inr (.inr (.inr (.inr (.inl sl))))), h => exact h
  | .inr (.inr (.inr (.inr (.inr (.inr n))))), h => exact h
theorem gvs_ap (t : List Int) : ∀ {as : List AV} {vs : List Value}, gvs E th ρ as vs → gvs E th (ρ ++ t) as vs
  | [], [], _ => trivial
  | _ :: _, _ :: _, h => ⟨gv_ap t h.1, gvs_ap t h.2⟩
  | [], _ :: _, h => h.elim
  | _ :: _, [], h => h.elim
theorem gi_ap (t : List Int) {a : AV} {j : Nat} (h : gi ρ a j) : gi (ρ ++ t) a j := by
  match a, h with
  | .inl (lo, hi), h => exact h
  | .inr (.inl (k, d)), ⟨z, h2, h3⟩ => exact ⟨z, ap_at h2, h3⟩
  | .inr (.inr _), h => exact h.elim
theorem glv_ap (t : List Int) {al : List (Nat × AV)} {lv : List (Nat × Value)} (h : glv E th ρ al lv) : glv E th (ρ ++ t) al lv := fun i a q => by
  obtain ⟨v, h1, h2⟩ := h i a q
  exact ⟨v, h1, gv_ap t h2⟩
theorem gfs_ap (t : List Int) {fs : List (Nat × AV)} (h : gfs E th ρ fs w) : gfs E th (ρ ++ t) fs w := fun q hq => by
  obtain ⟨v, h1, h2⟩ := h q hq
  exact ⟨v, h1, gv_ap t h2⟩
theorem ges_ap (t : List Int) {es : List (Nat × AV × AV)} (h : ges E th ρ es w) : ges E th (ρ ++ t) es w := fun q hq => by
  obtain ⟨j, x, h0, h1, h2⟩ := h q hq
  exact ⟨j, x, gi_ap t h0, h1, gv_ap t h2⟩
theorem gcs_push {cs : List (Nat × CE)} {n : Nat} (h : gcs ρ cs n) {z : Int} {e : CE} (h1 : e.1 ≤ z) (h2 : z ≤ e.2.1) (h3 : e.2.2.1 = false) (h4 : ∀ b, e.2.2.2 = some b → relB ρ b z) : gcs (ρ ++ [z]) ((n, e) :: cs) (n + 1) := by
  obtain ⟨hn, hc⟩ := h
  refine ⟨by rw [List.length_append, hn]; rfl, fun k e' hk => ?_⟩
  unfold csg at hk
  rw [List.find?_cons] at hk
  cases hb : Nat.beq n k with
  | true =>
    simp only [hb] at hk
    have hk : e = e' := Option.some.inj hk
    subst hk
    have hnk : n = k := Nat.eq_of_beq_eq_true hb
    refine ⟨z, ?_, h1, h2, fun q => (by rw [h3] at q; cases q), fun b q => ?_⟩
    · rw [← hnk, ← hn, List.getElem?_append_right (Nat.le_refl _)]
      simp
    · exact rel_ap [z] (h4 b q)
  | false =>
    simp only [hb] at hk
    obtain ⟨z', q1, q2, q3, q4, q5⟩ := hc k e' hk
    exact ⟨z', ap_at q1, q2, q3, q4, fun b q => rel_ap [z] (q5 b q)⟩
/-- an int's bounds -/
def ivS (cs : List (Nat × CE)) : AV → Option (Int × Int)
  | .inl p => some p
  | .inr (.inl (k, d)) => (csg cs k).map (fun e => (e.1 + d, e.2.1 + d))
  | .inr (.inr (.inl (lo, hi, _))) => some (lo, hi)
  | _ => none
theorem ivS_ok {cs : List (Nat × CE)} {n : Nat} {a : AV} {v : Value} {p : Int × Int} (hc : gcs ρ cs n) (hg : gv E th ρ a v) (h : ivS cs a = some p) : ∃ x : Int32, v = .int x ∧ p.1 ≤ x.toInt ∧ x.toInt ≤ p.2 := by
  match a, hg, h with
  | .inl q, hg, h =>
    cases h
    exact hg
  | .inr (.inl (k, d)), ⟨x, z, h1, h2, h3⟩, h =>
    cases hk : csg cs k with
    | none => simp only [ivS, hk] at h; cases h
    | some e =>
      simp only [ivS, hk, Option.map_some] at h
      cases h
      obtain ⟨z', q1, q2, q3, -, -⟩ := hc.2 k e hk
      rw [h2] at q1
      cases q1
      exact ⟨x, h1, by show e.1 + d ≤ _; omega, by show _ ≤ e.2.1 + d; omega⟩
  | .inr (.inr (.inl (lo, hi, b))), ⟨x, h1, h2, h3, h4⟩, h =>
    cases h
    exact ⟨x, h1, h2, h3⟩
/-- a name for an int that is stored -/
def namA (cs : List (Nat × CE)) (n : Nat) (a : AV) : List (Nat × CE) × Nat × AV := match a with
  | .inl (lo, hi) => bif decide (lo = hi) then (cs, n, a) else ((n, (lo, hi, false, none)) :: cs, n + 1, vS n 0)
  | .inr (.inr (.inl (lo, hi, b))) => ((n, (lo, hi, false, some b)) :: cs, n + 1, vS n 0)
  | _ => (cs, n, a)
theorem namA_ok {cs : List (Nat × CE)} {n : Nat} {a : AV} {v : Value} (hc : gcs ρ cs n) (hg : gv E th ρ a v) : ∃ t : List Int, gcs (ρ ++ t) (namA cs n a).1 (namA cs n a).2.1 ∧ gv E th (ρ ++ t) (namA cs n a).2.2 v := by
  have hid : gcs ρ cs n ∧ gv E th ρ a v → ∃ t : List Int, gcs (ρ ++ t) cs n ∧ gv E th (ρ ++ t) a v := fun q => ⟨[], by rw [List.append_nil]; exact q⟩
  match a, hg, hid with
  | .inl (lo, hi), hg, hid =>
    by_cases hb : lo = hi
    · have e : namA cs n (.inl (lo, hi)) = (cs, n, .inl (lo, hi)) := by
        show (bif decide (lo = hi) then _ else _) = _
        rw [decide_eq_true hb]
        rfl
      rw [e]
      exact hid ⟨hc, hg⟩
    · have e : namA cs n (.inl (lo, hi)) = ((n, (lo, hi, false, none)) :: cs, n + 1, vS n 0) := by
        show (bif decide (lo = hi) then _ else _) = _
        rw [decide_eq_false hb]
        rfl
      rw [e]
      obtain ⟨x, h1, h2, h3⟩ := hg
      refine ⟨[x.toInt], gcs_push hc h2 h3 rfl (fun b q => by cases q), x, x.toInt, h1, ?_, by omega⟩
      show (ρ ++ [x.toInt])[n]? = some x.toInt
      rw [← hc.1, List.getElem?_append_right (Nat.le_refl _)]
      simp
  | .inr (.inr (.inl (lo, hi, b0))), ⟨x, h1, h2, h3, h4⟩, hid =>
    refine ⟨[x.toInt], gcs_push hc h2 h3 rfl (fun b q => ?_), x, x.toInt, h1, ?_, by omega⟩
    · cases q
      exact h4
    · rw [← hc.1, List.getElem?_append_right (Nat.le_refl _)]
      simp
  | .inr (.inl (k, d)), hg, hid => exact hid ⟨hc, hg⟩
  | .inr (.inr (.inr _)), hg, hid => exact hid ⟨hc, hg⟩
end DOM
end
section
/-! the checker's arithmetic -/
def top32 : AV := vI (-2147483648) 2147483647
def topL : AV := vL (-9223372036854775808) 9223372036854775807
def inB (lo hi : Int) : Bool := decide (-2147483648 ≤ lo) && decide (hi ≤ 2147483647)
def inL (lo hi : Int) : Bool := decide (-9223372036854775808 ≤ lo) && decide (hi ≤ 9223372036854775807)
theorem inB_ok {lo hi : Int} (h : inB lo hi = true) : -2147483648 ≤ lo ∧ hi ≤ 2147483647 := by
  unfold inB at h
  simpa using h
theorem inL_ok {lo hi : Int} (h : inL lo hi = true) : -9223372036854775808 ≤ lo ∧ hi ≤ 9223372036854775807 := by
  unfold inL at h
  simpa using h
theorem bm32 {n : Int} (h1 : -2147483648 ≤ n) (h2 : n ≤ 2147483647) : n.bmod (2 ^ 32) = n := Int.bmod_eq_of_le (by omega) (by omega)
theorem bm64 {n : Int} (h1 : -9223372036854775808 ≤ n) (h2 : n ≤ 9223372036854775807) : n.bmod (2 ^ 64) = n := Int.bmod_eq_of_le (by omega) (by omega)
theorem r32 (x : Int32) : -2147483648 ≤ x.toInt ∧ x.toInt ≤ 2147483647 := by
  have h1 := Int32.le_toInt x
  have h2 := Int32.toInt_lt x
  exact ⟨by omega, by omega⟩
theorem r64 (x : Int64) : -9223372036854775808 ≤ x.toInt ∧ x.toInt ≤ 9223372036854775807 := by
  have h1 := Int64.le_toInt x
  have h2 := Int64.toInt_lt x
  exact ⟨by omega, by omega⟩
def addC (p : Int × Int) (a : AV) (c : Int) : AV := match a with
  | .inr (.inl (k, d)) => vS k (d + c)
  | _ => vI (p.1 + c) (p.2 + c)
def addG (p q : Int × Int) (a b : AV) : AV := match a, b with
  | .inr (.inl (k, d)), .inr (.inl (k2, d2)) => vG (p.1 + q.1) (p.2 + q.2) (k, d + d2, some k2)
  | .inr (.inl (k, d)), _ => bif decide (0 < q.1) then vG (p.1 + q.1) (p.2 + q.2) (k, d + q.1, none) else vI (p.1 + q.1) (p.2 + q.2)
  | _, _ => vI (p.1 + q.1) (p.2 + q.2)
abbrev F2 : Type := List (Nat × CE) → AV → AV → Int × Int → Int × Int → Option AV
def aAdd : F2 := fun _ a b p q => some (bif inB (p.1 + q.1) (p.2 + q.2) then (bif decide (q.1 = q.2) then addC p a q.1 else bif decide (p.1 = p.2) then addC q b p.1 else addG p q a b) else top32)
def aSub : F2 := fun _ a _ p q => some (bif inB (p.1 - q.2) (p.2 - q.1) then (bif decide (q.1 = q.2) then addC p a (-q.1) else vI (p.1 - q.2) (p.2 - q.1)) else top32)
def mulC (p : Int × Int) (c : Int) : AV := bif decide (0 ≤ c) && inB (p.1 * c) (p.2 * c) then vI (p.1 * c) (p.2 * c) else top32
def aMul : F2 := fun _ _ _ p q => some (bif decide (q.1 = q.2) then mulC p q.1 else bif decide (p.1 = p.2) then mulC q p.1 else top32)
def aAnd : F2 := fun _ _ _ p q => some (bif decide (q.1 = q.2) && decide (0 ≤ q.1) then vI 0 q.1 else bif decide (p.1 = p.2) && decide (0 ≤ p.1) then vI 0 p.1 else top32)
def bitsI (n : Int) : Int := ((2 ^ (Nat.log2 n.toNat + 1) : Nat) : Int) - 1
def aOr : F2 := fun _ _ _ p q => some (bif decide (0 ≤ p.1) && decide (0 ≤ q.1) && decide (p.2 ≤ 1000000) && decide (q.2 ≤ 1000000) then vI 0 (bitsI (if p.2 ≤ q.2 then q.2 else p.2)) else top32)
def aShl : F2 := fun _ _ _ p q => some (bif decide (p.1 = 1) && decide (p.2 = 1) && decide (0 ≤ q.1) && decide (q.2 ≤ 30) then vI ((2 ^ q.1.toNat : Nat) : Int) ((2 ^ q.2.toNat : Nat) : Int) else top32)
def aTop : F2 := fun _ _ _ _ _ => some top32
def nzB (cs : List (Nat × CE)) (b : AV) (q : Int × Int) : Bool := decide (0 < q.1) || decide (q.2 < 0) || (match b with
  | .inr (.inl (k, d)) => decide (d = 0) && (match csg cs k with
    | some e => e.2.2.1
    | none => false)
  | _ => false)
def aDiv : F2 := fun cs _ b _ q => bif nzB cs b q then some top32 else none
def aRem : F2 := fun cs _ b p q => bif nzB cs b q then some (bif decide (0 < q.1) && decide (0 ≤ p.1) then vI 0 (q.2 - 1) else top32) else none
section ARI
variable {E : WE} {th : Nat} {ρ : List Int} {cs : List (Nat × CE)} {n : Nat} {a b r : AV} {x y : Int32} {p q : Int × Int}
theorem gv_top (x : Int32) : gv E th ρ top32 (.int x) := ⟨x, rfl, (r32 x).1, (r32 x).2⟩
theorem gv_topL (x : Int64) : gv E th ρ topL (.long x) := ⟨x, rfl, (r64 x).1, (r64 x).2⟩
theorem addC_ok {c z : Int} (hg : gv E th ρ a (.int x)) (hp : p.1 ≤ x.toInt ∧ x.toInt ≤ p.2) (hz : z = x.toInt + c) {u : Int32} (hu : u.toInt = z) : gv E th ρ (addC p a c) (.int u) := by
  unfold addC
  split
  · rename_i k d
    obtain ⟨x', z', h1, h2, h3⟩ := hg
    cases h1
    exact ⟨u, z', rfl, h2, by omega⟩
  · exact ⟨u, rfl, by omega, by omega⟩
theorem addG_ok (hg : gv E th ρ a (.int x)) (hg2 : gv E th ρ b (.int y)) (hp : p.1 ≤ x.toInt ∧ x.toInt ≤ p.2) (hq : q.1 ≤ y.toInt ∧ y.toInt ≤ q.2) {u : Int32} (hu : u.toInt = x.toInt + y.toInt) : gv E th ρ (addG p q a b) (.int u) := by
  unfold addG
  split
  · rename_i k d k2 d2
    obtain ⟨x', z', h1, h2, h3⟩ := hg
    cases h1
    obtain ⟨y', w', g1, g2, g3⟩ := hg2
    cases g1
    exact ⟨u, rfl, by omega, by omega, z', w', h2, g2, by show u.toInt = z' + w' + (d + d2); omega⟩
  · rename_i k d _
    obtain ⟨x', z', h1, h2, h3⟩ := hg
    cases h1
    cases decide (0 < q.1) with
    | true => exact ⟨u, rfl, by omega, by omega, z', h2, by show z' + (d + q.1) ≤ u.toInt; omega⟩
    | false => exact ⟨u, rfl, by omega, by omega⟩
  · exact ⟨u, rfl, by omega, by omega⟩
/-- what a binary operation must keep -/
def F2ok (f : F2) (g : Int32 → Int32 → Int32) : Prop := ∀ (E : WE) (th : Nat) (ρ : List Int) (cs : List (Nat × CE)) (n : Nat) (a b r : AV) (x y : Int32) (p q : Int × Int), gcs ρ cs n → gv E th ρ a (.int x) → gv E th ρ b (.int y) → p.1 ≤ x.toInt ∧ x.toInt ≤ p.2 → q.1 ≤ y.toInt ∧ y.toInt ≤ q.2 → f cs a b p q = some r → gv E th ρ r (.int (g x y))
theorem aAdd_ok : F2ok aAdd (fun x y => x + y) := by
  intro E th ρ cs n a b r x y p q hc ha hb hp hq h
  cases h
  cases hB : inB (p.1 + q.1) (p.2 + q.2) with
  | false => exact gv_top _
  | true =>
    have hB := inB_ok hB
    have hu : (x + y).toInt = x.toInt + y.toInt := by rw [Int32.toInt_add]; exact bm32 (by omega) (by omega)
    simp only [cond_true]
    cases h1 : decide (q.1 = q.2) with
    | true =>
      have h1 := of_decide_eq_true h1
      exact addC_ok (c := q.1) ha hp rfl (by rw [hu]; omega)
    | false =>
      simp only [cond_false]
      cases h2 : decide (p.1 = p.2) with
      | true =>
        have h2 := of_decide_eq_true h2
        exact addC_ok (c := p.1) hb hq rfl (by rw [hu]; omega)
      | false => exact addG_ok ha hb hp hq hu
theorem aSub_ok : F2ok aSub (fun x y => x - y) := by
  intro E th ρ cs n a b r x y p q hc ha hb hp hq h
  cases h
  cases hB : inB (p.1 - q.2) (p.2 - q.1) with
  | false => exact gv_top _
  | true =>
    have hB := inB_ok hB
    have hu : (x - y).toInt = x.toInt - y.toInt := by rw [Int32.toInt_sub]; exact bm32 (by omega) (by omega)
    simp only [cond_true]
    cases h1 : decide (q.1 = q.2) with
    | true =>
      have h1 := of_decide_eq_true h1
      exact addC_ok (c := -q.1) ha hp rfl (by rw [hu]; omega)
    | false => exact ⟨_, rfl, by rw [hu]; omega, by rw [hu]; omega⟩
theorem mulC_ok {c : Int} (hp : p.1 ≤ x.toInt ∧ x.toInt ≤ p.2) {u : Int32} (hu : u.toInt = (x.toInt * c).bmod (2 ^ 32)) : gv E th ρ (mulC p c) (.int u) := by
  unfold mulC
  cases hB : decide (0 ≤ c) && inB (p.1 * c) (p.2 * c) with
  | false => exact gv_top _
  | true =>
    simp only [Bool.and_eq_true, decide_eq_true_eq] at hB
    have h2 := inB_ok hB.2
    have h3 := Int.mul_le_mul_of_nonneg_right hp.1 hB.1
    have h4 := Int.mul_le_mul_of_nonneg_right hp.2 hB.1
    have h5 : u.toInt = x.toInt * c := by rw [hu]; exact bm32 (by omega) (by omega)
    exact ⟨u, rfl, by omega, by omega⟩
theorem aMul_ok : F2ok aMul (fun x y => x * y) := by
  intro E th ρ cs n a b r x y p q hc ha hb hp hq h
  cases h
  cases h1 : decide (q.1 = q.2) with
  | true =>
    have h1 := of_decide_eq_true h1
    have h2 : y.toInt = q.1 := by omega
    exact mulC_ok hp (by rw [Int32.toInt_mul, h2])
  | false =>
    simp only [cond_false]
    cases h2 : decide (p.1 = p.2) with
    | true =>
      have h2 := of_decide_eq_true h2
      have h3 : x.toInt = p.1 := by omega
      exact mulC_ok hq (by rw [Int32.toInt_mul, h3, Int.mul_comm])
    | false => exact gv_top _
theorem tn32 {x : Int32} (h : 0 ≤ x.toInt) : x.toInt = (x.toBitVec.toNat : Int) ∧ x.toBitVec.toNat < 2147483648 := by
  have h1 : x.toInt = x.toBitVec.toInt := rfl
  rw [h1, BitVec.toInt_eq_toNat_cond] at h ⊢
  have h2 := x.toBitVec.isLt
  split at h <;> rename_i h3
  · rw [if_pos h3]
    exact ⟨rfl, by omega⟩
  · omega
theorem nt32 {x : Int32} (h : x.toBitVec.toNat < 2147483648) : x.toInt = (x.toBitVec.toNat : Int) := by
  have h1 : x.toInt = x.toBitVec.toInt := rfl
  rw [h1, BitVec.toInt_eq_toNat_cond, if_pos (by omega)]
theorem and_le {x y : Int32} (h : 0 ≤ y.toInt) : 0 ≤ (x &&& y).toInt ∧ (x &&& y).toInt ≤ y.toInt := by
  obtain ⟨h1, h2⟩ := tn32 h
  have h3 : (x &&& y).toBitVec.toNat = x.toBitVec.toNat &&& y.toBitVec.toNat := by
    rw [Int32.toBitVec_and, BitVec.toNat_and]
  have h4 : x.toBitVec.toNat &&& y.toBitVec.toNat ≤ y.toBitVec.toNat := Nat.and_le_right
  have h5 := nt32 (x := x &&& y) (by omega)
  rw [h5, h3]
  omega
theorem aAnd_ok : F2ok aAnd (fun x y => x &&& y) := by
  intro E th ρ cs n a b r x y p q hc ha hb hp hq h
  cases h
  cases h1 : decide (q.1 = q.2) && decide (0 ≤ q.1) with
  | true =>
    simp only [Bool.and_eq_true, decide_eq_true_eq] at h1
    have h2 := and_le (x := x) (y := y) (by omega)
    exact ⟨x &&& y, rfl, by omega, by omega⟩
  | false =>
    simp only [cond_false]
    cases h2 : decide (p.1 = p.2) && decide (0 ≤ p.1) with
    | true =>
      simp only [Bool.and_eq_true, decide_eq_true_eq] at h2
      have h3 := and_le (x := y) (y := x) (by omega)
      have h4 : y &&& x = x &&& y := Int32.and_comm _ _
      rw [h4] at h3
      exact ⟨x &&& y, rfl, by omega, by omega⟩
    | false => exact gv_top _
theorem bits_lt {m : Int} {k : Nat} (h : (k : Int) ≤ m) : k < 2 ^ (Nat.log2 m.toNat + 1) := by
  have h1 : k ≤ m.toNat := by omega
  have h2 : m.toNat < 2 ^ (Nat.log2 m.toNat + 1) := Nat.lt_log2_self
  omega
theorem bits_le {m : Int} (h : m ≤ 1000000) : 2 ^ (Nat.log2 m.toNat + 1) ≤ 2 ^ 20 := by
  apply Nat.pow_le_pow_right (by decide)
  have h1 : m.toNat < 2 ^ 20 := by omega
  by_cases h0 : m.toNat = 0
  · rw [h0]
    decide
  · have := (Nat.log2_lt h0).mpr h1
    omega
theorem or_ok {m : Int} (hx : 0 ≤ x.toInt) (hy : 0 ≤ y.toInt) (h1 : x.toInt ≤ m) (h2 : y.toInt ≤ m) (hm : m ≤ 1000000) (u : Int32) (hu : u.toBitVec.toNat < 2 ^ (Nat.log2 m.toNat + 1)) : gv E th ρ (vI 0 (bitsI m)) (.int u) := by
  have h3 := bits_le hm
  have h4 := nt32 (x := u) (by omega)
  refine ⟨u, rfl, by omega, ?_⟩
  show u.toInt ≤ ((2 ^ (Nat.log2 m.toNat + 1) : Nat) : Int) - 1
  omega
theorem orxor {g : Int32 → Int32 → Int32} (hg : ∀ (k : Nat) (x y : Int32), x.toBitVec.toNat < 2 ^ k → y.toBitVec.toNat < 2 ^ k → (g x y).toBitVec.toNat < 2 ^ k) : F2ok aOr g := by
  intro E th ρ cs n a b r x y p q hc ha hb hp hq h
  cases h
  cases h1 : decide (0 ≤ p.1) && decide (0 ≤ q.1) && decide (p.2 ≤ 1000000) && decide (q.2 ≤ 1000000) with
  | false => exact gv_top _
  | true =>
    simp only [Bool.and_eq_true, decide_eq_true_eq] at h1
    obtain ⟨⟨⟨h1, h2⟩, h3⟩, h4⟩ := h1
    simp only [cond_true]
    have hx := tn32 (x := x) (by omega)
    have hy := tn32 (x := y) (by omega)
    have hm : ∃ m : Int, (if p.2 ≤ q.2 then q.2 else p.2) = m ∧ x.toInt ≤ m ∧ y.toInt ≤ m ∧ m ≤ 1000000 := by
      by_cases hh : p.2 ≤ q.2
      · exact ⟨q.2, if_pos hh, by omega, by omega, h4⟩
      · exact ⟨p.2, if_neg hh, by omega, by omega, h3⟩
    obtain ⟨m, e, m1, m2, m3⟩ := hm
    rw [e]
    exact or_ok (by omega) (by omega) m1 m2 m3 _ (hg _ x y (bits_lt (by omega)) (bits_lt (by omega)))
theorem aOr_ok : F2ok aOr (fun x y => x ||| y) := orxor (fun k x y hx hy => by
  show (x ||| y).toBitVec.toNat < 2 ^ k
  rw [Int32.toBitVec_or, BitVec.toNat_or]
  exact Nat.or_lt_two_pow hx hy)
theorem aXor_ok : F2ok aOr (fun x y => x ^^^ y) := orxor (fun k x y hx hy => by
  show (x ^^^ y).toBitVec.toNat < 2 ^ k
  rw [Int32.toBitVec_xor, BitVec.toNat_xor]
  exact Nat.xor_lt_two_pow hx hy)
theorem shl1 : ∀ j : Nat, j < 31 → ((1 : Int32) <<< (Int32.ofInt (j : Int) &&& 31)).toInt = ((2 ^ j : Nat) : Int) := by decide
theorem aShl_ok : F2ok aShl (fun x y => x <<< (y &&& 31)) := by
  intro E th ρ cs n a b r x y p q hc ha hb hp hq h
  cases h
  cases h1 : decide (p.1 = 1) && decide (p.2 = 1) && decide (0 ≤ q.1) && decide (q.2 ≤ 30) with
  | false => exact gv_top _
  | true =>
    simp only [Bool.and_eq_true, decide_eq_true_eq] at h1
    obtain ⟨⟨⟨h1, h2⟩, h3⟩, h4⟩ := h1
    have hx : x = 1 := Int32.toInt_inj.mp (by show x.toInt = 1; omega)
    have hy : y = Int32.ofInt ((y.toInt.toNat : Nat) : Int) := by
      rw [Int.toNat_of_nonneg (by omega), Int32.ofInt_toInt]
    have h5 := shl1 y.toInt.toNat (by omega)
    rw [← hy] at h5
    simp only [cond_true]
    refine ⟨_, rfl, ?_, ?_⟩
    · show ((2 ^ q.1.toNat : Nat) : Int) ≤ (x <<< (y &&& 31)).toInt
      rw [hx, h5]
      exact Int.ofNat_le.mpr (Nat.pow_le_pow_right (by decide) (by omega))
    · show (x <<< (y &&& 31)).toInt ≤ ((2 ^ q.2.toNat : Nat) : Int)
      rw [hx, h5]
      exact Int.ofNat_le.mpr (Nat.pow_le_pow_right (by decide) (by omega))
theorem aTop_ok (g : Int32 → Int32 → Int32) : F2ok aTop g := by
  intro E th ρ cs n a b r x y p q hc ha hb hp hq h
  cases h
  exact gv_top _
theorem nz_ok (hc : gcs ρ cs n) (hb : gv E th ρ b (.int y)) (hq : q.1 ≤ y.toInt ∧ y.toInt ≤ q.2) (h : nzB cs b q = true) : ¬ y = 0 := by
  intro h0
  have h0 : y.toInt = 0 := by rw [h0]; rfl
  unfold nzB at h
  simp only [Bool.or_eq_true, decide_eq_true_eq] at h
  rcases h with (h | h) | h
  · omega
  · omega
  · split at h
    · rename_i k d
      simp only [Bool.and_eq_true, decide_eq_true_eq] at h
      obtain ⟨h1, h2⟩ := h
      split at h2
      · rename_i e he
        obtain ⟨z, q1, q2, q3, q4, q5⟩ := hc.2 k e he
        obtain ⟨x', z', e1, e2, e3⟩ := hb
        cases e1
        rw [q1] at e2
        cases e2
        exact q4 h2 (by omega)
      · cases h2
    · cases h
theorem aDiv_ok (g : Int32 → Int32 → Int32) : F2ok aDiv g := by
  intro E th ρ cs n a b r x y p q hc ha hb hp hq h
  unfold aDiv at h
  cases hz : nzB cs b q with
  | false => rw [hz] at h; cases h
  | true =>
    rw [hz] at h
    cases h
    exact gv_top _
theorem rem_ok {x y : Int32} (hx : 0 ≤ x.toInt) (hy : 0 < y.toInt) : (x - x / y * y).toInt = x.toInt % y.toInt := by
  have h1 : (x / y).toInt = x.toInt / y.toInt := by
    rw [Int32.toInt_div, Int.tdiv_eq_ediv_of_nonneg hx]
    have h2 := Int.ediv_nonneg hx (Int.le_of_lt hy)
    have h3 := Int.ediv_le_self y.toInt hx
    have h4 := r32 x
    exact bm32 (by omega) (by omega)
  have h5 := Int.emod_nonneg x.toInt (Int.ne_of_gt hy)
  have h6 := Int.emod_lt_of_pos x.toInt hy
  have h7 := Int.mul_ediv_add_emod x.toInt y.toInt
  have h8 : x.toInt / y.toInt * y.toInt = y.toInt * (x.toInt / y.toInt) := Int.mul_comm _ _
  have h9 : 0 ≤ y.toInt * (x.toInt / y.toInt) := Int.mul_nonneg (Int.le_of_lt hy) (Int.ediv_nonneg hx (Int.le_of_lt hy))
  have h10 := r32 x
  have h11 : (x / y * y).toInt = y.toInt * (x.toInt / y.toInt) := by
    rw [Int32.toInt_mul, h1, h8]
    exact bm32 (by omega) (by omega)
  rw [Int32.toInt_sub, h11]
  have h12 : x.toInt - y.toInt * (x.toInt / y.toInt) = x.toInt % y.toInt := by omega
  rw [h12]
  have h13 := r32 y
  exact bm32 (by omega) (by omega)
theorem aRem_ok : F2ok aRem (fun x y => x - x / y * y) := by
  intro E th ρ cs n a b r x y p q hc ha hb hp hq h
  unfold aRem at h
  cases hz : nzB cs b q with
  | false => rw [hz] at h; cases h
  | true =>
    rw [hz] at h
    cases h
    cases h1 : decide (0 < q.1) && decide (0 ≤ p.1) with
    | false => exact gv_top _
    | true =>
      simp only [Bool.and_eq_true, decide_eq_true_eq] at h1
      have h2 := rem_ok (x := x) (y := y) (by omega) (by omega)
      have h5 := Int.emod_nonneg x.toInt (show y.toInt ≠ 0 by omega)
      have h6 := Int.emod_lt_of_pos x.toInt (show 0 < y.toInt by omega)
      exact ⟨_, rfl, by show 0 ≤ (x - x / y * y).toInt; omega, by show (x - x / y * y).toInt ≤ q.2 - 1; omega⟩
end ARI
/-! branches -/
def neI (p q : Int × Int) : Int × Int := bif decide (q.1 = q.2) then (bif decide (p.1 = q.1) then p.1 + 1 else p.1, bif decide (p.2 = q.1) then p.2 - 1 else p.2) else p
def mxI (a b : Int) : Int := bif decide (a ≤ b) then b else a
def mnI (a b : Int) : Int := bif decide (a ≤ b) then a else b
theorem mx_le {a b z : Int} (h1 : a ≤ z) (h2 : b ≤ z) : mxI a b ≤ z := by
  unfold mxI
  cases decide (a ≤ b) <;> assumption
theorem le_mn {a b z : Int} (h1 : z ≤ a) (h2 : z ≤ b) : z ≤ mnI a b := by
  unfold mnI
  cases decide (a ≤ b) <;> assumption
def rfn0 (cd : ClassFile.Cond) (p q : Int × Int) : (Int × Int) × (Int × Int) := match cd with
  | .lt => ((p.1, mnI p.2 (q.2 - 1)), (mxI q.1 (p.1 + 1), q.2))
  | .le => ((p.1, mnI p.2 q.2), (mxI q.1 p.1, q.2))
  | .gt => ((mxI p.1 (q.1 + 1), p.2), (q.1, mnI q.2 (p.2 - 1)))
  | .ge => ((mxI p.1 q.1, p.2), (q.1, mnI q.2 p.2))
  | .eq => ((mxI p.1 q.1, mnI p.2 q.2), (mxI p.1 q.1, mnI p.2 q.2))
  | .ne => (neI p q, neI q p)
def negC : ClassFile.Cond → ClassFile.Cond
  | .eq => .ne
  | .ne => .eq
  | .lt => .ge
  | .ge => .lt
  | .gt => .le
  | .le => .gt
theorem cmp_neg (cd : ClassFile.Cond) (x y : Int32) : cmpB (negC cd) x y = !cmpB cd x y := by
  cases cd with
  | eq => rfl
  | ne => show decide (x = y) = !(!decide (x = y)); rw [Bool.not_not]
  | lt => show decide (y ≤ x) = !decide (x < y); rw [← decide_not]; exact decide_eq_decide.mpr Int32.not_lt.symm
  | ge => show decide (x < y) = !decide (y ≤ x); rw [← decide_not]; exact decide_eq_decide.mpr Int32.not_le.symm
  | gt => show decide (x ≤ y) = !decide (y < x); rw [← decide_not]; exact decide_eq_decide.mpr Int32.not_lt.symm
  | le => show decide (y < x) = !decide (x ≤ y); rw [← decide_not]; exact decide_eq_decide.mpr Int32.not_le.symm
def inI (p : Int × Int) (x : Int) : Prop := p.1 ≤ x ∧ x ≤ p.2
theorem ne_ok {p q : Int × Int} {x y : Int} (hp : inI p x) (hq : inI q y) (h : x ≠ y) : inI (neI p q) x := by
  unfold inI at *
  unfold neI
  cases h1 : decide (q.1 = q.2) with
  | false => exact hp
  | true =>
    have h1 := of_decide_eq_true h1
    simp only [cond_true]
    cases h2 : decide (p.1 = q.1) with
    | false =>
      cases h3 : decide (p.2 = q.1) with
      | false => exact hp
      | true => have h3 := of_decide_eq_true h3; exact ⟨hp.1, by show x ≤ p.2 - 1; omega⟩
    | true =>
      have h2 := of_decide_eq_true h2
      cases h3 : decide (p.2 = q.1) with
      | false => exact ⟨by show p.1 + 1 ≤ x; omega, hp.2⟩
      | true => have h3 := of_decide_eq_true h3; exact ⟨by show p.1 + 1 ≤ x; omega, by show x ≤ p.2 - 1; omega⟩
theorem rfn_ok {cd : ClassFile.Cond} {p q : Int × Int} {x y : Int32} (hp : inI p x.toInt) (hq : inI q y.toInt) (h : cmpB cd x y = true) : inI (rfn0 cd p q).1 x.toInt ∧ inI (rfn0 cd p q).2 y.toInt := by
  cases cd with
  | eq =>
    have h : x = y := of_decide_eq_true h
    subst h
    exact ⟨⟨mx_le hp.1 hq.1, le_mn hp.2 hq.2⟩, ⟨mx_le hp.1 hq.1, le_mn hp.2 hq.2⟩⟩
  | ne =>
    have h1 : ¬ x = y := by simpa [cmpB] using h
    have h2 : x.toInt ≠ y.toInt := fun q => h1 (Int32.toInt_inj.mp q)
    exact ⟨ne_ok hp hq h2, ne_ok hq hp (Ne.symm h2)⟩
  | lt =>
    have h1 : x.toInt < y.toInt := Int32.lt_iff_toInt_lt.mp (of_decide_eq_true h)
    exact ⟨⟨hp.1, le_mn hp.2 (by have := hq.2; omega)⟩, ⟨mx_le hq.1 (by have := hp.1; omega), hq.2⟩⟩
  | ge =>
    have h1 : y.toInt ≤ x.toInt := Int32.le_iff_toInt_le.mp (of_decide_eq_true h)
    exact ⟨⟨mx_le hp.1 (by have := hq.1; omega), hp.2⟩, ⟨hq.1, le_mn hq.2 (by have := hp.2; omega)⟩⟩
  | gt =>
    have h1 : y.toInt < x.toInt := Int32.lt_iff_toInt_lt.mp (of_decide_eq_true h)
    exact ⟨⟨mx_le hp.1 (by have := hq.1; omega), hp.2⟩, ⟨hq.1, le_mn hq.2 (by have := hp.2; omega)⟩⟩
  | le =>
    have h1 : x.toInt ≤ y.toInt := Int32.le_iff_toInt_le.mp (of_decide_eq_true h)
    exact ⟨⟨hp.1, le_mn hp.2 (by have := hq.2; omega)⟩, ⟨mx_le hq.1 (by have := hp.1; omega), hq.2⟩⟩
/-- of a sum that is known better its parts are known better -/
def prpC (cs : List (Nat × CE)) (e : CE) : List (Nat × CE) := match e.2.2.2 with
  | some (k1, d1, some k2) => (match csg cs k1, csg cs k2 with
    | some e1, some e2 => (k1, (mxI e1.1 (e.1 - e2.2.1 - d1), mnI e1.2.1 (e.2.1 - e2.1 - d1), e1.2.2)) :: (k2, (mxI e2.1 (e.1 - e1.2.1 - d1), mnI e2.2.1 (e.2.1 - e1.1 - d1), e2.2.2)) :: cs
    | _, _ => cs)
  | _ => cs
def setC (cs : List (Nat × CE)) (a : AV) (p : Int × Int) (nz : Bool) : List (Nat × CE) := match a with
  | .inr (.inl (k, d)) => (match csg cs k with
    | some e => prpC ((k, (mxI e.1 (p.1 - d), mnI e.2.1 (p.2 - d), e.2.2.1 || (nz && decide (d = 0)), e.2.2.2)) :: cs) (mxI e.1 (p.1 - d), mnI e.2.1 (p.2 - d), e.2.2.1 || (nz && decide (d = 0)), e.2.2.2)
    | none => cs)
  | _ => cs
theorem gcs_cons {ρ : List Int} {cs : List (Nat × CE)} {n k : Nat} {e : CE} {z : Int} (hc : gcs ρ cs n) (h0 : ρ[k]? = some z) (h1 : e.1 ≤ z) (h2 : z ≤ e.2.1) (h3 : e.2.2.1 = true → z ≠ 0) (h4 : ∀ b, e.2.2.2 = some b → relB ρ b z) : gcs ρ ((k, e) :: cs) n := by
  refine ⟨hc.1, fun k' e' hk => ?_⟩
  unfold csg at hk
  rw [List.find?_cons] at hk
  cases hb : Nat.beq k k' with
  | false => simp only [hb] at hk; exact hc.2 k' e' hk
  | true =>
    simp only [hb] at hk
    have hk : e = e' := Option.some.inj hk
    subst hk
    have hkk : k = k' := Nat.eq_of_beq_eq_true hb
    subst hkk
    exact ⟨z, h0, h1, h2, h3, h4⟩
theorem prpC_ok {ρ : List Int} {cs : List (Nat × CE)} {n : Nat} {e : CE} {z : Int} (hc : gcs ρ cs n) (h1 : e.1 ≤ z) (h2 : z ≤ e.2.1) (h4 : ∀ b, e.2.2.2 = some b → relB ρ b z) : gcs ρ (prpC cs e) n := by
  unfold prpC
  split
  · rename_i k1 d1 k2 hb
    split
    · rename_i e1 e2 he1 he2
      obtain ⟨z1, z2, r1, r2, r3⟩ := h4 _ hb
      have r3 : z = z1 + z2 + d1 := r3
      obtain ⟨y1, a0, a1, a2, a3, a4⟩ := hc.2 _ _ he1
      obtain ⟨y2, b0, b1, b2, b3, b4⟩ := hc.2 _ _ he2
      have r1 : ρ[k1]? = some z1 := r1
      rw [r1] at a0
      cases a0
      rw [r2] at b0
      cases b0
      exact gcs_cons (gcs_cons hc r2 (mx_le b1 (by omega)) (le_mn b2 (by omega)) b3 b4) r1 (mx_le a1 (by omega)) (le_mn a2 (by omega)) a3 a4
    · exact hc
  · exact hc
theorem setC_ok {E : WE} {th : Nat} {ρ : List Int} {cs : List (Nat × CE)} {n : Nat} {a : AV} {x : Int32} {p : Int × Int} {nz : Bool} (hc : gcs ρ cs n) (hg : gv E th ρ a (.int x)) (hp : inI p x.toInt) (hz : nz = true → x.toInt ≠ 0) : gcs ρ (setC cs a p nz) n := by
  unfold setC
  split
  · rename_i k d
    split
    · rename_i e he
      obtain ⟨z, q1, q2, q3, q4, q5⟩ := hc.2 k e he
      obtain ⟨x', z', e1, e2, e3⟩ := hg
      cases e1
      rw [q1] at e2
      cases e2
      have hp1 := hp.1
      have hp2 := hp.2
      have w1 : mxI e.1 (p.1 - d) ≤ z := mx_le q2 (by omega)
      have w2 : z ≤ mnI e.2.1 (p.2 - d) := le_mn q3 (by omega)
      refine prpC_ok (gcs_cons hc q1 w1 w2 (fun hh => ?_) q5) w1 w2 q5
      have hh : (e.2.2.1 || (nz && decide (d = 0))) = true := hh
      simp only [Bool.or_eq_true, Bool.and_eq_true, decide_eq_true_eq] at hh
      rcases hh with hh | hh
      · exact q4 hh
      · have := hz hh.1
        omega
    · exact hc
  · exact hc
def isNe : ClassFile.Cond → Bool
  | .ne => true
  | _ => false
theorem isNe_ok {cd : ClassFile.Cond} (h : isNe cd = true) : cd = .ne := by
  cases cd <;> first | rfl | cases h
def asmA (cd : ClassFile.Cond) (σ : AS) (a b : AV) (p q : Int × Int) : List AS :=
  bif decide ((rfn0 cd p q).1.1 ≤ (rfn0 cd p q).1.2) && decide ((rfn0 cd p q).2.1 ≤ (rfn0 cd p q).2.2) then
    [(setC (setC σ.1 a (rfn0 cd p q).1 (isNe cd && decide (q.1 = 0) && decide (q.2 = 0))) b (rfn0 cd p q).2 false, σ.2)] else []
theorem asm_ok {E : WE} {th : Nat} {ρ : List Int} {cd : ClassFile.Cond} {σ : AS} {a b : AV} {p q : Int × Int} {x y : Int32} {lv : List (Nat × Value)} {st : List Value} {w : List AE} (hS : gS E th ρ σ lv st w) (ha : gv E th ρ a (.int x)) (hb : gv E th ρ b (.int y)) (hp : inI p x.toInt) (hq : inI q y.toInt) (h : cmpB cd x y = true) : ∃ σ' ∈ asmA cd σ a b p q, gS E th ρ σ' lv st w := by
  obtain ⟨r1, r2⟩ := rfn_ok hp hq h
  unfold asmA
  have hB : (decide ((rfn0 cd p q).1.1 ≤ (rfn0 cd p q).1.2) && decide ((rfn0 cd p q).2.1 ≤ (rfn0 cd p q).2.2)) = true := by
    simp only [Bool.and_eq_true, decide_eq_true_eq]
    exact ⟨Int.le_trans r1.1 r1.2, Int.le_trans r2.1 r2.2⟩
  rw [hB]
  refine ⟨_, List.mem_singleton.mpr rfl, ?_, hS.2⟩
  refine setC_ok (setC_ok hS.1 ha r1 (fun hz => ?_)) hb r2 (fun hz => by cases hz)
  simp only [Bool.and_eq_true, decide_eq_true_eq] at hz
  obtain ⟨⟨z0, z1⟩, z2⟩ := hz
  have z0 := isNe_ok z0
  subst z0
  have h1 : ¬ x = y := by simpa [cmpB] using h
  have h2 : x.toInt ≠ y.toInt := fun q => h1 (Int32.toInt_inj.mp q)
  have hq1 := hq.1
  have hq2 := hq.2
  omega
end
