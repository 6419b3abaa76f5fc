theorem all_split {f : Nat → Bool} {n k : Nat} (h1 : (List.range n).all f = true) (h2 : (List.range k).all (fun i => f (n + i)) = true) : (List.range (n + k)).all f = true := by
  rw [List.all_eq_true] at h1 h2 ⊢
  intro x hx
  have hx := List.mem_range.mp hx
  by_cases h : x < n
  · exact h1 x (List.mem_range.mpr h)
  · have := h2 (x - n) (List.mem_range.mpr (by omega))
    rwa [show n + (x - n) = x by omega] at this
def ck1 (M : MD) (pc : Nat) : Bool := match md_t M pc with
    | none => true
    | some x => decide (decode (md_c M) pc = .ok (x.1, x.2.1)) && chkI (md_k M) x
def ckW (M : MD) : Bool := (bif Nat.beq ((md_p M).getD 4 0) 1 then tsB ((md_p M).getD 1 0) (Cond.static (md_y M)) else tsB ((md_p M).getD 1 0) (Cond.instanceMethod (md_y M)))
  && (decide ((md_y M).name = "<init>") || Nat.beq ((md_p M).getD 4 0) 1 || tsB ((md_p M).getD 2 0) (Cond.selects (md_y M).cls (md_y M) (md_y M)))
  && tsB ((md_p M).getD 3 0) (Cond.initialized (md_y M).cls)
  && (plainName (md_y M).cls && decide ((parseMethodDescriptor (md_y M).desc).map (fun d => d.parameters.length) = some ((md_p M).getD 5 0))) && decide ((md_y M).cls = clN (md_k M)) && Nat.ble (md_n M) 60
  && decide ((md_y M).cls ≠ "java/lang/invoke/MethodHandle") && decide ((md_y M).cls ≠ "java/lang/invoke/VarHandle")
theorem mdB_of {M : MD} (h1 : (List.range (md_s M)).all (ck1 M) = true) (h2 : tblAt ((md_p M).getD 0 0) = some (Cond.code (md_y M) (md_c M) (md_n M) (md_r M))) (h3 : ckW M = true) : mdB M = true := by
  have h2' : tsB ((md_p M).getD 0 0) (Cond.code (md_y M) (md_c M) (md_n M) (md_r M)) = true := by
    unfold tsB
    rw [decide_eq_true h2]
    rfl
  unfold ckW at h3
  simp only [Bool.and_eq_true] at h3
  unfold mdB
  simp only [Bool.and_eq_true]
  obtain ⟨⟨⟨⟨⟨⟨⟨h31, h32⟩, h33⟩, h34⟩, h35⟩, h36⟩, h37⟩, h38⟩ := h3
  exact ⟨⟨⟨⟨⟨⟨⟨⟨⟨h1, h2'⟩, h31⟩, h32⟩, h33⟩, h34⟩, h35⟩, h36⟩, h37⟩, h38⟩
theorem okA_0 : (List.range 166).all (fun i => ck1 mX12_init (0 + i)) = true := by decide +kernel
theorem okA_1 : (List.range 94).all (fun i => ck1 mX12_init (166 + i)) = true := by decide +kernel
theorem okA_2 : (List.range 73).all (fun i => ck1 mX12_init (260 + i)) = true := by decide +kernel
theorem okA_3 : (List.range 59).all (fun i => ck1 mX12_init (333 + i)) = true := by decide +kernel
theorem okA_4 : (List.range 51).all (fun i => ck1 mX12_init (392 + i)) = true := by decide +kernel
theorem okA_5 : (List.range 38).all (fun i => ck1 mX12_init (443 + i)) = true := by decide +kernel
theorem okA_6 : (List.range 39).all (fun i => ck1 mX12_init (481 + i)) = true := by decide +kernel
theorem okA_7 : (List.range 37).all (fun i => ck1 mX12_init (520 + i)) = true := by decide +kernel
theorem okA_8 : (List.range 35).all (fun i => ck1 mX12_init (557 + i)) = true := by decide +kernel
theorem okA_9 : (List.range 30).all (fun i => ck1 mX12_init (592 + i)) = true := by decide +kernel
theorem okA_10 : (List.range 33).all (fun i => ck1 mX12_init (622 + i)) = true := by decide +kernel
theorem okA_11 : (List.range 27).all (fun i => ck1 mX12_init (655 + i)) = true := by decide +kernel
theorem okA_12 : (List.range 28).all (fun i => ck1 mX12_init (682 + i)) = true := by decide +kernel
theorem okA_13 : (List.range 30).all (fun i => ck1 mX12_init (710 + i)) = true := by decide +kernel
theorem okA_14 : (List.range 26).all (fun i => ck1 mX12_init (740 + i)) = true := by decide +kernel
theorem okA_15 : (List.range 26).all (fun i => ck1 mX12_init (766 + i)) = true := by decide +kernel
theorem okA_16 : (List.range 25).all (fun i => ck1 mX12_init (792 + i)) = true := by decide +kernel
theorem okA_17 : (List.range 3).all (fun i => ck1 mX12_init (817 + i)) = true := by decide +kernel
theorem okB_0 : (List.range 166).all (ck1 mX12_init) = true := by
  have h := all_split (f := ck1 mX12_init) (n := 0) (k := 166) rfl okA_0
  rwa [show 0 + 166 = 166 from rfl] at h
theorem okB_1 : (List.range 260).all (ck1 mX12_init) = true := by
  have h := all_split (f := ck1 mX12_init) (n := 166) (k := 94) okB_0 okA_1
  rwa [show 166 + 94 = 260 from rfl] at h
theorem okB_2 : (List.range 333).all (ck1 mX12_init) = true := by
  have h := all_split (f := ck1 mX12_init) (n := 260) (k := 73) okB_1 okA_2
  rwa [show 260 + 73 = 333 from rfl] at h
theorem okB_3 : (List.range 392).all (ck1 mX12_init) = true := by
  have h := all_split (f := ck1 mX12_init) (n := 333) (k := 59) okB_2 okA_3
  rwa [show 333 + 59 = 392 from rfl] at h
theorem okB_4 : (List.range 443).all (ck1 mX12_init) = true := by
  have h := all_split (f := ck1 mX12_init) (n := 392) (k := 51) okB_3 okA_4
  rwa [show 392 + 51 = 443 from rfl] at h
theorem okB_5 : (List.range 481).all (ck1 mX12_init) = true := by
  have h := all_split (f := ck1 mX12_init) (n := 443) (k := 38) okB_4 okA_5
  rwa [show 443 + 38 = 481 from rfl] at h
theorem okB_6 : (List.range 520).all (ck1 mX12_init) = true := by
  have h := all_split (f := ck1 mX12_init) (n := 481) (k := 39) okB_5 okA_6
  rwa [show 481 + 39 = 520 from rfl] at h
theorem okB_7 : (List.range 557).all (ck1 mX12_init) = true := by
  have h := all_split (f := ck1 mX12_init) (n := 520) (k := 37) okB_6 okA_7
  rwa [show 520 + 37 = 557 from rfl] at h
theorem okB_8 : (List.range 592).all (ck1 mX12_init) = true := by
  have h := all_split (f := ck1 mX12_init) (n := 557) (k := 35) okB_7 okA_8
  rwa [show 557 + 35 = 592 from rfl] at h
theorem okB_9 : (List.range 622).all (ck1 mX12_init) = true := by
  have h := all_split (f := ck1 mX12_init) (n := 592) (k := 30) okB_8 okA_9
  rwa [show 592 + 30 = 622 from rfl] at h
theorem okB_10 : (List.range 655).all (ck1 mX12_init) = true := by
  have h := all_split (f := ck1 mX12_init) (n := 622) (k := 33) okB_9 okA_10
  rwa [show 622 + 33 = 655 from rfl] at h
theorem okB_11 : (List.range 682).all (ck1 mX12_init) = true := by
  have h := all_split (f := ck1 mX12_init) (n := 655) (k := 27) okB_10 okA_11
  rwa [show 655 + 27 = 682 from rfl] at h
theorem okB_12 : (List.range 710).all (ck1 mX12_init) = true := by
  have h := all_split (f := ck1 mX12_init) (n := 682) (k := 28) okB_11 okA_12
  rwa [show 682 + 28 = 710 from rfl] at h
theorem okB_13 : (List.range 740).all (ck1 mX12_init) = true := by
  have h := all_split (f := ck1 mX12_init) (n := 710) (k := 30) okB_12 okA_13
  rwa [show 710 + 30 = 740 from rfl] at h
theorem okB_14 : (List.range 766).all (ck1 mX12_init) = true := by
  have h := all_split (f := ck1 mX12_init) (n := 740) (k := 26) okB_13 okA_14
  rwa [show 740 + 26 = 766 from rfl] at h
theorem okB_15 : (List.range 792).all (ck1 mX12_init) = true := by
  have h := all_split (f := ck1 mX12_init) (n := 766) (k := 26) okB_14 okA_15
  rwa [show 766 + 26 = 792 from rfl] at h
theorem okB_16 : (List.range 817).all (ck1 mX12_init) = true := by
  have h := all_split (f := ck1 mX12_init) (n := 792) (k := 25) okB_15 okA_16
  rwa [show 792 + 25 = 817 from rfl] at h
theorem okB_17 : (List.range 820).all (ck1 mX12_init) = true := by
  have h := all_split (f := ck1 mX12_init) (n := 817) (k := 3) okB_16 okA_17
  rwa [show 817 + 3 = 820 from rfl] at h
theorem ok_X12_init : mdB mX12_init = true := mdB_of okB_17 rfl (by decide +kernel)
