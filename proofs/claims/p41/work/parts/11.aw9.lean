section SO6
variable {X : CX} {l : Launch} {M : MD} {R : Room} {p : Program} {e : Env} {s : State} {m : MethodId} {args : Array Value} {below : List Frame} {meth : Method} {c : Code} {A : Nat → Prop} {Q : State → Prop} {n0 : Nat} {ad0 : Nat → Nat} {pc : Nat} {lv : List (Nat × Value)} {st : List Value} {w : List AE} {a b : Nat} {z : ST}
set_option maxHeartbeats 4000000 in
set_option maxRecDepth 100000 in
theorem so_step {x : IE} (F : MF X M R p s m args meth c A) (hi : md_i M pc = some x) (hs : stepI M x pc lv st w = some z) (hr : a + z.2.2.2.2.1 ≤ R.cells ∧ b + z.2.2.2.2.2 ≤ R.slots) (h : AWn X l M R p e s m args below meth c A Q n0 ad0 a b z) : AW X l M R p e s m args below meth c A Q n0 ad0 pc lv st w a b := by
  obtain ⟨hd, hc⟩ := F.2.2.2.2.2.2.2.2.2.2.1 _ _ hi
  have ha : a ≤ R.cells ∧ b ≤ R.slots := ⟨Nat.le_trans (Nat.le_add_right _ _) hr.1, Nat.le_trans (Nat.le_add_right _ _) hr.2⟩
  have hX := F.1
  have hB := F.2.1
  unfold stepI at hs
  split at hs
  · exact so_push F hd (fun _ => rfl) (fun _ _ _ _ k => lv_iconst hX hB hd rfl k) hs h
  · exact so_push F hd (fun _ => rfl) (fun _ _ _ _ k => lv_bipush hX hB hd rfl k) hs h
  · exact so_push F hd (fun _ => rfl) (fun _ _ _ _ k => lv_sipush hX hB hd rfl k) hs h
  · exact so_push F hd (fun _ => rfl) (fun _ _ _ _ k => lv_lconst hX hB hd rfl k) hs h
  · exact so_ldI (fun _ _ _ _ _ g k => lv_iload_n hX hB hd rfl g k) hs h
  · exact so_ldI (fun _ _ _ _ _ g k => lv_iload hX hB hd g k) hs h
  · exact so_ldL (fun _ _ _ _ _ g k => lv_lload_n hX hB hd rfl g k) hs h
  · exact so_ldL (fun _ _ _ _ _ g k => lv_lload hX hB hd g k) hs h
  · exact so_ldA (fun _ _ _ _ _ g k => lv_aload_n hX hB hd rfl g k) hs h
  · exact so_ldA (fun _ _ _ _ _ g k => lv_aload hX hB hd g k) hs h
  · exact so_stI (fun _ _ _ _ _ _ _ g1 g2 g3 k => lv_istore_n hX hB hd rfl g1 g2 g3 k) hs h
  · exact so_stI (fun _ _ _ _ _ _ _ g1 g2 g3 k => lv_istore hX hB hd g1 g2 g3 k) hs h
  · exact so_stL (fun _ _ _ _ _ _ _ g1 g2 g3 k => lv_lstore_n hX hB hd rfl g1 g2 g3 k) hs h
  · exact so_stL (fun _ _ _ _ _ _ _ g1 g2 g3 k => lv_lstore hX hB hd g1 g2 g3 k) hs h
  · exact so_stA (fun _ _ _ _ _ _ _ g1 g2 g3 k => lv_astore_n hX hB hd rfl g1 g2 g3 k) hs h
  · exact so_stA (fun _ _ _ _ _ _ _ g1 g2 g3 k => lv_astore hX hB hd g1 g2 g3 k) hs h
  · exact so_iinc F hd hs h
  · exact so_b32 (fun _ _ _ _ _ _ k => lv_iadd hX hB hd k) hs h
  · exact so_b32 (fun _ _ _ _ _ _ k => lv_isub hX hB hd k) hs h
  · exact so_b32 (fun _ _ _ _ _ _ k => lv_imul hX hB hd k) hs h
  · exact so_b32 (fun _ _ _ _ _ _ k => lv_iand hX hB hd k) hs h
  · exact so_b32 (fun _ _ _ _ _ _ k => lv_ior hX hB hd k) hs h
  · exact so_b32 (fun _ _ _ _ _ _ k => lv_ixor hX hB hd k) hs h
  · exact so_b32 (fun _ _ _ _ _ _ k => lv_ishl hX hB hd k) hs h
  · exact so_b32 (fun _ _ _ _ _ _ k => lv_ishr hX hB hd k) hs h
  · exact so_b32 (fun _ _ _ _ _ _ k => lv_iushr hX hB hd rfl k) hs h
  · exact so_b32n (fun _ _ _ _ _ _ g k => lv_idiv hX hB hd g k) hs h
  · exact so_b32n (fun _ _ _ _ _ _ g k => lv_irem hX hB hd g k) hs h
  · exact so_u32 (fun _ _ _ _ _ k => lv_ineg hX hB hd k) hs h
  · exact so_u32 (fun _ _ _ _ _ k => lv_i2b hX hB hd rfl k) hs h
  · exact so_u32 (fun _ _ _ _ _ k => lv_i2c hX hB hd rfl k) hs h
  · exact so_b64 (fun _ _ _ _ _ _ k => lv_ladd hX hB hd k) hs h
  · exact so_b64 (fun _ _ _ _ _ _ k => lv_lsub hX hB hd k) hs h
  · exact so_b64 (fun _ _ _ _ _ _ k => lv_lmul hX hB hd k) hs h
  · exact so_b64 (fun _ _ _ _ _ _ k => lv_lor hX hB hd k) hs h
  · exact so_s64 (fun _ _ _ _ _ _ k => lv_lshl hX hB hd rfl k) hs h
  · obtain ⟨st', h1, rfl⟩ := pu_sp hs
    obtain ⟨x, y, r, rfl, rfl⟩ := c64_sp h1
    intro H locs ls ad g1 g2 g3 hP hD hS hl
    exact W.lcmp hX hB hd (h H locs ls ad g1 g2 g3 hP hD hS hl)
  · obtain ⟨st', h1, rfl⟩ := pu_sp hs
    obtain ⟨x, r, rfl, rfl⟩ := i2L_sp h1
    intro H locs ls ad g1 g2 g3 hP hD hS hl
    exact lv_i2l hX hB hd rfl (h H locs ls ad g1 g2 g3 hP hD hS hl)
  · obtain ⟨st', h1, rfl⟩ := pu_sp hs
    obtain ⟨x, r, rfl, rfl⟩ := l2I_sp h1
    intro H locs ls ad g1 g2 g3 hP hD hS hl
    exact lv_l2i hX hB hd rfl (h H locs ls ad g1 g2 g3 hP hD hS hl)
  · exact so_dup F hd hs h
  · exact so_dup2 F hd hs h
  · exact so_pop F hd hs h
  · exact so_goto F hd hs h
  · exact so_ifS F hd hs h
  · exact so_icmpS F hd hs h
  · exact so_tb F hd hs h
  · exact so_gf F hd hc hs h
  · exact so_pf F hd hc hs h
  · exact so_iald F hd hs h
  · exact so_bald F hd hs h
  · exact so_lald F hd hs h
  · exact so_aald F hd hs h
  · exact so_iast F hd hs h
  · exact so_bast F hd hs h
  · exact so_last F hd hs h
  · exact so_aast F hd hs h
  · exact so_alen F hd hs h
  · exact so_new F hd hc hs hr h
  · exact so_newa F hd hc hs hr h
  · exact so_newq F hd hc hs hr h
  · exact so_ldc F hd hc hs h
  · rename_i idx k b0 sl ps
    have hc : (Nat.beq k 0 && tsB ps (Cond.constant (clN (md_k M)) idx (Int32.ofNat sl))) = true := hc
    simp only [Bool.and_eq_true] at hc
    exact so_push F hd (fun _ => rfl) (fun _ _ _ _ k => lv_ldcw hX hB F.2.2.2.2.1 (F.2.2.2.2.2.1 _ (tsB_in hc.2)) hd k) hs h
  · rename_i idx k b0 sl ps
    have hc : tsB ps (Cond.constantLong (clN (md_k M)) idx (Int64.ofNat sl)) = true := hc
    exact so_push F hd (fun _ => rfl) (fun _ _ _ _ k => lv_ldc2 hX hB F.2.2.2.2.1 (F.2.2.2.2.2.1 _ (tsB_in hc)) hd k) hs h
  · exact so_gs F hd hc hs h
  · rename_i idx t
    obtain ⟨b0, b1, ps⟩ := t
    exact so_cp F hd hc hs h
  · rename_i idx t
    obtain ⟨b0, b1, ps⟩ := t
    exact so_mx F hd hc hs ha h
  · rename_i idx t
    obtain ⟨b0, b1, ps⟩ := t
    exact so_mn F hd hc hs ha h
  · rename_i idx t
    obtain ⟨b0, b1, ps⟩ := t
    exact so_oi F hd hc hs h
  · cases hs
end SO6
