/-! the checker's step -/
def cI (x : Int32) : AV := vI x.toInt x.toInt
def cL (x : Int64) : AV := vL x.toInt x.toInt
def pshA (σ : AS) (a : AV) (pc : Nat) : AOUT := one pc (mkS σ (a :: σ.2.2.2.1))
def ldcA (k i sl : Nat) (σ : AS) (pc : Nat) : AOUT := bif Nat.beq k 0 then pshA σ (cI (Int32.ofNat sl)) pc else pshA σ (vX (1000000 + i)) pc
noncomputable def astep (E : WE) (tt : Nat) (md : Nat → Nat → Bool) (M : MD) (x : IE) (pc : Nat) (σ : AS) : AOUT := match x with
  | (.iconst n, 1, _) => pshA σ (cI (Int32.ofInt n)) (pc + 1)
  | (.bipush n, 2, _) => pshA σ (cI (Int8.ofInt n).toInt32) (pc + 2)
  | (.sipush n, 3, _) => pshA σ (cI (Int16.ofInt n).toInt32) (pc + 3)
  | (.lconst n, 1, _) => pshA σ (cL (Int64.ofNat (n : Nat))) (pc + 1)
  | (.iload_n k, 1, _) => ldX isI σ k (pc + 1)
  | (.iload k, 2, _) => ldX isI σ k (pc + 2)
  | (.lload_n k, 1, _) => ldX isL σ k (pc + 1)
  | (.lload k, 2, _) => ldX isL σ k (pc + 2)
  | (.aload_n k, 1, _) => ldX isR σ k (pc + 1)
  | (.aload k, 2, _) => ldX isR σ k (pc + 2)
  | (.istore_n k, 1, _) => stIA (md_n M) σ k (pc + 1)
  | (.istore k, 2, _) => stIA (md_n M) σ k (pc + 2)
  | (.lstore_n k, 1, _) => stLA (md_n M) σ k (pc + 1)
  | (.lstore k, 2, _) => stLA (md_n M) σ k (pc + 2)
  | (.astore_n k, 1, _) => stRA (md_n M) σ k (pc + 1)
  | (.astore k, 2, _) => stRA (md_n M) σ k (pc + 2)
  | (.iinc k n, 3, _) => incA (md_n M) σ k n (pc + 3)
  | (.iadd, 1, _) => op2 aAdd σ (pc + 1)
  | (.isub, 1, _) => op2 aSub σ (pc + 1)
  | (.imul, 1, _) => op2 aMul σ (pc + 1)
  | (.iand, 1, _) => op2 aAnd σ (pc + 1)
  | (.ior, 1, _) => op2 aOr σ (pc + 1)
  | (.ixor, 1, _) => op2 aOr σ (pc + 1)
  | (.ishl, 1, _) => op2 aShl σ (pc + 1)
  | (.ishr, 1, _) => op2 aTop σ (pc + 1)
  | (.iushr, 1, _) => op2 aTop σ (pc + 1)
  | (.idiv, 1, _) => op2 aDiv σ (pc + 1)
  | (.irem, 1, _) => op2 aRem σ (pc + 1)
  | (.ineg, 1, _) => op1 top32 σ (pc + 1)
  | (.i2b, 1, _) => op1 (vI (-128) 127) σ (pc + 1)
  | (.i2c, 1, _) => op1 top32 σ (pc + 1)
  | (.ladd, 1, _) => lgA lAdd σ (pc + 1)
  | (.lsub, 1, _) => lgA lSub σ (pc + 1)
  | (.lmul, 1, _) => lgA lMul σ (pc + 1)
  | (.lor, 1, _) => lgA (fun _ _ => topL) σ (pc + 1)
  | (.lshl, 1, _) => shA σ (pc + 1)
  | (.lcmp, 1, _) => lgA (fun _ _ => vI (-1) 1) σ (pc + 1)
  | (.i2l, 1, _) => i2lA σ (pc + 1)
  | (.l2i, 1, _) => l2iA σ (pc + 1)
  | (.dup, 1, _) => dupA σ (pc + 1)
  | (.dup2, 1, _) => dup2A σ (pc + 1)
  | (.pop, 1, _) => popA σ (pc + 1)
  | (.goto off, 3, _) => gtA off σ pc
  | (.ifCond cd off, 3, _) => if1A cd off σ pc
  | (.if_icmp cd off, 3, _) => if2A cd off σ pc
  | (.tableswitch df lo hi offs, _, _) => tbA df lo hi offs σ pc
  | (.getfield _, 3, k, ci, sl, _) => gfA E tt k ci sl σ (pc + 3)
  | (.putfield _, 3, _, ci, sl, _) => pfA E tt md ci sl σ (pc + 3)
  | (.iaload, 1, _) => alA E tt 0 σ (pc + 1)
  | (.baload, 1, _) => alA E tt 1 σ (pc + 1)
  | (.laload, 1, _) => llA E tt σ (pc + 1)
  | (.aaload, 1, _) => rlA E tt σ (pc + 1)
  | (.iastore, 1, _) => asA E tt md 0 σ (pc + 1)
  | (.bastore, 1, _) => asA E tt md 1 σ (pc + 1)
  | (.lastore, 1, _) => lsA E tt md σ (pc + 1)
  | (.arraylength, 1, _) => lnA E tt σ (pc + 1)
  | (.ldc _, 2, k, i, sl, _) => ldcA k i sl σ (pc + 2)
  | (.ldc_w _, 3, _, _, sl, _) => pshA σ (cI (Int32.ofNat sl)) (pc + 3)
  | (.ldc2_w _, 3, _, _, sl, _) => pshA σ (cL (Int64.ofNat sl)) (pc + 3)
  | (.getstatic _, 3, 0, _, _, _) => pshA σ (vI 1 1) (pc + 3)
  | (.invokestatic _, 3, 3, _) => cpA E tt md σ (pc + 3)
  | (.invokestatic _, 3, 4, _) => mxA true σ (pc + 3)
  | (.invokestatic _, 3, 5, _) => mxA false σ (pc + 3)
  | _ => none
section ST7
variable {E : WE} {th tt : Nat} {ρ : List Int} {w : List AE} {lv : List (Nat × Value)} {st : List Value} {σ : AS} {md : Nat → Nat → Bool} {pc n i nL : Nat} {L : List (Nat × AS)}
theorem gv_cI (x : Int32) : gv E th ρ (cI x) (.int x) := ⟨x, rfl, Int.le_refl _, Int.le_refl _⟩
theorem gv_cL (x : Int64) : gv E th ρ (cL x) (.long x) := ⟨x, rfl, Int.le_refl _, Int.le_refl _⟩
theorem ok1_push1 (hS : gS E th ρ σ lv st w) (hw : wok E w) (h : pshA σ (vI 1 1) (pc + 3) = some L) : OK1 E th md ρ w L (gsS 0 pc lv st w) := by
  rw [one_in h]
  exact ok1_id (lv' := lv) (st' := .int 1 :: st) rfl ⟨hS.1, hS.2.1, ⟨⟨1, rfl, by decide, by decide⟩, hS.2.2.1⟩, hS.2.2.2⟩ hw
theorem sn_ldc {k i0 sl : Nat} (hS : gS E th ρ σ lv st w) (hw : wok E w) (h : ldcA k i0 sl σ (pc + 2) = some L) : OK1 E th md ρ w L (ldS k i0 sl pc 2 lv st w) := by
  unfold ldcA at h
  unfold ldS
  cases hk : Nat.beq k 0 with
  | true =>
    rw [hk] at h
    rw [one_in h]
    exact ok1_id (lv' := lv) (st' := .int (Int32.ofNat sl) :: st) rfl ⟨hS.1, hS.2.1, ⟨gv_cI _, hS.2.2.1⟩, hS.2.2.2⟩ hw
  | false =>
    rw [hk] at h
    rw [one_in h]
    refine ok1_id (lv' := lv) (st' := .ref (1000000 + i0) :: st) rfl ⟨hS.1, hS.2.1, ⟨?_, hS.2.2.1⟩, hS.2.2.2⟩ hw
    have hb : Nat.beq (1000000 + i0) 0 = false := by
      cases hb : Nat.beq (1000000 + i0) 0 with
      | false => rfl
      | true => have := Nat.eq_of_beq_eq_true hb; omega
    show Value.ref (1000000 + i0) = Value.ref (bif Nat.beq (1000000 + i0) 0 then th else 1000000 + i0)
    rw [hb]
    rfl
set_option maxHeartbeats 4000000 in
set_option maxRecDepth 100000 in
theorem ast_sound {M : MD} {x : IE} (hS : gS E th ρ σ lv st w) (hw : wok E w) (hth : E.1 th = tt) (htt : tt ≠ 0) (h : astep E tt md M x pc σ = some L) : OK1 E th md ρ w L (stepI M x pc lv st w) := by
  unfold astep at h
  split at h
  · exact sn_push hS hw (gv_cI _) h
  · exact sn_push hS hw (gv_cI _) h
  · exact sn_push hS hw (gv_cI _) h
  · exact sn_push hS hw (gv_cL _) h
  · exact sn_ldI hS hw h
  · exact sn_ldI hS hw h
  · exact sn_ldL hS hw h
  · exact sn_ldL hS hw h
  · exact sn_ldA hS hw h
  · exact sn_ldA hS hw h
  · exact sn_stI hS hw h
  · exact sn_stI hS hw h
  · exact sn_stL hS hw h
  · exact sn_stL hS hw h
  · exact sn_stA hS hw h
  · exact sn_stA hS hw h
  · exact sn_inc hS hw h
  · exact sn_b32 aAdd_ok hS hw h
  · exact sn_b32 aSub_ok hS hw h
  · exact sn_b32 aMul_ok hS hw h
  · exact sn_b32 aAnd_ok hS hw h
  · exact sn_b32 aOr_ok hS hw h
  · exact sn_b32 aXor_ok hS hw h
  · exact sn_b32 aShl_ok hS hw h
  · exact sn_b32 (aTop_ok _) hS hw h
  · exact sn_b32 (aTop_ok _) hS hw h
  · exact sn_b32n (aDiv_ok _) div_nz hS hw h
  · exact sn_b32n aRem_ok rem_nz hS hw h
  · exact sn_u32 (fun _ => gv_top _) hS hw h
  · exact sn_u32 (fun x => i2b_ok x) hS hw h
  · exact sn_u32 (fun _ => gv_top _) hS hw h
  · exact sn_b64 lAdd_ok hS hw h
  · exact sn_b64 lSub_ok hS hw h
  · exact sn_b64 lMul_ok hS hw h
  · exact sn_b64 (fun _ _ _ _ _ _ => gv_topL _) hS hw h
  · exact sn_s64 hS hw h
  · exact sn_c64 hS hw h
  · exact sn_i2l hS hw h
  · exact sn_l2i hS hw h
  · exact sn_dup hS hw h
  · exact sn_dup2 hS hw h
  · exact sn_pop hS hw h
  · exact sn_goto hS hw h
  · exact sn_if1 hS hw h
  · exact sn_if2 hS hw h
  · exact sn_tb hS hw h
  · exact sn_gf hS hw hth htt h
  · exact sn_pf hS hw hth htt h
  · exact sn_ial hS hw hth htt h
  · exact sn_bal hS hw hth htt h
  · exact sn_ll hS hw hth htt h
  · exact sn_rl hS hw hth htt h
  · exact sn_as (u := 0) (fun u' q => by have q : Nat.beq u' 0 = true := q; rw [q]; rfl) hS hw hth htt h
  · exact sn_as (u := 1) (fun u' q => q) hS hw hth htt h
  · exact sn_ls hS hw hth htt h
  · exact sn_ln hS hw hth htt h
  · exact sn_ldc hS hw h
  · exact sn_push hS hw (gv_cI _) h
  · exact sn_push hS hw (gv_cL _) h
  · exact ok1_push1 hS hw h
  · exact sn_cp hS hw hth htt h
  · exact sn_mx hS hw h
  · exact sn_mx hS hw h
  · cases h
end ST7
