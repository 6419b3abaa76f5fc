/-! blocks: up to a stop, or a call -/
def isCl (x : IE) : Bool := match x with
  | (.invokevirtual _, _) => true
  | (.invokestatic _, _) => true
  | _ => false
noncomputable def blkK (ev : EV') (M : MD) (stp : Nat → Bool) (k : KT) (n : Nat) : Bool → KT := Nat.rec (fun _ => k) (fun _ f first pc vec st S => cond (!first && stp pc) (k pc vec st S) (match md_i M pc with
    | none => none
    | some x => cond (isCl x) (stepK ev M x pc vec st S k) (stepK ev M x pc vec st S (f false)))) n
theorem blk_lim (ev : EV') (M : MD) (stp : Nat → Bool) (n : Nat) (first : Bool) (pc : Nat) (vec : List (Option Value)) (st : List Value) (S : WS) : blkK ev M stp (limK ev M) n first pc vec st S = limK ev M pc vec st S := by
  revert first pc vec st S
  induction n with
  | zero => intro first pc vec st S; rfl
  | succ n ih =>
    intro first pc vec st S
    show cond (!first && stp pc) (limK ev M pc vec st S) (match md_i M pc with
      | none => none
      | some x => cond (isCl x) (stepK ev M x pc vec st S (limK ev M)) (stepK ev M x pc vec st S (blkK ev M stp (limK ev M) n false))) = _
    have e : blkK ev M stp (limK ev M) n false = limK ev M := by
      funext pc vec st S
      exact ih false pc vec st S
    rw [e]
    cases (!first && stp pc) with
    | true => rfl
    | false =>
      rw [limK_s]
      cases md_i M pc with
      | none => rfl
      | some x =>
        show cond (isCl x) _ _ = _
        cases isCl x <;> rfl
