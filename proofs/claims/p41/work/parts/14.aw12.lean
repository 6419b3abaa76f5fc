/-! the evaluator: runs a method on given cells; what it answers is a contract -/
abbrev RS : Type := Option Value × List AE × Nat × Nat
def retS (M : MD) (x : IE) (st : List Value) : Option (Option Value) := match x, st with
  | (.return_, 1, _), [] => (match md_r M with
    | none => some none
    | some _ => none)
  | (.ireturn, 1, _), [.int v] => (match md_r M with
    | some ty => if narrow ty (.int v) = .int v then some (some (.int v)) else none
    | none => none)
  | (.lreturn, 1, _), [.long v] => (match md_r M with
    | some .long => some (some (.long v))
    | _ => none)
  | (.areturn, 1, _), [.ref o] => (match md_r M with
    | some (.object _) => some (some (.ref o))
    | _ => none)
  | _, _ => none
/-- kind (0 virtual, 1 static, 2 constructor), method, arguments, the rest of the stack -/
def callP (x : IE) (st : List Value) (w : List AE) : Option (Nat × List Value × List Value) := match x with
  | (.invokevirtual _, 3, _, b0, _, _) => (match st.drop ((md_p (mdOf b0)).getD 5 0) with
    | .ref o :: rest => bif !(Nat.beq ((md_p (mdOf b0)).getD 4 0) 1) && !(decide ((md_y (mdOf b0)).name = "<init>")) && rcB (mdOf b0) w o && Nat.ble (rest.map fun v => v.category).sum 8 then some (b0, .ref o :: (st.take ((md_p (mdOf b0)).getD 5 0)).reverse, rest) else none
    | _ => none)
  | (.invokestatic _, 3, k, b0, _, _) => bif Nat.blt k 2 && Nat.beq ((md_p (mdOf b0)).getD 4 0) 1 && Nat.ble ((md_p (mdOf b0)).getD 5 0) st.length && Nat.ble ((st.drop ((md_p (mdOf b0)).getD 5 0)).map fun v => v.category).sum 8 then some (b0, (st.take ((md_p (mdOf b0)).getD 5 0)).reverse, st.drop ((md_p (mdOf b0)).getD 5 0)) else none
  | (.invokespecial _, 3, k, b0, _, _) => (match st.drop ((md_p (mdOf b0)).getD 5 0) with
    | .ref o :: rest => bif Nat.blt k 2 && !(Nat.beq ((md_p (mdOf b0)).getD 4 0) 1) && decide ((md_y (mdOf b0)).name = "<init>") && decide (md_r (mdOf b0) = none) && Nat.ble (rest.map fun v => v.category).sum 8 then some (b0, .ref o :: (st.take ((md_p (mdOf b0)).getD 5 0)).reverse, rest) else none
    | _ => none)
  | _ => none
def callW (w w' : List AE) (lv : List (Nat × Value)) (rest : List Value) : Bool := Nat.beq w'.length w.length || (lv.all (fun q => okv w.length w'.length q.2) && rest.all (okv w.length w'.length))
noncomputable def evalB (ev : Nat → List Value → List AE → Option RS) (M : MD) (n : Nat) : Nat → List (Nat × Value) → List Value → List AE → Nat → Nat → Option RS :=
  Nat.rec (fun _ _ _ _ _ _ => none) (fun _ ih pc lv st w a b => match md_i M pc with
    | none => none
    | some x => match stepI M x pc lv st w with
      | some z => ih z.1 z.2.1 z.2.2.1 z.2.2.2.1 (a + z.2.2.2.2.1) (b + z.2.2.2.2.2)
      | none => match retS M x st with
        | some r => some (r, w, a, b)
        | none => match callP x st w with
          | none => none
          | some q => match ev q.1 q.2.1 w with
            | none => none
            | some y => bif callW w y.2.1 lv q.2.2 then ih (pc + 3) lv (y.1.toList ++ q.2.2) y.2.1 (a + y.2.2.1) (b + y.2.2.2) else none) n
noncomputable def evalM (fu : Nat) (d : Nat) : Nat → List Value → List AE → Option RS :=
  Nat.rec (fun _ _ _ => none) (fun _ ih b0 av w => bif Nat.ble (lg_sl av).length (md_n (mdOf b0)) then evalB ih (mdOf b0) fu 0 (lv_args 0 av) [] w 0 0 else none) d
section SO9
variable {X : CX} {l : Launch} {M : MD} {R : Room} {p : Program} {e : Env} {s : State} {m : MethodId} {args : Array Value} {below : List Frame} {meth : Method} {c : Code} {A : Nat → Prop} {Q : State → Prop} {n0 : Nat} {ad0 : Nat → Nat} {pc : Nat} {lv : List (Nat × Value)} {st : List Value} {w : List AE} {a b : Nat}
theorem ev_mono {ev : Nat → List Value → List AE → Option RS} : ∀ (n pc : Nat) (lv : List (Nat × Value)) (st : List Value) (w : List AE) (a b : Nat) (y : RS), evalB ev M n pc lv st w a b = some y → a ≤ y.2.2.1 ∧ b ≤ y.2.2.2 := by
  intro n
  induction n with
  | zero => intro pc lv st w a b y h; cases h
  | succ n ih =>
    intro pc lv st w a b y h
    have h : (match md_i M pc with
      | none => none
      | some x => match stepI M x pc lv st w with
        | some z => evalB ev M n z.1 z.2.1 z.2.2.1 z.2.2.2.1 (a + z.2.2.2.2.1) (b + z.2.2.2.2.2)
        | none => match retS M x st with
          | some r => some ((r, w, a, b) : RS)
          | none => match callP x st w with
            | none => none
            | some q => match ev q.1 q.2.1 w with
              | none => none
              | some y => bif callW w y.2.1 lv q.2.2 then evalB ev M n (pc + 3) lv (y.1.toList ++ q.2.2) y.2.1 (a + y.2.2.1) (b + y.2.2.2) else none) = some y := h
    split at h
    · cases h
    · split at h
      · have := ih _ _ _ _ _ _ _ h
        exact ⟨by omega, by omega⟩
      · split at h
        · cases h; exact ⟨Nat.le_refl _, Nat.le_refl _⟩
        · split at h
          · cases h
          · split at h
            · cases h
            · rename_i y0 _
              cases hb : callW w y0.2.1 lv _ with
              | false => rw [hb] at h; cases h
              | true =>
                rw [hb] at h
                have := ih _ _ _ _ _ _ _ h
                exact ⟨by omega, by omega⟩
set_option maxHeartbeats 1000000 in
theorem ev_sound {ev : Nat → List Value → List AE → Option RS} {d' : Nat} {y : RS} (F : MF X M (rmA (d' + 1) y.2.2.1 y.2.2.2) p s m args meth c A) (hok : ∀ k, mdB (mdOf k) = true)
    (hev : ∀ (b0 : Nat) (av : List Value) (w : List AE) (y : RS), ev b0 av w = some y → AMet X l (mdOf b0) d' y.2.2.1 y.2.2.2 av w (fun r w' => r = y.1 ∧ w' = y.2.1)) :
    ∀ (n pc : Nat) (lv : List (Nat × Value)) (st : List Value) (w : List AE) (a b : Nat), evalB ev M n pc lv st w a b = some y → AW X l M (rmA (d' + 1) y.2.2.1 y.2.2.2) p e s m args below meth c A (MQ below (QQ X n0 ad0 A (fun r w' => r = y.1 ∧ w' = y.2.1)) args s y.2.2.1 y.2.2.2 A) n0 ad0 pc lv st w a b := by
  intro n
  induction n with
  | zero => intro pc lv st w a b h; cases h
  | succ n ih =>
    intro pc lv st w a b h
    have h : (match md_i M pc with
      | none => none
      | some x => match stepI M x pc lv st w with
        | some z => evalB ev M n z.1 z.2.1 z.2.2.1 z.2.2.2.1 (a + z.2.2.2.2.1) (b + z.2.2.2.2.2)
        | none => match retS M x st with
          | some r => some ((r, w, a, b) : RS)
          | none => match callP x st w with
            | none => none
            | some q => match ev q.1 q.2.1 w with
              | none => none
              | some y => bif callW w y.2.1 lv q.2.2 then evalB ev M n (pc + 3) lv (y.1.toList ++ q.2.2) y.2.1 (a + y.2.2.1) (b + y.2.2.2) else none) = some y := h
    cases hx : md_i M pc with
    | none => rw [hx] at h; cases h
    | some x =>
      simp only [hx] at h
      cases hs : stepI M x pc lv st w with
      | some z =>
        simp only [hs] at h
        exact so_step F hx hs (ev_mono _ _ _ _ _ _ _ _ h) (ih _ _ _ _ _ _ h)
      | none =>
        simp only [hs] at h
        cases hr : retS M x st with
        | some r =>
          simp only [hr] at h
          cases h
          unfold retS at hr
          split at hr
          · split at hr
            · rename_i hq
              cases hr
              exact aw_vret F hx hq ⟨Nat.le_refl _, Nat.le_refl _⟩ ⟨rfl, rfl⟩
            · cases hr
          · split at hr
            · rename_i hq
              split at hr
              · rename_i hn
                cases hr
                exact aw_iret F hx hq hn ⟨Nat.le_refl _, Nat.le_refl _⟩ ⟨rfl, rfl⟩
              · cases hr
            · cases hr
          · split at hr
            · rename_i hq
              cases hr
              exact aw_lret F hx hq ⟨Nat.le_refl _, Nat.le_refl _⟩ ⟨rfl, rfl⟩
            · cases hr
          · split at hr
            · rename_i hq
              cases hr
              exact aw_aret F hx hq ⟨Nat.le_refl _, Nat.le_refl _⟩ ⟨rfl, rfl⟩
            · cases hr
          · cases hr
        | none =>
          simp only [hr] at h
          cases hc : callP x st w with
          | none => simp only [hc] at h; cases h
          | some q =>
            simp only [hc] at h
            cases hy : ev q.1 q.2.1 w with
            | none => simp only [hy] at h; cases h
            | some y0 =>
              simp only [hy] at h
              cases hb : callW w y0.2.1 lv q.2.2 with
              | false => rw [hb] at h; cases h
              | true =>
                rw [hb] at h
                have h : evalB ev M n (pc + 3) lv (y0.1.toList ++ q.2.2) y0.2.1 (a + y0.2.2.1) (b + y0.2.2.2) = some y := h
                have hA := hev _ _ _ _ hy
                have hroom := ev_mono _ _ _ _ _ _ _ _ h
                have hk : ∀ (r : Option Value) (w' : List AE), (r = y0.1 ∧ w' = y0.2.1) → (w'.length = w.length ∨ (lv.all (fun q => okv w.length w'.length q.2) = true ∧ q.2.2.all (okv w.length w'.length) = true)) ∧ AW X l M (rmA (d' + 1) y.2.2.1 y.2.2.2) p e s m args below meth c A (MQ below (QQ X n0 ad0 A (fun r w' => r = y.1 ∧ w' = y.2.1)) args s y.2.2.1 y.2.2.2 A) n0 ad0 (pc + 3) lv (r.toList ++ q.2.2) w' (a + y0.2.2.1) (b + y0.2.2.2) := by
                  intro r w' hrw
                  obtain ⟨rfl, rfl⟩ := hrw
                  refine ⟨?_, ih _ _ _ _ _ _ h⟩
                  unfold callW at hb
                  simp only [Bool.or_eq_true, Bool.and_eq_true] at hb
                  exact hb.imp Nat.eq_of_beq_eq_true id
                have hR : d' + 1 ≤ (rmA (d' + 1) y.2.2.1 y.2.2.2).frames ∧ 80 * d' + 80 ≤ (rmA (d' + 1) y.2.2.1 y.2.2.2).locals := ⟨Nat.le_refl _, by show 80 * d' + 80 ≤ 80 * (d' + 1); omega⟩
                unfold callP at hc
                split at hc
                · rename_i idx k b0 sl ps
                  split at hc
                  · rename_i o rest hdrop
                    cases hbb : (!(Nat.beq ((md_p (mdOf b0)).getD 4 0) 1) && !(decide ((md_y (mdOf b0)).name = "<init>")) && rcB (mdOf b0) w o && Nat.ble (rest.map fun v => v.category).sum 8) with
                    | false => simp only [hbb, cond_false] at hc; cases hc
                    | true =>
                      simp only [hbb, cond_true] at hc
                      cases hc
                      simp only [Bool.and_eq_true, Bool.not_eq_true', decide_eq_false_iff_not] at hbb
                      obtain ⟨⟨⟨c1, c2⟩, c3⟩, c4⟩ := hbb
                      have hlen : ((st.take ((md_p (mdOf b0)).getD 5 0)).reverse).length = (md_p (mdOf b0)).getD 5 0 := by
                        have h1 := congrArg List.length hdrop
                        rw [List.length_drop] at h1
                        simp only [List.length_cons] at h1
                        rw [List.length_reverse, List.length_take]
                        omega
                      have hres := aw_callV (As := (st.take ((md_p (mdOf b0)).getD 5 0)).reverse) F hx (hok b0) c1 c2 hlen c3 (Nat.le_of_ble_eq_true c4) hR hroom hA hk
                      rw [List.reverse_reverse, ← hdrop, List.take_append_drop] at hres
                      exact hres
                  · cases hc
                · rename_i idx k b0 sl ps
                  cases hbb : (Nat.blt k 2 && Nat.beq ((md_p (mdOf b0)).getD 4 0) 1 && Nat.ble ((md_p (mdOf b0)).getD 5 0) st.length && Nat.ble ((st.drop ((md_p (mdOf b0)).getD 5 0)).map fun v => v.category).sum 8) with
                  | false => simp only [hbb, cond_false] at hc; cases hc
                  | true =>
                    simp only [hbb, cond_true] at hc
                    cases hc
                    simp only [Bool.and_eq_true] at hbb
                    obtain ⟨⟨⟨c0, c1⟩, c2⟩, c4⟩ := hbb
                    have hlen : ((st.take ((md_p (mdOf b0)).getD 5 0)).reverse).length = (md_p (mdOf b0)).getD 5 0 := by
                      rw [List.length_reverse, List.length_take]
                      have := Nat.le_of_ble_eq_true c2
                      omega
                    have hres := aw_callS (As := (st.take ((md_p (mdOf b0)).getD 5 0)).reverse) F hx (Nat.le_of_ble_eq_true c0) (hok b0) c1 hlen (Nat.le_of_ble_eq_true c4) hR hroom hA hk
                    rw [List.reverse_reverse, List.take_append_drop] at hres
                    exact hres
                · rename_i idx k b0 sl ps
                  split at hc
                  · rename_i o rest hdrop
                    cases hbb : (Nat.blt k 2 && !(Nat.beq ((md_p (mdOf b0)).getD 4 0) 1) && decide ((md_y (mdOf b0)).name = "<init>") && decide (md_r (mdOf b0) = none) && Nat.ble (rest.map fun v => v.category).sum 8) with
                    | false => simp only [hbb, cond_false] at hc; cases hc
                    | true =>
                      simp only [hbb, cond_true] at hc
                      cases hc
                      simp only [Bool.and_eq_true, Bool.not_eq_true', decide_eq_true_eq] at hbb
                      obtain ⟨⟨⟨⟨c0, c1⟩, c2⟩, c3⟩, c4⟩ := hbb
                      have hlen : ((st.take ((md_p (mdOf b0)).getD 5 0)).reverse).length = (md_p (mdOf b0)).getD 5 0 := by
                        have h1 := congrArg List.length hdrop
                        rw [List.length_drop] at h1
                        simp only [List.length_cons] at h1
                        rw [List.length_reverse, List.length_take]
                        omega
                      have hres := aw_callI (As := (st.take ((md_p (mdOf b0)).getD 5 0)).reverse) F hx (Nat.le_of_ble_eq_true c0) (hok b0) c1 c2 c3 hlen (Nat.le_of_ble_eq_true c4) hR hroom hA hk
                      rw [List.reverse_reverse, ← hdrop, List.take_append_drop] at hres
                      exact hres
                  · cases hc
                · cases hc
/-- what the evaluator answers of a method is its contract -/
theorem evalM_sound (hok : ∀ k, mdB (mdOf k) = true) (fu : Nat) : ∀ (d b0 : Nat) (av : List Value) (w : List AE) (y : RS), evalM fu d b0 av w = some y → AMet X l (mdOf b0) d y.2.2.1 y.2.2.2 av w (fun r w' => r = y.1 ∧ w' = y.2.1) := by
  intro d
  induction d with
  | zero => intro b0 av w y h; cases h
  | succ d ih =>
    intro b0 av w y h
    have h : (bif Nat.ble (lg_sl av).length (md_n (mdOf b0)) then evalB (evalM fu d) (mdOf b0) fu 0 (lv_args 0 av) [] w 0 0 else none) = some y := h
    cases hb : Nat.ble (lg_sl av).length (md_n (mdOf b0)) with
    | false => rw [hb] at h; cases h
    | true =>
      rw [hb] at h
      exact amet_of (hok b0) (Nat.succ_le_succ (Nat.zero_le _)) (Nat.le_of_ble_eq_true hb) (fun p e s m vs below meth c A ad F => ev_sound F hok ih fu 0 _ _ _ 0 0 h)
end SO9
