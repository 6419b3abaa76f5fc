/-! what isn't written: the house of the text read last stays -/
def howB (md : MDs) : Bool := ((List.range 11).all (fun i => md.all (fun q => !(Nat.beq q.1 (ctyC (10 + i))))) && fpL.all (fun q => !(mdF md q.1 q.2))) && (([58, 59, 62, 63, 64, 65, 66, 68, 69] : List Nat).all (fun t => !(mdF md t 1000) && !(mdF md t 1001)) && !(mdF md 47 18))
section HMD
variable {x y v : Nat} {T : TZ} {S S' : WS} {md : MDs}
theorem how_md (hx : x = 10 ∨ x = 23) (hB : howB md = true) (hU : UPD md S S') (h : HOW S x) : HOW S' x := by
  unfold howB at hB
  simp only [Bool.and_eq_true] at hB
  obtain ⟨⟨b1, b2⟩, b3, b4⟩ := hB
  obtain ⟨v, h0, h18, Tr, Sr, t, n, st, sl, L, n0, k1, k2, k3, k4, k5⟩ := h
  have hck : ∀ c, x ≤ c → c ≤ x + 10 → cellK S' c = cellK S c := fun c q1 q2 => ck_md hU (by omega) (by
    have h1 := List.all_eq_true.mp b1 (c - x) (List.mem_range.mpr (by omega))
    have h2 : ctyC (10 + (c - x)) = ctyC c := by
      have key : ∀ i, i < 11 → ctyC (10 + i) = ctyC (23 + i) := by decide
      rcases hx with rfl | rfl
      · rw [show 10 + (c - 10) = c by omega]
      · rw [key _ (by omega), show 23 + (c - 23) = c by omega]
    rw [h2] at h1
    exact h1)
  have e18 : S'.1 148 18 = S.1 148 18 := up_fl hU rfl rfl (by simpa using b4)
  exact ⟨v, h0, by rw [e18]; exact h18, Tr, Sr, t, n, st, sl, L, n0, k1, cls_t hx k2 hck, (hf_at hx (hck x (by omega) (by omega)) (by decide)).trans k3, lb_t k4 (lb_up h0 hU b2), fh_t k5 (fh_up h0 hU (by simpa using b3))⟩
end HMD
/-- none of the others writes it -/
theorem how_all : ([c_X11_bed.2.2.2.1, c_X11_behind.2.2.2.1, c_X11_best.2.2.2.1, c_X11_bestBed.2.2.2.1, c_X11_bestStart.2.2.2.1, c_X11_count.2.2.2.1, c_X11_doubt.2.2.2.1, c_X11_ends.2.2.2.1, c_X11_fair.2.2.2.1, c_X11_far.2.2.2.1, c_X11_farAt.2.2.2.1, c_X11_fits.2.2.2.1, c_X11_forget.2.2.2.1, c_X11_free.2.2.2.1, c_X11_gains.2.2.2.1, c_X11_handed.2.2.2.1, c_X11_hours.2.2.2.1, c_X11_knows.2.2.2.1, c_X11_line.2.2.2.1, c_X11_lineAt.2.2.2.1, c_X11_longest.2.2.2.1, c_X11_luckiest.2.2.2.1, c_X11_mean.2.2.2.1, c_X11_nap.2.2.2.1, c_X11_needed.2.2.2.1, c_X11_now.2.2.2.1, c_X11_place.2.2.2.1, c_X11_reach.2.2.2.1, c_X11_rests.2.2.2.1, c_X11_round.2.2.2.1, c_X11_set.2.2.2.1, c_X11_sleeper.2.2.2.1, c_X11_tell.2.2.2.1, c_X11_then.2.2.2.1, c_X11_trapped.2.2.2.1, c_X11_undo.2.2.2.1, c_X11_wake.2.2.2.1, c_X11_was.2.2.2.1, c_X11_when.2.2.2.1, c_X12_behind_0.2.2.2.1, c_X12_behind_1.2.2.2.1, c_X12_bestBed_0.2.2.2.1, c_X12_bestBed_1.2.2.2.1, c_X12_bestStart_0.2.2.2.1, c_X12_bestStart_1.2.2.2.1, c_X12_count_0.2.2.2.1, c_X12_count_1.2.2.2.1, c_X12_far_0.2.2.2.1, c_X12_far_1.2.2.2.1, c_X12_free_0.2.2.2.1, c_X12_free_1.2.2.2.1, c_X12_gains_0.2.2.2.1, c_X12_gains_1.2.2.2.1, c_X12_handed_0.2.2.2.1, c_X12_handed_1.2.2.2.1, c_X12_knows_0.2.2.2.1, c_X12_knows_1.2.2.2.1, c_X12_lineAt_0.2.2.2.1, c_X12_lineAt_1.2.2.2.1, c_X12_line_0.2.2.2.1, c_X12_line_1.2.2.2.1, c_X12_longest_0.2.2.2.1, c_X12_longest_1.2.2.2.1, c_X12_luckiest_0.2.2.2.1, c_X12_luckiest_1.2.2.2.1, c_X12_mean_0.2.2.2.1, c_X12_mean_1.2.2.2.1, c_X12_needed_0.2.2.2.1, c_X12_needed_1.2.2.2.1, c_X12_now_0.2.2.2.1, c_X12_now_1.2.2.2.1, c_X12_place.2.2.2.1, c_X12_reach_0.2.2.2.1, c_X12_reach_1.2.2.2.1, c_X12_rests_0.2.2.2.1, c_X12_rests_1.2.2.2.1, c_X12_round_0.2.2.2.1, c_X12_round_1.2.2.2.1, c_X12_sleeper_0.2.2.2.1, c_X12_sleeper_1.2.2.2.1, c_X12_then_0.2.2.2.1, c_X12_then_1.2.2.2.1, c_X12_trapped_0.2.2.2.1, c_X12_trapped_1.2.2.2.1, c_X12_was_0.2.2.2.1, c_X12_was_1.2.2.2.1, c_X12_when_0.2.2.2.1, c_X12_when_1.2.2.2.1] : List MDs).all howB = true := by decide +kernel
theorem how_ho : ([mdHo, mdRe, mdF0, c_X11_hold.2.2.2.1, c_X11_restore.2.2.2.1, c_X11_feed.2.2.2.1] : List MDs).all howB = true := by decide +kernel
