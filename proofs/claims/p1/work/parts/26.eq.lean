/-! printed by wip/gen/eqgen.py: on a fresh object class and reference answer alike -/
theorem i32_of {x y : Int32} {k : Int} (hx : x.toInt = k) (hy : y.toInt = k) : x = y := Int32.toInt_inj.mp (hx.trans hy.symm)
theorem nI_of3 {x : Int32} {lo n : Nat} (h1 : (lo : Int) ≤ x.toInt) (h2 : x.toInt ≤ n) (hn : n < 2 ^ 31) : ∃ N : Nat, x = nI N ∧ lo ≤ N ∧ N ≤ n :=
  ⟨x.toInt.toNat, i32_of (k := x.toInt) rfl (by rw [nI_toInt (by omega)]; omega), by omega, by omega⟩
def zR : List AE := wR0 (List.replicate 600 0) (List.replicate 600 0) (List.replicate 2880 0)
def zO : List AE := wO [0, 0, 0] (List.replicate 3888 0) [(-2), (-2), 0, 0, 0, 0, 0, 0, 0, 0, 0, 0, 0, 0, 0, 0, 0, 0, 0, 0, 0, 0, 0, 0, 0, 0, 0, 0, 0, 0, 0, 0, 0, 0, 0, 0, 0, 0, 0, 0, 0, 0, 0, 0, 0, 0, 0, 0, 0, 0, 0, 0, 0, 0, 0, 0, 0, 0, 0, 0, 0, 0, 0, 0, 0, 0, 0, 0, 0, 0, 0, 0, 0, 0, 0, 0, 0, 0, 0, 0, 0, 0, 0, 0, 0, 0, 0, 0, 0, 0, 0, 0, 0, 0, 0, 0] (List.replicate 600 0) (List.replicate 600 0)
theorem zb_H : embB [0, 36, 37, 23, 38, 39, 40, 41, 45, 46] wHs wC = true := by decide +kernel
theorem zb_F : embB [0, 1, 2, 3] (wFd (List.replicate 2000 0)) wC = true := by decide +kernel
theorem zb_R : embB [0, 35, 38, 22, 16, 36, 37, 39] zR wM = true := by decide +kernel
theorem zb_O : embB [0, 50, 51, 35, 36, 37] zO wM = true := by decide +kernel
theorem zb_Q : embB [0, 1] (wQ (nI 0) (List.replicate 2000 0)) wM = true := by decide +kernel
theorem rcM_feed : rcB (mdOf 194) wM 0 = true := by decide +kernel
theorem rcC_back : rcB (mdOf 146) wC 0 = true := by decide +kernel
theorem rcM_back : rcB (mdOf 196) wM 0 = true := by decide +kernel
theorem rcC_read : rcB (mdOf 147) wC 0 = true := by decide +kernel
theorem rcM_read : rcB (mdOf 211) wM 0 = true := by decide +kernel
theorem rcC_place : rcB (mdOf 148) wC 0 = true := by decide +kernel
theorem rcM_place : rcB (mdOf 212) wM 0 = true := by decide +kernel
theorem rcC_now : rcB (mdOf 149) wC 0 = true := by decide +kernel
theorem rcM_now : rcB (mdOf 248) wM 0 = true := by decide +kernel
theorem rcC_sleeper : rcB (mdOf 150) wC 0 = true := by decide +kernel
theorem rcM_sleeper : rcB (mdOf 249) wM 0 = true := by decide +kernel
theorem rcC_was : rcB (mdOf 151) wC 0 = true := by decide +kernel
theorem rcM_was : rcB (mdOf 250) wM 0 = true := by decide +kernel
theorem rcC_hours : rcB (mdOf 152) wC 0 = true := by decide +kernel
theorem rcM_hours : rcB (mdOf 252) wM 0 = true := by decide +kernel
theorem rcC_nap : rcB (mdOf 153) wC 0 = true := by decide +kernel
theorem rcM_nap : rcB (mdOf 253) wM 0 = true := by decide +kernel
theorem rcC_wake : rcB (mdOf 154) wC 0 = true := by decide +kernel
theorem rcM_wake : rcB (mdOf 255) wM 0 = true := by decide +kernel
theorem rcC_bed : rcB (mdOf 155) wC 0 = true := by decide +kernel
theorem rcM_bed : rcB (mdOf 256) wM 0 = true := by decide +kernel
theorem rcC_set : rcB (mdOf 156) wC 0 = true := by decide +kernel
theorem rcM_set : rcB (mdOf 257) wM 0 = true := by decide +kernel
theorem rcC_undo : rcB (mdOf 157) wC 0 = true := by decide +kernel
theorem rcM_undo : rcB (mdOf 258) wM 0 = true := by decide +kernel
theorem rcC_then : rcB (mdOf 158) wC 0 = true := by decide +kernel
theorem rcM_then : rcB (mdOf 260) wM 0 = true := by decide +kernel
theorem rcC_ends : rcB (mdOf 159) wC 0 = true := by decide +kernel
theorem rcM_ends : rcB (mdOf 261) wM 0 = true := by decide +kernel
theorem rcC_gains : rcB (mdOf 160) wC 0 = true := by decide +kernel
theorem rcM_gains : rcB (mdOf 263) wM 0 = true := by decide +kernel
theorem rcC_line : rcB (mdOf 161) wC 0 = true := by decide +kernel
theorem rcM_line : rcB (mdOf 268) wM 0 = true := by decide +kernel
theorem rcC_lineAt : rcB (mdOf 162) wC 0 = true := by decide +kernel
theorem rcM_lineAt : rcB (mdOf 269) wM 0 = true := by decide +kernel
theorem rcC_fair : rcB (mdOf 163) wC 0 = true := by decide +kernel
theorem rcM_fair : rcB (mdOf 270) wM 0 = true := by decide +kernel
theorem rcC_rests : rcB (mdOf 164) wC 0 = true := by decide +kernel
theorem rcM_rests : rcB (mdOf 273) wM 0 = true := by decide +kernel
theorem rcC_round : rcB (mdOf 165) wC 0 = true := by decide +kernel
theorem rcM_round : rcB (mdOf 277) wM 0 = true := by decide +kernel
theorem rcC_reach : rcB (mdOf 166) wC 0 = true := by decide +kernel
theorem rcM_reach : rcB (mdOf 284) wM 0 = true := by decide +kernel
theorem rcC_far : rcB (mdOf 167) wC 0 = true := by decide +kernel
theorem rcM_far : rcB (mdOf 285) wM 0 = true := by decide +kernel
theorem rcC_farAt : rcB (mdOf 168) wC 0 = true := by decide +kernel
theorem rcM_farAt : rcB (mdOf 287) wM 0 = true := by decide +kernel
theorem rcC_trapped : rcB (mdOf 169) wC 0 = true := by decide +kernel
theorem rcM_trapped : rcB (mdOf 288) wM 0 = true := by decide +kernel
theorem rcC_bestBed : rcB (mdOf 170) wC 0 = true := by decide +kernel
theorem rcM_bestBed : rcB (mdOf 274) wM 0 = true := by decide +kernel
theorem rcC_bestStart : rcB (mdOf 171) wC 0 = true := by decide +kernel
theorem rcM_bestStart : rcB (mdOf 275) wM 0 = true := by decide +kernel
theorem rcC_free : rcB (mdOf 172) wC 0 = true := by decide +kernel
theorem rcM_free : rcB (mdOf 278) wM 0 = true := by decide +kernel
theorem rcC_handed : rcB (mdOf 173) wC 0 = true := by decide +kernel
theorem rcM_handed : rcB (mdOf 293) wM 0 = true := by decide +kernel
theorem rcC_luckiest : rcB (mdOf 174) wC 0 = true := by decide +kernel
theorem rcM_luckiest : rcB (mdOf 297) wM 0 = true := by decide +kernel
theorem rcC_best : rcB (mdOf 175) wC 0 = true := by decide +kernel
theorem rcM_best : rcB (mdOf 292) wM 0 = true := by decide +kernel
theorem rcC_needed : rcB (mdOf 176) wC 0 = true := by decide +kernel
theorem rcM_needed : rcB (mdOf 279) wM 0 = true := by decide +kernel
theorem rcC_mean : rcB (mdOf 177) wC 0 = true := by decide +kernel
theorem rcM_mean : rcB (mdOf 281) wM 0 = true := by decide +kernel
theorem rcC_knows : rcB (mdOf 178) wC 0 = true := by decide +kernel
theorem rcM_knows : rcB (mdOf 298) wM 0 = true := by decide +kernel
theorem rcC_when : rcB (mdOf 179) wC 0 = true := by decide +kernel
theorem rcM_when : rcB (mdOf 299) wM 0 = true := by decide +kernel
theorem rcC_behind : rcB (mdOf 180) wC 0 = true := by decide +kernel
theorem rcM_behind : rcB (mdOf 294) wM 0 = true := by decide +kernel
theorem rcC_longest : rcB (mdOf 181) wC 0 = true := by decide +kernel
theorem rcM_longest : rcB (mdOf 296) wM 0 = true := by decide +kernel
theorem rcC_tell : rcB (mdOf 182) wC 0 = true := by decide +kernel
theorem rcM_tell : rcB (mdOf 300) wM 0 = true := by decide +kernel
theorem rcC_forget : rcB (mdOf 183) wC 0 = true := by decide +kernel
theorem rcM_forget : rcB (mdOf 301) wM 0 = true := by decide +kernel
theorem rcC_fits : rcB (mdOf 184) wC 0 = true := by decide +kernel
theorem rcM_fits : rcB (mdOf 304) wM 0 = true := by decide +kernel
theorem rcC_doubt : rcB (mdOf 185) wC 0 = true := by decide +kernel
theorem rcM_doubt : rcB (mdOf 305) wM 0 = true := by decide +kernel
theorem rcC_hold : rcB (mdOf 186) wC 0 = true := by decide +kernel
theorem rcM_hold : rcB (mdOf 306) wM 0 = true := by decide +kernel
theorem rcC_restore : rcB (mdOf 187) wC 0 = true := by decide +kernel
theorem rcM_restore : rcB (mdOf 307) wM 0 = true := by decide +kernel
theorem rcC_count : rcB (mdOf 188) wC 0 = true := by decide +kernel
theorem rcM_count : rcB (mdOf 308) wM 0 = true := by decide +kernel
theorem rcS_hours : rcB (mdOf 152) wHs 0 = true := by decide +kernel
theorem rcS_feed : rcB (mdOf 145) (wFd (List.replicate 2000 0)) 0 = true := by decide +kernel
theorem rcZ_then : rcB (mdOf 260) zR 0 = true := by decide +kernel
theorem rcZ_ends : rcB (mdOf 261) zR 0 = true := by decide +kernel
theorem rcZ_mean : rcB (mdOf 281) zR 0 = true := by decide +kernel
theorem rcZ_rests : rcB (mdOf 273) zR 0 = true := by decide +kernel
theorem rcZ_hours : rcB (mdOf 252) zR 0 = true := by decide +kernel
theorem rcZ_hold : rcB (mdOf 306) zO 0 = true := by decide +kernel
theorem rcZ_feed : rcB (mdOf 194) (wQ (nI 0) (List.replicate 2000 0)) 0 = true := by decide +kernel
theorem le_feed (X : CX) (l : Launch) (x1 x2 x3 x4 x5 : Int32) : LawEq X l 145 194 [.int x1, .int x2, .int x3, .int x4, .int x5] := ⟨20, call_sm zb_F rfl rcS_feed (gC_feed X l x1 x2 x3 x4 x5 (by first | exact List.length_replicate | rfl)), call_sm zb_Q rfl rcZ_feed (gM_feed X l x1 x2 x3 x4 x5 (by first | exact List.length_replicate | rfl))⟩
theorem le_back (X : CX) (l : Launch) (x1 : Int32) : LawEq X l 146 196 [.int x1] := by
  by_cases h : x1.toInt = 0
  · obtain rfl : x1 = 0 := i32_of h rfl
    exact ⟨0, call_id rcC_back (eC_back_0 X l), call_id rcM_back (eM_back_0 X l)⟩
  · exact ⟨-1, call_id rcC_back (gC_back_else X l x1 h), call_id rcM_back (gM_back_else X l x1 h)⟩
theorem le_read (X : CX) (l : Launch) : LawEq X l 147 211 [] := ⟨0, call_id rcC_read (eC_read X l), call_id rcM_read (eM_read X l)⟩
theorem le_place (X : CX) (l : Launch) : LawEq X l 148 212 [] := ⟨(-1), call_id rcC_place (eC_place X l), call_id rcM_place (eM_place X l)⟩
theorem le_now (X : CX) (l : Launch) (x1 : Int32) : LawEq X l 149 248 [.int x1] := by
  by_cases h : x1.toInt < 0 ∨ 6 < x1.toInt
  · exact ⟨(-1), call_id rcC_now (gC_now_else X l x1 h), call_id rcM_now (gM_now_else X l x1 h)⟩
  · rcases (show x1.toInt = 0 ∨ x1.toInt = 1 ∨ x1.toInt = 2 ∨ x1.toInt = 3 ∨ x1.toInt = 4 ∨ x1.toInt = 5 ∨ x1.toInt = 6 by omega) with h | h | h | h | h | h | h
    · obtain rfl : x1 = 0 := i32_of h rfl
      exact ⟨(-2), call_id rcC_now (eC_now_0 X l), call_id rcM_now (eM_now_0 X l)⟩
    · obtain rfl : x1 = 1 := i32_of h rfl
      exact ⟨(-2), call_id rcC_now (eC_now_1 X l), call_id rcM_now (eM_now_1 X l)⟩
    · obtain rfl : x1 = 2 := i32_of h rfl
      exact ⟨0, call_id rcC_now (eC_now_2 X l), call_id rcM_now (eM_now_2 X l)⟩
    · obtain rfl : x1 = 3 := i32_of h rfl
      exact ⟨0, call_id rcC_now (eC_now_3 X l), call_id rcM_now (eM_now_3 X l)⟩
    · obtain rfl : x1 = 4 := i32_of h rfl
      exact ⟨0, call_id rcC_now (eC_now_4 X l), call_id rcM_now (eM_now_4 X l)⟩
    · obtain rfl : x1 = 5 := i32_of h rfl
      exact ⟨0, call_id rcC_now (eC_now_5 X l), call_id rcM_now (eM_now_5 X l)⟩
    · obtain rfl : x1 = 6 := i32_of h rfl
      exact ⟨0, call_id rcC_now (eC_now_6 X l), call_id rcM_now (eM_now_6 X l)⟩
theorem le_sleeper (X : CX) (l : Launch) (x1 x2 : Int32) : LawEq X l 150 249 [.int x1, .int x2] := ⟨(-10000), call_id rcC_sleeper (gC_sleeper X l x1 x2), call_id rcM_sleeper (gM_sleeper X l x1 x2)⟩
theorem le_was (X : CX) (l : Launch) (x1 x2 : Int32) : LawEq X l 151 250 [.int x1, .int x2] := ⟨(-1), call_id rcC_was (gC_was X l x1 x2), call_id rcM_was (gM_was X l x1 x2)⟩
theorem le_hours (X : CX) (l : Launch) (x1 : Int32) : LawEq X l 152 252 [.int x1] := by
  by_cases h : x1.toInt < 0 ∨ 600 < x1.toInt
  · exact ⟨-1, call_id rcC_hours (gC_hours_else X l x1 h), call_id rcM_hours (gM_hours_else X l x1 h)⟩
  · by_cases h0 : x1.toInt = 0
    · obtain rfl : x1 = 0 := i32_of h0 rfl
      exact ⟨0, call_id rcC_hours (eC_hours_0 X l), call_id rcM_hours (eM_hours_0 X l)⟩
    · obtain ⟨N, rfl, h1, h2⟩ := nI_of3 (x := x1) (lo := 1) (n := 600) (by omega) (by omega) (by decide)
      exact ⟨nI N, call_sm zb_H rfl rcS_hours (gC_hours_in X l h1 h2), call_sm zb_R rfl rcZ_hours (gM_hours_in X l (by first | exact List.length_replicate | rfl) (by first | exact List.length_replicate | rfl) (by first | exact List.length_replicate | rfl) h1 h2)⟩
theorem le_nap (X : CX) (l : Launch) (x1 x2 : Int32) : LawEq X l 153 253 [.int x1, .int x2] := ⟨0, call_id rcC_nap (gC_nap X l x1 x2), call_id rcM_nap (gM_nap X l x1 x2)⟩
theorem le_wake (X : CX) (l : Launch) (x1 : Int32) : LawEq X l 154 255 [.int x1] := ⟨0, call_id rcC_wake (gC_wake X l x1), call_id rcM_wake (gM_wake X l x1)⟩
theorem le_bed (X : CX) (l : Launch) (x1 x2 : Int32) : LawEq X l 155 256 [.int x1, .int x2] := ⟨0, call_id rcC_bed (gC_bed X l x1 x2), call_id rcM_bed (gM_bed X l x1 x2)⟩
theorem le_set (X : CX) (l : Launch) (x1 : Int32) : LawEq X l 156 257 [.int x1] := ⟨0, call_id rcC_set (gC_set X l x1), call_id rcM_set (gM_set X l x1)⟩
theorem le_undo (X : CX) (l : Launch) : LawEq X l 157 258 [] := ⟨0, call_id rcC_undo (eC_undo X l), call_id rcM_undo (eM_undo X l)⟩
theorem le_then (X : CX) (l : Launch) (x1 x2 : Int32) : LawEq X l 158 260 [.int x1, .int x2] := by
  by_cases h : x1.toInt < 0 ∨ 600 < x1.toInt
  · exact ⟨-1, call_id rcC_then (gC_then_else X l x1 x2 h), call_id rcM_then (gM_then_else X l x1 x2 h)⟩
  · by_cases h2 : x2.toInt < 0 ∨ 6 < x2.toInt
    · have hm := gM_then_else2 X l x1 x2 ⟨by omega, h2⟩
      obtain ⟨N, rfl, -, hN⟩ := nI_of3 (x := x1) (lo := 0) (n := 600) (by omega) (by omega) (by decide)
      exact ⟨-1, call_id rcC_then (gC_then_elseN X l hN x2 h2), call_id rcM_then (hm)⟩
    · obtain ⟨N, rfl, -, hN⟩ := nI_of3 (x := x1) (lo := 0) (n := 600) (by omega) (by omega) (by decide)
      rcases (show x2.toInt = 0 ∨ x2.toInt = 1 ∨ x2.toInt = 2 ∨ x2.toInt = 3 ∨ x2.toInt = 4 ∨ x2.toInt = 5 ∨ x2.toInt = 6 by omega) with h3 | h3 | h3 | h3 | h3 | h3 | h3
      · obtain rfl : x2 = 0 := i32_of h3 rfl
        exact ⟨-2, call_id rcC_then (gC_then_0 X l hN), call_sm zb_R rfl rcZ_then (gM_then_0 X l _ _ _ hN)⟩
      · obtain rfl : x2 = 1 := i32_of h3 rfl
        exact ⟨-2, call_id rcC_then (gC_then_1 X l hN), call_sm zb_R rfl rcZ_then (gM_then_1 X l _ _ _ hN)⟩
      · obtain rfl : x2 = 2 := i32_of h3 rfl
        exact ⟨nI N - nI N / 24 * 24, call_id rcC_then (gC_then_2 X l hN), call_sm zb_R rfl rcZ_then (gM_then_2 X l _ _ _ hN)⟩
      · obtain rfl : x2 = 3 := i32_of h3 rfl
        exact ⟨nI N / 24, call_id rcC_then (gC_then_3 X l hN), call_sm zb_R rfl rcZ_then (gM_then_3 X l _ _ _ hN)⟩
      · obtain rfl : x2 = 4 := i32_of h3 rfl
        exact ⟨nI N, call_id rcC_then (gC_then_4 X l hN), call_sm zb_R rfl rcZ_then (gM_then_4 X l _ _ _ hN)⟩
      · obtain rfl : x2 = 5 := i32_of h3 rfl
        exact ⟨0, call_id rcC_then (gC_then_5 X l hN), call_sm zb_R rfl rcZ_then (gM_then_5 X l _ _ _ hN)⟩
      · obtain rfl : x2 = 6 := i32_of h3 rfl
        exact ⟨0, call_id rcC_then (gC_then_6 X l hN), call_sm zb_R rfl rcZ_then (gM_then_6 X l _ _ _ hN)⟩
theorem le_ends (X : CX) (l : Launch) : LawEq X l 159 261 [] := ⟨-2, call_id rcC_ends (gC_ends X l), call_sm zb_R rfl rcZ_ends (gM_ends X l _ _ _)⟩
theorem le_gains (X : CX) (l : Launch) (x1 x2 : Int32) : LawEq X l 160 263 [.int x1, .int x2] := ⟨(-10000), call_id rcC_gains (gC_gains X l x1 x2), call_id rcM_gains (gM_gains X l x1 x2)⟩
theorem le_line (X : CX) (l : Launch) (x1 : Int32) : LawEq X l 161 268 [.int x1] := ⟨(-1), call_id rcC_line (gC_line X l x1), call_id rcM_line (gM_line X l x1)⟩
theorem le_lineAt (X : CX) (l : Launch) (x1 x2 : Int32) : LawEq X l 162 269 [.int x1, .int x2] := ⟨(-1), call_id rcC_lineAt (gC_lineAt X l x1 x2), call_id rcM_lineAt (gM_lineAt X l x1 x2)⟩
theorem le_fair (X : CX) (l : Launch) (x1 : Int32) : LawEq X l 163 270 [.int x1] := by
  by_cases h : x1.toInt < 0 ∨ 1 < x1.toInt
  · exact ⟨-10000, call_id rcC_fair (gC_fair X l x1), call_id rcM_fair (gM_fair_else X l x1 h)⟩
  · exact ⟨-10000, call_id rcC_fair (gC_fair X l x1), call_id rcM_fair (gM_fair_in X l x1 (by omega))⟩
theorem le_rests (X : CX) (l : Launch) (x1 x2 : Int32) : LawEq X l 164 273 [.int x1, .int x2] := by
  by_cases h : x1.toInt < 1 ∨ 240 < x1.toInt
  · exact ⟨-1, call_id rcC_rests (gC_rests_else X l x1 x2 (by omega)), call_id rcM_rests (gM_rests_else X l x1 x2 h)⟩
  · by_cases h2 : x2.toInt < -1
    · exact ⟨-1, call_id rcC_rests (gC_rests_else X l x1 x2 (by omega)), call_id rcM_rests (gM_rests_else2 X l x1 x2 ⟨by omega, h2⟩)⟩
    · obtain ⟨N, rfl, h3, h4⟩ := nI_of3 (x := x1) (lo := 1) (n := 240) (by omega) (by omega) (by decide)
      exact ⟨sp_rests x2, call_id rcC_rests (gC_rests_in X l h3 h4 x2 (by omega)), call_sm zb_R rfl rcZ_rests (gM_rests_in X l _ _ _ h3 h4 x2 (by omega))⟩
theorem le_round (X : CX) (l : Launch) (x1 : Int32) : LawEq X l 165 277 [.int x1] := by
  by_cases h : x1.toInt < 0 ∨ 1 < x1.toInt
  · exact ⟨(-1), call_id rcC_round (gC_round_else X l x1 h), call_id rcM_round (gM_round_else X l x1 h)⟩
  · rcases (show x1.toInt = 0 ∨ x1.toInt = 1 by omega) with h | h
    · obtain rfl : x1 = 0 := i32_of h rfl
      exact ⟨24, call_id rcC_round (eC_round_0 X l), call_id rcM_round (eM_round_0 X l)⟩
    · obtain rfl : x1 = 1 := i32_of h rfl
      exact ⟨0, call_id rcC_round (eC_round_1 X l), call_id rcM_round (eM_round_1 X l)⟩
theorem le_reach (X : CX) (l : Launch) : LawEq X l 166 284 [] := ⟨0, call_id rcC_reach (eC_reach X l), call_id rcM_reach (eM_reach X l)⟩
theorem le_far (X : CX) (l : Launch) (x1 : Int32) : LawEq X l 167 285 [.int x1] := ⟨(-1), call_id rcC_far (gC_far X l x1), call_id rcM_far (gM_far X l x1)⟩
theorem le_farAt (X : CX) (l : Launch) (x1 x2 : Int32) : LawEq X l 168 287 [.int x1, .int x2] := ⟨(-1), call_id rcC_farAt (gC_farAt X l x1 x2), call_id rcM_farAt (gM_farAt X l x1 x2)⟩
theorem le_trapped (X : CX) (l : Launch) : LawEq X l 169 288 [] := ⟨0, call_id rcC_trapped (eC_trapped X l), call_id rcM_trapped (eM_trapped X l)⟩
theorem le_bestBed (X : CX) (l : Launch) (x1 x2 x3 : Int32) : LawEq X l 170 274 [.int x1, .int x2, .int x3] := ⟨(-10000), call_id rcC_bestBed (gC_bestBed X l x1 x2 x3), call_id rcM_bestBed (gM_bestBed X l x1 x2 x3)⟩
theorem le_bestStart (X : CX) (l : Launch) (x1 x2 : Int32) : LawEq X l 171 275 [.int x1, .int x2] := ⟨(-10000), call_id rcC_bestStart (gC_bestStart X l x1 x2), call_id rcM_bestStart (gM_bestStart X l x1 x2)⟩
theorem le_free (X : CX) (l : Launch) (x1 : Int32) : LawEq X l 172 278 [.int x1] := by
  by_cases h : x1.toInt < 0 ∨ 1 < x1.toInt
  · exact ⟨(-1), call_id rcC_free (gC_free_else X l x1 h), call_id rcM_free (gM_free_else X l x1 h)⟩
  · rcases (show x1.toInt = 0 ∨ x1.toInt = 1 by omega) with h | h
    · obtain rfl : x1 = 0 := i32_of h rfl
      exact ⟨24, call_id rcC_free (eC_free_0 X l), call_id rcM_free (eM_free_0 X l)⟩
    · obtain rfl : x1 = 1 := i32_of h rfl
      exact ⟨0, call_id rcC_free (eC_free_1 X l), call_id rcM_free (eM_free_1 X l)⟩
theorem le_handed (X : CX) (l : Launch) (x1 x2 : Int32) : LawEq X l 173 293 [.int x1, .int x2] := ⟨(-1), call_id rcC_handed (gC_handed X l x1 x2), call_id rcM_handed (gM_handed X l x1 x2)⟩
theorem le_luckiest (X : CX) (l : Launch) (x1 : Int32) : LawEq X l 174 297 [.int x1] := by
  by_cases h : x1.toInt < 0 ∨ 1 < x1.toInt
  · exact ⟨-1, call_id rcC_luckiest (gC_luckiest_else X l x1 h), call_id rcM_luckiest (gM_luckiest_else X l x1 h)⟩
  · exact ⟨-2, call_id rcC_luckiest (gC_luckiest_in X l x1 (by omega)), call_id rcM_luckiest (gM_luckiest_in X l x1 (by omega))⟩
theorem le_best (X : CX) (l : Launch) (x1 x2 : Int32) : LawEq X l 175 292 [.int x1, .int x2] := ⟨(-10000), call_id rcC_best (gC_best X l x1 x2), call_id rcM_best (gM_best X l x1 x2)⟩
theorem le_needed (X : CX) (l : Launch) (x1 : Int32) : LawEq X l 176 279 [.int x1] := ⟨(-1), call_id rcC_needed (gC_needed X l x1), call_id rcM_needed (gM_needed X l x1)⟩
theorem le_mean (X : CX) (l : Launch) (x1 x2 : Int32) : LawEq X l 177 281 [.int x1, .int x2] := by
  by_cases h : x1.toInt < 1 ∨ 10 < x1.toInt
  · exact ⟨-1, call_id rcC_mean (gC_mean_else X l x1 x2 (by omega)), call_id rcM_mean (gM_mean_else X l x1 x2 h)⟩
  · by_cases h2 : x2.toInt < 0 ∨ 300 < x2.toInt
    · exact ⟨-1, call_id rcC_mean (gC_mean_else X l x1 x2 (by omega)), call_id rcM_mean (gM_mean_else2 X l x1 x2 ⟨by omega, h2⟩)⟩
    · obtain ⟨S, rfl, h3, h4⟩ := nI_of3 (x := x1) (lo := 1) (n := 10) (by omega) (by omega) (by decide)
      obtain ⟨N, rfl, -, h5⟩ := nI_of3 (x := x2) (lo := 0) (n := 300) (by omega) (by omega) (by decide)
      exact ⟨0, call_id rcC_mean (gC_mean_in X l h3 h4 h5), call_sm zb_R rfl rcZ_mean (gM_mean_in X l _ _ _ h3 h4 h5)⟩
theorem le_knows (X : CX) (l : Launch) (x1 : Int32) : LawEq X l 178 298 [.int x1] := ⟨(-1), call_id rcC_knows (gC_knows X l x1), call_id rcM_knows (gM_knows X l x1)⟩
theorem le_when (X : CX) (l : Launch) (x1 : Int32) : ∃ v, (∀ y, CallR X l wC 179 [.int x1, .int y] v) ∧ (∀ y, CallR X l wM 299 [.int x1, .int y] v) := ⟨-1, fun y => call_id rcC_when (gC_when X l x1 y), fun y => call_id rcM_when (gM_when X l x1 y)⟩
theorem le_behind (X : CX) (l : Launch) (x1 x2 : Int32) : LawEq X l 180 294 [.int x1, .int x2] := ⟨(-1), call_id rcC_behind (gC_behind X l x1 x2), call_id rcM_behind (gM_behind X l x1 x2)⟩
theorem le_longest (X : CX) (l : Launch) (x1 : Int32) : LawEq X l 181 296 [.int x1] := by
  by_cases h : x1 = -1
  · subst h
    exact ⟨0, call_id rcC_longest (eC_longest_m1 X l), call_id rcM_longest (eM_longest_m1 X l)⟩
  · exact ⟨-1, call_id rcC_longest (gC_longest_else X l x1 h), call_id rcM_longest (gM_longest_else X l x1 h)⟩
theorem le_tell (X : CX) (l : Launch) (x1 x2 x3 : Int32) : LawEq X l 182 300 [.int x1, .int x2, .int x3] := ⟨(-1), call_id rcC_tell (gC_tell X l x1 x2 x3), call_id rcM_tell (gM_tell X l x1 x2 x3)⟩
theorem le_forget (X : CX) (l : Launch) : LawEq X l 183 301 [] := ⟨0, call_id rcC_forget (eC_forget X l), call_id rcM_forget (eM_forget X l)⟩
theorem le_fits (X : CX) (l : Launch) (x1 x2 x3 : Int32) : LawEq X l 184 304 [.int x1, .int x2, .int x3] := ⟨(-1), call_id rcC_fits (gC_fits X l x1 x2 x3), call_id rcM_fits (gM_fits X l x1 x2 x3)⟩
theorem le_doubt (X : CX) (l : Launch) (x1 x2 : Int32) : LawEq X l 185 305 [.int x1, .int x2] := ⟨(-1), call_id rcC_doubt (gC_doubt X l x1 x2), call_id rcM_doubt (gM_doubt X l x1 x2)⟩
theorem le_hold (X : CX) (l : Launch) (x1 : Int32) : LawEq X l 186 306 [.int x1] := by
  by_cases h : x1.toInt < 0 ∨ 2 < x1.toInt
  · exact ⟨0, call_id rcC_hold (gC_hold_else X l x1 h), call_id rcM_hold (gM_hold_else X l x1 h)⟩
  · rcases (show x1.toInt = 0 ∨ x1.toInt = 1 ∨ x1.toInt = 2 by omega) with h | h | h
    · obtain rfl : x1 = 0 := i32_of h rfl
      exact ⟨1, call_id rcC_hold (eC_hold_0 X l), call_sm zb_O rfl rcZ_hold (gM_hold_0 X l (by first | exact List.length_replicate | rfl) (by first | exact List.length_replicate | rfl) (by first | exact List.length_replicate | rfl) (by first | exact List.length_replicate | rfl))⟩
    · obtain rfl : x1 = 1 := i32_of h rfl
      exact ⟨1, call_id rcC_hold (eC_hold_1 X l), call_sm zb_O rfl rcZ_hold (gM_hold_1 X l (by first | exact List.length_replicate | rfl) (by first | exact List.length_replicate | rfl) (by first | exact List.length_replicate | rfl) (by first | exact List.length_replicate | rfl))⟩
    · obtain rfl : x1 = 2 := i32_of h rfl
      exact ⟨1, call_id rcC_hold (eC_hold_2 X l), call_sm zb_O rfl rcZ_hold (gM_hold_2 X l (by first | exact List.length_replicate | rfl) (by first | exact List.length_replicate | rfl) (by first | exact List.length_replicate | rfl) (by first | exact List.length_replicate | rfl))⟩
theorem le_restore (X : CX) (l : Launch) (x1 : Int32) : LawEq X l 187 307 [.int x1] := by
  by_cases h : x1.toInt < 0 ∨ 2 < x1.toInt
  · exact ⟨0, call_id rcC_restore (gC_restore_else X l x1 h), call_id rcM_restore (gM_restore_else X l x1 h)⟩
  · rcases (show x1.toInt = 0 ∨ x1.toInt = 1 ∨ x1.toInt = 2 by omega) with h | h | h
    · obtain rfl : x1 = 0 := i32_of h rfl
      exact ⟨0, call_id rcC_restore (eC_restore_0 X l), call_id rcM_restore (eM_restore_0 X l)⟩
    · obtain rfl : x1 = 1 := i32_of h rfl
      exact ⟨0, call_id rcC_restore (eC_restore_1 X l), call_id rcM_restore (eM_restore_1 X l)⟩
    · obtain rfl : x1 = 2 := i32_of h rfl
      exact ⟨0, call_id rcC_restore (eC_restore_2 X l), call_id rcM_restore (eM_restore_2 X l)⟩
theorem le_count (X : CX) (l : Launch) (x1 : Int32) : LawEq X l 188 308 [.int x1] := by
  by_cases h : x1.toInt < 0 ∨ 9 < x1.toInt
  · exact ⟨(-1), call_id rcC_count (gC_count_else X l x1 h), call_id rcM_count (gM_count_else X l x1 h)⟩
  · rcases (show x1.toInt = 0 ∨ x1.toInt = 1 ∨ x1.toInt = 2 ∨ x1.toInt = 3 ∨ x1.toInt = 4 ∨ x1.toInt = 5 ∨ x1.toInt = 6 ∨ x1.toInt = 7 ∨ x1.toInt = 8 ∨ x1.toInt = 9 by omega) with h | h | h | h | h | h | h | h | h | h
    · obtain rfl : x1 = 0 := i32_of h rfl
      exact ⟨0, call_id rcC_count (eC_count_0 X l), call_id rcM_count (eM_count_0 X l)⟩
    · obtain rfl : x1 = 1 := i32_of h rfl
      exact ⟨0, call_id rcC_count (eC_count_1 X l), call_id rcM_count (eM_count_1 X l)⟩
    · obtain rfl : x1 = 2 := i32_of h rfl
      exact ⟨0, call_id rcC_count (eC_count_2 X l), call_id rcM_count (eM_count_2 X l)⟩
    · obtain rfl : x1 = 3 := i32_of h rfl
      exact ⟨(-2), call_id rcC_count (eC_count_3 X l), call_id rcM_count (eM_count_3 X l)⟩
    · obtain rfl : x1 = 4 := i32_of h rfl
      exact ⟨0, call_id rcC_count (eC_count_4 X l), call_id rcM_count (eM_count_4 X l)⟩
    · obtain rfl : x1 = 5 := i32_of h rfl
      exact ⟨0, call_id rcC_count (eC_count_5 X l), call_id rcM_count (eM_count_5 X l)⟩
    · obtain rfl : x1 = 6 := i32_of h rfl
      exact ⟨0, call_id rcC_count (eC_count_6 X l), call_id rcM_count (eM_count_6 X l)⟩
    · obtain rfl : x1 = 7 := i32_of h rfl
      exact ⟨0, call_id rcC_count (eC_count_7 X l), call_id rcM_count (eM_count_7 X l)⟩
    · obtain rfl : x1 = 8 := i32_of h rfl
      exact ⟨0, call_id rcC_count (eC_count_8 X l), call_id rcM_count (eM_count_8 X l)⟩
    · obtain rfl : x1 = 9 := i32_of h rfl
      exact ⟨0, call_id rcC_count (eC_count_9 X l), call_id rcM_count (eM_count_9 X l)⟩
