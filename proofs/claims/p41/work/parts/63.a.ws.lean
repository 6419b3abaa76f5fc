/-! the world as numbers: ints, longs and references, by cell and place -/
abbrev WS : Type := (Nat → Nat → Int32) × (Nat → Nat → Int64) × (Nat → Nat → Nat)
/-- fields of a class: 0 an int, 1 a long, 2 an object, 3 a row -/
def flK : Nat → List Nat := fun c => (cond (Nat.blt c 6) (cond (Nat.blt c 3) (cond (Nat.blt c 1) (cond (Nat.beq c 0) [0, 0, 0, 0, 0, 0, 3, 3, 3, 3, 3, 3, 3, 3, 2] []) (cond (Nat.blt c 2) (cond (Nat.beq c 1) [3, 0, 3, 3] []) (cond (Nat.beq c 2) [3, 3, 3, 0, 0, 0] []))) (cond (Nat.blt c 4) (cond (Nat.beq c 3) [3] []) (cond (Nat.blt c 5) (cond (Nat.beq c 4) [3, 0, 0, 3, 3, 3] []) (cond (Nat.beq c 5) [2, 3, 3, 0, 2, 0, 0, 0, 0, 0, 1, 0] [])))) (cond (Nat.blt c 9) (cond (Nat.blt c 7) (cond (Nat.beq c 6) [0, 0, 0, 0, 0, 0, 0, 0, 0, 3] []) (cond (Nat.blt c 8) (cond (Nat.beq c 7) [3, 0, 3, 3, 3, 3, 0, 0, 1] []) (cond (Nat.beq c 8) [3, 3, 3, 0] []))) (cond (Nat.blt c 11) (cond (Nat.blt c 10) (cond (Nat.beq c 9) [2, 3, 3] []) (cond (Nat.beq c 10) [3, 3, 3] [])) (cond (Nat.blt c 12) (cond (Nat.beq c 11) [2, 2, 2, 2, 2, 2, 2, 2, 2] []) (cond (Nat.beq c 12) [0, 3, 0, 3, 0, 3, 3, 3, 3, 3, 0, 0, 0, 0, 0, 0, 0, 0, 0, 0, 0, 3, 3, 3, 3, 3, 3, 3, 3, 3, 3, 3, 3, 3, 3, 3, 3, 3, 0, 3, 3, 3, 3, 3, 0, 3, 3, 3, 0, 3, 3, 0, 3, 3, 3, 3, 0, 0, 0, 0, 0, 3, 3, 0, 3, 3, 3, 3, 3, 3, 0, 3, 3, 3, 3, 3] [])))))
/-- a cell: 0 an object of a class; 1 ints: type, length; 2 longs; 3 references -/
def shC : Nat → Nat × Nat × Nat := fun c => (cond (Nat.blt c 100) (cond (Nat.blt c 50) (cond (Nat.blt c 25) (cond (Nat.blt c 12) (cond (Nat.blt c 6) (cond (Nat.blt c 3) (cond (Nat.blt c 1) (cond (Nat.beq c 0) (0, 11, 0) (3, 9, 0)) (cond (Nat.blt c 2) (cond (Nat.beq c 1) (0, 5, 0) (3, 9, 0)) (cond (Nat.beq c 2) (0, 7, 0) (3, 9, 0)))) (cond (Nat.blt c 4) (cond (Nat.beq c 3) (1, 1, 2000) (3, 9, 0)) (cond (Nat.blt c 5) (cond (Nat.beq c 4) (2, 0, 18) (3, 9, 0)) (cond (Nat.beq c 5) (1, 0, 401) (3, 9, 0))))) (cond (Nat.blt c 9) (cond (Nat.blt c 7) (cond (Nat.beq c 6) (1, 0, 401) (3, 9, 0)) (cond (Nat.blt c 8) (cond (Nat.beq c 7) (2, 0, 401) (3, 9, 0)) (cond (Nat.beq c 8) (2, 0, 16) (3, 9, 0)))) (cond (Nat.blt c 10) (cond (Nat.beq c 9) (1, 0, 16) (3, 9, 0)) (cond (Nat.blt c 11) (cond (Nat.beq c 10) (0, 0, 0) (3, 9, 0)) (cond (Nat.beq c 11) (1, 0, 10) (3, 9, 0)))))) (cond (Nat.blt c 18) (cond (Nat.blt c 15) (cond (Nat.blt c 13) (cond (Nat.beq c 12) (1, 2, 10) (3, 9, 0)) (cond (Nat.blt c 14) (cond (Nat.beq c 13) (1, 0, 10) (3, 9, 0)) (cond (Nat.beq c 14) (1, 0, 40) (3, 9, 0)))) (cond (Nat.blt c 16) (cond (Nat.beq c 15) (1, 0, 6) (3, 9, 0)) (cond (Nat.blt c 17) (cond (Nat.beq c 16) (1, 0, 6) (3, 9, 0)) (cond (Nat.beq c 17) (1, 0, 6) (3, 9, 0))))) (cond (Nat.blt c 21) (cond (Nat.blt c 19) (cond (Nat.beq c 18) (1, 0, 6) (3, 9, 0)) (cond (Nat.blt c 20) (cond (Nat.beq c 19) (0, 1, 0) (3, 9, 0)) (cond (Nat.beq c 20) (1, 0, 400) (3, 9, 0)))) (cond (Nat.blt c 23) (cond (Nat.blt c 22) (cond (Nat.beq c 21) (1, 0, 18) (3, 9, 0)) (cond (Nat.beq c 22) (1, 0, 7) (3, 9, 0))) (cond (Nat.blt c 24) (cond (Nat.beq c 23) (0, 0, 0) (3, 9, 0)) (cond (Nat.beq c 24) (1, 0, 10) (3, 9, 0))))))) (cond (Nat.blt c 37) (cond (Nat.blt c 31) (cond (Nat.blt c 28) (cond (Nat.blt c 26) (cond (Nat.beq c 25) (1, 2, 10) (3, 9, 0)) (cond (Nat.blt c 27) (cond (Nat.beq c 26) (1, 0, 10) (3, 9, 0)) (cond (Nat.beq c 27) (1, 0, 40) (3, 9, 0)))) (cond (Nat.blt c 29) (cond (Nat.beq c 28) (1, 0, 6) (3, 9, 0)) (cond (Nat.blt c 30) (cond (Nat.beq c 29) (1, 0, 6) (3, 9, 0)) (cond (Nat.beq c 30) (1, 0, 6) (3, 9, 0))))) (cond (Nat.blt c 34) (cond (Nat.blt c 32) (cond (Nat.beq c 31) (1, 0, 6) (3, 9, 0)) (cond (Nat.blt c 33) (cond (Nat.beq c 32) (0, 1, 0) (3, 9, 0)) (cond (Nat.beq c 33) (1, 0, 400) (3, 9, 0)))) (cond (Nat.blt c 35) (cond (Nat.beq c 34) (1, 0, 18) (3, 9, 0)) (cond (Nat.blt c 36) (cond (Nat.beq c 35) (1, 0, 7) (3, 9, 0)) (cond (Nat.beq c 36) (0, 6, 0) (3, 9, 0)))))) (cond (Nat.blt c 43) (cond (Nat.blt c 40) (cond (Nat.blt c 38) (cond (Nat.beq c 37) (1, 0, 102) (3, 9, 0)) (cond (Nat.blt c 39) (cond (Nat.beq c 38) (0, 3, 0) (3, 9, 0)) (cond (Nat.beq c 39) (1, 1, 600) (3, 9, 0)))) (cond (Nat.blt c 41) (cond (Nat.beq c 40) (0, 4, 0) (3, 9, 0)) (cond (Nat.blt c 42) (cond (Nat.beq c 41) (3, 0, 30) (3, 9, 0)) (cond (Nat.beq c 42) (3, 0, 3) (3, 9, 0))))) (cond (Nat.blt c 46) (cond (Nat.blt c 44) (cond (Nat.beq c 43) (3, 1, 3) (3, 9, 0)) (cond (Nat.blt c 45) (cond (Nat.beq c 44) (1, 2, 3) (3, 9, 0)) (cond (Nat.beq c 45) (0, 6, 0) (3, 9, 0)))) (cond (Nat.blt c 48) (cond (Nat.blt c 47) (cond (Nat.beq c 46) (1, 0, 102) (3, 9, 0)) (cond (Nat.beq c 47) (0, 6, 0) (3, 9, 0))) (cond (Nat.blt c 49) (cond (Nat.beq c 48) (1, 0, 102) (3, 9, 0)) (cond (Nat.beq c 49) (0, 6, 0) (3, 9, 0)))))))) (cond (Nat.blt c 75) (cond (Nat.blt c 62) (cond (Nat.blt c 56) (cond (Nat.blt c 53) (cond (Nat.blt c 51) (cond (Nat.beq c 50) (1, 0, 102) (3, 9, 0)) (cond (Nat.blt c 52) (cond (Nat.beq c 51) (0, 6, 0) (3, 9, 0)) (cond (Nat.beq c 52) (1, 0, 102) (3, 9, 0)))) (cond (Nat.blt c 54) (cond (Nat.beq c 53) (0, 6, 0) (3, 9, 0)) (cond (Nat.blt c 55) (cond (Nat.beq c 54) (1, 0, 102) (3, 9, 0)) (cond (Nat.beq c 55) (0, 6, 0) (3, 9, 0))))) (cond (Nat.blt c 59) (cond (Nat.blt c 57) (cond (Nat.beq c 56) (1, 0, 102) (3, 9, 0)) (cond (Nat.blt c 58) (cond (Nat.beq c 57) (0, 6, 0) (3, 9, 0)) (cond (Nat.beq c 58) (1, 0, 102) (3, 9, 0)))) (cond (Nat.blt c 60) (cond (Nat.beq c 59) (0, 6, 0) (3, 9, 0)) (cond (Nat.blt c 61) (cond (Nat.beq c 60) (1, 0, 102) (3, 9, 0)) (cond (Nat.beq c 61) (0, 6, 0) (3, 9, 0)))))) (cond (Nat.blt c 68) (cond (Nat.blt c 65) (cond (Nat.blt c 63) (cond (Nat.beq c 62) (1, 0, 102) (3, 9, 0)) (cond (Nat.blt c 64) (cond (Nat.beq c 63) (0, 6, 0) (3, 9, 0)) (cond (Nat.beq c 64) (1, 0, 102) (3, 9, 0)))) (cond (Nat.blt c 66) (cond (Nat.beq c 65) (0, 6, 0) (3, 9, 0)) (cond (Nat.blt c 67) (cond (Nat.beq c 66) (1, 0, 102) (3, 9, 0)) (cond (Nat.beq c 67) (0, 6, 0) (3, 9, 0))))) (cond (Nat.blt c 71) (cond (Nat.blt c 69) (cond (Nat.beq c 68) (1, 0, 102) (3, 9, 0)) (cond (Nat.blt c 70) (cond (Nat.beq c 69) (0, 6, 0) (3, 9, 0)) (cond (Nat.beq c 70) (1, 0, 102) (3, 9, 0)))) (cond (Nat.blt c 73) (cond (Nat.blt c 72) (cond (Nat.beq c 71) (0, 6, 0) (3, 9, 0)) (cond (Nat.beq c 72) (1, 0, 102) (3, 9, 0))) (cond (Nat.blt c 74) (cond (Nat.beq c 73) (0, 6, 0) (3, 9, 0)) (cond (Nat.beq c 74) (1, 0, 102) (3, 9, 0))))))) (cond (Nat.blt c 87) (cond (Nat.blt c 81) (cond (Nat.blt c 78) (cond (Nat.blt c 76) (cond (Nat.beq c 75) (0, 6, 0) (3, 9, 0)) (cond (Nat.blt c 77) (cond (Nat.beq c 76) (1, 0, 102) (3, 9, 0)) (cond (Nat.beq c 77) (0, 6, 0) (3, 9, 0)))) (cond (Nat.blt c 79) (cond (Nat.beq c 78) (1, 0, 102) (3, 9, 0)) (cond (Nat.blt c 80) (cond (Nat.beq c 79) (0, 6, 0) (3, 9, 0)) (cond (Nat.beq c 80) (1, 0, 102) (3, 9, 0))))) (cond (Nat.blt c 84) (cond (Nat.blt c 82) (cond (Nat.beq c 81) (0, 6, 0) (3, 9, 0)) (cond (Nat.blt c 83) (cond (Nat.beq c 82) (1, 0, 102) (3, 9, 0)) (cond (Nat.beq c 83) (0, 6, 0) (3, 9, 0)))) (cond (Nat.blt c 85) (cond (Nat.beq c 84) (1, 0, 102) (3, 9, 0)) (cond (Nat.blt c 86) (cond (Nat.beq c 85) (0, 6, 0) (3, 9, 0)) (cond (Nat.beq c 86) (1, 0, 102) (3, 9, 0)))))) (cond (Nat.blt c 93) (cond (Nat.blt c 90) (cond (Nat.blt c 88) (cond (Nat.beq c 87) (0, 6, 0) (3, 9, 0)) (cond (Nat.blt c 89) (cond (Nat.beq c 88) (1, 0, 102) (3, 9, 0)) (cond (Nat.beq c 89) (0, 6, 0) (3, 9, 0)))) (cond (Nat.blt c 91) (cond (Nat.beq c 90) (1, 0, 102) (3, 9, 0)) (cond (Nat.blt c 92) (cond (Nat.beq c 91) (0, 6, 0) (3, 9, 0)) (cond (Nat.beq c 92) (1, 0, 102) (3, 9, 0))))) (cond (Nat.blt c 96) (cond (Nat.blt c 94) (cond (Nat.beq c 93) (0, 6, 0) (3, 9, 0)) (cond (Nat.blt c 95) (cond (Nat.beq c 94) (1, 0, 102) (3, 9, 0)) (cond (Nat.beq c 95) (0, 6, 0) (3, 9, 0)))) (cond (Nat.blt c 98) (cond (Nat.blt c 97) (cond (Nat.beq c 96) (1, 0, 102) (3, 9, 0)) (cond (Nat.beq c 97) (0, 6, 0) (3, 9, 0))) (cond (Nat.blt c 99) (cond (Nat.beq c 98) (1, 0, 102) (3, 9, 0)) (cond (Nat.beq c 99) (0, 6, 0) (3, 9, 0))))))))) (cond (Nat.blt c 150) (cond (Nat.blt c 125) (cond (Nat.blt c 112) (cond (Nat.blt c 106) (cond (Nat.blt c 103) (cond (Nat.blt c 101) (cond (Nat.beq c 100) (1, 0, 102) (3, 9, 0)) (cond (Nat.blt c 102) (cond (Nat.beq c 101) (0, 6, 0) (3, 9, 0)) (cond (Nat.beq c 102) (1, 0, 102) (3, 9, 0)))) (cond (Nat.blt c 104) (cond (Nat.beq c 103) (0, 6, 0) (3, 9, 0)) (cond (Nat.blt c 105) (cond (Nat.beq c 104) (1, 0, 102) (3, 9, 0)) (cond (Nat.beq c 105) (0, 6, 0) (3, 9, 0))))) (cond (Nat.blt c 109) (cond (Nat.blt c 107) (cond (Nat.beq c 106) (1, 0, 102) (3, 9, 0)) (cond (Nat.blt c 108) (cond (Nat.beq c 107) (0, 3, 0) (3, 9, 0)) (cond (Nat.beq c 108) (1, 1, 600) (3, 9, 0)))) (cond (Nat.blt c 110) (cond (Nat.beq c 109) (0, 6, 0) (3, 9, 0)) (cond (Nat.blt c 111) (cond (Nat.beq c 110) (1, 0, 102) (3, 9, 0)) (cond (Nat.beq c 111) (0, 3, 0) (3, 9, 0)))))) (cond (Nat.blt c 118) (cond (Nat.blt c 115) (cond (Nat.blt c 113) (cond (Nat.beq c 112) (1, 1, 600) (3, 9, 0)) (cond (Nat.blt c 114) (cond (Nat.beq c 113) (0, 6, 0) (3, 9, 0)) (cond (Nat.beq c 114) (1, 0, 102) (3, 9, 0)))) (cond (Nat.blt c 116) (cond (Nat.beq c 115) (0, 3, 0) (3, 9, 0)) (cond (Nat.blt c 117) (cond (Nat.beq c 116) (1, 1, 600) (3, 9, 0)) (cond (Nat.beq c 117) (0, 8, 0) (3, 9, 0))))) (cond (Nat.blt c 121) (cond (Nat.blt c 119) (cond (Nat.beq c 118) (1, 0, 20) (3, 9, 0)) (cond (Nat.blt c 120) (cond (Nat.beq c 119) (1, 0, 20) (3, 9, 0)) (cond (Nat.beq c 120) (1, 0, 20) (3, 9, 0)))) (cond (Nat.blt c 123) (cond (Nat.blt c 122) (cond (Nat.beq c 121) (0, 9, 0) (3, 9, 0)) (cond (Nat.beq c 122) (0, 6, 0) (3, 9, 0))) (cond (Nat.blt c 124) (cond (Nat.beq c 123) (1, 0, 102) (3, 9, 0)) (cond (Nat.beq c 124) (1, 0, 384) (3, 9, 0))))))) (cond (Nat.blt c 137) (cond (Nat.blt c 131) (cond (Nat.blt c 128) (cond (Nat.blt c 126) (cond (Nat.beq c 125) (2, 0, 301) (3, 9, 0)) (cond (Nat.blt c 127) (cond (Nat.beq c 126) (0, 2, 0) (3, 9, 0)) (cond (Nat.beq c 127) (3, 0, 7) (3, 9, 0)))) (cond (Nat.blt c 129) (cond (Nat.beq c 128) (1, 0, 6) (3, 9, 0)) (cond (Nat.blt c 130) (cond (Nat.beq c 129) (1, 0, 6) (3, 9, 0)) (cond (Nat.beq c 130) (0, 6, 0) (3, 9, 0))))) (cond (Nat.blt c 134) (cond (Nat.blt c 132) (cond (Nat.beq c 131) (1, 0, 102) (3, 9, 0)) (cond (Nat.blt c 133) (cond (Nat.beq c 132) (0, 6, 0) (3, 9, 0)) (cond (Nat.beq c 133) (1, 0, 102) (3, 9, 0)))) (cond (Nat.blt c 135) (cond (Nat.beq c 134) (0, 6, 0) (3, 9, 0)) (cond (Nat.blt c 136) (cond (Nat.beq c 135) (1, 0, 102) (3, 9, 0)) (cond (Nat.beq c 136) (0, 6, 0) (3, 9, 0)))))) (cond (Nat.blt c 143) (cond (Nat.blt c 140) (cond (Nat.blt c 138) (cond (Nat.beq c 137) (1, 0, 102) (3, 9, 0)) (cond (Nat.blt c 139) (cond (Nat.beq c 138) (0, 6, 0) (3, 9, 0)) (cond (Nat.beq c 139) (1, 0, 102) (3, 9, 0)))) (cond (Nat.blt c 141) (cond (Nat.beq c 140) (0, 6, 0) (3, 9, 0)) (cond (Nat.blt c 142) (cond (Nat.beq c 141) (1, 0, 102) (3, 9, 0)) (cond (Nat.beq c 142) (0, 6, 0) (3, 9, 0))))) (cond (Nat.blt c 146) (cond (Nat.blt c 144) (cond (Nat.beq c 143) (1, 0, 102) (3, 9, 0)) (cond (Nat.blt c 145) (cond (Nat.beq c 144) (0, 10, 0) (3, 9, 0)) (cond (Nat.beq c 145) (1, 0, 10) (3, 9, 0)))) (cond (Nat.blt c 148) (cond (Nat.blt c 147) (cond (Nat.beq c 146) (1, 0, 10) (3, 9, 0)) (cond (Nat.beq c 147) (1, 0, 10) (3, 9, 0))) (cond (Nat.blt c 149) (cond (Nat.beq c 148) (0, 12, 0) (3, 9, 0)) (cond (Nat.beq c 149) (1, 1, 2000) (3, 9, 0)))))))) (cond (Nat.blt c 175) (cond (Nat.blt c 162) (cond (Nat.blt c 156) (cond (Nat.blt c 153) (cond (Nat.blt c 151) (cond (Nat.beq c 150) (1, 1, 2000) (3, 9, 0)) (cond (Nat.blt c 152) (cond (Nat.beq c 151) (1, 0, 403) (3, 9, 0)) (cond (Nat.beq c 152) (1, 0, 403) (3, 9, 0)))) (cond (Nat.blt c 154) (cond (Nat.beq c 153) (1, 0, 403) (3, 9, 0)) (cond (Nat.blt c 155) (cond (Nat.beq c 154) (2, 0, 403) (3, 9, 0)) (cond (Nat.beq c 155) (2, 0, 18) (3, 9, 0))))) (cond (Nat.blt c 159) (cond (Nat.blt c 157) (cond (Nat.beq c 156) (2, 0, 16) (3, 9, 0)) (cond (Nat.blt c 158) (cond (Nat.beq c 157) (1, 0, 16) (3, 9, 0)) (cond (Nat.beq c 158) (1, 0, 2) (3, 9, 0)))) (cond (Nat.blt c 160) (cond (Nat.beq c 159) (1, 0, 20) (3, 9, 0)) (cond (Nat.blt c 161) (cond (Nat.beq c 160) (1, 2, 20) (3, 9, 0)) (cond (Nat.beq c 161) (1, 0, 20) (3, 9, 0)))))) (cond (Nat.blt c 168) (cond (Nat.blt c 165) (cond (Nat.blt c 163) (cond (Nat.beq c 162) (1, 0, 80) (3, 9, 0)) (cond (Nat.blt c 164) (cond (Nat.beq c 163) (1, 0, 2) (3, 9, 0)) (cond (Nat.beq c 164) (1, 0, 2) (3, 9, 0)))) (cond (Nat.blt c 166) (cond (Nat.beq c 165) (1, 0, 12) (3, 9, 0)) (cond (Nat.blt c 167) (cond (Nat.beq c 166) (1, 0, 12) (3, 9, 0)) (cond (Nat.beq c 167) (1, 0, 12) (3, 9, 0))))) (cond (Nat.blt c 171) (cond (Nat.blt c 169) (cond (Nat.beq c 168) (1, 0, 2) (3, 9, 0)) (cond (Nat.blt c 170) (cond (Nat.beq c 169) (1, 0, 2) (3, 9, 0)) (cond (Nat.beq c 170) (1, 0, 2) (3, 9, 0)))) (cond (Nat.blt c 173) (cond (Nat.blt c 172) (cond (Nat.beq c 171) (1, 0, 12) (3, 9, 0)) (cond (Nat.beq c 172) (1, 0, 12) (3, 9, 0))) (cond (Nat.blt c 174) (cond (Nat.beq c 173) (1, 2, 260) (3, 9, 0)) (cond (Nat.beq c 174) (1, 0, 260) (3, 9, 0))))))) (cond (Nat.blt c 187) (cond (Nat.blt c 181) (cond (Nat.blt c 178) (cond (Nat.blt c 176) (cond (Nat.beq c 175) (1, 0, 260) (3, 9, 0)) (cond (Nat.blt c 177) (cond (Nat.beq c 176) (1, 0, 260) (3, 9, 0)) (cond (Nat.beq c 177) (1, 0, 260) (3, 9, 0)))) (cond (Nat.blt c 179) (cond (Nat.beq c 178) (1, 0, 840) (3, 9, 0)) (cond (Nat.blt c 180) (cond (Nat.beq c 179) (1, 0, 840) (3, 9, 0)) (cond (Nat.beq c 180) (1, 0, 64) (3, 9, 0))))) (cond (Nat.blt c 184) (cond (Nat.blt c 182) (cond (Nat.beq c 181) (1, 0, 7) (3, 9, 0)) (cond (Nat.blt c 183) (cond (Nat.beq c 182) (1, 0, 400) (3, 9, 0)) (cond (Nat.beq c 183) (1, 0, 96) (3, 9, 0)))) (cond (Nat.blt c 185) (cond (Nat.beq c 184) (1, 0, 600) (3, 9, 0)) (cond (Nat.blt c 186) (cond (Nat.beq c 185) (1, 0, 600) (3, 9, 0)) (cond (Nat.beq c 186) (1, 0, 96) (3, 9, 0)))))) (cond (Nat.blt c 193) (cond (Nat.blt c 190) (cond (Nat.blt c 188) (cond (Nat.beq c 187) (1, 0, 2880) (3, 9, 0)) (cond (Nat.blt c 189) (cond (Nat.beq c 188) (1, 0, 6) (3, 9, 0)) (cond (Nat.beq c 189) (1, 0, 6) (3, 9, 0)))) (cond (Nat.blt c 191) (cond (Nat.beq c 190) (1, 0, 384) (3, 9, 0)) (cond (Nat.blt c 192) (cond (Nat.beq c 191) (1, 0, 2709) (3, 9, 0)) (cond (Nat.beq c 192) (1, 0, 10) (3, 9, 0))))) (cond (Nat.blt c 196) (cond (Nat.blt c 194) (cond (Nat.beq c 193) (1, 0, 10) (3, 9, 0)) (cond (Nat.blt c 195) (cond (Nat.beq c 194) (1, 0, 10) (3, 9, 0)) (cond (Nat.beq c 195) (1, 0, 20) (3, 9, 0)))) (cond (Nat.blt c 198) (cond (Nat.blt c 197) (cond (Nat.beq c 196) (1, 0, 20) (3, 9, 0)) (cond (Nat.beq c 197) (1, 0, 20) (3, 9, 0))) (cond (Nat.blt c 199) (cond (Nat.beq c 198) (1, 2, 3) (3, 9, 0)) (cond (Nat.beq c 199) (1, 0, 3888) (3, 9, 0))))))))))
def iniL : List Nat := [0, 17, 25, 33, 44, 52, 76, 96, 110, 116, 132, 144, 193]
def strL : List Nat := [313, 314, 315, 316, 317, 318, 319, 320]
def iniB (b : Nat) : Bool := bif Nat.blt b 336 then iniL.any (fun q => Nat.beq q b) else decide ((md_y (mdOf b)).name = "<init>")
def strB (b : Nat) : Bool := bif Nat.blt b 336 then strL.any (fun q => Nat.beq q b) else decide ((md_y (mdOf b)).cls = "java/lang/String")
theorem iniB_ok (b : Nat) : decide ((md_y (mdOf b)).name = "<init>") = iniB b := by
  unfold iniB
  cases h : Nat.blt b 336 with
  | false => rfl
  | true =>
    have h1 : (List.range 336).all (fun b => (decide ((md_y (mdOf b)).name = "<init>")) == iniL.any (fun q => Nat.beq q b)) = true := by decide +kernel
    have h2 := List.all_eq_true.mp h1 b (List.mem_range.mpr (Nat.le_of_ble_eq_true h))
    exact eq_of_beq h2
theorem strB_ok (b : Nat) : decide ((md_y (mdOf b)).cls = "java/lang/String") = strB b := by
  unfold strB
  cases h : Nat.blt b 336 with
  | false => rfl
  | true =>
    have h1 : (List.range 336).all (fun b => (decide ((md_y (mdOf b)).cls = "java/lang/String")) == strL.any (fun q => Nat.beq q b)) = true := by decide +kernel
    have h2 := List.all_eq_true.mp h1 b (List.mem_range.mpr (Nat.le_of_ble_eq_true h))
    exact eq_of_beq h2
/-- a field's value -/
def fvK (ci sl a : Nat) (S : WS) : Value := cond (Nat.beq ((flK ci).getD sl 9) 0) (.int (S.1 a sl)) (cond (Nat.beq ((flK ci).getD sl 9) 1) (.long (S.2.1 a sl)) (cond (Nat.beq ((flK ci).getD sl 9) 2) (.ref (S.2.2 a sl)) (.ref (arrC a sl))))
def cellK (S : WS) (c : Nat) : AE := cond (Nat.beq (shC c).1 0) (.inr (.inr (.inr ((shC c).2.1, (List.range (flK (shC c).2.1).length).map (fun j => fvK (shC c).2.1 j c S)))))
  (cond (Nat.beq (shC c).1 1) (.inl ((shC c).2.1, (List.range (shC c).2.2).map (S.1 c)))
  (cond (Nat.beq (shC c).1 2) (.inr (.inl ((List.range (shC c).2.2).map (S.2.1 c))))
   (.inr (.inr (.inl ((shC c).2.1, (List.range (shC c).2.2).map (fun j => some (S.2.2 c j))))))))
def WD (S : WS) : List AE := (List.range 200).map (cellK S)
def isO (a ci : Nat) : Bool := Nat.blt a 200 && (Nat.beq (shC a).1 0 && Nat.beq (shC a).2.1 ci)
def isA (a t : Nat) : Bool := Nat.blt a 200 && (Nat.beq (shC a).1 1 && Nat.beq (shC a).2.1 t)
def isJ (a : Nat) : Bool := Nat.blt a 200 && Nat.beq (shC a).1 2
def isF (a : Nat) : Bool := Nat.blt a 200 && Nat.beq (shC a).1 3
def alen (a : Nat) : Nat := (shC a).2.2
def uI (S : WS) (c j : Nat) (x : Int32) : WS := (fun c' j' => cond (Nat.beq c' c && Nat.beq j' j) x (S.1 c' j'), S.2)
def uL (S : WS) (c j : Nat) (x : Int64) : WS := (S.1, fun c' j' => cond (Nat.beq c' c && Nat.beq j' j) x (S.2.1 c' j'), S.2.2)
def uR (S : WS) (c j : Nat) (x : Nat) : WS := (S.1, S.2.1, fun c' j' => cond (Nat.beq c' c && Nat.beq j' j) x (S.2.2 c' j'))
def uA (S : WS) (c : Nat) (g : Nat → Int32) : WS := (fun c' j' => cond (Nat.beq c' c) (g j') (S.1 c' j'), S.2)
section WS1
variable {S : WS} {a c i j sl ci n : Nat}
theorem wd_len : (WD S).length = 200 := by unfold WD; rw [List.length_map, List.length_range]
theorem wd_get (S : WS) (a : Nat) : (WD S)[a]? = bif Nat.blt a 200 then some (cellK S a) else none := by
  unfold WD
  rw [List.getElem?_map]
  cases h : Nat.blt a 200 with
  | true =>
    have h : a < 200 := Nat.le_of_ble_eq_true h
    rw [List.getElem?_range h]
    rfl
  | false =>
    have h : ¬ a < 200 := fun q => by
      have : Nat.blt a 200 = true := Nat.ble_eq_true_of_le q
      rw [h] at this
      cases this
    rw [List.getElem?_eq_none (by rw [List.length_range]; omega)]
    rfl
/-- what lies at a cell -/
theorem wd_view (S : WS) (a : Nat) :
    (∃ ci n, Nat.blt a 200 = true ∧ shC a = (0, ci, n) ∧ (WD S)[a]? = some (.inr (.inr (.inr (ci, (List.range (flK ci).length).map (fun j => fvK ci j a S)))))) ∨
    (∃ t n, Nat.blt a 200 = true ∧ shC a = (1, t, n) ∧ (WD S)[a]? = some (.inl (t, (List.range n).map (S.1 a)))) ∨
    (∃ p n, Nat.blt a 200 = true ∧ shC a = (2, p, n) ∧ (WD S)[a]? = some (.inr (.inl ((List.range n).map (S.2.1 a))))) ∨
    (∃ p n, Nat.blt a 200 = true ∧ shC a = (3, p, n) ∧ (WD S)[a]? = some (.inr (.inr (.inl (p, (List.range n).map (fun j => some (S.2.2 a j))))))) ∨
    (Nat.blt a 200 = false ∧ (WD S)[a]? = none) := by
  rw [wd_get]
  cases h : Nat.blt a 200 with
  | false => exact .inr (.inr (.inr (.inr ⟨rfl, rfl⟩)))
  | true =>
    have hk : (List.range 200).all (fun a => Nat.blt (shC a).1 4) = true := by decide +kernel
    have h4 : (shC a).1 < 4 := Nat.le_of_ble_eq_true (List.all_eq_true.mp hk a (List.mem_range.mpr (Nat.le_of_ble_eq_true h)))
    cases hs : shC a with
    | mk k q =>
      obtain ⟨p, n⟩ := q
      rw [hs] at h4
      have h4 : k < 4 := h4
      unfold cellK
      rw [hs]
      match k, h4 with
      | 0, _ => exact .inl ⟨p, n, rfl, rfl, rfl⟩
      | 1, _ => exact .inr (.inl ⟨p, n, rfl, rfl, rfl⟩)
      | 2, _ => exact .inr (.inr (.inl ⟨p, n, rfl, rfl, rfl⟩))
      | 3, _ => exact .inr (.inr (.inr (.inl ⟨p, n, rfl, rfl, rfl⟩)))
theorem beq_ne {x y : Nat} (h : x ≠ y) : Nat.beq x y = false := by
  cases q : Nat.beq x y with
  | false => rfl
  | true => exact absurd (Nat.eq_of_beq_eq_true q) h
theorem cell_ne {S S' : WS} (h : c ≠ a) (h1 : ∀ c' j', c' ≠ a → S'.1 c' j' = S.1 c' j') (h2 : ∀ c' j', c' ≠ a → S'.2.1 c' j' = S.2.1 c' j') (h3 : ∀ c' j', c' ≠ a → S'.2.2 c' j' = S.2.2 c' j') : cellK S' c = cellK S c := by
  have e1 : S'.1 c = S.1 c := funext fun j => h1 c j h
  have e2 : S'.2.1 c = S.2.1 c := funext fun j => h2 c j h
  have e3 : S'.2.2 c = S.2.2 c := funext fun j => h3 c j h
  unfold cellK
  have e4 : ∀ ci j, fvK ci j c S' = fvK ci j c S := fun ci j => by
    unfold fvK
    rw [e1, e2, e3]
  simp only [e1, e2, e3, e4]
theorem wd_set {S S' : WS} {e : AE} (ha : Nat.blt a 200 = true) (he : cellK S' a = e) (h1 : ∀ c' j', c' ≠ a → S'.1 c' j' = S.1 c' j') (h2 : ∀ c' j', c' ≠ a → S'.2.1 c' j' = S.2.1 c' j') (h3 : ∀ c' j', c' ≠ a → S'.2.2 c' j' = S.2.2 c' j') : (WD S).set a e = WD S' := by
  apply List.ext_getElem?
  intro c
  by_cases hc : c = a
  · subst hc
    rw [List.getElem?_set_self (by rw [wd_len]; exact Nat.le_of_ble_eq_true ha), wd_get, ha, he]
    rfl
  · rw [List.getElem?_set_ne (fun q => hc q.symm), wd_get, wd_get]
    cases h : Nat.blt c 200 with
    | false => rfl
    | true => simp only [cond_true, cell_ne hc h1 h2 h3]
theorem set_rng {α : Type} {f g : Nat → α} {n i : Nat} {x : α} (hx : g i = x) (hg : ∀ j, j ≠ i → g j = f j) : ((List.range n).map f).set i x = (List.range n).map g := by
  apply List.ext_getElem?
  intro c
  by_cases hc : c = i
  · subst hc
    by_cases hl : c < n
    · rw [List.getElem?_set_self (by rw [List.length_map, List.length_range]; exact hl), List.getElem?_map, List.getElem?_range hl]
      show some x = some (g c)
      rw [hx]
    · rw [List.getElem?_eq_none (by rw [List.length_set, List.length_map, List.length_range]; omega), List.getElem?_eq_none (by rw [List.length_map, List.length_range]; omega)]
  · rw [List.getElem?_set_ne (fun q => hc q.symm), List.getElem?_map, List.getElem?_map]
    by_cases hl : c < n
    · rw [List.getElem?_range hl]
      show some (f c) = some (g c)
      rw [hg c hc]
    · rw [List.getElem?_eq_none (by rw [List.length_range]; omega)]
      rfl
theorem uI_ne (S : WS) (x : Int32) : ∀ c' j', c' ≠ a → (uI S a i x).1 c' j' = S.1 c' j' := fun c' j' h => by
  show cond (Nat.beq c' a && Nat.beq j' i) x (S.1 c' j') = _
  rw [beq_ne h]
  rfl
theorem uL_ne (S : WS) (x : Int64) : ∀ c' j', c' ≠ a → (uL S a i x).2.1 c' j' = S.2.1 c' j' := fun c' j' h => by
  show cond (Nat.beq c' a && Nat.beq j' i) x (S.2.1 c' j') = _
  rw [beq_ne h]
  rfl
theorem uR_ne (S : WS) (x : Nat) : ∀ c' j', c' ≠ a → (uR S a i x).2.2 c' j' = S.2.2 c' j' := fun c' j' h => by
  show cond (Nat.beq c' a && Nat.beq j' i) x (S.2.2 c' j') = _
  rw [beq_ne h]
  rfl
theorem uI_i (x : Int32) : (uI S a i x).1 a i = x := by
  show cond (Nat.beq a a && Nat.beq i i) x _ = _
  rw [Nat.beq_refl, Nat.beq_refl]
  rfl
theorem uI_j (x : Int32) (h : j ≠ i) : (uI S a i x).1 a j = S.1 a j := by
  show cond (Nat.beq a a && Nat.beq j i) x _ = _
  rw [Nat.beq_refl, beq_ne h]
  rfl
theorem uL_i (x : Int64) : (uL S a i x).2.1 a i = x := by
  show cond (Nat.beq a a && Nat.beq i i) x _ = _
  rw [Nat.beq_refl, Nat.beq_refl]
  rfl
theorem uL_j (x : Int64) (h : j ≠ i) : (uL S a i x).2.1 a j = S.2.1 a j := by
  show cond (Nat.beq a a && Nat.beq j i) x _ = _
  rw [Nat.beq_refl, beq_ne h]
  rfl
theorem uR_i (x : Nat) : (uR S a i x).2.2 a i = x := by
  show cond (Nat.beq a a && Nat.beq i i) x _ = _
  rw [Nat.beq_refl, Nat.beq_refl]
  rfl
theorem uR_j (x : Nat) (h : j ≠ i) : (uR S a i x).2.2 a j = S.2.2 a j := by
  show cond (Nat.beq a a && Nat.beq j i) x _ = _
  rw [Nat.beq_refl, beq_ne h]
  rfl
theorem cell_i {t : Nat} (h : shC a = (1, t, n)) : cellK S a = .inl (t, (List.range n).map (S.1 a)) := by unfold cellK; rw [h]; rfl
theorem cell_j {t : Nat} (h : shC a = (2, t, n)) : cellK S a = .inr (.inl ((List.range n).map (S.2.1 a))) := by unfold cellK; rw [h]; rfl
theorem cell_f {t : Nat} (h : shC a = (3, t, n)) : cellK S a = .inr (.inr (.inl (t, (List.range n).map (fun j => some (S.2.2 a j))))) := by unfold cellK; rw [h]; rfl
theorem cell_o (h : shC a = (0, ci, n)) : cellK S a = .inr (.inr (.inr (ci, (List.range (flK ci).length).map (fun j => fvK ci j a S)))) := by unfold cellK; rw [h]; rfl
theorem set_I {t : Nat} {x : Int32} (ha : Nat.blt a 200 = true) (h : shC a = (1, t, n)) : (WD S).set a (.inl (t, ((List.range n).map (S.1 a)).set i x)) = WD (uI S a i x) := by
  refine wd_set ha ?_ (uI_ne S x) (fun _ _ _ => rfl) (fun _ _ _ => rfl)
  rw [cell_i h, set_rng (g := (uI S a i x).1 a) (uI_i x) (fun j hj => uI_j x hj)]
theorem set_J {t : Nat} {x : Int64} (ha : Nat.blt a 200 = true) (h : shC a = (2, t, n)) : (WD S).set a (.inr (.inl (((List.range n).map (S.2.1 a)).set i x))) = WD (uL S a i x) := by
  refine wd_set ha ?_ (fun _ _ _ => rfl) (uL_ne S x) (fun _ _ _ => rfl)
  rw [cell_j h, set_rng (g := (uL S a i x).2.1 a) (uL_i x) (fun j hj => uL_j x hj)]
theorem set_F {t x : Nat} (ha : Nat.blt a 200 = true) (h : shC a = (3, t, n)) : (WD S).set a (.inr (.inr (.inl (t, ((List.range n).map (fun j => some (S.2.2 a j))).set i (some x))))) = WD (uR S a i x) := by
  refine wd_set ha ?_ (fun _ _ _ => rfl) (fun _ _ _ => rfl) (uR_ne S x)
  rw [cell_f h, set_rng (g := fun j => some ((uR S a i x).2.2 a j)) (congrArg some (uR_i x)) (fun j hj => congrArg some (uR_j x hj))]
theorem fv_k {S S' : WS} (h1 : ∀ j', j' ≠ sl → S'.1 a j' = S.1 a j') (h2 : ∀ j', j' ≠ sl → S'.2.1 a j' = S.2.1 a j') (h3 : ∀ j', j' ≠ sl → S'.2.2 a j' = S.2.2 a j') (j : Nat) (hj : j ≠ sl) : fvK ci j a S' = fvK ci j a S := by
  unfold fvK
  rw [h1 j hj, h2 j hj, h3 j hj]
theorem set_o {S S' : WS} {v : Value} (ha : Nat.blt a 200 = true) (h : shC a = (0, ci, n)) (hv : fvK ci sl a S' = v) (h1 : ∀ c' j', ¬ (c' = a ∧ j' = sl) → S'.1 c' j' = S.1 c' j') (h2 : ∀ c' j', ¬ (c' = a ∧ j' = sl) → S'.2.1 c' j' = S.2.1 c' j') (h3 : ∀ c' j', ¬ (c' = a ∧ j' = sl) → S'.2.2 c' j' = S.2.2 c' j') : (WD S).set a (.inr (.inr (.inr (ci, ((List.range (flK ci).length).map (fun j => fvK ci j a S)).set sl v)))) = WD S' := by
  refine wd_set ha ?_ (fun c' j' q => h1 c' j' (fun z => q z.1)) (fun c' j' q => h2 c' j' (fun z => q z.1)) (fun c' j' q => h3 c' j' (fun z => q z.1))
  rw [cell_o h, set_rng (g := fun j => fvK ci j a S') hv (fun j hj => fv_k (sl := sl) (fun j' q => h1 a j' (fun z => q z.2)) (fun j' q => h2 a j' (fun z => q z.2)) (fun j' q => h3 a j' (fun z => q z.2)) j hj)]
theorem uI_no (S : WS) (x : Int32) : ∀ c' j', ¬ (c' = a ∧ j' = i) → (uI S a i x).1 c' j' = S.1 c' j' := fun c' j' h => by
  by_cases hc : c' = a
  · subst hc
    exact uI_j x (fun q => h ⟨rfl, q⟩)
  · exact uI_ne S x c' j' hc
theorem uL_no (S : WS) (x : Int64) : ∀ c' j', ¬ (c' = a ∧ j' = i) → (uL S a i x).2.1 c' j' = S.2.1 c' j' := fun c' j' h => by
  by_cases hc : c' = a
  · subst hc
    exact uL_j x (fun q => h ⟨rfl, q⟩)
  · exact uL_ne S x c' j' hc
theorem uR_no (S : WS) (x : Nat) : ∀ c' j', ¬ (c' = a ∧ j' = i) → (uR S a i x).2.2 c' j' = S.2.2 c' j' := fun c' j' h => by
  by_cases hc : c' = a
  · subst hc
    exact uR_j x (fun q => h ⟨rfl, q⟩)
  · exact uR_ne S x c' j' hc
end WS1
