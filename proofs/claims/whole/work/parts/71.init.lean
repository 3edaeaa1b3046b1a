/-! The law's two objects are made: the heap is hp M0; written by program. -/
set_option maxRecDepth 100000 in
set_option maxHeartbeats 4000000 in
theorem ct_x2 (sc : Option (Nat × (Nat → Int32))) (d : Nat) : ∃ h : Nat → va_E, pm_run pmT sc 300 (d + 9) 0 false (0, [some (.ref 0), none], [], 1, 6, va_up pm_h0 0 (.inr (0, [.null, .null, .null, .null, .null, .int 0]))) = some (none, 83, 6935, h) ∧ h 0 = hp M0 0 ∧ h 1 = hp M0 1 ∧ h 2 = hp M0 2 ∧ h 3 = hp M0 3 ∧ h 4 = hp M0 4 ∧ h 5 = hp M0 5 ∧ h 6 = hp M0 6 ∧ h 7 = hp M0 7 ∧ h 8 = hp M0 8 ∧ h 9 = hp M0 9 ∧ h 10 = hp M0 10 ∧ h 11 = hp M0 11 ∧ h 12 = hp M0 12 ∧ h 13 = hp M0 13 ∧ h 14 = hp M0 14 ∧ h 15 = hp M0 15 ∧ h 16 = hp M0 16 ∧ h 17 = hp M0 17 ∧ h 18 = hp M0 18 ∧ h 19 = hp M0 19 ∧ h 20 = hp M0 20 ∧ h 21 = hp M0 21 ∧ h 22 = hp M0 22 ∧ h 23 = hp M0 23 ∧ h 24 = hp M0 24 ∧ h 25 = hp M0 25 ∧ h 26 = hp M0 26 ∧ h 27 = hp M0 27 ∧ h 28 = hp M0 28 ∧ h 29 = hp M0 29 ∧ h 30 = hp M0 30 ∧ h 31 = hp M0 31 ∧ h 32 = hp M0 32 ∧ h 33 = hp M0 33 ∧ h 34 = hp M0 34 ∧ h 35 = hp M0 35 ∧ h 36 = hp M0 36 ∧ h 37 = hp M0 37 ∧ h 38 = hp M0 38 ∧ h 39 = hp M0 39 ∧ h 40 = hp M0 40 ∧ h 41 = hp M0 41 ∧ h 42 = hp M0 42 ∧ h 43 = hp M0 43 ∧ h 44 = hp M0 44 ∧ h 45 = hp M0 45 ∧ h 46 = hp M0 46 ∧ h 47 = hp M0 47 ∧ h 48 = hp M0 48 ∧ h 49 = hp M0 49 ∧ h 50 = hp M0 50 ∧ h 51 = hp M0 51 ∧ h 52 = hp M0 52 ∧ h 53 = hp M0 53 ∧ h 54 = hp M0 54 ∧ h 55 = hp M0 55 ∧ h 56 = hp M0 56 ∧ h 57 = hp M0 57 ∧ h 58 = hp M0 58 ∧ h 59 = hp M0 59 ∧ h 60 = hp M0 60 ∧ h 61 = hp M0 61 ∧ h 62 = hp M0 62 ∧ h 63 = hp M0 63 ∧ h 64 = hp M0 64 ∧ h 65 = hp M0 65 ∧ h 66 = hp M0 66 ∧ h 67 = hp M0 67 ∧ h 68 = hp M0 68 ∧ h 69 = hp M0 69 ∧ h 70 = hp M0 70 ∧ h 71 = hp M0 71 ∧ h 72 = hp M0 72 ∧ h 73 = hp M0 73 ∧ h 74 = hp M0 74 ∧ h 75 = hp M0 75 ∧ h 76 = hp M0 76 ∧ h 77 = hp M0 77 ∧ h 78 = hp M0 78 ∧ h 79 = hp M0 79 ∧ h 80 = hp M0 80 ∧ h 81 = hp M0 81 ∧ h 82 = hp M0 82 ∧ (∀ b : Nat, h (b + 83) = .inr (0, [])) := ⟨_, rfl, rfl, rfl, rfl, rfl, rfl, rfl, rfl, rfl, rfl, rfl, rfl, rfl, rfl, rfl, rfl, rfl, rfl, rfl, rfl, rfl, rfl, rfl, rfl, rfl, rfl, rfl, rfl, rfl, rfl, rfl, rfl, rfl, rfl, rfl, rfl, rfl, rfl, rfl, rfl, rfl, rfl, rfl, rfl, rfl, rfl, rfl, rfl, rfl, rfl, rfl, rfl, rfl, rfl, rfl, rfl, rfl, rfl, rfl, rfl, rfl, rfl, rfl, rfl, rfl, rfl, rfl, rfl, rfl, rfl, rfl, rfl, rfl, rfl, rfl, rfl, rfl, rfl, rfl, rfl, rfl, rfl, rfl, rfl, fun _ => rfl⟩
set_option maxRecDepth 100000 in
set_option maxHeartbeats 4000000 in
theorem ct_m2 (sc : Option (Nat × (Nat → Int32))) (d : Nat) (h : Nat → va_E) : ∃ h' : Nat → va_E, pm_run pmT sc 300 (d + 9) 18 false (0, [some (.ref 83)], [], 84, 7000, va_up h 83 (.inr (12, [.null, .int 0, .null, .int 0, .int 0, .int 0, .int 0, .int 0, .int 0, .int 0, .null, .null, .null, .null, .null, .null, .null, .null, .null, .null, .null, .null, .null, .null, .null, .null, .null, .int 0, .null, .null, .int 0, .int 0, .int 0, .int 0, .int 0, .null, .null, .int 0, .int 0, .null, .int 0, .null, .null, .null, .null, .null, .null, .null, .null, .null, .null, .null, .int 0, .null, .null, .null, .int 0, .null, .null, .null, .null, .null, .int 0, .null, .null]))) = some (none, 129, 17845, h') ∧ h' 0 = h 0 ∧ h' 1 = h 1 ∧ h' 2 = h 2 ∧ h' 3 = h 3 ∧ h' 4 = h 4 ∧ h' 5 = h 5 ∧ h' 6 = h 6 ∧ h' 7 = h 7 ∧ h' 8 = h 8 ∧ h' 9 = h 9 ∧ h' 10 = h 10 ∧ h' 11 = h 11 ∧ h' 12 = h 12 ∧ h' 13 = h 13 ∧ h' 14 = h 14 ∧ h' 15 = h 15 ∧ h' 16 = h 16 ∧ h' 17 = h 17 ∧ h' 18 = h 18 ∧ h' 19 = h 19 ∧ h' 20 = h 20 ∧ h' 21 = h 21 ∧ h' 22 = h 22 ∧ h' 23 = h 23 ∧ h' 24 = h 24 ∧ h' 25 = h 25 ∧ h' 26 = h 26 ∧ h' 27 = h 27 ∧ h' 28 = h 28 ∧ h' 29 = h 29 ∧ h' 30 = h 30 ∧ h' 31 = h 31 ∧ h' 32 = h 32 ∧ h' 33 = h 33 ∧ h' 34 = h 34 ∧ h' 35 = h 35 ∧ h' 36 = h 36 ∧ h' 37 = h 37 ∧ h' 38 = h 38 ∧ h' 39 = h 39 ∧ h' 40 = h 40 ∧ h' 41 = h 41 ∧ h' 42 = h 42 ∧ h' 43 = h 43 ∧ h' 44 = h 44 ∧ h' 45 = h 45 ∧ h' 46 = h 46 ∧ h' 47 = h 47 ∧ h' 48 = h 48 ∧ h' 49 = h 49 ∧ h' 50 = h 50 ∧ h' 51 = h 51 ∧ h' 52 = h 52 ∧ h' 53 = h 53 ∧ h' 54 = h 54 ∧ h' 55 = h 55 ∧ h' 56 = h 56 ∧ h' 57 = h 57 ∧ h' 58 = h 58 ∧ h' 59 = h 59 ∧ h' 60 = h 60 ∧ h' 61 = h 61 ∧ h' 62 = h 62 ∧ h' 63 = h 63 ∧ h' 64 = h 64 ∧ h' 65 = h 65 ∧ h' 66 = h 66 ∧ h' 67 = h 67 ∧ h' 68 = h 68 ∧ h' 69 = h 69 ∧ h' 70 = h 70 ∧ h' 71 = h 71 ∧ h' 72 = h 72 ∧ h' 73 = h 73 ∧ h' 74 = h 74 ∧ h' 75 = h 75 ∧ h' 76 = h 76 ∧ h' 77 = h 77 ∧ h' 78 = h 78 ∧ h' 79 = h 79 ∧ h' 80 = h 80 ∧ h' 81 = h 81 ∧ h' 82 = h 82 ∧ h' 83 = hp M0 83 ∧ h' 84 = hp M0 84 ∧ h' 85 = hp M0 85 ∧ h' 86 = hp M0 86 ∧ h' 87 = hp M0 87 ∧ h' 88 = hp M0 88 ∧ h' 89 = hp M0 89 ∧ h' 90 = hp M0 90 ∧ h' 91 = hp M0 91 ∧ h' 92 = hp M0 92 ∧ h' 93 = hp M0 93 ∧ h' 94 = hp M0 94 ∧ h' 95 = hp M0 95 ∧ h' 96 = hp M0 96 ∧ h' 97 = hp M0 97 ∧ h' 98 = hp M0 98 ∧ h' 99 = hp M0 99 ∧ h' 100 = hp M0 100 ∧ h' 101 = hp M0 101 ∧ h' 102 = hp M0 102 ∧ h' 103 = hp M0 103 ∧ h' 104 = hp M0 104 ∧ h' 105 = hp M0 105 ∧ h' 106 = hp M0 106 ∧ h' 107 = hp M0 107 ∧ h' 108 = hp M0 108 ∧ h' 109 = hp M0 109 ∧ h' 110 = hp M0 110 ∧ h' 111 = hp M0 111 ∧ h' 112 = hp M0 112 ∧ h' 113 = hp M0 113 ∧ h' 114 = hp M0 114 ∧ h' 115 = hp M0 115 ∧ h' 116 = hp M0 116 ∧ h' 117 = hp M0 117 ∧ h' 118 = hp M0 118 ∧ h' 119 = hp M0 119 ∧ h' 120 = hp M0 120 ∧ h' 121 = hp M0 121 ∧ h' 122 = hp M0 122 ∧ h' 123 = hp M0 123 ∧ h' 124 = hp M0 124 ∧ h' 125 = hp M0 125 ∧ h' 126 = hp M0 126 ∧ h' 127 = hp M0 127 ∧ h' 128 = hp M0 128 ∧ (∀ b : Nat, h' (b + 129) = h (b + 129)) := ⟨_, rfl, rfl, rfl, rfl, rfl, rfl, rfl, rfl, rfl, rfl, rfl, rfl, rfl, rfl, rfl, rfl, rfl, rfl, rfl, rfl, rfl, rfl, rfl, rfl, rfl, rfl, rfl, rfl, rfl, rfl, rfl, rfl, rfl, rfl, rfl, rfl, rfl, rfl, rfl, rfl, rfl, rfl, rfl, rfl, rfl, rfl, rfl, rfl, rfl, rfl, rfl, rfl, rfl, rfl, rfl, rfl, rfl, rfl, rfl, rfl, rfl, rfl, rfl, rfl, rfl, rfl, rfl, rfl, rfl, rfl, rfl, rfl, rfl, rfl, rfl, rfl, rfl, rfl, rfl, rfl, rfl, rfl, rfl, rfl, rfl, rfl, rfl, rfl, rfl, rfl, rfl, rfl, rfl, rfl, rfl, rfl, rfl, rfl, rfl, rfl, rfl, rfl, rfl, rfl, rfl, rfl, rfl, rfl, rfl, rfl, rfl, rfl, rfl, rfl, rfl, rfl, rfl, rfl, rfl, rfl, rfl, rfl, rfl, rfl, rfl, rfl, rfl, rfl, rfl, rfl, fun _ => rfl⟩
set_option maxRecDepth 100000 in
set_option maxHeartbeats 4000000 in
theorem all_cells (f g : Nat → va_E) (k0 : f 0 = g 0) (k1 : f 1 = g 1) (k2 : f 2 = g 2) (k3 : f 3 = g 3) (k4 : f 4 = g 4) (k5 : f 5 = g 5) (k6 : f 6 = g 6) (k7 : f 7 = g 7) (k8 : f 8 = g 8) (k9 : f 9 = g 9) (k10 : f 10 = g 10) (k11 : f 11 = g 11) (k12 : f 12 = g 12) (k13 : f 13 = g 13) (k14 : f 14 = g 14) (k15 : f 15 = g 15) (k16 : f 16 = g 16) (k17 : f 17 = g 17) (k18 : f 18 = g 18) (k19 : f 19 = g 19) (k20 : f 20 = g 20) (k21 : f 21 = g 21) (k22 : f 22 = g 22) (k23 : f 23 = g 23) (k24 : f 24 = g 24) (k25 : f 25 = g 25) (k26 : f 26 = g 26) (k27 : f 27 = g 27) (k28 : f 28 = g 28) (k29 : f 29 = g 29) (k30 : f 30 = g 30) (k31 : f 31 = g 31) (k32 : f 32 = g 32) (k33 : f 33 = g 33) (k34 : f 34 = g 34) (k35 : f 35 = g 35) (k36 : f 36 = g 36) (k37 : f 37 = g 37) (k38 : f 38 = g 38) (k39 : f 39 = g 39) (k40 : f 40 = g 40) (k41 : f 41 = g 41) (k42 : f 42 = g 42) (k43 : f 43 = g 43) (k44 : f 44 = g 44) (k45 : f 45 = g 45) (k46 : f 46 = g 46) (k47 : f 47 = g 47) (k48 : f 48 = g 48) (k49 : f 49 = g 49) (k50 : f 50 = g 50) (k51 : f 51 = g 51) (k52 : f 52 = g 52) (k53 : f 53 = g 53) (k54 : f 54 = g 54) (k55 : f 55 = g 55) (k56 : f 56 = g 56) (k57 : f 57 = g 57) (k58 : f 58 = g 58) (k59 : f 59 = g 59) (k60 : f 60 = g 60) (k61 : f 61 = g 61) (k62 : f 62 = g 62) (k63 : f 63 = g 63) (k64 : f 64 = g 64) (k65 : f 65 = g 65) (k66 : f 66 = g 66) (k67 : f 67 = g 67) (k68 : f 68 = g 68) (k69 : f 69 = g 69) (k70 : f 70 = g 70) (k71 : f 71 = g 71) (k72 : f 72 = g 72) (k73 : f 73 = g 73) (k74 : f 74 = g 74) (k75 : f 75 = g 75) (k76 : f 76 = g 76) (k77 : f 77 = g 77) (k78 : f 78 = g 78) (k79 : f 79 = g 79) (k80 : f 80 = g 80) (k81 : f 81 = g 81) (k82 : f 82 = g 82) (k83 : f 83 = g 83) (k84 : f 84 = g 84) (k85 : f 85 = g 85) (k86 : f 86 = g 86) (k87 : f 87 = g 87) (k88 : f 88 = g 88) (k89 : f 89 = g 89) (k90 : f 90 = g 90) (k91 : f 91 = g 91) (k92 : f 92 = g 92) (k93 : f 93 = g 93) (k94 : f 94 = g 94) (k95 : f 95 = g 95) (k96 : f 96 = g 96) (k97 : f 97 = g 97) (k98 : f 98 = g 98) (k99 : f 99 = g 99) (k100 : f 100 = g 100) (k101 : f 101 = g 101) (k102 : f 102 = g 102) (k103 : f 103 = g 103) (k104 : f 104 = g 104) (k105 : f 105 = g 105) (k106 : f 106 = g 106) (k107 : f 107 = g 107) (k108 : f 108 = g 108) (k109 : f 109 = g 109) (k110 : f 110 = g 110) (k111 : f 111 = g 111) (k112 : f 112 = g 112) (k113 : f 113 = g 113) (k114 : f 114 = g 114) (k115 : f 115 = g 115) (k116 : f 116 = g 116) (k117 : f 117 = g 117) (k118 : f 118 = g 118) (k119 : f 119 = g 119) (k120 : f 120 = g 120) (k121 : f 121 = g 121) (k122 : f 122 = g 122) (k123 : f 123 = g 123) (k124 : f 124 = g 124) (k125 : f 125 = g 125) (k126 : f 126 = g 126) (k127 : f 127 = g 127) (k128 : f 128 = g 128) (kr : ∀ b : Nat, f (b + 129) = g (b + 129)) : f = g := by
  funext c
  by_cases qq : 129 ≤ c
  · obtain ⟨b, rfl⟩ : ∃ b, c = b + 129 := ⟨c - 129, by omega⟩
    exact kr b
  · skip
    by_cases q0_128 : c < 64
    · skip
      by_cases q0_63 : c < 32
      · skip
        by_cases q0_31 : c < 16
        · skip
          by_cases q0_15 : c < 8
          · skip
            by_cases q0_7 : c < 4
            · skip
              by_cases q0_3 : c < 2
              · skip
                by_cases q0_1 : c < 1
                · skip
                  have e : c = 0 := by omega
                  subst e
                  exact k0
                · skip
                  have e : c = 1 := by omega
                  subst e
                  exact k1
              · skip
                by_cases q2_3 : c < 3
                · skip
                  have e : c = 2 := by omega
                  subst e
                  exact k2
                · skip
                  have e : c = 3 := by omega
                  subst e
                  exact k3
            · skip
              by_cases q4_7 : c < 6
              · skip
                by_cases q4_5 : c < 5
                · skip
                  have e : c = 4 := by omega
                  subst e
                  exact k4
                · skip
                  have e : c = 5 := by omega
                  subst e
                  exact k5
              · skip
                by_cases q6_7 : c < 7
                · skip
                  have e : c = 6 := by omega
                  subst e
                  exact k6
                · skip
                  have e : c = 7 := by omega
                  subst e
                  exact k7
          · skip
            by_cases q8_15 : c < 12
            · skip
              by_cases q8_11 : c < 10
              · skip
                by_cases q8_9 : c < 9
                · skip
                  have e : c = 8 := by omega
                  subst e
                  exact k8
                · skip
                  have e : c = 9 := by omega
                  subst e
                  exact k9
              · skip
                by_cases q10_11 : c < 11
                · skip
                  have e : c = 10 := by omega
                  subst e
                  exact k10
                · skip
                  have e : c = 11 := by omega
                  subst e
                  exact k11
            · skip
              by_cases q12_15 : c < 14
              · skip
                by_cases q12_13 : c < 13
                · skip
                  have e : c = 12 := by omega
                  subst e
                  exact k12
                · skip
                  have e : c = 13 := by omega
                  subst e
                  exact k13
              · skip
                by_cases q14_15 : c < 15
                · skip
                  have e : c = 14 := by omega
                  subst e
                  exact k14
                · skip
                  have e : c = 15 := by omega
                  subst e
                  exact k15
        · skip
          by_cases q16_31 : c < 24
          · skip
            by_cases q16_23 : c < 20
            · skip
              by_cases q16_19 : c < 18
              · skip
                by_cases q16_17 : c < 17
                · skip
                  have e : c = 16 := by omega
                  subst e
                  exact k16
                · skip
                  have e : c = 17 := by omega
                  subst e
                  exact k17
              · skip
                by_cases q18_19 : c < 19
                · skip
                  have e : c = 18 := by omega
                  subst e
                  exact k18
                · skip
                  have e : c = 19 := by omega
                  subst e
                  exact k19
            · skip
              by_cases q20_23 : c < 22
              · skip
                by_cases q20_21 : c < 21
                · skip
                  have e : c = 20 := by omega
                  subst e
                  exact k20
                · skip
                  have e : c = 21 := by omega
                  subst e
                  exact k21
              · skip
                by_cases q22_23 : c < 23
                · skip
                  have e : c = 22 := by omega
                  subst e
                  exact k22
                · skip
                  have e : c = 23 := by omega
                  subst e
                  exact k23
          · skip
            by_cases q24_31 : c < 28
            · skip
              by_cases q24_27 : c < 26
              · skip
                by_cases q24_25 : c < 25
                · skip
                  have e : c = 24 := by omega
                  subst e
                  exact k24
                · skip
                  have e : c = 25 := by omega
                  subst e
                  exact k25
              · skip
                by_cases q26_27 : c < 27
                · skip
                  have e : c = 26 := by omega
                  subst e
                  exact k26
                · skip
                  have e : c = 27 := by omega
                  subst e
                  exact k27
            · skip
              by_cases q28_31 : c < 30
              · skip
                by_cases q28_29 : c < 29
                · skip
                  have e : c = 28 := by omega
                  subst e
                  exact k28
                · skip
                  have e : c = 29 := by omega
                  subst e
                  exact k29
              · skip
                by_cases q30_31 : c < 31
                · skip
                  have e : c = 30 := by omega
                  subst e
                  exact k30
                · skip
                  have e : c = 31 := by omega
                  subst e
                  exact k31
      · skip
        by_cases q32_63 : c < 48
        · skip
          by_cases q32_47 : c < 40
          · skip
            by_cases q32_39 : c < 36
            · skip
              by_cases q32_35 : c < 34
              · skip
                by_cases q32_33 : c < 33
                · skip
                  have e : c = 32 := by omega
                  subst e
                  exact k32
                · skip
                  have e : c = 33 := by omega
                  subst e
                  exact k33
              · skip
                by_cases q34_35 : c < 35
                · skip
                  have e : c = 34 := by omega
                  subst e
                  exact k34
                · skip
                  have e : c = 35 := by omega
                  subst e
                  exact k35
            · skip
              by_cases q36_39 : c < 38
              · skip
                by_cases q36_37 : c < 37
                · skip
                  have e : c = 36 := by omega
                  subst e
                  exact k36
                · skip
                  have e : c = 37 := by omega
                  subst e
                  exact k37
              · skip
                by_cases q38_39 : c < 39
                · skip
                  have e : c = 38 := by omega
                  subst e
                  exact k38
                · skip
                  have e : c = 39 := by omega
                  subst e
                  exact k39
          · skip
            by_cases q40_47 : c < 44
            · skip
              by_cases q40_43 : c < 42
              · skip
                by_cases q40_41 : c < 41
                · skip
                  have e : c = 40 := by omega
                  subst e
                  exact k40
                · skip
                  have e : c = 41 := by omega
                  subst e
                  exact k41
              · skip
                by_cases q42_43 : c < 43
                · skip
                  have e : c = 42 := by omega
                  subst e
                  exact k42
                · skip
                  have e : c = 43 := by omega
                  subst e
                  exact k43
            · skip
              by_cases q44_47 : c < 46
              · skip
                by_cases q44_45 : c < 45
                · skip
                  have e : c = 44 := by omega
                  subst e
                  exact k44
                · skip
                  have e : c = 45 := by omega
                  subst e
                  exact k45
              · skip
                by_cases q46_47 : c < 47
                · skip
                  have e : c = 46 := by omega
                  subst e
                  exact k46
                · skip
                  have e : c = 47 := by omega
                  subst e
                  exact k47
        · skip
          by_cases q48_63 : c < 56
          · skip
            by_cases q48_55 : c < 52
            · skip
              by_cases q48_51 : c < 50
              · skip
                by_cases q48_49 : c < 49
                · skip
                  have e : c = 48 := by omega
                  subst e
                  exact k48
                · skip
                  have e : c = 49 := by omega
                  subst e
                  exact k49
              · skip
                by_cases q50_51 : c < 51
                · skip
                  have e : c = 50 := by omega
                  subst e
                  exact k50
                · skip
                  have e : c = 51 := by omega
                  subst e
                  exact k51
            · skip
              by_cases q52_55 : c < 54
              · skip
                by_cases q52_53 : c < 53
                · skip
                  have e : c = 52 := by omega
                  subst e
                  exact k52
                · skip
                  have e : c = 53 := by omega
                  subst e
                  exact k53
              · skip
                by_cases q54_55 : c < 55
                · skip
                  have e : c = 54 := by omega
                  subst e
                  exact k54
                · skip
                  have e : c = 55 := by omega
                  subst e
                  exact k55
          · skip
            by_cases q56_63 : c < 60
            · skip
              by_cases q56_59 : c < 58
              · skip
                by_cases q56_57 : c < 57
                · skip
                  have e : c = 56 := by omega
                  subst e
                  exact k56
                · skip
                  have e : c = 57 := by omega
                  subst e
                  exact k57
              · skip
                by_cases q58_59 : c < 59
                · skip
                  have e : c = 58 := by omega
                  subst e
                  exact k58
                · skip
                  have e : c = 59 := by omega
                  subst e
                  exact k59
            · skip
              by_cases q60_63 : c < 62
              · skip
                by_cases q60_61 : c < 61
                · skip
                  have e : c = 60 := by omega
                  subst e
                  exact k60
                · skip
                  have e : c = 61 := by omega
                  subst e
                  exact k61
              · skip
                by_cases q62_63 : c < 63
                · skip
                  have e : c = 62 := by omega
                  subst e
                  exact k62
                · skip
                  have e : c = 63 := by omega
                  subst e
                  exact k63
    · skip
      by_cases q64_128 : c < 96
      · skip
        by_cases q64_95 : c < 80
        · skip
          by_cases q64_79 : c < 72
          · skip
            by_cases q64_71 : c < 68
            · skip
              by_cases q64_67 : c < 66
              · skip
                by_cases q64_65 : c < 65
                · skip
                  have e : c = 64 := by omega
                  subst e
                  exact k64
                · skip
                  have e : c = 65 := by omega
                  subst e
                  exact k65
              · skip
                by_cases q66_67 : c < 67
                · skip
                  have e : c = 66 := by omega
                  subst e
                  exact k66
                · skip
                  have e : c = 67 := by omega
                  subst e
                  exact k67
            · skip
              by_cases q68_71 : c < 70
              · skip
                by_cases q68_69 : c < 69
                · skip
                  have e : c = 68 := by omega
                  subst e
                  exact k68
                · skip
                  have e : c = 69 := by omega
                  subst e
                  exact k69
              · skip
                by_cases q70_71 : c < 71
                · skip
                  have e : c = 70 := by omega
                  subst e
                  exact k70
                · skip
                  have e : c = 71 := by omega
                  subst e
                  exact k71
          · skip
            by_cases q72_79 : c < 76
            · skip
              by_cases q72_75 : c < 74
              · skip
                by_cases q72_73 : c < 73
                · skip
                  have e : c = 72 := by omega
                  subst e
                  exact k72
                · skip
                  have e : c = 73 := by omega
                  subst e
                  exact k73
              · skip
                by_cases q74_75 : c < 75
                · skip
                  have e : c = 74 := by omega
                  subst e
                  exact k74
                · skip
                  have e : c = 75 := by omega
                  subst e
                  exact k75
            · skip
              by_cases q76_79 : c < 78
              · skip
                by_cases q76_77 : c < 77
                · skip
                  have e : c = 76 := by omega
                  subst e
                  exact k76
                · skip
                  have e : c = 77 := by omega
                  subst e
                  exact k77
              · skip
                by_cases q78_79 : c < 79
                · skip
                  have e : c = 78 := by omega
                  subst e
                  exact k78
                · skip
                  have e : c = 79 := by omega
                  subst e
                  exact k79
        · skip
          by_cases q80_95 : c < 88
          · skip
            by_cases q80_87 : c < 84
            · skip
              by_cases q80_83 : c < 82
              · skip
                by_cases q80_81 : c < 81
                · skip
                  have e : c = 80 := by omega
                  subst e
                  exact k80
                · skip
                  have e : c = 81 := by omega
                  subst e
                  exact k81
              · skip
                by_cases q82_83 : c < 83
                · skip
                  have e : c = 82 := by omega
                  subst e
                  exact k82
                · skip
                  have e : c = 83 := by omega
                  subst e
                  exact k83
            · skip
              by_cases q84_87 : c < 86
              · skip
                by_cases q84_85 : c < 85
                · skip
                  have e : c = 84 := by omega
                  subst e
                  exact k84
                · skip
                  have e : c = 85 := by omega
                  subst e
                  exact k85
              · skip
                by_cases q86_87 : c < 87
                · skip
                  have e : c = 86 := by omega
                  subst e
                  exact k86
                · skip
                  have e : c = 87 := by omega
                  subst e
                  exact k87
          · skip
            by_cases q88_95 : c < 92
            · skip
              by_cases q88_91 : c < 90
              · skip
                by_cases q88_89 : c < 89
                · skip
                  have e : c = 88 := by omega
                  subst e
                  exact k88
                · skip
                  have e : c = 89 := by omega
                  subst e
                  exact k89
              · skip
                by_cases q90_91 : c < 91
                · skip
                  have e : c = 90 := by omega
                  subst e
                  exact k90
                · skip
                  have e : c = 91 := by omega
                  subst e
                  exact k91
            · skip
              by_cases q92_95 : c < 94
              · skip
                by_cases q92_93 : c < 93
                · skip
                  have e : c = 92 := by omega
                  subst e
                  exact k92
                · skip
                  have e : c = 93 := by omega
                  subst e
                  exact k93
              · skip
                by_cases q94_95 : c < 95
                · skip
                  have e : c = 94 := by omega
                  subst e
                  exact k94
                · skip
                  have e : c = 95 := by omega
                  subst e
                  exact k95
      · skip
        by_cases q96_128 : c < 112
        · skip
          by_cases q96_111 : c < 104
          · skip
            by_cases q96_103 : c < 100
            · skip
              by_cases q96_99 : c < 98
              · skip
                by_cases q96_97 : c < 97
                · skip
                  have e : c = 96 := by omega
                  subst e
                  exact k96
                · skip
                  have e : c = 97 := by omega
                  subst e
                  exact k97
              · skip
                by_cases q98_99 : c < 99
                · skip
                  have e : c = 98 := by omega
                  subst e
                  exact k98
                · skip
                  have e : c = 99 := by omega
                  subst e
                  exact k99
            · skip
              by_cases q100_103 : c < 102
              · skip
                by_cases q100_101 : c < 101
                · skip
                  have e : c = 100 := by omega
                  subst e
                  exact k100
                · skip
                  have e : c = 101 := by omega
                  subst e
                  exact k101
              · skip
                by_cases q102_103 : c < 103
                · skip
                  have e : c = 102 := by omega
                  subst e
                  exact k102
                · skip
                  have e : c = 103 := by omega
                  subst e
                  exact k103
          · skip
            by_cases q104_111 : c < 108
            · skip
              by_cases q104_107 : c < 106
              · skip
                by_cases q104_105 : c < 105
                · skip
                  have e : c = 104 := by omega
                  subst e
                  exact k104
                · skip
                  have e : c = 105 := by omega
                  subst e
                  exact k105
              · skip
                by_cases q106_107 : c < 107
                · skip
                  have e : c = 106 := by omega
                  subst e
                  exact k106
                · skip
                  have e : c = 107 := by omega
                  subst e
                  exact k107
            · skip
              by_cases q108_111 : c < 110
              · skip
                by_cases q108_109 : c < 109
                · skip
                  have e : c = 108 := by omega
                  subst e
                  exact k108
                · skip
                  have e : c = 109 := by omega
                  subst e
                  exact k109
              · skip
                by_cases q110_111 : c < 111
                · skip
                  have e : c = 110 := by omega
                  subst e
                  exact k110
                · skip
                  have e : c = 111 := by omega
                  subst e
                  exact k111
        · skip
          by_cases q112_128 : c < 120
          · skip
            by_cases q112_119 : c < 116
            · skip
              by_cases q112_115 : c < 114
              · skip
                by_cases q112_113 : c < 113
                · skip
                  have e : c = 112 := by omega
                  subst e
                  exact k112
                · skip
                  have e : c = 113 := by omega
                  subst e
                  exact k113
              · skip
                by_cases q114_115 : c < 115
                · skip
                  have e : c = 114 := by omega
                  subst e
                  exact k114
                · skip
                  have e : c = 115 := by omega
                  subst e
                  exact k115
            · skip
              by_cases q116_119 : c < 118
              · skip
                by_cases q116_117 : c < 117
                · skip
                  have e : c = 116 := by omega
                  subst e
                  exact k116
                · skip
                  have e : c = 117 := by omega
                  subst e
                  exact k117
              · skip
                by_cases q118_119 : c < 119
                · skip
                  have e : c = 118 := by omega
                  subst e
                  exact k118
                · skip
                  have e : c = 119 := by omega
                  subst e
                  exact k119
          · skip
            by_cases q120_128 : c < 124
            · skip
              by_cases q120_123 : c < 122
              · skip
                by_cases q120_121 : c < 121
                · skip
                  have e : c = 120 := by omega
                  subst e
                  exact k120
                · skip
                  have e : c = 121 := by omega
                  subst e
                  exact k121
              · skip
                by_cases q122_123 : c < 123
                · skip
                  have e : c = 122 := by omega
                  subst e
                  exact k122
                · skip
                  have e : c = 123 := by omega
                  subst e
                  exact k123
            · skip
              by_cases q124_128 : c < 126
              · skip
                by_cases q124_125 : c < 125
                · skip
                  have e : c = 124 := by omega
                  subst e
                  exact k124
                · skip
                  have e : c = 125 := by omega
                  subst e
                  exact k125
              · skip
                by_cases q126_128 : c < 127
                · skip
                  have e : c = 126 := by omega
                  subst e
                  exact k126
                · skip
                  by_cases q127_128 : c < 128
                  · skip
                    have e : c = 127 := by omega
                    subst e
                    exact k127
                  · skip
                    have e : c = 128 := by omega
                    subst e
                    exact k128
set_option maxRecDepth 100000 in
set_option maxHeartbeats 4000000 in
theorem law_init2 (sc : Option (Nat × (Nat → Int32))) (d : Nat) (r : pm_Rs) (k : pm_ev pmT sc (d + 10) 214 true (18, [some (.retAddr 0), some (.ref 0), some (.ref 83), some (.int 0)], [], 129, 17845, hp M0) r) : pm_ev pmT sc (d + 10) 214 true (0, [some (.retAddr 0), none, none, none], [], 0, 0, pm_h0) r := by
  obtain ⟨h1, e1, f0, f1, f2, f3, f4, f5, f6, f7, f8, f9, f10, f11, f12, f13, f14, f15, f16, f17, f18, f19, f20, f21, f22, f23, f24, f25, f26, f27, f28, f29, f30, f31, f32, f33, f34, f35, f36, f37, f38, f39, f40, f41, f42, f43, f44, f45, f46, f47, f48, f49, f50, f51, f52, f53, f54, f55, f56, f57, f58, f59, f60, f61, f62, f63, f64, f65, f66, f67, f68, f69, f70, f71, f72, f73, f74, f75, f76, f77, f78, f79, f80, f81, f82, fr⟩ := ct_x2 sc d
  obtain ⟨h2, e2, g0, g1, g2, g3, g4, g5, g6, g7, g8, g9, g10, g11, g12, g13, g14, g15, g16, g17, g18, g19, g20, g21, g22, g23, g24, g25, g26, g27, g28, g29, g30, g31, g32, g33, g34, g35, g36, g37, g38, g39, g40, g41, g42, g43, g44, g45, g46, g47, g48, g49, g50, g51, g52, g53, g54, g55, g56, g57, g58, g59, g60, g61, g62, g63, g64, g65, g66, g67, g68, g69, g70, g71, g72, g73, g74, g75, g76, g77, g78, g79, g80, g81, g82, g83, g84, g85, g86, g87, g88, g89, g90, g91, g92, g93, g94, g95, g96, g97, g98, g99, g100, g101, g102, g103, g104, g105, g106, g107, g108, g109, g110, g111, g112, g113, g114, g115, g116, g117, g118, g119, g120, g121, g122, g123, g124, g125, g126, g127, g128, gr⟩ := ct_m2 sc d h1
  have hh : h2 = hp M0 := all_cells h2 (hp M0) (g0.trans f0) (g1.trans f1) (g2.trans f2) (g3.trans f3) (g4.trans f4) (g5.trans f5) (g6.trans f6) (g7.trans f7) (g8.trans f8) (g9.trans f9) (g10.trans f10) (g11.trans f11) (g12.trans f12) (g13.trans f13) (g14.trans f14) (g15.trans f15) (g16.trans f16) (g17.trans f17) (g18.trans f18) (g19.trans f19) (g20.trans f20) (g21.trans f21) (g22.trans f22) (g23.trans f23) (g24.trans f24) (g25.trans f25) (g26.trans f26) (g27.trans f27) (g28.trans f28) (g29.trans f29) (g30.trans f30) (g31.trans f31) (g32.trans f32) (g33.trans f33) (g34.trans f34) (g35.trans f35) (g36.trans f36) (g37.trans f37) (g38.trans f38) (g39.trans f39) (g40.trans f40) (g41.trans f41) (g42.trans f42) (g43.trans f43) (g44.trans f44) (g45.trans f45) (g46.trans f46) (g47.trans f47) (g48.trans f48) (g49.trans f49) (g50.trans f50) (g51.trans f51) (g52.trans f52) (g53.trans f53) (g54.trans f54) (g55.trans f55) (g56.trans f56) (g57.trans f57) (g58.trans f58) (g59.trans f59) (g60.trans f60) (g61.trans f61) (g62.trans f62) (g63.trans f63) (g64.trans f64) (g65.trans f65) (g66.trans f66) (g67.trans f67) (g68.trans f68) (g69.trans f69) (g70.trans f70) (g71.trans f71) (g72.trans f72) (g73.trans f73) (g74.trans f74) (g75.trans f75) (g76.trans f76) (g77.trans f77) (g78.trans f78) (g79.trans f79) (g80.trans f80) (g81.trans f81) (g82.trans f82) g83 g84 g85 g86 g87 g88 g89 g90 g91 g92 g93 g94 g95 g96 g97 g98 g99 g100 g101 g102 g103 g104 g105 g106 g107 g108 g109 g110 g111 g112 g113 g114 g115 g116 g117 g118 g119 g120 g121 g122 g123 g124 g125 g126 g127 g128 (fun b => (gr b).trans ((fr (b + 46)).trans rfl))
  subst hh
  refine pm_ev_many 2 (s' := (4, [some (.retAddr 0), none, none, none], [.ref 0, .ref 0], 1, 6, va_up pm_h0 0 (.inr (0, [.null, .null, .null, .null, .null, .int 0])))) rfl ?_
  refine pm_ev_call (z := 0) (k := 1) (r1 := (none, 83, 6935, h1)) rfl ⟨300, e1⟩ ?_
  refine pm_ev_many 3 (s' := (12, [some (.retAddr 0), some (.ref 0), none, none], [.ref 83, .ref 83], 84, 7000, va_up h1 83 (.inr (12, [.null, .int 0, .null, .int 0, .int 0, .int 0, .int 0, .int 0, .int 0, .int 0, .null, .null, .null, .null, .null, .null, .null, .null, .null, .null, .null, .null, .null, .null, .null, .null, .null, .int 0, .null, .null, .int 0, .int 0, .int 0, .int 0, .int 0, .null, .null, .int 0, .int 0, .null, .int 0, .null, .null, .null, .null, .null, .null, .null, .null, .null, .null, .null, .int 0, .null, .null, .null, .int 0, .null, .null, .null, .null, .null, .int 0, .null, .null])))) rfl ?_
  refine pm_ev_call (z := 18) (k := 1) (r1 := (none, 129, 17845, hp M0)) rfl ⟨300, e2⟩ ?_
  exact pm_ev_many 3 rfl k
/-- the claim out of an invariant of whole numbers -/
theorem pm_whole_of (I : ZM → Prop) (h0 : I (zm M0)) (hI : ∀ m, I m → ∀ op a b : Int, rg a → rg b → ∃ m', I m' ∧ lw_call op a b m m') (L : Nat) (xs : Nat → Int32) (hL : L ≤ 1536) :
    ∃ d N' S' h', d ≤ 1400 ∧ N' ≤ 600000 ∧ S' ≤ 7302250 ∧ pm_ev pmT (some (L, xs)) d pm_law true (0, [some (.retAddr 0), none, none, none], [], 0, 0, pm_h0) (some (.int 1), N', S', h') := by
  obtain ⟨M', hk⟩ := law_go L xs hL I hI 100 (by decide) L 0 M0 (zm M0) (by omega) (by omega) (zm_rm M0) h0
  exact ⟨100, 129, 17845, hp M', by decide, by decide, by decide, law_init2 (some (L, xs)) 90 _ hk⟩
