/-! all methods are sound, by the depth of calls -/
set_option maxRecDepth 100000 in
theorem am_qk : ∀ y, y < 412 → ((am_cd y).all (am_ck y) && am_sq (am_cd y)) = true := by
  intro y hy
  by_cases h0_412 : y < 206
  · by_cases h0_206 : y < 103
    · by_cases h0_103 : y < 51
      · by_cases h0_51 : y < 25
        · by_cases h0_25 : y < 12
          · by_cases h0_12 : y < 6
            · by_cases h0_6 : y < 3
              · by_cases h0_3 : y < 1
                · obtain rfl : y = 0 := by omega
                  rw [show am_cd 0 = am_k0 from rfl]
                  exact am_q0
                · by_cases h1_3 : y < 2
                  · obtain rfl : y = 1 := by omega
                    rw [show am_cd 1 = am_k1 from rfl]
                    exact am_q1
                  · obtain rfl : y = 2 := by omega
                    rw [show am_cd 2 = am_k2 from rfl]
                    exact am_q2
              · by_cases h3_6 : y < 4
                · obtain rfl : y = 3 := by omega
                  rw [show am_cd 3 = am_k3 from rfl]
                  exact am_q3
                · by_cases h4_6 : y < 5
                  · obtain rfl : y = 4 := by omega
                    rw [show am_cd 4 = am_k4 from rfl]
                    exact am_q4
                  · obtain rfl : y = 5 := by omega
                    rw [show am_cd 5 = am_k5 from rfl]
                    exact am_q5
            · by_cases h6_12 : y < 9
              · by_cases h6_9 : y < 7
                · obtain rfl : y = 6 := by omega
                  rw [show am_cd 6 = am_k6 from rfl]
                  exact am_q6
                · by_cases h7_9 : y < 8
                  · obtain rfl : y = 7 := by omega
                    rw [show am_cd 7 = am_k7 from rfl]
                    exact am_q7
                  · obtain rfl : y = 8 := by omega
                    rw [show am_cd 8 = am_k8 from rfl]
                    exact am_q8
              · by_cases h9_12 : y < 10
                · obtain rfl : y = 9 := by omega
                  rw [show am_cd 9 = am_k9 from rfl]
                  exact am_q9
                · by_cases h10_12 : y < 11
                  · obtain rfl : y = 10 := by omega
                    rw [show am_cd 10 = am_k10 from rfl]
                    exact am_q10
                  · obtain rfl : y = 11 := by omega
                    rw [show am_cd 11 = am_k11 from rfl]
                    exact am_q11
          · by_cases h12_25 : y < 18
            · by_cases h12_18 : y < 15
              · by_cases h12_15 : y < 13
                · obtain rfl : y = 12 := by omega
                  rw [show am_cd 12 = am_k12 from rfl]
                  exact am_q12
                · by_cases h13_15 : y < 14
                  · obtain rfl : y = 13 := by omega
                    rw [show am_cd 13 = am_k13 from rfl]
                    exact am_q13
                  · obtain rfl : y = 14 := by omega
                    rw [show am_cd 14 = am_k14 from rfl]
                    exact am_q14
              · by_cases h15_18 : y < 16
                · obtain rfl : y = 15 := by omega
                  rw [show am_cd 15 = am_k15 from rfl]
                  exact am_q15
                · by_cases h16_18 : y < 17
                  · obtain rfl : y = 16 := by omega
                    rw [show am_cd 16 = am_k16 from rfl]
                    exact am_q16
                  · obtain rfl : y = 17 := by omega
                    rw [show am_cd 17 = am_k17 from rfl]
                    exact am_q17
            · by_cases h18_25 : y < 21
              · by_cases h18_21 : y < 19
                · obtain rfl : y = 18 := by omega
                  rw [show am_cd 18 = am_k18 from rfl]
                  exact am_q18
                · by_cases h19_21 : y < 20
                  · obtain rfl : y = 19 := by omega
                    rw [show am_cd 19 = am_k19 from rfl]
                    exact am_q19
                  · obtain rfl : y = 20 := by omega
                    rw [show am_cd 20 = am_k20 from rfl]
                    exact am_q20
              · by_cases h21_25 : y < 23
                · by_cases h21_23 : y < 22
                  · obtain rfl : y = 21 := by omega
                    rw [show am_cd 21 = am_k21 from rfl]
                    exact am_q21
                  · obtain rfl : y = 22 := by omega
                    rw [show am_cd 22 = am_k22 from rfl]
                    exact am_q22
                · by_cases h23_25 : y < 24
                  · obtain rfl : y = 23 := by omega
                    rw [show am_cd 23 = am_k23 from rfl]
                    exact am_q23
                  · obtain rfl : y = 24 := by omega
                    rw [show am_cd 24 = am_k24 from rfl]
                    exact am_q24
        · by_cases h25_51 : y < 38
          · by_cases h25_38 : y < 31
            · by_cases h25_31 : y < 28
              · by_cases h25_28 : y < 26
                · obtain rfl : y = 25 := by omega
                  rw [show am_cd 25 = am_k25 from rfl]
                  exact am_q25
                · by_cases h26_28 : y < 27
                  · obtain rfl : y = 26 := by omega
                    rw [show am_cd 26 = am_k26 from rfl]
                    exact am_q26
                  · obtain rfl : y = 27 := by omega
                    rw [show am_cd 27 = am_k27 from rfl]
                    exact am_q27
              · by_cases h28_31 : y < 29
                · obtain rfl : y = 28 := by omega
                  rw [show am_cd 28 = am_k28 from rfl]
                  exact am_q28
                · by_cases h29_31 : y < 30
                  · obtain rfl : y = 29 := by omega
                    rw [show am_cd 29 = am_k29 from rfl]
                    exact am_q29
                  · obtain rfl : y = 30 := by omega
                    rw [show am_cd 30 = am_k30 from rfl]
                    exact am_q30
            · by_cases h31_38 : y < 34
              · by_cases h31_34 : y < 32
                · obtain rfl : y = 31 := by omega
                  rw [show am_cd 31 = am_k31 from rfl]
                  exact am_q31
                · by_cases h32_34 : y < 33
                  · obtain rfl : y = 32 := by omega
                    rw [show am_cd 32 = am_k32 from rfl]
                    exact am_q32
                  · obtain rfl : y = 33 := by omega
                    rw [show am_cd 33 = am_k33 from rfl]
                    exact am_q33
              · by_cases h34_38 : y < 36
                · by_cases h34_36 : y < 35
                  · obtain rfl : y = 34 := by omega
                    rw [show am_cd 34 = am_k34 from rfl]
                    exact am_q34
                  · obtain rfl : y = 35 := by omega
                    rw [show am_cd 35 = am_k35 from rfl]
                    exact am_q35
                · by_cases h36_38 : y < 37
                  · obtain rfl : y = 36 := by omega
                    rw [show am_cd 36 = am_k36 from rfl]
                    exact am_q36
                  · obtain rfl : y = 37 := by omega
                    rw [show am_cd 37 = am_k37 from rfl]
                    exact am_q37
          · by_cases h38_51 : y < 44
            · by_cases h38_44 : y < 41
              · by_cases h38_41 : y < 39
                · obtain rfl : y = 38 := by omega
                  rw [show am_cd 38 = am_k38 from rfl]
                  exact am_q38
                · by_cases h39_41 : y < 40
                  · obtain rfl : y = 39 := by omega
                    rw [show am_cd 39 = am_k39 from rfl]
                    exact am_q39
                  · obtain rfl : y = 40 := by omega
                    rw [show am_cd 40 = am_k40 from rfl]
                    exact am_q40
              · by_cases h41_44 : y < 42
                · obtain rfl : y = 41 := by omega
                  rw [show am_cd 41 = am_k41 from rfl]
                  exact am_q41
                · by_cases h42_44 : y < 43
                  · obtain rfl : y = 42 := by omega
                    rw [show am_cd 42 = am_k42 from rfl]
                    exact am_q42
                  · obtain rfl : y = 43 := by omega
                    rw [show am_cd 43 = am_k43 from rfl]
                    exact am_q43
            · by_cases h44_51 : y < 47
              · by_cases h44_47 : y < 45
                · obtain rfl : y = 44 := by omega
                  rw [show am_cd 44 = am_k44 from rfl]
                  exact am_q44
                · by_cases h45_47 : y < 46
                  · obtain rfl : y = 45 := by omega
                    rw [show am_cd 45 = am_k45 from rfl]
                    exact am_q45
                  · obtain rfl : y = 46 := by omega
                    rw [show am_cd 46 = am_k46 from rfl]
                    exact am_q46
              · by_cases h47_51 : y < 49
                · by_cases h47_49 : y < 48
                  · obtain rfl : y = 47 := by omega
                    rw [show am_cd 47 = am_k47 from rfl]
                    exact am_q47
                  · obtain rfl : y = 48 := by omega
                    rw [show am_cd 48 = am_k48 from rfl]
                    exact am_q48
                · by_cases h49_51 : y < 50
                  · obtain rfl : y = 49 := by omega
                    rw [show am_cd 49 = am_k49 from rfl]
                    exact am_q49
                  · obtain rfl : y = 50 := by omega
                    rw [show am_cd 50 = am_k50 from rfl]
                    exact am_q50
      · by_cases h51_103 : y < 77
        · by_cases h51_77 : y < 64
          · by_cases h51_64 : y < 57
            · by_cases h51_57 : y < 54
              · by_cases h51_54 : y < 52
                · obtain rfl : y = 51 := by omega
                  rw [show am_cd 51 = am_k51 from rfl]
                  exact am_q51
                · by_cases h52_54 : y < 53
                  · obtain rfl : y = 52 := by omega
                    rw [show am_cd 52 = am_k52 from rfl]
                    exact am_q52
                  · obtain rfl : y = 53 := by omega
                    rw [show am_cd 53 = am_k53 from rfl]
                    exact am_q53
              · by_cases h54_57 : y < 55
                · obtain rfl : y = 54 := by omega
                  rw [show am_cd 54 = am_k54 from rfl]
                  exact am_q54
                · by_cases h55_57 : y < 56
                  · obtain rfl : y = 55 := by omega
                    rw [show am_cd 55 = am_k55 from rfl]
                    exact am_q55
                  · obtain rfl : y = 56 := by omega
                    rw [show am_cd 56 = am_k56 from rfl]
                    exact am_q56
            · by_cases h57_64 : y < 60
              · by_cases h57_60 : y < 58
                · obtain rfl : y = 57 := by omega
                  rw [show am_cd 57 = am_k57 from rfl]
                  exact am_q57
                · by_cases h58_60 : y < 59
                  · obtain rfl : y = 58 := by omega
                    rw [show am_cd 58 = am_k58 from rfl]
                    exact am_q58
                  · obtain rfl : y = 59 := by omega
                    rw [show am_cd 59 = am_k59 from rfl]
                    exact am_q59
              · by_cases h60_64 : y < 62
                · by_cases h60_62 : y < 61
                  · obtain rfl : y = 60 := by omega
                    rw [show am_cd 60 = am_k60 from rfl]
                    exact am_q60
                  · obtain rfl : y = 61 := by omega
                    rw [show am_cd 61 = am_k61 from rfl]
                    exact am_q61
                · by_cases h62_64 : y < 63
                  · obtain rfl : y = 62 := by omega
                    rw [show am_cd 62 = am_k62 from rfl]
                    exact am_q62
                  · obtain rfl : y = 63 := by omega
                    rw [show am_cd 63 = am_k63 from rfl]
                    exact am_q63
          · by_cases h64_77 : y < 70
            · by_cases h64_70 : y < 67
              · by_cases h64_67 : y < 65
                · obtain rfl : y = 64 := by omega
                  rw [show am_cd 64 = am_k64 from rfl]
                  exact am_q64
                · by_cases h65_67 : y < 66
                  · obtain rfl : y = 65 := by omega
                    rw [show am_cd 65 = am_k65 from rfl]
                    exact am_q65
                  · obtain rfl : y = 66 := by omega
                    rw [show am_cd 66 = am_k66 from rfl]
                    exact am_q66
              · by_cases h67_70 : y < 68
                · obtain rfl : y = 67 := by omega
                  rw [show am_cd 67 = am_k67 from rfl]
                  exact am_q67
                · by_cases h68_70 : y < 69
                  · obtain rfl : y = 68 := by omega
                    rw [show am_cd 68 = am_k68 from rfl]
                    exact am_q68
                  · obtain rfl : y = 69 := by omega
                    rw [show am_cd 69 = am_k69 from rfl]
                    exact am_q69
            · by_cases h70_77 : y < 73
              · by_cases h70_73 : y < 71
                · obtain rfl : y = 70 := by omega
                  rw [show am_cd 70 = am_k70 from rfl]
                  exact am_q70
                · by_cases h71_73 : y < 72
                  · obtain rfl : y = 71 := by omega
                    rw [show am_cd 71 = am_k71 from rfl]
                    exact am_q71
                  · obtain rfl : y = 72 := by omega
                    rw [show am_cd 72 = am_k72 from rfl]
                    exact am_q72
              · by_cases h73_77 : y < 75
                · by_cases h73_75 : y < 74
                  · obtain rfl : y = 73 := by omega
                    rw [show am_cd 73 = am_k73 from rfl]
                    exact am_q73
                  · obtain rfl : y = 74 := by omega
                    rw [show am_cd 74 = am_k74 from rfl]
                    exact am_q74
                · by_cases h75_77 : y < 76
                  · obtain rfl : y = 75 := by omega
                    rw [show am_cd 75 = am_k75 from rfl]
                    exact am_q75
                  · obtain rfl : y = 76 := by omega
                    rw [show am_cd 76 = am_k76 from rfl]
                    exact am_q76
        · by_cases h77_103 : y < 90
          · by_cases h77_90 : y < 83
            · by_cases h77_83 : y < 80
              · by_cases h77_80 : y < 78
                · obtain rfl : y = 77 := by omega
                  rw [show am_cd 77 = am_k77 from rfl]
                  exact am_q77
                · by_cases h78_80 : y < 79
                  · obtain rfl : y = 78 := by omega
                    rw [show am_cd 78 = am_k78 from rfl]
                    exact am_q78
                  · obtain rfl : y = 79 := by omega
                    rw [show am_cd 79 = am_k79 from rfl]
                    exact am_q79
              · by_cases h80_83 : y < 81
                · obtain rfl : y = 80 := by omega
                  rw [show am_cd 80 = am_k80 from rfl]
                  exact am_q80
                · by_cases h81_83 : y < 82
                  · obtain rfl : y = 81 := by omega
                    rw [show am_cd 81 = am_k81 from rfl]
                    exact am_q81
                  · obtain rfl : y = 82 := by omega
                    rw [show am_cd 82 = am_k82 from rfl]
                    exact am_q82
            · by_cases h83_90 : y < 86
              · by_cases h83_86 : y < 84
                · obtain rfl : y = 83 := by omega
                  rw [show am_cd 83 = am_k83 from rfl]
                  exact am_q83
                · by_cases h84_86 : y < 85
                  · obtain rfl : y = 84 := by omega
                    rw [show am_cd 84 = am_k84 from rfl]
                    exact am_q84
                  · obtain rfl : y = 85 := by omega
                    rw [show am_cd 85 = am_k85 from rfl]
                    exact am_q85
              · by_cases h86_90 : y < 88
                · by_cases h86_88 : y < 87
                  · obtain rfl : y = 86 := by omega
                    rw [show am_cd 86 = am_k86 from rfl]
                    exact am_q86
                  · obtain rfl : y = 87 := by omega
                    rw [show am_cd 87 = am_k87 from rfl]
                    exact am_q87
                · by_cases h88_90 : y < 89
                  · obtain rfl : y = 88 := by omega
                    rw [show am_cd 88 = am_k88 from rfl]
                    exact am_q88
                  · obtain rfl : y = 89 := by omega
                    rw [show am_cd 89 = am_k89 from rfl]
                    exact am_q89
          · by_cases h90_103 : y < 96
            · by_cases h90_96 : y < 93
              · by_cases h90_93 : y < 91
                · obtain rfl : y = 90 := by omega
                  rw [show am_cd 90 = am_k90 from rfl]
                  exact am_q90
                · by_cases h91_93 : y < 92
                  · obtain rfl : y = 91 := by omega
                    rw [show am_cd 91 = am_k91 from rfl]
                    exact am_q91
                  · obtain rfl : y = 92 := by omega
                    rw [show am_cd 92 = am_k92 from rfl]
                    exact am_q92
              · by_cases h93_96 : y < 94
                · obtain rfl : y = 93 := by omega
                  rw [show am_cd 93 = am_k93 from rfl]
                  exact am_q93
                · by_cases h94_96 : y < 95
                  · obtain rfl : y = 94 := by omega
                    rw [show am_cd 94 = am_k94 from rfl]
                    exact am_q94
                  · obtain rfl : y = 95 := by omega
                    rw [show am_cd 95 = am_k95 from rfl]
                    exact am_q95
            · by_cases h96_103 : y < 99
              · by_cases h96_99 : y < 97
                · obtain rfl : y = 96 := by omega
                  rw [show am_cd 96 = am_k96 from rfl]
                  exact am_q96
                · by_cases h97_99 : y < 98
                  · obtain rfl : y = 97 := by omega
                    rw [show am_cd 97 = am_k97 from rfl]
                    exact am_q97
                  · obtain rfl : y = 98 := by omega
                    rw [show am_cd 98 = am_k98 from rfl]
                    exact am_q98
              · by_cases h99_103 : y < 101
                · by_cases h99_101 : y < 100
                  · obtain rfl : y = 99 := by omega
                    rw [show am_cd 99 = am_k99 from rfl]
                    exact am_q99
                  · obtain rfl : y = 100 := by omega
                    rw [show am_cd 100 = am_k100 from rfl]
                    exact am_q100
                · by_cases h101_103 : y < 102
                  · obtain rfl : y = 101 := by omega
                    rw [show am_cd 101 = am_k101 from rfl]
                    exact am_q101
                  · obtain rfl : y = 102 := by omega
                    rw [show am_cd 102 = am_k102 from rfl]
                    exact am_q102
    · by_cases h103_206 : y < 154
      · by_cases h103_154 : y < 128
        · by_cases h103_128 : y < 115
          · by_cases h103_115 : y < 109
            · by_cases h103_109 : y < 106
              · by_cases h103_106 : y < 104
                · obtain rfl : y = 103 := by omega
                  rw [show am_cd 103 = am_k103 from rfl]
                  exact am_q103
                · by_cases h104_106 : y < 105
                  · obtain rfl : y = 104 := by omega
                    rw [show am_cd 104 = am_k104 from rfl]
                    exact am_q104
                  · obtain rfl : y = 105 := by omega
                    rw [show am_cd 105 = am_k105 from rfl]
                    exact am_q105
              · by_cases h106_109 : y < 107
                · obtain rfl : y = 106 := by omega
                  rw [show am_cd 106 = am_k106 from rfl]
                  exact am_q106
                · by_cases h107_109 : y < 108
                  · obtain rfl : y = 107 := by omega
                    rw [show am_cd 107 = am_k107 from rfl]
                    exact am_q107
                  · obtain rfl : y = 108 := by omega
                    rw [show am_cd 108 = am_k108 from rfl]
                    exact am_q108
            · by_cases h109_115 : y < 112
              · by_cases h109_112 : y < 110
                · obtain rfl : y = 109 := by omega
                  rw [show am_cd 109 = am_k109 from rfl]
                  exact am_q109
                · by_cases h110_112 : y < 111
                  · obtain rfl : y = 110 := by omega
                    rw [show am_cd 110 = am_k110 from rfl]
                    exact am_q110
                  · obtain rfl : y = 111 := by omega
                    rw [show am_cd 111 = am_k111 from rfl]
                    exact am_q111
              · by_cases h112_115 : y < 113
                · obtain rfl : y = 112 := by omega
                  rw [show am_cd 112 = am_k112 from rfl]
                  exact am_q112
                · by_cases h113_115 : y < 114
                  · obtain rfl : y = 113 := by omega
                    rw [show am_cd 113 = am_k113 from rfl]
                    exact am_q113
                  · obtain rfl : y = 114 := by omega
                    rw [show am_cd 114 = am_k114 from rfl]
                    exact am_q114
          · by_cases h115_128 : y < 121
            · by_cases h115_121 : y < 118
              · by_cases h115_118 : y < 116
                · obtain rfl : y = 115 := by omega
                  rw [show am_cd 115 = am_k115 from rfl]
                  exact am_q115
                · by_cases h116_118 : y < 117
                  · obtain rfl : y = 116 := by omega
                    rw [show am_cd 116 = am_k116 from rfl]
                    exact am_q116
                  · obtain rfl : y = 117 := by omega
                    rw [show am_cd 117 = am_k117 from rfl]
                    exact am_q117
              · by_cases h118_121 : y < 119
                · obtain rfl : y = 118 := by omega
                  rw [show am_cd 118 = am_k118 from rfl]
                  exact am_q118
                · by_cases h119_121 : y < 120
                  · obtain rfl : y = 119 := by omega
                    rw [show am_cd 119 = am_k119 from rfl]
                    exact am_q119
                  · obtain rfl : y = 120 := by omega
                    rw [show am_cd 120 = am_k120 from rfl]
                    exact am_q120
            · by_cases h121_128 : y < 124
              · by_cases h121_124 : y < 122
                · obtain rfl : y = 121 := by omega
                  rw [show am_cd 121 = am_k121 from rfl]
                  exact am_q121
                · by_cases h122_124 : y < 123
                  · obtain rfl : y = 122 := by omega
                    rw [show am_cd 122 = am_k122 from rfl]
                    exact am_q122
                  · obtain rfl : y = 123 := by omega
                    rw [show am_cd 123 = am_k123 from rfl]
                    exact am_q123
              · by_cases h124_128 : y < 126
                · by_cases h124_126 : y < 125
                  · obtain rfl : y = 124 := by omega
                    rw [show am_cd 124 = am_k124 from rfl]
                    exact am_q124
                  · obtain rfl : y = 125 := by omega
                    rw [show am_cd 125 = am_k125 from rfl]
                    exact am_q125
                · by_cases h126_128 : y < 127
                  · obtain rfl : y = 126 := by omega
                    rw [show am_cd 126 = am_k126 from rfl]
                    exact am_q126
                  · obtain rfl : y = 127 := by omega
                    rw [show am_cd 127 = am_k127 from rfl]
                    exact am_q127
        · by_cases h128_154 : y < 141
          · by_cases h128_141 : y < 134
            · by_cases h128_134 : y < 131
              · by_cases h128_131 : y < 129
                · obtain rfl : y = 128 := by omega
                  rw [show am_cd 128 = am_k128 from rfl]
                  exact am_q128
                · by_cases h129_131 : y < 130
                  · obtain rfl : y = 129 := by omega
                    rw [show am_cd 129 = am_k129 from rfl]
                    exact am_q129
                  · obtain rfl : y = 130 := by omega
                    rw [show am_cd 130 = am_k130 from rfl]
                    exact am_q130
              · by_cases h131_134 : y < 132
                · obtain rfl : y = 131 := by omega
                  rw [show am_cd 131 = am_k131 from rfl]
                  exact am_q131
                · by_cases h132_134 : y < 133
                  · obtain rfl : y = 132 := by omega
                    rw [show am_cd 132 = am_k132 from rfl]
                    exact am_q132
                  · obtain rfl : y = 133 := by omega
                    rw [show am_cd 133 = am_k133 from rfl]
                    exact am_q133
            · by_cases h134_141 : y < 137
              · by_cases h134_137 : y < 135
                · obtain rfl : y = 134 := by omega
                  rw [show am_cd 134 = am_k134 from rfl]
                  exact am_q134
                · by_cases h135_137 : y < 136
                  · obtain rfl : y = 135 := by omega
                    rw [show am_cd 135 = am_k135 from rfl]
                    exact am_q135
                  · obtain rfl : y = 136 := by omega
                    rw [show am_cd 136 = am_k136 from rfl]
                    exact am_q136
              · by_cases h137_141 : y < 139
                · by_cases h137_139 : y < 138
                  · obtain rfl : y = 137 := by omega
                    rw [show am_cd 137 = am_k137 from rfl]
                    exact am_q137
                  · obtain rfl : y = 138 := by omega
                    rw [show am_cd 138 = am_k138 from rfl]
                    exact am_q138
                · by_cases h139_141 : y < 140
                  · obtain rfl : y = 139 := by omega
                    rw [show am_cd 139 = am_k139 from rfl]
                    exact am_q139
                  · obtain rfl : y = 140 := by omega
                    rw [show am_cd 140 = am_k140 from rfl]
                    exact am_q140
          · by_cases h141_154 : y < 147
            · by_cases h141_147 : y < 144
              · by_cases h141_144 : y < 142
                · obtain rfl : y = 141 := by omega
                  rw [show am_cd 141 = am_k141 from rfl]
                  exact am_q141
                · by_cases h142_144 : y < 143
                  · obtain rfl : y = 142 := by omega
                    rw [show am_cd 142 = am_k142 from rfl]
                    exact am_q142
                  · obtain rfl : y = 143 := by omega
                    rw [show am_cd 143 = am_k143 from rfl]
                    exact am_q143
              · by_cases h144_147 : y < 145
                · obtain rfl : y = 144 := by omega
                  rw [show am_cd 144 = am_k144 from rfl]
                  exact am_q144
                · by_cases h145_147 : y < 146
                  · obtain rfl : y = 145 := by omega
                    rw [show am_cd 145 = am_k145 from rfl]
                    exact am_q145
                  · obtain rfl : y = 146 := by omega
                    rw [show am_cd 146 = am_k146 from rfl]
                    exact am_q146
            · by_cases h147_154 : y < 150
              · by_cases h147_150 : y < 148
                · obtain rfl : y = 147 := by omega
                  rw [show am_cd 147 = am_k147 from rfl]
                  exact am_q147
                · by_cases h148_150 : y < 149
                  · obtain rfl : y = 148 := by omega
                    rw [show am_cd 148 = am_k148 from rfl]
                    exact am_q148
                  · obtain rfl : y = 149 := by omega
                    rw [show am_cd 149 = am_k149 from rfl]
                    exact am_q149
              · by_cases h150_154 : y < 152
                · by_cases h150_152 : y < 151
                  · obtain rfl : y = 150 := by omega
                    rw [show am_cd 150 = am_k150 from rfl]
                    exact am_q150
                  · obtain rfl : y = 151 := by omega
                    rw [show am_cd 151 = am_k151 from rfl]
                    exact am_q151
                · by_cases h152_154 : y < 153
                  · obtain rfl : y = 152 := by omega
                    rw [show am_cd 152 = am_k152 from rfl]
                    exact am_q152
                  · obtain rfl : y = 153 := by omega
                    rw [show am_cd 153 = am_k153 from rfl]
                    exact am_q153
      · by_cases h154_206 : y < 180
        · by_cases h154_180 : y < 167
          · by_cases h154_167 : y < 160
            · by_cases h154_160 : y < 157
              · by_cases h154_157 : y < 155
                · obtain rfl : y = 154 := by omega
                  rw [show am_cd 154 = am_k154 from rfl]
                  exact am_q154
                · by_cases h155_157 : y < 156
                  · obtain rfl : y = 155 := by omega
                    rw [show am_cd 155 = am_k155 from rfl]
                    exact am_q155
                  · obtain rfl : y = 156 := by omega
                    rw [show am_cd 156 = am_k156 from rfl]
                    exact am_q156
              · by_cases h157_160 : y < 158
                · obtain rfl : y = 157 := by omega
                  rw [show am_cd 157 = am_k157 from rfl]
                  exact am_q157
                · by_cases h158_160 : y < 159
                  · obtain rfl : y = 158 := by omega
                    rw [show am_cd 158 = am_k158 from rfl]
                    exact am_q158
                  · obtain rfl : y = 159 := by omega
                    rw [show am_cd 159 = am_k159 from rfl]
                    exact am_q159
            · by_cases h160_167 : y < 163
              · by_cases h160_163 : y < 161
                · obtain rfl : y = 160 := by omega
                  rw [show am_cd 160 = am_k160 from rfl]
                  exact am_q160
                · by_cases h161_163 : y < 162
                  · obtain rfl : y = 161 := by omega
                    rw [show am_cd 161 = am_k161 from rfl]
                    exact am_q161
                  · obtain rfl : y = 162 := by omega
                    rw [show am_cd 162 = am_k162 from rfl]
                    exact am_q162
              · by_cases h163_167 : y < 165
                · by_cases h163_165 : y < 164
                  · obtain rfl : y = 163 := by omega
                    rw [show am_cd 163 = am_k163 from rfl]
                    exact am_q163
                  · obtain rfl : y = 164 := by omega
                    rw [show am_cd 164 = am_k164 from rfl]
                    exact am_q164
                · by_cases h165_167 : y < 166
                  · obtain rfl : y = 165 := by omega
                    rw [show am_cd 165 = am_k165 from rfl]
                    exact am_q165
                  · obtain rfl : y = 166 := by omega
                    rw [show am_cd 166 = am_k166 from rfl]
                    exact am_q166
          · by_cases h167_180 : y < 173
            · by_cases h167_173 : y < 170
              · by_cases h167_170 : y < 168
                · obtain rfl : y = 167 := by omega
                  rw [show am_cd 167 = am_k167 from rfl]
                  exact am_q167
                · by_cases h168_170 : y < 169
                  · obtain rfl : y = 168 := by omega
                    rw [show am_cd 168 = am_k168 from rfl]
                    exact am_q168
                  · obtain rfl : y = 169 := by omega
                    rw [show am_cd 169 = am_k169 from rfl]
                    exact am_q169
              · by_cases h170_173 : y < 171
                · obtain rfl : y = 170 := by omega
                  rw [show am_cd 170 = am_k170 from rfl]
                  exact am_q170
                · by_cases h171_173 : y < 172
                  · obtain rfl : y = 171 := by omega
                    rw [show am_cd 171 = am_k171 from rfl]
                    exact am_q171
                  · obtain rfl : y = 172 := by omega
                    rw [show am_cd 172 = am_k172 from rfl]
                    exact am_q172
            · by_cases h173_180 : y < 176
              · by_cases h173_176 : y < 174
                · obtain rfl : y = 173 := by omega
                  rw [show am_cd 173 = am_k173 from rfl]
                  exact am_q173
                · by_cases h174_176 : y < 175
                  · obtain rfl : y = 174 := by omega
                    rw [show am_cd 174 = am_k174 from rfl]
                    exact am_q174
                  · obtain rfl : y = 175 := by omega
                    rw [show am_cd 175 = am_k175 from rfl]
                    exact am_q175
              · by_cases h176_180 : y < 178
                · by_cases h176_178 : y < 177
                  · obtain rfl : y = 176 := by omega
                    rw [show am_cd 176 = am_k176 from rfl]
                    exact am_q176
                  · obtain rfl : y = 177 := by omega
                    rw [show am_cd 177 = am_k177 from rfl]
                    exact am_q177
                · by_cases h178_180 : y < 179
                  · obtain rfl : y = 178 := by omega
                    rw [show am_cd 178 = am_k178 from rfl]
                    exact am_q178
                  · obtain rfl : y = 179 := by omega
                    rw [show am_cd 179 = am_k179 from rfl]
                    exact am_q179
        · by_cases h180_206 : y < 193
          · by_cases h180_193 : y < 186
            · by_cases h180_186 : y < 183
              · by_cases h180_183 : y < 181
                · obtain rfl : y = 180 := by omega
                  rw [show am_cd 180 = am_k180 from rfl]
                  exact am_q180
                · by_cases h181_183 : y < 182
                  · obtain rfl : y = 181 := by omega
                    rw [show am_cd 181 = am_k181 from rfl]
                    exact am_q181
                  · obtain rfl : y = 182 := by omega
                    rw [show am_cd 182 = am_k182 from rfl]
                    exact am_q182
              · by_cases h183_186 : y < 184
                · obtain rfl : y = 183 := by omega
                  rw [show am_cd 183 = am_k183 from rfl]
                  exact am_q183
                · by_cases h184_186 : y < 185
                  · obtain rfl : y = 184 := by omega
                    rw [show am_cd 184 = am_k184 from rfl]
                    exact am_q184
                  · obtain rfl : y = 185 := by omega
                    rw [show am_cd 185 = am_k185 from rfl]
                    exact am_q185
            · by_cases h186_193 : y < 189
              · by_cases h186_189 : y < 187
                · obtain rfl : y = 186 := by omega
                  rw [show am_cd 186 = am_k186 from rfl]
                  exact am_q186
                · by_cases h187_189 : y < 188
                  · obtain rfl : y = 187 := by omega
                    rw [show am_cd 187 = am_k187 from rfl]
                    exact am_q187
                  · obtain rfl : y = 188 := by omega
                    rw [show am_cd 188 = am_k188 from rfl]
                    exact am_q188
              · by_cases h189_193 : y < 191
                · by_cases h189_191 : y < 190
                  · obtain rfl : y = 189 := by omega
                    rw [show am_cd 189 = am_k189 from rfl]
                    exact am_q189
                  · obtain rfl : y = 190 := by omega
                    rw [show am_cd 190 = am_k190 from rfl]
                    exact am_q190
                · by_cases h191_193 : y < 192
                  · obtain rfl : y = 191 := by omega
                    rw [show am_cd 191 = am_k191 from rfl]
                    exact am_q191
                  · obtain rfl : y = 192 := by omega
                    rw [show am_cd 192 = am_k192 from rfl]
                    exact am_q192
          · by_cases h193_206 : y < 199
            · by_cases h193_199 : y < 196
              · by_cases h193_196 : y < 194
                · obtain rfl : y = 193 := by omega
                  rw [show am_cd 193 = am_k193 from rfl]
                  exact am_q193
                · by_cases h194_196 : y < 195
                  · obtain rfl : y = 194 := by omega
                    rw [show am_cd 194 = am_k194 from rfl]
                    exact am_q194
                  · obtain rfl : y = 195 := by omega
                    rw [show am_cd 195 = am_k195 from rfl]
                    exact am_q195
              · by_cases h196_199 : y < 197
                · obtain rfl : y = 196 := by omega
                  rw [show am_cd 196 = am_k196 from rfl]
                  exact am_q196
                · by_cases h197_199 : y < 198
                  · obtain rfl : y = 197 := by omega
                    rw [show am_cd 197 = am_k197 from rfl]
                    exact am_q197
                  · obtain rfl : y = 198 := by omega
                    rw [show am_cd 198 = am_k198 from rfl]
                    exact am_q198
            · by_cases h199_206 : y < 202
              · by_cases h199_202 : y < 200
                · obtain rfl : y = 199 := by omega
                  rw [show am_cd 199 = am_k199 from rfl]
                  exact am_q199
                · by_cases h200_202 : y < 201
                  · obtain rfl : y = 200 := by omega
                    rw [show am_cd 200 = am_k200 from rfl]
                    exact am_q200
                  · obtain rfl : y = 201 := by omega
                    rw [show am_cd 201 = am_k201 from rfl]
                    exact am_q201
              · by_cases h202_206 : y < 204
                · by_cases h202_204 : y < 203
                  · obtain rfl : y = 202 := by omega
                    rw [show am_cd 202 = am_k202 from rfl]
                    exact am_q202
                  · obtain rfl : y = 203 := by omega
                    rw [show am_cd 203 = am_k203 from rfl]
                    exact am_q203
                · by_cases h204_206 : y < 205
                  · obtain rfl : y = 204 := by omega
                    rw [show am_cd 204 = am_k204 from rfl]
                    exact am_q204
                  · obtain rfl : y = 205 := by omega
                    rw [show am_cd 205 = am_k205 from rfl]
                    exact am_q205
  · by_cases h206_412 : y < 309
    · by_cases h206_309 : y < 257
      · by_cases h206_257 : y < 231
        · by_cases h206_231 : y < 218
          · by_cases h206_218 : y < 212
            · by_cases h206_212 : y < 209
              · by_cases h206_209 : y < 207
                · obtain rfl : y = 206 := by omega
                  rw [show am_cd 206 = am_k206 from rfl]
                  exact am_q206
                · by_cases h207_209 : y < 208
                  · obtain rfl : y = 207 := by omega
                    rw [show am_cd 207 = am_k207 from rfl]
                    exact am_q207
                  · obtain rfl : y = 208 := by omega
                    rw [show am_cd 208 = am_k208 from rfl]
                    exact am_q208
              · by_cases h209_212 : y < 210
                · obtain rfl : y = 209 := by omega
                  rw [show am_cd 209 = am_k209 from rfl]
                  exact am_q209
                · by_cases h210_212 : y < 211
                  · obtain rfl : y = 210 := by omega
                    rw [show am_cd 210 = am_k210 from rfl]
                    exact am_q210
                  · obtain rfl : y = 211 := by omega
                    rw [show am_cd 211 = am_k211 from rfl]
                    exact am_q211
            · by_cases h212_218 : y < 215
              · by_cases h212_215 : y < 213
                · obtain rfl : y = 212 := by omega
                  rw [show am_cd 212 = am_k212 from rfl]
                  exact am_q212
                · by_cases h213_215 : y < 214
                  · obtain rfl : y = 213 := by omega
                    rw [show am_cd 213 = am_k213 from rfl]
                    exact am_q213
                  · obtain rfl : y = 214 := by omega
                    rw [show am_cd 214 = am_k214 from rfl]
                    exact am_q214
              · by_cases h215_218 : y < 216
                · obtain rfl : y = 215 := by omega
                  rw [show am_cd 215 = am_k215 from rfl]
                  exact am_q215
                · by_cases h216_218 : y < 217
                  · obtain rfl : y = 216 := by omega
                    rw [show am_cd 216 = am_k216 from rfl]
                    exact am_q216
                  · obtain rfl : y = 217 := by omega
                    rw [show am_cd 217 = am_k217 from rfl]
                    exact am_q217
          · by_cases h218_231 : y < 224
            · by_cases h218_224 : y < 221
              · by_cases h218_221 : y < 219
                · obtain rfl : y = 218 := by omega
                  rw [show am_cd 218 = am_k218 from rfl]
                  exact am_q218
                · by_cases h219_221 : y < 220
                  · obtain rfl : y = 219 := by omega
                    rw [show am_cd 219 = am_k219 from rfl]
                    exact am_q219
                  · obtain rfl : y = 220 := by omega
                    rw [show am_cd 220 = am_k220 from rfl]
                    exact am_q220
              · by_cases h221_224 : y < 222
                · obtain rfl : y = 221 := by omega
                  rw [show am_cd 221 = am_k221 from rfl]
                  exact am_q221
                · by_cases h222_224 : y < 223
                  · obtain rfl : y = 222 := by omega
                    rw [show am_cd 222 = am_k222 from rfl]
                    exact am_q222
                  · obtain rfl : y = 223 := by omega
                    rw [show am_cd 223 = am_k223 from rfl]
                    exact am_q223
            · by_cases h224_231 : y < 227
              · by_cases h224_227 : y < 225
                · obtain rfl : y = 224 := by omega
                  rw [show am_cd 224 = am_k224 from rfl]
                  exact am_q224
                · by_cases h225_227 : y < 226
                  · obtain rfl : y = 225 := by omega
                    rw [show am_cd 225 = am_k225 from rfl]
                    exact am_q225
                  · obtain rfl : y = 226 := by omega
                    rw [show am_cd 226 = am_k226 from rfl]
                    exact am_q226
              · by_cases h227_231 : y < 229
                · by_cases h227_229 : y < 228
                  · obtain rfl : y = 227 := by omega
                    rw [show am_cd 227 = am_k227 from rfl]
                    exact am_q227
                  · obtain rfl : y = 228 := by omega
                    rw [show am_cd 228 = am_k228 from rfl]
                    exact am_q228
                · by_cases h229_231 : y < 230
                  · obtain rfl : y = 229 := by omega
                    rw [show am_cd 229 = am_k229 from rfl]
                    exact am_q229
                  · obtain rfl : y = 230 := by omega
                    rw [show am_cd 230 = am_k230 from rfl]
                    exact am_q230
        · by_cases h231_257 : y < 244
          · by_cases h231_244 : y < 237
            · by_cases h231_237 : y < 234
              · by_cases h231_234 : y < 232
                · obtain rfl : y = 231 := by omega
                  rw [show am_cd 231 = am_k231 from rfl]
                  exact am_q231
                · by_cases h232_234 : y < 233
                  · obtain rfl : y = 232 := by omega
                    rw [show am_cd 232 = am_k232 from rfl]
                    exact am_q232
                  · obtain rfl : y = 233 := by omega
                    rw [show am_cd 233 = am_k233 from rfl]
                    exact am_q233
              · by_cases h234_237 : y < 235
                · obtain rfl : y = 234 := by omega
                  rw [show am_cd 234 = am_k234 from rfl]
                  exact am_q234
                · by_cases h235_237 : y < 236
                  · obtain rfl : y = 235 := by omega
                    rw [show am_cd 235 = am_k235 from rfl]
                    exact am_q235
                  · obtain rfl : y = 236 := by omega
                    rw [show am_cd 236 = am_k236 from rfl]
                    exact am_q236
            · by_cases h237_244 : y < 240
              · by_cases h237_240 : y < 238
                · obtain rfl : y = 237 := by omega
                  rw [show am_cd 237 = am_k237 from rfl]
                  exact am_q237
                · by_cases h238_240 : y < 239
                  · obtain rfl : y = 238 := by omega
                    rw [show am_cd 238 = am_k238 from rfl]
                    exact am_q238
                  · obtain rfl : y = 239 := by omega
                    rw [show am_cd 239 = am_k239 from rfl]
                    exact am_q239
              · by_cases h240_244 : y < 242
                · by_cases h240_242 : y < 241
                  · obtain rfl : y = 240 := by omega
                    rw [show am_cd 240 = am_k240 from rfl]
                    exact am_q240
                  · obtain rfl : y = 241 := by omega
                    rw [show am_cd 241 = am_k241 from rfl]
                    exact am_q241
                · by_cases h242_244 : y < 243
                  · obtain rfl : y = 242 := by omega
                    rw [show am_cd 242 = am_k242 from rfl]
                    exact am_q242
                  · obtain rfl : y = 243 := by omega
                    rw [show am_cd 243 = am_k243 from rfl]
                    exact am_q243
          · by_cases h244_257 : y < 250
            · by_cases h244_250 : y < 247
              · by_cases h244_247 : y < 245
                · obtain rfl : y = 244 := by omega
                  rw [show am_cd 244 = am_k244 from rfl]
                  exact am_q244
                · by_cases h245_247 : y < 246
                  · obtain rfl : y = 245 := by omega
                    rw [show am_cd 245 = am_k245 from rfl]
                    exact am_q245
                  · obtain rfl : y = 246 := by omega
                    rw [show am_cd 246 = am_k246 from rfl]
                    exact am_q246
              · by_cases h247_250 : y < 248
                · obtain rfl : y = 247 := by omega
                  rw [show am_cd 247 = am_k247 from rfl]
                  exact am_q247
                · by_cases h248_250 : y < 249
                  · obtain rfl : y = 248 := by omega
                    rw [show am_cd 248 = am_k248 from rfl]
                    exact am_q248
                  · obtain rfl : y = 249 := by omega
                    rw [show am_cd 249 = am_k249 from rfl]
                    exact am_q249
            · by_cases h250_257 : y < 253
              · by_cases h250_253 : y < 251
                · obtain rfl : y = 250 := by omega
                  rw [show am_cd 250 = am_k250 from rfl]
                  exact am_q250
                · by_cases h251_253 : y < 252
                  · obtain rfl : y = 251 := by omega
                    rw [show am_cd 251 = am_k251 from rfl]
                    exact am_q251
                  · obtain rfl : y = 252 := by omega
                    rw [show am_cd 252 = am_k252 from rfl]
                    exact am_q252
              · by_cases h253_257 : y < 255
                · by_cases h253_255 : y < 254
                  · obtain rfl : y = 253 := by omega
                    rw [show am_cd 253 = am_k253 from rfl]
                    exact am_q253
                  · obtain rfl : y = 254 := by omega
                    rw [show am_cd 254 = am_k254 from rfl]
                    exact am_q254
                · by_cases h255_257 : y < 256
                  · obtain rfl : y = 255 := by omega
                    rw [show am_cd 255 = am_k255 from rfl]
                    exact am_q255
                  · obtain rfl : y = 256 := by omega
                    rw [show am_cd 256 = am_k256 from rfl]
                    exact am_q256
      · by_cases h257_309 : y < 283
        · by_cases h257_283 : y < 270
          · by_cases h257_270 : y < 263
            · by_cases h257_263 : y < 260
              · by_cases h257_260 : y < 258
                · obtain rfl : y = 257 := by omega
                  rw [show am_cd 257 = am_k257 from rfl]
                  exact am_q257
                · by_cases h258_260 : y < 259
                  · obtain rfl : y = 258 := by omega
                    rw [show am_cd 258 = am_k258 from rfl]
                    exact am_q258
                  · obtain rfl : y = 259 := by omega
                    rw [show am_cd 259 = am_k259 from rfl]
                    exact am_q259
              · by_cases h260_263 : y < 261
                · obtain rfl : y = 260 := by omega
                  rw [show am_cd 260 = am_k260 from rfl]
                  exact am_q260
                · by_cases h261_263 : y < 262
                  · obtain rfl : y = 261 := by omega
                    rw [show am_cd 261 = am_k261 from rfl]
                    exact am_q261
                  · obtain rfl : y = 262 := by omega
                    rw [show am_cd 262 = am_k262 from rfl]
                    exact am_q262
            · by_cases h263_270 : y < 266
              · by_cases h263_266 : y < 264
                · obtain rfl : y = 263 := by omega
                  rw [show am_cd 263 = am_k263 from rfl]
                  exact am_q263
                · by_cases h264_266 : y < 265
                  · obtain rfl : y = 264 := by omega
                    rw [show am_cd 264 = am_k264 from rfl]
                    exact am_q264
                  · obtain rfl : y = 265 := by omega
                    rw [show am_cd 265 = am_k265 from rfl]
                    exact am_q265
              · by_cases h266_270 : y < 268
                · by_cases h266_268 : y < 267
                  · obtain rfl : y = 266 := by omega
                    rw [show am_cd 266 = am_k266 from rfl]
                    exact am_q266
                  · obtain rfl : y = 267 := by omega
                    rw [show am_cd 267 = am_k267 from rfl]
                    exact am_q267
                · by_cases h268_270 : y < 269
                  · obtain rfl : y = 268 := by omega
                    rw [show am_cd 268 = am_k268 from rfl]
                    exact am_q268
                  · obtain rfl : y = 269 := by omega
                    rw [show am_cd 269 = am_k269 from rfl]
                    exact am_q269
          · by_cases h270_283 : y < 276
            · by_cases h270_276 : y < 273
              · by_cases h270_273 : y < 271
                · obtain rfl : y = 270 := by omega
                  rw [show am_cd 270 = am_k270 from rfl]
                  exact am_q270
                · by_cases h271_273 : y < 272
                  · obtain rfl : y = 271 := by omega
                    rw [show am_cd 271 = am_k271 from rfl]
                    exact am_q271
                  · obtain rfl : y = 272 := by omega
                    rw [show am_cd 272 = am_k272 from rfl]
                    exact am_q272
              · by_cases h273_276 : y < 274
                · obtain rfl : y = 273 := by omega
                  rw [show am_cd 273 = am_k273 from rfl]
                  exact am_q273
                · by_cases h274_276 : y < 275
                  · obtain rfl : y = 274 := by omega
                    rw [show am_cd 274 = am_k274 from rfl]
                    exact am_q274
                  · obtain rfl : y = 275 := by omega
                    rw [show am_cd 275 = am_k275 from rfl]
                    exact am_q275
            · by_cases h276_283 : y < 279
              · by_cases h276_279 : y < 277
                · obtain rfl : y = 276 := by omega
                  rw [show am_cd 276 = am_k276 from rfl]
                  exact am_q276
                · by_cases h277_279 : y < 278
                  · obtain rfl : y = 277 := by omega
                    rw [show am_cd 277 = am_k277 from rfl]
                    exact am_q277
                  · obtain rfl : y = 278 := by omega
                    rw [show am_cd 278 = am_k278 from rfl]
                    exact am_q278
              · by_cases h279_283 : y < 281
                · by_cases h279_281 : y < 280
                  · obtain rfl : y = 279 := by omega
                    rw [show am_cd 279 = am_k279 from rfl]
                    exact am_q279
                  · obtain rfl : y = 280 := by omega
                    rw [show am_cd 280 = am_k280 from rfl]
                    exact am_q280
                · by_cases h281_283 : y < 282
                  · obtain rfl : y = 281 := by omega
                    rw [show am_cd 281 = am_k281 from rfl]
                    exact am_q281
                  · obtain rfl : y = 282 := by omega
                    rw [show am_cd 282 = am_k282 from rfl]
                    exact am_q282
        · by_cases h283_309 : y < 296
          · by_cases h283_296 : y < 289
            · by_cases h283_289 : y < 286
              · by_cases h283_286 : y < 284
                · obtain rfl : y = 283 := by omega
                  rw [show am_cd 283 = am_k283 from rfl]
                  exact am_q283
                · by_cases h284_286 : y < 285
                  · obtain rfl : y = 284 := by omega
                    rw [show am_cd 284 = am_k284 from rfl]
                    exact am_q284
                  · obtain rfl : y = 285 := by omega
                    rw [show am_cd 285 = am_k285 from rfl]
                    exact am_q285
              · by_cases h286_289 : y < 287
                · obtain rfl : y = 286 := by omega
                  rw [show am_cd 286 = am_k286 from rfl]
                  exact am_q286
                · by_cases h287_289 : y < 288
                  · obtain rfl : y = 287 := by omega
                    rw [show am_cd 287 = am_k287 from rfl]
                    exact am_q287
                  · obtain rfl : y = 288 := by omega
                    rw [show am_cd 288 = am_k288 from rfl]
                    exact am_q288
            · by_cases h289_296 : y < 292
              · by_cases h289_292 : y < 290
                · obtain rfl : y = 289 := by omega
                  rw [show am_cd 289 = am_k289 from rfl]
                  exact am_q289
                · by_cases h290_292 : y < 291
                  · obtain rfl : y = 290 := by omega
                    rw [show am_cd 290 = am_k290 from rfl]
                    exact am_q290
                  · obtain rfl : y = 291 := by omega
                    rw [show am_cd 291 = am_k291 from rfl]
                    exact am_q291
              · by_cases h292_296 : y < 294
                · by_cases h292_294 : y < 293
                  · obtain rfl : y = 292 := by omega
                    rw [show am_cd 292 = am_k292 from rfl]
                    exact am_q292
                  · obtain rfl : y = 293 := by omega
                    rw [show am_cd 293 = am_k293 from rfl]
                    exact am_q293
                · by_cases h294_296 : y < 295
                  · obtain rfl : y = 294 := by omega
                    rw [show am_cd 294 = am_k294 from rfl]
                    exact am_q294
                  · obtain rfl : y = 295 := by omega
                    rw [show am_cd 295 = am_k295 from rfl]
                    exact am_q295
          · by_cases h296_309 : y < 302
            · by_cases h296_302 : y < 299
              · by_cases h296_299 : y < 297
                · obtain rfl : y = 296 := by omega
                  rw [show am_cd 296 = am_k296 from rfl]
                  exact am_q296
                · by_cases h297_299 : y < 298
                  · obtain rfl : y = 297 := by omega
                    rw [show am_cd 297 = am_k297 from rfl]
                    exact am_q297
                  · obtain rfl : y = 298 := by omega
                    rw [show am_cd 298 = am_k298 from rfl]
                    exact am_q298
              · by_cases h299_302 : y < 300
                · obtain rfl : y = 299 := by omega
                  rw [show am_cd 299 = am_k299 from rfl]
                  exact am_q299
                · by_cases h300_302 : y < 301
                  · obtain rfl : y = 300 := by omega
                    rw [show am_cd 300 = am_k300 from rfl]
                    exact am_q300
                  · obtain rfl : y = 301 := by omega
                    rw [show am_cd 301 = am_k301 from rfl]
                    exact am_q301
            · by_cases h302_309 : y < 305
              · by_cases h302_305 : y < 303
                · obtain rfl : y = 302 := by omega
                  rw [show am_cd 302 = am_k302 from rfl]
                  exact am_q302
                · by_cases h303_305 : y < 304
                  · obtain rfl : y = 303 := by omega
                    rw [show am_cd 303 = am_k303 from rfl]
                    exact am_q303
                  · obtain rfl : y = 304 := by omega
                    rw [show am_cd 304 = am_k304 from rfl]
                    exact am_q304
              · by_cases h305_309 : y < 307
                · by_cases h305_307 : y < 306
                  · obtain rfl : y = 305 := by omega
                    rw [show am_cd 305 = am_k305 from rfl]
                    exact am_q305
                  · obtain rfl : y = 306 := by omega
                    rw [show am_cd 306 = am_k306 from rfl]
                    exact am_q306
                · by_cases h307_309 : y < 308
                  · obtain rfl : y = 307 := by omega
                    rw [show am_cd 307 = am_k307 from rfl]
                    exact am_q307
                  · obtain rfl : y = 308 := by omega
                    rw [show am_cd 308 = am_k308 from rfl]
                    exact am_q308
    · by_cases h309_412 : y < 360
      · by_cases h309_360 : y < 334
        · by_cases h309_334 : y < 321
          · by_cases h309_321 : y < 315
            · by_cases h309_315 : y < 312
              · by_cases h309_312 : y < 310
                · obtain rfl : y = 309 := by omega
                  rw [show am_cd 309 = am_k309 from rfl]
                  exact am_q309
                · by_cases h310_312 : y < 311
                  · obtain rfl : y = 310 := by omega
                    rw [show am_cd 310 = am_k310 from rfl]
                    exact am_q310
                  · obtain rfl : y = 311 := by omega
                    rw [show am_cd 311 = am_k311 from rfl]
                    exact am_q311
              · by_cases h312_315 : y < 313
                · obtain rfl : y = 312 := by omega
                  rw [show am_cd 312 = am_k312 from rfl]
                  exact am_q312
                · by_cases h313_315 : y < 314
                  · obtain rfl : y = 313 := by omega
                    rw [show am_cd 313 = am_k313 from rfl]
                    exact am_q313
                  · obtain rfl : y = 314 := by omega
                    rw [show am_cd 314 = am_k314 from rfl]
                    exact am_q314
            · by_cases h315_321 : y < 318
              · by_cases h315_318 : y < 316
                · obtain rfl : y = 315 := by omega
                  rw [show am_cd 315 = am_k315 from rfl]
                  exact am_q315
                · by_cases h316_318 : y < 317
                  · obtain rfl : y = 316 := by omega
                    rw [show am_cd 316 = am_k316 from rfl]
                    exact am_q316
                  · obtain rfl : y = 317 := by omega
                    rw [show am_cd 317 = am_k317 from rfl]
                    exact am_q317
              · by_cases h318_321 : y < 319
                · obtain rfl : y = 318 := by omega
                  rw [show am_cd 318 = am_k318 from rfl]
                  exact am_q318
                · by_cases h319_321 : y < 320
                  · obtain rfl : y = 319 := by omega
                    rw [show am_cd 319 = am_k319 from rfl]
                    exact am_q319
                  · obtain rfl : y = 320 := by omega
                    rw [show am_cd 320 = am_k320 from rfl]
                    exact am_q320
          · by_cases h321_334 : y < 327
            · by_cases h321_327 : y < 324
              · by_cases h321_324 : y < 322
                · obtain rfl : y = 321 := by omega
                  rw [show am_cd 321 = am_k321 from rfl]
                  exact am_q321
                · by_cases h322_324 : y < 323
                  · obtain rfl : y = 322 := by omega
                    rw [show am_cd 322 = am_k322 from rfl]
                    exact am_q322
                  · obtain rfl : y = 323 := by omega
                    rw [show am_cd 323 = am_k323 from rfl]
                    exact am_q323
              · by_cases h324_327 : y < 325
                · obtain rfl : y = 324 := by omega
                  rw [show am_cd 324 = am_k324 from rfl]
                  exact am_q324
                · by_cases h325_327 : y < 326
                  · obtain rfl : y = 325 := by omega
                    rw [show am_cd 325 = am_k325 from rfl]
                    exact am_q325
                  · obtain rfl : y = 326 := by omega
                    rw [show am_cd 326 = am_k326 from rfl]
                    exact am_q326
            · by_cases h327_334 : y < 330
              · by_cases h327_330 : y < 328
                · obtain rfl : y = 327 := by omega
                  rw [show am_cd 327 = am_k327 from rfl]
                  exact am_q327
                · by_cases h328_330 : y < 329
                  · obtain rfl : y = 328 := by omega
                    rw [show am_cd 328 = am_k328 from rfl]
                    exact am_q328
                  · obtain rfl : y = 329 := by omega
                    rw [show am_cd 329 = am_k329 from rfl]
                    exact am_q329
              · by_cases h330_334 : y < 332
                · by_cases h330_332 : y < 331
                  · obtain rfl : y = 330 := by omega
                    rw [show am_cd 330 = am_k330 from rfl]
                    exact am_q330
                  · obtain rfl : y = 331 := by omega
                    rw [show am_cd 331 = am_k331 from rfl]
                    exact am_q331
                · by_cases h332_334 : y < 333
                  · obtain rfl : y = 332 := by omega
                    rw [show am_cd 332 = am_k332 from rfl]
                    exact am_q332
                  · obtain rfl : y = 333 := by omega
                    rw [show am_cd 333 = am_k333 from rfl]
                    exact am_q333
        · by_cases h334_360 : y < 347
          · by_cases h334_347 : y < 340
            · by_cases h334_340 : y < 337
              · by_cases h334_337 : y < 335
                · obtain rfl : y = 334 := by omega
                  rw [show am_cd 334 = am_k334 from rfl]
                  exact am_q334
                · by_cases h335_337 : y < 336
                  · obtain rfl : y = 335 := by omega
                    rw [show am_cd 335 = am_k335 from rfl]
                    exact am_q335
                  · obtain rfl : y = 336 := by omega
                    rw [show am_cd 336 = am_k336 from rfl]
                    exact am_q336
              · by_cases h337_340 : y < 338
                · obtain rfl : y = 337 := by omega
                  rw [show am_cd 337 = am_k337 from rfl]
                  exact am_q337
                · by_cases h338_340 : y < 339
                  · obtain rfl : y = 338 := by omega
                    rw [show am_cd 338 = am_k338 from rfl]
                    exact am_q338
                  · obtain rfl : y = 339 := by omega
                    rw [show am_cd 339 = am_k339 from rfl]
                    exact am_q339
            · by_cases h340_347 : y < 343
              · by_cases h340_343 : y < 341
                · obtain rfl : y = 340 := by omega
                  rw [show am_cd 340 = am_k340 from rfl]
                  exact am_q340
                · by_cases h341_343 : y < 342
                  · obtain rfl : y = 341 := by omega
                    rw [show am_cd 341 = am_k341 from rfl]
                    exact am_q341
                  · obtain rfl : y = 342 := by omega
                    rw [show am_cd 342 = am_k342 from rfl]
                    exact am_q342
              · by_cases h343_347 : y < 345
                · by_cases h343_345 : y < 344
                  · obtain rfl : y = 343 := by omega
                    rw [show am_cd 343 = am_k343 from rfl]
                    exact am_q343
                  · obtain rfl : y = 344 := by omega
                    rw [show am_cd 344 = am_k344 from rfl]
                    exact am_q344
                · by_cases h345_347 : y < 346
                  · obtain rfl : y = 345 := by omega
                    rw [show am_cd 345 = am_k345 from rfl]
                    exact am_q345
                  · obtain rfl : y = 346 := by omega
                    rw [show am_cd 346 = am_k346 from rfl]
                    exact am_q346
          · by_cases h347_360 : y < 353
            · by_cases h347_353 : y < 350
              · by_cases h347_350 : y < 348
                · obtain rfl : y = 347 := by omega
                  rw [show am_cd 347 = am_k347 from rfl]
                  exact am_q347
                · by_cases h348_350 : y < 349
                  · obtain rfl : y = 348 := by omega
                    rw [show am_cd 348 = am_k348 from rfl]
                    exact am_q348
                  · obtain rfl : y = 349 := by omega
                    rw [show am_cd 349 = am_k349 from rfl]
                    exact am_q349
              · by_cases h350_353 : y < 351
                · obtain rfl : y = 350 := by omega
                  rw [show am_cd 350 = am_k350 from rfl]
                  exact am_q350
                · by_cases h351_353 : y < 352
                  · obtain rfl : y = 351 := by omega
                    rw [show am_cd 351 = am_k351 from rfl]
                    exact am_q351
                  · obtain rfl : y = 352 := by omega
                    rw [show am_cd 352 = am_k352 from rfl]
                    exact am_q352
            · by_cases h353_360 : y < 356
              · by_cases h353_356 : y < 354
                · obtain rfl : y = 353 := by omega
                  rw [show am_cd 353 = am_k353 from rfl]
                  exact am_q353
                · by_cases h354_356 : y < 355
                  · obtain rfl : y = 354 := by omega
                    rw [show am_cd 354 = am_k354 from rfl]
                    exact am_q354
                  · obtain rfl : y = 355 := by omega
                    rw [show am_cd 355 = am_k355 from rfl]
                    exact am_q355
              · by_cases h356_360 : y < 358
                · by_cases h356_358 : y < 357
                  · obtain rfl : y = 356 := by omega
                    rw [show am_cd 356 = am_k356 from rfl]
                    exact am_q356
                  · obtain rfl : y = 357 := by omega
                    rw [show am_cd 357 = am_k357 from rfl]
                    exact am_q357
                · by_cases h358_360 : y < 359
                  · obtain rfl : y = 358 := by omega
                    rw [show am_cd 358 = am_k358 from rfl]
                    exact am_q358
                  · obtain rfl : y = 359 := by omega
                    rw [show am_cd 359 = am_k359 from rfl]
                    exact am_q359
      · by_cases h360_412 : y < 386
        · by_cases h360_386 : y < 373
          · by_cases h360_373 : y < 366
            · by_cases h360_366 : y < 363
              · by_cases h360_363 : y < 361
                · obtain rfl : y = 360 := by omega
                  rw [show am_cd 360 = am_k360 from rfl]
                  exact am_q360
                · by_cases h361_363 : y < 362
                  · obtain rfl : y = 361 := by omega
                    rw [show am_cd 361 = am_k361 from rfl]
                    exact am_q361
                  · obtain rfl : y = 362 := by omega
                    rw [show am_cd 362 = am_k362 from rfl]
                    exact am_q362
              · by_cases h363_366 : y < 364
                · obtain rfl : y = 363 := by omega
                  rw [show am_cd 363 = am_k363 from rfl]
                  exact am_q363
                · by_cases h364_366 : y < 365
                  · obtain rfl : y = 364 := by omega
                    rw [show am_cd 364 = am_k364 from rfl]
                    exact am_q364
                  · obtain rfl : y = 365 := by omega
                    rw [show am_cd 365 = am_k365 from rfl]
                    exact am_q365
            · by_cases h366_373 : y < 369
              · by_cases h366_369 : y < 367
                · obtain rfl : y = 366 := by omega
                  rw [show am_cd 366 = am_k366 from rfl]
                  exact am_q366
                · by_cases h367_369 : y < 368
                  · obtain rfl : y = 367 := by omega
                    rw [show am_cd 367 = am_k367 from rfl]
                    exact am_q367
                  · obtain rfl : y = 368 := by omega
                    rw [show am_cd 368 = am_k368 from rfl]
                    exact am_q368
              · by_cases h369_373 : y < 371
                · by_cases h369_371 : y < 370
                  · obtain rfl : y = 369 := by omega
                    rw [show am_cd 369 = am_k369 from rfl]
                    exact am_q369
                  · obtain rfl : y = 370 := by omega
                    rw [show am_cd 370 = am_k370 from rfl]
                    exact am_q370
                · by_cases h371_373 : y < 372
                  · obtain rfl : y = 371 := by omega
                    rw [show am_cd 371 = am_k371 from rfl]
                    exact am_q371
                  · obtain rfl : y = 372 := by omega
                    rw [show am_cd 372 = am_k372 from rfl]
                    exact am_q372
          · by_cases h373_386 : y < 379
            · by_cases h373_379 : y < 376
              · by_cases h373_376 : y < 374
                · obtain rfl : y = 373 := by omega
                  rw [show am_cd 373 = am_k373 from rfl]
                  exact am_q373
                · by_cases h374_376 : y < 375
                  · obtain rfl : y = 374 := by omega
                    rw [show am_cd 374 = am_k374 from rfl]
                    exact am_q374
                  · obtain rfl : y = 375 := by omega
                    rw [show am_cd 375 = am_k375 from rfl]
                    exact am_q375
              · by_cases h376_379 : y < 377
                · obtain rfl : y = 376 := by omega
                  rw [show am_cd 376 = am_k376 from rfl]
                  exact am_q376
                · by_cases h377_379 : y < 378
                  · obtain rfl : y = 377 := by omega
                    rw [show am_cd 377 = am_k377 from rfl]
                    exact am_q377
                  · obtain rfl : y = 378 := by omega
                    rw [show am_cd 378 = am_k378 from rfl]
                    exact am_q378
            · by_cases h379_386 : y < 382
              · by_cases h379_382 : y < 380
                · obtain rfl : y = 379 := by omega
                  rw [show am_cd 379 = am_k379 from rfl]
                  exact am_q379
                · by_cases h380_382 : y < 381
                  · obtain rfl : y = 380 := by omega
                    rw [show am_cd 380 = am_k380 from rfl]
                    exact am_q380
                  · obtain rfl : y = 381 := by omega
                    rw [show am_cd 381 = am_k381 from rfl]
                    exact am_q381
              · by_cases h382_386 : y < 384
                · by_cases h382_384 : y < 383
                  · obtain rfl : y = 382 := by omega
                    rw [show am_cd 382 = am_k382 from rfl]
                    exact am_q382
                  · obtain rfl : y = 383 := by omega
                    rw [show am_cd 383 = am_k383 from rfl]
                    exact am_q383
                · by_cases h384_386 : y < 385
                  · obtain rfl : y = 384 := by omega
                    rw [show am_cd 384 = am_k384 from rfl]
                    exact am_q384
                  · obtain rfl : y = 385 := by omega
                    rw [show am_cd 385 = am_k385 from rfl]
                    exact am_q385
        · by_cases h386_412 : y < 399
          · by_cases h386_399 : y < 392
            · by_cases h386_392 : y < 389
              · by_cases h386_389 : y < 387
                · obtain rfl : y = 386 := by omega
                  rw [show am_cd 386 = am_k386 from rfl]
                  exact am_q386
                · by_cases h387_389 : y < 388
                  · obtain rfl : y = 387 := by omega
                    rw [show am_cd 387 = am_k387 from rfl]
                    exact am_q387
                  · obtain rfl : y = 388 := by omega
                    rw [show am_cd 388 = am_k388 from rfl]
                    exact am_q388
              · by_cases h389_392 : y < 390
                · obtain rfl : y = 389 := by omega
                  rw [show am_cd 389 = am_k389 from rfl]
                  exact am_q389
                · by_cases h390_392 : y < 391
                  · obtain rfl : y = 390 := by omega
                    rw [show am_cd 390 = am_k390 from rfl]
                    exact am_q390
                  · obtain rfl : y = 391 := by omega
                    rw [show am_cd 391 = am_k391 from rfl]
                    exact am_q391
            · by_cases h392_399 : y < 395
              · by_cases h392_395 : y < 393
                · obtain rfl : y = 392 := by omega
                  rw [show am_cd 392 = am_k392 from rfl]
                  exact am_q392
                · by_cases h393_395 : y < 394
                  · obtain rfl : y = 393 := by omega
                    rw [show am_cd 393 = am_k393 from rfl]
                    exact am_q393
                  · obtain rfl : y = 394 := by omega
                    rw [show am_cd 394 = am_k394 from rfl]
                    exact am_q394
              · by_cases h395_399 : y < 397
                · by_cases h395_397 : y < 396
                  · obtain rfl : y = 395 := by omega
                    rw [show am_cd 395 = am_k395 from rfl]
                    exact am_q395
                  · obtain rfl : y = 396 := by omega
                    rw [show am_cd 396 = am_k396 from rfl]
                    exact am_q396
                · by_cases h397_399 : y < 398
                  · obtain rfl : y = 397 := by omega
                    rw [show am_cd 397 = am_k397 from rfl]
                    exact am_q397
                  · obtain rfl : y = 398 := by omega
                    rw [show am_cd 398 = am_k398 from rfl]
                    exact am_q398
          · by_cases h399_412 : y < 405
            · by_cases h399_405 : y < 402
              · by_cases h399_402 : y < 400
                · obtain rfl : y = 399 := by omega
                  rw [show am_cd 399 = am_k399 from rfl]
                  exact am_q399
                · by_cases h400_402 : y < 401
                  · obtain rfl : y = 400 := by omega
                    rw [show am_cd 400 = am_k400 from rfl]
                    exact am_q400
                  · obtain rfl : y = 401 := by omega
                    rw [show am_cd 401 = am_k401 from rfl]
                    exact am_q401
              · by_cases h402_405 : y < 403
                · obtain rfl : y = 402 := by omega
                  rw [show am_cd 402 = am_k402 from rfl]
                  exact am_q402
                · by_cases h403_405 : y < 404
                  · obtain rfl : y = 403 := by omega
                    rw [show am_cd 403 = am_k403 from rfl]
                    exact am_q403
                  · obtain rfl : y = 404 := by omega
                    rw [show am_cd 404 = am_k404 from rfl]
                    exact am_q404
            · by_cases h405_412 : y < 408
              · by_cases h405_408 : y < 406
                · obtain rfl : y = 405 := by omega
                  rw [show am_cd 405 = am_k405 from rfl]
                  exact am_q405
                · by_cases h406_408 : y < 407
                  · obtain rfl : y = 406 := by omega
                    rw [show am_cd 406 = am_k406 from rfl]
                    exact am_q406
                  · obtain rfl : y = 407 := by omega
                    rw [show am_cd 407 = am_k407 from rfl]
                    exact am_q407
              · by_cases h408_412 : y < 410
                · by_cases h408_410 : y < 409
                  · obtain rfl : y = 408 := by omega
                    rw [show am_cd 408 = am_k408 from rfl]
                    exact am_q408
                  · obtain rfl : y = 409 := by omega
                    rw [show am_cd 409 = am_k409 from rfl]
                    exact am_q409
                · by_cases h410_412 : y < 411
                  · obtain rfl : y = 410 := by omega
                    rw [show am_cd 410 = am_k410 from rfl]
                    exact am_q410
                  · obtain rfl : y = 411 := by omega
                    rw [show am_cd 411 = am_k411 from rfl]
                    exact am_q411
theorem am_sl_len : ∀ as : List Value, (lg_sl as).length = (am_sl as).length := by
  intro as
  induction as with
  | nil => rfl
  | cons v r ih =>
    show (lg_sl (v :: r)).length = (some v :: (bif am_c2 (some v) then none :: am_sl r else am_sl r)).length
    unfold lg_sl at ih ⊢
    rw [List.flatMap_cons, List.length_append, ih]
    cases hc : am_c2 (some v) with
    | true =>
      rw [if_pos ((am_c2_iff v).mp hc)]
      simp [cond]
      omega
    | false =>
      rw [if_neg (fun z => by rw [(am_c2_iff v).mpr z] at hc; cases hc)]
      simp [cond]
      omega
theorem am_hd_no {y : Nat} (hy : y < 411) (hh : am_hh y = []) (pc j : Nat) : am_hd y pc j = none := by
  cases h : am_hd y pc j with
  | none => rfl
  | some v =>
    obtain ⟨q, h1, h2, -, -⟩ := am_hg_I _ h
    have h3 := List.all_eq_true.mp am_hno y (List.mem_range.mpr hy)
    rw [hh] at h3
    have h4 := List.all_eq_true.mp (show am_hdL.all (fun q => !(q.1.beq y)) = true from h3) q h1
    rw [h2] at h4
    have h5 : y.beq y = true := Nat.beq_refl y
    rw [h5] at h4
    cases h4
theorem am_body {p : Program} {l : Launch} {e : Env} {s s₁ : State} {mt : MethodId} {args : Array Value} {below : List Frame} {meth : Method} {c : Code} {E : am_E} {d y n : Nat} {as : List Value} {m : am_M} {r : am_R}
    (hst : l.stackTraces = false) (ih : am_Con l E d (am_ca E.2.2.2.1 E.2.2.2.2.1 d)) (hy : y < 411) (hm : gc_ m ≤ gc_ r.2 ∧ gs_ m ≤ gs_ r.2) (hlen : (am_sl as).length ≤ am_ml y) (hn : am_ex E.2.2.2.1 E.2.2.2.2.1 (am_ca E.2.2.2.1 E.2.2.2.2.1 d) (am_hd y) (am_cd y) n 0 (am_en (am_ml y) as) [] m = some r)
    (B : BodyLoose p l (am_mn y) (headSpec (am_ws y) (am_rm (d + 1) (gc_ r.2 - gc_ m) (gs_ r.2 - gs_ m))) (am_mb y) (am_ml y) (am_mr y) e s mt args below meth c s₁) (hml : c.maxLocals = am_ml y) (hv : am_Pc E as m args s) (hthr : (am_hh y).isEmpty = true → ∀ x ∈ c.exceptionTable.toList, False)
    (hX9 : ∀ R, am_Cx p l R s mt args meth c (am_mb y) (am_ml y) (am_mo y) E m r → ∀ (pc j : Nat) (m1 : am_M) (L : am_L) (rest : List Value) (q : Addr) (ce : Cell) (H : Heap) (locs : List Loc) (cells slots : Nat) (ls : Array Slot), am_xc (am_hd y) pc j m1 = some r → am_LH ls (am_ml y) L → am_Pt E s H locs cells slots m m1 → H[q]? = some ce → ce.vm = .none → s.vm.findClass (am_xn j) = some ce.cls →
      vx_W p l e R s mt args below meth c H locs cells slots (vx_MQ below (am_Qc E r) (am_XC E r) args s (gc_ r.2 - gc_ m) (gs_ r.2 - gs_ m) (am_A E)) (F0 mt pc ls rest) q) :
    W p l e (headSpec (am_ws y) (am_rm (d + 1) (gc_ r.2 - gc_ m) (gs_ r.2 - gs_ m))).room s mt args below meth c s.heap [] 0 0 (vx_MQ below (am_Qc E r) (am_XC E r) args s (gc_ r.2 - gc_ m) (gs_ r.2 - gs_ m) (am_A E)) (entryFrame mt args (am_ml y)) := by
  obtain ⟨rfl, hR, hK⟩ := hv
  obtain ⟨f1, f2, f3, f4, f5⟩ := am_fa hy
  have hq := am_qk y (by omega)
  rw [Bool.and_eq_true] at hq
  have hts0 := atoms_spec (ws := am_ws y) B.pre
  have hown : s.vm.findClass (am_mn y).cls = some mt.cls := findClass_of_methodNamed B.named
  rw [f4] at hown
  have hin : meth.name = (am_mn y).name := (name_of_methodNamed B.named B.method).1
  obtain ⟨hm1, hm2⟩ := hm
  have X : am_Cx p l (headSpec (am_ws y) (am_rm (d + 1) (gc_ r.2 - gc_ m) (gs_ r.2 - gs_ m))).room s mt as.toArray meth c (am_mb y) (am_ml y) (am_mo y) E m r :=
    ⟨B.exec, B.bytes, hml, hown, fun w hw => hts0 w (List.mem_cons_of_mem _ hw), B.notSynchronized, hst, hK, hR.2.2.1, ⟨by show _ ≤ gc_ m + (gc_ r.2 - gc_ m); omega, by show _ ≤ gs_ m + (gs_ r.2 - gs_ m); omega⟩, by show 12 ≤ 12 + (d + 1); omega, by show 220 ≤ 220 + 40 * (d + 1); omega⟩
  have hl := lv_entry as (n := am_ml y) (by rw [am_sl_len]; exact hlen)
  rw [lg_entry_eq]
  generalize (lg_sl as ++ List.replicate (am_ml y - (lg_sl as).length) Slot.unset).toArray = ls at hl ⊢
  exact am_ex_ok X B.returns (fun z => by rw [hin]; exact beq_iff_eq.mp z) hthr ih (am_ca_m _ _ d) (by show 13 + d ≤ 12 + (d + 1); omega) (by show 260 + 40 * d ≤ 220 + 40 * (d + 1); omega) (hX9 _ X) (am_cd y) hq.2 (List.all_eq_true.mp hq.1) n 0 _ _ m s.heap [] 0 0 ls hn (am_en_ok hl) ⟨hR, va_S.rf, rfl, rfl⟩
theorem am_sound (l : Launch) (hst : l.stackTraces = false) (E : am_E) : ∀ d, am_Con l E d (am_ca E.2.2.2.1 E.2.2.2.2.1 d) := by
  intro d
  induction d with
  | zero => exact fun y as m r _ h => nomatch h
  | succ d ih =>
    intro y as m r hy h
    obtain ⟨hlen, hrn, hnx⟩ := am_ca_I h
    obtain ⟨n, hn⟩ := am_rn_some _ _ _ _ _ hrn
    have hm := am_ca_m _ _ (d + 1) y as m r h
    obtain ⟨f1, f2, f3, f4, f5⟩ := am_fa hy
    by_cases hh : am_hh y = []
    · refine vx_ofW (cc := am_mb y) (maxL := am_ml y) (ret := am_mr y) f5 (show am_cw y :: am_GW = _ by rw [am_cwc hh]) ?_
      intro p e s mt args below meth c s₁ B hml hex hv
      refine am_body hst ih hy hm hlen hn B hml hv (fun _ => hex) ?_
      intro R X pc j m1 L rest q ce H locs cells slots ls hxc hL hP hce hcv hcl
      unfold am_xc at hxc
      rw [am_hd_no hy hh] at hxc
      have hxc : some ((.inr j, m1) : am_R) = some r := hxc
      cases hxc
      have hp1 := hP.2.2.1
      have hp2 := hP.2.2.2
      exact vx_out (fun x hx => (hex x hx).elim) B.notSynchronized hce hcv hcl (fun t ht hW => ⟨⟨j, rfl, rfl⟩, by rw [ht]; exact hP.1, hP.2.1.F ht⟩) hP.2.1.2.2 (by show cells ≤ gc_ m1 - gc_ m; omega) (by show slots ≤ gs_ m1 - gs_ m; omega)
    · obtain ⟨v, hv0⟩ := hnx (by cases hz : am_hh y with | nil => exact absurd hz hh | cons a b => rfl)
      refine vx_ofWH (cc := am_mb y) (maxL := am_ml y) (ret := am_mr y) (hh := am_hh y) f5 (show am_cw y :: am_GW = _ by rw [am_cww hh]) ?_
      intro p e s mt args below meth c s₁ B hml hv
      refine am_body hst ih hy hm hlen hn B hml hv (fun z => absurd (List.isEmpty_iff.mp z) hh) ?_
      intro R X pc j m1 L rest q ce H locs cells slots ls hxc hL hP hce hcv hcl
      have htab : c.exceptionTable.toList = tableOf (am_hh y) := vx_table (x := am_mn y) B (by rw [← am_cww hh]; exact atoms_spec (ws := am_ws y) B.pre _ List.mem_cons_self)
      unfold am_xc at hxc
      cases hd : am_hd y pc j with
      | none =>
        rw [hd] at hxc
        have hxc : some ((.inr j, m1) : am_R) = some r := hxc
        cases hxc
        cases hv0
      | some w =>
        rw [hd] at hxc
        have hxc : some ((.inl (some (.int w)), m1) : am_R) = some r := hxc
        obtain ⟨qq, h1, h2, h3, h4⟩ := am_hg_I _ hd
        have h5 := List.all_eq_true.mp am_hck_ok qq h1
        rw [am_hck, Bool.and_eq_true, Bool.and_eq_true, h2, h3] at h5
        obtain ⟨⟨h6, h7⟩, h8⟩ := h5
        have hmo := Nat.eq_of_beq_eq_true h6
        have hri := of_decide_eq_true h7
        split at h8
        · next x1 z1 e1 e2 =>
          rw [e2] at h4
          have h4 : (bif z1.1.beq j then some z1.2 else none) = some w := h4
          obtain ⟨g1, g2⟩ := am_bif h4
          cases g2
          have g1 := Nat.eq_of_beq_eq_true g1
          subst g1
          exact am_hand X B.returns hmo hri h8 (pre := []) (suf := []) (by rw [htab, e1]; rfl) (fun z hz => nomatch hz) (Option.some.inj hxc).symm hL hP hce hcv hcl
        · next x1 x2 z1 z2 e1 e2 =>
          simp only [Bool.and_eq_true] at h8
          obtain ⟨⟨⟨g5, g6⟩, g7⟩, g8⟩ := h8
          have g7 := Nat.eq_of_beq_eq_true g7
          have g8 := Nat.eq_of_beq_eq_true g8
          rw [e2] at h4
          have h4 : (bif z1.1.beq j then some z1.2 else bif z2.1.beq j then some z2.2 else none) = some w := h4
          cases hb : z1.1.beq j with
          | true =>
            rw [hb] at h4
            cases h4
            have g1 := Nat.eq_of_beq_eq_true hb
            rw [← g1] at hcl
            exact am_hand X B.returns hmo hri g5 (pre := []) (suf := [⟨x2.1, x2.2.1, x2.2.2.1, x2.2.2.2⟩]) (by rw [htab, e1]; rfl) (fun z hz => nomatch hz) (Option.some.inj hxc).symm hL hP hce hcv hcl
          | false =>
            rw [hb] at h4
            obtain ⟨g1, g2⟩ := am_bif (show (bif z2.1.beq j then some z2.2 else none) = some w from h4)
            cases g2
            have g1 := Nat.eq_of_beq_eq_true g1
            rw [← g1] at hcl
            refine am_hand X B.returns hmo hri g6 (pre := [⟨x1.1, x1.2.1, x1.2.2.1, x1.2.2.2⟩]) (suf := []) (by rw [htab, e1]; rfl) (fun z hz => ?_) (Option.some.inj hxc).symm hL hP hce hcv hcl
            rw [List.mem_singleton.mp hz]
            have g9 := g5
            simp only [am_h1, Bool.and_eq_true, decide_eq_true_eq] at g9
            obtain ⟨⟨⟨⟨a1, a2⟩, a3⟩, a4⟩, a5⟩ := g9
            have hts := X.2.2.2.2.1
            refine Or.inr ⟨a2, am_xn z1.1, by rw [hmo]; exact hts _ (am_xl_in a3), ?_⟩
            rw [g7, g8]
            exact X.2.2.2.2.2.2.2.1.2.2.2.2.1
        · cases h8
