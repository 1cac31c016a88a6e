theorem am_HW : ∀ w ∈ wsL_law0, w ∈ lw_tbl := fun w hw => (wg_all w hw).1
theorem am_HC : ∀ a, a < 304 → am_chk a = true := by
  intro a ha
  rcases Nat.lt_or_ge a 152 with h152 | h152
  · rcases Nat.lt_or_ge a 76 with h76 | h76
    · rcases Nat.lt_or_ge a 38 with h38 | h38
      · rcases Nat.lt_or_ge a 19 with h19 | h19
        · rcases Nat.lt_or_ge a 9 with h9 | h9
          · rcases Nat.lt_or_ge a 4 with h4 | h4
            · rcases Nat.lt_or_ge a 2 with h2 | h2
              · rcases Nat.lt_or_ge a 1 with h1 | h1
                · have e : a = 0 := by omega
                  rw [e]; exact ck_0
                · have e : a = 1 := by omega
                  rw [e]; exact ck_1
              · rcases Nat.lt_or_ge a 3 with h3 | h3
                · have e : a = 2 := by omega
                  rw [e]; exact ck_2
                · have e : a = 3 := by omega
                  rw [e]; exact ck_3
            · rcases Nat.lt_or_ge a 6 with h6 | h6
              · rcases Nat.lt_or_ge a 5 with h5 | h5
                · have e : a = 4 := by omega
                  rw [e]; exact ck_4
                · have e : a = 5 := by omega
                  rw [e]; exact ck_5
              · rcases Nat.lt_or_ge a 7 with h7 | h7
                · have e : a = 6 := by omega
                  rw [e]; exact ck_6
                · rcases Nat.lt_or_ge a 8 with h8 | h8
                  · have e : a = 7 := by omega
                    rw [e]; exact ck_7
                  · have e : a = 8 := by omega
                    rw [e]; exact ck_8
          · rcases Nat.lt_or_ge a 14 with h14 | h14
            · rcases Nat.lt_or_ge a 11 with h11 | h11
              · rcases Nat.lt_or_ge a 10 with h10 | h10
                · have e : a = 9 := by omega
                  rw [e]; exact ck_9
                · have e : a = 10 := by omega
                  rw [e]; exact ck_10
              · rcases Nat.lt_or_ge a 12 with h12 | h12
                · have e : a = 11 := by omega
                  rw [e]; exact ck_11
                · rcases Nat.lt_or_ge a 13 with h13 | h13
                  · have e : a = 12 := by omega
                    rw [e]; exact ck_12
                  · have e : a = 13 := by omega
                    rw [e]; exact ck_13
            · rcases Nat.lt_or_ge a 16 with h16 | h16
              · rcases Nat.lt_or_ge a 15 with h15 | h15
                · have e : a = 14 := by omega
                  rw [e]; exact ck_14
                · have e : a = 15 := by omega
                  rw [e]; exact ck_15
              · rcases Nat.lt_or_ge a 17 with h17 | h17
                · have e : a = 16 := by omega
                  rw [e]; exact ck_16
                · rcases Nat.lt_or_ge a 18 with h18 | h18
                  · have e : a = 17 := by omega
                    rw [e]; exact ck_17
                  · have e : a = 18 := by omega
                    rw [e]; exact ck_18
        · rcases Nat.lt_or_ge a 28 with h28 | h28
          · rcases Nat.lt_or_ge a 23 with h23 | h23
            · rcases Nat.lt_or_ge a 21 with h21 | h21
              · rcases Nat.lt_or_ge a 20 with h20 | h20
                · have e : a = 19 := by omega
                  rw [e]; exact ck_19
                · have e : a = 20 := by omega
                  rw [e]; exact ck_20
              · rcases Nat.lt_or_ge a 22 with h22 | h22
                · have e : a = 21 := by omega
                  rw [e]; exact ck_21
                · have e : a = 22 := by omega
                  rw [e]; exact ck_22
            · rcases Nat.lt_or_ge a 25 with h25 | h25
              · rcases Nat.lt_or_ge a 24 with h24 | h24
                · have e : a = 23 := by omega
                  rw [e]; exact ck_23
                · have e : a = 24 := by omega
                  rw [e]; exact ck_24
              · rcases Nat.lt_or_ge a 26 with h26 | h26
                · have e : a = 25 := by omega
                  rw [e]; exact ck_25
                · rcases Nat.lt_or_ge a 27 with h27 | h27
                  · have e : a = 26 := by omega
                    rw [e]; exact ck_26
                  · have e : a = 27 := by omega
                    rw [e]; exact ck_27
          · rcases Nat.lt_or_ge a 33 with h33 | h33
            · rcases Nat.lt_or_ge a 30 with h30 | h30
              · rcases Nat.lt_or_ge a 29 with h29 | h29
                · have e : a = 28 := by omega
                  rw [e]; exact ck_28
                · have e : a = 29 := by omega
                  rw [e]; exact ck_29
              · rcases Nat.lt_or_ge a 31 with h31 | h31
                · have e : a = 30 := by omega
                  rw [e]; exact ck_30
                · rcases Nat.lt_or_ge a 32 with h32 | h32
                  · have e : a = 31 := by omega
                    rw [e]; exact ck_31
                  · have e : a = 32 := by omega
                    rw [e]; exact ck_32
            · rcases Nat.lt_or_ge a 35 with h35 | h35
              · rcases Nat.lt_or_ge a 34 with h34 | h34
                · have e : a = 33 := by omega
                  rw [e]; exact ck_33
                · have e : a = 34 := by omega
                  rw [e]; exact ck_34
              · rcases Nat.lt_or_ge a 36 with h36 | h36
                · have e : a = 35 := by omega
                  rw [e]; exact ck_35
                · rcases Nat.lt_or_ge a 37 with h37 | h37
                  · have e : a = 36 := by omega
                    rw [e]; exact ck_36
                  · have e : a = 37 := by omega
                    rw [e]; exact ck_37
      · rcases Nat.lt_or_ge a 57 with h57 | h57
        · rcases Nat.lt_or_ge a 47 with h47 | h47
          · rcases Nat.lt_or_ge a 42 with h42 | h42
            · rcases Nat.lt_or_ge a 40 with h40 | h40
              · rcases Nat.lt_or_ge a 39 with h39 | h39
                · have e : a = 38 := by omega
                  rw [e]; exact ck_38
                · have e : a = 39 := by omega
                  rw [e]; exact ck_39
              · rcases Nat.lt_or_ge a 41 with h41 | h41
                · have e : a = 40 := by omega
                  rw [e]; exact ck_40
                · have e : a = 41 := by omega
                  rw [e]; exact ck_41
            · rcases Nat.lt_or_ge a 44 with h44 | h44
              · rcases Nat.lt_or_ge a 43 with h43 | h43
                · have e : a = 42 := by omega
                  rw [e]; exact ck_42
                · have e : a = 43 := by omega
                  rw [e]; exact ck_43
              · rcases Nat.lt_or_ge a 45 with h45 | h45
                · have e : a = 44 := by omega
                  rw [e]; exact ck_44
                · rcases Nat.lt_or_ge a 46 with h46 | h46
                  · have e : a = 45 := by omega
                    rw [e]; exact ck_45
                  · have e : a = 46 := by omega
                    rw [e]; exact ck_46
          · rcases Nat.lt_or_ge a 52 with h52 | h52
            · rcases Nat.lt_or_ge a 49 with h49 | h49
              · rcases Nat.lt_or_ge a 48 with h48 | h48
                · have e : a = 47 := by omega
                  rw [e]; exact ck_47
                · have e : a = 48 := by omega
                  rw [e]; exact ck_48
              · rcases Nat.lt_or_ge a 50 with h50 | h50
                · have e : a = 49 := by omega
                  rw [e]; exact ck_49
                · rcases Nat.lt_or_ge a 51 with h51 | h51
                  · have e : a = 50 := by omega
                    rw [e]; exact ck_50
                  · have e : a = 51 := by omega
                    rw [e]; exact ck_51
            · rcases Nat.lt_or_ge a 54 with h54 | h54
              · rcases Nat.lt_or_ge a 53 with h53 | h53
                · have e : a = 52 := by omega
                  rw [e]; exact ck_52
                · have e : a = 53 := by omega
                  rw [e]; exact ck_53
              · rcases Nat.lt_or_ge a 55 with h55 | h55
                · have e : a = 54 := by omega
                  rw [e]; exact ck_54
                · rcases Nat.lt_or_ge a 56 with h56 | h56
                  · have e : a = 55 := by omega
                    rw [e]; exact ck_55
                  · have e : a = 56 := by omega
                    rw [e]; exact ck_56
        · rcases Nat.lt_or_ge a 66 with h66 | h66
          · rcases Nat.lt_or_ge a 61 with h61 | h61
            · rcases Nat.lt_or_ge a 59 with h59 | h59
              · rcases Nat.lt_or_ge a 58 with h58 | h58
                · have e : a = 57 := by omega
                  rw [e]; exact ck_57
                · have e : a = 58 := by omega
                  rw [e]; exact ck_58
              · rcases Nat.lt_or_ge a 60 with h60 | h60
                · have e : a = 59 := by omega
                  rw [e]; exact ck_59
                · have e : a = 60 := by omega
                  rw [e]; exact ck_60
            · rcases Nat.lt_or_ge a 63 with h63 | h63
              · rcases Nat.lt_or_ge a 62 with h62 | h62
                · have e : a = 61 := by omega
                  rw [e]; exact ck_61
                · have e : a = 62 := by omega
                  rw [e]; exact ck_62
              · rcases Nat.lt_or_ge a 64 with h64 | h64
                · have e : a = 63 := by omega
                  rw [e]; exact ck_63
                · rcases Nat.lt_or_ge a 65 with h65 | h65
                  · have e : a = 64 := by omega
                    rw [e]; exact ck_64
                  · have e : a = 65 := by omega
                    rw [e]; exact ck_65
          · rcases Nat.lt_or_ge a 71 with h71 | h71
            · rcases Nat.lt_or_ge a 68 with h68 | h68
              · rcases Nat.lt_or_ge a 67 with h67 | h67
                · have e : a = 66 := by omega
                  rw [e]; exact ck_66
                · have e : a = 67 := by omega
                  rw [e]; exact ck_67
              · rcases Nat.lt_or_ge a 69 with h69 | h69
                · have e : a = 68 := by omega
                  rw [e]; exact ck_68
                · rcases Nat.lt_or_ge a 70 with h70 | h70
                  · have e : a = 69 := by omega
                    rw [e]; exact ck_69
                  · have e : a = 70 := by omega
                    rw [e]; exact ck_70
            · rcases Nat.lt_or_ge a 73 with h73 | h73
              · rcases Nat.lt_or_ge a 72 with h72 | h72
                · have e : a = 71 := by omega
                  rw [e]; exact ck_71
                · have e : a = 72 := by omega
                  rw [e]; exact ck_72
              · rcases Nat.lt_or_ge a 74 with h74 | h74
                · have e : a = 73 := by omega
                  rw [e]; exact ck_73
                · rcases Nat.lt_or_ge a 75 with h75 | h75
                  · have e : a = 74 := by omega
                    rw [e]; exact ck_74
                  · have e : a = 75 := by omega
                    rw [e]; exact ck_75
    · rcases Nat.lt_or_ge a 114 with h114 | h114
      · rcases Nat.lt_or_ge a 95 with h95 | h95
        · rcases Nat.lt_or_ge a 85 with h85 | h85
          · rcases Nat.lt_or_ge a 80 with h80 | h80
            · rcases Nat.lt_or_ge a 78 with h78 | h78
              · rcases Nat.lt_or_ge a 77 with h77 | h77
                · have e : a = 76 := by omega
                  rw [e]; exact ck_76
                · have e : a = 77 := by omega
                  rw [e]; exact ck_77
              · rcases Nat.lt_or_ge a 79 with h79 | h79
                · have e : a = 78 := by omega
                  rw [e]; exact ck_78
                · have e : a = 79 := by omega
                  rw [e]; exact ck_79
            · rcases Nat.lt_or_ge a 82 with h82 | h82
              · rcases Nat.lt_or_ge a 81 with h81 | h81
                · have e : a = 80 := by omega
                  rw [e]; exact ck_80
                · have e : a = 81 := by omega
                  rw [e]; exact ck_81
              · rcases Nat.lt_or_ge a 83 with h83 | h83
                · have e : a = 82 := by omega
                  rw [e]; exact ck_82
                · rcases Nat.lt_or_ge a 84 with h84 | h84
                  · have e : a = 83 := by omega
                    rw [e]; exact ck_83
                  · have e : a = 84 := by omega
                    rw [e]; exact ck_84
          · rcases Nat.lt_or_ge a 90 with h90 | h90
            · rcases Nat.lt_or_ge a 87 with h87 | h87
              · rcases Nat.lt_or_ge a 86 with h86 | h86
                · have e : a = 85 := by omega
                  rw [e]; exact ck_85
                · have e : a = 86 := by omega
                  rw [e]; exact ck_86
              · rcases Nat.lt_or_ge a 88 with h88 | h88
                · have e : a = 87 := by omega
                  rw [e]; exact ck_87
                · rcases Nat.lt_or_ge a 89 with h89 | h89
                  · have e : a = 88 := by omega
                    rw [e]; exact ck_88
                  · have e : a = 89 := by omega
                    rw [e]; exact ck_89
            · rcases Nat.lt_or_ge a 92 with h92 | h92
              · rcases Nat.lt_or_ge a 91 with h91 | h91
                · have e : a = 90 := by omega
                  rw [e]; exact ck_90
                · have e : a = 91 := by omega
                  rw [e]; exact ck_91
              · rcases Nat.lt_or_ge a 93 with h93 | h93
                · have e : a = 92 := by omega
                  rw [e]; exact ck_92
                · rcases Nat.lt_or_ge a 94 with h94 | h94
                  · have e : a = 93 := by omega
                    rw [e]; exact ck_93
                  · have e : a = 94 := by omega
                    rw [e]; exact ck_94
        · rcases Nat.lt_or_ge a 104 with h104 | h104
          · rcases Nat.lt_or_ge a 99 with h99 | h99
            · rcases Nat.lt_or_ge a 97 with h97 | h97
              · rcases Nat.lt_or_ge a 96 with h96 | h96
                · have e : a = 95 := by omega
                  rw [e]; exact ck_95
                · have e : a = 96 := by omega
                  rw [e]; exact ck_96
              · rcases Nat.lt_or_ge a 98 with h98 | h98
                · have e : a = 97 := by omega
                  rw [e]; exact ck_97
                · have e : a = 98 := by omega
                  rw [e]; exact ck_98
            · rcases Nat.lt_or_ge a 101 with h101 | h101
              · rcases Nat.lt_or_ge a 100 with h100 | h100
                · have e : a = 99 := by omega
                  rw [e]; exact ck_99
                · have e : a = 100 := by omega
                  rw [e]; exact ck_100
              · rcases Nat.lt_or_ge a 102 with h102 | h102
                · have e : a = 101 := by omega
                  rw [e]; exact ck_101
                · rcases Nat.lt_or_ge a 103 with h103 | h103
                  · have e : a = 102 := by omega
                    rw [e]; exact ck_102
                  · have e : a = 103 := by omega
                    rw [e]; exact ck_103
          · rcases Nat.lt_or_ge a 109 with h109 | h109
            · rcases Nat.lt_or_ge a 106 with h106 | h106
              · rcases Nat.lt_or_ge a 105 with h105 | h105
                · have e : a = 104 := by omega
                  rw [e]; exact ck_104
                · have e : a = 105 := by omega
                  rw [e]; exact ck_105
              · rcases Nat.lt_or_ge a 107 with h107 | h107
                · have e : a = 106 := by omega
                  rw [e]; exact ck_106
                · rcases Nat.lt_or_ge a 108 with h108 | h108
                  · have e : a = 107 := by omega
                    rw [e]; exact ck_107
                  · have e : a = 108 := by omega
                    rw [e]; exact ck_108
            · rcases Nat.lt_or_ge a 111 with h111 | h111
              · rcases Nat.lt_or_ge a 110 with h110 | h110
                · have e : a = 109 := by omega
                  rw [e]; exact ck_109
                · have e : a = 110 := by omega
                  rw [e]; exact ck_110
              · rcases Nat.lt_or_ge a 112 with h112 | h112
                · have e : a = 111 := by omega
                  rw [e]; exact ck_111
                · rcases Nat.lt_or_ge a 113 with h113 | h113
                  · have e : a = 112 := by omega
                    rw [e]; exact ck_112
                  · have e : a = 113 := by omega
                    rw [e]; exact ck_113
      · rcases Nat.lt_or_ge a 133 with h133 | h133
        · rcases Nat.lt_or_ge a 123 with h123 | h123
          · rcases Nat.lt_or_ge a 118 with h118 | h118
            · rcases Nat.lt_or_ge a 116 with h116 | h116
              · rcases Nat.lt_or_ge a 115 with h115 | h115
                · have e : a = 114 := by omega
                  rw [e]; exact ck_114
                · have e : a = 115 := by omega
                  rw [e]; exact ck_115
              · rcases Nat.lt_or_ge a 117 with h117 | h117
                · have e : a = 116 := by omega
                  rw [e]; exact ck_116
                · have e : a = 117 := by omega
                  rw [e]; exact ck_117
            · rcases Nat.lt_or_ge a 120 with h120 | h120
              · rcases Nat.lt_or_ge a 119 with h119 | h119
                · have e : a = 118 := by omega
                  rw [e]; exact ck_118
                · have e : a = 119 := by omega
                  rw [e]; exact ck_119
              · rcases Nat.lt_or_ge a 121 with h121 | h121
                · have e : a = 120 := by omega
                  rw [e]; exact ck_120
                · rcases Nat.lt_or_ge a 122 with h122 | h122
                  · have e : a = 121 := by omega
                    rw [e]; exact ck_121
                  · have e : a = 122 := by omega
                    rw [e]; exact ck_122
          · rcases Nat.lt_or_ge a 128 with h128 | h128
            · rcases Nat.lt_or_ge a 125 with h125 | h125
              · rcases Nat.lt_or_ge a 124 with h124 | h124
                · have e : a = 123 := by omega
                  rw [e]; exact ck_123
                · have e : a = 124 := by omega
                  rw [e]; exact ck_124
              · rcases Nat.lt_or_ge a 126 with h126 | h126
                · have e : a = 125 := by omega
                  rw [e]; exact ck_125
                · rcases Nat.lt_or_ge a 127 with h127 | h127
                  · have e : a = 126 := by omega
                    rw [e]; exact ck_126
                  · have e : a = 127 := by omega
                    rw [e]; exact ck_127
            · rcases Nat.lt_or_ge a 130 with h130 | h130
              · rcases Nat.lt_or_ge a 129 with h129 | h129
                · have e : a = 128 := by omega
                  rw [e]; exact ck_128
                · have e : a = 129 := by omega
                  rw [e]; exact ck_129
              · rcases Nat.lt_or_ge a 131 with h131 | h131
                · have e : a = 130 := by omega
                  rw [e]; exact ck_130
                · rcases Nat.lt_or_ge a 132 with h132 | h132
                  · have e : a = 131 := by omega
                    rw [e]; exact ck_131
                  · have e : a = 132 := by omega
                    rw [e]; exact ck_132
        · rcases Nat.lt_or_ge a 142 with h142 | h142
          · rcases Nat.lt_or_ge a 137 with h137 | h137
            · rcases Nat.lt_or_ge a 135 with h135 | h135
              · rcases Nat.lt_or_ge a 134 with h134 | h134
                · have e : a = 133 := by omega
                  rw [e]; exact ck_133
                · have e : a = 134 := by omega
                  rw [e]; exact ck_134
              · rcases Nat.lt_or_ge a 136 with h136 | h136
                · have e : a = 135 := by omega
                  rw [e]; exact ck_135
                · have e : a = 136 := by omega
                  rw [e]; exact ck_136
            · rcases Nat.lt_or_ge a 139 with h139 | h139
              · rcases Nat.lt_or_ge a 138 with h138 | h138
                · have e : a = 137 := by omega
                  rw [e]; exact ck_137
                · have e : a = 138 := by omega
                  rw [e]; exact ck_138
              · rcases Nat.lt_or_ge a 140 with h140 | h140
                · have e : a = 139 := by omega
                  rw [e]; exact ck_139
                · rcases Nat.lt_or_ge a 141 with h141 | h141
                  · have e : a = 140 := by omega
                    rw [e]; exact ck_140
                  · have e : a = 141 := by omega
                    rw [e]; exact ck_141
          · rcases Nat.lt_or_ge a 147 with h147 | h147
            · rcases Nat.lt_or_ge a 144 with h144 | h144
              · rcases Nat.lt_or_ge a 143 with h143 | h143
                · have e : a = 142 := by omega
                  rw [e]; exact ck_142
                · have e : a = 143 := by omega
                  rw [e]; exact ck_143
              · rcases Nat.lt_or_ge a 145 with h145 | h145
                · have e : a = 144 := by omega
                  rw [e]; exact ck_144
                · rcases Nat.lt_or_ge a 146 with h146 | h146
                  · have e : a = 145 := by omega
                    rw [e]; exact ck_145
                  · have e : a = 146 := by omega
                    rw [e]; exact ck_146
            · rcases Nat.lt_or_ge a 149 with h149 | h149
              · rcases Nat.lt_or_ge a 148 with h148 | h148
                · have e : a = 147 := by omega
                  rw [e]; exact ck_147
                · have e : a = 148 := by omega
                  rw [e]; exact ck_148
              · rcases Nat.lt_or_ge a 150 with h150 | h150
                · have e : a = 149 := by omega
                  rw [e]; exact ck_149
                · rcases Nat.lt_or_ge a 151 with h151 | h151
                  · have e : a = 150 := by omega
                    rw [e]; exact ck_150
                  · have e : a = 151 := by omega
                    rw [e]; exact ck_151
  · rcases Nat.lt_or_ge a 228 with h228 | h228
    · rcases Nat.lt_or_ge a 190 with h190 | h190
      · rcases Nat.lt_or_ge a 171 with h171 | h171
        · rcases Nat.lt_or_ge a 161 with h161 | h161
          · rcases Nat.lt_or_ge a 156 with h156 | h156
            · rcases Nat.lt_or_ge a 154 with h154 | h154
              · rcases Nat.lt_or_ge a 153 with h153 | h153
                · have e : a = 152 := by omega
                  rw [e]; exact ck_152
                · have e : a = 153 := by omega
                  rw [e]; exact ck_153
              · rcases Nat.lt_or_ge a 155 with h155 | h155
                · have e : a = 154 := by omega
                  rw [e]; exact ck_154
                · have e : a = 155 := by omega
                  rw [e]; exact ck_155
            · rcases Nat.lt_or_ge a 158 with h158 | h158
              · rcases Nat.lt_or_ge a 157 with h157 | h157
                · have e : a = 156 := by omega
                  rw [e]; exact ck_156
                · have e : a = 157 := by omega
                  rw [e]; exact ck_157
              · rcases Nat.lt_or_ge a 159 with h159 | h159
                · have e : a = 158 := by omega
                  rw [e]; exact ck_158
                · rcases Nat.lt_or_ge a 160 with h160 | h160
                  · have e : a = 159 := by omega
                    rw [e]; exact ck_159
                  · have e : a = 160 := by omega
                    rw [e]; exact ck_160
          · rcases Nat.lt_or_ge a 166 with h166 | h166
            · rcases Nat.lt_or_ge a 163 with h163 | h163
              · rcases Nat.lt_or_ge a 162 with h162 | h162
                · have e : a = 161 := by omega
                  rw [e]; exact ck_161
                · have e : a = 162 := by omega
                  rw [e]; exact ck_162
              · rcases Nat.lt_or_ge a 164 with h164 | h164
                · have e : a = 163 := by omega
                  rw [e]; exact ck_163
                · rcases Nat.lt_or_ge a 165 with h165 | h165
                  · have e : a = 164 := by omega
                    rw [e]; exact ck_164
                  · have e : a = 165 := by omega
                    rw [e]; exact ck_165
            · rcases Nat.lt_or_ge a 168 with h168 | h168
              · rcases Nat.lt_or_ge a 167 with h167 | h167
                · have e : a = 166 := by omega
                  rw [e]; exact ck_166
                · have e : a = 167 := by omega
                  rw [e]; exact ck_167
              · rcases Nat.lt_or_ge a 169 with h169 | h169
                · have e : a = 168 := by omega
                  rw [e]; exact ck_168
                · rcases Nat.lt_or_ge a 170 with h170 | h170
                  · have e : a = 169 := by omega
                    rw [e]; exact ck_169
                  · have e : a = 170 := by omega
                    rw [e]; exact ck_170
        · rcases Nat.lt_or_ge a 180 with h180 | h180
          · rcases Nat.lt_or_ge a 175 with h175 | h175
            · rcases Nat.lt_or_ge a 173 with h173 | h173
              · rcases Nat.lt_or_ge a 172 with h172 | h172
                · have e : a = 171 := by omega
                  rw [e]; exact ck_171
                · have e : a = 172 := by omega
                  rw [e]; exact ck_172
              · rcases Nat.lt_or_ge a 174 with h174 | h174
                · have e : a = 173 := by omega
                  rw [e]; exact ck_173
                · have e : a = 174 := by omega
                  rw [e]; exact ck_174
            · rcases Nat.lt_or_ge a 177 with h177 | h177
              · rcases Nat.lt_or_ge a 176 with h176 | h176
                · have e : a = 175 := by omega
                  rw [e]; exact ck_175
                · have e : a = 176 := by omega
                  rw [e]; exact ck_176
              · rcases Nat.lt_or_ge a 178 with h178 | h178
                · have e : a = 177 := by omega
                  rw [e]; exact ck_177
                · rcases Nat.lt_or_ge a 179 with h179 | h179
                  · have e : a = 178 := by omega
                    rw [e]; exact ck_178
                  · have e : a = 179 := by omega
                    rw [e]; exact ck_179
          · rcases Nat.lt_or_ge a 185 with h185 | h185
            · rcases Nat.lt_or_ge a 182 with h182 | h182
              · rcases Nat.lt_or_ge a 181 with h181 | h181
                · have e : a = 180 := by omega
                  rw [e]; exact ck_180
                · have e : a = 181 := by omega
                  rw [e]; exact ck_181
              · rcases Nat.lt_or_ge a 183 with h183 | h183
                · have e : a = 182 := by omega
                  rw [e]; exact ck_182
                · rcases Nat.lt_or_ge a 184 with h184 | h184
                  · have e : a = 183 := by omega
                    rw [e]; exact ck_183
                  · have e : a = 184 := by omega
                    rw [e]; exact ck_184
            · rcases Nat.lt_or_ge a 187 with h187 | h187
              · rcases Nat.lt_or_ge a 186 with h186 | h186
                · have e : a = 185 := by omega
                  rw [e]; exact ck_185
                · have e : a = 186 := by omega
                  rw [e]; exact ck_186
              · rcases Nat.lt_or_ge a 188 with h188 | h188
                · have e : a = 187 := by omega
                  rw [e]; exact ck_187
                · rcases Nat.lt_or_ge a 189 with h189 | h189
                  · have e : a = 188 := by omega
                    rw [e]; exact ck_188
                  · have e : a = 189 := by omega
                    rw [e]; exact ck_189
      · rcases Nat.lt_or_ge a 209 with h209 | h209
        · rcases Nat.lt_or_ge a 199 with h199 | h199
          · rcases Nat.lt_or_ge a 194 with h194 | h194
            · rcases Nat.lt_or_ge a 192 with h192 | h192
              · rcases Nat.lt_or_ge a 191 with h191 | h191
                · have e : a = 190 := by omega
                  rw [e]; exact ck_190
                · have e : a = 191 := by omega
                  rw [e]; exact ck_191
              · rcases Nat.lt_or_ge a 193 with h193 | h193
                · have e : a = 192 := by omega
                  rw [e]; exact ck_192
                · have e : a = 193 := by omega
                  rw [e]; exact ck_193
            · rcases Nat.lt_or_ge a 196 with h196 | h196
              · rcases Nat.lt_or_ge a 195 with h195 | h195
                · have e : a = 194 := by omega
                  rw [e]; exact ck_194
                · have e : a = 195 := by omega
                  rw [e]; exact ck_195
              · rcases Nat.lt_or_ge a 197 with h197 | h197
                · have e : a = 196 := by omega
                  rw [e]; exact ck_196
                · rcases Nat.lt_or_ge a 198 with h198 | h198
                  · have e : a = 197 := by omega
                    rw [e]; exact ck_197
                  · have e : a = 198 := by omega
                    rw [e]; exact ck_198
          · rcases Nat.lt_or_ge a 204 with h204 | h204
            · rcases Nat.lt_or_ge a 201 with h201 | h201
              · rcases Nat.lt_or_ge a 200 with h200 | h200
                · have e : a = 199 := by omega
                  rw [e]; exact ck_199
                · have e : a = 200 := by omega
                  rw [e]; exact ck_200
              · rcases Nat.lt_or_ge a 202 with h202 | h202
                · have e : a = 201 := by omega
                  rw [e]; exact ck_201
                · rcases Nat.lt_or_ge a 203 with h203 | h203
                  · have e : a = 202 := by omega
                    rw [e]; exact ck_202
                  · have e : a = 203 := by omega
                    rw [e]; exact ck_203
            · rcases Nat.lt_or_ge a 206 with h206 | h206
              · rcases Nat.lt_or_ge a 205 with h205 | h205
                · have e : a = 204 := by omega
                  rw [e]; exact ck_204
                · have e : a = 205 := by omega
                  rw [e]; exact ck_205
              · rcases Nat.lt_or_ge a 207 with h207 | h207
                · have e : a = 206 := by omega
                  rw [e]; exact ck_206
                · rcases Nat.lt_or_ge a 208 with h208 | h208
                  · have e : a = 207 := by omega
                    rw [e]; exact ck_207
                  · have e : a = 208 := by omega
                    rw [e]; exact ck_208
        · rcases Nat.lt_or_ge a 218 with h218 | h218
          · rcases Nat.lt_or_ge a 213 with h213 | h213
            · rcases Nat.lt_or_ge a 211 with h211 | h211
              · rcases Nat.lt_or_ge a 210 with h210 | h210
                · have e : a = 209 := by omega
                  rw [e]; exact ck_209
                · have e : a = 210 := by omega
                  rw [e]; exact ck_210
              · rcases Nat.lt_or_ge a 212 with h212 | h212
                · have e : a = 211 := by omega
                  rw [e]; exact ck_211
                · have e : a = 212 := by omega
                  rw [e]; exact ck_212
            · rcases Nat.lt_or_ge a 215 with h215 | h215
              · rcases Nat.lt_or_ge a 214 with h214 | h214
                · have e : a = 213 := by omega
                  rw [e]; exact ck_213
                · have e : a = 214 := by omega
                  rw [e]; exact ck_214
              · rcases Nat.lt_or_ge a 216 with h216 | h216
                · have e : a = 215 := by omega
                  rw [e]; exact ck_215
                · rcases Nat.lt_or_ge a 217 with h217 | h217
                  · have e : a = 216 := by omega
                    rw [e]; exact ck_216
                  · have e : a = 217 := by omega
                    rw [e]; exact ck_217
          · rcases Nat.lt_or_ge a 223 with h223 | h223
            · rcases Nat.lt_or_ge a 220 with h220 | h220
              · rcases Nat.lt_or_ge a 219 with h219 | h219
                · have e : a = 218 := by omega
                  rw [e]; exact ck_218
                · have e : a = 219 := by omega
                  rw [e]; exact ck_219
              · rcases Nat.lt_or_ge a 221 with h221 | h221
                · have e : a = 220 := by omega
                  rw [e]; exact ck_220
                · rcases Nat.lt_or_ge a 222 with h222 | h222
                  · have e : a = 221 := by omega
                    rw [e]; exact ck_221
                  · have e : a = 222 := by omega
                    rw [e]; exact ck_222
            · rcases Nat.lt_or_ge a 225 with h225 | h225
              · rcases Nat.lt_or_ge a 224 with h224 | h224
                · have e : a = 223 := by omega
                  rw [e]; exact ck_223
                · have e : a = 224 := by omega
                  rw [e]; exact ck_224
              · rcases Nat.lt_or_ge a 226 with h226 | h226
                · have e : a = 225 := by omega
                  rw [e]; exact ck_225
                · rcases Nat.lt_or_ge a 227 with h227 | h227
                  · have e : a = 226 := by omega
                    rw [e]; exact ck_226
                  · have e : a = 227 := by omega
                    rw [e]; exact ck_227
    · rcases Nat.lt_or_ge a 266 with h266 | h266
      · rcases Nat.lt_or_ge a 247 with h247 | h247
        · rcases Nat.lt_or_ge a 237 with h237 | h237
          · rcases Nat.lt_or_ge a 232 with h232 | h232
            · rcases Nat.lt_or_ge a 230 with h230 | h230
              · rcases Nat.lt_or_ge a 229 with h229 | h229
                · have e : a = 228 := by omega
                  rw [e]; exact ck_228
                · have e : a = 229 := by omega
                  rw [e]; exact ck_229
              · rcases Nat.lt_or_ge a 231 with h231 | h231
                · have e : a = 230 := by omega
                  rw [e]; exact ck_230
                · have e : a = 231 := by omega
                  rw [e]; exact ck_231
            · rcases Nat.lt_or_ge a 234 with h234 | h234
              · rcases Nat.lt_or_ge a 233 with h233 | h233
                · have e : a = 232 := by omega
                  rw [e]; exact ck_232
                · have e : a = 233 := by omega
                  rw [e]; exact ck_233
              · rcases Nat.lt_or_ge a 235 with h235 | h235
                · have e : a = 234 := by omega
                  rw [e]; exact ck_234
                · rcases Nat.lt_or_ge a 236 with h236 | h236
                  · have e : a = 235 := by omega
                    rw [e]; exact ck_235
                  · have e : a = 236 := by omega
                    rw [e]; exact ck_236
          · rcases Nat.lt_or_ge a 242 with h242 | h242
            · rcases Nat.lt_or_ge a 239 with h239 | h239
              · rcases Nat.lt_or_ge a 238 with h238 | h238
                · have e : a = 237 := by omega
                  rw [e]; exact ck_237
                · have e : a = 238 := by omega
                  rw [e]; exact ck_238
              · rcases Nat.lt_or_ge a 240 with h240 | h240
                · have e : a = 239 := by omega
                  rw [e]; exact ck_239
                · rcases Nat.lt_or_ge a 241 with h241 | h241
                  · have e : a = 240 := by omega
                    rw [e]; exact ck_240
                  · have e : a = 241 := by omega
                    rw [e]; exact ck_241
            · rcases Nat.lt_or_ge a 244 with h244 | h244
              · rcases Nat.lt_or_ge a 243 with h243 | h243
                · have e : a = 242 := by omega
                  rw [e]; exact ck_242
                · have e : a = 243 := by omega
                  rw [e]; exact ck_243
              · rcases Nat.lt_or_ge a 245 with h245 | h245
                · have e : a = 244 := by omega
                  rw [e]; exact ck_244
                · rcases Nat.lt_or_ge a 246 with h246 | h246
                  · have e : a = 245 := by omega
                    rw [e]; exact ck_245
                  · have e : a = 246 := by omega
                    rw [e]; exact ck_246
        · rcases Nat.lt_or_ge a 256 with h256 | h256
          · rcases Nat.lt_or_ge a 251 with h251 | h251
            · rcases Nat.lt_or_ge a 249 with h249 | h249
              · rcases Nat.lt_or_ge a 248 with h248 | h248
                · have e : a = 247 := by omega
                  rw [e]; exact ck_247
                · have e : a = 248 := by omega
                  rw [e]; exact ck_248
              · rcases Nat.lt_or_ge a 250 with h250 | h250
                · have e : a = 249 := by omega
                  rw [e]; exact ck_249
                · have e : a = 250 := by omega
                  rw [e]; exact ck_250
            · rcases Nat.lt_or_ge a 253 with h253 | h253
              · rcases Nat.lt_or_ge a 252 with h252 | h252
                · have e : a = 251 := by omega
                  rw [e]; exact ck_251
                · have e : a = 252 := by omega
                  rw [e]; exact ck_252
              · rcases Nat.lt_or_ge a 254 with h254 | h254
                · have e : a = 253 := by omega
                  rw [e]; exact ck_253
                · rcases Nat.lt_or_ge a 255 with h255 | h255
                  · have e : a = 254 := by omega
                    rw [e]; exact ck_254
                  · have e : a = 255 := by omega
                    rw [e]; exact ck_255
          · rcases Nat.lt_or_ge a 261 with h261 | h261
            · rcases Nat.lt_or_ge a 258 with h258 | h258
              · rcases Nat.lt_or_ge a 257 with h257 | h257
                · have e : a = 256 := by omega
                  rw [e]; exact ck_256
                · have e : a = 257 := by omega
                  rw [e]; exact ck_257
              · rcases Nat.lt_or_ge a 259 with h259 | h259
                · have e : a = 258 := by omega
                  rw [e]; exact ck_258
                · rcases Nat.lt_or_ge a 260 with h260 | h260
                  · have e : a = 259 := by omega
                    rw [e]; exact ck_259
                  · have e : a = 260 := by omega
                    rw [e]; exact ck_260
            · rcases Nat.lt_or_ge a 263 with h263 | h263
              · rcases Nat.lt_or_ge a 262 with h262 | h262
                · have e : a = 261 := by omega
                  rw [e]; exact ck_261
                · have e : a = 262 := by omega
                  rw [e]; exact ck_262
              · rcases Nat.lt_or_ge a 264 with h264 | h264
                · have e : a = 263 := by omega
                  rw [e]; exact ck_263
                · rcases Nat.lt_or_ge a 265 with h265 | h265
                  · have e : a = 264 := by omega
                    rw [e]; exact ck_264
                  · have e : a = 265 := by omega
                    rw [e]; exact ck_265
      · rcases Nat.lt_or_ge a 285 with h285 | h285
        · rcases Nat.lt_or_ge a 275 with h275 | h275
          · rcases Nat.lt_or_ge a 270 with h270 | h270
            · rcases Nat.lt_or_ge a 268 with h268 | h268
              · rcases Nat.lt_or_ge a 267 with h267 | h267
                · have e : a = 266 := by omega
                  rw [e]; exact ck_266
                · have e : a = 267 := by omega
                  rw [e]; exact ck_267
              · rcases Nat.lt_or_ge a 269 with h269 | h269
                · have e : a = 268 := by omega
                  rw [e]; exact ck_268
                · have e : a = 269 := by omega
                  rw [e]; exact ck_269
            · rcases Nat.lt_or_ge a 272 with h272 | h272
              · rcases Nat.lt_or_ge a 271 with h271 | h271
                · have e : a = 270 := by omega
                  rw [e]; exact ck_270
                · have e : a = 271 := by omega
                  rw [e]; exact ck_271
              · rcases Nat.lt_or_ge a 273 with h273 | h273
                · have e : a = 272 := by omega
                  rw [e]; exact ck_272
                · rcases Nat.lt_or_ge a 274 with h274 | h274
                  · have e : a = 273 := by omega
                    rw [e]; exact ck_273
                  · have e : a = 274 := by omega
                    rw [e]; exact ck_274
          · rcases Nat.lt_or_ge a 280 with h280 | h280
            · rcases Nat.lt_or_ge a 277 with h277 | h277
              · rcases Nat.lt_or_ge a 276 with h276 | h276
                · have e : a = 275 := by omega
                  rw [e]; exact ck_275
                · have e : a = 276 := by omega
                  rw [e]; exact ck_276
              · rcases Nat.lt_or_ge a 278 with h278 | h278
                · have e : a = 277 := by omega
                  rw [e]; exact ck_277
                · rcases Nat.lt_or_ge a 279 with h279 | h279
                  · have e : a = 278 := by omega
                    rw [e]; exact ck_278
                  · have e : a = 279 := by omega
                    rw [e]; exact ck_279
            · rcases Nat.lt_or_ge a 282 with h282 | h282
              · rcases Nat.lt_or_ge a 281 with h281 | h281
                · have e : a = 280 := by omega
                  rw [e]; exact ck_280
                · have e : a = 281 := by omega
                  rw [e]; exact ck_281
              · rcases Nat.lt_or_ge a 283 with h283 | h283
                · have e : a = 282 := by omega
                  rw [e]; exact ck_282
                · rcases Nat.lt_or_ge a 284 with h284 | h284
                  · have e : a = 283 := by omega
                    rw [e]; exact ck_283
                  · have e : a = 284 := by omega
                    rw [e]; exact ck_284
        · rcases Nat.lt_or_ge a 294 with h294 | h294
          · rcases Nat.lt_or_ge a 289 with h289 | h289
            · rcases Nat.lt_or_ge a 287 with h287 | h287
              · rcases Nat.lt_or_ge a 286 with h286 | h286
                · have e : a = 285 := by omega
                  rw [e]; exact ck_285
                · have e : a = 286 := by omega
                  rw [e]; exact ck_286
              · rcases Nat.lt_or_ge a 288 with h288 | h288
                · have e : a = 287 := by omega
                  rw [e]; exact ck_287
                · have e : a = 288 := by omega
                  rw [e]; exact ck_288
            · rcases Nat.lt_or_ge a 291 with h291 | h291
              · rcases Nat.lt_or_ge a 290 with h290 | h290
                · have e : a = 289 := by omega
                  rw [e]; exact ck_289
                · have e : a = 290 := by omega
                  rw [e]; exact ck_290
              · rcases Nat.lt_or_ge a 292 with h292 | h292
                · have e : a = 291 := by omega
                  rw [e]; exact ck_291
                · rcases Nat.lt_or_ge a 293 with h293 | h293
                  · have e : a = 292 := by omega
                    rw [e]; exact ck_292
                  · have e : a = 293 := by omega
                    rw [e]; exact ck_293
          · rcases Nat.lt_or_ge a 299 with h299 | h299
            · rcases Nat.lt_or_ge a 296 with h296 | h296
              · rcases Nat.lt_or_ge a 295 with h295 | h295
                · have e : a = 294 := by omega
                  rw [e]; exact ck_294
                · have e : a = 295 := by omega
                  rw [e]; exact ck_295
              · rcases Nat.lt_or_ge a 297 with h297 | h297
                · have e : a = 296 := by omega
                  rw [e]; exact ck_296
                · rcases Nat.lt_or_ge a 298 with h298 | h298
                  · have e : a = 297 := by omega
                    rw [e]; exact ck_297
                  · have e : a = 298 := by omega
                    rw [e]; exact ck_298
            · rcases Nat.lt_or_ge a 301 with h301 | h301
              · rcases Nat.lt_or_ge a 300 with h300 | h300
                · have e : a = 299 := by omega
                  rw [e]; exact ck_299
                · have e : a = 300 := by omega
                  rw [e]; exact ck_300
              · rcases Nat.lt_or_ge a 302 with h302 | h302
                · have e : a = 301 := by omega
                  rw [e]; exact ck_301
                · rcases Nat.lt_or_ge a 303 with h303 | h303
                  · have e : a = 302 := by omega
                    rw [e]; exact ck_302
                  · have e : a = 303 := by omega
                    rw [e]; exact ck_303
