/-! every instruction of the lists is that of the bytes -/
def okO (k i w nx : Nat) (ins : Instr) (len : Nat) : Bool := match iO w with
  | 0 => ok0 w nx ins len
  | 1 => ok1 k w nx ins len
  | 2 => ok2 w nx ins len
  | 3 => ok3 k w nx ins len
  | 4 => ok4 w nx ins len
  | 5 => ok5 w nx ins len
  | 6 => ok6 w nx ins len
  | 7 => ok7 k w nx ins len
  | 8 => ok8 k w nx ins len
  | 9 => ok9 k w nx ins len
  | 10 => ok10 k w nx ins len
  | 11 => ok11 w nx ins len
  | 12 => ok12 w nx ins len
  | 13 => ok13 w nx ins len
  | 14 => ok14 w nx ins len
  | 15 => ok15 w nx ins len
  | 16 => ok16 w nx ins len
  | 17 => ok17 k w nx ins len
  | 18 => ok18 k w nx ins len
  | 19 => ok19 k i w nx ins len
  | 20 => ok20 k w ins len
  | 21 => ok21 k w ins len
  | 22 => ok22 k w nx ins len
  | 23 => ok23 k w nx ins len
  | 24 => ok24 k w nx ins len
  | 25 => ok25 w nx ins len
  | 26 => ok26 w nx ins len
  | 27 => ok27 w nx ins len
  | 28 => ok28 w nx ins len
  | 29 => ok29 w nx ins len
  | 30 => ok30 w nx ins len
  | 31 => ok31 w nx ins len
  | 32 => ok32 w nx ins len
  | 33 => decide (ins = .return_) && len == 1
  | 34 => decide (ins = .ireturn) && len == 1
  | 35 => decide (ins = .lreturn) && len == 1
  | 36 => decide (ins = .areturn) && len == 1
  | 37 => ok37 k w nx ins len
  | 38 => ok38 k w nx ins len
  | 39 => ok39 k w nx ins len
  | 40 => ok40 k w nx ins len
  | 41 => ok41 k w nx ins len
  | 42 => ok42 k w ins len
  | 43 => ok43 k w nx ins len
  | _ => false
def okI (k i : Nat) : Bool := match decode (mB k) (pcA k i) with
  | .ok (ins, len) => okO k i (wd k i) (pcA k (i + 1)) ins len || iO (wd k i) == 99
  | .error _ => false

def okR (k a b : Nat) : Bool := (List.range (b - a)).all (fun j => okI k (a + j))
theorem okR_get {k a b i : Nat} (h : okR k a b = true) (h1 : a ≤ i) (h2 : i < b) : okI k i = true := by
  have q := List.all_eq_true.mp h (i - a) (List.mem_range.mpr (by omega))
  rw [show a + (i - a) = i by omega] at q
  exact q

theorem tb_0_0 : okR 0 0 60 = true := by decide +kernel
theorem tb_0_1 : okR 0 60 120 = true := by decide +kernel
theorem tb_0_2 : okR 0 120 180 = true := by decide +kernel
theorem tb_0_3 : okR 0 180 240 = true := by decide +kernel
theorem tb_0_4 : okR 0 240 300 = true := by decide +kernel
theorem tb_0_5 : okR 0 300 360 = true := by decide +kernel
theorem tb_0_6 : okR 0 360 420 = true := by decide +kernel
theorem tb_0_7 : okR 0 420 480 = true := by decide +kernel
theorem tb_0_8 : okR 0 480 540 = true := by decide +kernel
theorem tb_0_9 : okR 0 540 600 = true := by decide +kernel
theorem tb_0_10 : okR 0 600 660 = true := by decide +kernel
theorem tb_0_11 : okR 0 660 720 = true := by decide +kernel
theorem tb_0_12 : okR 0 720 780 = true := by decide +kernel
theorem tb_0_13 : okR 0 780 840 = true := by decide +kernel
theorem tb_0_14 : okR 0 840 900 = true := by decide +kernel
theorem tb_0_15 : okR 0 900 937 = true := by decide +kernel
theorem tb_0 {i : Nat} (hi : i < 937) : okI 0 i = true := by
  by_cases h0 : i < 60
  · exact okR_get tb_0_0 (by omega) h0
  by_cases h1 : i < 120
  · exact okR_get tb_0_1 (by omega) h1
  by_cases h2 : i < 180
  · exact okR_get tb_0_2 (by omega) h2
  by_cases h3 : i < 240
  · exact okR_get tb_0_3 (by omega) h3
  by_cases h4 : i < 300
  · exact okR_get tb_0_4 (by omega) h4
  by_cases h5 : i < 360
  · exact okR_get tb_0_5 (by omega) h5
  by_cases h6 : i < 420
  · exact okR_get tb_0_6 (by omega) h6
  by_cases h7 : i < 480
  · exact okR_get tb_0_7 (by omega) h7
  by_cases h8 : i < 540
  · exact okR_get tb_0_8 (by omega) h8
  by_cases h9 : i < 600
  · exact okR_get tb_0_9 (by omega) h9
  by_cases h10 : i < 660
  · exact okR_get tb_0_10 (by omega) h10
  by_cases h11 : i < 720
  · exact okR_get tb_0_11 (by omega) h11
  by_cases h12 : i < 780
  · exact okR_get tb_0_12 (by omega) h12
  by_cases h13 : i < 840
  · exact okR_get tb_0_13 (by omega) h13
  by_cases h14 : i < 900
  · exact okR_get tb_0_14 (by omega) h14
  exact okR_get tb_0_15 (by omega) hi
theorem tb_1 : okR 1 0 70 = true := by decide +kernel
theorem tb_2 : okR 2 0 72 = true := by decide +kernel
theorem tb_3 : okR 3 0 26 = true := by decide +kernel
theorem tb_4 : okR 4 0 9 = true := by decide +kernel
theorem tb_5 : okR 5 0 30 = true := by decide +kernel
theorem tb_6 : okR 6 0 16 = true := by decide +kernel
theorem tb_7 : okR 7 0 11 = true := by decide +kernel
theorem tb_8 : okR 8 0 20 = true := by decide +kernel
theorem tb_9 : okR 9 0 25 = true := by decide +kernel
theorem tb_10 : okR 10 0 12 = true := by decide +kernel
theorem tb_11 : okR 11 0 21 = true := by decide +kernel
theorem tb_12 : okR 12 0 73 = true := by decide +kernel
theorem tb_13 : okR 13 0 21 = true := by decide +kernel
theorem tb_14 : okR 14 0 42 = true := by decide +kernel
theorem tb_15 : okR 15 0 51 = true := by decide +kernel
theorem tb_16 : okR 16 0 41 = true := by decide +kernel
theorem tb_17 : okR 17 0 12 = true := by decide +kernel
theorem tb_18 : okR 18 0 43 = true := by decide +kernel
theorem tb_19 : okR 19 0 30 = true := by decide +kernel
theorem tb_20_0 : okR 20 0 60 = true := by decide +kernel
theorem tb_20_1 : okR 20 60 96 = true := by decide +kernel
theorem tb_20 {i : Nat} (hi : i < 96) : okI 20 i = true := by
  by_cases h0 : i < 60
  · exact okR_get tb_20_0 (by omega) h0
  exact okR_get tb_20_1 (by omega) hi
theorem tb_21 : okR 21 0 10 = true := by decide +kernel
theorem tb_22 : okR 22 0 9 = true := by decide +kernel
theorem tb_23 : okR 23 0 55 = true := by decide +kernel
theorem tb_24 : okR 24 0 39 = true := by decide +kernel
theorem tb_25 : okR 25 0 7 = true := by decide +kernel
theorem tb_26 : okR 26 0 24 = true := by decide +kernel
theorem tb_27 : okR 27 0 24 = true := by decide +kernel
theorem tb_28 : okR 28 0 16 = true := by decide +kernel
theorem tb_29 : okR 29 0 19 = true := by decide +kernel
theorem tb_30 : okR 30 0 25 = true := by decide +kernel
theorem tb_31 : okR 31 0 28 = true := by decide +kernel
theorem tb_32 : okR 32 0 36 = true := by decide +kernel
theorem tb_33 : okR 33 0 28 = true := by decide +kernel
theorem tb_34 : okR 34 0 24 = true := by decide +kernel
theorem tb_35 : okR 35 0 19 = true := by decide +kernel
theorem tb_36 : okR 36 0 36 = true := by decide +kernel
theorem tb_37 : okR 37 0 78 = true := by decide +kernel
theorem tb_38 : okR 38 0 29 = true := by decide +kernel
theorem tb_39 : okR 39 0 41 = true := by decide +kernel
theorem tb_40 : okR 40 0 79 = true := by decide +kernel
theorem tb_41 : okR 41 0 50 = true := by decide +kernel
theorem tb_42 : okR 42 0 28 = true := by decide +kernel
theorem tb_43 : okR 43 0 75 = true := by decide +kernel
theorem tb_44 : okR 44 0 43 = true := by decide +kernel
theorem tb_45 : okR 45 0 38 = true := by decide +kernel
theorem tb_46 : okR 46 0 56 = true := by decide +kernel
theorem tb_47 : okR 47 0 62 = true := by decide +kernel
theorem tb_48 : okR 48 0 21 = true := by decide +kernel
theorem tb_49_0 : okR 49 0 60 = true := by decide +kernel
theorem tb_49_1 : okR 49 60 93 = true := by decide +kernel
theorem tb_49 {i : Nat} (hi : i < 93) : okI 49 i = true := by
  by_cases h0 : i < 60
  · exact okR_get tb_49_0 (by omega) h0
  exact okR_get tb_49_1 (by omega) hi
theorem tb_50 : okR 50 0 32 = true := by decide +kernel
theorem tb_51 : okR 51 0 43 = true := by decide +kernel
theorem tb_52 : okR 52 0 69 = true := by decide +kernel
theorem tb_53 : okR 53 0 36 = true := by decide +kernel
theorem tb_54 : okR 54 0 57 = true := by decide +kernel
theorem tb_55 : okR 55 0 76 = true := by decide +kernel
theorem tb_56 : okR 56 0 8 = true := by decide +kernel
theorem tb_57 : okR 57 0 20 = true := by decide +kernel
theorem tb_58 : okR 58 0 22 = true := by decide +kernel
theorem tb_59 : okR 59 0 36 = true := by decide +kernel
theorem tb_60 : okR 60 0 18 = true := by decide +kernel
theorem tb_61 : okR 61 0 24 = true := by decide +kernel
theorem tb_62 : okR 62 0 15 = true := by decide +kernel
theorem tb_63 : okR 63 0 12 = true := by decide +kernel
theorem tb_64 : okR 64 0 11 = true := by decide +kernel
theorem tb_65 : okR 65 0 34 = true := by decide +kernel
theorem tb_66 : okR 66 0 16 = true := by decide +kernel
theorem tb_67 : okR 67 0 18 = true := by decide +kernel
theorem tb_68 : okR 68 0 21 = true := by decide +kernel
theorem tb_69 : okR 69 0 24 = true := by decide +kernel
theorem tb_70 : okR 70 0 10 = true := by decide +kernel
theorem tb_71 : okR 71 0 11 = true := by decide +kernel
theorem tb_72 : okR 72 0 50 = true := by decide +kernel
theorem tb_73 : okR 73 0 30 = true := by decide +kernel
theorem tb_74 : okR 74 0 31 = true := by decide +kernel
theorem tb_75 : okR 75 0 16 = true := by decide +kernel
theorem tb_76 : okR 76 0 30 = true := by decide +kernel
theorem tb_77 : okR 77 0 31 = true := by decide +kernel
theorem tb_78 : okR 78 0 67 = true := by decide +kernel
theorem tb_79 : okR 79 0 40 = true := by decide +kernel
theorem tb_80 : okR 80 0 73 = true := by decide +kernel
theorem tb_81 : okR 81 0 44 = true := by decide +kernel
theorem tb_82 : okR 82 0 66 = true := by decide +kernel
theorem tb_83 : okR 83 0 37 = true := by decide +kernel
theorem tb_84 : okR 84 0 25 = true := by decide +kernel
theorem tb_85 : okR 85 0 38 = true := by decide +kernel
theorem tb_86 : okR 86 0 31 = true := by decide +kernel
theorem tb_87 : okR 87 0 24 = true := by decide +kernel
theorem tb_88 : okR 88 0 59 = true := by decide +kernel
theorem tb_89 : okR 89 0 45 = true := by decide +kernel
theorem tb_90 : okR 90 0 25 = true := by decide +kernel
theorem tb_91 : okR 91 0 32 = true := by decide +kernel
theorem tb_92 : okR 92 0 4 = true := by decide +kernel
theorem tb_93 : okR 93 0 36 = true := by decide +kernel
theorem tb_94 : okR 94 0 45 = true := by decide +kernel
theorem tb_95 : okR 95 0 33 = true := by decide +kernel
theorem tb_96 : okR 96 0 72 = true := by decide +kernel
theorem tb_97 : okR 97 0 31 = true := by decide +kernel
theorem tb_98 : okR 98 0 40 = true := by decide +kernel
theorem tb_99 : okR 99 0 55 = true := by decide +kernel
theorem tb_100 : okR 100 0 82 = true := by decide +kernel
theorem tb_101 : okR 101 0 28 = true := by decide +kernel
theorem tb_102 : okR 102 0 37 = true := by decide +kernel
theorem tb_103 : okR 103 0 42 = true := by decide +kernel
theorem tb_104 : okR 104 0 17 = true := by decide +kernel
theorem tb_105 : okR 105 0 57 = true := by decide +kernel
theorem tb_106 : okR 106 0 46 = true := by decide +kernel
theorem tb_107 : okR 107 0 34 = true := by decide +kernel
theorem tb_108 : okR 108 0 37 = true := by decide +kernel
theorem tb_109 : okR 109 0 40 = true := by decide +kernel
theorem tb_110 : okR 110 0 31 = true := by decide +kernel
theorem tb_111 : okR 111 0 83 = true := by decide +kernel
theorem tb_112 : okR 112 0 47 = true := by decide +kernel
theorem tb_113 : okR 113 0 10 = true := by decide +kernel
theorem tb_114 : okR 114 0 5 = true := by decide +kernel
theorem tb_115 : okR 115 0 5 = true := by decide +kernel
theorem tb_116 : okR 116 0 6 = true := by decide +kernel
theorem tb_117 : okR 117 0 6 = true := by decide +kernel
theorem tb_118 : okR 118 0 40 = true := by decide +kernel
theorem tb_119 : okR 119 0 13 = true := by decide +kernel
theorem tb_120 : okR 120 0 21 = true := by decide +kernel
theorem tb_121 : okR 121 0 12 = true := by decide +kernel
theorem tb_122 : okR 122 0 10 = true := by decide +kernel
theorem tb_123 : okR 123 0 10 = true := by decide +kernel
theorem tb_124 : okR 124 0 8 = true := by decide +kernel
theorem tb_125_0 : okR 125 0 60 = true := by decide +kernel
theorem tb_125_1 : okR 125 60 101 = true := by decide +kernel
theorem tb_125 {i : Nat} (hi : i < 101) : okI 125 i = true := by
  by_cases h0 : i < 60
  · exact okR_get tb_125_0 (by omega) h0
  exact okR_get tb_125_1 (by omega) hi
theorem tb_126 : okR 126 0 73 = true := by decide +kernel
theorem tb_127 : okR 127 0 63 = true := by decide +kernel
theorem tb_128 : okR 128 0 21 = true := by decide +kernel
theorem tb_129 : okR 129 0 6 = true := by decide +kernel
theorem tb_130_0 : okR 130 0 60 = true := by decide +kernel
theorem tb_130_1 : okR 130 60 93 = true := by decide +kernel
theorem tb_130 {i : Nat} (hi : i < 93) : okI 130 i = true := by
  by_cases h0 : i < 60
  · exact okR_get tb_130_0 (by omega) h0
  exact okR_get tb_130_1 (by omega) hi
theorem tb_131 : okR 131 0 74 = true := by decide +kernel
theorem tb_132 : okR 132 0 34 = true := by decide +kernel
theorem tb_133 : okR 133 0 25 = true := by decide +kernel
theorem tb_134 : okR 134 0 51 = true := by decide +kernel
theorem tb_135_0 : okR 135 0 60 = true := by decide +kernel
theorem tb_135_1 : okR 135 60 103 = true := by decide +kernel
theorem tb_135 {i : Nat} (hi : i < 103) : okI 135 i = true := by
  by_cases h0 : i < 60
  · exact okR_get tb_135_0 (by omega) h0
  exact okR_get tb_135_1 (by omega) hi
theorem tb_136_0 : okR 136 0 60 = true := by decide +kernel
theorem tb_136_1 : okR 136 60 115 = true := by decide +kernel
theorem tb_136 {i : Nat} (hi : i < 115) : okI 136 i = true := by
  by_cases h0 : i < 60
  · exact okR_get tb_136_0 (by omega) h0
  exact okR_get tb_136_1 (by omega) hi
theorem tb_137 : okR 137 0 40 = true := by decide +kernel
theorem tb_138 : okR 138 0 46 = true := by decide +kernel
theorem tb_139 : okR 139 0 12 = true := by decide +kernel
theorem tb_140 : okR 140 0 29 = true := by decide +kernel
theorem tb_141 : okR 141 0 24 = true := by decide +kernel
theorem tb_142 : okR 142 0 36 = true := by decide +kernel
theorem tb_143 : okR 143 0 32 = true := by decide +kernel
theorem tb_144 : okR 144 0 5 = true := by decide +kernel
theorem tb_145 : okR 145 0 57 = true := by decide +kernel
theorem tb_146 : okR 146 0 45 = true := by decide +kernel
theorem tb_147_0 : okR 147 0 60 = true := by decide +kernel
theorem tb_147_1 : okR 147 60 120 = true := by decide +kernel
theorem tb_147_2 : okR 147 120 130 = true := by decide +kernel
theorem tb_147 {i : Nat} (hi : i < 130) : okI 147 i = true := by
  by_cases h0 : i < 60
  · exact okR_get tb_147_0 (by omega) h0
  by_cases h1 : i < 120
  · exact okR_get tb_147_1 (by omega) h1
  exact okR_get tb_147_2 (by omega) hi
theorem tb_148 : okR 148 0 87 = true := by decide +kernel
theorem tb_149 : okR 149 0 66 = true := by decide +kernel
theorem tb_150_0 : okR 150 0 60 = true := by decide +kernel
theorem tb_150_1 : okR 150 60 98 = true := by decide +kernel
theorem tb_150 {i : Nat} (hi : i < 98) : okI 150 i = true := by
  by_cases h0 : i < 60
  · exact okR_get tb_150_0 (by omega) h0
  exact okR_get tb_150_1 (by omega) hi
theorem tb_151 : okR 151 0 71 = true := by decide +kernel
theorem tb_152 : okR 152 0 3 = true := by decide +kernel
theorem tb_153 : okR 153 0 36 = true := by decide +kernel
theorem tb_154 : okR 154 0 73 = true := by decide +kernel
theorem tb_155 : okR 155 0 17 = true := by decide +kernel
theorem tb_156 : okR 156 0 15 = true := by decide +kernel
theorem tb_157_0 : okR 157 0 60 = true := by decide +kernel
theorem tb_157_1 : okR 157 60 120 = true := by decide +kernel
theorem tb_157_2 : okR 157 120 180 = true := by decide +kernel
theorem tb_157_3 : okR 157 180 193 = true := by decide +kernel
theorem tb_157 {i : Nat} (hi : i < 193) : okI 157 i = true := by
  by_cases h0 : i < 60
  · exact okR_get tb_157_0 (by omega) h0
  by_cases h1 : i < 120
  · exact okR_get tb_157_1 (by omega) h1
  by_cases h2 : i < 180
  · exact okR_get tb_157_2 (by omega) h2
  exact okR_get tb_157_3 (by omega) hi
theorem tb_158 : okR 158 0 19 = true := by decide +kernel
theorem tb_159 : okR 159 0 11 = true := by decide +kernel
theorem tb_160_0 : okR 160 0 60 = true := by decide +kernel
theorem tb_160_1 : okR 160 60 120 = true := by decide +kernel
theorem tb_160_2 : okR 160 120 160 = true := by decide +kernel
theorem tb_160 {i : Nat} (hi : i < 160) : okI 160 i = true := by
  by_cases h0 : i < 60
  · exact okR_get tb_160_0 (by omega) h0
  by_cases h1 : i < 120
  · exact okR_get tb_160_1 (by omega) h1
  exact okR_get tb_160_2 (by omega) hi
theorem tb_161 : okR 161 0 16 = true := by decide +kernel
theorem tb_162 : okR 162 0 30 = true := by decide +kernel
theorem tb_163 : okR 163 0 30 = true := by decide +kernel
theorem tb_164 : okR 164 0 31 = true := by decide +kernel
theorem tb_165 : okR 165 0 46 = true := by decide +kernel
theorem tb_166 : okR 166 0 84 = true := by decide +kernel
theorem tb_167 : okR 167 0 25 = true := by decide +kernel
theorem tb_168 : okR 168 0 58 = true := by decide +kernel
theorem tb_169 : okR 169 0 60 = true := by decide +kernel
theorem tb_170 : okR 170 0 75 = true := by decide +kernel
theorem tb_171 : okR 171 0 71 = true := by decide +kernel
theorem tb_172 : okR 172 0 81 = true := by decide +kernel
theorem tb_173 : okR 173 0 43 = true := by decide +kernel
theorem tb_174 : okR 174 0 71 = true := by decide +kernel
theorem tb_175 : okR 175 0 44 = true := by decide +kernel
theorem tb_176 : okR 176 0 16 = true := by decide +kernel
theorem tb_177 : okR 177 0 19 = true := by decide +kernel
theorem tb_178_0 : okR 178 0 60 = true := by decide +kernel
theorem tb_178_1 : okR 178 60 120 = true := by decide +kernel
theorem tb_178_2 : okR 178 120 157 = true := by decide +kernel
theorem tb_178 {i : Nat} (hi : i < 157) : okI 178 i = true := by
  by_cases h0 : i < 60
  · exact okR_get tb_178_0 (by omega) h0
  by_cases h1 : i < 120
  · exact okR_get tb_178_1 (by omega) h1
  exact okR_get tb_178_2 (by omega) hi
theorem tb_179 : okR 179 0 35 = true := by decide +kernel
theorem tb_180 : okR 180 0 44 = true := by decide +kernel
theorem tb_181 : okR 181 0 78 = true := by decide +kernel
theorem tb_182_0 : okR 182 0 60 = true := by decide +kernel
theorem tb_182_1 : okR 182 60 120 = true := by decide +kernel
theorem tb_182_2 : okR 182 120 153 = true := by decide +kernel
theorem tb_182 {i : Nat} (hi : i < 153) : okI 182 i = true := by
  by_cases h0 : i < 60
  · exact okR_get tb_182_0 (by omega) h0
  by_cases h1 : i < 120
  · exact okR_get tb_182_1 (by omega) h1
  exact okR_get tb_182_2 (by omega) hi
theorem tb_183 : okR 183 0 73 = true := by decide +kernel
theorem tb_184 : okR 184 0 49 = true := by decide +kernel
theorem tb_185_0 : okR 185 0 60 = true := by decide +kernel
theorem tb_185_1 : okR 185 60 100 = true := by decide +kernel
theorem tb_185 {i : Nat} (hi : i < 100) : okI 185 i = true := by
  by_cases h0 : i < 60
  · exact okR_get tb_185_0 (by omega) h0
  exact okR_get tb_185_1 (by omega) hi
theorem tb_186 : okR 186 0 72 = true := by decide +kernel
theorem tb_187 : okR 187 0 33 = true := by decide +kernel
theorem tb_188 : okR 188 0 35 = true := by decide +kernel
theorem tb_189_0 : okR 189 0 60 = true := by decide +kernel
theorem tb_189_1 : okR 189 60 120 = true := by decide +kernel
theorem tb_189_2 : okR 189 120 180 = true := by decide +kernel
theorem tb_189_3 : okR 189 180 189 = true := by decide +kernel
theorem tb_189 {i : Nat} (hi : i < 189) : okI 189 i = true := by
  by_cases h0 : i < 60
  · exact okR_get tb_189_0 (by omega) h0
  by_cases h1 : i < 120
  · exact okR_get tb_189_1 (by omega) h1
  by_cases h2 : i < 180
  · exact okR_get tb_189_2 (by omega) h2
  exact okR_get tb_189_3 (by omega) hi
theorem tb_190 : okR 190 0 45 = true := by decide +kernel
theorem tb_191 : okR 191 0 27 = true := by decide +kernel
theorem tb_192 : okR 192 0 78 = true := by decide +kernel
theorem tb_193_0 : okR 193 0 60 = true := by decide +kernel
theorem tb_193_1 : okR 193 60 108 = true := by decide +kernel
theorem tb_193 {i : Nat} (hi : i < 108) : okI 193 i = true := by
  by_cases h0 : i < 60
  · exact okR_get tb_193_0 (by omega) h0
  exact okR_get tb_193_1 (by omega) hi
theorem tb_194 : okR 194 0 42 = true := by decide +kernel
theorem tb_195 : okR 195 0 7 = true := by decide +kernel
theorem tb_196 : okR 196 0 7 = true := by decide +kernel
theorem tb_197 : okR 197 0 13 = true := by decide +kernel
theorem tb_198 : okR 198 0 9 = true := by decide +kernel
theorem tb_199 : okR 199 0 11 = true := by decide +kernel
theorem tb_200 : okR 200 0 6 = true := by decide +kernel
theorem tb_201 : okR 201 0 12 = true := by decide +kernel
set_option maxRecDepth 20000 in
theorem gp_0 : ∀ r, r < 12 → ∀ i, i < (cod (12 * 0 + r)).length → okI (12 * 0 + r) i = true
  | 0, _, i, hi => tb_0 hi
  | 1, _, i, hi => okR_get tb_1 (Nat.zero_le _) hi
  | 2, _, i, hi => okR_get tb_2 (Nat.zero_le _) hi
  | 3, _, i, hi => okR_get tb_3 (Nat.zero_le _) hi
  | 4, _, i, hi => okR_get tb_4 (Nat.zero_le _) hi
  | 5, _, i, hi => okR_get tb_5 (Nat.zero_le _) hi
  | 6, _, i, hi => okR_get tb_6 (Nat.zero_le _) hi
  | 7, _, i, hi => okR_get tb_7 (Nat.zero_le _) hi
  | 8, _, i, hi => okR_get tb_8 (Nat.zero_le _) hi
  | 9, _, i, hi => okR_get tb_9 (Nat.zero_le _) hi
  | 10, _, i, hi => okR_get tb_10 (Nat.zero_le _) hi
  | 11, _, i, hi => okR_get tb_11 (Nat.zero_le _) hi
set_option maxRecDepth 20000 in
theorem gp_1 : ∀ r, r < 12 → ∀ i, i < (cod (12 * 1 + r)).length → okI (12 * 1 + r) i = true
  | 0, _, i, hi => okR_get tb_12 (Nat.zero_le _) hi
  | 1, _, i, hi => okR_get tb_13 (Nat.zero_le _) hi
  | 2, _, i, hi => okR_get tb_14 (Nat.zero_le _) hi
  | 3, _, i, hi => okR_get tb_15 (Nat.zero_le _) hi
  | 4, _, i, hi => okR_get tb_16 (Nat.zero_le _) hi
  | 5, _, i, hi => okR_get tb_17 (Nat.zero_le _) hi
  | 6, _, i, hi => okR_get tb_18 (Nat.zero_le _) hi
  | 7, _, i, hi => okR_get tb_19 (Nat.zero_le _) hi
  | 8, _, i, hi => tb_20 hi
  | 9, _, i, hi => okR_get tb_21 (Nat.zero_le _) hi
  | 10, _, i, hi => okR_get tb_22 (Nat.zero_le _) hi
  | 11, _, i, hi => okR_get tb_23 (Nat.zero_le _) hi
set_option maxRecDepth 20000 in
theorem gp_2 : ∀ r, r < 12 → ∀ i, i < (cod (12 * 2 + r)).length → okI (12 * 2 + r) i = true
  | 0, _, i, hi => okR_get tb_24 (Nat.zero_le _) hi
  | 1, _, i, hi => okR_get tb_25 (Nat.zero_le _) hi
  | 2, _, i, hi => okR_get tb_26 (Nat.zero_le _) hi
  | 3, _, i, hi => okR_get tb_27 (Nat.zero_le _) hi
  | 4, _, i, hi => okR_get tb_28 (Nat.zero_le _) hi
  | 5, _, i, hi => okR_get tb_29 (Nat.zero_le _) hi
  | 6, _, i, hi => okR_get tb_30 (Nat.zero_le _) hi
  | 7, _, i, hi => okR_get tb_31 (Nat.zero_le _) hi
  | 8, _, i, hi => okR_get tb_32 (Nat.zero_le _) hi
  | 9, _, i, hi => okR_get tb_33 (Nat.zero_le _) hi
  | 10, _, i, hi => okR_get tb_34 (Nat.zero_le _) hi
  | 11, _, i, hi => okR_get tb_35 (Nat.zero_le _) hi
set_option maxRecDepth 20000 in
theorem gp_3 : ∀ r, r < 12 → ∀ i, i < (cod (12 * 3 + r)).length → okI (12 * 3 + r) i = true
  | 0, _, i, hi => okR_get tb_36 (Nat.zero_le _) hi
  | 1, _, i, hi => okR_get tb_37 (Nat.zero_le _) hi
  | 2, _, i, hi => okR_get tb_38 (Nat.zero_le _) hi
  | 3, _, i, hi => okR_get tb_39 (Nat.zero_le _) hi
  | 4, _, i, hi => okR_get tb_40 (Nat.zero_le _) hi
  | 5, _, i, hi => okR_get tb_41 (Nat.zero_le _) hi
  | 6, _, i, hi => okR_get tb_42 (Nat.zero_le _) hi
  | 7, _, i, hi => okR_get tb_43 (Nat.zero_le _) hi
  | 8, _, i, hi => okR_get tb_44 (Nat.zero_le _) hi
  | 9, _, i, hi => okR_get tb_45 (Nat.zero_le _) hi
  | 10, _, i, hi => okR_get tb_46 (Nat.zero_le _) hi
  | 11, _, i, hi => okR_get tb_47 (Nat.zero_le _) hi
set_option maxRecDepth 20000 in
theorem gp_4 : ∀ r, r < 12 → ∀ i, i < (cod (12 * 4 + r)).length → okI (12 * 4 + r) i = true
  | 0, _, i, hi => okR_get tb_48 (Nat.zero_le _) hi
  | 1, _, i, hi => tb_49 hi
  | 2, _, i, hi => okR_get tb_50 (Nat.zero_le _) hi
  | 3, _, i, hi => okR_get tb_51 (Nat.zero_le _) hi
  | 4, _, i, hi => okR_get tb_52 (Nat.zero_le _) hi
  | 5, _, i, hi => okR_get tb_53 (Nat.zero_le _) hi
  | 6, _, i, hi => okR_get tb_54 (Nat.zero_le _) hi
  | 7, _, i, hi => okR_get tb_55 (Nat.zero_le _) hi
  | 8, _, i, hi => okR_get tb_56 (Nat.zero_le _) hi
  | 9, _, i, hi => okR_get tb_57 (Nat.zero_le _) hi
  | 10, _, i, hi => okR_get tb_58 (Nat.zero_le _) hi
  | 11, _, i, hi => okR_get tb_59 (Nat.zero_le _) hi
set_option maxRecDepth 20000 in
theorem gp_5 : ∀ r, r < 12 → ∀ i, i < (cod (12 * 5 + r)).length → okI (12 * 5 + r) i = true
  | 0, _, i, hi => okR_get tb_60 (Nat.zero_le _) hi
  | 1, _, i, hi => okR_get tb_61 (Nat.zero_le _) hi
  | 2, _, i, hi => okR_get tb_62 (Nat.zero_le _) hi
  | 3, _, i, hi => okR_get tb_63 (Nat.zero_le _) hi
  | 4, _, i, hi => okR_get tb_64 (Nat.zero_le _) hi
  | 5, _, i, hi => okR_get tb_65 (Nat.zero_le _) hi
  | 6, _, i, hi => okR_get tb_66 (Nat.zero_le _) hi
  | 7, _, i, hi => okR_get tb_67 (Nat.zero_le _) hi
  | 8, _, i, hi => okR_get tb_68 (Nat.zero_le _) hi
  | 9, _, i, hi => okR_get tb_69 (Nat.zero_le _) hi
  | 10, _, i, hi => okR_get tb_70 (Nat.zero_le _) hi
  | 11, _, i, hi => okR_get tb_71 (Nat.zero_le _) hi
set_option maxRecDepth 20000 in
theorem gp_6 : ∀ r, r < 12 → ∀ i, i < (cod (12 * 6 + r)).length → okI (12 * 6 + r) i = true
  | 0, _, i, hi => okR_get tb_72 (Nat.zero_le _) hi
  | 1, _, i, hi => okR_get tb_73 (Nat.zero_le _) hi
  | 2, _, i, hi => okR_get tb_74 (Nat.zero_le _) hi
  | 3, _, i, hi => okR_get tb_75 (Nat.zero_le _) hi
  | 4, _, i, hi => okR_get tb_76 (Nat.zero_le _) hi
  | 5, _, i, hi => okR_get tb_77 (Nat.zero_le _) hi
  | 6, _, i, hi => okR_get tb_78 (Nat.zero_le _) hi
  | 7, _, i, hi => okR_get tb_79 (Nat.zero_le _) hi
  | 8, _, i, hi => okR_get tb_80 (Nat.zero_le _) hi
  | 9, _, i, hi => okR_get tb_81 (Nat.zero_le _) hi
  | 10, _, i, hi => okR_get tb_82 (Nat.zero_le _) hi
  | 11, _, i, hi => okR_get tb_83 (Nat.zero_le _) hi
set_option maxRecDepth 20000 in
theorem gp_7 : ∀ r, r < 12 → ∀ i, i < (cod (12 * 7 + r)).length → okI (12 * 7 + r) i = true
  | 0, _, i, hi => okR_get tb_84 (Nat.zero_le _) hi
  | 1, _, i, hi => okR_get tb_85 (Nat.zero_le _) hi
  | 2, _, i, hi => okR_get tb_86 (Nat.zero_le _) hi
  | 3, _, i, hi => okR_get tb_87 (Nat.zero_le _) hi
  | 4, _, i, hi => okR_get tb_88 (Nat.zero_le _) hi
  | 5, _, i, hi => okR_get tb_89 (Nat.zero_le _) hi
  | 6, _, i, hi => okR_get tb_90 (Nat.zero_le _) hi
  | 7, _, i, hi => okR_get tb_91 (Nat.zero_le _) hi
  | 8, _, i, hi => okR_get tb_92 (Nat.zero_le _) hi
  | 9, _, i, hi => okR_get tb_93 (Nat.zero_le _) hi
  | 10, _, i, hi => okR_get tb_94 (Nat.zero_le _) hi
  | 11, _, i, hi => okR_get tb_95 (Nat.zero_le _) hi
set_option maxRecDepth 20000 in
theorem gp_8 : ∀ r, r < 12 → ∀ i, i < (cod (12 * 8 + r)).length → okI (12 * 8 + r) i = true
  | 0, _, i, hi => okR_get tb_96 (Nat.zero_le _) hi
  | 1, _, i, hi => okR_get tb_97 (Nat.zero_le _) hi
  | 2, _, i, hi => okR_get tb_98 (Nat.zero_le _) hi
  | 3, _, i, hi => okR_get tb_99 (Nat.zero_le _) hi
  | 4, _, i, hi => okR_get tb_100 (Nat.zero_le _) hi
  | 5, _, i, hi => okR_get tb_101 (Nat.zero_le _) hi
  | 6, _, i, hi => okR_get tb_102 (Nat.zero_le _) hi
  | 7, _, i, hi => okR_get tb_103 (Nat.zero_le _) hi
  | 8, _, i, hi => okR_get tb_104 (Nat.zero_le _) hi
  | 9, _, i, hi => okR_get tb_105 (Nat.zero_le _) hi
  | 10, _, i, hi => okR_get tb_106 (Nat.zero_le _) hi
  | 11, _, i, hi => okR_get tb_107 (Nat.zero_le _) hi
set_option maxRecDepth 20000 in
theorem gp_9 : ∀ r, r < 12 → ∀ i, i < (cod (12 * 9 + r)).length → okI (12 * 9 + r) i = true
  | 0, _, i, hi => okR_get tb_108 (Nat.zero_le _) hi
  | 1, _, i, hi => okR_get tb_109 (Nat.zero_le _) hi
  | 2, _, i, hi => okR_get tb_110 (Nat.zero_le _) hi
  | 3, _, i, hi => okR_get tb_111 (Nat.zero_le _) hi
  | 4, _, i, hi => okR_get tb_112 (Nat.zero_le _) hi
  | 5, _, i, hi => okR_get tb_113 (Nat.zero_le _) hi
  | 6, _, i, hi => okR_get tb_114 (Nat.zero_le _) hi
  | 7, _, i, hi => okR_get tb_115 (Nat.zero_le _) hi
  | 8, _, i, hi => okR_get tb_116 (Nat.zero_le _) hi
  | 9, _, i, hi => okR_get tb_117 (Nat.zero_le _) hi
  | 10, _, i, hi => okR_get tb_118 (Nat.zero_le _) hi
  | 11, _, i, hi => okR_get tb_119 (Nat.zero_le _) hi
set_option maxRecDepth 20000 in
theorem gp_10 : ∀ r, r < 12 → ∀ i, i < (cod (12 * 10 + r)).length → okI (12 * 10 + r) i = true
  | 0, _, i, hi => okR_get tb_120 (Nat.zero_le _) hi
  | 1, _, i, hi => okR_get tb_121 (Nat.zero_le _) hi
  | 2, _, i, hi => okR_get tb_122 (Nat.zero_le _) hi
  | 3, _, i, hi => okR_get tb_123 (Nat.zero_le _) hi
  | 4, _, i, hi => okR_get tb_124 (Nat.zero_le _) hi
  | 5, _, i, hi => tb_125 hi
  | 6, _, i, hi => okR_get tb_126 (Nat.zero_le _) hi
  | 7, _, i, hi => okR_get tb_127 (Nat.zero_le _) hi
  | 8, _, i, hi => okR_get tb_128 (Nat.zero_le _) hi
  | 9, _, i, hi => okR_get tb_129 (Nat.zero_le _) hi
  | 10, _, i, hi => tb_130 hi
  | 11, _, i, hi => okR_get tb_131 (Nat.zero_le _) hi
set_option maxRecDepth 20000 in
theorem gp_11 : ∀ r, r < 12 → ∀ i, i < (cod (12 * 11 + r)).length → okI (12 * 11 + r) i = true
  | 0, _, i, hi => okR_get tb_132 (Nat.zero_le _) hi
  | 1, _, i, hi => okR_get tb_133 (Nat.zero_le _) hi
  | 2, _, i, hi => okR_get tb_134 (Nat.zero_le _) hi
  | 3, _, i, hi => tb_135 hi
  | 4, _, i, hi => tb_136 hi
  | 5, _, i, hi => okR_get tb_137 (Nat.zero_le _) hi
  | 6, _, i, hi => okR_get tb_138 (Nat.zero_le _) hi
  | 7, _, i, hi => okR_get tb_139 (Nat.zero_le _) hi
  | 8, _, i, hi => okR_get tb_140 (Nat.zero_le _) hi
  | 9, _, i, hi => okR_get tb_141 (Nat.zero_le _) hi
  | 10, _, i, hi => okR_get tb_142 (Nat.zero_le _) hi
  | 11, _, i, hi => okR_get tb_143 (Nat.zero_le _) hi
set_option maxRecDepth 20000 in
theorem gp_12 : ∀ r, r < 12 → ∀ i, i < (cod (12 * 12 + r)).length → okI (12 * 12 + r) i = true
  | 0, _, i, hi => okR_get tb_144 (Nat.zero_le _) hi
  | 1, _, i, hi => okR_get tb_145 (Nat.zero_le _) hi
  | 2, _, i, hi => okR_get tb_146 (Nat.zero_le _) hi
  | 3, _, i, hi => tb_147 hi
  | 4, _, i, hi => okR_get tb_148 (Nat.zero_le _) hi
  | 5, _, i, hi => okR_get tb_149 (Nat.zero_le _) hi
  | 6, _, i, hi => tb_150 hi
  | 7, _, i, hi => okR_get tb_151 (Nat.zero_le _) hi
  | 8, _, i, hi => okR_get tb_152 (Nat.zero_le _) hi
  | 9, _, i, hi => okR_get tb_153 (Nat.zero_le _) hi
  | 10, _, i, hi => okR_get tb_154 (Nat.zero_le _) hi
  | 11, _, i, hi => okR_get tb_155 (Nat.zero_le _) hi
set_option maxRecDepth 20000 in
theorem gp_13 : ∀ r, r < 12 → ∀ i, i < (cod (12 * 13 + r)).length → okI (12 * 13 + r) i = true
  | 0, _, i, hi => okR_get tb_156 (Nat.zero_le _) hi
  | 1, _, i, hi => tb_157 hi
  | 2, _, i, hi => okR_get tb_158 (Nat.zero_le _) hi
  | 3, _, i, hi => okR_get tb_159 (Nat.zero_le _) hi
  | 4, _, i, hi => tb_160 hi
  | 5, _, i, hi => okR_get tb_161 (Nat.zero_le _) hi
  | 6, _, i, hi => okR_get tb_162 (Nat.zero_le _) hi
  | 7, _, i, hi => okR_get tb_163 (Nat.zero_le _) hi
  | 8, _, i, hi => okR_get tb_164 (Nat.zero_le _) hi
  | 9, _, i, hi => okR_get tb_165 (Nat.zero_le _) hi
  | 10, _, i, hi => okR_get tb_166 (Nat.zero_le _) hi
  | 11, _, i, hi => okR_get tb_167 (Nat.zero_le _) hi
set_option maxRecDepth 20000 in
theorem gp_14 : ∀ r, r < 12 → ∀ i, i < (cod (12 * 14 + r)).length → okI (12 * 14 + r) i = true
  | 0, _, i, hi => okR_get tb_168 (Nat.zero_le _) hi
  | 1, _, i, hi => okR_get tb_169 (Nat.zero_le _) hi
  | 2, _, i, hi => okR_get tb_170 (Nat.zero_le _) hi
  | 3, _, i, hi => okR_get tb_171 (Nat.zero_le _) hi
  | 4, _, i, hi => okR_get tb_172 (Nat.zero_le _) hi
  | 5, _, i, hi => okR_get tb_173 (Nat.zero_le _) hi
  | 6, _, i, hi => okR_get tb_174 (Nat.zero_le _) hi
  | 7, _, i, hi => okR_get tb_175 (Nat.zero_le _) hi
  | 8, _, i, hi => okR_get tb_176 (Nat.zero_le _) hi
  | 9, _, i, hi => okR_get tb_177 (Nat.zero_le _) hi
  | 10, _, i, hi => tb_178 hi
  | 11, _, i, hi => okR_get tb_179 (Nat.zero_le _) hi
set_option maxRecDepth 20000 in
theorem gp_15 : ∀ r, r < 12 → ∀ i, i < (cod (12 * 15 + r)).length → okI (12 * 15 + r) i = true
  | 0, _, i, hi => okR_get tb_180 (Nat.zero_le _) hi
  | 1, _, i, hi => okR_get tb_181 (Nat.zero_le _) hi
  | 2, _, i, hi => tb_182 hi
  | 3, _, i, hi => okR_get tb_183 (Nat.zero_le _) hi
  | 4, _, i, hi => okR_get tb_184 (Nat.zero_le _) hi
  | 5, _, i, hi => tb_185 hi
  | 6, _, i, hi => okR_get tb_186 (Nat.zero_le _) hi
  | 7, _, i, hi => okR_get tb_187 (Nat.zero_le _) hi
  | 8, _, i, hi => okR_get tb_188 (Nat.zero_le _) hi
  | 9, _, i, hi => tb_189 hi
  | 10, _, i, hi => okR_get tb_190 (Nat.zero_le _) hi
  | 11, _, i, hi => okR_get tb_191 (Nat.zero_le _) hi
set_option maxRecDepth 20000 in
theorem gp_16 : ∀ r, r < 10 → ∀ i, i < (cod (12 * 16 + r)).length → okI (12 * 16 + r) i = true
  | 0, _, i, hi => okR_get tb_192 (Nat.zero_le _) hi
  | 1, _, i, hi => tb_193 hi
  | 2, _, i, hi => okR_get tb_194 (Nat.zero_le _) hi
  | 3, _, i, hi => okR_get tb_195 (Nat.zero_le _) hi
  | 4, _, i, hi => okR_get tb_196 (Nat.zero_le _) hi
  | 5, _, i, hi => okR_get tb_197 (Nat.zero_le _) hi
  | 6, _, i, hi => okR_get tb_198 (Nat.zero_le _) hi
  | 7, _, i, hi => okR_get tb_199 (Nat.zero_le _) hi
  | 8, _, i, hi => okR_get tb_200 (Nat.zero_le _) hi
  | 9, _, i, hi => okR_get tb_201 (Nat.zero_le _) hi
theorem okI_all (k i : Nat) (hk : k < 202) (hi : i < (cod k).length) : okI k i = true := by
  have e : 12 * (k / 12) + k % 12 = k := Nat.div_add_mod k 12
  have h2 : k % 12 < 12 := Nat.mod_lt _ (by decide)
  rw [← e] at hi ⊢
  generalize k / 12 = g at *
  generalize k % 12 = r at *
  match g, hi with
  | 0, hi => exact gp_0 r (by omega) i hi
  | 1, hi => exact gp_1 r (by omega) i hi
  | 2, hi => exact gp_2 r (by omega) i hi
  | 3, hi => exact gp_3 r (by omega) i hi
  | 4, hi => exact gp_4 r (by omega) i hi
  | 5, hi => exact gp_5 r (by omega) i hi
  | 6, hi => exact gp_6 r (by omega) i hi
  | 7, hi => exact gp_7 r (by omega) i hi
  | 8, hi => exact gp_8 r (by omega) i hi
  | 9, hi => exact gp_9 r (by omega) i hi
  | 10, hi => exact gp_10 r (by omega) i hi
  | 11, hi => exact gp_11 r (by omega) i hi
  | 12, hi => exact gp_12 r (by omega) i hi
  | 13, hi => exact gp_13 r (by omega) i hi
  | 14, hi => exact gp_14 r (by omega) i hi
  | 15, hi => exact gp_15 r (by omega) i hi
  | 16, hi => exact gp_16 r (by omega) i hi
  | m + 17, _ => exact absurd hk (by omega)
theorem wd_in {k i : Nat} (h : iO (wd k i) ≠ 99) : k < 202 ∧ i < (cod k).length := by
  have hi : i < (cod k).length := by
    rcases Nat.lt_or_ge i (cod k).length with q | q
    · exact q
    · exfalso
      refine h ?_
      unfold wd
      rw [List.getD_eq_getElem?_getD, List.getElem?_eq_none_iff.mpr q]
      decide
  refine ⟨?_, hi⟩
  rcases Nat.lt_or_ge k 202 with q | q
  · exact q
  · exfalso
    have hl : ctab.length = 202 := by decide +kernel
    unfold cod at hi
    rw [List.getD_eq_getElem?_getD, List.getElem?_eq_none_iff.mpr (by omega)] at hi
    exact absurd hi (Nat.not_lt_zero _)
theorem okI_dec {k i : Nat} (h99 : iO (wd k i) ≠ 99) : ∃ ins len, decode (mB k) (pcA k i) = .ok (ins, len) ∧ okO k i (wd k i) (pcA k (i + 1)) ins len = true := by
  obtain ⟨hk, hi⟩ := wd_in h99
  have hI := okI_all k i hk hi
  unfold okI at hI
  split at hI
  · rename_i ins len hd
    refine ⟨ins, len, hd, ?_⟩
    rcases Bool.or_eq_true_iff.mp hI with h | h
    · exact h
    · exact absurd (by simpa using h) h99
  · cases hI
