theorem fX5_11 : FL RX5 11 5 0 2 := ⟨by decide, by decide, by decide, lw_at 271 (by decide +kernel) rfl⟩
theorem fX5_15 : FL RX5 15 5 1 2 := ⟨by decide, by decide, by decide, lw_at 272 (by decide +kernel) rfl⟩
theorem fX5_21 : FL RX5 21 5 2 2 := ⟨by decide, by decide, by decide, lw_at 273 (by decide +kernel) rfl⟩
theorem fX5_25 : FL RX5 25 5 3 2 := ⟨by decide, by decide, by decide, lw_at 274 (by decide +kernel) rfl⟩
theorem fX5_29 : FL RX5 29 5 4 2 := ⟨by decide, by decide, by decide, lw_at 275 (by decide +kernel) rfl⟩
theorem fX5_33 : FL RX5 33 5 5 2 := ⟨by decide, by decide, by decide, lw_at 276 (by decide +kernel) rfl⟩
theorem fX5_39 : FL RX5 39 5 6 2 := ⟨by decide, by decide, by decide, lw_at 277 (by decide +kernel) rfl⟩
theorem fX5_46 : FL RX5 46 5 7 2 := ⟨by decide, by decide, by decide, lw_at 278 (by decide +kernel) rfl⟩
theorem fX5_53 : FL RX5 53 5 8 2 := ⟨by decide, by decide, by decide, lw_at 279 (by decide +kernel) rfl⟩
theorem fX5_57 : FL RX5 57 5 9 2 := ⟨by decide, by decide, by decide, lw_at 280 (by decide +kernel) rfl⟩
theorem fX5_60 : FL RX5 60 5 10 2 := ⟨by decide, by decide, by decide, lw_at 281 (by decide +kernel) rfl⟩
theorem fX5_64 : FL RX5 64 5 11 0 := ⟨by decide, by decide, by decide, lw_at 282 (by decide +kernel) rfl⟩
theorem fX5_64p : FP RX5 64 5 11 0 := ⟨fX5_64, rfl⟩
theorem fX5_68 : FL RX5 68 5 12 0 := ⟨by decide, by decide, by decide, lw_at 283 (by decide +kernel) rfl⟩
theorem fX5_68p : FP RX5 68 5 12 0 := ⟨fX5_68, rfl⟩
theorem fX5_72 : FL RX5 72 5 13 1 := ⟨by decide, by decide, by decide, lw_at 284 (by decide +kernel) rfl⟩
theorem fX5_72p : FP RX5 72 5 13 1 := ⟨fX5_72, rfl⟩
theorem fX5_76 : FL RX5 76 5 14 0 := ⟨by decide, by decide, by decide, lw_at 285 (by decide +kernel) rfl⟩
theorem fX5_76p : FP RX5 76 5 14 0 := ⟨fX5_76, rfl⟩
theorem fX5_101 : FL RX5 101 3 0 2 := ⟨by decide, by decide, by decide, lw_at 262 (by decide +kernel) rfl⟩
theorem fX5_117 : FL RX5 117 3 1 0 := ⟨by decide, by decide, by decide, lw_at 265 (by decide +kernel) rfl⟩
theorem fX5_117p : FP RX5 117 3 1 0 := ⟨fX5_117, rfl⟩
theorem fX5_135 : FL RX5 135 1 4 0 := ⟨by decide, by decide, by decide, lw_at 118 (by decide +kernel) rfl⟩
theorem fX5_135p : FP RX5 135 1 4 0 := ⟨fX5_135, rfl⟩
theorem fX5_140 : FL RX5 140 4 0 2 := ⟨by decide, by decide, by decide, lw_at 202 (by decide +kernel) rfl⟩
theorem fX5_160 : FL RX5 160 1 12 0 := ⟨by decide, by decide, by decide, lw_at 130 (by decide +kernel) rfl⟩
theorem fX5_160p : FP RX5 160 1 12 0 := ⟨fX5_160, rfl⟩
theorem fX5_170 : FL RX5 170 1 2 2 := ⟨by decide, by decide, by decide, lw_at 110 (by decide +kernel) rfl⟩
theorem fX5_176 : FL RX5 176 1 3 2 := ⟨by decide, by decide, by decide, lw_at 113 (by decide +kernel) rfl⟩
theorem fX5_201 : FL RX5 201 0 8 0 := ⟨by decide, by decide, by decide, lw_at 232 (by decide +kernel) rfl⟩
theorem fX5_201p : FP RX5 201 0 8 0 := ⟨fX5_201, rfl⟩
theorem fX5_211 : FL RX5 211 0 4 2 := ⟨by decide, by decide, by decide, lw_at 225 (by decide +kernel) rfl⟩
theorem fX5_214 : FL RX5 214 0 5 2 := ⟨by decide, by decide, by decide, lw_at 227 (by decide +kernel) rfl⟩
theorem fX5_221 : FL RX5 221 1 0 2 := ⟨by decide, by decide, by decide, lw_at 104 (by decide +kernel) rfl⟩
theorem fX5_238 : FL RX5 238 1 5 0 := ⟨by decide, by decide, by decide, lw_at 122 (by decide +kernel) rfl⟩
theorem fX5_238p : FP RX5 238 1 5 0 := ⟨fX5_238, rfl⟩
theorem fX5_244 : FL RX5 244 0 7 0 := ⟨by decide, by decide, by decide, lw_at 230 (by decide +kernel) rfl⟩
theorem fX5_244p : FP RX5 244 0 7 0 := ⟨fX5_244, rfl⟩
theorem fX5_258 : FL RX5 258 1 1 2 := ⟨by decide, by decide, by decide, lw_at 107 (by decide +kernel) rfl⟩
theorem fX0_11 : FL RX0 11 0 0 2 := ⟨by decide, by decide, by decide, lw_at 220 (by decide +kernel) rfl⟩
theorem fX0_16 : FL RX0 16 0 1 2 := ⟨by decide, by decide, by decide, lw_at 221 (by decide +kernel) rfl⟩
theorem fX0_19 : FL RX0 19 0 2 2 := ⟨by decide, by decide, by decide, lw_at 222 (by decide +kernel) rfl⟩
theorem fX0_22 : FL RX0 22 0 3 2 := ⟨by decide, by decide, by decide, lw_at 223 (by decide +kernel) rfl⟩
theorem fX0_25 : FL RX0 25 0 4 2 := ⟨by decide, by decide, by decide, lw_at 224 (by decide +kernel) rfl⟩
theorem fX0_29 : FL RX0 29 0 5 2 := ⟨by decide, by decide, by decide, lw_at 226 (by decide +kernel) rfl⟩
theorem fX0_32 : FL RX0 32 0 6 2 := ⟨by decide, by decide, by decide, lw_at 228 (by decide +kernel) rfl⟩
theorem fX0_35 : FL RX0 35 0 7 0 := ⟨by decide, by decide, by decide, lw_at 229 (by decide +kernel) rfl⟩
theorem fX0_35p : FP RX0 35 0 7 0 := ⟨fX0_35, rfl⟩
theorem fX0_39 : FL RX0 39 0 8 0 := ⟨by decide, by decide, by decide, lw_at 231 (by decide +kernel) rfl⟩
theorem fX0_39p : FP RX0 39 0 8 0 := ⟨fX0_39, rfl⟩
theorem fX0_42 : FL RX0 42 1 4 0 := ⟨by decide, by decide, by decide, lw_at 115 (by decide +kernel) rfl⟩
theorem fX0_42p : FP RX0 42 1 4 0 := ⟨fX0_42, rfl⟩
theorem fX0_91 : FL RX0 91 1 0 2 := ⟨by decide, by decide, by decide, lw_at 103 (by decide +kernel) rfl⟩
theorem fX1_9 : FL RX1 9 1 0 2 := ⟨by decide, by decide, by decide, lw_at 101 (by decide +kernel) rfl⟩
theorem fX1_15 : FL RX1 15 1 1 2 := ⟨by decide, by decide, by decide, lw_at 105 (by decide +kernel) rfl⟩
theorem fX1_18 : FL RX1 18 1 2 2 := ⟨by decide, by decide, by decide, lw_at 108 (by decide +kernel) rfl⟩
theorem fX1_21 : FL RX1 21 1 3 2 := ⟨by decide, by decide, by decide, lw_at 111 (by decide +kernel) rfl⟩
theorem fX1_24 : FL RX1 24 1 4 0 := ⟨by decide, by decide, by decide, lw_at 114 (by decide +kernel) rfl⟩
theorem fX1_24p : FP RX1 24 1 4 0 := ⟨fX1_24, rfl⟩
theorem fX1_28 : FL RX1 28 1 5 0 := ⟨by decide, by decide, by decide, lw_at 119 (by decide +kernel) rfl⟩
theorem fX1_28p : FP RX1 28 1 5 0 := ⟨fX1_28, rfl⟩
theorem fX1_31 : FL RX1 31 1 6 2 := ⟨by decide, by decide, by decide, lw_at 123 (by decide +kernel) rfl⟩
theorem fX1_34 : FL RX1 34 1 7 2 := ⟨by decide, by decide, by decide, lw_at 124 (by decide +kernel) rfl⟩
theorem fX1_37 : FL RX1 37 1 8 2 := ⟨by decide, by decide, by decide, lw_at 125 (by decide +kernel) rfl⟩
theorem fX1_40 : FL RX1 40 1 9 2 := ⟨by decide, by decide, by decide, lw_at 126 (by decide +kernel) rfl⟩
theorem fX1_43 : FL RX1 43 1 10 2 := ⟨by decide, by decide, by decide, lw_at 127 (by decide +kernel) rfl⟩
theorem fX1_46 : FL RX1 46 1 11 2 := ⟨by decide, by decide, by decide, lw_at 128 (by decide +kernel) rfl⟩
theorem fX1_49 : FL RX1 49 1 12 0 := ⟨by decide, by decide, by decide, lw_at 129 (by decide +kernel) rfl⟩
theorem fX1_49p : FP RX1 49 1 12 0 := ⟨fX1_49, rfl⟩
theorem fX2_9 : FL RX2 9 2 0 2 := ⟨by decide, by decide, by decide, lw_at 166 (by decide +kernel) rfl⟩
theorem fX2_15 : FL RX2 15 2 1 0 := ⟨by decide, by decide, by decide, lw_at 167 (by decide +kernel) rfl⟩
theorem fX2_15p : FP RX2 15 2 1 0 := ⟨fX2_15, rfl⟩
theorem fX2_19 : FL RX2 19 2 2 0 := ⟨by decide, by decide, by decide, lw_at 168 (by decide +kernel) rfl⟩
theorem fX2_19p : FP RX2 19 2 2 0 := ⟨fX2_19, rfl⟩
theorem fX2_22 : FL RX2 22 2 3 0 := ⟨by decide, by decide, by decide, lw_at 169 (by decide +kernel) rfl⟩
theorem fX2_22p : FP RX2 22 2 3 0 := ⟨fX2_22, rfl⟩
theorem fX2_25 : FL RX2 25 2 4 0 := ⟨by decide, by decide, by decide, lw_at 170 (by decide +kernel) rfl⟩
theorem fX2_25p : FP RX2 25 2 4 0 := ⟨fX2_25, rfl⟩
theorem fX2_28 : FL RX2 28 2 5 1 := ⟨by decide, by decide, by decide, lw_at 171 (by decide +kernel) rfl⟩
theorem fX2_28p : FP RX2 28 2 5 1 := ⟨fX2_28, rfl⟩
theorem fX2_32 : FL RX2 32 2 6 0 := ⟨by decide, by decide, by decide, lw_at 172 (by decide +kernel) rfl⟩
theorem fX2_32p : FP RX2 32 2 6 0 := ⟨fX2_32, rfl⟩
theorem fX2_35 : FL RX2 35 2 7 0 := ⟨by decide, by decide, by decide, lw_at 173 (by decide +kernel) rfl⟩
theorem fX2_35p : FP RX2 35 2 7 0 := ⟨fX2_35, rfl⟩
theorem fX2_38 : FL RX2 38 2 8 0 := ⟨by decide, by decide, by decide, lw_at 174 (by decide +kernel) rfl⟩
theorem fX2_38p : FP RX2 38 2 8 0 := ⟨fX2_38, rfl⟩
theorem fX2_42 : FL RX2 42 3 1 0 := ⟨by decide, by decide, by decide, lw_at 264 (by decide +kernel) rfl⟩
theorem fX2_42p : FP RX2 42 3 1 0 := ⟨fX2_42, rfl⟩
theorem fX2_54 : FL RX2 54 3 0 2 := ⟨by decide, by decide, by decide, lw_at 261 (by decide +kernel) rfl⟩
theorem fX2_90 : FL RX2 90 1 4 0 := ⟨by decide, by decide, by decide, lw_at 117 (by decide +kernel) rfl⟩
theorem fX2_90p : FP RX2 90 1 4 0 := ⟨fX2_90, rfl⟩
theorem fX2_107 : FL RX2 107 1 5 0 := ⟨by decide, by decide, by decide, lw_at 121 (by decide +kernel) rfl⟩
theorem fX2_107p : FP RX2 107 1 5 0 := ⟨fX2_107, rfl⟩
theorem fX3_7 : FL RX3 7 3 1 0 := ⟨by decide, by decide, by decide, lw_at 263 (by decide +kernel) rfl⟩
theorem fX3_7p : FP RX3 7 3 1 0 := ⟨fX3_7, rfl⟩
theorem fX3_19 : FL RX3 19 3 0 2 := ⟨by decide, by decide, by decide, lw_at 260 (by decide +kernel) rfl⟩
theorem fX4_9 : FL RX4 9 4 0 2 := ⟨by decide, by decide, by decide, lw_at 201 (by decide +kernel) rfl⟩
theorem fX4_15 : FL RX4 15 4 1 2 := ⟨by decide, by decide, by decide, lw_at 203 (by decide +kernel) rfl⟩
theorem fX4_18 : FL RX4 18 4 2 0 := ⟨by decide, by decide, by decide, lw_at 204 (by decide +kernel) rfl⟩
theorem fX4_18p : FP RX4 18 4 2 0 := ⟨fX4_18, rfl⟩
theorem fX4_22 : FL RX4 22 1 4 0 := ⟨by decide, by decide, by decide, lw_at 116 (by decide +kernel) rfl⟩
theorem fX4_22p : FP RX4 22 1 4 0 := ⟨fX4_22, rfl⟩
theorem fX4_25 : FL RX4 25 1 0 2 := ⟨by decide, by decide, by decide, lw_at 102 (by decide +kernel) rfl⟩
theorem fX4_28 : FL RX4 28 1 1 2 := ⟨by decide, by decide, by decide, lw_at 106 (by decide +kernel) rfl⟩
theorem fX4_43 : FL RX4 43 1 2 2 := ⟨by decide, by decide, by decide, lw_at 109 (by decide +kernel) rfl⟩
theorem fX4_46 : FL RX4 46 1 3 2 := ⟨by decide, by decide, by decide, lw_at 112 (by decide +kernel) rfl⟩
theorem fX4_52 : FL RX4 52 1 5 0 := ⟨by decide, by decide, by decide, lw_at 120 (by decide +kernel) rfl⟩
theorem fX4_52p : FP RX4 52 1 5 0 := ⟨fX4_52, rfl⟩
theorem fX6_9 : FL RX6 9 6 2 2 := ⟨by decide, by decide, by decide, lw_at 850 (by decide +kernel) rfl⟩
theorem fX6_13 : FL RX6 13 6 3 2 := ⟨by decide, by decide, by decide, lw_at 851 (by decide +kernel) rfl⟩
theorem fX6_16 : FL RX6 16 6 4 2 := ⟨by decide, by decide, by decide, lw_at 852 (by decide +kernel) rfl⟩
theorem fX6_19 : FL RX6 19 6 5 2 := ⟨by decide, by decide, by decide, lw_at 853 (by decide +kernel) rfl⟩
theorem fX6_22 : FL RX6 22 6 6 2 := ⟨by decide, by decide, by decide, lw_at 854 (by decide +kernel) rfl⟩
theorem fX6_25 : FL RX6 25 6 7 2 := ⟨by decide, by decide, by decide, lw_at 855 (by decide +kernel) rfl⟩
theorem fX6_29 : FL RX6 29 6 15 2 := ⟨by decide, by decide, by decide, lw_at 863 (by decide +kernel) rfl⟩
theorem fX6_32 : FL RX6 32 6 17 2 := ⟨by decide, by decide, by decide, lw_at 865 (by decide +kernel) rfl⟩
theorem fX6_35 : FL RX6 35 6 19 2 := ⟨by decide, by decide, by decide, lw_at 867 (by decide +kernel) rfl⟩
theorem fX6_38 : FL RX6 38 6 21 2 := ⟨by decide, by decide, by decide, lw_at 869 (by decide +kernel) rfl⟩
theorem fX6_41 : FL RX6 41 6 22 2 := ⟨by decide, by decide, by decide, lw_at 870 (by decide +kernel) rfl⟩
theorem fX6_44 : FL RX6 44 6 23 2 := ⟨by decide, by decide, by decide, lw_at 871 (by decide +kernel) rfl⟩
theorem fX6_47 : FL RX6 47 6 24 2 := ⟨by decide, by decide, by decide, lw_at 872 (by decide +kernel) rfl⟩
theorem fX6_50 : FL RX6 50 6 25 2 := ⟨by decide, by decide, by decide, lw_at 873 (by decide +kernel) rfl⟩
theorem fX6_53 : FL RX6 53 6 27 2 := ⟨by decide, by decide, by decide, lw_at 875 (by decide +kernel) rfl⟩
theorem fX6_56 : FL RX6 56 6 28 2 := ⟨by decide, by decide, by decide, lw_at 876 (by decide +kernel) rfl⟩
theorem fX6_59 : FL RX6 59 6 29 2 := ⟨by decide, by decide, by decide, lw_at 877 (by decide +kernel) rfl⟩
theorem fX6_62 : FL RX6 62 6 32 2 := ⟨by decide, by decide, by decide, lw_at 880 (by decide +kernel) rfl⟩
theorem fX6_65 : FL RX6 65 6 33 2 := ⟨by decide, by decide, by decide, lw_at 881 (by decide +kernel) rfl⟩
theorem fX6_68 : FL RX6 68 6 1 0 := ⟨by decide, by decide, by decide, lw_at 849 (by decide +kernel) rfl⟩
theorem fX6_68p : FP RX6 68 6 1 0 := ⟨fX6_68, rfl⟩
theorem fX6_72 : FL RX6 72 6 0 0 := ⟨by decide, by decide, by decide, lw_at 848 (by decide +kernel) rfl⟩
theorem fX6_72p : FP RX6 72 6 0 0 := ⟨fX6_72, rfl⟩
theorem fX6_97 : FL RX6 97 6 8 0 := ⟨by decide, by decide, by decide, lw_at 856 (by decide +kernel) rfl⟩
theorem fX6_97p : FP RX6 97 6 8 0 := ⟨fX6_97, rfl⟩
theorem fX6_107 : FL RX6 107 6 9 0 := ⟨by decide, by decide, by decide, lw_at 857 (by decide +kernel) rfl⟩
theorem fX6_107p : FP RX6 107 6 9 0 := ⟨fX6_107, rfl⟩
theorem fX6_110 : FL RX6 110 6 10 0 := ⟨by decide, by decide, by decide, lw_at 858 (by decide +kernel) rfl⟩
theorem fX6_110p : FP RX6 110 6 10 0 := ⟨fX6_110, rfl⟩
theorem fX6_120 : FL RX6 120 6 11 1 := ⟨by decide, by decide, by decide, lw_at 859 (by decide +kernel) rfl⟩
theorem fX6_120p : FP RX6 120 6 11 1 := ⟨fX6_120, rfl⟩
theorem fX6_130 : FL RX6 130 6 12 0 := ⟨by decide, by decide, by decide, lw_at 860 (by decide +kernel) rfl⟩
theorem fX6_130p : FP RX6 130 6 12 0 := ⟨fX6_130, rfl⟩
theorem fX6_173 : FL RX6 173 6 13 0 := ⟨by decide, by decide, by decide, lw_at 861 (by decide +kernel) rfl⟩
theorem fX6_173p : FP RX6 173 6 13 0 := ⟨fX6_173, rfl⟩
theorem fX6_177 : FL RX6 177 6 14 0 := ⟨by decide, by decide, by decide, lw_at 862 (by decide +kernel) rfl⟩
theorem fX6_177p : FP RX6 177 6 14 0 := ⟨fX6_177, rfl⟩
theorem fX6_201 : FL RX6 201 6 16 0 := ⟨by decide, by decide, by decide, lw_at 864 (by decide +kernel) rfl⟩
theorem fX6_201p : FP RX6 201 6 16 0 := ⟨fX6_201, rfl⟩
theorem fX6_204 : FL RX6 204 6 20 0 := ⟨by decide, by decide, by decide, lw_at 868 (by decide +kernel) rfl⟩
theorem fX6_204p : FP RX6 204 6 20 0 := ⟨fX6_204, rfl⟩
theorem fX6_207 : FL RX6 207 6 18 0 := ⟨by decide, by decide, by decide, lw_at 866 (by decide +kernel) rfl⟩
theorem fX6_207p : FP RX6 207 6 18 0 := ⟨fX6_207, rfl⟩
theorem fX6_274 : FL RX6 274 6 26 0 := ⟨by decide, by decide, by decide, lw_at 874 (by decide +kernel) rfl⟩
theorem fX6_274p : FP RX6 274 6 26 0 := ⟨fX6_274, rfl⟩
theorem fX6_299 : FL RX6 299 6 30 1 := ⟨by decide, by decide, by decide, lw_at 878 (by decide +kernel) rfl⟩
theorem fX6_299p : FP RX6 299 6 30 1 := ⟨fX6_299, rfl⟩
theorem fX6_302 : FL RX6 302 6 31 0 := ⟨by decide, by decide, by decide, lw_at 879 (by decide +kernel) rfl⟩
theorem fX6_302p : FP RX6 302 6 31 0 := ⟨fX6_302, rfl⟩
theorem fX6_331 : FL RX6 331 6 34 1 := ⟨by decide, by decide, by decide, lw_at 882 (by decide +kernel) rfl⟩
theorem fX6_331p : FP RX6 331 6 34 1 := ⟨fX6_331, rfl⟩
set_option maxRecDepth 20000 in
theorem cmX1_init : CM mX1_init 0 := ⟨⟨by decide +kernel, by decide +kernel, by decide +kernel⟩, by decide, lw_at 99 rfl rfl, lw_at 72 (by decide +kernel) rfl⟩
theorem kX5_20 : CIN RX5 20 mX1_init 0 "CaseCutter" := ⟨by decide +kernel, lw_at 98 (by decide +kernel) rfl, rfl, rfl, cmX1_init⟩
set_option maxRecDepth 20000 in
theorem cmX2_init : CM mX2_init 0 := ⟨⟨by decide +kernel, by decide +kernel, by decide +kernel⟩, by decide, lw_at 164 rfl rfl, lw_at 73 (by decide +kernel) rfl⟩
theorem kX5_38 : CIN RX5 38 mX2_init 0 "CaseCutter" := ⟨by decide +kernel, lw_at 163 (by decide +kernel) rfl, rfl, rfl, cmX2_init⟩
set_option maxRecDepth 20000 in
theorem cmX4_init : CM mX4_init 0 := ⟨⟨by decide +kernel, by decide +kernel, by decide +kernel⟩, by decide, lw_at 199 rfl rfl, lw_at 74 (by decide +kernel) rfl⟩
theorem kX5_45 : CIN RX5 45 mX4_init 0 "CaseCutter" := ⟨by decide +kernel, lw_at 198 (by decide +kernel) rfl, rfl, rfl, cmX4_init⟩
set_option maxRecDepth 20000 in
theorem cmX0_init : CM mX0_init 0 := ⟨⟨by decide +kernel, by decide +kernel, by decide +kernel⟩, by decide, lw_at 216 rfl rfl, lw_at 75 (by decide +kernel) rfl⟩
theorem kX5_52 : CIN RX5 52 mX0_init 0 "CaseCutter" := ⟨by decide +kernel, lw_at 215 (by decide +kernel) rfl, rfl, rfl, cmX0_init⟩
set_option maxRecDepth 20000 in
theorem cmX3_init : CM mX3_init 1 := ⟨⟨by decide +kernel, by decide +kernel, by decide +kernel⟩, by decide, lw_at 255 rfl rfl, lw_at 76 (by decide +kernel) rfl⟩
theorem kX5_79 : CI RX5 79 mX3_init 1 := ⟨lw_at 253 (by decide +kernel) rfl, lw_at 254 (by decide +kernel) rfl, rfl, rfl, cmX3_init⟩
set_option maxRecDepth 20000 in
theorem cmX5_isRow : CM mX5_isRow 1 := ⟨⟨by decide +kernel, by decide +kernel, by decide +kernel⟩, by decide, lw_at 323 rfl rfl, lw_at 71 (by decide +kernel) rfl⟩
theorem kX5_82 : CS RX5 82 mX5_isRow 1 := ⟨lw_at 321 (by decide +kernel) rfl, lw_at 322 (by decide +kernel) rfl, cmX5_isRow⟩
set_option maxRecDepth 20000 in
theorem cmX5_found : CM mX5_found 1 := ⟨⟨by decide +kernel, by decide +kernel, by decide +kernel⟩, by decide, lw_at 327 rfl rfl, lw_at 71 (by decide +kernel) rfl⟩
theorem kX5_86 : CV RX5 86 mX5_found 1 5 := ⟨by decide, rfl, lw_at 324 (by decide +kernel) rfl, lw_at 326 (by decide +kernel) rfl, lw_at 0 (by decide +kernel) rfl, cmX5_found⟩
set_option maxRecDepth 20000 in
theorem cmX3_fill : CM mX3_fill 2 := ⟨⟨by decide +kernel, by decide +kernel, by decide +kernel⟩, by decide, lw_at 331 rfl rfl, lw_at 76 (by decide +kernel) rfl⟩
theorem kX5_90 : CV RX5 90 mX3_fill 2 3 := ⟨by decide, rfl, lw_at 328 (by decide +kernel) rfl, lw_at 329 (by decide +kernel) rfl, lw_at 330 (by decide +kernel) rfl, cmX3_fill⟩
set_option maxRecDepth 20000 in
theorem cmX3_isMissing : CM mX3_isMissing 0 := ⟨⟨by decide +kernel, by decide +kernel, by decide +kernel⟩, by decide, lw_at 342 rfl rfl, lw_at 76 (by decide +kernel) rfl⟩
theorem kX5_94 : CV RX5 94 mX3_isMissing 0 3 := ⟨by decide, rfl, lw_at 339 (by decide +kernel) rfl, lw_at 340 (by decide +kernel) rfl, lw_at 341 (by decide +kernel) rfl, cmX3_isMissing⟩
set_option maxRecDepth 20000 in
theorem cmX3_has : CM mX3_has 1 := ⟨⟨by decide +kernel, by decide +kernel, by decide +kernel⟩, by decide, lw_at 346 rfl rfl, lw_at 76 (by decide +kernel) rfl⟩
theorem kX5_98 : CV RX5 98 mX3_has 1 3 := ⟨by decide, rfl, lw_at 343 (by decide +kernel) rfl, lw_at 344 (by decide +kernel) rfl, lw_at 345 (by decide +kernel) rfl, cmX3_has⟩
set_option maxRecDepth 20000 in
theorem cmX3_drop : CM mX3_drop 0 := ⟨⟨by decide +kernel, by decide +kernel, by decide +kernel⟩, by decide, lw_at 358 rfl rfl, lw_at 76 (by decide +kernel) rfl⟩
theorem kX5_104 : CV RX5 104 mX3_drop 0 3 := ⟨by decide, rfl, lw_at 355 (by decide +kernel) rfl, lw_at 356 (by decide +kernel) rfl, lw_at 357 (by decide +kernel) rfl, cmX3_drop⟩
set_option maxRecDepth 20000 in
theorem cmX3_hasFrom : CM mX3_hasFrom 2 := ⟨⟨by decide +kernel, by decide +kernel, by decide +kernel⟩, by decide, lw_at 366 rfl rfl, lw_at 76 (by decide +kernel) rfl⟩
theorem kX5_107 : CV RX5 107 mX3_hasFrom 2 3 := ⟨by decide, rfl, lw_at 363 (by decide +kernel) rfl, lw_at 364 (by decide +kernel) rfl, lw_at 365 (by decide +kernel) rfl, cmX3_hasFrom⟩
set_option maxRecDepth 20000 in
theorem cmX3_sum : CM mX3_sum 0 := ⟨⟨by decide +kernel, by decide +kernel, by decide +kernel⟩, by decide, lw_at 377 rfl rfl, lw_at 76 (by decide +kernel) rfl⟩
theorem kX5_120 : CV RX5 120 mX3_sum 0 3 := ⟨by decide, rfl, lw_at 374 (by decide +kernel) rfl, lw_at 375 (by decide +kernel) rfl, lw_at 376 (by decide +kernel) rfl, cmX3_sum⟩
set_option maxRecDepth 20000 in
theorem cmX5_isText : CM mX5_isText 1 := ⟨⟨by decide +kernel, by decide +kernel, by decide +kernel⟩, by decide, lw_at 384 rfl rfl, lw_at 71 (by decide +kernel) rfl⟩
theorem kX5_124 : CS RX5 124 mX5_isText 1 := ⟨lw_at 382 (by decide +kernel) rfl, lw_at 383 (by decide +kernel) rfl, cmX5_isText⟩
set_option maxRecDepth 20000 in
theorem cmX2_read : CM mX2_read 2 := ⟨⟨by decide +kernel, by decide +kernel, by decide +kernel⟩, by decide, lw_at 396 rfl rfl, lw_at 73 (by decide +kernel) rfl⟩
theorem kX5_127 : CV RX5 127 mX2_read 2 2 := ⟨by decide, rfl, lw_at 393 (by decide +kernel) rfl, lw_at 394 (by decide +kernel) rfl, lw_at 395 (by decide +kernel) rfl, cmX2_read⟩
set_option maxRecDepth 20000 in
theorem cmX1_take : CM mX1_take 1 := ⟨⟨by decide +kernel, by decide +kernel, by decide +kernel⟩, by decide, lw_at 525 rfl rfl, lw_at 72 (by decide +kernel) rfl⟩
theorem kX5_131 : CV RX5 131 mX1_take 1 1 := ⟨by decide, rfl, lw_at 522 (by decide +kernel) rfl, lw_at 523 (by decide +kernel) rfl, lw_at 524 (by decide +kernel) rfl, cmX1_take⟩
set_option maxRecDepth 20000 in
theorem cmX4_writeOut : CM mX4_writeOut 1 := ⟨⟨by decide +kernel, by decide +kernel, by decide +kernel⟩, by decide, lw_at 534 rfl rfl, lw_at 74 (by decide +kernel) rfl⟩
theorem kX5_136 : CV RX5 136 mX4_writeOut 1 4 := ⟨by decide, rfl, lw_at 531 (by decide +kernel) rfl, lw_at 532 (by decide +kernel) rfl, lw_at 533 (by decide +kernel) rfl, cmX4_writeOut⟩
set_option maxRecDepth 20000 in
theorem cmX5_hashWith : CM mX5_hashWith 2 := ⟨⟨by decide +kernel, by decide +kernel, by decide +kernel⟩, by decide, lw_at 497 rfl rfl, lw_at 71 (by decide +kernel) rfl⟩
theorem kX5_143 : CS RX5 143 mX5_hashWith 2 := ⟨lw_at 560 (by decide +kernel) rfl, lw_at 496 (by decide +kernel) rfl, cmX5_hashWith⟩
set_option maxRecDepth 20000 in
theorem cmX1_has : CM mX1_has 1 := ⟨⟨by decide +kernel, by decide +kernel, by decide +kernel⟩, by decide, lw_at 568 rfl rfl, lw_at 72 (by decide +kernel) rfl⟩
theorem kX5_147 : CV RX5 147 mX1_has 1 1 := ⟨by decide, rfl, lw_at 565 (by decide +kernel) rfl, lw_at 566 (by decide +kernel) rfl, lw_at 567 (by decide +kernel) rfl, cmX1_has⟩
set_option maxRecDepth 20000 in
theorem cmX1_valueOf : CM mX1_valueOf 2 := ⟨⟨by decide +kernel, by decide +kernel, by decide +kernel⟩, by decide, lw_at 572 rfl rfl, lw_at 72 (by decide +kernel) rfl⟩
theorem kX5_148 : CV RX5 148 mX1_valueOf 2 1 := ⟨by decide, rfl, lw_at 569 (by decide +kernel) rfl, lw_at 570 (by decide +kernel) rfl, lw_at 571 (by decide +kernel) rfl, cmX1_valueOf⟩
set_option maxRecDepth 20000 in
theorem cmX5_isAim : CM mX5_isAim 1 := ⟨⟨by decide +kernel, by decide +kernel, by decide +kernel⟩, by decide, lw_at 579 rfl rfl, lw_at 71 (by decide +kernel) rfl⟩
theorem kX5_151 : CS RX5 151 mX5_isAim 1 := ⟨lw_at 577 (by decide +kernel) rfl, lw_at 578 (by decide +kernel) rfl, cmX5_isAim⟩
set_option maxRecDepth 20000 in
theorem cmX5_isWeight : CM mX5_isWeight 1 := ⟨⟨by decide +kernel, by decide +kernel, by decide +kernel⟩, by decide, lw_at 582 rfl rfl, lw_at 71 (by decide +kernel) rfl⟩
theorem kX5_154 : CS RX5 154 mX5_isWeight 1 := ⟨lw_at 580 (by decide +kernel) rfl, lw_at 581 (by decide +kernel) rfl, cmX5_isWeight⟩
set_option maxRecDepth 20000 in
theorem cmX1_isFree : CM mX1_isFree 2 := ⟨⟨by decide +kernel, by decide +kernel, by decide +kernel⟩, by decide, lw_at 501 rfl rfl, lw_at 72 (by decide +kernel) rfl⟩
theorem kX5_157 : CV RX5 157 mX1_isFree 2 1 := ⟨by decide, rfl, lw_at 583 (by decide +kernel) rfl, lw_at 499 (by decide +kernel) rfl, lw_at 500 (by decide +kernel) rfl, cmX1_isFree⟩
set_option maxRecDepth 20000 in
theorem cmX1_addCase : CM mX1_addCase 4 := ⟨⟨by decide +kernel, by decide +kernel, by decide +kernel⟩, by decide, lw_at 587 rfl rfl, lw_at 72 (by decide +kernel) rfl⟩
theorem kX5_163 : CV RX5 163 mX1_addCase 4 1 := ⟨by decide, rfl, lw_at 584 (by decide +kernel) rfl, lw_at 585 (by decide +kernel) rfl, lw_at 586 (by decide +kernel) rfl, cmX1_addCase⟩
set_option maxRecDepth 20000 in
theorem cmX1_cutCase : CM mX1_cutCase 1 := ⟨⟨by decide +kernel, by decide +kernel, by decide +kernel⟩, by decide, lw_at 601 rfl rfl, lw_at 72 (by decide +kernel) rfl⟩
theorem kX5_167 : CV RX5 167 mX1_cutCase 1 1 := ⟨by decide, rfl, lw_at 598 (by decide +kernel) rfl, lw_at 599 (by decide +kernel) rfl, lw_at 600 (by decide +kernel) rfl, cmX1_cutCase⟩
set_option maxRecDepth 20000 in
theorem cmX1_aimCase : CM mX1_aimCase 2 := ⟨⟨by decide +kernel, by decide +kernel, by decide +kernel⟩, by decide, lw_at 613 rfl rfl, lw_at 72 (by decide +kernel) rfl⟩
theorem kX5_173 : CV RX5 173 mX1_aimCase 2 1 := ⟨by decide, rfl, lw_at 610 (by decide +kernel) rfl, lw_at 611 (by decide +kernel) rfl, lw_at 612 (by decide +kernel) rfl, cmX1_aimCase⟩
set_option maxRecDepth 20000 in
theorem cmX1_weighCase : CM mX1_weighCase 2 := ⟨⟨by decide +kernel, by decide +kernel, by decide +kernel⟩, by decide, lw_at 621 rfl rfl, lw_at 72 (by decide +kernel) rfl⟩
theorem kX5_179 : CV RX5 179 mX1_weighCase 2 1 := ⟨by decide, rfl, lw_at 618 (by decide +kernel) rfl, lw_at 619 (by decide +kernel) rfl, lw_at 620 (by decide +kernel) rfl, cmX1_weighCase⟩
set_option maxRecDepth 20000 in
theorem cmX1_undoLatest : CM mX1_undoLatest 0 := ⟨⟨by decide +kernel, by decide +kernel, by decide +kernel⟩, by decide, lw_at 629 rfl rfl, lw_at 72 (by decide +kernel) rfl⟩
theorem kX5_182 : CV RX5 182 mX1_undoLatest 0 1 := ⟨by decide, rfl, lw_at 626 (by decide +kernel) rfl, lw_at 627 (by decide +kernel) rfl, lw_at 628 (by decide +kernel) rfl, cmX1_undoLatest⟩
set_option maxRecDepth 20000 in
theorem cmX5_isKeptPlace : CM mX5_isKeptPlace 1 := ⟨⟨by decide +kernel, by decide +kernel, by decide +kernel⟩, by decide, lw_at 636 rfl rfl, lw_at 71 (by decide +kernel) rfl⟩
theorem kX5_185 : CS RX5 185 mX5_isKeptPlace 1 := ⟨lw_at 634 (by decide +kernel) rfl, lw_at 635 (by decide +kernel) rfl, cmX5_isKeptPlace⟩
set_option maxRecDepth 20000 in
theorem cmX1_ownerOf : CM mX1_ownerOf 1 := ⟨⟨by decide +kernel, by decide +kernel, by decide +kernel⟩, by decide, lw_at 648 rfl rfl, lw_at 72 (by decide +kernel) rfl⟩
theorem kX5_188 : CV RX5 188 mX1_ownerOf 1 1 := ⟨by decide, rfl, lw_at 645 (by decide +kernel) rfl, lw_at 646 (by decide +kernel) rfl, lw_at 647 (by decide +kernel) rfl, cmX1_ownerOf⟩
set_option maxRecDepth 20000 in
theorem cmX5_renewPlan : CM mX5_renewPlan 0 := ⟨⟨by decide +kernel, by decide +kernel, by decide +kernel⟩, by decide, lw_at 656 rfl rfl, lw_at 71 (by decide +kernel) rfl⟩
theorem kX5_191 : CV RX5 191 mX5_renewPlan 0 5 := ⟨by decide, rfl, lw_at 653 (by decide +kernel) rfl, lw_at 655 (by decide +kernel) rfl, lw_at 17 (by decide +kernel) rfl, cmX5_renewPlan⟩
set_option maxRecDepth 20000 in
theorem cmX0_partLookingAt : CM mX0_partLookingAt 2 := ⟨⟨by decide +kernel, by decide +kernel, by decide +kernel⟩, by decide, lw_at 707 rfl rfl, lw_at 75 (by decide +kernel) rfl⟩
theorem kX5_194 : CV RX5 194 mX0_partLookingAt 2 0 := ⟨by decide, rfl, lw_at 704 (by decide +kernel) rfl, lw_at 705 (by decide +kernel) rfl, lw_at 706 (by decide +kernel) rfl, cmX0_partLookingAt⟩
set_option maxRecDepth 20000 in
theorem cmX0_stepsThrough : CM mX0_stepsThrough 1 := ⟨⟨by decide +kernel, by decide +kernel, by decide +kernel⟩, by decide, lw_at 711 rfl rfl, lw_at 75 (by decide +kernel) rfl⟩
theorem kX5_198 : CV RX5 198 mX0_stepsThrough 1 0 := ⟨by decide, rfl, lw_at 708 (by decide +kernel) rfl, lw_at 709 (by decide +kernel) rfl, lw_at 710 (by decide +kernel) rfl, cmX0_stepsThrough⟩
set_option maxRecDepth 20000 in
theorem cmX0_has : CM mX0_has 1 := ⟨⟨by decide +kernel, by decide +kernel, by decide +kernel⟩, by decide, lw_at 727 rfl rfl, lw_at 75 (by decide +kernel) rfl⟩
theorem kX5_204 : CV RX5 204 mX0_has 1 0 := ⟨by decide, rfl, lw_at 724 (by decide +kernel) rfl, lw_at 725 (by decide +kernel) rfl, lw_at 726 (by decide +kernel) rfl, cmX0_has⟩
set_option maxRecDepth 20000 in
theorem cmX0_valueOf : CM mX0_valueOf 3 := ⟨⟨by decide +kernel, by decide +kernel, by decide +kernel⟩, by decide, lw_at 731 rfl rfl, lw_at 75 (by decide +kernel) rfl⟩
theorem kX5_205 : CV RX5 205 mX0_valueOf 3 0 := ⟨by decide, rfl, lw_at 728 (by decide +kernel) rfl, lw_at 729 (by decide +kernel) rfl, lw_at 730 (by decide +kernel) rfl, cmX0_valueOf⟩
set_option maxRecDepth 20000 in
theorem cmX0_sortOf : CM mX0_sortOf 1 := ⟨⟨by decide +kernel, by decide +kernel, by decide +kernel⟩, by decide, lw_at 735 rfl rfl, lw_at 75 (by decide +kernel) rfl⟩
theorem kX5_208 : CV RX5 208 mX0_sortOf 1 0 := ⟨by decide, rfl, lw_at 741 (by decide +kernel) rfl, lw_at 733 (by decide +kernel) rfl, lw_at 734 (by decide +kernel) rfl, cmX0_sortOf⟩
set_option maxRecDepth 20000 in
theorem cmX5_markOf : CM mX5_markOf 3 := ⟨⟨by decide +kernel, by decide +kernel, by decide +kernel⟩, by decide, lw_at 745 rfl rfl, lw_at 71 (by decide +kernel) rfl⟩
theorem kX5_217 : CV RX5 217 mX5_markOf 3 5 := ⟨by decide, rfl, lw_at 742 (by decide +kernel) rfl, lw_at 744 (by decide +kernel) rfl, lw_at 21 (by decide +kernel) rfl, cmX5_markOf⟩
set_option maxRecDepth 20000 in
theorem cmX1_span : CM mX1_span 2 := ⟨⟨by decide +kernel, by decide +kernel, by decide +kernel⟩, by decide, lw_at 668 rfl rfl, lw_at 72 (by decide +kernel) rfl⟩
theorem kX5_224 : CV RX5 224 mX1_span 2 1 := ⟨by decide, rfl, lw_at 746 (by decide +kernel) rfl, lw_at 666 (by decide +kernel) rfl, lw_at 667 (by decide +kernel) rfl, cmX1_span⟩
set_option maxRecDepth 20000 in
theorem cmX1_numbersIn : CM mX1_numbersIn 2 := ⟨⟨by decide +kernel, by decide +kernel, by decide +kernel⟩, by decide, lw_at 678 rfl rfl, lw_at 72 (by decide +kernel) rfl⟩
theorem kX5_228 : CV RX5 228 mX1_numbersIn 2 1 := ⟨by decide, rfl, lw_at 747 (by decide +kernel) rfl, lw_at 676 (by decide +kernel) rfl, lw_at 677 (by decide +kernel) rfl, cmX1_numbersIn⟩
set_option maxRecDepth 20000 in
theorem cmX1_aimsIn : CM mX1_aimsIn 2 := ⟨⟨by decide +kernel, by decide +kernel, by decide +kernel⟩, by decide, lw_at 683 rfl rfl, lw_at 72 (by decide +kernel) rfl⟩
theorem kX5_231 : CV RX5 231 mX1_aimsIn 2 1 := ⟨by decide, rfl, lw_at 748 (by decide +kernel) rfl, lw_at 681 (by decide +kernel) rfl, lw_at 682 (by decide +kernel) rfl, cmX1_aimsIn⟩
set_option maxRecDepth 20000 in
theorem cmX0_make : CM mX0_make 3 := ⟨⟨by decide +kernel, by decide +kernel, by decide +kernel⟩, by decide, lw_at 660 rfl rfl, lw_at 75 (by decide +kernel) rfl⟩
theorem kX5_234 : CV RX5 234 mX0_make 3 0 := ⟨by decide, rfl, lw_at 657 (by decide +kernel) rfl, lw_at 658 (by decide +kernel) rfl, lw_at 659 (by decide +kernel) rfl, cmX0_make⟩
set_option maxRecDepth 20000 in
theorem cmX1_loneSteps : CM mX1_loneSteps 1 := ⟨⟨by decide +kernel, by decide +kernel, by decide +kernel⟩, by decide, lw_at 672 rfl rfl, lw_at 72 (by decide +kernel) rfl⟩
theorem kX5_241 : CV RX5 241 mX1_loneSteps 1 1 := ⟨by decide, rfl, lw_at 765 (by decide +kernel) rfl, lw_at 670 (by decide +kernel) rfl, lw_at 671 (by decide +kernel) rfl, cmX1_loneSteps⟩
set_option maxRecDepth 20000 in
theorem cmX0_hasPartsOf : CM mX0_hasPartsOf 1 := ⟨⟨by decide +kernel, by decide +kernel, by decide +kernel⟩, by decide, lw_at 777 rfl rfl, lw_at 75 (by decide +kernel) rfl⟩
theorem kX5_247 : CV RX5 247 mX0_hasPartsOf 1 0 := ⟨by decide, rfl, lw_at 774 (by decide +kernel) rfl, lw_at 775 (by decide +kernel) rfl, lw_at 776 (by decide +kernel) rfl, cmX0_hasPartsOf⟩
set_option maxRecDepth 20000 in
theorem cmJ9_max_7cf53 : CM mJ9_max_7cf53 2 := ⟨⟨by decide +kernel, by decide +kernel, by decide +kernel⟩, by decide, lw_at 259 rfl rfl, lw_at 77 (by decide +kernel) rfl⟩
theorem kX5_253 : CS RX5 253 mJ9_max_7cf53 2 := ⟨lw_at 783 (by decide +kernel) rfl, lw_at 258 (by decide +kernel) rfl, cmJ9_max_7cf53⟩
set_option maxRecDepth 20000 in
theorem cmJ9_min_7cf53 : CM mJ9_min_7cf53 2 := ⟨⟨by decide +kernel, by decide +kernel, by decide +kernel⟩, by decide, lw_at 334 rfl rfl, lw_at 77 (by decide +kernel) rfl⟩
theorem kX5_261 : CS RX5 261 mJ9_min_7cf53 2 := ⟨lw_at 784 (by decide +kernel) rfl, lw_at 333 (by decide +kernel) rfl, cmJ9_min_7cf53⟩
set_option maxRecDepth 20000 in
theorem cmX5_doByLot : CM mX5_doByLot 1 := ⟨⟨by decide +kernel, by decide +kernel, by decide +kernel⟩, by decide, lw_at 795 rfl rfl, lw_at 71 (by decide +kernel) rfl⟩
theorem kX5_269 : CV RX5 269 mX5_doByLot 1 5 := ⟨by decide, rfl, lw_at 792 (by decide +kernel) rfl, lw_at 794 (by decide +kernel) rfl, lw_at 22 (by decide +kernel) rfl, cmX5_doByLot⟩
set_option maxRecDepth 20000 in
theorem cmX1_doNothing : CM mX1_doNothing 0 := ⟨⟨by decide +kernel, by decide +kernel, by decide +kernel⟩, by decide, lw_at 799 rfl rfl, lw_at 72 (by decide +kernel) rfl⟩
theorem kX5_272 : CV RX5 272 mX1_doNothing 0 1 := ⟨by decide, rfl, lw_at 796 (by decide +kernel) rfl, lw_at 797 (by decide +kernel) rfl, lw_at 798 (by decide +kernel) rfl, cmX1_doNothing⟩
set_option maxRecDepth 20000 in
theorem cmX1_weightIn : CM mX1_weightIn 2 := ⟨⟨by decide +kernel, by decide +kernel, by decide +kernel⟩, by decide, lw_at 694 rfl rfl, lw_at 72 (by decide +kernel) rfl⟩
theorem kX5_275 : CV RX5 275 mX1_weightIn 2 1 := ⟨by decide, rfl, lw_at 812 (by decide +kernel) rfl, lw_at 692 (by decide +kernel) rfl, lw_at 693 (by decide +kernel) rfl, cmX1_weightIn⟩
set_option maxRecDepth 20000 in
theorem cmX0_partsOf : CM mX0_partsOf 1 := ⟨⟨by decide +kernel, by decide +kernel, by decide +kernel⟩, by decide, lw_at 816 rfl rfl, lw_at 75 (by decide +kernel) rfl⟩
theorem kX5_278 : CV RX5 278 mX0_partsOf 1 0 := ⟨by decide, rfl, lw_at 813 (by decide +kernel) rfl, lw_at 814 (by decide +kernel) rfl, lw_at 815 (by decide +kernel) rfl, cmX0_partsOf⟩
set_option maxRecDepth 20000 in
theorem cmX5_howManyAreThere : CM mX5_howManyAreThere 1 := ⟨⟨by decide +kernel, by decide +kernel, by decide +kernel⟩, by decide, lw_at 819 rfl rfl, lw_at 71 (by decide +kernel) rfl⟩
theorem kX5_281 : CS RX5 281 mX5_howManyAreThere 1 := ⟨lw_at 817 (by decide +kernel) rfl, lw_at 818 (by decide +kernel) rfl, cmX5_howManyAreThere⟩
set_option maxRecDepth 20000 in
theorem cmX5_howManyAreKept : CM mX5_howManyAreKept 0 := ⟨⟨by decide +kernel, by decide +kernel, by decide +kernel⟩, by decide, lw_at 823 rfl rfl, lw_at 71 (by decide +kernel) rfl⟩
theorem kX5_285 : CV RX5 285 mX5_howManyAreKept 0 5 := ⟨by decide, rfl, lw_at 820 (by decide +kernel) rfl, lw_at 822 (by decide +kernel) rfl, lw_at 23 (by decide +kernel) rfl, cmX5_howManyAreKept⟩
set_option maxRecDepth 20000 in
theorem cmX5_count : CM mX5_count 1 := ⟨⟨by decide +kernel, by decide +kernel, by decide +kernel⟩, by decide, lw_at 811 rfl rfl, lw_at 71 (by decide +kernel) rfl⟩
theorem kX5_293 : CV RX5 293 mX5_count 1 5 := ⟨by decide, rfl, lw_at 838 (by decide +kernel) rfl, lw_at 809 (by decide +kernel) rfl, lw_at 810 (by decide +kernel) rfl, cmX5_count⟩
set_option maxRecDepth 20000 in
theorem cmX5_digestOf : CM mX5_digestOf 2 := ⟨⟨by decide +kernel, by decide +kernel, by decide +kernel⟩, by decide, lw_at 841 rfl rfl, lw_at 71 (by decide +kernel) rfl⟩
theorem kX5_296 : CS RX5 296 mX5_digestOf 2 := ⟨lw_at 839 (by decide +kernel) rfl, lw_at 840 (by decide +kernel) rfl, cmX5_digestOf⟩
set_option maxRecDepth 20000 in
theorem cmX0_sortOut : CM mX0_sortOut 5 := ⟨⟨by decide +kernel, by decide +kernel, by decide +kernel⟩, by decide, lw_at 664 rfl rfl, lw_at 75 (by decide +kernel) rfl⟩
theorem kX0_47 : CV RX0 47 mX0_sortOut 5 0 := ⟨by decide, rfl, lw_at 661 (by decide +kernel) rfl, lw_at 663 (by decide +kernel) rfl, lw_at 18 (by decide +kernel) rfl, cmX0_sortOut⟩
theorem kX0_51 : CV RX0 51 mX1_weightIn 2 1 := ⟨by decide, rfl, lw_at 691 (by decide +kernel) rfl, lw_at 692 (by decide +kernel) rfl, lw_at 693 (by decide +kernel) rfl, cmX1_weightIn⟩
set_option maxRecDepth 20000 in
theorem cmX0_choose : CM mX0_choose 3 := ⟨⟨by decide +kernel, by decide +kernel, by decide +kernel⟩, by decide, lw_at 698 rfl rfl, lw_at 75 (by decide +kernel) rfl⟩
theorem kX0_55 : CV RX0 55 mX0_choose 3 0 := ⟨by decide, rfl, lw_at 695 (by decide +kernel) rfl, lw_at 697 (by decide +kernel) rfl, lw_at 19 (by decide +kernel) rfl, cmX0_choose⟩
set_option maxRecDepth 20000 in
theorem cmX0_layOut : CM mX0_layOut 3 := ⟨⟨by decide +kernel, by decide +kernel, by decide +kernel⟩, by decide, lw_at 703 rfl rfl, lw_at 75 (by decide +kernel) rfl⟩
theorem kX0_59 : CV RX0 59 mX0_layOut 3 0 := ⟨by decide, rfl, lw_at 700 (by decide +kernel) rfl, lw_at 702 (by decide +kernel) rfl, lw_at 20 (by decide +kernel) rfl, cmX0_layOut⟩
theorem kX0_62 : CV RX0 62 mX1_span 2 1 := ⟨by decide, rfl, lw_at 665 (by decide +kernel) rfl, lw_at 666 (by decide +kernel) rfl, lw_at 667 (by decide +kernel) rfl, cmX1_span⟩
theorem kX0_66 : CV RX0 66 mX1_loneSteps 1 1 := ⟨by decide, rfl, lw_at 669 (by decide +kernel) rfl, lw_at 670 (by decide +kernel) rfl, lw_at 671 (by decide +kernel) rfl, cmX1_loneSteps⟩
theorem kX0_74 : CV RX0 74 mX1_numbersIn 2 1 := ⟨by decide, rfl, lw_at 675 (by decide +kernel) rfl, lw_at 676 (by decide +kernel) rfl, lw_at 677 (by decide +kernel) rfl, cmX1_numbersIn⟩
theorem kX0_77 : CV RX0 77 mX1_aimsIn 2 1 := ⟨by decide, rfl, lw_at 680 (by decide +kernel) rfl, lw_at 681 (by decide +kernel) rfl, lw_at 682 (by decide +kernel) rfl, cmX1_aimsIn⟩
set_option maxRecDepth 20000 in
theorem cmX0_stepsOf : CM mX0_stepsOf 1 := ⟨⟨by decide +kernel, by decide +kernel, by decide +kernel⟩, by decide, lw_at 715 rfl rfl, lw_at 75 (by decide +kernel) rfl⟩
theorem kX0_83 : CV RX0 83 mX0_stepsOf 1 0 := ⟨by decide, rfl, lw_at 712 (by decide +kernel) rfl, lw_at 713 (by decide +kernel) rfl, lw_at 714 (by decide +kernel) rfl, cmX0_stepsOf⟩
theorem kX0_86 : CV RX0 86 mX0_sortOf 1 0 := ⟨by decide, rfl, lw_at 732 (by decide +kernel) rfl, lw_at 733 (by decide +kernel) rfl, lw_at 734 (by decide +kernel) rfl, cmX0_sortOf⟩
theorem kX1_58 : CV RX1 58 mX1_span 2 1 := ⟨by decide, rfl, lw_at 679 (by decide +kernel) rfl, lw_at 666 (by decide +kernel) rfl, lw_at 667 (by decide +kernel) rfl, cmX1_span⟩
set_option maxRecDepth 20000 in
theorem cmJ6_bitCount_0f7a4 : CM mJ6_bitCount_0f7a4 1 := ⟨⟨by decide +kernel, by decide +kernel, by decide +kernel⟩, by decide, lw_at 686 rfl rfl, lw_at 84 (by decide +kernel) rfl⟩
theorem kX1_62 : CS RX1 62 mJ6_bitCount_0f7a4 1 := ⟨lw_at 684 (by decide +kernel) rfl, lw_at 685 (by decide +kernel) rfl, cmJ6_bitCount_0f7a4⟩
set_option maxRecDepth 20000 in
theorem cmX1_insert : CM mX1_insert 4 := ⟨⟨by decide +kernel, by decide +kernel, by decide +kernel⟩, by decide, lw_at 516 rfl rfl, lw_at 72 (by decide +kernel) rfl⟩
theorem kX1_68 : CV RX1 68 mX1_insert 4 1 := ⟨by decide, rfl, lw_at 588 (by decide +kernel) rfl, lw_at 514 (by decide +kernel) rfl, lw_at 515 (by decide +kernel) rfl, cmX1_insert⟩
set_option maxRecDepth 20000 in
theorem cmX1_noteDeed : CM mX1_noteDeed 2 := ⟨⟨by decide +kernel, by decide +kernel, by decide +kernel⟩, by decide, lw_at 592 rfl rfl, lw_at 72 (by decide +kernel) rfl⟩
theorem kX1_72 : CV RX1 72 mX1_noteDeed 2 1 := ⟨by decide, rfl, lw_at 589 (by decide +kernel) rfl, lw_at 591 (by decide +kernel) rfl, lw_at 15 (by decide +kernel) rfl, cmX1_noteDeed⟩
set_option maxRecDepth 20000 in
theorem cmX1_remove : CM mX1_remove 1 := ⟨⟨by decide +kernel, by decide +kernel, by decide +kernel⟩, by decide, lw_at 605 rfl rfl, lw_at 72 (by decide +kernel) rfl⟩
theorem kX1_76 : CV RX1 76 mX1_remove 1 1 := ⟨by decide, rfl, lw_at 602 (by decide +kernel) rfl, lw_at 604 (by decide +kernel) rfl, lw_at 16 (by decide +kernel) rfl, cmX1_remove⟩
theorem kX1_80 : CV RX1 80 mX1_has 1 1 := ⟨by decide, rfl, lw_at 593 (by decide +kernel) rfl, lw_at 566 (by decide +kernel) rfl, lw_at 567 (by decide +kernel) rfl, cmX1_has⟩
theorem kX2_45 : CS RX2 45 mJ9_max_7cf53 2 := ⟨lw_at 397 (by decide +kernel) rfl, lw_at 258 (by decide +kernel) rfl, cmJ9_max_7cf53⟩
theorem kX2_51 : CS RX2 51 mJ9_min_7cf53 2 := ⟨lw_at 398 (by decide +kernel) rfl, lw_at 333 (by decide +kernel) rfl, cmJ9_min_7cf53⟩
set_option maxRecDepth 20000 in
theorem cmX1_clear : CM mX1_clear 0 := ⟨⟨by decide +kernel, by decide +kernel, by decide +kernel⟩, by decide, lw_at 403 rfl rfl, lw_at 72 (by decide +kernel) rfl⟩
theorem kX2_63 : CV RX2 63 mX1_clear 0 1 := ⟨by decide, rfl, lw_at 400 (by decide +kernel) rfl, lw_at 401 (by decide +kernel) rfl, lw_at 402 (by decide +kernel) rfl, cmX1_clear⟩
set_option maxRecDepth 20000 in
theorem cmX2_step : CM mX2_step 0 := ⟨⟨by decide +kernel, by decide +kernel, by decide +kernel⟩, by decide, lw_at 407 rfl rfl, lw_at 73 (by decide +kernel) rfl⟩
theorem kX2_68 : CV RX2 68 mX2_step 0 2 := ⟨by decide, rfl, lw_at 404 (by decide +kernel) rfl, lw_at 406 (by decide +kernel) rfl, lw_at 1 (by decide +kernel) rfl, cmX2_step⟩
set_option maxRecDepth 20000 in
theorem cmX2_readStatement : CM mX2_readStatement 1 := ⟨⟨by decide +kernel, by decide +kernel, by decide +kernel⟩, by decide, lw_at 421 rfl rfl, lw_at 73 (by decide +kernel) rfl⟩
theorem kX2_71 : CV RX2 71 mX2_readStatement 1 2 := ⟨by decide, rfl, lw_at 418 (by decide +kernel) rfl, lw_at 420 (by decide +kernel) rfl, lw_at 4 (by decide +kernel) rfl, cmX2_readStatement⟩
set_option maxRecDepth 20000 in
theorem cmX2_isWord : CM mX2_isWord 1 := ⟨⟨by decide +kernel, by decide +kernel, by decide +kernel⟩, by decide, lw_at 426 rfl rfl, lw_at 73 (by decide +kernel) rfl⟩
theorem kX2_77 : CV RX2 77 mX2_isWord 1 2 := ⟨by decide, rfl, lw_at 423 (by decide +kernel) rfl, lw_at 425 (by decide +kernel) rfl, lw_at 5 (by decide +kernel) rfl, cmX2_isWord⟩
set_option maxRecDepth 20000 in
theorem cmX2_readRest : CM mX2_readRest 1 := ⟨⟨by decide +kernel, by decide +kernel, by decide +kernel⟩, by decide, lw_at 478 rfl rfl, lw_at 73 (by decide +kernel) rfl⟩
theorem kX2_81 : CV RX2 81 mX2_readRest 1 2 := ⟨by decide, rfl, lw_at 475 (by decide +kernel) rfl, lw_at 477 (by decide +kernel) rfl, lw_at 6 (by decide +kernel) rfl, cmX2_readRest⟩
set_option maxRecDepth 20000 in
theorem cmX2_readName : CM mX2_readName 1 := ⟨⟨by decide +kernel, by decide +kernel, by decide +kernel⟩, by decide, lw_at 494 rfl rfl, lw_at 73 (by decide +kernel) rfl⟩
theorem kX2_91 : CV RX2 91 mX2_readName 1 2 := ⟨by decide, rfl, lw_at 491 (by decide +kernel) rfl, lw_at 493 (by decide +kernel) rfl, lw_at 9 (by decide +kernel) rfl, cmX2_readName⟩
set_option maxRecDepth 20000 in
theorem cmX2_readNumbers : CM mX2_readNumbers 2 := ⟨⟨by decide +kernel, by decide +kernel, by decide +kernel⟩, by decide, lw_at 505 rfl rfl, lw_at 73 (by decide +kernel) rfl⟩
theorem kX2_94 : CV RX2 94 mX2_readNumbers 2 2 := ⟨by decide, rfl, lw_at 502 (by decide +kernel) rfl, lw_at 504 (by decide +kernel) rfl, lw_at 10 (by decide +kernel) rfl, cmX2_readNumbers⟩
set_option maxRecDepth 20000 in
theorem cmX2_readAimAndWeight : CM mX2_readAimAndWeight 1 := ⟨⟨by decide +kernel, by decide +kernel, by decide +kernel⟩, by decide, lw_at 511 rfl rfl, lw_at 73 (by decide +kernel) rfl⟩
theorem kX2_98 : CV RX2 98 mX2_readAimAndWeight 1 2 := ⟨by decide, rfl, lw_at 508 (by decide +kernel) rfl, lw_at 510 (by decide +kernel) rfl, lw_at 11 (by decide +kernel) rfl, cmX2_readAimAndWeight⟩
set_option maxRecDepth 20000 in
theorem cmX2_readNumber : CM mX2_readNumber 2 := ⟨⟨by decide +kernel, by decide +kernel, by decide +kernel⟩, by decide, lw_at 483 rfl rfl, lw_at 73 (by decide +kernel) rfl⟩
theorem kX2_103 : CV RX2 103 mX2_readNumber 2 2 := ⟨by decide, rfl, lw_at 480 (by decide +kernel) rfl, lw_at 482 (by decide +kernel) rfl, lw_at 7 (by decide +kernel) rfl, cmX2_readNumber⟩
set_option maxRecDepth 20000 in
theorem cmX2_readSemicolon : CM mX2_readSemicolon 0 := ⟨⟨by decide +kernel, by decide +kernel, by decide +kernel⟩, by decide, lw_at 487 rfl rfl, lw_at 73 (by decide +kernel) rfl⟩
theorem kX2_109 : CV RX2 109 mX2_readSemicolon 0 2 := ⟨by decide, rfl, lw_at 484 (by decide +kernel) rfl, lw_at 486 (by decide +kernel) rfl, lw_at 8 (by decide +kernel) rfl, cmX2_readSemicolon⟩
theorem kX2_117 : CV RX2 117 mX1_isFree 2 1 := ⟨by decide, rfl, lw_at 498 (by decide +kernel) rfl, lw_at 499 (by decide +kernel) rfl, lw_at 500 (by decide +kernel) rfl, cmX1_isFree⟩
theorem kX2_121 : CSN RX2 121 mX5_hashWith 2 "CaseCutter" := ⟨by decide +kernel, lw_at 496 (by decide +kernel) rfl, cmX5_hashWith⟩
theorem kX2_126 : CV RX2 126 mX1_insert 4 1 := ⟨by decide, rfl, lw_at 513 (by decide +kernel) rfl, lw_at 514 (by decide +kernel) rfl, lw_at 515 (by decide +kernel) rfl, cmX1_insert⟩
set_option maxRecDepth 20000 in
theorem cmX2_stepOverWord : CM mX2_stepOverWord 0 := ⟨⟨by decide +kernel, by decide +kernel, by decide +kernel⟩, by decide, lw_at 411 rfl rfl, lw_at 73 (by decide +kernel) rfl⟩
theorem kX2_140 : CV RX2 140 mX2_stepOverWord 0 2 := ⟨by decide, rfl, lw_at 408 (by decide +kernel) rfl, lw_at 410 (by decide +kernel) rfl, lw_at 2 (by decide +kernel) rfl, cmX2_stepOverWord⟩
set_option maxRecDepth 20000 in
theorem cmX2_stepOverNumber : CM mX2_stepOverNumber 1 := ⟨⟨by decide +kernel, by decide +kernel, by decide +kernel⟩, by decide, lw_at 415 rfl rfl, lw_at 73 (by decide +kernel) rfl⟩
theorem kX2_143 : CV RX2 143 mX2_stepOverNumber 1 2 := ⟨by decide, rfl, lw_at 412 (by decide +kernel) rfl, lw_at 414 (by decide +kernel) rfl, lw_at 3 (by decide +kernel) rfl, cmX2_stepOverNumber⟩
theorem kX3_13 : CS RX3 13 mJ9_max_7cf53 2 := ⟨lw_at 257 (by decide +kernel) rfl, lw_at 258 (by decide +kernel) rfl, cmJ9_max_7cf53⟩
theorem kX3_23 : CS RX3 23 mJ9_min_7cf53 2 := ⟨lw_at 332 (by decide +kernel) rfl, lw_at 333 (by decide +kernel) rfl, cmJ9_min_7cf53⟩
set_option maxRecDepth 20000 in
theorem cmX4_writeWord : CM mX4_writeWord 1 := ⟨⟨by decide +kernel, by decide +kernel, by decide +kernel⟩, by decide, lw_at 539 rfl rfl, lw_at 74 (by decide +kernel) rfl⟩
theorem kX4_33 : CV RX4 33 mX4_writeWord 1 4 := ⟨by decide, rfl, lw_at 536 (by decide +kernel) rfl, lw_at 538 (by decide +kernel) rfl, lw_at 12 (by decide +kernel) rfl, cmX4_writeWord⟩
set_option maxRecDepth 20000 in
theorem cmX4_writeNumber : CM mX4_writeNumber 1 := ⟨⟨by decide +kernel, by decide +kernel, by decide +kernel⟩, by decide, lw_at 549 rfl rfl, lw_at 74 (by decide +kernel) rfl⟩
theorem kX4_37 : CV RX4 37 mX4_writeNumber 1 4 := ⟨by decide, rfl, lw_at 546 (by decide +kernel) rfl, lw_at 548 (by decide +kernel) rfl, lw_at 14 (by decide +kernel) rfl, cmX4_writeNumber⟩
set_option maxRecDepth 20000 in
theorem cmX4_writeByte : CM mX4_writeByte 1 := ⟨⟨by decide +kernel, by decide +kernel, by decide +kernel⟩, by decide, lw_at 545 rfl rfl, lw_at 74 (by decide +kernel) rfl⟩
theorem kX4_49 : CV RX4 49 mX4_writeByte 1 4 := ⟨by decide, rfl, lw_at 542 (by decide +kernel) rfl, lw_at 544 (by decide +kernel) rfl, lw_at 13 (by decide +kernel) rfl, cmX4_writeByte⟩
set_option maxRecDepth 20000 in
theorem cmJ9_abs_067f4 : CM mJ9_abs_067f4 1 := ⟨⟨by decide +kernel, by decide +kernel, by decide +kernel⟩, by decide, lw_at 552 rfl rfl, lw_at 77 (by decide +kernel) rfl⟩
theorem kX4_66 : CS RX4 66 mJ9_abs_067f4 1 := ⟨lw_at 550 (by decide +kernel) rfl, lw_at 551 (by decide +kernel) rfl, cmJ9_abs_067f4⟩
set_option maxRecDepth 20000 in
theorem cmX5_init : CM mX5_init 0 := ⟨⟨by decide +kernel, by decide +kernel, by decide +kernel⟩, by decide, lw_at 89 rfl rfl, lw_at 71 (by decide +kernel) rfl⟩
theorem kL_9 : CI RL 9 mX5_init 0 := ⟨lw_at 87 (by decide +kernel) rfl, lw_at 88 (by decide +kernel) rfl, rfl, rfl, cmX5_init⟩
set_option maxRecDepth 20000 in
theorem cmX6_init : CM mX6_init 0 := ⟨⟨by decide +kernel, by decide +kernel, by decide +kernel⟩, by decide, lw_at 846 rfl rfl, lw_at 78 (by decide +kernel) rfl⟩
theorem kL_12 : CI RL 12 mX6_init 0 := ⟨lw_at 844 (by decide +kernel) rfl, lw_at 845 (by decide +kernel) rfl, rfl, rfl, cmX6_init⟩
set_option maxRecDepth 20000 in
theorem cmX5_row : CM mX5_row 2 := ⟨⟨by decide +kernel, by decide +kernel, by decide +kernel⟩, by decide, lw_at 320 rfl rfl, lw_at 71 (by decide +kernel) rfl⟩
theorem kL_13 : CV RL 13 mX5_row 2 5 := ⟨by decide, rfl, lw_at 317 (by decide +kernel) rfl, lw_at 318 (by decide +kernel) rfl, lw_at 319 (by decide +kernel) rfl, cmX5_row⟩
set_option maxRecDepth 20000 in
theorem cmX6_row : CM mX6_row 2 := ⟨⟨by decide +kernel, by decide +kernel, by decide +kernel⟩, by decide, lw_at 972 rfl rfl, lw_at 78 (by decide +kernel) rfl⟩
theorem kL_17 : CV RL 17 mX6_row 2 6 := ⟨by decide, rfl, lw_at 969 (by decide +kernel) rfl, lw_at 970 (by decide +kernel) rfl, lw_at 971 (by decide +kernel) rfl, cmX6_row⟩
set_option maxRecDepth 20000 in
theorem cmX5_lay : CM mX5_lay 3 := ⟨⟨by decide +kernel, by decide +kernel, by decide +kernel⟩, by decide, lw_at 338 rfl rfl, lw_at 71 (by decide +kernel) rfl⟩
theorem kL_18 : CV RL 18 mX5_lay 3 5 := ⟨by decide, rfl, lw_at 335 (by decide +kernel) rfl, lw_at 336 (by decide +kernel) rfl, lw_at 337 (by decide +kernel) rfl, cmX5_lay⟩
set_option maxRecDepth 20000 in
theorem cmX6_lay : CM mX6_lay 3 := ⟨⟨by decide +kernel, by decide +kernel, by decide +kernel⟩, by decide, lw_at 983 rfl rfl, lw_at 78 (by decide +kernel) rfl⟩
theorem kL_22 : CV RL 22 mX6_lay 3 6 := ⟨by decide, rfl, lw_at 980 (by decide +kernel) rfl, lw_at 981 (by decide +kernel) rfl, lw_at 982 (by decide +kernel) rfl, cmX6_lay⟩
set_option maxRecDepth 20000 in
theorem cmX5_at : CM mX5_at 2 := ⟨⟨by decide +kernel, by decide +kernel, by decide +kernel⟩, by decide, lw_at 350 rfl rfl, lw_at 71 (by decide +kernel) rfl⟩
theorem kL_23 : CV RL 23 mX5_at 2 5 := ⟨by decide, rfl, lw_at 347 (by decide +kernel) rfl, lw_at 348 (by decide +kernel) rfl, lw_at 349 (by decide +kernel) rfl, cmX5_at⟩
set_option maxRecDepth 20000 in
theorem cmX6_at : CM mX6_at 2 := ⟨⟨by decide +kernel, by decide +kernel, by decide +kernel⟩, by decide, lw_at 995 rfl rfl, lw_at 78 (by decide +kernel) rfl⟩
theorem kL_26 : CV RL 26 mX6_at 2 6 := ⟨by decide, rfl, lw_at 992 (by decide +kernel) rfl, lw_at 993 (by decide +kernel) rfl, lw_at 994 (by decide +kernel) rfl, cmX6_at⟩
set_option maxRecDepth 20000 in
theorem cmX5_tear : CM mX5_tear 1 := ⟨⟨by decide +kernel, by decide +kernel, by decide +kernel⟩, by decide, lw_at 354 rfl rfl, lw_at 71 (by decide +kernel) rfl⟩
theorem kL_27 : CV RL 27 mX5_tear 1 5 := ⟨by decide, rfl, lw_at 351 (by decide +kernel) rfl, lw_at 352 (by decide +kernel) rfl, lw_at 353 (by decide +kernel) rfl, cmX5_tear⟩
set_option maxRecDepth 20000 in
theorem cmX6_tear : CM mX6_tear 1 := ⟨⟨by decide +kernel, by decide +kernel, by decide +kernel⟩, by decide, lw_at 999 rfl rfl, lw_at 78 (by decide +kernel) rfl⟩
theorem kL_31 : CV RL 31 mX6_tear 1 6 := ⟨by decide, rfl, lw_at 996 (by decide +kernel) rfl, lw_at 997 (by decide +kernel) rfl, lw_at 998 (by decide +kernel) rfl, cmX6_tear⟩
set_option maxRecDepth 20000 in
theorem cmX5_copy : CM mX5_copy 5 := ⟨⟨by decide +kernel, by decide +kernel, by decide +kernel⟩, by decide, lw_at 362 rfl rfl, lw_at 71 (by decide +kernel) rfl⟩
theorem kL_32 : CV RL 32 mX5_copy 5 5 := ⟨by decide, rfl, lw_at 359 (by decide +kernel) rfl, lw_at 360 (by decide +kernel) rfl, lw_at 361 (by decide +kernel) rfl, cmX5_copy⟩
set_option maxRecDepth 20000 in
theorem cmX6_copy : CM mX6_copy 5 := ⟨⟨by decide +kernel, by decide +kernel, by decide +kernel⟩, by decide, lw_at 1003 rfl rfl, lw_at 78 (by decide +kernel) rfl⟩
theorem kL_36 : CV RL 36 mX6_copy 5 6 := ⟨by decide, rfl, lw_at 1000 (by decide +kernel) rfl, lw_at 1001 (by decide +kernel) rfl, lw_at 1002 (by decide +kernel) rfl, cmX6_copy⟩
set_option maxRecDepth 20000 in
theorem cmX5_mean : CM mX5_mean 1 := ⟨⟨by decide +kernel, by decide +kernel, by decide +kernel⟩, by decide, lw_at 373 rfl rfl, lw_at 71 (by decide +kernel) rfl⟩
theorem kL_37 : CV RL 37 mX5_mean 1 5 := ⟨by decide, rfl, lw_at 370 (by decide +kernel) rfl, lw_at 371 (by decide +kernel) rfl, lw_at 372 (by decide +kernel) rfl, cmX5_mean⟩
set_option maxRecDepth 20000 in
theorem cmX6_mean : CM mX6_mean 1 := ⟨⟨by decide +kernel, by decide +kernel, by decide +kernel⟩, by decide, lw_at 1007 rfl rfl, lw_at 78 (by decide +kernel) rfl⟩
theorem kL_40 : CV RL 40 mX6_mean 1 6 := ⟨by decide, rfl, lw_at 1004 (by decide +kernel) rfl, lw_at 1005 (by decide +kernel) rfl, lw_at 1006 (by decide +kernel) rfl, cmX6_mean⟩
set_option maxRecDepth 20000 in
theorem cmX5_text : CM mX5_text 2 := ⟨⟨by decide +kernel, by decide +kernel, by decide +kernel⟩, by decide, lw_at 381 rfl rfl, lw_at 71 (by decide +kernel) rfl⟩
theorem kL_41 : CV RL 41 mX5_text 2 5 := ⟨by decide, rfl, lw_at 378 (by decide +kernel) rfl, lw_at 379 (by decide +kernel) rfl, lw_at 380 (by decide +kernel) rfl, cmX5_text⟩
set_option maxRecDepth 20000 in
theorem cmX6_text : CM mX6_text 2 := ⟨⟨by decide +kernel, by decide +kernel, by decide +kernel⟩, by decide, lw_at 1011 rfl rfl, lw_at 78 (by decide +kernel) rfl⟩
theorem kL_44 : CV RL 44 mX6_text 2 6 := ⟨by decide, rfl, lw_at 1008 (by decide +kernel) rfl, lw_at 1009 (by decide +kernel) rfl, lw_at 1010 (by decide +kernel) rfl, cmX6_text⟩
set_option maxRecDepth 20000 in
theorem cmX5_put : CM mX5_put 3 := ⟨⟨by decide +kernel, by decide +kernel, by decide +kernel⟩, by decide, lw_at 388 rfl rfl, lw_at 71 (by decide +kernel) rfl⟩
theorem kL_45 : CV RL 45 mX5_put 3 5 := ⟨by decide, rfl, lw_at 385 (by decide +kernel) rfl, lw_at 386 (by decide +kernel) rfl, lw_at 387 (by decide +kernel) rfl, cmX5_put⟩
set_option maxRecDepth 20000 in
theorem cmX6_put : CM mX6_put 3 := ⟨⟨by decide +kernel, by decide +kernel, by decide +kernel⟩, by decide, lw_at 1018 rfl rfl, lw_at 78 (by decide +kernel) rfl⟩
theorem kL_48 : CV RL 48 mX6_put 3 6 := ⟨by decide, rfl, lw_at 1015 (by decide +kernel) rfl, lw_at 1016 (by decide +kernel) rfl, lw_at 1017 (by decide +kernel) rfl, cmX6_put⟩
set_option maxRecDepth 20000 in
theorem cmX5_fault : CM mX5_fault 1 := ⟨⟨by decide +kernel, by decide +kernel, by decide +kernel⟩, by decide, lw_at 392 rfl rfl, lw_at 71 (by decide +kernel) rfl⟩
theorem kL_49 : CV RL 49 mX5_fault 1 5 := ⟨by decide, rfl, lw_at 389 (by decide +kernel) rfl, lw_at 390 (by decide +kernel) rfl, lw_at 391 (by decide +kernel) rfl, cmX5_fault⟩
set_option maxRecDepth 20000 in
theorem cmX6_fault : CM mX6_fault 1 := ⟨⟨by decide +kernel, by decide +kernel, by decide +kernel⟩, by decide, lw_at 1022 rfl rfl, lw_at 78 (by decide +kernel) rfl⟩
theorem kL_52 : CV RL 52 mX6_fault 1 6 := ⟨by decide, rfl, lw_at 1019 (by decide +kernel) rfl, lw_at 1020 (by decide +kernel) rfl, lw_at 1021 (by decide +kernel) rfl, cmX6_fault⟩
set_option maxRecDepth 20000 in
theorem cmX5_program : CM mX5_program 1 := ⟨⟨by decide +kernel, by decide +kernel, by decide +kernel⟩, by decide, lw_at 521 rfl rfl, lw_at 71 (by decide +kernel) rfl⟩
theorem kL_53 : CV RL 53 mX5_program 1 5 := ⟨by decide, rfl, lw_at 518 (by decide +kernel) rfl, lw_at 519 (by decide +kernel) rfl, lw_at 520 (by decide +kernel) rfl, cmX5_program⟩
set_option maxRecDepth 20000 in
theorem cmX6_program : CM mX6_program 1 := ⟨⟨by decide +kernel, by decide +kernel, by decide +kernel⟩, by decide, lw_at 1110 rfl rfl, lw_at 78 (by decide +kernel) rfl⟩
theorem kL_56 : CV RL 56 mX6_program 1 6 := ⟨by decide, rfl, lw_at 1107 (by decide +kernel) rfl, lw_at 1108 (by decide +kernel) rfl, lw_at 1109 (by decide +kernel) rfl, cmX6_program⟩
set_option maxRecDepth 20000 in
theorem cmX5_write : CM mX5_write 1 := ⟨⟨by decide +kernel, by decide +kernel, by decide +kernel⟩, by decide, lw_at 530 rfl rfl, lw_at 71 (by decide +kernel) rfl⟩
theorem kL_57 : CV RL 57 mX5_write 1 5 := ⟨by decide, rfl, lw_at 527 (by decide +kernel) rfl, lw_at 528 (by decide +kernel) rfl, lw_at 529 (by decide +kernel) rfl, cmX5_write⟩
set_option maxRecDepth 20000 in
theorem cmX6_write : CM mX6_write 1 := ⟨⟨by decide +kernel, by decide +kernel, by decide +kernel⟩, by decide, lw_at 1114 rfl rfl, lw_at 78 (by decide +kernel) rfl⟩
theorem kL_60 : CV RL 60 mX6_write 1 6 := ⟨by decide, rfl, lw_at 1111 (by decide +kernel) rfl, lw_at 1112 (by decide +kernel) rfl, lw_at 1113 (by decide +kernel) rfl, cmX6_write⟩
set_option maxRecDepth 20000 in
theorem cmX5_hash : CM mX5_hash 1 := ⟨⟨by decide +kernel, by decide +kernel, by decide +kernel⟩, by decide, lw_at 559 rfl rfl, lw_at 71 (by decide +kernel) rfl⟩
theorem kL_61 : CV RL 61 mX5_hash 1 5 := ⟨by decide, rfl, lw_at 556 (by decide +kernel) rfl, lw_at 557 (by decide +kernel) rfl, lw_at 558 (by decide +kernel) rfl, cmX5_hash⟩
set_option maxRecDepth 20000 in
theorem cmX6_hash : CM mX6_hash 1 := ⟨⟨by decide +kernel, by decide +kernel, by decide +kernel⟩, by decide, lw_at 1130 rfl rfl, lw_at 78 (by decide +kernel) rfl⟩
theorem kL_64 : CV RL 64 mX6_hash 1 6 := ⟨by decide, rfl, lw_at 1127 (by decide +kernel) rfl, lw_at 1128 (by decide +kernel) rfl, lw_at 1129 (by decide +kernel) rfl, cmX6_hash⟩
set_option maxRecDepth 20000 in
theorem cmX5_told : CM mX5_told 2 := ⟨⟨by decide +kernel, by decide +kernel, by decide +kernel⟩, by decide, lw_at 564 rfl rfl, lw_at 71 (by decide +kernel) rfl⟩
theorem kL_65 : CV RL 65 mX5_told 2 5 := ⟨by decide, rfl, lw_at 561 (by decide +kernel) rfl, lw_at 562 (by decide +kernel) rfl, lw_at 563 (by decide +kernel) rfl, cmX5_told⟩
set_option maxRecDepth 20000 in
theorem cmX6_told : CM mX6_told 2 := ⟨⟨by decide +kernel, by decide +kernel, by decide +kernel⟩, by decide, lw_at 1134 rfl rfl, lw_at 78 (by decide +kernel) rfl⟩
theorem kL_68 : CV RL 68 mX6_told 2 6 := ⟨by decide, rfl, lw_at 1131 (by decide +kernel) rfl, lw_at 1132 (by decide +kernel) rfl, lw_at 1133 (by decide +kernel) rfl, cmX6_told⟩
set_option maxRecDepth 20000 in
theorem cmX5_add : CM mX5_add 4 := ⟨⟨by decide +kernel, by decide +kernel, by decide +kernel⟩, by decide, lw_at 576 rfl rfl, lw_at 71 (by decide +kernel) rfl⟩
theorem kL_69 : CV RL 69 mX5_add 4 5 := ⟨by decide, rfl, lw_at 573 (by decide +kernel) rfl, lw_at 574 (by decide +kernel) rfl, lw_at 575 (by decide +kernel) rfl, cmX5_add⟩
set_option maxRecDepth 20000 in
theorem cmX6_add : CM mX6_add 4 := ⟨⟨by decide +kernel, by decide +kernel, by decide +kernel⟩, by decide, lw_at 1154 rfl rfl, lw_at 78 (by decide +kernel) rfl⟩
theorem kL_73 : CV RL 73 mX6_add 4 6 := ⟨by decide, rfl, lw_at 1151 (by decide +kernel) rfl, lw_at 1152 (by decide +kernel) rfl, lw_at 1153 (by decide +kernel) rfl, cmX6_add⟩
set_option maxRecDepth 20000 in
theorem cmX5_cut : CM mX5_cut 1 := ⟨⟨by decide +kernel, by decide +kernel, by decide +kernel⟩, by decide, lw_at 597 rfl rfl, lw_at 71 (by decide +kernel) rfl⟩
theorem kL_74 : CV RL 74 mX5_cut 1 5 := ⟨by decide, rfl, lw_at 594 (by decide +kernel) rfl, lw_at 595 (by decide +kernel) rfl, lw_at 596 (by decide +kernel) rfl, cmX5_cut⟩
set_option maxRecDepth 20000 in
theorem cmX6_cut : CM mX6_cut 1 := ⟨⟨by decide +kernel, by decide +kernel, by decide +kernel⟩, by decide, lw_at 1162 rfl rfl, lw_at 78 (by decide +kernel) rfl⟩
theorem kL_77 : CV RL 77 mX6_cut 1 6 := ⟨by decide, rfl, lw_at 1159 (by decide +kernel) rfl, lw_at 1160 (by decide +kernel) rfl, lw_at 1161 (by decide +kernel) rfl, cmX6_cut⟩
set_option maxRecDepth 20000 in
theorem cmX5_aim : CM mX5_aim 2 := ⟨⟨by decide +kernel, by decide +kernel, by decide +kernel⟩, by decide, lw_at 609 rfl rfl, lw_at 71 (by decide +kernel) rfl⟩
theorem kL_78 : CV RL 78 mX5_aim 2 5 := ⟨by decide, rfl, lw_at 606 (by decide +kernel) rfl, lw_at 607 (by decide +kernel) rfl, lw_at 608 (by decide +kernel) rfl, cmX5_aim⟩
set_option maxRecDepth 20000 in
theorem cmX6_aim : CM mX6_aim 2 := ⟨⟨by decide +kernel, by decide +kernel, by decide +kernel⟩, by decide, lw_at 1169 rfl rfl, lw_at 78 (by decide +kernel) rfl⟩
theorem kL_81 : CV RL 81 mX6_aim 2 6 := ⟨by decide, rfl, lw_at 1166 (by decide +kernel) rfl, lw_at 1167 (by decide +kernel) rfl, lw_at 1168 (by decide +kernel) rfl, cmX6_aim⟩
set_option maxRecDepth 20000 in
theorem cmX5_weigh : CM mX5_weigh 2 := ⟨⟨by decide +kernel, by decide +kernel, by decide +kernel⟩, by decide, lw_at 617 rfl rfl, lw_at 71 (by decide +kernel) rfl⟩
theorem kL_82 : CV RL 82 mX5_weigh 2 5 := ⟨by decide, rfl, lw_at 614 (by decide +kernel) rfl, lw_at 615 (by decide +kernel) rfl, lw_at 616 (by decide +kernel) rfl, cmX5_weigh⟩
set_option maxRecDepth 20000 in
theorem cmX6_weigh : CM mX6_weigh 2 := ⟨⟨by decide +kernel, by decide +kernel, by decide +kernel⟩, by decide, lw_at 1177 rfl rfl, lw_at 78 (by decide +kernel) rfl⟩
theorem kL_85 : CV RL 85 mX6_weigh 2 6 := ⟨by decide, rfl, lw_at 1174 (by decide +kernel) rfl, lw_at 1175 (by decide +kernel) rfl, lw_at 1176 (by decide +kernel) rfl, cmX6_weigh⟩
set_option maxRecDepth 20000 in
theorem cmX5_undo : CM mX5_undo 1 := ⟨⟨by decide +kernel, by decide +kernel, by decide +kernel⟩, by decide, lw_at 625 rfl rfl, lw_at 71 (by decide +kernel) rfl⟩
theorem kL_86 : CV RL 86 mX5_undo 1 5 := ⟨by decide, rfl, lw_at 622 (by decide +kernel) rfl, lw_at 623 (by decide +kernel) rfl, lw_at 624 (by decide +kernel) rfl, cmX5_undo⟩
set_option maxRecDepth 20000 in
theorem cmX6_undo : CM mX6_undo 1 := ⟨⟨by decide +kernel, by decide +kernel, by decide +kernel⟩, by decide, lw_at 1142 rfl rfl, lw_at 78 (by decide +kernel) rfl⟩
theorem kL_89 : CV RL 89 mX6_undo 1 6 := ⟨by decide, rfl, lw_at 1139 (by decide +kernel) rfl, lw_at 1140 (by decide +kernel) rfl, lw_at 1141 (by decide +kernel) rfl, cmX6_undo⟩
set_option maxRecDepth 20000 in
theorem cmX5_keep : CM mX5_keep 1 := ⟨⟨by decide +kernel, by decide +kernel, by decide +kernel⟩, by decide, lw_at 633 rfl rfl, lw_at 71 (by decide +kernel) rfl⟩
theorem kL_90 : CV RL 90 mX5_keep 1 5 := ⟨by decide, rfl, lw_at 630 (by decide +kernel) rfl, lw_at 631 (by decide +kernel) rfl, lw_at 632 (by decide +kernel) rfl, cmX5_keep⟩
set_option maxRecDepth 20000 in
theorem cmX6_keep : CM mX6_keep 1 := ⟨⟨by decide +kernel, by decide +kernel, by decide +kernel⟩, by decide, lw_at 1146 rfl rfl, lw_at 78 (by decide +kernel) rfl⟩
theorem kL_93 : CV RL 93 mX6_keep 1 6 := ⟨by decide, rfl, lw_at 1143 (by decide +kernel) rfl, lw_at 1144 (by decide +kernel) rfl, lw_at 1145 (by decide +kernel) rfl, cmX6_keep⟩
set_option maxRecDepth 20000 in
theorem cmX5_on : CM mX5_on 1 := ⟨⟨by decide +kernel, by decide +kernel, by decide +kernel⟩, by decide, lw_at 640 rfl rfl, lw_at 71 (by decide +kernel) rfl⟩
theorem kL_94 : CV RL 94 mX5_on 1 5 := ⟨by decide, rfl, lw_at 637 (by decide +kernel) rfl, lw_at 638 (by decide +kernel) rfl, lw_at 639 (by decide +kernel) rfl, cmX5_on⟩
set_option maxRecDepth 20000 in
theorem cmX6_on : CM mX6_on 1 := ⟨⟨by decide +kernel, by decide +kernel, by decide +kernel⟩, by decide, lw_at 1150 rfl rfl, lw_at 78 (by decide +kernel) rfl⟩
theorem kL_97 : CV RL 97 mX6_on 1 6 := ⟨by decide, rfl, lw_at 1147 (by decide +kernel) rfl, lw_at 1148 (by decide +kernel) rfl, lw_at 1149 (by decide +kernel) rfl, cmX6_on⟩
set_option maxRecDepth 20000 in
theorem cmX5_reach : CM mX5_reach 1 := ⟨⟨by decide +kernel, by decide +kernel, by decide +kernel⟩, by decide, lw_at 644 rfl rfl, lw_at 71 (by decide +kernel) rfl⟩
theorem kL_98 : CV RL 98 mX5_reach 1 5 := ⟨by decide, rfl, lw_at 641 (by decide +kernel) rfl, lw_at 642 (by decide +kernel) rfl, lw_at 643 (by decide +kernel) rfl, cmX5_reach⟩
set_option maxRecDepth 20000 in
theorem cmX6_reach : CM mX6_reach 1 := ⟨⟨by decide +kernel, by decide +kernel, by decide +kernel⟩, by decide, lw_at 1181 rfl rfl, lw_at 78 (by decide +kernel) rfl⟩
theorem kL_101 : CV RL 101 mX6_reach 1 6 := ⟨by decide, rfl, lw_at 1178 (by decide +kernel) rfl, lw_at 1179 (by decide +kernel) rfl, lw_at 1180 (by decide +kernel) rfl, cmX6_reach⟩
set_option maxRecDepth 20000 in
theorem cmX5_run : CM mX5_run 1 := ⟨⟨by decide +kernel, by decide +kernel, by decide +kernel⟩, by decide, lw_at 652 rfl rfl, lw_at 71 (by decide +kernel) rfl⟩
theorem kL_102 : CV RL 102 mX5_run 1 5 := ⟨by decide, rfl, lw_at 649 (by decide +kernel) rfl, lw_at 650 (by decide +kernel) rfl, lw_at 651 (by decide +kernel) rfl, cmX5_run⟩
set_option maxRecDepth 20000 in
theorem cmX6_run : CM mX6_run 1 := ⟨⟨by decide +kernel, by decide +kernel, by decide +kernel⟩, by decide, lw_at 1185 rfl rfl, lw_at 78 (by decide +kernel) rfl⟩
theorem kL_105 : CV RL 105 mX6_run 1 6 := ⟨by decide, rfl, lw_at 1182 (by decide +kernel) rfl, lw_at 1183 (by decide +kernel) rfl, lw_at 1184 (by decide +kernel) rfl, cmX6_run⟩
set_option maxRecDepth 20000 in
theorem cmX5_cost : CM mX5_cost 0 := ⟨⟨by decide +kernel, by decide +kernel, by decide +kernel⟩, by decide, lw_at 719 rfl rfl, lw_at 71 (by decide +kernel) rfl⟩
theorem kL_106 : CV RL 106 mX5_cost 0 5 := ⟨by decide, rfl, lw_at 716 (by decide +kernel) rfl, lw_at 717 (by decide +kernel) rfl, lw_at 718 (by decide +kernel) rfl, cmX5_cost⟩
set_option maxRecDepth 20000 in
theorem cmX6_cost : CM mX6_cost 0 := ⟨⟨by decide +kernel, by decide +kernel, by decide +kernel⟩, by decide, lw_at 1240 rfl rfl, lw_at 78 (by decide +kernel) rfl⟩
theorem kL_110 : CV RL 110 mX6_cost 0 6 := ⟨by decide, rfl, lw_at 1237 (by decide +kernel) rfl, lw_at 1238 (by decide +kernel) rfl, lw_at 1239 (by decide +kernel) rfl, cmX6_cost⟩
set_option maxRecDepth 20000 in
theorem cmX5_part : CM mX5_part 2 := ⟨⟨by decide +kernel, by decide +kernel, by decide +kernel⟩, by decide, lw_at 723 rfl rfl, lw_at 71 (by decide +kernel) rfl⟩
theorem kL_111 : CV RL 111 mX5_part 2 5 := ⟨by decide, rfl, lw_at 720 (by decide +kernel) rfl, lw_at 721 (by decide +kernel) rfl, lw_at 722 (by decide +kernel) rfl, cmX5_part⟩
set_option maxRecDepth 20000 in
theorem cmX6_part : CM mX6_part 2 := ⟨⟨by decide +kernel, by decide +kernel, by decide +kernel⟩, by decide, lw_at 1244 rfl rfl, lw_at 78 (by decide +kernel) rfl⟩
theorem kL_114 : CV RL 114 mX6_part 2 6 := ⟨by decide, rfl, lw_at 1241 (by decide +kernel) rfl, lw_at 1242 (by decide +kernel) rfl, lw_at 1243 (by decide +kernel) rfl, cmX6_part⟩
set_option maxRecDepth 20000 in
theorem cmX5_mark : CM mX5_mark 2 := ⟨⟨by decide +kernel, by decide +kernel, by decide +kernel⟩, by decide, lw_at 740 rfl rfl, lw_at 71 (by decide +kernel) rfl⟩
theorem kL_115 : CV RL 115 mX5_mark 2 5 := ⟨by decide, rfl, lw_at 737 (by decide +kernel) rfl, lw_at 738 (by decide +kernel) rfl, lw_at 739 (by decide +kernel) rfl, cmX5_mark⟩
set_option maxRecDepth 20000 in
theorem cmX6_mark : CM mX6_mark 2 := ⟨⟨by decide +kernel, by decide +kernel, by decide +kernel⟩, by decide, lw_at 1264 rfl rfl, lw_at 78 (by decide +kernel) rfl⟩
theorem kL_118 : CV RL 118 mX6_mark 2 6 := ⟨by decide, rfl, lw_at 1261 (by decide +kernel) rfl, lw_at 1262 (by decide +kernel) rfl, lw_at 1263 (by decide +kernel) rfl, cmX6_mark⟩
set_option maxRecDepth 20000 in
theorem cmX5_jump : CM mX5_jump 2 := ⟨⟨by decide +kernel, by decide +kernel, by decide +kernel⟩, by decide, lw_at 752 rfl rfl, lw_at 71 (by decide +kernel) rfl⟩
theorem kL_119 : CV RL 119 mX5_jump 2 5 := ⟨by decide, rfl, lw_at 749 (by decide +kernel) rfl, lw_at 750 (by decide +kernel) rfl, lw_at 751 (by decide +kernel) rfl, cmX5_jump⟩
set_option maxRecDepth 20000 in
theorem cmX6_jump : CM mX6_jump 2 := ⟨⟨by decide +kernel, by decide +kernel, by decide +kernel⟩, by decide, lw_at 1272 rfl rfl, lw_at 78 (by decide +kernel) rfl⟩
theorem kL_122 : CV RL 122 mX6_jump 2 6 := ⟨by decide, rfl, lw_at 1269 (by decide +kernel) rfl, lw_at 1270 (by decide +kernel) rfl, lw_at 1271 (by decide +kernel) rfl, cmX6_jump⟩
set_option maxRecDepth 20000 in
theorem cmX5_mask : CM mX5_mask 2 := ⟨⟨by decide +kernel, by decide +kernel, by decide +kernel⟩, by decide, lw_at 756 rfl rfl, lw_at 71 (by decide +kernel) rfl⟩
theorem kL_123 : CV RL 123 mX5_mask 2 5 := ⟨by decide, rfl, lw_at 753 (by decide +kernel) rfl, lw_at 754 (by decide +kernel) rfl, lw_at 755 (by decide +kernel) rfl, cmX5_mask⟩
set_option maxRecDepth 20000 in
theorem cmX6_mask : CM mX6_mask 2 := ⟨⟨by decide +kernel, by decide +kernel, by decide +kernel⟩, by decide, lw_at 1280 rfl rfl, lw_at 78 (by decide +kernel) rfl⟩
theorem kL_126 : CV RL 126 mX6_mask 2 6 := ⟨by decide, rfl, lw_at 1277 (by decide +kernel) rfl, lw_at 1278 (by decide +kernel) rfl, lw_at 1279 (by decide +kernel) rfl, cmX6_mask⟩
set_option maxRecDepth 20000 in
theorem cmX5_only : CM mX5_only 1 := ⟨⟨by decide +kernel, by decide +kernel, by decide +kernel⟩, by decide, lw_at 760 rfl rfl, lw_at 71 (by decide +kernel) rfl⟩
theorem kL_127 : CV RL 127 mX5_only 1 5 := ⟨by decide, rfl, lw_at 757 (by decide +kernel) rfl, lw_at 758 (by decide +kernel) rfl, lw_at 759 (by decide +kernel) rfl, cmX5_only⟩
set_option maxRecDepth 20000 in
theorem cmX6_only : CM mX6_only 1 := ⟨⟨by decide +kernel, by decide +kernel, by decide +kernel⟩, by decide, lw_at 1284 rfl rfl, lw_at 78 (by decide +kernel) rfl⟩
theorem kL_130 : CV RL 130 mX6_only 1 6 := ⟨by decide, rfl, lw_at 1281 (by decide +kernel) rfl, lw_at 1282 (by decide +kernel) rfl, lw_at 1283 (by decide +kernel) rfl, cmX6_only⟩
set_option maxRecDepth 20000 in
theorem cmX5_chain : CM mX5_chain 0 := ⟨⟨by decide +kernel, by decide +kernel, by decide +kernel⟩, by decide, lw_at 764 rfl rfl, lw_at 71 (by decide +kernel) rfl⟩
theorem kL_131 : CV RL 131 mX5_chain 0 5 := ⟨by decide, rfl, lw_at 761 (by decide +kernel) rfl, lw_at 762 (by decide +kernel) rfl, lw_at 763 (by decide +kernel) rfl, cmX5_chain⟩
set_option maxRecDepth 20000 in
theorem cmX6_chain : CM mX6_chain 0 := ⟨⟨by decide +kernel, by decide +kernel, by decide +kernel⟩, by decide, lw_at 1288 rfl rfl, lw_at 78 (by decide +kernel) rfl⟩
theorem kL_134 : CV RL 134 mX6_chain 0 6 := ⟨by decide, rfl, lw_at 1285 (by decide +kernel) rfl, lw_at 1286 (by decide +kernel) rfl, lw_at 1287 (by decide +kernel) rfl, cmX6_chain⟩
set_option maxRecDepth 20000 in
theorem cmX5_worst : CM mX5_worst 0 := ⟨⟨by decide +kernel, by decide +kernel, by decide +kernel⟩, by decide, lw_at 769 rfl rfl, lw_at 71 (by decide +kernel) rfl⟩
theorem kL_135 : CV RL 135 mX5_worst 0 5 := ⟨by decide, rfl, lw_at 766 (by decide +kernel) rfl, lw_at 767 (by decide +kernel) rfl, lw_at 768 (by decide +kernel) rfl, cmX5_worst⟩
set_option maxRecDepth 20000 in
theorem cmX6_worst : CM mX6_worst 0 := ⟨⟨by decide +kernel, by decide +kernel, by decide +kernel⟩, by decide, lw_at 1292 rfl rfl, lw_at 78 (by decide +kernel) rfl⟩
theorem kL_138 : CV RL 138 mX6_worst 0 6 := ⟨by decide, rfl, lw_at 1289 (by decide +kernel) rfl, lw_at 1290 (by decide +kernel) rfl, lw_at 1291 (by decide +kernel) rfl, cmX6_worst⟩
set_option maxRecDepth 20000 in
theorem cmX5_swing : CM mX5_swing 1 := ⟨⟨by decide +kernel, by decide +kernel, by decide +kernel⟩, by decide, lw_at 773 rfl rfl, lw_at 71 (by decide +kernel) rfl⟩
theorem kL_139 : CV RL 139 mX5_swing 1 5 := ⟨by decide, rfl, lw_at 770 (by decide +kernel) rfl, lw_at 771 (by decide +kernel) rfl, lw_at 772 (by decide +kernel) rfl, cmX5_swing⟩
set_option maxRecDepth 20000 in
theorem cmX6_swing : CM mX6_swing 1 := ⟨⟨by decide +kernel, by decide +kernel, by decide +kernel⟩, by decide, lw_at 1296 rfl rfl, lw_at 78 (by decide +kernel) rfl⟩
theorem kL_142 : CV RL 142 mX6_swing 1 6 := ⟨by decide, rfl, lw_at 1293 (by decide +kernel) rfl, lw_at 1294 (by decide +kernel) rfl, lw_at 1295 (by decide +kernel) rfl, cmX6_swing⟩
set_option maxRecDepth 20000 in
theorem cmX5_covered : CM mX5_covered 2 := ⟨⟨by decide +kernel, by decide +kernel, by decide +kernel⟩, by decide, lw_at 781 rfl rfl, lw_at 71 (by decide +kernel) rfl⟩
theorem kL_143 : CV RL 143 mX5_covered 2 5 := ⟨by decide, rfl, lw_at 778 (by decide +kernel) rfl, lw_at 779 (by decide +kernel) rfl, lw_at 780 (by decide +kernel) rfl, cmX5_covered⟩
set_option maxRecDepth 20000 in
theorem cmX6_covered : CM mX6_covered 2 := ⟨⟨by decide +kernel, by decide +kernel, by decide +kernel⟩, by decide, lw_at 1304 rfl rfl, lw_at 78 (by decide +kernel) rfl⟩
theorem kL_147 : CV RL 147 mX6_covered 2 6 := ⟨by decide, rfl, lw_at 1301 (by decide +kernel) rfl, lw_at 1302 (by decide +kernel) rfl, lw_at 1303 (by decide +kernel) rfl, cmX6_covered⟩
set_option maxRecDepth 20000 in
theorem cmX5_lots : CM mX5_lots 2 := ⟨⟨by decide +kernel, by decide +kernel, by decide +kernel⟩, by decide, lw_at 788 rfl rfl, lw_at 71 (by decide +kernel) rfl⟩
theorem kL_148 : CV RL 148 mX5_lots 2 5 := ⟨by decide, rfl, lw_at 785 (by decide +kernel) rfl, lw_at 786 (by decide +kernel) rfl, lw_at 787 (by decide +kernel) rfl, cmX5_lots⟩
set_option maxRecDepth 20000 in
theorem cmX6_lots : CM mX6_lots 2 := ⟨⟨by decide +kernel, by decide +kernel, by decide +kernel⟩, by decide, lw_at 1309 rfl rfl, lw_at 78 (by decide +kernel) rfl⟩
theorem kL_151 : CV RL 151 mX6_lots 2 6 := ⟨by decide, rfl, lw_at 1306 (by decide +kernel) rfl, lw_at 1307 (by decide +kernel) rfl, lw_at 1308 (by decide +kernel) rfl, cmX6_lots⟩
set_option maxRecDepth 20000 in
theorem cmX5_asked : CM mX5_asked 0 := ⟨⟨by decide +kernel, by decide +kernel, by decide +kernel⟩, by decide, lw_at 803 rfl rfl, lw_at 71 (by decide +kernel) rfl⟩
theorem kL_152 : CV RL 152 mX5_asked 0 5 := ⟨by decide, rfl, lw_at 800 (by decide +kernel) rfl, lw_at 801 (by decide +kernel) rfl, lw_at 802 (by decide +kernel) rfl, cmX5_asked⟩
set_option maxRecDepth 20000 in
theorem cmX6_asked : CM mX6_asked 0 := ⟨⟨by decide +kernel, by decide +kernel, by decide +kernel⟩, by decide, lw_at 957 rfl rfl, lw_at 78 (by decide +kernel) rfl⟩
theorem kL_155 : CV RL 155 mX6_asked 0 6 := ⟨by decide, rfl, lw_at 954 (by decide +kernel) rfl, lw_at 955 (by decide +kernel) rfl, lw_at 956 (by decide +kernel) rfl, cmX6_asked⟩
set_option maxRecDepth 20000 in
theorem cmX5_mask0 : CM mX5_mask0 0 := ⟨⟨by decide +kernel, by decide +kernel, by decide +kernel⟩, by decide, lw_at 807 rfl rfl, lw_at 71 (by decide +kernel) rfl⟩
theorem kL_156 : CV RL 156 mX5_mask0 0 5 := ⟨by decide, rfl, lw_at 804 (by decide +kernel) rfl, lw_at 805 (by decide +kernel) rfl, lw_at 806 (by decide +kernel) rfl, cmX5_mask0⟩
set_option maxRecDepth 20000 in
theorem cmX6_mask0 : CM mX6_mask0 0 := ⟨⟨by decide +kernel, by decide +kernel, by decide +kernel⟩, by decide, lw_at 1276 rfl rfl, lw_at 78 (by decide +kernel) rfl⟩
theorem kL_160 : CV RL 160 mX6_mask0 0 6 := ⟨by decide, rfl, lw_at 1273 (by decide +kernel) rfl, lw_at 1274 (by decide +kernel) rfl, lw_at 1275 (by decide +kernel) rfl, cmX6_mask0⟩
theorem kL_161 : CV RL 161 mX5_count 1 5 := ⟨by decide, rfl, lw_at 808 (by decide +kernel) rfl, lw_at 809 (by decide +kernel) rfl, lw_at 810 (by decide +kernel) rfl, cmX5_count⟩
set_option maxRecDepth 20000 in
theorem cmX6_count : CM mX6_count 1 := ⟨⟨by decide +kernel, by decide +kernel, by decide +kernel⟩, by decide, lw_at 1320 rfl rfl, lw_at 78 (by decide +kernel) rfl⟩
theorem kL_164 : CV RL 164 mX6_count 1 6 := ⟨by decide, rfl, lw_at 1317 (by decide +kernel) rfl, lw_at 1318 (by decide +kernel) rfl, lw_at 1319 (by decide +kernel) rfl, cmX6_count⟩
set_option maxRecDepth 20000 in
theorem cmX5_finding : CM mX5_finding 0 := ⟨⟨by decide +kernel, by decide +kernel, by decide +kernel⟩, by decide, lw_at 827 rfl rfl, lw_at 71 (by decide +kernel) rfl⟩
theorem kL_165 : CV RL 165 mX5_finding 0 5 := ⟨by decide, rfl, lw_at 824 (by decide +kernel) rfl, lw_at 825 (by decide +kernel) rfl, lw_at 826 (by decide +kernel) rfl, cmX5_finding⟩
set_option maxRecDepth 20000 in
theorem cmX6_finding : CM mX6_finding 0 := ⟨⟨by decide +kernel, by decide +kernel, by decide +kernel⟩, by decide, lw_at 961 rfl rfl, lw_at 78 (by decide +kernel) rfl⟩
theorem kL_168 : CV RL 168 mX6_finding 0 6 := ⟨by decide, rfl, lw_at 958 (by decide +kernel) rfl, lw_at 959 (by decide +kernel) rfl, lw_at 960 (by decide +kernel) rfl, cmX6_finding⟩
set_option maxRecDepth 20000 in
theorem cmX5_findings : CM mX5_findings 1 := ⟨⟨by decide +kernel, by decide +kernel, by decide +kernel⟩, by decide, lw_at 831 rfl rfl, lw_at 71 (by decide +kernel) rfl⟩
theorem kL_169 : CV RL 169 mX5_findings 1 5 := ⟨by decide, rfl, lw_at 828 (by decide +kernel) rfl, lw_at 829 (by decide +kernel) rfl, lw_at 830 (by decide +kernel) rfl, cmX5_findings⟩
set_option maxRecDepth 20000 in
theorem cmX6_findings : CM mX6_findings 1 := ⟨⟨by decide +kernel, by decide +kernel, by decide +kernel⟩, by decide, lw_at 965 rfl rfl, lw_at 78 (by decide +kernel) rfl⟩
theorem kL_172 : CV RL 172 mX6_findings 1 6 := ⟨by decide, rfl, lw_at 962 (by decide +kernel) rfl, lw_at 963 (by decide +kernel) rfl, lw_at 964 (by decide +kernel) rfl, cmX6_findings⟩
set_option maxRecDepth 20000 in
theorem cmX5_digest : CM mX5_digest 0 := ⟨⟨by decide +kernel, by decide +kernel, by decide +kernel⟩, by decide, lw_at 835 rfl rfl, lw_at 71 (by decide +kernel) rfl⟩
theorem kL_173 : CV RL 173 mX5_digest 0 5 := ⟨by decide, rfl, lw_at 832 (by decide +kernel) rfl, lw_at 833 (by decide +kernel) rfl, lw_at 834 (by decide +kernel) rfl, cmX5_digest⟩
set_option maxRecDepth 20000 in
theorem cmX6_digest : CM mX6_digest 0 := ⟨⟨by decide +kernel, by decide +kernel, by decide +kernel⟩, by decide, lw_at 1332 rfl rfl, lw_at 78 (by decide +kernel) rfl⟩
theorem kL_176 : CV RL 176 mX6_digest 0 6 := ⟨by decide, rfl, lw_at 1329 (by decide +kernel) rfl, lw_at 1330 (by decide +kernel) rfl, lw_at 1331 (by decide +kernel) rfl, cmX6_digest⟩
set_option maxRecDepth 20000 in
theorem cmX6_in : CM mX6_in 3 := ⟨⟨by decide +kernel, by decide +kernel, by decide +kernel⟩, by decide, lw_at 968 rfl rfl, lw_at 78 (by decide +kernel) rfl⟩
theorem kX6_75 : CS RX6 75 mX6_in 3 := ⟨lw_at 966 (by decide +kernel) rfl, lw_at 967 (by decide +kernel) rfl, cmX6_in⟩
set_option maxRecDepth 20000 in
theorem cmX6_isRow : CM mX6_isRow 1 := ⟨⟨by decide +kernel, by decide +kernel, by decide +kernel⟩, by decide, lw_at 975 rfl rfl, lw_at 78 (by decide +kernel) rfl⟩
theorem kX6_79 : CS RX6 79 mX6_isRow 1 := ⟨lw_at 973 (by decide +kernel) rfl, lw_at 974 (by decide +kernel) rfl, cmX6_isRow⟩
set_option maxRecDepth 20000 in
theorem cmX6_found : CM mX6_found 1 := ⟨⟨by decide +kernel, by decide +kernel, by decide +kernel⟩, by decide, lw_at 979 rfl rfl, lw_at 78 (by decide +kernel) rfl⟩
theorem kX6_83 : CV RX6 83 mX6_found 1 6 := ⟨by decide, rfl, lw_at 976 (by decide +kernel) rfl, lw_at 978 (by decide +kernel) rfl, lw_at 24 (by decide +kernel) rfl, cmX6_found⟩
set_option maxRecDepth 20000 in
theorem cmX6_rowAt : CM mX6_rowAt 2 := ⟨⟨by decide +kernel, by decide +kernel, by decide +kernel⟩, by decide, lw_at 987 rfl rfl, lw_at 78 (by decide +kernel) rfl⟩
theorem kX6_87 : CV RX6 87 mX6_rowAt 2 6 := ⟨by decide, rfl, lw_at 984 (by decide +kernel) rfl, lw_at 986 (by decide +kernel) rfl, lw_at 25 (by decide +kernel) rfl, cmX6_rowAt⟩
set_option maxRecDepth 20000 in
theorem cmX6_tells : CM mX6_tells 2 := ⟨⟨by decide +kernel, by decide +kernel, by decide +kernel⟩, by decide, lw_at 991 rfl rfl, lw_at 78 (by decide +kernel) rfl⟩
theorem kX6_91 : CV RX6 91 mX6_tells 2 6 := ⟨by decide, rfl, lw_at 988 (by decide +kernel) rfl, lw_at 990 (by decide +kernel) rfl, lw_at 26 (by decide +kernel) rfl, cmX6_tells⟩
set_option maxRecDepth 20000 in
theorem cmX6_isText : CM mX6_isText 1 := ⟨⟨by decide +kernel, by decide +kernel, by decide +kernel⟩, by decide, lw_at 1014 rfl rfl, lw_at 78 (by decide +kernel) rfl⟩
theorem kX6_94 : CS RX6 94 mX6_isText 1 := ⟨lw_at 1012 (by decide +kernel) rfl, lw_at 1013 (by decide +kernel) rfl, cmX6_isText⟩
set_option maxRecDepth 20000 in
theorem cmX6_byteAt : CM mX6_byteAt 2 := ⟨⟨by decide +kernel, by decide +kernel, by decide +kernel⟩, by decide, lw_at 1034 rfl rfl, lw_at 78 (by decide +kernel) rfl⟩
theorem kX6_100 : CV RX6 100 mX6_byteAt 2 6 := ⟨by decide, rfl, lw_at 1031 (by decide +kernel) rfl, lw_at 1033 (by decide +kernel) rfl, lw_at 29 (by decide +kernel) rfl, cmX6_byteAt⟩
set_option maxRecDepth 20000 in
theorem cmX6_blanks : CM mX6_blanks 1 := ⟨⟨by decide +kernel, by decide +kernel, by decide +kernel⟩, by decide, lw_at 1030 rfl rfl, lw_at 78 (by decide +kernel) rfl⟩
theorem kX6_103 : CV RX6 103 mX6_blanks 1 6 := ⟨by decide, rfl, lw_at 1027 (by decide +kernel) rfl, lw_at 1029 (by decide +kernel) rfl, lw_at 28 (by decide +kernel) rfl, cmX6_blanks⟩
set_option maxRecDepth 20000 in
theorem cmX6_isLetter : CM mX6_isLetter 1 := ⟨⟨by decide +kernel, by decide +kernel, by decide +kernel⟩, by decide, lw_at 1046 rfl rfl, lw_at 78 (by decide +kernel) rfl⟩
theorem kX6_113 : CV RX6 113 mX6_isLetter 1 6 := ⟨by decide, rfl, lw_at 1043 (by decide +kernel) rfl, lw_at 1045 (by decide +kernel) rfl, lw_at 32 (by decide +kernel) rfl, cmX6_isLetter⟩
set_option maxRecDepth 20000 in
theorem cmX6_isFigure : CM mX6_isFigure 2 := ⟨⟨by decide +kernel, by decide +kernel, by decide +kernel⟩, by decide, lw_at 1050 rfl rfl, lw_at 78 (by decide +kernel) rfl⟩
theorem kX6_116 : CV RX6 116 mX6_isFigure 2 6 := ⟨by decide, rfl, lw_at 1047 (by decide +kernel) rfl, lw_at 1049 (by decide +kernel) rfl, lw_at 33 (by decide +kernel) rfl, cmX6_isFigure⟩
set_option maxRecDepth 20000 in
theorem cmX6_next : CM mX6_next 1 := ⟨⟨by decide +kernel, by decide +kernel, by decide +kernel⟩, by decide, lw_at 1042 rfl rfl, lw_at 78 (by decide +kernel) rfl⟩
theorem kX6_133 : CV RX6 133 mX6_next 1 6 := ⟨by decide, rfl, lw_at 1039 (by decide +kernel) rfl, lw_at 1041 (by decide +kernel) rfl, lw_at 31 (by decide +kernel) rfl, cmX6_next⟩
set_option maxRecDepth 20000 in
theorem cmX6_fails : CM mX6_fails 0 := ⟨⟨by decide +kernel, by decide +kernel, by decide +kernel⟩, by decide, lw_at 1071 rfl rfl, lw_at 78 (by decide +kernel) rfl⟩
theorem kX6_136 : CV RX6 136 mX6_fails 0 6 := ⟨by decide, rfl, lw_at 1068 (by decide +kernel) rfl, lw_at 1070 (by decide +kernel) rfl, lw_at 37 (by decide +kernel) rfl, cmX6_fails⟩
set_option maxRecDepth 20000 in
theorem cmX6_number : CM mX6_number 3 := ⟨⟨by decide +kernel, by decide +kernel, by decide +kernel⟩, by decide, lw_at 1067 rfl rfl, lw_at 78 (by decide +kernel) rfl⟩
theorem kX6_142 : CV RX6 142 mX6_number 3 6 := ⟨by decide, rfl, lw_at 1064 (by decide +kernel) rfl, lw_at 1066 (by decide +kernel) rfl, lw_at 36 (by decide +kernel) rfl, cmX6_number⟩
set_option maxRecDepth 20000 in
theorem cmX6_comes : CM mX6_comes 5 := ⟨⟨by decide +kernel, by decide +kernel, by decide +kernel⟩, by decide, lw_at 1083 rfl rfl, lw_at 78 (by decide +kernel) rfl⟩
theorem kX6_148 : CS RX6 148 mX6_comes 5 := ⟨lw_at 1081 (by decide +kernel) rfl, lw_at 1082 (by decide +kernel) rfl, cmX6_comes⟩
set_option maxRecDepth 20000 in
theorem cmX6_ends : CM mX6_ends 1 := ⟨⟨by decide +kernel, by decide +kernel, by decide +kernel⟩, by decide, lw_at 1087 rfl rfl, lw_at 78 (by decide +kernel) rfl⟩
theorem kX6_152 : CV RX6 152 mX6_ends 1 6 := ⟨by decide, rfl, lw_at 1084 (by decide +kernel) rfl, lw_at 1086 (by decide +kernel) rfl, lw_at 39 (by decide +kernel) rfl, cmX6_ends⟩
set_option maxRecDepth 20000 in
theorem cmX6_caseOf : CM mX6_caseOf 2 := ⟨⟨by decide +kernel, by decide +kernel, by decide +kernel⟩, by decide, lw_at 1074 rfl rfl, lw_at 78 (by decide +kernel) rfl⟩
theorem kX6_159 : CS RX6 159 mX6_caseOf 2 := ⟨lw_at 1072 (by decide +kernel) rfl, lw_at 1073 (by decide +kernel) rfl, cmX6_caseOf⟩
set_option maxRecDepth 20000 in
theorem cmX6_readsAim : CM mX6_readsAim 3 := ⟨⟨by decide +kernel, by decide +kernel, by decide +kernel⟩, by decide, lw_at 1078 rfl rfl, lw_at 78 (by decide +kernel) rfl⟩
theorem kX6_163 : CV RX6 163 mX6_readsAim 3 6 := ⟨by decide, rfl, lw_at 1075 (by decide +kernel) rfl, lw_at 1077 (by decide +kernel) rfl, lw_at 38 (by decide +kernel) rfl, cmX6_readsAim⟩
set_option maxRecDepth 20000 in
theorem cmX6_isFree : CM mX6_isFree 3 := ⟨⟨by decide +kernel, by decide +kernel, by decide +kernel⟩, by decide, lw_at 1094 rfl rfl, lw_at 78 (by decide +kernel) rfl⟩
theorem kX6_166 : CS RX6 166 mX6_isFree 3 := ⟨lw_at 1092 (by decide +kernel) rfl, lw_at 1093 (by decide +kernel) rfl, cmX6_isFree⟩
set_option maxRecDepth 20000 in
theorem cmX6_hashOf : CM mX6_hashOf 1 := ⟨⟨by decide +kernel, by decide +kernel, by decide +kernel⟩, by decide, lw_at 1102 rfl rfl, lw_at 78 (by decide +kernel) rfl⟩
theorem kX6_170 : CV RX6 170 mX6_hashOf 1 6 := ⟨by decide, rfl, lw_at 1099 (by decide +kernel) rfl, lw_at 1101 (by decide +kernel) rfl, lw_at 42 (by decide +kernel) rfl, cmX6_hashOf⟩
set_option maxRecDepth 20000 in
theorem cmX6_word : CM mX6_word 1 := ⟨⟨by decide +kernel, by decide +kernel, by decide +kernel⟩, by decide, lw_at 1057 rfl rfl, lw_at 78 (by decide +kernel) rfl⟩
theorem kX6_180 : CV RX6 180 mX6_word 1 6 := ⟨by decide, rfl, lw_at 1054 (by decide +kernel) rfl, lw_at 1056 (by decide +kernel) rfl, lw_at 34 (by decide +kernel) rfl, cmX6_word⟩
set_option maxRecDepth 20000 in
theorem cmX6_readsCase : CM mX6_readsCase 1 := ⟨⟨by decide +kernel, by decide +kernel, by decide +kernel⟩, by decide, lw_at 1061 rfl rfl, lw_at 78 (by decide +kernel) rfl⟩
theorem kX6_183 : CV RX6 183 mX6_readsCase 1 6 := ⟨by decide, rfl, lw_at 1058 (by decide +kernel) rfl, lw_at 1060 (by decide +kernel) rfl, lw_at 35 (by decide +kernel) rfl, cmX6_readsCase⟩
set_option maxRecDepth 20000 in
theorem cmX6_readsRange : CM mX6_readsRange 1 := ⟨⟨by decide +kernel, by decide +kernel, by decide +kernel⟩, by decide, lw_at 1091 rfl rfl, lw_at 78 (by decide +kernel) rfl⟩
theorem kX6_186 : CV RX6 186 mX6_readsRange 1 6 := ⟨by decide, rfl, lw_at 1088 (by decide +kernel) rfl, lw_at 1090 (by decide +kernel) rfl, lw_at 40 (by decide +kernel) rfl, cmX6_readsRange⟩
set_option maxRecDepth 20000 in
theorem cmX6_readsName : CM mX6_readsName 1 := ⟨⟨by decide +kernel, by decide +kernel, by decide +kernel⟩, by decide, lw_at 1098 rfl rfl, lw_at 78 (by decide +kernel) rfl⟩
theorem kX6_189 : CV RX6 189 mX6_readsName 1 6 := ⟨by decide, rfl, lw_at 1095 (by decide +kernel) rfl, lw_at 1097 (by decide +kernel) rfl, lw_at 41 (by decide +kernel) rfl, cmX6_readsName⟩
set_option maxRecDepth 20000 in
theorem cmX6_readsRest : CM mX6_readsRest 1 := ⟨⟨by decide +kernel, by decide +kernel, by decide +kernel⟩, by decide, lw_at 1106 rfl rfl, lw_at 78 (by decide +kernel) rfl⟩
theorem kX6_192 : CV RX6 192 mX6_readsRest 1 6 := ⟨by decide, rfl, lw_at 1103 (by decide +kernel) rfl, lw_at 1105 (by decide +kernel) rfl, lw_at 43 (by decide +kernel) rfl, cmX6_readsRest⟩
set_option maxRecDepth 20000 in
theorem cmX6_readsOne : CM mX6_readsOne 1 := ⟨⟨by decide +kernel, by decide +kernel, by decide +kernel⟩, by decide, lw_at 1038 rfl rfl, lw_at 78 (by decide +kernel) rfl⟩
theorem kX6_195 : CV RX6 195 mX6_readsOne 1 6 := ⟨by decide, rfl, lw_at 1035 (by decide +kernel) rfl, lw_at 1037 (by decide +kernel) rfl, lw_at 30 (by decide +kernel) rfl, cmX6_readsOne⟩
set_option maxRecDepth 20000 in
theorem cmX6_faultOf : CM mX6_faultOf 1 := ⟨⟨by decide +kernel, by decide +kernel, by decide +kernel⟩, by decide, lw_at 1026 rfl rfl, lw_at 78 (by decide +kernel) rfl⟩
theorem kX6_198 : CV RX6 198 mX6_faultOf 1 6 := ⟨by decide, rfl, lw_at 1023 (by decide +kernel) rfl, lw_at 1025 (by decide +kernel) rfl, lw_at 27 (by decide +kernel) rfl, cmX6_faultOf⟩
set_option maxRecDepth 20000 in
theorem cmX6_writes : CM mX6_writes 1 := ⟨⟨by decide +kernel, by decide +kernel, by decide +kernel⟩, by decide, lw_at 1122 rfl rfl, lw_at 78 (by decide +kernel) rfl⟩
theorem kX6_210 : CV RX6 210 mX6_writes 1 6 := ⟨by decide, rfl, lw_at 1119 (by decide +kernel) rfl, lw_at 1121 (by decide +kernel) rfl, lw_at 45 (by decide +kernel) rfl, cmX6_writes⟩
set_option maxRecDepth 20000 in
theorem cmX6_writesWord : CM mX6_writesWord 4 := ⟨⟨by decide +kernel, by decide +kernel, by decide +kernel⟩, by decide, lw_at 1118 rfl rfl, lw_at 78 (by decide +kernel) rfl⟩
theorem kX6_213 : CV RX6 213 mX6_writesWord 4 6 := ⟨by decide, rfl, lw_at 1115 (by decide +kernel) rfl, lw_at 1117 (by decide +kernel) rfl, lw_at 44 (by decide +kernel) rfl, cmX6_writesWord⟩
set_option maxRecDepth 20000 in
theorem cmX6_writesNumber : CM mX6_writesNumber 1 := ⟨⟨by decide +kernel, by decide +kernel, by decide +kernel⟩, by decide, lw_at 1126 rfl rfl, lw_at 78 (by decide +kernel) rfl⟩
theorem kX6_217 : CV RX6 217 mX6_writesNumber 1 6 := ⟨by decide, rfl, lw_at 1123 (by decide +kernel) rfl, lw_at 1125 (by decide +kernel) rfl, lw_at 46 (by decide +kernel) rfl, cmX6_writesNumber⟩
set_option maxRecDepth 20000 in
theorem cmX6_isCase : CM mX6_isCase 1 := ⟨⟨by decide +kernel, by decide +kernel, by decide +kernel⟩, by decide, lw_at 1138 rfl rfl, lw_at 78 (by decide +kernel) rfl⟩
theorem kX6_221 : CV RX6 221 mX6_isCase 1 6 := ⟨by decide, rfl, lw_at 1135 (by decide +kernel) rfl, lw_at 1137 (by decide +kernel) rfl, lw_at 47 (by decide +kernel) rfl, cmX6_isCase⟩
set_option maxRecDepth 20000 in
theorem cmX6_remember : CM mX6_remember 0 := ⟨⟨by decide +kernel, by decide +kernel, by decide +kernel⟩, by decide, lw_at 1158 rfl rfl, lw_at 78 (by decide +kernel) rfl⟩
theorem kX6_224 : CV RX6 224 mX6_remember 0 6 := ⟨by decide, rfl, lw_at 1155 (by decide +kernel) rfl, lw_at 1157 (by decide +kernel) rfl, lw_at 48 (by decide +kernel) rfl, cmX6_remember⟩
set_option maxRecDepth 20000 in
theorem cmX6_goes : CM mX6_goes 2 := ⟨⟨by decide +kernel, by decide +kernel, by decide +kernel⟩, by decide, lw_at 1165 rfl rfl, lw_at 78 (by decide +kernel) rfl⟩
theorem kX6_227 : CS RX6 227 mX6_goes 2 := ⟨lw_at 1163 (by decide +kernel) rfl, lw_at 1164 (by decide +kernel) rfl, cmX6_goes⟩
set_option maxRecDepth 20000 in
theorem cmX6_becomes : CM mX6_becomes 2 := ⟨⟨by decide +kernel, by decide +kernel, by decide +kernel⟩, by decide, lw_at 1173 rfl rfl, lw_at 78 (by decide +kernel) rfl⟩
theorem kX6_231 : CV RX6 231 mX6_becomes 2 6 := ⟨by decide, rfl, lw_at 1170 (by decide +kernel) rfl, lw_at 1172 (by decide +kernel) rfl, lw_at 49 (by decide +kernel) rfl, cmX6_becomes⟩
set_option maxRecDepth 20000 in
theorem cmX6_spanOf : CM mX6_spanOf 2 := ⟨⟨by decide +kernel, by decide +kernel, by decide +kernel⟩, by decide, lw_at 1209 rfl rfl, lw_at 78 (by decide +kernel) rfl⟩
theorem kX6_234 : CV RX6 234 mX6_spanOf 2 6 := ⟨by decide, rfl, lw_at 1206 (by decide +kernel) rfl, lw_at 1208 (by decide +kernel) rfl, lw_at 55 (by decide +kernel) rfl, cmX6_spanOf⟩
set_option maxRecDepth 20000 in
theorem cmX6_has : CM mX6_has 2 := ⟨⟨by decide +kernel, by decide +kernel, by decide +kernel⟩, by decide, lw_at 1212 rfl rfl, lw_at 78 (by decide +kernel) rfl⟩
theorem kX6_238 : CS RX6 238 mX6_has 2 := ⟨lw_at 1210 (by decide +kernel) rfl, lw_at 1211 (by decide +kernel) rfl, cmX6_has⟩
set_option maxRecDepth 20000 in
theorem cmX6_aimsOf : CM mX6_aimsOf 2 := ⟨⟨by decide +kernel, by decide +kernel, by decide +kernel⟩, by decide, lw_at 1223 rfl rfl, lw_at 78 (by decide +kernel) rfl⟩
theorem kX6_241 : CV RX6 241 mX6_aimsOf 2 6 := ⟨by decide, rfl, lw_at 1220 (by decide +kernel) rfl, lw_at 1222 (by decide +kernel) rfl, lw_at 57 (by decide +kernel) rfl, cmX6_aimsOf⟩
set_option maxRecDepth 20000 in
theorem cmX6_coveredBy : CM mX6_coveredBy 2 := ⟨⟨by decide +kernel, by decide +kernel, by decide +kernel⟩, by decide, lw_at 1218 rfl rfl, lw_at 78 (by decide +kernel) rfl⟩
theorem kX6_248 : CV RX6 248 mX6_coveredBy 2 6 := ⟨by decide, rfl, lw_at 1215 (by decide +kernel) rfl, lw_at 1217 (by decide +kernel) rfl, lw_at 56 (by decide +kernel) rfl, cmX6_coveredBy⟩
set_option maxRecDepth 20000 in
theorem cmX6_weightOf : CM mX6_weightOf 2 := ⟨⟨by decide +kernel, by decide +kernel, by decide +kernel⟩, by decide, lw_at 1201 rfl rfl, lw_at 78 (by decide +kernel) rfl⟩
theorem kX6_253 : CV RX6 253 mX6_weightOf 2 6 := ⟨by decide, rfl, lw_at 1198 (by decide +kernel) rfl, lw_at 1200 (by decide +kernel) rfl, lw_at 53 (by decide +kernel) rfl, cmX6_weightOf⟩
set_option maxRecDepth 20000 in
theorem cmX6_sortOf : CM mX6_sortOf 3 := ⟨⟨by decide +kernel, by decide +kernel, by decide +kernel⟩, by decide, lw_at 1205 rfl rfl, lw_at 78 (by decide +kernel) rfl⟩
theorem kX6_256 : CV RX6 256 mX6_sortOf 3 6 := ⟨by decide, rfl, lw_at 1202 (by decide +kernel) rfl, lw_at 1204 (by decide +kernel) rfl, lw_at 54 (by decide +kernel) rfl, cmX6_sortOf⟩
set_option maxRecDepth 20000 in
theorem cmX6_stepsBy : CM mX6_stepsBy 3 := ⟨⟨by decide +kernel, by decide +kernel, by decide +kernel⟩, by decide, lw_at 1228 rfl rfl, lw_at 78 (by decide +kernel) rfl⟩
theorem kX6_261 : CV RX6 261 mX6_stepsBy 3 6 := ⟨by decide, rfl, lw_at 1225 (by decide +kernel) rfl, lw_at 1227 (by decide +kernel) rfl, lw_at 58 (by decide +kernel) rfl, cmX6_stepsBy⟩
set_option maxRecDepth 20000 in
theorem cmX6_costOf : CM mX6_costOf 2 := ⟨⟨by decide +kernel, by decide +kernel, by decide +kernel⟩, by decide, lw_at 1232 rfl rfl, lw_at 78 (by decide +kernel) rfl⟩
theorem kX6_264 : CV RX6 264 mX6_costOf 2 6 := ⟨by decide, rfl, lw_at 1229 (by decide +kernel) rfl, lw_at 1231 (by decide +kernel) rfl, lw_at 59 (by decide +kernel) rfl, cmX6_costOf⟩
set_option maxRecDepth 20000 in
theorem cmX6_layCost : CM mX6_layCost 3 := ⟨⟨by decide +kernel, by decide +kernel, by decide +kernel⟩, by decide, lw_at 1197 rfl rfl, lw_at 78 (by decide +kernel) rfl⟩
theorem kX6_267 : CV RX6 267 mX6_layCost 3 6 := ⟨by decide, rfl, lw_at 1194 (by decide +kernel) rfl, lw_at 1196 (by decide +kernel) rfl, lw_at 52 (by decide +kernel) rfl, cmX6_layCost⟩
set_option maxRecDepth 20000 in
theorem cmX6_layCosts : CM mX6_layCosts 1 := ⟨⟨by decide +kernel, by decide +kernel, by decide +kernel⟩, by decide, lw_at 1193 rfl rfl, lw_at 78 (by decide +kernel) rfl⟩
theorem kX6_271 : CV RX6 271 mX6_layCosts 1 6 := ⟨by decide, rfl, lw_at 1190 (by decide +kernel) rfl, lw_at 1192 (by decide +kernel) rfl, lw_at 51 (by decide +kernel) rfl, cmX6_layCosts⟩
set_option maxRecDepth 20000 in
theorem cmX6_cutOf : CM mX6_cutOf 1 := ⟨⟨by decide +kernel, by decide +kernel, by decide +kernel⟩, by decide, lw_at 1236 rfl rfl, lw_at 78 (by decide +kernel) rfl⟩
theorem kX6_277 : CV RX6 277 mX6_cutOf 1 6 := ⟨by decide, rfl, lw_at 1233 (by decide +kernel) rfl, lw_at 1235 (by decide +kernel) rfl, lw_at 60 (by decide +kernel) rfl, cmX6_cutOf⟩
set_option maxRecDepth 20000 in
theorem cmX6_partSort : CM mX6_partSort 1 := ⟨⟨by decide +kernel, by decide +kernel, by decide +kernel⟩, by decide, lw_at 1256 rfl rfl, lw_at 78 (by decide +kernel) rfl⟩
theorem kX6_280 : CV RX6 280 mX6_partSort 1 6 := ⟨by decide, rfl, lw_at 1253 (by decide +kernel) rfl, lw_at 1255 (by decide +kernel) rfl, lw_at 63 (by decide +kernel) rfl, cmX6_partSort⟩
set_option maxRecDepth 20000 in
theorem cmX6_layPlan : CM mX6_layPlan 0 := ⟨⟨by decide +kernel, by decide +kernel, by decide +kernel⟩, by decide, lw_at 1189 rfl rfl, lw_at 78 (by decide +kernel) rfl⟩
theorem kX6_283 : CV RX6 283 mX6_layPlan 0 6 := ⟨by decide, rfl, lw_at 1186 (by decide +kernel) rfl, lw_at 1188 (by decide +kernel) rfl, lw_at 50 (by decide +kernel) rfl, cmX6_layPlan⟩
set_option maxRecDepth 20000 in
theorem cmX6_partSteps : CM mX6_partSteps 1 := ⟨⟨by decide +kernel, by decide +kernel, by decide +kernel⟩, by decide, lw_at 1260 rfl rfl, lw_at 78 (by decide +kernel) rfl⟩
theorem kX6_287 : CV RX6 287 mX6_partSteps 1 6 := ⟨by decide, rfl, lw_at 1257 (by decide +kernel) rfl, lw_at 1259 (by decide +kernel) rfl, lw_at 64 (by decide +kernel) rfl, cmX6_partSteps⟩
set_option maxRecDepth 20000 in
theorem cmX6_isPart : CM mX6_isPart 1 := ⟨⟨by decide +kernel, by decide +kernel, by decide +kernel⟩, by decide, lw_at 1248 rfl rfl, lw_at 78 (by decide +kernel) rfl⟩
theorem kX6_290 : CV RX6 290 mX6_isPart 1 6 := ⟨by decide, rfl, lw_at 1245 (by decide +kernel) rfl, lw_at 1247 (by decide +kernel) rfl, lw_at 61 (by decide +kernel) rfl, cmX6_isPart⟩
set_option maxRecDepth 20000 in
theorem cmX6_partTells : CM mX6_partTells 2 := ⟨⟨by decide +kernel, by decide +kernel, by decide +kernel⟩, by decide, lw_at 1252 rfl rfl, lw_at 78 (by decide +kernel) rfl⟩
theorem kX6_293 : CV RX6 293 mX6_partTells 2 6 := ⟨by decide, rfl, lw_at 1249 (by decide +kernel) rfl, lw_at 1251 (by decide +kernel) rfl, lw_at 62 (by decide +kernel) rfl, cmX6_partTells⟩
set_option maxRecDepth 20000 in
theorem cmX6_markOf : CM mX6_markOf 2 := ⟨⟨by decide +kernel, by decide +kernel, by decide +kernel⟩, by decide, lw_at 1268 rfl rfl, lw_at 78 (by decide +kernel) rfl⟩
theorem kX6_296 : CV RX6 296 mX6_markOf 2 6 := ⟨by decide, rfl, lw_at 1265 (by decide +kernel) rfl, lw_at 1267 (by decide +kernel) rfl, lw_at 65 (by decide +kernel) rfl, cmX6_markOf⟩
set_option maxRecDepth 20000 in
theorem cmX6_isOther : CM mX6_isOther 0 := ⟨⟨by decide +kernel, by decide +kernel, by decide +kernel⟩, by decide, lw_at 1300 rfl rfl, lw_at 78 (by decide +kernel) rfl⟩
theorem kX6_305 : CV RX6 305 mX6_isOther 0 6 := ⟨by decide, rfl, lw_at 1297 (by decide +kernel) rfl, lw_at 1299 (by decide +kernel) rfl, lw_at 66 (by decide +kernel) rfl, cmX6_isOther⟩
set_option maxRecDepth 20000 in
theorem cmX6_sortMany : CM mX6_sortMany 1 := ⟨⟨by decide +kernel, by decide +kernel, by decide +kernel⟩, by decide, lw_at 1328 rfl rfl, lw_at 78 (by decide +kernel) rfl⟩
theorem kX6_323 : CV RX6 323 mX6_sortMany 1 6 := ⟨by decide, rfl, lw_at 1325 (by decide +kernel) rfl, lw_at 1327 (by decide +kernel) rfl, lw_at 68 (by decide +kernel) rfl, cmX6_sortMany⟩
set_option maxRecDepth 20000 in
theorem cmX6_counted : CM mX6_counted 1 := ⟨⟨by decide +kernel, by decide +kernel, by decide +kernel⟩, by decide, lw_at 1324 rfl rfl, lw_at 78 (by decide +kernel) rfl⟩
theorem kX6_326 : CV RX6 326 mX6_counted 1 6 := ⟨by decide, rfl, lw_at 1321 (by decide +kernel) rfl, lw_at 1323 (by decide +kernel) rfl, lw_at 67 (by decide +kernel) rfl, cmX6_counted⟩
set_option maxRecDepth 20000 in
theorem cmX6_adds : CM mX6_adds 1 := ⟨⟨by decide +kernel, by decide +kernel, by decide +kernel⟩, by decide, lw_at 1337 rfl rfl, lw_at 78 (by decide +kernel) rfl⟩
theorem kX6_336 : CV RX6 336 mX6_adds 1 6 := ⟨by decide, rfl, lw_at 1334 (by decide +kernel) rfl, lw_at 1336 (by decide +kernel) rfl, lw_at 69 (by decide +kernel) rfl, cmX6_adds⟩
set_option maxRecDepth 20000 in
theorem cmJ1_charAt_3b067 : CM mJ1_charAt_3b067 2 := ⟨⟨by decide +kernel, by decide +kernel, by decide +kernel⟩, by decide, lw_at 447 rfl rfl, lw_at 81 (by decide +kernel) rfl⟩
theorem kJ0_495 : CS RJ0 495 mJ1_charAt_3b067 2 := ⟨lw_at 445 (by decide +kernel) rfl, lw_at 446 (by decide +kernel) rfl, cmJ1_charAt_3b067⟩
set_option maxRecDepth 20000 in
theorem cmJ2_charAt_3b067 : CM mJ2_charAt_3b067 2 := ⟨⟨by decide +kernel, by decide +kernel, by decide +kernel⟩, by decide, lw_at 458 rfl rfl, lw_at 83 (by decide +kernel) rfl⟩
theorem kJ0_498 : CS RJ0 498 mJ2_charAt_3b067 2 := ⟨lw_at 456 (by decide +kernel) rfl, lw_at 457 (by decide +kernel) rfl, cmJ2_charAt_3b067⟩
set_option maxRecDepth 20000 in
theorem cmJ3_checkIndex_8e157 : CM mJ3_checkIndex_8e157 3 := ⟨⟨by decide +kernel, by decide +kernel, by decide +kernel⟩, by decide, lw_at 455 rfl rfl, lw_at 82 (by decide +kernel) rfl⟩
theorem kJ0_1059 : CS RJ0 1059 mJ3_checkIndex_8e157 3 := ⟨lw_at 453 (by decide +kernel) rfl, lw_at 454 (by decide +kernel) rfl, cmJ3_checkIndex_8e157⟩
set_option maxRecDepth 20000 in
theorem cmJ0_checkIndex_df160 : CM mJ0_checkIndex_df160 2 := ⟨⟨by decide +kernel, by decide +kernel, by decide +kernel⟩, by decide, lw_at 450 rfl rfl, lw_at 80 (by decide +kernel) rfl⟩
theorem kJ1_9 : CS RJ1 9 mJ0_checkIndex_df160 2 := ⟨lw_at 448 (by decide +kernel) rfl, lw_at 449 (by decide +kernel) rfl, cmJ0_checkIndex_df160⟩
set_option maxRecDepth 20000 in
theorem cmJ2_length_9d52b : CM mJ2_length_9d52b 1 := ⟨⟨by decide +kernel, by decide +kernel, by decide +kernel⟩, by decide, lw_at 464 rfl rfl, lw_at 83 (by decide +kernel) rfl⟩
theorem kJ2_48 : CS RJ2 48 mJ2_length_9d52b 1 := ⟨lw_at 462 (by decide +kernel) rfl, lw_at 463 (by decide +kernel) rfl, cmJ2_length_9d52b⟩
set_option maxRecDepth 20000 in
theorem cmJ2_checkIndex_2214a : CM mJ2_checkIndex_2214a 2 := ⟨⟨by decide +kernel, by decide +kernel, by decide +kernel⟩, by decide, lw_at 461 rfl rfl, lw_at 83 (by decide +kernel) rfl⟩
theorem kJ2_67 : CS RJ2 67 mJ2_checkIndex_2214a 2 := ⟨lw_at 459 (by decide +kernel) rfl, lw_at 460 (by decide +kernel) rfl, cmJ2_checkIndex_2214a⟩
set_option maxRecDepth 20000 in
theorem cmJ2_getChar_3b067 : CM mJ2_getChar_3b067 2 := ⟨⟨by decide +kernel, by decide +kernel, by decide +kernel⟩, by decide, lw_at 468 rfl rfl, lw_at 83 (by decide +kernel) rfl⟩
theorem kJ2_71 : CS RJ2 71 mJ2_getChar_3b067 2 := ⟨lw_at 466 (by decide +kernel) rfl, lw_at 467 (by decide +kernel) rfl, cmJ2_getChar_3b067⟩
theorem kJ2_414 : CS RJ2 414 mJ0_checkIndex_df160 2 := ⟨lw_at 465 (by decide +kernel) rfl, lw_at 449 (by decide +kernel) rfl, cmJ0_checkIndex_df160⟩
