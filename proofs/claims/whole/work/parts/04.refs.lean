theorem in_X0 : ∀ w ∈ u_ws RX0 TX0 6, w ∈ TBL := by decide +kernel
theorem in_X1 : ∀ w ∈ u_ws RX1 TX1 9, w ∈ TBL := by decide +kernel
theorem in_X2 : ∀ w ∈ u_ws RX2 TX2 7, w ∈ TBL := by decide +kernel
theorem in_X3 : ∀ w ∈ u_ws RX3 TX3 4, w ∈ TBL := by decide +kernel
theorem in_X4 : ∀ w ∈ u_ws RX4 TX4 5, w ∈ TBL := by decide +kernel
theorem in_X5 : ∀ w ∈ u_ws RX5 TX5 8, w ∈ TBL := by decide +kernel
theorem in_X6 : ∀ w ∈ u_ws RX6 TX6 8, w ∈ TBL := by decide +kernel
theorem in_X7 : ∀ w ∈ u_ws RX7 TX7 3, w ∈ TBL := by decide +kernel
theorem in_X8 : ∀ w ∈ u_ws RX8 TX8 9, w ∈ TBL := by decide +kernel
theorem in_X9 : ∀ w ∈ u_ws RX9 TX9 7, w ∈ TBL := by decide +kernel
theorem in_X10 : ∀ w ∈ u_ws RX10 TX10 4, w ∈ TBL := by decide +kernel
theorem in_X11 : ∀ w ∈ u_ws RX11 TX11 19, w ∈ TBL := by decide +kernel
theorem in_X12 : ∀ w ∈ u_ws RX12 TX12 63, w ∈ TBL := by decide +kernel
theorem fr_X11_11 : FldR RX11 11 12 2 1200 := ⟨RX11, TX11, 19, 0, by decide, by decide, rfl, rfl, in_X11, by decide, tb2 158 rfl rfl⟩
theorem fr_X11_17 : FldR RX11 17 12 2 1201 := ⟨RX11, TX11, 19, 1, by decide, by decide, rfl, rfl, in_X11, by decide, tb2 159 rfl rfl⟩
theorem fr_X11_23 : FldR RX11 23 12 2 1202 := ⟨RX11, TX11, 19, 2, by decide, by decide, rfl, rfl, in_X11, by decide, tb2 160 rfl rfl⟩
theorem fr_X11_29 : FldR RX11 29 12 2 1203 := ⟨RX11, TX11, 19, 3, by decide, by decide, rfl, rfl, in_X11, by decide, tb2 161 rfl rfl⟩
theorem fr_X11_35 : FldR RX11 35 12 2 1204 := ⟨RX11, TX11, 19, 4, by decide, by decide, rfl, rfl, in_X11, by decide, tb2 162 rfl rfl⟩
theorem fr_X11_41 : FldR RX11 41 12 2 1205 := ⟨RX11, TX11, 19, 5, by decide, by decide, rfl, rfl, in_X11, by decide, tb2 163 rfl rfl⟩
theorem fr_X11_45 : FldR RX11 45 12 2 1206 := ⟨RX11, TX11, 19, 6, by decide, by decide, rfl, rfl, in_X11, by decide, tb2 164 rfl rfl⟩
theorem fr_X11_51 : FldR RX11 51 12 2 1213 := ⟨RX11, TX11, 19, 13, by decide, by decide, rfl, rfl, in_X11, by decide, tb2 171 rfl rfl⟩
theorem fr_X11_58 : FldR RX11 58 12 2 1214 := ⟨RX11, TX11, 19, 14, by decide, by decide, rfl, rfl, in_X11, by decide, tb2 172 rfl rfl⟩
theorem fr_X11_65 : FldR RX11 65 12 2 1215 := ⟨RX11, TX11, 19, 15, by decide, by decide, rfl, rfl, in_X11, by decide, tb2 173 rfl rfl⟩
theorem fr_X11_72 : FldR RX11 72 12 2 1216 := ⟨RX11, TX11, 19, 16, by decide, by decide, rfl, rfl, in_X11, by decide, tb2 174 rfl rfl⟩
theorem fr_X11_79 : FldR RX11 79 12 2 1217 := ⟨RX11, TX11, 19, 17, by decide, by decide, rfl, rfl, in_X11, by decide, tb2 175 rfl rfl⟩
theorem fr_X11_86 : FldR RX11 86 12 2 1218 := ⟨RX11, TX11, 19, 18, by decide, by decide, rfl, rfl, in_X11, by decide, tb2 176 rfl rfl⟩
theorem fr_X11_113 : FldR RX11 113 12 0 1207 := ⟨RX11, TX11, 19, 7, by decide, by decide, rfl, rfl, in_X11, by decide, tb2 165 rfl rfl⟩
theorem fr_X11_132 : FldR RX11 132 4 0 402 := ⟨RX3, TX3, 4, 2, by decide, by decide, rfl, rfl, in_X3, by decide, tb2 234 rfl rfl⟩
theorem fr_X11_135 : FldR RX11 135 12 0 1208 := ⟨RX11, TX11, 19, 8, by decide, by decide, rfl, rfl, in_X11, by decide, tb2 166 rfl rfl⟩
theorem fr_X11_145 : FldR RX11 145 9 0 906 := ⟨RX8, TX8, 9, 6, by decide, by decide, rfl, rfl, in_X8, by decide, tb3 52 rfl rfl⟩
theorem fr_X11_152 : FldR RX11 152 9 2 904 := ⟨RX8, TX8, 9, 4, by decide, by decide, rfl, rfl, in_X8, by decide, tb3 48 rfl rfl⟩
theorem fr_X11_156 : FldR RX11 156 9 0 905 := ⟨RX8, TX8, 9, 5, by decide, by decide, rfl, rfl, in_X8, by decide, tb3 50 rfl rfl⟩
theorem fr_X11_159 : FldR RX11 159 4 0 400 := ⟨RX3, TX3, 4, 0, by decide, by decide, rfl, rfl, in_X3, by decide, tb2 228 rfl rfl⟩
theorem fr_X11_162 : FldR RX11 162 9 0 901 := ⟨RX8, TX8, 9, 1, by decide, by decide, rfl, rfl, in_X8, by decide, tb3 39 rfl rfl⟩
theorem fr_X11_165 : FldR RX11 165 9 0 902 := ⟨RX8, TX8, 9, 2, by decide, by decide, rfl, rfl, in_X8, by decide, tb3 43 rfl rfl⟩
theorem fr_X11_168 : FldR RX11 168 9 0 903 := ⟨RX8, TX8, 9, 3, by decide, by decide, rfl, rfl, in_X8, by decide, tb3 45 rfl rfl⟩
theorem fr_X11_171 : FldR RX11 171 9 0 907 := ⟨RX8, TX8, 9, 7, by decide, by decide, rfl, rfl, in_X8, by decide, tb3 55 rfl rfl⟩
theorem fr_X11_174 : FldR RX11 174 12 0 1209 := ⟨RX11, TX11, 19, 9, by decide, by decide, rfl, rfl, in_X11, by decide, tb2 167 rfl rfl⟩
theorem fr_X11_188 : FldR RX11 188 5 0 500 := ⟨RX4, TX4, 5, 0, by decide, by decide, rfl, rfl, in_X4, by decide, tb1 49 rfl rfl⟩
theorem fr_X11_196 : FldR RX11 196 5 0 501 := ⟨RX4, TX4, 5, 1, by decide, by decide, rfl, rfl, in_X4, by decide, tb1 51 rfl rfl⟩
theorem fr_X11_199 : FldR RX11 199 5 0 502 := ⟨RX4, TX4, 5, 2, by decide, by decide, rfl, rfl, in_X4, by decide, tb1 54 rfl rfl⟩
theorem fr_X11_202 : FldR RX11 202 5 0 503 := ⟨RX4, TX4, 5, 3, by decide, by decide, rfl, rfl, in_X4, by decide, tb1 56 rfl rfl⟩
theorem fr_X11_205 : FldR RX11 205 5 1 504 := ⟨RX4, TX4, 5, 4, by decide, by decide, rfl, rfl, in_X4, by decide, tb1 59 rfl rfl⟩
theorem fr_X11_213 : FldR RX11 213 7 0 700 := ⟨RX6, TX6, 8, 0, by decide, by decide, rfl, rfl, in_X6, by decide, tb1 80 rfl rfl⟩
theorem fr_X11_216 : FldR RX11 216 7 1 701 := ⟨RX6, TX6, 8, 1, by decide, by decide, rfl, rfl, in_X6, by decide, tb1 82 rfl rfl⟩
theorem fr_X11_217 : FldR RX11 217 7 0 702 := ⟨RX6, TX6, 8, 2, by decide, by decide, rfl, rfl, in_X6, by decide, tb1 84 rfl rfl⟩
theorem fr_X11_224 : FldR RX11 224 3 2 301 := ⟨RX2, TX2, 7, 1, by decide, by decide, rfl, rfl, in_X2, by decide, tb3 109 rfl rfl⟩
theorem fr_X11_235 : FldR RX11 235 12 0 1212 := ⟨RX11, TX11, 19, 12, by decide, by decide, rfl, rfl, in_X11, by decide, tb2 170 rfl rfl⟩
theorem fr_X11_253 : FldR RX11 253 8 0 800 := ⟨RX7, TX7, 3, 0, by decide, by decide, rfl, rfl, in_X7, by decide, tb1 227 rfl rfl⟩
theorem fr_X11_267 : FldR RX11 267 6 0 600 := ⟨RX5, TX5, 8, 0, by decide, by decide, rfl, rfl, in_X5, by decide, tb1 142 rfl rfl⟩
theorem fr_X11_268 : FldR RX11 268 12 0 1210 := ⟨RX11, TX11, 19, 10, by decide, by decide, rfl, rfl, in_X11, by decide, tb2 168 rfl rfl⟩
theorem fr_X11_291 : FldR RX11 291 12 0 1211 := ⟨RX11, TX11, 19, 11, by decide, by decide, rfl, rfl, in_X11, by decide, tb2 169 rfl rfl⟩
theorem fr_X11_301 : FldR RX11 301 2 0 200 := ⟨RX1, TX1, 9, 0, by decide, by decide, rfl, rfl, in_X1, by decide, tb4 121 rfl rfl⟩
theorem fr_X11_304 : FldR RX11 304 2 0 208 := ⟨RX1, TX1, 9, 8, by decide, by decide, rfl, rfl, in_X1, by decide, tb4 137 rfl rfl⟩
theorem fr_X11_307 : FldR RX11 307 2 2 201 := ⟨RX1, TX1, 9, 1, by decide, by decide, rfl, rfl, in_X1, by decide, tb4 124 rfl rfl⟩
theorem fr_X11_311 : FldR RX11 311 9 0 900 := ⟨RX8, TX8, 9, 0, by decide, by decide, rfl, rfl, in_X8, by decide, tb3 36 rfl rfl⟩
theorem fr_X11_312 : FldR RX11 312 2 0 202 := ⟨RX1, TX1, 9, 2, by decide, by decide, rfl, rfl, in_X1, by decide, tb4 127 rfl rfl⟩
theorem fr_X11_315 : FldR RX11 315 2 0 203 := ⟨RX1, TX1, 9, 3, by decide, by decide, rfl, rfl, in_X1, by decide, tb4 129 rfl rfl⟩
theorem fr_X11_317 : FldR RX11 317 2 2 204 := ⟨RX1, TX1, 9, 4, by decide, by decide, rfl, rfl, in_X1, by decide, tb4 132 rfl rfl⟩
theorem fr_X11_319 : FldR RX11 319 11 0 1100 := ⟨RX10, TX10, 4, 0, by decide, by decide, rfl, rfl, in_X10, by decide, tb1 173 rfl rfl⟩
theorem fr_X11_353 : FldR RX11 353 10 0 1000 := ⟨RX9, TX9, 7, 0, by decide, by decide, rfl, rfl, in_X9, by decide, tb1 196 rfl rfl⟩
theorem fr_X11_356 : FldR RX11 356 10 0 1001 := ⟨RX9, TX9, 7, 1, by decide, by decide, rfl, rfl, in_X9, by decide, tb1 198 rfl rfl⟩
theorem fr_X11_359 : FldR RX11 359 10 0 1002 := ⟨RX9, TX9, 7, 2, by decide, by decide, rfl, rfl, in_X9, by decide, tb1 201 rfl rfl⟩
theorem fr_X0_9 : FldR RX0 9 1 2 101 := ⟨RX0, TX0, 6, 1, by decide, by decide, rfl, rfl, in_X0, by decide, tb1 117 rfl rfl⟩
theorem fr_X0_15 : FldR RX0 15 1 2 102 := ⟨RX0, TX0, 6, 2, by decide, by decide, rfl, rfl, in_X0, by decide, tb1 118 rfl rfl⟩
theorem fr_X0_20 : FldR RX0 20 1 2 103 := ⟨RX0, TX0, 6, 3, by decide, by decide, rfl, rfl, in_X0, by decide, tb1 119 rfl rfl⟩
theorem fr_X0_23 : FldR RX0 23 1 2 104 := ⟨RX0, TX0, 6, 4, by decide, by decide, rfl, rfl, in_X0, by decide, tb1 120 rfl rfl⟩
theorem fr_X0_26 : FldR RX0 26 1 2 105 := ⟨RX0, TX0, 6, 5, by decide, by decide, rfl, rfl, in_X0, by decide, tb1 121 rfl rfl⟩
theorem fr_X0_35 : FldR RX0 35 1 0 100 := ⟨RX0, TX0, 6, 0, by decide, by decide, rfl, rfl, in_X0, by decide, tb1 116 rfl rfl⟩
theorem fr_X0_39 : FldR RX0 39 9 0 902 := ⟨RX8, TX8, 9, 2, by decide, by decide, rfl, rfl, in_X8, by decide, tb3 41 rfl rfl⟩
theorem fr_X0_70 : FldR RX0 70 4 0 402 := ⟨RX3, TX3, 4, 2, by decide, by decide, rfl, rfl, in_X3, by decide, tb2 232 rfl rfl⟩
theorem fr_X1_11 : FldR RX1 11 2 0 208 := ⟨RX1, TX1, 9, 8, by decide, by decide, rfl, rfl, in_X1, by decide, tb4 136 rfl rfl⟩
theorem fr_X1_15 : FldR RX1 15 2 0 200 := ⟨RX1, TX1, 9, 0, by decide, by decide, rfl, rfl, in_X1, by decide, tb4 120 rfl rfl⟩
theorem fr_X1_18 : FldR RX1 18 2 2 201 := ⟨RX1, TX1, 9, 1, by decide, by decide, rfl, rfl, in_X1, by decide, tb4 122 rfl rfl⟩
theorem fr_X1_22 : FldR RX1 22 2 0 202 := ⟨RX1, TX1, 9, 2, by decide, by decide, rfl, rfl, in_X1, by decide, tb4 125 rfl rfl⟩
theorem fr_X1_25 : FldR RX1 25 2 0 203 := ⟨RX1, TX1, 9, 3, by decide, by decide, rfl, rfl, in_X1, by decide, tb4 128 rfl rfl⟩
theorem fr_X1_34 : FldR RX1 34 2 0 205 := ⟨RX1, TX1, 9, 5, by decide, by decide, rfl, rfl, in_X1, by decide, tb4 133 rfl rfl⟩
theorem fr_X1_39 : FldR RX1 39 2 0 206 := ⟨RX1, TX1, 9, 6, by decide, by decide, rfl, rfl, in_X1, by decide, tb4 134 rfl rfl⟩
theorem fr_X1_42 : FldR RX1 42 2 0 207 := ⟨RX1, TX1, 9, 7, by decide, by decide, rfl, rfl, in_X1, by decide, tb4 135 rfl rfl⟩
theorem fr_X1_49 : FldR RX1 49 9 0 900 := ⟨RX8, TX8, 9, 0, by decide, by decide, rfl, rfl, in_X8, by decide, tb3 35 rfl rfl⟩
theorem fr_X1_62 : FldR RX1 62 9 0 907 := ⟨RX8, TX8, 9, 7, by decide, by decide, rfl, rfl, in_X8, by decide, tb3 54 rfl rfl⟩
theorem fr_X1_83 : FldR RX1 83 10 0 1000 := ⟨RX9, TX9, 7, 0, by decide, by decide, rfl, rfl, in_X9, by decide, tb1 195 rfl rfl⟩
theorem fr_X1_88 : FldR RX1 88 10 0 1002 := ⟨RX9, TX9, 7, 2, by decide, by decide, rfl, rfl, in_X9, by decide, tb1 200 rfl rfl⟩
theorem fr_X3_9 : FldR RX3 9 4 2 403 := ⟨RX3, TX3, 4, 3, by decide, by decide, rfl, rfl, in_X3, by decide, tb2 235 rfl rfl⟩
theorem fr_X3_15 : FldR RX3 15 4 0 400 := ⟨RX3, TX3, 4, 0, by decide, by decide, rfl, rfl, in_X3, by decide, tb2 227 rfl rfl⟩
theorem fr_X4_9 : FldR RX4 9 3 2 300 := ⟨RX2, TX2, 7, 0, by decide, by decide, rfl, rfl, in_X2, by decide, tb3 105 rfl rfl⟩
theorem fr_X4_21 : FldR RX4 21 3 2 301 := ⟨RX2, TX2, 7, 1, by decide, by decide, rfl, rfl, in_X2, by decide, tb3 107 rfl rfl⟩
theorem fr_X4_30 : FldR RX4 30 3 0 302 := ⟨RX2, TX2, 7, 2, by decide, by decide, rfl, rfl, in_X2, by decide, tb3 111 rfl rfl⟩
theorem fr_X4_34 : FldR RX4 34 4 0 401 := ⟨RX3, TX3, 4, 1, by decide, by decide, rfl, rfl, in_X3, by decide, tb2 230 rfl rfl⟩
theorem fr_X4_44 : FldR RX4 44 3 0 304 := ⟨RX2, TX2, 7, 4, by decide, by decide, rfl, rfl, in_X2, by decide, tb3 115 rfl rfl⟩
theorem fr_X4_52 : FldR RX4 52 5 0 501 := ⟨RX4, TX4, 5, 1, by decide, by decide, rfl, rfl, in_X4, by decide, tb1 50 rfl rfl⟩
theorem fr_X4_57 : FldR RX4 57 5 0 502 := ⟨RX4, TX4, 5, 2, by decide, by decide, rfl, rfl, in_X4, by decide, tb1 52 rfl rfl⟩
theorem fr_X4_63 : FldR RX4 63 3 0 303 := ⟨RX2, TX2, 7, 3, by decide, by decide, rfl, rfl, in_X2, by decide, tb3 113 rfl rfl⟩
theorem fr_X4_66 : FldR RX4 66 4 0 402 := ⟨RX3, TX3, 4, 2, by decide, by decide, rfl, rfl, in_X3, by decide, tb2 233 rfl rfl⟩
theorem fr_X4_80 : FldR RX4 80 9 0 901 := ⟨RX8, TX8, 9, 1, by decide, by decide, rfl, rfl, in_X8, by decide, tb3 38 rfl rfl⟩
theorem fr_X4_87 : FldR RX4 87 3 0 305 := ⟨RX2, TX2, 7, 5, by decide, by decide, rfl, rfl, in_X2, by decide, tb3 117 rfl rfl⟩
theorem fr_X4_90 : FldR RX4 90 9 0 902 := ⟨RX8, TX8, 9, 2, by decide, by decide, rfl, rfl, in_X8, by decide, tb3 42 rfl rfl⟩
theorem fr_X4_97 : FldR RX4 97 3 0 306 := ⟨RX2, TX2, 7, 6, by decide, by decide, rfl, rfl, in_X2, by decide, tb3 118 rfl rfl⟩
theorem fr_X5_9 : FldR RX5 9 6 2 601 := ⟨RX5, TX5, 8, 1, by decide, by decide, rfl, rfl, in_X5, by decide, tb1 143 rfl rfl⟩
theorem fr_X5_15 : FldR RX5 15 6 2 603 := ⟨RX5, TX5, 8, 3, by decide, by decide, rfl, rfl, in_X5, by decide, tb1 145 rfl rfl⟩
theorem fr_X5_18 : FldR RX5 18 6 2 604 := ⟨RX5, TX5, 8, 4, by decide, by decide, rfl, rfl, in_X5, by decide, tb1 146 rfl rfl⟩
theorem fr_X5_21 : FldR RX5 21 6 0 600 := ⟨RX5, TX5, 8, 0, by decide, by decide, rfl, rfl, in_X5, by decide, tb1 141 rfl rfl⟩
theorem fr_X5_33 : FldR RX5 33 6 0 607 := ⟨RX5, TX5, 8, 7, by decide, by decide, rfl, rfl, in_X5, by decide, tb1 149 rfl rfl⟩
theorem fr_X5_47 : FldR RX5 47 6 0 606 := ⟨RX5, TX5, 8, 6, by decide, by decide, rfl, rfl, in_X5, by decide, tb1 148 rfl rfl⟩
theorem fr_X5_74 : FldR RX5 74 6 0 605 := ⟨RX5, TX5, 8, 5, by decide, by decide, rfl, rfl, in_X5, by decide, tb1 147 rfl rfl⟩
theorem fr_X5_81 : FldR RX5 81 6 0 602 := ⟨RX5, TX5, 8, 2, by decide, by decide, rfl, rfl, in_X5, by decide, tb1 144 rfl rfl⟩
theorem fr_X6_9 : FldR RX6 9 7 2 703 := ⟨RX6, TX6, 8, 3, by decide, by decide, rfl, rfl, in_X6, by decide, tb1 85 rfl rfl⟩
theorem fr_X6_15 : FldR RX6 15 7 2 704 := ⟨RX6, TX6, 8, 4, by decide, by decide, rfl, rfl, in_X6, by decide, tb1 86 rfl rfl⟩
theorem fr_X6_21 : FldR RX6 21 7 2 705 := ⟨RX6, TX6, 8, 5, by decide, by decide, rfl, rfl, in_X6, by decide, tb1 87 rfl rfl⟩
theorem fr_X6_31 : FldR RX6 31 7 0 706 := ⟨RX6, TX6, 8, 6, by decide, by decide, rfl, rfl, in_X6, by decide, tb1 88 rfl rfl⟩
theorem fr_X6_35 : FldR RX6 35 7 0 707 := ⟨RX6, TX6, 8, 7, by decide, by decide, rfl, rfl, in_X6, by decide, tb1 89 rfl rfl⟩
theorem fr_X6_38 : FldR RX6 38 7 0 700 := ⟨RX6, TX6, 8, 0, by decide, by decide, rfl, rfl, in_X6, by decide, tb1 79 rfl rfl⟩
theorem fr_X6_41 : FldR RX6 41 7 1 701 := ⟨RX6, TX6, 8, 1, by decide, by decide, rfl, rfl, in_X6, by decide, tb1 81 rfl rfl⟩
theorem fr_X6_45 : FldR RX6 45 7 0 702 := ⟨RX6, TX6, 8, 2, by decide, by decide, rfl, rfl, in_X6, by decide, tb1 83 rfl rfl⟩
theorem fr_X6_48 : FldR RX6 48 9 2 904 := ⟨RX8, TX8, 9, 4, by decide, by decide, rfl, rfl, in_X8, by decide, tb3 47 rfl rfl⟩
theorem fr_X6_54 : FldR RX6 54 9 0 905 := ⟨RX8, TX8, 9, 5, by decide, by decide, rfl, rfl, in_X8, by decide, tb3 49 rfl rfl⟩
theorem fr_X6_69 : FldR RX6 69 5 0 500 := ⟨RX4, TX4, 5, 0, by decide, by decide, rfl, rfl, in_X4, by decide, tb1 48 rfl rfl⟩
theorem fr_X6_72 : FldR RX6 72 5 0 502 := ⟨RX4, TX4, 5, 2, by decide, by decide, rfl, rfl, in_X4, by decide, tb1 53 rfl rfl⟩
theorem fr_X6_75 : FldR RX6 75 5 1 504 := ⟨RX4, TX4, 5, 4, by decide, by decide, rfl, rfl, in_X4, by decide, tb1 58 rfl rfl⟩
theorem fr_X6_80 : FldR RX6 80 3 2 301 := ⟨RX2, TX2, 7, 1, by decide, by decide, rfl, rfl, in_X2, by decide, tb3 108 rfl rfl⟩
theorem fr_X7_11 : FldR RX7 11 8 0 800 := ⟨RX7, TX7, 3, 0, by decide, by decide, rfl, rfl, in_X7, by decide, tb1 226 rfl rfl⟩
theorem fr_X7_15 : FldR RX7 15 8 2 802 := ⟨RX7, TX7, 3, 2, by decide, by decide, rfl, rfl, in_X7, by decide, tb1 229 rfl rfl⟩
theorem fr_X7_28 : FldR RX7 28 8 0 801 := ⟨RX7, TX7, 3, 1, by decide, by decide, rfl, rfl, in_X7, by decide, tb1 228 rfl rfl⟩
theorem fr_X8_9 : FldR RX8 9 9 0 906 := ⟨RX8, TX8, 9, 6, by decide, by decide, rfl, rfl, in_X8, by decide, tb3 51 rfl rfl⟩
theorem fr_X8_15 : FldR RX8 15 9 2 908 := ⟨RX8, TX8, 9, 8, by decide, by decide, rfl, rfl, in_X8, by decide, tb3 56 rfl rfl⟩
theorem fr_X8_32 : FldR RX8 32 9 0 903 := ⟨RX8, TX8, 9, 3, by decide, by decide, rfl, rfl, in_X8, by decide, tb3 44 rfl rfl⟩
theorem fr_X8_43 : FldR RX8 43 9 0 907 := ⟨RX8, TX8, 9, 7, by decide, by decide, rfl, rfl, in_X8, by decide, tb3 53 rfl rfl⟩
theorem fr_X9_9 : FldR RX9 9 10 2 1006 := ⟨RX9, TX9, 7, 6, by decide, by decide, rfl, rfl, in_X9, by decide, tb1 205 rfl rfl⟩
theorem fr_X9_15 : FldR RX9 15 10 0 1000 := ⟨RX9, TX9, 7, 0, by decide, by decide, rfl, rfl, in_X9, by decide, tb1 194 rfl rfl⟩
theorem fr_X9_19 : FldR RX9 19 10 0 1001 := ⟨RX9, TX9, 7, 1, by decide, by decide, rfl, rfl, in_X9, by decide, tb1 197 rfl rfl⟩
theorem fr_X9_22 : FldR RX9 22 10 0 1002 := ⟨RX9, TX9, 7, 2, by decide, by decide, rfl, rfl, in_X9, by decide, tb1 199 rfl rfl⟩
theorem fr_X9_31 : FldR RX9 31 2 0 202 := ⟨RX1, TX1, 9, 2, by decide, by decide, rfl, rfl, in_X1, by decide, tb4 126 rfl rfl⟩
theorem fr_X9_40 : FldR RX9 40 10 0 1005 := ⟨RX9, TX9, 7, 5, by decide, by decide, rfl, rfl, in_X9, by decide, tb1 204 rfl rfl⟩
theorem fr_X9_43 : FldR RX9 43 10 0 1004 := ⟨RX9, TX9, 7, 4, by decide, by decide, rfl, rfl, in_X9, by decide, tb1 203 rfl rfl⟩
theorem fr_X9_46 : FldR RX9 46 2 2 201 := ⟨RX1, TX1, 9, 1, by decide, by decide, rfl, rfl, in_X1, by decide, tb4 123 rfl rfl⟩
theorem fr_X9_56 : FldR RX9 56 10 0 1003 := ⟨RX9, TX9, 7, 3, by decide, by decide, rfl, rfl, in_X9, by decide, tb1 202 rfl rfl⟩
theorem fr_X9_59 : FldR RX9 59 2 2 204 := ⟨RX1, TX1, 9, 4, by decide, by decide, rfl, rfl, in_X1, by decide, tb4 131 rfl rfl⟩
theorem fr_X9_67 : FldR RX9 67 11 0 1101 := ⟨RX10, TX10, 4, 1, by decide, by decide, rfl, rfl, in_X10, by decide, tb1 174 rfl rfl⟩
theorem fr_X9_76 : FldR RX9 76 11 0 1102 := ⟨RX10, TX10, 4, 2, by decide, by decide, rfl, rfl, in_X10, by decide, tb1 177 rfl rfl⟩
theorem fr_X10_9 : FldR RX10 9 11 2 1103 := ⟨RX10, TX10, 4, 3, by decide, by decide, rfl, rfl, in_X10, by decide, tb1 178 rfl rfl⟩
theorem fr_X10_19 : FldR RX10 19 11 0 1102 := ⟨RX10, TX10, 4, 2, by decide, by decide, rfl, rfl, in_X10, by decide, tb1 176 rfl rfl⟩
theorem fr_X12_7 : FldR RX12 7 13 2 1301 := ⟨RX12, TX12, 63, 1, by decide, by decide, rfl, rfl, in_X12, by decide, tb5 120 rfl rfl⟩
theorem fr_X12_13 : FldR RX12 13 13 2 1302 := ⟨RX12, TX12, 63, 2, by decide, by decide, rfl, rfl, in_X12, by decide, tb5 121 rfl rfl⟩
theorem fr_X12_16 : FldR RX12 16 13 2 1303 := ⟨RX12, TX12, 63, 3, by decide, by decide, rfl, rfl, in_X12, by decide, tb5 122 rfl rfl⟩
theorem fr_X12_19 : FldR RX12 19 13 2 1305 := ⟨RX12, TX12, 63, 5, by decide, by decide, rfl, rfl, in_X12, by decide, tb5 124 rfl rfl⟩
theorem fr_X12_22 : FldR RX12 22 13 2 1306 := ⟨RX12, TX12, 63, 6, by decide, by decide, rfl, rfl, in_X12, by decide, tb5 125 rfl rfl⟩
theorem fr_X12_25 : FldR RX12 25 13 2 1307 := ⟨RX12, TX12, 63, 7, by decide, by decide, rfl, rfl, in_X12, by decide, tb5 126 rfl rfl⟩
theorem fr_X12_28 : FldR RX12 28 13 2 1308 := ⟨RX12, TX12, 63, 8, by decide, by decide, rfl, rfl, in_X12, by decide, tb5 127 rfl rfl⟩
theorem fr_X12_31 : FldR RX12 31 13 2 1309 := ⟨RX12, TX12, 63, 9, by decide, by decide, rfl, rfl, in_X12, by decide, tb5 128 rfl rfl⟩
theorem fr_X12_34 : FldR RX12 34 13 2 1310 := ⟨RX12, TX12, 63, 10, by decide, by decide, rfl, rfl, in_X12, by decide, tb5 129 rfl rfl⟩
theorem fr_X12_37 : FldR RX12 37 13 2 1311 := ⟨RX12, TX12, 63, 11, by decide, by decide, rfl, rfl, in_X12, by decide, tb5 130 rfl rfl⟩
theorem fr_X12_40 : FldR RX12 40 13 2 1312 := ⟨RX12, TX12, 63, 12, by decide, by decide, rfl, rfl, in_X12, by decide, tb5 131 rfl rfl⟩
theorem fr_X12_44 : FldR RX12 44 13 2 1314 := ⟨RX12, TX12, 63, 14, by decide, by decide, rfl, rfl, in_X12, by decide, tb5 133 rfl rfl⟩
theorem fr_X12_47 : FldR RX12 47 13 2 1315 := ⟨RX12, TX12, 63, 15, by decide, by decide, rfl, rfl, in_X12, by decide, tb5 134 rfl rfl⟩
theorem fr_X12_50 : FldR RX12 50 13 2 1316 := ⟨RX12, TX12, 63, 16, by decide, by decide, rfl, rfl, in_X12, by decide, tb5 135 rfl rfl⟩
theorem fr_X12_53 : FldR RX12 53 13 2 1317 := ⟨RX12, TX12, 63, 17, by decide, by decide, rfl, rfl, in_X12, by decide, tb5 136 rfl rfl⟩
theorem fr_X12_56 : FldR RX12 56 13 2 1318 := ⟨RX12, TX12, 63, 18, by decide, by decide, rfl, rfl, in_X12, by decide, tb5 137 rfl rfl⟩
theorem fr_X12_59 : FldR RX12 59 13 2 1319 := ⟨RX12, TX12, 63, 19, by decide, by decide, rfl, rfl, in_X12, by decide, tb5 138 rfl rfl⟩
theorem fr_X12_62 : FldR RX12 62 13 2 1320 := ⟨RX12, TX12, 63, 20, by decide, by decide, rfl, rfl, in_X12, by decide, tb5 139 rfl rfl⟩
theorem fr_X12_66 : FldR RX12 66 13 2 1322 := ⟨RX12, TX12, 63, 22, by decide, by decide, rfl, rfl, in_X12, by decide, tb5 141 rfl rfl⟩
theorem fr_X12_69 : FldR RX12 69 13 2 1323 := ⟨RX12, TX12, 63, 23, by decide, by decide, rfl, rfl, in_X12, by decide, tb5 142 rfl rfl⟩
theorem fr_X12_72 : FldR RX12 72 13 2 1326 := ⟨RX12, TX12, 63, 26, by decide, by decide, rfl, rfl, in_X12, by decide, tb5 145 rfl rfl⟩
theorem fr_X12_75 : FldR RX12 75 13 2 1327 := ⟨RX12, TX12, 63, 27, by decide, by decide, rfl, rfl, in_X12, by decide, tb5 146 rfl rfl⟩
theorem fr_X12_78 : FldR RX12 78 13 2 1328 := ⟨RX12, TX12, 63, 28, by decide, by decide, rfl, rfl, in_X12, by decide, tb5 147 rfl rfl⟩
theorem fr_X12_81 : FldR RX12 81 13 2 1330 := ⟨RX12, TX12, 63, 30, by decide, by decide, rfl, rfl, in_X12, by decide, tb5 149 rfl rfl⟩
theorem fr_X12_84 : FldR RX12 84 13 2 1331 := ⟨RX12, TX12, 63, 31, by decide, by decide, rfl, rfl, in_X12, by decide, tb5 150 rfl rfl⟩
theorem fr_X12_87 : FldR RX12 87 13 2 1332 := ⟨RX12, TX12, 63, 32, by decide, by decide, rfl, rfl, in_X12, by decide, tb5 151 rfl rfl⟩
theorem fr_X12_90 : FldR RX12 90 13 2 1333 := ⟨RX12, TX12, 63, 33, by decide, by decide, rfl, rfl, in_X12, by decide, tb5 152 rfl rfl⟩
theorem fr_X12_93 : FldR RX12 93 13 2 1334 := ⟨RX12, TX12, 63, 34, by decide, by decide, rfl, rfl, in_X12, by decide, tb5 153 rfl rfl⟩
theorem fr_X12_96 : FldR RX12 96 13 2 1335 := ⟨RX12, TX12, 63, 35, by decide, by decide, rfl, rfl, in_X12, by decide, tb5 154 rfl rfl⟩
theorem fr_X12_99 : FldR RX12 99 13 2 1336 := ⟨RX12, TX12, 63, 36, by decide, by decide, rfl, rfl, in_X12, by decide, tb5 155 rfl rfl⟩
theorem fr_X12_102 : FldR RX12 102 13 2 1337 := ⟨RX12, TX12, 63, 37, by decide, by decide, rfl, rfl, in_X12, by decide, tb5 156 rfl rfl⟩
theorem fr_X12_105 : FldR RX12 105 13 2 1338 := ⟨RX12, TX12, 63, 38, by decide, by decide, rfl, rfl, in_X12, by decide, tb5 157 rfl rfl⟩
theorem fr_X12_108 : FldR RX12 108 13 2 1339 := ⟨RX12, TX12, 63, 39, by decide, by decide, rfl, rfl, in_X12, by decide, tb5 158 rfl rfl⟩
theorem fr_X12_111 : FldR RX12 111 13 2 1340 := ⟨RX12, TX12, 63, 40, by decide, by decide, rfl, rfl, in_X12, by decide, tb5 159 rfl rfl⟩
theorem fr_X12_114 : FldR RX12 114 13 2 1341 := ⟨RX12, TX12, 63, 41, by decide, by decide, rfl, rfl, in_X12, by decide, tb5 160 rfl rfl⟩
theorem fr_X12_117 : FldR RX12 117 13 2 1342 := ⟨RX12, TX12, 63, 42, by decide, by decide, rfl, rfl, in_X12, by decide, tb5 161 rfl rfl⟩
theorem fr_X12_120 : FldR RX12 120 13 2 1346 := ⟨RX12, TX12, 63, 46, by decide, by decide, rfl, rfl, in_X12, by decide, tb5 165 rfl rfl⟩
theorem fr_X12_123 : FldR RX12 123 13 2 1347 := ⟨RX12, TX12, 63, 47, by decide, by decide, rfl, rfl, in_X12, by decide, tb5 166 rfl rfl⟩
theorem fr_X12_126 : FldR RX12 126 13 2 1348 := ⟨RX12, TX12, 63, 48, by decide, by decide, rfl, rfl, in_X12, by decide, tb5 167 rfl rfl⟩
theorem fr_X12_129 : FldR RX12 129 13 2 1349 := ⟨RX12, TX12, 63, 49, by decide, by decide, rfl, rfl, in_X12, by decide, tb5 168 rfl rfl⟩
theorem fr_X12_132 : FldR RX12 132 13 2 1359 := ⟨RX12, TX12, 63, 59, by decide, by decide, rfl, rfl, in_X12, by decide, tb5 178 rfl rfl⟩
theorem fr_X12_135 : FldR RX12 135 13 0 1350 := ⟨RX12, TX12, 63, 50, by decide, by decide, rfl, rfl, in_X12, by decide, tb5 169 rfl rfl⟩
theorem fr_X12_143 : FldR RX12 143 13 0 1325 := ⟨RX12, TX12, 63, 25, by decide, by decide, rfl, rfl, in_X12, by decide, tb5 144 rfl rfl⟩
theorem fr_X12_146 : FldR RX12 146 13 0 1300 := ⟨RX12, TX12, 63, 0, by decide, by decide, rfl, rfl, in_X12, by decide, tb5 119 rfl rfl⟩
theorem fr_X12_153 : FldR RX12 153 13 0 1304 := ⟨RX12, TX12, 63, 4, by decide, by decide, rfl, rfl, in_X12, by decide, tb5 123 rfl rfl⟩
theorem fr_X12_156 : FldR RX12 156 13 0 1313 := ⟨RX12, TX12, 63, 13, by decide, by decide, rfl, rfl, in_X12, by decide, tb5 132 rfl rfl⟩
theorem fr_X12_206 : FldR RX12 206 13 0 1345 := ⟨RX12, TX12, 63, 45, by decide, by decide, rfl, rfl, in_X12, by decide, tb5 164 rfl rfl⟩
theorem fr_X12_209 : FldR RX12 209 13 1 1344 := ⟨RX12, TX12, 63, 44, by decide, by decide, rfl, rfl, in_X12, by decide, tb5 163 rfl rfl⟩
theorem fr_X12_213 : FldR RX12 213 13 0 1343 := ⟨RX12, TX12, 63, 43, by decide, by decide, rfl, rfl, in_X12, by decide, tb5 162 rfl rfl⟩
theorem fr_X12_224 : FldR RX12 224 13 0 1321 := ⟨RX12, TX12, 63, 21, by decide, by decide, rfl, rfl, in_X12, by decide, tb5 140 rfl rfl⟩
theorem fr_X12_239 : FldR RX12 239 13 0 1352 := ⟨RX12, TX12, 63, 52, by decide, by decide, rfl, rfl, in_X12, by decide, tb5 171 rfl rfl⟩
theorem fr_X12_246 : FldR RX12 246 13 0 1353 := ⟨RX12, TX12, 63, 53, by decide, by decide, rfl, rfl, in_X12, by decide, tb5 172 rfl rfl⟩
theorem fr_X12_249 : FldR RX12 249 13 0 1354 := ⟨RX12, TX12, 63, 54, by decide, by decide, rfl, rfl, in_X12, by decide, tb5 173 rfl rfl⟩
theorem fr_X12_264 : FldR RX12 264 13 0 1355 := ⟨RX12, TX12, 63, 55, by decide, by decide, rfl, rfl, in_X12, by decide, tb5 174 rfl rfl⟩
theorem fr_X12_267 : FldR RX12 267 13 0 1356 := ⟨RX12, TX12, 63, 56, by decide, by decide, rfl, rfl, in_X12, by decide, tb5 175 rfl rfl⟩
theorem fr_X12_280 : FldR RX12 280 13 0 1357 := ⟨RX12, TX12, 63, 57, by decide, by decide, rfl, rfl, in_X12, by decide, tb5 176 rfl rfl⟩
theorem fr_X12_283 : FldR RX12 283 13 0 1351 := ⟨RX12, TX12, 63, 51, by decide, by decide, rfl, rfl, in_X12, by decide, tb5 170 rfl rfl⟩
theorem fr_X12_286 : FldR RX12 286 13 0 1358 := ⟨RX12, TX12, 63, 58, by decide, by decide, rfl, rfl, in_X12, by decide, tb5 177 rfl rfl⟩
theorem fr_X12_316 : FldR RX12 316 13 0 1324 := ⟨RX12, TX12, 63, 24, by decide, by decide, rfl, rfl, in_X12, by decide, tb5 143 rfl rfl⟩
theorem fr_X12_327 : FldR RX12 327 13 0 1329 := ⟨RX12, TX12, 63, 29, by decide, by decide, rfl, rfl, in_X12, by decide, tb5 148 rfl rfl⟩
theorem fr_X12_342 : FldR RX12 342 13 0 1360 := ⟨RX12, TX12, 63, 60, by decide, by decide, rfl, rfl, in_X12, by decide, tb5 179 rfl rfl⟩
theorem fr_X12_345 : FldR RX12 345 13 0 1361 := ⟨RX12, TX12, 63, 61, by decide, by decide, rfl, rfl, in_X12, by decide, tb5 180 rfl rfl⟩
theorem fr_X12_348 : FldR RX12 348 13 0 1362 := ⟨RX12, TX12, 63, 62, by decide, by decide, rfl, rfl, in_X12, by decide, tb5 181 rfl rfl⟩
theorem fw_X11_11 : FldW RX11 11 12 2 1200 true (.array (.object "TrampOffice$Port")) := ⟨RX11, TX11, 19, 0, tyX11, by decide, by decide, rfl, rfl, in_X11, by decide, tb2 158 rfl rfl, tyX11_ok, nmX11, rfl, rfl, fun _ => rfl⟩
theorem fw_X11_17 : FldW RX11 17 12 2 1201 true (.array (.object "TrampOffice$Ship")) := ⟨RX11, TX11, 19, 1, tyX11, by decide, by decide, rfl, rfl, in_X11, by decide, tb2 159 rfl rfl, tyX11_ok, nmX11, rfl, rfl, fun _ => rfl⟩
theorem fw_X11_23 : FldW RX11 23 12 2 1202 true (.array (.object "TrampOffice$Offer")) := ⟨RX11, TX11, 19, 2, tyX11, by decide, by decide, rfl, rfl, in_X11, by decide, tb2 160 rfl rfl, tyX11_ok, nmX11, rfl, rfl, fun _ => rfl⟩
theorem fw_X11_29 : FldW RX11 29 12 2 1203 true (.array (.object "TrampOffice$Text")) := ⟨RX11, TX11, 19, 3, tyX11, by decide, by decide, rfl, rfl, in_X11, by decide, tb2 161 rfl rfl, tyX11_ok, nmX11, rfl, rfl, fun _ => rfl⟩
theorem fw_X11_35 : FldW RX11 35 12 2 1204 true (.array (.object "TrampOffice$Charter")) := ⟨RX11, TX11, 19, 4, tyX11, by decide, by decide, rfl, rfl, in_X11, by decide, tb2 162 rfl rfl, tyX11_ok, nmX11, rfl, rfl, fun _ => rfl⟩
theorem fw_X11_41 : FldW RX11 41 12 2 1205 true (.array (.object "TrampOffice$Sheet")) := ⟨RX11, TX11, 19, 5, tyX11, by decide, by decide, rfl, rfl, in_X11, by decide, tb2 163 rfl rfl, tyX11_ok, nmX11, rfl, rfl, fun _ => rfl⟩
theorem fw_X11_45 : FldW RX11 45 12 2 1206 true (.array (.object "TrampOffice$Port")) := ⟨RX11, TX11, 19, 6, tyX11, by decide, by decide, rfl, rfl, in_X11, by decide, tb2 164 rfl rfl, tyX11_ok, nmX11, rfl, rfl, fun _ => rfl⟩
theorem fw_X11_51 : FldW RX11 51 12 2 1213 true (.object "TrampOffice$Reach") := ⟨RX11, TX11, 19, 13, tyX11, by decide, by decide, rfl, rfl, in_X11, by decide, tb2 171 rfl rfl, tyX11_ok, nmX11, rfl, rfl, fun _ => rfl⟩
theorem fw_X11_58 : FldW RX11 58 12 2 1214 true (.object "TrampOffice$Search") := ⟨RX11, TX11, 19, 14, tyX11, by decide, by decide, rfl, rfl, in_X11, by decide, tb2 172 rfl rfl, tyX11_ok, nmX11, rfl, rfl, fun _ => rfl⟩
theorem fw_X11_65 : FldW RX11 65 12 2 1215 true (.object "TrampOffice$Bunkering") := ⟨RX11, TX11, 19, 15, tyX11, by decide, by decide, rfl, rfl, in_X11, by decide, tb2 173 rfl rfl, tyX11_ok, nmX11, rfl, rfl, fun _ => rfl⟩
theorem fw_X11_72 : FldW RX11 72 12 2 1216 true (.object "TrampOffice$Reader") := ⟨RX11, TX11, 19, 16, tyX11, by decide, by decide, rfl, rfl, in_X11, by decide, tb2 174 rfl rfl, tyX11_ok, nmX11, rfl, rfl, fun _ => rfl⟩
theorem fw_X11_79 : FldW RX11 79 12 2 1217 false (.object "TrampOffice$Text") := ⟨RX11, TX11, 19, 17, tyX11, by decide, by decide, rfl, rfl, in_X11, by decide, tb2 175 rfl rfl, tyX11_ok, nmX11, rfl, rfl, (fun h => by cases h)⟩
theorem fw_X11_86 : FldW RX11 86 12 2 1218 true (.object "TrampOffice$Tally") := ⟨RX11, TX11, 19, 18, tyX11, by decide, by decide, rfl, rfl, in_X11, by decide, tb2 176 rfl rfl, tyX11_ok, nmX11, rfl, rfl, fun _ => rfl⟩
theorem fw_X11_113 : FldW RX11 113 12 0 1207 false (.int) := ⟨RX11, TX11, 19, 7, tyX11, by decide, by decide, rfl, rfl, in_X11, by decide, tb2 165 rfl rfl, tyX11_ok, nmX11, rfl, rfl, (fun h => by cases h)⟩
theorem fw_X11_132 : FldW RX11 132 4 0 402 false (.int) := ⟨RX3, TX3, 4, 2, tyX3, by decide, by decide, rfl, rfl, in_X3, by decide, tb2 234 rfl rfl, tyX3_ok, nmX3, rfl, rfl, (fun h => by cases h)⟩
theorem fw_X11_135 : FldW RX11 135 12 0 1208 false (.int) := ⟨RX11, TX11, 19, 8, tyX11, by decide, by decide, rfl, rfl, in_X11, by decide, tb2 166 rfl rfl, tyX11_ok, nmX11, rfl, rfl, (fun h => by cases h)⟩
theorem fw_X11_145 : FldW RX11 145 9 0 906 false (.int) := ⟨RX8, TX8, 9, 6, tyX8, by decide, by decide, rfl, rfl, in_X8, by decide, tb3 52 rfl rfl, tyX8_ok, nmX8, rfl, rfl, (fun h => by cases h)⟩
theorem fw_X11_152 : FldW RX11 152 9 2 904 false (.object "TrampOffice$Port") := ⟨RX8, TX8, 9, 4, tyX8, by decide, by decide, rfl, rfl, in_X8, by decide, tb3 48 rfl rfl, tyX8_ok, nmX8, rfl, rfl, (fun h => by cases h)⟩
theorem fw_X11_156 : FldW RX11 156 9 0 905 false (.int) := ⟨RX8, TX8, 9, 5, tyX8, by decide, by decide, rfl, rfl, in_X8, by decide, tb3 50 rfl rfl, tyX8_ok, nmX8, rfl, rfl, (fun h => by cases h)⟩
theorem fw_X11_174 : FldW RX11 174 12 0 1209 false (.int) := ⟨RX11, TX11, 19, 9, tyX11, by decide, by decide, rfl, rfl, in_X11, by decide, tb2 167 rfl rfl, tyX11_ok, nmX11, rfl, rfl, (fun h => by cases h)⟩
theorem fw_X11_227 : FldW RX11 227 3 0 306 false (.boolean) := ⟨RX2, TX2, 7, 6, tyX2, by decide, by decide, rfl, rfl, in_X2, by decide, tb3 119 rfl rfl, tyX2_ok, nmX2, rfl, rfl, (fun h => by cases h)⟩
theorem fw_X11_235 : FldW RX11 235 12 0 1212 false (.int) := ⟨RX11, TX11, 19, 12, tyX11, by decide, by decide, rfl, rfl, in_X11, by decide, tb2 170 rfl rfl, tyX11_ok, nmX11, rfl, rfl, (fun h => by cases h)⟩
theorem fw_X11_268 : FldW RX11 268 12 0 1210 false (.int) := ⟨RX11, TX11, 19, 10, tyX11, by decide, by decide, rfl, rfl, in_X11, by decide, tb2 168 rfl rfl, tyX11_ok, nmX11, rfl, rfl, (fun h => by cases h)⟩
theorem fw_X11_291 : FldW RX11 291 12 0 1211 false (.int) := ⟨RX11, TX11, 19, 11, tyX11, by decide, by decide, rfl, rfl, in_X11, by decide, tb2 169 rfl rfl, tyX11_ok, nmX11, rfl, rfl, (fun h => by cases h)⟩
theorem fw_X11_304 : FldW RX11 304 2 0 208 false (.int) := ⟨RX1, TX1, 9, 8, tyX1, by decide, by decide, rfl, rfl, in_X1, by decide, tb4 137 rfl rfl, tyX1_ok, nmX1, rfl, rfl, (fun h => by cases h)⟩
theorem fw_X0_9 : FldW RX0 9 1 2 101 true (.array .int) := ⟨RX0, TX0, 6, 1, tyX0, by decide, by decide, rfl, rfl, in_X0, by decide, tb1 117 rfl rfl, tyX0_ok, nmX0, rfl, rfl, fun _ => rfl⟩
theorem fw_X0_15 : FldW RX0 15 1 2 102 true (.array .int) := ⟨RX0, TX0, 6, 2, tyX0, by decide, by decide, rfl, rfl, in_X0, by decide, tb1 118 rfl rfl, tyX0_ok, nmX0, rfl, rfl, fun _ => rfl⟩
theorem fw_X0_20 : FldW RX0 20 1 2 103 true (.array (.array .int)) := ⟨RX0, TX0, 6, 3, tyX0, by decide, by decide, rfl, rfl, in_X0, by decide, tb1 119 rfl rfl, tyX0_ok, nmX0, rfl, rfl, fun _ => rfl⟩
theorem fw_X0_23 : FldW RX0 23 1 2 104 true (.array .int) := ⟨RX0, TX0, 6, 4, tyX0, by decide, by decide, rfl, rfl, in_X0, by decide, tb1 120 rfl rfl, tyX0_ok, nmX0, rfl, rfl, fun _ => rfl⟩
theorem fw_X0_26 : FldW RX0 26 1 2 105 true (.array .int) := ⟨RX0, TX0, 6, 5, tyX0, by decide, by decide, rfl, rfl, in_X0, by decide, tb1 121 rfl rfl, tyX0_ok, nmX0, rfl, rfl, fun _ => rfl⟩
theorem fw_X0_35 : FldW RX0 35 1 0 100 false (.int) := ⟨RX0, TX0, 6, 0, tyX0, by decide, by decide, rfl, rfl, in_X0, by decide, tb1 116 rfl rfl, tyX0_ok, nmX0, rfl, rfl, (fun h => by cases h)⟩
theorem fw_X1_11 : FldW RX1 11 2 0 208 false (.int) := ⟨RX1, TX1, 9, 8, tyX1, by decide, by decide, rfl, rfl, in_X1, by decide, tb4 136 rfl rfl, tyX1_ok, nmX1, rfl, rfl, (fun h => by cases h)⟩
theorem fw_X1_15 : FldW RX1 15 2 0 200 true (.int) := ⟨RX1, TX1, 9, 0, tyX1, by decide, by decide, rfl, rfl, in_X1, by decide, tb4 120 rfl rfl, tyX1_ok, nmX1, rfl, rfl, fun _ => rfl⟩
theorem fw_X1_18 : FldW RX1 18 2 2 201 true (.object "TrampOffice$Ship") := ⟨RX1, TX1, 9, 1, tyX1, by decide, by decide, rfl, rfl, in_X1, by decide, tb4 122 rfl rfl, tyX1_ok, nmX1, rfl, rfl, fun _ => rfl⟩
theorem fw_X1_22 : FldW RX1 22 2 0 202 true (.int) := ⟨RX1, TX1, 9, 2, tyX1, by decide, by decide, rfl, rfl, in_X1, by decide, tb4 125 rfl rfl, tyX1_ok, nmX1, rfl, rfl, fun _ => rfl⟩
theorem fw_X1_25 : FldW RX1 25 2 0 203 true (.int) := ⟨RX1, TX1, 9, 3, tyX1, by decide, by decide, rfl, rfl, in_X1, by decide, tb4 128 rfl rfl, tyX1_ok, nmX1, rfl, rfl, fun _ => rfl⟩
theorem fw_X1_28 : FldW RX1 28 2 2 204 true (.object "TrampOffice$Text") := ⟨RX1, TX1, 9, 4, tyX1, by decide, by decide, rfl, rfl, in_X1, by decide, tb4 130 rfl rfl, tyX1_ok, nmX1, rfl, rfl, fun _ => rfl⟩
theorem fw_X1_34 : FldW RX1 34 2 0 205 true (.int) := ⟨RX1, TX1, 9, 5, tyX1, by decide, by decide, rfl, rfl, in_X1, by decide, tb4 133 rfl rfl, tyX1_ok, nmX1, rfl, rfl, fun _ => rfl⟩
theorem fw_X1_39 : FldW RX1 39 2 0 206 true (.int) := ⟨RX1, TX1, 9, 6, tyX1, by decide, by decide, rfl, rfl, in_X1, by decide, tb4 134 rfl rfl, tyX1_ok, nmX1, rfl, rfl, fun _ => rfl⟩
theorem fw_X1_42 : FldW RX1 42 2 0 207 true (.int) := ⟨RX1, TX1, 9, 7, tyX1, by decide, by decide, rfl, rfl, in_X1, by decide, tb4 135 rfl rfl, tyX1_ok, nmX1, rfl, rfl, fun _ => rfl⟩
theorem fw_X2_7 : FldW RX2 7 3 2 300 true (.object "TrampOffice$Port") := ⟨RX2, TX2, 7, 0, tyX2, by decide, by decide, rfl, rfl, in_X2, by decide, tb3 104 rfl rfl, tyX2_ok, nmX2, rfl, rfl, fun _ => rfl⟩
theorem fw_X2_13 : FldW RX2 13 3 2 301 true (.object "TrampOffice$Port") := ⟨RX2, TX2, 7, 1, tyX2, by decide, by decide, rfl, rfl, in_X2, by decide, tb3 106 rfl rfl, tyX2_ok, nmX2, rfl, rfl, fun _ => rfl⟩
theorem fw_X2_16 : FldW RX2 16 3 0 302 true (.int) := ⟨RX2, TX2, 7, 2, tyX2, by decide, by decide, rfl, rfl, in_X2, by decide, tb3 110 rfl rfl, tyX2_ok, nmX2, rfl, rfl, fun _ => rfl⟩
theorem fw_X2_20 : FldW RX2 20 3 0 303 true (.int) := ⟨RX2, TX2, 7, 3, tyX2, by decide, by decide, rfl, rfl, in_X2, by decide, tb3 112 rfl rfl, tyX2_ok, nmX2, rfl, rfl, fun _ => rfl⟩
theorem fw_X2_23 : FldW RX2 23 3 0 304 true (.int) := ⟨RX2, TX2, 7, 4, tyX2, by decide, by decide, rfl, rfl, in_X2, by decide, tb3 114 rfl rfl, tyX2_ok, nmX2, rfl, rfl, fun _ => rfl⟩
theorem fw_X2_26 : FldW RX2 26 3 0 305 true (.int) := ⟨RX2, TX2, 7, 5, tyX2, by decide, by decide, rfl, rfl, in_X2, by decide, tb3 116 rfl rfl, tyX2_ok, nmX2, rfl, rfl, fun _ => rfl⟩
theorem fw_X3_9 : FldW RX3 9 4 2 403 true (.array .int) := ⟨RX3, TX3, 4, 3, tyX3, by decide, by decide, rfl, rfl, in_X3, by decide, tb2 235 rfl rfl, tyX3_ok, nmX3, rfl, rfl, fun _ => rfl⟩
theorem fw_X3_15 : FldW RX3 15 4 0 400 true (.int) := ⟨RX3, TX3, 4, 0, tyX3, by decide, by decide, rfl, rfl, in_X3, by decide, tb2 227 rfl rfl, tyX3_ok, nmX3, rfl, rfl, fun _ => rfl⟩
theorem fw_X3_19 : FldW RX3 19 4 0 401 true (.int) := ⟨RX3, TX3, 4, 1, tyX3, by decide, by decide, rfl, rfl, in_X3, by decide, tb2 229 rfl rfl, tyX3_ok, nmX3, rfl, rfl, fun _ => rfl⟩
theorem fw_X3_22 : FldW RX3 22 4 0 402 false (.int) := ⟨RX3, TX3, 4, 2, tyX3, by decide, by decide, rfl, rfl, in_X3, by decide, tb2 231 rfl rfl, tyX3_ok, nmX3, rfl, rfl, (fun h => by cases h)⟩
theorem fw_X4_52 : FldW RX4 52 5 0 501 false (.int) := ⟨RX4, TX4, 5, 1, tyX4, by decide, by decide, rfl, rfl, in_X4, by decide, tb1 50 rfl rfl, tyX4_ok, nmX4, rfl, rfl, (fun h => by cases h)⟩
theorem fw_X4_57 : FldW RX4 57 5 0 502 false (.int) := ⟨RX4, TX4, 5, 2, tyX4, by decide, by decide, rfl, rfl, in_X4, by decide, tb1 52 rfl rfl, tyX4_ok, nmX4, rfl, rfl, (fun h => by cases h)⟩
theorem fw_X4_60 : FldW RX4 60 5 0 503 false (.int) := ⟨RX4, TX4, 5, 3, tyX4, by decide, by decide, rfl, rfl, in_X4, by decide, tb1 55 rfl rfl, tyX4_ok, nmX4, rfl, rfl, (fun h => by cases h)⟩
theorem fw_X4_69 : FldW RX4 69 5 1 504 false (.long) := ⟨RX4, TX4, 5, 4, tyX4, by decide, by decide, rfl, rfl, in_X4, by decide, tb1 57 rfl rfl, tyX4_ok, nmX4, rfl, rfl, (fun h => by cases h)⟩
theorem fw_X4_77 : FldW RX4 77 5 0 500 false (.int) := ⟨RX4, TX4, 5, 0, tyX4, by decide, by decide, rfl, rfl, in_X4, by decide, tb1 47 rfl rfl, tyX4_ok, nmX4, rfl, rfl, (fun h => by cases h)⟩
theorem fw_X5_9 : FldW RX5 9 6 2 601 true (.array .int) := ⟨RX5, TX5, 8, 1, tyX5, by decide, by decide, rfl, rfl, in_X5, by decide, tb1 143 rfl rfl, tyX5_ok, nmX5, rfl, rfl, fun _ => rfl⟩
theorem fw_X5_15 : FldW RX5 15 6 2 603 true (.array .int) := ⟨RX5, TX5, 8, 3, tyX5, by decide, by decide, rfl, rfl, in_X5, by decide, tb1 145 rfl rfl, tyX5_ok, nmX5, rfl, rfl, fun _ => rfl⟩
theorem fw_X5_18 : FldW RX5 18 6 2 604 true (.array .int) := ⟨RX5, TX5, 8, 4, tyX5, by decide, by decide, rfl, rfl, in_X5, by decide, tb1 146 rfl rfl, tyX5_ok, nmX5, rfl, rfl, fun _ => rfl⟩
theorem fw_X5_21 : FldW RX5 21 6 0 600 false (.int) := ⟨RX5, TX5, 8, 0, tyX5, by decide, by decide, rfl, rfl, in_X5, by decide, tb1 141 rfl rfl, tyX5_ok, nmX5, rfl, rfl, (fun h => by cases h)⟩
theorem fw_X5_33 : FldW RX5 33 6 0 607 false (.int) := ⟨RX5, TX5, 8, 7, tyX5, by decide, by decide, rfl, rfl, in_X5, by decide, tb1 149 rfl rfl, tyX5_ok, nmX5, rfl, rfl, (fun h => by cases h)⟩
theorem fw_X5_47 : FldW RX5 47 6 0 606 false (.int) := ⟨RX5, TX5, 8, 6, tyX5, by decide, by decide, rfl, rfl, in_X5, by decide, tb1 148 rfl rfl, tyX5_ok, nmX5, rfl, rfl, (fun h => by cases h)⟩
theorem fw_X5_74 : FldW RX5 74 6 0 605 false (.int) := ⟨RX5, TX5, 8, 5, tyX5, by decide, by decide, rfl, rfl, in_X5, by decide, tb1 147 rfl rfl, tyX5_ok, nmX5, rfl, rfl, (fun h => by cases h)⟩
theorem fw_X5_81 : FldW RX5 81 6 0 602 false (.int) := ⟨RX5, TX5, 8, 2, tyX5, by decide, by decide, rfl, rfl, in_X5, by decide, tb1 144 rfl rfl, tyX5_ok, nmX5, rfl, rfl, (fun h => by cases h)⟩
theorem fw_X6_9 : FldW RX6 9 7 2 703 true (.array .int) := ⟨RX6, TX6, 8, 3, tyX6, by decide, by decide, rfl, rfl, in_X6, by decide, tb1 85 rfl rfl, tyX6_ok, nmX6, rfl, rfl, fun _ => rfl⟩
theorem fw_X6_15 : FldW RX6 15 7 2 704 true (.array .int) := ⟨RX6, TX6, 8, 4, tyX6, by decide, by decide, rfl, rfl, in_X6, by decide, tb1 86 rfl rfl, tyX6_ok, nmX6, rfl, rfl, fun _ => rfl⟩
theorem fw_X6_21 : FldW RX6 21 7 2 705 true (.object "TrampOffice$Reach") := ⟨RX6, TX6, 8, 5, tyX6, by decide, by decide, rfl, rfl, in_X6, by decide, tb1 87 rfl rfl, tyX6_ok, nmX6, rfl, rfl, fun _ => rfl⟩
theorem fw_X6_31 : FldW RX6 31 7 0 706 false (.int) := ⟨RX6, TX6, 8, 6, tyX6, by decide, by decide, rfl, rfl, in_X6, by decide, tb1 88 rfl rfl, tyX6_ok, nmX6, rfl, rfl, (fun h => by cases h)⟩
theorem fw_X6_35 : FldW RX6 35 7 0 707 false (.int) := ⟨RX6, TX6, 8, 7, tyX6, by decide, by decide, rfl, rfl, in_X6, by decide, tb1 89 rfl rfl, tyX6_ok, nmX6, rfl, rfl, (fun h => by cases h)⟩
theorem fw_X6_38 : FldW RX6 38 7 0 700 false (.int) := ⟨RX6, TX6, 8, 0, tyX6, by decide, by decide, rfl, rfl, in_X6, by decide, tb1 79 rfl rfl, tyX6_ok, nmX6, rfl, rfl, (fun h => by cases h)⟩
theorem fw_X6_41 : FldW RX6 41 7 1 701 false (.long) := ⟨RX6, TX6, 8, 1, tyX6, by decide, by decide, rfl, rfl, in_X6, by decide, tb1 81 rfl rfl, tyX6_ok, nmX6, rfl, rfl, (fun h => by cases h)⟩
theorem fw_X6_45 : FldW RX6 45 7 0 702 false (.int) := ⟨RX6, TX6, 8, 2, tyX6, by decide, by decide, rfl, rfl, in_X6, by decide, tb1 83 rfl rfl, tyX6_ok, nmX6, rfl, rfl, (fun h => by cases h)⟩
theorem fw_X7_11 : FldW RX7 11 8 0 800 false (.int) := ⟨RX7, TX7, 3, 0, tyX7, by decide, by decide, rfl, rfl, in_X7, by decide, tb1 226 rfl rfl, tyX7_ok, nmX7, rfl, rfl, (fun h => by cases h)⟩
theorem fw_X7_15 : FldW RX7 15 8 2 802 true (.array .int) := ⟨RX7, TX7, 3, 2, tyX7, by decide, by decide, rfl, rfl, in_X7, by decide, tb1 229 rfl rfl, tyX7_ok, nmX7, rfl, rfl, fun _ => rfl⟩
theorem fw_X7_28 : FldW RX7 28 8 0 801 false (.int) := ⟨RX7, TX7, 3, 1, tyX7, by decide, by decide, rfl, rfl, in_X7, by decide, tb1 228 rfl rfl, tyX7_ok, nmX7, rfl, rfl, (fun h => by cases h)⟩
theorem fw_X8_9 : FldW RX8 9 9 0 906 false (.int) := ⟨RX8, TX8, 9, 6, tyX8, by decide, by decide, rfl, rfl, in_X8, by decide, tb3 51 rfl rfl, tyX8_ok, nmX8, rfl, rfl, (fun h => by cases h)⟩
theorem fw_X8_15 : FldW RX8 15 9 2 908 true (.array .byte) := ⟨RX8, TX8, 9, 8, tyX8, by decide, by decide, rfl, rfl, in_X8, by decide, tb3 56 rfl rfl, tyX8_ok, nmX8, rfl, rfl, fun _ => rfl⟩
theorem fw_X8_19 : FldW RX8 19 9 0 900 true (.int) := ⟨RX8, TX8, 9, 0, tyX8, by decide, by decide, rfl, rfl, in_X8, by decide, tb3 34 rfl rfl, tyX8_ok, nmX8, rfl, rfl, fun _ => rfl⟩
theorem fw_X8_22 : FldW RX8 22 9 2 904 false (.object "TrampOffice$Port") := ⟨RX8, TX8, 9, 4, tyX8, by decide, by decide, rfl, rfl, in_X8, by decide, tb3 46 rfl rfl, tyX8_ok, nmX8, rfl, rfl, (fun h => by cases h)⟩
theorem fw_X8_26 : FldW RX8 26 9 0 901 true (.int) := ⟨RX8, TX8, 9, 1, tyX8, by decide, by decide, rfl, rfl, in_X8, by decide, tb3 37 rfl rfl, tyX8_ok, nmX8, rfl, rfl, fun _ => rfl⟩
theorem fw_X8_29 : FldW RX8 29 9 0 902 true (.int) := ⟨RX8, TX8, 9, 2, tyX8, by decide, by decide, rfl, rfl, in_X8, by decide, tb3 40 rfl rfl, tyX8_ok, nmX8, rfl, rfl, fun _ => rfl⟩
theorem fw_X8_32 : FldW RX8 32 9 0 903 true (.int) := ⟨RX8, TX8, 9, 3, tyX8, by decide, by decide, rfl, rfl, in_X8, by decide, tb3 44 rfl rfl, tyX8_ok, nmX8, rfl, rfl, fun _ => rfl⟩
theorem fw_X8_43 : FldW RX8 43 9 0 907 false (.int) := ⟨RX8, TX8, 9, 7, tyX8, by decide, by decide, rfl, rfl, in_X8, by decide, tb3 53 rfl rfl, tyX8_ok, nmX8, rfl, rfl, (fun h => by cases h)⟩
theorem fw_X9_9 : FldW RX9 9 10 2 1006 true (.array .int) := ⟨RX9, TX9, 7, 6, tyX9, by decide, by decide, rfl, rfl, in_X9, by decide, tb1 205 rfl rfl, tyX9_ok, nmX9, rfl, rfl, fun _ => rfl⟩
theorem fw_X9_15 : FldW RX9 15 10 0 1000 false (.int) := ⟨RX9, TX9, 7, 0, tyX9, by decide, by decide, rfl, rfl, in_X9, by decide, tb1 194 rfl rfl, tyX9_ok, nmX9, rfl, rfl, (fun h => by cases h)⟩
theorem fw_X9_19 : FldW RX9 19 10 0 1001 false (.int) := ⟨RX9, TX9, 7, 1, tyX9, by decide, by decide, rfl, rfl, in_X9, by decide, tb1 197 rfl rfl, tyX9_ok, nmX9, rfl, rfl, (fun h => by cases h)⟩
theorem fw_X9_22 : FldW RX9 22 10 0 1002 false (.int) := ⟨RX9, TX9, 7, 2, tyX9, by decide, by decide, rfl, rfl, in_X9, by decide, tb1 199 rfl rfl, tyX9_ok, nmX9, rfl, rfl, (fun h => by cases h)⟩
theorem fw_X9_40 : FldW RX9 40 10 0 1005 false (.int) := ⟨RX9, TX9, 7, 5, tyX9, by decide, by decide, rfl, rfl, in_X9, by decide, tb1 204 rfl rfl, tyX9_ok, nmX9, rfl, rfl, (fun h => by cases h)⟩
theorem fw_X9_43 : FldW RX9 43 10 0 1004 false (.int) := ⟨RX9, TX9, 7, 4, tyX9, by decide, by decide, rfl, rfl, in_X9, by decide, tb1 203 rfl rfl, tyX9_ok, nmX9, rfl, rfl, (fun h => by cases h)⟩
theorem fw_X9_56 : FldW RX9 56 10 0 1003 false (.int) := ⟨RX9, TX9, 7, 3, tyX9, by decide, by decide, rfl, rfl, in_X9, by decide, tb1 202 rfl rfl, tyX9_ok, nmX9, rfl, rfl, (fun h => by cases h)⟩
theorem fw_X10_9 : FldW RX10 9 11 2 1103 true (.array .int) := ⟨RX10, TX10, 4, 3, tyX10, by decide, by decide, rfl, rfl, in_X10, by decide, tb1 178 rfl rfl, tyX10_ok, nmX10, rfl, rfl, fun _ => rfl⟩
theorem fw_X10_15 : FldW RX10 15 11 0 1100 true (.int) := ⟨RX10, TX10, 4, 0, tyX10, by decide, by decide, rfl, rfl, in_X10, by decide, tb1 172 rfl rfl, tyX10_ok, nmX10, rfl, rfl, fun _ => rfl⟩
theorem fw_X10_19 : FldW RX10 19 11 0 1102 false (.int) := ⟨RX10, TX10, 4, 2, tyX10, by decide, by decide, rfl, rfl, in_X10, by decide, tb1 176 rfl rfl, tyX10_ok, nmX10, rfl, rfl, (fun h => by cases h)⟩
theorem fw_X10_22 : FldW RX10 22 11 0 1101 false (.int) := ⟨RX10, TX10, 4, 1, tyX10, by decide, by decide, rfl, rfl, in_X10, by decide, tb1 175 rfl rfl, tyX10_ok, nmX10, rfl, rfl, (fun h => by cases h)⟩
theorem fw_X12_7 : FldW RX12 7 13 2 1301 true (.array .int) := ⟨RX12, TX12, 63, 1, tyX12, by decide, by decide, rfl, rfl, in_X12, by decide, tb5 120 rfl rfl, tyX12_ok, nmX12, rfl, rfl, fun _ => rfl⟩
theorem fw_X12_13 : FldW RX12 13 13 2 1302 true (.array .int) := ⟨RX12, TX12, 63, 2, tyX12, by decide, by decide, rfl, rfl, in_X12, by decide, tb5 121 rfl rfl, tyX12_ok, nmX12, rfl, rfl, fun _ => rfl⟩
theorem fw_X12_16 : FldW RX12 16 13 2 1303 true (.array .int) := ⟨RX12, TX12, 63, 3, tyX12, by decide, by decide, rfl, rfl, in_X12, by decide, tb5 122 rfl rfl, tyX12_ok, nmX12, rfl, rfl, fun _ => rfl⟩
theorem fw_X12_19 : FldW RX12 19 13 2 1305 true (.array .int) := ⟨RX12, TX12, 63, 5, tyX12, by decide, by decide, rfl, rfl, in_X12, by decide, tb5 124 rfl rfl, tyX12_ok, nmX12, rfl, rfl, fun _ => rfl⟩
theorem fw_X12_22 : FldW RX12 22 13 2 1306 true (.array .int) := ⟨RX12, TX12, 63, 6, tyX12, by decide, by decide, rfl, rfl, in_X12, by decide, tb5 125 rfl rfl, tyX12_ok, nmX12, rfl, rfl, fun _ => rfl⟩
theorem fw_X12_25 : FldW RX12 25 13 2 1307 true (.array .int) := ⟨RX12, TX12, 63, 7, tyX12, by decide, by decide, rfl, rfl, in_X12, by decide, tb5 126 rfl rfl, tyX12_ok, nmX12, rfl, rfl, fun _ => rfl⟩
theorem fw_X12_28 : FldW RX12 28 13 2 1308 true (.array .int) := ⟨RX12, TX12, 63, 8, tyX12, by decide, by decide, rfl, rfl, in_X12, by decide, tb5 127 rfl rfl, tyX12_ok, nmX12, rfl, rfl, fun _ => rfl⟩
theorem fw_X12_31 : FldW RX12 31 13 2 1309 true (.array .int) := ⟨RX12, TX12, 63, 9, tyX12, by decide, by decide, rfl, rfl, in_X12, by decide, tb5 128 rfl rfl, tyX12_ok, nmX12, rfl, rfl, fun _ => rfl⟩
theorem fw_X12_34 : FldW RX12 34 13 2 1310 true (.array .int) := ⟨RX12, TX12, 63, 10, tyX12, by decide, by decide, rfl, rfl, in_X12, by decide, tb5 129 rfl rfl, tyX12_ok, nmX12, rfl, rfl, fun _ => rfl⟩
theorem fw_X12_37 : FldW RX12 37 13 2 1311 true (.array .int) := ⟨RX12, TX12, 63, 11, tyX12, by decide, by decide, rfl, rfl, in_X12, by decide, tb5 130 rfl rfl, tyX12_ok, nmX12, rfl, rfl, fun _ => rfl⟩
theorem fw_X12_40 : FldW RX12 40 13 2 1312 true (.array .byte) := ⟨RX12, TX12, 63, 12, tyX12, by decide, by decide, rfl, rfl, in_X12, by decide, tb5 131 rfl rfl, tyX12_ok, nmX12, rfl, rfl, fun _ => rfl⟩
theorem fw_X12_44 : FldW RX12 44 13 2 1314 true (.array .int) := ⟨RX12, TX12, 63, 14, tyX12, by decide, by decide, rfl, rfl, in_X12, by decide, tb5 133 rfl rfl, tyX12_ok, nmX12, rfl, rfl, fun _ => rfl⟩
theorem fw_X12_47 : FldW RX12 47 13 2 1315 true (.array .int) := ⟨RX12, TX12, 63, 15, tyX12, by decide, by decide, rfl, rfl, in_X12, by decide, tb5 134 rfl rfl, tyX12_ok, nmX12, rfl, rfl, fun _ => rfl⟩
theorem fw_X12_50 : FldW RX12 50 13 2 1316 true (.array .int) := ⟨RX12, TX12, 63, 16, tyX12, by decide, by decide, rfl, rfl, in_X12, by decide, tb5 135 rfl rfl, tyX12_ok, nmX12, rfl, rfl, fun _ => rfl⟩
theorem fw_X12_53 : FldW RX12 53 13 2 1317 true (.array .int) := ⟨RX12, TX12, 63, 17, tyX12, by decide, by decide, rfl, rfl, in_X12, by decide, tb5 136 rfl rfl, tyX12_ok, nmX12, rfl, rfl, fun _ => rfl⟩
theorem fw_X12_56 : FldW RX12 56 13 2 1318 true (.array .int) := ⟨RX12, TX12, 63, 18, tyX12, by decide, by decide, rfl, rfl, in_X12, by decide, tb5 137 rfl rfl, tyX12_ok, nmX12, rfl, rfl, fun _ => rfl⟩
theorem fw_X12_59 : FldW RX12 59 13 2 1319 true (.array .int) := ⟨RX12, TX12, 63, 19, tyX12, by decide, by decide, rfl, rfl, in_X12, by decide, tb5 138 rfl rfl, tyX12_ok, nmX12, rfl, rfl, fun _ => rfl⟩
theorem fw_X12_62 : FldW RX12 62 13 2 1320 true (.array .boolean) := ⟨RX12, TX12, 63, 20, tyX12, by decide, by decide, rfl, rfl, in_X12, by decide, tb5 139 rfl rfl, tyX12_ok, nmX12, rfl, rfl, fun _ => rfl⟩
theorem fw_X12_66 : FldW RX12 66 13 2 1322 true (.array .int) := ⟨RX12, TX12, 63, 22, tyX12, by decide, by decide, rfl, rfl, in_X12, by decide, tb5 141 rfl rfl, tyX12_ok, nmX12, rfl, rfl, fun _ => rfl⟩
theorem fw_X12_69 : FldW RX12 69 13 2 1323 true (.array .int) := ⟨RX12, TX12, 63, 23, tyX12, by decide, by decide, rfl, rfl, in_X12, by decide, tb5 142 rfl rfl, tyX12_ok, nmX12, rfl, rfl, fun _ => rfl⟩
theorem fw_X12_72 : FldW RX12 72 13 2 1326 true (.array .int) := ⟨RX12, TX12, 63, 26, tyX12, by decide, by decide, rfl, rfl, in_X12, by decide, tb5 145 rfl rfl, tyX12_ok, nmX12, rfl, rfl, fun _ => rfl⟩
theorem fw_X12_75 : FldW RX12 75 13 2 1327 true (.array .int) := ⟨RX12, TX12, 63, 27, tyX12, by decide, by decide, rfl, rfl, in_X12, by decide, tb5 146 rfl rfl, tyX12_ok, nmX12, rfl, rfl, fun _ => rfl⟩
theorem fw_X12_78 : FldW RX12 78 13 2 1328 true (.array .int) := ⟨RX12, TX12, 63, 28, tyX12, by decide, by decide, rfl, rfl, in_X12, by decide, tb5 147 rfl rfl, tyX12_ok, nmX12, rfl, rfl, fun _ => rfl⟩
theorem fw_X12_81 : FldW RX12 81 13 2 1330 true (.array .int) := ⟨RX12, TX12, 63, 30, tyX12, by decide, by decide, rfl, rfl, in_X12, by decide, tb5 149 rfl rfl, tyX12_ok, nmX12, rfl, rfl, fun _ => rfl⟩
theorem fw_X12_84 : FldW RX12 84 13 2 1331 true (.array .int) := ⟨RX12, TX12, 63, 31, tyX12, by decide, by decide, rfl, rfl, in_X12, by decide, tb5 150 rfl rfl, tyX12_ok, nmX12, rfl, rfl, fun _ => rfl⟩
theorem fw_X12_87 : FldW RX12 87 13 2 1332 true (.array .int) := ⟨RX12, TX12, 63, 32, tyX12, by decide, by decide, rfl, rfl, in_X12, by decide, tb5 151 rfl rfl, tyX12_ok, nmX12, rfl, rfl, fun _ => rfl⟩
theorem fw_X12_90 : FldW RX12 90 13 2 1333 true (.array .int) := ⟨RX12, TX12, 63, 33, tyX12, by decide, by decide, rfl, rfl, in_X12, by decide, tb5 152 rfl rfl, tyX12_ok, nmX12, rfl, rfl, fun _ => rfl⟩
theorem fw_X12_93 : FldW RX12 93 13 2 1334 true (.array .int) := ⟨RX12, TX12, 63, 34, tyX12, by decide, by decide, rfl, rfl, in_X12, by decide, tb5 153 rfl rfl, tyX12_ok, nmX12, rfl, rfl, fun _ => rfl⟩
theorem fw_X12_96 : FldW RX12 96 13 2 1335 true (.array .int) := ⟨RX12, TX12, 63, 35, tyX12, by decide, by decide, rfl, rfl, in_X12, by decide, tb5 154 rfl rfl, tyX12_ok, nmX12, rfl, rfl, fun _ => rfl⟩
theorem fw_X12_99 : FldW RX12 99 13 2 1336 true (.array .int) := ⟨RX12, TX12, 63, 36, tyX12, by decide, by decide, rfl, rfl, in_X12, by decide, tb5 155 rfl rfl, tyX12_ok, nmX12, rfl, rfl, fun _ => rfl⟩
theorem fw_X12_102 : FldW RX12 102 13 2 1337 true (.array .int) := ⟨RX12, TX12, 63, 37, tyX12, by decide, by decide, rfl, rfl, in_X12, by decide, tb5 156 rfl rfl, tyX12_ok, nmX12, rfl, rfl, fun _ => rfl⟩
theorem fw_X12_105 : FldW RX12 105 13 2 1338 true (.array .int) := ⟨RX12, TX12, 63, 38, tyX12, by decide, by decide, rfl, rfl, in_X12, by decide, tb5 157 rfl rfl, tyX12_ok, nmX12, rfl, rfl, fun _ => rfl⟩
theorem fw_X12_108 : FldW RX12 108 13 2 1339 true (.array .int) := ⟨RX12, TX12, 63, 39, tyX12, by decide, by decide, rfl, rfl, in_X12, by decide, tb5 158 rfl rfl, tyX12_ok, nmX12, rfl, rfl, fun _ => rfl⟩
theorem fw_X12_111 : FldW RX12 111 13 2 1340 true (.array .int) := ⟨RX12, TX12, 63, 40, tyX12, by decide, by decide, rfl, rfl, in_X12, by decide, tb5 159 rfl rfl, tyX12_ok, nmX12, rfl, rfl, fun _ => rfl⟩
theorem fw_X12_114 : FldW RX12 114 13 2 1341 true (.array .int) := ⟨RX12, TX12, 63, 41, tyX12, by decide, by decide, rfl, rfl, in_X12, by decide, tb5 160 rfl rfl, tyX12_ok, nmX12, rfl, rfl, fun _ => rfl⟩
theorem fw_X12_117 : FldW RX12 117 13 2 1342 true (.array .int) := ⟨RX12, TX12, 63, 42, tyX12, by decide, by decide, rfl, rfl, in_X12, by decide, tb5 161 rfl rfl, tyX12_ok, nmX12, rfl, rfl, fun _ => rfl⟩
theorem fw_X12_120 : FldW RX12 120 13 2 1346 true (.array .int) := ⟨RX12, TX12, 63, 46, tyX12, by decide, by decide, rfl, rfl, in_X12, by decide, tb5 165 rfl rfl, tyX12_ok, nmX12, rfl, rfl, fun _ => rfl⟩
theorem fw_X12_123 : FldW RX12 123 13 2 1347 true (.array .int) := ⟨RX12, TX12, 63, 47, tyX12, by decide, by decide, rfl, rfl, in_X12, by decide, tb5 166 rfl rfl, tyX12_ok, nmX12, rfl, rfl, fun _ => rfl⟩
theorem fw_X12_126 : FldW RX12 126 13 2 1348 true (.array .int) := ⟨RX12, TX12, 63, 48, tyX12, by decide, by decide, rfl, rfl, in_X12, by decide, tb5 167 rfl rfl, tyX12_ok, nmX12, rfl, rfl, fun _ => rfl⟩
theorem fw_X12_129 : FldW RX12 129 13 2 1349 true (.array .int) := ⟨RX12, TX12, 63, 49, tyX12, by decide, by decide, rfl, rfl, in_X12, by decide, tb5 168 rfl rfl, tyX12_ok, nmX12, rfl, rfl, fun _ => rfl⟩
theorem fw_X12_132 : FldW RX12 132 13 2 1359 true (.array .int) := ⟨RX12, TX12, 63, 59, tyX12, by decide, by decide, rfl, rfl, in_X12, by decide, tb5 178 rfl rfl, tyX12_ok, nmX12, rfl, rfl, fun _ => rfl⟩
theorem fw_X12_135 : FldW RX12 135 13 0 1350 false (.int) := ⟨RX12, TX12, 63, 50, tyX12, by decide, by decide, rfl, rfl, in_X12, by decide, tb5 169 rfl rfl, tyX12_ok, nmX12, rfl, rfl, (fun h => by cases h)⟩
theorem fw_X12_143 : FldW RX12 143 13 0 1325 false (.int) := ⟨RX12, TX12, 63, 25, tyX12, by decide, by decide, rfl, rfl, in_X12, by decide, tb5 144 rfl rfl, tyX12_ok, nmX12, rfl, rfl, (fun h => by cases h)⟩
theorem fw_X12_146 : FldW RX12 146 13 0 1300 false (.int) := ⟨RX12, TX12, 63, 0, tyX12, by decide, by decide, rfl, rfl, in_X12, by decide, tb5 119 rfl rfl, tyX12_ok, nmX12, rfl, rfl, (fun h => by cases h)⟩
theorem fw_X12_153 : FldW RX12 153 13 0 1304 false (.int) := ⟨RX12, TX12, 63, 4, tyX12, by decide, by decide, rfl, rfl, in_X12, by decide, tb5 123 rfl rfl, tyX12_ok, nmX12, rfl, rfl, (fun h => by cases h)⟩
theorem fw_X12_156 : FldW RX12 156 13 0 1313 false (.int) := ⟨RX12, TX12, 63, 13, tyX12, by decide, by decide, rfl, rfl, in_X12, by decide, tb5 132 rfl rfl, tyX12_ok, nmX12, rfl, rfl, (fun h => by cases h)⟩
theorem fw_X12_206 : FldW RX12 206 13 0 1345 false (.int) := ⟨RX12, TX12, 63, 45, tyX12, by decide, by decide, rfl, rfl, in_X12, by decide, tb5 164 rfl rfl, tyX12_ok, nmX12, rfl, rfl, (fun h => by cases h)⟩
theorem fw_X12_209 : FldW RX12 209 13 1 1344 false (.long) := ⟨RX12, TX12, 63, 44, tyX12, by decide, by decide, rfl, rfl, in_X12, by decide, tb5 163 rfl rfl, tyX12_ok, nmX12, rfl, rfl, (fun h => by cases h)⟩
theorem fw_X12_213 : FldW RX12 213 13 0 1343 false (.int) := ⟨RX12, TX12, 63, 43, tyX12, by decide, by decide, rfl, rfl, in_X12, by decide, tb5 162 rfl rfl, tyX12_ok, nmX12, rfl, rfl, (fun h => by cases h)⟩
theorem fw_X12_224 : FldW RX12 224 13 0 1321 false (.int) := ⟨RX12, TX12, 63, 21, tyX12, by decide, by decide, rfl, rfl, in_X12, by decide, tb5 140 rfl rfl, tyX12_ok, nmX12, rfl, rfl, (fun h => by cases h)⟩
theorem fw_X12_239 : FldW RX12 239 13 0 1352 false (.int) := ⟨RX12, TX12, 63, 52, tyX12, by decide, by decide, rfl, rfl, in_X12, by decide, tb5 171 rfl rfl, tyX12_ok, nmX12, rfl, rfl, (fun h => by cases h)⟩
theorem fw_X12_246 : FldW RX12 246 13 0 1353 false (.int) := ⟨RX12, TX12, 63, 53, tyX12, by decide, by decide, rfl, rfl, in_X12, by decide, tb5 172 rfl rfl, tyX12_ok, nmX12, rfl, rfl, (fun h => by cases h)⟩
theorem fw_X12_249 : FldW RX12 249 13 0 1354 false (.int) := ⟨RX12, TX12, 63, 54, tyX12, by decide, by decide, rfl, rfl, in_X12, by decide, tb5 173 rfl rfl, tyX12_ok, nmX12, rfl, rfl, (fun h => by cases h)⟩
theorem fw_X12_264 : FldW RX12 264 13 0 1355 false (.int) := ⟨RX12, TX12, 63, 55, tyX12, by decide, by decide, rfl, rfl, in_X12, by decide, tb5 174 rfl rfl, tyX12_ok, nmX12, rfl, rfl, (fun h => by cases h)⟩
theorem fw_X12_267 : FldW RX12 267 13 0 1356 false (.int) := ⟨RX12, TX12, 63, 56, tyX12, by decide, by decide, rfl, rfl, in_X12, by decide, tb5 175 rfl rfl, tyX12_ok, nmX12, rfl, rfl, (fun h => by cases h)⟩
theorem fw_X12_280 : FldW RX12 280 13 0 1357 false (.int) := ⟨RX12, TX12, 63, 57, tyX12, by decide, by decide, rfl, rfl, in_X12, by decide, tb5 176 rfl rfl, tyX12_ok, nmX12, rfl, rfl, (fun h => by cases h)⟩
theorem fw_X12_283 : FldW RX12 283 13 0 1351 false (.int) := ⟨RX12, TX12, 63, 51, tyX12, by decide, by decide, rfl, rfl, in_X12, by decide, tb5 170 rfl rfl, tyX12_ok, nmX12, rfl, rfl, (fun h => by cases h)⟩
theorem fw_X12_286 : FldW RX12 286 13 0 1358 false (.int) := ⟨RX12, TX12, 63, 58, tyX12, by decide, by decide, rfl, rfl, in_X12, by decide, tb5 177 rfl rfl, tyX12_ok, nmX12, rfl, rfl, (fun h => by cases h)⟩
theorem fw_X12_316 : FldW RX12 316 13 0 1324 false (.int) := ⟨RX12, TX12, 63, 24, tyX12, by decide, by decide, rfl, rfl, in_X12, by decide, tb5 143 rfl rfl, tyX12_ok, nmX12, rfl, rfl, (fun h => by cases h)⟩
theorem fw_X12_327 : FldW RX12 327 13 0 1329 false (.int) := ⟨RX12, TX12, 63, 29, tyX12, by decide, by decide, rfl, rfl, in_X12, by decide, tb5 148 rfl rfl, tyX12_ok, nmX12, rfl, rfl, (fun h => by cases h)⟩
theorem fw_X12_342 : FldW RX12 342 13 0 1360 false (.int) := ⟨RX12, TX12, 63, 60, tyX12, by decide, by decide, rfl, rfl, in_X12, by decide, tb5 179 rfl rfl, tyX12_ok, nmX12, rfl, rfl, (fun h => by cases h)⟩
theorem fw_X12_345 : FldW RX12 345 13 0 1361 false (.int) := ⟨RX12, TX12, 63, 61, tyX12, by decide, by decide, rfl, rfl, in_X12, by decide, tb5 180 rfl rfl, tyX12_ok, nmX12, rfl, rfl, (fun h => by cases h)⟩
theorem fw_X12_348 : FldW RX12 348 13 0 1362 false (.int) := ⟨RX12, TX12, 63, 62, tyX12, by decide, by decide, rfl, rfl, in_X12, by decide, tb5 181 rfl rfl, tyX12_ok, nmX12, rfl, rfl, (fun h => by cases h)⟩
theorem me_X4_init : MeR yX4_init cX4_init 1 none 0 := ⟨tb1 45 rfl rfl, tb1 2 rfl rfl, by decide, by decide, by decide +kernel, by decide⟩
theorem mi_X4_init : Cond.instanceMethod yX4_init ∈ TBL := tb1 44 rfl rfl
theorem ml_X11_50 : (RX11, 50, yX4_init, "TrampOffice") ∈ nstL := by decide +kernel
theorem me_X6_init : MeR yX6_init cX6_init 1 none 0 := ⟨tb1 75 rfl rfl, tb1 3 rfl rfl, by decide, by decide, by decide +kernel, by decide⟩
theorem mi_X6_init : Cond.instanceMethod yX6_init ∈ TBL := tb1 74 rfl rfl
theorem ml_X11_57 : (RX11, 57, yX6_init, "TrampOffice") ∈ nstL := by decide +kernel
theorem me_X0_init : MeR yX0_init cX0_init 1 none 0 := ⟨tb1 112 rfl rfl, tb1 4 rfl rfl, by decide, by decide, by decide +kernel, by decide⟩
theorem mi_X0_init : Cond.instanceMethod yX0_init ∈ TBL := tb1 111 rfl rfl
theorem ml_X11_64 : (RX11, 64, yX0_init, "TrampOffice") ∈ nstL := by decide +kernel
theorem me_X5_init : MeR yX5_init cX5_init 1 none 0 := ⟨tb1 139 rfl rfl, tb1 5 rfl rfl, by decide, by decide, by decide +kernel, by decide⟩
theorem mi_X5_init : Cond.instanceMethod yX5_init ∈ TBL := tb1 138 rfl rfl
theorem ml_X11_71 : (RX11, 71, yX5_init, "TrampOffice") ∈ nstL := by decide +kernel
theorem me_X10_init : MeR yX10_init cX10_init 2 none 1 := ⟨tb1 170 rfl rfl, tb1 6 rfl rfl, by decide, by decide, by decide +kernel, by decide⟩
theorem mi_X10_init : Cond.instanceMethod yX10_init ∈ TBL := tb1 169 rfl rfl
theorem ml_X11_76 : Cond.methodLink RX11 76 yX10_init ∈ TBL := tb1 168 rfl rfl
theorem me_X9_init : MeR yX9_init cX9_init 1 none 0 := ⟨tb1 192 rfl rfl, tb1 7 rfl rfl, by decide, by decide, by decide +kernel, by decide⟩
theorem mi_X9_init : Cond.instanceMethod yX9_init ∈ TBL := tb1 191 rfl rfl
theorem ml_X11_85 : (RX11, 85, yX9_init, "TrampOffice") ∈ nstL := by decide +kernel
theorem me_X7_init : MeR yX7_init cX7_init 1 none 0 := ⟨tb1 224 rfl rfl, tb1 8 rfl rfl, by decide, by decide, by decide +kernel, by decide⟩
theorem mi_X7_init : Cond.instanceMethod yX7_init ∈ TBL := tb1 223 rfl rfl
theorem ml_X11_90 : (RX11, 90, yX7_init, "TrampOffice") ∈ nstL := by decide +kernel
theorem me_J0_length_8abf5 : MeR yJ0_length_8abf5 cJ0_length_8abf5 1 (some (.int)) 0 := ⟨tb2 1 rfl rfl, tb1 9 rfl rfl, by decide, by decide, by decide +kernel, by decide⟩
theorem mi_J0_length_8abf5 : Cond.instanceMethod yJ0_length_8abf5 ∈ TBL := tb1 239 rfl rfl
theorem msel_J0_length_8abf5 : Cond.selects "java/lang/String" yJ0_length_8abf5 yJ0_length_8abf5 ∈ TBL := tb2 0 rfl rfl
theorem ml_X11_93 : Cond.methodLink RX11 93 yJ0_length_8abf5 ∈ TBL := tb1 238 rfl rfl
theorem me_J0_charAt_5068e : MeR yJ0_charAt_5068e cJ0_charAt_5068e 2 (some (.char)) 1 := ⟨tb2 11 rfl rfl, tb1 9 rfl rfl, by decide, by decide, by decide +kernel, by decide⟩
theorem mi_J0_charAt_5068e : Cond.instanceMethod yJ0_charAt_5068e ∈ TBL := tb2 9 rfl rfl
theorem msel_J0_charAt_5068e : Cond.selects "java/lang/String" yJ0_charAt_5068e yJ0_charAt_5068e ∈ TBL := tb2 10 rfl rfl
theorem ml_X11_99 : Cond.methodLink RX11 99 yJ0_charAt_5068e ∈ TBL := tb2 8 rfl rfl
theorem me_X5_append : MeR yX5_append cX5_append 2 none 1 := ⟨tb2 49 rfl rfl, tb1 5 rfl rfl, by decide, by decide, by decide +kernel, by decide⟩
theorem mi_X5_append : Cond.instanceMethod yX5_append ∈ TBL := tb2 47 rfl rfl
theorem mv_X5_append : MeV yX5_append 6 := ⟨by decide, by decide, mi_X5_append, tb2 48 rfl rfl, TX5, 8, rfl⟩
theorem ml_X11_103 : Cond.methodLink RX11 103 yX5_append ∈ TBL := tb2 46 rfl rfl
theorem me_X11_text : MeR yX11_text cX11_text 2 (some (.int)) 0 := ⟨tb2 53 rfl rfl, tb1 1 rfl rfl, by decide, by decide, by decide +kernel, by decide⟩
theorem mi_X11_text : Cond.instanceMethod yX11_text ∈ TBL := tb2 51 rfl rfl
theorem mv_X11_text : MeV yX11_text 12 := ⟨by decide, by decide, mi_X11_text, tb2 52 rfl rfl, TX11, 19, rfl⟩
theorem ml_X11_106 : Cond.methodLink RX11 106 yX11_text ∈ TBL := tb2 50 rfl rfl
theorem me_X11_within : MeR yX11_within cX11_within 3 (some (.boolean)) 3 := ⟨tb2 75 rfl rfl, tb1 1 rfl rfl, by decide, by decide, by decide +kernel, by decide⟩
theorem ms_X11_within : Cond.static yX11_within ∈ TBL := tb2 74 rfl rfl
theorem ml_X11_109 : Cond.methodLink RX11 109 yX11_within ∈ TBL := tb2 221 rfl rfl
theorem me_X3_init : MeR yX3_init cX3_init 4 none 3 := ⟨tb2 225 rfl rfl, tb1 14 rfl rfl, by decide, by decide, by decide +kernel, by decide⟩
theorem mi_X3_init : Cond.instanceMethod yX3_init ∈ TBL := tb2 224 rfl rfl
theorem ml_X11_117 : Cond.methodLink RX11 117 yX3_init ∈ TBL := tb2 223 rfl rfl
theorem me_X11_portAt : MeR yX11_portAt cX11_portAt 2 (some (.object "TrampOffice$Port")) 1 := ⟨tb3 12 rfl rfl, tb1 1 rfl rfl, by decide, by decide, by decide +kernel, by decide⟩
theorem mi_X11_portAt : Cond.instanceMethod yX11_portAt ∈ TBL := tb3 11 rfl rfl
theorem mv_X11_portAt : MeV yX11_portAt 12 := ⟨by decide, by decide, mi_X11_portAt, tb0 (q := (yX11_portAt, 19)) (by decide +kernel) rfl, TX11, 19, rfl⟩
theorem ml_X11_120 : Cond.methodLink RX11 120 yX11_portAt ∈ TBL := tb3 9 rfl rfl
theorem me_X3_milesTo : MeR yX3_milesTo cX3_milesTo 3 (some (.int)) 1 := ⟨tb3 16 rfl rfl, tb1 14 rfl rfl, by decide, by decide, by decide +kernel, by decide⟩
theorem mi_X3_milesTo : Cond.instanceMethod yX3_milesTo ∈ TBL := tb3 14 rfl rfl
theorem mv_X3_milesTo : MeV yX3_milesTo 4 := ⟨by decide, by decide, mi_X3_milesTo, tb3 15 rfl rfl, TX3, 4, rfl⟩
theorem ml_X11_124 : Cond.methodLink RX11 124 yX3_milesTo ∈ TBL := tb3 13 rfl rfl
theorem me_X3_putMiles : MeR yX3_putMiles cX3_putMiles 4 none 2 := ⟨tb3 20 rfl rfl, tb1 14 rfl rfl, by decide, by decide, by decide +kernel, by decide⟩
theorem mi_X3_putMiles : Cond.instanceMethod yX3_putMiles ∈ TBL := tb3 18 rfl rfl
theorem mv_X3_putMiles : MeV yX3_putMiles 4 := ⟨by decide, by decide, mi_X3_putMiles, tb3 19 rfl rfl, TX3, 4, rfl⟩
theorem ml_X11_128 : Cond.methodLink RX11 128 yX3_putMiles ∈ TBL := tb3 17 rfl rfl
theorem me_X8_init : MeR yX8_init cX8_init 6 none 5 := ⟨tb3 32 rfl rfl, tb1 15 rfl rfl, by decide, by decide, by decide +kernel, by decide⟩
theorem mi_X8_init : Cond.instanceMethod yX8_init ∈ TBL := tb3 31 rfl rfl
theorem ml_X11_138 : Cond.methodLink RX11 138 yX8_init ∈ TBL := tb3 30 rfl rfl
theorem me_X11_shipAt : MeR yX11_shipAt cX11_shipAt 2 (some (.object "TrampOffice$Ship")) 1 := ⟨tb3 83 rfl rfl, tb1 1 rfl rfl, by decide, by decide, by decide +kernel, by decide⟩
theorem mi_X11_shipAt : Cond.instanceMethod yX11_shipAt ∈ TBL := tb3 82 rfl rfl
theorem mv_X11_shipAt : MeV yX11_shipAt 12 := ⟨by decide, by decide, mi_X11_shipAt, tb0 (q := (yX11_shipAt, 19)) (by decide +kernel) rfl, TX11, 19, rfl⟩
theorem ml_X11_141 : Cond.methodLink RX11 141 yX11_shipAt ∈ TBL := tb3 80 rfl rfl
theorem me_X11_isHour : MeR yX11_isHour cX11_isHour 1 (some (.boolean)) 1 := ⟨tb3 90 rfl rfl, tb1 1 rfl rfl, by decide, by decide, by decide +kernel, by decide⟩
theorem ms_X11_isHour : Cond.static yX11_isHour ∈ TBL := tb3 89 rfl rfl
theorem ml_X11_148 : Cond.methodLink RX11 148 yX11_isHour ∈ TBL := tb3 88 rfl rfl
theorem me_X2_init : MeR yX2_init cX2_init 7 none 6 := ⟨tb3 102 rfl rfl, tb1 16 rfl rfl, by decide, by decide, by decide +kernel, by decide⟩
theorem mi_X2_init : Cond.instanceMethod yX2_init ∈ TBL := tb3 101 rfl rfl
theorem ml_X11_177 : Cond.methodLink RX11 177 yX2_init ∈ TBL := tb3 100 rfl rfl
theorem me_X11_offerAt : MeR yX11_offerAt cX11_offerAt 2 (some (.object "TrampOffice$Offer")) 1 := ⟨tb3 142 rfl rfl, tb1 1 rfl rfl, by decide, by decide, by decide +kernel, by decide⟩
theorem mi_X11_offerAt : Cond.instanceMethod yX11_offerAt ∈ TBL := tb3 141 rfl rfl
theorem mv_X11_offerAt : MeV yX11_offerAt 12 := ⟨by decide, by decide, mi_X11_offerAt, tb0 (q := (yX11_offerAt, 19)) (by decide +kernel) rfl, TX11, 19, rfl⟩
theorem ml_X11_180 : Cond.methodLink RX11 180 yX11_offerAt ∈ TBL := tb3 139 rfl rfl
theorem me_X4_reckon : MeR yX4_reckon cX4_reckon 12 none 4 := ⟨tb3 146 rfl rfl, tb1 2 rfl rfl, by decide, by decide, by decide +kernel, by decide⟩
theorem mi_X4_reckon : Cond.instanceMethod yX4_reckon ∈ TBL := tb3 144 rfl rfl
theorem mv_X4_reckon : MeV yX4_reckon 5 := ⟨by decide, by decide, mi_X4_reckon, tb3 145 rfl rfl, TX4, 5, rfl⟩
theorem ml_X11_184 : Cond.methodLink RX11 184 yX4_reckon ∈ TBL := tb3 143 rfl rfl
theorem me_X11_why : MeR yX11_why cX11_why 5 (some (.int)) 2 := ⟨tb3 138 rfl rfl, tb1 1 rfl rfl, by decide, by decide, by decide +kernel, by decide⟩
theorem mi_X11_why : Cond.instanceMethod yX11_why ∈ TBL := tb3 136 rfl rfl
theorem mv_X11_why : MeV yX11_why 12 := ⟨by decide, by decide, mi_X11_why, tb3 137 rfl rfl, TX11, 19, rfl⟩
theorem ml_X11_191 : Cond.methodLink RX11 191 yX11_why ∈ TBL := tb3 180 rfl rfl
theorem me_X6_run : MeR yX6_run cX6_run 5 none 4 := ⟨tb3 189 rfl rfl, tb1 3 rfl rfl, by decide, by decide, by decide +kernel, by decide⟩
theorem mi_X6_run : Cond.instanceMethod yX6_run ∈ TBL := tb3 187 rfl rfl
theorem mv_X6_run : MeV yX6_run 7 := ⟨by decide, by decide, mi_X6_run, tb3 188 rfl rfl, TX6, 8, rfl⟩
theorem ml_X11_209 : Cond.methodLink RX11 209 yX6_run ∈ TBL := tb3 186 rfl rfl
theorem me_X6_link : MeR yX6_link cX6_link 2 (some (.int)) 1 := ⟨tb3 216 rfl rfl, tb1 3 rfl rfl, by decide, by decide, by decide +kernel, by decide⟩
theorem mi_X6_link : Cond.instanceMethod yX6_link ∈ TBL := tb3 214 rfl rfl
theorem mv_X6_link : MeV yX6_link 7 := ⟨by decide, by decide, mi_X6_link, tb3 215 rfl rfl, TX6, 8, rfl⟩
theorem ml_X11_220 : Cond.methodLink RX11 220 yX6_link ∈ TBL := tb3 213 rfl rfl
theorem me_X11_endsRoute : MeR yX11_endsRoute cX11_endsRoute 3 (some (.boolean)) 1 := ⟨tb3 228 rfl rfl, tb1 1 rfl rfl, by decide, by decide, by decide +kernel, by decide⟩
theorem mi_X11_endsRoute : Cond.instanceMethod yX11_endsRoute ∈ TBL := tb3 227 rfl rfl
theorem mv_X11_endsRoute : MeV yX11_endsRoute 12 := ⟨by decide, by decide, mi_X11_endsRoute, tb0 (q := (yX11_endsRoute, 19)) (by decide +kernel) rfl, TX11, 19, rfl⟩
theorem ml_X11_231 : Cond.methodLink RX11 231 yX11_endsRoute ∈ TBL := tb3 225 rfl rfl
theorem me_X0_plan : MeR yX0_plan cX0_plan 8 (some (.int)) 3 := ⟨tb4 0 rfl rfl, tb1 4 rfl rfl, by decide, by decide, by decide +kernel, by decide⟩
theorem mi_X0_plan : Cond.instanceMethod yX0_plan ∈ TBL := tb3 238 rfl rfl
theorem mv_X0_plan : MeV yX0_plan 1 := ⟨by decide, by decide, mi_X0_plan, tb3 239 rfl rfl, TX0, 6, rfl⟩
theorem ml_X11_238 : Cond.methodLink RX11 238 yX0_plan ∈ TBL := tb3 237 rfl rfl
theorem me_X0_tonsAt : MeR yX0_tonsAt cX0_tonsAt 2 (some (.int)) 1 := ⟨tb4 34 rfl rfl, tb1 4 rfl rfl, by decide, by decide, by decide +kernel, by decide⟩
theorem mi_X0_tonsAt : Cond.instanceMethod yX0_tonsAt ∈ TBL := tb4 32 rfl rfl
theorem mv_X0_tonsAt : MeV yX0_tonsAt 1 := ⟨by decide, by decide, mi_X0_tonsAt, tb4 33 rfl rfl, TX0, 6, rfl⟩
theorem ml_X11_242 : Cond.methodLink RX11 242 yX0_tonsAt ∈ TBL := tb4 31 rfl rfl
theorem me_X11_isSort : MeR yX11_isSort cX11_isSort 1 (some (.boolean)) 1 := ⟨tb4 41 rfl rfl, tb1 1 rfl rfl, by decide, by decide, by decide +kernel, by decide⟩
theorem ms_X11_isSort : Cond.static yX11_isSort ∈ TBL := tb4 40 rfl rfl
theorem ml_X11_245 : Cond.methodLink RX11 245 yX11_isSort ∈ TBL := tb4 39 rfl rfl
theorem me_X8_append : MeR yX8_append cX8_append 2 none 1 := ⟨tb4 45 rfl rfl, tb1 15 rfl rfl, by decide, by decide, by decide +kernel, by decide⟩
theorem mi_X8_append : Cond.instanceMethod yX8_append ∈ TBL := tb4 43 rfl rfl
theorem mv_X8_append : MeV yX8_append 9 := ⟨by decide, by decide, mi_X8_append, tb4 44 rfl rfl, TX8, 9, rfl⟩
theorem ml_X11_248 : Cond.methodLink RX11 248 yX8_append ∈ TBL := tb4 42 rfl rfl
theorem me_X11_sheetAt : MeR yX11_sheetAt cX11_sheetAt 2 (some (.object "TrampOffice$Sheet")) 1 := ⟨tb4 53 rfl rfl, tb1 1 rfl rfl, by decide, by decide, by decide +kernel, by decide⟩
theorem mi_X11_sheetAt : Cond.instanceMethod yX11_sheetAt ∈ TBL := tb4 52 rfl rfl
theorem mv_X11_sheetAt : MeV yX11_sheetAt 12 := ⟨by decide, by decide, mi_X11_sheetAt, tb0 (q := (yX11_sheetAt, 19)) (by decide +kernel) rfl, TX11, 19, rfl⟩
theorem ml_X11_249 : Cond.methodLink RX11 249 yX11_sheetAt ∈ TBL := tb4 50 rfl rfl
theorem me_X11_layItem : MeR yX11_layItem cX11_layItem 4 (some (.int)) 3 := ⟨tb4 56 rfl rfl, tb1 1 rfl rfl, by decide, by decide, by decide +kernel, by decide⟩
theorem ms_X11_layItem : Cond.static yX11_layItem ∈ TBL := tb4 55 rfl rfl
theorem ml_X11_256 : Cond.methodLink RX11 256 yX11_layItem ∈ TBL := tb4 54 rfl rfl
theorem me_X8_sortAt : MeR yX8_sortAt cX8_sortAt 2 (some (.int)) 1 := ⟨tb4 73 rfl rfl, tb1 15 rfl rfl, by decide, by decide, by decide +kernel, by decide⟩
theorem mi_X8_sortAt : Cond.instanceMethod yX8_sortAt ∈ TBL := tb4 71 rfl rfl
theorem mv_X8_sortAt : MeV yX8_sortAt 9 := ⟨by decide, by decide, mi_X8_sortAt, tb4 72 rfl rfl, TX8, 9, rfl⟩
theorem ml_X11_260 : Cond.methodLink RX11 260 yX8_sortAt ∈ TBL := tb4 70 rfl rfl
theorem me_X8_correct : MeR yX8_correct cX8_correct 3 none 2 := ⟨tb4 77 rfl rfl, tb1 15 rfl rfl, by decide, by decide, by decide +kernel, by decide⟩
theorem mi_X8_correct : Cond.instanceMethod yX8_correct ∈ TBL := tb4 75 rfl rfl
theorem mv_X8_correct : MeV yX8_correct 9 := ⟨by decide, by decide, mi_X8_correct, tb4 76 rfl rfl, TX8, 9, rfl⟩
theorem ml_X11_263 : Cond.methodLink RX11 263 yX8_correct ∈ TBL := tb4 74 rfl rfl
theorem me_X5_read : MeR yX5_read cX5_read 2 (some (.int)) 1 := ⟨tb2 57 rfl rfl, tb1 5 rfl rfl, by decide, by decide, by decide +kernel, by decide⟩
theorem mi_X5_read : Cond.instanceMethod yX5_read ∈ TBL := tb2 55 rfl rfl
theorem mv_X5_read : MeV yX5_read 6 := ⟨by decide, by decide, mi_X5_read, tb2 56 rfl rfl, TX5, 8, rfl⟩
theorem ml_X11_271 : Cond.methodLink RX11 271 yX5_read ∈ TBL := tb2 54 rfl rfl
theorem me_X5_emptyTape : MeR yX5_emptyTape cX5_emptyTape 1 none 0 := ⟨tb2 157 rfl rfl, tb1 5 rfl rfl, by decide, by decide, by decide +kernel, by decide⟩
theorem mi_X5_emptyTape : Cond.instanceMethod yX5_emptyTape ∈ TBL := tb2 155 rfl rfl
theorem mv_X5_emptyTape : MeV yX5_emptyTape 6 := ⟨by decide, by decide, mi_X5_emptyTape, tb2 156 rfl rfl, TX5, 8, rfl⟩
theorem ml_X11_275 : Cond.methodLink RX11 275 yX5_emptyTape ∈ TBL := tb2 154 rfl rfl
theorem me_X11_textAt : MeR yX11_textAt cX11_textAt 2 (some (.object "TrampOffice$Text")) 1 := ⟨tb4 94 rfl rfl, tb1 1 rfl rfl, by decide, by decide, by decide +kernel, by decide⟩
theorem mi_X11_textAt : Cond.instanceMethod yX11_textAt ∈ TBL := tb4 93 rfl rfl
theorem mv_X11_textAt : MeV yX11_textAt 12 := ⟨by decide, by decide, mi_X11_textAt, tb0 (q := (yX11_textAt, 19)) (by decide +kernel) rfl, TX11, 19, rfl⟩
theorem ml_X11_278 : Cond.methodLink RX11 278 yX11_textAt ∈ TBL := tb4 91 rfl rfl
theorem me_X1_isKind : MeR yX1_isKind cX1_isKind 1 (some (.boolean)) 1 := ⟨tb4 97 rfl rfl, tb1 20 rfl rfl, by decide, by decide, by decide +kernel, by decide⟩
theorem ms_X1_isKind : Cond.static yX1_isKind ∈ TBL := tb4 96 rfl rfl
theorem ml_X11_282 : Cond.methodLink RX11 282 yX1_isKind ∈ TBL := tb4 95 rfl rfl
theorem me_X11_meets : MeR yX11_meets cX11_meets 6 (some (.boolean)) 3 := ⟨tb4 104 rfl rfl, tb1 1 rfl rfl, by decide, by decide, by decide +kernel, by decide⟩
theorem mi_X11_meets : Cond.instanceMethod yX11_meets ∈ TBL := tb4 103 rfl rfl
theorem mv_X11_meets : MeV yX11_meets 12 := ⟨by decide, by decide, mi_X11_meets, tb0 (q := (yX11_meets, 19)) (by decide +kernel) rfl, TX11, 19, rfl⟩
theorem ml_X11_287 : Cond.methodLink RX11 287 yX11_meets ∈ TBL := tb4 101 rfl rfl
theorem me_X1_init : MeR yX1_init cX1_init 8 none 6 := ⟨tb4 116 rfl rfl, tb1 20 rfl rfl, by decide, by decide, by decide +kernel, by decide⟩
theorem mi_X1_init : Cond.instanceMethod yX1_init ∈ TBL := tb4 115 rfl rfl
theorem ml_X11_294 : Cond.methodLink RX11 294 yX1_init ∈ TBL := tb4 114 rfl rfl
theorem me_X11_charterAt : MeR yX11_charterAt cX11_charterAt 2 (some (.object "TrampOffice$Charter")) 1 := ⟨tb4 108 rfl rfl, tb1 1 rfl rfl, by decide, by decide, by decide +kernel, by decide⟩
theorem mi_X11_charterAt : Cond.instanceMethod yX11_charterAt ∈ TBL := tb4 107 rfl rfl
theorem mv_X11_charterAt : MeV yX11_charterAt 12 := ⟨by decide, by decide, mi_X11_charterAt, tb0 (q := (yX11_charterAt, 19)) (by decide +kernel) rfl, TX11, 19, rfl⟩
theorem ml_X11_297 : Cond.methodLink RX11 297 yX11_charterAt ∈ TBL := tb4 105 rfl rfl
theorem me_X11_hoursOf : MeR yX11_hoursOf cX11_hoursOf 3 (some (.int)) 2 := ⟨tb4 168 rfl rfl, tb1 1 rfl rfl, by decide, by decide, by decide +kernel, by decide⟩
theorem mi_X11_hoursOf : Cond.instanceMethod yX11_hoursOf ∈ TBL := tb4 167 rfl rfl
theorem mv_X11_hoursOf : MeV yX11_hoursOf 12 := ⟨by decide, by decide, mi_X11_hoursOf, tb0 (q := (yX11_hoursOf, 19)) (by decide +kernel) rfl, TX11, 19, rfl⟩
theorem ml_X11_320 : Cond.methodLink RX11 320 yX11_hoursOf ∈ TBL := tb4 165 rfl rfl
theorem me_X9_run : MeR yX9_run cX9_run 6 (some (.int)) 2 := ⟨tb4 172 rfl rfl, tb1 7 rfl rfl, by decide, by decide, by decide +kernel, by decide⟩
theorem mi_X9_run : Cond.instanceMethod yX9_run ∈ TBL := tb4 170 rfl rfl
theorem mv_X9_run : MeV yX9_run 10 := ⟨by decide, by decide, mi_X9_run, tb4 171 rfl rfl, TX9, 7, rfl⟩
theorem ml_X11_324 : Cond.methodLink RX11 324 yX9_run ∈ TBL := tb4 169 rfl rfl
theorem me_X1_payFor : MeR yX1_payFor cX1_payFor 2 (some (.long)) 1 := ⟨tb4 223 rfl rfl, tb1 20 rfl rfl, by decide, by decide, by decide +kernel, by decide⟩
theorem mi_X1_payFor : Cond.instanceMethod yX1_payFor ∈ TBL := tb4 221 rfl rfl
theorem mv_X1_payFor : MeV yX1_payFor 2 := ⟨by decide, by decide, mi_X1_payFor, tb4 222 rfl rfl, TX1, 9, rfl⟩
theorem ml_X11_326 : Cond.methodLink RX11 326 yX1_payFor ∈ TBL := tb4 220 rfl rfl
theorem me_X1_has : MeR yX1_has cX1_has 2 (some (.boolean)) 1 := ⟨tb5 0 rfl rfl, tb1 20 rfl rfl, by decide, by decide, by decide +kernel, by decide⟩
theorem mi_X1_has : Cond.instanceMethod yX1_has ∈ TBL := tb4 238 rfl rfl
theorem mv_X1_has : MeV yX1_has 2 := ⟨by decide, by decide, mi_X1_has, tb4 239 rfl rfl, TX1, 9, rfl⟩
theorem ml_X11_330 : Cond.methodLink RX11 330 yX1_has ∈ TBL := tb4 237 rfl rfl
theorem me_X1_isOf : MeR yX1_isOf cX1_isOf 2 (some (.boolean)) 1 := ⟨tb4 112 rfl rfl, tb1 20 rfl rfl, by decide, by decide, by decide +kernel, by decide⟩
theorem mi_X1_isOf : Cond.instanceMethod yX1_isOf ∈ TBL := tb4 110 rfl rfl
theorem mv_X1_isOf : MeV yX1_isOf 2 := ⟨by decide, by decide, mi_X1_isOf, tb4 111 rfl rfl, TX1, 9, rfl⟩
theorem ml_X11_333 : Cond.methodLink RX11 333 yX1_isOf ∈ TBL := tb4 109 rfl rfl
theorem me_X1_loggedHours : MeR yX1_loggedHours cX1_loggedHours 1 (some (.int)) 0 := ⟨tb4 176 rfl rfl, tb1 20 rfl rfl, by decide, by decide, by decide +kernel, by decide⟩
theorem mi_X1_loggedHours : Cond.instanceMethod yX1_loggedHours ∈ TBL := tb4 174 rfl rfl
theorem mv_X1_loggedHours : MeV yX1_loggedHours 2 := ⟨by decide, by decide, mi_X1_loggedHours, tb4 175 rfl rfl, TX1, 9, rfl⟩
theorem ml_X11_337 : Cond.methodLink RX11 337 yX1_loggedHours ∈ TBL := tb5 10 rfl rfl
theorem me_X7_become : MeR yX7_become cX7_become 3 none 2 := ⟨tb5 22 rfl rfl, tb1 8 rfl rfl, by decide, by decide, by decide +kernel, by decide⟩
theorem mi_X7_become : Cond.instanceMethod yX7_become ∈ TBL := tb5 20 rfl rfl
theorem mv_X7_become : MeV yX7_become 8 := ⟨by decide, by decide, mi_X7_become, tb5 21 rfl rfl, TX7, 3, rfl⟩
theorem ml_X11_340 : Cond.methodLink RX11 340 yX7_become ∈ TBL := tb5 19 rfl rfl
theorem me_X7_has : MeR yX7_has cX7_has 2 (some (.boolean)) 1 := ⟨tb4 60 rfl rfl, tb1 8 rfl rfl, by decide, by decide, by decide +kernel, by decide⟩
theorem mi_X7_has : Cond.instanceMethod yX7_has ∈ TBL := tb4 58 rfl rfl
theorem mv_X7_has : MeV yX7_has 8 := ⟨by decide, by decide, mi_X7_has, tb4 59 rfl rfl, TX7, 3, rfl⟩
theorem ml_X11_343 : Cond.methodLink RX11 343 yX7_has ∈ TBL := tb4 57 rfl rfl
theorem me_X7_write : MeR yX7_write cX7_write 3 none 2 := ⟨tb5 33 rfl rfl, tb1 8 rfl rfl, by decide, by decide, by decide +kernel, by decide⟩
theorem mi_X7_write : Cond.instanceMethod yX7_write ∈ TBL := tb5 31 rfl rfl
theorem mv_X7_write : MeV yX7_write 8 := ⟨by decide, by decide, mi_X7_write, tb5 32 rfl rfl, TX7, 3, rfl⟩
theorem ml_X11_344 : Cond.methodLink RX11 344 yX7_write ∈ TBL := tb5 30 rfl rfl
theorem me_X1_isUnder : MeR yX1_isUnder cX1_isUnder 4 (some (.boolean)) 1 := ⟨tb5 41 rfl rfl, tb1 20 rfl rfl, by decide, by decide, by decide +kernel, by decide⟩
theorem mi_X1_isUnder : Cond.instanceMethod yX1_isUnder ∈ TBL := tb5 39 rfl rfl
theorem mv_X1_isUnder : MeV yX1_isUnder 2 := ⟨by decide, by decide, mi_X1_isUnder, tb5 40 rfl rfl, TX1, 9, rfl⟩
theorem ml_X11_347 : Cond.methodLink RX11 347 yX1_isUnder ∈ TBL := tb5 38 rfl rfl
theorem me_X7_item : MeR yX7_item cX7_item 2 (some (.int)) 1 := ⟨tb4 64 rfl rfl, tb1 8 rfl rfl, by decide, by decide, by decide +kernel, by decide⟩
theorem mi_X7_item : Cond.instanceMethod yX7_item ∈ TBL := tb4 62 rfl rfl
theorem mv_X7_item : MeV yX7_item 8 := ⟨by decide, by decide, mi_X7_item, tb4 63 rfl rfl, TX7, 3, rfl⟩
theorem ml_X11_350 : Cond.methodLink RX11 350 yX7_item ∈ TBL := tb4 61 rfl rfl
theorem me_J7_fill_53178 : MeR yJ7_fill_53178 cJ7_fill_53178 4 none 2 := ⟨tb4 4 rfl rfl, tb1 19 rfl rfl, by decide, by decide, by decide +kernel, by decide⟩
theorem ms_J7_fill_53178 : Cond.static yJ7_fill_53178 ∈ TBL := tb4 3 rfl rfl
theorem ml_X0_44 : Cond.methodLink RX0 44 yJ7_fill_53178 ∈ TBL := tb4 2 rfl rfl
theorem me_X3_lacksWayTo : MeR yX3_lacksWayTo cX3_lacksWayTo 2 (some (.boolean)) 1 := ⟨tb3 171 rfl rfl, tb1 14 rfl rfl, by decide, by decide, by decide +kernel, by decide⟩
theorem mi_X3_lacksWayTo : Cond.instanceMethod yX3_lacksWayTo ∈ TBL := tb3 169 rfl rfl
theorem mv_X3_lacksWayTo : MeV yX3_lacksWayTo 4 := ⟨by decide, by decide, mi_X3_lacksWayTo, tb3 170 rfl rfl, TX3, 4, rfl⟩
theorem ml_X0_50 : Cond.methodLink RX0 50 yX3_lacksWayTo ∈ TBL := tb4 5 rfl rfl
theorem ml_X0_56 : Cond.methodLink RX0 56 yX3_milesTo ∈ TBL := tb4 6 rfl rfl
theorem me_X8_burnFor : MeR yX8_burnFor cX8_burnFor 2 (some (.int)) 1 := ⟨tb3 151 rfl rfl, tb1 15 rfl rfl, by decide, by decide, by decide +kernel, by decide⟩
theorem mi_X8_burnFor : Cond.instanceMethod yX8_burnFor ∈ TBL := tb3 149 rfl rfl
theorem mv_X8_burnFor : MeV yX8_burnFor 9 := ⟨by decide, by decide, mi_X8_burnFor, tb3 150 rfl rfl, TX8, 9, rfl⟩
theorem ml_X0_60 : Cond.methodLink RX0 60 yX8_burnFor ∈ TBL := tb4 7 rfl rfl
theorem me_X0_planWithout : MeR yX0_planWithout cX0_planWithout 4 none 2 := ⟨tb4 12 rfl rfl, tb1 4 rfl rfl, by decide, by decide, by decide +kernel, by decide⟩
theorem mi_X0_planWithout : Cond.instanceMethod yX0_planWithout ∈ TBL := tb4 11 rfl rfl
theorem mv_X0_planWithout : MeV yX0_planWithout 1 := ⟨by decide, by decide, mi_X0_planWithout, tb0 (q := (yX0_planWithout, 6)) (by decide +kernel) rfl, TX0, 6, rfl⟩
theorem ml_X0_73 : Cond.methodLink RX0 73 yX0_planWithout ∈ TBL := tb4 9 rfl rfl
theorem me_X0_planBuying : MeR yX0_planBuying cX0_planBuying 8 none 3 := ⟨tb4 21 rfl rfl, tb1 4 rfl rfl, by decide, by decide, by decide +kernel, by decide⟩
theorem mi_X0_planBuying : Cond.instanceMethod yX0_planBuying ∈ TBL := tb4 20 rfl rfl
theorem mv_X0_planBuying : MeV yX0_planBuying 1 := ⟨by decide, by decide, mi_X0_planBuying, tb0 (q := (yX0_planBuying, 6)) (by decide +kernel) rfl, TX0, 6, rfl⟩
theorem ml_X0_77 : Cond.methodLink RX0 77 yX0_planBuying ∈ TBL := tb4 18 rfl rfl
theorem me_X0_follow : MeR yX0_follow cX0_follow 3 none 0 := ⟨tb4 26 rfl rfl, tb1 4 rfl rfl, by decide, by decide, by decide +kernel, by decide⟩
theorem mi_X0_follow : Cond.instanceMethod yX0_follow ∈ TBL := tb4 25 rfl rfl
theorem mv_X0_follow : MeV yX0_follow 1 := ⟨by decide, by decide, mi_X0_follow, tb0 (q := (yX0_follow, 6)) (by decide +kernel) rfl, TX0, 6, rfl⟩
theorem ml_X0_82 : Cond.methodLink RX0 82 yX0_follow ∈ TBL := tb4 23 rfl rfl
theorem me_X0_costBehind : MeR yX0_costBehind cX0_costBehind 4 (some (.int)) 2 := ⟨tb4 16 rfl rfl, tb1 4 rfl rfl, by decide, by decide, by decide +kernel, by decide⟩
theorem mi_X0_costBehind : Cond.instanceMethod yX0_costBehind ∈ TBL := tb4 15 rfl rfl
theorem mv_X0_costBehind : MeV yX0_costBehind 1 := ⟨by decide, by decide, mi_X0_costBehind, tb0 (q := (yX0_costBehind, 6)) (by decide +kernel) rfl, TX0, 6, rfl⟩
theorem ml_X0_85 : Cond.methodLink RX0 85 yX0_costBehind ∈ TBL := tb4 13 rfl rfl
theorem ml_X1_54 : (RX1, 54, yX11_within, "TrampOffice") ∈ nstL := by decide +kernel
theorem ml_X1_58 : Cond.methodLink RX1 58 yX1_isKind ∈ TBL := tb5 42 rfl rfl
theorem me_X1_timePay : MeR yX1_timePay cX1_timePay 2 (some (.long)) 1 := ⟨tb4 227 rfl rfl, tb1 20 rfl rfl, by decide, by decide, by decide +kernel, by decide⟩
theorem mi_X1_timePay : Cond.instanceMethod yX1_timePay ∈ TBL := tb4 226 rfl rfl
theorem mv_X1_timePay : MeV yX1_timePay 2 := ⟨by decide, by decide, mi_X1_timePay, tb0 (q := (yX1_timePay, 9)) (by decide +kernel) rfl, TX1, 9, rfl⟩
theorem ml_X1_74 : Cond.methodLink RX1 74 yX1_timePay ∈ TBL := tb4 224 rfl rfl
theorem me_X1_voyagePay : MeR yX1_voyagePay cX1_voyagePay 4 (some (.long)) 1 := ⟨tb4 232 rfl rfl, tb1 20 rfl rfl, by decide, by decide, by decide +kernel, by decide⟩
theorem mi_X1_voyagePay : Cond.instanceMethod yX1_voyagePay ∈ TBL := tb4 231 rfl rfl
theorem mv_X1_voyagePay : MeV yX1_voyagePay 2 := ⟨by decide, by decide, mi_X1_voyagePay, tb0 (q := (yX1_voyagePay, 9)) (by decide +kernel) rfl, TX1, 9, rfl⟩
theorem ml_X1_80 : Cond.methodLink RX1 80 yX1_voyagePay ∈ TBL := tb4 229 rfl rfl
theorem ml_X3_25 : Cond.methodLink RX3 25 yX3_milesTo ∈ TBL := tb3 172 rfl rfl
theorem ml_X4_15 : Cond.methodLink RX4 15 yX3_milesTo ∈ TBL := tb3 147 rfl rfl
theorem ml_X4_24 : Cond.methodLink RX4 24 yX8_burnFor ∈ TBL := tb3 148 rfl rfl
theorem me_X11_roundedUp : MeR yX11_roundedUp cX11_roundedUp 2 (some (.int)) 2 := ⟨tb3 158 rfl rfl, tb1 1 rfl rfl, by decide, by decide, by decide +kernel, by decide⟩
theorem ms_X11_roundedUp : Cond.static yX11_roundedUp ∈ TBL := tb3 157 rfl rfl
theorem ml_X4_37 : (RX4, 37, yX11_roundedUp, "TrampOffice") ∈ nstL := by decide +kernel
theorem me_X8_hoursFor : MeR yX8_hoursFor cX8_hoursFor 2 (some (.int)) 1 := ⟨tb3 155 rfl rfl, tb1 15 rfl rfl, by decide, by decide, by decide +kernel, by decide⟩
theorem mi_X8_hoursFor : Cond.instanceMethod yX8_hoursFor ∈ TBL := tb3 153 rfl rfl
theorem mv_X8_hoursFor : MeV yX8_hoursFor 9 := ⟨by decide, by decide, mi_X8_hoursFor, tb3 154 rfl rfl, TX8, 9, rfl⟩
theorem ml_X4_41 : Cond.methodLink RX4 41 yX8_hoursFor ∈ TBL := tb3 160 rfl rfl
theorem me_X4_refusal : MeR yX4_refusal cX4_refusal 7 (some (.int)) 5 := ⟨tb3 167 rfl rfl, tb1 2 rfl rfl, by decide, by decide, by decide +kernel, by decide⟩
theorem mi_X4_refusal : Cond.instanceMethod yX4_refusal ∈ TBL := tb3 166 rfl rfl
theorem mv_X4_refusal : MeV yX4_refusal 5 := ⟨by decide, by decide, mi_X4_refusal, tb0 (q := (yX4_refusal, 5)) (by decide +kernel) rfl, TX4, 5, rfl⟩
theorem ml_X4_73 : Cond.methodLink RX4 73 yX4_refusal ∈ TBL := tb3 164 rfl rfl
theorem ml_X4_83 : Cond.methodLink RX4 83 yX3_lacksWayTo ∈ TBL := tb3 168 rfl rfl
theorem me_X4_lacksCoal : MeR yX4_lacksCoal cX4_lacksCoal 2 (some (.boolean)) 2 := ⟨tb3 175 rfl rfl, tb1 2 rfl rfl, by decide, by decide, by decide +kernel, by decide⟩
theorem ms_X4_lacksCoal : Cond.static yX4_lacksCoal ∈ TBL := tb3 174 rfl rfl
theorem ml_X4_93 : Cond.methodLink RX4 93 yX4_lacksCoal ∈ TBL := tb3 173 rfl rfl
theorem me_X5_split : MeR yX5_split cX5_split 4 none 0 := ⟨tb2 61 rfl rfl, tb1 5 rfl rfl, by decide, by decide, by decide +kernel, by decide⟩
theorem mi_X5_split : Cond.instanceMethod yX5_split ∈ TBL := tb2 60 rfl rfl
theorem mv_X5_split : MeV yX5_split 6 := ⟨by decide, by decide, mi_X5_split, tb0 (q := (yX5_split, 8)) (by decide +kernel) rfl, TX5, 8, rfl⟩
theorem ml_X5_25 : Cond.methodLink RX5 25 yX5_split ∈ TBL := tb2 58 rfl rfl
theorem me_X10_empty : MeR yX10_empty cX10_empty 1 none 0 := ⟨tb2 110 rfl rfl, tb1 6 rfl rfl, by decide, by decide, by decide +kernel, by decide⟩
theorem mi_X10_empty : Cond.instanceMethod yX10_empty ∈ TBL := tb2 108 rfl rfl
theorem mv_X10_empty : MeV yX10_empty 11 := ⟨by decide, by decide, mi_X10_empty, tb2 109 rfl rfl, TX10, 4, rfl⟩
theorem ml_X5_28 : Cond.methodLink RX5 28 yX10_empty ∈ TBL := tb2 107 rfl rfl
theorem me_X5_stepTo : MeR yX5_stepTo cX5_stepTo 2 none 1 := ⟨tb2 114 rfl rfl, tb1 5 rfl rfl, by decide, by decide, by decide +kernel, by decide⟩
theorem mi_X5_stepTo : Cond.instanceMethod yX5_stepTo ∈ TBL := tb2 113 rfl rfl
theorem mv_X5_stepTo : MeV yX5_stepTo 6 := ⟨by decide, by decide, mi_X5_stepTo, tb0 (q := (yX5_stepTo, 8)) (by decide +kernel) rfl, TX5, 8, rfl⟩
theorem ml_X5_36 : Cond.methodLink RX5 36 yX5_stepTo ∈ TBL := tb2 111 rfl rfl
theorem me_X5_readPart : MeR yX5_readPart cX5_readPart 3 none 2 := ⟨tb2 118 rfl rfl, tb1 5 rfl rfl, by decide, by decide, by decide +kernel, by decide⟩
theorem mi_X5_readPart : Cond.instanceMethod yX5_readPart ∈ TBL := tb2 117 rfl rfl
theorem mv_X5_readPart : MeV yX5_readPart 6 := ⟨by decide, by decide, mi_X5_readPart, tb0 (q := (yX5_readPart, 8)) (by decide +kernel) rfl, TX5, 8, rfl⟩
theorem ml_X5_40 : Cond.methodLink RX5 40 yX5_readPart ∈ TBL := tb2 115 rfl rfl
theorem me_X10_endLay : MeR yX10_endLay cX10_endLay 1 none 0 := ⟨tb2 153 rfl rfl, tb1 6 rfl rfl, by decide, by decide, by decide +kernel, by decide⟩
theorem mi_X10_endLay : Cond.instanceMethod yX10_endLay ∈ TBL := tb2 151 rfl rfl
theorem mv_X10_endLay : MeV yX10_endLay 11 := ⟨by decide, by decide, mi_X10_endLay, tb2 152 rfl rfl, TX10, 4, rfl⟩
theorem ml_X5_44 : Cond.methodLink RX5 44 yX10_endLay ∈ TBL := tb2 150 rfl rfl
theorem me_X5_refuse : MeR yX5_refuse cX5_refuse 1 none 0 := ⟨tb2 126 rfl rfl, tb1 5 rfl rfl, by decide, by decide, by decide +kernel, by decide⟩
theorem mi_X5_refuse : Cond.instanceMethod yX5_refuse ∈ TBL := tb2 125 rfl rfl
theorem mv_X5_refuse : MeV yX5_refuse 6 := ⟨by decide, by decide, mi_X5_refuse, tb0 (q := (yX5_refuse, 8)) (by decide +kernel) rfl, TX5, 8, rfl⟩
theorem ml_X5_50 : Cond.methodLink RX5 50 yX5_refuse ∈ TBL := tb2 123 rfl rfl
theorem me_X5_expect : MeR yX5_expect cX5_expect 2 none 1 := ⟨tb2 122 rfl rfl, tb1 5 rfl rfl, by decide, by decide, by decide +kernel, by decide⟩
theorem mi_X5_expect : Cond.instanceMethod yX5_expect ∈ TBL := tb2 121 rfl rfl
theorem mv_X5_expect : MeV yX5_expect 6 := ⟨by decide, by decide, mi_X5_expect, tb0 (q := (yX5_expect, 8)) (by decide +kernel) rfl, TX5, 8, rfl⟩
theorem ml_X5_53 : Cond.methodLink RX5 53 yX5_expect ∈ TBL := tb2 119 rfl rfl
theorem me_X5_readLevel : MeR yX5_readLevel cX5_readLevel 7 none 3 := ⟨tb2 130 rfl rfl, tb1 5 rfl rfl, by decide, by decide, by decide +kernel, by decide⟩
theorem mi_X5_readLevel : Cond.instanceMethod yX5_readLevel ∈ TBL := tb2 129 rfl rfl
theorem mv_X5_readLevel : MeV yX5_readLevel 6 := ⟨by decide, by decide, mi_X5_readLevel, tb0 (q := (yX5_readLevel, 8)) (by decide +kernel) rfl, TX5, 8, rfl⟩
theorem ml_X5_56 : Cond.methodLink RX5 56 yX5_readLevel ∈ TBL := tb2 127 rfl rfl
theorem me_X5_readOne : MeR yX5_readOne cX5_readOne 3 none 2 := ⟨tb2 134 rfl rfl, tb1 5 rfl rfl, by decide, by decide, by decide +kernel, by decide⟩
theorem mi_X5_readOne : Cond.instanceMethod yX5_readOne ∈ TBL := tb2 133 rfl rfl
theorem mv_X5_readOne : MeV yX5_readOne 6 := ⟨by decide, by decide, mi_X5_readOne, tb0 (q := (yX5_readOne, 8)) (by decide +kernel) rfl, TX5, 8, rfl⟩
theorem ml_X5_60 : Cond.methodLink RX5 60 yX5_readOne ∈ TBL := tb2 131 rfl rfl
theorem me_X5_readInside : MeR yX5_readInside cX5_readInside 4 none 3 := ⟨tb2 146 rfl rfl, tb1 5 rfl rfl, by decide, by decide, by decide +kernel, by decide⟩
theorem mi_X5_readInside : Cond.instanceMethod yX5_readInside ∈ TBL := tb2 145 rfl rfl
theorem mv_X5_readInside : MeV yX5_readInside 6 := ⟨by decide, by decide, mi_X5_readInside, tb0 (q := (yX5_readInside, 8)) (by decide +kernel) rfl, TX5, 8, rfl⟩
theorem ml_X5_64 : Cond.methodLink RX5 64 yX5_readInside ∈ TBL := tb2 143 rfl rfl
theorem me_X10_add : MeR yX10_add cX10_add 2 none 1 := ⟨tb2 142 rfl rfl, tb1 6 rfl rfl, by decide, by decide, by decide +kernel, by decide⟩
theorem mi_X10_add : Cond.instanceMethod yX10_add ∈ TBL := tb2 140 rfl rfl
theorem mv_X10_add : MeV yX10_add 11 := ⟨by decide, by decide, mi_X10_add, tb2 141 rfl rfl, TX10, 4, rfl⟩
theorem ml_X5_67 : Cond.methodLink RX5 67 yX10_add ∈ TBL := tb2 139 rfl rfl
theorem me_X5_levelOf : MeR yX5_levelOf cX5_levelOf 1 (some (.int)) 1 := ⟨tb2 149 rfl rfl, tb1 5 rfl rfl, by decide, by decide, by decide +kernel, by decide⟩
theorem ms_X5_levelOf : Cond.static yX5_levelOf ∈ TBL := tb2 148 rfl rfl
theorem ml_X5_70 : Cond.methodLink RX5 70 yX5_levelOf ∈ TBL := tb2 147 rfl rfl
theorem me_X10_isName : MeR yX10_isName cX10_isName 1 (some (.boolean)) 1 := ⟨tb2 137 rfl rfl, tb1 6 rfl rfl, by decide, by decide, by decide +kernel, by decide⟩
theorem ms_X10_isName : Cond.static yX10_isName ∈ TBL := tb2 136 rfl rfl
theorem ml_X5_77 : Cond.methodLink RX5 77 yX10_isName ∈ TBL := tb2 135 rfl rfl
theorem me_X5_endOf : MeR yX5_endOf cX5_endOf 4 (some (.int)) 1 := ⟨tb2 65 rfl rfl, tb1 5 rfl rfl, by decide, by decide, by decide +kernel, by decide⟩
theorem mi_X5_endOf : Cond.instanceMethod yX5_endOf ∈ TBL := tb2 64 rfl rfl
theorem mv_X5_endOf : MeV yX5_endOf 6 := ⟨by decide, by decide, mi_X5_endOf, tb0 (q := (yX5_endOf, 8)) (by decide +kernel) rfl, TX5, 8, rfl⟩
theorem ml_X5_84 : Cond.methodLink RX5 84 yX5_endOf ∈ TBL := tb2 62 rfl rfl
theorem me_X5_byteAt : MeR yX5_byteAt cX5_byteAt 2 (some (.int)) 1 := ⟨tb2 69 rfl rfl, tb1 5 rfl rfl, by decide, by decide, by decide +kernel, by decide⟩
theorem mi_X5_byteAt : Cond.instanceMethod yX5_byteAt ∈ TBL := tb2 68 rfl rfl
theorem mv_X5_byteAt : MeV yX5_byteAt 6 := ⟨by decide, by decide, mi_X5_byteAt, tb0 (q := (yX5_byteAt, 8)) (by decide +kernel) rfl, TX5, 8, rfl⟩
theorem ml_X5_87 : Cond.methodLink RX5 87 yX5_byteAt ∈ TBL := tb2 66 rfl rfl
theorem me_X5_kindOf : MeR yX5_kindOf cX5_kindOf 1 (some (.int)) 1 := ⟨tb2 72 rfl rfl, tb1 5 rfl rfl, by decide, by decide, by decide +kernel, by decide⟩
theorem ms_X5_kindOf : Cond.static yX5_kindOf ∈ TBL := tb2 71 rfl rfl
theorem ml_X5_90 : Cond.methodLink RX5 90 yX5_kindOf ∈ TBL := tb2 70 rfl rfl
theorem me_X5_tokenOf : MeR yX5_tokenOf cX5_tokenOf 4 (some (.int)) 2 := ⟨tb2 79 rfl rfl, tb1 5 rfl rfl, by decide, by decide, by decide +kernel, by decide⟩
theorem mi_X5_tokenOf : Cond.instanceMethod yX5_tokenOf ∈ TBL := tb2 78 rfl rfl
theorem mv_X5_tokenOf : MeV yX5_tokenOf 6 := ⟨by decide, by decide, mi_X5_tokenOf, tb0 (q := (yX5_tokenOf, 8)) (by decide +kernel) rfl, TX5, 8, rfl⟩
theorem ml_X5_93 : Cond.methodLink RX5 93 yX5_tokenOf ∈ TBL := tb2 76 rfl rfl
theorem me_X5_wordToken : MeR yX5_wordToken cX5_wordToken 3 (some (.int)) 2 := ⟨tb2 83 rfl rfl, tb1 5 rfl rfl, by decide, by decide, by decide +kernel, by decide⟩
theorem mi_X5_wordToken : Cond.instanceMethod yX5_wordToken ∈ TBL := tb2 82 rfl rfl
theorem mv_X5_wordToken : MeV yX5_wordToken 6 := ⟨by decide, by decide, mi_X5_wordToken, tb0 (q := (yX5_wordToken, 8)) (by decide +kernel) rfl, TX5, 8, rfl⟩
theorem ml_X5_97 : Cond.methodLink RX5 97 yX5_wordToken ∈ TBL := tb2 80 rfl rfl
theorem me_X5_numberToken : MeR yX5_numberToken cX5_numberToken 5 (some (.int)) 2 := ⟨tb2 103 rfl rfl, tb1 5 rfl rfl, by decide, by decide, by decide +kernel, by decide⟩
theorem mi_X5_numberToken : Cond.instanceMethod yX5_numberToken ∈ TBL := tb2 102 rfl rfl
theorem mv_X5_numberToken : MeV yX5_numberToken 6 := ⟨by decide, by decide, mi_X5_numberToken, tb0 (q := (yX5_numberToken, 8)) (by decide +kernel) rfl, TX5, 8, rfl⟩
theorem ml_X5_100 : Cond.methodLink RX5 100 yX5_numberToken ∈ TBL := tb2 100 rfl rfl
theorem me_X5_signToken : MeR yX5_signToken cX5_signToken 1 (some (.int)) 1 := ⟨tb2 106 rfl rfl, tb1 5 rfl rfl, by decide, by decide, by decide +kernel, by decide⟩
theorem ms_X5_signToken : Cond.static yX5_signToken ∈ TBL := tb2 105 rfl rfl
theorem ml_X5_103 : Cond.methodLink RX5 103 yX5_signToken ∈ TBL := tb2 104 rfl rfl
theorem me_X5_isWord : MeR yX5_isWord cX5_isWord 5 (some (.boolean)) 3 := ⟨tb2 88 rfl rfl, tb1 5 rfl rfl, by decide, by decide, by decide +kernel, by decide⟩
theorem mi_X5_isWord : Cond.instanceMethod yX5_isWord ∈ TBL := tb2 87 rfl rfl
theorem mv_X5_isWord : MeV yX5_isWord 6 := ⟨by decide, by decide, mi_X5_isWord, tb0 (q := (yX5_isWord, 8)) (by decide +kernel) rfl, TX5, 8, rfl⟩
theorem ml_X5_108 : Cond.methodLink RX5 108 yX5_isWord ∈ TBL := tb2 85 rfl rfl
theorem ml_X5_130 : Cond.methodLink RX5 130 yJ0_length_8abf5 ∈ TBL := tb2 89 rfl rfl
theorem ml_X5_136 : Cond.methodLink RX5 136 yJ0_charAt_5068e ∈ TBL := tb2 90 rfl rfl
theorem ml_X5_140 : (RX5, 140, yX11_within, "TrampOffice") ∈ nstL := by decide +kernel
theorem ml_X6_20 : (RX6, 20, yX4_init, "TrampOffice") ∈ nstL := by decide +kernel
theorem me_X6_extend : MeR yX6_extend cX6_extend 13 none 6 := ⟨tb3 196 rfl rfl, tb1 3 rfl rfl, by decide, by decide, by decide +kernel, by decide⟩
theorem mi_X6_extend : Cond.instanceMethod yX6_extend ∈ TBL := tb3 195 rfl rfl
theorem mv_X6_extend : MeV yX6_extend 7 := ⟨by decide, by decide, mi_X6_extend, tb0 (q := (yX6_extend, 8)) (by decide +kernel) rfl, TX6, 8, rfl⟩
theorem ml_X6_57 : Cond.methodLink RX6 57 yX6_extend ∈ TBL := tb3 193 rfl rfl
theorem me_X6_isTried : MeR yX6_isTried cX6_isTried 4 (some (.boolean)) 2 := ⟨tb3 200 rfl rfl, tb1 3 rfl rfl, by decide, by decide, by decide +kernel, by decide⟩
theorem mi_X6_isTried : Cond.instanceMethod yX6_isTried ∈ TBL := tb3 199 rfl rfl
theorem mv_X6_isTried : MeV yX6_isTried 7 := ⟨by decide, by decide, mi_X6_isTried, tb0 (q := (yX6_isTried, 8)) (by decide +kernel) rfl, TX6, 8, rfl⟩
theorem ml_X6_61 : Cond.methodLink RX6 61 yX6_isTried ∈ TBL := tb3 197 rfl rfl
theorem ml_X6_65 : Cond.methodLink RX6 65 yX4_reckon ∈ TBL := tb3 201 rfl rfl
theorem me_X6_keepIfBetter : MeR yX6_keepIfBetter cX6_keepIfBetter 7 none 3 := ⟨tb3 205 rfl rfl, tb1 3 rfl rfl, by decide, by decide, by decide +kernel, by decide⟩
theorem mi_X6_keepIfBetter : Cond.instanceMethod yX6_keepIfBetter ∈ TBL := tb3 204 rfl rfl
theorem mv_X6_keepIfBetter : MeV yX6_keepIfBetter 7 := ⟨by decide, by decide, mi_X6_keepIfBetter, tb0 (q := (yX6_keepIfBetter, 8)) (by decide +kernel) rfl, TX6, 8, rfl⟩
theorem ml_X6_76 : Cond.methodLink RX6 76 yX6_keepIfBetter ∈ TBL := tb3 202 rfl rfl
theorem ml_X7_31 : Cond.methodLink RX7 31 yJ7_fill_53178 ∈ TBL := tb5 25 rfl rfl
theorem ml_X7_37 : Cond.methodLink RX7 37 yX7_has ∈ TBL := tb4 65 rfl rfl
theorem ml_X8_35 : (RX8, 35, yX11_roundedUp, "TrampOffice") ∈ nstL := by decide +kernel
theorem ml_X8_39 : Cond.methodLink RX8 39 yX8_hoursFor ∈ TBL := tb3 152 rfl rfl
theorem ml_X9_25 : Cond.methodLink RX9 25 yX1_loggedHours ∈ TBL := tb4 173 rfl rfl
theorem ml_X9_50 : Cond.methodLink RX9 50 yX8_sortAt ∈ TBL := tb4 180 rfl rfl
theorem me_X9_countHour : MeR yX9_countHour cX9_countHour 2 (some (.int)) 1 := ⟨tb4 184 rfl rfl, tb1 7 rfl rfl, by decide, by decide, by decide +kernel, by decide⟩
theorem mi_X9_countHour : Cond.instanceMethod yX9_countHour ∈ TBL := tb4 183 rfl rfl
theorem mv_X9_countHour : MeV yX9_countHour 10 := ⟨by decide, by decide, mi_X9_countHour, tb0 (q := (yX9_countHour, 7)) (by decide +kernel) rfl, TX9, 7, rfl⟩
theorem ml_X9_63 : Cond.methodLink RX9 63 yX9_countHour ∈ TBL := tb4 181 rfl rfl
theorem me_X9_worth : MeR yX9_worth cX9_worth 6 (some (.int)) 3 := ⟨tb4 188 rfl rfl, tb1 7 rfl rfl, by decide, by decide, by decide +kernel, by decide⟩
theorem mi_X9_worth : Cond.instanceMethod yX9_worth ∈ TBL := tb4 187 rfl rfl
theorem mv_X9_worth : MeV yX9_worth 10 := ⟨by decide, by decide, mi_X9_worth, tb0 (q := (yX9_worth, 7)) (by decide +kernel) rfl, TX9, 7, rfl⟩
theorem ml_X9_72 : Cond.methodLink RX9 72 yX9_worth ∈ TBL := tb4 185 rfl rfl
theorem me_X10_codeAt : MeR yX10_codeAt cX10_codeAt 2 (some (.int)) 1 := ⟨tb4 192 rfl rfl, tb1 6 rfl rfl, by decide, by decide, by decide +kernel, by decide⟩
theorem mi_X10_codeAt : Cond.instanceMethod yX10_codeAt ∈ TBL := tb4 190 rfl rfl
theorem mv_X10_codeAt : MeV yX10_codeAt 11 := ⟨by decide, by decide, mi_X10_codeAt, tb4 191 rfl rfl, TX10, 4, rfl⟩
theorem ml_X9_79 : Cond.methodLink RX9 79 yX10_codeAt ∈ TBL := tb4 189 rfl rfl
theorem me_X9_step : MeR yX9_step cX9_step 3 (some (.int)) 2 := ⟨tb4 196 rfl rfl, tb1 7 rfl rfl, by decide, by decide, by decide +kernel, by decide⟩
theorem mi_X9_step : Cond.instanceMethod yX9_step ∈ TBL := tb4 195 rfl rfl
theorem mv_X9_step : MeV yX9_step 10 := ⟨by decide, by decide, mi_X9_step, tb0 (q := (yX9_step, 7)) (by decide +kernel) rfl, TX9, 7, rfl⟩
theorem ml_X9_82 : Cond.methodLink RX9 82 yX9_step ∈ TBL := tb4 193 rfl rfl
theorem ml_X9_85 : (RX9, 85, yX11_within, "TrampOffice") ∈ nstL := by decide +kernel
theorem me_X9_turn : MeR yX9_turn cX9_turn 4 (some (.int)) 2 := ⟨tb4 200 rfl rfl, tb1 7 rfl rfl, by decide, by decide, by decide +kernel, by decide⟩
theorem mi_X9_turn : Cond.instanceMethod yX9_turn ∈ TBL := tb4 199 rfl rfl
theorem mv_X9_turn : MeV yX9_turn 10 := ⟨by decide, by decide, mi_X9_turn, tb0 (q := (yX9_turn, 7)) (by decide +kernel) rfl, TX9, 7, rfl⟩
theorem ml_X9_89 : Cond.methodLink RX9 89 yX9_turn ∈ TBL := tb4 197 rfl rfl
theorem me_X10_joinsTwo : MeR yX10_joinsTwo cX10_joinsTwo 1 (some (.boolean)) 1 := ⟨tb4 204 rfl rfl, tb1 6 rfl rfl, by decide, by decide, by decide +kernel, by decide⟩
theorem ms_X10_joinsTwo : Cond.static yX10_joinsTwo ∈ TBL := tb4 203 rfl rfl
theorem ml_X9_92 : Cond.methodLink RX9 92 yX10_joinsTwo ∈ TBL := tb4 202 rfl rfl
theorem me_X9_join : MeR yX9_join cX9_join 3 (some (.int)) 2 := ⟨tb4 208 rfl rfl, tb1 7 rfl rfl, by decide, by decide, by decide +kernel, by decide⟩
theorem mi_X9_join : Cond.instanceMethod yX9_join ∈ TBL := tb4 207 rfl rfl
theorem mv_X9_join : MeV yX9_join 10 := ⟨by decide, by decide, mi_X9_join, tb0 (q := (yX9_join, 7)) (by decide +kernel) rfl, TX9, 7, rfl⟩
theorem ml_X9_96 : Cond.methodLink RX9 96 yX9_join ∈ TBL := tb4 205 rfl rfl
theorem me_X9_named : MeR yX9_named cX9_named 2 (some (.int)) 1 := ⟨tb4 215 rfl rfl, tb1 7 rfl rfl, by decide, by decide, by decide +kernel, by decide⟩
theorem mi_X9_named : Cond.instanceMethod yX9_named ∈ TBL := tb4 214 rfl rfl
theorem mv_X9_named : MeV yX9_named 10 := ⟨by decide, by decide, mi_X9_named, tb0 (q := (yX9_named, 7)) (by decide +kernel) rfl, TX9, 7, rfl⟩
theorem ml_X9_99 : Cond.methodLink RX9 99 yX9_named ∈ TBL := tb4 212 rfl rfl
theorem me_X9_joined : MeR yX9_joined cX9_joined 3 (some (.int)) 3 := ⟨tb4 211 rfl rfl, tb1 7 rfl rfl, by decide, by decide, by decide +kernel, by decide⟩
theorem ms_X9_joined : Cond.static yX9_joined ∈ TBL := tb4 210 rfl rfl
theorem ml_X9_102 : Cond.methodLink RX9 102 yX9_joined ∈ TBL := tb4 209 rfl rfl
theorem ml_X10_25 : (RX10, 25, yX11_within, "TrampOffice") ∈ nstL := by decide +kernel
theorem me_X11_init : MeR yX11_init cX11_init 2 none 0 := ⟨tb1 25 rfl rfl, tb1 1 rfl rfl, by decide, by decide, by decide +kernel, by decide⟩
theorem mi_X11_init : Cond.instanceMethod yX11_init ∈ TBL := tb1 24 rfl rfl
theorem ml_L_9 : Cond.methodLink RL 9 yX11_init ∈ TBL := tb1 23 rfl rfl
theorem me_X12_init : MeR yX12_init cX12_init 2 none 0 := ⟨tb5 47 rfl rfl, tb1 13 rfl rfl, by decide, by decide, by decide +kernel, by decide⟩
theorem mi_X12_init : Cond.instanceMethod yX12_init ∈ TBL := tb5 46 rfl rfl
theorem ml_L_12 : Cond.methodLink RL 12 yX12_init ∈ TBL := tb5 45 rfl rfl
theorem me_X11_port : MeR yX11_port cX11_port 3 (some (.int)) 2 := ⟨tb2 220 rfl rfl, tb1 1 rfl rfl, by decide, by decide, by decide +kernel, by decide⟩
theorem mi_X11_port : Cond.instanceMethod yX11_port ∈ TBL := tb2 218 rfl rfl
theorem mv_X11_port : MeV yX11_port 12 := ⟨by decide, by decide, mi_X11_port, tb2 219 rfl rfl, TX11, 19, rfl⟩
theorem ml_L_13 : Cond.methodLink RL 13 yX11_port ∈ TBL := tb2 217 rfl rfl
theorem me_X12_port : MeR yX12_port cX12_port 3 (some (.int)) 2 := ⟨tb6 73 rfl rfl, tb1 13 rfl rfl, by decide, by decide, by decide +kernel, by decide⟩
theorem mi_X12_port : Cond.instanceMethod yX12_port ∈ TBL := tb6 71 rfl rfl
theorem mv_X12_port : MeV yX12_port 13 := ⟨by decide, by decide, mi_X12_port, tb6 72 rfl rfl, TX12, 63, rfl⟩
theorem ml_L_17 : Cond.methodLink RL 17 yX12_port ∈ TBL := tb6 70 rfl rfl
theorem me_X11_way : MeR yX11_way cX11_way 7 (some (.int)) 3 := ⟨tb3 8 rfl rfl, tb1 1 rfl rfl, by decide, by decide, by decide +kernel, by decide⟩
theorem mi_X11_way : Cond.instanceMethod yX11_way ∈ TBL := tb3 6 rfl rfl
theorem mv_X11_way : MeV yX11_way 12 := ⟨by decide, by decide, mi_X11_way, tb3 7 rfl rfl, TX11, 19, rfl⟩
theorem ml_L_18 : Cond.methodLink RL 18 yX11_way ∈ TBL := tb3 5 rfl rfl
theorem me_X12_way : MeR yX12_way cX12_way 5 (some (.int)) 3 := ⟨tb6 80 rfl rfl, tb1 13 rfl rfl, by decide, by decide, by decide +kernel, by decide⟩
theorem mi_X12_way : Cond.instanceMethod yX12_way ∈ TBL := tb6 78 rfl rfl
theorem mv_X12_way : MeV yX12_way 13 := ⟨by decide, by decide, mi_X12_way, tb6 79 rfl rfl, TX12, 63, rfl⟩
theorem ml_L_22 : Cond.methodLink RL 22 yX12_way ∈ TBL := tb6 77 rfl rfl
theorem me_X11_price : MeR yX11_price cX11_price 5 (some (.int)) 2 := ⟨tb3 24 rfl rfl, tb1 1 rfl rfl, by decide, by decide, by decide +kernel, by decide⟩
theorem mi_X11_price : Cond.instanceMethod yX11_price ∈ TBL := tb3 22 rfl rfl
theorem mv_X11_price : MeV yX11_price 12 := ⟨by decide, by decide, mi_X11_price, tb3 23 rfl rfl, TX11, 19, rfl⟩
theorem ml_L_23 : Cond.methodLink RL 23 yX11_price ∈ TBL := tb3 21 rfl rfl
theorem me_X12_price : MeR yX12_price cX12_price 4 (some (.int)) 2 := ⟨tb6 88 rfl rfl, tb1 13 rfl rfl, by decide, by decide, by decide +kernel, by decide⟩
theorem mi_X12_price : Cond.instanceMethod yX12_price ∈ TBL := tb6 86 rfl rfl
theorem mv_X12_price : MeV yX12_price 13 := ⟨by decide, by decide, mi_X12_price, tb6 87 rfl rfl, TX12, 63, rfl⟩
theorem ml_L_26 : Cond.methodLink RL 26 yX12_price ∈ TBL := tb6 85 rfl rfl
theorem me_X11_ship : MeR yX11_ship cX11_ship 6 (some (.int)) 4 := ⟨tb3 28 rfl rfl, tb1 1 rfl rfl, by decide, by decide, by decide +kernel, by decide⟩
theorem mi_X11_ship : Cond.instanceMethod yX11_ship ∈ TBL := tb3 26 rfl rfl
theorem mv_X11_ship : MeV yX11_ship 12 := ⟨by decide, by decide, mi_X11_ship, tb3 27 rfl rfl, TX11, 19, rfl⟩
theorem ml_L_27 : Cond.methodLink RL 27 yX11_ship ∈ TBL := tb3 25 rfl rfl
theorem me_X12_ship : MeR yX12_ship cX12_ship 5 (some (.int)) 4 := ⟨tb6 92 rfl rfl, tb1 13 rfl rfl, by decide, by decide, by decide +kernel, by decide⟩
theorem mi_X12_ship : Cond.instanceMethod yX12_ship ∈ TBL := tb6 90 rfl rfl
theorem mv_X12_ship : MeV yX12_ship 13 := ⟨by decide, by decide, mi_X12_ship, tb6 91 rfl rfl, TX12, 63, rfl⟩
theorem ml_L_31 : Cond.methodLink RL 31 yX12_ship ∈ TBL := tb6 89 rfl rfl
theorem me_X11_speed : MeR yX11_speed cX11_speed 5 (some (.int)) 2 := ⟨tb3 79 rfl rfl, tb1 1 rfl rfl, by decide, by decide, by decide +kernel, by decide⟩
theorem mi_X11_speed : Cond.instanceMethod yX11_speed ∈ TBL := tb3 77 rfl rfl
theorem mv_X11_speed : MeV yX11_speed 12 := ⟨by decide, by decide, mi_X11_speed, tb3 78 rfl rfl, TX11, 19, rfl⟩
theorem ml_L_32 : Cond.methodLink RL 32 yX11_speed ∈ TBL := tb3 76 rfl rfl
theorem me_X12_speed : MeR yX12_speed cX12_speed 4 (some (.int)) 2 := ⟨tb6 96 rfl rfl, tb1 13 rfl rfl, by decide, by decide, by decide +kernel, by decide⟩
theorem mi_X12_speed : Cond.instanceMethod yX12_speed ∈ TBL := tb6 94 rfl rfl
theorem mv_X12_speed : MeV yX12_speed 13 := ⟨by decide, by decide, mi_X12_speed, tb6 95 rfl rfl, TX12, 63, rfl⟩
theorem ml_L_35 : Cond.methodLink RL 35 yX12_speed ∈ TBL := tb6 93 rfl rfl
theorem me_X11_free : MeR yX11_free cX11_free 6 (some (.int)) 3 := ⟨tb3 87 rfl rfl, tb1 1 rfl rfl, by decide, by decide, by decide +kernel, by decide⟩
theorem mi_X11_free : Cond.instanceMethod yX11_free ∈ TBL := tb3 85 rfl rfl
theorem mv_X11_free : MeV yX11_free 12 := ⟨by decide, by decide, mi_X11_free, tb3 86 rfl rfl, TX11, 19, rfl⟩
theorem ml_L_36 : Cond.methodLink RL 36 yX11_free ∈ TBL := tb3 84 rfl rfl
theorem me_X12_free : MeR yX12_free cX12_free 4 (some (.int)) 3 := ⟨tb6 104 rfl rfl, tb1 13 rfl rfl, by decide, by decide, by decide +kernel, by decide⟩
theorem mi_X12_free : Cond.instanceMethod yX12_free ∈ TBL := tb6 102 rfl rfl
theorem mv_X12_free : MeV yX12_free 13 := ⟨by decide, by decide, mi_X12_free, tb6 103 rfl rfl, TX12, 63, rfl⟩
theorem ml_L_39 : Cond.methodLink RL 39 yX12_free ∈ TBL := tb6 101 rfl rfl
theorem me_X11_shipTold : MeR yX11_shipTold cX11_shipTold 4 (some (.int)) 2 := ⟨tb3 94 rfl rfl, tb1 1 rfl rfl, by decide, by decide, by decide +kernel, by decide⟩
theorem mi_X11_shipTold : Cond.instanceMethod yX11_shipTold ∈ TBL := tb3 92 rfl rfl
theorem mv_X11_shipTold : MeV yX11_shipTold 12 := ⟨by decide, by decide, mi_X11_shipTold, tb3 93 rfl rfl, TX11, 19, rfl⟩
theorem ml_L_40 : Cond.methodLink RL 40 yX11_shipTold ∈ TBL := tb3 91 rfl rfl
theorem me_X12_shipTold : MeR yX12_shipTold cX12_shipTold 3 (some (.int)) 2 := ⟨tb6 111 rfl rfl, tb1 13 rfl rfl, by decide, by decide, by decide +kernel, by decide⟩
theorem mi_X12_shipTold : Cond.instanceMethod yX12_shipTold ∈ TBL := tb6 109 rfl rfl
theorem mv_X12_shipTold : MeV yX12_shipTold 13 := ⟨by decide, by decide, mi_X12_shipTold, tb6 110 rfl rfl, TX12, 63, rfl⟩
theorem ml_L_43 : Cond.methodLink RL 43 yX12_shipTold ∈ TBL := tb6 108 rfl rfl
theorem me_X11_offer : MeR yX11_offer cX11_offer 9 (some (.int)) 6 := ⟨tb3 98 rfl rfl, tb1 1 rfl rfl, by decide, by decide, by decide +kernel, by decide⟩
theorem mi_X11_offer : Cond.instanceMethod yX11_offer ∈ TBL := tb3 96 rfl rfl
theorem mv_X11_offer : MeV yX11_offer 12 := ⟨by decide, by decide, mi_X11_offer, tb3 97 rfl rfl, TX11, 19, rfl⟩
theorem ml_L_44 : Cond.methodLink RL 44 yX11_offer ∈ TBL := tb3 95 rfl rfl
theorem me_X12_offer : MeR yX12_offer cX12_offer 8 (some (.int)) 6 := ⟨tb6 115 rfl rfl, tb1 13 rfl rfl, by decide, by decide, by decide +kernel, by decide⟩
theorem mi_X12_offer : Cond.instanceMethod yX12_offer ∈ TBL := tb6 113 rfl rfl
theorem mv_X12_offer : MeV yX12_offer 13 := ⟨by decide, by decide, mi_X12_offer, tb6 114 rfl rfl, TX12, 63, rfl⟩
theorem ml_L_48 : Cond.methodLink RL 48 yX12_offer ∈ TBL := tb6 112 rfl rfl
theorem ml_L_49 : Cond.methodLink RL 49 yX11_why ∈ TBL := tb3 135 rfl rfl
theorem me_X12_why : MeR yX12_why cX12_why 3 (some (.int)) 2 := ⟨tb6 119 rfl rfl, tb1 13 rfl rfl, by decide, by decide, by decide +kernel, by decide⟩
theorem mi_X12_why : Cond.instanceMethod yX12_why ∈ TBL := tb6 117 rfl rfl
theorem mv_X12_why : MeV yX12_why 13 := ⟨by decide, by decide, mi_X12_why, tb6 118 rfl rfl, TX12, 63, rfl⟩
theorem ml_L_52 : Cond.methodLink RL 52 yX12_why ∈ TBL := tb6 116 rfl rfl
theorem me_X11_estimate : MeR yX11_estimate cX11_estimate 4 (some (.long)) 3 := ⟨tb3 179 rfl rfl, tb1 1 rfl rfl, by decide, by decide, by decide +kernel, by decide⟩
theorem mi_X11_estimate : Cond.instanceMethod yX11_estimate ∈ TBL := tb3 177 rfl rfl
theorem mv_X11_estimate : MeV yX11_estimate 12 := ⟨by decide, by decide, mi_X11_estimate, tb3 178 rfl rfl, TX11, 19, rfl⟩
theorem ml_L_53 : Cond.methodLink RL 53 yX11_estimate ∈ TBL := tb3 176 rfl rfl
theorem me_X12_estimate : MeR yX12_estimate cX12_estimate 6 (some (.long)) 3 := ⟨tb6 154 rfl rfl, tb1 13 rfl rfl, by decide, by decide, by decide +kernel, by decide⟩
theorem mi_X12_estimate : Cond.instanceMethod yX12_estimate ∈ TBL := tb6 152 rfl rfl
theorem mv_X12_estimate : MeV yX12_estimate 13 := ⟨by decide, by decide, mi_X12_estimate, tb6 153 rfl rfl, TX12, 63, rfl⟩
theorem ml_L_57 : Cond.methodLink RL 57 yX12_estimate ∈ TBL := tb6 151 rfl rfl
theorem me_X11_best : MeR yX11_best cX11_best 5 (some (.long)) 3 := ⟨tb3 185 rfl rfl, tb1 1 rfl rfl, by decide, by decide, by decide +kernel, by decide⟩
theorem mi_X11_best : Cond.instanceMethod yX11_best ∈ TBL := tb3 183 rfl rfl
theorem mv_X11_best : MeV yX11_best 12 := ⟨by decide, by decide, mi_X11_best, tb3 184 rfl rfl, TX11, 19, rfl⟩
theorem ml_L_58 : Cond.methodLink RL 58 yX11_best ∈ TBL := tb3 182 rfl rfl
theorem me_X12_best : MeR yX12_best cX12_best 4 (some (.long)) 3 := ⟨tb6 167 rfl rfl, tb1 13 rfl rfl, by decide, by decide, by decide +kernel, by decide⟩
theorem mi_X12_best : Cond.instanceMethod yX12_best ∈ TBL := tb6 165 rfl rfl
theorem mv_X12_best : MeV yX12_best 13 := ⟨by decide, by decide, mi_X12_best, tb6 166 rfl rfl, TX12, 63, rfl⟩
theorem ml_L_61 : Cond.methodLink RL 61 yX12_best ∈ TBL := tb6 164 rfl rfl
theorem me_X11_chain : MeR yX11_chain cX11_chain 5 (some (.int)) 3 := ⟨tb3 212 rfl rfl, tb1 1 rfl rfl, by decide, by decide, by decide +kernel, by decide⟩
theorem mi_X11_chain : Cond.instanceMethod yX11_chain ∈ TBL := tb3 210 rfl rfl
theorem mv_X11_chain : MeV yX11_chain 12 := ⟨by decide, by decide, mi_X11_chain, tb3 211 rfl rfl, TX11, 19, rfl⟩
theorem ml_L_62 : Cond.methodLink RL 62 yX11_chain ∈ TBL := tb3 209 rfl rfl
theorem me_X12_chain : MeR yX12_chain cX12_chain 4 (some (.int)) 3 := ⟨tb6 179 rfl rfl, tb1 13 rfl rfl, by decide, by decide, by decide +kernel, by decide⟩
theorem mi_X12_chain : Cond.instanceMethod yX12_chain ∈ TBL := tb6 177 rfl rfl
theorem mv_X12_chain : MeV yX12_chain 13 := ⟨by decide, by decide, mi_X12_chain, tb6 178 rfl rfl, TX12, 63, rfl⟩
theorem ml_L_65 : Cond.methodLink RL 65 yX12_chain ∈ TBL := tb6 176 rfl rfl
theorem me_X11_fix : MeR yX11_fix cX11_fix 5 (some (.int)) 2 := ⟨tb3 220 rfl rfl, tb1 1 rfl rfl, by decide, by decide, by decide +kernel, by decide⟩
theorem mi_X11_fix : Cond.instanceMethod yX11_fix ∈ TBL := tb3 218 rfl rfl
theorem mv_X11_fix : MeV yX11_fix 12 := ⟨by decide, by decide, mi_X11_fix, tb3 219 rfl rfl, TX11, 19, rfl⟩
theorem ml_L_66 : Cond.methodLink RL 66 yX11_fix ∈ TBL := tb3 217 rfl rfl
theorem me_X12_fix : MeR yX12_fix cX12_fix 4 (some (.int)) 2 := ⟨tb6 183 rfl rfl, tb1 13 rfl rfl, by decide, by decide, by decide +kernel, by decide⟩
theorem mi_X12_fix : Cond.instanceMethod yX12_fix ∈ TBL := tb6 181 rfl rfl
theorem mv_X12_fix : MeV yX12_fix 13 := ⟨by decide, by decide, mi_X12_fix, tb6 182 rfl rfl, TX12, 63, rfl⟩
theorem ml_L_69 : Cond.methodLink RL 69 yX12_fix ∈ TBL := tb6 180 rfl rfl
theorem me_X11_go : MeR yX11_go cX11_go 3 (some (.int)) 1 := ⟨tb3 224 rfl rfl, tb1 1 rfl rfl, by decide, by decide, by decide +kernel, by decide⟩
theorem mi_X11_go : Cond.instanceMethod yX11_go ∈ TBL := tb3 222 rfl rfl
theorem mv_X11_go : MeV yX11_go 12 := ⟨by decide, by decide, mi_X11_go, tb3 223 rfl rfl, TX11, 19, rfl⟩
theorem ml_L_70 : Cond.methodLink RL 70 yX11_go ∈ TBL := tb3 221 rfl rfl
theorem me_X12_go : MeR yX12_go cX12_go 2 (some (.int)) 1 := ⟨tb6 187 rfl rfl, tb1 13 rfl rfl, by decide, by decide, by decide +kernel, by decide⟩
theorem mi_X12_go : Cond.instanceMethod yX12_go ∈ TBL := tb6 185 rfl rfl
theorem mv_X12_go : MeV yX12_go 13 := ⟨by decide, by decide, mi_X12_go, tb6 186 rfl rfl, TX12, 63, rfl⟩
theorem ml_L_74 : Cond.methodLink RL 74 yX12_go ∈ TBL := tb6 184 rfl rfl
theorem me_X11_clear : MeR yX11_clear cX11_clear 2 (some (.int)) 0 := ⟨tb3 232 rfl rfl, tb1 1 rfl rfl, by decide, by decide, by decide +kernel, by decide⟩
theorem mi_X11_clear : Cond.instanceMethod yX11_clear ∈ TBL := tb3 230 rfl rfl
theorem mv_X11_clear : MeV yX11_clear 12 := ⟨by decide, by decide, mi_X11_clear, tb3 231 rfl rfl, TX11, 19, rfl⟩
theorem ml_L_75 : Cond.methodLink RL 75 yX11_clear ∈ TBL := tb3 229 rfl rfl
theorem me_X12_clear : MeR yX12_clear cX12_clear 2 (some (.int)) 0 := ⟨tb6 191 rfl rfl, tb1 13 rfl rfl, by decide, by decide, by decide +kernel, by decide⟩
theorem mi_X12_clear : Cond.instanceMethod yX12_clear ∈ TBL := tb6 189 rfl rfl
theorem mv_X12_clear : MeV yX12_clear 13 := ⟨by decide, by decide, mi_X12_clear, tb6 190 rfl rfl, TX12, 63, rfl⟩
theorem ml_L_79 : Cond.methodLink RL 79 yX12_clear ∈ TBL := tb6 188 rfl rfl
theorem me_X11_bunker : MeR yX11_bunker cX11_bunker 3 (some (.int)) 1 := ⟨tb3 236 rfl rfl, tb1 1 rfl rfl, by decide, by decide, by decide +kernel, by decide⟩
theorem mi_X11_bunker : Cond.instanceMethod yX11_bunker ∈ TBL := tb3 234 rfl rfl
theorem mv_X11_bunker : MeV yX11_bunker 12 := ⟨by decide, by decide, mi_X11_bunker, tb3 235 rfl rfl, TX11, 19, rfl⟩
theorem ml_L_80 : Cond.methodLink RL 80 yX11_bunker ∈ TBL := tb3 233 rfl rfl
theorem me_X12_bunker : MeR yX12_bunker cX12_bunker 2 (some (.int)) 1 := ⟨tb6 195 rfl rfl, tb1 13 rfl rfl, by decide, by decide, by decide +kernel, by decide⟩
theorem mi_X12_bunker : Cond.instanceMethod yX12_bunker ∈ TBL := tb6 193 rfl rfl
theorem mv_X12_bunker : MeV yX12_bunker 13 := ⟨by decide, by decide, mi_X12_bunker, tb6 194 rfl rfl, TX12, 63, rfl⟩
theorem ml_L_83 : Cond.methodLink RL 83 yX12_bunker ∈ TBL := tb6 192 rfl rfl
theorem me_X11_bought : MeR yX11_bought cX11_bought 4 (some (.int)) 2 := ⟨tb4 30 rfl rfl, tb1 1 rfl rfl, by decide, by decide, by decide +kernel, by decide⟩
theorem mi_X11_bought : Cond.instanceMethod yX11_bought ∈ TBL := tb4 28 rfl rfl
theorem mv_X11_bought : MeV yX11_bought 12 := ⟨by decide, by decide, mi_X11_bought, tb4 29 rfl rfl, TX11, 19, rfl⟩
theorem ml_L_84 : Cond.methodLink RL 84 yX11_bought ∈ TBL := tb4 27 rfl rfl
theorem me_X12_bought : MeR yX12_bought cX12_bought 7 (some (.int)) 2 := ⟨tb6 207 rfl rfl, tb1 13 rfl rfl, by decide, by decide, by decide +kernel, by decide⟩
theorem mi_X12_bought : Cond.instanceMethod yX12_bought ∈ TBL := tb6 205 rfl rfl
theorem mv_X12_bought : MeV yX12_bought 13 := ⟨by decide, by decide, mi_X12_bought, tb6 206 rfl rfl, TX12, 63, rfl⟩
theorem ml_L_87 : Cond.methodLink RL 87 yX12_bought ∈ TBL := tb6 204 rfl rfl
theorem me_X11_log : MeR yX11_log cX11_log 6 (some (.int)) 3 := ⟨tb4 38 rfl rfl, tb1 1 rfl rfl, by decide, by decide, by decide +kernel, by decide⟩
theorem mi_X11_log : Cond.instanceMethod yX11_log ∈ TBL := tb4 36 rfl rfl
theorem mv_X11_log : MeV yX11_log 12 := ⟨by decide, by decide, mi_X11_log, tb4 37 rfl rfl, TX11, 19, rfl⟩
theorem ml_L_88 : Cond.methodLink RL 88 yX11_log ∈ TBL := tb4 35 rfl rfl
theorem me_X12_log : MeR yX12_log cX12_log 5 (some (.int)) 3 := ⟨tb6 211 rfl rfl, tb1 13 rfl rfl, by decide, by decide, by decide +kernel, by decide⟩
theorem mi_X12_log : Cond.instanceMethod yX12_log ∈ TBL := tb6 209 rfl rfl
theorem mv_X12_log : MeV yX12_log 13 := ⟨by decide, by decide, mi_X12_log, tb6 210 rfl rfl, TX12, 63, rfl⟩
theorem ml_L_91 : Cond.methodLink RL 91 yX12_log ∈ TBL := tb6 208 rfl rfl
theorem me_X11_lay : MeR yX11_lay cX11_lay 10 (some (.int)) 5 := ⟨tb4 49 rfl rfl, tb1 1 rfl rfl, by decide, by decide, by decide +kernel, by decide⟩
theorem mi_X11_lay : Cond.instanceMethod yX11_lay ∈ TBL := tb4 47 rfl rfl
theorem mv_X11_lay : MeV yX11_lay 12 := ⟨by decide, by decide, mi_X11_lay, tb4 48 rfl rfl, TX11, 19, rfl⟩
theorem ml_L_92 : Cond.methodLink RL 92 yX11_lay ∈ TBL := tb4 46 rfl rfl
theorem me_X12_lay : MeR yX12_lay cX12_lay 9 (some (.int)) 5 := ⟨tb6 218 rfl rfl, tb1 13 rfl rfl, by decide, by decide, by decide +kernel, by decide⟩
theorem mi_X12_lay : Cond.instanceMethod yX12_lay ∈ TBL := tb6 216 rfl rfl
theorem mv_X12_lay : MeV yX12_lay 13 := ⟨by decide, by decide, mi_X12_lay, tb6 217 rfl rfl, TX12, 63, rfl⟩
theorem ml_L_96 : Cond.methodLink RL 96 yX12_lay ∈ TBL := tb6 215 rfl rfl
theorem me_X11_right : MeR yX11_right cX11_right 6 (some (.int)) 3 := ⟨tb4 69 rfl rfl, tb1 1 rfl rfl, by decide, by decide, by decide +kernel, by decide⟩
theorem mi_X11_right : Cond.instanceMethod yX11_right ∈ TBL := tb4 67 rfl rfl
theorem mv_X11_right : MeV yX11_right 12 := ⟨by decide, by decide, mi_X11_right, tb4 68 rfl rfl, TX11, 19, rfl⟩
theorem ml_L_97 : Cond.methodLink RL 97 yX11_right ∈ TBL := tb4 66 rfl rfl
theorem me_X12_right : MeR yX12_right cX12_right 5 (some (.int)) 3 := ⟨tb6 225 rfl rfl, tb1 13 rfl rfl, by decide, by decide, by decide +kernel, by decide⟩
theorem mi_X12_right : Cond.instanceMethod yX12_right ∈ TBL := tb6 223 rfl rfl
theorem mv_X12_right : MeV yX12_right 13 := ⟨by decide, by decide, mi_X12_right, tb6 224 rfl rfl, TX12, 63, rfl⟩
theorem ml_L_100 : Cond.methodLink RL 100 yX12_right ∈ TBL := tb6 222 rfl rfl
theorem me_X11_sort : MeR yX11_sort cX11_sort 4 (some (.int)) 2 := ⟨tb4 81 rfl rfl, tb1 1 rfl rfl, by decide, by decide, by decide +kernel, by decide⟩
theorem mi_X11_sort : Cond.instanceMethod yX11_sort ∈ TBL := tb4 79 rfl rfl
theorem mv_X11_sort : MeV yX11_sort 12 := ⟨by decide, by decide, mi_X11_sort, tb4 80 rfl rfl, TX11, 19, rfl⟩
theorem ml_L_101 : Cond.methodLink RL 101 yX11_sort ∈ TBL := tb4 78 rfl rfl
theorem me_X12_sort : MeR yX12_sort cX12_sort 3 (some (.int)) 2 := ⟨tb6 229 rfl rfl, tb1 13 rfl rfl, by decide, by decide, by decide +kernel, by decide⟩
theorem mi_X12_sort : Cond.instanceMethod yX12_sort ∈ TBL := tb6 227 rfl rfl
theorem mv_X12_sort : MeV yX12_sort 13 := ⟨by decide, by decide, mi_X12_sort, tb6 228 rfl rfl, TX12, 63, rfl⟩
theorem ml_L_104 : Cond.methodLink RL 104 yX12_sort ∈ TBL := tb6 226 rfl rfl
theorem me_X11_feed : MeR yX11_feed cX11_feed 5 (some (.int)) 2 := ⟨tb4 85 rfl rfl, tb1 1 rfl rfl, by decide, by decide, by decide +kernel, by decide⟩
theorem mi_X11_feed : Cond.instanceMethod yX11_feed ∈ TBL := tb4 83 rfl rfl
theorem mv_X11_feed : MeV yX11_feed 12 := ⟨by decide, by decide, mi_X11_feed, tb4 84 rfl rfl, TX11, 19, rfl⟩
theorem ml_L_107 : Cond.methodLink RL 107 yX11_feed ∈ TBL := tb4 82 rfl rfl
theorem me_X12_feed : MeR yX12_feed cX12_feed 5 (some (.int)) 2 := ⟨tb6 233 rfl rfl, tb1 13 rfl rfl, by decide, by decide, by decide +kernel, by decide⟩
theorem mi_X12_feed : Cond.instanceMethod yX12_feed ∈ TBL := tb6 231 rfl rfl
theorem mv_X12_feed : MeV yX12_feed 13 := ⟨by decide, by decide, mi_X12_feed, tb6 232 rfl rfl, TX12, 63, rfl⟩
theorem ml_L_111 : Cond.methodLink RL 111 yX12_feed ∈ TBL := tb6 230 rfl rfl
theorem ml_L_112 : Cond.methodLink RL 112 yX11_text ∈ TBL := tb4 86 rfl rfl
theorem me_X12_text : MeR yX12_text cX12_text 1 (some (.int)) 0 := ⟨tb6 238 rfl rfl, tb1 13 rfl rfl, by decide, by decide, by decide +kernel, by decide⟩
theorem mi_X12_text : Cond.instanceMethod yX12_text ∈ TBL := tb6 236 rfl rfl
theorem mv_X12_text : MeV yX12_text 13 := ⟨by decide, by decide, mi_X12_text, tb6 237 rfl rfl, TX12, 63, rfl⟩
theorem ml_L_115 : Cond.methodLink RL 115 yX12_text ∈ TBL := tb6 235 rfl rfl
theorem me_X11_charter : MeR yX11_charter cX11_charter 10 (some (.int)) 6 := ⟨tb4 90 rfl rfl, tb1 1 rfl rfl, by decide, by decide, by decide +kernel, by decide⟩
theorem mi_X11_charter : Cond.instanceMethod yX11_charter ∈ TBL := tb4 88 rfl rfl
theorem mv_X11_charter : MeV yX11_charter 12 := ⟨by decide, by decide, mi_X11_charter, tb4 89 rfl rfl, TX11, 19, rfl⟩
theorem ml_L_116 : Cond.methodLink RL 116 yX11_charter ∈ TBL := tb4 87 rfl rfl
theorem me_X12_charter : MeR yX12_charter cX12_charter 10 (some (.int)) 6 := ⟨tb7 2 rfl rfl, tb1 13 rfl rfl, by decide, by decide, by decide +kernel, by decide⟩
theorem mi_X12_charter : Cond.instanceMethod yX12_charter ∈ TBL := tb7 0 rfl rfl
theorem mv_X12_charter : MeV yX12_charter 13 := ⟨by decide, by decide, mi_X12_charter, tb7 1 rfl rfl, TX12, 63, rfl⟩
theorem ml_L_120 : Cond.methodLink RL 120 yX12_charter ∈ TBL := tb6 239 rfl rfl
theorem me_X11_lift : MeR yX11_lift cX11_lift 4 (some (.int)) 2 := ⟨tb4 160 rfl rfl, tb1 1 rfl rfl, by decide, by decide, by decide +kernel, by decide⟩
theorem mi_X11_lift : Cond.instanceMethod yX11_lift ∈ TBL := tb4 158 rfl rfl
theorem mv_X11_lift : MeV yX11_lift 12 := ⟨by decide, by decide, mi_X11_lift, tb4 159 rfl rfl, TX11, 19, rfl⟩
theorem ml_L_121 : Cond.methodLink RL 121 yX11_lift ∈ TBL := tb4 157 rfl rfl
theorem me_X12_lift : MeR yX12_lift cX12_lift 3 (some (.int)) 2 := ⟨tb7 13 rfl rfl, tb1 13 rfl rfl, by decide, by decide, by decide +kernel, by decide⟩
theorem mi_X12_lift : Cond.instanceMethod yX12_lift ∈ TBL := tb7 11 rfl rfl
theorem mv_X12_lift : MeV yX12_lift 13 := ⟨by decide, by decide, mi_X12_lift, tb7 12 rfl rfl, TX12, 63, rfl⟩
theorem ml_L_125 : Cond.methodLink RL 125 yX12_lift ∈ TBL := tb7 10 rfl rfl
theorem me_X11_charterTold : MeR yX11_charterTold cX11_charterTold 4 (some (.int)) 2 := ⟨tb4 164 rfl rfl, tb1 1 rfl rfl, by decide, by decide, by decide +kernel, by decide⟩
theorem mi_X11_charterTold : Cond.instanceMethod yX11_charterTold ∈ TBL := tb4 162 rfl rfl
theorem mv_X11_charterTold : MeV yX11_charterTold 12 := ⟨by decide, by decide, mi_X11_charterTold, tb4 163 rfl rfl, TX11, 19, rfl⟩
theorem ml_L_126 : Cond.methodLink RL 126 yX11_charterTold ∈ TBL := tb4 161 rfl rfl
theorem me_X12_charterTold : MeR yX12_charterTold cX12_charterTold 4 (some (.int)) 2 := ⟨tb7 21 rfl rfl, tb1 13 rfl rfl, by decide, by decide, by decide +kernel, by decide⟩
theorem mi_X12_charterTold : Cond.instanceMethod yX12_charterTold ∈ TBL := tb7 19 rfl rfl
theorem mv_X12_charterTold : MeV yX12_charterTold 13 := ⟨by decide, by decide, mi_X12_charterTold, tb7 20 rfl rfl, TX12, 63, rfl⟩
theorem ml_L_129 : Cond.methodLink RL 129 yX12_charterTold ∈ TBL := tb7 18 rfl rfl
theorem me_X11_pays : MeR yX11_pays cX11_pays 3 (some (.long)) 1 := ⟨tb4 219 rfl rfl, tb1 1 rfl rfl, by decide, by decide, by decide +kernel, by decide⟩
theorem mi_X11_pays : Cond.instanceMethod yX11_pays ∈ TBL := tb4 217 rfl rfl
theorem mv_X11_pays : MeV yX11_pays 12 := ⟨by decide, by decide, mi_X11_pays, tb4 218 rfl rfl, TX11, 19, rfl⟩
theorem ml_L_130 : Cond.methodLink RL 130 yX11_pays ∈ TBL := tb4 216 rfl rfl
theorem me_X12_pays : MeR yX12_pays cX12_pays 5 (some (.long)) 1 := ⟨tb7 40 rfl rfl, tb1 13 rfl rfl, by decide, by decide, by decide +kernel, by decide⟩
theorem mi_X12_pays : Cond.instanceMethod yX12_pays ∈ TBL := tb7 38 rfl rfl
theorem mv_X12_pays : MeV yX12_pays 13 := ⟨by decide, by decide, mi_X12_pays, tb7 39 rfl rfl, TX12, 63, rfl⟩
theorem ml_L_134 : Cond.methodLink RL 134 yX12_pays ∈ TBL := tb7 37 rfl rfl
theorem me_X11_counts : MeR yX11_counts cX11_counts 4 (some (.int)) 2 := ⟨tb4 236 rfl rfl, tb1 1 rfl rfl, by decide, by decide, by decide +kernel, by decide⟩
theorem mi_X11_counts : Cond.instanceMethod yX11_counts ∈ TBL := tb4 234 rfl rfl
theorem mv_X11_counts : MeV yX11_counts 12 := ⟨by decide, by decide, mi_X11_counts, tb4 235 rfl rfl, TX11, 19, rfl⟩
theorem ml_L_135 : Cond.methodLink RL 135 yX11_counts ∈ TBL := tb4 233 rfl rfl
theorem me_X12_counts : MeR yX12_counts cX12_counts 3 (some (.int)) 2 := ⟨tb7 49 rfl rfl, tb1 13 rfl rfl, by decide, by decide, by decide +kernel, by decide⟩
theorem mi_X12_counts : Cond.instanceMethod yX12_counts ∈ TBL := tb7 47 rfl rfl
theorem mv_X12_counts : MeV yX12_counts 13 := ⟨by decide, by decide, mi_X12_counts, tb7 48 rfl rfl, TX12, 63, rfl⟩
theorem ml_L_138 : Cond.methodLink RL 138 yX12_counts ∈ TBL := tb7 46 rfl rfl
theorem me_X11_account : MeR yX11_account cX11_account 6 (some (.int)) 2 := ⟨tb5 5 rfl rfl, tb1 1 rfl rfl, by decide, by decide, by decide +kernel, by decide⟩
theorem mi_X11_account : Cond.instanceMethod yX11_account ∈ TBL := tb5 3 rfl rfl
theorem mv_X11_account : MeV yX11_account 12 := ⟨by decide, by decide, mi_X11_account, tb5 4 rfl rfl, TX11, 19, rfl⟩
theorem ml_L_139 : Cond.methodLink RL 139 yX11_account ∈ TBL := tb5 2 rfl rfl
theorem me_X12_account : MeR yX12_account cX12_account 3 (some (.int)) 2 := ⟨tb7 53 rfl rfl, tb1 13 rfl rfl, by decide, by decide, by decide +kernel, by decide⟩
theorem mi_X12_account : Cond.instanceMethod yX12_account ∈ TBL := tb7 51 rfl rfl
theorem mv_X12_account : MeV yX12_account 13 := ⟨by decide, by decide, mi_X12_account, tb7 52 rfl rfl, TX12, 63, rfl⟩
theorem ml_L_142 : Cond.methodLink RL 142 yX12_account ∈ TBL := tb7 50 rfl rfl
theorem me_X11_owners : MeR yX11_owners cX11_owners 6 (some (.int)) 1 := ⟨tb5 9 rfl rfl, tb1 1 rfl rfl, by decide, by decide, by decide +kernel, by decide⟩
theorem mi_X11_owners : Cond.instanceMethod yX11_owners ∈ TBL := tb5 7 rfl rfl
theorem mv_X11_owners : MeV yX11_owners 12 := ⟨by decide, by decide, mi_X11_owners, tb5 8 rfl rfl, TX11, 19, rfl⟩
theorem ml_L_143 : Cond.methodLink RL 143 yX11_owners ∈ TBL := tb5 6 rfl rfl
theorem me_X12_owners : MeR yX12_owners cX12_owners 4 (some (.int)) 1 := ⟨tb7 61 rfl rfl, tb1 13 rfl rfl, by decide, by decide, by decide +kernel, by decide⟩
theorem mi_X12_owners : Cond.instanceMethod yX12_owners ∈ TBL := tb7 59 rfl rfl
theorem mv_X12_owners : MeV yX12_owners 13 := ⟨by decide, by decide, mi_X12_owners, tb7 60 rfl rfl, TX12, 63, rfl⟩
theorem ml_L_146 : Cond.methodLink RL 146 yX12_owners ∈ TBL := tb7 58 rfl rfl
theorem me_X11_count : MeR yX11_count cX11_count 2 (some (.int)) 1 := ⟨tb5 14 rfl rfl, tb1 1 rfl rfl, by decide, by decide, by decide +kernel, by decide⟩
theorem mi_X11_count : Cond.instanceMethod yX11_count ∈ TBL := tb5 12 rfl rfl
theorem mv_X11_count : MeV yX11_count 12 := ⟨by decide, by decide, mi_X11_count, tb5 13 rfl rfl, TX11, 19, rfl⟩
theorem ml_L_147 : Cond.methodLink RL 147 yX11_count ∈ TBL := tb5 11 rfl rfl
theorem me_X12_count : MeR yX12_count cX12_count 2 (some (.int)) 1 := ⟨tb7 65 rfl rfl, tb1 13 rfl rfl, by decide, by decide, by decide +kernel, by decide⟩
theorem mi_X12_count : Cond.instanceMethod yX12_count ∈ TBL := tb7 63 rfl rfl
theorem mv_X12_count : MeV yX12_count 13 := ⟨by decide, by decide, mi_X12_count, tb7 64 rfl rfl, TX12, 63, rfl⟩
theorem ml_L_150 : Cond.methodLink RL 150 yX12_count ∈ TBL := tb7 62 rfl rfl
theorem me_X11_sheet : MeR yX11_sheet cX11_sheet 5 (some (.int)) 3 := ⟨tb5 18 rfl rfl, tb1 1 rfl rfl, by decide, by decide, by decide +kernel, by decide⟩
theorem mi_X11_sheet : Cond.instanceMethod yX11_sheet ∈ TBL := tb5 16 rfl rfl
theorem mv_X11_sheet : MeV yX11_sheet 12 := ⟨by decide, by decide, mi_X11_sheet, tb5 17 rfl rfl, TX11, 19, rfl⟩
theorem ml_L_151 : Cond.methodLink RL 151 yX11_sheet ∈ TBL := tb5 15 rfl rfl
theorem me_X12_sheet : MeR yX12_sheet cX12_sheet 5 (some (.int)) 3 := ⟨tb7 69 rfl rfl, tb1 13 rfl rfl, by decide, by decide, by decide +kernel, by decide⟩
theorem mi_X12_sheet : Cond.instanceMethod yX12_sheet ∈ TBL := tb7 67 rfl rfl
theorem mv_X12_sheet : MeV yX12_sheet 13 := ⟨by decide, by decide, mi_X12_sheet, tb7 68 rfl rfl, TX12, 63, rfl⟩
theorem ml_L_154 : Cond.methodLink RL 154 yX12_sheet ∈ TBL := tb7 66 rfl rfl
theorem me_X11_cell : MeR yX11_cell cX11_cell 5 (some (.int)) 3 := ⟨tb5 29 rfl rfl, tb1 1 rfl rfl, by decide, by decide, by decide +kernel, by decide⟩
theorem mi_X11_cell : Cond.instanceMethod yX11_cell ∈ TBL := tb5 27 rfl rfl
theorem mv_X11_cell : MeV yX11_cell 12 := ⟨by decide, by decide, mi_X11_cell, tb5 28 rfl rfl, TX11, 19, rfl⟩
theorem ml_L_155 : Cond.methodLink RL 155 yX11_cell ∈ TBL := tb5 26 rfl rfl
theorem me_X12_cell : MeR yX12_cell cX12_cell 4 (some (.int)) 3 := ⟨tb7 73 rfl rfl, tb1 13 rfl rfl, by decide, by decide, by decide +kernel, by decide⟩
theorem mi_X12_cell : Cond.instanceMethod yX12_cell ∈ TBL := tb7 71 rfl rfl
theorem mv_X12_cell : MeV yX12_cell 13 := ⟨by decide, by decide, mi_X12_cell, tb7 72 rfl rfl, TX12, 63, rfl⟩
theorem ml_L_158 : Cond.methodLink RL 158 yX12_cell ∈ TBL := tb7 70 rfl rfl
theorem me_X11_taken : MeR yX11_taken cX11_taken 4 (some (.int)) 2 := ⟨tb5 37 rfl rfl, tb1 1 rfl rfl, by decide, by decide, by decide +kernel, by decide⟩
theorem mi_X11_taken : Cond.instanceMethod yX11_taken ∈ TBL := tb5 35 rfl rfl
theorem mv_X11_taken : MeV yX11_taken 12 := ⟨by decide, by decide, mi_X11_taken, tb5 36 rfl rfl, TX11, 19, rfl⟩
theorem ml_L_159 : Cond.methodLink RL 159 yX11_taken ∈ TBL := tb5 34 rfl rfl
theorem me_X12_taken : MeR yX12_taken cX12_taken 3 (some (.int)) 2 := ⟨tb7 77 rfl rfl, tb1 13 rfl rfl, by decide, by decide, by decide +kernel, by decide⟩
theorem mi_X12_taken : Cond.instanceMethod yX12_taken ∈ TBL := tb7 75 rfl rfl
theorem mv_X12_taken : MeV yX12_taken 13 := ⟨by decide, by decide, mi_X12_taken, tb7 76 rfl rfl, TX12, 63, rfl⟩
theorem ml_L_162 : Cond.methodLink RL 162 yX12_taken ∈ TBL := tb7 74 rfl rfl
theorem me_X12_reads : MeR yX12_reads cX12_reads 3 none 1 := ⟨tb5 52 rfl rfl, tb1 13 rfl rfl, by decide, by decide, by decide +kernel, by decide⟩
theorem mi_X12_reads : Cond.instanceMethod yX12_reads ∈ TBL := tb5 51 rfl rfl
theorem mv_X12_reads : MeV yX12_reads 13 := ⟨by decide, by decide, mi_X12_reads, tb0 (q := (yX12_reads, 63)) (by decide +kernel) rfl, TX12, 63, rfl⟩
theorem ml_X12_139 : Cond.methodLink RX12 139 yX12_reads ∈ TBL := tb5 49 rfl rfl
theorem me_X12_in : MeR yX12_in cX12_in 3 (some (.boolean)) 3 := ⟨tb6 76 rfl rfl, tb1 13 rfl rfl, by decide, by decide, by decide +kernel, by decide⟩
theorem ms_X12_in : Cond.static yX12_in ∈ TBL := tb6 75 rfl rfl
theorem ml_X12_149 : Cond.methodLink RX12 149 yX12_in ∈ TBL := tb6 74 rfl rfl
theorem me_X12_isPort : MeR yX12_isPort cX12_isPort 2 (some (.boolean)) 1 := ⟨tb6 84 rfl rfl, tb1 13 rfl rfl, by decide, by decide, by decide +kernel, by decide⟩
theorem mi_X12_isPort : Cond.instanceMethod yX12_isPort ∈ TBL := tb6 83 rfl rfl
theorem mv_X12_isPort : MeV yX12_isPort 13 := ⟨by decide, by decide, mi_X12_isPort, tb0 (q := (yX12_isPort, 63)) (by decide +kernel) rfl, TX12, 63, rfl⟩
theorem ml_X12_159 : Cond.methodLink RX12 159 yX12_isPort ∈ TBL := tb6 81 rfl rfl
theorem me_X12_isShip : MeR yX12_isShip cX12_isShip 2 (some (.boolean)) 1 := ⟨tb6 100 rfl rfl, tb1 13 rfl rfl, by decide, by decide, by decide +kernel, by decide⟩
theorem mi_X12_isShip : Cond.instanceMethod yX12_isShip ∈ TBL := tb6 99 rfl rfl
theorem mv_X12_isShip : MeV yX12_isShip 13 := ⟨by decide, by decide, mi_X12_isShip, tb0 (q := (yX12_isShip, 63)) (by decide +kernel) rfl, TX12, 63, rfl⟩
theorem ml_X12_163 : Cond.methodLink RX12 163 yX12_isShip ∈ TBL := tb6 97 rfl rfl
theorem me_X12_isHour : MeR yX12_isHour cX12_isHour 1 (some (.boolean)) 1 := ⟨tb6 107 rfl rfl, tb1 13 rfl rfl, by decide, by decide, by decide +kernel, by decide⟩
theorem ms_X12_isHour : Cond.static yX12_isHour ∈ TBL := tb6 106 rfl rfl
theorem ml_X12_166 : Cond.methodLink RX12 166 yX12_isHour ∈ TBL := tb6 105 rfl rfl
theorem me_X12_up : MeR yX12_up cX12_up 2 (some (.int)) 2 := ⟨tb6 142 rfl rfl, tb1 13 rfl rfl, by decide, by decide, by decide +kernel, by decide⟩
theorem ms_X12_up : Cond.static yX12_up ∈ TBL := tb6 141 rfl rfl
theorem ml_X12_169 : Cond.methodLink RX12 169 yX12_up ∈ TBL := tb6 140 rfl rfl
theorem me_X12_hours : MeR yX12_hours cX12_hours 4 (some (.int)) 3 := ⟨tb6 139 rfl rfl, tb1 13 rfl rfl, by decide, by decide, by decide +kernel, by decide⟩
theorem mi_X12_hours : Cond.instanceMethod yX12_hours ∈ TBL := tb6 138 rfl rfl
theorem mv_X12_hours : MeV yX12_hours 13 := ⟨by decide, by decide, mi_X12_hours, tb0 (q := (yX12_hours, 63)) (by decide +kernel) rfl, TX12, 63, rfl⟩
theorem ml_X12_173 : Cond.methodLink RX12 173 yX12_hours ∈ TBL := tb6 136 rfl rfl
theorem me_X12_begins : MeR yX12_begins cX12_begins 6 (some (.int)) 4 := ⟨tb6 135 rfl rfl, tb1 13 rfl rfl, by decide, by decide, by decide +kernel, by decide⟩
theorem mi_X12_begins : Cond.instanceMethod yX12_begins ∈ TBL := tb6 134 rfl rfl
theorem mv_X12_begins : MeV yX12_begins 13 := ⟨by decide, by decide, mi_X12_begins, tb0 (q := (yX12_begins, 63)) (by decide +kernel) rfl, TX12, 63, rfl⟩
theorem ml_X12_177 : Cond.methodLink RX12 177 yX12_begins ∈ TBL := tb6 132 rfl rfl
theorem me_X12_burns : MeR yX12_burns cX12_burns 5 (some (.int)) 3 := ⟨tb6 146 rfl rfl, tb1 13 rfl rfl, by decide, by decide, by decide +kernel, by decide⟩
theorem mi_X12_burns : Cond.instanceMethod yX12_burns ∈ TBL := tb6 145 rfl rfl
theorem mv_X12_burns : MeV yX12_burns 13 := ⟨by decide, by decide, mi_X12_burns, tb0 (q := (yX12_burns, 63)) (by decide +kernel) rfl, TX12, 63, rfl⟩
theorem ml_X12_181 : Cond.methodLink RX12 181 yX12_burns ∈ TBL := tb6 143 rfl rfl
theorem me_X12_lacks : MeR yX12_lacks cX12_lacks 3 (some (.boolean)) 2 := ⟨tb6 131 rfl rfl, tb1 13 rfl rfl, by decide, by decide, by decide +kernel, by decide⟩
theorem mi_X12_lacks : Cond.instanceMethod yX12_lacks ∈ TBL := tb6 130 rfl rfl
theorem mv_X12_lacks : MeV yX12_lacks 13 := ⟨by decide, by decide, mi_X12_lacks, tb0 (q := (yX12_lacks, 63)) (by decide +kernel) rfl, TX12, 63, rfl⟩
theorem ml_X12_184 : Cond.methodLink RX12 184 yX12_lacks ∈ TBL := tb6 128 rfl rfl
theorem me_X12_ends : MeR yX12_ends cX12_ends 5 (some (.int)) 4 := ⟨tb6 150 rfl rfl, tb1 13 rfl rfl, by decide, by decide, by decide +kernel, by decide⟩
theorem mi_X12_ends : Cond.instanceMethod yX12_ends ∈ TBL := tb6 149 rfl rfl
theorem mv_X12_ends : MeV yX12_ends 13 := ⟨by decide, by decide, mi_X12_ends, tb0 (q := (yX12_ends, 63)) (by decide +kernel) rfl, TX12, 63, rfl⟩
theorem ml_X12_188 : Cond.methodLink RX12 188 yX12_ends ∈ TBL := tb6 147 rfl rfl
theorem me_X12_isOffer : MeR yX12_isOffer cX12_isOffer 2 (some (.boolean)) 1 := ⟨tb6 123 rfl rfl, tb1 13 rfl rfl, by decide, by decide, by decide +kernel, by decide⟩
theorem mi_X12_isOffer : Cond.instanceMethod yX12_isOffer ∈ TBL := tb6 122 rfl rfl
theorem mv_X12_isOffer : MeV yX12_isOffer 13 := ⟨by decide, by decide, mi_X12_isOffer, tb0 (q := (yX12_isOffer, 63)) (by decide +kernel) rfl, TX12, 63, rfl⟩
theorem ml_X12_191 : Cond.methodLink RX12 191 yX12_isOffer ∈ TBL := tb6 120 rfl rfl
theorem me_X12_hinders : MeR yX12_hinders cX12_hinders 7 (some (.int)) 4 := ⟨tb6 127 rfl rfl, tb1 13 rfl rfl, by decide, by decide, by decide +kernel, by decide⟩
theorem mi_X12_hinders : Cond.instanceMethod yX12_hinders ∈ TBL := tb6 126 rfl rfl
theorem mv_X12_hinders : MeV yX12_hinders 13 := ⟨by decide, by decide, mi_X12_hinders, tb0 (q := (yX12_hinders, 63)) (by decide +kernel) rfl, TX12, 63, rfl⟩
theorem ml_X12_194 : Cond.methodLink RX12 194 yX12_hinders ∈ TBL := tb6 124 rfl rfl
theorem me_X12_burnt : MeR yX12_burnt cX12_burnt 4 (some (.int)) 3 := ⟨tb6 159 rfl rfl, tb1 13 rfl rfl, by decide, by decide, by decide +kernel, by decide⟩
theorem mi_X12_burnt : Cond.instanceMethod yX12_burnt ∈ TBL := tb6 158 rfl rfl
theorem mv_X12_burnt : MeV yX12_burnt 13 := ⟨by decide, by decide, mi_X12_burnt, tb0 (q := (yX12_burnt, 63)) (by decide +kernel) rfl, TX12, 63, rfl⟩
theorem ml_X12_199 : Cond.methodLink RX12 199 yX12_burnt ∈ TBL := tb6 156 rfl rfl
theorem me_X12_earns : MeR yX12_earns cX12_earns 4 (some (.long)) 3 := ⟨tb6 163 rfl rfl, tb1 13 rfl rfl, by decide, by decide, by decide +kernel, by decide⟩
theorem mi_X12_earns : Cond.instanceMethod yX12_earns ∈ TBL := tb6 162 rfl rfl
theorem mv_X12_earns : MeV yX12_earns 13 := ⟨by decide, by decide, mi_X12_earns, tb0 (q := (yX12_earns, 63)) (by decide +kernel) rfl, TX12, 63, rfl⟩
theorem ml_X12_202 : Cond.methodLink RX12 202 yX12_earns ∈ TBL := tb6 160 rfl rfl
theorem me_X12_chains : MeR yX12_chains cX12_chains 12 none 6 := ⟨tb6 175 rfl rfl, tb1 13 rfl rfl, by decide, by decide, by decide +kernel, by decide⟩
theorem mi_X12_chains : Cond.instanceMethod yX12_chains ∈ TBL := tb6 174 rfl rfl
theorem mv_X12_chains : MeV yX12_chains 13 := ⟨by decide, by decide, mi_X12_chains, tb0 (q := (yX12_chains, 63)) (by decide +kernel) rfl, TX12, 63, rfl⟩
theorem ml_X12_216 : Cond.methodLink RX12 216 yX12_chains ∈ TBL := tb6 172 rfl rfl
theorem me_X12_seeks : MeR yX12_seeks cX12_seeks 3 none 2 := ⟨tb6 171 rfl rfl, tb1 13 rfl rfl, by decide, by decide, by decide +kernel, by decide⟩
theorem mi_X12_seeks : Cond.instanceMethod yX12_seeks ∈ TBL := tb6 170 rfl rfl
theorem mv_X12_seeks : MeV yX12_seeks 13 := ⟨by decide, by decide, mi_X12_seeks, tb0 (q := (yX12_seeks, 63)) (by decide +kernel) rfl, TX12, 63, rfl⟩
theorem ml_X12_220 : Cond.methodLink RX12 220 yX12_seeks ∈ TBL := tb6 168 rfl rfl
theorem me_X12_behind : MeR yX12_behind cX12_behind 5 (some (.int)) 3 := ⟨tb6 203 rfl rfl, tb1 13 rfl rfl, by decide, by decide, by decide +kernel, by decide⟩
theorem mi_X12_behind : Cond.instanceMethod yX12_behind ∈ TBL := tb6 202 rfl rfl
theorem mv_X12_behind : MeV yX12_behind 13 := ⟨by decide, by decide, mi_X12_behind, tb0 (q := (yX12_behind, 63)) (by decide +kernel) rfl, TX12, 63, rfl⟩
theorem ml_X12_227 : Cond.methodLink RX12 227 yX12_behind ∈ TBL := tb6 200 rfl rfl
theorem me_X12_reckons : MeR yX12_reckons cX12_reckons 9 (some (.boolean)) 1 := ⟨tb6 199 rfl rfl, tb1 13 rfl rfl, by decide, by decide, by decide +kernel, by decide⟩
theorem mi_X12_reckons : Cond.instanceMethod yX12_reckons ∈ TBL := tb6 198 rfl rfl
theorem mv_X12_reckons : MeV yX12_reckons 13 := ⟨by decide, by decide, mi_X12_reckons, tb0 (q := (yX12_reckons, 63)) (by decide +kernel) rfl, TX12, 63, rfl⟩
theorem ml_X12_230 : Cond.methodLink RX12 230 yX12_reckons ∈ TBL := tb6 196 rfl rfl
theorem me_X12_isSort : MeR yX12_isSort cX12_isSort 1 (some (.boolean)) 1 := ⟨tb6 214 rfl rfl, tb1 13 rfl rfl, by decide, by decide, by decide +kernel, by decide⟩
theorem ms_X12_isSort : Cond.static yX12_isSort ∈ TBL := tb6 213 rfl rfl
theorem ml_X12_233 : Cond.methodLink RX12 233 yX12_isSort ∈ TBL := tb6 212 rfl rfl
theorem me_X12_isSheet : MeR yX12_isSheet cX12_isSheet 1 (some (.boolean)) 1 := ⟨tb6 221 rfl rfl, tb1 13 rfl rfl, by decide, by decide, by decide +kernel, by decide⟩
theorem ms_X12_isSheet : Cond.static yX12_isSheet ∈ TBL := tb6 220 rfl rfl
theorem ml_X12_236 : Cond.methodLink RX12 236 yX12_isSheet ∈ TBL := tb6 219 rfl rfl
theorem me_X12_byteAt : MeR yX12_byteAt cX12_byteAt 2 (some (.int)) 1 := ⟨tb5 60 rfl rfl, tb1 13 rfl rfl, by decide, by decide, by decide +kernel, by decide⟩
theorem mi_X12_byteAt : Cond.instanceMethod yX12_byteAt ∈ TBL := tb5 59 rfl rfl
theorem mv_X12_byteAt : MeV yX12_byteAt 13 := ⟨by decide, by decide, mi_X12_byteAt, tb0 (q := (yX12_byteAt, 63)) (by decide +kernel) rfl, TX12, 63, rfl⟩
theorem ml_X12_242 : Cond.methodLink RX12 242 yX12_byteAt ∈ TBL := tb5 57 rfl rfl
theorem me_X12_isLetter : MeR yX12_isLetter cX12_isLetter 1 (some (.boolean)) 1 := ⟨tb5 63 rfl rfl, tb1 13 rfl rfl, by decide, by decide, by decide +kernel, by decide⟩
theorem ms_X12_isLetter : Cond.static yX12_isLetter ∈ TBL := tb5 62 rfl rfl
theorem ml_X12_252 : Cond.methodLink RX12 252 yX12_isLetter ∈ TBL := tb5 61 rfl rfl
theorem me_X12_spelled : MeR yX12_spelled cX12_spelled 5 none 0 := ⟨tb5 67 rfl rfl, tb1 13 rfl rfl, by decide, by decide, by decide +kernel, by decide⟩
theorem mi_X12_spelled : Cond.instanceMethod yX12_spelled ∈ TBL := tb5 66 rfl rfl
theorem mv_X12_spelled : MeV yX12_spelled 13 := ⟨by decide, by decide, mi_X12_spelled, tb0 (q := (yX12_spelled, 63)) (by decide +kernel) rfl, TX12, 63, rfl⟩
theorem ml_X12_255 : Cond.methodLink RX12 255 yX12_spelled ∈ TBL := tb5 64 rfl rfl
theorem me_X12_isDigit : MeR yX12_isDigit cX12_isDigit 1 (some (.boolean)) 1 := ⟨tb5 70 rfl rfl, tb1 13 rfl rfl, by decide, by decide, by decide +kernel, by decide⟩
theorem ms_X12_isDigit : Cond.static yX12_isDigit ∈ TBL := tb5 69 rfl rfl
theorem ml_X12_258 : Cond.methodLink RX12 258 yX12_isDigit ∈ TBL := tb5 68 rfl rfl
theorem me_X12_number : MeR yX12_number cX12_number 1 none 0 := ⟨tb5 74 rfl rfl, tb1 13 rfl rfl, by decide, by decide, by decide +kernel, by decide⟩
theorem mi_X12_number : Cond.instanceMethod yX12_number ∈ TBL := tb5 73 rfl rfl
theorem mv_X12_number : MeV yX12_number 13 := ⟨by decide, by decide, mi_X12_number, tb0 (q := (yX12_number, 63)) (by decide +kernel) rfl, TX12, 63, rfl⟩
theorem ml_X12_261 : Cond.methodLink RX12 261 yX12_number ∈ TBL := tb5 71 rfl rfl
theorem me_X12_isWrong : MeR yX12_isWrong cX12_isWrong 1 (some (.boolean)) 0 := ⟨tb5 82 rfl rfl, tb1 13 rfl rfl, by decide, by decide, by decide +kernel, by decide⟩
theorem mi_X12_isWrong : Cond.instanceMethod yX12_isWrong ∈ TBL := tb5 81 rfl rfl
theorem mv_X12_isWrong : MeV yX12_isWrong 13 := ⟨by decide, by decide, mi_X12_isWrong, tb0 (q := (yX12_isWrong, 63)) (by decide +kernel) rfl, TX12, 63, rfl⟩
theorem ml_X12_270 : Cond.methodLink RX12 270 yX12_isWrong ∈ TBL := tb5 79 rfl rfl
theorem me_X12_cannot : MeR yX12_cannot cX12_cannot 1 none 0 := ⟨tb5 86 rfl rfl, tb1 13 rfl rfl, by decide, by decide, by decide +kernel, by decide⟩
theorem mi_X12_cannot : Cond.instanceMethod yX12_cannot ∈ TBL := tb5 85 rfl rfl
theorem mv_X12_cannot : MeV yX12_cannot 13 := ⟨by decide, by decide, mi_X12_cannot, tb0 (q := (yX12_cannot, 63)) (by decide +kernel) rfl, TX12, 63, rfl⟩
theorem ml_X12_274 : Cond.methodLink RX12 274 yX12_cannot ∈ TBL := tb5 83 rfl rfl
theorem me_X12_next : MeR yX12_next cX12_next 3 none 0 := ⟨tb5 56 rfl rfl, tb1 13 rfl rfl, by decide, by decide, by decide +kernel, by decide⟩
theorem mi_X12_next : Cond.instanceMethod yX12_next ∈ TBL := tb5 55 rfl rfl
theorem mv_X12_next : MeV yX12_next 13 := ⟨by decide, by decide, mi_X12_next, tb0 (q := (yX12_next, 63)) (by decide +kernel) rfl, TX12, 63, rfl⟩
theorem ml_X12_277 : Cond.methodLink RX12 277 yX12_next ∈ TBL := tb5 53 rfl rfl
theorem me_X12_need : MeR yX12_need cX12_need 2 none 1 := ⟨tb5 78 rfl rfl, tb1 13 rfl rfl, by decide, by decide, by decide +kernel, by decide⟩
theorem mi_X12_need : Cond.instanceMethod yX12_need ∈ TBL := tb5 77 rfl rfl
theorem mv_X12_need : MeV yX12_need 13 := ⟨by decide, by decide, mi_X12_need, tb0 (q := (yX12_need, 63)) (by decide +kernel) rfl, TX12, 63, rfl⟩
theorem ml_X12_289 : Cond.methodLink RX12 289 yX12_need ∈ TBL := tb5 75 rfl rfl
theorem me_X12_either : MeR yX12_either cX12_either 1 none 0 := ⟨tb5 90 rfl rfl, tb1 13 rfl rfl, by decide, by decide, by decide +kernel, by decide⟩
theorem mi_X12_either : Cond.instanceMethod yX12_either ∈ TBL := tb5 89 rfl rfl
theorem mv_X12_either : MeV yX12_either 13 := ⟨by decide, by decide, mi_X12_either, tb0 (q := (yX12_either, 63)) (by decide +kernel) rfl, TX12, 63, rfl⟩
theorem ml_X12_292 : Cond.methodLink RX12 292 yX12_either ∈ TBL := tb5 87 rfl rfl
theorem me_X12_both : MeR yX12_both cX12_both 1 none 0 := ⟨tb5 94 rfl rfl, tb1 13 rfl rfl, by decide, by decide, by decide +kernel, by decide⟩
theorem mi_X12_both : Cond.instanceMethod yX12_both ∈ TBL := tb5 93 rfl rfl
theorem mv_X12_both : MeV yX12_both 13 := ⟨by decide, by decide, mi_X12_both, tb0 (q := (yX12_both, 63)) (by decide +kernel) rfl, TX12, 63, rfl⟩
theorem ml_X12_295 : Cond.methodLink RX12 295 yX12_both ∈ TBL := tb5 91 rfl rfl
theorem me_X12_emit : MeR yX12_emit cX12_emit 3 none 2 := ⟨tb5 106 rfl rfl, tb1 13 rfl rfl, by decide, by decide, by decide +kernel, by decide⟩
theorem mi_X12_emit : Cond.instanceMethod yX12_emit ∈ TBL := tb5 105 rfl rfl
theorem mv_X12_emit : MeV yX12_emit 13 := ⟨by decide, by decide, mi_X12_emit, tb0 (q := (yX12_emit, 63)) (by decide +kernel) rfl, TX12, 63, rfl⟩
theorem ml_X12_298 : Cond.methodLink RX12 298 yX12_emit ∈ TBL := tb5 103 rfl rfl
theorem me_X12_not : MeR yX12_not cX12_not 2 none 0 := ⟨tb5 98 rfl rfl, tb1 13 rfl rfl, by decide, by decide, by decide +kernel, by decide⟩
theorem mi_X12_not : Cond.instanceMethod yX12_not ∈ TBL := tb5 97 rfl rfl
theorem mv_X12_not : MeV yX12_not 13 := ⟨by decide, by decide, mi_X12_not, tb0 (q := (yX12_not, 63)) (by decide +kernel) rfl, TX12, 63, rfl⟩
theorem ml_X12_301 : Cond.methodLink RX12 301 yX12_not ∈ TBL := tb5 95 rfl rfl
theorem me_X12_opens : MeR yX12_opens cX12_opens 1 none 0 := ⟨tb5 102 rfl rfl, tb1 13 rfl rfl, by decide, by decide, by decide +kernel, by decide⟩
theorem mi_X12_opens : Cond.instanceMethod yX12_opens ∈ TBL := tb5 101 rfl rfl
theorem mv_X12_opens : MeV yX12_opens 13 := ⟨by decide, by decide, mi_X12_opens, tb0 (q := (yX12_opens, 63)) (by decide +kernel) rfl, TX12, 63, rfl⟩
theorem ml_X12_304 : Cond.methodLink RX12 304 yX12_opens ∈ TBL := tb5 99 rfl rfl
theorem me_X12_added : MeR yX12_added cX12_added 2 none 0 := ⟨tb5 110 rfl rfl, tb1 13 rfl rfl, by decide, by decide, by decide +kernel, by decide⟩
theorem mi_X12_added : Cond.instanceMethod yX12_added ∈ TBL := tb5 109 rfl rfl
theorem mv_X12_added : MeV yX12_added 13 := ⟨by decide, by decide, mi_X12_added, tb0 (q := (yX12_added, 63)) (by decide +kernel) rfl, TX12, 63, rfl⟩
theorem ml_X12_307 : Cond.methodLink RX12 307 yX12_added ∈ TBL := tb5 107 rfl rfl
theorem me_X12_term : MeR yX12_term cX12_term 1 none 0 := ⟨tb5 114 rfl rfl, tb1 13 rfl rfl, by decide, by decide, by decide +kernel, by decide⟩
theorem mi_X12_term : Cond.instanceMethod yX12_term ∈ TBL := tb5 113 rfl rfl
theorem mv_X12_term : MeV yX12_term 13 := ⟨by decide, by decide, mi_X12_term, tb0 (q := (yX12_term, 63)) (by decide +kernel) rfl, TX12, 63, rfl⟩
theorem ml_X12_310 : Cond.methodLink RX12 310 yX12_term ∈ TBL := tb5 111 rfl rfl
theorem me_X12_one : MeR yX12_one cX12_one 1 none 0 := ⟨tb5 118 rfl rfl, tb1 13 rfl rfl, by decide, by decide, by decide +kernel, by decide⟩
theorem mi_X12_one : Cond.instanceMethod yX12_one ∈ TBL := tb5 117 rfl rfl
theorem mv_X12_one : MeV yX12_one 13 := ⟨by decide, by decide, mi_X12_one, tb0 (q := (yX12_one, 63)) (by decide +kernel) rfl, TX12, 63, rfl⟩
theorem ml_X12_313 : Cond.methodLink RX12 313 yX12_one ∈ TBL := tb5 115 rfl rfl
theorem me_X12_named : MeR yX12_named cX12_named 5 (some (.int)) 4 := ⟨tb7 33 rfl rfl, tb1 13 rfl rfl, by decide, by decide, by decide +kernel, by decide⟩
theorem mi_X12_named : Cond.instanceMethod yX12_named ∈ TBL := tb7 32 rfl rfl
theorem mv_X12_named : MeV yX12_named 13 := ⟨by decide, by decide, mi_X12_named, tb0 (q := (yX12_named, 63)) (by decide +kernel) rfl, TX12, 63, rfl⟩
theorem ml_X12_321 : Cond.methodLink RX12 321 yX12_named ∈ TBL := tb7 30 rfl rfl
theorem me_X12_two : MeR yX12_two cX12_two 3 (some (.int)) 3 := ⟨tb7 36 rfl rfl, tb1 13 rfl rfl, by decide, by decide, by decide +kernel, by decide⟩
theorem ms_X12_two : Cond.static yX12_two ∈ TBL := tb7 35 rfl rfl
theorem ml_X12_324 : Cond.methodLink RX12 324 yX12_two ∈ TBL := tb7 34 rfl rfl
theorem me_X12_has : MeR yX12_has cX12_has 4 (some (.boolean)) 3 := ⟨tb7 8 rfl rfl, tb1 13 rfl rfl, by decide, by decide, by decide +kernel, by decide⟩
theorem mi_X12_has : Cond.instanceMethod yX12_has ∈ TBL := tb7 7 rfl rfl
theorem mv_X12_has : MeV yX12_has 13 := ⟨by decide, by decide, mi_X12_has, tb0 (q := (yX12_has, 63)) (by decide +kernel) rfl, TX12, 63, rfl⟩
theorem ml_X12_334 : Cond.methodLink RX12 334 yX12_has ∈ TBL := tb7 5 rfl rfl
theorem me_X12_isCharter : MeR yX12_isCharter cX12_isCharter 2 (some (.boolean)) 1 := ⟨tb7 17 rfl rfl, tb1 13 rfl rfl, by decide, by decide, by decide +kernel, by decide⟩
theorem mi_X12_isCharter : Cond.instanceMethod yX12_isCharter ∈ TBL := tb7 16 rfl rfl
theorem mv_X12_isCharter : MeV yX12_isCharter 13 := ⟨by decide, by decide, mi_X12_isCharter, tb0 (q := (yX12_isCharter, 63)) (by decide +kernel) rfl, TX12, 63, rfl⟩
theorem ml_X12_339 : Cond.methodLink RX12 339 yX12_isCharter ∈ TBL := tb7 14 rfl rfl
theorem me_X12_worked : MeR yX12_worked cX12_worked 9 (some (.int)) 4 := ⟨tb7 29 rfl rfl, tb1 13 rfl rfl, by decide, by decide, by decide +kernel, by decide⟩
theorem mi_X12_worked : Cond.instanceMethod yX12_worked ∈ TBL := tb7 28 rfl rfl
theorem mv_X12_worked : MeV yX12_worked 13 := ⟨by decide, by decide, mi_X12_worked, tb0 (q := (yX12_worked, 63)) (by decide +kernel) rfl, TX12, 63, rfl⟩
theorem ml_X12_351 : Cond.methodLink RX12 351 yX12_worked ∈ TBL := tb7 26 rfl rfl
theorem me_X12_looks : MeR yX12_looks cX12_looks 5 (some (.int)) 2 := ⟨tb7 25 rfl rfl, tb1 13 rfl rfl, by decide, by decide, by decide +kernel, by decide⟩
theorem mi_X12_looks : Cond.instanceMethod yX12_looks ∈ TBL := tb7 24 rfl rfl
theorem mv_X12_looks : MeV yX12_looks 13 := ⟨by decide, by decide, mi_X12_looks, tb0 (q := (yX12_looks, 63)) (by decide +kernel) rfl, TX12, 63, rfl⟩
theorem ml_X12_354 : Cond.methodLink RX12 354 yX12_looks ∈ TBL := tb7 22 rfl rfl
theorem me_X12_voyage : MeR yX12_voyage cX12_voyage 4 (some (.long)) 1 := ⟨tb7 45 rfl rfl, tb1 13 rfl rfl, by decide, by decide, by decide +kernel, by decide⟩
theorem mi_X12_voyage : Cond.instanceMethod yX12_voyage ∈ TBL := tb7 44 rfl rfl
theorem mv_X12_voyage : MeV yX12_voyage 13 := ⟨by decide, by decide, mi_X12_voyage, tb0 (q := (yX12_voyage, 63)) (by decide +kernel) rfl, TX12, 63, rfl⟩
theorem ml_X12_359 : Cond.methodLink RX12 359 yX12_voyage ∈ TBL := tb7 42 rfl rfl
theorem me_X12_accountOf : MeR yX12_accountOf cX12_accountOf 4 (some (.int)) 2 := ⟨tb7 57 rfl rfl, tb1 13 rfl rfl, by decide, by decide, by decide +kernel, by decide⟩
theorem mi_X12_accountOf : Cond.instanceMethod yX12_accountOf ∈ TBL := tb7 56 rfl rfl
theorem mv_X12_accountOf : MeV yX12_accountOf 13 := ⟨by decide, by decide, mi_X12_accountOf, tb0 (q := (yX12_accountOf, 63)) (by decide +kernel) rfl, TX12, 63, rfl⟩
theorem ml_X12_363 : Cond.methodLink RX12 363 yX12_accountOf ∈ TBL := tb7 54 rfl rfl
theorem me_J0_coder_7d493 : MeR yJ0_coder_7d493 cJ0_coder_7d493 1 (some (.byte)) 0 := ⟨tb2 5 rfl rfl, tb1 9 rfl rfl, by decide, by decide, by decide +kernel, by decide⟩
theorem mi_J0_coder_7d493 : Cond.instanceMethod yJ0_coder_7d493 ∈ TBL := tb2 3 rfl rfl
theorem msel_J0_coder_7d493 : Cond.selects "java/lang/String" yJ0_coder_7d493 yJ0_coder_7d493 ∈ TBL := tb2 4 rfl rfl
theorem ml_J0_335 : Cond.methodLink RJ0 335 yJ0_coder_7d493 ∈ TBL := tb2 2 rfl rfl
theorem me_J0_isLatin1_aae02 : MeR yJ0_isLatin1_aae02 cJ0_isLatin1_aae02 1 (some (.boolean)) 0 := ⟨tb2 15 rfl rfl, tb1 9 rfl rfl, by decide, by decide, by decide +kernel, by decide⟩
theorem mi_J0_isLatin1_aae02 : Cond.instanceMethod yJ0_isLatin1_aae02 ∈ TBL := tb2 13 rfl rfl
theorem msel_J0_isLatin1_aae02 : Cond.selects "java/lang/String" yJ0_isLatin1_aae02 yJ0_isLatin1_aae02 ∈ TBL := tb2 14 rfl rfl
theorem ml_J0_492 : Cond.methodLink RJ0 492 yJ0_isLatin1_aae02 ∈ TBL := tb2 12 rfl rfl
theorem me_J1_charAt_3b067 : MeR yJ1_charAt_3b067 cJ1_charAt_3b067 2 (some (.char)) 2 := ⟨tb2 18 rfl rfl, tb1 10 rfl rfl, by decide, by decide, by decide +kernel, by decide⟩
theorem ms_J1_charAt_3b067 : Cond.static yJ1_charAt_3b067 ∈ TBL := tb2 17 rfl rfl
theorem ml_J0_495 : Cond.methodLink RJ0 495 yJ1_charAt_3b067 ∈ TBL := tb2 16 rfl rfl
theorem me_J2_charAt_3b067 : MeR yJ2_charAt_3b067 cJ2_charAt_3b067 2 (some (.char)) 2 := ⟨tb2 29 rfl rfl, tb1 12 rfl rfl, by decide, by decide, by decide +kernel, by decide⟩
theorem ms_J2_charAt_3b067 : Cond.static yJ2_charAt_3b067 ∈ TBL := tb2 28 rfl rfl
theorem ml_J0_498 : Cond.methodLink RJ0 498 yJ2_charAt_3b067 ∈ TBL := tb2 27 rfl rfl
theorem me_J3_checkIndex_8e157 : MeR yJ3_checkIndex_8e157 cJ3_checkIndex_8e157 3 (some (.int)) 3 := ⟨tb2 26 rfl rfl, tb1 11 rfl rfl, by decide, by decide, by decide +kernel, by decide⟩
theorem ms_J3_checkIndex_8e157 : Cond.static yJ3_checkIndex_8e157 ∈ TBL := tb2 25 rfl rfl
theorem ml_J0_1059 : Cond.methodLink RJ0 1059 yJ3_checkIndex_8e157 ∈ TBL := tb2 24 rfl rfl
theorem me_J0_checkIndex_df160 : MeR yJ0_checkIndex_df160 cJ0_checkIndex_df160 2 none 2 := ⟨tb2 21 rfl rfl, tb1 9 rfl rfl, by decide, by decide, by decide +kernel, by decide⟩
theorem ms_J0_checkIndex_df160 : Cond.static yJ0_checkIndex_df160 ∈ TBL := tb2 20 rfl rfl
theorem ml_J1_9 : Cond.methodLink RJ1 9 yJ0_checkIndex_df160 ∈ TBL := tb2 19 rfl rfl
theorem me_J2_length_9d52b : MeR yJ2_length_9d52b cJ2_length_9d52b 1 (some (.int)) 1 := ⟨tb2 35 rfl rfl, tb1 12 rfl rfl, by decide, by decide, by decide +kernel, by decide⟩
theorem ms_J2_length_9d52b : Cond.static yJ2_length_9d52b ∈ TBL := tb2 34 rfl rfl
theorem ml_J2_48 : Cond.methodLink RJ2 48 yJ2_length_9d52b ∈ TBL := tb2 33 rfl rfl
theorem me_J2_checkIndex_2214a : MeR yJ2_checkIndex_2214a cJ2_checkIndex_2214a 2 none 2 := ⟨tb2 32 rfl rfl, tb1 12 rfl rfl, by decide, by decide, by decide +kernel, by decide⟩
theorem ms_J2_checkIndex_2214a : Cond.static yJ2_checkIndex_2214a ∈ TBL := tb2 31 rfl rfl
theorem ml_J2_67 : Cond.methodLink RJ2 67 yJ2_checkIndex_2214a ∈ TBL := tb2 30 rfl rfl
theorem me_J2_getChar_3b067 : MeR yJ2_getChar_3b067 cJ2_getChar_3b067 2 (some (.char)) 2 := ⟨tb2 39 rfl rfl, tb1 12 rfl rfl, by decide, by decide, by decide +kernel, by decide⟩
theorem ms_J2_getChar_3b067 : Cond.static yJ2_getChar_3b067 ∈ TBL := tb2 38 rfl rfl
theorem ml_J2_71 : Cond.methodLink RJ2 71 yJ2_getChar_3b067 ∈ TBL := tb2 37 rfl rfl
theorem ml_J2_414 : Cond.methodLink RJ2 414 yJ0_checkIndex_df160 ∈ TBL := tb2 36 rfl rfl
theorem nw_X11_9 : NewR RX11 9 4 4 := ⟨RX3, TX3, tyX3, by decide, by decide, rfl, in_X3, tyX3_ok, tb1 29 rfl rfl, tb2 222 rfl rfl, tb1 14 rfl rfl, by decide +kernel⟩
theorem nw_X11_15 : NewR RX11 15 9 9 := ⟨RX8, TX8, tyX8, by decide, by decide, rfl, in_X8, tyX8_ok, tb1 31 rfl rfl, tb3 29 rfl rfl, tb1 15 rfl rfl, by decide +kernel⟩
theorem nw_X11_21 : NewR RX11 21 3 7 := ⟨RX2, TX2, tyX2, by decide, by decide, rfl, in_X2, tyX2_ok, tb1 33 rfl rfl, tb3 99 rfl rfl, tb1 16 rfl rfl, by decide +kernel⟩
theorem nw_X11_27 : NewR RX11 27 11 4 := ⟨RX10, TX10, tyX10, by decide, by decide, rfl, in_X10, tyX10_ok, tb1 35 rfl rfl, tb1 167 rfl rfl, tb1 6 rfl rfl, by decide +kernel⟩
theorem nw_X11_33 : NewR RX11 33 2 9 := ⟨RX1, TX1, tyX1, by decide, by decide, rfl, in_X1, tyX1_ok, tb1 37 rfl rfl, tb4 113 rfl rfl, tb1 20 rfl rfl, by decide +kernel⟩
theorem nw_X11_39 : NewR RX11 39 8 3 := ⟨RX7, TX7, tyX7, by decide, by decide, rfl, in_X7, tyX7_ok, tb1 39 rfl rfl, tb1 221 rfl rfl, tb1 8 rfl rfl, by decide +kernel⟩
theorem nw_X11_48 : NewR RX11 48 5 5 := ⟨RX4, TX4, tyX4, by decide, by decide, rfl, in_X4, tyX4_ok, tb1 41 rfl rfl, tb1 42 rfl rfl, tb1 2 rfl rfl, by decide +kernel⟩
theorem nw_X11_55 : NewR RX11 55 7 8 := ⟨RX6, TX6, tyX6, by decide, by decide, rfl, in_X6, tyX6_ok, tb1 71 rfl rfl, tb1 72 rfl rfl, tb1 3 rfl rfl, by decide +kernel⟩
theorem nw_X11_62 : NewR RX11 62 1 6 := ⟨RX0, TX0, tyX0, by decide, by decide, rfl, in_X0, tyX0_ok, tb1 108 rfl rfl, tb1 109 rfl rfl, tb1 4 rfl rfl, by decide +kernel⟩
theorem nw_X11_69 : NewR RX11 69 6 8 := ⟨RX5, TX5, tyX5, by decide, by decide, rfl, in_X5, tyX5_ok, tb1 135 rfl rfl, tb1 136 rfl rfl, tb1 5 rfl rfl, by decide +kernel⟩
theorem nw_X11_83 : NewR RX11 83 10 7 := ⟨RX9, TX9, tyX9, by decide, by decide, rfl, in_X9, tyX9_ok, tb1 188 rfl rfl, tb1 189 rfl rfl, tb1 7 rfl rfl, by decide +kernel⟩
theorem nw_X6_18 : NewR RX6 18 5 5 := ⟨RX4, TX4, tyX4, by decide, by decide, rfl, in_X4, tyX4_ok, tb1 77 rfl rfl, tb1 42 rfl rfl, tb1 2 rfl rfl, by decide +kernel⟩
theorem nw_L_7 : NewR RL 7 12 19 := ⟨RX11, TX11, tyX11, by decide, by decide, rfl, in_X11, tyX11_ok, tb1 21 rfl rfl, tb1 22 rfl rfl, tb1 1 rfl rfl, by decide +kernel⟩
theorem nw_L_10 : NewR RL 10 13 63 := ⟨RX12, TX12, tyX12, by decide, by decide, rfl, in_X12, tyX12_ok, tb5 43 rfl rfl, tb5 44 rfl rfl, tb1 13 rfl rfl, by decide +kernel⟩
