/-! ===== part 30: the pure part: shapes by number, rows (Row), small facts ===== -/
theorem zr1 : mm_rf SZ 0 0 = 1 ∧ mm_rf SZ 0 1 = 4 ∧ mm_rf SZ 0 2 = 15 ∧ mm_rf SZ 0 3 = 26 ∧ mm_rf SZ 0 4 = 27 ∧ mm_rf SZ 0 5 = 28 ∧ mm_rf SZ 0 6 = 29 ∧ mm_rf SZ 0 7 = 46 ∧ mm_rf SZ 0 8 = 63 ∧ mm_rf SZ 0 9 = 80 ∧ mm_rf SZ 0 10 = 97 ∧ mm_rf SZ 0 11 = 114 ∧ mm_rf SZ 0 12 = 131 ∧ mm_rf SZ 0 13 = 133 ∧ mm_rf SZ 0 14 = 146 ∧ mm_rf SZ 0 15 = 147 := by decide +kernel
theorem zr2 : mm_rf SZ 0 16 = 148 ∧ mm_rf SZ 0 17 = 149 ∧ mm_rf SZ 0 18 = 158 ∧ mm_rf SZ 1 0 = 2 ∧ mm_rf SZ 2 0 = 3 ∧ mm_rf SZ 4 0 = 5 ∧ mm_rf SZ 4 1 = 7 ∧ mm_rf SZ 4 2 = 9 ∧ mm_rf SZ 4 3 = 11 ∧ mm_rf SZ 4 4 = 13 ∧ mm_rf SZ 5 0 = 6 ∧ mm_rf SZ 7 0 = 8 ∧ mm_rf SZ 9 0 = 10 ∧ mm_rf SZ 11 0 = 12 ∧ mm_rf SZ 13 0 = 14 ∧ mm_rf SZ 15 0 = 16 := by decide +kernel
theorem zr3 : mm_rf SZ 15 1 = 18 ∧ mm_rf SZ 15 2 = 20 ∧ mm_rf SZ 15 3 = 22 ∧ mm_rf SZ 15 4 = 24 ∧ mm_rf SZ 16 0 = 17 ∧ mm_rf SZ 18 0 = 19 ∧ mm_rf SZ 20 0 = 21 ∧ mm_rf SZ 22 0 = 23 ∧ mm_rf SZ 24 0 = 25 ∧ mm_rf SZ 29 0 = 30 ∧ mm_rf SZ 29 1 = 32 ∧ mm_rf SZ 29 2 = 34 ∧ mm_rf SZ 29 3 = 36 ∧ mm_rf SZ 29 4 = 38 ∧ mm_rf SZ 29 5 = 40 ∧ mm_rf SZ 29 6 = 42 := by decide +kernel
theorem zr4 : mm_rf SZ 29 7 = 44 ∧ mm_rf SZ 30 0 = 31 ∧ mm_rf SZ 32 0 = 33 ∧ mm_rf SZ 34 0 = 35 ∧ mm_rf SZ 36 0 = 37 ∧ mm_rf SZ 38 0 = 39 ∧ mm_rf SZ 40 0 = 41 ∧ mm_rf SZ 42 0 = 43 ∧ mm_rf SZ 44 0 = 45 ∧ mm_rf SZ 46 0 = 47 ∧ mm_rf SZ 46 1 = 49 ∧ mm_rf SZ 46 2 = 51 ∧ mm_rf SZ 46 3 = 53 ∧ mm_rf SZ 46 4 = 55 ∧ mm_rf SZ 46 5 = 57 ∧ mm_rf SZ 46 6 = 59 := by decide +kernel
theorem zr5 : mm_rf SZ 46 7 = 61 ∧ mm_rf SZ 47 0 = 48 ∧ mm_rf SZ 49 0 = 50 ∧ mm_rf SZ 51 0 = 52 ∧ mm_rf SZ 53 0 = 54 ∧ mm_rf SZ 55 0 = 56 ∧ mm_rf SZ 57 0 = 58 ∧ mm_rf SZ 59 0 = 60 ∧ mm_rf SZ 61 0 = 62 ∧ mm_rf SZ 63 0 = 64 ∧ mm_rf SZ 63 1 = 66 ∧ mm_rf SZ 63 2 = 68 ∧ mm_rf SZ 63 3 = 70 ∧ mm_rf SZ 63 4 = 72 ∧ mm_rf SZ 63 5 = 74 ∧ mm_rf SZ 63 6 = 76 := by decide +kernel
theorem zr6 : mm_rf SZ 63 7 = 78 ∧ mm_rf SZ 64 0 = 65 ∧ mm_rf SZ 66 0 = 67 ∧ mm_rf SZ 68 0 = 69 ∧ mm_rf SZ 70 0 = 71 ∧ mm_rf SZ 72 0 = 73 ∧ mm_rf SZ 74 0 = 75 ∧ mm_rf SZ 76 0 = 77 ∧ mm_rf SZ 78 0 = 79 ∧ mm_rf SZ 80 0 = 81 ∧ mm_rf SZ 80 1 = 83 ∧ mm_rf SZ 80 2 = 85 ∧ mm_rf SZ 80 3 = 87 ∧ mm_rf SZ 80 4 = 89 ∧ mm_rf SZ 80 5 = 91 ∧ mm_rf SZ 80 6 = 93 := by decide +kernel
theorem zr7 : mm_rf SZ 80 7 = 95 ∧ mm_rf SZ 81 0 = 82 ∧ mm_rf SZ 83 0 = 84 ∧ mm_rf SZ 85 0 = 86 ∧ mm_rf SZ 87 0 = 88 ∧ mm_rf SZ 89 0 = 90 ∧ mm_rf SZ 91 0 = 92 ∧ mm_rf SZ 93 0 = 94 ∧ mm_rf SZ 95 0 = 96 ∧ mm_rf SZ 97 0 = 98 ∧ mm_rf SZ 97 1 = 100 ∧ mm_rf SZ 97 2 = 102 ∧ mm_rf SZ 97 3 = 104 ∧ mm_rf SZ 97 4 = 106 ∧ mm_rf SZ 97 5 = 108 ∧ mm_rf SZ 97 6 = 110 := by decide +kernel
theorem zr8 : mm_rf SZ 97 7 = 112 ∧ mm_rf SZ 98 0 = 99 ∧ mm_rf SZ 100 0 = 101 ∧ mm_rf SZ 102 0 = 103 ∧ mm_rf SZ 104 0 = 105 ∧ mm_rf SZ 106 0 = 107 ∧ mm_rf SZ 108 0 = 109 ∧ mm_rf SZ 110 0 = 111 ∧ mm_rf SZ 112 0 = 113 ∧ mm_rf SZ 114 0 = 115 ∧ mm_rf SZ 114 1 = 117 ∧ mm_rf SZ 114 2 = 119 ∧ mm_rf SZ 114 3 = 121 ∧ mm_rf SZ 114 4 = 123 ∧ mm_rf SZ 114 5 = 125 ∧ mm_rf SZ 114 6 = 127 := by decide +kernel
theorem zr9 : mm_rf SZ 114 7 = 129 ∧ mm_rf SZ 115 0 = 116 ∧ mm_rf SZ 117 0 = 118 ∧ mm_rf SZ 119 0 = 120 ∧ mm_rf SZ 121 0 = 122 ∧ mm_rf SZ 123 0 = 124 ∧ mm_rf SZ 125 0 = 126 ∧ mm_rf SZ 127 0 = 128 ∧ mm_rf SZ 129 0 = 130 ∧ mm_rf SZ 131 0 = 132 ∧ mm_rf SZ 133 0 = 134 ∧ mm_rf SZ 133 1 = 136 ∧ mm_rf SZ 133 2 = 138 ∧ mm_rf SZ 133 3 = 140 ∧ mm_rf SZ 133 4 = 142 ∧ mm_rf SZ 133 5 = 144 := by decide +kernel
theorem zr10 : mm_rf SZ 134 0 = 135 ∧ mm_rf SZ 136 0 = 137 ∧ mm_rf SZ 138 0 = 139 ∧ mm_rf SZ 140 0 = 141 ∧ mm_rf SZ 142 0 = 143 ∧ mm_rf SZ 144 0 = 145 ∧ mm_rf SZ 146 0 = 1 ∧ mm_rf SZ 146 1 = 15 ∧ mm_rf SZ 146 2 = 63 ∧ mm_rf SZ 147 0 = 4 ∧ mm_rf SZ 147 1 = 26 ∧ mm_rf SZ 147 2 = 29 ∧ mm_rf SZ 148 0 = 4 ∧ mm_rf SZ 148 1 = 28 ∧ mm_rf SZ 148 2 = 80 ∧ mm_rf SZ 149 0 = 4 := by decide +kernel
theorem zr11 : mm_rf SZ 149 1 = 29 ∧ mm_rf SZ 149 2 = 131 ∧ mm_rf SZ 149 3 = 150 ∧ mm_rf SZ 149 4 = 152 ∧ mm_rf SZ 149 5 = 154 ∧ mm_rf SZ 149 6 = 156 ∧ mm_rf SZ 150 0 = 151 ∧ mm_rf SZ 152 0 = 153 ∧ mm_rf SZ 154 0 = 155 ∧ mm_rf SZ 156 0 = 157 ∧ mm_rf SZ 158 0 = 147 ∧ mm_rf SZ 158 1 = 159 ∧ mm_rf SZ 158 2 = 161 ∧ mm_rf SZ 158 3 = 163 ∧ mm_rf SZ 158 4 = 165 ∧ mm_rf SZ 159 0 = 160 := by decide +kernel
theorem zr12 : mm_rf SZ 161 0 = 162 ∧ mm_rf SZ 163 0 = 164 ∧ mm_rf SZ 165 0 = 166 ∧ mm_rf SZ 167 1 = 168 ∧ mm_rf SZ 167 3 = 169 ∧ mm_rf SZ 167 4 = 170 ∧ mm_rf SZ 167 5 = 171 ∧ mm_rf SZ 167 12 = 172 ∧ mm_rf SZ 167 13 = 173 ∧ mm_rf SZ 167 14 = 174 ∧ mm_rf SZ 167 15 = 175 ∧ mm_rf SZ 167 16 = 176 ∧ mm_rf SZ 167 17 = 177 ∧ mm_rf SZ 167 18 = 178 ∧ mm_rf SZ 167 19 = 179 ∧ mm_rf SZ 167 20 = 180 := by decide +kernel
theorem zr13 : mm_rf SZ 167 21 = 181 ∧ mm_rf SZ 167 22 = 182 ∧ mm_rf SZ 167 25 = 183 ∧ mm_rf SZ 167 26 = 184 ∧ mm_rf SZ 167 35 = 185 ∧ mm_rf SZ 167 37 = 186 ∧ mm_rf SZ 167 38 = 187 ∧ mm_rf SZ 167 40 = 188 ∧ mm_rf SZ 167 41 = 189 ∧ mm_rf SZ 167 42 = 190 ∧ mm_rf SZ 167 43 = 191 ∧ mm_rf SZ 167 45 = 192 ∧ mm_rf SZ 167 46 = 193 ∧ mm_rf SZ 167 49 = 194 ∧ mm_rf SZ 167 50 = 195 ∧ mm_rf SZ 167 52 = 196 := by decide +kernel
theorem zr14 : mm_rf SZ 167 53 = 197 ∧ mm_rf SZ 167 54 = 198 ∧ mm_rf SZ 167 55 = 199 ∧ mm_rf SZ 167 56 = 200 := by decide +kernel
theorem zr : (mm_rf SZ 0 0 = 1 ∧ mm_rf SZ 0 1 = 4 ∧ mm_rf SZ 0 2 = 15 ∧ mm_rf SZ 0 3 = 26 ∧ mm_rf SZ 0 4 = 27 ∧ mm_rf SZ 0 5 = 28 ∧ mm_rf SZ 0 6 = 29 ∧ mm_rf SZ 0 7 = 46 ∧ mm_rf SZ 0 8 = 63 ∧ mm_rf SZ 0 9 = 80 ∧ mm_rf SZ 0 10 = 97 ∧ mm_rf SZ 0 11 = 114 ∧ mm_rf SZ 0 12 = 131 ∧ mm_rf SZ 0 13 = 133 ∧ mm_rf SZ 0 14 = 146 ∧ mm_rf SZ 0 15 = 147) ∧ (mm_rf SZ 0 16 = 148 ∧ mm_rf SZ 0 17 = 149 ∧ mm_rf SZ 0 18 = 158 ∧ mm_rf SZ 1 0 = 2 ∧ mm_rf SZ 2 0 = 3 ∧ mm_rf SZ 4 0 = 5 ∧ mm_rf SZ 4 1 = 7 ∧ mm_rf SZ 4 2 = 9 ∧ mm_rf SZ 4 3 = 11 ∧ mm_rf SZ 4 4 = 13 ∧ mm_rf SZ 5 0 = 6 ∧ mm_rf SZ 7 0 = 8 ∧ mm_rf SZ 9 0 = 10 ∧ mm_rf SZ 11 0 = 12 ∧ mm_rf SZ 13 0 = 14 ∧ mm_rf SZ 15 0 = 16) ∧ (mm_rf SZ 15 1 = 18 ∧ mm_rf SZ 15 2 = 20 ∧ mm_rf SZ 15 3 = 22 ∧ mm_rf SZ 15 4 = 24 ∧ mm_rf SZ 16 0 = 17 ∧ mm_rf SZ 18 0 = 19 ∧ mm_rf SZ 20 0 = 21 ∧ mm_rf SZ 22 0 = 23 ∧ mm_rf SZ 24 0 = 25 ∧ mm_rf SZ 29 0 = 30 ∧ mm_rf SZ 29 1 = 32 ∧ mm_rf SZ 29 2 = 34 ∧ mm_rf SZ 29 3 = 36 ∧ mm_rf SZ 29 4 = 38 ∧ mm_rf SZ 29 5 = 40 ∧ mm_rf SZ 29 6 = 42) ∧ (mm_rf SZ 29 7 = 44 ∧ mm_rf SZ 30 0 = 31 ∧ mm_rf SZ 32 0 = 33 ∧ mm_rf SZ 34 0 = 35 ∧ mm_rf SZ 36 0 = 37 ∧ mm_rf SZ 38 0 = 39 ∧ mm_rf SZ 40 0 = 41 ∧ mm_rf SZ 42 0 = 43 ∧ mm_rf SZ 44 0 = 45 ∧ mm_rf SZ 46 0 = 47 ∧ mm_rf SZ 46 1 = 49 ∧ mm_rf SZ 46 2 = 51 ∧ mm_rf SZ 46 3 = 53 ∧ mm_rf SZ 46 4 = 55 ∧ mm_rf SZ 46 5 = 57 ∧ mm_rf SZ 46 6 = 59) ∧ (mm_rf SZ 46 7 = 61 ∧ mm_rf SZ 47 0 = 48 ∧ mm_rf SZ 49 0 = 50 ∧ mm_rf SZ 51 0 = 52 ∧ mm_rf SZ 53 0 = 54 ∧ mm_rf SZ 55 0 = 56 ∧ mm_rf SZ 57 0 = 58 ∧ mm_rf SZ 59 0 = 60 ∧ mm_rf SZ 61 0 = 62 ∧ mm_rf SZ 63 0 = 64 ∧ mm_rf SZ 63 1 = 66 ∧ mm_rf SZ 63 2 = 68 ∧ mm_rf SZ 63 3 = 70 ∧ mm_rf SZ 63 4 = 72 ∧ mm_rf SZ 63 5 = 74 ∧ mm_rf SZ 63 6 = 76) ∧ (mm_rf SZ 63 7 = 78 ∧ mm_rf SZ 64 0 = 65 ∧ mm_rf SZ 66 0 = 67 ∧ mm_rf SZ 68 0 = 69 ∧ mm_rf SZ 70 0 = 71 ∧ mm_rf SZ 72 0 = 73 ∧ mm_rf SZ 74 0 = 75 ∧ mm_rf SZ 76 0 = 77 ∧ mm_rf SZ 78 0 = 79 ∧ mm_rf SZ 80 0 = 81 ∧ mm_rf SZ 80 1 = 83 ∧ mm_rf SZ 80 2 = 85 ∧ mm_rf SZ 80 3 = 87 ∧ mm_rf SZ 80 4 = 89 ∧ mm_rf SZ 80 5 = 91 ∧ mm_rf SZ 80 6 = 93) ∧ (mm_rf SZ 80 7 = 95 ∧ mm_rf SZ 81 0 = 82 ∧ mm_rf SZ 83 0 = 84 ∧ mm_rf SZ 85 0 = 86 ∧ mm_rf SZ 87 0 = 88 ∧ mm_rf SZ 89 0 = 90 ∧ mm_rf SZ 91 0 = 92 ∧ mm_rf SZ 93 0 = 94 ∧ mm_rf SZ 95 0 = 96 ∧ mm_rf SZ 97 0 = 98 ∧ mm_rf SZ 97 1 = 100 ∧ mm_rf SZ 97 2 = 102 ∧ mm_rf SZ 97 3 = 104 ∧ mm_rf SZ 97 4 = 106 ∧ mm_rf SZ 97 5 = 108 ∧ mm_rf SZ 97 6 = 110) ∧ (mm_rf SZ 97 7 = 112 ∧ mm_rf SZ 98 0 = 99 ∧ mm_rf SZ 100 0 = 101 ∧ mm_rf SZ 102 0 = 103 ∧ mm_rf SZ 104 0 = 105 ∧ mm_rf SZ 106 0 = 107 ∧ mm_rf SZ 108 0 = 109 ∧ mm_rf SZ 110 0 = 111 ∧ mm_rf SZ 112 0 = 113 ∧ mm_rf SZ 114 0 = 115 ∧ mm_rf SZ 114 1 = 117 ∧ mm_rf SZ 114 2 = 119 ∧ mm_rf SZ 114 3 = 121 ∧ mm_rf SZ 114 4 = 123 ∧ mm_rf SZ 114 5 = 125 ∧ mm_rf SZ 114 6 = 127) ∧ (mm_rf SZ 114 7 = 129 ∧ mm_rf SZ 115 0 = 116 ∧ mm_rf SZ 117 0 = 118 ∧ mm_rf SZ 119 0 = 120 ∧ mm_rf SZ 121 0 = 122 ∧ mm_rf SZ 123 0 = 124 ∧ mm_rf SZ 125 0 = 126 ∧ mm_rf SZ 127 0 = 128 ∧ mm_rf SZ 129 0 = 130 ∧ mm_rf SZ 131 0 = 132 ∧ mm_rf SZ 133 0 = 134 ∧ mm_rf SZ 133 1 = 136 ∧ mm_rf SZ 133 2 = 138 ∧ mm_rf SZ 133 3 = 140 ∧ mm_rf SZ 133 4 = 142 ∧ mm_rf SZ 133 5 = 144) ∧ (mm_rf SZ 134 0 = 135 ∧ mm_rf SZ 136 0 = 137 ∧ mm_rf SZ 138 0 = 139 ∧ mm_rf SZ 140 0 = 141 ∧ mm_rf SZ 142 0 = 143 ∧ mm_rf SZ 144 0 = 145 ∧ mm_rf SZ 146 0 = 1 ∧ mm_rf SZ 146 1 = 15 ∧ mm_rf SZ 146 2 = 63 ∧ mm_rf SZ 147 0 = 4 ∧ mm_rf SZ 147 1 = 26 ∧ mm_rf SZ 147 2 = 29 ∧ mm_rf SZ 148 0 = 4 ∧ mm_rf SZ 148 1 = 28 ∧ mm_rf SZ 148 2 = 80 ∧ mm_rf SZ 149 0 = 4) ∧ (mm_rf SZ 149 1 = 29 ∧ mm_rf SZ 149 2 = 131 ∧ mm_rf SZ 149 3 = 150 ∧ mm_rf SZ 149 4 = 152 ∧ mm_rf SZ 149 5 = 154 ∧ mm_rf SZ 149 6 = 156 ∧ mm_rf SZ 150 0 = 151 ∧ mm_rf SZ 152 0 = 153 ∧ mm_rf SZ 154 0 = 155 ∧ mm_rf SZ 156 0 = 157 ∧ mm_rf SZ 158 0 = 147 ∧ mm_rf SZ 158 1 = 159 ∧ mm_rf SZ 158 2 = 161 ∧ mm_rf SZ 158 3 = 163 ∧ mm_rf SZ 158 4 = 165 ∧ mm_rf SZ 159 0 = 160) ∧ (mm_rf SZ 161 0 = 162 ∧ mm_rf SZ 163 0 = 164 ∧ mm_rf SZ 165 0 = 166 ∧ mm_rf SZ 167 1 = 168 ∧ mm_rf SZ 167 3 = 169 ∧ mm_rf SZ 167 4 = 170 ∧ mm_rf SZ 167 5 = 171 ∧ mm_rf SZ 167 12 = 172 ∧ mm_rf SZ 167 13 = 173 ∧ mm_rf SZ 167 14 = 174 ∧ mm_rf SZ 167 15 = 175 ∧ mm_rf SZ 167 16 = 176 ∧ mm_rf SZ 167 17 = 177 ∧ mm_rf SZ 167 18 = 178 ∧ mm_rf SZ 167 19 = 179 ∧ mm_rf SZ 167 20 = 180) ∧ (mm_rf SZ 167 21 = 181 ∧ mm_rf SZ 167 22 = 182 ∧ mm_rf SZ 167 25 = 183 ∧ mm_rf SZ 167 26 = 184 ∧ mm_rf SZ 167 35 = 185 ∧ mm_rf SZ 167 37 = 186 ∧ mm_rf SZ 167 38 = 187 ∧ mm_rf SZ 167 40 = 188 ∧ mm_rf SZ 167 41 = 189 ∧ mm_rf SZ 167 42 = 190 ∧ mm_rf SZ 167 43 = 191 ∧ mm_rf SZ 167 45 = 192 ∧ mm_rf SZ 167 46 = 193 ∧ mm_rf SZ 167 49 = 194 ∧ mm_rf SZ 167 50 = 195 ∧ mm_rf SZ 167 52 = 196) ∧ (mm_rf SZ 167 53 = 197 ∧ mm_rf SZ 167 54 = 198 ∧ mm_rf SZ 167 55 = 199 ∧ mm_rf SZ 167 56 = 200) := ⟨zr1, zr2, zr3, zr4, zr5, zr6, zr7, zr8, zr9, zr10, zr11, zr12, zr13, zr14⟩
theorem za1 : mm_al SZ 3 = 500 ∧ mm_al SZ 6 = 6 ∧ mm_al SZ 8 = 6 ∧ mm_al SZ 10 = 6 ∧ mm_al SZ 12 = 6 ∧ mm_al SZ 14 = 48 ∧ mm_al SZ 17 = 6 ∧ mm_al SZ 19 = 6 ∧ mm_al SZ 21 = 6 ∧ mm_al SZ 23 = 6 ∧ mm_al SZ 25 = 48 ∧ mm_al SZ 31 = 8 ∧ mm_al SZ 33 = 48 ∧ mm_al SZ 35 = 48 ∧ mm_al SZ 37 = 8 ∧ mm_al SZ 39 = 8 := by decide +kernel
theorem za2 : mm_al SZ 41 = 8 ∧ mm_al SZ 43 = 8 ∧ mm_al SZ 45 = 8 ∧ mm_al SZ 48 = 8 ∧ mm_al SZ 50 = 48 ∧ mm_al SZ 52 = 48 ∧ mm_al SZ 54 = 8 ∧ mm_al SZ 56 = 8 ∧ mm_al SZ 58 = 8 ∧ mm_al SZ 60 = 8 ∧ mm_al SZ 62 = 8 ∧ mm_al SZ 65 = 8 ∧ mm_al SZ 67 = 48 ∧ mm_al SZ 69 = 48 ∧ mm_al SZ 71 = 8 ∧ mm_al SZ 73 = 8 := by decide +kernel
theorem za3 : mm_al SZ 75 = 8 ∧ mm_al SZ 77 = 8 ∧ mm_al SZ 79 = 8 ∧ mm_al SZ 82 = 8 ∧ mm_al SZ 84 = 48 ∧ mm_al SZ 86 = 48 ∧ mm_al SZ 88 = 8 ∧ mm_al SZ 90 = 8 ∧ mm_al SZ 92 = 8 ∧ mm_al SZ 94 = 8 ∧ mm_al SZ 96 = 8 ∧ mm_al SZ 99 = 8 ∧ mm_al SZ 101 = 48 ∧ mm_al SZ 103 = 48 ∧ mm_al SZ 105 = 8 ∧ mm_al SZ 107 = 8 := by decide +kernel
theorem za4 : mm_al SZ 109 = 8 ∧ mm_al SZ 111 = 8 ∧ mm_al SZ 113 = 8 ∧ mm_al SZ 116 = 8 ∧ mm_al SZ 118 = 48 ∧ mm_al SZ 120 = 48 ∧ mm_al SZ 122 = 8 ∧ mm_al SZ 124 = 8 ∧ mm_al SZ 126 = 8 ∧ mm_al SZ 128 = 8 ∧ mm_al SZ 130 = 8 ∧ mm_al SZ 132 = 6 ∧ mm_al SZ 135 = 12 ∧ mm_al SZ 137 = 12 ∧ mm_al SZ 139 = 12 ∧ mm_al SZ 141 = 40 := by decide +kernel
theorem za5 : mm_al SZ 143 = 40 ∧ mm_al SZ 145 = 40 ∧ mm_al SZ 151 = 6 ∧ mm_al SZ 153 = 48 ∧ mm_al SZ 155 = 1296 ∧ mm_al SZ 157 = 8 ∧ mm_al SZ 160 = 8 ∧ mm_al SZ 162 = 64 ∧ mm_al SZ 164 = 4 ∧ mm_al SZ 166 = 4 ∧ mm_al SZ 168 = 24 ∧ mm_al SZ 169 = 8 ∧ mm_al SZ 170 = 48 ∧ mm_al SZ 171 = 48 ∧ mm_al SZ 172 = 8 ∧ mm_al SZ 173 = 8 := by decide +kernel
theorem za6 : mm_al SZ 174 = 48 ∧ mm_al SZ 175 = 48 ∧ mm_al SZ 176 = 8 ∧ mm_al SZ 177 = 8 ∧ mm_al SZ 178 = 8 ∧ mm_al SZ 179 = 8 ∧ mm_al SZ 180 = 8 ∧ mm_al SZ 181 = 8 ∧ mm_al SZ 182 = 8 ∧ mm_al SZ 183 = 6 ∧ mm_al SZ 184 = 500 ∧ mm_al SZ 185 = 24 ∧ mm_al SZ 186 = 8 ∧ mm_al SZ 187 = 48 ∧ mm_al SZ 188 = 48 ∧ mm_al SZ 189 = 6 := by decide +kernel
theorem za7 : mm_al SZ 190 = 2304 ∧ mm_al SZ 191 = 6 ∧ mm_al SZ 192 = 4 ∧ mm_al SZ 193 = 4 ∧ mm_al SZ 194 = 12 ∧ mm_al SZ 195 = 12 ∧ mm_al SZ 196 = 40 ∧ mm_al SZ 197 = 40 ∧ mm_al SZ 198 = 40 ∧ mm_al SZ 199 = 540 ∧ mm_al SZ 200 = 2 := by decide +kernel
theorem za : (mm_al SZ 3 = 500 ∧ mm_al SZ 6 = 6 ∧ mm_al SZ 8 = 6 ∧ mm_al SZ 10 = 6 ∧ mm_al SZ 12 = 6 ∧ mm_al SZ 14 = 48 ∧ mm_al SZ 17 = 6 ∧ mm_al SZ 19 = 6 ∧ mm_al SZ 21 = 6 ∧ mm_al SZ 23 = 6 ∧ mm_al SZ 25 = 48 ∧ mm_al SZ 31 = 8 ∧ mm_al SZ 33 = 48 ∧ mm_al SZ 35 = 48 ∧ mm_al SZ 37 = 8 ∧ mm_al SZ 39 = 8) ∧ (mm_al SZ 41 = 8 ∧ mm_al SZ 43 = 8 ∧ mm_al SZ 45 = 8 ∧ mm_al SZ 48 = 8 ∧ mm_al SZ 50 = 48 ∧ mm_al SZ 52 = 48 ∧ mm_al SZ 54 = 8 ∧ mm_al SZ 56 = 8 ∧ mm_al SZ 58 = 8 ∧ mm_al SZ 60 = 8 ∧ mm_al SZ 62 = 8 ∧ mm_al SZ 65 = 8 ∧ mm_al SZ 67 = 48 ∧ mm_al SZ 69 = 48 ∧ mm_al SZ 71 = 8 ∧ mm_al SZ 73 = 8) ∧ (mm_al SZ 75 = 8 ∧ mm_al SZ 77 = 8 ∧ mm_al SZ 79 = 8 ∧ mm_al SZ 82 = 8 ∧ mm_al SZ 84 = 48 ∧ mm_al SZ 86 = 48 ∧ mm_al SZ 88 = 8 ∧ mm_al SZ 90 = 8 ∧ mm_al SZ 92 = 8 ∧ mm_al SZ 94 = 8 ∧ mm_al SZ 96 = 8 ∧ mm_al SZ 99 = 8 ∧ mm_al SZ 101 = 48 ∧ mm_al SZ 103 = 48 ∧ mm_al SZ 105 = 8 ∧ mm_al SZ 107 = 8) ∧ (mm_al SZ 109 = 8 ∧ mm_al SZ 111 = 8 ∧ mm_al SZ 113 = 8 ∧ mm_al SZ 116 = 8 ∧ mm_al SZ 118 = 48 ∧ mm_al SZ 120 = 48 ∧ mm_al SZ 122 = 8 ∧ mm_al SZ 124 = 8 ∧ mm_al SZ 126 = 8 ∧ mm_al SZ 128 = 8 ∧ mm_al SZ 130 = 8 ∧ mm_al SZ 132 = 6 ∧ mm_al SZ 135 = 12 ∧ mm_al SZ 137 = 12 ∧ mm_al SZ 139 = 12 ∧ mm_al SZ 141 = 40) ∧ (mm_al SZ 143 = 40 ∧ mm_al SZ 145 = 40 ∧ mm_al SZ 151 = 6 ∧ mm_al SZ 153 = 48 ∧ mm_al SZ 155 = 1296 ∧ mm_al SZ 157 = 8 ∧ mm_al SZ 160 = 8 ∧ mm_al SZ 162 = 64 ∧ mm_al SZ 164 = 4 ∧ mm_al SZ 166 = 4 ∧ mm_al SZ 168 = 24 ∧ mm_al SZ 169 = 8 ∧ mm_al SZ 170 = 48 ∧ mm_al SZ 171 = 48 ∧ mm_al SZ 172 = 8 ∧ mm_al SZ 173 = 8) ∧ (mm_al SZ 174 = 48 ∧ mm_al SZ 175 = 48 ∧ mm_al SZ 176 = 8 ∧ mm_al SZ 177 = 8 ∧ mm_al SZ 178 = 8 ∧ mm_al SZ 179 = 8 ∧ mm_al SZ 180 = 8 ∧ mm_al SZ 181 = 8 ∧ mm_al SZ 182 = 8 ∧ mm_al SZ 183 = 6 ∧ mm_al SZ 184 = 500 ∧ mm_al SZ 185 = 24 ∧ mm_al SZ 186 = 8 ∧ mm_al SZ 187 = 48 ∧ mm_al SZ 188 = 48 ∧ mm_al SZ 189 = 6) ∧ (mm_al SZ 190 = 2304 ∧ mm_al SZ 191 = 6 ∧ mm_al SZ 192 = 4 ∧ mm_al SZ 193 = 4 ∧ mm_al SZ 194 = 12 ∧ mm_al SZ 195 = 12 ∧ mm_al SZ 196 = 40 ∧ mm_al SZ 197 = 40 ∧ mm_al SZ 198 = 40 ∧ mm_al SZ 199 = 540 ∧ mm_al SZ 200 = 2) := ⟨za1, za2, za3, za4, za5, za6, za7⟩
theorem ofNat_nI (n : Nat) : Int32.ofNat n = nI n := rfl
theorem nI_lit (n : Nat) : (OfNat.ofNat n : Int32) = nI n := rfl
theorem inb_nI {k n : Nat} (h : k < n) (hk : k < 2 ^ 31) : mm_inb (nI k) n = true := by
  unfold mm_inb
  have h1 : ¬ nI k < 0 := nI_pos hk
  rw [nI_clamp hk]
  simp [h1, Nat.blt_eq.mpr h]
theorem inb_not {k n : Nat} (h : n ≤ k) (hk : k < 2 ^ 31) : mm_inb (nI k) n = false := by
  unfold mm_inb
  rw [nI_clamp hk]
  have : Nat.blt k n = false := by
    cases hb : Nat.blt k n with
    | false => rfl
    | true => have := Nat.blt_eq.mp hb; omega
  simp [this]
theorem inb_neg {i : Int32} {n : Nat} (h : i < 0) : mm_inb i n = false := by
  unfold mm_inb
  simp [h]
/-- a cell of an array, 0 outside -/
def rd (I : mm_I) (a n : Nat) (i : Int32) : Int32 := if mm_inb i n = true then I a i.toNatClampNeg else 0
def wr (I : mm_I) (a n : Nat) (i : Int32) (x : Int32) : mm_I := if mm_inb i n = true then mm_up I a i.toNatClampNeg x else I
theorem rd_at {I : mm_I} {a n k : Nat} (h : k < n) (hn : n < 2 ^ 31) : rd I a n (nI k) = I a k := by
  unfold rd
  rw [if_pos (inb_nI h (by omega)), nI_clamp (by omega)]
theorem rd_out {I : mm_I} {a n k : Nat} (h : n ≤ k) (hk : k < 2 ^ 31) : rd I a n (nI k) = 0 := by
  unfold rd
  rw [if_neg (by rw [inb_not h hk]; decide)]
theorem rd_neg {I : mm_I} {a n : Nat} {i : Int32} (h : i < 0) : rd I a n i = 0 := by
  unfold rd
  rw [if_neg (by rw [inb_neg h]; decide)]
theorem wr_at {I : mm_I} {a n k : Nat} {x : Int32} (h : k < n) (hn : n < 2 ^ 31) : wr I a n (nI k) x = mm_up I a k x := by
  unfold wr
  rw [if_pos (inb_nI h (by omega)), nI_clamp (by omega)]
theorem inb_iff {i : Int32} {n : Nat} (hn : n < 2 ^ 31) : mm_inb i n = true ↔ ¬ i < 0 ∧ ¬ Int32.ofNat n ≤ i := by
  constructor
  · intro h
    obtain ⟨j, hj, rfl⟩ := vp_in_of (mm_inb_ok h) hn
    exact ⟨nI_pos (by omega), nI_ge hj hn⟩
  · rintro ⟨h1, h2⟩
    obtain ⟨j, hj, rfl⟩ := nI_of h1
    have : j < n := by
      rcases Nat.lt_or_ge j n with q | q
      · exact q
      · exact absurd (nI_le q hj) h2
    exact inb_nI this hj
theorem f6_at_eq {S : mm_Sh} {r : Nat} {i : Int32} {I : mm_I} {J : mm_J} (hn : mm_al S (mm_rf S r 0) < 2 ^ 31) : f6_at S r i I J = some (rd I (mm_rf S r 0) (mm_al S (mm_rf S r 0)) i) := by
  unfold f6_at f6_at_22 f6_at_23 rd
  by_cases h : mm_inb i (mm_al S (mm_rf S r 0)) = true
  · obtain ⟨h1, h2⟩ := (inb_iff hn).mp h
    rw [if_neg h1, if_neg h2, if_pos h, if_pos h]
  · by_cases h1 : i < 0
    · rw [if_pos h1, if_neg h]
    · by_cases h2 : Int32.ofNat (mm_al S (mm_rf S r 0)) ≤ i
      · rw [if_neg h1, if_pos h2, if_neg h]
      · exact absurd ((inb_iff hn).mpr ⟨h1, h2⟩) h
theorem f6_put_eq {S : mm_Sh} {r : Nat} {i x : Int32} {I : mm_I} {J : mm_J} (hn : mm_al S (mm_rf S r 0) < 2 ^ 31) : f6_put S r i x I J = some (wr I (mm_rf S r 0) (mm_al S (mm_rf S r 0)) i x, J) := by
  unfold f6_put f6_put_20 wr
  by_cases h : mm_inb i (mm_al S (mm_rf S r 0)) = true
  · obtain ⟨h1, h2⟩ := (inb_iff hn).mp h
    rw [if_neg h1, if_neg h2, if_pos h, if_pos h]
  · by_cases h1 : i < 0
    · rw [if_pos h1, if_neg h]
    · by_cases h2 : Int32.ofNat (mm_al S (mm_rf S r 0)) ≤ i
      · rw [if_neg h1, if_pos h2, if_neg h]
      · exact absurd ((inb_iff hn).mpr ⟨h1, h2⟩) h
/-- an array filled up to i, from f -/
def fillTo (I : mm_I) (a i : Nat) (f : Nat → Int32) : mm_I := fun b => if b = a then (fun k => if k < i then f k else I a k) else I b
theorem fillTo_0 (I : mm_I) (a : Nat) (f : Nat → Int32) : fillTo I a 0 f = I := by
  funext b
  unfold fillTo
  split
  · rename_i h
    subst h
    funext k
    simp
  · rfl
theorem fillTo_up (I : mm_I) (a i : Nat) (f : Nat → Int32) : mm_up (fillTo I a i f) a i (f i) = fillTo I a (i + 1) f := by
  funext b
  unfold mm_up fillTo
  by_cases h : b = a
  · subst h
    simp only [if_true]
    funext k
    unfold upd
    by_cases h1 : k = i
    · subst h1; simp
    · by_cases h2 : k < i
      · simp [h1, h2, Nat.lt_succ_of_lt h2]
      · have : ¬ k < i + 1 := by omega
        simp [h1, h2, this]
  · simp [h]
theorem fillTo_o {I : mm_I} {a i b : Nat} {f : Nat → Int32} (h : b ≠ a) : fillTo I a i f b = I b := by unfold fillTo; rw [if_neg h]
theorem fillTo_s {I : mm_I} {a i : Nat} {f : Nat → Int32} : fillTo I a i f a = fun k => if k < i then f k else I a k := by unfold fillTo; rw [if_pos rfl]
theorem fillTo_in {I : mm_I} {a i k : Nat} {f : Nat → Int32} (h : k < i) : fillTo I a i f a k = f k := by rw [fillTo_s]; simp [h]
theorem nI_one (k : Nat) : nI k + 1 = nI (k + 1) := nI_add k 1
theorem f6_fill_loop {S : mm_Sh} {n r : Nat} {v : Int32} {J : mm_J} (hn : mm_al S (mm_rf S r 0) < 2 ^ 31) : ∀ (d k : Nat) (I : mm_I), k ≤ mm_al S (mm_rf S r 0) → mm_al S (mm_rf S r 0) < k + d → f6_fill_2 S n d r v (nI k) (fillTo I (mm_rf S r 0) k (fun _ => v)) J = some (fillTo I (mm_rf S r 0) (mm_al S (mm_rf S r 0)) (fun _ => v), J) := by
  intro d
  induction d with
  | zero => intro k I h1 h2; omega
  | succ d ih =>
    intro k I h1 h2
    show f6_fill_2_b S n (f6_fill_2 S n d) r v (nI k) _ J = _
    unfold f6_fill_2_b
    by_cases h : k = mm_al S (mm_rf S r 0)
    · subst h
      rw [ofNat_nI, if_pos (nI_le (Nat.le_refl _) hn)]
    · have hk : k < mm_al S (mm_rf S r 0) := by omega
      rw [ofNat_nI, if_neg (nI_ge hk hn), if_pos (inb_nI hk (by omega)), nI_clamp (by omega), nI_one, fillTo_up]
      exact ih (k + 1) I (by omega) (by omega)
theorem f6_fill_eq {S : mm_Sh} {n r : Nat} {v : Int32} {I : mm_I} {J : mm_J} (hn : mm_al S (mm_rf S r 0) < 2 ^ 31) (hf : mm_al S (mm_rf S r 0) < n) : f6_fill S n r v I J = some (fillTo I (mm_rf S r 0) (mm_al S (mm_rf S r 0)) (fun _ => v), J) := by
  have := f6_fill_loop (n := n) (v := v) (J := J) hn n 0 I (Nat.zero_le _) (by omega)
  rw [fillTo_0] at this
  exact this
theorem f6_copy_loop {S : mm_Sh} {n r q : Nat} {J : mm_J} (hn : mm_al S (mm_rf S r 0) < 2 ^ 31) (hq : mm_al S (mm_rf S q 0) = mm_al S (mm_rf S r 0)) (hne : mm_rf S q 0 ≠ mm_rf S r 0) : ∀ (d k : Nat) (I : mm_I), k ≤ mm_al S (mm_rf S r 0) → mm_al S (mm_rf S r 0) < k + d → f6_copyFrom_2 S n d r q (nI k) (fillTo I (mm_rf S r 0) k (I (mm_rf S q 0))) J = some (fillTo I (mm_rf S r 0) (mm_al S (mm_rf S r 0)) (I (mm_rf S q 0)), J) := by
  intro d
  induction d with
  | zero => intro k I h1 h2; omega
  | succ d ih =>
    intro k I h1 h2
    show f6_copyFrom_2_b S n (f6_copyFrom_2 S n d) r q (nI k) _ J = _
    unfold f6_copyFrom_2_b f6_copyFrom_38
    rw [hq, ofNat_nI]
    by_cases h : k = mm_al S (mm_rf S r 0)
    · subst h
      rw [if_pos (nI_le (Nat.le_refl _) hn)]
    · have hk : k < mm_al S (mm_rf S r 0) := by omega
      rw [if_neg (nI_ge hk hn), if_neg (nI_ge hk hn), if_pos (inb_nI hk (by omega)), if_pos (inb_nI hk (by omega)), nI_clamp (by omega), nI_one, fillTo_o hne, fillTo_up]
      exact ih (k + 1) I (by omega) (by omega)
/-- an array becomes another's copy -/
def cpA (I : mm_I) (a b n : Nat) : mm_I := fillTo I a n (I b)
theorem f6_copyFrom_eq {S : mm_Sh} {n r q : Nat} {I : mm_I} {J : mm_J} (hn : mm_al S (mm_rf S r 0) < 2 ^ 31) (hq : mm_al S (mm_rf S q 0) = mm_al S (mm_rf S r 0)) (hne : mm_rf S q 0 ≠ mm_rf S r 0) (hf : mm_al S (mm_rf S r 0) < n) : f6_copyFrom S n r q I J = some (cpA I (mm_rf S r 0) (mm_rf S q 0) (mm_al S (mm_rf S r 0)), J) := by
  have := f6_copy_loop (n := n) (J := J) hn hq hne n 0 I (Nat.zero_le _) (by omega)
  rw [fillTo_0] at this
  exact this
theorem cpA_o {I : mm_I} {a b n c : Nat} (h : c ≠ a) : cpA I a b n c = I c := fillTo_o h
theorem cpA_in {I : mm_I} {a b n k : Nat} (h : k < n) : cpA I a b n a k = I b k := fillTo_in h
/-! the class's small methods -/
theorem f10_cell_eq {S : mm_Sh} {I : mm_I} {J : mm_J} {p t : Nat} (hp : p < 8) (ht : t < 6) : f10_cell S (nI p) (nI t) I J = some (nI (6 * p + t)) := by
  unfold f10_cell f10_cell_25
  rw [if_neg (nI_pos (by omega)), if_neg (show ¬ (8 : Int32) ≤ nI p from nI_ge (b := 8) hp (by decide)), if_neg (nI_pos (by omega)), if_neg (show ¬ (6 : Int32) ≤ nI t from nI_ge (b := 6) ht (by decide)), if_neg (by decide)]
  show some (nI p * nI 6 + nI t) = _
  rw [pk_mul, nI_add, Nat.mul_comm]
theorem f10_cell_neg {S : mm_Sh} {I : mm_I} {J : mm_J} {p t : Int32} (ht : t < 0) : f10_cell S p t I J = some (-1) := by
  unfold f10_cell f10_cell_24 f10_cell_25
  repeat' split
  all_goals first | rfl | contradiction
theorem f0_hasTrade_eq {S : mm_Sh} {r : Nat} {t : Int32} {I : mm_I} {J : mm_J} : f0_hasTrade S r t I J = some (if t < 0 then 0 else if I r 5 ≤ t then 0 else 1) := by
  unfold f0_hasTrade
  split
  · rfl
  · split <;> rfl
theorem f0_hasPerson_eq {S : mm_Sh} {r : Nat} {t : Int32} {I : mm_I} {J : mm_J} : f0_hasPerson S r t I J = some (if t < 0 then 0 else if I r 6 ≤ t then 0 else 1) := by
  unfold f0_hasPerson
  split
  · rfl
  · split <;> rfl

