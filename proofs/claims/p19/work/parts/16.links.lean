/-! ===== links: words of the tables by their places ===== -/
theorem mT1 {w : Cond} (i : Nat) (h : tables_1_1[i]? = some w) (g : good w = true) : w ∈ lwG := List.mem_filter.mpr ⟨List.mem_append_right _ (show w ∈ tables_1 from List.mem_append_left _ (List.mem_of_getElem? h)), g⟩
theorem nT1 {w : Cond} (i : Nat) (h : tables_1_1[i]? = some w) (g : isNw w = true) : w ∈ nwL := List.mem_filter.mpr ⟨(show w ∈ tables_1 from List.mem_append_left _ (List.mem_of_getElem? h)), g⟩
theorem mT2 {w : Cond} (i : Nat) (h : tables_1_2[i]? = some w) (g : good w = true) : w ∈ lwG := List.mem_filter.mpr ⟨List.mem_append_right _ (show w ∈ tables_1 from List.mem_append_right _ (List.mem_append_left _ (List.mem_of_getElem? h))), g⟩
theorem nT2 {w : Cond} (i : Nat) (h : tables_1_2[i]? = some w) (g : isNw w = true) : w ∈ nwL := List.mem_filter.mpr ⟨(show w ∈ tables_1 from List.mem_append_right _ (List.mem_append_left _ (List.mem_of_getElem? h))), g⟩
theorem mT3 {w : Cond} (i : Nat) (h : tables_1_3[i]? = some w) (g : good w = true) : w ∈ lwG := List.mem_filter.mpr ⟨List.mem_append_right _ (show w ∈ tables_1 from List.mem_append_right _ (List.mem_append_right _ (List.mem_append_left _ (List.mem_of_getElem? h)))), g⟩
theorem nT3 {w : Cond} (i : Nat) (h : tables_1_3[i]? = some w) (g : isNw w = true) : w ∈ nwL := List.mem_filter.mpr ⟨(show w ∈ tables_1 from List.mem_append_right _ (List.mem_append_right _ (List.mem_append_left _ (List.mem_of_getElem? h)))), g⟩
theorem mT4 {w : Cond} (i : Nat) (h : tables_1_4[i]? = some w) (g : good w = true) : w ∈ lwG := List.mem_filter.mpr ⟨List.mem_append_right _ (show w ∈ tables_1 from List.mem_append_right _ (List.mem_append_right _ (List.mem_append_right _ (List.mem_append_left _ (List.mem_of_getElem? h))))), g⟩
theorem nT4 {w : Cond} (i : Nat) (h : tables_1_4[i]? = some w) (g : isNw w = true) : w ∈ nwL := List.mem_filter.mpr ⟨(show w ∈ tables_1 from List.mem_append_right _ (List.mem_append_right _ (List.mem_append_right _ (List.mem_append_left _ (List.mem_of_getElem? h))))), g⟩
theorem mT5 {w : Cond} (i : Nat) (h : tables_1_5[i]? = some w) (g : good w = true) : w ∈ lwG := List.mem_filter.mpr ⟨List.mem_append_right _ (show w ∈ tables_1 from List.mem_append_right _ (List.mem_append_right _ (List.mem_append_right _ (List.mem_append_right _ (List.mem_of_getElem? h))))), g⟩
theorem nT5 {w : Cond} (i : Nat) (h : tables_1_5[i]? = some w) (g : isNw w = true) : w ∈ nwL := List.mem_filter.mpr ⟨(show w ∈ tables_1 from List.mem_append_right _ (List.mem_append_right _ (List.mem_append_right _ (List.mem_append_right _ (List.mem_of_getElem? h))))), g⟩
theorem mS {q : MethodName × Nat} (i : Nat) (h : lw_privs[i]? = some q) (g : good (Cond.selects q.1.cls q.1 q.1) = true) : Cond.selects q.1.cls q.1 q.1 ∈ lwG := List.mem_filter.mpr ⟨List.mem_append_left _ (List.mem_map.mpr ⟨q, List.mem_of_getElem? h, rfl⟩), g⟩
theorem cwX0 : ∀ k, k < 4 → u_lay RX0 TX0 k ∈ lwG
  | 0, _ => mT2 19 rfl rfl
  | 1, _ => mT2 21 rfl rfl
  | 2, _ => mT2 23 rfl rfl
  | 3, _ => mT2 25 rfl rfl
  | k + 4, h => absurd h (by omega)
theorem ckX0 : CK 0 (RX0, TX0, 4) := ⟨rfl, by decide, fun w hw => by
  obtain ⟨j, hj, rfl⟩ := List.mem_map.mp hw
  exact cwX0 j (List.mem_range.mp hj), tyX0_ok, nmX0, by decide +kernel⟩
theorem cwX1 : ∀ k, k < 9 → u_lay RX1 TX1 k ∈ lwG
  | 0, _ => mT1 182 rfl rfl
  | 1, _ => mT1 184 rfl rfl
  | 2, _ => mT1 186 rfl rfl
  | 3, _ => mT1 188 rfl rfl
  | 4, _ => mT1 190 rfl rfl
  | 5, _ => mT1 192 rfl rfl
  | 6, _ => mT1 194 rfl rfl
  | 7, _ => mT1 196 rfl rfl
  | 8, _ => mT1 198 rfl rfl
  | k + 9, h => absurd h (by omega)
theorem ckX1 : CK 1 (RX1, TX1, 9) := ⟨rfl, by decide, fun w hw => by
  obtain ⟨j, hj, rfl⟩ := List.mem_map.mp hw
  exact cwX1 j (List.mem_range.mp hj), tyX1_ok, nmX1, by decide +kernel⟩
theorem cwX2 : ∀ k, k < 3 → u_lay RX2 TX2 k ∈ lwG
  | 0, _ => mT1 213 rfl rfl
  | 1, _ => mT1 215 rfl rfl
  | 2, _ => mT1 217 rfl rfl
  | k + 3, h => absurd h (by omega)
theorem ckX2 : CK 2 (RX2, TX2, 3) := ⟨rfl, by decide, fun w hw => by
  obtain ⟨j, hj, rfl⟩ := List.mem_map.mp hw
  exact cwX2 j (List.mem_range.mp hj), tyX2_ok, nmX2, by decide +kernel⟩
theorem cwX3 : ∀ k, k < 4 → u_lay RX3 TX3 k ∈ lwG
  | 0, _ => mT1 105 rfl rfl
  | 1, _ => mT1 107 rfl rfl
  | 2, _ => mT1 109 rfl rfl
  | 3, _ => mT1 111 rfl rfl
  | k + 4, h => absurd h (by omega)
theorem ckX3 : CK 3 (RX3, TX3, 4) := ⟨rfl, by decide, fun w hw => by
  obtain ⟨j, hj, rfl⟩ := List.mem_map.mp hw
  exact cwX3 j (List.mem_range.mp hj), tyX3_ok, nmX3, by decide +kernel⟩
theorem cwX4 : ∀ k, k < 5 → u_lay RX4 TX4 k ∈ lwG
  | 0, _ => mT1 128 rfl rfl
  | 1, _ => mT1 130 rfl rfl
  | 2, _ => mT1 132 rfl rfl
  | 3, _ => mT1 134 rfl rfl
  | 4, _ => mT1 136 rfl rfl
  | k + 5, h => absurd h (by omega)
theorem ckX4 : CK 4 (RX4, TX4, 5) := ⟨rfl, by decide, fun w hw => by
  obtain ⟨j, hj, rfl⟩ := List.mem_map.mp hw
  exact cwX4 j (List.mem_range.mp hj), tyX4_ok, nmX4, by decide +kernel⟩
theorem cwX5 : ∀ k, k < 6 → u_lay RX5 TX5 k ∈ lwG
  | 0, _ => mT1 236 rfl rfl
  | 1, _ => mT1 238 rfl rfl
  | 2, _ => mT2 0 rfl rfl
  | 3, _ => mT2 2 rfl rfl
  | 4, _ => mT2 4 rfl rfl
  | 5, _ => mT2 6 rfl rfl
  | k + 6, h => absurd h (by omega)
theorem ckX5 : CK 5 (RX5, TX5, 6) := ⟨rfl, by decide, fun w hw => by
  obtain ⟨j, hj, rfl⟩ := List.mem_map.mp hw
  exact cwX5 j (List.mem_range.mp hj), tyX5_ok, nmX5, by decide +kernel⟩
theorem cwX6 : ∀ k, k < 5 → u_lay RX6 TX6 k ∈ lwG
  | 0, _ => mT1 161 rfl rfl
  | 1, _ => mT1 163 rfl rfl
  | 2, _ => mT1 165 rfl rfl
  | 3, _ => mT1 167 rfl rfl
  | 4, _ => mT1 169 rfl rfl
  | k + 5, h => absurd h (by omega)
theorem ckX6 : CK 6 (RX6, TX6, 5) := ⟨rfl, by decide, fun w hw => by
  obtain ⟨j, hj, rfl⟩ := List.mem_map.mp hw
  exact cwX6 j (List.mem_range.mp hj), tyX6_ok, nmX6, by decide +kernel⟩
theorem cwX7 : ∀ k, k < 10 → u_lay RX7 TX7 k ∈ lwG
  | 0, _ => mT1 64 rfl rfl
  | 1, _ => mT1 66 rfl rfl
  | 2, _ => mT1 68 rfl rfl
  | 3, _ => mT1 70 rfl rfl
  | 4, _ => mT1 72 rfl rfl
  | 5, _ => mT1 74 rfl rfl
  | 6, _ => mT1 76 rfl rfl
  | 7, _ => mT1 78 rfl rfl
  | 8, _ => mT1 80 rfl rfl
  | 9, _ => mT1 82 rfl rfl
  | k + 10, h => absurd h (by omega)
theorem ckX7 : CK 7 (RX7, TX7, 10) := ⟨rfl, by decide, fun w hw => by
  obtain ⟨j, hj, rfl⟩ := List.mem_map.mp hw
  exact cwX7 j (List.mem_range.mp hj), tyX7_ok, nmX7, by decide +kernel⟩
theorem cwX8 : ∀ k, k < 12 → u_lay RX8 TX8 k ∈ lwG
  | 0, _ => mT2 55 rfl rfl
  | 1, _ => mT2 57 rfl rfl
  | 2, _ => mT2 59 rfl rfl
  | 3, _ => mT2 61 rfl rfl
  | 4, _ => mT2 63 rfl rfl
  | 5, _ => mT2 65 rfl rfl
  | 6, _ => mT2 67 rfl rfl
  | 7, _ => mT2 69 rfl rfl
  | 8, _ => mT2 71 rfl rfl
  | 9, _ => mT2 73 rfl rfl
  | 10, _ => mT2 75 rfl rfl
  | 11, _ => mT2 77 rfl rfl
  | k + 12, h => absurd h (by omega)
theorem ckX8 : CK 8 (RX8, TX8, 12) := ⟨rfl, by decide, fun w hw => by
  obtain ⟨j, hj, rfl⟩ := List.mem_map.mp hw
  exact cwX8 j (List.mem_range.mp hj), tyX8_ok, nmX8, by decide +kernel⟩
theorem cwX9 : ∀ k, k < 36 → u_lay RX9 TX9 k ∈ lwG
  | 0, _ => mT4 43 rfl rfl
  | 1, _ => mT4 45 rfl rfl
  | 2, _ => mT4 47 rfl rfl
  | 3, _ => mT4 49 rfl rfl
  | 4, _ => mT4 51 rfl rfl
  | 5, _ => mT4 53 rfl rfl
  | 6, _ => mT4 55 rfl rfl
  | 7, _ => mT4 57 rfl rfl
  | 8, _ => mT4 59 rfl rfl
  | 9, _ => mT4 61 rfl rfl
  | 10, _ => mT4 63 rfl rfl
  | 11, _ => mT4 65 rfl rfl
  | 12, _ => mT4 67 rfl rfl
  | 13, _ => mT4 69 rfl rfl
  | 14, _ => mT4 71 rfl rfl
  | 15, _ => mT4 73 rfl rfl
  | 16, _ => mT4 75 rfl rfl
  | 17, _ => mT4 77 rfl rfl
  | 18, _ => mT4 79 rfl rfl
  | 19, _ => mT4 81 rfl rfl
  | 20, _ => mT4 83 rfl rfl
  | 21, _ => mT4 85 rfl rfl
  | 22, _ => mT4 87 rfl rfl
  | 23, _ => mT4 89 rfl rfl
  | 24, _ => mT4 91 rfl rfl
  | 25, _ => mT4 93 rfl rfl
  | 26, _ => mT4 95 rfl rfl
  | 27, _ => mT4 97 rfl rfl
  | 28, _ => mT4 99 rfl rfl
  | 29, _ => mT4 101 rfl rfl
  | 30, _ => mT4 103 rfl rfl
  | 31, _ => mT4 105 rfl rfl
  | 32, _ => mT4 107 rfl rfl
  | 33, _ => mT4 109 rfl rfl
  | 34, _ => mT4 111 rfl rfl
  | 35, _ => mT4 113 rfl rfl
  | k + 36, h => absurd h (by omega)
theorem ckX9 : CK 9 (RX9, TX9, 36) := ⟨rfl, by decide, fun w hw => by
  obtain ⟨j, hj, rfl⟩ := List.mem_map.mp hw
  exact cwX9 j (List.mem_range.mp hj), tyX9_ok, nmX9, by decide +kernel⟩
theorem lfX0_9 : LkF RX0 9 0 0 := ⟨_, ckX0, by decide, Or.inl (mT2 15 rfl rfl)⟩
theorem lfX0_15 : LkF RX0 15 0 1 := ⟨_, ckX0, by decide, Or.inl (mT2 16 rfl rfl)⟩
theorem lfX0_18 : LkF RX0 18 0 2 := ⟨_, ckX0, by decide, Or.inl (mT2 17 rfl rfl)⟩
theorem lfX0_21 : LkF RX0 21 0 3 := ⟨_, ckX0, by decide, Or.inl (mT2 18 rfl rfl)⟩
theorem lfX0_24 : LkF RX0 24 2 2 := ⟨_, ckX2, by decide, Or.inr ⟨_, nT1 210 rfl rfl⟩⟩
theorem lfX0_30 : LkF RX0 30 7 3 := ⟨_, ckX7, by decide, Or.inr ⟨_, nT1 34 rfl rfl⟩⟩
theorem lfX1_14 : LkF RX1 14 1 0 := ⟨_, ckX1, by decide, Or.inl (mT1 172 rfl rfl)⟩
theorem lfX1_20 : LkF RX1 20 1 1 := ⟨_, ckX1, by decide, Or.inl (mT1 173 rfl rfl)⟩
theorem lfX1_23 : LkF RX1 23 1 2 := ⟨_, ckX1, by decide, Or.inl (mT1 174 rfl rfl)⟩
theorem lfX1_27 : LkF RX1 27 1 3 := ⟨_, ckX1, by decide, Or.inl (mT1 175 rfl rfl)⟩
theorem lfX1_30 : LkF RX1 30 1 4 := ⟨_, ckX1, by decide, Or.inl (mT1 176 rfl rfl)⟩
theorem lfX1_33 : LkF RX1 33 1 5 := ⟨_, ckX1, by decide, Or.inl (mT1 177 rfl rfl)⟩
theorem lfX1_36 : LkF RX1 36 1 6 := ⟨_, ckX1, by decide, Or.inl (mT1 178 rfl rfl)⟩
theorem lfX1_40 : LkF RX1 40 1 7 := ⟨_, ckX1, by decide, Or.inl (mT1 179 rfl rfl)⟩
theorem lfX1_43 : LkF RX1 43 1 8 := ⟨_, ckX1, by decide, Or.inl (mT1 180 rfl rfl)⟩
theorem lfX1_64 : LkF RX1 64 6 3 := ⟨_, ckX6, by decide, Or.inr ⟨_, nT1 158 rfl rfl⟩⟩
theorem lfX1_68 : LkF RX1 68 6 4 := ⟨_, ckX6, by decide, Or.inr ⟨_, nT1 160 rfl rfl⟩⟩
theorem lfX1_72 : LkF RX1 72 7 3 := ⟨_, ckX7, by decide, Or.inr ⟨_, nT1 38 rfl rfl⟩⟩
theorem lfX1_122 : LkF RX1 122 6 2 := ⟨_, ckX6, by decide, Or.inr ⟨_, nT1 156 rfl rfl⟩⟩
theorem lfX1_140 : LkF RX1 140 6 1 := ⟨_, ckX6, by decide, Or.inr ⟨_, nT1 154 rfl rfl⟩⟩
theorem lfX1_143 : LkF RX1 143 6 0 := ⟨_, ckX6, by decide, Or.inr ⟨_, nT1 152 rfl rfl⟩⟩
theorem lfX2_9 : LkF RX2 9 2 0 := ⟨_, ckX2, by decide, Or.inl (mT1 207 rfl rfl)⟩
theorem lfX2_15 : LkF RX2 15 2 1 := ⟨_, ckX2, by decide, Or.inl (mT1 208 rfl rfl)⟩
theorem lfX2_18 : LkF RX2 18 2 2 := ⟨_, ckX2, by decide, Or.inl (mT1 209 rfl rfl)⟩
theorem lfX2_22 : LkF RX2 22 7 3 := ⟨_, ckX7, by decide, Or.inr ⟨_, nT1 35 rfl rfl⟩⟩
theorem lfX3_9 : LkF RX3 9 3 0 := ⟨_, ckX3, by decide, Or.inl (mT1 92 rfl rfl)⟩
theorem lfX3_15 : LkF RX3 15 3 1 := ⟨_, ckX3, by decide, Or.inl (mT1 96 rfl rfl)⟩
theorem lfX3_18 : LkF RX3 18 3 2 := ⟨_, ckX3, by decide, Or.inl (mT1 99 rfl rfl)⟩
theorem lfX3_21 : LkF RX3 21 3 3 := ⟨_, ckX3, by decide, Or.inl (mT1 101 rfl rfl)⟩
theorem lfX3_24 : LkF RX3 24 7 2 := ⟨_, ckX7, by decide, Or.inr ⟨_, nT1 31 rfl rfl⟩⟩
theorem lfX3_30 : LkF RX3 30 7 8 := ⟨_, ckX7, by decide, Or.inr ⟨_, nT1 58 rfl rfl⟩⟩
theorem lfX3_31 : LkF RX3 31 7 6 := ⟨_, ckX7, by decide, Or.inr ⟨_, nT1 50 rfl rfl⟩⟩
theorem lfX3_32 : LkF RX3 32 7 9 := ⟨_, ckX7, by decide, Or.inr ⟨_, nT1 62 rfl rfl⟩⟩
theorem lfX3_40 : LkF RX3 40 7 7 := ⟨_, ckX7, by decide, Or.inr ⟨_, nT1 54 rfl rfl⟩⟩
theorem lfX4_9 : LkF RX4 9 4 0 := ⟨_, ckX4, by decide, Or.inl (mT1 120 rfl rfl)⟩
theorem lfX4_15 : LkF RX4 15 4 1 := ⟨_, ckX4, by decide, Or.inl (mT1 121 rfl rfl)⟩
theorem lfX4_18 : LkF RX4 18 4 2 := ⟨_, ckX4, by decide, Or.inl (mT1 122 rfl rfl)⟩
theorem lfX4_28 : LkF RX4 28 7 7 := ⟨_, ckX7, by decide, Or.inr ⟨_, nT1 53 rfl rfl⟩⟩
theorem lfX4_34 : LkF RX4 34 7 8 := ⟨_, ckX7, by decide, Or.inr ⟨_, nT1 57 rfl rfl⟩⟩
theorem lfX4_37 : LkF RX4 37 7 9 := ⟨_, ckX7, by decide, Or.inr ⟨_, nT1 61 rfl rfl⟩⟩
theorem lfX4_44 : LkF RX4 44 7 6 := ⟨_, ckX7, by decide, Or.inr ⟨_, nT1 49 rfl rfl⟩⟩
theorem lfX5_9 : LkF RX5 9 5 0 := ⟨_, ckX5, by decide, Or.inl (mT1 230 rfl rfl)⟩
theorem lfX5_15 : LkF RX5 15 5 1 := ⟨_, ckX5, by decide, Or.inl (mT1 231 rfl rfl)⟩
theorem lfX5_18 : LkF RX5 18 5 2 := ⟨_, ckX5, by decide, Or.inl (mT1 232 rfl rfl)⟩
theorem lfX5_21 : LkF RX5 21 5 3 := ⟨_, ckX5, by decide, Or.inl (mT1 233 rfl rfl)⟩
theorem lfX5_27 : LkF RX5 27 5 4 := ⟨_, ckX5, by decide, Or.inl (mT1 234 rfl rfl)⟩
theorem lfX5_34 : LkF RX5 34 5 5 := ⟨_, ckX5, by decide, Or.inl (mT1 235 rfl rfl)⟩
theorem lfX5_38 : LkF RX5 38 2 2 := ⟨_, ckX2, by decide, Or.inr ⟨_, nT1 211 rfl rfl⟩⟩
theorem lfX5_52 : LkF RX5 52 7 3 := ⟨_, ckX7, by decide, Or.inr ⟨_, nT1 36 rfl rfl⟩⟩
theorem lfX5_57 : LkF RX5 57 7 4 := ⟨_, ckX7, by decide, Or.inr ⟨_, nT1 41 rfl rfl⟩⟩
theorem lfX5_90 : LkF RX5 90 3 0 := ⟨_, ckX3, by decide, Or.inr ⟨_, nT1 93 rfl rfl⟩⟩
theorem lfX5_93 : LkF RX5 93 3 3 := ⟨_, ckX3, by decide, Or.inr ⟨_, nT1 102 rfl rfl⟩⟩
theorem lfX6_7 : LkF RX6 7 6 2 := ⟨_, ckX6, by decide, Or.inl (mT1 155 rfl rfl)⟩
theorem lfX6_13 : LkF RX6 13 6 3 := ⟨_, ckX6, by decide, Or.inl (mT1 157 rfl rfl)⟩
theorem lfX6_27 : LkF RX6 27 7 4 := ⟨_, ckX7, by decide, Or.inr ⟨_, nT1 42 rfl rfl⟩⟩
theorem lfX6_32 : LkF RX6 32 7 3 := ⟨_, ckX7, by decide, Or.inr ⟨_, nT1 37 rfl rfl⟩⟩
theorem lfX7_9 : LkF RX7 9 7 0 := ⟨_, ckX7, by decide, Or.inl (mT1 27 rfl rfl)⟩
theorem lfX7_19 : LkF RX7 19 7 2 := ⟨_, ckX7, by decide, Or.inl (mT1 30 rfl rfl)⟩
theorem lfX7_23 : LkF RX7 23 7 3 := ⟨_, ckX7, by decide, Or.inl (mT1 33 rfl rfl)⟩
theorem lfX7_26 : LkF RX7 26 7 4 := ⟨_, ckX7, by decide, Or.inl (mT1 40 rfl rfl)⟩
theorem lfX7_32 : LkF RX7 32 7 6 := ⟨_, ckX7, by decide, Or.inl (mT1 48 rfl rfl)⟩
theorem lfX7_36 : LkF RX7 36 7 7 := ⟨_, ckX7, by decide, Or.inl (mT1 52 rfl rfl)⟩
theorem lfX7_39 : LkF RX7 39 7 8 := ⟨_, ckX7, by decide, Or.inl (mT1 56 rfl rfl)⟩
theorem lfX7_42 : LkF RX7 42 7 9 := ⟨_, ckX7, by decide, Or.inl (mT1 60 rfl rfl)⟩
theorem lfX7_59 : LkF RX7 59 3 0 := ⟨_, ckX3, by decide, Or.inr ⟨_, nT1 94 rfl rfl⟩⟩
theorem lfX7_62 : LkF RX7 62 3 1 := ⟨_, ckX3, by decide, Or.inr ⟨_, nT1 97 rfl rfl⟩⟩
theorem lfX7_63 : LkF RX7 63 3 2 := ⟨_, ckX3, by decide, Or.inr ⟨_, nT1 100 rfl rfl⟩⟩
theorem lfX7_64 : LkF RX7 64 3 3 := ⟨_, ckX3, by decide, Or.inr ⟨_, nT1 103 rfl rfl⟩⟩
theorem lfX7_71 : LkF RX7 71 4 2 := ⟨_, ckX4, by decide, Or.inr ⟨_, nT1 123 rfl rfl⟩⟩
theorem lfX8_11 : LkF RX8 11 8 0 := ⟨_, ckX8, by decide, Or.inl (mT2 43 rfl rfl)⟩
theorem lfX8_16 : LkF RX8 16 8 1 := ⟨_, ckX8, by decide, Or.inl (mT2 44 rfl rfl)⟩
theorem lfX8_20 : LkF RX8 20 8 2 := ⟨_, ckX8, by decide, Or.inl (mT2 45 rfl rfl)⟩
theorem lfX8_24 : LkF RX8 24 8 3 := ⟨_, ckX8, by decide, Or.inl (mT2 46 rfl rfl)⟩
theorem lfX8_27 : LkF RX8 27 8 4 := ⟨_, ckX8, by decide, Or.inl (mT2 47 rfl rfl)⟩
theorem lfX8_31 : LkF RX8 31 8 5 := ⟨_, ckX8, by decide, Or.inl (mT2 48 rfl rfl)⟩
theorem lfX8_37 : LkF RX8 37 8 6 := ⟨_, ckX8, by decide, Or.inl (mT2 49 rfl rfl)⟩
theorem lfX8_44 : LkF RX8 44 8 7 := ⟨_, ckX8, by decide, Or.inl (mT2 50 rfl rfl)⟩
theorem lfX8_51 : LkF RX8 51 8 8 := ⟨_, ckX8, by decide, Or.inl (mT2 51 rfl rfl)⟩
theorem lfX8_58 : LkF RX8 58 8 9 := ⟨_, ckX8, by decide, Or.inl (mT2 52 rfl rfl)⟩
theorem lfX8_65 : LkF RX8 65 8 10 := ⟨_, ckX8, by decide, Or.inl (mT2 53 rfl rfl)⟩
theorem lfX8_72 : LkF RX8 72 8 11 := ⟨_, ckX8, by decide, Or.inl (mT2 54 rfl rfl)⟩
theorem lfX8_144 : LkF RX8 144 7 2 := ⟨_, ckX7, by decide, Or.inr ⟨_, nT1 32 rfl rfl⟩⟩
theorem lfX8_151 : LkF RX8 151 3 3 := ⟨_, ckX3, by decide, Or.inr ⟨_, nT1 104 rfl rfl⟩⟩
theorem lfX8_159 : LkF RX8 159 7 1 := ⟨_, ckX7, by decide, Or.inr ⟨_, nT1 29 rfl rfl⟩⟩
theorem lfX8_166 : LkF RX8 166 7 3 := ⟨_, ckX7, by decide, Or.inr ⟨_, nT1 39 rfl rfl⟩⟩
theorem lfX8_169 : LkF RX8 169 7 4 := ⟨_, ckX7, by decide, Or.inr ⟨_, nT1 44 rfl rfl⟩⟩
theorem lfX8_172 : LkF RX8 172 7 5 := ⟨_, ckX7, by decide, Or.inr ⟨_, nT1 47 rfl rfl⟩⟩
theorem lfX8_187 : LkF RX8 187 7 6 := ⟨_, ckX7, by decide, Or.inr ⟨_, nT1 51 rfl rfl⟩⟩
theorem lfX8_190 : LkF RX8 190 7 9 := ⟨_, ckX7, by decide, Or.inr ⟨_, nT1 63 rfl rfl⟩⟩
theorem lfX8_202 : LkF RX8 202 4 3 := ⟨_, ckX4, by decide, Or.inr ⟨_, nT1 125 rfl rfl⟩⟩
theorem lfX8_205 : LkF RX8 205 4 4 := ⟨_, ckX4, by decide, Or.inr ⟨_, nT1 127 rfl rfl⟩⟩
theorem lfX8_221 : LkF RX8 221 2 2 := ⟨_, ckX2, by decide, Or.inr ⟨_, nT1 212 rfl rfl⟩⟩
theorem lfX8_254 : LkF RX8 254 1 8 := ⟨_, ckX1, by decide, Or.inr ⟨_, nT1 181 rfl rfl⟩⟩
theorem lfX8_267 : LkF RX8 267 3 1 := ⟨_, ckX3, by decide, Or.inr ⟨_, nT1 98 rfl rfl⟩⟩
theorem lfX8_270 : LkF RX8 270 3 0 := ⟨_, ckX3, by decide, Or.inr ⟨_, nT1 95 rfl rfl⟩⟩
theorem lfX8_282 : LkF RX8 282 7 8 := ⟨_, ckX7, by decide, Or.inr ⟨_, nT1 59 rfl rfl⟩⟩
theorem lfX8_285 : LkF RX8 285 7 7 := ⟨_, ckX7, by decide, Or.inr ⟨_, nT1 55 rfl rfl⟩⟩
theorem lfX9_7 : LkF RX9 7 9 1 := ⟨_, ckX9, by decide, Or.inl (mT4 8 rfl rfl)⟩
theorem lfX9_13 : LkF RX9 13 9 2 := ⟨_, ckX9, by decide, Or.inl (mT4 9 rfl rfl)⟩
theorem lfX9_17 : LkF RX9 17 9 3 := ⟨_, ckX9, by decide, Or.inl (mT4 10 rfl rfl)⟩
theorem lfX9_20 : LkF RX9 20 9 4 := ⟨_, ckX9, by decide, Or.inl (mT4 11 rfl rfl)⟩
theorem lfX9_23 : LkF RX9 23 9 5 := ⟨_, ckX9, by decide, Or.inl (mT4 12 rfl rfl)⟩
theorem lfX9_27 : LkF RX9 27 9 6 := ⟨_, ckX9, by decide, Or.inl (mT4 13 rfl rfl)⟩
theorem lfX9_30 : LkF RX9 30 9 7 := ⟨_, ckX9, by decide, Or.inl (mT4 14 rfl rfl)⟩
theorem lfX9_33 : LkF RX9 33 9 8 := ⟨_, ckX9, by decide, Or.inl (mT4 15 rfl rfl)⟩
theorem lfX9_36 : LkF RX9 36 9 9 := ⟨_, ckX9, by decide, Or.inl (mT4 16 rfl rfl)⟩
theorem lfX9_39 : LkF RX9 39 9 12 := ⟨_, ckX9, by decide, Or.inl (mT4 19 rfl rfl)⟩
theorem lfX9_42 : LkF RX9 42 9 13 := ⟨_, ckX9, by decide, Or.inl (mT4 20 rfl rfl)⟩
theorem lfX9_45 : LkF RX9 45 9 14 := ⟨_, ckX9, by decide, Or.inl (mT4 21 rfl rfl)⟩
theorem lfX9_48 : LkF RX9 48 9 19 := ⟨_, ckX9, by decide, Or.inl (mT4 26 rfl rfl)⟩
theorem lfX9_51 : LkF RX9 51 9 20 := ⟨_, ckX9, by decide, Or.inl (mT4 27 rfl rfl)⟩
theorem lfX9_54 : LkF RX9 54 9 21 := ⟨_, ckX9, by decide, Or.inl (mT4 28 rfl rfl)⟩
theorem lfX9_57 : LkF RX9 57 9 23 := ⟨_, ckX9, by decide, Or.inl (mT4 30 rfl rfl)⟩
theorem lfX9_60 : LkF RX9 60 9 24 := ⟨_, ckX9, by decide, Or.inl (mT4 31 rfl rfl)⟩
theorem lfX9_69 : LkF RX9 69 9 0 := ⟨_, ckX9, by decide, Or.inl (mT4 7 rfl rfl)⟩
theorem lfX9_79 : LkF RX9 79 9 10 := ⟨_, ckX9, by decide, Or.inl (mT4 17 rfl rfl)⟩
theorem lfX9_138 : LkF RX9 138 9 11 := ⟨_, ckX9, by decide, Or.inl (mT4 18 rfl rfl)⟩
theorem lfX9_145 : LkF RX9 145 9 17 := ⟨_, ckX9, by decide, Or.inl (mT4 24 rfl rfl)⟩
theorem lfX9_157 : LkF RX9 157 9 15 := ⟨_, ckX9, by decide, Or.inl (mT4 22 rfl rfl)⟩
theorem lfX9_160 : LkF RX9 160 9 16 := ⟨_, ckX9, by decide, Or.inl (mT4 23 rfl rfl)⟩
theorem lfX9_163 : LkF RX9 163 9 18 := ⟨_, ckX9, by decide, Or.inl (mT4 25 rfl rfl)⟩
theorem lfX9_207 : LkF RX9 207 9 22 := ⟨_, ckX9, by decide, Or.inl (mT4 29 rfl rfl)⟩
theorem lfX9_214 : LkF RX9 214 9 25 := ⟨_, ckX9, by decide, Or.inl (mT4 32 rfl rfl)⟩
theorem lfX9_259 : LkF RX9 259 9 26 := ⟨_, ckX9, by decide, Or.inl (mT4 33 rfl rfl)⟩
theorem lfX9_262 : LkF RX9 262 9 27 := ⟨_, ckX9, by decide, Or.inl (mT4 34 rfl rfl)⟩
theorem lfX9_265 : LkF RX9 265 9 28 := ⟨_, ckX9, by decide, Or.inl (mT4 35 rfl rfl)⟩
theorem lfX9_268 : LkF RX9 268 9 29 := ⟨_, ckX9, by decide, Or.inl (mT4 36 rfl rfl)⟩
theorem lfX9_271 : LkF RX9 271 9 30 := ⟨_, ckX9, by decide, Or.inl (mT4 37 rfl rfl)⟩
theorem lfX9_274 : LkF RX9 274 9 31 := ⟨_, ckX9, by decide, Or.inl (mT4 38 rfl rfl)⟩
theorem lfX9_284 : LkF RX9 284 9 32 := ⟨_, ckX9, by decide, Or.inl (mT4 39 rfl rfl)⟩
theorem lfX9_287 : LkF RX9 287 9 33 := ⟨_, ckX9, by decide, Or.inl (mT4 40 rfl rfl)⟩
theorem lfX9_290 : LkF RX9 290 9 34 := ⟨_, ckX9, by decide, Or.inl (mT4 41 rfl rfl)⟩
theorem lfX9_293 : LkF RX9 293 9 35 := ⟨_, ckX9, by decide, Or.inl (mT4 42 rfl rfl)⟩
theorem lpX0_9 : LkP RX0 9 0 0 := ⟨_, ckX0, by decide, rfl, Or.inl (mT2 15 rfl rfl)⟩
theorem lpX0_15 : LkP RX0 15 0 1 := ⟨_, ckX0, by decide, rfl, Or.inl (mT2 16 rfl rfl)⟩
theorem lpX0_18 : LkP RX0 18 0 2 := ⟨_, ckX0, by decide, rfl, Or.inl (mT2 17 rfl rfl)⟩
theorem lpX0_21 : LkP RX0 21 0 3 := ⟨_, ckX0, by decide, rfl, Or.inl (mT2 18 rfl rfl)⟩
theorem lpX1_36 : LkP RX1 36 1 6 := ⟨_, ckX1, by decide, rfl, Or.inl (mT1 178 rfl rfl)⟩
theorem lpX1_43 : LkP RX1 43 1 8 := ⟨_, ckX1, by decide, rfl, Or.inl (mT1 180 rfl rfl)⟩
theorem lpX1_64 : LkP RX1 64 6 3 := ⟨_, ckX6, by decide, rfl, Or.inr ⟨_, nT1 158 rfl rfl⟩⟩
theorem lpX1_67 : LkP RX1 67 7 5 := ⟨_, ckX7, by decide, rfl, Or.inr ⟨_, nT1 46 rfl rfl⟩⟩
theorem lpX1_68 : LkP RX1 68 6 4 := ⟨_, ckX6, by decide, rfl, Or.inr ⟨_, nT1 160 rfl rfl⟩⟩
theorem lpX1_75 : LkP RX1 75 7 4 := ⟨_, ckX7, by decide, rfl, Or.inr ⟨_, nT1 43 rfl rfl⟩⟩
theorem lpX2_18 : LkP RX2 18 2 2 := ⟨_, ckX2, by decide, rfl, Or.inl (mT1 209 rfl rfl)⟩
theorem lpX3_9 : LkP RX3 9 3 0 := ⟨_, ckX3, by decide, rfl, Or.inl (mT1 92 rfl rfl)⟩
theorem lpX3_15 : LkP RX3 15 3 1 := ⟨_, ckX3, by decide, rfl, Or.inl (mT1 96 rfl rfl)⟩
theorem lpX3_18 : LkP RX3 18 3 2 := ⟨_, ckX3, by decide, rfl, Or.inl (mT1 99 rfl rfl)⟩
theorem lpX3_21 : LkP RX3 21 3 3 := ⟨_, ckX3, by decide, rfl, Or.inl (mT1 101 rfl rfl)⟩
theorem lpX4_21 : LkP RX4 21 4 3 := ⟨_, ckX4, by decide, rfl, Or.inl (mT1 124 rfl rfl)⟩
theorem lpX4_25 : LkP RX4 25 4 4 := ⟨_, ckX4, by decide, rfl, Or.inl (mT1 126 rfl rfl)⟩
theorem lpX5_9 : LkP RX5 9 5 0 := ⟨_, ckX5, by decide, rfl, Or.inl (mT1 230 rfl rfl)⟩
theorem lpX5_15 : LkP RX5 15 5 1 := ⟨_, ckX5, by decide, rfl, Or.inl (mT1 231 rfl rfl)⟩
theorem lpX5_18 : LkP RX5 18 5 2 := ⟨_, ckX5, by decide, rfl, Or.inl (mT1 232 rfl rfl)⟩
theorem lpX5_21 : LkP RX5 21 5 3 := ⟨_, ckX5, by decide, rfl, Or.inl (mT1 233 rfl rfl)⟩
theorem lpX6_7 : LkP RX6 7 6 2 := ⟨_, ckX6, by decide, rfl, Or.inl (mT1 155 rfl rfl)⟩
theorem lpX6_13 : LkP RX6 13 6 3 := ⟨_, ckX6, by decide, rfl, Or.inl (mT1 157 rfl rfl)⟩
theorem lpX6_17 : LkP RX6 17 6 4 := ⟨_, ckX6, by decide, rfl, Or.inl (mT1 159 rfl rfl)⟩
theorem lpX7_15 : LkP RX7 15 7 1 := ⟨_, ckX7, by decide, rfl, Or.inl (mT1 28 rfl rfl)⟩
theorem lpX7_19 : LkP RX7 19 7 2 := ⟨_, ckX7, by decide, rfl, Or.inl (mT1 30 rfl rfl)⟩
theorem lpX7_23 : LkP RX7 23 7 3 := ⟨_, ckX7, by decide, rfl, Or.inl (mT1 33 rfl rfl)⟩
theorem lpX7_26 : LkP RX7 26 7 4 := ⟨_, ckX7, by decide, rfl, Or.inl (mT1 40 rfl rfl)⟩
theorem lpX7_29 : LkP RX7 29 7 5 := ⟨_, ckX7, by decide, rfl, Or.inl (mT1 45 rfl rfl)⟩
theorem lpX7_32 : LkP RX7 32 7 6 := ⟨_, ckX7, by decide, rfl, Or.inl (mT1 48 rfl rfl)⟩
theorem lpX7_36 : LkP RX7 36 7 7 := ⟨_, ckX7, by decide, rfl, Or.inl (mT1 52 rfl rfl)⟩
theorem lpX7_39 : LkP RX7 39 7 8 := ⟨_, ckX7, by decide, rfl, Or.inl (mT1 56 rfl rfl)⟩
theorem lpX7_42 : LkP RX7 42 7 9 := ⟨_, ckX7, by decide, rfl, Or.inl (mT1 60 rfl rfl)⟩
theorem lpX8_27 : LkP RX8 27 8 4 := ⟨_, ckX8, by decide, rfl, Or.inl (mT2 47 rfl rfl)⟩
theorem lpX8_159 : LkP RX8 159 7 1 := ⟨_, ckX7, by decide, rfl, Or.inr ⟨_, nT1 29 rfl rfl⟩⟩
theorem lpX9_69 : LkP RX9 69 9 0 := ⟨_, ckX9, by decide, rfl, Or.inl (mT4 7 rfl rfl)⟩
theorem lpX9_79 : LkP RX9 79 9 10 := ⟨_, ckX9, by decide, rfl, Or.inl (mT4 17 rfl rfl)⟩
theorem lpX9_138 : LkP RX9 138 9 11 := ⟨_, ckX9, by decide, rfl, Or.inl (mT4 18 rfl rfl)⟩
theorem lpX9_145 : LkP RX9 145 9 17 := ⟨_, ckX9, by decide, rfl, Or.inl (mT4 24 rfl rfl)⟩
theorem lpX9_157 : LkP RX9 157 9 15 := ⟨_, ckX9, by decide, rfl, Or.inl (mT4 22 rfl rfl)⟩
theorem lpX9_160 : LkP RX9 160 9 16 := ⟨_, ckX9, by decide, rfl, Or.inl (mT4 23 rfl rfl)⟩
theorem lpX9_163 : LkP RX9 163 9 18 := ⟨_, ckX9, by decide, rfl, Or.inl (mT4 25 rfl rfl)⟩
theorem lpX9_207 : LkP RX9 207 9 22 := ⟨_, ckX9, by decide, rfl, Or.inl (mT4 29 rfl rfl)⟩
theorem lpX9_214 : LkP RX9 214 9 25 := ⟨_, ckX9, by decide, rfl, Or.inl (mT4 32 rfl rfl)⟩
theorem lpX9_259 : LkP RX9 259 9 26 := ⟨_, ckX9, by decide, rfl, Or.inl (mT4 33 rfl rfl)⟩
theorem lpX9_262 : LkP RX9 262 9 27 := ⟨_, ckX9, by decide, rfl, Or.inl (mT4 34 rfl rfl)⟩
theorem lpX9_265 : LkP RX9 265 9 28 := ⟨_, ckX9, by decide, rfl, Or.inl (mT4 35 rfl rfl)⟩
theorem lpX9_268 : LkP RX9 268 9 29 := ⟨_, ckX9, by decide, rfl, Or.inl (mT4 36 rfl rfl)⟩
theorem lpX9_271 : LkP RX9 271 9 30 := ⟨_, ckX9, by decide, rfl, Or.inl (mT4 37 rfl rfl)⟩
theorem lpX9_274 : LkP RX9 274 9 31 := ⟨_, ckX9, by decide, rfl, Or.inl (mT4 38 rfl rfl)⟩
theorem lpX9_284 : LkP RX9 284 9 32 := ⟨_, ckX9, by decide, rfl, Or.inl (mT4 39 rfl rfl)⟩
theorem lpX9_287 : LkP RX9 287 9 33 := ⟨_, ckX9, by decide, rfl, Or.inl (mT4 40 rfl rfl)⟩
theorem lpX9_290 : LkP RX9 290 9 34 := ⟨_, ckX9, by decide, rfl, Or.inl (mT4 41 rfl rfl)⟩
theorem lpX9_293 : LkP RX9 293 9 35 := ⟨_, ckX9, by decide, rfl, Or.inl (mT4 42 rfl rfl)⟩
theorem lqX1_14 : LkQ RX1 14 1 0 := ⟨_, ckX1, by decide, rfl, rfl, mT1 172 rfl rfl⟩
theorem lqX1_20 : LkQ RX1 20 1 1 := ⟨_, ckX1, by decide, rfl, rfl, mT1 173 rfl rfl⟩
theorem lqX1_23 : LkQ RX1 23 1 2 := ⟨_, ckX1, by decide, rfl, rfl, mT1 174 rfl rfl⟩
theorem lqX1_27 : LkQ RX1 27 1 3 := ⟨_, ckX1, by decide, rfl, rfl, mT1 175 rfl rfl⟩
theorem lqX1_30 : LkQ RX1 30 1 4 := ⟨_, ckX1, by decide, rfl, rfl, mT1 176 rfl rfl⟩
theorem lqX1_33 : LkQ RX1 33 1 5 := ⟨_, ckX1, by decide, rfl, rfl, mT1 177 rfl rfl⟩
theorem lqX1_40 : LkQ RX1 40 1 7 := ⟨_, ckX1, by decide, rfl, rfl, mT1 179 rfl rfl⟩
theorem lqX2_9 : LkQ RX2 9 2 0 := ⟨_, ckX2, by decide, rfl, rfl, mT1 207 rfl rfl⟩
theorem lqX2_15 : LkQ RX2 15 2 1 := ⟨_, ckX2, by decide, rfl, rfl, mT1 208 rfl rfl⟩
theorem lqX4_9 : LkQ RX4 9 4 0 := ⟨_, ckX4, by decide, rfl, rfl, mT1 120 rfl rfl⟩
theorem lqX4_15 : LkQ RX4 15 4 1 := ⟨_, ckX4, by decide, rfl, rfl, mT1 121 rfl rfl⟩
theorem lqX4_18 : LkQ RX4 18 4 2 := ⟨_, ckX4, by decide, rfl, rfl, mT1 122 rfl rfl⟩
theorem lqX5_27 : LkQ RX5 27 5 4 := ⟨_, ckX5, by decide, rfl, rfl, mT1 234 rfl rfl⟩
theorem lqX5_34 : LkQ RX5 34 5 5 := ⟨_, ckX5, by decide, rfl, rfl, mT1 235 rfl rfl⟩
theorem lqX6_21 : LkQ RX6 21 6 0 := ⟨_, ckX6, by decide, rfl, rfl, mT1 151 rfl rfl⟩
theorem lqX6_24 : LkQ RX6 24 6 1 := ⟨_, ckX6, by decide, rfl, rfl, mT1 153 rfl rfl⟩
theorem lqX7_9 : LkQ RX7 9 7 0 := ⟨_, ckX7, by decide, rfl, rfl, mT1 27 rfl rfl⟩
theorem lqX8_11 : LkQ RX8 11 8 0 := ⟨_, ckX8, by decide, rfl, rfl, mT2 43 rfl rfl⟩
theorem lqX8_16 : LkQ RX8 16 8 1 := ⟨_, ckX8, by decide, rfl, rfl, mT2 44 rfl rfl⟩
theorem lqX8_20 : LkQ RX8 20 8 2 := ⟨_, ckX8, by decide, rfl, rfl, mT2 45 rfl rfl⟩
theorem lqX8_24 : LkQ RX8 24 8 3 := ⟨_, ckX8, by decide, rfl, rfl, mT2 46 rfl rfl⟩
theorem lqX8_31 : LkQ RX8 31 8 5 := ⟨_, ckX8, by decide, rfl, rfl, mT2 48 rfl rfl⟩
theorem lqX8_37 : LkQ RX8 37 8 6 := ⟨_, ckX8, by decide, rfl, rfl, mT2 49 rfl rfl⟩
theorem lqX8_44 : LkQ RX8 44 8 7 := ⟨_, ckX8, by decide, rfl, rfl, mT2 50 rfl rfl⟩
theorem lqX8_51 : LkQ RX8 51 8 8 := ⟨_, ckX8, by decide, rfl, rfl, mT2 51 rfl rfl⟩
theorem lqX8_58 : LkQ RX8 58 8 9 := ⟨_, ckX8, by decide, rfl, rfl, mT2 52 rfl rfl⟩
theorem lqX8_65 : LkQ RX8 65 8 10 := ⟨_, ckX8, by decide, rfl, rfl, mT2 53 rfl rfl⟩
theorem lqX8_72 : LkQ RX8 72 8 11 := ⟨_, ckX8, by decide, rfl, rfl, mT2 54 rfl rfl⟩
theorem lqX9_7 : LkQ RX9 7 9 1 := ⟨_, ckX9, by decide, rfl, rfl, mT4 8 rfl rfl⟩
theorem lqX9_13 : LkQ RX9 13 9 2 := ⟨_, ckX9, by decide, rfl, rfl, mT4 9 rfl rfl⟩
theorem lqX9_17 : LkQ RX9 17 9 3 := ⟨_, ckX9, by decide, rfl, rfl, mT4 10 rfl rfl⟩
theorem lqX9_20 : LkQ RX9 20 9 4 := ⟨_, ckX9, by decide, rfl, rfl, mT4 11 rfl rfl⟩
theorem lqX9_23 : LkQ RX9 23 9 5 := ⟨_, ckX9, by decide, rfl, rfl, mT4 12 rfl rfl⟩
theorem lqX9_27 : LkQ RX9 27 9 6 := ⟨_, ckX9, by decide, rfl, rfl, mT4 13 rfl rfl⟩
theorem lqX9_30 : LkQ RX9 30 9 7 := ⟨_, ckX9, by decide, rfl, rfl, mT4 14 rfl rfl⟩
theorem lqX9_33 : LkQ RX9 33 9 8 := ⟨_, ckX9, by decide, rfl, rfl, mT4 15 rfl rfl⟩
theorem lqX9_36 : LkQ RX9 36 9 9 := ⟨_, ckX9, by decide, rfl, rfl, mT4 16 rfl rfl⟩
theorem lqX9_39 : LkQ RX9 39 9 12 := ⟨_, ckX9, by decide, rfl, rfl, mT4 19 rfl rfl⟩
theorem lqX9_42 : LkQ RX9 42 9 13 := ⟨_, ckX9, by decide, rfl, rfl, mT4 20 rfl rfl⟩
theorem lqX9_45 : LkQ RX9 45 9 14 := ⟨_, ckX9, by decide, rfl, rfl, mT4 21 rfl rfl⟩
theorem lqX9_48 : LkQ RX9 48 9 19 := ⟨_, ckX9, by decide, rfl, rfl, mT4 26 rfl rfl⟩
theorem lqX9_51 : LkQ RX9 51 9 20 := ⟨_, ckX9, by decide, rfl, rfl, mT4 27 rfl rfl⟩
theorem lqX9_54 : LkQ RX9 54 9 21 := ⟨_, ckX9, by decide, rfl, rfl, mT4 28 rfl rfl⟩
theorem lqX9_57 : LkQ RX9 57 9 23 := ⟨_, ckX9, by decide, rfl, rfl, mT4 30 rfl rfl⟩
theorem lqX9_60 : LkQ RX9 60 9 24 := ⟨_, ckX9, by decide, rfl, rfl, mT4 31 rfl rfl⟩
theorem lnL_7 : LkN RL 7 8 12 := ⟨_, ckX8, rfl, mT1 12 rfl rfl, mT1 13 rfl rfl, mT1 1 rfl rfl, by decide⟩
theorem lnL_10 : LkN RL 10 9 36 := ⟨_, ckX9, rfl, mT4 1 rfl rfl, mT4 2 rfl rfl, mT1 11 rfl rfl, by decide⟩
theorem lnX1_9 : LkN RX1 9 6 5 := ⟨_, ckX6, rfl, mT1 145 rfl rfl, mT1 146 rfl rfl, mT1 6 rfl rfl, by decide⟩
theorem lnX5_24 : LkN RX5 24 3 4 := ⟨_, ckX3, rfl, mT1 226 rfl rfl, mT1 87 rfl rfl, mT1 3 rfl rfl, by decide⟩
theorem lnX5_31 : LkN RX5 31 7 10 := ⟨_, ckX7, rfl, mT1 228 rfl rfl, mT1 22 rfl rfl, mT1 2 rfl rfl, by decide⟩
theorem lnX8_9 : LkN RX8 9 7 10 := ⟨_, ckX7, rfl, mT1 20 rfl rfl, mT1 22 rfl rfl, mT1 2 rfl rfl, by decide⟩
theorem lnX8_34 : LkN RX8 34 3 4 := ⟨_, ckX3, rfl, mT1 86 rfl rfl, mT1 87 rfl rfl, mT1 3 rfl rfl, by decide⟩
theorem lnX8_41 : LkN RX8 41 4 5 := ⟨_, ckX4, rfl, mT1 114 rfl rfl, mT1 115 rfl rfl, mT1 4 rfl rfl, by decide⟩
theorem lnX8_48 : LkN RX8 48 1 9 := ⟨_, ckX1, rfl, mT1 139 rfl rfl, mT1 140 rfl rfl, mT1 5 rfl rfl, by decide⟩
theorem lnX8_55 : LkN RX8 55 2 3 := ⟨_, ckX2, rfl, mT1 201 rfl rfl, mT1 202 rfl rfl, mT1 7 rfl rfl, by decide⟩
theorem lnX8_62 : LkN RX8 62 5 6 := ⟨_, ckX5, rfl, mT1 220 rfl rfl, mT1 221 rfl rfl, mT1 8 rfl rfl, by decide⟩
theorem lnX8_69 : LkN RX8 69 0 4 := ⟨_, ckX0, rfl, mT2 9 rfl rfl, mT2 10 rfl rfl, mT1 9 rfl rfl, by decide⟩
theorem lkL_13 : Jvm.Cond.constantLong RL 13 (4294967295) ∈ lwG := mT5 141 rfl rfl
theorem lkX0_35 : Jvm.Cond.constantLong RX0 35 (-2000000000000000005) ∈ lwG := mT3 195 rfl rfl
theorem lkX0_41 : Jvm.Cond.constantLong RX0 41 (36) ∈ lwG := mT3 197 rfl rfl
theorem lkX0_62 : Jvm.Cond.constantLong RX0 62 (-2000000000000000006) ∈ lwG := mT3 219 rfl rfl
theorem lkX1_153 : Jvm.Cond.constantLong RX1 153 (-2000000000000000002) ∈ lwG := mT3 232 rfl rfl
theorem lkX2_51 : Jvm.Cond.constantLong RX2 51 (10000000000000) ∈ lwG := mT3 217 rfl rfl
theorem lkX2_53 : Jvm.Cond.constantLong RX2 53 (-10000000000000) ∈ lwG := mT3 218 rfl rfl
theorem lkX3_56 : Jvm.Cond.constantLong RX3 56 (4000000000000000000) ∈ lwG := mT3 57 rfl rfl
theorem lkX3_69 : Jvm.Cond.constantLong RX3 69 (10000) ∈ lwG := mT2 115 rfl rfl
theorem lkX3_77 : Jvm.Cond.constantLong RX3 77 (1000000000) ∈ lwG := mT2 119 rfl rfl
theorem lkX3_79 : Jvm.Cond.constantLong RX3 79 (3163) ∈ lwG := mT2 120 rfl rfl
theorem lkX3_81 : Jvm.Cond.constantLong RX3 81 (10000000) ∈ lwG := mT2 121 rfl rfl
theorem lkX5_55 : Jvm.Cond.constantLong RX5 55 (-2000000000000000005) ∈ lwG := mT3 166 rfl rfl
theorem lkX5_61 : Jvm.Cond.constantLong RX5 61 (-2000000000000000006) ∈ lwG := mT3 167 rfl rfl
theorem lkX5_80 : Jvm.Cond.constantLong RX5 80 (2) ∈ lwG := mT3 178 rfl rfl
theorem lkX7_74 : Jvm.Cond.constantLong RX7 74 (-2000000000000000006) ∈ lwG := mT3 122 rfl rfl
theorem lkX7_80 : Jvm.Cond.constantLong RX7 80 (-1) ∈ lwG := mT3 124 rfl rfl
theorem lkX8_84 : Jvm.Cond.constantLong RX8 84 (-2000000000000000002) ∈ lwG := mT2 89 rfl rfl
theorem lkX8_90 : Jvm.Cond.constantLong RX8 90 (-2000000000000000004) ∈ lwG := mT2 94 rfl rfl
theorem lkX8_108 : Jvm.Cond.constant RX8 108 (1000000) ∈ lwG := mT2 160 rfl rfl
theorem lkX8_109 : Jvm.Cond.constantLong RX8 109 (-2000000000000000003) ∈ lwG := mT2 165 rfl rfl
theorem lkX8_122 : Jvm.Cond.constantLong RX8 122 (-2000000000000000001) ∈ lwG := mT2 180 rfl rfl
theorem lkX8_185 : Jvm.Cond.constantLong RX8 185 (-2000000000000000006) ∈ lwG := mT3 88 rfl rfl
theorem lkX8_208 : Jvm.Cond.constantLong RX8 208 (-1) ∈ lwG := mT3 109 rfl rfl
theorem lkX8_224 : Jvm.Cond.constantLong RX8 224 (-2000000000000000005) ∈ lwG := mT2 122 rfl rfl
theorem lkX8_286 : Jvm.Cond.constantLong RX8 286 (1000000000000000) ∈ lwG := mT2 87 rfl rfl
theorem lkX8_288 : Jvm.Cond.constantLong RX8 288 (-1000000000000000) ∈ lwG := mT2 88 rfl rfl
theorem lkX8_290 : Jvm.Cond.constantLong RX8 290 (4000000000000000000) ∈ lwG := mT2 195 rfl rfl
theorem lkX8_302 : Jvm.Cond.constantLong RX8 302 (33554432) ∈ lwG := mT2 134 rfl rfl
theorem lkX9_67 : Jvm.Cond.constantLong RX9 67 (1000000000000000) ∈ lwG := mT4 123 rfl rfl
theorem lkX9_73 : Jvm.Cond.constantLong RX9 73 (39) ∈ lwG := mT4 193 rfl rfl
theorem lkX9_98 : Jvm.Cond.constantLong RX9 98 (1073741824) ∈ lwG := mT4 172 rfl rfl
theorem lkX9_100 : Jvm.Cond.constantLong RX9 100 (3037000499) ∈ lwG := mT4 173 rfl rfl
theorem lkX9_102 : Jvm.Cond.constantLong RX9 102 (2) ∈ lwG := mT4 160 rfl rfl
theorem lkX9_107 : Jvm.Cond.constantLong RX9 107 (-1000000000000000) ∈ lwG := mT4 122 rfl rfl
theorem lkX9_109 : Jvm.Cond.constantLong RX9 109 (-2000000000000000002) ∈ lwG := mT4 127 rfl rfl
theorem lkX9_111 : Jvm.Cond.constantLong RX9 111 (-2000000000000000004) ∈ lwG := mT4 128 rfl rfl
theorem lkX9_117 : Jvm.Cond.constantLong RX9 117 (-10000) ∈ lwG := mT4 154 rfl rfl
theorem lkX9_119 : Jvm.Cond.constantLong RX9 119 (10000) ∈ lwG := mT4 155 rfl rfl
theorem lkX9_121 : Jvm.Cond.constantLong RX9 121 (-100) ∈ lwG := mT4 156 rfl rfl
theorem lkX9_123 : Jvm.Cond.constantLong RX9 123 (100) ∈ lwG := mT4 157 rfl rfl
theorem lkX9_125 : Jvm.Cond.constantLong RX9 125 (-1000) ∈ lwG := mT4 158 rfl rfl
theorem lkX9_127 : Jvm.Cond.constantLong RX9 127 (1000) ∈ lwG := mT4 159 rfl rfl
theorem lkX9_136 : Jvm.Cond.constantLong RX9 136 (1000000) ∈ lwG := mT4 178 rfl rfl
theorem lkX9_141 : Jvm.Cond.constantLong RX9 141 (-1000000) ∈ lwG := mT4 183 rfl rfl
theorem lkX9_143 : Jvm.Cond.constantLong RX9 143 (-2000000000000000003) ∈ lwG := mT4 184 rfl rfl
theorem lkX9_149 : Jvm.Cond.constantLong RX9 149 (-1) ∈ lwG := mT4 212 rfl rfl
theorem lkX9_169 : Jvm.Cond.constantLong RX9 169 (1000000000) ∈ lwG := mT4 225 rfl rfl
theorem lkX9_171 : Jvm.Cond.constantLong RX9 171 (10000000) ∈ lwG := mT4 226 rfl rfl
theorem lkX9_177 : Jvm.Cond.constantLong RX9 177 (-2000000000000000005) ∈ lwG := mT4 227 rfl rfl
theorem lkX9_183 : Jvm.Cond.constantLong RX9 183 (-2000000000000000001) ∈ lwG := mT4 194 rfl rfl
theorem lkX9_185 : Jvm.Cond.constantLong RX9 185 (3) ∈ lwG := mT4 195 rfl rfl
theorem lkX9_202 : Jvm.Cond.constantLong RX9 202 (7) ∈ lwG := mT5 40 rfl rfl
theorem lkX9_247 : Jvm.Cond.constantLong RX9 247 (9) ∈ lwG := mT5 57 rfl rfl
theorem lkX9_255 : Jvm.Cond.constantLong RX9 255 (-2000000000000000006) ∈ lwG := mT5 74 rfl rfl
theorem lkX9_257 : Jvm.Cond.constantLong RX9 257 (9223372036854775807) ∈ lwG := mT5 91 rfl rfl
theorem lkX9_303 : Jvm.Cond.constantLong RX9 303 (10000000000000) ∈ lwG := mT5 130 rfl rfl
theorem lkX9_305 : Jvm.Cond.constantLong RX9 305 (36) ∈ lwG := mT5 120 rfl rfl
theorem lkX9_307 : Jvm.Cond.constantLong RX9 307 (40) ∈ lwG := mT5 121 rfl rfl
theorem wcJ9_abs_067f4 : Cond.code yJ9_abs_067f4 cJ9_abs_067f4 2 (some .long) ∈ lwG := mT2 118 rfl rfl
theorem wiJ9_abs_067f4 : Cond.static yJ9_abs_067f4 ∈ lwG := mT2 117 rfl rfl
theorem wcJ9_floorDiv_f86c9 : Cond.code yJ9_floorDiv_f86c9 cJ9_floorDiv_f86c9 6 (some .long) ∈ lwG := mT2 38 rfl rfl
theorem wiJ9_floorDiv_f86c9 : Cond.static yJ9_floorDiv_f86c9 ∈ lwG := mT2 37 rfl rfl
theorem wcX8_floorOf : Cond.code yX8_floorOf cX8_floorOf 4 (some .long) ∈ lwG := mT2 140 rfl rfl
theorem wiX8_floorOf : Cond.static yX8_floorOf ∈ lwG := mT2 139 rfl rfl
theorem wcX1_cornersAgree : Cond.code yX1_cornersAgree cX1_cornersAgree 4 (some .boolean) ∈ lwG := mT3 0 rfl rfl
theorem wiX1_cornersAgree : Cond.instanceMethod yX1_cornersAgree ∈ lwG := mT2 239 rfl rfl
theorem wcX1_rollOn : Cond.code yX1_rollOn cX1_rollOn 6 none ∈ lwG := mT3 16 rfl rfl
theorem wiX1_rollOn : Cond.instanceMethod yX1_rollOn ∈ lwG := mT3 15 rfl rfl
theorem wcX8_greatestCommonDivisor : Cond.code yX8_greatestCommonDivisor cX8_greatestCommonDivisor 11 (some .long) ∈ lwG := mT2 110 rfl rfl
theorem wiX8_greatestCommonDivisor : Cond.static yX8_greatestCommonDivisor ∈ lwG := mT2 109 rfl rfl
theorem wcX8_isFar : Cond.code yX8_isFar cX8_isFar 2 (some .boolean) ∈ lwG := mT2 86 rfl rfl
theorem wiX8_isFar : Cond.static yX8_isFar ∈ lwG := mT2 85 rfl rfl
theorem wcX1_keepStep : Cond.code yX1_keepStep cX1_keepStep 7 (some .boolean) ∈ lwG := mT3 11 rfl rfl
theorem wiX1_keepStep : Cond.instanceMethod yX1_keepStep ∈ lwG := mT3 10 rfl rfl
theorem wcX7_addPart : Cond.code yX7_addPart cX7_addPart 3 none ∈ lwG := mT2 42 rfl rfl
theorem wiX7_addPart : Cond.instanceMethod yX7_addPart ∈ lwG := mT2 41 rfl rfl
theorem wcX8_plus : Cond.code yX8_plus cX8_plus 4 (some .long) ∈ lwG := mT2 199 rfl rfl
theorem wiX8_plus : Cond.static yX8_plus ∈ lwG := mT2 198 rfl rfl
theorem wcX8_minus : Cond.code yX8_minus cX8_minus 4 (some .long) ∈ lwG := mT2 202 rfl rfl
theorem wiX8_minus : Cond.static yX8_minus ∈ lwG := mT2 201 rfl rfl
theorem wcX8_times : Cond.code yX8_times cX8_times 4 (some .long) ∈ lwG := mT2 194 rfl rfl
theorem wiX8_times : Cond.static yX8_times ∈ lwG := mT2 193 rfl rfl
theorem wcX1_giveTo : Cond.code yX1_giveTo cX1_giveTo 5 (some .boolean) ∈ lwG := mT3 5 rfl rfl
theorem wiX1_giveTo : Cond.instanceMethod yX1_giveTo ∈ lwG := mT3 4 rfl rfl
theorem wcX1_takeEnd : Cond.code yX1_takeEnd cX1_takeEnd 4 (some .boolean) ∈ lwG := mT3 37 rfl rfl
theorem wiX1_takeEnd : Cond.instanceMethod yX1_takeEnd ∈ lwG := mT3 36 rfl rfl
theorem wcX1_takePart : Cond.code yX1_takePart cX1_takePart 7 (some .boolean) ∈ lwG := mT3 29 rfl rfl
theorem wiX1_takePart : Cond.instanceMethod yX1_takePart ∈ lwG := mT3 28 rfl rfl
theorem wcX6_hasEnded : Cond.code yX6_hasEnded cX6_hasEnded 1 (some .boolean) ∈ lwG := mT3 33 rfl rfl
theorem wiX6_hasEnded : Cond.instanceMethod yX6_hasEnded ∈ lwG := mT3 32 rfl rfl
theorem wcX7_partAt : Cond.code yX7_partAt cX7_partAt 2 (some .long) ∈ lwG := mT3 25 rfl rfl
theorem wiX7_partAt : Cond.instanceMethod yX7_partAt ∈ lwG := mT3 24 rfl rfl
theorem wcX1_takeFrom : Cond.code yX1_takeFrom cX1_takeFrom 2 (some .boolean) ∈ lwG := mT3 21 rfl rfl
theorem wiX1_takeFrom : Cond.instanceMethod yX1_takeFrom ∈ lwG := mT3 20 rfl rfl
theorem wcX1_fillCorners : Cond.code yX1_fillCorners cX1_fillCorners 12 (some .boolean) ∈ lwG := mT2 234 rfl rfl
theorem wiX1_fillCorners : Cond.instanceMethod yX1_fillCorners ∈ lwG := mT2 233 rfl rfl
theorem wcX1_workOutCorners : Cond.code yX1_workOutCorners cX1_workOutCorners 1 (some .boolean) ∈ lwG := mT2 230 rfl rfl
theorem wiX1_workOutCorners : Cond.instanceMethod yX1_workOutCorners ∈ lwG := mT2 229 rfl rfl
theorem wcX1_goOn : Cond.code yX1_goOn cX1_goOn 3 (some .boolean) ∈ lwG := mT2 226 rfl rfl
theorem wiX1_goOn : Cond.instanceMethod yX1_goOn ∈ lwG := mT2 225 rfl rfl
theorem wcX6_startWith : Cond.code yX6_startWith cX6_startWith 2 none ∈ lwG := mT2 222 rfl rfl
theorem wiX6_startWith : Cond.instanceMethod yX6_startWith ∈ lwG := mT2 221 rfl rfl
theorem wcX7_start : Cond.code yX7_start cX7_start 2 none ∈ lwG := mT2 35 rfl rfl
theorem wiX7_start : Cond.instanceMethod yX7_start ∈ lwG := mT2 34 rfl rfl
theorem wcX1_make : Cond.code yX1_make cX1_make 6 none ∈ lwG := mT2 217 rfl rfl
theorem wiX1_make : Cond.instanceMethod yX1_make ∈ lwG := mT2 216 rfl rfl
theorem wcX1_startWithAct : Cond.code yX1_startWithAct cX1_startWithAct 4 none ∈ lwG := mT2 211 rfl rfl
theorem wiX1_startWithAct : Cond.instanceMethod yX1_startWithAct ∈ lwG := mT2 210 rfl rfl
theorem wcX3_workOver : Cond.code yX3_workOver cX3_workOver 3 none ∈ lwG := mT2 207 rfl rfl
theorem wiX3_workOver : Cond.instanceMethod yX3_workOver ∈ lwG := mT2 206 rfl rfl
theorem wcX3_work : Cond.code yX3_work cX3_work 4 none ∈ lwG := mT2 191 rfl rfl
theorem wiX3_work : Cond.instanceMethod yX3_work ∈ lwG := mT2 190 rfl rfl
theorem wcX7_isZeroRatio : Cond.code yX7_isZeroRatio cX7_isZeroRatio 1 (some .boolean) ∈ lwG := mT2 184 rfl rfl
theorem wiX7_isZeroRatio : Cond.instanceMethod yX7_isZeroRatio ∈ lwG := mT2 183 rfl rfl
theorem wcX8_find : Cond.code yX8_find cX8_find 3 (some (.object "RatioStreams$Stream")) ∈ lwG := mT2 179 rfl rfl
theorem wiX8_find : Cond.instanceMethod yX8_find ∈ lwG := mT2 178 rfl rfl
theorem wcX8_isExactAct : Cond.code yX8_isExactAct cX8_isExactAct 2 (some .boolean) ∈ lwG := mT2 187 rfl rfl
theorem wiX8_isExactAct : Cond.static yX8_isExactAct ∈ lwG := mT2 186 rfl rfl
theorem wcX8_leastFree : Cond.code yX8_leastFree cX8_leastFree 2 (some .int) ∈ lwG := mT2 93 rfl rfl
theorem wiX8_leastFree : Cond.instanceMethod yX8_leastFree ∈ lwG := mT2 92 rfl rfl
theorem wcX8_place : Cond.code yX8_place cX8_place 2 (some .long) ∈ lwG := mT2 145 rfl rfl
theorem wiX8_place : Cond.instanceMethod yX8_place ∈ lwG := mT2 144 rfl rfl
theorem wcX3_isFarRoot : Cond.code yX3_isFarRoot cX3_isFarRoot 1 (some .boolean) ∈ lwG := mT2 114 rfl rfl
theorem wiX3_isFarRoot : Cond.instanceMethod yX3_isFarRoot ∈ lwG := mT2 113 rfl rfl
theorem wcX3_bringToLeastTerms : Cond.code yX3_bringToLeastTerms cX3_bringToLeastTerms 5 (some .boolean) ∈ lwG := mT2 106 rfl rfl
theorem wiX3_bringToLeastTerms : Cond.instanceMethod yX3_bringToLeastTerms ∈ lwG := mT2 105 rfl rfl
theorem wcX7_becomeRatio : Cond.code yX7_becomeRatio cX7_becomeRatio 14 none ∈ lwG := mT2 31 rfl rfl
theorem wiX7_becomeRatio : Cond.instanceMethod yX7_becomeRatio ∈ lwG := mT2 30 rfl rfl
theorem wcX4_wholeBelow : Cond.code yX4_wholeBelow cX4_wholeBelow 4 (some .long) ∈ lwG := mT2 137 rfl rfl
theorem wiX4_wholeBelow : Cond.static yX4_wholeBelow ∈ lwG := mT2 136 rfl rfl
theorem wcX8_sideBelow : Cond.code yX8_sideBelow cX8_sideBelow 8 (some .long) ∈ lwG := mT2 133 rfl rfl
theorem wiX8_sideBelow : Cond.static yX8_sideBelow ∈ lwG := mT2 132 rfl rfl
theorem wcX4_go : Cond.code yX4_go cX4_go 15 none ∈ lwG := mT2 130 rfl rfl
theorem wiX4_go : Cond.instanceMethod yX4_go ∈ lwG := mT2 129 rfl rfl
theorem wcX7_becomeRoot : Cond.code yX7_becomeRoot cX7_becomeRoot 4 none ∈ lwG := mT2 126 rfl rfl
theorem wiX7_becomeRoot : Cond.instanceMethod yX7_becomeRoot ∈ lwG := mT2 125 rfl rfl
theorem wcX8_placeOutcome : Cond.code yX8_placeOutcome cX8_placeOutcome 3 (some .long) ∈ lwG := mT2 102 rfl rfl
theorem wiX8_placeOutcome : Cond.instanceMethod yX8_placeOutcome ∈ lwG := mT2 101 rfl rfl
theorem wcX8_act : Cond.code yX8_act cX8_act 7 (some .long) ∈ lwG := mT2 175 rfl rfl
theorem wiX8_act : Cond.instanceMethod yX8_act ∈ lwG := mT2 173 rfl rfl
theorem wcX2_lowerAt : Cond.code yX2_lowerAt cX2_lowerAt 2 (some .long) ∈ lwG := mT3 143 rfl rfl
theorem wiX2_lowerAt : Cond.instanceMethod yX2_lowerAt ∈ lwG := mT3 142 rfl rfl
theorem wcX2_upperAt : Cond.code yX2_upperAt cX2_upperAt 2 (some .long) ∈ lwG := mT3 137 rfl rfl
theorem wiX2_upperAt : Cond.instanceMethod yX2_upperAt ∈ lwG := mT3 136 rfl rfl
theorem wcX2_workOut : Cond.code yX2_workOut cX2_workOut 9 none ∈ lwG := mT3 132 rfl rfl
theorem wiX2_workOut : Cond.instanceMethod yX2_workOut ∈ lwG := mT3 131 rfl rfl
theorem wcX3_become : Cond.code yX3_become cX3_become 9 none ∈ lwG := mT2 98 rfl rfl
theorem wiX3_become : Cond.instanceMethod yX3_become ∈ lwG := mT2 97 rfl rfl
theorem wcX7_heldAgainst : Cond.code yX7_heldAgainst cX7_heldAgainst 6 (some .long) ∈ lwG := mT3 121 rfl rfl
theorem wiX7_heldAgainst : Cond.instanceMethod yX7_heldAgainst ∈ lwG := mT3 120 rfl rfl
theorem wcX5_againstMiddle : Cond.code yX5_againstMiddle cX5_againstMiddle 6 (some .long) ∈ lwG := mT3 175 rfl rfl
theorem wiX5_againstMiddle : Cond.instanceMethod yX5_againstMiddle ∈ lwG := mT3 174 rfl rfl
theorem wcX5_setSide : Cond.code yX5_setSide cX5_setSide 6 none ∈ lwG := mT3 165 rfl rfl
theorem wiX5_setSide : Cond.instanceMethod yX5_setSide ∈ lwG := mT3 164 rfl rfl
theorem wcX5_settleAhead : Cond.code yX5_settleAhead cX5_settleAhead 10 none ∈ lwG := mT3 159 rfl rfl
theorem wiX5_settleAhead : Cond.instanceMethod yX5_settleAhead ∈ lwG := mT3 158 rfl rfl
theorem wcX5_seek : Cond.code yX5_seek cX5_seek 6 (some .long) ∈ lwG := mT3 154 rfl rfl
theorem wiX5_seek : Cond.instanceMethod yX5_seek ∈ lwG := mT3 153 rfl rfl
theorem wcX5_tell : Cond.code yX5_tell cX5_tell 3 (some .long) ∈ lwG := mT3 171 rfl rfl
theorem wiX5_tell : Cond.instanceMethod yX5_tell ∈ lwG := mT3 170 rfl rfl
theorem wcX5_upperIsSimpler : Cond.code yX5_upperIsSimpler cX5_upperIsSimpler 1 (some .boolean) ∈ lwG := mT3 186 rfl rfl
theorem wiX5_upperIsSimpler : Cond.instanceMethod yX5_upperIsSimpler ∈ lwG := mT3 185 rfl rfl
theorem wcX8_best : Cond.code yX8_best cX8_best 10 (some .long) ∈ lwG := mT3 150 rfl rfl
theorem wiX8_best : Cond.instanceMethod yX8_best ∈ lwG := mT3 148 rfl rfl
theorem wcX7_isSameRoot : Cond.code yX7_isSameRoot cX7_isSameRoot 2 (some .boolean) ∈ lwG := mT3 117 rfl rfl
theorem wiX7_isSameRoot : Cond.instanceMethod yX7_isSameRoot ∈ lwG := mT3 116 rfl rfl
theorem wcX8_compare : Cond.code yX8_compare cX8_compare 5 (some .long) ∈ lwG := mT3 113 rfl rfl
theorem wiX8_compare : Cond.instanceMethod yX8_compare ∈ lwG := mT3 111 rfl rfl
theorem wcX7_isOpen : Cond.code yX7_isOpen cX7_isOpen 1 (some .boolean) ∈ lwG := mT3 78 rfl rfl
theorem wiX7_isOpen : Cond.instanceMethod yX7_isOpen ∈ lwG := mT3 77 rfl rfl
theorem wcX8_howManyOpen : Cond.code yX8_howManyOpen cX8_howManyOpen 3 (some .int) ∈ lwG := mT4 0 rfl rfl
theorem wiX8_howManyOpen : Cond.instanceMethod yX8_howManyOpen ∈ lwG := mT3 239 rfl rfl
theorem wcX8_howManyStreams : Cond.code yX8_howManyStreams cX8_howManyStreams 3 (some .int) ∈ lwG := mT3 70 rfl rfl
theorem wiX8_howManyStreams : Cond.instanceMethod yX8_howManyStreams ∈ lwG := mT3 69 rfl rfl
theorem wcX8_count : Cond.code yX8_count cX8_count 2 (some .long) ∈ lwG := mT3 236 rfl rfl
theorem wiX8_count : Cond.instanceMethod yX8_count ∈ lwG := mT3 234 rfl rfl
theorem wcX8_drop : Cond.code yX8_drop cX8_drop 3 (some .long) ∈ lwG := mT3 66 rfl rfl
theorem wiX8_drop : Cond.instanceMethod yX8_drop ∈ lwG := mT3 64 rfl rfl
theorem wcX8_numberOfRoot : Cond.code yX8_numberOfRoot cX8_numberOfRoot 2 (some .long) ∈ lwG := mT3 95 rfl rfl
theorem wiX8_numberOfRoot : Cond.static yX8_numberOfRoot ∈ lwG := mT3 94 rfl rfl
theorem wcX8_exact : Cond.code yX8_exact cX8_exact 4 (some .long) ∈ lwG := mT3 92 rfl rfl
theorem wiX8_exact : Cond.instanceMethod yX8_exact ∈ lwG := mT3 90 rfl rfl
theorem wcX8_beyond : Cond.code yX8_beyond cX8_beyond 2 (some .boolean) ∈ lwG := mT2 152 rfl rfl
theorem wiX8_beyond : Cond.static yX8_beyond ∈ lwG := mT2 151 rfl rfl
theorem wcX8_factor : Cond.code yX8_factor cX8_factor 5 (some .long) ∈ lwG := mT3 45 rfl rfl
theorem wiX8_factor : Cond.instanceMethod yX8_factor ∈ lwG := mT3 43 rfl rfl
theorem wcX0_splitLow : Cond.code yX0_splitLow cX0_splitLow 5 none ∈ lwG := mT3 204 rfl rfl
theorem wiX0_splitLow : Cond.instanceMethod yX0_splitLow ∈ lwG := mT3 203 rfl rfl
theorem wcX0_ofRatio : Cond.code yX0_ofRatio cX0_ofRatio 8 (some .long) ∈ lwG := mT3 194 rfl rfl
theorem wiX0_ofRatio : Cond.instanceMethod yX0_ofRatio ∈ lwG := mT3 193 rfl rfl
theorem wcX0_splitHigh : Cond.code yX0_splitHigh cX0_splitHigh 5 none ∈ lwG := mT3 223 rfl rfl
theorem wiX0_splitHigh : Cond.instanceMethod yX0_splitHigh ∈ lwG := mT3 222 rfl rfl
theorem wcX2_isSmall : Cond.code yX2_isSmall cX2_isSmall 2 (some .boolean) ∈ lwG := mT3 216 rfl rfl
theorem wiX2_isSmall : Cond.static yX2_isSmall ∈ lwG := mT3 215 rfl rfl
theorem wcX2_lastForSpan : Cond.code yX2_lastForSpan cX2_lastForSpan 3 (some .int) ∈ lwG := mT3 213 rfl rfl
theorem wiX2_lastForSpan : Cond.instanceMethod yX2_lastForSpan ∈ lwG := mT3 212 rfl rfl
theorem wcX0_ofSpan : Cond.code yX0_ofSpan cX0_ofSpan 15 (some .long) ∈ lwG := mT3 209 rfl rfl
theorem wiX0_ofSpan : Cond.instanceMethod yX0_ofSpan ∈ lwG := mT3 208 rfl rfl
theorem wcX8_figure : Cond.code yX8_figure cX8_figure 5 (some .long) ∈ lwG := mT3 190 rfl rfl
theorem wiX8_figure : Cond.instanceMethod yX8_figure ∈ lwG := mT3 188 rfl rfl
theorem wcX0_init : Cond.code yX0_init cX0_init 1 none ∈ lwG := mT2 13 rfl rfl
theorem wiX0_init : Cond.instanceMethod yX0_init ∈ lwG := mT2 12 rfl rfl
theorem wcX6_init : Cond.code yX6_init cX6_init 3 none ∈ lwG := mT1 149 rfl rfl
theorem wiX6_init : Cond.instanceMethod yX6_init ∈ lwG := mT1 148 rfl rfl
theorem wcX1_init : Cond.code yX1_init cX1_init 1 none ∈ lwG := mT1 143 rfl rfl
theorem wiX1_init : Cond.instanceMethod yX1_init ∈ lwG := mT1 142 rfl rfl
theorem wcX2_init : Cond.code yX2_init cX2_init 1 none ∈ lwG := mT1 205 rfl rfl
theorem wiX2_init : Cond.instanceMethod yX2_init ∈ lwG := mT1 204 rfl rfl
theorem wcX3_init : Cond.code yX3_init cX3_init 1 none ∈ lwG := mT1 90 rfl rfl
theorem wiX3_init : Cond.instanceMethod yX3_init ∈ lwG := mT1 89 rfl rfl
theorem wcX4_init : Cond.code yX4_init cX4_init 1 none ∈ lwG := mT1 118 rfl rfl
theorem wiX4_init : Cond.instanceMethod yX4_init ∈ lwG := mT1 117 rfl rfl
theorem wcX7_init : Cond.code yX7_init cX7_init 1 none ∈ lwG := mT1 25 rfl rfl
theorem wiX7_init : Cond.instanceMethod yX7_init ∈ lwG := mT1 24 rfl rfl
theorem wcX5_init : Cond.code yX5_init cX5_init 1 none ∈ lwG := mT1 224 rfl rfl
theorem wiX5_init : Cond.instanceMethod yX5_init ∈ lwG := mT1 223 rfl rfl
theorem wcX8_init : Cond.code yX8_init cX8_init 2 none ∈ lwG := mT1 16 rfl rfl
theorem wiX8_init : Cond.instanceMethod yX8_init ∈ lwG := mT1 15 rfl rfl
theorem wcX1_startWith : Cond.code yX1_startWith cX1_startWith 3 none ∈ lwG := mT3 62 rfl rfl
theorem wiX1_startWith : Cond.instanceMethod yX1_startWith ∈ lwG := mT3 61 rfl rfl
theorem wcX3_mixed : Cond.code yX3_mixed cX3_mixed 6 (some .long) ∈ lwG := mT3 56 rfl rfl
theorem wiX3_mixed : Cond.static yX3_mixed ∈ lwG := mT3 55 rfl rfl
theorem wcX3_workMix : Cond.code yX3_workMix cX3_workMix 4 none ∈ lwG := mT3 53 rfl rfl
theorem wiX3_workMix : Cond.instanceMethod yX3_workMix ∈ lwG := mT3 52 rfl rfl
theorem wcX8_mix : Cond.code yX8_mix cX8_mix 7 (some .long) ∈ lwG := mT3 49 rfl rfl
theorem wiX8_mix : Cond.instanceMethod yX8_mix ∈ lwG := mT3 47 rfl rfl
theorem wcX7_isBeyond : Cond.code yX7_isBeyond cX7_isBeyond 2 (some .boolean) ∈ lwG := mT3 86 rfl rfl
theorem wiX7_isBeyond : Cond.instanceMethod yX7_isBeyond ∈ lwG := mT3 85 rfl rfl
theorem wcX8_near : Cond.code yX8_near cX8_near 5 (some .long) ∈ lwG := mT3 128 rfl rfl
theorem wiX8_near : Cond.instanceMethod yX8_near ∈ lwG := mT3 126 rfl rfl
theorem wcX8_part : Cond.code yX8_part cX8_part 4 (some .long) ∈ lwG := mT3 82 rfl rfl
theorem wiX8_part : Cond.instanceMethod yX8_part ∈ lwG := mT3 80 rfl rfl
theorem wcX8_ratio : Cond.code yX8_ratio cX8_ratio 6 (some .long) ∈ lwG := mT2 83 rfl rfl
theorem wiX8_ratio : Cond.instanceMethod yX8_ratio ∈ lwG := mT2 81 rfl rfl
theorem wcX1_stepTold : Cond.code yX1_stepTold cX1_stepTold 4 (some .long) ∈ lwG := mT3 231 rfl rfl
theorem wiX1_stepTold : Cond.instanceMethod yX1_stepTold ∈ lwG := mT3 230 rfl rfl
theorem wcX8_roll : Cond.code yX8_roll cX8_roll 3 (some .long) ∈ lwG := mT3 227 rfl rfl
theorem wiX8_roll : Cond.instanceMethod yX8_roll ∈ lwG := mT3 225 rfl rfl
theorem wcX8_sideOfGreatestSquareIn : Cond.code yX8_sideOfGreatestSquareIn cX8_sideOfGreatestSquareIn 2 (some .int) ∈ lwG := mT2 155 rfl rfl
theorem wiX8_sideOfGreatestSquareIn : Cond.static yX8_sideOfGreatestSquareIn ∈ lwG := mT2 154 rfl rfl
theorem wcX8_root : Cond.code yX8_root cX8_root 8 (some .long) ∈ lwG := mT2 149 rfl rfl
theorem wiX8_root : Cond.instanceMethod yX8_root ∈ lwG := mT2 147 rfl rfl
theorem wcX4_comesRound : Cond.code yX4_comesRound cX4_comesRound 3 (some .boolean) ∈ lwG := mT3 104 rfl rfl
theorem wiX4_comesRound : Cond.instanceMethod yX4_comesRound ∈ lwG := mT3 103 rfl rfl
theorem wcX8_round : Cond.code yX8_round cX8_round 4 (some .long) ∈ lwG := mT3 99 rfl rfl
theorem wiX8_round : Cond.instanceMethod yX8_round ∈ lwG := mT3 97 rfl rfl
theorem wcX8_row : Cond.code yX8_row cX8_row 3 (some .long) ∈ lwG := mT2 159 rfl rfl
theorem wiX8_row : Cond.instanceMethod yX8_row ∈ lwG := mT2 157 rfl rfl
theorem wcX8_fillRule : Cond.code yX8_fillRule cX8_fillRule 7 none ∈ lwG := mT2 169 rfl rfl
theorem wiX8_fillRule : Cond.instanceMethod yX8_fillRule ∈ lwG := mT2 168 rfl rfl
theorem wcX8_rule : Cond.code yX8_rule cX8_rule 3 (some .long) ∈ lwG := mT2 164 rfl rfl
theorem wiX8_rule : Cond.instanceMethod yX8_rule ∈ lwG := mT2 162 rfl rfl
theorem wcX8_sign : Cond.code yX8_sign cX8_sign 5 (some .long) ∈ lwG := mT3 108 rfl rfl
theorem wiX8_sign : Cond.instanceMethod yX8_sign ∈ lwG := mT3 106 rfl rfl
theorem wcX8_told : Cond.code yX8_told cX8_told 4 (some .long) ∈ lwG := mT3 74 rfl rfl
theorem wiX8_told : Cond.instanceMethod yX8_told ∈ lwG := mT3 72 rfl rfl
theorem wcX8_turn : Cond.code yX8_turn cX8_turn 4 (some .long) ∈ lwG := mT3 41 rfl rfl
theorem wiX8_turn : Cond.instanceMethod yX8_turn ∈ lwG := mT3 39 rfl rfl
theorem wcX9_size : Cond.code yX9_size cX9_size 2 (some .long) ∈ lwG := mT4 142 rfl rfl
theorem wiX9_size : Cond.static yX9_size ∈ lwG := mT4 141 rfl rfl
theorem wcX9_add : Cond.code yX9_add cX9_add 7 (some .long) ∈ lwG := mT4 220 rfl rfl
theorem wiX9_add : Cond.instanceMethod yX9_add ∈ lwG := mT4 219 rfl rfl
theorem wcX9_divisor : Cond.code yX9_divisor cX9_divisor 10 (some .long) ∈ lwG := mT4 139 rfl rfl
theorem wiX9_divisor : Cond.static yX9_divisor ∈ lwG := mT4 138 rfl rfl
theorem wcX9_checkOut : Cond.code yX9_checkOut cX9_checkOut 5 none ∈ lwG := mT4 224 rfl rfl
theorem wiX9_checkOut : Cond.instanceMethod yX9_checkOut ∈ lwG := mT4 223 rfl rfl
theorem wcX9_mul : Cond.code yX9_mul cX9_mul 5 (some .long) ∈ lwG := mT4 216 rfl rfl
theorem wiX9_mul : Cond.instanceMethod yX9_mul ∈ lwG := mT4 215 rfl rfl
theorem wcX9_exactly : Cond.code yX9_exactly cX9_exactly 19 none ∈ lwG := mT4 211 rfl rfl
theorem wiX9_exactly : Cond.instanceMethod yX9_exactly ∈ lwG := mT4 210 rfl rfl
theorem wcX9_floor : Cond.code yX9_floor cX9_floor 6 (some .long) ∈ lwG := mT4 145 rfl rfl
theorem wiX9_floor : Cond.static yX9_floor ∈ lwG := mT4 144 rfl rfl
theorem wcX9_give : Cond.code yX9_give cX9_give 4 none ∈ lwG := mT4 149 rfl rfl
theorem wiX9_give : Cond.instanceMethod yX9_give ∈ lwG := mT4 148 rfl rfl
theorem wcX9_newStream : Cond.code yX9_newStream cX9_newStream 3 (some .int) ∈ lwG := mT4 136 rfl rfl
theorem wiX9_newStream : Cond.instanceMethod yX9_newStream ∈ lwG := mT4 135 rfl rfl
theorem wcX9_newRatio : Cond.code yX9_newRatio cX9_newRatio 16 (some .int) ∈ lwG := mT4 132 rfl rfl
theorem wiX9_newRatio : Cond.instanceMethod yX9_newRatio ∈ lwG := mT4 131 rfl rfl
theorem wcX9_rootOf : Cond.code yX9_rootOf cX9_rootOf 8 (some .long) ∈ lwG := mT4 171 rfl rfl
theorem wiX9_rootOf : Cond.static yX9_rootOf ∈ lwG := mT4 170 rfl rfl
theorem wcX9_newRoot : Cond.code yX9_newRoot cX9_newRoot 21 (some .int) ∈ lwG := mT4 168 rfl rfl
theorem wiX9_newRoot : Cond.instanceMethod yX9_newRoot ∈ lwG := mT4 167 rfl rfl
theorem wcX9_put : Cond.code yX9_put cX9_put 11 (some .int) ∈ lwG := mT4 164 rfl rfl
theorem wiX9_put : Cond.instanceMethod yX9_put ∈ lwG := mT4 163 rfl rfl
theorem wcX9_exactOf : Cond.code yX9_exactOf cX9_exactOf 8 (some .long) ∈ lwG := mT4 207 rfl rfl
theorem wiX9_exactOf : Cond.instanceMethod yX9_exactOf ∈ lwG := mT4 206 rfl rfl
theorem wcX9_in : Cond.code yX9_in cX9_in 6 (some .boolean) ∈ lwG := mT4 126 rfl rfl
theorem wiX9_in : Cond.static yX9_in ∈ lwG := mT4 125 rfl rfl
theorem wcX9_isExact : Cond.code yX9_isExact cX9_isExact 3 (some .boolean) ∈ lwG := mT4 203 rfl rfl
theorem wiX9_isExact : Cond.instanceMethod yX9_isExact ∈ lwG := mT4 202 rfl rfl
theorem wcX9_isNought : Cond.code yX9_isNought cX9_isNought 2 (some .boolean) ∈ lwG := mT4 199 rfl rfl
theorem wiX9_isNought : Cond.instanceMethod yX9_isNought ∈ lwG := mT4 198 rfl rfl
theorem wcX9_agree : Cond.code yX9_agree cX9_agree 3 (some .boolean) ∈ lwG := mT5 3 rfl rfl
theorem wiX9_agree : Cond.instanceMethod yX9_agree ∈ lwG := mT5 2 rfl rfl
theorem wcX9_corner : Cond.code yX9_corner cX9_corner 5 none ∈ lwG := mT4 239 rfl rfl
theorem wiX9_corner : Cond.instanceMethod yX9_corner ∈ lwG := mT4 238 rfl rfl
theorem wcX9_findCorners : Cond.code yX9_findCorners cX9_findCorners 3 none ∈ lwG := mT4 235 rfl rfl
theorem wiX9_findCorners : Cond.instanceMethod yX9_findCorners ∈ lwG := mT4 234 rfl rfl
theorem wcX9_become : Cond.code yX9_become cX9_become 4 (some .boolean) ∈ lwG := mT5 11 rfl rfl
theorem wiX9_become : Cond.instanceMethod yX9_become ∈ lwG := mT5 10 rfl rfl
theorem wcX9_giveOne : Cond.code yX9_giveOne cX9_giveOne 4 (some .boolean) ∈ lwG := mT5 7 rfl rfl
theorem wiX9_giveOne : Cond.instanceMethod yX9_giveOne ∈ lwG := mT5 6 rfl rfl
theorem wcX9_outX : Cond.code yX9_outX cX9_outX 2 none ∈ lwG := mT5 23 rfl rfl
theorem wiX9_outX : Cond.instanceMethod yX9_outX ∈ lwG := mT5 22 rfl rfl
theorem wcX9_outY : Cond.code yX9_outY cX9_outY 2 none ∈ lwG := mT5 31 rfl rfl
theorem wiX9_outY : Cond.instanceMethod yX9_outY ∈ lwG := mT5 30 rfl rfl
theorem wcX9_roll : Cond.code yX9_roll cX9_roll 6 none ∈ lwG := mT5 15 rfl rfl
theorem wiX9_roll : Cond.instanceMethod yX9_roll ∈ lwG := mT5 14 rfl rfl
theorem wcX9_takeX : Cond.code yX9_takeX cX9_takeX 4 (some .boolean) ∈ lwG := mT5 19 rfl rfl
theorem wiX9_takeX : Cond.instanceMethod yX9_takeX ∈ lwG := mT5 18 rfl rfl
theorem wcX9_takeY : Cond.code yX9_takeY cX9_takeY 4 (some .boolean) ∈ lwG := mT5 27 rfl rfl
theorem wiX9_takeY : Cond.instanceMethod yX9_takeY ∈ lwG := mT5 26 rfl rfl
theorem wcX9_make : Cond.code yX9_make cX9_make 12 (some .long) ∈ lwG := mT4 231 rfl rfl
theorem wiX9_make : Cond.instanceMethod yX9_make ∈ lwG := mT4 230 rfl rfl
theorem wcX9_noStream : Cond.code yX9_noStream cX9_noStream 2 (some .boolean) ∈ lwG := mT4 192 rfl rfl
theorem wiX9_noStream : Cond.instanceMethod yX9_noStream ∈ lwG := mT4 191 rfl rfl
theorem wcX9_act : Cond.code yX9_act cX9_act 5 (some .long) ∈ lwG := mT4 188 rfl rfl
theorem wiX9_act : Cond.instanceMethod yX9_act ∈ lwG := mT4 186 rfl rfl
theorem wcX9_against : Cond.code yX9_against cX9_against 18 (some .int) ∈ lwG := mT5 115 rfl rfl
theorem wiX9_against : Cond.instanceMethod yX9_against ∈ lwG := mT5 114 rfl rfl
theorem wcX9_beginNear : Cond.code yX9_beginNear cX9_beginNear 1 none ∈ lwG := mT5 99 rfl rfl
theorem wiX9_beginNear : Cond.instanceMethod yX9_beginNear ∈ lwG := mT5 98 rfl rfl
theorem wcX9_goNear : Cond.code yX9_goNear cX9_goNear 7 none ∈ lwG := mT5 103 rfl rfl
theorem wiX9_goNear : Cond.instanceMethod yX9_goNear ∈ lwG := mT5 102 rfl rfl
theorem wcX9_findBoth : Cond.code yX9_findBoth cX9_findBoth 11 (some .long) ∈ lwG := mT5 111 rfl rfl
theorem wiX9_findBoth : Cond.instanceMethod yX9_findBoth ∈ lwG := mT5 110 rfl rfl
theorem wcX9_best : Cond.code yX9_best cX9_best 13 (some .long) ∈ lwG := mT5 107 rfl rfl
theorem wiX9_best : Cond.instanceMethod yX9_best ∈ lwG := mT5 105 rfl rfl
theorem wcX9_compare : Cond.code yX9_compare cX9_compare 10 (some .long) ∈ lwG := mT5 90 rfl rfl
theorem wiX9_compare : Cond.instanceMethod yX9_compare ∈ lwG := mT5 88 rfl rfl
theorem wcX9_isOpenMade : Cond.code yX9_isOpenMade cX9_isOpenMade 2 (some .boolean) ∈ lwG := mT5 65 rfl rfl
theorem wiX9_isOpenMade : Cond.instanceMethod yX9_isOpenMade ∈ lwG := mT5 64 rfl rfl
theorem wcX9_count : Cond.code yX9_count cX9_count 5 (some .long) ∈ lwG := mT5 140 rfl rfl
theorem wiX9_count : Cond.instanceMethod yX9_count ∈ lwG := mT5 138 rfl rfl
theorem wcX9_drop : Cond.code yX9_drop cX9_drop 2 (some .long) ∈ lwG := mT5 52 rfl rfl
theorem wiX9_drop : Cond.instanceMethod yX9_drop ∈ lwG := mT5 50 rfl rfl
theorem wcX9_exact : Cond.code yX9_exact cX9_exact 3 (some .long) ∈ lwG := mT5 78 rfl rfl
theorem wiX9_exact : Cond.instanceMethod yX9_exact ∈ lwG := mT5 76 rfl rfl
theorem wcX9_factor : Cond.code yX9_factor cX9_factor 5 (some .long) ∈ lwG := mT5 39 rfl rfl
theorem wiX9_factor : Cond.instanceMethod yX9_factor ∈ lwG := mT5 37 rfl rfl
theorem wcX9_figureOf : Cond.code yX9_figureOf cX9_figureOf 8 (some .long) ∈ lwG := mT5 125 rfl rfl
theorem wiX9_figureOf : Cond.instanceMethod yX9_figureOf ∈ lwG := mT5 124 rfl rfl
theorem wcX9_isNarrow : Cond.code yX9_isNarrow cX9_isNarrow 1 (some .boolean) ∈ lwG := mT5 129 rfl rfl
theorem wiX9_isNarrow : Cond.instanceMethod yX9_isNarrow ∈ lwG := mT5 128 rfl rfl
theorem wcX9_under : Cond.code yX9_under cX9_under 4 (some .long) ∈ lwG := mT5 136 rfl rfl
theorem wiX9_under : Cond.static yX9_under ∈ lwG := mT5 135 rfl rfl
theorem wcX9_same : Cond.code yX9_same cX9_same 17 (some .long) ∈ lwG := mT5 133 rfl rfl
theorem wiX9_same : Cond.static yX9_same ∈ lwG := mT5 132 rfl rfl
theorem wcX9_figure : Cond.code yX9_figure cX9_figure 14 (some .long) ∈ lwG := mT5 119 rfl rfl
theorem wiX9_figure : Cond.instanceMethod yX9_figure ∈ lwG := mT5 117 rfl rfl
theorem wcX9_init : Cond.code yX9_init cX9_init 1 none ∈ lwG := mT4 5 rfl rfl
theorem wiX9_init : Cond.instanceMethod yX9_init ∈ lwG := mT4 4 rfl rfl
theorem wcX9_mixed : Cond.code yX9_mixed cX9_mixed 14 (some .long) ∈ lwG := mT5 48 rfl rfl
theorem wiX9_mixed : Cond.instanceMethod yX9_mixed ∈ lwG := mT5 47 rfl rfl
theorem wcX9_mix : Cond.code yX9_mix cX9_mix 9 (some .long) ∈ lwG := mT5 44 rfl rfl
theorem wiX9_mix : Cond.instanceMethod yX9_mix ∈ lwG := mT5 42 rfl rfl
theorem wcX9_isBehind : Cond.code yX9_isBehind cX9_isBehind 3 (some .boolean) ∈ lwG := mT5 73 rfl rfl
theorem wiX9_isBehind : Cond.instanceMethod yX9_isBehind ∈ lwG := mT5 72 rfl rfl
theorem wcX9_near : Cond.code yX9_near cX9_near 5 (some .long) ∈ lwG := mT5 95 rfl rfl
theorem wiX9_near : Cond.instanceMethod yX9_near ∈ lwG := mT5 93 rfl rfl
theorem wcX9_part : Cond.code yX9_part cX9_part 3 (some .long) ∈ lwG := mT5 69 rfl rfl
theorem wiX9_part : Cond.instanceMethod yX9_part ∈ lwG := mT5 67 rfl rfl
theorem wcX9_ratio : Cond.code yX9_ratio cX9_ratio 5 (some .long) ∈ lwG := mT4 121 rfl rfl
theorem wiX9_ratio : Cond.instanceMethod yX9_ratio ∈ lwG := mT4 119 rfl rfl
theorem wcX9_roll_ : Cond.code yX9_roll_ cX9_roll_ 3 (some .long) ∈ lwG := mT5 56 rfl rfl
theorem wiX9_roll_ : Cond.instanceMethod yX9_roll_ ∈ lwG := mT5 54 rfl rfl
theorem wcX9_root : Cond.code yX9_root cX9_root 11 (some .long) ∈ lwG := mT4 153 rfl rfl
theorem wiX9_root : Cond.instanceMethod yX9_root ∈ lwG := mT4 151 rfl rfl
theorem wcX9_round : Cond.code yX9_round cX9_round 5 (some .long) ∈ lwG := mT5 82 rfl rfl
theorem wiX9_round : Cond.instanceMethod yX9_round ∈ lwG := mT5 80 rfl rfl
theorem wcX9_row : Cond.code yX9_row cX9_row 3 (some .long) ∈ lwG := mT4 177 rfl rfl
theorem wiX9_row : Cond.instanceMethod yX9_row ∈ lwG := mT4 175 rfl rfl
theorem wcX9_rule : Cond.code yX9_rule cX9_rule 7 (some .long) ∈ lwG := mT4 182 rfl rfl
theorem wiX9_rule : Cond.instanceMethod yX9_rule ∈ lwG := mT4 180 rfl rfl
theorem wcX9_sign : Cond.code yX9_sign cX9_sign 4 (some .long) ∈ lwG := mT5 86 rfl rfl
theorem wiX9_sign : Cond.instanceMethod yX9_sign ∈ lwG := mT5 84 rfl rfl
theorem wcX9_told : Cond.code yX9_told cX9_told 3 (some .long) ∈ lwG := mT5 61 rfl rfl
theorem wiX9_told : Cond.instanceMethod yX9_told ∈ lwG := mT5 59 rfl rfl
theorem wcX9_turn : Cond.code yX9_turn cX9_turn 3 (some .long) ∈ lwG := mT5 35 rfl rfl
theorem wiX9_turn : Cond.instanceMethod yX9_turn ∈ lwG := mT5 33 rfl rfl
theorem lmL_9 : LkM RL 9 yX8_init cX8_init 2 none 0 ∧ yX8_init.name = "<init>" ∧ Cond.instanceMethod yX8_init ∈ lwG := ⟨⟨Or.inl (mT1 14 rfl rfl), mT1 1 rfl rfl, wcX8_init, by decide, by decide, by decide +kernel⟩, rfl, wiX8_init⟩
theorem lmL_12 : LkM RL 12 yX9_init cX9_init 1 none 0 ∧ yX9_init.name = "<init>" ∧ Cond.instanceMethod yX9_init ∈ lwG := ⟨⟨Or.inl (mT4 3 rfl rfl), mT1 11 rfl rfl, wcX9_init, by decide, by decide, by decide +kernel⟩, rfl, wiX9_init⟩
theorem lmL_15 : LkM RL 15 yX8_ratio cX8_ratio 6 (some .long) 2 ∧ (Cond.instanceMethod yX8_ratio ∈ lwG ∧ Cond.selects (RX8, TX8, 12).1 yX8_ratio yX8_ratio ∈ lwG) ∧ vwCl[8]? = some (RX8, TX8, 12) ∧ 8 < 100 := ⟨⟨Or.inl (mT2 80 rfl rfl), mT1 1 rfl rfl, wcX8_ratio, by decide, by decide, by decide +kernel⟩, ⟨wiX8_ratio, mT2 82 rfl rfl⟩, rfl, by decide⟩
theorem lmL_19 : LkM RL 19 yX9_ratio cX9_ratio 5 (some .long) 2 ∧ (Cond.instanceMethod yX9_ratio ∈ lwG ∧ Cond.selects (RX9, TX9, 36).1 yX9_ratio yX9_ratio ∈ lwG) ∧ vwCl[9]? = some (RX9, TX9, 36) ∧ 9 < 100 := ⟨⟨Or.inl (mT4 118 rfl rfl), mT1 11 rfl rfl, wcX9_ratio, by decide, by decide, by decide +kernel⟩, ⟨wiX9_ratio, mT4 120 rfl rfl⟩, rfl, by decide⟩
theorem lmL_20 : LkM RL 20 yX8_root cX8_root 8 (some .long) 4 ∧ (Cond.instanceMethod yX8_root ∈ lwG ∧ Cond.selects (RX8, TX8, 12).1 yX8_root yX8_root ∈ lwG) ∧ vwCl[8]? = some (RX8, TX8, 12) ∧ 8 < 100 := ⟨⟨Or.inl (mT2 146 rfl rfl), mT1 1 rfl rfl, wcX8_root, by decide, by decide, by decide +kernel⟩, ⟨wiX8_root, mT2 148 rfl rfl⟩, rfl, by decide⟩
theorem lmL_24 : LkM RL 24 yX9_root cX9_root 11 (some .long) 4 ∧ (Cond.instanceMethod yX9_root ∈ lwG ∧ Cond.selects (RX9, TX9, 36).1 yX9_root yX9_root ∈ lwG) ∧ vwCl[9]? = some (RX9, TX9, 36) ∧ 9 < 100 := ⟨⟨Or.inl (mT4 150 rfl rfl), mT1 11 rfl rfl, wcX9_root, by decide, by decide, by decide +kernel⟩, ⟨wiX9_root, mT4 152 rfl rfl⟩, rfl, by decide⟩
theorem lmL_25 : LkM RL 25 yX8_row cX8_row 3 (some .long) 2 ∧ (Cond.instanceMethod yX8_row ∈ lwG ∧ Cond.selects (RX8, TX8, 12).1 yX8_row yX8_row ∈ lwG) ∧ vwCl[8]? = some (RX8, TX8, 12) ∧ 8 < 100 := ⟨⟨Or.inl (mT2 156 rfl rfl), mT1 1 rfl rfl, wcX8_row, by decide, by decide, by decide +kernel⟩, ⟨wiX8_row, mT2 158 rfl rfl⟩, rfl, by decide⟩
theorem lmL_29 : LkM RL 29 yX9_row cX9_row 3 (some .long) 2 ∧ (Cond.instanceMethod yX9_row ∈ lwG ∧ Cond.selects (RX9, TX9, 36).1 yX9_row yX9_row ∈ lwG) ∧ vwCl[9]? = some (RX9, TX9, 36) ∧ 9 < 100 := ⟨⟨Or.inl (mT4 174 rfl rfl), mT1 11 rfl rfl, wcX9_row, by decide, by decide, by decide +kernel⟩, ⟨wiX9_row, mT4 176 rfl rfl⟩, rfl, by decide⟩
theorem lmL_30 : LkM RL 30 yX8_rule cX8_rule 3 (some .long) 1 ∧ (Cond.instanceMethod yX8_rule ∈ lwG ∧ Cond.selects (RX8, TX8, 12).1 yX8_rule yX8_rule ∈ lwG) ∧ vwCl[8]? = some (RX8, TX8, 12) ∧ 8 < 100 := ⟨⟨Or.inl (mT2 161 rfl rfl), mT1 1 rfl rfl, wcX8_rule, by decide, by decide, by decide +kernel⟩, ⟨wiX8_rule, mT2 163 rfl rfl⟩, rfl, by decide⟩
theorem lmL_34 : LkM RL 34 yX9_rule cX9_rule 7 (some .long) 1 ∧ (Cond.instanceMethod yX9_rule ∈ lwG ∧ Cond.selects (RX9, TX9, 36).1 yX9_rule yX9_rule ∈ lwG) ∧ vwCl[9]? = some (RX9, TX9, 36) ∧ 9 < 100 := ⟨⟨Or.inl (mT4 179 rfl rfl), mT1 11 rfl rfl, wcX9_rule, by decide, by decide, by decide +kernel⟩, ⟨wiX9_rule, mT4 181 rfl rfl⟩, rfl, by decide⟩
theorem lmL_35 : LkM RL 35 yX8_act cX8_act 7 (some .long) 3 ∧ (Cond.instanceMethod yX8_act ∈ lwG ∧ Cond.selects (RX8, TX8, 12).1 yX8_act yX8_act ∈ lwG) ∧ vwCl[8]? = some (RX8, TX8, 12) ∧ 8 < 100 := ⟨⟨Or.inl (mT2 172 rfl rfl), mT1 1 rfl rfl, wcX8_act, by decide, by decide, by decide +kernel⟩, ⟨wiX8_act, mT2 174 rfl rfl⟩, rfl, by decide⟩
theorem lmL_39 : LkM RL 39 yX9_act cX9_act 5 (some .long) 3 ∧ (Cond.instanceMethod yX9_act ∈ lwG ∧ Cond.selects (RX9, TX9, 36).1 yX9_act yX9_act ∈ lwG) ∧ vwCl[9]? = some (RX9, TX9, 36) ∧ 9 < 100 := ⟨⟨Or.inl (mT4 185 rfl rfl), mT1 11 rfl rfl, wcX9_act, by decide, by decide, by decide +kernel⟩, ⟨wiX9_act, mT4 187 rfl rfl⟩, rfl, by decide⟩
theorem lmL_40 : LkM RL 40 yX8_turn cX8_turn 4 (some .long) 1 ∧ (Cond.instanceMethod yX8_turn ∈ lwG ∧ Cond.selects (RX8, TX8, 12).1 yX8_turn yX8_turn ∈ lwG) ∧ vwCl[8]? = some (RX8, TX8, 12) ∧ 8 < 100 := ⟨⟨Or.inl (mT3 38 rfl rfl), mT1 1 rfl rfl, wcX8_turn, by decide, by decide, by decide +kernel⟩, ⟨wiX8_turn, mT3 40 rfl rfl⟩, rfl, by decide⟩
theorem lmL_43 : LkM RL 43 yX9_turn cX9_turn 3 (some .long) 1 ∧ (Cond.instanceMethod yX9_turn ∈ lwG ∧ Cond.selects (RX9, TX9, 36).1 yX9_turn yX9_turn ∈ lwG) ∧ vwCl[9]? = some (RX9, TX9, 36) ∧ 9 < 100 := ⟨⟨Or.inl (mT5 32 rfl rfl), mT1 11 rfl rfl, wcX9_turn, by decide, by decide, by decide +kernel⟩, ⟨wiX9_turn, mT5 34 rfl rfl⟩, rfl, by decide⟩
theorem lmL_44 : LkM RL 44 yX8_factor cX8_factor 5 (some .long) 2 ∧ (Cond.instanceMethod yX8_factor ∈ lwG ∧ Cond.selects (RX8, TX8, 12).1 yX8_factor yX8_factor ∈ lwG) ∧ vwCl[8]? = some (RX8, TX8, 12) ∧ 8 < 100 := ⟨⟨Or.inl (mT3 42 rfl rfl), mT1 1 rfl rfl, wcX8_factor, by decide, by decide, by decide +kernel⟩, ⟨wiX8_factor, mT3 44 rfl rfl⟩, rfl, by decide⟩
theorem lmL_47 : LkM RL 47 yX9_factor cX9_factor 5 (some .long) 2 ∧ (Cond.instanceMethod yX9_factor ∈ lwG ∧ Cond.selects (RX9, TX9, 36).1 yX9_factor yX9_factor ∈ lwG) ∧ vwCl[9]? = some (RX9, TX9, 36) ∧ 9 < 100 := ⟨⟨Or.inl (mT5 36 rfl rfl), mT1 11 rfl rfl, wcX9_factor, by decide, by decide, by decide +kernel⟩, ⟨wiX9_factor, mT5 38 rfl rfl⟩, rfl, by decide⟩
theorem lmL_48 : LkM RL 48 yX8_mix cX8_mix 7 (some .long) 2 ∧ (Cond.instanceMethod yX8_mix ∈ lwG ∧ Cond.selects (RX8, TX8, 12).1 yX8_mix yX8_mix ∈ lwG) ∧ vwCl[8]? = some (RX8, TX8, 12) ∧ 8 < 100 := ⟨⟨Or.inl (mT3 46 rfl rfl), mT1 1 rfl rfl, wcX8_mix, by decide, by decide, by decide +kernel⟩, ⟨wiX8_mix, mT3 48 rfl rfl⟩, rfl, by decide⟩
theorem lmL_51 : LkM RL 51 yX9_mix cX9_mix 9 (some .long) 2 ∧ (Cond.instanceMethod yX9_mix ∈ lwG ∧ Cond.selects (RX9, TX9, 36).1 yX9_mix yX9_mix ∈ lwG) ∧ vwCl[9]? = some (RX9, TX9, 36) ∧ 9 < 100 := ⟨⟨Or.inl (mT5 41 rfl rfl), mT1 11 rfl rfl, wcX9_mix, by decide, by decide, by decide +kernel⟩, ⟨wiX9_mix, mT5 43 rfl rfl⟩, rfl, by decide⟩
theorem lmL_52 : LkM RL 52 yX8_drop cX8_drop 3 (some .long) 1 ∧ (Cond.instanceMethod yX8_drop ∈ lwG ∧ Cond.selects (RX8, TX8, 12).1 yX8_drop yX8_drop ∈ lwG) ∧ vwCl[8]? = some (RX8, TX8, 12) ∧ 8 < 100 := ⟨⟨Or.inl (mT3 63 rfl rfl), mT1 1 rfl rfl, wcX8_drop, by decide, by decide, by decide +kernel⟩, ⟨wiX8_drop, mT3 65 rfl rfl⟩, rfl, by decide⟩
theorem lmL_55 : LkM RL 55 yX9_drop cX9_drop 2 (some .long) 1 ∧ (Cond.instanceMethod yX9_drop ∈ lwG ∧ Cond.selects (RX9, TX9, 36).1 yX9_drop yX9_drop ∈ lwG) ∧ vwCl[9]? = some (RX9, TX9, 36) ∧ 9 < 100 := ⟨⟨Or.inl (mT5 49 rfl rfl), mT1 11 rfl rfl, wcX9_drop, by decide, by decide, by decide +kernel⟩, ⟨wiX9_drop, mT5 51 rfl rfl⟩, rfl, by decide⟩
theorem lmL_56 : LkM RL 56 yX8_told cX8_told 4 (some .long) 2 ∧ (Cond.instanceMethod yX8_told ∈ lwG ∧ Cond.selects (RX8, TX8, 12).1 yX8_told yX8_told ∈ lwG) ∧ vwCl[8]? = some (RX8, TX8, 12) ∧ 8 < 100 := ⟨⟨Or.inl (mT3 71 rfl rfl), mT1 1 rfl rfl, wcX8_told, by decide, by decide, by decide +kernel⟩, ⟨wiX8_told, mT3 73 rfl rfl⟩, rfl, by decide⟩
theorem lmL_59 : LkM RL 59 yX9_told cX9_told 3 (some .long) 2 ∧ (Cond.instanceMethod yX9_told ∈ lwG ∧ Cond.selects (RX9, TX9, 36).1 yX9_told yX9_told ∈ lwG) ∧ vwCl[9]? = some (RX9, TX9, 36) ∧ 9 < 100 := ⟨⟨Or.inl (mT5 58 rfl rfl), mT1 11 rfl rfl, wcX9_told, by decide, by decide, by decide +kernel⟩, ⟨wiX9_told, mT5 60 rfl rfl⟩, rfl, by decide⟩
theorem lmL_60 : LkM RL 60 yX8_part cX8_part 4 (some .long) 2 ∧ (Cond.instanceMethod yX8_part ∈ lwG ∧ Cond.selects (RX8, TX8, 12).1 yX8_part yX8_part ∈ lwG) ∧ vwCl[8]? = some (RX8, TX8, 12) ∧ 8 < 100 := ⟨⟨Or.inl (mT3 79 rfl rfl), mT1 1 rfl rfl, wcX8_part, by decide, by decide, by decide +kernel⟩, ⟨wiX8_part, mT3 81 rfl rfl⟩, rfl, by decide⟩
theorem lmL_63 : LkM RL 63 yX9_part cX9_part 3 (some .long) 2 ∧ (Cond.instanceMethod yX9_part ∈ lwG ∧ Cond.selects (RX9, TX9, 36).1 yX9_part yX9_part ∈ lwG) ∧ vwCl[9]? = some (RX9, TX9, 36) ∧ 9 < 100 := ⟨⟨Or.inl (mT5 66 rfl rfl), mT1 11 rfl rfl, wcX9_part, by decide, by decide, by decide +kernel⟩, ⟨wiX9_part, mT5 68 rfl rfl⟩, rfl, by decide⟩
theorem lmL_64 : LkM RL 64 yX8_exact cX8_exact 4 (some .long) 2 ∧ (Cond.instanceMethod yX8_exact ∈ lwG ∧ Cond.selects (RX8, TX8, 12).1 yX8_exact yX8_exact ∈ lwG) ∧ vwCl[8]? = some (RX8, TX8, 12) ∧ 8 < 100 := ⟨⟨Or.inl (mT3 89 rfl rfl), mT1 1 rfl rfl, wcX8_exact, by decide, by decide, by decide +kernel⟩, ⟨wiX8_exact, mT3 91 rfl rfl⟩, rfl, by decide⟩
theorem lmL_67 : LkM RL 67 yX9_exact cX9_exact 3 (some .long) 2 ∧ (Cond.instanceMethod yX9_exact ∈ lwG ∧ Cond.selects (RX9, TX9, 36).1 yX9_exact yX9_exact ∈ lwG) ∧ vwCl[9]? = some (RX9, TX9, 36) ∧ 9 < 100 := ⟨⟨Or.inl (mT5 75 rfl rfl), mT1 11 rfl rfl, wcX9_exact, by decide, by decide, by decide +kernel⟩, ⟨wiX9_exact, mT5 77 rfl rfl⟩, rfl, by decide⟩
theorem lmL_68 : LkM RL 68 yX8_round cX8_round 4 (some .long) 2 ∧ (Cond.instanceMethod yX8_round ∈ lwG ∧ Cond.selects (RX8, TX8, 12).1 yX8_round yX8_round ∈ lwG) ∧ vwCl[8]? = some (RX8, TX8, 12) ∧ 8 < 100 := ⟨⟨Or.inl (mT3 96 rfl rfl), mT1 1 rfl rfl, wcX8_round, by decide, by decide, by decide +kernel⟩, ⟨wiX8_round, mT3 98 rfl rfl⟩, rfl, by decide⟩
theorem lmL_71 : LkM RL 71 yX9_round cX9_round 5 (some .long) 2 ∧ (Cond.instanceMethod yX9_round ∈ lwG ∧ Cond.selects (RX9, TX9, 36).1 yX9_round yX9_round ∈ lwG) ∧ vwCl[9]? = some (RX9, TX9, 36) ∧ 9 < 100 := ⟨⟨Or.inl (mT5 79 rfl rfl), mT1 11 rfl rfl, wcX9_round, by decide, by decide, by decide +kernel⟩, ⟨wiX9_round, mT5 81 rfl rfl⟩, rfl, by decide⟩
theorem lmL_72 : LkM RL 72 yX8_sign cX8_sign 5 (some .long) 1 ∧ (Cond.instanceMethod yX8_sign ∈ lwG ∧ Cond.selects (RX8, TX8, 12).1 yX8_sign yX8_sign ∈ lwG) ∧ vwCl[8]? = some (RX8, TX8, 12) ∧ 8 < 100 := ⟨⟨Or.inl (mT3 105 rfl rfl), mT1 1 rfl rfl, wcX8_sign, by decide, by decide, by decide +kernel⟩, ⟨wiX8_sign, mT3 107 rfl rfl⟩, rfl, by decide⟩
theorem lmL_75 : LkM RL 75 yX9_sign cX9_sign 4 (some .long) 1 ∧ (Cond.instanceMethod yX9_sign ∈ lwG ∧ Cond.selects (RX9, TX9, 36).1 yX9_sign yX9_sign ∈ lwG) ∧ vwCl[9]? = some (RX9, TX9, 36) ∧ 9 < 100 := ⟨⟨Or.inl (mT5 83 rfl rfl), mT1 11 rfl rfl, wcX9_sign, by decide, by decide, by decide +kernel⟩, ⟨wiX9_sign, mT5 85 rfl rfl⟩, rfl, by decide⟩
theorem lmL_76 : LkM RL 76 yX8_compare cX8_compare 5 (some .long) 2 ∧ (Cond.instanceMethod yX8_compare ∈ lwG ∧ Cond.selects (RX8, TX8, 12).1 yX8_compare yX8_compare ∈ lwG) ∧ vwCl[8]? = some (RX8, TX8, 12) ∧ 8 < 100 := ⟨⟨Or.inl (mT3 110 rfl rfl), mT1 1 rfl rfl, wcX8_compare, by decide, by decide, by decide +kernel⟩, ⟨wiX8_compare, mT3 112 rfl rfl⟩, rfl, by decide⟩
theorem lmL_79 : LkM RL 79 yX9_compare cX9_compare 10 (some .long) 2 ∧ (Cond.instanceMethod yX9_compare ∈ lwG ∧ Cond.selects (RX9, TX9, 36).1 yX9_compare yX9_compare ∈ lwG) ∧ vwCl[9]? = some (RX9, TX9, 36) ∧ 9 < 100 := ⟨⟨Or.inl (mT5 87 rfl rfl), mT1 11 rfl rfl, wcX9_compare, by decide, by decide, by decide +kernel⟩, ⟨wiX9_compare, mT5 89 rfl rfl⟩, rfl, by decide⟩
theorem lmL_80 : LkM RL 80 yX8_near cX8_near 5 (some .long) 3 ∧ (Cond.instanceMethod yX8_near ∈ lwG ∧ Cond.selects (RX8, TX8, 12).1 yX8_near yX8_near ∈ lwG) ∧ vwCl[8]? = some (RX8, TX8, 12) ∧ 8 < 100 := ⟨⟨Or.inl (mT3 125 rfl rfl), mT1 1 rfl rfl, wcX8_near, by decide, by decide, by decide +kernel⟩, ⟨wiX8_near, mT3 127 rfl rfl⟩, rfl, by decide⟩
theorem lmL_83 : LkM RL 83 yX9_near cX9_near 5 (some .long) 3 ∧ (Cond.instanceMethod yX9_near ∈ lwG ∧ Cond.selects (RX9, TX9, 36).1 yX9_near yX9_near ∈ lwG) ∧ vwCl[9]? = some (RX9, TX9, 36) ∧ 9 < 100 := ⟨⟨Or.inl (mT5 92 rfl rfl), mT1 11 rfl rfl, wcX9_near, by decide, by decide, by decide +kernel⟩, ⟨wiX9_near, mT5 94 rfl rfl⟩, rfl, by decide⟩
theorem lmL_84 : LkM RL 84 yX8_best cX8_best 10 (some .long) 4 ∧ (Cond.instanceMethod yX8_best ∈ lwG ∧ Cond.selects (RX8, TX8, 12).1 yX8_best yX8_best ∈ lwG) ∧ vwCl[8]? = some (RX8, TX8, 12) ∧ 8 < 100 := ⟨⟨Or.inl (mT3 147 rfl rfl), mT1 1 rfl rfl, wcX8_best, by decide, by decide, by decide +kernel⟩, ⟨wiX8_best, mT3 149 rfl rfl⟩, rfl, by decide⟩
theorem lmL_87 : LkM RL 87 yX9_best cX9_best 13 (some .long) 4 ∧ (Cond.instanceMethod yX9_best ∈ lwG ∧ Cond.selects (RX9, TX9, 36).1 yX9_best yX9_best ∈ lwG) ∧ vwCl[9]? = some (RX9, TX9, 36) ∧ 9 < 100 := ⟨⟨Or.inl (mT5 104 rfl rfl), mT1 11 rfl rfl, wcX9_best, by decide, by decide, by decide +kernel⟩, ⟨wiX9_best, mT5 106 rfl rfl⟩, rfl, by decide⟩
theorem lmL_88 : LkM RL 88 yX8_figure cX8_figure 5 (some .long) 3 ∧ (Cond.instanceMethod yX8_figure ∈ lwG ∧ Cond.selects (RX8, TX8, 12).1 yX8_figure yX8_figure ∈ lwG) ∧ vwCl[8]? = some (RX8, TX8, 12) ∧ 8 < 100 := ⟨⟨Or.inl (mT3 187 rfl rfl), mT1 1 rfl rfl, wcX8_figure, by decide, by decide, by decide +kernel⟩, ⟨wiX8_figure, mT3 189 rfl rfl⟩, rfl, by decide⟩
theorem lmL_91 : LkM RL 91 yX9_figure cX9_figure 14 (some .long) 3 ∧ (Cond.instanceMethod yX9_figure ∈ lwG ∧ Cond.selects (RX9, TX9, 36).1 yX9_figure yX9_figure ∈ lwG) ∧ vwCl[9]? = some (RX9, TX9, 36) ∧ 9 < 100 := ⟨⟨Or.inl (mT5 116 rfl rfl), mT1 11 rfl rfl, wcX9_figure, by decide, by decide, by decide +kernel⟩, ⟨wiX9_figure, mT5 118 rfl rfl⟩, rfl, by decide⟩
theorem lmL_92 : LkM RL 92 yX8_roll cX8_roll 3 (some .long) 2 ∧ (Cond.instanceMethod yX8_roll ∈ lwG ∧ Cond.selects (RX8, TX8, 12).1 yX8_roll yX8_roll ∈ lwG) ∧ vwCl[8]? = some (RX8, TX8, 12) ∧ 8 < 100 := ⟨⟨Or.inl (mT3 224 rfl rfl), mT1 1 rfl rfl, wcX8_roll, by decide, by decide, by decide +kernel⟩, ⟨wiX8_roll, mT3 226 rfl rfl⟩, rfl, by decide⟩
theorem lmL_95 : LkM RL 95 yX9_roll_ cX9_roll_ 3 (some .long) 2 ∧ (Cond.instanceMethod yX9_roll_ ∈ lwG ∧ Cond.selects (RX9, TX9, 36).1 yX9_roll_ yX9_roll_ ∈ lwG) ∧ vwCl[9]? = some (RX9, TX9, 36) ∧ 9 < 100 := ⟨⟨Or.inl (mT5 53 rfl rfl), mT1 11 rfl rfl, wcX9_roll_, by decide, by decide, by decide +kernel⟩, ⟨wiX9_roll_, mT5 55 rfl rfl⟩, rfl, by decide⟩
theorem lmL_96 : LkM RL 96 yX8_count cX8_count 2 (some .long) 1 ∧ (Cond.instanceMethod yX8_count ∈ lwG ∧ Cond.selects (RX8, TX8, 12).1 yX8_count yX8_count ∈ lwG) ∧ vwCl[8]? = some (RX8, TX8, 12) ∧ 8 < 100 := ⟨⟨Or.inl (mT3 233 rfl rfl), mT1 1 rfl rfl, wcX8_count, by decide, by decide, by decide +kernel⟩, ⟨wiX8_count, mT3 235 rfl rfl⟩, rfl, by decide⟩
theorem lmL_99 : LkM RL 99 yX9_count cX9_count 5 (some .long) 1 ∧ (Cond.instanceMethod yX9_count ∈ lwG ∧ Cond.selects (RX9, TX9, 36).1 yX9_count yX9_count ∈ lwG) ∧ vwCl[9]? = some (RX9, TX9, 36) ∧ 9 < 100 := ⟨⟨Or.inl (mT5 137 rfl rfl), mT1 11 rfl rfl, wcX9_count, by decide, by decide, by decide +kernel⟩, ⟨wiX9_count, mT5 139 rfl rfl⟩, rfl, by decide⟩
theorem lmX0_37 : LkM RX0 37 yX2_lowerAt cX2_lowerAt 2 (some .long) 1 ∧ (Cond.instanceMethod yX2_lowerAt ∈ lwG ∧ Cond.selects (RX2, TX2, 3).1 yX2_lowerAt yX2_lowerAt ∈ lwG) ∧ vwCl[2]? = some (RX2, TX2, 3) ∧ 2 < 100 := ⟨⟨Or.inr ⟨_, nT3 196 rfl rfl⟩, mT1 7 rfl rfl, wcX2_lowerAt, by decide, by decide, by decide +kernel⟩, ⟨wiX2_lowerAt, mS (q := (yX2_lowerAt, 3)) 41 rfl rfl⟩, rfl, by decide⟩
theorem lmX0_43 : LkM RX0 43 yX8_times cX8_times 4 (some .long) 2 ∧ Cond.static yX8_times ∈ lwG := ⟨⟨Or.inr ⟨_, nT3 198 rfl rfl⟩, mT1 1 rfl rfl, wcX8_times, by decide, by decide, by decide +kernel⟩, wiX8_times⟩
theorem lmX0_47 : LkM RX0 47 yX8_isFar cX8_isFar 2 (some .boolean) 1 ∧ Cond.static yX8_isFar ∈ lwG := ⟨⟨Or.inr ⟨_, nT3 199 rfl rfl⟩, mT1 1 rfl rfl, wcX8_isFar, by decide, by decide, by decide +kernel⟩, wiX8_isFar⟩
theorem lmX0_51 : LkM RX0 51 yX2_upperAt cX2_upperAt 2 (some .long) 1 ∧ (Cond.instanceMethod yX2_upperAt ∈ lwG ∧ Cond.selects (RX2, TX2, 3).1 yX2_upperAt yX2_upperAt ∈ lwG) ∧ vwCl[2]? = some (RX2, TX2, 3) ∧ 2 < 100 := ⟨⟨Or.inr ⟨_, nT3 200 rfl rfl⟩, mT1 7 rfl rfl, wcX2_upperAt, by decide, by decide, by decide +kernel⟩, ⟨wiX2_upperAt, mS (q := (yX2_upperAt, 3)) 40 rfl rfl⟩, rfl, by decide⟩
theorem lmX0_54 : LkM RX0 54 yX0_splitLow cX0_splitLow 5 none 2 ∧ (Cond.instanceMethod yX0_splitLow ∈ lwG ∧ Cond.selects (RX0, TX0, 4).1 yX0_splitLow yX0_splitLow ∈ lwG) ∧ vwCl[0]? = some (RX0, TX0, 4) ∧ 0 < 100 := ⟨⟨Or.inl (mT3 201 rfl rfl), mT1 9 rfl rfl, wcX0_splitLow, by decide, by decide, by decide +kernel⟩, ⟨wiX0_splitLow, mS (q := (yX0_splitLow, 4)) 49 rfl rfl⟩, rfl, by decide⟩
theorem lmX0_58 : LkM RX0 58 yX2_lastForSpan cX2_lastForSpan 3 (some .int) 0 ∧ (Cond.instanceMethod yX2_lastForSpan ∈ lwG ∧ Cond.selects (RX2, TX2, 3).1 yX2_lastForSpan yX2_lastForSpan ∈ lwG) ∧ vwCl[2]? = some (RX2, TX2, 3) ∧ 2 < 100 := ⟨⟨Or.inr ⟨_, nT3 210 rfl rfl⟩, mT1 7 rfl rfl, wcX2_lastForSpan, by decide, by decide, by decide +kernel⟩, ⟨wiX2_lastForSpan, mS (q := (yX2_lastForSpan, 3)) 51 rfl rfl⟩, rfl, by decide⟩
theorem lmX0_64 : LkM RX0 64 yX0_splitHigh cX0_splitHigh 5 none 2 ∧ (Cond.instanceMethod yX0_splitHigh ∈ lwG ∧ Cond.selects (RX0, TX0, 4).1 yX0_splitHigh yX0_splitHigh ∈ lwG) ∧ vwCl[0]? = some (RX0, TX0, 4) ∧ 0 < 100 := ⟨⟨Or.inl (mT3 220 rfl rfl), mT1 9 rfl rfl, wcX0_splitHigh, by decide, by decide, by decide +kernel⟩, ⟨wiX0_splitHigh, mS (q := (yX0_splitHigh, 4)) 52 rfl rfl⟩, rfl, by decide⟩
theorem lmX0_67 : LkM RX0 67 yX8_floorOf cX8_floorOf 4 (some .long) 2 ∧ Cond.static yX8_floorOf ∈ lwG := ⟨⟨Or.inr ⟨_, nT3 205 rfl rfl⟩, mT1 1 rfl rfl, wcX8_floorOf, by decide, by decide, by decide +kernel⟩, wiX8_floorOf⟩
theorem lmX1_11 : LkM RX1 11 yX6_init cX6_init 3 none 2 ∧ yX6_init.name = "<init>" ∧ Cond.instanceMethod yX6_init ∈ lwG := ⟨⟨Or.inr ⟨_, nT1 147 rfl rfl⟩, mT1 6 rfl rfl, wcX6_init, by decide, by decide, by decide +kernel⟩, rfl, wiX6_init⟩
theorem lmX1_50 : LkM RX1 50 yX7_start cX7_start 2 none 1 ∧ (Cond.instanceMethod yX7_start ∈ lwG ∧ Cond.selects (RX7, TX7, 10).1 yX7_start yX7_start ∈ lwG) ∧ vwCl[7]? = some (RX7, TX7, 10) ∧ 7 < 100 := ⟨⟨Or.inr ⟨_, nT2 218 rfl rfl⟩, mT1 2 rfl rfl, wcX7_start, by decide, by decide, by decide +kernel⟩, ⟨wiX7_start, mS (q := (yX7_start, 10)) 1 rfl rfl⟩, rfl, by decide⟩
theorem lmX1_56 : LkM RX1 56 yX6_startWith cX6_startWith 2 none 1 ∧ (Cond.instanceMethod yX6_startWith ∈ lwG ∧ Cond.selects (RX6, TX6, 5).1 yX6_startWith yX6_startWith ∈ lwG) ∧ vwCl[6]? = some (RX6, TX6, 5) ∧ 6 < 100 := ⟨⟨Or.inr ⟨_, nT2 219 rfl rfl⟩, mT1 6 rfl rfl, wcX6_startWith, by decide, by decide, by decide +kernel⟩, ⟨wiX6_startWith, mS (q := (yX6_startWith, 5)) 18 rfl rfl⟩, rfl, by decide⟩
theorem lmX1_60 : LkM RX1 60 yX1_goOn cX1_goOn 3 (some .boolean) 1 ∧ (Cond.instanceMethod yX1_goOn ∈ lwG ∧ Cond.selects (RX1, TX1, 9).1 yX1_goOn yX1_goOn ∈ lwG) ∧ vwCl[1]? = some (RX1, TX1, 9) ∧ 1 < 100 := ⟨⟨Or.inl (mT2 223 rfl rfl), mT1 5 rfl rfl, wcX1_goOn, by decide, by decide, by decide +kernel⟩, ⟨wiX1_goOn, mS (q := (yX1_goOn, 9)) 19 rfl rfl⟩, rfl, by decide⟩
theorem lmX1_78 : LkM RX1 78 yX1_workOutCorners cX1_workOutCorners 1 (some .boolean) 0 ∧ (Cond.instanceMethod yX1_workOutCorners ∈ lwG ∧ Cond.selects (RX1, TX1, 9).1 yX1_workOutCorners yX1_workOutCorners ∈ lwG) ∧ vwCl[1]? = some (RX1, TX1, 9) ∧ 1 < 100 := ⟨⟨Or.inl (mT2 227 rfl rfl), mT1 5 rfl rfl, wcX1_workOutCorners, by decide, by decide, by decide +kernel⟩, ⟨wiX1_workOutCorners, mS (q := (yX1_workOutCorners, 9)) 20 rfl rfl⟩, rfl, by decide⟩
theorem lmX1_82 : LkM RX1 82 yX1_cornersAgree cX1_cornersAgree 4 (some .boolean) 0 ∧ (Cond.instanceMethod yX1_cornersAgree ∈ lwG ∧ Cond.selects (RX1, TX1, 9).1 yX1_cornersAgree yX1_cornersAgree ∈ lwG) ∧ vwCl[1]? = some (RX1, TX1, 9) ∧ 1 < 100 := ⟨⟨Or.inl (mT2 237 rfl rfl), mT1 5 rfl rfl, wcX1_cornersAgree, by decide, by decide, by decide +kernel⟩, ⟨wiX1_cornersAgree, mS (q := (yX1_cornersAgree, 9)) 22 rfl rfl⟩, rfl, by decide⟩
theorem lmX1_85 : LkM RX1 85 yX8_floorOf cX8_floorOf 4 (some .long) 2 ∧ Cond.static yX8_floorOf ∈ lwG := ⟨⟨Or.inr ⟨_, nT3 1 rfl rfl⟩, mT1 1 rfl rfl, wcX8_floorOf, by decide, by decide, by decide +kernel⟩, wiX8_floorOf⟩
theorem lmX1_89 : LkM RX1 89 yX1_giveTo cX1_giveTo 5 (some .boolean) 2 ∧ (Cond.instanceMethod yX1_giveTo ∈ lwG ∧ Cond.selects (RX1, TX1, 9).1 yX1_giveTo yX1_giveTo ∈ lwG) ∧ vwCl[1]? = some (RX1, TX1, 9) ∧ 1 < 100 := ⟨⟨Or.inl (mT3 2 rfl rfl), mT1 5 rfl rfl, wcX1_giveTo, by decide, by decide, by decide +kernel⟩, ⟨wiX1_giveTo, mS (q := (yX1_giveTo, 9)) 23 rfl rfl⟩, rfl, by decide⟩
theorem lmX1_93 : LkM RX1 93 yX1_takeFrom cX1_takeFrom 2 (some .boolean) 1 ∧ (Cond.instanceMethod yX1_takeFrom ∈ lwG ∧ Cond.selects (RX1, TX1, 9).1 yX1_takeFrom yX1_takeFrom ∈ lwG) ∧ vwCl[1]? = some (RX1, TX1, 9) ∧ 1 < 100 := ⟨⟨Or.inl (mT3 18 rfl rfl), mT1 5 rfl rfl, wcX1_takeFrom, by decide, by decide, by decide +kernel⟩, ⟨wiX1_takeFrom, mS (q := (yX1_takeFrom, 9)) 26 rfl rfl⟩, rfl, by decide⟩
theorem lmX1_97 : LkM RX1 97 yX1_fillCorners cX1_fillCorners 12 (some .boolean) 2 ∧ (Cond.instanceMethod yX1_fillCorners ∈ lwG ∧ Cond.selects (RX1, TX1, 9).1 yX1_fillCorners yX1_fillCorners ∈ lwG) ∧ vwCl[1]? = some (RX1, TX1, 9) ∧ 1 < 100 := ⟨⟨Or.inl (mT2 231 rfl rfl), mT1 5 rfl rfl, wcX1_fillCorners, by decide, by decide, by decide +kernel⟩, ⟨wiX1_fillCorners, mS (q := (yX1_fillCorners, 9)) 21 rfl rfl⟩, rfl, by decide⟩
theorem lmX1_101 : LkM RX1 101 yX8_plus cX8_plus 4 (some .long) 2 ∧ Cond.static yX8_plus ∈ lwG := ⟨⟨Or.inr ⟨_, nT2 235 rfl rfl⟩, mT1 1 rfl rfl, wcX8_plus, by decide, by decide, by decide +kernel⟩, wiX8_plus⟩
theorem lmX1_104 : LkM RX1 104 yX8_isFar cX8_isFar 2 (some .boolean) 1 ∧ Cond.static yX8_isFar ∈ lwG := ⟨⟨Or.inr ⟨_, nT2 236 rfl rfl⟩, mT1 1 rfl rfl, wcX8_isFar, by decide, by decide, by decide +kernel⟩, wiX8_isFar⟩
theorem lmX1_108 : LkM RX1 108 yX8_times cX8_times 4 (some .long) 2 ∧ Cond.static yX8_times ∈ lwG := ⟨⟨Or.inr ⟨_, nT3 6 rfl rfl⟩, mT1 1 rfl rfl, wcX8_times, by decide, by decide, by decide +kernel⟩, wiX8_times⟩
theorem lmX1_111 : LkM RX1 111 yX8_minus cX8_minus 4 (some .long) 2 ∧ Cond.static yX8_minus ∈ lwG := ⟨⟨Or.inr ⟨_, nT3 7 rfl rfl⟩, mT1 1 rfl rfl, wcX8_minus, by decide, by decide, by decide +kernel⟩, wiX8_minus⟩
theorem lmX1_114 : LkM RX1 114 yX1_keepStep cX1_keepStep 7 (some .boolean) 2 ∧ (Cond.instanceMethod yX1_keepStep ∈ lwG ∧ Cond.selects (RX1, TX1, 9).1 yX1_keepStep yX1_keepStep ∈ lwG) ∧ vwCl[1]? = some (RX1, TX1, 9) ∧ 1 < 100 := ⟨⟨Or.inl (mT3 8 rfl rfl), mT1 5 rfl rfl, wcX1_keepStep, by decide, by decide, by decide +kernel⟩, ⟨wiX1_keepStep, mS (q := (yX1_keepStep, 9)) 24 rfl rfl⟩, rfl, by decide⟩
theorem lmX1_118 : LkM RX1 118 yX7_addPart cX7_addPart 3 none 1 ∧ (Cond.instanceMethod yX7_addPart ∈ lwG ∧ Cond.selects (RX7, TX7, 10).1 yX7_addPart yX7_addPart ∈ lwG) ∧ vwCl[7]? = some (RX7, TX7, 10) ∧ 7 < 100 := ⟨⟨Or.inr ⟨_, nT3 17 rfl rfl⟩, mT1 2 rfl rfl, wcX7_addPart, by decide, by decide, by decide +kernel⟩, ⟨wiX7_addPart, mS (q := (yX7_addPart, 10)) 2 rfl rfl⟩, rfl, by decide⟩
theorem lmX1_126 : LkM RX1 126 yX7_partAt cX7_partAt 2 (some .long) 1 ∧ (Cond.instanceMethod yX7_partAt ∈ lwG ∧ Cond.selects (RX7, TX7, 10).1 yX7_partAt yX7_partAt ∈ lwG) ∧ vwCl[7]? = some (RX7, TX7, 10) ∧ 7 < 100 := ⟨⟨Or.inr ⟨_, nT3 22 rfl rfl⟩, mT1 2 rfl rfl, wcX7_partAt, by decide, by decide, by decide +kernel⟩, ⟨wiX7_partAt, mS (q := (yX7_partAt, 10)) 27 rfl rfl⟩, rfl, by decide⟩
theorem lmX1_130 : LkM RX1 130 yX1_takePart cX1_takePart 7 (some .boolean) 2 ∧ (Cond.instanceMethod yX1_takePart ∈ lwG ∧ Cond.selects (RX1, TX1, 9).1 yX1_takePart yX1_takePart ∈ lwG) ∧ vwCl[1]? = some (RX1, TX1, 9) ∧ 1 < 100 := ⟨⟨Or.inl (mT3 26 rfl rfl), mT1 5 rfl rfl, wcX1_takePart, by decide, by decide, by decide +kernel⟩, ⟨wiX1_takePart, mS (q := (yX1_takePart, 9)) 28 rfl rfl⟩, rfl, by decide⟩
theorem lmX1_134 : LkM RX1 134 yX6_hasEnded cX6_hasEnded 1 (some .boolean) 0 ∧ (Cond.instanceMethod yX6_hasEnded ∈ lwG ∧ Cond.selects (RX6, TX6, 5).1 yX6_hasEnded yX6_hasEnded ∈ lwG) ∧ vwCl[6]? = some (RX6, TX6, 5) ∧ 6 < 100 := ⟨⟨Or.inr ⟨_, nT3 30 rfl rfl⟩, mT1 6 rfl rfl, wcX6_hasEnded, by decide, by decide, by decide +kernel⟩, ⟨wiX6_hasEnded, mS (q := (yX6_hasEnded, 5)) 29 rfl rfl⟩, rfl, by decide⟩
theorem lmX1_137 : LkM RX1 137 yX1_takeEnd cX1_takeEnd 4 (some .boolean) 1 ∧ (Cond.instanceMethod yX1_takeEnd ∈ lwG ∧ Cond.selects (RX1, TX1, 9).1 yX1_takeEnd yX1_takeEnd ∈ lwG) ∧ vwCl[1]? = some (RX1, TX1, 9) ∧ 1 < 100 := ⟨⟨Or.inl (mT3 34 rfl rfl), mT1 5 rfl rfl, wcX1_takeEnd, by decide, by decide, by decide +kernel⟩, ⟨wiX1_takeEnd, mS (q := (yX1_takeEnd, 9)) 30 rfl rfl⟩, rfl, by decide⟩
theorem lmX1_146 : LkM RX1 146 yX8_greatestCommonDivisor cX8_greatestCommonDivisor 11 (some .long) 2 ∧ Cond.static yX8_greatestCommonDivisor ∈ lwG := ⟨⟨Or.inr ⟨_, nT3 12 rfl rfl⟩, mT1 1 rfl rfl, wcX8_greatestCommonDivisor, by decide, by decide, by decide +kernel⟩, wiX8_greatestCommonDivisor⟩
theorem lmX1_149 : LkM RX1 149 yX1_rollOn cX1_rollOn 6 none 2 ∧ (Cond.instanceMethod yX1_rollOn ∈ lwG ∧ Cond.selects (RX1, TX1, 9).1 yX1_rollOn yX1_rollOn ∈ lwG) ∧ vwCl[1]? = some (RX1, TX1, 9) ∧ 1 < 100 := ⟨⟨Or.inl (mT3 13 rfl rfl), mT1 5 rfl rfl, wcX1_rollOn, by decide, by decide, by decide +kernel⟩, ⟨wiX1_rollOn, mS (q := (yX1_rollOn, 9)) 25 rfl rfl⟩, rfl, by decide⟩
theorem lmX2_27 : LkM RX2 27 yX7_partAt cX7_partAt 2 (some .long) 1 ∧ (Cond.instanceMethod yX7_partAt ∈ lwG ∧ Cond.selects (RX7, TX7, 10).1 yX7_partAt yX7_partAt ∈ lwG) ∧ vwCl[7]? = some (RX7, TX7, 10) ∧ 7 < 100 := ⟨⟨Or.inr ⟨_, nT3 133 rfl rfl⟩, mT1 2 rfl rfl, wcX7_partAt, by decide, by decide, by decide +kernel⟩, ⟨wiX7_partAt, mS (q := (yX7_partAt, 10)) 27 rfl rfl⟩, rfl, by decide⟩
theorem lmX2_31 : LkM RX2 31 yX2_upperAt cX2_upperAt 2 (some .long) 1 ∧ (Cond.instanceMethod yX2_upperAt ∈ lwG ∧ Cond.selects (RX2, TX2, 3).1 yX2_upperAt yX2_upperAt ∈ lwG) ∧ vwCl[2]? = some (RX2, TX2, 3) ∧ 2 < 100 := ⟨⟨Or.inl (mT3 134 rfl rfl), mT1 7 rfl rfl, wcX2_upperAt, by decide, by decide, by decide +kernel⟩, ⟨wiX2_upperAt, mS (q := (yX2_upperAt, 3)) 40 rfl rfl⟩, rfl, by decide⟩
theorem lmX2_34 : LkM RX2 34 yX8_times cX8_times 4 (some .long) 2 ∧ Cond.static yX8_times ∈ lwG := ⟨⟨Or.inr ⟨_, nT3 138 rfl rfl⟩, mT1 1 rfl rfl, wcX8_times, by decide, by decide, by decide +kernel⟩, wiX8_times⟩
theorem lmX2_38 : LkM RX2 38 yX8_plus cX8_plus 4 (some .long) 2 ∧ Cond.static yX8_plus ∈ lwG := ⟨⟨Or.inr ⟨_, nT3 139 rfl rfl⟩, mT1 1 rfl rfl, wcX8_plus, by decide, by decide, by decide +kernel⟩, wiX8_plus⟩
theorem lmX2_41 : LkM RX2 41 yX2_lowerAt cX2_lowerAt 2 (some .long) 1 ∧ (Cond.instanceMethod yX2_lowerAt ∈ lwG ∧ Cond.selects (RX2, TX2, 3).1 yX2_lowerAt yX2_lowerAt ∈ lwG) ∧ vwCl[2]? = some (RX2, TX2, 3) ∧ 2 < 100 := ⟨⟨Or.inl (mT3 140 rfl rfl), mT1 7 rfl rfl, wcX2_lowerAt, by decide, by decide, by decide +kernel⟩, ⟨wiX2_lowerAt, mS (q := (yX2_lowerAt, 3)) 41 rfl rfl⟩, rfl, by decide⟩
theorem lmX2_44 : LkM RX2 44 yX8_isFar cX8_isFar 2 (some .boolean) 1 ∧ Cond.static yX8_isFar ∈ lwG := ⟨⟨Or.inr ⟨_, nT3 144 rfl rfl⟩, mT1 1 rfl rfl, wcX8_isFar, by decide, by decide, by decide +kernel⟩, wiX8_isFar⟩
theorem lmX2_48 : LkM RX2 48 yX2_isSmall cX2_isSmall 2 (some .boolean) 1 ∧ Cond.static yX2_isSmall ∈ lwG := ⟨⟨Or.inl (mT3 214 rfl rfl), mT1 7 rfl rfl, wcX2_isSmall, by decide, by decide, by decide +kernel⟩, wiX2_isSmall⟩
theorem lmX3_33 : LkM RX3 33 yX8_times cX8_times 4 (some .long) 2 ∧ Cond.static yX8_times ∈ lwG := ⟨⟨Or.inr ⟨_, nT2 192 rfl rfl⟩, mT1 1 rfl rfl, wcX8_times, by decide, by decide, by decide +kernel⟩, wiX8_times⟩
theorem lmX3_37 : LkM RX3 37 yX8_plus cX8_plus 4 (some .long) 2 ∧ Cond.static yX8_plus ∈ lwG := ⟨⟨Or.inr ⟨_, nT2 197 rfl rfl⟩, mT1 1 rfl rfl, wcX8_plus, by decide, by decide, by decide +kernel⟩, wiX8_plus⟩
theorem lmX3_41 : LkM RX3 41 yX8_minus cX8_minus 4 (some .long) 2 ∧ Cond.static yX8_minus ∈ lwG := ⟨⟨Or.inr ⟨_, nT2 200 rfl rfl⟩, mT1 1 rfl rfl, wcX8_minus, by decide, by decide, by decide +kernel⟩, wiX8_minus⟩
theorem lmX3_44 : LkM RX3 44 yX3_workOver cX3_workOver 3 none 2 ∧ (Cond.instanceMethod yX3_workOver ∈ lwG ∧ Cond.selects (RX3, TX3, 4).1 yX3_workOver yX3_workOver ∈ lwG) ∧ vwCl[3]? = some (RX3, TX3, 4) ∧ 3 < 100 := ⟨⟨Or.inl (mT2 204 rfl rfl), mT1 3 rfl rfl, wcX3_workOver, by decide, by decide, by decide +kernel⟩, ⟨wiX3_workOver, mS (q := (yX3_workOver, 4)) 15 rfl rfl⟩, rfl, by decide⟩
theorem lmX3_48 : LkM RX3 48 yX3_mixed cX3_mixed 6 (some .long) 4 ∧ Cond.static yX3_mixed ∈ lwG := ⟨⟨Or.inl (mT3 54 rfl rfl), mT1 3 rfl rfl, wcX3_mixed, by decide, by decide, by decide +kernel⟩, wiX3_mixed⟩
theorem lmX3_52 : LkM RX3 52 yX3_become cX3_become 9 none 4 ∧ (Cond.instanceMethod yX3_become ∈ lwG ∧ Cond.selects (RX3, TX3, 4).1 yX3_become yX3_become ∈ lwG) ∧ vwCl[3]? = some (RX3, TX3, 4) ∧ 3 < 100 := ⟨⟨Or.inl (mT3 58 rfl rfl), mT1 3 rfl rfl, wcX3_become, by decide, by decide, by decide +kernel⟩, ⟨wiX3_become, mS (q := (yX3_become, 4)) 4 rfl rfl⟩, rfl, by decide⟩
theorem lmX3_58 : LkM RX3 58 yX8_isFar cX8_isFar 2 (some .boolean) 1 ∧ Cond.static yX8_isFar ∈ lwG := ⟨⟨Or.inr ⟨_, nT2 107 rfl rfl⟩, mT1 1 rfl rfl, wcX8_isFar, by decide, by decide, by decide +kernel⟩, wiX8_isFar⟩
theorem lmX3_62 : LkM RX3 62 yX8_greatestCommonDivisor cX8_greatestCommonDivisor 11 (some .long) 2 ∧ Cond.static yX8_greatestCommonDivisor ∈ lwG := ⟨⟨Or.inr ⟨_, nT2 108 rfl rfl⟩, mT1 1 rfl rfl, wcX8_greatestCommonDivisor, by decide, by decide, by decide +kernel⟩, wiX8_greatestCommonDivisor⟩
theorem lmX3_65 : LkM RX3 65 yX3_isFarRoot cX3_isFarRoot 1 (some .boolean) 0 ∧ (Cond.instanceMethod yX3_isFarRoot ∈ lwG ∧ Cond.selects (RX3, TX3, 4).1 yX3_isFarRoot yX3_isFarRoot ∈ lwG) ∧ vwCl[3]? = some (RX3, TX3, 4) ∧ 3 < 100 := ⟨⟨Or.inl (mT2 111 rfl rfl), mT1 3 rfl rfl, wcX3_isFarRoot, by decide, by decide, by decide +kernel⟩, ⟨wiX3_isFarRoot, mS (q := (yX3_isFarRoot, 4)) 7 rfl rfl⟩, rfl, by decide⟩
theorem lmX3_71 : LkM RX3 71 yJ9_abs_067f4 cJ9_abs_067f4 2 (some .long) 1 ∧ Cond.static yJ9_abs_067f4 ∈ lwG := ⟨⟨Or.inl (mT2 116 rfl rfl), mT1 10 rfl rfl, wcJ9_abs_067f4, by decide, by decide, by decide +kernel⟩, wiJ9_abs_067f4⟩
theorem lmX4_40 : LkM RX4 40 yX8_sideBelow cX8_sideBelow 8 (some .long) 1 ∧ Cond.static yX8_sideBelow ∈ lwG := ⟨⟨Or.inr ⟨_, nT2 131 rfl rfl⟩, mT1 1 rfl rfl, wcX8_sideBelow, by decide, by decide, by decide +kernel⟩, wiX8_sideBelow⟩
theorem lmX4_47 : LkM RX4 47 yX4_wholeBelow cX4_wholeBelow 4 (some .long) 2 ∧ Cond.static yX4_wholeBelow ∈ lwG := ⟨⟨Or.inl (mT2 135 rfl rfl), mT1 4 rfl rfl, wcX4_wholeBelow, by decide, by decide, by decide +kernel⟩, wiX4_wholeBelow⟩
theorem lmX4_51 : LkM RX4 51 yX8_floorOf cX8_floorOf 4 (some .long) 2 ∧ Cond.static yX8_floorOf ∈ lwG := ⟨⟨Or.inr ⟨_, nT2 138 rfl rfl⟩, mT1 1 rfl rfl, wcX8_floorOf, by decide, by decide, by decide +kernel⟩, wiX8_floorOf⟩
theorem lmX5_26 : LkM RX5 26 yX3_init cX3_init 1 none 0 ∧ yX3_init.name = "<init>" ∧ Cond.instanceMethod yX3_init ∈ lwG := ⟨⟨Or.inr ⟨_, nT1 227 rfl rfl⟩, mT1 3 rfl rfl, wcX3_init, by decide, by decide, by decide +kernel⟩, rfl, wiX3_init⟩
theorem lmX5_33 : LkM RX5 33 yX7_init cX7_init 1 none 0 ∧ yX7_init.name = "<init>" ∧ Cond.instanceMethod yX7_init ∈ lwG := ⟨⟨Or.inr ⟨_, nT1 229 rfl rfl⟩, mT1 2 rfl rfl, wcX7_init, by decide, by decide, by decide +kernel⟩, rfl, wiX7_init⟩
theorem lmX5_44 : LkM RX5 44 yX2_lowerAt cX2_lowerAt 2 (some .long) 1 ∧ (Cond.instanceMethod yX2_lowerAt ∈ lwG ∧ Cond.selects (RX2, TX2, 3).1 yX2_lowerAt yX2_lowerAt ∈ lwG) ∧ vwCl[2]? = some (RX2, TX2, 3) ∧ 2 < 100 := ⟨⟨Or.inr ⟨_, nT3 155 rfl rfl⟩, mT1 7 rfl rfl, wcX2_lowerAt, by decide, by decide, by decide +kernel⟩, ⟨wiX2_lowerAt, mS (q := (yX2_lowerAt, 3)) 41 rfl rfl⟩, rfl, by decide⟩
theorem lmX5_48 : LkM RX5 48 yX5_settleAhead cX5_settleAhead 10 none 3 ∧ (Cond.instanceMethod yX5_settleAhead ∈ lwG ∧ Cond.selects (RX5, TX5, 6).1 yX5_settleAhead yX5_settleAhead ∈ lwG) ∧ vwCl[5]? = some (RX5, TX5, 6) ∧ 5 < 100 := ⟨⟨Or.inl (mT3 156 rfl rfl), mT1 8 rfl rfl, wcX5_settleAhead, by decide, by decide, by decide +kernel⟩, ⟨wiX5_settleAhead, mS (q := (yX5_settleAhead, 6)) 43 rfl rfl⟩, rfl, by decide⟩
theorem lmX5_63 : LkM RX5 63 yX2_upperAt cX2_upperAt 2 (some .long) 1 ∧ (Cond.instanceMethod yX2_upperAt ∈ lwG ∧ Cond.selects (RX2, TX2, 3).1 yX2_upperAt yX2_upperAt ∈ lwG) ∧ vwCl[2]? = some (RX2, TX2, 3) ∧ 2 < 100 := ⟨⟨Or.inr ⟨_, nT3 161 rfl rfl⟩, mT1 7 rfl rfl, wcX2_upperAt, by decide, by decide, by decide +kernel⟩, ⟨wiX2_upperAt, mS (q := (yX2_upperAt, 3)) 40 rfl rfl⟩, rfl, by decide⟩
theorem lmX5_66 : LkM RX5 66 yX5_setSide cX5_setSide 6 none 3 ∧ (Cond.instanceMethod yX5_setSide ∈ lwG ∧ Cond.selects (RX5, TX5, 6).1 yX5_setSide yX5_setSide ∈ lwG) ∧ vwCl[5]? = some (RX5, TX5, 6) ∧ 5 < 100 := ⟨⟨Or.inl (mT3 162 rfl rfl), mT1 8 rfl rfl, wcX5_setSide, by decide, by decide, by decide +kernel⟩, ⟨wiX5_setSide, mS (q := (yX5_setSide, 6)) 44 rfl rfl⟩, rfl, by decide⟩
theorem lmX5_70 : LkM RX5 70 yX8_floorOf cX8_floorOf 4 (some .long) 2 ∧ Cond.static yX8_floorOf ∈ lwG := ⟨⟨Or.inr ⟨_, nT3 160 rfl rfl⟩, mT1 1 rfl rfl, wcX8_floorOf, by decide, by decide, by decide +kernel⟩, wiX8_floorOf⟩
theorem lmX5_74 : LkM RX5 74 yX8_times cX8_times 4 (some .long) 2 ∧ Cond.static yX8_times ∈ lwG := ⟨⟨Or.inr ⟨_, nT3 176 rfl rfl⟩, mT1 1 rfl rfl, wcX8_times, by decide, by decide, by decide +kernel⟩, wiX8_times⟩
theorem lmX5_77 : LkM RX5 77 yX8_plus cX8_plus 4 (some .long) 2 ∧ Cond.static yX8_plus ∈ lwG := ⟨⟨Or.inr ⟨_, nT3 177 rfl rfl⟩, mT1 1 rfl rfl, wcX8_plus, by decide, by decide, by decide +kernel⟩, wiX8_plus⟩
theorem lmX5_82 : LkM RX5 82 yX3_become cX3_become 9 none 4 ∧ (Cond.instanceMethod yX3_become ∈ lwG ∧ Cond.selects (RX3, TX3, 4).1 yX3_become yX3_become ∈ lwG) ∧ vwCl[3]? = some (RX3, TX3, 4) ∧ 3 < 100 := ⟨⟨Or.inr ⟨_, nT3 179 rfl rfl⟩, mT1 3 rfl rfl, wcX3_become, by decide, by decide, by decide +kernel⟩, ⟨wiX3_become, mS (q := (yX3_become, 4)) 4 rfl rfl⟩, rfl, by decide⟩
theorem lmX5_86 : LkM RX5 86 yX3_bringToLeastTerms cX3_bringToLeastTerms 5 (some .boolean) 0 ∧ (Cond.instanceMethod yX3_bringToLeastTerms ∈ lwG ∧ Cond.selects (RX3, TX3, 4).1 yX3_bringToLeastTerms yX3_bringToLeastTerms ∈ lwG) ∧ vwCl[3]? = some (RX3, TX3, 4) ∧ 3 < 100 := ⟨⟨Or.inr ⟨_, nT3 180 rfl rfl⟩, mT1 3 rfl rfl, wcX3_bringToLeastTerms, by decide, by decide, by decide +kernel⟩, ⟨wiX3_bringToLeastTerms, mS (q := (yX3_bringToLeastTerms, 4)) 6 rfl rfl⟩, rfl, by decide⟩
theorem lmX5_96 : LkM RX5 96 yX7_becomeRatio cX7_becomeRatio 14 none 2 ∧ (Cond.instanceMethod yX7_becomeRatio ∈ lwG ∧ Cond.selects (RX7, TX7, 10).1 yX7_becomeRatio yX7_becomeRatio ∈ lwG) ∧ vwCl[7]? = some (RX7, TX7, 10) ∧ 7 < 100 := ⟨⟨Or.inr ⟨_, nT3 181 rfl rfl⟩, mT1 2 rfl rfl, wcX7_becomeRatio, by decide, by decide, by decide +kernel⟩, ⟨wiX7_becomeRatio, mS (q := (yX7_becomeRatio, 10)) 0 rfl rfl⟩, rfl, by decide⟩
theorem lmX5_100 : LkM RX5 100 yX7_heldAgainst cX7_heldAgainst 6 (some .long) 1 ∧ (Cond.instanceMethod yX7_heldAgainst ∈ lwG ∧ Cond.selects (RX7, TX7, 10).1 yX7_heldAgainst yX7_heldAgainst ∈ lwG) ∧ vwCl[7]? = some (RX7, TX7, 10) ∧ 7 < 100 := ⟨⟨Or.inr ⟨_, nT3 182 rfl rfl⟩, mT1 2 rfl rfl, wcX7_heldAgainst, by decide, by decide, by decide +kernel⟩, ⟨wiX7_heldAgainst, mS (q := (yX7_heldAgainst, 10)) 38 rfl rfl⟩, rfl, by decide⟩
theorem lmX7_45 : LkM RX7 45 yX7_start cX7_start 2 none 1 ∧ (Cond.instanceMethod yX7_start ∈ lwG ∧ Cond.selects (RX7, TX7, 10).1 yX7_start yX7_start ∈ lwG) ∧ vwCl[7]? = some (RX7, TX7, 10) ∧ 7 < 100 := ⟨⟨Or.inl (mT2 32 rfl rfl), mT1 2 rfl rfl, wcX7_start, by decide, by decide, by decide +kernel⟩, ⟨wiX7_start, mS (q := (yX7_start, 10)) 1 rfl rfl⟩, rfl, by decide⟩
theorem lmX7_49 : LkM RX7 49 yJ9_floorDiv_f86c9 cJ9_floorDiv_f86c9 6 (some .long) 2 ∧ Cond.static yJ9_floorDiv_f86c9 ∈ lwG := ⟨⟨Or.inl (mT2 36 rfl rfl), mT1 10 rfl rfl, wcJ9_floorDiv_f86c9, by decide, by decide, by decide +kernel⟩, wiJ9_floorDiv_f86c9⟩
theorem lmX7_55 : LkM RX7 55 yX7_addPart cX7_addPart 3 none 1 ∧ (Cond.instanceMethod yX7_addPart ∈ lwG ∧ Cond.selects (RX7, TX7, 10).1 yX7_addPart yX7_addPart ∈ lwG) ∧ vwCl[7]? = some (RX7, TX7, 10) ∧ 7 < 100 := ⟨⟨Or.inl (mT2 39 rfl rfl), mT1 2 rfl rfl, wcX7_addPart, by decide, by decide, by decide +kernel⟩, ⟨wiX7_addPart, mS (q := (yX7_addPart, 10)) 2 rfl rfl⟩, rfl, by decide⟩
theorem lmX7_65 : LkM RX7 65 yX4_go cX4_go 15 none 1 ∧ (Cond.instanceMethod yX4_go ∈ lwG ∧ Cond.selects (RX4, TX4, 5).1 yX4_go yX4_go ∈ lwG) ∧ vwCl[4]? = some (RX4, TX4, 5) ∧ 4 < 100 := ⟨⟨Or.inr ⟨_, nT2 127 rfl rfl⟩, mT1 4 rfl rfl, wcX4_go, by decide, by decide, by decide +kernel⟩, ⟨wiX4_go, mS (q := (yX4_go, 5)) 9 rfl rfl⟩, rfl, by decide⟩
theorem lmX7_76 : LkM RX7 76 yX7_partAt cX7_partAt 2 (some .long) 1 ∧ (Cond.instanceMethod yX7_partAt ∈ lwG ∧ Cond.selects (RX7, TX7, 10).1 yX7_partAt yX7_partAt ∈ lwG) ∧ vwCl[7]? = some (RX7, TX7, 10) ∧ 7 < 100 := ⟨⟨Or.inl (mT3 123 rfl rfl), mT1 2 rfl rfl, wcX7_partAt, by decide, by decide, by decide +kernel⟩, ⟨wiX7_partAt, mS (q := (yX7_partAt, 10)) 27 rfl rfl⟩, rfl, by decide⟩
theorem lmX8_15 : LkM RX8 15 yX7_init cX7_init 1 none 0 ∧ yX7_init.name = "<init>" ∧ Cond.instanceMethod yX7_init ∈ lwG := ⟨⟨Or.inr ⟨_, nT1 23 rfl rfl⟩, mT1 2 rfl rfl, wcX7_init, by decide, by decide, by decide +kernel⟩, rfl, wiX7_init⟩
theorem lmX8_36 : LkM RX8 36 yX3_init cX3_init 1 none 0 ∧ yX3_init.name = "<init>" ∧ Cond.instanceMethod yX3_init ∈ lwG := ⟨⟨Or.inr ⟨_, nT1 88 rfl rfl⟩, mT1 3 rfl rfl, wcX3_init, by decide, by decide, by decide +kernel⟩, rfl, wiX3_init⟩
theorem lmX8_43 : LkM RX8 43 yX4_init cX4_init 1 none 0 ∧ yX4_init.name = "<init>" ∧ Cond.instanceMethod yX4_init ∈ lwG := ⟨⟨Or.inr ⟨_, nT1 116 rfl rfl⟩, mT1 4 rfl rfl, wcX4_init, by decide, by decide, by decide +kernel⟩, rfl, wiX4_init⟩
theorem lmX8_50 : LkM RX8 50 yX1_init cX1_init 1 none 0 ∧ yX1_init.name = "<init>" ∧ Cond.instanceMethod yX1_init ∈ lwG := ⟨⟨Or.inr ⟨_, nT1 141 rfl rfl⟩, mT1 5 rfl rfl, wcX1_init, by decide, by decide, by decide +kernel⟩, rfl, wiX1_init⟩
theorem lmX8_57 : LkM RX8 57 yX2_init cX2_init 1 none 0 ∧ yX2_init.name = "<init>" ∧ Cond.instanceMethod yX2_init ∈ lwG := ⟨⟨Or.inr ⟨_, nT1 203 rfl rfl⟩, mT1 7 rfl rfl, wcX2_init, by decide, by decide, by decide +kernel⟩, rfl, wiX2_init⟩
theorem lmX8_64 : LkM RX8 64 yX5_init cX5_init 1 none 0 ∧ yX5_init.name = "<init>" ∧ Cond.instanceMethod yX5_init ∈ lwG := ⟨⟨Or.inr ⟨_, nT1 222 rfl rfl⟩, mT1 8 rfl rfl, wcX5_init, by decide, by decide, by decide +kernel⟩, rfl, wiX5_init⟩
theorem lmX8_71 : LkM RX8 71 yX0_init cX0_init 1 none 0 ∧ yX0_init.name = "<init>" ∧ Cond.instanceMethod yX0_init ∈ lwG := ⟨⟨Or.inr ⟨_, nT2 11 rfl rfl⟩, mT1 9 rfl rfl, wcX0_init, by decide, by decide, by decide +kernel⟩, rfl, wiX0_init⟩
theorem lmX8_76 : LkM RX8 76 yX7_becomeRatio cX7_becomeRatio 14 none 2 ∧ (Cond.instanceMethod yX7_becomeRatio ∈ lwG ∧ Cond.selects (RX7, TX7, 10).1 yX7_becomeRatio yX7_becomeRatio ∈ lwG) ∧ vwCl[7]? = some (RX7, TX7, 10) ∧ 7 < 100 := ⟨⟨Or.inr ⟨_, nT2 28 rfl rfl⟩, mT1 2 rfl rfl, wcX7_becomeRatio, by decide, by decide, by decide +kernel⟩, ⟨wiX7_becomeRatio, mS (q := (yX7_becomeRatio, 10)) 0 rfl rfl⟩, rfl, by decide⟩
theorem lmX8_80 : LkM RX8 80 yX8_isFar cX8_isFar 2 (some .boolean) 1 ∧ Cond.static yX8_isFar ∈ lwG := ⟨⟨Or.inl (mT2 84 rfl rfl), mT1 1 rfl rfl, wcX8_isFar, by decide, by decide, by decide +kernel⟩, wiX8_isFar⟩
theorem lmX8_86 : LkM RX8 86 yX8_leastFree cX8_leastFree 2 (some .int) 0 ∧ (Cond.instanceMethod yX8_leastFree ∈ lwG ∧ Cond.selects (RX8, TX8, 12).1 yX8_leastFree yX8_leastFree ∈ lwG) ∧ vwCl[8]? = some (RX8, TX8, 12) ∧ 8 < 100 := ⟨⟨Or.inl (mT2 90 rfl rfl), mT1 1 rfl rfl, wcX8_leastFree, by decide, by decide, by decide +kernel⟩, ⟨wiX8_leastFree, mS (q := (yX8_leastFree, 12)) 3 rfl rfl⟩, rfl, by decide⟩
theorem lmX8_92 : LkM RX8 92 yX3_become cX3_become 9 none 4 ∧ (Cond.instanceMethod yX3_become ∈ lwG ∧ Cond.selects (RX3, TX3, 4).1 yX3_become yX3_become ∈ lwG) ∧ vwCl[3]? = some (RX3, TX3, 4) ∧ 3 < 100 := ⟨⟨Or.inr ⟨_, nT2 95 rfl rfl⟩, mT1 3 rfl rfl, wcX3_become, by decide, by decide, by decide +kernel⟩, ⟨wiX3_become, mS (q := (yX3_become, 4)) 4 rfl rfl⟩, rfl, by decide⟩
theorem lmX8_96 : LkM RX8 96 yX8_placeOutcome cX8_placeOutcome 3 (some .long) 1 ∧ (Cond.instanceMethod yX8_placeOutcome ∈ lwG ∧ Cond.selects (RX8, TX8, 12).1 yX8_placeOutcome yX8_placeOutcome ∈ lwG) ∧ vwCl[8]? = some (RX8, TX8, 12) ∧ 8 < 100 := ⟨⟨Or.inl (mT2 99 rfl rfl), mT1 1 rfl rfl, wcX8_placeOutcome, by decide, by decide, by decide +kernel⟩, ⟨wiX8_placeOutcome, mS (q := (yX8_placeOutcome, 12)) 5 rfl rfl⟩, rfl, by decide⟩
theorem lmX8_100 : LkM RX8 100 yX8_beyond cX8_beyond 2 (some .boolean) 2 ∧ Cond.static yX8_beyond ∈ lwG := ⟨⟨Or.inl (mT2 150 rfl rfl), mT1 1 rfl rfl, wcX8_beyond, by decide, by decide, by decide +kernel⟩, wiX8_beyond⟩
theorem lmX8_104 : LkM RX8 104 yX8_sideOfGreatestSquareIn cX8_sideOfGreatestSquareIn 2 (some .int) 1 ∧ Cond.static yX8_sideOfGreatestSquareIn ∈ lwG := ⟨⟨Or.inl (mT2 153 rfl rfl), mT1 1 rfl rfl, wcX8_sideOfGreatestSquareIn, by decide, by decide, by decide +kernel⟩, wiX8_sideOfGreatestSquareIn⟩
theorem lmX8_111 : LkM RX8 111 yX8_fillRule cX8_fillRule 7 none 2 ∧ (Cond.instanceMethod yX8_fillRule ∈ lwG ∧ Cond.selects (RX8, TX8, 12).1 yX8_fillRule yX8_fillRule ∈ lwG) ∧ vwCl[8]? = some (RX8, TX8, 12) ∧ 8 < 100 := ⟨⟨Or.inl (mT2 166 rfl rfl), mT1 1 rfl rfl, wcX8_fillRule, by decide, by decide, by decide +kernel⟩, ⟨wiX8_fillRule, mS (q := (yX8_fillRule, 12)) 11 rfl rfl⟩, rfl, by decide⟩
theorem lmX8_115 : LkM RX8 115 yX8_place cX8_place 2 (some .long) 1 ∧ (Cond.instanceMethod yX8_place ∈ lwG ∧ Cond.selects (RX8, TX8, 12).1 yX8_place yX8_place ∈ lwG) ∧ vwCl[8]? = some (RX8, TX8, 12) ∧ 8 < 100 := ⟨⟨Or.inl (mT2 142 rfl rfl), mT1 1 rfl rfl, wcX8_place, by decide, by decide, by decide +kernel⟩, ⟨wiX8_place, mS (q := (yX8_place, 12)) 10 rfl rfl⟩, rfl, by decide⟩
theorem lmX8_118 : LkM RX8 118 yX8_find cX8_find 3 (some (.object "RatioStreams$Stream")) 1 ∧ (Cond.instanceMethod yX8_find ∈ lwG ∧ Cond.selects (RX8, TX8, 12).1 yX8_find yX8_find ∈ lwG) ∧ vwCl[8]? = some (RX8, TX8, 12) ∧ 8 < 100 := ⟨⟨Or.inl (mT2 176 rfl rfl), mT1 1 rfl rfl, wcX8_find, by decide, by decide, by decide +kernel⟩, ⟨wiX8_find, mS (q := (yX8_find, 12)) 12 rfl rfl⟩, rfl, by decide⟩
theorem lmX8_124 : LkM RX8 124 yX7_isZeroRatio cX7_isZeroRatio 1 (some .boolean) 0 ∧ (Cond.instanceMethod yX7_isZeroRatio ∈ lwG ∧ Cond.selects (RX7, TX7, 10).1 yX7_isZeroRatio yX7_isZeroRatio ∈ lwG) ∧ vwCl[7]? = some (RX7, TX7, 10) ∧ 7 < 100 := ⟨⟨Or.inr ⟨_, nT2 181 rfl rfl⟩, mT1 2 rfl rfl, wcX7_isZeroRatio, by decide, by decide, by decide +kernel⟩, ⟨wiX7_isZeroRatio, mS (q := (yX7_isZeroRatio, 10)) 13 rfl rfl⟩, rfl, by decide⟩
theorem lmX8_128 : LkM RX8 128 yX8_isExactAct cX8_isExactAct 2 (some .boolean) 2 ∧ Cond.static yX8_isExactAct ∈ lwG := ⟨⟨Or.inl (mT2 185 rfl rfl), mT1 1 rfl rfl, wcX8_isExactAct, by decide, by decide, by decide +kernel⟩, wiX8_isExactAct⟩
theorem lmX8_132 : LkM RX8 132 yX3_work cX3_work 4 none 3 ∧ (Cond.instanceMethod yX3_work ∈ lwG ∧ Cond.selects (RX3, TX3, 4).1 yX3_work yX3_work ∈ lwG) ∧ vwCl[3]? = some (RX3, TX3, 4) ∧ 3 < 100 := ⟨⟨Or.inr ⟨_, nT2 188 rfl rfl⟩, mT1 3 rfl rfl, wcX3_work, by decide, by decide, by decide +kernel⟩, ⟨wiX3_work, mS (q := (yX3_work, 4)) 14 rfl rfl⟩, rfl, by decide⟩
theorem lmX8_136 : LkM RX8 136 yX1_startWithAct cX1_startWithAct 4 none 1 ∧ (Cond.instanceMethod yX1_startWithAct ∈ lwG ∧ Cond.selects (RX1, TX1, 9).1 yX1_startWithAct yX1_startWithAct ∈ lwG) ∧ vwCl[1]? = some (RX1, TX1, 9) ∧ 1 < 100 := ⟨⟨Or.inr ⟨_, nT2 208 rfl rfl⟩, mT1 5 rfl rfl, wcX1_startWithAct, by decide, by decide, by decide +kernel⟩, ⟨wiX1_startWithAct, mS (q := (yX1_startWithAct, 9)) 16 rfl rfl⟩, rfl, by decide⟩
theorem lmX8_140 : LkM RX8 140 yX1_make cX1_make 6 none 3 ∧ (Cond.instanceMethod yX1_make ∈ lwG ∧ Cond.selects (RX1, TX1, 9).1 yX1_make yX1_make ∈ lwG) ∧ vwCl[1]? = some (RX1, TX1, 9) ∧ 1 < 100 := ⟨⟨Or.inr ⟨_, nT2 214 rfl rfl⟩, mT1 5 rfl rfl, wcX1_make, by decide, by decide, by decide +kernel⟩, ⟨wiX1_make, mS (q := (yX1_make, 9)) 17 rfl rfl⟩, rfl, by decide⟩
theorem lmX8_147 : LkM RX8 147 yX3_workMix cX3_workMix 4 none 3 ∧ (Cond.instanceMethod yX3_workMix ∈ lwG ∧ Cond.selects (RX3, TX3, 4).1 yX3_workMix yX3_workMix ∈ lwG) ∧ vwCl[3]? = some (RX3, TX3, 4) ∧ 3 < 100 := ⟨⟨Or.inr ⟨_, nT3 50 rfl rfl⟩, mT1 3 rfl rfl, wcX3_workMix, by decide, by decide, by decide +kernel⟩, ⟨wiX3_workMix, mS (q := (yX3_workMix, 4)) 31 rfl rfl⟩, rfl, by decide⟩
theorem lmX8_155 : LkM RX8 155 yX1_startWith cX1_startWith 3 none 1 ∧ (Cond.instanceMethod yX1_startWith ∈ lwG ∧ Cond.selects (RX1, TX1, 9).1 yX1_startWith yX1_startWith ∈ lwG) ∧ vwCl[1]? = some (RX1, TX1, 9) ∧ 1 < 100 := ⟨⟨Or.inr ⟨_, nT3 59 rfl rfl⟩, mT1 5 rfl rfl, wcX1_startWith, by decide, by decide, by decide +kernel⟩, ⟨wiX1_startWith, mS (q := (yX1_startWith, 9)) 32 rfl rfl⟩, rfl, by decide⟩
theorem lmX8_163 : LkM RX8 163 yX8_howManyStreams cX8_howManyStreams 3 (some .int) 0 ∧ (Cond.instanceMethod yX8_howManyStreams ∈ lwG ∧ Cond.selects (RX8, TX8, 12).1 yX8_howManyStreams yX8_howManyStreams ∈ lwG) ∧ vwCl[8]? = some (RX8, TX8, 12) ∧ 8 < 100 := ⟨⟨Or.inl (mT3 67 rfl rfl), mT1 1 rfl rfl, wcX8_howManyStreams, by decide, by decide, by decide +kernel⟩, ⟨wiX8_howManyStreams, mS (q := (yX8_howManyStreams, 12)) 33 rfl rfl⟩, rfl, by decide⟩
theorem lmX8_175 : LkM RX8 175 yX7_isOpen cX7_isOpen 1 (some .boolean) 0 ∧ (Cond.instanceMethod yX7_isOpen ∈ lwG ∧ Cond.selects (RX7, TX7, 10).1 yX7_isOpen yX7_isOpen ∈ lwG) ∧ vwCl[7]? = some (RX7, TX7, 10) ∧ 7 < 100 := ⟨⟨Or.inr ⟨_, nT3 75 rfl rfl⟩, mT1 2 rfl rfl, wcX7_isOpen, by decide, by decide, by decide +kernel⟩, ⟨wiX7_isOpen, mS (q := (yX7_isOpen, 10)) 34 rfl rfl⟩, rfl, by decide⟩
theorem lmX8_178 : LkM RX8 178 yX7_isBeyond cX7_isBeyond 2 (some .boolean) 1 ∧ (Cond.instanceMethod yX7_isBeyond ∈ lwG ∧ Cond.selects (RX7, TX7, 10).1 yX7_isBeyond yX7_isBeyond ∈ lwG) ∧ vwCl[7]? = some (RX7, TX7, 10) ∧ 7 < 100 := ⟨⟨Or.inr ⟨_, nT3 83 rfl rfl⟩, mT1 2 rfl rfl, wcX7_isBeyond, by decide, by decide, by decide +kernel⟩, ⟨wiX7_isBeyond, mS (q := (yX7_isBeyond, 10)) 35 rfl rfl⟩, rfl, by decide⟩
theorem lmX8_182 : LkM RX8 182 yX7_partAt cX7_partAt 2 (some .long) 1 ∧ (Cond.instanceMethod yX7_partAt ∈ lwG ∧ Cond.selects (RX7, TX7, 10).1 yX7_partAt yX7_partAt ∈ lwG) ∧ vwCl[7]? = some (RX7, TX7, 10) ∧ 7 < 100 := ⟨⟨Or.inr ⟨_, nT3 87 rfl rfl⟩, mT1 2 rfl rfl, wcX7_partAt, by decide, by decide, by decide +kernel⟩, ⟨wiX7_partAt, mS (q := (yX7_partAt, 10)) 27 rfl rfl⟩, rfl, by decide⟩
theorem lmX8_191 : LkM RX8 191 yX8_numberOfRoot cX8_numberOfRoot 2 (some .long) 2 ∧ Cond.static yX8_numberOfRoot ∈ lwG := ⟨⟨Or.inl (mT3 93 rfl rfl), mT1 1 rfl rfl, wcX8_numberOfRoot, by decide, by decide, by decide +kernel⟩, wiX8_numberOfRoot⟩
theorem lmX8_195 : LkM RX8 195 yX4_go cX4_go 15 none 1 ∧ (Cond.instanceMethod yX4_go ∈ lwG ∧ Cond.selects (RX4, TX4, 5).1 yX4_go yX4_go ∈ lwG) ∧ vwCl[4]? = some (RX4, TX4, 5) ∧ 4 < 100 := ⟨⟨Or.inr ⟨_, nT3 100 rfl rfl⟩, mT1 4 rfl rfl, wcX4_go, by decide, by decide, by decide +kernel⟩, ⟨wiX4_go, mS (q := (yX4_go, 5)) 9 rfl rfl⟩, rfl, by decide⟩
theorem lmX8_199 : LkM RX8 199 yX4_comesRound cX4_comesRound 3 (some .boolean) 0 ∧ (Cond.instanceMethod yX4_comesRound ∈ lwG ∧ Cond.selects (RX4, TX4, 5).1 yX4_comesRound yX4_comesRound ∈ lwG) ∧ vwCl[4]? = some (RX4, TX4, 5) ∧ 4 < 100 := ⟨⟨Or.inr ⟨_, nT3 101 rfl rfl⟩, mT1 4 rfl rfl, wcX4_comesRound, by decide, by decide, by decide +kernel⟩, ⟨wiX4_comesRound, mS (q := (yX4_comesRound, 5)) 36 rfl rfl⟩, rfl, by decide⟩
theorem lmX8_210 : LkM RX8 210 yX7_isSameRoot cX7_isSameRoot 2 (some .boolean) 1 ∧ (Cond.instanceMethod yX7_isSameRoot ∈ lwG ∧ Cond.selects (RX7, TX7, 10).1 yX7_isSameRoot yX7_isSameRoot ∈ lwG) ∧ vwCl[7]? = some (RX7, TX7, 10) ∧ 7 < 100 := ⟨⟨Or.inr ⟨_, nT3 114 rfl rfl⟩, mT1 2 rfl rfl, wcX7_isSameRoot, by decide, by decide, by decide +kernel⟩, ⟨wiX7_isSameRoot, mS (q := (yX7_isSameRoot, 10)) 37 rfl rfl⟩, rfl, by decide⟩
theorem lmX8_214 : LkM RX8 214 yX7_heldAgainst cX7_heldAgainst 6 (some .long) 1 ∧ (Cond.instanceMethod yX7_heldAgainst ∈ lwG ∧ Cond.selects (RX7, TX7, 10).1 yX7_heldAgainst yX7_heldAgainst ∈ lwG) ∧ vwCl[7]? = some (RX7, TX7, 10) ∧ 7 < 100 := ⟨⟨Or.inr ⟨_, nT3 118 rfl rfl⟩, mT1 2 rfl rfl, wcX7_heldAgainst, by decide, by decide, by decide +kernel⟩, ⟨wiX7_heldAgainst, mS (q := (yX7_heldAgainst, 10)) 38 rfl rfl⟩, rfl, by decide⟩
theorem lmX8_218 : LkM RX8 218 yX2_workOut cX2_workOut 9 none 1 ∧ (Cond.instanceMethod yX2_workOut ∈ lwG ∧ Cond.selects (RX2, TX2, 3).1 yX2_workOut yX2_workOut ∈ lwG) ∧ vwCl[2]? = some (RX2, TX2, 3) ∧ 2 < 100 := ⟨⟨Or.inr ⟨_, nT3 129 rfl rfl⟩, mT1 7 rfl rfl, wcX2_workOut, by decide, by decide, by decide +kernel⟩, ⟨wiX2_workOut, mS (q := (yX2_workOut, 3)) 39 rfl rfl⟩, rfl, by decide⟩
theorem lmX8_226 : LkM RX8 226 yX2_upperAt cX2_upperAt 2 (some .long) 1 ∧ (Cond.instanceMethod yX2_upperAt ∈ lwG ∧ Cond.selects (RX2, TX2, 3).1 yX2_upperAt yX2_upperAt ∈ lwG) ∧ vwCl[2]? = some (RX2, TX2, 3) ∧ 2 < 100 := ⟨⟨Or.inr ⟨_, nT3 145 rfl rfl⟩, mT1 7 rfl rfl, wcX2_upperAt, by decide, by decide, by decide +kernel⟩, ⟨wiX2_upperAt, mS (q := (yX2_upperAt, 3)) 40 rfl rfl⟩, rfl, by decide⟩
theorem lmX8_229 : LkM RX8 229 yX2_lowerAt cX2_lowerAt 2 (some .long) 1 ∧ (Cond.instanceMethod yX2_lowerAt ∈ lwG ∧ Cond.selects (RX2, TX2, 3).1 yX2_lowerAt yX2_lowerAt ∈ lwG) ∧ vwCl[2]? = some (RX2, TX2, 3) ∧ 2 < 100 := ⟨⟨Or.inr ⟨_, nT3 146 rfl rfl⟩, mT1 7 rfl rfl, wcX2_lowerAt, by decide, by decide, by decide +kernel⟩, ⟨wiX2_lowerAt, mS (q := (yX2_lowerAt, 3)) 41 rfl rfl⟩, rfl, by decide⟩
theorem lmX8_232 : LkM RX8 232 yX5_seek cX5_seek 6 (some .long) 3 ∧ (Cond.instanceMethod yX5_seek ∈ lwG ∧ Cond.selects (RX5, TX5, 6).1 yX5_seek yX5_seek ∈ lwG) ∧ vwCl[5]? = some (RX5, TX5, 6) ∧ 5 < 100 := ⟨⟨Or.inr ⟨_, nT3 151 rfl rfl⟩, mT1 8 rfl rfl, wcX5_seek, by decide, by decide, by decide +kernel⟩, ⟨wiX5_seek, mS (q := (yX5_seek, 6)) 42 rfl rfl⟩, rfl, by decide⟩
theorem lmX8_236 : LkM RX8 236 yX5_tell cX5_tell 3 (some .long) 2 ∧ (Cond.instanceMethod yX5_tell ∈ lwG ∧ Cond.selects (RX5, TX5, 6).1 yX5_tell yX5_tell ∈ lwG) ∧ vwCl[5]? = some (RX5, TX5, 6) ∧ 5 < 100 := ⟨⟨Or.inr ⟨_, nT3 168 rfl rfl⟩, mT1 8 rfl rfl, wcX5_tell, by decide, by decide, by decide +kernel⟩, ⟨wiX5_tell, mS (q := (yX5_tell, 6)) 45 rfl rfl⟩, rfl, by decide⟩
theorem lmX8_240 : LkM RX8 240 yX5_againstMiddle cX5_againstMiddle 6 (some .long) 1 ∧ (Cond.instanceMethod yX5_againstMiddle ∈ lwG ∧ Cond.selects (RX5, TX5, 6).1 yX5_againstMiddle yX5_againstMiddle ∈ lwG) ∧ vwCl[5]? = some (RX5, TX5, 6) ∧ 5 < 100 := ⟨⟨Or.inr ⟨_, nT3 172 rfl rfl⟩, mT1 8 rfl rfl, wcX5_againstMiddle, by decide, by decide, by decide +kernel⟩, ⟨wiX5_againstMiddle, mS (q := (yX5_againstMiddle, 6)) 46 rfl rfl⟩, rfl, by decide⟩
theorem lmX8_243 : LkM RX8 243 yX5_upperIsSimpler cX5_upperIsSimpler 1 (some .boolean) 0 ∧ (Cond.instanceMethod yX5_upperIsSimpler ∈ lwG ∧ Cond.selects (RX5, TX5, 6).1 yX5_upperIsSimpler yX5_upperIsSimpler ∈ lwG) ∧ vwCl[5]? = some (RX5, TX5, 6) ∧ 5 < 100 := ⟨⟨Or.inr ⟨_, nT3 183 rfl rfl⟩, mT1 8 rfl rfl, wcX5_upperIsSimpler, by decide, by decide, by decide +kernel⟩, ⟨wiX5_upperIsSimpler, mS (q := (yX5_upperIsSimpler, 6)) 47 rfl rfl⟩, rfl, by decide⟩
theorem lmX8_246 : LkM RX8 246 yX0_ofRatio cX0_ofRatio 8 (some .long) 4 ∧ (Cond.instanceMethod yX0_ofRatio ∈ lwG ∧ Cond.selects (RX0, TX0, 4).1 yX0_ofRatio yX0_ofRatio ∈ lwG) ∧ vwCl[0]? = some (RX0, TX0, 4) ∧ 0 < 100 := ⟨⟨Or.inr ⟨_, nT3 191 rfl rfl⟩, mT1 9 rfl rfl, wcX0_ofRatio, by decide, by decide, by decide +kernel⟩, ⟨wiX0_ofRatio, mS (q := (yX0_ofRatio, 4)) 48 rfl rfl⟩, rfl, by decide⟩
theorem lmX8_250 : LkM RX8 250 yX0_ofSpan cX0_ofSpan 15 (some .long) 3 ∧ (Cond.instanceMethod yX0_ofSpan ∈ lwG ∧ Cond.selects (RX0, TX0, 4).1 yX0_ofSpan yX0_ofSpan ∈ lwG) ∧ vwCl[0]? = some (RX0, TX0, 4) ∧ 0 < 100 := ⟨⟨Or.inr ⟨_, nT3 206 rfl rfl⟩, mT1 9 rfl rfl, wcX0_ofSpan, by decide, by decide, by decide +kernel⟩, ⟨wiX0_ofSpan, mS (q := (yX0_ofSpan, 4)) 50 rfl rfl⟩, rfl, by decide⟩
theorem lmX8_257 : LkM RX8 257 yX1_stepTold cX1_stepTold 4 (some .long) 2 ∧ (Cond.instanceMethod yX1_stepTold ∈ lwG ∧ Cond.selects (RX1, TX1, 9).1 yX1_stepTold yX1_stepTold ∈ lwG) ∧ vwCl[1]? = some (RX1, TX1, 9) ∧ 1 < 100 := ⟨⟨Or.inr ⟨_, nT3 228 rfl rfl⟩, mT1 5 rfl rfl, wcX1_stepTold, by decide, by decide, by decide +kernel⟩, ⟨wiX1_stepTold, mS (q := (yX1_stepTold, 9)) 53 rfl rfl⟩, rfl, by decide⟩
theorem lmX8_261 : LkM RX8 261 yX8_howManyOpen cX8_howManyOpen 3 (some .int) 0 ∧ (Cond.instanceMethod yX8_howManyOpen ∈ lwG ∧ Cond.selects (RX8, TX8, 12).1 yX8_howManyOpen yX8_howManyOpen ∈ lwG) ∧ vwCl[8]? = some (RX8, TX8, 12) ∧ 8 < 100 := ⟨⟨Or.inl (mT3 237 rfl rfl), mT1 1 rfl rfl, wcX8_howManyOpen, by decide, by decide, by decide +kernel⟩, ⟨wiX8_howManyOpen, mS (q := (yX8_howManyOpen, 12)) 54 rfl rfl⟩, rfl, by decide⟩
theorem lmX8_264 : LkM RX8 264 yX3_bringToLeastTerms cX3_bringToLeastTerms 5 (some .boolean) 0 ∧ (Cond.instanceMethod yX3_bringToLeastTerms ∈ lwG ∧ Cond.selects (RX3, TX3, 4).1 yX3_bringToLeastTerms yX3_bringToLeastTerms ∈ lwG) ∧ vwCl[3]? = some (RX3, TX3, 4) ∧ 3 < 100 := ⟨⟨Or.inr ⟨_, nT2 103 rfl rfl⟩, mT1 3 rfl rfl, wcX3_bringToLeastTerms, by decide, by decide, by decide +kernel⟩, ⟨wiX3_bringToLeastTerms, mS (q := (yX3_bringToLeastTerms, 4)) 6 rfl rfl⟩, rfl, by decide⟩
theorem lmX8_271 : LkM RX8 271 yX7_becomeRoot cX7_becomeRoot 4 none 2 ∧ (Cond.instanceMethod yX7_becomeRoot ∈ lwG ∧ Cond.selects (RX7, TX7, 10).1 yX7_becomeRoot yX7_becomeRoot ∈ lwG) ∧ vwCl[7]? = some (RX7, TX7, 10) ∧ 7 < 100 := ⟨⟨Or.inr ⟨_, nT2 123 rfl rfl⟩, mT1 2 rfl rfl, wcX7_becomeRoot, by decide, by decide, by decide +kernel⟩, ⟨wiX7_becomeRoot, mS (q := (yX7_becomeRoot, 10)) 8 rfl rfl⟩, rfl, by decide⟩
theorem lmX8_275 : LkM RX8 275 yX7_start cX7_start 2 none 1 ∧ (Cond.instanceMethod yX7_start ∈ lwG ∧ Cond.selects (RX7, TX7, 10).1 yX7_start yX7_start ∈ lwG) ∧ vwCl[7]? = some (RX7, TX7, 10) ∧ 7 < 100 := ⟨⟨Or.inr ⟨_, nT2 170 rfl rfl⟩, mT1 2 rfl rfl, wcX7_start, by decide, by decide, by decide +kernel⟩, ⟨wiX7_start, mS (q := (yX7_start, 10)) 1 rfl rfl⟩, rfl, by decide⟩
theorem lmX8_278 : LkM RX8 278 yX7_addPart cX7_addPart 3 none 1 ∧ (Cond.instanceMethod yX7_addPart ∈ lwG ∧ Cond.selects (RX7, TX7, 10).1 yX7_addPart yX7_addPart ∈ lwG) ∧ vwCl[7]? = some (RX7, TX7, 10) ∧ 7 < 100 := ⟨⟨Or.inr ⟨_, nT2 171 rfl rfl⟩, mT1 2 rfl rfl, wcX7_addPart, by decide, by decide, by decide +kernel⟩, ⟨wiX7_addPart, mS (q := (yX7_addPart, 10)) 2 rfl rfl⟩, rfl, by decide⟩
theorem lmX8_292 : LkM RX8 292 yX8_plus cX8_plus 4 (some .long) 2 ∧ Cond.static yX8_plus ∈ lwG := ⟨⟨Or.inl (mT2 203 rfl rfl), mT1 1 rfl rfl, wcX8_plus, by decide, by decide, by decide +kernel⟩, wiX8_plus⟩
theorem lmX8_296 : LkM RX8 296 yJ9_abs_067f4 cJ9_abs_067f4 2 (some .long) 1 ∧ Cond.static yJ9_abs_067f4 ∈ lwG := ⟨⟨Or.inl (mT2 196 rfl rfl), mT1 10 rfl rfl, wcJ9_abs_067f4, by decide, by decide, by decide +kernel⟩, wiJ9_abs_067f4⟩
theorem lmX8_304 : LkM RX8 304 yJ9_floorDiv_f86c9 cJ9_floorDiv_f86c9 6 (some .long) 2 ∧ Cond.static yJ9_floorDiv_f86c9 ∈ lwG := ⟨⟨Or.inl (mT2 141 rfl rfl), mT1 10 rfl rfl, wcJ9_floorDiv_f86c9, by decide, by decide, by decide +kernel⟩, wiJ9_floorDiv_f86c9⟩
theorem lmX9_63 : LkM RX9 63 yX9_size cX9_size 2 (some .long) 1 ∧ Cond.static yX9_size ∈ lwG := ⟨⟨Or.inl (mT4 140 rfl rfl), mT1 11 rfl rfl, wcX9_size, by decide, by decide, by decide +kernel⟩, wiX9_size⟩
theorem lmX9_75 : LkM RX9 75 yX9_in cX9_in 6 (some .boolean) 3 ∧ Cond.static yX9_in ∈ lwG := ⟨⟨Or.inl (mT4 124 rfl rfl), mT1 11 rfl rfl, wcX9_in, by decide, by decide, by decide +kernel⟩, wiX9_in⟩
theorem lmX9_83 : LkM RX9 83 yX9_newStream cX9_newStream 3 (some .int) 1 ∧ (Cond.instanceMethod yX9_newStream ∈ lwG ∧ Cond.selects (RX9, TX9, 36).1 yX9_newStream yX9_newStream ∈ lwG) ∧ vwCl[9]? = some (RX9, TX9, 36) ∧ 9 < 100 := ⟨⟨Or.inl (mT4 133 rfl rfl), mT1 11 rfl rfl, wcX9_newStream, by decide, by decide, by decide +kernel⟩, ⟨wiX9_newStream, mS (q := (yX9_newStream, 36)) 56 rfl rfl⟩, rfl, by decide⟩
theorem lmX9_87 : LkM RX9 87 yX9_divisor cX9_divisor 10 (some .long) 2 ∧ Cond.static yX9_divisor ∈ lwG := ⟨⟨Or.inl (mT4 137 rfl rfl), mT1 11 rfl rfl, wcX9_divisor, by decide, by decide, by decide +kernel⟩, wiX9_divisor⟩
theorem lmX9_91 : LkM RX9 91 yX9_floor cX9_floor 6 (some .long) 2 ∧ Cond.static yX9_floor ∈ lwG := ⟨⟨Or.inl (mT4 143 rfl rfl), mT1 11 rfl rfl, wcX9_floor, by decide, by decide, by decide +kernel⟩, wiX9_floor⟩
theorem lmX9_94 : LkM RX9 94 yX9_give cX9_give 4 none 2 ∧ (Cond.instanceMethod yX9_give ∈ lwG ∧ Cond.selects (RX9, TX9, 36).1 yX9_give yX9_give ∈ lwG) ∧ vwCl[9]? = some (RX9, TX9, 36) ∧ 9 < 100 := ⟨⟨Or.inl (mT4 146 rfl rfl), mT1 11 rfl rfl, wcX9_give, by decide, by decide, by decide +kernel⟩, ⟨wiX9_give, mS (q := (yX9_give, 36)) 57 rfl rfl⟩, rfl, by decide⟩
theorem lmX9_104 : LkM RX9 104 yX9_rootOf cX9_rootOf 8 (some .long) 1 ∧ Cond.static yX9_rootOf ∈ lwG := ⟨⟨Or.inl (mT4 169 rfl rfl), mT1 11 rfl rfl, wcX9_rootOf, by decide, by decide, by decide +kernel⟩, wiX9_rootOf⟩
theorem lmX9_113 : LkM RX9 113 yX9_newRatio cX9_newRatio 16 (some .int) 2 ∧ (Cond.instanceMethod yX9_newRatio ∈ lwG ∧ Cond.selects (RX9, TX9, 36).1 yX9_newRatio yX9_newRatio ∈ lwG) ∧ vwCl[9]? = some (RX9, TX9, 36) ∧ 9 < 100 := ⟨⟨Or.inl (mT4 129 rfl rfl), mT1 11 rfl rfl, wcX9_newRatio, by decide, by decide, by decide +kernel⟩, ⟨wiX9_newRatio, mS (q := (yX9_newRatio, 36)) 55 rfl rfl⟩, rfl, by decide⟩
theorem lmX9_129 : LkM RX9 129 yX9_put cX9_put 11 (some .int) 4 ∧ (Cond.instanceMethod yX9_put ∈ lwG ∧ Cond.selects (RX9, TX9, 36).1 yX9_put yX9_put ∈ lwG) ∧ vwCl[9]? = some (RX9, TX9, 36) ∧ 9 < 100 := ⟨⟨Or.inl (mT4 161 rfl rfl), mT1 11 rfl rfl, wcX9_put, by decide, by decide, by decide +kernel⟩, ⟨wiX9_put, mS (q := (yX9_put, 36)) 58 rfl rfl⟩, rfl, by decide⟩
theorem lmX9_133 : LkM RX9 133 yX9_newRoot cX9_newRoot 21 (some .int) 4 ∧ (Cond.instanceMethod yX9_newRoot ∈ lwG ∧ Cond.selects (RX9, TX9, 36).1 yX9_newRoot yX9_newRoot ∈ lwG) ∧ vwCl[9]? = some (RX9, TX9, 36) ∧ 9 < 100 := ⟨⟨Or.inl (mT4 165 rfl rfl), mT1 11 rfl rfl, wcX9_newRoot, by decide, by decide, by decide +kernel⟩, ⟨wiX9_newRoot, mS (q := (yX9_newRoot, 36)) 59 rfl rfl⟩, rfl, by decide⟩
theorem lmX9_151 : LkM RX9 151 yX9_mul cX9_mul 5 (some .long) 2 ∧ (Cond.instanceMethod yX9_mul ∈ lwG ∧ Cond.selects (RX9, TX9, 36).1 yX9_mul yX9_mul ∈ lwG) ∧ vwCl[9]? = some (RX9, TX9, 36) ∧ 9 < 100 := ⟨⟨Or.inl (mT4 213 rfl rfl), mT1 11 rfl rfl, wcX9_mul, by decide, by decide, by decide +kernel⟩, ⟨wiX9_mul, mS (q := (yX9_mul, 36)) 65 rfl rfl⟩, rfl, by decide⟩
theorem lmX9_154 : LkM RX9 154 yX9_add cX9_add 7 (some .long) 2 ∧ (Cond.instanceMethod yX9_add ∈ lwG ∧ Cond.selects (RX9, TX9, 36).1 yX9_add yX9_add ∈ lwG) ∧ vwCl[9]? = some (RX9, TX9, 36) ∧ 9 < 100 := ⟨⟨Or.inl (mT4 217 rfl rfl), mT1 11 rfl rfl, wcX9_add, by decide, by decide, by decide +kernel⟩, ⟨wiX9_add, mS (q := (yX9_add, 36)) 66 rfl rfl⟩, rfl, by decide⟩
theorem lmX9_166 : LkM RX9 166 yX9_checkOut cX9_checkOut 5 none 0 ∧ (Cond.instanceMethod yX9_checkOut ∈ lwG ∧ Cond.selects (RX9, TX9, 36).1 yX9_checkOut yX9_checkOut ∈ lwG) ∧ vwCl[9]? = some (RX9, TX9, 36) ∧ 9 < 100 := ⟨⟨Or.inl (mT4 221 rfl rfl), mT1 11 rfl rfl, wcX9_checkOut, by decide, by decide, by decide +kernel⟩, ⟨wiX9_checkOut, mS (q := (yX9_checkOut, 36)) 67 rfl rfl⟩, rfl, by decide⟩
theorem lmX9_173 : LkM RX9 173 yX9_exactly cX9_exactly 19 none 9 ∧ (Cond.instanceMethod yX9_exactly ∈ lwG ∧ Cond.selects (RX9, TX9, 36).1 yX9_exactly yX9_exactly ∈ lwG) ∧ vwCl[9]? = some (RX9, TX9, 36) ∧ 9 < 100 := ⟨⟨Or.inl (mT4 208 rfl rfl), mT1 11 rfl rfl, wcX9_exactly, by decide, by decide, by decide +kernel⟩, ⟨wiX9_exactly, mS (q := (yX9_exactly, 36)) 64 rfl rfl⟩, rfl, by decide⟩
theorem lmX9_179 : LkM RX9 179 yX9_noStream cX9_noStream 2 (some .boolean) 1 ∧ (Cond.instanceMethod yX9_noStream ∈ lwG ∧ Cond.selects (RX9, TX9, 36).1 yX9_noStream yX9_noStream ∈ lwG) ∧ vwCl[9]? = some (RX9, TX9, 36) ∧ 9 < 100 := ⟨⟨Or.inl (mT4 189 rfl rfl), mT1 11 rfl rfl, wcX9_noStream, by decide, by decide, by decide +kernel⟩, ⟨wiX9_noStream, mS (q := (yX9_noStream, 36)) 60 rfl rfl⟩, rfl, by decide⟩
theorem lmX9_187 : LkM RX9 187 yX9_isNought cX9_isNought 2 (some .boolean) 1 ∧ (Cond.instanceMethod yX9_isNought ∈ lwG ∧ Cond.selects (RX9, TX9, 36).1 yX9_isNought yX9_isNought ∈ lwG) ∧ vwCl[9]? = some (RX9, TX9, 36) ∧ 9 < 100 := ⟨⟨Or.inl (mT4 196 rfl rfl), mT1 11 rfl rfl, wcX9_isNought, by decide, by decide, by decide +kernel⟩, ⟨wiX9_isNought, mS (q := (yX9_isNought, 36)) 61 rfl rfl⟩, rfl, by decide⟩
theorem lmX9_190 : LkM RX9 190 yX9_isExact cX9_isExact 3 (some .boolean) 2 ∧ (Cond.instanceMethod yX9_isExact ∈ lwG ∧ Cond.selects (RX9, TX9, 36).1 yX9_isExact yX9_isExact ∈ lwG) ∧ vwCl[9]? = some (RX9, TX9, 36) ∧ 9 < 100 := ⟨⟨Or.inl (mT4 200 rfl rfl), mT1 11 rfl rfl, wcX9_isExact, by decide, by decide, by decide +kernel⟩, ⟨wiX9_isExact, mS (q := (yX9_isExact, 36)) 62 rfl rfl⟩, rfl, by decide⟩
theorem lmX9_194 : LkM RX9 194 yX9_exactOf cX9_exactOf 8 (some .long) 3 ∧ (Cond.instanceMethod yX9_exactOf ∈ lwG ∧ Cond.selects (RX9, TX9, 36).1 yX9_exactOf yX9_exactOf ∈ lwG) ∧ vwCl[9]? = some (RX9, TX9, 36) ∧ 9 < 100 := ⟨⟨Or.inl (mT4 204 rfl rfl), mT1 11 rfl rfl, wcX9_exactOf, by decide, by decide, by decide +kernel⟩, ⟨wiX9_exactOf, mS (q := (yX9_exactOf, 36)) 63 rfl rfl⟩, rfl, by decide⟩
theorem lmX9_198 : LkM RX9 198 yX9_make cX9_make 12 (some .long) 2 ∧ (Cond.instanceMethod yX9_make ∈ lwG ∧ Cond.selects (RX9, TX9, 36).1 yX9_make yX9_make ∈ lwG) ∧ vwCl[9]? = some (RX9, TX9, 36) ∧ 9 < 100 := ⟨⟨Or.inl (mT4 228 rfl rfl), mT1 11 rfl rfl, wcX9_make, by decide, by decide, by decide +kernel⟩, ⟨wiX9_make, mS (q := (yX9_make, 36)) 68 rfl rfl⟩, rfl, by decide⟩
theorem lmX9_204 : LkM RX9 204 yX9_mixed cX9_mixed 14 (some .long) 3 ∧ (Cond.instanceMethod yX9_mixed ∈ lwG ∧ Cond.selects (RX9, TX9, 36).1 yX9_mixed yX9_mixed ∈ lwG) ∧ vwCl[9]? = some (RX9, TX9, 36) ∧ 9 < 100 := ⟨⟨Or.inl (mT5 45 rfl rfl), mT1 11 rfl rfl, wcX9_mixed, by decide, by decide, by decide +kernel⟩, ⟨wiX9_mixed, mS (q := (yX9_mixed, 36)) 79 rfl rfl⟩, rfl, by decide⟩
theorem lmX9_210 : LkM RX9 210 yX9_become cX9_become 4 (some .boolean) 0 ∧ (Cond.instanceMethod yX9_become ∈ lwG ∧ Cond.selects (RX9, TX9, 36).1 yX9_become yX9_become ∈ lwG) ∧ vwCl[9]? = some (RX9, TX9, 36) ∧ 9 < 100 := ⟨⟨Or.inl (mT5 8 rfl rfl), mT1 11 rfl rfl, wcX9_become, by decide, by decide, by decide +kernel⟩, ⟨wiX9_become, mS (q := (yX9_become, 36)) 73 rfl rfl⟩, rfl, by decide⟩
theorem lmX9_217 : LkM RX9 217 yX9_corner cX9_corner 5 none 2 ∧ (Cond.instanceMethod yX9_corner ∈ lwG ∧ Cond.selects (RX9, TX9, 36).1 yX9_corner yX9_corner ∈ lwG) ∧ vwCl[9]? = some (RX9, TX9, 36) ∧ 9 < 100 := ⟨⟨Or.inl (mT4 236 rfl rfl), mT1 11 rfl rfl, wcX9_corner, by decide, by decide, by decide +kernel⟩, ⟨wiX9_corner, mS (q := (yX9_corner, 36)) 70 rfl rfl⟩, rfl, by decide⟩
theorem lmX9_221 : LkM RX9 221 yX9_findCorners cX9_findCorners 3 none 2 ∧ (Cond.instanceMethod yX9_findCorners ∈ lwG ∧ Cond.selects (RX9, TX9, 36).1 yX9_findCorners yX9_findCorners ∈ lwG) ∧ vwCl[9]? = some (RX9, TX9, 36) ∧ 9 < 100 := ⟨⟨Or.inl (mT4 232 rfl rfl), mT1 11 rfl rfl, wcX9_findCorners, by decide, by decide, by decide +kernel⟩, ⟨wiX9_findCorners, mS (q := (yX9_findCorners, 36)) 69 rfl rfl⟩, rfl, by decide⟩
theorem lmX9_225 : LkM RX9 225 yX9_agree cX9_agree 3 (some .boolean) 0 ∧ (Cond.instanceMethod yX9_agree ∈ lwG ∧ Cond.selects (RX9, TX9, 36).1 yX9_agree yX9_agree ∈ lwG) ∧ vwCl[9]? = some (RX9, TX9, 36) ∧ 9 < 100 := ⟨⟨Or.inl (mT5 0 rfl rfl), mT1 11 rfl rfl, wcX9_agree, by decide, by decide, by decide +kernel⟩, ⟨wiX9_agree, mS (q := (yX9_agree, 36)) 71 rfl rfl⟩, rfl, by decide⟩
theorem lmX9_228 : LkM RX9 228 yX9_giveOne cX9_giveOne 4 (some .boolean) 1 ∧ (Cond.instanceMethod yX9_giveOne ∈ lwG ∧ Cond.selects (RX9, TX9, 36).1 yX9_giveOne yX9_giveOne ∈ lwG) ∧ vwCl[9]? = some (RX9, TX9, 36) ∧ 9 < 100 := ⟨⟨Or.inl (mT5 4 rfl rfl), mT1 11 rfl rfl, wcX9_giveOne, by decide, by decide, by decide +kernel⟩, ⟨wiX9_giveOne, mS (q := (yX9_giveOne, 36)) 72 rfl rfl⟩, rfl, by decide⟩
theorem lmX9_232 : LkM RX9 232 yX9_roll cX9_roll 6 none 2 ∧ (Cond.instanceMethod yX9_roll ∈ lwG ∧ Cond.selects (RX9, TX9, 36).1 yX9_roll yX9_roll ∈ lwG) ∧ vwCl[9]? = some (RX9, TX9, 36) ∧ 9 < 100 := ⟨⟨Or.inl (mT5 12 rfl rfl), mT1 11 rfl rfl, wcX9_roll, by decide, by decide, by decide +kernel⟩, ⟨wiX9_roll, mS (q := (yX9_roll, 36)) 74 rfl rfl⟩, rfl, by decide⟩
theorem lmX9_235 : LkM RX9 235 yX9_takeX cX9_takeX 4 (some .boolean) 1 ∧ (Cond.instanceMethod yX9_takeX ∈ lwG ∧ Cond.selects (RX9, TX9, 36).1 yX9_takeX yX9_takeX ∈ lwG) ∧ vwCl[9]? = some (RX9, TX9, 36) ∧ 9 < 100 := ⟨⟨Or.inl (mT5 16 rfl rfl), mT1 11 rfl rfl, wcX9_takeX, by decide, by decide, by decide +kernel⟩, ⟨wiX9_takeX, mS (q := (yX9_takeX, 36)) 75 rfl rfl⟩, rfl, by decide⟩
theorem lmX9_238 : LkM RX9 238 yX9_outX cX9_outX 2 none 0 ∧ (Cond.instanceMethod yX9_outX ∈ lwG ∧ Cond.selects (RX9, TX9, 36).1 yX9_outX yX9_outX ∈ lwG) ∧ vwCl[9]? = some (RX9, TX9, 36) ∧ 9 < 100 := ⟨⟨Or.inl (mT5 20 rfl rfl), mT1 11 rfl rfl, wcX9_outX, by decide, by decide, by decide +kernel⟩, ⟨wiX9_outX, mS (q := (yX9_outX, 36)) 76 rfl rfl⟩, rfl, by decide⟩
theorem lmX9_241 : LkM RX9 241 yX9_takeY cX9_takeY 4 (some .boolean) 1 ∧ (Cond.instanceMethod yX9_takeY ∈ lwG ∧ Cond.selects (RX9, TX9, 36).1 yX9_takeY yX9_takeY ∈ lwG) ∧ vwCl[9]? = some (RX9, TX9, 36) ∧ 9 < 100 := ⟨⟨Or.inl (mT5 24 rfl rfl), mT1 11 rfl rfl, wcX9_takeY, by decide, by decide, by decide +kernel⟩, ⟨wiX9_takeY, mS (q := (yX9_takeY, 36)) 77 rfl rfl⟩, rfl, by decide⟩
theorem lmX9_244 : LkM RX9 244 yX9_outY cX9_outY 2 none 0 ∧ (Cond.instanceMethod yX9_outY ∈ lwG ∧ Cond.selects (RX9, TX9, 36).1 yX9_outY yX9_outY ∈ lwG) ∧ vwCl[9]? = some (RX9, TX9, 36) ∧ 9 < 100 := ⟨⟨Or.inl (mT5 28 rfl rfl), mT1 11 rfl rfl, wcX9_outY, by decide, by decide, by decide +kernel⟩, ⟨wiX9_outY, mS (q := (yX9_outY, 36)) 78 rfl rfl⟩, rfl, by decide⟩
theorem lmX9_249 : LkM RX9 249 yX9_isOpenMade cX9_isOpenMade 2 (some .boolean) 1 ∧ (Cond.instanceMethod yX9_isOpenMade ∈ lwG ∧ Cond.selects (RX9, TX9, 36).1 yX9_isOpenMade yX9_isOpenMade ∈ lwG) ∧ vwCl[9]? = some (RX9, TX9, 36) ∧ 9 < 100 := ⟨⟨Or.inl (mT5 62 rfl rfl), mT1 11 rfl rfl, wcX9_isOpenMade, by decide, by decide, by decide +kernel⟩, ⟨wiX9_isOpenMade, mS (q := (yX9_isOpenMade, 36)) 80 rfl rfl⟩, rfl, by decide⟩
theorem lmX9_252 : LkM RX9 252 yX9_isBehind cX9_isBehind 3 (some .boolean) 2 ∧ (Cond.instanceMethod yX9_isBehind ∈ lwG ∧ Cond.selects (RX9, TX9, 36).1 yX9_isBehind yX9_isBehind ∈ lwG) ∧ vwCl[9]? = some (RX9, TX9, 36) ∧ 9 < 100 := ⟨⟨Or.inl (mT5 70 rfl rfl), mT1 11 rfl rfl, wcX9_isBehind, by decide, by decide, by decide +kernel⟩, ⟨wiX9_isBehind, mS (q := (yX9_isBehind, 36)) 81 rfl rfl⟩, rfl, by decide⟩
theorem lmX9_277 : LkM RX9 277 yX9_beginNear cX9_beginNear 1 none 0 ∧ (Cond.instanceMethod yX9_beginNear ∈ lwG ∧ Cond.selects (RX9, TX9, 36).1 yX9_beginNear yX9_beginNear ∈ lwG) ∧ vwCl[9]? = some (RX9, TX9, 36) ∧ 9 < 100 := ⟨⟨Or.inl (mT5 96 rfl rfl), mT1 11 rfl rfl, wcX9_beginNear, by decide, by decide, by decide +kernel⟩, ⟨wiX9_beginNear, mS (q := (yX9_beginNear, 36)) 82 rfl rfl⟩, rfl, by decide⟩
theorem lmX9_280 : LkM RX9 280 yX9_goNear cX9_goNear 7 none 1 ∧ (Cond.instanceMethod yX9_goNear ∈ lwG ∧ Cond.selects (RX9, TX9, 36).1 yX9_goNear yX9_goNear ∈ lwG) ∧ vwCl[9]? = some (RX9, TX9, 36) ∧ 9 < 100 := ⟨⟨Or.inl (mT5 100 rfl rfl), mT1 11 rfl rfl, wcX9_goNear, by decide, by decide, by decide +kernel⟩, ⟨wiX9_goNear, mS (q := (yX9_goNear, 36)) 83 rfl rfl⟩, rfl, by decide⟩
theorem lmX9_296 : LkM RX9 296 yX9_findBoth cX9_findBoth 11 (some .long) 2 ∧ (Cond.instanceMethod yX9_findBoth ∈ lwG ∧ Cond.selects (RX9, TX9, 36).1 yX9_findBoth yX9_findBoth ∈ lwG) ∧ vwCl[9]? = some (RX9, TX9, 36) ∧ 9 < 100 := ⟨⟨Or.inl (mT5 108 rfl rfl), mT1 11 rfl rfl, wcX9_findBoth, by decide, by decide, by decide +kernel⟩, ⟨wiX9_findBoth, mS (q := (yX9_findBoth, 36)) 84 rfl rfl⟩, rfl, by decide⟩
theorem lmX9_299 : LkM RX9 299 yX9_against cX9_against 18 (some .int) 3 ∧ (Cond.instanceMethod yX9_against ∈ lwG ∧ Cond.selects (RX9, TX9, 36).1 yX9_against yX9_against ∈ lwG) ∧ vwCl[9]? = some (RX9, TX9, 36) ∧ 9 < 100 := ⟨⟨Or.inl (mT5 112 rfl rfl), mT1 11 rfl rfl, wcX9_against, by decide, by decide, by decide +kernel⟩, ⟨wiX9_against, mS (q := (yX9_against, 36)) 85 rfl rfl⟩, rfl, by decide⟩
theorem lmX9_309 : LkM RX9 309 yX9_figureOf cX9_figureOf 8 (some .long) 2 ∧ (Cond.instanceMethod yX9_figureOf ∈ lwG ∧ Cond.selects (RX9, TX9, 36).1 yX9_figureOf yX9_figureOf ∈ lwG) ∧ vwCl[9]? = some (RX9, TX9, 36) ∧ 9 < 100 := ⟨⟨Or.inl (mT5 122 rfl rfl), mT1 11 rfl rfl, wcX9_figureOf, by decide, by decide, by decide +kernel⟩, ⟨wiX9_figureOf, mS (q := (yX9_figureOf, 36)) 86 rfl rfl⟩, rfl, by decide⟩
theorem lmX9_312 : LkM RX9 312 yX9_isNarrow cX9_isNarrow 1 (some .boolean) 0 ∧ (Cond.instanceMethod yX9_isNarrow ∈ lwG ∧ Cond.selects (RX9, TX9, 36).1 yX9_isNarrow yX9_isNarrow ∈ lwG) ∧ vwCl[9]? = some (RX9, TX9, 36) ∧ 9 < 100 := ⟨⟨Or.inl (mT5 126 rfl rfl), mT1 11 rfl rfl, wcX9_isNarrow, by decide, by decide, by decide +kernel⟩, ⟨wiX9_isNarrow, mS (q := (yX9_isNarrow, 36)) 87 rfl rfl⟩, rfl, by decide⟩
theorem lmX9_315 : LkM RX9 315 yX9_same cX9_same 17 (some .long) 6 ∧ Cond.static yX9_same ∈ lwG := ⟨⟨Or.inl (mT5 131 rfl rfl), mT1 11 rfl rfl, wcX9_same, by decide, by decide, by decide +kernel⟩, wiX9_same⟩
theorem lmX9_319 : LkM RX9 319 yX9_under cX9_under 4 (some .long) 2 ∧ Cond.static yX9_under ∈ lwG := ⟨⟨Or.inl (mT5 134 rfl rfl), mT1 11 rfl rfl, wcX9_under, by decide, by decide, by decide +kernel⟩, wiX9_under⟩
theorem loX0_3 : Cond.methodLink RX0 3 Lib.objectInit ∈ lwG := mT2 14 rfl rfl
theorem loX1_3 : Cond.methodLink RX1 3 Lib.objectInit ∈ lwG := mT1 144 rfl rfl
theorem loX2_3 : Cond.methodLink RX2 3 Lib.objectInit ∈ lwG := mT1 206 rfl rfl
theorem loX3_3 : Cond.methodLink RX3 3 Lib.objectInit ∈ lwG := mT1 91 rfl rfl
theorem loX4_3 : Cond.methodLink RX4 3 Lib.objectInit ∈ lwG := mT1 119 rfl rfl
theorem loX5_3 : Cond.methodLink RX5 3 Lib.objectInit ∈ lwG := mT1 225 rfl rfl
theorem loX6_1 : Cond.methodLink RX6 1 Lib.objectInit ∈ lwG := mT1 150 rfl rfl
theorem loX7_3 : Cond.methodLink RX7 3 Lib.objectInit ∈ lwG := mT1 26 rfl rfl
theorem loX8_3 : Cond.methodLink RX8 3 Lib.objectInit ∈ lwG := mT1 17 rfl rfl
theorem loX9_1 : Cond.methodLink RX9 1 Lib.objectInit ∈ lwG := mT4 6 rfl rfl
theorem lo_i : Cond.instanceMethod Lib.objectInit ∈ lwG := mT1 18 rfl rfl
theorem lo_c : Cond.code Lib.objectInit ⟨#[0xb1]⟩ 1 none ∈ lwG := mT1 19 rfl rfl
theorem la_int : Cond.arrayClass .int ∈ lwG := mT4 117 rfl rfl
theorem la_long : Cond.arrayClass .long ∈ lwG := mT1 85 rfl rfl
theorem la_boolean : Cond.arrayClass .boolean ∈ lwG := mT4 116 rfl rfl
theorem kb_6 : (Int8.ofInt (6)).toInt32 = 6 := by decide
theorem kb_7 : (Int8.ofInt (7)).toInt32 = 7 := by decide
theorem kb_8 : (Int8.ofInt (8)).toInt32 = 8 := by decide
theorem kb_10 : (Int8.ofInt (10)).toInt32 = 10 := by decide
theorem kb_31 : (Int8.ofInt (31)).toInt32 = 31 := by decide
theorem kb_32 : (Int8.ofInt (32)).toInt32 = 32 := by decide
theorem kb_36 : (Int8.ofInt (36)).toInt32 = 36 := by decide
theorem kb_40 : (Int8.ofInt (40)).toInt32 = 40 := by decide
theorem kb_60 : (Int8.ofInt (60)).toInt32 = 60 := by decide
theorem kb_61 : (Int8.ofInt (61)).toInt32 = 61 := by decide
theorem kb_100 : (Int8.ofInt (100)).toInt32 = 100 := by decide
theorem ki_m1 : Int32.ofInt (-1) = (-1) := by decide
theorem ki_0 : Int32.ofInt (0) = 0 := by decide
theorem ki_1 : Int32.ofInt (1) = 1 := by decide
theorem ki_2 : Int32.ofInt (2) = 2 := by decide
theorem ki_3 : Int32.ofInt (3) = 3 := by decide
theorem ki_4 : Int32.ofInt (4) = 4 := by decide
theorem ki_5 : Int32.ofInt (5) = 5 := by decide
theorem kl_0 : Int64.ofNat ((0 : Fin 2) : Nat) = 0 := by decide
theorem kl_1 : Int64.ofNat ((1 : Fin 2) : Nat) = 1 := by decide
theorem ks_160 : (Int16.ofInt (160)).toInt32 = 160 := by decide
theorem ks_182 : (Int16.ofInt (182)).toInt32 = 182 := by decide
theorem ks_1000 : (Int16.ofInt (1000)).toInt32 = 1000 := by decide
theorem ks_1820 : (Int16.ofInt (1820)).toInt32 = 1820 := by decide
theorem ks_2200 : (Int16.ofInt (2200)).toInt32 = 2200 := by decide
theorem ks_2400 : (Int16.ofInt (2400)).toInt32 = 2400 := by decide
theorem ks_2440 : (Int16.ofInt (2440)).toInt32 = 2440 := by decide
theorem ks_10000 : (Int16.ofInt (10000)).toInt32 = 10000 := by decide
theorem lstX1_46 : Cond.fieldLink RX1 46 "RatioStreams" "ACT_FACTORS" "[I" ∈ lwG ∨ ∃ host, Cond.fieldLinkNest RX1 46 "RatioStreams" "ACT_FACTORS" "[I" host ∈ nwL := Or.inr ⟨_, nT2 212 rfl rfl⟩
