/-! printed: methods, words, decode rows -/
theorem tWD_i {w : Cond} (i : Nat) (h : lw_tbl[i]? = some w) (g : gw w = true) : tWD w := ⟨List.mem_of_getElem? h, g⟩
theorem tcf0_w : ∀ w ∈ u_ws RX0 TX0 5, tWD w := by
  show ∀ w ∈ [u_lay RX0 TX0 0, u_lay RX0 TX0 1, u_lay RX0 TX0 2, u_lay RX0 TX0 3, u_lay RX0 TX0 4], tWD w
  exact List.forall_mem_cons.mpr ⟨tWD_i 314 (by decide +kernel) (by decide +kernel), List.forall_mem_cons.mpr ⟨tWD_i 316 (by decide +kernel) (by decide +kernel), List.forall_mem_cons.mpr ⟨tWD_i 318 (by decide +kernel) (by decide +kernel), List.forall_mem_cons.mpr ⟨tWD_i 320 (by decide +kernel) (by decide +kernel), List.forall_mem_cons.mpr ⟨tWD_i 322 (by decide +kernel) (by decide +kernel), List.forall_mem_nil _⟩⟩⟩⟩⟩
theorem tcf0 : tCF 0 RX0 TX0 5 tyX0 := ⟨rfl, tcf0_w, tyX0_ok, nmX0⟩
theorem tcf1_w : ∀ w ∈ u_ws RX1 TX1 12, tWD w := by
  show ∀ w ∈ [u_lay RX1 TX1 0, u_lay RX1 TX1 1, u_lay RX1 TX1 2, u_lay RX1 TX1 3, u_lay RX1 TX1 4, u_lay RX1 TX1 5, u_lay RX1 TX1 6, u_lay RX1 TX1 7, u_lay RX1 TX1 8, u_lay RX1 TX1 9, u_lay RX1 TX1 10, u_lay RX1 TX1 11], tWD w
  exact List.forall_mem_cons.mpr ⟨tWD_i 143 (by decide +kernel) (by decide +kernel), List.forall_mem_cons.mpr ⟨tWD_i 145 (by decide +kernel) (by decide +kernel), List.forall_mem_cons.mpr ⟨tWD_i 147 (by decide +kernel) (by decide +kernel), List.forall_mem_cons.mpr ⟨tWD_i 149 (by decide +kernel) (by decide +kernel), List.forall_mem_cons.mpr ⟨tWD_i 151 (by decide +kernel) (by decide +kernel), List.forall_mem_cons.mpr ⟨tWD_i 153 (by decide +kernel) (by decide +kernel), List.forall_mem_cons.mpr ⟨tWD_i 155 (by decide +kernel) (by decide +kernel), List.forall_mem_cons.mpr ⟨tWD_i 157 (by decide +kernel) (by decide +kernel), List.forall_mem_cons.mpr ⟨tWD_i 159 (by decide +kernel) (by decide +kernel), List.forall_mem_cons.mpr ⟨tWD_i 161 (by decide +kernel) (by decide +kernel), List.forall_mem_cons.mpr ⟨tWD_i 163 (by decide +kernel) (by decide +kernel), List.forall_mem_cons.mpr ⟨tWD_i 165 (by decide +kernel) (by decide +kernel), List.forall_mem_nil _⟩⟩⟩⟩⟩⟩⟩⟩⟩⟩⟩⟩
theorem tcf1 : tCF 1 RX1 TX1 12 tyX1 := ⟨rfl, tcf1_w, tyX1_ok, nmX1⟩
theorem tcf2_w : ∀ w ∈ u_ws RX2 TX2 8, tWD w := by
  show ∀ w ∈ [u_lay RX2 TX2 0, u_lay RX2 TX2 1, u_lay RX2 TX2 2, u_lay RX2 TX2 3, u_lay RX2 TX2 4, u_lay RX2 TX2 5, u_lay RX2 TX2 6, u_lay RX2 TX2 7], tWD w
  exact List.forall_mem_cons.mpr ⟨tWD_i 227 (by decide +kernel) (by decide +kernel), List.forall_mem_cons.mpr ⟨tWD_i 229 (by decide +kernel) (by decide +kernel), List.forall_mem_cons.mpr ⟨tWD_i 231 (by decide +kernel) (by decide +kernel), List.forall_mem_cons.mpr ⟨tWD_i 233 (by decide +kernel) (by decide +kernel), List.forall_mem_cons.mpr ⟨tWD_i 235 (by decide +kernel) (by decide +kernel), List.forall_mem_cons.mpr ⟨tWD_i 237 (by decide +kernel) (by decide +kernel), List.forall_mem_cons.mpr ⟨tWD_i 239 (by decide +kernel) (by decide +kernel), List.forall_mem_cons.mpr ⟨tWD_i 241 (by decide +kernel) (by decide +kernel), List.forall_mem_nil _⟩⟩⟩⟩⟩⟩⟩⟩
theorem tcf2 : tCF 2 RX2 TX2 8 tyX2 := ⟨rfl, tcf2_w, tyX2_ok, nmX2⟩
theorem tcf3_w : ∀ w ∈ u_ws RX3 TX3 2, tWD w := by
  show ∀ w ∈ [u_lay RX3 TX3 0, u_lay RX3 TX3 1], tWD w
  exact List.forall_mem_cons.mpr ⟨tWD_i 265 (by decide +kernel) (by decide +kernel), List.forall_mem_cons.mpr ⟨tWD_i 267 (by decide +kernel) (by decide +kernel), List.forall_mem_nil _⟩⟩
theorem tcf3 : tCF 3 RX3 TX3 2 tyX3 := ⟨rfl, tcf3_w, tyX3_ok, nmX3⟩
theorem tcf4_w : ∀ w ∈ u_ws RX4 TX4 9, tWD w := by
  show ∀ w ∈ [u_lay RX4 TX4 0, u_lay RX4 TX4 1, u_lay RX4 TX4 2, u_lay RX4 TX4 3, u_lay RX4 TX4 4, u_lay RX4 TX4 5, u_lay RX4 TX4 6, u_lay RX4 TX4 7, u_lay RX4 TX4 8], tWD w
  exact List.forall_mem_cons.mpr ⟨tWD_i 281 (by decide +kernel) (by decide +kernel), List.forall_mem_cons.mpr ⟨tWD_i 283 (by decide +kernel) (by decide +kernel), List.forall_mem_cons.mpr ⟨tWD_i 285 (by decide +kernel) (by decide +kernel), List.forall_mem_cons.mpr ⟨tWD_i 287 (by decide +kernel) (by decide +kernel), List.forall_mem_cons.mpr ⟨tWD_i 289 (by decide +kernel) (by decide +kernel), List.forall_mem_cons.mpr ⟨tWD_i 291 (by decide +kernel) (by decide +kernel), List.forall_mem_cons.mpr ⟨tWD_i 293 (by decide +kernel) (by decide +kernel), List.forall_mem_cons.mpr ⟨tWD_i 295 (by decide +kernel) (by decide +kernel), List.forall_mem_cons.mpr ⟨tWD_i 297 (by decide +kernel) (by decide +kernel), List.forall_mem_nil _⟩⟩⟩⟩⟩⟩⟩⟩⟩
theorem tcf4 : tCF 4 RX4 TX4 9 tyX4 := ⟨rfl, tcf4_w, tyX4_ok, nmX4⟩
theorem tcf5_w : ∀ w ∈ u_ws RX5 TX5 8, tWD w := by
  show ∀ w ∈ [u_lay RX5 TX5 0, u_lay RX5 TX5 1, u_lay RX5 TX5 2, u_lay RX5 TX5 3, u_lay RX5 TX5 4, u_lay RX5 TX5 5, u_lay RX5 TX5 6, u_lay RX5 TX5 7], tWD w
  exact List.forall_mem_cons.mpr ⟨tWD_i 193 (by decide +kernel) (by decide +kernel), List.forall_mem_cons.mpr ⟨tWD_i 195 (by decide +kernel) (by decide +kernel), List.forall_mem_cons.mpr ⟨tWD_i 197 (by decide +kernel) (by decide +kernel), List.forall_mem_cons.mpr ⟨tWD_i 199 (by decide +kernel) (by decide +kernel), List.forall_mem_cons.mpr ⟨tWD_i 201 (by decide +kernel) (by decide +kernel), List.forall_mem_cons.mpr ⟨tWD_i 203 (by decide +kernel) (by decide +kernel), List.forall_mem_cons.mpr ⟨tWD_i 205 (by decide +kernel) (by decide +kernel), List.forall_mem_cons.mpr ⟨tWD_i 207 (by decide +kernel) (by decide +kernel), List.forall_mem_nil _⟩⟩⟩⟩⟩⟩⟩⟩
theorem tcf5 : tCF 5 RX5 TX5 8 tyX5 := ⟨rfl, tcf5_w, tyX5_ok, nmX5⟩
theorem tcf6_w : ∀ w ∈ u_ws RX6 TX6 10, tWD w := by
  show ∀ w ∈ [u_lay RX6 TX6 0, u_lay RX6 TX6 1, u_lay RX6 TX6 2, u_lay RX6 TX6 3, u_lay RX6 TX6 4, u_lay RX6 TX6 5, u_lay RX6 TX6 6, u_lay RX6 TX6 7, u_lay RX6 TX6 8, u_lay RX6 TX6 9], tWD w
  exact List.forall_mem_cons.mpr ⟨tWD_i 337 (by decide +kernel) (by decide +kernel), List.forall_mem_cons.mpr ⟨tWD_i 339 (by decide +kernel) (by decide +kernel), List.forall_mem_cons.mpr ⟨tWD_i 341 (by decide +kernel) (by decide +kernel), List.forall_mem_cons.mpr ⟨tWD_i 343 (by decide +kernel) (by decide +kernel), List.forall_mem_cons.mpr ⟨tWD_i 345 (by decide +kernel) (by decide +kernel), List.forall_mem_cons.mpr ⟨tWD_i 347 (by decide +kernel) (by decide +kernel), List.forall_mem_cons.mpr ⟨tWD_i 349 (by decide +kernel) (by decide +kernel), List.forall_mem_cons.mpr ⟨tWD_i 351 (by decide +kernel) (by decide +kernel), List.forall_mem_cons.mpr ⟨tWD_i 353 (by decide +kernel) (by decide +kernel), List.forall_mem_cons.mpr ⟨tWD_i 355 (by decide +kernel) (by decide +kernel), List.forall_mem_nil _⟩⟩⟩⟩⟩⟩⟩⟩⟩⟩
theorem tcf6 : tCF 6 RX6 TX6 10 tyX6 := ⟨rfl, tcf6_w, tyX6_ok, nmX6⟩
theorem tcf7_w : ∀ w ∈ u_ws RX7 TX7 35, tWD w := by
  show ∀ w ∈ [u_lay RX7 TX7 0, u_lay RX7 TX7 1, u_lay RX7 TX7 2, u_lay RX7 TX7 3, u_lay RX7 TX7 4, u_lay RX7 TX7 5, u_lay RX7 TX7 6, u_lay RX7 TX7 7, u_lay RX7 TX7 8, u_lay RX7 TX7 9, u_lay RX7 TX7 10, u_lay RX7 TX7 11, u_lay RX7 TX7 12, u_lay RX7 TX7 13, u_lay RX7 TX7 14, u_lay RX7 TX7 15, u_lay RX7 TX7 16, u_lay RX7 TX7 17, u_lay RX7 TX7 18, u_lay RX7 TX7 19, u_lay RX7 TX7 20, u_lay RX7 TX7 21, u_lay RX7 TX7 22, u_lay RX7 TX7 23, u_lay RX7 TX7 24, u_lay RX7 TX7 25, u_lay RX7 TX7 26, u_lay RX7 TX7 27, u_lay RX7 TX7 28, u_lay RX7 TX7 29, u_lay RX7 TX7 30, u_lay RX7 TX7 31, u_lay RX7 TX7 32, u_lay RX7 TX7 33, u_lay RX7 TX7 34], tWD w
  exact List.forall_mem_cons.mpr ⟨tWD_i 847 (by decide +kernel) (by decide +kernel), List.forall_mem_cons.mpr ⟨tWD_i 849 (by decide +kernel) (by decide +kernel), List.forall_mem_cons.mpr ⟨tWD_i 851 (by decide +kernel) (by decide +kernel), List.forall_mem_cons.mpr ⟨tWD_i 853 (by decide +kernel) (by decide +kernel), List.forall_mem_cons.mpr ⟨tWD_i 855 (by decide +kernel) (by decide +kernel), List.forall_mem_cons.mpr ⟨tWD_i 857 (by decide +kernel) (by decide +kernel), List.forall_mem_cons.mpr ⟨tWD_i 859 (by decide +kernel) (by decide +kernel), List.forall_mem_cons.mpr ⟨tWD_i 861 (by decide +kernel) (by decide +kernel), List.forall_mem_cons.mpr ⟨tWD_i 863 (by decide +kernel) (by decide +kernel), List.forall_mem_cons.mpr ⟨tWD_i 865 (by decide +kernel) (by decide +kernel), List.forall_mem_cons.mpr ⟨tWD_i 867 (by decide +kernel) (by decide +kernel), List.forall_mem_cons.mpr ⟨tWD_i 869 (by decide +kernel) (by decide +kernel), List.forall_mem_cons.mpr ⟨tWD_i 871 (by decide +kernel) (by decide +kernel), List.forall_mem_cons.mpr ⟨tWD_i 873 (by decide +kernel) (by decide +kernel), List.forall_mem_cons.mpr ⟨tWD_i 875 (by decide +kernel) (by decide +kernel), List.forall_mem_cons.mpr ⟨tWD_i 877 (by decide +kernel) (by decide +kernel), List.forall_mem_cons.mpr ⟨tWD_i 879 (by decide +kernel) (by decide +kernel), List.forall_mem_cons.mpr ⟨tWD_i 881 (by decide +kernel) (by decide +kernel), List.forall_mem_cons.mpr ⟨tWD_i 883 (by decide +kernel) (by decide +kernel), List.forall_mem_cons.mpr ⟨tWD_i 885 (by decide +kernel) (by decide +kernel), List.forall_mem_cons.mpr ⟨tWD_i 887 (by decide +kernel) (by decide +kernel), List.forall_mem_cons.mpr ⟨tWD_i 889 (by decide +kernel) (by decide +kernel), List.forall_mem_cons.mpr ⟨tWD_i 891 (by decide +kernel) (by decide +kernel), List.forall_mem_cons.mpr ⟨tWD_i 893 (by decide +kernel) (by decide +kernel), List.forall_mem_cons.mpr ⟨tWD_i 895 (by decide +kernel) (by decide +kernel), List.forall_mem_cons.mpr ⟨tWD_i 897 (by decide +kernel) (by decide +kernel), List.forall_mem_cons.mpr ⟨tWD_i 899 (by decide +kernel) (by decide +kernel), List.forall_mem_cons.mpr ⟨tWD_i 901 (by decide +kernel) (by decide +kernel), List.forall_mem_cons.mpr ⟨tWD_i 903 (by decide +kernel) (by decide +kernel), List.forall_mem_cons.mpr ⟨tWD_i 905 (by decide +kernel) (by decide +kernel), List.forall_mem_cons.mpr ⟨tWD_i 907 (by decide +kernel) (by decide +kernel), List.forall_mem_cons.mpr ⟨tWD_i 909 (by decide +kernel) (by decide +kernel), List.forall_mem_cons.mpr ⟨tWD_i 911 (by decide +kernel) (by decide +kernel), List.forall_mem_cons.mpr ⟨tWD_i 913 (by decide +kernel) (by decide +kernel), List.forall_mem_cons.mpr ⟨tWD_i 915 (by decide +kernel) (by decide +kernel), List.forall_mem_nil _⟩⟩⟩⟩⟩⟩⟩⟩⟩⟩⟩⟩⟩⟩⟩⟩⟩⟩⟩⟩⟩⟩⟩⟩⟩⟩⟩⟩⟩⟩⟩⟩⟩⟩⟩
theorem tcf7 : tCF 7 RX7 TX7 35 tyX7 := ⟨rfl, tcf7_w, tyX7_ok, nmX7⟩
theorem fk_X6_10 : tFK RX6 10 6 0 := ⟨RX6, TX6, 10, tyX6, tcf6, by decide, rfl, Or.inl (tWD_i 327 (by decide +kernel) (by decide +kernel))⟩
theorem fk_X6_19 : tFK RX6 19 6 1 := ⟨RX6, TX6, 10, tyX6, tcf6, by decide, rfl, Or.inl (tWD_i 328 (by decide +kernel) (by decide +kernel))⟩
theorem fk_X6_28 : tFK RX6 28 6 2 := ⟨RX6, TX6, 10, tyX6, tcf6, by decide, rfl, Or.inl (tWD_i 329 (by decide +kernel) (by decide +kernel))⟩
theorem fk_X6_37 : tFK RX6 37 6 3 := ⟨RX6, TX6, 10, tyX6, tcf6, by decide, rfl, Or.inl (tWD_i 330 (by decide +kernel) (by decide +kernel))⟩
theorem fk_X6_46 : tFK RX6 46 6 4 := ⟨RX6, TX6, 10, tyX6, tcf6, by decide, rfl, Or.inl (tWD_i 331 (by decide +kernel) (by decide +kernel))⟩
theorem fk_X6_53 : tFK RX6 53 6 5 := ⟨RX6, TX6, 10, tyX6, tcf6, by decide, rfl, Or.inl (tWD_i 332 (by decide +kernel) (by decide +kernel))⟩
theorem fk_X6_57 : tFK RX6 57 6 6 := ⟨RX6, TX6, 10, tyX6, tcf6, by decide, rfl, Or.inl (tWD_i 333 (by decide +kernel) (by decide +kernel))⟩
theorem fp_X6_57 : tFP RX6 57 6 6 := ⟨RX6, TX6, 10, tyX6, tcf6, by decide, rfl, Or.inl (tWD_i 333 (by decide +kernel) (by decide +kernel)), rfl, rfl⟩
theorem fk_X6_61 : tFK RX6 61 6 7 := ⟨RX6, TX6, 10, tyX6, tcf6, by decide, rfl, Or.inl (tWD_i 334 (by decide +kernel) (by decide +kernel))⟩
theorem fp_X6_61 : tFP RX6 61 6 7 := ⟨RX6, TX6, 10, tyX6, tcf6, by decide, rfl, Or.inl (tWD_i 334 (by decide +kernel) (by decide +kernel)), rfl, rfl⟩
theorem fk_X6_64 : tFK RX6 64 6 8 := ⟨RX6, TX6, 10, tyX6, tcf6, by decide, rfl, Or.inl (tWD_i 335 (by decide +kernel) (by decide +kernel))⟩
theorem fp_X6_64 : tFP RX6 64 6 8 := ⟨RX6, TX6, 10, tyX6, tcf6, by decide, rfl, Or.inl (tWD_i 335 (by decide +kernel) (by decide +kernel)), rfl, rfl⟩
theorem fk_X6_67 : tFK RX6 67 6 9 := ⟨RX6, TX6, 10, tyX6, tcf6, by decide, rfl, Or.inl (tWD_i 336 (by decide +kernel) (by decide +kernel))⟩
theorem fp_X6_67 : tFP RX6 67 6 9 := ⟨RX6, TX6, 10, tyX6, tcf6, by decide, rfl, Or.inl (tWD_i 336 (by decide +kernel) (by decide +kernel)), rfl, rfl⟩
theorem fk_X6_78 : tFK RX6 78 1 9 := ⟨RX1, TX1, 12, tyX1, tcf1, by decide, rfl, Or.inr (tWD_i 136 (by decide +kernel) (by decide +kernel))⟩
theorem fp_X6_78 : tFP RX6 78 1 9 := ⟨RX1, TX1, 12, tyX1, tcf1, by decide, rfl, Or.inr (tWD_i 136 (by decide +kernel) (by decide +kernel)), rfl, rfl⟩
theorem fk_X6_92 : tFK RX6 92 1 0 := ⟨RX1, TX1, 12, tyX1, tcf1, by decide, rfl, Or.inr (tWD_i 123 (by decide +kernel) (by decide +kernel))⟩
theorem fk_X6_96 : tFK RX6 96 1 1 := ⟨RX1, TX1, 12, tyX1, tcf1, by decide, rfl, Or.inr (tWD_i 126 (by decide +kernel) (by decide +kernel))⟩
theorem fk_X6_99 : tFK RX6 99 1 10 := ⟨RX1, TX1, 12, tyX1, tcf1, by decide, rfl, Or.inr (tWD_i 140 (by decide +kernel) (by decide +kernel))⟩
theorem fp_X6_99 : tFP RX6 99 1 10 := ⟨RX1, TX1, 12, tyX1, tcf1, by decide, rfl, Or.inr (tWD_i 140 (by decide +kernel) (by decide +kernel)), rfl, rfl⟩
theorem fk_X6_110 : tFK RX6 110 1 11 := ⟨RX1, TX1, 12, tyX1, tcf1, by decide, rfl, Or.inr (tWD_i 142 (by decide +kernel) (by decide +kernel))⟩
theorem fp_X6_110 : tFP RX6 110 1 11 := ⟨RX1, TX1, 12, tyX1, tcf1, by decide, rfl, Or.inr (tWD_i 142 (by decide +kernel) (by decide +kernel)), rfl, rfl⟩
theorem fk_X6_124 : tFK RX6 124 5 6 := ⟨RX5, TX5, 8, tyX5, tcf5, by decide, rfl, Or.inr (tWD_i 190 (by decide +kernel) (by decide +kernel))⟩
theorem fp_X6_124 : tFP RX6 124 5 6 := ⟨RX5, TX5, 8, tyX5, tcf5, by decide, rfl, Or.inr (tWD_i 190 (by decide +kernel) (by decide +kernel)), rfl, rfl⟩
theorem fk_X6_134 : tFK RX6 134 5 1 := ⟨RX5, TX5, 8, tyX5, tcf5, by decide, rfl, Or.inr (tWD_i 178 (by decide +kernel) (by decide +kernel))⟩
theorem fk_X6_140 : tFK RX6 140 5 0 := ⟨RX5, TX5, 8, tyX5, tcf5, by decide, rfl, Or.inr (tWD_i 176 (by decide +kernel) (by decide +kernel))⟩
theorem fk_X6_190 : tFK RX6 190 3 1 := ⟨RX3, TX3, 2, tyX3, tcf3, by decide, rfl, Or.inr (tWD_i 264 (by decide +kernel) (by decide +kernel))⟩
theorem fp_X6_190 : tFP RX6 190 3 1 := ⟨RX3, TX3, 2, tyX3, tcf3, by decide, rfl, Or.inr (tWD_i 264 (by decide +kernel) (by decide +kernel)), rfl, rfl⟩
theorem fk_X6_200 : tFK RX6 200 4 7 := ⟨RX4, TX4, 9, tyX4, tcf4, by decide, rfl, Or.inr (tWD_i 278 (by decide +kernel) (by decide +kernel))⟩
theorem fp_X6_200 : tFP RX6 200 4 7 := ⟨RX4, TX4, 9, tyX4, tcf4, by decide, rfl, Or.inr (tWD_i 278 (by decide +kernel) (by decide +kernel)), rfl, rfl⟩
theorem fk_X6_206 : tFK RX6 206 4 8 := ⟨RX4, TX4, 9, tyX4, tcf4, by decide, rfl, Or.inr (tWD_i 280 (by decide +kernel) (by decide +kernel))⟩
theorem fp_X6_206 : tFP RX6 206 4 8 := ⟨RX4, TX4, 9, tyX4, tcf4, by decide, rfl, Or.inr (tWD_i 280 (by decide +kernel) (by decide +kernel)), rfl, rfl⟩
theorem fk_X6_218 : tFK RX6 218 0 3 := ⟨RX0, TX0, 5, tyX0, tcf0, by decide, rfl, Or.inr (tWD_i 312 (by decide +kernel) (by decide +kernel))⟩
theorem fk_X6_224 : tFK RX6 224 5 7 := ⟨RX5, TX5, 8, tyX5, tcf5, by decide, rfl, Or.inr (tWD_i 192 (by decide +kernel) (by decide +kernel))⟩
theorem fp_X6_224 : tFP RX6 224 5 7 := ⟨RX5, TX5, 8, tyX5, tcf5, by decide, rfl, Or.inr (tWD_i 192 (by decide +kernel) (by decide +kernel)), rfl, rfl⟩
theorem fk_X6_251 : tFK RX6 251 5 2 := ⟨RX5, TX5, 8, tyX5, tcf5, by decide, rfl, Or.inr (tWD_i 182 (by decide +kernel) (by decide +kernel))⟩
theorem fk_X6_269 : tFK RX6 269 3 0 := ⟨RX3, TX3, 2, tyX3, tcf3, by decide, rfl, Or.inr (tWD_i 260 (by decide +kernel) (by decide +kernel))⟩
theorem fk_X6_283 : tFK RX6 283 2 7 := ⟨RX2, TX2, 8, tyX2, tcf2, by decide, rfl, Or.inr (tWD_i 226 (by decide +kernel) (by decide +kernel))⟩
theorem fp_X6_283 : tFP RX6 283 2 7 := ⟨RX2, TX2, 8, tyX2, tcf2, by decide, rfl, Or.inr (tWD_i 226 (by decide +kernel) (by decide +kernel)), rfl, rfl⟩
theorem fk_X0_12 : tFK RX0 12 0 2 := ⟨RX0, TX0, 5, tyX0, tcf0, by decide, rfl, Or.inl (tWD_i 310 (by decide +kernel) (by decide +kernel))⟩
theorem fk_X0_18 : tFK RX0 18 0 3 := ⟨RX0, TX0, 5, tyX0, tcf0, by decide, rfl, Or.inl (tWD_i 311 (by decide +kernel) (by decide +kernel))⟩
theorem fk_X0_21 : tFK RX0 21 0 4 := ⟨RX0, TX0, 5, tyX0, tcf0, by decide, rfl, Or.inl (tWD_i 313 (by decide +kernel) (by decide +kernel))⟩
theorem fk_X0_25 : tFK RX0 25 0 0 := ⟨RX0, TX0, 5, tyX0, tcf0, by decide, rfl, Or.inl (tWD_i 308 (by decide +kernel) (by decide +kernel))⟩
theorem fk_X0_29 : tFK RX0 29 0 1 := ⟨RX0, TX0, 5, tyX0, tcf0, by decide, rfl, Or.inl (tWD_i 309 (by decide +kernel) (by decide +kernel))⟩
theorem fk_X0_33 : tFK RX0 33 5 2 := ⟨RX5, TX5, 8, tyX5, tcf5, by decide, rfl, Or.inr (tWD_i 180 (by decide +kernel) (by decide +kernel))⟩
theorem fk_X0_59 : tFK RX0 59 2 7 := ⟨RX2, TX2, 8, tyX2, tcf2, by decide, rfl, Or.inr (tWD_i 225 (by decide +kernel) (by decide +kernel))⟩
theorem fp_X0_59 : tFP RX0 59 2 7 := ⟨RX2, TX2, 8, tyX2, tcf2, by decide, rfl, Or.inr (tWD_i 225 (by decide +kernel) (by decide +kernel)), rfl, rfl⟩
theorem fk_X0_82 : tFK RX0 82 3 1 := ⟨RX3, TX3, 2, tyX3, tcf3, by decide, rfl, Or.inr (tWD_i 263 (by decide +kernel) (by decide +kernel))⟩
theorem fp_X0_82 : tFP RX0 82 3 1 := ⟨RX3, TX3, 2, tyX3, tcf3, by decide, rfl, Or.inr (tWD_i 263 (by decide +kernel) (by decide +kernel)), rfl, rfl⟩
theorem fk_X0_85 : tFK RX0 85 3 0 := ⟨RX3, TX3, 2, tyX3, tcf3, by decide, rfl, Or.inr (tWD_i 258 (by decide +kernel) (by decide +kernel))⟩
theorem fk_X0_102 : tFK RX0 102 5 6 := ⟨RX5, TX5, 8, tyX5, tcf5, by decide, rfl, Or.inr (tWD_i 188 (by decide +kernel) (by decide +kernel))⟩
theorem fp_X0_102 : tFP RX0 102 5 6 := ⟨RX5, TX5, 8, tyX5, tcf5, by decide, rfl, Or.inr (tWD_i 188 (by decide +kernel) (by decide +kernel)), rfl, rfl⟩
theorem fk_X0_105 : tFK RX0 105 2 2 := ⟨RX2, TX2, 8, tyX2, tcf2, by decide, rfl, Or.inr (tWD_i 219 (by decide +kernel) (by decide +kernel))⟩
theorem fk_X1_9 : tFK RX1 9 1 0 := ⟨RX1, TX1, 12, tyX1, tcf1, by decide, rfl, Or.inl (tWD_i 122 (by decide +kernel) (by decide +kernel))⟩
theorem fk_X1_15 : tFK RX1 15 1 1 := ⟨RX1, TX1, 12, tyX1, tcf1, by decide, rfl, Or.inl (tWD_i 125 (by decide +kernel) (by decide +kernel))⟩
theorem fk_X1_18 : tFK RX1 18 1 2 := ⟨RX1, TX1, 12, tyX1, tcf1, by decide, rfl, Or.inl (tWD_i 128 (by decide +kernel) (by decide +kernel))⟩
theorem fk_X1_21 : tFK RX1 21 1 3 := ⟨RX1, TX1, 12, tyX1, tcf1, by decide, rfl, Or.inl (tWD_i 129 (by decide +kernel) (by decide +kernel))⟩
theorem fk_X1_24 : tFK RX1 24 1 4 := ⟨RX1, TX1, 12, tyX1, tcf1, by decide, rfl, Or.inl (tWD_i 130 (by decide +kernel) (by decide +kernel))⟩
theorem fk_X1_27 : tFK RX1 27 1 5 := ⟨RX1, TX1, 12, tyX1, tcf1, by decide, rfl, Or.inl (tWD_i 131 (by decide +kernel) (by decide +kernel))⟩
theorem fk_X1_30 : tFK RX1 30 1 6 := ⟨RX1, TX1, 12, tyX1, tcf1, by decide, rfl, Or.inl (tWD_i 132 (by decide +kernel) (by decide +kernel))⟩
theorem fk_X1_33 : tFK RX1 33 1 7 := ⟨RX1, TX1, 12, tyX1, tcf1, by decide, rfl, Or.inl (tWD_i 133 (by decide +kernel) (by decide +kernel))⟩
theorem fk_X1_36 : tFK RX1 36 1 8 := ⟨RX1, TX1, 12, tyX1, tcf1, by decide, rfl, Or.inl (tWD_i 134 (by decide +kernel) (by decide +kernel))⟩
theorem fk_X1_39 : tFK RX1 39 1 9 := ⟨RX1, TX1, 12, tyX1, tcf1, by decide, rfl, Or.inl (tWD_i 135 (by decide +kernel) (by decide +kernel))⟩
theorem fp_X1_39 : tFP RX1 39 1 9 := ⟨RX1, TX1, 12, tyX1, tcf1, by decide, rfl, Or.inl (tWD_i 135 (by decide +kernel) (by decide +kernel)), rfl, rfl⟩
theorem fk_X1_43 : tFK RX1 43 1 10 := ⟨RX1, TX1, 12, tyX1, tcf1, by decide, rfl, Or.inl (tWD_i 139 (by decide +kernel) (by decide +kernel))⟩
theorem fp_X1_43 : tFP RX1 43 1 10 := ⟨RX1, TX1, 12, tyX1, tcf1, by decide, rfl, Or.inl (tWD_i 139 (by decide +kernel) (by decide +kernel)), rfl, rfl⟩
theorem fk_X1_46 : tFK RX1 46 1 11 := ⟨RX1, TX1, 12, tyX1, tcf1, by decide, rfl, Or.inl (tWD_i 141 (by decide +kernel) (by decide +kernel))⟩
theorem fp_X1_46 : tFP RX1 46 1 11 := ⟨RX1, TX1, 12, tyX1, tcf1, by decide, rfl, Or.inl (tWD_i 141 (by decide +kernel) (by decide +kernel)), rfl, rfl⟩
theorem fk_X2_9 : tFK RX2 9 2 2 := ⟨RX2, TX2, 8, tyX2, tcf2, by decide, rfl, Or.inl (tWD_i 218 (by decide +kernel) (by decide +kernel))⟩
theorem fk_X2_15 : tFK RX2 15 2 0 := ⟨RX2, TX2, 8, tyX2, tcf2, by decide, rfl, Or.inl (tWD_i 216 (by decide +kernel) (by decide +kernel))⟩
theorem fk_X2_19 : tFK RX2 19 2 1 := ⟨RX2, TX2, 8, tyX2, tcf2, by decide, rfl, Or.inl (tWD_i 217 (by decide +kernel) (by decide +kernel))⟩
theorem fk_X2_23 : tFK RX2 23 2 7 := ⟨RX2, TX2, 8, tyX2, tcf2, by decide, rfl, Or.inl (tWD_i 224 (by decide +kernel) (by decide +kernel))⟩
theorem fp_X2_23 : tFP RX2 23 2 7 := ⟨RX2, TX2, 8, tyX2, tcf2, by decide, rfl, Or.inl (tWD_i 224 (by decide +kernel) (by decide +kernel)), rfl, rfl⟩
theorem fk_X2_33 : tFK RX2 33 2 3 := ⟨RX2, TX2, 8, tyX2, tcf2, by decide, rfl, Or.inl (tWD_i 220 (by decide +kernel) (by decide +kernel))⟩
theorem fp_X2_33 : tFP RX2 33 2 3 := ⟨RX2, TX2, 8, tyX2, tcf2, by decide, rfl, Or.inl (tWD_i 220 (by decide +kernel) (by decide +kernel)), rfl, rfl⟩
theorem fk_X2_40 : tFK RX2 40 2 4 := ⟨RX2, TX2, 8, tyX2, tcf2, by decide, rfl, Or.inl (tWD_i 221 (by decide +kernel) (by decide +kernel))⟩
theorem fp_X2_40 : tFP RX2 40 2 4 := ⟨RX2, TX2, 8, tyX2, tcf2, by decide, rfl, Or.inl (tWD_i 221 (by decide +kernel) (by decide +kernel)), rfl, rfl⟩
theorem fk_X2_46 : tFK RX2 46 2 5 := ⟨RX2, TX2, 8, tyX2, tcf2, by decide, rfl, Or.inl (tWD_i 222 (by decide +kernel) (by decide +kernel))⟩
theorem fp_X2_46 : tFP RX2 46 2 5 := ⟨RX2, TX2, 8, tyX2, tcf2, by decide, rfl, Or.inl (tWD_i 222 (by decide +kernel) (by decide +kernel)), rfl, rfl⟩
theorem fk_X2_52 : tFK RX2 52 2 6 := ⟨RX2, TX2, 8, tyX2, tcf2, by decide, rfl, Or.inl (tWD_i 223 (by decide +kernel) (by decide +kernel))⟩
theorem fp_X2_52 : tFP RX2 52 2 6 := ⟨RX2, TX2, 8, tyX2, tcf2, by decide, rfl, Or.inl (tWD_i 223 (by decide +kernel) (by decide +kernel)), rfl, rfl⟩
theorem fs_X2_62 : tLF RX2 62 "ApronDesk" "FREIGHT_ORDER" "[I" := Or.inr (tWD_i 642 (by decide +kernel) (by decide +kernel))
theorem fs_X2_66 : tLF RX2 66 "ApronDesk" "COMMON_ORDER" "[I" := Or.inr (tWD_i 644 (by decide +kernel) (by decide +kernel))
theorem fk_X2_69 : tFK RX2 69 1 9 := ⟨RX1, TX1, 12, tyX1, tcf1, by decide, rfl, Or.inr (tWD_i 138 (by decide +kernel) (by decide +kernel))⟩
theorem fp_X2_69 : tFP RX2 69 1 9 := ⟨RX1, TX1, 12, tyX1, tcf1, by decide, rfl, Or.inr (tWD_i 138 (by decide +kernel) (by decide +kernel)), rfl, rfl⟩
theorem fk_X2_74 : tFK RX2 74 1 1 := ⟨RX1, TX1, 12, tyX1, tcf1, by decide, rfl, Or.inr (tWD_i 127 (by decide +kernel) (by decide +kernel))⟩
theorem fk_X2_77 : tFK RX2 77 1 0 := ⟨RX1, TX1, 12, tyX1, tcf1, by decide, rfl, Or.inr (tWD_i 124 (by decide +kernel) (by decide +kernel))⟩
theorem fk_X2_104 : tFK RX2 104 5 6 := ⟨RX5, TX5, 8, tyX5, tcf5, by decide, rfl, Or.inr (tWD_i 189 (by decide +kernel) (by decide +kernel))⟩
theorem fp_X2_104 : tFP RX2 104 5 6 := ⟨RX5, TX5, 8, tyX5, tcf5, by decide, rfl, Or.inr (tWD_i 189 (by decide +kernel) (by decide +kernel)), rfl, rfl⟩
theorem fk_X2_113 : tFK RX2 113 5 2 := ⟨RX5, TX5, 8, tyX5, tcf5, by decide, rfl, Or.inr (tWD_i 181 (by decide +kernel) (by decide +kernel))⟩
theorem fk_X3_9 : tFK RX3 9 3 0 := ⟨RX3, TX3, 2, tyX3, tcf3, by decide, rfl, Or.inl (tWD_i 257 (by decide +kernel) (by decide +kernel))⟩
theorem fk_X3_15 : tFK RX3 15 3 1 := ⟨RX3, TX3, 2, tyX3, tcf3, by decide, rfl, Or.inl (tWD_i 261 (by decide +kernel) (by decide +kernel))⟩
theorem fp_X3_15 : tFP RX3 15 3 1 := ⟨RX3, TX3, 2, tyX3, tcf3, by decide, rfl, Or.inl (tWD_i 261 (by decide +kernel) (by decide +kernel)), rfl, rfl⟩
theorem fk_X4_12 : tFK RX4 12 4 3 := ⟨RX4, TX4, 9, tyX4, tcf4, by decide, rfl, Or.inl (tWD_i 273 (by decide +kernel) (by decide +kernel))⟩
theorem fk_X4_18 : tFK RX4 18 4 4 := ⟨RX4, TX4, 9, tyX4, tcf4, by decide, rfl, Or.inl (tWD_i 274 (by decide +kernel) (by decide +kernel))⟩
theorem fk_X4_22 : tFK RX4 22 4 5 := ⟨RX4, TX4, 9, tyX4, tcf4, by decide, rfl, Or.inl (tWD_i 275 (by decide +kernel) (by decide +kernel))⟩
theorem fk_X4_25 : tFK RX4 25 4 0 := ⟨RX4, TX4, 9, tyX4, tcf4, by decide, rfl, Or.inl (tWD_i 270 (by decide +kernel) (by decide +kernel))⟩
theorem fk_X4_29 : tFK RX4 29 4 1 := ⟨RX4, TX4, 9, tyX4, tcf4, by decide, rfl, Or.inl (tWD_i 271 (by decide +kernel) (by decide +kernel))⟩
theorem fk_X4_33 : tFK RX4 33 4 2 := ⟨RX4, TX4, 9, tyX4, tcf4, by decide, rfl, Or.inl (tWD_i 272 (by decide +kernel) (by decide +kernel))⟩
theorem fk_X4_40 : tFK RX4 40 3 1 := ⟨RX3, TX3, 2, tyX3, tcf3, by decide, rfl, Or.inr (tWD_i 262 (by decide +kernel) (by decide +kernel))⟩
theorem fp_X4_40 : tFP RX4 40 3 1 := ⟨RX3, TX3, 2, tyX3, tcf3, by decide, rfl, Or.inr (tWD_i 262 (by decide +kernel) (by decide +kernel)), rfl, rfl⟩
theorem fk_X4_51 : tFK RX4 51 4 8 := ⟨RX4, TX4, 9, tyX4, tcf4, by decide, rfl, Or.inl (tWD_i 279 (by decide +kernel) (by decide +kernel))⟩
theorem fp_X4_51 : tFP RX4 51 4 8 := ⟨RX4, TX4, 9, tyX4, tcf4, by decide, rfl, Or.inl (tWD_i 279 (by decide +kernel) (by decide +kernel)), rfl, rfl⟩
theorem fk_X4_63 : tFK RX4 63 5 6 := ⟨RX5, TX5, 8, tyX5, tcf5, by decide, rfl, Or.inr (tWD_i 187 (by decide +kernel) (by decide +kernel))⟩
theorem fp_X4_63 : tFP RX4 63 5 6 := ⟨RX5, TX5, 8, tyX5, tcf5, by decide, rfl, Or.inr (tWD_i 187 (by decide +kernel) (by decide +kernel)), rfl, rfl⟩
theorem fk_X4_76 : tFK RX4 76 4 7 := ⟨RX4, TX4, 9, tyX4, tcf4, by decide, rfl, Or.inl (tWD_i 277 (by decide +kernel) (by decide +kernel))⟩
theorem fp_X4_76 : tFP RX4 76 4 7 := ⟨RX4, TX4, 9, tyX4, tcf4, by decide, rfl, Or.inl (tWD_i 277 (by decide +kernel) (by decide +kernel)), rfl, rfl⟩
theorem fk_X4_79 : tFK RX4 79 4 6 := ⟨RX4, TX4, 9, tyX4, tcf4, by decide, rfl, Or.inl (tWD_i 276 (by decide +kernel) (by decide +kernel))⟩
theorem fp_X4_79 : tFP RX4 79 4 6 := ⟨RX4, TX4, 9, tyX4, tcf4, by decide, rfl, Or.inl (tWD_i 276 (by decide +kernel) (by decide +kernel)), rfl, rfl⟩
theorem fk_X4_82 : tFK RX4 82 3 0 := ⟨RX3, TX3, 2, tyX3, tcf3, by decide, rfl, Or.inr (tWD_i 259 (by decide +kernel) (by decide +kernel))⟩
theorem fk_X4_88 : tFK RX4 88 1 9 := ⟨RX1, TX1, 12, tyX1, tcf1, by decide, rfl, Or.inr (tWD_i 137 (by decide +kernel) (by decide +kernel))⟩
theorem fp_X4_88 : tFP RX4 88 1 9 := ⟨RX1, TX1, 12, tyX1, tcf1, by decide, rfl, Or.inr (tWD_i 137 (by decide +kernel) (by decide +kernel)), rfl, rfl⟩
theorem fk_X5_9 : tFK RX5 9 5 0 := ⟨RX5, TX5, 8, tyX5, tcf5, by decide, rfl, Or.inl (tWD_i 175 (by decide +kernel) (by decide +kernel))⟩
theorem fk_X5_15 : tFK RX5 15 5 1 := ⟨RX5, TX5, 8, tyX5, tcf5, by decide, rfl, Or.inl (tWD_i 177 (by decide +kernel) (by decide +kernel))⟩
theorem fk_X5_18 : tFK RX5 18 5 2 := ⟨RX5, TX5, 8, tyX5, tcf5, by decide, rfl, Or.inl (tWD_i 179 (by decide +kernel) (by decide +kernel))⟩
theorem fk_X5_21 : tFK RX5 21 5 3 := ⟨RX5, TX5, 8, tyX5, tcf5, by decide, rfl, Or.inl (tWD_i 183 (by decide +kernel) (by decide +kernel))⟩
theorem fk_X5_24 : tFK RX5 24 5 4 := ⟨RX5, TX5, 8, tyX5, tcf5, by decide, rfl, Or.inl (tWD_i 184 (by decide +kernel) (by decide +kernel))⟩
theorem fk_X5_27 : tFK RX5 27 5 5 := ⟨RX5, TX5, 8, tyX5, tcf5, by decide, rfl, Or.inl (tWD_i 185 (by decide +kernel) (by decide +kernel))⟩
theorem fk_X5_30 : tFK RX5 30 5 6 := ⟨RX5, TX5, 8, tyX5, tcf5, by decide, rfl, Or.inl (tWD_i 186 (by decide +kernel) (by decide +kernel))⟩
theorem fp_X5_30 : tFP RX5 30 5 6 := ⟨RX5, TX5, 8, tyX5, tcf5, by decide, rfl, Or.inl (tWD_i 186 (by decide +kernel) (by decide +kernel)), rfl, rfl⟩
theorem fk_X5_42 : tFK RX5 42 5 7 := ⟨RX5, TX5, 8, tyX5, tcf5, by decide, rfl, Or.inl (tWD_i 191 (by decide +kernel) (by decide +kernel))⟩
theorem fp_X5_42 : tFP RX5 42 5 7 := ⟨RX5, TX5, 8, tyX5, tcf5, by decide, rfl, Or.inl (tWD_i 191 (by decide +kernel) (by decide +kernel)), rfl, rfl⟩
theorem fk_X7_9 : tFK RX7 9 7 2 := ⟨RX7, TX7, 35, tyX7, tcf7, by decide, rfl, Or.inl (tWD_i 814 (by decide +kernel) (by decide +kernel))⟩
theorem fp_X7_9 : tFP RX7 9 7 2 := ⟨RX7, TX7, 35, tyX7, tcf7, by decide, rfl, Or.inl (tWD_i 814 (by decide +kernel) (by decide +kernel)), rfl, rfl⟩
theorem fk_X7_13 : tFK RX7 13 7 7 := ⟨RX7, TX7, 35, tyX7, tcf7, by decide, rfl, Or.inl (tWD_i 819 (by decide +kernel) (by decide +kernel))⟩
theorem fp_X7_13 : tFP RX7 13 7 7 := ⟨RX7, TX7, 35, tyX7, tcf7, by decide, rfl, Or.inl (tWD_i 819 (by decide +kernel) (by decide +kernel)), rfl, rfl⟩
theorem fk_X7_16 : tFK RX7 16 7 9 := ⟨RX7, TX7, 35, tyX7, tcf7, by decide, rfl, Or.inl (tWD_i 821 (by decide +kernel) (by decide +kernel))⟩
theorem fk_X7_20 : tFK RX7 20 7 10 := ⟨RX7, TX7, 35, tyX7, tcf7, by decide, rfl, Or.inl (tWD_i 822 (by decide +kernel) (by decide +kernel))⟩
theorem fk_X7_23 : tFK RX7 23 7 11 := ⟨RX7, TX7, 35, tyX7, tcf7, by decide, rfl, Or.inl (tWD_i 823 (by decide +kernel) (by decide +kernel))⟩
theorem fk_X7_26 : tFK RX7 26 7 12 := ⟨RX7, TX7, 35, tyX7, tcf7, by decide, rfl, Or.inl (tWD_i 824 (by decide +kernel) (by decide +kernel))⟩
theorem fk_X7_29 : tFK RX7 29 7 13 := ⟨RX7, TX7, 35, tyX7, tcf7, by decide, rfl, Or.inl (tWD_i 825 (by decide +kernel) (by decide +kernel))⟩
theorem fk_X7_32 : tFK RX7 32 7 14 := ⟨RX7, TX7, 35, tyX7, tcf7, by decide, rfl, Or.inl (tWD_i 826 (by decide +kernel) (by decide +kernel))⟩
theorem fk_X7_35 : tFK RX7 35 7 15 := ⟨RX7, TX7, 35, tyX7, tcf7, by decide, rfl, Or.inl (tWD_i 827 (by decide +kernel) (by decide +kernel))⟩
theorem fk_X7_38 : tFK RX7 38 7 16 := ⟨RX7, TX7, 35, tyX7, tcf7, by decide, rfl, Or.inl (tWD_i 828 (by decide +kernel) (by decide +kernel))⟩
theorem fk_X7_41 : tFK RX7 41 7 17 := ⟨RX7, TX7, 35, tyX7, tcf7, by decide, rfl, Or.inl (tWD_i 829 (by decide +kernel) (by decide +kernel))⟩
theorem fk_X7_44 : tFK RX7 44 7 18 := ⟨RX7, TX7, 35, tyX7, tcf7, by decide, rfl, Or.inl (tWD_i 830 (by decide +kernel) (by decide +kernel))⟩
theorem fk_X7_47 : tFK RX7 47 7 19 := ⟨RX7, TX7, 35, tyX7, tcf7, by decide, rfl, Or.inl (tWD_i 831 (by decide +kernel) (by decide +kernel))⟩
theorem fk_X7_50 : tFK RX7 50 7 20 := ⟨RX7, TX7, 35, tyX7, tcf7, by decide, rfl, Or.inl (tWD_i 832 (by decide +kernel) (by decide +kernel))⟩
theorem fk_X7_53 : tFK RX7 53 7 21 := ⟨RX7, TX7, 35, tyX7, tcf7, by decide, rfl, Or.inl (tWD_i 833 (by decide +kernel) (by decide +kernel))⟩
theorem fk_X7_56 : tFK RX7 56 7 22 := ⟨RX7, TX7, 35, tyX7, tcf7, by decide, rfl, Or.inl (tWD_i 834 (by decide +kernel) (by decide +kernel))⟩
theorem fk_X7_59 : tFK RX7 59 7 23 := ⟨RX7, TX7, 35, tyX7, tcf7, by decide, rfl, Or.inl (tWD_i 835 (by decide +kernel) (by decide +kernel))⟩
theorem fk_X7_62 : tFK RX7 62 7 25 := ⟨RX7, TX7, 35, tyX7, tcf7, by decide, rfl, Or.inl (tWD_i 837 (by decide +kernel) (by decide +kernel))⟩
theorem fk_X7_65 : tFK RX7 65 7 27 := ⟨RX7, TX7, 35, tyX7, tcf7, by decide, rfl, Or.inl (tWD_i 839 (by decide +kernel) (by decide +kernel))⟩
theorem fk_X7_68 : tFK RX7 68 7 28 := ⟨RX7, TX7, 35, tyX7, tcf7, by decide, rfl, Or.inl (tWD_i 840 (by decide +kernel) (by decide +kernel))⟩
theorem fk_X7_71 : tFK RX7 71 7 31 := ⟨RX7, TX7, 35, tyX7, tcf7, by decide, rfl, Or.inl (tWD_i 843 (by decide +kernel) (by decide +kernel))⟩
theorem fk_X7_74 : tFK RX7 74 7 32 := ⟨RX7, TX7, 35, tyX7, tcf7, by decide, rfl, Or.inl (tWD_i 844 (by decide +kernel) (by decide +kernel))⟩
theorem fk_X7_77 : tFK RX7 77 7 33 := ⟨RX7, TX7, 35, tyX7, tcf7, by decide, rfl, Or.inl (tWD_i 845 (by decide +kernel) (by decide +kernel))⟩
theorem fk_X7_80 : tFK RX7 80 7 0 := ⟨RX7, TX7, 35, tyX7, tcf7, by decide, rfl, Or.inl (tWD_i 812 (by decide +kernel) (by decide +kernel))⟩
theorem fp_X7_80 : tFP RX7 80 7 0 := ⟨RX7, TX7, 35, tyX7, tcf7, by decide, rfl, Or.inl (tWD_i 812 (by decide +kernel) (by decide +kernel)), rfl, rfl⟩
theorem fk_X7_83 : tFK RX7 83 7 1 := ⟨RX7, TX7, 35, tyX7, tcf7, by decide, rfl, Or.inl (tWD_i 813 (by decide +kernel) (by decide +kernel))⟩
theorem fp_X7_83 : tFP RX7 83 7 1 := ⟨RX7, TX7, 35, tyX7, tcf7, by decide, rfl, Or.inl (tWD_i 813 (by decide +kernel) (by decide +kernel)), rfl, rfl⟩
theorem fk_X7_86 : tFK RX7 86 7 3 := ⟨RX7, TX7, 35, tyX7, tcf7, by decide, rfl, Or.inl (tWD_i 815 (by decide +kernel) (by decide +kernel))⟩
theorem fp_X7_86 : tFP RX7 86 7 3 := ⟨RX7, TX7, 35, tyX7, tcf7, by decide, rfl, Or.inl (tWD_i 815 (by decide +kernel) (by decide +kernel)), rfl, rfl⟩
theorem fk_X7_89 : tFK RX7 89 7 6 := ⟨RX7, TX7, 35, tyX7, tcf7, by decide, rfl, Or.inl (tWD_i 818 (by decide +kernel) (by decide +kernel))⟩
theorem fp_X7_89 : tFP RX7 89 7 6 := ⟨RX7, TX7, 35, tyX7, tcf7, by decide, rfl, Or.inl (tWD_i 818 (by decide +kernel) (by decide +kernel)), rfl, rfl⟩
theorem fk_X7_103 : tFK RX7 103 7 4 := ⟨RX7, TX7, 35, tyX7, tcf7, by decide, rfl, Or.inl (tWD_i 816 (by decide +kernel) (by decide +kernel))⟩
theorem fp_X7_103 : tFP RX7 103 7 4 := ⟨RX7, TX7, 35, tyX7, tcf7, by decide, rfl, Or.inl (tWD_i 816 (by decide +kernel) (by decide +kernel)), rfl, rfl⟩
theorem fk_X7_110 : tFK RX7 110 7 5 := ⟨RX7, TX7, 35, tyX7, tcf7, by decide, rfl, Or.inl (tWD_i 817 (by decide +kernel) (by decide +kernel))⟩
theorem fp_X7_110 : tFP RX7 110 7 5 := ⟨RX7, TX7, 35, tyX7, tcf7, by decide, rfl, Or.inl (tWD_i 817 (by decide +kernel) (by decide +kernel)), rfl, rfl⟩
theorem fk_X7_122 : tFK RX7 122 7 8 := ⟨RX7, TX7, 35, tyX7, tcf7, by decide, rfl, Or.inl (tWD_i 820 (by decide +kernel) (by decide +kernel))⟩
theorem fp_X7_122 : tFP RX7 122 7 8 := ⟨RX7, TX7, 35, tyX7, tcf7, by decide, rfl, Or.inl (tWD_i 820 (by decide +kernel) (by decide +kernel)), rfl, rfl⟩
theorem fk_X7_134 : tFK RX7 134 7 24 := ⟨RX7, TX7, 35, tyX7, tcf7, by decide, rfl, Or.inl (tWD_i 836 (by decide +kernel) (by decide +kernel))⟩
theorem fp_X7_134 : tFP RX7 134 7 24 := ⟨RX7, TX7, 35, tyX7, tcf7, by decide, rfl, Or.inl (tWD_i 836 (by decide +kernel) (by decide +kernel)), rfl, rfl⟩
theorem fk_X7_188 : tFK RX7 188 7 26 := ⟨RX7, TX7, 35, tyX7, tcf7, by decide, rfl, Or.inl (tWD_i 838 (by decide +kernel) (by decide +kernel))⟩
theorem fp_X7_188 : tFP RX7 188 7 26 := ⟨RX7, TX7, 35, tyX7, tcf7, by decide, rfl, Or.inl (tWD_i 838 (by decide +kernel) (by decide +kernel)), rfl, rfl⟩
theorem fk_X7_202 : tFK RX7 202 7 29 := ⟨RX7, TX7, 35, tyX7, tcf7, by decide, rfl, Or.inl (tWD_i 841 (by decide +kernel) (by decide +kernel))⟩
theorem fp_X7_202 : tFP RX7 202 7 29 := ⟨RX7, TX7, 35, tyX7, tcf7, by decide, rfl, Or.inl (tWD_i 841 (by decide +kernel) (by decide +kernel)), rfl, rfl⟩
theorem fk_X7_205 : tFK RX7 205 7 30 := ⟨RX7, TX7, 35, tyX7, tcf7, by decide, rfl, Or.inl (tWD_i 842 (by decide +kernel) (by decide +kernel))⟩
theorem fp_X7_205 : tFP RX7 205 7 30 := ⟨RX7, TX7, 35, tyX7, tcf7, by decide, rfl, Or.inl (tWD_i 842 (by decide +kernel) (by decide +kernel)), rfl, rfl⟩
theorem fk_X7_219 : tFK RX7 219 7 34 := ⟨RX7, TX7, 35, tyX7, tcf7, by decide, rfl, Or.inl (tWD_i 846 (by decide +kernel) (by decide +kernel))⟩
theorem fp_X7_219 : tFP RX7 219 7 34 := ⟨RX7, TX7, 35, tyX7, tcf7, by decide, rfl, Or.inl (tWD_i 846 (by decide +kernel) (by decide +kernel)), rfl, rfl⟩
def mX0_bend : tMS := (yX0_bend, cX0_bend, 7, (some .int), { frames := 5, cells := 0, slots := 0, locals := 131 }, 0)
theorem zv_X0_bend : tZV mX0_bend 2 := ⟨tWD_i 728 (by decide +kernel) (by decide +kernel), tWD_i 104 (by decide +kernel) (by decide +kernel), (by decide +kernel), (by decide +kernel), rfl, rfl⟩
theorem zi_X0_bend : tZI mX0_bend := ⟨tWD_i 727 (by decide +kernel) (by decide +kernel), tWD_i 61 (by decide +kernel) (by decide +kernel)⟩
def mX0_canGo : tMS := (yX0_canGo, cX0_canGo, 3, (some .boolean), { frames := 2, cells := 0, slots := 0, locals := 42 }, 0)
theorem zv_X0_canGo : tZV mX0_canGo 1 := ⟨tWD_i 714 (by decide +kernel) (by decide +kernel), tWD_i 104 (by decide +kernel) (by decide +kernel), (by decide +kernel), (by decide +kernel), rfl, rfl⟩
theorem zi_X0_canGo : tZI mX0_canGo := ⟨tWD_i 713 (by decide +kernel) (by decide +kernel), tWD_i 58 (by decide +kernel) (by decide +kernel)⟩
def mX0_makeRoom : tMS := (yX0_makeRoom, cX0_makeRoom, 8, (some .int), { frames := 4, cells := 0, slots := 0, locals := 103 }, 0)
theorem zv_X0_makeRoom : tZV mX0_makeRoom 2 := ⟨tWD_i 706 (by decide +kernel) (by decide +kernel), tWD_i 104 (by decide +kernel) (by decide +kernel), (by decide +kernel), (by decide +kernel), rfl, rfl⟩
theorem zi_X0_makeRoom : tZI mX0_makeRoom := ⟨tWD_i 705 (by decide +kernel) (by decide +kernel), tWD_i 57 (by decide +kernel) (by decide +kernel)⟩
def mX0_takeMoversOff : tMS := (yX0_takeMoversOff, cX0_takeMoversOff, 2, none, { frames := 2, cells := 0, slots := 0, locals := 44 }, 0)
theorem zv_X0_takeMoversOff : tZV mX0_takeMoversOff 0 := ⟨tWD_i 737 (by decide +kernel) (by decide +kernel), tWD_i 104 (by decide +kernel) (by decide +kernel), (by decide +kernel), (by decide +kernel), rfl, rfl⟩
theorem zi_X0_takeMoversOff : tZI mX0_takeMoversOff := ⟨tWD_i 736 (by decide +kernel) (by decide +kernel), tWD_i 63 (by decide +kernel) (by decide +kernel)⟩
def mX1_addCone : tMS := (yX1_addCone, cX1_addCone, 4, (some .int), { frames := 0, cells := 0, slots := 0, locals := 0 }, 0)
theorem zv_X1_addCone : tZV mX1_addCone 3 := ⟨tWD_i 411 (by decide +kernel) (by decide +kernel), tWD_i 99 (by decide +kernel) (by decide +kernel), (by decide +kernel), (by decide +kernel), rfl, rfl⟩
theorem zi_X1_addCone : tZI mX1_addCone := ⟨tWD_i 410 (by decide +kernel) (by decide +kernel), tWD_i 5 (by decide +kernel) (by decide +kernel)⟩
def mX1_addPair : tMS := (yX1_addPair, cX1_addPair, 5, (some .int), { frames := 0, cells := 0, slots := 0, locals := 0 }, 0)
theorem zv_X1_addPair : tZV mX1_addPair 4 := ⟨tWD_i 400 (by decide +kernel) (by decide +kernel), tWD_i 99 (by decide +kernel) (by decide +kernel), (by decide +kernel), (by decide +kernel), rfl, rfl⟩
theorem zi_X1_addPair : tZI mX1_addPair := ⟨tWD_i 399 (by decide +kernel) (by decide +kernel), tWD_i 4 (by decide +kernel) (by decide +kernel)⟩
def mX1_addStand : tMS := (yX1_addStand, cX1_addStand, 3, (some .int), { frames := 0, cells := 0, slots := 0, locals := 0 }, 0)
theorem zv_X1_addStand : tZV mX1_addStand 2 := ⟨tWD_i 380 (by decide +kernel) (by decide +kernel), tWD_i 99 (by decide +kernel) (by decide +kernel), (by decide +kernel), (by decide +kernel), rfl, rfl⟩
theorem zi_X1_addStand : tZI mX1_addStand := ⟨tWD_i 379 (by decide +kernel) (by decide +kernel), tWD_i 1 (by decide +kernel) (by decide +kernel)⟩
def mX1_areTooNear : tMS := (yX1_areTooNear, cX1_areTooNear, 8, (some .boolean), { frames := 0, cells := 0, slots := 0, locals := 0 }, 0)
theorem zv_X1_areTooNear : tZV mX1_areTooNear 4 := ⟨tWD_i 540 (by decide +kernel) (by decide +kernel), tWD_i 99 (by decide +kernel) (by decide +kernel), (by decide +kernel), (by decide +kernel), rfl, rfl⟩
theorem zi_X1_areTooNear : tZI mX1_areTooNear := ⟨tWD_i 539 (by decide +kernel) (by decide +kernel), tWD_i 31 (by decide +kernel) (by decide +kernel)⟩
def mX1_firstCone : tMS := (yX1_firstCone, cX1_firstCone, 5, (some .int), { frames := 1, cells := 0, slots := 0, locals := 23 }, 0)
theorem zv_X1_firstCone : tZV mX1_firstCone 3 := ⟨tWD_i 544 (by decide +kernel) (by decide +kernel), tWD_i 99 (by decide +kernel) (by decide +kernel), (by decide +kernel), (by decide +kernel), rfl, rfl⟩
theorem zi_X1_firstCone : tZI mX1_firstCone := ⟨tWD_i 543 (by decide +kernel) (by decide +kernel), tWD_i 32 (by decide +kernel) (by decide +kernel)⟩
def mX1_halfOf : tMS := (yX1_halfOf, cX1_halfOf, 2, (some .int), { frames := 0, cells := 0, slots := 0, locals := 0 }, 0)
theorem zv_X1_halfOf : tZV mX1_halfOf 1 := ⟨tWD_i 561 (by decide +kernel) (by decide +kernel), tWD_i 99 (by decide +kernel) (by decide +kernel), (by decide +kernel), (by decide +kernel), rfl, rfl⟩
theorem zi_X1_halfOf : tZI mX1_halfOf := ⟨tWD_i 560 (by decide +kernel) (by decide +kernel), tWD_i 36 (by decide +kernel) (by decide +kernel)⟩
def mX1_hasGate : tMS := (yX1_hasGate, cX1_hasGate, 2, (some .boolean), { frames := 0, cells := 0, slots := 0, locals := 0 }, 0)
theorem zv_X1_hasGate : tZV mX1_hasGate 1 := ⟨tWD_i 509 (by decide +kernel) (by decide +kernel), tWD_i 99 (by decide +kernel) (by decide +kernel), (by decide +kernel), (by decide +kernel), rfl, rfl⟩
theorem zi_X1_hasGate : tZI mX1_hasGate := ⟨tWD_i 508 (by decide +kernel) (by decide +kernel), tWD_i 24 (by decide +kernel) (by decide +kernel)⟩
def mX1_hasStand : tMS := (yX1_hasStand, cX1_hasStand, 2, (some .boolean), { frames := 0, cells := 0, slots := 0, locals := 0 }, 0)
theorem zv_X1_hasStand : tZV mX1_hasStand 1 := ⟨tWD_i 392 (by decide +kernel) (by decide +kernel), tWD_i 99 (by decide +kernel) (by decide +kernel), (by decide +kernel), (by decide +kernel), rfl, rfl⟩
theorem zi_X1_hasStand : tZI mX1_hasStand := ⟨tWD_i 391 (by decide +kernel) (by decide +kernel), tWD_i 3 (by decide +kernel) (by decide +kernel)⟩
def mX2_against : tMS := (yX2_against, cX2_against, 4, (some .int), { frames := 3, cells := 0, slots := 0, locals := 80 }, 0)
theorem zv_X2_against : tZV mX2_against 3 := ⟨tWD_i 501 (by decide +kernel) (by decide +kernel), tWD_i 101 (by decide +kernel) (by decide +kernel), (by decide +kernel), (by decide +kernel), rfl, rfl⟩
theorem zi_X2_against : tZI mX2_against := ⟨tWD_i 500 (by decide +kernel) (by decide +kernel), tWD_i 22 (by decide +kernel) (by decide +kernel)⟩
def mX2_bestStand : tMS := (yX2_bestStand, cX2_bestStand, 9, (some .int), { frames := 4, cells := 0, slots := 0, locals := 103 }, 0)
theorem zv_X2_bestStand : tZV mX2_bestStand 2 := ⟨tWD_i 639 (by decide +kernel) (by decide +kernel), tWD_i 101 (by decide +kernel) (by decide +kernel), (by decide +kernel), (by decide +kernel), rfl, rfl⟩
theorem zi_X2_bestStand : tZI mX2_bestStand := ⟨tWD_i 638 (by decide +kernel) (by decide +kernel), tWD_i 48 (by decide +kernel) (by decide +kernel)⟩
def mX2_callAllBack : tMS := (yX2_callAllBack, cX2_callAllBack, 2, none, { frames := 0, cells := 0, slots := 0, locals := 0 }, 0)
theorem zv_X2_callAllBack : tZV mX2_callAllBack 0 := ⟨tWD_i 724 (by decide +kernel) (by decide +kernel), tWD_i 101 (by decide +kernel) (by decide +kernel), (by decide +kernel), (by decide +kernel), rfl, rfl⟩
theorem zi_X2_callAllBack : tZI mX2_callAllBack := ⟨tWD_i 723 (by decide +kernel) (by decide +kernel), tWD_i 60 (by decide +kernel) (by decide +kernel)⟩
def mX2_firstNeighbour : tMS := (yX2_firstNeighbour, cX2_firstNeighbour, 5, (some .int), { frames := 2, cells := 0, slots := 0, locals := 52 }, 0)
theorem zv_X2_firstNeighbour : tZV mX2_firstNeighbour 3 := ⟨tWD_i 516 (by decide +kernel) (by decide +kernel), tWD_i 101 (by decide +kernel) (by decide +kernel), (by decide +kernel), (by decide +kernel), rfl, rfl⟩
theorem zi_X2_firstNeighbour : tZI mX2_firstNeighbour := ⟨tWD_i 515 (by decide +kernel) (by decide +kernel), tWD_i 25 (by decide +kernel) (by decide +kernel)⟩
def mX2_firstTaker : tMS := (yX2_firstTaker, cX2_firstTaker, 6, (some .int), { frames := 2, cells := 0, slots := 0, locals := 55 }, 0)
theorem zv_X2_firstTaker : tZV mX2_firstTaker 3 := ⟨tWD_i 549 (by decide +kernel) (by decide +kernel), tWD_i 101 (by decide +kernel) (by decide +kernel), (by decide +kernel), (by decide +kernel), rfl, rfl⟩
theorem zi_X2_firstTaker : tZI mX2_firstTaker := ⟨tWD_i 548 (by decide +kernel) (by decide +kernel), tWD_i 33 (by decide +kernel) (by decide +kernel)⟩
def mX2_isNeighbour : tMS := (yX2_isNeighbour, cX2_isNeighbour, 6, (some .boolean), { frames := 1, cells := 0, slots := 0, locals := 27 }, 0)
theorem zv_X2_isNeighbour : tZV mX2_isNeighbour 4 := ⟨tWD_i 524 (by decide +kernel) (by decide +kernel), tWD_i 101 (by decide +kernel) (by decide +kernel), (by decide +kernel), (by decide +kernel), rfl, rfl⟩
theorem zi_X2_isNeighbour : tZI mX2_isNeighbour := ⟨tWD_i 523 (by decide +kernel) (by decide +kernel), tWD_i 27 (by decide +kernel) (by decide +kernel)⟩
def mX2_isOther : tMS := (yX2_isOther, cX2_isOther, 2, (some .boolean), { frames := 0, cells := 0, slots := 0, locals := 0 }, 0)
theorem zv_X2_isOther : tZV mX2_isOther 1 := ⟨tWD_i 520 (by decide +kernel) (by decide +kernel), tWD_i 101 (by decide +kernel) (by decide +kernel), (by decide +kernel), (by decide +kernel), rfl, rfl⟩
theorem zi_X2_isOther : tZI mX2_isOther := ⟨tWD_i 519 (by decide +kernel) (by decide +kernel), tWD_i 26 (by decide +kernel) (by decide +kernel)⟩
def mX2_isThirdThere : tMS := (yX2_isThirdThere, cX2_isThirdThere, 10, (some .boolean), { frames := 1, cells := 0, slots := 0, locals := 26 }, 0)
theorem zv_X2_isThirdThere : tZV mX2_isThirdThere 4 := ⟨tWD_i 565 (by decide +kernel) (by decide +kernel), tWD_i 101 (by decide +kernel) (by decide +kernel), (by decide +kernel), (by decide +kernel), rfl, rfl⟩
theorem zi_X2_isThirdThere : tZI mX2_isThirdThere := ⟨tWD_i 564 (by decide +kernel) (by decide +kernel), tWD_i 37 (by decide +kernel) (by decide +kernel)⟩
def mX2_isUnfit : tMS := (yX2_isUnfit, cX2_isUnfit, 6, (some .boolean), { frames := 1, cells := 0, slots := 0, locals := 23 }, 0)
theorem zv_X2_isUnfit : tZV mX2_isUnfit 3 := ⟨tWD_i 505 (by decide +kernel) (by decide +kernel), tWD_i 101 (by decide +kernel) (by decide +kernel), (by decide +kernel), (by decide +kernel), rfl, rfl⟩
theorem zi_X2_isUnfit : tZI mX2_isUnfit := ⟨tWD_i 504 (by decide +kernel) (by decide +kernel), tWD_i 23 (by decide +kernel) (by decide +kernel)⟩
def mX2_mayShare : tMS := (yX2_mayShare, cX2_mayShare, 4, (some .boolean), { frames := 1, cells := 0, slots := 0, locals := 21 }, 0)
theorem zv_X2_mayShare : tZV mX2_mayShare 2 := ⟨tWD_i 557 (by decide +kernel) (by decide +kernel), tWD_i 101 (by decide +kernel) (by decide +kernel), (by decide +kernel), (by decide +kernel), rfl, rfl⟩
theorem zi_X2_mayShare : tZI mX2_mayShare := ⟨tWD_i 556 (by decide +kernel) (by decide +kernel), tWD_i 35 (by decide +kernel) (by decide +kernel)⟩
def mX2_regard : tMS := (yX2_regard, cX2_regard, 2, none, { frames := 1, cells := 0, slots := 0, locals := 21 }, 0)
theorem zv_X2_regard : tZV mX2_regard 1 := ⟨tWD_i 485 (by decide +kernel) (by decide +kernel), tWD_i 101 (by decide +kernel) (by decide +kernel), (by decide +kernel), (by decide +kernel), rfl, rfl⟩
theorem zi_X2_regard : tZI mX2_regard := ⟨tWD_i 484 (by decide +kernel) (by decide +kernel), tWD_i 18 (by decide +kernel) (by decide +kernel)⟩
def mX2_regardPlane : tMS := (yX2_regardPlane, cX2_regardPlane, 2, none, { frames := 0, cells := 0, slots := 0, locals := 0 }, 0)
theorem zv_X2_regardPlane : tZV mX2_regardPlane 1 := ⟨tWD_i 805 (by decide +kernel) (by decide +kernel), tWD_i 101 (by decide +kernel) (by decide +kernel), (by decide +kernel), (by decide +kernel), rfl, rfl⟩
theorem zi_X2_regardPlane : tZI mX2_regardPlane := ⟨tWD_i 804 (by decide +kernel) (by decide +kernel), tWD_i 69 (by decide +kernel) (by decide +kernel)⟩
def mX2_sendAway : tMS := (yX2_sendAway, cX2_sendAway, 2, none, { frames := 1, cells := 0, slots := 0, locals := 21 }, 0)
theorem zv_X2_sendAway : tZV mX2_sendAway 1 := ⟨tWD_i 719 (by decide +kernel) (by decide +kernel), tWD_i 101 (by decide +kernel) (by decide +kernel), (by decide +kernel), (by decide +kernel), rfl, rfl⟩
theorem zi_X2_sendAway : tZI mX2_sendAway := ⟨tWD_i 718 (by decide +kernel) (by decide +kernel), tWD_i 59 (by decide +kernel) (by decide +kernel)⟩
def mX3_empty : tMS := (yX3_empty, cX3_empty, 1, none, { frames := 0, cells := 0, slots := 0, locals := 0 }, 0)
theorem zv_X3_empty : tZV mX3_empty 0 := ⟨tWD_i 619 (by decide +kernel) (by decide +kernel), tWD_i 103 (by decide +kernel) (by decide +kernel), (by decide +kernel), (by decide +kernel), rfl, rfl⟩
theorem zi_X3_empty : tZI mX3_empty := ⟨tWD_i 618 (by decide +kernel) (by decide +kernel), tWD_i 44 (by decide +kernel) (by decide +kernel)⟩
def mX3_join : tMS := (yX3_join, cX3_join, 2, none, { frames := 0, cells := 0, slots := 0, locals := 0 }, 0)
theorem zv_X3_join : tZV mX3_join 1 := ⟨tWD_i 664 (by decide +kernel) (by decide +kernel), tWD_i 103 (by decide +kernel) (by decide +kernel), (by decide +kernel), (by decide +kernel), rfl, rfl⟩
theorem zi_X3_join : tZI mX3_join := ⟨tWD_i 663 (by decide +kernel) (by decide +kernel), tWD_i 51 (by decide +kernel) (by decide +kernel)⟩
def mX3_joinByIn : tMS := (yX3_joinByIn, cX3_joinByIn, 4, none, { frames := 1, cells := 0, slots := 0, locals := 21 }, 0)
theorem zv_X3_joinByIn : tZV mX3_joinByIn 2 := ⟨tWD_i 629 (by decide +kernel) (by decide +kernel), tWD_i 103 (by decide +kernel) (by decide +kernel), (by decide +kernel), (by decide +kernel), rfl, rfl⟩
theorem zi_X3_joinByIn : tZI mX3_joinByIn := ⟨tWD_i 628 (by decide +kernel) (by decide +kernel), tWD_i 46 (by decide +kernel) (by decide +kernel)⟩
def mX3_memberAt : tMS := (yX3_memberAt, cX3_memberAt, 2, (some .int), { frames := 0, cells := 0, slots := 0, locals := 0 }, 0)
theorem zv_X3_memberAt : tZV mX3_memberAt 1 := ⟨tWD_i 752 (by decide +kernel) (by decide +kernel), tWD_i 103 (by decide +kernel) (by decide +kernel), (by decide +kernel), (by decide +kernel), rfl, rfl⟩
theorem zi_X3_memberAt : tZI mX3_memberAt := ⟨tWD_i 751 (by decide +kernel) (by decide +kernel), tWD_i 64 (by decide +kernel) (by decide +kernel)⟩
def mX4_begin : tMS := (yX4_begin, cX4_begin, 2, none, { frames := 3, cells := 0, slots := 0, locals := 63 }, 0)
theorem zv_X4_begin : tZV mX4_begin 0 := ⟨tWD_i 658 (by decide +kernel) (by decide +kernel), tWD_i 102 (by decide +kernel) (by decide +kernel), (by decide +kernel), (by decide +kernel), rfl, rfl⟩
theorem zi_X4_begin : tZI mX4_begin := ⟨tWD_i 657 (by decide +kernel) (by decide +kernel), tWD_i 50 (by decide +kernel) (by decide +kernel)⟩
def mX4_goToNextWhole : tMS := (yX4_goToNextWhole, cX4_goToNextWhole, 4, (some .int), { frames := 4, cells := 0, slots := 0, locals := 103 }, 0)
theorem zv_X4_goToNextWhole : tZV mX4_goToNextWhole 0 := ⟨tWD_i 668 (by decide +kernel) (by decide +kernel), tWD_i 102 (by decide +kernel) (by decide +kernel), (by decide +kernel), (by decide +kernel), rfl, rfl⟩
theorem zi_X4_goToNextWhole : tZI mX4_goToNextWhole := ⟨tWD_i 667 (by decide +kernel) (by decide +kernel), tWD_i 52 (by decide +kernel) (by decide +kernel)⟩
def mX4_keepIfBetter : tMS := (yX4_keepIfBetter, cX4_keepIfBetter, 3, none, { frames := 1, cells := 0, slots := 0, locals := 24 }, 0)
theorem zv_X4_keepIfBetter : tZV mX4_keepIfBetter 0 := ⟨tWD_i 690 (by decide +kernel) (by decide +kernel), tWD_i 102 (by decide +kernel) (by decide +kernel), (by decide +kernel), (by decide +kernel), rfl, rfl⟩
theorem zi_X4_keepIfBetter : tZI mX4_keepIfBetter := ⟨tWD_i 689 (by decide +kernel) (by decide +kernel), tWD_i 55 (by decide +kernel) (by decide +kernel)⟩
def mX4_putBest : tMS := (yX4_putBest, cX4_putBest, 3, none, { frames := 3, cells := 0, slots := 0, locals := 68 }, 0)
theorem zv_X4_putBest : tZV mX4_putBest 0 := ⟨tWD_i 698 (by decide +kernel) (by decide +kernel), tWD_i 102 (by decide +kernel) (by decide +kernel), (by decide +kernel), (by decide +kernel), rfl, rfl⟩
theorem zi_X4_putBest : tZI mX4_putBest := ⟨tWD_i 697 (by decide +kernel) (by decide +kernel), tWD_i 56 (by decide +kernel) (by decide +kernel)⟩
def mX4_takeAllOff : tMS := (yX4_takeAllOff, cX4_takeAllOff, 2, none, { frames := 1, cells := 0, slots := 0, locals := 21 }, 0)
theorem zv_X4_takeAllOff : tZV mX4_takeAllOff 0 := ⟨tWD_i 678 (by decide +kernel) (by decide +kernel), tWD_i 102 (by decide +kernel) (by decide +kernel), (by decide +kernel), (by decide +kernel), rfl, rfl⟩
theorem zi_X4_takeAllOff : tZI mX4_takeAllOff := ⟨tWD_i 677 (by decide +kernel) (by decide +kernel), tWD_i 53 (by decide +kernel) (by decide +kernel)⟩
def mX4_takeBest : tMS := (yX4_takeBest, cX4_takeBest, 3, (some .int), { frames := 5, cells := 0, slots := 0, locals := 126 }, 0)
theorem zv_X4_takeBest : tZV mX4_takeBest 0 := ⟨tWD_i 686 (by decide +kernel) (by decide +kernel), tWD_i 102 (by decide +kernel) (by decide +kernel), (by decide +kernel), (by decide +kernel), rfl, rfl⟩
theorem zi_X4_takeBest : tZI mX4_takeBest := ⟨tWD_i 685 (by decide +kernel) (by decide +kernel), tWD_i 54 (by decide +kernel) (by decide +kernel)⟩
def mX4_takeFirst : tMS := (yX4_takeFirst, cX4_takeFirst, 2, (some .int), { frames := 5, cells := 0, slots := 0, locals := 126 }, 0)
theorem zv_X4_takeFirst : tZV mX4_takeFirst 0 := ⟨tWD_i 654 (by decide +kernel) (by decide +kernel), tWD_i 102 (by decide +kernel) (by decide +kernel), (by decide +kernel), (by decide +kernel), rfl, rfl⟩
theorem zi_X4_takeFirst : tZI mX4_takeFirst := ⟨tWD_i 653 (by decide +kernel) (by decide +kernel), tWD_i 49 (by decide +kernel) (by decide +kernel)⟩
def mX5_add : tMS := (yX5_add, cX5_add, 7, (some .int), { frames := 0, cells := 0, slots := 0, locals := 0 }, 0)
theorem zv_X5_add : tZV mX5_add 5 := ⟨tWD_i 431 (by decide +kernel) (by decide +kernel), tWD_i 100 (by decide +kernel) (by decide +kernel), (by decide +kernel), (by decide +kernel), rfl, rfl⟩
theorem zi_X5_add : tZI mX5_add := ⟨tWD_i 430 (by decide +kernel) (by decide +kernel), tWD_i 8 (by decide +kernel) (by decide +kernel)⟩
def mX5_addStay : tMS := (yX5_addStay, cX5_addStay, 5, none, { frames := 1, cells := 0, slots := 0, locals := 21 }, 0)
theorem zv_X5_addStay : tZV mX5_addStay 3 := ⟨tWD_i 583 (by decide +kernel) (by decide +kernel), tWD_i 100 (by decide +kernel) (by decide +kernel), (by decide +kernel), (by decide +kernel), rfl, rfl⟩
theorem zi_X5_addStay : tZI mX5_addStay := ⟨tWD_i 582 (by decide +kernel) (by decide +kernel), tWD_i 40 (by decide +kernel) (by decide +kernel)⟩
def mX5_endLastStay : tMS := (yX5_endLastStay, cX5_endLastStay, 3, none, { frames := 0, cells := 0, slots := 0, locals := 0 }, 0)
theorem zv_X5_endLastStay : tZV mX5_endLastStay 2 := ⟨tWD_i 610 (by decide +kernel) (by decide +kernel), tWD_i 100 (by decide +kernel) (by decide +kernel), (by decide +kernel), (by decide +kernel), rfl, rfl⟩
theorem zi_X5_endLastStay : tZI mX5_endLastStay := ⟨tWD_i 609 (by decide +kernel) (by decide +kernel), tWD_i 43 (by decide +kernel) (by decide +kernel)⟩
def mX5_endOf : tMS := (yX5_endOf, cX5_endOf, 3, (some .int), { frames := 0, cells := 0, slots := 0, locals := 0 }, 0)
theorem zv_X5_endOf : tZV mX5_endOf 2 := ⟨tWD_i 532 (by decide +kernel) (by decide +kernel), tWD_i 100 (by decide +kernel) (by decide +kernel), (by decide +kernel), (by decide +kernel), rfl, rfl⟩
theorem zi_X5_endOf : tZI mX5_endOf := ⟨tWD_i 531 (by decide +kernel) (by decide +kernel), tWD_i 29 (by decide +kernel) (by decide +kernel)⟩
def mX5_fromOf : tMS := (yX5_fromOf, cX5_fromOf, 3, (some .int), { frames := 0, cells := 0, slots := 0, locals := 0 }, 0)
theorem zv_X5_fromOf : tZV mX5_fromOf 2 := ⟨tWD_i 528 (by decide +kernel) (by decide +kernel), tWD_i 100 (by decide +kernel) (by decide +kernel), (by decide +kernel), (by decide +kernel), rfl, rfl⟩
theorem zi_X5_fromOf : tZI mX5_fromOf := ⟨tWD_i 527 (by decide +kernel) (by decide +kernel), tWD_i 28 (by decide +kernel) (by decide +kernel)⟩
def mX5_has : tMS := (yX5_has, cX5_has, 2, (some .boolean), { frames := 0, cells := 0, slots := 0, locals := 0 }, 0)
theorem zv_X5_has : tZV mX5_has 1 := ⟨tWD_i 439 (by decide +kernel) (by decide +kernel), tWD_i 100 (by decide +kernel) (by decide +kernel), (by decide +kernel), (by decide +kernel), rfl, rfl⟩
theorem zi_X5_has : tZI mX5_has := ⟨tWD_i 438 (by decide +kernel) (by decide +kernel), tWD_i 9 (by decide +kernel) (by decide +kernel)⟩
def mX5_hasBegun : tMS := (yX5_hasBegun, cX5_hasBegun, 2, (some .boolean), { frames := 1, cells := 0, slots := 0, locals := 21 }, 0)
theorem zv_X5_hasBegun : tZV mX5_hasBegun 1 := ⟨tWD_i 467 (by decide +kernel) (by decide +kernel), tWD_i 100 (by decide +kernel) (by decide +kernel), (by decide +kernel), (by decide +kernel), rfl, rfl⟩
theorem zi_X5_hasBegun : tZI mX5_hasBegun := ⟨tWD_i 466 (by decide +kernel) (by decide +kernel), tWD_i 14 (by decide +kernel) (by decide +kernel)⟩
def mX5_inOf : tMS := (yX5_inOf, cX5_inOf, 2, (some .int), { frames := 0, cells := 0, slots := 0, locals := 0 }, 0)
theorem zv_X5_inOf : tZV mX5_inOf 1 := ⟨tWD_i 472 (by decide +kernel) (by decide +kernel), tWD_i 100 (by decide +kernel) (by decide +kernel), (by decide +kernel), (by decide +kernel), rfl, rfl⟩
theorem zi_X5_inOf : tZI mX5_inOf := ⟨tWD_i 471 (by decide +kernel) (by decide +kernel), tWD_i 15 (by decide +kernel) (by decide +kernel)⟩
def mX5_isPut : tMS := (yX5_isPut, cX5_isPut, 2, (some .boolean), { frames := 0, cells := 0, slots := 0, locals := 0 }, 0)
theorem zv_X5_isPut : tZV mX5_isPut 1 := ⟨tWD_i 443 (by decide +kernel) (by decide +kernel), tWD_i 100 (by decide +kernel) (by decide +kernel), (by decide +kernel), (by decide +kernel), rfl, rfl⟩
theorem zi_X5_isPut : tZI mX5_isPut := ⟨tWD_i 442 (by decide +kernel) (by decide +kernel), tWD_i 10 (by decide +kernel) (by decide +kernel)⟩
def mX5_isStayAt : tMS := (yX5_isStayAt, cX5_isStayAt, 7, (some .boolean), { frames := 0, cells := 0, slots := 0, locals := 0 }, 0)
theorem zv_X5_isStayAt : tZV mX5_isStayAt 5 := ⟨tWD_i 553 (by decide +kernel) (by decide +kernel), tWD_i 100 (by decide +kernel) (by decide +kernel), (by decide +kernel), (by decide +kernel), rfl, rfl⟩
theorem zi_X5_isStayAt : tZI mX5_isStayAt := ⟨tWD_i 552 (by decide +kernel) (by decide +kernel), tWD_i 34 (by decide +kernel) (by decide +kernel)⟩
def mX5_isThere : tMS := (yX5_isThere, cX5_isThere, 6, (some .boolean), { frames := 1, cells := 0, slots := 0, locals := 26 }, 0)
theorem zv_X5_isThere : tZV mX5_isThere 4 := ⟨tWD_i 795 (by decide +kernel) (by decide +kernel), tWD_i 100 (by decide +kernel) (by decide +kernel), (by decide +kernel), (by decide +kernel), rfl, rfl⟩
theorem zi_X5_isThere : tZI mX5_isThere := ⟨tWD_i 794 (by decide +kernel) (by decide +kernel), tWD_i 68 (by decide +kernel) (by decide +kernel)⟩
def mX5_isToCome : tMS := (yX5_isToCome, cX5_isToCome, 2, (some .boolean), { frames := 2, cells := 0, slots := 0, locals := 42 }, 0)
theorem zv_X5_isToCome : tZV mX5_isToCome 1 := ⟨tWD_i 623 (by decide +kernel) (by decide +kernel), tWD_i 100 (by decide +kernel) (by decide +kernel), (by decide +kernel), (by decide +kernel), rfl, rfl⟩
theorem zi_X5_isToCome : tZI mX5_isToCome := ⟨tWD_i 622 (by decide +kernel) (by decide +kernel), tWD_i 45 (by decide +kernel) (by decide +kernel)⟩
def mX5_isUnknown : tMS := (yX5_isUnknown, cX5_isUnknown, 2, (some .boolean), { frames := 0, cells := 0, slots := 0, locals := 0 }, 0)
theorem zv_X5_isUnknown : tZV mX5_isUnknown 1 := ⟨tWD_i 463 (by decide +kernel) (by decide +kernel), tWD_i 100 (by decide +kernel) (by decide +kernel), (by decide +kernel), (by decide +kernel), rfl, rfl⟩
theorem zi_X5_isUnknown : tZI mX5_isUnknown := ⟨tWD_i 462 (by decide +kernel) (by decide +kernel), tWD_i 13 (by decide +kernel) (by decide +kernel)⟩
def mX5_isWaiting : tMS := (yX5_isWaiting, cX5_isWaiting, 2, (some .boolean), { frames := 2, cells := 0, slots := 0, locals := 42 }, 0)
theorem zv_X5_isWaiting : tZV mX5_isWaiting 1 := ⟨tWD_i 760 (by decide +kernel) (by decide +kernel), tWD_i 100 (by decide +kernel) (by decide +kernel), (by decide +kernel), (by decide +kernel), rfl, rfl⟩
theorem zi_X5_isWaiting : tZI mX5_isWaiting := ⟨tWD_i 759 (by decide +kernel) (by decide +kernel), tWD_i 65 (by decide +kernel) (by decide +kernel)⟩
def mX5_kindOf : tMS := (yX5_kindOf, cX5_kindOf, 2, (some .int), { frames := 0, cells := 0, slots := 0, locals := 0 }, 0)
theorem zv_X5_kindOf : tZV mX5_kindOf 1 := ⟨tWD_i 489 (by decide +kernel) (by decide +kernel), tWD_i 100 (by decide +kernel) (by decide +kernel), (by decide +kernel), (by decide +kernel), rfl, rfl⟩
theorem zi_X5_kindOf : tZI mX5_kindOf := ⟨tWD_i 488 (by decide +kernel) (by decide +kernel), tWD_i 19 (by decide +kernel) (by decide +kernel)⟩
def mX5_makeLate : tMS := (yX5_makeLate, cX5_makeLate, 3, none, { frames := 1, cells := 0, slots := 0, locals := 22 }, 0)
theorem zv_X5_makeLate : tZV mX5_makeLate 2 := ⟨tWD_i 732 (by decide +kernel) (by decide +kernel), tWD_i 100 (by decide +kernel) (by decide +kernel), (by decide +kernel), (by decide +kernel), rfl, rfl⟩
theorem zi_X5_makeLate : tZI mX5_makeLate := ⟨tWD_i 731 (by decide +kernel) (by decide +kernel), tWD_i 62 (by decide +kernel) (by decide +kernel)⟩
def mX5_moveFirstStay : tMS := (yX5_moveFirstStay, cX5_moveFirstStay, 3, none, { frames := 0, cells := 0, slots := 0, locals := 0 }, 0)
theorem zv_X5_moveFirstStay : tZV mX5_moveFirstStay 2 := ⟨tWD_i 779 (by decide +kernel) (by decide +kernel), tWD_i 100 (by decide +kernel) (by decide +kernel), (by decide +kernel), (by decide +kernel), rfl, rfl⟩
theorem zi_X5_moveFirstStay : tZI mX5_moveFirstStay := ⟨tWD_i 778 (by decide +kernel) (by decide +kernel), tWD_i 67 (by decide +kernel) (by decide +kernel)⟩
def mX5_needOf : tMS := (yX5_needOf, cX5_needOf, 2, (some .int), { frames := 0, cells := 0, slots := 0, locals := 0 }, 0)
theorem zv_X5_needOf : tZV mX5_needOf 1 := ⟨tWD_i 497 (by decide +kernel) (by decide +kernel), tWD_i 100 (by decide +kernel) (by decide +kernel), (by decide +kernel), (by decide +kernel), rfl, rfl⟩
theorem zi_X5_needOf : tZI mX5_needOf := ⟨tWD_i 496 (by decide +kernel) (by decide +kernel), tWD_i 21 (by decide +kernel) (by decide +kernel)⟩
def mX5_outOf : tMS := (yX5_outOf, cX5_outOf, 2, (some .int), { frames := 0, cells := 0, slots := 0, locals := 0 }, 0)
theorem zv_X5_outOf : tZV mX5_outOf 1 := ⟨tWD_i 477 (by decide +kernel) (by decide +kernel), tWD_i 100 (by decide +kernel) (by decide +kernel), (by decide +kernel), (by decide +kernel), rfl, rfl⟩
theorem zi_X5_outOf : tZI mX5_outOf := ⟨tWD_i 476 (by decide +kernel) (by decide +kernel), tWD_i 16 (by decide +kernel) (by decide +kernel)⟩
def mX5_place : tMS := (yX5_place, cX5_place, 4, (some .boolean), { frames := 2, cells := 0, slots := 0, locals := 45 }, 0)
theorem zv_X5_place : tZV mX5_place 3 := ⟨tWD_i 579 (by decide +kernel) (by decide +kernel), tWD_i 100 (by decide +kernel) (by decide +kernel), (by decide +kernel), (by decide +kernel), rfl, rfl⟩
theorem zi_X5_place : tZI mX5_place := ⟨tWD_i 578 (by decide +kernel) (by decide +kernel), tWD_i 39 (by decide +kernel) (by decide +kernel)⟩
def mX5_standOf : tMS := (yX5_standOf, cX5_standOf, 3, (some .int), { frames := 0, cells := 0, slots := 0, locals := 0 }, 0)
theorem zv_X5_standOf : tZV mX5_standOf 2 := ⟨tWD_i 536 (by decide +kernel) (by decide +kernel), tWD_i 100 (by decide +kernel) (by decide +kernel), (by decide +kernel), (by decide +kernel), rfl, rfl⟩
theorem zi_X5_standOf : tZI mX5_standOf := ⟨tWD_i 535 (by decide +kernel) (by decide +kernel), tWD_i 30 (by decide +kernel) (by decide +kernel)⟩
def mX5_takeOff : tMS := (yX5_takeOff, cX5_takeOff, 2, none, { frames := 0, cells := 0, slots := 0, locals := 0 }, 0)
theorem zv_X5_takeOff : tZV mX5_takeOff 1 := ⟨tWD_i 596 (by decide +kernel) (by decide +kernel), tWD_i 100 (by decide +kernel) (by decide +kernel), (by decide +kernel), (by decide +kernel), rfl, rfl⟩
theorem zi_X5_takeOff : tZI mX5_takeOff := ⟨tWD_i 595 (by decide +kernel) (by decide +kernel), tWD_i 41 (by decide +kernel) (by decide +kernel)⟩
def mX5_wingOf : tMS := (yX5_wingOf, cX5_wingOf, 2, (some .int), { frames := 0, cells := 0, slots := 0, locals := 0 }, 0)
theorem zv_X5_wingOf : tZV mX5_wingOf 1 := ⟨tWD_i 493 (by decide +kernel) (by decide +kernel), tWD_i 100 (by decide +kernel) (by decide +kernel), (by decide +kernel), (by decide +kernel), rfl, rfl⟩
theorem zi_X5_wingOf : tZI mX5_wingOf := ⟨tWD_i 492 (by decide +kernel) (by decide +kernel), tWD_i 20 (by decide +kernel) (by decide +kernel)⟩
def mX6_allow : tMS := (yX6_allow, cX6_allow, 1, (some .boolean), { frames := 0, cells := 0, slots := 0, locals := 0 }, 0)
theorem zv_X6_allow : tZV mX6_allow 0 := ⟨tWD_i 423 (by decide +kernel) (by decide +kernel), tWD_i 98 (by decide +kernel) (by decide +kernel), (by decide +kernel), (by decide +kernel), rfl, rfl⟩
theorem zi_X6_allow : tZI mX6_allow := ⟨tWD_i 422 (by decide +kernel) (by decide +kernel), tWD_i 7 (by decide +kernel) (by decide +kernel)⟩
def mX6_at : tMS := (yX6_at, cX6_at, 6, (some .int), { frames := 2, cells := 0, slots := 0, locals := 51 }, 0)
theorem zv_X6_at : tZV mX6_at 3 := ⟨tWD_i 791 (by decide +kernel) (by decide +kernel), tWD_i 98 (by decide +kernel) (by decide +kernel), (by decide +kernel), (by decide +kernel), rfl, rfl⟩
theorem zi_X6_at : tZI mX6_at := ⟨tWD_i 789 (by decide +kernel) (by decide +kernel), tWD_i 790 (by decide +kernel) (by decide +kernel)⟩
def mX6_changed : tMS := (yX6_changed, cX6_changed, 2, (some .int), { frames := 1, cells := 0, slots := 0, locals := 21 }, 0)
theorem zv_X6_changed : tZV mX6_changed 1 := ⟨tWD_i 748 (by decide +kernel) (by decide +kernel), tWD_i 98 (by decide +kernel) (by decide +kernel), (by decide +kernel), (by decide +kernel), rfl, rfl⟩
theorem zi_X6_changed : tZI mX6_changed := ⟨tWD_i 746 (by decide +kernel) (by decide +kernel), tWD_i 747 (by decide +kernel) (by decide +kernel)⟩
def mX6_cone : tMS := (yX6_cone, cX6_cone, 4, (some .int), { frames := 1, cells := 0, slots := 0, locals := 23 }, 0)
theorem zv_X6_cone : tZV mX6_cone 3 := ⟨tWD_i 404 (by decide +kernel) (by decide +kernel), tWD_i 98 (by decide +kernel) (by decide +kernel), (by decide +kernel), (by decide +kernel), rfl, rfl⟩
theorem zi_X6_cone : tZI mX6_cone := ⟨tWD_i 402 (by decide +kernel) (by decide +kernel), tWD_i 403 (by decide +kernel) (by decide +kernel)⟩
def mX6_crowd : tMS := (yX6_crowd, cX6_crowd, 6, (some .int), { frames := 4, cells := 0, slots := 0, locals := 103 }, 0)
theorem zv_X6_crowd : tZV mX6_crowd 3 := ⟨tWD_i 801 (by decide +kernel) (by decide +kernel), tWD_i 98 (by decide +kernel) (by decide +kernel), (by decide +kernel), (by decide +kernel), rfl, rfl⟩
theorem zi_X6_crowd : tZI mX6_crowd := ⟨tWD_i 799 (by decide +kernel) (by decide +kernel), tWD_i 800 (by decide +kernel) (by decide +kernel)⟩
def mX6_deny : tMS := (yX6_deny, cX6_deny, 2, (some .boolean), { frames := 0, cells := 0, slots := 0, locals := 0 }, 0)
theorem zv_X6_deny : tZV mX6_deny 1 := ⟨tWD_i 419 (by decide +kernel) (by decide +kernel), tWD_i 98 (by decide +kernel) (by decide +kernel), (by decide +kernel), (by decide +kernel), rfl, rfl⟩
theorem zi_X6_deny : tZI mX6_deny := ⟨tWD_i 418 (by decide +kernel) (by decide +kernel), tWD_i 6 (by decide +kernel) (by decide +kernel)⟩
def mX6_faultOfLooking : tMS := (yX6_faultOfLooking, cX6_faultOfLooking, 3, (some .int), { frames := 1, cells := 0, slots := 0, locals := 21 }, 0)
theorem zv_X6_faultOfLooking : tZV mX6_faultOfLooking 2 := ⟨tWD_i 459 (by decide +kernel) (by decide +kernel), tWD_i 98 (by decide +kernel) (by decide +kernel), (by decide +kernel), (by decide +kernel), rfl, rfl⟩
theorem zi_X6_faultOfLooking : tZI mX6_faultOfLooking := ⟨tWD_i 458 (by decide +kernel) (by decide +kernel), tWD_i 12 (by decide +kernel) (by decide +kernel)⟩
def mX6_faultOfPutting : tMS := (yX6_faultOfPutting, cX6_faultOfPutting, 4, (some .int), { frames := 2, cells := 0, slots := 0, locals := 43 }, 0)
theorem zv_X6_faultOfPutting : tZV mX6_faultOfPutting 2 := ⟨tWD_i 455 (by decide +kernel) (by decide +kernel), tWD_i 98 (by decide +kernel) (by decide +kernel), (by decide +kernel), (by decide +kernel), rfl, rfl⟩
theorem zi_X6_faultOfPutting : tZI mX6_faultOfPutting := ⟨tWD_i 454 (by decide +kernel) (by decide +kernel), tWD_i 11 (by decide +kernel) (by decide +kernel)⟩
def mX6_faultOfSwapping : tMS := (yX6_faultOfSwapping, cX6_faultOfSwapping, 3, (some .int), { frames := 2, cells := 0, slots := 0, locals := 42 }, 0)
theorem zv_X6_faultOfSwapping : tZV mX6_faultOfSwapping 2 := ⟨tWD_i 772 (by decide +kernel) (by decide +kernel), tWD_i 98 (by decide +kernel) (by decide +kernel), (by decide +kernel), (by decide +kernel), rfl, rfl⟩
theorem zi_X6_faultOfSwapping : tZI mX6_faultOfSwapping := ⟨tWD_i 771 (by decide +kernel) (by decide +kernel), tWD_i 66 (by decide +kernel) (by decide +kernel)⟩
def mX6_faultOfTowing : tMS := (yX6_faultOfTowing, cX6_faultOfTowing, 5, (some .int), { frames := 1, cells := 0, slots := 0, locals := 22 }, 0)
theorem zv_X6_faultOfTowing : tZV mX6_faultOfTowing 3 := ⟨tWD_i 604 (by decide +kernel) (by decide +kernel), tWD_i 98 (by decide +kernel) (by decide +kernel), (by decide +kernel), (by decide +kernel), rfl, rfl⟩
theorem zi_X6_faultOfTowing : tZI mX6_faultOfTowing := ⟨tWD_i 603 (by decide +kernel) (by decide +kernel), tWD_i 42 (by decide +kernel) (by decide +kernel)⟩
def mX6_grant : tMS := (yX6_grant, cX6_grant, 2, (some .int), { frames := 0, cells := 0, slots := 0, locals := 0 }, 0)
theorem zv_X6_grant : tZV mX6_grant 1 := ⟨tWD_i 384 (by decide +kernel) (by decide +kernel), tWD_i 98 (by decide +kernel) (by decide +kernel), (by decide +kernel), (by decide +kernel), rfl, rfl⟩
theorem zi_X6_grant : tZI mX6_grant := ⟨tWD_i 383 (by decide +kernel) (by decide +kernel), tWD_i 2 (by decide +kernel) (by decide +kernel)⟩
def mX6_ground : tMS := (yX6_ground, cX6_ground, 3, (some .int), { frames := 1, cells := 0, slots := 0, locals := 21 }, 0)
theorem zv_X6_ground : tZV mX6_ground 2 := ⟨tWD_i 388 (by decide +kernel) (by decide +kernel), tWD_i 98 (by decide +kernel) (by decide +kernel), (by decide +kernel), (by decide +kernel), rfl, rfl⟩
theorem zi_X6_ground : tZI mX6_ground := ⟨tWD_i 386 (by decide +kernel) (by decide +kernel), tWD_i 387 (by decide +kernel) (by decide +kernel)⟩
def mX6_haveCommonMinute : tMS := (yX6_haveCommonMinute, cX6_haveCommonMinute, 4, (some .boolean), { frames := 0, cells := 0, slots := 0, locals := 0 }, 0)
theorem zv_X6_haveCommonMinute : tZV mX6_haveCommonMinute 4 := ⟨tWD_i 512 (by decide +kernel) (by decide +kernel), tWD_i 98 (by decide +kernel) (by decide +kernel), (by decide +kernel), (by decide +kernel), rfl, rfl⟩
theorem zs_X6_haveCommonMinute : tWD (.static mX6_haveCommonMinute.1) := tWD_i 511 (by decide +kernel) (by decide +kernel)
def mX6_isHindered : tMS := (yX6_isHindered, cX6_isHindered, 6, (some .boolean), { frames := 4, cells := 0, slots := 0, locals := 103 }, 0)
theorem zv_X6_isHindered : tZV mX6_isHindered 4 := ⟨tWD_i 481 (by decide +kernel) (by decide +kernel), tWD_i 98 (by decide +kernel) (by decide +kernel), (by decide +kernel), (by decide +kernel), rfl, rfl⟩
theorem zi_X6_isHindered : tZI mX6_isHindered := ⟨tWD_i 480 (by decide +kernel) (by decide +kernel), tWD_i 17 (by decide +kernel) (by decide +kernel)⟩
def mX6_isSpan : tMS := (yX6_isSpan, cX6_isSpan, 2, (some .boolean), { frames := 0, cells := 0, slots := 0, locals := 0 }, 0)
theorem zv_X6_isSpan : tZV mX6_isSpan 2 := ⟨tWD_i 407 (by decide +kernel) (by decide +kernel), tWD_i 98 (by decide +kernel) (by decide +kernel), (by decide +kernel), (by decide +kernel), rfl, rfl⟩
theorem zs_X6_isSpan : tWD (.static mX6_isSpan.1) := tWD_i 406 (by decide +kernel) (by decide +kernel)
def mX6_isWithin : tMS := (yX6_isWithin, cX6_isWithin, 3, (some .boolean), { frames := 0, cells := 0, slots := 0, locals := 0 }, 0)
theorem zv_X6_isWithin : tZV mX6_isWithin 3 := ⟨tWD_i 372 (by decide +kernel) (by decide +kernel), tWD_i 98 (by decide +kernel) (by decide +kernel), (by decide +kernel), (by decide +kernel), rfl, rfl⟩
theorem zs_X6_isWithin : tWD (.static mX6_isWithin.1) := tWD_i 371 (by decide +kernel) (by decide +kernel)
def mX6_keepReason : tMS := (yX6_keepReason, cX6_keepReason, 2, none, { frames := 0, cells := 0, slots := 0, locals := 0 }, 0)
theorem zv_X6_keepReason : tZV mX6_keepReason 1 := ⟨tWD_i 575 (by decide +kernel) (by decide +kernel), tWD_i 98 (by decide +kernel) (by decide +kernel), (by decide +kernel), (by decide +kernel), rfl, rfl⟩
theorem zi_X6_keepReason : tZI mX6_keepReason := ⟨tWD_i 574 (by decide +kernel) (by decide +kernel), tWD_i 38 (by decide +kernel) (by decide +kernel)⟩
def mX6_late : tMS := (yX6_late, cX6_late, 4, (some .int), { frames := 6, cells := 0, slots := 0, locals := 157 }, 0)
theorem zv_X6_late : tZV mX6_late 2 := ⟨tWD_i 702 (by decide +kernel) (by decide +kernel), tWD_i 98 (by decide +kernel) (by decide +kernel), (by decide +kernel), (by decide +kernel), rfl, rfl⟩
theorem zi_X6_late : tZI mX6_late := ⟨tWD_i 700 (by decide +kernel) (by decide +kernel), tWD_i 701 (by decide +kernel) (by decide +kernel)⟩
def mX6_most : tMS := (yX6_most, cX6_most, 2, (some .int), { frames := 6, cells := 0, slots := 0, locals := 148 }, 0)
theorem zv_X6_most : tZV mX6_most 0 := ⟨tWD_i 682 (by decide +kernel) (by decide +kernel), tWD_i 98 (by decide +kernel) (by decide +kernel), (by decide +kernel), (by decide +kernel), rfl, rfl⟩
theorem zi_X6_most : tZI mX6_most := ⟨tWD_i 680 (by decide +kernel) (by decide +kernel), tWD_i 681 (by decide +kernel) (by decide +kernel)⟩
def mX6_near : tMS := (yX6_near, cX6_near, 5, (some .int), { frames := 1, cells := 0, slots := 0, locals := 24 }, 0)
theorem zv_X6_near : tZV mX6_near 4 := ⟨tWD_i 396 (by decide +kernel) (by decide +kernel), tWD_i 98 (by decide +kernel) (by decide +kernel), (by decide +kernel), (by decide +kernel), rfl, rfl⟩
theorem zi_X6_near : tZI mX6_near := ⟨tWD_i 394 (by decide +kernel) (by decide +kernel), tWD_i 395 (by decide +kernel) (by decide +kernel)⟩
def mX6_now : tMS := (yX6_now, cX6_now, 3, (some .int), { frames := 6, cells := 0, slots := 0, locals := 155 }, 0)
theorem zv_X6_now : tZV mX6_now 1 := ⟨tWD_i 756 (by decide +kernel) (by decide +kernel), tWD_i 98 (by decide +kernel) (by decide +kernel), (by decide +kernel), (by decide +kernel), rfl, rfl⟩
theorem zi_X6_now : tZI mX6_now := ⟨tWD_i 754 (by decide +kernel) (by decide +kernel), tWD_i 755 (by decide +kernel) (by decide +kernel)⟩
def mX6_off : tMS := (yX6_off, cX6_off, 2, (some .boolean), { frames := 2, cells := 0, slots := 0, locals := 42 }, 0)
theorem zv_X6_off : tZV mX6_off 1 := ⟨tWD_i 592 (by decide +kernel) (by decide +kernel), tWD_i 98 (by decide +kernel) (by decide +kernel), (by decide +kernel), (by decide +kernel), rfl, rfl⟩
theorem zi_X6_off : tZI mX6_off := ⟨tWD_i 590 (by decide +kernel) (by decide +kernel), tWD_i 591 (by decide +kernel) (by decide +kernel)⟩
def mX6_plan : tMS := (yX6_plan, cX6_plan, 2, (some .int), { frames := 6, cells := 0, slots := 0, locals := 155 }, 0)
theorem zv_X6_plan : tZV mX6_plan 0 := ⟨tWD_i 615 (by decide +kernel) (by decide +kernel), tWD_i 98 (by decide +kernel) (by decide +kernel), (by decide +kernel), (by decide +kernel), rfl, rfl⟩
theorem zi_X6_plan : tZI mX6_plan := ⟨tWD_i 613 (by decide +kernel) (by decide +kernel), tWD_i 614 (by decide +kernel) (by decide +kernel)⟩
def mX6_put : tMS := (yX6_put, cX6_put, 5, (some .boolean), { frames := 5, cells := 0, slots := 0, locals := 128 }, 0)
theorem zv_X6_put : tZV mX6_put 2 := ⟨tWD_i 451 (by decide +kernel) (by decide +kernel), tWD_i 98 (by decide +kernel) (by decide +kernel), (by decide +kernel), (by decide +kernel), rfl, rfl⟩
theorem zi_X6_put : tZI mX6_put := ⟨tWD_i 449 (by decide +kernel) (by decide +kernel), tWD_i 450 (by decide +kernel) (by decide +kernel)⟩
def mX6_reason : tMS := (yX6_reason, cX6_reason, 2, (some .int), { frames := 0, cells := 0, slots := 0, locals := 0 }, 0)
theorem zv_X6_reason : tZV mX6_reason 1 := ⟨tWD_i 365 (by decide +kernel) (by decide +kernel), tWD_i 98 (by decide +kernel) (by decide +kernel), (by decide +kernel), (by decide +kernel), rfl, rfl⟩
theorem zi_X6_reason : tZI mX6_reason := ⟨tWD_i 363 (by decide +kernel) (by decide +kernel), tWD_i 364 (by decide +kernel) (by decide +kernel)⟩
def mX6_refuse : tMS := (yX6_refuse, cX6_refuse, 2, (some .int), { frames := 0, cells := 0, slots := 0, locals := 0 }, 0)
theorem zv_X6_refuse : tZV mX6_refuse 1 := ⟨tWD_i 376 (by decide +kernel) (by decide +kernel), tWD_i 98 (by decide +kernel) (by decide +kernel), (by decide +kernel), (by decide +kernel), rfl, rfl⟩
theorem zi_X6_refuse : tZI mX6_refuse := ⟨tWD_i 375 (by decide +kernel) (by decide +kernel), tWD_i 0 (by decide +kernel) (by decide +kernel)⟩
def mX6_search : tMS := (yX6_search, cX6_search, 2, (some .int), { frames := 6, cells := 0, slots := 0, locals := 147 }, 0)
theorem zv_X6_search : tZV mX6_search 0 := ⟨tWD_i 650 (by decide +kernel) (by decide +kernel), tWD_i 98 (by decide +kernel) (by decide +kernel), (by decide +kernel), (by decide +kernel), rfl, rfl⟩
theorem zi_X6_search : tZI mX6_search := ⟨tWD_i 648 (by decide +kernel) (by decide +kernel), tWD_i 649 (by decide +kernel) (by decide +kernel)⟩
def mX6_serveLine : tMS := (yX6_serveLine, cX6_serveLine, 5, (some .int), { frames := 5, cells := 0, slots := 0, locals := 131 }, 0)
theorem zv_X6_serveLine : tZV mX6_serveLine 0 := ⟨tWD_i 634 (by decide +kernel) (by decide +kernel), tWD_i 98 (by decide +kernel) (by decide +kernel), (by decide +kernel), (by decide +kernel), rfl, rfl⟩
theorem zi_X6_serveLine : tZI mX6_serveLine := ⟨tWD_i 633 (by decide +kernel) (by decide +kernel), tWD_i 47 (by decide +kernel) (by decide +kernel)⟩
def mX6_stand : tMS := (yX6_stand, cX6_stand, 3, (some .int), { frames := 1, cells := 0, slots := 0, locals := 22 }, 0)
theorem zv_X6_stand : tZV mX6_stand 2 := ⟨tWD_i 369 (by decide +kernel) (by decide +kernel), tWD_i 98 (by decide +kernel) (by decide +kernel), (by decide +kernel), (by decide +kernel), rfl, rfl⟩
theorem zi_X6_stand : tZI mX6_stand := ⟨tWD_i 367 (by decide +kernel) (by decide +kernel), tWD_i 368 (by decide +kernel) (by decide +kernel)⟩
def mX6_status : tMS := (yX6_status, cX6_status, 1, (some .int), { frames := 0, cells := 0, slots := 0, locals := 0 }, 0)
theorem zv_X6_status : tZV mX6_status 0 := ⟨tWD_i 361 (by decide +kernel) (by decide +kernel), tWD_i 98 (by decide +kernel) (by decide +kernel), (by decide +kernel), (by decide +kernel), rfl, rfl⟩
theorem zi_X6_status : tZI mX6_status := ⟨tWD_i 359 (by decide +kernel) (by decide +kernel), tWD_i 360 (by decide +kernel) (by decide +kernel)⟩
def mX6_stay : tMS := (yX6_stay, cX6_stay, 4, (some .int), { frames := 1, cells := 0, slots := 0, locals := 22 }, 0)
theorem zv_X6_stay : tZV mX6_stay 3 := ⟨tWD_i 787 (by decide +kernel) (by decide +kernel), tWD_i 98 (by decide +kernel) (by decide +kernel), (by decide +kernel), (by decide +kernel), rfl, rfl⟩
theorem zi_X6_stay : tZI mX6_stay := ⟨tWD_i 785 (by decide +kernel) (by decide +kernel), tWD_i 786 (by decide +kernel) (by decide +kernel)⟩
def mX6_stays : tMS := (yX6_stays, cX6_stays, 2, (some .int), { frames := 1, cells := 0, slots := 0, locals := 21 }, 0)
theorem zv_X6_stays : tZV mX6_stays 1 := ⟨tWD_i 783 (by decide +kernel) (by decide +kernel), tWD_i 98 (by decide +kernel) (by decide +kernel), (by decide +kernel), (by decide +kernel), rfl, rfl⟩
theorem zi_X6_stays : tZI mX6_stays := ⟨tWD_i 781 (by decide +kernel) (by decide +kernel), tWD_i 782 (by decide +kernel) (by decide +kernel)⟩
def mX6_swap : tMS := (yX6_swap, cX6_swap, 7, (some .boolean), { frames := 5, cells := 0, slots := 0, locals := 128 }, 0)
theorem zv_X6_swap : tZV mX6_swap 2 := ⟨tWD_i 768 (by decide +kernel) (by decide +kernel), tWD_i 98 (by decide +kernel) (by decide +kernel), (by decide +kernel), (by decide +kernel), rfl, rfl⟩
theorem zi_X6_swap : tZI mX6_swap := ⟨tWD_i 766 (by decide +kernel) (by decide +kernel), tWD_i 767 (by decide +kernel) (by decide +kernel)⟩
def mX6_tear : tMS := (yX6_tear, cX6_tear, 3, (some .boolean), { frames := 1, cells := 0, slots := 0, locals := 22 }, 0)
theorem zv_X6_tear : tZV mX6_tear 2 := ⟨tWD_i 435 (by decide +kernel) (by decide +kernel), tWD_i 98 (by decide +kernel) (by decide +kernel), (by decide +kernel), (by decide +kernel), rfl, rfl⟩
theorem zi_X6_tear : tZI mX6_tear := ⟨tWD_i 433 (by decide +kernel) (by decide +kernel), tWD_i 434 (by decide +kernel) (by decide +kernel)⟩
def mX6_told : tMS := (yX6_told, cX6_told, 3, (some .int), { frames := 1, cells := 0, slots := 0, locals := 21 }, 0)
theorem zv_X6_told : tZV mX6_told 2 := ⟨tWD_i 447 (by decide +kernel) (by decide +kernel), tWD_i 98 (by decide +kernel) (by decide +kernel), (by decide +kernel), (by decide +kernel), rfl, rfl⟩
theorem zi_X6_told : tZI mX6_told := ⟨tWD_i 445 (by decide +kernel) (by decide +kernel), tWD_i 446 (by decide +kernel) (by decide +kernel)⟩
def mX6_tow : tMS := (yX6_tow, cX6_tow, 5, (some .boolean), { frames := 5, cells := 0, slots := 0, locals := 128 }, 0)
theorem zv_X6_tow : tZV mX6_tow 3 := ⟨tWD_i 600 (by decide +kernel) (by decide +kernel), tWD_i 98 (by decide +kernel) (by decide +kernel), (by decide +kernel), (by decide +kernel), rfl, rfl⟩
theorem zi_X6_tow : tZI mX6_tow := ⟨tWD_i 598 (by decide +kernel) (by decide +kernel), tWD_i 599 (by decide +kernel) (by decide +kernel)⟩
def mX6_towtime : tMS := (yX6_towtime, cX6_towtime, 2, (some .boolean), { frames := 1, cells := 0, slots := 0, locals := 22 }, 0)
theorem zv_X6_towtime : tZV mX6_towtime 1 := ⟨tWD_i 415 (by decide +kernel) (by decide +kernel), tWD_i 98 (by decide +kernel) (by decide +kernel), (by decide +kernel), (by decide +kernel), rfl, rfl⟩
theorem zi_X6_towtime : tZI mX6_towtime := ⟨tWD_i 413 (by decide +kernel) (by decide +kernel), tWD_i 414 (by decide +kernel) (by decide +kernel)⟩
def mX6_visit : tMS := (yX6_visit, cX6_visit, 6, (some .int), { frames := 1, cells := 0, slots := 0, locals := 26 }, 0)
theorem zv_X6_visit : tZV mX6_visit 5 := ⟨tWD_i 427 (by decide +kernel) (by decide +kernel), tWD_i 98 (by decide +kernel) (by decide +kernel), (by decide +kernel), (by decide +kernel), rfl, rfl⟩
theorem zi_X6_visit : tZI mX6_visit := ⟨tWD_i 425 (by decide +kernel) (by decide +kernel), tWD_i 426 (by decide +kernel) (by decide +kernel)⟩
def mX6_waiting : tMS := (yX6_waiting, cX6_waiting, 3, (some .int), { frames := 3, cells := 0, slots := 0, locals := 63 }, 0)
theorem zv_X6_waiting : tZV mX6_waiting 0 := ⟨tWD_i 764 (by decide +kernel) (by decide +kernel), tWD_i 98 (by decide +kernel) (by decide +kernel), (by decide +kernel), (by decide +kernel), rfl, rfl⟩
theorem zi_X6_waiting : tZI mX6_waiting := ⟨tWD_i 762 (by decide +kernel) (by decide +kernel), tWD_i 763 (by decide +kernel) (by decide +kernel)⟩
def mX6_why : tMS := (yX6_why, cX6_why, 4, (some .int), { frames := 5, cells := 0, slots := 0, locals := 128 }, 0)
theorem zv_X6_why : tZV mX6_why 2 := ⟨tWD_i 588 (by decide +kernel) (by decide +kernel), tWD_i 98 (by decide +kernel) (by decide +kernel), (by decide +kernel), (by decide +kernel), rfl, rfl⟩
theorem zi_X6_why : tZI mX6_why := ⟨tWD_i 586 (by decide +kernel) (by decide +kernel), tWD_i 587 (by decide +kernel) (by decide +kernel)⟩
def mX7_against : tMS := (yX7_against, cX7_against, 11, (some .int), { frames := 4, cells := 0, slots := 0, locals := 101 }, 1)
theorem zv_X7_against : tZV mX7_against 7 := ⟨tWD_i 1020 (by decide +kernel) (by decide +kernel), tWD_i 105 (by decide +kernel) (by decide +kernel), (by decide +kernel), (by decide +kernel), rfl, rfl⟩
theorem zi_X7_against : tZI mX7_against := ⟨tWD_i 1019 (by decide +kernel) (by decide +kernel), tWD_i 83 (by decide +kernel) (by decide +kernel)⟩
def mX7_againstOf : tMS := (yX7_againstOf, cX7_againstOf, 5, (some .int), { frames := 5, cells := 0, slots := 0, locals := 131 }, 1)
theorem zv_X7_againstOf : tZV mX7_againstOf 4 := ⟨tWD_i 1004 (by decide +kernel) (by decide +kernel), tWD_i 105 (by decide +kernel) (by decide +kernel), (by decide +kernel), (by decide +kernel), rfl, rfl⟩
theorem zi_X7_againstOf : tZI mX7_againstOf := ⟨tWD_i 1003 (by decide +kernel) (by decide +kernel), tWD_i 79 (by decide +kernel) (by decide +kernel)⟩
def mX7_at : tMS := (yX7_at, cX7_at, 8, (some .int), { frames := 1, cells := 0, slots := 0, locals := 21 }, 1)
theorem zv_X7_at : tZV mX7_at 3 := ⟨tWD_i 1133 (by decide +kernel) (by decide +kernel), tWD_i 105 (by decide +kernel) (by decide +kernel), (by decide +kernel), (by decide +kernel), rfl, rfl⟩
theorem zi_X7_at : tZI mX7_at := ⟨tWD_i 1131 (by decide +kernel) (by decide +kernel), tWD_i 1132 (by decide +kernel) (by decide +kernel)⟩
def mX7_bestOf : tMS := (yX7_bestOf, cX7_bestOf, 8, (some .int), { frames := 6, cells := 0, slots := 0, locals := 155 }, 1)
theorem zv_X7_bestOf : tZV mX7_bestOf 3 := ⟨tWD_i 1077 (by decide +kernel) (by decide +kernel), tWD_i 105 (by decide +kernel) (by decide +kernel), (by decide +kernel), (by decide +kernel), rfl, rfl⟩
theorem zi_X7_bestOf : tZI mX7_bestOf := ⟨tWD_i 1076 (by decide +kernel) (by decide +kernel), tWD_i 91 (by decide +kernel) (by decide +kernel)⟩
def mX7_changed : tMS := (yX7_changed, cX7_changed, 2, (some .int), { frames := 0, cells := 0, slots := 0, locals := 0 }, 1)
theorem zv_X7_changed : tZV mX7_changed 1 := ⟨tWD_i 1109 (by decide +kernel) (by decide +kernel), tWD_i 105 (by decide +kernel) (by decide +kernel), (by decide +kernel), (by decide +kernel), rfl, rfl⟩
theorem zi_X7_changed : tZI mX7_changed := ⟨tWD_i 1107 (by decide +kernel) (by decide +kernel), tWD_i 1108 (by decide +kernel) (by decide +kernel)⟩
def mX7_cone : tMS := (yX7_cone, cX7_cone, 4, (some .int), { frames := 1, cells := 0, slots := 0, locals := 21 }, 1)
theorem zv_X7_cone : tZV mX7_cone 3 := ⟨tWD_i 953 (by decide +kernel) (by decide +kernel), tWD_i 105 (by decide +kernel) (by decide +kernel), (by decide +kernel), (by decide +kernel), rfl, rfl⟩
theorem zi_X7_cone : tZI mX7_cone := ⟨tWD_i 951 (by decide +kernel) (by decide +kernel), tWD_i 952 (by decide +kernel) (by decide +kernel)⟩
def mX7_crowd : tMS := (yX7_crowd, cX7_crowd, 6, (some .int), { frames := 5, cells := 0, slots := 0, locals := 131 }, 1)
theorem zv_X7_crowd : tZV mX7_crowd 3 := ⟨tWD_i 1137 (by decide +kernel) (by decide +kernel), tWD_i 105 (by decide +kernel) (by decide +kernel), (by decide +kernel), (by decide +kernel), rfl, rfl⟩
theorem zi_X7_crowd : tZI mX7_crowd := ⟨tWD_i 1135 (by decide +kernel) (by decide +kernel), tWD_i 1136 (by decide +kernel) (by decide +kernel)⟩
def mX7_found : tMS := (yX7_found, cX7_found, 3, (some .int), { frames := 7, cells := 0, slots := 0, locals := 179 }, 1)
theorem zv_X7_found : tZV mX7_found 1 := ⟨tWD_i 1089 (by decide +kernel) (by decide +kernel), tWD_i 105 (by decide +kernel) (by decide +kernel), (by decide +kernel), (by decide +kernel), rfl, rfl⟩
theorem zi_X7_found : tZI mX7_found := ⟨tWD_i 1088 (by decide +kernel) (by decide +kernel), tWD_i 93 (by decide +kernel) (by decide +kernel)⟩
def mX7_gives : tMS := (yX7_gives, cX7_gives, 2, (some .int), { frames := 0, cells := 0, slots := 0, locals := 0 }, 1)
theorem zv_X7_gives : tZV mX7_gives 1 := ⟨tWD_i 937 (by decide +kernel) (by decide +kernel), tWD_i 105 (by decide +kernel) (by decide +kernel), (by decide +kernel), (by decide +kernel), rfl, rfl⟩
theorem zi_X7_gives : tZI mX7_gives := ⟨tWD_i 936 (by decide +kernel) (by decide +kernel), tWD_i 71 (by decide +kernel) (by decide +kernel)⟩
def mX7_ground : tMS := (yX7_ground, cX7_ground, 3, (some .int), { frames := 1, cells := 0, slots := 0, locals := 21 }, 1)
theorem zv_X7_ground : tZV mX7_ground 2 := ⟨tWD_i 941 (by decide +kernel) (by decide +kernel), tWD_i 105 (by decide +kernel) (by decide +kernel), (by decide +kernel), (by decide +kernel), rfl, rfl⟩
theorem zi_X7_ground : tZI mX7_ground := ⟨tWD_i 939 (by decide +kernel) (by decide +kernel), tWD_i 940 (by decide +kernel) (by decide +kernel)⟩
def mX7_hasBegun : tMS := (yX7_hasBegun, cX7_hasBegun, 2, (some .boolean), { frames := 1, cells := 0, slots := 0, locals := 21 }, 1)
theorem zv_X7_hasBegun : tZV mX7_hasBegun 1 := ⟨tWD_i 992 (by decide +kernel) (by decide +kernel), tWD_i 105 (by decide +kernel) (by decide +kernel), (by decide +kernel), (by decide +kernel), rfl, rfl⟩
theorem zi_X7_hasBegun : tZI mX7_hasBegun := ⟨tWD_i 991 (by decide +kernel) (by decide +kernel), tWD_i 76 (by decide +kernel) (by decide +kernel)⟩
def mX7_haveCommon : tMS := (yX7_haveCommon, cX7_haveCommon, 4, (some .boolean), { frames := 1, cells := 0, slots := 0, locals := 21 }, 1)
theorem zv_X7_haveCommon : tZV mX7_haveCommon 4 := ⟨tWD_i 1023 (by decide +kernel) (by decide +kernel), tWD_i 105 (by decide +kernel) (by decide +kernel), (by decide +kernel), (by decide +kernel), rfl, rfl⟩
theorem zs_X7_haveCommon : tWD (.static mX7_haveCommon.1) := tWD_i 1022 (by decide +kernel) (by decide +kernel)
def mX7_inOf : tMS := (yX7_inOf, cX7_inOf, 2, (some .int), { frames := 0, cells := 0, slots := 0, locals := 0 }, 1)
theorem zv_X7_inOf : tZV mX7_inOf 1 := ⟨tWD_i 996 (by decide +kernel) (by decide +kernel), tWD_i 105 (by decide +kernel) (by decide +kernel), (by decide +kernel), (by decide +kernel), rfl, rfl⟩
theorem zi_X7_inOf : tZI mX7_inOf := ⟨tWD_i 995 (by decide +kernel) (by decide +kernel), tWD_i 77 (by decide +kernel) (by decide +kernel)⟩
def mX7_isAgainst : tMS := (yX7_isAgainst, cX7_isAgainst, 2, (some .boolean), { frames := 0, cells := 0, slots := 0, locals := 0 }, 1)
theorem zv_X7_isAgainst : tZV mX7_isAgainst 1 := ⟨tWD_i 1041 (by decide +kernel) (by decide +kernel), tWD_i 105 (by decide +kernel) (by decide +kernel), (by decide +kernel), (by decide +kernel), rfl, rfl⟩
theorem zi_X7_isAgainst : tZI mX7_isAgainst := ⟨tWD_i 1040 (by decide +kernel) (by decide +kernel), tWD_i 87 (by decide +kernel) (by decide +kernel)⟩
def mX7_isNeighbour : tMS := (yX7_isNeighbour, cX7_isNeighbour, 13, (some .boolean), { frames := 2, cells := 0, slots := 0, locals := 44 }, 1)
theorem zv_X7_isNeighbour : tZV mX7_isNeighbour 5 := ⟨tWD_i 1029 (by decide +kernel) (by decide +kernel), tWD_i 105 (by decide +kernel) (by decide +kernel), (by decide +kernel), (by decide +kernel), rfl, rfl⟩
theorem zi_X7_isNeighbour : tZI mX7_isNeighbour := ⟨tWD_i 1028 (by decide +kernel) (by decide +kernel), tWD_i 84 (by decide +kernel) (by decide +kernel)⟩
def mX7_isPlanned : tMS := (yX7_isPlanned, cX7_isPlanned, 2, (some .boolean), { frames := 2, cells := 0, slots := 0, locals := 42 }, 1)
theorem zv_X7_isPlanned : tZV mX7_isPlanned 1 := ⟨tWD_i 1069 (by decide +kernel) (by decide +kernel), tWD_i 105 (by decide +kernel) (by decide +kernel), (by decide +kernel), (by decide +kernel), rfl, rfl⟩
theorem zi_X7_isPlanned : tZI mX7_isPlanned := ⟨tWD_i 1068 (by decide +kernel) (by decide +kernel), tWD_i 89 (by decide +kernel) (by decide +kernel)⟩
def mX7_isPut : tMS := (yX7_isPut, cX7_isPut, 2, (some .boolean), { frames := 0, cells := 0, slots := 0, locals := 0 }, 1)
theorem zv_X7_isPut : tZV mX7_isPut 1 := ⟨tWD_i 976 (by decide +kernel) (by decide +kernel), tWD_i 105 (by decide +kernel) (by decide +kernel), (by decide +kernel), (by decide +kernel), rfl, rfl⟩
theorem zi_X7_isPut : tZI mX7_isPut := ⟨tWD_i 975 (by decide +kernel) (by decide +kernel), tWD_i 74 (by decide +kernel) (by decide +kernel)⟩
def mX7_isSpan : tMS := (yX7_isSpan, cX7_isSpan, 2, (some .boolean), { frames := 0, cells := 0, slots := 0, locals := 0 }, 1)
theorem zv_X7_isSpan : tZV mX7_isSpan 2 := ⟨tWD_i 956 (by decide +kernel) (by decide +kernel), tWD_i 105 (by decide +kernel) (by decide +kernel), (by decide +kernel), (by decide +kernel), rfl, rfl⟩
theorem zs_X7_isSpan : tWD (.static mX7_isSpan.1) := tWD_i 955 (by decide +kernel) (by decide +kernel)
def mX7_isStand : tMS := (yX7_isStand, cX7_isStand, 2, (some .boolean), { frames := 0, cells := 0, slots := 0, locals := 0 }, 1)
theorem zv_X7_isStand : tZV mX7_isStand 1 := ⟨tWD_i 945 (by decide +kernel) (by decide +kernel), tWD_i 105 (by decide +kernel) (by decide +kernel), (by decide +kernel), (by decide +kernel), rfl, rfl⟩
theorem zi_X7_isStand : tZI mX7_isStand := ⟨tWD_i 944 (by decide +kernel) (by decide +kernel), tWD_i 72 (by decide +kernel) (by decide +kernel)⟩
def mX7_isThird : tMS := (yX7_isThird, cX7_isThird, 8, (some .boolean), { frames := 2, cells := 0, slots := 0, locals := 44 }, 1)
theorem zv_X7_isThird : tZV mX7_isThird 5 := ⟨tWD_i 1037 (by decide +kernel) (by decide +kernel), tWD_i 105 (by decide +kernel) (by decide +kernel), (by decide +kernel), (by decide +kernel), rfl, rfl⟩
theorem zi_X7_isThird : tZI mX7_isThird := ⟨tWD_i 1036 (by decide +kernel) (by decide +kernel), tWD_i 86 (by decide +kernel) (by decide +kernel)⟩
def mX7_isUnknown : tMS := (yX7_isUnknown, cX7_isUnknown, 2, (some .boolean), { frames := 0, cells := 0, slots := 0, locals := 0 }, 1)
theorem zv_X7_isUnknown : tZV mX7_isUnknown 1 := ⟨tWD_i 988 (by decide +kernel) (by decide +kernel), tWD_i 105 (by decide +kernel) (by decide +kernel), (by decide +kernel), (by decide +kernel), rfl, rfl⟩
theorem zi_X7_isUnknown : tZI mX7_isUnknown := ⟨tWD_i 987 (by decide +kernel) (by decide +kernel), tWD_i 75 (by decide +kernel) (by decide +kernel)⟩
def mX7_isVisit : tMS := (yX7_isVisit, cX7_isVisit, 2, (some .boolean), { frames := 0, cells := 0, slots := 0, locals := 0 }, 1)
theorem zv_X7_isVisit : tZV mX7_isVisit 1 := ⟨tWD_i 972 (by decide +kernel) (by decide +kernel), tWD_i 105 (by decide +kernel) (by decide +kernel), (by decide +kernel), (by decide +kernel), rfl, rfl⟩
theorem zi_X7_isVisit : tZI mX7_isVisit := ⟨tWD_i 971 (by decide +kernel) (by decide +kernel), tWD_i 73 (by decide +kernel) (by decide +kernel)⟩
def mX7_isWaiting : tMS := (yX7_isWaiting, cX7_isWaiting, 2, (some .boolean), { frames := 2, cells := 0, slots := 0, locals := 42 }, 1)
theorem zv_X7_isWaiting : tZV mX7_isWaiting 1 := ⟨tWD_i 1117 (by decide +kernel) (by decide +kernel), tWD_i 105 (by decide +kernel) (by decide +kernel), (by decide +kernel), (by decide +kernel), rfl, rfl⟩
theorem zi_X7_isWaiting : tZI mX7_isWaiting := ⟨tWD_i 1116 (by decide +kernel) (by decide +kernel), tWD_i 96 (by decide +kernel) (by decide +kernel)⟩
def mX7_kindOf : tMS := (yX7_kindOf, cX7_kindOf, 2, (some .int), { frames := 0, cells := 0, slots := 0, locals := 0 }, 1)
theorem zv_X7_kindOf : tZV mX7_kindOf 1 := ⟨tWD_i 1008 (by decide +kernel) (by decide +kernel), tWD_i 105 (by decide +kernel) (by decide +kernel), (by decide +kernel), (by decide +kernel), rfl, rfl⟩
theorem zi_X7_kindOf : tZI mX7_kindOf := ⟨tWD_i 1007 (by decide +kernel) (by decide +kernel), tWD_i 80 (by decide +kernel) (by decide +kernel)⟩
def mX7_late : tMS := (yX7_late, cX7_late, 10, (some .int), { frames := 7, cells := 0, slots := 0, locals := 182 }, 1)
theorem zv_X7_late : tZV mX7_late 2 := ⟨tWD_i 1105 (by decide +kernel) (by decide +kernel), tWD_i 105 (by decide +kernel) (by decide +kernel), (by decide +kernel), (by decide +kernel), rfl, rfl⟩
theorem zi_X7_late : tZI mX7_late := ⟨tWD_i 1103 (by decide +kernel) (by decide +kernel), tWD_i 1104 (by decide +kernel) (by decide +kernel)⟩
def mX7_lines : tMS := (yX7_lines, cX7_lines, 3, none, { frames := 1, cells := 0, slots := 0, locals := 21 }, 1)
theorem zv_X7_lines : tZV mX7_lines 1 := ⟨tWD_i 1073 (by decide +kernel) (by decide +kernel), tWD_i 105 (by decide +kernel) (by decide +kernel), (by decide +kernel), (by decide +kernel), rfl, rfl⟩
theorem zi_X7_lines : tZI mX7_lines := ⟨tWD_i 1072 (by decide +kernel) (by decide +kernel), tWD_i 90 (by decide +kernel) (by decide +kernel)⟩
def mX7_most : tMS := (yX7_most, cX7_most, 1, (some .int), { frames := 8, cells := 0, slots := 0, locals := 201 }, 1)
theorem zv_X7_most : tZV mX7_most 0 := ⟨tWD_i 1101 (by decide +kernel) (by decide +kernel), tWD_i 105 (by decide +kernel) (by decide +kernel), (by decide +kernel), (by decide +kernel), rfl, rfl⟩
theorem zi_X7_most : tZI mX7_most := ⟨tWD_i 1099 (by decide +kernel) (by decide +kernel), tWD_i 1100 (by decide +kernel) (by decide +kernel)⟩
def mX7_near : tMS := (yX7_near, cX7_near, 5, (some .int), { frames := 1, cells := 0, slots := 0, locals := 21 }, 1)
theorem zv_X7_near : tZV mX7_near 4 := ⟨tWD_i 949 (by decide +kernel) (by decide +kernel), tWD_i 105 (by decide +kernel) (by decide +kernel), (by decide +kernel), (by decide +kernel), rfl, rfl⟩
theorem zi_X7_near : tZI mX7_near := ⟨tWD_i 947 (by decide +kernel) (by decide +kernel), tWD_i 948 (by decide +kernel) (by decide +kernel)⟩
def mX7_needOf : tMS := (yX7_needOf, cX7_needOf, 2, (some .int), { frames := 0, cells := 0, slots := 0, locals := 0 }, 1)
theorem zv_X7_needOf : tZV mX7_needOf 1 := ⟨tWD_i 1016 (by decide +kernel) (by decide +kernel), tWD_i 105 (by decide +kernel) (by decide +kernel), (by decide +kernel), (by decide +kernel), rfl, rfl⟩
theorem zi_X7_needOf : tZI mX7_needOf := ⟨tWD_i 1015 (by decide +kernel) (by decide +kernel), tWD_i 82 (by decide +kernel) (by decide +kernel)⟩
def mX7_now : tMS := (yX7_now, cX7_now, 5, (some .int), { frames := 7, cells := 0, slots := 0, locals := 182 }, 1)
theorem zv_X7_now : tZV mX7_now 1 := ⟨tWD_i 1113 (by decide +kernel) (by decide +kernel), tWD_i 105 (by decide +kernel) (by decide +kernel), (by decide +kernel), (by decide +kernel), rfl, rfl⟩
theorem zi_X7_now : tZI mX7_now := ⟨tWD_i 1111 (by decide +kernel) (by decide +kernel), tWD_i 1112 (by decide +kernel) (by decide +kernel)⟩
def mX7_off : tMS := (yX7_off, cX7_off, 2, (some .boolean), { frames := 2, cells := 0, slots := 0, locals := 42 }, 1)
theorem zv_X7_off : tZV mX7_off 1 := ⟨tWD_i 1053 (by decide +kernel) (by decide +kernel), tWD_i 105 (by decide +kernel) (by decide +kernel), (by decide +kernel), (by decide +kernel), rfl, rfl⟩
theorem zi_X7_off : tZI mX7_off := ⟨tWD_i 1051 (by decide +kernel) (by decide +kernel), tWD_i 1052 (by decide +kernel) (by decide +kernel)⟩
def mX7_outOf : tMS := (yX7_outOf, cX7_outOf, 2, (some .int), { frames := 0, cells := 0, slots := 0, locals := 0 }, 1)
theorem zv_X7_outOf : tZV mX7_outOf 1 := ⟨tWD_i 1000 (by decide +kernel) (by decide +kernel), tWD_i 105 (by decide +kernel) (by decide +kernel), (by decide +kernel), (by decide +kernel), rfl, rfl⟩
theorem zi_X7_outOf : tZI mX7_outOf := ⟨tWD_i 999 (by decide +kernel) (by decide +kernel), tWD_i 78 (by decide +kernel) (by decide +kernel)⟩
def mX7_plan : tMS := (yX7_plan, cX7_plan, 5, (some .int), { frames := 7, cells := 0, slots := 0, locals := 182 }, 1)
theorem zv_X7_plan : tZV mX7_plan 0 := ⟨tWD_i 1065 (by decide +kernel) (by decide +kernel), tWD_i 105 (by decide +kernel) (by decide +kernel), (by decide +kernel), (by decide +kernel), rfl, rfl⟩
theorem zi_X7_plan : tZI mX7_plan := ⟨tWD_i 1063 (by decide +kernel) (by decide +kernel), tWD_i 1064 (by decide +kernel) (by decide +kernel)⟩
def mX7_put : tMS := (yX7_put, cX7_put, 3, (some .boolean), { frames := 6, cells := 0, slots := 0, locals := 155 }, 1)
theorem zv_X7_put : tZV mX7_put 2 := ⟨tWD_i 984 (by decide +kernel) (by decide +kernel), tWD_i 105 (by decide +kernel) (by decide +kernel), (by decide +kernel), (by decide +kernel), rfl, rfl⟩
theorem zi_X7_put : tZI mX7_put := ⟨tWD_i 982 (by decide +kernel) (by decide +kernel), tWD_i 983 (by decide +kernel) (by decide +kernel)⟩
def mX7_rank : tMS := (yX7_rank, cX7_rank, 3, (some .int), { frames := 0, cells := 0, slots := 0, locals := 0 }, 1)
theorem zv_X7_rank : tZV mX7_rank 2 := ⟨tWD_i 1081 (by decide +kernel) (by decide +kernel), tWD_i 105 (by decide +kernel) (by decide +kernel), (by decide +kernel), (by decide +kernel), rfl, rfl⟩
theorem zi_X7_rank : tZI mX7_rank := ⟨tWD_i 1080 (by decide +kernel) (by decide +kernel), tWD_i 92 (by decide +kernel) (by decide +kernel)⟩
def mX7_reason : tMS := (yX7_reason, cX7_reason, 2, (some .int), { frames := 0, cells := 0, slots := 0, locals := 0 }, 1)
theorem zv_X7_reason : tZV mX7_reason 1 := ⟨tWD_i 925 (by decide +kernel) (by decide +kernel), tWD_i 105 (by decide +kernel) (by decide +kernel), (by decide +kernel), (by decide +kernel), rfl, rfl⟩
theorem zi_X7_reason : tZI mX7_reason := ⟨tWD_i 923 (by decide +kernel) (by decide +kernel), tWD_i 924 (by decide +kernel) (by decide +kernel)⟩
def mX7_refuse : tMS := (yX7_refuse, cX7_refuse, 2, (some .int), { frames := 0, cells := 0, slots := 0, locals := 0 }, 1)
theorem zv_X7_refuse : tZV mX7_refuse 1 := ⟨tWD_i 933 (by decide +kernel) (by decide +kernel), tWD_i 105 (by decide +kernel) (by decide +kernel), (by decide +kernel), (by decide +kernel), rfl, rfl⟩
theorem zi_X7_refuse : tZI mX7_refuse := ⟨tWD_i 932 (by decide +kernel) (by decide +kernel), tWD_i 70 (by decide +kernel) (by decide +kernel)⟩
def mX7_search : tMS := (yX7_search, cX7_search, 5, (some .boolean), { frames := 6, cells := 0, slots := 0, locals := 155 }, 1)
theorem zv_X7_search : tZV mX7_search 1 := ⟨tWD_i 1093 (by decide +kernel) (by decide +kernel), tWD_i 105 (by decide +kernel) (by decide +kernel), (by decide +kernel), (by decide +kernel), rfl, rfl⟩
theorem zi_X7_search : tZI mX7_search := ⟨tWD_i 1092 (by decide +kernel) (by decide +kernel), tWD_i 94 (by decide +kernel) (by decide +kernel)⟩
def mX7_search_ : tMS := (yX7_search_, cX7_search_, 1, (some .int), { frames := 8, cells := 0, slots := 0, locals := 201 }, 1)
theorem zv_X7_search_ : tZV mX7_search_ 0 := ⟨tWD_i 1085 (by decide +kernel) (by decide +kernel), tWD_i 105 (by decide +kernel) (by decide +kernel), (by decide +kernel), (by decide +kernel), rfl, rfl⟩
theorem zi_X7_search_ : tZI mX7_search_ := ⟨tWD_i 1083 (by decide +kernel) (by decide +kernel), tWD_i 1084 (by decide +kernel) (by decide +kernel)⟩
def mX7_sets : tMS := (yX7_sets, cX7_sets, 5, none, { frames := 0, cells := 0, slots := 0, locals := 0 }, 1)
theorem zv_X7_sets : tZV mX7_sets 4 := ⟨tWD_i 1045 (by decide +kernel) (by decide +kernel), tWD_i 105 (by decide +kernel) (by decide +kernel), (by decide +kernel), (by decide +kernel), rfl, rfl⟩
theorem zi_X7_sets : tZI mX7_sets := ⟨tWD_i 1044 (by decide +kernel) (by decide +kernel), tWD_i 88 (by decide +kernel) (by decide +kernel)⟩
def mX7_stand : tMS := (yX7_stand, cX7_stand, 3, (some .int), { frames := 1, cells := 0, slots := 0, locals := 21 }, 1)
theorem zv_X7_stand : tZV mX7_stand 2 := ⟨tWD_i 929 (by decide +kernel) (by decide +kernel), tWD_i 105 (by decide +kernel) (by decide +kernel), (by decide +kernel), (by decide +kernel), rfl, rfl⟩
theorem zi_X7_stand : tZI mX7_stand := ⟨tWD_i 927 (by decide +kernel) (by decide +kernel), tWD_i 928 (by decide +kernel) (by decide +kernel)⟩
def mX7_status : tMS := (yX7_status, cX7_status, 1, (some .int), { frames := 0, cells := 0, slots := 0, locals := 0 }, 1)
theorem zv_X7_status : tZV mX7_status 0 := ⟨tWD_i 921 (by decide +kernel) (by decide +kernel), tWD_i 105 (by decide +kernel) (by decide +kernel), (by decide +kernel), (by decide +kernel), rfl, rfl⟩
theorem zi_X7_status : tZI mX7_status := ⟨tWD_i 919 (by decide +kernel) (by decide +kernel), tWD_i 920 (by decide +kernel) (by decide +kernel)⟩
def mX7_stay : tMS := (yX7_stay, cX7_stay, 5, (some .int), { frames := 1, cells := 0, slots := 0, locals := 21 }, 1)
theorem zv_X7_stay : tZV mX7_stay 3 := ⟨tWD_i 1129 (by decide +kernel) (by decide +kernel), tWD_i 105 (by decide +kernel) (by decide +kernel), (by decide +kernel), (by decide +kernel), rfl, rfl⟩
theorem zi_X7_stay : tZI mX7_stay := ⟨tWD_i 1127 (by decide +kernel) (by decide +kernel), tWD_i 1128 (by decide +kernel) (by decide +kernel)⟩
def mX7_stays : tMS := (yX7_stays, cX7_stays, 2, (some .int), { frames := 1, cells := 0, slots := 0, locals := 21 }, 1)
theorem zv_X7_stays : tZV mX7_stays 1 := ⟨tWD_i 1125 (by decide +kernel) (by decide +kernel), tWD_i 105 (by decide +kernel) (by decide +kernel), (by decide +kernel), (by decide +kernel), rfl, rfl⟩
theorem zi_X7_stays : tZI mX7_stays := ⟨tWD_i 1123 (by decide +kernel) (by decide +kernel), tWD_i 1124 (by decide +kernel) (by decide +kernel)⟩
def mX7_swap : tMS := (yX7_swap, cX7_swap, 8, (some .boolean), { frames := 6, cells := 0, slots := 0, locals := 155 }, 1)
theorem zv_X7_swap : tZV mX7_swap 2 := ⟨tWD_i 1061 (by decide +kernel) (by decide +kernel), tWD_i 105 (by decide +kernel) (by decide +kernel), (by decide +kernel), (by decide +kernel), rfl, rfl⟩
theorem zi_X7_swap : tZI mX7_swap := ⟨tWD_i 1059 (by decide +kernel) (by decide +kernel), tWD_i 1060 (by decide +kernel) (by decide +kernel)⟩
def mX7_takes : tMS := (yX7_takes, cX7_takes, 11, (some .boolean), { frames := 3, cells := 0, slots := 0, locals := 71 }, 1)
theorem zv_X7_takes : tZV mX7_takes 6 := ⟨tWD_i 1033 (by decide +kernel) (by decide +kernel), tWD_i 105 (by decide +kernel) (by decide +kernel), (by decide +kernel), (by decide +kernel), rfl, rfl⟩
theorem zi_X7_takes : tZI mX7_takes := ⟨tWD_i 1032 (by decide +kernel) (by decide +kernel), tWD_i 85 (by decide +kernel) (by decide +kernel)⟩
def mX7_tear : tMS := (yX7_tear, cX7_tear, 3, (some .boolean), { frames := 1, cells := 0, slots := 0, locals := 21 }, 1)
theorem zv_X7_tear : tZV mX7_tear 2 := ⟨tWD_i 968 (by decide +kernel) (by decide +kernel), tWD_i 105 (by decide +kernel) (by decide +kernel), (by decide +kernel), (by decide +kernel), rfl, rfl⟩
theorem zi_X7_tear : tZI mX7_tear := ⟨tWD_i 966 (by decide +kernel) (by decide +kernel), tWD_i 967 (by decide +kernel) (by decide +kernel)⟩
def mX7_told : tMS := (yX7_told, cX7_told, 3, (some .int), { frames := 1, cells := 0, slots := 0, locals := 21 }, 1)
theorem zv_X7_told : tZV mX7_told 2 := ⟨tWD_i 980 (by decide +kernel) (by decide +kernel), tWD_i 105 (by decide +kernel) (by decide +kernel), (by decide +kernel), (by decide +kernel), rfl, rfl⟩
theorem zi_X7_told : tZI mX7_told := ⟨tWD_i 978 (by decide +kernel) (by decide +kernel), tWD_i 979 (by decide +kernel) (by decide +kernel)⟩
def mX7_tow : tMS := (yX7_tow, cX7_tow, 6, (some .boolean), { frames := 6, cells := 0, slots := 0, locals := 155 }, 1)
theorem zv_X7_tow : tZV mX7_tow 3 := ⟨tWD_i 1057 (by decide +kernel) (by decide +kernel), tWD_i 105 (by decide +kernel) (by decide +kernel), (by decide +kernel), (by decide +kernel), rfl, rfl⟩
theorem zi_X7_tow : tZI mX7_tow := ⟨tWD_i 1055 (by decide +kernel) (by decide +kernel), tWD_i 1056 (by decide +kernel) (by decide +kernel)⟩
def mX7_towtime : tMS := (yX7_towtime, cX7_towtime, 3, (some .boolean), { frames := 0, cells := 0, slots := 0, locals := 0 }, 1)
theorem zv_X7_towtime : tZV mX7_towtime 1 := ⟨tWD_i 960 (by decide +kernel) (by decide +kernel), tWD_i 105 (by decide +kernel) (by decide +kernel), (by decide +kernel), (by decide +kernel), rfl, rfl⟩
theorem zi_X7_towtime : tZI mX7_towtime := ⟨tWD_i 958 (by decide +kernel) (by decide +kernel), tWD_i 959 (by decide +kernel) (by decide +kernel)⟩
def mX7_visit : tMS := (yX7_visit, cX7_visit, 7, (some .int), { frames := 1, cells := 0, slots := 0, locals := 21 }, 1)
theorem zv_X7_visit : tZV mX7_visit 5 := ⟨tWD_i 964 (by decide +kernel) (by decide +kernel), tWD_i 105 (by decide +kernel) (by decide +kernel), (by decide +kernel), (by decide +kernel), rfl, rfl⟩
theorem zi_X7_visit : tZI mX7_visit := ⟨tWD_i 962 (by decide +kernel) (by decide +kernel), tWD_i 963 (by decide +kernel) (by decide +kernel)⟩
def mX7_waiting : tMS := (yX7_waiting, cX7_waiting, 3, (some .int), { frames := 3, cells := 0, slots := 0, locals := 63 }, 1)
theorem zv_X7_waiting : tZV mX7_waiting 0 := ⟨tWD_i 1121 (by decide +kernel) (by decide +kernel), tWD_i 105 (by decide +kernel) (by decide +kernel), (by decide +kernel), (by decide +kernel), rfl, rfl⟩
theorem zi_X7_waiting : tZI mX7_waiting := ⟨tWD_i 1119 (by decide +kernel) (by decide +kernel), tWD_i 1120 (by decide +kernel) (by decide +kernel)⟩
def mX7_whole : tMS := (yX7_whole, cX7_whole, 3, none, { frames := 0, cells := 0, slots := 0, locals := 0 }, 1)
theorem zv_X7_whole : tZV mX7_whole 0 := ⟨tWD_i 1097 (by decide +kernel) (by decide +kernel), tWD_i 105 (by decide +kernel) (by decide +kernel), (by decide +kernel), (by decide +kernel), rfl, rfl⟩
theorem zi_X7_whole : tZI mX7_whole := ⟨tWD_i 1096 (by decide +kernel) (by decide +kernel), tWD_i 95 (by decide +kernel) (by decide +kernel)⟩
def mX7_why : tMS := (yX7_why, cX7_why, 5, (some .int), { frames := 6, cells := 0, slots := 0, locals := 155 }, 1)
theorem zv_X7_why : tZV mX7_why 2 := ⟨tWD_i 1049 (by decide +kernel) (by decide +kernel), tWD_i 105 (by decide +kernel) (by decide +kernel), (by decide +kernel), (by decide +kernel), rfl, rfl⟩
theorem zi_X7_why : tZI mX7_why := ⟨tWD_i 1047 (by decide +kernel) (by decide +kernel), tWD_i 1048 (by decide +kernel) (by decide +kernel)⟩
def mX7_wingOf : tMS := (yX7_wingOf, cX7_wingOf, 2, (some .int), { frames := 0, cells := 0, slots := 0, locals := 0 }, 1)
theorem zv_X7_wingOf : tZV mX7_wingOf 1 := ⟨tWD_i 1012 (by decide +kernel) (by decide +kernel), tWD_i 105 (by decide +kernel) (by decide +kernel), (by decide +kernel), (by decide +kernel), rfl, rfl⟩
theorem zi_X7_wingOf : tZI mX7_wingOf := ⟨tWD_i 1011 (by decide +kernel) (by decide +kernel), tWD_i 81 (by decide +kernel) (by decide +kernel)⟩
theorem lk_X6_70 : tLK RX6 70 mX6_isWithin := Or.inl (tWD_i 370 (by decide +kernel) (by decide +kernel))
theorem lk_X6_74 : tLK RX6 74 mX6_refuse := Or.inl (tWD_i 373 (by decide +kernel) (by decide +kernel))
theorem lk_X6_81 : tLK RX6 81 mX1_addStand := Or.inr (tWD_i 377 (by decide +kernel) (by decide +kernel))
theorem lk_X6_85 : tLK RX6 85 mX6_grant := Or.inl (tWD_i 381 (by decide +kernel) (by decide +kernel))
theorem lk_X6_88 : tLK RX6 88 mX1_hasStand := Or.inr (tWD_i 389 (by decide +kernel) (by decide +kernel))
theorem lk_X6_102 : tLK RX6 102 mX1_addPair := Or.inr (tWD_i 397 (by decide +kernel) (by decide +kernel))
theorem lk_X6_106 : tLK RX6 106 mX6_isSpan := Or.inl (tWD_i 405 (by decide +kernel) (by decide +kernel))
theorem lk_X6_113 : tLK RX6 113 mX1_addCone := Or.inr (tWD_i 408 (by decide +kernel) (by decide +kernel))
theorem lk_X6_117 : tLK RX6 117 mX6_deny := Or.inl (tWD_i 416 (by decide +kernel) (by decide +kernel))
theorem lk_X6_120 : tLK RX6 120 mX6_allow := Or.inl (tWD_i 420 (by decide +kernel) (by decide +kernel))
theorem lk_X6_127 : tLK RX6 127 mX5_add := Or.inr (tWD_i 428 (by decide +kernel) (by decide +kernel))
theorem lk_X6_131 : tLK RX6 131 mX5_has := Or.inr (tWD_i 436 (by decide +kernel) (by decide +kernel))
theorem lk_X6_137 : tLK RX6 137 mX5_isPut := Or.inr (tWD_i 440 (by decide +kernel) (by decide +kernel))
theorem lk_X6_143 : tLK RX6 143 mX6_faultOfPutting := Or.inl (tWD_i 452 (by decide +kernel) (by decide +kernel))
theorem lk_X6_146 : tLK RX6 146 mX5_inOf := Or.inr (tWD_i 473 (by decide +kernel) (by decide +kernel))
theorem lk_X6_149 : tLK RX6 149 mX5_outOf := Or.inr (tWD_i 474 (by decide +kernel) (by decide +kernel))
theorem lk_X6_152 : tLK RX6 152 mX6_isHindered := Or.inl (tWD_i 478 (by decide +kernel) (by decide +kernel))
theorem lk_X6_156 : tLK RX6 156 mX5_place := Or.inr (tWD_i 576 (by decide +kernel) (by decide +kernel))
theorem lk_X6_159 : tLK RX6 159 mX6_faultOfLooking := Or.inl (tWD_i 456 (by decide +kernel) (by decide +kernel))
theorem lk_X6_162 : tLK RX6 162 mX5_hasBegun := Or.inr (tWD_i 464 (by decide +kernel) (by decide +kernel))
theorem lk_X6_165 : tLK RX6 165 mX5_takeOff := Or.inr (tWD_i 593 (by decide +kernel) (by decide +kernel))
theorem lk_X6_169 : tLK RX6 169 mX6_faultOfTowing := Or.inl (tWD_i 601 (by decide +kernel) (by decide +kernel))
theorem lk_X6_172 : tLK RX6 172 mX5_endLastStay := Or.inr (tWD_i 607 (by decide +kernel) (by decide +kernel))
theorem lk_X6_176 : tLK RX6 176 mX5_addStay := Or.inr (tWD_i 611 (by decide +kernel) (by decide +kernel))
theorem lk_X6_180 : tLK RX6 180 mX3_empty := Or.inr (tWD_i 616 (by decide +kernel) (by decide +kernel))
theorem lk_X6_183 : tLK RX6 183 mX5_isToCome := Or.inr (tWD_i 620 (by decide +kernel) (by decide +kernel))
theorem lk_X6_186 : tLK RX6 186 mX3_joinByIn := Or.inr (tWD_i 626 (by decide +kernel) (by decide +kernel))
theorem lk_X6_193 : tLK RX6 193 mX6_serveLine := Or.inl (tWD_i 631 (by decide +kernel) (by decide +kernel))
theorem lk_X6_197 : tLK RX6 197 mX4_takeFirst := Or.inr (tWD_i 651 (by decide +kernel) (by decide +kernel))
theorem lk_X6_203 : tLK RX6 203 mX4_takeBest := Or.inr (tWD_i 683 (by decide +kernel) (by decide +kernel))
theorem lk_X6_209 : tLK RX6 209 mX0_makeRoom := Or.inr (tWD_i 703 (by decide +kernel) (by decide +kernel))
theorem lk_X6_212 : tLK RX6 212 mX6_keepReason := Or.inl (tWD_i 572 (by decide +kernel) (by decide +kernel))
theorem lk_X6_215 : tLK RX6 215 mX0_bend := Or.inr (tWD_i 725 (by decide +kernel) (by decide +kernel))
theorem lk_X6_221 : tLK RX6 221 mX3_memberAt := Or.inr (tWD_i 749 (by decide +kernel) (by decide +kernel))
theorem lk_X6_227 : tLK RX6 227 mX5_isWaiting := Or.inr (tWD_i 757 (by decide +kernel) (by decide +kernel))
theorem lk_X6_230 : tLK RX6 230 mX6_faultOfSwapping := Or.inl (tWD_i 769 (by decide +kernel) (by decide +kernel))
theorem lk_X6_233 : tLK RX6 233 mX5_standOf := Or.inr (tWD_i 605 (by decide +kernel) (by decide +kernel))
theorem lk_X6_236 : tLK RX6 236 mX2_sendAway := Or.inr (tWD_i 773 (by decide +kernel) (by decide +kernel))
theorem lk_X6_239 : tLK RX6 239 mX5_fromOf := Or.inr (tWD_i 606 (by decide +kernel) (by decide +kernel))
theorem lk_X6_242 : tLK RX6 242 mX5_endOf := Or.inr (tWD_i 774 (by decide +kernel) (by decide +kernel))
theorem lk_X6_245 : tLK RX6 245 mX2_callAllBack := Or.inr (tWD_i 775 (by decide +kernel) (by decide +kernel))
theorem lk_X6_248 : tLK RX6 248 mX5_moveFirstStay := Or.inr (tWD_i 776 (by decide +kernel) (by decide +kernel))
theorem lk_X6_254 : tLK RX6 254 mX5_isThere := Or.inr (tWD_i 792 (by decide +kernel) (by decide +kernel))
theorem lk_X6_257 : tLK RX6 257 mX1_firstCone := Or.inr (tWD_i 797 (by decide +kernel) (by decide +kernel))
theorem lk_X6_260 : tLK RX6 260 mX2_regardPlane := Or.inr (tWD_i 802 (by decide +kernel) (by decide +kernel))
theorem lk_X6_263 : tLK RX6 263 mX2_against := Or.inr (tWD_i 498 (by decide +kernel) (by decide +kernel))
theorem lk_X6_266 : tLK RX6 266 mX5_isUnknown := Or.inr (tWD_i 460 (by decide +kernel) (by decide +kernel))
theorem lk_X6_277 : tLK RX6 277 mX2_bestStand := Or.inr (tWD_i 636 (by decide +kernel) (by decide +kernel))
theorem lk_X6_280 : tLK RX6 280 mX2_regard := Or.inr (tWD_i 482 (by decide +kernel) (by decide +kernel))
theorem lk_X0_38 : tLK RX0 38 mX5_standOf := Or.inr (tWD_i 707 (by decide +kernel) (by decide +kernel))
theorem lk_X0_42 : tLK RX0 42 mX5_fromOf := Or.inr (tWD_i 708 (by decide +kernel) (by decide +kernel))
theorem lk_X0_45 : tLK RX0 45 mX2_regard := Or.inr (tWD_i 709 (by decide +kernel) (by decide +kernel))
theorem lk_X0_51 : tLK RX0 51 mX2_against := Or.inr (tWD_i 710 (by decide +kernel) (by decide +kernel))
theorem lk_X0_55 : tLK RX0 55 mX0_canGo := Or.inl (tWD_i 711 (by decide +kernel) (by decide +kernel))
theorem lk_X0_63 : tLK RX0 63 mX2_sendAway := Or.inr (tWD_i 716 (by decide +kernel) (by decide +kernel))
theorem lk_X0_66 : tLK RX0 66 mX2_callAllBack := Or.inr (tWD_i 721 (by decide +kernel) (by decide +kernel))
theorem lk_X0_69 : tLK RX0 69 mX5_hasBegun := Or.inr (tWD_i 715 (by decide +kernel) (by decide +kernel))
theorem lk_X0_72 : tLK RX0 72 mX5_makeLate := Or.inr (tWD_i 729 (by decide +kernel) (by decide +kernel))
theorem lk_X0_76 : tLK RX0 76 mX0_takeMoversOff := Or.inl (tWD_i 734 (by decide +kernel) (by decide +kernel))
theorem lk_X0_79 : tLK RX0 79 mX3_empty := Or.inr (tWD_i 738 (by decide +kernel) (by decide +kernel))
theorem lk_X0_88 : tLK RX0 88 mX5_inOf := Or.inr (tWD_i 741 (by decide +kernel) (by decide +kernel))
theorem lk_X0_92 : tLK RX0 92 mX2_bestStand := Or.inr (tWD_i 742 (by decide +kernel) (by decide +kernel))
theorem lk_X0_95 : tLK RX0 95 mX5_place := Or.inr (tWD_i 743 (by decide +kernel) (by decide +kernel))
theorem lk_X0_99 : tLK RX0 99 mX3_join := Or.inr (tWD_i 744 (by decide +kernel) (by decide +kernel))
theorem lk_X0_109 : tLK RX0 109 mX3_joinByIn := Or.inr (tWD_i 739 (by decide +kernel) (by decide +kernel))
theorem lk_X0_113 : tLK RX0 113 mX5_takeOff := Or.inr (tWD_i 740 (by decide +kernel) (by decide +kernel))
theorem lk_X1_49 : tLK RX1 49 mX6_haveCommonMinute := Or.inr (tWD_i 545 (by decide +kernel) (by decide +kernel))
theorem lk_X2_27 : tLK RX2 27 mX5_has := Or.inr (tWD_i 720 (by decide +kernel) (by decide +kernel))
theorem lk_X2_36 : tLK RX2 36 mX5_kindOf := Or.inr (tWD_i 486 (by decide +kernel) (by decide +kernel))
theorem lk_X2_43 : tLK RX2 43 mX5_wingOf := Or.inr (tWD_i 490 (by decide +kernel) (by decide +kernel))
theorem lk_X2_49 : tLK RX2 49 mX5_needOf := Or.inr (tWD_i 494 (by decide +kernel) (by decide +kernel))
theorem lk_X2_55 : tLK RX2 55 mX2_regard := Or.inl (tWD_i 640 (by decide +kernel) (by decide +kernel))
theorem lk_X2_59 : tLK RX2 59 mX5_outOf := Or.inr (tWD_i 641 (by decide +kernel) (by decide +kernel))
theorem lk_X2_80 : tLK RX2 80 mX2_against := Or.inl (tWD_i 646 (by decide +kernel) (by decide +kernel))
theorem lk_X2_84 : tLK RX2 84 mX2_isUnfit := Or.inl (tWD_i 502 (by decide +kernel) (by decide +kernel))
theorem lk_X2_88 : tLK RX2 88 mX2_firstNeighbour := Or.inl (tWD_i 513 (by decide +kernel) (by decide +kernel))
theorem lk_X2_91 : tLK RX2 91 mX1_firstCone := Or.inr (tWD_i 541 (by decide +kernel) (by decide +kernel))
theorem lk_X2_94 : tLK RX2 94 mX2_firstTaker := Or.inl (tWD_i 546 (by decide +kernel) (by decide +kernel))
theorem lk_X2_97 : tLK RX2 97 mX1_hasGate := Or.inr (tWD_i 506 (by decide +kernel) (by decide +kernel))
theorem lk_X2_100 : tLK RX2 100 mX6_haveCommonMinute := Or.inr (tWD_i 510 (by decide +kernel) (by decide +kernel))
theorem lk_X2_107 : tLK RX2 107 mX2_isOther := Or.inl (tWD_i 517 (by decide +kernel) (by decide +kernel))
theorem lk_X2_110 : tLK RX2 110 mX2_isNeighbour := Or.inl (tWD_i 521 (by decide +kernel) (by decide +kernel))
theorem lk_X2_116 : tLK RX2 116 mX5_fromOf := Or.inr (tWD_i 525 (by decide +kernel) (by decide +kernel))
theorem lk_X2_120 : tLK RX2 120 mX5_endOf := Or.inr (tWD_i 529 (by decide +kernel) (by decide +kernel))
theorem lk_X2_123 : tLK RX2 123 mX5_standOf := Or.inr (tWD_i 533 (by decide +kernel) (by decide +kernel))
theorem lk_X2_126 : tLK RX2 126 mX1_areTooNear := Or.inr (tWD_i 537 (by decide +kernel) (by decide +kernel))
theorem lk_X2_129 : tLK RX2 129 mX5_isStayAt := Or.inr (tWD_i 550 (by decide +kernel) (by decide +kernel))
theorem lk_X2_133 : tLK RX2 133 mX2_mayShare := Or.inl (tWD_i 554 (by decide +kernel) (by decide +kernel))
theorem lk_X2_137 : tLK RX2 137 mX2_isThirdThere := Or.inl (tWD_i 562 (by decide +kernel) (by decide +kernel))
theorem lk_X2_140 : tLK RX2 140 mX1_halfOf := Or.inr (tWD_i 558 (by decide +kernel) (by decide +kernel))
theorem lk_X3_19 : tLK RX3 19 mX5_inOf := Or.inr (tWD_i 630 (by decide +kernel) (by decide +kernel))
theorem lk_X4_37 : tLK RX4 37 mX4_begin := Or.inl (tWD_i 655 (by decide +kernel) (by decide +kernel))
theorem lk_X4_44 : tLK RX4 44 mX4_goToNextWhole := Or.inl (tWD_i 665 (by decide +kernel) (by decide +kernel))
theorem lk_X4_48 : tLK RX4 48 mX4_takeAllOff := Or.inl (tWD_i 675 (by decide +kernel) (by decide +kernel))
theorem lk_X4_54 : tLK RX4 54 mX4_keepIfBetter := Or.inl (tWD_i 687 (by decide +kernel) (by decide +kernel))
theorem lk_X4_57 : tLK RX4 57 mX4_putBest := Or.inl (tWD_i 695 (by decide +kernel) (by decide +kernel))
theorem lk_X4_60 : tLK RX4 60 mX3_empty := Or.inr (tWD_i 659 (by decide +kernel) (by decide +kernel))
theorem lk_X4_68 : tLK RX4 68 mX5_isToCome := Or.inr (tWD_i 660 (by decide +kernel) (by decide +kernel))
theorem lk_X4_72 : tLK RX4 72 mX3_join := Or.inr (tWD_i 661 (by decide +kernel) (by decide +kernel))
theorem lk_X4_85 : tLK RX4 85 mX5_takeOff := Or.inr (tWD_i 669 (by decide +kernel) (by decide +kernel))
theorem lk_X4_93 : tLK RX4 93 mX2_regard := Or.inr (tWD_i 670 (by decide +kernel) (by decide +kernel))
theorem lk_X4_98 : tLK RX4 98 mX5_inOf := Or.inr (tWD_i 671 (by decide +kernel) (by decide +kernel))
theorem lk_X4_102 : tLK RX4 102 mX5_outOf := Or.inr (tWD_i 672 (by decide +kernel) (by decide +kernel))
theorem lk_X4_105 : tLK RX4 105 mX2_against := Or.inr (tWD_i 673 (by decide +kernel) (by decide +kernel))
theorem lk_X4_109 : tLK RX4 109 mX5_place := Or.inr (tWD_i 674 (by decide +kernel) (by decide +kernel))
theorem lk_X4_113 : tLK RX4 113 mX1_hasGate := Or.inr (tWD_i 691 (by decide +kernel) (by decide +kernel))
theorem lk_X5_34 : tLK RX5 34 mX5_isUnknown := Or.inl (tWD_i 468 (by decide +kernel) (by decide +kernel))
theorem lk_X5_38 : tLK RX5 38 mX5_inOf := Or.inl (tWD_i 469 (by decide +kernel) (by decide +kernel))
theorem lk_X5_45 : tLK RX5 45 mX5_isPut := Or.inl (tWD_i 624 (by decide +kernel) (by decide +kernel))
theorem lk_X5_48 : tLK RX5 48 mX5_hasBegun := Or.inl (tWD_i 625 (by decide +kernel) (by decide +kernel))
theorem lk_X5_51 : tLK RX5 51 mX5_outOf := Or.inl (tWD_i 584 (by decide +kernel) (by decide +kernel))
theorem lk_X5_54 : tLK RX5 54 mX5_isStayAt := Or.inl (tWD_i 796 (by decide +kernel) (by decide +kernel))
theorem lk_X5_58 : tLK RX5 58 mX5_addStay := Or.inl (tWD_i 580 (by decide +kernel) (by decide +kernel))
theorem lk_X5_62 : tLK RX5 62 mX5_endLastStay := Or.inl (tWD_i 733 (by decide +kernel) (by decide +kernel))
theorem lk_L_13 : tLK RL 13 mX6_status := Or.inl (tWD_i 358 (by decide +kernel) (by decide +kernel))
theorem lk_L_17 : tLK RL 17 mX7_status := Or.inl (tWD_i 918 (by decide +kernel) (by decide +kernel))
theorem lk_L_18 : tLK RL 18 mX6_reason := Or.inl (tWD_i 362 (by decide +kernel) (by decide +kernel))
theorem lk_L_22 : tLK RL 22 mX7_reason := Or.inl (tWD_i 922 (by decide +kernel) (by decide +kernel))
theorem lk_L_23 : tLK RL 23 mX6_stand := Or.inl (tWD_i 366 (by decide +kernel) (by decide +kernel))
theorem lk_L_27 : tLK RL 27 mX7_stand := Or.inl (tWD_i 926 (by decide +kernel) (by decide +kernel))
theorem lk_L_28 : tLK RL 28 mX6_ground := Or.inl (tWD_i 385 (by decide +kernel) (by decide +kernel))
theorem lk_L_31 : tLK RL 31 mX7_ground := Or.inl (tWD_i 938 (by decide +kernel) (by decide +kernel))
theorem lk_L_32 : tLK RL 32 mX6_near := Or.inl (tWD_i 393 (by decide +kernel) (by decide +kernel))
theorem lk_L_36 : tLK RL 36 mX7_near := Or.inl (tWD_i 946 (by decide +kernel) (by decide +kernel))
theorem lk_L_37 : tLK RL 37 mX6_cone := Or.inl (tWD_i 401 (by decide +kernel) (by decide +kernel))
theorem lk_L_41 : tLK RL 41 mX7_cone := Or.inl (tWD_i 950 (by decide +kernel) (by decide +kernel))
theorem lk_L_42 : tLK RL 42 mX6_towtime := Or.inl (tWD_i 412 (by decide +kernel) (by decide +kernel))
theorem lk_L_46 : tLK RL 46 mX7_towtime := Or.inl (tWD_i 957 (by decide +kernel) (by decide +kernel))
theorem lk_L_47 : tLK RL 47 mX6_visit := Or.inl (tWD_i 424 (by decide +kernel) (by decide +kernel))
theorem lk_L_51 : tLK RL 51 mX7_visit := Or.inl (tWD_i 961 (by decide +kernel) (by decide +kernel))
theorem lk_L_52 : tLK RL 52 mX6_tear := Or.inl (tWD_i 432 (by decide +kernel) (by decide +kernel))
theorem lk_L_56 : tLK RL 56 mX7_tear := Or.inl (tWD_i 965 (by decide +kernel) (by decide +kernel))
theorem lk_L_57 : tLK RL 57 mX6_told := Or.inl (tWD_i 444 (by decide +kernel) (by decide +kernel))
theorem lk_L_60 : tLK RL 60 mX7_told := Or.inl (tWD_i 977 (by decide +kernel) (by decide +kernel))
theorem lk_L_61 : tLK RL 61 mX6_put := Or.inl (tWD_i 448 (by decide +kernel) (by decide +kernel))
theorem lk_L_64 : tLK RL 64 mX7_put := Or.inl (tWD_i 981 (by decide +kernel) (by decide +kernel))
theorem lk_L_65 : tLK RL 65 mX6_why := Or.inl (tWD_i 585 (by decide +kernel) (by decide +kernel))
theorem lk_L_68 : tLK RL 68 mX7_why := Or.inl (tWD_i 1046 (by decide +kernel) (by decide +kernel))
theorem lk_L_69 : tLK RL 69 mX6_off := Or.inl (tWD_i 589 (by decide +kernel) (by decide +kernel))
theorem lk_L_72 : tLK RL 72 mX7_off := Or.inl (tWD_i 1050 (by decide +kernel) (by decide +kernel))
theorem lk_L_73 : tLK RL 73 mX6_tow := Or.inl (tWD_i 597 (by decide +kernel) (by decide +kernel))
theorem lk_L_77 : tLK RL 77 mX7_tow := Or.inl (tWD_i 1054 (by decide +kernel) (by decide +kernel))
theorem lk_L_78 : tLK RL 78 mX6_plan := Or.inl (tWD_i 612 (by decide +kernel) (by decide +kernel))
theorem lk_L_81 : tLK RL 81 mX7_plan := Or.inl (tWD_i 1062 (by decide +kernel) (by decide +kernel))
theorem lk_L_82 : tLK RL 82 mX6_search := Or.inl (tWD_i 647 (by decide +kernel) (by decide +kernel))
theorem lk_L_85 : tLK RL 85 mX7_search_ := Or.inl (tWD_i 1082 (by decide +kernel) (by decide +kernel))
theorem lk_L_86 : tLK RL 86 mX6_most := Or.inl (tWD_i 679 (by decide +kernel) (by decide +kernel))
theorem lk_L_89 : tLK RL 89 mX7_most := Or.inl (tWD_i 1098 (by decide +kernel) (by decide +kernel))
theorem lk_L_90 : tLK RL 90 mX6_late := Or.inl (tWD_i 699 (by decide +kernel) (by decide +kernel))
theorem lk_L_93 : tLK RL 93 mX7_late := Or.inl (tWD_i 1102 (by decide +kernel) (by decide +kernel))
theorem lk_L_94 : tLK RL 94 mX6_changed := Or.inl (tWD_i 745 (by decide +kernel) (by decide +kernel))
theorem lk_L_97 : tLK RL 97 mX7_changed := Or.inl (tWD_i 1106 (by decide +kernel) (by decide +kernel))
theorem lk_L_98 : tLK RL 98 mX6_now := Or.inl (tWD_i 753 (by decide +kernel) (by decide +kernel))
theorem lk_L_101 : tLK RL 101 mX7_now := Or.inl (tWD_i 1110 (by decide +kernel) (by decide +kernel))
theorem lk_L_102 : tLK RL 102 mX6_waiting := Or.inl (tWD_i 761 (by decide +kernel) (by decide +kernel))
theorem lk_L_105 : tLK RL 105 mX7_waiting := Or.inl (tWD_i 1118 (by decide +kernel) (by decide +kernel))
theorem lk_L_106 : tLK RL 106 mX6_swap := Or.inl (tWD_i 765 (by decide +kernel) (by decide +kernel))
theorem lk_L_109 : tLK RL 109 mX7_swap := Or.inl (tWD_i 1058 (by decide +kernel) (by decide +kernel))
theorem lk_L_110 : tLK RL 110 mX6_stays := Or.inl (tWD_i 780 (by decide +kernel) (by decide +kernel))
theorem lk_L_113 : tLK RL 113 mX7_stays := Or.inl (tWD_i 1122 (by decide +kernel) (by decide +kernel))
theorem lk_L_114 : tLK RL 114 mX6_stay := Or.inl (tWD_i 784 (by decide +kernel) (by decide +kernel))
theorem lk_L_117 : tLK RL 117 mX7_stay := Or.inl (tWD_i 1126 (by decide +kernel) (by decide +kernel))
theorem lk_L_118 : tLK RL 118 mX6_at := Or.inl (tWD_i 788 (by decide +kernel) (by decide +kernel))
theorem lk_L_121 : tLK RL 121 mX7_at := Or.inl (tWD_i 1130 (by decide +kernel) (by decide +kernel))
theorem lk_L_122 : tLK RL 122 mX6_crowd := Or.inl (tWD_i 798 (by decide +kernel) (by decide +kernel))
theorem lk_L_125 : tLK RL 125 mX7_crowd := Or.inl (tWD_i 1134 (by decide +kernel) (by decide +kernel))
theorem lk_X7_92 : tLK RX7 92 mX7_refuse := Or.inl (tWD_i 930 (by decide +kernel) (by decide +kernel))
theorem lk_X7_96 : tLK RX7 96 mX7_gives := Or.inl (tWD_i 934 (by decide +kernel) (by decide +kernel))
theorem lk_X7_99 : tLK RX7 99 mX7_isStand := Or.inl (tWD_i 942 (by decide +kernel) (by decide +kernel))
theorem lk_X7_106 : tLK RX7 106 mX7_isSpan := Or.inl (tWD_i 954 (by decide +kernel) (by decide +kernel))
theorem lk_X7_113 : tLK RX7 113 mX7_isVisit := Or.inl (tWD_i 969 (by decide +kernel) (by decide +kernel))
theorem lk_X7_116 : tLK RX7 116 mX7_isPut := Or.inl (tWD_i 973 (by decide +kernel) (by decide +kernel))
theorem lk_X7_119 : tLK RX7 119 mX7_inOf := Or.inl (tWD_i 993 (by decide +kernel) (by decide +kernel))
theorem lk_X7_137 : tLK RX7 137 mX7_haveCommon := Or.inl (tWD_i 1021 (by decide +kernel) (by decide +kernel))
theorem lk_X7_141 : tLK RX7 141 mX7_isNeighbour := Or.inl (tWD_i 1026 (by decide +kernel) (by decide +kernel))
theorem lk_X7_145 : tLK RX7 145 mX7_takes := Or.inl (tWD_i 1030 (by decide +kernel) (by decide +kernel))
theorem lk_X7_149 : tLK RX7 149 mX7_wingOf := Or.inl (tWD_i 1009 (by decide +kernel) (by decide +kernel))
theorem lk_X7_152 : tLK RX7 152 mX7_isThird := Or.inl (tWD_i 1034 (by decide +kernel) (by decide +kernel))
theorem lk_X7_155 : tLK RX7 155 mX7_kindOf := Or.inl (tWD_i 1005 (by decide +kernel) (by decide +kernel))
theorem lk_X7_158 : tLK RX7 158 mX7_needOf := Or.inl (tWD_i 1013 (by decide +kernel) (by decide +kernel))
theorem lk_X7_161 : tLK RX7 161 mX7_against := Or.inl (tWD_i 1017 (by decide +kernel) (by decide +kernel))
theorem lk_X7_165 : tLK RX7 165 mX7_againstOf := Or.inl (tWD_i 1001 (by decide +kernel) (by decide +kernel))
theorem lk_X7_169 : tLK RX7 169 mX7_rank := Or.inl (tWD_i 1078 (by decide +kernel) (by decide +kernel))
theorem lk_X7_172 : tLK RX7 172 mX7_isUnknown := Or.inl (tWD_i 985 (by decide +kernel) (by decide +kernel))
theorem lk_X7_175 : tLK RX7 175 mX7_hasBegun := Or.inl (tWD_i 989 (by decide +kernel) (by decide +kernel))
theorem lk_X7_178 : tLK RX7 178 mX7_outOf := Or.inl (tWD_i 997 (by decide +kernel) (by decide +kernel))
theorem lk_X7_181 : tLK RX7 181 mX7_isAgainst := Or.inl (tWD_i 1038 (by decide +kernel) (by decide +kernel))
theorem lk_X7_184 : tLK RX7 184 mX7_sets := Or.inl (tWD_i 1042 (by decide +kernel) (by decide +kernel))
theorem lk_X7_191 : tLK RX7 191 mX7_isPlanned := Or.inl (tWD_i 1066 (by decide +kernel) (by decide +kernel))
theorem lk_X7_194 : tLK RX7 194 mX7_lines := Or.inl (tWD_i 1070 (by decide +kernel) (by decide +kernel))
theorem lk_X7_198 : tLK RX7 198 mX7_bestOf := Or.inl (tWD_i 1074 (by decide +kernel) (by decide +kernel))
theorem lk_X7_208 : tLK RX7 208 mX7_whole := Or.inl (tWD_i 1094 (by decide +kernel) (by decide +kernel))
theorem lk_X7_211 : tLK RX7 211 mX7_search := Or.inl (tWD_i 1090 (by decide +kernel) (by decide +kernel))
theorem lk_X7_215 : tLK RX7 215 mX7_found := Or.inl (tWD_i 1086 (by decide +kernel) (by decide +kernel))
theorem lk_X7_222 : tLK RX7 222 mX7_isWaiting := Or.inl (tWD_i 1114 (by decide +kernel) (by decide +kernel))
theorem wm_max_c : tWD (.code Lib.Math.max.name Lib.Math.max.code 2 (some .int)) := tWD_i 568 (by decide +kernel) (by decide +kernel)
theorem wm_max_s : tWD (.static Lib.Math.max.name) := tWD_i 567 (by decide +kernel) (by decide +kernel)
theorem wm_min_c : tWD (.code Lib.Math.min.name Lib.Math.min.code 2 (some .int)) := tWD_i 571 (by decide +kernel) (by decide +kernel)
theorem wm_min_s : tWD (.static Lib.Math.min.name) := tWD_i 570 (by decide +kernel) (by decide +kernel)
theorem wm_i : tWD (.initialized "java/lang/Math") := tWD_i 106 (by decide +kernel) (by decide +kernel)
theorem lm_X6_272 : tWD (.methodLink RX6 272 Lib.Math.max.name) := tWD_i 635 (by decide +kernel) (by decide +kernel)
theorem lm_X2_143 : tWD (.methodLink RX2 143 Lib.Math.max.name) := tWD_i 566 (by decide +kernel) (by decide +kernel)
theorem lm_X2_148 : tWD (.methodLink RX2 148 Lib.Math.min.name) := tWD_i 569 (by decide +kernel) (by decide +kernel)
theorem la_X4_116 : tWD (.methodLink RX4 116 arraycopyName) := tWD_i 692 (by decide +kernel) (by decide +kernel)
theorem lm_X7_125 : tWD (.methodLink RX7 125 Lib.Math.max.name) := tWD_i 1024 (by decide +kernel) (by decide +kernel)
theorem lm_X7_131 : tWD (.methodLink RX7 131 Lib.Math.min.name) := tWD_i 1025 (by decide +kernel) (by decide +kernel)
theorem wa_n : tWD (.native arraycopyName) := tWD_i 694 (by decide +kernel) (by decide +kernel)
theorem wa_s : tWD (.static arraycopyName) := tWD_i 693 (by decide +kernel) (by decide +kernel)
theorem wa_i : tWD (.initialized "java/lang/System") := tWD_i 107 (by decide +kernel) (by decide +kernel)
