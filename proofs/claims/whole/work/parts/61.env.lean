/-! the standing objects: their kinds, lengths, references, by labels 0 to 115 -/
def kT : List Nat := [10, 8, 6, 13, 6, 13, 6, 13, 6, 13, 6, 13, 6, 13, 6, 13, 6, 13, 6, 13, 6, 13, 16, 8, 6, 13, 6, 13, 6, 13, 6, 13, 6, 13, 6, 13, 6, 13, 6, 13, 6, 13, 6, 13, 16, 2, 13, 6, 13, 13, 3, 6, 13, 6, 13, 6, 13, 0, 13, 13, 3, 6, 13, 6, 13, 6, 13, 0, 13, 13, 1, 6, 13, 9, 13, 13, 13, 13, 13, 13, 5, 13, 13, 13, 13, 4, 14, 11, 13, 13, 12, 13, 13, 13, 13, 15, 13, 15, 13, 13, 13, 15, 15, 13, 13, 13, 15, 13, 13, 13, 13, 13, 13, 14, 14, 14]
def nT : List Nat := [0, 0, 0, 36, 0, 70, 0, 240, 0, 30, 0, 20, 0, 60, 0, 30, 0, 24, 0, 60, 0, 12, 4, 0, 0, 36, 0, 70, 0, 240, 0, 30, 0, 20, 0, 60, 0, 30, 0, 24, 0, 60, 0, 12, 4, 0, 400, 0, 50, 400, 0, 0, 36, 0, 20, 0, 10, 0, 9, 24, 0, 0, 36, 0, 20, 0, 10, 0, 9, 24, 0, 0, 40, 0, 7, 7, 7, 7, 7, 4, 0, 10, 10, 10, 10, 0, 256, 0, 4851, 4000, 400, 5, 9, 400, 40, 12, 12, 144, 10, 10, 10, 40, 40, 10, 10, 10, 40, 10, 10, 10, 10, 10, 10, 256, 256, 1]
def rT : List (List (Nat × Nat)) := [[(0, 1), (1, 23), (3, 45), (5, 50), (6, 60), (7, 70), (8, 73), (9, 80), (10, 85)], [(1, 2), (2, 4), (3, 6), (4, 8), (5, 10), (6, 12), (7, 14), (8, 16), (9, 18), (10, 20), (11, 22)], [(2, 3)], [], [(2, 5)], [], [(2, 7)], [], [(2, 9)], [], [(2, 11)], [], [(2, 13)], [], [(2, 15)], [], [(2, 17)], [], [(2, 19)], [], [(2, 21)], [], [], [(1, 24), (2, 26), (3, 28), (4, 30), (5, 32), (6, 34), (7, 36), (8, 38), (9, 40), (10, 42), (11, 44)], [(2, 25)], [], [(2, 27)], [], [(2, 29)], [], [(2, 31)], [], [(2, 33)], [], [(2, 35)], [], [(2, 37)], [], [(2, 39)], [], [(2, 41)], [], [(2, 43)], [], [], [(0, 46), (7, 47), (8, 49)], [], [(2, 48)], [], [], [(0, 1), (5, 51), (6, 53), (7, 55), (8, 57)], [(2, 52)], [], [(2, 54)], [], [(2, 56)], [], [(0, 58), (1, 59)], [], [], [(0, 1), (5, 61), (6, 63), (7, 65), (8, 67)], [(2, 62)], [], [(2, 64)], [], [(2, 66)], [], [(0, 68), (1, 69)], [], [], [(0, 1), (1, 50), (2, 71)], [(2, 72)], [], [(0, 74), (1, 75), (2, 76), (3, 77), (4, 78), (5, 79)], [], [], [], [], [], [], [(0, 1), (1, 81), (2, 82), (3, 83), (4, 84)], [], [], [], [], [(0, 1), (1, 50), (2, 86)], [], [(1, 88), (2, 89), (4, 90), (11, 91), (14, 92), (15, 93), (16, 94), (18, 95), (19, 96), (20, 97), (21, 98), (22, 99), (23, 100), (24, 101), (25, 102), (26, 103), (27, 104), (28, 105), (30, 106), (31, 107), (32, 108), (34, 109), (35, 110), (36, 111), (37, 112), (38, 113), (39, 114)], [], [], [], [], [], [], [], [], [], [], [], [], [], [], [], [], [], [], [], [], [], [], [], [], [], [], [], []]
def Env (σ : Nat → Nat) (E : En) : Prop :=
  (∀ i j, i < 116 → j < 116 → σ i = σ j → i = j) ∧ (∀ i, i < 116 → σ i ∈ eL E ∧ eT E (σ i) = kT.getD i 0 ∧ eN E (σ i) = nT.getD i 0) ∧ (∀ i, i < 116 → ∀ q ∈ rT.getD i [], eR E (σ i) q.1 = some (σ q.2))
section
variable {σ : Nat → Nat} {E : En}
theorem Env_O (h : Env σ E) {i ci : Nat} (hi : i < 116) (hk : kT.getD i 0 = ci) (hc : ci < 12) : okO E (σ i) ci := ⟨(h.2.1 i hi).1, hk ▸ (h.2.1 i hi).2.1, hc⟩
theorem Env_A (h : Env σ E) {i t : Nat} (hi : i < 116) (hk : kT.getD i 0 = t) (hc : 12 ≤ t) : okA E (σ i) t := ⟨(h.2.1 i hi).1, hk ▸ (h.2.1 i hi).2.1, hc⟩
theorem Env_N (h : Env σ E) {i n : Nat} (hi : i < 116) (hk : nT.getD i 0 = n) : eN E (σ i) = n := hk ▸ (h.2.1 i hi).2.2
theorem Env_R (h : Env σ E) {i k j : Nat} (hi : i < 116) (hk : (k, j) ∈ rT.getD i []) : eR E (σ i) k = some (σ j) := h.2.2 i hi _ hk
theorem Env_ne (h : Env σ E) {i j : Nat} (hi : i < 116) (hj : j < 116) (hn : i ≠ j) : σ i ≠ σ j := fun e => hn (h.1 i j hi hj e)
theorem eo_0 (h : Env σ E) : okO E (σ 0) 10 := Env_O h (by decide) rfl (by decide)
theorem er_0_0 (h : Env σ E) : eR E (σ 0) 0 = some (σ 1) := Env_R h (by decide) (by decide)
theorem er_0_1 (h : Env σ E) : eR E (σ 0) 1 = some (σ 23) := Env_R h (by decide) (by decide)
theorem er_0_3 (h : Env σ E) : eR E (σ 0) 3 = some (σ 45) := Env_R h (by decide) (by decide)
theorem er_0_5 (h : Env σ E) : eR E (σ 0) 5 = some (σ 50) := Env_R h (by decide) (by decide)
theorem er_0_6 (h : Env σ E) : eR E (σ 0) 6 = some (σ 60) := Env_R h (by decide) (by decide)
theorem er_0_7 (h : Env σ E) : eR E (σ 0) 7 = some (σ 70) := Env_R h (by decide) (by decide)
theorem er_0_8 (h : Env σ E) : eR E (σ 0) 8 = some (σ 73) := Env_R h (by decide) (by decide)
theorem er_0_9 (h : Env σ E) : eR E (σ 0) 9 = some (σ 80) := Env_R h (by decide) (by decide)
theorem er_0_10 (h : Env σ E) : eR E (σ 0) 10 = some (σ 85) := Env_R h (by decide) (by decide)
theorem eo_1 (h : Env σ E) : okO E (σ 1) 8 := Env_O h (by decide) rfl (by decide)
theorem er_1_1 (h : Env σ E) : eR E (σ 1) 1 = some (σ 2) := Env_R h (by decide) (by decide)
theorem er_1_2 (h : Env σ E) : eR E (σ 1) 2 = some (σ 4) := Env_R h (by decide) (by decide)
theorem er_1_3 (h : Env σ E) : eR E (σ 1) 3 = some (σ 6) := Env_R h (by decide) (by decide)
theorem er_1_4 (h : Env σ E) : eR E (σ 1) 4 = some (σ 8) := Env_R h (by decide) (by decide)
theorem er_1_5 (h : Env σ E) : eR E (σ 1) 5 = some (σ 10) := Env_R h (by decide) (by decide)
theorem er_1_6 (h : Env σ E) : eR E (σ 1) 6 = some (σ 12) := Env_R h (by decide) (by decide)
theorem er_1_7 (h : Env σ E) : eR E (σ 1) 7 = some (σ 14) := Env_R h (by decide) (by decide)
theorem er_1_8 (h : Env σ E) : eR E (σ 1) 8 = some (σ 16) := Env_R h (by decide) (by decide)
theorem er_1_9 (h : Env σ E) : eR E (σ 1) 9 = some (σ 18) := Env_R h (by decide) (by decide)
theorem er_1_10 (h : Env σ E) : eR E (σ 1) 10 = some (σ 20) := Env_R h (by decide) (by decide)
theorem er_1_11 (h : Env σ E) : eR E (σ 1) 11 = some (σ 22) := Env_R h (by decide) (by decide)
theorem eo_2 (h : Env σ E) : okO E (σ 2) 6 := Env_O h (by decide) rfl (by decide)
theorem er_2_2 (h : Env σ E) : eR E (σ 2) 2 = some (σ 3) := Env_R h (by decide) (by decide)
theorem eo_3 (h : Env σ E) : okA E (σ 3) 13 := Env_A h (by decide) rfl (by decide)
theorem en_3 (h : Env σ E) : eN E (σ 3) = 36 := Env_N h (by decide) rfl
theorem eo_4 (h : Env σ E) : okO E (σ 4) 6 := Env_O h (by decide) rfl (by decide)
theorem er_4_2 (h : Env σ E) : eR E (σ 4) 2 = some (σ 5) := Env_R h (by decide) (by decide)
theorem eo_5 (h : Env σ E) : okA E (σ 5) 13 := Env_A h (by decide) rfl (by decide)
theorem en_5 (h : Env σ E) : eN E (σ 5) = 70 := Env_N h (by decide) rfl
theorem eo_6 (h : Env σ E) : okO E (σ 6) 6 := Env_O h (by decide) rfl (by decide)
theorem er_6_2 (h : Env σ E) : eR E (σ 6) 2 = some (σ 7) := Env_R h (by decide) (by decide)
theorem eo_7 (h : Env σ E) : okA E (σ 7) 13 := Env_A h (by decide) rfl (by decide)
theorem en_7 (h : Env σ E) : eN E (σ 7) = 240 := Env_N h (by decide) rfl
theorem eo_8 (h : Env σ E) : okO E (σ 8) 6 := Env_O h (by decide) rfl (by decide)
theorem er_8_2 (h : Env σ E) : eR E (σ 8) 2 = some (σ 9) := Env_R h (by decide) (by decide)
theorem eo_9 (h : Env σ E) : okA E (σ 9) 13 := Env_A h (by decide) rfl (by decide)
theorem en_9 (h : Env σ E) : eN E (σ 9) = 30 := Env_N h (by decide) rfl
theorem eo_10 (h : Env σ E) : okO E (σ 10) 6 := Env_O h (by decide) rfl (by decide)
theorem er_10_2 (h : Env σ E) : eR E (σ 10) 2 = some (σ 11) := Env_R h (by decide) (by decide)
theorem eo_11 (h : Env σ E) : okA E (σ 11) 13 := Env_A h (by decide) rfl (by decide)
theorem en_11 (h : Env σ E) : eN E (σ 11) = 20 := Env_N h (by decide) rfl
theorem eo_12 (h : Env σ E) : okO E (σ 12) 6 := Env_O h (by decide) rfl (by decide)
theorem er_12_2 (h : Env σ E) : eR E (σ 12) 2 = some (σ 13) := Env_R h (by decide) (by decide)
theorem eo_13 (h : Env σ E) : okA E (σ 13) 13 := Env_A h (by decide) rfl (by decide)
theorem en_13 (h : Env σ E) : eN E (σ 13) = 60 := Env_N h (by decide) rfl
theorem eo_14 (h : Env σ E) : okO E (σ 14) 6 := Env_O h (by decide) rfl (by decide)
theorem er_14_2 (h : Env σ E) : eR E (σ 14) 2 = some (σ 15) := Env_R h (by decide) (by decide)
theorem eo_15 (h : Env σ E) : okA E (σ 15) 13 := Env_A h (by decide) rfl (by decide)
theorem en_15 (h : Env σ E) : eN E (σ 15) = 30 := Env_N h (by decide) rfl
theorem eo_16 (h : Env σ E) : okO E (σ 16) 6 := Env_O h (by decide) rfl (by decide)
theorem er_16_2 (h : Env σ E) : eR E (σ 16) 2 = some (σ 17) := Env_R h (by decide) (by decide)
theorem eo_17 (h : Env σ E) : okA E (σ 17) 13 := Env_A h (by decide) rfl (by decide)
theorem en_17 (h : Env σ E) : eN E (σ 17) = 24 := Env_N h (by decide) rfl
theorem eo_18 (h : Env σ E) : okO E (σ 18) 6 := Env_O h (by decide) rfl (by decide)
theorem er_18_2 (h : Env σ E) : eR E (σ 18) 2 = some (σ 19) := Env_R h (by decide) (by decide)
theorem eo_19 (h : Env σ E) : okA E (σ 19) 13 := Env_A h (by decide) rfl (by decide)
theorem en_19 (h : Env σ E) : eN E (σ 19) = 60 := Env_N h (by decide) rfl
theorem eo_20 (h : Env σ E) : okO E (σ 20) 6 := Env_O h (by decide) rfl (by decide)
theorem er_20_2 (h : Env σ E) : eR E (σ 20) 2 = some (σ 21) := Env_R h (by decide) (by decide)
theorem eo_21 (h : Env σ E) : okA E (σ 21) 13 := Env_A h (by decide) rfl (by decide)
theorem en_21 (h : Env σ E) : eN E (σ 21) = 12 := Env_N h (by decide) rfl
theorem eo_22 (h : Env σ E) : okA E (σ 22) 16 := Env_A h (by decide) rfl (by decide)
theorem en_22 (h : Env σ E) : eN E (σ 22) = 4 := Env_N h (by decide) rfl
theorem eo_23 (h : Env σ E) : okO E (σ 23) 8 := Env_O h (by decide) rfl (by decide)
theorem er_23_1 (h : Env σ E) : eR E (σ 23) 1 = some (σ 24) := Env_R h (by decide) (by decide)
theorem er_23_2 (h : Env σ E) : eR E (σ 23) 2 = some (σ 26) := Env_R h (by decide) (by decide)
theorem er_23_3 (h : Env σ E) : eR E (σ 23) 3 = some (σ 28) := Env_R h (by decide) (by decide)
theorem er_23_4 (h : Env σ E) : eR E (σ 23) 4 = some (σ 30) := Env_R h (by decide) (by decide)
theorem er_23_5 (h : Env σ E) : eR E (σ 23) 5 = some (σ 32) := Env_R h (by decide) (by decide)
theorem er_23_6 (h : Env σ E) : eR E (σ 23) 6 = some (σ 34) := Env_R h (by decide) (by decide)
theorem er_23_7 (h : Env σ E) : eR E (σ 23) 7 = some (σ 36) := Env_R h (by decide) (by decide)
theorem er_23_8 (h : Env σ E) : eR E (σ 23) 8 = some (σ 38) := Env_R h (by decide) (by decide)
theorem er_23_9 (h : Env σ E) : eR E (σ 23) 9 = some (σ 40) := Env_R h (by decide) (by decide)
theorem er_23_10 (h : Env σ E) : eR E (σ 23) 10 = some (σ 42) := Env_R h (by decide) (by decide)
theorem er_23_11 (h : Env σ E) : eR E (σ 23) 11 = some (σ 44) := Env_R h (by decide) (by decide)
theorem eo_24 (h : Env σ E) : okO E (σ 24) 6 := Env_O h (by decide) rfl (by decide)
theorem er_24_2 (h : Env σ E) : eR E (σ 24) 2 = some (σ 25) := Env_R h (by decide) (by decide)
theorem eo_25 (h : Env σ E) : okA E (σ 25) 13 := Env_A h (by decide) rfl (by decide)
theorem en_25 (h : Env σ E) : eN E (σ 25) = 36 := Env_N h (by decide) rfl
theorem eo_26 (h : Env σ E) : okO E (σ 26) 6 := Env_O h (by decide) rfl (by decide)
theorem er_26_2 (h : Env σ E) : eR E (σ 26) 2 = some (σ 27) := Env_R h (by decide) (by decide)
theorem eo_27 (h : Env σ E) : okA E (σ 27) 13 := Env_A h (by decide) rfl (by decide)
theorem en_27 (h : Env σ E) : eN E (σ 27) = 70 := Env_N h (by decide) rfl
theorem eo_28 (h : Env σ E) : okO E (σ 28) 6 := Env_O h (by decide) rfl (by decide)
theorem er_28_2 (h : Env σ E) : eR E (σ 28) 2 = some (σ 29) := Env_R h (by decide) (by decide)
theorem eo_29 (h : Env σ E) : okA E (σ 29) 13 := Env_A h (by decide) rfl (by decide)
theorem en_29 (h : Env σ E) : eN E (σ 29) = 240 := Env_N h (by decide) rfl
theorem eo_30 (h : Env σ E) : okO E (σ 30) 6 := Env_O h (by decide) rfl (by decide)
theorem er_30_2 (h : Env σ E) : eR E (σ 30) 2 = some (σ 31) := Env_R h (by decide) (by decide)
theorem eo_31 (h : Env σ E) : okA E (σ 31) 13 := Env_A h (by decide) rfl (by decide)
theorem en_31 (h : Env σ E) : eN E (σ 31) = 30 := Env_N h (by decide) rfl
theorem eo_32 (h : Env σ E) : okO E (σ 32) 6 := Env_O h (by decide) rfl (by decide)
theorem er_32_2 (h : Env σ E) : eR E (σ 32) 2 = some (σ 33) := Env_R h (by decide) (by decide)
theorem eo_33 (h : Env σ E) : okA E (σ 33) 13 := Env_A h (by decide) rfl (by decide)
theorem en_33 (h : Env σ E) : eN E (σ 33) = 20 := Env_N h (by decide) rfl
theorem eo_34 (h : Env σ E) : okO E (σ 34) 6 := Env_O h (by decide) rfl (by decide)
theorem er_34_2 (h : Env σ E) : eR E (σ 34) 2 = some (σ 35) := Env_R h (by decide) (by decide)
theorem eo_35 (h : Env σ E) : okA E (σ 35) 13 := Env_A h (by decide) rfl (by decide)
theorem en_35 (h : Env σ E) : eN E (σ 35) = 60 := Env_N h (by decide) rfl
theorem eo_36 (h : Env σ E) : okO E (σ 36) 6 := Env_O h (by decide) rfl (by decide)
theorem er_36_2 (h : Env σ E) : eR E (σ 36) 2 = some (σ 37) := Env_R h (by decide) (by decide)
theorem eo_37 (h : Env σ E) : okA E (σ 37) 13 := Env_A h (by decide) rfl (by decide)
theorem en_37 (h : Env σ E) : eN E (σ 37) = 30 := Env_N h (by decide) rfl
theorem eo_38 (h : Env σ E) : okO E (σ 38) 6 := Env_O h (by decide) rfl (by decide)
theorem er_38_2 (h : Env σ E) : eR E (σ 38) 2 = some (σ 39) := Env_R h (by decide) (by decide)
theorem eo_39 (h : Env σ E) : okA E (σ 39) 13 := Env_A h (by decide) rfl (by decide)
theorem en_39 (h : Env σ E) : eN E (σ 39) = 24 := Env_N h (by decide) rfl
theorem eo_40 (h : Env σ E) : okO E (σ 40) 6 := Env_O h (by decide) rfl (by decide)
theorem er_40_2 (h : Env σ E) : eR E (σ 40) 2 = some (σ 41) := Env_R h (by decide) (by decide)
theorem eo_41 (h : Env σ E) : okA E (σ 41) 13 := Env_A h (by decide) rfl (by decide)
theorem en_41 (h : Env σ E) : eN E (σ 41) = 60 := Env_N h (by decide) rfl
theorem eo_42 (h : Env σ E) : okO E (σ 42) 6 := Env_O h (by decide) rfl (by decide)
theorem er_42_2 (h : Env σ E) : eR E (σ 42) 2 = some (σ 43) := Env_R h (by decide) (by decide)
theorem eo_43 (h : Env σ E) : okA E (σ 43) 13 := Env_A h (by decide) rfl (by decide)
theorem en_43 (h : Env σ E) : eN E (σ 43) = 12 := Env_N h (by decide) rfl
theorem eo_44 (h : Env σ E) : okA E (σ 44) 16 := Env_A h (by decide) rfl (by decide)
theorem en_44 (h : Env σ E) : eN E (σ 44) = 4 := Env_N h (by decide) rfl
theorem eo_45 (h : Env σ E) : okO E (σ 45) 2 := Env_O h (by decide) rfl (by decide)
theorem er_45_0 (h : Env σ E) : eR E (σ 45) 0 = some (σ 46) := Env_R h (by decide) (by decide)
theorem er_45_7 (h : Env σ E) : eR E (σ 45) 7 = some (σ 47) := Env_R h (by decide) (by decide)
theorem er_45_8 (h : Env σ E) : eR E (σ 45) 8 = some (σ 49) := Env_R h (by decide) (by decide)
theorem eo_46 (h : Env σ E) : okA E (σ 46) 13 := Env_A h (by decide) rfl (by decide)
theorem en_46 (h : Env σ E) : eN E (σ 46) = 400 := Env_N h (by decide) rfl
theorem eo_47 (h : Env σ E) : okO E (σ 47) 6 := Env_O h (by decide) rfl (by decide)
theorem er_47_2 (h : Env σ E) : eR E (σ 47) 2 = some (σ 48) := Env_R h (by decide) (by decide)
theorem eo_48 (h : Env σ E) : okA E (σ 48) 13 := Env_A h (by decide) rfl (by decide)
theorem en_48 (h : Env σ E) : eN E (σ 48) = 50 := Env_N h (by decide) rfl
theorem eo_49 (h : Env σ E) : okA E (σ 49) 13 := Env_A h (by decide) rfl (by decide)
theorem en_49 (h : Env σ E) : eN E (σ 49) = 400 := Env_N h (by decide) rfl
theorem eo_50 (h : Env σ E) : okO E (σ 50) 3 := Env_O h (by decide) rfl (by decide)
theorem er_50_0 (h : Env σ E) : eR E (σ 50) 0 = some (σ 1) := Env_R h (by decide) (by decide)
theorem er_50_5 (h : Env σ E) : eR E (σ 50) 5 = some (σ 51) := Env_R h (by decide) (by decide)
theorem er_50_6 (h : Env σ E) : eR E (σ 50) 6 = some (σ 53) := Env_R h (by decide) (by decide)
theorem er_50_7 (h : Env σ E) : eR E (σ 50) 7 = some (σ 55) := Env_R h (by decide) (by decide)
theorem er_50_8 (h : Env σ E) : eR E (σ 50) 8 = some (σ 57) := Env_R h (by decide) (by decide)
theorem eo_51 (h : Env σ E) : okO E (σ 51) 6 := Env_O h (by decide) rfl (by decide)
theorem er_51_2 (h : Env σ E) : eR E (σ 51) 2 = some (σ 52) := Env_R h (by decide) (by decide)
theorem eo_52 (h : Env σ E) : okA E (σ 52) 13 := Env_A h (by decide) rfl (by decide)
theorem en_52 (h : Env σ E) : eN E (σ 52) = 36 := Env_N h (by decide) rfl
theorem eo_53 (h : Env σ E) : okO E (σ 53) 6 := Env_O h (by decide) rfl (by decide)
theorem er_53_2 (h : Env σ E) : eR E (σ 53) 2 = some (σ 54) := Env_R h (by decide) (by decide)
theorem eo_54 (h : Env σ E) : okA E (σ 54) 13 := Env_A h (by decide) rfl (by decide)
theorem en_54 (h : Env σ E) : eN E (σ 54) = 20 := Env_N h (by decide) rfl
theorem eo_55 (h : Env σ E) : okO E (σ 55) 6 := Env_O h (by decide) rfl (by decide)
theorem er_55_2 (h : Env σ E) : eR E (σ 55) 2 = some (σ 56) := Env_R h (by decide) (by decide)
theorem eo_56 (h : Env σ E) : okA E (σ 56) 13 := Env_A h (by decide) rfl (by decide)
theorem en_56 (h : Env σ E) : eN E (σ 56) = 10 := Env_N h (by decide) rfl
theorem eo_57 (h : Env σ E) : okO E (σ 57) 0 := Env_O h (by decide) rfl (by decide)
theorem er_57_0 (h : Env σ E) : eR E (σ 57) 0 = some (σ 58) := Env_R h (by decide) (by decide)
theorem er_57_1 (h : Env σ E) : eR E (σ 57) 1 = some (σ 59) := Env_R h (by decide) (by decide)
theorem eo_58 (h : Env σ E) : okA E (σ 58) 13 := Env_A h (by decide) rfl (by decide)
theorem en_58 (h : Env σ E) : eN E (σ 58) = 9 := Env_N h (by decide) rfl
theorem eo_59 (h : Env σ E) : okA E (σ 59) 13 := Env_A h (by decide) rfl (by decide)
theorem en_59 (h : Env σ E) : eN E (σ 59) = 24 := Env_N h (by decide) rfl
theorem eo_60 (h : Env σ E) : okO E (σ 60) 3 := Env_O h (by decide) rfl (by decide)
theorem er_60_0 (h : Env σ E) : eR E (σ 60) 0 = some (σ 1) := Env_R h (by decide) (by decide)
theorem er_60_5 (h : Env σ E) : eR E (σ 60) 5 = some (σ 61) := Env_R h (by decide) (by decide)
theorem er_60_6 (h : Env σ E) : eR E (σ 60) 6 = some (σ 63) := Env_R h (by decide) (by decide)
theorem er_60_7 (h : Env σ E) : eR E (σ 60) 7 = some (σ 65) := Env_R h (by decide) (by decide)
theorem er_60_8 (h : Env σ E) : eR E (σ 60) 8 = some (σ 67) := Env_R h (by decide) (by decide)
theorem eo_61 (h : Env σ E) : okO E (σ 61) 6 := Env_O h (by decide) rfl (by decide)
theorem er_61_2 (h : Env σ E) : eR E (σ 61) 2 = some (σ 62) := Env_R h (by decide) (by decide)
theorem eo_62 (h : Env σ E) : okA E (σ 62) 13 := Env_A h (by decide) rfl (by decide)
theorem en_62 (h : Env σ E) : eN E (σ 62) = 36 := Env_N h (by decide) rfl
theorem eo_63 (h : Env σ E) : okO E (σ 63) 6 := Env_O h (by decide) rfl (by decide)
theorem er_63_2 (h : Env σ E) : eR E (σ 63) 2 = some (σ 64) := Env_R h (by decide) (by decide)
theorem eo_64 (h : Env σ E) : okA E (σ 64) 13 := Env_A h (by decide) rfl (by decide)
theorem en_64 (h : Env σ E) : eN E (σ 64) = 20 := Env_N h (by decide) rfl
theorem eo_65 (h : Env σ E) : okO E (σ 65) 6 := Env_O h (by decide) rfl (by decide)
theorem er_65_2 (h : Env σ E) : eR E (σ 65) 2 = some (σ 66) := Env_R h (by decide) (by decide)
theorem eo_66 (h : Env σ E) : okA E (σ 66) 13 := Env_A h (by decide) rfl (by decide)
theorem en_66 (h : Env σ E) : eN E (σ 66) = 10 := Env_N h (by decide) rfl
theorem eo_67 (h : Env σ E) : okO E (σ 67) 0 := Env_O h (by decide) rfl (by decide)
theorem er_67_0 (h : Env σ E) : eR E (σ 67) 0 = some (σ 68) := Env_R h (by decide) (by decide)
theorem er_67_1 (h : Env σ E) : eR E (σ 67) 1 = some (σ 69) := Env_R h (by decide) (by decide)
theorem eo_68 (h : Env σ E) : okA E (σ 68) 13 := Env_A h (by decide) rfl (by decide)
theorem en_68 (h : Env σ E) : eN E (σ 68) = 9 := Env_N h (by decide) rfl
theorem eo_69 (h : Env σ E) : okA E (σ 69) 13 := Env_A h (by decide) rfl (by decide)
theorem en_69 (h : Env σ E) : eN E (σ 69) = 24 := Env_N h (by decide) rfl
theorem eo_70 (h : Env σ E) : okO E (σ 70) 1 := Env_O h (by decide) rfl (by decide)
theorem er_70_0 (h : Env σ E) : eR E (σ 70) 0 = some (σ 1) := Env_R h (by decide) (by decide)
theorem er_70_1 (h : Env σ E) : eR E (σ 70) 1 = some (σ 50) := Env_R h (by decide) (by decide)
theorem er_70_2 (h : Env σ E) : eR E (σ 70) 2 = some (σ 71) := Env_R h (by decide) (by decide)
theorem eo_71 (h : Env σ E) : okO E (σ 71) 6 := Env_O h (by decide) rfl (by decide)
theorem er_71_2 (h : Env σ E) : eR E (σ 71) 2 = some (σ 72) := Env_R h (by decide) (by decide)
theorem eo_72 (h : Env σ E) : okA E (σ 72) 13 := Env_A h (by decide) rfl (by decide)
theorem en_72 (h : Env σ E) : eN E (σ 72) = 40 := Env_N h (by decide) rfl
theorem eo_73 (h : Env σ E) : okO E (σ 73) 9 := Env_O h (by decide) rfl (by decide)
theorem er_73_0 (h : Env σ E) : eR E (σ 73) 0 = some (σ 74) := Env_R h (by decide) (by decide)
theorem er_73_1 (h : Env σ E) : eR E (σ 73) 1 = some (σ 75) := Env_R h (by decide) (by decide)
theorem er_73_2 (h : Env σ E) : eR E (σ 73) 2 = some (σ 76) := Env_R h (by decide) (by decide)
theorem er_73_3 (h : Env σ E) : eR E (σ 73) 3 = some (σ 77) := Env_R h (by decide) (by decide)
theorem er_73_4 (h : Env σ E) : eR E (σ 73) 4 = some (σ 78) := Env_R h (by decide) (by decide)
theorem er_73_5 (h : Env σ E) : eR E (σ 73) 5 = some (σ 79) := Env_R h (by decide) (by decide)
theorem eo_74 (h : Env σ E) : okA E (σ 74) 13 := Env_A h (by decide) rfl (by decide)
theorem en_74 (h : Env σ E) : eN E (σ 74) = 7 := Env_N h (by decide) rfl
theorem eo_75 (h : Env σ E) : okA E (σ 75) 13 := Env_A h (by decide) rfl (by decide)
theorem en_75 (h : Env σ E) : eN E (σ 75) = 7 := Env_N h (by decide) rfl
theorem eo_76 (h : Env σ E) : okA E (σ 76) 13 := Env_A h (by decide) rfl (by decide)
theorem en_76 (h : Env σ E) : eN E (σ 76) = 7 := Env_N h (by decide) rfl
theorem eo_77 (h : Env σ E) : okA E (σ 77) 13 := Env_A h (by decide) rfl (by decide)
theorem en_77 (h : Env σ E) : eN E (σ 77) = 7 := Env_N h (by decide) rfl
theorem eo_78 (h : Env σ E) : okA E (σ 78) 13 := Env_A h (by decide) rfl (by decide)
theorem en_78 (h : Env σ E) : eN E (σ 78) = 7 := Env_N h (by decide) rfl
theorem eo_79 (h : Env σ E) : okA E (σ 79) 13 := Env_A h (by decide) rfl (by decide)
theorem en_79 (h : Env σ E) : eN E (σ 79) = 4 := Env_N h (by decide) rfl
theorem eo_80 (h : Env σ E) : okO E (σ 80) 5 := Env_O h (by decide) rfl (by decide)
theorem er_80_0 (h : Env σ E) : eR E (σ 80) 0 = some (σ 1) := Env_R h (by decide) (by decide)
theorem er_80_1 (h : Env σ E) : eR E (σ 80) 1 = some (σ 81) := Env_R h (by decide) (by decide)
theorem er_80_2 (h : Env σ E) : eR E (σ 80) 2 = some (σ 82) := Env_R h (by decide) (by decide)
theorem er_80_3 (h : Env σ E) : eR E (σ 80) 3 = some (σ 83) := Env_R h (by decide) (by decide)
theorem er_80_4 (h : Env σ E) : eR E (σ 80) 4 = some (σ 84) := Env_R h (by decide) (by decide)
theorem eo_81 (h : Env σ E) : okA E (σ 81) 13 := Env_A h (by decide) rfl (by decide)
theorem en_81 (h : Env σ E) : eN E (σ 81) = 10 := Env_N h (by decide) rfl
theorem eo_82 (h : Env σ E) : okA E (σ 82) 13 := Env_A h (by decide) rfl (by decide)
theorem en_82 (h : Env σ E) : eN E (σ 82) = 10 := Env_N h (by decide) rfl
theorem eo_83 (h : Env σ E) : okA E (σ 83) 13 := Env_A h (by decide) rfl (by decide)
theorem en_83 (h : Env σ E) : eN E (σ 83) = 10 := Env_N h (by decide) rfl
theorem eo_84 (h : Env σ E) : okA E (σ 84) 13 := Env_A h (by decide) rfl (by decide)
theorem en_84 (h : Env σ E) : eN E (σ 84) = 10 := Env_N h (by decide) rfl
theorem eo_85 (h : Env σ E) : okO E (σ 85) 4 := Env_O h (by decide) rfl (by decide)
theorem er_85_0 (h : Env σ E) : eR E (σ 85) 0 = some (σ 1) := Env_R h (by decide) (by decide)
theorem er_85_1 (h : Env σ E) : eR E (σ 85) 1 = some (σ 50) := Env_R h (by decide) (by decide)
theorem er_85_2 (h : Env σ E) : eR E (σ 85) 2 = some (σ 86) := Env_R h (by decide) (by decide)
theorem eo_86 (h : Env σ E) : okA E (σ 86) 14 := Env_A h (by decide) rfl (by decide)
theorem en_86 (h : Env σ E) : eN E (σ 86) = 256 := Env_N h (by decide) rfl
theorem eo_87 (h : Env σ E) : okO E (σ 87) 11 := Env_O h (by decide) rfl (by decide)
theorem er_87_1 (h : Env σ E) : eR E (σ 87) 1 = some (σ 88) := Env_R h (by decide) (by decide)
theorem er_87_2 (h : Env σ E) : eR E (σ 87) 2 = some (σ 89) := Env_R h (by decide) (by decide)
theorem er_87_4 (h : Env σ E) : eR E (σ 87) 4 = some (σ 90) := Env_R h (by decide) (by decide)
theorem er_87_11 (h : Env σ E) : eR E (σ 87) 11 = some (σ 91) := Env_R h (by decide) (by decide)
theorem er_87_14 (h : Env σ E) : eR E (σ 87) 14 = some (σ 92) := Env_R h (by decide) (by decide)
theorem er_87_15 (h : Env σ E) : eR E (σ 87) 15 = some (σ 93) := Env_R h (by decide) (by decide)
theorem er_87_16 (h : Env σ E) : eR E (σ 87) 16 = some (σ 94) := Env_R h (by decide) (by decide)
theorem er_87_18 (h : Env σ E) : eR E (σ 87) 18 = some (σ 95) := Env_R h (by decide) (by decide)
theorem er_87_19 (h : Env σ E) : eR E (σ 87) 19 = some (σ 96) := Env_R h (by decide) (by decide)
theorem er_87_20 (h : Env σ E) : eR E (σ 87) 20 = some (σ 97) := Env_R h (by decide) (by decide)
theorem er_87_21 (h : Env σ E) : eR E (σ 87) 21 = some (σ 98) := Env_R h (by decide) (by decide)
theorem er_87_22 (h : Env σ E) : eR E (σ 87) 22 = some (σ 99) := Env_R h (by decide) (by decide)
theorem er_87_23 (h : Env σ E) : eR E (σ 87) 23 = some (σ 100) := Env_R h (by decide) (by decide)
theorem er_87_24 (h : Env σ E) : eR E (σ 87) 24 = some (σ 101) := Env_R h (by decide) (by decide)
theorem er_87_25 (h : Env σ E) : eR E (σ 87) 25 = some (σ 102) := Env_R h (by decide) (by decide)
theorem er_87_26 (h : Env σ E) : eR E (σ 87) 26 = some (σ 103) := Env_R h (by decide) (by decide)
theorem er_87_27 (h : Env σ E) : eR E (σ 87) 27 = some (σ 104) := Env_R h (by decide) (by decide)
theorem er_87_28 (h : Env σ E) : eR E (σ 87) 28 = some (σ 105) := Env_R h (by decide) (by decide)
theorem er_87_30 (h : Env σ E) : eR E (σ 87) 30 = some (σ 106) := Env_R h (by decide) (by decide)
theorem er_87_31 (h : Env σ E) : eR E (σ 87) 31 = some (σ 107) := Env_R h (by decide) (by decide)
theorem er_87_32 (h : Env σ E) : eR E (σ 87) 32 = some (σ 108) := Env_R h (by decide) (by decide)
theorem er_87_34 (h : Env σ E) : eR E (σ 87) 34 = some (σ 109) := Env_R h (by decide) (by decide)
theorem er_87_35 (h : Env σ E) : eR E (σ 87) 35 = some (σ 110) := Env_R h (by decide) (by decide)
theorem er_87_36 (h : Env σ E) : eR E (σ 87) 36 = some (σ 111) := Env_R h (by decide) (by decide)
theorem er_87_37 (h : Env σ E) : eR E (σ 87) 37 = some (σ 112) := Env_R h (by decide) (by decide)
theorem er_87_38 (h : Env σ E) : eR E (σ 87) 38 = some (σ 113) := Env_R h (by decide) (by decide)
theorem er_87_39 (h : Env σ E) : eR E (σ 87) 39 = some (σ 114) := Env_R h (by decide) (by decide)
theorem eo_88 (h : Env σ E) : okA E (σ 88) 13 := Env_A h (by decide) rfl (by decide)
theorem en_88 (h : Env σ E) : eN E (σ 88) = 4851 := Env_N h (by decide) rfl
theorem eo_89 (h : Env σ E) : okA E (σ 89) 13 := Env_A h (by decide) rfl (by decide)
theorem en_89 (h : Env σ E) : eN E (σ 89) = 4000 := Env_N h (by decide) rfl
theorem eo_90 (h : Env σ E) : okA E (σ 90) 12 := Env_A h (by decide) rfl (by decide)
theorem en_90 (h : Env σ E) : eN E (σ 90) = 400 := Env_N h (by decide) rfl
theorem eo_91 (h : Env σ E) : okA E (σ 91) 13 := Env_A h (by decide) rfl (by decide)
theorem en_91 (h : Env σ E) : eN E (σ 91) = 5 := Env_N h (by decide) rfl
theorem eo_92 (h : Env σ E) : okA E (σ 92) 13 := Env_A h (by decide) rfl (by decide)
theorem en_92 (h : Env σ E) : eN E (σ 92) = 9 := Env_N h (by decide) rfl
theorem eo_93 (h : Env σ E) : okA E (σ 93) 13 := Env_A h (by decide) rfl (by decide)
theorem en_93 (h : Env σ E) : eN E (σ 93) = 400 := Env_N h (by decide) rfl
theorem eo_94 (h : Env σ E) : okA E (σ 94) 13 := Env_A h (by decide) rfl (by decide)
theorem en_94 (h : Env σ E) : eN E (σ 94) = 40 := Env_N h (by decide) rfl
theorem eo_95 (h : Env σ E) : okA E (σ 95) 15 := Env_A h (by decide) rfl (by decide)
theorem en_95 (h : Env σ E) : eN E (σ 95) = 12 := Env_N h (by decide) rfl
theorem eo_96 (h : Env σ E) : okA E (σ 96) 13 := Env_A h (by decide) rfl (by decide)
theorem en_96 (h : Env σ E) : eN E (σ 96) = 12 := Env_N h (by decide) rfl
theorem eo_97 (h : Env σ E) : okA E (σ 97) 15 := Env_A h (by decide) rfl (by decide)
theorem en_97 (h : Env σ E) : eN E (σ 97) = 144 := Env_N h (by decide) rfl
theorem eo_98 (h : Env σ E) : okA E (σ 98) 13 := Env_A h (by decide) rfl (by decide)
theorem en_98 (h : Env σ E) : eN E (σ 98) = 10 := Env_N h (by decide) rfl
theorem eo_99 (h : Env σ E) : okA E (σ 99) 13 := Env_A h (by decide) rfl (by decide)
theorem en_99 (h : Env σ E) : eN E (σ 99) = 10 := Env_N h (by decide) rfl
theorem eo_100 (h : Env σ E) : okA E (σ 100) 13 := Env_A h (by decide) rfl (by decide)
theorem en_100 (h : Env σ E) : eN E (σ 100) = 10 := Env_N h (by decide) rfl
theorem eo_101 (h : Env σ E) : okA E (σ 101) 15 := Env_A h (by decide) rfl (by decide)
theorem en_101 (h : Env σ E) : eN E (σ 101) = 40 := Env_N h (by decide) rfl
theorem eo_102 (h : Env σ E) : okA E (σ 102) 15 := Env_A h (by decide) rfl (by decide)
theorem en_102 (h : Env σ E) : eN E (σ 102) = 40 := Env_N h (by decide) rfl
theorem eo_103 (h : Env σ E) : okA E (σ 103) 13 := Env_A h (by decide) rfl (by decide)
theorem en_103 (h : Env σ E) : eN E (σ 103) = 10 := Env_N h (by decide) rfl
theorem eo_104 (h : Env σ E) : okA E (σ 104) 13 := Env_A h (by decide) rfl (by decide)
theorem en_104 (h : Env σ E) : eN E (σ 104) = 10 := Env_N h (by decide) rfl
theorem eo_105 (h : Env σ E) : okA E (σ 105) 13 := Env_A h (by decide) rfl (by decide)
theorem en_105 (h : Env σ E) : eN E (σ 105) = 10 := Env_N h (by decide) rfl
theorem eo_106 (h : Env σ E) : okA E (σ 106) 15 := Env_A h (by decide) rfl (by decide)
theorem en_106 (h : Env σ E) : eN E (σ 106) = 40 := Env_N h (by decide) rfl
theorem eo_107 (h : Env σ E) : okA E (σ 107) 13 := Env_A h (by decide) rfl (by decide)
theorem en_107 (h : Env σ E) : eN E (σ 107) = 10 := Env_N h (by decide) rfl
theorem eo_108 (h : Env σ E) : okA E (σ 108) 13 := Env_A h (by decide) rfl (by decide)
theorem en_108 (h : Env σ E) : eN E (σ 108) = 10 := Env_N h (by decide) rfl
theorem eo_109 (h : Env σ E) : okA E (σ 109) 13 := Env_A h (by decide) rfl (by decide)
theorem en_109 (h : Env σ E) : eN E (σ 109) = 10 := Env_N h (by decide) rfl
theorem eo_110 (h : Env σ E) : okA E (σ 110) 13 := Env_A h (by decide) rfl (by decide)
theorem en_110 (h : Env σ E) : eN E (σ 110) = 10 := Env_N h (by decide) rfl
theorem eo_111 (h : Env σ E) : okA E (σ 111) 13 := Env_A h (by decide) rfl (by decide)
theorem en_111 (h : Env σ E) : eN E (σ 111) = 10 := Env_N h (by decide) rfl
theorem eo_112 (h : Env σ E) : okA E (σ 112) 13 := Env_A h (by decide) rfl (by decide)
theorem en_112 (h : Env σ E) : eN E (σ 112) = 10 := Env_N h (by decide) rfl
theorem eo_113 (h : Env σ E) : okA E (σ 113) 14 := Env_A h (by decide) rfl (by decide)
theorem en_113 (h : Env σ E) : eN E (σ 113) = 256 := Env_N h (by decide) rfl
theorem eo_114 (h : Env σ E) : okA E (σ 114) 14 := Env_A h (by decide) rfl (by decide)
theorem en_114 (h : Env σ E) : eN E (σ 114) = 256 := Env_N h (by decide) rfl
theorem eo_115 (h : Env σ E) : okA E (σ 115) 14 := Env_A h (by decide) rfl (by decide)
theorem en_115 (h : Env σ E) : eN E (σ 115) = 1 := Env_N h (by decide) rfl
end
