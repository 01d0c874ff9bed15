/-! the pure layer: references resolved by labels -/
section
variable {σ : Nat → Nat} {E : En}
theorem xgA {a k b t : Nat} {P : Nat → Prop} (h1 : eR E a k = some b) (h2 : okA E b t) : (∃ c, eR E a k = some c ∧ okA E c t ∧ P c) ↔ P b := ⟨fun ⟨c, e, _, p⟩ => by rw [h1] at e; cases e; exact p, fun p => ⟨b, h1, h2, p⟩⟩
theorem xgO {a k b t : Nat} {P : Nat → Prop} (h1 : eR E a k = some b) (h2 : okO E b t) : (∃ c, eR E a k = some c ∧ okO E c t ∧ P c) ↔ P b := ⟨fun ⟨c, e, _, p⟩ => by rw [h1] at e; cases e; exact p, fun p => ⟨b, h1, h2, p⟩⟩
theorem x_0_0 (h : Env σ E) {P : Nat → Prop} : (∃ c, eR E (σ 0) 0 = some c ∧ okO E c 8 ∧ P c) ↔ P (σ 1) := xgO (er_0_0 h) (eo_1 h)
theorem x_0_1 (h : Env σ E) {P : Nat → Prop} : (∃ c, eR E (σ 0) 1 = some c ∧ okO E c 8 ∧ P c) ↔ P (σ 23) := xgO (er_0_1 h) (eo_23 h)
theorem x_0_3 (h : Env σ E) {P : Nat → Prop} : (∃ c, eR E (σ 0) 3 = some c ∧ okO E c 2 ∧ P c) ↔ P (σ 45) := xgO (er_0_3 h) (eo_45 h)
theorem x_0_5 (h : Env σ E) {P : Nat → Prop} : (∃ c, eR E (σ 0) 5 = some c ∧ okO E c 3 ∧ P c) ↔ P (σ 50) := xgO (er_0_5 h) (eo_50 h)
theorem x_0_6 (h : Env σ E) {P : Nat → Prop} : (∃ c, eR E (σ 0) 6 = some c ∧ okO E c 3 ∧ P c) ↔ P (σ 60) := xgO (er_0_6 h) (eo_60 h)
theorem x_0_7 (h : Env σ E) {P : Nat → Prop} : (∃ c, eR E (σ 0) 7 = some c ∧ okO E c 1 ∧ P c) ↔ P (σ 70) := xgO (er_0_7 h) (eo_70 h)
theorem x_0_8 (h : Env σ E) {P : Nat → Prop} : (∃ c, eR E (σ 0) 8 = some c ∧ okO E c 9 ∧ P c) ↔ P (σ 73) := xgO (er_0_8 h) (eo_73 h)
theorem x_0_9 (h : Env σ E) {P : Nat → Prop} : (∃ c, eR E (σ 0) 9 = some c ∧ okO E c 5 ∧ P c) ↔ P (σ 80) := xgO (er_0_9 h) (eo_80 h)
theorem x_0_10 (h : Env σ E) {P : Nat → Prop} : (∃ c, eR E (σ 0) 10 = some c ∧ okO E c 4 ∧ P c) ↔ P (σ 85) := xgO (er_0_10 h) (eo_85 h)
theorem x_1_1 (h : Env σ E) {P : Nat → Prop} : (∃ c, eR E (σ 1) 1 = some c ∧ okO E c 6 ∧ P c) ↔ P (σ 2) := xgO (er_1_1 h) (eo_2 h)
theorem x_1_2 (h : Env σ E) {P : Nat → Prop} : (∃ c, eR E (σ 1) 2 = some c ∧ okO E c 6 ∧ P c) ↔ P (σ 4) := xgO (er_1_2 h) (eo_4 h)
theorem x_1_3 (h : Env σ E) {P : Nat → Prop} : (∃ c, eR E (σ 1) 3 = some c ∧ okO E c 6 ∧ P c) ↔ P (σ 6) := xgO (er_1_3 h) (eo_6 h)
theorem x_1_4 (h : Env σ E) {P : Nat → Prop} : (∃ c, eR E (σ 1) 4 = some c ∧ okO E c 6 ∧ P c) ↔ P (σ 8) := xgO (er_1_4 h) (eo_8 h)
theorem x_1_5 (h : Env σ E) {P : Nat → Prop} : (∃ c, eR E (σ 1) 5 = some c ∧ okO E c 6 ∧ P c) ↔ P (σ 10) := xgO (er_1_5 h) (eo_10 h)
theorem x_1_6 (h : Env σ E) {P : Nat → Prop} : (∃ c, eR E (σ 1) 6 = some c ∧ okO E c 6 ∧ P c) ↔ P (σ 12) := xgO (er_1_6 h) (eo_12 h)
theorem x_1_7 (h : Env σ E) {P : Nat → Prop} : (∃ c, eR E (σ 1) 7 = some c ∧ okO E c 6 ∧ P c) ↔ P (σ 14) := xgO (er_1_7 h) (eo_14 h)
theorem x_1_8 (h : Env σ E) {P : Nat → Prop} : (∃ c, eR E (σ 1) 8 = some c ∧ okO E c 6 ∧ P c) ↔ P (σ 16) := xgO (er_1_8 h) (eo_16 h)
theorem x_1_9 (h : Env σ E) {P : Nat → Prop} : (∃ c, eR E (σ 1) 9 = some c ∧ okO E c 6 ∧ P c) ↔ P (σ 18) := xgO (er_1_9 h) (eo_18 h)
theorem x_1_10 (h : Env σ E) {P : Nat → Prop} : (∃ c, eR E (σ 1) 10 = some c ∧ okO E c 6 ∧ P c) ↔ P (σ 20) := xgO (er_1_10 h) (eo_20 h)
theorem x_1_11 (h : Env σ E) {P : Nat → Prop} : (∃ c, eR E (σ 1) 11 = some c ∧ okA E c 16 ∧ P c) ↔ P (σ 22) := xgA (er_1_11 h) (eo_22 h)
theorem x_2_2 (h : Env σ E) {P : Nat → Prop} : (∃ c, eR E (σ 2) 2 = some c ∧ okA E c 13 ∧ P c) ↔ P (σ 3) := xgA (er_2_2 h) (eo_3 h)
theorem x_4_2 (h : Env σ E) {P : Nat → Prop} : (∃ c, eR E (σ 4) 2 = some c ∧ okA E c 13 ∧ P c) ↔ P (σ 5) := xgA (er_4_2 h) (eo_5 h)
theorem x_6_2 (h : Env σ E) {P : Nat → Prop} : (∃ c, eR E (σ 6) 2 = some c ∧ okA E c 13 ∧ P c) ↔ P (σ 7) := xgA (er_6_2 h) (eo_7 h)
theorem x_8_2 (h : Env σ E) {P : Nat → Prop} : (∃ c, eR E (σ 8) 2 = some c ∧ okA E c 13 ∧ P c) ↔ P (σ 9) := xgA (er_8_2 h) (eo_9 h)
theorem x_10_2 (h : Env σ E) {P : Nat → Prop} : (∃ c, eR E (σ 10) 2 = some c ∧ okA E c 13 ∧ P c) ↔ P (σ 11) := xgA (er_10_2 h) (eo_11 h)
theorem x_12_2 (h : Env σ E) {P : Nat → Prop} : (∃ c, eR E (σ 12) 2 = some c ∧ okA E c 13 ∧ P c) ↔ P (σ 13) := xgA (er_12_2 h) (eo_13 h)
theorem x_14_2 (h : Env σ E) {P : Nat → Prop} : (∃ c, eR E (σ 14) 2 = some c ∧ okA E c 13 ∧ P c) ↔ P (σ 15) := xgA (er_14_2 h) (eo_15 h)
theorem x_16_2 (h : Env σ E) {P : Nat → Prop} : (∃ c, eR E (σ 16) 2 = some c ∧ okA E c 13 ∧ P c) ↔ P (σ 17) := xgA (er_16_2 h) (eo_17 h)
theorem x_18_2 (h : Env σ E) {P : Nat → Prop} : (∃ c, eR E (σ 18) 2 = some c ∧ okA E c 13 ∧ P c) ↔ P (σ 19) := xgA (er_18_2 h) (eo_19 h)
theorem x_20_2 (h : Env σ E) {P : Nat → Prop} : (∃ c, eR E (σ 20) 2 = some c ∧ okA E c 13 ∧ P c) ↔ P (σ 21) := xgA (er_20_2 h) (eo_21 h)
theorem x_23_1 (h : Env σ E) {P : Nat → Prop} : (∃ c, eR E (σ 23) 1 = some c ∧ okO E c 6 ∧ P c) ↔ P (σ 24) := xgO (er_23_1 h) (eo_24 h)
theorem x_23_2 (h : Env σ E) {P : Nat → Prop} : (∃ c, eR E (σ 23) 2 = some c ∧ okO E c 6 ∧ P c) ↔ P (σ 26) := xgO (er_23_2 h) (eo_26 h)
theorem x_23_3 (h : Env σ E) {P : Nat → Prop} : (∃ c, eR E (σ 23) 3 = some c ∧ okO E c 6 ∧ P c) ↔ P (σ 28) := xgO (er_23_3 h) (eo_28 h)
theorem x_23_4 (h : Env σ E) {P : Nat → Prop} : (∃ c, eR E (σ 23) 4 = some c ∧ okO E c 6 ∧ P c) ↔ P (σ 30) := xgO (er_23_4 h) (eo_30 h)
theorem x_23_5 (h : Env σ E) {P : Nat → Prop} : (∃ c, eR E (σ 23) 5 = some c ∧ okO E c 6 ∧ P c) ↔ P (σ 32) := xgO (er_23_5 h) (eo_32 h)
theorem x_23_6 (h : Env σ E) {P : Nat → Prop} : (∃ c, eR E (σ 23) 6 = some c ∧ okO E c 6 ∧ P c) ↔ P (σ 34) := xgO (er_23_6 h) (eo_34 h)
theorem x_23_7 (h : Env σ E) {P : Nat → Prop} : (∃ c, eR E (σ 23) 7 = some c ∧ okO E c 6 ∧ P c) ↔ P (σ 36) := xgO (er_23_7 h) (eo_36 h)
theorem x_23_8 (h : Env σ E) {P : Nat → Prop} : (∃ c, eR E (σ 23) 8 = some c ∧ okO E c 6 ∧ P c) ↔ P (σ 38) := xgO (er_23_8 h) (eo_38 h)
theorem x_23_9 (h : Env σ E) {P : Nat → Prop} : (∃ c, eR E (σ 23) 9 = some c ∧ okO E c 6 ∧ P c) ↔ P (σ 40) := xgO (er_23_9 h) (eo_40 h)
theorem x_23_10 (h : Env σ E) {P : Nat → Prop} : (∃ c, eR E (σ 23) 10 = some c ∧ okO E c 6 ∧ P c) ↔ P (σ 42) := xgO (er_23_10 h) (eo_42 h)
theorem x_23_11 (h : Env σ E) {P : Nat → Prop} : (∃ c, eR E (σ 23) 11 = some c ∧ okA E c 16 ∧ P c) ↔ P (σ 44) := xgA (er_23_11 h) (eo_44 h)
theorem x_24_2 (h : Env σ E) {P : Nat → Prop} : (∃ c, eR E (σ 24) 2 = some c ∧ okA E c 13 ∧ P c) ↔ P (σ 25) := xgA (er_24_2 h) (eo_25 h)
theorem x_26_2 (h : Env σ E) {P : Nat → Prop} : (∃ c, eR E (σ 26) 2 = some c ∧ okA E c 13 ∧ P c) ↔ P (σ 27) := xgA (er_26_2 h) (eo_27 h)
theorem x_28_2 (h : Env σ E) {P : Nat → Prop} : (∃ c, eR E (σ 28) 2 = some c ∧ okA E c 13 ∧ P c) ↔ P (σ 29) := xgA (er_28_2 h) (eo_29 h)
theorem x_30_2 (h : Env σ E) {P : Nat → Prop} : (∃ c, eR E (σ 30) 2 = some c ∧ okA E c 13 ∧ P c) ↔ P (σ 31) := xgA (er_30_2 h) (eo_31 h)
theorem x_32_2 (h : Env σ E) {P : Nat → Prop} : (∃ c, eR E (σ 32) 2 = some c ∧ okA E c 13 ∧ P c) ↔ P (σ 33) := xgA (er_32_2 h) (eo_33 h)
theorem x_34_2 (h : Env σ E) {P : Nat → Prop} : (∃ c, eR E (σ 34) 2 = some c ∧ okA E c 13 ∧ P c) ↔ P (σ 35) := xgA (er_34_2 h) (eo_35 h)
theorem x_36_2 (h : Env σ E) {P : Nat → Prop} : (∃ c, eR E (σ 36) 2 = some c ∧ okA E c 13 ∧ P c) ↔ P (σ 37) := xgA (er_36_2 h) (eo_37 h)
theorem x_38_2 (h : Env σ E) {P : Nat → Prop} : (∃ c, eR E (σ 38) 2 = some c ∧ okA E c 13 ∧ P c) ↔ P (σ 39) := xgA (er_38_2 h) (eo_39 h)
theorem x_40_2 (h : Env σ E) {P : Nat → Prop} : (∃ c, eR E (σ 40) 2 = some c ∧ okA E c 13 ∧ P c) ↔ P (σ 41) := xgA (er_40_2 h) (eo_41 h)
theorem x_42_2 (h : Env σ E) {P : Nat → Prop} : (∃ c, eR E (σ 42) 2 = some c ∧ okA E c 13 ∧ P c) ↔ P (σ 43) := xgA (er_42_2 h) (eo_43 h)
theorem x_45_0 (h : Env σ E) {P : Nat → Prop} : (∃ c, eR E (σ 45) 0 = some c ∧ okA E c 13 ∧ P c) ↔ P (σ 46) := xgA (er_45_0 h) (eo_46 h)
theorem x_45_7 (h : Env σ E) {P : Nat → Prop} : (∃ c, eR E (σ 45) 7 = some c ∧ okO E c 6 ∧ P c) ↔ P (σ 47) := xgO (er_45_7 h) (eo_47 h)
theorem x_45_8 (h : Env σ E) {P : Nat → Prop} : (∃ c, eR E (σ 45) 8 = some c ∧ okA E c 13 ∧ P c) ↔ P (σ 49) := xgA (er_45_8 h) (eo_49 h)
theorem x_47_2 (h : Env σ E) {P : Nat → Prop} : (∃ c, eR E (σ 47) 2 = some c ∧ okA E c 13 ∧ P c) ↔ P (σ 48) := xgA (er_47_2 h) (eo_48 h)
theorem x_50_0 (h : Env σ E) {P : Nat → Prop} : (∃ c, eR E (σ 50) 0 = some c ∧ okO E c 8 ∧ P c) ↔ P (σ 1) := xgO (er_50_0 h) (eo_1 h)
theorem x_50_5 (h : Env σ E) {P : Nat → Prop} : (∃ c, eR E (σ 50) 5 = some c ∧ okO E c 6 ∧ P c) ↔ P (σ 51) := xgO (er_50_5 h) (eo_51 h)
theorem x_50_6 (h : Env σ E) {P : Nat → Prop} : (∃ c, eR E (σ 50) 6 = some c ∧ okO E c 6 ∧ P c) ↔ P (σ 53) := xgO (er_50_6 h) (eo_53 h)
theorem x_50_7 (h : Env σ E) {P : Nat → Prop} : (∃ c, eR E (σ 50) 7 = some c ∧ okO E c 6 ∧ P c) ↔ P (σ 55) := xgO (er_50_7 h) (eo_55 h)
theorem x_50_8 (h : Env σ E) {P : Nat → Prop} : (∃ c, eR E (σ 50) 8 = some c ∧ okO E c 0 ∧ P c) ↔ P (σ 57) := xgO (er_50_8 h) (eo_57 h)
theorem x_51_2 (h : Env σ E) {P : Nat → Prop} : (∃ c, eR E (σ 51) 2 = some c ∧ okA E c 13 ∧ P c) ↔ P (σ 52) := xgA (er_51_2 h) (eo_52 h)
theorem x_53_2 (h : Env σ E) {P : Nat → Prop} : (∃ c, eR E (σ 53) 2 = some c ∧ okA E c 13 ∧ P c) ↔ P (σ 54) := xgA (er_53_2 h) (eo_54 h)
theorem x_55_2 (h : Env σ E) {P : Nat → Prop} : (∃ c, eR E (σ 55) 2 = some c ∧ okA E c 13 ∧ P c) ↔ P (σ 56) := xgA (er_55_2 h) (eo_56 h)
theorem x_57_0 (h : Env σ E) {P : Nat → Prop} : (∃ c, eR E (σ 57) 0 = some c ∧ okA E c 13 ∧ P c) ↔ P (σ 58) := xgA (er_57_0 h) (eo_58 h)
theorem x_57_1 (h : Env σ E) {P : Nat → Prop} : (∃ c, eR E (σ 57) 1 = some c ∧ okA E c 13 ∧ P c) ↔ P (σ 59) := xgA (er_57_1 h) (eo_59 h)
theorem x_60_0 (h : Env σ E) {P : Nat → Prop} : (∃ c, eR E (σ 60) 0 = some c ∧ okO E c 8 ∧ P c) ↔ P (σ 1) := xgO (er_60_0 h) (eo_1 h)
theorem x_60_5 (h : Env σ E) {P : Nat → Prop} : (∃ c, eR E (σ 60) 5 = some c ∧ okO E c 6 ∧ P c) ↔ P (σ 61) := xgO (er_60_5 h) (eo_61 h)
theorem x_60_6 (h : Env σ E) {P : Nat → Prop} : (∃ c, eR E (σ 60) 6 = some c ∧ okO E c 6 ∧ P c) ↔ P (σ 63) := xgO (er_60_6 h) (eo_63 h)
theorem x_60_7 (h : Env σ E) {P : Nat → Prop} : (∃ c, eR E (σ 60) 7 = some c ∧ okO E c 6 ∧ P c) ↔ P (σ 65) := xgO (er_60_7 h) (eo_65 h)
theorem x_60_8 (h : Env σ E) {P : Nat → Prop} : (∃ c, eR E (σ 60) 8 = some c ∧ okO E c 0 ∧ P c) ↔ P (σ 67) := xgO (er_60_8 h) (eo_67 h)
theorem x_61_2 (h : Env σ E) {P : Nat → Prop} : (∃ c, eR E (σ 61) 2 = some c ∧ okA E c 13 ∧ P c) ↔ P (σ 62) := xgA (er_61_2 h) (eo_62 h)
theorem x_63_2 (h : Env σ E) {P : Nat → Prop} : (∃ c, eR E (σ 63) 2 = some c ∧ okA E c 13 ∧ P c) ↔ P (σ 64) := xgA (er_63_2 h) (eo_64 h)
theorem x_65_2 (h : Env σ E) {P : Nat → Prop} : (∃ c, eR E (σ 65) 2 = some c ∧ okA E c 13 ∧ P c) ↔ P (σ 66) := xgA (er_65_2 h) (eo_66 h)
theorem x_67_0 (h : Env σ E) {P : Nat → Prop} : (∃ c, eR E (σ 67) 0 = some c ∧ okA E c 13 ∧ P c) ↔ P (σ 68) := xgA (er_67_0 h) (eo_68 h)
theorem x_67_1 (h : Env σ E) {P : Nat → Prop} : (∃ c, eR E (σ 67) 1 = some c ∧ okA E c 13 ∧ P c) ↔ P (σ 69) := xgA (er_67_1 h) (eo_69 h)
theorem x_70_0 (h : Env σ E) {P : Nat → Prop} : (∃ c, eR E (σ 70) 0 = some c ∧ okO E c 8 ∧ P c) ↔ P (σ 1) := xgO (er_70_0 h) (eo_1 h)
theorem x_70_1 (h : Env σ E) {P : Nat → Prop} : (∃ c, eR E (σ 70) 1 = some c ∧ okO E c 3 ∧ P c) ↔ P (σ 50) := xgO (er_70_1 h) (eo_50 h)
theorem x_70_2 (h : Env σ E) {P : Nat → Prop} : (∃ c, eR E (σ 70) 2 = some c ∧ okO E c 6 ∧ P c) ↔ P (σ 71) := xgO (er_70_2 h) (eo_71 h)
theorem x_71_2 (h : Env σ E) {P : Nat → Prop} : (∃ c, eR E (σ 71) 2 = some c ∧ okA E c 13 ∧ P c) ↔ P (σ 72) := xgA (er_71_2 h) (eo_72 h)
theorem x_73_0 (h : Env σ E) {P : Nat → Prop} : (∃ c, eR E (σ 73) 0 = some c ∧ okA E c 13 ∧ P c) ↔ P (σ 74) := xgA (er_73_0 h) (eo_74 h)
theorem x_73_1 (h : Env σ E) {P : Nat → Prop} : (∃ c, eR E (σ 73) 1 = some c ∧ okA E c 13 ∧ P c) ↔ P (σ 75) := xgA (er_73_1 h) (eo_75 h)
theorem x_73_2 (h : Env σ E) {P : Nat → Prop} : (∃ c, eR E (σ 73) 2 = some c ∧ okA E c 13 ∧ P c) ↔ P (σ 76) := xgA (er_73_2 h) (eo_76 h)
theorem x_73_3 (h : Env σ E) {P : Nat → Prop} : (∃ c, eR E (σ 73) 3 = some c ∧ okA E c 13 ∧ P c) ↔ P (σ 77) := xgA (er_73_3 h) (eo_77 h)
theorem x_73_4 (h : Env σ E) {P : Nat → Prop} : (∃ c, eR E (σ 73) 4 = some c ∧ okA E c 13 ∧ P c) ↔ P (σ 78) := xgA (er_73_4 h) (eo_78 h)
theorem x_73_5 (h : Env σ E) {P : Nat → Prop} : (∃ c, eR E (σ 73) 5 = some c ∧ okA E c 13 ∧ P c) ↔ P (σ 79) := xgA (er_73_5 h) (eo_79 h)
theorem x_80_0 (h : Env σ E) {P : Nat → Prop} : (∃ c, eR E (σ 80) 0 = some c ∧ okO E c 8 ∧ P c) ↔ P (σ 1) := xgO (er_80_0 h) (eo_1 h)
theorem x_80_1 (h : Env σ E) {P : Nat → Prop} : (∃ c, eR E (σ 80) 1 = some c ∧ okA E c 13 ∧ P c) ↔ P (σ 81) := xgA (er_80_1 h) (eo_81 h)
theorem x_80_2 (h : Env σ E) {P : Nat → Prop} : (∃ c, eR E (σ 80) 2 = some c ∧ okA E c 13 ∧ P c) ↔ P (σ 82) := xgA (er_80_2 h) (eo_82 h)
theorem x_80_3 (h : Env σ E) {P : Nat → Prop} : (∃ c, eR E (σ 80) 3 = some c ∧ okA E c 13 ∧ P c) ↔ P (σ 83) := xgA (er_80_3 h) (eo_83 h)
theorem x_80_4 (h : Env σ E) {P : Nat → Prop} : (∃ c, eR E (σ 80) 4 = some c ∧ okA E c 13 ∧ P c) ↔ P (σ 84) := xgA (er_80_4 h) (eo_84 h)
theorem x_85_0 (h : Env σ E) {P : Nat → Prop} : (∃ c, eR E (σ 85) 0 = some c ∧ okO E c 8 ∧ P c) ↔ P (σ 1) := xgO (er_85_0 h) (eo_1 h)
theorem x_85_1 (h : Env σ E) {P : Nat → Prop} : (∃ c, eR E (σ 85) 1 = some c ∧ okO E c 3 ∧ P c) ↔ P (σ 50) := xgO (er_85_1 h) (eo_50 h)
theorem x_85_2 (h : Env σ E) {P : Nat → Prop} : (∃ c, eR E (σ 85) 2 = some c ∧ okA E c 14 ∧ P c) ↔ P (σ 86) := xgA (er_85_2 h) (eo_86 h)
theorem x_87_1 (h : Env σ E) {P : Nat → Prop} : (∃ c, eR E (σ 87) 1 = some c ∧ okA E c 13 ∧ P c) ↔ P (σ 88) := xgA (er_87_1 h) (eo_88 h)
theorem x_87_2 (h : Env σ E) {P : Nat → Prop} : (∃ c, eR E (σ 87) 2 = some c ∧ okA E c 13 ∧ P c) ↔ P (σ 89) := xgA (er_87_2 h) (eo_89 h)
theorem x_87_4 (h : Env σ E) {P : Nat → Prop} : (∃ c, eR E (σ 87) 4 = some c ∧ okA E c 12 ∧ P c) ↔ P (σ 90) := xgA (er_87_4 h) (eo_90 h)
theorem x_87_11 (h : Env σ E) {P : Nat → Prop} : (∃ c, eR E (σ 87) 11 = some c ∧ okA E c 13 ∧ P c) ↔ P (σ 91) := xgA (er_87_11 h) (eo_91 h)
theorem x_87_14 (h : Env σ E) {P : Nat → Prop} : (∃ c, eR E (σ 87) 14 = some c ∧ okA E c 13 ∧ P c) ↔ P (σ 92) := xgA (er_87_14 h) (eo_92 h)
theorem x_87_15 (h : Env σ E) {P : Nat → Prop} : (∃ c, eR E (σ 87) 15 = some c ∧ okA E c 13 ∧ P c) ↔ P (σ 93) := xgA (er_87_15 h) (eo_93 h)
theorem x_87_16 (h : Env σ E) {P : Nat → Prop} : (∃ c, eR E (σ 87) 16 = some c ∧ okA E c 13 ∧ P c) ↔ P (σ 94) := xgA (er_87_16 h) (eo_94 h)
theorem x_87_18 (h : Env σ E) {P : Nat → Prop} : (∃ c, eR E (σ 87) 18 = some c ∧ okA E c 15 ∧ P c) ↔ P (σ 95) := xgA (er_87_18 h) (eo_95 h)
theorem x_87_19 (h : Env σ E) {P : Nat → Prop} : (∃ c, eR E (σ 87) 19 = some c ∧ okA E c 13 ∧ P c) ↔ P (σ 96) := xgA (er_87_19 h) (eo_96 h)
theorem x_87_20 (h : Env σ E) {P : Nat → Prop} : (∃ c, eR E (σ 87) 20 = some c ∧ okA E c 15 ∧ P c) ↔ P (σ 97) := xgA (er_87_20 h) (eo_97 h)
theorem x_87_21 (h : Env σ E) {P : Nat → Prop} : (∃ c, eR E (σ 87) 21 = some c ∧ okA E c 13 ∧ P c) ↔ P (σ 98) := xgA (er_87_21 h) (eo_98 h)
theorem x_87_22 (h : Env σ E) {P : Nat → Prop} : (∃ c, eR E (σ 87) 22 = some c ∧ okA E c 13 ∧ P c) ↔ P (σ 99) := xgA (er_87_22 h) (eo_99 h)
theorem x_87_23 (h : Env σ E) {P : Nat → Prop} : (∃ c, eR E (σ 87) 23 = some c ∧ okA E c 13 ∧ P c) ↔ P (σ 100) := xgA (er_87_23 h) (eo_100 h)
theorem x_87_24 (h : Env σ E) {P : Nat → Prop} : (∃ c, eR E (σ 87) 24 = some c ∧ okA E c 15 ∧ P c) ↔ P (σ 101) := xgA (er_87_24 h) (eo_101 h)
theorem x_87_25 (h : Env σ E) {P : Nat → Prop} : (∃ c, eR E (σ 87) 25 = some c ∧ okA E c 15 ∧ P c) ↔ P (σ 102) := xgA (er_87_25 h) (eo_102 h)
theorem x_87_26 (h : Env σ E) {P : Nat → Prop} : (∃ c, eR E (σ 87) 26 = some c ∧ okA E c 13 ∧ P c) ↔ P (σ 103) := xgA (er_87_26 h) (eo_103 h)
theorem x_87_27 (h : Env σ E) {P : Nat → Prop} : (∃ c, eR E (σ 87) 27 = some c ∧ okA E c 13 ∧ P c) ↔ P (σ 104) := xgA (er_87_27 h) (eo_104 h)
theorem x_87_28 (h : Env σ E) {P : Nat → Prop} : (∃ c, eR E (σ 87) 28 = some c ∧ okA E c 13 ∧ P c) ↔ P (σ 105) := xgA (er_87_28 h) (eo_105 h)
theorem x_87_30 (h : Env σ E) {P : Nat → Prop} : (∃ c, eR E (σ 87) 30 = some c ∧ okA E c 15 ∧ P c) ↔ P (σ 106) := xgA (er_87_30 h) (eo_106 h)
theorem x_87_31 (h : Env σ E) {P : Nat → Prop} : (∃ c, eR E (σ 87) 31 = some c ∧ okA E c 13 ∧ P c) ↔ P (σ 107) := xgA (er_87_31 h) (eo_107 h)
theorem x_87_32 (h : Env σ E) {P : Nat → Prop} : (∃ c, eR E (σ 87) 32 = some c ∧ okA E c 13 ∧ P c) ↔ P (σ 108) := xgA (er_87_32 h) (eo_108 h)
theorem x_87_34 (h : Env σ E) {P : Nat → Prop} : (∃ c, eR E (σ 87) 34 = some c ∧ okA E c 13 ∧ P c) ↔ P (σ 109) := xgA (er_87_34 h) (eo_109 h)
theorem x_87_35 (h : Env σ E) {P : Nat → Prop} : (∃ c, eR E (σ 87) 35 = some c ∧ okA E c 13 ∧ P c) ↔ P (σ 110) := xgA (er_87_35 h) (eo_110 h)
theorem x_87_36 (h : Env σ E) {P : Nat → Prop} : (∃ c, eR E (σ 87) 36 = some c ∧ okA E c 13 ∧ P c) ↔ P (σ 111) := xgA (er_87_36 h) (eo_111 h)
theorem x_87_37 (h : Env σ E) {P : Nat → Prop} : (∃ c, eR E (σ 87) 37 = some c ∧ okA E c 13 ∧ P c) ↔ P (σ 112) := xgA (er_87_37 h) (eo_112 h)
theorem x_87_38 (h : Env σ E) {P : Nat → Prop} : (∃ c, eR E (σ 87) 38 = some c ∧ okA E c 14 ∧ P c) ↔ P (σ 113) := xgA (er_87_38 h) (eo_113 h)
theorem x_87_39 (h : Env σ E) {P : Nat → Prop} : (∃ c, eR E (σ 87) 39 = some c ∧ okA E c 14 ∧ P c) ↔ P (σ 114) := xgA (er_87_39 h) (eo_114 h)
theorem sg (h : Env σ E) {i j : Nat} (hi : i < 116) (hj : j < 116) : σ i = σ j ↔ i = j := ⟨h.1 i j hi hj, fun e => e ▸ rfl⟩
end
theorem gA_pA_x (d : Dy) (a k c : Nat) (v : Int32) : gA (pA d a k v) c = if c = a then (fun j => if j = k then v else gA d a j) else gA d c := by
  funext j; simp only [gA, pA, u2]; by_cases h : c = a
  · subst h; simp
  · simp [h]
theorem gA_pI_x (d : Dy) (a k : Nat) (v : Int32) : gA (pI d a k v) = gA d := rfl
theorem gA_pJ_x (d : Dy) (a k : Nat) (v : Int64) : gA (pJ d a k v) = gA d := rfl
theorem gA_pQ_x (d : Dy) (a k : Nat) (v : Option Nat) : gA (pQ d a k v) = gA d := rfl
theorem gA_sA_x (d : Dy) (a c : Nat) (v : Nat → Int32) : gA (sA d a v) c = if c = a then v else gA d c := by simp only [gA, sA, va_up]
theorem gA_sJ_x (d : Dy) (a : Nat) (v : Nat → Int64) : gA (sJ d a v) = gA d := rfl
theorem gI_pA_x (d : Dy) (a k : Nat) (v : Int32) : gI (pA d a k v) = gI d := rfl
theorem gI_pI_x (d : Dy) (a k c : Nat) (v : Int32) : gI (pI d a k v) c = if c = a then (fun j => if j = k then v else gI d a j) else gI d c := by
  funext j; simp only [gI, pI, u2]; by_cases h : c = a
  · subst h; simp
  · simp [h]
theorem gI_pJ_x (d : Dy) (a k : Nat) (v : Int64) : gI (pJ d a k v) = gI d := rfl
theorem gI_pQ_x (d : Dy) (a k : Nat) (v : Option Nat) : gI (pQ d a k v) = gI d := rfl
theorem gI_sA_x (d : Dy) (a : Nat) (v : Nat → Int32) : gI (sA d a v) = gI d := rfl
theorem gI_sJ_x (d : Dy) (a : Nat) (v : Nat → Int64) : gI (sJ d a v) = gI d := rfl
theorem gJ_pA_x (d : Dy) (a k : Nat) (v : Int32) : gJ (pA d a k v) = gJ d := rfl
theorem gJ_pI_x (d : Dy) (a k : Nat) (v : Int32) : gJ (pI d a k v) = gJ d := rfl
theorem gJ_pJ_x (d : Dy) (a k c : Nat) (v : Int64) : gJ (pJ d a k v) c = if c = a then (fun j => if j = k then v else gJ d a j) else gJ d c := by
  funext j; simp only [gJ, pJ, u2]; by_cases h : c = a
  · subst h; simp
  · simp [h]
theorem gJ_pQ_x (d : Dy) (a k : Nat) (v : Option Nat) : gJ (pQ d a k v) = gJ d := rfl
theorem gJ_sA_x (d : Dy) (a : Nat) (v : Nat → Int32) : gJ (sA d a v) = gJ d := rfl
theorem gJ_sJ_x (d : Dy) (a c : Nat) (v : Nat → Int64) : gJ (sJ d a v) c = if c = a then v else gJ d c := by simp only [gJ, sJ, va_up]
theorem gQ_pA_x (d : Dy) (a k : Nat) (v : Int32) : gQ (pA d a k v) = gQ d := rfl
theorem gQ_pI_x (d : Dy) (a k : Nat) (v : Int32) : gQ (pI d a k v) = gQ d := rfl
theorem gQ_pJ_x (d : Dy) (a k : Nat) (v : Int64) : gQ (pJ d a k v) = gQ d := rfl
theorem gQ_pQ_x (d : Dy) (a k c : Nat) (v : Option Nat) : gQ (pQ d a k v) c = if c = a then (fun j => if j = k then v else gQ d a j) else gQ d c := by
  funext j; simp only [gQ, pQ, u2]; by_cases h : c = a
  · subst h; simp
  · simp [h]
theorem gQ_sA_x (d : Dy) (a : Nat) (v : Nat → Int32) : gQ (sA d a v) = gQ d := rfl
theorem gQ_sJ_x (d : Dy) (a : Nat) (v : Nat → Int64) : gQ (sJ d a v) = gQ d := rfl
