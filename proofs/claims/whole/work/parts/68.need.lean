/-! the pure layer: the tables of class and reference by labels; what a call asks of its numbers -/
section
variable {σ : Nat → Nat} {E : En} {d d' : Dy}
theorem te_2 (h : Env σ E) : TE E (σ 2) (σ 3) 3 12 := ⟨eo_2 h, er_2_2 h, eo_3 h, en_3 h, by decide, by decide⟩
theorem ts_2 (h : St σ d) {n : Nat} (hn : gI d (σ 2) 3 = nI n) (hm : n ≤ 12) : TD d (σ 2) 3 12 n := ⟨(h (2, 3, 12) (by decide)).1, (h (2, 3, 12) (by decide)).2, hn, hm⟩
theorem te_4 (h : Env σ E) : TE E (σ 4) (σ 5) 7 10 := ⟨eo_4 h, er_4_2 h, eo_5 h, en_5 h, by decide, by decide⟩
theorem ts_4 (h : St σ d) {n : Nat} (hn : gI d (σ 4) 3 = nI n) (hm : n ≤ 10) : TD d (σ 4) 7 10 n := ⟨(h (4, 7, 10) (by decide)).1, (h (4, 7, 10) (by decide)).2, hn, hm⟩
theorem te_6 (h : Env σ E) : TE E (σ 6) (σ 7) 6 40 := ⟨eo_6 h, er_6_2 h, eo_7 h, en_7 h, by decide, by decide⟩
theorem ts_6 (h : St σ d) {n : Nat} (hn : gI d (σ 6) 3 = nI n) (hm : n ≤ 40) : TD d (σ 6) 6 40 n := ⟨(h (6, 6, 40) (by decide)).1, (h (6, 6, 40) (by decide)).2, hn, hm⟩
theorem te_8 (h : Env σ E) : TE E (σ 8) (σ 9) 3 10 := ⟨eo_8 h, er_8_2 h, eo_9 h, en_9 h, by decide, by decide⟩
theorem ts_8 (h : St σ d) {n : Nat} (hn : gI d (σ 8) 3 = nI n) (hm : n ≤ 10) : TD d (σ 8) 3 10 n := ⟨(h (8, 3, 10) (by decide)).1, (h (8, 3, 10) (by decide)).2, hn, hm⟩
theorem te_10 (h : Env σ E) : TE E (σ 10) (σ 11) 1 20 := ⟨eo_10 h, er_10_2 h, eo_11 h, en_11 h, by decide, by decide⟩
theorem ts_10 (h : St σ d) {n : Nat} (hn : gI d (σ 10) 3 = nI n) (hm : n ≤ 20) : TD d (σ 10) 1 20 n := ⟨(h (10, 1, 20) (by decide)).1, (h (10, 1, 20) (by decide)).2, hn, hm⟩
theorem te_12 (h : Env σ E) : TE E (σ 12) (σ 13) 1 60 := ⟨eo_12 h, er_12_2 h, eo_13 h, en_13 h, by decide, by decide⟩
theorem ts_12 (h : St σ d) {n : Nat} (hn : gI d (σ 12) 3 = nI n) (hm : n ≤ 60) : TD d (σ 12) 1 60 n := ⟨(h (12, 1, 60) (by decide)).1, (h (12, 1, 60) (by decide)).2, hn, hm⟩
theorem te_14 (h : Env σ E) : TE E (σ 14) (σ 15) 3 10 := ⟨eo_14 h, er_14_2 h, eo_15 h, en_15 h, by decide, by decide⟩
theorem ts_14 (h : St σ d) {n : Nat} (hn : gI d (σ 14) 3 = nI n) (hm : n ≤ 10) : TD d (σ 14) 3 10 n := ⟨(h (14, 3, 10) (by decide)).1, (h (14, 3, 10) (by decide)).2, hn, hm⟩
theorem te_16 (h : Env σ E) : TE E (σ 16) (σ 17) 3 8 := ⟨eo_16 h, er_16_2 h, eo_17 h, en_17 h, by decide, by decide⟩
theorem ts_16 (h : St σ d) {n : Nat} (hn : gI d (σ 16) 3 = nI n) (hm : n ≤ 8) : TD d (σ 16) 3 8 n := ⟨(h (16, 3, 8) (by decide)).1, (h (16, 3, 8) (by decide)).2, hn, hm⟩
theorem te_18 (h : Env σ E) : TE E (σ 18) (σ 19) 3 20 := ⟨eo_18 h, er_18_2 h, eo_19 h, en_19 h, by decide, by decide⟩
theorem ts_18 (h : St σ d) {n : Nat} (hn : gI d (σ 18) 3 = nI n) (hm : n ≤ 20) : TD d (σ 18) 3 20 n := ⟨(h (18, 3, 20) (by decide)).1, (h (18, 3, 20) (by decide)).2, hn, hm⟩
theorem te_20 (h : Env σ E) : TE E (σ 20) (σ 21) 1 12 := ⟨eo_20 h, er_20_2 h, eo_21 h, en_21 h, by decide, by decide⟩
theorem ts_20 (h : St σ d) {n : Nat} (hn : gI d (σ 20) 3 = nI n) (hm : n ≤ 12) : TD d (σ 20) 1 12 n := ⟨(h (20, 1, 12) (by decide)).1, (h (20, 1, 12) (by decide)).2, hn, hm⟩
theorem te_24 (h : Env σ E) : TE E (σ 24) (σ 25) 3 12 := ⟨eo_24 h, er_24_2 h, eo_25 h, en_25 h, by decide, by decide⟩
theorem ts_24 (h : St σ d) {n : Nat} (hn : gI d (σ 24) 3 = nI n) (hm : n ≤ 12) : TD d (σ 24) 3 12 n := ⟨(h (24, 3, 12) (by decide)).1, (h (24, 3, 12) (by decide)).2, hn, hm⟩
theorem te_26 (h : Env σ E) : TE E (σ 26) (σ 27) 7 10 := ⟨eo_26 h, er_26_2 h, eo_27 h, en_27 h, by decide, by decide⟩
theorem ts_26 (h : St σ d) {n : Nat} (hn : gI d (σ 26) 3 = nI n) (hm : n ≤ 10) : TD d (σ 26) 7 10 n := ⟨(h (26, 7, 10) (by decide)).1, (h (26, 7, 10) (by decide)).2, hn, hm⟩
theorem te_28 (h : Env σ E) : TE E (σ 28) (σ 29) 6 40 := ⟨eo_28 h, er_28_2 h, eo_29 h, en_29 h, by decide, by decide⟩
theorem ts_28 (h : St σ d) {n : Nat} (hn : gI d (σ 28) 3 = nI n) (hm : n ≤ 40) : TD d (σ 28) 6 40 n := ⟨(h (28, 6, 40) (by decide)).1, (h (28, 6, 40) (by decide)).2, hn, hm⟩
theorem te_30 (h : Env σ E) : TE E (σ 30) (σ 31) 3 10 := ⟨eo_30 h, er_30_2 h, eo_31 h, en_31 h, by decide, by decide⟩
theorem ts_30 (h : St σ d) {n : Nat} (hn : gI d (σ 30) 3 = nI n) (hm : n ≤ 10) : TD d (σ 30) 3 10 n := ⟨(h (30, 3, 10) (by decide)).1, (h (30, 3, 10) (by decide)).2, hn, hm⟩
theorem te_32 (h : Env σ E) : TE E (σ 32) (σ 33) 1 20 := ⟨eo_32 h, er_32_2 h, eo_33 h, en_33 h, by decide, by decide⟩
theorem ts_32 (h : St σ d) {n : Nat} (hn : gI d (σ 32) 3 = nI n) (hm : n ≤ 20) : TD d (σ 32) 1 20 n := ⟨(h (32, 1, 20) (by decide)).1, (h (32, 1, 20) (by decide)).2, hn, hm⟩
theorem te_34 (h : Env σ E) : TE E (σ 34) (σ 35) 1 60 := ⟨eo_34 h, er_34_2 h, eo_35 h, en_35 h, by decide, by decide⟩
theorem ts_34 (h : St σ d) {n : Nat} (hn : gI d (σ 34) 3 = nI n) (hm : n ≤ 60) : TD d (σ 34) 1 60 n := ⟨(h (34, 1, 60) (by decide)).1, (h (34, 1, 60) (by decide)).2, hn, hm⟩
theorem te_36 (h : Env σ E) : TE E (σ 36) (σ 37) 3 10 := ⟨eo_36 h, er_36_2 h, eo_37 h, en_37 h, by decide, by decide⟩
theorem ts_36 (h : St σ d) {n : Nat} (hn : gI d (σ 36) 3 = nI n) (hm : n ≤ 10) : TD d (σ 36) 3 10 n := ⟨(h (36, 3, 10) (by decide)).1, (h (36, 3, 10) (by decide)).2, hn, hm⟩
theorem te_38 (h : Env σ E) : TE E (σ 38) (σ 39) 3 8 := ⟨eo_38 h, er_38_2 h, eo_39 h, en_39 h, by decide, by decide⟩
theorem ts_38 (h : St σ d) {n : Nat} (hn : gI d (σ 38) 3 = nI n) (hm : n ≤ 8) : TD d (σ 38) 3 8 n := ⟨(h (38, 3, 8) (by decide)).1, (h (38, 3, 8) (by decide)).2, hn, hm⟩
theorem te_40 (h : Env σ E) : TE E (σ 40) (σ 41) 3 20 := ⟨eo_40 h, er_40_2 h, eo_41 h, en_41 h, by decide, by decide⟩
theorem ts_40 (h : St σ d) {n : Nat} (hn : gI d (σ 40) 3 = nI n) (hm : n ≤ 20) : TD d (σ 40) 3 20 n := ⟨(h (40, 3, 20) (by decide)).1, (h (40, 3, 20) (by decide)).2, hn, hm⟩
theorem te_42 (h : Env σ E) : TE E (σ 42) (σ 43) 1 12 := ⟨eo_42 h, er_42_2 h, eo_43 h, en_43 h, by decide, by decide⟩
theorem ts_42 (h : St σ d) {n : Nat} (hn : gI d (σ 42) 3 = nI n) (hm : n ≤ 12) : TD d (σ 42) 1 12 n := ⟨(h (42, 1, 12) (by decide)).1, (h (42, 1, 12) (by decide)).2, hn, hm⟩
theorem te_47 (h : Env σ E) : TE E (σ 47) (σ 48) 5 10 := ⟨eo_47 h, er_47_2 h, eo_48 h, en_48 h, by decide, by decide⟩
theorem ts_47 (h : St σ d) {n : Nat} (hn : gI d (σ 47) 3 = nI n) (hm : n ≤ 10) : TD d (σ 47) 5 10 n := ⟨(h (47, 5, 10) (by decide)).1, (h (47, 5, 10) (by decide)).2, hn, hm⟩
theorem te_51 (h : Env σ E) : TE E (σ 51) (σ 52) 3 12 := ⟨eo_51 h, er_51_2 h, eo_52 h, en_52 h, by decide, by decide⟩
theorem ts_51 (h : St σ d) {n : Nat} (hn : gI d (σ 51) 3 = nI n) (hm : n ≤ 12) : TD d (σ 51) 3 12 n := ⟨(h (51, 3, 12) (by decide)).1, (h (51, 3, 12) (by decide)).2, hn, hm⟩
theorem te_53 (h : Env σ E) : TE E (σ 53) (σ 54) 2 10 := ⟨eo_53 h, er_53_2 h, eo_54 h, en_54 h, by decide, by decide⟩
theorem ts_53 (h : St σ d) {n : Nat} (hn : gI d (σ 53) 3 = nI n) (hm : n ≤ 10) : TD d (σ 53) 2 10 n := ⟨(h (53, 2, 10) (by decide)).1, (h (53, 2, 10) (by decide)).2, hn, hm⟩
theorem te_55 (h : Env σ E) : TE E (σ 55) (σ 56) 1 10 := ⟨eo_55 h, er_55_2 h, eo_56 h, en_56 h, by decide, by decide⟩
theorem ts_55 (h : St σ d) {n : Nat} (hn : gI d (σ 55) 3 = nI n) (hm : n ≤ 10) : TD d (σ 55) 1 10 n := ⟨(h (55, 1, 10) (by decide)).1, (h (55, 1, 10) (by decide)).2, hn, hm⟩
theorem te_61 (h : Env σ E) : TE E (σ 61) (σ 62) 3 12 := ⟨eo_61 h, er_61_2 h, eo_62 h, en_62 h, by decide, by decide⟩
theorem ts_61 (h : St σ d) {n : Nat} (hn : gI d (σ 61) 3 = nI n) (hm : n ≤ 12) : TD d (σ 61) 3 12 n := ⟨(h (61, 3, 12) (by decide)).1, (h (61, 3, 12) (by decide)).2, hn, hm⟩
theorem te_63 (h : Env σ E) : TE E (σ 63) (σ 64) 2 10 := ⟨eo_63 h, er_63_2 h, eo_64 h, en_64 h, by decide, by decide⟩
theorem ts_63 (h : St σ d) {n : Nat} (hn : gI d (σ 63) 3 = nI n) (hm : n ≤ 10) : TD d (σ 63) 2 10 n := ⟨(h (63, 2, 10) (by decide)).1, (h (63, 2, 10) (by decide)).2, hn, hm⟩
theorem te_65 (h : Env σ E) : TE E (σ 65) (σ 66) 1 10 := ⟨eo_65 h, er_65_2 h, eo_66 h, en_66 h, by decide, by decide⟩
theorem ts_65 (h : St σ d) {n : Nat} (hn : gI d (σ 65) 3 = nI n) (hm : n ≤ 10) : TD d (σ 65) 1 10 n := ⟨(h (65, 1, 10) (by decide)).1, (h (65, 1, 10) (by decide)).2, hn, hm⟩
theorem te_71 (h : Env σ E) : TE E (σ 71) (σ 72) 4 10 := ⟨eo_71 h, er_71_2 h, eo_72 h, en_72 h, by decide, by decide⟩
theorem ts_71 (h : St σ d) {n : Nat} (hn : gI d (σ 71) 3 = nI n) (hm : n ≤ 10) : TD d (σ 71) 4 10 n := ⟨(h (71, 4, 10) (by decide)).1, (h (71, 4, 10) (by decide)).2, hn, hm⟩
theorem td_2 (I : Inv σ E d) : TD d (σ 2) 3 12 (cnt (gA d (σ 88)) 0) := ts_2 I.2.1 (I.2.2.1.2.1.2 0 (by decide)).1 (WI_n I.2.2.1.1 (i := 0) (by decide))
theorem wc_0 (I : Inv σ E d) : gA d (σ 88) 0 = nI (cnt (gA d (σ 88)) 0) ∧ cnt (gA d (σ 88)) 0 ≤ 12 := I.2.2.1.1.1 0 (by decide) (by decide)
theorem tv_2 (I : Inv σ E d) {r c : Nat} (hr : r < cnt (gA d (σ 88)) 0) (hc : c < 3) : gA d (σ 3) (r * 3 + cmI 0 c) = gA d (σ 88) (14 + 3 * r + c) := (I.2.2.1.2.1.2 0 (by decide)).2 r hr c hc
theorem ok_2 (I : Inv σ E d) {r : Nat} (hr : r < cnt (gA d (σ 88)) 0) : okR 0 (cnt (gA d (σ 88)) 0) (cnt (gA d (σ 88)) 1) (fun c => gA d (σ 88) (14 + 3 * r + c)) := I.2.2.1.1.2.2 0 (by decide) r hr
theorem td_4 (I : Inv σ E d) : TD d (σ 4) 7 10 (cnt (gA d (σ 88)) 1) := ts_4 I.2.1 (I.2.2.1.2.1.2 1 (by decide)).1 (WI_n I.2.2.1.1 (i := 1) (by decide))
theorem wc_1 (I : Inv σ E d) : gA d (σ 88) 1 = nI (cnt (gA d (σ 88)) 1) ∧ cnt (gA d (σ 88)) 1 ≤ 10 := I.2.2.1.1.1 1 (by decide) (by decide)
theorem tv_4 (I : Inv σ E d) {r c : Nat} (hr : r < cnt (gA d (σ 88)) 1) (hc : c < 7) : gA d (σ 5) (r * 7 + cmI 1 c) = gA d (σ 88) (50 + 7 * r + c) := (I.2.2.1.2.1.2 1 (by decide)).2 r hr c hc
theorem ok_4 (I : Inv σ E d) {r : Nat} (hr : r < cnt (gA d (σ 88)) 1) : okR 1 (cnt (gA d (σ 88)) 0) (cnt (gA d (σ 88)) 1) (fun c => gA d (σ 88) (50 + 7 * r + c)) := I.2.2.1.1.2.2 1 (by decide) r hr
theorem td_6 (I : Inv σ E d) : TD d (σ 6) 6 40 (cnt (gA d (σ 88)) 2) := ts_6 I.2.1 (I.2.2.1.2.1.2 2 (by decide)).1 (WI_n I.2.2.1.1 (i := 2) (by decide))
theorem wc_2 (I : Inv σ E d) : gA d (σ 88) 2 = nI (cnt (gA d (σ 88)) 2) ∧ cnt (gA d (σ 88)) 2 ≤ 40 := I.2.2.1.1.1 2 (by decide) (by decide)
theorem ok_6 (I : Inv σ E d) {r : Nat} (hr : r < cnt (gA d (σ 88)) 2) : okR 2 (cnt (gA d (σ 88)) 0) (cnt (gA d (σ 88)) 1) (fun c => gA d (σ 88) (120 + 6 * r + c)) := I.2.2.1.1.2.2 2 (by decide) r hr
theorem td_8 (I : Inv σ E d) : TD d (σ 8) 3 10 (cnt (gA d (σ 88)) 4) := ts_8 I.2.1 (I.2.2.1.2.1.2 3 (by decide)).1 (WI_n I.2.2.1.1 (i := 3) (by decide))
theorem wc_4 (I : Inv σ E d) : gA d (σ 88) 4 = nI (cnt (gA d (σ 88)) 4) ∧ cnt (gA d (σ 88)) 4 ≤ 10 := I.2.2.1.1.1 3 (by decide) (by decide)
theorem tv_8 (I : Inv σ E d) {r c : Nat} (hr : r < cnt (gA d (σ 88)) 4) (hc : c < 3) : gA d (σ 9) (r * 3 + cmI 3 c) = gA d (σ 88) (360 + 3 * r + c) := (I.2.2.1.2.1.2 3 (by decide)).2 r hr c hc
theorem ok_8 (I : Inv σ E d) {r : Nat} (hr : r < cnt (gA d (σ 88)) 4) : okR 3 (cnt (gA d (σ 88)) 0) (cnt (gA d (σ 88)) 1) (fun c => gA d (σ 88) (360 + 3 * r + c)) := I.2.2.1.1.2.2 3 (by decide) r hr
theorem td_10 (I : Inv σ E d) : TD d (σ 10) 1 20 (cnt (gA d (σ 88)) 8) := ts_10 I.2.1 (I.2.2.1.2.1.2 4 (by decide)).1 (WI_n I.2.2.1.1 (i := 4) (by decide))
theorem wc_8 (I : Inv σ E d) : gA d (σ 88) 8 = nI (cnt (gA d (σ 88)) 8) ∧ cnt (gA d (σ 88)) 8 ≤ 20 := I.2.2.1.1.1 4 (by decide) (by decide)
theorem tv_10 (I : Inv σ E d) {r c : Nat} (hr : r < cnt (gA d (σ 88)) 8) (hc : c < 1) : gA d (σ 11) (r * 1 + cmI 4 c) = gA d (σ 88) (504 + 1 * r + c) := (I.2.2.1.2.1.2 4 (by decide)).2 r hr c hc
theorem ok_10 (I : Inv σ E d) {r : Nat} (hr : r < cnt (gA d (σ 88)) 8) : okR 4 (cnt (gA d (σ 88)) 0) (cnt (gA d (σ 88)) 1) (fun c => gA d (σ 88) (504 + 1 * r + c)) := I.2.2.1.1.2.2 4 (by decide) r hr
theorem td_12 (I : Inv σ E d) : TD d (σ 12) 1 60 (60) := ts_12 I.2.1 (I.2.2.1.2.1.2 5 (by decide)).1 (WI_n I.2.2.1.1 (i := 5) (by decide))
theorem tv_12 (I : Inv σ E d) {r c : Nat} (hr : r < 60) (hc : c < 1) : gA d (σ 13) (r * 1 + cmI 5 c) = gA d (σ 88) (536 + 1 * r + c) := (I.2.2.1.2.1.2 5 (by decide)).2 r hr c hc
theorem ok_12 (I : Inv σ E d) {r : Nat} (hr : r < 60) : okR 5 (cnt (gA d (σ 88)) 0) (cnt (gA d (σ 88)) 1) (fun c => gA d (σ 88) (536 + 1 * r + c)) := I.2.2.1.1.2.2 5 (by decide) r hr
theorem td_14 (I : Inv σ E d) : TD d (σ 14) 3 10 (cnt (gA d (σ 88)) 5) := ts_14 I.2.1 (I.2.2.1.2.1.2 6 (by decide)).1 (WI_n I.2.2.1.1 (i := 6) (by decide))
theorem wc_5 (I : Inv σ E d) : gA d (σ 88) 5 = nI (cnt (gA d (σ 88)) 5) ∧ cnt (gA d (σ 88)) 5 ≤ 10 := I.2.2.1.1.1 6 (by decide) (by decide)
theorem tv_14 (I : Inv σ E d) {r c : Nat} (hr : r < cnt (gA d (σ 88)) 5) (hc : c < 3) : gA d (σ 15) (r * 3 + cmI 6 c) = gA d (σ 88) (390 + 3 * r + c) := (I.2.2.1.2.1.2 6 (by decide)).2 r hr c hc
theorem ok_14 (I : Inv σ E d) {r : Nat} (hr : r < cnt (gA d (σ 88)) 5) : okR 6 (cnt (gA d (σ 88)) 0) (cnt (gA d (σ 88)) 1) (fun c => gA d (σ 88) (390 + 3 * r + c)) := I.2.2.1.1.2.2 6 (by decide) r hr
theorem td_16 (I : Inv σ E d) : TD d (σ 16) 3 8 (cnt (gA d (σ 88)) 6) := ts_16 I.2.1 (I.2.2.1.2.1.2 7 (by decide)).1 (WI_n I.2.2.1.1 (i := 7) (by decide))
theorem wc_6 (I : Inv σ E d) : gA d (σ 88) 6 = nI (cnt (gA d (σ 88)) 6) ∧ cnt (gA d (σ 88)) 6 ≤ 8 := I.2.2.1.1.1 7 (by decide) (by decide)
theorem tv_16 (I : Inv σ E d) {r c : Nat} (hr : r < cnt (gA d (σ 88)) 6) (hc : c < 3) : gA d (σ 17) (r * 3 + cmI 7 c) = gA d (σ 88) (420 + 3 * r + c) := (I.2.2.1.2.1.2 7 (by decide)).2 r hr c hc
theorem ok_16 (I : Inv σ E d) {r : Nat} (hr : r < cnt (gA d (σ 88)) 6) : okR 7 (cnt (gA d (σ 88)) 0) (cnt (gA d (σ 88)) 1) (fun c => gA d (σ 88) (420 + 3 * r + c)) := I.2.2.1.1.2.2 7 (by decide) r hr
theorem td_18 (I : Inv σ E d) : TD d (σ 18) 3 20 (cnt (gA d (σ 88)) 7) := ts_18 I.2.1 (I.2.2.1.2.1.2 8 (by decide)).1 (WI_n I.2.2.1.1 (i := 8) (by decide))
theorem wc_7 (I : Inv σ E d) : gA d (σ 88) 7 = nI (cnt (gA d (σ 88)) 7) ∧ cnt (gA d (σ 88)) 7 ≤ 20 := I.2.2.1.1.1 8 (by decide) (by decide)
theorem ok_18 (I : Inv σ E d) {r : Nat} (hr : r < cnt (gA d (σ 88)) 7) : okR 8 (cnt (gA d (σ 88)) 0) (cnt (gA d (σ 88)) 1) (fun c => gA d (σ 88) (444 + 3 * r + c)) := I.2.2.1.1.2.2 8 (by decide) r hr
theorem td_20 (I : Inv σ E d) : TD d (σ 20) 1 12 (cnt (gA d (σ 88)) 9) := ts_20 I.2.1 (I.2.2.1.2.1.2 9 (by decide)).1 (WI_n I.2.2.1.1 (i := 9) (by decide))
theorem wc_9 (I : Inv σ E d) : gA d (σ 88) 9 = nI (cnt (gA d (σ 88)) 9) ∧ cnt (gA d (σ 88)) 9 ≤ 12 := I.2.2.1.1.1 9 (by decide) (by decide)
theorem tv_20 (I : Inv σ E d) {r c : Nat} (hr : r < cnt (gA d (σ 88)) 9) (hc : c < 1) : gA d (σ 21) (r * 1 + cmI 9 c) = gA d (σ 88) (524 + 1 * r + c) := (I.2.2.1.2.1.2 9 (by decide)).2 r hr c hc
theorem ok_20 (I : Inv σ E d) {r : Nat} (hr : r < cnt (gA d (σ 88)) 9) : okR 9 (cnt (gA d (σ 88)) 0) (cnt (gA d (σ 88)) 1) (fun c => gA d (σ 88) (524 + 1 * r + c)) := I.2.2.1.1.2.2 9 (by decide) r hr
theorem wc_3 (I : Inv σ E d) : gA d (σ 88) 3 = nI (cnt (gA d (σ 88)) 3) ∧ 1980 ≤ cnt (gA d (σ 88)) 3 ∧ cnt (gA d (σ 88)) 3 ≤ 2099 := I.2.2.1.1.2.1
theorem td_3 (I : Inv σ E d) : gI d (σ 1) 0 = gA d (σ 88) 3 := I.2.2.1.2.1.1
theorem bw_lx {x : Int32} {n : Nat} (hn : n < 2147483648) : bw x 0 (nI n - 1) ↔ lx x n := by
  constructor
  · intro ⟨h1, h2⟩
    obtain ⟨k, hk, rfl⟩ := z_ex h1
    refine ⟨k, ?_, rfl⟩
    by_cases hkn : k < n
    · exact hkn
    · exact absurd ((z_dec hn hk).mpr (by omega)) h2
  · rintro ⟨k, hk, rfl⟩
    refine ⟨z_pos (by omega), fun h2 => ?_⟩
    have := (z_dec hn (show k < 2147483648 by omega)).mp h2
    omega
theorem ix_lx {x : Int32} {n : Nat} (hn : n < 2147483648) : (¬ x < 0 ∧ x < nI n) ↔ lx x n := by
  constructor
  · intro ⟨h1, h2⟩
    obtain ⟨k, hk, rfl⟩ := z_ex h1
    exact ⟨k, (z_lt hk hn).mp h2, rfl⟩
  · rintro ⟨k, hk, rfl⟩
    exact ⟨z_pos (by omega), (z_lt (by omega) hn).mpr hk⟩
theorem bw_n {x : Int32} {a b : Nat} (h : bw x (nI a) (nI b)) (hb : b < 2147483648) (ha : a < 2147483648) : ∃ k, a ≤ k ∧ k ≤ b ∧ x = nI k := by
  have h1 : ¬ x < 0 := fun hc => h.1 (Int32.lt_of_lt_of_le hc (by rw [show (0 : Int32) = nI 0 from rfl, z_le (by decide) ha]; omega))
  obtain ⟨k, hk, rfl⟩ := z_ex h1
  refine ⟨k, ?_, ?_, rfl⟩
  · have := h.1; rw [z_lt hk ha] at this; omega
  · have := h.2; rw [z_lt hb hk] at this; omega
theorem bw_i {k a b : Nat} (h1 : a ≤ k) (h2 : k ≤ b) (hb : b < 2147483648) : bw (nI k) (nI a) (nI b) := by
  refine ⟨fun h => ?_, fun h => ?_⟩
  · rw [z_lt (by omega) (by omega)] at h; omega
  · rw [z_lt (by omega) (by omega)] at h; omega
section
variable {K : Dy → Prop} {K1 : Int32 → Dy → Prop} {X : String → Dy → Prop} {p a b : Int32}
theorem nb1 (hb : bw p a b) (k : K d) : w_X10_needBetween E p a b d K X := ⟨fun q => absurd q hb.1, fun _ => ⟨fun q => absurd q hb.2, fun _ => ⟨fun _ => k, fun q => absurd q (by decide)⟩⟩⟩
theorem nb0 (hb : ¬ bw p a b) (x : X "java/lang/IllegalArgumentException" d) : w_X10_needBetween E p a b d K X := ⟨fun _ => ⟨fun q => absurd rfl q, fun _ => x⟩, fun q1 => ⟨fun _ => ⟨fun q => absurd rfl q, fun _ => x⟩, fun q2 => absurd ⟨q1, q2⟩ hb⟩⟩
theorem ny1 (hb : bw p 1900 2099) (k : K d) : w_X10_needYear E p d K X := ⟨fun q => absurd q hb.1, fun _ => ⟨fun _ => k, fun q => absurd (Int32.not_le.mp q) hb.2⟩⟩
theorem ny0 (hb : ¬ bw p 1900 2099) (x : X "java/lang/IndexOutOfBoundsException" d) : w_X10_needYear E p d K X := ⟨fun _ => x, fun q1 => ⟨fun q2 => absurd ⟨q1, fun q => absurd q2 (Int32.not_le.mpr q)⟩ hb, fun _ => x⟩⟩
theorem ni1 {n : Nat} (hb : lx p n) (hn : n < 2147483648) (k : K d) : w_X10_needIndex E p (nI n) d K X := ⟨fun q => absurd q ((ix_lx hn).mpr hb).1, fun _ => ⟨fun _ => k, fun q => absurd ((ix_lx hn).mpr hb).2 q⟩⟩
theorem ni0 {n : Nat} (hb : ¬ lx p n) (hn : n < 2147483648) (x : X "java/lang/IndexOutOfBoundsException" d) : w_X10_needIndex E p (nI n) d K X := ⟨fun _ => x, fun q1 => ⟨fun q2 => absurd ((ix_lx hn).mp ⟨q1, q2⟩) hb, fun _ => x⟩⟩
theorem nr1 {t c w m n : Nat} (h : TE E t c w m) (hd : TD d t w m n) (hm : m ≤ 400) (hn : n < m) (k : K d) : w_X10_needRoom E t d K X := ⟨h.1, T_full h hd hm (fun _ => ⟨fun _ => k, fun q => absurd rfl q⟩) (fun q => absurd q (by omega))⟩
theorem nr0 {t c w m n : Nat} (h : TE E t c w m) (hd : TD d t w m n) (hm : m ≤ 400) (hn : n = m) (x : X "java/lang/UnsupportedOperationException" d) : w_X10_needRoom E t d K X := ⟨h.1, T_full h hd hm (fun q => absurd q (by omega)) (fun _ => ⟨fun q => absurd q (by decide), fun _ => x⟩)⟩
theorem np1 (h : Env σ E) {n : Nat} (hd : TD d (σ 2) 3 12 n) (hb : lx p n) (k : K d) : w_X10_needPerson E (σ 0) p d K X := by
  have := hd.2.2.2
  simp only [w_X10_needPerson, x_0_0 h, x_1_1 h]
  exact ⟨eo_0 h, T_size (te_2 h) hd (ni1 hb (by omega) k)⟩
theorem np0 (h : Env σ E) {n : Nat} (hd : TD d (σ 2) 3 12 n) (hb : ¬ lx p n) (x : X "java/lang/IndexOutOfBoundsException" d) : w_X10_needPerson E (σ 0) p d K X := by
  have := hd.2.2.2
  simp only [w_X10_needPerson, x_0_0 h, x_1_1 h]
  exact ⟨eo_0 h, T_size (te_2 h) hd (ni0 hb (by omega) x)⟩
theorem nh1 (h : Env σ E) {n : Nat} (hd : TD d (σ 4) 7 10 n) (hb : lx p n) (k : K d) : w_X10_needHut E (σ 0) p d K X := by
  have := hd.2.2.2
  simp only [w_X10_needHut, x_0_0 h, x_1_2 h]
  exact ⟨eo_0 h, T_size (te_4 h) hd (ni1 hb (by omega) k)⟩
theorem nh0 (h : Env σ E) {n : Nat} (hd : TD d (σ 4) 7 10 n) (hb : ¬ lx p n) (x : X "java/lang/IndexOutOfBoundsException" d) : w_X10_needHut E (σ 0) p d K X := by
  have := hd.2.2.2
  simp only [w_X10_needHut, x_0_0 h, x_1_2 h]
  exact ⟨eo_0 h, T_size (te_4 h) hd (ni0 hb (by omega) x)⟩
/-! the reference's -/
theorem ri1 (hb : bw p a b) (k : K1 1 d) : w_X11_in E p a b d K1 := ⟨fun q => absurd q hb.1, fun _ => ⟨fun q => absurd q hb.2, fun _ => k⟩⟩
theorem ri0 (hb : ¬ bw p a b) (k : K1 0 d) : w_X11_in E p a b d K1 := ⟨fun _ => k, fun q1 => ⟨fun _ => k, fun q2 => absurd ⟨q1, q2⟩ hb⟩⟩
theorem ry1 (hb : bw p 1900 2099) (k : K1 0 d) : w_X11_noYear E p d K1 := ri1 hb ⟨fun _ => k, fun q => absurd q (by decide)⟩
theorem ry0 (hb : ¬ bw p 1900 2099) (k : K1 1 d) : w_X11_noYear E p d K1 := ri0 hb ⟨fun q => absurd rfl q, fun _ => k⟩
theorem rd1 (hb : bw p 0 59) (k : K1 0 d) : w_X11_noDay E p d K1 := ri1 hb ⟨fun _ => k, fun q => absurd q (by decide)⟩
theorem rd0 (hb : ¬ bw p 0 59) (k : K1 1 d) : w_X11_noDay E p d K1 := ri0 hb ⟨fun q => absurd rfl q, fun _ => k⟩
theorem rt0 (h : Env σ E) (k : K1 0 d) : w_X11_throwsIf E (σ 87) 0 p d K1 := ⟨eo_87 h, fun _ => ⟨Or.inl rfl, k⟩, fun q => absurd rfl q⟩
theorem rt1 (h : Env σ E) (k : K1 1 (pI d (σ 87) 0 p)) : w_X11_throwsIf E (σ 87) 1 p d K1 := ⟨eo_87 h, fun q => absurd q (by decide), fun _ => ⟨Or.inr rfl, k⟩⟩
theorem ro1 (h : Env σ E) {c n : Nat} (hc : c < 4851) (e : gA d (σ 88) c = nI n) (hn : n < 2147483648) (hb : lx p n) (k : K1 0 d) : w_X11_none E (σ 87) p (nI c) d K1 := by
  simp only [w_X11_none, x_87_1 h, en_88 h, z_nn (show c < 2147483648 by omega), e]
  exact ⟨eo_87 h, vpi hc (by decide), ri1 ((bw_lx hn).mpr hb) ⟨fun _ => k, fun q => absurd q (by decide)⟩⟩
theorem ro0 (h : Env σ E) {c n : Nat} (hc : c < 4851) (e : gA d (σ 88) c = nI n) (hn : n < 2147483648) (hb : ¬ lx p n) (k : K1 1 d) : w_X11_none E (σ 87) p (nI c) d K1 := by
  simp only [w_X11_none, x_87_1 h, en_88 h, z_nn (show c < 2147483648 by omega), e]
  exact ⟨eo_87 h, vpi hc (by decide), ri0 (fun q => hb ((bw_lx hn).mp q)) ⟨fun q => absurd rfl q, fun _ => k⟩⟩
theorem rpn1 (h : Env σ E) {n : Nat} (e : gA d (σ 88) 0 = nI n) (hn : n < 2147483648) (hb : lx p n) (k : K1 0 d) : w_X11_noPerson E (σ 87) p d K1 := ⟨eo_87 h, ro1 (c := 0) h (by decide) e hn hb ⟨Or.inl rfl, k⟩⟩
theorem rpn0 (h : Env σ E) {n : Nat} (e : gA d (σ 88) 0 = nI n) (hn : n < 2147483648) (hb : ¬ lx p n) (k : K1 1 d) : w_X11_noPerson E (σ 87) p d K1 := ⟨eo_87 h, ro0 (c := 0) h (by decide) e hn hb ⟨Or.inr rfl, k⟩⟩
theorem rhn1 (h : Env σ E) {n : Nat} (e : gA d (σ 88) 1 = nI n) (hn : n < 2147483648) (hb : lx p n) (k : K1 0 d) : w_X11_noHut E (σ 87) p d K1 := ⟨eo_87 h, ro1 (c := 1) h (by decide) e hn hb ⟨Or.inl rfl, k⟩⟩
theorem rhn0 (h : Env σ E) {n : Nat} (e : gA d (σ 88) 1 = nI n) (hn : n < 2147483648) (hb : ¬ lx p n) (k : K1 1 d) : w_X11_noHut E (σ 87) p d K1 := ⟨eo_87 h, ro0 (c := 1) h (by decide) e hn hb ⟨Or.inr rfl, k⟩⟩
theorem r_persons (h : Env σ E) (k : K1 (gA d (σ 88) 0) d) : w_X11_persons E (σ 87) d K1 := by
  simp only [w_X11_persons, x_87_1 h, en_88 h]; exact ⟨eo_87 h, vpi (k := 0) (by decide) (by decide), k⟩
theorem r_huts (h : Env σ E) (k : K1 (gA d (σ 88) 1) d) : w_X11_huts E (σ 87) d K1 := by
  simp only [w_X11_huts, x_87_1 h, en_88 h]; exact ⟨eo_87 h, vpi (k := 1) (by decide) (by decide), k⟩
theorem r_lin (a b k c : Nat) : nI a + nI b * nI k + nI c = nI (a + b * k + c) := by rw [z_mul, z_add, z_add]
theorem r_ofPerson (h : Env σ E) {r c : Nat} (hr : r < 400) (hc : c < 10) (k : K1 (gA d (σ 88) (14 + 3 * r + c)) d) : w_X11_ofPerson E (σ 87) (nI r) (nI c) d K1 := by
  have e : (14 : Int32) + 3 * nI r + nI c = nI (14 + 3 * r + c) := r_lin 14 3 r c
  simp only [w_X11_ofPerson, x_87_1 h, en_88 h, e, z_nn (show 14 + 3 * r + c < 2147483648 by omega)]; exact ⟨eo_87 h, vpi (by omega) (by decide), k⟩
theorem r_ofHut (h : Env σ E) {r c : Nat} (hr : r < 400) (hc : c < 10) (k : K1 (gA d (σ 88) (50 + 7 * r + c)) d) : w_X11_ofHut E (σ 87) (nI r) (nI c) d K1 := by
  have e : (50 : Int32) + 7 * nI r + nI c = nI (50 + 7 * r + c) := r_lin 50 7 r c
  simp only [w_X11_ofHut, x_87_1 h, en_88 h, e, z_nn (show 50 + 7 * r + c < 2147483648 by omega)]; exact ⟨eo_87 h, vpi (by omega) (by decide), k⟩
theorem r_ofEvent (h : Env σ E) {r c : Nat} (hr : r < 400) (hc : c < 10) (k : K1 (gA d (σ 88) (120 + 6 * r + c)) d) : w_X11_ofEvent E (σ 87) (nI r) (nI c) d K1 := by
  have e : (120 : Int32) + 6 * nI r + nI c = nI (120 + 6 * r + c) := r_lin 120 6 r c
  simp only [w_X11_ofEvent, x_87_1 h, en_88 h, e, z_nn (show 120 + 6 * r + c < 2147483648 by omega)]; exact ⟨eo_87 h, vpi (by omega) (by decide), k⟩
end
/-- three numbers put behind a table of the reference -/
def put3 (d : Dy) (a c o n : Nat) (x y z : Int32) : Dy := pA (pA (pA (pA d a (o + 3 * n) x) a (o + 3 * n + 1) y) a (o + 3 * n + 2) z) a c (nI (n + 1))
theorem r_puts (h : Env σ E) {c o n : Nat} {x y z : Int32} {K1 : Int32 → Dy → Prop} (hc : c < 14) (ho : 14 ≤ o) (e : gA d (σ 88) c = nI n) (hn : o + 3 * n + 3 < 600) (k : K1 (nI (n + 1)) (put3 d (σ 88) c o n x y z)) : w_X11_puts E (σ 87) (nI c) (nI o) x y z d K1 := by
  have e1 : nI o + 3 * nI n = nI (o + 3 * n) := by rw [show (3 : Int32) = nI 3 from rfl, z_mul, z_add]
  have e2 : nI (o + 3 * n) + 1 = nI (o + 3 * n + 1) := z_add _ 1
  have e3 : nI (o + 3 * n) + 2 = nI (o + 3 * n + 2) := z_add _ 2
  have e4 : nI n + 1 = nI (n + 1) := z_add _ 1
  have q1 : ¬ c = o + 3 * n + 2 := by omega
  have q2 : ¬ c = o + 3 * n + 1 := by omega
  have q3 : ¬ c = o + 3 * n := by omega
  simp only [w_X11_puts, x_87_1 h, en_88 h, z_nn (show c < 2147483648 by omega), e, e1, e2, e3, z_nn (show o + 3 * n < 2147483648 by omega), z_nn (show o + 3 * n + 1 < 2147483648 by omega), z_nn (show o + 3 * n + 2 < 2147483648 by omega), gA_pA_x, if_true, if_neg q1, if_neg q2, if_neg q3, e4]
  exact ⟨eo_87 h, vpi (by omega) (by decide), vpi (by omega) (by decide), vpi (by omega) (by decide), vpi (by omega) (by decide), vpi (by omega) (by decide), vpi (by omega) (by decide), vpi (by omega) (by decide), k⟩
def c3 (x y z : Int32) : Nat → Int32 := fun c => if c = 0 then x else if c = 1 then y else z
theorem put3_W (d : Dy) (a i n : Nat) (x y z : Int32) (hi : i < 10) (h5 : i ≠ 5) (hw : wI i = 3) : gA (put3 d a (cI i) (oI i) n x y z) a = appW (gA d a) i n (c3 x y z) := by
  have := cI_lt hi h5
  have := reg_lo hi
  funext k
  simp only [put3, gA_pA_x, if_true, appW, hw]
  by_cases h1 : k = cI i
  · simp only [if_pos h1]
  · simp only [if_neg h1]
    by_cases h2 : k = oI i + 3 * n + 2
    · rw [if_pos h2, if_pos (by omega), show k - (oI i + 3 * n) = 2 by omega]; rfl
    · rw [if_neg h2]
      by_cases h3 : k = oI i + 3 * n + 1
      · rw [if_pos h3, if_pos (by omega), show k - (oI i + 3 * n) = 1 by omega]; rfl
      · rw [if_neg h3]
        by_cases h4 : k = oI i + 3 * n
        · rw [if_pos h4, if_pos (by omega), show k - (oI i + 3 * n) = 0 by omega]; rfl
        · rw [if_neg h4, if_neg (by omega)]
end
