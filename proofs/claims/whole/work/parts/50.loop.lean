def lawT (E : En) (a1 a2 a3 : Nat) (v4 : Int32) (xs : Nat → Int32) (L : Nat) (kc : En → Dy → Prop) (d : Dy) : Prop := ¬ (nI L - 6) < v4 → vp_in v4 L ∧ ((xs (v4).toNatClampNeg &&& 63) = 0 → lw_228 E a1 a2 a3 v4 xs L kc d) ∧ ((xs (v4).toNatClampNeg &&& 63) = 1 → lw_301 E a1 a2 a3 v4 xs L kc d) ∧ ((xs (v4).toNatClampNeg &&& 63) = 2 → lw_326 E a1 a2 a3 v4 xs L kc d) ∧ ((xs (v4).toNatClampNeg &&& 63) = 3 → lw_382 E a1 a2 a3 v4 xs L kc d) ∧ ((xs (v4).toNatClampNeg &&& 63) = 4 → lw_395 E a1 a2 a3 v4 xs L kc d) ∧ ((xs (v4).toNatClampNeg &&& 63) = 5 → lw_451 E a1 a2 a3 v4 xs L kc d) ∧ ((xs (v4).toNatClampNeg &&& 63) = 6 → lw_547 E a1 a2 a3 v4 xs L kc d) ∧ ((xs (v4).toNatClampNeg &&& 63) = 7 → lw_627 E a1 a2 a3 v4 xs L kc d) ∧ ((xs (v4).toNatClampNeg &&& 63) = 8 → lw_719 E a1 a2 a3 v4 xs L kc d) ∧ ((xs (v4).toNatClampNeg &&& 63) = 9 → lw_811 E a1 a2 a3 v4 xs L kc d) ∧ ((xs (v4).toNatClampNeg &&& 63) = 10 → lw_891 E a1 a2 a3 v4 xs L kc d) ∧ ((xs (v4).toNatClampNeg &&& 63) = 11 → lw_971 E a1 a2 a3 v4 xs L kc d) ∧ ((xs (v4).toNatClampNeg &&& 63) = 12 → lw_1051 E a1 a2 a3 v4 xs L kc d) ∧ ((xs (v4).toNatClampNeg &&& 63) = 13 → lw_1143 E a1 a2 a3 v4 xs L kc d) ∧ ((xs (v4).toNatClampNeg &&& 63) = 14 → lw_1223 E a1 a2 a3 v4 xs L kc d) ∧ ((xs (v4).toNatClampNeg &&& 63) = 15 → lw_1291 E a1 a2 a3 v4 xs L kc d) ∧ ((xs (v4).toNatClampNeg &&& 63) = 16 → lw_1359 E a1 a2 a3 v4 xs L kc d) ∧ ((xs (v4).toNatClampNeg &&& 63) = 17 → lw_1427 E a1 a2 a3 v4 xs L kc d) ∧ ((xs (v4).toNatClampNeg &&& 63) = 18 → lw_1507 E a1 a2 a3 v4 xs L kc d) ∧ ((xs (v4).toNatClampNeg &&& 63) = 19 → lw_1563 E a1 a2 a3 v4 xs L kc d) ∧ ((xs (v4).toNatClampNeg &&& 63) = 20 → lw_1647 E a1 a2 a3 v4 xs L kc d) ∧ ((xs (v4).toNatClampNeg &&& 63) = 21 → lw_1715 E a1 a2 a3 v4 xs L kc d) ∧ ((xs (v4).toNatClampNeg &&& 63) = 22 → lw_1771 E a1 a2 a3 v4 xs L kc d) ∧ ((xs (v4).toNatClampNeg &&& 63) = 23 → lw_1863 E a1 a2 a3 v4 xs L kc d) ∧ ((xs (v4).toNatClampNeg &&& 63) = 24 → lw_1911 E a1 a2 a3 v4 xs L kc d) ∧ ((xs (v4).toNatClampNeg &&& 63) = 25 → lw_2019 E a1 a2 a3 v4 xs L kc d) ∧ ((xs (v4).toNatClampNeg &&& 63) = 26 → lw_2079 E a1 a2 a3 v4 xs L kc d) ∧ ((xs (v4).toNatClampNeg &&& 63) = 27 → lw_2147 E a1 a2 a3 v4 xs L kc d) ∧ ((xs (v4).toNatClampNeg &&& 63) = 28 → lw_2243 E a1 a2 a3 v4 xs L kc d) ∧ ((xs (v4).toNatClampNeg &&& 63) = 29 → lw_2339 E a1 a2 a3 v4 xs L kc d) ∧ ((xs (v4).toNatClampNeg &&& 63) = 30 → lw_2435 E a1 a2 a3 v4 xs L kc d) ∧ ((xs (v4).toNatClampNeg &&& 63) = 31 → lw_2495 E a1 a2 a3 v4 xs L kc d) ∧ ((xs (v4).toNatClampNeg &&& 63) = 32 → lw_2575 E a1 a2 a3 v4 xs L kc d) ∧ ((xs (v4).toNatClampNeg &&& 63) = 33 → lw_2589 E a1 a2 a3 v4 xs L kc d) ∧ ((xs (v4).toNatClampNeg &&& 63) = 34 → lw_2645 E a1 a2 a3 v4 xs L kc d) ∧ ((xs (v4).toNatClampNeg &&& 63) = 35 → lw_2725 E a1 a2 a3 v4 xs L kc d) ∧ ((xs (v4).toNatClampNeg &&& 63) = 36 → lw_2793 E a1 a2 a3 v4 xs L kc d) ∧ ((xs (v4).toNatClampNeg &&& 63) = 37 → lw_2849 E a1 a2 a3 v4 xs L kc d) ∧ ((xs (v4).toNatClampNeg &&& 63) = 38 → lw_2905 E a1 a2 a3 v4 xs L kc d) ∧ ((xs (v4).toNatClampNeg &&& 63) = 39 → lw_2961 E a1 a2 a3 v4 xs L kc d) ∧ ((xs (v4).toNatClampNeg &&& 63) = 40 → lw_3002 E a1 a2 a3 v4 xs L kc d) ∧ ((xs (v4).toNatClampNeg &&& 63) = 41 → lw_3013 E a1 a2 a3 v4 xs L kc d) ∧ ((xs (v4).toNatClampNeg &&& 63) = 42 → lw_3026 E a1 a2 a3 v4 xs L kc d) ∧ (¬ (xs (v4).toNatClampNeg &&& 63) = 0 → ¬ (xs (v4).toNatClampNeg &&& 63) = 1 → ¬ (xs (v4).toNatClampNeg &&& 63) = 2 → ¬ (xs (v4).toNatClampNeg &&& 63) = 3 → ¬ (xs (v4).toNatClampNeg &&& 63) = 4 → ¬ (xs (v4).toNatClampNeg &&& 63) = 5 → ¬ (xs (v4).toNatClampNeg &&& 63) = 6 → ¬ (xs (v4).toNatClampNeg &&& 63) = 7 → ¬ (xs (v4).toNatClampNeg &&& 63) = 8 → ¬ (xs (v4).toNatClampNeg &&& 63) = 9 → ¬ (xs (v4).toNatClampNeg &&& 63) = 10 → ¬ (xs (v4).toNatClampNeg &&& 63) = 11 → ¬ (xs (v4).toNatClampNeg &&& 63) = 12 → ¬ (xs (v4).toNatClampNeg &&& 63) = 13 → ¬ (xs (v4).toNatClampNeg &&& 63) = 14 → ¬ (xs (v4).toNatClampNeg &&& 63) = 15 → ¬ (xs (v4).toNatClampNeg &&& 63) = 16 → ¬ (xs (v4).toNatClampNeg &&& 63) = 17 → ¬ (xs (v4).toNatClampNeg &&& 63) = 18 → ¬ (xs (v4).toNatClampNeg &&& 63) = 19 → ¬ (xs (v4).toNatClampNeg &&& 63) = 20 → ¬ (xs (v4).toNatClampNeg &&& 63) = 21 → ¬ (xs (v4).toNatClampNeg &&& 63) = 22 → ¬ (xs (v4).toNatClampNeg &&& 63) = 23 → ¬ (xs (v4).toNatClampNeg &&& 63) = 24 → ¬ (xs (v4).toNatClampNeg &&& 63) = 25 → ¬ (xs (v4).toNatClampNeg &&& 63) = 26 → ¬ (xs (v4).toNatClampNeg &&& 63) = 27 → ¬ (xs (v4).toNatClampNeg &&& 63) = 28 → ¬ (xs (v4).toNatClampNeg &&& 63) = 29 → ¬ (xs (v4).toNatClampNeg &&& 63) = 30 → ¬ (xs (v4).toNatClampNeg &&& 63) = 31 → ¬ (xs (v4).toNatClampNeg &&& 63) = 32 → ¬ (xs (v4).toNatClampNeg &&& 63) = 33 → ¬ (xs (v4).toNatClampNeg &&& 63) = 34 → ¬ (xs (v4).toNatClampNeg &&& 63) = 35 → ¬ (xs (v4).toNatClampNeg &&& 63) = 36 → ¬ (xs (v4).toNatClampNeg &&& 63) = 37 → ¬ (xs (v4).toNatClampNeg &&& 63) = 38 → ¬ (xs (v4).toNatClampNeg &&& 63) = 39 → ¬ (xs (v4).toNatClampNeg &&& 63) = 40 → ¬ (xs (v4).toNatClampNeg &&& 63) = 41 → ¬ (xs (v4).toNatClampNeg &&& 63) = 42 → kc E d)
def lawL (a1 a2 a3 : Nat) (xs : Nat → Int32) (L : Nat) : Nat → En → Dy → Int32 → Prop
  | 0 => fun _ _ _ => False
  | n + 1 => fun E d v4 => lawT E a1 a2 a3 v4 xs L (fun E' d' => lawL a1 a2 a3 xs L n E' d' (v4 + 6)) d
set_option maxRecDepth 100000 in
set_option maxHeartbeats 4000000 in
theorem law_loop {p : Program} {l : Launch} {e : Env} {s : State} {m : MethodId} {below : List Frame} {meth : Method} {c : Code} {D : va_G} {cs : Nat → ClassId} {b L : Nat} {xs : Nat → Int32} {T0 : Cond} (hst : l.stackTraces = false) (S : CallFix p m c cL_law 7 s #[Value.ref b] (T0 :: wsL_law) RL) (hr : meth.sig.returnType = ret) (hlocks : meth.locks = false) (hX : va_X b L xs s s.heap) (hbl : b < s.heap.size) {a1 a2 a3 : Nat} :
    ∀ (n : Nat) (E : En) (d : Dy) (v4 : Int32) (H : Heap) (locs : List Loc) (ls : Array Slot) (cl sl : Nat), lawL a1 a2 a3 xs L n E d v4 → cl + n * 60 ≤ 634061 → sl + n * 1400 ≤ 7193921 → Wd D cs (fun q => s.heap.size ≤ q) s.heap s E d H locs → lv_has ls 7 [(0, .ref b), (1, .ref a1), (2, .ref a2), (3, .ref a3), (4, .int v4)] → W p l e room_1 s m #[Value.ref b] below meth c H locs cl sl (lw_Z below #[Value.ref b] s) (F0 m 23 ls []) := by
  have hbA : ¬ (fun q : Nat => s.heap.size ≤ q) b := Nat.not_le.mpr hbl
  intro n
  induction n with
  | zero => intro E d v4 H locs ls cl sl h; exact absurd h id
  | succ n ih =>
    intro E d v4 H locs ls cl sl h hcl hsl hw hl
    have h : lawT E a1 a2 a3 v4 xs L (fun E' d' => lawL a1 a2 a3 xs L n E' d' (v4 + 6)) d := h
    have hcl1 : cl + 60 ≤ 634061 := by omega
    have hsl1 : sl + 1400 ≤ 7193921 := by omega
    have hk : ∀ (E9 : En) (d9 : Dy) (H : Heap) (locs : List Loc) (ls : Array Slot), (fun E' d' => lawL a1 a2 a3 xs L n E' d' (v4 + 6)) E9 d9 → Wd D cs (fun q => s.heap.size ≤ q) s.heap s E9 d9 H locs → lv_has ls 7 [(0, .ref b), (1, .ref a1), (2, .ref a2), (3, .ref a3), (4, .int v4)] → W p l e room_1 s m #[Value.ref b] below meth c H locs (cl + 60) (sl + 1400) (lw_Z below #[Value.ref b] s) (F0 m 3051 ls []) := by
      intro E9 d9 H locs ls h hw hl
      refine lv_iinc (v := v4 + 6) (lv' := [(4, .int (v4 + 6)), (0, .ref b), (1, .ref a1), (2, .ref a2), (3, .ref a3)]) S.1 S.2.1 (dd_at ddL_law_x25 12 rfl) hl (k := 4) rfl rfl (by decide) rfl (fun ls hl => ?_)
      refine lv_goto (tgt := 23) S.1 S.2.1 (dd_at ddL_law_x25 13 rfl) (by decide) ?_
      exact ih E9 d9 (v4 + 6) H locs ls _ _ h (by omega) (by omega) hw (lv_sub hl [1, 2, 3, 4, 0] rfl)
    unfold lawT at h
    refine lv_iload S.1 S.2.1 (dd_at ddL_law_0 13 rfl) (lv_at hl 4 rfl) ?_
    refine lv_aload_n S.1 S.2.1 (dd_at ddL_law_0 14 rfl) rfl (lv_at hl 0 rfl) ?_
    refine va_slen S.1 S.2.1 hX hbl hbA hw.2.2.2.1 (dd_at ddL_law_0 15 rfl) ?_
    refine lv_bipush (v := 6) S.1 S.2.1 (dd_at ddL_law_0 16 rfl) (by decide) ?_
    refine lv_isub S.1 S.2.1 (dd_at ddL_law_0 17 rfl) ?_
    refine lv_icmp_gt (tgt := 3057) S.1 S.2.1 (dd_at ddL_law_0 18 rfl) (by decide) (fun _ => ?_) (fun hc => ?_)
    · refine lv_iconst (v := 1) S.1 S.2.1 (dd_at ddL_law_x25 14 rfl) (by decide) ?_
      refine va_forget (fun q hq => hw.2.2.2.1.2.2 q hq) ?_
      refine W.widen (k := 634061) (n := 7193921) (by omega) (by omega) ?_
      exact lw_ret S.1 S.2.1 hr hlocks (dd_at ddL_law_x25 15 rfl)
    · obtain ⟨hin, h⟩ := h hc
      refine lv_aload_n S.1 S.2.1 (dd_at ddL_law_0 19 rfl) rfl (lv_at hl 0 rfl) ?_
      refine lv_iload S.1 S.2.1 (dd_at ddL_law_0 20 rfl) (lv_at hl 4 rfl) ?_
      refine va_sld S.1 S.2.1 hX hbl hbA hw.2.2.2.1 hin (dd_at ddL_law_0 21 rfl) ?_
      refine lv_bipush (v := 63) S.1 S.2.1 (dd_at ddL_law_0 22 rfl) (by decide) ?_
      refine lv_iand S.1 S.2.1 (dd_at ddL_law_0 23 rfl) ?_
      by_cases q0 : (xs (v4).toNatClampNeg &&& 63) = 0
      · have h := h.1 q0
        refine lv_tableIn (off := 188) (tgt := 228) S.1 S.2.1 (dd_at ddL_law_0 24 rfl) (by rw [q0]; decide) (by rw [q0]; decide) (by rw [q0]; rfl) (by decide) ?_
        exact lc_228 hst S hX hbl hcl1 hsl1 hk h hw hl
      by_cases q1 : (xs (v4).toNatClampNeg &&& 63) = 1
      · have h := h.2.1 q1
        refine lv_tableIn (off := 261) (tgt := 301) S.1 S.2.1 (dd_at ddL_law_0 24 rfl) (by rw [q1]; decide) (by rw [q1]; decide) (by rw [q1]; rfl) (by decide) ?_
        exact lc_301 hst S hX hbl hcl1 hsl1 hk h hw hl
      by_cases q2 : (xs (v4).toNatClampNeg &&& 63) = 2
      · have h := h.2.2.1 q2
        refine lv_tableIn (off := 286) (tgt := 326) S.1 S.2.1 (dd_at ddL_law_0 24 rfl) (by rw [q2]; decide) (by rw [q2]; decide) (by rw [q2]; rfl) (by decide) ?_
        exact lc_326 hst S hX hbl hcl1 hsl1 hk h hw hl
      by_cases q3 : (xs (v4).toNatClampNeg &&& 63) = 3
      · have h := h.2.2.2.1 q3
        refine lv_tableIn (off := 342) (tgt := 382) S.1 S.2.1 (dd_at ddL_law_0 24 rfl) (by rw [q3]; decide) (by rw [q3]; decide) (by rw [q3]; rfl) (by decide) ?_
        exact lc_382 hst S hX hbl hcl1 hsl1 hk h hw hl
      by_cases q4 : (xs (v4).toNatClampNeg &&& 63) = 4
      · have h := h.2.2.2.2.1 q4
        refine lv_tableIn (off := 355) (tgt := 395) S.1 S.2.1 (dd_at ddL_law_0 24 rfl) (by rw [q4]; decide) (by rw [q4]; decide) (by rw [q4]; rfl) (by decide) ?_
        exact lc_395 hst S hX hbl hcl1 hsl1 hk h hw hl
      by_cases q5 : (xs (v4).toNatClampNeg &&& 63) = 5
      · have h := h.2.2.2.2.2.1 q5
        refine lv_tableIn (off := 411) (tgt := 451) S.1 S.2.1 (dd_at ddL_law_0 24 rfl) (by rw [q5]; decide) (by rw [q5]; decide) (by rw [q5]; rfl) (by decide) ?_
        exact lc_451 hst S hX hbl hcl1 hsl1 hk h hw hl
      by_cases q6 : (xs (v4).toNatClampNeg &&& 63) = 6
      · have h := h.2.2.2.2.2.2.1 q6
        refine lv_tableIn (off := 507) (tgt := 547) S.1 S.2.1 (dd_at ddL_law_0 24 rfl) (by rw [q6]; decide) (by rw [q6]; decide) (by rw [q6]; rfl) (by decide) ?_
        exact lc_547 hst S hX hbl hcl1 hsl1 hk h hw hl
      by_cases q7 : (xs (v4).toNatClampNeg &&& 63) = 7
      · have h := h.2.2.2.2.2.2.2.1 q7
        refine lv_tableIn (off := 587) (tgt := 627) S.1 S.2.1 (dd_at ddL_law_0 24 rfl) (by rw [q7]; decide) (by rw [q7]; decide) (by rw [q7]; rfl) (by decide) ?_
        exact lc_627 hst S hX hbl hcl1 hsl1 hk h hw hl
      by_cases q8 : (xs (v4).toNatClampNeg &&& 63) = 8
      · have h := h.2.2.2.2.2.2.2.2.1 q8
        refine lv_tableIn (off := 679) (tgt := 719) S.1 S.2.1 (dd_at ddL_law_0 24 rfl) (by rw [q8]; decide) (by rw [q8]; decide) (by rw [q8]; rfl) (by decide) ?_
        exact lc_719 hst S hX hbl hcl1 hsl1 hk h hw hl
      by_cases q9 : (xs (v4).toNatClampNeg &&& 63) = 9
      · have h := h.2.2.2.2.2.2.2.2.2.1 q9
        refine lv_tableIn (off := 771) (tgt := 811) S.1 S.2.1 (dd_at ddL_law_0 24 rfl) (by rw [q9]; decide) (by rw [q9]; decide) (by rw [q9]; rfl) (by decide) ?_
        exact lc_811 hst S hX hbl hcl1 hsl1 hk h hw hl
      by_cases q10 : (xs (v4).toNatClampNeg &&& 63) = 10
      · have h := h.2.2.2.2.2.2.2.2.2.2.1 q10
        refine lv_tableIn (off := 851) (tgt := 891) S.1 S.2.1 (dd_at ddL_law_0 24 rfl) (by rw [q10]; decide) (by rw [q10]; decide) (by rw [q10]; rfl) (by decide) ?_
        exact lc_891 hst S hX hbl hcl1 hsl1 hk h hw hl
      by_cases q11 : (xs (v4).toNatClampNeg &&& 63) = 11
      · have h := h.2.2.2.2.2.2.2.2.2.2.2.1 q11
        refine lv_tableIn (off := 931) (tgt := 971) S.1 S.2.1 (dd_at ddL_law_0 24 rfl) (by rw [q11]; decide) (by rw [q11]; decide) (by rw [q11]; rfl) (by decide) ?_
        exact lc_971 hst S hX hbl hcl1 hsl1 hk h hw hl
      by_cases q12 : (xs (v4).toNatClampNeg &&& 63) = 12
      · have h := h.2.2.2.2.2.2.2.2.2.2.2.2.1 q12
        refine lv_tableIn (off := 1011) (tgt := 1051) S.1 S.2.1 (dd_at ddL_law_0 24 rfl) (by rw [q12]; decide) (by rw [q12]; decide) (by rw [q12]; rfl) (by decide) ?_
        exact lc_1051 hst S hX hbl hcl1 hsl1 hk h hw hl
      by_cases q13 : (xs (v4).toNatClampNeg &&& 63) = 13
      · have h := h.2.2.2.2.2.2.2.2.2.2.2.2.2.1 q13
        refine lv_tableIn (off := 1103) (tgt := 1143) S.1 S.2.1 (dd_at ddL_law_0 24 rfl) (by rw [q13]; decide) (by rw [q13]; decide) (by rw [q13]; rfl) (by decide) ?_
        exact lc_1143 hst S hX hbl hcl1 hsl1 hk h hw hl
      by_cases q14 : (xs (v4).toNatClampNeg &&& 63) = 14
      · have h := h.2.2.2.2.2.2.2.2.2.2.2.2.2.2.1 q14
        refine lv_tableIn (off := 1183) (tgt := 1223) S.1 S.2.1 (dd_at ddL_law_0 24 rfl) (by rw [q14]; decide) (by rw [q14]; decide) (by rw [q14]; rfl) (by decide) ?_
        exact lc_1223 hst S hX hbl hcl1 hsl1 hk h hw hl
      by_cases q15 : (xs (v4).toNatClampNeg &&& 63) = 15
      · have h := h.2.2.2.2.2.2.2.2.2.2.2.2.2.2.2.1 q15
        refine lv_tableIn (off := 1251) (tgt := 1291) S.1 S.2.1 (dd_at ddL_law_0 24 rfl) (by rw [q15]; decide) (by rw [q15]; decide) (by rw [q15]; rfl) (by decide) ?_
        exact lc_1291 hst S hX hbl hcl1 hsl1 hk h hw hl
      by_cases q16 : (xs (v4).toNatClampNeg &&& 63) = 16
      · have h := h.2.2.2.2.2.2.2.2.2.2.2.2.2.2.2.2.1 q16
        refine lv_tableIn (off := 1319) (tgt := 1359) S.1 S.2.1 (dd_at ddL_law_0 24 rfl) (by rw [q16]; decide) (by rw [q16]; decide) (by rw [q16]; rfl) (by decide) ?_
        exact lc_1359 hst S hX hbl hcl1 hsl1 hk h hw hl
      by_cases q17 : (xs (v4).toNatClampNeg &&& 63) = 17
      · have h := h.2.2.2.2.2.2.2.2.2.2.2.2.2.2.2.2.2.1 q17
        refine lv_tableIn (off := 1387) (tgt := 1427) S.1 S.2.1 (dd_at ddL_law_0 24 rfl) (by rw [q17]; decide) (by rw [q17]; decide) (by rw [q17]; rfl) (by decide) ?_
        exact lc_1427 hst S hX hbl hcl1 hsl1 hk h hw hl
      by_cases q18 : (xs (v4).toNatClampNeg &&& 63) = 18
      · have h := h.2.2.2.2.2.2.2.2.2.2.2.2.2.2.2.2.2.2.1 q18
        refine lv_tableIn (off := 1467) (tgt := 1507) S.1 S.2.1 (dd_at ddL_law_0 24 rfl) (by rw [q18]; decide) (by rw [q18]; decide) (by rw [q18]; rfl) (by decide) ?_
        exact lc_1507 hst S hX hbl hcl1 hsl1 hk h hw hl
      by_cases q19 : (xs (v4).toNatClampNeg &&& 63) = 19
      · have h := h.2.2.2.2.2.2.2.2.2.2.2.2.2.2.2.2.2.2.2.1 q19
        refine lv_tableIn (off := 1523) (tgt := 1563) S.1 S.2.1 (dd_at ddL_law_0 24 rfl) (by rw [q19]; decide) (by rw [q19]; decide) (by rw [q19]; rfl) (by decide) ?_
        exact lc_1563 hst S hX hbl hcl1 hsl1 hk h hw hl
      by_cases q20 : (xs (v4).toNatClampNeg &&& 63) = 20
      · have h := h.2.2.2.2.2.2.2.2.2.2.2.2.2.2.2.2.2.2.2.2.1 q20
        refine lv_tableIn (off := 1607) (tgt := 1647) S.1 S.2.1 (dd_at ddL_law_0 24 rfl) (by rw [q20]; decide) (by rw [q20]; decide) (by rw [q20]; rfl) (by decide) ?_
        exact lc_1647 hst S hX hbl hcl1 hsl1 hk h hw hl
      by_cases q21 : (xs (v4).toNatClampNeg &&& 63) = 21
      · have h := h.2.2.2.2.2.2.2.2.2.2.2.2.2.2.2.2.2.2.2.2.2.1 q21
        refine lv_tableIn (off := 1675) (tgt := 1715) S.1 S.2.1 (dd_at ddL_law_0 24 rfl) (by rw [q21]; decide) (by rw [q21]; decide) (by rw [q21]; rfl) (by decide) ?_
        exact lc_1715 hst S hX hbl hcl1 hsl1 hk h hw hl
      by_cases q22 : (xs (v4).toNatClampNeg &&& 63) = 22
      · have h := h.2.2.2.2.2.2.2.2.2.2.2.2.2.2.2.2.2.2.2.2.2.2.1 q22
        refine lv_tableIn (off := 1731) (tgt := 1771) S.1 S.2.1 (dd_at ddL_law_0 24 rfl) (by rw [q22]; decide) (by rw [q22]; decide) (by rw [q22]; rfl) (by decide) ?_
        exact lc_1771 hst S hX hbl hcl1 hsl1 hk h hw hl
      by_cases q23 : (xs (v4).toNatClampNeg &&& 63) = 23
      · have h := h.2.2.2.2.2.2.2.2.2.2.2.2.2.2.2.2.2.2.2.2.2.2.2.1 q23
        refine lv_tableIn (off := 1823) (tgt := 1863) S.1 S.2.1 (dd_at ddL_law_0 24 rfl) (by rw [q23]; decide) (by rw [q23]; decide) (by rw [q23]; rfl) (by decide) ?_
        exact lc_1863 hst S hX hbl hcl1 hsl1 hk h hw hl
      by_cases q24 : (xs (v4).toNatClampNeg &&& 63) = 24
      · have h := h.2.2.2.2.2.2.2.2.2.2.2.2.2.2.2.2.2.2.2.2.2.2.2.2.1 q24
        refine lv_tableIn (off := 1871) (tgt := 1911) S.1 S.2.1 (dd_at ddL_law_0 24 rfl) (by rw [q24]; decide) (by rw [q24]; decide) (by rw [q24]; rfl) (by decide) ?_
        exact lc_1911 hst S hX hbl hcl1 hsl1 hk h hw hl
      by_cases q25 : (xs (v4).toNatClampNeg &&& 63) = 25
      · have h := h.2.2.2.2.2.2.2.2.2.2.2.2.2.2.2.2.2.2.2.2.2.2.2.2.2.1 q25
        refine lv_tableIn (off := 1979) (tgt := 2019) S.1 S.2.1 (dd_at ddL_law_0 24 rfl) (by rw [q25]; decide) (by rw [q25]; decide) (by rw [q25]; rfl) (by decide) ?_
        exact lc_2019 hst S hX hbl hcl1 hsl1 hk h hw hl
      by_cases q26 : (xs (v4).toNatClampNeg &&& 63) = 26
      · have h := h.2.2.2.2.2.2.2.2.2.2.2.2.2.2.2.2.2.2.2.2.2.2.2.2.2.2.1 q26
        refine lv_tableIn (off := 2039) (tgt := 2079) S.1 S.2.1 (dd_at ddL_law_0 24 rfl) (by rw [q26]; decide) (by rw [q26]; decide) (by rw [q26]; rfl) (by decide) ?_
        exact lc_2079 hst S hX hbl hcl1 hsl1 hk h hw hl
      by_cases q27 : (xs (v4).toNatClampNeg &&& 63) = 27
      · have h := h.2.2.2.2.2.2.2.2.2.2.2.2.2.2.2.2.2.2.2.2.2.2.2.2.2.2.2.1 q27
        refine lv_tableIn (off := 2107) (tgt := 2147) S.1 S.2.1 (dd_at ddL_law_0 24 rfl) (by rw [q27]; decide) (by rw [q27]; decide) (by rw [q27]; rfl) (by decide) ?_
        exact lc_2147 hst S hX hbl hcl1 hsl1 hk h hw hl
      by_cases q28 : (xs (v4).toNatClampNeg &&& 63) = 28
      · have h := h.2.2.2.2.2.2.2.2.2.2.2.2.2.2.2.2.2.2.2.2.2.2.2.2.2.2.2.2.1 q28
        refine lv_tableIn (off := 2203) (tgt := 2243) S.1 S.2.1 (dd_at ddL_law_0 24 rfl) (by rw [q28]; decide) (by rw [q28]; decide) (by rw [q28]; rfl) (by decide) ?_
        exact lc_2243 hst S hX hbl hcl1 hsl1 hk h hw hl
      by_cases q29 : (xs (v4).toNatClampNeg &&& 63) = 29
      · have h := h.2.2.2.2.2.2.2.2.2.2.2.2.2.2.2.2.2.2.2.2.2.2.2.2.2.2.2.2.2.1 q29
        refine lv_tableIn (off := 2299) (tgt := 2339) S.1 S.2.1 (dd_at ddL_law_0 24 rfl) (by rw [q29]; decide) (by rw [q29]; decide) (by rw [q29]; rfl) (by decide) ?_
        exact lc_2339 hst S hX hbl hcl1 hsl1 hk h hw hl
      by_cases q30 : (xs (v4).toNatClampNeg &&& 63) = 30
      · have h := h.2.2.2.2.2.2.2.2.2.2.2.2.2.2.2.2.2.2.2.2.2.2.2.2.2.2.2.2.2.2.1 q30
        refine lv_tableIn (off := 2395) (tgt := 2435) S.1 S.2.1 (dd_at ddL_law_0 24 rfl) (by rw [q30]; decide) (by rw [q30]; decide) (by rw [q30]; rfl) (by decide) ?_
        exact lc_2435 hst S hX hbl hcl1 hsl1 hk h hw hl
      by_cases q31 : (xs (v4).toNatClampNeg &&& 63) = 31
      · have h := h.2.2.2.2.2.2.2.2.2.2.2.2.2.2.2.2.2.2.2.2.2.2.2.2.2.2.2.2.2.2.2.1 q31
        refine lv_tableIn (off := 2455) (tgt := 2495) S.1 S.2.1 (dd_at ddL_law_0 24 rfl) (by rw [q31]; decide) (by rw [q31]; decide) (by rw [q31]; rfl) (by decide) ?_
        exact lc_2495 hst S hX hbl hcl1 hsl1 hk h hw hl
      by_cases q32 : (xs (v4).toNatClampNeg &&& 63) = 32
      · have h := h.2.2.2.2.2.2.2.2.2.2.2.2.2.2.2.2.2.2.2.2.2.2.2.2.2.2.2.2.2.2.2.2.1 q32
        refine lv_tableIn (off := 2535) (tgt := 2575) S.1 S.2.1 (dd_at ddL_law_0 24 rfl) (by rw [q32]; decide) (by rw [q32]; decide) (by rw [q32]; rfl) (by decide) ?_
        exact lc_2575 hst S hX hbl hcl1 hsl1 hk h hw hl
      by_cases q33 : (xs (v4).toNatClampNeg &&& 63) = 33
      · have h := h.2.2.2.2.2.2.2.2.2.2.2.2.2.2.2.2.2.2.2.2.2.2.2.2.2.2.2.2.2.2.2.2.2.1 q33
        refine lv_tableIn (off := 2549) (tgt := 2589) S.1 S.2.1 (dd_at ddL_law_0 24 rfl) (by rw [q33]; decide) (by rw [q33]; decide) (by rw [q33]; rfl) (by decide) ?_
        exact lc_2589 hst S hX hbl hcl1 hsl1 hk h hw hl
      by_cases q34 : (xs (v4).toNatClampNeg &&& 63) = 34
      · have h := h.2.2.2.2.2.2.2.2.2.2.2.2.2.2.2.2.2.2.2.2.2.2.2.2.2.2.2.2.2.2.2.2.2.2.1 q34
        refine lv_tableIn (off := 2605) (tgt := 2645) S.1 S.2.1 (dd_at ddL_law_0 24 rfl) (by rw [q34]; decide) (by rw [q34]; decide) (by rw [q34]; rfl) (by decide) ?_
        exact lc_2645 hst S hX hbl hcl1 hsl1 hk h hw hl
      by_cases q35 : (xs (v4).toNatClampNeg &&& 63) = 35
      · have h := h.2.2.2.2.2.2.2.2.2.2.2.2.2.2.2.2.2.2.2.2.2.2.2.2.2.2.2.2.2.2.2.2.2.2.2.1 q35
        refine lv_tableIn (off := 2685) (tgt := 2725) S.1 S.2.1 (dd_at ddL_law_0 24 rfl) (by rw [q35]; decide) (by rw [q35]; decide) (by rw [q35]; rfl) (by decide) ?_
        exact lc_2725 hst S hX hbl hcl1 hsl1 hk h hw hl
      by_cases q36 : (xs (v4).toNatClampNeg &&& 63) = 36
      · have h := h.2.2.2.2.2.2.2.2.2.2.2.2.2.2.2.2.2.2.2.2.2.2.2.2.2.2.2.2.2.2.2.2.2.2.2.2.1 q36
        refine lv_tableIn (off := 2753) (tgt := 2793) S.1 S.2.1 (dd_at ddL_law_0 24 rfl) (by rw [q36]; decide) (by rw [q36]; decide) (by rw [q36]; rfl) (by decide) ?_
        exact lc_2793 hst S hX hbl hcl1 hsl1 hk h hw hl
      by_cases q37 : (xs (v4).toNatClampNeg &&& 63) = 37
      · have h := h.2.2.2.2.2.2.2.2.2.2.2.2.2.2.2.2.2.2.2.2.2.2.2.2.2.2.2.2.2.2.2.2.2.2.2.2.2.1 q37
        refine lv_tableIn (off := 2809) (tgt := 2849) S.1 S.2.1 (dd_at ddL_law_0 24 rfl) (by rw [q37]; decide) (by rw [q37]; decide) (by rw [q37]; rfl) (by decide) ?_
        exact lc_2849 hst S hX hbl hcl1 hsl1 hk h hw hl
      by_cases q38 : (xs (v4).toNatClampNeg &&& 63) = 38
      · have h := h.2.2.2.2.2.2.2.2.2.2.2.2.2.2.2.2.2.2.2.2.2.2.2.2.2.2.2.2.2.2.2.2.2.2.2.2.2.2.1 q38
        refine lv_tableIn (off := 2865) (tgt := 2905) S.1 S.2.1 (dd_at ddL_law_0 24 rfl) (by rw [q38]; decide) (by rw [q38]; decide) (by rw [q38]; rfl) (by decide) ?_
        exact lc_2905 hst S hX hbl hcl1 hsl1 hk h hw hl
      by_cases q39 : (xs (v4).toNatClampNeg &&& 63) = 39
      · have h := h.2.2.2.2.2.2.2.2.2.2.2.2.2.2.2.2.2.2.2.2.2.2.2.2.2.2.2.2.2.2.2.2.2.2.2.2.2.2.2.1 q39
        refine lv_tableIn (off := 2921) (tgt := 2961) S.1 S.2.1 (dd_at ddL_law_0 24 rfl) (by rw [q39]; decide) (by rw [q39]; decide) (by rw [q39]; rfl) (by decide) ?_
        exact lc_2961 hst S hX hbl hcl1 hsl1 hk h hw hl
      by_cases q40 : (xs (v4).toNatClampNeg &&& 63) = 40
      · have h := h.2.2.2.2.2.2.2.2.2.2.2.2.2.2.2.2.2.2.2.2.2.2.2.2.2.2.2.2.2.2.2.2.2.2.2.2.2.2.2.2.1 q40
        refine lv_tableIn (off := 2962) (tgt := 3002) S.1 S.2.1 (dd_at ddL_law_0 24 rfl) (by rw [q40]; decide) (by rw [q40]; decide) (by rw [q40]; rfl) (by decide) ?_
        exact lc_3002 hst S hX hbl hcl1 hsl1 hk h hw hl
      by_cases q41 : (xs (v4).toNatClampNeg &&& 63) = 41
      · have h := h.2.2.2.2.2.2.2.2.2.2.2.2.2.2.2.2.2.2.2.2.2.2.2.2.2.2.2.2.2.2.2.2.2.2.2.2.2.2.2.2.2.1 q41
        refine lv_tableIn (off := 2973) (tgt := 3013) S.1 S.2.1 (dd_at ddL_law_0 24 rfl) (by rw [q41]; decide) (by rw [q41]; decide) (by rw [q41]; rfl) (by decide) ?_
        exact lc_3013 hst S hX hbl hcl1 hsl1 hk h hw hl
      by_cases q42 : (xs (v4).toNatClampNeg &&& 63) = 42
      · have h := h.2.2.2.2.2.2.2.2.2.2.2.2.2.2.2.2.2.2.2.2.2.2.2.2.2.2.2.2.2.2.2.2.2.2.2.2.2.2.2.2.2.2.1 q42
        refine lv_tableIn (off := 2986) (tgt := 3026) S.1 S.2.1 (dd_at ddL_law_0 24 rfl) (by rw [q42]; decide) (by rw [q42]; decide) (by rw [q42]; rfl) (by decide) ?_
        exact lc_3026 hst S hX hbl hcl1 hsl1 hk h hw hl
      have h := h.2.2.2.2.2.2.2.2.2.2.2.2.2.2.2.2.2.2.2.2.2.2.2.2.2.2.2.2.2.2.2.2.2.2.2.2.2.2.2.2.2.2.2 q0 q1 q2 q3 q4 q5 q6 q7 q8 q9 q10 q11 q12 q13 q14 q15 q16 q17 q18 q19 q20 q21 q22 q23 q24 q25 q26 q27 q28 q29 q30 q31 q32 q33 q34 q35 q36 q37 q38 q39 q40 q41 q42
      have t0 := lv_neT (k := 0) (a := 0) q0 (by decide)
      have t1 := lv_neT (k := 1) (a := 1) q1 (by decide)
      have t2 := lv_neT (k := 2) (a := 2) q2 (by decide)
      have t3 := lv_neT (k := 3) (a := 3) q3 (by decide)
      have t4 := lv_neT (k := 4) (a := 4) q4 (by decide)
      have t5 := lv_neT (k := 5) (a := 5) q5 (by decide)
      have t6 := lv_neT (k := 6) (a := 6) q6 (by decide)
      have t7 := lv_neT (k := 7) (a := 7) q7 (by decide)
      have t8 := lv_neT (k := 8) (a := 8) q8 (by decide)
      have t9 := lv_neT (k := 9) (a := 9) q9 (by decide)
      have t10 := lv_neT (k := 10) (a := 10) q10 (by decide)
      have t11 := lv_neT (k := 11) (a := 11) q11 (by decide)
      have t12 := lv_neT (k := 12) (a := 12) q12 (by decide)
      have t13 := lv_neT (k := 13) (a := 13) q13 (by decide)
      have t14 := lv_neT (k := 14) (a := 14) q14 (by decide)
      have t15 := lv_neT (k := 15) (a := 15) q15 (by decide)
      have t16 := lv_neT (k := 16) (a := 16) q16 (by decide)
      have t17 := lv_neT (k := 17) (a := 17) q17 (by decide)
      have t18 := lv_neT (k := 18) (a := 18) q18 (by decide)
      have t19 := lv_neT (k := 19) (a := 19) q19 (by decide)
      have t20 := lv_neT (k := 20) (a := 20) q20 (by decide)
      have t21 := lv_neT (k := 21) (a := 21) q21 (by decide)
      have t22 := lv_neT (k := 22) (a := 22) q22 (by decide)
      have t23 := lv_neT (k := 23) (a := 23) q23 (by decide)
      have t24 := lv_neT (k := 24) (a := 24) q24 (by decide)
      have t25 := lv_neT (k := 25) (a := 25) q25 (by decide)
      have t26 := lv_neT (k := 26) (a := 26) q26 (by decide)
      have t27 := lv_neT (k := 27) (a := 27) q27 (by decide)
      have t28 := lv_neT (k := 28) (a := 28) q28 (by decide)
      have t29 := lv_neT (k := 29) (a := 29) q29 (by decide)
      have t30 := lv_neT (k := 30) (a := 30) q30 (by decide)
      have t31 := lv_neT (k := 31) (a := 31) q31 (by decide)
      have t32 := lv_neT (k := 32) (a := 32) q32 (by decide)
      have t33 := lv_neT (k := 33) (a := 33) q33 (by decide)
      have t34 := lv_neT (k := 34) (a := 34) q34 (by decide)
      have t35 := lv_neT (k := 35) (a := 35) q35 (by decide)
      have t36 := lv_neT (k := 36) (a := 36) q36 (by decide)
      have t37 := lv_neT (k := 37) (a := 37) q37 (by decide)
      have t38 := lv_neT (k := 38) (a := 38) q38 (by decide)
      have t39 := lv_neT (k := 39) (a := 39) q39 (by decide)
      have t40 := lv_neT (k := 40) (a := 40) q40 (by decide)
      have t41 := lv_neT (k := 41) (a := 41) q41 (by decide)
      have t42 := lv_neT (k := 42) (a := 42) q42 (by decide)
      refine lv_tableOut (tgt := 3051) S.1 S.2.1 (dd_at ddL_law_0 24 rfl) (by omega) (by decide) ?_
      exact W.widen (k := cl + 60) (n := sl + 1400) (Nat.le_add_right _ _) (Nat.le_add_right _ _) (hk _ _ _ _ _ h hw hl)
