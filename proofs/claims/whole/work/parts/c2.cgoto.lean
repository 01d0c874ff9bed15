section
variable {σ : Nat → Nat} {E : En} {d d' d2 d3 : Dy} {W : Nat → Int32} {B np nh : Nat} {S : RS} {K : Int32 → Dy → Prop} {K0 : Dy → Prop}
/-- the class's replay stands behind the year Y -/
def cst (σ : Nat → Nat) (B : Nat) (d : Dy) (W : Nat → Int32) (np nh : Nat) (kn : Int32) (Y : Nat) : Prop :=
  gI d (σ B) 1 = kn ∧ ∃ j, j ≤ cnt W 2 ∧ gI d (σ B) 3 = nI j ∧ (ordr (kyI W 2) (cnt W 2)).take j = upto (kyI W 2) (cnt W 2) Y ∧ clsR σ B np nh d (repS W np nh Y kn)
theorem ky_nat (hW : WI W) : ∀ e, e < cnt W 2 → ∃ m, 1900 ≤ m ∧ m ≤ 2099 ∧ kyI W 2 e = nI m := fun e he => (ev_nums hW he).1
theorem cst_begin (hW : WI W) {kn : Int32} (h1 : gI d (σ B) 1 = kn) (h3 : gI d (σ B) 3 = nI 0) (C : clsR σ B np nh d (rs0 W)) : cst σ B d W np nh kn 1899 := by
  have : upto (kyI W 2) (cnt W 2) 1899 = [] := upto_lo (fun e he => by obtain ⟨m, hm1, hm, e2⟩ := ky_nat hW e he; rw [e2, z_nn (by omega)]; omega)
  refine ⟨h1, 0, by omega, h3, ?_, ?_⟩
  · rw [this]; rfl
  · unfold repS evs; rw [this]; exact C
theorem k_goTo (c : cW σ E d W np nh) (hB : RB B) {kn : Int32} {Y0 Y : Nat} (s : cst σ B d W np nh kn Y0) (hY : Y0 ≤ Y) (hY2 : Y ≤ 2099) (k : ∀ d', Ch σ (cL B) d d' → gI d' (σ B) 2 = nI Y → cst σ B d' W np nh kn Y → K0 d') : w_X3_goTo E (σ B) (nI Y) d K0 := by
  have h := c.1.1
  obtain ⟨eW, hW, tw, e0, e1, n0, n1, hnp, hnh⟩ := cW_gW c
  obtain ⟨hkn, J, hJ, hJ3, hJt, hJC⟩ := s
  have n40 : cnt W 2 ≤ 40 := (hW.1 2 (by decide) (by decide)).2
  have kyn := ky_nat hW
  refine ⟨y_o h hB, ?_⟩
  rw [hJ3]
  have start : ∀ x ∈ (ordr (kyI W 2) (cnt W 2)).take J, ((kyI W 2) x).toNatClampNeg ≤ Y := fun x hx => by
    rw [hJt] at hx
    have := (List.mem_filter.mp hx).2
    simp at this; omega
  have eR0 : repS W np nh Y0 kn = (((ordr (kyI W 2) (cnt W 2)).take J).filter (fun e => decide (W (125 + 6 * e) ≤ kn))).foldl (hapS W np nh) (rs0 W) := by rw [hJt]; rfl
  rw [eR0] at hJC
  refine ⟨cnt W 2 + 1, loopG (S := Int32 × Dy) (l := fun N z => l_X3_goTo_5 E (σ B) (nI Y) K0 N z.1 z.2) (b := fun kk z => b_X3_goTo_5 E (σ B) (nI Y) K0 (fun a b => kk (a, b)) z.1 z.2) (fun _ _ => rfl)
    (μ := fun z => cnt W 2 - z.1.toNatClampNeg) (P := fun z => ∃ j, j ≤ cnt W 2 ∧ nI j = z.1 ∧ Ch σ (cL B) d z.2 ∧ gI z.2 (σ B) 1 = kn ∧ gI z.2 (σ B) 3 = nI j ∧ (∀ x ∈ (ordr (kyI W 2) (cnt W 2)).take j, ((kyI W 2) x).toNatClampNeg ≤ Y) ∧ clsR σ B np nh z.2 ((((ordr (kyI W 2) (cnt W 2)).take j).filter (fun e => decide (W (125 + 6 * e) ≤ kn))).foldl (hapS W np nh) (rs0 W))) ?_ (cnt W 2) (nI J, d) ⟨J, hJ, rfl, Ch_rf, hkn, hJ3, start, hJC⟩ (Nat.sub_le _ _)⟩
  rintro kk ⟨v, d3⟩ ⟨j, hj, rfl, c3, s1, s3, le3, C3⟩ hk
  have c3 : Ch σ (cL B) d d3 := c3
  have s1 : gI d3 (σ B) 1 = kn := s1
  have s3 : gI d3 (σ B) 3 = nI j := s3
  have C3 : clsR σ B np nh d3 ((((ordr (kyI W 2) (cnt W 2)).take j).filter (fun e => decide (W (125 + 6 * e) ≤ kn))).foldl (hapS W np nh) (rs0 W)) := C3
  have w3 := cW_ch c hB c3
  have done : (cnt W 2 ≤ j ∨ Y < ((kyI W 2) ((ordr (kyI W 2) (cnt W 2)).getD j 0)).toNatClampNeg) → K0 (pI d3 (σ B) 2 (nI Y)) := fun hq => by
    have et := upto_take (fun e he => by obtain ⟨m, _, hm, e2⟩ := kyn e he; rw [e2]; exact z_pos (by omega)) le3 hq
    refine k _ (Ch_tr c3 (Chy_0 h hB)) (gI_pI _ _ _ _) ⟨?_, j, hj, ?_, et, ?_⟩
    · rw [gI_pI_k _ _ _ (by decide)]; exact s1
    · rw [gI_pI_k _ _ _ (by decide)]; exact s3
    · rw [et] at C3
      exact cf_0 h hB C3 (by decide)
  simp only [b_X3_goTo_5, y_0 h hB, x_1_3 h]
  refine T_size (te_6 h) (td_6 w3.1) ?_
  rw [w3.2.1, z_le (by omega) (by omega)]
  refine ⟨fun hc => done (Or.inl hc), fun hc => ?_⟩
  have hjn : j < cnt W 2 := by omega
  refine k_evt (cc := 0) (m := 0) w3 hjn (by decide) rfl (by decide) ?_
  have hro : roI W 2 j = (ordr (kyI W 2) (cnt W 2)).getD j 0 := rfl
  obtain ⟨m, hm1, hm2, em⟩ := kyn (roI W 2 j) (ro2_lt hjn)
  have em' : W (120 + 6 * roI W 2 j + 0) = nI m := em
  rw [em', z_lt (by omega) (by omega)]
  have hl : j < (ordr (kyI W 2) (cnt W 2)).length := by rw [ordr_len]; exact hjn
  have etk : (ordr (kyI W 2) (cnt W 2)).take (j + 1) = (ordr (kyI W 2) (cnt W 2)).take j ++ [roI W 2 j] := by
    rw [List.take_succ, hro, List.getD_eq_getElem?_getD, List.getElem?_eq_getElem hl]; rfl
  refine ⟨fun hq => done (Or.inr ?_), fun hq => k_step w3 hB C3 ?_ hjn s1 s3 (fun d4 c4 t1 t3 C4 => ?_)⟩
  · rw [← hro, em, z_nn (by omega)]; exact hq
  · have hh := fold_ok hW (((ordr (kyI W 2) (cnt W 2)).take j).filter (fun e => decide (W (125 + 6 * e) ≤ kn))) (rs0 W) (fun x hx => (ordr_mem _ _ _).mp (List.mem_of_mem_take (List.mem_filter.mp hx).1)) (rs0_ok hW)
    rw [← n0, ← n1] at hh; exact hh
  · rw [z_a1]
    refine hk (nI (j + 1), d4) ⟨j + 1, by omega, rfl, Ch_tr c3 c4, t1, t3, fun x hx => ?_, ?_⟩ (by simp only [z_nn (show j + 1 < 2147483648 by omega), z_nn (show j < 2147483648 by omega)]; omega)
    · rw [etk] at hx
      rcases List.mem_append.mp hx with q | q
      · exact le3 x q
      · have : x = roI W 2 j := by simpa using q
        rw [this, em, z_nn (by omega)]; omega
    · rw [etk, List.filter_append, List.foldl_append]
      by_cases q : W (125 + 6 * roI W 2 j) ≤ kn
      · rw [if_pos q] at C4
        have : List.filter (fun e => decide (W (125 + 6 * e) ≤ kn)) [roI W 2 j] = [roI W 2 j] := by simp [q]
        rw [this]; exact C4
      · rw [if_neg q] at C4
        have : List.filter (fun e => decide (W (125 + 6 * e) ≤ kn)) [roI W 2 j] = [] := by simp [q]
        rw [this]; exact C4
end
