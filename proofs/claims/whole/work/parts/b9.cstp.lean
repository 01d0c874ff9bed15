def sellB (W : Nat → Int32) (S : RS) (kn : Int32) (e : Nat) : Bool := decide (W (121 + 6 * e) = 4) && decide (W (125 + 6 * e) ≤ kn) && (match rsH S (cnt W (122 + 6 * e)) with
  | none => false
  | some o => decide (o ≠ cnt W (123 + 6 * e)) && rsL S (cnt W (123 + 6 * e)))
section
variable {σ : Nat → Nat} {E : En} {d d' d2 d3 : Dy} {W : Nat → Int32} {B np nh : Nat} {S : RS} {K : Int32 → Dy → Prop} {K0 : Dy → Prop}
theorem k_sells (c : cW σ E d W np nh) (hB : RB B) (C : clsR σ B np nh d S) (ok : rsOK np nh S) {j : Nat} (hj : j < cnt W 2) {kn : Int32} (hkn : gI d (σ B) 1 = kn) (k : K (b2i (sellB W S kn (roI W 2 j))) d) : w_X3_sells E (σ B) (nI j) d K := by
  have h := c.1.1
  obtain ⟨eW, hW, tw, e0, e1, n0, n1, hnp, hnh⟩ := cW_gW c
  have he := ro2_lt hj
  generalize hre : roI W 2 j = e at he k
  obtain ⟨-, cc, hcc, ec, c1, c2, c3, c4⟩ := ev_nums hW he
  rw [← n0] at c1 c3
  rw [← n1] at c2 c4
  have q4 : W (121 + 6 * e) = 4 ↔ cc = 4 := by rw [ec, show (4 : Int32) = nI 4 from rfl, z_eq (by omega) (by decide)]
  unfold sellB at k
  generalize hA : cnt W (122 + 6 * e) = A at c1 c2 k
  generalize hBb : cnt W (123 + 6 * e) = Bb at c3 c4 k
  have hAn : W (122 + 6 * e) = nI A ∧ A < 12 := by
    by_cases q : cc ≤ 3
    · exact ⟨(c1 q).2, by have := (c1 q).1; omega⟩
    · exact ⟨(c2 (by omega)).2, by have := (c2 (by omega)).1; omega⟩
  simp only [w_X3_sells, w_X3_holderOf, y_0 h hB, x_1_3 h, y_6 h hB]
  refine ⟨y_o h hB, k_evt (cc := 2) (m := 3) c hj (by decide) rfl (by decide) ?_⟩
  rw [hre, show 120 + 6 * e + 2 = 122 + 6 * e by omega, hAn.1]
  have rest : ∀ x, (cc = 4 → x = encO (rsH S A)) → w_X6_get E (σ 6) (nI j) 4 d (fun r_18 d_17 => w_X6_get E (σ 6) (nI j) 2 d_17 (fun r_26 d_25 => ((¬ r_26 = 4 → K 0 d_25) ∧ (r_26 = 4 → w_X6_get E (σ 6) (nI j) 1 d_25 (fun r_35 d_34 => (((gI d_34 (σ B) 1) < r_35 → K 0 d_34) ∧ (¬ (gI d_34 (σ B) 1) < r_35 → ((x = (-1) → K 0 d_34) ∧ (¬ x = (-1) → ((x = r_18 → K 0 d_34) ∧ (¬ x = r_18 → w_X3_lives E (σ B) r_18 d_34 (fun r_40 d_39 => ((r_40 = 0 → K 0 d_39) ∧ (¬ r_40 = 0 → K 1 d_39)))))))))))))) := fun x hx => by
    refine k_evt (cc := 3) (m := 4) c hj (by decide) rfl (by decide) (k_evt (cc := 1) (m := 2) c hj (by decide) rfl (by decide) ?_)
    rw [hre, show 120 + 6 * e + 3 = 123 + 6 * e by omega, show 120 + 6 * e + 1 = 121 + 6 * e by omega]
    refine ⟨fun q => ?_, fun q => k_evt (cc := 5) (m := 1) c hj (by decide) rfl (by decide) ?_⟩
    · rw [show decide (W (121 + 6 * e) = 4) = false from by simp [q], Bool.false_and, Bool.false_and] at k; exact k
    · rw [hre, show 120 + 6 * e + 5 = 125 + 6 * e by omega, hkn]
      have q' := q4.1 q
      obtain ⟨b1, b2⟩ := c3 (by omega) (by omega)
      obtain ⟨a1, a2⟩ := c2 (by omega)
      rw [hx q', enc_m1 (ok.2.1 A a1) (by omega), b2, enc_eq (ok.2.1 A a1) (by omega) b1]
      rw [show decide (W (121 + 6 * e) = 4) = true from by simp [q], Bool.true_and] at k
      refine ⟨fun v => ?_, fun v => ?_⟩
      · rw [show decide (W (125 + 6 * e) ≤ kn) = false from by simp [Int32.not_le.mpr v], Bool.false_and] at k; exact k
      · rw [show decide (W (125 + 6 * e) ≤ kn) = true from by simp [Int32.not_lt.mp v], Bool.true_and] at k
        refine ⟨fun v2 => ?_, fun v2 => ⟨fun v3 => ?_, fun v3 => k_lives c hB C b1 ?_⟩⟩
        · rw [v2] at k; exact k
        · rw [v3] at k; simp only [ne_eq, not_true_eq_false, decide_false, Bool.false_and] at k; exact k
        · cases hO : rsH S A with
          | none => exact absurd hO v2
          | some o =>
            rw [hO] at k v3
            have ne : o ≠ Bb := fun q => v3 (by rw [q])
            simp only [ne_eq, ne, not_false_eq_true, decide_true, Bool.true_and] at k
            rw [b2i_0]
            refine ⟨fun v4 => ?_, fun v4 => ?_⟩
            · rw [v4] at k; exact k
            · rw [Bool.not_eq_false] at v4; rw [v4] at k; exact k
  refine ⟨y_o h hB, ?_⟩
  by_cases hAh : A < nh
  · refine k_gH (j := 0) c hB C hAh (by decide) (rest _ (fun _ => (C.2.2.2 A hAh).1))
  · exact T_get0 (ye_3 h hB) (ys_3 c.1.2.1 hB C.2.1.2.1 c.2.2.2.2.2) (by omega) (by omega) (by decide) (rest _ (fun q => absurd (c2 (by omega)).1 hAh))
theorem k_step (c : cW σ E d W np nh) (hB : RB B) (C : clsR σ B np nh d S) (ok : rsOK np nh S) {j : Nat} (hj : j < cnt W 2) {kn : Int32} (hkn : gI d (σ B) 1 = kn) (hnx : gI d (σ B) 3 = nI j)
    (k : ∀ d', Ch σ (cL B) d d' → gI d' (σ B) 1 = kn → gI d' (σ B) 3 = nI (j + 1) → clsR σ B np nh d' (if W (125 + 6 * roI W 2 j) ≤ kn then hapS W np nh S (roI W 2 j) else S) → K0 d') : w_X3_step E (σ B) d K0 := by
  have h := c.1.1
  obtain ⟨eW, hW, tw, e0, e1, n0, n1, hnp, hnh⟩ := cW_gW c
  have he := ro2_lt hj
  simp only [w_X3_step, y_0 h hB, x_1_3 h, y_5 h hB, hnx, z_a1]
  have c0 : Ch σ (cL B) d (pI d (σ B) 3 (nI (j + 1))) := Chy_0 h hB
  have C0 : clsR σ B np nh (pI d (σ B) 3 (nI (j + 1))) S := cf_0 h hB C (by decide)
  have s1 : gI (pI d (σ B) 3 (nI (j + 1))) (σ B) 1 = kn := by rw [gI_pI_k _ _ _ (by decide)]; exact hkn
  have s3 : gI (pI d (σ B) 3 (nI (j + 1))) (σ B) 3 = nI (j + 1) := gI_pI _ _ _ _
  generalize pI d (σ B) 3 (nI (j + 1)) = d0 at c0 C0 s1 s3
  have w0 := cW_ch c hB c0
  refine ⟨y_o h hB, k_evt (cc := 5) (m := 1) w0 hj (by decide) rfl (by decide) ?_⟩
  generalize hre : roI W 2 j = e at he k
  rw [s1, show 120 + 6 * e + 5 = 125 + 6 * e by omega]
  refine ⟨fun hl => k_evt (cc := 0) (m := 0) w0 hj (by decide) rfl (by decide) (k_evt (cc := 2) (m := 3) w0 hj (by decide) rfl (by decide) (k_evt (cc := 3) (m := 4) w0 hj (by decide) rfl (by decide) (k_evt (cc := 1) (m := 2) w0 hj (by decide) rfl (by decide) ?_))), fun hl => ?_⟩
  · rw [hre, show 120 + 6 * e + 1 = 121 + 6 * e by omega, show 120 + 6 * e + 2 = 122 + 6 * e by omega, show 120 + 6 * e + 3 = 123 + 6 * e by omega, show 120 + 6 * e + 0 = 120 + 6 * e by omega]
    rw [if_pos hl] at k
    have kf : ∀ d', Ch σ (cL B) d0 d' → (∀ j, j ≠ 4 → gI d' (σ B) j = gI d0 (σ B) j) → clsR σ B np nh d' (hapS W np nh S e) → K0 d' := fun d' c' s' C' => k d' (Ch_tr c0 c') ((s' 1 (by decide)).trans s1) ((s' 3 (by decide)).trans s3) C'
    obtain ⟨-, cc, hcc, ec, c1, c2, c3, c4⟩ := ev_nums hW he
    rw [← n0] at c1 c3
    rw [← n1] at c2 c4
    have kk : ∀ j : Nat, j ≤ 6 → (W (121 + 6 * e) = nI j ↔ cc = j) := fun j hj => by rw [ec, z_eq (by omega) (by omega)]
    have q0 : W (121 + 6 * e) = 0 ↔ cc = 0 := kk 0 (by omega)
    have q1 : W (121 + 6 * e) = 1 ↔ cc = 1 := kk 1 (by omega)
    have q2 : W (121 + 6 * e) = 2 ↔ cc = 2 := kk 2 (by omega)
    have q3 : W (121 + 6 * e) = 3 ↔ cc = 3 := kk 3 (by omega)
    have q4 : W (121 + 6 * e) = 4 ↔ cc = 4 := kk 4 (by omega)
    have q5 : W (121 + 6 * e) = 5 ↔ cc = 5 := kk 5 (by omega)
    have sb : sellB W S kn e = (decide (W (121 + 6 * e) = 4) && decide (W (125 + 6 * e) ≤ kn) && (match rsH S (cnt W (122 + 6 * e)) with
      | none => false
      | some o => decide (o ≠ cnt W (123 + 6 * e)) && rsL S (cnt W (123 + 6 * e)))) := rfl
    unfold hapS at kf
    generalize hA : cnt W (122 + 6 * e) = A at c1 c2 kf sb
    generalize hBb : cnt W (123 + 6 * e) = Bb at c3 c4 kf sb
    refine ⟨fun t => ?_, fun t => ?_, fun t => ?_, fun t => ?_, fun t => ?_, fun t => ?_, fun t0 t1 t2 t3 t4 t5 => ?_⟩
    · rw [q0] at t
      obtain ⟨a1, a2⟩ := c1 (by omega)
      rw [if_pos (q0.2 t)] at kf
      rw [a2]
      exact k_die w0 hB C0 ok a1 kf
    · rw [q1] at t
      obtain ⟨a1, a2⟩ := c1 (by omega)
      obtain ⟨b1, b2⟩ := c3 (by omega) (by omega)
      rw [if_neg (by rw [q0]; omega), if_pos (q1.2 t)] at kf
      rw [a2, b2]
      have cA : Ch σ (cL B) d0 (pA d0 (σ (B + 2)) (A * 3 + 0) (nI Bb)) := Chy_A h hB (by decide) (cL_m (by decide))
      refine T_set (c := 0) (ye_1 h hB) (ys_1 w0.1.2.1 hB C0.2.1.1 hnp) a1 (by decide) (T_set (c := 0) (ye_1 h hB) (ys_1 (cW_ch w0 hB cA).1.2.1 hB (by rw [gI_pA]; exact C0.2.1.1) hnp) b1 (by decide) (kf _ (Ch_tr cA (Chy_A h hB (by decide) (cL_m (by decide)))) (fun j _ => by rw [gI_pA, gI_pA]) ?_))
      exact cf_P h hB (cf_P (o := some Bb) h hB C0 rfl) (o := some A) rfl
    · rw [q2] at t
      obtain ⟨a1, a2⟩ := c1 (by omega)
      obtain ⟨b1, b2⟩ := c3 (by omega) (by omega)
      rw [if_neg (by rw [q0]; omega), if_neg (by rw [q1]; omega), if_pos (q2.2 t)] at kf
      rw [a2, b2]
      have ok2 : rsOK np nh (stP S (upO (rsP S) A (if rsP S A = some Bb then none else rsP S A))) := ⟨fun p hp q hq => by
        have hq : (if p = A then (if rsP S A = some Bb then none else rsP S A) else rsP S p) = some q := hq
        split at hq
        · split at hq
          · cases hq
          · exact ok.1 A a1 q hq
        · exact ok.1 p hp q hq, ok.2⟩
      refine k_leave w0 hB C0 ok a1 b1 (fun d2 c2 s2 C2 => k_leave (cW_ch w0 hB c2) hB C2 ok2 b1 a1 (fun d3 c3 s3 C3 => kf d3 (Ch_tr c2 c3) (fun j _ => (s3 j).trans (s2 j)) ?_))
      have : (upO (upO (rsP S) A (if rsP S A = some Bb then none else rsP S A)) Bb (if upO (rsP S) A (if rsP S A = some Bb then none else rsP S A) Bb = some A then none else upO (rsP S) A (if rsP S A = some Bb then none else rsP S A) Bb)) = (fun j => if j = A ∧ rsP S j = some Bb ∨ j = Bb ∧ rsP S j = some A then none else rsP S j) := by
        funext j
        unfold upO
        by_cases u1 : j = Bb
        · subst u1
          rw [if_pos rfl]
          by_cases u2 : j = A
          · subst u2; simp only [if_true]
            by_cases u3 : rsP S j = some j <;> simp [u3]
          · simp only [if_neg u2]
            by_cases u3 : rsP S j = some A <;> simp [u2, u3]
        · rw [if_neg u1]
          by_cases u2 : j = A
          · subst u2
            rw [if_pos rfl]
            by_cases u3 : rsP S j = some Bb <;> simp [u1, u3]
          · rw [if_neg u2]; simp [u1, u2]
      have t2 : rsP (stP S (upO (rsP S) A (if rsP S A = some Bb then none else rsP S A))) = upO (rsP S) A (if rsP S A = some Bb then none else rsP S A) := rfl
      rw [t2, this] at C3
      exact C3
    · rw [q3] at t
      obtain ⟨a1, a2⟩ := c1 (by omega)
      obtain ⟨b1, b2⟩ := c3 (by omega) (by omega)
      rw [if_neg (by rw [q0]; omega), if_neg (by rw [q1]; omega), if_neg (by rw [q2]; omega), if_pos (q3.2 t)] at kf
      rw [a2, b2]
      refine k_gP (j := 1) w0 hB C0 a1 (by decide) ?_
      rw [(C0.2.2.1 A a1).2.1]
      have cA : Ch σ (cL B) d0 (pA d0 (σ (B + 2)) (A * 3 + 1) (nI (btN (rsC S A) np) ||| ((1 : Int32) <<< (nI Bb &&& 31)))) := Chy_A h hB (by decide) (cL_m (by decide))
      refine T_set (c := 1) (ye_1 h hB) (ys_1 w0.1.2.1 hB C0.2.1.1 hnp) a1 (by decide) (T_get (c := 2) (ye_1 h hB) (ys_1 (cW_ch w0 hB cA).1.2.1 hB (by rw [gI_pA]; exact C0.2.1.1) hnp) b1 (by decide) (T_set (c := 2) (ye_1 h hB) (ys_1 (cW_ch w0 hB cA).1.2.1 hB (by rw [gI_pA]; exact C0.2.1.1) hnp) b1 (by decide) ?_))
      have g2 : gA (pA d0 (σ (B + 2)) (A * 3 + 1) (nI (btN (rsC S A) np) ||| ((1 : Int32) <<< (nI Bb &&& 31)))) (σ (B + 2)) (Bb * 3 + 2) = nI (btN (fun q => rsC S q Bb) np) := by
        rw [gA_pA]
        show (if Bb * 3 + 2 = A * 3 + 1 then _ else gA d0 (σ (B + 2)) (Bb * 3 + 2)) = _
        rw [if_neg (by omega)]; exact (C0.2.2.1 Bb b1).2.2
      rw [g2]
      exact kf _ (Ch_tr cA (Chy_A h hB (by decide) (cL_m (by decide)))) (fun j _ => by rw [gI_pA, gI_pA]) (cf_C h hB C0 hnp a1 b1)
    · have t' := q4.1 t
      obtain ⟨a1, a2⟩ := c2 (by omega)
      obtain ⟨b1, b2⟩ := c3 (by omega) (by omega)
      rw [if_neg (by rw [q0]; omega), if_neg (by rw [q1]; omega), if_neg (by rw [q2]; omega), if_neg (by rw [q3]; omega), if_pos t] at kf
      refine k_sells w0 hB C0 ok hj s1 ?_
      rw [hre, sb, show decide (W (121 + 6 * e) = 4) = true from by simp [t], show decide (W (125 + 6 * e) ≤ kn) = true from by simp [hl], Bool.true_and, Bool.true_and, b2i_0]
      refine ⟨fun v => ?_, fun v => ?_⟩
      · refine kf d0 Ch_rf (fun _ _ => rfl) ?_
        cases hO : rsH S A with
        | none => exact C0
        | some o =>
          rw [hO] at v
          have : o = Bb ∨ rsL S Bb = false := by
            by_cases q : o = Bb
            · exact Or.inl q
            · right; simpa [q] using v
          show clsR σ B np nh d0 (if o = Bb ∨ rsL S Bb = false then S else _)
          rw [if_pos this]; exact C0
      · cases hO : rsH S A with
        | none => rw [hO] at v; exact absurd rfl v
        | some o =>
          rw [hO] at v kf
          have hv : ¬ (o = Bb ∨ rsL S Bb = false) := by
            intro q
            apply v
            rcases q with q | q
            · simp [q]
            · simp [q]
          have kf := kf
          simp only [hv, if_false] at kf
          rw [a2, b2]
          refine k_hold w0 hB C0 a1 (kf _ (hold_ch h hB) (fun j _ => by rw [gI_pA, gI_pA]) ?_)
          refine cf_H (S := S) (f := upO (rsH S) A (some Bb)) (g := upI (rsF S) A (W (120 + 6 * e))) h hB C0 ?_ (fun q hq e => ?_) (fun _ => ?_) (fun q hq e _ => ?_)
          · show _ = encO (if A = A then some Bb else rsH S A); rw [if_pos rfl]; rfl
          · show (if q = A then _ else rsH S q) = _; rw [if_neg e]
          · show (if A = A then _ else _) = _; rw [if_pos rfl]
          · show (if q = A then _ else rsF S q) = _; rw [if_neg e]
    · rw [q5] at t
      obtain ⟨a1, a2⟩ := c2 (by omega)
      obtain ⟨b1, b2⟩ := c3 (by omega) (by omega)
      rw [if_neg (by rw [q0]; omega), if_neg (by rw [q1]; omega), if_neg (by rw [q2]; omega), if_neg (by rw [q3]; omega), if_neg (by rw [q4]; omega), if_pos (q5.2 t)] at kf
      rw [a2, b2]
      simp only [w_X3_holderOf, y_6 h hB]
      refine ⟨y_o h hB, k_gH (j := 0) w0 hB C0 a1 (by decide) ?_⟩
      rw [(C0.2.2.2 A a1).1, enc_m1 (ok.2.1 A a1) (by omega)]
      refine ⟨fun v => ?_, fun v => k_lives w0 hB C0 b1 ?_⟩
      · rw [if_neg (fun q => v q.1)] at kf; exact kf d0 Ch_rf (fun _ _ => rfl) C0
      · rw [b2i_0]
        refine ⟨fun v3 => ?_, fun v3 => ?_⟩
        · rw [if_neg (fun q => by rw [v3] at q; exact nomatch q.2)] at kf; exact kf d0 Ch_rf (fun _ _ => rfl) C0
        · rw [Bool.not_eq_false] at v3
          rw [if_pos ⟨v, v3⟩] at kf
          refine k_hold w0 hB C0 a1 (kf _ (hold_ch h hB) (fun j _ => by rw [gI_pA, gI_pA]) ?_)
          refine cf_H (S := S) (f := upO (rsH S) A (some Bb)) (g := upI (rsF S) A (W (120 + 6 * e))) h hB C0 ?_ (fun q hq e => ?_) (fun _ => ?_) (fun q hq e _ => ?_)
          · show _ = encO (if A = A then some Bb else rsH S A); rw [if_pos rfl]; rfl
          · show (if q = A then _ else rsH S q) = _; rw [if_neg e]
          · show (if A = A then _ else _) = _; rw [if_pos rfl]
          · show (if q = A then _ else rsF S q) = _; rw [if_neg e]
    · have hc6 : cc = 6 := by rw [q0] at t0; rw [q1] at t1; rw [q2] at t2; rw [q3] at t3; rw [q4] at t4; rw [q5] at t5; omega
      obtain ⟨a1, a2⟩ := c2 (by omega)
      obtain ⟨b1, b2⟩ := c4 hc6
      rw [if_neg t0, if_neg t1, if_neg t2, if_neg t3, if_neg t4, if_neg t5] at kf
      rw [a2, b2]
      exact k_move w0 hB C0 ok a1 b1 (fun d' c' s' C' => kf d' c' (fun j _ => s' j) C')
  · rw [if_neg hl] at k
    exact k d0 c0 s1 s3 C0
end
