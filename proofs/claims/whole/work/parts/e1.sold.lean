/-! sales: what is sold, one event behind another -/
theorem ordr_perm (y : Nat → Int32) : ∀ n, (ordr y n).Perm (List.range n)
  | 0 => List.Perm.refl _
  | n + 1 => by
    have hp := ordr_perm y n
    rw [List.range_succ]
    simp only [ordr, ins]
    refine List.Perm.trans List.perm_middle ?_
    rw [List.take_append_drop]
    exact List.Perm.trans (List.Perm.cons n hp) (List.perm_append_singleton n _).symm
def sumL (f : Nat → Int32) (l : List Nat) (a : Int32) : Int32 := l.foldl (fun s e => s + f e) a
theorem sum_perm {f : Nat → Int32} {l1 l2 : List Nat} (h : l1.Perm l2) : ∀ a, sumL f l1 a = sumL f l2 a := by
  induction h with
  | nil => intro a; rfl
  | cons x _ ih2 => intro a; exact ih2 _
  | swap x y l => intro a; show sumL f l (a + f y + f x) = sumL f l (a + f x + f y); rw [Int32.add_assoc, Int32.add_comm (f y), ← Int32.add_assoc]
  | trans _ _ ih2 ih3 => intro a; rw [ih2, ih3]
theorem sum_app {f : Nat → Int32} {l : List Nat} {e : Nat} {a : Int32} : sumL f (l ++ [e]) a = sumL f l a + f e := by
  unfold sumL; rw [List.foldl_append]; rfl
theorem sum_cgr {f g : Nat → Int32} : ∀ {l : List Nat} {a : Int32}, (∀ e ∈ l, f e = g e) → sumL f l a = sumL g l a
  | [], _, _ => rfl
  | e :: l, a, h => by
    show sumL f l (a + f e) = sumL g l (a + g e)
    rw [h e List.mem_cons_self]; exact sum_cgr (fun x hx => h x (List.mem_cons_of_mem _ hx))
theorem flt_take (p : Nat → Bool) : ∀ (l : List Nat), l.Pairwise (fun a b => p b = true → p a = true) → l.filter p = l.take (l.filter p).length
  | [], _ => rfl
  | a :: l, h => by
    obtain ⟨h1, h2⟩ := List.pairwise_cons.mp h
    by_cases q : p a = true
    · rw [List.filter_cons_of_pos q, List.length_cons, List.take_succ_cons, ← flt_take p l h2]
    · have e : l.filter p = [] := by rw [List.filter_eq_nil_iff]; exact fun b hb hpb => q (h1 b hb hpb)
      rw [List.filter_cons_of_neg q, e]; rfl
theorem ordr_inj (y : Nat → Int32) {n i j : Nat} (hi : i < n) (hj : j < n) (e : (ordr y n).getD i 0 = (ordr y n).getD j 0) : i = j := by
  have hl := ordr_len y n
  have pw := List.pairwise_iff_getElem.mp (ordr_sorted y n)
  rw [getD_lt (by omega), getD_lt (by omega)] at e
  have irr : ∀ a, ¬ yb y a a := fun a q => q.elim (fun q => Int32.lt_irrefl q) (fun q => by omega)
  rcases Nat.lt_trichotomy i j with q | q | q
  · have := pw i j (by omega) (by omega) q; rw [e] at this; exact absurd this (irr _)
  · exact q
  · have := pw j i (by omega) (by omega) q; rw [e] at this; exact absurd this (irr _)
/-- as it stands behind j events in their order -/
def kS (W : Nat → Int32) (np nh : Nat) (kn : Int32) (j : Nat) : RS := (((ordr (kyI W 2) (cnt W 2)).take j).filter (fun e => decide (W (125 + 6 * e) ≤ kn))).foldl (hapS W np nh) (rs0 W)
theorem take_ro {W : Nat → Int32} {j : Nat} (hj : j < cnt W 2) : (ordr (kyI W 2) (cnt W 2)).take (j + 1) = (ordr (kyI W 2) (cnt W 2)).take j ++ [roI W 2 j] := by
  have hl : j < (ordr (kyI W 2) (cnt W 2)).length := by rw [ordr_len]; exact hj
  have hro : roI W 2 j = (ordr (kyI W 2) (cnt W 2)).getD j 0 := rfl
  rw [List.take_succ, hro, List.getD_eq_getElem?_getD, List.getElem?_eq_getElem hl]; rfl
theorem kS_succ {W : Nat → Int32} {np nh j : Nat} {kn : Int32} (hj : j < cnt W 2) : kS W np nh kn (j + 1) = if W (125 + 6 * roI W 2 j) ≤ kn then hapS W np nh (kS W np nh kn j) (roI W 2 j) else kS W np nh kn j := by
  unfold kS
  rw [take_ro hj, List.filter_append, List.foldl_append]
  by_cases q : W (125 + 6 * roI W 2 j) ≤ kn
  · rw [if_pos q]
    have : List.filter (fun e => decide (W (125 + 6 * e) ≤ kn)) [roI W 2 j] = [roI W 2 j] := by simp [q]
    rw [this]; rfl
  · rw [if_neg q]
    have : List.filter (fun e => decide (W (125 + 6 * e) ≤ kn)) [roI W 2 j] = [] := by simp [q]
    rw [this]; rfl
theorem kS_ok {W : Nat → Int32} (hW : WI W) {kn : Int32} {j : Nat} : rsOK (cnt W 0) (cnt W 1) (kS W (cnt W 0) (cnt W 1) kn j) :=
  fold_ok hW _ (rs0 W) (fun _ hx => (ordr_mem _ _ _).mp (List.mem_of_mem_take (List.mem_filter.mp hx).1)) (rs0_ok hW)
def dodB (W : Nat → Int32) (np : Nat) (S : RS) (e : Nat) : Bool := match rsH S (cnt W (122 + 6 * e)) with
  | none => false
  | some o => !kinS S np o (cnt W (123 + 6 * e))
theorem hap_SD {W : Nat → Int32} {np nh : Nat} {S : RS} {e : Nat} {kn : Int32} (q : W (125 + 6 * e) ≤ kn) : rsS (hapS W np nh S e) = (if sellB W S kn e = true then upB (rsS S) e true else rsS S) ∧ rsD (hapS W np nh S e) = (if sellB W S kn e = true then upB (rsD S) e (dodB W np S e) else rsD S) := by
  by_cases k4 : W (121 + 6 * e) = 4
  · unfold hapS sellB dodB
    rw [k4, if_neg (by decide), if_neg (by decide), if_neg (by decide), if_neg (by decide), if_pos rfl]
    cases ho : rsH S (cnt W (122 + 6 * e)) with
    | none => simp
    | some o =>
      by_cases q1 : o = cnt W (123 + 6 * e)
      · simp [q1]
      · cases q2 : rsL S (cnt W (123 + 6 * e))
        · simp
        · simp [q1, q]
          exact ⟨rfl, rfl⟩
  · have sf : sellB W S kn e = false := by unfold sellB; simp [k4]
    rw [sf, if_neg (by decide), if_neg (by decide)]
    unfold hapS
    split
    · split <;> exact ⟨rfl, rfl⟩
    · split
      · exact ⟨rfl, rfl⟩
      · split
        · exact ⟨rfl, rfl⟩
        · split
          · exact ⟨rfl, rfl⟩
          · split
            · split <;> exact ⟨rfl, rfl⟩
            · exact ⟨rfl, rfl⟩
theorem sell_kn {W : Nat → Int32} {S : RS} {e : Nat} {kn : Int32} (q : ¬ W (125 + 6 * e) ≤ kn) : sellB W S kn e = false := by unfold sellB; simp [q]
theorem kS_SD {W : Nat → Int32} {np nh : Nat} {kn : Int32} {i : Nat} (hi : i < cnt W 2) : ∀ j, j ≤ cnt W 2 → rsS (kS W np nh kn j) (roI W 2 i) = (decide (i < j) && sellB W (kS W np nh kn i) kn (roI W 2 i)) ∧ (i < j → sellB W (kS W np nh kn i) kn (roI W 2 i) = true → rsD (kS W np nh kn j) (roI W 2 i) = dodB W np (kS W np nh kn i) (roI W 2 i))
  | 0, _ => ⟨by unfold kS; simp; rfl, fun q => absurd q (Nat.not_lt_zero _)⟩
  | j + 1, hj => by
    obtain ⟨h1, h2⟩ := kS_SD (np := np) (nh := nh) (kn := kn) hi j (by omega)
    rw [kS_succ (by omega)]
    by_cases q : W (125 + 6 * roI W 2 j) ≤ kn
    · rw [if_pos q]
      obtain ⟨s1, s2⟩ := hap_SD (np := np) (nh := nh) (S := kS W np nh kn j) q
      rw [s1, s2]
      by_cases e : i = j
      · subst e
        rw [show decide (i < i + 1) = true by simp, Bool.true_and]
        cases hs : sellB W (kS W np nh kn i) kn (roI W 2 i)
        · simp only [Bool.false_eq_true, if_false]
          refine ⟨by rw [h1]; simp, fun _ z => (nomatch z)⟩
        · simp only [if_true]
          exact ⟨by simp [upB], fun _ _ => by simp [upB]⟩
      · have ne : roI W 2 i ≠ roI W 2 j := fun z => e (ordr_inj _ hi (by omega) z)
        have d1 : decide (i < j + 1) = decide (i < j) := by congr 1; apply propext; omega
        have u1 : ∀ f b, upB f (roI W 2 j) b (roI W 2 i) = f (roI W 2 i) := fun f b => by unfold upB; rw [if_neg ne]
        rw [d1]
        refine ⟨?_, fun z1 z2 => ?_⟩
        · split
          · rw [u1]; exact h1
          · exact h1
        · split
          · rw [u1]; exact h2 (by omega) z2
          · exact h2 (by omega) z2
    · rw [if_neg q]
      by_cases e : i = j
      · subst e
        have sf := sell_kn (S := kS W np nh kn i) q
        rw [h1, sf]
        exact ⟨by simp, fun _ z => (nomatch z)⟩
      · have d1 : decide (i < j + 1) = decide (i < j) := by congr 1; apply propext; omega
        rw [d1]
        exact ⟨h1, fun z1 z2 => h2 (by omega) z2⟩
theorem upto_pw {W : Nat → Int32} (hW : WI W) (Y : Nat) : (ordr (kyI W 2) (cnt W 2)).Pairwise (fun a b => decide (((kyI W 2) b).toNatClampNeg ≤ Y) = true → decide (((kyI W 2) a).toNatClampNeg ≤ Y) = true) := by
  refine List.Pairwise.imp (fun {a b} h q => ?_) (ordr_nat (fun e he => by obtain ⟨m, _, hm, e2⟩ := ky_nat hW e he; rw [e2]; exact z_pos (by omega)))
  simp only [decide_eq_true_eq] at q ⊢
  omega
/-- behind a year: behind so many events -/
theorem rep_kS {W : Nat → Int32} (hW : WI W) (np nh Y : Nat) (kn : Int32) : ∃ J, J ≤ cnt W 2 ∧ repS W np nh Y kn = kS W np nh kn J ∧ (ordr (kyI W 2) (cnt W 2)).take J = upto (kyI W 2) (cnt W 2) Y ∧ ∀ i, i < cnt W 2 → (i < J ↔ ((kyI W 2) (roI W 2 i)).toNatClampNeg ≤ Y) := by
  have ft := flt_take (fun e => decide (((kyI W 2) e).toNatClampNeg ≤ Y)) _ (upto_pw hW Y)
  have hl := ordr_len (kyI W 2) (cnt W 2)
  have hle := List.length_filter_le (fun e => decide (((kyI W 2) e).toNatClampNeg ≤ Y)) (ordr (kyI W 2) (cnt W 2))
  refine ⟨_, by omega, ?_, ft.symm, fun i hi => ⟨fun q => ?_, fun q => ?_⟩⟩
  · unfold repS evs kS upto; rw [← ft]
  · have hm : roI W 2 i ∈ (ordr (kyI W 2) (cnt W 2)).filter (fun e => decide (((kyI W 2) e).toNatClampNeg ≤ Y)) := by
      rw [ft]
      have hro : roI W 2 i = (ordr (kyI W 2) (cnt W 2)).getD i 0 := rfl
      rw [hro, getD_lt (by omega)]
      exact List.mem_iff_getElem.mpr ⟨i, by rw [List.length_take]; omega, by rw [List.getElem_take]⟩
    simpa using (List.mem_filter.mp hm).2
  · have hro : roI W 2 i = (ordr (kyI W 2) (cnt W 2)).getD i 0 := rfl
    have hm : roI W 2 i ∈ (ordr (kyI W 2) (cnt W 2)).filter (fun e => decide (((kyI W 2) e).toNatClampNeg ≤ Y)) := by
      refine List.mem_filter.mpr ⟨?_, by simpa using q⟩
      rw [hro, getD_lt (by omega)]; exact List.getElem_mem _
    rw [ft] at hm
    obtain ⟨i2, h2, e2⟩ := List.mem_iff_getElem.mp hm
    rw [List.getElem_take] at e2
    rw [List.length_take] at h2
    have : i2 = i := ordr_inj (kyI W 2) (n := cnt W 2) (by omega) hi (by rw [← hro, ← e2, getD_lt (by omega)])
    omega
theorem rep_last {W : Nat → Int32} (hW : WI W) (np nh : Nat) (kn : Int32) : repS W np nh 2099 kn = kS W np nh kn (cnt W 2) := by
  unfold repS evs kS
  rw [upto_all (fun e he => by obtain ⟨m, _, hm, e2⟩ := ky_nat hW e he; rw [e2, z_nn (by omega)]; exact hm), List.take_of_length_le (by rw [ordr_len]; exact Nat.le_refl _)]
theorem ro_sur {W : Nat → Int32} {e : Nat} (he : e < cnt W 2) : ∃ i, i < cnt W 2 ∧ roI W 2 i = e := by
  have hm := (ordr_mem (kyI W 2) (cnt W 2) e).mpr he
  obtain ⟨i, hi, ei⟩ := List.mem_iff_getElem.mp hm
  rw [ordr_len] at hi
  refine ⟨i, hi, ?_⟩
  have hro : roI W 2 i = (ordr (kyI W 2) (cnt W 2)).getD i 0 := rfl
  rw [hro, getD_lt (by rw [ordr_len]; exact hi)]; exact ei
