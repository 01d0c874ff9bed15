/-! rows by their years -/
theorem getD_lt {α : Type} {l : List α} {j : Nat} {x : α} (h : j < l.length) : l.getD j x = l[j] := by simp [h]
theorem yp_hi (g : Nat → Int32) (w : Nat) (y : Int32) (n j : Nat) (h1 : yp g w y n ≤ j) (h2 : j < n) : ¬ g (j * w) ≤ y := by
  induction n with
  | zero => omega
  | succ n ih =>
    unfold yp at h1
    split at h1
    · omega
    · next hc =>
      by_cases e : j = n
      · subst e; exact hc
      · exact ih h1 (by omega)
theorem yp_at (g : Nat → Int32) (w : Nat) (y : Int32) (n r : Nat) (h : yp g w y n = r + 1) : g (r * w) ≤ y := by
  induction n with
  | zero => simp [yp] at h
  | succ n ih =>
    unfold yp at h
    split at h
    · next hc => rw [show r = n by omega]; exact hc
    · exact ih h
theorem yp_congr {g g' : Nat → Int32} {w : Nat} {y : Int32} {n : Nat} (h : ∀ j, j < n → g (j * w) = g' (j * w)) : yp g w y n = yp g' w y n := by
  induction n with
  | zero => rfl
  | succ n ih => unfold yp; rw [h n (by omega), ih (fun j hj => h j (by omega))]
theorem ordr_len (y : Nat → Int32) (n : Nat) : (ordr y n).length = n := by
  induction n with
  | zero => rfl
  | succ n ih =>
    have := yp_le (fun j => y ((ordr y n).getD j 0)) 1 (y n) (ordr y n).length
    simp only [ordr, ins, List.length_append, List.length_take, List.length_cons, List.length_drop]
    omega
theorem ordr_mem (y : Nat → Int32) (n x : Nat) : x ∈ ordr y n ↔ x < n := by
  induction n with
  | zero => simp [ordr]
  | succ n ih =>
    simp only [ordr, ins, List.mem_append, List.mem_cons]
    have : x ∈ ordr y n ↔ x ∈ (ordr y n).take (yp (fun j => y ((ordr y n).getD j 0)) 1 (y n) (ordr y n).length) ∨ x ∈ (ordr y n).drop (yp (fun j => y ((ordr y n).getD j 0)) 1 (y n) (ordr y n).length) := by
      rw [← List.mem_append, List.take_append_drop]
    rw [show (x ∈ (ordr y n).take (yp (fun j => y ((ordr y n).getD j 0)) 1 (y n) (ordr y n).length) ∨ x = n ∨ x ∈ (ordr y n).drop (yp (fun j => y ((ordr y n).getD j 0)) 1 (y n) (ordr y n).length)) ↔ (x = n ∨ x ∈ ordr y n) from by rw [this]; grind]
    rw [ih]; omega
theorem ordr_get (y : Nat → Int32) (n j : Nat) (h : j < n) : (ordr y n).getD j 0 < n := by
  have hl := ordr_len y n
  rw [getD_lt (show j < (ordr y n).length by omega)]
  exact (ordr_mem y n _).mp (List.getElem_mem _)
theorem ordr_congr {y y' : Nat → Int32} {n : Nat} (h : ∀ k, k < n → y k = y' k) : ordr y n = ordr y' n := by
  induction n with
  | zero => rfl
  | succ n ih =>
    have e := ih (fun k hk => h k (by omega))
    simp only [ordr, ins]
    rw [e, h n (by omega)]
    have : yp (fun j => y ((ordr y' n).getD j 0)) 1 (y' n) (ordr y' n).length = yp (fun j => y' ((ordr y' n).getD j 0)) 1 (y' n) (ordr y' n).length :=
      yp_congr (fun j hj => by
        have hl := ordr_len y' n
        simp only [Nat.mul_one]
        exact h _ (Nat.lt_succ_of_lt (ordr_get y' n j (by omega))))
    rw [this]
def yb (y : Nat → Int32) (a b : Nat) : Prop := y a < y b ∨ y a = y b ∧ a < b
theorem ordr_sorted (y : Nat → Int32) (n : Nat) : (ordr y n).Pairwise (yb y) := by
  induction n with
  | zero => simp [ordr]
  | succ n ih =>
    have hl := ordr_len y n
    simp only [ordr, ins]
    generalize hr : yp (fun j => y ((ordr y n).getD j 0)) 1 (y n) (ordr y n).length = r
    have hle : r ≤ n := by rw [← hr]; exact Nat.le_trans (yp_le _ _ _ _) (by omega)
    have pw : ∀ a b, (ha : a < (ordr y n).length) → (hb : b < (ordr y n).length) → a < b → yb y (ordr y n)[a] (ordr y n)[b] := fun a b ha hb hab => (List.pairwise_iff_getElem.mp ih) a b ha hb hab
    have lo : ∀ a, a < r → (ha : a < (ordr y n).length) → y (ordr y n)[a] ≤ y n := by
      intro a har ha
      obtain ⟨q, rfl⟩ : ∃ q, r = q + 1 := ⟨r - 1, by omega⟩
      have h1 := yp_at _ _ _ _ q hr
      simp only [Nat.mul_one] at h1
      rw [getD_lt (show q < (ordr y n).length by omega)] at h1
      by_cases e : a = q
      · subst e; exact h1
      · rcases pw a q ha (by omega) (by omega) with h2 | h2
        · exact Int32.le_trans (Int32.le_of_lt h2) h1
        · rw [h2.1]; exact h1
    have hi : ∀ a, r ≤ a → (ha : a < (ordr y n).length) → y n < y (ordr y n)[a] := by
      intro a har ha
      have h1 := yp_hi _ _ _ _ a (hr ▸ har) ha
      simp only [Nat.mul_one] at h1
      rw [getD_lt ha] at h1
      exact Int32.not_le.mp h1
    rw [List.pairwise_append]
    refine ⟨ih.sublist (List.take_sublist _ _), List.pairwise_cons.mpr ⟨fun b hb => ?_, ih.sublist (List.drop_sublist _ _)⟩, fun a ha b hb => ?_⟩
    · obtain ⟨k, hk, rfl⟩ := List.getElem_of_mem hb
      rw [List.getElem_drop]
      exact Or.inl (hi _ (by omega) _)
    · obtain ⟨k, hk, rfl⟩ := List.getElem_of_mem ha
      have hk2 : k < r ∧ k < (ordr y n).length := by rw [List.length_take] at hk; omega
      have ea : ((ordr y n).take r)[k] = (ordr y n)[k] := List.getElem_take
      rw [ea]
      have hy := lo k hk2.1 hk2.2
      rcases List.mem_cons.mp hb with rfl | hb
      · have hm := (ordr_mem y b _).mp (List.getElem_mem hk2.2)
        by_cases e : y (ordr y b)[k] = y b
        · exact Or.inr ⟨e, hm⟩
        · exact Or.inl (Int32.lt_of_le_of_ne hy e)
      · obtain ⟨k', hk', rfl⟩ := List.getElem_of_mem hb
        rw [List.getElem_drop]
        exact pw k _ _ _ (by omega)
theorem ins_get (y : Nat → Int32) (n j : Nat) (hj : j ≤ n) {r : Nat} (hr : yp (fun j => y ((ordr y n).getD j 0)) 1 (y n) n = r) : (ordr y (n + 1)).getD j 0 = if j = r then n else if j < r then (ordr y n).getD j 0 else (ordr y n).getD (j - 1) 0 := by
  have hl := ordr_len y n
  have hle : r ≤ n := by rw [← hr]; exact yp_le _ _ _ _
  simp only [ordr, ins, hl, hr]
  rw [List.getD_eq_getElem?_getD, List.getD_eq_getElem?_getD, List.getD_eq_getElem?_getD, List.getElem?_append, List.length_take, hl, Nat.min_eq_left hle]
  by_cases h1 : j = r
  · subst h1; simp
  · rw [if_neg h1]
    by_cases h2 : j < r
    · rw [if_pos h2, if_pos h2, List.getElem?_take_of_lt h2]
    · rw [if_neg h2, if_neg h2]
      obtain ⟨q, hq⟩ : ∃ q, j - r = q + 1 := ⟨j - r - 1, by omega⟩
      rw [hq, List.getElem?_cons_succ, List.getElem?_drop, show r + q = j - 1 by omega]
theorem ro_lt {W : Nat → Int32} {i j : Nat} (h : j < nR W i) : roI W i j < nR W i := by
  unfold roI
  split
  · exact ordr_get _ _ _ h
  · exact h
