/-! numbers and lists -/
theorem z_div {a b : Nat} (ha : a < 2147483648) (hb : b < 2147483648) : nI a / nI b = nI (a / b) :=
  (Int32.ofNat_div (show a < 2 ^ 31 from ha) (show b < 2 ^ 31 from hb)).symm
theorem z_rem {a b : Nat} (ha : a < 2147483648) (hb : b < 2147483648) : nI a - nI a / nI b * nI b = nI (a % b) := by
  rw [z_div ha hb, z_mul, z_sub (Nat.div_mul_le_self a b)]
  congr 1
  have := Nat.div_add_mod a b
  rw [Nat.mul_comm] at this; omega
theorem srt_ext : ∀ (l1 l2 : List Nat), l1.Pairwise (· < ·) → l2.Pairwise (· < ·) → (∀ x, x ∈ l1 ↔ x ∈ l2) → l1 = l2
  | [], [], _, _, _ => rfl
  | [], b :: l2, _, _, h => absurd ((h b).mpr List.mem_cons_self) (by simp)
  | a :: l1, [], _, _, h => absurd ((h a).mp List.mem_cons_self) (by simp)
  | a :: l1, b :: l2, h1, h2, h => by
    have e : a = b := by
      have ha := (h a).mp List.mem_cons_self
      have hb := (h b).mpr List.mem_cons_self
      rcases List.mem_cons.mp ha with ha | ha
      · exact ha
      · rcases List.mem_cons.mp hb with hb | hb
        · exact hb.symm
        · have q1 := (List.pairwise_cons.mp h1).1 b hb
          have q2 := (List.pairwise_cons.mp h2).1 a ha
          omega
    subst e
    congr 1
    refine srt_ext l1 l2 (List.pairwise_cons.mp h1).2 (List.pairwise_cons.mp h2).2 (fun x => ⟨fun hx => ?_, fun hx => ?_⟩)
    · rcases List.mem_cons.mp ((h x).mp (List.mem_cons_of_mem _ hx)) with rfl | q
      · exact absurd ((List.pairwise_cons.mp h1).1 x hx) (by omega)
      · exact q
    · rcases List.mem_cons.mp ((h x).mpr (List.mem_cons_of_mem _ hx)) with rfl | q
      · exact absurd ((List.pairwise_cons.mp h2).1 x hx) (by omega)
      · exact q
theorem flt_split (p q : Nat → Bool) : ∀ (l : List Nat), l.Pairwise (fun a b => p b = true → p a = true) → l.filter (fun x => p x || q x) = l.filter p ++ l.filter (fun x => !p x && q x)
  | [], _ => rfl
  | a :: l, h => by
    obtain ⟨h1, h2⟩ := List.pairwise_cons.mp h
    have ih := flt_split p q l h2
    by_cases hp : p a = true
    · simp [List.filter_cons, hp, ih]
    · have hn : l.filter p = [] := by
        rw [List.filter_eq_nil_iff]; intro b hb hpb; exact hp (h1 b hb hpb)
      rw [hn, List.nil_append] at ih
      simp only [Bool.not_eq_true] at hp
      by_cases hq : q a = true
      · simp [List.filter_cons, hp, hq, ih, hn]
      · simp only [Bool.not_eq_true] at hq
        simp [List.filter_cons, hp, hq, ih, hn]
/-- the rows up to a year -/
def upto (y : Nat → Int32) (n Y : Nat) : List Nat := (ordr y n).filter (fun e => decide ((y e).toNatClampNeg ≤ Y))
def inY (y : Nat → Int32) (n Y : Nat) : List Nat := (List.range n).filter (fun e => decide ((y e).toNatClampNeg = Y))
theorem ordr_nat {y : Nat → Int32} {n : Nat} (hy : ∀ e, e < n → ¬ y e < 0) : (ordr y n).Pairwise (fun a b => (y a).toNatClampNeg < (y b).toNatClampNeg ∨ (y a).toNatClampNeg = (y b).toNatClampNeg ∧ a < b) := by
  refine List.Pairwise.imp_of_mem (fun {a b} ha hb h => ?_) (ordr_sorted y n)
  obtain ⟨p, hp, ep⟩ := z_ex (hy a ((ordr_mem y n a).mp ha))
  obtain ⟨q, hq, eq⟩ := z_ex (hy b ((ordr_mem y n b).mp hb))
  rw [ep, eq, z_nn hp, z_nn hq]
  rcases h with h | ⟨h1, h2⟩
  · rw [ep, eq, z_lt hp hq] at h; exact Or.inl h
  · rw [ep, eq, z_eq hp hq] at h1; exact Or.inr ⟨h1, h2⟩
theorem upto_succ {y : Nat → Int32} {n Y : Nat} (hy : ∀ e, e < n → ¬ y e < 0) : upto y n (Y + 1) = upto y n Y ++ inY y n (Y + 1) := by
  have hs := ordr_nat hy
  have h1 : upto y n (Y + 1) = (ordr y n).filter (fun x => decide ((y x).toNatClampNeg ≤ Y) || decide ((y x).toNatClampNeg = Y + 1)) := by
    unfold upto; congr 1; funext x
    rw [← Bool.decide_or]; congr 1; apply propext; omega
  rw [h1, flt_split]
  · congr 1
    have h2 : (ordr y n).filter (fun x => !decide ((y x).toNatClampNeg ≤ Y) && decide ((y x).toNatClampNeg = Y + 1)) = (ordr y n).filter (fun e => decide ((y e).toNatClampNeg = Y + 1)) := by
      congr 1; funext x
      by_cases h : (y x).toNatClampNeg = Y + 1
      · simp [h]
      · simp [h]
    rw [h2]
    refine srt_ext _ _ ?_ ?_ (fun x => ?_)
    · rw [List.pairwise_filter]
      refine List.Pairwise.imp (fun {a b} h ha hb => ?_) hs
      simp only [decide_eq_true_eq] at ha hb
      omega
    · exact List.Pairwise.filter _ List.pairwise_lt_range
    · simp [inY, ordr_mem, List.mem_filter]
  · refine List.Pairwise.imp (fun {a b} h hb => ?_) hs
    simp only [decide_eq_true_eq] at hb ⊢
    omega
theorem upto_lo {y : Nat → Int32} {n Y : Nat} (hy : ∀ e, e < n → Y < (y e).toNatClampNeg) : upto y n Y = [] := by
  unfold upto; rw [List.filter_eq_nil_iff]
  intro e he
  have := hy e ((ordr_mem y n e).mp he)
  simp; omega
theorem upto_all {y : Nat → Int32} {n Y : Nat} (hy : ∀ e, e < n → (y e).toNatClampNeg ≤ Y) : upto y n Y = ordr y n := by
  unfold upto; rw [List.filter_eq_self]
  intro e he
  have := hy e ((ordr_mem y n e).mp he)
  simpa using this
theorem flt_range_succ (p : Nat → Bool) (n : Nat) : (List.range (n + 1)).filter p = (List.range n).filter p ++ if p n = true then [n] else [] := by
  rw [List.range_succ, List.filter_append]
  congr 1
  by_cases h : p n = true
  · simp [h]
  · simp only [Bool.not_eq_true] at h; simp [h]
