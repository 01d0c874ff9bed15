/-! the years since when huts are held -/
def fOK (S : RS) : Prop := ∀ i, ∃ m, 1900 ≤ m ∧ m ≤ 2099 ∧ rsF S i = nI m
theorem die_f {W : Nat → Int32} {np p : Nat} {y : Int32} {S : RS} (hy : ∃ m, 1900 ≤ m ∧ m ≤ 2099 ∧ y = nI m) (f : fOK S) : fOK (dieS W S np p y) := fun i => by
  have e : rsF (dieS W S np p y) i = if rsH S i = some p ∧ heS W (stL S (upB (rsL S) p false)) np p i y ≠ none then y else rsF S i := rfl
  rw [e]
  split
  · exact hy
  · exact f i
theorem hap_f {W : Nat → Int32} {np nh e : Nat} {S : RS} (hW : WI W) (he : e < cnt W 2) (f : fOK S) : fOK (hapS W np nh S e) := by
  obtain ⟨hy, -⟩ := ev_nums hW he
  have up : ∀ k i, ∃ m, 1900 ≤ m ∧ m ≤ 2099 ∧ upI (rsF S) k (W (120 + 6 * e)) i = nI m := fun k i => by
    unfold upI
    split
    · exact hy
    · exact f i
  unfold hapS
  split
  · split
    · intro i
      exact die_f hy f i
    · exact f
  · split
    · exact f
    · split
      · exact f
      · split
        · exact f
        · split
          · split
            · exact f
            · split
              · exact f
              · exact fun i => up _ i
          · split
            · split
              · exact fun i => up _ i
              · exact f
            · exact f
theorem rep_f {W : Nat → Int32} (hW : WI W) {np nh Y : Nat} {kn : Int32} : fOK (repS W np nh Y kn) := by
  have go : ∀ (l : List Nat) (S : RS), (∀ e ∈ l, e < cnt W 2) → fOK S → fOK (l.foldl (hapS W np nh) S) := by
    intro l
    induction l with
    | nil => intro S _ f; exact f
    | cons e l ih => intro S hl f; exact ih _ (fun x hx => hl x (List.mem_cons_of_mem _ hx)) (hap_f hW (hl e List.mem_cons_self) f)
  exact go _ _ (fun _ he => evs_lt he) (fun i => ⟨1900, by omega, by omega, rfl⟩)
