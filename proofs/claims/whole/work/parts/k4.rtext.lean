/-! text, the reference's answer -/
section
variable {σ : Nat → Nat} {E : En} {d d' : Dy} {P : List Nat} {B : Nat → Nat} {tl s : Nat} {K : Int32 → Dy → Prop}
/-- the same field, set in both -/
theorem Ch_both (h : Env σ E) (c : Ch σ P d d') {i k : Nat} {v : Int32} (hi : i < 116) (hP : i ∈ P) : Ch σ P (pI d (σ i) k v) (pI d' (σ i) k v) := by
  refine ⟨fun j hj hn => ?_, fun q hq => ?_, fun a ha => ?_, c.2.2.2⟩
  · have ne := Env_ne h hj hi (fun e => hn (e ▸ hP))
    rw [gI_pI_a _ _ _ ne, gI_pI_a _ _ _ ne]; exact c.1 j hj hn
  · obtain ⟨a, b⟩ := q
    by_cases e : a = i
    · subst e
      by_cases e2 : b = k
      · subst e2; rw [gI_pI, gI_pI]
      · rw [gI_pI_k _ _ _ e2, gI_pI_k _ _ _ e2]; exact c.2.1 _ hq
    · have ne := Env_ne h (prot_lt _ hq) hi e
      rw [gI_pI_a _ _ _ ne, gI_pI_a _ _ _ ne]; exact c.2.1 _ hq
  · have ne := ha i hi
    rw [gI_pI_a _ _ _ ne, gI_pI_a _ _ _ ne]; exact c.2.2.1 a ha
end
