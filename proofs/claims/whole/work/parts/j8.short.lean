/-! texts: the code is shorter than the text -/
section
variable {B : Nat → Nat} {tl s b : Nat} {c : Cd}
theorem gd_Ln2 (hb : b ≤ tl) : ∀ l c1, (pLn B tl s c b).2 = some (l, c1) → c.length ≤ b → c1.length + 1 ≤ (pLn B tl s c b).1 := by
  have g := gd_Hd (B := B) (s := s) hb
  unfold pLn
  revert g
  generalize pHd B tl s b = w
  obtain ⟨b1, r⟩ := w
  intro g
  cases r with
  | none => exact fun _ _ h => (nomatch h)
  | some r =>
    have g1 : b1 ≤ tl := g.1
    have g2 : b + 1 ≤ b1 := g.2 r rfl
    simp only []
    by_cases z : thB B tl b1 = 14
    · rw [if_pos z]
      have k := gd_Cd1 (B := B) (gd_At (B := B) (s := s) 6) 401 c (nB B tl b1) (nB_le g1)
      have g3 := nB_gt2 (B := B) (tl := tl) (b := b1) (by omega)
      revert k
      generalize pCd B tl (pAt B tl s 6) 401 false false c (nB B tl b1) = w
      obtain ⟨b2, r2⟩ := w
      intro k
      cases r2 with
      | none => exact fun _ _ h => (nomatch h)
      | some c2 =>
        obtain ⟨q1, x, q2, q3⟩ := k.2 c2 rfl
        have q3 : x.length + nB B tl b1 ≤ b2 := q3
        intro l c1 h hc
        cases h
        show c2.length + 1 ≤ b2
        rw [q2, List.length_append]; omega
    · rw [if_neg z]
      intro l c1 h hc
      cases h
      show c.length + 1 ≤ b1
      omega
theorem sh_Al : ∀ k ls c b b1 ls' c', c.length ≤ b → b ≤ tl → pAl B tl s k ls c b = (b1, some (ls', c')) → c'.length + 1 ≤ tl
  | 0, ls, c, b, b1, ls', c', _, _, h => absurd (congrArg Prod.snd h) (fun q => (nomatch q))
  | k + 1, ls, c, b, b1, ls', c', hcb, hb, h => by
    unfold pAl at h
    have gl := gd_Ln (B := B) (s := s) (c := c) hb
    have g2 := gd_Ln2 (B := B) (s := s) (c := c) hb
    revert h gl g2
    generalize pLn B tl s c b = w
    obtain ⟨b2, q⟩ := w
    intro h gl g2
    cases q with
    | none => exact absurd (congrArg Prod.snd h) (fun q => (nomatch q))
    | some q =>
      obtain ⟨l, cq⟩ := q
      have lc : cq.length + 1 ≤ b2 := g2 l cq rfl hcb
      have hb2 : b2 ≤ tl := gl.1
      simp only [] at h
      by_cases e31 : thB B tl b2 = 31
      · rw [if_pos e31] at h
        cases h
        omega
      · rw [if_neg e31] at h
        by_cases e59 : thB B tl b2 = 59
        · rw [if_pos e59] at h
          have g3 := nB_gt2 (B := B) (tl := tl) (b := b2) e31
          exact sh_Al k (ls ++ [l]) cq _ b1 ls' c' (by omega) (nB_le hb2) h
        · rw [if_neg e59] at h
          exact absurd (congrArg Prod.snd h) (fun q => (nomatch q))
theorem sh_Tx (h4 : tl ≤ 400) {b1 : Nat} {ls' : List Ln} {c' : Cd} (h : pTx B tl s = (b1, some (ls', c'))) : c'.length < 400 := by
  unfold pTx at h
  by_cases z : thB B tl (blk B tl 0) = 31
  · rw [if_pos z] at h
    cases h
    decide
  · rw [if_neg z] at h
    have := sh_Al 10 [] [] _ b1 ls' c' (Nat.zero_le _) (sk_le (Nat.zero_le _)) h
    omega
end
