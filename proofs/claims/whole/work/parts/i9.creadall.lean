section
variable {σ : Nat → Nat} {E : En} {d0 d d' d2 d3 : Dy} {B : Nat → Nat} {tl s b f : Nat} {c : Cd} {ls : List Ln} {K0 : Dy → Prop} {K : Int32 → Dy → Prop}
def laK (σ : Nat → Nat) (d : Dy) (B : Nat → Nat) (tl s : Nat) (R : Nat × Option (List Ln × Cd)) (K : Int32 → Dy → Prop) : Prop := ∀ d', Ch σ txL d d' → (R.2 = none → gI d' (σ 45) 3 = nI R.1 → K 0 d') ∧ (∀ ls' c', R.2 = some (ls', c') → clS σ d' B tl s c' R.1 → ltS σ d' s ls' ls'.length → K 1 d')
theorem k_reads39 (h : Env σ E) {p1 : Int32} : ∀ k ls c b d, k + ls.length = 10 → clS σ d B tl s c b → ltS σ d s ls ls.length → c.length ≤ b → laK σ d B tl s (pAl B tl s k ls c b) K → l_X2_reads_39 E (σ 45) p1 K (k + 1) (nI ls.length) d := by
  intro k
  induction k with
  | zero =>
    intro ls c b d hk cs tb hc kk
    refine ⟨fun _ => (kk d Ch_rf).1 rfl cs.2.2.2.2.2.1, fun z => absurd ((z_le (a := 10) (by decide) (by omega)).mpr (by omega)) z⟩
  | succ k ihk =>
    intro ls c b d hk cs tb hc kk
    have hb := cs.2.1
    have hB := cs.1.2.1
    show b_X2_reads_39 E (σ 45) p1 K (l_X2_reads_39 E (σ 45) p1 K (k + 1)) (nI ls.length) d
    refine ⟨fun z => absurd ((z_le (a := 10) (by decide) (by omega)).mp z) (by omega), fun _ => k_line h cs tb (by omega) hc ?_⟩
    have gl := gd_Ln (B := B) (s := s) (c := c) hb
    unfold pAl at kk
    revert kk gl
    generalize pLn B tl s c b = w
    obtain ⟨b1, q⟩ := w
    intro gl kk d1 ch1
    cases q with
    | none => exact ⟨fun _ e => ⟨fun w => absurd rfl w, fun _ => (kk d1 ch1).1 rfl e⟩, fun l c1 hc => (nomatch hc)⟩
    | some q =>
      obtain ⟨l, c1⟩ := q
      refine ⟨fun w => (nomatch w), fun l' c1' hq cs1 tb1 => ⟨fun _ => ?_, fun w => absurd w (by decide)⟩⟩
      cases hq
      have cs1 : clS σ d1 B tl s c1 b1 := cs1
      obtain ⟨z1, -, -, x, z2, z3⟩ := gl.2 l c1 rfl
      have z1 : b + 1 ≤ b1 := z1
      have z3 : x.length + b ≤ b1 := z3
      have lc : c1.length ≤ b1 := by rw [z2, List.length_append]; omega
      have ll : (ls ++ [l]).length = ls.length + 1 := by rw [List.length_append]; rfl
      have g5 := cs1.2.2.2.2.2.2.2.1
      have ht := th_le hB (tl := tl) (b := b1)
      have kk : laK σ d1 B tl s _ K := fun d' ch => kk d' (Ch_tr ch1 ch)
      simp only [] at kk
      refine ⟨fun z => ?_, fun z => ?_⟩
      · have z : ¬ thB B tl b1 = 31 := fun q => z (g5.trans (by rw [q]; rfl))
        rw [if_neg z] at kk
        refine ⟨fun w => ?_, fun w => ?_⟩
        · have w := (z_eq (b := 59) (by omega) (by decide)).mp (g5.symm.trans w)
          rw [if_pos w] at kk
          have g3 := nB_gt2 (B := B) (tl := tl) (b := b1) z
          refine k_nextB h cs1 (fun d2 ch2 cs2 => ?_)
          rw [z_a1, ← ll]
          refine ihk (ls ++ [l]) c1 _ d2 (by omega) cs2 ?_ (by omega) (fun d' ch => kk d' (Ch_tr (Ch_w ch2 (by decide)) ch))
          rw [ll]; exact tb_fr ch2 tb1
        · rw [if_neg (fun q => w (g5.trans (by rw [q]; rfl)))] at kk
          exact (kk d1 Ch_rf).1 rfl cs1.2.2.2.2.2.1
      · have z := (z_eq (b := 31) (by omega) (by decide)).mp (g5.symm.trans z)
        rw [if_pos z] at kk
        exact (kk d1 Ch_rf).2 _ _ rfl cs1 (by rw [ll]; exact tb1)
theorem k_reads (h : Env σ E) (t : tpC σ d B tl) (w0 : gI d (σ 47) 0 = nI 5) (w1 : gI d (σ 47) 1 = nI 10) (hs : s < 4) (k : laK σ d B tl s (pTx B tl s) K) : w_X2_reads E (σ 45) (nI s) d K := by
  simp only [w_X2_reads, x_45_7 h]
  refine ⟨eo_45 h, eo_47 h, ?_⟩
  dsimp only
  have ne : σ 45 ≠ σ 47 := Env_ne h (by decide) (by decide) (by decide)
  have ch : Ch σ txL d (pI (pI (pI (pI d (σ 45) 2 (nI s)) (σ 47) 3 0) (σ 45) 9 0) (σ 45) 4 0) := Ch_tr (Ch_tr (Ch_tr (Ch_pI h (by decide) (by decide) (by decide)) (Ch_pI h (by decide) (by decide) (by decide))) (Ch_pI h (by decide) (by decide) (by decide))) (Ch_pI h (by decide) (by decide) (by decide))
  have f2 : gI (pI (pI (pI (pI d (σ 45) 2 (nI s)) (σ 47) 3 0) (σ 45) 9 0) (σ 45) 4 0) (σ 45) 2 = nI s := by
    rw [gI_pI_k _ _ _ (by decide), gI_pI_k _ _ _ (by decide), gI_pI_a _ _ _ ne, gI_pI]
  have f1 : gI (pI (pI (pI (pI d (σ 45) 2 (nI s)) (σ 47) 3 0) (σ 45) 9 0) (σ 45) 4 0) (σ 45) 1 = nI tl := by
    rw [gI_pI_k _ _ _ (by decide), gI_pI_k _ _ _ (by decide), gI_pI_a _ _ _ ne, gI_pI_k _ _ _ (by decide)]; exact t.2.2.1
  have f9 : gI (pI (pI (pI (pI d (σ 45) 2 (nI s)) (σ 47) 3 0) (σ 45) 9 0) (σ 45) 4 0) (σ 45) 9 = nI 0 := by
    rw [gI_pI_k _ _ _ (by decide), gI_pI]; rfl
  have f4 : gI (pI (pI (pI (pI d (σ 45) 2 (nI s)) (σ 47) 3 0) (σ 45) 9 0) (σ 45) 4 0) (σ 45) 4 = nI 0 := gI_pI _ _ _ _
  have td : TD (pI (pI (pI (pI d (σ 45) 2 (nI s)) (σ 47) 3 0) (σ 45) 9 0) (σ 45) 4 0) (σ 47) 5 10 0 := by
    unfold TD
    rw [gI_pI_a _ _ _ ne.symm, gI_pI_a _ _ _ ne.symm]
    refine ⟨?_, ?_, gI_pI _ _ _ _, by decide⟩
    · rw [gI_pI_k _ _ _ (by decide), gI_pI_a _ _ _ ne.symm]; exact w0
    · rw [gI_pI_k _ _ _ (by decide), gI_pI_a _ _ _ ne.symm]; exact w1
  generalize pI (pI (pI (pI d (σ 45) 2 (nI s)) (σ 47) 3 0) (σ 45) 9 0) (σ 45) 4 0 = d1 at ch f2 f1 f9 f4 td
  have t1 : tpC σ d1 B tl := ⟨t.1, t.2.1, f1, fun k hk => by rw [Ch_A ch (by decide) (by decide)]; exact t.2.2.2 k hk⟩
  refine k_next h t1 (Nat.zero_le _) f4 (fun d2 x y => ?_)
  have k : laK σ d2 B tl s (pTx B tl s) K := fun d' c' => k d' (Ch_tr ch (Ch_tr (Ch_w x.1 (by decide)) c'))
  have cs : clS σ d2 B tl s [] (blk B tl 0) := by
    refine ⟨nx_tp t1 x, sk_le (Nat.zero_le _), ?_, hs, ⟨?_, fun i z hz => (nomatch hz)⟩, y⟩
    · rw [x.2 2 (by decide) (by decide) (by decide) (by decide)]; exact f2
    · rw [x.2 9 (by decide) (by decide) (by decide) (by decide)]; exact f9
  have tb : ltS σ d2 s [] 0 := by
    refine ⟨?_, fun i l hl => (nomatch hl)⟩
    unfold TD at *
    rw [Ch_I x.1 (by decide) (by decide)]; exact td
  have g5 := cs.2.2.2.2.2.2.2.1
  have ht := th_le t.2.1 (tl := tl) (b := blk B tl 0)
  unfold pTx at k
  refine ⟨fun z => ⟨11, ?_⟩, fun z => ?_⟩
  · rw [if_neg (fun q => z (g5.trans (by rw [q]; rfl)))] at k
    exact k_reads39 h 10 [] [] _ d2 rfl cs tb (Nat.zero_le _) k
  · have z := (z_eq (b := 31) (by omega) (by decide)).mp (g5.symm.trans z)
    rw [if_pos z] at k
    exact (k d2 Ch_rf).2 [] [] rfl cs tb
end
