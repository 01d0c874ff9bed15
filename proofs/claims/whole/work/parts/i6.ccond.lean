def bF (a : Bool) : Int32 := if a = true then 1 else 0
def bN (a : Bool) : Nat := if a = true then 1 else 0
section
variable {σ : Nat → Nat} {E : En} {d0 d d' d2 d3 : Dy} {B : Nat → Nat} {tl s b : Nat} {c : Cd} {r : PR} {K0 : Dy → Prop} {K : Int32 → Dy → Prop}
/-- how one reads a piece -/
def cAok (σ : Nat → Nat) (B : Nat → Nat) (tl s : Nat) (A : Cd → Nat → PR) (f : Dy → (Int32 → Dy → Prop) → Prop) : Prop := ∀ c b d K, clS σ d B tl s c b → c.length + 1 ≤ b → cKo σ d B tl s (A c b) K → f d K
theorem k_cond (h : Env σ E) {A : Cd → Nat → PR} {p1 : Int32} {f1 f2 f3 : Nat → Int32 → Dy → (Int32 → Dy → Prop) → Prop} (hA : ∀ c b, b ≤ tl → gdR tl c b (A c b)) (ka : cAok σ B tl s A (f2 (σ 45) p1)) :
    ∀ n a o c b d v4, clS σ d B tl s c b → tl + 1 ≤ b + n → v4 < b → c.length + bN a + bN o + 1 ≤ b → cKo σ d B tl s (pCd B tl A n a o c b) K → l_X2_readCondition_7 E (σ 45) p1 K f1 f2 f3 n (bF a) (bF o) (nI v4) d := by
  intro n
  induction n with
  | zero => intro a o c b d v4 cs hn; have := cs.2.1; omega
  | succ n ihn =>
    intro a o c b d v4 cs hn hv hc k
    have hb := cs.2.1
    have h400 := cs.1.1
    have hB := cs.1.2.1
    show b_X2_readCondition_7 E (σ 45) p1 K f1 f2 f3 (l_X2_readCondition_7 E (σ 45) p1 K f1 f2 f3 n) (bF a) (bF o) (nI v4) d
    have ga := hA c b hb
    unfold pCd at k
    refine ⟨fun z => absurd ((z_le (a := 400) (by decide) (by omega)).mp z) (by omega), fun _ => ka c b d _ cs (by omega) ?_⟩
    revert ga k
    generalize A c b = w
    obtain ⟨b1, r⟩ := w
    intro ga k d1 ch1
    have k := cK_ch ch1 k
    cases r with
    | none => exact ⟨fun _ f => ⟨fun q => absurd rfl q, fun _ => cK_bad k rfl f⟩, fun c' hc' => (nomatch hc')⟩
    | some c1 =>
      refine ⟨fun q => (nomatch q), fun c' hc' cs1 => ⟨fun _ => ?_, fun q => absurd q (by decide)⟩⟩
      cases hc'
      obtain ⟨k1, x, kx, k3⟩ := ga.2 c1 rfl
      have k1 : b + 1 ≤ b1 := k1
      have k3 : x.length + b ≤ b1 := k3
      have cs1 : clS σ d1 B tl s c1 b1 := cs1
      have l1 : c1.length + bN a + bN o + 1 ≤ b1 := by rw [kx, List.length_append]; omega
      have hb1 : b1 ≤ tl := ga.1
      have tail : ∀ d2, Ch σ [45, 49] d1 d2 → clS σ d2 B tl s (if a = true then c1 ++ [(14, 0)] else c1) b1 → b_X2_readCondition_35 E (σ 45) p1 K f1 f2 f3 (l_X2_readCondition_7 E (σ 45) p1 K f1 f2 f3 n) (bF o) (nI v4) d2 := fun d2 ch2 cs2 => by
        have k2 := cK_ch ch2 k
        have l2 : (if a = true then c1 ++ [(14, 0)] else c1).length + bN o + 1 ≤ b1 := by
          cases a
          · show c1.length + _ + _ ≤ _; unfold bN at l1; rw [if_neg (by decide)] at l1; unfold bN; omega
          · show (c1 ++ [(14, 0)]).length + _ + _ ≤ _; rw [List.length_append]; show c1.length + 1 + _ + _ ≤ _; unfold bN at l1; rw [if_pos rfl] at l1; unfold bN; omega
        have g5 := cs2.2.2.2.2.2.2.2.1
        have ht := th_le hB (tl := tl) (b := b1)
        unfold bnP at k2
        simp only [] at k2
        revert k2 cs2 l2
        generalize (if a = true then c1 ++ [(14, 0)] else c1) = c2
        intro cs2 k2 l2
        refine ⟨fun z => ?_, fun z => ?_⟩
        · have z : ¬ thB B tl b1 = 19 := fun q => z (g5.trans (by rw [q]; rfl))
          rw [if_neg z] at k2
          have tail2 : ∀ d3, Ch σ [45, 49] d2 d3 → clS σ d3 B tl s (if o = true then c2 ++ [(15, 0)] else c2) b1 → b_X2_readCondition_64 E (σ 45) p1 K f1 f2 f3 (l_X2_readCondition_7 E (σ 45) p1 K f1 f2 f3 n) 0 (nI v4) d3 := fun d3 ch3 cs3 => by
            have k3 := cK_ch ch3 k2
            have g5' := cs3.2.2.2.2.2.2.2.1
            refine ⟨fun z2 => ⟨fun q => absurd rfl q, fun _ => ?_⟩, fun z2 => ⟨fun _ => ?_, fun q => absurd q (by decide)⟩⟩
            · have z2 : ¬ thB B tl b1 = 18 := fun q => z2 (g5'.trans (by rw [q]; rfl))
              rw [if_neg z2] at k3
              exact cK_good k3 rfl cs3
            · have z2 := (z_eq (b := 18) (by omega) (by decide)).mp (g5'.symm.trans z2)
              rw [if_pos z2] at k3
              have g2 := nB_gt2 (B := B) (tl := tl) (b := b1) (by rw [z2]; decide)
              refine k_nextB h cs3 (fun d4 ch4 cs4 => ?_)
              rw [z_a1]
              refine ihn false true _ _ d4 (v4 + 1) cs4 (by omega) (by omega) ?_ (cK_ch ch4 k3)
              cases o
              · show c2.length + 0 + 1 + 1 ≤ _; unfold bN at l2; rw [if_neg (by decide)] at l2; omega
              · show (c2 ++ [(15, 0)]).length + 0 + 1 + 1 ≤ _; rw [List.length_append]; show c2.length + 1 + 0 + 1 + 1 ≤ _; unfold bN at l2; rw [if_pos rfl] at l2; omega
          refine ⟨fun q => absurd rfl q, fun _ => ⟨fun q => ?_, fun q => ?_⟩⟩
          · have ov : o = false := by cases o; rfl; exact absurd q (by decide)
            subst ov
            exact tail2 d2 Ch_rf cs2
          · have ov : o = true := by cases o; (exact absurd rfl q); rfl
            subst ov
            unfold bN at l2; rw [if_pos rfl] at l2
            exact k_emit (x := (15, 0)) h cs2 (by omega) (by decide) (fun d3 ch3 cs3 => tail2 d3 ch3 cs3)
        · have z := (z_eq (b := 19) (by omega) (by decide)).mp (g5.symm.trans z)
          rw [if_pos z] at k2
          have g2 := nB_gt2 (B := B) (tl := tl) (b := b1) (by rw [z]; decide)
          refine ⟨fun _ => k_nextB h cs2 (fun d4 ch4 cs4 => ?_), fun q => absurd q (by decide)⟩
          rw [z_a1]
          refine ihn true o _ _ d4 (v4 + 1) cs4 (by omega) (by omega) ?_ (cK_ch ch4 k2)
          show c2.length + 1 + bN o + 1 ≤ _; omega
      refine ⟨fun q => ?_, fun q => ?_⟩
      · have av : a = false := by cases a; rfl; exact absurd q (by decide)
        subst av
        exact tail d1 Ch_rf cs1
      · have av : a = true := by cases a; (exact absurd rfl q); rfl
        subst av
        have l1' : c1.length + 1 + bN o + 1 ≤ b1 := l1
        exact k_emit (x := (14, 0)) h cs1 (by omega) (by decide) (fun d3 ch3 cs3 => tail d3 ch3 cs3)
theorem cK_bnP {f : Nat → Cd → PR} {K2 : Int32 → Dy → Prop} (k : cKo σ d B tl s (bnP r f) K) (k0 : ∀ d' b1, r = (b1, none) → Ch σ [45, 49] d d' → flS σ d' b1 → (flS σ d' b1 → K 0 d') → (∀ d2, Ch σ [45, 49] d' d2 → flS σ d2 b1 → K 0 d2) → K2 0 d') (k1 : ∀ d' b1 c1, r = (b1, some c1) → Ch σ [45, 49] d d' → clS σ d' B tl s c1 b1 → cKo σ d' B tl s (f b1 c1) K → K2 1 d') : cKo σ d B tl s r K2 := by
  obtain ⟨b1, w⟩ := r
  intro d1 ch1
  have kk := cK_ch ch1 k
  cases w with
  | none => exact ⟨fun _ q => k0 d1 b1 rfl ch1 q (fun q => cK_bad kk rfl q) (fun d2 ch2 q2 => cK_bad (cK_ch ch2 kk) rfl q2), fun c' hc' => (nomatch hc')⟩
  | some c1 => exact ⟨fun q => (nomatch q), fun c' hc' cs1 => by cases hc'; exact k1 d1 b1 c1 rfl ch1 cs1 kk⟩
theorem k_atomF (h : Env σ E) (U : Option (Cd → Nat → PR)) {D : Nat} (hD : D ≤ 6) (n : Nat) (hn : 3 * D + 1 ≤ n) (hU : ∀ A, U = some A → (∀ c b, b ≤ tl → gdR tl c b (A c b)) ∧ ∀ m, 3 * (D - 1) + 1 ≤ m → cAok σ B tl s A ((wr_X2_readCondition E m).2.1 (σ 45) (nI (6 - (D - 1))))) (hU2 : U.isSome = decide (0 < D)) : cAok σ B tl s (atF B tl s U) ((wr_X2_readCondition E n).2.1 (σ 45) (nI (6 - D))) := by
  intro c b d K cs hc k
  obtain ⟨n, rfl⟩ : ∃ m, n = m + 1 := ⟨n - 1, by omega⟩
  have hb := cs.2.1
  have h400 := cs.1.1
  have hB := cs.1.2.1
  have hs := cs.2.2.2.1
  have g2 := cs.2.2.1
  have g5 := cs.2.2.2.2.2.2.2.1
  have ht := th_le hB (tl := tl) (b := b)
  show wb_X2_readAtom E (σ 45) (nI (6 - D)) d K _ _ _
  have w47 : thB B tl b = 20 ∨ thB B tl b = 40 → b_X2_readAtom_47 E (σ 45) (nI (6 - D)) K (wr_X2_readCondition E n).1 (wr_X2_readCondition E n).2.1 (wr_X2_readCondition E n).2.2 d := fun q => by
    have g1 := nB_gt2 (B := B) (tl := tl) (b := b) (by rcases q with q | q <;> (rw [q]; decide))
    unfold atF at k
    rw [if_neg (fun w => by omega)] at k
    cases U with
    | none =>
      have hD0 : D = 0 := by have : false = decide (0 < D) := hU2; have := of_decide_eq_false this.symm; omega
      subst hD0
      refine ⟨fun _ => cK_bad k ?_ (cl_fl cs (by omega)), fun w => absurd (by decide) w⟩
      split
      · rfl
      · rw [if_pos (by omega)]
    | some A =>
      have hD0 : 0 < D := by have : true = decide (0 < D) := hU2; exact of_decide_eq_true this.symm
      obtain ⟨gA1, gA2⟩ := hU A rfl
      have e6 : nI (6 - D) + 1 = nI (6 - (D - 1)) := by rw [z_a1]; congr 1; omega
      refine ⟨fun w => absurd ((z_le (a := 6) (by decide) (by omega)).mp w) (by omega), fun _ => ?_⟩
      obtain ⟨n, rfl⟩ : ∃ m, n = m + 1 := ⟨n - 1, by omega⟩
      rw [e6]
      show wb_X2_readWithin E (σ 45) (nI (6 - (D - 1))) d _ _ _ _
      refine ⟨eo_45 h, fun z => ?_, fun z => ?_⟩
      · have z : ¬ thB B tl b = 20 := fun q => z (g5.trans (by rw [q]; rfl))
        rw [if_neg z, if_pos (by omega)] at k
        refine k_nextB h cs (fun d1 ch1 cs1 => ⟨fun _ => ?_, fun w => absurd rfl w⟩)
        obtain ⟨n, rfl⟩ : ∃ m, n = m + 1 := ⟨n - 1, by omega⟩
        refine ⟨eo_45 h, 401, k_cond h gA1 (gA2 n (by omega)) 401 false false c _ d1 0 cs1 (by omega) (by omega) (by show c.length + 0 + 0 + 1 ≤ _; omega) ?_⟩
        refine cK_bnP (cK_ch ch1 k) (fun d2 b1 _ _ f2 kk _ => ⟨fun _ => ⟨fun _ => kk f2, fun w => absurd rfl w⟩, fun w => absurd rfl w⟩) (fun d2 b1 c1 hr ch2 cs2 kk => ⟨fun w => absurd w (by decide), fun _ => ?_⟩)
        have hk := gd_Cd1 (B := B) gA1 401 c (nB B tl b) (nB_le hb)
        rw [hr] at hk
        obtain ⟨q1, x, q2, q3⟩ := hk.2 c1 rfl
        have q3 : x.length + nB B tl b ≤ b1 := q3
        have l1 : c1.length ≤ 400 := by have := hk.1; have : b1 ≤ tl := this; rw [q2, List.length_append]; omega
        have g5' := cs2.2.2.2.2.2.2.2.1
        have ht2 := th_le hB (tl := tl) (b := b1)
        refine ⟨fun z2 => ?_, fun z2 => ?_⟩
        · have z2 := (z_eq (b := 41) (by omega) (by decide)).mp (g5'.symm.trans z2)
          rw [if_pos z2] at kk
          refine k_nextB h cs2 (fun d3 ch3 cs3 => ⟨fun w => absurd w (by decide), fun _ => cK_good (cK_ch ch3 kk) rfl cs3⟩)
        · have z2 : ¬ thB B tl b1 = 41 := fun q => z2 (g5'.trans (by rw [q]; rfl))
          rw [if_neg z2] at kk
          exact ⟨fun _ => cK_bad kk rfl (cl_fl cs2 l1), fun w => absurd rfl w⟩
      · have z := (z_eq (b := 20) (by omega) (by decide)).mp (g5.symm.trans z)
        rw [if_pos z] at k
        refine k_nextB h cs (fun d1 ch1 cs1 => ⟨fun w => absurd w (by decide), fun _ => ?_⟩)
        refine gA2 n (by omega) c _ d1 _ cs1 (by omega) ?_
        refine cK_bnP (cK_ch ch1 k) (fun d2 b1 _ _ f2 _ kk => k_emitX h f2 (fun d3 ch3 f3 => ⟨Or.inl rfl, fun _ => kk d3 ch3 f3, fun w => absurd rfl w⟩)) (fun d2 b1 c1 hr ch2 cs2 kk => ?_)
        have hk := gA1 c (nB B tl b) (nB_le hb)
        rw [hr] at hk
        obtain ⟨q1, x, q2, q3⟩ := hk.2 c1 rfl
        have q3 : x.length + nB B tl b ≤ b1 := q3
        have l1 : c1.length < 400 := by have := hk.1; have : b1 ≤ tl := this; rw [q2, List.length_append]; omega
        exact k_emit (x := (13, 0)) h cs2 l1 (by decide) (fun d3 ch3 cs3 => ⟨Or.inr rfl, fun w => absurd w (by decide), fun _ => cK_good (cK_ch ch3 kk) rfl cs3⟩)
  have w29 : ¬ (thB B tl b = 8 ∧ s ≠ 3) → b_X2_readAtom_29 E (σ 45) (nI (6 - D)) K (wr_X2_readCondition E n).1 (wr_X2_readCondition E n).2.1 (wr_X2_readCondition E n).2.2 d := fun q0 => by
    refine ⟨fun z => w47 (Or.inl ((z_eq (b := 20) (by omega) (by decide)).mp (g5.symm.trans z))), fun z => ⟨fun z2 => ?_, fun z2 => w47 (Or.inr ((z_eq (b := 40) (by omega) (by decide)).mp (g5.symm.trans z2)))⟩⟩
    have z : ¬ thB B tl b = 20 := fun q => z (g5.trans (by rw [q]; rfl))
    have z2 : ¬ thB B tl b = 40 := fun q => z2 (g5.trans (by rw [q]; rfl))
    unfold atF at k
    rw [if_neg q0, if_neg z, if_neg z2] at k
    refine k_readSum h cs hc (cK_bnP k (fun d1 b1 _ _ f1 kk _ => ⟨fun _ => kk f1, fun w => absurd rfl w⟩) (fun d1 b1 c1 hr ch1 cs1 kk => ⟨fun w => absurd w (by decide), fun _ => ?_⟩))
    have hk := gd_Sm1 (B := B) (s := s) 401 c b hb
    rw [hr] at hk
    obtain ⟨q1, x, q2, q3⟩ := hk.2 c1 rfl
    have q1 : b + 1 ≤ b1 := q1
    have q3 : x.length + b ≤ b1 := q3
    have hb1 : b1 ≤ tl := hk.1
    have l1 : c1.length + 1 ≤ b1 := by rw [q2, List.length_append]; omega
    have g5' := cs1.2.2.2.2.2.2.2.1
    have ht2 := th_le hB (tl := tl) (b := b1)
    have go : ∀ (p : Int32) (m : Nat), thB B tl b1 = 60 ∨ thB B tl b1 = 62 → m = (if thB B tl b1 = 60 then 11 else 12) → p = stp (nI m) (nI 0) → b_X2_readAtom_112 E (σ 45) (nI (6 - D)) K (wr_X2_readCondition E n).1 (wr_X2_readCondition E n).2.1 (wr_X2_readCondition E n).2.2 p d1 := fun p m hq hm hp => by
      rw [if_pos hq] at kk
      have g3 := nB_gt2 (B := B) (tl := tl) (b := b1) (by rcases hq with q | q <;> (rw [q]; decide))
      refine k_nextB h cs1 (fun d2 ch2 cs2 => k_readSum h cs2 (by omega) (cK_bnP (cK_ch ch2 kk) (fun d3 b2 _ _ f3 _ k3 => k_emitX h f3 (fun d4 ch4 f4 => ⟨Or.inl rfl, k3 d4 ch4 f4⟩)) (fun d3 b2 c2 hr2 ch3 cs3 k3 => ?_)))
      have hk2 := gd_Sm1 (B := B) (s := s) 401 c1 (nB B tl b1) (nB_le hb1)
      rw [hr2] at hk2
      obtain ⟨q1', x', q2', q3'⟩ := hk2.2 c2 rfl
      have q3' : x'.length + nB B tl b1 ≤ b2 := q3'
      have l2 : c2.length < 400 := by have := hk2.1; have : b2 ≤ tl := this; rw [q2', List.length_append]; omega
      refine k_emit (x := (m, 0)) h cs3 l2 hp (fun d4 ch4 cs4 => ⟨Or.inr rfl, ?_⟩)
      rw [← hm] at k3
      exact cK_good (cK_ch ch4 k3) rfl cs4
    have c96 : thB B tl b1 = 60 ∨ thB B tl b1 = 62 → b_X2_readAtom_96 E (σ 45) (nI (6 - D)) K (wr_X2_readCondition E n).1 (wr_X2_readCondition E n).2.1 (wr_X2_readCondition E n).2.2 d1 := fun hq => by
      refine ⟨fun z => go (-12) 12 hq ?_ (by decide), fun z => go (-11) 11 hq ?_ (by decide)⟩
      · rw [if_neg (fun q => z (g5'.trans (by rw [q]; rfl)))]
      · rw [if_pos ((z_eq (b := 60) (by omega) (by decide)).mp (g5'.symm.trans z))]
    refine ⟨fun w => c96 (Or.inl ((z_eq (b := 60) (by omega) (by decide)).mp (g5'.symm.trans w))), fun w => ⟨fun w2 => c96 (Or.inr ((z_eq (b := 62) (by omega) (by decide)).mp (g5'.symm.trans w2))), fun w2 => ?_⟩⟩
    rw [if_neg (fun hq => by
      rcases hq with q | q
      · exact w (g5'.trans (by rw [q]; rfl))
      · exact w2 (g5'.trans (by rw [q]; rfl)))] at kk
    exact cK_bad kk rfl (cl_fl cs1 (by omega))
  refine ⟨eo_45 h, fun z => w29 (fun q => z (g5.trans (by rw [q.1]; rfl))), fun z => ⟨fun z2 => w29 (fun q => q.2 ((z_eq (b := 3) (by omega) (by decide)).mp (g2.symm.trans z2))), fun z2 => ?_⟩⟩
  have z := (z_eq (b := 8) (by omega) (by decide)).mp (g5.symm.trans z)
  have z2 : s ≠ 3 := fun q => z2 (g2.trans (by rw [q]; rfl))
  unfold atF at k
  rw [if_pos ⟨z, z2⟩] at k
  exact k_emit (x := (8, 0)) h cs (by omega) (by decide) (fun d1 ch1 cs1 => k_nextB h cs1 (fun d2 ch2 cs2 => cK_good (cK_ch (Ch_tr ch1 ch2) k) rfl cs2))
theorem k_atom (h : Env σ E) : ∀ D, D ≤ 6 → ∀ n, 3 * D + 1 ≤ n → cAok σ B tl s (pAt B tl s D) ((wr_X2_readCondition E n).2.1 (σ 45) (nI (6 - D))) := by
  intro D
  induction D with
  | zero => exact fun _ n hn => k_atomF h none (by decide) n (by omega) (fun A q => (nomatch q)) rfl
  | succ D ihD => exact fun hD n hn => k_atomF h (some (pAt B tl s D)) (by omega) n (by omega) (fun A q => by cases q; exact ⟨fun c b hb => gd_At D c b hb, fun m hm => ihD (by omega) m (by omega)⟩) rfl
end
