def orT (B : Nat → Nat) (tl : Nat) (A : Cd → Nat → PR) (n : Nat) (o : Bool) (c : Cd) (b : Nat) : PR := if thB B tl b = 18 then pCd B tl A n false true (if o = true then c ++ [(15, 0)] else c) (nB B tl b) else (b, some (if o = true then c ++ [(15, 0)] else c))
def cdT (B : Nat → Nat) (tl : Nat) (A : Cd → Nat → PR) (n : Nat) (o : Bool) (c : Cd) (b : Nat) : PR := if thB B tl b = 19 then pCd B tl A n true o c (nB B tl b) else orT B tl A n o c b
theorem pCd_s {B : Nat → Nat} {tl n b : Nat} {A : Cd → Nat → PR} {a o : Bool} {c : Cd} : pCd B tl A (n + 1) a o c b = bnP (A c b) (fun b1 c1 => cdT B tl A n o (if a = true then c1 ++ [(14, 0)] else c1) b1) := rfl
section
variable {σ : Nat → Nat} {E : En} {d0 d d' d2 d3 : Dy} {B : Nat → Nat} {tl s dep b q : Nat} {c : Cd} {r : PR} {K0 : Dy → Prop} {K : Int32 → Dy → Prop}
def rAok (σ : Nat → Nat) (B : Nat → Nat) (tl s dep : Nat) (A : Cd → Nat → PR) (f : Dy → (Int32 → Dy → Prop) → Prop) : Prop := ∀ c b d K, rtS σ d B tl s dep c b → c.length + 1 ≤ b → rKo σ d B tl s dep (A c b) K → f d K
theorem r_allL (h : Env σ E) {A : Cd → Nat → PR} {f1 f2 f3 : Nat → Dy → (Int32 → Dy → Prop) → Prop} (hA : ∀ c b, b ≤ tl → gdR tl c b (A c b)) (ka : rAok σ B tl s dep A (f1 (σ 87))) (o : Bool) :
    ∀ n c b d R, rtS σ d B tl s dep c b → tl + 1 ≤ b + n → c.length + bN o + 1 ≤ b → R = cdT B tl A n o c b → (∀ d' bb, ryS σ d d' → R = (bb, none) → gI d' (σ 87) 8 = nI bb → K 0 d') → (∀ d' c' b' n', ryS σ d d' → rtS σ d' B tl s dep c' b' → b ≤ b' → tl + 1 ≤ b' + n' → c'.length + bN o + 1 ≤ b' → R = orT B tl A n' o c' b' → K 1 d') → l_X11_readAllOf_9 E (σ 87) K f1 f2 f3 (n + 1) d := by
  intro n
  induction n with
  | zero => intro c b d R a hn; have := rt_b a; omega
  | succ n ihn =>
    intro c b d R a hn hc hR hF hS
    have hb := rt_b a
    have h400 := a.1.1
    show b_X11_readAllOf_9 E (σ 87) K f1 f2 f3 (l_X11_readAllOf_9 E (σ 87) K f1 f2 f3 (n + 1)) d
    refine rp_passes (t := 20) h a (by decide) (by decide) (fun e d1 x1 a1 g8 => ⟨fun w => absurd w (by decide), fun _ => ?_⟩) (fun e d1 x1 a1 g8 => ⟨fun _ => ?_, fun w => absurd rfl w⟩)
    · have e : thB B tl b = 19 := e
      have g1 := nB_gt2 (B := B) (tl := tl) (b := b) (by omega)
      have l1 := nB_le (B := B) hb
      unfold cdT at hR
      rw [if_pos e, pCd_s] at hR
      have ga := hA c (nB B tl b) l1
      refine ka c (nB B tl b) d1 _ a1 (by omega) ?_
      revert hR ga
      generalize A c (nB B tl b) = w
      obtain ⟨b1, q⟩ := w
      intro hR ga d2 y2
      cases q with
      | none => exact ⟨fun _ g => ⟨fun w => absurd rfl w, fun _ => hF d2 b1 (ry_tr (ry_rx x1) y2) hR g⟩, fun c' hc' => (nomatch hc')⟩
      | some c1 =>
        refine ⟨fun w => (nomatch w), fun c' hc' a2 => ⟨fun _ => ?_, fun w => absurd w (by decide)⟩⟩
        cases hc'
        obtain ⟨k1, x, kx, k3⟩ := ga.2 c1 rfl
        have k1 : nB B tl b + 1 ≤ b1 := k1
        have k3 : x.length + nB B tl b ≤ b1 := k3
        have k0 : b1 ≤ tl := ga.1
        have l2 : c1.length + 1 + bN o + 1 ≤ b1 := by rw [kx, List.length_append]; omega
        refine rp_emits (x := (14, 0)) h a2 (by omega) (fun d3 y3 a3 => ihn (c1 ++ [(14, 0)]) b1 d3 R a3 (by omega) ?_ hR (fun d' bb y e g => hF d' bb (ry_tr (ry_rx x1) (ry_tr y2 (ry_tr y3 y))) e g) (fun d' c' b' n' y a' q1 q2 q3 q4 => hS d' c' b' n' (ry_tr (ry_rx x1) (ry_tr y2 (ry_tr y3 y))) a' (by omega) q2 q3 q4))
        rw [List.length_append]; show c1.length + 1 + bN o + 1 ≤ b1; exact l2
    · have e : ¬ thB B tl b = 19 := e
      unfold cdT at hR
      rw [if_neg e] at hR
      exact hS d1 c b (n + 1) (ry_rx x1) a1 (Nat.le_refl _) hn hc hR
theorem r_all (h : Env σ E) {A : Cd → Nat → PR} {f1 f2 f3 : Nat → Dy → (Int32 → Dy → Prop) → Prop} (hA : ∀ c b, b ≤ tl → gdR tl c b (A c b)) (ka : rAok σ B tl s dep A (f1 (σ 87))) (o : Bool) {n : Nat} {R : PR} (a : rtS σ d B tl s dep c b) (hn : tl + 1 ≤ b + n) (hc : c.length + bN o + 1 ≤ b) (hR : R = pCd B tl A n false o c b) (hF : ∀ d' bb, ryS σ d d' → R = (bb, none) → gI d' (σ 87) 8 = nI bb → K 0 d') (hS : ∀ d' c' b' n', ryS σ d d' → rtS σ d' B tl s dep c' b' → b + 1 ≤ b' → tl + 1 ≤ b' + n' → c'.length + bN o + 1 ≤ b' → R = orT B tl A n' o c' b' → K 1 d') : wb_X11_readAllOf E (σ 87) d K f1 f2 f3 := by
  have hb := rt_b a
  obtain ⟨n, rfl⟩ : ∃ m, n = m + 1 := ⟨n - 1, by omega⟩
  refine ⟨eo_87 h, ka c b d _ a (by omega) ?_⟩
  have ga := hA c b hb
  rw [pCd_s] at hR
  revert hR ga
  generalize A c b = w
  obtain ⟨b1, q⟩ := w
  intro hR ga d2 y2
  cases q with
  | none => exact ⟨fun _ g => ⟨fun w => absurd rfl w, fun _ => hF d2 b1 y2 hR g⟩, fun c' hc' => (nomatch hc')⟩
  | some c1 =>
    refine ⟨fun w => (nomatch w), fun c' hc' a2 => ⟨fun _ => ⟨n + 1, ?_⟩, fun w => absurd w (by decide)⟩⟩
    cases hc'
    obtain ⟨k1, x, kx, k3⟩ := ga.2 c1 rfl
    have k1 : b + 1 ≤ b1 := k1
    have k3 : x.length + b ≤ b1 := k3
    refine r_allL h hA ka o n c1 b1 d2 R a2 (by omega) (by rw [kx, List.length_append]; omega) hR (fun d' bb y e g => hF d' bb (ry_tr y2 y) e g) (fun d' c' b' n' y a' q1 q2 q3 q4 => hS d' c' b' n' (ry_tr y2 y) a' (by omega) q2 q3 q4)
theorem r_condL (h : Env σ E) {A : Cd → Nat → PR} {f1 f2 f3 : Nat → Dy → (Int32 → Dy → Prop) → Prop} (g1 g2 g3 : Nat → Dy → (Int32 → Dy → Prop) → Prop) (hA : ∀ c b, b ≤ tl → gdR tl c b (A c b)) (ka : rAok σ B tl s dep A (g1 (σ 87))) (e2 : ∀ d K, f2 (σ 87) d K = wb_X11_readAllOf E (σ 87) d K g1 g2 g3) :
    ∀ N n c b d, rtS σ d B tl s dep c b → tl + 1 ≤ b + N → tl + 1 ≤ b + n → c.length + 1 ≤ b → rKo σ d B tl s dep (orT B tl A n false c b) K → l_X11_readCond_9 E (σ 87) K f1 f2 f3 (N + 1) d := by
  intro N
  induction N with
  | zero => intro n c b d a hn; have := rt_b a; omega
  | succ N ihN =>
    intro n c b d a hN hn hc k
    have hb := rt_b a
    have h400 := a.1.1
    show b_X11_readCond_9 E (σ 87) K f1 f2 f3 (l_X11_readCond_9 E (σ 87) K f1 f2 f3 (N + 1)) d
    refine rp_passes (t := 21) h a (by decide) (by decide) (fun e d1 x1 a1 g8 => ⟨fun w => absurd w (by decide), fun _ => ?_⟩) (fun e d1 x1 a1 g8 => ⟨fun _ => ?_, fun w => absurd rfl w⟩)
    · have e : thB B tl b = 18 := e
      have g1' := nB_gt2 (B := B) (tl := tl) (b := b) (by omega)
      have k := rK_ry (ry_rx x1) k
      unfold orT at k
      rw [if_pos e, if_neg (by decide)] at k
      rw [e2]
      refine r_all h hA ka true a1 (n := n) (by omega) (by show c.length + 1 + 1 ≤ _; omega) rfl (fun d' bb y e g => ⟨fun w => absurd rfl w, fun _ => rK_bad (rK_ry y k) e g⟩) (fun d' c' b' n' y a' q1 q2 q3 q4 => ⟨fun _ => ?_, fun w => absurd w (by decide)⟩)
      have q3 : c'.length + 1 + 1 ≤ b' := q3
      have hb' := rt_b a'
      refine rp_emits (x := (15, 0)) h a' (by omega) (fun d3 y3 a3 => ihN n' (c' ++ [(15, 0)]) b' d3 a3 (by omega) q2 ?_ ?_)
      · rw [List.length_append]; exact q3
      · have k := rK_ry (ry_tr y y3) k
        rw [q4] at k
        exact k
    · have e : ¬ thB B tl b = 18 := e
      have k := rK_ry (ry_rx x1) k
      unfold orT at k
      rw [if_neg e, if_neg (by decide)] at k
      exact rK_good k rfl a1
theorem r_cond (h : Env σ E) {A : Cd → Nat → PR} {f1 f2 f3 : Nat → Dy → (Int32 → Dy → Prop) → Prop} (g1 g2 g3 : Nat → Dy → (Int32 → Dy → Prop) → Prop) (hA : ∀ c b, b ≤ tl → gdR tl c b (A c b)) (ka : rAok σ B tl s dep A (g1 (σ 87))) (e2 : ∀ d K, f2 (σ 87) d K = wb_X11_readAllOf E (σ 87) d K g1 g2 g3) (a : rtS σ d B tl s dep c b) (hc : c.length + 1 ≤ b) (k : rKo σ d B tl s dep (pCd B tl A 401 false false c b) K) : wb_X11_readCond E (σ 87) d K f1 f2 f3 := by
  have h400 := a.1.1
  refine ⟨eo_87 h, ?_⟩
  rw [e2]
  refine r_all h hA ka false a (n := 401) (by omega) (by show c.length + 0 + 1 ≤ _; omega) rfl (fun d' bb y e g => ⟨fun w => absurd rfl w, fun _ => rK_bad (rK_ry y k) e g⟩) (fun d' c' b' n' y a' q1 q2 q3 q4 => ⟨fun _ => ⟨402, ?_⟩, fun w => absurd w (by decide)⟩)
  have k := rK_ry y k
  rw [q4] at k
  exact r_condL h g1 g2 g3 hA ka e2 401 n' c' b' d' a' (by omega) q2 q3 k
theorem rK_bnP {f : Nat → Cd → PR} {K2 : Int32 → Dy → Prop} (k : rKo σ d B tl s dep (bnP r f) K) {dep2 : Nat} (k0 : ∀ d' b1, r = (b1, none) → ryS σ d d' → gI d' (σ 87) 8 = nI b1 → (gI d' (σ 87) 8 = nI b1 → K 0 d') → K2 0 d') (k1 : ∀ d' b1 c1, r = (b1, some c1) → ryS σ d d' → rtS σ d' B tl s dep2 c1 b1 → rKo σ d' B tl s dep (f b1 c1) K → K2 1 d') : rKo σ d B tl s dep2 r K2 := by
  obtain ⟨b1, w⟩ := r
  intro d1 ch1
  have kk := rK_ry ch1 k
  cases w with
  | none => exact ⟨fun _ q => k0 d1 b1 rfl ch1 q (fun q => rK_bad kk rfl q), fun c' hc' => (nomatch hc')⟩
  | some c1 => exact ⟨fun q => (nomatch q), fun c' hc' cs1 => by cases hc'; exact k1 d1 b1 c1 rfl ch1 cs1 kk⟩
theorem rt_dep (h : Env σ E) (a : rtS σ d B tl s dep c b) {dep2 : Nat} : ryS σ d (pI d (σ 87) 9 (nI dep2)) ∧ rtS σ (pI d (σ 87) 9 (nI dep2)) B tl s dep2 c b := by
  obtain ⟨⟨r1, r2, r3, r4, r5, r6⟩, a2, a3, q, q1, q2, q3⟩ := a
  refine ⟨⟨Ch_pI h (by decide) (by decide) (by decide), fun _ _ => rfl, gI_pI_k _ _ _ (by decide)⟩, ⟨r1, r2, r3, by rw [gI_pI_k _ _ _ (by decide)]; exact r4, by rw [gI_pI_k _ _ _ (by decide)]; exact r5, r6⟩, gI_pI _ _ _ _, ⟨by rw [gI_pI_k _ _ _ (by decide)]; exact a3.1, a3.2⟩, q, q1, q2, by rw [gI_pI_k _ _ _ (by decide)]; exact q3⟩
theorem r_atomF (h : Env σ E) (U : Option (Cd → Nat → PR)) {D : Nat} (hD : D ≤ 6) (n : Nat) (hn : 3 * D + 1 ≤ n) (hU : ∀ A, U = some A → (∀ c b, b ≤ tl → gdR tl c b (A c b)) ∧ ∀ m, 3 * (D - 1) + 1 ≤ m → rAok σ B tl s (6 - (D - 1)) A ((wr_X11_readAtom E m).1 (σ 87))) (hU2 : U.isSome = decide (0 < D)) : rAok σ B tl s (6 - D) (atF B tl s U) ((wr_X11_readAtom E n).1 (σ 87)) := by
  intro c b d K a hc k
  obtain ⟨n, rfl⟩ : ∃ m, n = m + 1 := ⟨n - 1, by omega⟩
  have hb := rt_b a
  have h400 := a.1.1
  have hB := a.1.2.1
  have hs := a.1.2.2.1
  show wb_X11_readAtom E (σ 87) d K _ _ _
  refine ⟨eo_87 h, rp_sign (t := 40) h a rfl (fun e d1 x1 a1 g8 => ⟨fun w => absurd w (by decide), fun _ => ?_⟩) (fun e40 d1 x1 a1 g8 => ⟨fun _ => ?_, fun w => absurd rfl w⟩)⟩
  · have g1 := nB_gt2 (B := B) (tl := tl) (b := b) (by rw [e]; decide)
    have k := rK_ry (ry_rx x1) k
    unfold atF at k
    rw [if_neg (fun w => by omega), if_neg (by omega), if_pos e] at k
    rw [a1.2.1]
    cases U with
    | none =>
      have hD0 : D = 0 := by have : false = decide (0 < D) := hU2; have := of_decide_eq_false this.symm; omega
      subst hD0
      exact ⟨fun w => absurd rfl w, fun _ => rK_bad k rfl g8⟩
    | some A =>
      have hD0 : 0 < D := by have : true = decide (0 < D) := hU2; exact of_decide_eq_true this.symm
      obtain ⟨gA1, gA2⟩ := hU A rfl
      refine ⟨fun _ => ?_, fun w => absurd ((z_eq (b := 6) (by omega) (by decide)).mp w) (by omega)⟩
      rw [z_a1, show 6 - D + 1 = 6 - (D - 1) by omega]
      obtain ⟨y2, a2⟩ := rt_dep h a1 (dep2 := 6 - (D - 1))
      obtain ⟨n, rfl⟩ : ∃ m, n = m + 1 := ⟨n - 1, by omega⟩
      obtain ⟨n, rfl⟩ : ∃ m, n = m + 1 := ⟨n - 1, by omega⟩
      show wb_X11_readCond E (σ 87) _ _ (wr_X11_readAtom E (n + 1)).1 (wr_X11_readAtom E (n + 1)).2.1 (wr_X11_readAtom E (n + 1)).2.2
      refine r_cond h (wr_X11_readAtom E n).1 (wr_X11_readAtom E n).2.1 (wr_X11_readAtom E n).2.2 gA1 (gA2 n (by omega)) (fun _ _ => rfl) a2 (by omega) ?_
      refine rK_bnP (rK_ry y2 k) (fun d3 b1 _ _ g kk => ⟨fun w => absurd rfl w, fun _ => kk g⟩) (fun d3 b1 c1 hr y3 a3 kk => ⟨fun _ => ?_, fun w => absurd w (by decide)⟩)
      rw [a3.2.1, show nI (6 - (D - 1)) - 1 = nI (6 - D) by rw [show 6 - (D - 1) = (6 - D) + 1 by omega, z_m1]]
      obtain ⟨y4, a4⟩ := rt_dep h a3 (dep2 := 6 - D)
      refine rp_sign (t := 41) h a4 rfl (fun e5 d5 x5 a5 g5 => ⟨Or.inr rfl, ?_⟩) (fun e5 d5 x5 a5 g5 => ⟨Or.inl rfl, ?_⟩)
      · rw [if_pos e5] at kk
        exact rK_good (rK_ry (ry_tr y4 (ry_rx x5)) kk) rfl a5
      · rw [if_neg e5] at kk
        exact rK_bad (rK_ry (ry_tr y4 (ry_rx x5)) kk) rfl g5
  refine rp_passes (t := 18) h a1 (by decide) (by decide) (fun e d2 x2 a2 g82 => ⟨fun w => absurd w (by decide), fun _ => ?_⟩) (fun e20 d2 x2 a2 g82 => ⟨fun _ => ?_, fun w => absurd rfl w⟩)
  · have e : thB B tl b = 20 := e
    have g1 := nB_gt2 (B := B) (tl := tl) (b := b) (by omega)
    have k := rK_ry (ry_rx (rx_tr x1 x2)) k
    unfold atF at k
    rw [if_neg (fun w => by omega), if_pos e] at k
    rw [a2.2.1]
    cases U with
    | none =>
      have hD0 : D = 0 := by have : false = decide (0 < D) := hU2; have := of_decide_eq_false this.symm; omega
      subst hD0
      exact ⟨fun w => absurd rfl w, fun _ => rK_bad k rfl g82⟩
    | some A =>
      have hD0 : 0 < D := by have : true = decide (0 < D) := hU2; exact of_decide_eq_true this.symm
      obtain ⟨gA1, gA2⟩ := hU A rfl
      refine ⟨fun _ => ?_, fun w => absurd ((z_eq (b := 6) (by omega) (by decide)).mp w) (by omega)⟩
      rw [z_a1, show 6 - D + 1 = 6 - (D - 1) by omega]
      obtain ⟨y3, a3⟩ := rt_dep h a2 (dep2 := 6 - (D - 1))
      refine gA2 n (by omega) c _ _ _ a3 (by omega) ?_
      refine rK_bnP (rK_ry y3 k) (fun d4 b1 _ _ g kk => ⟨fun w => absurd rfl w, fun _ => kk g⟩) (fun d4 b1 c1 hr y4 a4 kk => ⟨fun _ => ?_, fun w => absurd w (by decide)⟩)
      rw [a4.2.1, show nI (6 - (D - 1)) - 1 = nI (6 - D) by rw [show 6 - (D - 1) = (6 - D) + 1 by omega, z_m1]]
      obtain ⟨y5, a5⟩ := rt_dep h a4 (dep2 := 6 - D)
      have hk := gA1 c (nB B tl b) (nB_le hb)
      rw [hr] at hk
      obtain ⟨q1, x, q2, q3⟩ := hk.2 c1 rfl
      have q3 : x.length + nB B tl b ≤ b1 := q3
      have l1 : c1.length < 400 := by have := hk.1; have : b1 ≤ tl := this; rw [q2, List.length_append]; omega
      exact rp_emits (x := (13, 0)) h a5 l1 (fun d6 y6 a6 => rK_good (rK_ry (ry_tr y5 y6) kk) rfl a6)
  have e20 : ¬ thB B tl b = 20 := e20
  have w140 : ¬ (thB B tl b = 8 ∧ s ≠ 3) → ∀ d3, ryS σ d d3 → rtS σ d3 B tl s (6 - D) c b → b_X11_readAtom_140 E (σ 87) K (wr_X11_readAtom E n).1 (wr_X11_readAtom E n).2.1 (wr_X11_readAtom E n).2.2 d3 := fun q0 d3 y3 a3 => by
    have k := rK_ry y3 k
    unfold atF at k
    rw [if_neg q0, if_neg e20, if_neg e40] at k
    refine r_sum h a3 hc (rK_bnP k (fun d4 b1 _ _ g kk => ⟨fun w => absurd rfl w, fun _ => kk g⟩) (fun d4 b1 c1 hr y4 a4 kk => ⟨fun _ => ?_, fun w => absurd w (by decide)⟩))
    have hk := gd_Sm1 (B := B) (s := s) 401 c b hb
    rw [hr] at hk
    obtain ⟨q1, x, q2, q3⟩ := hk.2 c1 rfl
    have q1 : b + 1 ≤ b1 := q1
    have q3 : x.length + b ≤ b1 := q3
    have hb1 : b1 ≤ tl := hk.1
    have l1 : c1.length + 1 ≤ b1 := by rw [q2, List.length_append]; omega
    have go : ∀ (v : Int32) (m : Nat) d5, ryS σ d4 d5 → rtS σ d5 B tl s (6 - D) c1 (nB B tl b1) → thB B tl b1 = 60 ∨ thB B tl b1 = 62 → m = (if thB B tl b1 = 60 then 11 else 12) → (v = 0 → m = 12) → (¬ v = 0 → m = 11) → b_X11_readAtom_169 E (σ 87) K (wr_X11_readAtom E n).1 (wr_X11_readAtom E n).2.1 (wr_X11_readAtom E n).2.2 v d5 := fun v m d5 y5 a5 hq hm v0 v1 => by
      have kk := rK_ry y5 kk
      rw [if_pos hq, ← hm] at kk
      have g3 := nB_gt2 (B := B) (tl := tl) (b := b1) (by omega)
      refine r_sum h a5 (by omega) (rK_bnP kk (fun d6 b2 _ _ g k6 => ⟨fun w => absurd rfl w, fun _ => k6 g⟩) (fun d6 b2 c2 hr2 y6 a6 k6 => ⟨fun _ => ?_, fun w => absurd w (by decide)⟩))
      have hk2 := gd_Sm1 (B := B) (s := s) 401 c1 (nB B tl b1) (nB_le hb1)
      rw [hr2] at hk2
      obtain ⟨q1', x', q2', q3'⟩ := hk2.2 c2 rfl
      have q3' : x'.length + nB B tl b1 ≤ b2 := q3'
      have l2 : c2.length < 400 := by have := hk2.1; have : b2 ≤ tl := this; rw [q2', List.length_append]; omega
      refine ⟨fun w => ?_, fun w => ?_⟩
      · rw [v0 w] at k6
        exact rp_emits (x := (12, 0)) h a6 l2 (fun d7 y7 a7 => rK_good (rK_ry y7 k6) rfl a7)
      · rw [v1 w] at k6
        exact rp_emits (x := (11, 0)) h a6 l2 (fun d7 y7 a7 => rK_good (rK_ry y7 k6) rfl a7)
    refine rp_sign (t := 60) h a4 rfl (fun e5 d5 x5 a5 g5 => ⟨fun _ => ?_, fun w => absurd w (by decide)⟩) (fun e5 d5 x5 a5 g5 => ⟨fun w => absurd rfl w, fun _ => ?_⟩)
    · exact go 1 11 d5 (ry_rx x5) a5 (Or.inl e5) (by rw [if_pos e5]) (fun w => absurd w (by decide)) (fun _ => rfl)
    · refine rp_sign (t := 62) h a5 rfl (fun e6 d6 x6 a6 g6 => ⟨fun w => absurd w (by decide), fun _ => ?_⟩) (fun e6 d6 x6 a6 g6 => ⟨fun _ => ?_, fun w => absurd rfl w⟩)
      · exact go 0 12 d6 (ry_rx (rx_tr x5 x6)) a6 (Or.inr e6) (by rw [if_neg e5]) (fun _ => rfl) (fun w => absurd rfl w)
      · rw [if_neg (fun hq => by omega)] at kk
        exact rK_bad (rK_ry (ry_rx (rx_tr x5 x6)) kk) rfl g6
  have r5 := a2.1.2.2.2.2.1
  rw [r5]
  refine ⟨fun w => w140 (fun q => q.2 ((z_eq (b := 3) (by omega) (by decide)).mp w)) d2 (ry_rx (rx_tr x1 x2)) a2, fun w => ?_⟩
  have s3 : s ≠ 3 := fun q => w (by rw [q]; rfl)
  refine rp_passes (t := 19) h a2 (by decide) (by decide) (fun e d3 x3 a3 g83 => ⟨fun w => absurd w (by decide), fun _ => ?_⟩) (fun e d3 x3 a3 g83 => ⟨fun _ => ?_, fun w => absurd rfl w⟩)
  · have e : thB B tl b = 8 := e
    have k := rK_ry (ry_rx (rx_tr x1 (rx_tr x2 x3))) k
    unfold atF at k
    rw [if_pos ⟨e, s3⟩] at k
    exact rp_emits (x := (8, 0)) h a3 (by omega) (fun d4 y4 a4 => rK_good (rK_ry y4 k) rfl a4)
  · have e : ¬ thB B tl b = 8 := e
    exact w140 (fun q => e q.1) d3 (ry_rx (rx_tr x1 (rx_tr x2 x3))) a3
theorem r_atom (h : Env σ E) : ∀ D, D ≤ 6 → ∀ n, 3 * D + 1 ≤ n → rAok σ B tl s (6 - D) (pAt B tl s D) ((wr_X11_readAtom E n).1 (σ 87)) := by
  intro D
  induction D with
  | zero => exact fun _ n hn => r_atomF h none (by decide) n (by omega) (fun A q => (nomatch q)) rfl
  | succ D ihD => exact fun hD n hn => r_atomF h (some (pAt B tl s D)) (by omega) n (by omega) (fun A q => by cases q; exact ⟨fun c b hb => gd_At D c b hb, fun m hm => ihD (by omega) m (by omega)⟩) rfl
theorem r_readCond (h : Env σ E) (a : rtS σ d B tl s 0 c b) (hc : c.length + 1 ≤ b) (k : rKo σ d B tl s 0 (pCd B tl (pAt B tl s 6) 401 false false c b) K) : w_X11_readCond E (σ 87) d K := by
  show wb_X11_readCond E (σ 87) d K (wr_X11_readAtom E 59).1 (wr_X11_readAtom E 59).2.1 (wr_X11_readAtom E 59).2.2
  exact r_cond h (wr_X11_readAtom E 58).1 (wr_X11_readAtom E 58).2.1 (wr_X11_readAtom E 58).2.2 (gd_At 6) (r_atom h 6 (by decide) 58 (by decide)) (fun _ _ => rfl) a hc k
end
