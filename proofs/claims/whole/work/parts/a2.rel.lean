/-! the reference: who is whose -/
def b2i (b : Bool) : Int32 := if b = true then 1 else 0
theorem b2i_0 {b : Bool} : b2i b = 0 ↔ b = false := by cases b <;> decide
theorem b2i_1 {b : Bool} : ¬ b2i b = 0 ↔ b = true := by cases b <;> decide
theorem enc_lt {o : Option Nat} {n : Nat} (h : ∀ q, o = some q → q < n) (hn : n < 2147483648) : encO o < 0 ↔ o = none := by
  cases o with
  | none => exact ⟨fun _ => rfl, fun _ => by decide⟩
  | some q => exact ⟨fun hq => absurd hq (z_pos (Nat.lt_trans (h q rfl) hn)), fun hq => by cases hq⟩
theorem enc_eq {o : Option Nat} {n q : Nat} (h : ∀ q, o = some q → q < n) (hn : n < 2147483648) (hq : q < n) : encO o = nI q ↔ o = some q := by
  cases o with
  | none => exact ⟨fun e => absurd e.symm (z_ne1 (by omega)), fun e => by cases e⟩
  | some p => 
    have := h p rfl
    show nI p = nI q ↔ _
    rw [z_eq (by omega) (by omega)]
    exact ⟨fun e => by rw [e], fun e => by cases e; rfl⟩
def refR (σ : Nat → Nat) (np nh : Nat) (d : Dy) (S : RS) : Prop :=
  (∀ p, p < np → gA d (σ 95) p = b2i (rsL S p) ∧ gA d (σ 96) p = encO (rsP S p)) ∧ (∀ p, p < np → ∀ q, q < np → gA d (σ 97) (12 * p + q) = b2i (rsC S p q))
  ∧ (∀ h, h < nh → gA d (σ 98) h = encO (rsH S h) ∧ gA d (σ 99) h = rsF S h ∧ gA d (σ 100) h = nI (rsO S h)) ∧ (∀ e, e < 40 → gA d (σ 101) e = b2i (rsS S e) ∧ gA d (σ 102) e = b2i (rsD S e))
def rsOK (np nh : Nat) (S : RS) : Prop :=
  (∀ p, p < np → ∀ q, rsP S p = some q → q < np) ∧ (∀ h, h < nh → ∀ p, rsH S h = some p → p < np) ∧ (∀ k, k < nh → rsO S k < nh) ∧ (∀ h, h < nh → ∃ k, k < nh ∧ rsO S k = h)
def rpS (S : RS) (nh h : Nat) : Nat := plN (rsO S) h nh 0
section
variable {σ : Nat → Nat} {E : En} {d d' d2 d3 : Dy} {W : Nat → Int32} {np nh : Nat} {S : RS} {K : Int32 → Dy → Prop} {K0 : Dy → Prop}
theorem r_spouse (h : Env σ E) (hnp : np ≤ 12) (R : refR σ np nh d S) (ok : rsOK np nh S) {p : Nat} (hp : p < np) (k : K (encO (spS S p)) d) : w_X11_spouseOf E (σ 87) (nI p) d K := by
  simp only [w_X11_spouseOf, x_87_18 h, x_87_19 h, en_95 h, en_96 h, z_nn (show p < 2147483648 by omega)]
  have hq := ok.1 p hp
  rw [(R.1 p hp).2]
  refine ⟨eo_87 h, vpi (by omega) (by decide), fun h0 => ?_, fun h0 => ?_⟩
  · rw [enc_lt hq (by omega)] at h0
    have : spS S p = none := by unfold spS; rw [h0]
    rw [this] at k; exact k
  · cases ho : rsP S p with
    | none => rw [ho] at h0; exact absurd (by decide) h0
    | some q =>
      have hqn := hq q ho
      show vp_in (nI p) 12 ∧ vp_in (nI q) 12 ∧ ((gA d (σ 95) (nI q).toNatClampNeg = 0 → K (-1) d) ∧ (¬ gA d (σ 95) (nI q).toNatClampNeg = 0 → vp_in (nI p) 12 ∧ K (nI q) d))
      rw [z_nn (by omega), (R.1 q hqn).1]
      refine ⟨vpi (by omega) (by decide), vpi (by omega) (by decide), fun h1 => ?_, fun h1 => ⟨vpi (by omega) (by decide), ?_⟩⟩
      · rw [b2i_0] at h1
        have : spS S p = none := by unfold spS; rw [ho]; simp [h1]
        rw [this] at k; exact k
      · rw [b2i_1] at h1
        have : spS S p = some q := by unfold spS; rw [ho]; simp [h1]
        rw [this] at k; exact k
theorem r_cell (h : Env σ E) (hnp : np ≤ 12) (R : refR σ np nh d S) {p q : Nat} (hp : p < np) (hq : q < np) : vp_in (12 * nI p + nI q) 144 ∧ gA d (σ 97) (12 * nI p + nI q).toNatClampNeg = b2i (rsC S p q) := by
  have e : (12 : Int32) * nI p + nI q = nI (12 * p + q) := by rw [show (12 : Int32) = nI 12 from rfl, z_mul, z_add]
  rw [e, z_nn (by omega), R.2.1 p hp q hq]
  exact ⟨vpi (by omega) (by decide), rfl⟩
theorem r_isChild (h : Env σ E) (hnp : np ≤ 12) (R : refR σ np nh d S) {p q : Nat} (hp : p < np) (hq : q < np) (k : K (b2i (chS S p q)) d) : w_X11_isChild E (σ 87) (nI p) (nI q) d K := by
  have hc := r_cell h hnp R hp hq
  simp only [w_X11_isChild, x_87_18 h, x_87_20 h, en_95 h, en_97 h, z_nn (show q < 2147483648 by omega), hc.2, (R.1 q hq).1]
  refine ⟨eo_87 h, hc.1, fun h0 => ?_, fun h0 => ⟨vpi (by omega) (by decide), fun h1 => ?_, fun h1 => ?_⟩⟩
  · rw [b2i_0] at h0
    rw [show chS S p q = false by unfold chS; rw [h0]; rfl] at k; exact k
  · rw [b2i_0] at h1
    rw [show chS S p q = false by unfold chS; rw [h1, Bool.and_false]] at k; exact k
  · rw [b2i_1] at h0 h1
    rw [show chS S p q = true by unfold chS; rw [h0, h1]; rfl] at k; exact k
theorem r_children (h : Env σ E) (eW : gA d (σ 88) = W) (e0 : W 0 = nI np) (hnp : np ≤ 12) (R : refR σ np nh d S) {p : Nat} (hp : p < np) (k : K (nI (cntN (chS S p) np)) d) : w_X11_childrenOf E (σ 87) (nI p) d K := by
  refine ⟨eo_87 h, np + 1, loopG (S := Int32 × Int32 × Dy) (l := fun N z => l_X11_childrenOf_4 E (σ 87) (nI p) K N z.1 z.2.1 z.2.2) (b := fun kk z => b_X11_childrenOf_4 E (σ 87) (nI p) K (fun a b c => kk (a, b, c)) z.1 z.2.1 z.2.2) (fun _ _ => rfl)
    (μ := fun z => np - z.2.1.toNatClampNeg) (P := fun z => d = z.2.2 ∧ ∃ i, i ≤ np ∧ nI i = z.2.1 ∧ nI (cntN (chS S p) i) = z.1) ?_ np (0, 0, d) ⟨rfl, 0, by omega, rfl, rfl⟩ (Nat.sub_le _ _)⟩
  rintro kk ⟨a, v, d3⟩ ⟨rfl, i, hi, rfl, rfl⟩ hk
  refine r_persons h ?_
  rw [eW, e0]
  refine ⟨fun hc => ?_, fun hc => ?_⟩
  · rw [z_le (by omega) (by omega)] at hc
    have : i = np := by omega
    subst this; exact k
  · rw [z_le (by omega) (by omega)] at hc
    have nx : ∀ x, x = nI (cntN (chS S p) (i + 1)) → kk (x, nI i + 1, d) := fun x hx => by
      rw [z_a1]; exact hk (x, nI (i + 1), d) ⟨rfl, i + 1, by omega, rfl, hx.symm⟩ (by simp only [z_nn (show i + 1 < 2147483648 by omega), z_nn (show i < 2147483648 by omega)]; omega)
    refine r_isChild h hnp R hp (by omega) ⟨fun h0 => nx _ ?_, fun h0 => nx _ ?_⟩
    · rw [b2i_0] at h0; show nI _ + 0 = nI (_ + (if chS S p i = true then 1 else 0)); rw [h0, Int32.add_zero]; rfl
    · rw [b2i_1] at h0; show nI _ + 1 = nI (_ + (if chS S p i = true then 1 else 0)); rw [if_pos h0, z_a1]
theorem r_elder (h : Env σ E) (eW : gA d (σ 88) = W) (hnp : np ≤ 12) {o : Option Nat} {c : Nat} (hc : c < np) (ho : ∀ b, o = some b → b < np) (k : K (encO (eldM W o c)) d) : w_X11_elder E (σ 87) (encO o) (nI c) d K := by
  refine ⟨eo_87 h, fun h0 => ?_, fun h0 => ?_⟩
  · rw [enc_lt ho (by omega)] at h0; rw [h0] at k; exact k
  · cases hb : o with
    | none => rw [hb] at h0; exact absurd (by decide) h0
    | some b =>
      have := ho b hb
      rw [hb] at k
      refine r_ofPerson h (c := 0) (by omega) (by decide) (r_ofPerson (r := b) h (c := 0) (by omega) (by decide) ?_)
      rw [eW]
      refine ⟨fun h1 => ?_, fun h1 => ?_⟩
      · have h1 : bn W b ≤ bn W c := h1
        simp only [eldM, if_neg (Int32.not_lt.mpr h1)] at k; exact k
      · have h1 : ¬ bn W b ≤ bn W c := h1
        simp only [eldM, if_pos (Int32.not_le.mp h1)] at k; exact k
theorem r_eldest (h : Env σ E) (eW : gA d (σ 88) = W) (e0 : W 0 = nI np) (hnp : np ≤ 12) (R : refR σ np nh d S) {p : Nat} (hp : p < np) (k : K (encO (elS W S np p)) d) : w_X11_eldestOf E (σ 87) (nI p) d K := by
  refine ⟨eo_87 h, np + 1, loopG (S := Int32 × Int32 × Dy) (l := fun N z => l_X11_eldestOf_4 E (σ 87) (nI p) K N z.1 z.2.1 z.2.2) (b := fun kk z => b_X11_eldestOf_4 E (σ 87) (nI p) K (fun a b c => kk (a, b, c)) z.1 z.2.1 z.2.2) (fun _ _ => rfl)
    (μ := fun z => np - z.2.1.toNatClampNeg) (P := fun z => d = z.2.2 ∧ ∃ i, i ≤ np ∧ nI i = z.2.1 ∧ encO (eldN W (chS S p) i) = z.1) ?_ np (-1, 0, d) ⟨rfl, 0, by omega, rfl, rfl⟩ (Nat.sub_le _ _)⟩
  rintro kk ⟨a, v, d3⟩ ⟨rfl, i, hi, rfl, rfl⟩ hk
  refine r_persons h ?_
  rw [eW, e0]
  refine ⟨fun hc => ?_, fun hc => ?_⟩
  · rw [z_le (by omega) (by omega)] at hc
    have : i = np := by omega
    subst this; exact k
  · rw [z_le (by omega) (by omega)] at hc
    have nx : ∀ x, x = encO (eldN W (chS S p) (i + 1)) → kk (x, nI i + 1, d) := fun x hx => by
      rw [z_a1]; exact hk (x, nI (i + 1), d) ⟨rfl, i + 1, by omega, rfl, hx.symm⟩ (by simp only [z_nn (show i + 1 < 2147483648 by omega), z_nn (show i < 2147483648 by omega)]; omega)
    refine r_isChild h hnp R hp (by omega) ⟨fun h0 => nx _ ?_, fun h0 => r_elder h eW hnp (by omega) (fun b hb => by have := eld_lt hb; omega) (nx _ ?_)⟩
    · rw [b2i_0] at h0; show _ = encO (if chS S p i = true then _ else _); rw [if_neg (by rw [h0]; decide)]
    · rw [b2i_1] at h0
      show _ = encO (if chS S p i = true then _ else _)
      rw [if_pos h0]
theorem r_parent (h : Env σ E) (eW : gA d (σ 88) = W) (e0 : W 0 = nI np) (hnp : np ≤ 12) (R : refR σ np nh d S) {p : Nat} (hp : p < np) (k : K (encO (paS S np p)) d) : w_X11_parentOf E (σ 87) (nI p) d K := by
  refine ⟨eo_87 h, np + 1, loopG (S := Int32 × Dy) (l := fun N z => l_X11_parentOf_2 E (σ 87) (nI p) K N z.1 z.2) (b := fun kk z => b_X11_parentOf_2 E (σ 87) (nI p) K (fun a b => kk (a, b)) z.1 z.2) (fun _ _ => rfl)
    (μ := fun z => np - z.1.toNatClampNeg) (P := fun z => d = z.2 ∧ ∃ i, i ≤ np ∧ nI i = z.1 ∧ ∀ q, q < i → (rsC S q p && rsL S q) = false) ?_ np (0, d) ⟨rfl, 0, by omega, rfl, fun q hq => absurd hq (by omega)⟩ (Nat.sub_le _ _)⟩
  rintro kk ⟨v, d3⟩ ⟨rfl, i, hi, rfl, hno⟩ hk
  refine r_persons h ?_
  rw [eW, e0]
  refine ⟨fun hc => ?_, fun hc => ?_⟩
  · rw [z_le (by omega) (by omega)] at hc
    have hn : paS S np p = none := by
      cases hf : paS S np p with
      | none => rfl
      | some b =>
        have := fst_lt hf
        rw [hno b (by omega)] at this
        exact absurd this.2.1 (by decide)
    rw [hn] at k; exact k
  · rw [z_le (by omega) (by omega)] at hc
    have hcell := r_cell h hnp R (show i < np by omega) hp
    simp only [x_87_18 h, x_87_20 h, en_95 h, en_97 h, z_nn (show i < 2147483648 by omega), hcell.2, (R.1 i (by omega)).1]
    have nx : (rsC S i p && rsL S i) = false → kk (nI i + 1, d) := fun hx => by
      rw [z_a1]
      refine hk (nI (i + 1), d) ⟨rfl, i + 1, by omega, rfl, fun q hq => ?_⟩ (by simp only [z_nn (show i + 1 < 2147483648 by omega), z_nn (show i < 2147483648 by omega)]; omega)
      by_cases e : q = i
      · subst e; exact hx
      · exact hno q (by omega)
    refine ⟨hcell.1, fun h0 => nx ?_, fun h0 => ⟨vpi (by omega) (by decide), fun h1 => nx ?_, fun h1 => ?_⟩⟩
    · rw [b2i_0] at h0; rw [h0]; rfl
    · rw [b2i_0] at h1; rw [h1, Bool.and_false]
    · rw [b2i_1] at h0 h1
      have hs : paS S np p = some i := by
        cases hf : paS S np p with
        | none =>
          have := fst_none hf i (by omega)
          simp only [h0, h1] at this
          exact absurd this (by decide)
        | some b =>
          have q1 := fst_lt hf
          rcases Nat.lt_trichotomy b i with q | q | q
          · rw [hno b q] at q1; exact absurd q1.2.1 (by decide)
          · rw [q]
          · have := q1.2.2 i q
            simp only [h0, h1] at this
            exact absurd this (by decide)
      rw [hs] at k; exact k
theorem r_areOfOne (h : Env σ E) (eW : gA d (σ 88) = W) (e0 : W 0 = nI np) (hnp : np ≤ 12) (R : refR σ np nh d S) {p q : Nat} (hp : p < np) (hq : q < np) (k : K (b2i (ofS S np p q)) d) : w_X11_areOfOne E (σ 87) (nI p) (nI q) d K := by
  refine ⟨eo_87 h, np + 1, loopG (S := Int32 × Int32 × Dy) (l := fun N z => l_X11_areOfOne_5 E (σ 87) (nI p) (nI q) K N z.1 z.2.1 z.2.2) (b := fun kk z => b_X11_areOfOne_5 E (σ 87) (nI p) (nI q) K (fun a b c => kk (a, b, c)) z.1 z.2.1 z.2.2) (fun _ _ => rfl)
    (μ := fun z => np - z.2.1.toNatClampNeg) (P := fun z => d = z.2.2 ∧ ∃ i, i ≤ np ∧ nI i = z.2.1 ∧ b2i (anyN (fun r => rsC S r p && rsC S r q) i) = z.1) ?_ np (0, 0, d) ⟨rfl, 0, by omega, rfl, rfl⟩ (Nat.sub_le _ _)⟩
  rintro kk ⟨a, v, d3⟩ ⟨rfl, i, hi, rfl, rfl⟩ hk
  refine r_persons h ?_
  rw [eW, e0]
  have nx : ∀ x, i < np → x = b2i (anyN (fun r => rsC S r p && rsC S r q) (i + 1)) → kk (x, nI i + 1, d) := fun x hin hx => by
    rw [z_a1]; exact hk (x, nI (i + 1), d) ⟨rfl, i + 1, by omega, rfl, hx.symm⟩ (by simp only [z_nn (show i + 1 < 2147483648 by omega), z_nn (show i < 2147483648 by omega)]; omega)
  have ea : anyN (fun r => rsC S r p && rsC S r q) (i + 1) = (anyN (fun r => rsC S r p && rsC S r q) i || (rsC S i p && rsC S i q)) := rfl
  refine ⟨fun hc => ?_, fun hc => ?_⟩
  · rw [z_le (by omega) (by omega)] at hc
    have : i = np := by omega
    subst this
    unfold ofS at k
    refine ⟨fun h0 => ?_, fun h0 => ⟨fun h1 => ?_, fun h1 => ?_⟩⟩
    · rw [b2i_0] at h0; rw [h0] at k; exact k
    · rw [z_eq (by omega) (by omega)] at h1
      rw [show decide (p ≠ q) = false from by simp [h1], Bool.and_false] at k; exact k
    · rw [b2i_1] at h0
      rw [z_eq (by omega) (by omega)] at h1
      rw [h0, show decide (p ≠ q) = true from by simp [h1]] at k; exact k
  · rw [z_le (by omega) (by omega)] at hc
    have c1 := r_cell h hnp R (show i < np by omega) hp
    have c2 := r_cell h hnp R (show i < np by omega) hq
    simp only [x_87_20 h, en_97 h, c1.2, c2.2]
    refine ⟨fun h0 => nx 1 (by omega) ?_, fun h0 => ⟨c1.1, fun h1 => nx 0 (by omega) ?_, fun h1 => ⟨c2.1, fun h2 => nx 0 (by omega) ?_, fun h2 => nx 1 (by omega) ?_⟩⟩⟩
    · rw [b2i_1] at h0; rw [ea, h0]; rfl
    · rw [b2i_0] at h0 h1; rw [ea, h0, h1]; rfl
    · rw [b2i_0] at h0 h2; rw [ea, h0, h2, Bool.and_false]; rfl
    · rw [b2i_1] at h1 h2; rw [ea, h1, h2, Bool.and_self, Bool.or_true]; rfl
theorem r_brother (h : Env σ E) (eW : gA d (σ 88) = W) (e0 : W 0 = nI np) (hnp : np ≤ 12) (R : refR σ np nh d S) {p : Nat} (hp : p < np) (k : K (encO (brS W S np p)) d) : w_X11_brotherOf E (σ 87) (nI p) d K := by
  refine ⟨eo_87 h, np + 1, loopG (S := Int32 × Int32 × Dy) (l := fun N z => l_X11_brotherOf_4 E (σ 87) (nI p) K N z.1 z.2.1 z.2.2) (b := fun kk z => b_X11_brotherOf_4 E (σ 87) (nI p) K (fun a b c => kk (a, b, c)) z.1 z.2.1 z.2.2) (fun _ _ => rfl)
    (μ := fun z => np - z.2.1.toNatClampNeg) (P := fun z => d = z.2.2 ∧ ∃ i, i ≤ np ∧ nI i = z.2.1 ∧ encO (eldN W (fun c => rsL S c && ofS S np p c) i) = z.1) ?_ np (-1, 0, d) ⟨rfl, 0, by omega, rfl, rfl⟩ (Nat.sub_le _ _)⟩
  rintro kk ⟨a, v, d3⟩ ⟨rfl, i, hi, rfl, rfl⟩ hk
  refine r_persons h ?_
  rw [eW, e0]
  refine ⟨fun hc => ?_, fun hc => ?_⟩
  · rw [z_le (by omega) (by omega)] at hc
    have : i = np := by omega
    subst this; exact k
  · rw [z_le (by omega) (by omega)] at hc
    have nx : ∀ x, x = encO (eldN W (fun c => rsL S c && ofS S np p c) (i + 1)) → kk (x, nI i + 1, d) := fun x hx => by
      rw [z_a1]; exact hk (x, nI (i + 1), d) ⟨rfl, i + 1, by omega, rfl, hx.symm⟩ (by simp only [z_nn (show i + 1 < 2147483648 by omega), z_nn (show i < 2147483648 by omega)]; omega)
    have eu : eldN W (fun c => rsL S c && ofS S np p c) (i + 1) = if (rsL S i && ofS S np p i) = true then eldM W (eldN W (fun c => rsL S c && ofS S np p c) i) i else eldN W (fun c => rsL S c && ofS S np p c) i := rfl
    simp only [x_87_18 h, en_95 h, z_nn (show i < 2147483648 by omega), (R.1 i (by omega)).1]
    refine ⟨vpi (by omega) (by decide), fun h0 => nx _ ?_, fun h0 => r_areOfOne h eW e0 hnp R hp (by omega) ⟨fun h1 => nx _ ?_, fun h1 => r_elder h eW hnp (by omega) (fun b hb => by have := eld_lt hb; omega) (nx _ ?_)⟩⟩
    · rw [b2i_0] at h0; rw [eu, h0]; rfl
    · rw [b2i_0] at h1; rw [eu, h1, Bool.and_false]; rfl
    · rw [b2i_1] at h0 h1; rw [eu, h0, h1]; rfl
theorem r_isKin (h : Env σ E) (eW : gA d (σ 88) = W) (e0 : W 0 = nI np) (hnp : np ≤ 12) (R : refR σ np nh d S) (ok : rsOK np nh S) {p q : Nat} (hp : p < np) (hq : q < np) (k : K (b2i (kinS S np p q)) d) : w_X11_isKin E (σ 87) (nI p) (nI q) d K := by
  have hsp : ∀ r, spS S p = some r → r < np := fun r hr => by
    unfold spS at hr
    split at hr
    · cases hr
    · next q hq2 =>
      split at hr
      · cases hr; exact ok.1 p hp _ hq2
      · cases hr
  refine ⟨eo_87 h, r_spouse h hnp R ok hp ?_⟩
  rw [enc_eq hsp (by omega) hq]
  unfold kinS at k
  have c1 := r_cell h hnp R hq hp
  refine ⟨fun h0 => ?_, fun h0 => r_isChild h hnp R hp hq ⟨fun h1 => ?_, fun h1 => ?_⟩⟩
  · rw [show decide (spS S p = some q) = true from by simp [h0]] at k; simp only [Bool.true_or] at k; exact k
  · rw [b2i_1] at h1; rw [h1] at k; simp only [Bool.or_true, Bool.true_or] at k; exact k
  · rw [b2i_0] at h1
    rw [show decide (spS S p = some q) = false from by simp [h0], h1, Bool.false_or, Bool.false_or] at k
    simp only [x_87_20 h, en_97 h, c1.2]
    refine ⟨c1.1, fun h2 => ?_, fun h2 => r_areOfOne h eW e0 hnp R hp hq ⟨fun h3 => ?_, fun h3 => ?_⟩⟩
    · rw [b2i_1] at h2; rw [h2, Bool.true_or] at k; exact k
    · rw [b2i_0] at h2 h3; rw [h2, h3] at k; exact k
    · rw [b2i_1] at h3; rw [h3, Bool.or_true] at k; exact k
theorem r_rowPlace (h : Env σ E) (hnh : nh ≤ 10) (R : refR σ np nh d S) (ok : rsOK np nh S) {i : Nat} (hi : i < nh) (k : K (nI (rpS S nh i)) d) : w_X11_rowPlace E (σ 87) (nI i) d K := by
  obtain ⟨m, hm, em⟩ := ok.2.2.2 i hi
  refine ⟨eo_87 h, nh + 1, loopG (S := Int32 × Dy) (l := fun N z => l_X11_rowPlace_2 E (σ 87) (nI i) K N z.1 z.2) (b := fun kk z => b_X11_rowPlace_2 E (σ 87) (nI i) K (fun a b => kk (a, b)) z.1 z.2) (fun _ _ => rfl)
    (μ := fun z => nh - z.1.toNatClampNeg) (P := fun z => d = z.2 ∧ ∃ j, j ≤ m ∧ nI j = z.1 ∧ plN (rsO S) i (nh - j) j = rpS S nh i) ?_ nh (0, d) ⟨rfl, 0, by omega, rfl, rfl⟩ (Nat.sub_le _ _)⟩
  rintro kk ⟨v, d3⟩ ⟨rfl, j, hj, rfl, hr⟩ hk
  have hro := ok.2.2.1 j (by omega)
  simp only [b_X11_rowPlace_2, x_87_23 h, en_100 h, z_nn (show j < 2147483648 by omega), (R.2.2.1 j (by omega)).2.2]
  rw [z_eq (by omega) (by omega)]
  rw [show nh - j = (nh - (j + 1)) + 1 by omega] at hr
  simp only [plN] at hr
  refine ⟨vpi (by omega) (by decide), fun h0 => ?_, fun h0 => ?_⟩
  · rw [if_pos h0] at hr; rw [← hr] at k; exact k
  · rw [if_neg h0] at hr
    have : j ≠ m := fun e => h0 (e ▸ em)
    rw [z_a1]
    exact hk (nI (j + 1), d) ⟨rfl, j + 1, by omega, rfl, hr⟩ (by simp only [z_nn (show j + 1 < 2147483648 by omega), z_nn (show j < 2147483648 by omega)]; omega)
end
