/-! the crane -/
def encO : Option Nat → Int32
  | none => -1
  | some b => nI b
def pkC (sz : Nat → Int32) (b : Option Nat) (n : Nat) : Bool := match b with
  | none => true
  | some b => decide (sz b < sz n)
def pkS (ord : Bool) (can : Nat → Bool) (sz : Nat → Int32) (l : Nat) : Nat → Option Nat × Bool
  | 0 => (none, false)
  | n + 1 => if l.testBit n = true ∧ (pkS ord can sz l n).2 = false then (if can n = true ∧ pkC sz (pkS ord can sz l n).1 n = true then some n else (pkS ord can sz l n).1, ord) else pkS ord can sz l n
def crN (ord : Bool) (can : Nat → Bool) (sz : Nat → Int32) (nh : Nat) : Nat → Nat → Nat
  | 0, l => l
  | j + 1, l => match (pkS ord can sz (crN ord can sz nh j l) nh).1 with
    | none => crN ord can sz nh j l
    | some b => sbN (crN ord can sz nh j l) (2 ^ b)
theorem pkS_lt {ord : Bool} {can : Nat → Bool} {sz : Nat → Int32} {l : Nat} : ∀ n b, (pkS ord can sz l n).1 = some b → b < n
  | n + 1, b, h => by
    unfold pkS at h
    split at h
    · simp only at h
      split at h
      · cases h; omega
      · have := pkS_lt n b h; omega
    · have := pkS_lt n b h; omega
theorem pk_0 {ord : Bool} {can : Nat → Bool} {sz : Nat → Int32} : ∀ n, pkS ord can sz 0 n = (none, false)
  | 0 => rfl
  | n + 1 => by unfold pkS; rw [if_neg (by simp)]; exact pk_0 n
theorem pk_false {can : Nat → Bool} {sz : Nat → Int32} {l : Nat} : ∀ n, (pkS false can sz l n).2 = false
  | 0 => rfl
  | n + 1 => by
    unfold pkS
    split
    · rfl
    · exact pk_false n
theorem cr_stop {ord : Bool} {can : Nat → Bool} {sz : Nat → Int32} {nh l j : Nat} (h : (pkS ord can sz (crN ord can sz nh j l) nh).1 = none) : ∀ i, j ≤ i → crN ord can sz nh i l = crN ord can sz nh j l
  | 0, hi => by rw [show j = 0 by omega]
  | i + 1, hi => by
    by_cases e : j = i + 1
    · rw [e]
    · have ih := cr_stop h i (by omega)
      show (match (pkS ord can sz (crN ord can sz nh i l) nh).1 with
        | none => crN ord can sz nh i l
        | some b => sbN (crN ord can sz nh i l) (2 ^ b)) = _
      rw [ih, h]
theorem cr_lt {ord : Bool} {can : Nat → Bool} {sz : Nat → Int32} {nh l : Nat} (h : l < 2 ^ nh) : ∀ j, crN ord can sz nh j l < 2 ^ nh
  | 0 => h
  | j + 1 => by
    have ih := cr_lt (ord := ord) (can := can) (sz := sz) h j
    show (match (pkS ord can sz (crN ord can sz nh j l) nh).1 with
      | none => crN ord can sz nh j l
      | some b => sbN (crN ord can sz nh j l) (2 ^ b)) < _
    split
    · exact ih
    · exact sb_lt ih
/-- in order: the first of the set, if it can be lifted -/
theorem pk_ord {can : Nat → Bool} {sz : Nat → Int32} {l t : Nat} (ht : l.testBit t = true) (hl : ∀ i, i < t → l.testBit i = false) : ∀ n, t < n → pkS true can sz l n = (if can t = true then some t else none, true) := by
  have lo : ∀ n, n ≤ t → pkS true can sz l n = (none, false) := by
    intro n
    induction n with
    | zero => intro _; rfl
    | succ n ih => intro hn; unfold pkS; rw [if_neg (by rw [hl n (by omega)]; simp)]; exact ih (by omega)
  intro n
  induction n with
  | zero => intro h; omega
  | succ n ih =>
    intro hn
    by_cases e : n = t
    · subst e
      unfold pkS
      rw [lo n (by omega), if_pos ⟨ht, rfl⟩]
      by_cases hc : can n = true
      · rw [if_pos hc, if_pos ⟨hc, rfl⟩]
      · rw [if_neg hc, if_neg (fun q => hc q.1)]
    · have := ih (by omega)
      unfold pkS
      rw [this, if_neg (by simp)]
def daF (ord : Bool) (can : Nat → Nat → Bool) (sz : Nat → Int32) (nh many : Nat) : Nat → Nat → Nat → Int32
  | 0, _, _ => -1
  | n + 1, t, l => if crN ord (can t) sz nh many l = 0 then nI t else daF ord can sz nh many n (t + 1) (crN ord (can t) sz nh many l)
section
variable {σ : Nat → Nat} {E : En} {d d' d2 d3 : Dy} {kc : En → Dy → Prop} {v4 : Int32} {xs : Nat → Int32} {L : Nat}
theorem p_crane (I : Inv σ E d) (st dy mn q : Int32) (hq : q = 0 ∨ q = 1) (k : ∀ E' d', Inv σ E' d' → kc E' d') {K : Int32 → Dy → Prop} (hK : ∀ v d2, w_X11_crane E (σ 87) st dy mn q d2 (fun r d => cmpO σ E kc v r d) → K v d2) : w_L_crane E (σ 0) st dy mn q (σ 115) d K := by
  have h := I.1
  have tdh := td_4 I
  have tdw := td_12 I
  have wch := wc_1 I
  have tsz : ∀ r, r < cnt (gA d (σ 88)) 1 → gA d (σ 5) (r * 7 + 0) = gA d (σ 88) (50 + 7 * r + 0) := fun r hr => tv_4 I hr (c := 0) (by decide)
  have twd : ∀ r, r < 60 → gA d (σ 13) (r * 1 + 0) = gA d (σ 88) (536 + r) := fun r hr => by have := tv_12 I hr (c := 0) (by decide); rwa [Nat.one_mul, Nat.add_zero] at this
  have osz : ∀ r, r < cnt (gA d (σ 88)) 1 → ∃ m, 1 ≤ m ∧ m ≤ 9 ∧ gA d (σ 88) (50 + 7 * r + 0) = nI m := fun r hr => bw_n (a := 1) (b := 9) (ok_4 I hr).1 (by decide) (by decide)
  have owd : ∀ r, r < 60 → ∃ m, m ≤ 9 ∧ gA d (σ 88) (536 + r) = nI m := fun r hr => by
    have q1 : bw (gA d (σ 88) (536 + 1 * r + 0)) 0 9 := ok_12 I hr
    rw [Nat.one_mul, Nat.add_zero] at q1
    obtain ⟨m, _, h2, h3⟩ := bw_n (a := 0) (b := 9) q1 (by decide) (by decide)
    exact ⟨m, h2, h3⟩
  generalize hnh : cnt (gA d (σ 88)) 1 = nh at tdh wch tsz osz
  have hnhb := tdh.2.2.2
  obtain ⟨W, hW⟩ : ∃ W, W = gA d (σ 88) := ⟨_, rfl⟩
  rw [← hW] at wch tsz twd osz owd
  obtain ⟨sz, hsz⟩ : ∃ sz : Nat → Int32, sz = fun r => W (50 + 7 * r + 0) := ⟨_, rfl⟩
  obtain ⟨can, hcan⟩ : ∃ can : Nat → Nat → Bool, can = fun t r => decide (¬ 12 < W (536 + t) + W (50 + 7 * r + 0)) := ⟨_, rfl⟩
  have canC : ∀ t r, t < 60 → r < nh → (can t r = true ↔ ¬ 12 - W (536 + t) < W (50 + 7 * r + 0)) := fun t r ht hr => by
    obtain ⟨m, h1, h2, e1⟩ := osz r hr
    obtain ⟨w, h3, e2⟩ := owd t ht
    rw [hcan]; simp only [decide_eq_true_eq]
    rw [e1, e2, z_add, show (12 : Int32) = nI 12 from rfl, z_sub (by omega), z_lt (by decide) (by omega), z_lt (by omega) (by omega)]; omega
  by_cases b0 : lx dy 60
  · have b0' : bw dy 0 59 := (bw_lx (n := 60) (by decide)).mpr b0
    by_cases b1 : bw mn 1 9
    · obtain ⟨t0, ht0, rfl⟩ := id b0
      obtain ⟨many, hm1, hm2, rfl⟩ := bw_n (a := 1) (b := 9) b1 (by decide) (by decide)
      obtain ⟨l0, hl0⟩ : ∃ l0, l0 = st.toBitVec.toNat % 2 ^ nh := ⟨_, rfl⟩
      have hl0b : l0 < 2 ^ nh := by rw [hl0]; exact Nat.mod_lt _ (Nat.pow_pos (by omega))
      have p10 : 2 ^ nh ≤ 2 ^ 10 := Nat.pow_le_pow_right (by omega) (by omega)
      have em : st &&& (((1 : Int32) <<< (nI nh &&& 31)) - 1) = nI l0 := by rw [hl0]; exact b_mask st (by omega)
      obtain ⟨od, hod⟩ : ∃ od : Bool, od = decide (¬ q = 0) := ⟨_, rfl⟩
      obtain ⟨R, hR⟩ : ∃ R, R = daF od can sz nh many (60 - t0) t0 l0 := ⟨_, rfl⟩
      have n0 : ∀ l, l < 2 ^ nh → (nI l = 0 ↔ l = 0) := fun l hl => by rw [show (0 : Int32) = nI 0 from rfl, z_eq (by omega) (by decide)]
      have bit : ∀ l j, l < 2 ^ nh → j < nh → (((nI l >>> (nI j &&& 31)) &&& 1) = 0 ↔ ¬ l.testBit j = true) := fun l j hl hj => by
        rw [b_bit (by omega) (by omega)]
        by_cases hb : l.testBit j = true
        · rw [if_pos hb]; exact ⟨fun q => absurd q (by decide), fun q => absurd hb q⟩
        · rw [if_neg hb]; exact ⟨fun _ => hb, fun _ => rfl⟩
      /- the class -/
      have cls : ∀ {K1 : Int32 → Dy → Prop} {X}, K1 R d → w_X10_crane E (σ 0) st (nI t0) (nI many) q d K1 X := by
        intro K1 X k1
        simp only [w_X10_crane, x_0_0 h, w_X8_hutBits, x_1_2 h]
        refine ⟨eo_0 h, ni1 (n := 60) b0 (by decide) (nb1 b1 ⟨eo_1 h, T_size (te_4 h) tdh ?_⟩)⟩
        rw [em]
        obtain ⟨N, hN⟩ : ∃ N : Nat, N = 60 := ⟨60, rfl⟩
        refine ⟨N + 1, loopG (S := Int32 × Int32 × Dy) (l := fun N z => l_X10_crane_27 E (σ 0) st (nI t0) (nI many) q K1 X N z.1 z.2.1 z.2.2) (b := fun kk z => b_X10_crane_27 E (σ 0) st (nI t0) (nI many) q K1 X (fun a b c => kk (a, b, c)) z.1 z.2.1 z.2.2) (fun _ _ => rfl)
          (μ := fun z => 60 - z.2.1.toNatClampNeg) (P := fun z => d = z.2.2 ∧ ∃ t l, t ≤ 60 ∧ l < 2 ^ nh ∧ nI t = z.2.1 ∧ nI l = z.1 ∧ daF od can sz nh many (60 - t) t l = R) ?_ N (nI l0, nI t0, d) ⟨rfl, t0, l0, by omega, hl0b, rfl, rfl, hR.symm⟩ (by rw [hN]; exact Nat.sub_le _ _)⟩
        rintro kk ⟨a, v, d3⟩ ⟨rfl, t, l, ht, hl, rfl, rfl, hr⟩ hk
        simp only [b_X10_crane_27, x_0_0 h, x_1_6 h]
        refine ⟨fun hc => ?_, fun hc => ?_⟩
        · rw [show (60 : Int32) = nI 60 from rfl, z_le (by decide) (by omega)] at hc
          rw [show 60 - t = 0 by omega] at hr
          rw [← hr] at k1; exact k1
        · rw [show (60 : Int32) = nI 60 from rfl, z_le (by decide) (by omega)] at hc
          rw [show 60 - t = (60 - (t + 1)) + 1 by omega] at hr
          simp only [daF] at hr
          have fin : ∀ l', l' < 2 ^ nh → l' = crN od (can t) sz nh many l → b_X10_crane_118 E (σ 0) st (nI t0) (nI many) q K1 X (fun a b c => kk (a, b, c)) (nI l') (nI t) d := fun l' hl' e => by
            rw [← e] at hr
            refine ⟨fun h0 => ?_, fun h0 => ?_⟩
            · rw [n0 l' hl'] at h0
              rw [if_neg h0] at hr
              rw [z_a1]
              exact hk (nI l', nI (t + 1), d) ⟨rfl, t + 1, l', by omega, hl', rfl, rfl, hr⟩ (by simp only [z_nn (show t + 1 < 2147483648 by omega), z_nn (show t < 2147483648 by omega)]; omega)
            · rw [n0 l' hl'] at h0
              rw [if_pos h0] at hr
              rw [← hr] at k1; exact k1
          refine T_get (c := 0) (te_12 h) tdw (by omega) (by decide) ?_
          rw [twd t (by omega)]
          refine ⟨many + 1, loopG (S := Int32 × Int32 × Int32 × Int32 × Dy) (l := fun N z => l_X10_crane_55 E (σ 0) st (nI t0) (nI many) q K1 X _ N z.1 z.2.1 z.2.2.1 z.2.2.2.1 z.2.2.2.2) (b := fun k2 z => b_X10_crane_55 E (σ 0) st (nI t0) (nI many) q K1 X _ (fun a b c e f => k2 (a, b, c, e, f)) z.1 z.2.1 z.2.2.1 z.2.2.2.1 z.2.2.2.2) (fun _ _ => rfl)
            (μ := fun z => many - z.2.2.2.1.toNatClampNeg) (P := fun z => d = z.2.2.2.2 ∧ nI t = z.2.1 ∧ 12 - W (536 + t) = z.2.2.1 ∧ ∃ i, i ≤ many ∧ nI i = z.2.2.2.1 ∧ nI (crN od (can t) sz nh i l) = z.1) ?_ many (nI l, nI t, 12 - W (536 + t), 0, d) ⟨rfl, rfl, rfl, 0, by omega, rfl, rfl⟩ (Nat.sub_le _ _)⟩
          rintro k2 ⟨a1, a2, a3, v, d4⟩ ⟨rfl, rfl, rfl, i, hi, rfl, rfl⟩ hk2
          have hli := cr_lt (ord := od) (can := can t) (sz := sz) hl i
          have hcs : crN od (can t) sz nh (i + 1) l = (match (pkS od (can t) sz (crN od (can t) sz nh i l) nh).1 with
            | none => crN od (can t) sz nh i l
            | some b => sbN (crN od (can t) sz nh i l) (2 ^ b)) := rfl
          have hst := cr_stop (ord := od) (can := can t) (sz := sz) (nh := nh) (l := l) (j := i)
          obtain ⟨li, hle⟩ : ∃ li, li = crN od (can t) sz nh i l := ⟨_, rfl⟩
          rw [← hle] at hli hcs hst ⊢
          have s90 : ∀ s0, s0 = encO (pkS od (can t) sz li nh).1 → i < many → b_X10_crane_90 E (σ 0) st (nI t0) (nI many) q K1 X (fun a b c => kk (a, b, c)) (fun a b c e f => k2 (a, b, c, e, f)) (nI li) (nI t) (12 - W (536 + t)) (nI i) s0 d := fun s0 hs0 him => by
            have hb := pkS_lt (ord := od) (can := can t) (sz := sz) (l := li) nh
            cases hp : (pkS od (can t) sz li nh).1 with
            | none =>
              rw [hp] at hs0
              exact ⟨fun q => absurd hs0 q, fun _ => fin li hli (hst hp many (by omega)).symm⟩
            | some b =>
              rw [hp] at hs0 hcs
              have hbn := hb b hp
              have hs0 : s0 = nI b := hs0
              refine ⟨fun _ => ?_, fun q => absurd (hs0.symm.trans q) (z_ne1 (by omega))⟩
              have p2 : 2 ^ b ≤ 2 ^ 10 := Nat.pow_le_pow_right (by omega) (by omega)
              rw [hs0, b_shl (by omega), b_not (by omega) (by omega), z_a1]
              exact hk2 (_, nI t, 12 - W (536 + t), nI (i + 1), d) ⟨rfl, rfl, rfl, i + 1, by omega, rfl, by rw [hcs]⟩ (by simp only [z_nn (show i + 1 < 2147483648 by omega), z_nn (show i < 2147483648 by omega)]; omega)
          refine ⟨fun hc2 => ?_, fun hc2 => ⟨fun h0 => ?_, fun h0 => ⟨fun hq0 => ?_, fun hq0 => ?_⟩⟩⟩
          · rw [z_le (by omega) (by omega)] at hc2
            have : i = many := by omega
            rw [this] at hle
            exact fin li hli hle
          · rw [n0 li hli] at h0
            rw [z_le (by omega) (by omega)] at hc2
            exact fin li hli (hst (by rw [h0, pk_0]) many (by omega)).symm
          · rw [z_le (by omega) (by omega)] at hc2
            have hof : od = false := by rw [hod]; simp [hq0]
            refine ⟨eo_0 h, nh + 1, loopG (S := Int32 × Int32 × Dy) (l := fun N z => l_X10_largestWithin_5 E (σ 0) (nI li) (12 - W (536 + t)) _ N z.1 z.2.1 z.2.2) (b := fun k3 z => b_X10_largestWithin_5 E (σ 0) (nI li) (12 - W (536 + t)) _ (fun a b c => k3 (a, b, c)) z.1 z.2.1 z.2.2) (fun _ _ => rfl)
              (μ := fun z => nh - z.2.1.toNatClampNeg) (P := fun z => d = z.2.2 ∧ ∃ j, j ≤ nh ∧ nI j = z.2.1 ∧ encO (pkS false (can t) sz li j).1 = z.1) ?_ nh (-1, 0, d) ⟨rfl, 0, by omega, rfl, rfl⟩ (Nat.sub_le _ _)⟩
            rintro k3 ⟨a1, v, d5⟩ ⟨rfl, j, hj, rfl, rfl⟩ hk3
            simp only [b_X10_largestWithin_5, x_0_0 h, x_1_2 h]
            refine T_size (te_4 h) tdh ⟨fun hc3 => ?_, fun hc3 => ?_⟩
            · rw [z_le (by omega) (by omega)] at hc3
              have : j = nh := by omega
              subst this
              exact s90 _ (by rw [hof]) (by omega)
            · rw [z_le (by omega) (by omega)] at hc3
              refine T_get (c := 0) (te_4 h) tdh (by omega) (by decide) ?_
              rw [tsz j (by omega), bit li j hli (by omega)]
              have nx : ∀ x, x = encO (pkS false (can t) sz li (j + 1)).1 → k3 (x, nI j + 1, d) := fun x hx => by
                rw [z_a1]; exact hk3 (x, nI (j + 1), d) ⟨rfl, j + 1, by omega, rfl, hx.symm⟩ (by simp only [z_nn (show j + 1 < 2147483648 by omega), z_nn (show j < 2147483648 by omega)]; omega)
              have hsj : sz j = W (50 + 7 * j + 0) := by rw [hsz]
              have pe : pkS false (can t) sz li (j + 1) = if li.testBit j = true ∧ (pkS false (can t) sz li j).2 = false then (if can t j = true ∧ pkC sz (pkS false (can t) sz li j).1 j = true then some j else (pkS false (can t) sz li j).1, false) else pkS false (can t) sz li j := rfl
              rw [pk_false j] at pe
              have hbl := pkS_lt (ord := false) (can := can t) (sz := sz) (l := li) j
              refine ⟨fun hb => ⟨fun _ => nx _ ?_, fun q => absurd rfl q⟩, fun hb => ⟨fun hp => ⟨fun _ => nx _ ?_, fun q => absurd rfl q⟩, fun hp => ⟨fun q => absurd q (by decide), fun _ => ⟨fun hv => nx _ ?_, fun hv => ?_⟩⟩⟩⟩
              · rw [pe, if_neg (fun q => hb q.1)]
              · rw [pe]
                split
                · rw [if_neg (fun q => (canC t j (by omega) (by omega)).mp q.1 hp)]
                · rfl
              · have hbt := Decidable.not_not.mp hb
                rw [pe, if_pos ⟨hbt, rfl⟩]
                cases hp1 : (pkS false (can t) sz li j).1 with
                | none => rw [if_pos ⟨(canC t j (by omega) (by omega)).mpr hp, rfl⟩]; rfl
                | some b =>
                  rw [hp1] at hv
                  have := hbl b hp1
                  exact absurd hv (z_ne1 (by omega))
              · have hbt := Decidable.not_not.mp hb
                rw [if_pos ⟨hbt, rfl⟩] at pe
                cases hp1 : (pkS false (can t) sz li j).1 with
                | none => rw [hp1] at hv; exact absurd rfl hv
                | some b =>
                  have hbj := hbl b hp1
                  simp only [x_0_0 h, x_1_2 h]
                  refine T_get (r := b) (c := 0) (te_4 h) tdh (by omega) (by decide) ?_
                  rw [tsz b (by omega)]
                  rw [hp1] at pe
                  have hsb : sz b = W (50 + 7 * b + 0) := by rw [hsz]
                  have hct : can t j = true := (canC t j (by omega) (by omega)).mpr hp
                  refine ⟨fun hs => nx _ ?_, fun hs => nx _ ?_⟩
                  · rw [pe, if_neg (fun q => by
                      have q2 := q.2
                      simp only [pkC, decide_eq_true_eq] at q2
                      rw [hsb, hsj] at q2
                      exact absurd hs (Int32.not_le.mpr q2))]
                  · rw [pe, if_pos ⟨hct, by simp only [pkC, decide_eq_true_eq]; rw [hsb, hsj]; exact Int32.not_le.mp hs⟩]; rfl
          · rw [z_le (by omega) (by omega)] at hc2
            have hof : od = true := by rw [hod]; simp [hq0]
            have hl0' : ¬ li = 0 := fun q => h0 ((n0 li hli).mpr q)
            have h4 : li < 4096 := by omega
            obtain ⟨hw1, hw2⟩ := (low_spec li h4).resolve_left hl0'
            have hnt := (nt_all li h4).resolve_left hl0'
            have hlo := low_min 12 li
            generalize lowN li 12 = w at hw1 hw2 hnt hlo
            have hwn : w < nh := by
              by_cases hc : w < nh
              · exact hc
              · rw [Nat.testBit_lt_two_pow (Nat.lt_of_lt_of_le hli (Nat.pow_le_pow_right (by omega) (by omega)))] at hw2; cases hw2
            have hpk := pk_ord (can := can t) (sz := sz) hw2 (fun i hi => hlo i hi) nh hwn
            simp only [w_X10_firstWithin, x_0_0 h, x_1_2 h]
            refine ⟨eo_0 h, k_ntz ?_⟩
            rw [hnt]
            refine T_get (c := 0) (te_4 h) tdh hwn (by decide) ?_
            rw [tsz w hwn]
            refine ⟨fun hs => s90 _ ?_ (by omega), fun hs => s90 _ ?_ (by omega)⟩
            · rw [hof, hpk, if_neg (fun q => (canC t w (by omega) hwn).mp q hs)]; rfl
            · rw [hof, hpk, if_pos ((canC t w (by omega) hwn).mpr hs)]; rfl
      /- the reference -/
      have rcr : ∀ t l, t < 60 → l < 2 ^ nh → ∀ {d2 : Dy} {K2 : Int32 → Dy → Prop}, gA d2 (σ 88) = W → K2 (nI (crN od (can t) sz nh many l)) d2 → w_X11_craned E (σ 87) (nI l) (nI t) (nI many) q d2 K2 := by
        intro t l ht hl d2 K2 e2 k2
        refine ⟨eo_87 h, many + 1, loopG (S := Int32 × Int32 × Dy) (l := fun N z => l_X11_craned_6 E (σ 87) (nI l) (nI t) (nI many) q K2 N z.1 z.2.1 z.2.2) (b := fun k3 z => b_X11_craned_6 E (σ 87) (nI l) (nI t) (nI many) q K2 (fun a b c => k3 (a, b, c)) z.1 z.2.1 z.2.2) (fun _ _ => rfl)
          (μ := fun z => many - z.2.1.toNatClampNeg) (P := fun z => d2 = z.2.2 ∧ ∃ i, i ≤ many ∧ nI i = z.2.1 ∧ nI (crN od (can t) sz nh i l) = z.1) ?_ many (nI l, 0, d2) ⟨rfl, 0, by omega, rfl, rfl⟩ (Nat.sub_le _ _)⟩
        rintro k3 ⟨a1, v, d5⟩ ⟨rfl, i, hi, rfl, rfl⟩ hk3
        have hli := cr_lt (ord := od) (can := can t) (sz := sz) hl i
        have hcs : crN od (can t) sz nh (i + 1) l = (match (pkS od (can t) sz (crN od (can t) sz nh i l) nh).1 with
          | none => crN od (can t) sz nh i l
          | some b => sbN (crN od (can t) sz nh i l) (2 ^ b)) := rfl
        refine ⟨fun hc => ?_, fun hc => ?_⟩
        · rw [z_le (by omega) (by omega)] at hc
          have : i = many := by omega
          subst this; exact k2
        · rw [z_le (by omega) (by omega)] at hc
          generalize crN od (can t) sz nh i l = li at hli hcs ⊢
          refine ⟨nh + 1, loopG (S := Int32 × Int32 × Int32 × Int32 × Int32 × Dy) (l := fun N z => l_X11_craned_21 E (σ 87) (nI l) (nI t) (nI many) q K2 _ N z.1 z.2.1 z.2.2.1 z.2.2.2.1 z.2.2.2.2.1 z.2.2.2.2.2) (b := fun k4 z => b_X11_craned_21 E (σ 87) (nI l) (nI t) (nI many) q K2 _ (fun a b c e f g => k4 (a, b, c, e, f, g)) z.1 z.2.1 z.2.2.1 z.2.2.2.1 z.2.2.2.2.1 z.2.2.2.2.2) (fun _ _ => rfl)
            (μ := fun z => nh - z.2.2.2.2.1.toNatClampNeg) (P := fun z => d2 = z.2.2.2.2.2 ∧ nI li = z.1 ∧ nI i = z.2.1 ∧ ∃ j, j ≤ nh ∧ nI j = z.2.2.2.2.1 ∧ encO (pkS od (can t) sz li j).1 = z.2.2.1 ∧ (z.2.2.2.1 = 0 ↔ (pkS od (can t) sz li j).2 = false)) ?_ nh (nI li, nI i, -1, 0, 0, d2) ⟨rfl, rfl, rfl, 0, by omega, rfl, rfl, ⟨fun _ => rfl, fun _ => rfl⟩⟩ (Nat.sub_le _ _)⟩
          rintro k4 ⟨a1, a2, a3, vs, v, d5⟩ ⟨rfl, rfl, rfl, j, hj, rfl, rfl, hvs⟩ hk4
          have hvs : vs = 0 ↔ (pkS od (can t) sz li j).2 = false := hvs
          have hbl := pkS_lt (ord := od) (can := can t) (sz := sz) (l := li) j
          refine r_huts h ?_
          rw [e2, wch.1]
          refine ⟨fun hc3 => ?_, fun hc3 => ?_⟩
          · rw [z_le (by omega) (by omega)] at hc3
            have : j = nh := by omega
            subst this
            have nx : ∀ x, x = nI (crN od (can t) sz j (i + 1) l) → k3 (x, nI i + 1, d2) := fun x hx => by
              rw [z_a1]; exact hk3 (x, nI (i + 1), d2) ⟨rfl, i + 1, by omega, rfl, hx.symm⟩ (by simp only [z_nn (show i + 1 < 2147483648 by omega), z_nn (show i < 2147483648 by omega)]; omega)
            cases hp : (pkS od (can t) sz li j).1 with
            | none =>
              rw [hp] at hcs
              exact ⟨fun q => absurd q (by show ¬ (0 : Int32) ≤ -1; decide), fun _ => nx _ (by rw [hcs])⟩
            | some b =>
              have hbn := hbl b hp
              have p2 : 2 ^ b ≤ 2 ^ 10 := Nat.pow_le_pow_right (by omega) (by omega)
              rw [hp] at hcs
              refine ⟨fun _ => nx _ ?_, fun q => absurd ((zero_le' _).mpr (z_pos (by omega))) q⟩
              show nI li &&& (((1 : Int32) <<< (nI b &&& 31)) ^^^ (-1)) = _
              rw [b_shl (by omega), b_not (by omega) (by omega), hcs]
          · rw [z_le (by omega) (by omega)] at hc3
            rw [bit li j hli (by omega)]
            have e5 : (536 : Int32) + nI t = nI (536 + t) := z_add 536 t
            simp only [x_87_1 h, en_88 h, e5, z_nn (show 536 + t < 2147483648 by omega), e2]
            have pe : pkS od (can t) sz li (j + 1) = if li.testBit j = true ∧ (pkS od (can t) sz li j).2 = false then (if can t j = true ∧ pkC sz (pkS od (can t) sz li j).1 j = true then some j else (pkS od (can t) sz li j).1, od) else pkS od (can t) sz li j := rfl
            have nx : ∀ x y, x = encO (pkS od (can t) sz li (j + 1)).1 → (y = 0 ↔ (pkS od (can t) sz li (j + 1)).2 = false) → k4 (nI li, nI i, x, y, nI j + 1, d2) := fun x y hx hy => by
              rw [z_a1]; exact hk4 (nI li, nI i, x, y, nI (j + 1), d2) ⟨rfl, rfl, rfl, j + 1, by omega, rfl, hx.symm, hy⟩ (by simp only [z_nn (show j + 1 < 2147483648 by omega), z_nn (show j < 2147483648 by omega)]; omega)
            have hqd : q = 0 ↔ od = false := by rw [hod]; simp
            refine ⟨fun hb => ?_, fun hb => ⟨fun h0 => ⟨vpw (by omega), r_ofHut h (c := 0) (by omega) (by decide) ?_⟩, fun h0 => ?_⟩⟩
            · rw [if_neg (fun q => hb q.1)] at pe
              exact nx _ _ (by rw [pe]) (by rw [pe]; exact hvs)
            · have hbt := Decidable.not_not.mp hb
              rw [if_pos ⟨hbt, hvs.mp h0⟩] at pe
              have hcd : ∀ P Q : Prop, (can t j = true → Q) → (¬ can t j = true → P) → ((12 < W (536 + t) + W (50 + 7 * j + 0) → P) ∧ (¬ 12 < W (536 + t) + W (50 + 7 * j + 0) → Q)) := fun P Q hQ hP => ⟨fun q => hP (fun q2 => by rw [hcan] at q2; simp only [decide_eq_true_eq] at q2; exact q2 q), fun q => hQ (by rw [hcan]; simp only [decide_eq_true_eq]; exact q)⟩
              rw [e2]
              refine hcd _ _ (fun hct => ⟨fun q => absurd q (by decide), fun _ => ?_⟩) (fun hct => ⟨fun _ => nx _ _ ?_ ?_, fun q => absurd rfl q⟩)
              · cases hp1 : (pkS od (can t) sz li j).1 with
                | none =>
                  rw [hp1, if_pos ⟨hct, rfl⟩] at pe
                  refine ⟨fun _ => nx _ _ (by rw [pe]; rfl) (by rw [pe]; exact hqd), fun q => absurd (show (-1 : Int32) < 0 by decide) q⟩
                | some b =>
                  have hbj := hbl b hp1
                  rw [hp1] at pe
                  refine ⟨fun q => absurd q (z_pos (by omega)), fun _ => r_ofHut h (c := 0) (by omega) (by decide) (r_ofHut (r := b) h (c := 0) (by omega) (by decide) ?_)⟩
                  rw [e2]
                  have hsb : sz b = W (50 + 7 * b + 0) := by rw [hsz]
                  have hsj : sz j = W (50 + 7 * j + 0) := by rw [hsz]
                  refine ⟨fun hs => ?_, fun hs => ?_⟩
                  · rw [if_neg (fun q => by
                      have q2 := q.2
                      simp only [pkC, decide_eq_true_eq] at q2
                      rw [hsb, hsj] at q2
                      exact absurd hs (Int32.not_le.mpr q2))] at pe
                    exact nx _ _ (by rw [pe]) (by rw [pe]; exact hqd)
                  · rw [if_pos ⟨hct, by simp only [pkC, decide_eq_true_eq]; rw [hsb, hsj]; exact Int32.not_le.mp hs⟩] at pe
                    exact nx _ _ (by rw [pe]; rfl) (by rw [pe]; exact hqd)
              · rw [pe, if_neg (fun q => hct q.1)]
              · rw [pe]; exact hqd
            · rw [if_neg (fun q => h0 (hvs.mpr q.2))] at pe
              exact nx _ _ (by rw [pe]) (by rw [pe]; exact hvs)
      refine ⟨eo_0 h, eo_115 h, cls ⟨v0_115 h, hK _ _ ⟨eo_87 h, rd1 b0' (rt0 h ⟨fun q => absurd rfl q, fun _ => ri1 b1 ⟨fun _ => ⟨eo_87 h, rt0 h ⟨fun _ => r_huts h ?_, fun q => absurd rfl q⟩⟩, fun q => absurd q (by decide)⟩⟩)⟩⟩⟩
      have en := ref_end (rb := R) (P := []) I k Ch_rf (by simp) (by simp) Ch_rf
      have gD : gA (pI (pJ d (σ 115) 0 R.toInt64) (σ 87) 0 0) (σ 88) = W := hW.symm
      show (¬ (st &&& (((1 : Int32) <<< (gA (pI (pJ d (σ 115) 0 R.toInt64) (σ 87) 0 0) (σ 88) 1 &&& 31)) - 1)) = 0 → ∃ N, l_X11_crane_64 E (σ 87) st (nI t0) (nI many) q (fun r d => cmpO σ E kc 0 r d) N (st &&& (((1 : Int32) <<< (gA (pI (pJ d (σ 115) 0 R.toInt64) (σ 87) 0 0) (σ 88) 1 &&& 31)) - 1)) (nI t0) (pI (pJ d (σ 115) 0 R.toInt64) (σ 87) 0 0)) ∧ ((st &&& (((1 : Int32) <<< (gA (pI (pJ d (σ 115) 0 R.toInt64) (σ 87) 0 0) (σ 88) 1 &&& 31)) - 1)) = 0 → cmpO σ E kc 0 (nI t0) (pI (pJ d (σ 115) 0 R.toInt64) (σ 87) 0 0))
      generalize pI (pJ d (σ 115) 0 R.toInt64) (σ 87) 0 0 = D at en gD ⊢
      rw [gD, wch.1, em]
      refine ⟨fun _ => ?_, fun h0 => ?_⟩
      · obtain ⟨N, hN⟩ : ∃ N : Nat, N = 60 := ⟨60, rfl⟩
        refine ⟨N + 1, loopG (S := Int32 × Int32 × Dy) (l := fun N z => l_X11_crane_64 E (σ 87) st (nI t0) (nI many) q _ N z.1 z.2.1 z.2.2) (b := fun kk z => b_X11_crane_64 E (σ 87) st (nI t0) (nI many) q _ (fun a b c => kk (a, b, c)) z.1 z.2.1 z.2.2) (fun _ _ => rfl)
          (μ := fun z => 60 - z.2.1.toNatClampNeg) (P := fun z => D = z.2.2 ∧ ∃ t l, t ≤ 60 ∧ l < 2 ^ nh ∧ nI t = z.2.1 ∧ nI l = z.1 ∧ daF od can sz nh many (60 - t) t l = R) ?_ N (nI l0, nI t0, D) ⟨rfl, t0, l0, by omega, hl0b, rfl, rfl, hR.symm⟩ (by rw [hN]; exact Nat.sub_le _ _)⟩
        rintro kk ⟨a, v, d3⟩ ⟨rfl, t, l, ht, hl, rfl, rfl, hr⟩ hk
        refine ⟨fun hc => ?_, fun hc => ?_⟩
        · rw [show (60 : Int32) = nI 60 from rfl, z_le (by decide) (by omega)] at hc
          rw [show 60 - t = 0 by omega] at hr
          rw [← hr] at en; exact en
        · rw [show (60 : Int32) = nI 60 from rfl, z_le (by decide) (by omega)] at hc
          rw [show 60 - t = (60 - (t + 1)) + 1 by omega] at hr
          simp only [daF] at hr
          refine rcr t l (by omega) hl gD ?_
          have hl2 := cr_lt (ord := od) (can := can t) (sz := sz) hl many
          refine ⟨fun h0 => ?_, fun h0 => ?_⟩
          · rw [n0 _ hl2] at h0
            rw [if_neg h0] at hr
            rw [z_a1]
            exact hk (_, nI (t + 1), D) ⟨rfl, t + 1, _, by omega, hl2, rfl, rfl, hr⟩ (by simp only [z_nn (show t + 1 < 2147483648 by omega), z_nn (show t < 2147483648 by omega)]; omega)
          · rw [n0 _ hl2] at h0
            rw [if_pos h0] at hr
            rw [← hr] at en; exact en
      · rw [n0 l0 hl0b] at h0
        rw [show 60 - t0 = (60 - (t0 + 1)) + 1 by omega] at hR
        simp only [daF] at hR
        rw [h0, cr_stop (j := 0) (by show (pkS od (can t0) sz 0 nh).1 = none; rw [pk_0]) many (by omega)] at hR
        have hR : R = if (0 : Nat) = 0 then nI t0 else _ := hR
        rw [if_pos rfl] at hR
        rw [← hR]; exact en
    · exact ⟨eo_0 h, eo_115 h, eo_0 h, ni1 (n := 60) b0 (by decide) (nb0 b1 (Or.inr ⟨rfl, hK _ _ ⟨eo_87 h, rd1 b0' (rt0 h ⟨fun q => absurd rfl q, fun _ => ri0 b1 ⟨fun q => absurd rfl q, fun _ => ⟨eo_87 h, rt1 h ⟨fun q => absurd q (by decide), fun _ => fail_O I (by decide) k⟩⟩⟩⟩)⟩⟩))⟩
  · have b0' : ¬ bw dy 0 59 := fun q => b0 ((bw_lx (n := 60) (by decide)).mp q)
    exact ⟨eo_0 h, eo_115 h, eo_0 h, ni0 (n := 60) b0 (by decide) (Or.inl ⟨rfl, hK _ _ ⟨eo_87 h, rd0 b0' (rt1 h ⟨fun _ => fail_O I (by decide) k, fun q => absurd q (by decide)⟩)⟩⟩)⟩
theorem c_crane (I : Inv σ E d) (hv : v5 v4 L) (k : ∀ E' d', Inv σ E' d' → kc E' d') : lw_1911 E (σ 0) (σ 87) (σ 115) v4 xs L kc d := by
  have h := I.1
  obtain ⟨h1, h2, h3, h4, -⟩ := hv
  refine ⟨eo_0 h, eo_87 h, eo_115 h, h1, h2, h3, h4, fun q => ⟨eo_0 h, ?_⟩, fun q => ⟨eo_0 h, ?_⟩⟩
  · exact p_crane I _ _ _ _ (Or.inl rfl) k (fun v d2 hk => ⟨h1, h2, h3, h4, fun _ => ⟨eo_87 h, hk⟩, fun n => absurd q n⟩)
  · exact p_crane I _ _ _ _ (Or.inr rfl) k (fun v d2 hk => ⟨h1, h2, h3, h4, fun n => absurd n q, fun _ => ⟨eo_87 h, hk⟩⟩)
end
