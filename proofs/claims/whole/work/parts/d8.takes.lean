/-! what comes in -/
def payB (W : Nat → Int32) (x : Int32) (q : Nat → Nat) (tk : Nat → Bool) (j : Nat) : Bool := !decide (W (15 + 3 * cnt W (360 + 3 * q j)) < x) && !tk j
def incT (W : Nat → Int32) (S : RS) (nh : Nat) (y t : Int32) (n : Nat) (q : Nat → Nat) : Nat → Int32 × (Nat → Bool)
  | 0 => (0, fun _ => false)
  | i + 1 => if stayB W S nh i y t = true then ((incT W S nh y t n q i).1 + rentS W S nh i y * t, (incT W S nh y t n q i).2) else match fstN (payB W (rentS W S nh i y * t) q (incT W S nh y t n q i).2) n with
    | none => incT W S nh y t n q i
    | some j => ((incT W S nh y t n q i).1 + rentS W S nh i y * t, upB (incT W S nh y t n q i).2 j true)
theorem fst_mono {f : Nat → Bool} {b i : Nat} (e : fstN f i = some b) : ∀ n, i ≤ n → fstN f n = some b
  | 0, hn => by rw [show i = 0 by omega] at e; exact e
  | n + 1, hn => by
    by_cases q : i = n + 1
    · rw [← q]; exact e
    · unfold fstN; rw [fst_mono e n (by omega)]
theorem fst_t {f : Nat → Bool} {i n : Nat} (e : fstN f i = none) (hi : i < n) (q : f i = true) : fstN f n = some i := by
  refine fst_mono (i := i + 1) ?_ n hi
  unfold fstN; rw [e]; simp [q]
theorem fst_f {f : Nat → Bool} {i : Nat} (e : fstN f i = none) (q : f i = false) : fstN f (i + 1) = none := by
  unfold fstN; rw [e]; simp [q]
section
variable {σ : Nat → Nat} {E : En} {d d' d2 d3 : Dy} {W : Nat → Int32} {np nh L n : Nat} {S : RS} {K : Int32 → Dy → Prop} {K0 : Dy → Prop} {X : String → Dy → Prop} {cl : Nat → Int32} {q : Nat → Nat} {tk : Nat → Bool} {kc : En → Dy → Prop} {v4 : Int32} {xs : Nat → Int32} {p1 p2 : Int32}
theorem k_takes (c : cW σ E d W np nh) (qz : qC σ W cl d n q tk) (hn : n ≤ 10) (hq : ∀ j, j < n → q j < cnt W 4) {x : Int32} (k0 : fstN (payB W x q tk) n = none → K 0 d) (k1 : ∀ j, fstN (payB W x q tk) n = some j → ∀ d', Ch σ [71, 72] d d' → qC σ W cl d' n q (upB tk j true) → K 1 d') : w_X1_takes E (σ 70) x d K := by
  have h := c.1.1
  have td := ts_71 c.1.2.1 qz.1 hn
  have hW := (cW_gW c).2.1
  have h12 := c.2.2.2.2.1
  refine ⟨eo_70 h, n + 1, loopG (S := Int32 × Dy) (l := fun N z => l_X1_takes_2 E (σ 70) x K N z.1 z.2) (b := fun kk z => b_X1_takes_2 E (σ 70) x K (fun a b => kk (a, b)) z.1 z.2) (fun _ _ => rfl)
    (μ := fun z => n - z.1.toNatClampNeg) (P := fun z => d = z.2 ∧ ∃ j, j ≤ n ∧ nI j = z.1 ∧ fstN (payB W x q tk) j = none) ?_ n (0, d) ⟨rfl, 0, by omega, rfl, rfl⟩ (Nat.sub_le _ _)⟩
  rintro kk ⟨v, dz⟩ ⟨rfl, j, hj, rfl, ej⟩ hk
  simp only [b_X1_takes_2, b_X1_takes_42, x_70_0 h, x_70_2 h, x_1_1 h]
  refine T_size (te_71 h) td ?_
  rw [z_le (by omega) (by omega), z_a1]
  refine ⟨fun hc => ?_, fun hc => T_get (c := 2) (te_71 h) td (by omega) (by decide) ?_⟩
  · have : j = n := by omega
    subst this; exact k0 ej
  · have hjn : j < n := by omega
    obtain ⟨-, -, q2, q3⟩ := qz.2 j hjn
    obtain ⟨p, hp, ep⟩ := wt_p hW (hq j hjn)
    have hpn : p < np := by rw [c.2.2.1]; exact hp
    have ec : cnt W (360 + 3 * q j) = p := by unfold cnt; rw [ep, z_nn (by omega)]
    rw [q2, ep]
    have nx : payB W x q tk j = false → kk (nI (j + 1), d) := fun e => hk (nI (j + 1), d) ⟨rfl, j + 1, by omega, rfl, fst_f ej e⟩ (by simp only [z_nn (show j + 1 < 2147483648 by omega), z_nn (show j < 2147483648 by omega)]; omega)
    refine k_pers (j := 1) c hpn (by decide) ?_
    rw [show 14 + 3 * p + 1 = 15 + 3 * p by omega]
    refine ⟨fun l1 => ⟨fun _ => nx ?_, fun z => absurd trivial z⟩, fun l1 => ⟨fun z => absurd z (by decide), fun _ => T_get (c := 3) (te_71 h) td (by omega) (by decide) ?_⟩⟩
    · unfold payB; rw [ec]; simp [l1]
    · rw [q3]
      refine ⟨fun l2 => nx ?_, fun l2 => T_set (c := 3) (te_71 h) td (by omega) (by decide) ?_⟩
      · rw [b2i_1] at l2; unfold payB; simp [l2]
      · rw [b2i_0] at l2
        refine k1 j (fst_t ej hjn ?_) _ (Ch_pA h (by decide) (by decide)) ⟨qz.1, fun i hi => ?_⟩
        · unfold payB; rw [ec]; simp [l1, l2]
        · rw [gA_pA_x, if_pos rfl]
          rw [if_neg (by omega), if_neg (by omega), if_neg (by omega)]
          obtain ⟨i0, i1, i2, i3⟩ := qz.2 i hi
          refine ⟨i0, i1, i2, ?_⟩
          unfold upB
          by_cases e : i = j
          · rw [if_pos (by omega), if_pos e]; rfl
          · rw [if_neg (by omega), if_neg e]; exact i3
theorem k_income45 (c : cW σ E d W np nh) (C : clsR σ 50 np nh d S) (ok : rsOK np nh S) {y t : Int32} (hy : gI d (σ 50) 2 = y) (qz : qC σ W cl d n q (fun _ => false)) (hn : n ≤ 10) (hq : ∀ j, j < n → q j < cnt W 4) (k : ∀ d', Ch σ [57, 58, 59, 71, 72] d d' → K (incT W S nh y t n q nh).1 d') : ∃ N, l_X10_income_45 E (σ 0) p1 t K X N 0 0 d := by
  have h := c.1.1
  have h12 := c.2.2.2.2.1
  have h10 := c.2.2.2.2.2
  refine ⟨nh + 1, loopG (S := Int32 × Int32 × Dy) (l := fun N z => l_X10_income_45 E (σ 0) p1 t K X N z.1 z.2.1 z.2.2) (b := fun kk z => b_X10_income_45 E (σ 0) p1 t K X (fun a b c => kk (a, b, c)) z.1 z.2.1 z.2.2) (fun _ _ => rfl)
    (μ := fun z => nh - z.2.1.toNatClampNeg) (P := fun z => Ch σ [57, 58, 59, 71, 72] d z.2.2 ∧ ∃ j, j ≤ nh ∧ nI j = z.2.1 ∧ (incT W S nh y t n q j).1 = z.1 ∧ qC σ W cl z.2.2 n q (incT W S nh y t n q j).2) ?_ nh (0, 0, d) ⟨Ch_rf, 0, by omega, rfl, rfl, qz⟩ (Nat.sub_le _ _)⟩
  rintro kk ⟨a, v, dz⟩ ⟨cz, j, hj, rfl, rfl, qj⟩ hk
  have cz : Ch σ [57, 58, 59, 71, 72] d dz := cz
  have qj : qC σ W cl dz n q (incT W S nh y t n q j).2 := qj
  have wz : cW σ E dz W np nh := ⟨Inv_ch c.1 (Ch_w cz (by decide)), (Ch_A cz (by decide) (by decide)).trans c.2.1, c.2.2⟩
  have Cz : clsR σ 50 np nh dz S := clsR_ch C rb50 cz (by decide)
  simp only [b_X10_income_45, x_0_0 h, x_1_2 h, x_0_5 h, x_0_7 h]
  refine k_nhuts wz ?_
  rw [z_le (by omega) (by omega), z_a1 j]
  refine ⟨fun hc => ?_, fun hc => ?_⟩
  · have : j = nh := by omega
    subst this; exact k dz cz
  · have hjn : j < nh := by omega
    refine k_rentOf wz rb50 Cz ok hjn ((congrFun (Ch_I cz (by decide) (by decide)) 2).trans hy) (fun da ua => ?_)
    have wa := c789 wz ua
    have qa := qC_ch qj ua (by decide) (by decide)
    have nx : ∀ db x tk, Ch σ [57, 58, 59, 71, 72] dz db → incT W S nh y t n q (j + 1) = (x, tk) → qC σ W cl db n q tk → kk (x, nI (j + 1), db) := fun db x tk ub e qb =>
      hk (x, nI (j + 1), db) ⟨Ch_tr cz ub, j + 1, by omega, rfl, by rw [e], by rw [e]; exact qb⟩ (by simp only [z_nn (show j + 1 < 2147483648 by omega), z_nn (show j < 2147483648 by omega)]; omega)
    have step : incT W S nh y t n q (j + 1) = if stayB W S nh j y t = true then ((incT W S nh y t n q j).1 + rentS W S nh j y * t, (incT W S nh y t n q j).2) else match fstN (payB W (rentS W S nh j y * t) q (incT W S nh y t n q j).2) n with
      | none => incT W S nh y t n q j
      | some i => ((incT W S nh y t n q j).1 + rentS W S nh j y * t, upB (incT W S nh y t n q j).2 i true) := rfl
    refine k_stays wa (C789 Cz ua) ok hjn ⟨fun l1 => ?_, fun l1 => k_takes wa qa hn hq (fun e => ⟨fun _ => ?_, fun z => absurd rfl z⟩) (fun i e db ub qb => ⟨fun z => absurd z (by decide), fun _ => ?_⟩)⟩
    · rw [b2i_1] at l1
      unfold b_X10_income_96
      rw [z_a1]
      exact nx da _ _ (Ch_w ua (by decide)) (by rw [step, if_pos l1]) qa
    · rw [b2i_0] at l1
      exact nx da _ _ (Ch_w ua (by decide)) (by rw [step, if_neg (by rw [l1]; decide), e]) qa
    · rw [b2i_0] at l1
      unfold b_X10_income_96
      rw [z_a1]
      exact nx db _ _ (Ch_tr (Ch_w ua (by decide)) (Ch_w ub (by decide))) (by rw [step, if_neg (by rw [l1]; decide), e]) qb
end
