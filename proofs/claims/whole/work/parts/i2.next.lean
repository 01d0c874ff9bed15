/-- the tape of the class -/
def tpC (σ : Nat → Nat) (d : Dy) (B : Nat → Nat) (tl : Nat) : Prop := tl ≤ 400 ∧ (∀ k, B k < 256) ∧ gI d (σ 45) 1 = nI tl ∧ ∀ k, k < tl → gA d (σ 46) k = nI (B k)
/-- the reader stands ahead of the thing behind p -/
def tkS (σ : Nat → Nat) (d : Dy) (B : Nat → Nat) (tl p : Nat) : Prop := gI d (σ 45) 3 = nI (blk B tl p) ∧ gI d (σ 45) 4 = nI (afN B tl p) ∧ gI d (σ 45) 5 = nI (thN B tl p) ∧ (thN B tl p = 30 → gI d (σ 45) 6 = nI (vaN B tl p))
/-- what reading on leaves as it was -/
def smF (σ : Nat → Nat) (d d' : Dy) : Prop := ∀ j, j ≠ 3 → j ≠ 4 → j ≠ 5 → j ≠ 6 → gI d' (σ 45) j = gI d (σ 45) j
theorem pI_same {d : Dy} {b k : Nat} {v : Int32} (h : gI d b k = v) : pI d b k v = d := by
  obtain ⟨d1, d2⟩ := d
  have h : d1 b k = v := h
  show (u2 d1 b k v, d2) = (d1, d2)
  congr 1
  funext c j
  unfold u2
  by_cases e : c = b
  · subst e
    by_cases e2 : j = k
    · subst e2; rw [if_pos rfl, if_pos rfl, h]
    · rw [if_pos rfl, if_neg e2]
  · rw [if_neg e]
theorem ch_0 : ∀ i, i < 113 → ((((skB.getD 0 []).getD i 0) &&& 255).toUInt32 % 65536).toInt32 = nI ((wdC.flatMap (fun w => w ++ [32])).getD i 0) := by decide +kernel
theorem ln_0 : (wdC.flatMap (fun w => w ++ [32])).length = 113 := by decide
theorem wd_ok : ∀ w ∈ wdC, ∀ c ∈ w, 97 ≤ c ∧ c ≤ 122 := by decide
section
variable {σ : Nat → Nat} {E : En} {d d' d2 d3 : Dy} {B : Nat → Nat} {tl p : Nat} {K0 : Dy → Prop} {K : Int32 → Dy → Prop}
theorem tpC_ch (t : tpC σ d B tl) (c : Ch σ [45] d d') (s : gI d' (σ 45) 1 = gI d (σ 45) 1) : tpC σ d' B tl := by
  refine ⟨t.1, t.2.1, s.trans t.2.2.1, fun k hk => ?_⟩
  rw [Ch_A c (by decide) (by decide)]; exact t.2.2.2 k hk
theorem n_cmp {B : Nat → Nat} (hB : ∀ k, B k < 256) (k c : Nat) (hc : c < 256) : (nI (B k) < nI c ↔ B k < c) ∧ (nI c < nI (B k) ↔ c < B k) ∧ (nI (B k) = nI c ↔ B k = c) := by
  have := hB k
  exact ⟨z_lt (by omega) (by omega), z_lt (by omega) (by omega), z_eq (by omega) (by omega)⟩
/-- the words, one behind another -/
theorem k_tw64 (h : Env σ E) (t : tpC σ d B tl) {b a : Nat} (hba : b ≤ a) (ha : a ≤ tl) (g3 : gI d (σ 45) 3 = nI b) (g4 : gI d (σ 45) 4 = nI a) (g5 : gI d (σ 45) 5 = 32) :
    ∀ (ws : List (List Nat)) (i v : Nat), (wdC.flatMap (fun w => w ++ [32])).drop v = ws.flatMap (fun w => w ++ [32]) → v ≤ 113 → (∀ w ∈ ws, ∀ c ∈ w, 97 ≤ c ∧ c ≤ 122) → i + ws.length ≤ 31 → K0 (pI d (σ 45) 5 (nI (twN B b a ws i))) → ∃ N, l_X2_takeWord_64 E (σ 45) K0 N (nI i) 0 (nI v) d := by
  obtain ⟨t1, t2, t3, t4⟩ := t
  intro ws
  induction ws with
  | nil =>
    intro i v hd hv _ _ k
    have hl : v = 113 := by
      have := congrArg List.length hd
      rw [List.length_drop, ln_0] at this
      simp at this; omega
    subst hl
    have k : K0 (pI d (σ 45) 5 32) := k
    rw [pI_same g5] at k
    refine ⟨1, by decide, fun _ => k, fun z => absurd (show nI (skN.getD 0 0) ≤ nI 113 by decide) z⟩
  | cons w ws ihw =>
    intro i v hd hv hc hi k
    have tail : ∀ v', (wdC.flatMap (fun w => w ++ [32])).drop v' = ws.flatMap (fun w => w ++ [32]) → v' ≤ 113 → mtc B b a w = false → ∃ N, l_X2_takeWord_64 E (σ 45) K0 N (nI (i + 1)) 0 (nI v') d := fun v' hd' hv' hm => by
      refine ihw (i + 1) v' hd' hv' (fun x hx => hc x (List.mem_cons_of_mem _ hx)) (by rw [List.length_cons] at hi; omega) ?_
      unfold twN at k
      rw [if_neg (by rw [hm]; decide)] at k; exact k
    have word : ∀ (r : List Nat) (pre : List Nat) (v' : Nat) (s : Int32) (ok : Bool), w = pre ++ r → (wdC.flatMap (fun w => w ++ [32])).drop v' = (r ++ [32]) ++ ws.flatMap (fun w => w ++ [32]) → v' ≤ 113 → (ok = true → s = nI pre.length ∧ pre.length ≤ a - b ∧ eqW B pre b = true) → (ok = false → s = -1 ∧ mtc B b a w = false) → ∃ N, l_X2_takeWord_64 E (σ 45) K0 N (nI i) s (nI v') d := by
      intro r
      induction r with
      | nil =>
        intro pre v' s ok hw hd' hv' hok hno
        have hlt : v' < 113 := by
          have := congrArg List.length hd'
          rw [List.length_drop, ln_0] at this
          simp at this; omega
        have c32 : ((wdC.flatMap (fun w => w ++ [32])).getD v' 0) = 32 := by
          have := congrArg (fun l => l.getD 0 0) hd'
          simp only [List.nil_append, List.cons_append, List.getD_cons_zero] at this
          rw [List.getD_eq_getElem?_getD, List.getElem?_drop, Nat.add_zero, ← List.getD_eq_getElem?_getD] at this
          exact this
        have d2 : (wdC.flatMap (fun w => w ++ [32])).drop (v' + 1) = ws.flatMap (fun w => w ++ [32]) := by
          rw [← List.drop_drop, hd']; rfl
        rw [List.append_nil] at hw
        by_cases hm : mtc B b a w = true
        · have okt : ok = true := by
            cases z : ok
            · rw [(hno z).2] at hm; exact nomatch hm
            · rfl
          obtain ⟨s1, s2, s3⟩ := hok okt
          have e : a - b = pre.length := by unfold mtc at hm; simp only [Bool.and_eq_true, decide_eq_true_eq] at hm; rw [← hw]; omega
          refine ⟨2, ?_⟩
          show b_X2_takeWord_64 E (σ 45) K0 (l_X2_takeWord_64 E (σ 45) K0 1) (nI i) s (nI v') d
          refine ⟨by decide, fun z => absurd (show nI 113 ≤ nI v' from z) (by rw [z_le (by decide) (by omega)]; omega), fun _ => ⟨fun z => absurd g5 z, fun _ => ⟨by decide, z_pos (by omega), (z_lt (b := 113) (by omega) (by decide)).mpr hlt, ?_⟩⟩⟩
          rw [z_nn (by omega), ch_0 v' hlt, c32]
          dsimp only
          rw [g4, g3, z_sub hba]
          refine ⟨fun z => absurd rfl z, fun _ => ⟨fun z => absurd (by rw [s1, e]) z, fun _ => ?_⟩⟩
          have k1 : K0 (pI d (σ 45) 5 (nI i)) := by unfold twN at k; rw [if_pos hm] at k; exact k
          have g5' : gI (pI d (σ 45) 5 (nI i)) (σ 45) 5 = nI i := gI_pI _ _ _ _
          have ni : ¬ nI i = 32 := by rw [show (32 : Int32) = nI 32 from rfl, z_eq (by omega) (by decide)]; rw [List.length_cons] at hi; omega
          refine ⟨eo_45 h, ?_⟩
          show l_X2_takeWord_64 E (σ 45) K0 1 (nI i + 1) 0 (nI v' + 1) (pI d (σ 45) 5 (nI i))
          refine ⟨by decide, fun _ => k1, fun _ => ⟨fun _ => k1, fun z => absurd (g5'.symm.trans z) ni⟩⟩
        · have hmf : mtc B b a w = false := by simpa using hm
          obtain ⟨N, hN⟩ := tail (v' + 1) d2 (by omega) hmf
          refine ⟨N + 1, ?_⟩
          show b_X2_takeWord_64 E (σ 45) K0 (l_X2_takeWord_64 E (σ 45) K0 N) (nI i) s (nI v') d
          refine ⟨by decide, fun z => absurd (show nI 113 ≤ nI v' from z) (by rw [z_le (by decide) (by omega)]; omega), fun _ => ⟨fun z => absurd g5 z, fun _ => ⟨by decide, z_pos (by omega), (z_lt (b := 113) (by omega) (by decide)).mpr hlt, ?_⟩⟩⟩
          rw [z_nn (by omega), ch_0 v' hlt, c32]
          dsimp only
          rw [g4, g3, z_sub hba]
          refine ⟨fun z => absurd rfl z, fun _ => ⟨fun _ => ?_, fun z => ?_⟩⟩
          · refine ⟨eo_45 h, ?_⟩
            show l_X2_takeWord_64 E (σ 45) K0 N (nI i + 1) 0 (nI v' + 1) (pI d (σ 45) 5 32)
            rw [pI_same g5, z_a1, z_a1]; exact hN
          · cases zo : ok
            · rw [(hno zo).1] at z; exact absurd z.symm (z_ne1 (by omega))
            · obtain ⟨s1, s2, s3⟩ := hok zo
              rw [s1, z_eq (by omega) (by omega)] at z
              rw [← hw] at s3
              have : mtc B b a w = true := by unfold mtc; rw [s3, hw]; simp; omega
              rw [this] at hmf; exact nomatch hmf
      | cons c r ihr =>
        intro pre v' s ok hw hd' hv' hok hno
        have hlt : v' < 113 := by
          have := congrArg List.length hd'
          rw [List.length_drop, ln_0] at this
          simp at this; omega
        have cv : ((wdC.flatMap (fun w => w ++ [32])).getD v' 0) = c := by
          have := congrArg (fun l => l.getD 0 0) hd'
          simp only [List.cons_append, List.getD_cons_zero] at this
          rw [List.getD_eq_getElem?_getD, List.getElem?_drop, Nat.add_zero, ← List.getD_eq_getElem?_getD] at this
          exact this
        have d2 : (wdC.flatMap (fun w => w ++ [32])).drop (v' + 1) = (r ++ [32]) ++ ws.flatMap (fun w => w ++ [32]) := by
          rw [← List.drop_drop, hd']; rfl
        have hcc := hc w List.mem_cons_self c (by rw [hw]; simp)
        have hw2 : w = (pre ++ [c]) ++ r := by rw [hw, List.append_assoc]; rfl
        have eqa : ∀ (l : List Nat) (q : Nat), eqW B (l ++ [c]) q = (eqW B l q && decide (B (q + l.length) = c)) := fun l => by
          induction l with
          | nil => intro q; show (decide (B q = c) && true) = (true && decide (B (q + 0) = c)); simp
          | cons x l ihl => intro q; show (decide (B q = x) && eqW B (l ++ [c]) (q + 1)) = ((decide (B q = x) && eqW B l (q + 1)) && _); rw [ihl, Bool.and_assoc, List.length_cons, show q + 1 + l.length = q + (l.length + 1) by omega]
        have eqp : ∀ (l : List Nat) (m : List Nat) (q : Nat), eqW B (l ++ m) q = true → eqW B l q = true := fun l => by
          induction l with
          | nil => intro m q _; rfl
          | cons x l ihl =>
            intro m q hx
            have hx : (decide (B q = x) && eqW B (l ++ m) (q + 1)) = true := hx
            rw [Bool.and_eq_true] at hx
            show (decide (B q = x) && eqW B l (q + 1)) = true
            rw [hx.1, ihl m (q + 1) hx.2]; rfl
        have step : ∀ s2 ok2, (ok2 = true → s2 = nI (pre ++ [c]).length ∧ (pre ++ [c]).length ≤ a - b ∧ eqW B (pre ++ [c]) b = true) → (ok2 = false → s2 = -1 ∧ mtc B b a w = false) → ∃ N, l_X2_takeWord_64 E (σ 45) K0 N (nI i) s2 (nI (v' + 1)) d := fun s2 ok2 h1 h2 => ihr (pre ++ [c]) (v' + 1) s2 ok2 hw2 d2 (by omega) h1 h2
        have nc : ¬ nI c = 32 := by rw [show (32 : Int32) = nI 32 from rfl, z_eq (by omega) (by decide)]; omega
        have bad : (¬ (pre.length < a - b ∧ B (b + pre.length) = c)) → mtc B b a w = false := fun q => by
          cases z : mtc B b a w
          · rfl
          · unfold mtc at z
            simp only [Bool.and_eq_true, decide_eq_true_eq] at z
            have z2 := eqp (pre ++ [c]) r b (by rw [← hw2]; exact z.2)
            rw [eqa, Bool.and_eq_true, decide_eq_true_eq] at z2
            have : w.length = pre.length + 1 + r.length := by rw [hw2, List.length_append, List.length_append]; rfl
            exact absurd ⟨by omega, z2.2⟩ q
        have go : ∀ s2, (∃ N, l_X2_takeWord_64 E (σ 45) K0 N (nI i) s2 (nI (v' + 1)) d) → (s < 0 → s2 = -1) → (¬ s < 0 → (nI (a - b) ≤ s → s2 = -1) ∧ (¬ nI (a - b) ≤ s → (¬ gA d (σ 46) (nI b + s).toNatClampNeg = nI c → s2 = -1) ∧ (gA d (σ 46) (nI b + s).toNatClampNeg = nI c → s2 = s + 1) ∧ vp_in (nI b + s) 400)) → ∃ N, l_X2_takeWord_64 E (σ 45) K0 N (nI i) s (nI v') d := fun s2 ⟨N, hN⟩ q1 q2 => by
          refine ⟨N + 1, ?_⟩
          show b_X2_takeWord_64 E (σ 45) K0 (l_X2_takeWord_64 E (σ 45) K0 N) (nI i) s (nI v') d
          simp only [b_X2_takeWord_64, x_45_0 h, en_46 h]
          refine ⟨by decide, fun z => absurd (show nI 113 ≤ nI v' from z) (by rw [z_le (by decide) (by omega)]; omega), fun _ => ⟨fun z => absurd g5 z, fun _ => ⟨by decide, z_pos (by omega), (z_lt (b := 113) (by omega) (by decide)).mpr hlt, ?_⟩⟩⟩
          rw [z_nn (by omega), ch_0 v' hlt, cv]
          dsimp only
          rw [g4, g3, z_sub hba, z_a1]
          refine ⟨fun _ => ⟨fun z => by rw [← q1 z]; exact hN, fun z => ⟨fun z2 => by rw [← (q2 z).1 z2]; exact hN, fun z2 => ⟨((q2 z).2 z2).2.2, fun z3 => by rw [← ((q2 z).2 z2).1 z3]; exact hN, fun z3 => by rw [← ((q2 z).2 z2).2.1 z3]; exact hN⟩⟩⟩, fun z => absurd z nc⟩
        cases zo : ok
        · obtain ⟨n1, n2⟩ := hno zo
          refine go (-1) (step (-1) false (fun z => (nomatch z)) (fun _ => ⟨rfl, n2⟩)) (fun _ => rfl) (fun z => absurd (by rw [n1]; decide) z)
        · obtain ⟨s1, s2, s3⟩ := hok zo
          have np : ¬ s < 0 := by rw [s1]; exact z_pos (by omega)
          by_cases l1 : pre.length < a - b
          · have tb := t4 (b + pre.length) (by omega)
            have hb := t2 (b + pre.length)
            by_cases l2 : B (b + pre.length) = c
            · refine go (nI (pre.length + 1)) (step _ true (fun _ => ⟨by rw [List.length_append]; rfl, by rw [List.length_append]; show pre.length + 1 ≤ _; omega, by rw [eqa, s3, l2]; simp⟩) (fun z => (nomatch z))) (fun z => absurd z np) (fun _ => ⟨fun z => ?_, fun _ => ⟨fun z => ?_, fun _ => by rw [s1, z_a1], ?_⟩⟩)
              · rw [s1, z_le (by omega) (by omega)] at z; omega
              · rw [s1, z_add, z_nn (by omega), tb, l2] at z; exact absurd rfl z
              · rw [s1, z_add]; exact vpi (by omega) (by decide)
            · refine go (-1) (step (-1) false (fun z => (nomatch z)) (fun _ => ⟨rfl, bad (fun q => l2 q.2)⟩)) (fun _ => rfl) (fun _ => ⟨fun _ => rfl, fun _ => ⟨fun _ => rfl, fun z => ?_, ?_⟩⟩)
              · rw [s1, z_add, z_nn (by omega), tb, z_eq (by omega) (by omega)] at z; exact absurd z l2
              · rw [s1, z_add]; exact vpi (by omega) (by decide)
          · refine go (-1) (step (-1) false (fun z => (nomatch z)) (fun _ => ⟨rfl, bad (fun q => l1 q.1)⟩)) (fun _ => rfl) (fun _ => ⟨fun _ => rfl, fun z => ?_⟩)
            rw [s1, z_le (by omega) (by omega)] at z; omega
    exact word w [] v 0 true rfl (by rw [hd]; rfl) hv (fun _ => ⟨rfl, Nat.zero_le _, rfl⟩) (fun z => (nomatch z))
end
