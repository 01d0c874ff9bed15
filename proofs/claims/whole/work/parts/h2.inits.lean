def tolL : List (Nat × Nat) := [(12, 3), (10, 7), (40, 6), (10, 3), (20, 1), (60, 1), (10, 3), (8, 3), (20, 3), (12, 1)]
theorem pA_same {d : Dy} {b k : Nat} {v : Int32} (h : gA d b k = v) : pA d b k v = d := by
  obtain ⟨d1, d2, d3⟩ := d
  have h : d2 b k = v := h
  show (d1, u2 d2 b k v, d3) = (d1, d2, d3)
  congr 2
  funext c j
  unfold u2
  by_cases e : c = b
  · subst e
    by_cases e2 : j = k
    · subst e2; rw [if_pos rfl, if_pos rfl, h]
    · rw [if_pos rfl, if_neg e2]
  · rw [if_neg e]
section
variable {σ : Nat → Nat} {b : Nat} {rf : Nat → Nat → Option Nat} {vl : Nat → Nat → Int32} {E : En} {d : Dy} {K : En → Dy → Prop} {a0 : Nat}
theorem fill_0 {K0 : Dy → Prop} {c n : Nat} (ha : okA E c 13) (hN : eN E c = n) (hn : n < 2147483648) (z : ∀ a q, gA d a q = 0) (k : K0 d) : w_J7_fill_53178 E c 0 d K0 := by
  refine ⟨ha, ?_⟩
  rw [hN]
  refine ⟨n + 1, loopG (S := Int32 × Int32 × Dy) (l := fun N s => l_J7_fill_53178_5 E c 0 K0 N s.1 s.2.1 s.2.2) (b := fun kk s => b_J7_fill_53178_5 E c 0 K0 (fun a b c => kk (a, b, c)) s.1 s.2.1 s.2.2) (fun _ _ => rfl)
    (μ := fun s => n - s.1.toNatClampNeg) (P := fun s => nI n = s.2.1 ∧ d = s.2.2 ∧ ∃ j, j ≤ n ∧ nI j = s.1) ?_ n (0, nI n, d) ⟨rfl, rfl, 0, by omega, rfl⟩ (Nat.sub_le _ _)⟩
  rintro kk ⟨a1, a2, dz⟩ ⟨e_1, e_2, j, hj, e_3⟩ hk
  subst e_1 e_2 e_3
  refine ⟨fun hc => k, fun hc => ?_⟩
  rw [z_le (by omega) (by omega)] at hc
  rw [hN, z_nn (by omega), z_a1, pA_same (z _ _)]
  exact ⟨vpi (by omega) hn, hk (nI (j + 1), nI n, d) ⟨rfl, rfl, j + 1, by omega, rfl⟩ (by simp only [z_nn (show j + 1 < 2147483648 by omega), z_nn (show j < 2147483648 by omega)]; omega)⟩
def R8 (b : Nat) (rf : Nat → Nat → Option Nat) : Nat → Nat → Option Nat := u2 (tbR b tolL 1 (b + 1) rf) b 11 (some (b + 21))
def V8 (b : Nat) (vl : Nat → Nat → Int32) : Nat → Nat → Int32 := u2 (tbV tolL (b + 1) (u2 vl b 0 1980)) (b + 11) 3 (nI 60)
theorem i_X8 (p : PS σ (b + 1) rf vl E d) (ea : a0 = σ b) (hk : kT.getD b 0 = 8) (hok : tbOK tolL (b + 1)) (h16 : kT.getD (b + 21) 0 = 16) (h4 : nT.getD (b + 21) 0 = 4) (r6 : R8 b rf b 6 = some (b + 11)) (r2 : R8 b rf (b + 11) 2 = some (b + 12)) (k11 : kT.getD (b + 11) 0 = 6) (k12 : kT.getD (b + 12) 0 = 13) (n12 : nT.getD (b + 12) 0 = 60) (v60 : tbV tolL (b + 1) (u2 vl b 0 1980) (b + 11) 1 = nI 60)
    (kk : ∀ σ' E' d', PS σ' (b + 22) (R8 b rf) (V8 b vl) E' d' → (∀ i, i < b + 1 → σ' i = σ i) → K E' d') : w_X8_init E a0 d K := by
  refine ⟨by rw [ea]; exact ps_okO p (by omega) hk (by decide), ?_⟩
  have p1 := ps_pI (f := 0) (v := 1980) p (show b < b + 1 by omega) ea
  show tabs a0 tolL 1 E (pI d a0 0 1980) (fun E d => arrs a0 [(11, 16, (4 : Int32).toNatClampNeg)] E d (fun E d => ∃ b_64 : Nat, eR E a0 6 = some b_64 ∧ okO E b_64 6 ∧ w_X6_openAll E b_64 d (fun d_67 => K E d_67)))
  refine i_tabs (b := b) tolL 1 σ (b + 1) rf _ E _ p1 (by omega) ea hok (fun σ1 E1 d1 p2 ag => ?_)
  have ea1 : a0 = σ1 b := by rw [ag b (by omega)]; exact ea
  have p2 : PS σ1 (b + 21) (tbR b tolL 1 (b + 1) rf) (tbV tolL (b + 1) (u2 vl b 0 1980)) E1 d1 := p2
  refine i_arrs (b := b) _ σ1 (b + 21) _ _ E1 d1 p2 (by omega) ea1 ⟨⟨h16, h4⟩, trivial⟩ (fun σ2 E2 d2 p3 ag2 => ?_)
  have p3 : PS σ2 (b + 22) (R8 b rf) (tbV tolL (b + 1) (u2 vl b 0 1980)) E2 d2 := p3
  have ea2 : a0 = σ2 b := by rw [ag2 b (by omega)]; exact ea1
  refine ⟨σ2 (b + 11), by rw [ea2]; exact ps_R p3 (by omega) r6, ps_okO p3 (by omega) k11 (by decide), ps_okO p3 (by omega) k11 (by decide), σ2 (b + 12), ps_R p3 (by omega) r2, ps_okA p3 (by omega) k12 (by decide), ?_⟩
  rw [p3.2.2.2.2.2.2.2.1 (b + 11) (by omega) 1, v60]
  have p4 := ps_pI (f := 3) (v := nI 60) p3 (show b + 11 < b + 22 by omega) rfl
  refine fill_0 (ps_okA p4 (by omega) k12 (by decide)) ((p4.2.2.1 (b + 12) (by omega)).2.trans n12) (by decide) p4.2.2.2.2.2.1 ?_
  exact kk σ2 _ _ p4 (fun i hi => by rw [ag2 i (by omega), ag i hi])
theorem i_X2 (p : PS σ (b + 1) rf vl E d) (ea : a0 = σ b) (hk : kT.getD b 0 = 2) (h1 : arOK [(0, 13, 400)] (b + 1)) (h2 : tbOK [(10, 5)] (b + 2)) (h3 : arOK [(8, 13, 400)] (b + 4))
    (kk : ∀ σ' E' d', PS σ' (b + 5) (u2 (tbR b [(10, 5)] 7 (b + 2) (u2 rf b 0 (some (b + 1)))) b 8 (some (b + 4))) (tbV [(10, 5)] (b + 2) vl) E' d' → (∀ i, i < b + 1 → σ' i = σ i) → K E' d') : w_X2_init E a0 d K := by
  refine ⟨by rw [ea]; exact ps_okO p (by omega) hk (by decide), ?_⟩
  show arrs a0 [(0, 13, (400 : Int32).toNatClampNeg)] E d (fun E d => tabs a0 [(10, 5)] 7 E d (fun E d => arrs a0 [(8, 13, (400 : Int32).toNatClampNeg)] E d K))
  refine i_arrs (b := b) _ σ (b + 1) _ _ E d p (by omega) ea h1 (fun σ1 E1 d1 p1 ag1 => ?_)
  have ea1 : a0 = σ1 b := by rw [ag1 b (by omega)]; exact ea
  refine i_tabs (b := b) _ 7 σ1 (b + 2) _ _ E1 d1 p1 (by omega) ea1 h2 (fun σ2 E2 d2 p2 ag2 => ?_)
  have ea2 : a0 = σ2 b := by rw [ag2 b (by omega)]; exact ea1
  refine i_arrs (b := b) _ σ2 (b + 4) _ _ E2 d2 p2 (by omega) ea2 h3 (fun σ3 E3 d3 p3 ag3 => ?_)
  exact kk σ3 E3 d3 p3 (fun i hi => by rw [ag3 i (by omega), ag2 i (by omega), ag1 i hi])
def R3 (b : Nat) (rf : Nat → Nat → Option Nat) : Nat → Nat → Option Nat := u2 (u2 (u2 (u2 (tbR b [(12, 3), (10, 2), (10, 1)] 5 (b + 1) rf) (b + 7) 0 (some (b + 8))) (b + 7) 1 (some (b + 9))) b 8 (some (b + 7))) b 0 (some 1)
theorem i_X3 {a1 : Nat} (p : PS σ (b + 1) rf vl E d) (ea : a0 = σ b) (e1 : a1 = σ 1) (hb : 1 < b + 1) (hk : kT.getD b 0 = 3) (h2 : tbOK [(12, 3), (10, 2), (10, 1)] (b + 1)) (k7 : kT.getD (b + 7) 0 = 0) (n7 : nT.getD (b + 7) 0 = 0) (h3 : arOK [(0, 13, 9), (1, 13, 24)] (b + 8))
    (kk : ∀ σ' E' d', PS σ' (b + 10) (R3 b rf) (tbV [(12, 3), (10, 2), (10, 1)] (b + 1) vl) E' d' → (∀ i, i < b + 1 → σ' i = σ i) → K E' d') : w_X3_init E a0 a1 d K := by
  refine ⟨by rw [ea]; exact ps_okO p (by omega) hk (by decide), by rw [e1]; exact ps_okO p (by omega) rfl (by decide), ?_⟩
  show tabs a0 [(12, 3), (10, 2), (10, 1)] 5 E d (fun E d => ∀ q, q ∉ eL E → w_X0_init (nE E q 0 0) q (nD d q) (fun E22 d23 => K (sR (sR E22 a0 8 (some q)) a0 0 (some a1)) d23))
  refine i_tabs (b := b) _ 5 σ (b + 1) _ _ E d p (by omega) ea h2 (fun σ1 E1 d1 p1 ag1 => ?_)
  have p1 : PS σ1 (b + 7) (tbR b [(12, 3), (10, 2), (10, 1)] 5 (b + 1) rf) (tbV [(12, 3), (10, 2), (10, 1)] (b + 1) vl) E1 d1 := p1
  intro q hq
  have p2 := ps_new p1 hq k7 n7
  have hi' : upN σ1 (b + 7) q (b + 7) = q := by unfold upN; rw [if_pos rfl]
  have lo : ∀ i, i < b + 7 → upN σ1 (b + 7) q i = σ1 i := fun i hi => by unfold upN; rw [if_neg (by omega)]
  refine ⟨by have := ps_okO p2 (show b + 7 < b + 7 + 1 by omega) k7 (by decide); rw [hi'] at this; exact this, ?_⟩
  show arrs q [(0, 13, (9 : Int32).toNatClampNeg), (1, 13, (24 : Int32).toNatClampNeg)] (nE E1 q 0 0) (nD d1 q) (fun E22 d23 => K (sR (sR E22 a0 8 (some q)) a0 0 (some a1)) d23)
  refine i_arrs (b := b + 7) _ (upN σ1 (b + 7) q) (b + 8) _ _ _ _ p2 (by omega) hi'.symm h3 (fun σ3 E3 d3 p3 ag3 => ?_)
  have ae : ∀ i, i < b + 1 → σ3 i = σ i := fun i hi => by rw [ag3 i (by omega), lo i (by omega), ag1 i hi]
  have p4 := ps_ref (f := 8) p3 (show b < b + 10 by omega) (show b + 7 < b + 10 by omega) (a := a0) (c := q) (by rw [ae b (by omega)]; exact ea) (by rw [ag3 (b + 7) (by omega), hi'])
  have p5 := ps_ref (f := 0) p4 (show b < b + 10 by omega) (show 1 < b + 10 by omega) (a := a0) (c := a1) (by rw [ae b (by omega)]; exact ea) (by rw [ae 1 hb]; exact e1)
  exact kk σ3 _ _ p5 ae
end
