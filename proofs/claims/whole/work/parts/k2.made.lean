/-! texts: the class makes what it keeps -/
section
variable {σ : Nat → Nat} {E : En} {d : Dy} {n len : Nat} {K : Nat → En → Dy → Prop}
theorem nE_ok {E : En} {q t m : Nat} : q ∈ eL (nE E q t m) ∧ eT (nE E q t m) q = t ∧ eN (nE E q t m) q = m := ⟨List.mem_append_right _ (List.mem_singleton.mpr rfl), va_up_self _ _ _, va_up_self _ _ _⟩
theorem sR_get {E : En} {q k : Nat} {v : Option Nat} : eR (sR E q k v) q k = v := by show u2 (eR E) q k v q k = v; unfold u2; rw [if_pos rfl, if_pos rfl]
theorem nD_I {d : Dy} {q : Nat} : gI (nD d q) q = fun _ => 0 := va_up_self _ _ _
theorem nD_o {d : Dy} {q a : Nat} (h : a ≠ q) : gI (nD d q) a = gI d a ∧ gA (nD d q) a = gA d a := ⟨va_up_ne _ _ h, va_up_ne _ _ h⟩
theorem k_init6 {E : En} {d : Dy} {q : Nat} {K : En → Dy → Prop} (ho : okO E q 6) (hn : n ≤ 10) (k : ∀ q2, q2 ∉ eL E → K (sR (nE E q2 13 (n * 5)) q 2 (some q2)) (nD (pI (pI d q 1 (nI n)) q 0 5) q2)) : w_X6_init E q (nI n) 5 d K := by
  have e1 : (if nI n < 0 then 0 else nI n) = nI n := if_neg (z_pos (by omega))
  have e2 : (if (5 : Int32) < 1 then 1 else 5) = (5 : Int32) := by decide
  simp only [w_X6_init, e1, e2]
  have g1 : gI (pI (pI d q 1 (nI n)) q 0 5) q 1 = nI n := by rw [gI_pI_k _ _ _ (by decide), gI_pI]
  have g0 : gI (pI (pI d q 1 (nI n)) q 0 5) q 0 = nI 5 := gI_pI _ _ _ _
  rw [g1, g0, z_mul, z_nn (by omega)]
  exact ⟨ho, z_pos (by omega), by omega, k⟩
theorem k_compiled (h : Env σ E) (td : TD d (σ 47) 5 10 n) (g9 : gI d (σ 45) 9 = nI len) (hl : len < 400) (k : ∀ q E' d', ExE E E' → ExD E d d' → q ∉ eL E → okO E' q 7 → (∃ tl tb tc, tl ∉ eL E ∧ tb ∉ eL E ∧ tc ∉ eL E ∧ eR E' q 0 = some tl ∧ eR E' q 1 = some tc ∧ TE E' tl tb 5 n ∧ TD d' tl 5 n n ∧ okA E' tc 13 ∧ eN E' tc = len ∧ (∀ j, j < n * 5 → gA d' tb j = gA d (σ 48) j) ∧ (∀ j, j < len → gA d' tc j = gA d (σ 49) j)) → K q E' d') : w_X2_compiled E (σ 45) d K := by
  have hn := td.2.2.2
  have i45 : σ 45 ∈ eL E := (h.2.1 45 (by decide)).1
  have i47 : σ 47 ∈ eL E := (h.2.1 47 (by decide)).1
  have i48 : σ 48 ∈ eL E := (h.2.1 48 (by decide)).1
  have i49 : σ 49 ∈ eL E := (h.2.1 49 (by decide)).1
  refine ⟨eo_45 h, fun q1 n1 => ?_⟩
  have x1 : ExE E (nE E q1 6 0) := xe_nE xe_rf n1
  have y1 : ExD E d (nD d q1) := xd_nD xd_rf n1
  have h1 := xe_Env h x1
  have o1 : okO (nE E q1 6 0) q1 6 := ⟨nE_ok.1, nE_ok.2.1, by decide⟩
  refine (x_45_7 h1).mpr (T_size (n := n) (te_47 h1) (by unfold TD; rw [(y1 _ i47).1]; exact td) (k_init6 o1 hn (fun q2 n2 => ?_)))
  have n2' : q2 ∉ eL E := fun z => n2 (x1 q2 z).1
  have ne21 : q1 ≠ q2 := fun e => n2 (e ▸ nE_ok.1)
  have x2 : ExE E (sR (nE (nE E q1 6 0) q2 13 (n * 5)) q1 2 (some q2)) := xe_sR (xe_nE x1 n2) n1
  have y2 : ExD E d (nD (pI (pI (nD d q1) q1 1 (nI n)) q1 0 5) q2) := xd_nD (xd_pI (xd_pI y1 n1) n1) n2'
  have h2 := xe_Env h x2
  have o2 : okO (sR (nE (nE E q1 6 0) q2 13 (n * 5)) q1 2 (some q2)) q1 6 := (show okO (nE (nE E q1 6 0) q2 13 (n * 5)) q1 6 from xe_okO (xe_nE xe_rf n2) o1)
  have o2b : okA (sR (nE (nE E q1 6 0) q2 13 (n * 5)) q1 2 (some q2)) q2 13 := (show okA (nE (nE E q1 6 0) q2 13 (n * 5)) q2 13 from ⟨nE_ok.1, nE_ok.2.1, by decide⟩)
  have r2 : eR (sR (nE (nE E q1 6 0) q2 13 (n * 5)) q1 2 (some q2)) q1 2 = some q2 := sR_get
  have l2 : eN (sR (nE (nE E q1 6 0) q2 13 (n * 5)) q1 2 (some q2)) q2 = n * 5 := (show eN (nE (nE E q1 6 0) q2 13 (n * 5)) q2 = n * 5 from nE_ok.2.2)
  have g10 : gI (nD (pI (pI (nD d q1) q1 1 (nI n)) q1 0 5) q2) q1 0 = nI 5 := by rw [(nD_o ne21).1]; exact gI_pI _ _ _ _
  have g11 : gI (nD (pI (pI (nD d q1) q1 1 (nI n)) q1 0 5) q2) q1 1 = nI n := by rw [(nD_o ne21).1, gI_pI_k _ _ _ (by decide), gI_pI]
  generalize sR (nE (nE E q1 6 0) q2 13 (n * 5)) q1 2 (some q2) = E2 at x2 h2 o2 o2b r2 l2
  generalize nD (pI (pI (nD d q1) q1 1 (nI n)) q1 0 5) q2 = d2 at y2 g10 g11
  refine (x_45_7 h2).mpr ⟨o2, eo_47 h2, fun z => ?_, fun _ => ⟨fun z => ?_, fun _ => ?_⟩⟩
  · rw [(y2 _ i47).1, td.1, g10] at z; exact absurd rfl z
  · rw [(y2 _ i47).1, td.2.2.1, g11] at z; exact absurd ((z_lt (by omega) (by omega)).mp z) (Nat.lt_irrefl _)
  rw [(y2 _ i47).1, td.2.2.1]
  have y3 : ExD E d (pI d2 q1 3 (nI n)) := xd_pI y2 n1
  have m5 : (gI (pI d2 q1 3 (nI n)) q1 3) * (gI (pI d2 q1 3 (nI n)) q1 0) = nI (n * 5) := by rw [gI_pI, gI_pI_k _ _ _ (by decide), g10, z_mul]
  rw [m5]
  have t3 : TD (pI d2 q1 3 (nI n)) q1 5 n n := ⟨by rw [gI_pI_k _ _ _ (by decide)]; exact g10, by rw [gI_pI_k _ _ _ (by decide)]; exact g11, gI_pI _ _ _ _, Nat.le_refl _⟩
  generalize pI d2 q1 3 (nI n) = d3 at y3 t3
  refine ⟨σ 48, er_47_2 h2, eo_48 h2, q2, r2, o2b, by decide, by decide, z_pos (by omega), ?_, ?_, fun q3 n3 => ?_⟩
  · rw [z_nn (by omega), en_48 h2]; show 0 + n * 5 ≤ 50; omega
  · rw [z_nn (by omega), l2]; show 0 + n * 5 ≤ n * 5; omega
  rw [z_nn (by omega)]
  have z00 : ((0 : Int32)).toNatClampNeg = 0 := by decide
  rw [z00]
  have ne1 : q1 ≠ q3 := fun e => n3 (e ▸ o2.1)
  have ne2 : q2 ≠ q3 := fun e => n3 (e ▸ o2b.1)
  have n3' : q3 ∉ eL E := fun z => n3 (x2 q3 z).1
  have y4 : ExD E d (nD (sA d3 q2 (va_cpy (gA d3 (σ 48)) (gA d3 q2) 0 0 (n * 5))) q3) := xd_nD (xd_sA y3 n2') n3'
  have w4 : ∀ j, j < n * 5 → gA (nD (sA d3 q2 (va_cpy (gA d3 (σ 48)) (gA d3 q2) 0 0 (n * 5))) q3) q2 j = gA d (σ 48) j := fun j hj => by
    rw [(nD_o ne2).2, gA_sA]
    simp only [va_cpy]
    rw [if_pos (by omega), (y3 _ i48).2.1]; congr 1; omega
  have t4 : TD (nD (sA d3 q2 (va_cpy (gA d3 (σ 48)) (gA d3 q2) 0 0 (n * 5))) q3) q1 5 n n := by unfold TD; rw [(nD_o ne1).1]; exact t3
  have x3 : ExE E2 (nE E2 q3 7 0) := xe_nE xe_rf n3
  have o3 : okO (nE E2 q3 7 0) q3 7 := ⟨nE_ok.1, nE_ok.2.1, by decide⟩
  generalize nD (sA d3 q2 (va_cpy (gA d3 (σ 48)) (gA d3 q2) 0 0 (n * 5))) q3 = d4 at y4 w4 t4
  generalize nE E2 q3 7 0 = E3 at x3 o3
  have x13 := xe_tr x2 x3
  have h3 := xe_Env h x13
  refine (x_45_8 h3).mpr ⟨eo_49 h3, fun _ => ?_, fun z => ?_⟩
  · rw [(y4 _ i45).1, g9, z_nn (by omega)]
    refine ⟨z_pos (by omega), by omega, fun q4 n4 => ?_⟩
    have n4' : q4 ∉ eL E := fun z => n4 (x13 q4 z).1
    have ne43 : q3 ≠ q4 := fun e => n4 (e ▸ o3.1)
    have ne41 : q1 ≠ q4 := fun e => n4 (e ▸ (x3 q1 o2.1).1)
    have ne42 : q2 ≠ q4 := fun e => n4 (e ▸ (x3 q2 o2b.1).1)
    have x4 : ExE E3 (nE E3 q4 13 len) := xe_nE xe_rf n4
    have h4 := xe_Env h (xe_tr x13 x4)
    have e49 : eN (nE E3 q4 13 len) (σ 49) = 400 := en_49 h4
    have o4 : okA (nE E3 q4 13 len) q4 13 := ⟨nE_ok.1, nE_ok.2.1, by decide⟩
    have l4 : eN (nE E3 q4 13 len) q4 = len := nE_ok.2.2
    generalize nE E3 q4 13 len = E4 at x4 h4 e49 o4 l4
    rw [e49, l4, if_pos ((z_lt (by omega) (by omega)).mpr hl), z_nn (by omega), z00]
    refine ⟨by decide, by decide, z_pos (by omega), by omega, by omega, o4, xe_okO x4 o3, xe_okO (xe_tr x3 x4) o2, o4, ?_⟩
    have y5 : ExD E d (sA (nD d4 q4) q4 (va_cpy (gA (nD d4 q4) (σ 49)) (gA (nD d4 q4) q4) 0 0 len)) := xd_sA (xd_nD y4 n4') n4'
    have x5 : ExE E (sR (sR E4 q3 0 (some q1)) q3 1 (some q4)) := xe_sR (xe_sR (xe_tr x13 x4) n3') n3'
    have ne13 : q1 ≠ q3 := ne1
    refine k q3 _ _ x5 y5 n3' (xe_okO x4 o3) ⟨q1, q2, q4, n1, n2', n4', ?_, sR_get, ⟨xe_okO (xe_tr x3 x4) o2, ?_, xe_okA (xe_tr x3 x4) o2b, ?_, by decide, by omega⟩, ?_, o4, l4, fun j hj => ?_, fun j hj => ?_⟩
    · show u2 (u2 (eR E4) q3 0 (some q1)) q3 1 (some q4) q3 0 = some q1
      unfold u2; rw [if_pos rfl, if_neg (by decide), if_pos rfl, if_pos rfl]
    · show u2 (u2 (eR E4) q3 0 (some q1)) q3 1 (some q4) q1 2 = some q2
      unfold u2; rw [if_neg ne13, if_neg ne13, (x4 q1 (x3 q1 o2.1).1).2.2.2, (x3 q1 o2.1).2.2.2]; exact r2
    · show eN E4 q2 = n * 5
      rw [(x4 q2 (x3 q2 o2b.1).1).2.2.1, (x3 q2 o2b.1).2.2.1]; exact l2
    · unfold TD
      show gI (nD d4 q4) q1 0 = _ ∧ gI (nD d4 q4) q1 1 = _ ∧ gI (nD d4 q4) q1 3 = _ ∧ _
      rw [(nD_o ne41).1]; exact t4
    · rw [gA_sA_ne _ _ ne42, (nD_o ne42).2]; exact w4 j hj
    · rw [gA_sA]
      simp only [va_cpy]
      rw [if_pos (by omega), ((xd_nD y4 n4') _ i49).2.1]; congr 1; omega
  · rw [(y4 _ i45).1, g9, en_49 h3] at z
    have := (z_eq (by omega) (by omega)).mp z; omega
end
