/-! texts: the class makes what it keeps -/
section
variable {σ : Nat → Nat} {E : En} {d : Dy} {n len : Nat} {K : Nat → En → Dy → Prop}
theorem nE_ok {E : En} {q t m : Nat} : q ∈ eL (nE E q t m) ∧ eT (nE E q t m) q = t ∧ eN (nE E q t m) q = m := ⟨List.mem_append_right _ (List.mem_singleton.mpr rfl), va_up_self _ _ _, va_up_self _ _ _⟩
theorem sR_get {E : En} {q k : Nat} {v : Option Nat} : eR (sR E q k v) q k = v := by show u2 (eR E) q k v q k = v; unfold u2; rw [if_pos rfl, if_pos rfl]
theorem nD_I {d : Dy} {q : Nat} : gI (nD d q) q = fun _ => 0 := va_up_self _ _ _
theorem nD_o {d : Dy} {q a : Nat} (h : a ≠ q) : gI (nD d q) a = gI d a ∧ gA (nD d q) a = gA d a := ⟨va_up_ne _ _ h, va_up_ne _ _ h⟩
theorem k_init6 {E : En} {d : Dy} {q : Nat} {K : En → Dy → Prop} (ho : okO E q 6) (hn : n ≤ 10) (k : ∀ q2, q2 ∉ eL E → K (sR (nE E q2 13 (n * 5)) q 2 (some q2)) (nD (pI (pI d q 1 (nI n)) q 0 5) q2)) : w_X6_init E q (nI n) 5 d K := by
  have e1 : (if nI n < 0 then 0 else nI n) = nI n := if_neg (z_pos (by omega))
  have e2 : (if (5 : Int32) < 1 then 1 else 5) = (5 : Int32) := by decide
  simp only [w_X6_init, e1, e2]
  have g1 : gI (pI (pI d q 1 (nI n)) q 0 5) q 1 = nI n := by rw [gI_pI_k _ _ _ (by decide), gI_pI]
  have g0 : gI (pI (pI d q 1 (nI n)) q 0 5) q 0 = nI 5 := gI_pI _ _ _ _
  rw [g1, g0, z_mul, z_nn (by omega)]
  exact ⟨ho, z_pos (by omega), by omega, k⟩
end
