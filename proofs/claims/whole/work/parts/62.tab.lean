/-! the pure layer: rows of numbers in one array (HutRow$Table) -/
def TE (E : En) (t b w m : Nat) : Prop := okO E t 6 ∧ eR E t 2 = some b ∧ okA E b 13 ∧ eN E b = m * w ∧ 0 < w ∧ m * w ≤ 400
def TD (d : Dy) (t w m n : Nat) : Prop := gI d t 0 = nI w ∧ gI d t 1 = nI m ∧ gI d t 3 = nI n ∧ n ≤ m
theorem gA_sA (d : Dy) (b : Nat) (g : Nat → Int32) : gA (sA d b g) b = g := by simp [gA, sA, va_up]
theorem gA_sA_ne (d : Dy) {b c : Nat} (g : Nat → Int32) (h : c ≠ b) : gA (sA d b g) c = gA d c := by simp [gA, sA, va_up, h]
theorem gI_sA (d : Dy) (b : Nat) (g : Nat → Int32) : gI (sA d b g) = gI d := rfl
theorem gI_pA (d : Dy) (b k : Nat) (v : Int32) : gI (pA d b k v) = gI d := rfl
theorem gA_pI (d : Dy) (b k : Nat) (v : Int32) : gA (pI d b k v) = gA d := rfl
theorem gI_pI (d : Dy) (a k : Nat) (v : Int32) : gI (pI d a k v) a k = v := by simp [gI, pI, u2]
theorem gI_pI_k (d : Dy) (a : Nat) {k j : Nat} (v : Int32) (h : j ≠ k) : gI (pI d a k v) a j = gI d a j := by simp [gI, pI, u2, h]
theorem gI_pI_a (d : Dy) {a c : Nat} (k : Nat) (v : Int32) (h : c ≠ a) : gI (pI d a k v) c = gI d c := by funext j; simp [gI, pI, u2, h]
theorem gA_pA (d : Dy) (b k : Nat) (v : Int32) : gA (pA d b k v) b = fun j => if j = k then v else gA d b j := by funext j; simp [gA, pA, u2]
theorem gA_pA_ne (d : Dy) {b c : Nat} (k : Nat) (v : Int32) (h : c ≠ b) : gA (pA d b k v) c = gA d c := by funext j; simp [gA, pA, u2, h]
theorem pA_sA (d : Dy) (b k : Nat) (v : Int32) (g : Nat → Int32) : pA (sA d b g) b k v = sA d b (fun j => if j = k then v else g j) := by
  simp only [pA, sA]
  congr 2
  funext c j
  by_cases hc : c = b
  · subst hc; simp [u2, va_up]
  · simp [u2, va_up, hc]
theorem pA_as (d : Dy) (b k : Nat) (v : Int32) : pA d b k v = sA d b (fun j => if j = k then v else gA d b j) := by
  simp only [pA, sA]
  congr 2
  funext c j
  by_cases hc : c = b
  · subst hc; simp [u2, va_up, gA]
  · simp [u2, va_up, hc]
theorem sA_id (d : Dy) (b : Nat) : sA d b (gA d b) = d := by
  obtain ⟨d1, d2, d3⟩ := d
  simp only [sA, gA]
  congr 2
  funext c j
  by_cases hc : c = b
  · subst hc; simp [va_up]
  · simp [va_up, hc]
theorem sA_eq {d : Dy} {b : Nat} {g h : Nat → Int32} (e : ∀ j, g j = h j) : sA d b g = sA d b h := by rw [show g = h from funext e]
section
variable {E : En} {d : Dy} {t b w m n r c : Nat}
theorem T_len (h : TE E t b w m) (hr : r < m) (hc : c < w) : r * w + c < m * w := by
  have : (r + 1) * w ≤ m * w := Nat.mul_le_mul_right w hr
  rw [Nat.add_mul, Nat.one_mul] at this; omega
theorem T_m (h : TE E t b w m) : m ≤ 400 ∧ w ≤ 400 ∨ m = 0 := by
  obtain ⟨-, -, -, -, h1, h2⟩ := h
  rcases Nat.eq_zero_or_pos m with h0 | h0
  · exact Or.inr h0
  · have a1 : m * 1 ≤ m * w := Nat.mul_le_mul_left m h1
    have a2 : 1 * w ≤ m * w := Nat.mul_le_mul_right w h0
    exact Or.inl (by omega)
theorem T_size (h : TE E t b w m) (hd : TD d t w m n) {K : Int32 → Dy → Prop} (k : K (nI n) d) : w_X6_size E t d K := ⟨h.1, by rw [hd.2.2.1]; exact k⟩
theorem T_clear (h : TE E t b w m) {K : Dy → Prop} (k : K (pI d t 3 0)) : w_X6_clear E t d K := ⟨h.1, k⟩
theorem T_full (h : TE E t b w m) (hd : TD d t w m n) (hm : m ≤ 400) {K : Int32 → Dy → Prop} (k1 : n < m → K 0 d) (k2 : n = m → K 1 d) : w_X6_isFull E t d K := by
  obtain ⟨-, h1, h2, h3⟩ := hd
  refine ⟨h.1, fun hc => k1 ?_, fun hc => k2 ?_⟩
  · rw [h2, h1, z_lt (by omega) (by omega)] at hc; exact hc
  · rw [h2, h1, z_lt (by omega) (by omega)] at hc; omega
theorem T_get (h : TE E t b w m) (hd : TD d t w m n) (hr : r < n) (hc : c < w) {K : Int32 → Dy → Prop} (k : K (gA d b (r * w + c)) d) : w_X6_get E t (nI r) (nI c) d K := by
  have hl := T_len h (Nat.lt_of_lt_of_le hr hd.2.2.2) hc
  have hm := T_m h
  obtain ⟨h1, h2, h3, h4, h5, h6⟩ := h
  obtain ⟨e1, e2, e3, e4⟩ := hd
  refine ⟨h1, fun q => absurd q (z_pos (by omega)), fun _ => ⟨fun q => ?_, fun _ => ⟨fun q => absurd q (z_pos (by omega)), fun _ => ⟨fun q => ?_, fun _ => ?_⟩⟩⟩⟩
  · rw [e3, z_le (by omega) (by omega)] at q; omega
  · rw [e1, z_le (by omega) (by omega)] at q; omega
  · refine ⟨fun q => absurd q (by decide), fun _ => ⟨b, h2, h3, ?_, ?_⟩⟩
    · rw [e1, z_mul, z_add, h4]; exact vpi hl (by omega)
    · rw [e1, z_mul, z_add, z_nn (by omega)]; exact k
theorem T_get0 (h : TE E t b w m) (hd : TD d t w m n) (hr : n ≤ r) (hr2 : r < 2147483648) {p : Int32} (hm : m ≤ 400) {K : Int32 → Dy → Prop} (k : K 0 d) : w_X6_get E t (nI r) p d K := by
  obtain ⟨h1, h2, h3, h4, h5, h6⟩ := h
  obtain ⟨e1, e2, e3, e4⟩ := hd
  have kk : b_X6_get_28 E t (nI r) p K d := ⟨fun _ => k, fun q => absurd rfl q⟩
  refine ⟨h1, fun _ => kk, fun _ => ⟨fun _ => kk, fun q => ?_⟩⟩
  rw [e3, z_le (by omega) hr2] at q; omega
theorem T_set (h : TE E t b w m) (hd : TD d t w m n) (hr : r < n) (hc : c < w) {v : Int32} {K : Dy → Prop} (k : K (pA d b (r * w + c) v)) : w_X6_set E t (nI r) (nI c) v d K := by
  have hl := T_len h (Nat.lt_of_lt_of_le hr hd.2.2.2) hc
  have hm := T_m h
  obtain ⟨h1, h2, h3, h4, h5, h6⟩ := h
  obtain ⟨e1, e2, e3, e4⟩ := hd
  refine ⟨h1, fun q => absurd q (z_pos (by omega)), fun _ => ⟨fun q => ?_, fun _ => ⟨fun q => absurd q (z_pos (by omega)), fun _ => ⟨fun q => ?_, fun _ => ⟨b, h2, h3, ?_, ?_⟩⟩⟩⟩⟩
  · rw [e3, z_le (by omega) (by omega)] at q; omega
  · rw [e1, z_le (by omega) (by omega)] at q; omega
  · rw [e1, z_mul, z_add, h4]; exact vpi hl (by omega)
  · rw [e1, z_mul, z_add, z_nn (by omega)]; exact k
/-- a new row of zeros ahead of row r -/
def opn (g : Nat → Int32) (w n r : Nat) : Nat → Int32 := fun j => if j < r * w then g j else if j < r * w + w then 0 else if j < n * w + w then g (j - w) else g j
theorem T_op2 (h : TE E t b w m) (hn : n < m) (hr : r ≤ n) {K : Int32 → Dy → Prop} {g : Nat → Int32} (hd : TD d t w m n)
    (k : K (nI r) (pI (sA d b (opn g w n r)) t 3 (nI (n + 1)))) :
    ∀ (i : Nat), i ≤ w → ∃ N, l_X6_openAt_74 E t (nI r) K N (nI (r * w)) (nI (r * w + (w - i))) (sA d b (fun j => if j < r * w then g j else if j < r * w + (w - i) then 0 else if r * w + w ≤ j ∧ j < n * w + w then g (j - w) else g j)) := by
  have hm := T_m h
  have hrw : r * w + w ≤ m * w := by
    have : (r + 1) * w ≤ m * w := Nat.mul_le_mul_right w (by omega)
    rw [Nat.add_mul, Nat.one_mul] at this; exact this
  obtain ⟨h1, h2, h3, h4, h5, h6⟩ := h
  obtain ⟨e1, e2, e3, e4⟩ := hd
  intro i
  induction i with
  | zero =>
    intro hi
    refine ⟨1, ?_, ?_⟩
    · intro _
      rw [gI_sA, e3, z_a1]
      have := k
      rw [show sA d b (opn g w n r) = sA d b (fun j => if j < r * w then g j else if j < r * w + (w - 0) then 0 else if r * w + w ≤ j ∧ j < n * w + w then g (j - w) else g j) from sA_eq (fun j => by
        unfold opn
        by_cases q1 : j < r * w
        · rw [if_pos q1, if_pos q1]
        · rw [if_neg q1, if_neg q1]
          by_cases q2 : j < r * w + w
          · rw [if_pos q2, if_pos (by omega)]
          · rw [if_neg q2, if_neg (show ¬ j < r * w + (w - 0) by omega)]
            by_cases q3 : j < n * w + w
            · rw [if_pos q3, if_pos (by omega)]
            · rw [if_neg q3, if_neg (by omega)])] at this
      exact this
    · intro hc
      rw [gI_sA, e1, z_add, z_le (by omega) (by omega)] at hc
      omega
  | succ i ih =>
    intro hi
    obtain ⟨N, hN⟩ := ih (by omega)
    refine ⟨N + 1, ?_, ?_⟩
    · intro hc
      rw [gI_sA, e1, z_add, z_le (by omega) (by omega)] at hc
      omega
    · intro _
      refine ⟨b, h2, h3, ?_, ?_⟩
      · rw [h4]; exact vpi (by omega) (by omega)
      · rw [z_a1, z_nn (by omega), pA_sA, show r * w + (w - (i + 1)) + 1 = r * w + (w - i) by omega]
        rw [show sA d b (fun j => if j = r * w + (w - (i + 1)) then 0 else if j < r * w then g j else if j < r * w + (w - (i + 1)) then 0 else if r * w + w ≤ j ∧ j < n * w + w then g (j - w) else g j) = sA d b (fun j => if j < r * w then g j else if j < r * w + (w - i) then 0 else if r * w + w ≤ j ∧ j < n * w + w then g (j - w) else g j) from sA_eq (fun j => by
          by_cases q1 : j < r * w
          · rw [if_neg (by omega), if_pos q1, if_pos q1]
          · rw [if_neg q1]
            by_cases q0 : j = r * w + (w - (i + 1))
            · rw [if_pos q0, if_neg q1, if_pos (by omega)]
            · rw [if_neg q0, if_neg q1]
              by_cases q2 : j < r * w + (w - i)
              · rw [if_pos q2, if_pos (by omega)]
              · rw [if_neg q2, if_neg (by omega)])]
        exact hN
theorem T_op1 (h : TE E t b w m) (hn : n < m) (hr : r ≤ n) {K : Int32 → Dy → Prop} {g : Nat → Int32} (hd : TD d t w m n)
    (k : K (nI r) (pI (sA d b (opn g w n r)) t 3 (nI (n + 1)))) :
    ∀ (i : Nat), r * w + i ≤ n * w → ∃ N, l_X6_openAt_44 E t (nI r) K N (nI (r * w)) (nI (r * w + i) - 1) (sA d b (fun j => if r * w + i + w ≤ j ∧ j < n * w + w then g (j - w) else g j)) := by
  have hm := T_m h
  have hnw : n * w + w ≤ m * w := by
    have : (n + 1) * w ≤ m * w := Nat.mul_le_mul_right w (by omega)
    rw [Nat.add_mul, Nat.one_mul] at this; exact this
  have hrn : r * w ≤ n * w := Nat.mul_le_mul_right w hr
  have h' := h
  have hd' := hd
  obtain ⟨h1, h2, h3, h4, h5, h6⟩ := h
  obtain ⟨e1, e2, e3, e4⟩ := hd
  intro i
  induction i with
  | zero =>
    intro hi
    refine ⟨1, ?_, ?_⟩
    · intro _
      obtain ⟨N, hN⟩ := T_op2 h' hn hr hd' k w (Nat.le_refl w)
      refine ⟨N, ?_⟩
      rw [show r * w + (w - w) = r * w by omega] at hN
      rw [show sA d b (fun j => if r * w + 0 + w ≤ j ∧ j < n * w + w then g (j - w) else g j) = sA d b (fun j => if j < r * w then g j else if j < r * w then 0 else if r * w + w ≤ j ∧ j < n * w + w then g (j - w) else g j) from sA_eq (fun j => by
        by_cases q1 : j < r * w
        · rw [if_neg (by omega), if_pos q1]
        · rw [if_neg q1, if_neg q1, Nat.add_zero])]
      exact hN
    · intro hc
      rw [Nat.add_zero, z_dec (by omega) (by omega)] at hc
      omega
  | succ i ih =>
    intro hi
    obtain ⟨N, hN⟩ := ih (by omega)
    refine ⟨N + 1, ?_, ?_⟩
    · intro hc
      rw [z_dec (by omega) (by omega)] at hc
      omega
    · intro _
      rw [← Nat.add_assoc, z_m1]
      refine ⟨b, h2, h3, b, h2, h3, ?_, ?_, ?_⟩
      · rw [h4]; exact vpi (by omega) (by omega)
      · rw [gI_sA, e1, z_add, h4]; exact vpi (by omega) (by omega)
      · rw [gI_sA, e1, z_add, z_nn (by omega), z_nn (by omega), gA_sA, pA_sA]
        rw [show nI (r * w + i) + (-1) = nI (r * w + i) - 1 from by rw [Int32.sub_eq_add_neg]]
        rw [show sA d b (fun j => if j = r * w + i + w then (if r * w + i + 1 + w ≤ r * w + i ∧ r * w + i < n * w + w then g (r * w + i - w) else g (r * w + i)) else if r * w + i + 1 + w ≤ j ∧ j < n * w + w then g (j - w) else g j) = sA d b (fun j => if r * w + i + w ≤ j ∧ j < n * w + w then g (j - w) else g j) from sA_eq (fun j => by
          by_cases q0 : j = r * w + i + w
          · rw [if_pos q0, if_neg (by omega), if_pos (by omega), q0, Nat.add_sub_cancel]
          · rw [if_neg q0]
            by_cases q2 : r * w + i + 1 + w ≤ j ∧ j < n * w + w
            · rw [if_pos q2, if_pos (by omega)]
            · rw [if_neg q2, if_neg (by omega)])]
        exact hN
theorem T_openAt (h : TE E t b w m) (hd : TD d t w m n) (hn : n < m) (hr : r ≤ n) {K : Int32 → Dy → Prop} (k : K (nI r) (pI (sA d b (opn (gA d b) w n r)) t 3 (nI (n + 1)))) : w_X6_openAt E t (nI r) d K := by
  have hm := T_m h
  have hnw : n * w + w ≤ m * w := by
    have : (n + 1) * w ≤ m * w := Nat.mul_le_mul_right w (by omega)
    rw [Nat.add_mul, Nat.one_mul] at this; exact this
  have hrn : r * w ≤ n * w := Nat.mul_le_mul_right w hr
  obtain ⟨N, hN⟩ := T_op1 h hn hr hd k (n * w - r * w) (by omega)
  obtain ⟨h1, h2, h3, h4, h5, h6⟩ := h
  obtain ⟨e1, e2, e3, e4⟩ := hd
  refine ⟨h1, fun hc => ?_, fun _ => ⟨fun hc => absurd hc (z_pos (by omega)), fun _ => ⟨fun _ => ⟨N, ?_⟩, fun hc => ?_⟩⟩⟩
  · rw [e2, e3, z_le (by omega) (by omega)] at hc; omega
  · rw [e1, e3, z_mul, z_mul]
    rw [show r * w + (n * w - r * w) = n * w by omega] at hN
    rw [show sA d b (fun j => if n * w + w ≤ j ∧ j < n * w + w then gA d b (j - w) else gA d b j) = d from (sA_eq (fun j => if_neg (by omega))).trans (sA_id d b)] at hN
    exact hN
  · rw [e3, z_le (by omega) (by omega)] at hc; omega
theorem T_open (h : TE E t b w m) (hd : TD d t w m n) (hn : n < m) {K : Int32 → Dy → Prop} (k : K (nI n) (pI (sA d b (opn (gA d b) w n n)) t 3 (nI (n + 1)))) : w_X6_open E t d K :=
  ⟨h.1, by rw [hd.2.2.1]; exact T_openAt h hd hn (Nat.le_refl n) k⟩
/-- where a row of year y comes: behind all of its year and before -/
def yp (g : Nat → Int32) (w : Nat) (y : Int32) : Nat → Nat
  | 0 => 0
  | n + 1 => if g (n * w) ≤ y then n + 1 else yp g w y n
theorem yp_le (g : Nat → Int32) (w : Nat) (y : Int32) (n : Nat) : yp g w y n ≤ n := by
  induction n with
  | zero => exact Nat.le_refl 0
  | succ n ih => unfold yp; split <;> omega
theorem TD_pI3 (hd : TD d t w m n) {k : Nat} (hk : k ≤ m) : TD (pI d t 3 (nI k)) t w m k := by
  obtain ⟨e1, e2, e3, e4⟩ := hd
  exact ⟨by rw [gI_pI_k _ _ _ (by decide)]; exact e1, by rw [gI_pI_k _ _ _ (by decide)]; exact e2, gI_pI _ _ _ _, hk⟩
theorem TD_sA (hd : TD d t w m n) (g : Nat → Int32) (c : Nat) : TD (sA d c g) t w m n := hd
theorem T_openByYear (h : TE E t b w m) (hd : TD d t w m n) (hn : n < m) {y : Int32} {K : Int32 → Dy → Prop} (k : K (nI (yp (gA d b) w y n)) (pA (pI (sA d b (opn (gA d b) w n (yp (gA d b) w y n))) t 3 (nI (n + 1))) b (yp (gA d b) w y n * w) y)) : w_X6_openByYear E t y d K := by
  have hm := T_m h
  refine ⟨h.1, ?_⟩
  rw [hd.2.2.1]
  have fin : ∀ r, r ≤ n → K (nI r) (pA (pI (sA d b (opn (gA d b) w n r)) t 3 (nI (n + 1))) b (r * w) y) → b_X6_openByYear_27 E t y K (nI r) d := by
    intro r hr kk
    refine T_openAt h hd hn hr ?_
    have hd2 : TD (pI (sA d b (opn (gA d b) w n r)) t 3 (nI (n + 1))) t w m (n + 1) := TD_pI3 (TD_sA hd _ _) (by omega)
    exact T_set (c := 0) h hd2 (by omega) h.2.2.2.2.1 (by rw [Nat.add_zero]; exact kk)
  have key : ∀ i, i ≤ n → yp (gA d b) w y n = yp (gA d b) w y i → ∃ N, l_X6_openByYear_5 E t y K N (nI i) d := by
    intro i
    induction i with
    | zero =>
      intro hi he
      refine ⟨1, fun _ => ?_, fun hc => absurd (by decide : (nI 0 : Int32) ≤ 0) hc⟩
      rw [he] at k
      exact fin 0 hi k
    | succ i ih =>
      intro hi he
      by_cases hy : gA d b (i * w) ≤ y
      · refine ⟨1, fun hc => ?_, fun _ => ?_⟩
        · rw [show (0 : Int32) = nI 0 from rfl, z_le (by omega) (by omega)] at hc; omega
        · rw [z_m1]
          refine T_get (c := 0) h hd (by omega) h.2.2.2.2.1 ⟨fun _ => ?_, fun hc => absurd ?_ hc⟩
          · refine fin (i + 1) hi ?_
            have e2 : yp (gA d b) w y (i + 1) = i + 1 := by simp [yp, hy]
            rw [he, e2] at k
            exact k
          · rw [Nat.add_zero]; exact hy
      · have e2 : yp (gA d b) w y (i + 1) = yp (gA d b) w y i := by simp [yp, hy]
        obtain ⟨N, hN⟩ := ih (by omega) (he.trans e2)
        refine ⟨N + 1, fun hc => ?_, fun _ => ?_⟩
        · rw [show (0 : Int32) = nI 0 from rfl, z_le (by omega) (by omega)] at hc; omega
        · rw [z_m1, z_am1]
          refine T_get (c := 0) h hd (by omega) h.2.2.2.2.1 ⟨fun hc => absurd ?_ hy, fun _ => hN⟩
          rw [Nat.add_zero] at hc; exact hc
  exact key n (Nat.le_refl n) rfl
end
