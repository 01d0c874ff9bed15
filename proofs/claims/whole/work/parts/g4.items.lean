/-! lifts: which huts, in which row -/
theorem sum_one {n v : Nat} {f : Nat → Nat} (hv : v < n) (h : ∀ j, j < n → j ≠ v → f j = 0) : sumN f n = f v := by
  have h1 : ∀ m, m ≤ n → sumN f m = if v < m then f v else 0 := fun m => by
    induction m with
    | zero => intro _; rfl
    | succ m ihm =>
      intro hm
      show sumN f m + f m = _
      rw [ihm (by omega)]
      by_cases e : m = v
      · subst e; rw [if_neg (Nat.lt_irrefl _), if_pos (by omega), Nat.zero_add]
      · rw [h m (by omega) e, Nat.add_zero]
        by_cases q : v < m
        · rw [if_pos q, if_pos (by omega)]
        · rw [if_neg q, if_neg (by omega)]
  rw [h1 n (Nat.le_refl n), if_pos hv]
theorem sumN_add {f g : Nat → Nat} : ∀ {m}, sumN (fun j => f j + g j) m = sumN f m + sumN g m
  | 0 => rfl
  | m + 1 => by show sumN (fun j => f j + g j) m + (f m + g m) = sumN f m + f m + (sumN g m + g m); rw [sumN_add]; omega
theorem cnt_via {n : Nat} {f : Nat → Nat} (hf : ∀ x, x < n → f x < n) (g : Nat → Bool) : ∀ m, m ≤ n → cntN (fun x => g (f x)) m = sumN (fun y => (if g y = true then 1 else 0) * cntN (fun x => decide (f x = y)) m) n
  | 0, _ => by
    rw [show sumN (fun y => (if g y = true then 1 else 0) * cntN (fun x => decide (f x = y)) 0) n = sumN (fun _ => 0) n from sumN_cgr (fun j _ => by show _ * 0 = 0; rw [Nat.mul_zero])]
    have : ∀ m, sumN (fun _ => 0) m = 0 := fun m => by induction m with | zero => rfl | succ m ih2 => show sumN (fun _ => 0) m + 0 = 0; rw [ih2]
    rw [this]; rfl
  | m + 1, hm => by
    have e : ∀ y, y < n → (if g y = true then 1 else 0) * cntN (fun x => decide (f x = y)) (m + 1) = (if g y = true then 1 else 0) * cntN (fun x => decide (f x = y)) m + (if g y = true then 1 else 0) * (if decide (f m = y) = true then 1 else 0) := fun y _ => by
      show _ * (cntN (fun x => decide (f x = y)) m + (if decide (f m = y) = true then 1 else 0)) = _
      rw [Nat.mul_add]
    rw [sumN_cgr e, sumN_add, ← cnt_via hf g m (by omega), sum_one (v := f m) (hf m (by omega)) (fun j _ hj => by rw [if_neg (show ¬ decide (f m = j) = true by simpa using fun z => hj z.symm), Nat.mul_zero])]
    show cntN (fun x => g (f x)) m + (if g (f m) = true then 1 else 0) = _
    simp
theorem all_one {n : Nat} {c : Nat → Nat} (h1 : ∀ y, y < n → 1 ≤ c y) (h2 : sumN c n = n) : ∀ y, y < n → c y = 1 := by
  have lo : ∀ m, m ≤ n → m ≤ sumN c m := fun m => by
    induction m with
    | zero => intro _; exact Nat.le_refl _
    | succ m ihm => intro hm; have := h1 m (by omega); have := ihm (by omega); show m + 1 ≤ sumN c m + c m; omega
  have up : ∀ k, k ≤ n → sumN c (n - k) ≤ n - k := fun k => by
    induction k with
    | zero => intro _; rw [Nat.sub_zero, h2]; exact Nat.le_refl _
    | succ k ihk =>
      intro hk
      have h3 := ihk (by omega)
      have h4 := h1 (n - (k + 1)) (by omega)
      have h5 : sumN c (n - k) = sumN c (n - (k + 1)) + c (n - (k + 1)) := by
        rw [show n - k = (n - (k + 1)) + 1 by omega]; rfl
      omega
  intro y hy
  have a1 := lo y (by omega)
  have a2 := lo (y + 1) (by omega)
  have b1 := up (n - y) (by omega)
  have b2 := up (n - (y + 1)) (by omega)
  rw [show n - (n - y) = y by omega] at b1
  rw [show n - (n - (y + 1)) = y + 1 by omega] at b2
  have : sumN c (y + 1) = sumN c y + c y := rfl
  omega
theorem cnt_perm {n : Nat} {f : Nat → Nat} (hf : ∀ x, x < n → f x < n) (hs : ∀ y, y < n → ∃ x, x < n ∧ f x = y) (g : Nat → Bool) : cntN (fun x => g (f x)) n = cntN g n := by
  have ct : ∀ m, cntN (fun _ => true) m = m := fun m => by induction m with | zero => rfl | succ m ih2 => show cntN (fun _ => true) m + 1 = m + 1; rw [ih2]
  have c1 : ∀ y, y < n → cntN (fun x => decide (f x = y)) n = 1 := by
    refine all_one (fun y hy => ?_) ?_
    · obtain ⟨x, hx, e⟩ := hs y hy
      have : ∀ m, x < m → 1 ≤ cntN (fun x => decide (f x = y)) m := fun m => by
        induction m with
        | zero => intro z; omega
        | succ m ihm =>
          intro z
          show 1 ≤ cntN (fun x => decide (f x = y)) m + (if decide (f m = y) = true then 1 else 0)
          by_cases q : x = m
          · subst q; rw [if_pos (by simpa using e)]; omega
          · have := ihm (by omega); omega
      exact this n hx
    · have := cnt_via hf (fun _ => true) n (Nat.le_refl n)
      rw [ct] at this
      refine Eq.trans (sumN_cgr (fun y _ => ?_)) this.symm
      rw [if_pos rfl, Nat.one_mul]
  rw [cnt_via hf g n (Nat.le_refl n), sumN_cgr (g := fun y => if g y = true then 1 else 0) (fun y hy => by rw [c1 y hy, Nat.mul_one])]
  have : ∀ m, sumN (fun y => if g y = true then 1 else 0) m = cntN g m := fun m => by
    induction m with
    | zero => rfl
    | succ m ihm => show sumN (fun y => if g y = true then 1 else 0) m + (if g m = true then 1 else 0) = cntN g m + (if g m = true then 1 else 0); rw [ihm]
  exact this n
/-- the huts that go, by their places up to j -/
def itL (X : Nat) (S : RS) (j : Nat) : List Nat := (List.range j).filter (fun i => X.testBit (rsO S i))
theorem it_len (X : Nat) (S : RS) : ∀ j, (itL X S j).length = cntN (fun i => X.testBit (rsO S i)) j
  | 0 => rfl
  | j + 1 => by
    show (itL X S (j + 1)).length = cntN (fun i => X.testBit (rsO S i)) j + (if X.testBit (rsO S j) = true then 1 else 0)
    unfold itL
    rw [flt_range_succ, List.length_append, ← it_len X S j]
    by_cases q : X.testBit (rsO S j) = true
    · rw [if_pos q, if_pos q]; rfl
    · rw [if_neg q, if_neg q]; rfl
theorem it_7 {X : Nat} {S : RS} {np nh : Nat} (ok : rsOK np nh S) (hX : X < 2 ^ nh) (hh : nh ≤ 10) (h7 : popN X 12 ≤ 7) : (itL X S nh).length ≤ 7 := by
  rw [it_len, cnt_perm ok.2.2.1 ok.2.2.2]
  have : cntN (fun y => X.testBit y) nh = popN X nh := by
    have : ∀ m, cntN (fun y => X.testBit y) m = popN X m := fun m => by
      induction m with
      | zero => rfl
      | succ m ihm => show cntN (fun y => X.testBit y) m + (if X.testBit m = true then 1 else 0) = popN X m + (if X.testBit m = true then 1 else 0); rw [ihm]
    exact this nh
  rw [this, ← pop_hi hX 12 (by omega)]; exact h7
theorem it_snoc {X : Nat} {S : RS} {j k : Nat} (q : X.testBit (rsO S j) = true) : (itL X S (j + 1)).length = (itL X S j).length + 1 ∧ (k < (itL X S j).length → (itL X S (j + 1)).getD k 0 = (itL X S j).getD k 0) ∧ (itL X S (j + 1)).getD (itL X S j).length 0 = j := by
  have e : itL X S (j + 1) = itL X S j ++ [j] := by unfold itL; rw [flt_range_succ, if_pos q]
  rw [e]
  refine ⟨by rw [List.length_append]; rfl, fun hk => ?_, ?_⟩
  · rw [List.getD_eq_getElem?_getD, List.getElem?_append_left hk, ← List.getD_eq_getElem?_getD]
  · rw [List.getD_eq_getElem?_getD, List.getElem?_append_right (Nat.le_refl _), Nat.sub_self]; rfl
theorem it_skip {X : Nat} {S : RS} {j : Nat} (q : X.testBit (rsO S j) = false) : itL X S (j + 1) = itL X S j := by
  unfold itL; rw [flt_range_succ, if_neg (by rw [q]; decide), List.append_nil]
theorem it_lt {X : Nat} {S : RS} {j k : Nat} (hk : k < (itL X S j).length) : (itL X S j).getD k 0 < j := by
  rw [getD_lt hk]
  have := List.getElem_mem hk
  unfold itL at this
  have := (List.mem_filter.mp this).1
  exact List.mem_range.mp this
theorem it_srt {X : Nat} {S : RS} {j x k : Nat} (hx : x < k) (hk : k < (itL X S j).length) : (itL X S j).getD x 0 < (itL X S j).getD k 0 := by
  have pw : (itL X S j).Pairwise (· < ·) := List.Pairwise.filter _ List.pairwise_lt_range
  rw [getD_lt hk, getD_lt (show x < (itL X S j).length by omega)]
  exact List.pairwise_iff_getElem.mp pw x k (by omega) hk hx
def huI (X : Nat) (S : RS) (nh k : Nat) : Nat := rsO S ((itL X S nh).getD k 0)
def rkF (how : Int32) (S : RS) (i : Nat) : Int32 := if how = 0 then nI i else if how = 1 then -(nI i) else nI (rsO S i)
def rkI (how : Int32) (X : Nat) (S : RS) (nh k : Nat) : Int32 := rkF how S ((itL X S nh).getD k 0)
def szI (W : Nat → Int32) (X : Nat) (S : RS) (nh k : Nat) : Nat := if k < (itL X S nh).length then cnt W (50 + 7 * huI X S nh k) else 0
theorem neg_lt {a b : Nat} (ha : a < 1000) (hb : b < 1000) : -(nI a) < -(nI b) ↔ b < a := by
  rw [Int32.lt_iff_toInt_lt, Int32.toInt_neg, Int32.toInt_neg, z_int (by omega), z_int (by omega), bm32 (by omega) (by omega), bm32 (by omega) (by omega)]; omega
theorem rk_ah {X : Nat} {S : RS} {np nh : Nat} {how : Int32} (ok : rsOK np nh S) (hh : nh ≤ 10) (hw : how = 0 ∨ how = 1 ∨ how = 2) {x k : Nat} (hx : x < k) (hk : k < (itL X S nh).length) : ahB how (huI X S nh) x k = true ↔ rkI how X S nh x < rkI how X S nh k := by
  have p1 := it_lt (X := X) (S := S) (j := nh) (k := x) (by omega)
  have p2 := it_lt hk
  have p3 := it_srt hx hk
  have q1 := ok.2.2.1 _ p1
  have q2 := ok.2.2.1 _ p2
  unfold ahB rkI rkF huI
  rcases hw with rfl | rfl | rfl
  · rw [if_pos rfl, if_pos rfl, z_lt (by omega) (by omega)]; simp; exact p3
  · rw [if_neg (by decide), if_pos rfl, if_neg (by decide), if_pos rfl, neg_lt (by omega) (by omega)]
    refine ⟨fun z => ?_, fun z => by omega⟩
    rw [show decide ((1 : Int32) = 0) = false from by decide, show decide ((1 : Int32) = 2) = false from by decide] at z
    exact nomatch z
  · rw [if_neg (by decide), if_neg (by decide), if_neg (by decide), if_neg (by decide), z_lt (by omega) (by omega)]; simp
theorem sz_it {W : Nat → Int32} {X : Nat} {S : RS} {np nh : Nat} (hW : WI W) (hn : nh = cnt W 1) (ok : rsOK np nh S) : (∀ k, k < (itL X S nh).length → W (50 + 7 * huI X S nh k) = nI (szI W X S nh k)) ∧ ∀ k, szI W X S nh k ≤ 9 := by
  have b : ∀ k, k < (itL X S nh).length → W (50 + 7 * huI X S nh k) = nI (cnt W (50 + 7 * huI X S nh k)) ∧ cnt W (50 + 7 * huI X S nh k) ≤ 9 := fun k hk => by
    have h1 := ok.2.2.1 _ (it_lt hk)
    obtain ⟨o1, -⟩ := hW.2.2 1 (by decide) (huI X S nh k) (show huI X S nh k < cnt W 1 by rw [← hn]; exact h1)
    have o1 : bw (W (50 + 7 * huI X S nh k + 0)) 1 9 := o1
    obtain ⟨z, h1, h2, e⟩ := bw_n (a := 1) (b := 9) o1 (by decide) (by decide)
    rw [Nat.add_zero] at e
    unfold cnt; rw [e, z_nn (by omega)]; exact ⟨rfl, h2⟩
  refine ⟨fun k hk => ?_, fun k => ?_⟩
  · unfold szI; rw [if_pos hk]; exact (b k hk).1
  · unfold szI; split
    · next hk => exact (b k hk).2
    · omega
