/-! storms: what they tell of lines and seas -/
theorem an1 (x : Int32) : x &&& 1 = 0 ∨ x &&& 1 = 1 := by
  have h : (x &&& 1).toBitVec = BitVec.setWidth 32 (BitVec.ofBool (x.toBitVec.getLsbD 0)) := by
    show x.toBitVec &&& 1#32 = _
    exact BitVec.and_one_eq_setWidth_ofBool_getLsbD
  cases hb : x.toBitVec.getLsbD 0
  · left; apply Int32.toBitVec_inj.mp; rw [h, hb]; rfl
  · right; apply Int32.toBitVec_inj.mp; rw [h, hb]; rfl
def bitB (m : Int32) (h : Nat) : Bool := decide (((m >>> (nI h &&& 31)) &&& 1) = 1)
abbrev F4 : Type := Nat → Nat → Int32
def stp4 (b : Bool) (S : F4) (s h : Nat) : F4 :=
  if b = true then u2 (u2 S 2 s (if S 2 s < S 0 h + 1 then S 0 h + 1 else S 2 s)) 1 h (if S 3 s - 1 < S 1 h then S 3 s - 1 else S 1 h)
  else u2 (u2 S 0 h (if S 0 h < S 2 s then S 2 s else S 0 h)) 3 s (if S 1 h < S 3 s then S 1 h else S 3 s)
abbrev ok4 (S : F4) (s h : Nat) : Prop := ¬ S 3 s < S 2 s ∧ ¬ S 1 h < S 0 h
abbrev sam (S S' : F4) (s h : Nat) : Prop := S' 2 s = S 2 s ∧ S' 3 s = S 3 s ∧ S' 0 h = S 0 h ∧ S' 1 h = S 1 h
def run4 (B : Nat → Nat → Bool) : List (Nat × Nat) → F4 → Int32 → Option (F4 × Int32)
  | [], S, m => some (S, m)
  | q :: P, S, m => if ok4 (stp4 (B q.1 q.2) S q.1 q.2) q.1 q.2 then run4 B P (stp4 (B q.1 q.2) S q.1 q.2) (if m = 0 ∧ sam S (stp4 (B q.1 q.2) S q.1 q.2) q.1 q.2 then 0 else 1) else none
def rw4 (s nh i : Nat) : List (Nat × Nat) := (List.range' i (nh - i)).map (fun h => (s, h))
def pl4 (kn : Nat → Bool) (ns nh s : Nat) : List (Nat × Nat) := (List.range' s (ns - s)).flatMap (fun s => if kn s = true then rw4 s nh 0 else [])
theorem rw4_c {s nh i : Nat} (h : i < nh) : rw4 s nh i = (s, i) :: rw4 s nh (i + 1) := by
  unfold rw4
  rw [show nh - i = (nh - (i + 1)) + 1 by omega, List.range'_succ]; rfl
theorem rw4_e {s nh : Nat} : rw4 s nh nh = [] := by unfold rw4; rw [Nat.sub_self]; rfl
theorem pl4_c {kn : Nat → Bool} {ns nh s : Nat} (h : s < ns) : pl4 kn ns nh s = (if kn s = true then rw4 s nh 0 else []) ++ pl4 kn ns nh (s + 1) := by
  unfold pl4
  rw [show ns - s = (ns - (s + 1)) + 1 by omega, List.range'_succ]; rfl
theorem pl4_e {kn : Nat → Bool} {ns nh : Nat} : pl4 kn ns nh ns = [] := by unfold pl4; rw [Nat.sub_self]; rfl
def it4 (B : Nat → Nat → Bool) (P : List (Nat × Nat)) : Nat → F4 → Option F4
  | 0, S => some S
  | k + 1, S => match run4 B P S 0 with
    | none => none
    | some (S', m) => if m = 0 then some S' else it4 B P k S'
def gd4 (ns nh : Nat) (S : F4) : Prop := (∀ h, h < nh → 0 ≤ (S 0 h).toInt ∧ (S 0 h).toInt ≤ (S 1 h).toInt ∧ (S 1 h).toInt ≤ 99) ∧ (∀ s, s < ns → 0 ≤ (S 2 s).toInt ∧ (S 2 s).toInt ≤ (S 3 s).toInt ∧ (S 3 s).toInt ≤ 100)
theorem i_a1 {x : Int32} (h1 : -100 ≤ x.toInt) (h2 : x.toInt ≤ 1000) : (x + 1).toInt = x.toInt + 1 := by
  rw [Int32.toInt_add, show (1 : Int32).toInt = 1 from rfl]
  exact Int.bmod_eq_of_le (by omega) (by omega)
theorem i_s1 {x : Int32} (h1 : -100 ≤ x.toInt) (h2 : x.toInt ≤ 1000) : (x - 1).toInt = x.toInt - 1 := by
  rw [Int32.toInt_sub, show (1 : Int32).toInt = 1 from rfl]
  exact Int.bmod_eq_of_le (by omega) (by omega)
theorem stp_gd {b : Bool} {S : F4} {ns nh s h : Nat} (g : gd4 ns nh S) (hs : s < ns) (hh : h < nh) (ok : ok4 (stp4 b S s h) s h) : gd4 ns nh (stp4 b S s h) := by
  obtain ⟨g1, g2⟩ := g
  have a1 := g1 h hh
  have a2 := g2 s hs
  have ea : (S 0 h + 1).toInt = (S 0 h).toInt + 1 := i_a1 (by omega) (by omega)
  have es : (S 3 s - 1).toInt = (S 3 s).toInt - 1 := i_s1 (by omega) (by omega)
  obtain ⟨o1, o2⟩ := ok
  unfold stp4 at *
  cases b
  · simp only [Bool.false_eq_true, if_false] at *
    refine ⟨fun q hq => ?_, fun q hq => ?_⟩
    · have b1 := g1 q hq
      simp only [u2] at o1 o2 ⊢
      by_cases e : q = h
      · subst e
        simp only [if_true, show ((0 : Nat) = 3) = False from by simp, show ((1 : Nat) = 3) = False from by simp, show ((1 : Nat) = 0) = False from by simp, if_false] at o1 o2 ⊢
        rw [i_lt] at o2
        split at o2 <;> split <;> (try rw [i_lt] at *) <;> omega
      · simp [e]; omega
    · have b1 := g2 q hq
      simp only [u2] at o1 o2 ⊢
      by_cases e : q = s
      · subst e
        simp only [if_true, show ((2 : Nat) = 3) = False from by simp, show ((2 : Nat) = 0) = False from by simp, show ((3 : Nat) = 0) = False from by simp, if_false] at o1 o2 ⊢
        rw [i_lt] at o1
        split at o1 <;> split <;> (try rw [i_lt] at *) <;> omega
      · simp [e]; omega
  · simp only [if_true] at *
    refine ⟨fun q hq => ?_, fun q hq => ?_⟩
    · have b1 := g1 q hq
      simp only [u2] at o1 o2 ⊢
      by_cases e : q = h
      · subst e
        simp only [if_true, show ((0 : Nat) = 1) = False from by simp, show ((0 : Nat) = 2) = False from by simp, show ((1 : Nat) = 2) = False from by simp, if_false] at o1 o2 ⊢
        rw [i_lt] at o2
        split at o2 <;> split <;> (try rw [i_lt] at *) <;> omega
      · simp [e]; omega
    · have b1 := g2 q hq
      simp only [u2] at o1 o2 ⊢
      by_cases e : q = s
      · subst e
        simp only [if_true, show ((2 : Nat) = 1) = False from by simp, show ((3 : Nat) = 1) = False from by simp, show ((3 : Nat) = 2) = False from by simp, if_false] at o1 o2 ⊢
        rw [i_lt] at o1
        split at o1 <;> split <;> (try rw [i_lt] at *) <;> omega
      · simp [e]; omega
