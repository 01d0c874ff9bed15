/-! words for reckoning by rewriting -/
theorem qn_0 : (0 : Int32).toNatClampNeg = 0 := rfl
theorem qv_0 : vp_in 0 4851 = True := eq_true (vpi (k := 0) (by decide) (by decide))
theorem qn_1 : (1 : Int32).toNatClampNeg = 1 := rfl
theorem qv_1 : vp_in 1 4851 = True := eq_true (vpi (k := 1) (by decide) (by decide))
theorem qn_2 : (2 : Int32).toNatClampNeg = 2 := rfl
theorem qv_2 : vp_in 2 4851 = True := eq_true (vpi (k := 2) (by decide) (by decide))
theorem qn_3 : (3 : Int32).toNatClampNeg = 3 := rfl
theorem qv_3 : vp_in 3 4851 = True := eq_true (vpi (k := 3) (by decide) (by decide))
theorem qn_4 : (4 : Int32).toNatClampNeg = 4 := rfl
theorem qv_4 : vp_in 4 4851 = True := eq_true (vpi (k := 4) (by decide) (by decide))
theorem qn_5 : (5 : Int32).toNatClampNeg = 5 := rfl
theorem qv_5 : vp_in 5 4851 = True := eq_true (vpi (k := 5) (by decide) (by decide))
theorem qn_6 : (6 : Int32).toNatClampNeg = 6 := rfl
theorem qv_6 : vp_in 6 4851 = True := eq_true (vpi (k := 6) (by decide) (by decide))
theorem qn_7 : (7 : Int32).toNatClampNeg = 7 := rfl
theorem qv_7 : vp_in 7 4851 = True := eq_true (vpi (k := 7) (by decide) (by decide))
theorem qn_8 : (8 : Int32).toNatClampNeg = 8 := rfl
theorem qv_8 : vp_in 8 4851 = True := eq_true (vpi (k := 8) (by decide) (by decide))
theorem qn_9 : (9 : Int32).toNatClampNeg = 9 := rfl
theorem qv_9 : vp_in 9 4851 = True := eq_true (vpi (k := 9) (by decide) (by decide))
theorem qn_10 : (10 : Int32).toNatClampNeg = 10 := rfl
theorem qv_10 : vp_in 10 4851 = True := eq_true (vpi (k := 10) (by decide) (by decide))
theorem qn_11 : (11 : Int32).toNatClampNeg = 11 := rfl
theorem qv_11 : vp_in 11 4851 = True := eq_true (vpi (k := 11) (by decide) (by decide))
theorem qn_12 : (12 : Int32).toNatClampNeg = 12 := rfl
theorem qv_12 : vp_in 12 4851 = True := eq_true (vpi (k := 12) (by decide) (by decide))
theorem qn_13 : (13 : Int32).toNatClampNeg = 13 := rfl
theorem qv_13 : vp_in 13 4851 = True := eq_true (vpi (k := 13) (by decide) (by decide))
theorem sx_0_1 : ("java/lang/IllegalArgumentException" = "java/lang/UnsupportedOperationException") = False := by decide
theorem sx_0_2 : ("java/lang/IllegalArgumentException" = "java/lang/IndexOutOfBoundsException") = False := by decide
theorem sx_0_3 : ("java/lang/IllegalArgumentException" = "java/util/NoSuchElementException") = False := by decide
theorem sx_1_0 : ("java/lang/UnsupportedOperationException" = "java/lang/IllegalArgumentException") = False := by decide
theorem sx_1_2 : ("java/lang/UnsupportedOperationException" = "java/lang/IndexOutOfBoundsException") = False := by decide
theorem sx_1_3 : ("java/lang/UnsupportedOperationException" = "java/util/NoSuchElementException") = False := by decide
theorem sx_2_0 : ("java/lang/IndexOutOfBoundsException" = "java/lang/IllegalArgumentException") = False := by decide
theorem sx_2_1 : ("java/lang/IndexOutOfBoundsException" = "java/lang/UnsupportedOperationException") = False := by decide
theorem sx_2_3 : ("java/lang/IndexOutOfBoundsException" = "java/util/NoSuchElementException") = False := by decide
theorem sx_3_0 : ("java/util/NoSuchElementException" = "java/lang/IllegalArgumentException") = False := by decide
theorem sx_3_1 : ("java/util/NoSuchElementException" = "java/lang/UnsupportedOperationException") = False := by decide
theorem sx_3_2 : ("java/util/NoSuchElementException" = "java/lang/IndexOutOfBoundsException") = False := by decide
theorem z10 : ((1 : Int32) = 0) = False := by decide
theorem z20 : ((2 : Int32) = 0) = False := by decide
theorem z30 : ((3 : Int32) = 0) = False := by decide
theorem z12 : ((1 : Int32) = 2) = False := by decide
theorem z13 : ((1 : Int32) = 3) = False := by decide
theorem z23 : ((2 : Int32) = 3) = False := by decide
section
variable {x a b : Int32} {n : Nat}
theorem fT {p : Prop} (h : p) : p = True := eq_true h
theorem fF {p : Prop} (h : ¬ p) : p = False := eq_false h
theorem bw_1 (h : bw x a b) : (x < a) = False := eq_false h.1
theorem bw_2 (h : bw x a b) : (b < x) = False := eq_false h.2
theorem bw_3 (h : bw x a b) : (x ≤ b) = True := eq_true (Int32.not_lt.mp h.2)
theorem lx_1 (h : lx x n) (hn : n < 2147483648) : (x < 0) = False := eq_false ((ix_lx hn).mpr h).1
theorem lx_2 (h : lx x n) (hn : n < 2147483648) : (x < nI n) = True := eq_true ((ix_lx hn).mpr h).2
theorem lx_3 (h : lx x n) (hn : n < 2147483648) : (nI n - 1 < x) = False := eq_false ((bw_lx hn).mpr h).2
end
