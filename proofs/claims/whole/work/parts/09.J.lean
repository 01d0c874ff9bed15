def w_J6_bitCount_0f7a4 (E : En) (p0 : Int32) (d : Dy) (K : Int32 → Dy → Prop) : Prop := K ((((((((p0 - (((p0.toUInt32 >>> ((1 : Int32).toUInt32 &&& Int32.toUInt32 31)).toInt32) &&& 1431655765)) &&& 858993459) + ((((p0 - (((p0.toUInt32 >>> ((1 : Int32).toUInt32 &&& Int32.toUInt32 31)).toInt32) &&& 1431655765)).toUInt32 >>> ((2 : Int32).toUInt32 &&& Int32.toUInt32 31)).toInt32) &&& 858993459)) + (((((p0 - (((p0.toUInt32 >>> ((1 : Int32).toUInt32 &&& Int32.toUInt32 31)).toInt32) &&& 1431655765)) &&& 858993459) + ((((p0 - (((p0.toUInt32 >>> ((1 : Int32).toUInt32 &&& Int32.toUInt32 31)).toInt32) &&& 1431655765)).toUInt32 >>> ((2 : Int32).toUInt32 &&& Int32.toUInt32 31)).toInt32) &&& 858993459)).toUInt32 >>> ((4 : Int32).toUInt32 &&& Int32.toUInt32 31)).toInt32)) &&& 252645135) + (((((((p0 - (((p0.toUInt32 >>> ((1 : Int32).toUInt32 &&& Int32.toUInt32 31)).toInt32) &&& 1431655765)) &&& 858993459) + ((((p0 - (((p0.toUInt32 >>> ((1 : Int32).toUInt32 &&& Int32.toUInt32 31)).toInt32) &&& 1431655765)).toUInt32 >>> ((2 : Int32).toUInt32 &&& Int32.toUInt32 31)).toInt32) &&& 858993459)) + (((((p0 - (((p0.toUInt32 >>> ((1 : Int32).toUInt32 &&& Int32.toUInt32 31)).toInt32) &&& 1431655765)) &&& 858993459) + ((((p0 - (((p0.toUInt32 >>> ((1 : Int32).toUInt32 &&& Int32.toUInt32 31)).toInt32) &&& 1431655765)).toUInt32 >>> ((2 : Int32).toUInt32 &&& Int32.toUInt32 31)).toInt32) &&& 858993459)).toUInt32 >>> ((4 : Int32).toUInt32 &&& Int32.toUInt32 31)).toInt32)) &&& 252645135).toUInt32 >>> ((8 : Int32).toUInt32 &&& Int32.toUInt32 31)).toInt32)) + ((((((((p0 - (((p0.toUInt32 >>> ((1 : Int32).toUInt32 &&& Int32.toUInt32 31)).toInt32) &&& 1431655765)) &&& 858993459) + ((((p0 - (((p0.toUInt32 >>> ((1 : Int32).toUInt32 &&& Int32.toUInt32 31)).toInt32) &&& 1431655765)).toUInt32 >>> ((2 : Int32).toUInt32 &&& Int32.toUInt32 31)).toInt32) &&& 858993459)) + (((((p0 - (((p0.toUInt32 >>> ((1 : Int32).toUInt32 &&& Int32.toUInt32 31)).toInt32) &&& 1431655765)) &&& 858993459) + ((((p0 - (((p0.toUInt32 >>> ((1 : Int32).toUInt32 &&& Int32.toUInt32 31)).toInt32) &&& 1431655765)).toUInt32 >>> ((2 : Int32).toUInt32 &&& Int32.toUInt32 31)).toInt32) &&& 858993459)).toUInt32 >>> ((4 : Int32).toUInt32 &&& Int32.toUInt32 31)).toInt32)) &&& 252645135) + (((((((p0 - (((p0.toUInt32 >>> ((1 : Int32).toUInt32 &&& Int32.toUInt32 31)).toInt32) &&& 1431655765)) &&& 858993459) + ((((p0 - (((p0.toUInt32 >>> ((1 : Int32).toUInt32 &&& Int32.toUInt32 31)).toInt32) &&& 1431655765)).toUInt32 >>> ((2 : Int32).toUInt32 &&& Int32.toUInt32 31)).toInt32) &&& 858993459)) + (((((p0 - (((p0.toUInt32 >>> ((1 : Int32).toUInt32 &&& Int32.toUInt32 31)).toInt32) &&& 1431655765)) &&& 858993459) + ((((p0 - (((p0.toUInt32 >>> ((1 : Int32).toUInt32 &&& Int32.toUInt32 31)).toInt32) &&& 1431655765)).toUInt32 >>> ((2 : Int32).toUInt32 &&& Int32.toUInt32 31)).toInt32) &&& 858993459)).toUInt32 >>> ((4 : Int32).toUInt32 &&& Int32.toUInt32 31)).toInt32)) &&& 252645135).toUInt32 >>> ((8 : Int32).toUInt32 &&& Int32.toUInt32 31)).toInt32)).toUInt32 >>> ((16 : Int32).toUInt32 &&& Int32.toUInt32 31)).toInt32)) &&& 63) d
abbrev rm_J6_bitCount_0f7a4 : Room := { frames := 0, cells := 0, slots := 0, locals := 0 }
set_option maxRecDepth 100000 in
set_option maxHeartbeats 4000000 in
theorem m_J6_bitCount_0f7a4 (l : Launch) (D : va_G) (cs : Nat → ClassId) (E : En) (d : Dy) (sz : Nat) (p0 : Int32) (K : Int32 → Dy → Prop) : CI l yJ6_bitCount_0f7a4 (.code yJ6_bitCount_0f7a4 cJ6_bitCount_0f7a4 1 (some .int) :: wsL_law) rm_J6_bitCount_0f7a4 D cs E d sz [.int p0] (w_J6_bitCount_0f7a4 E p0 d K) K := by
  refine e_of (cc := cJ6_bitCount_0f7a4) (maxL := 1) (ret := (some .int)) (own := RJ6) (by decide) rfl rfl (Nat.le_of_ble_eq_true rfl) ?_
  intro p e s m below meth c S hr hlocks hsz H locs hw h ls hl
  have hl : lv_has ls 1 [(0, .int p0)] := hl
  unfold w_J6_bitCount_0f7a4 at h
  refine lv_iload_n S.1 S.2.1 (dd_at ddJ6_bitCount_0f7a4 0 rfl) rfl (lv_at hl 0 rfl) ?_
  refine lv_iload_n S.1 S.2.1 (dd_at ddJ6_bitCount_0f7a4 1 rfl) rfl (lv_at hl 0 rfl) ?_
  refine lv_iconst (v := 1) S.1 S.2.1 (dd_at ddJ6_bitCount_0f7a4 2 rfl) (by decide) ?_
  refine lv_iushr S.1 S.2.1 (dd_at ddJ6_bitCount_0f7a4 3 rfl) rfl ?_
  refine lv_ldcw (v := 1431655765) S.1 S.2.1 S.2.2.2.1 (S.2.2.2.2 _ (List.mem_cons_of_mem _ wg727)) (dd_at ddJ6_bitCount_0f7a4 4 rfl) ?_
  refine lv_iand S.1 S.2.1 (dd_at ddJ6_bitCount_0f7a4 5 rfl) ?_
  refine lv_isub S.1 S.2.1 (dd_at ddJ6_bitCount_0f7a4 6 rfl) ?_
  refine lv_istore_n (lv' := [(0, .int (p0 - (((p0.toUInt32 >>> ((1 : Int32).toUInt32 &&& Int32.toUInt32 31)).toInt32) &&& 1431655765)))]) S.1 S.2.1 (dd_at ddJ6_bitCount_0f7a4 7 rfl) rfl hl (by decide) rfl (fun ls hl => ?_)
  refine lv_iload_n S.1 S.2.1 (dd_at ddJ6_bitCount_0f7a4 8 rfl) rfl (lv_at hl 0 rfl) ?_
  refine lv_ldcw (v := 858993459) S.1 S.2.1 S.2.2.2.1 (S.2.2.2.2 _ (List.mem_cons_of_mem _ wg728)) (dd_at ddJ6_bitCount_0f7a4 9 rfl) ?_
  refine lv_iand S.1 S.2.1 (dd_at ddJ6_bitCount_0f7a4 10 rfl) ?_
  refine lv_iload_n S.1 S.2.1 (dd_at ddJ6_bitCount_0f7a4 11 rfl) rfl (lv_at hl 0 rfl) ?_
  refine lv_iconst (v := 2) S.1 S.2.1 (dd_at ddJ6_bitCount_0f7a4 12 rfl) (by decide) ?_
  refine lv_iushr S.1 S.2.1 (dd_at ddJ6_bitCount_0f7a4 13 rfl) rfl ?_
  refine lv_ldcw (v := 858993459) S.1 S.2.1 S.2.2.2.1 (S.2.2.2.2 _ (List.mem_cons_of_mem _ wg728)) (dd_at ddJ6_bitCount_0f7a4 14 rfl) ?_
  refine lv_iand S.1 S.2.1 (dd_at ddJ6_bitCount_0f7a4 15 rfl) ?_
  refine lv_iadd S.1 S.2.1 (dd_at ddJ6_bitCount_0f7a4 16 rfl) ?_
  refine lv_istore_n (lv' := [(0, .int (((p0 - (((p0.toUInt32 >>> ((1 : Int32).toUInt32 &&& Int32.toUInt32 31)).toInt32) &&& 1431655765)) &&& 858993459) + ((((p0 - (((p0.toUInt32 >>> ((1 : Int32).toUInt32 &&& Int32.toUInt32 31)).toInt32) &&& 1431655765)).toUInt32 >>> ((2 : Int32).toUInt32 &&& Int32.toUInt32 31)).toInt32) &&& 858993459)))]) S.1 S.2.1 (dd_at ddJ6_bitCount_0f7a4 17 rfl) rfl hl (by decide) rfl (fun ls hl => ?_)
  refine lv_iload_n S.1 S.2.1 (dd_at ddJ6_bitCount_0f7a4 18 rfl) rfl (lv_at hl 0 rfl) ?_
  refine lv_iload_n S.1 S.2.1 (dd_at ddJ6_bitCount_0f7a4 19 rfl) rfl (lv_at hl 0 rfl) ?_
  refine lv_iconst (v := 4) S.1 S.2.1 (dd_at ddJ6_bitCount_0f7a4 20 rfl) (by decide) ?_
  refine lv_iushr S.1 S.2.1 (dd_at ddJ6_bitCount_0f7a4 21 rfl) rfl ?_
  refine lv_iadd S.1 S.2.1 (dd_at ddJ6_bitCount_0f7a4 22 rfl) ?_
  refine lv_ldcw (v := 252645135) S.1 S.2.1 S.2.2.2.1 (S.2.2.2.2 _ (List.mem_cons_of_mem _ wg729)) (dd_at ddJ6_bitCount_0f7a4 23 rfl) ?_
  refine lv_iand S.1 S.2.1 (dd_at ddJ6_bitCount_0f7a4 24 rfl) ?_
  refine lv_istore_n (lv' := [(0, .int (((((p0 - (((p0.toUInt32 >>> ((1 : Int32).toUInt32 &&& Int32.toUInt32 31)).toInt32) &&& 1431655765)) &&& 858993459) + ((((p0 - (((p0.toUInt32 >>> ((1 : Int32).toUInt32 &&& Int32.toUInt32 31)).toInt32) &&& 1431655765)).toUInt32 >>> ((2 : Int32).toUInt32 &&& Int32.toUInt32 31)).toInt32) &&& 858993459)) + (((((p0 - (((p0.toUInt32 >>> ((1 : Int32).toUInt32 &&& Int32.toUInt32 31)).toInt32) &&& 1431655765)) &&& 858993459) + ((((p0 - (((p0.toUInt32 >>> ((1 : Int32).toUInt32 &&& Int32.toUInt32 31)).toInt32) &&& 1431655765)).toUInt32 >>> ((2 : Int32).toUInt32 &&& Int32.toUInt32 31)).toInt32) &&& 858993459)).toUInt32 >>> ((4 : Int32).toUInt32 &&& Int32.toUInt32 31)).toInt32)) &&& 252645135))]) S.1 S.2.1 (dd_at ddJ6_bitCount_0f7a4 25 rfl) rfl hl (by decide) rfl (fun ls hl => ?_)
  refine lv_iload_n S.1 S.2.1 (dd_at ddJ6_bitCount_0f7a4 26 rfl) rfl (lv_at hl 0 rfl) ?_
  refine lv_iload_n S.1 S.2.1 (dd_at ddJ6_bitCount_0f7a4 27 rfl) rfl (lv_at hl 0 rfl) ?_
  refine lv_bipush (v := 8) S.1 S.2.1 (dd_at ddJ6_bitCount_0f7a4 28 rfl) (by decide) ?_
  refine lv_iushr S.1 S.2.1 (dd_at ddJ6_bitCount_0f7a4 29 rfl) rfl ?_
  refine lv_iadd S.1 S.2.1 (dd_at ddJ6_bitCount_0f7a4 30 rfl) ?_
  refine lv_istore_n (lv' := [(0, .int ((((((p0 - (((p0.toUInt32 >>> ((1 : Int32).toUInt32 &&& Int32.toUInt32 31)).toInt32) &&& 1431655765)) &&& 858993459) + ((((p0 - (((p0.toUInt32 >>> ((1 : Int32).toUInt32 &&& Int32.toUInt32 31)).toInt32) &&& 1431655765)).toUInt32 >>> ((2 : Int32).toUInt32 &&& Int32.toUInt32 31)).toInt32) &&& 858993459)) + (((((p0 - (((p0.toUInt32 >>> ((1 : Int32).toUInt32 &&& Int32.toUInt32 31)).toInt32) &&& 1431655765)) &&& 858993459) + ((((p0 - (((p0.toUInt32 >>> ((1 : Int32).toUInt32 &&& Int32.toUInt32 31)).toInt32) &&& 1431655765)).toUInt32 >>> ((2 : Int32).toUInt32 &&& Int32.toUInt32 31)).toInt32) &&& 858993459)).toUInt32 >>> ((4 : Int32).toUInt32 &&& Int32.toUInt32 31)).toInt32)) &&& 252645135) + (((((((p0 - (((p0.toUInt32 >>> ((1 : Int32).toUInt32 &&& Int32.toUInt32 31)).toInt32) &&& 1431655765)) &&& 858993459) + ((((p0 - (((p0.toUInt32 >>> ((1 : Int32).toUInt32 &&& Int32.toUInt32 31)).toInt32) &&& 1431655765)).toUInt32 >>> ((2 : Int32).toUInt32 &&& Int32.toUInt32 31)).toInt32) &&& 858993459)) + (((((p0 - (((p0.toUInt32 >>> ((1 : Int32).toUInt32 &&& Int32.toUInt32 31)).toInt32) &&& 1431655765)) &&& 858993459) + ((((p0 - (((p0.toUInt32 >>> ((1 : Int32).toUInt32 &&& Int32.toUInt32 31)).toInt32) &&& 1431655765)).toUInt32 >>> ((2 : Int32).toUInt32 &&& Int32.toUInt32 31)).toInt32) &&& 858993459)).toUInt32 >>> ((4 : Int32).toUInt32 &&& Int32.toUInt32 31)).toInt32)) &&& 252645135).toUInt32 >>> ((8 : Int32).toUInt32 &&& Int32.toUInt32 31)).toInt32)))]) S.1 S.2.1 (dd_at ddJ6_bitCount_0f7a4 31 rfl) rfl hl (by decide) rfl (fun ls hl => ?_)
  refine lv_iload_n S.1 S.2.1 (dd_at ddJ6_bitCount_0f7a4 32 rfl) rfl (lv_at hl 0 rfl) ?_
  refine lv_iload_n S.1 S.2.1 (dd_at ddJ6_bitCount_0f7a4 33 rfl) rfl (lv_at hl 0 rfl) ?_
  refine lv_bipush (v := 16) S.1 S.2.1 (dd_at ddJ6_bitCount_0f7a4 34 rfl) (by decide) ?_
  refine lv_iushr S.1 S.2.1 (dd_at ddJ6_bitCount_0f7a4 35 rfl) rfl ?_
  refine lv_iadd S.1 S.2.1 (dd_at ddJ6_bitCount_0f7a4 36 rfl) ?_
  refine lv_istore_n (lv' := [(0, .int (((((((p0 - (((p0.toUInt32 >>> ((1 : Int32).toUInt32 &&& Int32.toUInt32 31)).toInt32) &&& 1431655765)) &&& 858993459) + ((((p0 - (((p0.toUInt32 >>> ((1 : Int32).toUInt32 &&& Int32.toUInt32 31)).toInt32) &&& 1431655765)).toUInt32 >>> ((2 : Int32).toUInt32 &&& Int32.toUInt32 31)).toInt32) &&& 858993459)) + (((((p0 - (((p0.toUInt32 >>> ((1 : Int32).toUInt32 &&& Int32.toUInt32 31)).toInt32) &&& 1431655765)) &&& 858993459) + ((((p0 - (((p0.toUInt32 >>> ((1 : Int32).toUInt32 &&& Int32.toUInt32 31)).toInt32) &&& 1431655765)).toUInt32 >>> ((2 : Int32).toUInt32 &&& Int32.toUInt32 31)).toInt32) &&& 858993459)).toUInt32 >>> ((4 : Int32).toUInt32 &&& Int32.toUInt32 31)).toInt32)) &&& 252645135) + (((((((p0 - (((p0.toUInt32 >>> ((1 : Int32).toUInt32 &&& Int32.toUInt32 31)).toInt32) &&& 1431655765)) &&& 858993459) + ((((p0 - (((p0.toUInt32 >>> ((1 : Int32).toUInt32 &&& Int32.toUInt32 31)).toInt32) &&& 1431655765)).toUInt32 >>> ((2 : Int32).toUInt32 &&& Int32.toUInt32 31)).toInt32) &&& 858993459)) + (((((p0 - (((p0.toUInt32 >>> ((1 : Int32).toUInt32 &&& Int32.toUInt32 31)).toInt32) &&& 1431655765)) &&& 858993459) + ((((p0 - (((p0.toUInt32 >>> ((1 : Int32).toUInt32 &&& Int32.toUInt32 31)).toInt32) &&& 1431655765)).toUInt32 >>> ((2 : Int32).toUInt32 &&& Int32.toUInt32 31)).toInt32) &&& 858993459)).toUInt32 >>> ((4 : Int32).toUInt32 &&& Int32.toUInt32 31)).toInt32)) &&& 252645135).toUInt32 >>> ((8 : Int32).toUInt32 &&& Int32.toUInt32 31)).toInt32)) + ((((((((p0 - (((p0.toUInt32 >>> ((1 : Int32).toUInt32 &&& Int32.toUInt32 31)).toInt32) &&& 1431655765)) &&& 858993459) + ((((p0 - (((p0.toUInt32 >>> ((1 : Int32).toUInt32 &&& Int32.toUInt32 31)).toInt32) &&& 1431655765)).toUInt32 >>> ((2 : Int32).toUInt32 &&& Int32.toUInt32 31)).toInt32) &&& 858993459)) + (((((p0 - (((p0.toUInt32 >>> ((1 : Int32).toUInt32 &&& Int32.toUInt32 31)).toInt32) &&& 1431655765)) &&& 858993459) + ((((p0 - (((p0.toUInt32 >>> ((1 : Int32).toUInt32 &&& Int32.toUInt32 31)).toInt32) &&& 1431655765)).toUInt32 >>> ((2 : Int32).toUInt32 &&& Int32.toUInt32 31)).toInt32) &&& 858993459)).toUInt32 >>> ((4 : Int32).toUInt32 &&& Int32.toUInt32 31)).toInt32)) &&& 252645135) + (((((((p0 - (((p0.toUInt32 >>> ((1 : Int32).toUInt32 &&& Int32.toUInt32 31)).toInt32) &&& 1431655765)) &&& 858993459) + ((((p0 - (((p0.toUInt32 >>> ((1 : Int32).toUInt32 &&& Int32.toUInt32 31)).toInt32) &&& 1431655765)).toUInt32 >>> ((2 : Int32).toUInt32 &&& Int32.toUInt32 31)).toInt32) &&& 858993459)) + (((((p0 - (((p0.toUInt32 >>> ((1 : Int32).toUInt32 &&& Int32.toUInt32 31)).toInt32) &&& 1431655765)) &&& 858993459) + ((((p0 - (((p0.toUInt32 >>> ((1 : Int32).toUInt32 &&& Int32.toUInt32 31)).toInt32) &&& 1431655765)).toUInt32 >>> ((2 : Int32).toUInt32 &&& Int32.toUInt32 31)).toInt32) &&& 858993459)).toUInt32 >>> ((4 : Int32).toUInt32 &&& Int32.toUInt32 31)).toInt32)) &&& 252645135).toUInt32 >>> ((8 : Int32).toUInt32 &&& Int32.toUInt32 31)).toInt32)).toUInt32 >>> ((16 : Int32).toUInt32 &&& Int32.toUInt32 31)).toInt32)))]) S.1 S.2.1 (dd_at ddJ6_bitCount_0f7a4 37 rfl) rfl hl (by decide) rfl (fun ls hl => ?_)
  refine lv_iload_n S.1 S.2.1 (dd_at ddJ6_bitCount_0f7a4 38 rfl) rfl (lv_at hl 0 rfl) ?_
  refine lv_bipush (v := 63) S.1 S.2.1 (dd_at ddJ6_bitCount_0f7a4 39 rfl) (by decide) ?_
  refine lv_iand S.1 S.2.1 (dd_at ddJ6_bitCount_0f7a4 40 rfl) ?_
  exact e_I S hr hlocks hw h (dd_at ddJ6_bitCount_0f7a4 41 rfl)

def w_J7_copyOf_59c91 (E : En) (a0 : Nat) (p1 : Int32) (d : Dy) (K : Nat → En → Dy → Prop) : Prop := okA E a0 13 ∧ ((¬ p1 = (nI (eN E a0)) → ¬ p1 < 0 ∧ (p1).toNatClampNeg ≤ 400 ∧ ∀ q_2 : Nat, q_2 ∉ eL E → ¬ (0 : Int32) < 0 ∧ ¬ (0 : Int32) < 0 ∧ ¬ (if p1 < (nI (eN (nE E q_2 13 (p1).toNatClampNeg) a0)) then p1 else (nI (eN (nE E q_2 13 (p1).toNatClampNeg) a0))) < 0 ∧ ((0 : Int32)).toNatClampNeg + (if p1 < (nI (eN (nE E q_2 13 (p1).toNatClampNeg) a0)) then p1 else (nI (eN (nE E q_2 13 (p1).toNatClampNeg) a0))).toNatClampNeg ≤ eN (nE E q_2 13 (p1).toNatClampNeg) a0 ∧ ((0 : Int32)).toNatClampNeg + (if p1 < (nI (eN (nE E q_2 13 (p1).toNatClampNeg) a0)) then p1 else (nI (eN (nE E q_2 13 (p1).toNatClampNeg) a0))).toNatClampNeg ≤ eN (nE E q_2 13 (p1).toNatClampNeg) q_2 ∧ K q_2 (nE E q_2 13 (p1).toNatClampNeg) (sA (nD d q_2) q_2 (va_cpy (gA (nD d q_2) a0) (gA (nD d q_2) q_2) ((0 : Int32)).toNatClampNeg ((0 : Int32)).toNatClampNeg (if p1 < (nI (eN (nE E q_2 13 (p1).toNatClampNeg) a0)) then p1 else (nI (eN (nE E q_2 13 (p1).toNatClampNeg) a0))).toNatClampNeg))) ∧ (p1 = (nI (eN E a0)) → False))
abbrev rm_J7_copyOf_59c91 : Room := { frames := 1, cells := 1, slots := 400, locals := 100 }
set_option maxRecDepth 100000 in
set_option maxHeartbeats 4000000 in
theorem m_J7_copyOf_59c91 (l : Launch) (D : va_G) (cs : Nat → ClassId) (E : En) (d : Dy) (sz : Nat) (a0 : Nat) (p1 : Int32) (K : Nat → En → Dy → Prop) : LR l yJ7_copyOf_59c91 (.code yJ7_copyOf_59c91 cJ7_copyOf_59c91 3 (some (.array .int)) :: wsL_law) rm_J7_copyOf_59c91 D cs E d sz [.ref a0, .int p1] (w_J7_copyOf_59c91 E a0 p1 d K) K := by
  refine e_ofN (cc := cJ7_copyOf_59c91) (maxL := 3) (ret := (some (.array .int))) (own := RJ7) (by decide) rfl rfl (Nat.le_of_ble_eq_true rfl) ?_
  intro p e s m below meth c S hr hlocks hinit hsz H locs hw h ls hl
  have hx : Ext E E := Ext_rf E
  have hl : lv_has ls 3 [(0, .ref a0), (1, .int p1)] := hl
  unfold w_J7_copyOf_59c91 at h
  obtain ⟨ha0, h⟩ := h
  refine lv_iload_n S.1 S.2.1 (dd_at ddJ7_copyOf_59c91 0 rfl) rfl (lv_at hl 1 rfl) ?_
  refine lv_aload_n S.1 S.2.1 (dd_at ddJ7_copyOf_59c91 1 rfl) rfl (lv_at hl 0 rfl) ?_
  refine r_alenI S hw ha0 (dd_at ddJ7_copyOf_59c91 2 rfl) ?_
  refine lv_icmp_ne (tgt := 14) S.1 S.2.1 (dd_at ddJ7_copyOf_59c91 3 rfl) (by decide) (fun hc_1 => ?_) (fun hc_1 => ?_)
  · have h := h.1 hc_1
    refine lv_iload_n S.1 S.2.1 (dd_at ddJ7_copyOf_59c91 8 rfl) rfl (lv_at hl 1 rfl) ?_
    obtain ⟨hn_10, hn_11, h⟩ := h
    refine r_newI S hw (List.mem_cons_of_mem _ wg74) hn_10 (by omega) (Nat.le_of_ble_eq_true rfl) (Nat.le_trans (Nat.add_le_add_left hn_11 _) (Nat.le_of_ble_eq_true rfl)) (dd_at ddJ7_copyOf_59c91 9 rfl) (fun q_2 H hq_3 hw => ?_)
    refine W.widen (k := 1) (n := 400) (Nat.le_of_ble_eq_true rfl) (Nat.add_le_add_left hn_11 _) ?_
    have h := h q_2 hq_3
    have ha0 := Ext_A (Ext_nE 13 (p1).toNatClampNeg hq_3) ha0
    have hx := Ext_tr hx (Ext_nE 13 (p1).toNatClampNeg hq_3)
    have ho_4 := okA_new E q_2 (p1).toNatClampNeg (t := 13) (by decide)
    refine lv_astore_n (lv' := [(2, .ref q_2), (0, .ref a0), (1, .int p1)]) S.1 S.2.1 (dd_at ddJ7_copyOf_59c91 10 rfl) rfl hl (by decide) rfl (fun ls hl => ?_)
    refine lv_aload_n S.1 S.2.1 (dd_at ddJ7_copyOf_59c91 11 rfl) rfl (lv_at hl 1 rfl) ?_
    refine lv_iconst (v := 0) S.1 S.2.1 (dd_at ddJ7_copyOf_59c91 12 rfl) (by decide) ?_
    refine lv_aload_n S.1 S.2.1 (dd_at ddJ7_copyOf_59c91 13 rfl) rfl (lv_at hl 0 rfl) ?_
    refine lv_iconst (v := 0) S.1 S.2.1 (dd_at ddJ7_copyOf_59c91 14 rfl) (by decide) ?_
    refine lv_aload_n S.1 S.2.1 (dd_at ddJ7_copyOf_59c91 15 rfl) rfl (lv_at hl 1 rfl) ?_
    refine r_alenI S hw ha0 (dd_at ddJ7_copyOf_59c91 16 rfl) ?_
    refine lv_iload_n S.1 S.2.1 (dd_at ddJ7_copyOf_59c91 17 rfl) rfl (lv_at hl 2 rfl) ?_
    refine va_mmin S.1 S.2.1 (by rw [hl.1]; exact S.2.2.1) S.2.2.2.1 (S.2.2.2.2 _ (List.mem_cons_of_mem _ wg392)) (S.2.2.2.2 _ (List.mem_cons_of_mem _ wg212)) (S.2.2.2.2 _ (List.mem_cons_of_mem _ wg70)) (S.2.2.2.2 _ (List.mem_cons_of_mem _ wg213)) (Nat.le_of_ble_eq_true rfl) (Nat.le_of_ble_eq_true rfl) (Nat.le_of_ble_eq_true rfl) (Nat.le_of_ble_eq_true rfl) (dd_at ddJ7_copyOf_59c91 18 rfl) ?_
    obtain ⟨hy_5, hy_6, hy_7, hy_8, hy_9, h⟩ := h
    refine r_copyi S hw hl.1 (List.mem_cons_of_mem _ wg393) (List.mem_cons_of_mem _ wg380) (List.mem_cons_of_mem _ wg381) (List.mem_cons_of_mem _ wg382) ha0 ho_4 hy_5 hy_6 hy_7 hy_8 hy_9 (Nat.le_of_ble_eq_true rfl) (Nat.le_of_ble_eq_true rfl) (dd_at ddJ7_copyOf_59c91 19 rfl) (fun H locs hw => ?_)
    refine lv_aload_n S.1 S.2.1 (dd_at ddJ7_copyOf_59c91 20 rfl) rfl (lv_at hl 0 rfl) ?_
    exact e_RL S hr (Or.inr ⟨_, rfl⟩) hlocks hw hx h (dd_at ddJ7_copyOf_59c91 21 rfl)
  · have h := h.2 hc_1
    refine lv_aload_n S.1 S.2.1 (dd_at ddJ7_copyOf_59c91 4 rfl) rfl (lv_at hl 0 rfl) ?_
    exact absurd h id

def b_J6_numberOfTrailingZeros_0f7a4_74 (E : En) (K : Int32 → Dy → Prop) (v0 : Int32) (v1 : Int32) (d : Dy) : Prop := K (v1 + ((v0.toUInt32 >>> ((1 : Int32).toUInt32 &&& Int32.toUInt32 31)).toInt32)) d
def b_J6_numberOfTrailingZeros_0f7a4_62 (E : En) (K : Int32 → Dy → Prop) (v0 : Int32) (v1 : Int32) (d : Dy) : Prop := ((v0 ≤ 4 → b_J6_numberOfTrailingZeros_0f7a4_74 E K v0 v1 d) ∧ (¬ v0 ≤ 4 → b_J6_numberOfTrailingZeros_0f7a4_74 E K ((v0.toUInt32 >>> ((2 : Int32).toUInt32 &&& Int32.toUInt32 31)).toInt32) (v1 + 2) d))
def b_J6_numberOfTrailingZeros_0f7a4_49 (E : En) (K : Int32 → Dy → Prop) (v0 : Int32) (v1 : Int32) (d : Dy) : Prop := ((v0 ≤ 16 → b_J6_numberOfTrailingZeros_0f7a4_62 E K v0 v1 d) ∧ (¬ v0 ≤ 16 → b_J6_numberOfTrailingZeros_0f7a4_62 E K ((v0.toUInt32 >>> ((4 : Int32).toUInt32 &&& Int32.toUInt32 31)).toInt32) (v1 + 4) d))
def b_J6_numberOfTrailingZeros_0f7a4_34 (E : En) (K : Int32 → Dy → Prop) (v0 : Int32) (v1 : Int32) (d : Dy) : Prop := ((v0 ≤ 256 → b_J6_numberOfTrailingZeros_0f7a4_49 E K v0 v1 d) ∧ (¬ v0 ≤ 256 → b_J6_numberOfTrailingZeros_0f7a4_49 E K ((v0.toUInt32 >>> ((8 : Int32).toUInt32 &&& Int32.toUInt32 31)).toInt32) (v1 + 8) d))
def w_J6_numberOfTrailingZeros_0f7a4 (E : En) (p0 : Int32) (d : Dy) (K : Int32 → Dy → Prop) : Prop := ((0 < ((p0 ^^^ (-1)) &&& (p0 - 1)) → ((((p0 ^^^ (-1)) &&& (p0 - 1)) ≤ 65536 → b_J6_numberOfTrailingZeros_0f7a4_34 E K ((p0 ^^^ (-1)) &&& (p0 - 1)) 1 d) ∧ (¬ ((p0 ^^^ (-1)) &&& (p0 - 1)) ≤ 65536 → b_J6_numberOfTrailingZeros_0f7a4_34 E K ((((p0 ^^^ (-1)) &&& (p0 - 1)).toUInt32 >>> ((16 : Int32).toUInt32 &&& Int32.toUInt32 31)).toInt32) (1 + 16) d))) ∧ (¬ 0 < ((p0 ^^^ (-1)) &&& (p0 - 1)) → K (((p0 ^^^ (-1)) &&& (p0 - 1)) &&& 32) d))
abbrev rm_J6_numberOfTrailingZeros_0f7a4 : Room := { frames := 0, cells := 0, slots := 0, locals := 0 }
set_option maxRecDepth 100000 in
set_option maxHeartbeats 4000000 in
theorem m_J6_numberOfTrailingZeros_0f7a4 (l : Launch) (D : va_G) (cs : Nat → ClassId) (E : En) (d : Dy) (sz : Nat) (p0 : Int32) (K : Int32 → Dy → Prop) : CI l yJ6_numberOfTrailingZeros_0f7a4 (.code yJ6_numberOfTrailingZeros_0f7a4 cJ6_numberOfTrailingZeros_0f7a4 2 (some .int) :: wsL_law) rm_J6_numberOfTrailingZeros_0f7a4 D cs E d sz [.int p0] (w_J6_numberOfTrailingZeros_0f7a4 E p0 d K) K := by
  refine e_of (cc := cJ6_numberOfTrailingZeros_0f7a4) (maxL := 2) (ret := (some .int)) (own := RJ6) (by decide) rfl rfl (Nat.le_of_ble_eq_true rfl) ?_
  intro p e s m below meth c S hr hlocks hsz H locs hw h ls hl
  have hl : lv_has ls 2 [(0, .int p0)] := hl
  unfold w_J6_numberOfTrailingZeros_0f7a4 at h
  have tb74 : ∀ (v0 : Int32) (v1 : Int32) (d : Dy) (H : Heap) (locs : List Loc) (ls : Array Slot), b_J6_numberOfTrailingZeros_0f7a4_74 E K v0 v1 d → Wd D cs (AW E sz) s.heap s E d H locs → lv_has ls 2 [(0, .int v0), (1, .int v1)] → W p l e rm_J6_numberOfTrailingZeros_0f7a4 s m ([.int p0] : List Value).toArray below meth c H locs 0 0 (MQ below (va_Qi K (OutW D cs E (AW E sz)) (AW E sz)) ([.int p0] : List Value).toArray s rm_J6_numberOfTrailingZeros_0f7a4.cells rm_J6_numberOfTrailingZeros_0f7a4.slots (AW E sz)) (F0 m 74 ls []) := by
    intro v0 v1 d H locs ls h hw hl
    unfold b_J6_numberOfTrailingZeros_0f7a4_74 at h
    refine lv_iload_n S.1 S.2.1 (dd_at ddJ6_numberOfTrailingZeros_0f7a4 48 rfl) rfl (lv_at hl 1 rfl) ?_
    refine lv_iload_n S.1 S.2.1 (dd_at ddJ6_numberOfTrailingZeros_0f7a4 49 rfl) rfl (lv_at hl 0 rfl) ?_
    refine lv_iconst (v := 1) S.1 S.2.1 (dd_at ddJ6_numberOfTrailingZeros_0f7a4 50 rfl) (by decide) ?_
    refine lv_iushr S.1 S.2.1 (dd_at ddJ6_numberOfTrailingZeros_0f7a4 51 rfl) rfl ?_
    refine lv_iadd S.1 S.2.1 (dd_at ddJ6_numberOfTrailingZeros_0f7a4 52 rfl) ?_
    exact e_I S hr hlocks hw h (dd_at ddJ6_numberOfTrailingZeros_0f7a4 53 rfl)
  have tb62 : ∀ (v0 : Int32) (v1 : Int32) (d : Dy) (H : Heap) (locs : List Loc) (ls : Array Slot), b_J6_numberOfTrailingZeros_0f7a4_62 E K v0 v1 d → Wd D cs (AW E sz) s.heap s E d H locs → lv_has ls 2 [(0, .int v0), (1, .int v1)] → W p l e rm_J6_numberOfTrailingZeros_0f7a4 s m ([.int p0] : List Value).toArray below meth c H locs 0 0 (MQ below (va_Qi K (OutW D cs E (AW E sz)) (AW E sz)) ([.int p0] : List Value).toArray s rm_J6_numberOfTrailingZeros_0f7a4.cells rm_J6_numberOfTrailingZeros_0f7a4.slots (AW E sz)) (F0 m 62 ls []) := by
    intro v0 v1 d H locs ls h hw hl
    unfold b_J6_numberOfTrailingZeros_0f7a4_62 at h
    refine lv_iload_n S.1 S.2.1 (dd_at ddJ6_numberOfTrailingZeros_0f7a4 40 rfl) rfl (lv_at hl 0 rfl) ?_
    refine lv_iconst (v := 4) S.1 S.2.1 (dd_at ddJ6_numberOfTrailingZeros_0f7a4 41 rfl) (by decide) ?_
    refine lv_icmp_le (tgt := 74) S.1 S.2.1 (dd_at ddJ6_numberOfTrailingZeros_0f7a4 42 rfl) (by decide) (fun hc_1 => ?_) (fun hc_1 => ?_)
    · have h := h.1 hc_1
      exact tb74 v0 v1 d H locs ls h hw (lv_sub hl [0, 1] rfl)
    · have h := h.2 hc_1
      refine lv_iinc (v := v1 + 2) (lv' := [(1, .int (v1 + 2)), (0, .int v0)]) S.1 S.2.1 (dd_at ddJ6_numberOfTrailingZeros_0f7a4 43 rfl) hl (k := 1) rfl rfl (by decide) rfl (fun ls hl => ?_)
      refine lv_iload_n S.1 S.2.1 (dd_at ddJ6_numberOfTrailingZeros_0f7a4 44 rfl) rfl (lv_at hl 1 rfl) ?_
      refine lv_iconst (v := 2) S.1 S.2.1 (dd_at ddJ6_numberOfTrailingZeros_0f7a4 45 rfl) (by decide) ?_
      refine lv_iushr S.1 S.2.1 (dd_at ddJ6_numberOfTrailingZeros_0f7a4 46 rfl) rfl ?_
      refine lv_istore_n (lv' := [(0, .int ((v0.toUInt32 >>> ((2 : Int32).toUInt32 &&& Int32.toUInt32 31)).toInt32)), (1, .int (v1 + 2))]) S.1 S.2.1 (dd_at ddJ6_numberOfTrailingZeros_0f7a4 47 rfl) rfl hl (by decide) rfl (fun ls hl => ?_)
      exact tb74 ((v0.toUInt32 >>> ((2 : Int32).toUInt32 &&& Int32.toUInt32 31)).toInt32) (v1 + 2) d H locs ls h hw (lv_sub hl [0, 1] rfl)
  have tb49 : ∀ (v0 : Int32) (v1 : Int32) (d : Dy) (H : Heap) (locs : List Loc) (ls : Array Slot), b_J6_numberOfTrailingZeros_0f7a4_49 E K v0 v1 d → Wd D cs (AW E sz) s.heap s E d H locs → lv_has ls 2 [(0, .int v0), (1, .int v1)] → W p l e rm_J6_numberOfTrailingZeros_0f7a4 s m ([.int p0] : List Value).toArray below meth c H locs 0 0 (MQ below (va_Qi K (OutW D cs E (AW E sz)) (AW E sz)) ([.int p0] : List Value).toArray s rm_J6_numberOfTrailingZeros_0f7a4.cells rm_J6_numberOfTrailingZeros_0f7a4.slots (AW E sz)) (F0 m 49 ls []) := by
    intro v0 v1 d H locs ls h hw hl
    unfold b_J6_numberOfTrailingZeros_0f7a4_49 at h
    refine lv_iload_n S.1 S.2.1 (dd_at ddJ6_numberOfTrailingZeros_0f7a4 32 rfl) rfl (lv_at hl 0 rfl) ?_
    refine lv_bipush (v := 16) S.1 S.2.1 (dd_at ddJ6_numberOfTrailingZeros_0f7a4 33 rfl) (by decide) ?_
    refine lv_icmp_le (tgt := 62) S.1 S.2.1 (dd_at ddJ6_numberOfTrailingZeros_0f7a4 34 rfl) (by decide) (fun hc_2 => ?_) (fun hc_2 => ?_)
    · have h := h.1 hc_2
      exact tb62 v0 v1 d H locs ls h hw (lv_sub hl [0, 1] rfl)
    · have h := h.2 hc_2
      refine lv_iinc (v := v1 + 4) (lv' := [(1, .int (v1 + 4)), (0, .int v0)]) S.1 S.2.1 (dd_at ddJ6_numberOfTrailingZeros_0f7a4 35 rfl) hl (k := 1) rfl rfl (by decide) rfl (fun ls hl => ?_)
      refine lv_iload_n S.1 S.2.1 (dd_at ddJ6_numberOfTrailingZeros_0f7a4 36 rfl) rfl (lv_at hl 1 rfl) ?_
      refine lv_iconst (v := 4) S.1 S.2.1 (dd_at ddJ6_numberOfTrailingZeros_0f7a4 37 rfl) (by decide) ?_
      refine lv_iushr S.1 S.2.1 (dd_at ddJ6_numberOfTrailingZeros_0f7a4 38 rfl) rfl ?_
      refine lv_istore_n (lv' := [(0, .int ((v0.toUInt32 >>> ((4 : Int32).toUInt32 &&& Int32.toUInt32 31)).toInt32)), (1, .int (v1 + 4))]) S.1 S.2.1 (dd_at ddJ6_numberOfTrailingZeros_0f7a4 39 rfl) rfl hl (by decide) rfl (fun ls hl => ?_)
      exact tb62 ((v0.toUInt32 >>> ((4 : Int32).toUInt32 &&& Int32.toUInt32 31)).toInt32) (v1 + 4) d H locs ls h hw (lv_sub hl [0, 1] rfl)
  have tb34 : ∀ (v0 : Int32) (v1 : Int32) (d : Dy) (H : Heap) (locs : List Loc) (ls : Array Slot), b_J6_numberOfTrailingZeros_0f7a4_34 E K v0 v1 d → Wd D cs (AW E sz) s.heap s E d H locs → lv_has ls 2 [(0, .int v0), (1, .int v1)] → W p l e rm_J6_numberOfTrailingZeros_0f7a4 s m ([.int p0] : List Value).toArray below meth c H locs 0 0 (MQ below (va_Qi K (OutW D cs E (AW E sz)) (AW E sz)) ([.int p0] : List Value).toArray s rm_J6_numberOfTrailingZeros_0f7a4.cells rm_J6_numberOfTrailingZeros_0f7a4.slots (AW E sz)) (F0 m 34 ls []) := by
    intro v0 v1 d H locs ls h hw hl
    unfold b_J6_numberOfTrailingZeros_0f7a4_34 at h
    refine lv_iload_n S.1 S.2.1 (dd_at ddJ6_numberOfTrailingZeros_0f7a4 24 rfl) rfl (lv_at hl 0 rfl) ?_
    refine lv_sipush (v := 256) S.1 S.2.1 (dd_at ddJ6_numberOfTrailingZeros_0f7a4 25 rfl) (by decide) ?_
    refine lv_icmp_le (tgt := 49) S.1 S.2.1 (dd_at ddJ6_numberOfTrailingZeros_0f7a4 26 rfl) (by decide) (fun hc_3 => ?_) (fun hc_3 => ?_)
    · have h := h.1 hc_3
      exact tb49 v0 v1 d H locs ls h hw (lv_sub hl [0, 1] rfl)
    · have h := h.2 hc_3
      refine lv_iinc (v := v1 + 8) (lv' := [(1, .int (v1 + 8)), (0, .int v0)]) S.1 S.2.1 (dd_at ddJ6_numberOfTrailingZeros_0f7a4 27 rfl) hl (k := 1) rfl rfl (by decide) rfl (fun ls hl => ?_)
      refine lv_iload_n S.1 S.2.1 (dd_at ddJ6_numberOfTrailingZeros_0f7a4 28 rfl) rfl (lv_at hl 1 rfl) ?_
      refine lv_bipush (v := 8) S.1 S.2.1 (dd_at ddJ6_numberOfTrailingZeros_0f7a4 29 rfl) (by decide) ?_
      refine lv_iushr S.1 S.2.1 (dd_at ddJ6_numberOfTrailingZeros_0f7a4 30 rfl) rfl ?_
      refine lv_istore_n (lv' := [(0, .int ((v0.toUInt32 >>> ((8 : Int32).toUInt32 &&& Int32.toUInt32 31)).toInt32)), (1, .int (v1 + 8))]) S.1 S.2.1 (dd_at ddJ6_numberOfTrailingZeros_0f7a4 31 rfl) rfl hl (by decide) rfl (fun ls hl => ?_)
      exact tb49 ((v0.toUInt32 >>> ((8 : Int32).toUInt32 &&& Int32.toUInt32 31)).toInt32) (v1 + 8) d H locs ls h hw (lv_sub hl [0, 1] rfl)
  refine lv_iload_n S.1 S.2.1 (dd_at ddJ6_numberOfTrailingZeros_0f7a4 0 rfl) rfl (lv_at hl 0 rfl) ?_
  refine lv_iconst (v := -1) S.1 S.2.1 (dd_at ddJ6_numberOfTrailingZeros_0f7a4 1 rfl) (by decide) ?_
  refine lv_ixor S.1 S.2.1 (dd_at ddJ6_numberOfTrailingZeros_0f7a4 2 rfl) ?_
  refine lv_iload_n S.1 S.2.1 (dd_at ddJ6_numberOfTrailingZeros_0f7a4 3 rfl) rfl (lv_at hl 0 rfl) ?_
  refine lv_iconst (v := 1) S.1 S.2.1 (dd_at ddJ6_numberOfTrailingZeros_0f7a4 4 rfl) (by decide) ?_
  refine lv_isub S.1 S.2.1 (dd_at ddJ6_numberOfTrailingZeros_0f7a4 5 rfl) ?_
  refine lv_iand S.1 S.2.1 (dd_at ddJ6_numberOfTrailingZeros_0f7a4 6 rfl) ?_
  refine lv_istore_n (lv' := [(0, .int ((p0 ^^^ (-1)) &&& (p0 - 1)))]) S.1 S.2.1 (dd_at ddJ6_numberOfTrailingZeros_0f7a4 7 rfl) rfl hl (by decide) rfl (fun ls hl => ?_)
  refine lv_iload_n S.1 S.2.1 (dd_at ddJ6_numberOfTrailingZeros_0f7a4 8 rfl) rfl (lv_at hl 0 rfl) ?_
  refine lv_if_gt (tgt := 17) S.1 S.2.1 (dd_at ddJ6_numberOfTrailingZeros_0f7a4 9 rfl) (by decide) (fun hc_4 => ?_) (fun hc_4 => ?_)
  · have h := h.1 hc_4
    refine lv_iconst (v := 1) S.1 S.2.1 (dd_at ddJ6_numberOfTrailingZeros_0f7a4 14 rfl) (by decide) ?_
    refine lv_istore_n (lv' := [(1, .int 1), (0, .int ((p0 ^^^ (-1)) &&& (p0 - 1)))]) S.1 S.2.1 (dd_at ddJ6_numberOfTrailingZeros_0f7a4 15 rfl) rfl hl (by decide) rfl (fun ls hl => ?_)
    refine lv_iload_n S.1 S.2.1 (dd_at ddJ6_numberOfTrailingZeros_0f7a4 16 rfl) rfl (lv_at hl 1 rfl) ?_
    refine lv_ldcw (v := 65536) S.1 S.2.1 S.2.2.2.1 (S.2.2.2.2 _ (List.mem_cons_of_mem _ wg784)) (dd_at ddJ6_numberOfTrailingZeros_0f7a4 17 rfl) ?_
    refine lv_icmp_le (tgt := 34) S.1 S.2.1 (dd_at ddJ6_numberOfTrailingZeros_0f7a4 18 rfl) (by decide) (fun hc_5 => ?_) (fun hc_5 => ?_)
    · have h := h.1 hc_5
      exact tb34 ((p0 ^^^ (-1)) &&& (p0 - 1)) 1 d H locs ls h hw (lv_sub hl [1, 0] rfl)
    · have h := h.2 hc_5
      refine lv_iinc (v := 1 + 16) (lv' := [(1, .int (1 + 16)), (0, .int ((p0 ^^^ (-1)) &&& (p0 - 1)))]) S.1 S.2.1 (dd_at ddJ6_numberOfTrailingZeros_0f7a4 19 rfl) hl (k := 0) rfl rfl (by decide) rfl (fun ls hl => ?_)
      refine lv_iload_n S.1 S.2.1 (dd_at ddJ6_numberOfTrailingZeros_0f7a4 20 rfl) rfl (lv_at hl 1 rfl) ?_
      refine lv_bipush (v := 16) S.1 S.2.1 (dd_at ddJ6_numberOfTrailingZeros_0f7a4 21 rfl) (by decide) ?_
      refine lv_iushr S.1 S.2.1 (dd_at ddJ6_numberOfTrailingZeros_0f7a4 22 rfl) rfl ?_
      refine lv_istore_n (lv' := [(0, .int ((((p0 ^^^ (-1)) &&& (p0 - 1)).toUInt32 >>> ((16 : Int32).toUInt32 &&& Int32.toUInt32 31)).toInt32)), (1, .int (1 + 16))]) S.1 S.2.1 (dd_at ddJ6_numberOfTrailingZeros_0f7a4 23 rfl) rfl hl (by decide) rfl (fun ls hl => ?_)
      exact tb34 ((((p0 ^^^ (-1)) &&& (p0 - 1)).toUInt32 >>> ((16 : Int32).toUInt32 &&& Int32.toUInt32 31)).toInt32) (1 + 16) d H locs ls h hw (lv_sub hl [0, 1] rfl)
  · have h := h.2 hc_4
    refine lv_iload_n S.1 S.2.1 (dd_at ddJ6_numberOfTrailingZeros_0f7a4 10 rfl) rfl (lv_at hl 0 rfl) ?_
    refine lv_bipush (v := 32) S.1 S.2.1 (dd_at ddJ6_numberOfTrailingZeros_0f7a4 11 rfl) (by decide) ?_
    refine lv_iand S.1 S.2.1 (dd_at ddJ6_numberOfTrailingZeros_0f7a4 12 rfl) ?_
    exact e_I S hr hlocks hw h (dd_at ddJ6_numberOfTrailingZeros_0f7a4 13 rfl)

def b_J7_fill_d0a16_6 (E : En) (a0 : Nat) (j1 : Int64) (K : Dy → Prop) (k6 : Int32 → Int32 → Dy → Prop) (v3 : Int32) (v4 : Int32) (d : Dy) : Prop := ((v4 ≤ v3 → K d) ∧ (¬ v4 ≤ v3 → vp_in v3 (eN E a0) ∧ k6 (v3 + 1) v4 (pJ d a0 (v3).toNatClampNeg j1)))
def l_J7_fill_d0a16_6 (E : En) (a0 : Nat) (j1 : Int64) (K : Dy → Prop) : Nat → Int32 → Int32 → Dy → Prop
  | 0 => fun _ _ _ => False
  | n + 1 => b_J7_fill_d0a16_6 E a0 j1 K (l_J7_fill_d0a16_6 E a0 j1 K n)
def w_J7_fill_d0a16 (E : En) (a0 : Nat) (j1 : Int64) (d : Dy) (K : Dy → Prop) : Prop := okA E a0 14 ∧ (∃ n_3 : Nat, l_J7_fill_d0a16_6 E a0 j1 K n_3 0 (nI (eN E a0)) d)
abbrev rm_J7_fill_d0a16 : Room := { frames := 0, cells := 0, slots := 0, locals := 0 }
set_option maxRecDepth 100000 in
set_option maxHeartbeats 4000000 in
theorem m_J7_fill_d0a16 (l : Launch) (D : va_G) (cs : Nat → ClassId) (E : En) (d : Dy) (sz : Nat) (a0 : Nat) (j1 : Int64) (K : Dy → Prop) : CV l yJ7_fill_d0a16 (.code yJ7_fill_d0a16 cJ7_fill_d0a16 5 none :: wsL_law) rm_J7_fill_d0a16 D cs E d sz [.ref a0, .long j1] (w_J7_fill_d0a16 E a0 j1 d K) K := by
  refine e_of (cc := cJ7_fill_d0a16) (maxL := 5) (ret := none) (own := RJ7) (by decide) rfl rfl (Nat.le_of_ble_eq_true rfl) ?_
  intro p e s m below meth c S hr hlocks hsz H locs hw h ls hl
  have hl : lv_has ls 5 [(0, .ref a0), (1, .long j1)] := hl
  unfold w_J7_fill_d0a16 at h
  obtain ⟨ha0, h⟩ := h
  have tl6 : ∀ (n : Nat) (v3 : Int32) (v4 : Int32) (d : Dy) (H : Heap) (locs : List Loc) (ls : Array Slot), l_J7_fill_d0a16_6 E a0 j1 K n v3 v4 d → Wd D cs (AW E sz) s.heap s E d H locs → lv_has ls 5 [(0, .ref a0), (1, .long j1), (3, .int v3), (4, .int v4)] → W p l e rm_J7_fill_d0a16 s m ([.ref a0, .long j1] : List Value).toArray below meth c H locs 0 0 (MQ below (va_Qv K (OutW D cs E (AW E sz)) (AW E sz)) ([.ref a0, .long j1] : List Value).toArray s rm_J7_fill_d0a16.cells rm_J7_fill_d0a16.slots (AW E sz)) (F0 m 6 ls []) := by
    intro n6
    induction n6 with
    | zero => intro v3 v4 d H locs ls h; exact absurd h id
    | succ n6 ih6 =>
      intro v3 v4 d H locs ls h hw hl
      have h : b_J7_fill_d0a16_6 E a0 j1 K (l_J7_fill_d0a16_6 E a0 j1 K n6) v3 v4 d := h
      unfold b_J7_fill_d0a16_6 at h
      refine lv_iload_n S.1 S.2.1 (dd_at ddJ7_fill_d0a16 5 rfl) rfl (lv_at hl 2 rfl) ?_
      refine lv_iload S.1 S.2.1 (dd_at ddJ7_fill_d0a16 6 rfl) (lv_at hl 3 rfl) ?_
      refine lv_icmp_ge (tgt := 22) S.1 S.2.1 (dd_at ddJ7_fill_d0a16 7 rfl) (by decide) (fun hc_1 => ?_) (fun hc_1 => ?_)
      · have h := h.1 hc_1
        exact e_V S hr hlocks hw h (dd_at ddJ7_fill_d0a16 14 rfl)
      · have h := h.2 hc_1
        refine lv_aload_n S.1 S.2.1 (dd_at ddJ7_fill_d0a16 8 rfl) rfl (lv_at hl 0 rfl) ?_
        refine lv_iload_n S.1 S.2.1 (dd_at ddJ7_fill_d0a16 9 rfl) rfl (lv_at hl 2 rfl) ?_
        refine lv_lload_n S.1 S.2.1 (dd_at ddJ7_fill_d0a16 10 rfl) rfl (lv_at hl 1 rfl) ?_
        obtain ⟨hx_2, h⟩ := h
        refine r_last S hw ha0 hx_2 (dd_at ddJ7_fill_d0a16 11 rfl) (fun H locs hw => ?_)
        refine lv_iinc (v := v3 + 1) (lv' := [(3, .int (v3 + 1)), (0, .ref a0), (1, .long j1), (4, .int v4)]) S.1 S.2.1 (dd_at ddJ7_fill_d0a16 12 rfl) hl (k := 2) rfl rfl (by decide) rfl (fun ls hl => ?_)
        refine lv_goto (tgt := 6) S.1 S.2.1 (dd_at ddJ7_fill_d0a16 13 rfl) (by decide) ?_
        exact ih6 (v3 + 1) v4 (pJ d a0 (v3).toNatClampNeg j1) H locs ls h hw (lv_sub hl [1, 2, 0, 3] rfl)
  refine lv_iconst (v := 0) S.1 S.2.1 (dd_at ddJ7_fill_d0a16 0 rfl) (by decide) ?_
  refine lv_istore_n (lv' := [(3, .int 0), (0, .ref a0), (1, .long j1)]) S.1 S.2.1 (dd_at ddJ7_fill_d0a16 1 rfl) rfl hl (by decide) rfl (fun ls hl => ?_)
  refine lv_aload_n S.1 S.2.1 (dd_at ddJ7_fill_d0a16 2 rfl) rfl (lv_at hl 1 rfl) ?_
  refine r_alenJ S hw ha0 (dd_at ddJ7_fill_d0a16 3 rfl) ?_
  refine lv_istore (lv' := [(4, .int (nI (eN E a0))), (3, .int 0), (0, .ref a0), (1, .long j1)]) S.1 S.2.1 (dd_at ddJ7_fill_d0a16 4 rfl) hl (by decide) rfl (fun ls hl => ?_)
  obtain ⟨n_3, h⟩ := h
  exact tl6 n_3 0 (nI (eN E a0)) d H locs ls h hw (lv_sub hl [2, 3, 1, 0] rfl)

def b_J7_fill_53178_5 (E : En) (a0 : Nat) (p1 : Int32) (K : Dy → Prop) (k5 : Int32 → Int32 → Dy → Prop) (v2 : Int32) (v3 : Int32) (d : Dy) : Prop := ((v3 ≤ v2 → K d) ∧ (¬ v3 ≤ v2 → vp_in v2 (eN E a0) ∧ k5 (v2 + 1) v3 (pA d a0 (v2).toNatClampNeg p1)))
def l_J7_fill_53178_5 (E : En) (a0 : Nat) (p1 : Int32) (K : Dy → Prop) : Nat → Int32 → Int32 → Dy → Prop
  | 0 => fun _ _ _ => False
  | n + 1 => b_J7_fill_53178_5 E a0 p1 K (l_J7_fill_53178_5 E a0 p1 K n)
def w_J7_fill_53178 (E : En) (a0 : Nat) (p1 : Int32) (d : Dy) (K : Dy → Prop) : Prop := okA E a0 13 ∧ (∃ n_3 : Nat, l_J7_fill_53178_5 E a0 p1 K n_3 0 (nI (eN E a0)) d)
abbrev rm_J7_fill_53178 : Room := { frames := 0, cells := 0, slots := 0, locals := 0 }
set_option maxRecDepth 100000 in
set_option maxHeartbeats 4000000 in
theorem m_J7_fill_53178 (l : Launch) (D : va_G) (cs : Nat → ClassId) (E : En) (d : Dy) (sz : Nat) (a0 : Nat) (p1 : Int32) (K : Dy → Prop) : CV l yJ7_fill_53178 (.code yJ7_fill_53178 cJ7_fill_53178 4 none :: wsL_law) rm_J7_fill_53178 D cs E d sz [.ref a0, .int p1] (w_J7_fill_53178 E a0 p1 d K) K := by
  refine e_of (cc := cJ7_fill_53178) (maxL := 4) (ret := none) (own := RJ7) (by decide) rfl rfl (Nat.le_of_ble_eq_true rfl) ?_
  intro p e s m below meth c S hr hlocks hsz H locs hw h ls hl
  have hl : lv_has ls 4 [(0, .ref a0), (1, .int p1)] := hl
  unfold w_J7_fill_53178 at h
  obtain ⟨ha0, h⟩ := h
  have tl5 : ∀ (n : Nat) (v2 : Int32) (v3 : Int32) (d : Dy) (H : Heap) (locs : List Loc) (ls : Array Slot), l_J7_fill_53178_5 E a0 p1 K n v2 v3 d → Wd D cs (AW E sz) s.heap s E d H locs → lv_has ls 4 [(0, .ref a0), (1, .int p1), (2, .int v2), (3, .int v3)] → W p l e rm_J7_fill_53178 s m ([.ref a0, .int p1] : List Value).toArray below meth c H locs 0 0 (MQ below (va_Qv K (OutW D cs E (AW E sz)) (AW E sz)) ([.ref a0, .int p1] : List Value).toArray s rm_J7_fill_53178.cells rm_J7_fill_53178.slots (AW E sz)) (F0 m 5 ls []) := by
    intro n5
    induction n5 with
    | zero => intro v2 v3 d H locs ls h; exact absurd h id
    | succ n5 ih5 =>
      intro v2 v3 d H locs ls h hw hl
      have h : b_J7_fill_53178_5 E a0 p1 K (l_J7_fill_53178_5 E a0 p1 K n5) v2 v3 d := h
      unfold b_J7_fill_53178_5 at h
      refine lv_iload_n S.1 S.2.1 (dd_at ddJ7_fill_53178 5 rfl) rfl (lv_at hl 2 rfl) ?_
      refine lv_iload_n S.1 S.2.1 (dd_at ddJ7_fill_53178 6 rfl) rfl (lv_at hl 3 rfl) ?_
      refine lv_icmp_ge (tgt := 20) S.1 S.2.1 (dd_at ddJ7_fill_53178 7 rfl) (by decide) (fun hc_1 => ?_) (fun hc_1 => ?_)
      · have h := h.1 hc_1
        exact e_V S hr hlocks hw h (dd_at ddJ7_fill_53178 14 rfl)
      · have h := h.2 hc_1
        refine lv_aload_n S.1 S.2.1 (dd_at ddJ7_fill_53178 8 rfl) rfl (lv_at hl 0 rfl) ?_
        refine lv_iload_n S.1 S.2.1 (dd_at ddJ7_fill_53178 9 rfl) rfl (lv_at hl 2 rfl) ?_
        refine lv_iload_n S.1 S.2.1 (dd_at ddJ7_fill_53178 10 rfl) rfl (lv_at hl 1 rfl) ?_
        obtain ⟨hx_2, h⟩ := h
        refine r_iast S hw ha0 hx_2 (dd_at ddJ7_fill_53178 11 rfl) (fun H locs hw => ?_)
        refine lv_iinc (v := v2 + 1) (lv' := [(2, .int (v2 + 1)), (0, .ref a0), (1, .int p1), (3, .int v3)]) S.1 S.2.1 (dd_at ddJ7_fill_53178 12 rfl) hl (k := 2) rfl rfl (by decide) rfl (fun ls hl => ?_)
        refine lv_goto (tgt := 5) S.1 S.2.1 (dd_at ddJ7_fill_53178 13 rfl) (by decide) ?_
        exact ih5 (v2 + 1) v3 (pA d a0 (v2).toNatClampNeg p1) H locs ls h hw (lv_sub hl [1, 2, 0, 3] rfl)
  refine lv_iconst (v := 0) S.1 S.2.1 (dd_at ddJ7_fill_53178 0 rfl) (by decide) ?_
  refine lv_istore_n (lv' := [(2, .int 0), (0, .ref a0), (1, .int p1)]) S.1 S.2.1 (dd_at ddJ7_fill_53178 1 rfl) rfl hl (by decide) rfl (fun ls hl => ?_)
  refine lv_aload_n S.1 S.2.1 (dd_at ddJ7_fill_53178 2 rfl) rfl (lv_at hl 1 rfl) ?_
  refine r_alenI S hw ha0 (dd_at ddJ7_fill_53178 3 rfl) ?_
  refine lv_istore_n (lv' := [(3, .int (nI (eN E a0))), (2, .int 0), (0, .ref a0), (1, .int p1)]) S.1 S.2.1 (dd_at ddJ7_fill_53178 4 rfl) rfl hl (by decide) rfl (fun ls hl => ?_)
  obtain ⟨n_3, h⟩ := h
  exact tl5 n_3 0 (nI (eN E a0)) d H locs ls h hw (lv_sub hl [2, 3, 1, 0] rfl)
