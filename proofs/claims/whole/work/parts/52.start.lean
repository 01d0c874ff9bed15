def E0 : En := ([], fun _ => 0, fun _ => 0, fun _ _ => none)
def D0 : Dy := (fun _ _ => 0, fun _ _ => 0, fun _ _ => 0, fun _ _ => none)
def law0 (xs : Nat → Int32) (L : Nat) : Prop := ∀ q_1 : Nat, q_1 ∉ eL E0 → w_X10_init (nE E0 q_1 10 0) q_1 (nD D0 q_1) (fun E_4 d_5 => ∀ q_7 : Nat, q_7 ∉ eL E_4 → w_X11_init (nE E_4 q_7 11 0) q_7 (nD d_5 q_7) (fun E_10 d_11 => ∀ q_13 : Nat, q_13 ∉ eL E_10 → lawL q_1 q_7 q_13 xs L 513 (nE E_10 q_13 14 ((1 : Int32)).toNatClampNeg) (nD d_11 q_13) 0))
set_option maxRecDepth 100000 in
set_option maxHeartbeats 4000000 in
theorem whole_walk {p : Program} {l : Launch} {e : Env} {s : State} {m : MethodId} {below : List Frame} {meth : Method} {c : Code} {D : va_G} {cs : Nat → ClassId} {b L : Nat} {xs : Nat → Int32} {T0 : Cond} (hst : l.stackTraces = false) (S : CallFix p m c cL_law 7 s #[Value.ref b] (T0 :: wsL_law) RL) (hr : meth.sig.returnType = ret) (hlocks : meth.locks = false) (hX : va_X b L xs s s.heap) (hbl : b < s.heap.size) {H : Heap} {locs : List Loc} {ls : Array Slot} (h : law0 xs L) (hw : Wd D cs (fun q => s.heap.size ≤ q) s.heap s E0 D0 H locs) (hl : lv_has ls 7 [(0, .ref b)]) : W p l e room_1 s m #[Value.ref b] below meth c H locs 0 0 (lw_Z below #[Value.ref b] s) (F0 m 0 ls []) := by
  have hx : Ext E0 E0 := Ext_rf E0
  unfold law0 at h
  refine r_new S hw 10 rfl (by decide) inG10 tyX10 tyX10_ok (List.mem_cons_of_mem _ wg0) (List.mem_cons_of_mem _ wg1) (List.mem_cons_of_mem _ wg2) dF10 (Nat.le_of_ble_eq_true rfl) (Nat.le_of_ble_eq_true rfl) (dd_at ddL_law_0 0 rfl) (fun q_1 H hq_2 hw => ?_)
  refine W.widen (k := 1) (n := 11) (Nat.le_of_ble_eq_true rfl) (Nat.le_of_ble_eq_true rfl) ?_
  have h := h q_1 hq_2
  have hx := Ext_tr hx (Ext_nE 10 0 hq_2)
  have ho_3 := okO_new E0 q_1 0 (ci := 10) (by decide)
  refine lv_dup S.1 S.2.1 (dd_at ddL_law_0 1 rfl) rfl ?_
  refine r_callVL hw (r_runI (As := []) (rest := [.ref q_1]) S hw (m_X10_init l D cs (nE E0 q_1 10 0) (nD D0 q_1) H.size q_1 _) (cwI 0 S.2.2.2.2 (gC wg9) rfl rfl rfl (S.2.2.2.2 _ (List.mem_cons_of_mem _ wg2)) (S.2.2.2.2 _ (List.mem_cons_of_mem _ wg7)) (S.2.2.2.2 _ (List.mem_cons_of_mem _ wg8)) rfl (by decide +kernel) ⟨Nat.le_of_ble_eq_true rfl, Nat.le_of_ble_eq_true rfl⟩) h rfl hl.1 rfl (Nat.le_of_ble_eq_true rfl) (dd_at ddL_law_0 2 rfl) ⟨Nat.le_of_ble_eq_true rfl, Nat.le_of_ble_eq_true rfl⟩) (fun E_4 d_5 H locs h hx_6 hw => ?_)
  have ho_3 := Ext_O hx_6 ho_3
  have hx := Ext_tr hx hx_6
  refine lv_astore_n (lv' := [(1, .ref q_1), (0, .ref b)]) S.1 S.2.1 (dd_at ddL_law_0 3 rfl) rfl hl (by decide) rfl (fun ls hl => ?_)
  refine r_new S hw 11 rfl (by decide) inG11 tyX11 tyX11_ok (List.mem_cons_of_mem _ wg3) (List.mem_cons_of_mem _ wg4) (List.mem_cons_of_mem _ wg5) dF11 (Nat.le_of_ble_eq_true rfl) (Nat.le_of_ble_eq_true rfl) (dd_at ddL_law_0 4 rfl) (fun q_7 H hq_8 hw => ?_)
  refine W.widen (k := 88) (n := 12653) (Nat.le_of_ble_eq_true rfl) (Nat.le_of_ble_eq_true rfl) ?_
  have h := h q_7 hq_8
  have ho_3 := Ext_O (Ext_nE 11 0 hq_8) ho_3
  have hx := Ext_tr hx (Ext_nE 11 0 hq_8)
  have ho_9 := okO_new E_4 q_7 0 (ci := 11) (by decide)
  refine lv_dup S.1 S.2.1 (dd_at ddL_law_0 5 rfl) rfl ?_
  refine r_callVL hw (r_runI (As := []) (rest := [.ref q_7]) S hw (m_X11_init l D cs (nE E_4 q_7 11 0) (nD d_5 q_7) H.size q_7 _) (cwI 0 S.2.2.2.2 (gC wg148) rfl rfl rfl (S.2.2.2.2 _ (List.mem_cons_of_mem _ wg5)) (S.2.2.2.2 _ (List.mem_cons_of_mem _ wg146)) (S.2.2.2.2 _ (List.mem_cons_of_mem _ wg147)) rfl (by decide +kernel) ⟨Nat.le_of_ble_eq_true rfl, Nat.le_of_ble_eq_true rfl⟩) h rfl hl.1 rfl (Nat.le_of_ble_eq_true rfl) (dd_at ddL_law_0 6 rfl) ⟨Nat.le_of_ble_eq_true rfl, Nat.le_of_ble_eq_true rfl⟩) (fun E_10 d_11 H locs h hx_12 hw => ?_)
  have ho_3 := Ext_O hx_12 ho_3
  have ho_9 := Ext_O hx_12 ho_9
  have hx := Ext_tr hx hx_12
  refine lv_astore_n (lv' := [(2, .ref q_7), (1, .ref q_1), (0, .ref b)]) S.1 S.2.1 (dd_at ddL_law_0 7 rfl) rfl hl (by decide) rfl (fun ls hl => ?_)
  refine lv_iconst (v := 1) S.1 S.2.1 (dd_at ddL_law_0 8 rfl) (by decide) ?_
  refine r_newJ S hw (List.mem_cons_of_mem _ wg6) (n := 1) (by decide) (by decide) (Nat.le_of_ble_eq_true rfl) (by show _ ≤ _; exact Nat.le_of_ble_eq_true rfl) (dd_at ddL_law_0 9 rfl) (fun q_13 H hq_14 hw => ?_)
  refine W.widen (k := 116) (n := 23279) (Nat.le_of_ble_eq_true rfl) (Nat.le_of_ble_eq_true rfl) ?_
  have h := h q_13 hq_14
  have ho_3 := Ext_O (Ext_nE 14 ((1 : Int32)).toNatClampNeg hq_14) ho_3
  have ho_9 := Ext_O (Ext_nE 14 ((1 : Int32)).toNatClampNeg hq_14) ho_9
  have hx := Ext_tr hx (Ext_nE 14 ((1 : Int32)).toNatClampNeg hq_14)
  have ho_15 := okA_new E_10 q_13 ((1 : Int32)).toNatClampNeg (t := 14) (by decide)
  refine lv_astore_n (lv' := [(3, .ref q_13), (2, .ref q_7), (1, .ref q_1), (0, .ref b)]) S.1 S.2.1 (dd_at ddL_law_0 10 rfl) rfl hl (by decide) rfl (fun ls hl => ?_)
  refine lv_iconst (v := 0) S.1 S.2.1 (dd_at ddL_law_0 11 rfl) (by decide) ?_
  refine lv_istore (lv' := [(4, .int 0), (3, .ref q_13), (2, .ref q_7), (1, .ref q_1), (0, .ref b)]) S.1 S.2.1 (dd_at ddL_law_0 12 rfl) hl (by decide) rfl (fun ls hl => ?_)
  exact law_loop hst S hr hlocks hX hbl 513 _ _ _ _ _ _ _ _ h (by decide) (by decide) hw (lv_sub hl [4, 3, 2, 1, 0] rfl)
