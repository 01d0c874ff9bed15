set_option maxRecDepth 100000 in
set_option maxHeartbeats 4000000 in
/-- what stands at the law's start: the classes, the arrays' classes, and all outside the pool -/
theorem law_env {p : Program} {s : State} {m : MethodId} {meth : Method} {c : Code} {b L : Nat} {xs : Nat → Int32} (C0 : lw_At p s m meth c b L xs) : ∃ (D : va_G) (cs : Nat → ClassId), va_K D vwCl (tyl cs) s ∧ Gx cs (fun q => s.heap.size ≤ q) s s.heap := by
  obtain ⟨hx, hb, hr, hml, hown, hts, hX, hbl, hlocks, hgv⟩ := id C0
  have hs : ∀ c ∈ nvF, c.before #[Value.ref b] s = true := flat_of_before _ hgv
  have hA : ∀ a : Nat, a < s.heap.size → ¬ (fun q : Nat => s.heap.size ≤ q) a := fun a h => Nat.not_le.mpr h
  obtain ⟨c0, i0, k0⟩ := u_known (C := RX0) (T := TX0) (N := 3) (n := 3) hts (by decide +kernel) (hts (.instantiable RX0 3) (by decide +kernel))
  obtain ⟨c1, i1, k1⟩ := u_known (C := RX1) (T := TX1) (N := 3) (n := 3) hts (by decide +kernel) (hts (.instantiable RX1 3) (by decide +kernel))
  obtain ⟨c2, i2, k2⟩ := u_known (C := RX2) (T := TX2) (N := 10) (n := 10) hts (by decide +kernel) (hts (.instantiable RX2 10) (by decide +kernel))
  obtain ⟨c3, i3, k3⟩ := u_known (C := RX3) (T := TX3) (N := 9) (n := 9) hts (by decide +kernel) (hts (.instantiable RX3 9) (by decide +kernel))
  obtain ⟨c4, i4, k4⟩ := u_known (C := RX4) (T := TX4) (N := 5) (n := 5) hts (by decide +kernel) (hts (.instantiable RX4 5) (by decide +kernel))
  obtain ⟨c5, i5, k5⟩ := u_known (C := RX5) (T := TX5) (N := 6) (n := 6) hts (by decide +kernel) (hts (.instantiable RX5 6) (by decide +kernel))
  obtain ⟨c6, i6, k6⟩ := u_known (C := RX6) (T := TX6) (N := 4) (n := 4) hts (by decide +kernel) (hts (.instantiable RX6 4) (by decide +kernel))
  obtain ⟨c7, i7, k7⟩ := u_known (C := RX7) (T := TX7) (N := 2) (n := 2) hts (by decide +kernel) (hts (.instantiable RX7 2) (by decide +kernel))
  obtain ⟨c8, i8, k8⟩ := u_known (C := RX8) (T := TX8) (N := 12) (n := 12) hts (by decide +kernel) (hts (.instantiable RX8 12) (by decide +kernel))
  obtain ⟨c9, i9, k9⟩ := u_known (C := RX9) (T := TX9) (N := 9) (n := 9) hts (by decide +kernel) (hts (.instantiable RX9 9) (by decide +kernel))
  obtain ⟨c10, i10, k10⟩ := u_known (C := RX10) (T := TX10) (N := 11) (n := 11) hts (by decide +kernel) (hts (.instantiable RX10 11) (by decide +kernel))
  obtain ⟨c11, i11, k11⟩ := u_known (C := RX11) (T := TX11) (N := 40) (n := 40) hts (by decide +kernel) (hts (.instantiable RX11 40) (by decide +kernel))
  obtain ⟨dC, dI, hKc⟩ : ∃ (dC : Nat → ClassId) (dI : Nat → Nat → Nat), ∀ (k : Nat) (q : vw_C), vwCl[k]? = some q → u_Kn s q.1 q.2.1 q.2.2 (dC k) (dI k) := by
    refine ⟨fun k => if k = 0 then c0 else if k = 1 then c1 else if k = 2 then c2 else if k = 3 then c3 else if k = 4 then c4 else if k = 5 then c5 else if k = 6 then c6 else if k = 7 then c7 else if k = 8 then c8 else if k = 9 then c9 else if k = 10 then c10 else c11, fun k => if k = 0 then i0 else if k = 1 then i1 else if k = 2 then i2 else if k = 3 then i3 else if k = 4 then i4 else if k = 5 then i5 else if k = 6 then i6 else if k = 7 then i7 else if k = 8 then i8 else if k = 9 then i9 else if k = 10 then i10 else i11, ?_⟩
    intro k q hq
    match k, hq with
    | 0, hq => cases hq; exact k0
    | 1, hq => cases hq; exact k1
    | 2, hq => cases hq; exact k2
    | 3, hq => cases hq; exact k3
    | 4, hq => cases hq; exact k4
    | 5, hq => cases hq; exact k5
    | 6, hq => cases hq; exact k6
    | 7, hq => cases hq; exact k7
    | 8, hq => cases hq; exact k8
    | 9, hq => cases hq; exact k9
    | 10, hq => cases hq; exact k10
    | 11, hq => cases hq; exact k11
    | k + 12, hq => simp [vwCl] at hq
  obtain ⟨cB, hB1, hB2⟩ := arrK (hts (.arrayClass .byte) (by decide +kernel))
  obtain ⟨cI, hI1, hI2⟩ := arrK (hts (.arrayClass .int) (by decide +kernel))
  obtain ⟨cJ, hJ1, hJ2⟩ := arrK (hts (.arrayClass .long) (by decide +kernel))
  obtain ⟨cZ, hZ1, hZ2⟩ := arrK (hts (.arrayClass .boolean) (by decide +kernel))
  have hao : (Cond.arrayOver (.object "HutRow$Text")).before #[Value.ref b] s = true := hts _ (by decide +kernel)
  obtain ⟨cT, hT1, hT2⟩ := arrT hao
  obtain ⟨t9, h91, h92⟩ := va_Tof (args := #[Value.ref b]) (tm := .static "HutRow" "FACTS_OF_SORT" "[I") (ty := .int) (N := 4) (f := fun j => .int (fosV.getD j 0)) (A := fun q => s.heap.size ≤ q) (by decide) (hs _ (by decide +kernel))
    (Cond.eq_int (hs (Cond.eq (.length (.static "HutRow" "FACTS_OF_SORT" "[I")) (.int 4)) (by decide +kernel)) rfl) (fun j hj => Cond.eq_int (hs _ (fos_e j hj)) rfl) hA
  obtain ⟨adK, adV, hk1, hk2⟩ := vk_Sof (args := #[Value.ref b]) (s := s) (N := 22) (tm := skT) (len := skN) (byt := skB) (A := fun q => s.heap.size ≤ q) (by decide) (fun i hi => hs _ (sk_a i hi)) (fun i hi => hs _ (sk_b i hi)) (fun i hi => hs _ (sk_c i hi)) (fun i hi => hs _ (sk_d i hi)) (fun i hi j hj => hs _ (sk_e i hi j hj)) (fun i j hi hj hn => (sk_f i hi j hj hn).imp (hs _) (hs _)) hA
  refine ⟨(dC, dI), csF cB cI cJ cZ cT t9 adK adV, ⟨hKc, fun k q hq => ?_⟩, ?_⟩
  · match k, hq with
    | 0, hq => cases hq; exact ⟨hB1, hB2⟩
    | 1, hq => cases hq; exact ⟨hI1, hI2⟩
    | 2, hq => cases hq; exact ⟨hJ1, hJ2⟩
    | 3, hq => cases hq; exact ⟨hZ1, hZ2⟩
    | 4, hq => cases hq; exact ⟨hT1, hT2⟩
    | k + 5, hq => simp [tyl] at hq
  · refine ⟨fun w hw => va_Nw.of ?_ (hts w (nx_tbl w hw)), vx_Zqof (hts _ (by decide +kernel)) (hts _ (by decide +kernel)) (hs _ (by decide +kernel)) hA, vx_Zqof (hts _ (by decide +kernel)) (hts _ (by decide +kernel)) (hs _ (by decide +kernel)) hA,
      ⟨va_Zof (hts _ (by decide +kernel)) (hts _ (by decide +kernel)) h91 hA, h92, va_Zof (hts _ (by decide +kernel)) (hts _ (by decide +kernel)) (va_eqi (hs _ (by decide +kernel))) hA, (vx_Zqof (hts _ (by decide +kernel)) (hts _ (by decide +kernel)) (hs _ (by decide +kernel)) hA).1, va_AO.of hao, fun x hx z hz hn => va_Nc.of (hs _ (nc_tbl x hx z hz hn))⟩, fun i q hi => ?_, ?_⟩
    · exact (show ∀ w ∈ nxW, w.onTables = true by decide +kernel) w hw
    · have hi2 : i < 22 := (List.getElem?_eq_some_iff.mp hi).1
      have e1 : skT i = .string q.1 q.2.1 := by simp [skT, hi]
      have e2 : csF cB cI cJ cZ cT t9 adK adV (100 + i) = adK i := by
        have : 100 + i - 100 = i := by omega
        simp only [csF]
        rw [if_neg (by omega), if_neg (by omega), if_neg (by omega), if_neg (by omega), if_neg (by omega), if_neg (by omega), if_pos (by omega), this]
      rw [e2]
      have h9 := hk2 i hi2
      rw [e1] at h9
      exact vk_R.of (A := #[Value.ref b]) (hts _ (sr_tbl q (List.mem_of_getElem? hi))) h9
    · refine vk_S_congr hk1 (fun i hi => ?_) (fun i hi => ?_)
      · have : 100 + i - 100 = i := by omega
        simp only [csF]
        rw [if_neg (by omega), if_neg (by omega), if_neg (by omega), if_neg (by omega), if_neg (by omega), if_neg (by omega), if_pos (by omega), this]
      · have : 200 + i - 200 = i := by omega
        simp only [csF]
        rw [if_neg (by omega), if_neg (by omega), if_neg (by omega), if_neg (by omega), if_neg (by omega), if_neg (by omega), if_neg (by omega), this]
