/-- the claim's walk out of the pure one -/
theorem whole_start (l : Launch) (hst : l.stackTraces = false) (law0_all : ∀ (xs : Nat → Int32) (L : Nat), L ≤ 3072 → law0 xs L) {p : Program} {e : Env} {s : State} {m : MethodId} {below : List Frame} {meth : Method} {c : Code} {b L : Nat} {xs : Nat → Int32} (hbd : L ≤ 3072) (C0 : lw_At p s m meth c b L xs) : W p l e room_1 s m #[Value.ref b] below meth c s.heap [] 0 0 (lw_Z below #[Value.ref b] s) (entryFrame m ([Value.ref b] : List Value).toArray 7) := by
  obtain ⟨D, cs, hK, hG⟩ := law_env C0
  obtain ⟨hx, hb, hr, hml, hown, hts, hX, hbl, hlocks, hgv⟩ := id C0
  have S : CallFix p m c cL_law 7 s #[Value.ref b] (Cond.initialized RX10 :: wsL_law) RL := ⟨hx, hb, hml, hown, fun w hw => hts w (by
    rcases List.mem_cons.mp hw with h | h
    · subst h; exact wsL_law_in _ wg2
    · exact wsL_law_in w h)⟩
  have hl := lv_entry [Value.ref b] (n := 7) (Nat.le_of_ble_eq_true rfl)
  rw [lg_entry_eq]
  generalize (lg_sl [Value.ref b] ++ List.replicate (7 - (lg_sl [Value.ref b]).length) Slot.unset).toArray = ls at hl ⊢
  exact whole_walk hst S hr hlocks hX hbl (law0_all xs L hbd) ⟨hK, (fun i q h => by simp [wl, va_pl, eL, E0] at h), ⟨fun i j x y h => by simp [wl, va_pl, eL, E0] at h, fun k q h => by simp [wl, va_pl, eL, E0] at h⟩, va_S.rf, fun q h => h, rfl, hG⟩ hl
