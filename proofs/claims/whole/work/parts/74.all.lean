/-! the start, and all of it -/
theorem inv0 : Inv 0 f0 m0 := by
  refine ⟨by omega, ⟨⟨rfl, rfl, rfl, rfl, rfl, rfl, ⟨0, by omega, rfl⟩, ⟨5000, by omega, rfl⟩, ⟨80, by omega, by omega, rfl⟩, ⟨4, by omega, rfl⟩, ⟨0, by omega, rfl⟩⟩, 0, 0, 0, 0, 0, 0, 0, ?_, ?_, ?_, ?_, ?_, ?_, ?_⟩, ?_, ?_, ?_, ?_, ?_, ?_, ?_⟩
  · exact ⟨by omega, rfl, rfl, fun i hi => absurd hi (by omega), fun i hi => absurd hi (by omega), fun i hi => absurd hi (by omega)⟩
  · exact ⟨by omega, rfl, rfl, rfl, fun i hi => absurd hi (by omega), fun i hi => absurd hi (by omega), fun i hi => absurd hi (by omega)⟩
  · exact ⟨by omega, rfl, rfl, fun i hi => absurd hi (by omega), fun i hi => absurd hi (by omega), fun i hi => absurd hi (by omega), fun i hi => absurd hi (by omega)⟩
  · exact ⟨by omega, rfl, rfl, fun i hi => absurd hi (by omega)⟩
  · exact ⟨by omega, rfl, rfl, rfl, fun i hi => absurd hi (by omega), fun i hi => absurd hi (by omega)⟩
  · exact ⟨by omega, rfl, rfl, fun i hi => absurd hi (by omega), fun i hi => absurd hi (by omega)⟩
  · refine ⟨by omega, rfl, rfl, fun i hi => absurd hi (by omega), fun t _ => Or.inl rfl, fun k hk => ?_⟩
    have : k = 0 ∨ k = 1 ∨ k = 2 := by omega
    rcases this with rfl | rfl | rfl <;> rfl
  · exact ⟨by decide, Or.inl ⟨rfl, rfl⟩⟩
  · intro i hi
    have : i = 0 ∨ i = 1 ∨ i = 2 ∨ i = 3 := by omega
    rcases this with rfl | rfl | rfl | rfl <;> exact ⟨Or.inl ⟨rfl, rfl⟩, ⟨0, by omega, rfl, rfl⟩, fun k _ => rfl⟩
  · intro i hi
    have : i = 0 ∨ i = 1 ∨ i = 2 ∨ i = 3 ∨ i = 4 := by omega
    rcases this with rfl | rfl | rfl | rfl | rfl <;> exact ⟨0, by omega, rfl, rfl, fun h => absurd h (by omega), fun h => absurd h (by omega), fun h => absurd h (by omega)⟩
  · exact ⟨0, by omega, rfl, rfl, fun i hi => absurd hi (by omega)⟩
  · exact ⟨0, by omega, rfl, rfl, fun i hi => absurd hi (by omega)⟩
  · exact ⟨fun _ _ => rfl, fun _ _ => rfl⟩
  · exact ⟨rfl, rfl, rfl, rfl⟩
theorem whole_start {p : Program} {e : Env} {s : State} {m : MethodId} {below : List Frame} {meth : Method} {c : Code} (l : Launch) {b L : Nat} {xs : Nat → Int32} (hL : L ≤ 384) (C0 : lw_At p s m meth c b L xs) : W p l e room_1 s m #[Value.ref b] below meth c s.heap [] 0 0 (lw_Z below #[Value.ref b] s) (entryFrame m ([Value.ref b] : List Value).toArray 4) := by
  exact whole_open l (n := 5000) (Inv := Inv) hL C0 inv0 (s_coil (n := 5000) (by omega)) (s_coilTold (n := 5000) (by omega)) (s_creep (n := 5000) (by omega)) (s_pair (n := 5000) (by omega)) (s_part (n := 5000) (by omega)) (s_watch (n := 5000) (by omega)) (s_seen (n := 5000) (by omega)) (s_line (n := 5000) (by omega)) (s_step (n := 5000) (by omega)) (s_told (n := 5000) (by omega)) (s_as (n := 5000) (by omega)) (s_turns (n := 5000) (by omega)) (s_drop (n := 5000) (by omega)) (s_set (n := 5000) (by omega)) (s_fit (n := 5000) (by omega)) (s_run (n := 5000) (by omega)) (s_news (n := 5000) (by omega)) (s_since (n := 5000) (by omega)) (s_falls (n := 5000) (by omega)) (s_await (n := 5000) (by omega)) (s_beyond (n := 5000) (by omega)) (s_seed (n := 5000) (by omega)) (s_feed (n := 5000) (by omega)) (s_trim (n := 5000) (by omega)) (s_text (n := 5000) (by omega)) (s_textTold (n := 5000) (by omega)) (s_why (n := 5000) (by omega)) (s_knock (n := 5000) (by omega)) (s_pour (n := 5000) (by omega)) (s_chance (n := 5000) (by omega)) (s_width (n := 5000) (by omega)) (s_key (n := 5000) (by omega)) (s_keys (n := 5000) (by omega)) (s_jokes (n := 5000) (by omega)) (s_offer (n := 5000) (by omega)) (s_clear (n := 5000) (by omega)) (s_best (n := 5000) (by omega)) (s_soonest (n := 5000) (by omega)) (s_sheet (n := 5000) (by omega)) (s_mark (n := 5000) (by omega)) (s_reads (n := 5000) (by omega)) (s_copy (n := 5000) (by omega)) (s_lay (n := 5000) (by omega)) (s_ask (n := 5000) (by omega)) (s_item (n := 5000) (by omega)) (s_rest (n := 5000) (by omega)) (s_tell (n := 5000) (by omega)) (s_check (n := 5000) (by omega)) (s_keep (n := 5000) (by omega)) (s_back (n := 5000) (by omega)) (s_count (n := 5000) (by omega))
