/-! the law, as the interpreter sees it -/
theorem law_wp (L : Nat) (xs : Nat → Int32) (hL : L ≤ 2560) : ∃ n, wp n 0 0 (mkL 4 [.inr (.inr (some 0))]) [] (hp0 L xs) 0 0 (fun v _ => v = some (.inl 1)) := by
  sorry
theorem whole_start {p : Program} {e : Env} {s : State} {m : MethodId} {below : List Frame} {meth : Method} {c : Code} (l : Launch) {b L : Nat} {xs : Nat → Int32} (hL : L ≤ 2560) (C0 : lw_At p s m meth c b L xs) : W p l e room_1 s m #[Value.ref b] below meth c s.heap [] 0 0 (lw_Z below #[Value.ref b] s) (entryFrame m ([Value.ref b] : List Value).toArray 4) := whole_open law_wp l hL C0
