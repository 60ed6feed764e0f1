/-! The end: all that is owed, put together. -/
theorem whole_start {p : Program} {e : Env} {s : State} {m : MethodId} {below : List Frame} {meth : Method} {c : Code} (l : Launch) {b L : Nat} {xs : Nat → Int32} (hL : L ≤ 3072) (C0 : lw_At p s m meth c b L xs) : W p l e room_1 s m #[Value.ref b] below meth c s.heap [] 0 0 (lw_Z below #[Value.ref b] s) (entryFrame m ([Value.ref b] : List Value).toArray 4) := by
  obtain ⟨σB, b1, b2, b3, hB⟩ := X0_become (σ := q_0) (k := 0) (n := 3) (by unfold Sz; omega)
  obtain ⟨σ1, s1, s2, s3, hS1⟩ := M_showOnes (τ := m_0) (b := 0)
  have h19 : σ1.1 0 19 = 0 := by rw [(s1 0 19 (by decide)).1]; rfl
  have h27 : σ1.1 0 27 = 0 := by rw [(s1 0 27 (by decide)).1]; rfl
  exact whole_open hB hS1 h19 h27 (fun σ τ N h => RR_N h) (ops_all h19 h27) (start_rel b1 s1 s2 s3) l hL C0
