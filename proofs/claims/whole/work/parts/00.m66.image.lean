/-! Operations: image, back. -/
/-- the kept mould, changed alike; the world of the reference may have grown by an object -/
theorem Rel_kp {σ σ' τ τ' : q_M} {N N' K K' A n p o t : Nat} (h : Rel σ τ N K A n p o t) (hX : ag (fun c j => sX1 c j ∧ ¬ ((8 ≤ c ∧ c ≤ 14) ∨ (c = 0 ∧ j = 3))) σ σ') (hM : ag (fun c j => c < 29 ∧ ¬ (c = 0 ∧ (j = 19 ∨ j = 27))) τ τ') (hS : RSt τ' N' K' A) (hB : ∃ m, Blk σ' 9 m) (hK : RKp σ' τ' K') : Rel σ' τ' N' K' A n p o t := by
  obtain ⟨h1, h2, _, ⟨m4, h4⟩, h5, h6, h7, h8⟩ := h
  refine ⟨hS, RM_fr h2 (fun c j hc => hX c j ?_) (fun c j hc => hM c j ?_), hB, ⟨m4, Blk_fr h4 (fun c j hc => hX c j ?_)⟩, hK, RSh_fr h6 (fun c j hc => hX c j ?_) (fun c j hc => hM c j ?_), RRf_fr h7 (fun c j hc => hX c j ?_) (fun c j hc => hM c j ?_), RTp_fr h8 (fun c j hc => hX c j ?_) (fun c j hc => hM c j ?_)⟩
  · have hc' : 1 ≤ c ∧ c ≤ 1 + 6 := hc
    unfold sX1
    omega
  · have hc' : (c = 0 ∧ (j = 11 ∨ j = 12 ∨ j = 13 ∨ j = 15 ∨ j = 17 ∨ j = 18)) ∨ c = 0 + 11 ∨ c = 0 + 12 := hc
    show c < 29 ∧ ¬ (c = 0 ∧ (j = 19 ∨ j = 27))
    omega
  · have hc' : 16 ≤ c ∧ c ≤ 16 + 3 := hc
    unfold sX1
    omega
  · have hc' : 31 ≤ c := hc
    unfold sX1
    omega
  · have hc' : c = 1 ∨ c = 2 ∨ c = 3 ∨ c = 6 ∨ c = 7 ∨ c = 8 ∨ (21 ≤ c ∧ c ≤ 28) := hc
    show c < 29 ∧ ¬ (c = 0 ∧ (j = 19 ∨ j = 27))
    omega
  · have hc' : c = 28 := hc
    unfold sX1
    omega
  · have hc' : c = 10 := hc
    show c < 29 ∧ ¬ (c = 0 ∧ (j = 19 ∨ j = 27))
    omega
  · have hc' : (c = 23 ∧ j = 0) ∨ c = 24 := hc
    unfold sX1
    omega
  · have hc' : (c = 0 ∧ j = 9) ∨ c = 9 := hc
    show c < 29 ∧ ¬ (c = 0 ∧ (j = 19 ∨ j = 27))
    omega
theorem op_image {σ1 : q_M} (h19 : σ1.1 0 19 = 0) (h27 : σ1.1 0 27 = 0) : Op_image σ1 RR := by
  intro σ τ N h
  have hNN := RR_N h
  obtain ⟨K, A, n, p, o, t, hR⟩ := h
  have hSt := hR.1
  obtain ⟨s1, s2, s3, s4, s5, s6, s7⟩ := hSt
  obtain ⟨σ2, r1, r2, r3⟩ := X2_take (k := 8) (k1 := 1) (by omega) hR.2.1 (by
    obtain ⟨m, hm⟩ := hR.2.2.1
    exact ⟨m, hm⟩)
  let σ' : q_M := q_I σ2 0 3 1
  have eX : fX8_image σ = some (1, σ') := by
    unfold fX8_image
    rw [r3, bs, ql]
  have aX : ag (fun c j => sX1 c j ∧ ¬ ((8 ≤ c ∧ c ≤ 14) ∨ (c = 0 ∧ j = 3))) σ σ' := ag_tr (ag_sub r2 (fun c j hc => by
    show c < 8 ∨ 8 + 6 < c
    have := hc.2
    omega)) (ag_I (fun z => z.2 (Or.inr ⟨rfl, rfl⟩)))
  have rm' : RM σ' 8 τ 0 n p o := RM_fr r1 (ag_I (fun z => by
    have z' : 8 ≤ 0 ∧ 0 ≤ 8 + 6 := z
    omega)) (ag_rf _ _)
  have hB : ∃ m, Blk σ' 9 m := ⟨n, rm'.1⟩
  have h3 : ¬ σ'.1 0 3 = 0 := by
    rw [show σ'.1 0 3 = 1 from I_at]; decide
  refine ⟨σ', ?_⟩
  by_cases q : K = 0
  · let τ0 : q_M := q_I (glM τ σ1 N) 0 19 (nI N)
    have N29 : 29 ≤ N := by have := hNN.1.2; omega
    have gl : ∀ c j, c < N → ¬ (c = 0 ∧ j = 19) → τ0.1 c j = τ.1 c j ∧ τ0.2 c j = τ.2 c j := fun c j hc hj => by
      refine ⟨?_, ?_⟩
      · show (q_I (glM τ σ1 N) 0 19 (nI N)).1 c j = _
        rw [I_of hj]
        show (if c < N then τ.1 c else σ1.1 (c - N)) j = _
        rw [if_pos hc]
      · show (if c < N then τ.2 c else σ1.2 (c - N)) j = _
        rw [if_pos hc]
    obtain ⟨τ', m0, m1, m2, m3, m4, m5, m6, m7, m8, m9⟩ := M_take (τ := τ0) (k := N) (k1 := 0) (by omega)
    refine ⟨τ', eX, Or.inl ⟨by rw [s1, q]; rfl, m9, N, A, n, p, o, t, ?_⟩⟩
    have rm0 : RM σ' 8 τ0 0 n p o := RM_fr rm' (ag_rf _ _) (fun c j hc => gl c j (by
      have hc' : (c = 0 ∧ (j = 11 ∨ j = 12 ∨ j = 13 ∨ j = 15 ∨ j = 17 ∨ j = 18)) ∨ c = 0 + 11 ∨ c = 0 + 12 := hc
      omega) (by
      have hc' : (c = 0 ∧ (j = 11 ∨ j = 12 ∨ j = 13 ∨ j = 15 ∨ j = 17 ∨ j = 18)) ∨ c = 0 + 11 ∨ c = 0 + 12 := hc
      omega))
    refine Rel_kp hR aX (fun c j hc => ?_) ?_ hB (Or.inr ⟨by omega, h3, n, p, o, RM_tk rm0 m1 m2 m3 m4 m5 m6 m7 m8⟩)
    · have hc' : c < 29 ∧ ¬ (c = 0 ∧ (j = 19 ∨ j = 27)) := hc
      have e := m0 c j (by intro z; omega)
      have e2 := gl c j (by omega) (by omega)
      exact ⟨e.1.trans e2.1, e.2.trans e2.2⟩
    · refine ⟨?_, ?_, Or.inr ⟨by omega, by omega⟩, ?_, fun _ => by omega, ?_, fun k hk hk2 hk0 => ?_⟩
      · rw [(m0 0 19 (by intro z; omega)).1]
        exact I_at
      · rw [(m0 0 27 (by intro z; omega)).1, (gl 0 27 (by omega) (by omega)).1]
        exact s2
      · rcases s4 with z | z
        · exact Or.inl z
        · exact Or.inr ⟨z.1, by omega⟩
      · rw [if_pos q] at s6
        rw [if_neg (show ¬ N = 0 by omega)]
        omega
      · by_cases z : k < N
        · rw [(m0 k 19 (by intro y; omega)).1, (m0 k 27 (by intro y; omega)).1, (gl k 19 z (by omega)).1, (gl k 27 z (by omega)).1]
          exact s7 k z hk2 hk0
        · have : k = N := by have := hNN.2.1; omega
          subst this
          rw [(m0 k 19 (by intro y; omega)).1, (m0 k 27 (by intro y; omega)).1]
          have g1 : τ0.1 k 19 = σ1.1 0 19 := by
            show (q_I (glM τ σ1 k) 0 19 (nI k)).1 k 19 = _
            rw [I_of (by omega)]
            show (if k < k then τ.1 k else σ1.1 (k - k)) 19 = _
            rw [if_neg (by omega), Nat.sub_self]
          have g2 : τ0.1 k 27 = σ1.1 0 27 := by
            show (q_I (glM τ σ1 k) 0 19 (nI k)).1 k 27 = _
            rw [I_of (by omega)]
            show (if k < k then τ.1 k else σ1.1 (k - k)) 27 = _
            rw [if_neg (by omega), Nat.sub_self]
          rw [g1, g2]
          exact ⟨h19, h27⟩
  · have hK29 := K29 hR.1 q
    rcases s3 with z | ⟨k1, k2⟩
    · exact absurd z q
    obtain ⟨τ', m0, m1, m2, m3, m4, m5, m6, m7, m8, m9⟩ := M_take (τ := τ) (k := K) (k1 := 0) (by omega)
    refine ⟨τ', eX, Or.inr ⟨K, s1, ⟨k1, k2⟩, q, m9, K, A, n, p, o, t, ?_⟩⟩
    refine Rel_kp hR aX (fun c j hc => m0 c j ?_) ?_ hB (Or.inr ⟨q, h3, n, p, o, RM_tk rm' m1 m2 m3 m4 m5 m6 m7 m8⟩)
    · have hc' : c < 29 ∧ ¬ (c = 0 ∧ (j = 19 ∨ j = 27)) := hc
      intro z
      omega
    · refine RSt_fr hR.1 (fun c j hc => m0 c j ?_)
      have hc' : c % 29 = 0 ∧ (j = 19 ∨ j = 27) := hc
      intro z
      omega
theorem op_back : Op_back RR := by
  intro σ τ N h
  have h0 := h
  obtain ⟨K, A, n, p, o, t, hR⟩ := h
  have hSt := hR.1
  obtain ⟨s1, s2, s3, s4, s5, s6, s7⟩ := hSt
  unfold fX8_back
  rcases hR.2.2.2.2.1 with ⟨q, e3⟩ | ⟨q, e3, n', p', o', rk⟩
  · rw [if_pos e3, X_stk, bs]
    refine ⟨_, _, rfM τ 3, rfl, Or.inl ⟨by rw [s1, q]; rfl, ?_⟩, RR_rf h0 (by decide)⟩
    unfold fX9_backA
    exact M_stk τ
  · have hK29 := K29 hR.1 q
    rcases s3 with z | ⟨k1, k2⟩
    · exact absurd z q
    obtain ⟨σ', r1, r2, r3⟩ := X2_take (k := 1) (k1 := 8) (by omega) rk ⟨n, hR.2.1.1⟩
    obtain ⟨τ', m0, m1, m2, m3, m4, m5, m6, m7, m8, m9⟩ := M_take (τ := τ) (k := 0) (k1 := K) (by omega)
    rw [if_neg e3, r3, bs]
    refine ⟨1, σ', τ', rfl, Or.inr ⟨K, s1, ⟨k1, k2⟩, q, ?_⟩, K, A, n', p', o', t, Rel_mo hR (ag_sub r2 (fun c j hc => ?_)) (fun c j hc => m0 c j ?_) (RM_tk r1 m1 m2 m3 m4 m5 m6 m7 m8)⟩
    · unfold fX9_backB
      rw [m9, bs]
    · have := hc.2
      show c < 1 ∨ 1 + 6 < c
      omega
    · have hc' : sM1 c j ∧ ¬ ((c = 0 ∧ (j = 11 ∨ j = 12 ∨ j = 13 ∨ j = 15 ∨ j = 17 ∨ j = 18)) ∨ c = 11 ∨ c = 12) := hc
      intro z
      omega
