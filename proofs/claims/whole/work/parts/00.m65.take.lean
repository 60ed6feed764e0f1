/-! Operations: size, image, back. -/
theorem M_showOnes {τ : q_M} {b : Nat} : ∃ τ', ag (fun c _ => c ≠ b + 12) τ τ' ∧ τ'.2 = τ.2 ∧ (∀ c, c < 64 → τ'.1 (b + 12) c = 1) ∧ fX9_showOnes b τ = some τ' := by
  have key := lp_ex (fun f (u : Nat × q_M) => fX9_showOnes_c2 b f (nI u.1) u.2) (fun m u => u.1 = m ∧ ag (fun c _ => c ≠ b + 12) τ u.2 ∧ u.2.2 = τ.2 ∧ ∀ c, c < m → u.2.1 (b + 12) c = 1) 64 (fun u => some u.2) ?_ ?_ q_FU (0, τ) (by decide) ⟨rfl, ag_rf _ _, rfl, fun i hi => by omega⟩
  · obtain ⟨⟨_, τ'⟩, ⟨_, a1, a2, a3⟩, a5⟩ := key
    exact ⟨τ', a1, a2, a3, a5⟩
  · rintro f m ⟨u, τ2⟩ hm ⟨rfl, g1, g2, g3⟩
    have hu : u < 64 := hm
    refine ⟨(u + 1, q_I τ2 (b + 12) u 1), ⟨rfl, ag_tr g1 (ag_I (fun w => w rfl)), g2, fun i hi => ?_⟩, ?_⟩
    · show (q_I τ2 (b + 12) u 1).1 (b + 12) i = 1
      by_cases q : i = u
      · subst q; exact I_at
      · rw [I_of (fun w => q w.2)]; exact g3 i (by omega)
    · show fX9_showOnes_c2b b (fX9_showOnes_c2 b f) (nI u) τ2 = _
      unfold fX9_showOnes_c2b
      rw [if_neg (show ¬ (64 : Int32) ≤ nI u from nI_ge (a := u) (b := 64) hu (by decide)), gd hu (by decide), ql, nI_clamp (by omega), nI_1]
  · rintro f ⟨u, τ2⟩ ⟨hu, _⟩
    have hu' : u = 64 := hu
    subst hu'
    show fX9_showOnes_c2b b (fX9_showOnes_c2 b f) (nI 64) τ2 = _
    unfold fX9_showOnes_c2b
    rw [if_pos (show (64 : Int32) ≤ nI 64 by decide)]
theorem X2_clear {σ : q_M} {k m : Nat} (hm : Sz m) : ∃ σ', ag (fun c j => c < k ∨ k + 6 < c ∨ (c = k ∧ (j = 4 ∨ j = 5))) σ σ' ∧ Blk σ' (k + 1) m ∧ σ'.2 k 1 = 0 ∧ σ'.1 k 2 = 0 ∧ σ'.1 k 3 = 0 ∧ (∀ i, i < 4 → σ'.2 (k + 6) i = if i = 0 then allL m else 0) ∧ fX2_clearTo k (nI m) σ = some σ' := by
  obtain ⟨σ1, b1, b2, b3, b4⟩ := X0_become (σ := σ) (k := k + 1) hm
  let σ2 : q_M := q_I (q_I (q_L σ1 k 1 0) k 2 0) k 3 0
  obtain ⟨σ3, c1, c2, c3, c4⟩ := J_fill (σ := σ2) (k := k + 6) (m := 4) (by decide)
  have Bk : Blk σ3 (k + 1) m := Blk_fr b1 (ag_tr (ag_tr (ag_L (fun z => by
      have z' : k + 1 ≤ k ∧ k ≤ k + 1 + 3 := z
      omega)) (ag_tr (ag_I (fun z => by
      have z' : k + 1 ≤ k ∧ k ≤ k + 1 + 3 := z
      omega)) (ag_I (fun z => by
      have z' : k + 1 ≤ k ∧ k ≤ k + 1 + 3 := z
      omega)))) (ag_sub c1 (fun c j hc => by
      have z' : k + 1 ≤ c ∧ c ≤ k + 1 + 3 := hc
      show c ≠ k + 6
      omega)))
  refine ⟨q_L σ3 (k + 6) 0 (allL m), ?_, ?_, ?_, ?_, ?_, ?_, ?_⟩
  · refine ag_tr (ag_sub b2 (fun c j hc => ?_)) (ag_tr (ag_tr (ag_L (fun z => ?_)) (ag_tr (ag_I (fun z => ?_)) (ag_I (fun z => ?_)))) (ag_tr (ag_sub c1 (fun c j hc => ?_)) (ag_L (fun z => ?_))))
    · have hc' : c < k ∨ k + 6 < c ∨ (c = k ∧ (j = 4 ∨ j = 5)) := hc
      show c < k + 1 ∨ k + 1 + 3 < c
      omega
    · have z' : k < k ∨ k + 6 < k ∨ (k = k ∧ (1 = 4 ∨ 1 = 5)) := z
      omega
    · have z' : k < k ∨ k + 6 < k ∨ (k = k ∧ (2 = 4 ∨ 2 = 5)) := z
      omega
    · have z' : k < k ∨ k + 6 < k ∨ (k = k ∧ (3 = 4 ∨ 3 = 5)) := z
      omega
    · have hc' : c < k ∨ k + 6 < c ∨ (c = k ∧ (j = 4 ∨ j = 5)) := hc
      show c ≠ k + 6
      omega
    · have z' : k + 6 < k ∨ k + 6 < k + 6 ∨ (k + 6 = k ∧ (0 = 4 ∨ 0 = 5)) := z
      omega
  · exact Blk_fr Bk (ag_L (fun z => by
      have z' : k + 1 ≤ k + 6 ∧ k + 6 ≤ k + 1 + 3 := z
      omega))
  · rw [L_of (by omega), (c1 k 1 (by show k ≠ k + 6; omega)).2]
    show (q_L σ1 k 1 0).2 k 1 = 0
    exact L_at
  · show σ3.1 k 2 = 0
    rw [(c1 k 2 (by show k ≠ k + 6; omega)).1]
    show (q_I (q_I (q_L σ1 k 1 0) k 2 0) k 3 0).1 k 2 = 0
    rw [I_of (by omega), I_at]
  · show σ3.1 k 3 = 0
    rw [(c1 k 3 (by show k ≠ k + 6; omega)).1]
    show (q_I (q_I (q_L σ1 k 1 0) k 2 0) k 3 0).1 k 3 = 0
    rw [I_at]
  · intro i hi
    by_cases q : i = 0
    · subst q
      rw [L_at, if_pos rfl]
    · rw [L_of (fun w => q w.2), if_neg q]
      exact c3 i hi
  · unfold fX2_clearTo fX2_dropPieces
    rw [b4, bs, ql, ql, ql, bs]
    show (fJ7_fill_d0a16 (k + 6) 4 0 σ2).bind _ = _
    rw [c4, bs, if_pos (by decide), ql, Bk.2.2.2.1]
    rfl
theorem M_new {τ : q_M} {m : Nat} : ∃ τ', ag (fun c j => ¬ (c = 12 ∨ (c = 0 ∧ (j = 11 ∨ j = 12 ∨ j = 13 ∨ j = 15)))) τ τ' ∧ τ'.1 0 11 = nI m ∧ τ'.2 0 12 = 0 ∧ τ'.1 0 13 = 0 ∧ τ'.1 0 15 = 0 ∧ (∀ c, c < 64 → τ'.1 12 c = 1) ∧ fX9_newSize 0 (nI m) τ = some τ' := by
  let τ2 : q_M := q_I (q_I (q_L (q_I τ 0 11 (nI m)) 0 12 0) 0 13 0) 0 15 0
  obtain ⟨τ', a1, a2, a3, a4⟩ := M_showOnes (τ := τ2) (b := 0)
  refine ⟨τ', ?_, ?_, ?_, ?_, ?_, a3, ?_⟩
  · refine ag_tr (ag_tr (ag_I (fun z => z (by omega))) (ag_tr (ag_L (fun z => z (by omega))) (ag_tr (ag_I (fun z => z (by omega))) (ag_I (fun z => z (by omega)))))) (ag_sub a1 (fun c j hc => fun w => hc (Or.inl w)))
  · rw [(a1 0 11 (by show 0 ≠ 0 + 12; omega)).1]
    show (q_I (q_I (q_L (q_I τ 0 11 (nI m)) 0 12 0) 0 13 0) 0 15 0).1 0 11 = _
    rw [I_of (by omega), I_of (by omega), L_1, I_at]
  · rw [a2]
    show (q_L (q_I τ 0 11 (nI m)) 0 12 0).2 0 12 = 0
    exact L_at
  · rw [(a1 0 13 (by show 0 ≠ 0 + 12; omega)).1]
    show (q_I (q_I (q_L (q_I τ 0 11 (nI m)) 0 12 0) 0 13 0) 0 15 0).1 0 13 = _
    rw [I_of (by omega), I_at]
  · rw [(a1 0 15 (by show 0 ≠ 0 + 12; omega)).1]
    exact I_at
  · unfold fX9_newSize
    rw [ql, ql, ql, ql]
    show (fX9_showOnes 0 τ2).bind _ = _
    rw [a4, bs]
theorem RM_new {σ σ' τ τ' : q_M} {k n p o m : Nat} (h : RM σ k τ 0 n p o) (hm : Sz m) (a1 : ag (fun c j => c < k ∨ k + 6 < c ∨ (c = k ∧ (j = 4 ∨ j = 5))) σ σ') (a2 : Blk σ' (k + 1) m) (a3 : σ'.2 k 1 = 0) (a4 : σ'.1 k 2 = 0) (a5 : σ'.1 k 3 = 0) (a6 : ∀ i, i < 4 → σ'.2 (k + 6) i = if i = 0 then allL m else 0) (b1 : ag (fun c j => ¬ (c = 12 ∨ (c = 0 ∧ (j = 11 ∨ j = 12 ∨ j = 13 ∨ j = 15)))) τ τ') (b2 : τ'.1 0 11 = nI m) (b3 : τ'.2 0 12 = 0) (b4 : τ'.1 0 13 = 0) (b5 : τ'.1 0 15 = 0) (b6 : ∀ c, c < 64 → τ'.1 12 c = 1) : RM σ' k τ' 0 m 0 0 := by
  obtain ⟨h1, h2, h3, h4, h5, h6, h7, h8, h9, h10, h11, ⟨u, u1, u2, u3, u4⟩, ⟨w, w1, w2, w3, w4⟩, h14, h15⟩ := h
  have h64 := hm.cube
  refine ⟨a2, b2, by rw [a3, b3], by rw [b3]; exact inB_0 m, by decide, a4, b4, by decide, a5, b5, fun i hi => by omega, ⟨u, u1, u2, ?_, ?_⟩, ⟨w, w1, w2, ?_, ?_⟩, ?_, ?_⟩
  · rw [(a1 k 4 (Or.inr (Or.inr ⟨rfl, Or.inl rfl⟩))).1]; exact u3
  · rw [(b1 0 17 (by intro z; omega)).1]; exact u4
  · rw [(a1 k 5 (Or.inr (Or.inr ⟨rfl, Or.inr rfl⟩))).1]; exact w3
  · rw [(b1 0 18 (by intro z; omega)).1]; exact w4
  · intro i hi
    rw [a6 i hi]
    by_cases q : i = 0
    · rw [if_pos q]
      intro c hc
      rw [tb_allL hm, decide_eq_true_iff] at hc
      exact hc
    · rw [if_neg q]; exact inB_0 m
  · intro c hc
    refine ⟨1, by decide, b6 c (by omega), fun i hi => ?_⟩
    rw [a6 i hi]
    by_cases q : i = 0
    · subst q
      rw [if_pos rfl, tb_allL hm, decide_eq_true hc]
      rfl
    · rw [if_neg q, tb_0]
      exact ((by decide +kernel : ∀ i, i < 4 → i ≠ 0 → (1 : Nat).testBit i = false) i hi q).symm
theorem op_size : Op_size RR := by
  intro σ τ N x h
  have h0 := h
  obtain ⟨K, A, n, p, o, t, hR⟩ := h
  obtain ⟨h1, h2, _⟩ := hR.2.1
  have B : Blk σ 2 n := h1
  unfold fX8_size fX9_size
  rw [X_bad, bs, show (2 : Int64) = lN 2 from rfl, show (4 : Int64) = lN 4 from rfl, M_inG (by decide) (by decide), bs]
  by_cases q1 : x < 2
  · rw [if_pos q1, decide_eq_true (show x < nI 2 from q1), if_pos (show b1 (!true && _) = 0 from rfl), M_bad, bs]
    exact ⟨_, _, _, rfl, rfl, RR_rf h0 (by decide)⟩
  rw [if_neg q1, decide_eq_false (show ¬ x < nI 2 from q1)]
  by_cases q2 : x ≤ 4
  · rw [if_pos q2, decide_eq_true (show x ≤ nI 4 from q2), if_neg (show ¬ b1 (!false && true) = 0 from b1_ne)]
    obtain ⟨m, hm, rfl⟩ : ∃ m, Sz m ∧ x = nI m := by
      obtain ⟨v, hv, rfl⟩ := nI_of (x := x) (fun z => q1 (by
        rw [Int32.lt_iff_toInt_lt] at z ⊢
        have e1 : (2 : Int32).toInt = 2 := by decide
        have e0 : (0 : Int32).toInt = 0 := by decide
        omega))
      have v4 : v ≤ 4 := (nI_leI (b := 4) hv (by decide)).mp q2
      have v2 : 2 ≤ v := by
        rcases Nat.lt_or_ge v 2 with z | z
        · exact absurd (nI_lt (b := 2) z (by decide)) q1
        · exact z
      exact ⟨v, by unfold Sz; omega, rfl⟩
    obtain ⟨σ', a1, a2, a3, a4, a5, a6, a7⟩ := X2_clear (σ := σ) (k := 1) hm
    obtain ⟨τ', b1, b2, b3, b4, b5, b6, b7⟩ := M_new (τ := τ) (m := m)
    rw [a7, bs, b7, bs, B.2.1, h2]
    refine ⟨_, _, _, rfl, rfl, K, A, m, 0, 0, t, Rel_mo hR (ag_sub a1 (fun c j hc => ?_)) (ag_sub b1 (fun c j hc => ?_)) (RM_new hR.2.1 hm a1 a2 a3 a4 a5 a6 b1 b2 b3 b4 b5 b6)⟩
    · have hc' : sX1 c j ∧ ¬ (1 ≤ c ∧ c ≤ 7) := hc
      show c < 1 ∨ 1 + 6 < c ∨ (c = 1 ∧ (j = 4 ∨ j = 5))
      omega
    · have hc' : sM1 c j ∧ ¬ ((c = 0 ∧ (j = 11 ∨ j = 12 ∨ j = 13 ∨ j = 15 ∨ j = 17 ∨ j = 18)) ∨ c = 11 ∨ c = 12) := hc
      show ¬ (c = 12 ∨ (c = 0 ∧ (j = 11 ∨ j = 12 ∨ j = 13 ∨ j = 15)))
      omega
  · rw [if_neg q2, decide_eq_false (show ¬ x ≤ nI 4 from q2), if_pos (show b1 (!false && false) = 0 from rfl), M_bad, bs]
    exact ⟨_, _, _, rfl, rfl, RR_rf h0 (by decide)⟩
/-- a mould taken over: the program's -/
theorem X2_take {σ τ : q_M} {k k1 b n p o : Nat} (hd : k + 6 < k1 ∨ k1 + 6 < k) (h : RM σ k1 τ b n p o) (hB : ∃ m, Blk σ (k + 1) m) : ∃ σ', RM σ' k τ b n p o ∧ ag (fun c _ => c < k ∨ k + 6 < c) σ σ' ∧ fX2_takeFrom k k1 σ = some σ' := by
  obtain ⟨h1, h2, h3, h4, h5, h6, h7, h8, h9, h10, h11, ⟨u, u1, u2, u3, u4⟩, ⟨w, w1, w2, w3, w4⟩, h14, h15⟩ := h
  have c31 : ∀ σ1 : q_M, Blk σ1 (k + 1) n → ag (fun c _ => c < k ∨ k + 6 < c) σ σ1 → ∃ σ', RM σ' k τ b n p o ∧ ag (fun c _ => c < k ∨ k + 6 < c) σ σ' ∧ fX2_takeFrom_c31 k k1 σ1 = some σ' := by
    intro σ1 B1 a1
    have A : ∀ c j, (k1 ≤ c ∧ c ≤ k1 + 6) → σ1.1 c j = σ.1 c j ∧ σ1.2 c j = σ.2 c j := fun c j hc => a1 c j (by show c < k ∨ k + 6 < c; omega)
    let σ5 : q_M := q_I (q_I (q_I (q_I (q_L σ1 k 1 (σ.2 k1 1)) k 2 (nI p)) k 3 (nI o)) k 4 (nI u)) k 5 (nI w)
    let σ9 : q_M := q_C (q_C σ5 (k1 + 5) (k + 5) 0 0 8) (k1 + 6) (k + 6) 0 0 4
    have e9i : ∀ c j, σ9.1 c j = (q_I (q_I (q_I (q_I σ1 k 2 (nI p)) k 3 (nI o)) k 4 (nI u)) k 5 (nI w)).1 c j := fun _ _ => rfl
    have e9l : ∀ c j, c ≠ k + 5 → c ≠ k + 6 → σ9.2 c j = (q_L σ1 k 1 (σ.2 k1 1)).2 c j := fun c j z1 z2 => by
      show (if c = k + 6 then va_cpy _ _ 0 0 4 j else (if c = k + 5 then va_cpy _ _ 0 0 8 j else (q_L σ1 k 1 (σ.2 k1 1)).2 c j)) = _
      rw [if_neg z2, if_neg z1]
    have e5 : ∀ i, i < 8 → σ9.2 (k + 5) i = σ.2 (k1 + 5) i := fun i hi => by
      show (if k + 5 = k + 6 then va_cpy _ _ 0 0 4 i else (if k + 5 = k + 5 then va_cpy ((q_L σ1 k 1 (σ.2 k1 1)).2 (k1 + 5)) ((q_L σ1 k 1 (σ.2 k1 1)).2 (k + 5)) 0 0 8 i else _)) = _
      rw [if_neg (by omega), if_pos rfl, pk_cpy_in (by omega) (by omega), L_of (by omega), show 0 + (i - 0) = i by omega]
      exact (A (k1 + 5) i (by omega)).2
    have e6 : ∀ i, i < 4 → σ9.2 (k + 6) i = σ.2 (k1 + 6) i := fun i hi => by
      show (if k + 6 = k + 6 then va_cpy ((q_C σ5 (k1 + 5) (k + 5) 0 0 8).2 (k1 + 6)) ((q_C σ5 (k1 + 5) (k + 5) 0 0 8).2 (k + 6)) 0 0 4 i else _) = _
      rw [if_pos rfl, pk_cpy_in (by omega) (by omega), show 0 + (i - 0) = i by omega]
      show (if k1 + 6 = k + 5 then va_cpy _ _ 0 0 8 i else (q_L σ1 k 1 (σ.2 k1 1)).2 (k1 + 6) i) = _
      rw [if_neg (by omega), L_of (by omega)]
      exact (A (k1 + 6) i (by omega)).2
    refine ⟨σ9, ⟨Blk_fr B1 (fun c j hc => ?_), h2, ?_, h4, h5, ?_, h7, h8, ?_, h10, ?_, ⟨u, u1, u2, ?_, u4⟩, ⟨w, w1, w2, ?_, w4⟩, ?_, ?_⟩, fun c j hc => ?_, ?_⟩
    · have hc' : k + 1 ≤ c ∧ c ≤ k + 1 + 3 := hc
      refine ⟨?_, ?_⟩
      · rw [e9i, I_of (by omega), I_of (by omega), I_of (by omega), I_of (by omega)]
      · rw [e9l c j (by omega) (by omega), L_of (by omega)]
    · rw [e9l k 1 (by omega) (by omega), L_at]; exact h3
    · rw [e9i, I_of (by omega), I_of (by omega), I_of (by omega), I_at]
    · rw [e9i, I_of (by omega), I_of (by omega), I_at]
    · intro i hi
      rw [e5 i (by omega)]
      exact h11 i hi
    · rw [e9i, I_of (by omega), I_at]
    · rw [e9i, I_at]
    · intro i hi
      rw [e6 i hi]
      exact h14 i hi
    · intro c hc
      obtain ⟨v, v1, v2, v3⟩ := h15 c hc
      refine ⟨v, v1, v2, fun i hi => ?_⟩
      rw [e6 i hi]
      exact v3 i hi
    · have hc' : c < k ∨ k + 6 < c := hc
      refine ⟨?_, ?_⟩
      · rw [e9i, I_of (by omega), I_of (by omega), I_of (by omega), I_of (by omega)]
        exact (a1 c j hc).1
      · rw [e9l c j (by omega) (by omega), L_of (by omega)]
        exact (a1 c j hc).2
    · unfold fX2_takeFrom_c31
      rw [ql, ql, ql, ql, ql, if_pos (by decide), ql, if_pos (by decide), ql, (A k1 1 (by omega)).2]
      show some (q_C (q_C (q_I (q_I (q_I (q_I (q_L σ1 k 1 (σ.2 k1 1)) k 2 ((q_L σ1 k 1 (σ.2 k1 1)).1 k1 2)) k 3 ((q_I (q_L σ1 k 1 (σ.2 k1 1)) k 2 ((q_L σ1 k 1 (σ.2 k1 1)).1 k1 2)).1 k1 3)) k 4 ((q_I (q_I (q_L σ1 k 1 (σ.2 k1 1)) k 2 ((q_L σ1 k 1 (σ.2 k1 1)).1 k1 2)) k 3 ((q_I (q_L σ1 k 1 (σ.2 k1 1)) k 2 ((q_L σ1 k 1 (σ.2 k1 1)).1 k1 2)).1 k1 3)).1 k1 4)) k 5 ((q_I (q_I (q_I (q_L σ1 k 1 (σ.2 k1 1)) k 2 ((q_L σ1 k 1 (σ.2 k1 1)).1 k1 2)) k 3 ((q_I (q_L σ1 k 1 (σ.2 k1 1)) k 2 ((q_L σ1 k 1 (σ.2 k1 1)).1 k1 2)).1 k1 3)) k 4 ((q_I (q_I (q_L σ1 k 1 (σ.2 k1 1)) k 2 ((q_L σ1 k 1 (σ.2 k1 1)).1 k1 2)) k 3 ((q_I (q_L σ1 k 1 (σ.2 k1 1)) k 2 ((q_L σ1 k 1 (σ.2 k1 1)).1 k1 2)).1 k1 3)).1 k1 4)).1 k1 5)) (k1 + 5) (k + 5) 0 0 8) (k1 + 6) (k + 6) 0 0 4) = some σ9
      rw [I_of (show ¬ (k1 = k ∧ 5 = 4) by omega), I_of (show ¬ (k1 = k ∧ 5 = 3) by omega), I_of (show ¬ (k1 = k ∧ 5 = 2) by omega), I_of (show ¬ (k1 = k ∧ 4 = 3) by omega), I_of (show ¬ (k1 = k ∧ 4 = 2) by omega), I_of (show ¬ (k1 = k ∧ 3 = 2) by omega)]
      show some (q_C (q_C (q_I (q_I (q_I (q_I (q_L σ1 k 1 (σ.2 k1 1)) k 2 (σ1.1 k1 2)) k 3 (σ1.1 k1 3)) k 4 (σ1.1 k1 4)) k 5 (σ1.1 k1 5)) (k1 + 5) (k + 5) 0 0 8) (k1 + 6) (k + 6) 0 0 4) = some σ9
      rw [(A k1 2 (by omega)).1, (A k1 3 (by omega)).1, (A k1 4 (by omega)).1, (A k1 5 (by omega)).1, h6, h9, u3, w3]
  obtain ⟨m, hm⟩ := hB
  unfold fX2_takeFrom
  rw [hm.2.1, h1.2.1]
  by_cases q : nI m = nI n
  · have m4 := hm.1.le
    have n4 := h1.1.le
    have : m = n := (nI_eq (by omega) (by omega)).mp q
    subst this
    rw [if_pos rfl]
    exact c31 σ hm (ag_rf _ _)
  · obtain ⟨σ1, b1, b2, b3, b4⟩ := X0_become (σ := σ) (k := k + 1) h1.1
    rw [if_neg q, b4, bs]
    exact c31 σ1 b1 (ag_sub b2 (fun c j hc => by
      have hc' : c < k ∨ k + 6 < c := hc
      show c < k + 1 ∨ k + 1 + 3 < c
      omega))
/-- a mould taken over: the reference's -/
theorem M_take {τ : q_M} {k k1 : Nat} (hd : k ≠ k1 ∧ k ≠ k1 + 11 ∧ k ≠ k1 + 12 ∧ k + 11 ≠ k1 ∧ k + 12 ≠ k1 ∧ k + 11 ≠ k1 + 12 ∧ k + 12 ≠ k1 + 11) : ∃ τ', ag (fun c j => ¬ ((c = k ∧ (j = 11 ∨ j = 12 ∨ j = 13 ∨ j = 15 ∨ j = 17 ∨ j = 18)) ∨ c = k + 11 ∨ c = k + 12)) τ τ' ∧ τ'.1 k 11 = τ.1 k1 11 ∧ τ'.2 k 12 = τ.2 k1 12 ∧ τ'.1 k 13 = τ.1 k1 13 ∧ τ'.1 k 15 = τ.1 k1 15 ∧ τ'.1 k 17 = τ.1 k1 17 ∧ τ'.1 k 18 = τ.1 k1 18 ∧ (∀ i, i < 8 → τ'.2 (k + 11) i = τ.2 (k1 + 11) i) ∧ (∀ i, i < 64 → τ'.1 (k + 12) i = τ.1 (k1 + 12) i) ∧ fX9_takeFrom k k1 τ = some τ' := by
  obtain ⟨d1, d2, d3, d4, d5, d6, d7⟩ := hd
  let τ3 : q_M := q_I (q_L (q_I τ k 11 (τ.1 k1 11)) k 12 (τ.2 k1 12)) k 13 (τ.1 k1 13)
  have key := lp_ex (fun f (u : Nat × q_M) => fX9_takeFrom_c26 k k1 f (nI u.1) u.2) (fun m u => u.1 = m ∧ ag (fun c _ => c ≠ k + 11) τ3 u.2 ∧ u.2.1 = τ3.1 ∧ ∀ i, i < m → u.2.2 (k + 11) i = τ.2 (k1 + 11) i) 8 (fun u => fX9_takeFrom_c60 k k1 q_FU 0 (q_I u.2 k 15 (u.2.1 k1 15))) ?_ ?_ q_FU (0, τ3) (by decide) ⟨rfl, ag_rf _ _, rfl, fun i hi => by omega⟩
  · obtain ⟨⟨_, τ4⟩, ⟨_, a1, a2, a3⟩, a4⟩ := key
    have a1' : ag (fun c _ => c ≠ k + 11) τ3 τ4 := a1
    have a2' : τ4.1 = τ3.1 := a2
    have e15 : τ4.1 k1 15 = τ.1 k1 15 := by
      rw [a2']
      show (q_I (q_L (q_I τ k 11 (τ.1 k1 11)) k 12 (τ.2 k1 12)) k 13 (τ.1 k1 13)).1 k1 15 = _
      rw [I_of (by omega), L_1, I_of (by omega)]
    let τ5 : q_M := q_I τ4 k 15 (τ.1 k1 15)
    have key2 := lp_ex (fun f (u : Nat × q_M) => fX9_takeFrom_c60 k k1 f (nI u.1) u.2) (fun m u => u.1 = m ∧ ag (fun c _ => c ≠ k + 12) τ5 u.2 ∧ u.2.2 = τ5.2 ∧ ∀ i, i < m → u.2.1 (k + 12) i = τ.1 (k1 + 12) i) 64 (fun u => some (q_I (q_I u.2 k 17 (u.2.1 k1 17)) k 18 ((q_I u.2 k 17 (u.2.1 k1 17)).1 k1 18))) ?_ ?_ q_FU (0, τ5) (by decide) ⟨rfl, ag_rf _ _, rfl, fun i hi => by omega⟩
    · obtain ⟨⟨_, τ6⟩, ⟨_, b1, b2, b3⟩, b4⟩ := key2
      have b1' : ag (fun c _ => c ≠ k + 12) τ5 τ6 := b1
      have b2' : τ6.2 = τ5.2 := b2
      have b3' : ∀ i, i < 64 → τ6.1 (k + 12) i = τ.1 (k1 + 12) i := b3
      have a3' : ∀ i, i < 8 → τ4.2 (k + 11) i = τ.2 (k1 + 11) i := a3
      have r6 : ∀ c j, c ≠ k + 12 → τ6.1 c j = τ5.1 c j := fun c j hc => (b1' c j hc).1
      have r5 : ∀ c j, ¬ (c = k ∧ j = 15) → τ5.1 c j = τ3.1 c j := fun c j hc => by
        show (q_I τ4 k 15 (τ.1 k1 15)).1 c j = _
        rw [I_of hc, a2']
      have r3 : ∀ c j, ¬ (c = k ∧ (j = 11 ∨ j = 13)) → τ3.1 c j = τ.1 c j := fun c j hc => by
        show (q_I (q_L (q_I τ k 11 (τ.1 k1 11)) k 12 (τ.2 k1 12)) k 13 (τ.1 k1 13)).1 c j = _
        rw [I_of (by omega), L_1, I_of (by omega)]
      have e17 : τ6.1 k1 17 = τ.1 k1 17 := by rw [r6 k1 17 (by omega), r5 k1 17 (by omega), r3 k1 17 (by omega)]
      have e18 : τ6.1 k1 18 = τ.1 k1 18 := by rw [r6 k1 18 (by omega), r5 k1 18 (by omega), r3 k1 18 (by omega)]
      have l4 : ∀ c j, c ≠ k + 11 → τ6.2 c j = τ3.2 c j := fun c j hc => by
        rw [b2']
        exact (a1' c j hc).2
      refine ⟨q_I (q_I τ6 k 17 (τ.1 k1 17)) k 18 (τ.1 k1 18), fun c j hc => ⟨?_, ?_⟩, ?_, ?_, ?_, ?_, ?_, I_at, ?_, ?_, ?_⟩
      · have hc' : ¬ ((c = k ∧ (j = 11 ∨ j = 12 ∨ j = 13 ∨ j = 15 ∨ j = 17 ∨ j = 18)) ∨ c = k + 11 ∨ c = k + 12) := hc
        rw [I_of (by omega), I_of (by omega), r6 c j (by omega), r5 c j (by omega), r3 c j (by omega)]
      · have hc' : ¬ ((c = k ∧ (j = 11 ∨ j = 12 ∨ j = 13 ∨ j = 15 ∨ j = 17 ∨ j = 18)) ∨ c = k + 11 ∨ c = k + 12) := hc
        show τ6.2 c j = τ.2 c j
        rw [l4 c j (by omega)]
        show (q_L (q_I τ k 11 (τ.1 k1 11)) k 12 (τ.2 k1 12)).2 c j = _
        rw [L_of (by omega)]
        rfl
      · rw [I_of (by omega), I_of (by omega), r6 k 11 (by omega), r5 k 11 (by omega)]
        show (q_I (q_L (q_I τ k 11 (τ.1 k1 11)) k 12 (τ.2 k1 12)) k 13 (τ.1 k1 13)).1 k 11 = _
        rw [I_of (by omega), L_1, I_at]
      · show τ6.2 k 12 = _
        rw [l4 k 12 (by omega)]
        show (q_L (q_I τ k 11 (τ.1 k1 11)) k 12 (τ.2 k1 12)).2 k 12 = _
        exact L_at
      · rw [I_of (by omega), I_of (by omega), r6 k 13 (by omega), r5 k 13 (by omega)]
        exact I_at
      · rw [I_of (by omega), I_of (by omega), r6 k 15 (by omega)]
        exact I_at
      · rw [I_of (by omega), I_at]
      · intro i hi
        show τ6.2 (k + 11) i = _
        rw [b2']
        exact a3' i hi
      · intro i hi
        rw [I_of (by omega), I_of (by omega)]
        exact b3' i hi
      · have b4' : fX9_takeFrom_c60 k k1 q_FU 0 τ5 = some (q_I (q_I τ6 k 17 (τ6.1 k1 17)) k 18 ((q_I τ6 k 17 (τ6.1 k1 17)).1 k1 18)) := b4
        rw [I_of (by omega), e17, e18] at b4'
        have a4' : fX9_takeFrom_c26 k k1 q_FU 0 τ3 = fX9_takeFrom_c60 k k1 q_FU 0 (q_I τ4 k 15 (τ4.1 k1 15)) := a4
        rw [e15] at a4'
        unfold fX9_takeFrom
        rw [ql, ql, ql]
        show fX9_takeFrom_c26 k k1 q_FU 0 (q_I (q_L (q_I τ k 11 (τ.1 k1 11)) k 12 (τ.2 k1 12)) k 13 ((q_L (q_I τ k 11 (τ.1 k1 11)) k 12 (τ.2 k1 12)).1 k1 13)) = _
        rw [L_1, I_of (show ¬ (k1 = k ∧ 13 = 11) by omega)]
        exact a4'.trans b4'
    · rintro f m ⟨u, τ7⟩ hm ⟨rfl, g1, g2, g3⟩
      have hu : u < 64 := hm
      have g1' : ag (fun c _ => c ≠ k + 12) τ5 τ7 := g1
      have ex : τ7.1 (k1 + 12) u = τ.1 (k1 + 12) u := by
        rw [(g1' (k1 + 12) u (by show k1 + 12 ≠ k + 12; omega)).1]
        show (q_I τ4 k 15 (τ.1 k1 15)).1 (k1 + 12) u = _
        rw [I_of (by omega), a2']
        show (q_I (q_L (q_I τ k 11 (τ.1 k1 11)) k 12 (τ.2 k1 12)) k 13 (τ.1 k1 13)).1 (k1 + 12) u = _
        rw [I_of (by omega), L_1, I_of (by omega)]
      refine ⟨(u + 1, q_I τ7 (k + 12) u (τ.1 (k1 + 12) u)), ⟨rfl, ag_tr g1 (ag_I (fun w => w rfl)), g2, fun i hi => ?_⟩, ?_⟩
      · show (q_I τ7 (k + 12) u (τ.1 (k1 + 12) u)).1 (k + 12) i = _
        by_cases q : i = u
        · subst q; exact I_at
        · rw [I_of (fun w => q w.2)]; exact g3 i (by omega)
      · show fX9_takeFrom_c60b k k1 (fX9_takeFrom_c60 k k1 f) (nI u) τ7 = _
        unfold fX9_takeFrom_c60b
        rw [if_neg (show ¬ (64 : Int32) ≤ nI u from nI_ge (a := u) (b := 64) hu (by decide)), gd hu (by decide), gd hu (by decide), ql, nI_clamp (by omega), ex, nI_1]
    · rintro f ⟨u, τ7⟩ ⟨hu, _⟩
      have hu' : u = 64 := hu
      subst hu'
      show fX9_takeFrom_c60b k k1 (fX9_takeFrom_c60 k k1 f) (nI 64) τ7 = _
      unfold fX9_takeFrom_c60b
      rw [if_pos (show (64 : Int32) ≤ nI 64 by decide), ql, ql]
  · rintro f m ⟨u, τ7⟩ hm ⟨rfl, g1, g2, g3⟩
    have hu : u < 8 := hm
    have g1' : ag (fun c _ => c ≠ k + 11) τ3 τ7 := g1
    have ex : τ7.2 (k1 + 11) u = τ.2 (k1 + 11) u := by
      rw [(g1' (k1 + 11) u (by show k1 + 11 ≠ k + 11; omega)).2]
      show (q_L (q_I τ k 11 (τ.1 k1 11)) k 12 (τ.2 k1 12)).2 (k1 + 11) u = _
      rw [L_of (by omega)]
      rfl
    refine ⟨(u + 1, q_L τ7 (k + 11) u (τ.2 (k1 + 11) u)), ⟨rfl, ag_tr g1 (ag_L (fun w => w rfl)), g2, fun i hi => ?_⟩, ?_⟩
    · show (q_L τ7 (k + 11) u (τ.2 (k1 + 11) u)).2 (k + 11) i = _
      by_cases q : i = u
      · subst q; exact L_at
      · rw [L_of (fun w => q w.2)]; exact g3 i (by omega)
    · show fX9_takeFrom_c26b k k1 (fX9_takeFrom_c26 k k1 f) (nI u) τ7 = _
      unfold fX9_takeFrom_c26b
      rw [if_neg (show ¬ (8 : Int32) ≤ nI u from nI_ge (a := u) (b := 8) hu (by decide)), gd hu (by decide), gd hu (by decide), ql, nI_clamp (by omega), ex, nI_1]
  · rintro f ⟨u, τ7⟩ ⟨hu, _⟩
    have hu' : u = 8 := hu
    subst hu'
    show fX9_takeFrom_c26b k k1 (fX9_takeFrom_c26 k k1 f) (nI 8) τ7 = _
    unfold fX9_takeFrom_c26b
    rw [if_pos (show (8 : Int32) ≤ nI 8 by decide), ql]
theorem RM_tk {σ τ τ' : q_M} {kk k k1 n p o : Nat} (h : RM σ kk τ k1 n p o) (a1 : τ'.1 k 11 = τ.1 k1 11) (a2 : τ'.2 k 12 = τ.2 k1 12) (a3 : τ'.1 k 13 = τ.1 k1 13) (a4 : τ'.1 k 15 = τ.1 k1 15) (a5 : τ'.1 k 17 = τ.1 k1 17) (a6 : τ'.1 k 18 = τ.1 k1 18) (a7 : ∀ i, i < 8 → τ'.2 (k + 11) i = τ.2 (k1 + 11) i) (a8 : ∀ i, i < 64 → τ'.1 (k + 12) i = τ.1 (k1 + 12) i) : RM σ kk τ' k n p o := by
  obtain ⟨h1, h2, h3, h4, h5, h6, h7, h8, h9, h10, h11, ⟨u, u1, u2, u3, u4⟩, ⟨w, w1, w2, w3, w4⟩, h14, h15⟩ := h
  have h64 := h1.1.cube
  refine ⟨h1, by rw [a1]; exact h2, by rw [a2]; exact h3, by rw [a2]; exact h4, h5, h6, by rw [a3]; exact h7, h8, h9, by rw [a4]; exact h10, fun i hi => ?_, ⟨u, u1, u2, u3, by rw [a5]; exact u4⟩, ⟨w, w1, w2, w3, by rw [a6]; exact w4⟩, h14, fun c hc => ?_⟩
  · rw [a7 i (by omega)]; exact h11 i hi
  · obtain ⟨v, v1, v2, v3⟩ := h15 c hc
    exact ⟨v, v1, by rw [a8 c (by omega)]; exact v2, v3⟩
