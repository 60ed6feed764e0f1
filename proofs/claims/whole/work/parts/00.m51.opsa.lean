/-! Operations: what is held, pieces, parts. -/
theorem cnt_lN : ∀ k, k < 256 → cnt (lN k) = pop8 k := by decide +kernel
theorem p256 {o p : Nat} (h : o < 2 ^ p) (hp : p ≤ 8) : o < 256 := Nat.lt_of_lt_of_le h (Nat.pow_le_pow_right (by decide) hp)
theorem op_holds : Op_holds RR := by
  intro σ τ N s h
  have h0 := h
  obtain ⟨K, A, n, p, o, t, hR⟩ := h
  unfold fX8_holds fX9_holds
  rw [X8_isShelf, bs, M_in7, bs]
  rcases isI_c s (p := 8) (by decide) with q | ⟨j, hj, rfl⟩
  · rw [q, b1_f, if_pos rfl, if_pos rfl]
    exact ⟨-1, σ, τ, rfl, rfl, h0⟩
  · rw [isI_y hj (by decide), b1_t, if_neg b1_ne, if_neg b1_ne, gd hj (by decide), gd hj (by decide), nI_clamp (by omega)]
    rcases hR.2.2.2.2.2.1 j hj with ⟨e1, e2⟩ | ⟨so, m, e1, e2, e3, e4, e5, _⟩ | ⟨kd, a, b, e1, e2, e3, e4, _⟩
    · rw [if_pos (show τ.1 (0 + 1) j = 0 from e2)]
      exact ⟨-1, σ, τ, by rw [e1], rfl, h0⟩
    · have e4' : τ.1 (0 + 1) j = 1 := e4
      rw [e4', if_neg b1_ne, gd2 hj (by decide), if_pos rfl, gd2 hj (by decide)]
      exact ⟨nI so, σ, τ, by rw [e3], by rw [show τ.1 (0 + 2) j = nI so from e5], h0⟩
    · have e3' : τ.1 (0 + 1) j = 2 := e3
      rw [e3', if_neg (show ¬ (2 : Int32) = 0 by decide), gd2 hj (by decide), if_neg (show ¬ (2 : Int32) = 1 by decide), gd2 hj (by decide)]
      exact ⟨nI (10 + kd), σ, τ, by rw [e2], by rw [show τ.1 (0 + 6) j = nI kd from e4, show (10 : Int32) = nI 10 from rfl, nI_add], h0⟩
theorem op_setOf : Op_setOf RR := by
  intro σ τ N s h
  have h0 := h
  obtain ⟨K, A, n, p, o, t, hR⟩ := h
  obtain ⟨_, _, _, _, p8, hp, hp2, _, _, _, hs, _⟩ := hR.2.1
  unfold fX8_setOf fX9_setOf
  rw [X8_isPiece hp, bs, M_isPiece hp2 p8, bs]
  rcases isI_c s (p := p) (by omega) with q | ⟨j, hj, rfl⟩
  · rw [q, b1_f, if_pos rfl, if_pos rfl]
    exact ⟨0, σ, τ, rfl, rfl, h0⟩
  · rw [isI_y hj (by omega), b1_t, if_neg b1_ne, if_neg b1_ne, gd (show j < 8 by omega) (by decide), gd (show j < 8 by omega) (by decide), nI_clamp (by omega)]
    exact ⟨σ.2 6 j, σ, τ, rfl, by rw [show σ.2 6 j = τ.2 (0 + 11) j from (hs j hj).1], h0⟩
theorem op_wipe : Op_wipe RR := by
  intro σ τ N h
  obtain ⟨K, A, n, p, o, t, h1, h2, ⟨m3, h3⟩, ⟨m4, h4⟩, h5, h6, h7, h8⟩ := h
  obtain ⟨_, t2, t3, _⟩ := h8
  refine ⟨nI t, q_I σ 23 0 0, q_I τ 0 9 0, ?_, ?_, K, A, n, p, o, 0, ?_⟩
  · unfold fX8_wipe
    rw [ql, t2]
  · unfold fX9_wipe
    rw [ql, t3]
  · have aX : ∀ P : Nat → Nat → Prop, (¬ P 23 0) → ag P σ (q_I σ 23 0 0) := fun P hP => ag_I hP
    have aM : ∀ P : Nat → Nat → Prop, (¬ P 0 9) → ag P τ (q_I τ 0 9 0) := fun P hP => ag_I hP
    refine ⟨RSt_fr h1 (aM _ ?_), RM_fr h2 (aX _ ?_) (aM _ ?_), ⟨m3, Blk_fr h3 (aX _ ?_)⟩, ⟨m4, Blk_fr h4 (aX _ ?_)⟩, RKp_fr h5 (aX _ ?_) (fun hK => aM _ ?_), RSh_fr h6 (aX _ ?_) (aM _ ?_), RRf_fr h7 (aX _ ?_) (aM _ ?_), ⟨by omega, I_at, I_at, fun i hi => by omega⟩⟩
    · intro z; have z' : 0 % 29 = 0 ∧ (9 = 19 ∨ 9 = 27) := z; omega
    · intro z; have z' : 1 ≤ 23 ∧ 23 ≤ 1 + 6 := z; omega
    · intro z
      have z' : (0 = 0 ∧ (9 = 11 ∨ 9 = 12 ∨ 9 = 13 ∨ 9 = 15 ∨ 9 = 17 ∨ 9 = 18)) ∨ 0 = 0 + 11 ∨ 0 = 0 + 12 := z
      omega
    · intro z; have z' : 9 ≤ 23 ∧ 23 ≤ 9 + 3 := z; omega
    · intro z; have z' : 16 ≤ 23 ∧ 23 ≤ 16 + 3 := z; omega
    · intro z; have z' : (8 ≤ 23 ∧ 23 ≤ 14) ∨ (23 = 0 ∧ 0 = 3) := z; omega
    · intro z
      have := K29 h1 hK
      have z' : (0 = K ∧ (9 = 11 ∨ 9 = 12 ∨ 9 = 13 ∨ 9 = 15 ∨ 9 = 17 ∨ 9 = 18)) ∨ 0 = K + 11 ∨ 0 = K + 12 := z
      omega
    · intro z; have z' : 31 ≤ 23 := z; omega
    · intro z
      have z' : 0 = 1 ∨ 0 = 2 ∨ 0 = 3 ∨ 0 = 6 ∨ 0 = 7 ∨ 0 = 8 ∨ (21 ≤ 0 ∧ 0 ≤ 28) := z
      omega
    · intro z; have z' : 23 = 28 := z; omega
    · intro z; have z' : 0 = 10 := z; omega
theorem nX {a b : Nat} (h : 1 ≤ a ∧ a ≤ 7) : ¬ cX a b := fun z => z.2 h
theorem nM {b : Nat} (h : b = 11 ∨ b = 12 ∨ b = 13 ∨ b = 15 ∨ b = 17 ∨ b = 18) : ¬ cM 0 b := fun z => z.2 (Or.inl ⟨rfl, h⟩)
theorem nM2 {a b : Nat} (h : a = 11 ∨ a = 12) : ¬ cM a b := fun z => z.2 (Or.inr h)
theorem op_again : Op_again RR := by
  intro σ τ N h
  obtain ⟨K, A, n, p, o, t, hR⟩ := h
  have hm := hR.2.1
  obtain ⟨h1, h2, h3, h4, h5, h6, h7, h8, h9, h10, h11, h12, h13, h14, h15⟩ := hm
  have o256 := p256 h8 h5
  refine ⟨nI (pop8 o), q_I σ 1 3 0, q_I τ 0 15 0, ?_, ?_, K, A, n, p, 0, t, Rel_mo hR (ag_I (nX (by omega))) (ag_I (nM (by omega))) ?_⟩
  · unfold fX8_again
    rw [h9, J_bitsI o256, bs, ql]
  · unfold fX9_again
    rw [h10, nI_l (by omega), M_bits, bs, ql, cnt_lN o o256]
  · refine ⟨Blk_fr h1 (ag_I (fun z => ?_)), ?_, ?_, ?_, h5, ?_, ?_, Nat.two_pow_pos p, I_at, I_at, h11, ?_, ?_, h14, h15⟩
    · have z' : 1 + 1 ≤ 1 ∧ 1 ≤ 1 + 1 + 3 := z
      omega
    · rw [I_of (by omega)]; exact h2
    · exact h3
    · exact h4
    · rw [I_of (by omega)]; exact h6
    · rw [I_of (by omega)]; exact h7
    · obtain ⟨v, v1, v2, v3, v4⟩ := h12
      exact ⟨v, v1, v2, by rw [I_of (by omega)]; exact v3, by rw [I_of (by omega)]; exact v4⟩
    · obtain ⟨v, v1, v2, v3, v4⟩ := h13
      exact ⟨v, v1, v2, by rw [I_of (by omega)]; exact v3, by rw [I_of (by omega)]; exact v4⟩
/-- the figure changed alike -/
theorem RM_fig {σ τ : q_M} {n p o : Nat} {x : Int64} (h : RM σ 1 τ 0 n p o) (hx : inB n x) : RM (q_L σ 1 1 x) 1 (q_L τ 0 12 x) 0 n p o := by
  obtain ⟨h1, h2, h3, h4, h5, h6, h7, h8, h9, h10, h11, h12, h13, h14, h15⟩ := h
  refine ⟨Blk_fr h1 (ag_L (fun z => ?_)), h2, ?_, ?_, h5, h6, h7, h8, h9, h10, ?_, h12, h13, ?_, ?_⟩
  · have z' : 1 + 1 ≤ 1 ∧ 1 ≤ 1 + 1 + 3 := z
    omega
  · rw [L_at, L_at]
  · rw [L_at]; exact hx
  · intro i hi
    rw [L_of (by omega), L_of (by omega)]
    exact h11 i hi
  · intro i hi
    rw [L_of (by omega)]
    exact h14 i hi
  · intro c hc
    obtain ⟨u, u1, u2, u3⟩ := h15 c hc
    refine ⟨u, u1, u2, fun i hi => ?_⟩
    rw [L_of (by omega)]
    exact u3 i hi
theorem Rel_fig {σ τ : q_M} {N K A n p o t : Nat} {x : Int64} (h : Rel σ τ N K A n p o t) (hx : inB n x) : Rel (q_L σ 1 1 x) (q_L τ 0 12 x) N K A n p o t :=
  Rel_mo h (ag_L (nX (by omega))) (ag_L (nM (by omega))) (RM_fig h.2.1 hx)
theorem op_solid : Op_solid RR := by
  intro σ τ N x v hv h
  obtain ⟨K, A, n, p, o, t, hR⟩ := h
  obtain ⟨h1, h2, h3, h4, _⟩ := hR.2.1
  have hN : MN τ n := ⟨h1.1, h2⟩
  unfold fX8_solid fX9_solid
  rcases hv with rfl | rfl
  · rw [if_pos rfl, if_pos rfl, ql, ql, J_bits, bs, M_bits, bs, L_at, L_at, h3]
    exact ⟨_, _, _, rfl, rfl, K, A, n, p, o, t, Rel_fig hR (inB_and_l h4)⟩
  · rw [if_neg b1_ne, if_neg b1_ne, M_block hN, bs, ql, ql, J_bits, bs, M_bits, bs, L_at, L_at, h3, show σ.2 2 2 = allL n from h1.2.2.2.1]
    exact ⟨_, _, _, rfl, rfl, K, A, n, p, o, t, Rel_fig hR (inB_or h4 (inB_and_all h1.1))⟩
/-- a piece changed alike -/
theorem RM_pc {σ τ : q_M} {n p o i : Nat} {x : Int64} (h : RM σ 1 τ 0 n p o) (hx : inB n x) : RM (q_L σ 6 i x) 1 (q_L τ 11 i x) 0 n p o := by
  obtain ⟨h1, h2, h3, h4, h5, h6, h7, h8, h9, h10, h11, h12, h13, h14, h15⟩ := h
  refine ⟨Blk_fr h1 (ag_L (fun z => ?_)), h2, ?_, ?_, h5, h6, h7, h8, h9, h10, ?_, h12, h13, ?_, ?_⟩
  · have z' : 1 + 1 ≤ 6 ∧ 6 ≤ 1 + 1 + 3 := z
    omega
  · rw [L_of (by omega), L_of (by omega)]; exact h3
  · rw [L_of (by omega)]; exact h4
  · intro e he
    show (q_L σ 6 i x).2 6 e = (q_L τ 11 i x).2 11 e ∧ inB n ((q_L τ 11 i x).2 11 e)
    by_cases q : e = i
    · subst q
      rw [L_at, L_at]
      exact ⟨rfl, hx⟩
    · rw [L_of (fun z => q z.2), L_of (fun z => q z.2)]
      exact h11 e he
  · intro i hi
    rw [L_of (by omega)]
    exact h14 i hi
  · intro c hc
    obtain ⟨u, u1, u2, u3⟩ := h15 c hc
    refine ⟨u, u1, u2, fun i hi => ?_⟩
    rw [L_of (by omega)]
    exact u3 i hi
theorem Rel_pc {σ τ : q_M} {N K A n p o t i : Nat} {x : Int64} (h : Rel σ τ N K A n p o t) (hx : inB n x) : Rel (q_L σ 6 i x) (q_L τ 11 i x) N K A n p o t :=
  Rel_mo h (ag_L (nX (by omega))) (ag_L (nM2 (by omega))) (RM_pc h.2.1 hx)
theorem off_tab : ∀ o, o < 256 → ∀ j, j < 8 → q_sr (nI o) (nI j) &&& 1 = (if o.testBit j then (1 : Int32) else 0) := by decide +kernel
theorem X2_isOff {σ : q_M} {k o j : Nat} (h : σ.1 k 3 = nI o) (ho : o < 256) (hj : j < 8) : fX2_isOff k (nI j) σ = some (b1 (o.testBit j), σ) := by
  unfold fX2_isOff
  rw [h, off_tab o ho j hj]
  cases o.testBit j <;> rfl
theorem M_isOff {τ : q_M} {o j : Nat} (h : τ.1 0 15 = nI o) (ho : o < 256) (hj : j < 8) : fX9_isOff 0 (nI j) τ = some (b1 (o.testBit j), τ) := by
  unfold fX9_isOff
  rw [h, off_tab o ho j hj]
  cases o.testBit j <;> rfl
/-- whether a piece may be altered -/
def opr (x : Int32) (p o : Nat) : Int32 := if isI x p then (if o.testBit x.toNatClampNeg then -5 else 0) else -2
theorem opr_b {x : Int32} {p o : Nat} (h : isI x p = false) : opr x p o = -2 := by unfold opr; rw [h]; rfl
theorem opr_s {j p o : Nat} (h : j < p) (hp : p < 2 ^ 31) (ho : o.testBit j = true) : opr (nI j) p o = -5 := by unfold opr; rw [isI_y h hp, if_pos rfl, nI_clamp (by omega), ho]; rfl
theorem opr_g {j p o : Nat} (h : j < p) (hp : p < 2 ^ 31) (ho : o.testBit j = false) : opr (nI j) p o = 0 := by unfold opr; rw [isI_y h hp, if_pos rfl, nI_clamp (by omega), ho]; rfl
theorem and_sh0 {x : Int64} {c : Nat} (hc : c < 64) : (x &&& q_shl 1 (nI c)) = 0 ↔ tb x c = false := and_bit0 hc
theorem X8_onPiece {σ : q_M} {p o : Nat} (hp : σ.1 1 2 = nI p) (p8 : p ≤ 8) (ho : σ.1 1 3 = nI o) (o256 : o < 256) (x : Int32) : fX8_onPieceRefusal x σ = some (opr x p o, σ) := by
  unfold fX8_onPieceRefusal opr
  rw [X8_isPiece hp, bs]
  rcases isI_c x (p := p) (by omega) with q | ⟨j, hj, rfl⟩
  · rw [q, b1_f, if_pos rfl, if_neg (by decide)]
  · rw [isI_y hj (by omega), b1_t, if_neg b1_ne, if_pos rfl, X2_isOff ho o256 (by omega), bs, nI_clamp (by omega)]
    cases o.testBit j <;> rfl
theorem op_alter : Op_alter RR := by
  intro σ τ N x y h
  have h0 := h
  obtain ⟨K, A, n, p, o, t, hR⟩ := h
  obtain ⟨h1, h2, h3, h4, h5, h6, h7, h8, h9, h10, h11, _⟩ := hR.2.1
  have hN : MN τ n := ⟨h1.1, h2⟩
  have o256 := p256 h8 h5
  unfold fX8_alter fX9_alter
  rw [X8_onPiece h6 h5 h9 o256, bs, M_isPiece h7 h5, bs]
  rcases isI_c x (p := p) (by omega) with q | ⟨j, hj, rfl⟩
  · rw [opr_b q, q, b1_f, if_pos rfl, if_neg (show ¬ (-2 : Int32) = 0 by decide), X_bad, bs, M_bad, bs]
    exact ⟨_, _, _, rfl, rfl, RR_rf h0 (by decide)⟩
  · rw [isI_y hj (by omega), b1_t, if_neg b1_ne, M_isOff h10 o256 (by omega), bs]
    cases q : o.testBit j with
    | true =>
      rw [opr_s hj (by omega) q, if_neg (show ¬ (-5 : Int32) = 0 by decide), b1_t, if_neg b1_ne, X_stk, bs, M_stk, bs]
      exact ⟨_, _, _, rfl, rfl, RR_rf h0 (by decide)⟩
    | false =>
      rw [opr_g hj (by omega) q, if_pos rfl, b1_f, if_pos rfl, gd (show j < 8 by omega) (by decide), gd (show j < 8 by omega) (by decide), J_bits, bs, M_bits, bs, M_block hN, bs, gd (show j < 8 by omega) (by decide), gd (show j < 8 by omega) (by decide), ql, ql, nI_clamp (by omega), show σ.2 2 2 = allL n from h1.2.2.2.1, show σ.2 6 j = τ.2 (0 + 11) j from (h11 j hj).1]
      exact ⟨_, _, _, rfl, rfl, K, A, n, p, o, t, Rel_pc hR (inB_and_all h1.1)⟩
theorem op_whole : Op_whole RR := by
  intro σ τ N x h
  have h0 := h
  obtain ⟨K, A, n, p, o, t, hR⟩ := h
  obtain ⟨h1, h2, _⟩ := hR.2.1
  have hN : MN τ n := ⟨h1.1, h2⟩
  have hin : inB n (x &&& allL n) := inB_and_all h1.1
  unfold fX8_whole fX9_whole
  have c64 := cp_64 n (x &&& allL n)
  rw [show σ.2 2 2 = allL n from h1.2.2.2.1, X0_isOnePart (show Blk σ 2 n from h1) hin, bs, M_block hN, bs, M_partsOf hN hin, bs]
  by_cases q : cp n (x &&& allL n) ≤ 1
  · rw [if_pos q, if_neg b1_ne, if_neg (show ¬ (1 : Int32) < nI (cp n (x &&& allL n)) from nI_nlt (a := 1) q (by decide))]
    exact ⟨1, σ, τ, rfl, rfl, h0⟩
  · rw [if_neg q, if_pos rfl, if_pos (show (1 : Int32) < nI (cp n (x &&& allL n)) from nI_lt (a := 1) (by omega) (by omega))]
    exact ⟨0, σ, τ, rfl, rfl, h0⟩
theorem op_parts : Op_parts RR := by
  intro σ τ N h
  have h0 := h
  obtain ⟨K, A, n, p, o, t, hR⟩ := h
  obtain ⟨h1, h2, h3, h4, _⟩ := hR.2.1
  have hN : MN τ n := ⟨h1.1, h2⟩
  unfold fX8_parts fX9_parts
  rw [h3, X0_countParts (show Blk σ 2 n from h1) h4, bs, M_partsOf hN h4, bs]
  exact ⟨_, σ, τ, rfl, rfl, h0⟩
/-- the cubes that p names, gathered from the least on -/
theorem mkN_t {p : Nat → Bool} {c : Nat} (h : p c = true) : mkN p (c + 1) = mkN p c ||| q_shl 1 (nI c) := by
  show (if p c then mkN p c ||| q_shl 1 (nI c) else mkN p c) = _
  rw [if_pos h]
theorem mkN_f {p : Nat → Bool} {c : Nat} (h : p c = false) : mkN p (c + 1) = mkN p c := by
  show (if p c then mkN p c ||| q_shl 1 (nI c) else mkN p c) = _
  rw [if_neg (by rw [h]; decide)]
theorem op_needed : Op_needed RR := by
  intro σ τ N h
  have h0 := h
  obtain ⟨K, A, n, p, o, t, hR⟩ := h
  obtain ⟨h1, h2, h3, h4, _⟩ := hR.2.1
  have hN : MN τ n := ⟨h1.1, h2⟩
  have hn := h1.1
  have h64 := hn.cube
  have B : Blk σ 2 n := h1
  let pr : Nat → Bool := fun c => tb (τ.2 0 12) c && decide (cp n (τ.2 0 12) < cp n (dif (τ.2 0 12) (bit c)))
  refine ⟨mkN pr (n * n * n), σ, τ, ?_, ?_, h0⟩
  · unfold fX8_needed
    refine lq2 fX8_needed_c4 σ (mkN pr) (n * n * n) _ (by omega) ?_ ?_
    · intro m i hi
      show fX8_needed_c4b (fX8_needed_c4 m) (mkN pr i) (nI i) σ = _
      unfold fX8_needed_c4b
      rw [show σ.1 2 1 = nI (n * n * n) from h1.2.2.1, if_neg (nI_ge hi (by omega)), h3, nI_1]
      cases q : tb (τ.2 0 12) i with
      | false =>
        rw [if_pos ((and_sh0 (show i < 64 by omega)).mpr q), mkN_f (show pr i = false by show (tb (τ.2 0 12) i && _) = false; rw [q]; rfl)]
      | true =>
        rw [if_neg (fun z => by rw [(and_sh0 (show i < 64 by omega)).mp z] at q; cases q), X0_holdsTogether B h4 q, bs]
        by_cases z : cp n (τ.2 0 12) < cp n (dif (τ.2 0 12) (bit i))
        · rw [if_pos z, if_neg b1_ne, ql, mkN_t (show pr i = true by show (tb (τ.2 0 12) i && decide _) = true; rw [q, decide_eq_true z]; rfl)]
        · rw [if_neg z, if_pos rfl, mkN_f (show pr i = false by show (tb (τ.2 0 12) i && decide _) = false; rw [q, decide_eq_false z]; rfl)]
    · intro m
      show fX8_needed_c4b (fX8_needed_c4 m) (mkN pr (n * n * n)) (nI (n * n * n)) σ = _
      unfold fX8_needed_c4b
      rw [show σ.1 2 1 = nI (n * n * n) from h1.2.2.1, if_pos (nI_le (Nat.le_refl _) (by omega))]
  · unfold fX9_needed
    rw [M_partsOf hN h4, bs]
    refine lq2 (fun f => fX9_needed_c14 0 f (nI (cp n (τ.2 0 12)))) τ (mkN pr) (n * n * n) _ (by omega) ?_ ?_
    · intro m i hi
      show fX9_needed_c14b 0 (fX9_needed_c14 0 m) (nI (cp n (τ.2 0 12))) (mkN pr i) (nI i) τ = _
      unfold fX9_needed_c14b
      rw [M_many hN, bs, if_neg (nI_ge hi (by omega)), nI_1]
      cases q : tb (τ.2 0 12) i with
      | false =>
        rw [M_hasF (by omega) q, bs, if_pos rfl, or0, mkN_f (show pr i = false by show (tb (τ.2 0 12) i && _) = false; rw [q]; rfl)]
      | true =>
        have hd : inB n (dif (τ.2 0 12) (bit i)) := sbs_in (dif_sbs _ _) h4
        have c1 := cp_64 n (τ.2 0 12)
        have c2 := cp_64 n (dif (τ.2 0 12) (bit i))
        rw [M_hasT (by omega) q, bs, if_neg b1_ne, show τ.2 0 12 &&& (q_shl 1 (nI i) ^^^ (-1)) = dif (τ.2 0 12) (bit i) from rfl, M_partsOf hN hd, bs]
        by_cases z : cp n (τ.2 0 12) < cp n (dif (τ.2 0 12) (bit i))
        · rw [if_neg (nI_ge z (by omega)), ql, mkN_t (show pr i = true by show (tb (τ.2 0 12) i && decide _) = true; rw [q, decide_eq_true z]; rfl)]
        · rw [if_pos (nI_le (by omega) (by omega)), or0, mkN_f (show pr i = false by show (tb (τ.2 0 12) i && decide _) = false; rw [q, decide_eq_false z]; rfl)]
    · intro m
      show fX9_needed_c14b 0 (fX9_needed_c14 0 m) (nI (cp n (τ.2 0 12))) (mkN pr (n * n * n)) (nI (n * n * n)) τ = _
      unfold fX9_needed_c14b
      rw [M_many hN, bs, if_pos (nI_le (Nat.le_refl _) (by omega))]
