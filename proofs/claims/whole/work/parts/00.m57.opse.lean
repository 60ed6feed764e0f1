/-! Operations: loose, bars, the order. -/
/-- whether a shelf's move takes a set -/
def tks (τ : q_M) (n : Nat) (x o : Int64) (s : Nat) : Bool := decide (τ.1 1 s = 2) && mvT n (τ.1 6 s).toNatClampNeg (τ.1 7 s).toNatClampNeg (τ.1 8 s).toNatClampNeg x o
def fsh (f : Nat → Bool) : Nat → Nat → Int32
  | 0, _ => -1
  | d + 1, i => if f i then nI i else fsh f d (i + 1)
theorem fsh_c (f : Nat → Bool) : ∀ d i, fsh f d i = -1 ∨ ∃ s, i ≤ s ∧ s < i + d ∧ fsh f d i = nI s
  | 0, i => Or.inl rfl
  | d + 1, i => by
    unfold fsh
    by_cases q : f i = true
    · rw [if_pos q]; exact Or.inr ⟨i, Nat.le_refl _, by omega, rfl⟩
    · rw [if_neg q]
      rcases fsh_c f d (i + 1) with h | ⟨s, h1, h2, h3⟩
      · exact Or.inl h
      · exact Or.inr ⟨s, by omega, by omega, h3⟩
theorem or_tab : ∀ g, g < 256 → ∀ i, i < 8 → nI g ||| q_sl 1 (nI i) = nI (g ||| 2 ^ i) ∧ g ||| 2 ^ i < 256 := by decide +kernel
theorem or_tb (g i j : Nat) : (g ||| 2 ^ i).testBit j = (g.testBit j || decide (i = j)) := by
  rw [Nat.testBit_or, Nat.testBit_two_pow]
/-- all else that stands in the way of a piece -/
def oth (τ : q_M) (p g i : Nat) : Int64 := τ.2 0 12 ||| unP (τ.2 11) (fun j => g.testBit j || decide (i = j)) p
def lsv (τ : q_M) (n p i g : Nat) : Int32 := fsh (tks τ n (τ.2 11 i) (oth τ p g i)) 8 0
theorem X8_looseBy {σ τ : q_M} {N K A n p o t i g : Nat} (hR : Rel σ τ N K A n p o t) (hi : i < p) (hg : g < 256) : fX8_looseBy (nI i) (nI g) σ = some (lsv τ n p i g, σ) := by
  obtain ⟨h1, h2, h3, h4, h5, h6, h7, h8, h9, h10, h11, _⟩ := hR.2.1
  have B : Blk σ 2 n := h1
  have hS := hR.2.2.2.2.2.1
  unfold fX8_looseBy
  obtain ⟨g1, g2⟩ := or_tab g hg i (by omega)
  rw [g1, X2_inPieces h6 h5 (wq := fun j => (g ||| 2 ^ i).testBit j) (fun j hj => off_b1 g2 hj), bs, h3]
  have e : (τ.2 0 12 ||| unP (σ.2 (1 + 5)) (fun j => (g ||| 2 ^ i).testBit j) p) = oth τ p g i := by
    unfold oth
    rw [unP_cg (S := σ.2 (1 + 5)) (S' := τ.2 11) (wq' := fun j => g.testBit j || decide (i = j)) (fun j hj => ⟨(h11 j hj).1, or_tb g i j⟩)]
  rw [e]
  have key : ∀ d s f, s + d = 8 → d < f → fX8_looseBy_c24 (nI i) (nI g) f (oth τ p g i) (nI s) σ = some (fsh (tks τ n (τ.2 11 i) (oth τ p g i)) d s, σ) := by
    intro d
    induction d with
    | zero =>
      intro s f e1 e2
      obtain ⟨f, rfl⟩ : ∃ z, f = z + 1 := ⟨f - 1, by omega⟩
      have : s = 8 := by omega
      subst this
      show fX8_looseBy_c24b (nI i) (nI g) (fX8_looseBy_c24 (nI i) (nI g) f) (oth τ p g i) (nI 8) σ = _
      unfold fX8_looseBy_c24b
      rw [if_pos (show (8 : Int32) ≤ nI 8 by decide)]
      rfl
    | succ d ih =>
      intro s f e1 e2
      obtain ⟨f, rfl⟩ : ∃ z, f = z + 1 := ⟨f - 1, by omega⟩
      have hs : s < 8 := by omega
      show fX8_looseBy_c24b (nI i) (nI g) (fX8_looseBy_c24 (nI i) (nI g) f) (oth τ p g i) (nI s) σ = some (if tks τ n (τ.2 11 i) (oth τ p g i) s then nI s else fsh (tks τ n (τ.2 11 i) (oth τ p g i)) d (s + 1), σ)
      unfold fX8_looseBy_c24b
      rw [if_neg (show ¬ (8 : Int32) ≤ nI s from nI_ge (a := s) (b := 8) hs (by decide)), gd hs (by decide), nI_clamp (show s < 2 ^ 31 by omega), nI_1]
      rcases hS s hs with ⟨w1, w2⟩ | ⟨so, m, w1, w2, w3, w4, _⟩ | ⟨kd, a, b, w1, w2, w3, w4, w5, w6, w7, w8, w9⟩
      · rw [(isMove_n w1).1, bs, if_pos rfl, if_neg (show ¬ tks τ n (τ.2 11 i) (oth τ p g i) s = true by unfold tks; rw [w2]; simp)]
        exact ih (s + 1) f (by omega) (by omega)
      · rw [(isMove_r w3 w1).1, bs, if_pos rfl, if_neg (show ¬ tks τ n (τ.2 11 i) (oth τ p g i) s = true by unfold tks; rw [w4]; simp)]
        exact ih (s + 1) f (by omega) (by omega)
      · have hm : Mv σ (31 + 4 * s + 3) kd a b := ⟨w1, by rw [show 31 + 4 * s + 3 = 34 + 4 * s by omega]; exact w7, by rw [show 31 + 4 * s + 3 = 34 + 4 * s by omega]; exact w8, by rw [show 31 + 4 * s + 3 = 34 + 4 * s by omega]; exact w9⟩
        have et : tks τ n (τ.2 11 i) (oth τ p g i) s = mvT n kd a b (τ.2 11 i) (oth τ p g i) := by
          obtain ⟨k1, k5, a6, b6⟩ := w1
          unfold tks
          rw [w3, w4, w5, w6, nI_clamp (by omega), nI_clamp (by omega), nI_clamp (by omega), decide_eq_true rfl, Bool.true_and]
        rw [(isMove_m w2 w1.1 w1.2.1).1, bs, if_neg b1_ne, gd2 hs (by decide), gd (show i < 8 by omega) (by decide), nI_clamp (show i < 2 ^ 31 by omega), show σ.2 6 i = τ.2 11 i from (h11 i hi).1, X3_takes B hm (h11 i hi).2, bs, et]
        cases mvT n kd a b (τ.2 11 i) (oth τ p g i) with
        | false =>
          rw [b1_f, if_pos rfl, if_neg (by decide)]
          exact ih (s + 1) f (by omega) (by omega)
        | true => rw [b1_t, if_neg b1_ne, if_pos rfl]
  exact key 8 0 q_FU rfl (by decide)
theorem M_looseBy {σ τ : q_M} {N K A n p o t i g : Nat} (hR : Rel σ τ N K A n p o t) (hi : i < p) (hg : g < 256) : fX9_looseBy 0 (nI i) (nI g) τ = some (lsv τ n p i g, τ) := by
  obtain ⟨h1, h2, h3, h4, h5, h6, h7, h8, h9, h10, h11, _⟩ := hR.2.1
  have hN : MN τ n := ⟨h1.1, h2⟩
  have hS := hR.2.2.2.2.2.1
  have key : ∀ d s f, s + d = 8 → d < f → fX9_looseBy_c55 0 (nI i) (nI g) f (oth τ p g i) (nI s) τ = some (fsh (tks τ n (τ.2 11 i) (oth τ p g i)) d s, τ) := by
    intro d
    induction d with
    | zero =>
      intro s f e1 e2
      obtain ⟨f, rfl⟩ : ∃ z, f = z + 1 := ⟨f - 1, by omega⟩
      have : s = 8 := by omega
      subst this
      show fX9_looseBy_c55b 0 (nI i) (nI g) (fX9_looseBy_c55 0 (nI i) (nI g) f) (oth τ p g i) (nI 8) τ = _
      unfold fX9_looseBy_c55b
      rw [if_pos (show (8 : Int32) ≤ nI 8 by decide)]
      rfl
    | succ d ih =>
      intro s f e1 e2
      obtain ⟨f, rfl⟩ : ∃ z, f = z + 1 := ⟨f - 1, by omega⟩
      have hs : s < 8 := by omega
      show fX9_looseBy_c55b 0 (nI i) (nI g) (fX9_looseBy_c55 0 (nI i) (nI g) f) (oth τ p g i) (nI s) τ = some (if tks τ n (τ.2 11 i) (oth τ p g i) s then nI s else fsh (tks τ n (τ.2 11 i) (oth τ p g i)) d (s + 1), τ)
      unfold fX9_looseBy_c55b
      rw [if_neg (show ¬ (8 : Int32) ≤ nI s from nI_ge (a := s) (b := 8) hs (by decide)), gd hs (by decide), nI_clamp (show s < 2 ^ 31 by omega), nI_1]
      rcases hS s hs with ⟨w1, w2⟩ | ⟨so, m, w1, w2, w3, w4, _⟩ | ⟨kd, a, b, w1, w2, w3, w4, w5, w6, w7, w8, w9⟩
      · rw [show τ.1 (0 + 1) s = 0 from w2, if_neg (by decide), if_neg (show ¬ tks τ n (τ.2 11 i) (oth τ p g i) s = true by unfold tks; rw [w2]; simp)]
        exact ih (s + 1) f (by omega) (by omega)
      · rw [show τ.1 (0 + 1) s = 1 from w4, if_neg (by decide), if_neg (show ¬ tks τ n (τ.2 11 i) (oth τ p g i) s = true by unfold tks; rw [w4]; simp)]
        exact ih (s + 1) f (by omega) (by omega)
      · have et : tks τ n (τ.2 11 i) (oth τ p g i) s = mvT n kd a b (τ.2 11 i) (oth τ p g i) := by
          obtain ⟨k1, k5, a6, b6⟩ := w1
          unfold tks
          rw [w3, w4, w5, w6, nI_clamp (by omega), nI_clamp (by omega), nI_clamp (by omega), decide_eq_true rfl, Bool.true_and]
        rw [show τ.1 (0 + 1) s = 2 from w3, if_pos rfl, gd (show i < 8 by omega) (by decide), nI_clamp (show i < 2 ^ 31 by omega), show τ.2 (0 + 11) i = τ.2 11 i from rfl, M_comesBy hN ⟨w1, hs, w4, w5, w6⟩ (h11 i hi).2, bs, et]
        cases mvT n kd a b (τ.2 11 i) (oth τ p g i) with
        | false =>
          rw [b1_f, if_pos rfl, if_neg (by decide)]
          exact ih (s + 1) f (by omega) (by omega)
        | true => rw [b1_t, if_neg b1_ne, if_pos rfl]
  unfold fX9_looseBy
  have hz : τ.2 0 12 ||| unP (τ.2 11) (fun j => g.testBit j || decide (i = j)) 0 = τ.2 0 12 := or0 _
  have k2 := lp_run (fun f (j : Nat) => fX9_looseBy_c8 0 (nI i) (nI g) f (τ.2 0 12 ||| unP (τ.2 11) (fun j => g.testBit j || decide (i = j)) j) (nI j) τ) id p (some (lsv τ n p i g, τ)) ?_ ?_ q_FU (by show _ < 400; omega)
  · have k3 : fX9_looseBy_c8 0 (nI i) (nI g) q_FU (τ.2 0 12 ||| unP (τ.2 11) (fun j => g.testBit j || decide (i = j)) 0) (nI 0) τ = _ := k2
    rw [hz] at k3
    exact k3
  · intro f j hj
    have hj' : j < p := hj
    show fX9_looseBy_c8b 0 (nI i) (nI g) (fX9_looseBy_c8 0 (nI i) (nI g) f) (τ.2 0 12 ||| unP (τ.2 11) (fun j => g.testBit j || decide (i = j)) j) (nI j) τ = fX9_looseBy_c8 0 (nI i) (nI g) f (τ.2 0 12 ||| (if (g.testBit j || decide (i = j)) then unP (τ.2 11) (fun j => g.testBit j || decide (i = j)) j else unP (τ.2 11) (fun j => g.testBit j || decide (i = j)) j ||| τ.2 11 j)) (nI (j + 1)) τ
    unfold fX9_looseBy_c8b
    rw [h7, if_neg (nI_ge hj' (by omega)), nI_1]
    by_cases q : j = i
    · rw [if_pos (show nI j = nI i by rw [q]), or0, decide_eq_true q.symm, Bool.or_true, if_pos rfl]
    · rw [if_neg (fun z => q ((nI_eq (by omega) (by omega)).mp z)), off_b1 hg (by omega), decide_eq_false (fun z => q z.symm), Bool.or_false]
      cases g.testBit j with
      | false => rw [b1_f, if_pos rfl, gd (show j < 8 by omega) (by decide), ql, nI_clamp (by omega), if_neg (by decide), or_as]
      | true => rw [b1_t, if_neg b1_ne, or0, if_pos rfl]
  · intro f
    show fX9_looseBy_c8b 0 (nI i) (nI g) (fX9_looseBy_c8 0 (nI i) (nI g) f) (oth τ p g i) (nI p) τ = _
    unfold fX9_looseBy_c8b
    rw [h7, if_pos (nI_le (Nat.le_refl _) (by omega))]
    exact key 8 0 q_FU rfl (by decide)
theorem op_loose : Op_loose RR := by
  intro σ τ N x h
  have h0 := h
  obtain ⟨K, A, n, p, o, t, hR⟩ := h
  obtain ⟨h1, h2, h3, h4, h5, h6, h7, h8, h9, h10, h11, _⟩ := hR.2.1
  have o256 := p256 h8 h5
  unfold fX8_loose fX9_loose
  rw [X8_onPiece h6 h5 h9 o256, bs, M_isPiece h7 h5, bs]
  rcases isI_c x (p := p) (by omega) with q | ⟨j, hj, rfl⟩
  · rw [opr_b q, q, b1_f, if_pos rfl, if_neg n2', X_bad, bs, M_bad, bs]
    exact ⟨_, _, _, rfl, rfl, RR_rf h0 (by decide)⟩
  · rw [isI_y hj (by omega), b1_t, if_neg b1_ne, M_isOff h10 o256 (by omega), bs]
    cases q : o.testBit j with
    | true =>
      rw [opr_s hj (by omega) q, if_neg n5', b1_t, if_neg b1_ne, X_stk, bs, M_stk, bs]
      exact ⟨_, _, _, rfl, rfl, RR_rf h0 (by decide)⟩
    | false =>
      rw [opr_g hj (by omega) q, if_pos rfl, b1_f, if_pos rfl, h9, X8_looseBy hR hj o256, bs, h10, M_looseBy hR hj o256, bs]
      exact ⟨_, _, _, rfl, rfl, h0⟩
theorem op_bars : Op_bars RR := by
  intro σ τ N x y h
  have h0 := h
  obtain ⟨K, A, n, p, o, t, hR⟩ := h
  obtain ⟨h1, h2, h3, h4, h5, h6, h7, h8, h9, h10, h11, _⟩ := hR.2.1
  have hN : MN τ n := ⟨h1.1, h2⟩
  have B : Blk σ 2 n := h1
  have o256 := p256 h8 h5
  have rf : ∀ i, i < 5 → ¬ (-2 - nI i) = 0 := by decide +kernel
  have c29 : ∀ i, i < 5 → fX8_bars_c29 x y (-2 - nI i) σ = some (-2 - nI i, rfX σ i) := by
    intro i hi
    unfold fX8_bars_c29
    rw [if_neg (rf i hi), X8_refuse hi, bs]
  have c18 : ∀ i, i < 5 → fX8_bars_c18 x y (-2 - nI i) σ = some (-2 - nI i, rfX σ i) := by
    intro i hi
    unfold fX8_bars_c18
    rw [if_neg (rf i hi)]
    exact c29 i hi
  unfold fX8_bars fX9_bars
  rw [X8_isPiece h6, bs, M_in7, bs]
  rcases isI_c y (p := p) (by omega) with q | ⟨j, hj, rfl⟩
  · rw [q, b1_f, if_pos rfl, show fX8_bars_c18 x y (-2) σ = some (-2, rfX σ 0) from c18 0 (by decide)]
    by_cases q2 : isI x 8 = false
    · rw [q2, b1_f, if_pos rfl, M_bad, bs]
      exact ⟨_, _, _, rfl, rfl, RR_rf h0 (by decide)⟩
    · rw [show isI x 8 = true by simpa using q2, b1_t, if_neg b1_ne, M_isPiece h7 h5, bs, q, b1_f, if_pos rfl, M_bad, bs]
      exact ⟨_, _, _, rfl, rfl, RR_rf h0 (by decide)⟩
  · rw [isI_y hj (by omega), b1_t, if_neg b1_ne]
    rcases mv_c hR.2.2.2.2.2.1 x with ⟨q2, e1, e2⟩ | ⟨s, hs, rfl, hh⟩
    · rw [e1, bs, show fX8_bars_c18 x (nI j) (-2) σ = some (-2, rfX σ 0) from c18 0 (by decide), q2, b1_f, if_pos rfl, M_bad, bs]
      exact ⟨_, _, _, rfl, rfl, RR_rf h0 (by decide)⟩
    · rw [isI_y hs (by decide), b1_t, if_neg b1_ne, M_isPiece h7 h5, bs, isI_y hj (by omega), b1_t, if_neg b1_ne]
      rcases hh with ⟨e1, e2, _⟩ | ⟨e1, e2, _⟩ | ⟨kd, a, b, m1, m2, e1, e2, _⟩
      · rw [e1, bs, show fX8_bars_c18 (nI s) (nI j) (-3) σ = some (-3, rfX σ 1) from c18 1 (by decide), e2, bs, if_neg n3']
        exact ⟨_, _, _, rfl, rfl, RR_rf h0 (by decide)⟩
      · rw [e1, bs, show fX8_bars_c18 (nI s) (nI j) (-4) σ = some (-4, rfX σ 2) from c18 2 (by decide), e2, bs, if_neg n4']
        exact ⟨_, _, _, rfl, rfl, RR_rf h0 (by decide)⟩
      · rw [e1, bs, e2, bs, if_pos rfl, M_isOff h10 o256 (by omega), bs]
        unfold fX8_bars_c18
        rw [if_pos rfl, X8_onPiece h6 h5 h9 o256, bs]
        cases q : o.testBit j with
        | true =>
          rw [opr_s hj (by omega) q, show fX8_bars_c29 (nI s) (nI j) (-5) σ = some (-5, rfX σ 3) from c29 3 (by decide), b1_t, if_neg b1_ne, M_stk, bs]
          exact ⟨_, _, _, rfl, rfl, RR_rf h0 (by decide)⟩
        | false =>
          rw [opr_g hj (by omega) q, b1_f, if_pos rfl]
          unfold fX8_bars_c29
          rw [if_pos rfl]
          refine ⟨nI (wsN (fun i => !decide (i = j) && (!o.testBit i && !mvT n kd a b (τ.2 11 j) (τ.2 11 i))) p), σ, τ, ?_, ?_, h0⟩
          · refine lq2 (fX8_bars_c45 (nI s) (nI j)) σ (fun i => nI (wsN (fun i => !decide (i = j) && (!o.testBit i && !mvT n kd a b (τ.2 11 j) (τ.2 11 i))) i)) p _ (by omega) ?_ ?_
            · intro f i hi
              show fX8_bars_c45b (nI s) (nI j) (fX8_bars_c45 (nI s) (nI j) f) (nI (wsN (fun i => !decide (i = j) && (!o.testBit i && !mvT n kd a b (τ.2 11 j) (τ.2 11 i))) i)) (nI i) σ = fX8_bars_c45 (nI s) (nI j) f (nI (wsN (fun i => !decide (i = j) && (!o.testBit i && !mvT n kd a b (τ.2 11 j) (τ.2 11 i))) (i + 1))) (nI (i + 1)) σ
              unfold fX8_bars_c45b
              rw [h6, if_neg (nI_ge hi (by omega))]
              by_cases z : i = j
              · rw [if_pos (show nI i = nI j by rw [z])]
                unfold fX8_bars_c80
                rw [if_pos rfl, nI_1, wsN_f (p := fun i => !decide (i = j) && (!o.testBit i && !mvT n kd a b (τ.2 11 j) (τ.2 11 i))) (w := i) (by rw [decide_eq_true z]; rfl)]
              · rw [if_neg (fun w => z ((nI_eq (by omega) (by omega)).mp w)), X2_isOff h9 o256 (by omega), bs]
                unfold fX8_bars_c80
                cases y1 : o.testBit i with
                | true => rw [b1_t, if_neg b1_ne, if_pos rfl, nI_1, wsN_f (p := fun i => !decide (i = j) && (!o.testBit i && !mvT n kd a b (τ.2 11 j) (τ.2 11 i))) (w := i) (by rw [decide_eq_false z, y1]; rfl)]
                | false =>
                  rw [b1_f, if_pos rfl, if_neg b1_ne, gd hs (by decide), gd (show j < 8 by omega) (by decide), gd (show i < 8 by omega) (by decide), nI_clamp (show s < 2 ^ 31 by omega), nI_clamp (show j < 2 ^ 31 by omega), nI_clamp (show i < 2 ^ 31 by omega), show σ.2 6 j = τ.2 11 j from (h11 j hj).1, show σ.2 6 i = τ.2 11 i from (h11 i hi).1, X3_takes B m1 (h11 j hj).2, bs, nI_1]
                  cases y2 : mvT n kd a b (τ.2 11 j) (τ.2 11 i) with
                  | true => rw [b1_t, if_neg b1_ne, wsN_f (p := fun i => !decide (i = j) && (!o.testBit i && !mvT n kd a b (τ.2 11 j) (τ.2 11 i))) (w := i) (by rw [decide_eq_false z, y1, y2]; rfl)]
                  | false => rw [b1_f, if_pos rfl, ql, wsN_t (p := fun i => !decide (i = j) && (!o.testBit i && !mvT n kd a b (τ.2 11 j) (τ.2 11 i))) (w := i) (by omega) (by rw [decide_eq_false z, y1, y2]; rfl)]
            · intro f
              show fX8_bars_c45b (nI s) (nI j) (fX8_bars_c45 (nI s) (nI j) f) (nI (wsN (fun i => !decide (i = j) && (!o.testBit i && !mvT n kd a b (τ.2 11 j) (τ.2 11 i))) p)) (nI p) σ = _
              unfold fX8_bars_c45b
              rw [h6, if_pos (nI_le (Nat.le_refl _) (by omega))]
          · refine lq2 (fX9_bars_c60 0 (nI s) (nI j)) τ (fun i => nI (wsN (fun i => !decide (i = j) && (!o.testBit i && !mvT n kd a b (τ.2 11 j) (τ.2 11 i))) i)) p _ (by omega) ?_ ?_
            · intro f i hi
              show fX9_bars_c60b 0 (nI s) (nI j) (fX9_bars_c60 0 (nI s) (nI j) f) (nI (wsN (fun i => !decide (i = j) && (!o.testBit i && !mvT n kd a b (τ.2 11 j) (τ.2 11 i))) i)) (nI i) τ = fX9_bars_c60 0 (nI s) (nI j) f (nI (wsN (fun i => !decide (i = j) && (!o.testBit i && !mvT n kd a b (τ.2 11 j) (τ.2 11 i))) (i + 1))) (nI (i + 1)) τ
              unfold fX9_bars_c60b
              rw [h7, if_neg (nI_ge hi (by omega)), nI_1]
              by_cases z : i = j
              · rw [if_pos (show nI i = nI j by rw [z]), orI0, wsN_f (p := fun i => !decide (i = j) && (!o.testBit i && !mvT n kd a b (τ.2 11 j) (τ.2 11 i))) (w := i) (by rw [decide_eq_true z]; rfl)]
              · rw [if_neg (fun w => z ((nI_eq (by omega) (by omega)).mp w)), M_isOff h10 o256 (by omega), bs]
                cases y1 : o.testBit i with
                | true => rw [b1_t, if_neg b1_ne, orI0, wsN_f (p := fun i => !decide (i = j) && (!o.testBit i && !mvT n kd a b (τ.2 11 j) (τ.2 11 i))) (w := i) (by rw [decide_eq_false z, y1]; rfl)]
                | false =>
                  rw [b1_f, if_pos rfl, gd (show j < 8 by omega) (by decide), gd (show i < 8 by omega) (by decide), nI_clamp (show j < 2 ^ 31 by omega), nI_clamp (show i < 2 ^ 31 by omega), show τ.2 (0 + 11) j = τ.2 11 j from rfl, show τ.2 (0 + 11) i = τ.2 11 i from rfl, M_comesBy hN m2 (h11 j hj).2, bs]
                  cases y2 : mvT n kd a b (τ.2 11 j) (τ.2 11 i) with
                  | true => rw [b1_t, if_neg b1_ne, orI0, wsN_f (p := fun i => !decide (i = j) && (!o.testBit i && !mvT n kd a b (τ.2 11 j) (τ.2 11 i))) (w := i) (by rw [decide_eq_false z, y1, y2]; rfl)]
                  | false => rw [b1_f, if_pos rfl, ql, wsN_t (p := fun i => !decide (i = j) && (!o.testBit i && !mvT n kd a b (τ.2 11 j) (τ.2 11 i))) (w := i) (by omega) (by rw [decide_eq_false z, y1, y2]; rfl)]
            · intro f
              show fX9_bars_c60b 0 (nI s) (nI j) (fX9_bars_c60 0 (nI s) (nI j) f) (nI (wsN (fun i => !decide (i = j) && (!o.testBit i && !mvT n kd a b (τ.2 11 j) (τ.2 11 i))) p)) (nI p) τ = _
              unfold fX9_bars_c60b
              rw [h7, if_pos (nI_le (Nat.le_refl _) (by omega))]
