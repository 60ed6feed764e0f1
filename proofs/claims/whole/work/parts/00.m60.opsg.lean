/-! Operations: copy, feed, status, piece. -/
def hrn (x c : Int32) (m : Nat) : Bool := decide (0 ≤ x.toInt) && (decide (0 ≤ c.toInt) && decide (x.toInt + c.toInt ≤ m))
theorem lt0 {x : Int32} : x < 0 ↔ ¬ 0 ≤ x.toInt := by
  rw [Int32.lt_iff_toInt_lt]
  have e0 : (0 : Int32).toInt = 0 := by decide
  omega
theorem X5_hasRun {σ : q_M} {k m : Nat} (h : σ.1 k 1 = nI m) (hm : m ≤ 40) (x c : Int32) : fX5_hasRun k x c σ = some (b1 (hrn x c m), σ) := by
  unfold fX5_hasRun hrn
  rw [h]
  by_cases q1 : x < 0
  · rw [if_pos q1, decide_eq_false (lt0.mp q1)]; rfl
  rw [if_neg q1]
  have x0 : 0 ≤ x.toInt := Classical.byContradiction fun z => q1 (lt0.mpr z)
  rw [decide_eq_true x0]
  by_cases q2 : nI m < x
  · rw [if_pos q2]
    rw [Int32.lt_iff_toInt_lt, nI_toInt (by omega)] at q2
    by_cases q3 : 0 ≤ c.toInt
    · rw [decide_eq_true q3, decide_eq_false (by omega)]; rfl
    · rw [decide_eq_false q3]; rfl
  rw [if_neg q2]
  by_cases q3 : c < 0
  · rw [if_pos q3, decide_eq_false (lt0.mp q3)]; rfl
  have c0 : 0 ≤ c.toInt := Classical.byContradiction fun z => q3 (lt0.mpr z)
  rw [if_neg q3, decide_eq_true c0]
  obtain ⟨i, hi, rfl⟩ := nI_of q1
  have im : i ≤ m := by
    rw [Int32.lt_iff_toInt_lt, nI_toInt (by omega), nI_toInt hi] at q2
    omega
  rw [pk_sub im, nI_toInt hi]
  by_cases q4 : nI (m - i) < c
  · rw [if_pos q4]
    rw [Int32.lt_iff_toInt_lt, nI_toInt (by omega)] at q4
    rw [decide_eq_false (by omega)]
    rfl
  · rw [if_neg q4]
    rw [Int32.lt_iff_toInt_lt, nI_toInt (by omega)] at q4
    rw [decide_eq_true (by omega)]
    rfl
theorem hrn_n {i c m : Nat} (hi : i < 2 ^ 31) (hc : c < 2 ^ 31) : hrn (nI i) (nI c) m = decide (i + c ≤ m) := by
  unfold hrn
  rw [nI_toInt hi, nI_toInt hc, decide_eq_true (by omega), decide_eq_true (by omega), Bool.true_and, Bool.true_and]
  by_cases q : i + c ≤ m
  · rw [decide_eq_true q, decide_eq_true (by omega)]
  · rw [decide_eq_false q, decide_eq_false (by omega)]
/-- the reference's copying of a run -/
theorem M_copy {τ : q_M} {s r i j c : Nat} (hs : s < 8) (hr : r < 8) (hi : i + c ≤ 40) (hj : j + c ≤ 40) : ∃ τ', ag (fun a _ => a ≠ 5 ∧ a ≠ 21 + r) τ τ' ∧ τ'.1 = τ.1 ∧ (∀ e, e < 40 → τ'.2 (21 + r) e = if j ≤ e ∧ e < j + c then τ.2 (21 + s) (i + (e - j)) else τ.2 (21 + r) e) ∧ fX9_copy_c191 0 (nI s) (nI r) (nI i) (nI j) (nI c) q_FU 0 τ = some (nI c, τ') := by
  have k1 := lp_ex (fun f (u : Nat × q_M) => fX9_copy_c191 0 (nI s) (nI r) (nI i) (nI j) (nI c) f (nI u.1) u.2) (fun m u => u.1 = m ∧ ag (fun a _ => a ≠ 5) τ u.2 ∧ u.2.1 = τ.1 ∧ ∀ e, e < m → u.2.2 5 e = τ.2 (21 + s) (i + e)) c (fun u => fX9_copy_c225 0 (nI s) (nI r) (nI i) (nI j) (nI c) q_FU 0 u.2) ?_ ?_ q_FU (0, τ) (by show _ < 400; omega) ⟨rfl, ag_rf _ _, rfl, fun e he => by omega⟩
  · obtain ⟨⟨_, τ1⟩, ⟨_, a1, a2, a3⟩, a4⟩ := k1
    have k2 := lp_ex (fun f (u : Nat × q_M) => fX9_copy_c225 0 (nI s) (nI r) (nI i) (nI j) (nI c) f (nI u.1) u.2) (fun m u => u.1 = m ∧ ag (fun a _ => a ≠ 21 + r) τ1 u.2 ∧ u.2.1 = τ1.1 ∧ ∀ e, u.2.2 (21 + r) e = if j ≤ e ∧ e < j + m then τ1.2 5 (e - j) else τ1.2 (21 + r) e) c (fun u => some (nI c, u.2)) ?_ ?_ q_FU (0, τ1) (by show _ < 400; omega) ⟨rfl, ag_rf _ _, rfl, fun e => by rw [if_neg (by omega)]⟩
    · obtain ⟨⟨_, τ2⟩, ⟨_, b1, b2, b3⟩, b4⟩ := k2
      have a4' : fX9_copy_c191 0 (nI s) (nI r) (nI i) (nI j) (nI c) q_FU 0 τ = fX9_copy_c225 0 (nI s) (nI r) (nI i) (nI j) (nI c) q_FU 0 τ1 := a4
      have b4' : fX9_copy_c225 0 (nI s) (nI r) (nI i) (nI j) (nI c) q_FU 0 τ1 = some (nI c, τ2) := b4
      refine ⟨τ2, ag_tr (ag_sub a1 (fun a e h => h.1)) (ag_sub b1 (fun a e h => h.2)), by rw [show τ2.1 = τ1.1 from b2, show τ1.1 = τ.1 from a2], fun e he => ?_, by rw [a4', b4']⟩
      have b3' := b3 e
      have b3'' : τ2.2 (21 + r) e = if j ≤ e ∧ e < j + c then τ1.2 5 (e - j) else τ1.2 (21 + r) e := b3'
      rw [b3'']
      by_cases q : j ≤ e ∧ e < j + c
      · rw [if_pos q, if_pos q]
        exact a3 (e - j) (by omega)
      · rw [if_neg q, if_neg q]
        exact (a1 (21 + r) e (by show 21 + r ≠ 5; omega)).2
    · rintro f m ⟨u, τ2⟩ hm ⟨rfl, g1, g2, g3⟩
      have hu : u < c := hm
      have g1' : ag (fun a _ => a ≠ 21 + r) τ1 τ2 := g1
      have g3' : ∀ e, τ2.2 (21 + r) e = if j ≤ e ∧ e < j + u then τ1.2 5 (e - j) else τ1.2 (21 + r) e := g3
      have e5 : τ2.2 5 u = τ1.2 5 u := (g1' 5 u (by show 5 ≠ 21 + r; omega)).2
      refine ⟨(u + 1, q_L τ2 (21 + r) (j + u) (τ1.2 5 u)), ⟨rfl, ag_tr g1 (ag_L (fun w => w rfl)), g2, ?_⟩, ?_⟩
      · intro e
        show (q_L τ2 (21 + r) (j + u) (τ1.2 5 u)).2 (21 + r) e = if j ≤ e ∧ e < j + (u + 1) then τ1.2 5 (e - j) else τ1.2 (21 + r) e
        by_cases q : e = j + u
        · subst q
          rw [L_at, if_pos ⟨by omega, by omega⟩, show j + u - j = u by omega]
        · rw [L_of (fun w => q w.2), g3' e]
          by_cases q2 : j ≤ e ∧ e < j + u
          · rw [if_pos q2, if_pos ⟨q2.1, by omega⟩]
          · rw [if_neg q2, if_neg (by omega)]
      · show fX9_copy_c225b 0 (nI s) (nI r) (nI i) (nI j) (nI c) (fX9_copy_c225 0 (nI s) (nI r) (nI i) (nI j) (nI c) f) (nI u) τ2 = _
        unfold fX9_copy_c225b
        rw [if_neg (nI_ge hu (by omega)), gd hr (by decide), gd (show u < 40 by omega) (by decide), nI_add, gd (show j + u < 40 by omega) (by decide), ql, nI_clamp (show r < 2 ^ 31 by omega), nI_clamp (show u < 2 ^ 31 by omega), nI_clamp (show j + u < 2 ^ 31 by omega), nI_1, show 0 + 21 + r = 21 + r by omega, show τ2.2 (0 + 5) u = τ1.2 5 u from e5]
    · rintro f ⟨u, τ2⟩ ⟨hu, _⟩
      have hu' : u = c := hu
      subst hu'
      show fX9_copy_c225b 0 (nI s) (nI r) (nI i) (nI j) (nI u) (fX9_copy_c225 0 (nI s) (nI r) (nI i) (nI j) (nI u) f) (nI u) τ2 = _
      unfold fX9_copy_c225b
      rw [if_pos (nI_le (Nat.le_refl _) (by omega))]
  · rintro f m ⟨u, τ2⟩ hm ⟨rfl, g1, g2, g3⟩
    have hu : u < c := hm
    have g1' : ag (fun a _ => a ≠ 5) τ τ2 := g1
    have g3' : ∀ e, e < u → τ2.2 5 e = τ.2 (21 + s) (i + e) := g3
    have e5 : τ2.2 (21 + s) (i + u) = τ.2 (21 + s) (i + u) := (g1' (21 + s) (i + u) (by show 21 + s ≠ 5; omega)).2
    refine ⟨(u + 1, q_L τ2 5 u (τ.2 (21 + s) (i + u))), ⟨rfl, ag_tr g1 (ag_L (fun w => w rfl)), g2, ?_⟩, ?_⟩
    · intro e he
      show (q_L τ2 5 u (τ.2 (21 + s) (i + u))).2 5 e = _
      by_cases q : e = u
      · subst q; exact L_at
      · rw [L_of (fun w => q w.2)]; exact g3' e (by omega)
    · show fX9_copy_c191b 0 (nI s) (nI r) (nI i) (nI j) (nI c) (fX9_copy_c191 0 (nI s) (nI r) (nI i) (nI j) (nI c) f) (nI u) τ2 = _
      unfold fX9_copy_c191b
      rw [if_neg (nI_ge hu (by omega)), gd hs (by decide), nI_add, gd (show i + u < 40 by omega) (by decide), gd (show u < 40 by omega) (by decide), ql, nI_clamp (show s < 2 ^ 31 by omega), nI_clamp (show u < 2 ^ 31 by omega), nI_clamp (show i + u < 2 ^ 31 by omega), nI_1, show 0 + 21 + s = 21 + s by omega, e5]
  · rintro f ⟨u, τ2⟩ ⟨hu, _⟩
    have hu' : u = c := hu
    subst hu'
    show fX9_copy_c191b 0 (nI s) (nI r) (nI i) (nI j) (nI u) (fX9_copy_c191 0 (nI s) (nI r) (nI i) (nI j) (nI u) f) (nI u) τ2 = _
    unfold fX9_copy_c191b
    rw [if_pos (nI_le (Nat.le_refl _) (by omega))]
theorem M_copy93 {τ : q_M} {s r m1 m2 : Nat} (hs : s < 8) (hr : r < 8) (a1 : τ.1 1 s = 1) (a2 : τ.1 1 r = 1) (b1' : τ.1 3 s = nI m1) (b2' : τ.1 3 r = nI m2) (c1 : m1 ≤ 40) (c2 : m2 ≤ 40) (x y c : Int32) : fX9_copy_c93 0 (nI s) (nI r) x y c τ = if hrn x c m1 && hrn y c m2 then fX9_copy_c191 0 (nI s) (nI r) x y c q_FU 0 τ else some (-2, rfM τ 0) := by
  unfold fX9_copy_c93
  rw [gd hs (by decide), gd hr (by decide), gd hs (by decide), gd hr (by decide), gd hs (by decide), gd hr (by decide), nI_clamp (show s < 2 ^ 31 by omega), nI_clamp (show r < 2 ^ 31 by omega), show τ.1 (0 + 1) s = 1 from a1, show τ.1 (0 + 1) r = 1 from a2, show τ.1 (0 + 3) s = nI m1 from b1', show τ.1 (0 + 3) r = nI m2 from b2', if_neg b1_ne, if_neg b1_ne, M_bad, bs]
  show _ = if hrn x c m1 && hrn y c m2 then _ else some ((-2, rfM τ 0).1, (-2, rfM τ 0).2)
  unfold hrn
  by_cases q1 : c < 0
  · rw [if_pos q1, decide_eq_false (lt0.mp q1), Bool.false_and, Bool.and_false, Bool.false_and, if_neg (by decide)]
  rw [if_neg q1]
  obtain ⟨k, hk, rfl⟩ := nI_of q1
  by_cases q2 : x < 0
  · rw [if_pos q2, decide_eq_false (lt0.mp q2), Bool.false_and, Bool.false_and, if_neg (by decide)]
  rw [if_neg q2]
  obtain ⟨i, hi, rfl⟩ := nI_of q2
  by_cases q3 : y < 0
  · rw [if_pos q3, decide_eq_false (lt0.mp q3), Bool.false_and, Bool.and_false, if_neg (by decide)]
  rw [if_neg q3]
  obtain ⟨j, hj, rfl⟩ := nI_of q3
  have e1 : (decide (0 ≤ (nI i).toInt) && (decide (0 ≤ (nI k).toInt) && decide ((nI i).toInt + (nI k).toInt ≤ m1))) = decide (i + k ≤ m1) := hrn_n (m := m1) hi hk
  have e2 : (decide (0 ≤ (nI j).toInt) && (decide (0 ≤ (nI k).toInt) && decide ((nI j).toInt + (nI k).toInt ≤ m2))) = decide (j + k ≤ m2) := hrn_n (m := m2) hj hk
  rw [e1, e2]
  by_cases q4 : m1 < k
  · rw [if_pos (nI_lt q4 hk), decide_eq_false (show ¬ i + k ≤ m1 by omega), Bool.false_and, if_neg (by decide)]
  rw [if_neg (nI_nlt (by omega) (by omega))]
  by_cases q5 : m2 < k
  · rw [if_pos (nI_lt q5 hk), decide_eq_false (show ¬ j + k ≤ m2 by omega), Bool.and_false, if_neg (by decide)]
  rw [if_neg (nI_nlt (by omega) (by omega)), pk_sub (show k ≤ m1 by omega), pk_sub (show k ≤ m2 by omega)]
  by_cases q6 : m1 - k < i
  · rw [if_pos (nI_lt q6 hi), decide_eq_false (show ¬ i + k ≤ m1 by omega), Bool.false_and, if_neg (by decide)]
  rw [if_neg (nI_nlt (by omega) (by omega)), decide_eq_true (show i + k ≤ m1 by omega), Bool.true_and]
  by_cases q7 : j ≤ m2 - k
  · rw [if_pos (nI_le q7 (by omega)), decide_eq_true (show j + k ≤ m2 by omega), if_pos rfl]
  · rw [if_neg (nI_ge (by omega) hj), decide_eq_false (show ¬ j + k ≤ m2 by omega), if_neg (by decide)]
theorem M_copy93n {τ : q_M} {s r : Nat} (hs : s < 8) (hr : r < 8) (h : τ.1 1 s = 0 ∨ τ.1 1 r = 0) (x y c : Int32) : fX9_copy_c93 0 (nI s) (nI r) x y c τ = some (-4, rfM τ 2) := by
  unfold fX9_copy_c93
  rw [gd hs (by decide), nI_clamp (show s < 2 ^ 31 by omega), M_not, bs]
  by_cases q : τ.1 1 s = 0
  · rw [if_pos (show τ.1 (0 + 1) s = 0 from q)]
  · rw [if_neg (show ¬ τ.1 (0 + 1) s = 0 from q), gd hr (by decide), nI_clamp (show r < 2 ^ 31 by omega)]
    rcases h with h | h
    · exact absurd h q
    · rw [if_pos (show τ.1 (0 + 1) r = 0 from h)]
theorem op_copy : Op_copy RR := by
  intro σ τ N x y i j c h
  have h0 := h
  obtain ⟨K, A, n, p, o, t, hR⟩ := h
  have hS := hR.2.2.2.2.2.1
  unfold fX8_copy fX9_copy
  rw [X8_isShelf, bs, M_in7, bs, X_bad, bs]
  rcases isI_c x (p := 8) (by decide) with q | ⟨s, hs, rfl⟩
  · rw [q, b1_f, if_pos rfl, if_pos rfl, M_bad, bs]
    exact ⟨_, _, _, rfl, rfl, RR_rf h0 (by decide)⟩
  rw [isI_y hs (by decide), b1_t, if_neg b1_ne, if_neg b1_ne, X8_isShelf, bs, M_in7, bs]
  rcases isI_c y (p := 8) (by decide) with q | ⟨r, hr, rfl⟩
  · rw [q, b1_f, if_pos rfl, if_pos rfl, X_bad, bs, M_bad, bs]
    exact ⟨_, _, _, rfl, rfl, RR_rf h0 (by decide)⟩
  rw [isI_y hr (by decide), b1_t, if_neg b1_ne, if_neg b1_ne, gd hs (by decide), gd hs (by decide), gd hr (by decide), nI_clamp (show s < 2 ^ 31 by omega), nI_clamp (show r < 2 ^ 31 by omega)]
  have oth : ∀ σ τ : q_M, RR σ τ N → ∃ (q : Int32) (σ' τ' : q_M), ((fX8_refuse (-3) σ).bind fun o => some (o.1, o.2)) = some (q, σ') ∧ ((fX9_refuse 0 (-3) τ).bind fun o => some (o.1, o.2)) = some (q, τ') ∧ RR σ' τ' N := fun σ τ h => ⟨-3, rfX σ 1, rfM τ 1, by rw [X_oth, bs], by rw [M_oth, bs], RR_rf h (by decide)⟩
  rcases hS s hs with ⟨e1, e2⟩ | ⟨so, m, e1, e2, e3, e4, e5, e6, e7, e8, e9⟩ | ⟨kd, a, b, e1, e2, e3, _⟩
  · -- the first shelf is empty
    rw [(isMove_n e1).1, bs, if_pos rfl, show τ.1 (0 + 1) s = 0 from e2, if_neg (show ¬ (0 : Int32) = 2 by decide), gd2 hr (by decide)]
    rcases hS r hr with ⟨f1, f2⟩ | ⟨so', m', f1, f2, f3, f4, _⟩ | ⟨kd', a', b', f1, f2, f3, _⟩
    · rw [(isMove_n f1).1, bs, if_pos rfl, (isMove_n e1).2, bs, if_pos rfl, show τ.1 (0 + 1) r = 0 from f2, if_neg (show ¬ (0 : Int32) = 2 by decide), gd2 hs (by decide), if_neg (show ¬ (0 : Int32) = 1 by decide), M_copy93n hs hr (Or.inl e2)]
      unfold fX8_copy_c96
      rw [(isMove_n e1).2, bs, if_pos rfl, X_not, bs]
      exact ⟨_, _, _, rfl, rfl, RR_rf h0 (by decide)⟩
    · rw [(isMove_r f3 f1).1, bs, if_pos rfl, (isMove_n e1).2, bs, if_pos rfl, show τ.1 (0 + 1) r = 1 from f4, if_neg (show ¬ (1 : Int32) = 2 by decide), gd2 hs (by decide), if_neg (show ¬ (0 : Int32) = 1 by decide), M_copy93n hs hr (Or.inl e2)]
      unfold fX8_copy_c96
      rw [(isMove_n e1).2, bs, if_pos rfl, X_not, bs]
      exact ⟨_, _, _, rfl, rfl, RR_rf h0 (by decide)⟩
    · rw [(isMove_m f2 f1.1 f1.2.1).1, bs, if_neg b1_ne, show τ.1 (0 + 1) r = 2 from f3, if_pos rfl]
      exact oth σ τ h0
  · -- the first shelf has a row
    rw [(isMove_r e3 e1).1, bs, if_pos rfl, show τ.1 (0 + 1) s = 1 from e4, if_neg (show ¬ (1 : Int32) = 2 by decide), gd2 hr (by decide)]
    rcases hS r hr with ⟨f1, f2⟩ | ⟨so', m', f1, f2, f3, f4, f5, f6, f7, f8, f9⟩ | ⟨kd', a', b', f1, f2, f3, _⟩
    · rw [(isMove_n f1).1, bs, if_pos rfl, (isMove_r e3 e1).2, bs, if_neg b1_ne, (isMove_n f1).2, bs, if_pos rfl, show τ.1 (0 + 1) r = 0 from f2, if_neg (show ¬ (0 : Int32) = 2 by decide), gd2 hs (by decide), if_pos rfl, gd2 hr (by decide), if_neg (show ¬ (0 : Int32) = 1 by decide), M_copy93n hs hr (Or.inr f2)]
      unfold fX8_copy_c96
      rw [(isMove_r e3 e1).2, bs, if_neg b1_ne, (isMove_n f1).2, bs, if_pos rfl, X_not, bs]
      exact ⟨_, _, _, rfl, rfl, RR_rf h0 (by decide)⟩
    · rw [(isMove_r f3 f1).1, bs, if_pos rfl, (isMove_r e3 e1).2, bs, if_neg b1_ne, (isMove_r f3 f1).2, bs, if_neg b1_ne, e3, f3, show τ.1 (0 + 1) r = 1 from f4, if_neg (show ¬ (1 : Int32) = 2 by decide), gd2 hs (by decide), if_pos rfl, gd2 hr (by decide), if_pos rfl, gd2 hs (by decide), gd2 hr (by decide), show τ.1 (0 + 2) s = nI so from e5, show τ.1 (0 + 2) r = nI so' from f5]
      by_cases q : nI so = nI so'
      · rw [if_pos q, if_pos q, M_copy93 hs hr e4 f4 e6 f6 e2 f2]
        unfold fX8_copy_c96
        rw [(isMove_r e3 e1).2, bs, if_neg b1_ne, (isMove_r f3 f1).2, bs, if_neg b1_ne, X5_hasRun (show σ.1 (31 + 4 * s + 1) 1 = nI m by rw [show 31 + 4 * s + 1 = 32 + 4 * s by omega]; exact e8) e2, bs]
        cases z1 : hrn i c m with
        | false =>
          rw [b1_f, if_pos rfl, X_bad, bs, Bool.false_and, if_neg (by decide)]
          exact ⟨_, _, _, rfl, rfl, RR_rf h0 (by decide)⟩
        | true =>
          rw [b1_t, if_neg b1_ne, X5_hasRun (show σ.1 (31 + 4 * r + 1) 1 = nI m' by rw [show 31 + 4 * r + 1 = 32 + 4 * r by omega]; exact f8) f2, bs, Bool.true_and]
          cases z2 : hrn j c m' with
          | false =>
            rw [b1_f, if_pos rfl, X_bad, bs, if_neg (by decide)]
            exact ⟨_, _, _, rfl, rfl, RR_rf h0 (by decide)⟩
          | true =>
            rw [b1_t, if_neg b1_ne, if_pos rfl]
            obtain ⟨i', hi', ei⟩ : ∃ a, a < 2 ^ 31 ∧ i = nI a := nI_of (fun w => by
              unfold hrn at z1
              rw [decide_eq_false (lt0.mp w)] at z1; cases z1)
            obtain ⟨j', hj', ej⟩ : ∃ a, a < 2 ^ 31 ∧ j = nI a := nI_of (fun w => by
              unfold hrn at z2
              rw [decide_eq_false (lt0.mp w)] at z2; cases z2)
            obtain ⟨c', hc', ec⟩ : ∃ a, a < 2 ^ 31 ∧ c = nI a := nI_of (fun w => by
              unfold hrn at z2
              rw [decide_eq_false (lt0.mp w), Bool.false_and, Bool.and_false] at z2; cases z2)
            subst ei ej ec
            rw [hrn_n hi' hc', decide_eq_true_iff] at z1
            rw [hrn_n hj' hc', decide_eq_true_iff] at z2
            obtain ⟨τ', g1, g2, g3, g4⟩ := M_copy (τ := τ) hs hr (i := i') (j := j') (c := c') (by omega) (by omega)
            rw [g4, nI_clamp hi', nI_clamp hj', nI_clamp hc', if_pos ⟨nI_pos hi', nI_pos hj', nI_pos hc', by omega, by omega⟩, ql]
            have aX : ag (shX r) σ (q_C σ (31 + 4 * s + 1 + 1) (31 + 4 * r + 1 + 1) i' j' c') := fun a e ha => ⟨rfl, by
              show (if a = 31 + 4 * r + 1 + 1 then _ else σ.2 a e) = σ.2 a e
              rw [if_neg (fun w => ha.2 (by omega))]⟩
            have aM : ag (shM r) τ τ' := ag_sub g1 (fun a e ha => ⟨fun w => ha.1 (Or.inl w), fun w => ha.2 (Or.inr w)⟩)
            refine ⟨nI c', _, τ', rfl, rfl, K, A, n, p, o, t, Rel_sh hR hr aX aM (Or.inr (Or.inl ⟨so', m', f1, f2, f3, by rw [g2]; exact f4, by rw [g2]; exact f5, by rw [g2]; exact f6, f7, f8, fun e he => ?_⟩))⟩
            rw [g3 e he]
            show (if 33 + 4 * r = 31 + 4 * r + 1 + 1 then va_cpy (σ.2 (31 + 4 * s + 1 + 1)) (σ.2 (31 + 4 * r + 1 + 1)) i' j' c' e else σ.2 (33 + 4 * r) e) = _
            rw [if_pos (by omega)]
            by_cases w : j' ≤ e ∧ e < j' + c'
            · rw [pk_cpy_in w.1 w.2, if_pos w, show 31 + 4 * s + 1 + 1 = 33 + 4 * s by omega]
              exact e9 (i' + (e - j')) (by omega)
            · rw [pk_cpy_out (by omega), if_neg w, show 31 + 4 * r + 1 + 1 = 33 + 4 * r by omega]
              exact f9 e he
      · rw [if_neg q, if_neg q]
        exact oth σ τ h0
    · rw [(isMove_m f2 f1.1 f1.2.1).1, bs, if_neg b1_ne, show τ.1 (0 + 1) r = 2 from f3, if_pos rfl]
      exact oth σ τ h0
  · rw [(isMove_m e2 e1.1 e1.2.1).1, bs, if_neg b1_ne, show τ.1 (0 + 1) s = 2 from e3, if_pos rfl]
    exact oth σ τ h0
