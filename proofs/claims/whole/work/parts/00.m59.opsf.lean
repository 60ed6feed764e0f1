/-! Operations: rows. -/
def shX (s : Nat) : Nat → Nat → Prop := fun c j => sX1 c j ∧ ¬ (31 + 4 * s ≤ c ∧ c ≤ 34 + 4 * s)
def shM (s : Nat) : Nat → Nat → Prop := fun c j => sM1 c j ∧ ¬ (((c = 1 ∨ c = 2 ∨ c = 3 ∨ c = 6 ∨ c = 7 ∨ c = 8) ∧ j = s) ∨ c = 21 + s)
theorem Rel_sh {σ σ' τ τ' : q_M} {N K A n p o t s : Nat} (h : Rel σ τ N K A n p o t) (hs : s < 8) (hX : ag (shX s) σ σ') (hM : ag (shM s) τ τ') (h1s : RS1 σ' τ' s) : Rel σ' τ' N K A n p o t := by
  obtain ⟨h1, h2, ⟨m3, h3⟩, ⟨m4, h4⟩, h5, h6, h7, h8⟩ := h
  refine ⟨RSt_fr h1 (fun c j hc => hM c j ?_), RM_fr h2 (fun c j hc => hX c j ?_) (fun c j hc => hM c j ?_), ⟨m3, Blk_fr h3 (fun c j hc => hX c j ?_)⟩, ⟨m4, Blk_fr h4 (fun c j hc => hX c j ?_)⟩, RKp_fr h5 (fun c j hc => hX c j ?_) (fun hK => fun c j hc => hM c j ?_), fun e he => ?_, RRf_fr h7 (fun c j hc => hX c j ?_) (fun c j hc => hM c j ?_), RTp_fr h8 (fun c j hc => hX c j ?_) (fun c j hc => hM c j ?_)⟩
  · have hc' : c % 29 = 0 ∧ (j = 19 ∨ j = 27) := hc
    unfold shM sM1
    omega
  · have hc' : 1 ≤ c ∧ c ≤ 1 + 6 := hc
    unfold shX sX1
    omega
  · have hc' : (c = 0 ∧ (j = 11 ∨ j = 12 ∨ j = 13 ∨ j = 15 ∨ j = 17 ∨ j = 18)) ∨ c = 0 + 11 ∨ c = 0 + 12 := hc
    unfold shM sM1
    omega
  · have hc' : 9 ≤ c ∧ c ≤ 9 + 3 := hc
    unfold shX sX1
    omega
  · have hc' : 16 ≤ c ∧ c ≤ 16 + 3 := hc
    unfold shX sX1
    omega
  · have hc' : (8 ≤ c ∧ c ≤ 14) ∨ (c = 0 ∧ j = 3) := hc
    unfold shX sX1
    omega
  · have hc' : (c = K ∧ (j = 11 ∨ j = 12 ∨ j = 13 ∨ j = 15 ∨ j = 17 ∨ j = 18)) ∨ c = K + 11 ∨ c = K + 12 := hc
    have := K29 h1 hK
    unfold shM sM1
    omega
  · by_cases q : e = s
    · subst q; exact h1s
    · refine RS1_fr (h6 e he) (fun c j hc => hX c j ?_) (fun c j hc => hM c j ?_)
      · have hc' : 31 + 4 * e ≤ c ∧ c ≤ 34 + 4 * e := hc
        unfold shX sX1
        omega
      · have hc' : ((c = 1 ∨ c = 2 ∨ c = 3 ∨ c = 6 ∨ c = 7 ∨ c = 8) ∧ j = e) ∨ c = 21 + e := hc
        unfold shM sM1
        omega
  · have hc' : c = 28 := hc
    unfold shX sX1
    omega
  · have hc' : c = 10 := hc
    unfold shM sM1
    omega
  · have hc' : (c = 23 ∧ j = 0) ∨ c = 24 := hc
    unfold shX sX1
    omega
  · have hc' : (c = 0 ∧ j = 9) ∨ c = 9 := hc
    unfold shM sM1
    omega
theorem sX_in {s c j : Nat} (h : 31 + 4 * s ≤ c ∧ c ≤ 34 + 4 * s) : ¬ shX s c j := fun z => z.2 h
theorem sM_in {s c : Nat} (h : c = 1 ∨ c = 2 ∨ c = 3 ∨ c = 6 ∨ c = 7 ∨ c = 8) : ¬ shM s c s := fun z => z.2 (Or.inl ⟨h, rfl⟩)
theorem sM_rw {s j : Nat} : ¬ shM s (21 + s) j := fun z => z.2 (Or.inr rfl)
theorem sM_5 {s j : Nat} : ¬ shM s 5 j := fun z => z.1 (Or.inl rfl)
theorem isI_out2 {α : Type} {x e : Int32} {p : Nat} (he : e = nI p) (hp : p + 1 < 2 ^ 31) (h : isI x (p + 1) = false) {A B : α} : (if x < 0 then A else if x ≤ e then B else A) = A := by
  subst he
  rcases isI_f h with z | z
  · rw [if_pos z]
  · by_cases y : x < 0
    · rw [if_pos y]
    · rw [if_neg y, if_neg (fun w => (i_le hp).mp w z)]
theorem isI_out3 {α : Type} {x e : Int32} {p : Nat} (he : e = nI p) (hp : p + 1 < 2 ^ 31) (h : isI x (p + 1) = false) {A B : α} : (if x < 0 then A else if e < x then A else B) = A := by
  subst he
  rcases isI_f h with z | z
  · rw [if_pos z]
  · by_cases y : x < 0
    · rw [if_pos y]
    · rw [if_neg y, if_pos (by
        rw [Int32.lt_iff_toInt_lt, nI_toInt (show p < 2 ^ 31 by omega)]
        rw [Int32.le_iff_toInt_le, nI_toInt hp] at z
        omega)]
theorem op_row : Op_row RR := by
  intro σ τ N x y z h
  have h0 := h
  obtain ⟨K, A, n, p, o, t, hR⟩ := h
  unfold fX8_row fX9_row
  rw [X8_isShelf, bs, M_in7, bs, X_bad, bs]
  rcases isI_c x (p := 8) (by decide) with q | ⟨s, hs, rfl⟩
  · rw [q, b1_f, if_pos rfl, if_pos rfl, M_bad, bs]
    exact ⟨_, _, _, rfl, rfl, RR_rf h0 (by decide)⟩
  rw [isI_y hs (by decide), b1_t, if_neg b1_ne, if_neg b1_ne, M_in4, bs]
  rcases isI_c y (p := 5) (by decide) with q | ⟨so, hso, rfl⟩
  · rw [isI_out3 (e := 4) (p := 4) rfl (by decide) q, q, b1_f, if_pos rfl, M_bad, bs]
    exact ⟨_, _, _, rfl, rfl, RR_rf h0 (by decide)⟩
  rw [if_neg (nI_pos (show so < 2 ^ 31 by omega)), if_neg (show ¬ (4 : Int32) < nI so from nI_nlt (a := 4) (by omega) (by decide)), isI_y hso (by decide), b1_t, if_neg b1_ne, M_in40, bs]
  rcases isI_c z (p := 41) (by decide) with q | ⟨m, hm, rfl⟩
  · rw [isI_out2 (e := 40) (p := 40) rfl (by decide) q, q, b1_f, if_pos rfl, M_bad, bs]
    exact ⟨_, _, _, rfl, rfl, RR_rf h0 (by decide)⟩
  rw [if_neg (nI_pos (show m < 2 ^ 31 by omega)), if_pos (show nI m ≤ 40 from nI_le (b := 40) (by omega) (by decide)), isI_y hm (by decide), b1_t, if_neg b1_ne, gd hs (by decide), gd hs (by decide), ql, ql, gd hs (by decide), gd hs (by decide), ql, gd hs (by decide), ql, nI_clamp (by omega)]
  let σa : q_M := q_I (q_I (q_I σ (31 + 4 * s) 0 (nI so)) (31 + 4 * s + 1) 0 (nI so)) (31 + 4 * s + 1) 1 (nI m)
  obtain ⟨σ', c1, c2, c3, c4⟩ := J_fill (σ := σa) (k := 31 + 4 * s + 1 + 1) (m := 40) (by decide)
  have eX : fX5_become (31 + 4 * s + 1) (nI so) (nI m) (q_I σ (31 + 4 * s) 0 (nI so)) = some σ' := by
    unfold fX5_become
    rw [ql, ql]
    show (fJ7_fill_d0a16 (31 + 4 * s + 1 + 1) 40 0 σa).bind _ = _
    rw [c4, bs]
  let τa : q_M := q_I (q_I (q_I τ 1 s 1) 2 s (nI so)) 3 s (nI m)
  have key := lp_ex (fun f (u : Nat × q_M) => fX9_row_c67 0 (nI s) (nI so) (nI m) f (nI u.1) u.2) (fun i u => u.1 = i ∧ ag (fun c _ => c ≠ 21 + s) τa u.2 ∧ u.2.1 = τa.1 ∧ ∀ j, j < i → u.2.2 (21 + s) j = 0) 40 (fun u => some (1, u.2)) ?_ ?_ q_FU (0, τa) (by decide) ⟨rfl, ag_rf _ _, rfl, fun j hj => by omega⟩
  · obtain ⟨⟨i, τ'⟩, ⟨_, d2, d3, d4⟩, d5⟩ := key
    have d5' : fX9_row_c67 0 (nI s) (nI so) (nI m) q_FU 0 τa = some (1, τ') := d5
    rw [eX, bs, show fX9_row_c67 0 (nI s) (nI so) (nI m) q_FU 0 (q_I (q_I (q_I τ (0 + 1) s 1) (0 + 2) s (nI so)) (0 + 3) s (nI m)) = some (1, τ') from d5']
    have aX : ag (shX s) σ σ' := ag_tr (ag_tr (ag_I (sX_in (by omega))) (ag_tr (ag_I (sX_in (by omega))) (ag_I (sX_in (by omega))))) (ag_sub c1 (fun c j hc => fun w => hc.2 (by omega)))
    have aM : ag (shM s) τ τ' := ag_tr (ag_tr (ag_I (sM_in (by omega))) (ag_tr (ag_I (sM_in (by omega))) (ag_I (sM_in (by omega))))) (ag_sub d2 (fun c j hc => fun w => hc.2 (Or.inr w)))
    refine ⟨1, σ', τ', rfl, rfl, K, A, n, p, o, t, Rel_sh hR hs aX aM (Or.inr (Or.inl ⟨so, m, by omega, by omega, ?_, ?_, ?_, ?_, ?_, ?_, ?_⟩))⟩
    · rw [c2]
      show (q_I (q_I (q_I σ (31 + 4 * s) 0 (nI so)) (31 + 4 * s + 1) 0 (nI so)) (31 + 4 * s + 1) 1 (nI m)).1 (31 + 4 * s) 0 = _
      rw [I_of (by omega), I_of (by omega), I_at]
    · rw [d3]
      show (q_I (q_I (q_I τ 1 s 1) 2 s (nI so)) 3 s (nI m)).1 1 s = _
      rw [I_of (by omega), I_of (by omega), I_at]
    · rw [d3]
      show (q_I (q_I (q_I τ 1 s 1) 2 s (nI so)) 3 s (nI m)).1 2 s = _
      rw [I_of (by omega), I_at]
    · rw [d3]
      show (q_I (q_I (q_I τ 1 s 1) 2 s (nI so)) 3 s (nI m)).1 3 s = _
      rw [I_at]
    · rw [c2]
      show (q_I (q_I (q_I σ (31 + 4 * s) 0 (nI so)) (31 + 4 * s + 1) 0 (nI so)) (31 + 4 * s + 1) 1 (nI m)).1 (32 + 4 * s) 0 = _
      rw [I_of (by omega), show 31 + 4 * s + 1 = 32 + 4 * s by omega, I_at]
    · rw [c2]
      show (q_I (q_I (q_I σ (31 + 4 * s) 0 (nI so)) (31 + 4 * s + 1) 0 (nI so)) (31 + 4 * s + 1) 1 (nI m)).1 (32 + 4 * s) 1 = _
      rw [show 31 + 4 * s + 1 = 32 + 4 * s by omega, I_at]
    · intro i hi
      rw [show 33 + 4 * s = 31 + 4 * s + 1 + 1 by omega, c3 i hi, d4 i hi]
  · rintro f i ⟨j, τ2⟩ hi ⟨rfl, g1, g2, g3⟩
    have hj : j < 40 := hi
    refine ⟨(j + 1, q_L τ2 (21 + s) j 0), ⟨rfl, ag_tr g1 (ag_L (fun w => w rfl)), g2, ?_⟩, ?_⟩
    · intro a ha
      show (q_L τ2 (21 + s) j 0).2 (21 + s) a = 0
      by_cases q : a = j
      · subst q; exact L_at
      · rw [L_of (fun w => q w.2)]; exact g3 a (by omega)
    · show fX9_row_c67b 0 (nI s) (nI so) (nI m) (fX9_row_c67 0 (nI s) (nI so) (nI m) f) (nI j) τ2 = _
      unfold fX9_row_c67b
      rw [if_neg (show ¬ (40 : Int32) ≤ nI j from nI_ge (a := j) (b := 40) hj (by decide)), gd hs (by decide), gd hj (by decide), ql, nI_clamp (show s < 2 ^ 31 by omega), nI_clamp (show j < 2 ^ 31 by omega), nI_1, show 0 + 21 + s = 21 + s by omega]
  · rintro f ⟨j, τ2⟩ ⟨hj, _⟩
    have hj' : j = 40 := hj
    subst hj'
    show fX9_row_c67b 0 (nI s) (nI so) (nI m) (fX9_row_c67 0 (nI s) (nI so) (nI m) f) (nI 40) τ2 = _
    unfold fX9_row_c67b
    rw [if_pos (show (40 : Int32) ≤ nI 40 by decide)]
theorem op_move : Op_move RR := by
  intro σ τ N x y z w h
  have h0 := h
  obtain ⟨K, A, n, p, o, t, hR⟩ := h
  unfold fX8_move fX9_move
  rw [X8_isShelf, bs, M_in7, bs, X_bad, bs]
  rcases isI_c x (p := 8) (by decide) with q | ⟨s, hs, rfl⟩
  · rw [q, b1_f, if_pos rfl, if_pos rfl, M_bad, bs]
    exact ⟨_, _, _, rfl, rfl, RR_rf h0 (by decide)⟩
  rw [isI_y hs (by decide), b1_t, if_neg b1_ne, if_neg b1_ne, show (1 : Int64) = lN 1 from rfl, show (5 : Int64) = lN 5 from rfl, M_inG (by decide) (by decide), bs]
  by_cases q1 : y < 1
  · rw [if_pos q1, show (!decide (y < nI 1) && decide (y ≤ nI 5)) = false by rw [decide_eq_true (show y < nI 1 from q1)]; rfl, b1_f, if_pos rfl, M_bad, bs]
    exact ⟨_, _, _, rfl, rfl, RR_rf h0 (by decide)⟩
  rw [if_neg q1, show decide (y < nI 1) = false from decide_eq_false q1]
  by_cases q2 : (5 : Int32) < y
  · rw [if_pos q2, show decide (y ≤ nI 5) = false from decide_eq_false (fun u => by
      have u' : y ≤ 5 := u
      rw [Int32.le_iff_toInt_le] at u'
      rw [Int32.lt_iff_toInt_lt] at q2
      omega), if_pos (show b1 (!false && false) = 0 from rfl), M_bad, bs]
    exact ⟨_, _, _, rfl, rfl, RR_rf h0 (by decide)⟩
  have y5 : y ≤ nI 5 := by
    show y ≤ 5
    rw [Int32.le_iff_toInt_le]
    rw [Int32.lt_iff_toInt_lt] at q2
    omega
  obtain ⟨kd, hkd, rfl⟩ : ∃ m, m ≤ 5 ∧ y = nI m := by
    obtain ⟨m, hm, rfl⟩ := nI_of (x := y) (fun u => q1 (by
      rw [Int32.lt_iff_toInt_lt] at u ⊢
      have e1 : (1 : Int32).toInt = 1 := by decide
      have e0 : (0 : Int32).toInt = 0 := by decide
      omega))
    exact ⟨m, (nI_leI hm (by decide)).mp y5, rfl⟩
  have kd1 : 1 ≤ kd := by
    rcases Nat.eq_zero_or_pos kd with u | u
    · subst u; exact absurd (by decide) q1
    · exact u
  rw [if_neg q2, decide_eq_true y5, if_neg (show ¬ b1 (!false && true) = 0 from b1_ne), X8_isWay, bs, show fX9_in z.toInt64 0 (lN 5) τ = _ from M_in5 z τ, bs]
  rcases isI_c z (p := 6) (by decide) with q | ⟨a, ha, rfl⟩
  · rw [q, b1_f, if_pos rfl, if_pos rfl, M_bad, bs]
    exact ⟨_, _, _, rfl, rfl, RR_rf h0 (by decide)⟩
  rw [isI_y ha (by decide), b1_t, if_neg b1_ne, if_neg b1_ne, X8_isWay, bs, show fX9_in w.toInt64 0 (lN 5) τ = _ from M_in5 w τ, bs]
  rcases isI_c w (p := 6) (by decide) with q | ⟨b, hb, rfl⟩
  · rw [q, b1_f, if_pos rfl, if_pos rfl, M_bad, bs]
    exact ⟨_, _, _, rfl, rfl, RR_rf h0 (by decide)⟩
  rw [isI_y hb (by decide), b1_t, if_neg b1_ne, if_neg b1_ne, gd hs (by decide), gd hs (by decide), ql, ql, gd hs (by decide), gd hs (by decide), ql, gd hs (by decide), ql, gd hs (by decide), ql, nI_clamp (show s < 2 ^ 31 by omega)]
  unfold fX3_become
  rw [ql, ql, ql, bs, show (10 : Int32) + nI kd = nI (10 + kd) from nI_add 10 kd]
  have aX : ag (shX s) σ (q_I (q_I (q_I (q_I σ (31 + 4 * s) 0 (nI (10 + kd))) (31 + 4 * s + 3) 0 (nI kd)) (31 + 4 * s + 3) 1 (nI a)) (31 + 4 * s + 3) 2 (nI b)) := ag_tr (ag_I (sX_in (by omega))) (ag_tr (ag_I (sX_in (by omega))) (ag_tr (ag_I (sX_in (by omega))) (ag_I (sX_in (by omega)))))
  have aM : ag (shM s) τ (q_I (q_I (q_I (q_I τ 1 s 2) 6 s (nI kd)) 7 s (nI a)) 8 s (nI b)) := ag_tr (ag_I (sM_in (by omega))) (ag_tr (ag_I (sM_in (by omega))) (ag_tr (ag_I (sM_in (by omega))) (ag_I (sM_in (by omega)))))
  refine ⟨1, _, _, rfl, rfl, K, A, n, p, o, t, Rel_sh hR hs aX aM (Or.inr (Or.inr ⟨kd, a, b, ⟨kd1, hkd, ha, hb⟩, ?_, ?_, ?_, ?_, ?_, ?_, ?_, ?_⟩))⟩
  · rw [I_of (by omega), I_of (by omega), I_of (by omega), I_at]
  · rw [I_of (by omega), I_of (by omega), I_of (by omega), I_at]
  · rw [I_of (by omega), I_of (by omega), I_at]
  · rw [I_of (by omega), I_at]
  · rw [I_at]
  · rw [show 34 + 4 * s = 31 + 4 * s + 3 by omega, I_of (by omega), I_of (by omega), I_at]
  · rw [show 34 + 4 * s = 31 + 4 * s + 3 by omega, I_of (by omega), I_at]
  · rw [show 34 + 4 * s = 31 + 4 * s + 3 by omega, I_at]
/-- a shelf's row here and there -/
def RwC (σ τ : q_M) (s : Nat) : Prop := ∃ so m, so ≤ 4 ∧ m ≤ 40 ∧ σ.1 (31 + 4 * s) 0 = nI so ∧ τ.1 1 s = 1 ∧ τ.1 2 s = nI so ∧ τ.1 3 s = nI m ∧ σ.1 (31 + 4 * s + 1) 0 = nI so ∧ σ.1 (31 + 4 * s + 1) 1 = nI m ∧ (∀ i, i < 40 → σ.2 (31 + 4 * s + 1 + 1) i = τ.2 (21 + s) i) ∧ fX8_rowRefusal (nI s) σ = some (0, σ) ∧ fX9_noRow 0 (nI s) τ = some (0, τ)
theorem rw_c {σ τ : q_M} (h : RSh σ τ) (x : Int32) : (isI x 8 = false ∧ fX8_rowRefusal x σ = some (-2, σ) ∧ fX9_noRow 0 x τ = some (-2, rfM τ 0)) ∨ ∃ s, s < 8 ∧ x = nI s ∧ ((fX8_rowRefusal x σ = some (-3, σ) ∧ fX9_noRow 0 x τ = some (-3, rfM τ 1)) ∨ (fX8_rowRefusal x σ = some (-4, σ) ∧ fX9_noRow 0 x τ = some (-4, rfM τ 2)) ∨ RwC σ τ s) := by
  rcases isI_c x (p := 8) (by decide) with q | ⟨s, hs, rfl⟩
  · refine Or.inl ⟨q, ?_, ?_⟩
    · unfold fX8_rowRefusal
      rw [X8_isShelf, bs, q, b1_f, if_pos rfl]
    · unfold fX9_noRow
      rw [M_in7, bs, q, b1_f, if_pos rfl, M_bad, bs]
  · refine Or.inr ⟨s, hs, rfl, ?_⟩
    rcases h s hs with ⟨e1, e2⟩ | ⟨so, m, e1, e2, e3, e4, e5, e6, e7, e8, e9⟩ | ⟨kd, a, b, e1, e2, e3, _⟩
    · refine Or.inr (Or.inl ⟨?_, ?_⟩)
      · unfold fX8_rowRefusal
        rw [X8_isShelf, bs, isI_y hs (by decide), b1_t, if_neg b1_ne, gd hs (by decide), nI_clamp (by omega), (isMove_n e1).1, bs, if_pos rfl, gd2 hs (by decide), (isMove_n e1).2, bs, if_pos rfl]
      · unfold fX9_noRow
        rw [M_in7, bs, isI_y hs (by decide), b1_t, if_neg b1_ne, gd hs (by decide), nI_clamp (by omega), show τ.1 (0 + 1) s = 0 from e2, if_neg (by decide), gd2 hs (by decide), if_pos rfl, M_not, bs]
    · refine Or.inr (Or.inr ⟨so, m, e1, e2, e3, e4, e5, e6, by rw [show 31 + 4 * s + 1 = 32 + 4 * s by omega]; exact e7, by rw [show 31 + 4 * s + 1 = 32 + 4 * s by omega]; exact e8, fun i hi => by rw [show 31 + 4 * s + 1 + 1 = 33 + 4 * s by omega]; exact e9 i hi, ?_, ?_⟩)
      · unfold fX8_rowRefusal
        rw [X8_isShelf, bs, isI_y hs (by decide), b1_t, if_neg b1_ne, gd hs (by decide), nI_clamp (by omega), (isMove_r e3 e1).1, bs, if_pos rfl, gd2 hs (by decide), (isMove_r e3 e1).2, bs, if_neg b1_ne]
      · unfold fX9_noRow
        rw [M_in7, bs, isI_y hs (by decide), b1_t, if_neg b1_ne, gd hs (by decide), nI_clamp (by omega), show τ.1 (0 + 1) s = 1 from e4, if_neg (by decide), gd2 hs (by decide), if_neg b1_ne]
    · refine Or.inl ⟨?_, ?_⟩
      · unfold fX8_rowRefusal
        rw [X8_isShelf, bs, isI_y hs (by decide), b1_t, if_neg b1_ne, gd hs (by decide), nI_clamp (by omega), (isMove_m e2 e1.1 e1.2.1).1, bs, if_neg b1_ne]
      · unfold fX9_noRow
        rw [M_in7, bs, isI_y hs (by decide), b1_t, if_neg b1_ne, gd hs (by decide), nI_clamp (by omega), show τ.1 (0 + 1) s = 2 from e3, if_pos rfl, M_oth, bs]
def ftv (so : Nat) (v : Int64) : Int64 := if so = 0 then v.toInt32.toInt8.toInt32.toInt64 else if so = 1 then v.toInt32.toInt16.toInt32.toInt64 else if so = 2 then v.toInt32.toInt64 else if so = 3 then v else if v = 0 then 0 else 1
theorem X5_fitted {σ : q_M} {k so : Nat} (h : σ.1 k 0 = nI so) (h4 : so ≤ 4) (v : Int64) : fX5_fitted k v σ = some (ftv so v, σ) := by
  unfold fX5_fitted ftv
  rw [h]
  rcases (show so = 0 ∨ so = 1 ∨ so = 2 ∨ so = 3 ∨ so = 4 by omega) with rfl | rfl | rfl | rfl | rfl
  · rfl
  · rfl
  · rfl
  · rfl
  · rw [if_neg (by decide), if_neg (by decide), if_neg (by decide), if_neg (by decide), if_pos (show nI 4 = 4 from rfl), if_neg (show ¬ (4 : Nat) = 0 by decide), if_neg (show ¬ (4 : Nat) = 1 by decide), if_neg (show ¬ (4 : Nat) = 2 by decide), if_neg (show ¬ (4 : Nat) = 3 by decide)]
    by_cases q : v = 0
    · rw [if_pos q, if_pos q]
    · rw [if_neg q, if_neg q]
theorem M_fit {τ : q_M} {so : Nat} (h4 : so ≤ 4) (v : Int64) : fX9_fit (nI so) v τ = some (ftv so v, τ) := by
  unfold fX9_fit ftv
  rcases (show so = 0 ∨ so = 1 ∨ so = 2 ∨ so = 3 ∨ so = 4 by omega) with rfl | rfl | rfl | rfl | rfl
  · rfl
  · rfl
  · rfl
  · rfl
  · rw [if_neg (by decide), if_neg (by decide), if_neg (by decide), if_neg (by decide), if_neg (show ¬ (4 : Nat) = 0 by decide), if_neg (show ¬ (4 : Nat) = 1 by decide), if_neg (show ¬ (4 : Nat) = 2 by decide), if_neg (show ¬ (4 : Nat) = 3 by decide)]
    by_cases q : v = 0
    · rw [if_pos q, if_pos q]
    · rw [if_neg q, if_neg q]
theorem op_set : Op_set RR := by
  intro σ τ N x y v h
  have h0 := h
  obtain ⟨K, A, n, p, o, t, hR⟩ := h
  unfold fX8_set fX9_set
  rcases rw_c hR.2.2.2.2.2.1 x with ⟨_, e1, e2⟩ | ⟨s, hs, rfl, ⟨e1, e2⟩ | ⟨e1, e2⟩ | ⟨so, m, s4, m40, w1, w2, w3, w4, w5, w6, w7, e1, e2⟩⟩
  · rw [e1, bs, if_neg n2', X_bad, bs, e2, bs, if_neg n2']
    exact ⟨_, _, _, rfl, rfl, RR_rf h0 (by decide)⟩
  · rw [e1, bs, if_neg n3', X_oth, bs, e2, bs, if_neg n3']
    exact ⟨_, _, _, rfl, rfl, RR_rf h0 (by decide)⟩
  · rw [e1, bs, if_neg n4', X_not, bs, e2, bs, if_neg n4']
    exact ⟨_, _, _, rfl, rfl, RR_rf h0 (by decide)⟩
  · rw [e1, bs, if_pos rfl, gd hs (by decide), e2, bs, if_pos rfl, gd hs (by decide), nI_clamp (show s < 2 ^ 31 by omega), w6, show τ.1 (0 + 3) s = nI m from w4, M_inP (by omega), bs]
    rcases isI_c y (p := m) (by omega) with q | ⟨j, hj, rfl⟩
    · rw [X_bad, bs, isI_out q, q, b1_f, if_pos rfl, M_bad, bs]
      exact ⟨_, _, _, rfl, rfl, RR_rf h0 (by decide)⟩
    · rw [isI_ins hj (by omega), isI_y hj (by omega), b1_t, if_neg b1_ne, X5_fitted w5 s4, bs, gd (show j < 40 by omega) (by decide), ql, gd2 hs (by decide), gd2 hs (by decide), show τ.1 (0 + 2) s = nI so from w3, M_fit s4, bs, gd (show j < 40 by omega) (by decide), ql, nI_clamp (show j < 2 ^ 31 by omega), show 0 + 21 + s = 21 + s by omega]
      refine ⟨1, _, _, rfl, rfl, K, A, n, p, o, t, Rel_sh hR hs (ag_L (sX_in (by omega))) (ag_L sM_rw) (Or.inr (Or.inl ⟨so, m, s4, m40, w1, w2, w3, w4, ?_, ?_, ?_⟩))⟩
      · show σ.1 (32 + 4 * s) 0 = _
        rw [show 32 + 4 * s = 31 + 4 * s + 1 by omega]; exact w5
      · show σ.1 (32 + 4 * s) 1 = _
        rw [show 32 + 4 * s = 31 + 4 * s + 1 by omega]; exact w6
      · intro i hi
        rw [show 33 + 4 * s = 31 + 4 * s + 1 + 1 by omega]
        by_cases z : i = j
        · subst z
          rw [L_at, L_at]
        · rw [L_of (fun u => z u.2), L_of (fun u => z u.2)]
          exact w7 i hi
theorem op_element : Op_element RR := by
  intro σ τ N x y h
  have h0 := h
  obtain ⟨K, A, n, p, o, t, hR⟩ := h
  unfold fX8_element fX9_element
  rw [X8_isShelf, bs, M_in7, bs]
  rcases isI_c x (p := 8) (by decide) with q | ⟨s, hs, rfl⟩
  · rw [q, b1_f, if_pos rfl, if_pos rfl]
    exact ⟨_, _, _, rfl, rfl, h0⟩
  · rw [isI_y hs (by decide), b1_t, if_neg b1_ne, if_neg b1_ne, gd hs (by decide), gd hs (by decide), nI_clamp (show s < 2 ^ 31 by omega)]
    rcases hR.2.2.2.2.2.1 s hs with ⟨e1, e2⟩ | ⟨so, m, e1, e2, e3, e4, e5, e6, e7, e8, e9⟩ | ⟨kd, a, b, e1, e2, e3, _⟩
    · rw [(isMove_n e1).2, bs, if_pos rfl, show τ.1 (0 + 1) s = 0 from e2, if_neg (by decide)]
      exact ⟨_, _, _, rfl, rfl, h0⟩
    · rw [(isMove_r e3 e1).2, bs, if_neg b1_ne, gd2 hs (by decide), show τ.1 (0 + 1) s = 1 from e4, if_pos rfl, gd2 hs (by decide), show τ.1 (0 + 3) s = nI m from e6, M_inP (by omega), bs, show σ.1 (31 + 4 * s + 1) 1 = nI m by rw [show 31 + 4 * s + 1 = 32 + 4 * s by omega]; exact e8]
      rcases isI_c y (p := m) (by omega) with q | ⟨j, hj, rfl⟩
      · rw [q, b1_f, if_pos rfl]
        have e : ∀ {α : Type} {P Q : α}, (if y < 0 then P else if nI m ≤ y then P else Q) = P := by
          intro α P Q
          rcases isI_f q with z | z
          · rw [if_pos z]
          · by_cases w : y < 0
            · rw [if_pos w]
            · rw [if_neg w, if_pos z]
        rw [e]
        exact ⟨_, _, _, rfl, rfl, h0⟩
      · rw [if_neg (nI_pos (show j < 2 ^ 31 by omega)), if_neg (nI_ge hj (by omega)), isI_y hj (by omega), b1_t, if_neg b1_ne, gd (show j < 40 by omega) (by decide), gd2 hs (by decide), gd (show j < 40 by omega) (by decide), nI_clamp (show j < 2 ^ 31 by omega)]
        refine ⟨_, _, _, rfl, ?_, h0⟩
        rw [show σ.2 (31 + 4 * s + 1 + 1) j = τ.2 (0 + 21 + s) j by rw [show 31 + 4 * s + 1 + 1 = 33 + 4 * s by omega, show 0 + 21 + s = 21 + s by omega]; exact e9 j (by omega)]
    · rw [(isMove_m e2 e1.1 e1.2.1).2, bs, if_pos rfl, show τ.1 (0 + 1) s = 2 from e3, if_neg (by decide)]
      exact ⟨_, _, _, rfl, rfl, h0⟩
/-- a row's elements that are not nought -/
theorem X5_notZero {σ : q_M} {k m : Nat} (h : σ.1 k 1 = nI m) (hm : m ≤ 40) : fX5_notZero k σ = some (mkN (fun i => !decide (σ.2 (k + 1) i = 0)) m, σ) := by
  unfold fX5_notZero
  refine lq2 (fX5_notZero_c4 k) σ (mkN (fun i => !decide (σ.2 (k + 1) i = 0))) m _ (by omega) ?_ ?_
  · intro f i hi
    show fX5_notZero_c4b k (fX5_notZero_c4 k f) (mkN (fun i => !decide (σ.2 (k + 1) i = 0)) i) (nI i) σ = _
    unfold fX5_notZero_c4b
    rw [h, if_neg (nI_ge hi (by omega)), gd (show i < 40 by omega) (by decide), nI_clamp (by omega), nI_1]
    by_cases q : σ.2 (k + 1) i = 0
    · rw [if_pos q, mkN_f (by rw [decide_eq_true q]; rfl)]
    · rw [if_neg q, ql, mkN_t (by rw [decide_eq_false q]; rfl)]
  · intro f
    show fX5_notZero_c4b k (fX5_notZero_c4 k f) (mkN (fun i => !decide (σ.2 (k + 1) i = 0)) m) (nI m) σ = _
    unfold fX5_notZero_c4b
    rw [h, if_pos (nI_le (Nat.le_refl _) (by omega))]
theorem op_figure : Op_figure RR := by
  intro σ τ N x h
  have h0 := h
  obtain ⟨K, A, n, p, o, t, hR⟩ := h
  obtain ⟨h1, h2, h3, h4, _⟩ := hR.2.1
  have hN : MN τ n := ⟨h1.1, h2⟩
  have hn := h1.1
  have h64 := hn.cube
  unfold fX8_figure fX9_figure
  rcases rw_c hR.2.2.2.2.2.1 x with ⟨_, e1, e2⟩ | ⟨s, hs, rfl, ⟨e1, e2⟩ | ⟨e1, e2⟩ | ⟨so, m, s4, m40, w1, w2, w3, w4, w5, w6, w7, e1, e2⟩⟩
  · rw [e1, bs, if_neg n2', X_bad, bs, e2, bs, if_neg n2']
    exact ⟨_, _, _, rfl, rfl, RR_rf h0 (by decide)⟩
  · rw [e1, bs, if_neg n3', X_oth, bs, e2, bs, if_neg n3']
    exact ⟨_, _, _, rfl, rfl, RR_rf h0 (by decide)⟩
  · rw [e1, bs, if_neg n4', X_not, bs, e2, bs, if_neg n4']
    exact ⟨_, _, _, rfl, rfl, RR_rf h0 (by decide)⟩
  · let F : Int64 := mkN (fun i => !decide (τ.2 (21 + s) i = 0)) (Nat.min m (n * n * n))
    have eF : mkN (fun i => !decide (σ.2 (31 + 4 * s + 1 + 1) i = 0)) m &&& allL n = F := tb_ext fun c _ => by
      show tb _ c = tb (mkN (fun i => !decide (τ.2 (21 + s) i = 0)) (Nat.min m (n * n * n))) c
      have hmin : ∀ c, c < Nat.min m (n * n * n) ↔ c < m ∧ c < n * n * n := fun c => Nat.lt_min
      have hle : Nat.min m (n * n * n) ≤ 64 := Nat.le_trans (Nat.min_le_left _ _) (by omega)
      rw [tb_and, tb_mkN _ _ (by omega), tb_mkN _ _ hle, tb_allL hn]
      by_cases z1 : c < m
      · by_cases z2 : c < n * n * n
        · rw [decide_eq_true z1, decide_eq_true z2, decide_eq_true ((hmin c).mpr ⟨z1, z2⟩), w7 c (by omega)]
          simp
        · rw [decide_eq_false z2, decide_eq_false (fun w => z2 ((hmin c).mp w).2)]
          simp
      · rw [decide_eq_false z1, decide_eq_false (fun w => z1 ((hmin c).mp w).1)]
        simp
    have hF : inB n F := by rw [← eF]; exact inB_and_all hn
    have key := lp_run (fun f (i : Nat) => fX9_figure_c19 0 (nI s) f (nI i) (q_L τ 0 12 (mkN (fun i => !decide (τ.2 (21 + s) i = 0)) i))) id (Nat.min m (n * n * n)) (some (nI (cnt F), q_L τ 0 12 F)) ?_ ?_ q_FU (Nat.lt_of_le_of_lt (Nat.min_le_left _ _) (by show _ < 400; omega))
    · have key' : fX9_figure_c19 0 (nI s) q_FU 0 (q_L τ 0 12 0) = some (nI (cnt F), q_L τ 0 12 F) := key
      rw [e1, bs, if_pos rfl, gd hs (by decide), nI_clamp (show s < 2 ^ 31 by omega), X5_notZero w6 m40, bs, ql, show σ.2 2 2 = allL n from h1.2.2.2.1, eF, L_at, J_bits, bs, e2, bs, if_pos rfl, ql, key']
      exact ⟨_, _, _, rfl, rfl, K, A, n, p, o, t, Rel_fig hR hF⟩
    · intro f i hi
      have hi1 : i < m := Nat.lt_of_lt_of_le hi (Nat.min_le_left _ _)
      have hi2 : i < n * n * n := Nat.lt_of_lt_of_le hi (Nat.min_le_right _ _)
      have hN2 : ∀ v, MN (q_L τ 0 12 v) n := fun v => hN
      have LL : ∀ u v, q_L (q_L τ 0 12 u) 0 12 v = q_L τ 0 12 v := fun u v => by
        unfold q_L
        congr 1
        funext a b
        by_cases z : a = 0 ∧ b = 12
        · rw [if_pos z, if_pos z]
        · rw [if_neg z, if_neg z]
          show (if a = 0 ∧ b = 12 then u else τ.2 a b) = τ.2 a b
          rw [if_neg z]
      show fX9_figure_c19b 0 (nI s) (fX9_figure_c19 0 (nI s) f) (nI i) (q_L τ 0 12 (mkN (fun i => !decide (τ.2 (21 + s) i = 0)) i)) = fX9_figure_c19 0 (nI s) f (nI (i + 1)) (q_L τ 0 12 (mkN (fun i => !decide (τ.2 (21 + s) i = 0)) (i + 1)))
      unfold fX9_figure_c19b
      rw [M_many (hN2 _), bs, if_neg (nI_ge hi2 (by omega)), gd hs (by decide), nI_clamp (show s < 2 ^ 31 by omega), show (q_L τ 0 12 (mkN (fun i => !decide (τ.2 (21 + s) i = 0)) i)).1 (0 + 3) s = nI m from w4, if_neg (nI_ge hi1 (by omega)), gd2 hs (by decide), gd (show i < 40 by omega) (by decide), nI_clamp (show i < 2 ^ 31 by omega), L_of (show ¬ (0 + 21 + s = 0 ∧ i = 12) by omega), L_at, ql, ql, LL, LL, nI_1, show 0 + 21 + s = 21 + s by omega]
      by_cases q : τ.2 (21 + s) i = 0
      · rw [if_pos q, or0, mkN_f (by rw [decide_eq_true q]; rfl)]
      · rw [if_neg q, mkN_t (by rw [decide_eq_false q]; rfl)]
    · intro f
      have hN2 : ∀ v, MN (q_L τ 0 12 v) n := fun v => hN
      show fX9_figure_c19b 0 (nI s) (fX9_figure_c19 0 (nI s) f) (nI (Nat.min m (n * n * n))) (q_L τ 0 12 F) = _
      unfold fX9_figure_c19b
      rw [M_many (hN2 _), bs, M_bits, bs, L_at]
      by_cases q : n * n * n ≤ Nat.min m (n * n * n)
      · rw [if_pos (nI_le q (Nat.lt_of_le_of_lt (Nat.min_le_left _ _) (by omega)))]
      · have q2 : m ≤ Nat.min m (n * n * n) := by
          rcases Nat.le_total m (n * n * n) with z | z
          · exact Nat.le_min.mpr ⟨Nat.le_refl _, z⟩
          · exact absurd (Nat.le_min.mpr ⟨z, Nat.le_refl _⟩) q
        rw [if_neg (nI_ge (Nat.lt_of_not_le q) (by omega)), gd hs (by decide), nI_clamp (show s < 2 ^ 31 by omega), show (q_L τ 0 12 F).1 (0 + 3) s = nI m from w4, if_pos (nI_le q2 (Nat.lt_of_le_of_lt (Nat.min_le_left _ _) (by omega)))]
