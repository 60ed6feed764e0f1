/-! Reading: a statement. -/
def frX : Nat → Nat → Prop := fun c j => ¬ ((15 ≤ c ∧ c ≤ 21) ∨ (c = 23 ∧ 1 ≤ j))
def frM : Nat → Nat → Prop := fun c j => ¬ ((c = 0 ∧ (j = 11 ∨ j = 12 ∨ j = 13 ∨ j = 15 ∨ j = 17 ∨ j = 18 ∨ (20 ≤ j ∧ j ≤ 24))) ∨ c = 11 ∨ c = 12 ∨ c = 13)
def mdX : Nat → Nat → Prop := fun c _ => ¬ (15 ≤ c ∧ c ≤ 21)
def mdM : Nat → Nat → Prop := fun c j => ¬ ((c = 0 ∧ (j = 11 ∨ j = 12 ∨ j = 13 ∨ j = 15 ∨ j = 17 ∨ j = 18)) ∨ c = 11 ∨ c = 12)
theorem aT_fr {σ σ' : q_M} (h : ag aT σ σ') : ag frX σ σ' := ag_sub h (fun c j hc => by unfold frX at hc; unfold aT; omega)
theorem pN_fr {τ τ' : q_M} (h : ag pN τ τ') : ag frM τ τ' := ag_sub h (fun c j hc => by unfold frM at hc; unfold pN; omega)
theorem mX_fr {σ σ' : q_M} (h : ag mdX σ σ') : ag frX σ σ' := ag_sub h (fun c j hc => by unfold frX at hc; unfold mdX; omega)
theorem mM_fr {τ τ' : q_M} (h : ag mdM τ τ') : ag frM τ τ' := ag_sub h (fun c j hc => by unfold frM at hc; unfold mdM; omega)
theorem nf1 : ∀ v, v < 1000 → ¬ nI v = -1 := by decide +kernel
theorem cub8 {n : Nat} (hn : Sz n) : 8 ≤ n * n * n := by
  have := hn
  unfold Sz at this
  rcases (show n = 2 ∨ n = 3 ∨ n = 4 by omega) with rfl | rfl | rfl <;> decide
def Sfi (by' : Nat → Nat) (t L : Nat) (σ0 τ0 : q_M) (x y : Option (Int32 × q_M)) : Prop := ∃ r σ' τ', x = some (b1 r, σ') ∧ y = some (b1 r, τ') ∧ ag frX σ0 σ' ∧ ag frM τ0 τ' ∧ (∃ m, Blk σ' 16 m) ∧ (r = false → ∃ s, s ≤ 250 ∧ σ'.1 23 1 = nI s ∧ τ'.1 0 24 = nI s) ∧ (r = true → ∃ e n p o, L ≤ e ∧ ST σ' τ' by' t e n p o)
theorem tS250 {σ τ : q_M} {by' : Nat → Nat} {t e n p o : Nat} (h : ST σ τ by' t e n p o) : tS by' t e ≤ 250 := by
  have hb := tok_b (by' := by') h.2.2.1.1
  have := h.1.1
  omega
theorem sf_bad {σ0 τ0 σ τ τ' : q_M} {by' : Nat → Nat} {t L e n p o : Nat} (h : ST σ τ by' t e n p o) (a : ag frX σ0 σ) (b : ag frM τ0 τ') (hb : τ'.1 0 24 = nI (tS by' t e)) : Sfi by' t L σ0 τ0 (some (0, σ)) (some (0, τ')) :=
  ⟨false, σ, τ', rfl, rfl, a, b, ⟨n, h.2.2.2.1⟩, fun _ => ⟨tS by' t e, tS250 h, h.2.2.1.2.1, hb⟩, fun z => by cases z⟩
theorem sf_ok0 {σ0 τ0 σ τ σ' τ' : q_M} {by' : Nat → Nat} {t L e n' p' o' : Nat} (hx : TpX σ by' t) (hm : TpM τ by' t) (hk : TK σ τ by' t e) (a : ag frX σ0 σ) (b : ag frM τ0 τ) (a' : ag mdX σ σ') (b' : ag mdM τ τ') (R : RM σ' 15 τ' 0 n' p' o') (hL : L ≤ e) : Sfi by' t L σ0 τ0 (some (1, σ')) (some (1, τ')) := by
  refine ⟨true, σ', τ', rfl, rfl, ag_tr a (mX_fr a'), ag_tr b (mM_fr b'), ⟨n', R.1⟩, (fun z => by cases z), fun _ => ⟨e, n', p', o', hL, ?_⟩⟩
  obtain ⟨x1, x2, x3⟩ := hx
  obtain ⟨m1, m2, m3⟩ := hm
  obtain ⟨k1, k2, k3, k4, k5, k6, k7, k8⟩ := hk
  have X := fun j => (a' 23 j (by unfold mdX; omega)).1
  have M := fun j (hj : j = 9 ∨ (20 ≤ j ∧ j ≤ 23)) => b' 0 j (by unfold mdM; omega)
  refine ⟨⟨x1, by rw [X]; exact x2, fun i hi => ⟨(x3 i hi).1, ?_⟩⟩, ⟨m1, by rw [(M 9 (by omega)).1]; exact m2, fun i hi => ⟨(m3 i hi).1, ?_⟩⟩, ⟨k1, by rw [X]; exact k2, by rw [X]; exact k3, by rw [X]; exact k4, ?_, ?_, ?_, fun w => ?_⟩, R⟩
  · rw [(a' 24 i (by unfold mdX; omega)).1]; exact (x3 i hi).2
  · rw [(b' 9 i (by unfold mdM; omega)).1]; exact (m3 i hi).2
  · rw [(M 22 (by omega)).1]; exact k5
  · rw [(M 21 (by omega)).1]; exact k6
  · rw [(M 20 (by omega)).1]; exact k7
  · rw [(M 23 (by omega)).2]; exact k8 w
theorem sf_ok {σ0 τ0 σ τ σ' τ' : q_M} {by' : Nat → Nat} {t L e n p o n' p' o' : Nat} (h : ST σ τ by' t e n p o) (a : ag frX σ0 σ) (b : ag frM τ0 τ) (a' : ag mdX σ σ') (b' : ag mdM τ τ') (R : RM σ' 15 τ' 0 n' p' o') (hL : L ≤ e) : Sfi by' t L σ0 τ0 (some (1, σ')) (some (1, τ')) := sf_ok0 h.1 h.2.1 h.2.2.1 a b a' b' R hL
theorem wd_k {by' : Nat → Nat} {t e w : Nat} (h : wdB by' t e w = true) : tK by' t e = 1 := by
  unfold wdB at h
  simp only [Bool.and_eq_true, decide_eq_true_iff] at h
  exact h.1
theorem tE_le {by' : Nat → Nat} {t e : Nat} (h : e ≤ t) : e ≤ tE by' t e ∧ tE by' t e ≤ t := by
  have := tok_b (by' := by') h
  omega
theorem wd_L {by' : Nat → Nat} {t e w : Nat} (he : e ≤ t) (h : wdB by' t e w = true) : tS by' t e + 1 ≤ tE by' t e := by
  have := tok_b (by' := by') he
  have hk := wd_k h
  have := this.2.2.2.1 (by omega)
  omega
/-- a word and a number behind it -/
theorem tlw {σ τ : q_M} {by' : Nat → Nat} {t e n p o w i lo hi : Nat} (h : ST σ τ by' t e n p o) (hw : w < 9) (hi2 : i < 2) (hh : hi ≤ 999) (hlo : lo ≤ 999) (q : wdB by' t e w = true) : ∃ σ1, fX7_advance σ = some σ1 ∧ ag aT σ σ1 ∧ ((∃ v σ2 τ2, lo ≤ v ∧ v ≤ hi ∧ fX4_numberWithin (nI lo) (nI hi) σ1 = some (nI v, σ2) ∧ fX9_tells 0 w (nI i) (nI lo) (nI hi) τ = some (1, τ2) ∧ ST σ2 τ2 by' t (tE by' t (tE by' t e)) n p o ∧ ag aT σ σ2 ∧ ag pN τ τ2 ∧ τ2.1 13 i = nI v ∧ (∀ j, j ≠ i → τ2.1 13 j = τ.1 13 j)) ∨ (∃ τ1 τ2, fX4_numberWithin (nI lo) (nI hi) σ1 = some (-1, σ1) ∧ fX9_tells 0 w (nI i) (nI lo) (nI hi) τ = some (0, τ2) ∧ ST σ1 τ1 by' t (tE by' t e) n p o ∧ ag frM τ τ2 ∧ τ2.1 0 24 = nI (tS by' t (tE by' t e)))) := by
  obtain ⟨σ1, τ1, e1, e2, e3, e4, e5⟩ := adv h
  refine ⟨σ1, e1, e4, ?_⟩
  have ht : ∀ r τ2, fX9_number 0 (nI i) (nI lo) (nI hi) τ1 = some (r, τ2) → (r = 0 ∨ r = 1) → fX9_tells 0 w (nI i) (nI lo) (nI hi) τ = some (r, τ2) := fun r τ2 hx h01 => by
    unfold fX9_tells
    rw [M_word h hw, bs, q, b1_t, if_neg b1_ne, e2, bs, hx, bs, if_pos h01]
  cases ok : okN by' t (tE by' t e) lo hi with
  | true =>
    obtain ⟨v, σ2, τ2, r1, r2, r3, r4, r5, r6, r7, r8, r9⟩ := num_y (i := i) e3 hi2 hh hlo ok
    refine Or.inl ⟨v, σ2, τ2, r1, r2, r3, ht _ _ r4 (Or.inr rfl), r5, ag_tr e4 r6, ag_tr (pL_pN e5) r7, r8, fun j hj => ?_⟩
    rw [r9 j hj, (e5 13 j (by unfold pL; omega)).1]
  | false =>
    obtain ⟨r1, r2⟩ := num_n (i := i) e3 hh hlo ok
    refine Or.inr ⟨τ1, _, r1, ht _ _ r2 (Or.inl rfl), e3, ?_, I_at⟩
    exact ag_tr (pN_fr (pL_pN e5)) (ag_I (by unfold frM; omega))
theorem tl_n {σ τ : q_M} {by' : Nat → Nat} {t e n p o w : Nat} {x y z : Int32} (h : ST σ τ by' t e n p o) (hw : w < 9) (q : wdB by' t e w = false) : fX9_tells 0 w x y z τ = some (0, q_I τ 0 24 (nI (tS by' t e))) := by
  unfold fX9_tells fX9_isWrong
  rw [M_word h hw, bs, q, b1_f, if_pos rfl, ql, bs, if_pos (Or.inl rfl), h.2.2.1.2.2.2.2.1]
/-- what becomes of a box -/
def bxC (p2 : Int32) (x : Int64) (σ : q_M) : Option (Int32 × q_M) := if p2 = 0 then some (1, q_L σ 15 1 (σ.2 15 1 ||| x)) else if p2 = 1 then some (1, q_L σ 15 1 (σ.2 15 1 &&& (x ^^^ (-1)))) else (fX2_fillLast 15 x σ).bind fun o => some (1, o)
theorem ST_MN {σ τ : q_M} {by' : Nat → Nat} {t e n p o : Nat} (h : ST σ τ by' t e n p o) : MN τ n := ⟨h.2.2.2.1.1, h.2.2.2.2.1⟩
theorem box_ls {σ τ : q_M} {by' : Nat → Nat} {t e n p o w : Nat} (h : ST σ τ by' t e n p o) (hw : w < 9) (q : wdB by' t e w = true) :
    (∃ σ' τ1 τ' e', (∀ p2, fX4_readBox 15 p2 σ = some (0, σ')) ∧ fX9_span 0 w τ = some (0, τ') ∧ ST σ' τ1 by' t e' n p o ∧ ag aT σ σ' ∧ ag frM τ τ' ∧ τ'.1 0 24 = nI (tS by' t e')) ∨
    (∃ x σ' τ' e', (∀ p2, fX4_readBox 15 p2 σ = bxC p2 x σ') ∧ fX9_span 0 w τ = some (1, τ') ∧ fX9_between 0 τ' = some (x, τ') ∧ inB n x ∧ ST σ' τ' by' t e' n p o ∧ ag aT σ σ' ∧ ag pN τ τ' ∧ tS by' t e + 1 ≤ e') := by
  have hN := ST_MN h
  have hn := hN.1
  have c8 := cub8 hn
  have h64 := hn.cube
  have B : Blk σ 16 n := h.2.2.2.1
  have hB : σ.1 (15 + 1) 1 = nI (n * n * n) := B.2.2.1
  have hs : nI (n * n * n) - 1 = nI (n * n * n - 1) := pk_sub (b := 1) (by omega)
  have k1 := h.2.2.1.1
  have L1 := wd_L k1 q
  obtain ⟨σ1, e1, e4, hh⟩ := tlw (i := 0) (lo := 0) (hi := n * n * n - 1) h hw (by decide) (by omega) (by decide) q
  rcases hh with ⟨v, σ2, τ2, r1, r2, r3, r4, r5, r6, r7, r8, r9⟩ | ⟨τ1, τ2, r3, r4, r5, r6, r7⟩
  · have r3' : fX4_numberWithin 0 (nI (n * n * n - 1)) σ1 = some (nI v, σ2) := r3
    have r4' : fX9_tells 0 w 0 0 (nI (n * n * n - 1)) τ = some (1, τ2) := r4
    have v1 : ¬ nI v = -1 := nf1 v (by omega)
    have hN2 := ST_MN r5
    have k2 := r5.2.2.1.1
    cases q8 : wdB by' t (tE by' t (tE by' t e)) 8 with
    | false =>
      refine Or.inl ⟨σ2, τ2, q_I τ2 0 24 (nI (tS by' t (tE by' t (tE by' t e)))), _, fun p2 => ?_, ?_, r5, r6, ag_tr (pN_fr r7) (ag_I (by unfold frM; omega)), I_at⟩
      · unfold fX4_readBox
        rw [ql, hB, hs, e1, bs, r3', bs, if_neg (show ¬ nI v = -1 from v1), X7_word r5 (w := 8) (by decide), bs, q8, b1_f, if_pos rfl]
      · unfold fX9_span
        rw [M_many hN, bs, hs, r4', bs, if_neg b1_ne, M_many hN2, bs, hs, tl_n r5 (by decide) q8, bs, if_pos rfl]
    | true =>
      obtain ⟨σ3, f1, f4, hh⟩ := tlw (i := 1) (lo := 0) (hi := n * n * n - 1) r5 (by decide) (by decide) (by omega) (by decide) q8
      have L2 := tE_le (by' := by') (tE_le (by' := by') k1).2
      have L3 := tE_le (by' := by') k2
      have L4 := tE_le (by' := by') L3.2
      rcases hh with ⟨u, σ4, τ4, s1, s2, s3, s4, s5, s6, s7, s8, s9⟩ | ⟨τ3, τ4, s3, s4, s5, s6, s7⟩
      · have s3' : fX4_numberWithin 0 (nI (n * n * n - 1)) σ3 = some (nI u, σ4) := s3
        have s4' : fX9_tells 0 8 1 0 (nI (n * n * n - 1)) τ2 = some (1, τ4) := s4
        have u1 : ¬ nI u = -1 := nf1 u (by omega)
        have B4 : Blk σ4 (15 + 1) n := s5.2.2.2.1
        refine Or.inr ⟨bxn n v u 3, σ4, τ4, _, fun p2 => ?_, ?_, ?_, inB_bxn hn, s5, ag_tr r6 s6, ag_tr r7 s7, by omega⟩
        · unfold fX4_readBox bxC
          rw [ql, hB, hs, e1, bs, r3', bs, if_neg (show ¬ nI v = -1 from v1), X7_word r5 (w := 8) (by decide), bs, q8, b1_t, if_neg b1_ne, f1, bs, s3', bs, if_neg (show ¬ nI u = -1 from u1), X0_boxOf B4 (by omega) (by omega), bs]
          rfl
        · unfold fX9_span
          rw [M_many hN, bs, hs, r4', bs, if_neg b1_ne, M_many hN2, bs, hs, s4', bs, if_neg b1_ne]
        · exact M_between (ST_MN s5) (by omega) (by omega) (by rw [s9 0 (by decide)]; exact r8) s8
      · have s3' : fX4_numberWithin 0 (nI (n * n * n - 1)) σ3 = some (-1, σ3) := s3
        have s4' : fX9_tells 0 8 1 0 (nI (n * n * n - 1)) τ2 = some (0, τ4) := s4
        refine Or.inl ⟨σ3, τ3, τ4, _, fun p2 => ?_, ?_, s5, ag_tr r6 f4, ag_tr (pN_fr r7) s6, s7⟩
        · unfold fX4_readBox
          rw [ql, hB, hs, e1, bs, r3', bs, if_neg (show ¬ nI v = -1 from v1), X7_word r5 (w := 8) (by decide), bs, q8, b1_t, if_neg b1_ne, f1, bs, s3', bs, if_pos rfl]
        · unfold fX9_span
          rw [M_many hN, bs, hs, r4', bs, if_neg b1_ne, M_many hN2, bs, hs, s4', bs, if_pos rfl]
  · have r3' : fX4_numberWithin 0 (nI (n * n * n - 1)) σ1 = some (-1, σ1) := r3
    have r4' : fX9_tells 0 w 0 0 (nI (n * n * n - 1)) τ = some (0, τ2) := r4
    refine Or.inl ⟨σ1, τ1, τ2, _, fun p2 => ?_, ?_, r5, e4, r6, r7⟩
    · unfold fX4_readBox
      rw [ql, hB, hs, e1, bs, r3', bs, if_pos rfl]
    · unfold fX9_span
      rw [M_many hN, bs, hs, r4', bs, if_pos rfl]
theorem RM_figk {σ τ : q_M} {n p o : Nat} {x : Int64} (h : RM σ 15 τ 0 n p o) (hx : inB n x) : RM (q_L σ 15 1 x) 15 (q_L τ 0 12 x) 0 n p o := by
  obtain ⟨h1, h2, h3, h4, h5, h6, h7, h8, h9, h10, h11, h12, h13, h14, h15⟩ := h
  refine ⟨Blk_fr h1 (ag_L (fun z => ?_)), h2, ?_, ?_, h5, h6, h7, h8, h9, h10, ?_, h12, h13, ?_, ?_⟩
  · have z' : 15 + 1 ≤ 15 ∧ 15 ≤ 15 + 1 + 3 := z
    omega
  · rw [L_at, L_at]
  · rw [L_at]; exact hx
  · intro i hi
    rw [L_of (by omega), L_of (by omega)]
    exact h11 i hi
  · intro i hi
    rw [L_of (by omega)]
    exact h14 i hi
  · intro c hc
    obtain ⟨u, u1, u2, u3⟩ := h15 c hc
    refine ⟨u, u1, u2, fun i hi => ?_⟩
    rw [L_of (by omega)]
    exact u3 i hi
theorem RM_pck {σ τ : q_M} {n p o i : Nat} {x : Int64} (h : RM σ 15 τ 0 n p o) (hx : inB n x) : RM (q_L σ 20 i x) 15 (q_L τ 11 i x) 0 n p o := by
  obtain ⟨h1, h2, h3, h4, h5, h6, h7, h8, h9, h10, h11, h12, h13, h14, h15⟩ := h
  refine ⟨Blk_fr h1 (ag_L (fun z => ?_)), h2, ?_, ?_, h5, h6, h7, h8, h9, h10, ?_, h12, h13, ?_, ?_⟩
  · have z' : 15 + 1 ≤ 20 ∧ 20 ≤ 15 + 1 + 3 := z
    omega
  · rw [L_of (by omega), L_of (by omega)]; exact h3
  · rw [L_of (by omega)]; exact h4
  · intro e he
    show (q_L σ 20 i x).2 20 e = (q_L τ 11 i x).2 11 e ∧ inB n ((q_L τ 11 i x).2 11 e)
    by_cases q : e = i
    · subst q
      rw [L_at, L_at]
      exact ⟨rfl, hx⟩
    · rw [L_of (fun z => q z.2), L_of (fun z => q z.2)]
      exact h11 e he
  · intro i hi
    rw [L_of (by omega)]
    exact h14 i hi
  · intro c hc
    obtain ⟨u, u1, u2, u3⟩ := h15 c hc
    refine ⟨u, u1, u2, fun i hi => ?_⟩
    rw [L_of (by omega)]
    exact u3 i hi
/-- no word of the reader -/
theorem c220_n {σ τ : q_M} {by' : Nat → Nat} {t e n p o : Nat} (h : ST σ τ by' t e n p o) (q5 : wdB by' t e 5 = false) (q6 : wdB by' t e 6 = false) (q7 : wdB by' t e 7 = false) : ∃ τ', fX9_statement_c220 0 τ = some (0, τ') ∧ ag frM τ τ' ∧ τ'.1 0 24 = nI (tS by' t e) := by
  refine ⟨_, ?_, ag_tr (ag_I (a := 0) (b := 24) (v := nI (tS by' t e)) (by unfold frM; omega)) (ag_I (a := 0) (b := 18) (v := (q_I τ 0 24 (nI (tS by' t e))).1 0 18) (by unfold frM; omega)), by rw [I_of (by omega), I_at]⟩
  unfold fX9_statement_c220
  rw [M_word h (by decide), bs, q5, b1_f, if_pos rfl, M_word h (by decide), bs, q6, b1_f, if_pos rfl, tl_n h (by decide) q7, bs, if_pos rfl, ql, if_pos (Or.inl rfl)]
theorem st_size {σ τ : q_M} {by' : Nat → Nat} {t e n p o : Nat} (h : ST σ τ by' t e n p o) (q : wdB by' t e 0 = true) : ∃ r, (r = 0 ∨ r = 1) ∧ ∃ σ' τ', fX4_readSize 15 σ = some (r, σ') ∧ ((r = 0 ∧ fX9_tells 0 0 0 2 4 τ = some (0, τ')) ∨ (r = 1 ∧ ∃ τ2, fX9_tells 0 0 0 2 4 τ = some (1, τ2) ∧ fX9_newSize 0 (τ2.1 (0 + 13) (Int32.toNatClampNeg 0)) τ2 = some τ')) ∧ Sfi by' t (tS by' t e + 1) σ τ (some (r, σ')) (some (r, τ')) := by
  have k1 := h.2.2.1.1
  have L1 := wd_L k1 q
  have L2 := tE_le (by' := by') (tE_le (by' := by') k1).2
  obtain ⟨σ1, e1, e4, hh⟩ := tlw (i := 0) (lo := 2) (hi := 4) h (by decide) (by decide) (by decide) (by decide) q
  rcases hh with ⟨v, σ2, τ2, r1, r2, r3, r4, r5, r6, r7, r8, r9⟩ | ⟨τ1, τ2, r3, r4, r5, r6, r7⟩
  · have r3' : fX4_numberWithin 2 4 σ1 = some (nI v, σ2) := r3
    have v1 : ¬ nI v = -1 := nf1 v (by omega)
    obtain ⟨σ3, a1, a2, a3, a4, a5, a6, a7⟩ := X2_clear (σ := σ2) (k := 15) (m := v) (by unfold Sz; omega)
    obtain ⟨τ3, d1, d2, d3, d4, d5, d6, d7⟩ := M_new (τ := τ2) (m := v)
    refine ⟨1, Or.inr rfl, σ3, τ3, ?_, Or.inr ⟨rfl, τ2, r4, ?_⟩, ?_⟩
    · unfold fX4_readSize
      rw [e1, bs, r3', bs, if_neg (show ¬ nI v = -1 from v1), a7, bs, if_neg (show ¬ nI v = -1 from v1)]
    · rw [show τ2.1 (0 + 13) (Int32.toNatClampNeg 0) = nI v from r8]; exact d7
    · refine sf_ok r5 (aT_fr r6) (pN_fr r7) (ag_sub a1 (fun c j hc => ?_)) (ag_sub d1 (fun c j hc => ?_)) (RM_new r5.2.2.2 (by unfold Sz; omega) a1 a2 a3 a4 a5 a6 d1 d2 d3 d4 d5 d6) (by omega)
      · unfold mdX at hc
        show c < 15 ∨ 15 + 6 < c ∨ (c = 15 ∧ (j = 4 ∨ j = 5))
        omega
      · unfold mdM at hc
        show ¬ (c = 12 ∨ (c = 0 ∧ (j = 11 ∨ j = 12 ∨ j = 13 ∨ j = 15)))
        omega
  · have r3' : fX4_numberWithin 2 4 σ1 = some (-1, σ1) := r3
    refine ⟨0, Or.inl rfl, σ1, τ2, ?_, Or.inl ⟨rfl, r4⟩, sf_bad r5 (aT_fr e4) r6 r7⟩
    unfold fX4_readSize
    rw [e1, bs, r3', bs, if_pos rfl, if_pos rfl]
theorem st_shows {σ τ : q_M} {by' : Nat → Nat} {t e n p o : Nat} (h : ST σ τ by' t e n p o) (q : wdB by' t e 5 = true) : ∃ r, (r = 0 ∨ r = 1) ∧ ∃ σ' τ', fX4_readShows 15 σ = some (r, σ') ∧ fX9_statement_c220 0 τ = some (r, τ') ∧ Sfi by' t (tS by' t e + 1) σ τ (some (r, σ')) (some (r, τ')) := by
  have k1 := h.2.2.1.1
  have L1 := wd_L k1 q
  have L2 := tE_le (by' := by') (tE_le (by' := by') k1).2
  have L3 := tE_le (by' := by') L2.2
  have hN := ST_MN h
  have hn := hN.1
  have c8 := cub8 hn
  have h64 := hn.cube
  have B : Blk σ 16 n := h.2.2.2.1
  have hs : nI (n * n * n) - 1 = nI (n * n * n - 1) := pk_sub (b := 1) (by omega)
  obtain ⟨σ1, e1, e4, hh⟩ := tlw (i := 0) (lo := 0) (hi := n * n * n - 1) h (by decide) (by decide) (by omega) (by decide) q
  have hB : σ1.1 (15 + 1) 1 = nI (n * n * n) := by
    rw [(e4 (15 + 1) 1 (by unfold aT; omega)).1]; exact B.2.2.1
  rcases hh with ⟨v, σ2, τ2, r1, r2, r3, r4, r5, r6, r7, r8, r9⟩ | ⟨τ1, τ2, r3, r4, r5, r6, r7⟩
  · have r3' : fX4_numberWithin 0 (nI (n * n * n - 1)) σ1 = some (nI v, σ2) := r3
    have r4' : fX9_tells 0 5 0 0 (nI (n * n * n - 1)) τ = some (1, τ2) := r4
    have v1 : ¬ nI v = -1 := nf1 v (by omega)
    cases ok : okN by' t (tE by' t (tE by' t e)) 0 9 with
    | true =>
      obtain ⟨u, σ3, τ3, s1, s2, s3, s4, s5, s6, s7, s8, s9⟩ := num_y (i := 1) (lo := 0) (hi := 9) r5 (by decide) (by decide) (by decide) ok
      have s3' : fX4_numberWithin 0 9 σ2 = some (nI u, σ3) := s3
      have s4' : fX9_number 0 1 0 9 τ2 = some (1, τ3) := s4
      have u1 : ¬ nI u = -1 := nf1 u (by omega)
      obtain ⟨σ4, a1, a2, a3, a4⟩ := X2_put (σ := σ3) (k := 15) (c := v) (v := u) (by omega) s2
      refine ⟨1, Or.inr rfl, σ4, q_I τ3 12 v (nI u), ?_, ?_, ?_⟩
      · unfold fX4_readShows
        rw [e1, bs, hB, hs, r3', bs, if_neg (show ¬ nI v = -1 from v1), s3', bs, if_neg (show ¬ nI u = -1 from u1), a4, bs, if_neg (show ¬ nI u = -1 from u1)]
      · unfold fX9_statement_c220
        rw [M_word h (by decide), bs, q, b1_t, if_neg b1_ne, M_many hN, bs, hs, r4', bs, if_neg b1_ne, s4', bs, if_neg b1_ne, if_pos (by decide), if_pos (by decide), show τ3.1 (0 + 13) (Int32.toNatClampNeg 0) = nI v from (s9 0 (by decide)).trans r8, show τ3.1 (0 + 13) (Int32.toNatClampNeg 1) = nI u from s8, gd (show v < 64 by omega) (by decide), ql, nI_clamp (by omega)]
      · refine sf_ok s5 (aT_fr (ag_tr r6 s6)) (pN_fr (ag_tr r7 s7)) (ag_sub a1 (fun c j hc => ?_)) (ag_I (by unfold mdM; omega)) (RM_shw s5.2.2.2 (by omega) s2 a1 a3) (by omega)
        unfold mdX at hc
        show c ≠ 15 + 6
        omega
    | false =>
      obtain ⟨s3, s4⟩ := num_n (i := 1) (lo := 0) (hi := 9) r5 (by decide) (by decide) ok
      have s3' : fX4_numberWithin 0 9 σ2 = some (-1, σ2) := s3
      have s4' : fX9_number 0 1 0 9 τ2 = some (0, q_I τ2 0 24 (nI (tS by' t (tE by' t (tE by' t e))))) := s4
      refine ⟨0, Or.inl rfl, σ2, _, ?_, ?_, sf_bad r5 (aT_fr r6) (ag_tr (pN_fr r7) (ag_I (a := 0) (b := 24) (by unfold frM; omega))) I_at⟩
      · unfold fX4_readShows
        rw [e1, bs, hB, hs, r3', bs, if_neg (show ¬ nI v = -1 from v1), s3', bs, if_pos rfl, if_pos rfl]
      · unfold fX9_statement_c220
        rw [M_word h (by decide), bs, q, b1_t, if_neg b1_ne, M_many hN, bs, hs, r4', bs, if_neg b1_ne, s4', bs, if_pos rfl]
  · have r3' : fX4_numberWithin 0 (nI (n * n * n - 1)) σ1 = some (-1, σ1) := r3
    have r4' : fX9_tells 0 5 0 0 (nI (n * n * n - 1)) τ = some (0, τ2) := r4
    refine ⟨0, Or.inl rfl, σ1, τ2, ?_, ?_, sf_bad r5 (aT_fr e4) r6 r7⟩
    · unfold fX4_readShows
      rw [e1, bs, hB, hs, r3', bs, if_pos rfl]
    · unfold fX9_statement_c220
      rw [M_word h (by decide), bs, q, b1_t, if_neg b1_ne, M_many hN, bs, hs, r4', bs, if_pos rfl]
theorem st_heavy {σ τ : q_M} {by' : Nat → Nat} {t e n p o : Nat} (h : ST σ τ by' t e n p o) (q5 : wdB by' t e 5 = false) (q : wdB by' t e 6 = true) : ∃ r, (r = 0 ∨ r = 1) ∧ ∃ σ' τ', fX4_readHeavy 15 σ = some (r, σ') ∧ fX9_statement_c220 0 τ = some (r, τ') ∧ Sfi by' t (tS by' t e + 1) σ τ (some (r, σ')) (some (r, τ')) := by
  have k1 := h.2.2.1.1
  have L1 := wd_L k1 q
  have L2 := tE_le (by' := by') (tE_le (by' := by') k1).2
  obtain ⟨σ1, e1, e4, hh⟩ := tlw (i := 0) (lo := 1) (hi := 64) h (by decide) (by decide) (by decide) (by decide) q
  rcases hh with ⟨v, σ2, τ2, r1, r2, r3, r4, r5, r6, r7, r8, r9⟩ | ⟨τ1, τ2, r3, r4, r5, r6, r7⟩
  · have r3' : fX4_numberWithin 1 64 σ1 = some (nI v, σ2) := r3
    have r4' : fX9_tells 0 6 0 1 64 τ = some (1, τ2) := r4
    have v1 : ¬ nI v = -1 := nf1 v (by omega)
    refine ⟨1, Or.inr rfl, q_I σ2 15 4 (nI v), q_I τ2 0 17 (nI v), ?_, ?_, sf_ok r5 (aT_fr r6) (pN_fr r7) (ag_I (by unfold mdX; omega)) (ag_I (by unfold mdM; omega)) (RM_hvy r5.2.2.2 r1 r2) (by omega)⟩
    · unfold fX4_readHeavy
      rw [e1, bs, r3', bs, if_neg (show ¬ nI v = -1 from v1), ql, if_neg (show ¬ nI v = -1 from v1)]
    · unfold fX9_statement_c220
      rw [M_word h (by decide), bs, q5, b1_f, if_pos rfl, M_word h (by decide), bs, q, b1_t, if_neg b1_ne, r4', bs, if_neg b1_ne, if_pos (by decide), show τ2.1 (0 + 13) (Int32.toNatClampNeg 0) = nI v from r8, ql, if_pos (Or.inr rfl)]
  · have r3' : fX4_numberWithin 1 64 σ1 = some (-1, σ1) := r3
    have r4' : fX9_tells 0 6 0 1 64 τ = some (0, τ2) := r4
    refine ⟨0, Or.inl rfl, σ1, q_I τ2 0 17 (τ2.1 0 17), ?_, ?_, sf_bad r5 (aT_fr e4) (ag_tr r6 (ag_I (by unfold frM; omega))) (by rw [I_of (by omega)]; exact r7)⟩
    · unfold fX4_readHeavy
      rw [e1, bs, r3', bs, if_pos rfl, if_pos rfl]
    · unfold fX9_statement_c220
      rw [M_word h (by decide), bs, q5, b1_f, if_pos rfl, M_word h (by decide), bs, q, b1_t, if_neg b1_ne, r4', bs, if_pos rfl, ql, if_pos (Or.inl rfl)]
theorem st_wear {σ τ : q_M} {by' : Nat → Nat} {t e n p o : Nat} (h : ST σ τ by' t e n p o) (q5 : wdB by' t e 5 = false) (q6 : wdB by' t e 6 = false) (q : wdB by' t e 7 = true) : ∃ r, (r = 0 ∨ r = 1) ∧ ∃ σ' τ', fX4_readWear 15 σ = some (r, σ') ∧ fX9_statement_c220 0 τ = some (r, τ') ∧ Sfi by' t (tS by' t e + 1) σ τ (some (r, σ')) (some (r, τ')) := by
  have k1 := h.2.2.1.1
  have L1 := wd_L k1 q
  have L2 := tE_le (by' := by') (tE_le (by' := by') k1).2
  obtain ⟨σ1, e1, e4, hh⟩ := tlw (i := 0) (lo := 1) (hi := 999) h (by decide) (by decide) (by decide) (by decide) q
  rcases hh with ⟨v, σ2, τ2, r1, r2, r3, r4, r5, r6, r7, r8, r9⟩ | ⟨τ1, τ2, r3, r4, r5, r6, r7⟩
  · have r3' : fX4_numberWithin 1 999 σ1 = some (nI v, σ2) := r3
    have r4' : fX9_tells 0 7 0 1 999 τ = some (1, τ2) := r4
    have v1 : ¬ nI v = -1 := nf1 v (by omega)
    refine ⟨1, Or.inr rfl, q_I σ2 15 5 (nI v), q_I τ2 0 18 (nI v), ?_, ?_, sf_ok r5 (aT_fr r6) (pN_fr r7) (ag_I (by unfold mdX; omega)) (ag_I (by unfold mdM; omega)) (RM_wer r5.2.2.2 r1 r2) (by omega)⟩
    · unfold fX4_readWear
      rw [e1, bs, r3', bs, if_neg (show ¬ nI v = -1 from v1), ql, if_neg (show ¬ nI v = -1 from v1)]
    · unfold fX9_statement_c220
      rw [M_word h (by decide), bs, q5, b1_f, if_pos rfl, M_word h (by decide), bs, q6, b1_f, if_pos rfl, r4', bs, if_neg b1_ne, if_pos (by decide), show τ2.1 (0 + 13) (Int32.toNatClampNeg 0) = nI v from r8, ql, if_pos (Or.inr rfl)]
  · have r3' : fX4_numberWithin 1 999 σ1 = some (-1, σ1) := r3
    have r4' : fX9_tells 0 7 0 1 999 τ = some (0, τ2) := r4
    refine ⟨0, Or.inl rfl, σ1, q_I τ2 0 18 (τ2.1 0 18), ?_, ?_, sf_bad r5 (aT_fr e4) (ag_tr r6 (ag_I (by unfold frM; omega))) (by rw [I_of (by omega)]; exact r7)⟩
    · unfold fX4_readWear
      rw [e1, bs, r3', bs, if_pos rfl, if_pos rfl]
    · unfold fX9_statement_c220
      rw [M_word h (by decide), bs, q5, b1_f, if_pos rfl, M_word h (by decide), bs, q6, b1_f, if_pos rfl, r4', bs, if_pos rfl, ql, if_pos (Or.inl rfl)]
theorem st_piece {σ τ : q_M} {by' : Nat → Nat} {t e n p o : Nat} (h : ST σ τ by' t e n p o) (q : wdB by' t e 3 = true) (p8 : p < 8) : ∃ σ' τ1, fX4_readPiece 15 σ = some (1, σ') ∧ fX9_look 0 τ = some τ1 ∧ τ1.1 0 15 = nI o ∧ τ1.1 0 13 = nI p ∧ Sfi by' t (tS by' t e + 1) σ τ (some (1, σ')) (some (1, q_L (q_I (q_I τ1 0 15 (nI o)) 0 13 (nI (p + 1))) 11 p 0)) := by
  have L1 := wd_L h.2.2.1.1 q
  obtain ⟨TX, TM, ⟨k1, k2, k3, k4, k5, k6, k7, k8⟩, hR⟩ := h
  have hb := tok_b (by' := by') k1
  let σa : q_M := q_I (q_L σ 20 p 0) 15 2 (nI (p + 1))
  have aa : ag mdX σ σa := ag_tr (ag_L (by unfold mdX; omega)) (ag_I (by unfold mdX; omega))
  have TXa : TpX σa by' t := ⟨TX.1, by rw [(aa 23 0 (by unfold mdX; omega)).1]; exact TX.2.1, fun i hi => ⟨(TX.2.2 i hi).1, by rw [(aa 24 i (by unfold mdX; omega)).1]; exact (TX.2.2 i hi).2⟩⟩
  obtain ⟨σ1, a1, a2, a3, a4, a5, a6⟩ := X7_advance TXa hb.2.2.1 (by rw [(aa 23 3 (by unfold mdX; omega)).1]; exact k4)
  obtain ⟨τ1, c1, c2, c3, c4, c5, c6⟩ := M_look TM hb.2.2.1 k7
  have hR1 : RM σ 15 τ1 0 n p o := RM_aT hR (ag_rf _ _) (pL_pN c1)
  have hRa := RM_add (k := 15) hR1 p8 (inB_0 n)
  have hRb := RM_aT hRa a1 (ag_rf _ _)
  have hX : fX4_readPiece 15 σ = some (1, σ1) := by
    unfold fX4_readPiece fX2_addPiece
    rw [hR.2.2.2.2.2.1, if_pos (show nI p < 8 from nI_lt (b := 8) p8 (by decide)), if_neg (show ¬ (8 : Int32) ≤ nI p from nI_ge (a := p) (b := 8) p8 (by decide)), gd p8 (by decide), ql, ql, bs, nI_clamp (by omega), show (q_L σ (15 + 5) p 0).1 15 2 = nI p from hR.2.2.2.2.2.1, nI_1]
    show (fX7_advance σa).bind _ = _
    rw [a6, bs]
  refine ⟨σ1, τ1, hX, c6, hR1.2.2.2.2.2.2.2.2.2.1, hR1.2.2.2.2.2.2.1, ?_⟩
  exact sf_ok0 (TpX_fr TXa a1) (TpM_fr TM c1) ⟨hb.2.2.1, a3, a4, a5, c2, c3, c4, c5⟩ (ag_tr (mX_fr aa) (aT_fr a1)) (pN_fr (pL_pN c1)) (ag_rf _ _) (ag_tr (ag_I (a := 0) (b := 15) (by unfold mdM; omega)) (ag_tr (ag_I (a := 0) (b := 13) (by unfold mdM; omega)) (ag_L (a := 11) (b := p) (by unfold mdM; omega)))) hRb L1
theorem stm_ls {σ τ : q_M} {by' : Nat → Nat} {t e n p o : Nat} (h : ST σ τ by' t e n p o) : Sfi by' t (tS by' t e + 1) σ τ (fX4_statement 15 σ) (fX9_statement 0 τ) := by
  have hX := fun w (hw : w < 9) => X7_word h hw
  have hM := fun w (hw : w < 9) => M_word h hw
  obtain ⟨h1, h2, h3, h4, h5, h6, h7, h8, h9, h10, h11, _⟩ := h.2.2.2
  unfold fX4_statement fX9_statement
  rw [hX 0 (by decide), bs, hM 0 (by decide), bs]
  cases q0 : wdB by' t e 0 with
  | true =>
    obtain ⟨r, hr, σ', τ', s1, s2, s3⟩ := st_size h q0
    rw [b1_t, if_neg b1_ne, if_neg b1_ne, s1, bs, if_pos hr]
    rcases s2 with ⟨rfl, s2⟩ | ⟨rfl, τ2, s2, s4⟩
    · rw [s2, bs, if_pos rfl, if_pos (Or.inl rfl)]; exact s3
    · rw [s2, bs, if_neg b1_ne, if_pos (by decide), s4, bs, if_pos (Or.inr rfl)]; exact s3
  | false =>
    rw [b1_f, if_pos rfl, if_pos rfl, hX 1 (by decide), bs, hM 1 (by decide), bs]
    cases q1 : wdB by' t e 1 with
    | true =>
      rw [b1_t, if_neg b1_ne, if_neg b1_ne]
      unfold fX9_statement_c53
      rw [hM 1 (by decide), bs, q1, b1_t, if_neg b1_ne]
      unfold fX9_statement_c72
      rcases box_ls h (by decide) q1 with ⟨σ', τ1, τ', e', s1, s2, s3, s4, s5, s6⟩ | ⟨x, σ', τ', e', s1, s2, s3, s4, s5, s6, s7, s8⟩
      · rw [s1, bs, if_pos (Or.inl rfl), s2, bs, if_pos rfl]
        exact sf_bad s3 (aT_fr s4) s5 s6
      · rw [s1, show bxC 0 x σ' = some (1, q_L σ' 15 1 (σ'.2 15 1 ||| x)) from rfl, bs, if_pos (Or.inr rfl), s2, bs, if_neg b1_ne, if_neg b1_ne, s3, bs, ql, show σ'.2 15 1 = τ'.2 0 12 from s5.2.2.2.2.2.1]
        exact sf_ok s5 (aT_fr s6) (pN_fr s7) (ag_L (by unfold mdX; omega)) (ag_L (by unfold mdM; omega)) (RM_figk s5.2.2.2 (inB_or s5.2.2.2.2.2.2.1 s4)) s8
    | false =>
      rw [b1_f, if_pos rfl, if_pos rfl, hX 2 (by decide), bs, hM 2 (by decide), bs]
      cases q2 : wdB by' t e 2 with
      | true =>
        rw [b1_t, if_neg b1_ne, if_neg b1_ne]
        unfold fX9_statement_c53
        rw [hM 1 (by decide), bs, q1, b1_f, if_pos rfl]
        unfold fX9_statement_c72
        rcases box_ls h (by decide) q2 with ⟨σ', τ1, τ', e', s1, s2, s3, s4, s5, s6⟩ | ⟨x, σ', τ', e', s1, s2, s3, s4, s5, s6, s7, s8⟩
        · rw [s1, bs, if_pos (Or.inl rfl), s2, bs, if_pos rfl]
          exact sf_bad s3 (aT_fr s4) s5 s6
        · rw [s1, show bxC 1 x σ' = some (1, q_L σ' 15 1 (σ'.2 15 1 &&& (x ^^^ (-1)))) from rfl, bs, if_pos (Or.inr rfl), s2, bs, if_neg b1_ne, if_pos rfl, s3, bs, ql, show σ'.2 15 1 = τ'.2 0 12 from s5.2.2.2.2.2.1]
          exact sf_ok s5 (aT_fr s6) (pN_fr s7) (ag_L (by unfold mdX; omega)) (ag_L (by unfold mdM; omega)) (RM_figk s5.2.2.2 (inB_and_l s5.2.2.2.2.2.2.1)) s8
      | false =>
        rw [b1_f, if_pos rfl, if_pos rfl, hX 3 (by decide), bs, hM 3 (by decide), bs]
        cases q3 : wdB by' t e 3 with
        | true =>
          rw [b1_t, if_neg b1_ne, if_neg b1_ne, h7]
          by_cases z : p = 8
          · obtain ⟨τ', s1, s2, s3⟩ := c220_n h (wd_one (by decide) (by decide) (by decide) q3) (wd_one (by decide) (by decide) (by decide) q3) (wd_one (by decide) (by decide) (by decide) q3)
            unfold fX4_readPiece fX9_statement_c173
            rw [h6, if_neg (show ¬ nI p < 8 by rw [z]; decide), bs, if_pos (Or.inl rfl), if_pos (show (8 : Int32) ≤ nI p by rw [z]; decide), hM 4 (by decide), bs, wd_one (v := 3) (w := 4) (by decide) (by decide) (by decide) q3, b1_f, if_pos rfl, s1]
            exact sf_bad h (ag_rf _ _) s2 s3
          · have p8 : p < 8 := by omega
            obtain ⟨σ', τ1, s1, s2, s3, s4, s5⟩ := st_piece h q3 p8
            rw [if_neg (show ¬ (8 : Int32) ≤ nI p from nI_ge (a := p) (b := 8) p8 (by decide)), s1, bs, if_pos (Or.inr rfl), s2, bs, ql, ql, s3, s4, off_keep p p8 o h8, show (q_I τ1 0 15 (nI o)).1 0 13 = nI p from (I_of (by omega)).trans s4, gd p8 (by decide), ql, nI_clamp (by omega), nI_1]
            exact s5
        | false =>
          rw [b1_f, if_pos rfl, if_pos rfl, hX 4 (by decide), bs]
          unfold fX9_statement_c173
          rw [hM 4 (by decide), bs]
          cases q4 : wdB by' t e 4 with
          | true =>
            rw [b1_t, if_neg b1_ne, if_neg b1_ne, h7, h6]
            by_cases z : p = 0
            · obtain ⟨τ', s1, s2, s3⟩ := c220_n h (wd_one (by decide) (by decide) (by decide) q4) (wd_one (by decide) (by decide) (by decide) q4) (wd_one (by decide) (by decide) (by decide) q4)
              rw [if_pos (show nI p ≤ 0 by rw [z]; decide), if_pos (show nI p ≤ 0 by rw [z]; decide), s1]
              exact sf_bad h (ag_rf _ _) s2 s3
            · have pp : ¬ nI p ≤ 0 := nI_ge (a := 0) (by omega) (by omega)
              rw [if_neg pp, if_neg pp]
              rcases box_ls h (by decide) q4 with ⟨σ', τ1, τ', e', s1, s2, s3, s4, s5, s6⟩ | ⟨x, σ', τ', e', s1, s2, s3, s4, s5, s6, s7, s8⟩
              · rw [s1, bs, if_pos rfl, s2, bs, if_pos rfl]
                exact sf_bad s3 (aT_fr s4) s5 s6
              · have g6 : σ'.1 15 2 = nI p := s5.2.2.2.2.2.2.2.2.1
                have g7 : τ'.1 0 13 = nI p := s5.2.2.2.2.2.2.2.2.2.1
                have g11 := s5.2.2.2.2.2.2.2.2.2.2.2.2.2.1 (p - 1) (by omega)
                have ep : nI p - 1 = nI (p - 1) := pk_sub (b := 1) (by omega)
                have ef : fX2_fillLast 15 x σ' = some (q_L σ' 20 (p - 1) (τ'.2 11 (p - 1) ||| x)) := by
                  unfold fX2_fillLast
                  rw [g6, if_neg pp, ep, gd (show p - 1 < 8 by omega) (by decide), gd (show p - 1 < 8 by omega) (by decide), ql, nI_clamp (by omega), show σ'.2 (15 + 5) (p - 1) = τ'.2 11 (p - 1) from g11.1]
                rw [s1, show bxC 2 x σ' = (fX2_fillLast 15 x σ').bind fun o => some (1, o) from rfl, ef, bs, bs, if_neg b1_ne, s2, bs, if_neg b1_ne, g7, ep, gd (show p - 1 < 8 by omega) (by decide), s3, bs, gd (show p - 1 < 8 by omega) (by decide), ql, nI_clamp (by omega)]
                exact sf_ok s5 (aT_fr s6) (pN_fr s7) (ag_L (by unfold mdX; omega)) (ag_L (by unfold mdM; omega)) (RM_pck s5.2.2.2 (inB_or g11.2 s4)) s8
          | false =>
            rw [b1_f, if_pos rfl, if_pos rfl, hX 5 (by decide), bs]
            cases q5 : wdB by' t e 5 with
            | true =>
              obtain ⟨r, hr, σ', τ', s1, s2, s3⟩ := st_shows h q5
              rw [b1_t, if_neg b1_ne, s1, bs, if_pos hr, s2]
              exact s3
            | false =>
              rw [b1_f, if_pos rfl, hX 6 (by decide), bs]
              cases q6 : wdB by' t e 6 with
              | true =>
                obtain ⟨r, hr, σ', τ', s1, s2, s3⟩ := st_heavy h q5 q6
                rw [b1_t, if_neg b1_ne, s1, bs, if_pos hr, s2]
                exact s3
              | false =>
                rw [b1_f, if_pos rfl, hX 7 (by decide), bs]
                cases q7 : wdB by' t e 7 with
                | true =>
                  obtain ⟨r, hr, σ', τ', s1, s2, s3⟩ := st_wear h q5 q6 q7
                  rw [b1_t, if_neg b1_ne, s1, bs, s2]
                  rcases hr with rfl | rfl
                  · rw [if_pos rfl]; exact s3
                  · rw [if_neg b1_ne]; exact s3
                | false =>
                  obtain ⟨τ', s1, s2, s3⟩ := c220_n h q5 q6 q7
                  rw [b1_f, if_pos rfl, s1]
                  exact sf_bad h (ag_rf _ _) s2 s3
