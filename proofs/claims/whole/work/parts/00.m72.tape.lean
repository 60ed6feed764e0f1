/-! Reading: tokens. -/
/-- the sort of a byte -/
def so (b : Nat) : Nat := if 97 ≤ b ∧ b ≤ 122 then 1 else if 48 ≤ b ∧ b ≤ 57 then 2 else if b = 59 then 3 else 4
def sof (b : Nat) : Bool := decide (((fX7_sortOf (nI b) q_0).getD (0, q_0)).1 = nI (so b)) && decide (((fX9_isLetter (nI b) q_0).getD (0, q_0)).1 = b1 (decide (so b = 1))) && decide (((fX9_isDigit (nI b) q_0).getD (0, q_0)).1 = b1 (decide (so b = 2))) && decide ((nI b = 59) ↔ so b = 3) && decide ((nI b = 32) ↔ b = 32)
theorem sof_t : ∀ b, b < 256 → sof b = true := by decide +kernel
theorem sort_st (x : Int32) (σ : q_M) : fX7_sortOf x σ = some (((fX7_sortOf x q_0).getD (0, q_0)).1, σ) := by
  unfold fX7_sortOf fX7_sortOf_c14
  repeat' split
  all_goals rfl
theorem let_st (x : Int32) (σ : q_M) : fX9_isLetter x σ = some (((fX9_isLetter x q_0).getD (0, q_0)).1, σ) := by
  unfold fX9_isLetter
  repeat' split
  all_goals rfl
theorem dig_st (x : Int32) (σ : q_M) : fX9_isDigit x σ = some (((fX9_isDigit x q_0).getD (0, q_0)).1, σ) := by
  unfold fX9_isDigit
  repeat' split
  all_goals rfl
theorem X7_sort {b : Nat} (hb : b < 256) (σ : q_M) : fX7_sortOf (nI b) σ = some (nI (so b), σ) := by
  have h := sof_t b hb
  unfold sof at h
  simp only [Bool.and_eq_true, decide_eq_true_iff] at h
  rw [sort_st, h.1.1.1.1]
theorem M_let {b : Nat} (hb : b < 256) (τ : q_M) : fX9_isLetter (nI b) τ = some (b1 (decide (so b = 1)), τ) := by
  have h := sof_t b hb
  unfold sof at h
  simp only [Bool.and_eq_true, decide_eq_true_iff] at h
  rw [let_st, h.1.1.1.2]
theorem M_dig {b : Nat} (hb : b < 256) (τ : q_M) : fX9_isDigit (nI b) τ = some (b1 (decide (so b = 2)), τ) := by
  have h := sof_t b hb
  unfold sof at h
  simp only [Bool.and_eq_true, decide_eq_true_iff] at h
  rw [dig_st, h.1.1.2]
theorem b59 {b : Nat} (hb : b < 256) : (nI b = 59) ↔ so b = 3 := by
  have h := sof_t b hb
  unfold sof at h
  simp only [Bool.and_eq_true, decide_eq_true_iff] at h
  exact h.1.2
theorem b32 {b : Nat} (hb : b < 256) : (nI b = 32) ↔ b = 32 := by
  have h := sof_t b hb
  unfold sof at h
  simp only [Bool.and_eq_true, decide_eq_true_iff] at h
  exact h.2
theorem so_lt (b : Nat) : 1 ≤ so b ∧ so b ≤ 4 := by
  unfold so
  repeat' split
  all_goals omega
/-- the next place that is no space -/
def skp (by' : Nat → Nat) : Nat → Nat → Nat
  | 0, i => i
  | d + 1, i => if by' i = 32 then skp by' d (i + 1) else i
def rnn (by' : Nat → Nat) (k : Nat) : Nat → Nat → Nat
  | 0, i => i
  | d + 1, i => if so (by' i) = k then rnn by' k d (i + 1) else i
theorem skp_b (by' : Nat → Nat) : ∀ d i, i ≤ skp by' d i ∧ skp by' d i ≤ i + d
  | 0, i => ⟨Nat.le_refl _, Nat.le_refl _⟩
  | d + 1, i => by
    have := skp_b by' d (i + 1)
    unfold skp
    split <;> omega
theorem rnn_b (by' : Nat → Nat) (k : Nat) : ∀ d i, i ≤ rnn by' k d i ∧ rnn by' k d i ≤ i + d
  | 0, i => ⟨Nat.le_refl _, Nat.le_refl _⟩
  | d + 1, i => by
    have := rnn_b by' k d (i + 1)
    unfold rnn
    split <;> omega
theorem rnn_in (by' : Nat → Nat) (k : Nat) : ∀ d i j, i ≤ j → j < rnn by' k d i → so (by' j) = k
  | 0, i, j, h1, h2 => by
    have h2' : j < i := h2
    omega
  | d + 1, i, j, h1, h2 => by
    unfold rnn at h2
    by_cases q : so (by' i) = k
    · rw [if_pos q] at h2
      by_cases z : j = i
      · rw [z]; exact q
      · exact rnn_in by' k d (i + 1) j (by omega) h2
    · rw [if_neg q] at h2; omega
def tS (by' : Nat → Nat) (t e : Nat) : Nat := skp by' (t - e) e
def tK (by' : Nat → Nat) (t e : Nat) : Nat := if tS by' t e < t then so (by' (tS by' t e)) else 0
def tE (by' : Nat → Nat) (t e : Nat) : Nat := if tS by' t e < t then (if tK by' t e = 1 ∨ tK by' t e = 2 then rnn by' (tK by' t e) (t - (tS by' t e + 1)) (tS by' t e + 1) else tS by' t e + 1) else tS by' t e
theorem tok_b {by' : Nat → Nat} {t e : Nat} (h : e ≤ t) : e ≤ tS by' t e ∧ tS by' t e ≤ tE by' t e ∧ tE by' t e ≤ t ∧ (tK by' t e ≠ 0 → tS by' t e < tE by' t e) ∧ tK by' t e ≤ 4 := by
  have h1 := skp_b by' (t - e) e
  have h2 : tS by' t e = skp by' (t - e) e := rfl
  by_cases q : tS by' t e < t
  · have hk : tK by' t e = so (by' (tS by' t e)) := if_pos q
    have hk4 := so_lt (by' (tS by' t e))
    have h3 := rnn_b by' (tK by' t e) (t - (tS by' t e + 1)) (tS by' t e + 1)
    have he : tE by' t e = if tK by' t e = 1 ∨ tK by' t e = 2 then rnn by' (tK by' t e) (t - (tS by' t e + 1)) (tS by' t e + 1) else tS by' t e + 1 := if_pos q
    rw [he]
    split <;> refine ⟨?_, ?_, ?_, ?_, ?_⟩ <;> first | omega | (intro _; omega)
  · have hk : tK by' t e = 0 := if_neg q
    have he : tE by' t e = tS by' t e := if_neg q
    rw [he, hk]
    refine ⟨by omega, Nat.le_refl _, by omega, fun z => absurd rfl z, by decide⟩
/-- the tape as the program has it -/
def TpX (σ : q_M) (by' : Nat → Nat) (t : Nat) : Prop := t ≤ 250 ∧ σ.1 23 0 = nI t ∧ (∀ i, i < t → by' i < 256 ∧ σ.1 24 i = nI (by' i))
theorem TpX_fr {σ σ' : q_M} {by' : Nat → Nat} {t : Nat} (h : TpX σ by' t) (a : ag (fun c j => ¬ (c = 23 ∧ 1 ≤ j)) σ σ') : TpX σ' by' t := by
  obtain ⟨h1, h2, h3⟩ := h
  refine ⟨h1, ?_, fun i hi => ⟨(h3 i hi).1, ?_⟩⟩
  · rw [(a 23 0 (by show ¬ (23 = 23 ∧ 1 ≤ 0); omega)).1]; exact h2
  · rw [(a 24 i (by show ¬ (24 = 23 ∧ 1 ≤ i); omega)).1]; exact (h3 i hi).2
theorem X7_advance {σ : q_M} {by' : Nat → Nat} {t e : Nat} (T : TpX σ by' t) (he : e ≤ t) (h3 : σ.1 23 3 = nI e) : ∃ σ', ag (fun c j => ¬ (c = 23 ∧ 1 ≤ j)) σ σ' ∧ σ'.2 = σ.2 ∧ σ'.1 23 1 = nI (tS by' t e) ∧ σ'.1 23 2 = nI (tK by' t e) ∧ σ'.1 23 3 = nI (tE by' t e) ∧ fX7_advance σ = some σ' := by
  have t250 := T.1
  have nA : ∀ j, 1 ≤ j → ¬ (fun c j => ¬ (c = 23 ∧ 1 ≤ j)) 23 j := fun j hj z => z ⟨rfl, hj⟩
  -- past the spaces
  have c8 : ∀ d i (σ1 : q_M) f, i + d = t → d < f → ag (fun c j => ¬ (c = 23 ∧ 1 ≤ j)) σ σ1 → σ1.2 = σ.2 → σ1.1 23 1 = nI i → ∃ σ2, ag (fun c j => ¬ (c = 23 ∧ 1 ≤ j)) σ σ2 ∧ σ2.2 = σ.2 ∧ σ2.1 23 1 = nI (skp by' d i) ∧ fX7_advance_c8 f σ1 = fX7_advance_c46 σ2 := by
    intro d
    induction d with
    | zero =>
      intro i σ1 f e1 e2 a1 a2 e3
      obtain ⟨f, rfl⟩ : ∃ z, f = z + 1 := ⟨f - 1, by omega⟩
      have T1 := TpX_fr T a1
      refine ⟨σ1, a1, a2, e3, ?_⟩
      show fX7_advance_c8b (fX7_advance_c8 f) σ1 = _
      unfold fX7_advance_c8b
      rw [T1.2.1, e3, if_pos (nI_le (show t ≤ i by omega) (by omega))]
    | succ d ih =>
      intro i σ1 f e1 e2 a1 a2 e3
      obtain ⟨f, rfl⟩ : ∃ z, f = z + 1 := ⟨f - 1, by omega⟩
      have T1 := TpX_fr T a1
      obtain ⟨bb, be⟩ := T1.2.2 i (by omega)
      have un : fX7_advance_c8 (f + 1) σ1 = if nI t ≤ nI i then fX7_advance_c46 σ1 else if nI (by' i) = 32 then fX7_advance_c8 f (q_I σ1 23 1 (nI (i + 1))) else fX7_advance_c46 σ1 := by
        show fX7_advance_c8b (fX7_advance_c8 f) σ1 = _
        unfold fX7_advance_c8b
        rw [T1.2.1, e3, gd (show i < 250 by omega) (by decide), nI_clamp (by omega), be, ql, nI_1]
      rw [un, if_neg (nI_ge (show i < t by omega) (by omega))]
      by_cases q : by' i = 32
      · rw [if_pos ((b32 bb).mpr q)]
        obtain ⟨σ2, r1, r2, r3, r4⟩ := ih (i + 1) (q_I σ1 23 1 (nI (i + 1))) f (by omega) (by omega) (ag_tr a1 (ag_I (nA 1 (by decide)))) a2 I_at
        refine ⟨σ2, r1, r2, ?_, r4⟩
        rw [r3]
        show nI (skp by' d (i + 1)) = nI (if by' i = 32 then skp by' d (i + 1) else i)
        rw [if_pos q]
      · rw [if_neg (fun z => q ((b32 bb).mp z))]
        refine ⟨σ1, a1, a2, ?_, rfl⟩
        show σ1.1 23 1 = nI (if by' i = 32 then skp by' d (i + 1) else i)
        rw [if_neg q, e3]
  -- along the token
  have c105 : ∀ d i k (σ1 : q_M) f, (k = 1 ∨ k = 2) → i + d = t → d < f → ag (fun c j => ¬ (c = 23 ∧ 1 ≤ j)) σ σ1 → σ1.2 = σ.2 → σ1.1 23 2 = nI k → σ1.1 23 3 = nI i → ∃ σ2, ag (fun c j => ¬ (c = 23 ∧ 1 ≤ j)) σ σ2 ∧ σ2.2 = σ.2 ∧ σ2.1 23 1 = σ1.1 23 1 ∧ σ2.1 23 2 = nI k ∧ σ2.1 23 3 = nI (rnn by' k d i) ∧ fX7_advance_c105 f σ1 = some σ2 := by
    intro d
    induction d with
    | zero =>
      intro i k σ1 f hk e1 e2 a1 a2 e3 e4
      obtain ⟨f, rfl⟩ : ∃ z, f = z + 1 := ⟨f - 1, by omega⟩
      have T1 := TpX_fr T a1
      refine ⟨σ1, a1, a2, rfl, e3, e4, ?_⟩
      show fX7_advance_c105b (fX7_advance_c105 f) σ1 = _
      unfold fX7_advance_c105b
      rw [T1.2.1, e4, if_pos (nI_le (show t ≤ i by omega) (by omega))]
    | succ d ih =>
      intro i k σ1 f hk e1 e2 a1 a2 e3 e4
      obtain ⟨f, rfl⟩ : ∃ z, f = z + 1 := ⟨f - 1, by omega⟩
      have T1 := TpX_fr T a1
      obtain ⟨bb, be⟩ := T1.2.2 i (by omega)
      have hso := so_lt (by' i)
      have c132 : fX7_advance_c132 (fX7_advance_c105 f) σ1 = if nI (so (by' i)) = nI k then fX7_advance_c105 f (q_I σ1 23 3 (nI (i + 1))) else some σ1 := by
        unfold fX7_advance_c132
        rw [e4, gd (show i < 250 by omega) (by decide), nI_clamp (by omega), be, X7_sort bb, bs, e3, ql, e4, nI_1]
      have un : fX7_advance_c105 (f + 1) σ1 = if nI (so (by' i)) = nI k then fX7_advance_c105 f (q_I σ1 23 3 (nI (i + 1))) else some σ1 := by
        show fX7_advance_c105b (fX7_advance_c105 f) σ1 = _
        unfold fX7_advance_c105b
        rw [T1.2.1, e4, if_neg (nI_ge (show i < t by omega) (by omega)), e3, c132]
        rcases hk with rfl | rfl
        · rw [if_pos (show nI 1 = 1 from rfl)]
        · rw [if_neg (show ¬ nI 2 = 1 by decide), if_pos (show nI 2 = 2 from rfl)]
      rw [un]
      by_cases q : so (by' i) = k
      · rw [if_pos (by rw [q])]
        obtain ⟨σ2, r1, r2, r3, r4, r5, r6⟩ := ih (i + 1) k (q_I σ1 23 3 (nI (i + 1))) f hk (by omega) (by omega) (ag_tr a1 (ag_I (nA 3 (by decide)))) a2 (by rw [I_of (by omega)]; exact e3) I_at
        refine ⟨σ2, r1, r2, ?_, r4, ?_, r6⟩
        · rw [r3, I_of (by omega)]
        · rw [r5]
          show nI (rnn by' k d (i + 1)) = nI (if so (by' i) = k then rnn by' k d (i + 1) else i)
          rw [if_pos q]
      · rw [if_neg (fun z => q ((nI_eq (by omega) (by omega)).mp z))]
        refine ⟨σ1, a1, a2, rfl, e3, ?_, rfl⟩
        show σ1.1 23 3 = nI (if so (by' i) = k then rnn by' k d (i + 1) else i)
        rw [if_neg q, e4]
  let σ0 : q_M := q_I σ 23 1 (nI e)
  obtain ⟨σ2, r1, r2, r3, r4⟩ := c8 (t - e) e σ0 q_FU (by omega) (by show _ < 400; omega) (ag_I (nA 1 (by decide))) rfl I_at
  have hS : σ2.1 23 1 = nI (tS by' t e) := r3
  have T2 := TpX_fr T r1
  have tb := tok_b (by' := by') he
  have e0 : fX7_advance σ = fX7_advance_c46 σ2 := by
    unfold fX7_advance
    rw [ql, h3]
    exact r4
  rw [e0]
  unfold fX7_advance_c46
  rw [T2.2.1, hS]
  by_cases q : tS by' t e < t
  · obtain ⟨bb, be⟩ := T2.2.2 (tS by' t e) q
    have hk : tK by' t e = so (by' (tS by' t e)) := if_pos q
    have hso := so_lt (by' (tS by' t e))
    rw [if_neg (nI_ge q (by omega)), gd (show tS by' t e < 250 by omega) (by decide), nI_clamp (by omega), be, X7_sort bb, bs]
    unfold fX7_advance_c74
    rw [ql, show (q_I (nI (so (by' (tS by' t e))), σ2).2 23 2 (nI (so (by' (tS by' t e))), σ2).1).1 23 0 = nI t from by rw [I_of (by omega)]; exact T2.2.1, show (q_I (nI (so (by' (tS by' t e))), σ2).2 23 2 (nI (so (by' (tS by' t e))), σ2).1).1 23 1 = nI (tS by' t e) from by rw [I_of (by omega)]; exact hS, if_neg (nI_ge q (by omega)), ql, nI_1]
    let σ4 : q_M := q_I (q_I σ2 23 2 (nI (so (by' (tS by' t e))))) 23 3 (nI (tS by' t e + 1))
    have a4 : ag (fun c j => ¬ (c = 23 ∧ 1 ≤ j)) σ σ4 := ag_tr r1 (ag_tr (ag_I (nA 2 (by decide))) (ag_I (nA 3 (by decide))))
    have s1 : σ4.1 23 1 = nI (tS by' t e) := by
      show (q_I (q_I σ2 23 2 (nI (so (by' (tS by' t e))))) 23 3 (nI (tS by' t e + 1))).1 23 1 = _
      rw [I_of (by omega), I_of (by omega)]; exact hS
    have s2 : σ4.1 23 2 = nI (so (by' (tS by' t e))) := by
      show (q_I (q_I σ2 23 2 (nI (so (by' (tS by' t e))))) 23 3 (nI (tS by' t e + 1))).1 23 2 = _
      rw [I_of (by omega), I_at]
    have s3 : σ4.1 23 3 = nI (tS by' t e + 1) := I_at
    have he' : tE by' t e = if tK by' t e = 1 ∨ tK by' t e = 2 then rnn by' (tK by' t e) (t - (tS by' t e + 1)) (tS by' t e + 1) else tS by' t e + 1 := if_pos q
    show ∃ σ', _ ∧ _ ∧ _ ∧ _ ∧ _ ∧ fX7_advance_c105 q_FU σ4 = some σ'
    by_cases z : tK by' t e = 1 ∨ tK by' t e = 2
    · obtain ⟨σ5, g1, g2, g3, g4, g5, g6⟩ := c105 (t - (tS by' t e + 1)) (tS by' t e + 1) (tK by' t e) σ4 q_FU z (by omega) (by show _ < 400; omega) a4 r2 (by rw [hk]; exact s2) s3
      exact ⟨σ5, g1, g2, g3.trans s1, g4, by rw [g5, he', if_pos z], g6⟩
    · refine ⟨σ4, a4, r2, s1, by rw [hk]; exact s2, by rw [s3, he', if_neg z], ?_⟩
      show fX7_advance_c105b (fX7_advance_c105 399) σ4 = _
      have T4 := TpX_fr T a4
      unfold fX7_advance_c105b
      rw [T4.2.1, s3, s2]
      by_cases y : nI t ≤ nI (tS by' t e + 1)
      · rw [if_pos y]
      · rw [if_neg y, if_neg (show ¬ nI (so (by' (tS by' t e))) = 1 from fun w => z (Or.inl (by rw [hk]; exact (nI_eq (b := 1) (by omega) (by decide)).mp w))), if_neg (show ¬ nI (so (by' (tS by' t e))) = 2 from fun w => z (Or.inr (by rw [hk]; exact (nI_eq (b := 2) (by omega) (by decide)).mp w)))]
  · have hk : tK by' t e = 0 := if_neg q
    have he' : tE by' t e = tS by' t e := if_neg q
    rw [if_pos (nI_le (show t ≤ tS by' t e by omega) (by omega))]
    unfold fX7_advance_c74
    rw [ql, show (q_I σ2 23 2 0).1 23 0 = nI t from by rw [I_of (by omega)]; exact T2.2.1, show (q_I σ2 23 2 0).1 23 1 = nI (tS by' t e) from by rw [I_of (by omega)]; exact hS, if_pos (nI_le (show t ≤ tS by' t e by omega) (by omega)), ql]
    let σ4 : q_M := q_I (q_I σ2 23 2 0) 23 3 (nI (tS by' t e))
    have a4 : ag (fun c j => ¬ (c = 23 ∧ 1 ≤ j)) σ σ4 := ag_tr r1 (ag_tr (ag_I (nA 2 (by decide))) (ag_I (nA 3 (by decide))))
    have T4 := TpX_fr T a4
    refine ⟨σ4, a4, r2, ?_, ?_, by rw [he']; exact I_at, ?_⟩
    · show (q_I (q_I σ2 23 2 0) 23 3 (nI (tS by' t e))).1 23 1 = _
      rw [I_of (by omega), I_of (by omega)]; exact hS
    · show (q_I (q_I σ2 23 2 0) 23 3 (nI (tS by' t e))).1 23 2 = _
      rw [I_of (by omega), I_at, hk]; rfl
    · show fX7_advance_c105b (fX7_advance_c105 399) σ4 = _
      unfold fX7_advance_c105b
      rw [T4.2.1, show σ4.1 23 3 = nI (tS by' t e) from I_at, if_pos (nI_le (show t ≤ tS by' t e by omega) (by omega))]
/-- the tape as the reference has it -/
def TpM (τ : q_M) (by' : Nat → Nat) (t : Nat) : Prop := t ≤ 250 ∧ τ.1 0 9 = nI t ∧ (∀ i, i < t → by' i < 256 ∧ τ.1 9 i = nI (by' i))
def pL : Nat → Nat → Prop := fun c j => ¬ (c = 0 ∧ 20 ≤ j ∧ j ≤ 23)
theorem TpM_fr {τ τ' : q_M} {by' : Nat → Nat} {t : Nat} (h : TpM τ by' t) (a : ag pL τ τ') : TpM τ' by' t := by
  obtain ⟨h1, h2, h3⟩ := h
  refine ⟨h1, ?_, fun i hi => ⟨(h3 i hi).1, ?_⟩⟩
  · rw [(a 0 9 (by unfold pL; omega)).1]; exact h2
  · rw [(a 9 i (by unfold pL; omega)).1]; exact (h3 i hi).2
/-- the value of some digits -/
def dgv (by' : Nat → Nat) (s : Nat) : Nat → Nat
  | 0 => 0
  | m + 1 => 10 * dgv by' s m + by' (s + m) - 48
def fgv (by' : Nat → Nat) (s m : Nat) : Nat := if m ≤ 3 then dgv by' s m else 100000
theorem dgv_b {by' : Nat → Nat} {s : Nat} : ∀ m, (∀ j, j < m → so (by' (s + j)) = 2) → dgv by' s m < 10 ^ m
  | 0, _ => by
    show 0 < 10 ^ 0
    decide
  | m + 1, h => by
    have ih := dgv_b m (fun j hj => h j (by omega))
    have hm := h m (by omega)
    have hb : 48 ≤ by' (s + m) ∧ by' (s + m) ≤ 57 := by
      unfold so at hm
      split at hm
      · omega
      · split at hm
        · assumption
        · split at hm <;> omega
    show 10 * dgv by' s m + by' (s + m) - 48 < 10 ^ (m + 1)
    rw [Nat.pow_succ]
    omega
theorem lN_mul10 (a : Nat) : lN a * 10 = lN (a * 10) := by
  apply Int64.toBitVec_inj.mp
  rw [Int64.toBitVec_mul]
  show BitVec.ofNat 64 a * BitVec.ofNat 64 10 = BitVec.ofNat 64 (a * 10)
  apply BitVec.eq_of_toNat_eq
  rw [BitVec.toNat_mul, BitVec.toNat_ofNat, BitVec.toNat_ofNat, BitVec.toNat_ofNat, ← Nat.mul_mod]
theorem M_look {τ : q_M} {by' : Nat → Nat} {t e : Nat} (T : TpM τ by' t) (he : e ≤ t) (h20 : τ.1 0 20 = nI e) : ∃ τ', ag pL τ τ' ∧ τ'.1 0 22 = nI (tS by' t e) ∧ τ'.1 0 21 = nI (tK by' t e) ∧ τ'.1 0 20 = nI (tE by' t e) ∧ (tK by' t e = 2 → τ'.2 0 23 = lN (fgv by' (tS by' t e) (tE by' t e - tS by' t e))) ∧ fX9_look 0 τ = some τ' := by
  have t250 := T.1
  have nA : ∀ j, 20 ≤ j → j ≤ 23 → ¬ pL 0 j := fun j h1 h2 z => z ⟨rfl, h1, h2⟩
  have c0 : ∀ d i (τ1 : q_M) f, i + d = t → d < f → ag pL τ τ1 → τ1.1 0 20 = nI i → ∃ τ2, ag pL τ τ2 ∧ τ2.1 0 20 = nI (skp by' d i) ∧ fX9_look_c0 0 f τ1 = fX9_look_c38 0 τ2 := by
    intro d
    induction d with
    | zero =>
      intro i τ1 f e1 e2 a1 e3
      obtain ⟨f, rfl⟩ : ∃ z, f = z + 1 := ⟨f - 1, by omega⟩
      have T1 := TpM_fr T a1
      refine ⟨τ1, a1, e3, ?_⟩
      show fX9_look_c0b 0 (fX9_look_c0 0 f) τ1 = _
      unfold fX9_look_c0b
      rw [T1.2.1, e3, if_pos (nI_le (show t ≤ i by omega) (by omega))]
    | succ d ih =>
      intro i τ1 f e1 e2 a1 e3
      obtain ⟨f, rfl⟩ : ∃ z, f = z + 1 := ⟨f - 1, by omega⟩
      have T1 := TpM_fr T a1
      obtain ⟨bb, be⟩ := T1.2.2 i (by omega)
      have un : fX9_look_c0 0 (f + 1) τ1 = if nI (by' i) = 32 then fX9_look_c0 0 f (q_I τ1 0 20 (nI (i + 1))) else fX9_look_c38 0 τ1 := by
        show fX9_look_c0b 0 (fX9_look_c0 0 f) τ1 = _
        unfold fX9_look_c0b
        rw [T1.2.1, e3, if_neg (nI_ge (show i < t by omega) (by omega)), gd (show i < 250 by omega) (by decide), nI_clamp (by omega), show τ1.1 (0 + 9) i = nI (by' i) from be, ql, nI_1]
      rw [un]
      by_cases q : by' i = 32
      · rw [if_pos ((b32 bb).mpr q)]
        obtain ⟨τ2, r1, r3, r4⟩ := ih (i + 1) (q_I τ1 0 20 (nI (i + 1))) f (by omega) (by omega) (ag_tr a1 (ag_I (nA 20 (by decide) (by decide)))) I_at
        refine ⟨τ2, r1, ?_, r4⟩
        rw [r3]
        show nI (skp by' d (i + 1)) = nI (if by' i = 32 then skp by' d (i + 1) else i)
        rw [if_pos q]
      · rw [if_neg (fun z => q ((b32 bb).mp z))]
        refine ⟨τ1, a1, ?_, rfl⟩
        show τ1.1 0 20 = nI (if by' i = 32 then skp by' d (i + 1) else i)
        rw [if_neg q, e3]
  have c90 : ∀ d i (τ1 : q_M) f, i + d = t → d < f → ag pL τ τ1 → τ1.1 0 20 = nI i → ∃ τ2, ag pL τ τ2 ∧ τ2.1 0 20 = nI (rnn by' 1 d i) ∧ τ2.1 0 21 = τ1.1 0 21 ∧ τ2.1 0 22 = τ1.1 0 22 ∧ fX9_look_c90 0 f τ1 = some τ2 := by
    intro d
    induction d with
    | zero =>
      intro i τ1 f e1 e2 a1 e3
      obtain ⟨f, rfl⟩ : ∃ z, f = z + 1 := ⟨f - 1, by omega⟩
      have T1 := TpM_fr T a1
      refine ⟨τ1, a1, e3, rfl, rfl, ?_⟩
      show fX9_look_c90b 0 (fX9_look_c90 0 f) τ1 = _
      unfold fX9_look_c90b
      rw [T1.2.1, e3, if_pos (nI_le (show t ≤ i by omega) (by omega))]
    | succ d ih =>
      intro i τ1 f e1 e2 a1 e3
      obtain ⟨f, rfl⟩ : ∃ z, f = z + 1 := ⟨f - 1, by omega⟩
      have T1 := TpM_fr T a1
      obtain ⟨bb, be⟩ := T1.2.2 i (by omega)
      have un : fX9_look_c90 0 (f + 1) τ1 = if b1 (decide (so (by' i) = 1)) = 0 then some τ1 else fX9_look_c90 0 f (q_I τ1 0 20 (nI (i + 1))) := by
        show fX9_look_c90b 0 (fX9_look_c90 0 f) τ1 = _
        unfold fX9_look_c90b
        rw [T1.2.1, e3, if_neg (nI_ge (show i < t by omega) (by omega)), gd (show i < 250 by omega) (by decide), nI_clamp (by omega), show τ1.1 (0 + 9) i = nI (by' i) from be, M_let bb, bs, ql, e3, nI_1]
      rw [un]
      by_cases q : so (by' i) = 1
      · rw [decide_eq_true q, b1_t, if_neg b1_ne]
        obtain ⟨τ2, r1, r3, r4, r5, r6⟩ := ih (i + 1) (q_I τ1 0 20 (nI (i + 1))) f (by omega) (by omega) (ag_tr a1 (ag_I (nA 20 (by decide) (by decide)))) I_at
        refine ⟨τ2, r1, ?_, by rw [r4, I_of (by omega)], by rw [r5, I_of (by omega)], r6⟩
        rw [r3]
        show nI (rnn by' 1 d (i + 1)) = nI (if so (by' i) = 1 then rnn by' 1 d (i + 1) else i)
        rw [if_pos q]
      · rw [decide_eq_false q, b1_f, if_pos rfl]
        refine ⟨τ1, a1, ?_, rfl, rfl, rfl⟩
        show τ1.1 0 20 = nI (if so (by' i) = 1 then rnn by' 1 d (i + 1) else i)
        rw [if_neg q, e3]
  have c149 : ∀ s d i (τ1 : q_M) f, s ≤ i → i + d = t → d < f → ag pL τ τ1 → τ1.1 0 20 = nI i → τ1.1 0 22 = nI s → (∀ j, s ≤ j → j < i → so (by' j) = 2) → τ1.2 0 23 = lN (fgv by' s (i - s)) → ∃ τ2, ag pL τ τ2 ∧ τ2.1 0 20 = nI (rnn by' 2 d i) ∧ τ2.1 0 21 = τ1.1 0 21 ∧ τ2.1 0 22 = nI s ∧ τ2.2 0 23 = lN (fgv by' s (rnn by' 2 d i - s)) ∧ fX9_look_c149 0 f τ1 = some τ2 := by
    intro s d
    induction d with
    | zero =>
      intro i τ1 f hs e1 e2 a1 e3 e4 e5 e6
      obtain ⟨f, rfl⟩ : ∃ z, f = z + 1 := ⟨f - 1, by omega⟩
      have T1 := TpM_fr T a1
      refine ⟨τ1, a1, e3, rfl, e4, e6, ?_⟩
      show fX9_look_c149b 0 (fX9_look_c149 0 f) τ1 = _
      unfold fX9_look_c149b
      rw [T1.2.1, e3, if_pos (nI_le (show t ≤ i by omega) (by omega))]
    | succ d ih =>
      intro i τ1 f hs e1 e2 a1 e3 e4 e5 e6
      obtain ⟨f, rfl⟩ : ∃ z, f = z + 1 := ⟨f - 1, by omega⟩
      have T1 := TpM_fr T a1
      obtain ⟨bb, be⟩ := T1.2.2 i (by omega)
      by_cases q : so (by' i) = 2
      · have hb : 48 ≤ by' i ∧ by' i ≤ 57 := by
          unfold so at q
          split at q
          · omega
          · split at q
            · assumption
            · split at q <;> omega
        let τ2 : q_M := q_I (q_L τ1 0 23 (lN (fgv by' s (i + 1 - s)))) 0 20 (nI (i + 1))
        obtain ⟨τ3, r1, r3, r4, r5, r6, r7⟩ := ih (i + 1) τ2 f (by omega) (by omega) (by omega) (ag_tr a1 (ag_tr (ag_L (nA 23 (by decide) (by decide))) (ag_I (nA 20 (by decide) (by decide))))) I_at (by
          show (q_I (q_L τ1 0 23 (lN (fgv by' s (i + 1 - s)))) 0 20 (nI (i + 1))).1 0 22 = _
          rw [I_of (by omega)]; exact e4) (fun j j1 j2 => by
          rcases Nat.lt_or_ge j i with z | z
          · exact e5 j j1 z
          · rw [show j = i by omega]; exact q) (by
          show (q_L τ1 0 23 (lN (fgv by' s (i + 1 - s)))).2 0 23 = _
          exact L_at)
        have rr : rnn by' 2 (d + 1) i = rnn by' 2 d (i + 1) := if_pos q
        refine ⟨τ3, r1, by rw [rr]; exact r3, ?_, r5, by rw [rr]; exact r6, ?_⟩
        · rw [r4]
          show (q_I (q_L τ1 0 23 (lN (fgv by' s (i + 1 - s)))) 0 20 (nI (i + 1))).1 0 21 = _
          rw [I_of (by omega), L_1]
        · show fX9_look_c149b 0 (fX9_look_c149 0 f) τ1 = _
          unfold fX9_look_c149b
          rw [T1.2.1, e3, if_neg (nI_ge (show i < t by omega) (by omega)), gd (show i < 250 by omega) (by decide), nI_clamp (by omega), show τ1.1 (0 + 9) i = nI (by' i) from be, M_dig bb, bs, decide_eq_true q, b1_t, if_neg b1_ne, e3, e4, pk_sub hs]
          by_cases z : 3 ≤ i - s
          · have ef : fgv by' s (i + 1 - s) = 100000 := if_neg (by omega)
            have r7' := r7
            rw [show τ2 = q_I (q_L τ1 0 23 (lN (fgv by' s (i + 1 - s)))) 0 20 (nI (i + 1)) from rfl, ef] at r7'
            rw [if_pos (show (3 : Int32) ≤ nI (i - s) from nI_le (a := 3) z (by omega)), ql, ql, L_1, e3, nI_1]
            exact r7'
          · have ef : fgv by' s (i + 1 - s) = 10 * dgv by' s (i - s) + by' i - 48 := by
              have : fgv by' s (i + 1 - s) = dgv by' s (i + 1 - s) := if_pos (by omega)
              rw [this, show i + 1 - s = (i - s) + 1 by omega]
              show 10 * dgv by' s (i - s) + by' (s + (i - s)) - 48 = _
              rw [show s + (i - s) = i by omega]
            have e6' : τ1.2 0 23 = lN (dgv by' s (i - s)) := by
              rw [e6]
              have : fgv by' s (i - s) = dgv by' s (i - s) := if_pos (by omega)
              rw [this]
            have hd := dgv_b (by' := by') (s := s) (i - s) (fun j hj => e5 (s + j) (by omega) (by omega))
            have hd3 : dgv by' s (i - s) < 1000 := Nat.lt_of_lt_of_le hd (Nat.pow_le_pow_right (by decide) (show i - s ≤ 3 by omega))
            have r7' := r7
            rw [show τ2 = q_I (q_L τ1 0 23 (lN (fgv by' s (i + 1 - s)))) 0 20 (nI (i + 1)) from rfl, ef] at r7'
            rw [if_neg (show ¬ (3 : Int32) ≤ nI (i - s) from nI_ge (b := 3) (by omega) (by decide)), gd (show i < 250 by omega) (by decide), ql, ql, L_1, e3, nI_1, nI_clamp (by omega), show τ1.1 (0 + 9) i = nI (by' i) from be, nI_l (by omega), e6', lN_mul10, lN_addd, show (48 : Int64) = lN 48 from rfl, lN_subb (by omega) (by omega), show dgv by' s (i - s) * 10 + by' i - 48 = 10 * dgv by' s (i - s) + by' i - 48 by omega]
            exact r7'
      · have rr : rnn by' 2 (d + 1) i = i := if_neg q
        refine ⟨τ1, a1, by rw [rr]; exact e3, rfl, e4, by rw [rr]; exact e6, ?_⟩
        show fX9_look_c149b 0 (fX9_look_c149 0 f) τ1 = _
        unfold fX9_look_c149b
        rw [T1.2.1, e3, if_neg (nI_ge (show i < t by omega) (by omega)), gd (show i < 250 by omega) (by decide), nI_clamp (by omega), show τ1.1 (0 + 9) i = nI (by' i) from be, M_dig bb, bs, decide_eq_false q, b1_f, if_pos rfl]
  obtain ⟨τ2, r1, r3, r4⟩ := c0 (t - e) e τ q_FU (by omega) (by show _ < 400; omega) (ag_rf _ _) h20
  have hS : τ2.1 0 20 = nI (tS by' t e) := r3
  have tb := tok_b (by' := by') he
  have T2 := TpM_fr T r1
  let τ3 : q_M := q_L (q_I τ2 0 22 (nI (tS by' t e))) 0 23 0
  have a3 : ag pL τ τ3 := ag_tr r1 (ag_tr (ag_I (nA 22 (by decide) (by decide))) (ag_L (nA 23 (by decide) (by decide))))
  have T3 := TpM_fr T a3
  have s20 : τ3.1 0 20 = nI (tS by' t e) := by
    show (q_I τ2 0 22 (nI (tS by' t e))).1 0 20 = _
    rw [I_of (by omega)]; exact hS
  have s22 : τ3.1 0 22 = nI (tS by' t e) := by
    show (q_I τ2 0 22 (nI (tS by' t e))).1 0 22 = _
    exact I_at
  have e0 : fX9_look 0 τ = fX9_look_c38 0 τ2 := r4
  rw [e0]
  unfold fX9_look_c38
  rw [ql, ql, hS]
  show ∃ τ', _ ∧ _ ∧ _ ∧ _ ∧ _ ∧ (if τ3.1 0 20 = τ3.1 0 9 then (q_let (q_I τ3 0 21 0) fun σ18 => some σ18) else if ¬ (τ3.1 0 20 < 0 ∨ 250 ≤ (τ3.1 0 20).toNatClampNeg) then (fX9_isLetter (τ3.1 (0 + 9) (τ3.1 0 20).toNatClampNeg) τ3).bind fun o5 => (if o5.1 = 0 then (if ¬ ((o5.2.1 0 20) < 0 ∨ 250 ≤ (o5.2.1 0 20).toNatClampNeg) then (fX9_isDigit (o5.2.1 (0 + 9) (o5.2.1 0 20).toNatClampNeg) o5.2).bind fun o8 => (if o8.1 = 0 then (if ¬ ((o8.2.1 0 20) < 0 ∨ 250 ≤ (o8.2.1 0 20).toNatClampNeg) then (if (o8.2.1 (0 + 9) (o8.2.1 0 20).toNatClampNeg) = (59 : Int32) then (q_let (q_I o8.2 0 21 (3 : Int32)) fun σ14 => q_let (q_I σ14 0 20 ((σ14.1 0 20) + (1 : Int32))) fun σ15 => some σ15) else (q_let (q_I o8.2 0 21 (4 : Int32)) fun σ12 => q_let (q_I σ12 0 20 ((σ12.1 0 20) + (1 : Int32))) fun σ13 => some σ13)) else none) else (q_let (q_I o8.2 0 21 (2 : Int32)) fun σ16 => fX9_look_c149 0 q_FU σ16)) else none) else (q_let (q_I o5.2 0 21 (1 : Int32)) fun σ17 => fX9_look_c90 0 q_FU σ17)) else none) = some τ'
  rw [s20, T3.2.1]
  by_cases q : tS by' t e < t
  · obtain ⟨bb, be⟩ := T3.2.2 (tS by' t e) q
    have hk : tK by' t e = so (by' (tS by' t e)) := if_pos q
    have hso := so_lt (by' (tS by' t e))
    have he' : tE by' t e = if tK by' t e = 1 ∨ tK by' t e = 2 then rnn by' (tK by' t e) (t - (tS by' t e + 1)) (tS by' t e + 1) else tS by' t e + 1 := if_pos q
    rw [if_neg (fun z => by have := (nI_eq (show tS by' t e < 2 ^ 31 by omega) (by omega)).mp z; omega), gd (show tS by' t e < 250 by omega) (by decide), nI_clamp (by omega), show τ3.1 (0 + 9) (tS by' t e) = nI (by' (tS by' t e)) from be, M_let bb, bs]
    have rr : ∀ k, so (by' (tS by' t e)) = k → rnn by' k (t - tS by' t e) (tS by' t e) = rnn by' k (t - (tS by' t e + 1)) (tS by' t e + 1) := fun k hk' => by
      rw [show t - tS by' t e = (t - (tS by' t e + 1)) + 1 by omega]
      exact if_pos hk'
    by_cases z1 : so (by' (tS by' t e)) = 1
    · rw [decide_eq_true z1, b1_t, if_neg b1_ne, ql]
      obtain ⟨τ4, g1, g2, g3, g4, g5⟩ := c90 (t - tS by' t e) (tS by' t e) (q_I τ3 0 21 1) q_FU (by omega) (by show _ < 400; omega) (ag_tr a3 (ag_I (nA 21 (by decide) (by decide)))) (by rw [I_of (by omega)]; exact s20)
      refine ⟨τ4, g1, ?_, ?_, ?_, (fun w => by rw [hk, z1] at w; cases w), g5⟩
      · rw [g4, I_of (by omega)]; exact s22
      · rw [g3, I_at, hk, z1]; rfl
      · rw [g2, rr 1 z1, he', hk, z1, if_pos (Or.inl rfl)]
    · rw [decide_eq_false z1, b1_f, if_pos rfl, s20, gd (show tS by' t e < 250 by omega) (by decide), nI_clamp (by omega), show τ3.1 (0 + 9) (tS by' t e) = nI (by' (tS by' t e)) from be, M_dig bb, bs]
      by_cases z2 : so (by' (tS by' t e)) = 2
      · rw [decide_eq_true z2, b1_t, if_neg b1_ne, ql]
        obtain ⟨τ4, g1, g2, g3, g4, g5, g6⟩ := c149 (tS by' t e) (t - tS by' t e) (tS by' t e) (q_I τ3 0 21 2) q_FU (Nat.le_refl _) (by omega) (by show _ < 400; omega) (ag_tr a3 (ag_I (nA 21 (by decide) (by decide)))) (by rw [I_of (by omega)]; exact s20) (by rw [I_of (by omega)]; exact s22) (fun j j1 j2 => by omega) (by
          show (q_L (q_I τ2 0 22 (nI (tS by' t e))) 0 23 0).2 0 23 = _
          rw [L_at, Nat.sub_self]; rfl)
        have hE : rnn by' 2 (t - tS by' t e) (tS by' t e) = tE by' t e := by rw [rr 2 z2, he', hk, z2, if_pos (Or.inr rfl)]
        refine ⟨τ4, g1, g4, ?_, ?_, fun _ => ?_, g6⟩
        · rw [g3, I_at, hk, z2]; rfl
        · rw [g2, hE]
        · rw [g5, hE]
      · have hE : tE by' t e = tS by' t e + 1 := by rw [he', hk, if_neg (by omega)]
        rw [decide_eq_false z2, b1_f, if_pos rfl, s20, gd (show tS by' t e < 250 by omega) (by decide), nI_clamp (by omega), show τ3.1 (0 + 9) (tS by' t e) = nI (by' (tS by' t e)) from be, ql, ql, ql, ql, I_of (show ¬ (0 = 0 ∧ 20 = 21) by omega), I_of (show ¬ (0 = 0 ∧ 20 = 21) by omega), s20, nI_1]
        have fin : ∀ v, nI (so (by' (tS by' t e))) = v → ∃ τ', ag pL τ τ' ∧ τ'.1 0 22 = nI (tS by' t e) ∧ τ'.1 0 21 = nI (tK by' t e) ∧ τ'.1 0 20 = nI (tE by' t e) ∧ (tK by' t e = 2 → τ'.2 0 23 = lN (fgv by' (tS by' t e) (tE by' t e - tS by' t e))) ∧ some (q_I (q_I τ3 0 21 v) 0 20 (nI (tS by' t e + 1))) = some τ' := fun v hv => by
          refine ⟨_, ag_tr a3 (ag_tr (ag_I (nA 21 (by decide) (by decide))) (ag_I (nA 20 (by decide) (by decide)))), ?_, ?_, ?_, fun w => by rw [hk] at w; exact absurd w z2, rfl⟩
          · rw [I_of (by omega), I_of (by omega)]; exact s22
          · rw [I_of (by omega), I_at, hk, hv]
          · rw [I_at, hE]
        by_cases z3 : so (by' (tS by' t e)) = 3
        · rw [if_pos ((b59 bb).mpr z3)]
          exact fin 3 (by rw [z3]; rfl)
        · rw [if_neg (fun w => z3 ((b59 bb).mp w))]
          exact fin 4 (by rw [show so (by' (tS by' t e)) = 4 by omega]; rfl)
  · have hk : tK by' t e = 0 := if_neg q
    have he' : tE by' t e = tS by' t e := if_neg q
    rw [if_pos (show nI (tS by' t e) = nI t by rw [show tS by' t e = t by omega]), ql]
    refine ⟨_, ag_tr a3 (ag_I (nA 21 (by decide) (by decide))), ?_, ?_, ?_, (fun w => by rw [hk] at w; cases w), rfl⟩
    · rw [I_of (by omega)]; exact s22
    · rw [I_at, hk]; rfl
    · rw [I_of (by omega), he']; exact s20
