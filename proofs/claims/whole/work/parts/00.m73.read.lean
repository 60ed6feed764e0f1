/-! Reading: words, numbers, boxes. -/
def TK (σ τ : q_M) (by' : Nat → Nat) (t e : Nat) : Prop := e ≤ t ∧ σ.1 23 1 = nI (tS by' t e) ∧ σ.1 23 2 = nI (tK by' t e) ∧ σ.1 23 3 = nI (tE by' t e) ∧ τ.1 0 22 = nI (tS by' t e) ∧ τ.1 0 21 = nI (tK by' t e) ∧ τ.1 0 20 = nI (tE by' t e) ∧ (tK by' t e = 2 → τ.2 0 23 = lN (fgv by' (tS by' t e) (tE by' t e - tS by' t e)))
def ST (σ τ : q_M) (by' : Nat → Nat) (t e n p o : Nat) : Prop := TpX σ by' t ∧ TpM τ by' t ∧ TK σ τ by' t e ∧ RM σ 15 τ 0 n p o
def aT : Nat → Nat → Prop := fun c j => ¬ (c = 23 ∧ 1 ≤ j)
def pN : Nat → Nat → Prop := fun c j => ¬ ((c = 0 ∧ 20 ≤ j ∧ j ≤ 23) ∨ c = 13)
theorem RM_aT {σ σ' τ τ' : q_M} {n p o : Nat} (h : RM σ 15 τ 0 n p o) (a : ag aT σ σ') (b : ag pN τ τ') : RM σ' 15 τ' 0 n p o := RM_fr h (fun c j hc => a c j (by
    have hc' : 15 ≤ c ∧ c ≤ 15 + 6 := hc
    unfold aT
    omega)) (fun c j hc => b c j (by
    have hc' : (c = 0 ∧ (j = 11 ∨ j = 12 ∨ j = 13 ∨ j = 15 ∨ j = 17 ∨ j = 18)) ∨ c = 0 + 11 ∨ c = 0 + 12 := hc
    unfold pN
    omega))
theorem pL_pN {τ τ' : q_M} (h : ag pL τ τ') : ag pN τ τ' := ag_sub h (fun c j hc => by unfold pN at hc; unfold pL; omega)
theorem TpM_N {τ τ' : q_M} {by' : Nat → Nat} {t : Nat} (h : TpM τ by' t) (a : ag pN τ τ') : TpM τ' by' t := by
  obtain ⟨h1, h2, h3⟩ := h
  refine ⟨h1, ?_, fun i hi => ⟨(h3 i hi).1, ?_⟩⟩
  · rw [(a 0 9 (by unfold pN; omega)).1]; exact h2
  · rw [(a 9 i (by unfold pN; omega)).1]; exact (h3 i hi).2
/-- on to the next token -/
theorem adv {σ τ : q_M} {by' : Nat → Nat} {t e n p o : Nat} (h : ST σ τ by' t e n p o) : ∃ σ1 τ1, fX7_advance σ = some σ1 ∧ fX9_look 0 τ = some τ1 ∧ ST σ1 τ1 by' t (tE by' t e) n p o ∧ ag aT σ σ1 ∧ ag pL τ τ1 := by
  obtain ⟨TX, TM, ⟨k1, k2, k3, k4, k5, k6, k7, k8⟩, hR⟩ := h
  have hb := tok_b (by' := by') k1
  obtain ⟨σ1, a1, a2, a3, a4, a5, a6⟩ := X7_advance TX hb.2.2.1 k4
  obtain ⟨τ1, b1, b2, b3, b4, b5, b6⟩ := M_look TM hb.2.2.1 k7
  exact ⟨σ1, τ1, a6, b6, ⟨TpX_fr TX a1, TpM_fr TM b1, ⟨hb.2.2.1, a3, a4, a5, b2, b3, b4, b5⟩, RM_aT hR a1 (pL_pN b1)⟩, a1, b1⟩
def wln (w : Nat) : Nat := q_len.getD w 0
def cmpW (by' : Nat → Nat) (s w : Nat) : Nat → Nat → Bool
  | 0, _ => true
  | d + 1, i => decide (nI (by' (s + i)) = q_chr w (nI i)) && cmpW by' s w d (i + 1)
/-- whether a token is a word -/
def wdB (by' : Nat → Nat) (t e w : Nat) : Bool := decide (tK by' t e = 1) && (decide (tE by' t e - tS by' t e = wln w) && cmpW by' (tS by' t e) w (wln w) 0)
theorem J_len {w : Nat} (σ : q_M) (hw : w < 9) : fJ0_length_8abf5 w σ = some (nI (wln w), σ) := by
  rcases (show w = 0 ∨ w = 1 ∨ w = 2 ∨ w = 3 ∨ w = 4 ∨ w = 5 ∨ w = 6 ∨ w = 7 ∨ w = 8 by omega) with rfl | rfl | rfl | rfl | rfl | rfl | rfl | rfl | rfl <;> rfl
theorem J_chr {w i : Nat} (σ : q_M) (hw : w < 9) (hi : i < wln w) : fJ0_charAt_5068e w (nI i) σ = some (q_chr w (nI i), σ) := by
  have h5 : wln w < 2 ^ 31 := Nat.lt_of_le_of_lt ((by decide +kernel : ∀ w, w < 9 → wln w ≤ 5) w hw) (by decide)
  unfold fJ0_charAt_5068e fJ1_charAt_3b067
  first
  | exact gd hi h5
  | (rw [show q_len.getD w 0 = wln w from rfl, gd hi h5]; rfl)
  | (rw [show q_len.getD w 0 = wln w from rfl, gd hi h5, bs])
theorem wln5 {w : Nat} (hw : w < 9) : wln w ≤ 5 := (by decide +kernel : ∀ w, w < 9 → wln w ≤ 5) w hw
theorem X7_word {σ τ : q_M} {by' : Nat → Nat} {t e n p o w : Nat} (h : ST σ τ by' t e n p o) (hw : w < 9) : fX7_isWord w σ = some (b1 (wdB by' t e w), σ) := by
  obtain ⟨TX, TM, ⟨k1, k2, k3, k4, k5, k6, k7, k8⟩, hR⟩ := h
  have hb := tok_b (by' := by') k1
  have t250 := TX.1
  have w5 := wln5 hw
  unfold fX7_isWord wdB
  rw [k3, k4, k2]
  by_cases q : tK by' t e = 1
  · rw [if_pos (show nI (tK by' t e) = 1 by rw [q]; rfl), J_len σ hw, bs, decide_eq_true q, Bool.true_and, pk_sub hb.2.1]
    by_cases z : tE by' t e - tS by' t e = wln w
    · rw [if_pos (show nI (tE by' t e - tS by' t e) = nI (wln w) by rw [z]), decide_eq_true z, Bool.true_and]
      have key : ∀ d i f, i + d = wln w → d < f → fX7_isWord_c28 w f (nI i) σ = some (b1 (cmpW by' (tS by' t e) w d i), σ) := by
        intro d
        induction d with
        | zero =>
          intro i f e1 e2
          obtain ⟨f, rfl⟩ : ∃ z, f = z + 1 := ⟨f - 1, by omega⟩
          show fX7_isWord_c28b w (fX7_isWord_c28 w f) (nI i) σ = _
          unfold fX7_isWord_c28b
          rw [J_len σ hw, bs, if_pos (nI_le (show wln w ≤ i by omega) (by omega))]
          rfl
        | succ d ih =>
          intro i f e1 e2
          obtain ⟨f, rfl⟩ : ∃ z, f = z + 1 := ⟨f - 1, by omega⟩
          show fX7_isWord_c28b w (fX7_isWord_c28 w f) (nI i) σ = some (b1 (decide (nI (by' (tS by' t e + i)) = q_chr w (nI i)) && cmpW by' (tS by' t e) w d (i + 1)), σ)
          unfold fX7_isWord_c28b
          rw [J_len σ hw, bs, if_neg (nI_ge (show i < wln w by omega) (by omega)), k2, nI_add, gd (show tS by' t e + i < 250 by omega) (by decide), J_chr σ hw (by omega), bs, nI_clamp (by omega), (TX.2.2 (tS by' t e + i) (by omega)).2, nI_1]
          by_cases y : nI (by' (tS by' t e + i)) = q_chr w (nI i)
          · rw [if_pos y, decide_eq_true y, Bool.true_and]
            exact ih (i + 1) f (by omega) (by omega)
          · rw [if_neg y, decide_eq_false y]; rfl
      exact key (wln w) 0 q_FU (by omega) (by show _ < 400; omega)
    · rw [if_neg (fun y => z ((nI_eq (by omega) (by omega)).mp y)), decide_eq_false z]; rfl
  · rw [if_neg (show ¬ nI (tK by' t e) = 1 from fun y => q ((nI_eq (b := 1) (by omega) (by decide)).mp y)), decide_eq_false q]; rfl
theorem M_word {σ τ : q_M} {by' : Nat → Nat} {t e n p o w : Nat} (h : ST σ τ by' t e n p o) (hw : w < 9) : fX9_isWord 0 w τ = some (b1 (wdB by' t e w), τ) := by
  obtain ⟨TX, TM, ⟨k1, k2, k3, k4, k5, k6, k7, k8⟩, hR⟩ := h
  have hb := tok_b (by' := by') k1
  have t250 := TX.1
  have w5 := wln5 hw
  unfold fX9_isWord wdB
  rw [k6, k7, k5]
  by_cases q : tK by' t e = 1
  · rw [if_pos (show nI (tK by' t e) = 1 by rw [q]; rfl), J_len τ hw, bs, decide_eq_true q, Bool.true_and, pk_sub hb.2.1]
    by_cases z : tE by' t e - tS by' t e = wln w
    · rw [if_pos (show nI (tE by' t e - tS by' t e) = nI (wln w) by rw [z]), decide_eq_true z, Bool.true_and]
      have key : ∀ d i f, i + d = wln w → d < f → fX9_isWord_c28 0 w f (nI i) τ = some (b1 (cmpW by' (tS by' t e) w d i), τ) := by
        intro d
        induction d with
        | zero =>
          intro i f e1 e2
          obtain ⟨f, rfl⟩ : ∃ z, f = z + 1 := ⟨f - 1, by omega⟩
          show fX9_isWord_c28b 0 w (fX9_isWord_c28 0 w f) (nI i) τ = _
          unfold fX9_isWord_c28b
          rw [J_len τ hw, bs, if_pos (nI_le (show wln w ≤ i by omega) (by omega))]
          rfl
        | succ d ih =>
          intro i f e1 e2
          obtain ⟨f, rfl⟩ : ∃ z, f = z + 1 := ⟨f - 1, by omega⟩
          show fX9_isWord_c28b 0 w (fX9_isWord_c28 0 w f) (nI i) τ = some (b1 (decide (nI (by' (tS by' t e + i)) = q_chr w (nI i)) && cmpW by' (tS by' t e) w d (i + 1)), τ)
          unfold fX9_isWord_c28b
          rw [J_len τ hw, bs, if_neg (nI_ge (show i < wln w by omega) (by omega)), k5, nI_add, gd (show tS by' t e + i < 250 by omega) (by decide), J_chr τ hw (by omega), bs, nI_clamp (by omega), show τ.1 (0 + 9) (tS by' t e + i) = nI (by' (tS by' t e + i)) from (TM.2.2 (tS by' t e + i) (by omega)).2, nI_1]
          by_cases y : nI (by' (tS by' t e + i)) = q_chr w (nI i)
          · rw [if_pos y, decide_eq_true y, Bool.true_and]
            exact ih (i + 1) f (by omega) (by omega)
          · rw [if_neg y, decide_eq_false y]; rfl
      exact key (wln w) 0 q_FU (by omega) (by show _ < 400; omega)
    · rw [if_neg (fun y => z ((nI_eq (by omega) (by omega)).mp y)), decide_eq_false z]; rfl
  · rw [if_neg (show ¬ nI (tK by' t e) = 1 from fun y => q ((nI_eq (b := 1) (by omega) (by decide)).mp y)), decide_eq_false q]; rfl
theorem cmp_all {by' : Nat → Nat} {s w : Nat} : ∀ d i, cmpW by' s w d i = true → ∀ j, i ≤ j → j < i + d → nI (by' (s + j)) = q_chr w (nI j)
  | 0, i, _, j, h1, h2 => by omega
  | d + 1, i, h, j, h1, h2 => by
    have h' : (decide (nI (by' (s + i)) = q_chr w (nI i)) && cmpW by' s w d (i + 1)) = true := h
    rw [Bool.and_eq_true, decide_eq_true_iff] at h'
    by_cases q : j = i
    · rw [q]; exact h'.1
    · exact cmp_all d (i + 1) h'.2 j (by omega) (by omega)
def wneq (v w : Nat) : Bool := decide (v = w) || !decide (wln v = wln w) || (List.range 5).any fun j => decide (j < wln v) && !decide (q_chr v (nI j) = q_chr w (nI j))
theorem wneq_t : ∀ v, v < 9 → ∀ w, w < 9 → wneq v w = true := by decide +kernel
/-- a token is at most one word -/
theorem wd_one {by' : Nat → Nat} {t e v w : Nat} (hv : v < 9) (hw : w < 9) (hne : v ≠ w) (h : wdB by' t e v = true) : wdB by' t e w = false := by
  cases q : wdB by' t e w with
  | false => rfl
  | true =>
    exfalso
    unfold wdB at h q
    simp only [Bool.and_eq_true, decide_eq_true_iff] at h q
    have hn := wneq_t v hv w hw
    unfold wneq at hn
    have hl : wln v = wln w := h.2.1.symm.trans q.2.1
    rw [decide_eq_false hne, decide_eq_true hl] at hn
    simp only [Bool.false_or, Bool.not_true, List.any_eq_true, List.mem_range] at hn
    obtain ⟨j, _, j2⟩ := hn
    simp only [Bool.and_eq_true, decide_eq_true_iff, Bool.not_eq_true', decide_eq_false_iff_not] at j2
    have c1 := cmp_all (wln v) 0 h.2.2 j (by omega) (by omega)
    have c2 := cmp_all (wln w) 0 q.2.2 j (by omega) (by omega)
    exact j2.2 (c1.symm.trans c2)
/-- a number within bounds -/
def okN (by' : Nat → Nat) (t e lo hi : Nat) : Bool := decide (tK by' t e = 2) && (decide (tE by' t e - tS by' t e ≤ 3) && (decide (lo ≤ dgv by' (tS by' t e) (tE by' t e - tS by' t e)) && decide (dgv by' (tS by' t e) (tE by' t e - tS by' t e) ≤ hi)))
theorem dig_in {by' : Nat → Nat} {t e : Nat} (he : e ≤ t) (h : tK by' t e = 2) : ∀ j, j < tE by' t e - tS by' t e → so (by' (tS by' t e + j)) = 2 := by
  intro j hj
  have hq : tS by' t e < t := by
    rcases Nat.lt_or_ge (tS by' t e) t with q | q
    · exact q
    · have : tK by' t e = 0 := if_neg (by omega)
      rw [this] at h; cases h
  have hk : tK by' t e = so (by' (tS by' t e)) := if_pos hq
  have hE : tE by' t e = rnn by' 2 (t - (tS by' t e + 1)) (tS by' t e + 1) := by
    have : tE by' t e = if tK by' t e = 1 ∨ tK by' t e = 2 then rnn by' (tK by' t e) (t - (tS by' t e + 1)) (tS by' t e + 1) else tS by' t e + 1 := if_pos hq
    rw [this, if_pos (Or.inr h), h]
  by_cases z : j = 0
  · rw [z, Nat.add_zero, ← hk]; exact h
  · exact rnn_in by' 2 (t - (tS by' t e + 1)) (tS by' t e + 1) (tS by' t e + j) (by omega) (by rw [← hE]; omega)
theorem X7_num {σ τ : q_M} {by' : Nat → Nat} {t e n p o : Nat} (h : ST σ τ by' t e n p o) : fX7_number σ = some (if tK by' t e = 2 ∧ tE by' t e - tS by' t e ≤ 3 then nI (dgv by' (tS by' t e) (tE by' t e - tS by' t e)) else -1, σ) := by
  obtain ⟨TX, TM, ⟨k1, k2, k3, k4, k5, k6, k7, k8⟩, hR⟩ := h
  have hb := tok_b (by' := by') k1
  have t250 := TX.1
  unfold fX7_number
  rw [k3, k4, k2, pk_sub hb.2.1]
  by_cases q : tK by' t e = 2
  · rw [if_pos (show nI (tK by' t e) = 2 by rw [q]; rfl)]
    by_cases z : tE by' t e - tS by' t e ≤ 3
    · have hd := dig_in k1 q
      rw [if_pos (show nI (tE by' t e - tS by' t e) ≤ 3 from nI_le (b := 3) z (by decide)), if_pos ⟨q, z⟩]
      have key := lp_run (fun f (j : Nat) => fX7_number_c30 f (nI (dgv by' (tS by' t e) j)) (nI (tS by' t e + j)) σ) id (tE by' t e - tS by' t e) (some (nI (dgv by' (tS by' t e) (tE by' t e - tS by' t e)), σ)) ?_ ?_ q_FU (by show _ < 400; omega)
      · exact key
      · intro f j hj
        have hj' : j < tE by' t e - tS by' t e := hj
        have hbj : 48 ≤ by' (tS by' t e + j) := by
          have hh := hd j hj'
          unfold so at hh
          split at hh
          · omega
          · split at hh
            · omega
            · split at hh <;> omega
        show fX7_number_c30b (fX7_number_c30 f) (nI (dgv by' (tS by' t e) j)) (nI (tS by' t e + j)) σ = fX7_number_c30 f (nI (10 * dgv by' (tS by' t e) j + by' (tS by' t e + j) - 48)) (nI (tS by' t e + (j + 1))) σ
        unfold fX7_number_c30b
        rw [k4, if_neg (nI_ge (show tS by' t e + j < tE by' t e by omega) (by omega)), gd (show tS by' t e + j < 250 by omega) (by decide), nI_clamp (by omega), (TX.2.2 (tS by' t e + j) (by omega)).2, ql, show (10 : Int32) * nI (dgv by' (tS by' t e) j) = nI (10 * dgv by' (tS by' t e) j) from nI_mul 10 _, nI_add, show nI (10 * dgv by' (tS by' t e) j + by' (tS by' t e + j)) - 48 = nI (10 * dgv by' (tS by' t e) j + by' (tS by' t e + j) - 48) from pk_sub (b := 48) (by omega), nI_1]
        rfl
      · intro f
        show fX7_number_c30b (fX7_number_c30 f) (nI (dgv by' (tS by' t e) (tE by' t e - tS by' t e))) (nI (tS by' t e + (tE by' t e - tS by' t e))) σ = _
        unfold fX7_number_c30b
        rw [k4, if_pos (nI_le (show tE by' t e ≤ tS by' t e + (tE by' t e - tS by' t e) by omega) (by omega))]
    · rw [if_neg (show ¬ nI (tE by' t e - tS by' t e) ≤ 3 from nI_ge (a := 3) (by omega) (by omega)), if_neg (fun w => z w.2)]
  · rw [if_neg (show ¬ nI (tK by' t e) = 2 from fun y => q ((nI_eq (b := 2) (by omega) (by decide)).mp y)), if_neg (fun w => q w.1)]
theorem M_inL {a b v : Nat} (ha : a < 2 ^ 31) (hb : b < 2 ^ 31) (hv : v < 2 ^ 31) (τ : q_M) : fX9_in (lN v) (nI a).toInt64 (nI b).toInt64 τ = some (b1 (decide (a ≤ v) && decide (v ≤ b)), τ) := by
  unfold fX9_in
  rw [nI_l ha, nI_l hb]
  by_cases q : v < a
  · rw [if_pos ((pk_lLT (by omega) (by omega)).mpr q), decide_eq_false (by omega)]; rfl
  · rw [if_neg (fun z => q ((pk_lLT (by omega) (by omega)).mp z)), decide_eq_true (show a ≤ v by omega)]
    by_cases z : v ≤ b
    · rw [if_pos ((pk_lLE (by omega) (by omega)).mpr z), decide_eq_true z]; rfl
    · rw [if_neg (fun y => z ((pk_lLE (by omega) (by omega)).mp y)), decide_eq_false z]; rfl
theorem l_i {v : Nat} (hv : v < 1000) : (lN v).toInt32 = nI v := (by decide +kernel : ∀ v, v < 1000 → (lN v).toInt32 = nI v) v hv
theorem num_y {σ τ : q_M} {by' : Nat → Nat} {t e n p o i lo hi : Nat} (h : ST σ τ by' t e n p o) (hi2 : i < 2) (hh : hi ≤ 999) (hlo : lo ≤ 999) (ok : okN by' t e lo hi = true) : ∃ v σ1 τ1, lo ≤ v ∧ v ≤ hi ∧ fX4_numberWithin (nI lo) (nI hi) σ = some (nI v, σ1) ∧ fX9_number 0 (nI i) (nI lo) (nI hi) τ = some (1, τ1) ∧ ST σ1 τ1 by' t (tE by' t e) n p o ∧ ag aT σ σ1 ∧ ag pN τ τ1 ∧ τ1.1 13 i = nI v ∧ ∀ j, j ≠ i → τ1.1 13 j = τ.1 13 j := by
  have h' := h
  obtain ⟨TX, TM, ⟨k1, k2, k3, k4, k5, k6, k7, k8⟩, hR⟩ := h
  unfold okN at ok
  simp only [Bool.and_eq_true, decide_eq_true_iff] at ok
  obtain ⟨o1, o2, o3, o4⟩ := ok
  have vb := dgv_b (by' := by') (s := tS by' t e) (tE by' t e - tS by' t e) (dig_in k1 o1)
  have v3 : dgv by' (tS by' t e) (tE by' t e - tS by' t e) < 1000 := Nat.lt_of_lt_of_le vb (Nat.pow_le_pow_right (by decide) o2)
  have fg : fgv by' (tS by' t e) (tE by' t e - tS by' t e) = dgv by' (tS by' t e) (tE by' t e - tS by' t e) := if_pos o2
  let τ0 : q_M := q_I τ 13 i (nI (dgv by' (tS by' t e) (tE by' t e - tS by' t e)))
  have h0 : ST σ τ0 by' t e n p o := by
    have a0 : ag pN τ τ0 := ag_I (fun z => z (Or.inr rfl))
    refine ⟨TX, TpM_N TM a0, ⟨k1, k2, k3, k4, ?_, ?_, ?_, k8⟩, RM_aT hR (ag_rf _ _) a0⟩
    · show (q_I τ 13 i _).1 0 22 = _
      rw [I_of (by omega)]; exact k5
    · show (q_I τ 13 i _).1 0 21 = _
      rw [I_of (by omega)]; exact k6
    · show (q_I τ 13 i _).1 0 20 = _
      rw [I_of (by omega)]; exact k7
  obtain ⟨σ1, τ1, e1, e2, e3, e4, e5⟩ := adv h0
  refine ⟨dgv by' (tS by' t e) (tE by' t e - tS by' t e), σ1, τ1, o3, o4, ?_, ?_, e3, e4, ag_tr (ag_I (fun z => z (Or.inr rfl))) (pL_pN e5), ?_, fun j hj => ?_⟩
  · unfold fX4_numberWithin
    have hx : fX7_number σ = some (nI (dgv by' (tS by' t e) (tE by' t e - tS by' t e)), σ) := by rw [X7_num h', if_pos (show tK by' t e = 2 ∧ tE by' t e - tS by' t e ≤ 3 from ⟨o1, o2⟩)]
    rw [hx, bs, if_neg (nI_nlt o3 (by omega)), if_pos (nI_le o4 (by omega)), e1, bs]
  · unfold fX9_number
    rw [k6, if_pos (show nI (tK by' t e) = 2 by rw [o1]; rfl), k8 o1, fg, M_inL (by omega) (by omega) (by omega), bs, decide_eq_true o3, decide_eq_true o4, if_neg (show ¬ b1 (true && true) = 0 from b1_ne), gd hi2 (by decide), ql, nI_clamp (by omega), show τ.2 0 23 = lN (dgv by' (tS by' t e) (tE by' t e - tS by' t e)) from (k8 o1).trans (by rw [fg]), l_i v3]
    show (fX9_look 0 τ0).bind _ = _
    rw [e2, bs]
  · rw [(e5 13 i (by unfold pL; omega)).1]; exact I_at
  · rw [(e5 13 j (by unfold pL; omega)).1]
    show (q_I τ 13 i _).1 13 j = _
    rw [I_of (fun z => hj z.2)]
theorem num_n {σ τ : q_M} {by' : Nat → Nat} {t e n p o i lo hi : Nat} (h : ST σ τ by' t e n p o) (hh : hi ≤ 999) (hlo : lo ≤ 999) (ok : okN by' t e lo hi = false) : fX4_numberWithin (nI lo) (nI hi) σ = some (-1, σ) ∧ fX9_number 0 (nI i) (nI lo) (nI hi) τ = some (0, q_I τ 0 24 (nI (tS by' t e))) := by
  have h' := h
  obtain ⟨TX, TM, ⟨k1, k2, k3, k4, k5, k6, k7, k8⟩, hR⟩ := h
  have hb := tok_b (by' := by') k1
  have t250 := TX.1
  have wr : (fX9_isWrong 0 τ).bind (fun o9 => if o9.1 = 0 ∨ o9.1 = 1 then some (o9.1, o9.2) else none) = some ((0 : Int32), q_I τ 0 24 (nI (tS by' t e))) := by
    unfold fX9_isWrong
    rw [ql, bs, k5, if_pos (Or.inl rfl)]
  unfold okN at ok
  unfold fX4_numberWithin fX9_number
  rw [k6]
  by_cases q : tK by' t e = 2
  · rw [if_pos (show nI (tK by' t e) = 2 by rw [q]; rfl), k8 q]
    rw [decide_eq_true q, Bool.true_and] at ok
    by_cases z : tE by' t e - tS by' t e ≤ 3
    · have vb := dgv_b (by' := by') (s := tS by' t e) (tE by' t e - tS by' t e) (dig_in k1 q)
      have v3 : dgv by' (tS by' t e) (tE by' t e - tS by' t e) < 1000 := Nat.lt_of_lt_of_le vb (Nat.pow_le_pow_right (by decide) z)
      have fg : fgv by' (tS by' t e) (tE by' t e - tS by' t e) = dgv by' (tS by' t e) (tE by' t e - tS by' t e) := if_pos z
      rw [decide_eq_true z, Bool.true_and] at ok
      have hx : fX7_number σ = some (nI (dgv by' (tS by' t e) (tE by' t e - tS by' t e)), σ) := by rw [X7_num h', if_pos (show tK by' t e = 2 ∧ tE by' t e - tS by' t e ≤ 3 from ⟨q, z⟩)]
      rw [hx, bs, fg, M_inL (by omega) (by omega) (by omega), bs, ok, b1_f, if_pos (show ((0 : Int32), τ).1 = 0 from rfl)]
      refine ⟨?_, wr⟩
      by_cases y : dgv by' (tS by' t e) (tE by' t e - tS by' t e) < lo
      · rw [if_pos (nI_lt y (by omega))]
      · rw [if_neg (nI_nlt (by omega) (by omega)), if_neg (nI_ge (by
          rw [decide_eq_true (show lo ≤ dgv by' (tS by' t e) (tE by' t e - tS by' t e) by omega), Bool.true_and, decide_eq_false_iff_not] at ok
          omega) (by omega))]
    · have fg : fgv by' (tS by' t e) (tE by' t e - tS by' t e) = 100000 := if_neg z
      have hx : fX7_number σ = some (-1, σ) := by rw [X7_num h', if_neg (fun w => z w.2)]
      rw [hx, bs, fg, M_inL (by omega) (by omega) (by decide), bs, decide_eq_false (show ¬ 100000 ≤ hi by omega), Bool.and_false, b1_f, if_pos (show ((0 : Int32), τ).1 = 0 from rfl)]
      refine ⟨?_, wr⟩
      rw [if_pos (show (-1 : Int32) < nI lo by
        rw [Int32.lt_iff_toInt_lt, nI_toInt (show lo < 2 ^ 31 by omega)]
        have : (-1 : Int32).toInt = -1 := by decide
        omega)]
  · rw [if_neg (show ¬ nI (tK by' t e) = 2 from fun y => q ((nI_eq (b := 2) (by omega) (by decide)).mp y))]
    have hx : fX7_number σ = some (-1, σ) := by rw [X7_num h', if_neg (fun w => q w.1)]
    rw [hx, bs]
    refine ⟨?_, wr⟩
    rw [if_pos (show (-1 : Int32) < nI lo by
      rw [Int32.lt_iff_toInt_lt, nI_toInt (show lo < 2 ^ 31 by omega)]
      have : (-1 : Int32).toInt = -1 := by decide
      omega)]
/-- the cubes between two corners -/
def loB (n a b j : Nat) : Nat := if side n b j < side n a j then side n b j else side n a j
def hiB (n a b j : Nat) : Nat := if side n a j < side n b j then side n b j else side n a j
def inBx (n a b c : Nat) (j : Nat) : Bool := decide (loB n a b j ≤ side n c j) && decide (side n c j ≤ hiB n a b j)
def bxn (n a b : Nat) : Nat → Int64
  | 0 => allL n
  | j + 1 => bxn n a b j &&& (belL n j (hiB n a b j + 1) &&& (belL n j (loB n a b j) ^^^ (-1)))
theorem X0_place {σ : q_M} {k n c a : Nat} (B : Blk σ k n) (hc : c < n * n * n) (ha : a < 3) : fX0_place k (nI c) (nI a) σ = some (nI (side n c a), σ) := by
  have hn := B.1
  have n4 := hn.le
  have h64 := hn.cube
  have hs := side_lt hn hc ha
  unfold fX0_place
  have key := lp_run (fun f (i : Nat) => fX0_place_c5 k (nI c) (nI a) f (nI (if side n c a < i then side n c a else 0)) (nI i) σ) id n (some (nI (side n c a), σ)) ?_ ?_ q_FU (by show _ < 400; omega)
  · exact key
  · intro f i hi
    have hi' : i < n := hi
    show fX0_place_c5b k (nI c) (nI a) (fX0_place_c5 k (nI c) (nI a) f) (nI (if side n c a < i then side n c a else 0)) (nI i) σ = fX0_place_c5 k (nI c) (nI a) f (nI (if side n c a < i + 1 then side n c a else 0)) (nI (i + 1)) σ
    unfold fX0_place_c5b
    rw [B.2.1, if_neg (nI_ge hi' (by omega)), X0_layer B ha (by omega), bs, nI_1]
    by_cases q : side n c a = i
    · rw [if_neg (fun z => by
        have := (tb_has _ (show c < 64 by omega)).mp z
        rw [tb_layL hn, decide_eq_true hc, decide_eq_true q] at this; cases this), if_pos (by omega), q]
    · rw [if_pos ((tb_has _ (show c < 64 by omega)).mpr (by rw [tb_layL hn, decide_eq_false q, Bool.and_false]))]
      by_cases z : side n c a < i
      · rw [if_pos z, if_pos (by omega)]
      · rw [if_neg z, if_neg (by omega)]
  · intro f
    show fX0_place_c5b k (nI c) (nI a) (fX0_place_c5 k (nI c) (nI a) f) (nI (if side n c a < n then side n c a else 0)) (nI n) σ = _
    unfold fX0_place_c5b
    rw [B.2.1, if_pos (nI_le (Nat.le_refl _) (by omega)), if_pos hs]
theorem X0_boxOf {σ : q_M} {k n a b : Nat} (B : Blk σ k n) (ha : a < n * n * n) (hb : b < n * n * n) : fX0_boxOf k (nI a) (nI b) σ = some (bxn n a b 3, σ) := by
  have hn := B.1
  have n4 := hn.le
  unfold fX0_boxOf
  rw [B.2.2.2.1]
  refine lq2 (fX0_boxOf_c8 k (nI a) (nI b)) σ (bxn n a b) 3 _ (by decide) ?_ ?_
  · intro f j hj
    have s1 := side_lt hn ha hj
    have s2 := side_lt hn hb hj
    have hlo : loB n a b j ≤ 4 := by unfold loB; split <;> omega
    have hhi : hiB n a b j + 1 ≤ 4 := by unfold hiB; split <;> omega
    show fX0_boxOf_c8b k (nI a) (nI b) (fX0_boxOf_c8 k (nI a) (nI b) f) (bxn n a b j) (nI j) σ = fX0_boxOf_c8 k (nI a) (nI b) f (bxn n a b j &&& (belL n j (hiB n a b j + 1) &&& (belL n j (loB n a b j) ^^^ (-1)))) (nI (j + 1)) σ
    have e1 : (if nI (side n b j) < nI (side n a j) then nI (side n b j) else nI (side n a j)) = nI (loB n a b j) := by
      unfold loB
      by_cases q : side n b j < side n a j
      · rw [if_pos (nI_lt q (by omega)), if_pos q]
      · rw [if_neg (nI_nlt (by omega) (by omega)), if_neg q]
    have e2 : (if nI (side n a j) < nI (side n b j) then nI (side n b j) else nI (side n a j)) = nI (hiB n a b j) := by
      unfold hiB
      by_cases q : side n a j < side n b j
      · rw [if_pos (nI_lt q (by omega)), if_pos q]
      · rw [if_neg (nI_nlt (by omega) (by omega)), if_neg q]
    unfold fX0_boxOf_c8b
    rw [if_neg (show ¬ (3 : Int32) ≤ nI j from nI_ge (a := j) (b := 3) hj (by decide)), X0_place B ha hj, bs, X0_place B hb hj, bs, ql, X0_place B ha hj, bs, X0_place B hb hj, bs, ql, e1, e2, nI_1, X0_below B hj hhi, bs, X0_below B hj hlo, bs, ql, nI_1]
  · intro f
    show fX0_boxOf_c8b k (nI a) (nI b) (fX0_boxOf_c8 k (nI a) (nI b) f) (bxn n a b 3) (nI 3) σ = _
    unfold fX0_boxOf_c8b
    rw [if_pos (show (3 : Int32) ≤ nI 3 by decide)]
theorem tb_bxn {n : Nat} (hn : Sz n) {a b c : Nat} : ∀ m, (tb (bxn n a b m) c = true ↔ c < n * n * n ∧ ∀ j, j < m → inBx n a b c j = true)
  | 0 => by
    show tb (allL n) c = true ↔ _
    rw [tb_allL hn, decide_eq_true_iff]
    exact ⟨fun h => ⟨h, fun j hj => by omega⟩, fun h => h.1⟩
  | m + 1 => by
    have ih := tb_bxn hn (a := a) (b := b) (c := c) m
    show tb (bxn n a b m &&& dif (belL n m (hiB n a b m + 1)) (belL n m (loB n a b m))) c = true ↔ _
    rw [tb_and, Bool.and_eq_true, ih, tb_dif, tb_belL hn, tb_belL hn, Bool.and_eq_true, decide_eq_true_iff, decide_eq_true_iff]
    constructor
    · rintro ⟨⟨h1, h2⟩, ⟨_, h3⟩, h4⟩
      refine ⟨h1, fun j hj => ?_⟩
      rcases Nat.lt_or_ge j m with z | z
      · exact h2 j z
      · rw [show j = m by omega]
        rw [decide_eq_true h1, Bool.true_and, decide_eq_false_iff_not] at h4
        unfold inBx
        rw [decide_eq_true (show loB n a b m ≤ side n c m by omega), decide_eq_true (show side n c m ≤ hiB n a b m by omega)]
        rfl
    · rintro ⟨h1, h2⟩
      have h3 := h2 m (by omega)
      unfold inBx at h3
      rw [Bool.and_eq_true, decide_eq_true_iff, decide_eq_true_iff] at h3
      refine ⟨⟨h1, fun j hj => h2 j (by omega)⟩, ⟨h1, by omega⟩, ?_⟩
      rw [decide_eq_true h1, Bool.true_and, decide_eq_false_iff_not]
      omega
theorem inB_bxn {n : Nat} (hn : Sz n) {a b m : Nat} : inB n (bxn n a b m) := fun c hc => ((tb_bxn hn m).mp hc).1
theorem M_between {τ : q_M} {n a b : Nat} (h : MN τ n) (ha : a < n * n * n) (hb : b < n * n * n) (e0 : τ.1 13 0 = nI a) (e1 : τ.1 13 1 = nI b) : fX9_between 0 τ = some (bxn n a b 3, τ) := by
  have hn := h.1
  have n4 := hn.le
  have h64 := hn.cube
  let P : Nat → Bool := fun c => inBx n a b c 0 && (inBx n a b c 1 && inBx n a b c 2)
  have eP : mkN P (n * n * n) = bxn n a b 3 := by
    apply tb_ext
    intro c _
    rw [tb_mkN _ _ h64, Bool.eq_iff_iff, tb_bxn hn, Bool.and_eq_true, decide_eq_true_iff]
    show c < n * n * n ∧ (inBx n a b c 0 && (inBx n a b c 1 && inBx n a b c 2)) = true ↔ _
    rw [Bool.and_eq_true, Bool.and_eq_true]
    constructor
    · rintro ⟨h1, h2, h3, h4⟩
      refine ⟨h1, fun j hj => ?_⟩
      rcases (show j = 0 ∨ j = 1 ∨ j = 2 by omega) with rfl | rfl | rfl
      · exact h2
      · exact h3
      · exact h4
    · rintro ⟨h1, h2⟩
      exact ⟨h1, h2 0 (by decide), h2 1 (by decide), h2 2 (by decide)⟩
  have st : ∀ rec4 f v1 c v j, c < n * n * n → j < 3 → fX9_between_c18 0 rec4 (f + 1) v1 (nI c) (b1 v) (nI j) τ = fX9_between_c18 0 rec4 f v1 (nI c) (b1 (v && inBx n a b c j)) (nI (j + 1)) τ := by
    intro rec4 f v1 c v j hc hj
    have s1 := side_lt hn ha hj
    have s2 := side_lt hn hb hj
    have s3 := side_lt hn hc hj
    have c78 : ∀ lo hi, lo < 2 ^ 31 → hi < 2 ^ 31 → ((fX9_in (nI (side n c j)).toInt64 (nI lo).toInt64 (nI hi).toInt64 τ).bind fun o2 => fX9_between_c18 0 rec4 f v1 (nI c) (b1 v &&& o2.1) (nI j + 1) o2.2) = fX9_between_c18 0 rec4 f v1 (nI c) (b1 (v && (decide (lo ≤ side n c j) && decide (side n c j ≤ hi)))) (nI (j + 1)) τ := by
      intro lo hi hlo hhi
      rw [nI_l (show side n c j < 2 ^ 31 by omega), M_inL hlo hhi (by omega), bs, nI_1]
      show fX9_between_c18 0 rec4 f v1 (nI c) (b1 v &&& b1 (decide (lo ≤ side n c j) && decide (side n c j ≤ hi))) (nI (j + 1)) τ = _
      rw [(by decide : ∀ x y : Bool, b1 x &&& b1 y = b1 (x && y))]
    show fX9_between_c18b 0 rec4 (fX9_between_c18 0 rec4 f) v1 (nI c) (b1 v) (nI j) τ = _
    unfold fX9_between_c18b
    rw [if_neg (show ¬ (3 : Int32) ≤ nI j from nI_ge (a := j) (b := 3) hj (by decide)), if_pos (by decide), show τ.1 (0 + 13) (Int32.toNatClampNeg 0) = nI a from e0, M_side h (by omega) hj, bs, if_pos (by decide), show τ.1 (0 + 13) (Int32.toNatClampNeg 1) = nI b from e1, M_side h (by omega) hj, bs, M_side h (by omega) hj, bs]
    unfold fX9_between_c78 inBx loB hiB
    by_cases q : side n b j ≤ side n a j
    · have w : nI (side n b j) ≤ nI (side n a j) := nI_le q (by omega)
      rw [if_pos w, if_pos w, c78 _ _ (by omega) (by omega)]
      by_cases z : side n b j < side n a j
      · rw [if_pos z, if_neg (show ¬ side n a j < side n b j by omega)]
      · rw [if_neg z, if_neg (show ¬ side n a j < side n b j by omega), show side n b j = side n a j by omega]
    · have w : ¬ nI (side n b j) ≤ nI (side n a j) := nI_ge (by omega) (by omega)
      rw [if_neg w, if_neg w, c78 _ _ (by omega) (by omega), if_neg (show ¬ side n b j < side n a j by omega), if_pos (show side n a j < side n b j by omega)]
  have c18 : ∀ rec4 v1 c, c < n * n * n → fX9_between_c18 0 rec4 q_FU v1 (nI c) 1 0 τ = if P c then rec4 (v1 ||| q_shl 1 (nI c)) (nI (c + 1)) τ else rec4 v1 (nI (c + 1)) τ := by
    intro rec4 v1 c hc
    have x0 : fX9_between_c18 0 rec4 q_FU v1 (nI c) 1 0 τ = _ := st rec4 399 v1 c true 0 hc (by decide)
    rw [x0, st rec4 398 v1 c _ 1 hc (by decide), st rec4 397 v1 c _ 2 hc (by decide)]
    show fX9_between_c18b 0 rec4 (fX9_between_c18 0 rec4 396) v1 (nI c) _ (nI 3) τ = _
    unfold fX9_between_c18b
    rw [if_pos (show (3 : Int32) ≤ nI 3 by decide), or0, ql, nI_1]
    show (if b1 (true && inBx n a b c 0 && inBx n a b c 1 && inBx n a b c 2) = 0 then _ else _) = if (inBx n a b c 0 && (inBx n a b c 1 && inBx n a b c 2)) then _ else _
    cases inBx n a b c 0 <;> cases inBx n a b c 1 <;> cases inBx n a b c 2 <;> rfl
  unfold fX9_between
  rw [← eP]
  refine lq2 (fX9_between_c4 0) τ (mkN P) (n * n * n) _ (by omega) ?_ ?_
  · intro f c hc
    show fX9_between_c4b 0 (fX9_between_c4 0 f) (mkN P c) (nI c) τ = _
    unfold fX9_between_c4b
    rw [M_many h, bs, if_neg (nI_ge hc (by omega)), c18 _ _ c hc]
    cases q : P c with
    | true => rw [if_pos rfl, mkN_t q]
    | false => rw [if_neg (by decide), mkN_f q]
  · intro f
    show fX9_between_c4b 0 (fX9_between_c4 0 f) (mkN P (n * n * n)) (nI (n * n * n)) τ = _
    unfold fX9_between_c4b
    rw [M_many h, bs, if_pos (nI_le (Nat.le_refl _) (by omega))]
