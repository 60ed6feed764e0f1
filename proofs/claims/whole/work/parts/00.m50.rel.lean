/-! What the two worlds have in common. -/
def isI (x : Int32) (p : Nat) : Bool := !decide (x < 0) && !decide (nI p ≤ x)
theorem isI_y {j p : Nat} (h : j < p) (hp : p < 2 ^ 31) : isI (nI j) p = true := by
  unfold isI
  rw [decide_eq_false (nI_pos (by omega)), decide_eq_false (nI_ge h hp)]
  rfl
theorem isI_n {x : Int32} {p : Nat} (h : x < 0 ∨ nI p ≤ x) : isI x p = false := by
  unfold isI
  rcases h with h | h
  · rw [decide_eq_true h]; rfl
  · rw [decide_eq_true h]; simp
theorem isI_c (x : Int32) {p : Nat} (hp : p < 2 ^ 31) : isI x p = false ∨ ∃ j, j < p ∧ x = nI j := by
  rcases pk_ix x hp with h | h | h
  · exact Or.inl (isI_n (Or.inl h))
  · exact Or.inl (isI_n (Or.inr h))
  · exact Or.inr h
theorem X_isI {x : Int32} {p : Nat} {q : Int32} (hq : q = nI p) (σ : q_M) : (if x < 0 then some ((0 : Int32), σ) else if q ≤ x then some ((0 : Int32), σ) else some ((1 : Int32), σ)) = some (b1 (isI x p), σ) := by
  unfold isI
  by_cases h : x < 0
  · rw [if_pos h, decide_eq_true h]; rfl
  · rw [if_neg h, decide_eq_false h, hq]
    by_cases z : nI p ≤ x
    · rw [if_pos z, decide_eq_true z]; rfl
    · rw [if_neg z, decide_eq_false z]; rfl
theorem X8_isShelf (x : Int32) (σ : q_M) : fX8_isShelf x σ = some (b1 (isI x 8), σ) := X_isI rfl σ
theorem X8_isWay (x : Int32) (σ : q_M) : fX8_isWay x σ = some (b1 (isI x 6), σ) := X_isI rfl σ
theorem X8_isAxis (x : Int32) (σ : q_M) : fX8_isAxis x σ = some (b1 (isI x 3), σ) := X_isI rfl σ
theorem X8_isWaySet (x : Int32) (σ : q_M) : fX8_isWaySet x σ = some (b1 (isI x 64), σ) := X_isI rfl σ
theorem X8_isPiece {σ : q_M} {p : Nat} (h : σ.1 1 2 = nI p) (x : Int32) : fX8_isPiece x σ = some (b1 (isI x p), σ) := X_isI h σ
theorem l_lt {x : Int32} {a : Nat} (ha : a < 2 ^ 31) : x.toInt64 < lN a ↔ x < nI a := by
  rw [Int64.lt_iff_toInt_lt, Int32.lt_iff_toInt_lt, Int32.toInt_toInt64, pk_lT (by omega), nI_toInt ha]
theorem l_le {x : Int32} {a : Nat} (ha : a < 2 ^ 31) : x.toInt64 ≤ lN a ↔ x ≤ nI a := by
  rw [Int64.le_iff_toInt_le, Int32.le_iff_toInt_le, Int32.toInt_toInt64, pk_lT (by omega), nI_toInt ha]
theorem i_le {x : Int32} {a : Nat} (ha : a + 1 < 2 ^ 31) : x ≤ nI a ↔ ¬ nI (a + 1) ≤ x := by
  rw [Int32.le_iff_toInt_le, Int32.le_iff_toInt_le, nI_toInt (show a < 2 ^ 31 by omega), nI_toInt ha]
  omega
theorem M_inG {a m : Nat} (ha : a < 2 ^ 31) (hm : m < 2 ^ 31) (x : Int32) (τ : q_M) : fX9_in x.toInt64 (lN a) (lN m) τ = some (b1 (!decide (x < nI a) && decide (x ≤ nI m)), τ) := by
  unfold fX9_in
  by_cases h : x < nI a
  · rw [if_pos ((l_lt ha).mpr h), decide_eq_true h]; rfl
  · rw [if_neg (fun z => h ((l_lt ha).mp z)), decide_eq_false h]
    by_cases z : x ≤ nI m
    · rw [if_pos ((l_le hm).mpr z), decide_eq_true z]; rfl
    · rw [if_neg (fun y => z ((l_le hm).mp y)), decide_eq_false z]; rfl
theorem M_in0 {m : Nat} (hm : m + 1 < 2 ^ 31) (x : Int32) (τ : q_M) : fX9_in x.toInt64 (0 : Int64) (lN m) τ = some (b1 (isI x (m + 1)), τ) := by
  have h := M_inG (a := 0) (m := m) (by decide) (by omega) x τ
  have e : (!decide (x < nI 0) && decide (x ≤ nI m)) = isI x (m + 1) := by
    unfold isI
    congr 1
    by_cases z : x ≤ nI m
    · rw [decide_eq_true z, decide_eq_false ((i_le hm).mp z)]; rfl
    · rw [decide_eq_false z, decide_eq_true (Classical.byContradiction fun y => z ((i_le hm).mpr y))]; rfl
  rw [e] at h
  exact h
theorem nI_l1 : ∀ p, p < 65 → (nI p - 1).toInt64 = (if p = 0 then (-1 : Int64) else lN (p - 1)) := by decide +kernel
theorem M_inP {p : Nat} (hp : p ≤ 64) (x : Int32) (τ : q_M) : fX9_in x.toInt64 (0 : Int64) ((nI p - 1).toInt64) τ = some (b1 (isI x p), τ) := by
  rw [nI_l1 p (by omega)]
  by_cases h : p = 0
  · subst h
    rw [if_pos rfl]
    unfold fX9_in
    have e : isI x 0 = false := by
      unfold isI
      by_cases z : x < 0
      · rw [decide_eq_true z]; rfl
      · have : nI 0 ≤ x := by
          rw [Int32.le_iff_toInt_le]
          rw [Int32.lt_iff_toInt_lt] at z
          exact Int.not_lt.mp z
        rw [decide_eq_true this]; simp
    rw [e]
    by_cases z : x.toInt64 < 0
    · rw [if_pos z]; rfl
    · rw [if_neg z, if_neg (fun y => by
        rw [Int64.lt_iff_toInt_lt] at z
        rw [Int64.le_iff_toInt_le] at y
        have h1 : (0 : Int64).toInt = 0 := by decide
        have h2 : (-1 : Int64).toInt = -1 := by decide
        omega)]
      rfl
  · rw [if_neg h]
    have := M_in0 (m := p - 1) (by omega) x τ
    rw [show p - 1 + 1 = p by omega] at this
    exact this
theorem M_in7 (x : Int32) (τ : q_M) : fX9_in x.toInt64 (0 : Int64) (7 : Int64) τ = some (b1 (isI x 8), τ) := M_in0 (m := 7) (by decide) x τ
theorem M_in2 (x : Int32) (τ : q_M) : fX9_in x.toInt64 (0 : Int64) (2 : Int64) τ = some (b1 (isI x 3), τ) := M_in0 (m := 2) (by decide) x τ
theorem M_in5 (x : Int32) (τ : q_M) : fX9_in x.toInt64 (0 : Int64) (5 : Int64) τ = some (b1 (isI x 6), τ) := M_in0 (m := 5) (by decide) x τ
theorem M_in4 (x : Int32) (τ : q_M) : fX9_in x.toInt64 (0 : Int64) (4 : Int64) τ = some (b1 (isI x 5), τ) := M_in0 (m := 4) (by decide) x τ
theorem M_in40 (x : Int32) (τ : q_M) : fX9_in x.toInt64 (0 : Int64) (40 : Int64) τ = some (b1 (isI x 41), τ) := M_in0 (m := 40) (by decide) x τ
theorem M_in9 (x : Int32) (τ : q_M) : fX9_in x.toInt64 (0 : Int64) (9 : Int64) τ = some (b1 (isI x 10), τ) := M_in0 (m := 9) (by decide) x τ
theorem M_in1 (x : Int32) (τ : q_M) : fX9_in x.toInt64 (0 : Int64) (1 : Int64) τ = some (b1 (isI x 2), τ) := M_in0 (m := 1) (by decide) x τ
theorem M_in63 (x : Int32) (τ : q_M) : fX9_in x.toInt64 (0 : Int64) (63 : Int64) τ = some (b1 (isI x 64), τ) := M_in0 (m := 63) (by decide) x τ
theorem b1_01 (b : Bool) : b1 b = 0 ∨ b1 b = 1 := by cases b <;> decide
theorem M_isPiece {τ : q_M} {p : Nat} (h : τ.1 0 13 = nI p) (hp : p ≤ 8) (x : Int32) : fX9_isPiece 0 x τ = some (b1 (isI x p), τ) := by
  unfold fX9_isPiece
  rw [h, M_inP (by omega), bs, if_pos (b1_01 _)]
theorem M_isCube {τ : q_M} {n : Nat} (h : MN τ n) (x : Int32) : fX9_isCube 0 x τ = some (b1 (isI x (n * n * n)), τ) := by
  unfold fX9_isCube
  rw [M_many h, bs, M_inP h.1.cube, bs, if_pos (b1_01 _)]
theorem M_block {τ : q_M} {n : Nat} (h : MN τ n) : fX9_block 0 τ = some (allL n, τ) := by
  unfold fX9_block
  rw [h.2, M_many h, bs]
  rcases h.1 with rfl | rfl | rfl
  · rw [if_neg (show ¬ nI 2 = 4 by decide), show q_shl 1 (nI (2 * 2 * 2)) - 1 = allL 2 by decide +kernel]
  · rw [if_neg (show ¬ nI 3 = 4 by decide), show q_shl 1 (nI (3 * 3 * 3)) - 1 = allL 3 by decide +kernel]
  · rw [if_pos (show nI 4 = 4 by decide), show (-1 : Int64) = allL 4 by decide +kernel]
/-! Agreement of memories -/
def ag (P : Nat → Nat → Prop) (σ σ' : q_M) : Prop := ∀ k j, P k j → σ'.1 k j = σ.1 k j ∧ σ'.2 k j = σ.2 k j
theorem ag_rf (P : Nat → Nat → Prop) (σ : q_M) : ag P σ σ := fun _ _ _ => ⟨rfl, rfl⟩
theorem ag_tr {P : Nat → Nat → Prop} {σ σ' σ'' : q_M} (h1 : ag P σ σ') (h2 : ag P σ' σ'') : ag P σ σ'' := fun k j h => ⟨(h2 k j h).1.trans (h1 k j h).1, (h2 k j h).2.trans (h1 k j h).2⟩
theorem ag_I {P : Nat → Nat → Prop} {σ : q_M} {a b : Nat} {v : Int32} (h : ¬ P a b) : ag P σ (q_I σ a b v) := fun k j hp => ⟨if_neg (fun z => by
  obtain ⟨rfl, rfl⟩ := z
  exact h hp), rfl⟩
theorem ag_L {P : Nat → Nat → Prop} {σ : q_M} {a b : Nat} {v : Int64} (h : ¬ P a b) : ag P σ (q_L σ a b v) := fun k j hp => ⟨rfl, if_neg (fun z => by
  obtain ⟨rfl, rfl⟩ := z
  exact h hp)⟩
theorem ag_sub {P Q : Nat → Nat → Prop} {σ σ' : q_M} (h : ag P σ σ') (hs : ∀ k j, Q k j → P k j) : ag Q σ σ' := fun k j hq => h k j (hs k j hq)
theorem I_at {σ : q_M} {a b : Nat} {v : Int32} : (q_I σ a b v).1 a b = v := if_pos ⟨rfl, rfl⟩
theorem I_of {σ : q_M} {a b k j : Nat} {v : Int32} (h : ¬ (k = a ∧ j = b)) : (q_I σ a b v).1 k j = σ.1 k j := if_neg h
theorem I_2 {σ : q_M} {a b : Nat} {v : Int32} : (q_I σ a b v).2 = σ.2 := rfl
theorem L_at {σ : q_M} {a b : Nat} {v : Int64} : (q_L σ a b v).2 a b = v := if_pos ⟨rfl, rfl⟩
theorem L_of {σ : q_M} {a b k j : Nat} {v : Int64} (h : ¬ (k = a ∧ j = b)) : (q_L σ a b v).2 k j = σ.2 k j := if_neg h
theorem L_1 {σ : q_M} {a b : Nat} {v : Int64} : (q_L σ a b v).1 = σ.1 := rfl
theorem Blk_fr {σ σ' : q_M} {k n : Nat} (B : Blk σ k n) (h : ag (fun c _ => k ≤ c ∧ c ≤ k + 3) σ σ') : Blk σ' k n := by
  obtain ⟨b1, b2, b3, b4, b5, b6, b7⟩ := B
  refine ⟨b1, ?_, ?_, ?_, ?_, ?_, ?_⟩
  · rw [(h k 0 ⟨by omega, by omega⟩).1, b2]
  · rw [(h k 1 ⟨by omega, by omega⟩).1, b3]
  · rw [(h k 2 ⟨by omega, by omega⟩).2, b4]
  · intro a ha
    rw [(h (k + 1) a ⟨by omega, by omega⟩).1, b5 a ha]
  · intro a i ha hi
    rw [(h (k + 2) (4 * a + i) ⟨by omega, by omega⟩).2, b6 a i ha hi]
  · intro w hw
    rw [(h (k + 3) w ⟨by omega, by omega⟩).2, b7 w hw]
/-- a mould here and there: size, pieces, which are off -/
def RM (σ : q_M) (k : Nat) (τ : q_M) (b n p o : Nat) : Prop :=
  Blk σ (k + 1) n ∧ τ.1 b 11 = nI n ∧ σ.2 k 1 = τ.2 b 12 ∧ inB n (τ.2 b 12) ∧ p ≤ 8 ∧ σ.1 k 2 = nI p ∧ τ.1 b 13 = nI p ∧ o < 2 ^ p ∧ σ.1 k 3 = nI o ∧ τ.1 b 15 = nI o ∧
  (∀ i, i < p → σ.2 (k + 5) i = τ.2 (b + 11) i ∧ inB n (τ.2 (b + 11) i)) ∧
  (∃ v, 1 ≤ v ∧ v ≤ 64 ∧ σ.1 k 4 = nI v ∧ τ.1 b 17 = nI v) ∧ (∃ v, 1 ≤ v ∧ v ≤ 999 ∧ σ.1 k 5 = nI v ∧ τ.1 b 18 = nI v) ∧
  (∀ i, i < 4 → inB n (σ.2 (k + 6) i)) ∧
  (∀ c, c < n * n * n → ∃ v, v ≤ 9 ∧ τ.1 (b + 12) c = nI v ∧ ∀ i, i < 4 → tb (σ.2 (k + 6) i) c = v.testBit i)
def pX (k : Nat) : Nat → Nat → Prop := fun c _ => k ≤ c ∧ c ≤ k + 6
def pM (b : Nat) : Nat → Nat → Prop := fun c j => (c = b ∧ (j = 11 ∨ j = 12 ∨ j = 13 ∨ j = 15 ∨ j = 17 ∨ j = 18)) ∨ c = b + 11 ∨ c = b + 12
theorem RM_fr {σ σ' τ τ' : q_M} {k b n p o : Nat} (h : RM σ k τ b n p o) (hX : ag (pX k) σ σ') (hM : ag (pM b) τ τ') : RM σ' k τ' b n p o := by
  obtain ⟨h1, h2, h3, h4, h5, h6, h7, h8, h9, h10, h11, ⟨v, v1, v2, v3, v4⟩, ⟨w, w1, w2, w3, w4⟩, h14, h15⟩ := h
  have X := fun c j (hc : k ≤ c ∧ c ≤ k + 6) => hX c j hc
  have m11 := (hM b 11 (Or.inl ⟨rfl, by omega⟩)).1
  have m12 := (hM b 12 (Or.inl ⟨rfl, by omega⟩)).2
  have m13 := (hM b 13 (Or.inl ⟨rfl, by omega⟩)).1
  have m15 := (hM b 15 (Or.inl ⟨rfl, by omega⟩)).1
  have m17 := (hM b 17 (Or.inl ⟨rfl, by omega⟩)).1
  have m18 := (hM b 18 (Or.inl ⟨rfl, by omega⟩)).1
  have mP := fun j => (hM (b + 11) j (Or.inr (Or.inl rfl))).2
  have mS := fun j => (hM (b + 12) j (Or.inr (Or.inr rfl))).1
  refine ⟨Blk_fr h1 (fun c j hc => by
      have hc' : k + 1 ≤ c ∧ c ≤ k + 1 + 3 := hc
      exact X c j ⟨by omega, by omega⟩), ?_, ?_, ?_, h5, ?_, ?_, h8, ?_, ?_, ?_, ⟨v, v1, v2, ?_, ?_⟩, ⟨w, w1, w2, ?_, ?_⟩, ?_, ?_⟩
  · rw [m11, h2]
  · rw [(X k 1 (by omega)).2, m12, h3]
  · rw [m12]; exact h4
  · rw [(X k 2 (by omega)).1, h6]
  · rw [m13, h7]
  · rw [(X k 3 (by omega)).1, h9]
  · rw [m15, h10]
  · intro i hi
    rw [(X (k + 5) i (by omega)).2, mP i]
    exact h11 i hi
  · rw [(X k 4 (by omega)).1, v3]
  · rw [m17, v4]
  · rw [(X k 5 (by omega)).1, w3]
  · rw [m18, w4]
  · intro i hi
    rw [(X (k + 6) i (by omega)).2]
    exact h14 i hi
  · intro c hc
    obtain ⟨u, u1, u2, u3⟩ := h15 c hc
    refine ⟨u, u1, by rw [mS c, u2], fun i hi => ?_⟩
    rw [(X (k + 6) i (by omega)).2]
    exact u3 i hi
/-- a shelf here and there -/
def RS1 (σ τ : q_M) (s : Nat) : Prop :=
  (σ.1 (31 + 4 * s) 0 = -1 ∧ τ.1 1 s = 0) ∨
  (∃ so m, so ≤ 4 ∧ m ≤ 40 ∧ σ.1 (31 + 4 * s) 0 = nI so ∧ τ.1 1 s = 1 ∧ τ.1 2 s = nI so ∧ τ.1 3 s = nI m ∧ σ.1 (32 + 4 * s) 0 = nI so ∧ σ.1 (32 + 4 * s) 1 = nI m ∧ ∀ i, i < 40 → σ.2 (33 + 4 * s) i = τ.2 (21 + s) i) ∨
  (∃ kd a b, Mvk kd a b ∧ σ.1 (31 + 4 * s) 0 = nI (10 + kd) ∧ τ.1 1 s = 2 ∧ τ.1 6 s = nI kd ∧ τ.1 7 s = nI a ∧ τ.1 8 s = nI b ∧ σ.1 (34 + 4 * s) 0 = nI kd ∧ σ.1 (34 + 4 * s) 1 = nI a ∧ σ.1 (34 + 4 * s) 2 = nI b)
def pS (s : Nat) : Nat → Nat → Prop := fun c _ => 31 + 4 * s ≤ c ∧ c ≤ 34 + 4 * s
def pT (s : Nat) : Nat → Nat → Prop := fun c j => ((c = 1 ∨ c = 2 ∨ c = 3 ∨ c = 6 ∨ c = 7 ∨ c = 8) ∧ j = s) ∨ c = 21 + s
theorem RS1_fr {σ σ' τ τ' : q_M} {s : Nat} (h : RS1 σ τ s) (hX : ag (pS s) σ σ') (hM : ag (pT s) τ τ') : RS1 σ' τ' s := by
  have X := fun c j (hc : 31 + 4 * s ≤ c ∧ c ≤ 34 + 4 * s) => hX c j hc
  have M1 := (hM 1 s (Or.inl ⟨by omega, rfl⟩)).1
  have M2 := (hM 2 s (Or.inl ⟨by omega, rfl⟩)).1
  have M3 := (hM 3 s (Or.inl ⟨by omega, rfl⟩)).1
  have M6 := (hM 6 s (Or.inl ⟨by omega, rfl⟩)).1
  have M7 := (hM 7 s (Or.inl ⟨by omega, rfl⟩)).1
  have M8 := (hM 8 s (Or.inl ⟨by omega, rfl⟩)).1
  have MR := fun j => (hM (21 + s) j (Or.inr rfl)).2
  unfold RS1
  rw [(X (31 + 4 * s) 0 (by omega)).1, (X (32 + 4 * s) 0 (by omega)).1, (X (32 + 4 * s) 1 (by omega)).1, (X (34 + 4 * s) 0 (by omega)).1, (X (34 + 4 * s) 1 (by omega)).1, (X (34 + 4 * s) 2 (by omega)).1, M1, M2, M3, M6, M7, M8]
  rcases h with h | ⟨so, m, h1, h2, h3, h4, h5, h6, h7, h8, h9⟩ | h
  · exact Or.inl h
  · refine Or.inr (Or.inl ⟨so, m, h1, h2, h3, h4, h5, h6, h7, h8, fun i hi => ?_⟩)
    rw [(X (33 + 4 * s) i (by omega)).2, MR i]
    exact h9 i hi
  · exact Or.inr (Or.inr h)
def RSh (σ τ : q_M) : Prop := ∀ s, s < 8 → RS1 σ τ s
def RRf (σ τ : q_M) : Prop := ∀ i, i < 5 → σ.1 28 i = τ.1 10 (i + 2)
def RTp (σ τ : q_M) (t : Nat) : Prop := t ≤ 250 ∧ σ.1 23 0 = nI t ∧ τ.1 0 9 = nI t ∧ ∀ i, i < t → ∃ b, b < 256 ∧ σ.1 24 i = nI b ∧ τ.1 9 i = nI b
/-- the reference's other objects: the kept one, the one ahead -/
def RSt (τ : q_M) (N K A : Nat) : Prop := τ.1 0 19 = nI K ∧ τ.1 0 27 = nI A ∧ (K = 0 ∨ (K % 29 = 0 ∧ K + 29 ≤ N)) ∧ (A = 0 ∨ (A % 29 = 0 ∧ A + 29 ≤ N)) ∧ (K ≠ 0 → K ≠ A) ∧ N = 29 + (if K = 0 then 0 else 29) + (if A = 0 then 0 else 29) ∧ (∀ k, k < N → k % 29 = 0 → k ≠ 0 → τ.1 k 19 = 0 ∧ τ.1 k 27 = 0)
def RKp (σ τ : q_M) (K : Nat) : Prop := (K = 0 ∧ σ.1 0 3 = 0) ∨ (K ≠ 0 ∧ ¬ σ.1 0 3 = 0 ∧ ∃ n p o, RM σ 8 τ K n p o)
def Rel (σ τ : q_M) (N K A n p o t : Nat) : Prop := RSt τ N K A ∧ RM σ 1 τ 0 n p o ∧ (∃ m, Blk σ 9 m) ∧ (∃ m, Blk σ 16 m) ∧ RKp σ τ K ∧ RSh σ τ ∧ RRf σ τ ∧ RTp σ τ t
def RR (σ τ : q_M) (N : Nat) : Prop := ∃ K A n p o t, Rel σ τ N K A n p o t
/-- what may change without being seen -/
def sX1 : Nat → Nat → Prop := fun c j => ¬ ((25 ≤ c ∧ c ≤ 27) ∨ c = 29 ∨ c = 30 ∨ (c = 0 ∧ (j = 10 ∨ j = 11)) ∨ (c = 23 ∧ 1 ≤ j))
def sM1 : Nat → Nat → Prop := fun c j => ¬ (c = 5 ∨ (13 ≤ c ∧ c ≤ 20) ∨ (c = 0 ∧ (j = 20 ∨ j = 21 ∨ j = 22 ∨ j = 23 ∨ j = 24 ∨ j = 26 ∨ j = 28 ∨ j = 31)))
theorem RSt_fr {τ τ' : q_M} {N K A : Nat} (h : RSt τ N K A) (hM : ag (fun c j => c % 29 = 0 ∧ (j = 19 ∨ j = 27)) τ τ') : RSt τ' N K A := by
  obtain ⟨h1, h2, h3, h4, h5, h6, h7⟩ := h
  refine ⟨?_, ?_, h3, h4, h5, h6, fun k hk hk2 hk3 => ?_⟩
  · rw [(hM 0 19 ⟨rfl, by omega⟩).1, h1]
  · rw [(hM 0 27 ⟨rfl, by omega⟩).1, h2]
  · rw [(hM k 19 ⟨hk2, by omega⟩).1, (hM k 27 ⟨hk2, by omega⟩).1]
    exact h7 k hk hk2 hk3
theorem RKp_fr {σ σ' τ τ' : q_M} {K : Nat} (h : RKp σ τ K) (hX : ag (fun c j => (8 ≤ c ∧ c ≤ 14) ∨ (c = 0 ∧ j = 3)) σ σ') (hM : K ≠ 0 → ag (pM K) τ τ') : RKp σ' τ' K := by
  have e3 := (hX 0 3 (Or.inr ⟨rfl, rfl⟩)).1
  unfold RKp
  rw [e3]
  rcases h with h | ⟨h1, h2, n, p, o, h3⟩
  · exact Or.inl h
  · exact Or.inr ⟨h1, h2, n, p, o, RM_fr h3 (fun c j hc => hX c j (Or.inl ⟨hc.1, hc.2⟩)) (hM h1)⟩
theorem RTp_fr {σ σ' τ τ' : q_M} {t : Nat} (h : RTp σ τ t) (hX : ag (fun c j => (c = 23 ∧ j = 0) ∨ c = 24) σ σ') (hM : ag (fun c j => (c = 0 ∧ j = 9) ∨ c = 9) τ τ') : RTp σ' τ' t := by
  obtain ⟨h1, h2, h3, h4⟩ := h
  refine ⟨h1, ?_, ?_, fun i hi => ?_⟩
  · rw [(hX 23 0 (Or.inl ⟨rfl, rfl⟩)).1, h2]
  · rw [(hM 0 9 (Or.inl ⟨rfl, rfl⟩)).1, h3]
  · obtain ⟨b, b1, b2, b3⟩ := h4 i hi
    exact ⟨b, b1, by rw [(hX 24 i (Or.inr rfl)).1, b2], by rw [(hM 9 i (Or.inr rfl)).1, b3]⟩
theorem RRf_fr {σ σ' τ τ' : q_M} (h : RRf σ τ) (hX : ag (fun c _ => c = 28) σ σ') (hM : ag (fun c _ => c = 10) τ τ') : RRf σ' τ' := fun i hi => by
  rw [(hX 28 i rfl).1, (hM 10 (i + 2) rfl).1]
  exact h i hi
theorem RSh_fr {σ σ' τ τ' : q_M} (h : RSh σ τ) (hX : ag (fun c _ => 31 ≤ c) σ σ') (hM : ag (fun c _ => c = 1 ∨ c = 2 ∨ c = 3 ∨ c = 6 ∨ c = 7 ∨ c = 8 ∨ (21 ≤ c ∧ c ≤ 28)) τ τ') : RSh σ' τ' := fun s hs => by
  refine RS1_fr (h s hs) (fun c j hc => hX c j ?_) (fun c j hc => hM c j ?_)
  · have := hc.1
    show 31 ≤ c
    omega
  · rcases hc with ⟨h, _⟩ | h
    · show c = 1 ∨ c = 2 ∨ c = 3 ∨ c = 6 ∨ c = 7 ∨ c = 8 ∨ (21 ≤ c ∧ c ≤ 28)
      omega
    · show c = 1 ∨ c = 2 ∨ c = 3 ∨ c = 6 ∨ c = 7 ∨ c = 8 ∨ (21 ≤ c ∧ c ≤ 28)
      omega
/-- the mould that is now, changed alike -/
def cX (c j : Nat) : Prop := sX1 c j ∧ ¬ (1 ≤ c ∧ c ≤ 7)
def cM (c j : Nat) : Prop := sM1 c j ∧ ¬ ((c = 0 ∧ (j = 11 ∨ j = 12 ∨ j = 13 ∨ j = 15 ∨ j = 17 ∨ j = 18)) ∨ c = 11 ∨ c = 12)
theorem K29 {N K A : Nat} {τ : q_M} (h : RSt τ N K A) (hK : K ≠ 0) : 29 ≤ K := by
  rcases h.2.2.1 with z | z
  · exact absurd z hK
  · omega
theorem Rel_mo {σ σ' τ τ' : q_M} {N K A n p o t n' p' o' : Nat} (h : Rel σ τ N K A n p o t) (hX : ag cX σ σ') (hM : ag cM τ τ') (hm : RM σ' 1 τ' 0 n' p' o') : Rel σ' τ' N K A n' p' o' t := by
  obtain ⟨h1, h2, ⟨m3, h3⟩, ⟨m4, h4⟩, h5, h6, h7, h8⟩ := h
  refine ⟨RSt_fr h1 (fun c j hc => hM c j ?_), hm, ⟨m3, Blk_fr h3 (fun c j hc => hX c j ?_)⟩, ⟨m4, Blk_fr h4 (fun c j hc => hX c j ?_)⟩, RKp_fr h5 (fun c j hc => hX c j ?_) (fun hK => fun c j hc => hM c j ?_), RSh_fr h6 (fun c j hc => hX c j ?_) (fun c j hc => hM c j ?_), RRf_fr h7 (fun c j hc => hX c j ?_) (fun c j hc => hM c j ?_), RTp_fr h8 (fun c j hc => hX c j ?_) (fun c j hc => hM c j ?_)⟩
  · have hc' : c % 29 = 0 ∧ (j = 19 ∨ j = 27) := hc
    unfold cM sM1
    omega
  · have hc' : 9 ≤ c ∧ c ≤ 9 + 3 := hc
    unfold cX sX1
    omega
  · have hc' : 16 ≤ c ∧ c ≤ 16 + 3 := hc
    unfold cX sX1
    omega
  · have hc' : (8 ≤ c ∧ c ≤ 14) ∨ (c = 0 ∧ j = 3) := hc
    unfold cX sX1
    omega
  · have hc' : (c = K ∧ (j = 11 ∨ j = 12 ∨ j = 13 ∨ j = 15 ∨ j = 17 ∨ j = 18)) ∨ c = K + 11 ∨ c = K + 12 := hc
    have := K29 h1 hK
    unfold cM sM1
    omega
  · have hc' : 31 ≤ c := hc
    unfold cX sX1
    omega
  · have hc' : c = 1 ∨ c = 2 ∨ c = 3 ∨ c = 6 ∨ c = 7 ∨ c = 8 ∨ (21 ≤ c ∧ c ≤ 28) := hc
    unfold cM sM1
    omega
  · have hc' : c = 28 := hc
    unfold cX sX1
    omega
  · have hc' : c = 10 := hc
    unfold cM sM1
    omega
  · have hc' : (c = 23 ∧ j = 0) ∨ c = 24 := hc
    unfold cX sX1
    omega
  · have hc' : (c = 0 ∧ j = 9) ∨ c = 9 := hc
    unfold cM sM1
    omega
/-- nothing that counts changed -/
theorem Rel_sc {σ σ' τ τ' : q_M} {N K A n p o t : Nat} (h : Rel σ τ N K A n p o t) (hX : ag sX1 σ σ') (hM : ag sM1 τ τ') : Rel σ' τ' N K A n p o t := by
  refine Rel_mo h (fun c j hc => hX c j hc.1) (fun c j hc => hM c j hc.1) (RM_fr h.2.1 (fun c j hc => hX c j ?_) (fun c j hc => hM c j ?_))
  · have hc' : 1 ≤ c ∧ c ≤ 1 + 6 := hc
    unfold sX1
    omega
  · have hc' : (c = 0 ∧ (j = 11 ∨ j = 12 ∨ j = 13 ∨ j = 15 ∨ j = 17 ∨ j = 18)) ∨ c = 0 + 11 ∨ c = 0 + 12 := hc
    unfold sM1
    omega
theorem RR_sc {σ σ' τ τ' : q_M} {N : Nat} (h : RR σ τ N) (hX : ag sX1 σ σ') (hM : ag sM1 τ τ') : RR σ' τ' N := by
  obtain ⟨K, A, n, p, o, t, h⟩ := h
  exact ⟨K, A, n, p, o, t, Rel_sc h hX hM⟩
/-- refusing -/
def rfX (σ : q_M) (i : Nat) : q_M := q_I σ 28 i (σ.1 28 i + 1)
def rfM (τ : q_M) (i : Nat) : q_M := q_I τ 10 (i + 2) (τ.1 10 (i + 2) + 1)
theorem X8_refuse {i : Nat} (hi : i < 5) (σ : q_M) : fX8_refuse (-2 - nI i) σ = some (-2 - nI i, rfX σ i) := by
  unfold fX8_refuse
  rw [show (-2 : Int32) - (-2 - nI i) = nI i from (by decide +kernel : ∀ i, i < 5 → (-2 : Int32) - (-2 - nI i) = nI i) i hi]
  rw [if_neg (nI_pos (by omega)), if_neg (show ¬ (5 : Int32) ≤ nI i from nI_ge (a := i) (b := 5) hi (by decide)), gd hi (by decide), gd hi (by decide), nI_clamp (by omega), ql]
  rfl
theorem M_refuse {i : Nat} (hi : i < 5) (τ : q_M) : fX9_refuse 0 (-2 - nI i) τ = some (-2 - nI i, rfM τ i) := by
  unfold fX9_refuse
  rw [show -(-2 - nI i) = nI (i + 2) from (by decide +kernel : ∀ i, i < 5 → -(-2 - nI i) = nI (i + 2)) i hi]
  rw [gd (show i + 2 < 8 by omega) (by decide), gd (show i + 2 < 8 by omega) (by decide), nI_clamp (by omega), ql]
  rfl
theorem Rel_rf {σ τ : q_M} {N K A n p o t : Nat} (h : Rel σ τ N K A n p o t) {i : Nat} (hi : i < 5) : Rel (rfX σ i) (rfM τ i) N K A n p o t := by
  have aX : ∀ P : Nat → Nat → Prop, (∀ j, ¬ P 28 j) → ag P σ (rfX σ i) := fun P hP => ag_I (hP i)
  have aM : ∀ P : Nat → Nat → Prop, (∀ j, ¬ P 10 j) → ag P τ (rfM τ i) := fun P hP => ag_I (hP (i + 2))
  obtain ⟨h1, h2, ⟨m3, h3⟩, ⟨m4, h4⟩, h5, h6, h7, h8⟩ := h
  refine ⟨RSt_fr h1 (aM _ ?_), RM_fr h2 (aX _ ?_) (aM _ ?_), ⟨m3, Blk_fr h3 (aX _ ?_)⟩, ⟨m4, Blk_fr h4 (aX _ ?_)⟩, RKp_fr h5 (aX _ ?_) (fun hK => aM _ ?_), RSh_fr h6 (aX _ ?_) (aM _ ?_), ?_, RTp_fr h8 (aX _ ?_) (aM _ ?_)⟩
  · intro j z; have z' : 10 % 29 = 0 ∧ (j = 19 ∨ j = 27) := z; omega
  · intro j z; have z' : 1 ≤ 28 ∧ 28 ≤ 1 + 6 := z; omega
  · intro j z
    have z' : (10 = 0 ∧ (j = 11 ∨ j = 12 ∨ j = 13 ∨ j = 15 ∨ j = 17 ∨ j = 18)) ∨ 10 = 0 + 11 ∨ 10 = 0 + 12 := z
    omega
  · intro j z; have z' : 9 ≤ 28 ∧ 28 ≤ 9 + 3 := z; omega
  · intro j z; have z' : 16 ≤ 28 ∧ 28 ≤ 16 + 3 := z; omega
  · intro j z; have z' : (8 ≤ 28 ∧ 28 ≤ 14) ∨ (28 = 0 ∧ j = 3) := z; omega
  · intro j z
    have := K29 h1 hK
    have z' : (10 = K ∧ (j = 11 ∨ j = 12 ∨ j = 13 ∨ j = 15 ∨ j = 17 ∨ j = 18)) ∨ 10 = K + 11 ∨ 10 = K + 12 := z
    omega
  · intro j z; have z' : 31 ≤ 28 := z; omega
  · intro j z
    have z' : 10 = 1 ∨ 10 = 2 ∨ 10 = 3 ∨ 10 = 6 ∨ 10 = 7 ∨ 10 = 8 ∨ (21 ≤ 10 ∧ 10 ≤ 28) := z
    omega
  · intro e he
    show (q_I σ 28 i (σ.1 28 i + 1)).1 28 e = (q_I τ 10 (i + 2) (τ.1 10 (i + 2) + 1)).1 10 (e + 2)
    by_cases q : e = i
    · subst q
      rw [I_at, I_at, h7 e he]
    · rw [I_of (fun z => q z.2), I_of (fun z => q (by omega)), h7 e he]
  · intro j z; have z' : (28 = 23 ∧ j = 0) ∨ 28 = 24 := z; omega
  · intro j z; have z' : (10 = 0 ∧ j = 9) ∨ 10 = 9 := z; omega
theorem RR_rf {σ τ : q_M} {N : Nat} (h : RR σ τ N) {i : Nat} (hi : i < 5) : RR (rfX σ i) (rfM τ i) N := by
  obtain ⟨K, A, n, p, o, t, h⟩ := h
  exact ⟨K, A, n, p, o, t, Rel_rf h hi⟩
theorem X_bad (σ : q_M) : fX8_refuse (-2 : Int32) σ = some (-2, rfX σ 0) := X8_refuse (i := 0) (by decide) σ
theorem X_oth (σ : q_M) : fX8_refuse (-3 : Int32) σ = some (-3, rfX σ 1) := X8_refuse (i := 1) (by decide) σ
theorem X_not (σ : q_M) : fX8_refuse (-4 : Int32) σ = some (-4, rfX σ 2) := X8_refuse (i := 2) (by decide) σ
theorem X_stk (σ : q_M) : fX8_refuse (-5 : Int32) σ = some (-5, rfX σ 3) := X8_refuse (i := 3) (by decide) σ
theorem X_ful (σ : q_M) : fX8_refuse (-6 : Int32) σ = some (-6, rfX σ 4) := X8_refuse (i := 4) (by decide) σ
theorem M_bad (τ : q_M) : fX9_refuse 0 (-2 : Int32) τ = some (-2, rfM τ 0) := M_refuse (i := 0) (by decide) τ
theorem M_oth (τ : q_M) : fX9_refuse 0 (-3 : Int32) τ = some (-3, rfM τ 1) := M_refuse (i := 1) (by decide) τ
theorem M_not (τ : q_M) : fX9_refuse 0 (-4 : Int32) τ = some (-4, rfM τ 2) := M_refuse (i := 2) (by decide) τ
theorem M_stk (τ : q_M) : fX9_refuse 0 (-5 : Int32) τ = some (-5, rfM τ 3) := M_refuse (i := 3) (by decide) τ
theorem M_ful (τ : q_M) : fX9_refuse 0 (-6 : Int32) τ = some (-6, rfM τ 4) := M_refuse (i := 4) (by decide) τ
theorem RR_N {σ τ : q_M} {N : Nat} (h : RR σ τ N) : mB N 0 ∧ N % 29 = 0 ∧ N ≤ 87 ∧ mV N τ := by
  obtain ⟨K, A, n, p, o, t, ⟨h1, h2, h3, h4, h5, h6, h7⟩, _⟩ := h
  have hN : N = 29 ∨ N = 58 ∨ N = 87 := by
    by_cases a : K = 0 <;> by_cases b : A = 0 <;> simp [a, b] at h6 <;> omega
  refine ⟨⟨rfl, by omega⟩, by omega, by omega, fun k hk hk2 => ?_⟩
  by_cases z : k = 0
  · subst z
    rw [h1, h2]
    refine ⟨?_, ?_⟩
    · rcases h3 with y | y
      · left; rw [y]; rfl
      · right; rw [nI_clamp (by omega)]; omega
    · rcases h4 with y | y
      · left; rw [y]; rfl
      · right; rw [nI_clamp (by omega)]; omega
  · exact ⟨Or.inl (h7 k hk hk2 z).1, Or.inl (h7 k hk hk2 z).2⟩
