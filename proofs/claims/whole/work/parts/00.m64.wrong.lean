/-! What is wrong with the parting. -/
def wrB (τ : q_M) (n o hv k i : Nat) : Bool := if k = 1 then !decide ((τ.2 11 i &&& τ.2 0 12) = 0) else if k = 2 then !decide ((τ.2 11 i &&& unP (τ.2 11) (fun j => o.testBit j) i) = 0) else if k = 3 then !decide (cp n (τ.2 11 i) = 1) else decide (hv < cnt (τ.2 11 i))
def ffB (τ : q_M) (n o hv k : Nat) : Nat → Bool := fun i => !o.testBit i && wrB τ n o hv k i
theorem m1_tab : ∀ o, o < 256 → ∀ i, i < 8 → ∀ j, j < 8 → q_sr (nI o ||| q_sl (-1) (nI i)) (nI j) &&& 1 = b1 (o.testBit j || decide (i ≤ j)) := by decide +kernel
theorem unP_cut {S : Nat → Int64} {wq : Nat → Bool} {i : Nat} : ∀ p, i ≤ p → unP S (fun j => wq j || decide (i ≤ j)) p = unP S wq i
  | 0, h => by
    have : i = 0 := by omega
    subst this; rfl
  | p + 1, h => by
    by_cases q : i = p + 1
    · subst q
      exact unP_cg fun j hj => ⟨rfl, by rw [decide_eq_false (by omega), Bool.or_false]⟩
    · show (if (wq p || decide (i ≤ p)) then unP S (fun j => wq j || decide (i ≤ j)) p else _) = _
      rw [decide_eq_true (show i ≤ p by omega), Bool.or_true, if_pos rfl, unP_cut p (by omega)]
theorem X2_isWrong {σ τ : q_M} {N K A n p o t i k hv : Nat} (hR : Rel σ τ N K A n p o t) (hi : i < p) (hk : 1 ≤ k) (k4 : k ≤ 4) (hh : σ.1 1 4 = nI hv) (hv64 : hv ≤ 64) : fX2_isWrong 1 (nI k) (nI i) σ = some (b1 (wrB τ n o hv k i), σ) := by
  obtain ⟨h1, h2, h3, h4, h5, h6, h7, h8, h9, h10, h11, _⟩ := hR.2.1
  have o256 := p256 h8 h5
  have hx := (h11 i hi).2
  unfold fX2_isWrong wrB
  rw [gd (show i < 8 by omega) (by decide), ql, nI_clamp (by omega), show σ.2 (1 + 5) i = τ.2 11 i from (h11 i hi).1]
  rcases (show k = 1 ∨ k = 2 ∨ k = 3 ∨ k = 4 by omega) with rfl | rfl | rfl | rfl
  · rw [if_pos (show nI 1 = 1 from rfl), if_pos rfl, h3]
    by_cases q : (τ.2 11 i &&& τ.2 0 12) = 0
    · rw [if_pos q, decide_eq_true q]; rfl
    · rw [if_neg q, decide_eq_false q]; rfl
  · rw [if_neg (show ¬ nI 2 = 1 by decide), if_pos (show nI 2 = 2 from rfl), if_neg (show ¬ (2 : Nat) = 1 by decide), if_pos rfl, h9, X2_inPieces h6 h5 (wq := fun j => o.testBit j || decide (i ≤ j)) (fun j hj => m1_tab o o256 i (by omega) j hj), bs, unP_cut p (by omega), unP_cg (S := σ.2 (1 + 5)) (S' := τ.2 11) (wq' := fun j => o.testBit j) (fun j hj => ⟨(h11 j (by omega)).1, rfl⟩)]
    by_cases q : (τ.2 11 i &&& unP (τ.2 11) (fun j => o.testBit j) i) = 0
    · rw [if_pos q, decide_eq_true q]; rfl
    · rw [if_neg q, decide_eq_false q]; rfl
  · rw [if_neg (show ¬ nI 3 = 1 by decide), if_neg (show ¬ nI 3 = 2 by decide), if_pos (show nI 3 = 3 from rfl), if_neg (show ¬ (3 : Nat) = 1 by decide), if_neg (show ¬ (3 : Nat) = 2 by decide), if_pos rfl]
    by_cases q : τ.2 11 i = 0
    · rw [if_pos q, q, cp_0, decide_eq_false (by decide)]; rfl
    · rw [if_neg q, X0_isOnePart h1 hx, bs]
      have c1 : cp n (τ.2 11 i) ≠ 0 := fun z => q (cp_n0.mp z)
      by_cases z : cp n (τ.2 11 i) ≤ 1
      · rw [if_pos z, if_neg b1_ne, decide_eq_true (by omega)]; rfl
      · rw [if_neg z, if_pos rfl, decide_eq_false (by omega)]; rfl
  · have := cnt_le (τ.2 11 i)
    rw [if_neg (show ¬ nI 4 = 1 by decide), if_neg (show ¬ nI 4 = 2 by decide), if_neg (show ¬ nI 4 = 3 by decide), if_neg (show ¬ (4 : Nat) = 1 by decide), if_neg (show ¬ (4 : Nat) = 2 by decide), if_neg (show ¬ (4 : Nat) = 3 by decide), J_bits, bs, hh]
    by_cases z : hv < cnt (τ.2 11 i)
    · rw [if_neg (nI_ge z (by omega)), decide_eq_true z]; rfl
    · rw [if_pos (nI_le (show cnt (τ.2 11 i) ≤ hv by omega) (by omega)), decide_eq_false z]; rfl
theorem X2_wrongPlace {σ τ : q_M} {N K A n p o t k hv : Nat} (hR : Rel σ τ N K A n p o t) (hk : 1 ≤ k) (k4 : k ≤ 4) (hh : σ.1 1 4 = nI hv) (hv64 : hv ≤ 64) : fX2_wrongPlace 1 (nI k) σ = some (fsh (ffB τ n o hv k) p 0, σ) := by
  obtain ⟨h1, h2, h3, h4, h5, h6, h7, h8, h9, h10, h11, _⟩ := hR.2.1
  have o256 := p256 h8 h5
  have key : ∀ d i f, i + d = p → d < f → fX2_wrongPlace_c12 1 (nI k) f (nI i) σ = some (fsh (ffB τ n o hv k) d i, σ) := by
    intro d
    induction d with
    | zero =>
      intro i f e1 e2
      obtain ⟨f, rfl⟩ : ∃ z, f = z + 1 := ⟨f - 1, by omega⟩
      have : i = p := by omega
      subst this
      show fX2_wrongPlace_c12b 1 (nI k) (fX2_wrongPlace_c12 1 (nI k) f) (nI i) σ = _
      unfold fX2_wrongPlace_c12b
      rw [h6, if_pos (nI_le (Nat.le_refl _) (by omega))]
      rfl
    | succ d ih =>
      intro i f e1 e2
      obtain ⟨f, rfl⟩ : ∃ z, f = z + 1 := ⟨f - 1, by omega⟩
      have hi : i < p := by omega
      show fX2_wrongPlace_c12b 1 (nI k) (fX2_wrongPlace_c12 1 (nI k) f) (nI i) σ = some (if ffB τ n o hv k i then nI i else fsh (ffB τ n o hv k) d (i + 1), σ)
      unfold fX2_wrongPlace_c12b ffB
      rw [h6, if_neg (nI_ge hi (by omega)), X2_isOff h9 o256 (by omega), bs, nI_1]
      cases o.testBit i with
      | true =>
        rw [b1_t, if_neg b1_ne, if_neg (by simp)]
        exact ih (i + 1) f (by omega) (by omega)
      | false =>
        rw [b1_f, if_pos rfl, X2_isWrong hR hi hk k4 hh hv64, bs]
        cases wrB τ n o hv k i with
        | false =>
          rw [b1_f, if_pos rfl, if_neg (by decide)]
          exact ih (i + 1) f (by omega) (by omega)
        | true => rw [b1_t, if_neg b1_ne, if_pos (by decide)]
  unfold fX2_wrongPlace
  rw [if_neg (show ¬ nI k = 5 from fun z => by have := (nI_eq (b := 5) (by omega) (by decide)).mp z; omega)]
  exact key p 0 q_FU (by omega) (by show _ < 400; omega)
theorem M_wr1 {σ τ : q_M} {N K A n p o t i k hv : Nat} (hR : Rel σ τ N K A n p o t) (hi : i < p) (hk : 1 ≤ k) (k4 : k ≤ 4) (hh : τ.1 0 17 = nI hv) (hv64 : hv ≤ 64) (hof : o.testBit i = false) (rec2 : Int32 → q_M → Option (Int32 × q_M)) (rec12 : Int32 → Int64 → Int32 → q_M → Option (Int32 × q_M)) : fX9_findWrong_c12b 0 rec2 rec12 (nI k) (unP (τ.2 11) (fun j => o.testBit j) i) (nI i) τ = if wrB τ n o hv k i then some (nI k, q_I τ 0 28 (nI i)) else rec12 (nI k) (unP (τ.2 11) (fun j => o.testBit j) (i + 1)) (nI (i + 1)) τ := by
  obtain ⟨h1, h2, h3, h4, h5, h6, h7, h8, h9, h10, h11, _⟩ := hR.2.1
  have hN : MN τ n := ⟨h1.1, h2⟩
  have o256 := p256 h8 h5
  have hx := (h11 i hi).2
  have i8 : i < 8 := by omega
  have hu : unP (τ.2 11) (fun j => o.testBit j) (i + 1) = unP (τ.2 11) (fun j => o.testBit j) i ||| τ.2 11 i := by
    show (if o.testBit i then _ else _) = _
    rw [hof, if_neg (by decide)]
  rw [hu]
  have c130 : ∀ s0 s1, fX9_findWrong_c130 0 rec2 rec12 (nI k) (unP (τ.2 11) (fun j => o.testBit j) i) (nI i) s0 s1 τ = if (s1 ||| s0) = 0 then rec12 (nI k) (unP (τ.2 11) (fun j => o.testBit j) i ||| τ.2 11 i) (nI (i + 1)) τ else some (nI k, q_I τ 0 28 (nI i)) := by
    intro s0 s1
    unfold fX9_findWrong_c130
    rw [gd i8 (by decide), ql, ql, nI_clamp (by omega), nI_1]
  unfold fX9_findWrong_c12b wrB
  rw [h7, if_neg (nI_ge hi (by omega)), M_isOff h10 o256 i8, bs, hof, b1_f, if_pos rfl, gd i8 (by decide), nI_clamp (show i < 2 ^ 31 by omega)]
  rcases (show k = 1 ∨ k = 2 ∨ k = 3 ∨ k = 4 by omega) with rfl | rfl | rfl | rfl
  · have c79 : ∀ s, fX9_findWrong_c79 0 rec2 rec12 (nI 1) (unP (τ.2 11) (fun j => o.testBit j) i) (nI i) s τ = if (s ||| 0) = 0 then rec12 (nI 1) (unP (τ.2 11) (fun j => o.testBit j) i ||| τ.2 11 i) (nI (i + 1)) τ else some (nI 1, q_I τ 0 28 (nI i)) := by
      intro s
      unfold fX9_findWrong_c79 fX9_findWrong_c103
      rw [if_neg (show ¬ nI 1 = 3 by decide), if_neg (show ¬ nI 1 = 4 by decide)]
      exact c130 0 s
    unfold fX9_findWrong_c55
    rw [if_pos (show nI 1 = 1 from rfl), if_neg (show ¬ nI 1 = 2 by decide), c79, c79, if_pos rfl]
    show (if (τ.2 11 i &&& τ.2 0 12) = 0 then _ else _) = _
    by_cases q : (τ.2 11 i &&& τ.2 0 12) = 0
    · rw [if_pos q, decide_eq_true q]; rfl
    · rw [if_neg q, decide_eq_false q]; rfl
  · have c79 : ∀ s, fX9_findWrong_c79 0 rec2 rec12 (nI 2) (unP (τ.2 11) (fun j => o.testBit j) i) (nI i) s τ = if (s ||| 0) = 0 then rec12 (nI 2) (unP (τ.2 11) (fun j => o.testBit j) i ||| τ.2 11 i) (nI (i + 1)) τ else some (nI 2, q_I τ 0 28 (nI i)) := by
      intro s
      unfold fX9_findWrong_c79 fX9_findWrong_c103
      rw [if_neg (show ¬ nI 2 = 3 by decide), if_neg (show ¬ nI 2 = 4 by decide)]
      exact c130 0 s
    unfold fX9_findWrong_c55
    rw [if_neg (show ¬ nI 2 = 1 by decide), if_pos (show nI 2 = 2 from rfl), gd i8 (by decide), nI_clamp (show i < 2 ^ 31 by omega), c79, c79, if_neg (show ¬ (2 : Nat) = 1 by decide), if_pos (show (2 : Nat) = 2 from rfl)]
    show (if (τ.2 11 i &&& unP (τ.2 11) (fun j => o.testBit j) i) = 0 then _ else _) = _
    by_cases q : (τ.2 11 i &&& unP (τ.2 11) (fun j => o.testBit j) i) = 0
    · rw [if_pos q, decide_eq_true q]; rfl
    · rw [if_neg q, decide_eq_false q]; rfl
  · have c64 := cp_64 n (τ.2 11 i)
    unfold fX9_findWrong_c55 fX9_findWrong_c79 fX9_findWrong_c103
    rw [if_neg (show ¬ nI 3 = 1 by decide), if_neg (show ¬ nI 3 = 2 by decide), if_pos (show nI 3 = 3 from rfl), gd i8 (by decide), nI_clamp (show i < 2 ^ 31 by omega), show τ.2 (0 + 11) i = τ.2 11 i from rfl, M_partsOf hN hx, bs, if_neg (show ¬ nI 3 = 4 by decide), c130, c130, if_neg (show ¬ (3 : Nat) = 1 by decide), if_neg (show ¬ (3 : Nat) = 2 by decide), if_pos (show (3 : Nat) = 3 from rfl)]
    by_cases q : cp n (τ.2 11 i) = 1
    · rw [if_pos (show nI (cp n (τ.2 11 i)) = 1 by rw [q]; rfl), decide_eq_true q]; rfl
    · rw [if_neg (show ¬ nI (cp n (τ.2 11 i)) = 1 from fun z => q ((nI_eq (b := 1) (by omega) (by decide)).mp z)), decide_eq_false q]; rfl
  · have := cnt_le (τ.2 11 i)
    unfold fX9_findWrong_c55 fX9_findWrong_c79 fX9_findWrong_c103
    rw [if_neg (show ¬ nI 4 = 1 by decide), if_neg (show ¬ nI 4 = 2 by decide), if_neg (show ¬ nI 4 = 3 by decide), if_pos (show nI 4 = 4 from rfl), gd i8 (by decide), nI_clamp (show i < 2 ^ 31 by omega), show τ.2 (0 + 11) i = τ.2 11 i from rfl, M_bits, bs, hh, c130, c130, if_neg (show ¬ (4 : Nat) = 1 by decide), if_neg (show ¬ (4 : Nat) = 2 by decide), if_neg (show ¬ (4 : Nat) = 3 by decide)]
    by_cases q : hv < cnt (τ.2 11 i)
    · rw [if_neg (nI_ge q (by omega)), decide_eq_true q]; rfl
    · rw [if_pos (nI_le (show cnt (τ.2 11 i) ≤ hv by omega) (by omega)), decide_eq_false q]; rfl
theorem M_wrs {σ τ : q_M} {N K A n p o t k hv : Nat} (hR : Rel σ τ N K A n p o t) (hk : 1 ≤ k) (k4 : k ≤ 4) (hh : τ.1 0 17 = nI hv) (hv64 : hv ≤ 64) (f : Nat) : fX9_findWrong_c2 0 (f + 1) (nI k) τ = if fsh (ffB τ n o hv k) p 0 = -1 then fX9_findWrong_c2 0 f (nI (k + 1)) τ else some (nI k, q_I τ 0 28 (fsh (ffB τ n o hv k) p 0)) := by
  obtain ⟨h1, h2, h3, h4, h5, h6, h7, h8, h9, h10, h11, _⟩ := hR.2.1
  have o256 := p256 h8 h5
  have key : ∀ d i g, i + d = p → d < g → fX9_findWrong_c12 0 (fX9_findWrong_c2 0 f) g (nI k) (unP (τ.2 11) (fun j => o.testBit j) i) (nI i) τ = if fsh (ffB τ n o hv k) d i = -1 then fX9_findWrong_c2 0 f (nI (k + 1)) τ else some (nI k, q_I τ 0 28 (fsh (ffB τ n o hv k) d i)) := by
    intro d
    induction d with
    | zero =>
      intro i g e1 e2
      obtain ⟨g, rfl⟩ : ∃ z, g = z + 1 := ⟨g - 1, by omega⟩
      have : i = p := by omega
      subst this
      show fX9_findWrong_c12b 0 (fX9_findWrong_c2 0 f) (fX9_findWrong_c12 0 (fX9_findWrong_c2 0 f) g) (nI k) _ (nI i) τ = _
      unfold fX9_findWrong_c12b
      rw [h7, if_pos (nI_le (Nat.le_refl _) (by omega)), nI_1, if_pos (show fsh (ffB τ n o hv k) 0 i = -1 from rfl)]
    | succ d ih =>
      intro i g e1 e2
      obtain ⟨g, rfl⟩ : ∃ z, g = z + 1 := ⟨g - 1, by omega⟩
      have hi : i < p := by omega
      show fX9_findWrong_c12b 0 (fX9_findWrong_c2 0 f) (fX9_findWrong_c12 0 (fX9_findWrong_c2 0 f) g) (nI k) (unP (τ.2 11) (fun j => o.testBit j) i) (nI i) τ = if (if ffB τ n o hv k i then nI i else fsh (ffB τ n o hv k) d (i + 1)) = -1 then fX9_findWrong_c2 0 f (nI (k + 1)) τ else some (nI k, q_I τ 0 28 (if ffB τ n o hv k i then nI i else fsh (ffB τ n o hv k) d (i + 1)))
      cases q : o.testBit i with
      | true =>
        have e3 : ffB τ n o hv k i = false := by unfold ffB; rw [q]; rfl
        unfold fX9_findWrong_c12b
        rw [h7, if_neg (nI_ge hi (by omega)), M_isOff h10 o256 (by omega), bs, q, b1_t, if_neg b1_ne, nI_1, e3, if_neg (show ¬ (false = true) by decide)]
        have hu : unP (τ.2 11) (fun j => o.testBit j) i = unP (τ.2 11) (fun j => o.testBit j) (i + 1) := by
          show _ = (if o.testBit i then unP (τ.2 11) (fun j => o.testBit j) i else _)
          rw [q, if_pos rfl]
        rw [hu]
        exact ih (i + 1) g (by omega) (by omega)
      | false =>
        have e3 : ffB τ n o hv k i = wrB τ n o hv k i := by unfold ffB; rw [q]; rfl
        rw [M_wr1 hR hi hk k4 hh hv64 q, e3]
        cases wrB τ n o hv k i with
        | true => rw [if_pos rfl, if_pos rfl, if_neg (nI_m1 i (by omega))]
        | false =>
          rw [if_neg (by decide), if_neg (show ¬ (false = true) by decide)]
          exact ih (i + 1) g (by omega) (by omega)
  show fX9_findWrong_c2b 0 (fX9_findWrong_c2 0 f) (nI k) τ = _
  unfold fX9_findWrong_c2b
  rw [if_neg (show ¬ (4 : Int32) < nI k from nI_nlt (a := 4) k4 (by decide))]
  exact key p 0 q_FU (by omega) (by show _ < 400; omega)
theorem low_cnt : ∀ l, l < 64 → cnt (q_shl 1 (nI l) - 1) = l := by decide +kernel
/-- the first bare cube -/
def bar (o : Nat) (x : Int64) : Int32 := if o = 0 then (if x = 0 then -1 else nI ((List.range 64).findIdx (tb x))) else -1
theorem X2_bare {σ τ : q_M} {N K A n p o t : Nat} (hR : Rel σ τ N K A n p o t) : fX2_wrongPlace 1 5 σ = some (bar o (dif (emp n (τ.2 0 12)) (unP (τ.2 11) (fun j => o.testBit j) p)), σ) := by
  obtain ⟨h1, h2, h3, h4, h5, h6, h7, h8, h9, h10, h11, _⟩ := hR.2.1
  have B : Blk σ 2 n := h1
  have o256 := p256 h8 h5
  unfold fX2_wrongPlace fX2_firstBareCube fX2_emptyCubes bar
  rw [if_pos rfl, bs, X2_inPieces h6 h5 (v := 0) (wq := fun _ => false) (fun i hi => (by decide +kernel : ∀ i, i < 8 → q_sr 0 (nI i) &&& 1 = b1 false) i hi), bs, ql, h9]
  by_cases q : o = 0
  · subst q
    rw [if_pos (show nI 0 = 0 from rfl), if_pos rfl, show σ.2 (1 + 1) 2 = allL n from B.2.2.2.1, h3, unP_cg (S := σ.2 (1 + 5)) (S' := τ.2 11) (wq' := fun j => (0 : Nat).testBit j) (fun j hj => ⟨(h11 j hj).1, by rw [Nat.zero_testBit]⟩)]
    show ((if dif (emp n (τ.2 0 12)) (unP (τ.2 11) (fun j => (0 : Nat).testBit j) p) = 0 then some ((-1 : Int32), σ) else (fJ13_bitCount_95d88 ((dif (emp n (τ.2 0 12)) (unP (τ.2 11) (fun j => (0 : Nat).testBit j) p) &&& -dif (emp n (τ.2 0 12)) (unP (τ.2 11) (fun j => (0 : Nat).testBit j) p)) - 1) σ).bind fun o6 => some (o6.1, o6.2)).bind fun o2 => some (o2.1, o2.2)) = _
    generalize dif (emp n (τ.2 0 12)) (unP (τ.2 11) (fun j => (0 : Nat).testBit j) p) = x
    by_cases z : x = 0
    · rw [if_pos z, if_pos z, bs]
    · obtain ⟨l, l1, l2, l3, l4⟩ := low_bit z
      rw [if_neg z, if_neg z, l4, fI_go l2 l3 64 l1, show bit l - 1 = q_shl 1 (nI l) - 1 from rfl, J_bits, bs, low_cnt l l1, bs]
  · rw [if_neg (nI_ne0 (by omega) (by omega)), if_neg q, bs]
theorem M_bare {σ τ : q_M} {N K A n p o t : Nat} (hR : Rel σ τ N K A n p o t) (f : Nat) : fX9_findWrong_c2 0 (f + 1) 5 τ = some (if bar o (dif (emp n (τ.2 0 12)) (unP (τ.2 11) (fun j => o.testBit j) p)) = -1 then 0 else 5, q_I τ 0 28 (bar o (dif (emp n (τ.2 0 12)) (unP (τ.2 11) (fun j => o.testBit j) p)))) := by
  obtain ⟨h1, h2, h3, h4, h5, h6, h7, h8, h9, h10, h11, _⟩ := hR.2.1
  have hN : MN τ n := ⟨h1.1, h2⟩
  have hn := h1.1
  have h64 := hn.cube
  have o256 := p256 h8 h5
  show fX9_findWrong_c2b 0 (fX9_findWrong_c2 0 f) 5 τ = _
  unfold fX9_findWrong_c2b
  rw [if_pos (by decide), M_empty hN, bs, M_inPieces h7 h5 h10 o256, bs, ql]
  show fX9_findWrong_c184 0 q_FU (dif (emp n (τ.2 0 12)) (unP (τ.2 11) (fun j => o.testBit j) p)) 0 τ = _
  have hxin : inB n (dif (emp n (τ.2 0 12)) (unP (τ.2 11) (fun j => o.testBit j) p)) := sbs_in (dif_sbs _ _) (fun c hc => ((tb_emp hn).mp hc).1)
  revert hxin
  generalize dif (emp n (τ.2 0 12)) (unP (τ.2 11) (fun j => o.testBit j) p) = x
  intro hxin
  unfold bar
  by_cases q : o = 0
  · subst q
    rw [if_pos rfl]
    by_cases z : x = 0
    · rw [if_pos z, if_pos rfl]
      have key : ∀ d i g, i + d = n * n * n → d < g → fX9_findWrong_c184 0 g x (nI i) τ = some (0, q_I τ 0 28 (-1)) := by
        intro d
        induction d with
        | zero =>
          intro i g e1 e2
          obtain ⟨g, rfl⟩ : ∃ z, g = z + 1 := ⟨g - 1, by omega⟩
          show fX9_findWrong_c184b 0 (fX9_findWrong_c184 0 g) x (nI i) τ = _
          unfold fX9_findWrong_c184b
          rw [M_many hN, bs, if_pos (nI_le (by omega) (by omega)), ql]
        | succ d ih =>
          intro i g e1 e2
          obtain ⟨g, rfl⟩ : ∃ z, g = z + 1 := ⟨g - 1, by omega⟩
          show fX9_findWrong_c184b 0 (fX9_findWrong_c184 0 g) x (nI i) τ = _
          unfold fX9_findWrong_c184b
          rw [M_many hN, bs, if_neg (nI_ge (show i < n * n * n by omega) (by omega)), h10, if_pos (show nI 0 = 0 from rfl), M_hasF (by omega) (by rw [z]; exact tb_0 i), bs, if_pos rfl, nI_1]
          exact ih (i + 1) g (by omega) (by omega)
      exact key (n * n * n) 0 q_FU (by omega) (by show _ < 400; omega)
    · obtain ⟨l, l1, l2, l3, l4⟩ := low_bit z
      have ln := hxin l l2
      rw [if_neg z, fI_go l2 l3 64 l1, if_neg (nI_m1 l l1)]
      have key : ∀ d i g, i + d = l → d < g → fX9_findWrong_c184 0 g x (nI i) τ = some (5, q_I τ 0 28 (nI l)) := by
        intro d
        induction d with
        | zero =>
          intro i g e1 e2
          obtain ⟨g, rfl⟩ : ∃ z, g = z + 1 := ⟨g - 1, by omega⟩
          have : i = l := by omega
          subst this
          show fX9_findWrong_c184b 0 (fX9_findWrong_c184 0 g) x (nI i) τ = _
          unfold fX9_findWrong_c184b
          rw [M_many hN, bs, if_neg (nI_ge ln (by omega)), h10, if_pos (show nI 0 = 0 from rfl), M_hasT l1 l2, bs, if_neg b1_ne, ql]
        | succ d ih =>
          intro i g e1 e2
          obtain ⟨g, rfl⟩ : ∃ z, g = z + 1 := ⟨g - 1, by omega⟩
          show fX9_findWrong_c184b 0 (fX9_findWrong_c184 0 g) x (nI i) τ = _
          unfold fX9_findWrong_c184b
          rw [M_many hN, bs, if_neg (nI_ge (show i < n * n * n by omega) (by omega)), h10, if_pos (show nI 0 = 0 from rfl), M_hasF (by omega) (l3 i (by omega)), bs, if_pos rfl, nI_1]
          exact ih (i + 1) g (by omega) (by omega)
      exact key l 0 q_FU (by omega) (by show _ < 400; omega)
  · rw [if_neg q, if_pos rfl]
    show fX9_findWrong_c184b 0 (fX9_findWrong_c184 0 399) x (nI 0) τ = _
    unfold fX9_findWrong_c184b
    rw [M_many hN, bs, if_neg (nI_ge hn.cu0 (by omega)), h10, if_neg (nI_ne0 (by omega) (by omega)), ql]
theorem op_wrong : Op_wrong RR := by
  intro σ τ N v hv01 h
  have h0 := h
  obtain ⟨K, A, n, p, o, t, hR⟩ := h
  obtain ⟨h1, h2, h3, h4, h5, h6, h7, h8, h9, h10, h11, ⟨hv, u1, u2, u3, u4⟩, _⟩ := hR.2.1
  have sX : ∀ f k, 1 ≤ k → k ≤ 4 → fX8_wrong_c2 v (f + 1) (nI k) σ = if fsh (ffB τ n o hv k) p 0 = -1 then fX8_wrong_c2 v f (nI (k + 1)) σ else if v = 0 then some (fsh (ffB τ n o hv k) p 0, σ) else some (nI k, σ) := by
    intro f k hk k4
    show fX8_wrong_c2b v (fX8_wrong_c2 v f) (nI k) σ = _
    unfold fX8_wrong_c2b
    rw [if_neg (show ¬ (5 : Int32) < nI k from nI_nlt (a := 5) (by omega) (by decide)), X2_wrongPlace hR hk k4 u3 u2, bs, nI_1]
  have aM : ∀ x, ag sM1 τ (q_I τ 0 28 x) := fun x => ag_I (fun z => z (by omega))
  have fin : ∀ k, 1 ≤ k → k ≤ 4 → fsh (ffB τ n o hv k) p 0 ≠ -1 → ∃ (r : Int32) (σ' τ' : q_M), (if v = 0 then some (fsh (ffB τ n o hv k) p 0, σ) else some (nI k, σ)) = some (r, σ') ∧ ((some (nI k, q_I τ 0 28 (fsh (ffB τ n o hv k) p 0)) : Option (Int32 × q_M)).bind fun o1 => if v = 0 then some (o1.2.1 0 28, o1.2) else some (o1.1, o1.2)) = some (r, τ') ∧ RR σ' τ' N := by
    intro k _ _ _
    rw [bs]
    by_cases q : v = 0
    · rw [if_pos q, if_pos q]
      exact ⟨_, _, _, rfl, by rw [show (nI k, q_I τ 0 28 (fsh (ffB τ n o hv k) p 0)).2.1 0 28 = fsh (ffB τ n o hv k) p 0 from I_at], RR_sc h0 (ag_rf _ _) (aM _)⟩
    · rw [if_neg q, if_neg q]
      exact ⟨_, _, _, rfl, rfl, RR_sc h0 (ag_rf _ _) (aM _)⟩
  have s1 := sX 399 1 (by decide) (by decide)
  have s2 := sX 398 2 (by decide) (by decide)
  have s3 := sX 397 3 (by decide) (by decide)
  have s4 := sX 396 4 (by decide) (by decide)
  have m1 := M_wrs hR (k := 1) (by decide) (by decide) u4 u2 399
  have m2 := M_wrs hR (k := 2) (by decide) (by decide) u4 u2 398
  have m3 := M_wrs hR (k := 3) (by decide) (by decide) u4 u2 397
  have m4 := M_wrs hR (k := 4) (by decide) (by decide) u4 u2 396
  unfold fX8_wrong fX9_wrong fX9_findWrong
  rw [show fX8_wrong_c2 v q_FU 1 σ = _ from s1, show fX9_findWrong_c2 0 q_FU 1 τ = _ from m1]
  by_cases y1 : ¬ fsh (ffB τ n o hv 1) p 0 = -1
  · rw [if_neg y1, if_neg y1]; exact fin 1 (by decide) (by decide) y1
  have z1 : fsh (ffB τ n o hv 1) p 0 = -1 := Classical.not_not.mp y1
  rw [if_pos z1, if_pos z1, s2, m2]
  by_cases y2 : ¬ fsh (ffB τ n o hv 2) p 0 = -1
  · rw [if_neg y2, if_neg y2]; exact fin 2 (by decide) (by decide) y2
  have z2 : fsh (ffB τ n o hv 2) p 0 = -1 := Classical.not_not.mp y2
  rw [if_pos z2, if_pos z2, s3, m3]
  by_cases y3 : ¬ fsh (ffB τ n o hv 3) p 0 = -1
  · rw [if_neg y3, if_neg y3]; exact fin 3 (by decide) (by decide) y3
  have z3 : fsh (ffB τ n o hv 3) p 0 = -1 := Classical.not_not.mp y3
  rw [if_pos z3, if_pos z3, s4, m4]
  by_cases y4 : ¬ fsh (ffB τ n o hv 4) p 0 = -1
  · rw [if_neg y4, if_neg y4]; exact fin 4 (by decide) (by decide) y4
  have z4 : fsh (ffB τ n o hv 4) p 0 = -1 := Classical.not_not.mp y4
  rw [if_pos z4, if_pos z4, show fX9_findWrong_c2 0 396 (nI (4 + 1)) τ = _ from M_bare hR 395, bs]
  have s5 : fX8_wrong_c2 v 396 (nI (4 + 1)) σ = if bar o (dif (emp n (τ.2 0 12)) (unP (τ.2 11) (fun j => o.testBit j) p)) = -1 then (if v = 0 then some (-1, σ) else some (0, σ)) else if v = 0 then some (bar o (dif (emp n (τ.2 0 12)) (unP (τ.2 11) (fun j => o.testBit j) p)), σ) else some (5, σ) := by
    show fX8_wrong_c2b v (fX8_wrong_c2 v 395) 5 σ = _
    unfold fX8_wrong_c2b
    rw [if_neg (by decide), X2_bare hR, bs]
    by_cases q : bar o (dif (emp n (τ.2 0 12)) (unP (τ.2 11) (fun j => o.testBit j) p)) = -1
    · rw [if_pos q, if_pos q]
      show fX8_wrong_c2b v (fX8_wrong_c2 v 394) (5 + 1) σ = _
      unfold fX8_wrong_c2b
      rw [if_pos (by decide)]
    · rw [if_neg q, if_neg q]
  rw [s5]
  generalize bar o (dif (emp n (τ.2 0 12)) (unP (τ.2 11) (fun j => o.testBit j) p)) = b
  by_cases q : b = -1
  · rw [if_pos q, if_pos q]
    by_cases y : v = 0
    · rw [if_pos y, if_pos y]
      exact ⟨_, _, _, rfl, by rw [show ((0 : Int32), q_I τ 0 28 b).2.1 0 28 = b from I_at, q], RR_sc h0 (ag_rf _ _) (aM _)⟩
    · rw [if_neg y, if_neg y]
      exact ⟨_, _, _, rfl, rfl, RR_sc h0 (ag_rf _ _) (aM _)⟩
  · rw [if_neg q, if_neg q]
    by_cases y : v = 0
    · rw [if_pos y, if_pos y]
      exact ⟨_, _, _, rfl, by rw [show ((5 : Int32), q_I τ 0 28 b).2.1 0 28 = b from I_at], RR_sc h0 (ag_rf _ _) (aM _)⟩
    · rw [if_neg y, if_neg y]
      exact ⟨_, _, _, rfl, rfl, RR_sc h0 (ag_rf _ _) (aM _)⟩
