/-! Operations: what could be. -/
theorem isI_f {x : Int32} {p : Nat} (h : isI x p = false) : x < 0 ∨ nI p ≤ x := by
  unfold isI at h
  by_cases a : x < 0
  · exact Or.inl a
  · by_cases b : nI p ≤ x
    · exact Or.inr b
    · rw [decide_eq_false a, decide_eq_false b] at h; cases h
theorem isI_out {α : Type} {x : Int32} {p : Nat} (h : isI x p = false) {A B : α} : (if x < 0 then A else if x < nI p then B else A) = A := by
  rcases isI_f h with z | z
  · rw [if_pos z]
  · by_cases y : x < 0
    · rw [if_pos y]
    · rw [if_neg y, if_neg (fun w => by
        rw [Int32.lt_iff_toInt_lt] at w
        rw [Int32.le_iff_toInt_le] at z
        omega)]
theorem isI_ins {α : Type} {j p : Nat} (h : j < p) (hp : p < 2 ^ 31) {A B C : α} : (if nI j < 0 then A else if nI j < nI p then B else C) = B := by
  rw [if_neg (nI_pos (by omega)), if_pos (nI_lt h hp)]
theorem X8_look {σ : q_M} {n : Nat} {x : Int64} (B : Blk σ 2 n) (hx : inB n x) : ∃ σ', LK σ' n x ∧ ag sX1 σ σ' ∧ fX1_look 2 x σ = some σ' := by
  obtain ⟨σ', h1, h2, h3, h4⟩ := X1_look B (by decide) hx
  refine ⟨σ', h1, ag_sub h2 (fun c j hc => ?_), h4⟩
  have hc' : ¬ ((25 ≤ c ∧ c ≤ 27) ∨ c = 29 ∨ c = 30 ∨ (c = 0 ∧ (j = 10 ∨ j = 11)) ∨ (c = 23 ∧ 1 ≤ j)) := hc
  show c ≠ 25 ∧ c ≠ 26
  omega
theorem X8_lookF {σ : q_M} {n : Nat} {x : Int64} (B : Blk σ 2 n) (hx : inB n x) (e : σ.2 1 1 = x) : ∃ σ', LK σ' n x ∧ ag sX1 σ σ' ∧ fX8_lookAtFigure σ = some σ' := by
  obtain ⟨σ', h1, h2, h3⟩ := X8_look B hx
  refine ⟨σ', h1, h2, ?_⟩
  unfold fX8_lookAtFigure
  rw [e, h3, bs]
theorem M_find {τ : q_M} {n : Nat} {x : Int64} (h : MN τ n) : ∃ τ', FR τ' n x ∧ MN τ' n ∧ ag sM1 τ τ' ∧ fX9_findFree 0 x τ = some τ' := by
  obtain ⟨τ', h1, h2, h3, h4⟩ := M_findFree (x := x) h
  refine ⟨τ', h1, ⟨h.1, by rw [(h2 0 11 (by show (0 : Nat) ≠ 16; decide)).1]; exact h.2⟩, ag_sub h2 (fun c j hc => ?_), h4⟩
  have hc' : ¬ (c = 5 ∨ (13 ≤ c ∧ c ≤ 20) ∨ (c = 0 ∧ (j = 20 ∨ j = 21 ∨ j = 22 ∨ j = 23 ∨ j = 24 ∨ j = 26 ∨ j = 28 ∨ j = 31))) := hc
  show c ≠ 16
  omega
theorem op_free : Op_free RR := by
  intro σ τ N x h
  have h0 := h
  obtain ⟨K, A, n, p, o, t, hR⟩ := h
  obtain ⟨h1, h2, h3, h4, _⟩ := hR.2.1
  have hN : MN τ n := ⟨h1.1, h2⟩
  have B : Blk σ 2 n := h1
  have h64 := h1.1.cube
  unfold fX8_free fX9_free
  rw [M_isCube hN, bs, B.2.2.1]
  rcases isI_c x (p := n * n * n) (by omega) with q | ⟨c, hc, rfl⟩
  · rw [isI_out q, q, b1_f, if_pos rfl, X_bad, bs, M_bad, bs]
    exact ⟨_, _, _, rfl, rfl, RR_rf h0 (by decide)⟩
  · rw [isI_ins hc (by omega), isI_y hc (by omega), b1_t, if_neg b1_ne, h3]
    cases q : tb (τ.2 0 12) c with
    | true =>
      rw [if_neg (fun z => by rw [(tb_has _ (show c < 64 by omega)).mp z] at q; cases q), M_hasT (by omega) q, bs, if_neg b1_ne, X_stk, bs, M_stk, bs]
      exact ⟨_, _, _, rfl, rfl, RR_rf h0 (by decide)⟩
    | false =>
      obtain ⟨σ', L, aX, e⟩ := X8_lookF B h4 h3
      rw [if_pos ((tb_has _ (show c < 64 by omega)).mpr q), M_hasF (by omega) q, bs, if_pos rfl, e, bs, X1_waysOf h1.1 L hc q, bs, M_freeOf hN hc, bs]
      exact ⟨_, _, _, rfl, rfl, RR_sc h0 aX (ag_rf _ _)⟩
theorem op_serves : Op_serves RR := by
  intro σ τ N x h
  have h0 := h
  obtain ⟨K, A, n, p, o, t, hR⟩ := h
  obtain ⟨h1, h2, h3, h4, _⟩ := hR.2.1
  have hN : MN τ n := ⟨h1.1, h2⟩
  have B : Blk σ 2 n := h1
  unfold fX8_serves fX9_serves
  rw [X8_isWaySet, bs, M_in63, bs]
  rcases isI_c x (p := 64) (by decide) with q | ⟨ws, hw, rfl⟩
  · rw [q, b1_f, if_pos rfl, if_pos rfl, X_bad, bs, M_bad, bs]
    exact ⟨_, _, _, rfl, rfl, RR_rf h0 (by decide)⟩
  · obtain ⟨σ', L, aX, e⟩ := X8_lookF B h4 h3
    obtain ⟨τ', F, hN', aM, e'⟩ := M_find (x := τ.2 0 12) hN
    rw [isI_y hw (by decide), b1_t, if_neg b1_ne, if_neg b1_ne, e, bs, X1_suffices L hw, bs, e', bs, M_doServe hN' F hw, bs]
    cases srv n (τ.2 0 12) ws with
    | false => exact ⟨0, _, _, rfl, rfl, RR_sc h0 aX aM⟩
    | true => exact ⟨1, _, _, rfl, rfl, RR_sc h0 aX aM⟩
theorem op_fewest : Op_fewest RR := by
  intro σ τ N h
  have h0 := h
  obtain ⟨K, A, n, p, o, t, hR⟩ := h
  obtain ⟨h1, h2, h3, h4, _⟩ := hR.2.1
  have hN : MN τ n := ⟨h1.1, h2⟩
  have B : Blk σ 2 n := h1
  unfold fX8_fewest fX9_fewest
  obtain ⟨σ', L, aX, e⟩ := X8_lookF B h4 h3
  obtain ⟨τ', F, hN', aM, e'⟩ := M_find (x := τ.2 0 12) hN
  rw [e, bs, X1_fewest L, bs, e', bs, M_fewest hN' F, bs]
  by_cases q : obI (fwb n (τ.2 0 12) 64) = -1
  · rw [if_pos q, if_pos q, X_stk, bs, M_stk, bs]
    exact ⟨_, _, _, rfl, rfl, RR_rf (RR_sc h0 aX aM) (by decide)⟩
  · rw [if_neg q, if_neg q]
    exact ⟨_, _, _, rfl, rfl, RR_sc h0 aX aM⟩
/-- pieces together, but for some -/
def unP (S : Nat → Int64) (wq : Nat → Bool) : Nat → Int64
  | 0 => 0
  | i + 1 => if wq i then unP S wq i else unP S wq i ||| S i
theorem unP_cg {S S' : Nat → Int64} {wq wq' : Nat → Bool} : ∀ {p : Nat}, (∀ i, i < p → S i = S' i ∧ wq i = wq' i) → unP S wq p = unP S' wq' p
  | 0, _ => rfl
  | p + 1, h => by
    unfold unP
    rw [unP_cg (fun i hi => h i (by omega)), (h p (by omega)).1, (h p (by omega)).2]
theorem inB_unP {n : Nat} {S : Nat → Int64} {wq : Nat → Bool} : ∀ {p : Nat}, (∀ i, i < p → inB n (S i)) → inB n (unP S wq p)
  | 0, _ => inB_0 n
  | p + 1, h => by
    unfold unP
    have ih := inB_unP (wq := wq) (fun i hi => h i (show i < p + 1 by omega) |> fun z => z) (p := p)
    split
    · exact inB_unP (fun i hi => h i (by omega))
    · exact inB_or (inB_unP (fun i hi => h i (by omega))) (h p (by omega))
theorem X2_inPieces {σ : q_M} {k p : Nat} {v : Int32} {wq : Nat → Bool} (hp : σ.1 k 2 = nI p) (p8 : p ≤ 8) (hv : ∀ i, i < 8 → q_sr v (nI i) &&& 1 = b1 (wq i)) : fX2_inPieces k v σ = some (unP (σ.2 (k + 5)) wq p, σ) := by
  unfold fX2_inPieces
  refine lq2 (fX2_inPieces_c5 k v) σ (unP (σ.2 (k + 5)) wq) p _ (by omega) ?_ ?_
  · intro f i hi
    show fX2_inPieces_c5b k v (fX2_inPieces_c5 k v f) (unP (σ.2 (k + 5)) wq i) (nI i) σ = fX2_inPieces_c5 k v f (if wq i then unP (σ.2 (k + 5)) wq i else unP (σ.2 (k + 5)) wq i ||| σ.2 (k + 5) i) (nI (i + 1)) σ
    unfold fX2_inPieces_c5b
    rw [hp, if_neg (nI_ge hi (by omega)), hv i (by omega), nI_1]
    cases wq i with
    | false => rw [b1_f, if_pos rfl, gd (show i < 8 by omega) (by decide), ql, nI_clamp (by omega), if_neg (by decide)]
    | true => rw [b1_t, if_neg b1_ne, if_pos rfl]
  · intro f
    show fX2_inPieces_c5b k v (fX2_inPieces_c5 k v f) (unP (σ.2 (k + 5)) wq p) (nI p) σ = _
    unfold fX2_inPieces_c5b
    rw [hp, if_pos (nI_le (Nat.le_refl _) (by omega))]
theorem off_b1 {o i : Nat} (ho : o < 256) (hi : i < 8) : q_sr (nI o) (nI i) &&& 1 = b1 (o.testBit i) := off_tab o ho i hi
theorem M_inPieces {τ : q_M} {p o : Nat} (hp : τ.1 0 13 = nI p) (p8 : p ≤ 8) (ho : τ.1 0 15 = nI o) (o256 : o < 256) : fX9_inPieces 0 τ = some (unP (τ.2 11) (fun i => o.testBit i) p, τ) := by
  unfold fX9_inPieces
  refine lq2 (fX9_inPieces_c4 0) τ (unP (τ.2 11) (fun i => o.testBit i)) p _ (by omega) ?_ ?_
  · intro f i hi
    show fX9_inPieces_c4b 0 (fX9_inPieces_c4 0 f) (unP (τ.2 11) (fun i => o.testBit i) i) (nI i) τ = fX9_inPieces_c4 0 f (if o.testBit i then unP (τ.2 11) (fun i => o.testBit i) i else unP (τ.2 11) (fun i => o.testBit i) i ||| τ.2 11 i) (nI (i + 1)) τ
    unfold fX9_inPieces_c4b
    rw [hp, if_neg (nI_ge hi (by omega)), M_isOff ho o256 (by omega), bs, nI_1]
    cases o.testBit i with
    | false => rw [b1_f, if_pos rfl, gd (show i < 8 by omega) (by decide), ql, nI_clamp (by omega), if_neg (by decide)]
    | true => rw [b1_t, if_neg b1_ne, if_pos rfl, or0]
  · intro f
    show fX9_inPieces_c4b 0 (fX9_inPieces_c4 0 f) (unP (τ.2 11) (fun i => o.testBit i) p) (nI p) τ = _
    unfold fX9_inPieces_c4b
    rw [hp, if_pos (nI_le (Nat.le_refl _) (by omega))]
theorem M_empty {τ : q_M} {n : Nat} (h : MN τ n) : fX9_empty 0 τ = some (emp n (τ.2 0 12), τ) := by
  unfold fX9_empty
  rw [M_block h, bs]
  rfl
/-- the cubes that are never free -/
def nvr (n : Nat) (x : Int64) : Int64 := dif (emp n x) (fbo n x 63 6)
theorem X1_never {σ : q_M} {n : Nat} {x : Int64} (L : LK σ n x) : fX1_neverFree σ = some (nvr n x, σ) := by
  unfold fX1_neverFree
  have e : fX1_freeByOneOf 63 σ = some (fbo n x 63 6, σ) := X1_fbo L (by decide)
  rw [e, bs, L.1]
  rfl
theorem fm_0 {n : Nat} {x : Int64} {c : Nat} : nI (fm n x c) = 0 ↔ ∀ w, w < 6 → ahead n x c w = true := by
  have hl := fm_lt n x c
  constructor
  · intro h w hw
    have h1 : fm n x c = 0 := by
      rcases Nat.eq_zero_or_pos (fm n x c) with z | z
      · exact z
      · exact absurd h (nI_ne0 z (by omega))
    have h2 := fm_tb (n := n) (x := x) (c := c) hw
    rw [h1, Nat.zero_testBit] at h2
    cases q : ahead n x c w with
    | true => rfl
    | false => rw [q] at h2; cases h2
  · intro h
    have h1 : fm n x c = 0 := by
      unfold fm
      have : ∀ m, m ≤ 6 → wsN (fun w => !ahead n x c w) m = 0 := by
        intro m
        induction m with
        | zero => intro _; rfl
        | succ m ih =>
          intro hm
          rw [wsN_f (p := fun w => !ahead n x c w) (w := m) (by show (!ahead n x c m) = false; rw [h m (by omega)]; rfl)]
          exact ih (by omega)
      exact this 6 (Nat.le_refl _)
    rw [h1]
    rfl
theorem nvr_mk {n : Nat} (hn : Sz n) {x : Int64} : mkN (fun c => decide (frv n x c = 0)) (n * n * n) = nvr n x := tb_ext fun c _ => by
  rw [tb_mkN _ _ hn.cube, Bool.eq_iff_iff, Bool.and_eq_true, decide_eq_true_iff, decide_eq_true_iff]
  unfold nvr
  rw [tb_dif, tb_emp hn]
  constructor
  · rintro ⟨h1, h2⟩
    unfold frv at h2
    cases q : tb x c with
    | true => rw [q, if_pos rfl] at h2; exact absurd h2 (by decide)
    | false =>
      rw [q, if_neg (by decide)] at h2
      have h3 := fm_0.mp h2
      refine ⟨⟨h1, rfl⟩, ?_⟩
      cases z : tb (fbo n x 63 6) c with
      | false => rfl
      | true =>
        obtain ⟨w, w1, w2, w3⟩ := (tb_fbo 6).mp z
        have := ((tb_frW hn w1).mp w3).2.2
        rw [h3 w w1] at this; cases this
  · rintro ⟨⟨h1, h2⟩, h3⟩
    refine ⟨h1, ?_⟩
    unfold frv
    rw [h2, if_neg (by decide)]
    refine fm_0.mpr (fun w hw => ?_)
    cases q : ahead n x c w with
    | true => rfl
    | false =>
      have : tb (fbo n x 63 6) c = true := (tb_fbo 6).mpr ⟨w, hw, (by decide +kernel : ∀ w, w < 6 → (63 : Nat).testBit w = true) w hw, (tb_frW hn hw).mpr ⟨h1, h2, q⟩⟩
      rw [h3] at this; cases this
theorem M_never {τ : q_M} {n : Nat} (h : MN τ n) : ∃ τ', FR τ' n (τ.2 0 12) ∧ MN τ' n ∧ ag sM1 τ τ' ∧ fX9_never 0 τ = some (nvr n (τ.2 0 12), τ') := by
  obtain ⟨τ', F, hN', aM, e'⟩ := M_find (x := τ.2 0 12) h
  have h64 := h.1.cube
  refine ⟨τ', F, hN', aM, ?_⟩
  unfold fX9_never
  rw [e', bs, ← nvr_mk h.1]
  refine lq2 (fX9_never_c12 0) τ' (mkN (fun c => decide (frv n (τ.2 0 12) c = 0))) (n * n * n) _ (by omega) ?_ ?_
  · intro f i hi
    show fX9_never_c12b 0 (fX9_never_c12 0 f) (mkN (fun c => decide (frv n (τ.2 0 12) c = 0)) i) (nI i) τ' = _
    unfold fX9_never_c12b
    rw [M_many hN', bs, if_neg (nI_ge hi (by omega)), gd (show i < 64 by omega) (by decide), nI_clamp (by omega), show τ'.1 (0 + 16) i = frv n (τ.2 0 12) i from F i hi, nI_1]
    by_cases q : frv n (τ.2 0 12) i = 0
    · rw [if_pos q, ql, mkN_t (decide_eq_true q)]
    · rw [if_neg q, or0, mkN_f (decide_eq_false q)]
  · intro f
    show fX9_never_c12b 0 (fX9_never_c12 0 f) (mkN (fun c => decide (frv n (τ.2 0 12) c = 0)) (n * n * n)) (nI (n * n * n)) τ' = _
    unfold fX9_never_c12b
    rw [M_many hN', bs, if_pos (nI_le (Nat.le_refl _) (by omega))]
theorem op_cubes : Op_cubes RR := by
  intro σ τ N x h
  have h0 := h
  obtain ⟨K, A, n, p, o, t, hR⟩ := h
  obtain ⟨h1, h2, h3, h4, h5, h6, h7, h8, h9, h10, h11, _⟩ := hR.2.1
  have hN : MN τ n := ⟨h1.1, h2⟩
  have B : Blk σ 2 n := h1
  have o256 := p256 h8 h5
  unfold fX8_cubes fX9_cubes
  by_cases q0 : x = 0
  · rw [if_pos q0, if_pos q0]
    exact ⟨_, _, _, rfl, by rw [← h3], h0⟩
  rw [if_neg q0, if_neg q0]
  by_cases q1 : x = 1
  · rw [if_pos q1, if_pos q1, M_empty hN, bs]
    refine ⟨_, _, _, ?_, rfl, h0⟩
    unfold fX2_emptyCubes
    rw [bs, show σ.2 (1 + 1) 2 = allL n from B.2.2.2.1, h3]
    rfl
  rw [if_neg q1, if_neg q1]
  by_cases q2 : x = 2
  · obtain ⟨σ', L, aX, e⟩ := X8_lookF B h4 h3
    obtain ⟨τ', F, hN', aM, e'⟩ := M_never hN
    rw [if_pos q2, if_pos q2, e, bs, X1_never L, bs, e', bs]
    exact ⟨_, _, _, rfl, rfl, RR_sc h0 aX aM⟩
  rw [if_neg q2, if_neg q2]
  by_cases q3 : x = 3
  · rw [if_pos q3, if_pos q3, h9, X2_inPieces h6 h5 (fun i hi => off_b1 o256 hi), bs, M_inPieces h7 h5 h10 o256, bs]
    refine ⟨_, _, _, rfl, ?_, h0⟩
    rw [unP_cg (S := τ.2 11) (S' := σ.2 (1 + 5)) (wq' := fun i => o.testBit i) (fun i hi => ⟨(h11 i hi).1.symm, rfl⟩)]
  · rw [if_neg q3, if_neg q3]
    exact ⟨_, _, _, rfl, rfl, h0⟩
