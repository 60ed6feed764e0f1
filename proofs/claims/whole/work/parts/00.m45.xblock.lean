/-! The block's functions. -/
/-- the cubes below a height -/
def belL (n a h : Nat) : Int64 := mkL fun c => decide (c < n * n * n) && decide (side n c a < h)
theorem tb_belL {n a h c : Nat} (hn : Sz n) : tb (belL n a h) c = (decide (c < n * n * n) && decide (side n c a < h)) := by
  unfold belL
  rw [tb_mkL]
  have := hn.cube
  by_cases q : c < n * n * n
  · simp [q, show c < 64 by omega]
  · simp [q]
theorem belL_0 {n a : Nat} (hn : Sz n) : belL n a 0 = 0 := tb_ext fun c _ => by rw [tb_belL hn, tb_0]; simp
theorem belL_s {n a h : Nat} (hn : Sz n) : belL n a h ||| layL n a h = belL n a (h + 1) := tb_ext fun c _ => by
  rw [tb_or, tb_belL hn, tb_layL hn, tb_belL hn]
  by_cases q : c < n * n * n
  · simp only [q, decide_true, Bool.true_and]
    by_cases z : side n c a < h
    · simp [z, show side n c a < h + 1 by omega]
    · by_cases y : side n c a = h
      · simp [y]
      · simp [z, y, show ¬ side n c a < h + 1 by omega]
  · simp [q]
theorem X0_below {σ : q_M} {k n a h : Nat} (B : Blk σ k n) (ha : a < 3) (hh : h ≤ 4) : fX0_below k (nI a) (nI h) σ = some (belL n a h, σ) := by
  have hn := B.1
  unfold fX0_below
  rw [← belL_0 (a := a) hn]
  refine lq2 (fX0_below_c5 k (nI a) (nI h)) σ (belL n a) h _ (by omega) ?_ ?_
  · intro m i hi
    show fX0_below_c5b k (nI a) (nI h) (fX0_below_c5 k (nI a) (nI h) m) (belL n a i) (nI i) σ = _
    unfold fX0_below_c5b
    rw [if_neg (nI_ge hi (by omega)), X0_layer B ha (by omega), bs, nI_1]
    show fX0_below_c5 k (nI a) (nI h) m (belL n a i ||| layL n a i) (nI (i + 1)) σ = _
    rw [belL_s hn]
  · intro m
    show fX0_below_c5b k (nI a) (nI h) (fX0_below_c5 k (nI a) (nI h) m) (belL n a h) (nI h) σ = _
    unfold fX0_below_c5b
    rw [if_pos (nI_le (Nat.le_refl _) (by omega))]
/-- m steps on by a way -/
def shfs (n w : Nat) (x : Int64) : Nat → Int64
  | 0 => x
  | m + 1 => shf n w (shfs n w x m)
theorem inB_shfs {n w : Nat} {x : Int64} (hx : inB n x) : ∀ m, inB n (shfs n w x m)
  | 0 => hx
  | _ + 1 => inB_shf n w _
/-- what m steps on touch -/
def trk (n w : Nat) (x : Int64) : Nat → Int64
  | 0 => 0
  | m + 1 => trk n w x m ||| shfs n w x (m + 1)
theorem nI_xor1 : ∀ w, w < 6 → nI w ^^^ 1 = nI (w ^^^ 1) := by decide +kernel
theorem X0_behind {σ : q_M} {k n w : Nat} {x : Int64} (B : Blk σ k n) (hw : w < 6) (hx : inB n x) : fX0_behind k x (nI w) σ = some (trk n (w ^^^ 1) x (n - 1), σ) := by
  have hn := B.1
  have n0 := hn.pos
  have n4 := hn.le
  unfold fX0_behind
  refine lp_run (fun m (i : Nat) => fX0_behind_c9 k x (nI w) m (trk n (w ^^^ 1) x i) (shfs n (w ^^^ 1) x i) (nI (i + 1)) σ) id (n - 1) _ ?_ ?_ q_FU (by show _ < 400; omega)
  · intro m i hi
    show fX0_behind_c9b k x (nI w) (fX0_behind_c9 k x (nI w) m) (trk n (w ^^^ 1) x i) (shfs n (w ^^^ 1) x i) (nI (i + 1)) σ = fX0_behind_c9 k x (nI w) m (trk n (w ^^^ 1) x i ||| shf n (w ^^^ 1) (shfs n (w ^^^ 1) x i)) (shf n (w ^^^ 1) (shfs n (w ^^^ 1) x i)) (nI (i + 1 + 1)) σ
    unfold fX0_behind_c9b
    rw [B.2.1, if_neg (nI_ge (show i + 1 < n by omega) (by omega)), nI_xor1 w hw, X0_shifted B (xor11 w hw).2 (inB_shfs hx i), bs, nI_1]
  · intro m
    show fX0_behind_c9b k x (nI w) (fX0_behind_c9 k x (nI w) m) (trk n (w ^^^ 1) x (n - 1)) (shfs n (w ^^^ 1) x (n - 1)) (nI (n - 1 + 1)) σ = _
    unfold fX0_behind_c9b
    rw [B.2.1, if_pos (nI_le (show n ≤ n - 1 + 1 by omega) (by omega))]
/-- the cubes beside a set -/
def bsd (n : Nat) (x : Int64) : Nat → Int64
  | 0 => 0
  | w + 1 => bsd n x w ||| shf n w x
theorem inB_bsd (n : Nat) (x : Int64) : ∀ w, inB n (bsd n x w)
  | 0 => inB_0 n
  | w + 1 => inB_or (inB_bsd n x w) (inB_shf n w x)
theorem X0_beside {σ : q_M} {k n : Nat} {x : Int64} (B : Blk σ k n) (hx : inB n x) : fX0_beside k x σ = some (bsd n x 6, σ) := by
  unfold fX0_beside
  refine lq2 (fX0_beside_c5 k x) σ (bsd n x) 6 _ (by decide) ?_ ?_
  · intro m i hi
    show fX0_beside_c5b k x (fX0_beside_c5 k x m) (bsd n x i) (nI i) σ = fX0_beside_c5 k x m (bsd n x i ||| shf n i x) (nI (i + 1)) σ
    unfold fX0_beside_c5b
    rw [if_neg (show ¬ (6 : Int32) ≤ nI i from nI_ge (a := i) (b := 6) hi (by decide)), X0_shifted B hi hx, bs, nI_1]
  · intro m
    show fX0_beside_c5b k x (fX0_beside_c5 k x m) (bsd n x 6) (nI 6) σ = _
    unfold fX0_beside_c5b
    rw [if_pos (show (6 : Int32) ≤ nI 6 by decide)]
/-- two cubes are beside each other -/
def adj (n c d : Nat) : Prop := ∃ w, w < 6 ∧ nbr n c w = some d
theorem adj_sym {n : Nat} (hn : Sz n) {c d : Nat} (hc : c < n * n * n) (h : adj n c d) : adj n d c := by
  obtain ⟨w, hw, h⟩ := h
  exact ⟨w ^^^ 1, (xor11 w hw).2, nbr_back hn hc hw h⟩
theorem tb_bsd {n : Nat} (hn : Sz n) (x : Int64) (c : Nat) : ∀ m, m ≤ 6 → (tb (bsd n x m) c = true ↔ c < n * n * n ∧ ∃ w, w < m ∧ ∃ d, nbr n c (w ^^^ 1) = some d ∧ tb x d = true)
  | 0, _ => by
    constructor
    · intro h
      have h' : tb 0 c = true := h
      rw [tb_0] at h'; cases h'
    · rintro ⟨_, w, h, _⟩
      omega
  | m + 1, hm => by
    have ih := tb_bsd hn x c m (by omega)
    show tb (bsd n x m ||| shf n m x) c = true ↔ _
    rw [tb_or, Bool.or_eq_true, ih, tb_shf hn, Bool.and_eq_true, decide_eq_true_iff]
    constructor
    · rintro (⟨h, w, h1, h2⟩ | ⟨h, h2⟩)
      · exact ⟨h, w, by omega, h2⟩
      · cases q : nbr n c (m ^^^ 1) with
        | none => rw [q] at h2; simp [tbo] at h2
        | some d => rw [q] at h2; exact ⟨h, m, by omega, d, q, h2⟩
    · rintro ⟨h, w, h1, d, h2, h3⟩
      rcases Nat.lt_or_ge w m with z | z
      · exact Or.inl ⟨h, w, z, d, h2, h3⟩
      · have : w = m := by omega
        subst this
        refine Or.inr ⟨h, ?_⟩
        rw [h2]
        exact h3
theorem tb_bs6 {n : Nat} (hn : Sz n) (x : Int64) (c : Nat) : tb (bsd n x 6) c = true ↔ c < n * n * n ∧ ∃ d, adj n c d ∧ tb x d = true := by
  rw [tb_bsd hn x c 6 (Nat.le_refl _)]
  constructor
  · rintro ⟨h, w, hw, d, h1, h2⟩
    exact ⟨h, d, ⟨w ^^^ 1, (xor11 w hw).2, h1⟩, h2⟩
  · rintro ⟨h, d, ⟨w, hw, h1⟩, h2⟩
    exact ⟨h, w ^^^ 1, (xor11 w hw).2, d, by rw [(xor11 w hw).1]; exact h1, h2⟩
