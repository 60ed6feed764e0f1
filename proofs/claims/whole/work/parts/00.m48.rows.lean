/-! Rows, and walking along them. -/
theorem gd2 {α : Type} {j n : Nat} {x : Option α} (h : j < n) (hn : n < 2 ^ 31) : (if ¬ (nI j < 0 ∨ n ≤ j) then x else none) = x := if_pos (fun z => by
  rcases z with z | z
  · exact nI_pos (by omega) z
  · omega)
theorem side_lt {n : Nat} (hn : Sz n) {c a : Nat} (hc : c < n * n * n) (ha : a < 3) : side n c a < n := by
  rcases hn with rfl | rfl | rfl
  · exact (by decide +kernel : ∀ c, c < 2 * 2 * 2 → ∀ a, a < 3 → side 2 c a < 2) c hc a ha
  · exact (by decide +kernel : ∀ c, c < 3 * 3 * 3 → ∀ a, a < 3 → side 3 c a < 3) c hc a ha
  · exact (by decide +kernel : ∀ c, c < 4 * 4 * 4 → ∀ a, a < 3 → side 4 c a < 4) c hc a ha
theorem and_bit0 {x : Int64} {c : Nat} (hc : c < 64) : (x &&& bit c) = 0 ↔ tb x c = false := by
  constructor
  · intro h
    have h1 : tb (x &&& bit c) c = false := by rw [h]; exact tb_0 c
    rw [tb_and, (tb_b hc).mpr rfl, Bool.and_true] at h1
    exact h1
  · intro h
    apply tb_ext
    intro d _
    rw [tb_and, tb_0]
    cases q : tb (bit c) d with
    | false => rw [Bool.and_false]
    | true => rw [(tb_b hc).mp q, h]; rfl
theorem bit_and0 {x : Int64} {c : Nat} (hc : c < 64) : (bit c &&& x) = 0 ↔ tb x c = false := by
  rw [← and_bit0 hc]
  have : bit c &&& x = x &&& bit c := tb_ext fun d _ => by rw [tb_and, tb_and, Bool.and_comm]
  rw [this]
theorem and_ac (x y : Int64) : x &&& y = y &&& x := tb_ext fun d _ => by rw [tb_and, tb_and, Bool.and_comm]
theorem and_0 {x y : Int64} : (x &&& y) = 0 ↔ ∀ c, tb x c = true → tb y c = false := by
  constructor
  · intro h c hc
    have h1 : tb (x &&& y) c = false := by rw [h]; exact tb_0 c
    rw [tb_and, hc, Bool.true_and] at h1
    exact h1
  · intro h
    apply tb_ext
    intro c _
    rw [tb_and, tb_0]
    cases q : tb x c with
    | false => rfl
    | true => rw [h c q]; rfl
/-- the row along an axis that has a cube -/
def inRw (n c a d : Nat) : Bool := (decide (a = 0) || decide (side n d 0 = side n c 0)) && ((decide (a = 1) || decide (side n d 1 = side n c 1)) && (decide (a = 2) || decide (side n d 2 = side n c 2)))
def rwL (n c a : Nat) : Int64 := mkL fun d => decide (d < n * n * n) && inRw n c a d
theorem inRw_iff {n c a d : Nat} : inRw n c a d = true ↔ ∀ b, b < 3 → b ≠ a → side n d b = side n c b := by
  unfold inRw
  simp only [Bool.and_eq_true, Bool.or_eq_true, decide_eq_true_iff]
  constructor
  · rintro ⟨h0, h1, h2⟩ b hb hba
    rcases (show b = 0 ∨ b = 1 ∨ b = 2 by omega) with rfl | rfl | rfl
    · rcases h0 with h | h
      · exact absurd h.symm hba
      · exact h
    · rcases h1 with h | h
      · exact absurd h.symm hba
      · exact h
    · rcases h2 with h | h
      · exact absurd h.symm hba
      · exact h
  · intro h
    refine ⟨?_, ?_, ?_⟩
    · by_cases q : a = 0
      · exact Or.inl q
      · exact Or.inr (h 0 (by decide) (fun z => q z.symm))
    · by_cases q : a = 1
      · exact Or.inl q
      · exact Or.inr (h 1 (by decide) (fun z => q z.symm))
    · by_cases q : a = 2
      · exact Or.inl q
      · exact Or.inr (h 2 (by decide) (fun z => q z.symm))
theorem tb_rwL {n c a d : Nat} (hn : Sz n) : tb (rwL n c a) d = (decide (d < n * n * n) && inRw n c a d) := by
  unfold rwL
  rw [tb_mkL]
  have := hn.cube
  by_cases q : d < n * n * n
  · simp [q, show d < 64 by omega]
  · simp [q]
def fndR (n c a : Nat) : Nat → Int64
  | 0 => allL n
  | j + 1 => if j / 4 ≠ a ∧ side n c (j / 4) = j % 4 then fndR n c a j &&& layL n (j / 4) (j % 4) else fndR n c a j
theorem tb_fndR {n c a d : Nat} (hn : Sz n) : ∀ j, (tb (fndR n c a j) d = true ↔ d < n * n * n ∧ ∀ i, i < j → i / 4 ≠ a → side n c (i / 4) = i % 4 → side n d (i / 4) = i % 4)
  | 0 => by
    show tb (allL n) d = true ↔ _
    rw [tb_allL hn, decide_eq_true_iff]
    exact ⟨fun h => ⟨h, fun i hi => by omega⟩, fun h => h.1⟩
  | j + 1 => by
    have ih := tb_fndR (c := c) (a := a) (d := d) hn j
    unfold fndR
    by_cases q : j / 4 ≠ a ∧ side n c (j / 4) = j % 4
    · rw [if_pos q, tb_and, Bool.and_eq_true, ih, tb_layL hn, Bool.and_eq_true, decide_eq_true_iff, decide_eq_true_iff]
      constructor
      · rintro ⟨⟨h1, h2⟩, _, h3⟩
        refine ⟨h1, fun i hi => ?_⟩
        rcases Nat.lt_or_ge i j with z | z
        · exact h2 i z
        · rw [show i = j by omega]; exact fun _ _ => h3
      · rintro ⟨h1, h2⟩
        exact ⟨⟨h1, fun i hi => h2 i (by omega)⟩, h1, h2 j (by omega) q.1 q.2⟩
    · rw [if_neg q, ih]
      constructor
      · rintro ⟨h1, h2⟩
        refine ⟨h1, fun i hi => ?_⟩
        rcases Nat.lt_or_ge i j with z | z
        · exact h2 i z
        · rw [show i = j by omega]; exact fun z1 z2 => absurd ⟨z1, z2⟩ q
      · rintro ⟨h1, h2⟩
        exact ⟨h1, fun i hi => h2 i (by omega)⟩
theorem fndR_12 {n c a : Nat} (hn : Sz n) (hc : c < n * n * n) : fndR n c a 12 = rwL n c a := tb_ext fun d _ => by
  rw [Bool.eq_iff_iff, tb_fndR hn, tb_rwL hn, Bool.and_eq_true, decide_eq_true_iff, inRw_iff]
  have n4 := hn.le
  constructor
  · rintro ⟨h1, h2⟩
    refine ⟨h1, fun b hb hba => ?_⟩
    have hs := side_lt hn hc hb
    have := h2 (4 * b + side n c b) (by omega)
    rw [show (4 * b + side n c b) / 4 = b by omega, show (4 * b + side n c b) % 4 = side n c b by omega] at this
    exact this hba rfl
  · rintro ⟨h1, h2⟩
    refine ⟨h1, fun i hi hia hs => ?_⟩
    rw [← hs]
    exact h2 (i / 4) (by omega) hia
theorem X0_rowThrough {σ : q_M} {k n c a : Nat} (B : Blk σ k n) (hc : c < n * n * n) (ha : a < 3) : fX0_rowThrough k (bit c) (nI a) σ = some (rwL n c a, σ) := by
  have hn := B.1
  have h64 := hn.cube
  unfold fX0_rowThrough
  rw [B.2.2.2.1, ← fndR_12 hn hc]
  refine lq2 (fX0_rowThrough_c9 k (bit c) (nI a)) σ (fndR n c a) 12 _ (by decide) ?_ ?_
  · intro m i hi
    show fX0_rowThrough_c9b k (bit c) (nI a) (fX0_rowThrough_c9 k (bit c) (nI a) m) (fndR n c a i) (nI i) σ = _
    have h39 : ∀ rec9, fX0_rowThrough_c39 k (bit c) (nI a) rec9 (fndR n c a i) (nI i) 1 σ = if side n c (i / 4) = i % 4 then rec9 (fndR n c a i &&& layL n (i / 4) (i % 4)) (nI (i + 1)) σ else rec9 (fndR n c a i) (nI (i + 1)) σ := by
      intro rec9
      have hl : σ.2 (k + 2) i = layL n (i / 4) (i % 4) := by
        have := B.2.2.2.2.2.1 (i / 4) (i % 4) (by omega) (by omega)
        rw [show 4 * (i / 4) + i % 4 = i by omega] at this
        exact this
      unfold fX0_rowThrough_c39
      rw [if_neg (show ¬ (1 : Int32) = 0 by decide), gd hi (by decide), nI_clamp (by omega), hl, nI_1]
      by_cases q : side n c (i / 4) = i % 4
      · have h0 : ¬ (layL n (i / 4) (i % 4) &&& bit c) = 0 := fun z => by
          have := (and_bit0 (by omega)).mp z
          rw [tb_layL hn] at this
          simp [hc, q] at this
        rw [if_neg h0, if_pos q, gd2 hi (by decide), ql]
      · have h0 : (layL n (i / 4) (i % 4) &&& bit c) = 0 := (and_bit0 (by omega)).mpr (by rw [tb_layL hn]; simp [q])
        rw [if_pos h0, if_neg q]
    unfold fX0_rowThrough_c9b
    rw [if_neg (show ¬ (12 : Int32) ≤ nI i from nI_ge (a := i) (b := 12) hi (by decide)), show (4 : Int32) * nI a = nI (4 * a) from nI_mul 4 a, show (4 : Int32) * (nI a + 1) = nI (4 * (a + 1)) from by rw [nI_1]; exact nI_mul 4 (a + 1)]
    show _ = fX0_rowThrough_c9 k (bit c) (nI a) m (if i / 4 ≠ a ∧ side n c (i / 4) = i % 4 then fndR n c a i &&& layL n (i / 4) (i % 4) else fndR n c a i) (nI (i + 1)) σ
    by_cases q1 : i < 4 * a
    · rw [if_pos (nI_lt q1 (by omega)), h39]
      by_cases q : side n c (i / 4) = i % 4
      · rw [if_pos q, if_pos ⟨by omega, q⟩]
      · rw [if_neg q, if_neg (fun z => q z.2)]
    · rw [if_neg (nI_nlt (by omega) (by omega))]
      by_cases q2 : i < 4 * (a + 1)
      · rw [if_pos (nI_lt q2 (by omega)), if_neg (fun z => z.1 (by omega))]
        unfold fX0_rowThrough_c39
        rw [if_pos rfl, nI_1]
      · rw [if_neg (nI_nlt (by omega) (by omega)), h39]
        by_cases q : side n c (i / 4) = i % 4
        · rw [if_pos q, if_pos ⟨by omega, q⟩]
        · rw [if_neg q, if_neg (fun z => q z.2)]
  · intro m
    show fX0_rowThrough_c9b k (bit c) (nI a) (fX0_rowThrough_c9 k (bit c) (nI a) m) (fndR n c a 12) (nI 12) σ = _
    unfold fX0_rowThrough_c9b
    rw [if_pos (show (12 : Int32) ≤ nI 12 by decide)]
/-- the cube some steps by a way from another one -/
def nbi (n c w : Nat) : Nat → Option Nat
  | 0 => some c
  | i + 1 => match nbi n c w i with
    | some d => nbr n d w
    | none => none
theorem nbi_s {n c w i d : Nat} (h : nbi n c w i = some d) : nbi n c w (i + 1) = nbr n d w := by
  show (match nbi n c w i with | some d => nbr n d w | none => none) = _
  rw [h]
theorem nbi_z {n c w i : Nat} (h : nbi n c w i = none) : nbi n c w (i + 1) = none := by
  show (match nbi n c w i with | some d => nbr n d w | none => none) = _
  rw [h]
theorem nbi_f {n c w d : Nat} (h : nbr n c w = some d) : ∀ i, nbi n c w (i + 1) = nbi n d w i
  | 0 => by rw [nbi_s (d := c) rfl, h]; rfl
  | i + 1 => by
    have ih := nbi_f h i
    cases q : nbi n d w i with
    | none => rw [nbi_z (ih.trans q), nbi_z q]
    | some e => rw [nbi_s (ih.trans q), nbi_s q]
theorem nbi_fz {n c w : Nat} (h : nbr n c w = none) : ∀ i, nbi n c w (i + 1) = none
  | 0 => by rw [nbi_s (d := c) rfl, h]
  | i + 1 => nbi_z (nbi_fz h i)
def len (n c w : Nat) : Nat := if w % 2 = 0 then n - 1 - side n c (w / 2) else side n c (w / 2)
def wtb (n c w i : Nat) : Bool := (match nbi n c w i with
  | some d => decide (d < n * n * n) && decide (i ≤ len n c w)
  | none => decide (len n c w < i)) && decide (len n c w < n)
theorem wtb_t {n : Nat} (hn : Sz n) {c w i : Nat} (hc : c < n * n * n) (hw : w < 6) (hi : i < 5) : wtb n c w i = true := by
  rcases hn with rfl | rfl | rfl
  · exact (by decide +kernel : ∀ c, c < 2 * 2 * 2 → ∀ w, w < 6 → ∀ i, i < 5 → wtb 2 c w i = true) c hc w hw i hi
  · exact (by decide +kernel : ∀ c, c < 3 * 3 * 3 → ∀ w, w < 6 → ∀ i, i < 5 → wtb 3 c w i = true) c hc w hw i hi
  · exact (by decide +kernel : ∀ c, c < 4 * 4 * 4 → ∀ w, w < 6 → ∀ i, i < 5 → wtb 4 c w i = true) c hc w hw i hi
theorem len_lt {n : Nat} (hn : Sz n) {c w : Nat} (hc : c < n * n * n) (hw : w < 6) : len n c w < n := by
  have := wtb_t hn hc hw (show 0 < 5 by decide)
  unfold wtb at this
  rw [Bool.and_eq_true, decide_eq_true_iff] at this
  exact this.2
theorem nbi_in {n : Nat} (hn : Sz n) {c w i : Nat} (hc : c < n * n * n) (hw : w < 6) (hi : i ≤ len n c w) : ∃ d, d < n * n * n ∧ nbi n c w i = some d := by
  have h1 := len_lt hn hc hw
  have h2 := hn.le
  have := wtb_t hn hc hw (show i < 5 by omega)
  unfold wtb at this
  cases q : nbi n c w i with
  | some d =>
    rw [q] at this
    simp only [Bool.and_eq_true, decide_eq_true_iff] at this
    exact ⟨d, this.1.1, rfl⟩
  | none =>
    rw [q] at this
    simp only [Bool.and_eq_true, decide_eq_true_iff] at this
    omega
theorem nbi_out {n : Nat} (hn : Sz n) {c w : Nat} (hc : c < n * n * n) (hw : w < 6) : nbi n c w (len n c w + 1) = none := by
  have h1 := len_lt hn hc hw
  have h2 := hn.le
  have := wtb_t hn hc hw (show len n c w + 1 < 5 by omega)
  unfold wtb at this
  cases q : nbi n c w (len n c w + 1) with
  | none => rfl
  | some d =>
    rw [q] at this
    simp only [Bool.and_eq_true, decide_eq_true_iff] at this
    omega
theorem nbi_outs {n : Nat} (hn : Sz n) {c w : Nat} (hc : c < n * n * n) (hw : w < 6) : ∀ j, nbi n c w (len n c w + 1 + j) = none
  | 0 => nbi_out hn hc hw
  | j + 1 => nbi_z (nbi_outs hn hc hw j)
/-- the same, as the reference names it -/
def wk (n c w i : Nat) : Int32 := match nbi n c w i with
  | some d => nI d
  | none => -1
theorem wk_s {n c w i d : Nat} (h : nbi n c w i = some d) : wk n c w i = nI d := by unfold wk; rw [h]
theorem wk_n {n c w i : Nat} (h : nbi n c w i = none) : wk n c w i = -1 := by unfold wk; rw [h]
theorem wk_1 (n c w : Nat) : frm n c w = wk n c w 1 := by
  cases q : nbr n c w with
  | none => rw [frm_none q, wk_n (by rw [nbi_s (d := c) rfl, q])]
  | some d => rw [frm_some q, wk_s (d := d) (by rw [nbi_s (d := c) rfl, q])]
theorem wk_f {n c w i d : Nat} (h : nbi n c w i = some d) : frm n d w = wk n c w (i + 1) := by
  cases q : nbr n d w with
  | none => rw [frm_none q, wk_n (by rw [nbi_s h, q])]
  | some e => rw [frm_some q, wk_s (d := e) (by rw [nbi_s h, q])]
/-- whether a set has a cube ahead within some steps -/
def ahd (n : Nat) (x : Int64) (c w : Nat) : Nat → Bool
  | 0 => false
  | j + 1 => ahd n x c w j || tbo x (nbi n c w (j + 1))
def ahead (n : Nat) (x : Int64) (c w : Nat) : Bool := ahd n x c w (len n c w)
theorem ahd_ext {n : Nat} (hn : Sz n) {x : Int64} {c w : Nat} (hc : c < n * n * n) (hw : w < 6) : ∀ j, ahd n x c w (len n c w + j) = ahead n x c w
  | 0 => rfl
  | j + 1 => by
    show (ahd n x c w (len n c w + j) || tbo x (nbi n c w (len n c w + j + 1))) = _
    rw [ahd_ext hn hc hw j, show len n c w + j + 1 = len n c w + 1 + j by omega, nbi_outs hn hc hw j]
    show (ahead n x c w || false) = _
    rw [Bool.or_false]
theorem tb_shfs {n w : Nat} (hn : Sz n) (hw : w < 6) (x : Int64) : ∀ (m c : Nat), c < n * n * n → tb (shfs n (w ^^^ 1) x m) c = tbo x (nbi n c w m)
  | 0, c, _ => rfl
  | m + 1, c, hc => by
    show tb (shf n (w ^^^ 1) (shfs n (w ^^^ 1) x m)) c = _
    rw [tb_shf hn, (xor11 w hw).1]
    cases q : nbr n c w with
    | none =>
      rw [nbi_fz q m]
      simp [tbo]
    | some d =>
      rw [nbi_f q m]
      have hd := nbr_lt hn hc hw q
      have ih := tb_shfs hn hw x m d hd
      show (decide (c < n * n * n) && tb (shfs n (w ^^^ 1) x m) d) = _
      rw [ih]
      simp [hc]
theorem tb_trk {n w : Nat} (hn : Sz n) (hw : w < 6) {x : Int64} {c : Nat} (hc : c < n * n * n) : ∀ m, tb (trk n (w ^^^ 1) x m) c = ahd n x c w m
  | 0 => tb_0 c
  | m + 1 => by
    show tb (trk n (w ^^^ 1) x m ||| shfs n (w ^^^ 1) x (m + 1)) c = (ahd n x c w m || tbo x (nbi n c w (m + 1)))
    rw [tb_or, tb_trk hn hw hc m, tb_shfs hn hw x (m + 1) c hc]
theorem tb_trk1 {n w : Nat} (hn : Sz n) (hw : w < 6) {x : Int64} {c : Nat} (hc : c < n * n * n) : tb (trk n (w ^^^ 1) x (n - 1)) c = ahead n x c w := by
  have h := len_lt hn hc hw
  rw [tb_trk hn hw hc, show n - 1 = len n c w + (n - 1 - len n c w) by omega, ahd_ext hn hc hw]
theorem shfs_0 {n w : Nat} (hn : Sz n) (hw : w < 6) {x : Int64} (hx : inB n x) {m : Nat} (hm : n ≤ m) : shfs n w x m = 0 := by
  have hw2 := (xor11 w hw).2
  have e : w = (w ^^^ 1) ^^^ 1 := (xor11 w hw).1.symm
  apply tb_ext
  intro c hc64
  rw [tb_0]
  by_cases hc : c < n * n * n
  · rw [e, tb_shfs hn hw2 x m c hc]
    have h := len_lt hn hc hw2
    have := nbi_outs hn hc hw2 (m - 1 - len n c (w ^^^ 1))
    rw [show len n c (w ^^^ 1) + 1 + (m - 1 - len n c (w ^^^ 1)) = m by omega] at this
    rw [this]
    rfl
  · cases z : tb (shfs n w x m) c with
    | false => rfl
    | true => exact absurd (inB_shfs hx m c z) hc
