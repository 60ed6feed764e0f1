/-! Operations: thin, tunnels, wrong. -/
def wkb (n c w : Nat) : Nat → Int64
  | 0 => 0
  | j + 1 => wkb n c w j ||| (match nbi n c w (j + 1) with | some d => q_shl 1 (nI d) | none => 0)
theorem wkb_s {n c w j d : Nat} (h : nbi n c w (j + 1) = some d) : wkb n c w (j + 1) = wkb n c w j ||| q_shl 1 (nI d) := by
  show wkb n c w j ||| (match nbi n c w (j + 1) with | some d => q_shl 1 (nI d) | none => 0) = _
  rw [h]
theorem wkb_n {n c w j : Nat} (h : nbi n c w (j + 1) = none) : wkb n c w (j + 1) = wkb n c w j := by
  show wkb n c w j ||| (match nbi n c w (j + 1) with | some d => q_shl 1 (nI d) | none => 0) = _
  rw [h, or0]
theorem wkb_ext {n : Nat} (hn : Sz n) {c w : Nat} (hc : c < n * n * n) (hw : w < 6) : ∀ j, wkb n c w (len n c w + j) = wkb n c w (len n c w)
  | 0 => rfl
  | j + 1 => by
    have := nbi_outs hn hc hw j
    rw [show len n c w + 1 + j = len n c w + j + 1 by omega] at this
    show wkb n c w (len n c w + j + 1) = _
    rw [wkb_n this, wkb_ext hn hc hw j]
theorem wkb_3 {n : Nat} (hn : Sz n) {c w : Nat} (hc : c < n * n * n) (hw : w < 6) : wkb n c w (len n c w) = wkb n c w 3 := by
  have h1 := len_lt hn hc hw
  have h2 := hn.le
  rw [← wkb_ext hn hc hw (3 - len n c w), show len n c w + (3 - len n c w) = 3 by omega]
theorem row_tab {n : Nat} (hn : Sz n) {c a : Nat} (hc : c < n * n * n) (ha : a < 3) : q_shl 1 (nI c) ||| wkb n c (2 * a) 3 ||| wkb n c (2 * a + 1) 3 = rwL n c a := by
  rcases hn with rfl | rfl | rfl
  · exact (by decide +kernel : ∀ c, c < 2 * 2 * 2 → ∀ a, a < 3 → q_shl 1 (nI c) ||| wkb 2 c (2 * a) 3 ||| wkb 2 c (2 * a + 1) 3 = rwL 2 c a) c hc a ha
  · exact (by decide +kernel : ∀ c, c < 3 * 3 * 3 → ∀ a, a < 3 → q_shl 1 (nI c) ||| wkb 3 c (2 * a) 3 ||| wkb 3 c (2 * a + 1) 3 = rwL 3 c a) c hc a ha
  · exact (by decide +kernel : ∀ c, c < 4 * 4 * 4 → ∀ a, a < 3 → q_shl 1 (nI c) ||| wkb 4 c (2 * a) 3 ||| wkb 4 c (2 * a + 1) 3 = rwL 4 c a) c hc a ha
theorem M_row28 {τ : q_M} {n c w : Nat} {acc : Int64} {p1 p2 : Int32} (h : MN τ n) (hc : c < n * n * n) (hw : w < 6) (rec9 : Int64 → Int32 → q_M → Option (Int64 × q_M)) : fX9_rowOf_c28 0 p1 p2 rec9 q_FU acc (nI w) (wk n c w 1) τ = rec9 (acc ||| wkb n c w 3) (nI (w + 1)) τ := by
  have hn := h.1
  have h64 := hn.cube
  have n4 := hn.le
  have hl := len_lt hn hc hw
  rw [← wkb_3 hn hc hw]
  have key := lp_run (fun f (j : Nat) => fX9_rowOf_c28 0 p1 p2 rec9 f (acc ||| wkb n c w j) (nI w) (wk n c w (j + 1)) τ) id (len n c w) (rec9 (acc ||| wkb n c w (len n c w)) (nI (w + 1)) τ) ?_ ?_ q_FU (by show _ < 400; omega)
  · have k2 : fX9_rowOf_c28 0 p1 p2 rec9 q_FU (acc ||| wkb n c w 0) (nI w) (wk n c w 1) τ = _ := key
    rw [show acc ||| wkb n c w 0 = acc from or0 acc] at k2
    exact k2
  · intro f j hj
    obtain ⟨d, hd, e⟩ := nbi_in hn hc hw (show j + 1 ≤ len n c w by omega)
    show fX9_rowOf_c28b 0 p1 p2 rec9 (fX9_rowOf_c28 0 p1 p2 rec9 f) (acc ||| wkb n c w j) (nI w) (wk n c w (j + 1)) τ = fX9_rowOf_c28 0 p1 p2 rec9 f (acc ||| wkb n c w (j + 1)) (nI w) (wk n c w (j + 1 + 1)) τ
    unfold fX9_rowOf_c28b
    rw [wk_s e, if_neg (nI_m1 d (by omega)), ql, M_from h hd hw, bs, wk_f e, wkb_s e, or_as]
  · intro f
    show fX9_rowOf_c28b 0 p1 p2 rec9 (fX9_rowOf_c28 0 p1 p2 rec9 f) (acc ||| wkb n c w (len n c w)) (nI w) (wk n c w (len n c w + 1)) τ = _
    unfold fX9_rowOf_c28b
    rw [wk_n (nbi_out hn hc hw), if_pos rfl, nI_1]
theorem M_rowOf {τ : q_M} {n c a : Nat} (h : MN τ n) (hc : c < n * n * n) (ha : a < 3) : fX9_rowOf 0 (nI c) (nI a) τ = some (rwL n c a, τ) := by
  have e2 : (2 : Int32) * nI a = nI (2 * a) := nI_mul 2 a
  have e3 : (2 : Int32) * nI a + 1 = nI (2 * a + 1) := by rw [e2, nI_1]
  have st : ∀ f w acc, w < 6 → w ≤ 2 * a + 1 → fX9_rowOf_c9 0 (nI c) (nI a) (f + 1) acc (nI w) τ = fX9_rowOf_c9 0 (nI c) (nI a) f (acc ||| wkb n c w 3) (nI (w + 1)) τ := by
    intro f w acc hw hw2
    show fX9_rowOf_c9b 0 (nI c) (nI a) (fX9_rowOf_c9 0 (nI c) (nI a) f) acc (nI w) τ = _
    unfold fX9_rowOf_c9b
    rw [e3, if_neg (nI_nlt hw2 (by omega)), M_from h hc hw, bs, wk_1, M_row28 h hc hw]
  unfold fX9_rowOf
  rw [e2]
  have s1 : fX9_rowOf_c9 0 (nI c) (nI a) q_FU (q_shl 1 (nI c)) (nI (2 * a)) τ = _ := st 399 (2 * a) (q_shl 1 (nI c)) (by omega) (by omega)
  rw [s1, st 398 (2 * a + 1) _ (by omega) (by omega), row_tab h.1 hc ha]
  show fX9_rowOf_c9b 0 (nI c) (nI a) (fX9_rowOf_c9 0 (nI c) (nI a) 397) _ (nI (2 * a + 1 + 1)) τ = _
  unfold fX9_rowOf_c9b
  rw [e3, if_pos (nI_lt (by omega) (by omega))]
/-- the least that is there -/
def lsF (f : Nat → Nat) : Nat → Nat
  | 0 => 0
  | c + 1 => if f c = 0 then lsF f c else if lsF f c = 0 then f c else if f c < lsF f c then f c else lsF f c
theorem lsF_sp (f : Nat → Nat) : ∀ m, (lsF f m = 0 ∧ ∀ c, c < m → f c = 0) ∨ (0 < lsF f m ∧ (∃ c, c < m ∧ f c = lsF f m) ∧ ∀ c, c < m → f c ≠ 0 → lsF f m ≤ f c)
  | 0 => Or.inl ⟨rfl, fun c hc => by omega⟩
  | m + 1 => by
    have ih := lsF_sp f m
    unfold lsF
    by_cases q : f m = 0
    · rw [if_pos q]
      rcases ih with ⟨h1, h2⟩ | ⟨h1, ⟨c, h2, h3⟩, h4⟩
      · refine Or.inl ⟨h1, fun c hc => ?_⟩
        rcases Nat.lt_or_ge c m with z | z
        · exact h2 c z
        · rw [show c = m by omega]; exact q
      · refine Or.inr ⟨h1, ⟨c, by omega, h3⟩, fun c hc hn => ?_⟩
        rcases Nat.lt_or_ge c m with z | z
        · exact h4 c z hn
        · rw [show c = m by omega] at hn; exact absurd q hn
    · rw [if_neg q]
      rcases ih with ⟨h1, h2⟩ | ⟨h1, ⟨c, h2, h3⟩, h4⟩
      · rw [if_pos h1]
        refine Or.inr ⟨by omega, ⟨m, by omega, rfl⟩, fun c hc hn => ?_⟩
        rcases Nat.lt_or_ge c m with z | z
        · exact absurd (h2 c z) hn
        · rw [show c = m by omega]; exact Nat.le_refl _
      · rw [if_neg (by omega)]
        by_cases z : f m < lsF f m
        · rw [if_pos z]
          refine Or.inr ⟨by omega, ⟨m, by omega, rfl⟩, fun d hd hn => ?_⟩
          rcases Nat.lt_or_ge d m with y | y
          · have := h4 d y hn; omega
          · rw [show d = m by omega]; exact Nat.le_refl _
        · rw [if_neg z]
          refine Or.inr ⟨h1, ⟨c, by omega, h3⟩, fun d hd hn => ?_⟩
          rcases Nat.lt_or_ge d m with y | y
          · exact h4 d y hn
          · rw [show d = m by omega]; omega
theorem lsF_eq {f g : Nat → Nat} {m : Nat} (h1 : ∀ c, c < m → f c ≠ 0 → f c = g c) (h2 : ∀ c, c < m → g c ≠ 0 → ∃ d, d < m ∧ f d = g c) : lsF f m = lsF g m := by
  rcases lsF_sp f m with ⟨a1, a2⟩ | ⟨a1, ⟨c, a2, a3⟩, a4⟩
  · rcases lsF_sp g m with ⟨b1, b2⟩ | ⟨b1, ⟨d, b2, b3⟩, b4⟩
    · rw [a1, b1]
    · obtain ⟨e, e1, e2⟩ := h2 d b2 (by omega)
      have := a2 e e1
      omega
  · rcases lsF_sp g m with ⟨b1, b2⟩ | ⟨b1, ⟨d, b2, b3⟩, b4⟩
    · have := h1 c a2 (by omega)
      have := b2 c a2
      omega
    · have x1 := h1 c a2 (by omega)
      have x2 := b4 c a2 (by omega)
      obtain ⟨e, e1, e2⟩ := h2 d b2 (by omega)
      have x3 := a4 e e1 (by omega)
      omega
theorem X0_thin {σ : q_M} {k n a : Nat} {x : Int64} (B : Blk σ k n) (ha : a < 3) (hx : inB n x) : fX0_thinnestRow k x (nI a) σ = some (nI (lsF (fun c => if tb x c then cnt (x &&& rwL n c a) else 0) (n * n * n)), σ) := by
  have hn := B.1
  have h64 := hn.cube
  have rp : ∀ c, c < n * n * n → tb x c = true → cnt (x &&& rwL n c a) ≠ 0 := fun c hc hh z => by
    have := cnt_0 z
    have h1 : tb (x &&& rwL n c a) c = true := by rw [tb_and, hh, tb_rwL hn, decide_eq_true hc, inRw_iff.mpr (fun _ _ _ => rfl)]; rfl
    rw [this, tb_0] at h1; cases h1
  have lb : ∀ m, lsF (fun c => if tb x c then cnt (x &&& rwL n c a) else 0) m ≤ 64 := by
    intro m
    rcases lsF_sp (fun c => if tb x c then cnt (x &&& rwL n c a) else 0) m with ⟨z, _⟩ | ⟨_, ⟨c, _, z⟩, _⟩
    · omega
    · rw [← z]
      show (if tb x c then cnt (x &&& rwL n c a) else 0) ≤ 64
      have := cnt_le (x &&& rwL n c a)
      split <;> omega
  unfold fX0_thinnestRow
  refine lq2 (fX0_thinnestRow_c6 k x (nI a)) σ (fun i => nI (lsF (fun c => if tb x c then cnt (x &&& rwL n c a) else 0) i)) (n * n * n) _ (by omega) ?_ ?_
  · intro f i hi
    have l1 := lb i
    have l2 := cnt_le (x &&& rwL n i a)
    show fX0_thinnestRow_c6b k x (nI a) (fX0_thinnestRow_c6 k x (nI a) f) (nI (lsF (fun c => if tb x c then cnt (x &&& rwL n c a) else 0) i)) (nI i) σ = fX0_thinnestRow_c6 k x (nI a) f (nI (lsF (fun c => if tb x c then cnt (x &&& rwL n c a) else 0) (i + 1))) (nI (i + 1)) σ
    unfold fX0_thinnestRow_c6b
    rw [B.2.2.1, if_neg (nI_ge hi (by omega)), nI_1]
    have hu : lsF (fun c => if tb x c then cnt (x &&& rwL n c a) else 0) (i + 1) = if (if tb x i then cnt (x &&& rwL n i a) else 0) = 0 then lsF (fun c => if tb x c then cnt (x &&& rwL n c a) else 0) i else if lsF (fun c => if tb x c then cnt (x &&& rwL n c a) else 0) i = 0 then (if tb x i then cnt (x &&& rwL n i a) else 0) else if (if tb x i then cnt (x &&& rwL n i a) else 0) < lsF (fun c => if tb x c then cnt (x &&& rwL n c a) else 0) i then (if tb x i then cnt (x &&& rwL n i a) else 0) else lsF (fun c => if tb x c then cnt (x &&& rwL n c a) else 0) i := rfl
    rw [hu]
    generalize lsF (fun c => if tb x c then cnt (x &&& rwL n c a) else 0) i = L at l1
    cases q : tb x i with
    | false =>
      rw [if_pos ((and_sh0 (show i < 64 by omega)).mpr q), if_neg (show ¬ (false = true) by decide), if_pos rfl]
    | true =>
      have r0 := rp i hi q
      rw [if_neg (fun w => by rw [(and_sh0 (show i < 64 by omega)).mp w] at q; cases q), show q_shl 1 (nI i) = bit i from rfl, X0_rowThrough B hi ha, bs, J_bits, bs, if_pos rfl, if_neg r0]
      by_cases z : L = 0
      · rw [if_pos (show nI L = 0 by rw [z]; rfl), if_pos z]
      · rw [if_neg (nI_ne0 (by omega) (by omega)), if_neg z]
        by_cases y : cnt (x &&& rwL n i a) < L
        · rw [if_neg (nI_ge y (by omega)), if_pos y]
        · rw [if_pos (nI_le (show L ≤ cnt (x &&& rwL n i a) by omega) (show cnt (x &&& rwL n i a) < 2 ^ 31 by omega)), if_neg y]
  · intro f
    show fX0_thinnestRow_c6b k x (nI a) (fX0_thinnestRow_c6 k x (nI a) f) (nI (lsF (fun c => if tb x c then cnt (x &&& rwL n c a) else 0) (n * n * n))) (nI (n * n * n)) σ = _
    unfold fX0_thinnestRow_c6b
    rw [B.2.2.1, if_pos (nI_le (Nat.le_refl _) (by omega))]
theorem M_thin {τ : q_M} {n a i : Nat} (h : MN τ n) (ha : a < 3) (hi : i < 8) : fX9_thin_c32 0 (nI i) (nI a) q_FU 0 0 τ = some (nI (lsF (fun c => cnt (rwL n c a &&& τ.2 11 i)) (n * n * n)), τ) := by
  have hn := h.1
  have h64 := hn.cube
  have lb : ∀ m, lsF (fun c => cnt (rwL n c a &&& τ.2 11 i)) m ≤ 64 := by
    intro m
    rcases lsF_sp (fun c => cnt (rwL n c a &&& τ.2 11 i)) m with ⟨z, _⟩ | ⟨_, ⟨c, _, z⟩, _⟩
    · omega
    · rw [← z]; exact cnt_le _
  refine lq2 (fX9_thin_c32 0 (nI i) (nI a)) τ (fun c => nI (lsF (fun c => cnt (rwL n c a &&& τ.2 11 i)) c)) (n * n * n) _ (by omega) ?_ ?_
  · intro f c hc
    have l1 := lb c
    have l2 := cnt_le (rwL n c a &&& τ.2 11 i)
    show fX9_thin_c32b 0 (nI i) (nI a) (fX9_thin_c32 0 (nI i) (nI a) f) (nI (lsF (fun c => cnt (rwL n c a &&& τ.2 11 i)) c)) (nI c) τ = fX9_thin_c32 0 (nI i) (nI a) f (nI (if cnt (rwL n c a &&& τ.2 11 i) = 0 then lsF (fun c => cnt (rwL n c a &&& τ.2 11 i)) c else if lsF (fun c => cnt (rwL n c a &&& τ.2 11 i)) c = 0 then cnt (rwL n c a &&& τ.2 11 i) else if cnt (rwL n c a &&& τ.2 11 i) < lsF (fun c => cnt (rwL n c a &&& τ.2 11 i)) c then cnt (rwL n c a &&& τ.2 11 i) else lsF (fun c => cnt (rwL n c a &&& τ.2 11 i)) c)) (nI (c + 1)) τ
    unfold fX9_thin_c32b
    rw [M_many h, bs, if_neg (nI_ge hc (by omega)), M_rowOf h hc ha, bs, gd hi (by decide), nI_clamp (by omega), show τ.2 (0 + 11) i = τ.2 11 i from rfl, M_bits, bs, nI_1]
    generalize lsF (fun c => cnt (rwL n c a &&& τ.2 11 i)) c = L at l1
    generalize cnt (rwL n c a &&& τ.2 11 i) = C at l2
    by_cases y : C = 0
    · rw [if_pos (show nI C ≤ 0 by rw [y]; decide), if_pos y]
    · rw [if_neg (nI_nle (by omega) (by omega)), if_neg y]
      by_cases z : L = 0
      · rw [if_pos (show nI L = 0 by rw [z]; rfl), if_pos z]
      · rw [if_neg (nI_ne0 (by omega) (by omega)), if_neg z]
        by_cases w : C < L
        · rw [if_neg (nI_ge w (by omega)), if_pos w]
        · rw [if_pos (nI_le (by omega) (by omega)), if_neg w]
  · intro f
    show fX9_thin_c32b 0 (nI i) (nI a) (fX9_thin_c32 0 (nI i) (nI a) f) (nI (lsF (fun c => cnt (rwL n c a &&& τ.2 11 i)) (n * n * n))) (nI (n * n * n)) τ = _
    unfold fX9_thin_c32b
    rw [M_many h, bs, if_pos (nI_le (Nat.le_refl _) (by omega))]
theorem rwL_eq {n c d a : Nat} (hn : Sz n) (h : tb (rwL n c a) d = true) : rwL n d a = rwL n c a := by
  rw [tb_rwL hn, Bool.and_eq_true, inRw_iff] at h
  apply tb_ext
  intro e _
  rw [tb_rwL hn, tb_rwL hn]
  congr 1
  rw [Bool.eq_iff_iff, inRw_iff, inRw_iff]
  constructor
  · intro z b hb hba
    rw [z b hb hba]; exact h.2 b hb hba
  · intro z b hb hba
    rw [z b hb hba]; exact (h.2 b hb hba).symm
theorem op_thin : Op_thin RR := by
  intro σ τ N x y h
  have h0 := h
  obtain ⟨K, A, n, p, o, t, hR⟩ := h
  obtain ⟨h1, h2, h3, h4, h5, h6, h7, h8, h9, h10, h11, _⟩ := hR.2.1
  have hN : MN τ n := ⟨h1.1, h2⟩
  have B : Blk σ 2 n := h1
  have hn := h1.1
  unfold fX8_thin fX9_thin
  rw [X8_isPiece h6, bs, M_isPiece h7 h5, bs]
  rcases isI_c x (p := p) (by omega) with q | ⟨j, hj, rfl⟩
  · rw [q, b1_f, if_pos rfl, if_pos rfl, X_bad, bs, M_bad, bs]
    exact ⟨_, _, _, rfl, rfl, RR_rf h0 (by decide)⟩
  rw [isI_y hj (by omega), b1_t, if_neg b1_ne, if_neg b1_ne, X8_isAxis, bs, M_in2, bs]
  rcases isI_c y (p := 3) (by decide) with q | ⟨a, ha, rfl⟩
  · rw [q, b1_f, if_pos rfl, if_pos rfl, X_bad, bs, M_bad, bs]
    exact ⟨_, _, _, rfl, rfl, RR_rf h0 (by decide)⟩
  rw [isI_y ha (by decide), b1_t, if_neg b1_ne, if_neg b1_ne, gd (show j < 8 by omega) (by decide), nI_clamp (by omega), show σ.2 6 j = τ.2 11 j from (h11 j hj).1, X0_thin B ha (h11 j hj).2, bs, M_thin hN ha (by omega)]
  have e : lsF (fun c => if tb (τ.2 11 j) c then cnt (τ.2 11 j &&& rwL n c a) else 0) (n * n * n) = lsF (fun c => cnt (rwL n c a &&& τ.2 11 j)) (n * n * n) := by
    refine lsF_eq (fun c hc hne => ?_) (fun c hc hne => ?_)
    · show (if tb (τ.2 11 j) c then cnt (τ.2 11 j &&& rwL n c a) else 0) = _
      have hne' : (if tb (τ.2 11 j) c then cnt (τ.2 11 j &&& rwL n c a) else 0) ≠ 0 := hne
      cases q : tb (τ.2 11 j) c with
      | false => rw [q] at hne'; exact absurd rfl hne'
      | true => rw [if_pos rfl, and_ac]
    · have hne' : cnt (rwL n c a &&& τ.2 11 j) ≠ 0 := hne
      obtain ⟨d, _, d1, _⟩ := tb_ne0 (x := rwL n c a &&& τ.2 11 j) (fun z => hne' (by rw [z, cnt_z]))
      rw [tb_and, Bool.and_eq_true] at d1
      refine ⟨d, (h11 j hj).2 d d1.2, ?_⟩
      show (if tb (τ.2 11 j) d then cnt (τ.2 11 j &&& rwL n d a) else 0) = _
      rw [if_pos d1.2, rwL_eq hn d1.1, and_ac]
  rw [e]
  exact ⟨_, _, _, rfl, rfl, h0⟩
theorem lay_cnt {n : Nat} (hn : Sz n) {a : Nat} (ha : a < 3) : ctN (fun c => decide (side n c a = 0)) (n * n * n) = n * n := by
  rcases hn with rfl | rfl | rfl
  · exact (by decide +kernel : ∀ a, a < 3 → ctN (fun c => decide (side 2 c a = 0)) (2 * 2 * 2) = 2 * 2) a ha
  · exact (by decide +kernel : ∀ a, a < 3 → ctN (fun c => decide (side 3 c a = 0)) (3 * 3 * 3) = 3 * 3) a ha
  · exact (by decide +kernel : ∀ a, a < 3 → ctN (fun c => decide (side 4 c a = 0)) (4 * 4 * 4) = 4 * 4) a ha
theorem ctN_split (p q : Nat → Bool) : ∀ m, ctN (fun c => p c && q c) m + ctN (fun c => p c && !q c) m = ctN p m
  | 0 => rfl
  | m + 1 => by
    have ih := ctN_split p q m
    show ctN (fun c => p c && q c) m + (if (p m && q m) then 1 else 0) + (ctN (fun c => p c && !q c) m + (if (p m && !q m) then 1 else 0)) = ctN p m + (if p m then 1 else 0)
    cases p m <;> cases q m <;> simp <;> omega
theorem tb_wkb {n : Nat} (hn : Sz n) {c w : Nat} (hc : c < n * n * n) (hw : w < 6) {d : Nat} : ∀ m, m ≤ len n c w → (tb (wkb n c w m) d = true ↔ ∃ j, j < m ∧ nbi n c w (j + 1) = some d)
  | 0, _ => by
    show tb 0 d = true ↔ _
    rw [tb_0]
    constructor
    · intro h; cases h
    · rintro ⟨j, h, _⟩; omega
  | m + 1, hm => by
    have h64 := hn.cube
    have ih := tb_wkb hn hc hw (d := d) m (by omega)
    obtain ⟨e, he, q⟩ := nbi_in hn hc hw hm
    rw [wkb_s q, tb_or, Bool.or_eq_true, ih, tb_bit (show e < 64 by omega), decide_eq_true_iff]
    constructor
    · rintro (⟨j, h1, h2⟩ | h)
      · exact ⟨j, by omega, h2⟩
      · exact ⟨m, by omega, by rw [q, h]⟩
    · rintro ⟨j, h1, h2⟩
      rcases Nat.lt_or_ge j m with z | z
      · exact Or.inl ⟨j, z, h2⟩
      · rw [show j = m by omega, q] at h2
        exact Or.inr (Option.some.inj h2).symm
theorem ahd_iff {n : Nat} {x : Int64} {c w : Nat} : ∀ m, (ahd n x c w m = true ↔ ∃ j, j < m ∧ tbo x (nbi n c w (j + 1)) = true)
  | 0 => by
    constructor
    · intro h; cases h
    · rintro ⟨j, h, _⟩; omega
  | m + 1 => by
    have ih := ahd_iff (n := n) (x := x) (c := c) (w := w) m
    show (ahd n x c w m || tbo x (nbi n c w (m + 1))) = true ↔ _
    rw [Bool.or_eq_true, ih]
    constructor
    · rintro (⟨j, h1, h2⟩ | h)
      · exact ⟨j, by omega, h2⟩
      · exact ⟨m, by omega, h⟩
    · rintro ⟨j, h1, h2⟩
      rcases Nat.lt_or_ge j m with z | z
      · exact Or.inl ⟨j, z, h2⟩
      · rw [show j = m by omega] at h2; exact Or.inr h2
/-- a row that begins at the layer 0 has a cube of a set -/
theorem row_hit {n : Nat} (hn : Sz n) {c a : Nat} {x : Int64} (hc : c < n * n * n) (ha : a < 3) (h0 : side n c a = 0) : (rwL n c a &&& x) = 0 ↔ (tb x c || ahead n x c (2 * a)) = false := by
  have h64 := hn.cube
  have hl : len n c (2 * a + 1) = 0 := by
    unfold len
    rw [if_neg (by omega), show (2 * a + 1) / 2 = a by omega, h0]
  rw [← row_tab hn hc ha, ← wkb_3 hn hc (show 2 * a + 1 < 6 by omega), hl, show wkb n c (2 * a + 1) 0 = 0 from rfl, or0, ← wkb_3 hn hc (show 2 * a < 6 by omega), and_0]
  constructor
  · intro h
    rw [Bool.or_eq_false_iff]
    refine ⟨h c (by rw [tb_or, tb_bit (show c < 64 by omega), decide_eq_true rfl, Bool.true_or]), ?_⟩
    cases q : ahead n x c (2 * a) with
    | false => rfl
    | true =>
      obtain ⟨j, j1, j2⟩ := (ahd_iff _).mp q
      obtain ⟨d, hd, e⟩ := nbi_in hn hc (show 2 * a < 6 by omega) (show j + 1 ≤ len n c (2 * a) by omega)
      have := h d (by rw [tb_or, (tb_wkb hn hc (by omega) _ (Nat.le_refl _)).mpr ⟨j, j1, e⟩, Bool.or_true])
      rw [e] at j2
      have j2' : tb x d = true := j2
      rw [this] at j2'; cases j2'
  · intro h d hd
    rw [Bool.or_eq_false_iff] at h
    rw [tb_or, Bool.or_eq_true] at hd
    rcases hd with hd | hd
    · rw [tb_bit (show c < 64 by omega), decide_eq_true_iff] at hd
      rw [hd]; exact h.1
    · obtain ⟨j, j1, j2⟩ := (tb_wkb hn hc (by omega) _ (Nat.le_refl _)).mp hd
      cases q : tb x d with
      | false => rfl
      | true =>
        have : ahead n x c (2 * a) = true := (ahd_iff _).mpr ⟨j, j1, by rw [j2]; exact q⟩
        rw [h.2] at this; cases this
theorem op_tunnels : Op_tunnels RR := by
  intro σ τ N x h
  have h0 := h
  obtain ⟨K, A, n, p, o, t, hR⟩ := h
  obtain ⟨h1, h2, h3, h4, _⟩ := hR.2.1
  have hN : MN τ n := ⟨h1.1, h2⟩
  have B : Blk σ 2 n := h1
  have hn := h1.1
  have h64 := hn.cube
  have hsq := hn.sq
  have n4 := hn.le
  unfold fX8_tunnels fX9_tunnels
  rw [X8_isAxis, bs, M_in2, bs]
  rcases isI_c x (p := 3) (by decide) with q | ⟨a, ha, rfl⟩
  · rw [q, b1_f, if_pos rfl, if_pos rfl, X_bad, bs, M_bad, bs]
    exact ⟨_, _, _, rfl, rfl, RR_rf h0 (by decide)⟩
  · rw [isI_y ha (by decide), b1_t, if_neg b1_ne, if_neg b1_ne, show (2 : Int32) * nI a = nI (2 * a) from nI_mul 2 a, h3, X0_behind B (show 2 * a < 6 by omega) h4, bs, show fX0_layer 2 (nI a) 0 σ = _ from X0_layer B ha (show 0 < 4 by decide), bs, ql, J_bits, bs, B.2.1, nI_mul]
    let P : Nat → Bool := fun c => decide (side n c a = 0)
    let Q : Nat → Bool := fun c => tb (τ.2 0 12) c || ahead n (τ.2 0 12) c (2 * a)
    have c1 : cnt ((τ.2 0 12 ||| trk n ((2 * a) ^^^ 1) (τ.2 0 12) (n - 1)) &&& layL n a 0) = ctN (fun c => P c && Q c) (n * n * n) := by
      rw [cnt_in hn (inB_and_r (fun c hc => by rw [tb_layL hn, Bool.and_eq_true, decide_eq_true_iff] at hc; exact hc.1))]
      refine ctN_congr fun c hc => ?_
      show tb _ c = (decide (side n c a = 0) && (tb (τ.2 0 12) c || ahead n (τ.2 0 12) c (2 * a)))
      rw [tb_and, tb_or, tb_trk1 hn (by omega) hc, tb_layL hn, decide_eq_true hc, Bool.true_and, Bool.and_comm]
    have c2 := ctN_split P Q (n * n * n)
    have c3 : ctN P (n * n * n) = n * n := lay_cnt hn ha
    rw [c1, pk_sub (show ctN (fun c => P c && Q c) (n * n * n) ≤ n * n by omega), show n * n - ctN (fun c => P c && Q c) (n * n * n) = ctN (fun c => P c && !Q c) (n * n * n) by omega]
    refine ⟨_, σ, τ, rfl, ?_, h0⟩
    have a0 : ∀ m, nI m + 0 = nI m := fun m => nI_add m 0
    refine lq2 (fX9_tunnels_c23 0 (nI a)) τ (fun i => nI (ctN (fun c => P c && !Q c) i)) (n * n * n) _ (by omega) ?_ ?_
    · intro f i hi
      have hs := side_lt hn hi ha
      show fX9_tunnels_c23b 0 (nI a) (fX9_tunnels_c23 0 (nI a) f) (nI (ctN (fun c => P c && !Q c) i)) (nI i) τ = fX9_tunnels_c23 0 (nI a) f (nI (ctN (fun c => P c && !Q c) i + (if (decide (side n i a = 0) && !(tb (τ.2 0 12) i || ahead n (τ.2 0 12) i (2 * a))) then 1 else 0))) (nI (i + 1)) τ
      unfold fX9_tunnels_c23b
      rw [M_many hN, bs, if_neg (nI_ge hi (by omega)), M_side hN (by omega) ha, bs, nI_1, a0, nI_1]
      by_cases y : side n i a = 0
      · rw [if_pos (show nI (side n i a) = 0 by rw [y]; rfl), M_rowOf hN hi ha, bs, decide_eq_true y, Bool.true_and]
        by_cases z : (rwL n i a &&& τ.2 0 12) = 0
        · rw [if_pos z, (row_hit hn hi ha y).mp z]; rfl
        · rw [if_neg z]
          cases w : (tb (τ.2 0 12) i || ahead n (τ.2 0 12) i (2 * a)) with
          | false => exact absurd ((row_hit hn hi ha y).mpr w) z
          | true => rfl
      · rw [if_neg (nI_ne0 (by omega) (by omega)), decide_eq_false y]
        rfl
    · intro f
      show fX9_tunnels_c23b 0 (nI a) (fX9_tunnels_c23 0 (nI a) f) (nI (ctN (fun c => P c && !Q c) (n * n * n))) (nI (n * n * n)) τ = _
      unfold fX9_tunnels_c23b
      rw [M_many hN, bs, if_pos (nI_le (Nat.le_refl _) (by omega))]
