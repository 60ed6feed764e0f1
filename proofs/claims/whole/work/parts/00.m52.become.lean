/-! A block becomes one of a size. -/
theorem lp_ex {α β : Type} (F : Nat → α → Option β) (I : Nat → α → Prop) (N : Nat) (G : α → Option β) (hs : ∀ f i s, i < N → I i s → ∃ s', I (i + 1) s' ∧ F (f + 1) s = F f s') (he : ∀ f s, I N s → F (f + 1) s = G s) : ∀ f s, N < f → I 0 s → ∃ s', I N s' ∧ F f s = G s' := by
  have key : ∀ d i f s, i + d = N → d < f → I i s → ∃ s', I N s' ∧ F f s = G s' := by
    intro d
    induction d with
    | zero =>
      intro i f s h1 h2 h3
      obtain ⟨f, rfl⟩ : ∃ z, f = z + 1 := ⟨f - 1, by omega⟩
      rw [show i = N by omega] at h3
      exact ⟨s, h3, he f s h3⟩
    | succ d ih =>
      intro i f s h1 h2 h3
      obtain ⟨f, rfl⟩ : ∃ z, f = z + 1 := ⟨f - 1, by omega⟩
      obtain ⟨s1, e1, e2⟩ := hs f i s (by omega) h3
      obtain ⟨s2, e3, e4⟩ := ih (i + 1) f s1 (by omega) (by omega) e1
      exact ⟨s2, e3, e2.trans e4⟩
  intro f s h1 h2
  exact key N 0 f s (by omega) h1 h2
def bv (i : Nat) : Int64 := if i < 64 then q_shl 1 (nI i) else 0
theorem bv_s : ∀ i, i < 64 → q_shl (bv i) 1 = bv (i + 1) := by decide +kernel
theorem bv_in {i : Nat} (h : i < 64) : bv i = q_shl 1 (nI i) := if_pos h
/-- the layers as far as some cubes -/
def lyr (n a h i : Nat) : Int64 := mkN (fun c => decide (side n c a = h)) i
theorem lyr_t {n a h i : Nat} (e : side n i a = h) : lyr n a h (i + 1) = lyr n a h i ||| q_shl 1 (nI i) := mkN_t (decide_eq_true e)
theorem lyr_f {n a h i : Nat} (e : side n i a ≠ h) : lyr n a h (i + 1) = lyr n a h i := mkN_f (decide_eq_false e)
theorem lyr_all {n a h : Nat} (hn : Sz n) : lyr n a h (n * n * n) = layL n a h := tb_ext fun c _ => by
  unfold lyr
  rw [tb_mkN _ _ hn.cube, tb_layL hn]
/-- between: the layers are as far as some cubes, all else of the old memory stands -/
def Bcm (σ0 : q_M) (k n i : Nat) (σ : q_M) : Prop := ag (fun c _ => c ≠ k + 2) σ0 σ ∧ σ.1 = σ0.1 ∧ ∀ a h, a < 3 → h < 4 → σ.2 (k + 2) (4 * a + h) = lyr n a h i
theorem Bcm_s {σ0 σ : q_M} {k n i : Nat} (h : Bcm σ0 k n i σ) {x y z : Nat} (hx : side n i 0 = x) (hy : side n i 1 = y) (hz : side n i 2 = z) (x4 : x < 4) (y4 : y < 4) (z4 : z < 4) :
    Bcm σ0 k n (i + 1) (q_L (q_L (q_L σ (k + 2) x (σ.2 (k + 2) x ||| q_shl 1 (nI i))) (k + 2) (4 + y) (σ.2 (k + 2) (4 + y) ||| q_shl 1 (nI i))) (k + 2) (8 + z) (σ.2 (k + 2) (8 + z) ||| q_shl 1 (nI i))) := by
  obtain ⟨h1, h2, h3⟩ := h
  refine ⟨?_, h2, ?_⟩
  · refine ag_tr h1 (ag_tr (ag_L (fun w => w rfl)) (ag_tr (ag_L (fun w => w rfl)) (ag_L (fun w => w rfl))))
  · intro a e ha he
    rcases (show a = 0 ∨ a = 1 ∨ a = 2 by omega) with rfl | rfl | rfl
    · rw [L_of (by omega), L_of (by omega)]
      by_cases q : e = x
      · subst q
        rw [show 4 * 0 + e = e by omega, L_at, lyr_t hx, ← h3 0 e (by omega) he, show 4 * 0 + e = e by omega]
      · rw [L_of (by omega), lyr_f (by rw [hx]; exact fun w => q w.symm)]
        exact h3 0 e (by omega) he
    · rw [L_of (by omega)]
      by_cases q : e = y
      · subst q
        rw [show 4 * 1 + e = 4 + e by omega, L_at, lyr_t hy, ← h3 1 e (by omega) he, show 4 * 1 + e = 4 + e by omega]
      · rw [L_of (by omega), L_of (by omega), lyr_f (by rw [hy]; exact fun w => q w.symm)]
        exact h3 1 e (by omega) he
    · by_cases q : e = z
      · subst q
        rw [show 4 * 2 + e = 8 + e by omega, L_at, lyr_t hz, ← h3 2 e (by omega) he, show 4 * 2 + e = 8 + e by omega]
      · rw [L_of (by omega), L_of (by omega), L_of (by omega), lyr_f (by rw [hz]; exact fun w => q w.symm)]
        exact h3 2 e (by omega) he
def ixt (n z y x : Nat) : Bool := decide (side n (n * n * z + n * y + x) 0 = x) && decide (side n (n * n * z + n * y + x) 1 = y) && decide (side n (n * n * z + n * y + x) 2 = z) && decide (n * n * z + n * y + x < n * n * n)
theorem ixt_t {n : Nat} (hn : Sz n) {z y x : Nat} (hz : z < n) (hy : y < n) (hx : x < n) : side n (n * n * z + n * y + x) 0 = x ∧ side n (n * n * z + n * y + x) 1 = y ∧ side n (n * n * z + n * y + x) 2 = z ∧ n * n * z + n * y + x < n * n * n := by
  have h : ixt n z y x = true := by
    rcases hn with rfl | rfl | rfl
    · exact (by decide +kernel : ∀ z, z < 2 → ∀ y, y < 2 → ∀ x, x < 2 → ixt 2 z y x = true) z hz y hy x hx
    · exact (by decide +kernel : ∀ z, z < 3 → ∀ y, y < 3 → ∀ x, x < 3 → ixt 3 z y x = true) z hz y hy x hx
    · exact (by decide +kernel : ∀ z, z < 4 → ∀ y, y < 4 → ∀ x, x < 4 → ixt 4 z y x = true) z hz y hy x hx
  unfold ixt at h
  simp only [Bool.and_eq_true, decide_eq_true_iff] at h
  exact ⟨h.1.1.1, h.1.1.2, h.1.2, h.2⟩
theorem X0_bec95 {σ0 σ : q_M} {k n z y : Nat} (hn : Sz n) (hz : z < n) (hy : y < n) (rec77 : Int64 → Int32 → q_M → Option q_M) (rec86 : Int64 → Int32 → Int32 → q_M → Option q_M) (h : Bcm σ0 k n (n * n * z + n * y) σ) : ∃ σ', Bcm σ0 k n (n * n * z + n * (y + 1)) σ' ∧ fX0_become_c95 k (nI n) rec77 rec86 q_FU (bv (n * n * z + n * y)) (nI z) (nI y) 0 σ = rec86 (bv (n * n * z + n * (y + 1))) (nI z) (nI (y + 1)) σ' := by
  have n4 := hn.le
  have h64 := hn.cube
  have key := lp_ex (fun f (s : Nat × q_M) => fX0_become_c95 k (nI n) rec77 rec86 f (bv (n * n * z + n * y + s.1)) (nI z) (nI y) (nI s.1) s.2) (fun i s => s.1 = i ∧ Bcm σ0 k n (n * n * z + n * y + i) s.2) n (fun s => rec86 (bv (n * n * z + n * y + n)) (nI z) (nI (y + 1)) s.2) ?_ ?_ q_FU (0, σ) (by show _ < 400; omega) ⟨rfl, h⟩
  · obtain ⟨⟨i, σ'⟩, ⟨e1, e2⟩, e3⟩ := key
    have e : n * n * z + n * y + n = n * n * z + n * (y + 1) := by rw [Nat.mul_add, Nat.mul_one, Nat.add_assoc]
    rw [e] at e2 e3
    exact ⟨σ', e2, e3⟩
  · rintro f i ⟨j, σ2⟩ hi ⟨rfl, hB⟩
    have hx : j < n := hi
    obtain ⟨s0, s1, s2, s3⟩ := ixt_t hn hz hy hx
    refine ⟨(j + 1, q_L (q_L (q_L σ2 (k + 2) j (σ2.2 (k + 2) j ||| q_shl 1 (nI (n * n * z + n * y + j)))) (k + 2) (4 + y) (σ2.2 (k + 2) (4 + y) ||| q_shl 1 (nI (n * n * z + n * y + j)))) (k + 2) (8 + z) (σ2.2 (k + 2) (8 + z) ||| q_shl 1 (nI (n * n * z + n * y + j)))), ⟨rfl, Bcm_s hB s0 s1 s2 (by omega) (by omega) (by omega)⟩, ?_⟩
    show fX0_become_c95b k (nI n) rec77 rec86 (fX0_become_c95 k (nI n) rec77 rec86 f) (bv (n * n * z + n * y + j)) (nI z) (nI y) (nI j) σ2 = _
    unfold fX0_become_c95b
    rw [if_neg (nI_ge hx (by omega)), gd (show j < 12 by omega) (by decide), gd (show j < 12 by omega) (by decide), ql, show (4 : Int32) + nI y = nI (4 + y) from nI_add 4 y, gd (show 4 + y < 12 by omega) (by decide), gd (show 4 + y < 12 by omega) (by decide), ql, show (8 : Int32) + nI z = nI (8 + z) from nI_add 8 z, gd (show 8 + z < 12 by omega) (by decide), gd (show 8 + z < 12 by omega) (by decide), ql, nI_clamp (by omega), nI_clamp (by omega), nI_clamp (by omega), bv_s _ (by omega), nI_1, bv_in (show n * n * z + n * y + j < 64 by omega), L_of (show ¬ (k + 2 = k + 2 ∧ 4 + y = j) by omega), L_of (show ¬ (k + 2 = k + 2 ∧ 8 + z = 4 + y) by omega), L_of (show ¬ (k + 2 = k + 2 ∧ 8 + z = j) by omega)]
    rfl
  · rintro f ⟨j, σ2⟩ ⟨hj, hB⟩
    have hj' : j = n := hj
    subst hj'
    show fX0_become_c95b k (nI j) rec77 rec86 (fX0_become_c95 k (nI j) rec77 rec86 f) (bv (j * j * z + j * y + j)) (nI z) (nI y) (nI j) σ2 = _
    unfold fX0_become_c95b
    rw [if_pos (nI_le (Nat.le_refl _) (by omega)), nI_1]
theorem X0_bec86 {σ0 σ : q_M} {k n z : Nat} (hn : Sz n) (hz : z < n) (rec77 : Int64 → Int32 → q_M → Option q_M) (h : Bcm σ0 k n (n * n * z) σ) : ∃ σ', Bcm σ0 k n (n * n * (z + 1)) σ' ∧ fX0_become_c86 k (nI n) rec77 q_FU (bv (n * n * z)) (nI z) 0 σ = rec77 (bv (n * n * (z + 1))) (nI (z + 1)) σ' := by
  have n4 := hn.le
  have key := lp_ex (fun f (s : Nat × q_M) => fX0_become_c86 k (nI n) rec77 f (bv (n * n * z + n * s.1)) (nI z) (nI s.1) s.2) (fun i s => s.1 = i ∧ Bcm σ0 k n (n * n * z + n * i) s.2) n (fun s => rec77 (bv (n * n * z + n * n)) (nI (z + 1)) s.2) ?_ ?_ q_FU (0, σ) (by show _ < 400; omega) ⟨rfl, h⟩
  · obtain ⟨⟨i, σ'⟩, ⟨e1, e2⟩, e3⟩ := key
    have e : n * n * z + n * n = n * n * (z + 1) := by rw [Nat.mul_add, Nat.mul_one]
    rw [e] at e2 e3
    exact ⟨σ', e2, e3⟩
  · rintro f i ⟨j, σ2⟩ hi ⟨rfl, hB⟩
    have hx : j < n := hi
    obtain ⟨σ3, e1, e2⟩ := X0_bec95 hn hz hx rec77 (fX0_become_c86 k (nI n) rec77 f) hB
    refine ⟨(j + 1, σ3), ⟨rfl, e1⟩, ?_⟩
    show fX0_become_c86b k (nI n) rec77 (fX0_become_c86 k (nI n) rec77 f) (bv (n * n * z + n * j)) (nI z) (nI j) σ2 = _
    unfold fX0_become_c86b
    rw [if_neg (nI_ge hx (by omega))]
    exact e2
  · rintro f ⟨j, σ2⟩ ⟨hj, hB⟩
    have hj' : j = n := hj
    subst hj'
    show fX0_become_c86b k (nI j) rec77 (fX0_become_c86 k (nI j) rec77 f) (bv (j * j * z + j * j)) (nI z) (nI j) σ2 = _
    unfold fX0_become_c86b
    rw [if_pos (nI_le (Nat.le_refl _) (by omega)), nI_1]
/-- the ends, as far as some axes -/
def Ben (σ0 : q_M) (k n i : Nat) (σ : q_M) : Prop := ag (fun c _ => c ≠ k + 3) σ0 σ ∧ σ.1 = σ0.1 ∧ ∀ a, a < i → σ.2 (k + 3) (2 * a) = layL n a (n - 1) ∧ σ.2 (k + 3) (2 * a + 1) = layL n a 0
theorem X0_bec164 {σ : q_M} {k n : Nat} (hn : Sz n) (hl : ∀ a h, a < 3 → h < 4 → σ.2 (k + 2) (4 * a + h) = layL n a h) : ∃ σ', Ben σ k n 3 σ' ∧ fX0_become_c164 k (nI n) q_FU 0 σ = some σ' := by
  have n4 := hn.le
  have n0 := hn.pos
  have lay : ∀ σ2 a h, ag (fun c _ => c ≠ k + 3) σ σ2 → a < 3 → h < 4 → fX0_layer k (nI a) (nI h) σ2 = some (layL n a h, σ2) := by
    intro σ2 a h hag ha hh
    unfold fX0_layer
    rw [show (4 : Int32) * nI a + nI h = nI (4 * a + h) from by rw [show (4 : Int32) = nI 4 from rfl, nI_mul, nI_add], gd (by omega) (by decide), nI_clamp (by omega), (hag (k + 2) (4 * a + h) (by show k + 2 ≠ k + 3; omega)).2, hl a h ha hh]
  have key := lp_ex (fun f (s : Nat × q_M) => fX0_become_c164 k (nI n) f (nI s.1) s.2) (fun i s => s.1 = i ∧ Ben σ k n i s.2) 3 (fun s => some s.2) ?_ ?_ q_FU (0, σ) (by decide) ⟨rfl, ag_rf _ _, rfl, fun a ha => by omega⟩
  · obtain ⟨⟨i, σ'⟩, ⟨e1, e2⟩, e3⟩ := key
    exact ⟨σ', e2, e3⟩
  · rintro f i ⟨j, σ2⟩ hi ⟨rfl, h1, h2, h3⟩
    have hj : j < 3 := hi
    have ag1 : ag (fun c _ => c ≠ k + 3) σ (q_L σ2 (k + 3) (2 * j) (layL n j (n - 1))) := ag_tr h1 (ag_L (fun w => w rfl))
    refine ⟨(j + 1, q_L (q_L σ2 (k + 3) (2 * j) (layL n j (n - 1))) (k + 3) (2 * j + 1) (layL n j 0)), ⟨rfl, ag_tr ag1 (ag_L (fun w => w rfl)), h2, ?_⟩, ?_⟩
    · intro a ha
      by_cases q : a = j
      · subst q
        rw [L_of (by omega), L_at, L_at]
        exact ⟨rfl, rfl⟩
      · rw [L_of (by omega), L_of (by omega), L_of (by omega), L_of (by omega)]
        exact h3 a (by omega)
    · show fX0_become_c164b k (nI n) (fX0_become_c164 k (nI n) f) (nI j) σ2 = _
      unfold fX0_become_c164b
      rw [if_neg (show ¬ (3 : Int32) ≤ nI j from nI_ge (a := j) (b := 3) hj (by decide)), show nI n - 1 = nI (n - 1) from (by
        have := nI_pred (n - 1)
        rw [show n - 1 + 1 = n by omega] at this
        exact this), lay σ2 j (n - 1) h1 hj (by omega), bs, show (2 : Int32) * nI j = nI (2 * j) from nI_mul 2 j, gd (show 2 * j < 6 by omega) (by decide), ql, nI_clamp (by omega), show fX0_layer k (nI j) 0 (q_L σ2 (k + 3) (2 * j) (layL n j (n - 1))) = _ from lay _ j 0 ag1 hj (by decide), bs, nI_1, nI_1, gd (show 2 * j + 1 < 6 by omega) (by decide), ql, nI_clamp (by omega)]
  · rintro f ⟨j, σ2⟩ ⟨hj, hB⟩
    have hj' : j = 3 := hj
    subst hj'
    show fX0_become_c164b k (nI n) (fX0_become_c164 k (nI n) f) (nI 3) σ2 = _
    unfold fX0_become_c164b
    rw [if_pos (show (3 : Int32) ≤ nI 3 by decide)]
/-- filling a row of longs with noughts -/
theorem J_fill {σ : q_M} {k m : Nat} (hm : m < 100) : ∃ σ', ag (fun c _ => c ≠ k) σ σ' ∧ σ'.1 = σ.1 ∧ (∀ i, i < m → σ'.2 k i = 0) ∧ fJ7_fill_d0a16 k m 0 σ = some σ' := by
  have key := lp_ex (fun f (s : Nat × q_M) => fJ7_fill_d0a16_c6 k m 0 f (nI s.1) (nI m) s.2) (fun i s => s.1 = i ∧ ag (fun c _ => c ≠ k) σ s.2 ∧ s.2.1 = σ.1 ∧ ∀ j, j < i → s.2.2 k j = 0) m (fun s => some s.2) ?_ ?_ q_FU (0, σ) (by show _ < 400; omega) ⟨rfl, ag_rf _ _, rfl, fun a ha => by omega⟩
  · obtain ⟨⟨i, σ'⟩, ⟨e1, e2, e3, e4⟩, e5⟩ := key
    exact ⟨σ', e2, e3, e4, e5⟩
  · rintro f i ⟨j, σ2⟩ hi ⟨rfl, h1, h2, h3⟩
    have hj : j < m := hi
    refine ⟨(j + 1, q_L σ2 k j 0), ⟨rfl, ag_tr h1 (ag_L (fun w => w rfl)), h2, ?_⟩, ?_⟩
    · intro a ha
      show (q_L σ2 k j 0).2 k a = 0
      by_cases q : a = j
      · subst q; exact L_at
      · rw [L_of (fun z => q z.2)]; exact h3 a (by omega)
    · show fJ7_fill_d0a16_c6b k m 0 (fJ7_fill_d0a16_c6 k m 0 f) (nI j) (nI m) σ2 = _
      unfold fJ7_fill_d0a16_c6b
      rw [if_neg (nI_ge hj (by omega)), gd hj (by omega), ql, nI_clamp (by omega), nI_1]
  · rintro f ⟨j, σ2⟩ ⟨hj, hB⟩
    have hj' : j = m := hj
    subst hj'
    show fJ7_fill_d0a16_c6b k j 0 (fJ7_fill_d0a16_c6 k j 0 f) (nI j) (nI j) σ2 = _
    unfold fJ7_fill_d0a16_c6b
    rw [if_pos (nI_le (Nat.le_refl _) (by omega))]
theorem X0_become {σ : q_M} {k n : Nat} (hn : Sz n) : ∃ σ', Blk σ' k n ∧ ag (fun c _ => c < k ∨ k + 3 < c) σ σ' ∧ (∀ j, 3 ≤ j → σ'.1 k j = σ.1 k j ∧ σ'.2 k j = σ.2 k j) ∧ fX0_become k (nI n) σ = some σ' := by
  have n4 := hn.le
  have n0 := hn.pos
  have h64 := hn.cube
  let σa : q_M := q_I (q_I σ k 0 (nI n)) k 1 (nI (n * n * n))
  let σb : q_M := q_I (q_I (q_I (q_L σa k 2 (allL n)) (k + 1) 0 1) (k + 1) 1 (nI n)) (k + 1) 2 (nI (n * n))
  obtain ⟨σc, c1, c2, c3, c4⟩ := J_fill (σ := σb) (k := k + 2) (m := 12) (by decide)
  have hB0 : Bcm σc k n (n * n * 0) σc := ⟨ag_rf _ _, rfl, fun a h ha hh => by
    rw [Nat.mul_zero]
    exact c3 (4 * a + h) (by omega)⟩
  have key := lp_ex (fun f (s : Nat × q_M) => fX0_become_c77 k (nI n) f (bv (n * n * s.1)) (nI s.1) s.2) (fun i s => s.1 = i ∧ Bcm σc k n (n * n * i) s.2) n (fun s => fX0_become_c164 k (nI n) q_FU 0 s.2) ?_ ?_ q_FU (0, σc) (by show _ < 400; omega) ⟨rfl, hB0⟩
  · obtain ⟨⟨i, σd⟩, ⟨e1, d1, d2, d3⟩, e5⟩ := key
    obtain ⟨σe, ⟨f1, f2, f3⟩, f4⟩ := X0_bec164 (σ := σd) (k := k) hn (fun a h ha hh => by rw [d3 a h ha hh, lyr_all hn])
    have e6 : fX0_become_c77 k (nI n) q_FU 1 0 σc = some σe := by
      have e5' : fX0_become_c77 k (nI n) q_FU (bv (n * n * 0)) (nI 0) σc = fX0_become_c164 k (nI n) q_FU 0 σd := e5
      rw [f4] at e5'
      rw [← e5', Nat.mul_zero]
      rfl
    have eI : σe.1 = σb.1 := by rw [f2, d2, c2]
    have eL : ∀ c j, c ≠ k + 2 → c ≠ k + 3 → σe.2 c j = σb.2 c j := fun c j z1 z2 => by
      rw [(f1 c j z2).2, (d1 c j z1).2, (c1 c j z1).2]
    refine ⟨σe, ⟨hn, ?_, ?_, ?_, ?_, ?_, ?_⟩, ?_, ?_, ?_⟩
    · rw [eI]
      show (q_I (q_I (q_I (q_L σa k 2 (allL n)) (k + 1) 0 1) (k + 1) 1 (nI n)) (k + 1) 2 (nI (n * n))).1 k 0 = _
      rw [I_of (by omega), I_of (by omega), I_of (by omega), L_1]
      show (q_I (q_I σ k 0 (nI n)) k 1 (nI (n * n * n))).1 k 0 = _
      rw [I_of (by omega), I_at]
    · rw [eI]
      show (q_I (q_I (q_I (q_L σa k 2 (allL n)) (k + 1) 0 1) (k + 1) 1 (nI n)) (k + 1) 2 (nI (n * n))).1 k 1 = _
      rw [I_of (by omega), I_of (by omega), I_of (by omega), L_1]
      show (q_I (q_I σ k 0 (nI n)) k 1 (nI (n * n * n))).1 k 1 = _
      rw [I_at]
    · rw [eL k 2 (by omega) (by omega)]
      show (q_L σa k 2 (allL n)).2 k 2 = _
      rw [L_at]
    · intro a ha
      rw [eI]
      show (q_I (q_I (q_I (q_L σa k 2 (allL n)) (k + 1) 0 1) (k + 1) 1 (nI n)) (k + 1) 2 (nI (n * n))).1 (k + 1) a = _
      rcases (show a = 0 ∨ a = 1 ∨ a = 2 by omega) with rfl | rfl | rfl
      · rw [I_of (by omega), I_of (by omega), I_at]; rfl
      · rw [I_of (by omega), I_at]; rfl
      · rw [I_at]; rfl
    · intro a h ha hh
      rw [(f1 (k + 2) (4 * a + h) (by show k + 2 ≠ k + 3; omega)).2, d3 a h ha hh, lyr_all hn]
    · intro w hw
      unfold endL
      rcases Nat.mod_two_eq_zero_or_one w with q | q
      · rw [if_pos q, ← (f3 (w / 2) (by omega)).1, show 2 * (w / 2) = w by omega]
      · rw [if_neg (by omega), ← (f3 (w / 2) (by omega)).2, show 2 * (w / 2) + 1 = w by omega]
    · intro c j hc
      have hc' : c < k ∨ k + 3 < c := hc
      refine ⟨?_, ?_⟩
      · rw [eI]
        show (q_I (q_I (q_I (q_L σa k 2 (allL n)) (k + 1) 0 1) (k + 1) 1 (nI n)) (k + 1) 2 (nI (n * n))).1 c j = _
        rw [I_of (by omega), I_of (by omega), I_of (by omega), L_1]
        show (q_I (q_I σ k 0 (nI n)) k 1 (nI (n * n * n))).1 c j = _
        rw [I_of (by omega), I_of (by omega)]
      · rw [eL c j (by omega) (by omega)]
        show (q_L σa k 2 (allL n)).2 c j = _
        rw [L_of (by omega)]
        rfl
    · intro j hj
      refine ⟨?_, ?_⟩
      · rw [eI]
        show (q_I (q_I (q_I (q_L σa k 2 (allL n)) (k + 1) 0 1) (k + 1) 1 (nI n)) (k + 1) 2 (nI (n * n))).1 k j = _
        rw [I_of (by omega), I_of (by omega), I_of (by omega), L_1]
        show (q_I (q_I σ k 0 (nI n)) k 1 (nI (n * n * n))).1 k j = _
        rw [I_of (by omega), I_of (by omega)]
      · rw [eL k j (by omega) (by omega)]
        show (q_L σa k 2 (allL n)).2 k j = _
        rw [L_of (by omega)]
        rfl
    · unfold fX0_become
      rw [ql, ql, nI_mul, nI_mul, I_at]
      have h38 : fX0_become_c38 k (nI n) (allL n) σa = some σe := by
        unfold fX0_become_c38
        rw [ql, if_pos (by decide), ql, if_pos (by decide), ql, if_pos (by decide), ql, nI_mul]
        show (fJ7_fill_d0a16 (k + 2) 12 0 σb).bind _ = _
        rw [c4, bs]
        exact e6
      by_cases q : n = 4
      · subst q
        rw [if_pos (show nI (4 * 4 * 4) = 64 by decide), show (-1 : Int64) = allL 4 by decide +kernel]
        exact h38
      · rcases hn with rfl | rfl | rfl
        · rw [if_neg (show ¬ nI (2 * 2 * 2) = 64 by decide), show q_shl 1 (nI (2 * 2 * 2)) - 1 = allL 2 by decide +kernel]
          exact h38
        · rw [if_neg (show ¬ nI (3 * 3 * 3) = 64 by decide), show q_shl 1 (nI (3 * 3 * 3)) - 1 = allL 3 by decide +kernel]
          exact h38
        · exact absurd rfl q
  · rintro f i ⟨j, σ2⟩ hi ⟨rfl, hB⟩
    have hj : j < n := hi
    obtain ⟨σ3, e1, e2⟩ := X0_bec86 hn hj (fX0_become_c77 k (nI n) f) hB
    refine ⟨(j + 1, σ3), ⟨rfl, e1⟩, ?_⟩
    show fX0_become_c77b k (nI n) (fX0_become_c77 k (nI n) f) (bv (n * n * j)) (nI j) σ2 = _
    unfold fX0_become_c77b
    rw [if_neg (nI_ge hj (by omega))]
    exact e2
  · rintro f ⟨j, σ2⟩ ⟨hj, hB⟩
    have hj' : j = n := hj
    show fX0_become_c77b k (nI n) (fX0_become_c77 k (nI n) f) (bv (n * n * j)) (nI j) σ2 = _
    unfold fX0_become_c77b
    rw [hj', if_pos (nI_le (Nat.le_refl _) (by omega))]
