/-! Operations: the order. -/
theorem lsv_cg {τ τ' : q_M} (h : ag sM1 τ τ') (n p i g : Nat) : lsv τ' n p i g = lsv τ n p i g := by
  have e11 : τ'.2 11 = τ.2 11 := funext fun j => (h 11 j (by unfold sM1; omega)).2
  have e12 : τ'.2 0 12 = τ.2 0 12 := (h 0 12 (by unfold sM1; omega)).2
  have e1 : τ'.1 1 = τ.1 1 := funext fun j => (h 1 j (by unfold sM1; omega)).1
  have e6 : τ'.1 6 = τ.1 6 := funext fun j => (h 6 j (by unfold sM1; omega)).1
  have e7 : τ'.1 7 = τ.1 7 := funext fun j => (h 7 j (by unfold sM1; omega)).1
  have e8 : τ'.1 8 = τ.1 8 := funext fun j => (h 8 j (by unfold sM1; omega)).1
  have et : ∀ x o, tks τ' n x o = tks τ n x o := fun x o => funext fun s => by unfold tks; rw [e1, e6, e7, e8]
  unfold lsv oth
  rw [et, e11, e12]
def lfn (τ : q_M) (n p g : Nat) : Nat → Bool := fun i => !g.testBit i && !decide (lsv τ n p i g = -1)
theorem lfn_cg {τ τ' : q_M} (h : ag sM1 τ τ') (n p g : Nat) : lfn τ' n p g = lfn τ n p g := funext fun i => by unfold lfn; rw [lsv_cg h]
theorem fsh_d (f : Nat → Bool) : ∀ d i, (fsh f d i = -1 ∧ ∀ s, i ≤ s → s < i + d → f s = false) ∨ ∃ s, i ≤ s ∧ s < i + d ∧ fsh f d i = nI s ∧ f s = true ∧ ∀ j, i ≤ j → j < s → f j = false
  | 0, i => Or.inl ⟨rfl, fun s h1 h2 => by omega⟩
  | d + 1, i => by
    unfold fsh
    cases q : f i with
    | true =>
      rw [if_pos rfl]
      exact Or.inr ⟨i, Nat.le_refl _, by omega, rfl, q, fun j h1 h2 => by omega⟩
    | false =>
      rw [if_neg (by decide)]
      rcases fsh_d f d (i + 1) with ⟨h, hh⟩ | ⟨s, h1, h2, h3, h4, h5⟩
      · refine Or.inl ⟨h, fun s e1 e2 => ?_⟩
        rcases Nat.lt_or_ge i s with z | z
        · exact hh s (by omega) (by omega)
        · rw [show s = i by omega]; exact q
      · refine Or.inr ⟨s, by omega, by omega, h3, h4, fun j e1 e2 => ?_⟩
        rcases Nat.lt_or_ge i j with z | z
        · exact h5 j (by omega) e2
        · rw [show j = i by omega]; exact q
theorem X8_firstLoose {σ τ : q_M} {N K A n p o t g : Nat} (hR : Rel σ τ N K A n p o t) (hg : g < 256) : fX8_firstLoose (nI g) σ = some (fsh (lfn τ n p g) p 0, σ) := by
  obtain ⟨h1, h2, h3, h4, h5, h6, h7, h8, h9, h10, h11, _⟩ := hR.2.1
  have key : ∀ d i f, i + d = p → d < f → fX8_firstLoose_c2 (nI g) f (nI i) σ = some (fsh (lfn τ n p g) d i, σ) := by
    intro d
    induction d with
    | zero =>
      intro i f e1 e2
      obtain ⟨f, rfl⟩ : ∃ z, f = z + 1 := ⟨f - 1, by omega⟩
      have : i = p := by omega
      subst this
      show fX8_firstLoose_c2b (nI g) (fX8_firstLoose_c2 (nI g) f) (nI i) σ = _
      unfold fX8_firstLoose_c2b
      rw [h6, if_pos (nI_le (Nat.le_refl _) (by omega))]
      rfl
    | succ d ih =>
      intro i f e1 e2
      obtain ⟨f, rfl⟩ : ∃ z, f = z + 1 := ⟨f - 1, by omega⟩
      have hi : i < p := by omega
      show fX8_firstLoose_c2b (nI g) (fX8_firstLoose_c2 (nI g) f) (nI i) σ = some (if lfn τ n p g i then nI i else fsh (lfn τ n p g) d (i + 1), σ)
      unfold fX8_firstLoose_c2b lfn
      rw [h6, if_neg (nI_ge hi (by omega)), off_b1 hg (by omega), nI_1]
      cases g.testBit i with
      | true =>
        rw [b1_t, if_neg b1_ne, if_neg (by simp)]
        exact ih (i + 1) f (by omega) (by omega)
      | false =>
        rw [b1_f, if_pos rfl, X8_looseBy hR hi hg, bs]
        by_cases z : lsv τ n p i g = -1
        · rw [if_pos z, decide_eq_true z, if_neg (by decide)]
          exact ih (i + 1) f (by omega) (by omega)
        · rw [if_neg z, decide_eq_false z, if_pos (by decide)]
  exact key p 0 q_FU (by omega) (by show _ < 400; omega)
/-- the reference writes down a piece that is loose -/
def orM (τ : q_M) (m : Nat) (i : Nat) (r : Int32) : q_M := q_I (q_I (q_I τ 14 m (nI i)) 0 31 (nI (m + 1))) 15 m r
theorem ag_orM (τ : q_M) (m i : Nat) (r : Int32) : ag sM1 τ (orM τ m i r) := ag_tr (ag_I (fun z => z (by omega))) (ag_tr (ag_I (fun z => z (by omega))) (ag_I (fun z => z (by omega))))
theorem M_scan {σ τ : q_M} {N K A n p o t g m : Nat} (hR : Rel σ τ N K A n p o t) (hg : g < 256) (hm : m < 8) (h31 : τ.1 0 31 = nI m) (rec12 : Int32 → Int32 → q_M → Option (Int32 × q_M)) : (fsh (lfn τ n p g) p 0 = -1 → fX9_findOrder_c20 0 rec12 q_FU (nI g) 0 0 τ = rec12 (nI g) 0 τ) ∧ ∀ i, i < p → fsh (lfn τ n p g) p 0 = nI i → fX9_findOrder_c20 0 rec12 q_FU (nI g) 0 0 τ = rec12 (nI (g ||| 2 ^ i)) 1 (orM τ m i (lsv τ n p i g)) := by
  obtain ⟨h1, h2, h3, h4, h5, h6, h7, h8, h9, h10, h11, _⟩ := hR.2.1
  have step : ∀ f i, i < p → lfn τ n p g i = false → fX9_findOrder_c20 0 rec12 (f + 1) (nI g) 0 (nI i) τ = fX9_findOrder_c20 0 rec12 f (nI g) 0 (nI (i + 1)) τ := by
    intro f i hi hl
    show fX9_findOrder_c20b 0 rec12 (fX9_findOrder_c20 0 rec12 f) (nI g) 0 (nI i) τ = _
    unfold fX9_findOrder_c20b
    rw [h7, if_neg (nI_ge hi (by omega)), if_pos rfl, off_b1 hg (by omega)]
    unfold lfn at hl
    cases q : g.testBit i with
    | true =>
      rw [b1_t, if_neg b1_ne]
      unfold fX9_findOrder_c50
      rw [if_pos rfl, nI_1]
    | false =>
      rw [q] at hl
      have z : lsv τ n p i g = -1 := by simpa using hl
      rw [b1_f, if_pos rfl, M_looseBy hR hi hg, bs, z]
      unfold fX9_findOrder_c50
      rw [if_pos rfl, nI_1]
  have found : ∀ f i, i < p → lfn τ n p g i = true → fX9_findOrder_c20 0 rec12 (f + 2) (nI g) 0 (nI i) τ = rec12 (nI (g ||| 2 ^ i)) 1 (orM τ m i (lsv τ n p i g)) := by
    intro f i hi hl
    show fX9_findOrder_c20b 0 rec12 (fX9_findOrder_c20 0 rec12 (f + 1)) (nI g) 0 (nI i) τ = _
    unfold fX9_findOrder_c20b
    rw [h7, if_neg (nI_ge hi (by omega)), if_pos rfl, off_b1 hg (by omega)]
    unfold lfn at hl
    rw [Bool.and_eq_true] at hl
    have q : g.testBit i = false := by simpa using hl.1
    have z : ¬ lsv τ n p i g = -1 := by simpa using hl.2
    rw [q, b1_f, if_pos rfl, M_looseBy hR hi hg, bs]
    unfold fX9_findOrder_c50
    rw [if_neg z, h31, gd hm (by decide), ql, ql]
    have e31 : (q_I τ (0 + 14) (nI m).toNatClampNeg (nI i)).1 0 31 = nI m := by rw [I_of (by omega), h31]
    rw [e31, gd hm (by decide), ql, ql, nI_clamp (by omega), nI_1, nI_1, (or_tab g hg i (by omega)).1]
    show fX9_findOrder_c20b 0 rec12 (fX9_findOrder_c20 0 rec12 f) (nI (g ||| 2 ^ i)) 1 (nI (i + 1)) (orM τ m i (lsv τ n p i g)) = _
    unfold fX9_findOrder_c20b
    by_cases y : (orM τ m i (lsv τ n p i g)).1 0 13 ≤ nI (i + 1)
    · rw [if_pos y]
    · rw [if_neg y, if_neg b1_ne]
  have walk : ∀ d i f, i + d ≤ p → d ≤ f → (∀ j, i ≤ j → j < i + d → lfn τ n p g j = false) → fX9_findOrder_c20 0 rec12 f (nI g) 0 (nI i) τ = fX9_findOrder_c20 0 rec12 (f - d) (nI g) 0 (nI (i + d)) τ := by
    intro d
    induction d with
    | zero => intro i f _ _ _; rfl
    | succ d ih =>
      intro i f e1 e2 e3
      obtain ⟨f, rfl⟩ : ∃ z, f = z + 1 := ⟨f - 1, by omega⟩
      rw [step f i (by omega) (e3 i (Nat.le_refl _) (by omega)), ih (i + 1) f (by omega) (by omega) (fun j z1 z2 => e3 j (by omega) (by omega)), show f + 1 - (d + 1) = f - d by omega, show i + 1 + d = i + (d + 1) by omega]
  rcases fsh_d (lfn τ n p g) p 0 with ⟨z1, z2⟩ | ⟨s, s1, s2, s3, s4, s5⟩
  · refine ⟨fun _ => ?_, fun i hi z => ?_⟩
    · have w := walk p 0 q_FU (by omega) (by show _ ≤ 400; omega) (fun j e1 e2 => z2 j e1 e2)
      have w' : fX9_findOrder_c20 0 rec12 q_FU (nI g) 0 0 τ = fX9_findOrder_c20 0 rec12 (q_FU - p) (nI g) 0 (nI (0 + p)) τ := w
      rw [w', show q_FU - p = (399 - p) + 1 by show 400 - p = _; omega]
      show fX9_findOrder_c20b 0 rec12 (fX9_findOrder_c20 0 rec12 (399 - p)) (nI g) 0 (nI (0 + p)) τ = _
      unfold fX9_findOrder_c20b
      rw [h7, if_pos (nI_le (by omega) (by omega))]
    · rw [z1] at z
      exact absurd z.symm (nI_m1 i (by omega))
  · refine ⟨fun z => ?_, fun i hi z => ?_⟩
    · rw [s3] at z
      exact absurd z (nI_m1 s (by omega))
    · have : i = s := by
        rw [s3] at z
        exact ((nI_eq (by omega) (by omega)).mp z).symm
      subst this
      have w := walk i 0 q_FU (by omega) (by show _ ≤ 400; omega) (fun j e1 e2 => s5 j e1 (by omega))
      have w' : fX9_findOrder_c20 0 rec12 q_FU (nI g) 0 0 τ = fX9_findOrder_c20 0 rec12 (q_FU - i) (nI g) 0 (nI (0 + i)) τ := w
      rw [w', show q_FU - i = (398 - i) + 2 by show 400 - i = _; omega, Nat.zero_add]
      exact found (398 - i) i hi s4
theorem ctN_0 {p : Nat → Bool} : ∀ {m : Nat}, ctN p m = 0 → ∀ c, c < m → p c = false
  | 0, _, c, hc => by omega
  | m + 1, h, c, hc => by
    unfold ctN at h
    rcases Nat.lt_or_ge c m with z | z
    · exact ctN_0 (by omega) c z
    · rw [show c = m by omega]
      cases q : p m with
      | false => rfl
      | true => rw [q] at h; simp at h
def rgv (p g : Nat) : Int32 := (q_sl 1 (nI p) - 1) &&& (nI g ^^^ (-1))
theorem find_ls {σ0 τ0 : q_M} {N K A n p o t : Nat} (hR : Rel σ0 τ0 N K A n p o t) : ∀ d k g (σ τ : q_M) f f', k + d = 8 → d < f → d + 1 < f' → ag sX1 σ0 σ → ag sM1 τ0 τ → σ.1 0 10 = nI k → τ.1 0 31 = nI k → (∀ j, j < k → σ.1 29 j = τ.1 14 j ∧ σ.1 30 j = τ.1 15 j) → g < 256 → ctN (fun i => !g.testBit i) p ≤ d → ∃ m σ' τ' rg, m ≤ 8 ∧ k ≤ m ∧ fX8_findOrder_c15 f (nI g) (nI k) σ = some σ' ∧ fX9_findOrder_c12 0 f' (nI g) 1 τ = some (rg, τ') ∧ σ'.1 0 10 = nI m ∧ σ'.1 0 11 = rg ∧ τ'.1 0 31 = nI m ∧ (∀ j, j < m → σ'.1 29 j = τ'.1 14 j ∧ σ'.1 30 j = τ'.1 15 j) ∧ ag sX1 σ0 σ' ∧ ag sM1 τ0 τ' ∧ (∀ j, j < k → τ'.1 14 j = τ.1 14 j) ∧ (fsh (lfn τ0 n p g) p 0 = -1 → m = k) ∧ (∀ i, i < p → fsh (lfn τ0 n p g) p 0 = nI i → k < m ∧ τ'.1 14 k = nI i) := by
  have p8 : p ≤ 8 := hR.2.1.2.2.2.2.1
  have hp : σ0.1 1 2 = nI p := hR.2.1.2.2.2.2.2.1
  have hp2 : τ0.1 0 13 = nI p := hR.2.1.2.2.2.2.2.2.1
  have stop : ∀ k g (σ τ : q_M) f f', 0 < f → 1 < f' → k ≤ 8 → ag sX1 σ0 σ → ag sM1 τ0 τ → σ.1 0 10 = nI k → τ.1 0 31 = nI k → (∀ j, j < k → σ.1 29 j = τ.1 14 j ∧ σ.1 30 j = τ.1 15 j) → g < 256 → fsh (lfn τ0 n p g) p 0 = -1 → ∃ m σ' τ' rg, m ≤ 8 ∧ k ≤ m ∧ fX8_findOrder_c15 f (nI g) (nI k) σ = some σ' ∧ fX9_findOrder_c12 0 f' (nI g) 1 τ = some (rg, τ') ∧ σ'.1 0 10 = nI m ∧ σ'.1 0 11 = rg ∧ τ'.1 0 31 = nI m ∧ (∀ j, j < m → σ'.1 29 j = τ'.1 14 j ∧ σ'.1 30 j = τ'.1 15 j) ∧ ag sX1 σ0 σ' ∧ ag sM1 τ0 τ' ∧ (∀ j, j < k → τ'.1 14 j = τ.1 14 j) ∧ (fsh (lfn τ0 n p g) p 0 = -1 → m = k) ∧ (∀ i, i < p → fsh (lfn τ0 n p g) p 0 = nI i → k < m ∧ τ'.1 14 k = nI i) := by
    intro k g σ τ f f' hf hf' k8 aX aM e1 e2 e3 hg hz
    obtain ⟨f, rfl⟩ : ∃ z, f = z + 1 := ⟨f - 1, by omega⟩
    obtain ⟨f', rfl⟩ : ∃ z, f' = z + 2 := ⟨f' - 2, by omega⟩
    have hR1 := Rel_sc hR aX aM
    have hz1 : fsh (lfn τ n p g) p 0 = -1 := by rw [lfn_cg aM]; exact hz
    have hpX : σ.1 1 2 = nI p := by rw [(aX 1 2 (by unfold sX1; omega)).1]; exact hp
    have hpM : τ.1 0 13 = nI p := by rw [(aM 0 13 (by unfold sM1; omega)).1]; exact hp2
    refine ⟨k, q_I σ 0 11 (rgv p g), τ, rgv p g, k8, Nat.le_refl _, ?_, ?_, ?_, I_at, e2, ?_, ag_tr aX (ag_I (fun z => z (by omega))), aM, fun _ _ => rfl, fun _ => rfl, fun i hi z => ?_⟩
    · show fX8_findOrder_c15b (fX8_findOrder_c15 f) (nI g) (nI k) σ = _
      have c73 : fX8_findOrder_c73 (nI g) σ = some (q_I σ 0 11 (rgv p g)) := by
        unfold fX8_findOrder_c73 rgv
        rw [ql, hpX]
      unfold fX8_findOrder_c15b
      by_cases q : (8 : Int32) ≤ nI k
      · rw [if_pos q]; exact c73
      · rw [if_neg q, X8_firstLoose hR1 hg, bs, hz1, if_pos rfl]; exact c73
    · by_cases q : k < 8
      · show fX9_findOrder_c12b 0 (fX9_findOrder_c12 0 (f' + 1)) (nI g) 1 τ = _
        unfold fX9_findOrder_c12b
        rw [if_neg b1_ne, (M_scan hR1 hg q e2 (fX9_findOrder_c12 0 (f' + 1))).1 hz1]
        show fX9_findOrder_c12b 0 (fX9_findOrder_c12 0 f') (nI g) 0 τ = _
        unfold fX9_findOrder_c12b
        rw [if_pos rfl, hpM]
        rfl
      · show fX9_findOrder_c12b 0 (fX9_findOrder_c12 0 (f' + 1)) (nI g) 1 τ = _
        have e2' : (q_I τ 0 31 (nI 0)).1 0 31 = nI 0 := I_at
        unfold fX9_findOrder_c12b
        rw [if_neg b1_ne]
        -- the scan finds none, whatever the count
        have hall : ∀ j, j < p → lfn τ n p g j = false := by
          rcases fsh_d (lfn τ n p g) p 0 with ⟨_, z2⟩ | ⟨s, s1, s2, s3, s4, s5⟩
          · exact fun j hj => z2 j (by omega) (by omega)
          · rw [s3] at hz1
            exact absurd hz1 (nI_m1 s (by omega))
        have hw : ∀ d i F, i + d = p → d < F → fX9_findOrder_c20 0 (fX9_findOrder_c12 0 (f' + 1)) F (nI g) 0 (nI i) τ = fX9_findOrder_c12 0 (f' + 1) (nI g) 0 τ := by
          intro d
          induction d with
          | zero =>
            intro i F z1 z2
            obtain ⟨F, rfl⟩ : ∃ z, F = z + 1 := ⟨F - 1, by omega⟩
            show fX9_findOrder_c20b 0 (fX9_findOrder_c12 0 (f' + 1)) (fX9_findOrder_c20 0 (fX9_findOrder_c12 0 (f' + 1)) F) (nI g) 0 (nI i) τ = _
            unfold fX9_findOrder_c20b
            rw [hpM, if_pos (nI_le (by omega) (by omega))]
          | succ d ih =>
            intro i F z1 z2
            obtain ⟨F, rfl⟩ : ∃ z, F = z + 1 := ⟨F - 1, by omega⟩
            have hi : i < p := by omega
            have hl := hall i hi
            show fX9_findOrder_c20b 0 (fX9_findOrder_c12 0 (f' + 1)) (fX9_findOrder_c20 0 (fX9_findOrder_c12 0 (f' + 1)) F) (nI g) 0 (nI i) τ = _
            unfold fX9_findOrder_c20b
            rw [hpM, if_neg (nI_ge hi (by omega)), if_pos rfl, off_b1 hg (by omega)]
            unfold lfn at hl
            cases y : g.testBit i with
            | true =>
              rw [b1_t, if_neg b1_ne]
              unfold fX9_findOrder_c50
              rw [if_pos rfl, nI_1]
              exact ih (i + 1) F (by omega) (by omega)
            | false =>
              rw [y] at hl
              have z : lsv τ n p i g = -1 := by simpa using hl
              rw [b1_f, if_pos rfl, M_looseBy hR1 hi hg, bs, z]
              unfold fX9_findOrder_c50
              rw [if_pos rfl, nI_1]
              exact ih (i + 1) F (by omega) (by omega)
        have hw0 : fX9_findOrder_c20 0 (fX9_findOrder_c12 0 (f' + 1)) q_FU (nI g) 0 0 τ = _ := hw p 0 q_FU (by omega) (by show _ < 400; omega)
        rw [hw0]
        show fX9_findOrder_c12b 0 (fX9_findOrder_c12 0 f') (nI g) 0 τ = _
        unfold fX9_findOrder_c12b
        rw [if_pos rfl, hpM]
        rfl
    · rw [I_of (by omega)]; exact e1
    · intro j hj
      rw [I_of (by omega), I_of (by omega)]
      exact e3 j hj
    · rw [hz] at z
      exact absurd z.symm (nI_m1 i (by omega))
  intro d
  induction d with
  | zero =>
    intro k g σ τ f f' h1 h2 h3 aX aM e1 e2 e3 hg hc
    refine stop k g σ τ f f' h2 (by omega) (by omega) aX aM e1 e2 e3 hg ?_
    rcases fsh_d (lfn τ0 n p g) p 0 with ⟨z, _⟩ | ⟨s, s1, s2, s3, s4, s5⟩
    · exact z
    · have := ctN_0 (show ctN (fun i => !g.testBit i) p = 0 by omega) s (by omega)
      unfold lfn at s4
      have this' : (!g.testBit s) = false := this
      rw [this'] at s4
      cases s4
  | succ d ih =>
    intro k g σ τ f f' h1 h2 h3 aX aM e1 e2 e3 hg hc
    rcases fsh_d (lfn τ0 n p g) p 0 with ⟨z, _⟩ | ⟨i, _, i2, i3, i4, _⟩
    · exact stop k g σ τ f f' (by omega) (by omega) (by omega) aX aM e1 e2 e3 hg z
    · obtain ⟨f, rfl⟩ : ∃ z, f = z + 1 := ⟨f - 1, by omega⟩
      obtain ⟨f', rfl⟩ : ∃ z, f' = z + 1 := ⟨f' - 1, by omega⟩
      have hi : i < p := by omega
      have hk : k < 8 := by omega
      have hR1 := Rel_sc hR aX aM
      have i3' : fsh (lfn τ n p g) p 0 = nI i := by rw [lfn_cg aM]; exact i3
      obtain ⟨g1, g2⟩ := or_tab g hg i (by omega)
      have gi : g.testBit i = false := by
        unfold lfn at i4
        rw [Bool.and_eq_true] at i4
        simpa using i4.1
      let σ5 : q_M := q_I σ 29 k (nI i)
      let σ9 : q_M := q_I (q_I σ5 30 k (lsv τ n p i g)) 0 10 (nI (k + 1))
      have a5 : ag sX1 σ0 σ5 := ag_tr aX (ag_I (fun z => z (by omega)))
      have a9 : ag sX1 σ0 σ9 := ag_tr a5 (ag_tr (ag_I (fun z => z (by omega))) (ag_I (fun z => z (by omega))))
      have m9 : ag sM1 τ0 (orM τ k i (lsv τ n p i g)) := ag_tr aM (ag_orM _ _ _ _)
      have cl : ctN (fun j => !(g ||| 2 ^ i).testBit j) p < ctN (fun j => !g.testBit j) p := by
        refine ctN_lt (e := i) (by rw [or_tb]; simp) (by rw [gi]; rfl) hi (fun c _ hcc => ?_)
        rw [or_tb] at hcc
        cases y : g.testBit c with
        | false => rfl
        | true => rw [y] at hcc; cases hcc
      obtain ⟨m, σ', τ', rg, r1, r2, r3, r4, r5, r6, r7, r8, r9, r10, r11, _, _⟩ := ih (k + 1) (g ||| 2 ^ i) σ9 (orM τ k i (lsv τ n p i g)) f f' (by omega) (by omega) (by omega) a9 m9 I_at (by
          show (q_I (q_I (q_I τ 14 k (nI i)) 0 31 (nI (k + 1))) 15 k (lsv τ n p i g)).1 0 31 = _
          rw [I_of (by omega), I_at]) (fun j hj => by
          have x29 : σ9.1 29 j = if j = k then nI i else σ.1 29 j := by
            show (q_I (q_I (q_I σ 29 k (nI i)) 30 k (lsv τ n p i g)) 0 10 (nI (k + 1))).1 29 j = _
            rw [I_of (by omega), I_of (by omega)]
            by_cases y : j = k
            · rw [if_pos y, y, I_at]
            · rw [if_neg y, I_of (fun z => y z.2)]
          have x30 : σ9.1 30 j = if j = k then lsv τ n p i g else σ.1 30 j := by
            show (q_I (q_I (q_I σ 29 k (nI i)) 30 k (lsv τ n p i g)) 0 10 (nI (k + 1))).1 30 j = _
            rw [I_of (by omega)]
            by_cases y : j = k
            · rw [if_pos y, y, I_at]
            · rw [if_neg y, I_of (fun z => y z.2), I_of (by omega)]
          have y14 : (orM τ k i (lsv τ n p i g)).1 14 j = if j = k then nI i else τ.1 14 j := by
            show (q_I (q_I (q_I τ 14 k (nI i)) 0 31 (nI (k + 1))) 15 k (lsv τ n p i g)).1 14 j = _
            rw [I_of (by omega), I_of (by omega)]
            by_cases y : j = k
            · rw [if_pos y, y, I_at]
            · rw [if_neg y, I_of (fun z => y z.2)]
          have y15 : (orM τ k i (lsv τ n p i g)).1 15 j = if j = k then lsv τ n p i g else τ.1 15 j := by
            show (q_I (q_I (q_I τ 14 k (nI i)) 0 31 (nI (k + 1))) 15 k (lsv τ n p i g)).1 15 j = _
            by_cases y : j = k
            · rw [if_pos y, y, I_at]
            · rw [if_neg y, I_of (fun z => y z.2), I_of (by omega), I_of (by omega)]
          rw [x29, x30, y14, y15]
          by_cases y : j = k
          · rw [if_pos y, if_pos y, if_pos y, if_pos y]
            exact ⟨rfl, rfl⟩
          · rw [if_neg y, if_neg y, if_neg y, if_neg y]
            exact e3 j (by omega)) g2 (by omega)
      refine ⟨m, σ', τ', rg, r1, by omega, ?_, ?_, r5, r6, r7, r8, r9, r10, ?_, ?_, ?_⟩
      · show fX8_findOrder_c15b (fX8_findOrder_c15 f) (nI g) (nI k) σ = _
        unfold fX8_findOrder_c15b
        rw [if_neg (show ¬ (8 : Int32) ≤ nI k from nI_ge (a := k) (b := 8) hk (by decide)), X8_firstLoose hR1 hg, bs, i3', if_neg (nI_m1 i (by omega)), gd hk (by decide), ql, nI_clamp (by omega)]
        have lo : fX8_looseBy (nI i) (nI g) σ5 = some (lsv τ n p i g, σ5) := X8_looseBy (Rel_sc hR a5 aM) hi hg
        show (fX8_looseBy (nI i) (nI g) σ5).bind _ = _
        rw [lo, bs, gd2 hk (by decide), ql, ql, ql, nI_1, g1]
        exact r3
      · show fX9_findOrder_c12b 0 (fX9_findOrder_c12 0 f') (nI g) 1 τ = _
        unfold fX9_findOrder_c12b
        rw [if_neg b1_ne, (M_scan hR1 hg hk e2 (fX9_findOrder_c12 0 f')).2 i hi i3']
        exact r4
      · intro j hj
        rw [r11 j (by omega)]
        show (q_I (q_I (q_I τ 14 k (nI i)) 0 31 (nI (k + 1))) 15 k (lsv τ n p i g)).1 14 j = _
        rw [I_of (by omega), I_of (by omega), I_of (by omega)]
      · intro z
        rw [i3] at z
        exact absurd z (nI_m1 i (by omega))
      · intro i' hi' z
        rw [i3] at z
        have : i = i' := (nI_eq (by omega) (by omega)).mp z
        subst this
        refine ⟨by omega, ?_⟩
        rw [r11 k (by omega)]
        show (q_I (q_I (q_I τ 14 k (nI i)) 0 31 (nI (k + 1))) 15 k (lsv τ n p i g)).1 14 k = _
        rw [I_of (by omega), I_of (by omega), I_at]
theorem find_o {σ τ : q_M} {N K A n p o t : Nat} (hR : Rel σ τ N K A n p o t) : ∃ m σ' τ' rg, m ≤ 8 ∧ fX8_findOrder σ = some σ' ∧ fX9_findOrder 0 τ = some (rg, τ') ∧ σ'.1 0 10 = nI m ∧ σ'.1 0 11 = rg ∧ τ'.1 0 31 = nI m ∧ (∀ j, j < m → σ'.1 29 j = τ'.1 14 j ∧ σ'.1 30 j = τ'.1 15 j) ∧ ag sX1 σ σ' ∧ ag sM1 τ τ' ∧ (fsh (lfn τ n p o) p 0 = -1 → m = 0) ∧ (∀ i, i < p → fsh (lfn τ n p o) p 0 = nI i → 0 < m ∧ τ'.1 14 0 = nI i) := by
  obtain ⟨h1, h2, h3, h4, h5, h6, h7, h8, h9, h10, h11, _⟩ := hR.2.1
  have o256 := p256 h8 h5
  have hc : ctN (fun i => !o.testBit i) p ≤ 8 := Nat.le_trans (ctN_le _ _) h5
  obtain ⟨m, σ', τ', rg, r1, r2, r3, r4, r5, r6, r7, r8, r9, r10, r11, r12, r13⟩ := find_ls hR 8 0 o (q_I σ 0 10 0) (q_I τ 0 31 0) q_FU q_FU rfl (by decide) (by decide) (ag_I (fun z => z (by omega))) (ag_I (fun z => z (by omega))) I_at I_at (fun j hj => by omega) o256 hc
  refine ⟨m, σ', τ', rg, r1, ?_, ?_, r5, r6, r7, r8, r9, r10, r12, r13⟩
  · unfold fX8_findOrder
    rw [ql, h9]
    exact r3
  · unfold fX9_findOrder
    rw [ql, h10]
    exact r4
theorem op_order : Op_order RR := by
  intro σ τ N x y h
  have h0 := h
  obtain ⟨K, A, n, p, o, t, hR⟩ := h
  obtain ⟨m, σ', τ', rg, r1, r2, r3, r4, r5, r6, r7, aX, aM, _, _⟩ := find_o hR
  unfold fX8_order fX9_order
  rw [M_in1, bs]
  rcases isI_c y (p := 2) (by decide) with q | ⟨w, hw, rfl⟩
  · have e : ∀ {α : Type} {P Q : α}, (if y < 0 then P else if y ≤ 1 then Q else P) = P := by
      intro α P Q
      rcases isI_f q with z | z
      · rw [if_pos z]
      · by_cases w : y < 0
        · rw [if_pos w]
        · rw [if_neg w, if_neg (show ¬ y ≤ 1 from fun u => (i_le (a := 1) (by decide)).mp u z)]
    rw [e, X_bad, bs, q, b1_f, if_pos rfl, M_bad, bs]
    exact ⟨_, _, _, rfl, rfl, RR_rf h0 (by decide)⟩
  · rw [if_neg (nI_pos (by omega)), if_pos (show nI w ≤ 1 from nI_le (b := 1) (by omega) (by decide)), r2, bs, isI_y hw (by decide), b1_t, if_neg b1_ne, r3, bs, r6, M_inP (by omega), bs, r4]
    rcases isI_c x (p := m) (by omega) with q | ⟨j, hj, rfl⟩
    · rw [isI_out q, q, b1_f, if_pos rfl]
      exact ⟨_, _, _, rfl, rfl, RR_sc h0 aX aM⟩
    · rw [isI_ins hj (by omega), isI_y hj (by omega), b1_t, if_neg b1_ne, gd (show j < 8 by omega) (by decide), gd (show j < 8 by omega) (by decide), gd (show j < 8 by omega) (by decide), gd (show j < 8 by omega) (by decide), nI_clamp (by omega), (r7 j hj).1, (r7 j hj).2]
      by_cases z : nI w = 0
      · rw [if_pos z, if_pos z]
        exact ⟨_, _, _, rfl, rfl, RR_sc h0 aX aM⟩
      · rw [if_neg z, if_neg z]
        exact ⟨_, _, _, rfl, rfl, RR_sc h0 aX aM⟩
theorem op_ring : Op_ring RR := by
  intro σ τ N h
  have h0 := h
  obtain ⟨K, A, n, p, o, t, hR⟩ := h
  obtain ⟨m, σ', τ', rg, r1, r2, r3, r4, r5, r6, r7, aX, aM, _, _⟩ := find_o hR
  unfold fX8_ring fX9_ring
  rw [r2, bs, r3, bs, r5]
  exact ⟨_, _, _, rfl, rfl, RR_sc h0 aX aM⟩
/-- which are off, changed alike -/
theorem RM_off {σ τ : q_M} {n p o o' : Nat} (h : RM σ 1 τ 0 n p o) (ho : o' < 2 ^ p) : RM (q_I σ 1 3 (nI o')) 1 (q_I τ 0 15 (nI o')) 0 n p o' := by
  obtain ⟨h1, h2, h3, h4, h5, h6, h7, h8, h9, h10, h11, h12, h13, h14, h15⟩ := h
  refine ⟨Blk_fr h1 (ag_I (fun z => ?_)), ?_, h3, h4, h5, ?_, ?_, ho, I_at, I_at, h11, ?_, ?_, h14, h15⟩
  · have z' : 1 + 1 ≤ 1 ∧ 1 ≤ 1 + 1 + 3 := z
    omega
  · rw [I_of (by omega)]; exact h2
  · rw [I_of (by omega)]; exact h6
  · rw [I_of (by omega)]; exact h7
  · obtain ⟨v, v1, v2, v3, v4⟩ := h12
    exact ⟨v, v1, v2, by rw [I_of (by omega)]; exact v3, by rw [I_of (by omega)]; exact v4⟩
  · obtain ⟨v, v1, v2, v3, v4⟩ := h13
    exact ⟨v, v1, v2, by rw [I_of (by omega)]; exact v3, by rw [I_of (by omega)]; exact v4⟩
theorem op_step : Op_step RR := by
  intro σ τ N h
  have h0 := h
  obtain ⟨K, A, n, p, o, t, hR⟩ := h
  obtain ⟨h1, h2, h3, h4, h5, h6, h7, h8, h9, h10, h11, _⟩ := hR.2.1
  have o256 := p256 h8 h5
  obtain ⟨m, σ', τ', rg, r1, r2, r3, r4, r5, r6, r7, aX, aM, z1, z2⟩ := find_o hR
  unfold fX8_step fX9_step
  rw [h9, X8_firstLoose hR o256, bs, r3, bs, r6]
  rcases fsh_d (lfn τ n p o) p 0 with ⟨z, _⟩ | ⟨i, _, i2, i3, i4, _⟩
  · rw [z, if_pos rfl, X_stk, bs, z1 z, if_pos (show nI 0 = 0 from rfl), M_stk, bs]
    exact ⟨_, _, _, rfl, rfl, RR_rf (RR_sc h0 (ag_rf _ _) aM) (by decide)⟩
  · have hi : i < p := by omega
    obtain ⟨g1, g2⟩ := or_tab o o256 i (by omega)
    obtain ⟨m0, e0⟩ := z2 i hi i3
    have e15 : τ'.1 0 15 = nI o := by rw [(aM 0 15 (by unfold sM1; omega)).1]; exact h10
    rw [i3, if_neg (nI_m1 i (by omega)), ql, if_neg (nI_ne0 m0 (by omega)), if_pos (by decide), ql, if_pos (by decide)]
    show ∃ r σ'' τ'', some (nI i, q_I σ 1 3 (σ.1 1 3 ||| q_sl 1 (nI i))) = some (r, σ'') ∧ some ((q_I τ' 0 15 (τ'.1 0 15 ||| q_sl 1 (τ'.1 14 0))).1 14 0, q_I τ' 0 15 (τ'.1 0 15 ||| q_sl 1 (τ'.1 14 0))) = some (r, τ'') ∧ RR σ'' τ'' N
    rw [I_of (by omega), e0, e15, h9, g1]
    have hlt : o ||| 2 ^ i < 2 ^ p := Nat.or_lt_two_pow h8 (Nat.pow_lt_pow_right (by decide) hi)
    have hR2 := Rel_sc hR (ag_rf _ _) aM
    exact ⟨_, _, _, rfl, rfl, K, A, n, p, o ||| 2 ^ i, t, Rel_mo hR2 (ag_I (nX (by omega))) (ag_I (nM (by omega))) (RM_off hR2.2.1 hlt)⟩
