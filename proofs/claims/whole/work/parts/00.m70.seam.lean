/-! Seams. -/
def fO (f : Nat → Nat) : Option Nat → Nat
  | some d => f d
  | none => 0
theorem smF_bit {z : Int64} {e : Nat} (f : Nat → Nat) (he : tb z e = true) (e64 : e < 64) : smF (fun d => if tb z d then f d else 0) 64 = smF (fun d => if tb (dif z (bit e)) d then f d else 0) 64 + f e := by
  have hz : ∀ d, d ≠ e → tb (dif z (bit e)) d = tb z d := fun d hd => by
    rw [Bool.eq_iff_iff, tb_dif]
    refine ⟨fun w => w.1, fun w => ⟨w, ?_⟩⟩
    cases q : tb (bit e) d with
    | false => rfl
    | true => exact absurd ((tb_b e64).mp q) hd
  have hze : tb (dif z (bit e)) e = false := by
    cases q : tb (dif z (bit e)) e with
    | false => rfl
    | true =>
      have := (tb_dif.mp q).2
      rw [(tb_b e64).mpr rfl] at this; cases this
  have gen : ∀ k, e < k → smF (fun d => if tb z d then f d else 0) k = smF (fun d => if tb (dif z (bit e)) d then f d else 0) k + f e := by
    intro k
    induction k with
    | zero => intro h; omega
    | succ k ih =>
      intro hk
      show smF (fun d => if tb z d then f d else 0) k + (if tb z k then f k else 0) = smF (fun d => if tb (dif z (bit e)) d then f d else 0) k + (if tb (dif z (bit e)) k then f k else 0) + f e
      by_cases q : e = k
      · subst q
        have e1 : smF (fun d => if tb z d then f d else 0) e = smF (fun d => if tb (dif z (bit e)) d then f d else 0) e := smF_cg fun c hc => by
          show (if tb z c then f c else 0) = (if tb (dif z (bit e)) c then f c else 0)
          rw [hz c (by omega)]
        rw [e1, he, hze, if_pos rfl, if_neg (by decide)]
        omega
      · rw [ih (by omega), hz k (fun w => q w.symm)]
        omega
  exact gen 64 e64
theorem sum_bij {n : Nat} (hn : Sz n) {y : Int64} {w : Nat} (hw : w < 6) (f : Nat → Nat) : smF (fun d => if tb (shf n w y) d then f d else 0) 64 = smF (fun c => if tb y c then fO f (nbr n c w) else 0) (n * n * n) := by
  have h64 := hn.cube
  have swap : ∀ m, m ≤ n * n * n → ∀ z : Int64, (∀ d, tb z d = true ↔ ∃ c, c < m ∧ tb y c = true ∧ nbr n c w = some d) → smF (fun d => if tb z d then f d else 0) 64 = smF (fun c => if tb y c then fO f (nbr n c w) else 0) m := by
    intro m
    induction m with
    | zero =>
      intro _ z hz
      have : z = 0 := sbs_eq (fun d hd => by
        obtain ⟨c, hc, _⟩ := (hz d).mp hd
        omega) (fun d hd => by rw [tb_0] at hd; cases hd)
      rw [this]
      have h0 : ∀ k, smF (fun d => if tb 0 d then f d else 0) k = 0 := by
        intro k
        induction k with
        | zero => rfl
        | succ k ih =>
          show smF (fun d => if tb 0 d then f d else 0) k + (if tb 0 k then f k else 0) = 0
          rw [ih, tb_0, if_neg (by decide)]
      rw [h0]
      rfl
    | succ m ih =>
      intro hm z hz
      show _ = smF (fun c => if tb y c then fO f (nbr n c w) else 0) m + (if tb y m then fO f (nbr n m w) else 0)
      have skip : (¬ ∃ e, tb y m = true ∧ nbr n m w = some e) → (if tb y m then fO f (nbr n m w) else 0) = 0 → smF (fun d => if tb z d then f d else 0) 64 = smF (fun c => if tb y c then fO f (nbr n c w) else 0) m + (if tb y m then fO f (nbr n m w) else 0) := by
        intro hno h0
        rw [h0, Nat.add_zero]
        refine ih (by omega) z (fun d => ?_)
        rw [hz d]
        constructor
        · rintro ⟨c, h1, h2, h3⟩
          rcases Nat.lt_or_ge c m with q | q
          · exact ⟨c, q, h2, h3⟩
          · rw [show c = m by omega] at h2 h3
            exact absurd ⟨d, h2, h3⟩ hno
        · rintro ⟨c, h1, h2, h3⟩
          exact ⟨c, by omega, h2, h3⟩
      cases q : tb y m with
      | false =>
        rw [q] at skip
        refine skip ?_ (if_neg (by decide))
        rintro ⟨e, h1, _⟩; cases h1
      | true =>
        cases r : nbr n m w with
        | none =>
          rw [q, r] at skip
          refine skip ?_ rfl
          rintro ⟨e, _, h2⟩; cases h2
        | some e =>
          have he := nbr_lt hn (show m < n * n * n by omega) hw r
          have e64 : e < 64 := by omega
          have hze : tb z e = true := (hz e).mpr ⟨m, by omega, q, r⟩
          rw [smF_bit f hze e64, ih (by omega) (dif z (bit e)) (fun d => by
            rw [tb_dif, hz d]
            constructor
            · rintro ⟨⟨c, h1, h2, h3⟩, h4⟩
              rcases Nat.lt_or_ge c m with zz | zz
              · exact ⟨c, zz, h2, h3⟩
              · rw [show c = m by omega, r] at h3
                rw [← Option.some.inj h3, (tb_b e64).mpr rfl] at h4; cases h4
            · rintro ⟨c, h1, h2, h3⟩
              refine ⟨⟨c, by omega, h2, h3⟩, ?_⟩
              cases y2 : tb (bit e) d with
              | false => rfl
              | true =>
                rw [(tb_b e64).mp y2] at h3
                have b1 := nbr_back hn (show c < n * n * n by omega) hw h3
                have b2 := nbr_back hn (show m < n * n * n by omega) hw r
                rw [b1] at b2
                have := Option.some.inj b2
                omega), if_pos rfl]
          rfl
  refine swap (n * n * n) (Nat.le_refl _) _ (fun d => ?_)
  rw [tb_shf hn, Bool.and_eq_true, decide_eq_true_iff]
  constructor
  · rintro ⟨h1, h2⟩
    cases q : nbr n d (w ^^^ 1) with
    | none => rw [q] at h2; simp [tbo] at h2
    | some c =>
      rw [q] at h2
      have hb := nbr_back hn h1 (xor11 w hw).2 q
      rw [(xor11 w hw).1] at hb
      exact ⟨c, nbr_lt hn h1 (xor11 w hw).2 q, h2, hb⟩
  · rintro ⟨c, h1, h2, h3⟩
    have hb := nbr_back hn h1 hw h3
    refine ⟨nbr_lt hn h1 hw h3, ?_⟩
    rw [hb]
    exact h2
/-- whether a cube and the next one by a way lie apart -/
def apt (n : Nat) (x : Int64) (ws c w : Nat) : Bool := match nbr n c w with
  | some d => !decide (wv n x ws c = -1) && (!decide (wv n x ws d = -1) && !decide (wv n x ws c = wv n x ws d))
  | none => false
theorem apt_s {n : Nat} {x : Int64} {ws c w d : Nat} (h : nbr n c w = some d) : apt n x ws c w = (!decide (wv n x ws c = -1) && (!decide (wv n x ws d = -1) && !decide (wv n x ws c = wv n x ws d))) := by unfold apt; rw [h]
theorem apt_n {n : Nat} {x : Int64} {ws c w : Nat} (h : nbr n c w = none) : apt n x ws c w = false := by unfold apt; rw [h]
def unl (n : Nat) (x : Int64) (ws m : Nat) : Nat → Int64
  | 0 => emp n x &&& shf n (2 * m + 1) (emp n x)
  | w + 1 => dif (unl n x ws m w) (ownL n x ws w &&& shf n (2 * m + 1) (ownL n x ws w))
theorem tb_sh1 {n : Nat} (hn : Sz n) {m c : Nat} (hm : m < 3) {y : Int64} : tb (shf n (2 * m + 1) y) c = true ↔ c < n * n * n ∧ ∃ d, nbr n c (2 * m) = some d ∧ tb y d = true := by
  rw [tb_shf hn, Bool.and_eq_true, decide_eq_true_iff, (xor_e m hm).2]
  constructor
  · rintro ⟨h1, h2⟩
    cases q : nbr n c (2 * m) with
    | none => rw [q] at h2; simp [tbo] at h2
    | some d => rw [q] at h2; exact ⟨h1, d, rfl, h2⟩
  · rintro ⟨h1, d, h2, h3⟩
    rw [h2]; exact ⟨h1, h3⟩
theorem tb_unl {n : Nat} (hn : Sz n) {x : Int64} {ws m c : Nat} (hm : m < 3) : ∀ k, k ≤ 6 → (tb (unl n x ws m k) c = true ↔ c < n * n * n ∧ tb x c = false ∧ ∃ d, nbr n c (2 * m) = some d ∧ tb x d = false ∧ ∀ w, w < k → ¬ (wv n x ws c = nI w ∧ wv n x ws d = nI w))
  | 0, _ => by
    show tb (emp n x &&& shf n (2 * m + 1) (emp n x)) c = true ↔ _
    rw [tb_and, Bool.and_eq_true, tb_emp hn, tb_sh1 hn hm]
    constructor
    · rintro ⟨⟨h1, h2⟩, _, d, h3, h4⟩
      exact ⟨h1, h2, d, h3, ((tb_emp hn).mp h4).2, fun w hw => by omega⟩
    · rintro ⟨h1, h2, d, h3, h4, _⟩
      exact ⟨⟨h1, h2⟩, h1, d, h3, (tb_emp hn).mpr ⟨nbr_lt hn h1 (by omega) h3, h4⟩⟩
  | k + 1, hk => by
    have ih := tb_unl hn (x := x) (ws := ws) (c := c) hm k (by omega)
    show tb (dif (unl n x ws m k) (ownL n x ws k &&& shf n (2 * m + 1) (ownL n x ws k))) c = true ↔ _
    rw [tb_dif, ih]
    constructor
    · rintro ⟨⟨h1, h2, d, h3, h4, h5⟩, h6⟩
      refine ⟨h1, h2, d, h3, h4, fun w hw => ?_⟩
      rcases Nat.lt_or_ge w k with z | z
      · exact h5 w z
      · rw [show w = k by omega]
        rintro ⟨z1, z2⟩
        have : tb (ownL n x ws k &&& shf n (2 * m + 1) (ownL n x ws k)) c = true := by
          rw [tb_and, Bool.and_eq_true, tb_sh1 hn hm]
          exact ⟨(tb_own hn).mpr ⟨h1, z1⟩, h1, d, h3, (tb_own hn).mpr ⟨nbr_lt hn h1 (by omega) h3, z2⟩⟩
        rw [h6] at this; cases this
    · rintro ⟨h1, h2, d, h3, h4, h5⟩
      refine ⟨⟨h1, h2, d, h3, h4, fun w hw => h5 w (by omega)⟩, ?_⟩
      cases q : tb (ownL n x ws k &&& shf n (2 * m + 1) (ownL n x ws k)) c with
      | false => rfl
      | true =>
        rw [tb_and, Bool.and_eq_true, tb_sh1 hn hm] at q
        obtain ⟨z1, _, d', z2, z3⟩ := q
        rw [h3] at z2
        have := Option.some.inj z2
        subst this
        exact absurd ⟨((tb_own hn).mp z1).2, ((tb_own hn).mp z3).2⟩ (h5 k (by omega))
theorem unl_apt {n : Nat} (hn : Sz n) {x : Int64} {ws m : Nat} (hm : m < 3) (hs : srv n x ws = true) {c : Nat} : tb (unl n x ws m 6) c = true ↔ c < n * n * n ∧ apt n x ws c (2 * m) = true := by
  rw [tb_unl hn hm 6 (Nat.le_refl _)]
  constructor
  · rintro ⟨h1, h2, d, h3, h4, h5⟩
    have hd := nbr_lt hn h1 (show 2 * m < 6 by omega) h3
    obtain ⟨u, u1, u2⟩ := wv_srv hn hs h1 h2
    obtain ⟨v, v1, v2⟩ := wv_srv hn hs hd h4
    refine ⟨h1, ?_⟩
    rw [apt_s h3, u2, v2, decide_eq_false (nI_m1 u (by omega)), decide_eq_false (nI_m1 v (by omega)), decide_eq_false (fun z => h5 u u1 ⟨u2, by rw [v2, z]⟩)]
    rfl
  · rintro ⟨h1, h2⟩
    cases q : nbr n c (2 * m) with
    | none => rw [apt_n q] at h2; cases h2
    | some d =>
      have hd := nbr_lt hn h1 (show 2 * m < 6 by omega) q
      rw [apt_s q] at h2
      simp only [Bool.and_eq_true, Bool.not_eq_true', decide_eq_false_iff_not] at h2
      refine ⟨h1, ?_, d, rfl, ?_, fun w hw z => h2.2.2 (z.1.trans z.2.symm)⟩
      · cases y : tb x c with
        | false => rfl
        | true => exact absurd (wv_fig y) h2.1
      · cases y : tb x d with
        | false => rfl
        | true => exact absurd (wv_fig y) h2.2.1
/-- the seam along one axis -/
def smA (n : Nat) (x : Int64) (ws : Nat) (S : Nat → Int64) (m : Nat) : Nat := smF (fun c => if apt n x ws c (2 * m) then shv S c + fO (shv S) (nbr n c (2 * m)) else 0) (n * n * n)
theorem smF_in {n : Nat} (hn : Sz n) {y : Int64} (hy : inB n y) (f : Nat → Nat) : smF (fun c => if tb y c then f c else 0) 64 = smF (fun c => if tb y c then f c else 0) (n * n * n) := by
  have h64 := hn.cube
  have gen : ∀ k, smF (fun c => if tb y c then f c else 0) (n * n * n + k) = smF (fun c => if tb y c then f c else 0) (n * n * n) := by
    intro k
    induction k with
    | zero => rfl
    | succ k ih =>
      show smF (fun c => if tb y c then f c else 0) (n * n * n + k) + (if tb y (n * n * n + k) then f (n * n * n + k) else 0) = _
      rw [ih, tb_in hy (by omega), if_neg (by decide)]
      rfl
  have := gen (64 - n * n * n)
  rw [show n * n * n + (64 - n * n * n) = 64 by omega] at this
  exact this
theorem seam_eq {n : Nat} (hn : Sz n) {x : Int64} {ws m : Nat} (hm : m < 3) (hs : srv n x ws = true) (S : Nat → Int64) : smS S (unl n x ws m 6) + smS S (shf n (2 * m) (unl n x ws m 6)) = smA n x ws S m := by
  have hU : inB n (unl n x ws m 6) := fun c hc => ((unl_apt hn hm hs).mp hc).1
  have hb : ∀ c, c < n * n * n → tb (unl n x ws m 6) c = apt n x ws c (2 * m) := fun c hc => by
    rw [Bool.eq_iff_iff, unl_apt hn hm hs]
    exact ⟨fun z => z.2, fun z => ⟨hc, z⟩⟩
  unfold smS smA
  rw [sum_bij hn (show 2 * m < 6 by omega), smF_in hn hU, smF_add]
  refine smF_cg fun c hc => ?_
  show (if tb (unl n x ws m 6) c then shv S c else 0) + (if tb (unl n x ws m 6) c then fO (shv S) (nbr n c (2 * m)) else 0) = _
  rw [hb c hc]
  cases apt n x ws c (2 * m) <;> rfl
theorem inB_unl {n : Nat} (hn : Sz n) {x : Int64} {ws m : Nat} (hm : m < 3) {k : Nat} (hk : k ≤ 6) : inB n (unl n x ws m k) := fun c hc => ((tb_unl hn hm k hk).mp hc).1
theorem X1_seam {σ : q_M} {n ws : Nat} {x : Int64} (B : Blk σ 2 n) (L : LK σ n x) (W : OW σ n x ws) (hs : srv n x ws = true) : fX1_seam 1 σ = some (nI (smA n x ws (σ.2 7) 0 + smA n x ws (σ.2 7) 1 + smA n x ws (σ.2 7) 2), σ) := by
  have hn := B.1
  have he : inB n (emp n x) := fun c hc => ((tb_emp hn).mp hc).1
  have c39 : ∀ m v3, m < 3 → ∀ rec10, fX1_seam_c39 1 rec10 q_FU 2 v3 (nI (2 * m)) (emp n x &&& shf n (2 * m + 1) (emp n x)) 0 σ = rec10 2 (v3 + nI (smA n x ws (σ.2 7) m)) (nI (2 * (m + 1))) σ := by
    intro m v3 hm rec10
    refine lp_run (fun f (w : Nat) => fX1_seam_c39 1 rec10 f 2 v3 (nI (2 * m)) (unl n x ws m w) (nI w) σ) id 6 _ ?_ ?_ q_FU (by decide)
    · intro f w hw
      show fX1_seam_c39b 1 rec10 (fX1_seam_c39 1 rec10 f) 2 v3 (nI (2 * m)) (unl n x ws m w) (nI w) σ = fX1_seam_c39 1 rec10 f 2 v3 (nI (2 * m)) (dif (unl n x ws m w) (ownL n x ws w &&& shf n (2 * m + 1) (ownL n x ws w))) (nI (w + 1)) σ
      unfold fX1_seam_c39b
      rw [if_neg (show ¬ (6 : Int32) ≤ nI w from nI_ge (a := w) (b := 6) hw (by decide)), gd hw (by decide), gd hw (by decide), nI_clamp (by omega), W w hw, nI_1, X0_shifted B (show 2 * m + 1 < 6 by omega) (inB_own hn), bs, ql, nI_1]
      rfl
    · intro f
      show fX1_seam_c39b 1 rec10 (fX1_seam_c39 1 rec10 f) 2 v3 (nI (2 * m)) (unl n x ws m 6) (nI 6) σ = _
      unfold fX1_seam_c39b
      rw [if_pos (show (6 : Int32) ≤ nI 6 by decide), X2_sum, bs, X0_shifted B (show 2 * m < 6 by omega) (inB_unl hn hm (Nat.le_refl _)), bs, X2_sum, bs, nI_add, show nI (2 * m) + 2 = nI (2 * (m + 1)) from nI_add (2 * m) 2, show σ.2 (1 + 6) = σ.2 7 from rfl, seam_eq hn hm hs]
  have st : ∀ f m v3, m < 3 → fX1_seam_c10 1 (f + 1) 2 v3 (nI (2 * m)) σ = fX1_seam_c10 1 f 2 (v3 + nI (smA n x ws (σ.2 7) m)) (nI (2 * (m + 1))) σ := by
    intro f m v3 hm
    show fX1_seam_c10b 1 (fX1_seam_c10 1 f) 2 v3 (nI (2 * m)) σ = _
    unfold fX1_seam_c10b
    rw [if_neg (show ¬ (6 : Int32) ≤ nI (2 * m) from nI_ge (a := 2 * m) (b := 6) (by omega) (by decide)), L.1, nI_1, X0_shifted B (show 2 * m + 1 < 6 by omega) he, bs, c39 m v3 hm]
  have e0 : fX1_seam 1 σ = _ := st 399 0 (nI 0) (by decide)
  rw [e0, st 398 1 _ (by decide), st 397 2 _ (by decide), nI_add, nI_add, nI_add]
  show fX1_seam_c10b 1 (fX1_seam_c10 1 396) 2 _ (nI 6) σ = _
  unfold fX1_seam_c10b
  rw [if_pos (show (6 : Int32) ≤ nI 6 by decide), Nat.zero_add]
/-- what one cube adds to the seam -/
def smC (n : Nat) (x : Int64) (ws : Nat) (S : Nat → Int64) (c m : Nat) : Nat := if apt n x ws c (2 * m) then shv S c + fO (shv S) (nbr n c (2 * m)) else 0
theorem M_seam {τ : q_M} {n ws : Nat} {x : Int64} {S : Nat → Int64} (h : MN τ n) (W : WY τ n x ws) (hS : ∀ c, c < n * n * n → τ.1 12 c = nI (shv S c)) : fX9_seam 0 τ = some (nI (smA n x ws S 0 + smA n x ws S 1 + smA n x ws S 2), τ) := by
  have hn := h.1
  have h64 := hn.cube
  have a0 : ∀ m, nI m + 0 = nI m := fun m => nI_add m 0
  have st : ∀ rec4 f c v m, c < n * n * n → m < 3 → fX9_seam_c14 0 rec4 (f + 1) (nI v) (nI c) (nI (2 * m)) τ = fX9_seam_c14 0 rec4 f (nI (v + smC n x ws S c m)) (nI c) (nI (2 * (m + 1))) τ := by
    intro rec4 f c v m hc hm
    have e2 : nI (2 * m) + 2 = nI (2 * (m + 1)) := nI_add (2 * m) 2
    have z76 : ∀ v4, fX9_seam_c76 0 rec4 (fX9_seam_c14 0 rec4 f) (nI v) (nI c) (nI (2 * m)) v4 0 τ = fX9_seam_c14 0 rec4 f (nI (v + 0)) (nI c) (nI (2 * (m + 1))) τ := by
      intro v4
      unfold fX9_seam_c76
      rw [if_pos rfl, a0, e2]
      rfl
    show fX9_seam_c14b 0 rec4 (fX9_seam_c14 0 rec4 f) (nI v) (nI c) (nI (2 * m)) τ = _
    unfold fX9_seam_c14b smC
    rw [if_neg (show ¬ (6 : Int32) ≤ nI (2 * m) from nI_ge (a := 2 * m) (b := 6) (by omega) (by decide)), M_from h hc (show 2 * m < 6 by omega), bs, z76]
    cases q : nbr n c (2 * m) with
    | none => rw [frm_none q, if_pos rfl, apt_n q]; rfl
    | some d =>
      have hd := nbr_lt hn hc (show 2 * m < 6 by omega) q
      rw [frm_some q, if_neg (nI_m1 d (by omega)), gd (show c < 64 by omega) (by decide), nI_clamp (show c < 2 ^ 31 by omega), show τ.1 (0 + 17) c = wv n x ws c from W c hc, apt_s q]
      by_cases y1 : wv n x ws c = -1
      · rw [if_pos y1, decide_eq_true y1]; rfl
      rw [if_neg y1, decide_eq_false y1, gd (show d < 64 by omega) (by decide), nI_clamp (show d < 2 ^ 31 by omega), show τ.1 (0 + 17) d = wv n x ws d from W d hd]
      by_cases y2 : wv n x ws d = -1
      · rw [if_pos y2, decide_eq_true y2]; rfl
      rw [if_neg y2, decide_eq_false y2, gd2 (show c < 64 by omega) (by decide), gd2 (show d < 64 by omega) (by decide)]
      by_cases y3 : wv n x ws c = wv n x ws d
      · rw [if_pos y3, decide_eq_true y3]; rfl
      · rw [if_neg y3, decide_eq_false y3]
        unfold fX9_seam_c76
        rw [if_neg b1_ne, gd (show c < 64 by omega) (by decide), gd (show d < 64 by omega) (by decide), ql, nI_clamp (show c < 2 ^ 31 by omega), nI_clamp (show d < 2 ^ 31 by omega), show τ.1 (0 + 12) c = nI (shv S c) from hS c hc, show τ.1 (0 + 12) d = nI (shv S d) from hS d hd, nI_add, nI_add, e2]
        rfl
  have c14 : ∀ rec4 c v, c < n * n * n → fX9_seam_c14 0 rec4 q_FU (nI v) (nI c) 0 τ = rec4 (nI (v + (smC n x ws S c 0 + smC n x ws S c 1 + smC n x ws S c 2))) (nI (c + 1)) τ := by
    intro rec4 c v hc
    have e0 : fX9_seam_c14 0 rec4 q_FU (nI v) (nI c) 0 τ = _ := st rec4 399 c v 0 hc (by decide)
    rw [e0, st rec4 398 c _ 1 hc (by decide), st rec4 397 c _ 2 hc (by decide)]
    show fX9_seam_c14b 0 rec4 (fX9_seam_c14 0 rec4 396) _ (nI c) (nI 6) τ = _
    unfold fX9_seam_c14b
    rw [if_pos (show (6 : Int32) ≤ nI 6 by decide), nI_1, show v + smC n x ws S c 0 + smC n x ws S c 1 + smC n x ws S c 2 = v + (smC n x ws S c 0 + smC n x ws S c 1 + smC n x ws S c 2) by omega]
  have tot : smA n x ws S 0 + smA n x ws S 1 + smA n x ws S 2 = smF (fun c => smC n x ws S c 0 + smC n x ws S c 1 + smC n x ws S c 2) (n * n * n) := by
    unfold smA
    rw [smF_add, smF_add]
    rfl
  unfold fX9_seam
  rw [tot]
  refine lq2 (fX9_seam_c4 0) τ (fun i => nI (smF (fun c => smC n x ws S c 0 + smC n x ws S c 1 + smC n x ws S c 2) i)) (n * n * n) _ (by omega) ?_ ?_
  · intro f c hc
    show fX9_seam_c4b 0 (fX9_seam_c4 0 f) (nI (smF (fun c => smC n x ws S c 0 + smC n x ws S c 1 + smC n x ws S c 2) c)) (nI c) τ = fX9_seam_c4 0 f (nI (smF (fun c => smC n x ws S c 0 + smC n x ws S c 1 + smC n x ws S c 2) c + (smC n x ws S c 0 + smC n x ws S c 1 + smC n x ws S c 2))) (nI (c + 1)) τ
    unfold fX9_seam_c4b
    rw [M_many h, bs, if_neg (nI_ge hc (by omega)), c14 _ c _ hc]
  · intro f
    show fX9_seam_c4b 0 (fX9_seam_c4 0 f) (nI (smF (fun c => smC n x ws S c 0 + smC n x ws S c 1 + smC n x ws S c 2) (n * n * n))) (nI (n * n * n)) τ = _
    unfold fX9_seam_c4b
    rw [M_many h, bs, if_pos (nI_le (Nat.le_refl _) (by omega))]
theorem ag27 {σ σ' : q_M} (h : ag (fun c _ => c ≠ 27) σ σ') : ag sX1 σ σ' := ag_sub h (fun c j hc => by
  unfold sX1 at hc
  show c ≠ 27
  omega)
theorem ag17 {τ τ' : q_M} (h : ag (fun c _ => c ≠ 17) τ τ') : ag sM1 τ τ' := ag_sub h (fun c j hc => by
  unfold sM1 at hc
  show c ≠ 17
  omega)
theorem shw_M {σ τ : q_M} {n p o : Nat} (h : RM σ 1 τ 0 n p o) : ∀ c, c < n * n * n → τ.1 12 c = nI (shv (σ.2 7) c) := fun c hc => by
  obtain ⟨v, v1, v2, v3⟩ := h.2.2.2.2.2.2.2.2.2.2.2.2.2.2 c hc
  rw [show τ.1 12 c = nI v from v2, shv_v v1 (S := σ.2 7) v3]
theorem op_hidden : Op_hidden RR := by
  intro σ τ N h
  have h0 := h
  obtain ⟨K, A, n, p, o, t, hR⟩ := h
  obtain ⟨h1, h2, h3, h4, _⟩ := hR.2.1
  have hN : MN τ n := ⟨h1.1, h2⟩
  have B : Blk σ 2 n := h1
  have hn := h1.1
  obtain ⟨σ1, L, aX, e⟩ := X8_lookF B h4 h3
  obtain ⟨τ1, F, hN1, aM, e'⟩ := M_find (x := τ.2 0 12) hN
  have key := lp_ls (fun f (s : Int32 × Int32 × Nat × q_M) => fX1_leastSeamWays_c7 1 f s.1 s.2.1 (nI s.2.2.1) s.2.2.2) (fun f (s : Int32 × Int32 × Nat × q_M) => fX9_hidden_c14 0 f s.1 s.2.1 (nI s.2.2.1) s.2.2.2) (fun i s t => s.1 = t.1 ∧ s.2.1 = t.2.1 ∧ s.2.2.1 = i ∧ t.2.2.1 = i ∧ LK s.2.2.2 n (τ.2 0 12) ∧ ag sX1 σ s.2.2.2 ∧ FR t.2.2.2 n (τ.2 0 12) ∧ ag sM1 τ t.2.2.2) 64 (fun s => some (s.1, s.2.2.2)) (fun s => if s.1 = -1 then (fX9_refuse 0 (-5) s.2.2.2).bind fun o3 => some (o3.1, o3.2) else some (s.1, s.2.2.2)) ?_ ?_ q_FU q_FU (-1, 0, 0, σ1) (-1, 0, 0, τ1) (by decide) (by decide) ⟨rfl, rfl, rfl, rfl, L, aX, F, aM⟩
  · obtain ⟨⟨u1, u2, i, σ'⟩, ⟨t1, t2, j, τ'⟩, ⟨e1, e2, _, _, _, bX, _, bM⟩, e5, e6⟩ := key
    have e1' : u1 = t1 := e1
    subst e1'
    unfold fX8_hidden fX9_hidden fX1_leastSeamWays
    have e5' : fX1_leastSeamWays_c7 1 q_FU (-1) 0 0 σ1 = some (u1, σ') := e5
    have e6' : fX9_hidden_c14 0 q_FU (-1) 0 0 τ1 = if u1 = -1 then (fX9_refuse 0 (-5) τ').bind fun o3 => some (o3.1, o3.2) else some (u1, τ') := e6
    rw [e, bs, e5', bs, e', bs, e6']
    by_cases q : u1 = -1
    · rw [if_pos q, if_pos q, X_stk, bs, M_stk, bs]
      exact ⟨_, _, _, rfl, rfl, RR_rf (RR_sc h0 bX bM) (by decide)⟩
    · rw [if_neg q, if_neg q]
      exact ⟨_, _, _, rfl, rfl, RR_sc h0 bX bM⟩
  · rintro f g i ⟨u1, u2, i1, σ2⟩ ⟨t1, t2, j1, τ2⟩ hi ⟨e1, e2, e3, e4, L2, bX, F2, bM⟩
    have e1' : u1 = t1 := e1
    have e2' : u2 = t2 := e2
    have e3' : i1 = i := e3
    have e4' : j1 = i := e4
    have bX' : ag sX1 σ σ2 := bX
    have bM' : ag sM1 τ τ2 := bM
    have L2' : LK σ2 n (τ.2 0 12) := L2
    have F2' : FR τ2 n (τ.2 0 12) := F2
    subst e1' e2' e3' e4'
    have N2 : MN τ2 n := ⟨hn, by rw [(bM' 0 11 (by unfold sM1; omega)).1]; exact h2⟩
    cases q : srv n (τ.2 0 12) j1 with
    | false =>
      refine ⟨(u1, u2, j1 + 1, σ2), (u1, u2, j1 + 1, τ2), ⟨rfl, rfl, rfl, rfl, L2', bX', F2', bM'⟩, ?_, ?_⟩
      · show fX1_leastSeamWays_c7b 1 (fX1_leastSeamWays_c7 1 f) u1 u2 (nI j1) σ2 = _
        unfold fX1_leastSeamWays_c7b
        rw [if_neg (show ¬ (64 : Int32) ≤ nI j1 from nI_ge (a := j1) (b := 64) hi (by decide)), X1_suffices L2' hi, bs, q, b1_f, if_pos rfl, nI_1]
      · show fX9_hidden_c14b 0 (fX9_hidden_c14 0 g) u1 u2 (nI j1) τ2 = _
        unfold fX9_hidden_c14b
        rw [if_neg (show ¬ (64 : Int32) ≤ nI j1 from nI_ge (a := j1) (b := 64) hi (by decide)), M_doServe N2 F2' hi, bs, q, b1_f, if_pos rfl, nI_1]
    | true =>
      obtain ⟨σ3, W3, L3, a3, _, c3⟩ := X1_share hn L2' hi
      obtain ⟨τ3, Y3, F3, N3, m3, _, d3⟩ := M_findWays N2 F2' hi
      have bX3 : ag sX1 σ σ3 := ag_tr bX' (ag27 a3)
      have bM3 : ag sM1 τ τ3 := ag_tr bM' (ag17 m3)
      have sX := X1_seam (blk_sc B bX3) L3 W3 q
      have hR3 := Rel_sc hR bX3 bM3
      have sM := M_seam (S := σ3.2 7) N3 Y3 (shw_M hR3.2.1)
      have stpX : ∀ A, fX1_leastSeamWays_c7b 1 (fX1_leastSeamWays_c7 1 f) u1 u2 (nI j1) σ2 = A ↔ (if u1 = -1 then fX1_leastSeamWays_c7 1 f (nI j1) (nI (smA n (τ.2 0 12) j1 (σ3.2 7) 0 + smA n (τ.2 0 12) j1 (σ3.2 7) 1 + smA n (τ.2 0 12) j1 (σ3.2 7) 2)) (nI (j1 + 1)) σ3 else if u2 ≤ nI (smA n (τ.2 0 12) j1 (σ3.2 7) 0 + smA n (τ.2 0 12) j1 (σ3.2 7) 1 + smA n (τ.2 0 12) j1 (σ3.2 7) 2) then fX1_leastSeamWays_c7 1 f u1 u2 (nI (j1 + 1)) σ3 else fX1_leastSeamWays_c7 1 f (nI j1) (nI (smA n (τ.2 0 12) j1 (σ3.2 7) 0 + smA n (τ.2 0 12) j1 (σ3.2 7) 1 + smA n (τ.2 0 12) j1 (σ3.2 7) 2)) (nI (j1 + 1)) σ3) = A := by
        intro A
        unfold fX1_leastSeamWays_c7b
        rw [if_neg (show ¬ (64 : Int32) ≤ nI j1 from nI_ge (a := j1) (b := 64) hi (by decide)), X1_suffices L2' hi, bs, q, b1_t, if_neg b1_ne, c3, bs, sX, bs, nI_1]
      have stpM : ∀ A, fX9_hidden_c14b 0 (fX9_hidden_c14 0 g) u1 u2 (nI j1) τ2 = A ↔ (if u1 = -1 then fX9_hidden_c14 0 g (nI j1) (nI (smA n (τ.2 0 12) j1 (σ3.2 7) 0 + smA n (τ.2 0 12) j1 (σ3.2 7) 1 + smA n (τ.2 0 12) j1 (σ3.2 7) 2)) (nI (j1 + 1)) τ3 else if u2 ≤ nI (smA n (τ.2 0 12) j1 (σ3.2 7) 0 + smA n (τ.2 0 12) j1 (σ3.2 7) 1 + smA n (τ.2 0 12) j1 (σ3.2 7) 2) then fX9_hidden_c14 0 g u1 u2 (nI (j1 + 1)) τ3 else fX9_hidden_c14 0 g (nI j1) (nI (smA n (τ.2 0 12) j1 (σ3.2 7) 0 + smA n (τ.2 0 12) j1 (σ3.2 7) 1 + smA n (τ.2 0 12) j1 (σ3.2 7) 2)) (nI (j1 + 1)) τ3) = A := by
        intro A
        unfold fX9_hidden_c14b
        rw [if_neg (show ¬ (64 : Int32) ≤ nI j1 from nI_ge (a := j1) (b := 64) hi (by decide)), M_doServe N2 F2' hi, bs, q, b1_t, if_neg b1_ne, d3, bs, sM, bs, nI_1]
      generalize nI (smA n (τ.2 0 12) j1 (σ3.2 7) 0 + smA n (τ.2 0 12) j1 (σ3.2 7) 1 + smA n (τ.2 0 12) j1 (σ3.2 7) 2) = Z at stpX stpM
      by_cases y1 : u1 = -1
      · refine ⟨(nI j1, Z, j1 + 1, σ3), (nI j1, Z, j1 + 1, τ3), ⟨rfl, rfl, rfl, rfl, L3, bX3, F3, bM3⟩, ?_, ?_⟩
        · exact (stpX _).mpr (by rw [if_pos y1])
        · exact (stpM _).mpr (by rw [if_pos y1])
      · by_cases y2 : u2 ≤ Z
        · refine ⟨(u1, u2, j1 + 1, σ3), (u1, u2, j1 + 1, τ3), ⟨rfl, rfl, rfl, rfl, L3, bX3, F3, bM3⟩, ?_, ?_⟩
          · exact (stpX _).mpr (by rw [if_neg y1, if_pos y2])
          · exact (stpM _).mpr (by rw [if_neg y1, if_pos y2])
        · refine ⟨(nI j1, Z, j1 + 1, σ3), (nI j1, Z, j1 + 1, τ3), ⟨rfl, rfl, rfl, rfl, L3, bX3, F3, bM3⟩, ?_, ?_⟩
          · exact (stpX _).mpr (by rw [if_neg y1, if_neg y2])
          · exact (stpM _).mpr (by rw [if_neg y1, if_neg y2])
  · rintro f g ⟨u1, u2, i1, σ2⟩ ⟨t1, t2, j1, τ2⟩ ⟨e1, e2, e3, e4, _⟩
    have e3' : i1 = 64 := e3
    have e4' : j1 = 64 := e4
    subst e3' e4'
    refine ⟨?_, ?_⟩
    · show fX1_leastSeamWays_c7b 1 (fX1_leastSeamWays_c7 1 f) u1 u2 (nI 64) σ2 = _
      unfold fX1_leastSeamWays_c7b
      rw [if_pos (show (64 : Int32) ≤ nI 64 by decide)]
    · show fX9_hidden_c14b 0 (fX9_hidden_c14 0 g) t1 t2 (nI 64) τ2 = _
      unfold fX9_hidden_c14b
      rw [if_pos (show (64 : Int32) ≤ nI 64 by decide)]
