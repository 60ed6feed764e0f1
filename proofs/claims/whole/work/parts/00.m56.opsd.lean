/-! Operations with moves. -/
theorem n2' : ¬ (-2 : Int32) = 0 := by decide
theorem n3' : ¬ (-3 : Int32) = 0 := by decide
theorem n4' : ¬ (-4 : Int32) = 0 := by decide
theorem n5' : ¬ (-5 : Int32) = 0 := by decide
theorem nle10 : ∀ k, k ≤ 4 → nI k ≤ 10 := by decide +kernel
theorem isMove_m {σ : q_M} {s kd : Nat} (h : σ.1 (31 + 4 * s) 0 = nI (10 + kd)) (h1 : 1 ≤ kd) (h5 : kd ≤ 5) : fX6_isMove (31 + 4 * s) σ = some (1, σ) ∧ fX6_isRow (31 + 4 * s) σ = some (0, σ) := by
  unfold fX6_isMove fX6_isRow
  rw [h]
  refine ⟨?_, ?_⟩
  · rw [if_neg (show ¬ nI (10 + kd) ≤ 10 from nI_ge (a := 10) (b := 10 + kd) (by omega) (by omega))]
  · rw [if_neg (nI_pos (by omega)), if_pos (show (4 : Int32) < nI (10 + kd) from nI_lt (a := 4) (by omega) (by omega))]
theorem isMove_r {σ : q_M} {s so : Nat} (h : σ.1 (31 + 4 * s) 0 = nI so) (h4 : so ≤ 4) : fX6_isMove (31 + 4 * s) σ = some (0, σ) ∧ fX6_isRow (31 + 4 * s) σ = some (1, σ) := by
  unfold fX6_isMove fX6_isRow
  rw [h]
  refine ⟨?_, ?_⟩
  · rw [if_pos (show nI so ≤ 10 from nI_le (b := 10) (by omega) (by decide))]
  · rw [if_neg (nI_pos (by omega)), if_neg (show ¬ (4 : Int32) < nI so from nI_nlt (a := 4) h4 (by decide))]
theorem isMove_n {σ : q_M} {s : Nat} (h : σ.1 (31 + 4 * s) 0 = -1) : fX6_isMove (31 + 4 * s) σ = some (0, σ) ∧ fX6_isRow (31 + 4 * s) σ = some (0, σ) := by
  unfold fX6_isMove fX6_isRow
  rw [h]
  exact ⟨if_pos (by decide), if_pos (by decide)⟩
def MvC (σ τ : q_M) (s : Nat) : Prop := ∃ kd a b, Mv σ (31 + 4 * s + 3) kd a b ∧ MM τ s kd a b ∧ fX8_moveRefusal (nI s) σ = some (0, σ) ∧ fX9_noMove 0 (nI s) τ = some (0, τ) ∧ τ.1 1 s = 2
theorem mv_c {σ τ : q_M} (h : RSh σ τ) (x : Int32) : (isI x 8 = false ∧ fX8_moveRefusal x σ = some (-2, σ) ∧ fX9_noMove 0 x τ = some (-2, rfM τ 0)) ∨ ∃ s, s < 8 ∧ x = nI s ∧ ((fX8_moveRefusal x σ = some (-3, σ) ∧ fX9_noMove 0 x τ = some (-3, rfM τ 1) ∧ τ.1 1 s = 1) ∨ (fX8_moveRefusal x σ = some (-4, σ) ∧ fX9_noMove 0 x τ = some (-4, rfM τ 2) ∧ τ.1 1 s = 0) ∨ MvC σ τ s) := by
  rcases isI_c x (p := 8) (by decide) with q | ⟨s, hs, rfl⟩
  · refine Or.inl ⟨q, ?_, ?_⟩
    · unfold fX8_moveRefusal
      rw [X8_isShelf, bs, q, b1_f, if_pos rfl]
    · unfold fX9_noMove
      rw [M_in7, bs, q, b1_f, if_pos rfl, M_bad, bs]
  · refine Or.inr ⟨s, hs, rfl, ?_⟩
    rcases h s hs with ⟨e1, e2⟩ | ⟨so, m, e1, e2, e3, e4, _⟩ | ⟨kd, a, b, e1, e2, e3, e4, e5, e6, e7, e8, e9⟩
    · refine Or.inr (Or.inl ⟨?_, ?_, e2⟩)
      · unfold fX8_moveRefusal
        rw [X8_isShelf, bs, isI_y hs (by decide), b1_t, if_neg b1_ne, gd hs (by decide), nI_clamp (by omega), (isMove_n e1).2, bs, if_pos rfl, gd2 hs (by decide), (isMove_n e1).1, bs, if_pos rfl]
      · unfold fX9_noMove
        rw [M_in7, bs, isI_y hs (by decide), b1_t, if_neg b1_ne, gd hs (by decide), nI_clamp (by omega), show τ.1 (0 + 1) s = 0 from e2, if_neg (by decide), gd2 hs (by decide), if_pos rfl, M_not, bs]
    · refine Or.inl ⟨?_, ?_, e4⟩
      · unfold fX8_moveRefusal
        rw [X8_isShelf, bs, isI_y hs (by decide), b1_t, if_neg b1_ne, gd hs (by decide), nI_clamp (by omega), (isMove_r e3 e1).2, bs, if_neg b1_ne]
      · unfold fX9_noMove
        rw [M_in7, bs, isI_y hs (by decide), b1_t, if_neg b1_ne, gd hs (by decide), nI_clamp (by omega), show τ.1 (0 + 1) s = 1 from e4, if_pos rfl, M_oth, bs]
    · refine Or.inr (Or.inr ⟨kd, a, b, ⟨e1, by rw [show 31 + 4 * s + 3 = 34 + 4 * s by omega]; exact e7, by rw [show 31 + 4 * s + 3 = 34 + 4 * s by omega]; exact e8, by rw [show 31 + 4 * s + 3 = 34 + 4 * s by omega]; exact e9⟩, ⟨e1, hs, e4, e5, e6⟩, ?_, ?_, e3⟩)
      · unfold fX8_moveRefusal
        rw [X8_isShelf, bs, isI_y hs (by decide), b1_t, if_neg b1_ne, gd hs (by decide), nI_clamp (by omega), (isMove_m e2 e1.1 e1.2.1).2, bs, if_pos rfl, gd2 hs (by decide), (isMove_m e2 e1.1 e1.2.1).1, bs, if_neg b1_ne]
      · unfold fX9_noMove
        rw [M_in7, bs, isI_y hs (by decide), b1_t, if_neg b1_ne, gd hs (by decide), nI_clamp (by omega), show τ.1 (0 + 1) s = 2 from e3, if_neg (by decide), gd2 hs (by decide), if_neg (by decide)]
theorem op_comes : Op_comes RR := by
  intro σ τ N x y h
  have h0 := h
  obtain ⟨K, A, n, p, o, t, hR⟩ := h
  obtain ⟨h1, h2, h3, h4, _⟩ := hR.2.1
  have hN : MN τ n := ⟨h1.1, h2⟩
  have B : Blk σ 2 n := h1
  unfold fX8_comes fX9_comes
  rcases mv_c hR.2.2.2.2.2.1 x with ⟨_, e1, e2⟩ | ⟨s, hs, rfl, ⟨e1, e2, _⟩ | ⟨e1, e2, _⟩ | ⟨kd, a, b, m1, m2, e1, e2, _⟩⟩
  · rw [e1, bs, if_neg n2', X_bad, bs, e2, bs, if_neg n2']
    exact ⟨_, _, _, rfl, rfl, RR_rf h0 (by decide)⟩
  · rw [e1, bs, if_neg n3', X_oth, bs, e2, bs, if_neg n3']
    exact ⟨_, _, _, rfl, rfl, RR_rf h0 (by decide)⟩
  · rw [e1, bs, if_neg n4', X_not, bs, e2, bs, if_neg n4']
    exact ⟨_, _, _, rfl, rfl, RR_rf h0 (by decide)⟩
  · rw [e1, bs, if_pos rfl, gd hs (by decide), nI_clamp (by omega), e2, bs, if_pos rfl, M_block hN, bs, show σ.2 2 2 = allL n from B.2.2.2.1, h3, X3_takes B m1 (inB_and_all h1.1), bs, M_comesBy hN m2 (inB_and_all h1.1), bs]
    cases mvT n kd a b (y &&& allL n) (τ.2 0 12) with
    | false => exact ⟨0, _, _, rfl, rfl, h0⟩
    | true => exact ⟨1, _, _, rfl, rfl, h0⟩
theorem op_slide : Op_slide RR := by
  intro σ τ N x y k h
  have h0 := h
  obtain ⟨K, A, n, p, o, t, hR⟩ := h
  obtain ⟨h1, h2, h3, h4, _⟩ := hR.2.1
  have hN : MN τ n := ⟨h1.1, h2⟩
  have B : Blk σ 2 n := h1
  unfold fX8_slide fX9_slide
  rw [M_in7, bs]
  have bad : fX8_slide_c22 x y k (-2) σ = some ((-2 : Int32).toInt64, rfX σ 0) := by
    unfold fX8_slide_c22
    rw [if_neg n2', X_bad, bs]
  rcases isI_c k (p := 10) (by decide) with q | ⟨m, hm, rfl⟩
  · have e : ∀ {α : Type} {P Q : α}, (if k < 0 then P else if k ≤ 9 then Q else P) = P := by
      intro α P Q
      rcases isI_f q with z | z
      · rw [if_pos z]
      · by_cases w : k < 0
        · rw [if_pos w]
        · rw [if_neg w, if_neg (show ¬ k ≤ 9 from fun u => (i_le (a := 9) (by decide)).mp u z)]
    rw [e, bad]
    by_cases q2 : isI x 8 = false
    · rw [q2, b1_f, if_pos rfl, M_bad, bs]
      exact ⟨_, _, _, rfl, rfl, RR_rf h0 (by decide)⟩
    · rw [show isI x 8 = true by simpa using q2, b1_t, if_neg b1_ne, M_in9, bs, q, b1_f, if_pos rfl, M_bad, bs]
      exact ⟨_, _, _, rfl, rfl, RR_rf h0 (by decide)⟩
  · rw [if_neg (nI_pos (by omega)), if_pos (show nI m ≤ 9 from nI_le (b := 9) (by omega) (by decide))]
    rcases mv_c hR.2.2.2.2.2.1 x with ⟨q2, e1, e2⟩ | ⟨s, hs, rfl, hh⟩
    · rw [e1, bs, bad, q2, b1_f, if_pos rfl, M_bad, bs]
      exact ⟨_, _, _, rfl, rfl, RR_rf h0 (by decide)⟩
    · rw [isI_y hs (by decide), b1_t, if_neg b1_ne, M_in9, bs, isI_y hm (by decide), b1_t, if_neg b1_ne]
      rcases hh with ⟨e1, e2, _⟩ | ⟨e1, e2, _⟩ | ⟨kd, a, b, m1, m2, e1, e2, _⟩
      · rw [e1, bs, e2, bs, if_neg n3']
        unfold fX8_slide_c22
        rw [if_neg n3', X_oth, bs]
        exact ⟨_, _, _, rfl, rfl, RR_rf h0 (by decide)⟩
      · rw [e1, bs, e2, bs, if_neg n4']
        unfold fX8_slide_c22
        rw [if_neg n4', X_not, bs]
        exact ⟨_, _, _, rfl, rfl, RR_rf h0 (by decide)⟩
      · obtain ⟨⟨k1, k5, a6, b6⟩, _, w0, w1, w2⟩ := m2
        have hin : inB n (y &&& allL n) := inB_and_all h1.1
        refine ⟨sq n kd a b (y &&& allL n) m, σ, τ, ?_, ?_, h0⟩
        · rw [e1, bs]
          unfold fX8_slide_c22
          rw [if_pos rfl, gd hs (by decide), nI_clamp (by omega), show σ.2 2 2 = allL n from B.2.2.2.1, X3_carried B m1 hin (by omega), bs]
        · have key : ∀ fs, (∀ j, j < 9 → (if j < fs then a else b) = wy kd a b j) → fs ≤ 9 → fX9_slide_c79 0 (nI s) y (nI m) (nI fs) τ = some (sq n kd a b (y &&& allL n) m, τ) := by
            intro fs hfs f9
            unfold fX9_slide_c79
            rw [M_block hN, bs]
            refine lp_run (fun f (i : Nat) => fX9_slide_c92 0 (nI s) y (nI m) f (nI fs) (sq n kd a b (y &&& allL n) i) (nI i) τ) id m _ ?_ ?_ q_FU (by show _ < 400; omega)
            · intro f i hi
              have hi' : i < m := hi
              show fX9_slide_c92b 0 (nI s) y (nI m) (fX9_slide_c92 0 (nI s) y (nI m) f) (nI fs) (sq n kd a b (y &&& allL n) i) (nI i) τ = fX9_slide_c92 0 (nI s) y (nI m) f (nI fs) (shf n (wy kd a b i) (sq n kd a b (y &&& allL n) i)) (nI (i + 1)) τ
              unfold fX9_slide_c92b
              rw [if_neg (nI_ge hi' (by omega)), ← hfs i (by omega)]
              by_cases z : i < fs
              · rw [if_neg (nI_ge z (by omega)), gd hs (by decide), nI_clamp (by omega), show τ.1 (0 + 7) s = nI a from w1, M_onFrom hN a6, bs, nI_1, if_pos z]
              · rw [if_pos (nI_le (by omega) (by omega)), gd hs (by decide), nI_clamp (by omega), show τ.1 (0 + 8) s = nI b from w2, M_onFrom hN b6, bs, nI_1, if_neg z]
            · intro f
              show fX9_slide_c92b 0 (nI s) y (nI m) (fX9_slide_c92 0 (nI s) y (nI m) f) (nI fs) (sq n kd a b (y &&& allL n) m) (nI m) τ = _
              unfold fX9_slide_c92b
              rw [if_pos (nI_le (Nat.le_refl _) (by omega))]
          rw [e2, bs, if_pos rfl, gd hs (by decide), nI_clamp (by omega), show τ.1 (0 + 6) s = nI kd from w0]
          by_cases q2 : kd = 2
          · subst q2
            rw [if_pos (show nI 2 = 2 from rfl)]
            exact key 1 (fun j _ => by unfold wy; rw [if_pos rfl]) (by decide)
          · rw [if_neg (show ¬ nI kd = 2 from kd_ne k5 (by decide) q2), gd2 hs (by decide)]
            by_cases q5 : kd = 5
            · subst q5
              rw [if_pos (show nI 5 = 5 from rfl)]
              exact key 2 (fun j _ => by unfold wy; rw [if_neg (show ¬ (5 : Nat) = 2 by decide), if_pos (show (5 : Nat) = 5 from rfl)]) (by decide)
            · rw [if_neg (show ¬ nI kd = 5 from kd_ne k5 (by decide) q5)]
              exact key 9 (fun j hj => by unfold wy; rw [if_neg q2, if_neg q5, if_pos hj]) (by decide)
/-- how many cubes of a set come, each alone -/
def cmg (n kd a b : Nat) (z x : Int64) : Nat → Bool := fun c => tb z c && mvT n kd a b (bit c) x
theorem X8_coming {σ : q_M} {k n kd a b : Nat} {z : Int64} (B : Blk σ 2 n) (h : Mv σ k kd a b) : fX8_countComing k z σ = some (nI (ctN (cmg n kd a b z (σ.2 1 1)) (n * n * n)), σ) := by
  have hn := B.1
  have h64 := hn.cube
  unfold fX8_countComing
  refine lq2 (fX8_countComing_c6 k z) σ (fun i => nI (ctN (cmg n kd a b z (σ.2 1 1)) i)) (n * n * n) _ (by omega) ?_ ?_
  · intro f i hi
    show fX8_countComing_c6b k z (fX8_countComing_c6 k z f) (nI (ctN (cmg n kd a b z (σ.2 1 1)) i)) (nI i) σ = fX8_countComing_c6 k z f (nI (ctN (cmg n kd a b z (σ.2 1 1)) i + (if cmg n kd a b z (σ.2 1 1) i then 1 else 0))) (nI (i + 1)) σ
    have hb : inB n (bit i) := fun c hc => by rw [(tb_b (show i < 64 by omega)).mp hc]; exact hi
    unfold fX8_countComing_c6b
    rw [B.2.2.1, if_neg (nI_ge hi (by omega)), nI_1]
    cases q : tb z i with
    | false =>
      rw [if_pos ((and_sh0 (show i < 64 by omega)).mpr q), if_neg (show ¬ cmg n kd a b z (σ.2 1 1) i = true by unfold cmg; rw [q]; simp)]
      rfl
    | true =>
      rw [if_neg (fun w => by rw [(and_sh0 (show i < 64 by omega)).mp w] at q; cases q), show q_shl 1 (nI i) = bit i from rfl, X3_takes B h hb, bs]
      have e : cmg n kd a b z (σ.2 1 1) i = mvT n kd a b (bit i) (σ.2 1 1) := by unfold cmg; rw [q]; rfl
      rw [e]
      cases mvT n kd a b (bit i) (σ.2 1 1) with
      | false => rw [b1_f, if_pos rfl, if_neg (by decide)]; rfl
      | true => rw [b1_t, if_neg b1_ne, nI_1, if_pos rfl]
  · intro f
    show fX8_countComing_c6b k z (fX8_countComing_c6 k z f) (nI (ctN (cmg n kd a b z (σ.2 1 1)) (n * n * n))) (nI (n * n * n)) σ = _
    unfold fX8_countComing_c6b
    rw [B.2.2.1, if_pos (nI_le (Nat.le_refl _) (by omega))]
theorem M_coming {τ : q_M} {s n kd a b : Nat} {z : Int64} (hN : MN τ n) (h : MM τ s kd a b) : fX9_thatCome 0 (nI s) z τ = some (nI (ctN (cmg n kd a b z (τ.2 0 12)) (n * n * n)), τ) := by
  have hn := hN.1
  have h64 := hn.cube
  unfold fX9_thatCome
  refine lq2 (fX9_thatCome_c6 0 (nI s) z) τ (fun i => nI (ctN (cmg n kd a b z (τ.2 0 12)) i)) (n * n * n) _ (by omega) ?_ ?_
  · intro f i hi
    show fX9_thatCome_c6b 0 (nI s) z (fX9_thatCome_c6 0 (nI s) z f) (nI (ctN (cmg n kd a b z (τ.2 0 12)) i)) (nI i) τ = fX9_thatCome_c6 0 (nI s) z f (nI (ctN (cmg n kd a b z (τ.2 0 12)) i + (if cmg n kd a b z (τ.2 0 12) i then 1 else 0))) (nI (i + 1)) τ
    have hb : inB n (bit i) := fun c hc => by rw [(tb_b (show i < 64 by omega)).mp hc]; exact hi
    have a0 : ∀ m, nI m + 0 = nI m := fun m => nI_add m 0
    unfold fX9_thatCome_c6b
    rw [M_many hN, bs, if_neg (nI_ge hi (by omega)), nI_1]
    cases q : tb z i with
    | false =>
      rw [M_hasF (by omega) q, bs, if_pos rfl, if_neg (show ¬ cmg n kd a b z (τ.2 0 12) i = true by unfold cmg; rw [q]; simp), a0]
      rfl
    | true =>
      rw [M_hasT (by omega) q, bs, if_neg b1_ne, show q_shl 1 (nI i) = bit i from rfl, M_comesBy hN h hb, bs]
      have e : cmg n kd a b z (τ.2 0 12) i = mvT n kd a b (bit i) (τ.2 0 12) := by unfold cmg; rw [q]; rfl
      rw [e]
      cases mvT n kd a b (bit i) (τ.2 0 12) with
      | false => rw [b1_f, if_pos rfl, if_neg (by decide), a0]; rfl
      | true => rw [b1_t, if_neg b1_ne, nI_1, if_pos rfl]
  · intro f
    show fX9_thatCome_c6b 0 (nI s) z (fX9_thatCome_c6 0 (nI s) z f) (nI (ctN (cmg n kd a b z (τ.2 0 12)) (n * n * n))) (nI (n * n * n)) τ = _
    unfold fX9_thatCome_c6b
    rw [M_many hN, bs, if_pos (nI_le (Nat.le_refl _) (by omega))]
theorem MM_fr {τ τ' : q_M} {s kd a b : Nat} (h : MM τ s kd a b) (aM : ag sM1 τ τ') : MM τ' s kd a b := by
  obtain ⟨h1, h2, h3, h4, h5⟩ := h
  exact ⟨h1, h2, by rw [(aM 6 s (by unfold sM1; omega)).1]; exact h3, by rw [(aM 7 s (by unfold sM1; omega)).1]; exact h4, by rw [(aM 8 s (by unfold sM1; omega)).1]; exact h5⟩
theorem Mv_fr {σ σ' : q_M} {k kd a b : Nat} (h : Mv σ k kd a b) (hk : 31 ≤ k) (aX : ag sX1 σ σ') : Mv σ' k kd a b := by
  obtain ⟨h1, h3, h4, h5⟩ := h
  exact ⟨h1, by rw [(aX k 0 (by unfold sX1; omega)).1]; exact h3, by rw [(aX k 1 (by unfold sX1; omega)).1]; exact h4, by rw [(aX k 2 (by unfold sX1; omega)).1]; exact h5⟩
theorem op_helps : Op_helps RR := by
  intro σ τ N x h
  have h0 := h
  obtain ⟨K, A, n, p, o, t, hR⟩ := h
  obtain ⟨h1, h2, h3, h4, _⟩ := hR.2.1
  have hN : MN τ n := ⟨h1.1, h2⟩
  have B : Blk σ 2 n := h1
  unfold fX8_helps fX9_helps
  rcases mv_c hR.2.2.2.2.2.1 x with ⟨_, e1, e2⟩ | ⟨s, hs, rfl, ⟨e1, e2, _⟩ | ⟨e1, e2, _⟩ | ⟨kd, a, b, m1, m2, e1, e2, _⟩⟩
  · rw [e1, bs, if_neg n2', X_bad, bs, e2, bs, if_neg n2']
    exact ⟨_, _, _, rfl, rfl, RR_rf h0 (by decide)⟩
  · rw [e1, bs, if_neg n3', X_oth, bs, e2, bs, if_neg n3']
    exact ⟨_, _, _, rfl, rfl, RR_rf h0 (by decide)⟩
  · rw [e1, bs, if_neg n4', X_not, bs, e2, bs, if_neg n4']
    exact ⟨_, _, _, rfl, rfl, RR_rf h0 (by decide)⟩
  · obtain ⟨σ', L, aX, e⟩ := X8_lookF B h4 h3
    obtain ⟨τ', F, hN', aM, e'⟩ := M_never hN
    rw [e1, bs, if_pos rfl, gd hs (by decide), nI_clamp (by omega), e2, bs, if_pos rfl, e, bs, X1_never L, bs, e', bs, X8_coming (blk_sc B aX) (Mv_fr m1 (by omega) aX), bs, M_coming hN' (MM_fr m2 aM), bs, fig_X aX, fig_M aM, h3]
    exact ⟨_, _, _, rfl, rfl, RR_sc h0 aX aM⟩
theorem kind_t : ∀ kd, kd < 6 → ∀ k, k < 6 → 1 ≤ kd → ∀ σ : q_M, True := fun _ _ _ _ _ _ => trivial
def und (kd k : Nat) : Bool := decide (k = 0) || decide (kd = k) || (decide (k = 1) && (decide (kd = 3) || decide (kd = 4))) || (decide (k = 2) && decide (kd = 5))
theorem X3_kind {σ : q_M} {c kd a b k : Nat} (h : Mv σ c kd a b) (hk : k < 6) : fX3_isOfKind c (nI k) σ = some (b1 (und kd k), σ) := by
  obtain ⟨⟨k1, k5, _, _⟩, h0, _, _⟩ := h
  unfold fX3_isOfKind
  rw [h0]
  rcases (show k = 0 ∨ k = 1 ∨ k = 2 ∨ k = 3 ∨ k = 4 ∨ k = 5 by omega) with rfl | rfl | rfl | rfl | rfl | rfl <;> rcases (show kd = 1 ∨ kd = 2 ∨ kd = 3 ∨ kd = 4 ∨ kd = 5 by omega) with rfl | rfl | rfl | rfl | rfl <;> rfl
theorem M_under {τ : q_M} {kd k : Nat} (k1 : 1 ≤ kd) (k5 : kd ≤ 5) (hk : k < 6) : fX9_isUnder (nI kd) (nI k) τ = some (b1 (und kd k), τ) := by
  unfold fX9_isUnder fX9_isUnder_c24
  rcases (show k = 0 ∨ k = 1 ∨ k = 2 ∨ k = 3 ∨ k = 4 ∨ k = 5 by omega) with rfl | rfl | rfl | rfl | rfl | rfl <;> rcases (show kd = 1 ∨ kd = 2 ∨ kd = 3 ∨ kd = 4 ∨ kd = 5 by omega) with rfl | rfl | rfl | rfl | rfl <;> rfl
theorem op_says : Op_says RR := by
  intro σ τ N x y h
  have h0 := h
  obtain ⟨K, A, n, p, o, t, hR⟩ := h
  obtain ⟨h1, h2, h3, h4, _⟩ := hR.2.1
  have hN : MN τ n := ⟨h1.1, h2⟩
  have B : Blk σ 2 n := h1
  unfold fX8_says fX9_says
  have bad : fX8_says_c19 x y (-2) σ = some (-2, rfX σ 0) := by
    unfold fX8_says_c19
    rw [if_neg n2', X_bad, bs]
  rw [M_in7, bs]
  rcases isI_c y (p := 6) (by decide) with q | ⟨m, hm, rfl⟩
  · have e : ∀ {α : Type} {P Q : α}, (if y < 0 then P else if y ≤ 5 then Q else P) = P := by
      intro α P Q
      rcases isI_f q with z | z
      · rw [if_pos z]
      · by_cases w : y < 0
        · rw [if_pos w]
        · rw [if_neg w, if_neg (show ¬ y ≤ 5 from fun u => (i_le (a := 5) (by decide)).mp u z)]
    rw [e, bad]
    by_cases q2 : isI x 8 = false
    · rw [q2, b1_f, if_pos rfl, M_bad, bs]
      exact ⟨_, _, _, rfl, rfl, RR_rf h0 (by decide)⟩
    · rw [show isI x 8 = true by simpa using q2, b1_t, if_neg b1_ne, M_in5, bs, q, b1_f, if_pos rfl, M_bad, bs]
      exact ⟨_, _, _, rfl, rfl, RR_rf h0 (by decide)⟩
  · rw [if_neg (nI_pos (by omega)), if_pos (show nI m ≤ 5 from nI_le (b := 5) (by omega) (by decide))]
    rcases mv_c hR.2.2.2.2.2.1 x with ⟨q2, e1, e2⟩ | ⟨s, hs, rfl, hh⟩
    · rw [e1, bs, bad, q2, b1_f, if_pos rfl, M_bad, bs]
      exact ⟨_, _, _, rfl, rfl, RR_rf h0 (by decide)⟩
    · rw [isI_y hs (by decide), b1_t, if_neg b1_ne, M_in5, bs, isI_y hm (by decide), b1_t, if_neg b1_ne, gd hs (by decide), nI_clamp (by omega)]
      rcases hh with ⟨e1, _, e2⟩ | ⟨e1, _, e2⟩ | ⟨kd, a, b, m1, m2, e1, _, e2⟩
      · rw [e1, bs, show τ.1 (0 + 1) s = 1 from e2, if_pos rfl, M_oth, bs]
        unfold fX8_says_c19
        rw [if_neg n3', X_oth, bs]
        exact ⟨_, _, _, rfl, rfl, RR_rf h0 (by decide)⟩
      · rw [e1, bs, show τ.1 (0 + 1) s = 0 from e2, if_neg (by decide), gd2 hs (by decide), if_neg (by decide)]
        unfold fX8_says_c19 fX9_says_c71
        rw [if_neg n4', X_not, bs, gd hs (by decide), nI_clamp (by omega), show τ.1 (0 + 1) s = 0 from e2, if_pos rfl, M_not, bs]
        exact ⟨_, _, _, rfl, rfl, RR_rf h0 (by decide)⟩
      · have m2' := m2
        obtain ⟨⟨k1, k5, a6, b6⟩, _, w0, w1, w2⟩ := m2
        have m1' := m1
        obtain ⟨_, u0, u1, u2⟩ := m1
        rw [e1, bs, show τ.1 (0 + 1) s = 2 from e2, if_neg (by decide), gd2 hs (by decide), if_pos rfl, gd2 hs (by decide), show τ.1 (0 + 6) s = nI kd from w0, M_under k1 k5 hm, bs]
        unfold fX8_says_c19 fX9_says_c71
        rw [if_pos rfl, gd hs (by decide), nI_clamp (by omega), X3_kind m1' hm, bs, gd2 hs (by decide)]
        cases und kd m with
        | false =>
          rw [b1_f, if_pos rfl, if_pos rfl, X_oth, bs, M_oth, bs]
          exact ⟨_, _, _, rfl, rfl, RR_rf h0 (by decide)⟩
        | true =>
          rw [b1_t, if_neg b1_ne, if_neg b1_ne, show τ.1 (0 + 1) s = 2 from e2, if_neg (show ¬ (2 : Int32) = 0 by decide), u1, u2, show τ.1 (0 + 7) s = nI a from w1, show τ.1 (0 + 8) s = nI b from w2, gd2 hs (by decide), gd2 hs (by decide)]
          by_cases z0 : nI m = 0
          · rw [if_pos z0, if_pos z0]
            exact ⟨_, _, _, rfl, rfl, h0⟩
          · rw [if_neg z0, if_neg z0]
            by_cases z2 : nI m = 2
            · rw [if_pos z2, if_pos z2]
              exact ⟨_, _, _, rfl, rfl, h0⟩
            · rw [if_neg z2, if_neg z2]
              by_cases z5 : nI m = 5
              · rw [if_pos z5, if_pos z5]
                exact ⟨_, _, _, rfl, rfl, h0⟩
              · rw [if_neg z5, if_neg z5, M_empty hN, bs, M_coming hN m2', bs]
                have e9 : fX2_emptyCubes 1 σ = some (emp n (τ.2 0 12), σ) := by
                  unfold fX2_emptyCubes
                  rw [show σ.2 (1 + 1) 2 = allL n from B.2.2.2.1, h3]
                  rfl
                rw [e9, bs, X8_coming B m1', bs, h3]
                exact ⟨_, _, _, rfl, rfl, h0⟩
