/-! Operations: alike, mirror, turn. -/
theorem op_alike : Op_alike RR := by
  intro σ τ N h
  have h0 := h
  obtain ⟨K, A, n, p, o, t, hR⟩ := h
  obtain ⟨h1, h2, h3, h4, _⟩ := hR.2.1
  have hN : MN τ n := ⟨h1.1, h2⟩
  have B : Blk σ 2 n := h1
  let P : Nat → Bool := fun a => decide (imL n a false (τ.2 0 12) = τ.2 0 12)
  have key := lp_ex (fun f (u : Nat × q_M) => fX9_alike_c4 0 f (nI (wsN P u.1)) (nI u.1) u.2) (fun m u => u.1 = m ∧ ag (fun e _ => e ≠ 19) τ u.2 ∧ u.2.2 = τ.2) 3 (fun u => some (nI (wsN P 3), u.2)) ?_ ?_ q_FU (0, τ) (by decide) ⟨rfl, ag_rf _ _, rfl⟩
  · obtain ⟨⟨_, τ'⟩, ⟨_, a1, a2⟩, a3⟩ := key
    have a1' : ag (fun e _ => e ≠ 19) τ τ' := a1
    refine ⟨nI (wsN P 3), σ, τ', ?_, a3, RR_sc h0 (ag_rf _ _) (ag_sub a1' (fun c j hc => ?_))⟩
    · unfold fX8_alike
      refine lq2 fX8_alike_c4 σ (fun i => nI (wsN P i)) 3 _ (by decide) ?_ ?_
      · intro f i hi
        show fX8_alike_c4b (fX8_alike_c4 f) (nI (wsN P i)) (nI i) σ = fX8_alike_c4 f (nI (wsN P (i + 1))) (nI (i + 1)) σ
        unfold fX8_alike_c4b
        rw [if_neg (show ¬ (3 : Int32) ≤ nI i from nI_ge (a := i) (b := 3) hi (by decide)), h3, X0_mirrored B hi h4, bs, nI_1, h3]
        by_cases q : imL n i false (τ.2 0 12) = τ.2 0 12
        · rw [if_pos q, ql, wsN_t (p := P) (w := i) (by omega) (decide_eq_true q)]
        · rw [if_neg q, wsN_f (p := P) (w := i) (decide_eq_false q)]
      · intro f
        show fX8_alike_c4b (fX8_alike_c4 f) (nI (wsN P 3)) (nI 3) σ = _
        unfold fX8_alike_c4b
        rw [if_pos (show (3 : Int32) ≤ nI 3 by decide)]
    · unfold sM1 at hc
      show c ≠ 19
      omega
  · rintro f m ⟨u, τ1⟩ hm ⟨rfl, g1, g2⟩
    have hu : u < 3 := hm
    have g1' : ag (fun e _ => e ≠ 19) τ τ1 := g1
    have g2' : τ1.2 = τ.2 := g2
    have hN1 : MN τ1 n := ⟨h1.1, by rw [(g1' 0 11 (by show (0 : Nat) ≠ 19; decide)).1]; exact h2⟩
    obtain ⟨τ2, b1', b2, b3⟩ := M_imagesOf hN1 hu false (τ1.2 0 12)
    refine ⟨(u + 1, τ2), ⟨rfl, ag_tr g1 b1', b2.trans g2'⟩, ?_⟩
    show fX9_alike_c4b 0 (fX9_alike_c4 0 f) (nI (wsN P u)) (nI u) τ1 = fX9_alike_c4 0 f (nI (wsN P (u + 1))) (nI (u + 1)) τ2
    unfold fX9_alike_c4b
    rw [if_neg (show ¬ (3 : Int32) ≤ nI u from nI_ge (a := u) (b := 3) hu (by decide)), show fX9_imagesOf 0 (τ1.2 0 12) (nI u) 0 τ1 = _ from b3, bs, b2, g2', orI0, nI_1]
    by_cases q : imL n u false (τ.2 0 12) = τ.2 0 12
    · rw [if_pos q, ql, wsN_t (p := P) (w := u) (by omega) (decide_eq_true q)]
    · rw [if_neg q, wsN_f (p := P) (w := u) (decide_eq_false q)]
  · rintro f ⟨u, τ1⟩ ⟨hu, _⟩
    have hu' : u = 3 := hu
    subst hu'
    show fX9_alike_c4b 0 (fX9_alike_c4 0 f) (nI (wsN P 3)) (nI 3) τ1 = _
    unfold fX9_alike_c4b
    rw [if_pos (show (3 : Int32) ≤ nI 3 by decide)]
/-- the reference's mould mirrored or turned -/
theorem M_becomes {τ : q_M} {n a p : Nat} (h : MN τ n) (ha : a < 3) (tt : Bool) (hp : τ.1 0 13 = nI p) (p8 : p ≤ 8) : ∃ τ', ag (fun c j => ¬ (c = 19 ∨ c = 20 ∨ c = 11 ∨ c = 12 ∨ (c = 0 ∧ j = 12))) τ τ' ∧ τ'.2 0 12 = imL n a tt (τ.2 0 12) ∧ (∀ i, i < p → τ'.2 11 i = imL n a tt (τ.2 11 i)) ∧ (∀ d, d < n * n * n → τ'.1 12 d = τ.1 12 (imv n a tt d)) ∧ fX9_becomes 0 (nI a) (b1 tt) τ = some (1, τ') := by
  have hn := h.1
  have h64 := hn.cube
  obtain ⟨τ0, a1, a2, a3⟩ := M_imagesOf h ha tt (τ.2 0 12)
  let τ1 : q_M := q_L τ0 0 12 (imL n a tt (τ.2 0 12))
  -- the pieces
  have k1 := lp_ex (fun f (u : Nat × q_M) => fX9_becomes_c35 0 (nI a) (b1 tt) f (nI u.1) u.2) (fun m u => u.1 = m ∧ ag (fun e _ => e ≠ 19 ∧ e ≠ 11) τ1 u.2 ∧ (∀ i, i < m → u.2.2 11 i = imL n a tt (τ.2 11 i)) ∧ ∀ i, m ≤ i → u.2.2 11 i = τ.2 11 i) p (fun u => fX9_becomes_c69 0 (nI a) (b1 tt) q_FU 0 u.2) ?_ ?_ q_FU (0, τ1) (by show _ < 400; omega) ⟨rfl, ag_rf _ _, fun i hi => by omega, fun i hi => by
      show (q_L τ0 0 12 (imL n a tt (τ.2 0 12))).2 11 i = _
      rw [L_of (by omega), a2]⟩
  · obtain ⟨⟨_, τ2⟩, ⟨_, c1, c2, _⟩, c4⟩ := k1
    have c1' : ag (fun e _ => e ≠ 19 ∧ e ≠ 11) τ1 τ2 := c1
    have hsh : ∀ d, τ2.1 12 d = τ.1 12 d := fun d => by
      rw [(c1' 12 d ⟨by decide, by decide⟩).1]
      show τ0.1 12 d = _
      exact (a1 12 d (by show (12 : Nat) ≠ 19; decide)).1
    have hN2 : τ2.1 0 11 = nI n := by
      rw [(c1' 0 11 ⟨by decide, by decide⟩).1]
      show τ0.1 0 11 = _
      rw [(a1 0 11 (by show (0 : Nat) ≠ 19; decide)).1]
      exact h.2
    -- what showed
    have k2 := lp_ex (fun f (u : Nat × q_M) => fX9_becomes_c69 0 (nI a) (b1 tt) f (nI u.1) u.2) (fun m u => u.1 = m ∧ ag (fun e _ => e ≠ 20) τ2 u.2 ∧ u.2.2 = τ2.2 ∧ ∀ i, i < m → u.2.1 20 i = τ.1 12 i) (n * n * n) (fun u => fX9_becomes_c97 0 (nI a) (b1 tt) q_FU 0 u.2) ?_ ?_ q_FU (0, τ2) (by show _ < 400; omega) ⟨rfl, ag_rf _ _, rfl, fun i hi => by omega⟩
    · obtain ⟨⟨_, τ3⟩, ⟨_, d1, d2, d3⟩, d4⟩ := k2
      have d1' : ag (fun e _ => e ≠ 20) τ2 τ3 := d1
      have d3' : ∀ i, i < n * n * n → τ3.1 20 i = τ.1 12 i := d3
      -- what shows
      have k3 := lp_ex (fun f (u : Nat × q_M) => fX9_becomes_c97 0 (nI a) (b1 tt) f (nI u.1) u.2) (fun m u => u.1 = m ∧ ag (fun e _ => e ≠ 19 ∧ e ≠ 12) τ3 u.2 ∧ u.2.2 = τ3.2 ∧ ∀ c, c < m → u.2.1 12 (img n a tt c) = τ.1 12 c) (n * n * n) (fun u => some (1, u.2)) ?_ ?_ q_FU (0, τ3) (by show _ < 400; omega) ⟨rfl, ag_rf _ _, rfl, fun i hi => by omega⟩
      · obtain ⟨⟨_, τ4⟩, ⟨_, e1, e2, e3⟩, e4⟩ := k3
        have e1' : ag (fun e _ => e ≠ 19 ∧ e ≠ 12) τ3 τ4 := e1
        have e2' : τ4.2 = τ3.2 := e2
        have e3' : ∀ c, c < n * n * n → τ4.1 12 (img n a tt c) = τ.1 12 c := e3
        have d2' : τ3.2 = τ2.2 := d2
        have c2' : ∀ i, i < p → τ2.2 11 i = imL n a tt (τ.2 11 i) := c2
        refine ⟨τ4, ?_, ?_, ?_, ?_, ?_⟩
        · refine ag_tr (ag_sub a1 (fun c j hc => ?_)) (ag_tr (ag_L (fun z => z (by omega))) (ag_tr (ag_sub c1' (fun c j hc => ?_)) (ag_tr (ag_sub d1' (fun c j hc => ?_)) (ag_sub e1' (fun c j hc => ?_)))))
          · have hc' : ¬ (c = 19 ∨ c = 20 ∨ c = 11 ∨ c = 12 ∨ (c = 0 ∧ j = 12)) := hc
            show c ≠ 19
            omega
          · have hc' : ¬ (c = 19 ∨ c = 20 ∨ c = 11 ∨ c = 12 ∨ (c = 0 ∧ j = 12)) := hc
            show c ≠ 19 ∧ c ≠ 11
            omega
          · have hc' : ¬ (c = 19 ∨ c = 20 ∨ c = 11 ∨ c = 12 ∨ (c = 0 ∧ j = 12)) := hc
            show c ≠ 20
            omega
          · have hc' : ¬ (c = 19 ∨ c = 20 ∨ c = 11 ∨ c = 12 ∨ (c = 0 ∧ j = 12)) := hc
            show c ≠ 19 ∧ c ≠ 12
            omega
        · rw [e2', d2', (c1' 0 12 ⟨by decide, by decide⟩).2]
          exact L_at
        · intro i hi
          rw [e2', d2']
          exact c2' i hi
        · intro d hd
          have t := imT_t hn ha tt hd
          have := e3' (imv n a tt d) t.2.1
          rw [t.2.2.2] at this
          exact this
        · unfold fX9_becomes
          rw [M_in2, bs, isI_y ha (by decide), b1_t, if_neg b1_ne, a3, bs, ql]
          have c4' : fX9_becomes_c35 0 (nI a) (b1 tt) q_FU 0 τ1 = _ := c4
          have d4' : fX9_becomes_c69 0 (nI a) (b1 tt) q_FU 0 τ2 = _ := d4
          show fX9_becomes_c35 0 (nI a) (b1 tt) q_FU 0 τ1 = _
          rw [c4']
          show fX9_becomes_c69 0 (nI a) (b1 tt) q_FU 0 τ2 = _
          rw [d4']
          exact e4
      · rintro f m ⟨u, τ5⟩ hm ⟨rfl, g1, g2, g3⟩
        have hu : u < n * n * n := hm
        have g1' : ag (fun e _ => e ≠ 19 ∧ e ≠ 12) τ3 τ5 := g1
        have g3' : ∀ c, c < u → τ5.1 12 (img n a tt c) = τ.1 12 c := g3
        have hN5 : MN τ5 n := ⟨hn, by rw [(g1' 0 11 ⟨by decide, by decide⟩).1, (d1' 0 11 (by show (0 : Nat) ≠ 20; decide)).1]; exact hN2⟩
        obtain ⟨τ6, i1, i2, i3⟩ := M_imageOf hN5 ha tt hu
        have t := imT_t hn ha tt hu
        have e20 : τ6.1 20 u = τ.1 12 u := by
          rw [(i1 20 u (by show (20 : Nat) ≠ 19; decide)).1, (g1' 20 u ⟨by decide, by decide⟩).1]
          exact d3' u hu
        refine ⟨(u + 1, q_I τ6 12 (img n a tt u) (τ.1 12 u)), ⟨rfl, ag_tr g1 (ag_tr (ag_sub i1 (fun c j hc => hc.1)) (ag_I (fun w => w.2 rfl))), i2.trans g2, fun c hc => ?_⟩, ?_⟩
        · show (q_I τ6 12 (img n a tt u) (τ.1 12 u)).1 12 (img n a tt c) = _
          by_cases q : c = u
          · subst q; exact I_at
          · rw [I_of (fun w => q (by
              have hc2 : c < u + 1 := hc
              have tc := imT_t hn ha tt (show c < n * n * n by omega)
              rw [← tc.2.2.1, w.2, t.2.2.1])), (i1 12 _ (by show (12 : Nat) ≠ 19; decide)).1]
            have hc2 : c < u + 1 := hc
            exact g3' c (by omega)
        · show fX9_becomes_c97b 0 (nI a) (b1 tt) (fX9_becomes_c97 0 (nI a) (b1 tt) f) (nI u) τ5 = _
          unfold fX9_becomes_c97b
          rw [M_many hN5, bs, if_neg (nI_ge hu (by omega)), i3, bs, gd (show u < 64 by omega) (by decide), gd (show img n a tt u < 64 by omega) (by decide), ql, nI_clamp (show u < 2 ^ 31 by omega), nI_clamp (show img n a tt u < 2 ^ 31 by omega), show τ6.1 (0 + 20) u = τ.1 12 u from e20, nI_1]
      · rintro f ⟨u, τ5⟩ ⟨hu, g1, g2, g3⟩
        have hu' : u = n * n * n := hu
        have g1' : ag (fun e _ => e ≠ 19 ∧ e ≠ 12) τ3 τ5 := g1
        have hN5 : MN τ5 n := ⟨hn, by rw [(g1' 0 11 ⟨by decide, by decide⟩).1, (d1' 0 11 (by show (0 : Nat) ≠ 20; decide)).1]; exact hN2⟩
        show fX9_becomes_c97b 0 (nI a) (b1 tt) (fX9_becomes_c97 0 (nI a) (b1 tt) f) (nI u) τ5 = _
        unfold fX9_becomes_c97b
        rw [M_many hN5, bs, hu', if_pos (nI_le (Nat.le_refl _) (by omega))]
    · rintro f m ⟨u, τ5⟩ hm ⟨rfl, g1, g2, g3⟩
      have hu : u < n * n * n := hm
      have g1' : ag (fun e _ => e ≠ 20) τ2 τ5 := g1
      have hN5 : MN τ5 n := ⟨hn, by rw [(g1' 0 11 (by show (0 : Nat) ≠ 20; decide)).1]; exact hN2⟩
      have e12 : τ5.1 12 u = τ.1 12 u := by
        rw [(g1' 12 u (by show (12 : Nat) ≠ 20; decide)).1]
        exact hsh u
      refine ⟨(u + 1, q_I τ5 20 u (τ.1 12 u)), ⟨rfl, ag_tr g1 (ag_I (fun w => w rfl)), g2, fun i hi => ?_⟩, ?_⟩
      · show (q_I τ5 20 u (τ.1 12 u)).1 20 i = _
        by_cases q : i = u
        · subst q; exact I_at
        · rw [I_of (fun w => q w.2)]; exact g3 i (by omega)
      · show fX9_becomes_c69b 0 (nI a) (b1 tt) (fX9_becomes_c69 0 (nI a) (b1 tt) f) (nI u) τ5 = _
        unfold fX9_becomes_c69b
        rw [M_many hN5, bs, if_neg (nI_ge hu (by omega)), gd (show u < 64 by omega) (by decide), gd (show u < 64 by omega) (by decide), ql, nI_clamp (by omega), show τ5.1 (0 + 12) u = τ.1 12 u from e12, nI_1]
    · rintro f ⟨u, τ5⟩ ⟨hu, g1, g2, g3⟩
      have hu' : u = n * n * n := hu
      have g1' : ag (fun e _ => e ≠ 20) τ2 τ5 := g1
      have hN5 : MN τ5 n := ⟨hn, by rw [(g1' 0 11 (by show (0 : Nat) ≠ 20; decide)).1]; exact hN2⟩
      show fX9_becomes_c69b 0 (nI a) (b1 tt) (fX9_becomes_c69 0 (nI a) (b1 tt) f) (nI u) τ5 = _
      unfold fX9_becomes_c69b
      rw [M_many hN5, bs, hu', if_pos (nI_le (Nat.le_refl _) (by omega))]
  · rintro f m ⟨u, τ5⟩ hm ⟨rfl, g1, g2, g3⟩
    have hu : u < p := hm
    have g1' : ag (fun e _ => e ≠ 19 ∧ e ≠ 11) τ1 τ5 := g1
    have g2' : ∀ i, i < u → τ5.2 11 i = imL n a tt (τ.2 11 i) := g2
    have g3' : ∀ i, u ≤ i → τ5.2 11 i = τ.2 11 i := g3
    have hN5 : MN τ5 n := ⟨hn, by
      rw [(g1' 0 11 ⟨by decide, by decide⟩).1]
      show τ0.1 0 11 = _
      rw [(a1 0 11 (by show (0 : Nat) ≠ 19; decide)).1]
      exact h.2⟩
    have e13 : τ5.1 0 13 = nI p := by
      rw [(g1' 0 13 ⟨by decide, by decide⟩).1]
      show τ0.1 0 13 = _
      rw [(a1 0 13 (by show (0 : Nat) ≠ 19; decide)).1]
      exact hp
    obtain ⟨τ6, i1, i2, i3⟩ := M_imagesOf hN5 ha tt (τ5.2 11 u)
    refine ⟨(u + 1, q_L τ6 11 u (imL n a tt (τ.2 11 u))), ⟨rfl, ag_tr g1 (ag_tr (ag_sub i1 (fun c j hc => hc.1)) (ag_L (fun w => w.2 rfl))), fun i hi => ?_, fun i hi => ?_⟩, ?_⟩
    · show (q_L τ6 11 u (imL n a tt (τ.2 11 u))).2 11 i = _
      have hi2 : i < u + 1 := hi
      by_cases q : i = u
      · subst q; exact L_at
      · rw [L_of (fun w => q w.2), i2]; exact g2' i (by omega)
    · show (q_L τ6 11 u (imL n a tt (τ.2 11 u))).2 11 i = _
      have hi2 : u + 1 ≤ i := hi
      rw [L_of (by omega), i2]; exact g3' i (by omega)
    · show fX9_becomes_c35b 0 (nI a) (b1 tt) (fX9_becomes_c35 0 (nI a) (b1 tt) f) (nI u) τ5 = _
      unfold fX9_becomes_c35b
      rw [e13, if_neg (nI_ge hu (by omega)), gd (show u < 8 by omega) (by decide), nI_clamp (show u < 2 ^ 31 by omega), show τ5.2 (0 + 11) u = τ5.2 11 u from rfl, i3, bs, gd2 (show u < 8 by omega) (by decide), ql, nI_1, g3' u (Nat.le_refl _)]
  · rintro f ⟨u, τ5⟩ ⟨hu, g1, g2, g3⟩
    have hu' : u = p := hu
    have g1' : ag (fun e _ => e ≠ 19 ∧ e ≠ 11) τ1 τ5 := g1
    have e13 : τ5.1 0 13 = nI p := by
      rw [(g1' 0 13 ⟨by decide, by decide⟩).1]
      show τ0.1 0 13 = _
      rw [(a1 0 13 (by show (0 : Nat) ≠ 19; decide)).1]
      exact hp
    show fX9_becomes_c35b 0 (nI a) (b1 tt) (fX9_becomes_c35 0 (nI a) (b1 tt) f) (nI u) τ5 = _
    unfold fX9_becomes_c35b
    rw [e13, hu', if_pos (nI_le (Nat.le_refl _) (by omega))]
theorem RM_im {σ σ' τ τ' : q_M} {n p o a : Nat} {tt : Bool} (h : RM σ 1 τ 0 n p o) (ha : a < 3) (a1 : ag (fun c j => ¬ (c = 6 ∨ c = 7 ∨ (c = 1 ∧ j = 1))) σ σ') (a2 : σ'.2 1 1 = imL n a tt (σ.2 1 1)) (a3 : ∀ i, i < p → σ'.2 6 i = imL n a tt (σ.2 6 i)) (a4 : ∀ i, i < 4 → σ'.2 7 i = imL n a tt (σ.2 7 i)) (b1' : ag (fun c j => ¬ (c = 19 ∨ c = 20 ∨ c = 11 ∨ c = 12 ∨ (c = 0 ∧ j = 12))) τ τ') (b2 : τ'.2 0 12 = imL n a tt (τ.2 0 12)) (b3 : ∀ i, i < p → τ'.2 11 i = imL n a tt (τ.2 11 i)) (b4 : ∀ d, d < n * n * n → τ'.1 12 d = τ.1 12 (imv n a tt d)) : RM σ' 1 τ' 0 n p o := by
  obtain ⟨h1, h2, h3, h4, h5, h6, h7, h8, h9, h10, h11, ⟨u, u1, u2, u3, u4⟩, ⟨w, w1, w2, w3, w4⟩, h14, h15⟩ := h
  have X : ∀ c j, ¬ (c = 6 ∨ c = 7 ∨ (c = 1 ∧ j = 1)) → σ'.1 c j = σ.1 c j ∧ σ'.2 c j = σ.2 c j := fun c j hc => a1 c j hc
  have M : ∀ c j, ¬ (c = 19 ∨ c = 20 ∨ c = 11 ∨ c = 12 ∨ (c = 0 ∧ j = 12)) → τ'.1 c j = τ.1 c j ∧ τ'.2 c j = τ.2 c j := fun c j hc => b1' c j hc
  refine ⟨Blk_fr h1 (fun c j hc => X c j (by
      have hc' : 1 + 1 ≤ c ∧ c ≤ 1 + 1 + 3 := hc
      omega)), ?_, ?_, ?_, h5, ?_, ?_, h8, ?_, ?_, ?_, ⟨u, u1, u2, ?_, ?_⟩, ⟨w, w1, w2, ?_, ?_⟩, ?_, ?_⟩
  · rw [(M 0 11 (by omega)).1]; exact h2
  · rw [a2, b2, h3]
  · rw [b2]; exact inB_imL
  · rw [(X 1 2 (by omega)).1]; exact h6
  · rw [(M 0 13 (by omega)).1]; exact h7
  · rw [(X 1 3 (by omega)).1]; exact h9
  · rw [(M 0 15 (by omega)).1]; exact h10
  · intro i hi
    show σ'.2 6 i = τ'.2 11 i ∧ inB n (τ'.2 11 i)
    rw [a3 i hi, b3 i hi, show σ.2 6 i = τ.2 11 i from (h11 i hi).1]
    exact ⟨rfl, inB_imL⟩
  · rw [(X 1 4 (by omega)).1]; exact u3
  · rw [(M 0 17 (by omega)).1]; exact u4
  · rw [(X 1 5 (by omega)).1]; exact w3
  · rw [(M 0 18 (by omega)).1]; exact w4
  · intro i hi
    show inB n (σ'.2 7 i)
    rw [a4 i hi]
    exact inB_imL
  · intro d hd
    have t := imT_t h1.1 ha tt hd
    obtain ⟨v, v1, v2, v3⟩ := h15 (imv n a tt d) t.2.1
    refine ⟨v, v1, ?_, fun i hi => ?_⟩
    · show τ'.1 12 d = _
      rw [b4 d hd]; exact v2
    · show tb (σ'.2 7 i) d = _
      rw [a4 i hi, tb_imL h1.1, decide_eq_true hd, Bool.true_and]
      exact v3 i hi
theorem X2_mirrorAll {σ : q_M} {n a p : Nat} (B : Blk σ 2 n) (ha : a < 3) (hp : σ.1 1 2 = nI p) (p8 : p ≤ 8) (hf : inB n (σ.2 1 1)) (hs : ∀ i, i < p → inB n (σ.2 6 i)) (hw : ∀ i, i < 4 → inB n (σ.2 7 i)) : ∃ σ', ag (fun c j => ¬ (c = 6 ∨ c = 7 ∨ (c = 1 ∧ j = 1))) σ σ' ∧ σ'.2 1 1 = imL n a false (σ.2 1 1) ∧ (∀ i, i < p → σ'.2 6 i = imL n a false (σ.2 6 i)) ∧ (∀ i, i < 4 → σ'.2 7 i = imL n a false (σ.2 7 i)) ∧ fX2_mirrorAll 1 (nI a) σ = some σ' := by
  let σ1 : q_M := q_L σ 1 1 (imL n a false (σ.2 1 1))
  have bk : ∀ σ2 : q_M, ag (fun c j => ¬ (c = 6 ∨ c = 7)) σ1 σ2 → Blk σ2 2 n := fun σ2 hh => Blk_fr (Blk_fr B (ag_L (fun z => by
      have z' : 2 ≤ 1 ∧ 1 ≤ 2 + 3 := z
      omega))) (fun c j hc => hh c j (by
      have hc' : 2 ≤ c ∧ c ≤ 2 + 3 := hc
      show ¬ (c = 6 ∨ c = 7)
      omega))
  have k1 := lp_ex (fun f (u : Nat × q_M) => fX2_mirrorAll_c18 1 (nI a) f (nI u.1) u.2) (fun m u => u.1 = m ∧ ag (fun c _ => c ≠ 6) σ1 u.2 ∧ u.2.1 = σ1.1 ∧ (∀ i, i < m → u.2.2 6 i = imL n a false (σ.2 6 i)) ∧ ∀ i, m ≤ i → u.2.2 6 i = σ.2 6 i) p (fun u => fX2_mirrorAll_c54 1 (nI a) q_FU 0 u.2) ?_ ?_ q_FU (0, σ1) (by show _ < 400; omega) ⟨rfl, ag_rf _ _, rfl, fun i hi => by omega, fun i hi => by
      show (q_L σ 1 1 (imL n a false (σ.2 1 1))).2 6 i = _
      rw [L_of (by omega)]⟩
  · obtain ⟨⟨_, σ2⟩, ⟨_, c1, c2, c3, _⟩, c5⟩ := k1
    have c1' : ag (fun c _ => c ≠ 6) σ1 σ2 := c1
    have c3' : ∀ i, i < p → σ2.2 6 i = imL n a false (σ.2 6 i) := c3
    have k2 := lp_ex (fun f (u : Nat × q_M) => fX2_mirrorAll_c54 1 (nI a) f (nI u.1) u.2) (fun m u => u.1 = m ∧ ag (fun c _ => c ≠ 7) σ2 u.2 ∧ u.2.1 = σ2.1 ∧ (∀ i, i < m → u.2.2 7 i = imL n a false (σ.2 7 i)) ∧ ∀ i, m ≤ i → u.2.2 7 i = σ.2 7 i) 4 (fun u => some u.2) ?_ ?_ q_FU (0, σ2) (by decide) ⟨rfl, ag_rf _ _, rfl, fun i hi => by omega, fun i hi => by
        rw [(c1' 7 i (by show (7 : Nat) ≠ 6; decide)).2]
        show (q_L σ 1 1 (imL n a false (σ.2 1 1))).2 7 i = _
        rw [L_of (by omega)]⟩
    · obtain ⟨⟨_, σ3⟩, ⟨_, d1, d2, d3, _⟩, d5⟩ := k2
      have d1' : ag (fun c _ => c ≠ 7) σ2 σ3 := d1
      have d3' : ∀ i, i < 4 → σ3.2 7 i = imL n a false (σ.2 7 i) := d3
      refine ⟨σ3, ag_tr (ag_L (fun z => z (by omega))) (ag_tr (ag_sub c1' (fun c j hc => fun w => hc (Or.inl w))) (ag_sub d1' (fun c j hc => fun w => hc (Or.inr (Or.inl w))))), ?_, fun i hi => ?_, d3', ?_⟩
      · rw [(d1' 1 1 (by show (1 : Nat) ≠ 7; decide)).2, (c1' 1 1 (by show (1 : Nat) ≠ 6; decide)).2]
        exact L_at
      · rw [(d1' 6 i (by show (6 : Nat) ≠ 7; decide)).2]
        exact c3' i hi
      · unfold fX2_mirrorAll
        rw [show fX0_mirrored (1 + 1) (σ.2 1 1) (nI a) σ = _ from X0_mirrored B ha hf, bs, ql]
        have c5' : fX2_mirrorAll_c18 1 (nI a) q_FU 0 σ1 = _ := c5
        show fX2_mirrorAll_c18 1 (nI a) q_FU 0 σ1 = _
        rw [c5']
        exact d5
    · rintro f m ⟨u, σ5⟩ hm ⟨rfl, g1, g2, g3, g4⟩
      have hu : u < 4 := hm
      have g1' : ag (fun c _ => c ≠ 7) σ2 σ5 := g1
      have g3' : ∀ i, i < u → σ5.2 7 i = imL n a false (σ.2 7 i) := g3
      have g4' : ∀ i, u ≤ i → σ5.2 7 i = σ.2 7 i := g4
      have B5 : Blk σ5 2 n := bk σ5 (ag_tr (ag_sub c1' (fun c j hc => fun w => hc (Or.inl w))) (ag_sub g1' (fun c j hc => fun w => hc (Or.inr w))))
      refine ⟨(u + 1, q_L σ5 7 u (imL n a false (σ.2 7 u))), ⟨rfl, ag_tr g1 (ag_L (fun w => w rfl)), g2, fun i hi => ?_, fun i hi => ?_⟩, ?_⟩
      · show (q_L σ5 7 u (imL n a false (σ.2 7 u))).2 7 i = _
        have hi2 : i < u + 1 := hi
        by_cases q : i = u
        · subst q; exact L_at
        · rw [L_of (fun w => q w.2)]; exact g3' i (by omega)
      · show (q_L σ5 7 u (imL n a false (σ.2 7 u))).2 7 i = _
        have hi2 : u + 1 ≤ i := hi
        rw [L_of (by omega)]; exact g4' i (by omega)
      · show fX2_mirrorAll_c54b 1 (nI a) (fX2_mirrorAll_c54 1 (nI a) f) (nI u) σ5 = _
        unfold fX2_mirrorAll_c54b
        rw [if_neg (show ¬ (4 : Int32) ≤ nI u from nI_ge (a := u) (b := 4) hu (by decide)), gd hu (by decide), nI_clamp (show u < 2 ^ 31 by omega), show σ5.2 (1 + 6) u = σ.2 7 u from g4' u (Nat.le_refl _), show fX0_mirrored (1 + 1) (σ.2 7 u) (nI a) σ5 = _ from X0_mirrored B5 ha (hw u hu), bs, gd2 hu (by decide), ql, nI_1]
    · rintro f ⟨u, σ5⟩ ⟨hu, _⟩
      have hu' : u = 4 := hu
      subst hu'
      show fX2_mirrorAll_c54b 1 (nI a) (fX2_mirrorAll_c54 1 (nI a) f) (nI 4) σ5 = _
      unfold fX2_mirrorAll_c54b
      rw [if_pos (show (4 : Int32) ≤ nI 4 by decide)]
  · rintro f m ⟨u, σ5⟩ hm ⟨rfl, g1, g2, g3, g4⟩
    have hu : u < p := hm
    have g1' : ag (fun c _ => c ≠ 6) σ1 σ5 := g1
    have g2' : σ5.1 = σ1.1 := g2
    have g3' : ∀ i, i < u → σ5.2 6 i = imL n a false (σ.2 6 i) := g3
    have g4' : ∀ i, u ≤ i → σ5.2 6 i = σ.2 6 i := g4
    have B5 : Blk σ5 2 n := bk σ5 (ag_sub g1' (fun c j hc => fun w => hc (Or.inl w)))
    have e2 : σ5.1 1 2 = nI p := by rw [g2']; exact hp
    refine ⟨(u + 1, q_L σ5 6 u (imL n a false (σ.2 6 u))), ⟨rfl, ag_tr g1 (ag_L (fun w => w rfl)), g2, fun i hi => ?_, fun i hi => ?_⟩, ?_⟩
    · show (q_L σ5 6 u (imL n a false (σ.2 6 u))).2 6 i = _
      have hi2 : i < u + 1 := hi
      by_cases q : i = u
      · subst q; exact L_at
      · rw [L_of (fun w => q w.2)]; exact g3' i (by omega)
    · show (q_L σ5 6 u (imL n a false (σ.2 6 u))).2 6 i = _
      have hi2 : u + 1 ≤ i := hi
      rw [L_of (by omega)]; exact g4' i (by omega)
    · show fX2_mirrorAll_c18b 1 (nI a) (fX2_mirrorAll_c18 1 (nI a) f) (nI u) σ5 = _
      unfold fX2_mirrorAll_c18b
      rw [e2, if_neg (nI_ge hu (by omega)), gd (show u < 8 by omega) (by decide), nI_clamp (show u < 2 ^ 31 by omega), show σ5.2 (1 + 5) u = σ.2 6 u from g4' u (Nat.le_refl _), show fX0_mirrored (1 + 1) (σ.2 6 u) (nI a) σ5 = _ from X0_mirrored B5 ha (hs u hu), bs, gd2 (show u < 8 by omega) (by decide), ql, nI_1]
  · rintro f ⟨u, σ5⟩ ⟨hu, g1, g2, _⟩
    have hu' : u = p := hu
    have g2' : σ5.1 = σ1.1 := g2
    have e2 : σ5.1 1 2 = nI p := by rw [g2']; exact hp
    show fX2_mirrorAll_c18b 1 (nI a) (fX2_mirrorAll_c18 1 (nI a) f) (nI u) σ5 = _
    unfold fX2_mirrorAll_c18b
    rw [e2, hu', if_pos (nI_le (Nat.le_refl _) (by omega))]
theorem op_mirror : Op_mirror RR := by
  intro σ τ N x h
  have h0 := h
  obtain ⟨K, A, n, p, o, t, hR⟩ := h
  obtain ⟨h1, h2, h3, h4, h5, h6, h7, h8, h9, h10, h11, h12, h13, h14, h15⟩ := hR.2.1
  have hN : MN τ n := ⟨h1.1, h2⟩
  have B : Blk σ 2 n := h1
  unfold fX8_mirror fX9_mirror
  rw [X8_isAxis, bs]
  rcases isI_c x (p := 3) (by decide) with q | ⟨a, ha, rfl⟩
  · unfold fX9_becomes
    rw [M_in2, bs, q, b1_f, if_pos rfl, if_pos rfl, X_bad, bs, M_bad, bs, bs]
    exact ⟨_, _, _, rfl, rfl, RR_rf h0 (by decide)⟩
  · obtain ⟨σ', a1, a2, a3, a4, a5⟩ := X2_mirrorAll B ha h6 h5 (by rw [h3]; exact h4) (fun i hi => by rw [show σ.2 6 i = τ.2 11 i from (h11 i hi).1]; exact (h11 i hi).2) h14
    obtain ⟨τ', c1, c2, c3, c4, c5⟩ := M_becomes hN ha false h7 h5
    rw [isI_y ha (by decide), b1_t, if_neg b1_ne, a5, bs, show fX9_becomes 0 (nI a) 0 τ = _ from c5, bs]
    refine ⟨_, _, _, rfl, rfl, K, A, n, p, o, t, Rel_mo hR (ag_sub a1 (fun c j hc => ?_)) (ag_sub c1 (fun c j hc => ?_)) (RM_im hR.2.1 ha a1 a2 a3 a4 c1 c2 c3 c4)⟩
    · have hc' := hc.2
      show ¬ (c = 6 ∨ c = 7 ∨ (c = 1 ∧ j = 1))
      omega
    · have hc1 : sM1 c j := hc.1
      have hc' := hc.2
      unfold sM1 at hc1
      show ¬ (c = 19 ∨ c = 20 ∨ c = 11 ∨ c = 12 ∨ (c = 0 ∧ j = 12))
      omega
theorem X2_turnAll {σ : q_M} {n a p : Nat} (B : Blk σ 2 n) (ha : a < 3) (hp : σ.1 1 2 = nI p) (p8 : p ≤ 8) (hf : inB n (σ.2 1 1)) (hs : ∀ i, i < p → inB n (σ.2 6 i)) (hw : ∀ i, i < 4 → inB n (σ.2 7 i)) : ∃ σ', ag (fun c j => ¬ (c = 6 ∨ c = 7 ∨ (c = 1 ∧ j = 1))) σ σ' ∧ σ'.2 1 1 = imL n a true (σ.2 1 1) ∧ (∀ i, i < p → σ'.2 6 i = imL n a true (σ.2 6 i)) ∧ (∀ i, i < 4 → σ'.2 7 i = imL n a true (σ.2 7 i)) ∧ fX2_turnAll 1 (nI a) σ = some σ' := by
  let σ1 : q_M := q_L σ 1 1 (imL n a true (σ.2 1 1))
  have bk : ∀ σ2 : q_M, ag (fun c j => ¬ (c = 6 ∨ c = 7)) σ1 σ2 → Blk σ2 2 n := fun σ2 hh => Blk_fr (Blk_fr B (ag_L (fun z => by
      have z' : 2 ≤ 1 ∧ 1 ≤ 2 + 3 := z
      omega))) (fun c j hc => hh c j (by
      have hc' : 2 ≤ c ∧ c ≤ 2 + 3 := hc
      show ¬ (c = 6 ∨ c = 7)
      omega))
  have k1 := lp_ex (fun f (u : Nat × q_M) => fX2_turnAll_c18 1 (nI a) f (nI u.1) u.2) (fun m u => u.1 = m ∧ ag (fun c _ => c ≠ 6) σ1 u.2 ∧ u.2.1 = σ1.1 ∧ (∀ i, i < m → u.2.2 6 i = imL n a true (σ.2 6 i)) ∧ ∀ i, m ≤ i → u.2.2 6 i = σ.2 6 i) p (fun u => fX2_turnAll_c54 1 (nI a) q_FU 0 u.2) ?_ ?_ q_FU (0, σ1) (by show _ < 400; omega) ⟨rfl, ag_rf _ _, rfl, fun i hi => by omega, fun i hi => by
      show (q_L σ 1 1 (imL n a true (σ.2 1 1))).2 6 i = _
      rw [L_of (by omega)]⟩
  · obtain ⟨⟨_, σ2⟩, ⟨_, c1, c2, c3, _⟩, c5⟩ := k1
    have c1' : ag (fun c _ => c ≠ 6) σ1 σ2 := c1
    have c3' : ∀ i, i < p → σ2.2 6 i = imL n a true (σ.2 6 i) := c3
    have k2 := lp_ex (fun f (u : Nat × q_M) => fX2_turnAll_c54 1 (nI a) f (nI u.1) u.2) (fun m u => u.1 = m ∧ ag (fun c _ => c ≠ 7) σ2 u.2 ∧ u.2.1 = σ2.1 ∧ (∀ i, i < m → u.2.2 7 i = imL n a true (σ.2 7 i)) ∧ ∀ i, m ≤ i → u.2.2 7 i = σ.2 7 i) 4 (fun u => some u.2) ?_ ?_ q_FU (0, σ2) (by decide) ⟨rfl, ag_rf _ _, rfl, fun i hi => by omega, fun i hi => by
        rw [(c1' 7 i (by show (7 : Nat) ≠ 6; decide)).2]
        show (q_L σ 1 1 (imL n a true (σ.2 1 1))).2 7 i = _
        rw [L_of (by omega)]⟩
    · obtain ⟨⟨_, σ3⟩, ⟨_, d1, d2, d3, _⟩, d5⟩ := k2
      have d1' : ag (fun c _ => c ≠ 7) σ2 σ3 := d1
      have d3' : ∀ i, i < 4 → σ3.2 7 i = imL n a true (σ.2 7 i) := d3
      refine ⟨σ3, ag_tr (ag_L (fun z => z (by omega))) (ag_tr (ag_sub c1' (fun c j hc => fun w => hc (Or.inl w))) (ag_sub d1' (fun c j hc => fun w => hc (Or.inr (Or.inl w))))), ?_, fun i hi => ?_, d3', ?_⟩
      · rw [(d1' 1 1 (by show (1 : Nat) ≠ 7; decide)).2, (c1' 1 1 (by show (1 : Nat) ≠ 6; decide)).2]
        exact L_at
      · rw [(d1' 6 i (by show (6 : Nat) ≠ 7; decide)).2]
        exact c3' i hi
      · unfold fX2_turnAll
        rw [show fX0_turned (1 + 1) (σ.2 1 1) (nI a) σ = _ from X0_turned B ha hf, bs, ql]
        have c5' : fX2_turnAll_c18 1 (nI a) q_FU 0 σ1 = _ := c5
        show fX2_turnAll_c18 1 (nI a) q_FU 0 σ1 = _
        rw [c5']
        exact d5
    · rintro f m ⟨u, σ5⟩ hm ⟨rfl, g1, g2, g3, g4⟩
      have hu : u < 4 := hm
      have g1' : ag (fun c _ => c ≠ 7) σ2 σ5 := g1
      have g3' : ∀ i, i < u → σ5.2 7 i = imL n a true (σ.2 7 i) := g3
      have g4' : ∀ i, u ≤ i → σ5.2 7 i = σ.2 7 i := g4
      have B5 : Blk σ5 2 n := bk σ5 (ag_tr (ag_sub c1' (fun c j hc => fun w => hc (Or.inl w))) (ag_sub g1' (fun c j hc => fun w => hc (Or.inr w))))
      refine ⟨(u + 1, q_L σ5 7 u (imL n a true (σ.2 7 u))), ⟨rfl, ag_tr g1 (ag_L (fun w => w rfl)), g2, fun i hi => ?_, fun i hi => ?_⟩, ?_⟩
      · show (q_L σ5 7 u (imL n a true (σ.2 7 u))).2 7 i = _
        have hi2 : i < u + 1 := hi
        by_cases q : i = u
        · subst q; exact L_at
        · rw [L_of (fun w => q w.2)]; exact g3' i (by omega)
      · show (q_L σ5 7 u (imL n a true (σ.2 7 u))).2 7 i = _
        have hi2 : u + 1 ≤ i := hi
        rw [L_of (by omega)]; exact g4' i (by omega)
      · show fX2_turnAll_c54b 1 (nI a) (fX2_turnAll_c54 1 (nI a) f) (nI u) σ5 = _
        unfold fX2_turnAll_c54b
        rw [if_neg (show ¬ (4 : Int32) ≤ nI u from nI_ge (a := u) (b := 4) hu (by decide)), gd hu (by decide), nI_clamp (show u < 2 ^ 31 by omega), show σ5.2 (1 + 6) u = σ.2 7 u from g4' u (Nat.le_refl _), show fX0_turned (1 + 1) (σ.2 7 u) (nI a) σ5 = _ from X0_turned B5 ha (hw u hu), bs, gd2 hu (by decide), ql, nI_1]
    · rintro f ⟨u, σ5⟩ ⟨hu, _⟩
      have hu' : u = 4 := hu
      subst hu'
      show fX2_turnAll_c54b 1 (nI a) (fX2_turnAll_c54 1 (nI a) f) (nI 4) σ5 = _
      unfold fX2_turnAll_c54b
      rw [if_pos (show (4 : Int32) ≤ nI 4 by decide)]
  · rintro f m ⟨u, σ5⟩ hm ⟨rfl, g1, g2, g3, g4⟩
    have hu : u < p := hm
    have g1' : ag (fun c _ => c ≠ 6) σ1 σ5 := g1
    have g2' : σ5.1 = σ1.1 := g2
    have g3' : ∀ i, i < u → σ5.2 6 i = imL n a true (σ.2 6 i) := g3
    have g4' : ∀ i, u ≤ i → σ5.2 6 i = σ.2 6 i := g4
    have B5 : Blk σ5 2 n := bk σ5 (ag_sub g1' (fun c j hc => fun w => hc (Or.inl w)))
    have e2 : σ5.1 1 2 = nI p := by rw [g2']; exact hp
    refine ⟨(u + 1, q_L σ5 6 u (imL n a true (σ.2 6 u))), ⟨rfl, ag_tr g1 (ag_L (fun w => w rfl)), g2, fun i hi => ?_, fun i hi => ?_⟩, ?_⟩
    · show (q_L σ5 6 u (imL n a true (σ.2 6 u))).2 6 i = _
      have hi2 : i < u + 1 := hi
      by_cases q : i = u
      · subst q; exact L_at
      · rw [L_of (fun w => q w.2)]; exact g3' i (by omega)
    · show (q_L σ5 6 u (imL n a true (σ.2 6 u))).2 6 i = _
      have hi2 : u + 1 ≤ i := hi
      rw [L_of (by omega)]; exact g4' i (by omega)
    · show fX2_turnAll_c18b 1 (nI a) (fX2_turnAll_c18 1 (nI a) f) (nI u) σ5 = _
      unfold fX2_turnAll_c18b
      rw [e2, if_neg (nI_ge hu (by omega)), gd (show u < 8 by omega) (by decide), nI_clamp (show u < 2 ^ 31 by omega), show σ5.2 (1 + 5) u = σ.2 6 u from g4' u (Nat.le_refl _), show fX0_turned (1 + 1) (σ.2 6 u) (nI a) σ5 = _ from X0_turned B5 ha (hs u hu), bs, gd2 (show u < 8 by omega) (by decide), ql, nI_1]
  · rintro f ⟨u, σ5⟩ ⟨hu, g1, g2, _⟩
    have hu' : u = p := hu
    have g2' : σ5.1 = σ1.1 := g2
    have e2 : σ5.1 1 2 = nI p := by rw [g2']; exact hp
    show fX2_turnAll_c18b 1 (nI a) (fX2_turnAll_c18 1 (nI a) f) (nI u) σ5 = _
    unfold fX2_turnAll_c18b
    rw [e2, hu', if_pos (nI_le (Nat.le_refl _) (by omega))]
theorem op_turn : Op_turn RR := by
  intro σ τ N x h
  have h0 := h
  obtain ⟨K, A, n, p, o, t, hR⟩ := h
  obtain ⟨h1, h2, h3, h4, h5, h6, h7, h8, h9, h10, h11, h12, h13, h14, h15⟩ := hR.2.1
  have hN : MN τ n := ⟨h1.1, h2⟩
  have B : Blk σ 2 n := h1
  unfold fX8_turn fX9_turn
  rw [X8_isAxis, bs]
  rcases isI_c x (p := 3) (by decide) with q | ⟨a, ha, rfl⟩
  · unfold fX9_becomes
    rw [M_in2, bs, q, b1_f, if_pos rfl, if_pos rfl, X_bad, bs, M_bad, bs, bs]
    exact ⟨_, _, _, rfl, rfl, RR_rf h0 (by decide)⟩
  · obtain ⟨σ', a1, a2, a3, a4, a5⟩ := X2_turnAll B ha h6 h5 (by rw [h3]; exact h4) (fun i hi => by rw [show σ.2 6 i = τ.2 11 i from (h11 i hi).1]; exact (h11 i hi).2) h14
    obtain ⟨τ', c1, c2, c3, c4, c5⟩ := M_becomes hN ha true h7 h5
    rw [isI_y ha (by decide), b1_t, if_neg b1_ne, a5, bs, show fX9_becomes 0 (nI a) 1 τ = _ from c5, bs]
    refine ⟨_, _, _, rfl, rfl, K, A, n, p, o, t, Rel_mo hR (ag_sub a1 (fun c j hc => ?_)) (ag_sub c1 (fun c j hc => ?_)) (RM_im hR.2.1 ha a1 a2 a3 a4 c1 c2 c3 c4)⟩
    · have hc' := hc.2
      show ¬ (c = 6 ∨ c = 7 ∨ (c = 1 ∧ j = 1))
      omega
    · have hc1 : sM1 c j := hc.1
      have hc' := hc.2
      unfold sM1 at hc1
      show ¬ (c = 19 ∨ c = 20 ∨ c = 11 ∨ c = 12 ∨ (c = 0 ∧ j = 12))
      omega
