/-! The empty cubes shared out among ways. -/
def ow (n : Nat) (x : Int64) (ws c : Nat) : Nat → Bool := fun w => ws.testBit w && !ahead n x c w
/-- the way that a cube belongs to -/
def wv (n : Nat) (x : Int64) (ws c : Nat) : Int32 := if tb x c then -1 else fsh (ow n x ws c) 6 0
theorem wv_c (n : Nat) (x : Int64) (ws c : Nat) : wv n x ws c = -1 ∨ ∃ w, w < 6 ∧ wv n x ws c = nI w := by
  unfold wv
  cases tb x c with
  | true => exact Or.inl rfl
  | false =>
    rw [if_neg (by decide)]
    rcases fsh_c (ow n x ws c) 6 0 with h | ⟨s, h1, h2, h3⟩
    · exact Or.inl h
    · exact Or.inr ⟨s, by omega, h3⟩
theorem wv_iff {n : Nat} {x : Int64} {ws c w : Nat} (hw : w < 6) : wv n x ws c = nI w ↔ tb x c = false ∧ ow n x ws c w = true ∧ ∀ v, v < w → ow n x ws c v = false := by
  unfold wv
  cases q : tb x c with
  | true =>
    rw [if_pos rfl]
    constructor
    · intro h; exact absurd h.symm (nI_m1 w (by omega))
    · rintro ⟨h, _⟩; cases h
  | false =>
    rw [if_neg (by decide)]
    rcases fsh_d (ow n x ws c) 6 0 with ⟨h1, h2⟩ | ⟨s, h1, h2, h3, h4, h5⟩
    · rw [h1]
      constructor
      · intro h; exact absurd h.symm (nI_m1 w (by omega))
      · rintro ⟨_, h, _⟩
        rw [h2 w (by omega) (by omega)] at h; cases h
    · rw [h3]
      constructor
      · intro h
        have : s = w := (nI_eq (by omega) (by omega)).mp h
        subst this
        exact ⟨rfl, h4, fun v hv => h5 v (by omega) hv⟩
      · rintro ⟨_, g1, g2⟩
        rcases Nat.lt_trichotomy s w with z | z | z
        · rw [g2 s z] at h4; cases h4
        · rw [z]
        · rw [h5 w (by omega) z] at g1; cases g1
theorem wv_srv {n : Nat} (hn : Sz n) {x : Int64} {ws c : Nat} (hs : srv n x ws = true) (hc : c < n * n * n) (hx : tb x c = false) : ∃ w, w < 6 ∧ wv n x ws c = nI w := by
  obtain ⟨w, w1, w2, w3⟩ := (srv_iff hn).mp hs c hc hx
  rcases wv_c n x ws c with h | h
  · unfold wv at h
    rw [hx, if_neg (by decide)] at h
    rcases fsh_d (ow n x ws c) 6 0 with ⟨_, h2⟩ | ⟨s, h1, h2, h3, _⟩
    · have := h2 w (by omega) (by omega)
      unfold ow at this
      rw [w2, w3] at this; cases this
    · rw [h3] at h; exact absurd h (nI_m1 s (by omega))
  · exact h
theorem wv_fig {n : Nat} {x : Int64} {ws c : Nat} (hx : tb x c = true) : wv n x ws c = -1 := by
  unfold wv
  rw [hx, if_pos rfl]
/-- the cubes of a way -/
def ownL (n : Nat) (x : Int64) (ws w : Nat) : Int64 := mkL fun c => decide (c < n * n * n) && decide (wv n x ws c = nI w)
theorem tb_own {n : Nat} (hn : Sz n) {x : Int64} {ws w c : Nat} : tb (ownL n x ws w) c = true ↔ c < n * n * n ∧ wv n x ws c = nI w := by
  unfold ownL
  rw [tb_mkL, Bool.and_eq_true, Bool.and_eq_true, decide_eq_true_iff, decide_eq_true_iff, decide_eq_true_iff]
  have := hn.cube
  constructor
  · rintro ⟨_, h⟩; exact h
  · intro h; exact ⟨by omega, h⟩
theorem inB_own {n : Nat} (hn : Sz n) {x : Int64} {ws w : Nat} : inB n (ownL n x ws w) := fun c hc => ((tb_own hn).mp hc).1
/-- what is still to be shared out -/
def rst (n : Nat) (x : Int64) (ws : Nat) : Nat → Int64
  | 0 => emp n x
  | w + 1 => dif (rst n x ws w) (ownL n x ws w)
theorem tb_rst {n : Nat} (hn : Sz n) {x : Int64} {ws c : Nat} : ∀ m, m ≤ 6 → (tb (rst n x ws m) c = true ↔ c < n * n * n ∧ tb x c = false ∧ ∀ w, w < m → ow n x ws c w = false)
  | 0, _ => by
    show tb (emp n x) c = true ↔ _
    rw [tb_emp hn]
    exact ⟨fun h => ⟨h.1, h.2, fun w hw => by omega⟩, fun h => ⟨h.1, h.2.1⟩⟩
  | m + 1, hm => by
    have ih := tb_rst hn (x := x) (ws := ws) (c := c) m (by omega)
    show tb (dif (rst n x ws m) (ownL n x ws m)) c = true ↔ _
    rw [tb_dif, ih]
    constructor
    · rintro ⟨⟨h1, h2, h3⟩, h4⟩
      refine ⟨h1, h2, fun w hw => ?_⟩
      rcases Nat.lt_or_ge w m with z | z
      · exact h3 w z
      · rw [show w = m by omega]
        cases q : ow n x ws c m with
        | false => rfl
        | true =>
          rw [(tb_own hn).mpr ⟨h1, (wv_iff (show m < 6 by omega)).mpr ⟨h2, q, h3⟩⟩] at h4; cases h4
    · rintro ⟨h1, h2, h3⟩
      refine ⟨⟨h1, h2, fun w hw => h3 w (by omega)⟩, ?_⟩
      cases q : tb (ownL n x ws m) c with
      | false => rfl
      | true =>
        have := ((wv_iff (show m < 6 by omega)).mp ((tb_own hn).mp q).2).2.1
        rw [h3 m (by omega)] at this; cases this
theorem own_eq {n : Nat} (hn : Sz n) {x : Int64} {ws w : Nat} (hw : w < 6) : (if ws.testBit w then frW n x w &&& rst n x ws w else 0) = ownL n x ws w := by
  apply sbs_eq
  · intro c hc
    cases q : ws.testBit w with
    | false => rw [q, if_neg (by decide), tb_0] at hc; cases hc
    | true =>
      rw [q, if_pos rfl, tb_and, Bool.and_eq_true] at hc
      obtain ⟨f1, f2, f3⟩ := (tb_frW hn hw).mp hc.1
      obtain ⟨_, _, r3⟩ := (tb_rst hn w (by omega)).mp hc.2
      exact (tb_own hn).mpr ⟨f1, (wv_iff hw).mpr ⟨f2, by unfold ow; rw [q, f3]; rfl, r3⟩⟩
  · intro c hc
    obtain ⟨h1, h2⟩ := (tb_own hn).mp hc
    obtain ⟨g1, g2, g3⟩ := (wv_iff hw).mp h2
    unfold ow at g2
    rw [Bool.and_eq_true] at g2
    rw [g2.1, if_pos rfl, tb_and, Bool.and_eq_true]
    exact ⟨(tb_frW hn hw).mpr ⟨h1, g1, by simpa using g2.2⟩, (tb_rst hn w (by omega)).mpr ⟨h1, g1, g3⟩⟩
def OW (σ : q_M) (n : Nat) (x : Int64) (ws : Nat) : Prop := ∀ w, w < 6 → σ.2 27 w = ownL n x ws w
theorem X1_share {σ : q_M} {n ws : Nat} {x : Int64} (hn : Sz n) (L : LK σ n x) (hws : ws < 64) : ∃ σ', OW σ' n x ws ∧ LK σ' n x ∧ ag (fun c _ => c ≠ 27) σ σ' ∧ σ'.1 = σ.1 ∧ fX1_share (nI ws) σ = some σ' := by
  have key := lp_ex (fun f (u : Nat × q_M) => fX1_share_c8 (nI ws) f (rst n x ws u.1) (nI u.1) u.2) (fun m u => u.1 = m ∧ ag (fun c _ => c ≠ 27) σ u.2 ∧ u.2.1 = σ.1 ∧ ∀ w, w < m → u.2.2 27 w = ownL n x ws w) 6 (fun u => some u.2) ?_ ?_ q_FU (0, σ) (by decide) ⟨rfl, ag_rf _ _, rfl, fun w hw => by omega⟩
  · obtain ⟨⟨_, σ'⟩, ⟨_, a1, a2, a3⟩, a4⟩ := key
    have a1' : ag (fun c _ => c ≠ 27) σ σ' := a1
    refine ⟨σ', a3, ⟨by rw [(a1' 25 0 (by show (25 : Nat) ≠ 27; decide)).2]; exact L.1, fun w hw => by rw [(a1' 26 w (by show (26 : Nat) ≠ 27; decide)).2]; exact L.2 w hw⟩, a1', a2, ?_⟩
    unfold fX1_share
    rw [L.1]
    exact a4
  · rintro f m ⟨u, σ2⟩ hm ⟨rfl, g1, g2, g3⟩
    have hu : u < 6 := hm
    have g1' : ag (fun c _ => c ≠ 27) σ σ2 := g1
    refine ⟨(u + 1, q_L σ2 27 u (ownL n x ws u)), ⟨rfl, ag_tr g1 (ag_L (fun w => w rfl)), g2, fun w hw => ?_⟩, ?_⟩
    · show (q_L σ2 27 u (ownL n x ws u)).2 27 w = _
      by_cases q : w = u
      · subst q; exact L_at
      · rw [L_of (fun z => q z.2)]; exact g3 w (by omega)
    · show fX1_share_c8b (nI ws) (fX1_share_c8 (nI ws) f) (rst n x ws u) (nI u) σ2 = fX1_share_c8 (nI ws) f (dif (rst n x ws u) (ownL n x ws u)) (nI (u + 1)) (q_L σ2 27 u (ownL n x ws u))
      have c43 : ∀ s, fX1_share_c43 (nI ws) (fX1_share_c8 (nI ws) f) (rst n x ws u) (nI u) s (nI u) σ2 = fX1_share_c8 (nI ws) f (dif (rst n x ws u) s) (nI (u + 1)) (q_L σ2 27 u s) := by
        intro s
        unfold fX1_share_c43
        rw [gd hu (by decide), ql, gd hu (by decide), ql, nI_clamp (by omega), L_at, nI_1]
        rfl
      unfold fX1_share_c8b
      rw [if_neg (show ¬ (6 : Int32) ≤ nI u from nI_ge (a := u) (b := 6) hu (by decide)), off_b1 (by omega) (by omega), gd hu (by decide), c43, c43, nI_clamp (by omega), (g1' 26 u (by show (26 : Nat) ≠ 27; decide)).2, L.2 u hu, ← own_eq hn hu]
      cases ws.testBit u with
      | false => rw [b1_f, if_pos rfl, if_neg (by decide)]
      | true => rw [b1_t, if_neg b1_ne, if_pos rfl]
  · rintro f ⟨u, σ2⟩ ⟨hu, _⟩
    have hu' : u = 6 := hu
    subst hu'
    show fX1_share_c8b (nI ws) (fX1_share_c8 (nI ws) f) (rst n x ws 6) (nI 6) σ2 = _
    unfold fX1_share_c8b
    rw [if_pos (show (6 : Int32) ≤ nI 6 by decide)]
def WY (τ : q_M) (n : Nat) (x : Int64) (ws : Nat) : Prop := ∀ c, c < n * n * n → τ.1 17 c = wv n x ws c
theorem bit_tab : ∀ k, k < 64 → ∀ w, w < 6 → (nI k &&& q_sl 1 (nI w) = 0 ↔ k.testBit w = false) := by decide +kernel
theorem M_ways19 {τ : q_M} {n ws c : Nat} {x : Int64} (F : FR τ n x) (hc : c < n * n * n) (h64 : n * n * n ≤ 64) (hws : ws < 64) (hx : tb x c = false) (h17 : τ.1 17 c = -1) (rec2 : Int32 → q_M → Option q_M) : fX9_findWays_c19 0 (nI ws) rec2 q_FU (nI c) 5 τ = rec2 (nI (c + 1)) (q_I τ 17 c (fsh (ow n x ws c) 6 0)) := by
  have key : ∀ d (τ1 : q_M) f, d ≤ 6 → d < f → (∀ j, τ1.1 16 j = τ.1 16 j) → (∃ v, τ1 = q_I τ 17 c v) → τ1.1 17 c = fsh (ow n x ws c) (6 - d) d → fX9_findWays_c19 0 (nI ws) rec2 f (nI c) (nI d - 1) τ1 = rec2 (nI (c + 1)) (q_I τ 17 c (fsh (ow n x ws c) 6 0)) := by
    intro d
    induction d with
    | zero =>
      intro τ1 f h1 h2 h3 h4 h5
      obtain ⟨f, rfl⟩ : ∃ z, f = z + 1 := ⟨f - 1, by omega⟩
      obtain ⟨v, rfl⟩ := h4
      show fX9_findWays_c19b 0 (nI ws) rec2 (fX9_findWays_c19 0 (nI ws) rec2 f) (nI c) (nI 0 - 1) (q_I τ 17 c v) = _
      unfold fX9_findWays_c19b
      rw [if_pos (by decide), nI_1]
      rw [I_at] at h5
      rw [h5]
    | succ d ih =>
      intro τ1 f h1 h2 h3 h4 h5
      obtain ⟨f, rfl⟩ : ∃ z, f = z + 1 := ⟨f - 1, by omega⟩
      have em : nI d + (-1) = nI d - 1 := (by decide +kernel : ∀ d, d < 7 → nI d + (-1) = nI d - 1) d (by omega)
      have fl := fm_lt n x c
      have fr : τ1.1 16 c = nI (fm n x c) := by
        rw [h3 c, F c hc]
        unfold frv
        rw [hx, if_neg (by decide)]
      have hab : fm n x c &&& ws < 64 := Nat.lt_of_le_of_lt Nat.and_le_left fl
      have tst : (nI (fm n x c) &&& nI ws &&& q_sl 1 (nI d) = 0) ↔ ow n x ws c d = false := by
        rw [and_tab _ fl _ hws, bit_tab _ hab d (by omega), Nat.testBit_and, fm_tb (by omega)]
        unfold ow
        cases ws.testBit d <;> cases ahead n x c d <;> simp
      have e6 : 6 - d = (6 - (d + 1)) + 1 := by omega
      obtain ⟨v, rfl⟩ := h4
      have II : ∀ u, q_I (q_I τ 17 c v) 17 c u = q_I τ 17 c u := fun u => by
        unfold q_I
        congr 1
        funext a b
        by_cases z : a = 17 ∧ b = c
        · rw [if_pos z, if_pos z]
        · rw [if_neg z, if_neg z]
          show (if a = 17 ∧ b = c then v else τ.1 a b) = _
          rw [if_neg z]
      show fX9_findWays_c19b 0 (nI ws) rec2 (fX9_findWays_c19 0 (nI ws) rec2 f) (nI c) (nI (d + 1) - 1) (q_I τ 17 c v) = _
      unfold fX9_findWays_c19b
      rw [nI_pred, if_neg (nI_pos (show d < 2 ^ 31 by omega)), gd (show c < 64 by omega) (by decide), nI_clamp (show c < 2 ^ 31 by omega), show (q_I τ 17 c v).1 (0 + 16) c = nI (fm n x c) from fr, if_neg (fm_m1 n x c), gd2 (show c < 64 by omega) (by decide), gd2 (show c < 64 by omega) (by decide), gd2 (show c < 64 by omega) (by decide), gd2 (show c < 64 by omega) (by decide), ql, ql, em]
      show (if nI (fm n x c) &&& nI ws &&& q_sl 1 (nI d) = 0 then fX9_findWays_c19 0 (nI ws) rec2 f (nI c) (nI d - 1) (q_I (q_I τ 17 c v) 17 c ((q_I τ 17 c v).1 17 c)) else fX9_findWays_c19 0 (nI ws) rec2 f (nI c) (nI d - 1) (q_I (q_I τ 17 c v) 17 c (nI d))) = _
      rw [II, II]
      by_cases q : ow n x ws c d = false
      · rw [if_pos (tst.mpr q)]
        refine ih _ f (by omega) (by omega) (fun j => by rw [I_of (by omega)]) ⟨_, rfl⟩ ?_
        rw [I_at, h5, e6]
        show _ = (if ow n x ws c d then nI d else fsh (ow n x ws c) (6 - (d + 1)) (d + 1))
        rw [q, if_neg (by decide)]
      · have q' : ow n x ws c d = true := by simpa using q
        rw [if_neg (fun z => q (tst.mp z))]
        refine ih _ f (by omega) (by omega) (fun j => by rw [I_of (by omega)]) ⟨_, rfl⟩ ?_
        rw [I_at, e6]
        show _ = (if ow n x ws c d then nI d else fsh (ow n x ws c) (6 - (d + 1)) (d + 1))
        rw [q', if_pos rfl]
  have hτ : τ = q_I τ 17 c (τ.1 17 c) := by
    unfold q_I
    refine Prod.ext ?_ rfl
    funext a b
    show τ.1 a b = if a = 17 ∧ b = c then τ.1 17 c else τ.1 a b
    by_cases z : a = 17 ∧ b = c
    · rw [if_pos z, z.1, z.2]
    · rw [if_neg z]
  exact key 6 τ q_FU (Nat.le_refl _) (by decide) (fun _ => rfl) ⟨_, hτ⟩ (by rw [h17]; rfl)
theorem M_findWays {τ : q_M} {n ws : Nat} {x : Int64} (h : MN τ n) (F : FR τ n x) (hws : ws < 64) : ∃ τ', WY τ' n x ws ∧ FR τ' n x ∧ MN τ' n ∧ ag (fun c _ => c ≠ 17) τ τ' ∧ τ'.2 = τ.2 ∧ fX9_findWays 0 (nI ws) τ = some τ' := by
  have hn := h.1
  have h64 := hn.cube
  have key := lp_ex (fun f (u : Nat × q_M) => fX9_findWays_c2 0 (nI ws) f (nI u.1) u.2) (fun m u => u.1 = m ∧ ag (fun c _ => c ≠ 17) τ u.2 ∧ u.2.2 = τ.2 ∧ ∀ c, c < m → u.2.1 17 c = wv n x ws c) (n * n * n) (fun u => some u.2) ?_ ?_ q_FU (0, τ) (by show _ < 400; omega) ⟨rfl, ag_rf _ _, rfl, fun w hw => by omega⟩
  · obtain ⟨⟨_, τ'⟩, ⟨_, a1, a2, a3⟩, a4⟩ := key
    have a1' : ag (fun c _ => c ≠ 17) τ τ' := a1
    exact ⟨τ', a3, fun c hc => by rw [(a1' 16 c (by show (16 : Nat) ≠ 17; decide)).1]; exact F c hc, ⟨hn, by rw [(a1' 0 11 (by show (0 : Nat) ≠ 17; decide)).1]; exact h.2⟩, a1', a2, a4⟩
  · rintro f m ⟨u, τ2⟩ hm ⟨rfl, g1, g2, g3⟩
    have hu : u < n * n * n := hm
    have g1' : ag (fun c _ => c ≠ 17) τ τ2 := g1
    have h2 : MN τ2 n := ⟨hn, by rw [(g1' 0 11 (by show (0 : Nat) ≠ 17; decide)).1]; exact h.2⟩
    have F2 : FR (q_I τ2 17 u (-1)) n x := fun c hc => by
      rw [I_of (by omega), (g1' 16 c (by show (16 : Nat) ≠ 17; decide)).1]
      exact F c hc
    refine ⟨(u + 1, q_I τ2 17 u (wv n x ws u)), ⟨rfl, ag_tr g1 (ag_I (fun w => w rfl)), g2, fun c hc => ?_⟩, ?_⟩
    · show (q_I τ2 17 u (wv n x ws u)).1 17 c = _
      by_cases q : c = u
      · subst q; exact I_at
      · rw [I_of (fun z => q z.2)]; exact g3 c (by omega)
    · show fX9_findWays_c2b 0 (nI ws) (fX9_findWays_c2 0 (nI ws) f) (nI u) τ2 = fX9_findWays_c2 0 (nI ws) f (nI (u + 1)) (q_I τ2 17 u (wv n x ws u))
      unfold fX9_findWays_c2b
      rw [M_many h2, bs, if_neg (nI_ge hu (by omega)), gd (show u < 64 by omega) (by decide), ql, nI_clamp (show u < 2 ^ 31 by omega)]
      show fX9_findWays_c19 0 (nI ws) (fX9_findWays_c2 0 (nI ws) f) q_FU (nI u) 5 (q_I τ2 17 u (-1)) = _
      cases q : tb x u with
      | true =>
        rw [wv_fig q]
        show fX9_findWays_c19b 0 (nI ws) (fX9_findWays_c2 0 (nI ws) f) (fX9_findWays_c19 0 (nI ws) (fX9_findWays_c2 0 (nI ws) f) 399) (nI u) 5 (q_I τ2 17 u (-1)) = _
        unfold fX9_findWays_c19b
        have e16 : (q_I τ2 17 u (-1)).1 (0 + 16) u = -1 := by
          rw [show (q_I τ2 17 u (-1)).1 (0 + 16) u = frv n x u from F2 u hu]
          unfold frv
          rw [q, if_pos rfl]
        rw [if_neg (by decide), gd (show u < 64 by omega) (by decide), nI_clamp (show u < 2 ^ 31 by omega), e16, if_pos rfl, nI_1]
      | false =>
        have II : ∀ v, q_I (q_I τ2 17 u (-1)) 17 u v = q_I τ2 17 u v := fun v => by
          unfold q_I
          congr 1
          funext a b
          by_cases z : a = 17 ∧ b = u
          · rw [if_pos z, if_pos z]
          · rw [if_neg z, if_neg z]
            show (if a = 17 ∧ b = u then (-1 : Int32) else τ2.1 a b) = _
            rw [if_neg z]
        rw [M_ways19 F2 hu h64 hws q I_at, II]
        unfold wv
        rw [q, if_neg (by decide)]
  · rintro f ⟨u, τ2⟩ ⟨hu, g1, g2, g3⟩
    have hu' : u = n * n * n := hu
    have g1' : ag (fun c _ => c ≠ 17) τ τ2 := g1
    have h2 : MN τ2 n := ⟨hn, by rw [(g1' 0 11 (by show (0 : Nat) ≠ 17; decide)).1]; exact h.2⟩
    show fX9_findWays_c2b 0 (nI ws) (fX9_findWays_c2 0 (nI ws) f) (nI u) τ2 = _
    unfold fX9_findWays_c2b
    rw [M_many h2, bs, hu', if_pos (nI_le (Nat.le_refl _) (by omega))]
