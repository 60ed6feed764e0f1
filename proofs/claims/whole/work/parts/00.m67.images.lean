/-! Mirrors and turns. -/
def uu (a : Nat) : Nat := if a = 0 then 1 else 0
def vv (a : Nat) : Nat := if a = 2 then 1 else 2
/-- the sides of a cube's image -/
def imS (n a : Nat) (tt : Bool) (c j : Nat) : Nat := if tt then (if j = uu a then side n c (vv a) else if j = vv a then n - 1 - side n c (uu a) else side n c j) else (if j = a then n - 1 - side n c a else side n c j)
def img (n a : Nat) (tt : Bool) (c : Nat) : Nat := imS n a tt c 0 + n * imS n a tt c 1 + n * n * imS n a tt c 2
def ivS (n a : Nat) (tt : Bool) (d j : Nat) : Nat := if tt then (if j = uu a then n - 1 - side n d (vv a) else if j = vv a then side n d (uu a) else side n d j) else (if j = a then n - 1 - side n d a else side n d j)
def imv (n a : Nat) (tt : Bool) (d : Nat) : Nat := ivS n a tt d 0 + n * ivS n a tt d 1 + n * n * ivS n a tt d 2
def imT (n a : Nat) (tt : Bool) (c : Nat) : Bool := decide (img n a tt c < n * n * n) && decide (imv n a tt c < n * n * n) && decide (imv n a tt (img n a tt c) = c) && decide (img n a tt (imv n a tt c) = c)
theorem imT_t {n : Nat} (hn : Sz n) {a c : Nat} (ha : a < 3) (tt : Bool) (hc : c < n * n * n) : img n a tt c < n * n * n ∧ imv n a tt c < n * n * n ∧ imv n a tt (img n a tt c) = c ∧ img n a tt (imv n a tt c) = c := by
  have h : imT n a tt c = true := by
    rcases hn with rfl | rfl | rfl <;> cases tt
    · exact (by decide +kernel : ∀ a, a < 3 → ∀ c, c < 2 * 2 * 2 → imT 2 a false c = true) a ha c hc
    · exact (by decide +kernel : ∀ a, a < 3 → ∀ c, c < 2 * 2 * 2 → imT 2 a true c = true) a ha c hc
    · exact (by decide +kernel : ∀ a, a < 3 → ∀ c, c < 3 * 3 * 3 → imT 3 a false c = true) a ha c hc
    · exact (by decide +kernel : ∀ a, a < 3 → ∀ c, c < 3 * 3 * 3 → imT 3 a true c = true) a ha c hc
    · exact (by decide +kernel : ∀ a, a < 3 → ∀ c, c < 4 * 4 * 4 → imT 4 a false c = true) a ha c hc
    · exact (by decide +kernel : ∀ a, a < 3 → ∀ c, c < 4 * 4 * 4 → imT 4 a true c = true) a ha c hc
  unfold imT at h
  simp only [Bool.and_eq_true, decide_eq_true_iff] at h
  exact ⟨h.1.1.1, h.1.1.2, h.1.2, h.2⟩
/-- a set's image -/
def imL (n a : Nat) (tt : Bool) (x : Int64) : Int64 := mkL fun d => decide (d < n * n * n) && tb x (imv n a tt d)
theorem tb_imL {n a : Nat} {tt : Bool} {x : Int64} {d : Nat} (hn : Sz n) : tb (imL n a tt x) d = (decide (d < n * n * n) && tb x (imv n a tt d)) := by
  unfold imL
  rw [tb_mkL]
  have := hn.cube
  by_cases q : d < n * n * n
  · simp [q, show d < 64 by omega]
  · simp [q]
theorem inB_imL {n a : Nat} {tt : Bool} {x : Int64} : inB n (imL n a tt x) := inB_mk fun c hc => by
  simp at hc
  exact hc.1
theorem mkG_im {n : Nat} (hn : Sz n) {a : Nat} (ha : a < 3) (tt : Bool) {x : Int64} : mkG (fun c => if tb x c then some (img n a tt c) else none) (n * n * n) = imL n a tt x := by
  have h64 := hn.cube
  apply tb_ext
  intro d hd
  rw [Bool.eq_iff_iff, tb_mkG, tb_imL hn, Bool.and_eq_true, decide_eq_true_iff]
  · constructor
    · rintro ⟨c, hc, h⟩
      by_cases q : tb x c = true
      · rw [if_pos q] at h
        have e := Option.some.inj h
        have t := imT_t hn ha tt hc
        rw [← e]
        exact ⟨t.1, by rw [t.2.2.1]; exact q⟩
      · rw [if_neg q] at h; cases h
    · rintro ⟨h1, h2⟩
      have t := imT_t hn ha tt h1
      exact ⟨imv n a tt d, t.2.1, by rw [if_pos h2, t.2.2.2]⟩
  · intro c d hc h
    by_cases q : tb x c = true
    · rw [if_pos q] at h
      have e := Option.some.inj h
      have t := imT_t hn ha tt hc
      omega
    · rw [if_neg q] at h; cases h
/-- where the reference sees a cube's image -/
theorem M_imageOf {τ : q_M} {n a c : Nat} (h : MN τ n) (ha : a < 3) (tt : Bool) (hc : c < n * n * n) : ∃ τ', ag (fun e _ => e ≠ 19) τ τ' ∧ τ'.2 = τ.2 ∧ fX9_imageOf 0 (nI c) (nI a) (b1 tt) τ = some (nI (img n a tt c), τ') := by
  have hn := h.1
  have h64 := hn.cube
  have n4 := hn.le
  have n0 := hn.pos
  have s0 := side_lt hn hc (show 0 < 3 by decide)
  have s1 := side_lt hn hc (show 1 < 3 by decide)
  have s2 := side_lt hn hc (show 2 < 3 by decide)
  let τ3 : q_M := q_I (q_I (q_I τ 19 0 (nI (side n c 0))) 19 1 (nI (side n c 1))) 19 2 (nI (side n c 2))
  have a3 : ag (fun e _ => e ≠ 19) τ τ3 := ag_tr (ag_I (fun w => w rfl)) (ag_tr (ag_I (fun w => w rfl)) (ag_I (fun w => w rfl)))
  have stp : ∀ f i (τ1 : q_M), i < 3 → ag (fun e _ => e ≠ 19) τ τ1 → fX9_imageOf_c3 0 (nI c) (nI a) (b1 tt) (f + 1) (nI i) τ1 = fX9_imageOf_c3 0 (nI c) (nI a) (b1 tt) f (nI (i + 1)) (q_I τ1 19 i (nI (side n c i))) := by
    intro f i τ1 hi a1
    have h1 : MN τ1 n := ⟨hn, by rw [(a1 0 11 (by show (0 : Nat) ≠ 19; decide)).1]; exact h.2⟩
    show fX9_imageOf_c3b 0 (nI c) (nI a) (b1 tt) (fX9_imageOf_c3 0 (nI c) (nI a) (b1 tt) f) (nI i) τ1 = _
    unfold fX9_imageOf_c3b
    rw [if_neg (show ¬ (3 : Int32) ≤ nI i from nI_ge (a := i) (b := 3) hi (by decide)), M_side h1 (by omega) hi, bs, gd hi (by decide), ql, nI_clamp (by omega), nI_1]
  have e0 := stp 399 0 τ (by decide) (ag_rf _ _)
  have e1 := stp 398 1 (q_I τ 19 0 (nI (side n c 0))) (by decide) (ag_I (fun w => w rfl))
  have e2 := stp 397 2 (q_I (q_I τ 19 0 (nI (side n c 0))) 19 1 (nI (side n c 1))) (by decide) (ag_tr (ag_I (fun w => w rfl)) (ag_I (fun w => w rfl)))
  have e3 : fX9_imageOf 0 (nI c) (nI a) (b1 tt) τ = fX9_imageOf_c3b 0 (nI c) (nI a) (b1 tt) (fX9_imageOf_c3 0 (nI c) (nI a) (b1 tt) 396) 3 τ3 := by
    have e0' : fX9_imageOf 0 (nI c) (nI a) (b1 tt) τ = _ := e0
    rw [e0', e1, e2]
    rfl
  have t0 : τ3.1 19 0 = nI (side n c 0) := by
    show (q_I (q_I (q_I τ 19 0 (nI (side n c 0))) 19 1 (nI (side n c 1))) 19 2 (nI (side n c 2))).1 19 0 = _
    rw [I_of (by omega), I_of (by omega), I_at]
  have t1 : τ3.1 19 1 = nI (side n c 1) := by
    show (q_I (q_I (q_I τ 19 0 (nI (side n c 0))) 19 1 (nI (side n c 1))) 19 2 (nI (side n c 2))).1 19 1 = _
    rw [I_of (by omega), I_at]
  have t2 : τ3.1 19 2 = nI (side n c 2) := I_at
  have hn3 : τ3.1 0 11 = nI n := by rw [(a3 0 11 (by show (0 : Nat) ≠ 19; decide)).1]; exact h.2
  have pr : nI n - 1 = nI (n - 1) := by
    have := nI_pred (n - 1)
    rw [show n - 1 + 1 = n by omega] at this
    exact this
  -- the end: a cube from its sides
  have fin : ∀ (τ4 : q_M) x y z, ag (fun e _ => e ≠ 19) τ3 τ4 → τ4.1 19 0 = nI x → τ4.1 19 1 = nI y → τ4.1 19 2 = nI z → fX9_imageOf_c117 0 (nI c) (nI a) (b1 tt) τ4 = some (nI (x + n * y + n * n * z), τ4) := by
    intro τ4 x y z a4 h0 h1 h2
    have hn4 : τ4.1 0 11 = nI n := by rw [(a4 0 11 (by show (0 : Nat) ≠ 19; decide)).1]; exact hn3
    unfold fX9_imageOf_c117 fX9_cubeAt
    rw [if_pos (by decide), if_pos (by decide), if_pos (by decide)]
    show some (τ4.1 19 0 + τ4.1 0 11 * τ4.1 19 1 + τ4.1 0 11 * τ4.1 0 11 * τ4.1 19 2, τ4) = _
    rw [h0, h1, h2, hn4, nI_mul, nI_mul, nI_mul, nI_add, nI_add]
  rw [e3]
  unfold fX9_imageOf_c3b
  rw [if_pos (by decide)]
  cases tt with
  | false =>
    rw [b1_f, if_pos rfl, gd ha (by decide), gd ha (by decide), ql, nI_clamp (by omega), hn3, pr]
    have ts : τ3.1 (0 + 19) a = nI (side n c a) := by
      rcases (show a = 0 ∨ a = 1 ∨ a = 2 by omega) with rfl | rfl | rfl
      · exact t0
      · exact t1
      · exact t2
    have sa := side_lt hn hc ha
    rw [ts, pk_sub (show side n c a ≤ n - 1 by omega)]
    have a4 : ag (fun e _ => e ≠ 19) τ3 (q_I τ3 (0 + 19) a (nI (n - 1 - side n c a))) := ag_I (fun w => w rfl)
    refine ⟨q_I τ3 (0 + 19) a (nI (n - 1 - side n c a)), ag_tr a3 a4, rfl, ?_⟩
    have f := fin (q_I τ3 (0 + 19) a (nI (n - 1 - side n c a))) (imS n a false c 0) (imS n a false c 1) (imS n a false c 2) a4 ?_ ?_ ?_
    · exact f
    · unfold imS
      show (q_I τ3 19 a (nI (n - 1 - side n c a))).1 19 0 = nI (if 0 = a then n - 1 - side n c a else side n c 0)
      by_cases q : 0 = a
      · subst q; rw [if_pos rfl]; exact I_at
      · rw [if_neg q, I_of (by omega)]; exact t0
    · unfold imS
      show (q_I τ3 19 a (nI (n - 1 - side n c a))).1 19 1 = nI (if 1 = a then n - 1 - side n c a else side n c 1)
      by_cases q : 1 = a
      · subst q; rw [if_pos rfl]; exact I_at
      · rw [if_neg q, I_of (by omega)]; exact t1
    · unfold imS
      show (q_I τ3 19 a (nI (n - 1 - side n c a))).1 19 2 = nI (if 2 = a then n - 1 - side n c a else side n c 2)
      by_cases q : 2 = a
      · subst q; rw [if_pos rfl]; exact I_at
      · rw [if_neg q, I_of (by omega)]; exact t2
  | true =>
    rw [b1_t, if_neg b1_ne]
    have c54 : ∀ u v, u < 3 → v < 3 → u ≠ v → ∀ su sv, τ3.1 19 u = nI su → τ3.1 19 v = nI sv → su < n → fX9_imageOf_c54 0 (nI c) (nI a) 1 (nI u) (nI v) τ3 = fX9_imageOf_c117 0 (nI c) (nI a) 1 (q_I (q_I τ3 19 u (nI sv)) 19 v (nI (n - 1 - su))) := by
      intro u v hu hv huv su sv e1 e2 hs
      unfold fX9_imageOf_c54
      rw [gd hu (by decide), ql, gd hv (by decide), gd hu (by decide), ql, gd hv (by decide), ql, nI_clamp (by omega), nI_clamp (by omega), show τ3.1 (0 + 19) u = nI su from e1, show τ3.1 (0 + 19) v = nI sv from e2, I_of (show ¬ (0 = 0 + 19 ∧ 11 = u) by omega), hn3, pr, pk_sub (show su ≤ n - 1 by omega)]
    have go : ∀ u v su sv, u < 3 → v < 3 → u ≠ v → u = uu a → v = vv a → τ3.1 19 u = nI su → τ3.1 19 v = nI sv → su = side n c u → sv = side n c v → su < n → ∃ τ', ag (fun e _ => e ≠ 19) τ τ' ∧ τ'.2 = τ.2 ∧ fX9_imageOf_c54 0 (nI c) (nI a) 1 (nI u) (nI v) τ3 = some (nI (img n a true c), τ') := by
      intro u v su sv hu hv huv eu ev e1 e2 d1 d2 hs
      rw [c54 u v hu hv huv su sv e1 e2 hs]
      have a4 : ag (fun e _ => e ≠ 19) τ3 (q_I (q_I τ3 19 u (nI sv)) 19 v (nI (n - 1 - su))) := ag_tr (ag_I (fun w => w rfl)) (ag_I (fun w => w rfl))
      refine ⟨q_I (q_I τ3 19 u (nI sv)) 19 v (nI (n - 1 - su)), ag_tr a3 a4, rfl, ?_⟩
      have rd : ∀ j, j < 3 → τ3.1 19 j = nI (side n c j) → (q_I (q_I τ3 19 u (nI sv)) 19 v (nI (n - 1 - su))).1 19 j = nI (imS n a true c j) := by
        intro j hj tj
        unfold imS
        rw [if_pos rfl, ← eu, ← ev, ← d1, ← d2]
        by_cases q : j = u
        · rw [if_pos q, I_of (by omega), q, I_at]
        · rw [if_neg q]
          by_cases w : j = v
          · rw [if_pos w, w, I_at]
          · rw [if_neg w, I_of (by omega), I_of (by omega)]; exact tj
      exact fin (q_I (q_I τ3 19 u (nI sv)) 19 v (nI (n - 1 - su))) (imS n a true c 0) (imS n a true c 1) (imS n a true c 2) a4 (rd 0 (by decide) t0) (rd 1 (by decide) t1) (rd 2 (by decide) t2)
    rcases (show a = 0 ∨ a = 1 ∨ a = 2 by omega) with rfl | rfl | rfl
    · rw [if_pos (show nI 0 = 0 from rfl), if_neg (show ¬ nI 0 = 2 by decide)]
      exact go 1 2 _ _ (by decide) (by decide) (by decide) rfl rfl t1 t2 rfl rfl s1
    · rw [if_neg (show ¬ nI 1 = 0 by decide), if_neg (show ¬ nI 1 = 2 by decide)]
      exact go 0 2 _ _ (by decide) (by decide) (by decide) rfl rfl t0 t2 rfl rfl s0
    · rw [if_neg (show ¬ nI 2 = 0 by decide), if_pos (show nI 2 = 2 from rfl)]
      exact go 0 1 _ _ (by decide) (by decide) (by decide) rfl rfl t0 t1 rfl rfl s0
theorem M_imagesOf {τ : q_M} {n a : Nat} (h : MN τ n) (ha : a < 3) (tt : Bool) (x : Int64) : ∃ τ', ag (fun e _ => e ≠ 19) τ τ' ∧ τ'.2 = τ.2 ∧ fX9_imagesOf 0 x (nI a) (b1 tt) τ = some (imL n a tt x, τ') := by
  have hn := h.1
  have h64 := hn.cube
  have key := lp_ex (fun f (u : Nat × q_M) => fX9_imagesOf_c6 0 x (nI a) (b1 tt) f (mkG (fun c => if tb x c then some (img n a tt c) else none) u.1) (nI u.1) u.2) (fun m u => u.1 = m ∧ ag (fun e _ => e ≠ 19) τ u.2 ∧ u.2.2 = τ.2) (n * n * n) (fun u => some (imL n a tt x, u.2)) ?_ ?_ q_FU (0, τ) (by show _ < 400; omega) ⟨rfl, ag_rf _ _, rfl⟩
  · obtain ⟨⟨_, τ'⟩, ⟨_, a1, a2⟩, a3⟩ := key
    exact ⟨τ', a1, a2, a3⟩
  · rintro f m ⟨u, τ1⟩ hm ⟨rfl, g1, g2⟩
    have hu : u < n * n * n := hm
    have g1' : ag (fun e _ => e ≠ 19) τ τ1 := g1
    have h1 : MN τ1 n := ⟨hn, by rw [(g1' 0 11 (by show (0 : Nat) ≠ 19; decide)).1]; exact h.2⟩
    cases q : tb x u with
    | false =>
      refine ⟨(u + 1, τ1), ⟨rfl, g1, g2⟩, ?_⟩
      show fX9_imagesOf_c6b 0 x (nI a) (b1 tt) (fX9_imagesOf_c6 0 x (nI a) (b1 tt) f) (mkG (fun c => if tb x c then some (img n a tt c) else none) u) (nI u) τ1 = _
      unfold fX9_imagesOf_c6b
      rw [M_many h1, bs, if_neg (nI_ge hu (by omega)), M_hasF (by omega) q, bs, if_pos rfl, or0, nI_1]
      show _ = fX9_imagesOf_c6 0 x (nI a) (b1 tt) f (mkG (fun c => if tb x c then some (img n a tt c) else none) (u + 1)) (nI (u + 1)) τ1
      rw [mkG_none (by rw [q]; rfl)]
    | true =>
      obtain ⟨τ2, b1', b2, b3⟩ := M_imageOf h1 ha tt hu
      refine ⟨(u + 1, τ2), ⟨rfl, ag_tr g1 b1', b2.trans g2⟩, ?_⟩
      show fX9_imagesOf_c6b 0 x (nI a) (b1 tt) (fX9_imagesOf_c6 0 x (nI a) (b1 tt) f) (mkG (fun c => if tb x c then some (img n a tt c) else none) u) (nI u) τ1 = _
      unfold fX9_imagesOf_c6b
      rw [M_many h1, bs, if_neg (nI_ge hu (by omega)), M_hasT (by omega) q, bs, if_neg b1_ne, b3, bs, ql, nI_1]
      show _ = fX9_imagesOf_c6 0 x (nI a) (b1 tt) f (mkG (fun c => if tb x c then some (img n a tt c) else none) (u + 1)) (nI (u + 1)) τ2
      rw [mkG_some (d := img n a tt u) (by rw [q, if_pos rfl])]
  · rintro f ⟨u, τ1⟩ ⟨hu, g1, g2⟩
    have hu' : u = n * n * n := hu
    have g1' : ag (fun e _ => e ≠ 19) τ τ1 := g1
    have h1 : MN τ1 n := ⟨hn, by rw [(g1' 0 11 (by show (0 : Nat) ≠ 19; decide)).1]; exact h.2⟩
    show fX9_imagesOf_c6b 0 x (nI a) (b1 tt) (fX9_imagesOf_c6 0 x (nI a) (b1 tt) f) (mkG (fun c => if tb x c then some (img n a tt c) else none) u) (nI u) τ1 = _
    unfold fX9_imagesOf_c6b
    rw [M_many h1, bs, hu', if_pos (nI_le (Nat.le_refl _) (by omega)), mkG_im hn ha tt]
/-- shifting by a number that may be negative -/
def shz (x : Int64) (t : Int) : Int64 := if t < 0 then q_ushr x (nI t.natAbs) else q_shl x (nI t.natAbs)
theorem tb_shz {x : Int64} {t : Int} {d : Nat} (ht : t.natAbs < 64) (hd : d < 64) : tb (shz x t) d = if t < 0 then tb x (t.natAbs + d) else (decide (t.natAbs ≤ d) && tb x (d - t.natAbs)) := by
  unfold shz
  by_cases q : t < 0
  · rw [if_pos q, if_pos q, tb_ushr x ht]
  · rw [if_neg q, if_neg q, tb_shl x ht hd]
def mT (n a i : Nat) : Int := ((n : Int) - 1 - 2 * i) * strd n a
def tT (n a i j : Nat) : Int := ((j : Int) - i) * strd n (uu a) + ((n : Int) - 1 - i - j) * strd n (vv a)
def okS (v : Int32) (t : Int) : Bool := decide (t.natAbs < 64) && (decide (v < 0) == decide (t < 0)) && (if t < 0 then decide (-v = nI t.natAbs) else decide (v = nI t.natAbs))
theorem X0_sby {σ : q_M} {x : Int64} {v : Int32} {t : Int} (h : okS v t = true) : fX0_shiftedBy x v σ = some (shz x t, σ) := by
  unfold okS at h
  simp only [Bool.and_eq_true, decide_eq_true_iff, beq_iff_eq] at h
  unfold fX0_shiftedBy shz
  by_cases q : t < 0
  · have hv : v < 0 := by
      have := h.1.2
      rw [decide_eq_true q, decide_eq_true_iff] at this
      exact this
    have h2 := h.2
    rw [if_pos q, decide_eq_true_iff] at h2
    rw [if_pos hv, if_pos q, h2]
  · have hv : ¬ v < 0 := by
      have := h.1.2
      rw [decide_eq_false q, decide_eq_false_iff_not] at this
      exact this
    have h2 := h.2
    rw [if_neg q, decide_eq_true_iff] at h2
    rw [if_neg hv, if_neg q, h2]
theorem mT_ok {n : Nat} (hn : Sz n) {a i : Nat} (ha : a < 3) (hi : i < n) : okS ((nI n - 1 - 2 * nI i) * nI (strd n a)) (mT n a i) = true := by
  rcases hn with rfl | rfl | rfl
  · exact (by decide +kernel : ∀ a, a < 3 → ∀ i, i < 2 → okS ((nI 2 - 1 - 2 * nI i) * nI (strd 2 a)) (mT 2 a i) = true) a ha i hi
  · exact (by decide +kernel : ∀ a, a < 3 → ∀ i, i < 3 → okS ((nI 3 - 1 - 2 * nI i) * nI (strd 3 a)) (mT 3 a i) = true) a ha i hi
  · exact (by decide +kernel : ∀ a, a < 3 → ∀ i, i < 4 → okS ((nI 4 - 1 - 2 * nI i) * nI (strd 4 a)) (mT 4 a i) = true) a ha i hi
theorem tT_ok {n : Nat} (hn : Sz n) {a i j : Nat} (ha : a < 3) (hi : i < n) (hj : j < n) : okS ((nI j - nI i) * nI (strd n (uu a)) + (nI n - 1 - nI i - nI j) * nI (strd n (vv a))) (tT n a i j) = true := by
  rcases hn with rfl | rfl | rfl
  · exact (by decide +kernel : ∀ a, a < 3 → ∀ i, i < 2 → ∀ j, j < 2 → okS ((nI j - nI i) * nI (strd 2 (uu a)) + (nI 2 - 1 - nI i - nI j) * nI (strd 2 (vv a))) (tT 2 a i j) = true) a ha i hi j hj
  · exact (by decide +kernel : ∀ a, a < 3 → ∀ i, i < 3 → ∀ j, j < 3 → okS ((nI j - nI i) * nI (strd 3 (uu a)) + (nI 3 - 1 - nI i - nI j) * nI (strd 3 (vv a))) (tT 3 a i j) = true) a ha i hi j hj
  · exact (by decide +kernel : ∀ a, a < 3 → ∀ i, i < 4 → ∀ j, j < 4 → okS ((nI j - nI i) * nI (strd 4 (uu a)) + (nI 4 - 1 - nI i - nI j) * nI (strd 4 (vv a))) (tT 4 a i j) = true) a ha i hi j hj
/-- where a cube of the image comes from -/
def srcO (n : Nat) (t : Int) (d : Nat) : Option Nat := if t < 0 then (if t.natAbs + d < n * n * n then some (t.natAbs + d) else none) else (if t.natAbs ≤ d ∧ d - t.natAbs < n * n * n then some (d - t.natAbs) else none)
theorem tb_srcO {n : Nat} {x : Int64} (hx : inB n x) {t : Int} {d : Nat} (ht : t.natAbs < 64) (hd : d < 64) : tb (shz x t) d = tbo x (srcO n t d) := by
  rw [tb_shz ht hd]
  unfold srcO
  by_cases q : t < 0
  · rw [if_pos q, if_pos q]
    by_cases z : t.natAbs + d < n * n * n
    · rw [if_pos z]; rfl
    · rw [if_neg z, tb_in hx z]; rfl
  · rw [if_neg q, if_neg q]
    by_cases z : t.natAbs ≤ d ∧ d - t.natAbs < n * n * n
    · rw [if_pos z, decide_eq_true z.1, Bool.true_and]; rfl
    · rw [if_neg z]
      by_cases y : t.natAbs ≤ d
      · rw [decide_eq_true y, Bool.true_and, tb_in hx (fun w => z ⟨y, w⟩)]; rfl
      · rw [decide_eq_false y]; rfl
def mtb (n a i d : Nat) : Bool := if d < n * n * n ∧ side n d a = n - 1 - i then decide (srcO n (mT n a i) d = some (imv n a false d)) && decide (side n (imv n a false d) a = i) else (match srcO n (mT n a i) d with | some e => !decide (side n e a = i) | none => true)
theorem mtb_t {n : Nat} (hn : Sz n) {a i d : Nat} (ha : a < 3) (hi : i < n) (hd : d < 64) : mtb n a i d = true := by
  rcases hn with rfl | rfl | rfl
  · exact (by decide +kernel : ∀ a, a < 3 → ∀ i, i < 2 → ∀ d, d < 64 → mtb 2 a i d = true) a ha i hi d hd
  · exact (by decide +kernel : ∀ a, a < 3 → ∀ i, i < 3 → ∀ d, d < 64 → mtb 3 a i d = true) a ha i hi d hd
  · exact (by decide +kernel : ∀ a, a < 3 → ∀ i, i < 4 → ∀ d, d < 64 → mtb 4 a i d = true) a ha i hi d hd
def ttb (n a i j d : Nat) : Bool := if d < n * n * n ∧ side n d (uu a) = j ∧ side n d (vv a) = n - 1 - i then decide (srcO n (tT n a i j) d = some (imv n a true d)) && (decide (side n (imv n a true d) (uu a) = i) && decide (side n (imv n a true d) (vv a) = j)) else (match srcO n (tT n a i j) d with | some e => !(decide (side n e (uu a) = i) && decide (side n e (vv a) = j)) | none => true)
theorem ttb_t {n : Nat} (hn : Sz n) {a i j d : Nat} (ha : a < 3) (hi : i < n) (hj : j < n) (hd : d < 64) : ttb n a i j d = true := by
  rcases hn with rfl | rfl | rfl
  · exact (by decide +kernel : ∀ a, a < 3 → ∀ i, i < 2 → ∀ j, j < 2 → ∀ d, d < 64 → ttb 2 a i j d = true) a ha i hi j hj d hd
  · exact (by decide +kernel : ∀ a, a < 3 → ∀ i, i < 3 → ∀ j, j < 3 → ∀ d, d < 64 → ttb 3 a i j d = true) a ha i hi j hj d hd
  · exact (by decide +kernel : ∀ a, a < 3 → ∀ i, i < 4 → ∀ j, j < 4 → ∀ d, d < 64 → ttb 4 a i j d = true) a ha i hi j hj d hd
theorem tb_msh {n : Nat} (hn : Sz n) {a i d : Nat} (ha : a < 3) (hi : i < n) (hd : d < 64) {x : Int64} (hx : inB n x) (ht : (mT n a i).natAbs < 64) : tb (shz (x &&& layL n a i) (mT n a i)) d = (decide (d < n * n * n) && (decide (side n d a = n - 1 - i) && tb x (imv n a false d))) := by
  have h := mtb_t hn ha hi hd
  unfold mtb at h
  rw [tb_srcO (inB_and_l hx) ht hd]
  by_cases q : d < n * n * n ∧ side n d a = n - 1 - i
  · rw [if_pos q] at h
    simp only [Bool.and_eq_true, decide_eq_true_iff] at h
    have iv := (imT_t hn ha false q.1).2.1
    rw [h.1, decide_eq_true q.1, decide_eq_true q.2]
    show tb (x &&& layL n a i) (imv n a false d) = _
    rw [tb_and, tb_layL hn, decide_eq_true iv, decide_eq_true h.2]
    simp
  · rw [if_neg q] at h
    have e : (decide (d < n * n * n) && (decide (side n d a = n - 1 - i) && tb x (imv n a false d))) = false := by
      by_cases z : d < n * n * n
      · rw [decide_eq_false (fun w => q ⟨z, w⟩)]; simp
      · rw [decide_eq_false z]; rfl
    rw [e]
    cases w : srcO n (mT n a i) d with
    | none => rfl
    | some c =>
      rw [w] at h
      show tb (x &&& layL n a i) c = false
      rw [tb_and, tb_layL hn]
      have : decide (side n c a = i) = false := by simpa using h
      rw [this]; simp
theorem tb_tsh {n : Nat} (hn : Sz n) {a i j d : Nat} (ha : a < 3) (hi : i < n) (hj : j < n) (hd : d < 64) {x : Int64} (hx : inB n x) (ht : (tT n a i j).natAbs < 64) : tb (shz (x &&& layL n (uu a) i &&& layL n (vv a) j) (tT n a i j)) d = (decide (d < n * n * n) && ((decide (side n d (vv a) = n - 1 - i) && decide (side n d (uu a) = j)) && tb x (imv n a true d))) := by
  have h := ttb_t hn ha hi hj hd
  unfold ttb at h
  rw [tb_srcO (inB_and_l (inB_and_l hx)) ht hd]
  by_cases q : d < n * n * n ∧ side n d (uu a) = j ∧ side n d (vv a) = n - 1 - i
  · rw [if_pos q] at h
    simp only [Bool.and_eq_true, decide_eq_true_iff] at h
    have iv := (imT_t hn ha true q.1).2.1
    rw [h.1, decide_eq_true q.1, decide_eq_true q.2.1, decide_eq_true q.2.2]
    show tb (x &&& layL n (uu a) i &&& layL n (vv a) j) (imv n a true d) = _
    rw [tb_and, tb_and, tb_layL hn, tb_layL hn, decide_eq_true iv, decide_eq_true h.2.1, decide_eq_true h.2.2]
    simp
  · rw [if_neg q] at h
    have e : (decide (d < n * n * n) && ((decide (side n d (vv a) = n - 1 - i) && decide (side n d (uu a) = j)) && tb x (imv n a true d))) = false := by
      by_cases z : d < n * n * n
      · by_cases y : side n d (uu a) = j
        · rw [decide_eq_false (fun w => q ⟨z, y, w⟩)]; simp
        · rw [decide_eq_false y]; simp
      · rw [decide_eq_false z]; rfl
    rw [e]
    cases w : srcO n (tT n a i j) d with
    | none => rfl
    | some c =>
      rw [w] at h
      show tb (x &&& layL n (uu a) i &&& layL n (vv a) j) c = false
      rw [tb_and, tb_and, tb_layL hn, tb_layL hn]
      have h' : (!(decide (side n c (uu a) = i) && decide (side n c (vv a) = j))) = true := h
      have : (decide (side n c (uu a) = i) && decide (side n c (vv a) = j)) = false := by
        cases hh : (decide (side n c (uu a) = i) && decide (side n c (vv a) = j)) with
        | false => rfl
        | true => rw [hh] at h'; cases h'
      cases y : decide (side n c (uu a) = i) with
      | false => simp
      | true =>
        rw [y, Bool.true_and] at this
        rw [this]; simp
theorem okS_lt {v : Int32} {t : Int} (h : okS v t = true) : t.natAbs < 64 := by
  unfold okS at h
  simp only [Bool.and_eq_true, decide_eq_true_iff] at h
  exact h.1.1
def mrr (n a : Nat) (x : Int64) : Nat → Int64
  | 0 => 0
  | i + 1 => mrr n a x i ||| shz (x &&& layL n a i) (mT n a i)
theorem tb_mrr {n : Nat} (hn : Sz n) {a d : Nat} (ha : a < 3) (hd : d < 64) {x : Int64} (hx : inB n x) : ∀ m, m ≤ n → (tb (mrr n a x m) d = true ↔ d < n * n * n ∧ tb x (imv n a false d) = true ∧ ∃ i, i < m ∧ side n d a = n - 1 - i)
  | 0, _ => by
    show tb 0 d = true ↔ _
    rw [tb_0]
    constructor
    · intro h; cases h
    · rintro ⟨_, _, i, h, _⟩; omega
  | m + 1, hm => by
    have ih := tb_mrr hn ha hd hx m (by omega)
    show tb (mrr n a x m ||| shz (x &&& layL n a m) (mT n a m)) d = true ↔ _
    rw [tb_or, Bool.or_eq_true, ih, tb_msh hn ha (by omega) hd hx (okS_lt (mT_ok hn ha (show m < n by omega)))]
    simp only [Bool.and_eq_true, decide_eq_true_iff]
    constructor
    · rintro (⟨h1, h2, i, h3, h4⟩ | ⟨h1, h2, h3⟩)
      · exact ⟨h1, h2, i, by omega, h4⟩
      · exact ⟨h1, h3, m, by omega, h2⟩
    · rintro ⟨h1, h2, i, h3, h4⟩
      rcases Nat.lt_or_ge i m with z | z
      · exact Or.inl ⟨h1, h2, i, z, h4⟩
      · rw [show i = m by omega] at h4; exact Or.inr ⟨h1, h4, h2⟩
theorem X0_mirrored {σ : q_M} {k n a : Nat} {x : Int64} (B : Blk σ k n) (ha : a < 3) (hx : inB n x) : fX0_mirrored k x (nI a) σ = some (imL n a false x, σ) := by
  have hn := B.1
  have n4 := hn.le
  have e : mrr n a x n = imL n a false x := tb_ext fun d hd => by
    rw [Bool.eq_iff_iff, tb_mrr hn ha hd hx n (Nat.le_refl _), tb_imL hn, Bool.and_eq_true, decide_eq_true_iff]
    constructor
    · rintro ⟨h1, h2, _⟩; exact ⟨h1, h2⟩
    · rintro ⟨h1, h2⟩
      have := side_lt hn h1 ha
      exact ⟨h1, h2, n - 1 - side n d a, by omega, by omega⟩
  unfold fX0_mirrored
  rw [← e]
  refine lq2 (fX0_mirrored_c6 k x (nI a)) σ (mrr n a x) n _ (by omega) ?_ ?_
  · intro f i hi
    show fX0_mirrored_c6b k x (nI a) (fX0_mirrored_c6 k x (nI a) f) (mrr n a x i) (nI i) σ = fX0_mirrored_c6 k x (nI a) f (mrr n a x i ||| shz (x &&& layL n a i) (mT n a i)) (nI (i + 1)) σ
    unfold fX0_mirrored_c6b
    rw [B.2.1, if_neg (nI_ge hi (by omega)), X0_layer B ha (by omega), bs, gd ha (by decide), nI_clamp (by omega), B.2.1, B.2.2.2.2.1 a ha, X0_sby (mT_ok hn ha hi), bs, nI_1]
  · intro f
    show fX0_mirrored_c6b k x (nI a) (fX0_mirrored_c6 k x (nI a) f) (mrr n a x n) (nI n) σ = _
    unfold fX0_mirrored_c6b
    rw [B.2.1, if_pos (nI_le (Nat.le_refl _) (by omega))]
def trj (n a : Nat) (x : Int64) (i : Nat) : Nat → Int64
  | 0 => 0
  | j + 1 => trj n a x i j ||| shz (x &&& layL n (uu a) i &&& layL n (vv a) j) (tT n a i j)
def trr (n a : Nat) (x : Int64) : Nat → Int64
  | 0 => 0
  | i + 1 => trr n a x i ||| trj n a x i n
theorem uv_lt {a : Nat} (ha : a < 3) : uu a < 3 ∧ vv a < 3 := (by decide +kernel : ∀ a, a < 3 → uu a < 3 ∧ vv a < 3) a ha
theorem tb_trj {n : Nat} (hn : Sz n) {a d i : Nat} (ha : a < 3) (hi : i < n) (hd : d < 64) {x : Int64} (hx : inB n x) : ∀ m, m ≤ n → (tb (trj n a x i m) d = true ↔ d < n * n * n ∧ tb x (imv n a true d) = true ∧ side n d (vv a) = n - 1 - i ∧ side n d (uu a) < m)
  | 0, _ => by
    show tb 0 d = true ↔ _
    rw [tb_0]
    constructor
    · intro h; cases h
    · rintro ⟨_, _, _, h⟩; omega
  | m + 1, hm => by
    have ih := tb_trj hn ha hi hd hx m (by omega)
    show tb (trj n a x i m ||| shz (x &&& layL n (uu a) i &&& layL n (vv a) m) (tT n a i m)) d = true ↔ _
    rw [tb_or, Bool.or_eq_true, ih, tb_tsh hn ha hi (by omega) hd hx (okS_lt (tT_ok hn ha hi (show m < n by omega)))]
    simp only [Bool.and_eq_true, decide_eq_true_iff]
    constructor
    · rintro (⟨h1, h2, h3, h4⟩ | ⟨h1, ⟨h2, h3⟩, h4⟩)
      · exact ⟨h1, h2, h3, by omega⟩
      · exact ⟨h1, h4, h2, by omega⟩
    · rintro ⟨h1, h2, h3, h4⟩
      rcases Nat.lt_or_ge (side n d (uu a)) m with z | z
      · exact Or.inl ⟨h1, h2, h3, z⟩
      · exact Or.inr ⟨h1, ⟨h3, by omega⟩, h2⟩
theorem tb_trr {n : Nat} (hn : Sz n) {a d : Nat} (ha : a < 3) (hd : d < 64) {x : Int64} (hx : inB n x) : ∀ m, m ≤ n → (tb (trr n a x m) d = true ↔ d < n * n * n ∧ tb x (imv n a true d) = true ∧ ∃ i, i < m ∧ side n d (vv a) = n - 1 - i)
  | 0, _ => by
    show tb 0 d = true ↔ _
    rw [tb_0]
    constructor
    · intro h; cases h
    · rintro ⟨_, _, i, h, _⟩; omega
  | m + 1, hm => by
    have ih := tb_trr hn ha hd hx m (by omega)
    show tb (trr n a x m ||| trj n a x m n) d = true ↔ _
    rw [tb_or, Bool.or_eq_true, ih, tb_trj hn ha (by omega) hd hx n (Nat.le_refl _)]
    constructor
    · rintro (⟨h1, h2, i, h3, h4⟩ | ⟨h1, h2, h3, h4⟩)
      · exact ⟨h1, h2, i, by omega, h4⟩
      · exact ⟨h1, h2, m, by omega, h3⟩
    · rintro ⟨h1, h2, i, h3, h4⟩
      rcases Nat.lt_or_ge i m with z | z
      · exact Or.inl ⟨h1, h2, i, z, h4⟩
      · rw [show i = m by omega] at h4
        exact Or.inr ⟨h1, h2, h4, side_lt hn h1 (uv_lt ha).1⟩
theorem X0_turn41 {σ : q_M} {k n a i : Nat} {x acc : Int64} (B : Blk σ k n) (ha : a < 3) (hi : i < n) (rec29 : Int32 → Int32 → Int64 → Int32 → q_M → Option (Int64 × q_M)) : fX0_turned_c41 k x (nI a) rec29 q_FU (nI (uu a)) (nI (vv a)) acc (nI i) 0 σ = rec29 (nI (uu a)) (nI (vv a)) (acc ||| trj n a x i n) (nI (i + 1)) σ := by
  have hn := B.1
  have n4 := hn.le
  obtain ⟨u3, v3⟩ := uv_lt ha
  have key := lp_run (fun f (j : Nat) => fX0_turned_c41 k x (nI a) rec29 f (nI (uu a)) (nI (vv a)) (acc ||| trj n a x i j) (nI i) (nI j) σ) id n (rec29 (nI (uu a)) (nI (vv a)) (acc ||| trj n a x i n) (nI (i + 1)) σ) ?_ ?_ q_FU (by show _ < 400; omega)
  · have k2 : fX0_turned_c41 k x (nI a) rec29 q_FU (nI (uu a)) (nI (vv a)) (acc ||| trj n a x i 0) (nI i) (nI 0) σ = _ := key
    rw [show acc ||| trj n a x i 0 = acc from or0 acc] at k2
    exact k2
  · intro f j hj
    have hj' : j < n := hj
    show fX0_turned_c41b k x (nI a) rec29 (fX0_turned_c41 k x (nI a) rec29 f) (nI (uu a)) (nI (vv a)) (acc ||| trj n a x i j) (nI i) (nI j) σ = fX0_turned_c41 k x (nI a) rec29 f (nI (uu a)) (nI (vv a)) (acc ||| (trj n a x i j ||| shz (x &&& layL n (uu a) i &&& layL n (vv a) j) (tT n a i j))) (nI i) (nI (j + 1)) σ
    unfold fX0_turned_c41b
    rw [B.2.1, if_neg (nI_ge hj' (by omega)), X0_layer B u3 (by omega), bs, X0_layer B v3 (by omega), bs, gd u3 (by decide), gd v3 (by decide), nI_clamp (show uu a < 2 ^ 31 by omega), nI_clamp (show vv a < 2 ^ 31 by omega), B.2.1, B.2.2.2.2.1 (uu a) u3, B.2.2.2.2.1 (vv a) v3, X0_sby (tT_ok hn ha hi hj'), bs, nI_1, or_as]
  · intro f
    show fX0_turned_c41b k x (nI a) rec29 (fX0_turned_c41 k x (nI a) rec29 f) (nI (uu a)) (nI (vv a)) (acc ||| trj n a x i n) (nI i) (nI n) σ = _
    unfold fX0_turned_c41b
    rw [B.2.1, if_pos (nI_le (Nat.le_refl _) (by omega)), nI_1]
theorem X0_turned {σ : q_M} {k n a : Nat} {x : Int64} (B : Blk σ k n) (ha : a < 3) (hx : inB n x) : fX0_turned k x (nI a) σ = some (imL n a true x, σ) := by
  have hn := B.1
  have n4 := hn.le
  have e : trr n a x n = imL n a true x := tb_ext fun d hd => by
    rw [Bool.eq_iff_iff, tb_trr hn ha hd hx n (Nat.le_refl _), tb_imL hn, Bool.and_eq_true, decide_eq_true_iff]
    constructor
    · rintro ⟨h1, h2, _⟩; exact ⟨h1, h2⟩
    · rintro ⟨h1, h2⟩
      have := side_lt hn h1 (uv_lt ha).2
      exact ⟨h1, h2, n - 1 - side n d (vv a), by omega, by omega⟩
  have c29 : fX0_turned_c29 k x (nI a) q_FU (nI (uu a)) (nI (vv a)) 0 0 σ = some (imL n a true x, σ) := by
    rw [← e]
    refine lp_run (fun f (i : Nat) => fX0_turned_c29 k x (nI a) f (nI (uu a)) (nI (vv a)) (trr n a x i) (nI i) σ) id n _ ?_ ?_ q_FU (by show _ < 400; omega)
    · intro f i hi
      have hi' : i < n := hi
      show fX0_turned_c29b k x (nI a) (fX0_turned_c29 k x (nI a) f) (nI (uu a)) (nI (vv a)) (trr n a x i) (nI i) σ = fX0_turned_c29 k x (nI a) f (nI (uu a)) (nI (vv a)) (trr n a x i ||| trj n a x i n) (nI (i + 1)) σ
      unfold fX0_turned_c29b
      rw [B.2.1, if_neg (nI_ge hi' (by omega)), X0_turn41 B ha hi']
    · intro f
      show fX0_turned_c29b k x (nI a) (fX0_turned_c29 k x (nI a) f) (nI (uu a)) (nI (vv a)) (trr n a x n) (nI n) σ = _
      unfold fX0_turned_c29b
      rw [B.2.1, if_pos (nI_le (Nat.le_refl _) (by omega))]
  unfold fX0_turned fX0_turned_c9
  rcases (show a = 0 ∨ a = 1 ∨ a = 2 by omega) with rfl | rfl | rfl
  · rw [if_pos (show nI 0 = 0 from rfl), if_neg (show ¬ nI 0 = 2 by decide)]
    exact c29
  · rw [if_neg (show ¬ nI 1 = 0 by decide), if_neg (show ¬ nI 1 = 2 by decide)]
    exact c29
  · rw [if_neg (show ¬ nI 2 = 0 by decide), if_pos (show nI 2 = 2 from rfl)]
    exact c29
