/-! Operations: halves, line, cut, best, tunnels, thin. -/
theorem tb_trkB {n w : Nat} {x : Int64} (hx : inB n x) : ∀ m, inB n (trk n w x m)
  | 0 => inB_0 n
  | m + 1 => inB_or (tb_trkB hx m) (inB_shfs hx (m + 1))
/-- no gap along an axis -/
def lnG (n : Nat) (x : Int64) (a c : Nat) : Bool := !tb x c && (ahead n x c (2 * a) && ahead n x c (2 * a + 1))
def lnA (n : Nat) (x : Int64) (a : Nat) : Nat → Nat → Bool
  | 0, _ => true
  | d + 1, i => !lnG n x a i && lnA n x a d (i + 1)
theorem lnA_iff {n : Nat} {x : Int64} {a : Nat} : ∀ d i, (lnA n x a d i = true ↔ ∀ c, i ≤ c → c < i + d → lnG n x a c = false)
  | 0, i => ⟨fun _ c h1 h2 => by omega, fun _ => rfl⟩
  | d + 1, i => by
    have ih := lnA_iff (n := n) (x := x) (a := a) d (i + 1)
    show (!lnG n x a i && lnA n x a d (i + 1)) = true ↔ _
    rw [Bool.and_eq_true, ih]
    constructor
    · rintro ⟨h1, h2⟩ c e1 e2
      rcases Nat.lt_or_ge i c with z | z
      · exact h2 c (by omega) (by omega)
      · rw [show c = i by omega]; simpa using h1
    · intro h
      exact ⟨by rw [h i (Nat.le_refl _) (by omega)]; rfl, fun c e1 e2 => h c (by omega) (by omega)⟩
theorem M_line88 {τ : q_M} {n c a : Nat} {v3 : Int32} (h : MN τ n) (hc : c < n * n * n) (ha : a < 3) (rec21 : Int32 → q_M → Option (Int32 × q_M)) : fX9_line_c88 0 (nI a) rec21 q_FU (nI c) v3 0 (wk n c (2 * a + 1) 1) τ = if tb (τ.2 0 12) c then rec21 (nI (c + 1)) τ else if v3 = 0 then rec21 (nI (c + 1)) τ else if ahead n (τ.2 0 12) c (2 * a + 1) then some (0, τ) else rec21 (nI (c + 1)) τ := by
  have hn := h.1
  have h64 := hn.cube
  have n4 := hn.le
  have hw : 2 * a + 1 < 6 := by omega
  have hl := len_lt hn hc hw
  have e2 : (2 : Int32) * nI a + 1 = nI (2 * a + 1) := by rw [show (2 : Int32) * nI a = nI (2 * a) from nI_mul 2 a, nI_1]
  refine lp_run (fun f (j : Nat) => fX9_line_c88 0 (nI a) rec21 f (nI c) v3 (b1 (ahd n (τ.2 0 12) c (2 * a + 1) j)) (wk n c (2 * a + 1) (j + 1)) τ) id (len n c (2 * a + 1)) _ ?_ ?_ q_FU (by show _ < 400; omega)
  · intro f j hj
    obtain ⟨d, hd, e⟩ := nbi_in hn hc hw (show j + 1 ≤ len n c (2 * a + 1) by omega)
    show fX9_line_c88b 0 (nI a) rec21 (fX9_line_c88 0 (nI a) rec21 f) (nI c) v3 (b1 (ahd n (τ.2 0 12) c (2 * a + 1) j)) (wk n c (2 * a + 1) (j + 1)) τ = fX9_line_c88 0 (nI a) rec21 f (nI c) v3 (b1 (ahd n (τ.2 0 12) c (2 * a + 1) j || tbo (τ.2 0 12) (nbi n c (2 * a + 1) (j + 1)))) (wk n c (2 * a + 1) (j + 1 + 1)) τ
    unfold fX9_line_c88b
    rw [wk_s e, if_neg (nI_m1 d (by omega)), M_has (by omega), bs, e2, M_from h hd hw, bs, wk_f e, e]
    show fX9_line_c88 0 (nI a) rec21 f (nI c) v3 (b1 (ahd n (τ.2 0 12) c (2 * a + 1) j) ||| b1 (tb (τ.2 0 12) d)) _ τ = fX9_line_c88 0 (nI a) rec21 f (nI c) v3 (b1 (ahd n (τ.2 0 12) c (2 * a + 1) j || tb (τ.2 0 12) d)) _ τ
    cases ahd n (τ.2 0 12) c (2 * a + 1) j <;> cases tb (τ.2 0 12) d <;> rfl
  · intro f
    show fX9_line_c88b 0 (nI a) rec21 (fX9_line_c88 0 (nI a) rec21 f) (nI c) v3 (b1 (ahead n (τ.2 0 12) c (2 * a + 1))) (wk n c (2 * a + 1) (len n c (2 * a + 1) + 1)) τ = _
    unfold fX9_line_c88b
    rw [wk_n (nbi_out hn hc hw), if_pos rfl, M_has (by omega), bs, nI_1]
    cases tb (τ.2 0 12) c with
    | true => rw [b1_t, if_neg b1_ne, if_pos rfl]
    | false =>
      rw [b1_f, if_pos rfl, if_neg (show ¬ (false = true) by decide)]
      by_cases z : v3 = 0
      · rw [if_pos z, if_pos z]
      · rw [if_neg z, if_neg z]
        cases ahead n (τ.2 0 12) c (2 * a + 1) with
        | true => rw [b1_t, if_neg b1_ne, if_pos rfl]
        | false => rw [b1_f, if_pos rfl, if_neg (by decide)]
theorem M_line44 {τ : q_M} {n c a : Nat} (h : MN τ n) (hc : c < n * n * n) (ha : a < 3) (rec21 : Int32 → q_M → Option (Int32 × q_M)) : fX9_line_c44 0 (nI a) rec21 q_FU (nI c) 0 0 (wk n c (2 * a) 1) τ = if lnG n (τ.2 0 12) a c then some (0, τ) else rec21 (nI (c + 1)) τ := by
  have hn := h.1
  have h64 := hn.cube
  have n4 := hn.le
  have hw : 2 * a < 6 := by omega
  have hl := len_lt hn hc hw
  have e2 : (2 : Int32) * nI a = nI (2 * a) := nI_mul 2 a
  refine lp_run (fun f (j : Nat) => fX9_line_c44 0 (nI a) rec21 f (nI c) (b1 (ahd n (τ.2 0 12) c (2 * a) j)) 0 (wk n c (2 * a) (j + 1)) τ) id (len n c (2 * a)) _ ?_ ?_ q_FU (by show _ < 400; omega)
  · intro f j hj
    obtain ⟨d, hd, e⟩ := nbi_in hn hc hw (show j + 1 ≤ len n c (2 * a) by omega)
    show fX9_line_c44b 0 (nI a) rec21 (fX9_line_c44 0 (nI a) rec21 f) (nI c) (b1 (ahd n (τ.2 0 12) c (2 * a) j)) 0 (wk n c (2 * a) (j + 1)) τ = fX9_line_c44 0 (nI a) rec21 f (nI c) (b1 (ahd n (τ.2 0 12) c (2 * a) j || tbo (τ.2 0 12) (nbi n c (2 * a) (j + 1)))) 0 (wk n c (2 * a) (j + 1 + 1)) τ
    unfold fX9_line_c44b
    rw [wk_s e, if_neg (nI_m1 d (by omega)), M_has (by omega), bs, e2, M_from h hd hw, bs, wk_f e, e]
    show fX9_line_c44 0 (nI a) rec21 f (nI c) (b1 (ahd n (τ.2 0 12) c (2 * a) j) ||| b1 (tb (τ.2 0 12) d)) 0 _ τ = fX9_line_c44 0 (nI a) rec21 f (nI c) (b1 (ahd n (τ.2 0 12) c (2 * a) j || tb (τ.2 0 12) d)) 0 _ τ
    cases ahd n (τ.2 0 12) c (2 * a) j <;> cases tb (τ.2 0 12) d <;> rfl
  · intro f
    show fX9_line_c44b 0 (nI a) rec21 (fX9_line_c44 0 (nI a) rec21 f) (nI c) (b1 (ahead n (τ.2 0 12) c (2 * a))) 0 (wk n c (2 * a) (len n c (2 * a) + 1)) τ = _
    unfold fX9_line_c44b
    rw [wk_n (nbi_out hn hc hw), if_pos rfl, show (2 : Int32) * nI a + 1 = nI (2 * a + 1) from by rw [e2, nI_1], M_from h hc (by omega), bs, wk_1, M_line88 h hc ha]
    unfold lnG
    cases tb (τ.2 0 12) c <;> cases ahead n (τ.2 0 12) c (2 * a) <;> cases ahead n (τ.2 0 12) c (2 * a + 1) <;> rfl
theorem M_line {τ : q_M} {n a : Nat} (h : MN τ n) (ha : a < 3) : fX9_line_c21 0 (nI a) q_FU 0 τ = some (b1 (lnA n (τ.2 0 12) a (n * n * n) 0), τ) := by
  have hn := h.1
  have h64 := hn.cube
  have key : ∀ d i f, i + d = n * n * n → d < f → fX9_line_c21 0 (nI a) f (nI i) τ = some (b1 (lnA n (τ.2 0 12) a d i), τ) := by
    intro d
    induction d with
    | zero =>
      intro i f e1 e2
      obtain ⟨f, rfl⟩ : ∃ z, f = z + 1 := ⟨f - 1, by omega⟩
      have : i = n * n * n := by omega
      subst this
      show fX9_line_c21b 0 (nI a) (fX9_line_c21 0 (nI a) f) (nI (n * n * n)) τ = _
      unfold fX9_line_c21b
      rw [M_many h, bs, if_pos (nI_le (Nat.le_refl _) (by omega))]
      rfl
    | succ d ih =>
      intro i f e1 e2
      obtain ⟨f, rfl⟩ : ∃ z, f = z + 1 := ⟨f - 1, by omega⟩
      have hi : i < n * n * n := by omega
      show fX9_line_c21b 0 (nI a) (fX9_line_c21 0 (nI a) f) (nI i) τ = some (b1 (!lnG n (τ.2 0 12) a i && lnA n (τ.2 0 12) a d (i + 1)), τ)
      unfold fX9_line_c21b
      rw [M_many h, bs, if_neg (nI_ge hi (by omega)), show (2 : Int32) * nI a = nI (2 * a) from nI_mul 2 a, M_from h hi (by omega), bs, wk_1, M_line44 h hi ha]
      cases lnG n (τ.2 0 12) a i with
      | true => rw [if_pos rfl]; rfl
      | false => rw [if_neg (by decide), ih (i + 1) f (by omega) (by omega)]; rfl
  exact key (n * n * n) 0 q_FU (by omega) (by show _ < 400; omega)
theorem xor_e : ∀ a, a < 3 → (2 * a) ^^^ 1 = 2 * a + 1 ∧ (2 * a + 1) ^^^ 1 = 2 * a := by decide +kernel
theorem op_line : Op_line RR := by
  intro σ τ N x h
  have h0 := h
  obtain ⟨K, A, n, p, o, t, hR⟩ := h
  obtain ⟨h1, h2, h3, h4, _⟩ := hR.2.1
  have hN : MN τ n := ⟨h1.1, h2⟩
  have B : Blk σ 2 n := h1
  have hn := h1.1
  have h64 := hn.cube
  unfold fX8_line fX9_line
  rw [X8_isAxis, bs, M_in2, bs]
  rcases isI_c x (p := 3) (by decide) with q | ⟨a, ha, rfl⟩
  · rw [q, b1_f, if_pos rfl, if_pos rfl, X_bad, bs, M_bad, bs]
    exact ⟨_, _, _, rfl, rfl, RR_rf h0 (by decide)⟩
  · rw [isI_y ha (by decide), b1_t, if_neg b1_ne, if_neg b1_ne, M_line hN ha, show (2 : Int32) * nI a + 1 = nI (2 * a + 1) from by rw [show (2 : Int32) * nI a = nI (2 * a) from nI_mul 2 a, nI_1], show (2 : Int32) * nI a = nI (2 * a) from nI_mul 2 a, h3, X0_behind B (show 2 * a < 6 by omega) h4, bs, h3, X0_behind B (show 2 * a + 1 < 6 by omega) h4, bs, ql, h3]
    have e : (trk n ((2 * a) ^^^ 1) (τ.2 0 12) (n - 1) &&& trk n ((2 * a + 1) ^^^ 1) (τ.2 0 12) (n - 1) &&& (τ.2 0 12 ^^^ (-1))) = 0 ↔ lnA n (τ.2 0 12) a (n * n * n) 0 = true := by
      rw [lnA_iff]
      have e1 : (trk n ((2 * a) ^^^ 1) (τ.2 0 12) (n - 1) &&& trk n ((2 * a + 1) ^^^ 1) (τ.2 0 12) (n - 1) &&& (τ.2 0 12 ^^^ (-1))) = dif (trk n ((2 * a) ^^^ 1) (τ.2 0 12) (n - 1) &&& trk n ((2 * a + 1) ^^^ 1) (τ.2 0 12) (n - 1)) (τ.2 0 12) := rfl
      rw [e1, dif_0]
      constructor
      · intro z c _ hc
        have hc' : c < n * n * n := by omega
        unfold lnG
        cases y : tb (τ.2 0 12) c with
        | true => rfl
        | false =>
          cases y1 : ahead n (τ.2 0 12) c (2 * a) with
          | false => rfl
          | true =>
            cases y2 : ahead n (τ.2 0 12) c (2 * a + 1) with
            | false => rfl
            | true =>
              have := z c (by rw [tb_and, tb_trk1 hn (by omega) hc', tb_trk1 hn (by omega) hc', y1, y2]; rfl)
              rw [y] at this; cases this
      · intro z c hc
        have hcn : c < n * n * n := inB_and_l (tb_trkB h4 (n - 1)) c hc
        rw [tb_and, tb_trk1 hn (by omega) hcn, tb_trk1 hn (by omega) hcn, Bool.and_eq_true] at hc
        have := z c (by omega) (by omega)
        unfold lnG at this
        rw [hc.1, hc.2] at this
        simpa using this
    by_cases z : lnA n (τ.2 0 12) a (n * n * n) 0 = true
    · rw [if_pos (e.mpr z), z]
      exact ⟨1, _, _, rfl, rfl, h0⟩
    · rw [if_neg (fun y => z (e.mp y)), show lnA n (τ.2 0 12) a (n * n * n) 0 = false by simpa using z]
      exact ⟨0, _, _, rfl, rfl, h0⟩
/-- whether a plane does -/
def plG (n : Nat) (x : Int64) (a h c : Nat) : Bool := tb x c || !ahead n x c (2 * a + (if side n c a < h then 1 else 0))
def plA (n : Nat) (x : Int64) (a h : Nat) : Nat → Bool
  | 0 => true
  | i + 1 => plA n x a h i && plG n x a h i
theorem plA_iff {n : Nat} {x : Int64} {a h : Nat} : ∀ m, (plA n x a h m = true ↔ ∀ c, c < m → plG n x a h c = true)
  | 0 => ⟨fun _ c hc => by omega, fun _ => rfl⟩
  | m + 1 => by
    have ih := plA_iff (n := n) (x := x) (a := a) (h := h) m
    show (plA n x a h m && plG n x a h m) = true ↔ _
    rw [Bool.and_eq_true, ih]
    constructor
    · rintro ⟨h1, h2⟩ c hc
      rcases Nat.lt_or_ge c m with z | z
      · exact h1 c z
      · rw [show c = m by omega]; exact h2
    · intro z
      exact ⟨fun c hc => z c (by omega), z m (by omega)⟩
theorem X1_plane {σ : q_M} {n a h : Nat} {x : Int64} (hn : Sz n) (L : LK σ n x) (ha : a < 3) : fX1_planeDoes (nI a) (belL n a h) σ = some (b1 (plA n x a h (n * n * n)), σ) := by
  have h64 := hn.cube
  unfold fX1_planeDoes
  rw [show (2 : Int32) * nI a + 1 = nI (2 * a + 1) from by rw [show (2 : Int32) * nI a = nI (2 * a) from nI_mul 2 a, nI_1], show (2 : Int32) * nI a = nI (2 * a) from nI_mul 2 a, gd (show 2 * a + 1 < 6 by omega) (by decide), gd (show 2 * a < 6 by omega) (by decide), ql, nI_clamp (by omega), nI_clamp (by omega), L.1, L.2 (2 * a) (by omega), L.2 (2 * a + 1) (by omega)]
  have e : (emp n x &&& (belL n a h &&& (frW n x (2 * a + 1) ^^^ (-1)) ||| (belL n a h ^^^ (-1)) &&& (frW n x (2 * a) ^^^ (-1)))) = 0 ↔ plA n x a h (n * n * n) = true := by
    rw [plA_iff, and_0]
    constructor
    · intro z c hc
      unfold plG
      cases q : tb x c with
      | true => rfl
      | false =>
        have z1 := z c ((tb_emp hn).mpr ⟨hc, q⟩)
        rw [tb_or, tb_and, tb_and, tb_not (by omega), tb_not (by omega), tb_not (by omega), tb_belL hn, decide_eq_true hc, Bool.true_and] at z1
        by_cases y : side n c a < h
        · rw [if_pos y]
          rw [decide_eq_true y] at z1
          have : tb (frW n x (2 * a + 1)) c = true := by simpa using z1
          rw [((tb_frW hn (by omega)).mp this).2.2]
          rfl
        · rw [if_neg y]
          rw [decide_eq_false y] at z1
          have : tb (frW n x (2 * a)) c = true := by simpa using z1
          rw [show 2 * a + 0 = 2 * a from rfl, ((tb_frW hn (by omega)).mp this).2.2]
          rfl
    · intro z c hc
      obtain ⟨c1, c2⟩ := (tb_emp hn).mp hc
      have z1 := z c c1
      unfold plG at z1
      rw [c2, Bool.false_or] at z1
      rw [tb_or, tb_and, tb_and, tb_not (by omega), tb_not (by omega), tb_not (by omega), tb_belL hn, decide_eq_true c1, Bool.true_and]
      by_cases y : side n c a < h
      · rw [if_pos y] at z1
        rw [decide_eq_true y, (tb_frW hn (show 2 * a + 1 < 6 by omega)).mpr ⟨c1, c2, by simpa using z1⟩]
        simp
      · rw [if_neg y] at z1
        rw [decide_eq_false y, (tb_frW hn (show 2 * a < 6 by omega)).mpr ⟨c1, c2, by simpa using z1⟩]
        simp
  by_cases z : plA n x a h (n * n * n) = true
  · rw [if_pos (e.mpr z), z]; rfl
  · rw [if_neg (fun y => z (e.mp y)), show plA n x a h (n * n * n) = false by simpa using z]; rfl
theorem M_half45 {τ : q_M} {n a h : Nat} {x : Int64} {v2 : Int32} (hN : MN τ n) (F : FR τ n x) (ha : a < 3) (hh : h ≤ 4) (rec31 : Int32 → Int32 → q_M → Option (Int32 × q_M)) : fX9_halves_c45 0 (nI a) rec31 q_FU v2 (nI h) 1 0 τ = if plA n x a h (n * n * n) then rec31 (v2 ||| q_sl 1 (nI h)) (nI (h + 1)) τ else rec31 v2 (nI (h + 1)) τ := by
  have hn := hN.1
  have h64 := hn.cube
  have n4 := hn.le
  refine lp_run (fun f (j : Nat) => fX9_halves_c45 0 (nI a) rec31 f v2 (nI h) (b1 (plA n x a h j)) (nI j) τ) id (n * n * n) _ ?_ ?_ q_FU (by show _ < 400; omega)
  · intro f j hj
    have hj' : j < n * n * n := hj
    have hs := side_lt hn hj' ha
    show fX9_halves_c45b 0 (nI a) rec31 (fX9_halves_c45 0 (nI a) rec31 f) v2 (nI h) (b1 (plA n x a h j)) (nI j) τ = fX9_halves_c45 0 (nI a) rec31 f v2 (nI h) (b1 (plA n x a h j && plG n x a h j)) (nI (j + 1)) τ
    have h73 : ∀ e, e < 2 → fX9_halves_c73 0 (nI a) rec31 (fX9_halves_c45 0 (nI a) rec31 f) v2 (nI h) (b1 (plA n x a h j)) (nI j) (nI e) ((2 : Int32) * nI a) τ = fX9_halves_c45 0 (nI a) rec31 f v2 (nI h) (b1 (plA n x a h j && (tb x j || !ahead n x j (2 * a + e)))) (nI (j + 1)) τ := by
      intro e he
      unfold fX9_halves_c73
      rw [gd (show j < 64 by omega) (by decide), nI_clamp (by omega), show τ.1 (0 + 16) j = frv n x j from F j hj', nI_1, show (2 : Int32) * nI a + nI e = nI (2 * a + e) from by rw [show (2 : Int32) * nI a = nI (2 * a) from nI_mul 2 a, nI_add]]
      unfold frv
      cases q : tb x j with
      | true =>
        rw [if_pos rfl, if_pos rfl]
        cases plA n x a h j <;> rfl
      | false =>
        have fl := fm_lt n x j
        rw [if_neg (show ¬ (false = true) by decide), if_neg (fm_m1 n x j), gd2 (show j < 64 by omega) (by decide), off_b1 (by omega) (by omega), fm_tb (by omega)]
        cases ahead n x j (2 * a + e) <;> cases plA n x a h j <;> rfl
    unfold fX9_halves_c45b
    rw [M_many hN, bs, if_neg (nI_ge hj' (by omega)), M_side hN (by omega) ha, bs]
    unfold plG
    by_cases y : side n j a < h
    · rw [if_neg (nI_ge y (by omega)), if_pos y]
      exact h73 1 (by decide)
    · rw [if_pos (nI_le (by omega) (by omega)), if_neg y]
      exact h73 0 (by decide)
  · intro f
    show fX9_halves_c45b 0 (nI a) rec31 (fX9_halves_c45 0 (nI a) rec31 f) v2 (nI h) (b1 (plA n x a h (n * n * n))) (nI (n * n * n)) τ = _
    unfold fX9_halves_c45b
    rw [M_many hN, bs, if_pos (nI_le (Nat.le_refl _) (by omega)), nI_1]
    cases plA n x a h (n * n * n) with
    | true => rw [b1_t, if_neg b1_ne, ql, if_pos rfl]
    | false => rw [b1_f, if_pos rfl, orI0, if_neg (by decide)]
theorem op_halves : Op_halves RR := by
  intro σ τ N x h
  have h0 := h
  obtain ⟨K, A, n, p, o, t, hR⟩ := h
  obtain ⟨h1, h2, h3, h4, _⟩ := hR.2.1
  have hN : MN τ n := ⟨h1.1, h2⟩
  have B : Blk σ 2 n := h1
  have hn := h1.1
  have n4 := hn.le
  unfold fX8_halves fX9_halves
  rw [X8_isAxis, bs, M_in2, bs]
  rcases isI_c x (p := 3) (by decide) with q | ⟨a, ha, rfl⟩
  · rw [q, b1_f, if_pos rfl, if_pos rfl, X_bad, bs, M_bad, bs]
    exact ⟨_, _, _, rfl, rfl, RR_rf h0 (by decide)⟩
  · obtain ⟨σ', L, aX, e⟩ := X8_lookF B h4 h3
    obtain ⟨τ', F, hN', aM, e'⟩ := M_find (x := τ.2 0 12) hN
    have B' : Blk σ' 2 n := Blk_fr B (fun c j hc => aX c j (by
      have hc' : 2 ≤ c ∧ c ≤ 2 + 3 := hc
      unfold sX1
      omega))
    rw [isI_y ha (by decide), b1_t, if_neg b1_ne, if_neg b1_ne, e, bs, e', bs]
    refine ⟨nI (wsN (fun i => plA n (τ.2 0 12) a i (n * n * n)) (n + 1)), σ', τ', ?_, ?_, RR_sc h0 aX aM⟩
    · refine lq2 (fX8_halves_c23 (nI a)) σ' (fun i => nI (wsN (fun i => plA n (τ.2 0 12) a i (n * n * n)) i)) (n + 1) _ (by omega) ?_ ?_
      · intro f i hi
        show fX8_halves_c23b (nI a) (fX8_halves_c23 (nI a) f) (nI (wsN (fun i => plA n (τ.2 0 12) a i (n * n * n)) i)) (nI i) σ' = fX8_halves_c23 (nI a) f (nI (wsN (fun i => plA n (τ.2 0 12) a i (n * n * n)) (i + 1))) (nI (i + 1)) σ'
        unfold fX8_halves_c23b
        rw [B'.2.1, if_neg (nI_nlt (by omega) (by omega)), X0_below B' ha (by omega), bs, X1_plane hn L ha, bs, nI_1]
        cases q : plA n (τ.2 0 12) a i (n * n * n) with
        | false => rw [b1_f, if_pos rfl, wsN_f (p := fun i => plA n (τ.2 0 12) a i (n * n * n)) (w := i) q]
        | true => rw [b1_t, if_neg b1_ne, ql, wsN_t (p := fun i => plA n (τ.2 0 12) a i (n * n * n)) (w := i) (by omega) q]
      · intro f
        show fX8_halves_c23b (nI a) (fX8_halves_c23 (nI a) f) (nI (wsN (fun i => plA n (τ.2 0 12) a i (n * n * n)) (n + 1))) (nI (n + 1)) σ' = _
        unfold fX8_halves_c23b
        rw [B'.2.1, if_pos (nI_lt (by omega) (by omega))]
    · refine lq2 (fX9_halves_c31 0 (nI a)) τ' (fun i => nI (wsN (fun i => plA n (τ.2 0 12) a i (n * n * n)) i)) (n + 1) _ (by omega) ?_ ?_
      · intro f i hi
        show fX9_halves_c31b 0 (nI a) (fX9_halves_c31 0 (nI a) f) (nI (wsN (fun i => plA n (τ.2 0 12) a i (n * n * n)) i)) (nI i) τ' = fX9_halves_c31 0 (nI a) f (nI (wsN (fun i => plA n (τ.2 0 12) a i (n * n * n)) (i + 1))) (nI (i + 1)) τ'
        unfold fX9_halves_c31b
        rw [hN'.2, if_neg (nI_nlt (by omega) (by omega)), M_half45 hN' F ha (by omega)]
        cases q : plA n (τ.2 0 12) a i (n * n * n) with
        | false => rw [if_neg (by decide), wsN_f (p := fun i => plA n (τ.2 0 12) a i (n * n * n)) (w := i) q]
        | true => rw [if_pos rfl, wsN_t (p := fun i => plA n (τ.2 0 12) a i (n * n * n)) (w := i) (by omega) q]
      · intro f
        show fX9_halves_c31b 0 (nI a) (fX9_halves_c31 0 (nI a) f) (nI (wsN (fun i => plA n (τ.2 0 12) a i (n * n * n)) (n + 1))) (nI (n + 1)) τ' = _
        unfold fX9_halves_c31b
        rw [hN'.2, if_pos (nI_lt (by omega) (by omega))]
/-- how many ways a part needs -/
def ndO : Option Nat → Int32
  | none => 9
  | some b => nI (pop8 b)
theorem X8_part {σ : q_M} {n : Nat} {x : Int64} (B : Blk σ 2 n) (hx : inB n x) : ∃ σ', ag sX1 σ σ' ∧ fX8_countForPart x σ = some (ndO (fwb n x 64), σ') := by
  obtain ⟨σ', L, aX, e⟩ := X8_look B hx
  refine ⟨σ', aX, ?_⟩
  unfold fX8_countForPart
  rw [e, bs, X1_fewest L, bs]
  cases q : fwb n x 64 with
  | none => rfl
  | some b =>
    have hb := fwb_lt 64 q
    rw [if_neg (show ¬ obI (some b) = -1 from nI_m1 b hb), show fJ6_bitCount_0f7a4 (obI (some b)) σ' = _ from J_bitsI (show b < 256 by omega) σ', bs]
    rfl
theorem M_needs {τ : q_M} {n : Nat} {x : Int64} (h : MN τ n) : ∃ τ', MN τ' n ∧ ag sM1 τ τ' ∧ fX9_needs 0 x τ = some (ndO (fwb n x 64), τ') := by
  obtain ⟨τ', F, hN', aM, e'⟩ := M_find (x := x) h
  refine ⟨τ', hN', aM, ?_⟩
  unfold fX9_needs
  rw [e', bs, M_fewest hN' F, bs]
  cases q : fwb n x 64 with
  | none => rfl
  | some b =>
    have hb := fwb_lt 64 q
    rw [if_neg (show ¬ obI (some b) = -1 from nI_m1 b hb), show (obI (some b)).toInt64 = lN b from nI_l (by omega), M_bits, bs, cnt_lN b (by omega)]
    rfl
theorem blk_sc {σ σ' : q_M} {n : Nat} (B : Blk σ 2 n) (aX : ag sX1 σ σ') : Blk σ' 2 n := Blk_fr B (fun c j hc => aX c j (by
  have hc' : 2 ≤ c ∧ c ≤ 2 + 3 := hc
  unfold sX1
  omega))
theorem fig_X {σ σ' : q_M} (aX : ag sX1 σ σ') : σ'.2 1 1 = σ.2 1 1 := (aX 1 1 (by unfold sX1; omega)).2
theorem fig_M {τ τ' : q_M} (aM : ag sM1 τ τ') : τ'.2 0 12 = τ.2 0 12 := (aM 0 12 (by unfold sM1; omega)).2
theorem X8_cut1 {σ : q_M} {n a h : Nat} (B : Blk σ 2 n) (hx : inB n (σ.2 1 1)) (ha : a < 3) (hh : h ≤ 4) : ∃ σ', ag sX1 σ σ' ∧ fX8_countCut (nI a) (nI h) σ = some (ndO (fwb n (σ.2 1 1 &&& belL n a h) 64) + ndO (fwb n (dif (σ.2 1 1) (belL n a h)) 64), σ') := by
  obtain ⟨σ1, a1, e1⟩ := X8_part B (x := σ.2 1 1 &&& belL n a h) (inB_and_l hx)
  obtain ⟨σ2, a2, e2⟩ := X8_part (blk_sc B a1) (x := dif (σ.2 1 1) (belL n a h)) (sbs_in (dif_sbs _ _) hx)
  refine ⟨σ2, ag_tr a1 a2, ?_⟩
  unfold fX8_countCut
  rw [X0_below B ha hh, bs, e1, bs, fig_X a1, show (σ.2 1 1 &&& (belL n a h ^^^ (-1))) = dif (σ.2 1 1) (belL n a h) from rfl, e2, bs]
theorem cut_mk {n : Nat} (hn : Sz n) {x : Int64} (hx : inB n x) {a h : Nat} : mkN (fun c => tb x c && decide (side n c a < h)) (n * n * n) = x &&& belL n a h := tb_ext fun c _ => by
  rw [tb_mkN _ _ hn.cube, tb_and, tb_belL hn]
  by_cases q : c < n * n * n
  · simp [q]
  · rw [tb_in hx q]; simp
theorem dif_cut (x y : Int64) : dif x (x &&& y) = dif x y := tb_ext fun c _ => by
  rw [Bool.eq_iff_iff, tb_dif, tb_dif, tb_and]
  constructor
  · rintro ⟨h1, h2⟩
    rw [h1, Bool.true_and] at h2
    exact ⟨h1, h2⟩
  · rintro ⟨h1, h2⟩
    exact ⟨h1, by rw [h2, Bool.and_false]⟩
theorem M_cut1 {τ : q_M} {n a h : Nat} (hN : MN τ n) (hx : inB n (τ.2 0 12)) (ha : a < 3) (hh : h ≤ 4) : ∃ τ', MN τ' n ∧ ag sM1 τ τ' ∧ fX9_cutOf 0 (nI a) (nI h) τ = some (ndO (fwb n (τ.2 0 12 &&& belL n a h) 64) + ndO (fwb n (dif (τ.2 0 12) (belL n a h)) 64), τ') := by
  have hn := hN.1
  have h64 := hn.cube
  have n4 := hn.le
  obtain ⟨τ1, N1, a1, e1⟩ := M_needs (x := τ.2 0 12 &&& belL n a h) hN
  obtain ⟨τ2, N2, a2, e2⟩ := M_needs (x := dif (τ.2 0 12) (belL n a h)) N1
  refine ⟨τ2, N2, ag_tr a1 a2, ?_⟩
  unfold fX9_cutOf
  refine lq2 (fX9_cutOf_c5 0 (nI a) (nI h)) τ (mkN (fun c => tb (τ.2 0 12) c && decide (side n c a < h))) (n * n * n) _ (by omega) ?_ ?_
  · intro f i hi
    have hs := side_lt hn hi ha
    show fX9_cutOf_c5b 0 (nI a) (nI h) (fX9_cutOf_c5 0 (nI a) (nI h) f) (mkN (fun c => tb (τ.2 0 12) c && decide (side n c a < h)) i) (nI i) τ = _
    unfold fX9_cutOf_c5b
    rw [M_many hN, bs, if_neg (nI_ge hi (by omega)), nI_1]
    cases q : tb (τ.2 0 12) i with
    | false =>
      rw [M_hasF (by omega) q, bs, if_pos rfl, or0, mkN_f (by rw [q]; rfl)]
    | true =>
      rw [M_hasT (by omega) q, bs, if_neg b1_ne, M_side hN (by omega) ha, bs]
      by_cases y : side n i a < h
      · rw [if_neg (nI_ge y (by omega)), ql, mkN_t (by rw [q, decide_eq_true y]; rfl)]
      · rw [if_pos (nI_le (by omega) (by omega)), or0, mkN_f (by rw [q, decide_eq_false y]; rfl)]
  · intro f
    show fX9_cutOf_c5b 0 (nI a) (nI h) (fX9_cutOf_c5 0 (nI a) (nI h) f) (mkN (fun c => tb (τ.2 0 12) c && decide (side n c a < h)) (n * n * n)) (nI (n * n * n)) τ = _
    unfold fX9_cutOf_c5b
    rw [M_many hN, bs, if_pos (nI_le (Nat.le_refl _) (by omega)), cut_mk hn hx, e1, bs, fig_M a1, show (τ.2 0 12 &&& ((τ.2 0 12 &&& belL n a h) ^^^ (-1))) = dif (τ.2 0 12) (τ.2 0 12 &&& belL n a h) from rfl, dif_cut, e2, bs]
theorem nI_l2 : ∀ n, n < 5 → 2 ≤ n → (nI n - 1).toInt64 = lN (n - 1) := by decide +kernel
theorem op_cut : Op_cut RR := by
  intro σ τ N x y h
  have h0 := h
  obtain ⟨K, A, n, p, o, t, hR⟩ := h
  obtain ⟨h1, h2, h3, h4, _⟩ := hR.2.1
  have hN : MN τ n := ⟨h1.1, h2⟩
  have B : Blk σ 2 n := h1
  have hn := h1.1
  have n4 := hn.le
  have n2 : 2 ≤ n := by rcases hn with rfl | rfl | rfl <;> decide
  unfold fX8_cut fX9_cut
  rw [X8_isAxis, bs, M_in2, bs]
  rcases isI_c x (p := 3) (by decide) with q | ⟨a, ha, rfl⟩
  · rw [q, b1_f, if_pos rfl, if_pos rfl, X_bad, bs, M_bad, bs]
    exact ⟨_, _, _, rfl, rfl, RR_rf h0 (by decide)⟩
  · rw [isI_y ha (by decide), b1_t, if_neg b1_ne, if_neg b1_ne, B.2.1, h2, nI_l2 n (by omega) n2, show (1 : Int64) = lN 1 from rfl, M_inG (by decide) (by omega), bs]
    by_cases q1 : y < 1
    · rw [if_pos q1, show (!decide (y < nI 1) && decide (y ≤ nI (n - 1))) = false by rw [decide_eq_true (show y < nI 1 from q1)]; rfl, b1_f, if_pos rfl, X_bad, bs, M_bad, bs]
      exact ⟨_, _, _, rfl, rfl, RR_rf h0 (by decide)⟩
    · rw [if_neg q1, show decide (y < nI 1) = false from decide_eq_false q1]
      have hle : y ≤ nI (n - 1) ↔ y < nI n := by
        rw [Int32.le_iff_toInt_le, Int32.lt_iff_toInt_lt, nI_toInt (show n - 1 < 2 ^ 31 by omega), nI_toInt (show n < 2 ^ 31 by omega)]
        omega
      by_cases q2 : y < nI n
      · obtain ⟨m, hm, rfl⟩ : ∃ m, m < 2 ^ 31 ∧ y = nI m := nI_of (fun z => q1 (by
          rw [Int32.lt_iff_toInt_lt] at z ⊢
          have e1 : (1 : Int32).toInt = 1 := by decide
          have e0 : (0 : Int32).toInt = 0 := by decide
          omega))
        have mn : m < n := (nI_ltI hm (by omega)).mp q2
        rw [if_pos q2, decide_eq_true (hle.mpr q2), if_neg (show ¬ b1 (!false && true) = 0 from b1_ne)]
        obtain ⟨σ', aX, e⟩ := X8_cut1 B (by rw [h3]; exact h4) ha (show m ≤ 4 by omega)
        obtain ⟨τ', _, aM, e'⟩ := M_cut1 hN h4 ha (show m ≤ 4 by omega)
        rw [e, bs, e', bs, h3]
        exact ⟨_, _, _, rfl, rfl, RR_sc h0 aX aM⟩
      · rw [if_neg q2, decide_eq_false (fun z => q2 (hle.mp z)), if_pos (show b1 (!false && false) = 0 from rfl), X_bad, bs, M_bad, bs]
        exact ⟨_, _, _, rfl, rfl, RR_rf h0 (by decide)⟩
/-- two loops step by step -/
theorem lp_ls {α β γ δ : Type} (F : Nat → α → Option β) (G : Nat → γ → Option δ) (I : Nat → α → γ → Prop) (N : Nat) (F' : α → Option β) (G' : γ → Option δ) (hs : ∀ f g i s t, i < N → I i s t → ∃ s' t', I (i + 1) s' t' ∧ F (f + 1) s = F f s' ∧ G (g + 1) t = G g t') (he : ∀ f g s t, I N s t → F (f + 1) s = F' s ∧ G (g + 1) t = G' t) : ∀ f g s t, N < f → N < g → I 0 s t → ∃ s' t', I N s' t' ∧ F f s = F' s' ∧ G g t = G' t' := by
  have key : ∀ d i f g s t, i + d = N → d < f → d < g → I i s t → ∃ s' t', I N s' t' ∧ F f s = F' s' ∧ G g t = G' t' := by
    intro d
    induction d with
    | zero =>
      intro i f g s t h1 h2 h2' h3
      obtain ⟨f, rfl⟩ : ∃ z, f = z + 1 := ⟨f - 1, by omega⟩
      obtain ⟨g, rfl⟩ : ∃ z, g = z + 1 := ⟨g - 1, by omega⟩
      rw [show i = N by omega] at h3
      exact ⟨s, t, h3, he f g s t h3⟩
    | succ d ih =>
      intro i f g s t h1 h2 h2' h3
      obtain ⟨f, rfl⟩ : ∃ z, f = z + 1 := ⟨f - 1, by omega⟩
      obtain ⟨g, rfl⟩ : ∃ z, g = z + 1 := ⟨g - 1, by omega⟩
      obtain ⟨s1, t1, e1, e2, e3⟩ := hs f g i s t (by omega) h3
      obtain ⟨s2, t2, e4, e5, e6⟩ := ih (i + 1) f g s1 t1 (by omega) (by omega) (by omega) e1
      exact ⟨s2, t2, e4, e2.trans e5, e3.trans e6⟩
  intro f g s t h1 h2 h3
  exact key N 0 f g s t (by omega) h1 h2 h3
theorem best_14 {σ τ : q_M} {n a : Nat} (B : Blk σ 2 n) (hN : MN τ n) (he : σ.2 1 1 = τ.2 0 12) (hx : inB n (τ.2 0 12)) (ha : a < 3) (v1 v2 : Int32) (r6 r6' : Int32 → Int32 → Int32 → q_M → Option (Int32 × q_M)) : ∃ u1 u2 σ' τ', ag sX1 σ σ' ∧ ag sM1 τ τ' ∧ fX8_best_c14 r6 q_FU v1 v2 (nI a) 1 σ = r6 u1 u2 (nI (a + 1)) σ' ∧ fX9_best_c14 0 r6' q_FU v1 v2 (nI a) 1 τ = r6' u1 u2 (nI (a + 1)) τ' := by
  have hn := B.1
  have n4 := hn.le
  have n0 := hn.pos
  have key := lp_ls (fun f (s : Int32 × Int32 × Nat × q_M) => fX8_best_c14 r6 f s.1 s.2.1 (nI a) (nI (s.2.2.1 + 1)) s.2.2.2) (fun f (s : Int32 × Int32 × Nat × q_M) => fX9_best_c14 0 r6' f s.1 s.2.1 (nI a) (nI (s.2.2.1 + 1)) s.2.2.2) (fun i s t => s.1 = t.1 ∧ s.2.1 = t.2.1 ∧ s.2.2.1 = i ∧ t.2.2.1 = i ∧ ag sX1 σ s.2.2.2 ∧ ag sM1 τ t.2.2.2) (n - 1) (fun s => r6 s.1 s.2.1 (nI (a + 1)) s.2.2.2) (fun s => r6' s.1 s.2.1 (nI (a + 1)) s.2.2.2) ?_ ?_ q_FU q_FU (v1, v2, 0, σ) (v1, v2, 0, τ) (by show _ < 400; omega) (by show _ < 400; omega) ⟨rfl, rfl, rfl, rfl, ag_rf _ _, ag_rf _ _⟩
  · obtain ⟨⟨u1, u2, i, σ'⟩, ⟨t1, t2, j, τ'⟩, ⟨e1, e2, _, _, aX, aM⟩, e5, e6⟩ := key
    have e1' : u1 = t1 := e1
    have e2' : u2 = t2 := e2
    subst e1' e2'
    exact ⟨u1, u2, σ', τ', aX, aM, e5, e6⟩
  · rintro f g i ⟨u1, u2, i1, σ1⟩ ⟨t1, t2, j1, τ1⟩ hi ⟨e1, e2, e3, e4, aX, aM⟩
    have e1' : u1 = t1 := e1
    have e2' : u2 = t2 := e2
    have e3' : i1 = i := e3
    have e4' : j1 = i := e4
    have aX' : ag sX1 σ σ1 := aX
    have aM' : ag sM1 τ τ1 := aM
    subst e1' e2' e3' e4'
    have B1 := blk_sc B aX'
    have N1 : MN τ1 n := ⟨hn, by rw [(aM' 0 11 (by unfold sM1; omega)).1]; exact hN.2⟩
    have f1 := fig_X aX'
    have f2 := fig_M aM'
    obtain ⟨σ2, a2, c1⟩ := X8_cut1 B1 (by rw [f1, he]; exact hx) ha (show j1 + 1 ≤ 4 by omega)
    obtain ⟨τ2, N2, m2, c2⟩ := M_cut1 N1 (by rw [f2]; exact hx) ha (show j1 + 1 ≤ 4 by omega)
    rw [f1, he] at c1
    rw [f2] at c2
    by_cases q1 : u1 = -1
    · refine ⟨((10 : Int32) * nI a + nI (j1 + 1), ndO (fwb n (τ.2 0 12 &&& belL n a (j1 + 1)) 64) + ndO (fwb n (dif (τ.2 0 12) (belL n a (j1 + 1))) 64), j1 + 1, σ2), ((10 : Int32) * nI a + nI (j1 + 1), ndO (fwb n (τ.2 0 12 &&& belL n a (j1 + 1)) 64) + ndO (fwb n (dif (τ.2 0 12) (belL n a (j1 + 1))) 64), j1 + 1, τ2), ⟨rfl, rfl, rfl, rfl, ag_tr aX' a2, ag_tr aM' m2⟩, ?_, ?_⟩
      · show fX8_best_c14b r6 (fX8_best_c14 r6 f) u1 u2 (nI a) (nI (j1 + 1)) σ1 = _
        unfold fX8_best_c14b
        rw [B1.2.1, if_neg (nI_ge (show j1 + 1 < n by omega) (by omega)), c1, bs, if_pos q1, nI_1]
      · show fX9_best_c14b 0 r6' (fX9_best_c14 0 r6' g) u1 u2 (nI a) (nI (j1 + 1)) τ1 = _
        unfold fX9_best_c14b
        rw [N1.2, if_neg (nI_ge (show j1 + 1 < n by omega) (by omega)), c2, bs, if_pos q1, nI_1]
    · by_cases q2 : u2 ≤ ndO (fwb n (τ.2 0 12 &&& belL n a (j1 + 1)) 64) + ndO (fwb n (dif (τ.2 0 12) (belL n a (j1 + 1))) 64)
      · refine ⟨(u1, u2, j1 + 1, σ2), (u1, u2, j1 + 1, τ2), ⟨rfl, rfl, rfl, rfl, ag_tr aX' a2, ag_tr aM' m2⟩, ?_, ?_⟩
        · show fX8_best_c14b r6 (fX8_best_c14 r6 f) u1 u2 (nI a) (nI (j1 + 1)) σ1 = _
          unfold fX8_best_c14b
          rw [B1.2.1, if_neg (nI_ge (show j1 + 1 < n by omega) (by omega)), c1, bs, if_neg q1, if_pos q2, nI_1]
        · show fX9_best_c14b 0 r6' (fX9_best_c14 0 r6' g) u1 u2 (nI a) (nI (j1 + 1)) τ1 = _
          unfold fX9_best_c14b
          rw [N1.2, if_neg (nI_ge (show j1 + 1 < n by omega) (by omega)), c2, bs, if_neg q1, if_pos q2, nI_1]
      · refine ⟨((10 : Int32) * nI a + nI (j1 + 1), ndO (fwb n (τ.2 0 12 &&& belL n a (j1 + 1)) 64) + ndO (fwb n (dif (τ.2 0 12) (belL n a (j1 + 1))) 64), j1 + 1, σ2), ((10 : Int32) * nI a + nI (j1 + 1), ndO (fwb n (τ.2 0 12 &&& belL n a (j1 + 1)) 64) + ndO (fwb n (dif (τ.2 0 12) (belL n a (j1 + 1))) 64), j1 + 1, τ2), ⟨rfl, rfl, rfl, rfl, ag_tr aX' a2, ag_tr aM' m2⟩, ?_, ?_⟩
        · show fX8_best_c14b r6 (fX8_best_c14 r6 f) u1 u2 (nI a) (nI (j1 + 1)) σ1 = _
          unfold fX8_best_c14b
          rw [B1.2.1, if_neg (nI_ge (show j1 + 1 < n by omega) (by omega)), c1, bs, if_neg q1, if_neg q2, nI_1]
        · show fX9_best_c14b 0 r6' (fX9_best_c14 0 r6' g) u1 u2 (nI a) (nI (j1 + 1)) τ1 = _
          unfold fX9_best_c14b
          rw [N1.2, if_neg (nI_ge (show j1 + 1 < n by omega) (by omega)), c2, bs, if_neg q1, if_neg q2, nI_1]
  · rintro f g ⟨u1, u2, i1, σ1⟩ ⟨t1, t2, j1, τ1⟩ ⟨e1, e2, e3, e4, aX, aM⟩
    have e3' : i1 = n - 1 := e3
    have e4' : j1 = n - 1 := e4
    have aX' : ag sX1 σ σ1 := aX
    have aM' : ag sM1 τ τ1 := aM
    have B1 := blk_sc B aX'
    have N1 : MN τ1 n := ⟨hn, by rw [(aM' 0 11 (by unfold sM1; omega)).1]; exact hN.2⟩
    refine ⟨?_, ?_⟩
    · show fX8_best_c14b r6 (fX8_best_c14 r6 f) u1 u2 (nI a) (nI (i1 + 1)) σ1 = _
      unfold fX8_best_c14b
      rw [B1.2.1, if_pos (nI_le (show n ≤ i1 + 1 by omega) (by omega)), nI_1]
    · show fX9_best_c14b 0 r6' (fX9_best_c14 0 r6' g) t1 t2 (nI a) (nI (j1 + 1)) τ1 = _
      unfold fX9_best_c14b
      rw [N1.2, if_pos (nI_le (show n ≤ j1 + 1 by omega) (by omega)), nI_1]
theorem op_best : Op_best RR := by
  intro σ τ N h
  have h0 := h
  obtain ⟨K, A, n, p, o, t, hR⟩ := h
  obtain ⟨h1, h2, h3, h4, _⟩ := hR.2.1
  have hN : MN τ n := ⟨h1.1, h2⟩
  have B : Blk σ 2 n := h1
  have key := lp_ls (fun f (s : Int32 × Int32 × Nat × q_M) => fX8_best_c6 f s.1 s.2.1 (nI s.2.2.1) s.2.2.2) (fun f (s : Int32 × Int32 × Nat × q_M) => fX9_best_c6 0 f s.1 s.2.1 (nI s.2.2.1) s.2.2.2) (fun i s t => s.1 = t.1 ∧ s.2.1 = t.2.1 ∧ s.2.2.1 = i ∧ t.2.2.1 = i ∧ ag sX1 σ s.2.2.2 ∧ ag sM1 τ t.2.2.2) 3 (fun s => some (s.1, s.2.2.2)) (fun s => some (s.1, s.2.2.2)) ?_ ?_ q_FU q_FU (-1, 0, 0, σ) (-1, 0, 0, τ) (by decide) (by decide) ⟨rfl, rfl, rfl, rfl, ag_rf _ _, ag_rf _ _⟩
  · obtain ⟨⟨u1, u2, i, σ'⟩, ⟨t1, t2, j, τ'⟩, ⟨e1, e2, _, _, aX, aM⟩, e5, e6⟩ := key
    have e1' : u1 = t1 := e1
    subst e1'
    exact ⟨u1, σ', τ', e5, e6, RR_sc h0 aX aM⟩
  · rintro f g i ⟨u1, u2, i1, σ1⟩ ⟨t1, t2, j1, τ1⟩ hi ⟨e1, e2, e3, e4, aX, aM⟩
    have e1' : u1 = t1 := e1
    have e2' : u2 = t2 := e2
    have e3' : i1 = i := e3
    have e4' : j1 = i := e4
    have aX' : ag sX1 σ σ1 := aX
    have aM' : ag sM1 τ τ1 := aM
    subst e1' e2' e3' e4'
    have N1 : MN τ1 n := ⟨h1.1, by rw [(aM' 0 11 (by unfold sM1; omega)).1]; exact hN.2⟩
    obtain ⟨w1, w2, σ2, τ2, a2, m2, c1, c2⟩ := best_14 (blk_sc B aX') N1 (by rw [fig_X aX', fig_M aM']; exact h3) (by rw [fig_M aM']; exact h4) hi u1 u2 (fX8_best_c6 f) (fX9_best_c6 0 g)
    refine ⟨(w1, w2, j1 + 1, σ2), (w1, w2, j1 + 1, τ2), ⟨rfl, rfl, rfl, rfl, ag_tr aX' a2, ag_tr aM' m2⟩, ?_, ?_⟩
    · show fX8_best_c6b (fX8_best_c6 f) u1 u2 (nI j1) σ1 = _
      unfold fX8_best_c6b
      rw [if_neg (show ¬ (3 : Int32) ≤ nI j1 from nI_ge (a := j1) (b := 3) hi (by decide))]
      exact c1
    · show fX9_best_c6b 0 (fX9_best_c6 0 g) u1 u2 (nI j1) τ1 = _
      unfold fX9_best_c6b
      rw [if_neg (show ¬ (3 : Int32) ≤ nI j1 from nI_ge (a := j1) (b := 3) hi (by decide))]
      exact c2
  · rintro f g ⟨u1, u2, i1, σ1⟩ ⟨t1, t2, j1, τ1⟩ ⟨e1, e2, e3, e4, aX, aM⟩
    have e3' : i1 = 3 := e3
    have e4' : j1 = 3 := e4
    subst e3' e4'
    refine ⟨?_, ?_⟩
    · show fX8_best_c6b (fX8_best_c6 f) u1 u2 (nI 3) σ1 = _
      unfold fX8_best_c6b
      rw [if_pos (show (3 : Int32) ≤ nI 3 by decide)]
    · show fX9_best_c6b 0 (fX9_best_c6 0 g) t1 t2 (nI 3) τ1 = _
      unfold fX9_best_c6b
      rw [if_pos (show (3 : Int32) ≤ nI 3 by decide)]
