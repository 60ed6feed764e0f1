/-! By which ways the empty cubes could leave. -/
def emp (n : Nat) (x : Int64) : Int64 := allL n &&& (x ^^^ (-1))
theorem tb_emp {n : Nat} (hn : Sz n) {x : Int64} {c : Nat} : tb (emp n x) c = true ↔ c < n * n * n ∧ tb x c = false := by
  have e : emp n x = dif (allL n) x := rfl
  rw [e, tb_dif, tb_allL hn, decide_eq_true_iff]
def frW (n : Nat) (x : Int64) (w : Nat) : Int64 := dif (emp n x) (trk n (w ^^^ 1) x (n - 1))
theorem tb_frW {n : Nat} (hn : Sz n) {x : Int64} {w c : Nat} (hw : w < 6) : tb (frW n x w) c = true ↔ c < n * n * n ∧ tb x c = false ∧ ahead n x c w = false := by
  unfold frW
  rw [tb_dif, tb_emp hn]
  constructor
  · rintro ⟨⟨h1, h2⟩, h3⟩
    rw [tb_trk1 hn hw h1] at h3
    exact ⟨h1, h2, h3⟩
  · rintro ⟨h1, h2, h3⟩
    exact ⟨⟨h1, h2⟩, by rw [tb_trk1 hn hw h1]; exact h3⟩
/-- what the program has looked at -/
def LK (σ : q_M) (n : Nat) (x : Int64) : Prop := σ.2 25 0 = emp n x ∧ ∀ w, w < 6 → σ.2 26 w = frW n x w
theorem X1_look {σ : q_M} {k n : Nat} {x : Int64} (B : Blk σ k n) (hk : k + 3 < 25) (hx : inB n x) : ∃ σ', LK σ' n x ∧ ag (fun c _ => c ≠ 25 ∧ c ≠ 26) σ σ' ∧ σ'.1 = σ.1 ∧ fX1_look k x σ = some σ' := by
  have hn := B.1
  have key := lp_ex (fun f (s : Nat × q_M) => fX1_look_c17 k x f (nI s.1) s.2) (fun i s => s.1 = i ∧ ag (fun c _ => c ≠ 25 ∧ c ≠ 26) σ s.2 ∧ s.2.1 = σ.1 ∧ s.2.2 25 0 = emp n x ∧ ∀ w, w < i → s.2.2 26 w = frW n x w) 6 (fun s => some s.2) ?_ ?_ q_FU (0, q_L σ 25 0 (emp n x)) (by decide) ⟨rfl, ag_L (fun z => z.1 rfl), rfl, L_at, fun w hw => by omega⟩
  · obtain ⟨⟨i, σ'⟩, ⟨e1, e2, e3, e4, e5⟩, e6⟩ := key
    refine ⟨σ', ⟨e4, e5⟩, e2, e3, ?_⟩
    unfold fX1_look
    rw [ql, B.2.2.2.1]
    exact e6
  · rintro f i ⟨j, σ2⟩ hi ⟨rfl, h1, h2, h3, h4⟩
    have hj : j < 6 := hi
    have B2 : Blk σ2 k n := Blk_fr B (fun c e hc => h1 c e (by
      have hc' : k ≤ c ∧ c ≤ k + 3 := hc
      show c ≠ 25 ∧ c ≠ 26
      omega))
    refine ⟨(j + 1, q_L σ2 26 j (frW n x j)), ⟨rfl, ag_tr h1 (ag_L (fun z => z.2 rfl)), h2, ?_, ?_⟩, ?_⟩
    · rw [L_of (by omega)]; exact h3
    · intro w hw
      by_cases q : w = j
      · subst q; exact L_at
      · rw [L_of (fun z => q z.2)]; exact h4 w (by omega)
    · show fX1_look_c17b k x (fX1_look_c17 k x f) (nI j) σ2 = _
      have h3' : σ2.2 25 0 = emp n x := h3
      unfold fX1_look_c17b
      rw [if_neg (show ¬ (6 : Int32) ≤ nI j from nI_ge (a := j) (b := 6) hj (by decide)), X0_behind B2 hj hx, bs, gd hj (by decide), ql, nI_clamp (by omega), nI_1, h3']
      rfl
  · rintro f ⟨j, σ2⟩ ⟨hj, hB⟩
    have hj' : j = 6 := hj
    subst hj'
    show fX1_look_c17b k x (fX1_look_c17 k x f) (nI 6) σ2 = _
    unfold fX1_look_c17b
    rw [if_pos (show (6 : Int32) ≤ nI 6 by decide)]
/-- sets of ways, and of heights, as numbers -/
def wsN (p : Nat → Bool) : Nat → Nat
  | 0 => 0
  | w + 1 => 2 ^ w * (if p w then 1 else 0) + wsN p w
theorem wsN_lt (p : Nat → Bool) : ∀ m, wsN p m < 2 ^ m
  | 0 => by
    show (0 : Nat) < 2 ^ 0
    decide
  | m + 1 => by
    have ih := wsN_lt p m
    unfold wsN
    rw [Nat.pow_succ]
    split <;> omega
theorem wsN_tb (p : Nat → Bool) (w : Nat) : ∀ m, w < m → (wsN p m).testBit w = p w
  | 0, h => by omega
  | m + 1, h => by
    unfold wsN
    rw [Nat.testBit_two_pow_mul_add _ (wsN_lt p m)]
    by_cases q : w < m
    · rw [if_pos q, wsN_tb p w m q]
    · have : w = m := by omega
      subst this
      rw [if_neg q, Nat.sub_self]
      cases p w <;> rfl
theorem wsN_cg {p q : Nat → Bool} : ∀ {m : Nat}, (∀ w, w < m → p w = q w) → wsN p m = wsN q m
  | 0, _ => rfl
  | m + 1, h => by
    unfold wsN
    rw [wsN_cg (fun w hw => h w (by omega)), h m (by omega)]
theorem ws_or : ∀ w, w < 8 → ∀ k, k < 2 ^ w → nI k ||| q_sl 1 (nI w) = nI (2 ^ w * 1 + k) := by decide +kernel
theorem wsN_t {p : Nat → Bool} {w : Nat} (hw : w < 8) (h : p w = true) : nI (wsN p w) ||| q_sl 1 (nI w) = nI (wsN p (w + 1)) := by
  rw [ws_or w hw _ (wsN_lt p w)]
  show _ = nI (2 ^ w * (if p w then 1 else 0) + wsN p w)
  rw [if_pos h]
theorem wsN_f {p : Nat → Bool} {w : Nat} (h : p w = false) : wsN p (w + 1) = wsN p w := by
  show 2 ^ w * (if p w then 1 else 0) + wsN p w = _
  rw [if_neg (by rw [h]; decide), Nat.mul_zero, Nat.zero_add]
theorem orI0 (x : Int32) : x ||| 0 = x := by
  apply Int32.toBitVec_inj.mp
  rw [Int32.toBitVec_or]
  exact BitVec.or_zero
/-- the ways by which a cube is free -/
def fm (n : Nat) (x : Int64) (c : Nat) : Nat := wsN (fun w => !ahead n x c w) 6
theorem fm_lt (n : Nat) (x : Int64) (c : Nat) : fm n x c < 64 := wsN_lt _ 6
theorem fm_tb {n : Nat} {x : Int64} {c w : Nat} (hw : w < 6) : (fm n x c).testBit w = !ahead n x c w := wsN_tb _ w 6 hw
theorem M_free25 {τ : q_M} {n c w : Nat} {x : Int64} {v4 p1 : Int32} (h : MN τ n) (hc : c < n * n * n) (hw : w < 6) (rec6 : Int32 → Int32 → q_M → Option (Int32 × q_M)) : fX9_freeOf_c25 0 p1 x rec6 q_FU v4 (nI w) 1 (wk n c w 1) τ = if ahead n x c w then rec6 v4 (nI (w + 1)) τ else rec6 (v4 ||| q_sl 1 (nI w)) (nI (w + 1)) τ := by
  have hn := h.1
  have h64 := hn.cube
  have n4 := hn.le
  have hl := len_lt hn hc hw
  have key := lp_run (fun f (j : Nat) => fX9_freeOf_c25 0 p1 x rec6 f v4 (nI w) (b1 (!ahd n x c w j)) (wk n c w (j + 1)) τ) id (len n c w) (if ahead n x c w then rec6 v4 (nI (w + 1)) τ else rec6 (v4 ||| q_sl 1 (nI w)) (nI (w + 1)) τ) ?_ ?_ q_FU (by show _ < 400; omega)
  · exact key
  · intro f j hj
    obtain ⟨d, hd, e⟩ := nbi_in hn hc hw (show j + 1 ≤ len n c w by omega)
    show fX9_freeOf_c25b 0 p1 x rec6 (fX9_freeOf_c25 0 p1 x rec6 f) v4 (nI w) (b1 (!ahd n x c w j)) (wk n c w (j + 1)) τ = fX9_freeOf_c25 0 p1 x rec6 f v4 (nI w) (b1 (!(ahd n x c w j || tbo x (nbi n c w (j + 1))))) (wk n c w (j + 1 + 1)) τ
    have h47 : ∀ b : Bool, fX9_freeOf_c47 0 p1 x rec6 (fX9_freeOf_c25 0 p1 x rec6 f) v4 (nI w) (nI d) (b1 (!b)) (b1 (!ahd n x c w j)) τ = fX9_freeOf_c25 0 p1 x rec6 f v4 (nI w) (b1 (!(ahd n x c w j || b))) (wk n c w (j + 1 + 1)) τ := by
      intro b
      unfold fX9_freeOf_c47
      rw [M_from h hd hw, bs, wk_f e]
      cases ahd n x c w j <;> cases b <;> rfl
    unfold fX9_freeOf_c25b
    rw [wk_s e, if_neg (nI_m1 d (by omega)), e]
    show _ = fX9_freeOf_c25 0 p1 x rec6 f v4 (nI w) (b1 (!(ahd n x c w j || tb x d))) (wk n c w (j + 1 + 1)) τ
    cases q : tb x d with
    | false =>
      rw [M_hasF (by omega) q, bs, if_pos rfl]
      exact h47 false
    | true =>
      rw [M_hasT (by omega) q, bs, if_neg b1_ne]
      exact h47 true
  · intro f
    show fX9_freeOf_c25b 0 p1 x rec6 (fX9_freeOf_c25 0 p1 x rec6 f) v4 (nI w) (b1 (!ahead n x c w)) (wk n c w (len n c w + 1)) τ = _
    unfold fX9_freeOf_c25b
    rw [wk_n (nbi_out hn hc hw), if_pos rfl]
    cases q : ahead n x c w with
    | true => rw [if_pos (show b1 (!true) = 0 from rfl), orI0, nI_1, if_pos rfl]
    | false => rw [if_neg (show ¬ b1 (!false) = 0 from b1_ne), ql, nI_1, if_neg (by decide)]
theorem M_freeOf {τ : q_M} {n c : Nat} {x : Int64} (h : MN τ n) (hc : c < n * n * n) : fX9_freeOf 0 (nI c) x τ = some (nI (fm n x c), τ) := by
  unfold fX9_freeOf
  refine lq2 (fX9_freeOf_c6 0 (nI c) x) τ (fun i => nI (wsN (fun w => !ahead n x c w) i)) 6 _ (by decide) ?_ ?_
  · intro f i hi
    show fX9_freeOf_c6b 0 (nI c) x (fX9_freeOf_c6 0 (nI c) x f) (nI (wsN (fun w => !ahead n x c w) i)) (nI i) τ = fX9_freeOf_c6 0 (nI c) x f (nI (wsN (fun w => !ahead n x c w) (i + 1))) (nI (i + 1)) τ
    unfold fX9_freeOf_c6b
    rw [if_neg (show ¬ (6 : Int32) ≤ nI i from nI_ge (a := i) (b := 6) hi (by decide)), M_from h hc hi, bs, wk_1, M_free25 h hc hi]
    cases q : ahead n x c i with
    | true => rw [if_pos rfl, wsN_f (p := fun w => !ahead n x c w) (w := i) (by show (!ahead n x c i) = false; rw [q]; rfl)]
    | false => rw [if_neg (by decide), wsN_t (p := fun w => !ahead n x c w) (w := i) (by omega) (by show (!ahead n x c i) = true; rw [q]; rfl)]
  · intro f
    show fX9_freeOf_c6b 0 (nI c) x (fX9_freeOf_c6 0 (nI c) x f) (nI (wsN (fun w => !ahead n x c w) 6)) (nI 6) τ = _
    unfold fX9_freeOf_c6b
    rw [if_pos (show (6 : Int32) ≤ nI 6 by decide)]
    rfl
theorem X1_waysOf {σ : q_M} {n c : Nat} {x : Int64} (hn : Sz n) (L : LK σ n x) (hc : c < n * n * n) (hx : tb x c = false) : fX1_waysOf (q_shl 1 (nI c)) σ = some (nI (fm n x c), σ) := by
  have h64 := hn.cube
  have hb : ∀ w, w < 6 → ((frW n x w &&& bit c) = 0 ↔ ahead n x c w = true) := by
    intro w hw
    rw [and_bit0 (by omega)]
    constructor
    · intro z
      cases q : ahead n x c w with
      | true => rfl
      | false => rw [(tb_frW hn hw).mpr ⟨hc, hx, q⟩] at z; cases z
    · intro z
      cases q : tb (frW n x w) c with
      | false => rfl
      | true => rw [((tb_frW hn hw).mp q).2.2] at z; cases z
  unfold fX1_waysOf
  refine lq2 (fX1_waysOf_c5 (bit c)) σ (fun i => nI (wsN (fun w => !ahead n x c w) i)) 6 _ (by decide) ?_ ?_
  · intro f i hi
    show fX1_waysOf_c5b (bit c) (fX1_waysOf_c5 (bit c) f) (nI (wsN (fun w => !ahead n x c w) i)) (nI i) σ = fX1_waysOf_c5 (bit c) f (nI (wsN (fun w => !ahead n x c w) (i + 1))) (nI (i + 1)) σ
    unfold fX1_waysOf_c5b
    rw [if_neg (show ¬ (6 : Int32) ≤ nI i from nI_ge (a := i) (b := 6) hi (by decide)), gd hi (by decide), nI_clamp (by omega), L.2 i hi, nI_1]
    cases q : ahead n x c i with
    | true => rw [if_pos ((hb i hi).mpr q), wsN_f (p := fun w => !ahead n x c w) (w := i) (by show (!ahead n x c i) = false; rw [q]; rfl)]
    | false =>
      rw [if_neg (fun z => by rw [(hb i hi).mp z] at q; cases q), ql, wsN_t (p := fun w => !ahead n x c w) (w := i) (by omega) (by show (!ahead n x c i) = true; rw [q]; rfl)]
  · intro f
    show fX1_waysOf_c5b (bit c) (fX1_waysOf_c5 (bit c) f) (nI (wsN (fun w => !ahead n x c w) 6)) (nI 6) σ = _
    unfold fX1_waysOf_c5b
    rw [if_pos (show (6 : Int32) ≤ nI 6 by decide)]
    rfl
/-- what the reference has found -/
def frv (n : Nat) (x : Int64) (c : Nat) : Int32 := if tb x c then -1 else nI (fm n x c)
def FR (τ : q_M) (n : Nat) (x : Int64) : Prop := ∀ c, c < n * n * n → τ.1 16 c = frv n x c
theorem M_findFree {τ : q_M} {n : Nat} {x : Int64} (h : MN τ n) : ∃ τ', FR τ' n x ∧ ag (fun c _ => c ≠ 16) τ τ' ∧ τ'.2 = τ.2 ∧ fX9_findFree 0 x τ = some τ' := by
  have hn := h.1
  have h64 := hn.cube
  have key := lp_ex (fun f (s : Nat × q_M) => fX9_findFree_c2 0 x f (nI s.1) s.2) (fun i s => s.1 = i ∧ ag (fun c _ => c ≠ 16) τ s.2 ∧ s.2.2 = τ.2 ∧ ∀ c, c < i → s.2.1 16 c = frv n x c) (n * n * n) (fun s => some s.2) ?_ ?_ q_FU (0, τ) (by show _ < 400; omega) ⟨rfl, ag_rf _ _, rfl, fun w hw => by omega⟩
  · obtain ⟨⟨i, τ'⟩, ⟨e1, e2, e3, e4⟩, e6⟩ := key
    exact ⟨τ', e4, e2, e3, e6⟩
  · rintro f i ⟨j, τ2⟩ hi ⟨rfl, h1, h2, h3⟩
    have hj : j < n * n * n := hi
    have hN2 : MN τ2 n := ⟨hn, by rw [(h1 0 11 (by show (0 : Nat) ≠ 16; decide)).1]; exact h.2⟩
    refine ⟨(j + 1, q_I τ2 16 j (frv n x j)), ⟨rfl, ag_tr h1 (ag_I (fun z => z rfl)), h2, ?_⟩, ?_⟩
    · intro c hc
      show (q_I τ2 16 j (frv n x j)).1 16 c = frv n x c
      by_cases q : c = j
      · subst q; exact I_at
      · rw [I_of (fun z => q z.2)]; exact h3 c (by omega)
    · show fX9_findFree_c2b 0 x (fX9_findFree_c2 0 x f) (nI j) τ2 = fX9_findFree_c2 0 x f (nI (j + 1)) (q_I τ2 16 j (if tb x j then -1 else nI (fm n x j)))
      unfold fX9_findFree_c2b
      rw [M_many hN2, bs, if_neg (nI_ge hj (by omega))]
      cases q : tb x j with
      | false =>
        rw [M_hasF (by omega) q, bs, if_pos rfl, M_freeOf hN2 hj, bs, gd (show j < 64 by omega) (by decide), ql, nI_clamp (by omega), nI_1, if_neg (by decide)]
      | true =>
        rw [M_hasT (by omega) q, bs, if_neg b1_ne, gd (show j < 64 by omega) (by decide), ql, nI_clamp (by omega), nI_1, if_pos rfl]
  · rintro f ⟨j, τ2⟩ ⟨hj, h1, h2, h3⟩
    have hj' : j = n * n * n := hj
    have hN2 : MN τ2 n := ⟨hn, by rw [(h1 0 11 (by show (0 : Nat) ≠ 16; decide)).1]; exact h.2⟩
    show fX9_findFree_c2b 0 x (fX9_findFree_c2 0 x f) (nI j) τ2 = _
    unfold fX9_findFree_c2b
    rw [M_many hN2, bs, hj', if_pos (nI_le (Nat.le_refl _) (by omega))]
/-- those free by one of some ways -/
def fbo (n : Nat) (x : Int64) (ws : Nat) : Nat → Int64
  | 0 => 0
  | w + 1 => if ws.testBit w then fbo n x ws w ||| frW n x w else fbo n x ws w
theorem tb_fbo {n : Nat} {x : Int64} {ws c : Nat} : ∀ m, (tb (fbo n x ws m) c = true ↔ ∃ w, w < m ∧ ws.testBit w = true ∧ tb (frW n x w) c = true)
  | 0 => by
    show tb 0 c = true ↔ _
    rw [tb_0]
    constructor
    · intro h; cases h
    · rintro ⟨w, h, _⟩; omega
  | m + 1 => by
    have ih := tb_fbo (n := n) (x := x) (ws := ws) (c := c) m
    unfold fbo
    by_cases q : ws.testBit m = true
    · rw [if_pos q, tb_or, Bool.or_eq_true, ih]
      constructor
      · rintro (⟨w, h1, h2, h3⟩ | h)
        · exact ⟨w, by omega, h2, h3⟩
        · exact ⟨m, by omega, q, h⟩
      · rintro ⟨w, h1, h2, h3⟩
        rcases Nat.lt_or_ge w m with z | z
        · exact Or.inl ⟨w, z, h2, h3⟩
        · rw [show w = m by omega] at h3; exact Or.inr h3
    · rw [if_neg q, ih]
      constructor
      · rintro ⟨w, h1, h2, h3⟩
        exact ⟨w, by omega, h2, h3⟩
      · rintro ⟨w, h1, h2, h3⟩
        rcases Nat.lt_or_ge w m with z | z
        · exact ⟨w, z, h2, h3⟩
        · rw [show w = m by omega] at h2; exact absurd h2 q
theorem X1_fbo {σ : q_M} {n ws : Nat} {x : Int64} (L : LK σ n x) (hws : ws < 64) : fX1_freeByOneOf (nI ws) σ = some (fbo n x ws 6, σ) := by
  unfold fX1_freeByOneOf
  refine lq2 (fX1_freeByOneOf_c5 (nI ws)) σ (fbo n x ws) 6 _ (by decide) ?_ ?_
  · intro f i hi
    show fX1_freeByOneOf_c5b (nI ws) (fX1_freeByOneOf_c5 (nI ws) f) (fbo n x ws i) (nI i) σ = fX1_freeByOneOf_c5 (nI ws) f (if ws.testBit i then fbo n x ws i ||| frW n x i else fbo n x ws i) (nI (i + 1)) σ
    unfold fX1_freeByOneOf_c5b
    rw [if_neg (show ¬ (6 : Int32) ≤ nI i from nI_ge (a := i) (b := 6) hi (by decide)), off_tab ws (by omega) i (by omega), nI_1]
    cases q : ws.testBit i with
    | false => rw [if_neg (show ¬ (false = true) by decide), if_pos rfl, if_neg (by decide)]
    | true => rw [if_pos rfl, if_neg b1_ne, gd hi (by decide), ql, nI_clamp (by omega), L.2 i hi, if_pos rfl]
  · intro f
    show fX1_freeByOneOf_c5b (nI ws) (fX1_freeByOneOf_c5 (nI ws) f) (fbo n x ws 6) (nI 6) σ = _
    unfold fX1_freeByOneOf_c5b
    rw [if_pos (show (6 : Int32) ≤ nI 6 by decide)]
def srv (n : Nat) (x : Int64) (ws : Nat) : Bool := decide (fbo n x ws 6 = emp n x)
theorem X1_suffices {σ : q_M} {n ws : Nat} {x : Int64} (L : LK σ n x) (hws : ws < 64) : fX1_suffices (nI ws) σ = some (b1 (srv n x ws), σ) := by
  unfold fX1_suffices srv
  rw [X1_fbo L hws, bs, L.1]
  by_cases q : fbo n x ws 6 = emp n x
  · rw [if_pos q, decide_eq_true q]; rfl
  · rw [if_neg q, decide_eq_false q]; rfl
theorem srv_iff {n : Nat} (hn : Sz n) {x : Int64} {ws : Nat} : srv n x ws = true ↔ ∀ c, c < n * n * n → tb x c = false → ∃ w, w < 6 ∧ ws.testBit w = true ∧ ahead n x c w = false := by
  unfold srv
  rw [decide_eq_true_iff]
  constructor
  · intro h c hc hx
    have h1 : tb (fbo n x ws 6) c = true := by rw [h]; exact (tb_emp hn).mpr ⟨hc, hx⟩
    obtain ⟨w, w1, w2, w3⟩ := (tb_fbo 6).mp h1
    exact ⟨w, w1, w2, ((tb_frW hn w1).mp w3).2.2⟩
  · intro h
    apply sbs_eq
    · intro c hc
      obtain ⟨w, w1, w2, w3⟩ := (tb_fbo 6).mp hc
      obtain ⟨z1, z2, _⟩ := (tb_frW hn w1).mp w3
      exact (tb_emp hn).mpr ⟨z1, z2⟩
    · intro c hc
      obtain ⟨z1, z2⟩ := (tb_emp hn).mp hc
      obtain ⟨w, w1, w2, w3⟩ := h c z1 z2
      exact (tb_fbo 6).mpr ⟨w, w1, w2, (tb_frW hn w1).mpr ⟨z1, z2, w3⟩⟩
theorem and_tab : ∀ a, a < 64 → ∀ b, b < 64 → nI a &&& nI b = nI (a &&& b) := by decide +kernel
theorem and_z {a b : Nat} (ha : a < 64) (hb : b < 64) : nI a &&& nI b = 0 ↔ ∀ w, w < 6 → a.testBit w = true → b.testBit w = false := by
  rw [and_tab a ha b hb]
  have hl : a &&& b < 64 := Nat.lt_of_le_of_lt Nat.and_le_left ha
  constructor
  · intro h w hw h1
    have h2 : a &&& b = 0 := by
      rcases Nat.eq_zero_or_pos (a &&& b) with z | z
      · exact z
      · exact absurd h (nI_ne0 z (by omega))
    have h3 : (a &&& b).testBit w = false := by rw [h2]; exact Nat.zero_testBit w
    rw [Nat.testBit_and, h1, Bool.true_and] at h3
    exact h3
  · intro h
    have h2 : a &&& b = 0 := by
      apply Nat.eq_of_testBit_eq
      intro w
      rw [Nat.testBit_and, Nat.zero_testBit]
      by_cases hw : w < 6
      · cases q : a.testBit w with
        | false => rfl
        | true => rw [h w hw q]; rfl
      · rw [Nat.testBit_lt_two_pow (x := a) (Nat.lt_of_lt_of_le ha (Nat.pow_le_pow_right (n := 2) (by decide) (show 6 ≤ w by omega)))]
        rfl
    rw [h2]
    rfl
theorem fm_m1 (n : Nat) (x : Int64) (c : Nat) : ¬ nI (fm n x c) = -1 := nI_m1 _ (fm_lt n x c)
def svd (n : Nat) (x : Int64) (ws : Nat) : Nat → Nat → Bool
  | 0, _ => true
  | d + 1, i => if tb x i then svd n x ws d (i + 1) else if nI (fm n x i) &&& nI ws = 0 then false else svd n x ws d (i + 1)
theorem svd_iff {n : Nat} {x : Int64} {ws : Nat} : ∀ d i, (svd n x ws d i = true ↔ ∀ c, i ≤ c → c < i + d → tb x c = false → ¬ nI (fm n x c) &&& nI ws = 0)
  | 0, i => ⟨fun _ c h1 h2 => by omega, fun _ => rfl⟩
  | d + 1, i => by
    have ih := svd_iff (n := n) (x := x) (ws := ws) d (i + 1)
    unfold svd
    by_cases q : tb x i = true
    · rw [if_pos q, ih]
      constructor
      · intro h c e1 e2 e3
        rcases Nat.lt_or_ge i c with z | z
        · exact h c (by omega) (by omega) e3
        · rw [show c = i by omega, q] at e3; cases e3
      · intro h c e1 e2 e3
        exact h c (by omega) (by omega) e3
    · rw [if_neg q]
      by_cases z : nI (fm n x i) &&& nI ws = 0
      · rw [if_pos z]
        constructor
        · intro h; cases h
        · intro h
          exact absurd z (h i (Nat.le_refl _) (by omega) (by simpa using q))
      · rw [if_neg z, ih]
        constructor
        · intro h c e1 e2 e3
          rcases Nat.lt_or_ge i c with y | y
          · exact h c (by omega) (by omega) e3
          · rw [show c = i by omega]; exact z
        · intro h c e1 e2 e3
          exact h c (by omega) (by omega) e3
theorem svd_srv {n : Nat} (hn : Sz n) {x : Int64} {ws : Nat} (hws : ws < 64) : svd n x ws (n * n * n) 0 = srv n x ws := by
  rw [Bool.eq_iff_iff, svd_iff, srv_iff hn]
  constructor
  · intro h c hc hx
    have h1 := h c (by omega) (by omega) hx
    rw [and_z (fm_lt n x c) hws] at h1
    rcases Classical.em (∃ w, w < 6 ∧ ws.testBit w = true ∧ ahead n x c w = false) with q | q
    · exact q
    · refine absurd (fun w hw hf => ?_) h1
      cases z : ws.testBit w with
      | false => rfl
      | true =>
        rw [fm_tb hw] at hf
        exact absurd ⟨w, hw, z, by simpa using hf⟩ q
  · intro h c _ hc hx z
    rw [and_z (fm_lt n x c) hws] at z
    obtain ⟨w, w1, w2, w3⟩ := h c (by omega) hx
    have := z w w1 (by rw [fm_tb w1, w3]; rfl)
    rw [w2] at this; cases this
theorem M_doServe {τ : q_M} {n ws : Nat} {x : Int64} (h : MN τ n) (hF : FR τ n x) (hws : ws < 64) : fX9_doServe 0 (nI ws) τ = some (b1 (srv n x ws), τ) := by
  have hn := h.1
  have h64 := hn.cube
  have key : ∀ d i f, i + d = n * n * n → d < f → fX9_doServe_c2 0 (nI ws) f (nI i) τ = some (b1 (svd n x ws d i), τ) := by
    intro d
    induction d with
    | zero =>
      intro i f e1 e2
      obtain ⟨f, rfl⟩ : ∃ z, f = z + 1 := ⟨f - 1, by omega⟩
      have : i = n * n * n := by omega
      subst this
      show fX9_doServe_c2b 0 (nI ws) (fX9_doServe_c2 0 (nI ws) f) (nI (n * n * n)) τ = _
      unfold fX9_doServe_c2b
      rw [M_many h, bs, if_pos (nI_le (Nat.le_refl _) (by omega))]
      rfl
    | succ d ih =>
      intro i f e1 e2
      obtain ⟨f, rfl⟩ : ∃ z, f = z + 1 := ⟨f - 1, by omega⟩
      have hi : i < n * n * n := by omega
      show fX9_doServe_c2b 0 (nI ws) (fX9_doServe_c2 0 (nI ws) f) (nI i) τ = some (b1 (if tb x i then svd n x ws d (i + 1) else if nI (fm n x i) &&& nI ws = 0 then false else svd n x ws d (i + 1)), τ)
      unfold fX9_doServe_c2b
      rw [M_many h, bs, if_neg (nI_ge hi (by omega)), gd (show i < 64 by omega) (by decide), nI_clamp (by omega), show τ.1 (0 + 16) i = frv n x i from hF i hi, nI_1]
      unfold frv
      cases q : tb x i with
      | true =>
        rw [if_pos rfl, if_pos rfl, if_pos rfl]
        exact ih (i + 1) f (by omega) (by omega)
      | false =>
        rw [if_neg (show ¬ (false = true) by decide), if_neg (fm_m1 n x i), gd2 (show i < 64 by omega) (by decide), if_neg (show ¬ (false = true) by decide)]
        by_cases z : nI (fm n x i) &&& nI ws = 0
        · rw [if_pos z, if_pos z]; rfl
        · rw [if_neg z, if_neg z]
          exact ih (i + 1) f (by omega) (by omega)
  unfold fX9_doServe
  rw [← svd_srv hn hws]
  exact key (n * n * n) 0 q_FU (by omega) (by show _ < 400; omega)
/-- the fewest ways -/
def bt (i : Nat) : Option Nat → Bool
  | none => true
  | some b => decide (pop8 i < pop8 b)
def fwb (n : Nat) (x : Int64) : Nat → Option Nat
  | 0 => none
  | i + 1 => if srv n x i && bt i (fwb n x i) then some i else fwb n x i
def obI : Option Nat → Int32
  | none => -1
  | some b => nI b
def obL : Option Nat → Int32
  | none => 7
  | some b => nI (pop8 b)
theorem fwb_lt {n : Nat} {x : Int64} {b : Nat} : ∀ i, fwb n x i = some b → b < i
  | 0, h => by cases h
  | i + 1, h => by
    have h' : (if srv n x i && bt i (fwb n x i) then some i else fwb n x i) = some b := h
    by_cases q : (srv n x i && bt i (fwb n x i)) = true
    · rw [if_pos q] at h'
      have := Option.some.inj h'; omega
    · rw [if_neg q] at h'
      have := fwb_lt i h'; omega
theorem pop_6 : ∀ i, i < 64 → pop8 i ≤ 6 := by decide +kernel
theorem X1_fewest {σ : q_M} {n : Nat} {x : Int64} (L : LK σ n x) : fX1_fewestWays σ = some (obI (fwb n x 64), σ) := by
  unfold fX1_fewestWays
  refine lp_run (fun f (i : Nat) => fX1_fewestWays_c7 f (obI (fwb n x i)) (obL (fwb n x i)) (nI i) σ) id 64 _ ?_ ?_ q_FU (by decide)
  · intro f i hi
    show fX1_fewestWays_c7b (fX1_fewestWays_c7 f) (obI (fwb n x i)) (obL (fwb n x i)) (nI i) σ = fX1_fewestWays_c7 f (obI (fwb n x (i + 1))) (obL (fwb n x (i + 1))) (nI (i + 1)) σ
    have p6 := pop_6 i hi
    unfold fX1_fewestWays_c7b
    rw [if_neg (show ¬ (64 : Int32) ≤ nI i from nI_ge (a := i) (b := 64) hi (by decide)), J_bitsI (by omega), bs, nI_1]
    have hu : fwb n x (i + 1) = if srv n x i && bt i (fwb n x i) then some i else fwb n x i := rfl
    cases q : fwb n x i with
    | none =>
      rw [q] at hu
      rw [if_neg (show ¬ obL none ≤ nI (pop8 i) from nI_ge (a := pop8 i) (b := 7) (by omega) (by decide)), X1_suffices L hi, bs, hu]
      cases z : srv n x i with
      | false => rw [b1_f, if_pos rfl]; rfl
      | true => rw [b1_t, if_neg b1_ne]; rfl
    | some b =>
      rw [q] at hu
      have b6 := pop_6 b (by have := fwb_lt i q; omega)
      by_cases y : pop8 i < pop8 b
      · rw [if_neg (show ¬ obL (some b) ≤ nI (pop8 i) from nI_ge y (by omega)), X1_suffices L hi, bs, hu]
        cases z : srv n x i with
        | false => rw [b1_f, if_pos rfl]; rfl
        | true =>
          rw [b1_t, if_neg b1_ne]
          show _ = fX1_fewestWays_c7 f (obI (if true && decide (pop8 i < pop8 b) then some i else some b)) (obL (if true && decide (pop8 i < pop8 b) then some i else some b)) (nI (i + 1)) σ
          rw [decide_eq_true y]
          rfl
      · rw [if_pos (show obL (some b) ≤ nI (pop8 i) from nI_le (by omega) (by omega)), hu]
        show _ = fX1_fewestWays_c7 f (obI (if srv n x i && decide (pop8 i < pop8 b) then some i else some b)) (obL (if srv n x i && decide (pop8 i < pop8 b) then some i else some b)) (nI (i + 1)) σ
        rw [decide_eq_false y, Bool.and_false]
        rfl
  · intro f
    show fX1_fewestWays_c7b (fX1_fewestWays_c7 f) (obI (fwb n x 64)) (obL (fwb n x 64)) (nI 64) σ = _
    unfold fX1_fewestWays_c7b
    rw [if_pos (show (64 : Int32) ≤ nI 64 by decide)]
theorem M_fewest {τ : q_M} {n : Nat} {x : Int64} (h : MN τ n) (hF : FR τ n x) : fX9_fewestFound 0 τ = some (obI (fwb n x 64), τ) := by
  unfold fX9_fewestFound
  refine lq2 (fX9_fewestFound_c4 0) τ (fun i => obI (fwb n x i)) 64 _ (by decide) ?_ ?_
  · intro f i hi
    show fX9_fewestFound_c4b 0 (fX9_fewestFound_c4 0 f) (obI (fwb n x i)) (nI i) τ = fX9_fewestFound_c4 0 f (obI (fwb n x (i + 1))) (nI (i + 1)) τ
    have p6 := pop_6 i hi
    unfold fX9_fewestFound_c4b
    rw [if_neg (show ¬ (64 : Int32) ≤ nI i from nI_ge (a := i) (b := 64) hi (by decide)), M_doServe h hF hi, bs, nI_1]
    have hu : fwb n x (i + 1) = if srv n x i && bt i (fwb n x i) then some i else fwb n x i := rfl
    cases z : srv n x i with
    | false =>
      rw [z] at hu
      rw [b1_f, if_pos rfl, hu]
      rfl
    | true =>
      rw [z] at hu
      rw [b1_t, if_neg b1_ne]
      cases q : fwb n x i with
      | none =>
        rw [q] at hu
        rw [if_pos (show obI none = -1 from rfl), hu]
        rfl
      | some b =>
        rw [q] at hu
        have b64 : b < 64 := by have := fwb_lt i q; omega
        have b6 := pop_6 b b64
        rw [if_neg (show ¬ obI (some b) = -1 from nI_m1 b b64), nI_l (by omega), M_bits, bs, show (obI (some b)).toInt64 = lN b from nI_l (by omega), M_bits, bs, cnt_lN i (by omega), cnt_lN b (by omega), hu]
        show _ = fX9_fewestFound_c4 0 f (obI (if true && decide (pop8 i < pop8 b) then some i else some b)) (nI (i + 1)) τ
        by_cases y : pop8 i < pop8 b
        · rw [if_neg (show ¬ nI (pop8 b) ≤ nI (pop8 i) from nI_ge y (by omega)), decide_eq_true y]
          rfl
        · rw [if_pos (show nI (pop8 b) ≤ nI (pop8 i) from nI_le (by omega) (by omega)), decide_eq_false y]
          rfl
  · intro f
    show fX9_fewestFound_c4b 0 (fX9_fewestFound_c4 0 f) (obI (fwb n x 64)) (nI 64) τ = _
    unfold fX9_fewestFound_c4b
    rw [if_pos (show (64 : Int32) ≤ nI 64 by decide)]
