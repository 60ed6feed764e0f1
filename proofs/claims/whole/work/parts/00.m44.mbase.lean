/-! Loops; the reference's small functions. -/
theorem bs {α β : Type} (a : α) (f : α → Option β) : (some a).bind f = f a := rfl
theorem lq1 {β : Type} (F : Nat → Int32 → q_M → Option β) (σ : q_M) (N : Nat) (out : Option β) (hN : N < 400) (hs : ∀ n i, i < N → F (n + 1) (nI i) σ = F n (nI (i + 1)) σ) (he : ∀ n, F (n + 1) (nI N) σ = out) : F q_FU 0 σ = out :=
  lp_run (fun n (s : Nat) => F n (nI s) σ) id N out hs he q_FU hN
theorem lq2 {α β : Type} (F : Nat → α → Int32 → q_M → Option β) (σ : q_M) (a : Nat → α) (N : Nat) (out : Option β) (hN : N < 400) (hs : ∀ n i, i < N → F (n + 1) (a i) (nI i) σ = F n (a (i + 1)) (nI (i + 1)) σ) (he : ∀ n, F (n + 1) (a N) (nI N) σ = out) : F q_FU (a 0) 0 σ = out :=
  lp_run (fun n (s : Nat) => F n (a s) (nI s) σ) id N out hs he q_FU hN
theorem or0 (x : Int64) : x ||| 0 = x := tb_ext fun c _ => by rw [tb_or, tb_0, Bool.or_false]
theorem Sz.pos {n : Nat} (h : Sz n) : 0 < n := by rcases h with rfl | rfl | rfl <;> decide
theorem Sz.le {n : Nat} (h : Sz n) : n ≤ 4 := by rcases h with rfl | rfl | rfl <;> decide
theorem Sz.sq {n : Nat} (h : Sz n) : n * n ≤ 16 := by rcases h with rfl | rfl | rfl <;> decide
theorem Sz.sq0 {n : Nat} (h : Sz n) : 0 < n * n := by rcases h with rfl | rfl | rfl <;> decide
theorem Sz.cu0 {n : Nat} (h : Sz n) : 0 < n * n * n := by rcases h with rfl | rfl | rfl <;> decide
/-- the reference's size -/
def MN (τ : q_M) (n : Nat) : Prop := Sz n ∧ τ.1 0 11 = nI n
theorem M_many {τ : q_M} {n : Nat} (h : MN τ n) : fX9_many 0 τ = some (nI (n * n * n), τ) := by
  unfold fX9_many
  rw [h.2, nI_mul, nI_mul]
theorem M_hasT {x : Int64} {c : Nat} (hc : c < 64) (h : tb x c = true) (τ : q_M) : fX9_has x (nI c) τ = some (1, τ) := by
  unfold fX9_has
  rw [if_neg (fun z => by rw [(tb_has x hc).mp z] at h; cases h)]
theorem M_hasF {x : Int64} {c : Nat} (hc : c < 64) (h : tb x c = false) (τ : q_M) : fX9_has x (nI c) τ = some (0, τ) := by
  unfold fX9_has
  rw [if_pos ((tb_has x hc).mpr h)]
theorem M_bits (x : Int64) (τ : q_M) : fX9_bits x τ = some (nI (cnt x), τ) := by
  unfold fX9_bits
  refine lq2 (fX9_bits_c4 x) τ (fun i => nI (ctN (tb x) i)) 64 _ (by decide) ?_ ?_
  · intro n i hi
    show fX9_bits_c4b x (fX9_bits_c4 x n) (nI (ctN (tb x) i)) (nI i) τ = fX9_bits_c4 x n (nI (ctN (tb x) i + (if tb x i then 1 else 0))) (nI (i + 1)) τ
    unfold fX9_bits_c4b
    rw [if_neg (show ¬ (64 : Int32) ≤ nI i from nI_ge (a := i) (b := 64) hi (by decide))]
    cases q : tb x i with
    | false =>
      rw [M_hasF hi q, bs, if_pos rfl, nI_1]
      show fX9_bits_c4 x n (nI (ctN (tb x) i) + nI 0) (nI (i + 1)) τ = _
      rw [nI_add]
      rfl
    | true =>
      rw [M_hasT hi q, bs, if_neg (show ¬ (1 : Int32) = 0 by decide), nI_1, nI_1]
      rfl
  · intro n
    show fX9_bits_c4b x (fX9_bits_c4 x n) (nI (cnt x)) (nI 64) τ = _
    unfold fX9_bits_c4b
    rw [if_pos (show (64 : Int32) ≤ nI 64 by decide)]
theorem M_side {τ : q_M} {n c a : Nat} (h : MN τ n) (hc : c < 64) (ha : a < 3) : fX9_sideOf 0 (nI c) (nI a) τ = some (nI (side n c a), τ) := by
  obtain ⟨hz, hn⟩ := h
  have n0 := hz.pos
  have n4 := hz.le
  have n16 := hz.sq
  unfold fX9_sideOf side
  rw [hn]
  have hne : ¬ nI n = 0 := nI_ne0 n0 (by omega)
  have hne2 : ¬ nI n * nI n = 0 := by rw [pk_mul]; exact nI_ne0 hz.sq0 (by omega)
  rcases (show a = 0 ∨ a = 1 ∨ a = 2 by omega) with rfl | rfl | rfl
  · rw [if_pos (show nI 0 = 0 from rfl), if_pos hne, pk_rem (by omega) n0 (by omega)]
    rfl
  · have := Nat.div_le_self c n
    rw [if_neg (show ¬ nI 1 = 0 by decide), if_pos (show nI 1 = 1 from rfl), if_pos hne, if_pos hne, pk_div (by omega) n0 (by omega), pk_rem (by omega) n0 (by omega)]
    rfl
  · rw [if_neg (show ¬ nI 2 = 0 by decide), if_neg (show ¬ nI 2 = 1 by decide), if_pos hne2, pk_mul, pk_div (by omega) hz.sq0 (by omega)]
    rfl
/-- the cube a way from another one, as the reference names it -/
def frm (n c w : Nat) : Int32 := match nbr n c w with | some d => nI d | none => -1
def pfrom (nn c w sd : Int32) : Int32 :=
  if (w - w / 2 * 2) = 0 then
    (if (w / 2) = 0 then (if sd + 1 < 0 then -1 else (if sd + 1 < nn then c + 1 else -1))
     else if (w / 2) = 1 then (if sd + 1 < 0 then -1 else (if sd + 1 < nn then c + nn else -1))
     else (if sd + 1 < 0 then -1 else (if sd + 1 < nn then c + nn * nn else -1)))
  else
    (if (w / 2) = 0 then (if sd + (-1) < 0 then -1 else (if sd + (-1) < nn then c - 1 else -1))
     else if (w / 2) = 1 then (if sd + (-1) < 0 then -1 else (if sd + (-1) < nn then c - nn else -1))
     else (if sd + (-1) < 0 then -1 else (if sd + (-1) < nn then c - nn * nn else -1)))
theorem from_p {c w sd : Int32} {τ : q_M} (hs : fX9_sideOf 0 c (w / 2) τ = some (sd, τ)) : fX9_from 0 c w τ = some (pfrom (τ.1 0 11) c w sd, τ) := by
  unfold fX9_from
  rw [hs, bs]
  unfold fX9_from_c19 fX9_from_c54 pfrom
  dsimp only
  by_cases h1 : (w - w / 2 * 2) = 0
  · simp only [h1, if_true]
    repeat' split
    all_goals rfl
  · simp only [h1, if_false]
    repeat' split
    all_goals rfl
theorem pfrom_tab {n c w : Nat} (hn : Sz n) (hc : c < n * n * n) (hw : w < 6) : pfrom (nI n) (nI c) (nI w) (nI (side n c (w / 2))) = frm n c w := by
  rcases hn with rfl | rfl | rfl
  · exact (by decide +kernel : ∀ c, c < 2 * 2 * 2 → ∀ w, w < 6 → pfrom (nI 2) (nI c) (nI w) (nI (side 2 c (w / 2))) = frm 2 c w) c hc w hw
  · exact (by decide +kernel : ∀ c, c < 3 * 3 * 3 → ∀ w, w < 6 → pfrom (nI 3) (nI c) (nI w) (nI (side 3 c (w / 2))) = frm 3 c w) c hc w hw
  · exact (by decide +kernel : ∀ c, c < 4 * 4 * 4 → ∀ w, w < 6 → pfrom (nI 4) (nI c) (nI w) (nI (side 4 c (w / 2))) = frm 4 c w) c hc w hw
theorem M_from {τ : q_M} {n c w : Nat} (h : MN τ n) (hc : c < n * n * n) (hw : w < 6) : fX9_from 0 (nI c) (nI w) τ = some (frm n c w, τ) := by
  have h64 := h.1.cube
  have w2 : nI w / 2 = nI (w / 2) := (by decide +kernel : ∀ w, w < 6 → nI w / 2 = nI (w / 2)) w hw
  rw [from_p (sd := nI (side n c (w / 2))) (by rw [w2]; exact M_side h (by omega) (by omega)), h.2, pfrom_tab h.1 hc hw]
theorem frm_some {n c w d : Nat} (h : nbr n c w = some d) : frm n c w = nI d := by unfold frm; rw [h]
theorem frm_none {n c w : Nat} (h : nbr n c w = none) : frm n c w = -1 := by unfold frm; rw [h]
theorem nI_m1 : ∀ d, d < 64 → ¬ nI d = -1 := by decide +kernel
/-- a set gathered cube by cube -/
def mkG (g : Nat → Option Nat) : Nat → Int64
  | 0 => 0
  | c + 1 => match g c with | some d => mkG g c ||| q_shl 1 (nI d) | none => mkG g c
theorem mkG_some {g : Nat → Option Nat} {c d : Nat} (h : g c = some d) : mkG g (c + 1) = mkG g c ||| q_shl 1 (nI d) := by
  show (match g c with | some d => mkG g c ||| q_shl 1 (nI d) | none => mkG g c) = _
  rw [h]
theorem mkG_none {g : Nat → Option Nat} {c : Nat} (h : g c = none) : mkG g (c + 1) = mkG g c := by
  show (match g c with | some d => mkG g c ||| q_shl 1 (nI d) | none => mkG g c) = _
  rw [h]
theorem tb_mkG {g : Nat → Option Nat} : ∀ {m : Nat}, (∀ c d, c < m → g c = some d → d < 64) → ∀ d, (tb (mkG g m) d = true ↔ ∃ c, c < m ∧ g c = some d)
  | 0, _, d => by
    constructor
    · intro h
      have h' : tb 0 d = true := h
      rw [tb_0] at h'; cases h'
    · rintro ⟨c, h, _⟩
      omega
  | m + 1, hg, d => by
    have ih := tb_mkG (g := g) (m := m) (fun c d hc h => hg c d (by omega) h) d
    cases q : g m with
    | none =>
      rw [mkG_none q, ih]
      constructor
      · rintro ⟨c, h1, h2⟩
        exact ⟨c, by omega, h2⟩
      · rintro ⟨c, h1, h2⟩
        rcases Nat.lt_or_ge c m with z | z
        · exact ⟨c, z, h2⟩
        · rw [show c = m by omega, q] at h2; cases h2
    | some e =>
      rw [mkG_some q, tb_or, tb_bit (hg m e (by omega) q), Bool.or_eq_true, ih, decide_eq_true_iff]
      constructor
      · rintro (⟨c, h1, h2⟩ | h)
        · exact ⟨c, by omega, h2⟩
        · exact ⟨m, by omega, by rw [q, h]⟩
      · rintro ⟨c, h1, h2⟩
        rcases Nat.lt_or_ge c m with z | z
        · exact Or.inl ⟨c, z, h2⟩
        · rw [show c = m by omega, q] at h2
          exact Or.inr (Option.some.inj h2).symm
theorem xor11 : ∀ w, w < 6 → w ^^^ 1 ^^^ 1 = w ∧ w ^^^ 1 < 6 := by decide +kernel
theorem mkG_shf {n w : Nat} (hn : Sz n) (hw : w < 6) (x : Int64) : mkG (fun c => if tb x c then nbr n c w else none) (n * n * n) = shf n w x := by
  have h64 := hn.cube
  apply tb_ext
  intro d hd
  rw [Bool.eq_iff_iff, tb_mkG, tb_shf hn]
  · constructor
    · rintro ⟨c, hc, h⟩
      by_cases q : tb x c = true
      · rw [if_pos q] at h
        rw [nbr_back hn hc hw h]
        simp [tbo, nbr_lt hn hc hw h, q]
      · rw [if_neg q] at h; cases h
    · intro h
      rw [Bool.and_eq_true, decide_eq_true_iff] at h
      obtain ⟨h1, h2⟩ := h
      cases q : nbr n d (w ^^^ 1) with
      | none => rw [q] at h2; simp [tbo] at h2
      | some c =>
        rw [q] at h2
        have z := nbr_back hn h1 (xor11 w hw).2 q
        rw [(xor11 w hw).1] at z
        have h2' : tb x c = true := h2
        exact ⟨c, nbr_lt hn h1 (xor11 w hw).2 q, by rw [if_pos h2', z]⟩
  · intro c d hc h
    by_cases q : tb x c = true
    · rw [if_pos q] at h
      have := nbr_lt hn hc hw h
      omega
    · rw [if_neg q] at h; cases h
theorem M_onFrom {τ : q_M} {n w : Nat} (h : MN τ n) (hw : w < 6) (x : Int64) : fX9_onFrom 0 x (nI w) τ = some (shf n w x, τ) := by
  have hn := h.1
  have h64 := hn.cube
  unfold fX9_onFrom
  rw [← mkG_shf hn hw x]
  refine lq2 (fX9_onFrom_c6 0 x (nI w)) τ (mkG (fun c => if tb x c then nbr n c w else none)) (n * n * n) _ (by omega) ?_ ?_
  · intro m i hi
    show fX9_onFrom_c6b 0 x (nI w) (fX9_onFrom_c6 0 x (nI w) m) (mkG (fun c => if tb x c then nbr n c w else none) i) (nI i) τ = _
    unfold fX9_onFrom_c6b
    rw [M_many h, bs, if_neg (nI_ge hi (by omega))]
    cases q : tb x i with
    | false =>
      rw [M_hasF (by omega) q, bs, if_pos rfl]
      unfold fX9_onFrom_c35
      rw [if_pos rfl, or0, nI_1, mkG_none (by rw [q]; rfl)]
    | true =>
      rw [M_hasT (by omega) q, bs, if_neg (show ¬ (1 : Int32) = 0 by decide), M_from h hi hw, bs]
      unfold fX9_onFrom_c35
      cases z : nbr n i w with
      | none =>
        rw [frm_none z, if_pos rfl, or0, nI_1, mkG_none (by rw [q, if_pos rfl, z])]
      | some d =>
        have hd := nbr_lt hn hi hw z
        rw [frm_some z, if_neg (nI_m1 d (by omega)), nI_1, mkG_some (d := d) (by rw [q, if_pos rfl, z])]
        rfl
  · intro m
    show fX9_onFrom_c6b 0 x (nI w) (fX9_onFrom_c6 0 x (nI w) m) _ (nI (n * n * n)) τ = _
    unfold fX9_onFrom_c6b
    rw [M_many h, bs, if_pos (nI_le (Nat.le_refl _) (by omega))]
