/-! Sets of cubes, the block's geometry. -/
/-- a loop that goes through known states -/
theorem lp_run {α β : Type} (F : Nat → α → Option β) (st : Nat → α) (N : Nat) (out : Option β) (hs : ∀ n i, i < N → F (n + 1) (st i) = F n (st (i + 1))) (he : ∀ n, F (n + 1) (st N) = out) : ∀ n, N < n → F n (st 0) = out := by
  have key : ∀ d i n, i + d = N → d < n → F n (st i) = out := by
    intro d
    induction d with
    | zero =>
      intro i n h1 h2
      obtain ⟨n, rfl⟩ : ∃ z, n = z + 1 := ⟨n - 1, by omega⟩
      rw [show i = N by omega]
      exact he n
    | succ d ih =>
      intro i n h1 h2
      obtain ⟨n, rfl⟩ : ∃ z, n = z + 1 := ⟨n - 1, by omega⟩
      rw [hs n i (by omega)]
      exact ih (i + 1) n (by omega) (by omega)
  intro n hn
  exact key N 0 n (by omega) hn
/-- the set of the cubes that p names -/
def mkN (p : Nat → Bool) : Nat → Int64
  | 0 => 0
  | c + 1 => if p c then mkN p c ||| q_shl 1 (nI c) else mkN p c
theorem tb_mkN (p : Nat → Bool) : ∀ (m : Nat), m ≤ 64 → ∀ c, tb (mkN p m) c = (decide (c < m) && p c)
  | 0, _, c => by simp [mkN, tb_0]
  | m + 1, h, c => by
    have ih := tb_mkN p m (by omega) c
    unfold mkN
    by_cases hp : p m = true
    · rw [if_pos hp, tb_or, ih, tb_bit (by omega)]
      by_cases q : c = m
      · subst q; simp [hp]
      · simp [q, show c < m + 1 ↔ c < m by omega]
    · rw [if_neg hp, ih]
      by_cases q : c = m
      · subst q; simp at hp; simp [hp]
      · simp [show c < m + 1 ↔ c < m by omega]
def mkL (p : Nat → Bool) : Int64 := mkN p 64
theorem tb_mkL (p : Nat → Bool) (c : Nat) : tb (mkL p) c = (decide (c < 64) && p c) := tb_mkN p 64 (Nat.le_refl _) c
theorem mkL_tb (x : Int64) : mkL (tb x) = x := tb_ext fun c hc => by rw [tb_mkL]; simp [hc]
theorem mkL_congr {p q : Nat → Bool} (h : ∀ c, c < 64 → p c = q c) : mkL p = mkL q := tb_ext fun c hc => by rw [tb_mkL, tb_mkL, h c hc]
/-- the sizes -/
def Sz (n : Nat) : Prop := n = 2 ∨ n = 3 ∨ n = 4
theorem Sz.cube {n : Nat} (h : Sz n) : n * n * n ≤ 64 := by rcases h with rfl | rfl | rfl <;> decide
def side (n c a : Nat) : Nat := if a = 0 then c % n else if a = 1 then c / n % n else c / (n * n)
def strd (n a : Nat) : Nat := if a = 0 then 1 else if a = 1 then n else n * n
/-- the cube a way from another one -/
def nbr (n c w : Nat) : Option Nat :=
  if w % 2 = 0 then (if side n c (w / 2) + 1 < n then some (c + strd n (w / 2)) else none) else (if 0 < side n c (w / 2) then some (c - strd n (w / 2)) else none)
/-- sets within the block -/
def allL (n : Nat) : Int64 := mkL fun c => decide (c < n * n * n)
def inB (n : Nat) (x : Int64) : Prop := ∀ c, tb x c = true → c < n * n * n
theorem inB_and_all {n : Nat} (h : Sz n) {x : Int64} : inB n (x &&& allL n) := by
  intro c hc
  rw [tb_and, allL, tb_mkL] at hc
  simp at hc
  exact hc.2.2
theorem inB_or {n : Nat} {x y : Int64} (hx : inB n x) (hy : inB n y) : inB n (x ||| y) := by
  intro c hc
  rw [tb_or] at hc
  simp at hc
  rcases hc with h | h
  · exact hx c h
  · exact hy c h
theorem inB_and_l {n : Nat} {x y : Int64} (hx : inB n x) : inB n (x &&& y) := by
  intro c hc
  rw [tb_and] at hc
  simp at hc
  exact hx c hc.1
theorem inB_and_r {n : Nat} {x y : Int64} (hy : inB n y) : inB n (x &&& y) := by
  intro c hc
  rw [tb_and] at hc
  simp at hc
  exact hy c hc.2
theorem inB_0 (n : Nat) : inB n 0 := fun c hc => by rw [tb_0] at hc; cases hc
theorem inB_mk {n : Nat} {p : Nat → Bool} (h : ∀ c, p c = true → c < n * n * n) : inB n (mkL p) := by
  intro c hc
  rw [tb_mkL] at hc
  simp at hc
  exact h c hc.2
def tbo (x : Int64) : Option Nat → Bool
  | some d => tb x d
  | none => false
/-- a set a step on by a way; what leaves the block is gone -/
def shf (n w : Nat) (x : Int64) : Int64 := mkL fun c => decide (c < n * n * n) && tbo x (nbr n c (w ^^^ 1))
theorem inB_shf (n w : Nat) (x : Int64) : inB n (shf n w x) := inB_mk fun c hc => by
  simp at hc
  exact hc.1
def layL (n a h : Nat) : Int64 := mkL fun c => decide (c < n * n * n) && decide (side n c a = h)
def endL (n w : Nat) : Int64 := if w % 2 = 0 then layL n (w / 2) (n - 1) else layL n (w / 2) 0
theorem nbr_lt {n : Nat} (hn : Sz n) {c w d : Nat} (hc : c < n * n * n) (hw : w < 6) (h : nbr n c w = some d) : d < n * n * n := by
  rcases hn with rfl | rfl | rfl
  · exact (by decide +kernel : ∀ c, c < 2 * 2 * 2 → ∀ w, w < 6 → ∀ d, d ∈ nbr 2 c w → d < 2 * 2 * 2) c hc w hw d h
  · exact (by decide +kernel : ∀ c, c < 3 * 3 * 3 → ∀ w, w < 6 → ∀ d, d ∈ nbr 3 c w → d < 3 * 3 * 3) c hc w hw d h
  · exact (by decide +kernel : ∀ c, c < 4 * 4 * 4 → ∀ w, w < 6 → ∀ d, d ∈ nbr 4 c w → d < 4 * 4 * 4) c hc w hw d h
/-- there and back -/
theorem nbr_back {n : Nat} (hn : Sz n) {c w d : Nat} (hc : c < n * n * n) (hw : w < 6) (h : nbr n c w = some d) : nbr n d (w ^^^ 1) = some c := by
  rcases hn with rfl | rfl | rfl
  · exact (by decide +kernel : ∀ c, c < 2 * 2 * 2 → ∀ w, w < 6 → ∀ d, d ∈ nbr 2 c w → nbr 2 d (w ^^^ 1) = some c) c hc w hw d h
  · exact (by decide +kernel : ∀ c, c < 3 * 3 * 3 → ∀ w, w < 6 → ∀ d, d ∈ nbr 3 c w → nbr 3 d (w ^^^ 1) = some c) c hc w hw d h
  · exact (by decide +kernel : ∀ c, c < 4 * 4 * 4 → ∀ w, w < 6 → ∀ d, d ∈ nbr 4 c w → nbr 4 d (w ^^^ 1) = some c) c hc w hw d h
