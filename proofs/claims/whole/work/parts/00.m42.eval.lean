/-! Evaluating the functions: indices, small numbers, sets. -/
theorem gd {α : Type} {j n : Nat} {x : Option α} (h : j < n) (hn : n < 2 ^ 31) : (if ¬ (nI j < 0 ∨ n ≤ (nI j).toNatClampNeg) then x else none) = x := if_pos (vp_in_nI h hn)
theorem nI_mul (a b : Nat) : nI a * nI b = nI (a * b) := pk_mul a b
theorem nI_lit (n : Nat) : (OfNat.ofNat n : Int32) = nI n := rfl
theorem b_m1x (x : Int64) (c : Nat) (hc : c < 64) : tb (x ^^^ (-1 : Int64)) c = !tb x c := tb_not hc
/-- the blocks' tables -/
def Blk (σ : q_M) (k n : Nat) : Prop := Sz n ∧ σ.1 k 0 = nI n ∧ σ.1 k 1 = nI (n * n * n) ∧ σ.2 k 2 = allL n ∧ (∀ a, a < 3 → σ.1 (k + 1) a = nI (strd n a)) ∧ (∀ a h, a < 3 → h < 4 → σ.2 (k + 2) (4 * a + h) = layL n a h) ∧ (∀ w, w < 6 → σ.2 (k + 3) w = endL n w)
theorem X0_layer {σ : q_M} {k n a h : Nat} (B : Blk σ k n) (ha : a < 3) (hh : h < 4) : fX0_layer k (nI a) (nI h) σ = some (layL n a h, σ) := by
  unfold fX0_layer
  rw [show (4 : Int32) * nI a + nI h = nI (4 * a + h) from by rw [show (4 : Int32) = nI 4 from rfl, nI_mul, nI_add], gd (by omega) (by decide), nI_clamp (by omega), B.2.2.2.2.2.1 a h ha hh]
theorem tb_layL {n a h c : Nat} (hn : Sz n) : tb (layL n a h) c = (decide (c < n * n * n) && decide (side n c a = h)) := by
  unfold layL
  rw [tb_mkL]
  have := hn.cube
  by_cases q : c < n * n * n
  · simp [q, show c < 64 by omega]
  · simp [q]
theorem tb_allL {n c : Nat} (hn : Sz n) : tb (allL n) c = decide (c < n * n * n) := by
  unfold allL
  rw [tb_mkL]
  have := hn.cube
  by_cases q : c < n * n * n
  · simp [q, show c < 64 by omega]
  · simp [q]
theorem tb_shf {n w c : Nat} (hn : Sz n) (x : Int64) : tb (shf n w x) c = (decide (c < n * n * n) && tbo x (nbr n c (w ^^^ 1))) := by
  unfold shf
  rw [tb_mkL]
  have := hn.cube
  by_cases q : c < n * n * n
  · simp [q, show c < 64 by omega]
  · simp [q]
theorem tb_in {n : Nat} {x : Int64} (hx : inB n x) {c : Nat} (h : ¬ c < n * n * n) : tb x c = false := by
  cases q : tb x c with
  | false => rfl
  | true => exact absurd (hx c q) h
def tm (n c a : Nat) : Bool := if strd n a ≤ c ∧ c - strd n a < n * n * n ∧ side n (c - strd n a) a ≠ n - 1 then decide (c < n * n * n) && decide (nbr n c (2 * a + 1) = some (c - strd n a)) else !decide (c < n * n * n) || decide (nbr n c (2 * a + 1) = none)
def tl (n c a : Nat) : Bool := if strd n a + c < n * n * n ∧ side n (strd n a + c) a ≠ 0 then decide (c < n * n * n) && decide (nbr n c (2 * a) = some (strd n a + c)) else !decide (c < n * n * n) || decide (nbr n c (2 * a) = none)
theorem tm_tab {n : Nat} (hn : Sz n) {c a : Nat} (hc : c < 64) (ha : a < 3) : tm n c a = true := by
  rcases hn with rfl | rfl | rfl
  · exact (by decide +kernel : ∀ c, c < 64 → ∀ a, a < 3 → tm 2 c a = true) c hc a ha
  · exact (by decide +kernel : ∀ c, c < 64 → ∀ a, a < 3 → tm 3 c a = true) c hc a ha
  · exact (by decide +kernel : ∀ c, c < 64 → ∀ a, a < 3 → tm 4 c a = true) c hc a ha
theorem tl_tab {n : Nat} (hn : Sz n) {c a : Nat} (hc : c < 64) (ha : a < 3) : tl n c a = true := by
  rcases hn with rfl | rfl | rfl
  · exact (by decide +kernel : ∀ c, c < 64 → ∀ a, a < 3 → tl 2 c a = true) c hc a ha
  · exact (by decide +kernel : ∀ c, c < 64 → ∀ a, a < 3 → tl 3 c a = true) c hc a ha
  · exact (by decide +kernel : ∀ c, c < 64 → ∀ a, a < 3 → tl 4 c a = true) c hc a ha
theorem tbl_more {n : Nat} (hn : Sz n) {c a : Nat} (hc : c < 64) (ha : a < 3) : ((strd n a ≤ c ∧ c - strd n a < n * n * n ∧ side n (c - strd n a) a ≠ n - 1) → c < n * n * n ∧ nbr n c (2 * a + 1) = some (c - strd n a)) ∧ (¬ (strd n a ≤ c ∧ c - strd n a < n * n * n ∧ side n (c - strd n a) a ≠ n - 1) → ¬ c < n * n * n ∨ nbr n c (2 * a + 1) = none) := by
  have h := tm_tab hn hc ha
  unfold tm at h
  constructor
  · intro z
    rw [if_pos z] at h
    simpa using h
  · intro z
    rw [if_neg z] at h
    simpa using h
theorem tbl_less {n : Nat} (hn : Sz n) {c a : Nat} (hc : c < 64) (ha : a < 3) : ((strd n a + c < n * n * n ∧ side n (strd n a + c) a ≠ 0) → c < n * n * n ∧ nbr n c (2 * a) = some (strd n a + c)) ∧ (¬ (strd n a + c < n * n * n ∧ side n (strd n a + c) a ≠ 0) → ¬ c < n * n * n ∨ nbr n c (2 * a) = none) := by
  have h := tl_tab hn hc ha
  unfold tl at h
  constructor
  · intro z
    rw [if_pos z] at h
    simpa using h
  · intro z
    rw [if_neg z] at h
    simpa using h
theorem strd_lt {n : Nat} (hn : Sz n) {a : Nat} (ha : a < 3) : strd n a < 64 := by
  rcases hn with rfl | rfl | rfl
  · exact (by decide +kernel : ∀ a, a < 3 → strd 2 a < 64) a ha
  · exact (by decide +kernel : ∀ a, a < 3 → strd 3 a < 64) a ha
  · exact (by decide +kernel : ∀ a, a < 3 → strd 4 a < 64) a ha
/-- moving a set by shifting its bits: more, less -/
theorem shl_shf {n a : Nat} (hn : Sz n) (ha : a < 3) {x : Int64} (hx : inB n x) : q_shl (x &&& (endL n (2 * a) ^^^ (-1))) (nI (strd n a)) = shf n (2 * a) x := by
  apply tb_ext
  intro c hc
  rw [tb_shl _ (strd_lt hn ha) hc, tb_and, tb_shf hn, show (2 * a) ^^^ 1 = 2 * a + 1 from (by decide +kernel : ∀ a, a < 3 → (2 * a) ^^^ 1 = 2 * a + 1) a ha]
  have he : endL n (2 * a) = layL n a (n - 1) := by unfold endL; rw [if_pos (by omega)]; congr 1; omega
  rw [he]
  rcases Nat.lt_or_ge c (strd n a) with q | q
  · rcases (tbl_more hn hc ha).2 (fun z => by omega) with z | z
    · simp [z, Nat.not_le.mpr q]
    · rw [z]; simp [tbo, Nat.not_le.mpr q]
  · rw [tb_not (by omega), tb_layL hn]
    by_cases h1 : c - strd n a < n * n * n
    · by_cases h2 : side n (c - strd n a) a = n - 1
      · rcases (tbl_more hn hc ha).2 (fun z => z.2.2 h2) with z | z
        · simp [z, h1, h2]
        · rw [z]; simp [tbo, h1, h2]
      · obtain ⟨z1, z2⟩ := (tbl_more hn hc ha).1 ⟨q, h1, h2⟩
        rw [z2]
        simp [tbo, z1, h1, h2, q]
    · rcases (tbl_more hn hc ha).2 (fun z => h1 z.2.1) with z | z
      · simp [z, tb_in hx h1]
      · rw [z]; simp [tbo, tb_in hx h1]
theorem ushr_shf {n a : Nat} (hn : Sz n) (ha : a < 3) {x : Int64} (hx : inB n x) : q_ushr (x &&& (endL n (2 * a + 1) ^^^ (-1))) (nI (strd n a)) = shf n (2 * a + 1) x := by
  apply tb_ext
  intro c hc
  rw [tb_ushr _ (strd_lt hn ha), tb_and, tb_shf hn, show (2 * a + 1) ^^^ 1 = 2 * a from (by decide +kernel : ∀ a, a < 3 → (2 * a + 1) ^^^ 1 = 2 * a) a ha]
  have he : endL n (2 * a + 1) = layL n a 0 := by unfold endL; rw [if_neg (by omega)]; congr 1; omega
  rw [he]
  by_cases h1 : strd n a + c < n * n * n
  · have hcube := hn.cube
    rw [tb_not (by omega), tb_layL hn]
    by_cases h2 : side n (strd n a + c) a = 0
    · rcases (tbl_less hn hc ha).2 (fun z => z.2 h2) with z | z
      · simp [z, h1, h2]
      · rw [z]; simp [tbo, h1, h2]
    · obtain ⟨z1, z2⟩ := (tbl_less hn hc ha).1 ⟨h1, h2⟩
      rw [z2]
      simp [tbo, z1, h1, h2]
  · rcases (tbl_less hn hc ha).2 (fun z => h1 z.1) with z | z
    · simp [z, tb_in hx h1]
    · rw [z]; simp [tbo, tb_in hx h1]
theorem X0_shifted {σ : q_M} {k n w : Nat} {x : Int64} (B : Blk σ k n) (hw : w < 6) (hx : inB n x) : fX0_shifted k x (nI w) σ = some (shf n w x, σ) := by
  have hn := B.1
  unfold fX0_shifted
  rw [gd hw (by decide), nI_clamp (by omega), B.2.2.2.2.2.2 w hw]
  have h1 : q_sr (nI w) 1 = nI (w / 2) := (by decide +kernel : ∀ w, w < 6 → q_sr (nI w) 1 = nI (w / 2)) w hw
  have h2 : w / 2 < 3 := by omega
  dsimp only [q_let]
  rw [h1, gd h2 (by decide), nI_clamp (by omega), B.2.2.2.2.1 (w / 2) h2]
  rcases Nat.mod_two_eq_zero_or_one w with h | h
  · obtain ⟨a, rfl⟩ : ∃ a, w = 2 * a := ⟨w / 2, by omega⟩
    rw [if_pos ((by decide +kernel : ∀ a, a < 3 → nI (2 * a) &&& 1 = 0) a (by omega)), show 2 * a / 2 = a by omega, shl_shf hn (by omega) hx]
  · obtain ⟨a, rfl⟩ : ∃ a, w = 2 * a + 1 := ⟨w / 2, by omega⟩
    rw [if_neg ((by decide +kernel : ∀ a, a < 3 → ¬ nI (2 * a + 1) &&& 1 = 0) a (by omega)), show (2 * a + 1) / 2 = a by omega, ushr_shf hn (by omega) hx]
