/-! Bits of longs. -/
def tb (x : Int64) (c : Nat) : Bool := x.toBitVec.getLsbD c
theorem tb_ext {x y : Int64} (h : ∀ c, c < 64 → tb x c = tb y c) : x = y := Int64.toBitVec_inj.mp (BitVec.eq_of_getLsbD_eq (fun i hi => h i hi))
theorem tb_and (x y : Int64) (c : Nat) : tb (x &&& y) c = (tb x c && tb y c) := by unfold tb; rw [Int64.toBitVec_and, BitVec.getLsbD_and]
theorem tb_or (x y : Int64) (c : Nat) : tb (x ||| y) c = (tb x c || tb y c) := by unfold tb; rw [Int64.toBitVec_or, BitVec.getLsbD_or]
theorem tb_xor (x y : Int64) (c : Nat) : tb (x ^^^ y) c = (tb x c ^^ tb y c) := by unfold tb; rw [Int64.toBitVec_xor, BitVec.getLsbD_xor]
theorem tb_big {x : Int64} {c : Nat} (h : 64 ≤ c) : tb x c = false := BitVec.getLsbD_of_ge _ _ h
theorem tb_lt {x : Int64} {c : Nat} (h : tb x c = true) : c < 64 := by
  rcases Nat.lt_or_ge c 64 with q | q
  · exact q
  · rw [tb_big q] at h; cases h
theorem tb_m1 {c : Nat} (h : c < 64) : tb (-1) c = true := (by decide +kernel : ∀ c, c < 64 → tb (-1) c = true) c h
theorem tb_0 (c : Nat) : tb 0 c = false := by
  rcases Nat.lt_or_ge c 64 with h | h
  · exact (by decide +kernel : ∀ c, c < 64 → tb 0 c = false) c h
  · exact tb_big h
theorem tb_not {x : Int64} {c : Nat} (h : c < 64) : tb (x ^^^ (-1)) c = !tb x c := by rw [tb_xor, tb_m1 h]; simp
theorem bl_c : ∀ k, k < 64 → ((nI k).toInt64 &&& 63) = lN k := by decide +kernel
theorem bl_cu : ∀ k, k < 64 → ((nI k).toInt64.toUInt64 &&& Int64.toUInt64 63) = UInt64.ofNat k := by decide +kernel
theorem bl_sm : ∀ k, k < 64 → ((lN k).toBitVec.smod 64).toNat = k := by decide +kernel
theorem tb_shl (x : Int64) {j : Nat} (hj : j < 64) {c : Nat} (hc : c < 64) : tb (q_shl x (nI j)) c = (decide (j ≤ c) && tb x (c - j)) := by
  unfold tb q_shl
  rw [bl_c j hj, Int64.toBitVec_shiftLeft, BitVec.shiftLeft_eq', bl_sm j hj, BitVec.getLsbD_shiftLeft]
  rcases Nat.lt_or_ge c j with h | h
  · simp [h, Nat.not_le.mpr h]
  · simp [hc, h, Nat.not_lt.mpr h]
theorem bl_ushr (x : Int64) {j : Nat} (hj : j < 64) : (q_ushr x (nI j)).toBitVec = x.toBitVec >>> j := by
  unfold q_ushr
  rw [bl_cu j hj]
  apply BitVec.eq_of_toNat_eq
  show (x.toUInt64 >>> UInt64.ofNat j).toNat = _
  have h1 : (UInt64.ofNat j).toNat = j := by
    show (BitVec.ofNat 64 j).toNat = j
    rw [BitVec.toNat_ofNat, Nat.mod_eq_of_lt (by omega)]
  rw [UInt64.toNat_shiftRight, h1, Nat.mod_eq_of_lt hj, BitVec.toNat_ushiftRight]
  rfl
theorem tb_ushr (x : Int64) {j : Nat} (hj : j < 64) (c : Nat) : tb (q_ushr x (nI j)) c = tb x (j + c) := by
  unfold tb
  rw [bl_ushr x hj, BitVec.getLsbD_ushiftRight]
theorem tb_1 (c : Nat) : tb 1 c = decide (c = 0) := by
  rcases Nat.lt_or_ge c 64 with h | h
  · exact (by decide +kernel : ∀ c, c < 64 → tb 1 c = decide (c = 0)) c h
  · rw [tb_big h, decide_eq_false (by omega)]
theorem tb_bit {j : Nat} (hj : j < 64) (c : Nat) : tb (q_shl 1 (nI j)) c = decide (c = j) := by
  rcases Nat.lt_or_ge c 64 with h | h
  · rw [tb_shl 1 hj h, tb_1]
    rcases Nat.lt_or_ge c j with q | q
    · simp [Nat.not_le.mpr q]; omega
    · simp [q]; omega
  · rw [tb_big h, decide_eq_false (by omega)]
theorem tb_has (x : Int64) {j : Nat} (hj : j < 64) : (q_ushr x (nI j) &&& 1) = 0 ↔ tb x j = false := by
  constructor
  · intro h
    have h1 : tb (q_ushr x (nI j) &&& 1) 0 = false := by rw [h]; exact tb_0 0
    rw [tb_and, tb_ushr x hj, tb_1] at h1
    simpa using h1
  · intro h
    apply tb_ext
    intro c hc
    rw [tb_and, tb_ushr x hj, tb_1, tb_0]
    by_cases q : c = 0
    · subst q; simpa using h
    · simp [q]
theorem tb_neg (x : Int64) {c : Nat} (hc : c < 64) : tb (-x) c = (tb x c ^^ decide (∃ j, j < c ∧ tb x j = true)) := by
  unfold tb
  rw [Int64.toBitVec_neg, BitVec.getLsbD_neg]
  simp [hc]
/-- the least bit -/
theorem tb_low (x : Int64) {c : Nat} (hc : c < 64) : tb (x &&& -x) c = (tb x c && decide (∀ j, j < c → tb x j = false)) := by
  rw [tb_and, tb_neg x hc]
  by_cases h : tb x c = true
  · rw [h]
    by_cases q : ∃ j, j < c ∧ tb x j = true
    · have : ¬ ∀ j, j < c → tb x j = false := fun z => by
        obtain ⟨j, h1, h2⟩ := q
        rw [z j h1] at h2; cases h2
      simp [q, this]
    · have : ∀ j, j < c → tb x j = false := fun j hj => by
        cases h2 : tb x j with
        | false => rfl
        | true => exact absurd ⟨j, hj, h2⟩ q
      simp [q]
      exact this
  · have : tb x c = false := by simpa using h
    simp [this]
theorem tb_ne0 {x : Int64} (h : x ≠ 0) : ∃ c, c < 64 ∧ tb x c = true ∧ ∀ j, j < c → tb x j = false := by
  have h1 : ∃ c, tb x c = true := by
    rcases Classical.em (∃ c, tb x c = true) with q | q
    · exact q
    · exact absurd (tb_ext (fun c _ => by
        rw [tb_0]
        cases h2 : tb x c with
        | false => rfl
        | true => exact absurd ⟨c, h2⟩ q)) h
  obtain ⟨c, h2, h3⟩ := pk_least (fun c => tb x c = true) h1
  exact ⟨c, tb_lt h2, h2, fun j hj => by simpa using h3 j hj⟩
theorem tb_low1 {x : Int64} {c : Nat} (hc : c < 64) (h : tb x c = true) (hl : ∀ j, j < c → tb x j = false) : (x &&& -x) = q_shl 1 (nI c) := by
  apply tb_ext
  intro d hd
  rw [tb_low x hd, tb_bit hc]
  by_cases q : d = c
  · subst q; simp [h]; exact hl
  · rcases Nat.lt_or_ge d c with z | z
    · simp [hl d z, q]
    · have : ¬ ∀ j, j < d → tb x j = false := fun w => by
        rw [w c (by omega)] at h; cases h
      simp [this, q]
