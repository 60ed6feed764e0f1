/-! Counting bits. -/
def ctN (p : Nat → Bool) : Nat → Nat
  | 0 => 0
  | c + 1 => ctN p c + (if p c then 1 else 0)
theorem ctN_congr {p q : Nat → Bool} : ∀ {m : Nat}, (∀ c, c < m → p c = q c) → ctN p m = ctN q m
  | 0, _ => rfl
  | m + 1, h => by
    unfold ctN
    rw [ctN_congr (fun c hc => h c (by omega)), h m (by omega)]
theorem ctN_le (p : Nat → Bool) : ∀ m, ctN p m ≤ m
  | 0 => Nat.le_refl _
  | m + 1 => by
    have := ctN_le p m
    unfold ctN
    split <;> omega
theorem ctN_add (p : Nat → Bool) (m : Nat) : ∀ k, ctN p (m + k) = ctN p m + ctN (fun c => p (m + c)) k
  | 0 => rfl
  | k + 1 => by
    show ctN p (m + k) + (if p (m + k) then 1 else 0) = ctN p m + (ctN (fun c => p (m + c)) k + (if p (m + k) then 1 else 0))
    rw [ctN_add p m k, Nat.add_assoc]
theorem ctN_none {p : Nat → Bool} : ∀ {m : Nat}, (∀ c, c < m → p c = false) → ctN p m = 0
  | 0, _ => rfl
  | m + 1, h => by
    unfold ctN
    rw [ctN_none (fun c hc => h c (by omega)), h m (by omega)]
    rfl
/-- how many cubes a set has -/
def cnt (x : Int64) : Nat := ctN (tb x) 64
theorem cnt_le (x : Int64) : cnt x ≤ 64 := ctN_le _ _
theorem cnt_in {n : Nat} (hn : Sz n) {x : Int64} (hx : inB n x) : cnt x = ctN (tb x) (n * n * n) := by
  have h := hn.cube
  unfold cnt
  rw [show 64 = n * n * n + (64 - n * n * n) by omega, ctN_add, ctN_none (m := 64 - n * n * n) (fun c _ => tb_in hx (by omega))]
  rfl
def N8 : List Nat → Nat
  | [] => 0
  | b :: bs => b + 256 * N8 bs
theorem by_and {a b y z : Nat} (ha : a < 256) (hb : b < 256) : (a + 256 * y) &&& (b + 256 * z) = (a &&& b) + 256 * (y &&& z) := by
  have h1 : ((a + 256 * y) &&& (b + 256 * z)) / 2 ^ 8 = (a + 256 * y) / 2 ^ 8 &&& (b + 256 * z) / 2 ^ 8 := Nat.and_div_two_pow
  have h2 : ((a + 256 * y) &&& (b + 256 * z)) % 2 ^ 8 = ((a + 256 * y) % 2 ^ 8) &&& ((b + 256 * z) % 2 ^ 8) := Nat.and_mod_two_pow
  rw [show (2 : Nat) ^ 8 = 256 from rfl] at h1 h2
  rw [show (a + 256 * y) / 256 = y by omega, show (b + 256 * z) / 256 = z by omega] at h1
  rw [show (a + 256 * y) % 256 = a by omega, show (b + 256 * z) % 256 = b by omega] at h2
  rw [← h1, ← h2]
  exact (Nat.mod_add_div _ 256).symm
theorem N8_2 : ∀ (bs : List Nat), (∀ b, b ∈ bs → b < 256) → (N8 bs / 2) &&& N8 (bs.map fun _ => 85) = N8 (bs.map fun b => (b / 2) &&& 85)
  | [], _ => rfl
  | b :: bs, h => by
    have ih := N8_2 bs (fun x hx => h x (List.mem_cons_of_mem _ hx))
    have hb := h b List.mem_cons_self
    show (b + 256 * N8 bs) / 2 &&& (85 + 256 * N8 (bs.map fun _ => 85)) = ((b / 2) &&& 85) + 256 * N8 (bs.map fun b => (b / 2) &&& 85)
    rw [show (b + 256 * N8 bs) / 2 = (b / 2 + 128 * (N8 bs % 2)) + 256 * (N8 bs / 2) by omega, by_and (by omega) (by decide), ih, (by decide +kernel : ∀ b, b < 256 → ∀ t, t < 2 → (b / 2 + 128 * t) &&& 85 = (b / 2) &&& 85) b hb _ (Nat.mod_lt _ (by decide))]
theorem N8_4 : ∀ (bs : List Nat), (∀ b, b ∈ bs → b < 256) → (N8 bs / 4) &&& N8 (bs.map fun _ => 51) = N8 (bs.map fun b => (b / 4) &&& 51)
  | [], _ => rfl
  | b :: bs, h => by
    have ih := N8_4 bs (fun x hx => h x (List.mem_cons_of_mem _ hx))
    have hb := h b List.mem_cons_self
    show (b + 256 * N8 bs) / 4 &&& (51 + 256 * N8 (bs.map fun _ => 51)) = ((b / 4) &&& 51) + 256 * N8 (bs.map fun b => (b / 4) &&& 51)
    rw [show (b + 256 * N8 bs) / 4 = (b / 4 + 64 * (N8 bs % 4)) + 256 * (N8 bs / 4) by omega, by_and (by omega) (by decide), ih, (by decide +kernel : ∀ b, b < 256 → ∀ t, t < 4 → (b / 4 + 64 * t) &&& 51 = (b / 4) &&& 51) b hb _ (Nat.mod_lt _ (by decide))]
theorem N8_1 : ∀ (bs : List Nat), (∀ b, b ∈ bs → b < 256) → N8 bs &&& N8 (bs.map fun _ => 51) = N8 (bs.map fun b => b &&& 51)
  | [], _ => rfl
  | b :: bs, h => by
    have ih := N8_1 bs (fun x hx => h x (List.mem_cons_of_mem _ hx))
    have hb := h b List.mem_cons_self
    show (b + 256 * N8 bs) &&& (51 + 256 * N8 (bs.map fun _ => 51)) = (b &&& 51) + 256 * N8 (bs.map fun b => b &&& 51)
    rw [by_and hb (by decide), ih]
theorem N8_lo : ∀ (bs : List Nat), (∀ b, b ∈ bs → b % 16 ≤ 4) → N8 bs % 16 ≤ 4
  | [], _ => by decide
  | b :: bs, h => by
    have hb := h b List.mem_cons_self
    show (b + 256 * N8 bs) % 16 ≤ 4
    omega
theorem N8_16 : ∀ (bs : List Nat), (∀ b, b ∈ bs → b < 256 ∧ b % 16 ≤ 4 ∧ b / 16 ≤ 4) → (N8 bs + N8 bs / 16) &&& N8 (bs.map fun _ => 15) = N8 (bs.map fun b => b % 16 + b / 16)
  | [], _ => rfl
  | b :: bs, h => by
    have ih := N8_16 bs (fun x hx => h x (List.mem_cons_of_mem _ hx))
    obtain ⟨hb, h1, h2⟩ := h b List.mem_cons_self
    have h3 := N8_lo bs (fun x hx => (h x (List.mem_cons_of_mem _ hx)).2.1)
    show (b + 256 * N8 bs + (b + 256 * N8 bs) / 16) &&& (15 + 256 * N8 (bs.map fun _ => 15)) = (b % 16 + b / 16) + 256 * N8 (bs.map fun b => b % 16 + b / 16)
    rw [show b + 256 * N8 bs + (b + 256 * N8 bs) / 16 = (b + b / 16 + 16 * (N8 bs % 16)) + 256 * (N8 bs + N8 bs / 16) by omega, by_and (by omega) (by decide), ih]
    have h4 : (b + b / 16 + 16 * (N8 bs % 16)) &&& 15 = b % 16 + b / 16 := by
      rw [show (15 : Nat) = 2 ^ 4 - 1 from rfl, Nat.and_two_pow_sub_one_eq_mod]
      omega
    rw [h4]
theorem N8_sub (f : Nat → Nat) : ∀ (bs : List Nat), (∀ b, b ∈ bs → f b ≤ b) → N8 (bs.map f) ≤ N8 bs ∧ N8 bs - N8 (bs.map f) = N8 (bs.map fun b => b - f b)
  | [], _ => ⟨Nat.le_refl _, rfl⟩
  | b :: bs, h => by
    obtain ⟨h1, h2⟩ := N8_sub f bs (fun x hx => h x (List.mem_cons_of_mem _ hx))
    have hb := h b List.mem_cons_self
    show f b + 256 * N8 (bs.map f) ≤ b + 256 * N8 bs ∧ (b + 256 * N8 bs) - (f b + 256 * N8 (bs.map f)) = (b - f b) + 256 * N8 (bs.map fun b => b - f b)
    omega
theorem N8_add (f g : Nat → Nat) : ∀ (bs : List Nat), N8 (bs.map f) + N8 (bs.map g) = N8 (bs.map fun b => f b + g b)
  | [] => rfl
  | b :: bs => by
    have ih := N8_add f g bs
    show (f b + 256 * N8 (bs.map f)) + (g b + 256 * N8 (bs.map g)) = (f b + g b) + 256 * N8 (bs.map fun b => f b + g b)
    omega
def pop8 (b : Nat) : Nat := ctN (Nat.testBit b) 8
def pb1 (b : Nat) : Nat := b - ((b / 2) &&& 85)
def pb2 (b : Nat) : Nat := (b &&& 51) + ((b / 4) &&& 51)
theorem pb_tab : ∀ b, b < 256 → ((b / 2) &&& 85) ≤ b ∧ pb1 b < 256 ∧ pb2 (pb1 b) < 256 ∧ pb2 (pb1 b) % 16 ≤ 4 ∧ pb2 (pb1 b) / 16 ≤ 4 ∧ pb2 (pb1 b) % 16 + pb2 (pb1 b) / 16 = pop8 b ∧ pop8 b ≤ 8 := by decide +kernel
theorem N8_ct : ∀ (bs : List Nat), (∀ b, b ∈ bs → b < 256) → ctN (Nat.testBit (N8 bs)) (8 * bs.length) = (bs.map pop8).sum
  | [], _ => rfl
  | b :: bs, h => by
    have ih := N8_ct bs (fun x hx => h x (List.mem_cons_of_mem _ hx))
    have hb := h b List.mem_cons_self
    rw [List.length_cons, show 8 * (bs.length + 1) = 8 + 8 * bs.length by omega, ctN_add, List.map_cons, List.sum_cons, ← ih]
    have hk : ∀ c, Nat.testBit (N8 (b :: bs)) c = if c < 8 then b.testBit c else (N8 bs).testBit (c - 8) := by
      intro c
      show Nat.testBit (b + 256 * N8 bs) c = _
      rw [Nat.add_comm, show (256 : Nat) = 2 ^ 8 from rfl, Nat.testBit_two_pow_mul_add _ (by omega)]
    congr 1
    · exact ctN_congr fun c hc => by rw [hk, if_pos hc]
    · exact ctN_congr fun c hc => by
        show Nat.testBit (N8 (b :: bs)) (8 + c) = _
        rw [hk, if_neg (by omega), show 8 + c - 8 = c by omega]
theorem N8_of : ∀ (k v : Nat), v < 256 ^ k → ∃ bs : List Nat, bs.length = k ∧ (∀ b, b ∈ bs → b < 256) ∧ N8 bs = v
  | 0, v, h => ⟨[], rfl, fun b hb => (by cases hb), by
      show 0 = v
      rw [Nat.pow_zero] at h
      omega⟩
  | k + 1, v, h => by
    rw [Nat.pow_succ] at h
    obtain ⟨bs, h1, h2, h3⟩ := N8_of k (v / 256) (by omega)
    refine ⟨v % 256 :: bs, by rw [List.length_cons, h1], fun b hb => ?_, ?_⟩
    · rcases List.mem_cons.mp hb with rfl | hb
      · omega
      · exact h2 b hb
    · show v % 256 + 256 * N8 bs = v
      rw [h3]
      omega
theorem lN_bv (a : Nat) : (lN a).toBitVec = BitVec.ofNat 64 a := rfl
theorem lN_andd (a b : Nat) : lN a &&& lN b = lN (a &&& b) := by
  apply Int64.toBitVec_inj.mp
  apply BitVec.eq_of_getLsbD_eq
  intro i hi
  rw [Int64.toBitVec_and, BitVec.getLsbD_and, lN_bv, lN_bv, lN_bv, BitVec.getLsbD_ofNat, BitVec.getLsbD_ofNat, BitVec.getLsbD_ofNat, Nat.testBit_and]
  simp [hi]
theorem lN_addd (a b : Nat) : lN a + lN b = lN (a + b) := by
  apply Int64.toBitVec_inj.mp
  rw [Int64.toBitVec_add, lN_bv, lN_bv, lN_bv]
  apply BitVec.eq_of_toNat_eq
  rw [BitVec.toNat_add, BitVec.toNat_ofNat, BitVec.toNat_ofNat, BitVec.toNat_ofNat, ← Nat.add_mod]
theorem lN_subb {a b : Nat} (h : b ≤ a) (ha : a < 2 ^ 64) : lN a - lN b = lN (a - b) := by
  apply Int64.toBitVec_inj.mp
  rw [Int64.toBitVec_sub, lN_bv, lN_bv, lN_bv]
  apply BitVec.eq_of_toNat_eq
  rw [BitVec.toNat_sub, BitVec.toNat_ofNat, BitVec.toNat_ofNat, BitVec.toNat_ofNat]
  omega
theorem lN_ush {a k : Nat} (ha : a < 2 ^ 64) (hk : k < 64) : q_ushr (lN a) (nI k) = lN (a / 2 ^ k) := by
  apply Int64.toBitVec_inj.mp
  rw [bl_ushr _ hk, lN_bv, lN_bv]
  apply BitVec.eq_of_toNat_eq
  rw [BitVec.toNat_ushiftRight, BitVec.toNat_ofNat, BitVec.toNat_ofNat, Nat.mod_eq_of_lt ha, Nat.shiftRight_eq_div_pow, Nat.mod_eq_of_lt (Nat.lt_of_le_of_lt (Nat.div_le_self _ _) ha)]
theorem tb_lN (a : Nat) {c : Nat} (hc : c < 64) : tb (lN a) c = a.testBit c := by
  unfold tb
  rw [lN_bv, BitVec.getLsbD_ofNat]
  simp [hc]
theorem lo7 (m : Nat) : (lN m).toInt32 &&& 127 = nI (m % 128) := by
  apply Int32.toBitVec_inj.mp
  apply BitVec.eq_of_getLsbD_eq
  intro i hi
  have h1 : (lN m).toInt32.toBitVec.getLsbD i = m.testBit i := by
    show (BitVec.signExtend 32 (BitVec.ofNat 64 m)).getLsbD i = _
    rw [BitVec.getLsbD_signExtend, BitVec.getLsbD_ofNat]
    simp [hi, show i < 64 by omega]
  have h2 : (127 : Int32).toBitVec.getLsbD i = decide (i < 7) := (by decide +kernel : ∀ i, i < 32 → (127 : Int32).toBitVec.getLsbD i = decide (i < 7)) i hi
  have h3 : (nI (m % 128)).toBitVec.getLsbD i = (m % 128).testBit i := by
    show (BitVec.ofNat 32 (m % 128)).getLsbD i = _
    rw [BitVec.getLsbD_ofNat]
    simp [hi]
  rw [Int32.toBitVec_and, BitVec.getLsbD_and, h1, h2, h3, show (128 : Nat) = 2 ^ 7 from rfl, Nat.testBit_mod_two_pow, Bool.and_comm]
theorem J_bits (x : Int64) (σ : q_M) : fJ13_bitCount_95d88 x σ = some (nI (cnt x), σ) := by
  obtain ⟨v, hv, rfl⟩ : ∃ v, v < 2 ^ 64 ∧ x = lN v := ⟨x.toBitVec.toNat, x.toBitVec.isLt, Int64.toBitVec_inj.mp (by rw [lN_bv]; simp)⟩
  obtain ⟨bs, hl, hb, hN⟩ := N8_of 8 v (by rw [show (256 : Nat) ^ 8 = 2 ^ 64 from rfl]; exact hv)
  have hc : cnt (lN v) = (bs.map pop8).sum := by
    unfold cnt
    rw [← N8_ct bs hb, hl, hN]
    exact ctN_congr fun c hc => tb_lN v hc
  have e5 : N8 (bs.map fun _ => 85) = 6148914691236517205 := by
    match bs, hl with
    | [_, _, _, _, _, _, _, _], _ => simp only [List.map_cons, List.map_nil, N8]
  have e3 : N8 (bs.map fun _ => 51) = 3689348814741910323 := by
    match bs, hl with
    | [_, _, _, _, _, _, _, _], _ => simp only [List.map_cons, List.map_nil, N8]
  have e0 : N8 (bs.map fun _ => 15) = 1085102592571150095 := by
    match bs, hl with
    | [_, _, _, _, _, _, _, _], _ => simp only [List.map_cons, List.map_nil, N8]
  -- the first step
  have s1 : lN v - (q_ushr (lN v) (1 : Int32) &&& (6148914691236517205 : Int64)) = lN (N8 (bs.map pb1)) := by
    rw [show (1 : Int32) = nI 1 from rfl, lN_ush hv (by decide), show (6148914691236517205 : Int64) = lN 6148914691236517205 from rfl, lN_andd, ← e5, ← hN, show (2 : Nat) ^ 1 = 2 from rfl, N8_2 bs hb]
    obtain ⟨z1, z2⟩ := N8_sub (fun b => (b / 2) &&& 85) bs (fun b hb' => (pb_tab b (hb b hb')).1)
    rw [lN_subb z1 (by rw [hN]; exact hv), z2]
    rfl
  have m1 : ∀ b, b ∈ bs.map pb1 → b < 256 := fun b h => by
    obtain ⟨a, ha, rfl⟩ := List.mem_map.mp h
    exact (pb_tab a (hb a ha)).2.1
  have bd : ∀ (cs : List Nat), cs.length = 8 → (∀ b, b ∈ cs → b < 256) → N8 cs < 2 ^ 64 := by
    intro cs h1 h2
    match cs, h1, h2 with
    | [c0, c1, c2, c3, c4, c5, c6, c7], _, h2 =>
      have q0 := h2 c0 (by simp)
      have q1 := h2 c1 (by simp)
      have q2 := h2 c2 (by simp)
      have q3 := h2 c3 (by simp)
      have q4 := h2 c4 (by simp)
      have q5 := h2 c5 (by simp)
      have q6 := h2 c6 (by simp)
      have q7 := h2 c7 (by simp)
      simp only [N8]
      omega
  have s2 : (lN (N8 (bs.map pb1)) &&& (3689348814741910323 : Int64)) + (q_ushr (lN (N8 (bs.map pb1))) (2 : Int32) &&& (3689348814741910323 : Int64)) = lN (N8 (bs.map fun b => pb2 (pb1 b))) := by
    have e3' : N8 ((bs.map pb1).map fun _ => 51) = 3689348814741910323 := by rw [List.map_map]; exact e3
    rw [show (2 : Int32) = nI 2 from rfl, lN_ush (bd _ (by rw [List.length_map, hl]) m1) (by decide), show (3689348814741910323 : Int64) = lN 3689348814741910323 from rfl, lN_andd, lN_andd, ← e3', show (2 : Nat) ^ 2 = 4 from rfl, N8_4 _ m1, N8_1 _ m1, lN_addd, N8_add, List.map_map]
    rfl
  have m2 : ∀ b, b ∈ (bs.map fun b => pb2 (pb1 b)) → b < 256 ∧ b % 16 ≤ 4 ∧ b / 16 ≤ 4 := fun b h => by
    obtain ⟨a, ha, rfl⟩ := List.mem_map.mp h
    have := pb_tab a (hb a ha)
    exact ⟨this.2.2.1, this.2.2.2.1, this.2.2.2.2.1⟩
  have s3 : (lN (N8 (bs.map fun b => pb2 (pb1 b))) + q_ushr (lN (N8 (bs.map fun b => pb2 (pb1 b)))) (4 : Int32)) &&& (1085102592571150095 : Int64) = lN (N8 (bs.map pop8)) := by
    have e0' : N8 ((bs.map fun b => pb2 (pb1 b)).map fun _ => 15) = 1085102592571150095 := by rw [List.map_map]; exact e0
    rw [show (4 : Int32) = nI 4 from rfl, lN_ush (bd _ (by rw [List.length_map, hl]) (fun b h => (m2 b h).1)) (by decide), show (1085102592571150095 : Int64) = lN 1085102592571150095 from rfl, lN_addd, lN_andd, ← e0', show (2 : Nat) ^ 4 = 16 from rfl, N8_16 _ m2, List.map_map]
    congr 2
    exact List.map_congr_left fun b h => (pb_tab b (hb b h)).2.2.2.2.2.1
  have m3 : ∀ b, b ∈ bs.map pop8 → b ≤ 8 := fun b h => by
    obtain ⟨a, ha, rfl⟩ := List.mem_map.mp h
    exact (pb_tab a (hb a ha)).2.2.2.2.2.2
  unfold fJ13_bitCount_95d88
  dsimp only [q_let]
  rw [s1, s2, s3, hc]
  have l3 : (bs.map pop8).length = 8 := by rw [List.length_map, hl]
  generalize bs.map pop8 = ps at m3 l3
  match ps, l3, m3 with
  | [c0, c1, c2, c3, c4, c5, c6, c7], _, m3 =>
    have q0 := m3 c0 (by simp)
    have q1 := m3 c1 (by simp)
    have q2 := m3 c2 (by simp)
    have q3 := m3 c3 (by simp)
    have q4 := m3 c4 (by simp)
    have q5 := m3 c5 (by simp)
    have q6 := m3 c6 (by simp)
    have q7 := m3 c7 (by simp)
    have hs : [c0, c1, c2, c3, c4, c5, c6, c7].sum = c0 + c1 + c2 + c3 + c4 + c5 + c6 + c7 := by simp [Nat.add_assoc]
    have hq : N8 [c0, c1, c2, c3, c4, c5, c6, c7] = c0 + 256 * c1 + 65536 * c2 + 16777216 * c3 + 4294967296 * c4 + 1099511627776 * c5 + 281474976710656 * c6 + 72057594037927936 * c7 := by
      simp only [N8]
      omega
    rw [hs, hq]
    generalize hQ : c0 + 256 * c1 + 65536 * c2 + 16777216 * c3 + 4294967296 * c4 + 1099511627776 * c5 + 281474976710656 * c6 + 72057594037927936 * c7 = Q
    have hQ1 : Q / 256 = c1 + 256 * c2 + 65536 * c3 + 16777216 * c4 + 4294967296 * c5 + 1099511627776 * c6 + 281474976710656 * c7 := by omega
    rw [show (8 : Int32) = nI 8 from rfl, show (16 : Int32) = nI 16 from rfl, show (32 : Int32) = nI 32 from rfl, lN_ush (by omega) (by decide), lN_addd, show (2 : Nat) ^ 8 = 256 from rfl]
    generalize hP : Q + Q / 256 = P
    have hP1 : P / 65536 = (c2 + c3) + 256 * (c3 + c4) + 65536 * (c4 + c5) + 16777216 * (c5 + c6) + 4294967296 * (c6 + c7) + 1099511627776 * c7 := by omega
    rw [lN_ush (by omega) (by decide), lN_addd, show (2 : Nat) ^ 16 = 65536 from rfl]
    generalize hO : P + P / 65536 = O
    have hO1 : O / 4294967296 = (c4 + c5 + c6 + c7) + 256 * (c5 + c6 + c7) + 65536 * (c6 + c7) + 16777216 * c7 := by omega
    rw [lN_ush (by omega) (by decide), lN_addd, show (2 : Nat) ^ 32 = 4294967296 from rfl, lo7]
    rw [show (O + O / 4294967296) % 128 = c0 + c1 + c2 + c3 + c4 + c5 + c6 + c7 by omega]
def ibc (x : Int32) : Int32 := ((fJ6_bitCount_0f7a4 x q_0).getD (0, q_0)).1
theorem J6_p (x : Int32) (σ : q_M) : fJ6_bitCount_0f7a4 x σ = some (ibc x, σ) := rfl
theorem ibc_tab : ∀ k, k < 256 → ibc (nI k) = nI (pop8 k) := by decide +kernel
theorem J_bitsI {k : Nat} (hk : k < 256) (σ : q_M) : fJ6_bitCount_0f7a4 (nI k) σ = some (nI (pop8 k), σ) := by rw [J6_p, ibc_tab k hk]
