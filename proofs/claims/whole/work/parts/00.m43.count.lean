/-! Counting bits. -/
def ctN (p : Nat → Bool) : Nat → Nat
  | 0 => 0
  | c + 1 => ctN p c + (if p c then 1 else 0)
theorem ctN_congr {p q : Nat → Bool} : ∀ {m : Nat}, (∀ c, c < m → p c = q c) → ctN p m = ctN q m
  | 0, _ => rfl
  | m + 1, h => by
    unfold ctN
    rw [ctN_congr (fun c hc => h c (by omega)), h m (by omega)]
theorem ctN_le (p : Nat → Bool) : ∀ m, ctN p m ≤ m
  | 0 => Nat.le_refl _
  | m + 1 => by
    have := ctN_le p m
    unfold ctN
    split <;> omega
theorem ctN_add (p : Nat → Bool) (m : Nat) : ∀ k, ctN p (m + k) = ctN p m + ctN (fun c => p (m + c)) k
  | 0 => rfl
  | k + 1 => by
    show ctN p (m + k) + (if p (m + k) then 1 else 0) = ctN p m + (ctN (fun c => p (m + c)) k + (if p (m + k) then 1 else 0))
    rw [ctN_add p m k, Nat.add_assoc]
theorem ctN_none {p : Nat → Bool} : ∀ {m : Nat}, (∀ c, c < m → p c = false) → ctN p m = 0
  | 0, _ => rfl
  | m + 1, h => by
    unfold ctN
    rw [ctN_none (fun c hc => h c (by omega)), h m (by omega)]
    rfl
/-- how many cubes a set has -/
def cnt (x : Int64) : Nat := ctN (tb x) 64
theorem cnt_le (x : Int64) : cnt x ≤ 64 := ctN_le _ _
theorem cnt_in {n : Nat} (hn : Sz n) {x : Int64} (hx : inB n x) : cnt x = ctN (tb x) (n * n * n) := by
  have h := hn.cube
  unfold cnt
  rw [show 64 = n * n * n + (64 - n * n * n) by omega, ctN_add, ctN_none (m := 64 - n * n * n) (fun c _ => tb_in hx (by omega))]
  rfl
def N8 : List Nat → Nat
  | [] => 0
  | b :: bs => b + 256 * N8 bs
theorem by_and {a b y z : Nat} (ha : a < 256) (hb : b < 256) : (a + 256 * y) &&& (b + 256 * z) = (a &&& b) + 256 * (y &&& z) := by
  have h1 : ((a + 256 * y) &&& (b + 256 * z)) / 2 ^ 8 = (a + 256 * y) / 2 ^ 8 &&& (b + 256 * z) / 2 ^ 8 := Nat.and_div_two_pow
  have h2 : ((a + 256 * y) &&& (b + 256 * z)) % 2 ^ 8 = ((a + 256 * y) % 2 ^ 8) &&& ((b + 256 * z) % 2 ^ 8) := Nat.and_mod_two_pow
  rw [show (2 : Nat) ^ 8 = 256 from rfl] at h1 h2
  rw [show (a + 256 * y) / 256 = y by omega, show (b + 256 * z) / 256 = z by omega] at h1
  rw [show (a + 256 * y) % 256 = a by omega, show (b + 256 * z) % 256 = b by omega] at h2
  rw [← h1, ← h2]
  exact (Nat.mod_add_div _ 256).symm
theorem N8_2 : ∀ (bs : List Nat), (∀ b, b ∈ bs → b < 256) → (N8 bs / 2) &&& N8 (bs.map fun _ => 85) = N8 (bs.map fun b => (b / 2) &&& 85)
  | [], _ => rfl
  | b :: bs, h => by
    have ih := N8_2 bs (fun x hx => h x (List.mem_cons_of_mem _ hx))
    have hb := h b List.mem_cons_self
    show (b + 256 * N8 bs) / 2 &&& (85 + 256 * N8 (bs.map fun _ => 85)) = ((b / 2) &&& 85) + 256 * N8 (bs.map fun b => (b / 2) &&& 85)
    rw [show (b + 256 * N8 bs) / 2 = (b / 2 + 128 * (N8 bs % 2)) + 256 * (N8 bs / 2) by omega, by_and (by omega) (by decide), ih, (by decide +kernel : ∀ b, b < 256 → ∀ t, t < 2 → (b / 2 + 128 * t) &&& 85 = (b / 2) &&& 85) b hb _ (Nat.mod_lt _ (by decide))]
theorem N8_4 : ∀ (bs : List Nat), (∀ b, b ∈ bs → b < 256) → (N8 bs / 4) &&& N8 (bs.map fun _ => 51) = N8 (bs.map fun b => (b / 4) &&& 51)
  | [], _ => rfl
  | b :: bs, h => by
    have ih := N8_4 bs (fun x hx => h x (List.mem_cons_of_mem _ hx))
    have hb := h b List.mem_cons_self
    show (b + 256 * N8 bs) / 4 &&& (51 + 256 * N8 (bs.map fun _ => 51)) = ((b / 4) &&& 51) + 256 * N8 (bs.map fun b => (b / 4) &&& 51)
    rw [show (b + 256 * N8 bs) / 4 = (b / 4 + 64 * (N8 bs % 4)) + 256 * (N8 bs / 4) by omega, by_and (by omega) (by decide), ih, (by decide +kernel : ∀ b, b < 256 → ∀ t, t < 4 → (b / 4 + 64 * t) &&& 51 = (b / 4) &&& 51) b hb _ (Nat.mod_lt _ (by decide))]
theorem N8_1 : ∀ (bs : List Nat), (∀ b, b ∈ bs → b < 256) → N8 bs &&& N8 (bs.map fun _ => 51) = N8 (bs.map fun b => b &&& 51)
  | [], _ => rfl
  | b :: bs, h => by
    have ih := N8_1 bs (fun x hx => h x (List.mem_cons_of_mem _ hx))
    have hb := h b List.mem_cons_self
    show (b + 256 * N8 bs) &&& (51 + 256 * N8 (bs.map fun _ => 51)) = (b &&& 51) + 256 * N8 (bs.map fun b => b &&& 51)
    rw [by_and hb (by decide), ih]
theorem N8_lo : ∀ (bs : List Nat), (∀ b, b ∈ bs → b % 16 ≤ 4) → N8 bs % 16 ≤ 4
  | [], _ => by decide
  | b :: bs, h => by
    have hb := h b List.mem_cons_self
    show (b + 256 * N8 bs) % 16 ≤ 4
    omega
theorem N8_16 : ∀ (bs : List Nat), (∀ b, b ∈ bs → b < 256 ∧ b % 16 ≤ 4 ∧ b / 16 ≤ 4) → (N8 bs + N8 bs / 16) &&& N8 (bs.map fun _ => 15) = N8 (bs.map fun b => b % 16 + b / 16)
  | [], _ => rfl
  | b :: bs, h => by
    have ih := N8_16 bs (fun x hx => h x (List.mem_cons_of_mem _ hx))
    obtain ⟨hb, h1, h2⟩ := h b List.mem_cons_self
    have h3 := N8_lo bs (fun x hx => (h x (List.mem_cons_of_mem _ hx)).2.1)
    show (b + 256 * N8 bs + (b + 256 * N8 bs) / 16) &&& (15 + 256 * N8 (bs.map fun _ => 15)) = (b % 16 + b / 16) + 256 * N8 (bs.map fun b => b % 16 + b / 16)
    rw [show b + 256 * N8 bs + (b + 256 * N8 bs) / 16 = (b + b / 16 + 16 * (N8 bs % 16)) + 256 * (N8 bs + N8 bs / 16) by omega, by_and (by omega) (by decide), ih]
    have h4 : (b + b / 16 + 16 * (N8 bs % 16)) &&& 15 = b % 16 + b / 16 := by
      rw [show (15 : Nat) = 2 ^ 4 - 1 from rfl, Nat.and_two_pow_sub_one_eq_mod]
      omega
    rw [h4]
theorem N8_sub (f : Nat → Nat) : ∀ (bs : List Nat), (∀ b, b ∈ bs → f b ≤ b) → N8 (bs.map f) ≤ N8 bs ∧ N8 bs - N8 (bs.map f) = N8 (bs.map fun b => b - f b)
  | [], _ => ⟨Nat.le_refl _, rfl⟩
  | b :: bs, h => by
    obtain ⟨h1, h2⟩ := N8_sub f bs (fun x hx => h x (List.mem_cons_of_mem _ hx))
    have hb := h b List.mem_cons_self
    show f b + 256 * N8 (bs.map f) ≤ b + 256 * N8 bs ∧ (b + 256 * N8 bs) - (f b + 256 * N8 (bs.map f)) = (b - f b) + 256 * N8 (bs.map fun b => b - f b)
    omega
theorem N8_add (f g : Nat → Nat) : ∀ (bs : List Nat), N8 (bs.map f) + N8 (bs.map g) = N8 (bs.map fun b => f b + g b)
  | [] => rfl
  | b :: bs => by
    have ih := N8_add f g bs
    show (f b + 256 * N8 (bs.map f)) + (g b + 256 * N8 (bs.map g)) = (f b + g b) + 256 * N8 (bs.map fun b => f b + g b)
    omega
def pop8 (b : Nat) : Nat := ctN (Nat.testBit b) 8
def pb1 (b : Nat) : Nat := b - ((b / 2) &&& 85)
def pb2 (b : Nat) : Nat := (b &&& 51) + ((b / 4) &&& 51)
theorem pb_tab : ∀ b, b < 256 → ((b / 2) &&& 85) ≤ b ∧ pb1 b < 256 ∧ pb2 (pb1 b) < 256 ∧ pb2 (pb1 b) % 16 ≤ 4 ∧ pb2 (pb1 b) / 16 ≤ 4 ∧ pb2 (pb1 b) % 16 + pb2 (pb1 b) / 16 = pop8 b ∧ pop8 b ≤ 8 := by decide +kernel
theorem N8_ct : ∀ (bs : List Nat), (∀ b, b ∈ bs → b < 256) → ctN (Nat.testBit (N8 bs)) (8 * bs.length) = (bs.map pop8).sum
  | [], _ => rfl
  | b :: bs, h => by
    have ih := N8_ct bs (fun x hx => h x (List.mem_cons_of_mem _ hx))
    have hb := h b List.mem_cons_self
    rw [List.length_cons, show 8 * (bs.length + 1) = 8 + 8 * bs.length by omega, ctN_add, List.map_cons, List.sum_cons, ← ih]
    have hk : ∀ c, Nat.testBit (N8 (b :: bs)) c = if c < 8 then b.testBit c else (N8 bs).testBit (c - 8) := by
      intro c
      show Nat.testBit (b + 256 * N8 bs) c = _
      rw [Nat.add_comm, show (256 : Nat) = 2 ^ 8 from rfl, Nat.testBit_two_pow_mul_add _ (by omega)]
    congr 1
    · exact ctN_congr fun c hc => by rw [hk, if_pos hc]
    · exact ctN_congr fun c hc => by
        show Nat.testBit (N8 (b :: bs)) (8 + c) = _
        rw [hk, if_neg (by omega), show 8 + c - 8 = c by omega]
theorem N8_of : ∀ (k v : Nat), v < 256 ^ k → ∃ bs : List Nat, bs.length = k ∧ (∀ b, b ∈ bs → b < 256) ∧ N8 bs = v
  | 0, v, h => ⟨[], rfl, fun b hb => (by cases hb), by
      show 0 = v
      rw [Nat.pow_zero] at h
      omega⟩
  | k + 1, v, h => by
    rw [Nat.pow_succ] at h
    obtain ⟨bs, h1, h2, h3⟩ := N8_of k (v / 256) (by omega)
    refine ⟨v % 256 :: bs, by rw [List.length_cons, h1], fun b hb => ?_, ?_⟩
    · rcases List.mem_cons.mp hb with rfl | hb
      · omega
      · exact h2 b hb
    · show v % 256 + 256 * N8 bs = v
      rw [h3]
      omega
theorem lN_bv (a : Nat) : (lN a).toBitVec = BitVec.ofNat 64 a := rfl
theorem lN_andd (a b : Nat) : lN a &&& lN b = lN (a &&& b) := by
  apply Int64.toBitVec_inj.mp
  apply BitVec.eq_of_getLsbD_eq
  intro i hi
  rw [Int64.toBitVec_and, BitVec.getLsbD_and, lN_bv, lN_bv, lN_bv, BitVec.getLsbD_ofNat, BitVec.getLsbD_ofNat, BitVec.getLsbD_ofNat, Nat.testBit_and]
  simp [hi]
theorem lN_addd (a b : Nat) : lN a + lN b = lN (a + b) := by
  apply Int64.toBitVec_inj.mp
  rw [Int64.toBitVec_add, lN_bv, lN_bv, lN_bv]
  apply BitVec.eq_of_toNat_eq
  rw [BitVec.toNat_add, BitVec.toNat_ofNat, BitVec.toNat_ofNat, BitVec.toNat_ofNat, ← Nat.add_mod]
theorem lN_subb {a b : Nat} (h : b ≤ a) (ha : a < 2 ^ 64) : lN a - lN b = lN (a - b) := by
  apply Int64.toBitVec_inj.mp
  rw [Int64.toBitVec_sub, lN_bv, lN_bv, lN_bv]
  apply BitVec.eq_of_toNat_eq
  rw [BitVec.toNat_sub, BitVec.toNat_ofNat, BitVec.toNat_ofNat, BitVec.toNat_ofNat]
  omega
theorem lN_ush {a k : Nat} (ha : a < 2 ^ 64) (hk : k < 64) : q_ushr (lN a) (nI k) = lN (a / 2 ^ k) := by
  apply Int64.toBitVec_inj.mp
  rw [bl_ushr _ hk, lN_bv, lN_bv]
  apply BitVec.eq_of_toNat_eq
  rw [BitVec.toNat_ushiftRight, BitVec.toNat_ofNat, BitVec.toNat_ofNat, Nat.mod_eq_of_lt ha, Nat.shiftRight_eq_div_pow, Nat.mod_eq_of_lt (Nat.lt_of_le_of_lt (Nat.div_le_self _ _) ha)]
theorem tb_lN (a : Nat) {c : Nat} (hc : c < 64) : tb (lN a) c = a.testBit c := by
  unfold tb
  rw [lN_bv, BitVec.getLsbD_ofNat]
  simp [hc]
theorem lo7 (m : Nat) : (lN m).toInt32 &&& 127 = nI (m % 128) := by
  apply Int32.toBitVec_inj.mp
  apply BitVec.eq_of_getLsbD_eq
  intro i hi
  have h1 : (lN m).toInt32.toBitVec.getLsbD i = m.testBit i := by
    show (BitVec.signExtend 32 (BitVec.ofNat 64 m)).getLsbD i = _
    rw [BitVec.getLsbD_signExtend, BitVec.getLsbD_ofNat]
    simp [hi, show i < 64 by omega]
  have h2 : (127 : Int32).toBitVec.getLsbD i = decide (i < 7) := (by decide +kernel : ∀ i, i < 32 → (127 : Int32).toBitVec.getLsbD i = decide (i < 7)) i hi
  have h3 : (nI (m % 128)).toBitVec.getLsbD i = (m % 128).testBit i := by
    show (BitVec.ofNat 32 (m % 128)).getLsbD i = _
    rw [BitVec.getLsbD_ofNat]
    simp [hi]
  rw [Int32.toBitVec_and, BitVec.getLsbD_and, h1, h2, h3, show (128 : Nat) = 2 ^ 7 from rfl, Nat.testBit_mod_two_pow, Bool.and_comm]
theorem ql {α β : Type} (v : α) (f : α → Option β) : q_let v f = f v := rfl
theorem rep8 (v : Nat) : ∀ (bs : List Nat), bs.length = 8 → N8 (bs.map fun _ => v) = N8 [v, v, v, v, v, v, v, v]
  | [_, _, _, _, _, _, _, _], _ => rfl
theorem N8_85 : N8 [85, 85, 85, 85, 85, 85, 85, 85] = 6148914691236517205 := by decide +kernel
theorem N8_51 : N8 [51, 51, 51, 51, 51, 51, 51, 51] = 3689348814741910323 := by decide +kernel
theorem N8_15 : N8 [15, 15, 15, 15, 15, 15, 15, 15] = 1085102592571150095 := by decide +kernel
theorem N8_lt : ∀ (cs : List Nat), (∀ b, b ∈ cs → b < 256) → N8 cs < 256 ^ cs.length
  | [], _ => by decide
  | c :: cs, h => by
    have ih := N8_lt cs (fun b hb => h b (List.mem_cons_of_mem _ hb))
    have hc := h c List.mem_cons_self
    rw [List.length_cons, Nat.pow_succ]
    show c + 256 * N8 cs < _
    omega
theorem N8_b64 {cs : List Nat} (hl : cs.length = 8) (h : ∀ b, b ∈ cs → b < 256) : N8 cs < 2 ^ 64 := by
  have := N8_lt cs h
  rw [hl] at this
  exact this
theorem J_s1 {v : Nat} (hv : v < 2 ^ 64) {bs : List Nat} (hl : bs.length = 8) (hb : ∀ b, b ∈ bs → b < 256) (hN : N8 bs = v) : lN v - (q_ushr (lN v) (1 : Int32) &&& (6148914691236517205 : Int64)) = lN (N8 (bs.map pb1)) := by
  have e5 : N8 (bs.map fun _ => 85) = 6148914691236517205 := (rep8 85 bs hl).trans N8_85
  have h1 : q_ushr (lN v) (1 : Int32) = lN (v / 2 ^ 1) := lN_ush (k := 1) hv (by decide)
  have h2 : (6148914691236517205 : Int64) = lN (N8 (bs.map fun _ => 85)) := by rw [e5]; rfl
  rw [h1, h2, lN_andd, ← hN, show (2 : Nat) ^ 1 = 2 from rfl, N8_2 bs hb]
  obtain ⟨z1, z2⟩ := N8_sub (fun b => (b / 2) &&& 85) bs (fun b hb' => (pb_tab b (hb b hb')).1)
  rw [lN_subb z1 (by rw [hN]; exact hv), z2]
  rfl
theorem J_s2 {bs : List Nat} (hl : bs.length = 8) (hb : ∀ b, b ∈ bs → b < 256) : (lN (N8 bs) &&& (3689348814741910323 : Int64)) + (q_ushr (lN (N8 bs)) (2 : Int32) &&& (3689348814741910323 : Int64)) = lN (N8 (bs.map pb2)) := by
  have e3 : N8 (bs.map fun _ => 51) = 3689348814741910323 := (rep8 51 bs hl).trans N8_51
  have h1 : q_ushr (lN (N8 bs)) (2 : Int32) = lN (N8 bs / 2 ^ 2) := lN_ush (k := 2) (N8_b64 hl hb) (by decide)
  have h2 : (3689348814741910323 : Int64) = lN (N8 (bs.map fun _ => 51)) := by rw [e3]; rfl
  rw [h1, h2, lN_andd, lN_andd, show (2 : Nat) ^ 2 = 4 from rfl, N8_4 _ hb, N8_1 _ hb, lN_addd, N8_add]
  rfl
theorem J_s3 {bs : List Nat} (hl : bs.length = 8) (hb : ∀ b, b ∈ bs → b < 256 ∧ b % 16 ≤ 4 ∧ b / 16 ≤ 4) : (lN (N8 bs) + q_ushr (lN (N8 bs)) (4 : Int32)) &&& (1085102592571150095 : Int64) = lN (N8 (bs.map fun b => b % 16 + b / 16)) := by
  have e0 : N8 (bs.map fun _ => 15) = 1085102592571150095 := (rep8 15 bs hl).trans N8_15
  have h1 : q_ushr (lN (N8 bs)) (4 : Int32) = lN (N8 bs / 2 ^ 4) := lN_ush (k := 4) (N8_b64 hl (fun b h => (hb b h).1)) (by decide)
  have h2 : (1085102592571150095 : Int64) = lN (N8 (bs.map fun _ => 15)) := by rw [e0]; rfl
  rw [h1, h2, lN_addd, lN_andd, show (2 : Nat) ^ 4 = 16 from rfl, N8_16 _ hb]
theorem dv1 {a T : Nat} (h : a < 256) : (a + 256 * T) / 256 = T := by omega
theorem dv2 {a b T : Nat} (ha : a < 256) (hb : b < 256) : (a + 256 * (b + 256 * T)) / 65536 = T := by omega
theorem dv4 {a b c d T : Nat} (ha : a < 256) (hb : b < 256) (hc : c < 256) (hd : d < 256) : (a + 256 * (b + 256 * (c + 256 * (d + 256 * T)))) / 4294967296 = T := by omega
theorem N8_cons (a : Nat) (l : List Nat) : N8 (a :: l) = a + 256 * N8 l := rfl
theorem N8_pl (a b : Nat) (k l : List Nat) : N8 (a :: k) + N8 (b :: l) = (a + b) + 256 * (N8 k + N8 l) := by
  rw [N8_cons, N8_cons]
  omega
theorem N8_nil : N8 [] = 0 := rfl
theorem J_s4 {c0 c1 c2 c3 c4 c5 c6 c7 : Nat} (q0 : c0 ≤ 8) (q1 : c1 ≤ 8) (q2 : c2 ≤ 8) (q3 : c3 ≤ 8) (q4 : c4 ≤ 8) (q5 : c5 ≤ 8) (q6 : c6 ≤ 8) (q7 : c7 ≤ 8) : lN (N8 [c0, c1, c2, c3, c4, c5, c6, c7]) + q_ushr (lN (N8 [c0, c1, c2, c3, c4, c5, c6, c7])) (8 : Int32) = lN (N8 [c0 + c1, c1 + c2, c2 + c3, c3 + c4, c4 + c5, c5 + c6, c6 + c7, c7]) := by
  have hb : N8 [c0, c1, c2, c3, c4, c5, c6, c7] < 2 ^ 64 := N8_b64 rfl (by
    intro b hb
    simp only [List.mem_cons, List.not_mem_nil, or_false] at hb
    omega)
  have h1 : q_ushr (lN (N8 [c0, c1, c2, c3, c4, c5, c6, c7])) (8 : Int32) = lN (N8 [c0, c1, c2, c3, c4, c5, c6, c7] / 2 ^ 8) := lN_ush (k := 8) hb (by decide)
  have h2 : N8 [c0, c1, c2, c3, c4, c5, c6, c7] / 2 ^ 8 = N8 [c1, c2, c3, c4, c5, c6, c7] := by rw [N8_cons]; exact dv1 (by omega)
  rw [h1, h2, lN_addd]
  congr 1
  simp only [N8_cons, N8_nil]
  omega
theorem J_s5 {c0 c1 c2 c3 c4 c5 c6 c7 : Nat} (q0 : c0 ≤ 16) (q1 : c1 ≤ 16) (q2 : c2 ≤ 16) (q3 : c3 ≤ 16) (q4 : c4 ≤ 16) (q5 : c5 ≤ 16) (q6 : c6 ≤ 16) (q7 : c7 ≤ 16) : lN (N8 [c0, c1, c2, c3, c4, c5, c6, c7]) + q_ushr (lN (N8 [c0, c1, c2, c3, c4, c5, c6, c7])) (16 : Int32) = lN (N8 [c0 + c2, c1 + c3, c2 + c4, c3 + c5, c4 + c6, c5 + c7, c6, c7]) := by
  have hb : N8 [c0, c1, c2, c3, c4, c5, c6, c7] < 2 ^ 64 := N8_b64 rfl (by
    intro b hb
    simp only [List.mem_cons, List.not_mem_nil, or_false] at hb
    omega)
  have h1 : q_ushr (lN (N8 [c0, c1, c2, c3, c4, c5, c6, c7])) (16 : Int32) = lN (N8 [c0, c1, c2, c3, c4, c5, c6, c7] / 2 ^ 16) := lN_ush (k := 16) hb (by decide)
  have h2 : N8 [c0, c1, c2, c3, c4, c5, c6, c7] / 2 ^ 16 = N8 [c2, c3, c4, c5, c6, c7] := by rw [N8_cons, N8_cons]; exact dv2 (by omega) (by omega)
  rw [h1, h2, lN_addd]
  congr 1
  simp only [N8_cons, N8_nil]
  omega
theorem J_s6 {c0 c1 c2 c3 c4 c5 c6 c7 : Nat} (q0 : c0 ≤ 32) (q1 : c1 ≤ 32) (q2 : c2 ≤ 32) (q3 : c3 ≤ 32) (q4 : c4 ≤ 32) (q5 : c5 ≤ 32) (q6 : c6 ≤ 32) (q7 : c7 ≤ 32) : (lN (N8 [c0, c1, c2, c3, c4, c5, c6, c7]) + q_ushr (lN (N8 [c0, c1, c2, c3, c4, c5, c6, c7])) (32 : Int32)).toInt32 &&& (127 : Int32) = nI (c0 + c4) := by
  have hb : N8 [c0, c1, c2, c3, c4, c5, c6, c7] < 2 ^ 64 := N8_b64 rfl (by
    intro b hb
    simp only [List.mem_cons, List.not_mem_nil, or_false] at hb
    omega)
  have h1 : q_ushr (lN (N8 [c0, c1, c2, c3, c4, c5, c6, c7])) (32 : Int32) = lN (N8 [c0, c1, c2, c3, c4, c5, c6, c7] / 2 ^ 32) := lN_ush (k := 32) hb (by decide)
  have h2 : N8 [c0, c1, c2, c3, c4, c5, c6, c7] / 2 ^ 32 = N8 [c4, c5, c6, c7] := by rw [N8_cons, N8_cons, N8_cons, N8_cons]; exact dv4 (by omega) (by omega) (by omega) (by omega)
  rw [h1, h2, lN_addd, lo7, N8_pl]
  congr 1
  omega
theorem J_bits (x : Int64) (σ : q_M) : fJ13_bitCount_95d88 x σ = some (nI (cnt x), σ) := by
  obtain ⟨v, hv, rfl⟩ : ∃ v, v < 2 ^ 64 ∧ x = lN v := ⟨x.toBitVec.toNat, x.toBitVec.isLt, Int64.toBitVec_inj.mp (by rw [lN_bv]; simp)⟩
  obtain ⟨bs, hl, hb, hN⟩ := N8_of 8 v (by rw [show (256 : Nat) ^ 8 = 2 ^ 64 from rfl]; exact hv)
  have hc : cnt (lN v) = (bs.map pop8).sum := by
    unfold cnt
    rw [← N8_ct bs hb, hl, hN]
    exact ctN_congr fun c hc => tb_lN v hc
  have m1 : ∀ b, b ∈ bs.map pb1 → b < 256 := fun b h => by
    obtain ⟨a, ha, rfl⟩ := List.mem_map.mp h
    exact (pb_tab a (hb a ha)).2.1
  have m2 : ∀ b, b ∈ (bs.map pb1).map pb2 → b < 256 ∧ b % 16 ≤ 4 ∧ b / 16 ≤ 4 := fun b h => by
    rw [List.map_map] at h
    obtain ⟨a, ha, rfl⟩ := List.mem_map.mp h
    have := pb_tab a (hb a ha)
    exact ⟨this.2.2.1, this.2.2.2.1, this.2.2.2.2.1⟩
  have e3 : ((bs.map pb1).map pb2).map (fun b => b % 16 + b / 16) = bs.map pop8 := by
    rw [List.map_map, List.map_map]
    exact List.map_congr_left fun b h => (pb_tab b (hb b h)).2.2.2.2.2.1
  have m3 : ∀ b, b ∈ bs.map pop8 → b ≤ 8 := fun b h => by
    obtain ⟨a, ha, rfl⟩ := List.mem_map.mp h
    exact (pb_tab a (hb a ha)).2.2.2.2.2.2
  have l1 : (bs.map pb1).length = 8 := by rw [List.length_map, hl]
  have l2 : ((bs.map pb1).map pb2).length = 8 := by rw [List.length_map, l1]
  have l3 : (bs.map pop8).length = 8 := by rw [List.length_map, hl]
  unfold fJ13_bitCount_95d88
  rw [J_s1 hv hl hb hN, ql, J_s2 l1 m1, ql, J_s3 l2 m2, e3, ql, hc]
  revert m3 l3
  generalize bs.map pop8 = ps
  intro m3 l3
  match ps, l3, m3 with
  | [c0, c1, c2, c3, c4, c5, c6, c7], _, m3 =>
    have q0 := m3 c0 (by simp)
    have q1 := m3 c1 (by simp)
    have q2 := m3 c2 (by simp)
    have q3 := m3 c3 (by simp)
    have q4 := m3 c4 (by simp)
    have q5 := m3 c5 (by simp)
    have q6 := m3 c6 (by simp)
    have q7 := m3 c7 (by simp)
    have hs : [c0, c1, c2, c3, c4, c5, c6, c7].sum = c0 + c1 + (c2 + c3) + (c4 + c5 + (c6 + c7)) := by
      simp only [List.sum_cons, List.sum_nil]
      omega
    rw [J_s4 q0 q1 q2 q3 q4 q5 q6 q7, ql, J_s5 (by omega) (by omega) (by omega) (by omega) (by omega) (by omega) (by omega) (by omega), ql, ql, J_s6 (by omega) (by omega) (by omega) (by omega) (by omega) (by omega) (by omega) (by omega), hs]
def ibc (x : Int32) : Int32 := ((fJ6_bitCount_0f7a4 x q_0).getD (0, q_0)).1
theorem J6_p (x : Int32) (σ : q_M) : fJ6_bitCount_0f7a4 x σ = some (ibc x, σ) := by
  unfold ibc fJ6_bitCount_0f7a4
  dsimp only [q_let, Option.getD]
theorem ibc_tab : ∀ k, k < 256 → ibc (nI k) = nI (pop8 k) := by decide +kernel
theorem J_bitsI {k : Nat} (hk : k < 256) (σ : q_M) : fJ6_bitCount_0f7a4 (nI k) σ = some (nI (pop8 k), σ) := by rw [J6_p, ibc_tab k hk]
