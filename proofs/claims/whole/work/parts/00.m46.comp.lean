/-! Sets that hang together. -/
def sbs (x y : Int64) : Prop := ∀ c, tb x c = true → tb y c = true
theorem sbs_eq {x y : Int64} (h1 : sbs x y) (h2 : sbs y x) : x = y := tb_ext fun c _ => Bool.eq_iff_iff.mpr ⟨h1 c, h2 c⟩
theorem sbs_rf (x : Int64) : sbs x x := fun _ h => h
theorem sbs_tr {x y z : Int64} (h1 : sbs x y) (h2 : sbs y z) : sbs x z := fun c h => h2 c (h1 c h)
theorem sbs_in {n : Nat} {x y : Int64} (h1 : sbs x y) (h2 : inB n y) : inB n x := fun c h => h2 c (h1 c h)
def dif (x y : Int64) : Int64 := x &&& (y ^^^ (-1))
theorem tb_dif {x y : Int64} {c : Nat} : tb (dif x y) c = true ↔ tb x c = true ∧ tb y c = false := by
  unfold dif
  rw [tb_and]
  rcases Nat.lt_or_ge c 64 with h | h
  · rw [tb_not h]; simp
  · rw [tb_big h]; simp
theorem dif_sbs (x y : Int64) : sbs (dif x y) x := fun _ h => (tb_dif.mp h).1
theorem or_as (x y z : Int64) : (x ||| y) ||| z = x ||| (y ||| z) := tb_ext fun c _ => by rw [tb_or, tb_or, tb_or, tb_or, Bool.or_assoc]
theorem zero_or (x : Int64) : 0 ||| x = x := tb_ext fun c _ => by rw [tb_or, tb_0, Bool.false_or]
def bit (c : Nat) : Int64 := q_shl 1 (nI c)
theorem tb_b {c : Nat} (hc : c < 64) {d : Nat} : tb (bit c) d = true ↔ d = c := by
  unfold bit
  rw [tb_bit hc, decide_eq_true_iff]
theorem bit_sbs {c : Nat} (hc : c < 64) {x : Int64} (h : tb x c = true) : sbs (bit c) x := fun d hd => by
  rw [(tb_b hc).mp hd]; exact h
theorem bit_n0 {c : Nat} (hc : c < 64) : bit c ≠ 0 := fun h => by
  have := (tb_b hc).mpr (rfl : c = c)
  rw [h, tb_0] at this; cases this
theorem ctN_sub {p q : Nat → Bool} : ∀ {m : Nat}, (∀ c, c < m → p c = true → q c = true) → ctN p m ≤ ctN q m
  | 0, _ => Nat.le_refl _
  | m + 1, h => by
    have ih := ctN_sub (m := m) (fun c hc => h c (by omega))
    have hm := h m (by omega)
    unfold ctN
    cases hp : p m with
    | false => simp; split <;> omega
    | true => rw [hm hp]; simp; exact ih
theorem ctN_lt {p q : Nat → Bool} {e : Nat} (h1 : p e = false) (h2 : q e = true) : ∀ {m : Nat}, e < m → (∀ c, c < m → p c = true → q c = true) → ctN p m < ctN q m
  | 0, he, _ => by omega
  | m + 1, he, h => by
    have hs := ctN_sub (m := m) (fun c hc => h c (by omega))
    have hm := h m (by omega)
    by_cases q0 : e = m
    · subst q0
      unfold ctN
      rw [h1, h2]
      simp
      omega
    · have ih := ctN_lt h1 h2 (m := m) (by omega) (fun c hc => h c (by omega))
      unfold ctN
      cases hp : p m with
      | false => simp; split <;> omega
      | true => rw [hm hp]; simp; exact ih
theorem cnt_lt {x y : Int64} (h : sbs x y) {e : Nat} (h1 : tb x e = false) (h2 : tb y e = true) : cnt x < cnt y := ctN_lt h1 h2 (tb_lt h2) (fun c _ => h c)
theorem sbs_ne {x y : Int64} (h : sbs x y) (hn : x ≠ y) : ∃ e, tb x e = false ∧ tb y e = true := by
  rcases Classical.em (∃ e, tb x e = false ∧ tb y e = true) with q | q
  · exact q
  · exact absurd (sbs_eq h (fun c hc => by
      cases z : tb x c with
      | true => rfl
      | false => exact absurd ⟨c, z, hc⟩ q)) hn
theorem cnt_0 {x : Int64} (h : cnt x = 0) : x = 0 := by
  rcases Classical.em (x = 0) with q | q
  · exact q
  · obtain ⟨c, h1, h2, _⟩ := tb_ne0 q
    have := cnt_lt (x := 0) (y := x) (fun c hc => by rw [tb_0] at hc; cases hc) (tb_0 c) h2
    omega
theorem cnt_z : cnt 0 = 0 := ctN_none fun c _ => tb_0 c
/-- a step of hanging together -/
def stp (n : Nat) (S x : Int64) : Int64 := x ||| (bsd n x 6 &&& S)
theorem tb_stp {n : Nat} (hn : Sz n) {S x : Int64} {c : Nat} : tb (stp n S x) c = true ↔ tb x c = true ∨ ((c < n * n * n ∧ ∃ d, adj n c d ∧ tb x d = true) ∧ tb S c = true) := by
  unfold stp
  rw [tb_or, Bool.or_eq_true, tb_and, Bool.and_eq_true, tb_bs6 hn]
theorem stp_sbs (n : Nat) (S x : Int64) : sbs x (stp n S x) := fun c h => by
  unfold stp
  rw [tb_or, h, Bool.true_or]
theorem stp_in {n : Nat} (hn : Sz n) {S x : Int64} (h : sbs x S) : sbs (stp n S x) S := fun c hc => by
  rcases (tb_stp hn).mp hc with q | q
  · exact h c q
  · exact q.2
def itr (n : Nat) (S x : Int64) : Nat → Int64
  | 0 => x
  | m + 1 => stp n S (itr n S x m)
theorem itr_in {n : Nat} (hn : Sz n) {S x : Int64} (h : sbs x S) : ∀ m, sbs (itr n S x m) S
  | 0 => h
  | m + 1 => stp_in hn (itr_in hn h m)
theorem itr_up (n : Nat) (S x : Int64) : ∀ m, sbs x (itr n S x m)
  | 0 => sbs_rf x
  | m + 1 => sbs_tr (itr_up n S x m) (stp_sbs n S _)
theorem itr_co {n : Nat} {S x : Int64} {m : Nat} (h : stp n S (itr n S x m) = itr n S x m) : ∀ j, itr n S x (m + j) = itr n S x m
  | 0 => rfl
  | j + 1 => by
    show stp n S (itr n S x (m + j)) = _
    rw [itr_co h j, h]
theorem itr_cn (n : Nat) (S x : Int64) : ∀ m, stp n S (itr n S x m) = itr n S x m ∨ m ≤ cnt (itr n S x m)
  | 0 => Or.inr (Nat.zero_le _)
  | m + 1 => by
    rcases Classical.em (stp n S (itr n S x m) = itr n S x m) with q | q
    · left
      have : itr n S x (m + 1) = itr n S x m := q
      rw [this, q]
    · right
      rcases itr_cn n S x m with z | z
      · exact absurd z q
      · obtain ⟨e, h1, h2⟩ := sbs_ne (stp_sbs n S (itr n S x m)) (fun w => q w.symm)
        have := cnt_lt (stp_sbs n S (itr n S x m)) h1 h2
        show m + 1 ≤ cnt (stp n S (itr n S x m))
        omega
theorem itr_64 (n : Nat) (S x : Int64) : stp n S (itr n S x 64) = itr n S x 64 := by
  rcases itr_cn n S x 65 with h | h
  · rcases itr_cn n S x 64 with z | z
    · exact z
    · rcases Classical.em (stp n S (itr n S x 64) = itr n S x 64) with q | q
      · exact q
      · obtain ⟨e, h1, h2⟩ := sbs_ne (stp_sbs n S (itr n S x 64)) (fun w => q w.symm)
        have h3 := cnt_lt (stp_sbs n S (itr n S x 64)) h1 h2
        have h4 := cnt_le (stp n S (itr n S x 64))
        omega
  · have := cnt_le (itr n S x 65)
    omega
/-- all of a set that hangs together with some of it -/
def part (n : Nat) (S x : Int64) : Int64 := itr n S x 64
def Cls (n : Nat) (S Q : Int64) : Prop := ∀ c d, tb Q c = true → adj n c d → tb S d = true → tb Q d = true
theorem part_in {n : Nat} (hn : Sz n) {S x : Int64} (h : sbs x S) : sbs (part n S x) S := itr_in hn h 64
theorem part_up (n : Nat) (S x : Int64) : sbs x (part n S x) := itr_up n S x 64
theorem part_cl {n : Nat} (hn : Sz n) {S x : Int64} (hS : inB n S) (h : sbs x S) : Cls n S (part n S x) := by
  intro c d hc ha hd
  have hcS := part_in hn h c hc
  have h2 : tb (stp n S (part n S x)) d = true := (tb_stp hn).mpr (Or.inr ⟨⟨hS d hd, c, adj_sym hn (hS c hcS) ha, hc⟩, hd⟩)
  have h3 : stp n S (part n S x) = part n S x := itr_64 n S x
  rw [h3] at h2
  exact h2
theorem itr_min {n : Nat} (hn : Sz n) {S x Q : Int64} (h1 : sbs x Q) (h2 : Cls n S Q) : ∀ m, sbs (itr n S x m) Q
  | 0 => h1
  | m + 1 => fun c hc => by
    rcases (tb_stp hn).mp hc with q | ⟨⟨q1, d, q2, q3⟩, q4⟩
    · exact itr_min hn h1 h2 m c q
    · exact h2 d c (itr_min hn h1 h2 m d q3) (adj_sym hn q1 q2) q4
theorem part_min {n : Nat} (hn : Sz n) {S x Q : Int64} (h1 : sbs x Q) (h2 : Cls n S Q) : sbs (part n S x) Q := itr_min hn h1 h2 64
theorem part_0 {n : Nat} (hn : Sz n) (S : Int64) : part n S 0 = 0 := sbs_eq (part_min hn (sbs_rf 0) (fun c d hc _ _ => by rw [tb_0] at hc; cases hc)) (fun c hc => by rw [tb_0] at hc; cases hc)
theorem part_eq {n : Nat} (hn : Sz n) {S : Int64} (hS : inB n S) {c d : Nat} (hc : tb S c = true) (hd : tb (part n S (bit c)) d = true) : part n S (bit d) = part n S (bit c) := by
  have c64 := tb_lt hc
  have d64 := tb_lt hd
  have sc : sbs (bit c) S := bit_sbs c64 hc
  have hdS := part_in hn sc d hd
  have sd : sbs (bit d) S := bit_sbs d64 hdS
  apply sbs_eq
  · exact part_min hn (bit_sbs d64 hd) (part_cl hn hS sc)
  · refine part_min hn (bit_sbs c64 ?_) (part_cl hn hS sd)
    cases z : tb (part n S (bit d)) c with
    | true => rfl
    | false =>
      have hQ : Cls n S (dif (part n S (bit c)) (part n S (bit d))) := by
        intro e f he ha hf
        obtain ⟨e1, e2⟩ := tb_dif.mp he
        refine tb_dif.mpr ⟨part_cl hn hS sc e f e1 ha hf, ?_⟩
        cases y : tb (part n S (bit d)) f with
        | false => rfl
        | true =>
          have eS := part_in hn sc e e1
          rw [part_cl hn hS sd f e y (adj_sym hn (hS e eS) ha) eS] at e2
          cases e2
      have hm := part_min hn (bit_sbs c64 (tb_dif.mpr ⟨part_up n S (bit c) c ((tb_b c64).mpr rfl), z⟩)) hQ
      have h1 := (tb_dif.mp (hm d hd)).2
      rw [part_up n S (bit d) d ((tb_b d64).mpr rfl)] at h1
      cases h1
/-- a set of whole parts of another one -/
def Sep (n : Nat) (R S : Int64) : Prop := sbs R S ∧ Cls n S R
theorem sep_rf {n : Nat} (S : Int64) : Sep n S S := ⟨sbs_rf S, fun _ _ _ _ h => h⟩
theorem part_sep {n : Nat} (hn : Sz n) {R S x : Int64} (hS : inB n S) (h : Sep n R S) (hx : sbs x R) : part n R x = part n S x := by
  have hR := sbs_in h.1 hS
  apply sbs_eq
  · refine part_min hn (part_up n S x) ?_
    intro c d hc ha hd
    exact part_cl hn hS (sbs_tr hx h.1) c d hc ha (h.1 d hd)
  · refine part_min hn (part_up n R x) ?_
    intro c d hc ha hd
    exact part_cl hn hR hx c d hc ha (h.2 c d (part_in hn hx c hc) ha hd)
theorem sep_dif {n : Nat} (hn : Sz n) {R S x : Int64} (hS : inB n S) (h : Sep n R S) (hx : sbs x R) : Sep n (dif R (part n R x)) S := by
  refine ⟨sbs_tr (dif_sbs _ _) h.1, ?_⟩
  intro c d hc ha hd
  obtain ⟨h1, h2⟩ := tb_dif.mp hc
  refine tb_dif.mpr ⟨h.2 c d h1 ha hd, ?_⟩
  cases z : tb (part n R x) d with
  | false => rfl
  | true =>
    rw [part_cl hn (sbs_in h.1 hS) hx d c z (adj_sym hn (hS c (h.1 c h1)) ha) h1] at h2
    cases h2
/-- how many parts -/
def cpF (n : Nat) : Nat → Int64 → Nat
  | 0, _ => 0
  | f + 1, R => if R = 0 then 0 else 1 + cpF n f (dif R (part n R (R &&& -R)))
theorem low_sbs (R : Int64) : sbs (R &&& -R) R := fun c h => by
  rw [tb_and, Bool.and_eq_true] at h
  exact h.1
theorem low_bit {R : Int64} (h : R ≠ 0) : ∃ l, l < 64 ∧ tb R l = true ∧ (∀ j, j < l → tb R j = false) ∧ (R &&& -R) = bit l := by
  obtain ⟨l, h1, h2, h3⟩ := tb_ne0 h
  exact ⟨l, h1, h2, h3, tb_low1 h1 h2 h3⟩
theorem cnt_dp {n : Nat} {R x : Int64} {c : Nat} (hx : tb x c = true) (hc : tb R c = true) : cnt (dif R (part n R x)) < cnt R := by
  refine cnt_lt (dif_sbs _ _) (e := c) ?_ hc
  cases z : tb (dif R (part n R x)) c with
  | false => rfl
  | true =>
    have := (tb_dif.mp z).2
    rw [part_up n R x c hx] at this; cases this
theorem cnt_dl {n : Nat} {R : Int64} (h : R ≠ 0) : cnt (dif R (part n R (R &&& -R))) < cnt R := by
  obtain ⟨l, h1, h2, h3, h4⟩ := low_bit h
  rw [h4]
  exact cnt_dp ((tb_b h1).mpr rfl) h2
theorem cpF_st (n : Nat) : ∀ (f g : Nat) (R : Int64), cnt R ≤ f → cnt R ≤ g → cpF n f R = cpF n g R
  | 0, g, R, hf, _ => by
    have : R = 0 := cnt_0 (by omega)
    subst this
    cases g with
    | zero => rfl
    | succ g => unfold cpF; rw [if_pos rfl]
  | f + 1, 0, R, _, hg => by
    have : R = 0 := cnt_0 (by omega)
    subst this
    unfold cpF; rw [if_pos rfl]
  | f + 1, g + 1, R, hf, hg => by
    unfold cpF
    rcases Classical.em (R = 0) with q | q
    · rw [if_pos q, if_pos q]
    · have := cnt_dl (n := n) q
      rw [if_neg q, if_neg q, cpF_st n f g _ (by omega) (by omega)]
def cp (n : Nat) (R : Int64) : Nat := cpF n 64 R
theorem cp_0 (n : Nat) : cp n 0 = 0 := by unfold cp cpF; rw [if_pos rfl]
theorem cp_s {n : Nat} {R : Int64} (h : R ≠ 0) : cp n R = 1 + cp n (dif R (part n R (R &&& -R))) := by
  have h1 : cp n R = cpF n 65 R := cpF_st n 64 65 R (cnt_le R) (Nat.le_trans (cnt_le R) (by decide))
  rw [h1]
  unfold cpF
  rw [if_neg h]
  rfl
theorem cp_le : ∀ (m : Nat) (n : Nat) (R : Int64), cnt R ≤ m → cp n R ≤ m
  | 0, n, R, h => by rw [cnt_0 (x := R) (by omega), cp_0]; omega
  | m + 1, n, R, h => by
    rcases Classical.em (R = 0) with q | q
    · rw [q, cp_0]; omega
    · have h1 := cnt_dl (n := n) q
      have h2 := cp_le m n (dif R (part n R (R &&& -R))) (by omega)
      rw [cp_s q]
      omega
theorem cp_64 (n : Nat) (R : Int64) : cp n R ≤ 64 := cp_le 64 n R (cnt_le R)
theorem dif_dif (x y z : Int64) : dif (dif x y) z = dif (dif x z) y := tb_ext fun c _ => by
  rw [Bool.eq_iff_iff, tb_dif, tb_dif, tb_dif, tb_dif]
  exact ⟨fun ⟨⟨a, b⟩, d⟩ => ⟨⟨a, d⟩, b⟩, fun ⟨⟨a, b⟩, d⟩ => ⟨⟨a, d⟩, b⟩⟩
/-- any part may be taken first -/
theorem cp_pk {n : Nat} (hn : Sz n) : ∀ (m : Nat) (R : Int64), cnt R ≤ m → inB n R → ∀ c, tb R c = true → cp n R = 1 + cp n (dif R (part n R (bit c)))
  | 0, R, h, _, c, hc => by
    rw [cnt_0 (x := R) (by omega), tb_0] at hc; cases hc
  | m + 1, R, h, hR, c, hc => by
    have hne : R ≠ 0 := fun z => by rw [z, tb_0] at hc; cases hc
    obtain ⟨l, l1, l2, l3, l4⟩ := low_bit hne
    have c64 := tb_lt hc
    have sl : sbs (bit l) R := bit_sbs l1 l2
    have sc : sbs (bit c) R := bit_sbs c64 hc
    have e1 : cp n R = 1 + cp n (dif R (part n R (bit l))) := by rw [← l4]; exact cp_s hne
    cases z : tb (part n R (bit l)) c with
    | true => rw [e1, part_eq hn hR l2 z]
    | false =>
      have S1 := sep_dif hn hR (sep_rf (n := n) R) sl
      have S2 := sep_dif hn hR (sep_rf (n := n) R) sc
      have c1 : tb (dif R (part n R (bit l))) c = true := tb_dif.mpr ⟨hc, z⟩
      have z2 : tb (part n R (bit c)) l = false := by
        cases y : tb (part n R (bit c)) l with
        | false => rfl
        | true =>
          have := part_eq hn hR hc y
          rw [this, part_up n R (bit c) c ((tb_b c64).mpr rfl)] at z
          cases z
      have l5 : tb (dif R (part n R (bit c))) l = true := tb_dif.mpr ⟨l2, z2⟩
      have hd := cnt_dp (n := n) (x := bit l) ((tb_b l1).mpr rfl) l2
      have e2 := cp_pk hn m (dif R (part n R (bit l))) (by omega) (sbs_in (dif_sbs _ _) hR) c c1
      rw [part_sep hn hR S1 (bit_sbs c64 c1)] at e2
      have hne2 : dif R (part n R (bit c)) ≠ 0 := fun w => by rw [w, tb_0] at l5; cases l5
      have e3 := cp_s (n := n) hne2
      have l6 : (dif R (part n R (bit c)) &&& -dif R (part n R (bit c))) = bit l := tb_low1 l1 l5 (fun j hj => by
        cases y : tb (dif R (part n R (bit c))) j with
        | false => rfl
        | true =>
          have := (tb_dif.mp y).1
          rw [l3 j hj] at this; cases this)
      rw [l6, part_sep hn hR S2 (bit_sbs l1 l5)] at e3
      rw [e1, e2, e3, dif_dif]
theorem cp_pick {n : Nat} (hn : Sz n) {R : Int64} (hR : inB n R) {c : Nat} (hc : tb R c = true) : cp n R = 1 + cp n (dif R (part n R (bit c))) := cp_pk hn 64 R (cnt_le R) hR c hc
theorem cp_mn {n : Nat} (hn : Sz n) : ∀ (m : Nat) (U W : Int64), cnt U ≤ m → inB n U → Sep n W U → cp n W ≤ cp n U
  | 0, U, W, h, _, hs => by
    have h0 : U = 0 := cnt_0 (by omega)
    subst h0
    have : W = 0 := sbs_eq hs.1 (fun c hc => by rw [tb_0] at hc; cases hc)
    rw [this]; exact Nat.le_refl _
  | m + 1, U, W, h, hU, hs => by
    rcases Classical.em (W = U) with q | q
    · rw [q]; exact Nat.le_refl _
    · obtain ⟨c, h1, h2⟩ := sbs_ne hs.1 q
      have c64 := tb_lt h2
      have sc : sbs (bit c) U := bit_sbs c64 h2
      have hd := cnt_dp (n := n) (x := bit c) ((tb_b c64).mpr rfl) h2
      have hW : Sep n W (dif U (part n U (bit c))) := by
        refine ⟨fun e he => tb_dif.mpr ⟨hs.1 e he, ?_⟩, fun e f he ha hf => hs.2 e f he ha ((tb_dif.mp hf).1)⟩
        cases z : tb (part n U (bit c)) e with
        | false => rfl
        | true =>
          have h3 := part_eq hn hU h2 z
          have h4 := part_min hn (bit_sbs (tb_lt he) he) hs.2 (S := U)
          rw [h3] at h4
          have h5 := h4 c (part_up n U (bit c) c ((tb_b c64).mpr rfl))
          rw [h1] at h5; cases h5
      have ih := cp_mn hn m (dif U (part n U (bit c))) W (by omega) (sbs_in (dif_sbs _ _) hU) hW
      have := cp_pick hn hU h2
      omega
theorem cp_n0 {n : Nat} {R : Int64} : cp n R = 0 ↔ R = 0 := by
  constructor
  · intro h
    rcases Classical.em (R = 0) with q | q
    · exact q
    · rw [cp_s q] at h; omega
  · intro h; rw [h, cp_0]
theorem dif_0 {x y : Int64} : dif x y = 0 ↔ sbs x y := by
  constructor
  · intro h c hc
    cases z : tb y c with
    | true => rfl
    | false =>
      have := tb_dif.mpr ⟨hc, z⟩
      rw [h, tb_0] at this; cases this
  · intro h
    apply sbs_eq
    · intro c hc
      obtain ⟨h1, h2⟩ := tb_dif.mp hc
      rw [h c h1] at h2; cases h2
    · intro c hc; rw [tb_0] at hc; cases hc
/-- one part -/
theorem one_part {n : Nat} (hn : Sz n) {S : Int64} : part n S (S &&& -S) = S ↔ cp n S ≤ 1 := by
  rcases Classical.em (S = 0) with q | q
  · subst q
    rw [cp_0]
    exact ⟨fun _ => by omega, fun _ => part_0 hn 0⟩
  · rw [cp_s q]
    constructor
    · intro h
      rw [h, dif_0.mpr (sbs_rf S), cp_0]; omega
    · intro h
      have : cp n (dif S (part n S (S &&& -S))) = 0 := by omega
      exact sbs_eq (part_in hn (low_sbs S)) (dif_0.mp (cp_n0.mp this))
/-- a cube that holds a set together -/
theorem holds_ax {n : Nat} (hn : Sz n) {S T near : Int64} (hS : inB n S) {v : Nat} (hv : tb S v = true) (hTe : dif S (bit v) = T) (hTm : ∀ c, tb T c = true ↔ tb S c = true ∧ c ≠ v) (hnear : ∀ c, tb near c = true ↔ adj n v c ∧ tb S c = true ∧ c ≠ v) : (cp n S < cp n T) ↔ dif near (part n T (near &&& -near)) ≠ 0 := by
  have v64 := tb_lt hv
  have sv : sbs (bit v) S := bit_sbs v64 hv
  have hT : inB n T := fun c hc => hS c ((hTm c).mp hc).1
  have e0 := cp_pick hn hS hv
  have vP : tb (part n S (bit v)) v = true := part_up n S (bit v) v ((tb_b v64).mpr rfl)
  rcases Classical.em (near = 0) with q | q
  · have hz : (near &&& -near) = 0 := by rw [q]; decide
    rw [hz, part_0 hn, q, show dif 0 0 = 0 by decide]
    have hp : part n S (bit v) = bit v := sbs_eq (part_min hn (sbs_rf _) (fun c d hc ha hd => by
      have := (tb_b v64).mp hc
      subst this
      by_cases w : d = c
      · rw [w]; exact hc
      · have := (hnear d).mpr ⟨ha, hd, w⟩
        rw [q, tb_0] at this; cases this)) (part_up n S (bit v))
    rw [hp] at e0
    rw [hTe] at e0
    constructor
    · intro h; omega
    · intro h; exact absurd rfl h
  · obtain ⟨l, l1, l2, l3, l4⟩ := low_bit q
    rw [l4]
    obtain ⟨a1, a2, a3⟩ := (hnear l).mp l2
    have lT : tb T l = true := (hTm l).mpr ⟨a2, a3⟩
    have slT : sbs (bit l) T := bit_sbs l1 lT
    have eT := cp_pick hn hT lT
    constructor
    · intro hlt hz
      have hs := dif_0.mp hz
      have hP : ∀ c, tb (part n T (bit l)) c = true ↔ tb (part n S (bit v)) c = true ∧ c ≠ v := by
        intro c
        constructor
        · intro hc
          have hcT := (hTm c).mp (part_in hn slT c hc)
          refine ⟨?_, hcT.2⟩
          have hm : sbs (part n T (bit l)) (part n S (bit v)) := part_min hn (bit_sbs l1 (part_cl hn hS sv v l vP a1 a2)) (fun e f he ha hf => part_cl hn hS sv e f he ha ((hTm f).mp hf).1)
          exact hm c hc
        · rintro ⟨hc, hcv⟩
          have hm : sbs (part n S (bit v)) (part n T (bit l) ||| bit v) := by
            refine part_min hn (fun e he => by rw [tb_or, he, Bool.or_true]) ?_
            intro e f he ha hf
            rw [tb_or, Bool.or_eq_true]
            by_cases w : f = v
            · exact Or.inr ((tb_b v64).mpr w)
            · left
              rw [tb_or, Bool.or_eq_true] at he
              rcases he with he | he
              · exact part_cl hn hT slT e f he ha ((hTm f).mpr ⟨hf, w⟩)
              · have := (tb_b v64).mp he
                subst this
                exact hs f ((hnear f).mpr ⟨ha, hf, w⟩)
          have h9 := hm c hc
          rw [tb_or, Bool.or_eq_true] at h9
          rcases h9 with h9 | h9
          · exact h9
          · exact absurd ((tb_b v64).mp h9) hcv
      have hd : dif T (part n T (bit l)) = dif S (part n S (bit v)) := tb_ext fun c _ => by
        rw [Bool.eq_iff_iff, tb_dif, tb_dif]
        constructor
        · rintro ⟨h1, h2⟩
          have h3 := (hTm c).mp h1
          refine ⟨h3.1, ?_⟩
          cases z : tb (part n S (bit v)) c with
          | false => rfl
          | true =>
            rw [(hP c).mpr ⟨z, h3.2⟩] at h2; cases h2
        · rintro ⟨h1, h2⟩
          have h3 : c ≠ v := fun z => by rw [z, vP] at h2; cases h2
          refine ⟨(hTm c).mpr ⟨h1, h3⟩, ?_⟩
          cases z : tb (part n T (bit l)) c with
          | false => rfl
          | true =>
            rw [((hP c).mp z).1] at h2; cases h2
      rw [hd] at eT
      omega
    · intro hz
      have hz2 : ∃ e, tb near e = true ∧ tb (part n T (bit l)) e = false := by
        obtain ⟨e, _, h2, _⟩ := tb_ne0 hz
        exact ⟨e, tb_dif.mp h2⟩
      obtain ⟨e, e1, e2⟩ := hz2
      obtain ⟨b1, b2, b3⟩ := (hnear e).mp e1
      have eT1 : tb T e = true := (hTm e).mpr ⟨b2, b3⟩
      have e64 := tb_lt eT1
      have S1 := sep_dif hn hT (sep_rf (n := n) T) slT
      have eR : tb (dif T (part n T (bit l))) e = true := tb_dif.mpr ⟨eT1, e2⟩
      have hR : inB n (dif T (part n T (bit l))) := sbs_in (dif_sbs _ _) hT
      have eR1 := cp_pick hn hR eR
      rw [part_sep hn hT S1 (bit_sbs e64 eR)] at eR1
      have hW : Sep n (dif S (part n S (bit v))) (dif (dif T (part n T (bit l))) (part n T (bit e))) := by
        have sub1 : ∀ x, tb T x = true → adj n v x → sbs (part n T (bit x)) (part n S (bit v)) := fun x hx ha =>
          part_min hn (bit_sbs (tb_lt hx) (part_cl hn hS sv v x vP ha ((hTm x).mp hx).1)) (fun e f he ha hf => part_cl hn hS sv e f he ha ((hTm f).mp hf).1)
        refine ⟨fun c hc => ?_, fun c d hc ha hd => ?_⟩
        · obtain ⟨h1, h2⟩ := tb_dif.mp hc
          have h3 : c ≠ v := fun z => by rw [z, vP] at h2; cases h2
          refine tb_dif.mpr ⟨tb_dif.mpr ⟨(hTm c).mpr ⟨h1, h3⟩, ?_⟩, ?_⟩
          · cases z : tb (part n T (bit l)) c with
            | false => rfl
            | true => rw [sub1 l lT a1 c z] at h2; cases h2
          · cases z : tb (part n T (bit e)) c with
            | false => rfl
            | true => rw [sub1 e eT1 b1 c z] at h2; cases h2
        · obtain ⟨h1, h2⟩ := tb_dif.mp hc
          have hdT := (tb_dif.mp ((tb_dif.mp hd).1)).1
          have hdS := ((hTm d).mp hdT).1
          refine tb_dif.mpr ⟨hdS, ?_⟩
          cases z : tb (part n S (bit v)) d with
          | false => rfl
          | true =>
            rw [part_cl hn hS sv d c z (adj_sym hn (hS c h1) ha) h1] at h2
            cases h2
      have := cp_mn hn 64 _ _ (cnt_le _) (sbs_in (dif_sbs _ _) hR) hW
      omega
theorem holds_tg {n : Nat} (hn : Sz n) {S : Int64} (hS : inB n S) {v : Nat} (hv : tb S v = true) : (cp n S < cp n (dif S (bit v))) ↔ dif (bsd n (bit v) 6 &&& dif S (bit v)) (part n (dif S (bit v)) ((bsd n (bit v) 6 &&& dif S (bit v)) &&& -(bsd n (bit v) 6 &&& dif S (bit v)))) ≠ 0 := by
  have v64 := tb_lt hv
  refine holds_ax hn hS hv rfl (fun c => ?_) (fun c => ?_)
  · rw [tb_dif]
    constructor
    · rintro ⟨h1, h2⟩
      refine ⟨h1, fun z => ?_⟩
      rw [z, (tb_b v64).mpr rfl] at h2; cases h2
    · rintro ⟨h1, h2⟩
      refine ⟨h1, ?_⟩
      cases z : tb (bit v) c with
      | false => rfl
      | true => exact absurd ((tb_b v64).mp z) h2
  · rw [tb_and, Bool.and_eq_true, tb_bs6 hn, tb_dif]
    constructor
    · rintro ⟨⟨h1, d, h2, h3⟩, h4, h5⟩
      have := (tb_b v64).mp h3
      subst this
      refine ⟨adj_sym hn h1 h2, h4, fun z => ?_⟩
      rw [z, (tb_b v64).mpr rfl] at h5; cases h5
    · rintro ⟨h1, h2, h3⟩
      refine ⟨⟨hS c h2, v, adj_sym hn (hS v hv) h1, (tb_b v64).mpr rfl⟩, h2, ?_⟩
      cases z : tb (bit v) c with
      | false => rfl
      | true => exact absurd ((tb_b v64).mp z) h3
