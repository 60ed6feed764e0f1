/-! Both sides find the same parts. -/
theorem low_and (R : Int64) : (R &&& -R) &&& R = R &&& -R := tb_ext fun c _ => by
  rw [tb_and, tb_and]
  cases tb R c <;> simp
theorem X0_partAround {σ : q_M} {k n : Nat} {S x : Int64} (B : Blk σ k n) (hS : inB n S) (hx : sbs x S) : fX0_partAround k S x σ = some (part n S x, σ) := by
  have hn := B.1
  have hx2 : x &&& S = x := sbs_eq (fun c hc => by rw [tb_and, Bool.and_eq_true] at hc; exact hc.1) (fun c hc => by rw [tb_and, hc, hx c hc]; rfl)
  have key : ∀ d i f, i + d = 64 → d < f → fX0_partAround_c8 k S x f (itr n S x i) (nI i) σ = some (part n S x, σ) := by
    intro d
    induction d with
    | zero =>
      intro i f h1 h2
      obtain ⟨f, rfl⟩ : ∃ z, f = z + 1 := ⟨f - 1, by omega⟩
      have : i = 64 := by omega
      subst this
      show fX0_partAround_c8b k S x (fX0_partAround_c8 k S x f) (itr n S x 64) (nI 64) σ = _
      unfold fX0_partAround_c8b
      rw [if_pos (show (64 : Int32) ≤ nI 64 by decide)]
      rfl
    | succ d ih =>
      intro i f h1 h2
      obtain ⟨f, rfl⟩ : ∃ z, f = z + 1 := ⟨f - 1, by omega⟩
      show fX0_partAround_c8b k S x (fX0_partAround_c8 k S x f) (itr n S x i) (nI i) σ = _
      unfold fX0_partAround_c8b
      rw [if_neg (show ¬ (64 : Int32) ≤ nI i from nI_ge (a := i) (b := 64) (by omega) (by decide)), X0_beside B (sbs_in (itr_in hn hx i) hS), bs]
      by_cases q : stp n S (itr n S x i) = itr n S x i
      · have q2 : (itr n S x i ||| (bsd n (itr n S x i) 6 &&& S)) = itr n S x i := q
        rw [if_pos q2]
        have := itr_co q (64 - i)
        rw [show i + (64 - i) = 64 by omega] at this
        unfold part
        rw [this]
      · have q2 : ¬ (itr n S x i ||| (bsd n (itr n S x i) 6 &&& S)) = itr n S x i := q
        rw [if_neg q2, nI_1]
        exact ih (i + 1) f (by omega) (by omega)
  unfold fX0_partAround
  rw [hx2]
  exact key 64 0 q_FU (by omega) (by decide)
theorem X0_isOnePart {σ : q_M} {k n : Nat} {S : Int64} (B : Blk σ k n) (hS : inB n S) : fX0_isOnePart k S σ = some (if cp n S ≤ 1 then 1 else 0, σ) := by
  unfold fX0_isOnePart
  rw [X0_partAround B hS (low_sbs S), bs]
  by_cases q : cp n S ≤ 1
  · rw [if_pos ((one_part B.1).mpr q), if_pos q]
  · rw [if_neg (fun z => q ((one_part B.1).mp z)), if_neg q]
theorem X0_countParts {σ : q_M} {k n : Nat} {S : Int64} (B : Blk σ k n) (hS : inB n S) : fX0_countParts k S σ = some (nI (cp n S), σ) := by
  have hn := B.1
  have key : ∀ d i f p (R : Int64), i + d = 64 → d < f → cnt R ≤ d → inB n R → fX0_countParts_c8 k S f (nI p) R (nI i) σ = some (nI (p + cp n R), σ) := by
    intro d
    induction d with
    | zero =>
      intro i f p R h1 h2 h3 hR
      obtain ⟨f, rfl⟩ : ∃ z, f = z + 1 := ⟨f - 1, by omega⟩
      have : i = 64 := by omega
      subst this
      show fX0_countParts_c8b k S (fX0_countParts_c8 k S f) (nI p) R (nI 64) σ = _
      unfold fX0_countParts_c8b
      rw [if_pos (show (64 : Int32) ≤ nI 64 by decide), cnt_0 (x := R) (by omega), cp_0]
      rfl
    | succ d ih =>
      intro i f p R h1 h2 h3 hR
      obtain ⟨f, rfl⟩ : ∃ z, f = z + 1 := ⟨f - 1, by omega⟩
      show fX0_countParts_c8b k S (fX0_countParts_c8 k S f) (nI p) R (nI i) σ = _
      unfold fX0_countParts_c8b
      rw [if_neg (show ¬ (64 : Int32) ≤ nI i from nI_ge (a := i) (b := 64) (by omega) (by decide))]
      by_cases q : R = 0
      · rw [if_pos q, q, cp_0]
        rfl
      · have h4 := cnt_dl (n := n) q
        rw [if_neg q, X0_partAround B hR (low_sbs R), bs, ql, nI_1, nI_1]
        have := ih (i + 1) f (p + 1) (dif R (part n R (R &&& -R))) (by omega) (by omega) (by omega) (sbs_in (dif_sbs _ _) hR)
        rw [cp_s q, show p + (1 + cp n (dif R (part n R (R &&& -R)))) = p + 1 + cp n (dif R (part n R (R &&& -R))) by omega]
        exact this
  unfold fX0_countParts
  have := key 64 0 q_FU 0 S (by omega) (by decide) (cnt_le S) hS
  rw [Nat.zero_add] at this
  exact this
theorem X0_holdsTogether {σ : q_M} {k n v : Nat} {S : Int64} (B : Blk σ k n) (hS : inB n S) (hv : tb S v = true) : fX0_holdsTogether k S (q_shl 1 (nI v)) σ = some (if cp n S < cp n (dif S (bit v)) then 1 else 0, σ) := by
  have hn := B.1
  have v64 := tb_lt hv
  have hb : inB n (bit v) := sbs_in (bit_sbs v64 hv) hS
  unfold fX0_holdsTogether
  rw [ql, show q_shl 1 (nI v) = bit v from rfl, X0_beside B hb, bs, X0_partAround B (S := S &&& (bit v ^^^ (-1))) (x := (bsd n (bit v) 6 &&& (S &&& (bit v ^^^ (-1)))) &&& -(bsd n (bit v) 6 &&& (S &&& (bit v ^^^ (-1))))) (inB_and_l hS) (sbs_tr (low_sbs _) (fun c hc => by rw [tb_and, Bool.and_eq_true] at hc; exact hc.2)), bs]
  have h := holds_tg hn hS hv
  by_cases q : cp n S < cp n (dif S (bit v))
  · rw [if_pos q]
    exact if_neg (h.mp q)
  · rw [if_neg q]
    exact if_pos (Classical.byContradiction fun z => q (h.mpr z))
/-- the neighbours of one cube that a set has -/
def nb1 (n : Nat) (S : Int64) (d w : Nat) : Int64 := match nbr n d w with
  | some e => if tb S e then bit e else 0
  | none => 0
theorem nb1_s {n : Nat} {S : Int64} {d w e : Nat} (h : nbr n d w = some e) : nb1 n S d w = if tb S e then bit e else 0 := by unfold nb1; rw [h]
theorem nb1_n {n : Nat} {S : Int64} {d w : Nat} (h : nbr n d w = none) : nb1 n S d w = 0 := by unfold nb1; rw [h]
def ngb (n : Nat) (S : Int64) (d : Nat) : Nat → Int64
  | 0 => 0
  | w + 1 => ngb n S d w ||| nb1 n S d w
theorem tb_nb1 {n : Nat} (hn : Sz n) {S : Int64} {d w : Nat} (hd : d < n * n * n) (hw : w < 6) {e : Nat} : tb (nb1 n S d w) e = true ↔ nbr n d w = some e ∧ tb S e = true := by
  have h64 := hn.cube
  cases q : nbr n d w with
  | none => rw [nb1_n q, tb_0]; simp
  | some f =>
    have hf := nbr_lt hn hd hw q
    rw [nb1_s q]
    by_cases z : tb S f = true
    · rw [if_pos z, tb_b (by omega)]
      constructor
      · intro h; subst h; exact ⟨rfl, z⟩
      · rintro ⟨h, _⟩; exact (Option.some.inj h).symm
    · rw [if_neg z, tb_0]
      constructor
      · intro h; cases h
      · rintro ⟨h, h2⟩
        rw [← Option.some.inj h] at h2
        exact absurd h2 z
theorem tb_ngb {n : Nat} (hn : Sz n) {S : Int64} {d : Nat} (hd : d < n * n * n) {e : Nat} : ∀ m, m ≤ 6 → (tb (ngb n S d m) e = true ↔ (∃ w, w < m ∧ nbr n d w = some e) ∧ tb S e = true)
  | 0, _ => by
    show tb 0 e = true ↔ _
    rw [tb_0]
    constructor
    · intro h; cases h
    · rintro ⟨⟨w, h, _⟩, _⟩; omega
  | m + 1, hm => by
    have ih := tb_ngb hn (S := S) hd (e := e) m (by omega)
    show tb (ngb n S d m ||| nb1 n S d m) e = true ↔ _
    rw [tb_or, Bool.or_eq_true, ih, tb_nb1 hn hd (by omega)]
    constructor
    · rintro (⟨⟨w, h1, h2⟩, h3⟩ | ⟨h1, h2⟩)
      · exact ⟨⟨w, by omega, h2⟩, h3⟩
      · exact ⟨⟨m, by omega, h1⟩, h2⟩
    · rintro ⟨⟨w, h1, h2⟩, h3⟩
      rcases Nat.lt_or_ge w m with z | z
      · exact Or.inl ⟨⟨w, z, h2⟩, h3⟩
      · have : w = m := by omega
        subst this
        exact Or.inr ⟨h2, h3⟩
def ngs (n : Nat) (S was : Int64) : Nat → Int64
  | 0 => 0
  | d + 1 => ngs n S was d ||| (if tb was d then ngb n S d 6 else 0)
theorem tb_ngs {n : Nat} (hn : Sz n) {S was : Int64} {e : Nat} : ∀ m, m ≤ n * n * n → (tb (ngs n S was m) e = true ↔ (∃ d, d < m ∧ tb was d = true ∧ adj n d e) ∧ tb S e = true)
  | 0, _ => by
    show tb 0 e = true ↔ _
    rw [tb_0]
    constructor
    · intro h; cases h
    · rintro ⟨⟨w, h, _⟩, _⟩; omega
  | m + 1, hm => by
    have ih := tb_ngs hn (S := S) (was := was) (e := e) m (by omega)
    show tb (ngs n S was m ||| (if tb was m then ngb n S m 6 else 0)) e = true ↔ _
    rw [tb_or, Bool.or_eq_true, ih]
    by_cases q : tb was m = true
    · rw [if_pos q, tb_ngb hn (by omega) 6 (Nat.le_refl _)]
      constructor
      · rintro (⟨⟨w, h1, h2, h4⟩, h3⟩ | ⟨h1, h2⟩)
        · exact ⟨⟨w, by omega, h2, h4⟩, h3⟩
        · exact ⟨⟨m, by omega, q, h1⟩, h2⟩
      · rintro ⟨⟨w, h1, h2, h4⟩, h3⟩
        rcases Nat.lt_or_ge w m with z | z
        · exact Or.inl ⟨⟨w, z, h2, h4⟩, h3⟩
        · have : w = m := by omega
          subst this
          exact Or.inr ⟨h4, h3⟩
    · rw [if_neg q, tb_0]
      constructor
      · rintro (⟨⟨w, h1, h2, h4⟩, h3⟩ | h)
        · exact ⟨⟨w, by omega, h2, h4⟩, h3⟩
        · cases h
      · rintro ⟨⟨w, h1, h2, h4⟩, h3⟩
        rcases Nat.lt_or_ge w m with z | z
        · exact Or.inl ⟨⟨w, z, h2, h4⟩, h3⟩
        · have : w = m := by omega
          subst this
          exact absurd h2 q
theorem ngs_stp {n : Nat} (hn : Sz n) {S x : Int64} (hS : inB n S) (hx : inB n x) : x ||| ngs n S x (n * n * n) = stp n S x := tb_ext fun e _ => by
  rw [Bool.eq_iff_iff, tb_or, Bool.or_eq_true, tb_ngs hn _ (Nat.le_refl _), tb_stp hn]
  constructor
  · rintro (h | ⟨⟨d, h1, h2, h3⟩, h4⟩)
    · exact Or.inl h
    · exact Or.inr ⟨⟨hS e h4, d, adj_sym hn h1 h3, h2⟩, h4⟩
  · rintro (h | ⟨⟨h1, d, h2, h3⟩, h4⟩)
    · exact Or.inl h
    · exact Or.inr ⟨⟨d, hx d h3, h3, adj_sym hn h1 h2⟩, h4⟩
theorem M_hang35 {τ : q_M} {n d : Nat} {S acc was : Int64} {p1 : Int32} (h : MN τ n) (hd : d < n * n * n) (rec8 : Int64 → Int64 → q_M → Option (Int64 × q_M)) (rec23 : Int64 → Int64 → Int32 → q_M → Option (Int64 × q_M)) : fX9_hang_c35 0 p1 S rec8 rec23 q_FU acc was (nI d) 0 τ = rec23 (acc ||| (if tb was d then ngb n S d 6 else 0)) was (nI (d + 1)) τ := by
  have hn := h.1
  have h64 := hn.cube
  cases q : tb was d with
  | false =>
    show fX9_hang_c35b 0 p1 S rec8 rec23 (fX9_hang_c35 0 p1 S rec8 rec23 399) acc was (nI d) 0 τ = _
    unfold fX9_hang_c35b
    rw [M_hasF (by omega) q, bs, if_pos rfl, nI_1, if_neg (by decide), or0]
  | true =>
    rw [if_pos rfl]
    have key := lp_run (fun f (i : Nat) => fX9_hang_c35 0 p1 S rec8 rec23 f (acc ||| ngb n S d i) was (nI d) (nI i) τ) id 6 (rec23 (acc ||| ngb n S d 6) was (nI (d + 1)) τ) ?_ ?_ q_FU (by decide)
    · have e : acc ||| ngb n S d 0 = acc := or0 acc
      have key2 : fX9_hang_c35 0 p1 S rec8 rec23 q_FU (acc ||| ngb n S d 0) was (nI d) (nI 0) τ = _ := key
      rw [e] at key2
      exact key2
    · intro f i hi
      show fX9_hang_c35b 0 p1 S rec8 rec23 (fX9_hang_c35 0 p1 S rec8 rec23 f) (acc ||| ngb n S d i) was (nI d) (nI i) τ = fX9_hang_c35 0 p1 S rec8 rec23 f (acc ||| (ngb n S d i ||| nb1 n S d i)) was (nI d) (nI (i + 1)) τ
      unfold fX9_hang_c35b
      rw [M_hasT (by omega) q, bs, if_neg (show ¬ (1 : Int32) = 0 by decide), if_neg (show ¬ (6 : Int32) ≤ nI i from nI_ge (a := i) (b := 6) hi (by decide)), M_from h hd hi, bs]
      cases z : nbr n d i with
      | none => rw [frm_none z, if_pos rfl, nI_1, nb1_n z, or_as]
      | some e =>
        have he := nbr_lt hn hd hi z
        rw [frm_some z, if_neg (nI_m1 e (by omega)), nb1_s z]
        cases y : tb S e with
        | false => rw [M_hasF (by omega) y, bs, if_pos rfl, nI_1, if_neg (by decide), or_as]
        | true =>
          rw [M_hasT (by omega) y, bs, if_neg (show ¬ (1 : Int32) = 0 by decide), nI_1, if_pos rfl, ql, or_as]
          rfl
    · intro f
      show fX9_hang_c35b 0 p1 S rec8 rec23 (fX9_hang_c35 0 p1 S rec8 rec23 f) (acc ||| ngb n S d 6) was (nI d) (nI 6) τ = _
      unfold fX9_hang_c35b
      rw [M_hasT (by omega) q, bs, if_neg (show ¬ (1 : Int32) = 0 by decide), if_pos (show (6 : Int32) ≤ nI 6 by decide), nI_1]
theorem M_hang23 {τ : q_M} {n : Nat} {S x : Int64} {p1 : Int32} (h : MN τ n) (hS : inB n S) (hx : inB n x) (rec8 : Int64 → Int64 → q_M → Option (Int64 × q_M)) : fX9_hang_c23 0 p1 S rec8 q_FU x x 0 τ = rec8 (stp n S x) x τ := by
  have hn := h.1
  have h64 := hn.cube
  have key := lp_run (fun f (i : Nat) => fX9_hang_c23 0 p1 S rec8 f (x ||| ngs n S x i) x (nI i) τ) id (n * n * n) (rec8 (stp n S x) x τ) ?_ ?_ q_FU (by show _ < 400; omega)
  · have e : x ||| ngs n S x 0 = x := or0 x
    have key2 : fX9_hang_c23 0 p1 S rec8 q_FU (x ||| ngs n S x 0) x (nI 0) τ = _ := key
    rw [e] at key2
    exact key2
  · intro f i hi
    show fX9_hang_c23b 0 p1 S rec8 (fX9_hang_c23 0 p1 S rec8 f) (x ||| ngs n S x i) x (nI i) τ = fX9_hang_c23 0 p1 S rec8 f (x ||| (ngs n S x i ||| (if tb x i then ngb n S i 6 else 0))) x (nI (i + 1)) τ
    unfold fX9_hang_c23b
    rw [M_many h, bs, if_neg (nI_ge hi (by omega)), M_hang35 h hi, or_as]
  · intro f
    show fX9_hang_c23b 0 p1 S rec8 (fX9_hang_c23 0 p1 S rec8 f) (x ||| ngs n S x (n * n * n)) x (nI (n * n * n)) τ = _
    unfold fX9_hang_c23b
    rw [M_many h, bs, if_pos (nI_le (Nat.le_refl _) (by omega)), ngs_stp hn hS hx]
theorem M_hang {τ : q_M} {n c : Nat} {S : Int64} (h : MN τ n) (hS : inB n S) (hc : tb S c = true) : fX9_hang 0 (nI c) S τ = some (part n S (bit c), τ) := by
  have hn := h.1
  have c64 := tb_lt hc
  have sx : sbs (bit c) S := bit_sbs c64 hc
  have key : ∀ d i f, i + d = 64 → d < f → fX9_hang_c8 0 (nI c) S f (itr n S (bit c) (i + 1)) (itr n S (bit c) i) τ = some (part n S (bit c), τ) := by
    intro d
    induction d with
    | zero =>
      intro i f h1 h2
      obtain ⟨f, rfl⟩ : ∃ z, f = z + 1 := ⟨f - 1, by omega⟩
      have : i = 64 := by omega
      subst this
      show fX9_hang_c8b 0 (nI c) S (fX9_hang_c8 0 (nI c) S f) (stp n S (itr n S (bit c) 64)) (itr n S (bit c) 64) τ = _
      unfold fX9_hang_c8b
      rw [itr_64, if_pos rfl]
      rfl
    | succ d ih =>
      intro i f h1 h2
      obtain ⟨f, rfl⟩ : ∃ z, f = z + 1 := ⟨f - 1, by omega⟩
      show fX9_hang_c8b 0 (nI c) S (fX9_hang_c8 0 (nI c) S f) (stp n S (itr n S (bit c) i)) (itr n S (bit c) i) τ = _
      unfold fX9_hang_c8b
      by_cases q : stp n S (itr n S (bit c) i) = itr n S (bit c) i
      · rw [if_pos q, q]
        have := itr_co q (64 - i)
        rw [show i + (64 - i) = 64 by omega] at this
        unfold part
        rw [this]
      · rw [if_neg q]
        have hin : inB n (itr n S (bit c) (i + 1)) := sbs_in (itr_in hn sx (i + 1)) hS
        have := M_hang23 (p1 := nI c) h hS hin (fX9_hang_c8 0 (nI c) S f)
        have e : stp n S (itr n S (bit c) i) = itr n S (bit c) (i + 1) := rfl
        rw [e, this]
        exact ih (i + 1) f (by omega) (by omega)
  unfold fX9_hang
  show fX9_hang_c8b 0 (nI c) S (fX9_hang_c8 0 (nI c) S 399) (bit c) 0 τ = _
  unfold fX9_hang_c8b
  rw [if_neg (bit_n0 c64), M_hang23 h hS (sbs_in sx hS)]
  exact key 64 0 399 (by omega) (by decide)
theorem M_partsOf {τ : q_M} {n : Nat} {S : Int64} (h : MN τ n) (hS : inB n S) : fX9_partsOf 0 S τ = some (nI (cp n S), τ) := by
  have hn := h.1
  have h64 := hn.cube
  have key : ∀ d i f p (L : Int64), i + d = n * n * n → d < f → Sep n L S → (∀ j, j < i → tb L j = false) → fX9_partsOf_c8 0 S f L (nI p) (nI i) τ = some (nI (p + cp n L), τ) := by
    intro d
    induction d with
    | zero =>
      intro i f p L h1 h2 hL hlo
      obtain ⟨f, rfl⟩ : ∃ z, f = z + 1 := ⟨f - 1, by omega⟩
      have : i = n * n * n := by omega
      subst this
      show fX9_partsOf_c8b 0 S (fX9_partsOf_c8 0 S f) L (nI p) (nI (n * n * n)) τ = _
      unfold fX9_partsOf_c8b
      have hz : L = 0 := sbs_eq (fun c hc => by
        rw [hlo c (hS c (hL.1 c hc))] at hc; cases hc) (fun c hc => by rw [tb_0] at hc; cases hc)
      rw [M_many h, bs, if_pos (nI_le (Nat.le_refl _) (by omega)), hz, cp_0]
      rfl
    | succ d ih =>
      intro i f p L h1 h2 hL hlo
      obtain ⟨f, rfl⟩ : ∃ z, f = z + 1 := ⟨f - 1, by omega⟩
      show fX9_partsOf_c8b 0 S (fX9_partsOf_c8 0 S f) L (nI p) (nI i) τ = _
      unfold fX9_partsOf_c8b
      rw [M_many h, bs, if_neg (nI_ge (show i < n * n * n by omega) (by omega))]
      cases q : tb L i with
      | false =>
        rw [M_hasF (by omega) q, bs, if_pos rfl, nI_1]
        refine ih (i + 1) f p L (by omega) (by omega) hL (fun j hj => ?_)
        rcases Nat.lt_or_ge j i with z | z
        · exact hlo j z
        · rw [show j = i by omega]; exact q
      | true =>
        have i64 := tb_lt q
        have sb : sbs (bit i) L := bit_sbs i64 q
        have hl : (L &&& -L) = bit i := tb_low1 i64 q hlo
        have hne : L ≠ 0 := fun z => by rw [z, tb_0] at q; cases q
        have hp := part_sep hn hS hL sb
        rw [M_hasT (by omega) q, bs, if_neg (show ¬ (1 : Int32) = 0 by decide), M_hang h hS (hL.1 i q), bs, ql, nI_1, nI_1, ← hp]
        have hr := ih (i + 1) f (p + 1) (dif L (part n L (bit i))) (by omega) (by omega) (sep_dif hn hS hL sb) (fun j hj => by
          cases z : tb (dif L (part n L (bit i))) j with
          | false => rfl
          | true =>
            obtain ⟨z1, z2⟩ := tb_dif.mp z
            rcases Nat.lt_or_ge j i with y | y
            · rw [hlo j y] at z1; cases z1
            · rw [show j = i by omega, part_up n L (bit i) i ((tb_b i64).mpr rfl)] at z2; cases z2)
        rw [cp_s hne, hl, show p + (1 + cp n (dif L (part n L (bit i)))) = p + 1 + cp n (dif L (part n L (bit i))) by omega]
        exact hr
  unfold fX9_partsOf
  have := key (n * n * n) 0 q_FU 0 S (by omega) (by show _ < 400; omega) (sep_rf S) (fun j hj => by omega)
  rw [Nat.zero_add] at this
  exact this
