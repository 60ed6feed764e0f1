/-! Moves. -/
def b1 (b : Bool) : Int32 := if b then 1 else 0
theorem b1_t : b1 true = 1 := rfl
theorem b1_f : b1 false = 0 := rfl
theorem b1_ne : ¬ (1 : Int32) = 0 := by decide
theorem M_has {x : Int64} {c : Nat} (hc : c < 64) (τ : q_M) : fX9_has x (nI c) τ = some (b1 (tb x c), τ) := by
  cases q : tb x c with
  | false => exact M_hasF hc q τ
  | true => exact M_hasT hc q τ
/-- what a shelf's move is, and which way it goes at a step -/
def Mvk (kd a b : Nat) : Prop := 1 ≤ kd ∧ kd ≤ 5 ∧ a < 6 ∧ b < 6
def wy (kd a b j : Nat) : Nat := if kd = 2 then (if j < 1 then a else b) else if kd = 5 then (if j < 2 then a else b) else a
theorem wy_lt {kd a b : Nat} (h : Mvk kd a b) (j : Nat) : wy kd a b j < 6 := by
  obtain ⟨_, _, h3, h4⟩ := h
  unfold wy
  repeat' split
  all_goals assumption
theorem wy_2 (kd a b j : Nat) : wy kd a b (2 + j) = wy kd a b 2 := by
  unfold wy
  rw [if_neg (show ¬ 2 + j < 1 by omega), if_neg (show ¬ 2 + j < 2 by omega), if_neg (show ¬ 2 < 1 by omega), if_neg (show ¬ 2 < 2 by omega)]
def sq (n kd a b : Nat) (x : Int64) : Nat → Int64
  | 0 => x
  | j + 1 => shf n (wy kd a b j) (sq n kd a b x j)
theorem inB_sq {n kd a b : Nat} {x : Int64} (hx : inB n x) : ∀ j, inB n (sq n kd a b x j)
  | 0 => hx
  | _ + 1 => inB_shf n _ _
theorem sq_shfs {n kd a b : Nat} {x : Int64} : ∀ m, sq n kd a b x (2 + m) = shfs n (wy kd a b 2) (sq n kd a b x 2) m
  | 0 => rfl
  | m + 1 => by
    show shf n (wy kd a b (2 + m)) (sq n kd a b x (2 + m)) = shf n (wy kd a b 2) (shfs n (wy kd a b 2) (sq n kd a b x 2) m)
    rw [wy_2, sq_shfs m]
theorem sq_6 {n kd a b : Nat} {x : Int64} (hn : Sz n) (h : Mvk kd a b) (hx : inB n x) : sq n kd a b x 6 = 0 := by
  rw [show (6 : Nat) = 2 + 4 from rfl, sq_shfs]
  exact shfs_0 hn (wy_lt h 2) (inB_sq hx 2) hn.le
def rs (n kd a b : Nat) (x o : Int64) : Nat → Nat → Bool
  | 0, _ => true
  | d + 1, j => if sq n kd a b x j = 0 then true else if (sq n kd a b x (j + 1) &&& o) = 0 then rs n kd a b x o d (j + 1) else false
/-- a move, as the program keeps it -/
def Mv (σ : q_M) (k kd a b : Nat) : Prop := Mvk kd a b ∧ σ.1 k 0 = nI kd ∧ σ.1 k 1 = nI a ∧ σ.1 k 2 = nI b
theorem kd_ne {kd m : Nat} (h1 : kd ≤ 5) (h2 : m ≤ 5) (h : kd ≠ m) : ¬ nI kd = nI m := fun z => h ((nI_eq (by omega) (by omega)).mp z)
theorem X3_wayAt {σ : q_M} {k kd a b j : Nat} (h : Mv σ k kd a b) (hj : j < 100) : fX3_wayAt k (nI (j + 1)) σ = some (nI (wy kd a b j), σ) := by
  obtain ⟨hk, h0, h1, h2⟩ := h
  obtain ⟨_, k5, _, _⟩ := hk
  unfold fX3_wayAt wy
  rw [h0, h1, h2]
  by_cases q2 : kd = 2
  · subst q2
    rw [if_pos (show nI 2 = 2 from rfl), if_pos rfl]
    by_cases z : j < 1
    · rw [if_pos z, if_neg (show ¬ (1 : Int32) < nI (j + 1) from nI_nlt (a := 1) (b := j + 1) (by omega) (by omega))]
    · rw [if_neg z, if_pos (show (1 : Int32) < nI (j + 1) from nI_lt (a := 1) (b := j + 1) (by omega) (by omega))]
  · rw [if_neg (show ¬ nI kd = 2 from kd_ne k5 (by decide) q2), if_neg q2]
    by_cases q5 : kd = 5
    · subst q5
      rw [if_pos (show nI 5 = 5 from rfl), if_pos rfl]
      by_cases z : j < 2
      · rw [if_pos z, if_neg (show ¬ (2 : Int32) < nI (j + 1) from nI_nlt (a := 2) (b := j + 1) (by omega) (by omega))]
      · rw [if_neg z, if_pos (show (2 : Int32) < nI (j + 1) from nI_lt (a := 2) (b := j + 1) (by omega) (by omega))]
    · rw [if_neg (show ¬ nI kd = 5 from kd_ne k5 (by decide) q5), if_neg q5]
theorem X3_steps {σ : q_M} {k k1 n kd a b : Nat} {x o p2 : Int64} (B : Blk σ k1 n) (h : Mv σ k kd a b) (hx : inB n x) : ∀ d j f, j + d = 6 → d < f → fX3_takes_c23 k k1 p2 o f (sq n kd a b x j) (nI (j + 1)) σ = some (b1 (rs n kd a b x o d j), σ) := by
  intro d
  induction d with
  | zero =>
    intro j f h1 h2
    obtain ⟨f, rfl⟩ : ∃ z, f = z + 1 := ⟨f - 1, by omega⟩
    have : j = 6 := by omega
    subst this
    show fX3_takes_c23b k k1 p2 o (fX3_takes_c23 k k1 p2 o f) (sq n kd a b x 6) (nI 7) σ = _
    unfold fX3_takes_c23b
    rw [if_neg (show ¬ (9 : Int32) < nI 7 by decide), if_pos (sq_6 B.1 h.1 hx)]
    rfl
  | succ d ih =>
    intro j f h1 h2
    obtain ⟨f, rfl⟩ : ∃ z, f = z + 1 := ⟨f - 1, by omega⟩
    show fX3_takes_c23b k k1 p2 o (fX3_takes_c23 k k1 p2 o f) (sq n kd a b x j) (nI (j + 1)) σ = some (b1 (if sq n kd a b x j = 0 then true else if (sq n kd a b x (j + 1) &&& o) = 0 then rs n kd a b x o d (j + 1) else false), σ)
    unfold fX3_takes_c23b
    rw [if_neg (show ¬ (9 : Int32) < nI (j + 1) from nI_nlt (a := 9) (b := j + 1) (by omega) (by omega))]
    by_cases q : sq n kd a b x j = 0
    · rw [if_pos q, if_pos q]
      rfl
    · rw [if_neg q, if_neg q, X3_wayAt h (by omega), bs, X0_shifted B (wy_lt h.1 j) (inB_sq hx j), bs]
      show (if (sq n kd a b x (j + 1) &&& o) = 0 then fX3_takes_c23 k k1 p2 o f (sq n kd a b x (j + 1)) (nI (j + 1) + 1) σ else some (0, σ)) = _
      by_cases z : (sq n kd a b x (j + 1) &&& o) = 0
      · rw [if_pos z, if_pos z, nI_1]
        exact ih (j + 1) f (by omega) (by omega)
      · rw [if_neg z, if_neg z]
        rfl
/-- whether a set suits a move -/
def suit (n kd a : Nat) (x : Int64) (l : Nat) : Bool := if kd = 3 then decide (dif x (rwL n l (a / 2)) = 0) else if kd = 4 then !decide ((x &&& endL n a) = 0) else true
theorem X3_suits {σ : q_M} {k k1 n kd a b l : Nat} {x : Int64} (B : Blk σ k1 n) (h : Mv σ k kd a b) (hl : l < n * n * n) (hlow : (x &&& -x) = bit l) : fX3_suits k k1 x σ = some (b1 (suit n kd a x l), σ) := by
  obtain ⟨hk, h0, h1, h2⟩ := h
  obtain ⟨_, k5, a6, _⟩ := hk
  unfold fX3_suits suit
  rw [h0, h1]
  by_cases q3 : kd = 3
  · subst q3
    rw [if_pos (show nI 3 = 3 from rfl), if_pos rfl, hlow, show q_sr (nI a) 1 = nI (a / 2) from (by decide +kernel : ∀ w, w < 6 → q_sr (nI w) 1 = nI (w / 2)) a a6, X0_rowThrough B hl (by omega), bs]
    by_cases z : dif x (rwL n l (a / 2)) = 0
    · have z2 : (x &&& (rwL n l (a / 2) ^^^ (-1))) = 0 := z
      rw [if_pos z2, decide_eq_true z]
      rfl
    · have z2 : ¬ (x &&& (rwL n l (a / 2) ^^^ (-1))) = 0 := z
      rw [if_neg z2, decide_eq_false z]
      rfl
  · rw [if_neg (show ¬ nI kd = 3 from kd_ne k5 (by decide) q3), if_neg q3]
    by_cases q4 : kd = 4
    · subst q4
      rw [if_pos (show nI 4 = 4 from rfl), if_pos rfl]
      unfold fX0_endTowards
      rw [gd a6 (by decide), nI_clamp (by omega), B.2.2.2.2.2.2 a a6, bs]
      by_cases z : (x &&& endL n a) = 0
      · rw [if_pos z, decide_eq_true z]
        rfl
      · rw [if_neg z, decide_eq_false z]
        rfl
    · rw [if_neg (show ¬ nI kd = 4 from kd_ne k5 (by decide) q4), if_neg q4]
      rfl
/-- whether a set comes by a move past others -/
def mvT (n kd a b : Nat) (x o : Int64) : Bool := if x = 0 then true else suit n kd a x ((List.range 64).findIdx (tb x)) && rs n kd a b x o 6 0
theorem fI_go {p : Nat → Bool} {l : Nat} (h : p l = true) (hlo : ∀ j, j < l → p j = false) (m : Nat) (hl : l < m) : (List.range m).findIdx p = l := by
  have hlen : l < (List.range m).length := by rw [List.length_range]; exact hl
  rw [List.findIdx_eq hlen]
  refine ⟨by rw [List.getElem_range]; exact h, fun j hj => ?_⟩
  rw [List.getElem_range]
  rw [hlo j hj]
theorem X3_takes {σ : q_M} {k k1 n kd a b : Nat} {x o : Int64} (B : Blk σ k1 n) (h : Mv σ k kd a b) (hx : inB n x) : fX3_takes k k1 x o σ = some (b1 (mvT n kd a b x o), σ) := by
  have hst : fX3_takes_c23 k k1 x o q_FU x 1 σ = some (b1 (rs n kd a b x o 6 0), σ) := X3_steps B h hx 6 0 q_FU rfl (by decide)
  unfold fX3_takes mvT
  by_cases q : x = 0
  · rw [if_pos q, if_pos q, hst]
    show some (b1 (if sq n kd a b x 0 = 0 then true else _), σ) = _
    rw [if_pos (show sq n kd a b x 0 = 0 from q)]
  · obtain ⟨l, l1, l2, l3, l4⟩ := low_bit q
    rw [if_neg q, if_neg q, fI_go l2 l3 64 l1, X3_suits B h (hx l l2) l4, bs]
    cases z : suit n kd a x l with
    | false => rw [b1_f, if_pos rfl]; rfl
    | true => rw [b1_t, if_neg b1_ne, hst]; rfl
/-- a move, as the reference keeps it -/
def MM (τ : q_M) (s kd a b : Nat) : Prop := Mvk kd a b ∧ s < 8 ∧ τ.1 6 s = nI kd ∧ τ.1 7 s = nI a ∧ τ.1 8 s = nI b
def fst (kd : Nat) : Nat := if kd = 2 then 1 else if kd = 5 then 2 else 0
theorem M_steps {τ : q_M} {s n kd a b : Nat} {x o p2 : Int64} (hN : MN τ n) (h : MM τ s kd a b) (hx : inB n x) : ∀ d j f, j + d = 6 → d < f → fX9_comesBy_c87 0 (nI s) p2 o f (nI a) (nI (fst kd)) (sq n kd a b x j) (nI j) τ = some (b1 (rs n kd a b x o d j), τ) := by
  obtain ⟨hk, hs, h0, h1, h2⟩ := h
  intro d
  induction d with
  | zero =>
    intro j f e1 e2
    obtain ⟨f, rfl⟩ : ∃ z, f = z + 1 := ⟨f - 1, by omega⟩
    have : j = 6 := by omega
    subst this
    show fX9_comesBy_c87b 0 (nI s) p2 o (fX9_comesBy_c87 0 (nI s) p2 o f) (nI a) (nI (fst kd)) (sq n kd a b x 6) (nI 6) τ = _
    unfold fX9_comesBy_c87b
    rw [if_pos (sq_6 hN.1 hk hx)]
    rfl
  | succ d ih =>
    intro j f e1 e2
    obtain ⟨f, rfl⟩ : ∃ z, f = z + 1 := ⟨f - 1, by omega⟩
    show fX9_comesBy_c87b 0 (nI s) p2 o (fX9_comesBy_c87 0 (nI s) p2 o f) (nI a) (nI (fst kd)) (sq n kd a b x j) (nI j) τ = some (b1 (if sq n kd a b x j = 0 then true else if (sq n kd a b x (j + 1) &&& o) = 0 then rs n kd a b x o d (j + 1) else false), τ)
    unfold fX9_comesBy_c87b
    by_cases q : sq n kd a b x j = 0
    · rw [if_pos q, if_pos q]
      rfl
    · rw [if_neg q, if_neg q]
      have h120 : fX9_comesBy_c120 0 (nI s) p2 o (fX9_comesBy_c87 0 (nI s) p2 o f) (nI a) (nI (fst kd)) (nI j) (nI (wy kd a b j)) (sq n kd a b x j) τ = some (b1 (if (sq n kd a b x (j + 1) &&& o) = 0 then rs n kd a b x o d (j + 1) else false), τ) := by
        unfold fX9_comesBy_c120
        rw [M_onFrom hN (wy_lt hk j), bs]
        show (if (sq n kd a b x (j + 1) &&& o) = 0 then fX9_comesBy_c87 0 (nI s) p2 o f (nI a) (nI (fst kd)) (sq n kd a b x (j + 1)) (nI j + 1) τ else some (0, τ)) = _
        by_cases z : (sq n kd a b x (j + 1) &&& o) = 0
        · rw [if_pos z, if_pos z, nI_1]
          exact ih (j + 1) f (by omega) (by omega)
        · rw [if_neg z, if_neg z]
          rfl
      have hf2 : fst kd ≤ 2 := by unfold fst; repeat' split
                                  all_goals omega
      by_cases z : j < fst kd
      · rw [if_pos (nI_lt z (by omega))]
        rw [show wy kd a b j = a from by
          unfold wy; unfold fst at z
          by_cases q2 : kd = 2
          · rw [if_pos q2] at z ⊢; rw [if_pos z]
          · rw [if_neg q2] at z ⊢
            by_cases q5 : kd = 5
            · rw [if_pos q5] at z ⊢; rw [if_pos z]
            · rw [if_neg q5]] at h120
        exact h120
      · rw [if_neg (nI_nlt (by omega) (by omega))]
        by_cases y : fst kd = 0
        · rw [if_pos (show nI (fst kd) = 0 by rw [y]; rfl)]
          rw [show wy kd a b j = a from by
            unfold wy; unfold fst at y
            by_cases q2 : kd = 2
            · rw [if_pos q2] at y; omega
            · rw [if_neg q2] at y ⊢
              by_cases q5 : kd = 5
              · rw [if_pos q5] at y; omega
              · rw [if_neg q5]] at h120
          exact h120
        · rw [if_neg (nI_ne0 (by omega) (by omega)), gd hs (by decide), nI_clamp (by omega), show (0 : Nat) + 8 = 8 from rfl, h2]
          rw [show wy kd a b j = b from by
            unfold wy; unfold fst at y z
            by_cases q2 : kd = 2
            · rw [if_pos q2] at z ⊢; rw [if_neg z]
            · rw [if_neg q2] at z y ⊢
              by_cases q5 : kd = 5
              · rw [if_pos q5] at z ⊢; rw [if_neg z]
              · rw [if_neg q5] at y; omega] at h120
          exact h120
/-- the reference's row -/
theorem M_inRow42 {τ : q_M} {n l c w : Nat} {x : Int64} (h : MN τ n) (hl : l < n * n * n) (hc : c < n * n * n) (hw : w < 6) (rec6 : Int32 → Int32 → q_M → Option (Int32 × q_M)) : fX9_isInRow_c42 0 x (nI w) rec6 q_FU (nI l) (nI c) 0 τ = if inRw n l (w / 2) c then rec6 (nI l) (nI (c + 1)) τ else some (0, τ) := by
  have h64 := h.1.cube
  have w2 : nI w / 2 = nI (w / 2) := (by decide +kernel : ∀ w, w < 6 → nI w / 2 = nI (w / 2)) w hw
  have stp : ∀ f i, i < 3 → fX9_isInRow_c42 0 x (nI w) rec6 (f + 1) (nI l) (nI c) (nI i) τ = if (decide (w / 2 = i) || decide (side n c i = side n l i)) then fX9_isInRow_c42 0 x (nI w) rec6 f (nI l) (nI c) (nI (i + 1)) τ else some (0, τ) := by
    intro f i hi
    show fX9_isInRow_c42b 0 x (nI w) rec6 (fX9_isInRow_c42 0 x (nI w) rec6 f) (nI l) (nI c) (nI i) τ = _
    have s1 := side_lt h.1 hc hi
    have s2 := side_lt h.1 hl hi
    have n4 := h.1.le
    unfold fX9_isInRow_c42b
    rw [if_neg (show ¬ (3 : Int32) ≤ nI i from nI_ge (a := i) (b := 3) hi (by decide)), w2]
    by_cases q : w / 2 = i
    · rw [if_pos (show nI i = nI (w / 2) by rw [q]), nI_1, decide_eq_true q, Bool.true_or, if_pos rfl]
    · rw [if_neg (fun z => q ((nI_eq (by omega) (by omega)).mp z).symm), M_side h (by omega) hi, bs, M_side h (by omega) hi, bs, decide_eq_false q, Bool.false_or]
      by_cases z : side n c i = side n l i
      · rw [if_pos (show nI (side n c i) = nI (side n l i) by rw [z]), decide_eq_true z, if_pos rfl, nI_1]
      · rw [if_neg (fun y => z ((nI_eq (by omega) (by omega)).mp y)), decide_eq_false z, if_neg (by decide)]
  have fin : ∀ f, fX9_isInRow_c42 0 x (nI w) rec6 (f + 1) (nI l) (nI c) (nI 3) τ = rec6 (nI l) (nI (c + 1)) τ := by
    intro f
    show fX9_isInRow_c42b 0 x (nI w) rec6 (fX9_isInRow_c42 0 x (nI w) rec6 f) (nI l) (nI c) (nI 3) τ = _
    unfold fX9_isInRow_c42b
    rw [if_pos (show (3 : Int32) ≤ nI 3 by decide), nI_1]
  have e0 := stp 399 0 (by decide)
  have e1 := stp 398 1 (by decide)
  have e2 := stp 397 2 (by decide)
  have e3 := fin 396
  have e0' : fX9_isInRow_c42 0 x (nI w) rec6 q_FU (nI l) (nI c) 0 τ = _ := e0
  rw [e0', e1, e2, e3]
  unfold inRw
  cases (decide (w / 2 = 0) || decide (side n c 0 = side n l 0)) <;> cases (decide (w / 2 = 1) || decide (side n c 1 = side n l 1)) <;> cases (decide (w / 2 = 2) || decide (side n c 2 = side n l 2)) <;> rfl
def alw (n : Nat) (x : Int64) (l a2 : Nat) : Nat → Nat → Bool
  | 0, _ => true
  | d + 1, i => (!tb x i || inRw n l a2 i) && alw n x l a2 d (i + 1)
theorem alw_iff {n : Nat} {x : Int64} {l a2 : Nat} : ∀ d i, (alw n x l a2 d i = true ↔ ∀ c, i ≤ c → c < i + d → tb x c = true → inRw n l a2 c = true)
  | 0, i => ⟨fun _ c h1 h2 => by omega, fun _ => rfl⟩
  | d + 1, i => by
    have ih := alw_iff (n := n) (x := x) (l := l) (a2 := a2) d (i + 1)
    show ((!tb x i || inRw n l a2 i) && alw n x l a2 d (i + 1)) = true ↔ _
    rw [Bool.and_eq_true, ih]
    constructor
    · rintro ⟨h1, h2⟩ c e1 e2 e3
      rcases Nat.lt_or_ge i c with z | z
      · exact h2 c (by omega) (by omega) e3
      · have : c = i := by omega
        subst this
        rw [e3] at h1
        simpa using h1
    · intro h
      refine ⟨?_, fun c e1 e2 e3 => h c (by omega) (by omega) e3⟩
      cases q : tb x i with
      | false => rfl
      | true => rw [h i (Nat.le_refl _) (by omega) q]; rfl
theorem M_isInRow {τ : q_M} {n l w : Nat} {x : Int64} (h : MN τ n) (hx : inB n x) (hw : w < 6) (hl : tb x l = true) (hlo : ∀ j, j < l → tb x j = false) : fX9_isInRow 0 x (nI w) τ = some (b1 (decide (dif x (rwL n l (w / 2)) = 0)), τ) := by
  have hn := h.1
  have h64 := hn.cube
  have l3 := hx l hl
  have key : ∀ d i f, i + d = n * n * n → d < f → fX9_isInRow_c6 0 x (nI w) f (nI l) (nI i) τ = some (b1 (alw n x l (w / 2) d i), τ) := by
    intro d
    induction d with
    | zero =>
      intro i f e1 e2
      obtain ⟨f, rfl⟩ : ∃ z, f = z + 1 := ⟨f - 1, by omega⟩
      have : i = n * n * n := by omega
      subst this
      show fX9_isInRow_c6b 0 x (nI w) (fX9_isInRow_c6 0 x (nI w) f) (nI l) (nI (n * n * n)) τ = _
      unfold fX9_isInRow_c6b
      rw [M_many h, bs, if_pos (nI_le (Nat.le_refl _) (by omega))]
      rfl
    | succ d ih =>
      intro i f e1 e2
      obtain ⟨f, rfl⟩ : ∃ z, f = z + 1 := ⟨f - 1, by omega⟩
      have hi : i < n * n * n := by omega
      show fX9_isInRow_c6b 0 x (nI w) (fX9_isInRow_c6 0 x (nI w) f) (nI l) (nI i) τ = some (b1 ((!tb x i || inRw n l (w / 2) i) && alw n x l (w / 2) d (i + 1)), τ)
      unfold fX9_isInRow_c6b
      rw [M_many h, bs, if_neg (nI_ge hi (by omega))]
      cases q : tb x i with
      | false =>
        rw [M_hasF (by omega) q, bs, if_pos rfl, nI_1, ih (i + 1) f (by omega) (by omega)]
        rfl
      | true =>
        rw [M_hasT (by omega) q, bs, if_neg b1_ne, if_neg (nI_m1 l (by omega)), M_inRow42 h l3 hi hw]
        cases z : inRw n l (w / 2) i with
        | false => rw [if_neg (by decide)]; rfl
        | true => rw [if_pos rfl, ih (i + 1) f (by omega) (by omega)]; rfl
  have key1 : ∀ d i f, i + d = l → n * n * n - i < f → fX9_isInRow_c6 0 x (nI w) f (-1) (nI i) τ = some (b1 (alw n x l (w / 2) (n * n * n - l) l), τ) := by
    intro d
    induction d with
    | zero =>
      intro i f e1 e2
      obtain ⟨f, rfl⟩ : ∃ z, f = z + 1 := ⟨f - 1, by omega⟩
      have : i = l := by omega
      subst this
      show fX9_isInRow_c6b 0 x (nI w) (fX9_isInRow_c6 0 x (nI w) f) (-1) (nI i) τ = _
      unfold fX9_isInRow_c6b
      have hr : inRw n i (w / 2) i = true := inRw_iff.mpr fun b _ _ => rfl
      rw [M_many h, bs, if_neg (nI_ge l3 (by omega)), M_hasT (by omega) hl, bs, if_neg b1_ne, if_pos rfl, M_inRow42 h l3 l3 hw, if_pos hr, key (n * n * n - i - 1) (i + 1) f (by omega) (by omega)]
      obtain ⟨e, he⟩ : ∃ e, n * n * n - i = e + 1 := ⟨n * n * n - i - 1, by omega⟩
      rw [he, show e + 1 - 1 = e from rfl]
      show _ = some (b1 ((!tb x i || inRw n i (w / 2) i) && alw n x i (w / 2) e (i + 1)), τ)
      rw [hr, Bool.or_true, Bool.true_and]
    | succ d ih =>
      intro i f e1 e2
      obtain ⟨f, rfl⟩ : ∃ z, f = z + 1 := ⟨f - 1, by omega⟩
      show fX9_isInRow_c6b 0 x (nI w) (fX9_isInRow_c6 0 x (nI w) f) (-1) (nI i) τ = _
      unfold fX9_isInRow_c6b
      rw [M_many h, bs, if_neg (nI_ge (show i < n * n * n by omega) (by omega)), M_hasF (by omega) (hlo i (by omega)), bs, if_pos rfl, nI_1]
      exact ih (i + 1) f (by omega) (by omega)
  have e : alw n x l (w / 2) (n * n * n - l) l = decide (dif x (rwL n l (w / 2)) = 0) := by
    rw [Bool.eq_iff_iff, decide_eq_true_iff, alw_iff, dif_0]
    constructor
    · intro hh c hc
      have hcn := hx c hc
      rw [tb_rwL hn, decide_eq_true hcn, Bool.true_and]
      refine hh c ?_ (by omega) hc
      rcases Nat.lt_or_ge c l with z | z
      · rw [hlo c z] at hc; cases hc
      · exact z
    · intro hh c e1 e2 e3
      have := hh c e3
      rw [tb_rwL hn, Bool.and_eq_true] at this
      exact this.2
  unfold fX9_isInRow
  rw [← e]
  exact key1 l 0 q_FU (by omega) (by show _ < 400; omega)
theorem tb_endL {n : Nat} (hn : Sz n) {c w : Nat} (hw : w < 6) (hc : c < n * n * n) : tb (endL n w) c = (nbr n c w).isNone := by
  have h := side_lt hn hc (show w / 2 < 3 by omega)
  unfold endL nbr
  by_cases q : w % 2 = 0
  · rw [if_pos q, if_pos q, tb_layL hn, decide_eq_true hc, Bool.true_and]
    by_cases z : side n c (w / 2) + 1 < n
    · rw [if_pos z, decide_eq_false (by omega)]; rfl
    · rw [if_neg z, decide_eq_true (by omega)]; rfl
  · rw [if_neg q, if_neg q, tb_layL hn, decide_eq_true hc, Bool.true_and]
    by_cases z : 0 < side n c (w / 2)
    · rw [if_pos z, decide_eq_false (by omega)]; rfl
    · rw [if_neg z, decide_eq_true (by omega)]; rfl
def anE (n : Nat) (x : Int64) (w : Nat) : Nat → Nat → Bool
  | 0, _ => false
  | d + 1, i => (tb x i && (nbr n i w).isNone) || anE n x w d (i + 1)
theorem anE_iff {n : Nat} {x : Int64} {w : Nat} : ∀ d i, (anE n x w d i = true ↔ ∃ c, i ≤ c ∧ c < i + d ∧ tb x c = true ∧ (nbr n c w).isNone = true)
  | 0, i => by
    constructor
    · intro h; cases h
    · rintro ⟨c, h1, h2, _⟩; omega
  | d + 1, i => by
    have ih := anE_iff (n := n) (x := x) (w := w) d (i + 1)
    show ((tb x i && (nbr n i w).isNone) || anE n x w d (i + 1)) = true ↔ _
    rw [Bool.or_eq_true, Bool.and_eq_true, ih]
    constructor
    · rintro (⟨h1, h2⟩ | ⟨c, h1, h2, h3, h4⟩)
      · exact ⟨i, Nat.le_refl _, by omega, h1, h2⟩
      · exact ⟨c, by omega, by omega, h3, h4⟩
    · rintro ⟨c, h1, h2, h3, h4⟩
      rcases Nat.lt_or_ge i c with z | z
      · exact Or.inr ⟨c, by omega, by omega, h3, h4⟩
      · have : c = i := by omega
        subst this
        exact Or.inl ⟨h3, h4⟩
theorem M_isAtEnd {τ : q_M} {n w : Nat} {x : Int64} (h : MN τ n) (hx : inB n x) (hw : w < 6) : fX9_isAtEnd 0 x (nI w) τ = some (b1 (!decide ((x &&& endL n w) = 0)), τ) := by
  have hn := h.1
  have h64 := hn.cube
  have key : ∀ d i f, i + d = n * n * n → d < f → fX9_isAtEnd_c3 0 x (nI w) f (nI i) τ = some (b1 (anE n x w d i), τ) := by
    intro d
    induction d with
    | zero =>
      intro i f e1 e2
      obtain ⟨f, rfl⟩ : ∃ z, f = z + 1 := ⟨f - 1, by omega⟩
      have : i = n * n * n := by omega
      subst this
      show fX9_isAtEnd_c3b 0 x (nI w) (fX9_isAtEnd_c3 0 x (nI w) f) (nI (n * n * n)) τ = _
      unfold fX9_isAtEnd_c3b
      rw [M_many h, bs, if_pos (nI_le (Nat.le_refl _) (by omega))]
      rfl
    | succ d ih =>
      intro i f e1 e2
      obtain ⟨f, rfl⟩ : ∃ z, f = z + 1 := ⟨f - 1, by omega⟩
      have hi : i < n * n * n := by omega
      show fX9_isAtEnd_c3b 0 x (nI w) (fX9_isAtEnd_c3 0 x (nI w) f) (nI i) τ = some (b1 ((tb x i && (nbr n i w).isNone) || anE n x w d (i + 1)), τ)
      unfold fX9_isAtEnd_c3b
      rw [M_many h, bs, if_neg (nI_ge hi (by omega))]
      cases q : tb x i with
      | false =>
        rw [M_hasF (by omega) q, bs, if_pos rfl, nI_1, ih (i + 1) f (by omega) (by omega)]
        rfl
      | true =>
        rw [M_hasT (by omega) q, bs, if_neg b1_ne, M_from h hi hw, bs]
        cases z : nbr n i w with
        | none => rw [frm_none z, if_pos rfl]; rfl
        | some e =>
          have he := nbr_lt hn hi hw z
          rw [frm_some z, if_neg (nI_m1 e (by omega)), nI_1, ih (i + 1) f (by omega) (by omega)]
          rfl
  have e : anE n x w (n * n * n) 0 = !decide ((x &&& endL n w) = 0) := by
    rw [Bool.eq_iff_iff, anE_iff]
    simp only [Bool.not_eq_true', decide_eq_false_iff_not]
    rw [and_0]
    constructor
    · rintro ⟨c, _, h2, h3, h4⟩ hh
      have := hh c h3
      rw [tb_endL hn hw (by omega), h4] at this
      cases this
    · intro hh
      rcases Classical.em (∃ c, 0 ≤ c ∧ c < 0 + n * n * n ∧ tb x c = true ∧ (nbr n c w).isNone = true) with q | q
      · exact q
      · refine absurd (fun c hc => ?_) hh
        have hcn := hx c hc
        rw [tb_endL hn hw hcn]
        cases z : (nbr n c w).isNone with
        | false => rfl
        | true => exact absurd ⟨c, by omega, by omega, hc, z⟩ q
  unfold fX9_isAtEnd
  rw [← e]
  exact key (n * n * n) 0 q_FU (by omega) (by show _ < 400; omega)
theorem M_comesBy {τ : q_M} {n s kd a b : Nat} {x o : Int64} (hN : MN τ n) (h : MM τ s kd a b) (hx : inB n x) : fX9_comesBy 0 (nI s) x o τ = some (b1 (mvT n kd a b x o), τ) := by
  have hst := M_steps (p2 := x) (o := o) hN h hx 6 0 q_FU rfl (by decide)
  obtain ⟨hk, hs, h0, h1, h2⟩ := h
  obtain ⟨k1, k5, a6, b6⟩ := hk
  have h58 : fX9_comesBy_c58 0 (nI s) x o (nI kd) (nI a) τ = some (b1 (rs n kd a b x o 6 0), τ) := by
    unfold fX9_comesBy_c58
    by_cases q2 : kd = 2
    · subst q2
      rw [if_pos (show nI 2 = 2 from rfl)]
      exact hst
    · rw [if_neg (show ¬ nI kd = 2 from kd_ne k5 (by decide) q2)]
      by_cases q5 : kd = 5
      · subst q5
        rw [if_pos (show nI 5 = 5 from rfl)]
        exact hst
      · rw [if_neg (show ¬ nI kd = 5 from kd_ne k5 (by decide) q5)]
        have : fst kd = 0 := by unfold fst; rw [if_neg q2, if_neg q5]
        rw [this] at hst
        exact hst
  unfold fX9_comesBy mvT
  rw [gd hs (by decide), ql, gd hs (by decide), ql, nI_clamp (by omega), show (0 : Nat) + 6 = 6 from rfl, show (0 : Nat) + 7 = 7 from rfl, h0, h1]
  by_cases q : x = 0
  · rw [if_pos q, if_pos q]
    rfl
  · obtain ⟨l, l1, l2, l3, l4⟩ := low_bit q
    rw [if_neg q, if_neg q, fI_go l2 l3 64 l1]
    unfold suit
    by_cases q3 : kd = 3
    · subst q3
      rw [if_pos (show nI 3 = 3 from rfl), if_pos rfl, M_isInRow hN hx a6 l2 l3, bs]
      cases z : decide (dif x (rwL n l (a / 2)) = 0) with
      | false => rw [b1_f, if_pos rfl]; rfl
      | true =>
        rw [b1_t, if_neg b1_ne]
        unfold fX9_comesBy_c40
        rw [if_neg (show ¬ nI 3 = 4 by decide), h58]
        rfl
    · rw [if_neg (show ¬ nI kd = 3 from kd_ne k5 (by decide) q3), if_neg q3]
      unfold fX9_comesBy_c40
      by_cases q4 : kd = 4
      · subst q4
        rw [if_pos (show nI 4 = 4 from rfl), if_pos rfl, M_isAtEnd hN hx a6, bs]
        cases z : decide ((x &&& endL n a) = 0) with
        | true => rw [if_pos (show b1 (!true) = 0 from rfl)]; rfl
        | false =>
          rw [if_neg (show ¬ b1 (!false) = 0 from b1_ne), h58]
          rfl
      · rw [if_neg (show ¬ nI kd = 4 from kd_ne k5 (by decide) q4), if_neg q4, h58]
        rfl
theorem X3_carried {σ : q_M} {k k1 n kd a b m : Nat} {x : Int64} (B : Blk σ k1 n) (h : Mv σ k kd a b) (hx : inB n x) (hm : m ≤ 9) : fX3_carried k k1 x (nI m) σ = some (sq n kd a b x m, σ) := by
  unfold fX3_carried
  refine lp_run (fun f (i : Nat) => fX3_carried_c6 k k1 x (nI m) f (sq n kd a b x i) (nI (i + 1)) σ) id m _ ?_ ?_ q_FU (by show _ < 400; omega)
  · intro f i hi
    show fX3_carried_c6b k k1 x (nI m) (fX3_carried_c6 k k1 x (nI m) f) (sq n kd a b x i) (nI (i + 1)) σ = _
    unfold fX3_carried_c6b
    rw [if_neg (nI_nlt (show i + 1 ≤ m by omega) (by omega)), X3_wayAt h (by omega), bs, X0_shifted B (wy_lt h.1 i) (inB_sq hx i), bs, nI_1]
    rfl
  · intro f
    show fX3_carried_c6b k k1 x (nI m) (fX3_carried_c6 k k1 x (nI m) f) (sq n kd a b x m) (nI (m + 1)) σ = _
    unfold fX3_carried_c6b
    rw [if_pos (nI_lt (show m < m + 1 by omega) (by omega))]
